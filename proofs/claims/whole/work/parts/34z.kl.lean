theorem k_140_0 : cod 140 0 = some (.inr (2, 0, 6, 0, 0), 3) := rfl
theorem k_140_3 : cod 140 3 = some (.inl .dup, 1) := rfl
theorem k_140_4 : cod 140 4 = some (.inr (17, 0, 1, 2, 0), 3) := rfl
theorem k_140_7 : cod 140 7 = some (.inl (.astore_n 1), 1) := rfl
theorem k_140_8 : cod 140 8 = some (.inr (2, 9, 29, 0, 0), 3) := rfl
theorem k_140_11 : cod 140 11 = some (.inl .dup, 1) := rfl
theorem k_140_12 : cod 140 12 = some (.inr (17, 101, 1, 2, 0), 3) := rfl
theorem k_140_15 : cod 140 15 = some (.inl (.astore_n 2), 1) := rfl
theorem k_140_16 : cod 140 16 = some (.inl (.iconst 1), 1) := rfl
theorem k_140_17 : cod 140 17 = some (.inl (.newarray .long), 2) := rfl
theorem k_140_19 : cod 140 19 = some (.inl (.astore_n 3), 1) := rfl
theorem k_140_20 : cod 140 20 = some (.inl (.iconst 0), 1) := rfl
theorem k_140_21 : cod 140 21 = some (.inl (.istore 4), 2) := rfl
theorem k_140_23 : cod 140 23 = some (.inl (.iload 4), 2) := rfl
theorem k_140_25 : cod 140 25 = some (.inl (.aload_n 0), 1) := rfl
theorem k_140_26 : cod 140 26 = some (.inl .arraylength, 1) := rfl
theorem k_140_27 : cod 140 27 = some (.inl (.iconst 5), 1) := rfl
theorem k_140_28 : cod 140 28 = some (.inl .isub, 1) := rfl
theorem k_140_29 : cod 140 29 = some (.inl (.if_icmp .gt 1121), 3) := rfl
theorem k_140_32 : cod 140 32 = some (.inl (.aload_n 0), 1) := rfl
theorem k_140_33 : cod 140 33 = some (.inl (.iload 4), 2) := rfl
theorem k_140_35 : cod 140 35 = some (.inl .iaload, 1) := rfl
theorem k_140_36 : cod 140 36 = some (.inl (.bipush 15), 2) := rfl
theorem k_140_38 : cod 140 38 = some (.inl .iand, 1) := rfl
theorem k_140_39 : cod 140 39 = some (.inl (.tableswitch 1105 0 15 #[77, 113, 197, 253, 320, 412, 500, 580, 660, 716, 752, 820, 888, 956, 1024, 1080]), 77) := rfl
theorem k_140_116 : cod 140 116 = some (.inl (.aload_n 1), 1) := rfl
theorem k_140_117 : cod 140 117 = some (.inl (.aload_n 0), 1) := rfl
theorem k_140_118 : cod 140 118 = some (.inl (.iload 4), 2) := rfl
theorem k_140_120 : cod 140 120 = some (.inl (.iconst 1), 1) := rfl
theorem k_140_121 : cod 140 121 = some (.inl .iadd, 1) := rfl
theorem k_140_122 : cod 140 122 = some (.inl .iaload, 1) := rfl
theorem k_140_123 : cod 140 123 = some (.inr (17, 9, 2, 0, 0), 3) := rfl
theorem k_140_126 : cod 140 126 = some (.inl (.istore 5), 2) := rfl
theorem k_140_128 : cod 140 128 = some (.inl (.aload_n 2), 1) := rfl
theorem k_140_129 : cod 140 129 = some (.inl (.aload_n 0), 1) := rfl
theorem k_140_130 : cod 140 130 = some (.inl (.iload 4), 2) := rfl
theorem k_140_132 : cod 140 132 = some (.inl (.iconst 1), 1) := rfl
theorem k_140_133 : cod 140 133 = some (.inl .iadd, 1) := rfl
theorem k_140_134 : cod 140 134 = some (.inl .iaload, 1) := rfl
theorem k_140_135 : cod 140 135 = some (.inr (17, 103, 2, 1, 9), 3) := rfl
theorem k_140_138 : cod 140 138 = some (.inl (.aload_n 2), 1) := rfl
theorem k_140_139 : cod 140 139 = some (.inr (17, 102, 1, 1, 9), 3) := rfl
theorem k_140_142 : cod 140 142 = some (.inl (.iload 5), 2) := rfl
theorem k_140_144 : cod 140 144 = some (.inl (.if_icmp .eq 5), 3) := rfl
theorem k_140_147 : cod 140 147 = some (.inl (.iconst 0), 1) := rfl
theorem k_140_148 : cod 140 148 = some (.inl .ireturn, 1) := rfl
theorem k_140_149 : cod 140 149 = some (.inl (.goto 995), 3) := rfl
theorem k_140_152 : cod 140 152 = some (.inl (.aload_n 1), 1) := rfl
theorem k_140_153 : cod 140 153 = some (.inl (.aload_n 0), 1) := rfl
theorem k_140_154 : cod 140 154 = some (.inl (.iload 4), 2) := rfl
theorem k_140_156 : cod 140 156 = some (.inl (.iconst 1), 1) := rfl
theorem k_140_157 : cod 140 157 = some (.inl .iadd, 1) := rfl
theorem k_140_158 : cod 140 158 = some (.inl .iaload, 1) := rfl
theorem k_140_159 : cod 140 159 = some (.inl (.aload_n 0), 1) := rfl
theorem k_140_160 : cod 140 160 = some (.inl (.iload 4), 2) := rfl
theorem k_140_162 : cod 140 162 = some (.inl (.iconst 2), 1) := rfl
theorem k_140_163 : cod 140 163 = some (.inl .iadd, 1) := rfl
theorem k_140_164 : cod 140 164 = some (.inl .iaload, 1) := rfl
theorem k_140_165 : cod 140 165 = some (.inl (.ifCond .eq 7), 3) := rfl
theorem k_140_168 : cod 140 168 = some (.inl (.iconst 1), 1) := rfl
theorem k_140_169 : cod 140 169 = some (.inl (.goto 4), 3) := rfl
theorem k_140_172 : cod 140 172 = some (.inl (.iconst 0), 1) := rfl
theorem k_140_173 : cod 140 173 = some (.inl (.aload_n 3), 1) := rfl
theorem k_140_174 : cod 140 174 = some (.inr (17, 12, 4, 0, 0), 3) := rfl
theorem k_140_177 : cod 140 177 = some (.inl (.istore 5), 2) := rfl
theorem k_140_179 : cod 140 179 = some (.inl (.aload_n 2), 1) := rfl
theorem k_140_180 : cod 140 180 = some (.inl (.aload_n 0), 1) := rfl
theorem k_140_181 : cod 140 181 = some (.inl (.iload 4), 2) := rfl
theorem k_140_183 : cod 140 183 = some (.inl (.iconst 1), 1) := rfl
theorem k_140_184 : cod 140 184 = some (.inl .iadd, 1) := rfl
theorem k_140_185 : cod 140 185 = some (.inl .iaload, 1) := rfl
theorem k_140_186 : cod 140 186 = some (.inl (.aload_n 0), 1) := rfl
theorem k_140_187 : cod 140 187 = some (.inl (.iload 4), 2) := rfl
theorem k_140_189 : cod 140 189 = some (.inl (.iconst 2), 1) := rfl
theorem k_140_190 : cod 140 190 = some (.inl .iadd, 1) := rfl
theorem k_140_191 : cod 140 191 = some (.inl .iaload, 1) := rfl
theorem k_140_192 : cod 140 192 = some (.inl (.ifCond .eq 7), 3) := rfl
theorem k_140_195 : cod 140 195 = some (.inl (.iconst 1), 1) := rfl
theorem k_140_196 : cod 140 196 = some (.inl (.goto 4), 3) := rfl
theorem k_140_199 : cod 140 199 = some (.inl (.iconst 0), 1) := rfl
theorem k_140_200 : cod 140 200 = some (.inr (17, 105, 3, 1, 9), 3) := rfl
theorem k_140_203 : cod 140 203 = some (.inl (.istore 6), 2) := rfl
theorem k_140_205 : cod 140 205 = some (.inl (.aload_n 2), 1) := rfl
theorem k_140_206 : cod 140 206 = some (.inr (17, 102, 1, 1, 9), 3) := rfl
theorem k_140_209 : cod 140 209 = some (.inl (.iload 5), 2) := rfl
theorem k_140_211 : cod 140 211 = some (.inl (.if_icmp .eq 5), 3) := rfl
theorem k_140_214 : cod 140 214 = some (.inl (.iconst 0), 1) := rfl
theorem k_140_215 : cod 140 215 = some (.inl .ireturn, 1) := rfl
theorem k_140_216 : cod 140 216 = some (.inl (.iload 5), 2) := rfl
theorem k_140_218 : cod 140 218 = some (.inl (.ifCond .ne 15), 3) := rfl
theorem k_140_221 : cod 140 221 = some (.inl (.aload_n 3), 1) := rfl
theorem k_140_222 : cod 140 222 = some (.inl (.iconst 0), 1) := rfl
theorem k_140_223 : cod 140 223 = some (.inl .laload, 1) := rfl
theorem k_140_224 : cod 140 224 = some (.inl (.iload 6), 2) := rfl
theorem k_140_226 : cod 140 226 = some (.inl .i2l, 1) := rfl
theorem k_140_227 : cod 140 227 = some (.inl .lcmp, 1) := rfl
theorem k_140_228 : cod 140 228 = some (.inl (.ifCond .eq 5), 3) := rfl
theorem k_140_231 : cod 140 231 = some (.inl (.iconst 0), 1) := rfl
theorem k_140_232 : cod 140 232 = some (.inl .ireturn, 1) := rfl
theorem k_140_233 : cod 140 233 = some (.inl (.goto 911), 3) := rfl
theorem k_140_236 : cod 140 236 = some (.inl (.aload_n 1), 1) := rfl
theorem k_140_237 : cod 140 237 = some (.inl (.aload_n 0), 1) := rfl
theorem k_140_238 : cod 140 238 = some (.inl (.iload 4), 2) := rfl
theorem k_140_240 : cod 140 240 = some (.inl (.iconst 1), 1) := rfl
theorem k_140_241 : cod 140 241 = some (.inl .iadd, 1) := rfl
theorem k_140_242 : cod 140 242 = some (.inl .iaload, 1) := rfl
theorem k_140_243 : cod 140 243 = some (.inl (.aload_n 3), 1) := rfl
theorem k_140_244 : cod 140 244 = some (.inr (17, 23, 3, 0, 0), 3) := rfl
theorem k_140_247 : cod 140 247 = some (.inl (.istore 5), 2) := rfl
theorem k_140_249 : cod 140 249 = some (.inl (.aload_n 2), 1) := rfl
theorem k_140_250 : cod 140 250 = some (.inl (.aload_n 0), 1) := rfl
theorem k_140_251 : cod 140 251 = some (.inl (.iload 4), 2) := rfl
theorem k_140_253 : cod 140 253 = some (.inl (.iconst 1), 1) := rfl
theorem k_140_254 : cod 140 254 = some (.inl .iadd, 1) := rfl
theorem k_140_255 : cod 140 255 = some (.inl .iaload, 1) := rfl
theorem k_140_256 : cod 140 256 = some (.inr (17, 107, 2, 1, 9), 3) := rfl
theorem k_140_259 : cod 140 259 = some (.inl (.istore 6), 2) := rfl
theorem k_140_261 : cod 140 261 = some (.inl (.aload_n 2), 1) := rfl
theorem k_140_262 : cod 140 262 = some (.inr (17, 102, 1, 1, 9), 3) := rfl
theorem k_140_265 : cod 140 265 = some (.inl (.iload 5), 2) := rfl
theorem k_140_267 : cod 140 267 = some (.inl (.if_icmp .eq 5), 3) := rfl
theorem k_140_270 : cod 140 270 = some (.inl (.iconst 0), 1) := rfl
theorem k_140_271 : cod 140 271 = some (.inl .ireturn, 1) := rfl
theorem k_140_272 : cod 140 272 = some (.inl (.iload 5), 2) := rfl
theorem k_140_274 : cod 140 274 = some (.inl (.ifCond .ne 15), 3) := rfl
theorem k_140_277 : cod 140 277 = some (.inl (.aload_n 3), 1) := rfl
theorem k_140_278 : cod 140 278 = some (.inl (.iconst 0), 1) := rfl
theorem k_140_279 : cod 140 279 = some (.inl .laload, 1) := rfl
theorem k_140_280 : cod 140 280 = some (.inl (.iload 6), 2) := rfl
theorem k_140_282 : cod 140 282 = some (.inl .i2l, 1) := rfl
theorem k_140_283 : cod 140 283 = some (.inl .lcmp, 1) := rfl
theorem k_140_284 : cod 140 284 = some (.inl (.ifCond .eq 5), 3) := rfl
theorem k_140_287 : cod 140 287 = some (.inl (.iconst 0), 1) := rfl
theorem k_140_288 : cod 140 288 = some (.inl .ireturn, 1) := rfl
theorem k_140_289 : cod 140 289 = some (.inl (.goto 855), 3) := rfl
theorem k_140_292 : cod 140 292 = some (.inl (.aload_n 1), 1) := rfl
theorem k_140_293 : cod 140 293 = some (.inl (.aload_n 0), 1) := rfl
theorem k_140_294 : cod 140 294 = some (.inl (.iload 4), 2) := rfl
theorem k_140_296 : cod 140 296 = some (.inl (.iconst 1), 1) := rfl
theorem k_140_297 : cod 140 297 = some (.inl .iadd, 1) := rfl
theorem k_140_298 : cod 140 298 = some (.inl .iaload, 1) := rfl
theorem k_140_299 : cod 140 299 = some (.inl (.aload_n 0), 1) := rfl
theorem k_140_300 : cod 140 300 = some (.inl (.iload 4), 2) := rfl
set_option maxRecDepth 100000 in
theorem k_140_302 : cod 140 302 = some (.inl (.iconst 2), 1) := rfl
set_option maxRecDepth 100000 in
theorem k_140_303 : cod 140 303 = some (.inl .iadd, 1) := rfl
set_option maxRecDepth 100000 in
theorem k_140_304 : cod 140 304 = some (.inl .iaload, 1) := rfl
set_option maxRecDepth 100000 in
theorem k_140_305 : cod 140 305 = some (.inl (.aload_n 3), 1) := rfl
set_option maxRecDepth 100000 in
theorem k_140_306 : cod 140 306 = some (.inr (17, 26, 4, 0, 0), 3) := rfl
set_option maxRecDepth 100000 in
theorem k_140_309 : cod 140 309 = some (.inl (.istore 5), 2) := rfl
set_option maxRecDepth 100000 in
theorem k_140_311 : cod 140 311 = some (.inl (.aload_n 2), 1) := rfl
set_option maxRecDepth 100000 in
theorem k_140_312 : cod 140 312 = some (.inl (.aload_n 0), 1) := rfl
set_option maxRecDepth 100000 in
theorem k_140_313 : cod 140 313 = some (.inl (.iload 4), 2) := rfl
set_option maxRecDepth 100000 in
theorem k_140_315 : cod 140 315 = some (.inl (.iconst 1), 1) := rfl
set_option maxRecDepth 100000 in
theorem k_140_316 : cod 140 316 = some (.inl .iadd, 1) := rfl
set_option maxRecDepth 100000 in
theorem k_140_317 : cod 140 317 = some (.inl .iaload, 1) := rfl
set_option maxRecDepth 100000 in
theorem k_140_318 : cod 140 318 = some (.inl (.aload_n 0), 1) := rfl
set_option maxRecDepth 100000 in
theorem k_140_319 : cod 140 319 = some (.inl (.iload 4), 2) := rfl
set_option maxRecDepth 100000 in
theorem k_140_321 : cod 140 321 = some (.inl (.iconst 2), 1) := rfl
set_option maxRecDepth 100000 in
theorem k_140_322 : cod 140 322 = some (.inl .iadd, 1) := rfl
set_option maxRecDepth 100000 in
theorem k_140_323 : cod 140 323 = some (.inl .iaload, 1) := rfl
set_option maxRecDepth 100000 in
theorem k_140_324 : cod 140 324 = some (.inr (17, 108, 3, 1, 9), 3) := rfl
set_option maxRecDepth 100000 in
theorem k_140_327 : cod 140 327 = some (.inl (.lstore 6), 2) := rfl
set_option maxRecDepth 100000 in
theorem k_140_329 : cod 140 329 = some (.inl (.aload_n 2), 1) := rfl
set_option maxRecDepth 100000 in
theorem k_140_330 : cod 140 330 = some (.inr (17, 102, 1, 1, 9), 3) := rfl
set_option maxRecDepth 100000 in
theorem k_140_333 : cod 140 333 = some (.inl (.iload 5), 2) := rfl
set_option maxRecDepth 100000 in
theorem k_140_335 : cod 140 335 = some (.inl (.if_icmp .eq 5), 3) := rfl
set_option maxRecDepth 100000 in
theorem k_140_338 : cod 140 338 = some (.inl (.iconst 0), 1) := rfl
set_option maxRecDepth 100000 in
theorem k_140_339 : cod 140 339 = some (.inl .ireturn, 1) := rfl
set_option maxRecDepth 100000 in
theorem k_140_340 : cod 140 340 = some (.inl (.iload 5), 2) := rfl
set_option maxRecDepth 100000 in
theorem k_140_342 : cod 140 342 = some (.inl (.ifCond .ne 14), 3) := rfl
set_option maxRecDepth 100000 in
theorem k_140_345 : cod 140 345 = some (.inl (.aload_n 3), 1) := rfl
set_option maxRecDepth 100000 in
theorem k_140_346 : cod 140 346 = some (.inl (.iconst 0), 1) := rfl
set_option maxRecDepth 100000 in
theorem k_140_347 : cod 140 347 = some (.inl .laload, 1) := rfl
set_option maxRecDepth 100000 in
theorem k_140_348 : cod 140 348 = some (.inl (.lload 6), 2) := rfl
set_option maxRecDepth 100000 in
theorem k_140_350 : cod 140 350 = some (.inl .lcmp, 1) := rfl
set_option maxRecDepth 100000 in
theorem k_140_351 : cod 140 351 = some (.inl (.ifCond .eq 5), 3) := rfl
set_option maxRecDepth 100000 in
theorem k_140_354 : cod 140 354 = some (.inl (.iconst 0), 1) := rfl
set_option maxRecDepth 100000 in
theorem k_140_355 : cod 140 355 = some (.inl .ireturn, 1) := rfl
set_option maxRecDepth 100000 in
theorem k_140_356 : cod 140 356 = some (.inl (.goto 788), 3) := rfl
set_option maxRecDepth 100000 in
theorem k_140_359 : cod 140 359 = some (.inl (.aload_n 1), 1) := rfl
set_option maxRecDepth 100000 in
theorem k_140_360 : cod 140 360 = some (.inl (.aload_n 0), 1) := rfl
set_option maxRecDepth 100000 in
theorem k_140_361 : cod 140 361 = some (.inl (.iload 4), 2) := rfl
set_option maxRecDepth 100000 in
theorem k_140_363 : cod 140 363 = some (.inl (.iconst 1), 1) := rfl
set_option maxRecDepth 100000 in
theorem k_140_364 : cod 140 364 = some (.inl .iadd, 1) := rfl
set_option maxRecDepth 100000 in
theorem k_140_365 : cod 140 365 = some (.inl .iaload, 1) := rfl
set_option maxRecDepth 100000 in
theorem k_140_366 : cod 140 366 = some (.inl (.aload_n 0), 1) := rfl
set_option maxRecDepth 100000 in
theorem k_140_367 : cod 140 367 = some (.inl (.iload 4), 2) := rfl
set_option maxRecDepth 100000 in
theorem k_140_369 : cod 140 369 = some (.inl (.iconst 2), 1) := rfl
set_option maxRecDepth 100000 in
theorem k_140_370 : cod 140 370 = some (.inl .iadd, 1) := rfl
set_option maxRecDepth 100000 in
theorem k_140_371 : cod 140 371 = some (.inl .iaload, 1) := rfl
set_option maxRecDepth 100000 in
theorem k_140_372 : cod 140 372 = some (.inl (.aload_n 0), 1) := rfl
set_option maxRecDepth 100000 in
theorem k_140_373 : cod 140 373 = some (.inl (.iload 4), 2) := rfl
set_option maxRecDepth 100000 in
theorem k_140_375 : cod 140 375 = some (.inl (.iconst 3), 1) := rfl
set_option maxRecDepth 100000 in
theorem k_140_376 : cod 140 376 = some (.inl .iadd, 1) := rfl
set_option maxRecDepth 100000 in
theorem k_140_377 : cod 140 377 = some (.inl .iaload, 1) := rfl
set_option maxRecDepth 100000 in
theorem k_140_378 : cod 140 378 = some (.inl .i2l, 1) := rfl
set_option maxRecDepth 100000 in
theorem k_140_379 : cod 140 379 = some (.inl (.bipush 32), 2) := rfl
set_option maxRecDepth 100000 in
theorem k_140_381 : cod 140 381 = some (.inl .lshl, 1) := rfl
set_option maxRecDepth 100000 in
theorem k_140_382 : cod 140 382 = some (.inl (.aload_n 0), 1) := rfl
set_option maxRecDepth 100000 in
theorem k_140_383 : cod 140 383 = some (.inl (.iload 4), 2) := rfl
set_option maxRecDepth 100000 in
theorem k_140_385 : cod 140 385 = some (.inl (.iconst 4), 1) := rfl
set_option maxRecDepth 100000 in
theorem k_140_386 : cod 140 386 = some (.inl .iadd, 1) := rfl
set_option maxRecDepth 100000 in
theorem k_140_387 : cod 140 387 = some (.inl .iaload, 1) := rfl
set_option maxRecDepth 100000 in
theorem k_140_388 : cod 140 388 = some (.inl .i2l, 1) := rfl
set_option maxRecDepth 100000 in
theorem k_140_389 : cod 140 389 = some (.inr (15, 4294967295, 0, 0, 0), 3) := rfl
set_option maxRecDepth 100000 in
theorem k_140_392 : cod 140 392 = some (.inl .land, 1) := rfl
set_option maxRecDepth 100000 in
theorem k_140_393 : cod 140 393 = some (.inl .lor, 1) := rfl
set_option maxRecDepth 100000 in
theorem k_140_394 : cod 140 394 = some (.inr (17, 39, 4, 0, 0), 3) := rfl
set_option maxRecDepth 100000 in
theorem k_140_397 : cod 140 397 = some (.inl (.istore 5), 2) := rfl
set_option maxRecDepth 100000 in
theorem k_140_399 : cod 140 399 = some (.inl (.aload_n 2), 1) := rfl
set_option maxRecDepth 100000 in
theorem k_140_400 : cod 140 400 = some (.inl (.aload_n 0), 1) := rfl
set_option maxRecDepth 100000 in
theorem k_140_401 : cod 140 401 = some (.inl (.iload 4), 2) := rfl
set_option maxRecDepth 100000 in
theorem k_140_403 : cod 140 403 = some (.inl (.iconst 1), 1) := rfl
set_option maxRecDepth 100000 in
theorem k_140_404 : cod 140 404 = some (.inl .iadd, 1) := rfl
set_option maxRecDepth 100000 in
theorem k_140_405 : cod 140 405 = some (.inl .iaload, 1) := rfl
set_option maxRecDepth 100000 in
theorem k_140_406 : cod 140 406 = some (.inl (.aload_n 0), 1) := rfl
set_option maxRecDepth 100000 in
theorem k_140_407 : cod 140 407 = some (.inl (.iload 4), 2) := rfl
set_option maxRecDepth 100000 in
theorem k_140_409 : cod 140 409 = some (.inl (.iconst 2), 1) := rfl
set_option maxRecDepth 100000 in
theorem k_140_410 : cod 140 410 = some (.inl .iadd, 1) := rfl
set_option maxRecDepth 100000 in
theorem k_140_411 : cod 140 411 = some (.inl .iaload, 1) := rfl
set_option maxRecDepth 100000 in
theorem k_140_412 : cod 140 412 = some (.inl (.aload_n 0), 1) := rfl
set_option maxRecDepth 100000 in
theorem k_140_413 : cod 140 413 = some (.inl (.iload 4), 2) := rfl
set_option maxRecDepth 100000 in
theorem k_140_415 : cod 140 415 = some (.inl (.iconst 3), 1) := rfl
set_option maxRecDepth 100000 in
theorem k_140_416 : cod 140 416 = some (.inl .iadd, 1) := rfl
set_option maxRecDepth 100000 in
theorem k_140_417 : cod 140 417 = some (.inl .iaload, 1) := rfl
set_option maxRecDepth 100000 in
theorem k_140_418 : cod 140 418 = some (.inl .i2l, 1) := rfl
set_option maxRecDepth 100000 in
theorem k_140_419 : cod 140 419 = some (.inl (.bipush 32), 2) := rfl
set_option maxRecDepth 100000 in
theorem k_140_421 : cod 140 421 = some (.inl .lshl, 1) := rfl
set_option maxRecDepth 100000 in
theorem k_140_422 : cod 140 422 = some (.inl (.aload_n 0), 1) := rfl
set_option maxRecDepth 100000 in
theorem k_140_423 : cod 140 423 = some (.inl (.iload 4), 2) := rfl
set_option maxRecDepth 100000 in
theorem k_140_425 : cod 140 425 = some (.inl (.iconst 4), 1) := rfl
set_option maxRecDepth 100000 in
theorem k_140_426 : cod 140 426 = some (.inl .iadd, 1) := rfl
set_option maxRecDepth 100000 in
theorem k_140_427 : cod 140 427 = some (.inl .iaload, 1) := rfl
set_option maxRecDepth 100000 in
theorem k_140_428 : cod 140 428 = some (.inl .i2l, 1) := rfl
set_option maxRecDepth 100000 in
theorem k_140_429 : cod 140 429 = some (.inr (15, 4294967295, 0, 0, 0), 3) := rfl
set_option maxRecDepth 100000 in
theorem k_140_432 : cod 140 432 = some (.inl .land, 1) := rfl
set_option maxRecDepth 100000 in
theorem k_140_433 : cod 140 433 = some (.inl .lor, 1) := rfl
set_option maxRecDepth 100000 in
theorem k_140_434 : cod 140 434 = some (.inr (17, 115, 4, 1, 9), 3) := rfl
set_option maxRecDepth 100000 in
theorem k_140_437 : cod 140 437 = some (.inl (.aload_n 2), 1) := rfl
set_option maxRecDepth 100000 in
theorem k_140_438 : cod 140 438 = some (.inr (17, 102, 1, 1, 9), 3) := rfl
set_option maxRecDepth 100000 in
theorem k_140_441 : cod 140 441 = some (.inl (.iload 5), 2) := rfl
set_option maxRecDepth 100000 in
theorem k_140_443 : cod 140 443 = some (.inl (.if_icmp .eq 5), 3) := rfl
set_option maxRecDepth 100000 in
theorem k_140_446 : cod 140 446 = some (.inl (.iconst 0), 1) := rfl
set_option maxRecDepth 100000 in
theorem k_140_447 : cod 140 447 = some (.inl .ireturn, 1) := rfl
set_option maxRecDepth 100000 in
theorem k_140_448 : cod 140 448 = some (.inl (.goto 696), 3) := rfl
set_option maxRecDepth 100000 in
theorem k_140_451 : cod 140 451 = some (.inl (.aload_n 1), 1) := rfl
set_option maxRecDepth 100000 in
theorem k_140_452 : cod 140 452 = some (.inl (.aload_n 0), 1) := rfl
set_option maxRecDepth 100000 in
theorem k_140_453 : cod 140 453 = some (.inl (.iload 4), 2) := rfl
set_option maxRecDepth 100000 in
theorem k_140_455 : cod 140 455 = some (.inl (.iconst 1), 1) := rfl
set_option maxRecDepth 100000 in
theorem k_140_456 : cod 140 456 = some (.inl .iadd, 1) := rfl
set_option maxRecDepth 100000 in
theorem k_140_457 : cod 140 457 = some (.inl .iaload, 1) := rfl
set_option maxRecDepth 100000 in
theorem k_140_458 : cod 140 458 = some (.inl (.aload_n 0), 1) := rfl
set_option maxRecDepth 100000 in
theorem k_140_459 : cod 140 459 = some (.inl (.iload 4), 2) := rfl
set_option maxRecDepth 100000 in
theorem k_140_461 : cod 140 461 = some (.inl (.iconst 2), 1) := rfl
set_option maxRecDepth 100000 in
theorem k_140_462 : cod 140 462 = some (.inl .iadd, 1) := rfl
set_option maxRecDepth 100000 in
theorem k_140_463 : cod 140 463 = some (.inl .iaload, 1) := rfl
set_option maxRecDepth 100000 in
theorem k_140_464 : cod 140 464 = some (.inl (.aload_n 0), 1) := rfl
set_option maxRecDepth 100000 in
theorem k_140_465 : cod 140 465 = some (.inl (.iload 4), 2) := rfl
set_option maxRecDepth 100000 in
theorem k_140_467 : cod 140 467 = some (.inl (.iconst 3), 1) := rfl
set_option maxRecDepth 100000 in
theorem k_140_468 : cod 140 468 = some (.inl .iadd, 1) := rfl
set_option maxRecDepth 100000 in
theorem k_140_469 : cod 140 469 = some (.inl .iaload, 1) := rfl
set_option maxRecDepth 100000 in
theorem k_140_470 : cod 140 470 = some (.inl (.aload_n 0), 1) := rfl
set_option maxRecDepth 100000 in
theorem k_140_471 : cod 140 471 = some (.inl (.iload 4), 2) := rfl
set_option maxRecDepth 100000 in
theorem k_140_473 : cod 140 473 = some (.inl (.iconst 4), 1) := rfl
set_option maxRecDepth 100000 in
theorem k_140_474 : cod 140 474 = some (.inl .iadd, 1) := rfl
set_option maxRecDepth 100000 in
theorem k_140_475 : cod 140 475 = some (.inl .iaload, 1) := rfl
set_option maxRecDepth 100000 in
theorem k_140_476 : cod 140 476 = some (.inl (.ifCond .eq 7), 3) := rfl
set_option maxRecDepth 100000 in
theorem k_140_479 : cod 140 479 = some (.inl (.iconst 1), 1) := rfl
set_option maxRecDepth 100000 in
theorem k_140_480 : cod 140 480 = some (.inl (.goto 4), 3) := rfl
set_option maxRecDepth 100000 in
theorem k_140_483 : cod 140 483 = some (.inl (.iconst 0), 1) := rfl
set_option maxRecDepth 100000 in
theorem k_140_484 : cod 140 484 = some (.inr (17, 43, 5, 0, 0), 3) := rfl
set_option maxRecDepth 100000 in
theorem k_140_487 : cod 140 487 = some (.inl (.istore 5), 2) := rfl
set_option maxRecDepth 100000 in
theorem k_140_489 : cod 140 489 = some (.inl (.aload_n 2), 1) := rfl
set_option maxRecDepth 100000 in
theorem k_140_490 : cod 140 490 = some (.inl (.aload_n 0), 1) := rfl
set_option maxRecDepth 100000 in
theorem k_140_491 : cod 140 491 = some (.inl (.iload 4), 2) := rfl
set_option maxRecDepth 100000 in
theorem k_140_493 : cod 140 493 = some (.inl (.iconst 1), 1) := rfl
set_option maxRecDepth 100000 in
theorem k_140_494 : cod 140 494 = some (.inl .iadd, 1) := rfl
set_option maxRecDepth 100000 in
theorem k_140_495 : cod 140 495 = some (.inl .iaload, 1) := rfl
set_option maxRecDepth 100000 in
theorem k_140_496 : cod 140 496 = some (.inl (.aload_n 0), 1) := rfl
set_option maxRecDepth 100000 in
theorem k_140_497 : cod 140 497 = some (.inl (.iload 4), 2) := rfl
set_option maxRecDepth 100000 in
theorem k_140_499 : cod 140 499 = some (.inl (.iconst 2), 1) := rfl
set_option maxRecDepth 100000 in
theorem k_140_500 : cod 140 500 = some (.inl .iadd, 1) := rfl
set_option maxRecDepth 100000 in
theorem k_140_501 : cod 140 501 = some (.inl .iaload, 1) := rfl
set_option maxRecDepth 100000 in
theorem k_140_502 : cod 140 502 = some (.inl (.aload_n 0), 1) := rfl
set_option maxRecDepth 100000 in
theorem k_140_503 : cod 140 503 = some (.inl (.iload 4), 2) := rfl
set_option maxRecDepth 100000 in
theorem k_140_505 : cod 140 505 = some (.inl (.iconst 3), 1) := rfl
set_option maxRecDepth 100000 in
theorem k_140_506 : cod 140 506 = some (.inl .iadd, 1) := rfl
set_option maxRecDepth 100000 in
theorem k_140_507 : cod 140 507 = some (.inl .iaload, 1) := rfl
set_option maxRecDepth 100000 in
theorem k_140_508 : cod 140 508 = some (.inl (.aload_n 0), 1) := rfl
set_option maxRecDepth 100000 in
theorem k_140_509 : cod 140 509 = some (.inl (.iload 4), 2) := rfl
set_option maxRecDepth 100000 in
theorem k_140_511 : cod 140 511 = some (.inl (.iconst 4), 1) := rfl
set_option maxRecDepth 100000 in
theorem k_140_512 : cod 140 512 = some (.inl .iadd, 1) := rfl
set_option maxRecDepth 100000 in
theorem k_140_513 : cod 140 513 = some (.inl .iaload, 1) := rfl
set_option maxRecDepth 100000 in
theorem k_140_514 : cod 140 514 = some (.inl (.ifCond .eq 7), 3) := rfl
set_option maxRecDepth 100000 in
theorem k_140_517 : cod 140 517 = some (.inl (.iconst 1), 1) := rfl
set_option maxRecDepth 100000 in
theorem k_140_518 : cod 140 518 = some (.inl (.goto 4), 3) := rfl
set_option maxRecDepth 100000 in
theorem k_140_521 : cod 140 521 = some (.inl (.iconst 0), 1) := rfl
set_option maxRecDepth 100000 in
theorem k_140_522 : cod 140 522 = some (.inr (17, 117, 5, 1, 9), 3) := rfl
set_option maxRecDepth 100000 in
theorem k_140_525 : cod 140 525 = some (.inl (.aload_n 2), 1) := rfl
set_option maxRecDepth 100000 in
theorem k_140_526 : cod 140 526 = some (.inr (17, 102, 1, 1, 9), 3) := rfl
set_option maxRecDepth 100000 in
theorem k_140_529 : cod 140 529 = some (.inl (.iload 5), 2) := rfl
set_option maxRecDepth 100000 in
theorem k_140_531 : cod 140 531 = some (.inl (.if_icmp .eq 5), 3) := rfl
set_option maxRecDepth 100000 in
theorem k_140_534 : cod 140 534 = some (.inl (.iconst 0), 1) := rfl
set_option maxRecDepth 100000 in
theorem k_140_535 : cod 140 535 = some (.inl .ireturn, 1) := rfl
set_option maxRecDepth 100000 in
theorem k_140_536 : cod 140 536 = some (.inl (.goto 608), 3) := rfl
set_option maxRecDepth 100000 in
theorem k_140_539 : cod 140 539 = some (.inl (.aload_n 1), 1) := rfl
set_option maxRecDepth 100000 in
theorem k_140_540 : cod 140 540 = some (.inl (.aload_n 0), 1) := rfl
set_option maxRecDepth 100000 in
theorem k_140_541 : cod 140 541 = some (.inl (.iload 4), 2) := rfl
set_option maxRecDepth 100000 in
theorem k_140_543 : cod 140 543 = some (.inl (.iconst 1), 1) := rfl
set_option maxRecDepth 100000 in
theorem k_140_544 : cod 140 544 = some (.inl .iadd, 1) := rfl
set_option maxRecDepth 100000 in
theorem k_140_545 : cod 140 545 = some (.inl .iaload, 1) := rfl
set_option maxRecDepth 100000 in
theorem k_140_546 : cod 140 546 = some (.inl (.aload_n 0), 1) := rfl
set_option maxRecDepth 100000 in
theorem k_140_547 : cod 140 547 = some (.inl (.iload 4), 2) := rfl
set_option maxRecDepth 100000 in
theorem k_140_549 : cod 140 549 = some (.inl (.iconst 2), 1) := rfl
set_option maxRecDepth 100000 in
theorem k_140_550 : cod 140 550 = some (.inl .iadd, 1) := rfl
set_option maxRecDepth 100000 in
theorem k_140_551 : cod 140 551 = some (.inl .iaload, 1) := rfl
set_option maxRecDepth 100000 in
theorem k_140_552 : cod 140 552 = some (.inl (.aload_n 0), 1) := rfl
set_option maxRecDepth 100000 in
theorem k_140_553 : cod 140 553 = some (.inl (.iload 4), 2) := rfl
set_option maxRecDepth 100000 in
theorem k_140_555 : cod 140 555 = some (.inl (.iconst 3), 1) := rfl
set_option maxRecDepth 100000 in
theorem k_140_556 : cod 140 556 = some (.inl .iadd, 1) := rfl
set_option maxRecDepth 100000 in
theorem k_140_557 : cod 140 557 = some (.inl .iaload, 1) := rfl
set_option maxRecDepth 100000 in
theorem k_140_558 : cod 140 558 = some (.inl (.aload_n 3), 1) := rfl
set_option maxRecDepth 100000 in
theorem k_140_559 : cod 140 559 = some (.inr (17, 47, 5, 0, 0), 3) := rfl
set_option maxRecDepth 100000 in
theorem k_140_562 : cod 140 562 = some (.inl (.istore 5), 2) := rfl
set_option maxRecDepth 100000 in
theorem k_140_564 : cod 140 564 = some (.inl (.aload_n 2), 1) := rfl
set_option maxRecDepth 100000 in
theorem k_140_565 : cod 140 565 = some (.inl (.aload_n 0), 1) := rfl
set_option maxRecDepth 100000 in
theorem k_140_566 : cod 140 566 = some (.inl (.iload 4), 2) := rfl
set_option maxRecDepth 100000 in
theorem k_140_568 : cod 140 568 = some (.inl (.iconst 1), 1) := rfl
set_option maxRecDepth 100000 in
theorem k_140_569 : cod 140 569 = some (.inl .iadd, 1) := rfl
set_option maxRecDepth 100000 in
theorem k_140_570 : cod 140 570 = some (.inl .iaload, 1) := rfl
set_option maxRecDepth 100000 in
theorem k_140_571 : cod 140 571 = some (.inl (.aload_n 0), 1) := rfl
set_option maxRecDepth 100000 in
theorem k_140_572 : cod 140 572 = some (.inl (.iload 4), 2) := rfl
set_option maxRecDepth 100000 in
theorem k_140_574 : cod 140 574 = some (.inl (.iconst 2), 1) := rfl
set_option maxRecDepth 100000 in
theorem k_140_575 : cod 140 575 = some (.inl .iadd, 1) := rfl
set_option maxRecDepth 100000 in
theorem k_140_576 : cod 140 576 = some (.inl .iaload, 1) := rfl
set_option maxRecDepth 100000 in
theorem k_140_577 : cod 140 577 = some (.inl (.aload_n 0), 1) := rfl
set_option maxRecDepth 100000 in
theorem k_140_578 : cod 140 578 = some (.inl (.iload 4), 2) := rfl
set_option maxRecDepth 100000 in
theorem k_140_580 : cod 140 580 = some (.inl (.iconst 3), 1) := rfl
set_option maxRecDepth 100000 in
theorem k_140_581 : cod 140 581 = some (.inl .iadd, 1) := rfl
set_option maxRecDepth 100000 in
theorem k_140_582 : cod 140 582 = some (.inl .iaload, 1) := rfl
set_option maxRecDepth 100000 in
theorem k_140_583 : cod 140 583 = some (.inr (17, 118, 4, 1, 9), 3) := rfl
set_option maxRecDepth 100000 in
theorem k_140_586 : cod 140 586 = some (.inl (.istore 6), 2) := rfl
set_option maxRecDepth 100000 in
theorem k_140_588 : cod 140 588 = some (.inl (.aload_n 2), 1) := rfl
set_option maxRecDepth 100000 in
theorem k_140_589 : cod 140 589 = some (.inr (17, 102, 1, 1, 9), 3) := rfl
set_option maxRecDepth 100000 in
theorem k_140_592 : cod 140 592 = some (.inl (.iload 5), 2) := rfl
set_option maxRecDepth 100000 in
theorem k_140_594 : cod 140 594 = some (.inl (.if_icmp .eq 5), 3) := rfl
set_option maxRecDepth 100000 in
theorem k_140_597 : cod 140 597 = some (.inl (.iconst 0), 1) := rfl
set_option maxRecDepth 100000 in
theorem k_140_598 : cod 140 598 = some (.inl .ireturn, 1) := rfl
set_option maxRecDepth 100000 in
theorem k_140_599 : cod 140 599 = some (.inl (.iload 5), 2) := rfl
set_option maxRecDepth 100000 in
theorem k_140_601 : cod 140 601 = some (.inl (.ifCond .ne 15), 3) := rfl
set_option maxRecDepth 100000 in
theorem k_140_604 : cod 140 604 = some (.inl (.aload_n 3), 1) := rfl
set_option maxRecDepth 100000 in
theorem k_140_605 : cod 140 605 = some (.inl (.iconst 0), 1) := rfl
set_option maxRecDepth 100000 in
theorem k_140_606 : cod 140 606 = some (.inl .laload, 1) := rfl
set_option maxRecDepth 100000 in
theorem k_140_607 : cod 140 607 = some (.inl (.iload 6), 2) := rfl
set_option maxRecDepth 100000 in
theorem k_140_609 : cod 140 609 = some (.inl .i2l, 1) := rfl
set_option maxRecDepth 100000 in
theorem k_140_610 : cod 140 610 = some (.inl .lcmp, 1) := rfl
set_option maxRecDepth 100000 in
theorem k_140_611 : cod 140 611 = some (.inl (.ifCond .eq 5), 3) := rfl
set_option maxRecDepth 100000 in
theorem k_140_614 : cod 140 614 = some (.inl (.iconst 0), 1) := rfl
set_option maxRecDepth 100000 in
theorem k_140_615 : cod 140 615 = some (.inl .ireturn, 1) := rfl
set_option maxRecDepth 100000 in
theorem k_140_616 : cod 140 616 = some (.inl (.goto 528), 3) := rfl
set_option maxRecDepth 100000 in
theorem k_140_619 : cod 140 619 = some (.inl (.aload_n 1), 1) := rfl
set_option maxRecDepth 100000 in
theorem k_140_620 : cod 140 620 = some (.inl (.aload_n 0), 1) := rfl
set_option maxRecDepth 100000 in
theorem k_140_621 : cod 140 621 = some (.inl (.iload 4), 2) := rfl
set_option maxRecDepth 100000 in
theorem k_140_623 : cod 140 623 = some (.inl (.iconst 1), 1) := rfl
set_option maxRecDepth 100000 in
theorem k_140_624 : cod 140 624 = some (.inl .iadd, 1) := rfl
set_option maxRecDepth 100000 in
theorem k_140_625 : cod 140 625 = some (.inl .iaload, 1) := rfl
set_option maxRecDepth 100000 in
theorem k_140_626 : cod 140 626 = some (.inl (.aload_n 0), 1) := rfl
set_option maxRecDepth 100000 in
theorem k_140_627 : cod 140 627 = some (.inl (.iload 4), 2) := rfl
set_option maxRecDepth 100000 in
theorem k_140_629 : cod 140 629 = some (.inl (.iconst 2), 1) := rfl
set_option maxRecDepth 100000 in
theorem k_140_630 : cod 140 630 = some (.inl .iadd, 1) := rfl
set_option maxRecDepth 100000 in
theorem k_140_631 : cod 140 631 = some (.inl .iaload, 1) := rfl
set_option maxRecDepth 100000 in
theorem k_140_632 : cod 140 632 = some (.inl (.aload_n 0), 1) := rfl
set_option maxRecDepth 100000 in
theorem k_140_633 : cod 140 633 = some (.inl (.iload 4), 2) := rfl
set_option maxRecDepth 100000 in
theorem k_140_635 : cod 140 635 = some (.inl (.iconst 3), 1) := rfl
set_option maxRecDepth 100000 in
theorem k_140_636 : cod 140 636 = some (.inl .iadd, 1) := rfl
set_option maxRecDepth 100000 in
theorem k_140_637 : cod 140 637 = some (.inl .iaload, 1) := rfl
set_option maxRecDepth 100000 in
theorem k_140_638 : cod 140 638 = some (.inl (.aload_n 3), 1) := rfl
set_option maxRecDepth 100000 in
theorem k_140_639 : cod 140 639 = some (.inr (17, 50, 5, 0, 0), 3) := rfl
set_option maxRecDepth 100000 in
theorem k_140_642 : cod 140 642 = some (.inl (.istore 5), 2) := rfl
set_option maxRecDepth 100000 in
theorem k_140_644 : cod 140 644 = some (.inl (.aload_n 2), 1) := rfl
set_option maxRecDepth 100000 in
theorem k_140_645 : cod 140 645 = some (.inl (.aload_n 0), 1) := rfl
set_option maxRecDepth 100000 in
theorem k_140_646 : cod 140 646 = some (.inl (.iload 4), 2) := rfl
set_option maxRecDepth 100000 in
theorem k_140_648 : cod 140 648 = some (.inl (.iconst 1), 1) := rfl
set_option maxRecDepth 100000 in
theorem k_140_649 : cod 140 649 = some (.inl .iadd, 1) := rfl
set_option maxRecDepth 100000 in
theorem k_140_650 : cod 140 650 = some (.inl .iaload, 1) := rfl
set_option maxRecDepth 100000 in
theorem k_140_651 : cod 140 651 = some (.inl (.aload_n 0), 1) := rfl
set_option maxRecDepth 100000 in
theorem k_140_652 : cod 140 652 = some (.inl (.iload 4), 2) := rfl
set_option maxRecDepth 100000 in
theorem k_140_654 : cod 140 654 = some (.inl (.iconst 2), 1) := rfl
set_option maxRecDepth 100000 in
theorem k_140_655 : cod 140 655 = some (.inl .iadd, 1) := rfl
set_option maxRecDepth 100000 in
theorem k_140_656 : cod 140 656 = some (.inl .iaload, 1) := rfl
set_option maxRecDepth 100000 in
theorem k_140_657 : cod 140 657 = some (.inl (.aload_n 0), 1) := rfl
set_option maxRecDepth 100000 in
theorem k_140_658 : cod 140 658 = some (.inl (.iload 4), 2) := rfl
set_option maxRecDepth 100000 in
theorem k_140_660 : cod 140 660 = some (.inl (.iconst 3), 1) := rfl
set_option maxRecDepth 100000 in
theorem k_140_661 : cod 140 661 = some (.inl .iadd, 1) := rfl
set_option maxRecDepth 100000 in
theorem k_140_662 : cod 140 662 = some (.inl .iaload, 1) := rfl
set_option maxRecDepth 100000 in
theorem k_140_663 : cod 140 663 = some (.inr (17, 120, 4, 1, 9), 3) := rfl
set_option maxRecDepth 100000 in
theorem k_140_666 : cod 140 666 = some (.inl (.istore 6), 2) := rfl
set_option maxRecDepth 100000 in
theorem k_140_668 : cod 140 668 = some (.inl (.aload_n 2), 1) := rfl
set_option maxRecDepth 100000 in
theorem k_140_669 : cod 140 669 = some (.inr (17, 102, 1, 1, 9), 3) := rfl
set_option maxRecDepth 100000 in
theorem k_140_672 : cod 140 672 = some (.inl (.iload 5), 2) := rfl
set_option maxRecDepth 100000 in
theorem k_140_674 : cod 140 674 = some (.inl (.if_icmp .eq 5), 3) := rfl
set_option maxRecDepth 100000 in
theorem k_140_677 : cod 140 677 = some (.inl (.iconst 0), 1) := rfl
set_option maxRecDepth 100000 in
theorem k_140_678 : cod 140 678 = some (.inl .ireturn, 1) := rfl
set_option maxRecDepth 100000 in
theorem k_140_679 : cod 140 679 = some (.inl (.iload 5), 2) := rfl
set_option maxRecDepth 100000 in
theorem k_140_681 : cod 140 681 = some (.inl (.ifCond .ne 15), 3) := rfl
set_option maxRecDepth 100000 in
theorem k_140_684 : cod 140 684 = some (.inl (.aload_n 3), 1) := rfl
set_option maxRecDepth 100000 in
theorem k_140_685 : cod 140 685 = some (.inl (.iconst 0), 1) := rfl
set_option maxRecDepth 100000 in
theorem k_140_686 : cod 140 686 = some (.inl .laload, 1) := rfl
set_option maxRecDepth 100000 in
theorem k_140_687 : cod 140 687 = some (.inl (.iload 6), 2) := rfl
set_option maxRecDepth 100000 in
theorem k_140_689 : cod 140 689 = some (.inl .i2l, 1) := rfl
set_option maxRecDepth 100000 in
theorem k_140_690 : cod 140 690 = some (.inl .lcmp, 1) := rfl
set_option maxRecDepth 100000 in
theorem k_140_691 : cod 140 691 = some (.inl (.ifCond .eq 5), 3) := rfl
set_option maxRecDepth 100000 in
theorem k_140_694 : cod 140 694 = some (.inl (.iconst 0), 1) := rfl
set_option maxRecDepth 100000 in
theorem k_140_695 : cod 140 695 = some (.inl .ireturn, 1) := rfl
set_option maxRecDepth 100000 in
theorem k_140_696 : cod 140 696 = some (.inl (.goto 448), 3) := rfl
set_option maxRecDepth 100000 in
theorem k_140_699 : cod 140 699 = some (.inl (.aload_n 1), 1) := rfl
set_option maxRecDepth 100000 in
theorem k_140_700 : cod 140 700 = some (.inl (.aload_n 0), 1) := rfl
set_option maxRecDepth 100000 in
theorem k_140_701 : cod 140 701 = some (.inl (.iload 4), 2) := rfl
set_option maxRecDepth 100000 in
theorem k_140_703 : cod 140 703 = some (.inl (.iconst 1), 1) := rfl
set_option maxRecDepth 100000 in
theorem k_140_704 : cod 140 704 = some (.inl .iadd, 1) := rfl
set_option maxRecDepth 100000 in
theorem k_140_705 : cod 140 705 = some (.inl .iaload, 1) := rfl
set_option maxRecDepth 100000 in
theorem k_140_706 : cod 140 706 = some (.inl (.aload_n 3), 1) := rfl
set_option maxRecDepth 100000 in
theorem k_140_707 : cod 140 707 = some (.inr (17, 59, 3, 0, 0), 3) := rfl
set_option maxRecDepth 100000 in
theorem k_140_710 : cod 140 710 = some (.inl (.istore 5), 2) := rfl
set_option maxRecDepth 100000 in
theorem k_140_712 : cod 140 712 = some (.inl (.aload_n 2), 1) := rfl
set_option maxRecDepth 100000 in
theorem k_140_713 : cod 140 713 = some (.inl (.aload_n 0), 1) := rfl
set_option maxRecDepth 100000 in
theorem k_140_714 : cod 140 714 = some (.inl (.iload 4), 2) := rfl
set_option maxRecDepth 100000 in
theorem k_140_716 : cod 140 716 = some (.inl (.iconst 1), 1) := rfl
set_option maxRecDepth 100000 in
theorem k_140_717 : cod 140 717 = some (.inl .iadd, 1) := rfl
set_option maxRecDepth 100000 in
theorem k_140_718 : cod 140 718 = some (.inl .iaload, 1) := rfl
set_option maxRecDepth 100000 in
theorem k_140_719 : cod 140 719 = some (.inr (17, 122, 2, 1, 9), 3) := rfl
set_option maxRecDepth 100000 in
theorem k_140_722 : cod 140 722 = some (.inl (.istore 6), 2) := rfl
set_option maxRecDepth 100000 in
theorem k_140_724 : cod 140 724 = some (.inl (.aload_n 2), 1) := rfl
set_option maxRecDepth 100000 in
theorem k_140_725 : cod 140 725 = some (.inr (17, 102, 1, 1, 9), 3) := rfl
set_option maxRecDepth 100000 in
theorem k_140_728 : cod 140 728 = some (.inl (.iload 5), 2) := rfl
set_option maxRecDepth 100000 in
theorem k_140_730 : cod 140 730 = some (.inl (.if_icmp .eq 5), 3) := rfl
set_option maxRecDepth 100000 in
theorem k_140_733 : cod 140 733 = some (.inl (.iconst 0), 1) := rfl
set_option maxRecDepth 100000 in
theorem k_140_734 : cod 140 734 = some (.inl .ireturn, 1) := rfl
set_option maxRecDepth 100000 in
theorem k_140_735 : cod 140 735 = some (.inl (.iload 5), 2) := rfl
set_option maxRecDepth 100000 in
theorem k_140_737 : cod 140 737 = some (.inl (.ifCond .ne 15), 3) := rfl
set_option maxRecDepth 100000 in
theorem k_140_740 : cod 140 740 = some (.inl (.aload_n 3), 1) := rfl
set_option maxRecDepth 100000 in
theorem k_140_741 : cod 140 741 = some (.inl (.iconst 0), 1) := rfl
set_option maxRecDepth 100000 in
theorem k_140_742 : cod 140 742 = some (.inl .laload, 1) := rfl
set_option maxRecDepth 100000 in
theorem k_140_743 : cod 140 743 = some (.inl (.iload 6), 2) := rfl
set_option maxRecDepth 100000 in
theorem k_140_745 : cod 140 745 = some (.inl .i2l, 1) := rfl
set_option maxRecDepth 100000 in
theorem k_140_746 : cod 140 746 = some (.inl .lcmp, 1) := rfl
set_option maxRecDepth 100000 in
theorem k_140_747 : cod 140 747 = some (.inl (.ifCond .eq 5), 3) := rfl
set_option maxRecDepth 100000 in
theorem k_140_750 : cod 140 750 = some (.inl (.iconst 0), 1) := rfl
set_option maxRecDepth 100000 in
theorem k_140_751 : cod 140 751 = some (.inl .ireturn, 1) := rfl
set_option maxRecDepth 100000 in
theorem k_140_752 : cod 140 752 = some (.inl (.goto 392), 3) := rfl
set_option maxRecDepth 100000 in
theorem k_140_755 : cod 140 755 = some (.inl (.aload_n 1), 1) := rfl
set_option maxRecDepth 100000 in
theorem k_140_756 : cod 140 756 = some (.inl (.aload_n 0), 1) := rfl
set_option maxRecDepth 100000 in
theorem k_140_757 : cod 140 757 = some (.inl (.iload 4), 2) := rfl
set_option maxRecDepth 100000 in
theorem k_140_759 : cod 140 759 = some (.inl (.iconst 1), 1) := rfl
set_option maxRecDepth 100000 in
theorem k_140_760 : cod 140 760 = some (.inl .iadd, 1) := rfl
set_option maxRecDepth 100000 in
theorem k_140_761 : cod 140 761 = some (.inl .iaload, 1) := rfl
set_option maxRecDepth 100000 in
theorem k_140_762 : cod 140 762 = some (.inr (17, 75, 2, 0, 0), 3) := rfl
set_option maxRecDepth 100000 in
theorem k_140_765 : cod 140 765 = some (.inl (.istore 5), 2) := rfl
set_option maxRecDepth 100000 in
theorem k_140_767 : cod 140 767 = some (.inl (.aload_n 2), 1) := rfl
set_option maxRecDepth 100000 in
theorem k_140_768 : cod 140 768 = some (.inl (.aload_n 0), 1) := rfl
set_option maxRecDepth 100000 in
theorem k_140_769 : cod 140 769 = some (.inl (.iload 4), 2) := rfl
set_option maxRecDepth 100000 in
theorem k_140_771 : cod 140 771 = some (.inl (.iconst 1), 1) := rfl
set_option maxRecDepth 100000 in
theorem k_140_772 : cod 140 772 = some (.inl .iadd, 1) := rfl
set_option maxRecDepth 100000 in
theorem k_140_773 : cod 140 773 = some (.inl .iaload, 1) := rfl
set_option maxRecDepth 100000 in
theorem k_140_774 : cod 140 774 = some (.inr (17, 132, 2, 1, 9), 3) := rfl
set_option maxRecDepth 100000 in
theorem k_140_777 : cod 140 777 = some (.inl (.aload_n 2), 1) := rfl
set_option maxRecDepth 100000 in
theorem k_140_778 : cod 140 778 = some (.inr (17, 102, 1, 1, 9), 3) := rfl
set_option maxRecDepth 100000 in
theorem k_140_781 : cod 140 781 = some (.inl (.iload 5), 2) := rfl
set_option maxRecDepth 100000 in
theorem k_140_783 : cod 140 783 = some (.inl (.if_icmp .eq 5), 3) := rfl
set_option maxRecDepth 100000 in
theorem k_140_786 : cod 140 786 = some (.inl (.iconst 0), 1) := rfl
set_option maxRecDepth 100000 in
theorem k_140_787 : cod 140 787 = some (.inl .ireturn, 1) := rfl
set_option maxRecDepth 100000 in
theorem k_140_788 : cod 140 788 = some (.inl (.goto 356), 3) := rfl
set_option maxRecDepth 100000 in
theorem k_140_791 : cod 140 791 = some (.inl (.aload_n 1), 1) := rfl
set_option maxRecDepth 100000 in
theorem k_140_792 : cod 140 792 = some (.inl (.aload_n 0), 1) := rfl
set_option maxRecDepth 100000 in
theorem k_140_793 : cod 140 793 = some (.inl (.iload 4), 2) := rfl
set_option maxRecDepth 100000 in
theorem k_140_795 : cod 140 795 = some (.inl (.iconst 1), 1) := rfl
set_option maxRecDepth 100000 in
theorem k_140_796 : cod 140 796 = some (.inl .iadd, 1) := rfl
set_option maxRecDepth 100000 in
theorem k_140_797 : cod 140 797 = some (.inl .iaload, 1) := rfl
set_option maxRecDepth 100000 in
theorem k_140_798 : cod 140 798 = some (.inl (.aload_n 0), 1) := rfl
set_option maxRecDepth 100000 in
theorem k_140_799 : cod 140 799 = some (.inl (.iload 4), 2) := rfl
set_option maxRecDepth 100000 in
theorem k_140_801 : cod 140 801 = some (.inl (.iconst 2), 1) := rfl
set_option maxRecDepth 100000 in
theorem k_140_802 : cod 140 802 = some (.inl .iadd, 1) := rfl
set_option maxRecDepth 100000 in
theorem k_140_803 : cod 140 803 = some (.inl .iaload, 1) := rfl
set_option maxRecDepth 100000 in
theorem k_140_804 : cod 140 804 = some (.inl (.aload_n 3), 1) := rfl
set_option maxRecDepth 100000 in
theorem k_140_805 : cod 140 805 = some (.inr (17, 77, 4, 0, 0), 3) := rfl
set_option maxRecDepth 100000 in
theorem k_140_808 : cod 140 808 = some (.inl (.istore 5), 2) := rfl
set_option maxRecDepth 100000 in
theorem k_140_810 : cod 140 810 = some (.inl (.aload_n 2), 1) := rfl
set_option maxRecDepth 100000 in
theorem k_140_811 : cod 140 811 = some (.inl (.aload_n 0), 1) := rfl
set_option maxRecDepth 100000 in
theorem k_140_812 : cod 140 812 = some (.inl (.iload 4), 2) := rfl
set_option maxRecDepth 100000 in
theorem k_140_814 : cod 140 814 = some (.inl (.iconst 1), 1) := rfl
set_option maxRecDepth 100000 in
theorem k_140_815 : cod 140 815 = some (.inl .iadd, 1) := rfl
set_option maxRecDepth 100000 in
theorem k_140_816 : cod 140 816 = some (.inl .iaload, 1) := rfl
set_option maxRecDepth 100000 in
theorem k_140_817 : cod 140 817 = some (.inl (.aload_n 0), 1) := rfl
set_option maxRecDepth 100000 in
theorem k_140_818 : cod 140 818 = some (.inl (.iload 4), 2) := rfl
set_option maxRecDepth 100000 in
theorem k_140_820 : cod 140 820 = some (.inl (.iconst 2), 1) := rfl
set_option maxRecDepth 100000 in
theorem k_140_821 : cod 140 821 = some (.inl .iadd, 1) := rfl
set_option maxRecDepth 100000 in
theorem k_140_822 : cod 140 822 = some (.inl .iaload, 1) := rfl
set_option maxRecDepth 100000 in
theorem k_140_823 : cod 140 823 = some (.inr (17, 133, 3, 1, 9), 3) := rfl
set_option maxRecDepth 100000 in
theorem k_140_826 : cod 140 826 = some (.inl (.istore 6), 2) := rfl
set_option maxRecDepth 100000 in
theorem k_140_828 : cod 140 828 = some (.inl (.aload_n 2), 1) := rfl
set_option maxRecDepth 100000 in
theorem k_140_829 : cod 140 829 = some (.inr (17, 102, 1, 1, 9), 3) := rfl
set_option maxRecDepth 100000 in
theorem k_140_832 : cod 140 832 = some (.inl (.iload 5), 2) := rfl
set_option maxRecDepth 100000 in
theorem k_140_834 : cod 140 834 = some (.inl (.if_icmp .eq 5), 3) := rfl
set_option maxRecDepth 100000 in
theorem k_140_837 : cod 140 837 = some (.inl (.iconst 0), 1) := rfl
set_option maxRecDepth 100000 in
theorem k_140_838 : cod 140 838 = some (.inl .ireturn, 1) := rfl
set_option maxRecDepth 100000 in
theorem k_140_839 : cod 140 839 = some (.inl (.iload 5), 2) := rfl
set_option maxRecDepth 100000 in
theorem k_140_841 : cod 140 841 = some (.inl (.ifCond .ne 15), 3) := rfl
set_option maxRecDepth 100000 in
theorem k_140_844 : cod 140 844 = some (.inl (.aload_n 3), 1) := rfl
set_option maxRecDepth 100000 in
theorem k_140_845 : cod 140 845 = some (.inl (.iconst 0), 1) := rfl
set_option maxRecDepth 100000 in
theorem k_140_846 : cod 140 846 = some (.inl .laload, 1) := rfl
set_option maxRecDepth 100000 in
theorem k_140_847 : cod 140 847 = some (.inl (.iload 6), 2) := rfl
set_option maxRecDepth 100000 in
theorem k_140_849 : cod 140 849 = some (.inl .i2l, 1) := rfl
set_option maxRecDepth 100000 in
theorem k_140_850 : cod 140 850 = some (.inl .lcmp, 1) := rfl
set_option maxRecDepth 100000 in
theorem k_140_851 : cod 140 851 = some (.inl (.ifCond .eq 5), 3) := rfl
set_option maxRecDepth 100000 in
theorem k_140_854 : cod 140 854 = some (.inl (.iconst 0), 1) := rfl
set_option maxRecDepth 100000 in
theorem k_140_855 : cod 140 855 = some (.inl .ireturn, 1) := rfl
set_option maxRecDepth 100000 in
theorem k_140_856 : cod 140 856 = some (.inl (.goto 288), 3) := rfl
set_option maxRecDepth 100000 in
theorem k_140_859 : cod 140 859 = some (.inl (.aload_n 1), 1) := rfl
set_option maxRecDepth 100000 in
theorem k_140_860 : cod 140 860 = some (.inl (.aload_n 0), 1) := rfl
set_option maxRecDepth 100000 in
theorem k_140_861 : cod 140 861 = some (.inl (.iload 4), 2) := rfl
set_option maxRecDepth 100000 in
theorem k_140_863 : cod 140 863 = some (.inl (.iconst 1), 1) := rfl
set_option maxRecDepth 100000 in
theorem k_140_864 : cod 140 864 = some (.inl .iadd, 1) := rfl
set_option maxRecDepth 100000 in
theorem k_140_865 : cod 140 865 = some (.inl .iaload, 1) := rfl
set_option maxRecDepth 100000 in
theorem k_140_866 : cod 140 866 = some (.inl (.aload_n 0), 1) := rfl
set_option maxRecDepth 100000 in
theorem k_140_867 : cod 140 867 = some (.inl (.iload 4), 2) := rfl
set_option maxRecDepth 100000 in
theorem k_140_869 : cod 140 869 = some (.inl (.iconst 2), 1) := rfl
set_option maxRecDepth 100000 in
theorem k_140_870 : cod 140 870 = some (.inl .iadd, 1) := rfl
set_option maxRecDepth 100000 in
theorem k_140_871 : cod 140 871 = some (.inl .iaload, 1) := rfl
set_option maxRecDepth 100000 in
theorem k_140_872 : cod 140 872 = some (.inl (.aload_n 3), 1) := rfl
set_option maxRecDepth 100000 in
theorem k_140_873 : cod 140 873 = some (.inr (17, 91, 4, 0, 0), 3) := rfl
set_option maxRecDepth 100000 in
theorem k_140_876 : cod 140 876 = some (.inl (.istore 5), 2) := rfl
set_option maxRecDepth 100000 in
theorem k_140_878 : cod 140 878 = some (.inl (.aload_n 2), 1) := rfl
set_option maxRecDepth 100000 in
theorem k_140_879 : cod 140 879 = some (.inl (.aload_n 0), 1) := rfl
set_option maxRecDepth 100000 in
theorem k_140_880 : cod 140 880 = some (.inl (.iload 4), 2) := rfl
set_option maxRecDepth 100000 in
theorem k_140_882 : cod 140 882 = some (.inl (.iconst 1), 1) := rfl
set_option maxRecDepth 100000 in
theorem k_140_883 : cod 140 883 = some (.inl .iadd, 1) := rfl
set_option maxRecDepth 100000 in
theorem k_140_884 : cod 140 884 = some (.inl .iaload, 1) := rfl
set_option maxRecDepth 100000 in
theorem k_140_885 : cod 140 885 = some (.inl (.aload_n 0), 1) := rfl
set_option maxRecDepth 100000 in
theorem k_140_886 : cod 140 886 = some (.inl (.iload 4), 2) := rfl
set_option maxRecDepth 100000 in
theorem k_140_888 : cod 140 888 = some (.inl (.iconst 2), 1) := rfl
set_option maxRecDepth 100000 in
theorem k_140_889 : cod 140 889 = some (.inl .iadd, 1) := rfl
set_option maxRecDepth 100000 in
theorem k_140_890 : cod 140 890 = some (.inl .iaload, 1) := rfl
set_option maxRecDepth 100000 in
theorem k_140_891 : cod 140 891 = some (.inr (17, 135, 3, 1, 9), 3) := rfl
set_option maxRecDepth 100000 in
theorem k_140_894 : cod 140 894 = some (.inl (.istore 6), 2) := rfl
set_option maxRecDepth 100000 in
theorem k_140_896 : cod 140 896 = some (.inl (.aload_n 2), 1) := rfl
set_option maxRecDepth 100000 in
theorem k_140_897 : cod 140 897 = some (.inr (17, 102, 1, 1, 9), 3) := rfl
set_option maxRecDepth 100000 in
theorem k_140_900 : cod 140 900 = some (.inl (.iload 5), 2) := rfl
set_option maxRecDepth 100000 in
theorem k_140_902 : cod 140 902 = some (.inl (.if_icmp .eq 5), 3) := rfl
set_option maxRecDepth 100000 in
theorem k_140_905 : cod 140 905 = some (.inl (.iconst 0), 1) := rfl
set_option maxRecDepth 100000 in
theorem k_140_906 : cod 140 906 = some (.inl .ireturn, 1) := rfl
set_option maxRecDepth 100000 in
theorem k_140_907 : cod 140 907 = some (.inl (.iload 5), 2) := rfl
set_option maxRecDepth 100000 in
theorem k_140_909 : cod 140 909 = some (.inl (.ifCond .ne 15), 3) := rfl
set_option maxRecDepth 100000 in
theorem k_140_912 : cod 140 912 = some (.inl (.aload_n 3), 1) := rfl
set_option maxRecDepth 100000 in
theorem k_140_913 : cod 140 913 = some (.inl (.iconst 0), 1) := rfl
set_option maxRecDepth 100000 in
theorem k_140_914 : cod 140 914 = some (.inl .laload, 1) := rfl
set_option maxRecDepth 100000 in
theorem k_140_915 : cod 140 915 = some (.inl (.iload 6), 2) := rfl
set_option maxRecDepth 100000 in
theorem k_140_917 : cod 140 917 = some (.inl .i2l, 1) := rfl
set_option maxRecDepth 100000 in
theorem k_140_918 : cod 140 918 = some (.inl .lcmp, 1) := rfl
set_option maxRecDepth 100000 in
theorem k_140_919 : cod 140 919 = some (.inl (.ifCond .eq 5), 3) := rfl
set_option maxRecDepth 100000 in
theorem k_140_922 : cod 140 922 = some (.inl (.iconst 0), 1) := rfl
set_option maxRecDepth 100000 in
theorem k_140_923 : cod 140 923 = some (.inl .ireturn, 1) := rfl
set_option maxRecDepth 100000 in
theorem k_140_924 : cod 140 924 = some (.inl (.goto 220), 3) := rfl
set_option maxRecDepth 100000 in
theorem k_140_927 : cod 140 927 = some (.inl (.aload_n 1), 1) := rfl
set_option maxRecDepth 100000 in
theorem k_140_928 : cod 140 928 = some (.inl (.aload_n 0), 1) := rfl
set_option maxRecDepth 100000 in
theorem k_140_929 : cod 140 929 = some (.inl (.iload 4), 2) := rfl
set_option maxRecDepth 100000 in
theorem k_140_931 : cod 140 931 = some (.inl (.iconst 1), 1) := rfl
set_option maxRecDepth 100000 in
theorem k_140_932 : cod 140 932 = some (.inl .iadd, 1) := rfl
set_option maxRecDepth 100000 in
theorem k_140_933 : cod 140 933 = some (.inl .iaload, 1) := rfl
set_option maxRecDepth 100000 in
theorem k_140_934 : cod 140 934 = some (.inl (.aload_n 0), 1) := rfl
set_option maxRecDepth 100000 in
theorem k_140_935 : cod 140 935 = some (.inl (.iload 4), 2) := rfl
set_option maxRecDepth 100000 in
theorem k_140_937 : cod 140 937 = some (.inl (.iconst 2), 1) := rfl
set_option maxRecDepth 100000 in
theorem k_140_938 : cod 140 938 = some (.inl .iadd, 1) := rfl
set_option maxRecDepth 100000 in
theorem k_140_939 : cod 140 939 = some (.inl .iaload, 1) := rfl
set_option maxRecDepth 100000 in
theorem k_140_940 : cod 140 940 = some (.inl (.aload_n 3), 1) := rfl
set_option maxRecDepth 100000 in
theorem k_140_941 : cod 140 941 = some (.inr (17, 94, 4, 0, 0), 3) := rfl
set_option maxRecDepth 100000 in
theorem k_140_944 : cod 140 944 = some (.inl (.istore 5), 2) := rfl
set_option maxRecDepth 100000 in
theorem k_140_946 : cod 140 946 = some (.inl (.aload_n 2), 1) := rfl
set_option maxRecDepth 100000 in
theorem k_140_947 : cod 140 947 = some (.inl (.aload_n 0), 1) := rfl
set_option maxRecDepth 100000 in
theorem k_140_948 : cod 140 948 = some (.inl (.iload 4), 2) := rfl
set_option maxRecDepth 100000 in
theorem k_140_950 : cod 140 950 = some (.inl (.iconst 1), 1) := rfl
set_option maxRecDepth 100000 in
theorem k_140_951 : cod 140 951 = some (.inl .iadd, 1) := rfl
set_option maxRecDepth 100000 in
theorem k_140_952 : cod 140 952 = some (.inl .iaload, 1) := rfl
set_option maxRecDepth 100000 in
theorem k_140_953 : cod 140 953 = some (.inl (.aload_n 0), 1) := rfl
set_option maxRecDepth 100000 in
theorem k_140_954 : cod 140 954 = some (.inl (.iload 4), 2) := rfl
set_option maxRecDepth 100000 in
theorem k_140_956 : cod 140 956 = some (.inl (.iconst 2), 1) := rfl
set_option maxRecDepth 100000 in
theorem k_140_957 : cod 140 957 = some (.inl .iadd, 1) := rfl
set_option maxRecDepth 100000 in
theorem k_140_958 : cod 140 958 = some (.inl .iaload, 1) := rfl
set_option maxRecDepth 100000 in
theorem k_140_959 : cod 140 959 = some (.inr (17, 136, 3, 1, 9), 3) := rfl
set_option maxRecDepth 100000 in
theorem k_140_962 : cod 140 962 = some (.inl (.istore 6), 2) := rfl
set_option maxRecDepth 100000 in
theorem k_140_964 : cod 140 964 = some (.inl (.aload_n 2), 1) := rfl
set_option maxRecDepth 100000 in
theorem k_140_965 : cod 140 965 = some (.inr (17, 102, 1, 1, 9), 3) := rfl
set_option maxRecDepth 100000 in
theorem k_140_968 : cod 140 968 = some (.inl (.iload 5), 2) := rfl
set_option maxRecDepth 100000 in
theorem k_140_970 : cod 140 970 = some (.inl (.if_icmp .eq 5), 3) := rfl
set_option maxRecDepth 100000 in
theorem k_140_973 : cod 140 973 = some (.inl (.iconst 0), 1) := rfl
set_option maxRecDepth 100000 in
theorem k_140_974 : cod 140 974 = some (.inl .ireturn, 1) := rfl
set_option maxRecDepth 100000 in
theorem k_140_975 : cod 140 975 = some (.inl (.iload 5), 2) := rfl
set_option maxRecDepth 100000 in
theorem k_140_977 : cod 140 977 = some (.inl (.ifCond .ne 15), 3) := rfl
set_option maxRecDepth 100000 in
theorem k_140_980 : cod 140 980 = some (.inl (.aload_n 3), 1) := rfl
set_option maxRecDepth 100000 in
theorem k_140_981 : cod 140 981 = some (.inl (.iconst 0), 1) := rfl
set_option maxRecDepth 100000 in
theorem k_140_982 : cod 140 982 = some (.inl .laload, 1) := rfl
set_option maxRecDepth 100000 in
theorem k_140_983 : cod 140 983 = some (.inl (.iload 6), 2) := rfl
set_option maxRecDepth 100000 in
theorem k_140_985 : cod 140 985 = some (.inl .i2l, 1) := rfl
set_option maxRecDepth 100000 in
theorem k_140_986 : cod 140 986 = some (.inl .lcmp, 1) := rfl
set_option maxRecDepth 100000 in
theorem k_140_987 : cod 140 987 = some (.inl (.ifCond .eq 5), 3) := rfl
set_option maxRecDepth 100000 in
theorem k_140_990 : cod 140 990 = some (.inl (.iconst 0), 1) := rfl
set_option maxRecDepth 100000 in
theorem k_140_991 : cod 140 991 = some (.inl .ireturn, 1) := rfl
set_option maxRecDepth 100000 in
theorem k_140_992 : cod 140 992 = some (.inl (.goto 152), 3) := rfl
set_option maxRecDepth 100000 in
theorem k_140_995 : cod 140 995 = some (.inl (.aload_n 1), 1) := rfl
set_option maxRecDepth 100000 in
theorem k_140_996 : cod 140 996 = some (.inl (.aload_n 0), 1) := rfl
set_option maxRecDepth 100000 in
theorem k_140_997 : cod 140 997 = some (.inl (.iload 4), 2) := rfl
set_option maxRecDepth 100000 in
theorem k_140_999 : cod 140 999 = some (.inl (.iconst 1), 1) := rfl
set_option maxRecDepth 100000 in
theorem k_140_1000 : cod 140 1000 = some (.inl .iadd, 1) := rfl
set_option maxRecDepth 100000 in
theorem k_140_1001 : cod 140 1001 = some (.inl .iaload, 1) := rfl
set_option maxRecDepth 100000 in
theorem k_140_1002 : cod 140 1002 = some (.inl (.aload_n 0), 1) := rfl
set_option maxRecDepth 100000 in
theorem k_140_1003 : cod 140 1003 = some (.inl (.iload 4), 2) := rfl
set_option maxRecDepth 100000 in
theorem k_140_1005 : cod 140 1005 = some (.inl (.iconst 2), 1) := rfl
set_option maxRecDepth 100000 in
theorem k_140_1006 : cod 140 1006 = some (.inl .iadd, 1) := rfl
set_option maxRecDepth 100000 in
theorem k_140_1007 : cod 140 1007 = some (.inl .iaload, 1) := rfl
set_option maxRecDepth 100000 in
theorem k_140_1008 : cod 140 1008 = some (.inl (.aload_n 3), 1) := rfl
set_option maxRecDepth 100000 in
theorem k_140_1009 : cod 140 1009 = some (.inr (17, 96, 4, 0, 0), 3) := rfl
set_option maxRecDepth 100000 in
theorem k_140_1012 : cod 140 1012 = some (.inl (.istore 5), 2) := rfl
set_option maxRecDepth 100000 in
theorem k_140_1014 : cod 140 1014 = some (.inl (.aload_n 2), 1) := rfl
set_option maxRecDepth 100000 in
theorem k_140_1015 : cod 140 1015 = some (.inl (.aload_n 0), 1) := rfl
set_option maxRecDepth 100000 in
theorem k_140_1016 : cod 140 1016 = some (.inl (.iload 4), 2) := rfl
set_option maxRecDepth 100000 in
theorem k_140_1018 : cod 140 1018 = some (.inl (.iconst 1), 1) := rfl
set_option maxRecDepth 100000 in
theorem k_140_1019 : cod 140 1019 = some (.inl .iadd, 1) := rfl
set_option maxRecDepth 100000 in
theorem k_140_1020 : cod 140 1020 = some (.inl .iaload, 1) := rfl
set_option maxRecDepth 100000 in
theorem k_140_1021 : cod 140 1021 = some (.inl (.aload_n 0), 1) := rfl
set_option maxRecDepth 100000 in
theorem k_140_1022 : cod 140 1022 = some (.inl (.iload 4), 2) := rfl
set_option maxRecDepth 100000 in
theorem k_140_1024 : cod 140 1024 = some (.inl (.iconst 2), 1) := rfl
set_option maxRecDepth 100000 in
theorem k_140_1025 : cod 140 1025 = some (.inl .iadd, 1) := rfl
set_option maxRecDepth 100000 in
theorem k_140_1026 : cod 140 1026 = some (.inl .iaload, 1) := rfl
set_option maxRecDepth 100000 in
theorem k_140_1027 : cod 140 1027 = some (.inr (17, 137, 3, 1, 9), 3) := rfl
set_option maxRecDepth 100000 in
theorem k_140_1030 : cod 140 1030 = some (.inl (.istore 6), 2) := rfl
set_option maxRecDepth 100000 in
theorem k_140_1032 : cod 140 1032 = some (.inl (.aload_n 2), 1) := rfl
set_option maxRecDepth 100000 in
theorem k_140_1033 : cod 140 1033 = some (.inr (17, 102, 1, 1, 9), 3) := rfl
set_option maxRecDepth 100000 in
theorem k_140_1036 : cod 140 1036 = some (.inl (.iload 5), 2) := rfl
set_option maxRecDepth 100000 in
theorem k_140_1038 : cod 140 1038 = some (.inl (.if_icmp .eq 5), 3) := rfl
set_option maxRecDepth 100000 in
theorem k_140_1041 : cod 140 1041 = some (.inl (.iconst 0), 1) := rfl
set_option maxRecDepth 100000 in
theorem k_140_1042 : cod 140 1042 = some (.inl .ireturn, 1) := rfl
set_option maxRecDepth 100000 in
theorem k_140_1043 : cod 140 1043 = some (.inl (.iload 5), 2) := rfl
set_option maxRecDepth 100000 in
theorem k_140_1045 : cod 140 1045 = some (.inl (.ifCond .ne 15), 3) := rfl
set_option maxRecDepth 100000 in
theorem k_140_1048 : cod 140 1048 = some (.inl (.aload_n 3), 1) := rfl
set_option maxRecDepth 100000 in
theorem k_140_1049 : cod 140 1049 = some (.inl (.iconst 0), 1) := rfl
set_option maxRecDepth 100000 in
theorem k_140_1050 : cod 140 1050 = some (.inl .laload, 1) := rfl
set_option maxRecDepth 100000 in
theorem k_140_1051 : cod 140 1051 = some (.inl (.iload 6), 2) := rfl
set_option maxRecDepth 100000 in
theorem k_140_1053 : cod 140 1053 = some (.inl .i2l, 1) := rfl
set_option maxRecDepth 100000 in
theorem k_140_1054 : cod 140 1054 = some (.inl .lcmp, 1) := rfl
set_option maxRecDepth 100000 in
theorem k_140_1055 : cod 140 1055 = some (.inl (.ifCond .eq 5), 3) := rfl
set_option maxRecDepth 100000 in
theorem k_140_1058 : cod 140 1058 = some (.inl (.iconst 0), 1) := rfl
set_option maxRecDepth 100000 in
theorem k_140_1059 : cod 140 1059 = some (.inl .ireturn, 1) := rfl
set_option maxRecDepth 100000 in
theorem k_140_1060 : cod 140 1060 = some (.inl (.goto 84), 3) := rfl
set_option maxRecDepth 100000 in
theorem k_140_1063 : cod 140 1063 = some (.inl (.aload_n 1), 1) := rfl
set_option maxRecDepth 100000 in
theorem k_140_1064 : cod 140 1064 = some (.inl (.aload_n 0), 1) := rfl
set_option maxRecDepth 100000 in
theorem k_140_1065 : cod 140 1065 = some (.inl (.iload 4), 2) := rfl
set_option maxRecDepth 100000 in
theorem k_140_1067 : cod 140 1067 = some (.inl (.iconst 1), 1) := rfl
set_option maxRecDepth 100000 in
theorem k_140_1068 : cod 140 1068 = some (.inl .iadd, 1) := rfl
set_option maxRecDepth 100000 in
theorem k_140_1069 : cod 140 1069 = some (.inl .iaload, 1) := rfl
set_option maxRecDepth 100000 in
theorem k_140_1070 : cod 140 1070 = some (.inl (.aload_n 3), 1) := rfl
set_option maxRecDepth 100000 in
theorem k_140_1071 : cod 140 1071 = some (.inr (17, 99, 3, 0, 0), 3) := rfl
set_option maxRecDepth 100000 in
theorem k_140_1074 : cod 140 1074 = some (.inl (.istore 5), 2) := rfl
set_option maxRecDepth 100000 in
theorem k_140_1076 : cod 140 1076 = some (.inl (.aload_n 2), 1) := rfl
set_option maxRecDepth 100000 in
theorem k_140_1077 : cod 140 1077 = some (.inl (.aload_n 0), 1) := rfl
set_option maxRecDepth 100000 in
theorem k_140_1078 : cod 140 1078 = some (.inl (.iload 4), 2) := rfl
set_option maxRecDepth 100000 in
theorem k_140_1080 : cod 140 1080 = some (.inl (.iconst 1), 1) := rfl
set_option maxRecDepth 100000 in
theorem k_140_1081 : cod 140 1081 = some (.inl .iadd, 1) := rfl
set_option maxRecDepth 100000 in
theorem k_140_1082 : cod 140 1082 = some (.inl .iaload, 1) := rfl
set_option maxRecDepth 100000 in
theorem k_140_1083 : cod 140 1083 = some (.inr (17, 138, 2, 1, 9), 3) := rfl
set_option maxRecDepth 100000 in
theorem k_140_1086 : cod 140 1086 = some (.inl (.istore 6), 2) := rfl
set_option maxRecDepth 100000 in
theorem k_140_1088 : cod 140 1088 = some (.inl (.aload_n 2), 1) := rfl
set_option maxRecDepth 100000 in
theorem k_140_1089 : cod 140 1089 = some (.inr (17, 102, 1, 1, 9), 3) := rfl
set_option maxRecDepth 100000 in
theorem k_140_1092 : cod 140 1092 = some (.inl (.iload 5), 2) := rfl
set_option maxRecDepth 100000 in
theorem k_140_1094 : cod 140 1094 = some (.inl (.if_icmp .eq 5), 3) := rfl
set_option maxRecDepth 100000 in
theorem k_140_1097 : cod 140 1097 = some (.inl (.iconst 0), 1) := rfl
set_option maxRecDepth 100000 in
theorem k_140_1098 : cod 140 1098 = some (.inl .ireturn, 1) := rfl
set_option maxRecDepth 100000 in
theorem k_140_1099 : cod 140 1099 = some (.inl (.iload 5), 2) := rfl
set_option maxRecDepth 100000 in
theorem k_140_1101 : cod 140 1101 = some (.inl (.ifCond .ne 15), 3) := rfl
set_option maxRecDepth 100000 in
theorem k_140_1104 : cod 140 1104 = some (.inl (.aload_n 3), 1) := rfl
set_option maxRecDepth 100000 in
theorem k_140_1105 : cod 140 1105 = some (.inl (.iconst 0), 1) := rfl
set_option maxRecDepth 100000 in
theorem k_140_1106 : cod 140 1106 = some (.inl .laload, 1) := rfl
set_option maxRecDepth 100000 in
theorem k_140_1107 : cod 140 1107 = some (.inl (.iload 6), 2) := rfl
set_option maxRecDepth 100000 in
theorem k_140_1109 : cod 140 1109 = some (.inl .i2l, 1) := rfl
set_option maxRecDepth 100000 in
theorem k_140_1110 : cod 140 1110 = some (.inl .lcmp, 1) := rfl
set_option maxRecDepth 100000 in
theorem k_140_1111 : cod 140 1111 = some (.inl (.ifCond .eq 5), 3) := rfl
set_option maxRecDepth 100000 in
theorem k_140_1114 : cod 140 1114 = some (.inl (.iconst 0), 1) := rfl
set_option maxRecDepth 100000 in
theorem k_140_1115 : cod 140 1115 = some (.inl .ireturn, 1) := rfl
set_option maxRecDepth 100000 in
theorem k_140_1116 : cod 140 1116 = some (.inl (.goto 28), 3) := rfl
set_option maxRecDepth 100000 in
theorem k_140_1119 : cod 140 1119 = some (.inl (.aload_n 1), 1) := rfl
set_option maxRecDepth 100000 in
theorem k_140_1120 : cod 140 1120 = some (.inl (.aload_n 0), 1) := rfl
set_option maxRecDepth 100000 in
theorem k_140_1121 : cod 140 1121 = some (.inl (.iload 4), 2) := rfl
set_option maxRecDepth 100000 in
theorem k_140_1123 : cod 140 1123 = some (.inl (.iconst 1), 1) := rfl
set_option maxRecDepth 100000 in
theorem k_140_1124 : cod 140 1124 = some (.inl .iadd, 1) := rfl
set_option maxRecDepth 100000 in
theorem k_140_1125 : cod 140 1125 = some (.inl .iaload, 1) := rfl
set_option maxRecDepth 100000 in
theorem k_140_1126 : cod 140 1126 = some (.inr (17, 5, 2, 1, 0), 3) := rfl
set_option maxRecDepth 100000 in
theorem k_140_1129 : cod 140 1129 = some (.inl (.aload_n 2), 1) := rfl
set_option maxRecDepth 100000 in
theorem k_140_1130 : cod 140 1130 = some (.inl (.aload_n 0), 1) := rfl
set_option maxRecDepth 100000 in
theorem k_140_1131 : cod 140 1131 = some (.inl (.iload 4), 2) := rfl
set_option maxRecDepth 100000 in
theorem k_140_1133 : cod 140 1133 = some (.inl (.iconst 1), 1) := rfl
set_option maxRecDepth 100000 in
theorem k_140_1134 : cod 140 1134 = some (.inl .iadd, 1) := rfl
set_option maxRecDepth 100000 in
theorem k_140_1135 : cod 140 1135 = some (.inl .iaload, 1) := rfl
set_option maxRecDepth 100000 in
theorem k_140_1136 : cod 140 1136 = some (.inr (17, 139, 2, 1, 9), 3) := rfl
set_option maxRecDepth 100000 in
theorem k_140_1139 : cod 140 1139 = some (.inl (.if_icmp .eq 5), 3) := rfl
set_option maxRecDepth 100000 in
theorem k_140_1142 : cod 140 1142 = some (.inl (.iconst 0), 1) := rfl
set_option maxRecDepth 100000 in
theorem k_140_1143 : cod 140 1143 = some (.inl .ireturn, 1) := rfl
set_option maxRecDepth 100000 in
theorem k_140_1144 : cod 140 1144 = some (.inl (.iinc 4 5), 3) := rfl
set_option maxRecDepth 100000 in
theorem k_140_1147 : cod 140 1147 = some (.inl (.goto (-1124)), 3) := rfl
set_option maxRecDepth 100000 in
theorem k_140_1150 : cod 140 1150 = some (.inl (.iconst 1), 1) := rfl
set_option maxRecDepth 100000 in
theorem k_140_1151 : cod 140 1151 = some (.inl .ireturn, 1) := rfl
