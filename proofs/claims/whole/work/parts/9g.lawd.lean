section LD
variable {ad : AD} {ow : OW} {K : KK} {h : AH} {C : Nat → Int} {A I : Nat → Nat → Int} {F : Nat → Nat → Nat → Int} {Ls : Nat → List Nat} {cp : Nat → Nat} {Q : AR → AH → Prop}
variable {as ao scr am len : Nat} {adm : Nat → Nat} {xs : Nat → Int} {v0 c : Int} {S N n : Nat}
theorem hsm_b (b : RB C A) : ∀ m : Nat, 0 ≤ hsm A m ∧ hsm A m ≤ 500 * m := by
  intro m
  induction m with
  | zero => exact ⟨Int.le_refl _, Int.le_refl _⟩
  | succ m ih =>
    have := b.v21 m
    simp only [hsm]
    omega
theorem msm_b : ∀ m : Nat, 0 ≤ msm A m ∧ msm A m ≤ m := by
  intro m
  induction m with
  | zero => exact ⟨Int.le_refl _, Int.le_refl _⟩
  | succ m ih =>
    simp only [msm]
    split <;> omega
theorem cnR_b (b : RB C A) {x : Int} : inR (cnR C A x) := by
  have b1 := b.c1
  have b2 := b.c2
  have b3 := b.c3
  have b5 := b.c5
  have b6 := b.c6
  have h1 := hsm_b b (C 1).toNat
  have h2 := msm_b (A := A) (C 5).toNat
  unfold cnR inR
  split
  · omega
  · split
    · omega
    · split
      · omega
      · split
        · omega
        · split
          · omega
          · split <;> omega
theorem and15 (x : Int) : 0 ≤ f_and x 15 ∧ f_and x 15 ≤ 15 := by
  have h1 : (Int32.ofInt x &&& 15).toBitVec.toNat ≤ 15 := by
    have e : (Int32.ofInt x &&& 15).toBitVec = (Int32.ofInt x).toBitVec &&& 15#32 := rfl
    rw [e, BitVec.toNat_and]
    exact Nat.and_le_right
  have h2 : f_and x 15 = (Int32.ofInt x &&& 15).toBitVec.toInt := rfl
  rw [h2, BitVec.toInt_eq_toNat_of_lt (by omega)]
  omega
theorem lor_l (x y : Int) : inL (f_lor x y) := ⟨Int64.le_toInt _, Int64.toInt_lt _⟩
theorem lb_sites (hxs : ∀ j, inR (xs j)) (lst : LST as ao scr am adm len xs v0 S N n c h) (hi : 5 * n + 5 ≤ len) (hn : n < 512) {l5 l6 l7 : Option AV} (k : ∀ v1 c1 h' l5 l6 l7, LST as ao scr am adm len xs v1 (S + 4200) (N + 1100) (n + 1) c1 h' → Rn 140 1144 [some (aR scr), some (aR as), some (aR am), some (aR ao), some (aI ((5 * n : Nat) : Int)), l5, l6, l7] [] h' Q) : Rn 140 116 [some (aR scr), some (aR as), some (aR am), some (aR ao), some (aI ((5 * n : Nat) : Int)), l5, l6, l7] [] h Q := by
  obtain ⟨C, A, I, Ls, c0, v, l⟩ := lst
  refine x_aload_n k_140_116 rfl ?_
  refine x_aload_n k_140_117 rfl ?_
  refine x_iload k_140_118 rfl ?_
  refine x_iconst k_140_120 ?_
  refine x_iadd k_140_121 ?_
  refine x_iaload k_140_122 l.sc (Or.inr rfl) (by omega) (by omega) ?_
  refine x_call2 k_140_123 (Nat.le_of_ble_eq_true rfl) rfl (Nat.le_of_ble_eq_true rfl) ?_
  refine b_sites l v c0 hn (hxs _) (fun c1 v1 p1 h1 hc l1 rf => bh_1 ?_)
  refine x_is5 k_140_126 rfl ?_
  refine x_aload_n k_140_128 rfl ?_
  refine x_aload_n k_140_129 rfl ?_
  refine x_iload k_140_130 rfl ?_
  refine x_iconst k_140_132 ?_
  refine x_iadd k_140_133 ?_
  refine x_iaload k_140_134 l1.sc (Or.inr rfl) (by omega) (by omega) ?_
  refine x_call2 k_140_135 (Nat.le_of_ble_eq_true rfl) (rcv_1 l1.mp.1) (Nat.le_of_ble_eq_true rfl) ?_
  refine rf _ (fun b h2 hb lst => bh_v ?_)
  have lst2 := lst
  obtain ⟨C2, A2, I2, Ls2, c2, v2, l2⟩ := lst2
  refine x_aload_n k_140_138 rfl ?_
  refine x_call1 k_140_139 (Nat.le_of_ble_eq_true rfl) (rcv_1 l2.mp.1) (Nat.le_of_ble_eq_true rfl) ?_
  refine r_thrown l2.mp (bh_1 ?_)
  show Rn 140 142 _ [aI c1] h2 Q
  refine x_iload k_140_142 rfl ?_
  refine x_icmpeq (t := 149) k_140_144 rfl ⟨hc, hc⟩ (fun _ => ?_) (fun q => absurd rfl q)
  refine x_goto (t := 1144) k_140_149 rfl ?_
  exact k _ _ _ _ _ _ lst
theorem lb_object (hxs : ∀ j, inR (xs j)) (lst : LST as ao scr am adm len xs v0 S N n c h) (hi : 5 * n + 5 ≤ len) (hn : n < 512) {l5 l6 l7 : Option AV} (k : ∀ v1 c1 h' l5 l6 l7, LST as ao scr am adm len xs v1 (S + 4200) (N + 1100) (n + 1) c1 h' → Rn 140 1144 [some (aR scr), some (aR as), some (aR am), some (aR ao), some (aI ((5 * n : Nat) : Int)), l5, l6, l7] [] h' Q) : Rn 140 152 [some (aR scr), some (aR as), some (aR am), some (aR ao), some (aI ((5 * n : Nat) : Int)), l5, l6, l7] [] h Q := by
  obtain ⟨C, A, I, Ls, c0, v, l⟩ := lst
  by_cases hz : (xs (((5 * n : Nat) : Int) + 2).toNat) = 0
  · refine x_aload_n k_140_152 rfl ?_
    refine x_aload_n k_140_153 rfl ?_
    refine x_iload k_140_154 rfl ?_
    refine x_iconst k_140_156 ?_
    refine x_iadd k_140_157 ?_
    refine x_iaload k_140_158 l.sc (Or.inr rfl) (by omega) (by omega) ?_
    refine x_aload_n k_140_159 rfl ?_
    refine x_iload k_140_160 rfl ?_
    refine x_iconst k_140_162 ?_
    refine x_iadd k_140_163 ?_
    refine x_iaload k_140_164 l.sc (Or.inr rfl) (by omega) (by omega) ?_
    refine x_ifeq (t := 172) k_140_165 rfl (hxs _) (fun _ => ?_) (fun q => absurd hz q)
    refine x_iconst k_140_172 ?_
    refine x_aload_n k_140_173 rfl ?_
    refine x_call4 k_140_174 (Nat.le_of_ble_eq_true rfl) rfl (Nat.le_of_ble_eq_true rfl) ?_
    refine b_object (wb := false) l v c0 hn (hxs _) (fun c1 v1 p1 h1 hc l1 rf => bh_1 ?_)
    refine x_is5 k_140_177 rfl ?_
    refine x_aload_n k_140_179 rfl ?_
    refine x_aload_n k_140_180 rfl ?_
    refine x_iload k_140_181 rfl ?_
    refine x_iconst k_140_183 ?_
    refine x_iadd k_140_184 ?_
    refine x_iaload k_140_185 l1.sc (Or.inr rfl) (by omega) (by omega) ?_
    refine x_aload_n k_140_186 rfl ?_
    refine x_iload k_140_187 rfl ?_
    refine x_iconst k_140_189 ?_
    refine x_iadd k_140_190 ?_
    refine x_iaload k_140_191 l1.sc (Or.inr rfl) (by omega) (by omega) ?_
    refine x_ifeq (t := 199) k_140_192 rfl (hxs _) (fun _ => ?_) (fun q => absurd hz q)
    refine x_iconst k_140_199 ?_
    refine x_call3 k_140_200 (Nat.le_of_ble_eq_true rfl) (rcv_1 l1.mp.1) (Nat.le_of_ble_eq_true rfl) ?_
    refine rf _ (fun b h2 hb lst => bh_1 ?_)
    have lst2 := lst
    obtain ⟨C2, A2, I2, Ls2, c2, v2, l2⟩ := lst2
    refine x_is6 k_140_203 rfl ?_
    refine x_aload_n k_140_205 rfl ?_
    refine x_call1 k_140_206 (Nat.le_of_ble_eq_true rfl) (rcv_1 l2.mp.1) (Nat.le_of_ble_eq_true rfl) ?_
    refine r_thrown l2.mp (bh_1 ?_)
    show Rn 140 209 _ [aI c1] h2 Q
    refine x_iload k_140_209 rfl ?_
    refine x_icmpeq (t := 216) k_140_211 rfl ⟨hc, hc⟩ (fun _ => ?_) (fun q => absurd rfl q)
    refine x_iload k_140_216 rfl ?_
    refine x_ifne (t := 233) k_140_218 rfl hc (fun _ => ?_) (fun q => ?_)
    · refine x_goto (t := 1144) k_140_233 rfl ?_
      exact k _ _ _ _ _ _ lst
    · obtain ⟨e, rb⟩ := hb (Decidable.not_not.mp q)
      obtain ⟨f, hf, f0⟩ := l2.out
      refine x_aload_n k_140_221 rfl ?_
      refine x_iconst k_140_222 ?_
      refine x_laload k_140_223 hf (by decide) (by decide) ?_
      show Rn 140 224 _ [aL (f 0)] h2 Q
      rw [f0, e]
      refine x_iload k_140_224 rfl ?_
      refine x_i2l k_140_226 rb ?_
      refine x_lcmp k_140_227 ⟨by omega, by omega⟩ ?_
      rw [if_neg (Int.lt_irrefl _), if_pos rfl]
      refine x_ifeq (t := 233) k_140_228 rfl (by decide) (fun _ => ?_) (fun q => absurd rfl q)
      refine x_goto (t := 1144) k_140_233 rfl ?_
      exact k _ _ _ _ _ _ lst
  · refine x_aload_n k_140_152 rfl ?_
    refine x_aload_n k_140_153 rfl ?_
    refine x_iload k_140_154 rfl ?_
    refine x_iconst k_140_156 ?_
    refine x_iadd k_140_157 ?_
    refine x_iaload k_140_158 l.sc (Or.inr rfl) (by omega) (by omega) ?_
    refine x_aload_n k_140_159 rfl ?_
    refine x_iload k_140_160 rfl ?_
    refine x_iconst k_140_162 ?_
    refine x_iadd k_140_163 ?_
    refine x_iaload k_140_164 l.sc (Or.inr rfl) (by omega) (by omega) ?_
    refine x_ifeq (t := 172) k_140_165 rfl (hxs _) (fun q => absurd q hz) (fun _ => ?_)
    refine x_iconst k_140_168 ?_
    refine x_goto (t := 173) k_140_169 rfl ?_
    refine x_aload_n k_140_173 rfl ?_
    refine x_call4 k_140_174 (Nat.le_of_ble_eq_true rfl) rfl (Nat.le_of_ble_eq_true rfl) ?_
    refine b_object (wb := true) l v c0 hn (hxs _) (fun c1 v1 p1 h1 hc l1 rf => bh_1 ?_)
    refine x_is5 k_140_177 rfl ?_
    refine x_aload_n k_140_179 rfl ?_
    refine x_aload_n k_140_180 rfl ?_
    refine x_iload k_140_181 rfl ?_
    refine x_iconst k_140_183 ?_
    refine x_iadd k_140_184 ?_
    refine x_iaload k_140_185 l1.sc (Or.inr rfl) (by omega) (by omega) ?_
    refine x_aload_n k_140_186 rfl ?_
    refine x_iload k_140_187 rfl ?_
    refine x_iconst k_140_189 ?_
    refine x_iadd k_140_190 ?_
    refine x_iaload k_140_191 l1.sc (Or.inr rfl) (by omega) (by omega) ?_
    refine x_ifeq (t := 199) k_140_192 rfl (hxs _) (fun q => absurd q hz) (fun _ => ?_)
    refine x_iconst k_140_195 ?_
    refine x_goto (t := 200) k_140_196 rfl ?_
    refine x_call3 k_140_200 (Nat.le_of_ble_eq_true rfl) (rcv_1 l1.mp.1) (Nat.le_of_ble_eq_true rfl) ?_
    refine rf _ (fun b h2 hb lst => bh_1 ?_)
    have lst2 := lst
    obtain ⟨C2, A2, I2, Ls2, c2, v2, l2⟩ := lst2
    refine x_is6 k_140_203 rfl ?_
    refine x_aload_n k_140_205 rfl ?_
    refine x_call1 k_140_206 (Nat.le_of_ble_eq_true rfl) (rcv_1 l2.mp.1) (Nat.le_of_ble_eq_true rfl) ?_
    refine r_thrown l2.mp (bh_1 ?_)
    show Rn 140 209 _ [aI c1] h2 Q
    refine x_iload k_140_209 rfl ?_
    refine x_icmpeq (t := 216) k_140_211 rfl ⟨hc, hc⟩ (fun _ => ?_) (fun q => absurd rfl q)
    refine x_iload k_140_216 rfl ?_
    refine x_ifne (t := 233) k_140_218 rfl hc (fun _ => ?_) (fun q => ?_)
    · refine x_goto (t := 1144) k_140_233 rfl ?_
      exact k _ _ _ _ _ _ lst
    · obtain ⟨e, rb⟩ := hb (Decidable.not_not.mp q)
      obtain ⟨f, hf, f0⟩ := l2.out
      refine x_aload_n k_140_221 rfl ?_
      refine x_iconst k_140_222 ?_
      refine x_laload k_140_223 hf (by decide) (by decide) ?_
      show Rn 140 224 _ [aL (f 0)] h2 Q
      rw [f0, e]
      refine x_iload k_140_224 rfl ?_
      refine x_i2l k_140_226 rb ?_
      refine x_lcmp k_140_227 ⟨by omega, by omega⟩ ?_
      rw [if_neg (Int.lt_irrefl _), if_pos rfl]
      refine x_ifeq (t := 233) k_140_228 rfl (by decide) (fun _ => ?_) (fun q => absurd rfl q)
      refine x_goto (t := 1144) k_140_233 rfl ?_
      exact k _ _ _ _ _ _ lst
theorem lb_begin (hxs : ∀ j, inR (xs j)) (lst : LST as ao scr am adm len xs v0 S N n c h) (hi : 5 * n + 5 ≤ len) (hn : n < 512) {l5 l6 l7 : Option AV} (k : ∀ v1 c1 h' l5 l6 l7, LST as ao scr am adm len xs v1 (S + 4200) (N + 1100) (n + 1) c1 h' → Rn 140 1144 [some (aR scr), some (aR as), some (aR am), some (aR ao), some (aI ((5 * n : Nat) : Int)), l5, l6, l7] [] h' Q) : Rn 140 236 [some (aR scr), some (aR as), some (aR am), some (aR ao), some (aI ((5 * n : Nat) : Int)), l5, l6, l7] [] h Q := by
  obtain ⟨C, A, I, Ls, c0, v, l⟩ := lst
  refine x_aload_n k_140_236 rfl ?_
  refine x_aload_n k_140_237 rfl ?_
  refine x_iload k_140_238 rfl ?_
  refine x_iconst k_140_240 ?_
  refine x_iadd k_140_241 ?_
  refine x_iaload k_140_242 l.sc (Or.inr rfl) (by omega) (by omega) ?_
  refine x_aload_n k_140_243 rfl ?_
  refine x_call3 k_140_244 (Nat.le_of_ble_eq_true rfl) rfl (Nat.le_of_ble_eq_true rfl) ?_
  refine b_begin l v c0 hn (hxs _) (fun c1 v1 p1 h1 hc l1 rf => bh_1 ?_)
  refine x_is5 k_140_247 rfl ?_
  refine x_aload_n k_140_249 rfl ?_
  refine x_aload_n k_140_250 rfl ?_
  refine x_iload k_140_251 rfl ?_
  refine x_iconst k_140_253 ?_
  refine x_iadd k_140_254 ?_
  refine x_iaload k_140_255 l1.sc (Or.inr rfl) (by omega) (by omega) ?_
  refine x_call2 k_140_256 (Nat.le_of_ble_eq_true rfl) (rcv_1 l1.mp.1) (Nat.le_of_ble_eq_true rfl) ?_
  refine rf _ (fun b h2 hb lst => bh_1 ?_)
  have lst2 := lst
  obtain ⟨C2, A2, I2, Ls2, c2, v2, l2⟩ := lst2
  refine x_is6 k_140_259 rfl ?_
  refine x_aload_n k_140_261 rfl ?_
  refine x_call1 k_140_262 (Nat.le_of_ble_eq_true rfl) (rcv_1 l2.mp.1) (Nat.le_of_ble_eq_true rfl) ?_
  refine r_thrown l2.mp (bh_1 ?_)
  show Rn 140 265 _ [aI c1] h2 Q
  refine x_iload k_140_265 rfl ?_
  refine x_icmpeq (t := 272) k_140_267 rfl ⟨hc, hc⟩ (fun _ => ?_) (fun q => absurd rfl q)
  refine x_iload k_140_272 rfl ?_
  refine x_ifne (t := 289) k_140_274 rfl hc (fun _ => ?_) (fun q => ?_)
  · refine x_goto (t := 1144) k_140_289 rfl ?_
    exact k _ _ _ _ _ _ lst
  · obtain ⟨e, rb⟩ := hb (Decidable.not_not.mp q)
    obtain ⟨f, hf, f0⟩ := l2.out
    refine x_aload_n k_140_277 rfl ?_
    refine x_iconst k_140_278 ?_
    refine x_laload k_140_279 hf (by decide) (by decide) ?_
    show Rn 140 280 _ [aL (f 0)] h2 Q
    rw [f0, e]
    refine x_iload k_140_280 rfl ?_
    refine x_i2l k_140_282 rb ?_
    refine x_lcmp k_140_283 ⟨by omega, by omega⟩ ?_
    rw [if_neg (Int.lt_irrefl _), if_pos rfl]
    refine x_ifeq (t := 289) k_140_284 rfl (by decide) (fun _ => ?_) (fun q => absurd rfl q)
    refine x_goto (t := 1144) k_140_289 rfl ?_
    exact k _ _ _ _ _ _ lst
theorem lb_read (hxs : ∀ j, inR (xs j)) (lst : LST as ao scr am adm len xs v0 S N n c h) (hi : 5 * n + 5 ≤ len) (hn : n < 512) {l5 l6 l7 : Option AV} (k : ∀ v1 c1 h' l5 l6 l7, LST as ao scr am adm len xs v1 (S + 4200) (N + 1100) (n + 1) c1 h' → Rn 140 1144 [some (aR scr), some (aR as), some (aR am), some (aR ao), some (aI ((5 * n : Nat) : Int)), l5, l6, l7] [] h' Q) : Rn 140 292 [some (aR scr), some (aR as), some (aR am), some (aR ao), some (aI ((5 * n : Nat) : Int)), l5, l6, l7] [] h Q := by
  obtain ⟨C, A, I, Ls, c0, v, l⟩ := lst
  refine x_aload_n k_140_292 rfl ?_
  refine x_aload_n k_140_293 rfl ?_
  refine x_iload k_140_294 rfl ?_
  refine x_iconst k_140_296 ?_
  refine x_iadd k_140_297 ?_
  refine x_iaload k_140_298 l.sc (Or.inr rfl) (by omega) (by omega) ?_
  refine x_aload_n k_140_299 rfl ?_
  refine x_iload k_140_300 rfl ?_
  refine x_iconst k_140_302 ?_
  refine x_iadd k_140_303 ?_
  refine x_iaload k_140_304 l.sc (Or.inr rfl) (by omega) (by omega) ?_
  refine x_aload_n k_140_305 rfl ?_
  refine x_call4 k_140_306 (Nat.le_of_ble_eq_true rfl) rfl (Nat.le_of_ble_eq_true rfl) ?_
  refine b_read l v c0 hn (hxs _) (hxs _) (fun c1 v1 p1 h1 hc l1 rf => bh_1 ?_)
  refine x_is5 k_140_309 rfl ?_
  refine x_aload_n k_140_311 rfl ?_
  refine x_aload_n k_140_312 rfl ?_
  refine x_iload k_140_313 rfl ?_
  refine x_iconst k_140_315 ?_
  refine x_iadd k_140_316 ?_
  refine x_iaload k_140_317 l1.sc (Or.inr rfl) (by omega) (by omega) ?_
  refine x_aload_n k_140_318 rfl ?_
  refine x_iload k_140_319 rfl ?_
  refine x_iconst k_140_321 ?_
  refine x_iadd k_140_322 ?_
  refine x_iaload k_140_323 l1.sc (Or.inr rfl) (by omega) (by omega) ?_
  refine x_call3 k_140_324 (Nat.le_of_ble_eq_true rfl) (rcv_1 l1.mp.1) (Nat.le_of_ble_eq_true rfl) ?_
  refine rf _ (fun b h2 hb lst => bh_1 ?_)
  have lst2 := lst
  obtain ⟨C2, A2, I2, Ls2, c2, v2, l2⟩ := lst2
  refine x_ls6 k_140_327 rfl ?_
  refine x_aload_n k_140_329 rfl ?_
  refine x_call1 k_140_330 (Nat.le_of_ble_eq_true rfl) (rcv_1 l2.mp.1) (Nat.le_of_ble_eq_true rfl) ?_
  refine r_thrown l2.mp (bh_1 ?_)
  show Rn 140 333 _ [aI c1] h2 Q
  refine x_iload k_140_333 rfl ?_
  refine x_icmpeq (t := 340) k_140_335 rfl ⟨hc, hc⟩ (fun _ => ?_) (fun q => absurd rfl q)
  refine x_iload k_140_340 rfl ?_
  refine x_ifne (t := 356) k_140_342 rfl hc (fun _ => ?_) (fun q => ?_)
  · refine x_goto (t := 1144) k_140_356 rfl ?_
    exact k _ _ _ _ _ _ lst
  · obtain ⟨e, rb⟩ := hb (Decidable.not_not.mp q)
    obtain ⟨f, hf, f0⟩ := l2.out
    refine x_aload_n k_140_345 rfl ?_
    refine x_iconst k_140_346 ?_
    refine x_laload k_140_347 hf (by decide) (by decide) ?_
    show Rn 140 348 _ [aL (f 0)] h2 Q
    rw [f0, e]
    refine x_lload k_140_348 rfl ?_
    refine x_lcmp k_140_350 ⟨rb, rb⟩ ?_
    rw [if_neg (Int.lt_irrefl _), if_pos rfl]
    refine x_ifeq (t := 356) k_140_351 rfl (by decide) (fun _ => ?_) (fun q => absurd rfl q)
    refine x_goto (t := 1144) k_140_356 rfl ?_
    exact k _ _ _ _ _ _ lst
theorem lb_write (hxs : ∀ j, inR (xs j)) (lst : LST as ao scr am adm len xs v0 S N n c h) (hi : 5 * n + 5 ≤ len) (hn : n < 512) {l5 l6 l7 : Option AV} (k : ∀ v1 c1 h' l5 l6 l7, LST as ao scr am adm len xs v1 (S + 4200) (N + 1100) (n + 1) c1 h' → Rn 140 1144 [some (aR scr), some (aR as), some (aR am), some (aR ao), some (aI ((5 * n : Nat) : Int)), l5, l6, l7] [] h' Q) : Rn 140 359 [some (aR scr), some (aR as), some (aR am), some (aR ao), some (aI ((5 * n : Nat) : Int)), l5, l6, l7] [] h Q := by
  obtain ⟨C, A, I, Ls, c0, v, l⟩ := lst
  refine x_aload_n k_140_359 rfl ?_
  refine x_aload_n k_140_360 rfl ?_
  refine x_iload k_140_361 rfl ?_
  refine x_iconst k_140_363 ?_
  refine x_iadd k_140_364 ?_
  refine x_iaload k_140_365 l.sc (Or.inr rfl) (by omega) (by omega) ?_
  refine x_aload_n k_140_366 rfl ?_
  refine x_iload k_140_367 rfl ?_
  refine x_iconst k_140_369 ?_
  refine x_iadd k_140_370 ?_
  refine x_iaload k_140_371 l.sc (Or.inr rfl) (by omega) (by omega) ?_
  refine x_aload_n k_140_372 rfl ?_
  refine x_iload k_140_373 rfl ?_
  refine x_iconst k_140_375 ?_
  refine x_iadd k_140_376 ?_
  refine x_iaload k_140_377 l.sc (Or.inr rfl) (by omega) (by omega) ?_
  refine x_i2l k_140_378 (hxs _) ?_
  refine x_bipush k_140_379 ?_
  refine x_lshl k_140_381 ?_
  refine x_aload_n k_140_382 rfl ?_
  refine x_iload k_140_383 rfl ?_
  refine x_iconst k_140_385 ?_
  refine x_iadd k_140_386 ?_
  refine x_iaload k_140_387 l.sc (Or.inr rfl) (by omega) (by omega) ?_
  refine x_i2l k_140_388 (hxs _) ?_
  refine x_ldc2 k_140_389 ?_
  refine x_land k_140_392 ?_
  refine x_lor k_140_393 ?_
  refine x_call4 k_140_394 (Nat.le_of_ble_eq_true rfl) rfl (Nat.le_of_ble_eq_true rfl) ?_
  refine b_write l v c0 hn (hxs _) (hxs _) (lor_l _ _) (fun c1 v1 p1 h1 hc l1 rf => bh_1 ?_)
  refine x_is5 k_140_397 rfl ?_
  refine x_aload_n k_140_399 rfl ?_
  refine x_aload_n k_140_400 rfl ?_
  refine x_iload k_140_401 rfl ?_
  refine x_iconst k_140_403 ?_
  refine x_iadd k_140_404 ?_
  refine x_iaload k_140_405 l1.sc (Or.inr rfl) (by omega) (by omega) ?_
  refine x_aload_n k_140_406 rfl ?_
  refine x_iload k_140_407 rfl ?_
  refine x_iconst k_140_409 ?_
  refine x_iadd k_140_410 ?_
  refine x_iaload k_140_411 l1.sc (Or.inr rfl) (by omega) (by omega) ?_
  refine x_aload_n k_140_412 rfl ?_
  refine x_iload k_140_413 rfl ?_
  refine x_iconst k_140_415 ?_
  refine x_iadd k_140_416 ?_
  refine x_iaload k_140_417 l1.sc (Or.inr rfl) (by omega) (by omega) ?_
  refine x_i2l k_140_418 (hxs _) ?_
  refine x_bipush k_140_419 ?_
  refine x_lshl k_140_421 ?_
  refine x_aload_n k_140_422 rfl ?_
  refine x_iload k_140_423 rfl ?_
  refine x_iconst k_140_425 ?_
  refine x_iadd k_140_426 ?_
  refine x_iaload k_140_427 l1.sc (Or.inr rfl) (by omega) (by omega) ?_
  refine x_i2l k_140_428 (hxs _) ?_
  refine x_ldc2 k_140_429 ?_
  refine x_land k_140_432 ?_
  refine x_lor k_140_433 ?_
  refine x_call4 k_140_434 (Nat.le_of_ble_eq_true rfl) (rcv_1 l1.mp.1) (Nat.le_of_ble_eq_true rfl) ?_
  refine rf _ (fun b h2 hb lst => bh_v ?_)
  have lst2 := lst
  obtain ⟨C2, A2, I2, Ls2, c2, v2, l2⟩ := lst2
  refine x_aload_n k_140_437 rfl ?_
  refine x_call1 k_140_438 (Nat.le_of_ble_eq_true rfl) (rcv_1 l2.mp.1) (Nat.le_of_ble_eq_true rfl) ?_
  refine r_thrown l2.mp (bh_1 ?_)
  show Rn 140 441 _ [aI c1] h2 Q
  refine x_iload k_140_441 rfl ?_
  refine x_icmpeq (t := 448) k_140_443 rfl ⟨hc, hc⟩ (fun _ => ?_) (fun q => absurd rfl q)
  refine x_goto (t := 1144) k_140_448 rfl ?_
  exact k _ _ _ _ _ _ lst
theorem lb_change (hxs : ∀ j, inR (xs j)) (lst : LST as ao scr am adm len xs v0 S N n c h) (hi : 5 * n + 5 ≤ len) (hn : n < 512) {l5 l6 l7 : Option AV} (k : ∀ v1 c1 h' l5 l6 l7, LST as ao scr am adm len xs v1 (S + 4200) (N + 1100) (n + 1) c1 h' → Rn 140 1144 [some (aR scr), some (aR as), some (aR am), some (aR ao), some (aI ((5 * n : Nat) : Int)), l5, l6, l7] [] h' Q) : Rn 140 451 [some (aR scr), some (aR as), some (aR am), some (aR ao), some (aI ((5 * n : Nat) : Int)), l5, l6, l7] [] h Q := by
  obtain ⟨C, A, I, Ls, c0, v, l⟩ := lst
  by_cases hz : (xs (((5 * n : Nat) : Int) + 4).toNat) = 0
  · refine x_aload_n k_140_451 rfl ?_
    refine x_aload_n k_140_452 rfl ?_
    refine x_iload k_140_453 rfl ?_
    refine x_iconst k_140_455 ?_
    refine x_iadd k_140_456 ?_
    refine x_iaload k_140_457 l.sc (Or.inr rfl) (by omega) (by omega) ?_
    refine x_aload_n k_140_458 rfl ?_
    refine x_iload k_140_459 rfl ?_
    refine x_iconst k_140_461 ?_
    refine x_iadd k_140_462 ?_
    refine x_iaload k_140_463 l.sc (Or.inr rfl) (by omega) (by omega) ?_
    refine x_aload_n k_140_464 rfl ?_
    refine x_iload k_140_465 rfl ?_
    refine x_iconst k_140_467 ?_
    refine x_iadd k_140_468 ?_
    refine x_iaload k_140_469 l.sc (Or.inr rfl) (by omega) (by omega) ?_
    refine x_aload_n k_140_470 rfl ?_
    refine x_iload k_140_471 rfl ?_
    refine x_iconst k_140_473 ?_
    refine x_iadd k_140_474 ?_
    refine x_iaload k_140_475 l.sc (Or.inr rfl) (by omega) (by omega) ?_
    refine x_ifeq (t := 483) k_140_476 rfl (hxs _) (fun _ => ?_) (fun q => absurd hz q)
    refine x_iconst k_140_483 ?_
    refine x_call5 k_140_484 (Nat.le_of_ble_eq_true rfl) rfl (Nat.le_of_ble_eq_true rfl) ?_
    refine b_change (yb := false) l v c0 hn (hxs _) (hxs _) (hxs _) (fun c1 v1 p1 h1 hc l1 rf => bh_1 ?_)
    refine x_is5 k_140_487 rfl ?_
    refine x_aload_n k_140_489 rfl ?_
    refine x_aload_n k_140_490 rfl ?_
    refine x_iload k_140_491 rfl ?_
    refine x_iconst k_140_493 ?_
    refine x_iadd k_140_494 ?_
    refine x_iaload k_140_495 l1.sc (Or.inr rfl) (by omega) (by omega) ?_
    refine x_aload_n k_140_496 rfl ?_
    refine x_iload k_140_497 rfl ?_
    refine x_iconst k_140_499 ?_
    refine x_iadd k_140_500 ?_
    refine x_iaload k_140_501 l1.sc (Or.inr rfl) (by omega) (by omega) ?_
    refine x_aload_n k_140_502 rfl ?_
    refine x_iload k_140_503 rfl ?_
    refine x_iconst k_140_505 ?_
    refine x_iadd k_140_506 ?_
    refine x_iaload k_140_507 l1.sc (Or.inr rfl) (by omega) (by omega) ?_
    refine x_aload_n k_140_508 rfl ?_
    refine x_iload k_140_509 rfl ?_
    refine x_iconst k_140_511 ?_
    refine x_iadd k_140_512 ?_
    refine x_iaload k_140_513 l1.sc (Or.inr rfl) (by omega) (by omega) ?_
    refine x_ifeq (t := 521) k_140_514 rfl (hxs _) (fun _ => ?_) (fun q => absurd hz q)
    refine x_iconst k_140_521 ?_
    refine x_call5 k_140_522 (Nat.le_of_ble_eq_true rfl) (rcv_1 l1.mp.1) (Nat.le_of_ble_eq_true rfl) ?_
    refine rf _ (fun b h2 hb lst => bh_v ?_)
    have lst2 := lst
    obtain ⟨C2, A2, I2, Ls2, c2, v2, l2⟩ := lst2
    refine x_aload_n k_140_525 rfl ?_
    refine x_call1 k_140_526 (Nat.le_of_ble_eq_true rfl) (rcv_1 l2.mp.1) (Nat.le_of_ble_eq_true rfl) ?_
    refine r_thrown l2.mp (bh_1 ?_)
    show Rn 140 529 _ [aI c1] h2 Q
    refine x_iload k_140_529 rfl ?_
    refine x_icmpeq (t := 536) k_140_531 rfl ⟨hc, hc⟩ (fun _ => ?_) (fun q => absurd rfl q)
    refine x_goto (t := 1144) k_140_536 rfl ?_
    exact k _ _ _ _ _ _ lst
  · refine x_aload_n k_140_451 rfl ?_
    refine x_aload_n k_140_452 rfl ?_
    refine x_iload k_140_453 rfl ?_
    refine x_iconst k_140_455 ?_
    refine x_iadd k_140_456 ?_
    refine x_iaload k_140_457 l.sc (Or.inr rfl) (by omega) (by omega) ?_
    refine x_aload_n k_140_458 rfl ?_
    refine x_iload k_140_459 rfl ?_
    refine x_iconst k_140_461 ?_
    refine x_iadd k_140_462 ?_
    refine x_iaload k_140_463 l.sc (Or.inr rfl) (by omega) (by omega) ?_
    refine x_aload_n k_140_464 rfl ?_
    refine x_iload k_140_465 rfl ?_
    refine x_iconst k_140_467 ?_
    refine x_iadd k_140_468 ?_
    refine x_iaload k_140_469 l.sc (Or.inr rfl) (by omega) (by omega) ?_
    refine x_aload_n k_140_470 rfl ?_
    refine x_iload k_140_471 rfl ?_
    refine x_iconst k_140_473 ?_
    refine x_iadd k_140_474 ?_
    refine x_iaload k_140_475 l.sc (Or.inr rfl) (by omega) (by omega) ?_
    refine x_ifeq (t := 483) k_140_476 rfl (hxs _) (fun q => absurd q hz) (fun _ => ?_)
    refine x_iconst k_140_479 ?_
    refine x_goto (t := 484) k_140_480 rfl ?_
    refine x_call5 k_140_484 (Nat.le_of_ble_eq_true rfl) rfl (Nat.le_of_ble_eq_true rfl) ?_
    refine b_change (yb := true) l v c0 hn (hxs _) (hxs _) (hxs _) (fun c1 v1 p1 h1 hc l1 rf => bh_1 ?_)
    refine x_is5 k_140_487 rfl ?_
    refine x_aload_n k_140_489 rfl ?_
    refine x_aload_n k_140_490 rfl ?_
    refine x_iload k_140_491 rfl ?_
    refine x_iconst k_140_493 ?_
    refine x_iadd k_140_494 ?_
    refine x_iaload k_140_495 l1.sc (Or.inr rfl) (by omega) (by omega) ?_
    refine x_aload_n k_140_496 rfl ?_
    refine x_iload k_140_497 rfl ?_
    refine x_iconst k_140_499 ?_
    refine x_iadd k_140_500 ?_
    refine x_iaload k_140_501 l1.sc (Or.inr rfl) (by omega) (by omega) ?_
    refine x_aload_n k_140_502 rfl ?_
    refine x_iload k_140_503 rfl ?_
    refine x_iconst k_140_505 ?_
    refine x_iadd k_140_506 ?_
    refine x_iaload k_140_507 l1.sc (Or.inr rfl) (by omega) (by omega) ?_
    refine x_aload_n k_140_508 rfl ?_
    refine x_iload k_140_509 rfl ?_
    refine x_iconst k_140_511 ?_
    refine x_iadd k_140_512 ?_
    refine x_iaload k_140_513 l1.sc (Or.inr rfl) (by omega) (by omega) ?_
    refine x_ifeq (t := 521) k_140_514 rfl (hxs _) (fun q => absurd q hz) (fun _ => ?_)
    refine x_iconst k_140_517 ?_
    refine x_goto (t := 522) k_140_518 rfl ?_
    refine x_call5 k_140_522 (Nat.le_of_ble_eq_true rfl) (rcv_1 l1.mp.1) (Nat.le_of_ble_eq_true rfl) ?_
    refine rf _ (fun b h2 hb lst => bh_v ?_)
    have lst2 := lst
    obtain ⟨C2, A2, I2, Ls2, c2, v2, l2⟩ := lst2
    refine x_aload_n k_140_525 rfl ?_
    refine x_call1 k_140_526 (Nat.le_of_ble_eq_true rfl) (rcv_1 l2.mp.1) (Nat.le_of_ble_eq_true rfl) ?_
    refine r_thrown l2.mp (bh_1 ?_)
    show Rn 140 529 _ [aI c1] h2 Q
    refine x_iload k_140_529 rfl ?_
    refine x_icmpeq (t := 536) k_140_531 rfl ⟨hc, hc⟩ (fun _ => ?_) (fun q => absurd rfl q)
    refine x_goto (t := 1144) k_140_536 rfl ?_
    exact k _ _ _ _ _ _ lst
theorem lb_count3 (hxs : ∀ j, inR (xs j)) (lst : LST as ao scr am adm len xs v0 S N n c h) (hi : 5 * n + 5 ≤ len) (hn : n < 512) {l5 l6 l7 : Option AV} (k : ∀ v1 c1 h' l5 l6 l7, LST as ao scr am adm len xs v1 (S + 4200) (N + 1100) (n + 1) c1 h' → Rn 140 1144 [some (aR scr), some (aR as), some (aR am), some (aR ao), some (aI ((5 * n : Nat) : Int)), l5, l6, l7] [] h' Q) : Rn 140 539 [some (aR scr), some (aR as), some (aR am), some (aR ao), some (aI ((5 * n : Nat) : Int)), l5, l6, l7] [] h Q := by
  obtain ⟨C, A, I, Ls, c0, v, l⟩ := lst
  refine x_aload_n k_140_539 rfl ?_
  refine x_aload_n k_140_540 rfl ?_
  refine x_iload k_140_541 rfl ?_
  refine x_iconst k_140_543 ?_
  refine x_iadd k_140_544 ?_
  refine x_iaload k_140_545 l.sc (Or.inr rfl) (by omega) (by omega) ?_
  refine x_aload_n k_140_546 rfl ?_
  refine x_iload k_140_547 rfl ?_
  refine x_iconst k_140_549 ?_
  refine x_iadd k_140_550 ?_
  refine x_iaload k_140_551 l.sc (Or.inr rfl) (by omega) (by omega) ?_
  refine x_aload_n k_140_552 rfl ?_
  refine x_iload k_140_553 rfl ?_
  refine x_iconst k_140_555 ?_
  refine x_iadd k_140_556 ?_
  refine x_iaload k_140_557 l.sc (Or.inr rfl) (by omega) (by omega) ?_
  refine x_aload_n k_140_558 rfl ?_
  refine x_call5 k_140_559 (Nat.le_of_ble_eq_true rfl) rfl (Nat.le_of_ble_eq_true rfl) ?_
  refine b_count3 l v c0 hn (hxs _) (hxs _) (hxs _) (fun c1 v1 p1 h1 hc l1 rf => bh_1 ?_)
  refine x_is5 k_140_562 rfl ?_
  refine x_aload_n k_140_564 rfl ?_
  refine x_aload_n k_140_565 rfl ?_
  refine x_iload k_140_566 rfl ?_
  refine x_iconst k_140_568 ?_
  refine x_iadd k_140_569 ?_
  refine x_iaload k_140_570 l1.sc (Or.inr rfl) (by omega) (by omega) ?_
  refine x_aload_n k_140_571 rfl ?_
  refine x_iload k_140_572 rfl ?_
  refine x_iconst k_140_574 ?_
  refine x_iadd k_140_575 ?_
  refine x_iaload k_140_576 l1.sc (Or.inr rfl) (by omega) (by omega) ?_
  refine x_aload_n k_140_577 rfl ?_
  refine x_iload k_140_578 rfl ?_
  refine x_iconst k_140_580 ?_
  refine x_iadd k_140_581 ?_
  refine x_iaload k_140_582 l1.sc (Or.inr rfl) (by omega) (by omega) ?_
  refine x_call4 k_140_583 (Nat.le_of_ble_eq_true rfl) (rcv_1 l1.mp.1) (Nat.le_of_ble_eq_true rfl) ?_
  refine rf _ (fun b h2 hb lst => bh_1 ?_)
  have lst2 := lst
  obtain ⟨C2, A2, I2, Ls2, c2, v2, l2⟩ := lst2
  refine x_is6 k_140_586 rfl ?_
  refine x_aload_n k_140_588 rfl ?_
  refine x_call1 k_140_589 (Nat.le_of_ble_eq_true rfl) (rcv_1 l2.mp.1) (Nat.le_of_ble_eq_true rfl) ?_
  refine r_thrown l2.mp (bh_1 ?_)
  show Rn 140 592 _ [aI c1] h2 Q
  refine x_iload k_140_592 rfl ?_
  refine x_icmpeq (t := 599) k_140_594 rfl ⟨hc, hc⟩ (fun _ => ?_) (fun q => absurd rfl q)
  refine x_iload k_140_599 rfl ?_
  refine x_ifne (t := 616) k_140_601 rfl hc (fun _ => ?_) (fun q => ?_)
  · refine x_goto (t := 1144) k_140_616 rfl ?_
    exact k _ _ _ _ _ _ lst
  · obtain ⟨e, rb⟩ := hb (Decidable.not_not.mp q)
    obtain ⟨f, hf, f0⟩ := l2.out
    refine x_aload_n k_140_604 rfl ?_
    refine x_iconst k_140_605 ?_
    refine x_laload k_140_606 hf (by decide) (by decide) ?_
    show Rn 140 607 _ [aL (f 0)] h2 Q
    rw [f0, e]
    refine x_iload k_140_607 rfl ?_
    refine x_i2l k_140_609 rb ?_
    refine x_lcmp k_140_610 ⟨by omega, by omega⟩ ?_
    rw [if_neg (Int.lt_irrefl _), if_pos rfl]
    refine x_ifeq (t := 616) k_140_611 rfl (by decide) (fun _ => ?_) (fun q => absurd rfl q)
    refine x_goto (t := 1144) k_140_616 rfl ?_
    exact k _ _ _ _ _ _ lst
theorem lb_element (hxs : ∀ j, inR (xs j)) (lst : LST as ao scr am adm len xs v0 S N n c h) (hi : 5 * n + 5 ≤ len) (hn : n < 512) {l5 l6 l7 : Option AV} (k : ∀ v1 c1 h' l5 l6 l7, LST as ao scr am adm len xs v1 (S + 4200) (N + 1100) (n + 1) c1 h' → Rn 140 1144 [some (aR scr), some (aR as), some (aR am), some (aR ao), some (aI ((5 * n : Nat) : Int)), l5, l6, l7] [] h' Q) : Rn 140 619 [some (aR scr), some (aR as), some (aR am), some (aR ao), some (aI ((5 * n : Nat) : Int)), l5, l6, l7] [] h Q := by
  obtain ⟨C, A, I, Ls, c0, v, l⟩ := lst
  refine x_aload_n k_140_619 rfl ?_
  refine x_aload_n k_140_620 rfl ?_
  refine x_iload k_140_621 rfl ?_
  refine x_iconst k_140_623 ?_
  refine x_iadd k_140_624 ?_
  refine x_iaload k_140_625 l.sc (Or.inr rfl) (by omega) (by omega) ?_
  refine x_aload_n k_140_626 rfl ?_
  refine x_iload k_140_627 rfl ?_
  refine x_iconst k_140_629 ?_
  refine x_iadd k_140_630 ?_
  refine x_iaload k_140_631 l.sc (Or.inr rfl) (by omega) (by omega) ?_
  refine x_aload_n k_140_632 rfl ?_
  refine x_iload k_140_633 rfl ?_
  refine x_iconst k_140_635 ?_
  refine x_iadd k_140_636 ?_
  refine x_iaload k_140_637 l.sc (Or.inr rfl) (by omega) (by omega) ?_
  refine x_aload_n k_140_638 rfl ?_
  refine x_call5 k_140_639 (Nat.le_of_ble_eq_true rfl) rfl (Nat.le_of_ble_eq_true rfl) ?_
  refine b_element l v c0 hn (hxs _) (hxs _) (hxs _) (fun c1 v1 p1 h1 hc l1 rf => bh_1 ?_)
  refine x_is5 k_140_642 rfl ?_
  refine x_aload_n k_140_644 rfl ?_
  refine x_aload_n k_140_645 rfl ?_
  refine x_iload k_140_646 rfl ?_
  refine x_iconst k_140_648 ?_
  refine x_iadd k_140_649 ?_
  refine x_iaload k_140_650 l1.sc (Or.inr rfl) (by omega) (by omega) ?_
  refine x_aload_n k_140_651 rfl ?_
  refine x_iload k_140_652 rfl ?_
  refine x_iconst k_140_654 ?_
  refine x_iadd k_140_655 ?_
  refine x_iaload k_140_656 l1.sc (Or.inr rfl) (by omega) (by omega) ?_
  refine x_aload_n k_140_657 rfl ?_
  refine x_iload k_140_658 rfl ?_
  refine x_iconst k_140_660 ?_
  refine x_iadd k_140_661 ?_
  refine x_iaload k_140_662 l1.sc (Or.inr rfl) (by omega) (by omega) ?_
  refine x_call4 k_140_663 (Nat.le_of_ble_eq_true rfl) (rcv_1 l1.mp.1) (Nat.le_of_ble_eq_true rfl) ?_
  refine rf _ (fun b h2 hb lst => bh_1 ?_)
  have lst2 := lst
  obtain ⟨C2, A2, I2, Ls2, c2, v2, l2⟩ := lst2
  refine x_is6 k_140_666 rfl ?_
  refine x_aload_n k_140_668 rfl ?_
  refine x_call1 k_140_669 (Nat.le_of_ble_eq_true rfl) (rcv_1 l2.mp.1) (Nat.le_of_ble_eq_true rfl) ?_
  refine r_thrown l2.mp (bh_1 ?_)
  show Rn 140 672 _ [aI c1] h2 Q
  refine x_iload k_140_672 rfl ?_
  refine x_icmpeq (t := 679) k_140_674 rfl ⟨hc, hc⟩ (fun _ => ?_) (fun q => absurd rfl q)
  refine x_iload k_140_679 rfl ?_
  refine x_ifne (t := 696) k_140_681 rfl hc (fun _ => ?_) (fun q => ?_)
  · refine x_goto (t := 1144) k_140_696 rfl ?_
    exact k _ _ _ _ _ _ lst
  · obtain ⟨e, rb⟩ := hb (Decidable.not_not.mp q)
    obtain ⟨f, hf, f0⟩ := l2.out
    refine x_aload_n k_140_684 rfl ?_
    refine x_iconst k_140_685 ?_
    refine x_laload k_140_686 hf (by decide) (by decide) ?_
    show Rn 140 687 _ [aL (f 0)] h2 Q
    rw [f0, e]
    refine x_iload k_140_687 rfl ?_
    refine x_i2l k_140_689 rb ?_
    refine x_lcmp k_140_690 ⟨by omega, by omega⟩ ?_
    rw [if_neg (Int.lt_irrefl _), if_pos rfl]
    refine x_ifeq (t := 696) k_140_691 rfl (by decide) (fun _ => ?_) (fun q => absurd rfl q)
    refine x_goto (t := 1144) k_140_696 rfl ?_
    exact k _ _ _ _ _ _ lst
theorem lb_commit (hxs : ∀ j, inR (xs j)) (lst : LST as ao scr am adm len xs v0 S N n c h) (hi : 5 * n + 5 ≤ len) (hn : n < 512) {l5 l6 l7 : Option AV} (k : ∀ v1 c1 h' l5 l6 l7, LST as ao scr am adm len xs v1 (S + 4200) (N + 1100) (n + 1) c1 h' → Rn 140 1144 [some (aR scr), some (aR as), some (aR am), some (aR ao), some (aI ((5 * n : Nat) : Int)), l5, l6, l7] [] h' Q) : Rn 140 699 [some (aR scr), some (aR as), some (aR am), some (aR ao), some (aI ((5 * n : Nat) : Int)), l5, l6, l7] [] h Q := by
  obtain ⟨C, A, I, Ls, c0, v, l⟩ := lst
  refine x_aload_n k_140_699 rfl ?_
  refine x_aload_n k_140_700 rfl ?_
  refine x_iload k_140_701 rfl ?_
  refine x_iconst k_140_703 ?_
  refine x_iadd k_140_704 ?_
  refine x_iaload k_140_705 l.sc (Or.inr rfl) (by omega) (by omega) ?_
  refine x_aload_n k_140_706 rfl ?_
  refine x_call3 k_140_707 (Nat.le_of_ble_eq_true rfl) rfl (Nat.le_of_ble_eq_true rfl) ?_
  refine b_commit l v c0 hn (hxs _) (fun c1 v1 p1 h1 hc l1 rf => bh_1 ?_)
  refine x_is5 k_140_710 rfl ?_
  refine x_aload_n k_140_712 rfl ?_
  refine x_aload_n k_140_713 rfl ?_
  refine x_iload k_140_714 rfl ?_
  refine x_iconst k_140_716 ?_
  refine x_iadd k_140_717 ?_
  refine x_iaload k_140_718 l1.sc (Or.inr rfl) (by omega) (by omega) ?_
  refine x_call2 k_140_719 (Nat.le_of_ble_eq_true rfl) (rcv_1 l1.mp.1) (Nat.le_of_ble_eq_true rfl) ?_
  refine rf _ (fun b h2 hb lst => bh_1 ?_)
  have lst2 := lst
  obtain ⟨C2, A2, I2, Ls2, c2, v2, l2⟩ := lst2
  refine x_is6 k_140_722 rfl ?_
  refine x_aload_n k_140_724 rfl ?_
  refine x_call1 k_140_725 (Nat.le_of_ble_eq_true rfl) (rcv_1 l2.mp.1) (Nat.le_of_ble_eq_true rfl) ?_
  refine r_thrown l2.mp (bh_1 ?_)
  show Rn 140 728 _ [aI c1] h2 Q
  refine x_iload k_140_728 rfl ?_
  refine x_icmpeq (t := 735) k_140_730 rfl ⟨hc, hc⟩ (fun _ => ?_) (fun q => absurd rfl q)
  refine x_iload k_140_735 rfl ?_
  refine x_ifne (t := 752) k_140_737 rfl hc (fun _ => ?_) (fun q => ?_)
  · refine x_goto (t := 1144) k_140_752 rfl ?_
    exact k _ _ _ _ _ _ lst
  · obtain ⟨e, rb⟩ := hb (Decidable.not_not.mp q)
    obtain ⟨f, hf, f0⟩ := l2.out
    refine x_aload_n k_140_740 rfl ?_
    refine x_iconst k_140_741 ?_
    refine x_laload k_140_742 hf (by decide) (by decide) ?_
    show Rn 140 743 _ [aL (f 0)] h2 Q
    rw [f0, e]
    refine x_iload k_140_743 rfl ?_
    refine x_i2l k_140_745 rb ?_
    refine x_lcmp k_140_746 ⟨by omega, by omega⟩ ?_
    rw [if_neg (Int.lt_irrefl _), if_pos rfl]
    refine x_ifeq (t := 752) k_140_747 rfl (by decide) (fun _ => ?_) (fun q => absurd rfl q)
    refine x_goto (t := 1144) k_140_752 rfl ?_
    exact k _ _ _ _ _ _ lst
theorem lb_abort (hxs : ∀ j, inR (xs j)) (lst : LST as ao scr am adm len xs v0 S N n c h) (hi : 5 * n + 5 ≤ len) (hn : n < 512) {l5 l6 l7 : Option AV} (k : ∀ v1 c1 h' l5 l6 l7, LST as ao scr am adm len xs v1 (S + 4200) (N + 1100) (n + 1) c1 h' → Rn 140 1144 [some (aR scr), some (aR as), some (aR am), some (aR ao), some (aI ((5 * n : Nat) : Int)), l5, l6, l7] [] h' Q) : Rn 140 755 [some (aR scr), some (aR as), some (aR am), some (aR ao), some (aI ((5 * n : Nat) : Int)), l5, l6, l7] [] h Q := by
  obtain ⟨C, A, I, Ls, c0, v, l⟩ := lst
  refine x_aload_n k_140_755 rfl ?_
  refine x_aload_n k_140_756 rfl ?_
  refine x_iload k_140_757 rfl ?_
  refine x_iconst k_140_759 ?_
  refine x_iadd k_140_760 ?_
  refine x_iaload k_140_761 l.sc (Or.inr rfl) (by omega) (by omega) ?_
  refine x_call2 k_140_762 (Nat.le_of_ble_eq_true rfl) rfl (Nat.le_of_ble_eq_true rfl) ?_
  refine b_abort l v c0 hn (hxs _) (fun c1 v1 p1 h1 hc l1 rf => bh_1 ?_)
  refine x_is5 k_140_765 rfl ?_
  refine x_aload_n k_140_767 rfl ?_
  refine x_aload_n k_140_768 rfl ?_
  refine x_iload k_140_769 rfl ?_
  refine x_iconst k_140_771 ?_
  refine x_iadd k_140_772 ?_
  refine x_iaload k_140_773 l1.sc (Or.inr rfl) (by omega) (by omega) ?_
  refine x_call2 k_140_774 (Nat.le_of_ble_eq_true rfl) (rcv_1 l1.mp.1) (Nat.le_of_ble_eq_true rfl) ?_
  refine rf _ (fun b h2 hb lst => bh_v ?_)
  have lst2 := lst
  obtain ⟨C2, A2, I2, Ls2, c2, v2, l2⟩ := lst2
  refine x_aload_n k_140_777 rfl ?_
  refine x_call1 k_140_778 (Nat.le_of_ble_eq_true rfl) (rcv_1 l2.mp.1) (Nat.le_of_ble_eq_true rfl) ?_
  refine r_thrown l2.mp (bh_1 ?_)
  show Rn 140 781 _ [aI c1] h2 Q
  refine x_iload k_140_781 rfl ?_
  refine x_icmpeq (t := 788) k_140_783 rfl ⟨hc, hc⟩ (fun _ => ?_) (fun q => absurd rfl q)
  refine x_goto (t := 1144) k_140_788 rfl ?_
  exact k _ _ _ _ _ _ lst
theorem lb_deliver (hxs : ∀ j, inR (xs j)) (lst : LST as ao scr am adm len xs v0 S N n c h) (hi : 5 * n + 5 ≤ len) (hn : n < 512) {l5 l6 l7 : Option AV} (k : ∀ v1 c1 h' l5 l6 l7, LST as ao scr am adm len xs v1 (S + 4200) (N + 1100) (n + 1) c1 h' → Rn 140 1144 [some (aR scr), some (aR as), some (aR am), some (aR ao), some (aI ((5 * n : Nat) : Int)), l5, l6, l7] [] h' Q) : Rn 140 791 [some (aR scr), some (aR as), some (aR am), some (aR ao), some (aI ((5 * n : Nat) : Int)), l5, l6, l7] [] h Q := by
  obtain ⟨C, A, I, Ls, c0, v, l⟩ := lst
  refine x_aload_n k_140_791 rfl ?_
  refine x_aload_n k_140_792 rfl ?_
  refine x_iload k_140_793 rfl ?_
  refine x_iconst k_140_795 ?_
  refine x_iadd k_140_796 ?_
  refine x_iaload k_140_797 l.sc (Or.inr rfl) (by omega) (by omega) ?_
  refine x_aload_n k_140_798 rfl ?_
  refine x_iload k_140_799 rfl ?_
  refine x_iconst k_140_801 ?_
  refine x_iadd k_140_802 ?_
  refine x_iaload k_140_803 l.sc (Or.inr rfl) (by omega) (by omega) ?_
  refine x_aload_n k_140_804 rfl ?_
  refine x_call4 k_140_805 (Nat.le_of_ble_eq_true rfl) rfl (Nat.le_of_ble_eq_true rfl) ?_
  refine b_deliver l v c0 hn (hxs _) (hxs _) (fun c1 v1 p1 h1 hc l1 rf => bh_1 ?_)
  refine x_is5 k_140_808 rfl ?_
  refine x_aload_n k_140_810 rfl ?_
  refine x_aload_n k_140_811 rfl ?_
  refine x_iload k_140_812 rfl ?_
  refine x_iconst k_140_814 ?_
  refine x_iadd k_140_815 ?_
  refine x_iaload k_140_816 l1.sc (Or.inr rfl) (by omega) (by omega) ?_
  refine x_aload_n k_140_817 rfl ?_
  refine x_iload k_140_818 rfl ?_
  refine x_iconst k_140_820 ?_
  refine x_iadd k_140_821 ?_
  refine x_iaload k_140_822 l1.sc (Or.inr rfl) (by omega) (by omega) ?_
  refine x_call3 k_140_823 (Nat.le_of_ble_eq_true rfl) (rcv_1 l1.mp.1) (Nat.le_of_ble_eq_true rfl) ?_
  refine rf _ (fun b h2 hb lst => bh_1 ?_)
  have lst2 := lst
  obtain ⟨C2, A2, I2, Ls2, c2, v2, l2⟩ := lst2
  refine x_is6 k_140_826 rfl ?_
  refine x_aload_n k_140_828 rfl ?_
  refine x_call1 k_140_829 (Nat.le_of_ble_eq_true rfl) (rcv_1 l2.mp.1) (Nat.le_of_ble_eq_true rfl) ?_
  refine r_thrown l2.mp (bh_1 ?_)
  show Rn 140 832 _ [aI c1] h2 Q
  refine x_iload k_140_832 rfl ?_
  refine x_icmpeq (t := 839) k_140_834 rfl ⟨hc, hc⟩ (fun _ => ?_) (fun q => absurd rfl q)
  refine x_iload k_140_839 rfl ?_
  refine x_ifne (t := 856) k_140_841 rfl hc (fun _ => ?_) (fun q => ?_)
  · refine x_goto (t := 1144) k_140_856 rfl ?_
    exact k _ _ _ _ _ _ lst
  · obtain ⟨e, rb⟩ := hb (Decidable.not_not.mp q)
    obtain ⟨f, hf, f0⟩ := l2.out
    refine x_aload_n k_140_844 rfl ?_
    refine x_iconst k_140_845 ?_
    refine x_laload k_140_846 hf (by decide) (by decide) ?_
    show Rn 140 847 _ [aL (f 0)] h2 Q
    rw [f0, e]
    refine x_iload k_140_847 rfl ?_
    refine x_i2l k_140_849 rb ?_
    refine x_lcmp k_140_850 ⟨by omega, by omega⟩ ?_
    rw [if_neg (Int.lt_irrefl _), if_pos rfl]
    refine x_ifeq (t := 856) k_140_851 rfl (by decide) (fun _ => ?_) (fun q => absurd rfl q)
    refine x_goto (t := 1144) k_140_856 rfl ?_
    exact k _ _ _ _ _ _ lst
theorem lb_waiting (hxs : ∀ j, inR (xs j)) (lst : LST as ao scr am adm len xs v0 S N n c h) (hi : 5 * n + 5 ≤ len) (hn : n < 512) {l5 l6 l7 : Option AV} (k : ∀ v1 c1 h' l5 l6 l7, LST as ao scr am adm len xs v1 (S + 4200) (N + 1100) (n + 1) c1 h' → Rn 140 1144 [some (aR scr), some (aR as), some (aR am), some (aR ao), some (aI ((5 * n : Nat) : Int)), l5, l6, l7] [] h' Q) : Rn 140 859 [some (aR scr), some (aR as), some (aR am), some (aR ao), some (aI ((5 * n : Nat) : Int)), l5, l6, l7] [] h Q := by
  obtain ⟨C, A, I, Ls, c0, v, l⟩ := lst
  refine x_aload_n k_140_859 rfl ?_
  refine x_aload_n k_140_860 rfl ?_
  refine x_iload k_140_861 rfl ?_
  refine x_iconst k_140_863 ?_
  refine x_iadd k_140_864 ?_
  refine x_iaload k_140_865 l.sc (Or.inr rfl) (by omega) (by omega) ?_
  refine x_aload_n k_140_866 rfl ?_
  refine x_iload k_140_867 rfl ?_
  refine x_iconst k_140_869 ?_
  refine x_iadd k_140_870 ?_
  refine x_iaload k_140_871 l.sc (Or.inr rfl) (by omega) (by omega) ?_
  refine x_aload_n k_140_872 rfl ?_
  refine x_call4 k_140_873 (Nat.le_of_ble_eq_true rfl) rfl (Nat.le_of_ble_eq_true rfl) ?_
  refine b_waiting l v c0 hn (hxs _) (hxs _) (fun c1 v1 p1 h1 hc l1 rf => bh_1 ?_)
  refine x_is5 k_140_876 rfl ?_
  refine x_aload_n k_140_878 rfl ?_
  refine x_aload_n k_140_879 rfl ?_
  refine x_iload k_140_880 rfl ?_
  refine x_iconst k_140_882 ?_
  refine x_iadd k_140_883 ?_
  refine x_iaload k_140_884 l1.sc (Or.inr rfl) (by omega) (by omega) ?_
  refine x_aload_n k_140_885 rfl ?_
  refine x_iload k_140_886 rfl ?_
  refine x_iconst k_140_888 ?_
  refine x_iadd k_140_889 ?_
  refine x_iaload k_140_890 l1.sc (Or.inr rfl) (by omega) (by omega) ?_
  refine x_call3 k_140_891 (Nat.le_of_ble_eq_true rfl) (rcv_1 l1.mp.1) (Nat.le_of_ble_eq_true rfl) ?_
  refine rf _ (fun b h2 hb lst => bh_1 ?_)
  have lst2 := lst
  obtain ⟨C2, A2, I2, Ls2, c2, v2, l2⟩ := lst2
  refine x_is6 k_140_894 rfl ?_
  refine x_aload_n k_140_896 rfl ?_
  refine x_call1 k_140_897 (Nat.le_of_ble_eq_true rfl) (rcv_1 l2.mp.1) (Nat.le_of_ble_eq_true rfl) ?_
  refine r_thrown l2.mp (bh_1 ?_)
  show Rn 140 900 _ [aI c1] h2 Q
  refine x_iload k_140_900 rfl ?_
  refine x_icmpeq (t := 907) k_140_902 rfl ⟨hc, hc⟩ (fun _ => ?_) (fun q => absurd rfl q)
  refine x_iload k_140_907 rfl ?_
  refine x_ifne (t := 924) k_140_909 rfl hc (fun _ => ?_) (fun q => ?_)
  · refine x_goto (t := 1144) k_140_924 rfl ?_
    exact k _ _ _ _ _ _ lst
  · obtain ⟨e, rb⟩ := hb (Decidable.not_not.mp q)
    obtain ⟨f, hf, f0⟩ := l2.out
    refine x_aload_n k_140_912 rfl ?_
    refine x_iconst k_140_913 ?_
    refine x_laload k_140_914 hf (by decide) (by decide) ?_
    show Rn 140 915 _ [aL (f 0)] h2 Q
    rw [f0, e]
    refine x_iload k_140_915 rfl ?_
    refine x_i2l k_140_917 rb ?_
    refine x_lcmp k_140_918 ⟨by omega, by omega⟩ ?_
    rw [if_neg (Int.lt_irrefl _), if_pos rfl]
    refine x_ifeq (t := 924) k_140_919 rfl (by decide) (fun _ => ?_) (fun q => absurd rfl q)
    refine x_goto (t := 1144) k_140_924 rfl ?_
    exact k _ _ _ _ _ _ lst
theorem lb_seen (hxs : ∀ j, inR (xs j)) (lst : LST as ao scr am adm len xs v0 S N n c h) (hi : 5 * n + 5 ≤ len) (hn : n < 512) {l5 l6 l7 : Option AV} (k : ∀ v1 c1 h' l5 l6 l7, LST as ao scr am adm len xs v1 (S + 4200) (N + 1100) (n + 1) c1 h' → Rn 140 1144 [some (aR scr), some (aR as), some (aR am), some (aR ao), some (aI ((5 * n : Nat) : Int)), l5, l6, l7] [] h' Q) : Rn 140 927 [some (aR scr), some (aR as), some (aR am), some (aR ao), some (aI ((5 * n : Nat) : Int)), l5, l6, l7] [] h Q := by
  obtain ⟨C, A, I, Ls, c0, v, l⟩ := lst
  refine x_aload_n k_140_927 rfl ?_
  refine x_aload_n k_140_928 rfl ?_
  refine x_iload k_140_929 rfl ?_
  refine x_iconst k_140_931 ?_
  refine x_iadd k_140_932 ?_
  refine x_iaload k_140_933 l.sc (Or.inr rfl) (by omega) (by omega) ?_
  refine x_aload_n k_140_934 rfl ?_
  refine x_iload k_140_935 rfl ?_
  refine x_iconst k_140_937 ?_
  refine x_iadd k_140_938 ?_
  refine x_iaload k_140_939 l.sc (Or.inr rfl) (by omega) (by omega) ?_
  refine x_aload_n k_140_940 rfl ?_
  refine x_call4 k_140_941 (Nat.le_of_ble_eq_true rfl) rfl (Nat.le_of_ble_eq_true rfl) ?_
  refine b_seen l v c0 hn (hxs _) (hxs _) (fun c1 v1 p1 h1 hc l1 rf => bh_1 ?_)
  refine x_is5 k_140_944 rfl ?_
  refine x_aload_n k_140_946 rfl ?_
  refine x_aload_n k_140_947 rfl ?_
  refine x_iload k_140_948 rfl ?_
  refine x_iconst k_140_950 ?_
  refine x_iadd k_140_951 ?_
  refine x_iaload k_140_952 l1.sc (Or.inr rfl) (by omega) (by omega) ?_
  refine x_aload_n k_140_953 rfl ?_
  refine x_iload k_140_954 rfl ?_
  refine x_iconst k_140_956 ?_
  refine x_iadd k_140_957 ?_
  refine x_iaload k_140_958 l1.sc (Or.inr rfl) (by omega) (by omega) ?_
  refine x_call3 k_140_959 (Nat.le_of_ble_eq_true rfl) (rcv_1 l1.mp.1) (Nat.le_of_ble_eq_true rfl) ?_
  refine rf _ (fun b h2 hb lst => bh_1 ?_)
  have lst2 := lst
  obtain ⟨C2, A2, I2, Ls2, c2, v2, l2⟩ := lst2
  refine x_is6 k_140_962 rfl ?_
  refine x_aload_n k_140_964 rfl ?_
  refine x_call1 k_140_965 (Nat.le_of_ble_eq_true rfl) (rcv_1 l2.mp.1) (Nat.le_of_ble_eq_true rfl) ?_
  refine r_thrown l2.mp (bh_1 ?_)
  show Rn 140 968 _ [aI c1] h2 Q
  refine x_iload k_140_968 rfl ?_
  refine x_icmpeq (t := 975) k_140_970 rfl ⟨hc, hc⟩ (fun _ => ?_) (fun q => absurd rfl q)
  refine x_iload k_140_975 rfl ?_
  refine x_ifne (t := 992) k_140_977 rfl hc (fun _ => ?_) (fun q => ?_)
  · refine x_goto (t := 1144) k_140_992 rfl ?_
    exact k _ _ _ _ _ _ lst
  · obtain ⟨e, rb⟩ := hb (Decidable.not_not.mp q)
    obtain ⟨f, hf, f0⟩ := l2.out
    refine x_aload_n k_140_980 rfl ?_
    refine x_iconst k_140_981 ?_
    refine x_laload k_140_982 hf (by decide) (by decide) ?_
    show Rn 140 983 _ [aL (f 0)] h2 Q
    rw [f0, e]
    refine x_iload k_140_983 rfl ?_
    refine x_i2l k_140_985 rb ?_
    refine x_lcmp k_140_986 ⟨by omega, by omega⟩ ?_
    rw [if_neg (Int.lt_irrefl _), if_pos rfl]
    refine x_ifeq (t := 992) k_140_987 rfl (by decide) (fun _ => ?_) (fun q => absurd rfl q)
    refine x_goto (t := 1144) k_140_992 rfl ?_
    exact k _ _ _ _ _ _ lst
theorem lb_state (hxs : ∀ j, inR (xs j)) (lst : LST as ao scr am adm len xs v0 S N n c h) (hi : 5 * n + 5 ≤ len) (hn : n < 512) {l5 l6 l7 : Option AV} (k : ∀ v1 c1 h' l5 l6 l7, LST as ao scr am adm len xs v1 (S + 4200) (N + 1100) (n + 1) c1 h' → Rn 140 1144 [some (aR scr), some (aR as), some (aR am), some (aR ao), some (aI ((5 * n : Nat) : Int)), l5, l6, l7] [] h' Q) : Rn 140 995 [some (aR scr), some (aR as), some (aR am), some (aR ao), some (aI ((5 * n : Nat) : Int)), l5, l6, l7] [] h Q := by
  obtain ⟨C, A, I, Ls, c0, v, l⟩ := lst
  refine x_aload_n k_140_995 rfl ?_
  refine x_aload_n k_140_996 rfl ?_
  refine x_iload k_140_997 rfl ?_
  refine x_iconst k_140_999 ?_
  refine x_iadd k_140_1000 ?_
  refine x_iaload k_140_1001 l.sc (Or.inr rfl) (by omega) (by omega) ?_
  refine x_aload_n k_140_1002 rfl ?_
  refine x_iload k_140_1003 rfl ?_
  refine x_iconst k_140_1005 ?_
  refine x_iadd k_140_1006 ?_
  refine x_iaload k_140_1007 l.sc (Or.inr rfl) (by omega) (by omega) ?_
  refine x_aload_n k_140_1008 rfl ?_
  refine x_call4 k_140_1009 (Nat.le_of_ble_eq_true rfl) rfl (Nat.le_of_ble_eq_true rfl) ?_
  refine b_state l v c0 hn (hxs _) (hxs _) (fun c1 v1 p1 h1 hc l1 rf => bh_1 ?_)
  refine x_is5 k_140_1012 rfl ?_
  refine x_aload_n k_140_1014 rfl ?_
  refine x_aload_n k_140_1015 rfl ?_
  refine x_iload k_140_1016 rfl ?_
  refine x_iconst k_140_1018 ?_
  refine x_iadd k_140_1019 ?_
  refine x_iaload k_140_1020 l1.sc (Or.inr rfl) (by omega) (by omega) ?_
  refine x_aload_n k_140_1021 rfl ?_
  refine x_iload k_140_1022 rfl ?_
  refine x_iconst k_140_1024 ?_
  refine x_iadd k_140_1025 ?_
  refine x_iaload k_140_1026 l1.sc (Or.inr rfl) (by omega) (by omega) ?_
  refine x_call3 k_140_1027 (Nat.le_of_ble_eq_true rfl) (rcv_1 l1.mp.1) (Nat.le_of_ble_eq_true rfl) ?_
  refine rf _ (fun b h2 hb lst => bh_1 ?_)
  have lst2 := lst
  obtain ⟨C2, A2, I2, Ls2, c2, v2, l2⟩ := lst2
  refine x_is6 k_140_1030 rfl ?_
  refine x_aload_n k_140_1032 rfl ?_
  refine x_call1 k_140_1033 (Nat.le_of_ble_eq_true rfl) (rcv_1 l2.mp.1) (Nat.le_of_ble_eq_true rfl) ?_
  refine r_thrown l2.mp (bh_1 ?_)
  show Rn 140 1036 _ [aI c1] h2 Q
  refine x_iload k_140_1036 rfl ?_
  refine x_icmpeq (t := 1043) k_140_1038 rfl ⟨hc, hc⟩ (fun _ => ?_) (fun q => absurd rfl q)
  refine x_iload k_140_1043 rfl ?_
  refine x_ifne (t := 1060) k_140_1045 rfl hc (fun _ => ?_) (fun q => ?_)
  · refine x_goto (t := 1144) k_140_1060 rfl ?_
    exact k _ _ _ _ _ _ lst
  · obtain ⟨e, rb⟩ := hb (Decidable.not_not.mp q)
    obtain ⟨f, hf, f0⟩ := l2.out
    refine x_aload_n k_140_1048 rfl ?_
    refine x_iconst k_140_1049 ?_
    refine x_laload k_140_1050 hf (by decide) (by decide) ?_
    show Rn 140 1051 _ [aL (f 0)] h2 Q
    rw [f0, e]
    refine x_iload k_140_1051 rfl ?_
    refine x_i2l k_140_1053 rb ?_
    refine x_lcmp k_140_1054 ⟨by omega, by omega⟩ ?_
    rw [if_neg (Int.lt_irrefl _), if_pos rfl]
    refine x_ifeq (t := 1060) k_140_1055 rfl (by decide) (fun _ => ?_) (fun q => absurd rfl q)
    refine x_goto (t := 1144) k_140_1060 rfl ?_
    exact k _ _ _ _ _ _ lst
theorem lb_locked (hxs : ∀ j, inR (xs j)) (lst : LST as ao scr am adm len xs v0 S N n c h) (hi : 5 * n + 5 ≤ len) (hn : n < 512) {l5 l6 l7 : Option AV} (k : ∀ v1 c1 h' l5 l6 l7, LST as ao scr am adm len xs v1 (S + 4200) (N + 1100) (n + 1) c1 h' → Rn 140 1144 [some (aR scr), some (aR as), some (aR am), some (aR ao), some (aI ((5 * n : Nat) : Int)), l5, l6, l7] [] h' Q) : Rn 140 1063 [some (aR scr), some (aR as), some (aR am), some (aR ao), some (aI ((5 * n : Nat) : Int)), l5, l6, l7] [] h Q := by
  obtain ⟨C, A, I, Ls, c0, v, l⟩ := lst
  refine x_aload_n k_140_1063 rfl ?_
  refine x_aload_n k_140_1064 rfl ?_
  refine x_iload k_140_1065 rfl ?_
  refine x_iconst k_140_1067 ?_
  refine x_iadd k_140_1068 ?_
  refine x_iaload k_140_1069 l.sc (Or.inr rfl) (by omega) (by omega) ?_
  refine x_aload_n k_140_1070 rfl ?_
  refine x_call3 k_140_1071 (Nat.le_of_ble_eq_true rfl) rfl (Nat.le_of_ble_eq_true rfl) ?_
  refine b_locked l v c0 hn (hxs _) (fun c1 v1 p1 h1 hc l1 rf => bh_1 ?_)
  refine x_is5 k_140_1074 rfl ?_
  refine x_aload_n k_140_1076 rfl ?_
  refine x_aload_n k_140_1077 rfl ?_
  refine x_iload k_140_1078 rfl ?_
  refine x_iconst k_140_1080 ?_
  refine x_iadd k_140_1081 ?_
  refine x_iaload k_140_1082 l1.sc (Or.inr rfl) (by omega) (by omega) ?_
  refine x_call2 k_140_1083 (Nat.le_of_ble_eq_true rfl) (rcv_1 l1.mp.1) (Nat.le_of_ble_eq_true rfl) ?_
  refine rf _ (fun b h2 hb lst => bh_1 ?_)
  have lst2 := lst
  obtain ⟨C2, A2, I2, Ls2, c2, v2, l2⟩ := lst2
  refine x_is6 k_140_1086 rfl ?_
  refine x_aload_n k_140_1088 rfl ?_
  refine x_call1 k_140_1089 (Nat.le_of_ble_eq_true rfl) (rcv_1 l2.mp.1) (Nat.le_of_ble_eq_true rfl) ?_
  refine r_thrown l2.mp (bh_1 ?_)
  show Rn 140 1092 _ [aI c1] h2 Q
  refine x_iload k_140_1092 rfl ?_
  refine x_icmpeq (t := 1099) k_140_1094 rfl ⟨hc, hc⟩ (fun _ => ?_) (fun q => absurd rfl q)
  refine x_iload k_140_1099 rfl ?_
  refine x_ifne (t := 1116) k_140_1101 rfl hc (fun _ => ?_) (fun q => ?_)
  · refine x_goto (t := 1144) k_140_1116 rfl ?_
    exact k _ _ _ _ _ _ lst
  · obtain ⟨e, rb⟩ := hb (Decidable.not_not.mp q)
    obtain ⟨f, hf, f0⟩ := l2.out
    refine x_aload_n k_140_1104 rfl ?_
    refine x_iconst k_140_1105 ?_
    refine x_laload k_140_1106 hf (by decide) (by decide) ?_
    show Rn 140 1107 _ [aL (f 0)] h2 Q
    rw [f0, e]
    refine x_iload k_140_1107 rfl ?_
    refine x_i2l k_140_1109 rb ?_
    refine x_lcmp k_140_1110 ⟨by omega, by omega⟩ ?_
    rw [if_neg (Int.lt_irrefl _), if_pos rfl]
    refine x_ifeq (t := 1116) k_140_1111 rfl (by decide) (fun _ => ?_) (fun q => absurd rfl q)
    refine x_goto (t := 1144) k_140_1116 rfl ?_
    exact k _ _ _ _ _ _ lst
theorem lb_count1 (hxs : ∀ j, inR (xs j)) (lst : LST as ao scr am adm len xs v0 S N n c h) (hi : 5 * n + 5 ≤ len) (hn : n < 512) {l5 l6 l7 : Option AV} (k : ∀ v1 c1 h' l5 l6 l7, LST as ao scr am adm len xs v1 (S + 4200) (N + 1100) (n + 1) c1 h' → Rn 140 1144 [some (aR scr), some (aR as), some (aR am), some (aR ao), some (aI ((5 * n : Nat) : Int)), l5, l6, l7] [] h' Q) : Rn 140 1119 [some (aR scr), some (aR as), some (aR am), some (aR ao), some (aI ((5 * n : Nat) : Int)), l5, l6, l7] [] h Q := by
  obtain ⟨C, A, I, Ls, c0, v, l⟩ := lst
  have l0 := l
  obtain ⟨ad, ow, K, F, cp, ea, y, lo⟩ := l0
  obtain ⟨wd, g, b, lt, fo, ib, pt, jj, hb, tb⟩ := y
  have wd : WD ad ow K h := wd
  have g : CI ad K h.2.2.2.1 C A I F Ls cp := g
  have b : RB C A := b
  have hr := cnR_b b (x := (xs (((5 * n : Nat) : Int) + 1).toNat))
  refine x_aload_n k_140_1119 rfl ?_
  refine x_aload_n k_140_1120 rfl ?_
  refine x_iload k_140_1121 rfl ?_
  refine x_iconst k_140_1123 ?_
  refine x_iadd k_140_1124 ?_
  refine x_iaload k_140_1125 l.sc (Or.inr rfl) (by omega) (by omega) ?_
  rw [← ea]
  refine x_call2 k_140_1126 (Nat.le_of_ble_eq_true rfl) (rcv_1 (wd.at g.store)) (Nat.le_of_ble_eq_true rfl) ?_
  refine k_count wd g b (hxs _) (bh_1 ?_)
  rw [ct_eq v]
  refine x_aload_n k_140_1129 rfl ?_
  refine x_aload_n k_140_1130 rfl ?_
  refine x_iload k_140_1131 rfl ?_
  refine x_iconst k_140_1133 ?_
  refine x_iadd k_140_1134 ?_
  refine x_iaload k_140_1135 l.sc (Or.inr rfl) (by omega) (by omega) ?_
  refine x_call2 k_140_1136 (Nat.le_of_ble_eq_true rfl) (rcv_1 l.mp.1) (Nat.le_of_ble_eq_true rfl) ?_
  refine r_count1 l.mp b (hxs _) (fun h' m' mv => bh_1 ?_)
  refine x_icmpeq (t := 1144) k_140_1139 rfl ⟨hr, hr⟩ (fun _ => ?_) (fun q => absurd rfl q)
  rw [ea]
  exact k _ _ _ _ _ _ ((l.mono (S' := S + 4200) (N' := N + 1100) (M' := 512) (H' := n + 1) (by omega) (by omega) (by omega) (by omega)).e0 v c0 hn m' mv)
theorem lb_turn (hxs : ∀ j, inR (xs j)) (lst : LST as ao scr am adm len xs v0 S N n c h) (hi : 5 * n + 5 ≤ len) (hn : n < 512) {l5 l6 l7 : Option AV} (k : ∀ v1 c1 h' l5 l6 l7, LST as ao scr am adm len xs v1 (S + 4200) (N + 1100) (n + 1) c1 h' → Rn 140 1144 [some (aR scr), some (aR as), some (aR am), some (aR ao), some (aI ((5 * n : Nat) : Int)), l5, l6, l7] [] h' Q) : Rn 140 32 [some (aR scr), some (aR as), some (aR am), some (aR ao), some (aI ((5 * n : Nat) : Int)), l5, l6, l7] [] h Q := by
  have lst2 := lst
  obtain ⟨C, A, I, Ls, c0, v, l⟩ := lst2
  refine x_aload_n k_140_32 rfl ?_
  refine x_iload k_140_33 rfl ?_
  refine x_iaload k_140_35 l.sc (Or.inr rfl) (by omega) (by omega) ?_
  refine x_bipush k_140_36 ?_
  refine x_iand k_140_38 ?_
  have a := and15 (xs (((5 * n : Nat) : Int)).toNat)
  generalize f_and (xs (((5 * n : Nat) : Int)).toNat) 15 = x at a ⊢
  have e : x = 0 ∨ x = 1 ∨ x = 2 ∨ x = 3 ∨ x = 4 ∨ x = 5 ∨ x = 6 ∨ x = 7 ∨ x = 8 ∨ x = 9 ∨ x = 10 ∨ x = 11 ∨ x = 12 ∨ x = 13 ∨ x = 14 ∨ x = 15 := by omega
  rcases e with e | e | e | e | e | e | e | e | e | e | e | e | e | e | e | e
  · subst e
    refine x_tabIn (o := 77) (t := 116) k_140_39 (by decide) (by decide) rfl rfl ?_
    exact lb_sites hxs lst hi hn k
  · subst e
    refine x_tabIn (o := 113) (t := 152) k_140_39 (by decide) (by decide) rfl rfl ?_
    exact lb_object hxs lst hi hn k
  · subst e
    refine x_tabIn (o := 197) (t := 236) k_140_39 (by decide) (by decide) rfl rfl ?_
    exact lb_begin hxs lst hi hn k
  · subst e
    refine x_tabIn (o := 253) (t := 292) k_140_39 (by decide) (by decide) rfl rfl ?_
    exact lb_read hxs lst hi hn k
  · subst e
    refine x_tabIn (o := 320) (t := 359) k_140_39 (by decide) (by decide) rfl rfl ?_
    exact lb_write hxs lst hi hn k
  · subst e
    refine x_tabIn (o := 412) (t := 451) k_140_39 (by decide) (by decide) rfl rfl ?_
    exact lb_change hxs lst hi hn k
  · subst e
    refine x_tabIn (o := 500) (t := 539) k_140_39 (by decide) (by decide) rfl rfl ?_
    exact lb_count3 hxs lst hi hn k
  · subst e
    refine x_tabIn (o := 580) (t := 619) k_140_39 (by decide) (by decide) rfl rfl ?_
    exact lb_element hxs lst hi hn k
  · subst e
    refine x_tabIn (o := 660) (t := 699) k_140_39 (by decide) (by decide) rfl rfl ?_
    exact lb_commit hxs lst hi hn k
  · subst e
    refine x_tabIn (o := 716) (t := 755) k_140_39 (by decide) (by decide) rfl rfl ?_
    exact lb_abort hxs lst hi hn k
  · subst e
    refine x_tabIn (o := 752) (t := 791) k_140_39 (by decide) (by decide) rfl rfl ?_
    exact lb_deliver hxs lst hi hn k
  · subst e
    refine x_tabIn (o := 820) (t := 859) k_140_39 (by decide) (by decide) rfl rfl ?_
    exact lb_waiting hxs lst hi hn k
  · subst e
    refine x_tabIn (o := 888) (t := 927) k_140_39 (by decide) (by decide) rfl rfl ?_
    exact lb_seen hxs lst hi hn k
  · subst e
    refine x_tabIn (o := 956) (t := 995) k_140_39 (by decide) (by decide) rfl rfl ?_
    exact lb_state hxs lst hi hn k
  · subst e
    refine x_tabIn (o := 1024) (t := 1063) k_140_39 (by decide) (by decide) rfl rfl ?_
    exact lb_locked hxs lst hi hn k
  · subst e
    refine x_tabIn (o := 1080) (t := 1119) k_140_39 (by decide) (by decide) rfl rfl ?_
    exact lb_count1 hxs lst hi hn k
theorem law_lp {S0 N0 : Nat} (hxs : ∀ j, inR (xs j)) (hlen : len ≤ 2560) (fin : ∀ n v0 c h', n ≤ 512 → LST as ao scr am adm len xs v0 (S0 + 4200 * n) (N0 + 1100 * n) n c h' → Q (.inl (some (aI 1))) h') : ∀ m n v0 c h l5 l6 l7, len ≤ 5 * n + m → n ≤ 512 → LST as ao scr am adm len xs v0 (S0 + 4200 * n) (N0 + 1100 * n) n c h → Rn 140 23 [some (aR scr), some (aR as), some (aR am), some (aR ao), some (aI ((5 * n : Nat) : Int)), l5, l6, l7] [] h Q := by
  intro m
  induction m with
  | zero =>
    intro n v0 c h l5 l6 l7 hm hn lst
    have lst2 := lst
    obtain ⟨C, A, I, Ls, c0, v, l⟩ := lst2
    refine x_iload k_140_23 rfl ?_
    refine x_aload_n k_140_25 rfl ?_
    refine x_alen k_140_26 l.sc ?_
    refine x_iconst k_140_27 ?_
    refine x_isub k_140_28 ?_
    refine x_icmpgt (t := 1150) k_140_29 rfl ⟨⟨by omega, by omega⟩, ⟨by omega, by omega⟩⟩ (fun hb => ?_) (fun hb => absurd (by omega) hb)
    refine x_iconst k_140_1150 ?_
    refine x_zreturn k_140_1151 rfl (Or.inr rfl) ?_
    exact fin n v0 c h hn lst
  | succ m ih =>
    intro n v0 c h l5 l6 l7 hm hn lst
    have lst2 := lst
    obtain ⟨C, A, I, Ls, c0, v, l⟩ := lst2
    refine x_iload k_140_23 rfl ?_
    refine x_aload_n k_140_25 rfl ?_
    refine x_alen k_140_26 l.sc ?_
    refine x_iconst k_140_27 ?_
    refine x_isub k_140_28 ?_
    refine x_icmpgt (t := 1150) k_140_29 rfl ⟨⟨by omega, by omega⟩, ⟨by omega, by omega⟩⟩ (fun hb => ?_) (fun hb => ?_)
    · refine x_iconst k_140_1150 ?_
      refine x_zreturn k_140_1151 rfl (Or.inr rfl) ?_
      exact fin n v0 c h hn lst
    · refine lb_turn hxs lst (by omega) (by omega) (fun v1 c1 h' l5 l6 l7 lst => ?_)
      refine x_inc4 k_140_1144 rfl ?_
      refine x_goto (t := 23) k_140_1147 rfl ?_
      rw [show ((5 * n : Nat) : Int) + 5 = ((5 * (n + 1) : Nat) : Int) by omega]
      refine ih (n + 1) v1 c1 h' l5 l6 l7 (by omega) (by omega) ?_
      rw [show S0 + 4200 * (n + 1) = S0 + 4200 * n + 4200 by omega, show N0 + 1100 * (n + 1) = N0 + 1100 * n + 1100 by omega]
      exact lst
end LD
