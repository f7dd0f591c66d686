section LB
variable {ad : AD} {ow : OW} {K : KK} {h : AH} {C : Nat → Int} {A I : Nat → Nat → Int} {F : Nat → Nat → Nat → Int} {Ls : Nat → List Nat} {cp : Nat → Nat} {Q : AR → AH → Prop}
variable {as ao scr am len : Nat} {adm : Nat → Nat} {xs : Nat → Int} {v0 : Int} {S N H n : Nat} {CM : Nat → Int} {AM : Nat → Nat → Int}
theorem LW.exn {M ci : Nat} {CM : Nat → Int} {AM : Nat → Nat → Int} {p : CB} (l : LW as ao scr am adm len xs v0 S N M H CM AM p h) : LW as ao scr am adm len xs v0 (S + 6) (N + 1) M H CM AM p (hex h ci) := by
  obtain ⟨ad, ow, K, F, cp, ea, y, lo⟩ := l
  exact LW.cls ea lo (exn_x y)
theorem LW.rb {M : Nat} {CM : Nat → Int} {AM : Nat → Nat → Int} {p : CB} (l : LW as ao scr am adm len xs v0 S N M H CM AM p h) : RB p.1 p.2.1 := by
  obtain ⟨ad, ow, K, F, cp, ea, y, lo⟩ := l
  exact y.2.2.1
theorem LW.out {M : Nat} {CM : Nat → Int} {AM : Nat → Nat → Int} {p : CB} (l : LW as ao scr am adm len xs v0 S N M H CM AM p h) : ∃ f, h.1 ao = some (.inl (1, 1, .inr (.inl f))) ∧ f 0 = v0 := by
  obtain ⟨ad, ow, K, F, cp, ea, y, lo⟩ := l
  exact lo.2.2.1
theorem IV.nb (v : IV n C A I Ls) : ∀ t k, t < (C 3).toNat → (k ∈ Ls (500 + 2 * t) ∨ k ∈ Ls (501 + 2 * t)) → k < (C 4).toNat := fun t k ht h => h.elim (fun z => (v.2.1.2.1 t k ht z).1) (fun z => ((c501 v.2.1 ht).mp z).1)
theorem IV.mb (v : IV n C A I Ls) : ∀ q, q < (C 5).toNat → (A 19 q).toNat < (C 3).toNat := fun q hq => by
  have := (v.2.2.2.2.2.2.2.1.2.1 q hq).1
  omega
theorem IV.bd (v : IV n C A I Ls) : C 4 ≤ n ∧ C 5 ≤ 6 * n ∧ C 6 ≤ 500 ∧ I 3 0 ≤ n ∧ 0 ≤ I 3 0 := by
  obtain ⟨b, -, -, g3, -, -, -, -, -, -, -, w3, w4, w5⟩ := v
  have b2 := b.c2
  have b3 := b.c3
  have b4 := b.c4
  have k6 := g3.2.2.2.2.2.1
  have k6b := nP_b (fun t => 0 < A 5 t) (C 3).toNat
  omega
theorem IV.hl (v : IV n C A I Ls) : ∀ t, t < (C 3).toNat → (Ls (500 + 2 * t)).length ≤ n ∧ (Ls (501 + 2 * t)).length ≤ n := fun t ht => by
  have q := v.bd
  have g1 := v.2.1
  have b4 := v.1.c4
  exact ⟨Nat.le_trans (nd_len (m := (C 4).toNat) (g1.2.2.2.1 t ht) (fun x hx => v.nb t x ht (Or.inl hx))) (by omega), Nat.le_trans (nd_len (m := (C 4).toNat) (by rw [g1.2.2.2.2.2.2 t ht]; exact List.nodup_range.filter _) (fun x hx => v.nb t x ht (Or.inr hx))) (by omega)⟩
theorem IV.h14 (v : IV n C A I Ls) {t : Nat} (ht : t < (C 3).toNat) (h4 : A 4 t = 0 ∨ A 4 t = 3) : A 14 (A 3 t).toNat < 500 := by
  obtain ⟨b, -, -, g3, g4, -⟩ := v
  have h5 : ¬ 0 < A 5 t := fun z => by have := g4.1 t ht z; omega
  have k6 := g3.2.2.2.2.2.1
  have k14 := g3.2.2.2.2.1 (A 3 t).toNat
  have := nP_lt (P := fun t => 0 < A 5 t) h5 (C 3).toNat ht
  have b3 := b.c3
  omega
theorem IV.h13 (v : IV n C A I Ls) : ∀ t, t < (C 3).toNat → (A 4 t = 0 ∨ A 4 t = 3) → A 13 (6 * (A 3 t).toNat + (A 3 t).toNat) < 500 := fun t ht h4 => by
  have h := v.h14 ht h4
  have g3 := v.2.2.2.1
  have a3 := g3.2.2.2.2.2.2.1 t ht
  have b3 := v.1.v3 t
  rw [g3.2.2.2.1 _ (by omega)]
  exact h
theorem IV.hin (v : IV n C A I Ls) : ∀ t' x, t' < (C 3).toNat → x ∈ Ls (501 + 2 * t') → inR (A 12 x) := fun t x ht hx => by
  have q := (c501 v.2.1 ht).mp hx
  exact (v.2.1.1 x q.1).2.2.2 q.2.2
theorem IV.l2 (v : IV n C A I Ls) {t o : Nat} (ht : t < (C 3).toNat) (ho : o < (C 2).toNat) (h0 : A 4 t = 0) : (Ls (21 + 2 * o)).length + (Ls (501 + 2 * t)).length ≤ n := by
  have q := v.bd
  obtain ⟨b, g1, g2, g3, g4, g5, gw, g6, -⟩ := v
  have op := opn b g4 g6 ht h0
  have b4 := b.c4
  rw [← List.length_append]
  refine Nat.le_trans (nd_len (m := (C 4).toNat) (List.nodup_append.mpr ⟨(g2.2.2.1 o ho).2, by rw [g1.2.2.2.2.2.2 t ht]; exact List.nodup_range.filter _, fun x hx y hy e => ?_⟩) (fun x hx => ?_)) (by omega)
  · subst e
    obtain ⟨c, c1, c2, c3, c4⟩ := (g2.2.1 o x ho).mp hx
    have q1 := ((c501 g1 c1).mp c3).2.1
    have q2 := ((c501 g1 ht).mp hy).2.1
    have e : c = t := by omega
    rw [e] at c2
    omega
  · rcases List.mem_append.mp hx with z | z
    · obtain ⟨c, c1, c2, c3, c4⟩ := (g2.2.1 o x ho).mp z
      exact ((c501 g1 c1).mp c3).1
    · exact ((c501 g1 ht).mp z).1
theorem lst_b (b : RB C A) {t o : Nat} : ∀ m, inL (lst A t o m) := by
  intro m
  induction m with
  | zero => exact (show inL 0 from ⟨by decide, by decide⟩)
  | succ m ih =>
    show inL (if A 9 m = t ∧ A 10 m = o then A 12 m else lst A t o m)
    split
    · exact b.v12 m
    · exact ih
theorem rd_b (b : RB C A) {t o : Nat} : inL (rdV C A t o) := by
  unfold rdV
  split
  · exact lst_b b _
  · split
    · exact ⟨by decide, by decide⟩
    · exact lst_b b _
theorem wtn_b {a d : Int} : ∀ m : Nat, 0 ≤ wtn A a d m ∧ wtn A a d m ≤ m := by
  intro m
  induction m with
  | zero => exact ⟨Int.le_refl _, Int.le_refl _⟩
  | succ m ih =>
    show 0 ≤ (if wtq A a d m then wtn A a d m + 1 else wtn A a d m) ∧ (if wtq A a d m then wtn A a d m + 1 else wtn A a d m) ≤ _
    split <;> omega
theorem apn_b {t : Nat} : ∀ m : Nat, 0 ≤ apn A t m ∧ apn A t m ≤ m := by
  intro m
  induction m with
  | zero => exact ⟨Int.le_refl _, Int.le_refl _⟩
  | succ m ih =>
    show 0 ≤ (if apq A t m then apn A t m + 1 else apn A t m) ∧ (if apq A t m then apn A t m + 1 else apn A t m) ≤ _
    split <;> omega
theorem stR_b (b : RB C A) {t : Nat} {x : Int} : -100 ≤ stR C A t x ∧ stR C A t x ≤ 1000 := by
  have h4 := b.v4 t
  have h5 := b.v5 t
  have h7 := b.v7 t
  have h8 := b.v8 t
  have h1 := b.c1
  have ha := apn_b (A := A) (t := t) (C 1).toNat
  unfold stR
  split
  · omega
  · split
    · omega
    · split
      · split <;> omega
      · omega
theorem w_sites (l : LW as ao scr am adm len xs v0 S N 512 H CM AM (C, A, I, Ls) h) (v : IV n C A I Ls) (hn : n < 512) (hH : H < 70000) {m : Int} (hm : inR m) (e1 : (m < 1 ∨ 6 < m) → ∀ h', LW as ao scr am adm len xs v0 (S + 4200) (N + 1100) 1536 (H + 1) CM AM (C, A, I, Ls) h' → Q (.inl (some (aI 1))) h') (e2 : ¬ ((m < 1 ∨ 6 < m)) → 0 < C 1 → ∀ h', LW as ao scr am adm len xs v0 (S + 4200) (N + 1100) 1536 (H + 1) CM AM (C, A, I, Ls) h' → Q (.inl (some (aI 2))) h') (k : ¬ (m < 1 ∨ 6 < m) → ¬ 0 < C 1 → ∀ h', LW as ao scr am adm len xs v0 (S + 4200) (N + 1100) 1536 (H + 1) CM AM (up C 1 m, A, I, Ls) h' → Q (.inl (some (aI 0))) h') : Rn 9 0 (entL 9 [aR as, aI m]) [] h Q := by
  obtain ⟨ad, ow, K, F, cp, ea, y, lo⟩ := l
  have y0 := y
  obtain ⟨w, g, b, lt, fo, ib, pt, ⟨jw, jc⟩, hb, tb⟩ := y
  have w : WD ad ow K h := w
  have g : CI ad K h.2.2.2.1 C A I F Ls cp := g
  have b : RB C A := b
  have lt : LT C A Ls := lt
  have ib : IB C Ls cp := ib
  have jw : JB C Ls cp 20 512 := jw
  have jc : JB C Ls cp 21 512 := jc
  have hb : HB C Ls cp H := hb
  have tb : TB C Ls cp := tb
  have b1 := b.c1
  have b2 := b.c2
  have b3 := b.c3
  have b4 := b.c4
  have b5 := b.c5
  have bd := v.bd
  have X1 : ∀ ci, LW as ao scr am adm len xs v0 (S + 4200) (N + 1100) 1536 (H + 1) CM AM (C, A, I, Ls) (hex h ci) := fun ci => (LW.cls ea lo (exn_x y0)).mono (by omega) (by omega) (by omega) (by omega)
  have X0 : LW as ao scr am adm len xs v0 S N 512 H CM AM (C, A, I, Ls) h := LW.cls ea lo (same_x y0 rfl)
  have pp : ∀ ad' : AD, (∀ k i, (k ≠ 7 ∨ i < (C 5).toNat) → k ≠ 10 → ad' k i = ad k i) → ad' 0 0 = ad 0 0 := fun ad' q => q 0 0 (Or.inl (by decide)) (by decide)
  rw [← ea]
  show Rn 9 0 [some (aR (ad 0 0)), some (aI m), none] [] h Q
  refine x_aload_n k_9_0 rfl ?_
  refine x_iload_n k_9_1 rfl ?_
  refine x_call2 k_9_2 (Nat.le_of_ble_eq_true rfl) (rcv_1 (w.at g.store)) (Nat.le_of_ble_eq_true rfl) ?_
  refine k_sites w g b lt fo ib pt jw jc hb tb v.2.2.2.2.2.2.2.2.2.1 (fun z j => (v.2.2.2.2.2.2.2.2.2.2.1 z j).1) hm (fun z => bh_c rfl ?_) (fun z z2 => bh_c rfl ?_) (fun z z2 h' wx => bh_v ?_)
  · refine x_as2n k_9_8 rfl ?_
    refine x_iconst k_9_9 ?_
    refine x_ireturn k_9_10 rfl ?_
    exact e1 z _ (X1 10)
  · refine x_as2n k_9_11 rfl ?_
    refine x_iconst k_9_12 ?_
    refine x_ireturn k_9_13 rfl ?_
    exact e2 z z2 _ (X1 11)
  · refine x_goto (t := 14) k_9_5 rfl ?_
    refine x_iconst k_9_14 ?_
    refine x_ireturn k_9_15 rfl ?_
    exact k z z2 h' ((LW.cls ea lo wx).mono (by omega) (by omega) (by omega) (by omega))
theorem w_object (l : LW as ao scr am adm len xs v0 S N 512 H CM AM (C, A, I, Ls) h) (v : IV n C A I Ls) (hn : n < 512) (hH : H < 70000) {s : Int} {wb : Bool} (hs : inR s) (e1 : ¬ (0 ≤ s ∧ s < C 1) → ∀ h', LW as ao scr am adm len xs v0 (S + 4200) (N + 1100) 1536 (H + 1) CM AM (C, A, I, Ls) h' → Q (.inl (some (aI 1))) h') (e2 : ¬ (¬ (0 ≤ s ∧ s < C 1)) → C 2 = 200 → ∀ h', LW as ao scr am adm len xs v0 (S + 4200) (N + 1100) 1536 (H + 1) CM AM (C, A, I, Ls) h' → Q (.inl (some (aI 2))) h') (k : (0 ≤ s ∧ s < C 1) → ¬ C 2 = 200 → ∀ h', LW as ao scr am adm len xs (C 2) (S + 4200) (N + 1100) 1536 (H + 1) CM AM (obS C A I Ls s wb) h' → Q (.inl (some (aI 0))) h') : Rn 12 0 (entL 12 [aR as, aI s, aI (bI wb), aR ao]) [] h Q := by
  obtain ⟨ad, ow, K, F, cp, ea, y, lo⟩ := l
  have y0 := y
  obtain ⟨w, g, b, lt, fo, ib, pt, ⟨jw, jc⟩, hb, tb⟩ := y
  have w : WD ad ow K h := w
  have g : CI ad K h.2.2.2.1 C A I F Ls cp := g
  have b : RB C A := b
  have lt : LT C A Ls := lt
  have ib : IB C Ls cp := ib
  have jw : JB C Ls cp 20 512 := jw
  have jc : JB C Ls cp 21 512 := jc
  have hb : HB C Ls cp H := hb
  have tb : TB C Ls cp := tb
  have b1 := b.c1
  have b2 := b.c2
  have b3 := b.c3
  have b4 := b.c4
  have b5 := b.c5
  have bd := v.bd
  have X1 : ∀ ci, LW as ao scr am adm len xs v0 (S + 4200) (N + 1100) 1536 (H + 1) CM AM (C, A, I, Ls) (hex h ci) := fun ci => (LW.cls ea lo (exn_x y0)).mono (by omega) (by omega) (by omega) (by omega)
  have X0 : LW as ao scr am adm len xs v0 S N 512 H CM AM (C, A, I, Ls) h := LW.cls ea lo (same_x y0 rfl)
  have pp : ∀ ad' : AD, (∀ k i, (k ≠ 7 ∨ i < (C 5).toNat) → k ≠ 10 → ad' k i = ad k i) → ad' 0 0 = ad 0 0 := fun ad' q => q 0 0 (Or.inl (by decide)) (by decide)
  rw [← ea]
  show Rn 12 0 [some (aR (ad 0 0)), some (aI s), some (aI (bI wb)), some (aR ao), none] [] h Q
  refine x_aload_n k_12_0 rfl ?_
  refine x_iconst k_12_1 ?_
  refine x_aload_n k_12_2 rfl ?_
  refine x_iload_n k_12_3 rfl ?_
  refine x_iload_n k_12_4 rfl ?_
  refine x_call3 k_12_5 (Nat.le_of_ble_eq_true rfl) (rcv_1 (w.at g.store)) (Nat.le_of_ble_eq_true rfl) ?_
  refine k_object w g b lt fo ib pt jw jc hb tb v.mb v.2.2.2.2.2.2.2.2.2.1 hs (fun z => bh_c rfl ?_) (fun z0 z2 => bh_c rfl ?_) (fun z z2 h' wx => bh_1 ?_)
  · refine x_as4 k_12_13 rfl ?_
    refine x_iconst k_12_15 ?_
    refine x_ireturn k_12_16 rfl ?_
    exact e1 z _ (X1 10)
  · refine x_as4 k_12_17 rfl ?_
    refine x_iconst k_12_19 ?_
    refine x_ireturn k_12_20 rfl ?_
    exact e2 (fun q => q z0) z2 _ (X1 11)
  · have l' := LW.cls ea lo wx
    obtain ⟨f, hf, -⟩ := l'.out
    refine x_i2l k_12_8 (by show inR (C 2); omega) ?_
    refine x_lastore k_12_9 hf (by decide) (by decide) ?_
    refine x_goto (t := 21) k_12_10 rfl ?_
    refine x_iconst k_12_21 ?_
    refine x_ireturn k_12_22 rfl ?_
    exact k z z2 _ ((l'.put hf).mono (by omega) (by omega) (by omega) (by omega))
theorem w_begin (l : LW as ao scr am adm len xs v0 S N 512 H CM AM (C, A, I, Ls) h) (v : IV n C A I Ls) (hn : n < 512) (hH : H < 70000) {s : Int} (hs : inR s) (e1 : ¬ (0 ≤ s ∧ s < C 1) → ∀ h', LW as ao scr am adm len xs v0 (S + 4200) (N + 1100) 1536 (H + 1) CM AM (C, A, I, Ls) h' → Q (.inl (some (aI 1))) h') (e2 : ¬ (¬ (0 ≤ s ∧ s < C 1)) → C 3 = 500 → ∀ h', LW as ao scr am adm len xs v0 (S + 4200) (N + 1100) 1536 (H + 1) CM AM (C, A, I, Ls) h' → Q (.inl (some (aI 2))) h') (k : (0 ≤ s ∧ s < C 1) → ¬ C 3 = 500 → ∀ h', LW as ao scr am adm len xs (C 3) (S + 4200) (N + 1100) 1536 (H + 1) CM AM (bgS C A I Ls s) h' → Q (.inl (some (aI 0))) h') : Rn 23 0 (entL 23 [aR as, aI s, aR ao]) [] h Q := by
  obtain ⟨ad, ow, K, F, cp, ea, y, lo⟩ := l
  have y0 := y
  obtain ⟨w, g, b, lt, fo, ib, pt, ⟨jw, jc⟩, hb, tb⟩ := y
  have w : WD ad ow K h := w
  have g : CI ad K h.2.2.2.1 C A I F Ls cp := g
  have b : RB C A := b
  have lt : LT C A Ls := lt
  have ib : IB C Ls cp := ib
  have jw : JB C Ls cp 20 512 := jw
  have jc : JB C Ls cp 21 512 := jc
  have hb : HB C Ls cp H := hb
  have tb : TB C Ls cp := tb
  have b1 := b.c1
  have b2 := b.c2
  have b3 := b.c3
  have b4 := b.c4
  have b5 := b.c5
  have bd := v.bd
  have X1 : ∀ ci, LW as ao scr am adm len xs v0 (S + 4200) (N + 1100) 1536 (H + 1) CM AM (C, A, I, Ls) (hex h ci) := fun ci => (LW.cls ea lo (exn_x y0)).mono (by omega) (by omega) (by omega) (by omega)
  have X0 : LW as ao scr am adm len xs v0 S N 512 H CM AM (C, A, I, Ls) h := LW.cls ea lo (same_x y0 rfl)
  have pp : ∀ ad' : AD, (∀ k i, (k ≠ 7 ∨ i < (C 5).toNat) → k ≠ 10 → ad' k i = ad k i) → ad' 0 0 = ad 0 0 := fun ad' q => q 0 0 (Or.inl (by decide)) (by decide)
  rw [← ea]
  show Rn 23 0 [some (aR (ad 0 0)), some (aI s), some (aR ao), none] [] h Q
  refine x_aload_n k_23_0 rfl ?_
  refine x_iconst k_23_1 ?_
  refine x_aload_n k_23_2 rfl ?_
  refine x_iload_n k_23_3 rfl ?_
  refine x_call2 k_23_4 (Nat.le_of_ble_eq_true rfl) (rcv_1 (w.at g.store)) (Nat.le_of_ble_eq_true rfl) ?_
  refine k_begin w g b lt fo ib pt jw jc hb tb v.mb v.2.2.2.2.2.2.2.2.2.1 (v.2.2.2.2.1.2.2 _ (Nat.le_refl _)) hs (fun z => bh_c rfl ?_) (fun z0 z2 => bh_c rfl ?_) (fun z z2 h' wx => bh_1 ?_)
  · refine x_as3n k_23_12 rfl ?_
    refine x_iconst k_23_13 ?_
    refine x_ireturn k_23_14 rfl ?_
    exact e1 z _ (X1 10)
  · refine x_as3n k_23_15 rfl ?_
    refine x_iconst k_23_16 ?_
    refine x_ireturn k_23_17 rfl ?_
    exact e2 (fun q => q z0) z2 _ (X1 11)
  · have l' := LW.cls ea lo wx
    obtain ⟨f, hf, -⟩ := l'.out
    refine x_i2l k_23_7 (by show inR (C 3); omega) ?_
    refine x_lastore k_23_8 hf (by decide) (by decide) ?_
    refine x_goto (t := 18) k_23_9 rfl ?_
    refine x_iconst k_23_18 ?_
    refine x_ireturn k_23_19 rfl ?_
    exact k z z2 _ ((l'.put hf).mono (by omega) (by omega) (by omega) (by omega))
theorem w_read (l : LW as ao scr am adm len xs v0 S N 512 H CM AM (C, A, I, Ls) h) (v : IV n C A I Ls) (hn : n < 512) (hH : H < 70000) {t o : Int} (ht : inR t) (ho : inR o) (e1 : badP C A t o false → ∀ h', LW as ao scr am adm len xs v0 (S + 4200) (N + 1100) 1536 (H + 1) CM AM (C, A, I, Ls) h' → Q (.inl (some (aI 1))) h') (e2 : ¬ (badP C A t o false) → refP C A t → ∀ h', LW as ao scr am adm len xs v0 (S + 4200) (N + 1100) 1536 (H + 1) CM AM (C, A, I, Ls) h' → Q (.inl (some (aI 2))) h') (k : ¬ badP C A t o false → ¬ refP C A t → ∀ h', LW as ao scr am adm len xs (rdV C A t.toNat o.toNat) (S + 4200) (N + 1100) 1536 (H + 1) CM AM (C, A, I, Ls) h' → Q (.inl (some (aI 0))) h') : Rn 26 0 (entL 26 [aR as, aI t, aI o, aR ao]) [] h Q := by
  obtain ⟨ad, ow, K, F, cp, ea, y, lo⟩ := l
  have y0 := y
  obtain ⟨w, g, b, lt, fo, ib, pt, ⟨jw, jc⟩, hb, tb⟩ := y
  have w : WD ad ow K h := w
  have g : CI ad K h.2.2.2.1 C A I F Ls cp := g
  have b : RB C A := b
  have lt : LT C A Ls := lt
  have ib : IB C Ls cp := ib
  have jw : JB C Ls cp 20 512 := jw
  have jc : JB C Ls cp 21 512 := jc
  have hb : HB C Ls cp H := hb
  have tb : TB C Ls cp := tb
  have b1 := b.c1
  have b2 := b.c2
  have b3 := b.c3
  have b4 := b.c4
  have b5 := b.c5
  have bd := v.bd
  have X1 : ∀ ci, LW as ao scr am adm len xs v0 (S + 4200) (N + 1100) 1536 (H + 1) CM AM (C, A, I, Ls) (hex h ci) := fun ci => (LW.cls ea lo (exn_x y0)).mono (by omega) (by omega) (by omega) (by omega)
  have X0 : LW as ao scr am adm len xs v0 S N 512 H CM AM (C, A, I, Ls) h := LW.cls ea lo (same_x y0 rfl)
  have pp : ∀ ad' : AD, (∀ k i, (k ≠ 7 ∨ i < (C 5).toNat) → k ≠ 10 → ad' k i = ad k i) → ad' 0 0 = ad 0 0 := fun ad' q => q 0 0 (Or.inl (by decide)) (by decide)
  rw [← ea]
  show Rn 26 0 [some (aR (ad 0 0)), some (aI t), some (aI o), some (aR ao), none] [] h Q
  refine x_aload_n k_26_0 rfl ?_
  refine x_iconst k_26_1 ?_
  refine x_aload_n k_26_2 rfl ?_
  refine x_iload_n k_26_3 rfl ?_
  refine x_iload_n k_26_4 rfl ?_
  refine x_call3 k_26_5 (Nat.le_of_ble_eq_true rfl) (rcv_1 (w.at g.store)) (Nat.le_of_ble_eq_true rfl) ?_
  refine k_read w g b lt ht ho (fun z => bh_c rfl ?_) (fun z z2 => bh_c rfl ?_) (fun z z2 x hx he => bh_1 ?_) (fun z z2 hno j x hj hv hl => bh_1 ?_) (fun z z2 hno hl => bh_1 ?_)
  · refine x_as4 k_26_12 rfl ?_
    refine x_iconst k_26_14 ?_
    refine x_ireturn k_26_15 rfl ?_
    exact e1 z _ (X1 10)
  · refine x_as4 k_26_16 rfl ?_
    refine x_iconst k_26_18 ?_
    refine x_ireturn k_26_19 rfl ?_
    exact e2 z z2 _ (X1 11)
  · have nb := z
    unfold badP at nb
    rw [show rdV C A t.toNat o.toNat = I 1 x from rd_own v (by omega) hx he] at k
    have l' := X0
    obtain ⟨f, hf, -⟩ := l'.out
    refine x_lastore k_26_8 hf (by decide) (by decide) ?_
    refine x_goto (t := 20) k_26_9 rfl ?_
    refine x_iconst k_26_20 ?_
    refine x_ireturn k_26_21 rfl ?_
    exact k z z2 _ ((l'.put hf).mono (by omega) (by omega) (by omega) (by omega))
  · have nb := z
    unfold badP at nb
    rw [show rdV C A t.toNat o.toNat = I 1 x from rd_seen v (by omega) (by omega) (by have := nb; rw [show bI false = 0 from rfl] at this; omega) hno hj hv hl] at k
    have l' := X0
    obtain ⟨f, hf, -⟩ := l'.out
    refine x_lastore k_26_8 hf (by decide) (by decide) ?_
    refine x_goto (t := 20) k_26_9 rfl ?_
    refine x_iconst k_26_20 ?_
    refine x_ireturn k_26_21 rfl ?_
    exact k z z2 _ ((l'.put hf).mono (by omega) (by omega) (by omega) (by omega))
  · have nb := z
    unfold badP at nb
    rw [show rdV C A t.toNat o.toNat = 0 from rd_none v (by omega) (by omega) (by have := nb; rw [show bI false = 0 from rfl] at this; omega) hno hl] at k
    have l' := X0
    obtain ⟨f, hf, -⟩ := l'.out
    refine x_lastore k_26_8 hf (by decide) (by decide) ?_
    refine x_goto (t := 20) k_26_9 rfl ?_
    refine x_iconst k_26_20 ?_
    refine x_ireturn k_26_21 rfl ?_
    exact k z z2 _ ((l'.put hf).mono (by omega) (by omega) (by omega) (by omega))
theorem w_write (l : LW as ao scr am adm len xs v0 S N 512 H CM AM (C, A, I, Ls) h) (v : IV n C A I Ls) (hn : n < 512) (hH : H < 70000) {t o x : Int} (ht : inR t) (ho : inR o) (hx : inL x) (e1 : badP C A t o false → ∀ h', LW as ao scr am adm len xs v0 (S + 4200) (N + 1100) 1536 (H + 1) CM AM (C, A, I, Ls) h' → Q (.inl (some (aI 1))) h') (e2 : ¬ (badP C A t o false) → refP C A t → ∀ h', LW as ao scr am adm len xs v0 (S + 4200) (N + 1100) 1536 (H + 1) CM AM (C, A, I, Ls) h' → Q (.inl (some (aI 2))) h') (k : ¬ badP C A t o false → ¬ refP C A t → ∀ p h', wroP C A I Ls t.toNat o.toNat x p → LW as ao scr am adm len xs v0 (S + 4200) (N + 1100) 1536 (H + 1) CM AM p h' → Q (.inl (some (aI 0))) h') : Rn 39 0 (entL 39 [aR as, aI t, aI o, aL x]) [] h Q := by
  obtain ⟨ad, ow, K, F, cp, ea, y, lo⟩ := l
  have y0 := y
  obtain ⟨w, g, b, lt, fo, ib, pt, ⟨jw, jc⟩, hb, tb⟩ := y
  have w : WD ad ow K h := w
  have g : CI ad K h.2.2.2.1 C A I F Ls cp := g
  have b : RB C A := b
  have lt : LT C A Ls := lt
  have ib : IB C Ls cp := ib
  have jw : JB C Ls cp 20 512 := jw
  have jc : JB C Ls cp 21 512 := jc
  have hb : HB C Ls cp H := hb
  have tb : TB C Ls cp := tb
  have b1 := b.c1
  have b2 := b.c2
  have b3 := b.c3
  have b4 := b.c4
  have b5 := b.c5
  have bd := v.bd
  have X1 : ∀ ci, LW as ao scr am adm len xs v0 (S + 4200) (N + 1100) 1536 (H + 1) CM AM (C, A, I, Ls) (hex h ci) := fun ci => (LW.cls ea lo (exn_x y0)).mono (by omega) (by omega) (by omega) (by omega)
  have X0 : LW as ao scr am adm len xs v0 S N 512 H CM AM (C, A, I, Ls) h := LW.cls ea lo (same_x y0 rfl)
  have pp : ∀ ad' : AD, (∀ k i, (k ≠ 7 ∨ i < (C 5).toNat) → k ≠ 10 → ad' k i = ad k i) → ad' 0 0 = ad 0 0 := fun ad' q => q 0 0 (Or.inl (by decide)) (by decide)
  rw [← ea]
  show Rn 39 0 [some (aR (ad 0 0)), some (aI t), some (aI o), some (aL x), none, none] [] h Q
  refine x_aload_n k_39_0 rfl ?_
  refine x_iload_n k_39_1 rfl ?_
  refine x_iload_n k_39_2 rfl ?_
  refine x_lload_n k_39_3 rfl ?_
  refine x_call4 k_39_4 (Nat.le_of_ble_eq_true rfl) (rcv_1 (w.at g.store)) (Nat.le_of_ble_eq_true rfl) ?_
  refine k_write w g b lt fo ib pt jw jc hb tb v.nb v.mb (fun t ht => by have := v.hl t ht; omega) (by omega) ht ho hx (fun z => bh_c rfl ?_) (fun z z2 => bh_c rfl ?_) (fun z z2 p h' hp wx => bh_v ?_)
  · refine x_as5 k_39_10 rfl ?_
    refine x_iconst k_39_12 ?_
    refine x_ireturn k_39_13 rfl ?_
    exact e1 z _ (X1 10)
  · refine x_as5 k_39_14 rfl ?_
    refine x_iconst k_39_16 ?_
    refine x_ireturn k_39_17 rfl ?_
    exact e2 z z2 _ (X1 11)
  · refine x_goto (t := 18) k_39_7 rfl ?_
    refine x_iconst k_39_18 ?_
    refine x_ireturn k_39_19 rfl ?_
    exact k z z2 p h' hp ((LW.cls ea lo wx).mono (by omega) (by omega) (by omega) (by omega))
theorem w_change (l : LW as ao scr am adm len xs v0 S N 512 H CM AM (C, A, I, Ls) h) (v : IV n C A I Ls) (hn : n < 512) (hH : H < 70000) {t o x : Int} {yb : Bool} (ht : inR t) (ho : inR o) (hx : inR x) (e1 : badP C A t o true → ∀ h', LW as ao scr am adm len xs v0 (S + 4200) (N + 1100) 1536 (H + 1) CM AM (C, A, I, Ls) h' → Q (.inl (some (aI 1))) h') (e2 : ¬ (badP C A t o true) → refP C A t → ∀ h', LW as ao scr am adm len xs v0 (S + 4200) (N + 1100) 1536 (H + 1) CM AM (C, A, I, Ls) h' → Q (.inl (some (aI 2))) h') (k : ¬ badP C A t o true → ¬ refP C A t → ∀ h', LW as ao scr am adm len xs v0 (S + 4200) (N + 1100) 1536 (H + 1) CM AM (chaS C A I Ls t.toNat o.toNat x (if yb = true then 1 else -1)) h' → Q (.inl (some (aI 0))) h') : Rn 43 0 (entL 43 [aR as, aI t, aI o, aI x, aI (bI yb)]) [] h Q := by
  obtain ⟨ad, ow, K, F, cp, ea, y, lo⟩ := l
  have y0 := y
  obtain ⟨w, g, b, lt, fo, ib, pt, ⟨jw, jc⟩, hb, tb⟩ := y
  have w : WD ad ow K h := w
  have g : CI ad K h.2.2.2.1 C A I F Ls cp := g
  have b : RB C A := b
  have lt : LT C A Ls := lt
  have ib : IB C Ls cp := ib
  have jw : JB C Ls cp 20 512 := jw
  have jc : JB C Ls cp 21 512 := jc
  have hb : HB C Ls cp H := hb
  have tb : TB C Ls cp := tb
  have b1 := b.c1
  have b2 := b.c2
  have b3 := b.c3
  have b4 := b.c4
  have b5 := b.c5
  have bd := v.bd
  have X1 : ∀ ci, LW as ao scr am adm len xs v0 (S + 4200) (N + 1100) 1536 (H + 1) CM AM (C, A, I, Ls) (hex h ci) := fun ci => (LW.cls ea lo (exn_x y0)).mono (by omega) (by omega) (by omega) (by omega)
  have X0 : LW as ao scr am adm len xs v0 S N 512 H CM AM (C, A, I, Ls) h := LW.cls ea lo (same_x y0 rfl)
  have pp : ∀ ad' : AD, (∀ k i, (k ≠ 7 ∨ i < (C 5).toNat) → k ≠ 10 → ad' k i = ad k i) → ad' 0 0 = ad 0 0 := fun ad' q => q 0 0 (Or.inl (by decide)) (by decide)
  rw [← ea]
  show Rn 43 0 [some (aR (ad 0 0)), some (aI t), some (aI o), some (aI x), some (aI (bI yb)), none] [] h Q
  refine x_aload_n k_43_0 rfl ?_
  refine x_iload_n k_43_1 rfl ?_
  refine x_iload_n k_43_2 rfl ?_
  refine x_iload_n k_43_3 rfl ?_
  refine x_iload k_43_4 rfl ?_
  refine x_call5 k_43_6 (Nat.le_of_ble_eq_true rfl) (rcv_1 (w.at g.store)) (Nat.le_of_ble_eq_true rfl) ?_
  refine k_change w g b lt fo ib pt jw jc hb tb v.nb v.mb (fun t ht => by have := v.hl t ht; omega) (by omega) ⟨by omega, by omega⟩ ht ho hx (fun z => bh_c rfl ?_) (fun z z2 => bh_c rfl ?_) (fun z z2 h' wx => bh_v ?_)
  · refine x_as5 k_43_12 rfl ?_
    refine x_iconst k_43_14 ?_
    refine x_ireturn k_43_15 rfl ?_
    exact e1 z _ (X1 10)
  · refine x_as5 k_43_16 rfl ?_
    refine x_iconst k_43_18 ?_
    refine x_ireturn k_43_19 rfl ?_
    exact e2 z z2 _ (X1 11)
  · refine x_goto (t := 20) k_43_9 rfl ?_
    refine x_iconst k_43_20 ?_
    refine x_ireturn k_43_21 rfl ?_
    exact k z z2 h' ((LW.cls ea lo wx).mono (by omega) (by omega) (by omega) (by omega))
theorem w_count3 (l : LW as ao scr am adm len xs v0 S N 512 H CM AM (C, A, I, Ls) h) (v : IV n C A I Ls) (hn : n < 512) (hH : H < 70000) {t o x : Int} (ht : inR t) (ho : inR o) (hx : inR x) (e1 : badP C A t o true → ∀ h', LW as ao scr am adm len xs v0 (S + 4200) (N + 1100) 1536 (H + 1) CM AM (C, A, I, Ls) h' → Q (.inl (some (aI 1))) h') (e2 : ¬ (badP C A t o true) → refP C A t → ∀ h', LW as ao scr am adm len xs v0 (S + 4200) (N + 1100) 1536 (H + 1) CM AM (C, A, I, Ls) h' → Q (.inl (some (aI 2))) h') (k : ¬ badP C A t o true → ¬ refP C A t → ∀ h', LW as ao scr am adm len xs (cnt A t.toNat o.toNat x (C 4).toNat) (S + 4200) (N + 1100) 1536 (H + 1) CM AM (C, A, I, Ls) h' → Q (.inl (some (aI 0))) h') : Rn 47 0 (entL 47 [aR as, aI t, aI o, aI x, aR ao]) [] h Q := by
  obtain ⟨ad, ow, K, F, cp, ea, y, lo⟩ := l
  have y0 := y
  obtain ⟨w, g, b, lt, fo, ib, pt, ⟨jw, jc⟩, hb, tb⟩ := y
  have w : WD ad ow K h := w
  have g : CI ad K h.2.2.2.1 C A I F Ls cp := g
  have b : RB C A := b
  have lt : LT C A Ls := lt
  have ib : IB C Ls cp := ib
  have jw : JB C Ls cp 20 512 := jw
  have jc : JB C Ls cp 21 512 := jc
  have hb : HB C Ls cp H := hb
  have tb : TB C Ls cp := tb
  have b1 := b.c1
  have b2 := b.c2
  have b3 := b.c3
  have b4 := b.c4
  have b5 := b.c5
  have bd := v.bd
  have X1 : ∀ ci, LW as ao scr am adm len xs v0 (S + 4200) (N + 1100) 1536 (H + 1) CM AM (C, A, I, Ls) (hex h ci) := fun ci => (LW.cls ea lo (exn_x y0)).mono (by omega) (by omega) (by omega) (by omega)
  have X0 : LW as ao scr am adm len xs v0 S N 512 H CM AM (C, A, I, Ls) h := LW.cls ea lo (same_x y0 rfl)
  have pp : ∀ ad' : AD, (∀ k i, (k ≠ 7 ∨ i < (C 5).toNat) → k ≠ 10 → ad' k i = ad k i) → ad' 0 0 = ad 0 0 := fun ad' q => q 0 0 (Or.inl (by decide)) (by decide)
  rw [← ea]
  show Rn 47 0 [some (aR (ad 0 0)), some (aI t), some (aI o), some (aI x), some (aR ao), none] [] h Q
  refine x_aload k_47_0 rfl ?_
  refine x_iconst k_47_2 ?_
  refine x_aload_n k_47_3 rfl ?_
  refine x_iload_n k_47_4 rfl ?_
  refine x_iload_n k_47_5 rfl ?_
  refine x_iload_n k_47_6 rfl ?_
  refine x_call4 k_47_7 (Nat.le_of_ble_eq_true rfl) (rcv_1 (w.at g.store)) (Nat.le_of_ble_eq_true rfl) ?_
  refine k_count3 w g b lt ht ho hx v.hin (fun z => bh_c rfl ?_) (fun z z2 => bh_c rfl ?_) (fun z z2 => bh_1 ?_)
  · refine x_as5 k_47_15 rfl ?_
    refine x_iconst k_47_17 ?_
    refine x_ireturn k_47_18 rfl ?_
    exact e1 z _ (X1 10)
  · refine x_as5 k_47_19 rfl ?_
    refine x_iconst k_47_21 ?_
    refine x_ireturn k_47_22 rfl ?_
    exact e2 z z2 _ (X1 11)
  · have nb := z
    have nr := z2
    unfold badP at nb
    unfold refP at nr
    rw [show bI true = 1 from rfl] at nb
    rw [cn_eq v (t := t.toNat) (o := o.toNat) (by omega) (by omega) (by omega) (by omega)]
    have l' := X0
    obtain ⟨f, hf, -⟩ := l'.out
    refine x_i2l k_47_10 (by have := cnt_b b t.toNat o.toNat x (C 4).toNat; unfold inR; omega) ?_
    refine x_lastore k_47_11 hf (by decide) (by decide) ?_
    refine x_goto (t := 23) k_47_12 rfl ?_
    refine x_iconst k_47_23 ?_
    refine x_ireturn k_47_24 rfl ?_
    exact k z z2 _ ((l'.put hf).mono (by omega) (by omega) (by omega) (by omega))
theorem w_element (l : LW as ao scr am adm len xs v0 S N 512 H CM AM (C, A, I, Ls) h) (v : IV n C A I Ls) (hn : n < 512) (hH : H < 70000) {t o i : Int} (ht : inR t) (ho : inR o) (hi : inR i) (e1 : badP C A t o true → ∀ h', LW as ao scr am adm len xs v0 (S + 4200) (N + 1100) 1536 (H + 1) CM AM (C, A, I, Ls) h' → Q (.inl (some (aI 1))) h') (e2 : ¬ (badP C A t o true) → refP C A t → ∀ h', LW as ao scr am adm len xs v0 (S + 4200) (N + 1100) 1536 (H + 1) CM AM (C, A, I, Ls) h' → Q (.inl (some (aI 2))) h') (e3 : ¬ badP C A t o true → ¬ refP C A t → ∀ I' h', (i < 0 ∨ eli A t.toNat o.toNat (C 4).toNat (i.toNat + 1) = none) → (∀ j, ¬ j = 4 → I' j = I j) → LW as ao scr am adm len xs v0 (S + 4200) (N + 1100) 1536 (H + 1) CM AM (C, A, I', Ls) h' → Q (.inl (some (aI 3))) h') (k : ¬ badP C A t o true → ¬ refP C A t → ∀ x I' h', inR x → 0 ≤ i → eli A t.toNat o.toNat (C 4).toNat (i.toNat + 1) = some x → (∀ j, ¬ j = 4 → I' j = I j) → LW as ao scr am adm len xs x (S + 4200) (N + 1100) 1536 (H + 1) CM AM (C, A, I', Ls) h' → Q (.inl (some (aI 0))) h') : Rn 50 0 (entL 50 [aR as, aI t, aI o, aI i, aR ao]) [] h Q := by
  obtain ⟨ad, ow, K, F, cp, ea, y, lo⟩ := l
  have y0 := y
  obtain ⟨w, g, b, lt, fo, ib, pt, ⟨jw, jc⟩, hb, tb⟩ := y
  have w : WD ad ow K h := w
  have g : CI ad K h.2.2.2.1 C A I F Ls cp := g
  have b : RB C A := b
  have lt : LT C A Ls := lt
  have ib : IB C Ls cp := ib
  have jw : JB C Ls cp 20 512 := jw
  have jc : JB C Ls cp 21 512 := jc
  have hb : HB C Ls cp H := hb
  have tb : TB C Ls cp := tb
  have b1 := b.c1
  have b2 := b.c2
  have b3 := b.c3
  have b4 := b.c4
  have b5 := b.c5
  have bd := v.bd
  have X1 : ∀ ci, LW as ao scr am adm len xs v0 (S + 4200) (N + 1100) 1536 (H + 1) CM AM (C, A, I, Ls) (hex h ci) := fun ci => (LW.cls ea lo (exn_x y0)).mono (by omega) (by omega) (by omega) (by omega)
  have X0 : LW as ao scr am adm len xs v0 S N 512 H CM AM (C, A, I, Ls) h := LW.cls ea lo (same_x y0 rfl)
  have pp : ∀ ad' : AD, (∀ k i, (k ≠ 7 ∨ i < (C 5).toNat) → k ≠ 10 → ad' k i = ad k i) → ad' 0 0 = ad 0 0 := fun ad' q => q 0 0 (Or.inl (by decide)) (by decide)
  rw [← ea]
  show Rn 50 0 [some (aR (ad 0 0)), some (aI t), some (aI o), some (aI i), some (aR ao), none] [] h Q
  refine x_aload k_50_0 rfl ?_
  refine x_iconst k_50_2 ?_
  refine x_aload_n k_50_3 rfl ?_
  refine x_iload_n k_50_4 rfl ?_
  refine x_iload_n k_50_5 rfl ?_
  refine x_iload_n k_50_6 rfl ?_
  refine x_call4 k_50_7 (Nat.le_of_ble_eq_true rfl) (rcv_1 (w.at g.store)) (Nat.le_of_ble_eq_true rfl) ?_
  refine k_element w g b lt fo ib pt jw jc hb tb v.hin ht ho hi (fun z z2 => ?_) (fun z => bh_c rfl ?_) (fun z z2 => bh_c rfl ?_) (fun z z2 n1 e c I' h' ti hI hp wx => bh_c rfl ?_) (fun z z2 n1 e c I' h' ti hI p hp wx => bh_1 ?_)
  · have nb := z
    have nr := z2
    unfold badP at nb
    unfold refP at nr
    have := v.l2 (t := t.toNat) (o := o.toNat) (by omega) (by omega) (by omega)
    omega
  · refine x_as5 k_50_15 rfl ?_
    refine x_iconst k_50_17 ?_
    refine x_ireturn k_50_18 rfl ?_
    exact e1 z _ (X1 10)
  · refine x_as5 k_50_19 rfl ?_
    refine x_iconst k_50_21 ?_
    refine x_ireturn k_50_22 rfl ?_
    exact e2 z z2 _ (X1 11)
  · have nb := z
    have nr := z2
    unfold badP at nb
    unfold refP at nr
    rw [show bI true = 1 from rfl] at nb
    have eT : (fun y => smj (Ls (21 + 2 * o.toNat)) (fvs A t.toNat y) (Ls (21 + 2 * o.toNat)).length + smj (Ls (501 + 2 * t.toNat)) (fow A o.toNat y) (Ls (501 + 2 * t.toNat)).length) = (fun y => cnt A t.toNat o.toNat y (C 4).toNat) := funext (fun y => cn_eq v (t := t.toNat) (o := o.toNat) (by omega) (by omega) (by omega) (by omega))
    rw [eT] at ti
    have eq := (el_eq (i := i) ti).2 hp
    refine x_as5 k_50_23 rfl ?_
    refine x_iconst k_50_25 ?_
    refine x_ireturn k_50_26 rfl ?_
    exact e3 z z2 I' _ eq hI ((LW.cls ea lo wx).exn.mono (by omega) (by omega) (by omega) (by omega))
  · have nb := z
    have nr := z2
    unfold badP at nb
    unfold refP at nr
    rw [show bI true = 1 from rfl] at nb
    have eT : (fun y => smj (Ls (21 + 2 * o.toNat)) (fvs A t.toNat y) (Ls (21 + 2 * o.toNat)).length + smj (Ls (501 + 2 * t.toNat)) (fow A o.toNat y) (Ls (501 + 2 * t.toNat)).length) = (fun y => cnt A t.toNat o.toNat y (C 4).toNat) := funext (fun y => cn_eq v (t := t.toNat) (o := o.toNat) (by omega) (by omega) (by omega) (by omega))
    rw [eT] at ti
    have eq := (el_eq (i := i) ti).1 p hp
    have l' := LW.cls ea lo wx
    obtain ⟨f, hf, -⟩ := l'.out
    refine x_i2l k_50_10 (ti.2.2.2.1 p (plc_lt n1 0 p (Nat.le_refl _) hp)) ?_
    refine x_lastore k_50_11 hf (by decide) (by decide) ?_
    refine x_goto (t := 27) k_50_12 rfl ?_
    refine x_iconst k_50_27 ?_
    refine x_ireturn k_50_28 rfl ?_
    exact k z z2 (e p) I' _ (ti.2.2.2.1 p (plc_lt n1 0 p (Nat.le_refl _) hp)) eq.1 eq.2 hI ((l'.put hf).mono (by omega) (by omega) (by omega) (by omega))
theorem w_commit (l : LW as ao scr am adm len xs v0 S N 512 H CM AM (C, A, I, Ls) h) (v : IV n C A I Ls) (hn : n < 512) (hH : H < 70000) {t : Int} (ht : inR t) (e1 : ¬ (0 ≤ t ∧ t < C 3) → ∀ h', LW as ao scr am adm len xs v0 (S + 4200) (N + 1100) 1536 (H + 1) CM AM (C, A, I, Ls) h' → Q (.inl (some (aI 1))) h') (e2 : ¬ (¬ (0 ≤ t ∧ t < C 3)) → ¬ A 4 t.toNat = 0 → ∀ h', LW as ao scr am adm len xs v0 (S + 4200) (N + 1100) 1536 (H + 1) CM AM (C, A, I, Ls) h' → Q (.inl (some (aI 2))) h') (k : (0 ≤ t ∧ t < C 3) → A 4 t.toNat = 0 → ∀ p h', tryP C A I Ls t.toNat p → LW as ao scr am adm len xs (p.2.1 4 t.toNat) (S + 4200) (N + 1100) 1536 (H + 1) CM AM p h' → Q (.inl (some (aI 0))) h') : Rn 59 0 (entL 59 [aR as, aI t, aR ao]) [] h Q := by
  obtain ⟨ad, ow, K, F, cp, ea, y, lo⟩ := l
  have y0 := y
  obtain ⟨w, g, b, lt, fo, ib, pt, ⟨jw, jc⟩, hb, tb⟩ := y
  have w : WD ad ow K h := w
  have g : CI ad K h.2.2.2.1 C A I F Ls cp := g
  have b : RB C A := b
  have lt : LT C A Ls := lt
  have ib : IB C Ls cp := ib
  have jw : JB C Ls cp 20 512 := jw
  have jc : JB C Ls cp 21 512 := jc
  have hb : HB C Ls cp H := hb
  have tb : TB C Ls cp := tb
  have b1 := b.c1
  have b2 := b.c2
  have b3 := b.c3
  have b4 := b.c4
  have b5 := b.c5
  have bd := v.bd
  have X1 : ∀ ci, LW as ao scr am adm len xs v0 (S + 4200) (N + 1100) 1536 (H + 1) CM AM (C, A, I, Ls) (hex h ci) := fun ci => (LW.cls ea lo (exn_x y0)).mono (by omega) (by omega) (by omega) (by omega)
  have X0 : LW as ao scr am adm len xs v0 S N 512 H CM AM (C, A, I, Ls) h := LW.cls ea lo (same_x y0 rfl)
  have pp : ∀ ad' : AD, (∀ k i, (k ≠ 7 ∨ i < (C 5).toNat) → k ≠ 10 → ad' k i = ad k i) → ad' 0 0 = ad 0 0 := fun ad' q => q 0 0 (Or.inl (by decide)) (by decide)
  rw [← ea]
  show Rn 59 0 [some (aR (ad 0 0)), some (aI t), some (aR ao), none] [] h Q
  refine x_aload_n k_59_0 rfl ?_
  refine x_iconst k_59_1 ?_
  refine x_aload_n k_59_2 rfl ?_
  refine x_iload_n k_59_3 rfl ?_
  refine x_call2 k_59_4 (Nat.le_of_ble_eq_true rfl) (rcv_1 (w.at g.store)) (Nat.le_of_ble_eq_true rfl) ?_
  refine k_commit w g b lt fo ib pt jw jc hb tb (fun t ht => by have := v.hl t ht; omega) (by omega) v.h13 (by omega) (by omega) ht (fun z => bh_c rfl ?_) (fun z0 z2 => bh_c rfl ?_) (fun z z2 p h' hp wx => bh_1 ?_)
  · refine x_as3n k_59_12 rfl ?_
    refine x_iconst k_59_13 ?_
    refine x_ireturn k_59_14 rfl ?_
    exact e1 z _ (X1 10)
  · refine x_as3n k_59_15 rfl ?_
    refine x_iconst k_59_16 ?_
    refine x_ireturn k_59_17 rfl ?_
    exact e2 (fun q => q z0) z2 _ (X1 11)
  · have l0 := LW.cls ea lo wx
    have l' := l0
    obtain ⟨f, hf, -⟩ := l'.out
    refine x_i2l k_59_7 (by have := (LW.rb l0).v4 t.toNat; show inR (p.2.1 4 t.toNat); unfold inR; omega) ?_
    refine x_lastore k_59_8 hf (by decide) (by decide) ?_
    refine x_goto (t := 18) k_59_9 rfl ?_
    refine x_iconst k_59_18 ?_
    refine x_ireturn k_59_19 rfl ?_
    exact k z z2 p _ hp ((l'.put hf).mono (by omega) (by omega) (by omega) (by omega))
theorem w_abort (l : LW as ao scr am adm len xs v0 S N 512 H CM AM (C, A, I, Ls) h) (v : IV n C A I Ls) (hn : n < 512) (hH : H < 70000) {t : Int} (ht : inR t) (e1 : ¬ (0 ≤ t ∧ t < C 3) → ∀ h', LW as ao scr am adm len xs v0 (S + 4200) (N + 1100) 1536 (H + 1) CM AM (C, A, I, Ls) h' → Q (.inl (some (aI 1))) h') (e2 : ¬ (¬ (0 ≤ t ∧ t < C 3)) → ¬ A 4 t.toNat = 0 → ∀ h', LW as ao scr am adm len xs v0 (S + 4200) (N + 1100) 1536 (H + 1) CM AM (C, A, I, Ls) h' → Q (.inl (some (aI 2))) h') (k : (0 ≤ t ∧ t < C 3) → A 4 t.toNat = 0 → ∀ h', LW as ao scr am adm len xs v0 (S + 4200) (N + 1100) 1536 (H + 1) CM AM (C, up A 4 (up (A 4) t.toNat 2), I, Ls) h' → Q (.inl (some (aI 0))) h') : Rn 75 0 (entL 75 [aR as, aI t]) [] h Q := by
  obtain ⟨ad, ow, K, F, cp, ea, y, lo⟩ := l
  have y0 := y
  obtain ⟨w, g, b, lt, fo, ib, pt, ⟨jw, jc⟩, hb, tb⟩ := y
  have w : WD ad ow K h := w
  have g : CI ad K h.2.2.2.1 C A I F Ls cp := g
  have b : RB C A := b
  have lt : LT C A Ls := lt
  have ib : IB C Ls cp := ib
  have jw : JB C Ls cp 20 512 := jw
  have jc : JB C Ls cp 21 512 := jc
  have hb : HB C Ls cp H := hb
  have tb : TB C Ls cp := tb
  have b1 := b.c1
  have b2 := b.c2
  have b3 := b.c3
  have b4 := b.c4
  have b5 := b.c5
  have bd := v.bd
  have X1 : ∀ ci, LW as ao scr am adm len xs v0 (S + 4200) (N + 1100) 1536 (H + 1) CM AM (C, A, I, Ls) (hex h ci) := fun ci => (LW.cls ea lo (exn_x y0)).mono (by omega) (by omega) (by omega) (by omega)
  have X0 : LW as ao scr am adm len xs v0 S N 512 H CM AM (C, A, I, Ls) h := LW.cls ea lo (same_x y0 rfl)
  have pp : ∀ ad' : AD, (∀ k i, (k ≠ 7 ∨ i < (C 5).toNat) → k ≠ 10 → ad' k i = ad k i) → ad' 0 0 = ad 0 0 := fun ad' q => q 0 0 (Or.inl (by decide)) (by decide)
  rw [← ea]
  show Rn 75 0 [some (aR (ad 0 0)), some (aI t), none] [] h Q
  refine x_aload_n k_75_0 rfl ?_
  refine x_iload_n k_75_1 rfl ?_
  refine x_call2 k_75_2 (Nat.le_of_ble_eq_true rfl) (rcv_1 (w.at g.store)) (Nat.le_of_ble_eq_true rfl) ?_
  refine k_abort w g b fo ht (fun z z2 K' h' q1 q2 q3 e => bh_v ?_) (fun z => bh_c rfl ?_) (fun z0 z2 => bh_c rfl ?_)
  · refine x_goto (t := 14) k_75_5 rfl ?_
    refine x_iconst k_75_14 ?_
    refine x_ireturn k_75_15 rfl ?_
    exact k z z2 h' ((LW.cls ea lo (sameX b (b.t4 (by decide)) lt ib jw jc hb tb pp q1 q3 q2 (by unfold PT; rw [e]; exact pt))).mono (by omega) (by omega) (by omega) (by omega))
  · refine x_as2n k_75_8 rfl ?_
    refine x_iconst k_75_9 ?_
    refine x_ireturn k_75_10 rfl ?_
    exact e1 z _ (X1 10)
  · refine x_as2n k_75_11 rfl ?_
    refine x_iconst k_75_12 ?_
    refine x_ireturn k_75_13 rfl ?_
    exact e2 (fun q => q z0) z2 _ (X1 11)
theorem w_deliver (l : LW as ao scr am adm len xs v0 S N 512 H CM AM (C, A, I, Ls) h) (v : IV n C A I Ls) (hn : n < 512) (hH : H < 70000) {a d : Int} (ha : inR a) (hd : inR d) (e1 : (¬ ((0 ≤ a ∧ a < C 1) ∧ (0 ≤ d ∧ d < C 1)) ∨ a = d) → ∀ h', LW as ao scr am adm len xs v0 (S + 4200) (N + 1100) 1536 (H + 1) CM AM (C, A, I, Ls) h' → Q (.inl (some (aI 1))) h') (k0 : ((0 ≤ a ∧ a < C 1) ∧ (0 ≤ d ∧ d < C 1)) → ¬ a = d → (¬ ∃ x, x ∈ Ls (3 + 2 * d.toNat) ∧ (fun q => A 16 q = a) x) → ∀ h', LW as ao scr am adm len xs 0 (S + 4200) (N + 1100) 1536 (H + 1) CM AM (C, A, I, Ls) h' → Q (.inl (some (aI 0))) h') (k1 : ((0 ≤ a ∧ a < C 1) ∧ (0 ≤ d ∧ d < C 1)) → ¬ a = d → ∀ j x p h', (Ls (3 + 2 * d.toNat))[j]? = some x → nof (Ls (3 + 2 * d.toNat)) (fun q => A 16 q = a) j → A 16 x = a → arvP C A I (up Ls (3 + 2 * d.toNat) ((Ls (3 + 2 * d.toNat)).eraseIdx j)) d.toNat (A 19 x).toNat (I 2 x) (A 16 x) p → LW as ao scr am adm len xs (I 2 x) (S + 4200) (N + 1100) 1536 (H + 1) CM AM p h' → Q (.inl (some (aI 0))) h') : Rn 77 0 (entL 77 [aR as, aI a, aI d, aR ao]) [] h Q := by
  obtain ⟨ad, ow, K, F, cp, ea, y, lo⟩ := l
  have y0 := y
  obtain ⟨w, g, b, lt, fo, ib, pt, ⟨jw, jc⟩, hb, tb⟩ := y
  have w : WD ad ow K h := w
  have g : CI ad K h.2.2.2.1 C A I F Ls cp := g
  have b : RB C A := b
  have lt : LT C A Ls := lt
  have ib : IB C Ls cp := ib
  have jw : JB C Ls cp 20 512 := jw
  have jc : JB C Ls cp 21 512 := jc
  have hb : HB C Ls cp H := hb
  have tb : TB C Ls cp := tb
  have b1 := b.c1
  have b2 := b.c2
  have b3 := b.c3
  have b4 := b.c4
  have b5 := b.c5
  have bd := v.bd
  have X1 : ∀ ci, LW as ao scr am adm len xs v0 (S + 4200) (N + 1100) 1536 (H + 1) CM AM (C, A, I, Ls) (hex h ci) := fun ci => (LW.cls ea lo (exn_x y0)).mono (by omega) (by omega) (by omega) (by omega)
  have X0 : LW as ao scr am adm len xs v0 S N 512 H CM AM (C, A, I, Ls) h := LW.cls ea lo (same_x y0 rfl)
  have pp : ∀ ad' : AD, (∀ k i, (k ≠ 7 ∨ i < (C 5).toNat) → k ≠ 10 → ad' k i = ad k i) → ad' 0 0 = ad 0 0 := fun ad' q => q 0 0 (Or.inl (by decide)) (by decide)
  rw [← ea]
  show Rn 77 0 [some (aR (ad 0 0)), some (aI a), some (aI d), some (aR ao), none] [] h Q
  refine x_aload_n k_77_0 rfl ?_
  refine x_iconst k_77_1 ?_
  refine x_aload_n k_77_2 rfl ?_
  refine x_iload_n k_77_3 rfl ?_
  refine x_iload_n k_77_4 rfl ?_
  refine x_call3 k_77_5 (Nat.le_of_ble_eq_true rfl) (rcv_1 (w.at g.store)) (Nat.le_of_ble_eq_true rfl) ?_
  refine k_deliver w g b lt fo ib pt jw jc hb tb (fun t ht => by have := v.hl t ht; omega) (by omega) v.h13 (by omega) (by omega) (fun t ht h4 => ?_) (fun q hq => ?_) (by omega) ha hd (fun z => bh_c rfl ?_) (fun z z2 hno => bh_1 ?_) (fun z z2 j x p h' hj hno h16 hp wx => bh_1 ?_)
  · obtain ⟨q1, q2, q3, -⟩ := v.2.2.2.2.2.2.1 t ht h4
    have := (nP_b (fun q => R3 t (A 16 q) (A 17 q) (A 18 q) (A 19 q)) (C 5).toNat).1
    have e : cM (R3 t) C A = nP (fun q => R3 t (A 16 q) (A 17 q) (A 18 q) (A 19 q)) (C 5).toNat := rfl
    omega
  · have := (v.2.2.2.2.2.2.2.1.2.1 q hq).2
    unfold inR
    omega
  · refine x_as4 k_77_13 rfl ?_
    refine x_iconst k_77_15 ?_
    refine x_ireturn k_77_16 rfl ?_
    exact e1 z _ (X1 10)
  · have l' := X0
    obtain ⟨f, hf, -⟩ := l'.out
    refine x_i2l k_77_8 (by decide) ?_
    refine x_lastore k_77_9 hf (by decide) (by decide) ?_
    refine x_goto (t := 21) k_77_10 rfl ?_
    refine x_iconst k_77_21 ?_
    refine x_ireturn k_77_22 rfl ?_
    exact k0 z z2 hno _ ((l'.put hf).mono (by omega) (by omega) (by omega) (by omega))
  · have l' := LW.cls ea lo wx
    obtain ⟨f, hf, -⟩ := l'.out
    refine x_i2l k_77_8 (by have := (v.2.2.2.2.2.2.2.1.2.1 x (lt.2.2.2.2.2 _ _ (by omega) (List.mem_of_getElem? hj)).1).2; unfold inR; omega) ?_
    refine x_lastore k_77_9 hf (by decide) (by decide) ?_
    refine x_goto (t := 21) k_77_10 rfl ?_
    refine x_iconst k_77_21 ?_
    refine x_ireturn k_77_22 rfl ?_
    exact k1 z z2 j x p _ hj hno h16 hp ((l'.put hf).mono (by omega) (by omega) (by omega) (by omega))
theorem w_waiting (l : LW as ao scr am adm len xs v0 S N 512 H CM AM (C, A, I, Ls) h) (v : IV n C A I Ls) (hn : n < 512) (hH : H < 70000) {a d : Int} (ha : inR a) (hd : inR d) (e1 : (¬ ((0 ≤ a ∧ a < C 1) ∧ (0 ≤ d ∧ d < C 1)) ∨ a = d) → ∀ h', LW as ao scr am adm len xs v0 (S + 4200) (N + 1100) 1536 (H + 1) CM AM (C, A, I, Ls) h' → Q (.inl (some (aI 1))) h') (k : ((0 ≤ a ∧ a < C 1) ∧ (0 ≤ d ∧ d < C 1)) → ¬ a = d → ∀ h', LW as ao scr am adm len xs (wtn A a (d.toNat : Int) (C 5).toNat) (S + 4200) (N + 1100) 1536 (H + 1) CM AM (C, A, I, Ls) h' → Q (.inl (some (aI 0))) h') : Rn 91 0 (entL 91 [aR as, aI a, aI d, aR ao]) [] h Q := by
  obtain ⟨ad, ow, K, F, cp, ea, y, lo⟩ := l
  have y0 := y
  obtain ⟨w, g, b, lt, fo, ib, pt, ⟨jw, jc⟩, hb, tb⟩ := y
  have w : WD ad ow K h := w
  have g : CI ad K h.2.2.2.1 C A I F Ls cp := g
  have b : RB C A := b
  have lt : LT C A Ls := lt
  have ib : IB C Ls cp := ib
  have jw : JB C Ls cp 20 512 := jw
  have jc : JB C Ls cp 21 512 := jc
  have hb : HB C Ls cp H := hb
  have tb : TB C Ls cp := tb
  have b1 := b.c1
  have b2 := b.c2
  have b3 := b.c3
  have b4 := b.c4
  have b5 := b.c5
  have bd := v.bd
  have X1 : ∀ ci, LW as ao scr am adm len xs v0 (S + 4200) (N + 1100) 1536 (H + 1) CM AM (C, A, I, Ls) (hex h ci) := fun ci => (LW.cls ea lo (exn_x y0)).mono (by omega) (by omega) (by omega) (by omega)
  have X0 : LW as ao scr am adm len xs v0 S N 512 H CM AM (C, A, I, Ls) h := LW.cls ea lo (same_x y0 rfl)
  have pp : ∀ ad' : AD, (∀ k i, (k ≠ 7 ∨ i < (C 5).toNat) → k ≠ 10 → ad' k i = ad k i) → ad' 0 0 = ad 0 0 := fun ad' q => q 0 0 (Or.inl (by decide)) (by decide)
  rw [← ea]
  show Rn 91 0 [some (aR (ad 0 0)), some (aI a), some (aI d), some (aR ao), none] [] h Q
  refine x_aload_n k_91_0 rfl ?_
  refine x_iconst k_91_1 ?_
  refine x_aload_n k_91_2 rfl ?_
  refine x_iload_n k_91_3 rfl ?_
  refine x_iload_n k_91_4 rfl ?_
  refine x_call3 k_91_5 (Nat.le_of_ble_eq_true rfl) (rcv_1 (w.at g.store)) (Nat.le_of_ble_eq_true rfl) ?_
  refine k_waiting w g b lt ha hd (fun z z2 => bh_1 ?_) (fun z => bh_c rfl ?_)
  · rw [wt_eq v (d := d.toNat) (by omega)]
    have l' := X0
    obtain ⟨f, hf, -⟩ := l'.out
    refine x_i2l k_91_8 (by have := wtn_b (A := A) (a := a) (d := (d.toNat : Int)) (C 5).toNat; unfold inR; omega) ?_
    refine x_lastore k_91_9 hf (by decide) (by decide) ?_
    refine x_goto (t := 21) k_91_10 rfl ?_
    refine x_iconst k_91_21 ?_
    refine x_ireturn k_91_22 rfl ?_
    exact k z z2 _ ((l'.put hf).mono (by omega) (by omega) (by omega) (by omega))
  · refine x_as4 k_91_13 rfl ?_
    refine x_iconst k_91_15 ?_
    refine x_ireturn k_91_16 rfl ?_
    exact e1 z _ (X1 10)
theorem w_seen (l : LW as ao scr am adm len xs v0 S N 512 H CM AM (C, A, I, Ls) h) (v : IV n C A I Ls) (hn : n < 512) (hH : H < 70000) {s u : Int} (hs : inR s) (hu : inR u) (e1 : ¬ ((0 ≤ s ∧ s < C 1) ∧ (0 ≤ u ∧ u < C 1)) → ∀ h', LW as ao scr am adm len xs v0 (S + 4200) (N + 1100) 1536 (H + 1) CM AM (C, A, I, Ls) h' → Q (.inl (some (aI 1))) h') (k : ((0 ≤ s ∧ s < C 1) ∧ (0 ≤ u ∧ u < C 1)) → ∀ h', LW as ao scr am adm len xs (A 13 (6 * s.toNat + u.toNat)) (S + 4200) (N + 1100) 1536 (H + 1) CM AM (C, A, I, Ls) h' → Q (.inl (some (aI 0))) h') : Rn 94 0 (entL 94 [aR as, aI s, aI u, aR ao]) [] h Q := by
  obtain ⟨ad, ow, K, F, cp, ea, y, lo⟩ := l
  have y0 := y
  obtain ⟨w, g, b, lt, fo, ib, pt, ⟨jw, jc⟩, hb, tb⟩ := y
  have w : WD ad ow K h := w
  have g : CI ad K h.2.2.2.1 C A I F Ls cp := g
  have b : RB C A := b
  have lt : LT C A Ls := lt
  have ib : IB C Ls cp := ib
  have jw : JB C Ls cp 20 512 := jw
  have jc : JB C Ls cp 21 512 := jc
  have hb : HB C Ls cp H := hb
  have tb : TB C Ls cp := tb
  have b1 := b.c1
  have b2 := b.c2
  have b3 := b.c3
  have b4 := b.c4
  have b5 := b.c5
  have bd := v.bd
  have X1 : ∀ ci, LW as ao scr am adm len xs v0 (S + 4200) (N + 1100) 1536 (H + 1) CM AM (C, A, I, Ls) (hex h ci) := fun ci => (LW.cls ea lo (exn_x y0)).mono (by omega) (by omega) (by omega) (by omega)
  have X0 : LW as ao scr am adm len xs v0 S N 512 H CM AM (C, A, I, Ls) h := LW.cls ea lo (same_x y0 rfl)
  have pp : ∀ ad' : AD, (∀ k i, (k ≠ 7 ∨ i < (C 5).toNat) → k ≠ 10 → ad' k i = ad k i) → ad' 0 0 = ad 0 0 := fun ad' q => q 0 0 (Or.inl (by decide)) (by decide)
  rw [← ea]
  show Rn 94 0 [some (aR (ad 0 0)), some (aI s), some (aI u), some (aR ao), none] [] h Q
  refine x_aload_n k_94_0 rfl ?_
  refine x_iconst k_94_1 ?_
  refine x_aload_n k_94_2 rfl ?_
  refine x_iload_n k_94_3 rfl ?_
  refine x_iload_n k_94_4 rfl ?_
  refine x_call3 k_94_5 (Nat.le_of_ble_eq_true rfl) (rcv_1 (w.at g.store)) (Nat.le_of_ble_eq_true rfl) ?_
  refine k_seen w g b hs hu (fun z => bh_1 ?_) (fun z => bh_c rfl ?_)
  · have l' := X0
    obtain ⟨f, hf, -⟩ := l'.out
    refine x_i2l k_94_8 (by have := b.v13 (6 * s.toNat + u.toNat); unfold inR; omega) ?_
    refine x_lastore k_94_9 hf (by decide) (by decide) ?_
    refine x_goto (t := 21) k_94_10 rfl ?_
    refine x_iconst k_94_21 ?_
    refine x_ireturn k_94_22 rfl ?_
    exact k z _ ((l'.put hf).mono (by omega) (by omega) (by omega) (by omega))
  · refine x_as4 k_94_13 rfl ?_
    refine x_iconst k_94_15 ?_
    refine x_ireturn k_94_16 rfl ?_
    exact e1 z _ (X1 10)
theorem w_state (l : LW as ao scr am adm len xs v0 S N 512 H CM AM (C, A, I, Ls) h) (v : IV n C A I Ls) (hn : n < 512) (hH : H < 70000) {t x : Int} (ht : inR t) (hx : inR x) (e1 : (¬ (0 ≤ t ∧ t < C 3) ∨ x < 0 ∨ 3 < x) → ∀ h', LW as ao scr am adm len xs v0 (S + 4200) (N + 1100) 1536 (H + 1) CM AM (C, A, I, Ls) h' → Q (.inl (some (aI 1))) h') (k : (0 ≤ t ∧ t < C 3) → (0 ≤ x ∧ x ≤ 3) → ∀ h', LW as ao scr am adm len xs (stR C A t.toNat x) (S + 4200) (N + 1100) 1536 (H + 1) CM AM (C, A, I, Ls) h' → Q (.inl (some (aI 0))) h') : Rn 96 0 (entL 96 [aR as, aI t, aI x, aR ao]) [] h Q := by
  obtain ⟨ad, ow, K, F, cp, ea, y, lo⟩ := l
  have y0 := y
  obtain ⟨w, g, b, lt, fo, ib, pt, ⟨jw, jc⟩, hb, tb⟩ := y
  have w : WD ad ow K h := w
  have g : CI ad K h.2.2.2.1 C A I F Ls cp := g
  have b : RB C A := b
  have lt : LT C A Ls := lt
  have ib : IB C Ls cp := ib
  have jw : JB C Ls cp 20 512 := jw
  have jc : JB C Ls cp 21 512 := jc
  have hb : HB C Ls cp H := hb
  have tb : TB C Ls cp := tb
  have b1 := b.c1
  have b2 := b.c2
  have b3 := b.c3
  have b4 := b.c4
  have b5 := b.c5
  have bd := v.bd
  have X1 : ∀ ci, LW as ao scr am adm len xs v0 (S + 4200) (N + 1100) 1536 (H + 1) CM AM (C, A, I, Ls) (hex h ci) := fun ci => (LW.cls ea lo (exn_x y0)).mono (by omega) (by omega) (by omega) (by omega)
  have X0 : LW as ao scr am adm len xs v0 S N 512 H CM AM (C, A, I, Ls) h := LW.cls ea lo (same_x y0 rfl)
  have pp : ∀ ad' : AD, (∀ k i, (k ≠ 7 ∨ i < (C 5).toNat) → k ≠ 10 → ad' k i = ad k i) → ad' 0 0 = ad 0 0 := fun ad' q => q 0 0 (Or.inl (by decide)) (by decide)
  rw [← ea]
  show Rn 96 0 [some (aR (ad 0 0)), some (aI t), some (aI x), some (aR ao), none] [] h Q
  refine x_aload_n k_96_0 rfl ?_
  refine x_iconst k_96_1 ?_
  refine x_aload_n k_96_2 rfl ?_
  refine x_iload_n k_96_3 rfl ?_
  refine x_iload_n k_96_4 rfl ?_
  refine x_call3 k_96_5 (Nat.le_of_ble_eq_true rfl) (rcv_1 (w.at g.store)) (Nat.le_of_ble_eq_true rfl) ?_
  refine k_state w g b ht hx (fun z z2 => bh_1 ?_) (fun z => bh_c rfl ?_)
  · rw [st_eq v (t := t.toNat) (by omega) z2]
    have l' := X0
    obtain ⟨f, hf, -⟩ := l'.out
    refine x_i2l k_96_8 (by have := stR_b b (t := t.toNat) (x := x); unfold inR; omega) ?_
    refine x_lastore k_96_9 hf (by decide) (by decide) ?_
    refine x_goto (t := 21) k_96_10 rfl ?_
    refine x_iconst k_96_21 ?_
    refine x_ireturn k_96_22 rfl ?_
    exact k z z2 _ ((l'.put hf).mono (by omega) (by omega) (by omega) (by omega))
  · refine x_as4 k_96_13 rfl ?_
    refine x_iconst k_96_15 ?_
    refine x_ireturn k_96_16 rfl ?_
    exact e1 z _ (X1 10)
theorem w_locked (l : LW as ao scr am adm len xs v0 S N 512 H CM AM (C, A, I, Ls) h) (v : IV n C A I Ls) (hn : n < 512) (hH : H < 70000) {u : Int} (hu : inR u) (e1 : ¬ (0 ≤ u ∧ u < C 2) → ∀ h', LW as ao scr am adm len xs v0 (S + 4200) (N + 1100) 1536 (H + 1) CM AM (C, A, I, Ls) h' → Q (.inl (some (aI 1))) h') (k : (0 ≤ u ∧ u < C 2) → ∀ h', LW as ao scr am adm len xs (A 1 u.toNat) (S + 4200) (N + 1100) 1536 (H + 1) CM AM (C, A, I, Ls) h' → Q (.inl (some (aI 0))) h') : Rn 99 0 (entL 99 [aR as, aI u, aR ao]) [] h Q := by
  obtain ⟨ad, ow, K, F, cp, ea, y, lo⟩ := l
  have y0 := y
  obtain ⟨w, g, b, lt, fo, ib, pt, ⟨jw, jc⟩, hb, tb⟩ := y
  have w : WD ad ow K h := w
  have g : CI ad K h.2.2.2.1 C A I F Ls cp := g
  have b : RB C A := b
  have lt : LT C A Ls := lt
  have ib : IB C Ls cp := ib
  have jw : JB C Ls cp 20 512 := jw
  have jc : JB C Ls cp 21 512 := jc
  have hb : HB C Ls cp H := hb
  have tb : TB C Ls cp := tb
  have b1 := b.c1
  have b2 := b.c2
  have b3 := b.c3
  have b4 := b.c4
  have b5 := b.c5
  have bd := v.bd
  have X1 : ∀ ci, LW as ao scr am adm len xs v0 (S + 4200) (N + 1100) 1536 (H + 1) CM AM (C, A, I, Ls) (hex h ci) := fun ci => (LW.cls ea lo (exn_x y0)).mono (by omega) (by omega) (by omega) (by omega)
  have X0 : LW as ao scr am adm len xs v0 S N 512 H CM AM (C, A, I, Ls) h := LW.cls ea lo (same_x y0 rfl)
  have pp : ∀ ad' : AD, (∀ k i, (k ≠ 7 ∨ i < (C 5).toNat) → k ≠ 10 → ad' k i = ad k i) → ad' 0 0 = ad 0 0 := fun ad' q => q 0 0 (Or.inl (by decide)) (by decide)
  rw [← ea]
  show Rn 99 0 [some (aR (ad 0 0)), some (aI u), some (aR ao), none] [] h Q
  refine x_aload_n k_99_0 rfl ?_
  refine x_iconst k_99_1 ?_
  refine x_aload_n k_99_2 rfl ?_
  refine x_iload_n k_99_3 rfl ?_
  refine x_call2 k_99_4 (Nat.le_of_ble_eq_true rfl) (rcv_1 (w.at g.store)) (Nat.le_of_ble_eq_true rfl) ?_
  refine k_locked w g b hu (fun z => bh_1 ?_) (fun z => bh_c rfl ?_)
  · have l' := X0
    obtain ⟨f, hf, -⟩ := l'.out
    refine x_i2l k_99_7 (by have := b.v1 u.toNat; unfold inR; omega) ?_
    refine x_lastore k_99_8 hf (by decide) (by decide) ?_
    refine x_goto (t := 18) k_99_9 rfl ?_
    refine x_iconst k_99_18 ?_
    refine x_ireturn k_99_19 rfl ?_
    exact k z _ ((l'.put hf).mono (by omega) (by omega) (by omega) (by omega))
  · refine x_as3n k_99_12 rfl ?_
    refine x_iconst k_99_13 ?_
    refine x_ireturn k_99_14 rfl ?_
    exact e1 z _ (X1 10)
end LB
