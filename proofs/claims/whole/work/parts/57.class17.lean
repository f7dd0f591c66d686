section C17
variable {ad : AD} {ow : OW} {K : KK} {h : AH} {C : Nat → Int} {A I : Nat → Nat → Int} {F : Nat → Nat → Nat → Int} {Ls : Nat → List Nat} {cp : Nat → Nat} {Q : AR → AH → Prop}
theorem k_hearYes {S N M : Nat} {ow0 : OW} {h0 : AH} (w : WD ad ow K h) (g : CI ad K h.2.2.2.1 C A I F Ls cp) (b : RB C A) (lt : LT C A Ls) (fo : Fo ow0 h0 ow h) (ib : IB C Ls cp) (pt : PT S N h cp) (jw : JB C Ls cp 20 M) (jc : JB C Ls cp 21 M) {t : Nat} (ht : t < (C 3).toNat) (hM1 : M + (Ls (500 + 2 * t)).length < 80000) (hM2 : M + (Ls (501 + 2 * t)).length < 80000) (h13 : A 4 t = 3 → A 13 (6 * (A 3 t).toNat + (A 3 t).toNat) < 500) (h6 : C 6 < 1000) (h5 : C 5 + 6 ≤ 15000) (hd : A 4 t = 3 → 0 ≤ I 0 t ∧ I 0 t ≤ 100) (k0 : ¬ A 4 t = 3 → Q (.inl none) h) (k1 : A 4 t = 3 → ¬ I 0 t - 1 = 0 → ∀ K' h', WD ad ow K' h' → Fo ow0 h0 ow h' → CI ad K' h'.2.2.2.1 C A (up I 0 (up (I 0) t (I 0 t - 1))) F Ls cp → h'.2 = h.2 → Q (.inl none) h') (k2 : A 4 t = 3 → I 0 t - 1 = 0 → ∀ ad' ow' K' F' cp' h', WD ad' ow' K' h' → CI ad' K' h'.2.2.2.1 (mkS C A (up I 0 (up (I 0) t (I 0 t - 1))) Ls t).1 (mkS C A (up I 0 (up (I 0) t (I 0 t - 1))) Ls t).2.1 (mkS C A (up I 0 (up (I 0) t (I 0 t - 1))) Ls t).2.2.1 F' (mkS C A (up I 0 (up (I 0) t (I 0 t - 1))) Ls t).2.2.2 cp' → LT (mkS C A (up I 0 (up (I 0) t (I 0 t - 1))) Ls t).1 (mkS C A (up I 0 (up (I 0) t (I 0 t - 1))) Ls t).2.1 (mkS C A (up I 0 (up (I 0) t (I 0 t - 1))) Ls t).2.2.2 → Fo ow0 h0 ow' h' → IB (mkS C A (up I 0 (up (I 0) t (I 0 t - 1))) Ls t).1 (mkS C A (up I 0 (up (I 0) t (I 0 t - 1))) Ls t).2.2.2 cp' → PT (S + 3 * (C 1).toNat) (N + (Ls (500 + 2 * t)).length + (Ls (501 + 2 * t)).length + 2 * (C 1).toNat) h' cp' → (∀ k i, (k ≠ 7 ∨ i < (C 5).toNat) → k ≠ 10 → ad' k i = ad k i) → JB C (mkS C A (up I 0 (up (I 0) t (I 0 t - 1))) Ls t).2.2.2 cp' 20 (M + (Ls (500 + 2 * t)).length) → JB C (mkS C A (up I 0 (up (I 0) t (I 0 t - 1))) Ls t).2.2.2 cp' 21 (M + (Ls (501 + 2 * t)).length) → (∀ i, (i < 2 ∨ i < 20 ∧ i % 2 = 0 ∨ 2 + 2 * (C 1).toNat ≤ i ∧ i < 20 ∨ 20 + 2 * (C 2).toNat ≤ i) → cp' i = cp i) → Q (.inl none) h') : Rn 85 0 (entL 85 [aR (ad 0 0), aR (ad 4 t)]) [] h Q := by
  show Rn 85 0 [some (aR (ad 0 0)), some (aR (ad 4 t))] [] h Q
  have b4 := b.v4 t
  refine x_aload_n k_85_0 rfl ?_
  refine x_get k_85_1 (w.at (g.tran ht)) rfl ?_
  refine x_iconst k_85_4 ?_
  refine x_icmpeq (t := 9) k_85_5 rfl (by show inR (A 4 t) ∧ inR 3; omega) (fun hc => ?_) (fun hc => ?_)
  · have hc : A 4 t = 3 := hc
    have hd := hd hc
    refine x_aload_n k_85_9 rfl ?_
    refine x_dup k_85_10 rfl ?_
    refine x_get k_85_11 (w.at (g.tran ht)) rfl ?_
    refine x_iconst k_85_14 ?_
    refine x_isub k_85_15 ?_
    refine x_put k_85_16 (w.at (g.tran ht)) (Nat.le_of_ble_eq_true rfl) rfl ?_
    refine duego w fo g ht (I 0 t - 1) (fun K h w fo g e1 => ?_)
    refine x_aload_n k_85_19 rfl ?_
    refine x_get k_85_20 (w.at (g.tran ht)) rfl ?_
    refine x_top (show (up I 0 (up (I 0) t (I 0 t - 1))) 0 t = I 0 t - 1 from up_s) ?_
    refine x_ifne (t := 31) k_85_23 rfl (by omega) (fun hz => ?_) (fun hz => ?_)
    · refine x_return k_85_31 ?_
      exact k1 hc hz K h w fo g e1
    · have pt1 : PT S N h cp := by unfold PT; rw [e1]; exact pt
      refine x_aload_n k_85_26 rfl ?_
      refine x_aload_n k_85_27 rfl ?_
      refine x_call2 k_85_28 (Nat.le_of_ble_eq_true rfl) (rcv_1 (w.at g.store)) (Nat.le_of_ble_eq_true rfl) ?_
      refine k_makeCommit w g b lt fo ib pt1 jw jc ht hM1 hM2 (h13 hc) h6 h5 (fun ad' ow' K' F' cp' h' q1 q2 q3 q4 q5 q6 q7 q8 q9 q10 => bh_v ?_)
      refine x_return k_85_31 ?_
      exact k2 hc (Decidable.not_not.mp hz) ad' ow' K' F' cp' h' q1 q2 q3 q4 q5 q6 q7 q8 q9 q10
  · refine x_return k_85_8 ?_
    exact k0 hc
end C17
