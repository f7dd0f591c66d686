section C13
variable {ad : AD} {ow : OW} {K : KK} {h : AH} {C : Nat → Int} {A I : Nat → Nat → Int} {F : Nat → Nat → Nat → Int} {Ls : Nat → List Nat} {cp : Nat → Nat} {Q : AR → AH → Prop}
def mkA (A : Nat → Nat → Int) (t : Nat) : Nat → Nat → Int := up (up A 4 (up (A 4) t 1)) 5 (up (A 5) t (A 13 (6 * (A 3 t).toNat + (A 3 t).toNat) + 1))
noncomputable def mkA2 (A : Nat → Nat → Int) (Ls : Nat → List Nat) (t : Nat) : Nat → Nat → Int := apyA (mkA A t) (hndL (mkA A t) Ls t) t (A 3 t).toNat
/-- what makeCommit(t) leaves -/
noncomputable def mkS (C : Nat → Int) (A I : Nat → Nat → Int) (Ls : Nat → List Nat) (t : Nat) : CB := bcl (fun u => ¬ (u : Int) = A 3 t) (A 3 t) 5 t (up C 6 (C 6 + 1), mkA2 A Ls t, I, hndL (mkA A t) Ls t) (C 1).toNat
theorem mkA_b (b : RB C A) {t : Nat} (h13 : A 13 (6 * (A 3 t).toNat + (A 3 t).toNat) < 500) (h6 : C 6 < 1000) : RB (up C 6 (C 6 + 1)) (mkA A t) := by
  have h1 := b.v13 (6 * (A 3 t).toNat + (A 3 t).toNat)
  have h2 := b.c6
  exact ((b.t4 ⟨by omega, by omega⟩).t5 ⟨by omega, by omega⟩).d6 ⟨by omega, by omega⟩
theorem k_makeCommit {S N M : Nat} {ow0 : OW} {h0 : AH} (w : WD ad ow K h) (g : CI ad K h.2.2.2.1 C A I F Ls cp) (b : RB C A) (lt : LT C A Ls) (fo : Fo ow0 h0 ow h) (ib : IB C Ls cp) (pt : PT S N h cp) (jw : JB C Ls cp 20 M) (jc : JB C Ls cp 21 M) {t : Nat} (ht : t < (C 3).toNat) (hM1 : M + (Ls (500 + 2 * t)).length < 80000) (hM2 : M + (Ls (501 + 2 * t)).length < 80000) (h13 : A 13 (6 * (A 3 t).toNat + (A 3 t).toNat) < 500) (h6 : C 6 < 1000) (h5 : C 5 + 6 ≤ 15000)
    (k : ∀ ad' ow' K' F' cp' h', WD ad' ow' K' h' → CI ad' K' h'.2.2.2.1 (mkS C A I Ls t).1 (mkS C A I Ls t).2.1 (mkS C A I Ls t).2.2.1 F' (mkS C A I Ls t).2.2.2 cp' → LT (mkS C A I Ls t).1 (mkS C A I Ls t).2.1 (mkS C A I Ls t).2.2.2 → Fo ow0 h0 ow' h' → IB (mkS C A I Ls t).1 (mkS C A I Ls t).2.2.2 cp' → PT (S + 3 * (C 1).toNat) (N + (Ls (500 + 2 * t)).length + (Ls (501 + 2 * t)).length + 2 * (C 1).toNat) h' cp' → (∀ k i, (k ≠ 7 ∨ i < (C 5).toNat) → k ≠ 10 → ad' k i = ad k i) → JB C (mkS C A I Ls t).2.2.2 cp' 20 (M + (Ls (500 + 2 * t)).length) → JB C (mkS C A I Ls t).2.2.2 cp' 21 (M + (Ls (501 + 2 * t)).length) → (∀ i, (i < 2 ∨ i < 20 ∧ i % 2 = 0 ∨ 2 + 2 * (C 1).toNat ≤ i ∧ i < 20 ∨ 20 + 2 * (C 2).toNat ≤ i) → cp' i = cp i) → Q (.inl none) h') : Rn 68 0 (entL 68 [aR (ad 0 0), aR (ad 4 t)]) [] h Q := by
  show Rn 68 0 [some (aR (ad 0 0)), some (aR (ad 4 t)), none, none] [] h Q
  obtain ⟨R, hR, hR2⟩ := g.row
  have b1 := b.c1
  have a3 := g.a3 ht
  have b3 := b.v3 t
  have b13 := b.v13 (6 * (A 3 t).toNat + (A 3 t).toNat)
  refine x_aload_n k_68_0 rfl ?_
  refine x_get k_68_1 (w.at g.store) rfl ?_
  refine x_aload_n k_68_4 rfl ?_
  refine x_get k_68_5 (w.at (g.tran (by omega))) rfl ?_
  refine x_aaload k_68_8 (w.at hR) (Or.inl rfl) (by omega) (by omega) ?_
  rw [show R ((A 3 t) : Int).toNat = some (ad 2 ((A 3 t).toNat)) from hR2 ((A 3 t).toNat) (by omega)]
  refine x_as2n k_68_9 rfl ?_
  refine x_aload_n k_68_10 rfl ?_
  refine x_iconst k_68_11 ?_
  refine x_put k_68_12 (w.at (g.tran (by omega))) (Nat.le_of_ble_eq_true rfl) rfl ?_
  refine phasego w fo g ht 1 (fun K h w fo g e1 => ?_)
  refine x_aload_n k_68_15 rfl ?_
  refine x_aload_n k_68_16 rfl ?_
  refine x_get k_68_17 (w.at (g.site (s := (A 3 t).toNat) (by omega))) rfl ?_
  refine x_aload_n k_68_20 rfl ?_
  refine x_get k_68_21 (w.at (g.tran ht)) rfl ?_
  refine y_iaload (m := (A 3 t).toNat) k_68_24 (w.at (g.seen (s := (A 3 t).toNat) (by omega))) (Or.inl rfl) (show A 3 t = (((A 3 t).toNat : Nat) : Int) by omega) (by omega) ?_
  refine x_top (show F 0 (A 3 t).toNat (A 3 t).toNat = A 13 (6 * (A 3 t).toNat + (A 3 t).toNat) from g.f0 (by omega) (by omega)) ?_
  refine x_iconst k_68_25 ?_
  refine x_iadd k_68_26 ?_
  refine x_put k_68_27 (w.at (g.tran ht)) (Nat.le_of_ble_eq_true rfl) rfl ?_
  refine numgo w fo g ht (A 13 (6 * (A 3 t).toNat + (A 3 t).toNat) + 1) (fun K h w fo g e2 => ?_)
  refine x_aload_n k_68_30 rfl ?_
  refine x_dup k_68_31 rfl ?_
  refine x_get k_68_32 (w.at g.store) rfl ?_
  refine x_iconst k_68_35 ?_
  refine x_iadd k_68_36 ?_
  refine x_put k_68_37 (w.at g.store) (Nat.le_of_ble_eq_true rfl) rfl ?_
  refine cmsgo w fo g (C 6 + 1) (fun K h w fo g e3 => ?_)
  have pt1 : PT S N h cp := by unfold PT; rw [e3, e2, e1]; exact pt
  have bA := mkA_b (C := C) b h13 h6
  refine x_aload_n k_68_40 rfl ?_
  refine x_call1 k_68_41 (Nat.le_of_ble_eq_true rfl) (rcv_1 (w.at (g.tran ht))) (Nat.le_of_ble_eq_true rfl) ?_
  refine k_handToItems (A := mkA A t) (C := up C 6 (C 6 + 1)) w g bA lt fo ib pt1 jw jc ht hM1 hM2 (fun ad1 ow1 K1 cp1 h1 w1 g1 lt1 fo1 ib1 pt1 jw1 jc1 hA1 hcp1 => bh_v ?_)
  refine x_aload_n k_68_44 rfl ?_
  refine x_aload_n k_68_45 rfl ?_
  rw [← hA1 2 _ (by decide), ← hA1 4 t (by decide), ← hA1 0 0 (by decide)]
  refine x_call2 k_68_46 (Nat.le_of_ble_eq_true rfl) (rcv_1 (w1.at (g1.site (s := (A 3 t).toNat) (by show (A 3 t).toNat < (C 1).toNat; omega)))) (Nat.le_of_ble_eq_true rfl) ?_
  refine k_apply w1 g1 bA fo1 lt1 ht (by show (A 3 t).toNat < (C 1).toNat; omega) (fun K2 F2 h2 w2 g2 fo2 e4 => bh_v ?_)
  refine x_iconst k_68_49 ?_
  refine x_is3n k_68_50 rfl ?_
  have pt2 : PT S (N + (Ls (500 + 2 * t)).length + (Ls (501 + 2 * t)).length) h2 cp1 := by unfold PT; rw [e4]; exact pt1
  have b1u : (up C 6 (C 6 + 1)) 1 = C 1 := rfl
  have b2u : (up C 6 (C 6 + 1)) 2 = C 2 := rfl
  have els : ∀ j, 20 ≤ j → (mkS C A I Ls t).2.2.2 j = hndL (mkA A t) Ls t j := fun j hj => (bcl_s (P := fun u => ¬ (u : Int) = A 3 t) (a := A 3 t) (so := 5) (t := t) (p := (up C 6 (C 6 + 1), mkA2 A Ls t, I, hndL (mkA A t) Ls t)) (C 1).toNat).2.2 j hj (by omega)
  exact lp_news (cp0 := cp1) (C0 := up C 6 (C 6 + 1)) (A0 := mkA2 A Ls t) (I0 := I) (Ls0 := hndL (mkA A t) Ls t) (ad0 := ad1) (apyA_b bA) h5 ht (fun ad3 ow3 K3 cp3 h3 w3 g3 lt3 fo3 ib3 pt3 hA3 hcp3 => k ad3 ow3 K3 F2 cp3 h3 w3 g3 lt3 fo3 ib3 pt3 (fun k i h7 h10 => (hA3 k i h7 h10).trans (hA1 k i h10)) (fun o ho => by rw [els _ (by omega), hcp3 _ (by omega)]; exact jw1 o ho) (fun o ho => by rw [els _ (by omega), hcp3 _ (by omega)]; exact jc1 o ho) (fun i hi => (hcp3 i (by omega)).trans (hcp1 i (by omega)))) (C 1).toNat 0 (Nat.zero_add _) ad1 ow1 K2 _ _ _ _ cp1 h2 rfl w2 g2 (apyA_lt lt1) fo2 ib1 pt2 (fun _ _ _ _ => rfl) (fun _ _ => rfl)
end C13
