section C10
variable {ad : AD} {ow : OW} {K : KK} {h : AH} {C : Nat → Int} {A I : Nat → Nat → Int} {F : Nat → Nat → Nat → Int} {Ls : Nat → List Nat} {cp : Nat → Nat} {Q : AR → AH → Prop}
theorem k_sendOther {ow0 : OW} {h0 : AH} {ad0 : AD} {C0 : Nat → Int} {A0 I0 : Nat → Nat → Int} {Ls0 : Nat → List Nat} {S N t : Nat} {so ex : Int} (w : WD ad0 ow K h) (g : CI ad0 K h.2.2.2.1 C0 A0 I0 F Ls0 cp) (b0 : RB C0 A0) (lt : LT C0 A0 Ls0) (fo : Fo ow0 h0 ow h) (ib : IB C0 Ls0 cp) (pt : PT S N h cp) (h5 : C0 5 + 6 ≤ 15000) (ht0 : t < (C0 3).toNat) (hso : 0 ≤ so ∧ so ≤ 5) (hex : inR ex) (k : ∀ ad' ow' K' cp' h', WD ad' ow' K' h' → CI ad' K' h'.2.2.2.1 ((bcl (fun u => aks A0 Ls0 t u ∧ ¬ (u : Int) = ex) (A0 3 t) so t (C0, A0, I0, Ls0)) (C0 1).toNat).1 ((bcl (fun u => aks A0 Ls0 t u ∧ ¬ (u : Int) = ex) (A0 3 t) so t (C0, A0, I0, Ls0)) (C0 1).toNat).2.1 ((bcl (fun u => aks A0 Ls0 t u ∧ ¬ (u : Int) = ex) (A0 3 t) so t (C0, A0, I0, Ls0)) (C0 1).toNat).2.2.1 F ((bcl (fun u => aks A0 Ls0 t u ∧ ¬ (u : Int) = ex) (A0 3 t) so t (C0, A0, I0, Ls0)) (C0 1).toNat).2.2.2 cp' → LT ((bcl (fun u => aks A0 Ls0 t u ∧ ¬ (u : Int) = ex) (A0 3 t) so t (C0, A0, I0, Ls0)) (C0 1).toNat).1 ((bcl (fun u => aks A0 Ls0 t u ∧ ¬ (u : Int) = ex) (A0 3 t) so t (C0, A0, I0, Ls0)) (C0 1).toNat).2.1 ((bcl (fun u => aks A0 Ls0 t u ∧ ¬ (u : Int) = ex) (A0 3 t) so t (C0, A0, I0, Ls0)) (C0 1).toNat).2.2.2 → Fo ow0 h0 ow' h' → IB ((bcl (fun u => aks A0 Ls0 t u ∧ ¬ (u : Int) = ex) (A0 3 t) so t (C0, A0, I0, Ls0)) (C0 1).toNat).1 ((bcl (fun u => aks A0 Ls0 t u ∧ ¬ (u : Int) = ex) (A0 3 t) so t (C0, A0, I0, Ls0)) (C0 1).toNat).2.2.2 cp' → PT (S + 3 * (C0 1).toNat) (N + 2 * (C0 1).toNat) h' cp' → (∀ k i, (k ≠ 7 ∨ i < (C0 5).toNat) → k ≠ 10 → ad' k i = ad0 k i) → (∀ i, (i < 2 ∨ i % 2 = 0 ∨ 2 + 2 * (C0 1).toNat ≤ i) → cp' i = cp i) → Q (.inl none) h') : Rn 74 0 (entL 74 [aR (ad0 0 0), aR (ad0 4 t), aI so, aI ex]) [] h Q := by
  show Rn 74 0 [some (aR (ad0 0 0)), some (aR (ad0 4 t)), some (aI so), some (aI ex), none] [] h Q
  refine x_iconst k_74_0 ?_
  refine x_is4 k_74_1 rfl ?_
  exact lp_sendOther (cp0 := cp) (I0 := I0) b0 h5 ht0 hso hex k (C0 1).toNat 0 (Nat.zero_add _) ad0 ow K C0 A0 I0 Ls0 cp h rfl w g lt fo ib pt (fun _ _ _ _ => rfl) (fun _ _ => rfl)
theorem lp_answer {S N : Nat} {ow0 : OW} {h0 : AH} (w : WD ad ow K h) (g : CI ad K h.2.2.2.1 C A I F Ls cp) (b : RB C A) (lt : LT C A Ls) (fo : Fo ow0 h0 ow h) (ib : IB C Ls cp) (pt : PT S N h cp) {t d : Nat} {so : Int} (ht : t < (C 3).toNat) (hd : d < (C 1).toNat) (k : ∀ ad' ow' K' cp' h', WD ad' ow' K' h' → CI ad' K' h'.2.2.2.1 (sndC C) (sndA C A d (A 3 t).toNat so t) (up I 2 (up (I 2) (C 5).toNat so)) F (up Ls (3 + 2 * (A 3 t).toNat) (Ls (3 + 2 * (A 3 t).toNat) ++ [(C 5).toNat])) cp' → LT (sndC C) (sndA C A d (A 3 t).toNat so t) (up Ls (3 + 2 * (A 3 t).toNat) (Ls (3 + 2 * (A 3 t).toNat) ++ [(C 5).toNat])) → Fo ow0 h0 ow' h' → IB (sndC C) (up Ls (3 + 2 * (A 3 t).toNat) (Ls (3 + 2 * (A 3 t).toNat) ++ [(C 5).toNat])) cp' → PT (S + 3) (N + 2) h' cp' → (∀ k i, (k ≠ 7 ∨ i < (C 5).toNat) → k ≠ 10 → ad' k i = ad k i) → (∀ i, (i < 2 ∨ i % 2 = 0 ∨ 2 + 2 * (C 1).toNat ≤ i) → cp' i = cp i) → Q (.inl none) h') : Rn 84 17 [some (aR (ad 0 0)), some (aR (ad 4 t)), some (aR (ad 2 d)), some (aI (so))] [] h Q := by
  have b1 := b.c1
  have a3 := g.a3 ht
  have b3 := b.v3 t
  obtain ⟨R, hR, hR2⟩ := g.row
  refine x_aload_n k_84_17 rfl ?_
  refine x_get k_84_18 (w.at g.store) rfl ?_
  refine x_aload_n k_84_21 rfl ?_
  refine x_get k_84_22 (w.at (g.tran (by omega))) rfl ?_
  have f22 := b.v3 t
  refine x_aaload k_84_25 (w.at hR) (Or.inl rfl) (by omega) (by omega) ?_
  rw [show R ((A 3 t) : Int).toNat = some (ad 2 ((A 3 t).toNat)) from hR2 ((A 3 t).toNat) (by omega)]
  refine x_get k_84_26 (w.at (g.site (by omega))) rfl ?_
  refine x_new k_84_29 ?_
  refine x_dup k_84_32 rfl ?_
  refine x_iload_n k_84_33 rfl ?_
  refine x_aload_n k_84_34 rfl ?_
  refine x_get k_84_35 ((hnew_n (Nat.ne_of_lt (w.1 _ _ _ (g.site hd)).2.2)).trans (w.at (g.site hd))) rfl ?_
  refine x_aload_n k_84_38 rfl ?_
  refine x_call4 k_84_39 (Nat.le_of_ble_eq_true rfl) rfl (Nat.le_of_ble_eq_true rfl) ?_
  refine i_message hnew_s (bh_v ?_)
  rw [hput_new]
  refine sndgo2 k_84_42 k_84_45 (Nat.le_of_ble_eq_true rfl) w g b lt fo ib pt (u := (A 3 t).toNat) (by omega) ht (fun ad' ow' K' cp' h' w' g' lt' fo' ib' pt' hA' hcp' => ?_)
  refine x_return k_84_46 ?_
  exact k ad' ow' K' cp' h' w' g' lt' fo' ib' pt' hA' hcp'
theorem k_answer {S N : Nat} {ow0 : OW} {h0 : AH} (w : WD ad ow K h) (g : CI ad K h.2.2.2.1 C A I F Ls cp) (b : RB C A) (lt : LT C A Ls) (fo : Fo ow0 h0 ow h) (ib : IB C Ls cp) (pt : PT S N h cp) {t d : Nat} (ht : t < (C 3).toNat) (hd : d < (C 1).toNat) (k3 : (∃ x, x ∈ Ls (500 + 2 * t) ∧ (fun k => A 0 (A 10 k).toNat = d ∧ hcf A Ls (A 10 k).toNat t d) x) → ∀ ad' ow' K' cp' h', WD ad' ow' K' h' → CI ad' K' h'.2.2.2.1 (sndC C) (sndA C A d (A 3 t).toNat 3 t) (up I 2 (up (I 2) (C 5).toNat 3)) F (up Ls (3 + 2 * (A 3 t).toNat) (Ls (3 + 2 * (A 3 t).toNat) ++ [(C 5).toNat])) cp' → LT (sndC C) (sndA C A d (A 3 t).toNat 3 t) (up Ls (3 + 2 * (A 3 t).toNat) (Ls (3 + 2 * (A 3 t).toNat) ++ [(C 5).toNat])) → Fo ow0 h0 ow' h' → IB (sndC C) (up Ls (3 + 2 * (A 3 t).toNat) (Ls (3 + 2 * (A 3 t).toNat) ++ [(C 5).toNat])) cp' → PT (S + 3) (N + 2) h' cp' → (∀ k i, (k ≠ 7 ∨ i < (C 5).toNat) → k ≠ 10 → ad' k i = ad k i) → (∀ i, (i < 2 ∨ i % 2 = 0 ∨ 2 + 2 * (C 1).toNat ≤ i) → cp' i = cp i) → Q (.inl none) h') (k2 : ¬ (∃ x, x ∈ Ls (500 + 2 * t) ∧ (fun k => A 0 (A 10 k).toNat = d ∧ hcf A Ls (A 10 k).toNat t d) x) → ∀ ad' ow' K' cp' h', WD ad' ow' K' h' → CI ad' K' h'.2.2.2.1 (sndC C) (sndA C (up A 1 (lkF A (Ls (500 + 2 * t)) t d (Ls (500 + 2 * t)).length)) d (A 3 t).toNat 2 t) (up I 2 (up (I 2) (C 5).toNat 2)) F (up Ls (3 + 2 * (A 3 t).toNat) (Ls (3 + 2 * (A 3 t).toNat) ++ [(C 5).toNat])) cp' → LT (sndC C) (sndA C (up A 1 (lkF A (Ls (500 + 2 * t)) t d (Ls (500 + 2 * t)).length)) d (A 3 t).toNat 2 t) (up Ls (3 + 2 * (A 3 t).toNat) (Ls (3 + 2 * (A 3 t).toNat) ++ [(C 5).toNat])) → Fo ow0 h0 ow' h' → IB (sndC C) (up Ls (3 + 2 * (A 3 t).toNat) (Ls (3 + 2 * (A 3 t).toNat) ++ [(C 5).toNat])) cp' → PT (S + 3) (N + 2) h' cp' → (∀ k i, (k ≠ 7 ∨ i < (C 5).toNat) → k ≠ 10 → ad' k i = ad k i) → (∀ i, (i < 2 ∨ i % 2 = 0 ∨ 2 + 2 * (C 1).toNat ≤ i) → cp' i = cp i) → Q (.inl none) h') : Rn 84 0 (entL 84 [aR (ad 0 0), aR (ad 4 t), aR (ad 2 d)]) [] h Q := by
  show Rn 84 0 [some (aR (ad 0 0)), some (aR (ad 4 t)), some (aR (ad 2 d)), none] [] h Q
  have b3 := b.c3
  refine x_iconst k_84_0 ?_
  refine x_is3n k_84_1 rfl ?_
  refine x_aload_n k_84_2 rfl ?_
  refine x_aload_n k_84_3 rfl ?_
  refine x_call2 k_84_4 (Nat.le_of_ble_eq_true rfl) (rcv_1 (w.at (g.tran ht))) (Nat.le_of_ble_eq_true rfl) ?_
  refine k_hasConflictAt w g b lt ht hd (bh_1 ?_)
  refine x_ifne_P (t := 17) k_84_7 rfl (fun hc => ?_) (fun hc => ?_)
  · exact lp_answer w g b lt fo ib pt ht hd (k3 hc)
  · refine x_aload_n k_84_10 rfl ?_
    refine x_aload_n k_84_11 rfl ?_
    refine x_call2 k_84_12 (Nat.le_of_ble_eq_true rfl) (rcv_1 (w.at (g.tran ht))) (Nat.le_of_ble_eq_true rfl) ?_
    refine k_lockAt w g (Fo.rf (ow := ow) (h := h)) b lt ht hd (fun K1 h1 w1 g1 fo1 e1 => bh_v ?_)
    have pt1 : PT S N h1 cp := by unfold PT; rw [e1]; exact pt
    refine x_iconst k_84_15 ?_
    refine x_is3n k_84_16 rfl ?_
    exact lp_answer w1 g1 (b.s1 (lkF_b b (by omega))) lt (fo.tr fo1) ib pt1 ht hd (k2 hc)
end C10
