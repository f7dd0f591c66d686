section C14
variable {ad : AD} {ow : OW} {K : KK} {h : AH} {C : Nat → Int} {A I : Nat → Nat → Int} {F : Nat → Nat → Nat → Int} {Ls : Nat → List Nat} {cp : Nat → Nat} {Q : AR → AH → Prop}
theorem k_locked (w : WD ad ow K h) (g : CI ad K h.2.2.2.1 C A I F Ls cp) (b : RB C A) {o : Int} (ho : inR o) (k1 : (0 ≤ o ∧ o < C 2) → Q (.inl (some (aI (A 1 o.toNat)))) h) (k2 : ¬ (0 ≤ o ∧ o < C 2) → Q (.inr (10, h.2.1)) (hex h 10)) : Rn 100 0 (entL 100 [aR (ad 0 0), aI o]) [] h Q := by
  show Rn 100 0 [some (aR (ad 0 0)), some (aI o)] [] h Q
  refine x_aload_n k_100_0 rfl ?_
  refine x_iload_n k_100_1 rfl ?_
  refine x_call2 k_100_2 (Nat.le_of_ble_eq_true rfl) (rcv_1 (w.at g.store)) (Nat.le_of_ble_eq_true rfl) ?_
  refine k_itemOf w g b ho (fun h1 => bh_1 ?_) (fun h1 => bh_o rfl (k2 h1))
  refine x_get k_100_5 (w.at (g.item (by omega))) rfl ?_
  refine x_ireturn k_100_8 rfl ?_
  exact k1 h1
theorem k_seen (w : WD ad ow K h) (g : CI ad K h.2.2.2.1 C A I F Ls cp) (b : RB C A) {s u : Int} (hs : inR s) (hu : inR u) (k1 : ((0 ≤ s ∧ s < C 1) ∧ (0 ≤ u ∧ u < C 1)) → Q (.inl (some (aI (A 13 (6 * s.toNat + u.toNat))))) h) (k2 : ¬ ((0 ≤ s ∧ s < C 1) ∧ (0 ≤ u ∧ u < C 1)) → Q (.inr (10, h.2.1)) (hex h 10)) : Rn 95 0 (entL 95 [aR (ad 0 0), aI s, aI u]) [] h Q := by
  show Rn 95 0 [some (aR (ad 0 0)), some (aI s), some (aI u)] [] h Q
  have b1 := b.c1
  obtain ⟨R, hR, hR2⟩ := g.row
  refine x_aload_n k_95_0 rfl ?_
  refine x_iload_n k_95_1 rfl ?_
  refine x_call2 k_95_2 (Nat.le_of_ble_eq_true rfl) (rcv_1 (w.at g.store)) (Nat.le_of_ble_eq_true rfl) ?_
  refine k_needSite w g b hs (fun h1 => bh_v ?_) (fun h1 => bh_o rfl (k2 (fun q => h1 q.1)))
  refine x_aload_n k_95_5 rfl ?_
  refine x_iload_n k_95_6 rfl ?_
  refine x_call2 k_95_7 (Nat.le_of_ble_eq_true rfl) (rcv_1 (w.at g.store)) (Nat.le_of_ble_eq_true rfl) ?_
  refine k_needSite w g b hu (fun h2 => bh_v ?_) (fun h2 => bh_o rfl (k2 (fun q => h2 q.2)))
  refine x_aload_n k_95_10 rfl ?_
  refine x_get k_95_11 (w.at g.store) rfl ?_
  refine x_iload_n k_95_14 rfl ?_
  refine x_aaload k_95_15 (w.at hR) (Or.inl rfl) (by omega) (by omega) ?_
  rw [hR2 s.toNat (by omega)]
  refine x_get k_95_16 (w.at (g.site (s := s.toNat) (by omega))) rfl ?_
  refine x_iload_n k_95_19 rfl ?_
  refine y_iaload (m := u.toNat) k_95_20 (w.at (g.seen (s := s.toNat) (by omega))) (Or.inl rfl) (by omega) (by omega) ?_
  refine x_top (show F 0 s.toNat u.toNat = A 13 (6 * s.toNat + u.toNat) from g.f0 (by omega) (by omega)) ?_
  refine x_ireturn k_95_21 rfl ?_
  exact k1 ⟨h1, h2⟩
theorem k_waiting (w : WD ad ow K h) (g : CI ad K h.2.2.2.1 C A I F Ls cp) (b : RB C A) (lt : LT C A Ls) {a d : Int} (ha : inR a) (hd : inR d) (k1 : ((0 ≤ a ∧ a < C 1) ∧ (0 ≤ d ∧ d < C 1)) → ¬ a = d → Q (.inl (some (aI (cnj (Ls (3 + 2 * d.toNat)) (fun q => A 16 q = a) (Ls (3 + 2 * d.toNat)).length)))) h) (k2 : (¬ ((0 ≤ a ∧ a < C 1) ∧ (0 ≤ d ∧ d < C 1)) ∨ a = d) → Q (.inr (10, h.2.1)) (hex h 10)) : Rn 92 0 (entL 92 [aR (ad 0 0), aI a, aI d]) [] h Q := by
  show Rn 92 0 [some (aR (ad 0 0)), some (aI a), some (aI d)] [] h Q
  have b1 := b.c1
  obtain ⟨R, hR, hR2⟩ := g.row
  refine x_aload_n k_92_0 rfl ?_
  refine x_iload_n k_92_1 rfl ?_
  refine x_iload_n k_92_2 rfl ?_
  refine x_call3 k_92_3 (Nat.le_of_ble_eq_true rfl) (rcv_1 (w.at g.store)) (Nat.le_of_ble_eq_true rfl) ?_
  refine k_needTwo w g b ha hd (fun h1 h2 => bh_v ?_) (fun h1 => bh_o rfl (k2 h1))
  refine x_aload_n k_92_6 rfl ?_
  refine x_get k_92_7 (w.at g.store) rfl ?_
  refine x_iload_n k_92_10 rfl ?_
  refine x_aaload k_92_11 (w.at hR) (Or.inl rfl) (by omega) (by omega) ?_
  rw [hR2 d.toNat (by omega)]
  refine x_iload_n k_92_12 rfl ?_
  refine x_call2 k_92_13 (Nat.le_of_ble_eq_true rfl) (rcv_1 (w.at (g.site (s := d.toNat) (by omega)))) (Nat.le_of_ble_eq_true rfl) ?_
  refine k_waitingFrom w g b lt (s := d.toNat) (by omega) ha (bh_1 ?_)
  refine x_ireturn k_92_16 rfl ?_
  exact k1 h1 h2
theorem k_abort {ow0 : OW} {h0 : AH} (w : WD ad ow K h) (g : CI ad K h.2.2.2.1 C A I F Ls cp) (b : RB C A) (fo : Fo ow0 h0 ow h) {t : Int} (ht : inR t) (k1 : (0 ≤ t ∧ t < C 3) → A 4 t.toNat = 0 → ∀ K' h', WD ad ow K' h' → Fo ow0 h0 ow h' → CI ad K' h'.2.2.2.1 C (up A 4 (up (A 4) t.toNat 2)) I F Ls cp → h'.2 = h.2 → Q (.inl none) h') (k2 : ¬ (0 ≤ t ∧ t < C 3) → Q (.inr (10, h.2.1)) (hex h 10)) (k3 : (0 ≤ t ∧ t < C 3) → ¬ A 4 t.toNat = 0 → Q (.inr (11, h.2.1)) (hex h 11)) : Rn 76 0 (entL 76 [aR (ad 0 0), aI t]) [] h Q := by
  show Rn 76 0 [some (aR (ad 0 0)), some (aI t), none] [] h Q
  refine x_aload_n k_76_0 rfl ?_
  refine x_iload_n k_76_1 rfl ?_
  refine x_call2 k_76_2 (Nat.le_of_ble_eq_true rfl) (rcv_1 (w.at g.store)) (Nat.le_of_ble_eq_true rfl) ?_
  refine k_transactionOf w g b ht (fun h1 => bh_1 ?_) (fun h1 => bh_o rfl (k2 h1))
  refine x_as2n k_76_5 rfl ?_
  refine x_aload_n k_76_6 rfl ?_
  refine x_aload_n k_76_7 rfl ?_
  refine x_call2 k_76_8 (Nat.le_of_ble_eq_true rfl) (rcv_1 (w.at g.store)) (Nat.le_of_ble_eq_true rfl) ?_
  refine k_needOpen w g b (t := t.toNat) (by omega) (fun h2 => bh_v ?_) (fun h2 => bh_o rfl (k3 h1 h2))
  refine x_aload_n k_76_11 rfl ?_
  refine x_iconst k_76_12 ?_
  refine x_put k_76_13 (w.at (g.tran (t := t.toNat) (by omega))) (Nat.le_of_ble_eq_true rfl) rfl ?_
  refine phasego w fo g (t := t.toNat) (by omega) 2 (fun K' h' w' fo' g' e' => ?_)
  refine x_return k_76_16 ?_
  exact k1 h1 h2 K' h' w' fo' g' e'
end C14
