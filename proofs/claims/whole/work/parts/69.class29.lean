section C29
variable {ad : AD} {ow : OW} {K : KK} {h : AH} {C : Nat → Int} {A I : Nat → Nat → Int} {F : Nat → Nat → Nat → Int} {Ls : Nat → List Nat} {cp : Nat → Nat} {Q : AR → AH → Prop}
/-- agreeing arrays give the same picture -/
theorem CI.agr {z : Nat} {C' : Nat → Int} {A' I' : Nat → Nat → Int} (g : CI ad K z C A I F Ls cp) (hC : C' 1 = C 1 ∧ C' 2 = C 2 ∧ C' 3 = C 3 ∧ C' 5 = C 5 ∧ C' 6 = C 6) (hI : I' 3 0 = I 3 0 ∧ I' 4 0 = I 4 0) (ho : ∀ o, o < (C 2).toNat → A' 0 o = A 0 o ∧ A' 1 o = A 1 o ∧ A' 2 o = A 2 o) (ht : ∀ t, t < (C 3).toNat → A' 3 t = A 3 t ∧ A' 4 t = A 4 t ∧ A' 5 t = A 5 t ∧ I' 0 t = I 0 t) (hw : ∀ t k, t < (C 3).toNat → k ∈ Ls (500 + 2 * t) → A' 10 k = A 10 k ∧ I' 1 k = I 1 k) (hc : ∀ t k, t < (C 3).toNat → k ∈ Ls (501 + 2 * t) → A' 10 k = A 10 k ∧ A' 12 k = A 12 k ∧ A' 11 k = A 11 k) (hm : ∀ q, q < (C 5).toNat → I' 2 q = I 2 q ∧ A' 16 q = A 16 q ∧ A' 19 q = A 19 q) (h13 : ∀ s u, s < (C 1).toNat → u < (C 1).toNat → A' 13 (6 * s + u) = A 13 (6 * s + u)) (h6 : ∀ t u, t < (C 3).toNat → u < (C 1).toNat → A' 6 (6 * t + u) = A 6 (6 * t + u)) : CI ad K z C' A' I' F Ls cp := by
  obtain ⟨g1, g2, g3, g4, g5, g6, g7, g8, g9, g10, g11, g12, g13, g14, g15, g16, g17⟩ := g
  obtain ⟨c1, c2, c3, c5, c6⟩ := hC
  unfold CI
  rw [c1, c2, c3, c5]
  refine ⟨?_, g2, g3, g4, fun o h1 => ?_, fun t h1 => ?_, g7, fun t k h1 h2 => ?_, fun t k h1 h2 => ?_, fun q h1 => ?_, fun id hi => g11 id (by unfold lvl at hi ⊢; rw [c1, c2, c3] at hi; exact hi), ?_, g13, g14, fun s u h1 h2 => ?_, fun t u h1 h2 => ?_, fun t h1 => ?_⟩
  · rw [g1]; unfold sCell; rw [hI.1, c6]
  · rw [g5 o h1]; unfold itCell; rw [(ho o h1).1, (ho o h1).2.1, (ho o h1).2.2]
  · rw [g6 t h1]; unfold trCell; rw [(ht t h1).1, (ht t h1).2.1, (ht t h1).2.2.1, (ht t h1).2.2.2]
  · rw [g8 t k h1 h2]; unfold wrCell; rw [(hw t k h1 h2).1, (hw t k h1 h2).2]
  · rw [g9 t k h1 h2]; unfold chCell; rw [(hc t k h1 h2).1, (hc t k h1 h2).2.1, (hc t k h1 h2).2.2]
  · rw [g10 q h1]; unfold msCell; rw [(hm q h1).1, (hm q h1).2.1, (hm q h1).2.2]
  · refine ⟨?_, g12.2⟩
    rw [g12.1]; unfold tyCell; rw [hI.2]
  · rw [h13 s u h1 h2]; exact g15 s u h1 h2
  · rw [h6 t u h1 h2]; exact g16 t u h1 h2
  · rw [(ht t h1).1]; exact g17 t h1
/-- the names in use -/
def usd (C : Nat → Int) (Ls : Nat → List Nat) (k i : Nat) : Prop := (k = 0 ∧ i = 0) ∨ (k = 14 ∧ i = 0) ∨ (k = 1 ∧ i = 0) ∨ (k = 13 ∧ i < 2) ∨ (k = 2 ∧ i < (C 1).toNat) ∨ (k = 11 ∧ i < (C 1).toNat) ∨ (k = 3 ∧ i < (C 2).toNat) ∨ (k = 4 ∧ i < (C 3).toNat) ∨ (k = 12 ∧ i < (C 3).toNat) ∨ (k = 5 ∧ ∃ t, t < (C 3).toNat ∧ i ∈ Ls (500 + 2 * t)) ∨ (k = 6 ∧ ∃ t, t < (C 3).toNat ∧ i ∈ Ls (501 + 2 * t)) ∨ (k = 7 ∧ i < (C 5).toNat) ∨ (k = 8 ∧ lvl C i) ∨ (k = 10 ∧ lvl C i)
theorem lst_usd {z : Nat} (g : CI ad K z C A I F Ls cp) (lt : LT C A Ls) (b1 : C 1 ≤ 6) {id x : Nat} (hi : lvl C id) (hx : x ∈ Ls id) : usd C Ls (kd id) x := by
  unfold usd
  rcases hi with rfl | rfl | ⟨h1, h2⟩ | ⟨h1, h2⟩ | ⟨h1, h2⟩
  · rw [g.ls0] at hx
    exact Or.inr (Or.inr (Or.inr (Or.inr (Or.inr (Or.inr (Or.inl ⟨rfl, List.mem_range.mp hx⟩))))))
  · rw [g.ls1] at hx
    exact Or.inr (Or.inr (Or.inr (Or.inr (Or.inr (Or.inr (Or.inr (Or.inl ⟨rfl, List.mem_range.mp hx⟩)))))))
  · rcases Nat.mod_two_eq_zero_or_one id with e | e
    · obtain ⟨s, rfl⟩ : ∃ s, id = 2 + 2 * s := ⟨(id - 2) / 2, by omega⟩
      have := lt.2.2.2.2.1 s x (by omega) hx
      exact Or.inr (Or.inr (Or.inr (Or.inr (Or.inr (Or.inr (Or.inr (Or.inl ⟨kd_h (by omega), this⟩)))))))
    · obtain ⟨s, rfl⟩ : ∃ s, id = 3 + 2 * s := ⟨(id - 3) / 2, by omega⟩
      have := (lt.2.2.2.2.2 s x (by omega) hx).1
      exact Or.inr (Or.inr (Or.inr (Or.inr (Or.inr (Or.inr (Or.inr (Or.inr (Or.inr (Or.inr (Or.inr (Or.inl ⟨kd_b (by omega), this⟩)))))))))))
  · rcases Nat.mod_two_eq_zero_or_one id with e | e
    · obtain ⟨s, rfl⟩ : ∃ s, id = 20 + 2 * s := ⟨(id - 20) / 2, by omega⟩
      have := lt.2.2.1 s x (by omega) hx
      exact Or.inr (Or.inr (Or.inr (Or.inr (Or.inr (Or.inr (Or.inr (Or.inr (Or.inr (Or.inl ⟨kd_iw s, _, this⟩)))))))))
    · obtain ⟨s, rfl⟩ : ∃ s, id = 21 + 2 * s := ⟨(id - 21) / 2, by omega⟩
      have := lt.2.2.2.1 s x (by omega) hx
      exact Or.inr (Or.inr (Or.inr (Or.inr (Or.inr (Or.inr (Or.inr (Or.inr (Or.inr (Or.inr (Or.inl ⟨kd_ic s, _, this⟩))))))))))
  · rcases Nat.mod_two_eq_zero_or_one id with e | e
    · obtain ⟨s, rfl⟩ : ∃ s, id = 500 + 2 * s := ⟨(id - 500) / 2, by omega⟩
      exact Or.inr (Or.inr (Or.inr (Or.inr (Or.inr (Or.inr (Or.inr (Or.inr (Or.inr (Or.inl ⟨kd_w s, s, by omega, hx⟩)))))))))
    · obtain ⟨s, rfl⟩ : ∃ s, id = 501 + 2 * s := ⟨(id - 501) / 2, by omega⟩
      exact Or.inr (Or.inr (Or.inr (Or.inr (Or.inr (Or.inr (Or.inr (Or.inr (Or.inr (Or.inr (Or.inl ⟨kd_c s, s, by omega, hx⟩))))))))))
/-- names that are not in use may be changed -/
theorem CI.ext {z : Nat} {ad' : AD} {K' : KK} (g : CI ad K z C A I F Ls cp) (lt : LT C A Ls) (b1 : C 1 ≤ 6) (hm : ∀ q, q < (C 5).toNat → (A 19 q).toNat < (C 3).toNat) (hu : ∀ k i, usd C Ls k i → K' k i = K k i ∧ ad' k i = ad k i) : CI ad' K' z C A I F Ls cp := by
  have hL := fun id x => lst_usd (id := id) (x := x) g lt b1
  obtain ⟨g1, g2, g3, g4, g5, g6, g7, g8, g9, g10, g11, g12, g13, g14, g15, g16, g17⟩ := g
  have u0 := hu 0 0 (Or.inl ⟨rfl, rfl⟩)
  have u14 := hu 14 0 (Or.inr (Or.inl ⟨rfl, rfl⟩))
  have u1 := hu 1 0 (Or.inr (Or.inr (Or.inl ⟨rfl, rfl⟩)))
  have u130 := hu 13 0 (Or.inr (Or.inr (Or.inr (Or.inl ⟨rfl, by decide⟩))))
  have u131 := hu 13 1 (Or.inr (Or.inr (Or.inr (Or.inl ⟨rfl, by decide⟩))))
  have u2 : ∀ s, s < (C 1).toNat → K' 2 s = K 2 s ∧ ad' 2 s = ad 2 s := fun s h => hu 2 s (Or.inr (Or.inr (Or.inr (Or.inr (Or.inl ⟨rfl, h⟩)))))
  have u11 : ∀ s, s < (C 1).toNat → K' 11 s = K 11 s ∧ ad' 11 s = ad 11 s := fun s h => hu 11 s (Or.inr (Or.inr (Or.inr (Or.inr (Or.inr (Or.inl ⟨rfl, h⟩))))))
  have u3 : ∀ s, s < (C 2).toNat → K' 3 s = K 3 s ∧ ad' 3 s = ad 3 s := fun s h => hu 3 s (Or.inr (Or.inr (Or.inr (Or.inr (Or.inr (Or.inr (Or.inl ⟨rfl, h⟩)))))))
  have u4 : ∀ s, s < (C 3).toNat → K' 4 s = K 4 s ∧ ad' 4 s = ad 4 s := fun s h => hu 4 s (Or.inr (Or.inr (Or.inr (Or.inr (Or.inr (Or.inr (Or.inr (Or.inl ⟨rfl, h⟩))))))))
  have u12 : ∀ s, s < (C 3).toNat → K' 12 s = K 12 s ∧ ad' 12 s = ad 12 s := fun s h => hu 12 s (Or.inr (Or.inr (Or.inr (Or.inr (Or.inr (Or.inr (Or.inr (Or.inr (Or.inl ⟨rfl, h⟩)))))))))
  have u5 : ∀ t k, t < (C 3).toNat → k ∈ Ls (500 + 2 * t) → K' 5 k = K 5 k ∧ ad' 5 k = ad 5 k := fun t k h1 h2 => hu 5 k (Or.inr (Or.inr (Or.inr (Or.inr (Or.inr (Or.inr (Or.inr (Or.inr (Or.inr (Or.inl ⟨rfl, t, h1, h2⟩))))))))))
  have u6 : ∀ t k, t < (C 3).toNat → k ∈ Ls (501 + 2 * t) → K' 6 k = K 6 k ∧ ad' 6 k = ad 6 k := fun t k h1 h2 => hu 6 k (Or.inr (Or.inr (Or.inr (Or.inr (Or.inr (Or.inr (Or.inr (Or.inr (Or.inr (Or.inr (Or.inl ⟨rfl, t, h1, h2⟩)))))))))))
  have u7 : ∀ s, s < (C 5).toNat → K' 7 s = K 7 s ∧ ad' 7 s = ad 7 s := fun s h => hu 7 s (Or.inr (Or.inr (Or.inr (Or.inr (Or.inr (Or.inr (Or.inr (Or.inr (Or.inr (Or.inr (Or.inr (Or.inl ⟨rfl, h⟩))))))))))))
  have u8 : ∀ s, lvl C s → K' 8 s = K 8 s ∧ ad' 8 s = ad 8 s := fun s h => hu 8 s (Or.inr (Or.inr (Or.inr (Or.inr (Or.inr (Or.inr (Or.inr (Or.inr (Or.inr (Or.inr (Or.inr (Or.inr (Or.inl ⟨rfl, h⟩)))))))))))))
  have u10 : ∀ s, lvl C s → K' 10 s = K 10 s ∧ ad' 10 s = ad 10 s := fun s h => hu 10 s (Or.inr (Or.inr (Or.inr (Or.inr (Or.inr (Or.inr (Or.inr (Or.inr (Or.inr (Or.inr (Or.inr (Or.inr (Or.inr ⟨rfl, h⟩)))))))))))))
  refine ⟨?_, ?_, fun s hs => ?_, fun s hs => ?_, fun o ho => ?_, fun t ht => ?_, fun t ht => ?_, fun t k ht hk => ?_, fun t k ht hk => ?_, fun q hq => ?_, fun id hi => ?_, ?_, g13, g14, g15, g16, g17⟩
  · rw [u0.1, g1]
    unfold sCell
    rw [u14.2, (u8 0 (by unfold lvl; omega)).2, (u8 1 (by unfold lvl; omega)).2, u1.2]
  · obtain ⟨R, h1, h2⟩ := g2
    exact ⟨R, u14.1.trans h1, fun s hs => by rw [(u2 s hs).2]; exact h2 s hs⟩
  · rw [(u2 s hs).1, g3 s hs]
    unfold siCell
    rw [(u11 s hs).2, (u8 (2 + 2 * s) (by unfold lvl; omega)).2, (u8 (3 + 2 * s) (by unfold lvl; omega)).2]
  · rw [(u11 s hs).1, g4 s hs]
  · rw [(u3 o ho).1, g5 o ho]
    unfold itCell
    rw [(u8 (20 + 2 * o) (by unfold lvl; omega)).2, (u8 (21 + 2 * o) (by unfold lvl; omega)).2]
  · rw [(u4 t ht).1, g6 t ht]
    unfold trCell
    rw [(u12 t ht).2, (u8 (500 + 2 * t) (by unfold lvl; omega)).2, (u8 (501 + 2 * t) (by unfold lvl; omega)).2]
  · rw [(u12 t ht).1, g7 t ht]
  · rw [(u5 t k ht hk).1, g8 t k ht hk]
    unfold wrCell
    rw [(u4 t ht).2, (u3 _ (lt.1 t k ht hk).2).2]
  · rw [(u6 t k ht hk).1, g9 t k ht hk]
    unfold chCell
    rw [(u4 t ht).2, (u3 _ (lt.2.1 t k ht hk).2).2]
  · rw [(u7 q hq).1, g10 q hq]
    unfold msCell
    rw [(u4 _ (hm q hq)).2]
  · obtain ⟨c, G, v1, v2, v3, v4, v5, v6, v7⟩ := g11 id hi
    refine ⟨c, G, ?_, fun h => ?_, v3, v4, v5, fun j x hx => ?_, fun x hx => ?_⟩
    · rw [(u8 id hi).1, v1, (u10 id hi).2]
    · rw [(u10 id hi).1]; exact v2 h
    · rw [(hu _ _ (hL id x hi (List.mem_of_getElem? hx))).2]
      exact v6 j x hx
    · rw [(hu _ _ (hL id x hi hx)).1]
      exact v7 x hx
  · obtain ⟨h1, h2, h3, h4⟩ := g12
    rw [u1.1, u130.1, u131.1]
    refine ⟨?_, h2, h3, h4⟩
    rw [h1]
    unfold tyCell
    rw [u130.2, u131.2]
theorem CI.lsw {z id c' x t : Nat} {ad' : AD} {K' : KK} (g : CI ad K z C A I F Ls cp) (hid : id = 500 + 2 * t) (ht3 : t < 500) (hx0 : K 5 x = some (wrCell ad A I t x)) (hK : ∀ k i, ¬ (k = 8 ∧ i = id) → ¬ (k = 10 ∧ i = id) → K' k i = K k i) (hA : ∀ k i, ¬ (k = 10 ∧ i = id) → ad' k i = ad k i) (v : LX ad' K' z id (kd id) (Ls id ++ [x]) c') : CI ad' K' z C A I F (up Ls id (Ls id ++ [x])) (up cp id c') := by
  obtain ⟨g1, g2, g3, g4, g5, g6, g7, g8, g9, g10, g11, g12, g13, g14, g15, g16, g17⟩ := g
  have eK : ∀ k i, ¬ k = 8 → ¬ k = 10 → K' k i = K k i := fun k i h1 h2 => hK k i (fun q => h1 q.1) (fun q => h2 q.1)
  have eA : ∀ k i, ¬ k = 10 → ad' k i = ad k i := fun k i h1 => hA k i (fun q => h1 q.1)
  refine ⟨?_, ?_, fun s hs => ?_, fun s hs => ?_, fun o ho => ?_, fun t' ht => ?_, fun t' ht => ?_, fun t' k ht hk => ?_, fun t' k ht hk => ?_, fun q hq => ?_, fun id' hi' => ?_, ?_, ?_, ?_, g15, g16, g17⟩
  · rw [eK 0 0 (by decide) (by decide), g1]
    unfold sCell
    rw [eA 14 0 (by decide), eA 8 0 (by decide), eA 8 1 (by decide), eA 1 0 (by decide)]
  · obtain ⟨R, h1, h2⟩ := g2
    exact ⟨R, (eK 14 0 (by decide) (by decide)).trans h1, fun s hs => by rw [eA 2 s (by decide)]; exact h2 s hs⟩
  · rw [eK 2 s (by decide) (by decide), g3 s hs]
    unfold siCell
    rw [eA 11 s (by decide), eA 8 (2 + 2 * s) (by decide), eA 8 (3 + 2 * s) (by decide)]
  · rw [eK 11 s (by decide) (by decide), g4 s hs]
  · rw [eK 3 o (by decide) (by decide), g5 o ho]
    unfold itCell
    rw [eA 8 (20 + 2 * o) (by decide), eA 8 (21 + 2 * o) (by decide)]
  · rw [eK 4 t' (by decide) (by decide), g6 t' ht]
    unfold trCell
    rw [eA 12 t' (by decide), eA 8 (500 + 2 * t') (by decide), eA 8 (501 + 2 * t') (by decide)]
  · rw [eK 12 t' (by decide) (by decide), g7 t' ht]
  · have hkk : K 5 k = some (wrCell ad A I t' k) := by
      by_cases hn : 500 + 2 * t' = id
      · rw [hn, up_s] at hk
        have e : t' = t := by omega
        subst e
        rcases List.mem_append.mp hk with q | q
        · exact g8 t' k ht (by rw [hn]; exact q)
        · rw [List.mem_singleton.mp q]; exact hx0
      · rw [up_n hn] at hk
        exact g8 t' k ht hk
    rw [eK 5 k (by decide) (by decide), hkk]
    unfold wrCell
    rw [eA 4 t' (by decide), eA 3 _ (by decide)]
  · rw [up_n (by omega)] at hk
    rw [eK 6 k (by decide) (by decide), g9 t' k ht hk]
    unfold chCell
    rw [eA 4 t' (by decide), eA 3 _ (by decide)]
  · rw [eK 7 q (by decide) (by decide), g10 q hq]
    unfold msCell
    rw [eA 4 _ (by decide)]
  · by_cases hn : id' = id
    · subst hn
      rw [up_s, up_s]
      exact v
    · rw [up_n hn, up_n hn]
      exact (g11 id' hi').oth hn (kd_lt id').2 hK hA
  · obtain ⟨h1, h2, h3, h4⟩ := g12
    rw [up_n (show ¬ 2000 = id by omega), eK 1 0 (by decide) (by decide), eK 13 0 (by decide) (by decide), eK 13 1 (by decide) (by decide)]
    refine ⟨?_, h2, h3, h4⟩
    rw [h1]
    unfold tyCell
    rw [eA 13 0 (by decide), eA 13 1 (by decide)]
  · rw [up_n (by omega)]
    exact g13
  · rw [up_n (by omega)]
    exact g14
theorem CI.lsc {z id c' x t : Nat} {ad' : AD} {K' : KK} (g : CI ad K z C A I F Ls cp) (hid : id = 501 + 2 * t) (ht3 : t < 500) (hx0 : K 6 x = some (chCell ad A t x)) (hK : ∀ k i, ¬ (k = 8 ∧ i = id) → ¬ (k = 10 ∧ i = id) → K' k i = K k i) (hA : ∀ k i, ¬ (k = 10 ∧ i = id) → ad' k i = ad k i) (v : LX ad' K' z id (kd id) (Ls id ++ [x]) c') : CI ad' K' z C A I F (up Ls id (Ls id ++ [x])) (up cp id c') := by
  obtain ⟨g1, g2, g3, g4, g5, g6, g7, g8, g9, g10, g11, g12, g13, g14, g15, g16, g17⟩ := g
  have eK : ∀ k i, ¬ k = 8 → ¬ k = 10 → K' k i = K k i := fun k i h1 h2 => hK k i (fun q => h1 q.1) (fun q => h2 q.1)
  have eA : ∀ k i, ¬ k = 10 → ad' k i = ad k i := fun k i h1 => hA k i (fun q => h1 q.1)
  refine ⟨?_, ?_, fun s hs => ?_, fun s hs => ?_, fun o ho => ?_, fun t' ht => ?_, fun t' ht => ?_, fun t' k ht hk => ?_, fun t' k ht hk => ?_, fun q hq => ?_, fun id' hi' => ?_, ?_, ?_, ?_, g15, g16, g17⟩
  · rw [eK 0 0 (by decide) (by decide), g1]
    unfold sCell
    rw [eA 14 0 (by decide), eA 8 0 (by decide), eA 8 1 (by decide), eA 1 0 (by decide)]
  · obtain ⟨R, h1, h2⟩ := g2
    exact ⟨R, (eK 14 0 (by decide) (by decide)).trans h1, fun s hs => by rw [eA 2 s (by decide)]; exact h2 s hs⟩
  · rw [eK 2 s (by decide) (by decide), g3 s hs]
    unfold siCell
    rw [eA 11 s (by decide), eA 8 (2 + 2 * s) (by decide), eA 8 (3 + 2 * s) (by decide)]
  · rw [eK 11 s (by decide) (by decide), g4 s hs]
  · rw [eK 3 o (by decide) (by decide), g5 o ho]
    unfold itCell
    rw [eA 8 (20 + 2 * o) (by decide), eA 8 (21 + 2 * o) (by decide)]
  · rw [eK 4 t' (by decide) (by decide), g6 t' ht]
    unfold trCell
    rw [eA 12 t' (by decide), eA 8 (500 + 2 * t') (by decide), eA 8 (501 + 2 * t') (by decide)]
  · rw [eK 12 t' (by decide) (by decide), g7 t' ht]
  · rw [up_n (by omega)] at hk
    rw [eK 5 k (by decide) (by decide), g8 t' k ht hk]
    unfold wrCell
    rw [eA 4 t' (by decide), eA 3 _ (by decide)]
  · have hkk : K 6 k = some (chCell ad A t' k) := by
      by_cases hn : 501 + 2 * t' = id
      · rw [hn, up_s] at hk
        have e : t' = t := by omega
        subst e
        rcases List.mem_append.mp hk with q | q
        · exact g9 t' k ht (by rw [hn]; exact q)
        · rw [List.mem_singleton.mp q]; exact hx0
      · rw [up_n hn] at hk
        exact g9 t' k ht hk
    rw [eK 6 k (by decide) (by decide), hkk]
    unfold chCell
    rw [eA 4 t' (by decide), eA 3 _ (by decide)]
  · rw [eK 7 q (by decide) (by decide), g10 q hq]
    unfold msCell
    rw [eA 4 _ (by decide)]
  · by_cases hn : id' = id
    · subst hn
      rw [up_s, up_s]
      exact v
    · rw [up_n hn, up_n hn]
      exact (g11 id' hi').oth hn (kd_lt id').2 hK hA
  · obtain ⟨h1, h2, h3, h4⟩ := g12
    rw [up_n (show ¬ 2000 = id by omega), eK 1 0 (by decide) (by decide), eK 13 0 (by decide) (by decide), eK 13 1 (by decide) (by decide)]
    refine ⟨?_, h2, h3, h4⟩
    rw [h1]
    unfold tyCell
    rw [eA 13 0 (by decide), eA 13 1 (by decide)]
  · rw [up_n (by omega)]
    exact g13
  · rw [up_n (by omega)]
    exact g14
end C29
