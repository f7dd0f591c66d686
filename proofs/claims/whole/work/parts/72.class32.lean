section C32
variable {ad : AD} {ow : OW} {K : KK} {h : AH} {C : Nat → Int} {A I : Nat → Nat → Int} {F : Nat → Nat → Nat → Int} {Ls : Nat → List Nat} {cp : Nat → Nat} {Q : AR → AH → Prop}
theorem CI.obj {z c' o : Nat} {ad' : AD} {K' : KK} (g : CI ad K z C A I F Ls cp) (b2 : 0 ≤ C 2 ∧ C 2 < 200) (eo : o = (C 2).toNat) (hi : K 3 o = some (itCell ad A o)) (e1 : K 8 (20 + 2 * o) = some (lcell z 0 0)) (e2 : K 8 (21 + 2 * o) = some (lcell z 0 0)) (l1 : Ls (20 + 2 * o) = []) (l2 : Ls (21 + 2 * o) = []) (c1 : cp (20 + 2 * o) = 0) (c2 : cp (21 + 2 * o) = 0) (hK : ∀ k i, ¬ (k = 8 ∧ i = 0) → ¬ (k = 10 ∧ i = 0) → K' k i = K k i) (hA : ∀ k i, ¬ (k = 10 ∧ i = 0) → ad' k i = ad k i) (v : LX ad' K' z 0 3 (Ls 0 ++ [o]) c') : CI ad' K' z (up C 2 (C 2 + 1)) A I F (up Ls 0 (Ls 0 ++ [o])) (up cp 0 c') := by
  obtain ⟨g1, g2, g3, g4, g5, g6, g7, g8, g9, g10, g11, g12, g13, g14, g15, g16, g17⟩ := g
  have eK : ∀ k i, ¬ k = 8 → ¬ k = 10 → K' k i = K k i := fun k i h1 h2 => hK k i (fun q => h1 q.1) (fun q => h2 q.1)
  have eA : ∀ k i, ¬ k = 10 → ad' k i = ad k i := fun k i h1 => hA k i (fun q => h1 q.1)
  refine ⟨?_, ?_, fun s hs => ?_, fun s hs => ?_, fun o' ho => ?_, fun t' ht => ?_, fun t' ht => ?_, fun t' k ht hk => ?_, fun t' k ht hk => ?_, fun q hq => ?_, fun id' hi' => ?_, ?_, ?_, ?_, fun s u h1 h2 => ?_, fun t' u h1 h2 => ?_, fun t' h1 => ?_⟩
  · rw [eK 0 0 (by decide) (by decide), g1]
    unfold sCell
    rw [eA 14 0 (by decide), eA 8 0 (by decide), eA 8 1 (by decide), eA 1 0 (by decide)]
    rfl
  · obtain ⟨R, h1, h2⟩ := g2
    exact ⟨R, (eK 14 0 (by decide) (by decide)).trans h1, fun s hs => by rw [eA 2 s (by decide)]; exact h2 s hs⟩
  · rw [eK 2 s (by decide) (by decide), g3 s hs]
    unfold siCell
    rw [eA 11 s (by decide), eA 8 (2 + 2 * s) (by decide), eA 8 (3 + 2 * s) (by decide)]
  · rw [eK 11 s (by decide) (by decide), g4 s hs]
    rfl
  · have hit : K 3 o' = some (itCell ad A o') := by
      by_cases hn : o' = o
      · rw [hn]; exact hi
      · exact g5 o' (by have ho : o' < (C 2 + 1).toNat := ho; omega)
    rw [eK 3 o' (by decide) (by decide), hit]
    unfold itCell
    rw [eA 8 (20 + 2 * o') (by decide), eA 8 (21 + 2 * o') (by decide)]
  · rw [eK 4 t' (by decide) (by decide), g6 t' ht]
    unfold trCell
    rw [eA 12 t' (by decide), eA 8 (500 + 2 * t') (by decide), eA 8 (501 + 2 * t') (by decide)]
  · rw [eK 12 t' (by decide) (by decide), g7 t' ht]
    rfl
  · rw [up_n (by omega)] at hk
    rw [eK 5 k (by decide) (by decide), g8 t' k ht hk]
    unfold wrCell
    rw [eA 4 t' (by decide), eA 3 _ (by decide)]
  · rw [up_n (by omega)] at hk
    rw [eK 6 k (by decide) (by decide), g9 t' k ht hk]
    unfold chCell
    rw [eA 4 t' (by decide), eA 3 _ (by decide)]
  · rw [eK 7 q (by decide) (by decide), g10 q hq]
    unfold msCell
    rw [eA 4 _ (by decide)]
  · have hi' : lvl (up C 2 (C 2 + 1)) id' := hi'
    have emp : ∀ id2 ek c2, K 8 id2 = some (lcell z 0 0) → ¬ id2 = 0 → c2 = 0 → LX ad' K' z id2 ek [] c2 := fun id2 ek c2 h8 hn e0 => by
      subst e0
      refine ⟨0, fun _ => none, ?_, fun q => absurd rfl q, Nat.le_refl _, Or.inl rfl, by decide, fun j x hx => ?_, fun x hx => ?_⟩
      · rw [hK 8 id2 (fun q => hn q.2) (by omega), h8]; rfl
      · exact absurd hx (by simp)
      · exact absurd hx (List.not_mem_nil)
    by_cases hn : id' = 0
    · subst hn
      rw [up_s, up_s]
      exact v
    · rw [up_n hn, up_n hn]
      by_cases h1 : id' = 20 + 2 * o
      · rw [h1, l1]; exact emp _ _ _ e1 (by omega) c1
      by_cases h2 : id' = 21 + 2 * o
      · rw [h2, l2]; exact emp _ _ _ e2 (by omega) c2
      have h3 : lvl C id' := by
        have q1 : up C 2 (C 2 + 1) 1 = C 1 := rfl
        have q2 : up C 2 (C 2 + 1) 2 = C 2 + 1 := rfl
        have q3 : up C 2 (C 2 + 1) 3 = C 3 := rfl
        unfold lvl at hi' ⊢
        rw [q1, q2, q3] at hi'
        omega
      exact (g11 id' h3).oth hn (kd_lt id').2 hK hA
  · obtain ⟨h1, h2, h3, h4⟩ := g12
    rw [up_n (by decide), eK 1 0 (by decide) (by decide), eK 13 0 (by decide) (by decide), eK 13 1 (by decide) (by decide)]
    refine ⟨?_, h2, h3, h4⟩
    rw [h1]
    unfold tyCell
    rw [eA 13 0 (by decide), eA 13 1 (by decide)]
  · show up Ls 0 (Ls 0 ++ [o]) 0 = List.range _
    rw [up_s, g13, show (up C 2 (C 2 + 1) 2).toNat = o + 1 from (by show (C 2 + 1).toNat = o + 1; omega), List.range_succ, eo]
  · rw [up_n (by decide)]
    exact g14
  · exact g15 s u h1 h2
  · exact g16 t' u h1 h2
  · exact g17 t' h1
theorem CI.beg {z c' t : Nat} {ad' : AD} {K' : KK} (g : CI ad K z C A I F Ls cp) (b3 : 0 ≤ C 3 ∧ C 3 < 500) (et : t = (C 3).toNat) (hi : K 4 t = some (trCell ad A I t)) (hi2 : K 12 t = some (inCell (C 1).toNat (F 1 t))) (e1 : K 8 (500 + 2 * t) = some (lcell z 0 0)) (e2 : K 8 (501 + 2 * t) = some (lcell z 0 0)) (l1 : Ls (500 + 2 * t) = []) (l2 : Ls (501 + 2 * t) = []) (c1 : cp (500 + 2 * t) = 0) (c2 : cp (501 + 2 * t) = 0) (f1 : ∀ u, u < (C 1).toNat → F 1 t u = A 6 (6 * t + u)) (a3 : A 3 t < C 1) (hK : ∀ k i, ¬ (k = 8 ∧ i = 1) → ¬ (k = 10 ∧ i = 1) → K' k i = K k i) (hA : ∀ k i, ¬ (k = 10 ∧ i = 1) → ad' k i = ad k i) (v : LX ad' K' z 1 4 (Ls 1 ++ [t]) c') : CI ad' K' z (up C 3 (C 3 + 1)) A I F (up Ls 1 (Ls 1 ++ [t])) (up cp 1 c') := by
  obtain ⟨g1, g2, g3, g4, g5, g6, g7, g8, g9, g10, g11, g12, g13, g14, g15, g16, g17⟩ := g
  have eK : ∀ k i, ¬ k = 8 → ¬ k = 10 → K' k i = K k i := fun k i h1 h2 => hK k i (fun q => h1 q.1) (fun q => h2 q.1)
  have eA : ∀ k i, ¬ k = 10 → ad' k i = ad k i := fun k i h1 => hA k i (fun q => h1 q.1)
  refine ⟨?_, ?_, fun s hs => ?_, fun s hs => ?_, fun o' ho => ?_, fun t' ht => ?_, fun t' ht => ?_, fun t' k ht hk => ?_, fun t' k ht hk => ?_, fun q hq => ?_, fun id' hi' => ?_, ?_, ?_, ?_, fun s u h1 h2 => ?_, fun t' u h1 h2 => ?_, fun t' h1 => ?_⟩
  · rw [eK 0 0 (by decide) (by decide), g1]
    unfold sCell
    rw [eA 14 0 (by decide), eA 8 0 (by decide), eA 8 1 (by decide), eA 1 0 (by decide)]
    rfl
  · obtain ⟨R, h1, h2⟩ := g2
    exact ⟨R, (eK 14 0 (by decide) (by decide)).trans h1, fun s hs => by rw [eA 2 s (by decide)]; exact h2 s hs⟩
  · rw [eK 2 s (by decide) (by decide), g3 s hs]
    unfold siCell
    rw [eA 11 s (by decide), eA 8 (2 + 2 * s) (by decide), eA 8 (3 + 2 * s) (by decide)]
  · rw [eK 11 s (by decide) (by decide), g4 s hs]
    rfl
  · rw [eK 3 o' (by decide) (by decide), g5 o' ho]
    unfold itCell
    rw [eA 8 (20 + 2 * o') (by decide), eA 8 (21 + 2 * o') (by decide)]
  · have hit : K 4 t' = some (trCell ad A I t') := by
      by_cases hn : t' = t
      · rw [hn]; exact hi
      · exact g6 t' (by have ht : t' < (C 3 + 1).toNat := ht; omega)
    rw [eK 4 t' (by decide) (by decide), hit]
    unfold trCell
    rw [eA 12 t' (by decide), eA 8 (500 + 2 * t') (by decide), eA 8 (501 + 2 * t') (by decide)]
  · have hit : K 12 t' = some (inCell (C 1).toNat (F 1 t')) := by
      by_cases hn : t' = t
      · rw [hn]; exact hi2
      · exact g7 t' (by have ht : t' < (C 3 + 1).toNat := ht; omega)
    rw [eK 12 t' (by decide) (by decide), hit]
    rfl
  · rw [up_n (by omega)] at hk
    have hn : ¬ t' = t := fun q => by rw [q, l1] at hk; exact absurd hk (List.not_mem_nil)
    rw [eK 5 k (by decide) (by decide), g8 t' k (by have ht : t' < (C 3 + 1).toNat := ht; omega) hk]
    unfold wrCell
    rw [eA 4 t' (by decide), eA 3 _ (by decide)]
  · rw [up_n (by omega)] at hk
    have hn : ¬ t' = t := fun q => by rw [q, l2] at hk; exact absurd hk (List.not_mem_nil)
    rw [eK 6 k (by decide) (by decide), g9 t' k (by have ht : t' < (C 3 + 1).toNat := ht; omega) hk]
    unfold chCell
    rw [eA 4 t' (by decide), eA 3 _ (by decide)]
  · rw [eK 7 q (by decide) (by decide), g10 q hq]
    unfold msCell
    rw [eA 4 _ (by decide)]
  · have hi' : lvl (up C 3 (C 3 + 1)) id' := hi'
    have emp : ∀ id2 ek c2, K 8 id2 = some (lcell z 0 0) → ¬ id2 = 1 → c2 = 0 → LX ad' K' z id2 ek [] c2 := fun id2 ek c2 h8 hn e0 => by
      subst e0
      refine ⟨0, fun _ => none, ?_, fun q => absurd rfl q, Nat.le_refl _, Or.inl rfl, by decide, fun j x hx => ?_, fun x hx => ?_⟩
      · rw [hK 8 id2 (fun q => hn q.2) (by omega), h8]; rfl
      · exact absurd hx (by simp)
      · exact absurd hx (List.not_mem_nil)
    by_cases hn : id' = 1
    · subst hn
      rw [up_s, up_s]
      exact v
    · rw [up_n hn, up_n hn]
      by_cases h1 : id' = 500 + 2 * t
      · rw [h1, l1]; exact emp _ _ _ e1 (by omega) c1
      by_cases h2 : id' = 501 + 2 * t
      · rw [h2, l2]; exact emp _ _ _ e2 (by omega) c2
      have h3 : lvl C id' := by
        have q1 : up C 3 (C 3 + 1) 1 = C 1 := rfl
        have q2 : up C 3 (C 3 + 1) 2 = C 2 := rfl
        have q3 : up C 3 (C 3 + 1) 3 = C 3 + 1 := rfl
        unfold lvl at hi' ⊢
        rw [q1, q2, q3] at hi'
        omega
      exact (g11 id' h3).oth hn (kd_lt id').2 hK hA
  · obtain ⟨h1, h2, h3, h4⟩ := g12
    rw [up_n (by decide), eK 1 0 (by decide) (by decide), eK 13 0 (by decide) (by decide), eK 13 1 (by decide) (by decide)]
    refine ⟨?_, h2, h3, h4⟩
    rw [h1]
    unfold tyCell
    rw [eA 13 0 (by decide), eA 13 1 (by decide)]
  · rw [up_n (by decide)]
    exact g13
  · show up Ls 1 (Ls 1 ++ [t]) 1 = List.range _
    rw [up_s, g14, show (up C 3 (C 3 + 1) 3).toNat = t + 1 from (by show (C 3 + 1).toNat = t + 1; omega), List.range_succ, et]
  · exact g15 s u h1 h2
  · by_cases hn : t' = t
    · rw [hn]; exact f1 u h2
    · exact g16 t' u (by have h1 : t' < (C 3 + 1).toNat := h1; omega) h2
  · by_cases hn : t' = t
    · rw [hn]; exact a3
    · exact g17 t' (by have h1 : t' < (C 3 + 1).toNat := h1; omega)
end C32
