section P16
variable {C C' : Nat → Int} {A A' B B' I I' : Nat → Nat → Int} {Ls Ls' : Nat → List Nat} {n : Nat}
/-- sites -/
theorem sit_step {m : Nat} (v : IV n C A I Ls) (h0 : C 1 = 0) (hm : 1 ≤ m ∧ m ≤ 6) : IV (n + 1) (up C 1 (m : Int)) A I Ls := by
  obtain ⟨b, g1, g2, g3, g4, g5, gw, g6, g7, g8, w2, w3, w4, w5⟩ := v
  have b2 := b.c2
  have b3 := b.c3
  have b4 := b.c4
  have b5 := b.c5
  have b6 := b.c6
  have q1 : up C 1 (m : Int) 1 = (m : Int) := rfl
  have q2 : up C 1 (m : Int) 2 = C 2 := rfl
  have q3 : up C 1 (m : Int) 3 = C 3 := rfl
  have q4 : up C 1 (m : Int) 4 = C 4 := rfl
  have q5 : up C 1 (m : Int) 5 = C 5 := rfl
  have q6 : up C 1 (m : Int) 6 = C 6 := rfl
  have c3 : (C 3).toNat = 0 := by
    rcases Nat.eq_zero_or_pos (C 3).toNat with z | z
    · exact z
    · have h1 := g3.2.2.2.2.2.2.1 0 z
      have h2 := b.v3 0
      omega
  have c2 : (C 2).toNat = 0 := by
    rcases Nat.eq_zero_or_pos (C 2).toNat with z | z
    · exact z
    · have h1 := g3.2.2.2.2.2.2.2 0 z
      have h2 := b.v0 0
      omega
  have c4 : (C 4).toNat = 0 := by
    rcases Nat.eq_zero_or_pos (C 4).toNat with z | z
    · exact z
    · have h1 := (g1.1 0 z).1
      omega
  have c5 : (C 5).toNat = 0 := by
    rcases Nat.eq_zero_or_pos (C 5).toNat with z | z
    · exact z
    · have h1 := (g6.2.1 0 z).1
      omega
  have c6 : C 6 = 0 := by rw [g3.2.2.2.2.2.1, c3]; rfl
  have h13 : ∀ j, A 13 j = 0 := fun j => (w2 h0 j).1
  have h21 : ∀ j, A 21 j = 0 := fun j => (w2 h0 j).2
  have h14 : ∀ s, A 14 s = 0 := fun s => by have := g3.2.2.2.2.1 s; have := b.v14 s; omega
  have em : ∀ i, 2 ≤ i → i < 20 → Ls i = [] := fun i h1 h2 => g8 i (by unfold lvl; omega)
  refine ⟨b.d1 ⟨by omega, by omega⟩, g1, g2, ⟨?_, ?_, fun s u h1 h2 => ?_, fun s h1 => ?_, g3.2.2.2.2.1, g3.2.2.2.2.2.1, fun t ht => ?_, fun o ho => ?_⟩, g4, g5, ?_, ⟨?_, g6.2.1, fun s hs => ?_⟩, ⟨fun s hs => ?_, fun s x hs hx => ?_, fun s hs => ?_⟩, fun i hi => ?_, fun h => ?_, w3, ?_, ?_⟩
  · intro t ht; exact absurd ht (by rw [q3]; omega)
  · intro t u ht; exact absurd ht (by rw [q3]; omega)
  · rw [h13, h14]; exact Int.le_refl _
  · rw [h13, h14]
  · exact absurd ht (by rw [q3]; omega)
  · exact absurd ho (by rw [q2]; omega)
  · intro t ht; exact absurd ht (by rw [q3]; omega)
  · intro q hq; exact absurd hq (by rw [q5]; omega)
  · rw [q1] at hs
    rw [q5, c5, em _ (by omega) (by omega)]
    rfl
  · rw [q1] at hs
    rw [em _ (by omega) (by omega), h21]
    rfl
  · rw [q1] at hs
    rw [em _ (by omega) (by omega)] at hx
    exact absurd hx (List.not_mem_nil)
  · rw [h21]
    show 0 + nP _ (C 5).toNat ≤ C 6
    rw [c5, c6]
    exact Int.le_refl _
  · refine g8 i (fun z => hi ?_)
    unfold lvl at z ⊢
    rw [q1, q2, q3]
    omega
  · rw [q1] at h; omega
  · rw [q2, q3, q4]; omega
  · rw [q5]; omega
end P16
