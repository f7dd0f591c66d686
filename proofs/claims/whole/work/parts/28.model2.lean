/-- the bounds of the reference's memory -/
def RB (C : Nat → Int) (A : Nat → Nat → Int) : Prop := (0 ≤ C 1 ∧ C 1 ≤ 6) ∧ (0 ≤ C 2 ∧ C 2 ≤ 200) ∧ (0 ≤ C 3 ∧ C 3 ≤ 500) ∧ (0 ≤ C 4 ∧ C 4 ≤ 4000) ∧ (0 ≤ C 5 ∧ C 5 ≤ 15000) ∧ (0 ≤ C 6 ∧ C 6 ≤ 1000) ∧
  (∀ j, 0 ≤ A 0 j ∧ A 0 j < 6) ∧ (∀ j, -1 ≤ A 1 j ∧ A 1 j < 500) ∧ (∀ j, A 2 j = 0 ∨ A 2 j = 1) ∧ (∀ j, 0 ≤ A 3 j ∧ A 3 j < 6) ∧ (∀ j, 0 ≤ A 4 j ∧ A 4 j ≤ 3) ∧ (∀ j, 0 ≤ A 5 j ∧ A 5 j ≤ 500) ∧ (∀ j, 0 ≤ A 6 j ∧ A 6 j ≤ 500) ∧ (∀ j, 0 ≤ A 7 j ∧ A 7 j ≤ 10) ∧ (∀ j, 0 ≤ A 8 j ∧ A 8 j ≤ 10) ∧ (∀ j, 0 ≤ A 9 j ∧ A 9 j < 500) ∧ (∀ j, 0 ≤ A 10 j ∧ A 10 j < 200) ∧ (∀ j, -1 ≤ A 11 j ∧ A 11 j ≤ 1) ∧ (∀ j, inL (A 12 j)) ∧ (∀ j, 0 ≤ A 13 j ∧ A 13 j ≤ 500) ∧ (∀ j, 0 ≤ A 14 j ∧ A 14 j ≤ 500) ∧ (∀ j, 0 ≤ A 16 j ∧ A 16 j < 6) ∧ (∀ j, 0 ≤ A 17 j ∧ A 17 j < 6) ∧ (∀ j, 0 ≤ A 18 j ∧ A 18 j ≤ 5) ∧ (∀ j, 0 ≤ A 19 j ∧ A 19 j < 500) ∧ (∀ j, 0 ≤ A 20 j ∧ A 20 j < 500) ∧ (∀ j, 0 ≤ A 21 j ∧ A 21 j ≤ 500)
section RBs
variable {C : Nat → Int} {A : Nat → Nat → Int}
theorem RB.c1 (b : RB C A) : 0 ≤ C 1 ∧ C 1 ≤ 6 := b.1
theorem RB.c2 (b : RB C A) : 0 ≤ C 2 ∧ C 2 ≤ 200 := b.2.1
theorem RB.c3 (b : RB C A) : 0 ≤ C 3 ∧ C 3 ≤ 500 := b.2.2.1
theorem RB.c4 (b : RB C A) : 0 ≤ C 4 ∧ C 4 ≤ 4000 := b.2.2.2.1
theorem RB.c5 (b : RB C A) : 0 ≤ C 5 ∧ C 5 ≤ 15000 := b.2.2.2.2.1
theorem RB.c6 (b : RB C A) : 0 ≤ C 6 ∧ C 6 ≤ 1000 := b.2.2.2.2.2.1
theorem RB.v0 (b : RB C A) (j : Nat) : 0 ≤ A 0 j ∧ A 0 j < 6 := b.2.2.2.2.2.2.1 j
theorem RB.v1 (b : RB C A) (j : Nat) : -1 ≤ A 1 j ∧ A 1 j < 500 := b.2.2.2.2.2.2.2.1 j
theorem RB.v2 (b : RB C A) (j : Nat) : A 2 j = 0 ∨ A 2 j = 1 := b.2.2.2.2.2.2.2.2.1 j
theorem RB.v3 (b : RB C A) (j : Nat) : 0 ≤ A 3 j ∧ A 3 j < 6 := b.2.2.2.2.2.2.2.2.2.1 j
theorem RB.v4 (b : RB C A) (j : Nat) : 0 ≤ A 4 j ∧ A 4 j ≤ 3 := b.2.2.2.2.2.2.2.2.2.2.1 j
theorem RB.v5 (b : RB C A) (j : Nat) : 0 ≤ A 5 j ∧ A 5 j ≤ 500 := b.2.2.2.2.2.2.2.2.2.2.2.1 j
theorem RB.v6 (b : RB C A) (j : Nat) : 0 ≤ A 6 j ∧ A 6 j ≤ 500 := b.2.2.2.2.2.2.2.2.2.2.2.2.1 j
theorem RB.v7 (b : RB C A) (j : Nat) : 0 ≤ A 7 j ∧ A 7 j ≤ 10 := b.2.2.2.2.2.2.2.2.2.2.2.2.2.1 j
theorem RB.v8 (b : RB C A) (j : Nat) : 0 ≤ A 8 j ∧ A 8 j ≤ 10 := b.2.2.2.2.2.2.2.2.2.2.2.2.2.2.1 j
theorem RB.v9 (b : RB C A) (j : Nat) : 0 ≤ A 9 j ∧ A 9 j < 500 := b.2.2.2.2.2.2.2.2.2.2.2.2.2.2.2.1 j
theorem RB.v10 (b : RB C A) (j : Nat) : 0 ≤ A 10 j ∧ A 10 j < 200 := b.2.2.2.2.2.2.2.2.2.2.2.2.2.2.2.2.1 j
theorem RB.v11 (b : RB C A) (j : Nat) : -1 ≤ A 11 j ∧ A 11 j ≤ 1 := b.2.2.2.2.2.2.2.2.2.2.2.2.2.2.2.2.2.1 j
theorem RB.v12 (b : RB C A) (j : Nat) : inL (A 12 j) := b.2.2.2.2.2.2.2.2.2.2.2.2.2.2.2.2.2.2.1 j
theorem RB.v13 (b : RB C A) (j : Nat) : 0 ≤ A 13 j ∧ A 13 j ≤ 500 := b.2.2.2.2.2.2.2.2.2.2.2.2.2.2.2.2.2.2.2.1 j
theorem RB.v14 (b : RB C A) (j : Nat) : 0 ≤ A 14 j ∧ A 14 j ≤ 500 := b.2.2.2.2.2.2.2.2.2.2.2.2.2.2.2.2.2.2.2.2.1 j
theorem RB.v16 (b : RB C A) (j : Nat) : 0 ≤ A 16 j ∧ A 16 j < 6 := b.2.2.2.2.2.2.2.2.2.2.2.2.2.2.2.2.2.2.2.2.2.1 j
theorem RB.v17 (b : RB C A) (j : Nat) : 0 ≤ A 17 j ∧ A 17 j < 6 := b.2.2.2.2.2.2.2.2.2.2.2.2.2.2.2.2.2.2.2.2.2.2.1 j
theorem RB.v18 (b : RB C A) (j : Nat) : 0 ≤ A 18 j ∧ A 18 j ≤ 5 := b.2.2.2.2.2.2.2.2.2.2.2.2.2.2.2.2.2.2.2.2.2.2.2.1 j
theorem RB.v19 (b : RB C A) (j : Nat) : 0 ≤ A 19 j ∧ A 19 j < 500 := b.2.2.2.2.2.2.2.2.2.2.2.2.2.2.2.2.2.2.2.2.2.2.2.2.1 j
theorem RB.v20 (b : RB C A) (j : Nat) : 0 ≤ A 20 j ∧ A 20 j < 500 := b.2.2.2.2.2.2.2.2.2.2.2.2.2.2.2.2.2.2.2.2.2.2.2.2.2.1 j
theorem RB.v21 (b : RB C A) (j : Nat) : 0 ≤ A 21 j ∧ A 21 j ≤ 500 := b.2.2.2.2.2.2.2.2.2.2.2.2.2.2.2.2.2.2.2.2.2.2.2.2.2.2 j
end RBs
section M2
variable {am : Nat} {ad : Nat → Nat} {C : Nat → Int} {A : Nat → Nat → Int} {h : AH} {Q : AR → AH → Prop}
def visB (A : Nat → Nat → Int) (c t : Nat) : Bool := decide (0 < A 5 c) && decide (A 5 c ≤ A 6 (6 * t + (A 3 c).toNat))
def wrtB (C : Nat → Int) (A : Nat → Nat → Int) (t o : Nat) : Bool := (List.range (C 4).toNat).any (fun k => decide (A 9 k = t) && decide (A 10 k = o))
theorem ret_t {b : Bool} (hb : b = true) (k : Q (.inl (some (aI (bI b)))) h) : Q (.inl (some (aI 1))) h := by subst hb; exact k
theorem ret_f {b : Bool} (hb : b = false) (k : Q (.inl (some (aI (bI b)))) h) : Q (.inl (some (aI 0))) h := by subst hb; exact k
theorem r_visible (M : MP am ad C A h) (b : RB C A) {c t : Nat} (hc : c < 500) (ht : t < 500) (k : Q (.inl (some (aI (bI (visB A c t))))) h) : Rn 114 0 (entL 114 [aR am, aI c, aI t]) [] h Q := by
  show Rn 114 0 [some (aR am), some (aI c), some (aI t)] [] h Q
  have b5 := b.v5 c
  have b3 := b.v3 c
  have b6 := b.v6 (6 * t + (A 3 c).toNat)
  have e6 : ((6 : Int) * (t : Int) + A 3 c).toNat = 6 * t + (A 3 c).toNat := by omega
  refine x_aload_n k_114_0 rfl ?_
  refine x_get k_114_1 M.1 rfl ?_
  refine x_iload_n k_114_4 rfl ?_
  refine x_iaload k_114_5 M.a5 (Or.inl rfl) (by omega) (by omega) ?_
  refine x_ifle (t := 38) k_114_6 rfl (by show inR (A 5 c); omega) (fun hb => ?_) (fun hb => ?_)
  · refine x_iconst k_114_38 ?_
    refine x_zreturn k_114_39 rfl (by first | exact Or.inl rfl | exact Or.inr rfl) ?_
    have hb : A 5 c ≤ 0 := hb
    exact ret_f (by simp [visB]; omega) k
  · have hb : ¬ A 5 c ≤ 0 := hb
    refine x_aload_n k_114_9 rfl ?_
    refine x_get k_114_10 M.1 rfl ?_
    refine x_iload_n k_114_13 rfl ?_
    refine x_iaload k_114_14 M.a5 (Or.inl rfl) (by omega) (by omega) ?_
    refine x_aload_n k_114_15 rfl ?_
    refine x_get k_114_16 M.1 rfl ?_
    refine x_bipush k_114_19 ?_
    refine x_iload_n k_114_21 rfl ?_
    refine x_imul k_114_22 ?_
    refine x_aload_n k_114_23 rfl ?_
    refine x_get k_114_24 M.1 rfl ?_
    refine x_iload_n k_114_27 rfl ?_
    refine x_iaload k_114_28 M.a3 (Or.inl rfl) (by omega) (by omega) ?_
    refine x_iadd k_114_29 ?_
    refine x_iaload k_114_30 M.a6 (Or.inl rfl) (by show (0 : Int) ≤ 6 * (t : Int) + A 3 c; omega) (by show 6 * (t : Int) + A 3 c < 3000; omega) ?_
    refine x_icmpgt (t := 38) k_114_31 rfl ⟨by show inR (A 5 c); omega, by show inR (A 6 ((6 : Int) * (t : Int) + A 3 c).toNat); rw [e6]; omega⟩ (fun hb => ?_) (fun hb => ?_)
    · refine x_iconst k_114_38 ?_
      refine x_zreturn k_114_39 rfl (by first | exact Or.inl rfl | exact Or.inr rfl) ?_
      have hb2 : A 6 ((6 : Int) * (t : Int) + A 3 c).toNat < A 5 c := by assumption
      rw [e6] at hb2
      exact ret_f (by simp [visB]; omega) k
    · refine x_iconst k_114_34 ?_
      refine x_goto (t := 39) k_114_35 rfl ?_
      refine x_zreturn k_114_39 rfl (by first | exact Or.inl rfl | exact Or.inr rfl) ?_
      have hb2 : ¬ A 6 ((6 : Int) * (t : Int) + A 3 c).toNat < A 5 c := by assumption
      rw [e6] at hb2
      exact ret_t (by simp [visB]; omega) k
theorem lp_wrote (M : MP am ad C A h) (b : RB C A) {t o : Nat} (ht : t < 500) (ho : o < 200) (k : Q (.inl (some (aI (bI (wrtB C A t o))))) h) : ∀ n j : Nat, j + n = (C 4).toNat → (∀ q, q < j → ¬ (A 9 q = t ∧ A 10 q = o)) → Rn 112 2 [some (aR am), some (aI t), some (aI o), some (aI j)] [] h Q := by
  have c4 := b.c4
  intro n
  induction n with
  | zero =>
    intro j hj hq
    refine x_iload_n k_112_2 rfl ?_
    refine x_aload_n k_112_3 rfl ?_
    refine x_get k_112_4 M.1 rfl ?_
    refine x_icmpge (t := 38) k_112_7 rfl (by omega) (fun hb => ?_) (fun hb => ?_)
    · refine x_iconst k_112_38 ?_
      refine x_zreturn k_112_39 rfl (by first | exact Or.inl rfl | exact Or.inr rfl) ?_
      refine ret_f ?_ k
      rw [← Bool.not_eq_true]
      intro hw
      obtain ⟨q, hq1, hq2⟩ := List.any_eq_true.mp hw
      have hq1 := List.mem_range.mp hq1
      simp only [Bool.and_eq_true, decide_eq_true_eq] at hq2
      exact hq q (by omega) hq2
    · exact absurd hb (by omega)
  | succ n ih =>
    intro j hj hq
    have b9 := b.v9 j
    have b10 := b.v10 j
    refine x_iload_n k_112_2 rfl ?_
    refine x_aload_n k_112_3 rfl ?_
    refine x_get k_112_4 M.1 rfl ?_
    refine x_icmpge (t := 38) k_112_7 rfl (by omega) (fun hb => ?_) (fun hb => ?_)
    · exact absurd hb (by omega)
    · refine x_aload_n k_112_10 rfl ?_
      refine x_get k_112_11 M.1 rfl ?_
      refine x_iload_n k_112_14 rfl ?_
      refine x_iaload k_112_15 M.a9 (Or.inl rfl) (by omega) (by omega) ?_
      refine x_iload_n k_112_16 rfl ?_
      refine x_icmpne (t := 32) k_112_17 rfl (by show inR (A 9 j) ∧ inR (t : Int); omega) (fun hb => ?_) (fun hb => ?_)
      · refine x_inc3 k_112_32 rfl ?_
        refine x_goto (t := 2) k_112_35 rfl ?_
        have hb : ¬ A 9 j = t := by assumption
        refine ih (j + 1) (by omega) (fun q hq1 hq2 => ?_)
        rcases Nat.lt_or_ge q j with hz | hz
        · exact hq q hz hq2
        · rw [show q = j by omega] at hq2
          exact hb hq2.1
      · refine x_aload_n k_112_20 rfl ?_
        refine x_get k_112_21 M.1 rfl ?_
        refine x_iload_n k_112_24 rfl ?_
        refine x_iaload k_112_25 M.a10 (Or.inl rfl) (by omega) (by omega) ?_
        refine x_iload_n k_112_26 rfl ?_
        refine x_icmpne (t := 32) k_112_27 rfl (by show inR (A 10 j) ∧ inR (o : Int); omega) (fun hb => ?_) (fun hb => ?_)
        · refine x_inc3 k_112_32 rfl ?_
          refine x_goto (t := 2) k_112_35 rfl ?_
          have hb : ¬ A 10 j = o := by assumption
          refine ih (j + 1) (by omega) (fun q hq1 hq2 => ?_)
          rcases Nat.lt_or_ge q j with hz | hz
          · exact hq q hz hq2
          · rw [show q = j by omega] at hq2
            exact hb hq2.2
        · refine x_iconst k_112_30 ?_
          refine x_zreturn k_112_31 rfl (by first | exact Or.inl rfl | exact Or.inr rfl) ?_
          have h9 : ¬ ¬ A 9 j = t := by assumption
          have h10 : ¬ ¬ A 10 j = o := by assumption
          refine ret_t ?_ k
          refine List.any_eq_true.mpr ⟨j, List.mem_range.mpr (by omega), ?_⟩
          simp only [Bool.and_eq_true, decide_eq_true_eq]
          exact ⟨by omega, by omega⟩
theorem r_wrote (M : MP am ad C A h) (b : RB C A) {t o : Nat} (ht : t < 500) (ho : o < 200) (k : Q (.inl (some (aI (bI (wrtB C A t o))))) h) : Rn 112 0 (entL 112 [aR am, aI t, aI o]) [] h Q := by
  show Rn 112 0 [some (aR am), some (aI t), some (aI o), none] [] h Q
  refine x_iconst k_112_0 ?_
  refine x_is3n k_112_1 rfl ?_
  exact lp_wrote M b ht ho k (C 4).toNat 0 (by omega) (fun q hq => absurd hq (Nat.not_lt_zero q))
end M2
