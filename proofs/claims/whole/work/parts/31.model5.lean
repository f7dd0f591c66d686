section M5
variable {am : Nat} {ad : Nat → Nat} {C : Nat → Int} {A : Nat → Nat → Int} {h : AH} {Q : AR → AH → Prop}
/-- a proposition as an int -/
noncomputable def pI (P : Prop) : Int := @ite Int P (Classical.propDecidable P) 1 0
theorem pI_1 {P : Prop} (hp : P) : pI P = 1 := by unfold pI; exact if_pos hp
theorem pI_0 {P : Prop} (hp : ¬ P) : pI P = 0 := by unfold pI; exact if_neg hp
theorem pI_01 (P : Prop) : pI P = 0 ∨ pI P = 1 := (Classical.em P).elim (fun p => Or.inr (pI_1 p)) (fun p => Or.inl (pI_0 p))
theorem x_ifeq_P {i pc len t : Nat} {L : AL} {st : List AV} {off : Int} {P : Prop} (hk : cod i pc = some (.inl (.ifCond .eq off), len)) (ht : tg pc off = t) (kt : ¬ P → Rn i t L st h Q) (kf : P → Rn i (pc + len) L st h Q) : Rn i pc L (aI (pI P) :: st) h Q :=
  x_ifeq hk ht (by have := pI_01 P; omega) (fun q => kt (fun p => by rw [pI_1 p] at q; exact absurd q (by decide))) (fun q => kf (Classical.byContradiction (fun p => q (pI_0 p))))
theorem x_ifne_P {i pc len t : Nat} {L : AL} {st : List AV} {off : Int} {P : Prop} (hk : cod i pc = some (.inl (.ifCond .ne off), len)) (ht : tg pc off = t) (kt : P → Rn i t L st h Q) (kf : ¬ P → Rn i (pc + len) L st h Q) : Rn i pc L (aI (pI P) :: st) h Q :=
  x_ifne hk ht (by have := pI_01 P; omega) (fun q => kt (Classical.byContradiction (fun p => q (pI_0 p)))) (fun q => kf (fun p => q (by rw [pI_1 p]; decide)))
theorem ret_1P {P : Prop} (hp : P) (k : Q (.inl (some (aI (pI P)))) h) : Q (.inl (some (aI 1))) h := by rw [pI_1 hp] at k; exact k
theorem ret_0P {P : Prop} (hp : ¬ P) (k : Q (.inl (some (aI (pI P)))) h) : Q (.inl (some (aI 0))) h := by rw [pI_0 hp] at k; exact k
theorem nx_all {P : Nat → Prop} {j : Nat} (hq : ∀ q, q < j → ¬ P q) (hj : ¬ P j) : ∀ q, q < j + 1 → ¬ P q := fun q h1 h2 => (Nat.lt_or_ge q j).elim (fun z => hq q z h2) (fun z => hj ((show q = j by omega) ▸ h2))
theorem up2 {A : Nat → Nat → Int} {k : Nat} {f g : Nat → Int} : up (up A k f) k g = up A k g := by funext j; unfold up; split <;> rfl
theorem upe {A : Nat → Nat → Int} {k : Nat} {f g : Nat → Int} (e : ∀ q, f q = g q) : up A k f = up A k g := by rw [show f = g from funext e]
theorem upself {A : Nat → Nat → Int} {k : Nat} {f : Nat → Int} (e : ∀ q, f q = A k q) : up A k f = A := by
  funext j
  by_cases q : j = k
  · subst q
    simp only [up, if_pos]
    exact funext e
  · simp only [up, if_neg q]
theorem MP.ce {A1 A2 : Nat → Nat → Int} (M : MP am ad C A1 h) (e : A1 = A2) : MP am ad C A2 h := e ▸ M
abbrev cfq (C : Nat → Int) (A : Nat → Nat → Int) (t o c : Nat) : Prop := ¬ c = t ∧ (0 < A 5 c ∧ A 5 c ≤ A 13 (6 * (A 0 o).toNat + (A 3 c).toNat)) ∧ visB A c t = false ∧ wrtB C A c o = true
def cflP (C : Nat → Int) (A : Nat → Nat → Int) (t o : Nat) : Prop := (0 ≤ A 1 o ∧ ¬ A 1 o = t) ∨ ∃ c, c < (C 3).toNat ∧ cfq C A t o c
abbrev wrq (C : Nat → Int) (A : Nat → Nat → Int) (t s o : Nat) : Prop := A 2 o = 0 ∧ A 0 o = s ∧ wrtB C A t o = true
def wraP (C : Nat → Int) (A : Nat → Nat → Int) (t s : Nat) : Prop := ∃ o, o < (C 2).toNat ∧ wrq C A t s o
def acfP (C : Nat → Int) (A : Nat → Nat → Int) (t s : Nat) : Prop := ∃ o, o < (C 2).toNat ∧ wrq C A t s o ∧ cflP C A t o
theorem lp_conflict (M : MP am ad C A h) (b : RB C A) {t o : Nat} (ht : t < 500) (ho : o < 200) (hl : ¬ (0 ≤ A 1 o ∧ ¬ A 1 o = t)) (k : Q (.inl (some (aI (pI (cflP C A t o))))) h) : ∀ n j : Nat, j + n = (C 3).toNat → (∀ q, q < j → ¬ cfq C A t o q) → ∀ z : Option AV, Rn 129 31 [some (aR am), some (aI ((t : Int))), some (aI ((o : Int))), some (aI (A 0 o)), some (aI ((j : Int))), z] [] h Q := by
  intro n
  induction n using Nat.strongRecOn with | ind n ih => ?_
  intro j hj hq z
  have hc3 := b.c3
  have f0 := b.v0 o
  refine x_iload k_129_31 rfl ?_
  refine x_aload_n k_129_33 rfl ?_
  refine x_get k_129_34 M.1 rfl ?_
  have f34 := b.c3
  refine x_icmpge (t := 123) k_129_37 rfl (by show inR ((j : Int)) ∧ inR (C 3); omega) (fun hb => ?_) (fun hb => ?_)
  · have c37 : C 3 ≤ (j : Int) := hb
    refine x_iconst k_129_123 ?_
    refine x_zreturn k_129_124 rfl (by first | exact Or.inl rfl | exact Or.inr rfl) ?_
    exact ret_0P (fun z => z.elim (fun y => hl y) (fun ⟨q, y1, y2⟩ => hq q (by omega) y2)) k
  · have c37 : ¬ (C 3 ≤ (j : Int)) := hb
    refine x_aload_n k_129_40 rfl ?_
    refine x_get k_129_41 M.1 rfl ?_
    refine x_iload k_129_44 rfl ?_
    refine y_iaload (m := j) k_129_46 M.a5 (Or.inl rfl) rfl (by omega) ?_
    have f46 := b.v5 (j)
    refine x_ifle (t := 81) k_129_47 rfl (by show inR (A 5 j); omega) (fun hb => ?_) (fun hb => ?_)
    · have c47 : A 5 j ≤ 0 := hb
      refine x_iconst k_129_81 ?_
      refine x_is5 k_129_82 rfl ?_
      refine x_iload k_129_84 rfl ?_
      refine x_iload_n k_129_86 rfl ?_
      refine x_icmpeq (t := 117) k_129_87 rfl (by show inR ((j : Int)) ∧ inR ((t : Int)); omega) (fun hb => ?_) (fun hb => ?_)
      · have c87 : (j : Int) = (t : Int) := hb
        refine x_inc4 k_129_117 rfl ?_
        refine x_goto (t := 31) k_129_120 rfl ?_
        exact ih (n - 1) (by omega) (j + 1) (by omega) (nx_all hq (fun z => by obtain ⟨z1, ⟨z2, z3⟩, z4, z5⟩ := z; omega)) _
      · have c87 : ¬ ((j : Int) = (t : Int)) := hb
        refine x_iload k_129_90 rfl ?_
        refine x_ifeq (t := 117) k_129_92 rfl (by show inR (0); omega) (fun hb => ?_) (fun hb => ?_)
        · refine x_inc4 k_129_117 rfl ?_
          refine x_goto (t := 31) k_129_120 rfl ?_
          exact ih (n - 1) (by omega) (j + 1) (by omega) (nx_all hq (fun z => by obtain ⟨z1, ⟨z2, z3⟩, z4, z5⟩ := z; omega)) _
        · exact absurd hb (by decide)
    · have c47 : ¬ (A 5 j ≤ 0) := hb
      refine x_aload_n k_129_50 rfl ?_
      refine x_get k_129_51 M.1 rfl ?_
      refine x_iload k_129_54 rfl ?_
      refine y_iaload (m := j) k_129_56 M.a5 (Or.inl rfl) rfl (by omega) ?_
      have f56 := b.v5 (j)
      refine x_aload_n k_129_57 rfl ?_
      refine x_get k_129_58 M.1 rfl ?_
      refine x_bipush k_129_61 ?_
      refine x_iload_n k_129_63 rfl ?_
      refine x_imul k_129_64 ?_
      refine x_aload_n k_129_65 rfl ?_
      refine x_get k_129_66 M.1 rfl ?_
      refine x_iload k_129_69 rfl ?_
      refine y_iaload (m := j) k_129_71 M.a3 (Or.inl rfl) rfl (by omega) ?_
      have f71 := b.v3 (j)
      refine x_iadd k_129_72 ?_
      refine y_iaload (m := 6 * (A 0 o).toNat + (A 3 j).toNat) k_129_73 M.a13 (Or.inl rfl) (show ((6 * A 0 o) + A 3 j) = ((6 * (A 0 o).toNat + (A 3 j).toNat : Nat) : Int) by omega) (by omega) ?_
      have f73 := b.v13 (6 * (A 0 o).toNat + (A 3 j).toNat)
      refine x_icmpgt (t := 81) k_129_74 rfl (by show inR (A 5 j) ∧ inR (A 13 (6 * (A 0 o).toNat + (A 3 j).toNat)); omega) (fun hb => ?_) (fun hb => ?_)
      · have c74 : A 13 (6 * (A 0 o).toNat + (A 3 j).toNat) < A 5 j := hb
        refine x_iconst k_129_81 ?_
        refine x_is5 k_129_82 rfl ?_
        refine x_iload k_129_84 rfl ?_
        refine x_iload_n k_129_86 rfl ?_
        refine x_icmpeq (t := 117) k_129_87 rfl (by show inR ((j : Int)) ∧ inR ((t : Int)); omega) (fun hb => ?_) (fun hb => ?_)
        · have c87 : (j : Int) = (t : Int) := hb
          refine x_inc4 k_129_117 rfl ?_
          refine x_goto (t := 31) k_129_120 rfl ?_
          exact ih (n - 1) (by omega) (j + 1) (by omega) (nx_all hq (fun z => by obtain ⟨z1, ⟨z2, z3⟩, z4, z5⟩ := z; omega)) _
        · have c87 : ¬ ((j : Int) = (t : Int)) := hb
          refine x_iload k_129_90 rfl ?_
          refine x_ifeq (t := 117) k_129_92 rfl (by show inR (0); omega) (fun hb => ?_) (fun hb => ?_)
          · refine x_inc4 k_129_117 rfl ?_
            refine x_goto (t := 31) k_129_120 rfl ?_
            exact ih (n - 1) (by omega) (j + 1) (by omega) (nx_all hq (fun z => by obtain ⟨z1, ⟨z2, z3⟩, z4, z5⟩ := z; omega)) _
          · exact absurd hb (by decide)
      · have c74 : ¬ (A 13 (6 * (A 0 o).toNat + (A 3 j).toNat) < A 5 j) := hb
        refine x_iconst k_129_77 ?_
        refine x_goto (t := 82) k_129_78 rfl ?_
        refine x_is5 k_129_82 rfl ?_
        refine x_iload k_129_84 rfl ?_
        refine x_iload_n k_129_86 rfl ?_
        refine x_icmpeq (t := 117) k_129_87 rfl (by show inR ((j : Int)) ∧ inR ((t : Int)); omega) (fun hb => ?_) (fun hb => ?_)
        · have c87 : (j : Int) = (t : Int) := hb
          refine x_inc4 k_129_117 rfl ?_
          refine x_goto (t := 31) k_129_120 rfl ?_
          exact ih (n - 1) (by omega) (j + 1) (by omega) (nx_all hq (fun z => by obtain ⟨z1, ⟨z2, z3⟩, z4, z5⟩ := z; omega)) _
        · have c87 : ¬ ((j : Int) = (t : Int)) := hb
          refine x_iload k_129_90 rfl ?_
          refine x_ifeq (t := 117) k_129_92 rfl (by show inR (1); omega) (fun hb => ?_) (fun hb => ?_)
          · exact absurd hb (by decide)
          · refine x_aload_n k_129_95 rfl ?_
            refine x_iload k_129_96 rfl ?_
            refine x_iload_n k_129_98 rfl ?_
            refine x_call3 k_129_99 (Nat.le_of_ble_eq_true rfl) (rcv_1 M.1) (Nat.le_of_ble_eq_true rfl) ?_
            refine r_visible (c := j) (t := t) M b (by omega) (by omega) (bh_1 ?_)
            refine x_ifne_b (t := 117) k_129_102 rfl (fun c102 => ?_) (fun c102 => ?_)
            · refine x_inc4 k_129_117 rfl ?_
              refine x_goto (t := 31) k_129_120 rfl ?_
              exact ih (n - 1) (by omega) (j + 1) (by omega) (nx_all hq (fun z => by obtain ⟨z1, ⟨z2, z3⟩, z4, z5⟩ := z; rw [c102] at z4; cases z4)) _
            · refine x_aload_n k_129_105 rfl ?_
              refine x_iload k_129_106 rfl ?_
              refine x_iload_n k_129_108 rfl ?_
              refine x_call3 k_129_109 (Nat.le_of_ble_eq_true rfl) (rcv_1 M.1) (Nat.le_of_ble_eq_true rfl) ?_
              refine r_wrote (t := j) (o := o) M b (by omega) (by omega) (bh_1 ?_)
              refine x_ifeq_b (t := 117) k_129_112 rfl (fun c112 => ?_) (fun c112 => ?_)
              · refine x_inc4 k_129_117 rfl ?_
                refine x_goto (t := 31) k_129_120 rfl ?_
                exact ih (n - 1) (by omega) (j + 1) (by omega) (nx_all hq (fun z => by obtain ⟨z1, ⟨z2, z3⟩, z4, z5⟩ := z; rw [c112] at z5; cases z5)) _
              · refine x_iconst k_129_115 ?_
                refine x_zreturn k_129_116 rfl (by first | exact Or.inl rfl | exact Or.inr rfl) ?_
                exact ret_1P (Or.inr ⟨j, by omega, by omega, by omega, c102, c112⟩) k
theorem r_conflict (M : MP am ad C A h) (b : RB C A) {t o : Nat} (ht : t < 500) (ho : o < 200) (k : Q (.inl (some (aI (pI (cflP C A t o))))) h) : Rn 129 0 (entL 129 [aR am, aI t, aI o]) [] h Q := by
  show Rn 129 0 [some (aR am), some (aI ((t : Int))), some (aI ((o : Int))), none, none, none] [] h Q
  refine x_aload_n k_129_0 rfl ?_
  refine x_get k_129_1 M.1 rfl ?_
  refine x_iload_n k_129_4 rfl ?_
  refine y_iaload (m := o) k_129_5 M.a0 (Or.inl rfl) rfl (by omega) ?_
  have f5 := b.v0 (o)
  refine x_is3n k_129_6 rfl ?_
  refine x_aload_n k_129_7 rfl ?_
  refine x_get k_129_8 M.1 rfl ?_
  refine x_iload_n k_129_11 rfl ?_
  refine y_iaload (m := o) k_129_12 M.a1 (Or.inl rfl) rfl (by omega) ?_
  have f12 := b.v1 (o)
  refine x_iflt (t := 28) k_129_13 rfl (by show inR (A 1 o); omega) (fun hb => ?_) (fun hb => ?_)
  · have c13 : A 1 o < 0 := hb
    refine x_iconst k_129_28 ?_
    refine x_is4 k_129_29 rfl ?_
    exact lp_conflict M b ht ho (by omega) k (C 3).toNat 0 (by omega) (fun q hq => absurd hq (Nat.not_lt_zero q)) _
  · have c13 : ¬ (A 1 o < 0) := hb
    refine x_aload_n k_129_16 rfl ?_
    refine x_get k_129_17 M.1 rfl ?_
    refine x_iload_n k_129_20 rfl ?_
    refine y_iaload (m := o) k_129_21 M.a1 (Or.inl rfl) rfl (by omega) ?_
    have f21 := b.v1 (o)
    refine x_iload_n k_129_22 rfl ?_
    refine x_icmpeq (t := 28) k_129_23 rfl (by show inR (A 1 o) ∧ inR ((t : Int)); omega) (fun hb => ?_) (fun hb => ?_)
    · have c23 : A 1 o = (t : Int) := hb
      refine x_iconst k_129_28 ?_
      refine x_is4 k_129_29 rfl ?_
      exact lp_conflict M b ht ho (by omega) k (C 3).toNat 0 (by omega) (fun q hq => absurd hq (Nat.not_lt_zero q)) _
    · have c23 : ¬ (A 1 o = (t : Int)) := hb
      refine x_iconst k_129_26 ?_
      refine x_zreturn k_129_27 rfl (by first | exact Or.inl rfl | exact Or.inr rfl) ?_
      exact ret_1P (Or.inl ⟨by omega, by omega⟩) k
theorem lp_writesAt (M : MP am ad C A h) (b : RB C A) {t s : Nat} (ht : t < 500) (hs : s < 6) (k : Q (.inl (some (aI (pI (wraP C A t s))))) h) : ∀ n j : Nat, j + n = (C 2).toNat → (∀ q, q < j → ¬ wrq C A t s q) → Rn 131 2 [some (aR am), some (aI ((t : Int))), some (aI ((s : Int))), some (aI ((j : Int)))] [] h Q := by
  intro n
  induction n using Nat.strongRecOn with | ind n ih => ?_
  intro j hj hq
  have hc2 := b.c2
  refine x_iload_n k_131_2 rfl ?_
  refine x_aload_n k_131_3 rfl ?_
  refine x_get k_131_4 M.1 rfl ?_
  have f4 := b.c2
  refine x_icmpge (t := 46) k_131_7 rfl (by show inR ((j : Int)) ∧ inR (C 2); omega) (fun hb => ?_) (fun hb => ?_)
  · have c7 : C 2 ≤ (j : Int) := hb
    refine x_iconst k_131_46 ?_
    refine x_zreturn k_131_47 rfl (by first | exact Or.inl rfl | exact Or.inr rfl) ?_
    exact ret_0P (fun ⟨q, y1, y2⟩ => hq q (by omega) y2) k
  · have c7 : ¬ (C 2 ≤ (j : Int)) := hb
    refine x_aload_n k_131_10 rfl ?_
    refine x_get k_131_11 M.1 rfl ?_
    refine x_iload_n k_131_14 rfl ?_
    refine y_baload (m := j) k_131_15 M.a2 rfl (by omega) ?_
    have f15 := b.v2 (j)
    refine x_ifne (t := 40) k_131_16 rfl (by show inR (A 2 j); omega) (fun hb => ?_) (fun hb => ?_)
    · have c16 : ¬ A 2 j = 0 := hb
      refine x_inc3 k_131_40 rfl ?_
      refine x_goto (t := 2) k_131_43 rfl ?_
      exact ih (n - 1) (by omega) (j + 1) (by omega) (nx_all hq (fun z => by obtain ⟨z1, z2, z3⟩ := z; omega))
    · have c16 : ¬ (¬ A 2 j = 0) := hb
      refine x_aload_n k_131_19 rfl ?_
      refine x_get k_131_20 M.1 rfl ?_
      refine x_iload_n k_131_23 rfl ?_
      refine y_iaload (m := j) k_131_24 M.a0 (Or.inl rfl) rfl (by omega) ?_
      have f24 := b.v0 (j)
      refine x_iload_n k_131_25 rfl ?_
      refine x_icmpne (t := 40) k_131_26 rfl (by show inR (A 0 j) ∧ inR ((s : Int)); omega) (fun hb => ?_) (fun hb => ?_)
      · have c26 : ¬ A 0 j = (s : Int) := hb
        refine x_inc3 k_131_40 rfl ?_
        refine x_goto (t := 2) k_131_43 rfl ?_
        exact ih (n - 1) (by omega) (j + 1) (by omega) (nx_all hq (fun z => by obtain ⟨z1, z2, z3⟩ := z; omega))
      · have c26 : ¬ (¬ A 0 j = (s : Int)) := hb
        refine x_aload_n k_131_29 rfl ?_
        refine x_iload_n k_131_30 rfl ?_
        refine x_iload_n k_131_31 rfl ?_
        refine x_call3 k_131_32 (Nat.le_of_ble_eq_true rfl) (rcv_1 M.1) (Nat.le_of_ble_eq_true rfl) ?_
        refine r_wrote (t := t) (o := j) M b (by omega) (by omega) (bh_1 ?_)
        refine x_ifeq_b (t := 40) k_131_35 rfl (fun c35 => ?_) (fun c35 => ?_)
        · refine x_inc3 k_131_40 rfl ?_
          refine x_goto (t := 2) k_131_43 rfl ?_
          exact ih (n - 1) (by omega) (j + 1) (by omega) (nx_all hq (fun z => by obtain ⟨z1, z2, z3⟩ := z; rw [c35] at z3; cases z3))
        · refine x_iconst k_131_38 ?_
          refine x_zreturn k_131_39 rfl (by first | exact Or.inl rfl | exact Or.inr rfl) ?_
          exact ret_1P ⟨j, by omega, ⟨by omega, by omega, c35⟩⟩ k
theorem r_writesAt (M : MP am ad C A h) (b : RB C A) {t s : Nat} (ht : t < 500) (hs : s < 6) (k : Q (.inl (some (aI (pI (wraP C A t s))))) h) : Rn 131 0 (entL 131 [aR am, aI t, aI s]) [] h Q := by
  show Rn 131 0 [some (aR am), some (aI ((t : Int))), some (aI ((s : Int))), none] [] h Q
  refine x_iconst k_131_0 ?_
  refine x_is3n k_131_1 rfl ?_
  exact lp_writesAt M b ht hs k (C 2).toNat 0 (by omega) (fun q hq => absurd hq (Nat.not_lt_zero q))
theorem lp_anyConflict (M : MP am ad C A h) (b : RB C A) {t s : Nat} (ht : t < 500) (hs : s < 6) (k : Q (.inl (some (aI (pI (acfP C A t s))))) h) : ∀ n j : Nat, j + n = (C 2).toNat → (∀ q, q < j → ¬ (fun o => wrq C A t s o ∧ cflP C A t o) q) → Rn 128 2 [some (aR am), some (aI ((t : Int))), some (aI ((s : Int))), some (aI ((j : Int)))] [] h Q := by
  intro n
  induction n using Nat.strongRecOn with | ind n ih => ?_
  intro j hj hq
  have hc2 := b.c2
  refine x_iload_n k_128_2 rfl ?_
  refine x_aload_n k_128_3 rfl ?_
  refine x_get k_128_4 M.1 rfl ?_
  have f4 := b.c2
  refine x_icmpge (t := 55) k_128_7 rfl (by show inR ((j : Int)) ∧ inR (C 2); omega) (fun hb => ?_) (fun hb => ?_)
  · have c7 : C 2 ≤ (j : Int) := hb
    refine x_iconst k_128_55 ?_
    refine x_zreturn k_128_56 rfl (by first | exact Or.inl rfl | exact Or.inr rfl) ?_
    exact ret_0P (fun ⟨q, y1, y2⟩ => hq q (by omega) y2) k
  · have c7 : ¬ (C 2 ≤ (j : Int)) := hb
    refine x_aload_n k_128_10 rfl ?_
    refine x_get k_128_11 M.1 rfl ?_
    refine x_iload_n k_128_14 rfl ?_
    refine y_baload (m := j) k_128_15 M.a2 rfl (by omega) ?_
    have f15 := b.v2 (j)
    refine x_ifne (t := 49) k_128_16 rfl (by show inR (A 2 j); omega) (fun hb => ?_) (fun hb => ?_)
    · have c16 : ¬ A 2 j = 0 := hb
      refine x_inc3 k_128_49 rfl ?_
      refine x_goto (t := 2) k_128_52 rfl ?_
      exact ih (n - 1) (by omega) (j + 1) (by omega) (nx_all hq (fun z => by obtain ⟨⟨z1, z2, z3⟩, z4⟩ := z; omega))
    · have c16 : ¬ (¬ A 2 j = 0) := hb
      refine x_aload_n k_128_19 rfl ?_
      refine x_get k_128_20 M.1 rfl ?_
      refine x_iload_n k_128_23 rfl ?_
      refine y_iaload (m := j) k_128_24 M.a0 (Or.inl rfl) rfl (by omega) ?_
      have f24 := b.v0 (j)
      refine x_iload_n k_128_25 rfl ?_
      refine x_icmpne (t := 49) k_128_26 rfl (by show inR (A 0 j) ∧ inR ((s : Int)); omega) (fun hb => ?_) (fun hb => ?_)
      · have c26 : ¬ A 0 j = (s : Int) := hb
        refine x_inc3 k_128_49 rfl ?_
        refine x_goto (t := 2) k_128_52 rfl ?_
        exact ih (n - 1) (by omega) (j + 1) (by omega) (nx_all hq (fun z => by obtain ⟨⟨z1, z2, z3⟩, z4⟩ := z; omega))
      · have c26 : ¬ (¬ A 0 j = (s : Int)) := hb
        refine x_aload_n k_128_29 rfl ?_
        refine x_iload_n k_128_30 rfl ?_
        refine x_iload_n k_128_31 rfl ?_
        refine x_call3 k_128_32 (Nat.le_of_ble_eq_true rfl) (rcv_1 M.1) (Nat.le_of_ble_eq_true rfl) ?_
        refine r_wrote (t := t) (o := j) M b (by omega) (by omega) (bh_1 ?_)
        refine x_ifeq_b (t := 49) k_128_35 rfl (fun c35 => ?_) (fun c35 => ?_)
        · refine x_inc3 k_128_49 rfl ?_
          refine x_goto (t := 2) k_128_52 rfl ?_
          exact ih (n - 1) (by omega) (j + 1) (by omega) (nx_all hq (fun z => by obtain ⟨⟨z1, z2, z3⟩, z4⟩ := z; rw [c35] at z3; cases z3))
        · refine x_aload_n k_128_38 rfl ?_
          refine x_iload_n k_128_39 rfl ?_
          refine x_iload_n k_128_40 rfl ?_
          refine x_call3 k_128_41 (Nat.le_of_ble_eq_true rfl) (rcv_1 M.1) (Nat.le_of_ble_eq_true rfl) ?_
          refine r_conflict (t := t) (o := j) M b (by omega) (by omega) (bh_1 ?_)
          refine x_ifeq_P (t := 49) k_128_44 rfl (fun c44 => ?_) (fun c44 => ?_)
          · refine x_inc3 k_128_49 rfl ?_
            refine x_goto (t := 2) k_128_52 rfl ?_
            exact ih (n - 1) (by omega) (j + 1) (by omega) (nx_all hq (fun z => by obtain ⟨⟨z1, z2, z3⟩, z4⟩ := z; exact c44 z4))
          · refine x_iconst k_128_47 ?_
            refine x_zreturn k_128_48 rfl (by first | exact Or.inl rfl | exact Or.inr rfl) ?_
            exact ret_1P ⟨j, by omega, ⟨⟨by omega, by omega, c35⟩, c44⟩⟩ k
theorem r_anyConflict (M : MP am ad C A h) (b : RB C A) {t s : Nat} (ht : t < 500) (hs : s < 6) (k : Q (.inl (some (aI (pI (acfP C A t s))))) h) : Rn 128 0 (entL 128 [aR am, aI t, aI s]) [] h Q := by
  show Rn 128 0 [some (aR am), some (aI ((t : Int))), some (aI ((s : Int))), none] [] h Q
  refine x_iconst k_128_0 ?_
  refine x_is3n k_128_1 rfl ?_
  exact lp_anyConflict M b ht hs k (C 2).toNat 0 (by omega) (fun q hq => absurd hq (Nat.not_lt_zero q))
def lckF (C : Nat → Int) (A : Nat → Nat → Int) (t s n : Nat) : Nat → Int := fun o => if o < n ∧ wrq C A t s o then (t : Int) else A 1 o
def unlF (A : Nat → Nat → Int) (t s n : Nat) : Nat → Int := fun o => if o < n ∧ A 0 o = s ∧ A 1 o = t then (-1 : Int) else A 1 o
theorem lckF_n {t s j q : Nat} (hn : ¬ wrq C A t s j) : lckF C A t s j q = lckF C A t s (j + 1) q := by
  unfold lckF
  by_cases hq : q = j
  · subst hq
    rw [if_neg (fun z => hn z.2), if_neg (fun z => hn z.2)]
  · by_cases hz : q < j ∧ wrq C A t s q
    · rw [if_pos hz, if_pos ⟨by omega, hz.2⟩]
    · rw [if_neg hz, if_neg (fun z => hz ⟨by omega, z.2⟩)]
theorem lckF_y {t s j q : Nat} (hn : wrq C A t s j) : up (lckF C A t s j) j (t : Int) q = lckF C A t s (j + 1) q := by
  unfold up
  by_cases hq : q = j
  · subst hq
    rw [if_pos rfl]
    unfold lckF
    rw [if_pos ⟨by omega, hn⟩]
  · rw [if_neg hq]
    unfold lckF
    by_cases hz : q < j ∧ wrq C A t s q
    · rw [if_pos hz, if_pos ⟨by omega, hz.2⟩]
    · rw [if_neg hz, if_neg (fun z => hz ⟨by omega, z.2⟩)]
theorem unlF_n {t s j q : Nat} (hn : ¬ (A 0 j = s ∧ A 1 j = t)) : unlF A t s j q = unlF A t s (j + 1) q := by
  unfold unlF
  by_cases hq : q = j
  · subst hq
    rw [if_neg (fun z => hn z.2), if_neg (fun z => hn z.2)]
  · by_cases hz : q < j ∧ A 0 q = s ∧ A 1 q = t
    · rw [if_pos hz, if_pos ⟨by omega, hz.2⟩]
    · rw [if_neg hz, if_neg (fun z => hz ⟨by omega, z.2⟩)]
theorem unlF_y {t s j q : Nat} (hn : A 0 j = s ∧ A 1 j = t) : up (unlF A t s j) j (-1 : Int) q = unlF A t s (j + 1) q := by
  unfold up
  by_cases hq : q = j
  · subst hq
    rw [if_pos rfl]
    unfold unlF
    rw [if_pos ⟨by omega, hn⟩]
  · rw [if_neg hq]
    unfold unlF
    by_cases hz : q < j ∧ A 0 q = s ∧ A 1 q = t
    · rw [if_pos hz, if_pos ⟨by omega, hz.2⟩]
    · rw [if_neg hz, if_neg (fun z => hz ⟨by omega, z.2⟩)]
theorem lckF_b (b : RB C A) {t s n : Nat} (ht : t < 500) (j : Nat) : -1 ≤ lckF C A t s n j ∧ lckF C A t s n j < 500 := by
  have := b.v1 j
  unfold lckF
  split <;> omega
theorem unlF_b (b : RB C A) {t s n : Nat} (j : Nat) : -1 ≤ unlF A t s n j ∧ unlF A t s n j < 500 := by
  have := b.v1 j
  unfold unlF
  split <;> omega
theorem lp_locks {h0 : AH} (b : RB C A) {t s : Nat} (ht : t < 500) (hs : s < 6) (k : ∀ h', MP am ad C (up A 1 (lckF C A t s (C 2).toNat)) h' → Mv am ad h0 h' → Q (.inl none) h') : ∀ n j : Nat, j + n = (C 2).toNat → ∀ h, MP am ad C (up A 1 (lckF C A t s j)) h → Mv am ad h0 h → Rn 130 2 [some (aR am), some (aI ((t : Int))), some (aI ((s : Int))), some (aI ((j : Int)))] [] h Q := by
  intro n
  induction n using Nat.strongRecOn with | ind n ih => ?_
  intro j hj h M V
  have hc2 := b.c2
  refine x_iload_n k_130_2 rfl ?_
  refine x_aload_n k_130_3 rfl ?_
  refine x_get k_130_4 M.1 rfl ?_
  have f4 := b.c2
  refine x_icmpge (t := 51) k_130_7 rfl (by show inR ((j : Int)) ∧ inR (C 2); omega) (fun hb => ?_) (fun hb => ?_)
  · have c7 : C 2 ≤ (j : Int) := hb
    refine x_return k_130_51 ?_
    have e : (C 2).toNat = j := by omega
    rw [e] at k
    exact k h M V
  · have c7 : ¬ (C 2 ≤ (j : Int)) := hb
    refine x_aload_n k_130_10 rfl ?_
    refine x_get k_130_11 M.1 rfl ?_
    refine x_iload_n k_130_14 rfl ?_
    refine y_baload (m := j) k_130_15 M.a2 rfl (by omega) ?_
    have f15 := b.v2 (j)
    refine x_ifne (t := 45) k_130_16 rfl (by show inR (A 2 j); omega) (fun hb => ?_) (fun hb => ?_)
    · have c16 : ¬ A 2 j = 0 := hb
      refine x_inc3 k_130_45 rfl ?_
      refine x_goto (t := 2) k_130_48 rfl ?_
      exact ih (n - 1) (by omega) (j + 1) (by omega) h (M.ce (upe (fun q => lckF_n (fun z => by obtain ⟨z1, z2, z3⟩ := z; omega)))) V
    · have c16 : ¬ (¬ A 2 j = 0) := hb
      refine x_aload_n k_130_19 rfl ?_
      refine x_get k_130_20 M.1 rfl ?_
      refine x_iload_n k_130_23 rfl ?_
      refine y_iaload (m := j) k_130_24 M.a0 (Or.inl rfl) rfl (by omega) ?_
      have f24 := b.v0 (j)
      refine x_iload_n k_130_25 rfl ?_
      refine x_icmpne (t := 45) k_130_26 rfl (by show inR (A 0 j) ∧ inR ((s : Int)); omega) (fun hb => ?_) (fun hb => ?_)
      · have c26 : ¬ A 0 j = (s : Int) := hb
        refine x_inc3 k_130_45 rfl ?_
        refine x_goto (t := 2) k_130_48 rfl ?_
        exact ih (n - 1) (by omega) (j + 1) (by omega) h (M.ce (upe (fun q => lckF_n (fun z => by obtain ⟨z1, z2, z3⟩ := z; omega)))) V
      · have c26 : ¬ (¬ A 0 j = (s : Int)) := hb
        refine x_aload_n k_130_29 rfl ?_
        refine x_iload_n k_130_30 rfl ?_
        refine x_iload_n k_130_31 rfl ?_
        refine x_call3 k_130_32 (Nat.le_of_ble_eq_true rfl) (rcv_1 M.1) (Nat.le_of_ble_eq_true rfl) ?_
        refine r_wrote (t := t) (o := j) M (b.s1 (lckF_b b ht)) (by omega) (by omega) (bh_1 ?_)
        refine x_ifeq_b (t := 45) k_130_35 rfl (fun c35 => ?_) (fun c35 => ?_)
        · refine x_inc3 k_130_45 rfl ?_
          refine x_goto (t := 2) k_130_48 rfl ?_
          exact ih (n - 1) (by omega) (j + 1) (by omega) h (M.ce (upe (fun q => lckF_n (fun z => by obtain ⟨z1, z2, z3⟩ := z; rw [show wrtB C A t j = false from c35] at z3; cases z3)))) V
        · refine x_aload_n k_130_38 rfl ?_
          refine x_get k_130_39 M.1 rfl ?_
          refine x_iload_n k_130_42 rfl ?_
          refine x_iload_n k_130_43 rfl ?_
          refine y_iastore (m := j) k_130_44 M.a1 rfl (by omega) ?_
          refine mgo (M.s1 _) (V.tr (Mv.ma (Nat.le_of_ble_eq_true rfl))) (fun h M V => ?_)
          refine x_inc3 k_130_45 rfl ?_
          refine x_goto (t := 2) k_130_48 rfl ?_
          exact ih (n - 1) (by omega) (j + 1) (by omega) h (M.ce (up2.trans (upe (fun q => lckF_y ⟨by omega, by omega, c35⟩)))) V
theorem r_locks (M : MP am ad C A h) (b : RB C A) {t s : Nat} (ht : t < 500) (hs : s < 6) (k : ∀ h', MP am ad C (up A 1 (lckF C A t s (C 2).toNat)) h' → Mv am ad h h' → Q (.inl none) h') : Rn 130 0 (entL 130 [aR am, aI t, aI s]) [] h Q := by
  show Rn 130 0 [some (aR am), some (aI ((t : Int))), some (aI ((s : Int))), none] [] h Q
  refine x_iconst k_130_0 ?_
  refine x_is3n k_130_1 rfl ?_
  refine lp_locks b ht hs k (C 2).toNat 0 (by omega) h (M.ce (upself (fun q => ?_)).symm) Mv.rf
  exact if_neg (by omega)
theorem lp_unlock {h0 : AH} (b : RB C A) {t s : Nat} (ht : t < 500) (hs : s < 6) (k : ∀ h', MP am ad C (up A 1 (unlF A t s (C 2).toNat)) h' → Mv am ad h0 h' → Q (.inl none) h') : ∀ n j : Nat, j + n = (C 2).toNat → ∀ h, MP am ad C (up A 1 (unlF A t s j)) h → Mv am ad h0 h → Rn 124 2 [some (aR am), some (aI ((t : Int))), some (aI ((s : Int))), some (aI ((j : Int)))] [] h Q := by
  intro n
  induction n using Nat.strongRecOn with | ind n ih => ?_
  intro j hj h M V
  have hc2 := b.c2
  refine x_iload_n k_124_2 rfl ?_
  refine x_aload_n k_124_3 rfl ?_
  refine x_get k_124_4 M.1 rfl ?_
  have f4 := b.c2
  refine x_icmpge (t := 43) k_124_7 rfl (by show inR ((j : Int)) ∧ inR (C 2); omega) (fun hb => ?_) (fun hb => ?_)
  · have c7 : C 2 ≤ (j : Int) := hb
    refine x_return k_124_43 ?_
    have e : (C 2).toNat = j := by omega
    rw [e] at k
    exact k h M V
  · have c7 : ¬ (C 2 ≤ (j : Int)) := hb
    refine x_aload_n k_124_10 rfl ?_
    refine x_get k_124_11 M.1 rfl ?_
    refine x_iload_n k_124_14 rfl ?_
    refine y_iaload (m := j) k_124_15 M.a0 (Or.inl rfl) rfl (by omega) ?_
    have f15 := b.v0 (j)
    refine x_iload_n k_124_16 rfl ?_
    refine x_icmpne (t := 37) k_124_17 rfl (by show inR (A 0 j) ∧ inR ((s : Int)); omega) (fun hb => ?_) (fun hb => ?_)
    · have c17 : ¬ A 0 j = (s : Int) := hb
      refine x_inc3 k_124_37 rfl ?_
      refine x_goto (t := 2) k_124_40 rfl ?_
      exact ih (n - 1) (by omega) (j + 1) (by omega) h (M.ce (upe (fun q => unlF_n (by omega)))) V
    · have c17 : ¬ (¬ A 0 j = (s : Int)) := hb
      have e25 : unlF A t s j j = A 1 j := if_neg (by omega)
      have f25 := b.v1 j
      refine x_aload_n k_124_20 rfl ?_
      refine x_get k_124_21 M.1 rfl ?_
      refine x_iload_n k_124_24 rfl ?_
      refine y_iaload (m := j) k_124_25 M.a1 (Or.inl rfl) rfl (by omega) ?_
      refine x_iload_n k_124_26 rfl ?_
      refine x_icmpne (t := 37) k_124_27 rfl (by show inR ((unlF A t s j) j) ∧ inR ((t : Int)); omega) (fun hb => ?_) (fun hb => ?_)
      · have c27 : ¬ (unlF A t s j) j = (t : Int) := hb
        refine x_inc3 k_124_37 rfl ?_
        refine x_goto (t := 2) k_124_40 rfl ?_
        exact ih (n - 1) (by omega) (j + 1) (by omega) h (M.ce (upe (fun q => unlF_n (by omega)))) V
      · have c27 : ¬ (¬ (unlF A t s j) j = (t : Int)) := hb
        refine x_aload_n k_124_30 rfl ?_
        refine x_get k_124_31 M.1 rfl ?_
        refine x_iload_n k_124_34 rfl ?_
        refine x_iconst k_124_35 ?_
        refine y_iastore (m := j) k_124_36 M.a1 rfl (by omega) ?_
        refine mgo (M.s1 _) (V.tr (Mv.ma (Nat.le_of_ble_eq_true rfl))) (fun h M V => ?_)
        refine x_inc3 k_124_37 rfl ?_
        refine x_goto (t := 2) k_124_40 rfl ?_
        exact ih (n - 1) (by omega) (j + 1) (by omega) h (M.ce (up2.trans (upe (fun q => unlF_y ⟨by omega, by omega⟩)))) V
theorem r_unlock (M : MP am ad C A h) (b : RB C A) {t s : Nat} (ht : t < 500) (hs : s < 6) (k : ∀ h', MP am ad C (up A 1 (unlF A t s (C 2).toNat)) h' → Mv am ad h h' → Q (.inl none) h') : Rn 124 0 (entL 124 [aR am, aI t, aI s]) [] h Q := by
  show Rn 124 0 [some (aR am), some (aI ((t : Int))), some (aI ((s : Int))), none] [] h Q
  refine x_iconst k_124_0 ?_
  refine x_is3n k_124_1 rfl ?_
  refine lp_unlock b ht hs k (C 2).toNat 0 (by omega) h (M.ce (upself (fun q => ?_)).symm) Mv.rf
  exact if_neg (by omega)
/-- one more message -/
def sndC (C : Nat → Int) : Nat → Int := up C 5 (C 5 + 1)
def sndA (C : Nat → Int) (A : Nat → Nat → Int) (a d s t : Int) : Nat → Nat → Int := up (up (up (up A 16 (up (A 16) (C 5).toNat a)) 17 (up (A 17) (C 5).toNat d)) 18 (up (A 18) (C 5).toNat s)) 19 (up (A 19) (C 5).toNat t)
theorem r_send (M : MP am ad C A h) (b : RB C A) {a d s t : Int} (k : ∀ h', MP am ad (sndC C) (sndA C A a d s t) h' → Mv am ad h h' → Q (.inl none) h') : Rn 125 0 (entL 125 [aR am, aI a, aI d, aI s, aI t]) [] h Q := by
  show Rn 125 0 [some (aR am), some (aI (a)), some (aI (d)), some (aI (s)), some (aI (t))] [] h Q
  have V : Mv am ad h h := Mv.rf
  refine x_aload_n k_125_0 rfl ?_
  refine x_get k_125_1 M.1 rfl ?_
  refine x_aload_n k_125_4 rfl ?_
  refine x_get k_125_5 M.1 rfl ?_
  have f5 := b.c5
  refine x_iload_n k_125_8 rfl ?_
  refine y_iastore (m := (C 5).toNat) k_125_9 M.a16 (show C 5 = (((C 5).toNat : Nat) : Int) by omega) (by omega) ?_
  refine mgo (M.s16 _) (V.tr (Mv.ma (Nat.le_of_ble_eq_true rfl))) (fun h M V => ?_)
  refine x_aload_n k_125_10 rfl ?_
  refine x_get k_125_11 M.1 rfl ?_
  refine x_aload_n k_125_14 rfl ?_
  refine x_get k_125_15 M.1 rfl ?_
  have f15 := b.c5
  refine x_iload_n k_125_18 rfl ?_
  refine y_iastore (m := (C 5).toNat) k_125_19 M.a17 (show C 5 = (((C 5).toNat : Nat) : Int) by omega) (by omega) ?_
  refine mgo (M.s17 _) (V.tr (Mv.ma (Nat.le_of_ble_eq_true rfl))) (fun h M V => ?_)
  refine x_aload_n k_125_20 rfl ?_
  refine x_get k_125_21 M.1 rfl ?_
  refine x_aload_n k_125_24 rfl ?_
  refine x_get k_125_25 M.1 rfl ?_
  have f25 := b.c5
  refine x_iload_n k_125_28 rfl ?_
  refine y_iastore (m := (C 5).toNat) k_125_29 M.a18 (show C 5 = (((C 5).toNat : Nat) : Int) by omega) (by omega) ?_
  refine mgo (M.s18 _) (V.tr (Mv.ma (Nat.le_of_ble_eq_true rfl))) (fun h M V => ?_)
  refine x_aload_n k_125_30 rfl ?_
  refine x_get k_125_31 M.1 rfl ?_
  refine x_aload_n k_125_34 rfl ?_
  refine x_get k_125_35 M.1 rfl ?_
  have f35 := b.c5
  refine x_iload k_125_38 rfl ?_
  refine y_iastore (m := (C 5).toNat) k_125_40 M.a19 (show C 5 = (((C 5).toNat : Nat) : Int) by omega) (by omega) ?_
  refine mgo (M.s19 _) (V.tr (Mv.ma (Nat.le_of_ble_eq_true rfl))) (fun h M V => ?_)
  refine x_aload_n k_125_41 rfl ?_
  refine x_dup k_125_42 rfl ?_
  refine x_get k_125_43 M.1 rfl ?_
  have f43 := b.c5
  refine x_iconst k_125_46 ?_
  refine x_iadd k_125_47 ?_
  refine x_put k_125_48 M.1 (Nat.le_of_ble_eq_true rfl) rfl ?_
  refine mgo (M.c5 _) (V.tr Mv.mo) (fun h M V => ?_)
  refine x_return k_125_51 ?_
  exact k h M V
abbrev cbq (A : Nat → Nat → Int) (t s u : Nat) : Prop := A 6 (6 * t + u) ≤ A 13 (6 * s + u)
def cbP (C : Nat → Int) (A : Nat → Nat → Int) (t s : Nat) : Prop := A 5 t = A 13 (6 * s + (A 3 t).toNat) + 1 ∧ ∀ u, u < (C 1).toNat → cbq A t s u
theorem lp_canBe (M : MP am ad C A h) (b : RB C A) {t s : Nat} (ht : t < 500) (hs : s < 6) (h5 : A 5 t = A 13 (6 * s + (A 3 t).toNat) + 1) (k : Q (.inl (some (aI (pI (cbP C A t s))))) h) : ∀ n j : Nat, j + n = (C 1).toNat → (∀ q, q < j → cbq A t s q) → Rn 127 31 [some (aR am), some (aI ((t : Int))), some (aI ((s : Int))), some (aI ((j : Int)))] [] h Q := by
  intro n
  induction n using Nat.strongRecOn with | ind n ih => ?_
  intro j hj hq
  have hc1 := b.c1
  refine x_iload_n k_127_31 rfl ?_
  refine x_aload_n k_127_32 rfl ?_
  refine x_get k_127_33 M.1 rfl ?_
  have f33 := b.c1
  refine x_icmpge (t := 72) k_127_36 rfl (by show inR ((j : Int)) ∧ inR (C 1); omega) (fun hb => ?_) (fun hb => ?_)
  · have c36 : C 1 ≤ (j : Int) := hb
    refine x_iconst k_127_72 ?_
    refine x_zreturn k_127_73 rfl (by first | exact Or.inl rfl | exact Or.inr rfl) ?_
    exact ret_1P ⟨h5, fun u hu => hq u (by omega)⟩ k
  · have c36 : ¬ (C 1 ≤ (j : Int)) := hb
    refine x_aload_n k_127_39 rfl ?_
    refine x_get k_127_40 M.1 rfl ?_
    refine x_bipush k_127_43 ?_
    refine x_iload_n k_127_45 rfl ?_
    refine x_imul k_127_46 ?_
    refine x_iload_n k_127_47 rfl ?_
    refine x_iadd k_127_48 ?_
    refine y_iaload (m := 6 * t + j) k_127_49 M.a6 (Or.inl rfl) (show ((6 * (t : Int)) + (j : Int)) = ((6 * t + j : Nat) : Int) by omega) (by omega) ?_
    have f49 := b.v6 (6 * t + j)
    refine x_aload_n k_127_50 rfl ?_
    refine x_get k_127_51 M.1 rfl ?_
    refine x_bipush k_127_54 ?_
    refine x_iload_n k_127_56 rfl ?_
    refine x_imul k_127_57 ?_
    refine x_iload_n k_127_58 rfl ?_
    refine x_iadd k_127_59 ?_
    refine y_iaload (m := 6 * s + j) k_127_60 M.a13 (Or.inl rfl) (show ((6 * (s : Int)) + (j : Int)) = ((6 * s + j : Nat) : Int) by omega) (by omega) ?_
    have f60 := b.v13 (6 * s + j)
    refine x_icmple (t := 66) k_127_61 rfl (by show inR (A 6 (6 * t + j)) ∧ inR (A 13 (6 * s + j)); omega) (fun hb => ?_) (fun hb => ?_)
    · have c61 : A 6 (6 * t + j) ≤ A 13 (6 * s + j) := hb
      refine x_inc3 k_127_66 rfl ?_
      refine x_goto (t := 31) k_127_69 rfl ?_
      exact ih (n - 1) (by omega) (j + 1) (by omega) (fun q hq1 => (Nat.lt_or_ge q j).elim (fun z => hq q z) (fun z => (show q = j by omega) ▸ c61))
    · have c61 : ¬ (A 6 (6 * t + j) ≤ A 13 (6 * s + j)) := hb
      refine x_iconst k_127_64 ?_
      refine x_zreturn k_127_65 rfl (by first | exact Or.inl rfl | exact Or.inr rfl) ?_
      exact ret_0P (fun z => c61 (z.2 j (by omega))) k
theorem r_canBe (M : MP am ad C A h) (b : RB C A) {t s : Nat} (ht : t < 500) (hs : s < 6) (k : Q (.inl (some (aI (pI (cbP C A t s))))) h) : Rn 127 0 (entL 127 [aR am, aI t, aI s]) [] h Q := by
  show Rn 127 0 [some (aR am), some (aI ((t : Int))), some (aI ((s : Int))), none] [] h Q
  refine x_aload_n k_127_0 rfl ?_
  refine x_get k_127_1 M.1 rfl ?_
  refine x_iload_n k_127_4 rfl ?_
  refine y_iaload (m := t) k_127_5 M.a5 (Or.inl rfl) rfl (by omega) ?_
  have f5 := b.v5 (t)
  refine x_aload_n k_127_6 rfl ?_
  refine x_get k_127_7 M.1 rfl ?_
  refine x_bipush k_127_10 ?_
  refine x_iload_n k_127_12 rfl ?_
  refine x_imul k_127_13 ?_
  refine x_aload_n k_127_14 rfl ?_
  refine x_get k_127_15 M.1 rfl ?_
  refine x_iload_n k_127_18 rfl ?_
  refine y_iaload (m := t) k_127_19 M.a3 (Or.inl rfl) rfl (by omega) ?_
  have f19 := b.v3 (t)
  refine x_iadd k_127_20 ?_
  refine y_iaload (m := 6 * s + (A 3 t).toNat) k_127_21 M.a13 (Or.inl rfl) (show ((6 * (s : Int)) + A 3 t) = ((6 * s + (A 3 t).toNat : Nat) : Int) by omega) (by omega) ?_
  have f21 := b.v13 (6 * s + (A 3 t).toNat)
  refine x_iconst k_127_22 ?_
  refine x_iadd k_127_23 ?_
  refine x_icmpeq (t := 29) k_127_24 rfl (by show inR (A 5 t) ∧ inR ((A 13 (6 * s + (A 3 t).toNat) + 1)); omega) (fun hb => ?_) (fun hb => ?_)
  · have c24 : A 5 t = (A 13 (6 * s + (A 3 t).toNat) + 1) := hb
    refine x_iconst k_127_29 ?_
    refine x_is3n k_127_30 rfl ?_
    exact lp_canBe M b ht hs (by omega) k (C 1).toNat 0 (by omega) (fun q hq => absurd hq (Nat.not_lt_zero q))
  · have c24 : ¬ (A 5 t = (A 13 (6 * s + (A 3 t).toNat) + 1)) := hb
    refine x_iconst k_127_27 ?_
    refine x_zreturn k_127_28 rfl (by first | exact Or.inl rfl | exact Or.inr rfl) ?_
    exact ret_0P (fun z => c24 z.1) k
end M5
