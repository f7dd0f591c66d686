section M4
variable {am : Nat} {ad : Nat → Nat} {C : Nat → Int} {A : Nat → Nat → Int} {h : AH} {Q : AR → AH → Prop}
theorem wcd_z {P R : Prop} [Decidable P] [Decidable R] (q : ¬ wcd (decide P) (decide R) ≠ 0) : wcd (decide P) (decide R) = 0 ∧ ¬ P ∧ ¬ R := by
  have q : wcd (decide P) (decide R) = 0 := Decidable.not_not.mp q
  refine ⟨q, fun p => ?_, fun r => ?_⟩
  · simp [wcd, p] at q
  · by_cases p : P <;> simp [wcd, p, r] at q
theorem wcd_1 {P R : Prop} [Decidable P] [Decidable R] (p : P) : wcd (decide P) (decide R) = 1 := by simp [wcd, p]
theorem wcd_2 {P R : Prop} [Decidable P] [Decidable R] (p : ¬ P) (r : R) : wcd (decide P) (decide R) = 2 := by simp [wcd, p, r]
theorem wcd_0 {P R : Prop} [Decidable P] [Decidable R] (p : ¬ P) (r : ¬ R) : wcd (decide P) (decide R) = 0 := by simp [wcd, p, r]
theorem r_sites (M : MP am ad C A h) (b : RB C A) {n : Int} (hn : inR n) (kf : ∀ h', wcd (decide (n < 1 ∨ 6 < n)) (decide (0 < C 1)) ≠ 0 → MP am ad (up C 0 (wcd (decide (n < 1 ∨ 6 < n)) (decide (0 < C 1)))) A h' → Mv am ad h h' → Q (.inl none) h') (k0 : ∀ h', (¬ (n < 1 ∨ 6 < n) ∧ ¬ 0 < C 1) → MP am ad (up (up C 0 0) 1 n) A h' → Mv am ad h h' → Q (.inl none) h') : Rn 103 0 (entL 103 [aR am, aI n]) [] h Q := by
  show Rn 103 0 [some (aR am), some (aI (n))] [] h Q
  have b1 := b.c1
  have b2 := b.c2
  have b3 := b.c3
  have J : ∀ x y : Int, x = bI (decide (n < 1 ∨ 6 < n)) → y = bI (decide (0 < C 1)) → Rn 103 29 [some (aR am), some (aI (n))] [aI y, aI x, aR am] h Q := by
    intro x y hx hy
    subst hx hy
    refine x_call3 k_103_29 (Nat.le_of_ble_eq_true rfl) (rcv_1 M.1) (Nat.le_of_ble_eq_true rfl) ?_
    refine r_fails M (fun h M V => bh_1 ?_)
    refine x_ifeq_p (t := 36) k_103_32 rfl (fun cF => ?_) (fun cF => ?_)
    · have cG := wcd_z cF
      have M : MP am ad (up C 0 0) A h := by rw [← cG.1]; exact M
      refine x_aload_n k_103_36 rfl ?_
      refine x_iload_n k_103_37 rfl ?_
      refine x_put k_103_38 M.1 (Nat.le_of_ble_eq_true rfl) rfl ?_
      refine mgo (M.c1 _) (V.tr Mv.mo) (fun h M V => ?_)
      refine x_return k_103_41 ?_
      exact k0 h cG.2 M V
    · refine x_return k_103_35 ?_
      exact kf h cF M V
  refine x_aload_n k_103_0 rfl ?_
  refine x_iload_n k_103_1 rfl ?_
  refine x_iconst k_103_2 ?_
  refine x_icmplt (t := 12) k_103_3 rfl (by show inR (n) ∧ inR (1); omega) (fun hb => ?_) (fun hb => ?_)
  · have c3 : n < 1 := hb
    refine x_iconst k_103_12 ?_
    refine x_goto (t := 17) k_103_13 rfl ?_
    refine x_aload_n k_103_17 rfl ?_
    refine x_get k_103_18 M.1 rfl ?_
    have f18 := b.c1
    refine x_ifle (t := 28) k_103_21 rfl (by show inR (C 1); omega) (fun hb => ?_) (fun hb => ?_)
    · have c21 : C 1 ≤ 0 := hb
      refine x_iconst k_103_28 ?_
      exact J 1 0 (bI_1 (by omega)) (bI_0 (by first | omega | exact id))
    · have c21 : ¬ (C 1 ≤ 0) := hb
      refine x_iconst k_103_24 ?_
      refine x_goto (t := 29) k_103_25 rfl ?_
      exact J 1 1 (bI_1 (by omega)) (bI_1 (by omega))
  · have c3 : ¬ (n < 1) := hb
    refine x_iload_n k_103_6 rfl ?_
    refine x_bipush k_103_7 ?_
    refine x_icmple (t := 16) k_103_9 rfl (by show inR (n) ∧ inR (6); omega) (fun hb => ?_) (fun hb => ?_)
    · have c9 : n ≤ 6 := hb
      refine x_iconst k_103_16 ?_
      refine x_aload_n k_103_17 rfl ?_
      refine x_get k_103_18 M.1 rfl ?_
      have f18 := b.c1
      refine x_ifle (t := 28) k_103_21 rfl (by show inR (C 1); omega) (fun hb => ?_) (fun hb => ?_)
      · have c21 : C 1 ≤ 0 := hb
        refine x_iconst k_103_28 ?_
        exact J 0 0 (bI_0 (by first | omega | exact id)) (bI_0 (by first | omega | exact id))
      · have c21 : ¬ (C 1 ≤ 0) := hb
        refine x_iconst k_103_24 ?_
        refine x_goto (t := 29) k_103_25 rfl ?_
        exact J 0 1 (bI_0 (by first | omega | exact id)) (bI_1 (by omega))
    · have c9 : ¬ (n ≤ 6) := hb
      refine x_iconst k_103_12 ?_
      refine x_goto (t := 17) k_103_13 rfl ?_
      refine x_aload_n k_103_17 rfl ?_
      refine x_get k_103_18 M.1 rfl ?_
      have f18 := b.c1
      refine x_ifle (t := 28) k_103_21 rfl (by show inR (C 1); omega) (fun hb => ?_) (fun hb => ?_)
      · have c21 : C 1 ≤ 0 := hb
        refine x_iconst k_103_28 ?_
        exact J 1 0 (bI_1 (by omega)) (bI_0 (by first | omega | exact id))
      · have c21 : ¬ (C 1 ≤ 0) := hb
        refine x_iconst k_103_24 ?_
        refine x_goto (t := 29) k_103_25 rfl ?_
        exact J 1 1 (bI_1 (by omega)) (bI_1 (by omega))
theorem r_object (M : MP am ad C A h) (b : RB C A) {s : Int} {w : Bool} (hs : inR s) (kf : ∀ h', wcd (decide (¬ (0 ≤ s ∧ s < C 1))) (decide (C 2 = 200)) ≠ 0 → MP am ad (up C 0 (wcd (decide (¬ (0 ≤ s ∧ s < C 1))) (decide (C 2 = 200)))) A h' → Mv am ad h h' → Q (.inl (some (aI 0))) h') (k0 : ∀ h', (¬ ¬ (0 ≤ s ∧ s < C 1) ∧ ¬ C 2 = 200) → MP am ad (up (up C 0 0) 2 (C 2 + 1)) (up (up (up A 0 (up (A 0) (C 2).toNat s)) 2 (up (A 2) (C 2).toNat (bI w))) 1 (up (A 1) (C 2).toNat (-1))) h' → Mv am ad h h' → Q (.inl (some (aI (C 2)))) h') : Rn 105 0 (entL 105 [aR am, aI s, aI (bI w)]) [] h Q := by
  show Rn 105 0 [some (aR am), some (aI (s)), some (aI (bI (w)))] [] h Q
  have b1 := b.c1
  have b2 := b.c2
  have b3 := b.c3
  have J : ∀ x y : Int, x = bI (decide (¬ (0 ≤ s ∧ s < C 1))) → y = bI (decide (C 2 = 200)) → Rn 105 29 [some (aR am), some (aI (s)), some (aI (bI (w)))] [aI y, aI x, aR am] h Q := by
    intro x y hx hy
    subst hx hy
    refine x_call3 k_105_29 (Nat.le_of_ble_eq_true rfl) (rcv_1 M.1) (Nat.le_of_ble_eq_true rfl) ?_
    refine r_fails M (fun h M V => bh_1 ?_)
    refine x_ifeq_p (t := 37) k_105_32 rfl (fun cF => ?_) (fun cF => ?_)
    · have cG := wcd_z cF
      have M : MP am ad (up C 0 0) A h := by rw [← cG.1]; exact M
      refine x_aload_n k_105_37 rfl ?_
      refine x_get k_105_38 M.1 rfl ?_
      refine x_aload_n k_105_41 rfl ?_
      refine x_get k_105_42 M.1 rfl ?_
      have f42 := b.c2
      refine x_iload_n k_105_45 rfl ?_
      refine y_iastore (m := (C 2).toNat) k_105_46 M.a0 (show C 2 = (((C 2).toNat : Nat) : Int) by omega) (by omega) ?_
      refine mgo (M.s0 _) (V.tr (Mv.ma (Nat.le_of_ble_eq_true rfl))) (fun h M V => ?_)
      refine x_aload_n k_105_47 rfl ?_
      refine x_get k_105_48 M.1 rfl ?_
      refine x_aload_n k_105_51 rfl ?_
      refine x_get k_105_52 M.1 rfl ?_
      have f52 := b.c2
      refine x_iload_n k_105_55 rfl ?_
      refine y_bastore (m := (C 2).toNat) k_105_56 M.a2 (bI_01 w) (show C 2 = (((C 2).toNat : Nat) : Int) by omega) (by omega) ?_
      refine mgo (M.s2 _) (V.tr (Mv.ma (Nat.le_of_ble_eq_true rfl))) (fun h M V => ?_)
      refine x_aload_n k_105_57 rfl ?_
      refine x_get k_105_58 M.1 rfl ?_
      refine x_aload_n k_105_61 rfl ?_
      refine x_get k_105_62 M.1 rfl ?_
      have f62 := b.c2
      refine x_iconst k_105_65 ?_
      refine y_iastore (m := (C 2).toNat) k_105_66 M.a1 (show C 2 = (((C 2).toNat : Nat) : Int) by omega) (by omega) ?_
      refine mgo (M.s1 _) (V.tr (Mv.ma (Nat.le_of_ble_eq_true rfl))) (fun h M V => ?_)
      refine x_aload_n k_105_67 rfl ?_
      refine x_dup k_105_68 rfl ?_
      refine x_get k_105_69 M.1 rfl ?_
      have f69 := b.c2
      refine x_iconst k_105_72 ?_
      refine x_iadd k_105_73 ?_
      refine x_put k_105_74 M.1 (Nat.le_of_ble_eq_true rfl) rfl ?_
      refine mgo (M.c2 _) (V.tr Mv.mo) (fun h M V => ?_)
      refine x_aload_n k_105_77 rfl ?_
      refine x_get k_105_78 M.1 rfl ?_
      refine x_iconst k_105_81 ?_
      refine x_isub k_105_82 ?_
      refine x_top (show ((C 2 + 1) - 1) = C 2 by omega) ?_
      refine x_ireturn k_105_83 rfl ?_
      exact k0 h cG.2 M V
    · refine x_iconst k_105_35 ?_
      refine x_ireturn k_105_36 rfl ?_
      exact kf h cF M V
  refine x_aload_n k_105_0 rfl ?_
  refine x_aload_n k_105_1 rfl ?_
  refine x_iload_n k_105_2 rfl ?_
  refine x_call2 k_105_3 (Nat.le_of_ble_eq_true rfl) (rcv_1 M.1) (Nat.le_of_ble_eq_true rfl) ?_
  refine r_isSite M (by omega) (by omega) (bh_1 ?_)
  refine x_ifne_p (t := 13) k_105_6 rfl (fun c6 => ?_) (fun c6 => ?_)
  · refine x_iconst k_105_13 ?_
    refine x_aload_n k_105_14 rfl ?_
    refine x_get k_105_15 M.1 rfl ?_
    have f15 := b.c2
    refine x_sipush k_105_18 ?_
    refine x_icmpne (t := 28) k_105_21 rfl (by show inR (C 2) ∧ inR (200); omega) (fun hb => ?_) (fun hb => ?_)
    · have c21 : ¬ C 2 = 200 := hb
      refine x_iconst k_105_28 ?_
      exact J 0 0 (bI_0 (by first | omega | exact id)) (bI_0 (by first | omega | exact id))
    · have c21 : ¬ (¬ C 2 = 200) := hb
      refine x_iconst k_105_24 ?_
      refine x_goto (t := 29) k_105_25 rfl ?_
      exact J 0 1 (bI_0 (by first | omega | exact id)) (bI_1 (by omega))
  · refine x_iconst k_105_9 ?_
    refine x_goto (t := 14) k_105_10 rfl ?_
    refine x_aload_n k_105_14 rfl ?_
    refine x_get k_105_15 M.1 rfl ?_
    have f15 := b.c2
    refine x_sipush k_105_18 ?_
    refine x_icmpne (t := 28) k_105_21 rfl (by show inR (C 2) ∧ inR (200); omega) (fun hb => ?_) (fun hb => ?_)
    · have c21 : ¬ C 2 = 200 := hb
      refine x_iconst k_105_28 ?_
      exact J 1 0 (bI_1 (by omega)) (bI_0 (by first | omega | exact id))
    · have c21 : ¬ (¬ C 2 = 200) := hb
      refine x_iconst k_105_24 ?_
      refine x_goto (t := 29) k_105_25 rfl ?_
      exact J 1 1 (bI_1 (by omega)) (bI_1 (by omega))
theorem r_seen (M : MP am ad C A h) (b : RB C A) {s u : Int} (hs : inR s) (hu : inR u) (kf : ∀ h', wcd (decide (¬ ((0 ≤ s ∧ s < C 1) ∧ (0 ≤ u ∧ u < C 1)))) (decide (False)) ≠ 0 → MP am ad (up C 0 (wcd (decide (¬ ((0 ≤ s ∧ s < C 1) ∧ (0 ≤ u ∧ u < C 1)))) (decide (False)))) A h' → Mv am ad h h' → Q (.inl (some (aI 0))) h') (k0 : ∀ h', (¬ ¬ ((0 ≤ s ∧ s < C 1) ∧ (0 ≤ u ∧ u < C 1)) ∧ ¬ False) → MP am ad (up C 0 0) A h' → Mv am ad h h' → Q (.inl (some (aI (A 13 (6 * s.toNat + u.toNat))))) h') : Rn 136 0 (entL 136 [aR am, aI s, aI u]) [] h Q := by
  show Rn 136 0 [some (aR am), some (aI (s)), some (aI (u))] [] h Q
  have b1 := b.c1
  have b2 := b.c2
  have b3 := b.c3
  have J : ∀ x y : Int, x = bI (decide (¬ ((0 ≤ s ∧ s < C 1) ∧ (0 ≤ u ∧ u < C 1)))) → y = bI (decide (False)) → Rn 136 23 [some (aR am), some (aI (s)), some (aI (u))] [aI y, aI x, aR am] h Q := by
    intro x y hx hy
    subst hx hy
    refine x_call3 k_136_23 (Nat.le_of_ble_eq_true rfl) (rcv_1 M.1) (Nat.le_of_ble_eq_true rfl) ?_
    refine r_fails M (fun h M V => bh_1 ?_)
    refine x_ifeq_p (t := 33) k_136_26 rfl (fun cF => ?_) (fun cF => ?_)
    · have cG := wcd_z cF
      have M : MP am ad (up C 0 0) A h := by rw [← cG.1]; exact M
      refine x_aload_n k_136_33 rfl ?_
      refine x_get k_136_34 M.1 rfl ?_
      refine x_bipush k_136_37 ?_
      refine x_iload_n k_136_39 rfl ?_
      refine x_imul k_136_40 ?_
      refine x_iload_n k_136_41 rfl ?_
      refine x_iadd k_136_42 ?_
      refine y_iaload (m := 6 * s.toNat + u.toNat) k_136_43 M.a13 (Or.inl rfl) (show ((6 * s) + u) = ((6 * s.toNat + u.toNat : Nat) : Int) by omega) (by omega) ?_
      have f43 := b.v13 (6 * s.toNat + u.toNat)
      refine x_ireturn k_136_44 rfl ?_
      exact k0 h cG.2 M V
    · refine x_iconst k_136_29 ?_
      refine x_goto (t := 44) k_136_30 rfl ?_
      refine x_ireturn k_136_44 rfl ?_
      exact kf h cF M V
  refine x_aload_n k_136_0 rfl ?_
  refine x_aload_n k_136_1 rfl ?_
  refine x_iload_n k_136_2 rfl ?_
  refine x_call2 k_136_3 (Nat.le_of_ble_eq_true rfl) (rcv_1 M.1) (Nat.le_of_ble_eq_true rfl) ?_
  refine r_isSite M (by omega) (by omega) (bh_1 ?_)
  refine x_ifeq_p (t := 17) k_136_6 rfl (fun c6 => ?_) (fun c6 => ?_)
  · refine x_iconst k_136_17 ?_
    refine x_goto (t := 22) k_136_18 rfl ?_
    refine x_iconst k_136_22 ?_
    exact J 1 0 (bI_1 (by omega)) (bI_0 (by first | omega | exact id))
  · refine x_aload_n k_136_9 rfl ?_
    refine x_iload_n k_136_10 rfl ?_
    refine x_call2 k_136_11 (Nat.le_of_ble_eq_true rfl) (rcv_1 M.1) (Nat.le_of_ble_eq_true rfl) ?_
    refine r_isSite M (by omega) (by omega) (bh_1 ?_)
    refine x_ifne_p (t := 21) k_136_14 rfl (fun c14 => ?_) (fun c14 => ?_)
    · refine x_iconst k_136_21 ?_
      refine x_iconst k_136_22 ?_
      exact J 0 0 (bI_0 (by first | omega | exact id)) (bI_0 (by first | omega | exact id))
    · refine x_iconst k_136_17 ?_
      refine x_goto (t := 22) k_136_18 rfl ?_
      refine x_iconst k_136_22 ?_
      exact J 1 0 (bI_1 (by omega)) (bI_0 (by first | omega | exact id))
theorem r_locked (M : MP am ad C A h) (b : RB C A) {u : Int} (hu : inR u) (kf : ∀ h', wcd (decide (¬ (0 ≤ u ∧ u < C 2))) (decide (False)) ≠ 0 → MP am ad (up C 0 (wcd (decide (¬ (0 ≤ u ∧ u < C 2))) (decide (False)))) A h' → Mv am ad h h' → Q (.inl (some (aI 0))) h') (k0 : ∀ h', (¬ ¬ (0 ≤ u ∧ u < C 2) ∧ ¬ False) → MP am ad (up C 0 0) A h' → Mv am ad h h' → Q (.inl (some (aI (A 1 u.toNat)))) h') : Rn 138 0 (entL 138 [aR am, aI u]) [] h Q := by
  show Rn 138 0 [some (aR am), some (aI (u))] [] h Q
  have b1 := b.c1
  have b2 := b.c2
  have b3 := b.c3
  have J : ∀ x y : Int, x = bI (decide (¬ (0 ≤ u ∧ u < C 2))) → y = bI (decide (False)) → Rn 138 15 [some (aR am), some (aI (u))] [aI y, aI x, aR am] h Q := by
    intro x y hx hy
    subst hx hy
    refine x_call3 k_138_15 (Nat.le_of_ble_eq_true rfl) (rcv_1 M.1) (Nat.le_of_ble_eq_true rfl) ?_
    refine r_fails M (fun h M V => bh_1 ?_)
    refine x_ifeq_p (t := 25) k_138_18 rfl (fun cF => ?_) (fun cF => ?_)
    · have cG := wcd_z cF
      have M : MP am ad (up C 0 0) A h := by rw [← cG.1]; exact M
      refine x_aload_n k_138_25 rfl ?_
      refine x_get k_138_26 M.1 rfl ?_
      refine x_iload_n k_138_29 rfl ?_
      refine y_iaload (m := u.toNat) k_138_30 M.a1 (Or.inl rfl) (show u = ((u.toNat : Nat) : Int) by omega) (by omega) ?_
      have f30 := b.v1 (u.toNat)
      refine x_ireturn k_138_31 rfl ?_
      exact k0 h cG.2 M V
    · refine x_iconst k_138_21 ?_
      refine x_goto (t := 31) k_138_22 rfl ?_
      refine x_ireturn k_138_31 rfl ?_
      exact kf h cF M V
  refine x_aload_n k_138_0 rfl ?_
  refine x_aload_n k_138_1 rfl ?_
  refine x_iload_n k_138_2 rfl ?_
  refine x_call2 k_138_3 (Nat.le_of_ble_eq_true rfl) (rcv_1 M.1) (Nat.le_of_ble_eq_true rfl) ?_
  refine r_isObject M (by omega) (by omega) (bh_1 ?_)
  refine x_ifne_p (t := 13) k_138_6 rfl (fun c6 => ?_) (fun c6 => ?_)
  · refine x_iconst k_138_13 ?_
    refine x_iconst k_138_14 ?_
    exact J 0 0 (bI_0 (by first | omega | exact id)) (bI_0 (by first | omega | exact id))
  · refine x_iconst k_138_9 ?_
    refine x_goto (t := 14) k_138_10 rfl ?_
    refine x_iconst k_138_14 ?_
    exact J 1 0 (bI_1 (by omega)) (bI_0 (by first | omega | exact id))
theorem r_abort (M : MP am ad C A h) (b : RB C A) {t : Int} (ht : inR t) (kf : ∀ h', wcd (decide (¬ (0 ≤ t ∧ t < C 3))) (decide ((0 ≤ t ∧ t < C 3) ∧ ¬ A 4 t.toNat = 0)) ≠ 0 → MP am ad (up C 0 (wcd (decide (¬ (0 ≤ t ∧ t < C 3))) (decide ((0 ≤ t ∧ t < C 3) ∧ ¬ A 4 t.toNat = 0)))) A h' → Mv am ad h h' → Q (.inl none) h') (k0 : ∀ h', (¬ ¬ (0 ≤ t ∧ t < C 3) ∧ ¬ ((0 ≤ t ∧ t < C 3) ∧ ¬ A 4 t.toNat = 0)) → MP am ad (up C 0 0) (up A 4 (up (A 4) t.toNat 2)) h' → Mv am ad h h' → Q (.inl none) h') : Rn 132 0 (entL 132 [aR am, aI t]) [] h Q := by
  show Rn 132 0 [some (aR am), some (aI (t))] [] h Q
  have b1 := b.c1
  have b2 := b.c2
  have b3 := b.c3
  have J : ∀ x y : Int, x = bI (decide (¬ (0 ≤ t ∧ t < C 3))) → y = bI (decide ((0 ≤ t ∧ t < C 3) ∧ ¬ A 4 t.toNat = 0)) → Rn 132 36 [some (aR am), some (aI (t))] [aI y, aI x, aR am] h Q := by
    intro x y hx hy
    subst hx hy
    refine x_call3 k_132_36 (Nat.le_of_ble_eq_true rfl) (rcv_1 M.1) (Nat.le_of_ble_eq_true rfl) ?_
    refine r_fails M (fun h M V => bh_1 ?_)
    refine x_ifeq_p (t := 43) k_132_39 rfl (fun cF => ?_) (fun cF => ?_)
    · have cG := wcd_z cF
      have M : MP am ad (up C 0 0) A h := by rw [← cG.1]; exact M
      refine x_aload_n k_132_43 rfl ?_
      refine x_get k_132_44 M.1 rfl ?_
      refine x_iload_n k_132_47 rfl ?_
      refine x_iconst k_132_48 ?_
      refine y_iastore (m := t.toNat) k_132_49 M.a4 (show t = ((t.toNat : Nat) : Int) by omega) (by omega) ?_
      refine mgo (M.s4 _) (V.tr (Mv.ma (Nat.le_of_ble_eq_true rfl))) (fun h M V => ?_)
      refine x_return k_132_50 ?_
      exact k0 h cG.2 M V
    · refine x_return k_132_42 ?_
      exact kf h cF M V
  refine x_aload_n k_132_0 rfl ?_
  refine x_aload_n k_132_1 rfl ?_
  refine x_iload_n k_132_2 rfl ?_
  refine x_call2 k_132_3 (Nat.le_of_ble_eq_true rfl) (rcv_1 M.1) (Nat.le_of_ble_eq_true rfl) ?_
  refine r_isTran M (by omega) (by omega) (bh_1 ?_)
  refine x_ifne_p (t := 13) k_132_6 rfl (fun c6 => ?_) (fun c6 => ?_)
  · refine x_iconst k_132_13 ?_
    refine x_aload_n k_132_14 rfl ?_
    refine x_iload_n k_132_15 rfl ?_
    refine x_call2 k_132_16 (Nat.le_of_ble_eq_true rfl) (rcv_1 M.1) (Nat.le_of_ble_eq_true rfl) ?_
    refine r_isTran M (by omega) (by omega) (bh_1 ?_)
    refine x_ifeq_p (t := 35) k_132_19 rfl (fun c19 => ?_) (fun c19 => ?_)
    · refine x_iconst k_132_35 ?_
      exact J 0 0 (bI_0 (by first | omega | exact id)) (bI_0 (by first | omega | exact id))
    · refine x_aload_n k_132_22 rfl ?_
      refine x_get k_132_23 M.1 rfl ?_
      refine x_iload_n k_132_26 rfl ?_
      refine y_iaload (m := t.toNat) k_132_27 M.a4 (Or.inl rfl) (show t = ((t.toNat : Nat) : Int) by omega) (by omega) ?_
      have f27 := b.v4 (t.toNat)
      refine x_ifeq (t := 35) k_132_28 rfl (by show inR (A 4 (t.toNat)); omega) (fun hb => ?_) (fun hb => ?_)
      · have c28 : A 4 (t.toNat) = 0 := hb
        refine x_iconst k_132_35 ?_
        exact J 0 0 (bI_0 (by first | omega | exact id)) (bI_0 (by first | omega | exact id))
      · have c28 : ¬ (A 4 (t.toNat) = 0) := hb
        refine x_iconst k_132_31 ?_
        refine x_goto (t := 36) k_132_32 rfl ?_
        exact J 0 1 (bI_0 (by first | omega | exact id)) (bI_1 (by omega))
  · refine x_iconst k_132_9 ?_
    refine x_goto (t := 14) k_132_10 rfl ?_
    refine x_aload_n k_132_14 rfl ?_
    refine x_iload_n k_132_15 rfl ?_
    refine x_call2 k_132_16 (Nat.le_of_ble_eq_true rfl) (rcv_1 M.1) (Nat.le_of_ble_eq_true rfl) ?_
    refine r_isTran M (by omega) (by omega) (bh_1 ?_)
    refine x_ifeq_p (t := 35) k_132_19 rfl (fun c19 => ?_) (fun c19 => ?_)
    · refine x_iconst k_132_35 ?_
      exact J 1 0 (bI_1 (by omega)) (bI_0 (by first | omega | exact id))
    · refine x_aload_n k_132_22 rfl ?_
      refine x_get k_132_23 M.1 rfl ?_
      refine x_iload_n k_132_26 rfl ?_
      refine y_iaload (m := t.toNat) k_132_27 M.a4 (Or.inl rfl) (show t = ((t.toNat : Nat) : Int) by omega) (by omega) ?_
      have f27 := b.v4 (t.toNat)
      refine x_ifeq (t := 35) k_132_28 rfl (by show inR (A 4 (t.toNat)); omega) (fun hb => ?_) (fun hb => ?_)
      · have c28 : A 4 (t.toNat) = 0 := hb
        refine x_iconst k_132_35 ?_
        exact J 1 0 (bI_1 (by omega)) (bI_0 (by first | omega | exact id))
      · have c28 : ¬ (A 4 (t.toNat) = 0) := hb
        refine x_iconst k_132_31 ?_
        refine x_goto (t := 36) k_132_32 rfl ?_
        exact J 1 1 (bI_1 (by omega)) (bI_1 (by omega))
theorem r_write (M : MP am ad C A h) (b : RB C A) {t o v : Int} (ht : inR t) (ho : inR o) (kf : ∀ h', wcd (decide (badP C A t o false)) (decide (refP C A t)) ≠ 0 → MP am ad (up C 0 (wcd (decide (badP C A t o false)) (decide (refP C A t)))) A h' → Mv am ad h h' → Q (.inl none) h') (k0 : ∀ h', (¬ badP C A t o false ∧ ¬ refP C A t) → MP am ad (didC (up C 0 0)) (didA (up C 0 0) A t o v 0) h' → Mv am ad h h' → Q (.inl none) h') : Rn 115 0 (entL 115 [aR am, aI t, aI o, aL v]) [] h Q := by
  show Rn 115 0 [some (aR am), some (aI (t)), some (aI (o)), some (aL (v)), none] [] h Q
  refine x_aload_n k_115_0 rfl ?_
  refine x_iload_n k_115_1 rfl ?_
  refine x_iload_n k_115_2 rfl ?_
  refine x_iconst k_115_3 ?_
  refine x_call4 k_115_4 (Nat.le_of_ble_eq_true rfl) (rcv_1 M.1) (Nat.le_of_ble_eq_true rfl) ?_
  refine r_isWrong (s := false) M b (by omega) (by omega) (fun h M V => bh_1 ?_)
  refine x_ifne_p (t := 18) k_115_7 rfl (fun c7 => ?_) (fun c7 => ?_)
  · refine x_return k_115_18 ?_
    exact kf h c7 M V
  · have cG := wcd_z c7
    have M : MP am ad (up C 0 0) A h := by rw [← cG.1]; exact M
    refine x_aload_n k_115_10 rfl ?_
    refine x_iload_n k_115_11 rfl ?_
    refine x_iload_n k_115_12 rfl ?_
    refine x_lload_n k_115_13 rfl ?_
    refine x_iconst k_115_14 ?_
    refine x_call5 k_115_15 (Nat.le_of_ble_eq_true rfl) (rcv_1 M.1) (Nat.le_of_ble_eq_true rfl) ?_
    refine r_did M b (fun h M V1 => bh_v ?_)
    have V := V.tr V1
    refine x_return k_115_18 ?_
    exact k0 h cG.2 M V
theorem r_change (M : MP am ad C A h) (b : RB C A) {t o x : Int} {w : Bool} (ht : inR t) (ho : inR o) (hx : inR x) (kf : ∀ h', wcd (decide (badP C A t o true)) (decide (refP C A t)) ≠ 0 → MP am ad (up C 0 (wcd (decide (badP C A t o true)) (decide (refP C A t)))) A h' → Mv am ad h h' → Q (.inl none) h') (k0 : ∀ h', (¬ badP C A t o true ∧ ¬ refP C A t) → MP am ad (didC (up C 0 0)) (didA (up C 0 0) A t o x (if w = true then 1 else -1)) h' → Mv am ad h h' → Q (.inl none) h') : Rn 117 0 (entL 117 [aR am, aI t, aI o, aI x, aI (bI w)]) [] h Q := by
  show Rn 117 0 [some (aR am), some (aI (t)), some (aI (o)), some (aI (x)), some (aI (bI (w)))] [] h Q
  refine x_aload_n k_117_0 rfl ?_
  refine x_iload_n k_117_1 rfl ?_
  refine x_iload_n k_117_2 rfl ?_
  refine x_iconst k_117_3 ?_
  refine x_call4 k_117_4 (Nat.le_of_ble_eq_true rfl) (rcv_1 M.1) (Nat.le_of_ble_eq_true rfl) ?_
  refine r_isWrong (s := true) M b (by omega) (by omega) (fun h M V => bh_1 ?_)
  refine x_ifne_p (t := 28) k_117_7 rfl (fun c7 => ?_) (fun c7 => ?_)
  · refine x_return k_117_28 ?_
    exact kf h c7 M V
  · have cG := wcd_z c7
    have M : MP am ad (up C 0 0) A h := by rw [← cG.1]; exact M
    refine x_aload_n k_117_10 rfl ?_
    refine x_iload_n k_117_11 rfl ?_
    refine x_iload_n k_117_12 rfl ?_
    refine x_iload_n k_117_13 rfl ?_
    refine x_i2l k_117_14 (by show inR (x); omega) ?_
    refine x_iload k_117_15 rfl ?_
    refine x_ifeq_b (t := 24) k_117_17 rfl (fun c17 => ?_) (fun c17 => ?_)
    · refine x_iconst k_117_24 ?_
      refine x_call5 k_117_25 (Nat.le_of_ble_eq_true rfl) (rcv_1 M.1) (Nat.le_of_ble_eq_true rfl) ?_
      refine r_did M b (fun h M V1 => bh_v ?_)
      have V := V.tr V1
      refine x_return k_117_28 ?_
      exact k0 h cG.2 (by rw [if_neg (by rw [c17]; decide)]; exact M) V
    · refine x_iconst k_117_20 ?_
      refine x_goto (t := 25) k_117_21 rfl ?_
      refine x_call5 k_117_25 (Nat.le_of_ble_eq_true rfl) (rcv_1 M.1) (Nat.le_of_ble_eq_true rfl) ?_
      refine r_did M b (fun h M V1 => bh_v ?_)
      have V := V.tr V1
      refine x_return k_117_28 ?_
      exact k0 h cG.2 (by rw [if_pos c17]; exact M) V
abbrev cntP (A : Nat → Nat → Int) (t o : Nat) (e : Int) (k : Nat) : Prop := A 10 k = o ∧ A 12 k = e ∧ (A 9 k = t ∨ visB A (A 9 k).toNat t = true)
def cnt (A : Nat → Nat → Int) (t o : Nat) (e : Int) : Nat → Int
  | 0 => 0
  | k + 1 => if cntP A t o e k then cnt A t o e k + A 11 k else cnt A t o e k
theorem lp_countOf (M : MP am ad C A h) (b : RB C A) {t o : Nat} {e : Int} (ht : t < 500) (ho : o < 200) (he : inL e) (k : Q (.inl (some (aI (cnt A t o e (C 4).toNat)))) h) : ∀ n j : Nat, j + n = (C 4).toNat → Rn 119 6 [some (aR am), some (aI ((t : Int))), some (aI ((o : Int))), some (aL (e)), none, some (aI (cnt A t o e j)), some (aI ((j : Int)))] [] h Q := by
  intro n
  induction n using Nat.strongRecOn with | ind n ih => ?_
  intro j hj
  refine x_iload k_119_6 rfl ?_
  refine x_aload_n k_119_8 rfl ?_
  refine x_get k_119_9 M.1 rfl ?_
  have f9 := b.c4
  refine x_icmpge (t := 82) k_119_12 rfl (by show inR ((j : Int)) ∧ inR (C 4); omega) (fun hb => ?_) (fun hb => ?_)
  · have c12 : C 4 ≤ (j : Int) := hb
    refine x_iload k_119_82 rfl ?_
    refine x_ireturn k_119_84 rfl ?_
    have q : (C 4).toNat = j := by omega
    rw [q] at k
    exact k
  · have c12 : ¬ (C 4 ≤ (j : Int)) := hb
    refine x_aload_n k_119_15 rfl ?_
    refine x_get k_119_16 M.1 rfl ?_
    refine x_iload k_119_19 rfl ?_
    refine y_iaload (m := j) k_119_21 M.a10 (Or.inl rfl) rfl (by omega) ?_
    have f21 := b.v10 (j)
    refine x_iload_n k_119_22 rfl ?_
    refine x_icmpne (t := 76) k_119_23 rfl (by show inR (A 10 j) ∧ inR ((o : Int)); omega) (fun hb => ?_) (fun hb => ?_)
    · have c23 : ¬ A 10 j = (o : Int) := hb
      refine x_inc6 k_119_76 rfl ?_
      refine x_goto (t := 6) k_119_79 rfl ?_
      rw [show cnt A t o e j = cnt A t o e (j + 1) by simp only [cnt]; rw [if_neg (fun z => c23 z.1)]]
      exact ih (n - 1) (by omega) (j + 1) (by omega)
    · have c23 : ¬ (¬ A 10 j = (o : Int)) := hb
      refine x_aload_n k_119_26 rfl ?_
      refine x_get k_119_27 M.1 rfl ?_
      refine x_iload k_119_30 rfl ?_
      refine y_laload (m := j) k_119_32 M.a12 rfl (by omega) ?_
      have f32 := b.v12 (j)
      refine x_lload_n k_119_33 rfl ?_
      refine x_lcmp k_119_34 (by show inL (A 12 j) ∧ inL (e); exact ⟨by omega, by omega⟩) ?_
      refine x_ifne (t := 76) k_119_35 rfl (cmp_r _ _) (fun hb => ?_) (fun hb => ?_)
      · have c35 : ¬ A 12 j = e := (cmp_ne _ _).mp hb
        refine x_inc6 k_119_76 rfl ?_
        refine x_goto (t := 6) k_119_79 rfl ?_
        rw [show cnt A t o e j = cnt A t o e (j + 1) by simp only [cnt]; rw [if_neg (fun z => c35 z.2.1)]]
        exact ih (n - 1) (by omega) (j + 1) (by omega)
      · have c35 : ¬ (¬ A 12 j = e) := fun w => hb ((cmp_ne _ _).mpr w)
        refine x_aload_n k_119_38 rfl ?_
        refine x_get k_119_39 M.1 rfl ?_
        refine x_iload k_119_42 rfl ?_
        refine y_iaload (m := j) k_119_44 M.a9 (Or.inl rfl) rfl (by omega) ?_
        have f44 := b.v9 (j)
        refine x_iload_n k_119_45 rfl ?_
        refine x_icmpeq (t := 64) k_119_46 rfl (by show inR (A 9 j) ∧ inR ((t : Int)); omega) (fun hb => ?_) (fun hb => ?_)
        · have c46 : A 9 j = (t : Int) := hb
          refine x_iload k_119_64 rfl ?_
          refine x_aload_n k_119_66 rfl ?_
          refine x_get k_119_67 M.1 rfl ?_
          refine x_iload k_119_70 rfl ?_
          refine y_iaload (m := j) k_119_72 M.a11 (Or.inl rfl) rfl (by omega) ?_
          have f72 := b.v11 (j)
          refine x_iadd k_119_73 ?_
          refine x_is5 k_119_74 rfl ?_
          refine x_inc6 k_119_76 rfl ?_
          refine x_goto (t := 6) k_119_79 rfl ?_
          rw [show cnt A t o e j + A 11 j = cnt A t o e (j + 1) by simp only [cnt]; rw [if_pos ⟨by omega, by omega, Or.inl (by omega)⟩]]
          exact ih (n - 1) (by omega) (j + 1) (by omega)
        · have c46 : ¬ (A 9 j = (t : Int)) := hb
          refine x_aload_n k_119_49 rfl ?_
          refine x_aload_n k_119_50 rfl ?_
          refine x_get k_119_51 M.1 rfl ?_
          refine x_iload k_119_54 rfl ?_
          refine y_iaload (m := j) k_119_56 M.a9 (Or.inl rfl) rfl (by omega) ?_
          have f56 := b.v9 (j)
          refine x_top (show A 9 j = (((A 9 j).toNat : Nat) : Int) from by omega) ?_
          refine x_iload_n k_119_57 rfl ?_
          refine x_call3 k_119_58 (Nat.le_of_ble_eq_true rfl) (rcv_1 M.1) (Nat.le_of_ble_eq_true rfl) ?_
          refine r_visible (c := ((A 9 j).toNat)) (t := t) M b (by omega) (by omega) (bh_1 ?_)
          refine x_ifeq_b (t := 76) k_119_61 rfl (fun c61 => ?_) (fun c61 => ?_)
          · refine x_inc6 k_119_76 rfl ?_
            refine x_goto (t := 6) k_119_79 rfl ?_
            rw [show cnt A t o e j = cnt A t o e (j + 1) by simp only [cnt]; rw [if_neg (fun z => z.2.2.elim (fun y => c46 y) (fun y => by rw [c61] at y; cases y))]]
            exact ih (n - 1) (by omega) (j + 1) (by omega)
          · refine x_iload k_119_64 rfl ?_
            refine x_aload_n k_119_66 rfl ?_
            refine x_get k_119_67 M.1 rfl ?_
            refine x_iload k_119_70 rfl ?_
            refine y_iaload (m := j) k_119_72 M.a11 (Or.inl rfl) rfl (by omega) ?_
            have f72 := b.v11 (j)
            refine x_iadd k_119_73 ?_
            refine x_is5 k_119_74 rfl ?_
            refine x_inc6 k_119_76 rfl ?_
            refine x_goto (t := 6) k_119_79 rfl ?_
            rw [show cnt A t o e j + A 11 j = cnt A t o e (j + 1) by simp only [cnt]; rw [if_pos ⟨by omega, by omega, Or.inr c61⟩]]
            exact ih (n - 1) (by omega) (j + 1) (by omega)
theorem r_countOf (M : MP am ad C A h) (b : RB C A) {t o : Nat} {e : Int} (ht : t < 500) (ho : o < 200) (he : inL e) (k : Q (.inl (some (aI (cnt A t o e (C 4).toNat)))) h) : Rn 119 0 (entL 119 [aR am, aI t, aI o, aL e]) [] h Q := by
  show Rn 119 0 [some (aR am), some (aI t), some (aI o), some (aL e), none, none, none] [] h Q
  refine x_iconst k_119_0 ?_
  refine x_is5 k_119_1 rfl ?_
  refine x_iconst k_119_3 ?_
  refine x_is6 k_119_4 rfl ?_
  exact lp_countOf M b ht ho he k (C 4).toNat 0 (by omega)
theorem r_count3 (M : MP am ad C A h) (b : RB C A) {t o x : Int} (ht : inR t) (ho : inR o) (hx : inR x) (kf : ∀ h', wcd (decide (badP C A t o true)) (decide (refP C A t)) ≠ 0 → MP am ad (up C 0 (wcd (decide (badP C A t o true)) (decide (refP C A t)))) A h' → Mv am ad h h' → Q (.inl (some (aI 0))) h') (k0 : ∀ h', (¬ badP C A t o true ∧ ¬ refP C A t) → MP am ad (up C 0 0) A h' → Mv am ad h h' → Q (.inl (some (aI (cnt A t.toNat o.toNat x (C 4).toNat)))) h') : Rn 118 0 (entL 118 [aR am, aI t, aI o, aI x]) [] h Q := by
  show Rn 118 0 [some (aR am), some (aI (t)), some (aI (o)), some (aI (x))] [] h Q
  refine x_aload_n k_118_0 rfl ?_
  refine x_iload_n k_118_1 rfl ?_
  refine x_iload_n k_118_2 rfl ?_
  refine x_iconst k_118_3 ?_
  refine x_call4 k_118_4 (Nat.le_of_ble_eq_true rfl) (rcv_1 M.1) (Nat.le_of_ble_eq_true rfl) ?_
  refine r_isWrong (s := true) M b (by omega) (by omega) (fun h M V => bh_1 ?_)
  refine x_ifeq_p (t := 14) k_118_7 rfl (fun c7 => ?_) (fun c7 => ?_)
  · have cG := wcd_z c7
    have M : MP am ad (up C 0 0) A h := by rw [← cG.1]; exact M
    have b2 := b.c2
    have b3 := b.c3
    have cG2 := cG.2.1
    unfold badP at cG2
    refine x_aload_n k_118_14 rfl ?_
    refine x_iload_n k_118_15 rfl ?_
    refine x_top (show t = ((t.toNat : Nat) : Int) from by omega) ?_
    refine x_iload_n k_118_16 rfl ?_
    refine x_top (show o = ((o.toNat : Nat) : Int) from by omega) ?_
    refine x_iload_n k_118_17 rfl ?_
    refine x_i2l k_118_18 (by show inR (x); omega) ?_
    refine x_call4 k_118_19 (Nat.le_of_ble_eq_true rfl) (rcv_1 M.1) (Nat.le_of_ble_eq_true rfl) ?_
    refine r_countOf (C := up C 0 0) (t := t.toNat) (o := o.toNat) M b (by omega) (by omega) (by omega) (bh_1 ?_)
    refine x_ireturn k_118_22 rfl ?_
    exact k0 h cG.2 M V
  · refine x_iconst k_118_10 ?_
    refine x_goto (t := 22) k_118_11 rfl ?_
    refine x_ireturn k_118_22 rfl ?_
    exact kf h c7 M V
end M4
