section M6
variable {am : Nat} {ad : Nat → Nat} {C : Nat → Int} {A : Nat → Nat → Int} {h : AH} {Q : AR → AH → Prop}
def ltst (C : Nat → Int) (A : Nat → Nat → Int) (t o : Nat) : Nat → Int
  | 0 => -1
  | c + 1 => if visB A c t = true ∧ wrtB C A c o = true ∧ (ltst C A t o c < 0 ∨ visB A (ltst C A t o c).toNat c = true) then (c : Int) else ltst C A t o c
theorem ltst_b (t o : Nat) : ∀ n : Nat, -1 ≤ ltst C A t o n ∧ ltst C A t o n < n := by
  intro n
  induction n with
  | zero => exact ⟨by simp [ltst], by simp [ltst]⟩
  | succ c ih =>
    simp only [ltst]
    split <;> omega
theorem ltst_u (x : Int) (t o : Nat) : ∀ n : Nat, ltst (up C 0 x) A t o n = ltst C A t o n := by
  intro n
  induction n with
  | zero => rfl
  | succ c ih =>
    simp only [ltst, ih]
    rfl
def rdV (C : Nat → Int) (A : Nat → Nat → Int) (t o : Nat) : Int := if wrtB C A t o = true then lst A t o (C 4).toNat else if ltst C A t o (C 3).toNat < 0 then 0 else lst A (ltst C A t o (C 3).toNat).toNat o (C 4).toNat
theorem lp_read (M : MP am ad C A h) (b : RB C A) {t o : Nat} (ht : t < 500) (ho : o < 200) (k : Q (.inl (some (aL (if ltst C A t o (C 3).toNat < 0 then 0 else lst A (ltst C A t o (C 3).toNat).toNat o (C 4).toNat)))) h) : ∀ n j : Nat, j + n = (C 3).toNat → Rn 108 33 [some (aR am), some (aI ((t : Int))), some (aI ((o : Int))), some (aI (ltst C A t o j)), some (aI ((j : Int)))] [] h Q := by
  intro n
  induction n using Nat.strongRecOn with | ind n ih => ?_
  intro j hj
  have hc3 := b.c3
  have hlt := ltst_b (C := C) (A := A) t o j
  refine x_iload k_108_33 rfl ?_
  refine x_aload_n k_108_35 rfl ?_
  refine x_get k_108_36 M.1 rfl ?_
  have f36 := b.c3
  refine x_icmpge (t := 88) k_108_39 rfl (by show inR ((j : Int)) ∧ inR (C 3); omega) (fun hb => ?_) (fun hb => ?_)
  · have c39 : C 3 ≤ (j : Int) := hb
    have e : (C 3).toNat = j := by omega
    rw [e] at k
    refine x_iload_n k_108_88 rfl ?_
    refine x_ifge (t := 96) k_108_89 rfl (by show inR (ltst C A t o j); omega) (fun hb => ?_) (fun hb => ?_)
    · have c89 : 0 ≤ ltst C A t o j := hb
      refine x_aload_n k_108_96 rfl ?_
      refine x_iload_n k_108_97 rfl ?_
      refine x_top (show ltst C A t o j = (((ltst C A t o j).toNat : Nat) : Int) from by omega) ?_
      refine x_iload_n k_108_98 rfl ?_
      refine x_call3 k_108_99 (Nat.le_of_ble_eq_true rfl) (rcv_1 M.1) (Nat.le_of_ble_eq_true rfl) ?_
      refine r_lastOf (t := ((ltst C A t o j).toNat)) (o := o) M b (by omega) (by omega) (bh_1 ?_)
      refine x_lreturn k_108_102 ?_
      rw [if_neg (by omega)] at k
      exact k
    · have c89 : ¬ (0 ≤ ltst C A t o j) := hb
      refine x_lconst k_108_92 ?_
      refine x_goto (t := 102) k_108_93 rfl ?_
      refine x_lreturn k_108_102 ?_
      rw [if_pos (by omega)] at k
      exact k
  · have c39 : ¬ (C 3 ≤ (j : Int)) := hb
    refine x_aload_n k_108_42 rfl ?_
    refine x_iload k_108_43 rfl ?_
    refine x_iload_n k_108_45 rfl ?_
    refine x_call3 k_108_46 (Nat.le_of_ble_eq_true rfl) (rcv_1 M.1) (Nat.le_of_ble_eq_true rfl) ?_
    refine r_visible (c := j) (t := t) M b (by omega) (by omega) (bh_1 ?_)
    refine x_ifeq_b (t := 82) k_108_49 rfl (fun c49 => ?_) (fun c49 => ?_)
    · refine x_inc4 k_108_82 rfl ?_
      refine x_goto (t := 33) k_108_85 rfl ?_
      rw [show ltst C A t o j = ltst C A t o (j + 1) by simp only [ltst]; rw [if_neg (fun z => by rw [c49] at z; cases z.1)]]
      exact ih (n - 1) (by omega) (j + 1) (by omega)
    · refine x_aload_n k_108_52 rfl ?_
      refine x_iload k_108_53 rfl ?_
      refine x_iload_n k_108_55 rfl ?_
      refine x_call3 k_108_56 (Nat.le_of_ble_eq_true rfl) (rcv_1 M.1) (Nat.le_of_ble_eq_true rfl) ?_
      refine r_wrote (t := j) (o := o) M b (by omega) (by omega) (bh_1 ?_)
      refine x_ifne_b (t := 65) k_108_59 rfl (fun c59 => ?_) (fun c59 => ?_)
      · refine x_iload_n k_108_65 rfl ?_
        refine x_iflt (t := 79) k_108_66 rfl (by show inR (ltst C A t o j); omega) (fun hb => ?_) (fun hb => ?_)
        · have c66 : ltst C A t o j < 0 := hb
          refine x_iload k_108_79 rfl ?_
          refine x_is3n k_108_81 rfl ?_
          refine x_inc4 k_108_82 rfl ?_
          refine x_goto (t := 33) k_108_85 rfl ?_
          have z := ih (n - 1) (by omega) (j + 1) (by omega)
          rw [show ltst C A t o (j + 1) = ((j : Nat) : Int) by simp only [ltst]; rw [if_pos ⟨c49, c59, Or.inl c66⟩]] at z
          exact z
        · have c66 : ¬ (ltst C A t o j < 0) := hb
          refine x_aload_n k_108_69 rfl ?_
          refine x_iload_n k_108_70 rfl ?_
          refine x_top (show ltst C A t o j = (((ltst C A t o j).toNat : Nat) : Int) from by omega) ?_
          refine x_iload k_108_71 rfl ?_
          refine x_call3 k_108_73 (Nat.le_of_ble_eq_true rfl) (rcv_1 M.1) (Nat.le_of_ble_eq_true rfl) ?_
          refine r_visible (c := ((ltst C A t o j).toNat)) (t := j) M b (by omega) (by omega) (bh_1 ?_)
          refine x_ifeq_b (t := 82) k_108_76 rfl (fun c76 => ?_) (fun c76 => ?_)
          · refine x_inc4 k_108_82 rfl ?_
            refine x_goto (t := 33) k_108_85 rfl ?_
            rw [show ltst C A t o j = ltst C A t o (j + 1) by simp only [ltst]; rw [if_neg (fun z => z.2.2.elim (fun y => c66 y) (fun y => by rw [c76] at y; cases y))]]
            exact ih (n - 1) (by omega) (j + 1) (by omega)
          · refine x_iload k_108_79 rfl ?_
            refine x_is3n k_108_81 rfl ?_
            refine x_inc4 k_108_82 rfl ?_
            refine x_goto (t := 33) k_108_85 rfl ?_
            have z := ih (n - 1) (by omega) (j + 1) (by omega)
            rw [show ltst C A t o (j + 1) = ((j : Nat) : Int) by simp only [ltst]; rw [if_pos ⟨c49, c59, Or.inr c76⟩]] at z
            exact z
      · refine x_goto (t := 82) k_108_62 rfl ?_
        refine x_inc4 k_108_82 rfl ?_
        refine x_goto (t := 33) k_108_85 rfl ?_
        rw [show ltst C A t o j = ltst C A t o (j + 1) by simp only [ltst]; rw [if_neg (fun z => by rw [c59] at z; cases z.2.1)]]
        exact ih (n - 1) (by omega) (j + 1) (by omega)
theorem r_read (M : MP am ad C A h) (b : RB C A) {t o : Int} (ht : inR t) (ho : inR o) (kf : ∀ h', wcd (decide (badP C A t o false)) (decide (refP C A t)) ≠ 0 → MP am ad (up C 0 (wcd (decide (badP C A t o false)) (decide (refP C A t)))) A h' → Mv am ad h h' → Q (.inl (some (aL 0))) h') (k0 : ∀ h', (¬ badP C A t o false ∧ ¬ refP C A t) → MP am ad (up C 0 0) A h' → Mv am ad h h' → Q (.inl (some (aL (rdV C A t.toNat o.toNat)))) h') : Rn 108 0 (entL 108 [aR am, aI t, aI o]) [] h Q := by
  show Rn 108 0 [some (aR am), some (aI (t)), some (aI (o)), none, none] [] h Q
  refine x_aload_n k_108_0 rfl ?_
  refine x_iload_n k_108_1 rfl ?_
  refine x_iload_n k_108_2 rfl ?_
  refine x_iconst k_108_3 ?_
  refine x_call4 k_108_4 (Nat.le_of_ble_eq_true rfl) (rcv_1 M.1) (Nat.le_of_ble_eq_true rfl) ?_
  refine r_isWrong (s := false) M b (by omega) (by omega) (fun h M V => bh_1 ?_)
  refine x_ifeq_p (t := 12) k_108_7 rfl (fun c7 => ?_) (fun c7 => ?_)
  · have cG := wcd_z c7
    have M : MP am ad (up C 0 0) A h := by rw [← cG.1]; exact M
    have b2 := b.c2
    have b3 := b.c3
    have cG2 := cG.2.1
    unfold badP at cG2
    refine x_aload_n k_108_12 rfl ?_
    refine x_iload_n k_108_13 rfl ?_
    refine x_top (show t = ((t.toNat : Nat) : Int) from by omega) ?_
    refine x_iload_n k_108_14 rfl ?_
    refine x_top (show o = ((o.toNat : Nat) : Int) from by omega) ?_
    refine x_call3 k_108_15 (Nat.le_of_ble_eq_true rfl) (rcv_1 M.1) (Nat.le_of_ble_eq_true rfl) ?_
    refine r_wrote (t := (t.toNat)) (o := (o.toNat)) (C := up C 0 0) M b (by omega) (by omega) (bh_1 ?_)
    refine x_ifeq_b (t := 28) k_108_18 rfl (fun c18 => ?_) (fun c18 => ?_)
    · have k0 := k0 h cG.2 M V
      unfold rdV at k0
      rw [if_neg (by rw [show wrtB C A t.toNat o.toNat = false from c18]; decide)] at k0
      refine x_iconst k_108_28 ?_
      refine x_is3n k_108_29 rfl ?_
      refine x_iconst k_108_30 ?_
      refine x_is4 k_108_31 rfl ?_
      rw [show t = ((t.toNat : Nat) : Int) by omega, show o = ((o.toNat : Nat) : Int) by omega]
      refine lp_read (C := up C 0 0) M b (by omega) (by omega) ?_ (C 3).toNat 0 (Nat.zero_add _)
      rw [ltst_u]
      exact k0
    · refine x_aload_n k_108_21 rfl ?_
      refine x_iload_n k_108_22 rfl ?_
      refine x_top (show t = ((t.toNat : Nat) : Int) from by omega) ?_
      refine x_iload_n k_108_23 rfl ?_
      refine x_top (show o = ((o.toNat : Nat) : Int) from by omega) ?_
      refine x_call3 k_108_24 (Nat.le_of_ble_eq_true rfl) (rcv_1 M.1) (Nat.le_of_ble_eq_true rfl) ?_
      refine r_lastOf (t := (t.toNat)) (o := (o.toNat)) (C := up C 0 0) M b (by omega) (by omega) (bh_1 ?_)
      refine x_lreturn k_108_27 ?_
      have k0 := k0 h cG.2 M V
      unfold rdV at k0
      rw [if_pos (show wrtB C A t.toNat o.toNat = true from c18)] at k0
      exact k0
  · refine x_lconst k_108_10 ?_
    refine x_lreturn k_108_11 ?_
    exact kf h c7 M V
/-- what a transaction finds at its start: the first u places of its row -/
def stF (A : Nat → Nat → Int) (t s u : Nat) : Nat → Int := fun q => if 6 * t ≤ q ∧ q < 6 * t + u then A 13 (6 * s + (q - 6 * t)) else A 6 q
theorem stF_y {t s j q : Nat} : up (stF A t s j) (6 * t + j) (A 13 (6 * s + j)) q = stF A t s (j + 1) q := by
  unfold up
  by_cases hq : q = 6 * t + j
  · subst hq
    rw [if_pos rfl]
    unfold stF
    rw [if_pos ⟨by omega, by omega⟩, show 6 * t + j - 6 * t = j by omega]
  · rw [if_neg hq]
    unfold stF
    by_cases hz : 6 * t ≤ q ∧ q < 6 * t + j
    · rw [if_pos hz, if_pos ⟨by omega, by omega⟩]
    · rw [if_neg hz, if_neg (by omega)]
theorem lp_begin {h0 : AH} (b : RB C A) {t s : Nat} (ht : t < 500) (hs : s < 6) (k : ∀ h', MP am ad C (up A 6 (stF A t s (C 1).toNat)) h' → Mv am ad h0 h' → Q (.inl (some (aI t))) h') : ∀ n j : Nat, j + n = (C 1).toNat → ∀ h, MP am ad C (up A 6 (stF A t s j)) h → Mv am ad h0 h → Rn 107 61 [some (aR am), some (aI ((s : Int))), some (aI ((t : Int))), some (aI ((j : Int)))] [] h Q := by
  intro n
  induction n using Nat.strongRecOn with | ind n ih => ?_
  intro j hj h M V
  have hc1 := b.c1
  refine x_iload_n k_107_61 rfl ?_
  refine x_aload_n k_107_62 rfl ?_
  refine x_get k_107_63 M.1 rfl ?_
  have f63 := b.c1
  refine x_icmpge (t := 97) k_107_66 rfl (by show inR ((j : Int)) ∧ inR (C 1); omega) (fun hb => ?_) (fun hb => ?_)
  · have c66 : C 1 ≤ (j : Int) := hb
    refine x_iload_n k_107_97 rfl ?_
    refine x_ireturn k_107_98 rfl ?_
    have e : (C 1).toNat = j := by omega
    rw [e] at k
    exact k h M V
  · have c66 : ¬ (C 1 ≤ (j : Int)) := hb
    refine x_aload_n k_107_69 rfl ?_
    refine x_get k_107_70 M.1 rfl ?_
    refine x_bipush k_107_73 ?_
    refine x_iload_n k_107_75 rfl ?_
    refine x_imul k_107_76 ?_
    refine x_iload_n k_107_77 rfl ?_
    refine x_iadd k_107_78 ?_
    refine x_aload_n k_107_79 rfl ?_
    refine x_get k_107_80 M.1 rfl ?_
    refine x_bipush k_107_83 ?_
    refine x_iload_n k_107_85 rfl ?_
    refine x_imul k_107_86 ?_
    refine x_iload_n k_107_87 rfl ?_
    refine x_iadd k_107_88 ?_
    refine y_iaload (m := 6 * s + j) k_107_89 M.a13 (Or.inl rfl) (show ((6 * (s : Int)) + (j : Int)) = ((6 * s + j : Nat) : Int) by omega) (by omega) ?_
    have f89 := b.v13 (6 * s + j)
    refine y_iastore (m := 6 * t + j) k_107_90 M.a6 (show ((6 * (t : Int)) + (j : Int)) = ((6 * t + j : Nat) : Int) by omega) (by omega) ?_
    refine mgo (M.s6 _) (V.tr (Mv.ma (Nat.le_of_ble_eq_true rfl))) (fun h M V => ?_)
    refine x_inc3 k_107_91 rfl ?_
    refine x_goto (t := 61) k_107_94 rfl ?_
    exact ih (n - 1) (by omega) (j + 1) (by omega) h (M.ce (up2.trans (upe (fun q => stF_y)))) V
theorem r_begin (M : MP am ad C A h) (b : RB C A) {s : Int} (hs : inR s) (kf : ∀ h', wcd (decide (¬ (0 ≤ s ∧ s < C 1))) (decide (C 3 = 500)) ≠ 0 → MP am ad (up C 0 (wcd (decide (¬ (0 ≤ s ∧ s < C 1))) (decide (C 3 = 500)))) A h' → Mv am ad h h' → Q (.inl (some (aI 0))) h') (k0 : ∀ h', (¬ ¬ (0 ≤ s ∧ s < C 1) ∧ ¬ C 3 = 500) → MP am ad (up (up C 0 0) 3 (C 3 + 1)) (up (up A 3 (up (A 3) (C 3).toNat s)) 6 (stF (up A 3 (up (A 3) (C 3).toNat s)) (C 3).toNat s.toNat (C 1).toNat)) h' → Mv am ad h h' → Q (.inl (some (aI (C 3)))) h') : Rn 107 0 (entL 107 [aR am, aI s]) [] h Q := by
  show Rn 107 0 [some (aR am), some (aI (s)), none, none] [] h Q
  have b1 := b.c1
  have b2 := b.c2
  have b3 := b.c3
  have J : ∀ x y : Int, x = bI (decide (¬ (0 ≤ s ∧ s < C 1))) → y = bI (decide (C 3 = 500)) → Rn 107 29 [some (aR am), some (aI (s)), none, none] [aI y, aI x, aR am] h Q := by
    intro x y hx hy
    subst hx hy
    refine x_call3 k_107_29 (Nat.le_of_ble_eq_true rfl) (rcv_1 M.1) (Nat.le_of_ble_eq_true rfl) ?_
    refine r_fails M (fun h M V => bh_1 ?_)
    refine x_ifeq_p (t := 37) k_107_32 rfl (fun cF => ?_) (fun cF => ?_)
    · have cG := wcd_z cF
      have M : MP am ad (up C 0 0) A h := by rw [← cG.1]; exact M
      refine x_aload_n k_107_37 rfl ?_
      refine x_get k_107_38 M.1 rfl ?_
      have f38 := b.c3
      refine x_is2n k_107_41 rfl ?_
      refine x_aload_n k_107_42 rfl ?_
      refine x_dup k_107_43 rfl ?_
      refine x_get k_107_44 M.1 rfl ?_
      have f44 := b.c3
      refine x_iconst k_107_47 ?_
      refine x_iadd k_107_48 ?_
      refine x_put k_107_49 M.1 (Nat.le_of_ble_eq_true rfl) rfl ?_
      refine mgo (M.c3 _) (V.tr Mv.mo) (fun h M V => ?_)
      refine x_aload_n k_107_52 rfl ?_
      refine x_get k_107_53 M.1 rfl ?_
      refine x_iload_n k_107_56 rfl ?_
      refine x_iload_n k_107_57 rfl ?_
      refine y_iastore (m := (C 3).toNat) k_107_58 M.a3 (show C 3 = (((C 3).toNat : Nat) : Int) by omega) (by omega) ?_
      refine mgo (M.s3 _) (V.tr (Mv.ma (Nat.le_of_ble_eq_true rfl))) (fun h M V => ?_)
      refine x_iconst k_107_59 ?_
      refine x_is3n k_107_60 rfl ?_
      rw [show s = ((s.toNat : Nat) : Int) by omega, show up C 0 0 3 = (((C 3).toNat : Nat) : Int) from (show C 3 = (((C 3).toNat : Nat) : Int) by omega)]
      refine lp_begin (C := up (up C 0 0) 3 (C 3 + 1)) (A := up A 3 (up (A 3) (C 3).toNat s)) ((b.t3 ⟨by omega, by omega⟩).d3 ⟨by omega, by omega⟩) (t := (C 3).toNat) (s := s.toNat) (by omega) (by omega) ?_ (C 1).toNat 0 (Nat.zero_add _) h (M.ce (upself (fun q => if_neg (by omega))).symm) V
      intro h M V
      have k0 := k0 h cG.2 M V
      rw [show C 3 = (((C 3).toNat : Nat) : Int) by omega] at k0
      exact k0
    · refine x_iconst k_107_35 ?_
      refine x_ireturn k_107_36 rfl ?_
      exact kf h cF M V
  refine x_aload_n k_107_0 rfl ?_
  refine x_aload_n k_107_1 rfl ?_
  refine x_iload_n k_107_2 rfl ?_
  refine x_call2 k_107_3 (Nat.le_of_ble_eq_true rfl) (rcv_1 M.1) (Nat.le_of_ble_eq_true rfl) ?_
  refine r_isSite M (by omega) (by omega) (bh_1 ?_)
  refine x_ifne_p (t := 13) k_107_6 rfl (fun c6 => ?_) (fun c6 => ?_)
  · refine x_iconst k_107_13 ?_
    refine x_aload_n k_107_14 rfl ?_
    refine x_get k_107_15 M.1 rfl ?_
    have f15 := b.c3
    refine x_sipush k_107_18 ?_
    refine x_icmpne (t := 28) k_107_21 rfl (by show inR (C 3) ∧ inR (500); omega) (fun hb => ?_) (fun hb => ?_)
    · have c21 : ¬ C 3 = 500 := hb
      refine x_iconst k_107_28 ?_
      exact J 0 0 (bI_0 (by first | omega | exact id)) (bI_0 (by first | omega | exact id))
    · have c21 : ¬ (¬ C 3 = 500) := hb
      refine x_iconst k_107_24 ?_
      refine x_goto (t := 29) k_107_25 rfl ?_
      exact J 0 1 (bI_0 (by first | omega | exact id)) (bI_1 (by omega))
  · refine x_iconst k_107_9 ?_
    refine x_goto (t := 14) k_107_10 rfl ?_
    refine x_aload_n k_107_14 rfl ?_
    refine x_get k_107_15 M.1 rfl ?_
    have f15 := b.c3
    refine x_sipush k_107_18 ?_
    refine x_icmpne (t := 28) k_107_21 rfl (by show inR (C 3) ∧ inR (500); omega) (fun hb => ?_) (fun hb => ?_)
    · have c21 : ¬ C 3 = 500 := hb
      refine x_iconst k_107_28 ?_
      exact J 1 0 (bI_1 (by omega)) (bI_0 (by first | omega | exact id))
    · have c21 : ¬ (¬ C 3 = 500) := hb
      refine x_iconst k_107_24 ?_
      refine x_goto (t := 29) k_107_25 rfl ?_
      exact J 1 1 (bI_1 (by omega)) (bI_1 (by omega))
abbrev wtq (A : Nat → Nat → Int) (a d : Int) (k : Nat) : Prop := ¬ A 18 k = 0 ∧ A 16 k = a ∧ A 17 k = d
def wtn (A : Nat → Nat → Int) (a d : Int) : Nat → Int
  | 0 => 0
  | k + 1 => if wtq A a d k then wtn A a d k + 1 else wtn A a d k
theorem lp_waiting (M : MP am ad C A h) (b : RB C A) {a d : Int} (ha : inR a) (hd : inR d) (k : Q (.inl (some (aI (wtn A a d (C 5).toNat)))) h) : ∀ n j : Nat, j + n = (C 5).toNat → Rn 135 41 [some (aR am), some (aI (a)), some (aI (d)), some (aI (wtn A a d j)), some (aI ((j : Int)))] [] h Q := by
  intro n
  induction n using Nat.strongRecOn with | ind n ih => ?_
  intro j hj
  refine x_iload k_135_41 rfl ?_
  refine x_aload_n k_135_43 rfl ?_
  refine x_get k_135_44 M.1 rfl ?_
  have f44 := b.c5
  refine x_icmpge (t := 91) k_135_47 rfl (by show inR ((j : Int)) ∧ inR (C 5); omega) (fun hb => ?_) (fun hb => ?_)
  · have c47 : C 5 ≤ (j : Int) := hb
    refine x_iload_n k_135_91 rfl ?_
    refine x_ireturn k_135_92 rfl ?_
    have e : (C 5).toNat = j := by omega
    rw [e] at k
    exact k
  · have c47 : ¬ (C 5 ≤ (j : Int)) := hb
    refine x_aload_n k_135_50 rfl ?_
    refine x_get k_135_51 M.1 rfl ?_
    refine x_iload k_135_54 rfl ?_
    refine y_iaload (m := j) k_135_56 M.a18 (Or.inl rfl) rfl (by omega) ?_
    have f56 := b.v18 (j)
    refine x_ifeq (t := 85) k_135_57 rfl (by show inR (A 18 j); omega) (fun hb => ?_) (fun hb => ?_)
    · have c57 : A 18 j = 0 := hb
      refine x_inc4 k_135_85 rfl ?_
      refine x_goto (t := 41) k_135_88 rfl ?_
      rw [show wtn A a d j = wtn A a d (j + 1) by simp only [wtn]; rw [if_neg (by omega)]]
      exact ih (n - 1) (by omega) (j + 1) (by omega)
    · have c57 : ¬ (A 18 j = 0) := hb
      refine x_aload_n k_135_60 rfl ?_
      refine x_get k_135_61 M.1 rfl ?_
      refine x_iload k_135_64 rfl ?_
      refine y_iaload (m := j) k_135_66 M.a16 (Or.inl rfl) rfl (by omega) ?_
      have f66 := b.v16 (j)
      refine x_iload_n k_135_67 rfl ?_
      refine x_icmpne (t := 85) k_135_68 rfl (by show inR (A 16 j) ∧ inR (a); omega) (fun hb => ?_) (fun hb => ?_)
      · have c68 : ¬ A 16 j = a := hb
        refine x_inc4 k_135_85 rfl ?_
        refine x_goto (t := 41) k_135_88 rfl ?_
        rw [show wtn A a d j = wtn A a d (j + 1) by simp only [wtn]; rw [if_neg (by omega)]]
        exact ih (n - 1) (by omega) (j + 1) (by omega)
      · have c68 : ¬ (¬ A 16 j = a) := hb
        refine x_aload_n k_135_71 rfl ?_
        refine x_get k_135_72 M.1 rfl ?_
        refine x_iload k_135_75 rfl ?_
        refine y_iaload (m := j) k_135_77 M.a17 (Or.inl rfl) rfl (by omega) ?_
        have f77 := b.v17 (j)
        refine x_iload_n k_135_78 rfl ?_
        refine x_icmpne (t := 85) k_135_79 rfl (by show inR (A 17 j) ∧ inR (d); omega) (fun hb => ?_) (fun hb => ?_)
        · have c79 : ¬ A 17 j = d := hb
          refine x_inc4 k_135_85 rfl ?_
          refine x_goto (t := 41) k_135_88 rfl ?_
          rw [show wtn A a d j = wtn A a d (j + 1) by simp only [wtn]; rw [if_neg (by omega)]]
          exact ih (n - 1) (by omega) (j + 1) (by omega)
        · have c79 : ¬ (¬ A 17 j = d) := hb
          refine x_inc3 k_135_82 rfl ?_
          refine x_inc4 k_135_85 rfl ?_
          refine x_goto (t := 41) k_135_88 rfl ?_
          rw [show wtn A a d j + 1 = wtn A a d (j + 1) by simp only [wtn]; rw [if_pos ⟨by omega, by omega, by omega⟩]]
          exact ih (n - 1) (by omega) (j + 1) (by omega)
theorem r_waiting (M : MP am ad C A h) (b : RB C A) {a d : Int} (ha : inR a) (hd : inR d) (kf : ∀ h', wcd (decide (¬ ((0 ≤ a ∧ a < C 1) ∧ (0 ≤ d ∧ d < C 1)) ∨ a = d)) (decide (False)) ≠ 0 → MP am ad (up C 0 (wcd (decide (¬ ((0 ≤ a ∧ a < C 1) ∧ (0 ≤ d ∧ d < C 1)) ∨ a = d)) (decide (False)))) A h' → Mv am ad h h' → Q (.inl (some (aI 0))) h') (k0 : ∀ h', (¬ (¬ ((0 ≤ a ∧ a < C 1) ∧ (0 ≤ d ∧ d < C 1)) ∨ a = d) ∧ ¬ False) → MP am ad (up C 0 0) A h' → Mv am ad h h' → Q (.inl (some (aI (wtn A a d (C 5).toNat)))) h') : Rn 135 0 (entL 135 [aR am, aI a, aI d]) [] h Q := by
  show Rn 135 0 [some (aR am), some (aI (a)), some (aI (d)), none, none] [] h Q
  have b1 := b.c1
  have b2 := b.c2
  have b3 := b.c3
  have J : ∀ x y : Int, x = bI (decide (¬ ((0 ≤ a ∧ a < C 1) ∧ (0 ≤ d ∧ d < C 1)) ∨ a = d)) → y = bI (decide (False)) → Rn 135 28 [some (aR am), some (aI (a)), some (aI (d)), none, none] [aI y, aI x, aR am] h Q := by
    intro x y hx hy
    subst hx hy
    refine x_call3 k_135_28 (Nat.le_of_ble_eq_true rfl) (rcv_1 M.1) (Nat.le_of_ble_eq_true rfl) ?_
    refine r_fails M (fun h M V => bh_1 ?_)
    refine x_ifeq_p (t := 36) k_135_31 rfl (fun cF => ?_) (fun cF => ?_)
    · have cG := wcd_z cF
      have M : MP am ad (up C 0 0) A h := by rw [← cG.1]; exact M
      refine x_iconst k_135_36 ?_
      refine x_is3n k_135_37 rfl ?_
      refine x_iconst k_135_38 ?_
      refine x_is4 k_135_39 rfl ?_
      exact lp_waiting (C := up C 0 0) M b ha hd (k0 h cG.2 M V) (C 5).toNat 0 (Nat.zero_add _)
    · refine x_iconst k_135_34 ?_
      refine x_ireturn k_135_35 rfl ?_
      exact kf h cF M V
  refine x_aload_n k_135_0 rfl ?_
  refine x_aload_n k_135_1 rfl ?_
  refine x_iload_n k_135_2 rfl ?_
  refine x_call2 k_135_3 (Nat.le_of_ble_eq_true rfl) (rcv_1 M.1) (Nat.le_of_ble_eq_true rfl) ?_
  refine r_isSite M (by omega) (by omega) (bh_1 ?_)
  refine x_ifeq_p (t := 22) k_135_6 rfl (fun c6 => ?_) (fun c6 => ?_)
  · refine x_iconst k_135_22 ?_
    refine x_goto (t := 27) k_135_23 rfl ?_
    refine x_iconst k_135_27 ?_
    exact J 1 0 (bI_1 (by omega)) (bI_0 (by first | omega | exact id))
  · refine x_aload_n k_135_9 rfl ?_
    refine x_iload_n k_135_10 rfl ?_
    refine x_call2 k_135_11 (Nat.le_of_ble_eq_true rfl) (rcv_1 M.1) (Nat.le_of_ble_eq_true rfl) ?_
    refine r_isSite M (by omega) (by omega) (bh_1 ?_)
    refine x_ifeq_p (t := 22) k_135_14 rfl (fun c14 => ?_) (fun c14 => ?_)
    · refine x_iconst k_135_22 ?_
      refine x_goto (t := 27) k_135_23 rfl ?_
      refine x_iconst k_135_27 ?_
      exact J 1 0 (bI_1 (by omega)) (bI_0 (by first | omega | exact id))
    · refine x_iload_n k_135_17 rfl ?_
      refine x_iload_n k_135_18 rfl ?_
      refine x_icmpne (t := 26) k_135_19 rfl (by show inR (a) ∧ inR (d); omega) (fun hb => ?_) (fun hb => ?_)
      · have c19 : ¬ a = d := hb
        refine x_iconst k_135_26 ?_
        refine x_iconst k_135_27 ?_
        exact J 0 0 (bI_0 (by first | omega | exact id)) (bI_0 (by first | omega | exact id))
      · have c19 : ¬ (¬ a = d) := hb
        refine x_iconst k_135_22 ?_
        refine x_goto (t := 27) k_135_23 rfl ?_
        refine x_iconst k_135_27 ?_
        exact J 1 0 (bI_1 (by omega)) (bI_0 (by first | omega | exact id))
abbrev apq (A : Nat → Nat → Int) (t k : Nat) : Prop := 0 < A 5 t ∧ A 5 t ≤ A 13 (6 * k + (A 3 t).toNat)
def apn (A : Nat → Nat → Int) (t : Nat) : Nat → Int
  | 0 => 0
  | k + 1 => if apq A t k then apn A t k + 1 else apn A t k
def stR (C : Nat → Int) (A : Nat → Nat → Int) (t : Nat) (w : Int) : Int := if w = 0 then A 4 t else if w = 1 then A 5 t else if w = 3 then (if A 4 t = 3 then A 8 t - A 7 t else 0) else apn A t (C 1).toNat
theorem lp_state (M : MP am ad C A h) (b : RB C A) {t : Nat} {w : Int} (ht : t < 500) (k : Q (.inl (some (aI (apn A t (C 1).toNat)))) h) : ∀ n j : Nat, j + n = (C 1).toNat → Rn 137 93 [some (aR am), some (aI ((t : Int))), some (aI (w)), some (aI (apn A t j)), some (aI ((j : Int)))] [] h Q := by
  intro n
  induction n using Nat.strongRecOn with | ind n ih => ?_
  intro j hj
  have hc1 := b.c1
  refine x_iload k_137_93 rfl ?_
  refine x_aload_n k_137_95 rfl ?_
  refine x_get k_137_96 M.1 rfl ?_
  have f96 := b.c1
  refine x_icmpge (t := 146) k_137_99 rfl (by show inR ((j : Int)) ∧ inR (C 1); omega) (fun hb => ?_) (fun hb => ?_)
  · have c99 : C 1 ≤ (j : Int) := hb
    refine x_iload_n k_137_146 rfl ?_
    refine x_ireturn k_137_147 rfl ?_
    have e : (C 1).toNat = j := by omega
    rw [e] at k
    exact k
  · have c99 : ¬ (C 1 ≤ (j : Int)) := hb
    refine x_aload_n k_137_102 rfl ?_
    refine x_get k_137_103 M.1 rfl ?_
    refine x_iload_n k_137_106 rfl ?_
    refine y_iaload (m := t) k_137_107 M.a5 (Or.inl rfl) rfl (by omega) ?_
    have f107 := b.v5 (t)
    refine x_ifle (t := 140) k_137_108 rfl (by show inR (A 5 t); omega) (fun hb => ?_) (fun hb => ?_)
    · have c108 : A 5 t ≤ 0 := hb
      refine x_inc4 k_137_140 rfl ?_
      refine x_goto (t := 93) k_137_143 rfl ?_
      rw [show apn A t j = apn A t (j + 1) by simp only [apn]; rw [if_neg (by omega)]]
      exact ih (n - 1) (by omega) (j + 1) (by omega)
    · have c108 : ¬ (A 5 t ≤ 0) := hb
      refine x_aload_n k_137_111 rfl ?_
      refine x_get k_137_112 M.1 rfl ?_
      refine x_bipush k_137_115 ?_
      refine x_iload k_137_117 rfl ?_
      refine x_imul k_137_119 ?_
      refine x_aload_n k_137_120 rfl ?_
      refine x_get k_137_121 M.1 rfl ?_
      refine x_iload_n k_137_124 rfl ?_
      refine y_iaload (m := t) k_137_125 M.a3 (Or.inl rfl) rfl (by omega) ?_
      have f125 := b.v3 (t)
      refine x_iadd k_137_126 ?_
      refine y_iaload (m := 6 * j + (A 3 t).toNat) k_137_127 M.a13 (Or.inl rfl) (show ((6 * (j : Int)) + A 3 t) = ((6 * j + (A 3 t).toNat : Nat) : Int) by omega) (by omega) ?_
      have f127 := b.v13 (6 * j + (A 3 t).toNat)
      refine x_aload_n k_137_128 rfl ?_
      refine x_get k_137_129 M.1 rfl ?_
      refine x_iload_n k_137_132 rfl ?_
      refine y_iaload (m := t) k_137_133 M.a5 (Or.inl rfl) rfl (by omega) ?_
      have f133 := b.v5 (t)
      refine x_icmplt (t := 140) k_137_134 rfl (by show inR (A 13 (6 * j + (A 3 t).toNat)) ∧ inR (A 5 t); omega) (fun hb => ?_) (fun hb => ?_)
      · have c134 : A 13 (6 * j + (A 3 t).toNat) < A 5 t := hb
        refine x_inc4 k_137_140 rfl ?_
        refine x_goto (t := 93) k_137_143 rfl ?_
        rw [show apn A t j = apn A t (j + 1) by simp only [apn]; rw [if_neg (by omega)]]
        exact ih (n - 1) (by omega) (j + 1) (by omega)
      · have c134 : ¬ (A 13 (6 * j + (A 3 t).toNat) < A 5 t) := hb
        refine x_inc3 k_137_137 rfl ?_
        refine x_inc4 k_137_140 rfl ?_
        refine x_goto (t := 93) k_137_143 rfl ?_
        rw [show apn A t j + 1 = apn A t (j + 1) by simp only [apn]; rw [if_pos ⟨by omega, by omega⟩]]
        exact ih (n - 1) (by omega) (j + 1) (by omega)
theorem r_state (M : MP am ad C A h) (b : RB C A) {t w : Int} (ht : inR t) (hw : inR w) (kf : ∀ h', wcd (decide (¬ (0 ≤ t ∧ t < C 3) ∨ w < 0 ∨ 3 < w)) (decide (False)) ≠ 0 → MP am ad (up C 0 (wcd (decide (¬ (0 ≤ t ∧ t < C 3) ∨ w < 0 ∨ 3 < w)) (decide (False)))) A h' → Mv am ad h h' → Q (.inl (some (aI 0))) h') (k0 : ∀ h', (¬ (¬ (0 ≤ t ∧ t < C 3) ∨ w < 0 ∨ 3 < w) ∧ ¬ False) → MP am ad (up C 0 0) A h' → Mv am ad h h' → Q (.inl (some (aI (stR C A t.toNat w)))) h') : Rn 137 0 (entL 137 [aR am, aI t, aI w]) [] h Q := by
  show Rn 137 0 [some (aR am), some (aI (t)), some (aI (w)), none, none] [] h Q
  have b1 := b.c1
  have b2 := b.c2
  have b3 := b.c3
  have J : ∀ x y : Int, x = bI (decide (¬ (0 ≤ t ∧ t < C 3) ∨ w < 0 ∨ 3 < w)) → y = bI (decide (False)) → Rn 137 24 [some (aR am), some (aI (t)), some (aI (w)), none, none] [aI y, aI x, aR am] h Q := by
    intro x y hx hy
    subst hx hy
    refine x_call3 k_137_24 (Nat.le_of_ble_eq_true rfl) (rcv_1 M.1) (Nat.le_of_ble_eq_true rfl) ?_
    refine r_fails M (fun h M V => bh_1 ?_)
    refine x_ifeq_p (t := 32) k_137_27 rfl (fun cF => ?_) (fun cF => ?_)
    · have cG := wcd_z cF
      have M : MP am ad (up C 0 0) A h := by rw [← cG.1]; exact M
      refine x_iload_n k_137_32 rfl ?_
      refine x_ifne (t := 43) k_137_33 rfl (by show inR (w); omega) (fun hb => ?_) (fun hb => ?_)
      · have c33 : ¬ w = 0 := hb
        refine x_iload_n k_137_43 rfl ?_
        refine x_iconst k_137_44 ?_
        refine x_icmpne (t := 55) k_137_45 rfl (by show inR (w) ∧ inR (1); omega) (fun hb => ?_) (fun hb => ?_)
        · have c45 : ¬ w = 1 := hb
          refine x_iload_n k_137_55 rfl ?_
          refine x_iconst k_137_56 ?_
          refine x_icmpne (t := 88) k_137_57 rfl (by show inR (w) ∧ inR (3); omega) (fun hb => ?_) (fun hb => ?_)
          · have c57 : ¬ w = 3 := hb
            refine x_iconst k_137_88 ?_
            refine x_is3n k_137_89 rfl ?_
            refine x_iconst k_137_90 ?_
            refine x_is4 k_137_91 rfl ?_
            have k0 := k0 h cG.2 M V
            unfold stR at k0
            rw [if_neg (by omega), if_neg (by omega), if_neg (by omega)] at k0
            rw [show t = ((t.toNat : Nat) : Int) by omega]
            exact lp_state (C := up C 0 0) M b (by omega) k0 (C 1).toNat 0 (Nat.zero_add _)
          · have c57 : ¬ (¬ w = 3) := hb
            refine x_aload_n k_137_60 rfl ?_
            refine x_get k_137_61 M.1 rfl ?_
            refine x_iload_n k_137_64 rfl ?_
            refine y_iaload (m := t.toNat) k_137_65 M.a4 (Or.inl rfl) (show t = ((t.toNat : Nat) : Int) by omega) (by omega) ?_
            have f65 := b.v4 (t.toNat)
            refine x_iconst k_137_66 ?_
            refine x_icmpne (t := 86) k_137_67 rfl (by show inR (A 4 (t.toNat)) ∧ inR (3); omega) (fun hb => ?_) (fun hb => ?_)
            · have c67 : ¬ A 4 (t.toNat) = 3 := hb
              refine x_iconst k_137_86 ?_
              refine x_ireturn k_137_87 rfl ?_
              have k0 := k0 h cG.2 M V
              unfold stR at k0
              rw [if_neg (by omega), if_neg (by omega), if_pos (by omega), if_neg (by omega)] at k0
              exact k0
            · have c67 : ¬ (¬ A 4 (t.toNat) = 3) := hb
              refine x_aload_n k_137_70 rfl ?_
              refine x_get k_137_71 M.1 rfl ?_
              refine x_iload_n k_137_74 rfl ?_
              refine y_iaload (m := t.toNat) k_137_75 M.a8 (Or.inl rfl) (show t = ((t.toNat : Nat) : Int) by omega) (by omega) ?_
              have f75 := b.v8 (t.toNat)
              refine x_aload_n k_137_76 rfl ?_
              refine x_get k_137_77 M.1 rfl ?_
              refine x_iload_n k_137_80 rfl ?_
              refine y_iaload (m := t.toNat) k_137_81 M.a7 (Or.inl rfl) (show t = ((t.toNat : Nat) : Int) by omega) (by omega) ?_
              have f81 := b.v7 (t.toNat)
              refine x_isub k_137_82 ?_
              refine x_goto (t := 87) k_137_83 rfl ?_
              refine x_ireturn k_137_87 rfl ?_
              have k0 := k0 h cG.2 M V
              unfold stR at k0
              rw [if_neg (by omega), if_neg (by omega), if_pos (by omega), if_pos (by omega)] at k0
              exact k0
        · have c45 : ¬ (¬ w = 1) := hb
          refine x_aload_n k_137_48 rfl ?_
          refine x_get k_137_49 M.1 rfl ?_
          refine x_iload_n k_137_52 rfl ?_
          refine y_iaload (m := t.toNat) k_137_53 M.a5 (Or.inl rfl) (show t = ((t.toNat : Nat) : Int) by omega) (by omega) ?_
          have f53 := b.v5 (t.toNat)
          refine x_ireturn k_137_54 rfl ?_
          have k0 := k0 h cG.2 M V
          unfold stR at k0
          rw [if_neg (by omega), if_pos (by omega)] at k0
          exact k0
      · have c33 : ¬ (¬ w = 0) := hb
        refine x_aload_n k_137_36 rfl ?_
        refine x_get k_137_37 M.1 rfl ?_
        refine x_iload_n k_137_40 rfl ?_
        refine y_iaload (m := t.toNat) k_137_41 M.a4 (Or.inl rfl) (show t = ((t.toNat : Nat) : Int) by omega) (by omega) ?_
        have f41 := b.v4 (t.toNat)
        refine x_ireturn k_137_42 rfl ?_
        have k0 := k0 h cG.2 M V
        unfold stR at k0
        rw [if_pos (by omega)] at k0
        exact k0
    · refine x_iconst k_137_30 ?_
      refine x_ireturn k_137_31 rfl ?_
      exact kf h cF M V
  refine x_aload_n k_137_0 rfl ?_
  refine x_aload_n k_137_1 rfl ?_
  refine x_iload_n k_137_2 rfl ?_
  refine x_call2 k_137_3 (Nat.le_of_ble_eq_true rfl) (rcv_1 M.1) (Nat.le_of_ble_eq_true rfl) ?_
  refine r_isTran M (by omega) (by omega) (bh_1 ?_)
  refine x_ifeq_p (t := 18) k_137_6 rfl (fun c6 => ?_) (fun c6 => ?_)
  · refine x_iconst k_137_18 ?_
    refine x_goto (t := 23) k_137_19 rfl ?_
    refine x_iconst k_137_23 ?_
    exact J 1 0 (bI_1 (by omega)) (bI_0 (by first | omega | exact id))
  · refine x_iload_n k_137_9 rfl ?_
    refine x_iflt (t := 18) k_137_10 rfl (by show inR (w); omega) (fun hb => ?_) (fun hb => ?_)
    · have c10 : w < 0 := hb
      refine x_iconst k_137_18 ?_
      refine x_goto (t := 23) k_137_19 rfl ?_
      refine x_iconst k_137_23 ?_
      exact J 1 0 (bI_1 (by omega)) (bI_0 (by first | omega | exact id))
    · have c10 : ¬ (w < 0) := hb
      refine x_iload_n k_137_13 rfl ?_
      refine x_iconst k_137_14 ?_
      refine x_icmple (t := 22) k_137_15 rfl (by show inR (w) ∧ inR (3); omega) (fun hb => ?_) (fun hb => ?_)
      · have c15 : w ≤ 3 := hb
        refine x_iconst k_137_22 ?_
        refine x_iconst k_137_23 ?_
        exact J 0 0 (bI_0 (by first | omega | exact id)) (bI_0 (by first | omega | exact id))
      · have c15 : ¬ (w ≤ 3) := hb
        refine x_iconst k_137_18 ?_
        refine x_goto (t := 23) k_137_19 rfl ?_
        refine x_iconst k_137_23 ?_
        exact J 1 0 (bI_1 (by omega)) (bI_0 (by first | omega | exact id))
def hsm (A : Nat → Nat → Int) : Nat → Int
  | 0 => 0
  | k + 1 => hsm A k + A 21 k
def msm (A : Nat → Nat → Int) : Nat → Int
  | 0 => 0
  | k + 1 => if A 18 k = 0 then msm A k else msm A k + 1
def cnR (C : Nat → Int) (A : Nat → Nat → Int) (w : Int) : Int := if w = 0 then C 1 else if w = 1 then C 2 else if w = 2 then C 3 else if w = 3 then C 6 else if w = 4 then hsm A (C 1).toNat else if w = 5 then msm A (C 5).toNat else -1
theorem lp_cn4 (M : MP am ad C A h) (b : RB C A) {w : Int} (k : Q (.inl (some (aI (hsm A (C 1).toNat)))) h) : ∀ n j : Nat, j + n = (C 1).toNat → Rn 139 70 [some (aR am), some (aI (w)), some (aI (hsm A j)), some (aI ((j : Int)))] [] h Q := by
  intro n
  induction n using Nat.strongRecOn with | ind n ih => ?_
  intro j hj
  have hc1 := b.c1
  refine x_iload_n k_139_70 rfl ?_
  refine x_aload_n k_139_71 rfl ?_
  refine x_get k_139_72 M.1 rfl ?_
  have f72 := b.c1
  refine x_icmpge (t := 93) k_139_75 rfl (by show inR ((j : Int)) ∧ inR (C 1); omega) (fun hb => ?_) (fun hb => ?_)
  · have c75 : C 1 ≤ (j : Int) := hb
    refine x_iload_n k_139_93 rfl ?_
    refine x_ireturn k_139_94 rfl ?_
    have e : (C 1).toNat = j := by omega
    rw [e] at k
    exact k
  · have c75 : ¬ (C 1 ≤ (j : Int)) := hb
    refine x_iload_n k_139_78 rfl ?_
    refine x_aload_n k_139_79 rfl ?_
    refine x_get k_139_80 M.1 rfl ?_
    refine x_iload_n k_139_83 rfl ?_
    refine y_iaload (m := j) k_139_84 M.a21 (Or.inl rfl) rfl (by omega) ?_
    have f84 := b.v21 (j)
    refine x_iadd k_139_85 ?_
    refine x_is2n k_139_86 rfl ?_
    refine x_inc3 k_139_87 rfl ?_
    refine x_goto (t := 70) k_139_90 rfl ?_
    exact ih (n - 1) (by omega) (j + 1) (by omega)
theorem lp_cn5 (M : MP am ad C A h) (b : RB C A) {w : Int} (k : Q (.inl (some (aI (msm A (C 5).toNat)))) h) : ∀ n j : Nat, j + n = (C 5).toNat → Rn 139 97 [some (aR am), some (aI (w)), some (aI (msm A j)), some (aI ((j : Int)))] [] h Q := by
  intro n
  induction n using Nat.strongRecOn with | ind n ih => ?_
  intro j hj
  refine x_iload_n k_139_97 rfl ?_
  refine x_aload_n k_139_98 rfl ?_
  refine x_get k_139_99 M.1 rfl ?_
  have f99 := b.c5
  refine x_icmpge (t := 123) k_139_102 rfl (by show inR ((j : Int)) ∧ inR (C 5); omega) (fun hb => ?_) (fun hb => ?_)
  · have c102 : C 5 ≤ (j : Int) := hb
    refine x_iload_n k_139_123 rfl ?_
    refine x_ireturn k_139_124 rfl ?_
    have e : (C 5).toNat = j := by omega
    rw [e] at k
    exact k
  · have c102 : ¬ (C 5 ≤ (j : Int)) := hb
    refine x_aload_n k_139_105 rfl ?_
    refine x_get k_139_106 M.1 rfl ?_
    refine x_iload_n k_139_109 rfl ?_
    refine y_iaload (m := j) k_139_110 M.a18 (Or.inl rfl) rfl (by omega) ?_
    have f110 := b.v18 (j)
    refine x_ifeq (t := 117) k_139_111 rfl (by show inR (A 18 j); omega) (fun hb => ?_) (fun hb => ?_)
    · have c111 : A 18 j = 0 := hb
      refine x_inc3 k_139_117 rfl ?_
      refine x_goto (t := 97) k_139_120 rfl ?_
      rw [show msm A j = msm A (j + 1) by simp only [msm]; rw [if_pos (by omega)]]
      exact ih (n - 1) (by omega) (j + 1) (by omega)
    · have c111 : ¬ (A 18 j = 0) := hb
      refine x_inc2 k_139_114 rfl ?_
      refine x_inc3 k_139_117 rfl ?_
      refine x_goto (t := 97) k_139_120 rfl ?_
      rw [show msm A j + 1 = msm A (j + 1) by simp only [msm]; rw [if_neg (by omega)]]
      exact ih (n - 1) (by omega) (j + 1) (by omega)
theorem r_count1 (M : MP am ad C A h) (b : RB C A) {w : Int} (hw : inR w) (k : ∀ h', MP am ad (up C 0 0) A h' → Mv am ad h h' → Q (.inl (some (aI (cnR C A w)))) h') : Rn 139 0 (entL 139 [aR am, aI w]) [] h Q := by
  show Rn 139 0 [some (aR am), some (aI (w)), none, none] [] h Q
  have V : Mv am ad h h := Mv.rf
  refine x_aload_n k_139_0 rfl ?_
  refine x_iconst k_139_1 ?_
  refine x_put k_139_2 M.1 (Nat.le_of_ble_eq_true rfl) rfl ?_
  refine mgo (M.c0 _) (V.tr Mv.mo) (fun h M V => ?_)
  refine x_iconst k_139_5 ?_
  refine x_is2n k_139_6 rfl ?_
  refine x_iload_n k_139_7 rfl ?_
  by_cases w0 : w = 0
  · refine x_tabIn (o := 40) (t := 48) k_139_8 hw (by omega) (by subst w0; rfl) rfl ?_
    refine x_aload_n k_139_48 rfl ?_
    refine x_get k_139_49 M.1 rfl ?_
    have f49 := b.c1
    refine x_ireturn k_139_52 rfl ?_
    have k := k h M V
    unfold cnR at k
    rw [if_pos (by omega)] at k
    exact k
  by_cases w1 : w = 1
  · refine x_tabIn (o := 45) (t := 53) k_139_8 hw (by omega) (by subst w1; rfl) rfl ?_
    refine x_aload_n k_139_53 rfl ?_
    refine x_get k_139_54 M.1 rfl ?_
    have f54 := b.c2
    refine x_ireturn k_139_57 rfl ?_
    have k := k h M V
    unfold cnR at k
    rw [if_neg (by omega), if_pos (by omega)] at k
    exact k
  by_cases w2 : w = 2
  · refine x_tabIn (o := 50) (t := 58) k_139_8 hw (by omega) (by subst w2; rfl) rfl ?_
    refine x_aload_n k_139_58 rfl ?_
    refine x_get k_139_59 M.1 rfl ?_
    have f59 := b.c3
    refine x_ireturn k_139_62 rfl ?_
    have k := k h M V
    unfold cnR at k
    rw [if_neg (by omega), if_neg (by omega), if_pos (by omega)] at k
    exact k
  by_cases w3 : w = 3
  · refine x_tabIn (o := 55) (t := 63) k_139_8 hw (by omega) (by subst w3; rfl) rfl ?_
    refine x_aload_n k_139_63 rfl ?_
    refine x_get k_139_64 M.1 rfl ?_
    have f64 := b.c6
    refine x_ireturn k_139_67 rfl ?_
    have k := k h M V
    unfold cnR at k
    rw [if_neg (by omega), if_neg (by omega), if_neg (by omega), if_pos (by omega)] at k
    exact k
  by_cases w4 : w = 4
  · refine x_tabIn (o := 60) (t := 68) k_139_8 hw (by omega) (by subst w4; rfl) rfl ?_
    refine x_iconst k_139_68 ?_
    refine x_is3n k_139_69 rfl ?_
    have k := k h M V
    unfold cnR at k
    rw [if_neg (by omega), if_neg (by omega), if_neg (by omega), if_neg (by omega), if_pos (by omega)] at k
    exact lp_cn4 (C := up C 0 0) M b k (C 1).toNat 0 (Nat.zero_add _)
  by_cases w5 : w = 5
  · refine x_tabIn (o := 87) (t := 95) k_139_8 hw (by omega) (by subst w5; rfl) rfl ?_
    refine x_iconst k_139_95 ?_
    refine x_is3n k_139_96 rfl ?_
    have k := k h M V
    unfold cnR at k
    rw [if_neg (by omega), if_neg (by omega), if_neg (by omega), if_neg (by omega), if_neg (by omega), if_pos (by omega)] at k
    exact lp_cn5 (C := up C 0 0) M b k (C 5).toNat 0 (Nat.zero_add _)
  refine x_tabOut (t := 125) k_139_8 hw (by omega) rfl ?_
  refine x_iconst k_139_125 ?_
  refine x_ireturn k_139_126 rfl ?_
  have k := k h M V
  unfold cnR at k
  rw [if_neg (by omega), if_neg (by omega), if_neg (by omega), if_neg (by omega), if_neg (by omega), if_neg (by omega)] at k
  exact k
end M6
