section M8
variable {am : Nat} {ad : Nat → Nat} {C : Nat → Int} {A : Nat → Nat → Int} {h : AH} {Q : AR → AH → Prop}
abbrev CA : Type := (Nat → Int) × (Nat → Nat → Int)
/-- messages to those u below n of whom P speaks -/
noncomputable def bcs (P : Nat → Prop) (a so t : Int) (C : Nat → Int) (A : Nat → Nat → Int) : Nat → CA
  | 0 => (C, A)
  | u + 1 => @ite CA (P u) (Classical.propDecidable (P u)) (sndC (bcs P a so t C A u).1, sndA (bcs P a so t C A u).1 (bcs P a so t C A u).2 a u so t) (bcs P a so t C A u)
theorem bcs_y {P : Nat → Prop} {a so t : Int} {u : Nat} (hp : P u) : bcs P a so t C A (u + 1) = (sndC (bcs P a so t C A u).1, sndA (bcs P a so t C A u).1 (bcs P a so t C A u).2 a u so t) := by
  simp only [bcs]
  exact if_pos hp
theorem bcs_n {P : Nat → Prop} {a so t : Int} {u : Nat} (hp : ¬ P u) : bcs P a so t C A (u + 1) = bcs P a so t C A u := by
  simp only [bcs]
  exact if_neg hp
def bcOk (C : Nat → Int) (A : Nat → Nat → Int) (u : Nat) (p : CA) : Prop := RB p.1 p.2 ∧ C 5 ≤ p.1 5 ∧ p.1 5 ≤ C 5 + u ∧ (∀ k, ¬ k = 5 → p.1 k = C k) ∧ (∀ k, k < 16 ∨ 19 < k → p.2 k = A k)
theorem snd_b (b : RB C A) {a d so t : Int} (ha : 0 ≤ a ∧ a < 6) (hd : 0 ≤ d ∧ d < 6) (hso : 0 ≤ so ∧ so ≤ 5) (ht : 0 ≤ t ∧ t < 500) (h5 : C 5 < 15000) : RB (sndC C) (sndA C A a d so t) := by
  have := b.c5
  exact ((((b.t16 ha).t17 hd).t18 hso).t19 ht).d5 ⟨by omega, by omega⟩
theorem bcs_ok (b : RB C A) {P : Nat → Prop} {a so t : Int} (ha : 0 ≤ a ∧ a < 6) (hso : 0 ≤ so ∧ so ≤ 5) (ht : 0 ≤ t ∧ t < 500) (h5 : C 5 + 6 ≤ 15000) : ∀ u, u ≤ 6 → bcOk C A u (bcs P a so t C A u) := by
  intro u
  induction u with
  | zero => intro _; exact ⟨b, Int.le_refl _, by simp [bcs], fun _ _ => rfl, fun _ _ => rfl⟩
  | succ u ih =>
    intro hu
    obtain ⟨b1, q1, q2, q3, q4⟩ := ih (by omega)
    by_cases hp : P u
    · rw [bcs_y hp]
      refine ⟨snd_b b1 ha ⟨by omega, by omega⟩ hso ht (by omega), ?_, ?_, fun k hk => ?_, fun k hk => ?_⟩
      · show C 5 ≤ (bcs P a so t C A u).1 5 + 1
        omega
      · show (bcs P a so t C A u).1 5 + 1 ≤ C 5 + ((u + 1 : Nat) : Int)
        omega
      · exact (up_n hk).trans (q3 k hk)
      · exact ((up_n (by omega)).trans ((up_n (by omega)).trans ((up_n (by omega)).trans (up_n (by omega))))).trans (q4 k hk)
    · rw [bcs_n hp]
      exact ⟨b1, q1, by omega, q3, q4⟩
noncomputable def nP (P : Nat → Prop) : Nat → Int
  | 0 => 0
  | u + 1 => nP P u + pI (P u)
theorem nP_b (P : Nat → Prop) : ∀ u : Nat, 0 ≤ nP P u ∧ nP P u ≤ u := by
  intro u
  induction u with
  | zero => simp [nP]
  | succ u ih =>
    have := pI_01 (P u)
    simp only [nP]
    omega
theorem wraP_e {C' : Nat → Int} {A' : Nat → Nat → Int} {t s : Nat} (h2 : C' 2 = C 2) (h4 : C' 4 = C 4) (a0 : A' 0 = A 0) (a2 : A' 2 = A 2) (a9 : A' 9 = A 9) (a10 : A' 10 = A 10) : wraP C' A' t s ↔ wraP C A t s := by
  unfold wraP wrq wrtB
  rw [h2, h4, a0, a2, a9, a10]
theorem snd_up8 {a d so t : Int} {f : Nat → Int} : sndA C (up A 8 f) a d so t = up (sndA C A a d so t) 8 f := by
  funext k
  by_cases h19 : k = 19
  · subst h19; rfl
  · by_cases h18 : k = 18
    · subst h18; rfl
    · by_cases h17 : k = 17
      · subst h17; rfl
      · by_cases h16 : k = 16
        · subst h16; rfl
        · unfold sndA
          rw [up_n h19, up_n h18, up_n h17, up_n h16]
          by_cases h8 : k = 8
          · subst h8; rfl
          · rw [up_n h8, up_n h8, up_n h19, up_n h18, up_n h17, up_n h16]
def cm0A (A : Nat → Nat → Int) (t s : Nat) : Nat → Nat → Int := up (up (up (up (up A 4 (up (A 4) t 1)) 14 (up (A 14) s (A 14 s + 1))) 5 (up (A 5) t (A 14 s + 1))) 15 (up (A 15) (501 * s + (A 14 s + 1).toNat) t)) 13 (up (A 13) (6 * s + s) (A 14 s + 1))
def cmC (C : Nat → Int) : Nat → Int := up C 6 (C 6 + 1)
def cm1A (C : Nat → Int) (A : Nat → Nat → Int) (t s : Nat) : Nat → Nat → Int := up (cm0A A t s) 1 (unlF A t s (C 2).toNat)
theorem cm0A_b (b : RB C A) {t s : Nat} (h14 : A 14 s < 500) (h6 : C 6 < 1000) : RB (cmC C) (cm0A A t s) := by
  have h1 := b.v14 s
  have h2 := b.c6
  exact (((((b.t4 ⟨by omega, by omega⟩).t14 ⟨by omega, by omega⟩).t5 ⟨by omega, by omega⟩).s15).t13 ⟨by omega, by omega⟩).d6 ⟨by omega, by omega⟩
theorem cm1A_b (b : RB C A) {t s : Nat} (h14 : A 14 s < 500) (h6 : C 6 < 1000) : RB (cmC C) (cm1A C A t s) := (cm0A_b b h14 h6).s1 (unlF_b b)
noncomputable def cmS (C : Nat → Int) (A : Nat → Nat → Int) (t s : Nat) : CA := bcs (fun u => ¬ u = s) s 5 t (cmC C) (cm1A C A t s) (C 1).toNat
/-- what a commit made by t at its site s leaves -/
def cmsP (C : Nat → Int) (A : Nat → Nat → Int) (t s : Nat) (C' : Nat → Int) (A' : Nat → Nat → Int) : Prop := ∃ n, C' = (cmS C A t s).1 ∧ rlsP C' s n (cmS C A t s).2 A'
theorem lp_bc5 {h0 : AH} (b : RB C A) {t s : Nat} (ht : t < 500) (hs : s < 6) (h5 : C 5 + 6 ≤ 15000) (k : ∀ h', MP am ad (bcs (fun u => ¬ u = s) s 5 t C A (C 1).toNat).1 (bcs (fun u => ¬ u = s) s 5 t C A (C 1).toNat).2 h' → Mv am ad h0 h' → Rn 123 116 [some (aR am), some (aI ((t : Int))), some (aI ((s : Int))), some (aI (((C 1).toNat : Int)))] [] h' Q) : ∀ n j : Nat, j + n = (C 1).toNat → ∀ Cj Aj h, bcs (fun u => ¬ u = s) s 5 t C A j = (Cj, Aj) → MP am ad Cj Aj h → Mv am ad h0 h → Rn 123 89 [some (aR am), some (aI ((t : Int))), some (aI ((s : Int))), some (aI ((j : Int)))] [] h Q := by
  intro n
  induction n using Nat.strongRecOn with | ind n ih => ?_
  intro j hj Cj Aj h e M V
  have hc1 := b.c1
  have q := bcs_ok b (P := fun u => ¬ u = s) (a := s) (so := 5) (t := t) ⟨by omega, by omega⟩ ⟨by omega, by omega⟩ ⟨by omega, by omega⟩ h5 j (by omega)
  rw [e] at q
  have b : RB Cj Aj := q.1
  have e1 : Cj 1 = C 1 := q.2.2.2.1 1 (by decide)
  refine x_iload_n k_123_89 rfl ?_
  refine x_aload_n k_123_90 rfl ?_
  refine x_get k_123_91 M.1 rfl ?_
  have f91 := b.c1
  refine x_icmpge (t := 116) k_123_94 rfl (by show inR ((j : Int)) ∧ inR (Cj 1); omega) (fun hb => ?_) (fun hb => ?_)
  · have c94 : Cj 1 ≤ (j : Int) := hb
    have e2 : (C 1).toNat = j := by omega
    rw [e2, e] at k
    exact k h M V
  · have c94 : ¬ (Cj 1 ≤ (j : Int)) := hb
    refine x_iload_n k_123_97 rfl ?_
    refine x_iload_n k_123_98 rfl ?_
    refine x_icmpeq (t := 110) k_123_99 rfl (by show inR ((j : Int)) ∧ inR ((s : Int)); omega) (fun hb => ?_) (fun hb => ?_)
    · have c99 : (j : Int) = (s : Int) := hb
      refine x_inc3 k_123_110 rfl ?_
      refine x_goto (t := 89) k_123_113 rfl ?_
      exact ih (n - 1) (by omega) (j + 1) (by omega) Cj Aj h (by rw [bcs_n (by omega), e]) M V
    · have c99 : ¬ ((j : Int) = (s : Int)) := hb
      refine x_aload_n k_123_102 rfl ?_
      refine x_iload_n k_123_103 rfl ?_
      refine x_iload_n k_123_104 rfl ?_
      refine x_iconst k_123_105 ?_
      refine x_iload_n k_123_106 rfl ?_
      refine x_call5 k_123_107 (Nat.le_of_ble_eq_true rfl) (rcv_1 M.1) (Nat.le_of_ble_eq_true rfl) ?_
      refine r_send M b (fun h M V1 => bh_v ?_)
      have V := V.tr V1
      refine x_inc3 k_123_110 rfl ?_
      refine x_goto (t := 89) k_123_113 rfl ?_
      exact ih (n - 1) (by omega) (j + 1) (by omega) _ _ h (by rw [bcs_y (by omega), e]) M V
theorem r_commits (M : MP am ad C A h) (b : RB C A) {t s : Nat} (ht : t < 500) (hs : s < 6) (hs3 : A 3 t = s) (h14 : A 14 s < 500) (h6 : C 6 < 1000) (h5 : C 5 + 6 ≤ 15000) (k : ∀ C' A' h', cmsP C A t s C' A' → RB C' A' → MP am ad C' A' h' → Mv am ad h h' → Q (.inl none) h') : Rn 123 0 (entL 123 [aR am, aI t]) [] h Q := by
  show Rn 123 0 [some (aR am), some (aI ((t : Int))), none, none] [] h Q
  have V : Mv am ad h h := Mv.rf
  have h14b := b.v14 s
  refine x_aload_n k_123_0 rfl ?_
  refine x_get k_123_1 M.1 rfl ?_
  refine x_iload_n k_123_4 rfl ?_
  refine y_iaload (m := t) k_123_5 M.a3 (Or.inl rfl) rfl (by omega) ?_
  have f5 := b.v3 (t)
  refine x_top (show A 3 t = ((s : Nat) : Int) from by omega) ?_
  refine x_is2n k_123_6 rfl ?_
  refine x_aload_n k_123_7 rfl ?_
  refine x_get k_123_8 M.1 rfl ?_
  refine x_iload_n k_123_11 rfl ?_
  refine x_iconst k_123_12 ?_
  refine y_iastore (m := t) k_123_13 M.a4 rfl (by omega) ?_
  refine mgo (M.s4 _) (V.tr (Mv.ma (Nat.le_of_ble_eq_true rfl))) (fun h M V => ?_)
  refine x_aload_n k_123_14 rfl ?_
  refine x_get k_123_15 M.1 rfl ?_
  refine x_iload_n k_123_18 rfl ?_
  refine x_dup2 k_123_19 rfl ?_
  refine y_iaload (m := (s)) k_123_20 M.a14 (Or.inl rfl) rfl (by omega) ?_
  have f20 := b.v14 ((s))
  refine x_iconst k_123_21 ?_
  refine x_iadd k_123_22 ?_
  refine y_iastore (m := (s)) k_123_23 M.a14 rfl (by omega) ?_
  refine mgo (M.s14 _) (V.tr (Mv.ma (Nat.le_of_ble_eq_true rfl))) (fun h M V => ?_)
  refine x_aload_n k_123_24 rfl ?_
  refine x_dup k_123_25 rfl ?_
  refine x_get k_123_26 M.1 rfl ?_
  have f26 := b.c6
  refine x_iconst k_123_29 ?_
  refine x_iadd k_123_30 ?_
  refine x_put k_123_31 M.1 (Nat.le_of_ble_eq_true rfl) rfl ?_
  refine mgo (M.c6 _) (V.tr Mv.mo) (fun h M V => ?_)
  refine x_aload_n k_123_34 rfl ?_
  refine x_get k_123_35 M.1 rfl ?_
  refine x_iload_n k_123_38 rfl ?_
  refine x_aload_n k_123_39 rfl ?_
  refine x_get k_123_40 M.1 rfl ?_
  refine x_iload_n k_123_43 rfl ?_
  refine y_iaload (m := (s)) k_123_44 M.a14 (Or.inl rfl) rfl (by omega) ?_
  refine x_top (show (up (A 14) (s) ((A 14 (s) + 1))) (s) = (A 14 (s) + 1) from up_s) ?_
  refine y_iastore (m := t) k_123_45 M.a5 rfl (by omega) ?_
  refine mgo (M.s5 _) (V.tr (Mv.ma (Nat.le_of_ble_eq_true rfl))) (fun h M V => ?_)
  refine x_aload_n k_123_46 rfl ?_
  refine x_get k_123_47 M.1 rfl ?_
  refine x_iload_n k_123_50 rfl ?_
  refine x_sipush k_123_51 ?_
  refine x_imul k_123_54 ?_
  refine x_aload_n k_123_55 rfl ?_
  refine x_get k_123_56 M.1 rfl ?_
  refine x_iload_n k_123_59 rfl ?_
  refine y_iaload (m := (s)) k_123_60 M.a14 (Or.inl rfl) rfl (by omega) ?_
  refine x_top (show (up (A 14) (s) ((A 14 (s) + 1))) (s) = (A 14 (s) + 1) from up_s) ?_
  refine x_iadd k_123_61 ?_
  refine x_iload_n k_123_62 rfl ?_
  refine y_iastore (m := 501 * s + (A 14 s + 1).toNat) k_123_63 M.a15 (show ((((s : Nat) : Int) * 501) + (A 14 (s) + 1)) = ((501 * s + (A 14 s + 1).toNat : Nat) : Int) by omega) (by omega) ?_
  refine mgo (M.s15 _) (V.tr (Mv.ma (Nat.le_of_ble_eq_true rfl))) (fun h M V => ?_)
  refine x_aload_n k_123_64 rfl ?_
  refine x_get k_123_65 M.1 rfl ?_
  refine x_bipush k_123_68 ?_
  refine x_iload_n k_123_70 rfl ?_
  refine x_imul k_123_71 ?_
  refine x_iload_n k_123_72 rfl ?_
  refine x_iadd k_123_73 ?_
  refine x_aload_n k_123_74 rfl ?_
  refine x_get k_123_75 M.1 rfl ?_
  refine x_iload_n k_123_78 rfl ?_
  refine y_iaload (m := (s)) k_123_79 M.a14 (Or.inl rfl) rfl (by omega) ?_
  refine x_top (show (up (A 14) (s) ((A 14 (s) + 1))) (s) = (A 14 (s) + 1) from up_s) ?_
  refine y_iastore (m := 6 * s + s) k_123_80 M.a13 (show ((6 * ((s : Nat) : Int)) + ((s : Nat) : Int)) = ((6 * s + s : Nat) : Int) by omega) (by omega) ?_
  refine mgo (M.s13 _) (V.tr (Mv.ma (Nat.le_of_ble_eq_true rfl))) (fun h M V => ?_)
  refine x_aload_n k_123_81 rfl ?_
  refine x_iload_n k_123_82 rfl ?_
  refine x_iload_n k_123_83 rfl ?_
  refine x_call3 k_123_84 (Nat.le_of_ble_eq_true rfl) (rcv_1 M.1) (Nat.le_of_ble_eq_true rfl) ?_
  refine r_unlock (t := t) (s := s) (A := cm0A A t s) (C := cmC C) M (cm0A_b b h14 h6) ht hs (fun h M V1 => bh_v ?_)
  have V := V.tr V1
  have M : MP am ad (cmC C) (cm1A C A t s) h := M
  refine x_iconst k_123_87 ?_
  refine x_is3n k_123_88 rfl ?_
  refine lp_bc5 (cm1A_b b h14 h6) ht hs h5 (fun h M V => ?_) (C 1).toNat 0 (Nat.zero_add _) _ _ h rfl M V
  refine x_aload_n k_123_116 rfl ?_
  refine x_iload_n k_123_117 rfl ?_
  refine x_call2 k_123_118 (Nat.le_of_ble_eq_true rfl) (rcv_1 M.1) (Nat.le_of_ble_eq_true rfl) ?_
  have hc1 := b.c1
  refine r_release M (bcs_ok (cm1A_b b h14 h6) ⟨by omega, by omega⟩ ⟨by omega, by omega⟩ ⟨by omega, by omega⟩ h5 (C 1).toNat (by omega)).1 hs (fun n A' h r b2 M V1 => bh_v ?_)
  refine x_return k_123_121 ?_
  exact k _ A' h ⟨n, rfl, r⟩ b2 M (V.tr V1)
def exq (P : Nat → Prop) (n : Nat) : Prop := ∃ k, k < n ∧ P k
theorem exq_y {P : Nat → Prop} {j : Nat} (hp : P j) : pI (exq P (j + 1)) = 1 := pI_1 ⟨j, by omega, hp⟩
theorem exq_n {P : Nat → Prop} {j : Nat} (hp : ¬ P j) : pI (exq P (j + 1)) = pI (exq P j) := by
  have e : exq P (j + 1) = exq P j := propext ⟨fun ⟨k, h1, h2⟩ => ⟨k, (Nat.lt_or_ge k j).elim id (fun z => absurd ((show k = j by omega) ▸ h2) hp), h2⟩, fun ⟨k, h1, h2⟩ => ⟨k, by omega, h2⟩⟩
  rw [e]
theorem exq_0 {P : Nat → Prop} : pI (exq P 0) = 0 := pI_0 (fun ⟨k, h1, _⟩ => absurd h1 (Nat.not_lt_zero k))
abbrev anq (A : Nat → Nat → Int) (t k : Nat) : Prop := A 9 k = t
abbrev plq (A : Nat → Nat → Int) (t k : Nat) : Prop := A 9 k = t ∧ A 2 (A 10 k).toNat = 0
abbrev faq (A : Nat → Nat → Int) (t s k : Nat) : Prop := A 9 k = t ∧ A 2 (A 10 k).toNat = 0 ∧ ¬ A 0 (A 10 k).toNat = s
abbrev askQ (C : Nat → Int) (A : Nat → Nat → Int) (t s u : Nat) : Prop := ¬ u = s ∧ wraP C A t u
noncomputable def askB (C : Nat → Int) (A : Nat → Nat → Int) (t s u : Nat) : CA := bcs (askQ C A t s) s 1 t C A u
noncomputable def ask8 (C : Nat → Int) (A : Nat → Nat → Int) (t s u : Nat) : Nat → Int := up (A 8) t (A 8 t + nP (askQ C A t s) u)
theorem ask8_0 {t s : Nat} (q : Nat) : ask8 C A t s 0 q = A 8 q := by
  unfold ask8
  by_cases hq : q = t
  · subst hq; rw [up_s]; exact Int.add_zero _
  · rw [up_n hq]
def wtgA (C : Nat → Int) (A : Nat → Nat → Int) (t s : Nat) : Nat → Nat → Int := up (up A 1 (lckF C A t s (C 2).toNat)) 4 (up (A 4) t 3)
/-- what commit(t) leaves, t open, at its site s -/
def cmtP (C : Nat → Int) (A : Nat → Nat → Int) (t s : Nat) (C' : Nat → Int) (A' : Nat → Nat → Int) : Prop :=
  (¬ exq (anq A t) (C 4).toNat ∧ C' = C ∧ A' = up A 4 (up (A 4) t 1)) ∨
  (exq (anq A t) (C 4).toNat ∧ ¬ exq (plq A t) (C 4).toNat ∧ cmsP C A t s C' A') ∨
  (exq (plq A t) (C 4).toNat ∧ acfP C A t s ∧ C' = C ∧ A' = up A 4 (up (A 4) t 2)) ∨
  (exq (plq A t) (C 4).toNat ∧ ¬ acfP C A t s ∧ ¬ exq (faq A t s) (C 4).toNat ∧ cmsP C A t s C' A') ∨
  (exq (plq A t) (C 4).toNat ∧ ¬ acfP C A t s ∧ exq (faq A t s) (C 4).toNat ∧ C' = (askB C (wtgA C A t s) t s (C 1).toNat).1 ∧ A' = up (askB C (wtgA C A t s) t s (C 1).toNat).2 8 (ask8 C (wtgA C A t s) t s (C 1).toNat))
theorem lp_cmt1 (M : MP am ad C A h) (b : RB C A) {t s : Nat} (ht : t < 500) (hs : s < 6) (k : Rn 122 145 [some (aR am), some (aI ((t : Int))), some (aI (pI (exq (plq A t) (C 4).toNat))), some (aI (pI (exq (anq A t) (C 4).toNat))), some (aI (pI (exq (faq A t s) (C 4).toNat))), some (aI ((s : Int))), some (aI (((C 4).toNat : Int)))] [] h Q) : ∀ n j : Nat, j + n = (C 4).toNat → Rn 122 62 [some (aR am), some (aI ((t : Int))), some (aI (pI (exq (plq A t) j))), some (aI (pI (exq (anq A t) j))), some (aI (pI (exq (faq A t s) j))), some (aI ((s : Int))), some (aI ((j : Int)))] [] h Q := by
  intro n
  induction n using Nat.strongRecOn with | ind n ih => ?_
  intro j hj
  refine x_iload k_122_62 rfl ?_
  refine x_aload_n k_122_64 rfl ?_
  refine x_get k_122_65 M.1 rfl ?_
  have f65 := b.c4
  refine x_icmpge (t := 145) k_122_68 rfl (by show inR ((j : Int)) ∧ inR (C 4); omega) (fun hb => ?_) (fun hb => ?_)
  · have c68 : C 4 ≤ (j : Int) := hb
    have e : (C 4).toNat = j := by omega
    rw [e] at k
    exact k
  · have c68 : ¬ (C 4 ≤ (j : Int)) := hb
    refine x_aload_n k_122_71 rfl ?_
    refine x_get k_122_72 M.1 rfl ?_
    refine x_iload k_122_75 rfl ?_
    refine y_iaload (m := j) k_122_77 M.a9 (Or.inl rfl) rfl (by omega) ?_
    have f77 := b.v9 (j)
    refine x_iload_n k_122_78 rfl ?_
    refine x_icmpeq (t := 85) k_122_79 rfl (by show inR (A 9 j) ∧ inR ((t : Int)); omega) (fun hb => ?_) (fun hb => ?_)
    · have c79 : A 9 j = (t : Int) := hb
      refine x_iconst k_122_85 ?_
      refine x_is3n k_122_86 rfl ?_
      refine x_aload_n k_122_87 rfl ?_
      refine x_get k_122_88 M.1 rfl ?_
      refine x_aload_n k_122_91 rfl ?_
      refine x_get k_122_92 M.1 rfl ?_
      refine x_iload k_122_95 rfl ?_
      refine y_iaload (m := j) k_122_97 M.a10 (Or.inl rfl) rfl (by omega) ?_
      have f97 := b.v10 (j)
      refine y_baload (m := (A 10 j).toNat) k_122_98 M.a2 (show A 10 j = (((A 10 j).toNat : Nat) : Int) by omega) (by omega) ?_
      have f98 := b.v2 ((A 10 j).toNat)
      refine x_ifne (t := 104) k_122_99 rfl (by show inR (A 2 ((A 10 j).toNat)); omega) (fun hb => ?_) (fun hb => ?_)
      · have c99 : ¬ A 2 ((A 10 j).toNat) = 0 := hb
        refine x_aload_n k_122_104 rfl ?_
        refine x_get k_122_105 M.1 rfl ?_
        refine x_aload_n k_122_108 rfl ?_
        refine x_get k_122_109 M.1 rfl ?_
        refine x_iload k_122_112 rfl ?_
        refine y_iaload (m := j) k_122_114 M.a10 (Or.inl rfl) rfl (by omega) ?_
        have f114 := b.v10 (j)
        refine y_baload (m := (A 10 j).toNat) k_122_115 M.a2 (show A 10 j = (((A 10 j).toNat : Nat) : Int) by omega) (by omega) ?_
        have f115 := b.v2 ((A 10 j).toNat)
        refine x_ifne (t := 139) k_122_116 rfl (by show inR (A 2 ((A 10 j).toNat)); omega) (fun hb => ?_) (fun hb => ?_)
        · have c116 : ¬ A 2 ((A 10 j).toNat) = 0 := hb
          refine x_inc6 k_122_139 rfl ?_
          refine x_goto (t := 62) k_122_142 rfl ?_
          have z := ih (n - 1) (by omega) (j + 1) (by omega)
          rw [show pI (exq (plq A t) (j + 1)) = pI (exq (plq A t) j) from exq_n (fun z => by obtain ⟨z1, z2⟩ := z; omega), show pI (exq (anq A t) (j + 1)) = 1 from exq_y (by show A 9 j = t; omega), show pI (exq (faq A t s) (j + 1)) = pI (exq (faq A t s) j) from exq_n (fun z => by obtain ⟨z1, z2, z3⟩ := z; omega)] at z
          exact z
        · have c116 : ¬ (¬ A 2 ((A 10 j).toNat) = 0) := hb
          refine x_aload_n k_122_119 rfl ?_
          refine x_get k_122_120 M.1 rfl ?_
          refine x_aload_n k_122_123 rfl ?_
          refine x_get k_122_124 M.1 rfl ?_
          refine x_iload k_122_127 rfl ?_
          refine y_iaload (m := j) k_122_129 M.a10 (Or.inl rfl) rfl (by omega) ?_
          have f129 := b.v10 (j)
          refine y_iaload (m := (A 10 j).toNat) k_122_130 M.a0 (Or.inl rfl) (show A 10 j = (((A 10 j).toNat : Nat) : Int) by omega) (by omega) ?_
          have f130 := b.v0 ((A 10 j).toNat)
          refine x_iload k_122_131 rfl ?_
          refine x_icmpeq (t := 139) k_122_133 rfl (by show inR (A 0 ((A 10 j).toNat)) ∧ inR ((s : Int)); omega) (fun hb => ?_) (fun hb => ?_)
          · have c133 : A 0 ((A 10 j).toNat) = (s : Int) := hb
            refine x_inc6 k_122_139 rfl ?_
            refine x_goto (t := 62) k_122_142 rfl ?_
            exact absurd c99 c116
          · have c133 : ¬ (A 0 ((A 10 j).toNat) = (s : Int)) := hb
            refine x_iconst k_122_136 ?_
            refine x_is4 k_122_137 rfl ?_
            refine x_inc6 k_122_139 rfl ?_
            refine x_goto (t := 62) k_122_142 rfl ?_
            exact absurd c99 c116
      · have c99 : ¬ (¬ A 2 ((A 10 j).toNat) = 0) := hb
        refine x_iconst k_122_102 ?_
        refine x_is2n k_122_103 rfl ?_
        refine x_aload_n k_122_104 rfl ?_
        refine x_get k_122_105 M.1 rfl ?_
        refine x_aload_n k_122_108 rfl ?_
        refine x_get k_122_109 M.1 rfl ?_
        refine x_iload k_122_112 rfl ?_
        refine y_iaload (m := j) k_122_114 M.a10 (Or.inl rfl) rfl (by omega) ?_
        have f114 := b.v10 (j)
        refine y_baload (m := (A 10 j).toNat) k_122_115 M.a2 (show A 10 j = (((A 10 j).toNat : Nat) : Int) by omega) (by omega) ?_
        have f115 := b.v2 ((A 10 j).toNat)
        refine x_ifne (t := 139) k_122_116 rfl (by show inR (A 2 ((A 10 j).toNat)); omega) (fun hb => ?_) (fun hb => ?_)
        · have c116 : ¬ A 2 ((A 10 j).toNat) = 0 := hb
          refine x_inc6 k_122_139 rfl ?_
          refine x_goto (t := 62) k_122_142 rfl ?_
          exact absurd c116 c99
        · have c116 : ¬ (¬ A 2 ((A 10 j).toNat) = 0) := hb
          refine x_aload_n k_122_119 rfl ?_
          refine x_get k_122_120 M.1 rfl ?_
          refine x_aload_n k_122_123 rfl ?_
          refine x_get k_122_124 M.1 rfl ?_
          refine x_iload k_122_127 rfl ?_
          refine y_iaload (m := j) k_122_129 M.a10 (Or.inl rfl) rfl (by omega) ?_
          have f129 := b.v10 (j)
          refine y_iaload (m := (A 10 j).toNat) k_122_130 M.a0 (Or.inl rfl) (show A 10 j = (((A 10 j).toNat : Nat) : Int) by omega) (by omega) ?_
          have f130 := b.v0 ((A 10 j).toNat)
          refine x_iload k_122_131 rfl ?_
          refine x_icmpeq (t := 139) k_122_133 rfl (by show inR (A 0 ((A 10 j).toNat)) ∧ inR ((s : Int)); omega) (fun hb => ?_) (fun hb => ?_)
          · have c133 : A 0 ((A 10 j).toNat) = (s : Int) := hb
            refine x_inc6 k_122_139 rfl ?_
            refine x_goto (t := 62) k_122_142 rfl ?_
            have z := ih (n - 1) (by omega) (j + 1) (by omega)
            rw [show pI (exq (plq A t) (j + 1)) = 1 from exq_y ⟨by omega, by omega⟩, show pI (exq (anq A t) (j + 1)) = 1 from exq_y (by show A 9 j = t; omega), show pI (exq (faq A t s) (j + 1)) = pI (exq (faq A t s) j) from exq_n (fun z => by obtain ⟨z1, z2, z3⟩ := z; omega)] at z
            exact z
          · have c133 : ¬ (A 0 ((A 10 j).toNat) = (s : Int)) := hb
            refine x_iconst k_122_136 ?_
            refine x_is4 k_122_137 rfl ?_
            refine x_inc6 k_122_139 rfl ?_
            refine x_goto (t := 62) k_122_142 rfl ?_
            have z := ih (n - 1) (by omega) (j + 1) (by omega)
            rw [show pI (exq (plq A t) (j + 1)) = 1 from exq_y ⟨by omega, by omega⟩, show pI (exq (anq A t) (j + 1)) = 1 from exq_y (by show A 9 j = t; omega), show pI (exq (faq A t s) (j + 1)) = 1 from exq_y ⟨by omega, by omega, by omega⟩] at z
            exact z
    · have c79 : ¬ (A 9 j = (t : Int)) := hb
      refine x_goto (t := 139) k_122_82 rfl ?_
      refine x_inc6 k_122_139 rfl ?_
      refine x_goto (t := 62) k_122_142 rfl ?_
      have z := ih (n - 1) (by omega) (j + 1) (by omega)
      rw [show pI (exq (plq A t) (j + 1)) = pI (exq (plq A t) j) from exq_n (fun z => by obtain ⟨z1, z2⟩ := z; omega), show pI (exq (anq A t) (j + 1)) = pI (exq (anq A t) j) from exq_n (fun z => by have z : A 9 j = t := z; omega), show pI (exq (faq A t s) (j + 1)) = pI (exq (faq A t s) j) from exq_n (fun z => by obtain ⟨z1, z2, z3⟩ := z; omega)] at z
      exact z
theorem lp_ask {h0 : AH} (b : RB C A) {t s : Nat} (ht : t < 500) (hs : s < 6) (h5 : C 5 + 6 ≤ 15000) (h8 : A 8 t ≤ 4) (k : ∀ h', RB (askB C A t s (C 1).toNat).1 (up (askB C A t s (C 1).toNat).2 8 (ask8 C A t s (C 1).toNat)) → MP am ad (askB C A t s (C 1).toNat).1 (up (askB C A t s (C 1).toNat).2 8 (ask8 C A t s (C 1).toNat)) h' → Mv am ad h0 h' → Q (.inl (some (aI (up (askB C A t s (C 1).toNat).2 8 (ask8 C A t s (C 1).toNat) 4 t)))) h') (z2 z3 z4 : Option AV) : ∀ n j : Nat, j + n = (C 1).toNat → ∀ Cj Bj Aj h, askB C A t s j = (Cj, Bj) → Aj = up Bj 8 (ask8 C A t s j) → MP am ad Cj Aj h → Mv am ad h0 h → Rn 122 221 [some (aR am), some (aI ((t : Int))), z2, z3, z4, some (aI ((s : Int))), some (aI ((j : Int)))] [] h Q := by
  intro n
  induction n using Nat.strongRecOn with | ind n ih => ?_
  intro j hj Cj Bj Aj h e ea M V
  have hc1 := b.c1
  have q := bcs_ok b (P := askQ C A t s) (a := s) (so := 1) (t := t) ⟨by omega, by omega⟩ ⟨by omega, by omega⟩ ⟨by omega, by omega⟩ h5 j (by omega)
  rw [show bcs (askQ C A t s) s 1 t C A j = (Cj, Bj) from e] at q
  have h8b := b.v8 t
  have hn := nP_b (askQ C A t s) j
  have b8 : ∀ x, 0 ≤ ask8 C A t s j x ∧ ask8 C A t s j x ≤ 10 := fun x => by
    have := b.v8 x
    unfold ask8 up
    split <;> omega
  have hwe : wraP Cj Aj t j ↔ wraP C A t j := by
    rw [ea]
    exact wraP_e (q.2.2.2.1 2 (by decide)) (q.2.2.2.1 4 (by decide)) (q.2.2.2.2 0 (by decide)) (q.2.2.2.2 2 (by decide)) (q.2.2.2.2 9 (by decide)) (q.2.2.2.2 10 (by decide))
  have b : RB Cj Aj := by rw [ea]; exact q.1.s8 b8
  have e1 : Cj 1 = C 1 := q.2.2.2.1 1 (by decide)
  refine x_iload k_122_221 rfl ?_
  refine x_aload_n k_122_223 rfl ?_
  refine x_get k_122_224 M.1 rfl ?_
  have f224 := b.c1
  refine x_icmpge (t := 276) k_122_227 rfl (by show inR ((j : Int)) ∧ inR (Cj 1); omega) (fun hb => ?_) (fun hb => ?_)
  · have c227 : Cj 1 ≤ (j : Int) := hb
    refine x_aload_n k_122_276 rfl ?_
    refine x_get k_122_277 M.1 rfl ?_
    refine x_iload_n k_122_280 rfl ?_
    refine y_iaload (m := t) k_122_281 M.a4 (Or.inl rfl) rfl (by omega) ?_
    have f281 := b.v4 (t)
    refine x_ireturn k_122_282 rfl ?_
    have e2 : (C 1).toNat = j := by omega
    have k := k h (by rw [e2, e]; show RB Cj (up Bj 8 (ask8 C A t s j)); rw [← ea]; exact b) (by rw [e2, e]; show MP am ad Cj (up Bj 8 (ask8 C A t s j)) h; rw [← ea]; exact M) V
    rw [e2, e] at k
    rw [ea]
    exact k
  · have c227 : ¬ (Cj 1 ≤ (j : Int)) := hb
    refine x_iload k_122_230 rfl ?_
    refine x_iload k_122_232 rfl ?_
    refine x_icmpeq (t := 270) k_122_234 rfl (by show inR ((j : Int)) ∧ inR ((s : Int)); omega) (fun hb => ?_) (fun hb => ?_)
    · have c234 : (j : Int) = (s : Int) := hb
      refine x_inc6 k_122_270 rfl ?_
      refine x_goto (t := 221) k_122_273 rfl ?_
      refine ih (n - 1) (by omega) (j + 1) (by omega) Cj Bj Aj h (by show bcs _ _ _ _ _ _ _ = _; rw [bcs_n (fun z => z.1 (by omega))]; exact e) ?_ M V
      rw [ea]
      unfold ask8
      show _ = up Bj 8 (up (A 8) t (A 8 t + (nP (askQ C A t s) j + pI (askQ C A t s j))))
      rw [pI_0 (fun z => z.1 (by omega)), Int.add_zero]
    · have c234 : ¬ ((j : Int) = (s : Int)) := hb
      refine x_aload_n k_122_237 rfl ?_
      refine x_iload_n k_122_238 rfl ?_
      refine x_iload k_122_239 rfl ?_
      refine x_call3 k_122_241 (Nat.le_of_ble_eq_true rfl) (rcv_1 M.1) (Nat.le_of_ble_eq_true rfl) ?_
      refine r_writesAt (t := t) (s := j) M b ht (by omega) (bh_1 ?_)
      refine x_ifne_P (t := 250) k_122_244 rfl (fun c244 => ?_) (fun c244 => ?_)
      · refine x_aload_n k_122_250 rfl ?_
        refine x_iload k_122_251 rfl ?_
        refine x_iload k_122_253 rfl ?_
        refine x_iconst k_122_255 ?_
        refine x_iload_n k_122_256 rfl ?_
        refine x_call5 k_122_257 (Nat.le_of_ble_eq_true rfl) (rcv_1 M.1) (Nat.le_of_ble_eq_true rfl) ?_
        refine r_send M b (fun h M V1 => bh_v ?_)
        have V := V.tr V1
        refine x_aload_n k_122_260 rfl ?_
        refine x_get k_122_261 M.1 rfl ?_
        refine x_iload_n k_122_264 rfl ?_
        refine x_dup2 k_122_265 rfl ?_
        refine y_iaload (m := t) k_122_266 M.a8 (Or.inl rfl) rfl (by omega) ?_
        have f266 := b.v8 (t)
        refine x_iconst k_122_267 ?_
        refine x_iadd k_122_268 ?_
        refine y_iastore (m := t) k_122_269 M.a8 rfl (by omega) ?_
        refine mgo (M.s8 _) (V.tr (Mv.ma (Nat.le_of_ble_eq_true rfl))) (fun h M V => ?_)
        refine x_inc6 k_122_270 rfl ?_
        refine x_goto (t := 221) k_122_273 rfl ?_
        refine ih (n - 1) (by omega) (j + 1) (by omega) (sndC Cj) (sndA Cj Bj s j 1 t) _ h (by show bcs _ _ _ _ _ _ _ = _; rw [bcs_y ⟨by omega, hwe.mp c244⟩]; rw [show bcs (askQ C A t s) s 1 t C A j = (Cj, Bj) from e]) ?_ M V
        rw [ea]
        rw [snd_up8]
        refine up2.trans (upe (fun q => ?_))
        show up (up (A 8) t (A 8 t + nP (askQ C A t s) j)) t (up (A 8) t (A 8 t + nP (askQ C A t s) j) t + 1) q = up (A 8) t (A 8 t + (nP (askQ C A t s) j + pI (askQ C A t s j))) q
        rw [pI_1 ⟨by omega, hwe.mp c244⟩, up_s]
        by_cases hq : q = t
        · subst hq; rw [up_s, up_s]; omega
        · rw [up_n hq, up_n hq, up_n hq]
      · refine x_goto (t := 270) k_122_247 rfl ?_
        refine x_inc6 k_122_270 rfl ?_
        refine x_goto (t := 221) k_122_273 rfl ?_
        refine ih (n - 1) (by omega) (j + 1) (by omega) Cj Bj Aj h (by show bcs _ _ _ _ _ _ _ = _; rw [bcs_n (fun z => c244 (hwe.mpr z.2))]; exact e) ?_ M V
        rw [ea]
        unfold ask8
        show _ = up Bj 8 (up (A 8) t (A 8 t + (nP (askQ C A t s) j + pI (askQ C A t s j))))
        rw [pI_0 (fun z => c244 (hwe.mpr z.2)), Int.add_zero]
theorem lp_cmt2 (M : MP am ad C A h) (b : RB C A) {h0 : AH} (V : Mv am ad h0 h) {t s : Nat} (ht : t < 500) (hs : s < 6) (hs3 : A 3 t = s) (h14 : A 14 s < 500) (h6 : C 6 < 1000) (h5 : C 5 + 6 ≤ 15000) (h8 : A 8 t ≤ 4) (k : ∀ C' A' h', cmtP C A t s C' A' → RB C' A' → MP am ad C' A' h' → Mv am ad h0 h' → Q (.inl (some (aI (A' 4 t)))) h') : Rn 122 145 [some (aR am), some (aI ((t : Int))), some (aI (pI (exq (plq A t) (C 4).toNat))), some (aI (pI (exq (anq A t) (C 4).toNat))), some (aI (pI (exq (faq A t s) (C 4).toNat))), some (aI ((s : Int))), some (aI (((C 4).toNat : Int)))] [] h Q := by
  refine x_iload_n k_122_145 rfl ?_
  refine x_ifne_P (t := 159) k_122_146 rfl (fun c146 => ?_) (fun c146 => ?_)
  · refine x_iload_n k_122_159 rfl ?_
    refine x_ifne_P (t := 171) k_122_160 rfl (fun c160 => ?_) (fun c160 => ?_)
    · refine x_aload_n k_122_171 rfl ?_
      refine x_iload_n k_122_172 rfl ?_
      refine x_iload k_122_173 rfl ?_
      refine x_call3 k_122_175 (Nat.le_of_ble_eq_true rfl) (rcv_1 M.1) (Nat.le_of_ble_eq_true rfl) ?_
      refine r_anyConflict (t := t) (s := s) M b ht hs (bh_1 ?_)
      refine x_ifeq_P (t := 191) k_122_178 rfl (fun c178 => ?_) (fun c178 => ?_)
      · refine x_iload k_122_191 rfl ?_
        refine x_ifne_P (t := 204) k_122_193 rfl (fun c193 => ?_) (fun c193 => ?_)
        · refine x_aload_n k_122_204 rfl ?_
          refine x_iload_n k_122_205 rfl ?_
          refine x_iload k_122_206 rfl ?_
          refine x_call3 k_122_208 (Nat.le_of_ble_eq_true rfl) (rcv_1 M.1) (Nat.le_of_ble_eq_true rfl) ?_
          refine r_locks (t := t) (s := s) M b ht hs (fun h M V1 => bh_v ?_)
          have V := V.tr V1
          refine x_aload_n k_122_211 rfl ?_
          refine x_get k_122_212 M.1 rfl ?_
          refine x_iload_n k_122_215 rfl ?_
          refine x_iconst k_122_216 ?_
          refine y_iastore (m := t) k_122_217 M.a4 rfl (by omega) ?_
          refine mgo (M.s4 _) (V.tr (Mv.ma (Nat.le_of_ble_eq_true rfl))) (fun h M V => ?_)
          refine x_iconst k_122_218 ?_
          refine x_is6 k_122_219 rfl ?_
          exact lp_ask (C := C) (A := wtgA C A t s) ((b.s1 (lckF_b b ht)).t4 ⟨by omega, by omega⟩) ht hs h5 h8 (fun h' b' M' V' => k _ _ h' (Or.inr (Or.inr (Or.inr (Or.inr ⟨c160, c178, c193, rfl, rfl⟩)))) b' M' V') _ _ _ (C 1).toNat 0 (Nat.zero_add _) _ _ _ h rfl rfl (M.ce (upself (fun q => ask8_0 q)).symm) V
        · refine x_aload_n k_122_196 rfl ?_
          refine x_iload_n k_122_197 rfl ?_
          refine x_call2 k_122_198 (Nat.le_of_ble_eq_true rfl) (rcv_1 M.1) (Nat.le_of_ble_eq_true rfl) ?_
          refine r_commits (t := t) (s := s) M b ht hs hs3 h14 h6 h5 (fun C1 A1 h hcm b M V1 => bh_v ?_)
          have V := V.tr V1
          refine x_goto (t := 276) k_122_201 rfl ?_
          refine x_aload_n k_122_276 rfl ?_
          refine x_get k_122_277 M.1 rfl ?_
          refine x_iload_n k_122_280 rfl ?_
          refine y_iaload (m := t) k_122_281 M.a4 (Or.inl rfl) rfl (by omega) ?_
          have f281 := b.v4 (t)
          refine x_ireturn k_122_282 rfl ?_
          exact k _ _ h (Or.inr (Or.inr (Or.inr (Or.inl ⟨c160, c178, c193, hcm⟩)))) b M V
      · refine x_aload_n k_122_181 rfl ?_
        refine x_get k_122_182 M.1 rfl ?_
        refine x_iload_n k_122_185 rfl ?_
        refine x_iconst k_122_186 ?_
        refine y_iastore (m := t) k_122_187 M.a4 rfl (by omega) ?_
        refine mgo (M.s4 _) (V.tr (Mv.ma (Nat.le_of_ble_eq_true rfl))) (fun h M V => ?_)
        refine x_goto (t := 276) k_122_188 rfl ?_
        refine x_aload_n k_122_276 rfl ?_
        refine x_get k_122_277 M.1 rfl ?_
        refine x_iload_n k_122_280 rfl ?_
        refine y_iaload (m := t) k_122_281 M.a4 (Or.inl rfl) rfl (by omega) ?_
        refine x_ireturn k_122_282 rfl ?_
        exact k _ _ h (Or.inr (Or.inr (Or.inl ⟨c160, c178, rfl, rfl⟩))) (b.t4 ⟨by omega, by omega⟩) M V
    · refine x_aload_n k_122_163 rfl ?_
      refine x_iload_n k_122_164 rfl ?_
      refine x_call2 k_122_165 (Nat.le_of_ble_eq_true rfl) (rcv_1 M.1) (Nat.le_of_ble_eq_true rfl) ?_
      refine r_commits (t := t) (s := s) M b ht hs hs3 h14 h6 h5 (fun C1 A1 h hcm b M V1 => bh_v ?_)
      have V := V.tr V1
      refine x_goto (t := 276) k_122_168 rfl ?_
      refine x_aload_n k_122_276 rfl ?_
      refine x_get k_122_277 M.1 rfl ?_
      refine x_iload_n k_122_280 rfl ?_
      refine y_iaload (m := t) k_122_281 M.a4 (Or.inl rfl) rfl (by omega) ?_
      have f281 := b.v4 (t)
      refine x_ireturn k_122_282 rfl ?_
      exact k _ _ h (Or.inr (Or.inl ⟨c146, c160, hcm⟩)) b M V
  · refine x_aload_n k_122_149 rfl ?_
    refine x_get k_122_150 M.1 rfl ?_
    refine x_iload_n k_122_153 rfl ?_
    refine x_iconst k_122_154 ?_
    refine y_iastore (m := t) k_122_155 M.a4 rfl (by omega) ?_
    refine mgo (M.s4 _) (V.tr (Mv.ma (Nat.le_of_ble_eq_true rfl))) (fun h M V => ?_)
    refine x_goto (t := 276) k_122_156 rfl ?_
    refine x_aload_n k_122_276 rfl ?_
    refine x_get k_122_277 M.1 rfl ?_
    refine x_iload_n k_122_280 rfl ?_
    refine y_iaload (m := t) k_122_281 M.a4 (Or.inl rfl) rfl (by omega) ?_
    refine x_ireturn k_122_282 rfl ?_
    exact k _ _ h (Or.inl ⟨c146, rfl, rfl⟩) (b.t4 ⟨by omega, by omega⟩) M V
theorem r_commit (M : MP am ad C A h) (b : RB C A) {t : Int} (ht : inR t) (h14 : (0 ≤ t ∧ t < C 3) → A 4 t.toNat = 0 → A 14 (A 3 t.toNat).toNat < 500) (h6 : C 6 < 1000) (h5 : C 5 + 6 ≤ 15000) (h8 : (0 ≤ t ∧ t < C 3) → A 4 t.toNat = 0 → A 8 t.toNat ≤ 4) (kf : ∀ h', wcd (decide (¬ (0 ≤ t ∧ t < C 3))) (decide ((0 ≤ t ∧ t < C 3) ∧ ¬ A 4 t.toNat = 0)) ≠ 0 → MP am ad (up C 0 (wcd (decide (¬ (0 ≤ t ∧ t < C 3))) (decide ((0 ≤ t ∧ t < C 3) ∧ ¬ A 4 t.toNat = 0)))) A h' → Mv am ad h h' → Q (.inl (some (aI 0))) h') (k0 : ∀ C' A' h', (¬ ¬ (0 ≤ t ∧ t < C 3) ∧ ¬ ((0 ≤ t ∧ t < C 3) ∧ ¬ A 4 t.toNat = 0)) → cmtP (up C 0 0) A t.toNat (A 3 t.toNat).toNat C' A' → RB C' A' → MP am ad C' A' h' → Mv am ad h h' → Q (.inl (some (aI (A' 4 t.toNat)))) h') : Rn 122 0 (entL 122 [aR am, aI t]) [] h Q := by
  show Rn 122 0 [some (aR am), some (aI (t)), none, none, none, none, none] [] h Q
  have b1 := b.c1
  have b2 := b.c2
  have b3 := b.c3
  have b4 := b.v3 t.toNat
  have J : ∀ x y : Int, x = bI (decide (¬ (0 ≤ t ∧ t < C 3))) → y = bI (decide ((0 ≤ t ∧ t < C 3) ∧ ¬ A 4 t.toNat = 0)) → Rn 122 36 [some (aR am), some (aI (t)), none, none, none, none, none] [aI y, aI x, aR am] h Q := by
    intro x y hx hy
    subst hx hy
    refine x_call3 k_122_36 (Nat.le_of_ble_eq_true rfl) (rcv_1 M.1) (Nat.le_of_ble_eq_true rfl) ?_
    refine r_fails M (fun h M V => bh_1 ?_)
    refine x_ifeq_p (t := 44) k_122_39 rfl (fun cF => ?_) (fun cF => ?_)
    · have cG := wcd_z cF
      have M : MP am ad (up C 0 0) A h := by rw [← cG.1]; exact M
      refine x_iconst k_122_44 ?_
      refine x_is2n k_122_45 rfl ?_
      refine x_iconst k_122_46 ?_
      refine x_is3n k_122_47 rfl ?_
      refine x_iconst k_122_48 ?_
      refine x_is4 k_122_49 rfl ?_
      refine x_aload_n k_122_51 rfl ?_
      refine x_get k_122_52 M.1 rfl ?_
      refine x_iload_n k_122_55 rfl ?_
      refine y_iaload (m := t.toNat) k_122_56 M.a3 (Or.inl rfl) (show t = ((t.toNat : Nat) : Int) by omega) (by omega) ?_
      have f56 := b.v3 (t.toNat)
      refine x_top (show A 3 (t.toNat) = (((A 3 t.toNat).toNat : Nat) : Int) from by omega) ?_
      refine x_is5 k_122_57 rfl ?_
      refine x_iconst k_122_59 ?_
      refine x_is6 k_122_60 rfl ?_
      rw [show t = ((t.toNat : Nat) : Int) by omega]
      have z := lp_cmt1 (C := up C 0 0) (t := t.toNat) (s := (A 3 t.toNat).toNat) M b (by omega) (by omega) (lp_cmt2 (C := up C 0 0) M b V (by omega) (by omega) (by omega) (h14 (by omega) (by omega)) h6 h5 (h8 (by omega) (by omega)) (fun C' A' h' q => k0 C' A' h' cG.2 q)) (C 4).toNat 0 (Nat.zero_add _)
      rw [exq_0, exq_0, exq_0] at z
      exact z
    · refine x_iconst k_122_42 ?_
      refine x_ireturn k_122_43 rfl ?_
      exact kf h cF M V
  refine x_aload_n k_122_0 rfl ?_
  refine x_aload_n k_122_1 rfl ?_
  refine x_iload_n k_122_2 rfl ?_
  refine x_call2 k_122_3 (Nat.le_of_ble_eq_true rfl) (rcv_1 M.1) (Nat.le_of_ble_eq_true rfl) ?_
  refine r_isTran M (by omega) (by omega) (bh_1 ?_)
  refine x_ifne_p (t := 13) k_122_6 rfl (fun c6 => ?_) (fun c6 => ?_)
  · refine x_iconst k_122_13 ?_
    refine x_aload_n k_122_14 rfl ?_
    refine x_iload_n k_122_15 rfl ?_
    refine x_call2 k_122_16 (Nat.le_of_ble_eq_true rfl) (rcv_1 M.1) (Nat.le_of_ble_eq_true rfl) ?_
    refine r_isTran M (by omega) (by omega) (bh_1 ?_)
    refine x_ifeq_p (t := 35) k_122_19 rfl (fun c19 => ?_) (fun c19 => ?_)
    · refine x_iconst k_122_35 ?_
      exact J 0 0 (bI_0 (by first | omega | exact id)) (bI_0 (by first | omega | exact id))
    · refine x_aload_n k_122_22 rfl ?_
      refine x_get k_122_23 M.1 rfl ?_
      refine x_iload_n k_122_26 rfl ?_
      refine y_iaload (m := t.toNat) k_122_27 M.a4 (Or.inl rfl) (show t = ((t.toNat : Nat) : Int) by omega) (by omega) ?_
      have f27 := b.v4 (t.toNat)
      refine x_ifeq (t := 35) k_122_28 rfl (by show inR (A 4 (t.toNat)); omega) (fun hb => ?_) (fun hb => ?_)
      · have c28 : A 4 (t.toNat) = 0 := hb
        refine x_iconst k_122_35 ?_
        exact J 0 0 (bI_0 (by first | omega | exact id)) (bI_0 (by first | omega | exact id))
      · have c28 : ¬ (A 4 (t.toNat) = 0) := hb
        refine x_iconst k_122_31 ?_
        refine x_goto (t := 36) k_122_32 rfl ?_
        exact J 0 1 (bI_0 (by first | omega | exact id)) (bI_1 (by omega))
  · refine x_iconst k_122_9 ?_
    refine x_goto (t := 14) k_122_10 rfl ?_
    refine x_aload_n k_122_14 rfl ?_
    refine x_iload_n k_122_15 rfl ?_
    refine x_call2 k_122_16 (Nat.le_of_ble_eq_true rfl) (rcv_1 M.1) (Nat.le_of_ble_eq_true rfl) ?_
    refine r_isTran M (by omega) (by omega) (bh_1 ?_)
    refine x_ifeq_p (t := 35) k_122_19 rfl (fun c19 => ?_) (fun c19 => ?_)
    · refine x_iconst k_122_35 ?_
      exact J 1 0 (bI_1 (by omega)) (bI_0 (by first | omega | exact id))
    · refine x_aload_n k_122_22 rfl ?_
      refine x_get k_122_23 M.1 rfl ?_
      refine x_iload_n k_122_26 rfl ?_
      refine y_iaload (m := t.toNat) k_122_27 M.a4 (Or.inl rfl) (show t = ((t.toNat : Nat) : Int) by omega) (by omega) ?_
      have f27 := b.v4 (t.toNat)
      refine x_ifeq (t := 35) k_122_28 rfl (by show inR (A 4 (t.toNat)); omega) (fun hb => ?_) (fun hb => ?_)
      · have c28 : A 4 (t.toNat) = 0 := hb
        refine x_iconst k_122_35 ?_
        exact J 1 0 (bI_1 (by omega)) (bI_0 (by first | omega | exact id))
      · have c28 : ¬ (A 4 (t.toNat) = 0) := hb
        refine x_iconst k_122_31 ?_
        refine x_goto (t := 36) k_122_32 rfl ?_
        exact J 1 1 (bI_1 (by omega)) (bI_1 (by omega))
end M8
