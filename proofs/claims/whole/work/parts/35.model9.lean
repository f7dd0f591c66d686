section M9
variable {am : Nat} {ad : Nat → Nat} {C : Nat → Int} {A : Nat → Nat → Int} {h : AH} {Q : AR → AH → Prop}
def yesA (A : Nat → Nat → Int) (t : Nat) : Nat → Nat → Int := up A 7 (up (A 7) t (A 7 t + 1))
def abA (C : Nat → Int) (A : Nat → Nat → Int) (t d : Nat) : Nat → Nat → Int := up (up A 4 (up (A 4) t 2)) 1 (unlF A t d (C 2).toNat)
abbrev noQ (C : Nat → Int) (A : Nat → Nat → Int) (t a d u : Nat) : Prop := ¬ u = d ∧ ¬ u = a ∧ wraP C A t u
noncomputable def noB (C : Nat → Int) (A : Nat → Nat → Int) (t a d : Nat) : CA := bcs (noQ C A t a d) d 4 t C A (C 1).toNat
def hldA (A : Nat → Nat → Int) (t d : Nat) : Nat → Nat → Int := up (up A 20 (up (A 20) (500 * d + (A 21 d).toNat) t)) 21 (up (A 21) d (A 21 d + 1))
/-- what a message of the sort so about t (of the site s), from a to d, leaves -/
def arrP (C : Nat → Int) (A : Nat → Nat → Int) (so : Int) (t s a d : Nat) (C' : Nat → Int) (A' : Nat → Nat → Int) : Prop :=
  (so = 1 ∧ acfP C A t d ∧ C' = sndC C ∧ A' = sndA C A d a 3 t) ∨
  (so = 1 ∧ ¬ acfP C A t d ∧ C' = sndC C ∧ A' = sndA C (up A 1 (lckF C A t d (C 2).toNat)) d a 2 t) ∨
  ((so = 2 ∨ so = 3) ∧ ¬ A 4 t = 3 ∧ C' = C ∧ A' = A) ∨
  (so = 2 ∧ A 4 t = 3 ∧ ¬ A 7 t + 1 = A 8 t ∧ C' = C ∧ A' = yesA A t) ∨
  (so = 2 ∧ A 4 t = 3 ∧ A 7 t + 1 = A 8 t ∧ cmsP C (yesA A t) t s C' A') ∨
  (so = 3 ∧ A 4 t = 3 ∧ C' = (noB C (abA C A t d) t a d).1 ∧ A' = (noB C (abA C A t d) t a d).2) ∨
  (so = 4 ∧ C' = C ∧ A' = up A 1 (unlF A t d (C 2).toNat)) ∨
  (¬ (1 ≤ so ∧ so ≤ 4) ∧ C' = C ∧ ∃ n, rlsP C d n (hldA A t d) A')
def arrH (A : Nat → Nat → Int) (so : Int) (t s d : Nat) : Prop := A 3 t = s ∧ (A 4 t = 3 → A 14 s < 500 ∧ A 7 t < 10) ∧ (¬ (1 ≤ so ∧ so ≤ 4) → A 21 d < 500)
theorem lp_bc4 {h0 : AH} (b : RB C A) {t a d : Nat} {so : Int} (ht : t < 500) (hd : d < 6) (ha : a < 6) (h5 : C 5 + 6 ≤ 15000) (k : ∀ h', RB (noB C A t a d).1 (noB C A t a d).2 → MP am ad (noB C A t a d).1 (noB C A t a d).2 h' → Mv am ad h0 h' → Q (.inl none) h') : ∀ n j : Nat, j + n = (C 1).toNat → ∀ Cj Aj h, bcs (noQ C A t a d) d 4 t C A j = (Cj, Aj) → MP am ad Cj Aj h → Mv am ad h0 h → Rn 134 149 [some (aR am), some (aI (so)), some (aI ((t : Int))), some (aI ((a : Int))), some (aI ((d : Int))), some (aI ((j : Int)))] [] h Q := by
  intro n
  induction n using Nat.strongRecOn with | ind n ih => ?_
  intro j hj Cj Aj h e M V
  have hc1 := b.c1
  have q := bcs_ok b (P := noQ C A t a d) (a := d) (so := 4) (t := t) ⟨by omega, by omega⟩ ⟨by omega, by omega⟩ ⟨by omega, by omega⟩ h5 j (by omega)
  rw [e] at q
  have hwe : wraP Cj Aj t j ↔ wraP C A t j := wraP_e (q.2.2.2.1 2 (by decide)) (q.2.2.2.1 4 (by decide)) (q.2.2.2.2 0 (by decide)) (q.2.2.2.2 2 (by decide)) (q.2.2.2.2 9 (by decide)) (q.2.2.2.2 10 (by decide))
  have b : RB Cj Aj := q.1
  have e1 : Cj 1 = C 1 := q.2.2.2.1 1 (by decide)
  refine x_iload k_134_149 rfl ?_
  refine x_aload_n k_134_151 rfl ?_
  refine x_get k_134_152 M.1 rfl ?_
  have f152 := b.c1
  refine x_icmpge (t := 197) k_134_155 rfl (by show inR ((j : Int)) ∧ inR (Cj 1); omega) (fun hb => ?_) (fun hb => ?_)
  · have c155 : Cj 1 ≤ (j : Int) := hb
    refine x_goto (t := 247) k_134_197 rfl ?_
    refine x_return k_134_247 ?_
    have e2 : (C 1).toNat = j := by omega
    unfold noB at k
    rw [e2, e] at k
    exact k h b M V
  · have c155 : ¬ (Cj 1 ≤ (j : Int)) := hb
    refine x_iload k_134_158 rfl ?_
    refine x_iload k_134_160 rfl ?_
    refine x_icmpeq (t := 191) k_134_162 rfl (by show inR ((j : Int)) ∧ inR ((d : Int)); omega) (fun hb => ?_) (fun hb => ?_)
    · have c162 : (j : Int) = (d : Int) := hb
      refine x_inc5 k_134_191 rfl ?_
      refine x_goto (t := 149) k_134_194 rfl ?_
      exact ih (n - 1) (by omega) (j + 1) (by omega) Cj Aj h (by rw [bcs_n (fun z => z.1 (by omega)), e]) M V
    · have c162 : ¬ ((j : Int) = (d : Int)) := hb
      refine x_iload k_134_165 rfl ?_
      refine x_iload_n k_134_167 rfl ?_
      refine x_icmpeq (t := 191) k_134_168 rfl (by show inR ((j : Int)) ∧ inR ((a : Int)); omega) (fun hb => ?_) (fun hb => ?_)
      · have c168 : (j : Int) = (a : Int) := hb
        refine x_inc5 k_134_191 rfl ?_
        refine x_goto (t := 149) k_134_194 rfl ?_
        exact ih (n - 1) (by omega) (j + 1) (by omega) Cj Aj h (by rw [bcs_n (fun z => z.2.1 (by omega)), e]) M V
      · have c168 : ¬ ((j : Int) = (a : Int)) := hb
        refine x_aload_n k_134_171 rfl ?_
        refine x_iload_n k_134_172 rfl ?_
        refine x_iload k_134_173 rfl ?_
        refine x_call3 k_134_175 (Nat.le_of_ble_eq_true rfl) (rcv_1 M.1) (Nat.le_of_ble_eq_true rfl) ?_
        refine r_writesAt (t := t) (s := j) M b ht (by omega) (bh_1 ?_)
        refine x_ifeq_P (t := 191) k_134_178 rfl (fun c178 => ?_) (fun c178 => ?_)
        · refine x_inc5 k_134_191 rfl ?_
          refine x_goto (t := 149) k_134_194 rfl ?_
          exact ih (n - 1) (by omega) (j + 1) (by omega) Cj Aj h (by rw [bcs_n (fun z => c178 (hwe.mpr z.2.2)), e]) M V
        · refine x_aload_n k_134_181 rfl ?_
          refine x_iload k_134_182 rfl ?_
          refine x_iload k_134_184 rfl ?_
          refine x_iconst k_134_186 ?_
          refine x_iload_n k_134_187 rfl ?_
          refine x_call5 k_134_188 (Nat.le_of_ble_eq_true rfl) (rcv_1 M.1) (Nat.le_of_ble_eq_true rfl) ?_
          refine r_send M b (fun h M V1 => bh_v ?_)
          have V := V.tr V1
          refine x_inc5 k_134_191 rfl ?_
          refine x_goto (t := 149) k_134_194 rfl ?_
          exact ih (n - 1) (by omega) (j + 1) (by omega) _ _ h (by rw [bcs_y ⟨by omega, by omega, hwe.mp c178⟩, e]) M V
theorem r_arrives (M : MP am ad C A h) (b : RB C A) {so : Int} {t s a d : Nat} (hso : inR so) (ht : t < 500) (hs : s < 6) (ha : a < 6) (hd : d < 6) (hH : arrH A so t s d) (h6 : C 6 < 1000) (h5 : C 5 + 6 ≤ 15000) (k : ∀ C' A' h', arrP C A so t s a d C' A' → RB C' A' → MP am ad C' A' h' → Mv am ad h h' → Q (.inl none) h') : Rn 134 0 (entL 134 [aR am, aI so, aI t, aI a, aI d]) [] h Q := by
  show Rn 134 0 [some (aR am), some (aI (so)), some (aI ((t : Int))), some (aI ((a : Int))), some (aI ((d : Int))), none] [] h Q
  have V : Mv am ad h h := Mv.rf
  refine x_iload_n k_134_0 rfl ?_
  by_cases w1 : so = 1
  · refine x_tabIn (o := 31) (t := 32) k_134_1 hso (by omega) (by subst w1; rfl) rfl ?_
    refine x_aload_n k_134_32 rfl ?_
    refine x_iload_n k_134_33 rfl ?_
    refine x_iload k_134_34 rfl ?_
    refine x_call3 k_134_36 (Nat.le_of_ble_eq_true rfl) (rcv_1 M.1) (Nat.le_of_ble_eq_true rfl) ?_
    refine r_anyConflict (t := t) (s := d) M b ht hd (bh_1 ?_)
    refine x_ifeq_P (t := 54) k_134_39 rfl (fun c39 => ?_) (fun c39 => ?_)
    · refine x_aload_n k_134_54 rfl ?_
      refine x_iload_n k_134_55 rfl ?_
      refine x_iload k_134_56 rfl ?_
      refine x_call3 k_134_58 (Nat.le_of_ble_eq_true rfl) (rcv_1 M.1) (Nat.le_of_ble_eq_true rfl) ?_
      refine r_locks (t := t) (s := d) M b ht hd (fun h M V1 => bh_v ?_)
      have V := V.tr V1
      have b := b.s1 (lckF_b b ht (s := d) (n := (C 2).toNat))
      refine x_aload_n k_134_61 rfl ?_
      refine x_iload k_134_62 rfl ?_
      refine x_iload_n k_134_64 rfl ?_
      refine x_iconst k_134_65 ?_
      refine x_iload_n k_134_66 rfl ?_
      refine x_call5 k_134_67 (Nat.le_of_ble_eq_true rfl) (rcv_1 M.1) (Nat.le_of_ble_eq_true rfl) ?_
      refine r_send M b (fun h M V1 => bh_v ?_)
      have V := V.tr V1
      refine x_goto (t := 247) k_134_70 rfl ?_
      refine x_return k_134_247 ?_
      exact k _ _ h (Or.inr (Or.inl ⟨w1, c39, rfl, rfl⟩)) (snd_b b ⟨by omega, by omega⟩ ⟨by omega, by omega⟩ ⟨by omega, by omega⟩ ⟨by omega, by omega⟩ (by omega)) M V
    · refine x_aload_n k_134_42 rfl ?_
      refine x_iload k_134_43 rfl ?_
      refine x_iload_n k_134_45 rfl ?_
      refine x_iconst k_134_46 ?_
      refine x_iload_n k_134_47 rfl ?_
      refine x_call5 k_134_48 (Nat.le_of_ble_eq_true rfl) (rcv_1 M.1) (Nat.le_of_ble_eq_true rfl) ?_
      refine r_send M b (fun h M V1 => bh_v ?_)
      have V := V.tr V1
      refine x_goto (t := 247) k_134_51 rfl ?_
      refine x_return k_134_247 ?_
      exact k _ _ h (Or.inl ⟨w1, c39, rfl, rfl⟩) (snd_b b ⟨by omega, by omega⟩ ⟨by omega, by omega⟩ ⟨by omega, by omega⟩ ⟨by omega, by omega⟩ (by omega)) M V
  by_cases w2 : so = 2
  · refine x_tabIn (o := 72) (t := 73) k_134_1 hso (by omega) (by subst w2; rfl) rfl ?_
    refine x_aload_n k_134_73 rfl ?_
    refine x_get k_134_74 M.1 rfl ?_
    refine x_iload_n k_134_77 rfl ?_
    refine y_iaload (m := t) k_134_78 M.a4 (Or.inl rfl) rfl (by omega) ?_
    have f78 := b.v4 (t)
    refine x_iconst k_134_79 ?_
    refine x_icmpeq (t := 86) k_134_80 rfl (by show inR (A 4 t) ∧ inR (3); omega) (fun hb => ?_) (fun hb => ?_)
    · have c80 : A 4 t = 3 := hb
      have hw := hH.2.1 c80
      refine x_aload_n k_134_86 rfl ?_
      refine x_get k_134_87 M.1 rfl ?_
      refine x_iload_n k_134_90 rfl ?_
      refine x_dup2 k_134_91 rfl ?_
      refine y_iaload (m := t) k_134_92 M.a7 (Or.inl rfl) rfl (by omega) ?_
      have f92 := b.v7 (t)
      refine x_iconst k_134_93 ?_
      refine x_iadd k_134_94 ?_
      refine y_iastore (m := t) k_134_95 M.a7 rfl (by omega) ?_
      refine mgo (M.s7 _) (V.tr (Mv.ma (Nat.le_of_ble_eq_true rfl))) (fun h M V => ?_)
      refine x_aload_n k_134_96 rfl ?_
      refine x_get k_134_97 M.1 rfl ?_
      refine x_iload_n k_134_100 rfl ?_
      refine y_iaload (m := t) k_134_101 M.a7 (Or.inl rfl) rfl (by omega) ?_
      refine x_top (show (up (A 7) t ((A 7 t + 1))) t = (A 7 t + 1) from up_s) ?_
      refine x_aload_n k_134_102 rfl ?_
      refine x_get k_134_103 M.1 rfl ?_
      refine x_iload_n k_134_106 rfl ?_
      refine y_iaload (m := t) k_134_107 M.a8 (Or.inl rfl) rfl (by omega) ?_
      have f107 := b.v8 (t)
      refine x_icmpne (t := 247) k_134_108 rfl (by show inR ((A 7 t + 1)) ∧ inR (A 8 t); omega) (fun hb => ?_) (fun hb => ?_)
      · have c108 : ¬ (A 7 t + 1) = A 8 t := hb
        refine x_return k_134_247 ?_
        exact k _ _ h (Or.inr (Or.inr (Or.inr (Or.inl ⟨w2, c80, c108, rfl, rfl⟩)))) (b.t7 ⟨by omega, by omega⟩) M V
      · have c108 : ¬ (¬ (A 7 t + 1) = A 8 t) := hb
        refine x_aload_n k_134_111 rfl ?_
        refine x_iload_n k_134_112 rfl ?_
        refine x_call2 k_134_113 (Nat.le_of_ble_eq_true rfl) (rcv_1 M.1) (Nat.le_of_ble_eq_true rfl) ?_
        refine r_commits (t := t) (s := s) (A := yesA A t) M (b.t7 ⟨by omega, by omega⟩) ht hs hH.1 hw.1 h6 h5 (fun C1 A1 h hcm b M V1 => bh_v ?_)
        have V := V.tr V1
        refine x_goto (t := 247) k_134_116 rfl ?_
        refine x_return k_134_247 ?_
        exact k _ _ h (Or.inr (Or.inr (Or.inr (Or.inr (Or.inl ⟨w2, c80, Decidable.not_not.mp c108, hcm⟩))))) b M V
    · have c80 : ¬ (A 4 t = 3) := hb
      refine x_goto (t := 247) k_134_83 rfl ?_
      refine x_return k_134_247 ?_
      exact k _ _ h (Or.inr (Or.inr (Or.inl ⟨Or.inl w2, c80, rfl, rfl⟩))) b M V
  by_cases w3 : so = 3
  · refine x_tabIn (o := 118) (t := 119) k_134_1 hso (by omega) (by subst w3; rfl) rfl ?_
    refine x_aload_n k_134_119 rfl ?_
    refine x_get k_134_120 M.1 rfl ?_
    refine x_iload_n k_134_123 rfl ?_
    refine y_iaload (m := t) k_134_124 M.a4 (Or.inl rfl) rfl (by omega) ?_
    have f124 := b.v4 (t)
    refine x_iconst k_134_125 ?_
    refine x_icmpeq (t := 132) k_134_126 rfl (by show inR (A 4 t) ∧ inR (3); omega) (fun hb => ?_) (fun hb => ?_)
    · have c126 : A 4 t = 3 := hb
      refine x_aload_n k_134_132 rfl ?_
      refine x_get k_134_133 M.1 rfl ?_
      refine x_iload_n k_134_136 rfl ?_
      refine x_iconst k_134_137 ?_
      refine y_iastore (m := t) k_134_138 M.a4 rfl (by omega) ?_
      refine mgo (M.s4 _) (V.tr (Mv.ma (Nat.le_of_ble_eq_true rfl))) (fun h M V => ?_)
      refine x_aload_n k_134_139 rfl ?_
      refine x_iload_n k_134_140 rfl ?_
      refine x_iload k_134_141 rfl ?_
      refine x_call3 k_134_143 (Nat.le_of_ble_eq_true rfl) (rcv_1 M.1) (Nat.le_of_ble_eq_true rfl) ?_
      refine r_unlock (t := t) (s := d) M (b.t4 ⟨by omega, by omega⟩) ht hd (fun h M V1 => bh_v ?_)
      have V := V.tr V1
      refine x_iconst k_134_146 ?_
      refine x_is5 k_134_147 rfl ?_
      exact lp_bc4 (C := C) (A := abA C A t d) ((b.t4 ⟨by omega, by omega⟩).s1 (unlF_b b)) ht hd ha h5 (fun h' b' M' V' => k _ _ h' (Or.inr (Or.inr (Or.inr (Or.inr (Or.inr (Or.inl ⟨w3, c126, rfl, rfl⟩)))))) b' M' V') (C 1).toNat 0 (Nat.zero_add _) _ _ h rfl M V
    · have c126 : ¬ (A 4 t = 3) := hb
      refine x_goto (t := 247) k_134_129 rfl ?_
      refine x_return k_134_247 ?_
      exact k _ _ h (Or.inr (Or.inr (Or.inl ⟨Or.inr w3, c126, rfl, rfl⟩))) b M V
  by_cases w4 : so = 4
  · refine x_tabIn (o := 199) (t := 200) k_134_1 hso (by omega) (by subst w4; rfl) rfl ?_
    refine x_aload_n k_134_200 rfl ?_
    refine x_iload_n k_134_201 rfl ?_
    refine x_iload k_134_202 rfl ?_
    refine x_call3 k_134_204 (Nat.le_of_ble_eq_true rfl) (rcv_1 M.1) (Nat.le_of_ble_eq_true rfl) ?_
    refine r_unlock (t := t) (s := d) M b ht hd (fun h M V1 => bh_v ?_)
    have V := V.tr V1
    refine x_goto (t := 247) k_134_207 rfl ?_
    refine x_return k_134_247 ?_
    exact k _ _ h (Or.inr (Or.inr (Or.inr (Or.inr (Or.inr (Or.inr (Or.inl ⟨w4, rfl, rfl⟩))))))) (b.s1 (unlF_b b)) M V
  have w5 : ¬ (1 ≤ so ∧ so ≤ 4) := by omega
  refine x_tabOut (t := 210) k_134_1 hso (by omega) rfl ?_
  have h21 := hH.2.2 w5
  have h21b := b.v21 d
  refine x_aload_n k_134_210 rfl ?_
  refine x_get k_134_211 M.1 rfl ?_
  refine x_sipush k_134_214 ?_
  refine x_iload k_134_217 rfl ?_
  refine x_imul k_134_219 ?_
  refine x_aload_n k_134_220 rfl ?_
  refine x_get k_134_221 M.1 rfl ?_
  refine x_iload k_134_224 rfl ?_
  refine y_iaload (m := d) k_134_226 M.a21 (Or.inl rfl) rfl (by omega) ?_
  have f226 := b.v21 (d)
  refine x_iadd k_134_227 ?_
  refine x_iload_n k_134_228 rfl ?_
  refine y_iastore (m := 500 * d + (A 21 d).toNat) k_134_229 M.a20 (show ((500 * (d : Int)) + A 21 d) = ((500 * d + (A 21 d).toNat : Nat) : Int) by omega) (by omega) ?_
  refine mgo (M.s20 _) (V.tr (Mv.ma (Nat.le_of_ble_eq_true rfl))) (fun h M V => ?_)
  refine x_aload_n k_134_230 rfl ?_
  refine x_get k_134_231 M.1 rfl ?_
  refine x_iload k_134_234 rfl ?_
  refine x_dup2 k_134_236 rfl ?_
  refine y_iaload (m := d) k_134_237 M.a21 (Or.inl rfl) rfl (by omega) ?_
  have f237 := b.v21 (d)
  refine x_iconst k_134_238 ?_
  refine x_iadd k_134_239 ?_
  refine y_iastore (m := d) k_134_240 M.a21 rfl (by omega) ?_
  refine mgo (M.s21 _) (V.tr (Mv.ma (Nat.le_of_ble_eq_true rfl))) (fun h M V => ?_)
  refine x_aload_n k_134_241 rfl ?_
  refine x_iload k_134_242 rfl ?_
  refine x_call2 k_134_244 (Nat.le_of_ble_eq_true rfl) (rcv_1 M.1) (Nat.le_of_ble_eq_true rfl) ?_
  refine r_release (C := C) (A := hldA A t d) (s := d) M ((b.t20 ⟨by omega, by omega⟩).t21 ⟨by omega, by omega⟩) hd (fun n A1 h r b M V1 => bh_v ?_)
  have V := V.tr V1
  refine x_return k_134_247 ?_
  exact k _ _ h (Or.inr (Or.inr (Or.inr (Or.inr (Or.inr (Or.inr (Or.inr (⟨w5, rfl, n, r⟩)))))))) b M V
theorem lp_deliver {h0 : AH} (M : MP am ad C A h) (V : Mv am ad h0 h) (b : RB C A) {a d : Nat} (ha : a < 6) (hd : d < 6) (hH : ∀ j, j < (C 5).toNat → wtq A a d j → arrH A (A 18 j) (A 19 j).toNat (A 3 (A 19 j).toNat).toNat d) (h6 : C 6 < 1000) (h5 : C 5 + 6 ≤ 15000) (k0 : ∀ h', (∀ q, q < (C 5).toNat → ¬ wtq A a d q) → MP am ad C A h' → Mv am ad h0 h' → Q (.inl (some (aI 0))) h') (k1 : ∀ j C' A' h', j < (C 5).toNat → (∀ q, q < j → ¬ wtq A a d q) → wtq A a d j → arrP C (up A 18 (up (A 18) j 0)) (A 18 j) (A 19 j).toNat (A 3 (A 19 j).toNat).toNat a d C' A' → RB C' A' → MP am ad C' A' h' → Mv am ad h0 h' → Q (.inl (some (aI (A 18 j)))) h') : ∀ n j : Nat, j + n = (C 5).toNat → (∀ q, q < j → ¬ wtq A a d q) → ∀ z : Option AV, Rn 133 38 [some (aR am), some (aI ((a : Int))), some (aI ((d : Int))), some (aI ((j : Int))), z] [] h Q := by
  intro n
  induction n using Nat.strongRecOn with | ind n ih => ?_
  intro j hj hq z
  refine x_iload_n k_133_38 rfl ?_
  refine x_aload_n k_133_39 rfl ?_
  refine x_get k_133_40 M.1 rfl ?_
  have f40 := b.c5
  refine x_icmpge (t := 116) k_133_43 rfl (by show inR ((j : Int)) ∧ inR (C 5); omega) (fun hb => ?_) (fun hb => ?_)
  · have c43 : C 5 ≤ (j : Int) := hb
    refine x_iconst k_133_116 ?_
    refine x_ireturn k_133_117 rfl ?_
    exact k0 h (fun q y => hq q (by omega)) M V
  · have c43 : ¬ (C 5 ≤ (j : Int)) := hb
    refine x_aload_n k_133_46 rfl ?_
    refine x_get k_133_47 M.1 rfl ?_
    refine x_iload_n k_133_50 rfl ?_
    refine y_iaload (m := j) k_133_51 M.a18 (Or.inl rfl) rfl (by omega) ?_
    have f51 := b.v18 (j)
    refine x_ifeq (t := 110) k_133_52 rfl (by show inR (A 18 j); omega) (fun hb => ?_) (fun hb => ?_)
    · have c52 : A 18 j = 0 := hb
      refine x_inc3 k_133_110 rfl ?_
      refine x_goto (t := 38) k_133_113 rfl ?_
      exact ih (n - 1) (by omega) (j + 1) (by omega) (nx_all hq (fun z => by obtain ⟨z1, z2, z3⟩ := z; omega)) _
    · have c52 : ¬ (A 18 j = 0) := hb
      refine x_aload_n k_133_55 rfl ?_
      refine x_get k_133_56 M.1 rfl ?_
      refine x_iload_n k_133_59 rfl ?_
      refine y_iaload (m := j) k_133_60 M.a16 (Or.inl rfl) rfl (by omega) ?_
      have f60 := b.v16 (j)
      refine x_iload_n k_133_61 rfl ?_
      refine x_icmpne (t := 110) k_133_62 rfl (by show inR (A 16 j) ∧ inR ((a : Int)); omega) (fun hb => ?_) (fun hb => ?_)
      · have c62 : ¬ A 16 j = (a : Int) := hb
        refine x_inc3 k_133_110 rfl ?_
        refine x_goto (t := 38) k_133_113 rfl ?_
        exact ih (n - 1) (by omega) (j + 1) (by omega) (nx_all hq (fun z => by obtain ⟨z1, z2, z3⟩ := z; omega)) _
      · have c62 : ¬ (¬ A 16 j = (a : Int)) := hb
        refine x_aload_n k_133_65 rfl ?_
        refine x_get k_133_66 M.1 rfl ?_
        refine x_iload_n k_133_69 rfl ?_
        refine y_iaload (m := j) k_133_70 M.a17 (Or.inl rfl) rfl (by omega) ?_
        have f70 := b.v17 (j)
        refine x_iload_n k_133_71 rfl ?_
        refine x_icmpeq (t := 78) k_133_72 rfl (by show inR (A 17 j) ∧ inR ((d : Int)); omega) (fun hb => ?_) (fun hb => ?_)
        · have c72 : A 17 j = (d : Int) := hb
          refine x_aload_n k_133_78 rfl ?_
          refine x_get k_133_79 M.1 rfl ?_
          refine x_iload_n k_133_82 rfl ?_
          refine y_iaload (m := j) k_133_83 M.a18 (Or.inl rfl) rfl (by omega) ?_
          have f83 := b.v18 (j)
          refine x_is4 k_133_84 rfl ?_
          refine x_aload_n k_133_86 rfl ?_
          refine x_get k_133_87 M.1 rfl ?_
          refine x_iload_n k_133_90 rfl ?_
          refine x_iconst k_133_91 ?_
          refine y_iastore (m := j) k_133_92 M.a18 rfl (by omega) ?_
          refine mgo (M.s18 _) (V.tr (Mv.ma (Nat.le_of_ble_eq_true rfl))) (fun h M V => ?_)
          refine x_aload_n k_133_93 rfl ?_
          refine x_iload k_133_94 rfl ?_
          refine x_aload_n k_133_96 rfl ?_
          refine x_get k_133_97 M.1 rfl ?_
          refine x_iload_n k_133_100 rfl ?_
          refine y_iaload (m := j) k_133_101 M.a19 (Or.inl rfl) rfl (by omega) ?_
          have f101 := b.v19 (j)
          refine x_top (show A 19 j = (((A 19 j).toNat : Nat) : Int) from by omega) ?_
          refine x_iload_n k_133_102 rfl ?_
          refine x_iload_n k_133_103 rfl ?_
          refine x_call5 k_133_104 (Nat.le_of_ble_eq_true rfl) (rcv_1 M.1) (Nat.le_of_ble_eq_true rfl) ?_
          have hJ := hH j (by omega) ⟨by omega, by omega, by omega⟩
          refine r_arrives (C := C) (A := up A 18 (up (A 18) j 0)) (so := A 18 j) (t := (A 19 j).toNat) (s := (A 3 (A 19 j).toNat).toNat) (a := a) (d := d) M (b.t18 ⟨by omega, by omega⟩) (by omega) (by omega) (by have := b.v3 (A 19 j).toNat; omega) ha hd hJ h6 h5 (fun C1 A1 h har b M V1 => bh_v ?_)
          have V := V.tr V1
          refine x_iload k_133_107 rfl ?_
          refine x_ireturn k_133_109 rfl ?_
          exact k1 j C1 A1 h (by omega) (fun q y => hq q y) ⟨by omega, by omega, by omega⟩ har b M V
        · have c72 : ¬ (A 17 j = (d : Int)) := hb
          refine x_goto (t := 110) k_133_75 rfl ?_
          refine x_inc3 k_133_110 rfl ?_
          refine x_goto (t := 38) k_133_113 rfl ?_
          exact ih (n - 1) (by omega) (j + 1) (by omega) (nx_all hq (fun z => by obtain ⟨z1, z2, z3⟩ := z; omega)) _
theorem r_deliver (M : MP am ad C A h) (b : RB C A) {a d : Int} (ha : inR a) (hd : inR d) (hH : ((0 ≤ a ∧ a < C 1) ∧ (0 ≤ d ∧ d < C 1)) → ∀ j, j < (C 5).toNat → wtq A a d j → arrH A (A 18 j) (A 19 j).toNat (A 3 (A 19 j).toNat).toNat d.toNat) (h6 : C 6 < 1000) (h5 : C 5 + 6 ≤ 15000) (kf : ∀ h', wcd (decide (¬ ((0 ≤ a ∧ a < C 1) ∧ (0 ≤ d ∧ d < C 1)) ∨ a = d)) (decide (False)) ≠ 0 → MP am ad (up C 0 (wcd (decide (¬ ((0 ≤ a ∧ a < C 1) ∧ (0 ≤ d ∧ d < C 1)) ∨ a = d)) (decide (False)))) A h' → Mv am ad h h' → Q (.inl (some (aI 0))) h') (k0 : ∀ h', (¬ (¬ ((0 ≤ a ∧ a < C 1) ∧ (0 ≤ d ∧ d < C 1)) ∨ a = d) ∧ ¬ False) → (∀ q, q < (C 5).toNat → ¬ wtq A a d q) → MP am ad (up C 0 0) A h' → Mv am ad h h' → Q (.inl (some (aI 0))) h') (k1 : ∀ j C' A' h', (¬ (¬ ((0 ≤ a ∧ a < C 1) ∧ (0 ≤ d ∧ d < C 1)) ∨ a = d) ∧ ¬ False) → j < (C 5).toNat → (∀ q, q < j → ¬ wtq A a d q) → wtq A a d j → arrP (up C 0 0) (up A 18 (up (A 18) j 0)) (A 18 j) (A 19 j).toNat (A 3 (A 19 j).toNat).toNat a.toNat d.toNat C' A' → RB C' A' → MP am ad C' A' h' → Mv am ad h h' → Q (.inl (some (aI (A 18 j)))) h') : Rn 133 0 (entL 133 [aR am, aI a, aI d]) [] h Q := by
  show Rn 133 0 [some (aR am), some (aI (a)), some (aI (d)), none, none] [] h Q
  have b1 := b.c1
  have b2 := b.c2
  have b3 := b.c3
  have J : ∀ x y : Int, x = bI (decide (¬ ((0 ≤ a ∧ a < C 1) ∧ (0 ≤ d ∧ d < C 1)) ∨ a = d)) → y = bI (decide (False)) → Rn 133 28 [some (aR am), some (aI (a)), some (aI (d)), none, none] [aI y, aI x, aR am] h Q := by
    intro x y hx hy
    subst hx hy
    refine x_call3 k_133_28 (Nat.le_of_ble_eq_true rfl) (rcv_1 M.1) (Nat.le_of_ble_eq_true rfl) ?_
    refine r_fails M (fun h M V => bh_1 ?_)
    refine x_ifeq_p (t := 36) k_133_31 rfl (fun cF => ?_) (fun cF => ?_)
    · have cG := wcd_z cF
      have M : MP am ad (up C 0 0) A h := by rw [← cG.1]; exact M
      refine x_iconst k_133_36 ?_
      refine x_is3n k_133_37 rfl ?_
      have b1 := b.c1
      have MM := M
      have VV := V
      obtain ⟨an, rfl⟩ : ∃ n : Nat, a = (n : Int) := ⟨a.toNat, by omega⟩
      obtain ⟨dn, rfl⟩ : ∃ n : Nat, d = (n : Int) := ⟨d.toNat, by omega⟩
      exact lp_deliver (C := up C 0 0) (a := an) (d := dn) MM VV b (by omega) (by omega) (hH (by omega)) h6 h5 (fun h' q => k0 h' cG.2 q) (fun j C' A' h' q1 q2 q3 => k1 j C' A' h' cG.2 q1 q2 q3) (C 5).toNat 0 (Nat.zero_add _) (fun q hq => absurd hq (Nat.not_lt_zero q)) _
    · refine x_iconst k_133_34 ?_
      refine x_ireturn k_133_35 rfl ?_
      exact kf h cF M V
  refine x_aload_n k_133_0 rfl ?_
  refine x_aload_n k_133_1 rfl ?_
  refine x_iload_n k_133_2 rfl ?_
  refine x_call2 k_133_3 (Nat.le_of_ble_eq_true rfl) (rcv_1 M.1) (Nat.le_of_ble_eq_true rfl) ?_
  refine r_isSite M (by omega) (by omega) (bh_1 ?_)
  refine x_ifeq_p (t := 22) k_133_6 rfl (fun c6 => ?_) (fun c6 => ?_)
  · refine x_iconst k_133_22 ?_
    refine x_goto (t := 27) k_133_23 rfl ?_
    refine x_iconst k_133_27 ?_
    exact J 1 0 (bI_1 (by omega)) (bI_0 (by first | omega | exact id))
  · refine x_aload_n k_133_9 rfl ?_
    refine x_iload_n k_133_10 rfl ?_
    refine x_call2 k_133_11 (Nat.le_of_ble_eq_true rfl) (rcv_1 M.1) (Nat.le_of_ble_eq_true rfl) ?_
    refine r_isSite M (by omega) (by omega) (bh_1 ?_)
    refine x_ifeq_p (t := 22) k_133_14 rfl (fun c14 => ?_) (fun c14 => ?_)
    · refine x_iconst k_133_22 ?_
      refine x_goto (t := 27) k_133_23 rfl ?_
      refine x_iconst k_133_27 ?_
      exact J 1 0 (bI_1 (by omega)) (bI_0 (by first | omega | exact id))
    · refine x_iload_n k_133_17 rfl ?_
      refine x_iload_n k_133_18 rfl ?_
      refine x_icmpne (t := 26) k_133_19 rfl (by show inR (a) ∧ inR (d); omega) (fun hb => ?_) (fun hb => ?_)
      · have c19 : ¬ a = d := hb
        refine x_iconst k_133_26 ?_
        refine x_iconst k_133_27 ?_
        exact J 0 0 (bI_0 (by first | omega | exact id)) (bI_0 (by first | omega | exact id))
      · have c19 : ¬ (¬ a = d) := hb
        refine x_iconst k_133_22 ?_
        refine x_goto (t := 27) k_133_23 rfl ?_
        refine x_iconst k_133_27 ?_
        exact J 1 0 (bI_1 (by omega)) (bI_0 (by first | omega | exact id))
def mls : Nat → Nat
  | 0 => 0
  | k + 1 => mls k + mlen k
def MI (am n0 : Nat) (h0 : AH) (k : Nat) (fs : List AV) (h : AH) : Prop := h.1 am = some (.inr (9, fs)) ∧ (∀ j, j < k → h.1 (n0 + j) = some (.inl (mtag j, mlen j, marr j (fun _ => 0)))) ∧ h.2.1 = n0 + k ∧ am < n0 ∧ (∀ x, (x < n0 ∨ n0 + k ≤ x) → x ≠ am → h.1 x = h0.1 x) ∧ (h.2.2.1 = h0.2.2.1 + mls k ∧ h.2.2.2 = h0.2.2.2) ∧ fs.length = 29 ∧ (∀ j, j < 7 → fs[j]? = some (aI 0)) ∧ (∀ j, j < k → fs[7 + j]? = some (aR (n0 + j)))
theorem MI.obj {am n0 k c : Nat} {h0 : AH} {fs : List AV} {e : AE} (I : MI am n0 h0 k fs h) : (hnew h e c).1 am = some (.inr (9, fs)) := by
  rw [hnew_n (by have := I.2.2.1; have := I.2.2.2.1; omega)]
  exact I.1
theorem MI.step {am n0 k p : Nat} {h0 : AH} {fs : List AV} {e : AE} {c : Nat} (I : MI am n0 h0 k fs h) (hp : p = 7 + k) (hk : k < 22) (he : e = .inl (mtag k, mlen k, marr k (fun _ => 0))) (hc : c = mlen k) : MI am n0 h0 (k + 1) (fs.set p (aR h.2.1)) (hput (hnew h e c) am (.inr (9, fs.set p (aR h.2.1)))) := by
  subst hp he hc
  obtain ⟨i1, i2, i3, i4, i5, i6, i7, i8, i9⟩ := I
  refine ⟨by rw [hput_s], fun j hj => ?_, ?_, i4, fun x h1 h2 => ?_, ⟨?_, i6.2⟩, by rw [List.length_set]; exact i7, fun j hj => ?_, fun j hj => ?_⟩
  · rw [hput_n (by omega)]
    by_cases hjk : j = k
    · subst hjk
      rw [← i3, hnew_s]
    · rw [hnew_n (by omega)]
      exact i2 j (by omega)
  · show h.2.1 + 1 = n0 + (k + 1)
    omega
  · rw [hput_n h2, hnew_n (by omega)]
    exact i5 x (by omega) h2
  · show h.2.2.1 + mlen k = h0.2.2.1 + (mls k + mlen k)
    have := i6.1
    omega
  · rw [List.getElem?_set_ne (by omega)]
    exact i8 j hj
  · by_cases hjk : j = k
    · subst hjk
      rw [List.getElem?_set_self (by omega), i3]
    · rw [List.getElem?_set_ne (by omega)]
      exact i9 j (by omega)
theorem igo {am n0 k i pc : Nat} {L : AL} {st : List AV} {h0 h' : AH} {fs : List AV} (I : MI am n0 h0 k fs h') (k0 : ∀ h' fs, MI am n0 h0 k fs h' → Rn i pc L st h' Q) : Rn i pc L st h' Q := k0 h' fs I
theorem MI.mp {am n0 : Nat} {h0 : AH} {fs : List AV} (I : MI am n0 h0 22 fs h) : MP am (fun j => n0 + j) (fun _ => 0) (fun _ _ => 0) h := by
  obtain ⟨i1, i2, i3, i4, i5, i6, i7, i8, i9⟩ := I
  refine ⟨?_, i2, fun j k _ _ e => by have e : n0 + j = n0 + k := e; omega⟩
  rw [i1]
  refine congrArg (fun x => some (Sum.inr (9, x))) (List.ext_getElem? (fun q => ?_))
  by_cases h1 : q < 7
  · rw [i8 q h1]
    match q, h1 with
    | 0, _ => rfl
    | 1, _ => rfl
    | 2, _ => rfl
    | 3, _ => rfl
    | 4, _ => rfl
    | 5, _ => rfl
    | 6, _ => rfl
  · by_cases h2 : q < 29
    · obtain ⟨r, rfl⟩ : ∃ r, q = 7 + r := ⟨q - 7, by omega⟩
      have hr : r < 22 := by omega
      rw [i9 r hr]
      match r, hr with
      | 0, _ => rfl
      | 1, _ => rfl
      | 2, _ => rfl
      | 3, _ => rfl
      | 4, _ => rfl
      | 5, _ => rfl
      | 6, _ => rfl
      | 7, _ => rfl
      | 8, _ => rfl
      | 9, _ => rfl
      | 10, _ => rfl
      | 11, _ => rfl
      | 12, _ => rfl
      | 13, _ => rfl
      | 14, _ => rfl
      | 15, _ => rfl
      | 16, _ => rfl
      | 17, _ => rfl
      | 18, _ => rfl
      | 19, _ => rfl
      | 20, _ => rfl
      | 21, _ => rfl
      | x + 22, hx => exact absurd hx (by omega)
    · rw [List.getElem?_eq_none (by omega), List.getElem?_eq_none (by show 29 ≤ q; omega)]
theorem r_init {am : Nat} (he : h.1 am = some (.inr (9, dfl 9))) (ham : am < h.2.1) (k : ∀ h', MP am (fun j => h.2.1 + j) (fun _ => 0) (fun _ _ => 0) h' → h'.2.1 = h.2.1 + 22 → h'.2.2.1 = h.2.2.1 + mls 22 → h'.2.2.2 = h.2.2.2 → (∀ x, (x < h.2.1 ∨ h.2.1 + 22 ≤ x) → x ≠ am → h'.1 x = h.1 x) → Q (.inl none) h') : Rn 101 0 (entL 101 [aR am]) [] h Q := by
  show Rn 101 0 [some (aR am)] [] h Q
  have I : MI am h.2.1 h 0 (dfl 9) h := ⟨he, fun j hj => absurd hj (Nat.not_lt_zero j), rfl, ham, fun _ _ _ => rfl, ⟨rfl, rfl⟩, rfl, fun j hj => (match j, hj with | 0, _ => rfl | 1, _ => rfl | 2, _ => rfl | 3, _ => rfl | 4, _ => rfl | 5, _ => rfl | 6, _ => rfl), fun j hj => absurd hj (Nat.not_lt_zero j)⟩
  refine x_aload_n k_101_0 rfl ?_
  refine x_oinit k_101_1 (Nat.le_of_ble_eq_true rfl) ?_
  refine x_aload_n k_101_4 rfl ?_
  refine x_sipush k_101_5 ?_
  refine x_newa_int k_101_8 (by decide) ?_
  refine x_put k_101_10 I.obj (by rw [I.2.2.2.2.2.2.1]; decide) rfl ?_
  refine igo (I.step (k := 0) rfl (by decide) rfl rfl) (fun h fs I => ?_)
  refine x_aload_n k_101_13 rfl ?_
  refine x_sipush k_101_14 ?_
  refine x_newa_int k_101_17 (by decide) ?_
  refine x_put k_101_19 I.obj (by rw [I.2.2.2.2.2.2.1]; decide) rfl ?_
  refine igo (I.step (k := 1) rfl (by decide) rfl rfl) (fun h fs I => ?_)
  refine x_aload_n k_101_22 rfl ?_
  refine x_sipush k_101_23 ?_
  refine x_newa_boolean k_101_26 (by decide) ?_
  refine x_put k_101_28 I.obj (by rw [I.2.2.2.2.2.2.1]; decide) rfl ?_
  refine igo (I.step (k := 2) rfl (by decide) rfl rfl) (fun h fs I => ?_)
  refine x_aload_n k_101_31 rfl ?_
  refine x_sipush k_101_32 ?_
  refine x_newa_int k_101_35 (by decide) ?_
  refine x_put k_101_37 I.obj (by rw [I.2.2.2.2.2.2.1]; decide) rfl ?_
  refine igo (I.step (k := 3) rfl (by decide) rfl rfl) (fun h fs I => ?_)
  refine x_aload_n k_101_40 rfl ?_
  refine x_sipush k_101_41 ?_
  refine x_newa_int k_101_44 (by decide) ?_
  refine x_put k_101_46 I.obj (by rw [I.2.2.2.2.2.2.1]; decide) rfl ?_
  refine igo (I.step (k := 4) rfl (by decide) rfl rfl) (fun h fs I => ?_)
  refine x_aload_n k_101_49 rfl ?_
  refine x_sipush k_101_50 ?_
  refine x_newa_int k_101_53 (by decide) ?_
  refine x_put k_101_55 I.obj (by rw [I.2.2.2.2.2.2.1]; decide) rfl ?_
  refine igo (I.step (k := 5) rfl (by decide) rfl rfl) (fun h fs I => ?_)
  refine x_aload_n k_101_58 rfl ?_
  refine x_sipush k_101_59 ?_
  refine x_newa_int k_101_62 (by decide) ?_
  refine x_put k_101_64 I.obj (by rw [I.2.2.2.2.2.2.1]; decide) rfl ?_
  refine igo (I.step (k := 6) rfl (by decide) rfl rfl) (fun h fs I => ?_)
  refine x_aload_n k_101_67 rfl ?_
  refine x_sipush k_101_68 ?_
  refine x_newa_int k_101_71 (by decide) ?_
  refine x_put k_101_73 I.obj (by rw [I.2.2.2.2.2.2.1]; decide) rfl ?_
  refine igo (I.step (k := 7) rfl (by decide) rfl rfl) (fun h fs I => ?_)
  refine x_aload_n k_101_76 rfl ?_
  refine x_sipush k_101_77 ?_
  refine x_newa_int k_101_80 (by decide) ?_
  refine x_put k_101_82 I.obj (by rw [I.2.2.2.2.2.2.1]; decide) rfl ?_
  refine igo (I.step (k := 8) rfl (by decide) rfl rfl) (fun h fs I => ?_)
  refine x_aload_n k_101_85 rfl ?_
  refine x_sipush k_101_86 ?_
  refine x_newa_int k_101_89 (by decide) ?_
  refine x_put k_101_91 I.obj (by rw [I.2.2.2.2.2.2.1]; decide) rfl ?_
  refine igo (I.step (k := 9) rfl (by decide) rfl rfl) (fun h fs I => ?_)
  refine x_aload_n k_101_94 rfl ?_
  refine x_sipush k_101_95 ?_
  refine x_newa_int k_101_98 (by decide) ?_
  refine x_put k_101_100 I.obj (by rw [I.2.2.2.2.2.2.1]; decide) rfl ?_
  refine igo (I.step (k := 10) rfl (by decide) rfl rfl) (fun h fs I => ?_)
  refine x_aload_n k_101_103 rfl ?_
  refine x_sipush k_101_104 ?_
  refine x_newa_int k_101_107 (by decide) ?_
  refine x_put k_101_109 I.obj (by rw [I.2.2.2.2.2.2.1]; decide) rfl ?_
  refine igo (I.step (k := 11) rfl (by decide) rfl rfl) (fun h fs I => ?_)
  refine x_aload_n k_101_112 rfl ?_
  refine x_sipush k_101_113 ?_
  refine x_newa_long k_101_116 (by decide) ?_
  refine x_put k_101_118 I.obj (by rw [I.2.2.2.2.2.2.1]; decide) rfl ?_
  refine igo (I.step (k := 12) rfl (by decide) rfl rfl) (fun h fs I => ?_)
  refine x_aload_n k_101_121 rfl ?_
  refine x_bipush k_101_122 ?_
  refine x_newa_int k_101_124 (by decide) ?_
  refine x_put k_101_126 I.obj (by rw [I.2.2.2.2.2.2.1]; decide) rfl ?_
  refine igo (I.step (k := 13) rfl (by decide) rfl rfl) (fun h fs I => ?_)
  refine x_aload_n k_101_129 rfl ?_
  refine x_bipush k_101_130 ?_
  refine x_newa_int k_101_132 (by decide) ?_
  refine x_put k_101_134 I.obj (by rw [I.2.2.2.2.2.2.1]; decide) rfl ?_
  refine igo (I.step (k := 14) rfl (by decide) rfl rfl) (fun h fs I => ?_)
  refine x_aload_n k_101_137 rfl ?_
  refine x_sipush k_101_138 ?_
  refine x_newa_int k_101_141 (by decide) ?_
  refine x_put k_101_143 I.obj (by rw [I.2.2.2.2.2.2.1]; decide) rfl ?_
  refine igo (I.step (k := 15) rfl (by decide) rfl rfl) (fun h fs I => ?_)
  refine x_aload_n k_101_146 rfl ?_
  refine x_sipush k_101_147 ?_
  refine x_newa_int k_101_150 (by decide) ?_
  refine x_put k_101_152 I.obj (by rw [I.2.2.2.2.2.2.1]; decide) rfl ?_
  refine igo (I.step (k := 16) rfl (by decide) rfl rfl) (fun h fs I => ?_)
  refine x_aload_n k_101_155 rfl ?_
  refine x_sipush k_101_156 ?_
  refine x_newa_int k_101_159 (by decide) ?_
  refine x_put k_101_161 I.obj (by rw [I.2.2.2.2.2.2.1]; decide) rfl ?_
  refine igo (I.step (k := 17) rfl (by decide) rfl rfl) (fun h fs I => ?_)
  refine x_aload_n k_101_164 rfl ?_
  refine x_sipush k_101_165 ?_
  refine x_newa_int k_101_168 (by decide) ?_
  refine x_put k_101_170 I.obj (by rw [I.2.2.2.2.2.2.1]; decide) rfl ?_
  refine igo (I.step (k := 18) rfl (by decide) rfl rfl) (fun h fs I => ?_)
  refine x_aload_n k_101_173 rfl ?_
  refine x_sipush k_101_174 ?_
  refine x_newa_int k_101_177 (by decide) ?_
  refine x_put k_101_179 I.obj (by rw [I.2.2.2.2.2.2.1]; decide) rfl ?_
  refine igo (I.step (k := 19) rfl (by decide) rfl rfl) (fun h fs I => ?_)
  refine x_aload_n k_101_182 rfl ?_
  refine x_sipush k_101_183 ?_
  refine x_newa_int k_101_186 (by decide) ?_
  refine x_put k_101_188 I.obj (by rw [I.2.2.2.2.2.2.1]; decide) rfl ?_
  refine igo (I.step (k := 20) rfl (by decide) rfl rfl) (fun h fs I => ?_)
  refine x_aload_n k_101_191 rfl ?_
  refine x_bipush k_101_192 ?_
  refine x_newa_int k_101_194 (by decide) ?_
  refine x_put k_101_196 I.obj (by rw [I.2.2.2.2.2.2.1]; decide) rfl ?_
  refine igo (I.step (k := 21) rfl (by decide) rfl rfl) (fun h fs I => ?_)
  refine x_return k_101_199 ?_
  exact k _ I.mp I.2.2.1 I.2.2.2.2.2.1.1 I.2.2.2.2.2.1.2 I.2.2.2.2.1
end M9
