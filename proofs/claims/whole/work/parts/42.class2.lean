section C2
variable {ad : AD} {ow : OW} {K : KK} {h : AH} {C : Nat → Int} {A I : Nat → Nat → Int} {F : Nat → Nat → Nat → Int} {Ls : Nat → List Nat} {cp : Nat → Nat} {Q : AR → AH → Prop}
theorem lp_sitesApplied (w : WD ad ow K h) (g : CI ad K h.2.2.2.1 C A I F Ls cp) (b : RB C A) {t : Nat} (ht : t < (C 3).toNat) (k : Q (.inl (some (aI (apn A t (C 1).toNat)))) h) : ∀ n j : Nat, j + n = (C 1).toNat → Rn 98 4 [some (aR (ad 0 0)), some (aR (ad 4 t)), some (aI (apn A t j)), some (aI ((j : Int)))] [] h Q := by
  obtain ⟨R, hR, hR2⟩ := g.row
  have b1 := b.c1
  intro n
  induction n using Nat.strongRecOn with | ind n ih => ?_
  intro j hj
  refine x_iload_n k_98_4 rfl ?_
  refine x_aload_n k_98_5 rfl ?_
  refine x_get k_98_6 (w.at g.store) rfl ?_
  refine x_alen k_98_9 (w.at hR) ?_
  refine x_icmpge (t := 35) k_98_10 rfl (by show inR ((j : Int)) ∧ inR (((C 1).toNat : Int)); omega) (fun hb => ?_) (fun hb => ?_)
  · have c10 : ((C 1).toNat : Int) ≤ (j : Int) := hb
    refine x_iload_n k_98_35 rfl ?_
    refine x_ireturn k_98_36 rfl ?_
    have e : (C 1).toNat = j := by omega
    rw [e] at k
    exact k
  · have c10 : ¬ (((C 1).toNat : Int) ≤ (j : Int)) := hb
    refine x_aload_n k_98_13 rfl ?_
    refine x_get k_98_14 (w.at g.store) rfl ?_
    refine x_iload_n k_98_17 rfl ?_
    refine x_aaload k_98_18 (w.at hR) (Or.inl rfl) (by omega) (by omega) ?_
    rw [show R (((j : Int)) : Int).toNat = some (ad 2 j) from hR2 j (by omega)]
    refine x_aload_n k_98_19 rfl ?_
    refine x_call2 k_98_20 (Nat.le_of_ble_eq_true rfl) (rcv_1 (w.at (g.site (by omega)))) (Nat.le_of_ble_eq_true rfl) ?_
    refine k_hasApplied w g b ht (by omega) (bh_1 ?_)
    refine x_ifeq_p (t := 29) k_98_23 rfl (fun c23 => ?_) (fun c23 => ?_)
    · refine x_inc3 k_98_29 rfl ?_
      refine x_goto (t := 4) k_98_32 rfl ?_
      rw [show apn A t j = apn A t (j + 1) by simp only [apn]; rw [if_neg c23]]
      exact ih (n - 1) (by omega) (j + 1) (by omega)
    · refine x_inc2 k_98_26 rfl ?_
      refine x_inc3 k_98_29 rfl ?_
      refine x_goto (t := 4) k_98_32 rfl ?_
      rw [show apn A t j + 1 = apn A t (j + 1) by simp only [apn]; rw [if_pos c23]]
      exact ih (n - 1) (by omega) (j + 1) (by omega)
theorem k_sitesApplied (w : WD ad ow K h) (g : CI ad K h.2.2.2.1 C A I F Ls cp) (b : RB C A) {t : Nat} (ht : t < (C 3).toNat) (k : Q (.inl (some (aI (apn A t (C 1).toNat)))) h) : Rn 98 0 (entL 98 [aR (ad 0 0), aR (ad 4 t)]) [] h Q := by
  show Rn 98 0 [some (aR (ad 0 0)), some (aR (ad 4 t)), none, none] [] h Q
  refine x_iconst k_98_0 ?_
  refine x_is2n k_98_1 rfl ?_
  refine x_iconst k_98_2 ?_
  refine x_is3n k_98_3 rfl ?_
  exact lp_sitesApplied w g b ht k (C 1).toNat 0 (Nat.zero_add _)
def lsm (Ls : Nat → List Nat) (a : Nat) : Nat → Int
  | 0 => 0
  | s + 1 => lsm Ls a s + (Ls (a + 2 * s)).length
theorem lp_held (w : WD ad ow K h) (g : CI ad K h.2.2.2.1 C A I F Ls cp) (b : RB C A) (k : Q (.inl (some (aI (lsm Ls 2 (C 1).toNat)))) h) : ∀ n j : Nat, j + n = (C 1).toNat → Rn 7 4 [some (aR (ad 0 0)), some (aI (lsm Ls 2 j)), some (aI ((j : Int)))] [] h Q := by
  obtain ⟨R, hR, hR2⟩ := g.row
  have b1 := b.c1
  intro n
  induction n using Nat.strongRecOn with | ind n ih => ?_
  intro j hj
  refine x_iload_n k_7_4 rfl ?_
  refine x_aload_n k_7_5 rfl ?_
  refine x_get k_7_6 (w.at g.store) rfl ?_
  refine x_alen k_7_9 (w.at hR) ?_
  refine x_icmpge (t := 34) k_7_10 rfl (by show inR ((j : Int)) ∧ inR (((C 1).toNat : Int)); omega) (fun hb => ?_) (fun hb => ?_)
  · have c10 : ((C 1).toNat : Int) ≤ (j : Int) := hb
    refine x_iload_n k_7_34 rfl ?_
    refine x_ireturn k_7_35 rfl ?_
    have e : (C 1).toNat = j := by omega
    rw [e] at k
    exact k
  · have c10 : ¬ (((C 1).toNat : Int) ≤ (j : Int)) := hb
    refine x_iload_n k_7_13 rfl ?_
    refine x_aload_n k_7_14 rfl ?_
    refine x_get k_7_15 (w.at g.store) rfl ?_
    refine x_iload_n k_7_18 rfl ?_
    refine x_aaload k_7_19 (w.at hR) (Or.inl rfl) (by omega) (by omega) ?_
    rw [show R (((j : Int)) : Int).toNat = some (ad 2 j) from hR2 j (by omega)]
    have v := g.lh (s := j) (by omega) (by omega)
    obtain ⟨e8, v8⟩ := v.obj
    refine x_get k_7_20 (w.at (g.site (by omega))) rfl ?_
    refine x_call1 k_7_23 (Nat.le_of_ble_eq_true rfl) (rcv_1 (w.at v8)) (Nat.le_of_ble_eq_true rfl) ?_
    refine c_size w v (bh_1 ?_)
    refine x_iadd k_7_26 ?_
    refine x_is1n k_7_27 rfl ?_
    refine x_inc2 k_7_28 rfl ?_
    refine x_goto (t := 4) k_7_31 rfl ?_
    exact ih (n - 1) (by omega) (j + 1) (by omega)
theorem k_held (w : WD ad ow K h) (g : CI ad K h.2.2.2.1 C A I F Ls cp) (b : RB C A) (k : Q (.inl (some (aI (lsm Ls 2 (C 1).toNat)))) h) : Rn 7 0 (entL 7 [aR (ad 0 0)]) [] h Q := by
  show Rn 7 0 [some (aR (ad 0 0)), none, none] [] h Q
  refine x_iconst k_7_0 ?_
  refine x_is1n k_7_1 rfl ?_
  refine x_iconst k_7_2 ?_
  refine x_is2n k_7_3 rfl ?_
  exact lp_held w g b k (C 1).toNat 0 (Nat.zero_add _)
theorem lp_waits (w : WD ad ow K h) (g : CI ad K h.2.2.2.1 C A I F Ls cp) (b : RB C A) (k : Q (.inl (some (aI (lsm Ls 3 (C 1).toNat)))) h) : ∀ n j : Nat, j + n = (C 1).toNat → Rn 8 4 [some (aR (ad 0 0)), some (aI (lsm Ls 3 j)), some (aI ((j : Int)))] [] h Q := by
  obtain ⟨R, hR, hR2⟩ := g.row
  have b1 := b.c1
  intro n
  induction n using Nat.strongRecOn with | ind n ih => ?_
  intro j hj
  refine x_iload_n k_8_4 rfl ?_
  refine x_aload_n k_8_5 rfl ?_
  refine x_get k_8_6 (w.at g.store) rfl ?_
  refine x_alen k_8_9 (w.at hR) ?_
  refine x_icmpge (t := 34) k_8_10 rfl (by show inR ((j : Int)) ∧ inR (((C 1).toNat : Int)); omega) (fun hb => ?_) (fun hb => ?_)
  · have c10 : ((C 1).toNat : Int) ≤ (j : Int) := hb
    refine x_iload_n k_8_34 rfl ?_
    refine x_ireturn k_8_35 rfl ?_
    have e : (C 1).toNat = j := by omega
    rw [e] at k
    exact k
  · have c10 : ¬ (((C 1).toNat : Int) ≤ (j : Int)) := hb
    refine x_iload_n k_8_13 rfl ?_
    refine x_aload_n k_8_14 rfl ?_
    refine x_get k_8_15 (w.at g.store) rfl ?_
    refine x_iload_n k_8_18 rfl ?_
    refine x_aaload k_8_19 (w.at hR) (Or.inl rfl) (by omega) (by omega) ?_
    rw [show R (((j : Int)) : Int).toNat = some (ad 2 j) from hR2 j (by omega)]
    have v := g.lb (s := j) (by omega) (by omega)
    obtain ⟨e8, v8⟩ := v.obj
    refine x_get k_8_20 (w.at (g.site (by omega))) rfl ?_
    refine x_call1 k_8_23 (Nat.le_of_ble_eq_true rfl) (rcv_1 (w.at v8)) (Nat.le_of_ble_eq_true rfl) ?_
    refine c_size w v (bh_1 ?_)
    refine x_iadd k_8_26 ?_
    refine x_is1n k_8_27 rfl ?_
    refine x_inc2 k_8_28 rfl ?_
    refine x_goto (t := 4) k_8_31 rfl ?_
    exact ih (n - 1) (by omega) (j + 1) (by omega)
theorem k_waits (w : WD ad ow K h) (g : CI ad K h.2.2.2.1 C A I F Ls cp) (b : RB C A) (k : Q (.inl (some (aI (lsm Ls 3 (C 1).toNat)))) h) : Rn 8 0 (entL 8 [aR (ad 0 0)]) [] h Q := by
  show Rn 8 0 [some (aR (ad 0 0)), none, none] [] h Q
  refine x_iconst k_8_0 ?_
  refine x_is1n k_8_1 rfl ?_
  refine x_iconst k_8_2 ?_
  refine x_is2n k_8_3 rfl ?_
  exact lp_waits w g b k (C 1).toNat 0 (Nat.zero_add _)
/-- t asks the site u -/
def aks (A : Nat → Nat → Int) (Ls : Nat → List Nat) (t u : Nat) : Prop := ¬ (u : Int) = A 3 t ∧ ∃ x, x ∈ Ls (500 + 2 * t) ∧ A 0 (A 10 x).toNat = u
theorem lp_otherHomes (w : WD ad ow K h) (g : CI ad K h.2.2.2.1 C A I F Ls cp) (b : RB C A) (lt : LT C A Ls) {t : Nat} (ht : t < (C 3).toNat) (k : Q (.inl (some (aI (nP (aks A Ls t) (C 1).toNat)))) h) : ∀ n j : Nat, j + n = (C 1).toNat → Rn 66 4 [some (aR (ad 0 0)), some (aR (ad 4 t)), some (aI (nP (aks A Ls t) j)), some (aI ((j : Int)))] [] h Q := by
  obtain ⟨R, hR, hR2⟩ := g.row
  have b1 := b.c1
  intro n
  induction n using Nat.strongRecOn with | ind n ih => ?_
  intro j hj
  refine x_iload_n k_66_4 rfl ?_
  refine x_aload_n k_66_5 rfl ?_
  refine x_get k_66_6 (w.at g.store) rfl ?_
  refine x_alen k_66_9 (w.at hR) ?_
  refine x_icmpge (t := 30) k_66_10 rfl (by show inR ((j : Int)) ∧ inR (((C 1).toNat : Int)); omega) (fun hb => ?_) (fun hb => ?_)
  · have c10 : ((C 1).toNat : Int) ≤ (j : Int) := hb
    refine x_iload_n k_66_30 rfl ?_
    refine x_ireturn k_66_31 rfl ?_
    have e : (C 1).toNat = j := by omega
    rw [e] at k
    exact k
  · have c10 : ¬ (((C 1).toNat : Int) ≤ (j : Int)) := hb
    refine x_aload_n k_66_13 rfl ?_
    refine x_iload_n k_66_14 rfl ?_
    refine x_call2 k_66_15 (Nat.le_of_ble_eq_true rfl) (rcv_1 (w.at (g.tran (by omega)))) (Nat.le_of_ble_eq_true rfl) ?_
    refine k_asks w g b lt ht (by omega) (bh_1 ?_)
    refine x_ifeq_P (t := 24) k_66_18 rfl (fun c18 => ?_) (fun c18 => ?_)
    · refine x_inc3 k_66_24 rfl ?_
      refine x_goto (t := 4) k_66_27 rfl ?_
      have z := ih (n - 1) (by omega) (j + 1) (by omega)
      rw [show nP (aks A Ls t) (j + 1) = nP (aks A Ls t) j by simp only [nP]; rw [pI_0 (show ¬ aks A Ls t j from c18), Int.add_zero]] at z
      exact z
    · refine x_inc2 k_66_21 rfl ?_
      refine x_inc3 k_66_24 rfl ?_
      refine x_goto (t := 4) k_66_27 rfl ?_
      have z := ih (n - 1) (by omega) (j + 1) (by omega)
      rw [show nP (aks A Ls t) (j + 1) = nP (aks A Ls t) j + 1 by simp only [nP]; rw [pI_1 (show aks A Ls t j from c18)]] at z
      exact z
theorem k_otherHomes (w : WD ad ow K h) (g : CI ad K h.2.2.2.1 C A I F Ls cp) (b : RB C A) (lt : LT C A Ls) {t : Nat} (ht : t < (C 3).toNat) (k : Q (.inl (some (aI (nP (aks A Ls t) (C 1).toNat)))) h) : Rn 66 0 (entL 66 [aR (ad 0 0), aR (ad 4 t)]) [] h Q := by
  show Rn 66 0 [some (aR (ad 0 0)), some (aR (ad 4 t)), none, none] [] h Q
  refine x_iconst k_66_0 ?_
  refine x_is2n k_66_1 rfl ?_
  refine x_iconst k_66_2 ?_
  refine x_is3n k_66_3 rfl ?_
  exact lp_otherHomes w g b lt ht k (C 1).toNat 0 (Nat.zero_add _)
noncomputable def cnj (l : List Nat) (P : Nat → Prop) : Nat → Int
  | 0 => 0
  | j + 1 => cnj l P j + pI (∃ x, l[j]? = some x ∧ P x)
theorem lp_waitingFrom (w : WD ad ow K h) (g : CI ad K h.2.2.2.1 C A I F Ls cp) (b : RB C A) (lt : LT C A Ls) {s : Nat} {a : Int} (hs : s < (C 1).toNat) (ha : inR a) (k : Q (.inl (some (aI (cnj (Ls (3 + 2 * s)) (fun q => A 16 q = a) (Ls (3 + 2 * s)).length)))) h) : ∀ n j : Nat, j + n = (Ls (3 + 2 * s)).length → Rn 93 4 [some (aR (ad 2 s)), some (aI (a)), some (aI (cnj (Ls (3 + 2 * s)) (fun q => A 16 q = a) j)), some (aI ((j : Int)))] [] h Q := by
  have b1 := b.c1
  have v := g.lb hs (by omega)
  have v8 := v.obj
  obtain ⟨e8, v8⟩ := v8
  have vl := v.len
  intro n
  induction n using Nat.strongRecOn with | ind n ih => ?_
  intro j hj
  refine x_iload_n k_93_4 rfl ?_
  refine x_aload_n k_93_5 rfl ?_
  refine x_get k_93_6 (w.at (g.site (by omega))) rfl ?_
  refine x_call1 k_93_9 (Nat.le_of_ble_eq_true rfl) (rcv_1 (w.at v8)) (Nat.le_of_ble_eq_true rfl) ?_
  refine c_size w v (bh_1 ?_)
  refine x_icmpge (t := 42) k_93_12 rfl (by show inR ((j : Int)) ∧ inR (((Ls (3 + 2 * s)).length : Int)); omega) (fun hb => ?_) (fun hb => ?_)
  · have c12 : ((Ls (3 + 2 * s)).length : Int) ≤ (j : Int) := hb
    refine x_iload_n k_93_42 rfl ?_
    refine x_ireturn k_93_43 rfl ?_
    have e : (Ls (3 + 2 * s)).length = j := by omega
    rw [e] at k
    exact k
  · have c12 : ¬ (((Ls (3 + 2 * s)).length : Int) ≤ (j : Int)) := hb
    obtain ⟨x, hx, hm⟩ := at_l (l := Ls (3 + 2 * s)) (j := j) (by omega)
    have hT := lt.2.2.2.2.2 s x hs hm
    refine x_aload_n k_93_15 rfl ?_
    refine x_get k_93_16 (w.at (g.site (by omega))) rfl ?_
    refine x_iload_n k_93_19 rfl ?_
    refine x_call2 k_93_20 (Nat.le_of_ble_eq_true rfl) (rcv_1 (w.at v8)) (Nat.le_of_ble_eq_true rfl) ?_
    refine c_get w v hx (bh_1 ?_)
    refine x_cast k_93_23 (w.at (g.ms (by omega))) ?_
    refine x_get k_93_26 (w.at (g.ms (by omega))) rfl ?_
    have f26 := b.v16 x
    refine x_iload_n k_93_29 rfl ?_
    refine x_icmpne (t := 36) k_93_30 rfl (by show inR (A 16 x) ∧ inR (a); omega) (fun hb => ?_) (fun hb => ?_)
    · have c30 : ¬ A 16 x = a := hb
      refine x_inc3 k_93_36 rfl ?_
      refine x_goto (t := 4) k_93_39 rfl ?_
      have z := ih (n - 1) (by omega) (j + 1) (by omega)
      rw [show cnj (Ls (3 + 2 * s)) (fun q => A 16 q = a) (j + 1) = cnj (Ls (3 + 2 * s)) (fun q => A 16 q = a) j by simp only [cnj]; rw [pI_0 (fun ⟨y, y1, y2⟩ => by rw [hx] at y1; cases y1; exact c30 y2), Int.add_zero]] at z
      exact z
    · have c30 : ¬ (¬ A 16 x = a) := hb
      refine x_inc2 k_93_33 rfl ?_
      refine x_inc3 k_93_36 rfl ?_
      refine x_goto (t := 4) k_93_39 rfl ?_
      have z := ih (n - 1) (by omega) (j + 1) (by omega)
      rw [show cnj (Ls (3 + 2 * s)) (fun q => A 16 q = a) (j + 1) = cnj (Ls (3 + 2 * s)) (fun q => A 16 q = a) j + 1 by simp only [cnj]; rw [pI_1 ⟨x, hx, Decidable.not_not.mp c30⟩]] at z
      exact z
theorem k_waitingFrom (w : WD ad ow K h) (g : CI ad K h.2.2.2.1 C A I F Ls cp) (b : RB C A) (lt : LT C A Ls) {s : Nat} {a : Int} (hs : s < (C 1).toNat) (ha : inR a) (k : Q (.inl (some (aI (cnj (Ls (3 + 2 * s)) (fun q => A 16 q = a) (Ls (3 + 2 * s)).length)))) h) : Rn 93 0 (entL 93 [aR (ad 2 s), aI a]) [] h Q := by
  show Rn 93 0 [some (aR (ad 2 s)), some (aI (a)), none, none] [] h Q
  refine x_iconst k_93_0 ?_
  refine x_is2n k_93_1 rfl ?_
  refine x_iconst k_93_2 ?_
  refine x_is3n k_93_3 rfl ?_
  exact lp_waitingFrom w g b lt hs ha k (Ls (3 + 2 * s)).length 0 (Nat.zero_add _)
theorem lp_canApply (w : WD ad ow K h) (g : CI ad K h.2.2.2.1 C A I F Ls cp) (b : RB C A) {t s : Nat} (ht : t < (C 3).toNat) (hs : s < (C 1).toNat) (h5 : A 5 t = A 13 (6 * s + (A 3 t).toNat) + 1) (k : Q (.inl (some (aI (pI (cbP C A t s))))) h) : ∀ n j : Nat, j + n = (C 1).toNat → (∀ q, q < j → cbq A t s q) → Rn 88 22 [some (aR (ad 2 s)), some (aR (ad 4 t)), some (aI ((j : Int)))] [] h Q := by
  have b1 := b.c1
  intro n
  induction n using Nat.strongRecOn with | ind n ih => ?_
  intro j hj hq
  refine x_iload_n k_88_22 rfl ?_
  refine x_aload_n k_88_23 rfl ?_
  refine x_get k_88_24 (w.at (g.site (by omega))) rfl ?_
  refine x_alen k_88_27 (w.at (g.seen (by omega))) ?_
  refine x_icmpge (t := 54) k_88_28 rfl (by show inR ((j : Int)) ∧ inR (((C 1).toNat : Int)); omega) (fun hb => ?_) (fun hb => ?_)
  · have c28 : ((C 1).toNat : Int) ≤ (j : Int) := hb
    refine x_iconst k_88_54 ?_
    refine x_zreturn k_88_55 rfl (by first | exact Or.inl rfl | exact Or.inr rfl) ?_
    exact ret_1P ⟨h5, fun u hu => hq u (by omega)⟩ k
  · have c28 : ¬ (((C 1).toNat : Int) ≤ (j : Int)) := hb
    refine x_aload_n k_88_31 rfl ?_
    refine x_get k_88_32 (w.at (g.site (by omega))) rfl ?_
    refine x_iload_n k_88_35 rfl ?_
    refine y_iaload (m := j) k_88_36 (w.at (g.seen (by omega))) (Or.inl rfl) rfl (by omega) ?_
    refine x_top (show F 0 s j = A 13 (6 * s + j) from g.f0 (by omega) (by omega)) ?_
    have f36 := b.v13 (6 * s + j)
    refine x_aload_n k_88_37 rfl ?_
    refine x_get k_88_38 (w.at (g.tran (by omega))) rfl ?_
    refine x_iload_n k_88_41 rfl ?_
    refine y_iaload (m := j) k_88_42 (w.at (g.start (by omega))) (Or.inl rfl) rfl (by omega) ?_
    refine x_top (show F 1 t j = A 6 (6 * t + j) from g.f1 (by omega) (by omega)) ?_
    have f42 := b.v6 (6 * t + j)
    refine x_icmpge (t := 48) k_88_43 rfl (by show inR (A 13 (6 * s + j)) ∧ inR (A 6 (6 * t + j)); omega) (fun hb => ?_) (fun hb => ?_)
    · have c43 : A 6 (6 * t + j) ≤ A 13 (6 * s + j) := hb
      refine x_inc2 k_88_48 rfl ?_
      refine x_goto (t := 22) k_88_51 rfl ?_
      exact ih (n - 1) (by omega) (j + 1) (by omega) (fun q hq1 => (Nat.lt_or_ge q j).elim (fun z => hq q z) (fun z => (show q = j by omega) ▸ c43))
    · have c43 : ¬ (A 6 (6 * t + j) ≤ A 13 (6 * s + j)) := hb
      refine x_iconst k_88_46 ?_
      refine x_zreturn k_88_47 rfl (by first | exact Or.inl rfl | exact Or.inr rfl) ?_
      exact ret_0P (fun z => c43 (z.2 j (by omega))) k
theorem k_canApply (w : WD ad ow K h) (g : CI ad K h.2.2.2.1 C A I F Ls cp) (b : RB C A) {t s : Nat} (ht : t < (C 3).toNat) (hs : s < (C 1).toNat) (k : Q (.inl (some (aI (pI (cbP C A t s))))) h) : Rn 88 0 (entL 88 [aR (ad 2 s), aR (ad 4 t)]) [] h Q := by
  show Rn 88 0 [some (aR (ad 2 s)), some (aR (ad 4 t)), none] [] h Q
  have b1 := b.c1
  have a3 := g.a3 ht
  have b3 := b.v3 t
  refine x_aload_n k_88_0 rfl ?_
  refine x_get k_88_1 (w.at (g.site (by omega))) rfl ?_
  refine x_aload_n k_88_4 rfl ?_
  refine x_get k_88_5 (w.at (g.tran (by omega))) rfl ?_
  have f5 := b.v3 t
  refine y_iaload (m := (A 3 t).toNat) k_88_8 (w.at (g.seen (by omega))) (Or.inl rfl) (show A 3 t = (((A 3 t).toNat : Nat) : Int) by omega) (by omega) ?_
  refine x_top (show F 0 s ((A 3 t).toNat) = A 13 (6 * s + ((A 3 t).toNat)) from g.f0 (by omega) (by omega)) ?_
  have f8 := b.v13 (6 * s + ((A 3 t).toNat))
  refine x_aload_n k_88_9 rfl ?_
  refine x_get k_88_10 (w.at (g.tran (by omega))) rfl ?_
  have f10 := b.v5 t
  refine x_iconst k_88_13 ?_
  refine x_isub k_88_14 ?_
  refine x_icmpeq (t := 20) k_88_15 rfl (by show inR (A 13 (6 * s + ((A 3 t).toNat))) ∧ inR ((A 5 t - 1)); omega) (fun hb => ?_) (fun hb => ?_)
  · have c15 : A 13 (6 * s + ((A 3 t).toNat)) = (A 5 t - 1) := hb
    refine x_iconst k_88_20 ?_
    refine x_is2n k_88_21 rfl ?_
    exact lp_canApply w g b ht hs (by omega) k (C 1).toNat 0 (Nat.zero_add _) (fun q hq => absurd hq (Nat.not_lt_zero q))
  · have c15 : ¬ (A 13 (6 * s + ((A 3 t).toNat)) = (A 5 t - 1)) := hb
    refine x_iconst k_88_18 ?_
    refine x_zreturn k_88_19 rfl (by first | exact Or.inl rfl | exact Or.inr rfl) ?_
    exact ret_0P (fun z => c15 (by have := z.1; omega)) k
theorem lp_first (w : WD ad ow K h) (g : CI ad K h.2.2.2.1 C A I F Ls cp) (b : RB C A) (lt : LT C A Ls) {s : Nat} (hs : s < (C 1).toNat) (k1 : ∀ j x, (Ls (2 + 2 * s))[j]? = some x → nof (Ls (2 + 2 * s)) (fun x => cbP C A x s) j → cbP C A x s → Q (.inl (some (aI j))) h) (k0 : (¬ ∃ x, x ∈ Ls (2 + 2 * s) ∧ (fun x => cbP C A x s) x) → Q (.inl (some (aI (-1)))) h) : ∀ n j : Nat, j + n = (Ls (2 + 2 * s)).length → nof (Ls (2 + 2 * s)) (fun x => cbP C A x s) j → Rn 90 2 [some (aR (ad 2 s)), some (aI ((j : Int)))] [] h Q := by
  have b1 := b.c1
  have v := g.lh hs (by omega)
  have v8 := v.obj
  obtain ⟨e8, v8⟩ := v8
  have vl := v.len
  intro n
  induction n using Nat.strongRecOn with | ind n ih => ?_
  intro j hj hq
  refine x_iload_n k_90_2 rfl ?_
  refine x_aload_n k_90_3 rfl ?_
  refine x_get k_90_4 (w.at (g.site (by omega))) rfl ?_
  refine x_call1 k_90_7 (Nat.le_of_ble_eq_true rfl) (rcv_1 (w.at v8)) (Nat.le_of_ble_eq_true rfl) ?_
  refine c_size w v (bh_1 ?_)
  refine x_icmpge (t := 39) k_90_10 rfl (by show inR ((j : Int)) ∧ inR (((Ls (2 + 2 * s)).length : Int)); omega) (fun hb => ?_) (fun hb => ?_)
  · have c10 : ((Ls (2 + 2 * s)).length : Int) ≤ (j : Int) := hb
    refine x_iconst k_90_39 ?_
    refine x_ireturn k_90_40 rfl ?_
    exact k0 (nof_e hq (by omega))
  · have c10 : ¬ (((Ls (2 + 2 * s)).length : Int) ≤ (j : Int)) := hb
    obtain ⟨x, hx, hm⟩ := at_l (l := Ls (2 + 2 * s)) (j := j) (by omega)
    have hT := lt.2.2.2.2.1 s x hs hm
    refine x_aload_n k_90_13 rfl ?_
    refine x_aload_n k_90_14 rfl ?_
    refine x_get k_90_15 (w.at (g.site (by omega))) rfl ?_
    refine x_iload_n k_90_18 rfl ?_
    refine x_call2 k_90_19 (Nat.le_of_ble_eq_true rfl) (rcv_1 (w.at v8)) (Nat.le_of_ble_eq_true rfl) ?_
    refine c_get w v hx (bh_1 ?_)
    refine x_cast k_90_22 (w.at (g.tran hT)) ?_
    refine x_call2 k_90_25 (Nat.le_of_ble_eq_true rfl) (rcv_1 (w.at (g.site (by omega)))) (Nat.le_of_ble_eq_true rfl) ?_
    refine k_canApply w g b hT hs (bh_1 ?_)
    refine x_ifeq_P (t := 33) k_90_28 rfl (fun c28 => ?_) (fun c28 => ?_)
    · refine x_inc1 k_90_33 rfl ?_
      refine x_goto (t := 2) k_90_36 rfl ?_
      exact ih (n - 1) (by omega) (j + 1) (by omega) (nof_s hq hx c28)
    · refine x_iload_n k_90_31 rfl ?_
      refine x_ireturn k_90_32 rfl ?_
      exact k1 j x hx hq c28
theorem k_first (w : WD ad ow K h) (g : CI ad K h.2.2.2.1 C A I F Ls cp) (b : RB C A) (lt : LT C A Ls) {s : Nat} (hs : s < (C 1).toNat) (k1 : ∀ j x, (Ls (2 + 2 * s))[j]? = some x → nof (Ls (2 + 2 * s)) (fun x => cbP C A x s) j → cbP C A x s → Q (.inl (some (aI j))) h) (k0 : (¬ ∃ x, x ∈ Ls (2 + 2 * s) ∧ (fun x => cbP C A x s) x) → Q (.inl (some (aI (-1)))) h) : Rn 90 0 (entL 90 [aR (ad 2 s)]) [] h Q := by
  show Rn 90 0 [some (aR (ad 2 s)), none] [] h Q
  refine x_iconst k_90_0 ?_
  refine x_is1n k_90_1 rfl ?_
  exact lp_first w g b lt hs k1 k0 (Ls (2 + 2 * s)).length 0 (Nat.zero_add _) nof_0
end C2
