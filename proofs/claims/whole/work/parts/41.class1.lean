section C1
variable {ad : AD} {ow : OW} {K : KK} {h : AH} {C : Nat → Int} {A I : Nat → Nat → Int} {F : Nat → Nat → Nat → Int} {Ls : Nat → List Nat} {cp : Nat → Nat} {Q : AR → AH → Prop}
theorem kd_w (t : Nat) : kd (500 + 2 * t) = 5 := by unfold kd; rw [if_neg (by omega), if_neg (by omega), if_neg (by omega), if_pos (by omega)]
theorem kd_c (t : Nat) : kd (501 + 2 * t) = 6 := by unfold kd; rw [if_neg (by omega), if_neg (by omega), if_neg (by omega), if_neg (by omega)]
theorem kd_iw (t : Nat) : kd (20 + 2 * t) = 5 := by unfold kd; rw [if_neg (by omega), if_neg (by omega), if_neg (by omega), if_pos (by omega)]
theorem kd_ic (t : Nat) : kd (21 + 2 * t) = 6 := by unfold kd; rw [if_neg (by omega), if_neg (by omega), if_neg (by omega), if_neg (by omega)]
theorem kd_h {s : Nat} (hs : s < 6) : kd (2 + 2 * s) = 4 := by unfold kd; rw [if_neg (by omega), if_neg (by omega), if_pos (by omega), if_pos (by omega)]
theorem kd_b {s : Nat} (hs : s < 6) : kd (3 + 2 * s) = 7 := by unfold kd; rw [if_neg (by omega), if_neg (by omega), if_pos (by omega), if_neg (by omega)]
theorem CI.lw {z t : Nat} (g : CI ad K z C A I F Ls cp) (ht : t < (C 3).toNat) : LX ad K z (500 + 2 * t) 5 (Ls (500 + 2 * t)) (cp (500 + 2 * t)) := by
  have v := g.ls (id := 500 + 2 * t) (by unfold lvl; omega)
  rw [kd_w] at v
  exact v
theorem CI.lc {z t : Nat} (g : CI ad K z C A I F Ls cp) (ht : t < (C 3).toNat) : LX ad K z (501 + 2 * t) 6 (Ls (501 + 2 * t)) (cp (501 + 2 * t)) := by
  have v := g.ls (id := 501 + 2 * t) (by unfold lvl; omega)
  rw [kd_c] at v
  exact v
theorem CI.iw {z t : Nat} (g : CI ad K z C A I F Ls cp) (ht : t < (C 2).toNat) : LX ad K z (20 + 2 * t) 5 (Ls (20 + 2 * t)) (cp (20 + 2 * t)) := by
  have v := g.ls (id := 20 + 2 * t) (by unfold lvl; omega)
  rw [kd_iw] at v
  exact v
theorem CI.ic {z t : Nat} (g : CI ad K z C A I F Ls cp) (ht : t < (C 2).toNat) : LX ad K z (21 + 2 * t) 6 (Ls (21 + 2 * t)) (cp (21 + 2 * t)) := by
  have v := g.ls (id := 21 + 2 * t) (by unfold lvl; omega)
  rw [kd_ic] at v
  exact v
theorem CI.lh {z s : Nat} (g : CI ad K z C A I F Ls cp) (hs : s < (C 1).toNat) (h6 : s < 6) : LX ad K z (2 + 2 * s) 4 (Ls (2 + 2 * s)) (cp (2 + 2 * s)) := by
  have v := g.ls (id := 2 + 2 * s) (by unfold lvl; omega)
  rw [kd_h h6] at v
  exact v
theorem CI.lb {z s : Nat} (g : CI ad K z C A I F Ls cp) (hs : s < (C 1).toNat) (h6 : s < 6) : LX ad K z (3 + 2 * s) 7 (Ls (3 + 2 * s)) (cp (3 + 2 * s)) := by
  have v := g.ls (id := 3 + 2 * s) (by unfold lvl; omega)
  rw [kd_b h6] at v
  exact v
theorem LX.obj {z id ek c : Nat} {l : List Nat} (v : LX ad K z id ek l c) : ∃ e, K 8 id = some (.inr (8, e)) := by
  obtain ⟨m, F, v⟩ := v
  exact ⟨_, v.1⟩
theorem LX.len {z id ek c : Nat} {l : List Nat} (v : LX ad K z id ek l c) : l.length < 400000 := by
  obtain ⟨m, F, v⟩ := v
  exact Nat.lt_of_le_of_lt v.2.2.1 v.2.2.2.2.1
/-- what the lists hold -/
def LT (C : Nat → Int) (A : Nat → Nat → Int) (Ls : Nat → List Nat) : Prop :=
  (∀ t k, t < (C 3).toNat → k ∈ Ls (500 + 2 * t) → A 9 k = t ∧ (A 10 k).toNat < (C 2).toNat) ∧
  (∀ t k, t < (C 3).toNat → k ∈ Ls (501 + 2 * t) → A 9 k = t ∧ (A 10 k).toNat < (C 2).toNat) ∧
  (∀ o k, o < (C 2).toNat → k ∈ Ls (20 + 2 * o) → (A 9 k).toNat < (C 3).toNat ∧ k ∈ Ls (500 + 2 * (A 9 k).toNat)) ∧
  (∀ o k, o < (C 2).toNat → k ∈ Ls (21 + 2 * o) → (A 9 k).toNat < (C 3).toNat ∧ k ∈ Ls (501 + 2 * (A 9 k).toNat)) ∧
  (∀ s x, s < (C 1).toNat → x ∈ Ls (2 + 2 * s) → x < (C 3).toNat) ∧
  (∀ s q, s < (C 1).toNat → q ∈ Ls (3 + 2 * s) → q < (C 5).toNat ∧ (A 19 q).toNat < (C 3).toNat)
theorem at_l {l : List Nat} {j : Nat} (hj : j < l.length) : ∃ x, l[j]? = some x ∧ x ∈ l := ⟨l[j], List.getElem?_eq_getElem hj, List.getElem_mem hj⟩
/-- none of the first j -/
def nof (l : List Nat) (P : Nat → Prop) (j : Nat) : Prop := ∀ q y, q < j → l[q]? = some y → ¬ P y
theorem nof_0 {l : List Nat} {P : Nat → Prop} : nof l P 0 := fun q y hq => absurd hq (Nat.not_lt_zero q)
theorem nof_s {l : List Nat} {P : Nat → Prop} {j x : Nat} (hq : nof l P j) (hx : l[j]? = some x) (hn : ¬ P x) : nof l P (j + 1) := fun q y h1 h2 => by
  rcases Nat.lt_or_ge q j with z | z
  · exact hq q y z h2
  · rw [show q = j by omega, hx] at h2
    cases h2
    exact hn
theorem nof_e {l : List Nat} {P : Nat → Prop} {j : Nat} (hq : nof l P j) (hj : l.length ≤ j) : ¬ ∃ x, x ∈ l ∧ P x := fun ⟨x, h1, h2⟩ => by
  obtain ⟨q, h3⟩ := List.mem_iff_getElem?.mp h1
  exact hq q x (Nat.lt_of_lt_of_le (List.getElem?_eq_some_iff.mp h3).1 hj) h3 h2
theorem lp_asks (w : WD ad ow K h) (g : CI ad K h.2.2.2.1 C A I F Ls cp) (b : RB C A) (lt : LT C A Ls) {t u : Nat} (ht : t < (C 3).toNat) (hu6 : u < 6) (hu : ¬ (u : Int) = A 3 t) (k : Q (.inl (some (aI (pI (¬ (u : Int) = A 3 t ∧ ∃ x, x ∈ Ls (500 + 2 * t) ∧ (fun k => A 0 (A 10 k).toNat = u) x))))) h) : ∀ n j : Nat, j + n = (Ls (500 + 2 * t)).length → nof (Ls (500 + 2 * t)) (fun k => A 0 (A 10 k).toNat = u) j → Rn 67 12 [some (aR (ad 4 t)), some (aI ((u : Int))), some (aI ((j : Int)))] [] h Q := by
  have v := g.lw ht
  have v8 := v.obj
  obtain ⟨e8, v8⟩ := v8
  have vl := v.len
  intro n
  induction n using Nat.strongRecOn with | ind n ih => ?_
  intro j hj hq
  refine x_iload_n k_67_12 rfl ?_
  refine x_aload_n k_67_13 rfl ?_
  refine x_get k_67_14 (w.at (g.tran (by omega))) rfl ?_
  refine x_call1 k_67_17 (Nat.le_of_ble_eq_true rfl) (rcv_1 (w.at v8)) (Nat.le_of_ble_eq_true rfl) ?_
  refine c_size w v (bh_1 ?_)
  refine x_icmpge (t := 52) k_67_20 rfl (by show inR ((j : Int)) ∧ inR (((Ls (500 + 2 * t)).length : Int)); omega) (fun hb => ?_) (fun hb => ?_)
  · have c20 : ((Ls (500 + 2 * t)).length : Int) ≤ (j : Int) := hb
    refine x_iconst k_67_52 ?_
    refine x_zreturn k_67_53 rfl (by first | exact Or.inl rfl | exact Or.inr rfl) ?_
    exact ret_0P (fun z => nof_e hq (by omega) z.2) k
  · have c20 : ¬ (((Ls (500 + 2 * t)).length : Int) ≤ (j : Int)) := hb
    obtain ⟨x, hx, hm⟩ := at_l (l := Ls (500 + 2 * t)) (j := j) (by omega)
    have hT := lt.1 t x ht hm
    refine x_aload_n k_67_23 rfl ?_
    refine x_get k_67_24 (w.at (g.tran (by omega))) rfl ?_
    refine x_iload_n k_67_27 rfl ?_
    refine x_call2 k_67_28 (Nat.le_of_ble_eq_true rfl) (rcv_1 (w.at v8)) (Nat.le_of_ble_eq_true rfl) ?_
    refine c_get w v hx (bh_1 ?_)
    refine x_cast k_67_31 (w.at (g.wr ht hm)) ?_
    refine x_get k_67_34 (w.at (g.wr ht hm)) rfl ?_
    refine x_get k_67_37 (w.at (g.item (by omega))) rfl ?_
    have f37 := b.v0 ((A 10 x).toNat)
    refine x_iload_n k_67_40 rfl ?_
    refine x_icmpne (t := 46) k_67_41 rfl (by show inR (A 0 ((A 10 x).toNat)) ∧ inR ((u : Int)); omega) (fun hb => ?_) (fun hb => ?_)
    · have c41 : ¬ A 0 ((A 10 x).toNat) = (u : Int) := hb
      refine x_inc2 k_67_46 rfl ?_
      refine x_goto (t := 12) k_67_49 rfl ?_
      exact ih (n - 1) (by omega) (j + 1) (by omega) (nof_s hq hx c41)
    · have c41 : ¬ (¬ A 0 ((A 10 x).toNat) = (u : Int)) := hb
      refine x_iconst k_67_44 ?_
      refine x_zreturn k_67_45 rfl (by first | exact Or.inl rfl | exact Or.inr rfl) ?_
      exact ret_1P ⟨hu, x, hm, Decidable.not_not.mp c41⟩ k
theorem k_asks (w : WD ad ow K h) (g : CI ad K h.2.2.2.1 C A I F Ls cp) (b : RB C A) (lt : LT C A Ls) {t u : Nat} (ht : t < (C 3).toNat) (hu6 : u < 6) (k : Q (.inl (some (aI (pI (¬ (u : Int) = A 3 t ∧ ∃ x, x ∈ Ls (500 + 2 * t) ∧ (fun k => A 0 (A 10 k).toNat = u) x))))) h) : Rn 67 0 (entL 67 [aR (ad 4 t), aI u]) [] h Q := by
  show Rn 67 0 [some (aR (ad 4 t)), some (aI ((u : Int))), none] [] h Q
  refine x_iload_n k_67_0 rfl ?_
  refine x_aload_n k_67_1 rfl ?_
  refine x_get k_67_2 (w.at (g.tran (by omega))) rfl ?_
  have f2 := b.v3 t
  refine x_icmpne (t := 10) k_67_5 rfl (by show inR ((u : Int)) ∧ inR (A 3 t); omega) (fun hb => ?_) (fun hb => ?_)
  · have c5 : ¬ (u : Int) = A 3 t := hb
    refine x_iconst k_67_10 ?_
    refine x_is2n k_67_11 rfl ?_
    exact lp_asks w g b lt ht hu6 c5 k (Ls (500 + 2 * t)).length 0 (Nat.zero_add _) nof_0
  · have c5 : ¬ (¬ (u : Int) = A 3 t) := hb
    refine x_iconst k_67_8 ?_
    refine x_zreturn k_67_9 rfl (by first | exact Or.inl rfl | exact Or.inr rfl) ?_
    exact ret_0P (fun z => z.1 (Decidable.not_not.mp c5)) k
theorem lp_hasConflict (w : WD ad ow K h) (g : CI ad K h.2.2.2.1 C A I F Ls cp) (b : RB C A) (lt : LT C A Ls) {o t s : Nat} (ho : o < (C 2).toNat) (ht : t < (C 3).toNat) (hs : s < (C 1).toNat) (hl : ¬ (¬ A 1 o = -1 ∧ ¬ A 1 o = t)) (k : Q (.inl (some (aI (pI ((¬ A 1 o = -1 ∧ ¬ A 1 o = t) ∨ ∃ x, x ∈ Ls (20 + 2 * o) ∧ (fun k => apq A (A 9 k).toNat s ∧ visB A (A 9 k).toNat t = false) x))))) h) : ∀ n j : Nat, j + n = (Ls (20 + 2 * o)).length → nof (Ls (20 + 2 * o)) (fun k => apq A (A 9 k).toNat s ∧ visB A (A 9 k).toNat t = false) j → ∀ z : Option AV, Rn 64 23 [some (aR (ad 3 o)), some (aR (ad 4 t)), some (aR (ad 2 s)), some (aI ((j : Int))), z] [] h Q := by
  have v := g.iw ho
  have v8 := v.obj
  obtain ⟨e8, v8⟩ := v8
  have vl := v.len
  intro n
  induction n using Nat.strongRecOn with | ind n ih => ?_
  intro j hj hq z
  refine x_iload_n k_64_23 rfl ?_
  refine x_aload_n k_64_24 rfl ?_
  refine x_get k_64_25 (w.at (g.item (by omega))) rfl ?_
  refine x_call1 k_64_28 (Nat.le_of_ble_eq_true rfl) (rcv_1 (w.at v8)) (Nat.le_of_ble_eq_true rfl) ?_
  refine c_size w v (bh_1 ?_)
  refine x_icmpge (t := 76) k_64_31 rfl (by show inR ((j : Int)) ∧ inR (((Ls (20 + 2 * o)).length : Int)); omega) (fun hb => ?_) (fun hb => ?_)
  · have c31 : ((Ls (20 + 2 * o)).length : Int) ≤ (j : Int) := hb
    refine x_iconst k_64_76 ?_
    refine x_zreturn k_64_77 rfl (by first | exact Or.inl rfl | exact Or.inr rfl) ?_
    exact ret_0P (fun y => y.elim hl (nof_e hq (by omega))) k
  · have c31 : ¬ (((Ls (20 + 2 * o)).length : Int) ≤ (j : Int)) := hb
    obtain ⟨x, hx, hm⟩ := at_l (l := Ls (20 + 2 * o)) (j := j) (by omega)
    have hT := lt.2.2.1 o x ho hm
    refine x_aload_n k_64_34 rfl ?_
    refine x_get k_64_35 (w.at (g.item (by omega))) rfl ?_
    refine x_iload_n k_64_38 rfl ?_
    refine x_call2 k_64_39 (Nat.le_of_ble_eq_true rfl) (rcv_1 (w.at v8)) (Nat.le_of_ble_eq_true rfl) ?_
    refine c_get w v hx (bh_1 ?_)
    refine x_cast k_64_42 (w.at (g.wr hT.1 hT.2)) ?_
    refine x_get k_64_45 (w.at (g.wr hT.1 hT.2)) rfl ?_
    refine x_as4 k_64_48 rfl ?_
    refine x_aload_n k_64_50 rfl ?_
    refine x_aload k_64_51 rfl ?_
    refine x_call2 k_64_53 (Nat.le_of_ble_eq_true rfl) (rcv_1 (w.at (g.site (by omega)))) (Nat.le_of_ble_eq_true rfl) ?_
    refine k_hasApplied w g b hT.1 hs (bh_1 ?_)
    refine x_ifeq_p (t := 70) k_64_56 rfl (fun c56 => ?_) (fun c56 => ?_)
    · refine x_inc3 k_64_70 rfl ?_
      refine x_goto (t := 23) k_64_73 rfl ?_
      exact ih (n - 1) (by omega) (j + 1) (by omega) (nof_s hq hx (fun y => c56 y.1)) _
    · refine x_aload_n k_64_59 rfl ?_
      refine x_aload k_64_60 rfl ?_
      refine x_call2 k_64_62 (Nat.le_of_ble_eq_true rfl) (rcv_1 (w.at (g.tran (by omega)))) (Nat.le_of_ble_eq_true rfl) ?_
      refine k_sees w g b hT.1 ht (bh_1 ?_)
      refine x_ifne_b (t := 70) k_64_65 rfl (fun c65 => ?_) (fun c65 => ?_)
      · refine x_inc3 k_64_70 rfl ?_
        refine x_goto (t := 23) k_64_73 rfl ?_
        exact ih (n - 1) (by omega) (j + 1) (by omega) (nof_s hq hx (fun y => by rw [c65] at y; cases y.2)) _
      · refine x_iconst k_64_68 ?_
        refine x_zreturn k_64_69 rfl (by first | exact Or.inl rfl | exact Or.inr rfl) ?_
        exact ret_1P (Or.inr ⟨x, hm, c56, c65⟩) k
theorem k_hasConflict (w : WD ad ow K h) (g : CI ad K h.2.2.2.1 C A I F Ls cp) (b : RB C A) (lt : LT C A Ls) {o t s : Nat} (ho : o < (C 2).toNat) (ht : t < (C 3).toNat) (hs : s < (C 1).toNat) (k : Q (.inl (some (aI (pI ((¬ A 1 o = -1 ∧ ¬ A 1 o = t) ∨ ∃ x, x ∈ Ls (20 + 2 * o) ∧ (fun k => apq A (A 9 k).toNat s ∧ visB A (A 9 k).toNat t = false) x))))) h) : Rn 64 0 (entL 64 [aR (ad 3 o), aR (ad 4 t), aR (ad 2 s)]) [] h Q := by
  show Rn 64 0 [some (aR (ad 3 o)), some (aR (ad 4 t)), some (aR (ad 2 s)), none, none] [] h Q
  have bt := b.c3
  refine x_aload_n k_64_0 rfl ?_
  refine x_get k_64_1 (w.at (g.item (by omega))) rfl ?_
  have f1 := b.v1 o
  refine x_iconst k_64_4 ?_
  refine x_icmpeq (t := 21) k_64_5 rfl (by show inR (A 1 o) ∧ inR ((-1)); omega) (fun hb => ?_) (fun hb => ?_)
  · have c5 : A 1 o = (-1) := hb
    refine x_iconst k_64_21 ?_
    refine x_is3n k_64_22 rfl ?_
    exact lp_hasConflict w g b lt ho ht hs (fun y => y.1 c5) k (Ls (20 + 2 * o)).length 0 (Nat.zero_add _) nof_0 _
  · have c5 : ¬ (A 1 o = (-1)) := hb
    refine x_aload_n k_64_8 rfl ?_
    refine x_get k_64_9 (w.at (g.item (by omega))) rfl ?_
    have f9 := b.v1 o
    refine x_aload_n k_64_12 rfl ?_
    refine x_get k_64_13 (w.at (g.tran (by omega))) rfl ?_
    refine x_icmpeq (t := 21) k_64_16 rfl (by show inR (A 1 o) ∧ inR ((t : Int)); omega) (fun hb => ?_) (fun hb => ?_)
    · have c16 : A 1 o = (t : Int) := hb
      refine x_iconst k_64_21 ?_
      refine x_is3n k_64_22 rfl ?_
      exact lp_hasConflict w g b lt ho ht hs (fun y => y.2 c16) k (Ls (20 + 2 * o)).length 0 (Nat.zero_add _) nof_0 _
    · have c16 : ¬ (A 1 o = (t : Int)) := hb
      refine x_iconst k_64_19 ?_
      refine x_zreturn k_64_20 rfl (by first | exact Or.inl rfl | exact Or.inr rfl) ?_
      exact ret_1P (Or.inl ⟨c5, c16⟩) k
abbrev hcf (A : Nat → Nat → Int) (Ls : Nat → List Nat) (o t s : Nat) : Prop := (¬ A 1 o = -1 ∧ ¬ A 1 o = t) ∨ ∃ x, x ∈ Ls (20 + 2 * o) ∧ (fun k => apq A (A 9 k).toNat s ∧ visB A (A 9 k).toNat t = false) x
theorem lp_hasConflictAt (w : WD ad ow K h) (g : CI ad K h.2.2.2.1 C A I F Ls cp) (b : RB C A) (lt : LT C A Ls) {t s : Nat} (ht : t < (C 3).toNat) (hs : s < (C 1).toNat) (k : Q (.inl (some (aI (pI (∃ x, x ∈ Ls (500 + 2 * t) ∧ (fun k => A 0 (A 10 k).toNat = s ∧ hcf A Ls (A 10 k).toNat t s) x))))) h) : ∀ n j : Nat, j + n = (Ls (500 + 2 * t)).length → nof (Ls (500 + 2 * t)) (fun k => A 0 (A 10 k).toNat = s ∧ hcf A Ls (A 10 k).toNat t s) j → ∀ z : Option AV, Rn 63 2 [some (aR (ad 4 t)), some (aR (ad 2 s)), some (aI ((j : Int))), z] [] h Q := by
  have v := g.lw ht
  have v8 := v.obj
  obtain ⟨e8, v8⟩ := v8
  have vl := v.len
  intro n
  induction n using Nat.strongRecOn with | ind n ih => ?_
  intro j hj hq z
  have b1 := b.c1
  refine x_iload_n k_63_2 rfl ?_
  refine x_aload_n k_63_3 rfl ?_
  refine x_get k_63_4 (w.at (g.tran (by omega))) rfl ?_
  refine x_call1 k_63_7 (Nat.le_of_ble_eq_true rfl) (rcv_1 (w.at v8)) (Nat.le_of_ble_eq_true rfl) ?_
  refine c_size w v (bh_1 ?_)
  refine x_icmpge (t := 56) k_63_10 rfl (by show inR ((j : Int)) ∧ inR (((Ls (500 + 2 * t)).length : Int)); omega) (fun hb => ?_) (fun hb => ?_)
  · have c10 : ((Ls (500 + 2 * t)).length : Int) ≤ (j : Int) := hb
    refine x_iconst k_63_56 ?_
    refine x_zreturn k_63_57 rfl (by first | exact Or.inl rfl | exact Or.inr rfl) ?_
    exact ret_0P (nof_e hq (by omega)) k
  · have c10 : ¬ (((Ls (500 + 2 * t)).length : Int) ≤ (j : Int)) := hb
    obtain ⟨x, hx, hm⟩ := at_l (l := Ls (500 + 2 * t)) (j := j) (by omega)
    have hT := lt.1 t x ht hm
    refine x_aload_n k_63_13 rfl ?_
    refine x_get k_63_14 (w.at (g.tran (by omega))) rfl ?_
    refine x_iload_n k_63_17 rfl ?_
    refine x_call2 k_63_18 (Nat.le_of_ble_eq_true rfl) (rcv_1 (w.at v8)) (Nat.le_of_ble_eq_true rfl) ?_
    refine c_get w v hx (bh_1 ?_)
    refine x_cast k_63_21 (w.at (g.wr ht hm)) ?_
    refine x_get k_63_24 (w.at (g.wr ht hm)) rfl ?_
    refine x_as3n k_63_27 rfl ?_
    refine x_aload_n k_63_28 rfl ?_
    refine x_get k_63_29 (w.at (g.item (by omega))) rfl ?_
    have f29 := b.v0 ((A 10 x).toNat)
    refine x_aload_n k_63_32 rfl ?_
    refine x_get k_63_33 (w.at (g.site (by omega))) rfl ?_
    refine x_icmpne (t := 50) k_63_36 rfl (by show inR (A 0 ((A 10 x).toNat)) ∧ inR ((s : Int)); omega) (fun hb => ?_) (fun hb => ?_)
    · have c36 : ¬ A 0 ((A 10 x).toNat) = (s : Int) := hb
      refine x_inc2 k_63_50 rfl ?_
      refine x_goto (t := 2) k_63_53 rfl ?_
      exact ih (n - 1) (by omega) (j + 1) (by omega) (nof_s hq hx (fun y => c36 y.1)) _
    · have c36 : ¬ (¬ A 0 ((A 10 x).toNat) = (s : Int)) := hb
      refine x_aload_n k_63_39 rfl ?_
      refine x_aload_n k_63_40 rfl ?_
      refine x_aload_n k_63_41 rfl ?_
      refine x_call3 k_63_42 (Nat.le_of_ble_eq_true rfl) (rcv_1 (w.at (g.item (by omega)))) (Nat.le_of_ble_eq_true rfl) ?_
      refine k_hasConflict w g b lt hT.2 ht hs (bh_1 ?_)
      refine x_ifeq_P (t := 50) k_63_45 rfl (fun c45 => ?_) (fun c45 => ?_)
      · refine x_inc2 k_63_50 rfl ?_
        refine x_goto (t := 2) k_63_53 rfl ?_
        exact ih (n - 1) (by omega) (j + 1) (by omega) (nof_s hq hx (fun y => c45 y.2)) _
      · refine x_iconst k_63_48 ?_
        refine x_zreturn k_63_49 rfl (by first | exact Or.inl rfl | exact Or.inr rfl) ?_
        exact ret_1P ⟨x, hm, Decidable.not_not.mp c36, c45⟩ k
theorem k_hasConflictAt (w : WD ad ow K h) (g : CI ad K h.2.2.2.1 C A I F Ls cp) (b : RB C A) (lt : LT C A Ls) {t s : Nat} (ht : t < (C 3).toNat) (hs : s < (C 1).toNat) (k : Q (.inl (some (aI (pI (∃ x, x ∈ Ls (500 + 2 * t) ∧ (fun k => A 0 (A 10 k).toNat = s ∧ hcf A Ls (A 10 k).toNat t s) x))))) h) : Rn 63 0 (entL 63 [aR (ad 4 t), aR (ad 2 s)]) [] h Q := by
  show Rn 63 0 [some (aR (ad 4 t)), some (aR (ad 2 s)), none, none] [] h Q
  refine x_iconst k_63_0 ?_
  refine x_is2n k_63_1 rfl ?_
  exact lp_hasConflictAt w g b lt ht hs k (Ls (500 + 2 * t)).length 0 (Nat.zero_add _) nof_0 _
theorem lp_ownWrite (w : WD ad ow K h) (g : CI ad K h.2.2.2.1 C A I F Ls cp) (b : RB C A) (lt : LT C A Ls) {t o : Nat} (ht : t < (C 3).toNat) (ho : o < (C 2).toNat) (k1 : ∀ x, x ∈ Ls (500 + 2 * t) → (A 10 x).toNat = o → Q (.inl (some (aR (ad 5 x)))) h) (k0 : (¬ ∃ x, x ∈ Ls (500 + 2 * t) ∧ (fun k => (A 10 k).toNat = o) x) → Q (.inl (some aN)) h) : ∀ n j : Nat, j + n = (Ls (500 + 2 * t)).length → nof (Ls (500 + 2 * t)) (fun k => (A 10 k).toNat = o) j → Rn 37 2 [some (aR (ad 4 t)), some (aR (ad 3 o)), some (aI ((j : Int)))] [] h Q := by
  have v := g.lw ht
  have v8 := v.obj
  obtain ⟨e8, v8⟩ := v8
  have vl := v.len
  intro n
  induction n using Nat.strongRecOn with | ind n ih => ?_
  intro j hj hq
  refine x_iload_n k_37_2 rfl ?_
  refine x_aload_n k_37_3 rfl ?_
  refine x_get k_37_4 (w.at (g.tran (by omega))) rfl ?_
  refine x_call1 k_37_7 (Nat.le_of_ble_eq_true rfl) (rcv_1 (w.at v8)) (Nat.le_of_ble_eq_true rfl) ?_
  refine c_size w v (bh_1 ?_)
  refine x_icmpge (t := 49) k_37_10 rfl (by show inR ((j : Int)) ∧ inR (((Ls (500 + 2 * t)).length : Int)); omega) (fun hb => ?_) (fun hb => ?_)
  · have c10 : ((Ls (500 + 2 * t)).length : Int) ≤ (j : Int) := hb
    refine x_null k_37_49 ?_
    refine x_areturn k_37_50 ?_
    exact k0 (nof_e hq (by omega))
  · have c10 : ¬ (((Ls (500 + 2 * t)).length : Int) ≤ (j : Int)) := hb
    obtain ⟨x, hx, hm⟩ := at_l (l := Ls (500 + 2 * t)) (j := j) (by omega)
    have hT := lt.1 t x ht hm
    refine x_aload_n k_37_13 rfl ?_
    refine x_get k_37_14 (w.at (g.tran (by omega))) rfl ?_
    refine x_iload_n k_37_17 rfl ?_
    refine x_call2 k_37_18 (Nat.le_of_ble_eq_true rfl) (rcv_1 (w.at v8)) (Nat.le_of_ble_eq_true rfl) ?_
    refine c_get w v hx (bh_1 ?_)
    refine x_cast k_37_21 (w.at (g.wr ht hm)) ?_
    refine x_get k_37_24 (w.at (g.wr ht hm)) rfl ?_
    refine x_aload_n k_37_27 rfl ?_
    refine x_acmpne (t := 43) k_37_28 rfl (fun c28 => ?_) (fun c28 => ?_)
    · refine x_inc2 k_37_43 rfl ?_
      refine x_goto (t := 2) k_37_46 rfl ?_
      exact ih (n - 1) (by omega) (j + 1) (by omega) (nof_s hq hx (fun y => c28 (by rw [y])))
    · refine x_aload_n k_37_31 rfl ?_
      refine x_get k_37_32 (w.at (g.tran (by omega))) rfl ?_
      refine x_iload_n k_37_35 rfl ?_
      refine x_call2 k_37_36 (Nat.le_of_ble_eq_true rfl) (rcv_1 (w.at v8)) (Nat.le_of_ble_eq_true rfl) ?_
      refine c_get w v hx (bh_1 ?_)
      refine x_cast k_37_39 (w.at (g.wr ht hm)) ?_
      refine x_areturn k_37_42 ?_
      have e : (A 10 x).toNat = o := Classical.byContradiction (fun q => by
        have c28 : ad 3 (A 10 x).toNat = ad 3 o := Option.some.inj (Decidable.not_not.mp c28)
        exact w.ne (g.item hT.2) (g.item ho) (fun y => q y.2) c28)
      exact k1 x hm e
theorem k_ownWrite (w : WD ad ow K h) (g : CI ad K h.2.2.2.1 C A I F Ls cp) (b : RB C A) (lt : LT C A Ls) {t o : Nat} (ht : t < (C 3).toNat) (ho : o < (C 2).toNat) (k1 : ∀ x, x ∈ Ls (500 + 2 * t) → (A 10 x).toNat = o → Q (.inl (some (aR (ad 5 x)))) h) (k0 : (¬ ∃ x, x ∈ Ls (500 + 2 * t) ∧ (fun k => (A 10 k).toNat = o) x) → Q (.inl (some aN)) h) : Rn 37 0 (entL 37 [aR (ad 4 t), aR (ad 3 o)]) [] h Q := by
  show Rn 37 0 [some (aR (ad 4 t)), some (aR (ad 3 o)), none] [] h Q
  refine x_iconst k_37_0 ?_
  refine x_is2n k_37_1 rfl ?_
  exact lp_ownWrite w g b lt ht ho k1 k0 (Ls (500 + 2 * t)).length 0 (Nat.zero_add _) nof_0
end C1
