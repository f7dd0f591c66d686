section C21
variable {ad : AD} {ow : OW} {K : KK} {h : AH} {C : Nat → Int} {A I : Nat → Nat → Int} {F : Nat → Nat → Nat → Int} {Ls : Nat → List Nat} {cp : Nat → Nat} {Q : AR → AH → Prop}
/-- the sum of f over the first j of l -/
def smj (l : List Nat) (f : Nat → Int) : Nat → Int
  | 0 => 0
  | j + 1 => smj l f j + (match l[j]? with
    | some x => f x
    | none => 0)
theorem smj_s {l : List Nat} {f : Nat → Int} {j x : Nat} (hx : l[j]? = some x) : smj l f (j + 1) = smj l f j + f x := by
  simp only [smj, hx]
/-- what a change adds to the count of e, seen by t through its site -/
def fvs (A : Nat → Nat → Int) (t : Nat) (e : Int) (x : Nat) : Int := if A 12 x = e ∧ visB A (A 9 x).toNat t = true then A 11 x else 0
/-- what a change of t's own adds to the count of e in o -/
def fow (A : Nat → Nat → Int) (o : Nat) (e : Int) (x : Nat) : Int := if A 12 x = e ∧ (A 10 x).toNat = o then A 11 x else 0
theorem lp_cnt1 (w : WD ad ow K h) (g : CI ad K h.2.2.2.1 C A I F Ls cp) (b : RB C A) (lt : LT C A Ls) {t o : Nat} {e : Int} (ht : t < (C 3).toNat) (ho : o < (C 2).toNat) (he : inR e) (hin : ∀ t' x, t' < (C 3).toNat → x ∈ Ls (501 + 2 * t') → inR (A 12 x)) (k : ∀ z : Option AV, Rn 49 66 [some (aR (ad 4 t)), some (aR (ad 3 o)), some (aI (e)), some (aI (smj (Ls (21 + 2 * o)) (fvs A t e) (Ls (21 + 2 * o)).length)), some (aI (((Ls (21 + 2 * o)).length : Int))), z] [] h Q) : ∀ n j : Nat, j + n = (Ls (21 + 2 * o)).length → ∀ z : Option AV, Rn 49 5 [some (aR (ad 4 t)), some (aR (ad 3 o)), some (aI (e)), some (aI (smj (Ls (21 + 2 * o)) (fvs A t e) j)), some (aI ((j : Int))), z] [] h Q := by
  have v := g.ic ho
  obtain ⟨e8, v8⟩ := v.obj
  have vl := v.len
  intro n
  induction n using Nat.strongRecOn with | ind n ih => ?_
  intro j hj z
  refine x_iload k_49_5 rfl ?_
  refine x_aload_n k_49_7 rfl ?_
  refine x_get k_49_8 (w.at (g.item (by omega))) rfl ?_
  refine x_call1 k_49_11 (Nat.le_of_ble_eq_true rfl) (rcv_1 (w.at v8)) (Nat.le_of_ble_eq_true rfl) ?_
  refine c_size w v (bh_1 ?_)
  refine x_icmpge (t := 66) k_49_14 rfl (by show inR ((j : Int)) ∧ inR (((Ls (21 + 2 * o)).length : Int)); omega) (fun hb => ?_) (fun hb => ?_)
  · have c14 : ((Ls (21 + 2 * o)).length : Int) ≤ (j : Int) := hb
    have e2 : (Ls (21 + 2 * o)).length = j := by omega
    rw [e2] at k
    exact k _
  · have c14 : ¬ (((Ls (21 + 2 * o)).length : Int) ≤ (j : Int)) := hb
    obtain ⟨x, hx, hm⟩ := at_l (l := Ls (21 + 2 * o)) (j := j) (by omega)
    have hT := lt.2.2.2.1 o x ho hm
    have hr := hin _ x hT.1 hT.2
    refine x_aload_n k_49_17 rfl ?_
    refine x_get k_49_18 (w.at (g.item (by omega))) rfl ?_
    refine x_iload k_49_21 rfl ?_
    refine x_call2 k_49_23 (Nat.le_of_ble_eq_true rfl) (rcv_1 (w.at v8)) (Nat.le_of_ble_eq_true rfl) ?_
    refine c_get w v hx (bh_1 ?_)
    refine x_cast k_49_26 (w.at (g.ch hT.1 hT.2)) ?_
    refine x_as5 k_49_29 rfl ?_
    refine x_aload k_49_31 rfl ?_
    refine x_get k_49_33 (w.at (g.ch hT.1 hT.2)) rfl ?_
    have f33 := b.v12 x
    refine x_iload_n k_49_36 rfl ?_
    refine x_icmpne (t := 60) k_49_37 rfl ⟨hr, he⟩ (fun hb => ?_) (fun hb => ?_)
    · have c37 : ¬ A 12 x = e := hb
      refine x_inc4 k_49_60 rfl ?_
      refine x_goto (t := 5) k_49_63 rfl ?_
      have z := ih (n - 1) (by omega) (j + 1) (by omega) (some (aR (ad 6 x)))
      rw [smj_s hx, show fvs A t e x = 0 from if_neg (fun y => c37 y.1)] at z
      rw [Int.add_zero] at z
      exact z
    · have c37 : ¬ (¬ A 12 x = e) := hb
      refine x_aload_n k_49_40 rfl ?_
      refine x_aload k_49_41 rfl ?_
      refine x_get k_49_43 (w.at (g.ch hT.1 hT.2)) rfl ?_
      refine x_call2 k_49_46 (Nat.le_of_ble_eq_true rfl) (rcv_1 (w.at (g.tran (by omega)))) (Nat.le_of_ble_eq_true rfl) ?_
      refine k_sees w g b hT.1 ht (bh_1 ?_)
      refine x_ifeq_b (t := 60) k_49_49 rfl (fun c49 => ?_) (fun c49 => ?_)
      · refine x_inc4 k_49_60 rfl ?_
        refine x_goto (t := 5) k_49_63 rfl ?_
        have z := ih (n - 1) (by omega) (j + 1) (by omega) (some (aR (ad 6 x)))
        rw [smj_s hx, show fvs A t e x = 0 from if_neg (fun y => by rw [c49] at y; cases y.2)] at z
        rw [Int.add_zero] at z
        exact z
      · refine x_iload_n k_49_52 rfl ?_
        refine x_aload k_49_53 rfl ?_
        refine x_get k_49_55 (w.at (g.ch hT.1 hT.2)) rfl ?_
        have f55 := b.v11 x
        refine x_iadd k_49_58 ?_
        refine x_is3n k_49_59 rfl ?_
        refine x_inc4 k_49_60 rfl ?_
        refine x_goto (t := 5) k_49_63 rfl ?_
        have z := ih (n - 1) (by omega) (j + 1) (by omega) (some (aR (ad 6 x)))
        rw [smj_s hx, show fvs A t e x = A 11 x from if_pos ⟨Decidable.not_not.mp c37, c49⟩] at z
        exact z
theorem lp_cnt2 (w : WD ad ow K h) (g : CI ad K h.2.2.2.1 C A I F Ls cp) (b : RB C A) (lt : LT C A Ls) {t o : Nat} {e a : Int} (ht : t < (C 3).toNat) (ho : o < (C 2).toNat) (he : inR e) (hin : ∀ t' x, t' < (C 3).toNat → x ∈ Ls (501 + 2 * t') → inR (A 12 x)) (k : Q (.inl (some (aI (a + smj (Ls (501 + 2 * t)) (fow A o e) (Ls (501 + 2 * t)).length)))) h) : ∀ n j : Nat, j + n = (Ls (501 + 2 * t)).length → ∀ z : Option AV, Rn 49 69 [some (aR (ad 4 t)), some (aR (ad 3 o)), some (aI (e)), some (aI ((a + smj (Ls (501 + 2 * t)) (fow A o e) j))), some (aI ((j : Int))), z] [] h Q := by
  have v := g.lc ht
  obtain ⟨e8, v8⟩ := v.obj
  have vl := v.len
  intro n
  induction n using Nat.strongRecOn with | ind n ih => ?_
  intro j hj z
  refine x_iload k_49_69 rfl ?_
  refine x_aload_n k_49_71 rfl ?_
  refine x_get k_49_72 (w.at (g.tran (by omega))) rfl ?_
  refine x_call1 k_49_75 (Nat.le_of_ble_eq_true rfl) (rcv_1 (w.at v8)) (Nat.le_of_ble_eq_true rfl) ?_
  refine c_size w v (bh_1 ?_)
  refine x_icmpge (t := 127) k_49_78 rfl (by show inR ((j : Int)) ∧ inR (((Ls (501 + 2 * t)).length : Int)); omega) (fun hb => ?_) (fun hb => ?_)
  · have c78 : ((Ls (501 + 2 * t)).length : Int) ≤ (j : Int) := hb
    refine x_iload_n k_49_127 rfl ?_
    refine x_ireturn k_49_128 rfl ?_
    have e2 : (Ls (501 + 2 * t)).length = j := by omega
    rw [e2] at k
    exact k
  · have c78 : ¬ (((Ls (501 + 2 * t)).length : Int) ≤ (j : Int)) := hb
    obtain ⟨x, hx, hm⟩ := at_l (l := Ls (501 + 2 * t)) (j := j) (by omega)
    have hT := lt.2.1 t x ht hm
    have hr := hin t x ht hm
    refine x_aload_n k_49_81 rfl ?_
    refine x_get k_49_82 (w.at (g.tran (by omega))) rfl ?_
    refine x_iload k_49_85 rfl ?_
    refine x_call2 k_49_87 (Nat.le_of_ble_eq_true rfl) (rcv_1 (w.at v8)) (Nat.le_of_ble_eq_true rfl) ?_
    refine c_get w v hx (bh_1 ?_)
    refine x_cast k_49_90 (w.at (g.ch ht hm)) ?_
    refine x_as5 k_49_93 rfl ?_
    refine x_aload k_49_95 rfl ?_
    refine x_get k_49_97 (w.at (g.ch ht hm)) rfl ?_
    have f97 := b.v12 x
    refine x_iload_n k_49_100 rfl ?_
    refine x_icmpne (t := 121) k_49_101 rfl ⟨hr, he⟩ (fun hb => ?_) (fun hb => ?_)
    · have c101 : ¬ A 12 x = e := hb
      refine x_inc4 k_49_121 rfl ?_
      refine x_goto (t := 69) k_49_124 rfl ?_
      have z := ih (n - 1) (by omega) (j + 1) (by omega) (some (aR (ad 6 x)))
      rw [smj_s hx, show fow A o e x = 0 from if_neg (fun y => c101 y.1)] at z
      rw [Int.add_zero] at z
      exact z
    · have c101 : ¬ (¬ A 12 x = e) := hb
      refine x_aload k_49_104 rfl ?_
      refine x_get k_49_106 (w.at (g.ch ht hm)) rfl ?_
      refine x_aload_n k_49_109 rfl ?_
      refine x_acmpne (t := 121) k_49_110 rfl (fun c110 => ?_) (fun c110 => ?_)
      · refine x_inc4 k_49_121 rfl ?_
        refine x_goto (t := 69) k_49_124 rfl ?_
        have z := ih (n - 1) (by omega) (j + 1) (by omega) (some (aR (ad 6 x)))
        rw [smj_s hx, show fow A o e x = 0 from if_neg (fun y => c110 (by rw [y.2]))] at z
        rw [Int.add_zero] at z
        exact z
      · refine x_iload_n k_49_113 rfl ?_
        refine x_aload k_49_114 rfl ?_
        refine x_get k_49_116 (w.at (g.ch ht hm)) rfl ?_
        have f116 := b.v11 x
        refine x_iadd k_49_119 ?_
        refine x_is3n k_49_120 rfl ?_
        refine x_inc4 k_49_121 rfl ?_
        refine x_goto (t := 69) k_49_124 rfl ?_
        have eo : (A 10 x).toNat = o := Classical.byContradiction (fun q => by
          have c110 : ad 3 (A 10 x).toNat = ad 3 o := Option.some.inj (Decidable.not_not.mp c110)
          exact w.ne (g.item hT.2) (g.item ho) (fun y => q y.2) c110)
        have z := ih (n - 1) (by omega) (j + 1) (by omega) (some (aR (ad 6 x)))
        rw [smj_s hx, show fow A o e x = A 11 x from if_pos ⟨Decidable.not_not.mp c101, eo⟩] at z
        rw [← Int.add_assoc] at z
        exact z
theorem k_countOf (w : WD ad ow K h) (g : CI ad K h.2.2.2.1 C A I F Ls cp) (b : RB C A) (lt : LT C A Ls) {t o : Nat} {e : Int} (ht : t < (C 3).toNat) (ho : o < (C 2).toNat) (he : inR e) (hin : ∀ t' x, t' < (C 3).toNat → x ∈ Ls (501 + 2 * t') → inR (A 12 x)) (k : Q (.inl (some (aI (smj (Ls (21 + 2 * o)) (fvs A t e) (Ls (21 + 2 * o)).length + smj (Ls (501 + 2 * t)) (fow A o e) (Ls (501 + 2 * t)).length)))) h) : Rn 49 0 (entL 49 [aR (ad 4 t), aR (ad 3 o), aI e]) [] h Q := by
  show Rn 49 0 [some (aR (ad 4 t)), some (aR (ad 3 o)), some (aI (e)), none, none, none] [] h Q
  refine x_iconst k_49_0 ?_
  refine x_is3n k_49_1 rfl ?_
  refine x_iconst k_49_2 ?_
  refine x_is4 k_49_3 rfl ?_
  refine lp_cnt1 w g b lt ht ho he hin (fun z => ?_) (Ls (21 + 2 * o)).length 0 (Nat.zero_add _) _
  refine x_iconst k_49_66 ?_
  refine x_is4 k_49_67 rfl ?_
  have e0 := lp_cnt2 w g b lt ht ho he hin k (Ls (501 + 2 * t)).length 0 (Nat.zero_add _) z
  rw [show smj (Ls (501 + 2 * t)) (fow A o e) 0 = 0 from rfl, Int.add_zero] at e0
  exact e0
end C21
