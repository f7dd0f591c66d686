section C25
variable {ad : AD} {ow : OW} {K : KK} {h : AH} {C : Nat → Int} {A I : Nat → Nat → Int} {F : Nat → Nat → Nat → Int} {Ls : Nat → List Nat} {cp : Nat → Nat} {Q : AR → AH → Prop}
theorem c_isEmpty {id ek c : Nat} {l : List Nat} (w : WD ad ow K h) (v : LX ad K h.2.2.2.1 id ek l c) (k : Q (.inl (some (aI (bI (decide ((l.length : Int) = 0)))))) h) : Rn 62 0 (entL 62 [aR (ad 8 id)]) [] h Q := by
  have vl := v.len
  obtain ⟨m, G, v⟩ := v
  exact l_isEmpty (w.at v.1) (by omega) k
noncomputable def wtA (A : Nat → Nat → Int) (Ls : Nat → List Nat) (t : Nat) : Nat → Nat → Int := up (up A 1 (lkF A (Ls (500 + 2 * t)) t (A 3 t).toNat (Ls (500 + 2 * t)).length)) 4 (up (A 4) t 3)
noncomputable def wtS (C : Nat → Int) (A I : Nat → Nat → Int) (Ls : Nat → List Nat) (t : Nat) : CB := bcl (fun u => aks (wtA A Ls t) Ls t u ∧ ¬ (u : Int) = -1) (A 3 t) 1 t (C, wtA A Ls t, up I 0 (up (I 0) t (nP (aks A Ls t) (C 1).toNat)), Ls) (C 1).toNat
/-- the conflict at t's own site, as the class sees it -/
def hca (A : Nat → Nat → Int) (Ls : Nat → List Nat) (t : Nat) : Prop := (∃ x, x ∈ Ls (500 + 2 * t) ∧ (fun k => A 0 (A 10 k).toNat = (A 3 t).toNat ∧ hcf A Ls (A 10 k).toNat t (A 3 t).toNat) x)
/-- what tryToCommit(t) leaves -/
def tryP (C : Nat → Int) (A I : Nat → Nat → Int) (Ls : Nat → List Nat) (t : Nat) (p : CB) : Prop :=
  ((Ls (500 + 2 * t) = [] ∧ Ls (501 + 2 * t) = []) ∧ p = (C, up A 4 (up (A 4) t 1), I, Ls)) ∨
  (¬ (Ls (500 + 2 * t) = [] ∧ Ls (501 + 2 * t) = []) ∧ hca A Ls t ∧ p = (C, up A 4 (up (A 4) t 2), I, Ls)) ∨
  (¬ (Ls (500 + 2 * t) = [] ∧ Ls (501 + 2 * t) = []) ∧ ¬ hca A Ls t ∧ nP (aks A Ls t) (C 1).toNat = 0 ∧ p = mkS C A I Ls t) ∨
  (¬ (Ls (500 + 2 * t) = [] ∧ Ls (501 + 2 * t) = []) ∧ ¬ hca A Ls t ∧ ¬ nP (aks A Ls t) (C 1).toNat = 0 ∧ p = wtS C A I Ls t)
theorem k_try {S N M : Nat} {ow0 : OW} {h0 : AH} (w : WD ad ow K h) (g : CI ad K h.2.2.2.1 C A I F Ls cp) (b : RB C A) (lt : LT C A Ls) (fo : Fo ow0 h0 ow h) (ib : IB C Ls cp) (pt : PT S N h cp) (jw : JB C Ls cp 20 M) (jc : JB C Ls cp 21 M) {t : Nat} (ht : t < (C 3).toNat) (hM1 : M + (Ls (500 + 2 * t)).length < 80000) (hM2 : M + (Ls (501 + 2 * t)).length < 80000) (h13 : A 13 (6 * (A 3 t).toNat + (A 3 t).toNat) < 500) (h6 : C 6 < 1000) (h5 : C 5 + 6 ≤ 15000) (k : ∀ p h', tryP C A I Ls t p → WS ad cp C ow0 h0 (S + 18) (N + (Ls (500 + 2 * t)).length + (Ls (501 + 2 * t)).length + 12) (M + (Ls (500 + 2 * t)).length + (Ls (501 + 2 * t)).length) p h' → Q (.inl none) h') : Rn 61 0 (entL 61 [aR (ad 0 0), aR (ad 4 t)]) [] h Q := by
  show Rn 61 0 [some (aR (ad 0 0)), some (aR (ad 4 t)), none, none] [] h Q
  have b1 := b.c1
  have b33 := b.c3
  have a3 := g.a3 ht
  have b3 := b.v3 t
  have em : ∀ l : List Nat, ((l.length : Int) = 0) ↔ l = [] := fun l => by
    cases l with
    | nil => simp
    | cons a l => simp; omega
  have tail : ¬ (Ls (500 + 2 * t) = [] ∧ Ls (501 + 2 * t) = []) → Rn 61 26 [some (aR (ad 0 0)), some (aR (ad 4 t)), none, none] [] h Q := by
    intro ne
    obtain ⟨R, hR, hR2⟩ := g.row
    refine x_aload_n k_61_26 rfl ?_
    refine x_get k_61_27 (w.at g.store) rfl ?_
    refine x_aload_n k_61_30 rfl ?_
    refine x_get k_61_31 (w.at (g.tran ht)) rfl ?_
    refine x_aaload k_61_34 (w.at hR) (Or.inl rfl) (show 0 ≤ A 3 t by omega) (show A 3 t < (((C 1).toNat : Nat) : Int) by omega) ?_
    rw [hR2 (A 3 t).toNat (by omega)]
    refine x_as2n k_61_35 rfl ?_
    refine x_aload_n k_61_36 rfl ?_
    refine x_aload_n k_61_37 rfl ?_
    refine x_call2 k_61_38 (Nat.le_of_ble_eq_true rfl) (rcv_1 (w.at (g.tran ht))) (Nat.le_of_ble_eq_true rfl) ?_
    refine k_hasConflictAt w g b lt ht (s := (A 3 t).toNat) (by omega) (bh_1 ?_)
    refine x_ifeq_P (t := 50) k_61_41 rfl (fun hc => ?_) (fun hc => ?_)
    · refine x_aload_n k_61_50 rfl ?_
      refine x_aload_n k_61_51 rfl ?_
      refine x_call2 k_61_52 (Nat.le_of_ble_eq_true rfl) (rcv_1 (w.at g.store)) (Nat.le_of_ble_eq_true rfl) ?_
      refine k_otherHomes w g b lt ht (bh_1 ?_)
      have hn := nP_b (aks A Ls t) (C 1).toNat
      refine x_is3n k_61_55 rfl ?_
      refine x_iload_n k_61_56 rfl ?_
      refine x_ifne (t := 66) k_61_57 rfl (by omega) (fun hz => ?_) (fun hz => ?_)
      · refine x_aload_n k_61_66 rfl ?_
        refine x_aload_n k_61_67 rfl ?_
        refine x_call2 k_61_68 (Nat.le_of_ble_eq_true rfl) (rcv_1 (w.at (g.tran ht))) (Nat.le_of_ble_eq_true rfl) ?_
        refine k_lockAt w g fo b lt ht (s := (A 3 t).toNat) (by omega) (fun K h w g fo e1 => bh_v ?_)
        refine x_aload_n k_61_71 rfl ?_
        refine x_iconst k_61_72 ?_
        refine x_put k_61_73 (w.at (g.tran ht)) (Nat.le_of_ble_eq_true rfl) rfl ?_
        refine phasego w fo g ht 3 (fun K h w fo g e2 => ?_)
        refine x_aload_n k_61_76 rfl ?_
        refine x_iload_n k_61_77 rfl ?_
        refine x_put k_61_78 (w.at (g.tran ht)) (Nat.le_of_ble_eq_true rfl) rfl ?_
        refine duego w fo g ht (nP (aks A Ls t) (C 1).toNat) (fun K h w fo g e3 => ?_)
        have pt1 : PT S N h cp := by unfold PT; rw [e3, e2, e1]; exact pt
        have bA : RB C (wtA A Ls t) := (b.s1 (lkF_b b (by omega))).t4 ⟨by omega, by omega⟩
        refine x_aload_n k_61_81 rfl ?_
        refine x_aload_n k_61_82 rfl ?_
        refine x_iconst k_61_83 ?_
        refine x_iconst k_61_84 ?_
        refine x_call4 k_61_85 (Nat.le_of_ble_eq_true rfl) (rcv_1 (w.at g.store)) (Nat.le_of_ble_eq_true rfl) ?_
        refine k_sendOther (A0 := wtA A Ls t) (Ls0 := Ls) w g bA lt fo ib pt1 h5 ht (by decide) (by decide) (fun ad' ow' K' cp' h' q1 q2 q3 q4 q5 q6 q7 q8 => bh_v ?_)
        refine x_return k_61_88 ?_
        have bb := bcl_b (P := fun u => aks (wtA A Ls t) Ls t u ∧ ¬ (u : Int) = -1) (a := A 3 t) (so := 1) (t := t) (p := (C, wtA A Ls t, up I 0 (up (I 0) t (nP (aks A Ls t) (C 1).toNat)), Ls)) bA b3 (by decide) (by omega) h5 (u := (C 1).toNat) (by omega)
        have els : ∀ j, 20 ≤ j → (wtS C A I Ls t).2.2.2 j = Ls j := fun j hj => (bcl_s (P := fun u => aks (wtA A Ls t) Ls t u ∧ ¬ (u : Int) = -1) (a := A 3 t) (so := 1) (t := t) (p := (C, wtA A Ls t, up I 0 (up (I 0) t (nP (aks A Ls t) (C 1).toNat)), Ls)) (C 1).toNat).2.2 j hj (by omega)
        have e2' : (wtS C A I Ls t).1 2 = C 2 := bb.2 2 (by decide)
        refine k (wtS C A I Ls t) h' (Or.inr (Or.inr (Or.inr ⟨ne, hc, hz, rfl⟩))) ⟨ad', ow', K', F, cp', q1, q2, bb.1, q3, q4, q5, q6.mono (by omega) (by omega), ⟨fun o ho => ?_, fun o ho => ?_⟩, q7, fun i hi => q8 i (by omega)⟩
        · rw [els _ (by omega), q8 _ (by omega)]
          rw [e2'] at ho
          have := jw o ho
          exact ⟨this.1, by omega⟩
        · rw [els _ (by omega), q8 _ (by omega)]
          rw [e2'] at ho
          have := jc o ho
          exact ⟨this.1, by omega⟩
      · refine x_aload_n k_61_60 rfl ?_
        refine x_aload_n k_61_61 rfl ?_
        refine x_call2 k_61_62 (Nat.le_of_ble_eq_true rfl) (rcv_1 (w.at g.store)) (Nat.le_of_ble_eq_true rfl) ?_
        refine k_makeCommit w g b lt fo ib pt jw jc ht hM1 hM2 h13 h6 h5 (fun ad' ow' K' F' cp' h' q1 q2 q3 q4 q5 q6 q7 q8 q9 q10 => bh_v ?_)
        refine x_return k_61_65 ?_
        have mb := mkS_b (I := I) (Ls := Ls) b ht h13 h6 h5
        have e2' : (mkS C A I Ls t).1 2 = C 2 := mb.2 2 (by decide)
        refine k (mkS C A I Ls t) h' (Or.inr (Or.inr (Or.inl ⟨ne, hc, Decidable.not_not.mp hz, rfl⟩))) ⟨ad', ow', K', F', cp', q1, q2, mb.1, q3, q4, q5, q6.mono (by omega) (by omega), ⟨fun o ho => ?_, fun o ho => ?_⟩, q7, q10⟩
        · rw [e2'] at ho
          exact (q8.mono (by omega)) o ho
        · rw [e2'] at ho
          exact (q9.mono (by omega)) o ho
    · refine x_aload_n k_61_44 rfl ?_
      refine x_iconst k_61_45 ?_
      refine x_put k_61_46 (w.at (g.tran ht)) (Nat.le_of_ble_eq_true rfl) rfl ?_
      refine phasego w fo g ht 2 (fun K h w fo g e1 => ?_)
      refine x_return k_61_49 ?_
      have pt1 : PT S N h cp := by unfold PT; rw [e1]; exact pt
      exact k _ h (Or.inr (Or.inl ⟨ne, hc, rfl⟩)) ⟨ad, ow, K, F, cp, w, g, b.t4 ⟨by omega, by omega⟩, lt, fo, ib, pt1.mono (by omega) (by omega), ⟨jw.mono (by omega), jc.mono (by omega)⟩, fun _ _ _ _ => rfl, fun _ _ => rfl⟩
  have v1 := g.lw ht
  have v2 := g.lc ht
  obtain ⟨e8, v8⟩ := v1.obj
  obtain ⟨f8, u8⟩ := v2.obj
  refine x_aload_n k_61_0 rfl ?_
  refine x_get k_61_1 (w.at (g.tran ht)) rfl ?_
  refine x_call1 k_61_4 (Nat.le_of_ble_eq_true rfl) (rcv_1 (w.at v8)) (Nat.le_of_ble_eq_true rfl) ?_
  refine c_isEmpty w v1 (bh_1 ?_)
  refine x_ifeq_p (t := 26) k_61_7 rfl (fun hc => tail (fun q => hc ((em _).mpr q.1))) (fun hc => ?_)
  refine x_aload_n k_61_10 rfl ?_
  refine x_get k_61_11 (w.at (g.tran ht)) rfl ?_
  refine x_call1 k_61_14 (Nat.le_of_ble_eq_true rfl) (rcv_1 (w.at u8)) (Nat.le_of_ble_eq_true rfl) ?_
  refine c_isEmpty w v2 (bh_1 ?_)
  refine x_ifeq_p (t := 26) k_61_17 rfl (fun hd => tail (fun q => hd ((em _).mpr q.2))) (fun hd => ?_)
  refine x_aload_n k_61_20 rfl ?_
  refine x_iconst k_61_21 ?_
  refine x_put k_61_22 (w.at (g.tran ht)) (Nat.le_of_ble_eq_true rfl) rfl ?_
  refine phasego w fo g ht 1 (fun K h w fo g e1 => ?_)
  refine x_return k_61_25 ?_
  have pt1 : PT S N h cp := by unfold PT; rw [e1]; exact pt
  exact k _ h (Or.inl ⟨⟨(em _).mp hc, (em _).mp hd⟩, rfl⟩) ⟨ad, ow, K, F, cp, w, g, b.t4 ⟨by omega, by omega⟩, lt, fo, ib, pt1.mono (by omega) (by omega), ⟨jw.mono (by omega), jc.mono (by omega)⟩, fun _ _ _ _ => rfl, fun _ _ => rfl⟩
end C25
