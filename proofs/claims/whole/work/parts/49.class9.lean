section C9
variable {ad : AD} {ow : OW} {K : KK} {h : AH} {C : Nat → Int} {A I : Nat → Nat → Int} {F : Nat → Nat → Nat → Int} {Ls : Nat → List Nat} {cp : Nat → Nat} {Q : AR → AH → Prop}
abbrev CB : Type := (Nat → Int) × (Nat → Nat → Int) × (Nat → Nat → Int) × (Nat → List Nat)
def bstep (a so t : Int) (p : CB) (u : Nat) : CB := (sndC p.1, sndA p.1 p.2.1 a u so t, up p.2.2.1 2 (up (p.2.2.1 2) (p.1 5).toNat so), up p.2.2.2 (3 + 2 * u) (p.2.2.2 (3 + 2 * u) ++ [(p.1 5).toNat]))
/-- messages to those u below n of whom P speaks, with the class's lists -/
noncomputable def bcl (P : Nat → Prop) (a so t : Int) (p : CB) : Nat → CB
  | 0 => p
  | u + 1 => @ite CB (P u) (Classical.propDecidable (P u)) (bstep a so t (bcl P a so t p u) u) (bcl P a so t p u)
theorem bcl_y {P : Nat → Prop} {a so t : Int} {p : CB} {u : Nat} (hp : P u) : bcl P a so t p (u + 1) = bstep a so t (bcl P a so t p u) u := by
  simp only [bcl]
  exact if_pos hp
theorem bcl_n {P : Nat → Prop} {a so t : Int} {p : CB} {u : Nat} (hp : ¬ P u) : bcl P a so t p (u + 1) = bcl P a so t p u := by
  simp only [bcl]
  exact if_neg hp
theorem bcl_s {P : Nat → Prop} {a so t : Int} {p : CB} : ∀ u, (bcl P a so t p u).1 = (bcs P a so t p.1 p.2.1 u).1 ∧ (bcl P a so t p u).2.1 = (bcs P a so t p.1 p.2.1 u).2 ∧ ∀ j, 20 ≤ j → u ≤ 6 → (bcl P a so t p u).2.2.2 j = p.2.2.2 j := by
  intro u
  induction u with
  | zero => exact ⟨rfl, rfl, fun _ _ _ => rfl⟩
  | succ u ih =>
    by_cases hp : P u
    · rw [bcl_y hp, bcs_y hp]
      refine ⟨?_, ?_, fun j hj hu => ?_⟩
      · show sndC _ = sndC _
        rw [ih.1]
      · show sndA _ _ _ _ _ _ = sndA _ _ _ _ _ _
        rw [ih.1, ih.2.1]
      · exact (up_n (by omega)).trans (ih.2.2 j hj (by omega))
    · rw [bcl_n hp, bcs_n hp]
      exact ⟨ih.1, ih.2.1, fun j hj hu => ih.2.2 j hj (by omega)⟩
theorem lp_sendOther {ow0 : OW} {h0 : AH} {ad0 : AD} {cp0 : Nat → Nat} {C0 : Nat → Int} {A0 I0 : Nat → Nat → Int} {Ls0 : Nat → List Nat} {S N t : Nat} {so ex : Int} (b0 : RB C0 A0) (h5 : C0 5 + 6 ≤ 15000) (ht0 : t < (C0 3).toNat) (hso : 0 ≤ so ∧ so ≤ 5) (hex : inR ex) (k : ∀ ad' ow' K' cp' h', WD ad' ow' K' h' → CI ad' K' h'.2.2.2.1 ((bcl (fun u => aks A0 Ls0 t u ∧ ¬ (u : Int) = ex) (A0 3 t) so t (C0, A0, I0, Ls0)) (C0 1).toNat).1 ((bcl (fun u => aks A0 Ls0 t u ∧ ¬ (u : Int) = ex) (A0 3 t) so t (C0, A0, I0, Ls0)) (C0 1).toNat).2.1 ((bcl (fun u => aks A0 Ls0 t u ∧ ¬ (u : Int) = ex) (A0 3 t) so t (C0, A0, I0, Ls0)) (C0 1).toNat).2.2.1 F ((bcl (fun u => aks A0 Ls0 t u ∧ ¬ (u : Int) = ex) (A0 3 t) so t (C0, A0, I0, Ls0)) (C0 1).toNat).2.2.2 cp' → LT ((bcl (fun u => aks A0 Ls0 t u ∧ ¬ (u : Int) = ex) (A0 3 t) so t (C0, A0, I0, Ls0)) (C0 1).toNat).1 ((bcl (fun u => aks A0 Ls0 t u ∧ ¬ (u : Int) = ex) (A0 3 t) so t (C0, A0, I0, Ls0)) (C0 1).toNat).2.1 ((bcl (fun u => aks A0 Ls0 t u ∧ ¬ (u : Int) = ex) (A0 3 t) so t (C0, A0, I0, Ls0)) (C0 1).toNat).2.2.2 → Fo ow0 h0 ow' h' → IB ((bcl (fun u => aks A0 Ls0 t u ∧ ¬ (u : Int) = ex) (A0 3 t) so t (C0, A0, I0, Ls0)) (C0 1).toNat).1 ((bcl (fun u => aks A0 Ls0 t u ∧ ¬ (u : Int) = ex) (A0 3 t) so t (C0, A0, I0, Ls0)) (C0 1).toNat).2.2.2 cp' → PT (S + 3 * (C0 1).toNat) (N + 2 * (C0 1).toNat) h' cp' → (∀ k i, (k ≠ 7 ∨ i < (C0 5).toNat) → k ≠ 10 → ad' k i = ad0 k i) → (∀ i, (i < 2 ∨ i % 2 = 0 ∨ 2 + 2 * (C0 1).toNat ≤ i) → cp' i = cp0 i) → Q (.inl none) h') : ∀ n j : Nat, j + n = (C0 1).toNat → ∀ ad ow K C A I Ls cp h, (bcl (fun u => aks A0 Ls0 t u ∧ ¬ (u : Int) = ex) (A0 3 t) so t (C0, A0, I0, Ls0)) j = (C, A, I, Ls) → WD ad ow K h → CI ad K h.2.2.2.1 C A I F Ls cp → LT C A Ls → Fo ow0 h0 ow h → IB C Ls cp → PT (S + 3 * j) (N + 2 * j) h cp → (∀ k i, (k ≠ 7 ∨ i < (C0 5).toNat) → k ≠ 10 → ad k i = ad0 k i) → (∀ i, (i < 2 ∨ i % 2 = 0 ∨ 2 + 2 * (C0 1).toNat ≤ i) → cp i = cp0 i) → Rn 74 3 [some (aR (ad 0 0)), some (aR (ad 4 t)), some (aI (so)), some (aI (ex)), some (aI ((j : Int)))] [] h Q := by
  intro n
  induction n using Nat.strongRecOn with | ind n ih => ?_
  intro j hj ad ow K C A I Ls cp h e w g lt fo ib pt hA hcp
  have b01 := b0.c1
  have b03 := b0.v3 t
  have b033 := b0.c3
  have q := bcs_ok b0 (P := (fun u => aks A0 Ls0 t u ∧ ¬ (u : Int) = ex)) (a := A0 3 t) (so := so) (t := t) b03 hso ⟨by omega, by omega⟩ h5 j (by omega)
  have qs := bcl_s (P := (fun u => aks A0 Ls0 t u ∧ ¬ (u : Int) = ex)) (a := A0 3 t) (so := so) (t := t) (p := (C0, A0, I0, Ls0)) j
  rw [e] at qs
  have qC : C = (bcs (fun u => aks A0 Ls0 t u ∧ ¬ (u : Int) = ex) (A0 3 t) so t C0 A0 j).1 := qs.1
  have qA : A = (bcs (fun u => aks A0 Ls0 t u ∧ ¬ (u : Int) = ex) (A0 3 t) so t C0 A0 j).2 := qs.2.1
  have b : RB C A := by rw [qC, qA]; exact q.1
  have e5 : C0 5 ≤ C 5 := by rw [qC]; exact q.2.1
  have e1 : C 1 = C0 1 := by rw [qC]; exact q.2.2.2.1 1 (by decide)
  have e3 : C 3 = C0 3 := by rw [qC]; exact q.2.2.2.1 3 (by decide)
  have ea3 : A 3 = A0 3 := by rw [qA]; exact q.2.2.2.2 3 (by decide)
  have ea0 : A 0 = A0 0 := by rw [qA]; exact q.2.2.2.2 0 (by decide)
  have ea10 : A 10 = A0 10 := by rw [qA]; exact q.2.2.2.2 10 (by decide)
  have els : Ls (500 + 2 * t) = Ls0 (500 + 2 * t) := qs.2.2 _ (by omega) (by omega)
  have hak : aks A Ls t j ↔ aks A0 Ls0 t j := by
    unfold aks
    rw [ea3, ea0, ea10, els]
  have ht : t < (C 3).toNat := by rw [e3]; exact ht0
  obtain ⟨R, hR, hR2⟩ := g.row
  refine x_iload k_74_3 rfl ?_
  refine x_aload_n k_74_5 rfl ?_
  refine x_get k_74_6 (w.at g.store) rfl ?_
  refine x_alen k_74_9 (w.at hR) ?_
  refine x_icmpge (t := 61) k_74_10 rfl (by show inR ((j : Int)) ∧ inR (((C 1).toNat : Int)); omega) (fun hb => ?_) (fun hb => ?_)
  · have c10 : ((C 1).toNat : Int) ≤ (j : Int) := hb
    refine x_return k_74_61 ?_
    have e2 : (C0 1).toNat = j := by omega
    refine k ad ow K cp h w ?_ ?_ fo ?_ ?_ hA hcp
    · rw [e2, e]; exact g
    · rw [e2, e]; exact lt
    · rw [e2, e]; exact ib
    · rw [e2]; exact pt
  · have c10 : ¬ (((C 1).toNat : Int) ≤ (j : Int)) := hb
    refine x_aload_n k_74_13 rfl ?_
    refine x_iload k_74_14 rfl ?_
    refine x_call2 k_74_16 (Nat.le_of_ble_eq_true rfl) (rcv_1 (w.at (g.tran (by omega)))) (Nat.le_of_ble_eq_true rfl) ?_
    refine k_asks w g b lt ht (by omega) (bh_1 ?_)
    refine x_ifeq_P (t := 55) k_74_19 rfl (fun c19 => ?_) (fun c19 => ?_)
    · refine x_inc4 k_74_55 rfl ?_
      refine x_goto (t := 3) k_74_58 rfl ?_
      have z := ih (n - 1) (by omega) (j + 1) (by omega) ad ow K C A I Ls cp h (by rw [bcl_n (fun y => c19 (hak.mpr y.1)), e]) w g lt fo ib ⟨by have := pt.1; omega, by have := pt.2; omega⟩ hA hcp
      exact z
    · refine x_iload k_74_22 rfl ?_
      refine x_iload_n k_74_24 rfl ?_
      refine x_icmpeq (t := 55) k_74_25 rfl (by show inR ((j : Int)) ∧ inR (ex); omega) (fun hb => ?_) (fun hb => ?_)
      · have c25 : (j : Int) = ex := hb
        refine x_inc4 k_74_55 rfl ?_
        refine x_goto (t := 3) k_74_58 rfl ?_
        have z := ih (n - 1) (by omega) (j + 1) (by omega) ad ow K C A I Ls cp h (by rw [bcl_n (fun y => y.2 c25), e]) w g lt fo ib ⟨by have := pt.1; omega, by have := pt.2; omega⟩ hA hcp
        exact z
      · have c25 : ¬ ((j : Int) = ex) := hb
        refine x_aload_n k_74_28 rfl ?_
        refine x_get k_74_29 (w.at g.store) rfl ?_
        refine x_iload k_74_32 rfl ?_
        refine x_aaload k_74_34 (w.at hR) (Or.inl rfl) (by omega) (by omega) ?_
        rw [show R (((j : Int)) : Int).toNat = some (ad 2 j) from hR2 j (by omega)]
        refine x_get k_74_35 (w.at (g.site (by omega))) rfl ?_
        refine x_new k_74_38 ?_
        refine x_dup k_74_41 rfl ?_
        refine x_iload_n k_74_42 rfl ?_
        refine x_aload_n k_74_43 rfl ?_
        refine x_get k_74_44 ((hnew_n (Nat.ne_of_lt (w.1 _ _ _ (g.tran ht)).2.2)).trans (w.at (g.tran ht))) rfl ?_
        refine x_aload_n k_74_47 rfl ?_
        refine x_call4 k_74_48 (Nat.le_of_ble_eq_true rfl) rfl (Nat.le_of_ble_eq_true rfl) ?_
        refine i_message hnew_s (bh_v ?_)
        rw [hput_new]
        refine sndgo2 (S := S + 3 * j) (N := N + 2 * j) k_74_51 k_74_54 (Nat.le_of_ble_eq_true rfl) w g b lt fo ib pt (by omega) ht (fun ad' ow' K' cp' h' w' g' lt' fo' ib' pt' hA' hcp' => ?_)
        refine x_inc4 k_74_55 rfl ?_
        refine x_goto (t := 3) k_74_58 rfl ?_
        have z := ih (n - 1) (by omega) (j + 1) (by omega) ad' ow' K' _ _ _ _ cp' h' (by rw [bcl_y ⟨hak.mp c19, c25⟩, e]; unfold bstep; rw [ea3]) w' g' lt' fo' ib' pt' (fun k i h7 h10 => (hA' k i (h7.imp id (fun z => by omega)) h10).trans (hA k i h7 h10)) (fun i hi => (hcp' i (by omega)).trans (hcp i hi))
        rw [hA' 0 0 (Or.inl (by decide)) (by decide), hA' 4 t (Or.inl (by decide)) (by decide)] at z
        exact z
end C9
