section C27
variable {ad : AD} {ow : OW} {K : KK} {h : AH} {C : Nat → Int} {A I : Nat → Nat → Int} {F : Nat → Nat → Nat → Int} {Ls : Nat → List Nat} {cp : Nat → Nat} {Q : AR → AH → Prop}
theorem clsP_e {s : Nat} : ∀ {n : Nat} {A A' : Nat → Nat → Int} {Ls Ls' : Nat → List Nat}, clsP C s n A Ls A' Ls' → (∀ j, ¬ j = 2 + 2 * s → Ls' j = Ls j) ∧ (Ls' (2 + 2 * s)).length ≤ (Ls (2 + 2 * s)).length := by
  intro n
  induction n with
  | zero =>
    intro A A' Ls Ls' hc
    obtain ⟨_, e, _⟩ := hc
    subst e
    exact ⟨fun _ _ => rfl, Nat.le_refl _⟩
  | succ n ih =>
    intro A A' Ls Ls' hc
    obtain ⟨k, x, hx, _, _, hc⟩ := hc
    have z := ih hc
    rw [up_s] at z
    refine ⟨fun j hj => (z.1 j hj).trans (up_n hj), Nat.le_trans z.2 ?_⟩
    rw [List.length_eraseIdx]
    split <;> omega
theorem heldX {P : AD → Prop} {S N M H : Nat} {ow0 : OW} {h0 : AH} {ow' : OW} {K' : KK} {F' : Nat → Nat → Nat → Int} {h' : AH} {s : Nat} {A' : Nat → Nat → Int} {Ls' : Nat → List Nat} (b : RB C A) (ib : IB C Ls cp) (jw : JB C Ls cp 20 M) (jc : JB C Ls cp 21 M) (hb : HB C Ls cp H) (tb : TB C Ls cp) (hP : ∀ ad' : AD, (∀ k i, (k ≠ 7 ∨ i < (C 5).toNat) → k ≠ 10 → ad' k i = ad k i) → P ad') (hs6 : s < 6) (q0 : (∀ j, ¬ j = 2 + 2 * s → Ls' j = Ls j) ∧ (Ls' (2 + 2 * s)).length ≤ (Ls (2 + 2 * s)).length) (q1 : WD ad ow' K' h') (q2 : CI ad K' h'.2.2.2.1 C A' I F' Ls' cp) (q3 : RB C A') (q4 : LT C A' Ls') (q5 : Fo ow0 h0 ow' h') (q6 : PT S N h' cp) : WX P ow0 h0 S N M H (C, A', I, Ls') h' := by
  have b1 := b.c1
  refine ⟨ad, ow', K', F', cp, hP ad (fun _ _ _ _ => rfl), q1, q2, q3, q4, q5, fun u hu => ?_, q6, ⟨fun o ho => ?_, fun o ho => ?_⟩, fun s' hs' => ?_, tb.1, tb.2.1, fun i h1 h2 => ?_, tb.2.2.2⟩
  · show (Ls' (3 + 2 * u)).length ≤ _ ∧ _
    rw [q0.1 _ (by omega)]
    exact ib u hu
  · show _ ≤ 10 + 2 * (Ls' (20 + 2 * o)).length ∧ (Ls' (20 + 2 * o)).length ≤ M
    rw [q0.1 _ (by omega)]
    exact jw o ho
  · show _ ≤ 10 + 2 * (Ls' (21 + 2 * o)).length ∧ (Ls' (21 + 2 * o)).length ≤ M
    rw [q0.1 _ (by omega)]
    exact jc o ho
  · show (Ls' (2 + 2 * s')).length ≤ _ ∧ _
    have := hb s' hs'
    by_cases hn : 2 + 2 * s' = 2 + 2 * s
    · rw [hn] at this ⊢
      exact ⟨Nat.le_trans q0.2 this.1, this.2⟩
    · rw [q0.1 _ hn]
      exact this
  · show _ ≤ 10 + 2 * (Ls' i).length
    rw [q0.1 _ (by omega)]
    exact tb.2.2.1 i h1 h2
theorem k_arrive {P : AD → Prop} {H : Nat} {S N M : Nat} {ow0 : OW} {h0 : AH} (w : WD ad ow K h) (g : CI ad K h.2.2.2.1 C A I F Ls cp) (b : RB C A) (lt : LT C A Ls) (fo : Fo ow0 h0 ow h) (ib : IB C Ls cp) (pt : PT S N h cp) (jw : JB C Ls cp 20 M) (jc : JB C Ls cp 21 M) (hb : HB C Ls cp H) (tb : TB C Ls cp) (hP : ∀ ad' : AD, (∀ k i, (k ≠ 7 ∨ i < (C 5).toNat) → k ≠ 10 → ad' k i = ad k i) → P ad') {q s t : Nat} (hq : q < (C 5).toNat) (hs : s < (C 1).toNat) (et : (A 19 q).toNat = t) (ht : t < (C 3).toNat) (hso : inR (I 2 q)) (hM1 : M + (Ls (500 + 2 * t)).length < 80000) (hM2 : M + (Ls (501 + 2 * t)).length < 80000) (h13 : A 4 t = 3 → A 13 (6 * (A 3 t).toNat + (A 3 t).toNat) < 500) (h6 : C 6 < 1000) (h5 : C 5 + 6 ≤ 15000) (hd : A 4 t = 3 → 0 ≤ I 0 t ∧ I 0 t ≤ 100) (hH : H < 80000) (k : ∀ p h', arvP C A I Ls s t (I 2 q) (A 16 q) p → WX P ow0 h0 (S + 18) (N + (Ls (500 + 2 * t)).length + (Ls (501 + 2 * t)).length + 12) (M + (Ls (500 + 2 * t)).length + (Ls (501 + 2 * t)).length) (H + 1) p h' → Q (.inl none) h') : Rn 83 0 (entL 83 [aR (ad 0 0), aR (ad 7 q), aR (ad 2 s)]) [] h Q := by
  show Rn 83 0 [some (aR (ad 0 0)), some (aR (ad 7 q)), some (aR (ad 2 s)), none] [] h Q
  have b1 := b.c1
  have b33 := b.c3
  have b16 := b.v16 q
  have a3 := g.a3 ht
  have b3 := b.v3 t
  have hbs := hb s hs
  refine x_aload_n k_83_0 rfl ?_
  refine x_get k_83_1 (w.at (g.ms hq)) rfl ?_
  rw [et]
  refine x_as3n k_83_4 rfl ?_
  refine x_aload_n k_83_5 rfl ?_
  refine x_get k_83_6 (w.at (g.ms hq)) rfl ?_
  by_cases x1 : I 2 q = 1
  · refine x_tabIn (o := 31) (t := 40) k_83_9 hso (by omega) (by rw [x1]; rfl) rfl ?_
    refine x_aload_n k_83_40 rfl ?_
    refine x_aload_n k_83_41 rfl ?_
    refine x_aload_n k_83_42 rfl ?_
    refine x_call3 k_83_43 (Nat.le_of_ble_eq_true rfl) (rcv_1 (w.at g.store)) (Nat.le_of_ble_eq_true rfl) ?_
    refine k_answer w g b lt fo ib pt ht hs (fun hc ad' ow' K' cp' h' q1 q2 q3 q4 q5 q6 q7 q8 => bh_v ?_) (fun hc ad' ow' K' cp' h' q1 q2 q3 q4 q5 q6 q7 q8 => bh_v ?_)
    · refine x_goto (t := 82) k_83_46 rfl ?_
      refine x_return k_83_82 ?_
      exact k _ h' (Or.inl ⟨x1, hc, rfl⟩) (WX.mono (sndX (A := A) (A1 := A) (so := 3) b rfl a3 b3.1 (by omega) (by decide) (by omega) h5 jw jc hb tb hP q1 q2 q3 q4 q5 q6 q7 q8) (by omega) (by omega) (by omega) (by omega))
    · refine x_goto (t := 82) k_83_46 rfl ?_
      refine x_return k_83_82 ?_
      exact k _ h' (Or.inr (Or.inl ⟨x1, hc, rfl⟩)) (WX.mono (sndX (A := A) (so := 2) (b.s1 (lkF_b b (by omega))) rfl a3 b3.1 (by omega) (by decide) (by omega) h5 jw jc hb tb hP q1 q2 q3 q4 q5 q6 q7 q8) (by omega) (by omega) (by omega) (by omega))
  by_cases x2 : I 2 q = 2
  · refine x_tabIn (o := 40) (t := 49) k_83_9 hso (by omega) (by rw [x2]; rfl) rfl ?_
    refine x_aload_n k_83_49 rfl ?_
    refine x_aload_n k_83_50 rfl ?_
    refine x_call2 k_83_51 (Nat.le_of_ble_eq_true rfl) (rcv_1 (w.at g.store)) (Nat.le_of_ble_eq_true rfl) ?_
    refine k_hearYes w g b lt fo ib pt jw jc ht hM1 hM2 h13 h6 h5 hd (fun hc => bh_v ?_) (fun hc hz K' h' q1 q2 q3 e1 => bh_v ?_) (fun hc hz ad' ow' K' F' cp' h' q1 q2 q3 q4 q5 q6 q7 q8 q9 q10 => bh_v ?_)
    · refine x_goto (t := 82) k_83_54 rfl ?_
      refine x_return k_83_82 ?_
      exact k _ h (Or.inr (Or.inr (Or.inl ⟨x2, hc, rfl⟩))) (WX.mono (sameX b b lt ib jw jc hb tb hP w g fo pt) (by omega) (by omega) (by omega) (by omega))
    · refine x_goto (t := 82) k_83_54 rfl ?_
      refine x_return k_83_82 ?_
      exact k _ h' (Or.inr (Or.inr (Or.inr (Or.inl ⟨x2, hc, hz, rfl⟩)))) (WX.mono (sameX b b lt ib jw jc hb tb hP q1 q3 q2 (by unfold PT; rw [e1]; exact pt)) (by omega) (by omega) (by omega) (by omega))
    · refine x_goto (t := 82) k_83_54 rfl ?_
      refine x_return k_83_82 ?_
      exact k _ h' (Or.inr (Or.inr (Or.inr (Or.inr (Or.inl ⟨x2, hc, hz, rfl⟩))))) (WX.mono (mkX b lt ht (h13 hc) h6 h5 hb tb hP q1 q2 q3 q4 q5 q6 q7 (q8.mono (Nat.le_add_right _ (Ls (501 + 2 * t)).length)) (q9.mono (by omega)) q10) (by omega) (by omega) (by omega) (by omega))
  by_cases x3 : I 2 q = 3
  · refine x_tabIn (o := 48) (t := 57) k_83_9 hso (by omega) (by rw [x3]; rfl) rfl ?_
    refine x_aload_n k_83_57 rfl ?_
    refine x_aload_n k_83_58 rfl ?_
    refine x_aload_n k_83_59 rfl ?_
    refine x_get k_83_60 (w.at (g.ms hq)) rfl ?_
    refine x_call3 k_83_63 (Nat.le_of_ble_eq_true rfl) (rcv_1 (w.at g.store)) (Nat.le_of_ble_eq_true rfl) ?_
    refine k_hearNo w g b lt fo ib pt ht (by show inR (A 16 q); omega) h5 (fun hc => bh_v ?_) (fun hc ad' ow' K' cp' h' q1 q2 q3 q4 q5 q6 q7 q8 => bh_v ?_)
    · refine x_goto (t := 82) k_83_66 rfl ?_
      refine x_return k_83_82 ?_
      exact k _ h (Or.inr (Or.inr (Or.inr (Or.inr (Or.inr (Or.inl ⟨x3, hc, rfl⟩)))))) (WX.mono (sameX b b lt ib jw jc hb tb hP w g fo pt) (by omega) (by omega) (by omega) (by omega))
    · refine x_goto (t := 82) k_83_66 rfl ?_
      refine x_return k_83_82 ?_
      have bA : RB C (up A 4 (up (A 4) t 2)) := b.t4 ⟨by omega, by omega⟩
      exact k _ h' (Or.inr (Or.inr (Or.inr (Or.inr (Or.inr (Or.inr (Or.inl ⟨x3, hc, rfl⟩))))))) (WX.mono (bclX (bA.s1 (ukF_b bA)) (by omega) b3 (by decide) h5 jw jc hb tb hP q1 q2 q3 q4 q5 q6 q7 q8) (by omega) (by omega) (by omega) (by omega))
  by_cases x4 : I 2 q = 4
  · refine x_tabIn (o := 60) (t := 69) k_83_9 hso (by omega) (by rw [x4]; rfl) rfl ?_
    refine x_aload_n k_83_69 rfl ?_
    refine x_aload_n k_83_70 rfl ?_
    refine x_call2 k_83_71 (Nat.le_of_ble_eq_true rfl) (rcv_1 (w.at (g.tran ht))) (Nat.le_of_ble_eq_true rfl) ?_
    refine k_unlockAt w g fo b lt ht hs (fun K' h' q1 q2 q3 e1 => bh_v ?_)
    refine x_goto (t := 82) k_83_74 rfl ?_
    refine x_return k_83_82 ?_
    exact k _ h' (Or.inr (Or.inr (Or.inr (Or.inr (Or.inr (Or.inr (Or.inr (Or.inl ⟨x4, rfl⟩)))))))) (WX.mono (sameX b (b.s1 (ukF_b b)) lt ib jw jc hb tb hP q1 q2 q3 (by unfold PT; rw [e1]; exact pt)) (by omega) (by omega) (by omega) (by omega))
  refine x_tabOut (t := 77) k_83_9 hso (by omega) rfl ?_
  refine x_aload_n k_83_77 rfl ?_
  refine x_aload_n k_83_78 rfl ?_
  refine x_call2 k_83_79 (Nat.le_of_ble_eq_true rfl) (rcv_1 (w.at (g.site hs))) (Nat.le_of_ble_eq_true rfl) ?_
  refine k_receive w g b fo lt ht hs (by omega) (by omega) (fun hc n A' Ls' K' F' h' q0 q1 q2 q3 q4 q5 e1 => bh_v ?_) (fun hc ad' ow' K' h' c' wa q2 => bh_v ?_)
  · refine x_return k_83_82 ?_
    refine k _ h' (Or.inr (Or.inr (Or.inr (Or.inr (Or.inr (Or.inr (Or.inr (Or.inr (Or.inl ⟨by omega, hc, n, A', Ls', q0, rfl⟩))))))))) (WX.mono (heldX b ib jw jc hb tb hP (by omega) (clsP_e q0) q1 q2 q3 q4 q5 (by unfold PT; rw [e1]; exact pt)) (by omega) (by omega) (by omega) (by omega))
  · refine x_return k_83_82 ?_
    exact k _ h' (Or.inr (Or.inr (Or.inr (Or.inr (Or.inr (Or.inr (Or.inr (Or.inr (Or.inr (⟨by omega, hc, rfl⟩)))))))))) (WX.mono (holdX g b lt hs ht fo ib pt jw jc hb tb hP wa q2) (by omega) (by omega) (by omega) (by omega))
end C27
