section C36
variable {ad : AD} {ow : OW} {K : KK} {h : AH} {C : Nat → Int} {A I : Nat → Nat → Int} {F : Nat → Nat → Nat → Int} {Ls : Nat → List Nat} {cp : Nat → Nat} {Q : AR → AH → Prop}
theorem i_tally {a : Nat} {f1 f2 f3 : AV} (he : h.1 a = some (.inr (1, [f1, f2, f3]))) (ha : a < h.2.1) (k : Q (.inl none) (hput (hnew (hnew h (.inl (0, 16, .inl (fun _ => 0))) 16) (.inl (0, 16, .inl (fun _ => 0))) 16) a (.inr (1, [aR h.2.1, aR (h.2.1 + 1), f3])))) : Rn 4 0 (entL 4 [aR a]) [] h Q := by
  show Rn 4 0 [some (aR a)] [] h Q
  refine x_aload_n k_4_0 rfl ?_
  refine x_oinit k_4_1 (Nat.le_of_ble_eq_true rfl) ?_
  refine x_aload_n k_4_4 rfl ?_
  refine x_bipush k_4_5 ?_
  refine x_newa_int k_4_7 (by decide) ?_
  refine x_put k_4_9 ((hnew_n (Nat.ne_of_lt ha)).trans he) (Nat.le_of_ble_eq_true rfl) rfl ?_
  refine x_aload_n k_4_12 rfl ?_
  refine x_bipush k_4_13 ?_
  refine x_newa_int k_4_15 (by decide) ?_
  rw [hput_hnew (Nat.ne_of_lt (Nat.lt_succ_of_lt ha))]
  refine x_put k_4_17 hput_s (Nat.le_of_ble_eq_true rfl) rfl ?_
  rw [hput_put]
  refine x_return k_4_20 ?_
  exact k
def cp0 : Nat → Nat := fun i => if i = 2000 then 16 else 0
theorem csum_0 : ∀ n, n ≤ 2000 → csum cp0 n = 0 := by
  intro n
  induction n with
  | zero => intro _; rfl
  | succ n ih =>
    intro hn
    show csum cp0 n + cp0 n = 0
    rw [ih (by omega)]
    unfold cp0
    rw [if_neg (by omega)]
theorem k_init (w : WD ad ow K h) (hK : ∀ k i, ¬ (k = 0 ∧ i = 0) → K k i = none) (he : K 0 0 = some (.inr (0, [aN, aN, aN, aN, aI 0, aI 0]))) (hC : C 1 = 0 ∧ C 2 = 0 ∧ C 3 = 0 ∧ C 5 = 0 ∧ C 6 = 0) (b : RB C A) (hI : I 3 0 = 0 ∧ I 4 0 = 0) {M H : Nat} (k : ∀ h', WX (fun ad' => ad' 0 0 = ad 0 0) ow h (h.2.2.1 + 41) (h.2.1 + 6) M H (C, A, I, fun _ => []) h' → Q (.inl none) h') : Rn 0 0 (entL 0 [aR (ad 0 0)]) [] h Q := by
  show Rn 0 0 [some (aR (ad 0 0))] [] h Q
  have hc := w.at he
  have ha : ad 0 0 < h.2.1 := (w.1 _ _ _ he).2.2
  obtain ⟨a, ea⟩ : ∃ a, a = ad 0 0 := ⟨_, rfl⟩
  obtain ⟨x0, ex⟩ : ∃ x, x = h.2.1 := ⟨_, rfl⟩
  rw [← ea] at hc ha ⊢
  rw [← ex] at ha
  obtain ⟨z, ez⟩ : ∃ z, z = h.2.2.2.1 := ⟨_, rfl⟩
  refine x_aload_n k_0_0 rfl ?_
  refine x_oinit k_0_1 (Nat.le_of_ble_eq_true rfl) ?_
  refine x_aload_n k_0_4 rfl ?_
  refine x_iconst k_0_5 ?_
  refine x_anew k_0_6 (by decide) ?_
  refine x_put k_0_9 ((hnew_n (by rw [← ex]; exact Nat.ne_of_lt ha)).trans hc) (Nat.le_of_ble_eq_true rfl) rfl ?_
  refine x_aload_n k_0_12 rfl ?_
  refine x_newl k_0_13 k_0_16 k_0_17 (Nat.le_of_ble_eq_true rfl) ?_
  rw [hput_hnew (by show a ≠ h.2.1 + 1; omega)]
  refine x_put k_0_20 hput_s (Nat.le_of_ble_eq_true rfl) rfl ?_
  rw [hput_put]
  refine x_aload_n k_0_23 rfl ?_
  refine x_newl k_0_24 k_0_27 k_0_28 (Nat.le_of_ble_eq_true rfl) ?_
  rw [hput_hnew (by show a ≠ h.2.1 + 1 + 1; omega)]
  refine x_put k_0_31 hput_s (Nat.le_of_ble_eq_true rfl) rfl ?_
  rw [hput_put]
  refine x_aload_n k_0_34 rfl ?_
  refine x_new k_0_35 ?_
  rw [hput_hnew (by show a ≠ h.2.1 + 1 + 1 + 1; omega)]
  refine x_dup k_0_38 rfl ?_
  refine x_call1 k_0_39 (Nat.le_of_ble_eq_true rfl) rfl (Nat.le_of_ble_eq_true rfl) ?_
  refine i_tally (f1 := aN) (f2 := aN) (f3 := aI 0) ((hput_n (by show h.2.1 + 1 + 1 + 1 ≠ a; omega)).trans hnew_s) (Nat.lt_succ_self _) (bh_v ?_)
  have hf : (hput (hnew (hnew (hput (hnew (hnew (hnew (hnew h (.inl (3, 0, .inr (.inr (fun _ => none)))) 0) (lcell z 0 0) 3) (lcell z 0 0) 3) (.inr (1, [aN, aN, aI 0])) 3) a (.inr (0, [aR x0, aR (x0 + 1), aR (x0 + 1 + 1), aN, aI 0, aI 0]))) (.inl (0, 16, .inl (fun _ => 0))) 16) (.inl (0, 16, .inl (fun _ => 0))) 16) (x0 + 1 + 1 + 1) (.inr (1, [aR (x0 + 1 + 1 + 1 + 1), aR (x0 + 1 + 1 + 1 + 1 + 1), aI 0]))).1 a = some (.inr (0, [aR x0, aR (x0 + 1), aR (x0 + 1 + 1), aN, aI 0, aI 0])) := by
    rw [hput_n (by omega), hnew_n (by show a ≠ h.2.1 + 1 + 1 + 1 + 1 + 1; omega), hnew_n (by show a ≠ h.2.1 + 1 + 1 + 1 + 1; omega)]
    exact hput_s
  rw [ex, ez] at hf
  refine x_put k_0_42 hf (Nat.le_of_ble_eq_true rfl) rfl ?_
  refine x_return k_0_45 ?_
  refine k _ ?_
  obtain ⟨lc, elc⟩ : ∃ e : AE, e = lcell h.2.2.2.1 0 0 := ⟨_, rfl⟩
  obtain ⟨rc, erc⟩ : ∃ e : AE, e = .inl (3, 0, .inr (.inr (fun _ => none))) := ⟨_, rfl⟩
  obtain ⟨ic, eic⟩ : ∃ e : AE, e = .inl (0, 16, .inl (fun _ => 0)) := ⟨_, rfl⟩
  obtain ⟨tc, etc⟩ : ∃ e : AE, e = .inr (1, [aR (h.2.1 + 1 + 1 + 1 + 1), aR (h.2.1 + 1 + 1 + 1 + 1 + 1), aI 0]) := ⟨_, rfl⟩
  obtain ⟨s1, es1⟩ : ∃ e : AE, e = .inr (0, [aR h.2.1, aR (h.2.1 + 1), aR (h.2.1 + 1 + 1), aN, aI 0, aI 0]) := ⟨_, rfl⟩
  obtain ⟨s2, es2⟩ : ∃ e : AE, e = .inr (0, [aR h.2.1, aR (h.2.1 + 1), aR (h.2.1 + 1 + 1), aR (h.2.1 + 1 + 1 + 1), aI 0, aI 0]) := ⟨_, rfl⟩
  show WX _ _ _ _ _ _ _ _ (hput (hput (hnew (hnew (hput (hnew (hnew (hnew (hnew h (.inl (3, 0, .inr (.inr (fun _ => none)))) 0) (lcell h.2.2.2.1 0 0) 3) (lcell h.2.2.2.1 0 0) 3) (.inr (1, dfl 1)) 3) a (.inr (0, [aR h.2.1, aR (h.2.1 + 1), aR (h.2.1 + 1 + 1), aN, aI 0, aI 0]))) (.inl (0, 16, .inl (fun _ => 0))) 16) (.inl (0, 16, .inl (fun _ => 0))) 16) (h.2.1 + 1 + 1 + 1) (.inr (1, [aR (h.2.1 + 1 + 1 + 1 + 1), aR (h.2.1 + 1 + 1 + 1 + 1 + 1), aI 0]))) a (.inr (0, [aR h.2.1, aR (h.2.1 + 1), aR (h.2.1 + 1 + 1), aR (h.2.1 + 1 + 1 + 1), aI 0, aI 0])))
  rw [← elc, ← erc, ← eic, ← etc, ← es1, ← es2]
  obtain ⟨adA, eadA⟩ : ∃ f : AD, f = qd (qd (qd (qd ad 14 0 h.2.1) 8 0 (h.2.1 + 1)) 8 1 (h.2.1 + 1 + 1)) 1 0 (h.2.1 + 1 + 1 + 1) := ⟨_, rfl⟩
  obtain ⟨owA, eowA⟩ : ∃ f : OW, f = up (up (up (up ow h.2.1 (14, 0)) (h.2.1 + 1) (8, 0)) (h.2.1 + 1 + 1) (8, 1)) (h.2.1 + 1 + 1 + 1) (1, 0) := ⟨_, rfl⟩
  obtain ⟨KA, eKA⟩ : ∃ f : KK, f = p2 (p2 (p2 (p2 K 14 0 rc) 8 0 lc) 8 1 lc) 1 0 (.inr (1, dfl 1)) := ⟨_, rfl⟩
  obtain ⟨hA, ehA⟩ : ∃ f : AH, f = hnew (hnew (hnew (hnew h rc 0) lc 3) lc 3) (.inr (1, dfl 1)) 3 := ⟨_, rfl⟩
  have wA : WD adA owA KA hA := by
    rw [eadA, eowA, eKA, ehA]
    exact (((w.new (k := 14) (i := 0) (e := rc) (c := 0) (by decide)).new (k := 8) (i := 0) (e := lc) (c := 3) (by decide)).new (k := 8) (i := 1) (e := lc) (c := 3) (by decide)).new (k := 1) (i := 0) (e := .inr (1, dfl 1)) (c := 3) (by decide)
  have foA : Fo ow h owA hA := by
    rw [eowA, ehA]
    exact Fo.new.tr (Fo.new.tr (Fo.new.tr Fo.new))
  have a0 : adA 0 0 = a := by rw [eadA, qd_n (by omega), qd_n (by omega), qd_n (by omega), qd_n (by omega)]; exact ea.symm
  have kA0 : KA 0 0 = some (.inr (0, [aN, aN, aN, aN, aI 0, aI 0])) := by rw [eKA, p2_n (by omega), p2_n (by omega), p2_n (by omega), p2_n (by omega)]; exact he
  have wB : WD adA owA (p2 KA 0 0 s1) (hput hA a s1) := by
    have := wA.put (e := s1) kA0
    rw [a0] at this
    exact this
  have foB : Fo ow h owA (hput hA a s1) := by
    have := foA.tr (Fo.put (e := s1) wA kA0)
    rw [a0] at this
    exact this
  have xA : (hput hA a s1).2.1 = h.2.1 + 1 + 1 + 1 + 1 := by rw [ehA]; rfl
  have wC := (wB.new (k := 13) (i := 0) (e := ic) (c := 16) (by decide)).new (k := 13) (i := 1) (e := ic) (c := 16) (by decide)
  have foC := foB.tr ((Fo.new (k := 13) (i := 0) (e := ic) (c := 16)).tr (Fo.new (k := 13) (i := 1) (e := ic) (c := 16)))
  have xB : (hnew (hput hA a s1) ic 16).2.1 = h.2.1 + 1 + 1 + 1 + 1 + 1 := by rw [ehA]; rfl
  rw [xA, xB] at wC
  rw [xA, xB] at foC
  obtain ⟨adC, eadC⟩ : ∃ f : AD, f = qd (qd adA 13 0 (h.2.1 + 1 + 1 + 1 + 1)) 13 1 (h.2.1 + 1 + 1 + 1 + 1 + 1) := ⟨_, rfl⟩
  obtain ⟨owC, eowC⟩ : ∃ f : OW, f = up (up owA (h.2.1 + 1 + 1 + 1 + 1) (13, 0)) (h.2.1 + 1 + 1 + 1 + 1 + 1) (13, 1) := ⟨_, rfl⟩
  obtain ⟨KC, eKC⟩ : ∃ f : KK, f = p2 (p2 (p2 KA 0 0 s1) 13 0 ic) 13 1 ic := ⟨_, rfl⟩
  obtain ⟨hC', ehC⟩ : ∃ f : AH, f = hnew (hnew (hput hA a s1) ic 16) ic 16 := ⟨_, rfl⟩
  rw [← eadC, ← eowC, ← eKC, ← ehC] at wC
  rw [← eowC, ← ehC] at foC
  rw [← ehA, ← ehC]
  have c1 : KC 1 0 = some (.inr (1, dfl 1)) := by rw [eKC, p2_n (by omega), p2_n (by omega), p2_n (by omega), eKA]; exact p2_s
  have c0 : KC 0 0 = some s1 := by rw [eKC, p2_n (by omega), p2_n (by omega)]; exact p2_s
  have d1 : adC 1 0 = h.2.1 + 1 + 1 + 1 := by rw [eadC, qd_n (by omega), qd_n (by omega), eadA]; exact qd_s
  have d0 : adC 0 0 = a := by rw [eadC, qd_n (by omega), qd_n (by omega)]; exact a0
  have wD : WD adC owC (p2 KC 1 0 tc) (hput hC' (h.2.1 + 1 + 1 + 1) tc) := by
    have := wC.put (e := tc) c1
    rw [d1] at this
    exact this
  have foD : Fo ow h owC (hput hC' (h.2.1 + 1 + 1 + 1) tc) := by
    have := foC.tr (Fo.put (e := tc) wC c1)
    rw [d1] at this
    exact this
  have c0' : p2 KC 1 0 tc 0 0 = some s1 := by rw [p2_n (by omega)]; exact c0
  have wE : WD adC owC (p2 (p2 KC 1 0 tc) 0 0 s2) (hput (hput hC' (h.2.1 + 1 + 1 + 1) tc) a s2) := by
    have := wD.put (e := s2) c0'
    rw [d0] at this
    exact this
  have foE : Fo ow h owC (hput (hput hC' (h.2.1 + 1 + 1 + 1) tc) a s2) := by
    have := foD.tr (Fo.put (e := s2) wD c0')
    rw [d0] at this
    exact this
  obtain ⟨hc1, hc2, hc3, hc5, hc6⟩ := hC
  have n1 : (C 1).toNat = 0 := by rw [hc1]; rfl
  have n2 : (C 2).toNat = 0 := by rw [hc2]; rfl
  have n3 : (C 3).toNat = 0 := by rw [hc3]; rfl
  have n5 : (C 5).toNat = 0 := by rw [hc5]; rfl
  have d14 : adC 14 0 = h.2.1 := by rw [eadC, qd_n (by omega), qd_n (by omega), eadA, qd_n (by omega), qd_n (by omega), qd_n (by omega)]; exact qd_s
  have d80 : adC 8 0 = h.2.1 + 1 := by rw [eadC, qd_n (by omega), qd_n (by omega), eadA, qd_n (by omega), qd_n (by omega)]; exact qd_s
  have d81 : adC 8 1 = h.2.1 + 1 + 1 := by rw [eadC, qd_n (by omega), qd_n (by omega), eadA, qd_n (by omega)]; exact qd_s
  have d130 : adC 13 0 = h.2.1 + 1 + 1 + 1 + 1 := by rw [eadC, qd_n (by omega)]; exact qd_s
  have d131 : adC 13 1 = h.2.1 + 1 + 1 + 1 + 1 + 1 := by rw [eadC]; exact qd_s
  have k14 : p2 (p2 KC 1 0 tc) 0 0 s2 14 0 = some rc := by rw [p2_n (by omega), p2_n (by omega), eKC, p2_n (by omega), p2_n (by omega), p2_n (by omega), eKA, p2_n (by omega), p2_n (by omega), p2_n (by omega)]; exact p2_s
  have k80 : p2 (p2 KC 1 0 tc) 0 0 s2 8 0 = some lc := by rw [p2_n (by omega), p2_n (by omega), eKC, p2_n (by omega), p2_n (by omega), p2_n (by omega), eKA, p2_n (by omega), p2_n (by omega)]; exact p2_s
  have k81 : p2 (p2 KC 1 0 tc) 0 0 s2 8 1 = some lc := by rw [p2_n (by omega), p2_n (by omega), eKC, p2_n (by omega), p2_n (by omega), p2_n (by omega), eKA, p2_n (by omega)]; exact p2_s
  have k1 : p2 (p2 KC 1 0 tc) 0 0 s2 1 0 = some tc := by rw [p2_n (by omega)]; exact p2_s
  have k130 : p2 (p2 KC 1 0 tc) 0 0 s2 13 0 = some ic := by rw [p2_n (by omega), p2_n (by omega), eKC, p2_n (by omega)]; exact p2_s
  have k131 : p2 (p2 KC 1 0 tc) 0 0 s2 13 1 = some ic := by rw [p2_n (by omega), p2_n (by omega), eKC]; exact p2_s
  have zE : (hput (hput hC' (h.2.1 + 1 + 1 + 1) tc) a s2).2.2.2.1 = h.2.2.2.1 := by rw [ehC, ehA]; rfl
  have l0 : cp0 2000 = 16 := rfl
  refine ⟨adC, owC, _, fun _ _ _ => 0, cp0, d0.trans ea, wE, ?_, b, ⟨fun t k ht => absurd ht (by show ¬ t < (C 3).toNat; omega), fun t k ht => absurd ht (by show ¬ t < (C 3).toNat; omega), fun t k ht => absurd ht (by show ¬ t < (C 2).toNat; omega), fun t k ht => absurd ht (by show ¬ t < (C 2).toNat; omega), fun t k ht => absurd ht (by show ¬ t < (C 1).toNat; omega), fun t k ht => absurd ht (by show ¬ t < (C 1).toNat; omega)⟩, foE, fun t ht => absurd ht (by show ¬ t < (C 1).toNat; omega), ⟨?_, ?_⟩, ⟨fun t ht => absurd ht (by show ¬ t < (C 2).toNat; omega), fun t ht => absurd ht (by show ¬ t < (C 2).toNat; omega)⟩, fun t ht => absurd ht (by show ¬ t < (C 1).toNat; omega), Nat.zero_le _, Nat.zero_le _, fun i h1 h2 => absurd h2 (by show ¬ i < 500 + 2 * (C 3).toNat; omega), fun i h1 h2 => ?_, (show cp0 2000 ≤ 1024 by rw [l0]; decide)⟩
  · rw [zE]
    show CI adC (p2 (p2 KC 1 0 tc) 0 0 s2) h.2.2.2.1 C A I (fun _ _ _ => 0) (fun _ => []) cp0
    unfold CI
    rw [n1, n2, n3, n5]
    refine ⟨?_, ⟨fun _ => none, by rw [k14, erc], fun s hs => absurd hs (by omega)⟩, fun s hs => absurd hs (by omega), fun s hs => absurd hs (by omega), fun s hs => absurd hs (by omega), fun s hs => absurd hs (by omega), fun s hs => absurd hs (by omega), fun s k hs => absurd hs (by omega), fun s k hs => absurd hs (by omega), fun s hs => absurd hs (by omega), fun id hi => ?_, ⟨?_, ?_, ?_, by rw [l0]; exact Nat.le_refl _⟩, rfl, rfl, fun s u hs => absurd hs (by omega), fun s u hs => absurd hs (by omega), fun s hs => absurd hs (by omega)⟩
    · rw [p2_s, es2]
      unfold sCell
      rw [d14, d80, d81, d1, hI.1, hc6]
    · have h01 : id = 0 ∨ id = 1 := by unfold lvl at hi; omega
      have h8 : p2 (p2 KC 1 0 tc) 0 0 s2 8 id = some (lcell h.2.2.2.1 0 0) := by
        rcases h01 with rfl | rfl
        · rw [k80, elc]
        · rw [k81, elc]
      have hcp : cp0 id = 0 := by unfold cp0; rw [if_neg (by omega)]
      rw [hcp]
      refine ⟨0, fun _ => none, ?_, fun q => absurd rfl q, Nat.le_refl _, Or.inl rfl, by decide, fun j x hx => ?_, fun x hx => ?_⟩
      · rw [h8]; rfl
      · exact absurd hx (by simp)
      · exact absurd hx (List.not_mem_nil)
    · rw [k1, etc]
      unfold tyCell
      rw [d130, d131, hI.2]
    · rw [k130, eic, l0]; rfl
    · rw [k131, eic, l0]; rfl
  · show (hput (hput hC' (h.2.1 + 1 + 1 + 1) tc) a s2).2.2.1 ≤ _
    rw [ehC, ehA, csum_0 1500 (by decide)]
    show h.2.2.1 + 0 + 3 + 3 + 3 + 16 + 16 ≤ h.2.2.1 + 41 + 4 * 0
    omega
  · show (hput (hput hC' (h.2.1 + 1 + 1 + 1) tc) a s2).2.1 ≤ _
    rw [ehC, ehA]
    show h.2.1 + 1 + 1 + 1 + 1 + 1 + 1 ≤ h.2.1 + 6
    omega
  · unfold cp0
    rw [if_neg (by omega)]
end C36
