section P15
variable {C C' : Nat → Int} {A A' B B' I I' : Nat → Nat → Int} {Ls Ls' : Nat → List Nat} {n : Nat}
/-- deliver: the class and the reference do the same -/
theorem dlv_step {d j x k a : Nat} {p : CB} (v : IV n C A I Ls) (hd : d < (C 1).toNat) (h55 : C 5 + 6 ≤ 15000) (hj : (Ls (3 + 2 * d))[j]? = some x) (hno : nof (Ls (3 + 2 * d)) (fun q => A 16 q = a) j) (h16 : A 16 x = a) (hp : arvP C A I (up Ls (3 + 2 * d) ((Ls (3 + 2 * d)).eraseIdx j)) d (A 19 x).toNat (I 2 x) (A 16 x) p) (hk : k < (C 5).toNat) (hk1 : ∀ q, q < k → ¬ wtq A a d q) (hk2 : wtq A a d k) (ha : arrP C (up A 18 (up (A 18) k 0)) (A 18 k) (A 19 k).toNat (A 3 (A 19 k).toNat).toNat a d C' A') : I 2 x = A 18 k ∧ C' = p.1 ∧ SmA p.2.1 A' ∧ IV (n + 1) C' A' p.2.2.1 p.2.2.2 := by
  have v0 := v
  obtain ⟨ek, hx, h18, h17⟩ := msg_eq v.2.2.2.2.2.2.2.1 hd hj hno h16 hk hk1 hk2
  subst ek
  obtain ⟨t, et⟩ : ∃ t, t = (A 19 k).toNat := ⟨_, rfl⟩
  have m19 := (v.2.2.2.2.2.2.2.1.2.1 k hx).1
  have e19 : A 19 k = t := by omega
  obtain ⟨ix, h5c, m, ht, W⟩ := v.rm hd hj hx h18 h17 e19
  rw [← et] at hp ha
  obtain ⟨A1, eA1⟩ : ∃ f : Nat → Nat → Int, f = up A 18 (up (A 18) k 0) := ⟨_, rfl⟩
  obtain ⟨L1, eL1⟩ : ∃ f : Nat → List Nat, f = up Ls (3 + 2 * d) ((Ls (3 + 2 * d)).eraseIdx j) := ⟨_, rfl⟩
  have o : ∀ q, ¬ q = 18 → A1 q = A q := fun q hq => by rw [eA1]; exact up_n hq
  have sm : SmA A A1 := fun q _ _ _ _ h _ _ => (o q h).symm
  obtain ⟨m1, m2, m3, m4, m5, m6, m7, m8, m9, m10⟩ := m
  have e19t : (A 19 k).toNat = t := et.symm
  rw [e19t] at m6 m7 m8 m9 m10
  rw [← eA1] at ix h5c W ha
  rw [← eL1] at ix hp
  refine ⟨m5, ?_⟩
  rw [m5] at hp
  obtain ⟨b, g1, g2, g3, g4, g5, gw, g6, g7, g8⟩ := ix
  have ix : IX n (fun y => y = t) C A1 I L1 := ⟨b, g1, g2, g3, g4, g5, gw, g6, g7, g8⟩
  have b1 := b.c1
  have A10 : A1 0 = A 0 := o 0 (by decide)
  have A11 : A1 1 = A 1 := o 1 (by decide)
  have A13' : A1 3 = A 3 := o 3 (by decide)
  have A14' : A1 4 = A 4 := o 4 (by decide)
  have A15' : A1 5 = A 5 := o 5 (by decide)
  have A17' : A1 7 = A 7 := o 7 (by decide)
  have A18' : A1 8 = A 8 := o 8 (by decide)
  have A110 : A1 10 = A 10 := o 10 (by decide)
  have A116 : A1 16 = A 16 := o 16 (by decide)
  have A121 : A1 21 = A 21 := o 21 (by decide)
  have L500 : L1 (500 + 2 * t) = Ls (500 + 2 * t) := by rw [eL1]; exact up_n (by omega)
  have ew : ∀ o', Wt A1 L1 t o' ↔ Wt A Ls t o' := fun o' => by unfold Wt; rw [A110, L500]
  have ha3 := g3.2.2.2.2.2.2.1 t ht
  rw [A13'] at ha3
  rcases (show A 18 k = 1 ∨ A 18 k = 2 ∨ A 18 k = 3 ∨ A 18 k = 4 ∨ A 18 k = 5 by omega) with so | so | so | so | so
  · -- an ask
    have h4 : A1 4 t = 2 ∨ A1 4 t = 3 := by rw [A14']; exact m6 (by omega)
    have ea : A1 3 t = a := by rw [A13', ← m9 (by omega)]; exact h16
    have hne : ¬ a = d := fun e => m3 (by omega)
    have hla : a < (C 1).toNat := by omega
    have h5 := ab_5 b g4 ht h4
    have ea' : (A 3 t).toNat = a := by rw [← A13', ea]; omega
    have cf : (∃ y, y ∈ L1 (500 + 2 * t) ∧ (fun q => A 0 (A 10 q).toNat = d ∧ hcf A L1 (A 10 q).toNat t d) y) ↔ acfP C A1 t d := by
      have := acf_iff (s := d) b g1 g2 ht h5
      rw [eA1] at this ⊢
      exact this
    have wq : Wq C A1 I L1 t d := by
      intro h3
      rw [A14'] at h3
      obtain ⟨q1, q2, q3, q4⟩ := W h3
      rw [pI_y (show A 18 k ≤ 3 by omega)] at q2
      rw [A18', A17']
      refine ⟨q1, q2, q3, fun o' ho hw hpp => ?_⟩
      rw [A10, A13'] at hpp
      rw [A11]
      refine q4 o' ho ((ew o').mp hw) (hpp.imp id (fun z => ⟨fun zz => ?_, ?_⟩))
      · rcases zz.2 with y | y
        · exact z.1 (by rw [← y.2]; exact h17)
        · omega
      · exact z.2
    have smL : SmA (sndA C A d a 3 t) (sndA C A1 d a 3 t) := snd_sm sm
    rcases hp with ⟨s1, c1, e⟩ | ⟨s1, c1, e⟩ | ⟨s1, _⟩ | ⟨s1, _⟩ | ⟨s1, _⟩ | ⟨s1, _⟩ | ⟨s1, _⟩ | ⟨s1, _⟩ | ⟨s1, _⟩ | ⟨s1, _⟩
    · rcases ha with ⟨_, r2, r3, r4⟩ | ⟨_, r2, _⟩ | ⟨r1, _⟩ | ⟨r1, _⟩ | ⟨r1, _⟩ | ⟨r1, _⟩ | ⟨r1, _⟩ | ⟨r1, _⟩
      · rw [e, r3, r4, ea']
        exact ⟨rfl, smL, ans_no ix wq ht h4 ea hla hd hne h55⟩
      · exact absurd (cf.mp c1) r2
      all_goals omega
    · rcases ha with ⟨_, r2, _⟩ | ⟨_, r2, r3, r4⟩ | ⟨r1, _⟩ | ⟨r1, _⟩ | ⟨r1, _⟩ | ⟨r1, _⟩ | ⟨r1, _⟩ | ⟨r1, _⟩
      · exact absurd (cf.mpr r2) c1
      · rw [e, r3, r4, ea']
        refine ⟨rfl, snd_sm ?_, ans_yes ix wq ht h4 ea hla hd hne r2 h55⟩
        intro q h7 h8 h14 h15 h18 h20 h21
        by_cases e1 : q = 1
        · subst e1
          rw [up_s, up_s, lkF_cg (A' := A) (A := A1) A10.symm A11.symm A110.symm]
          exact lk_eq g1 ht
        · rw [up_n e1, up_n e1]
          exact sm q h7 h8 h14 h15 h18 h20 h21
      all_goals omega
    all_goals omega
  · -- a yes
    have h4 : A1 4 t = 2 ∨ A1 4 t = 3 := by rw [A14']; exact m6 (by omega)
    have ed : A1 3 t = d := by rw [A13', ← m10 (by omega)]; exact h17
    have h5 := ab_5 b g4 ht h4
    have ed' : (A 3 t).toNat = d := by rw [← A13', ed]; omega
    have same : ¬ A 4 t = 3 → IV (n + 1) C A1 I L1 := fun h => IV.nx (ix.v (fun t' _ e => by
      have e : t' = t := e
      rw [e]
      intro h3
      rw [A14'] at h3
      exact absurd h3 h))
    rcases hp with ⟨s1, _⟩ | ⟨s1, _⟩ | ⟨_, c1, e⟩ | ⟨_, c1, c2, e⟩ | ⟨_, c1, c2, e⟩ | ⟨s1, _⟩ | ⟨s1, _⟩ | ⟨s1, _⟩ | ⟨s1, _⟩ | ⟨s1, _⟩
    any_goals omega
    · rcases ha with ⟨r1, _⟩ | ⟨r1, _⟩ | ⟨_, r2, r3, r4⟩ | ⟨_, r2, _⟩ | ⟨_, r2, _⟩ | ⟨r1, _⟩ | ⟨r1, _⟩ | ⟨r1, _⟩
      any_goals omega
      · rw [e, r3, r4]
        exact ⟨rfl, sm, same c1⟩
      · rw [A14'] at r2; exact absurd r2 c1
      · rw [A14'] at r2; exact absurd r2 c1
    all_goals
      obtain ⟨q1, q2, q3, q4⟩ := W c1
      rw [pI_y (show A 18 k ≤ 3 by omega)] at q2
      have c0 : 0 ≤ cM (R3 t) C A1 := (nP_b _ _).1
      have iy := (yes_step ix ht (by rw [A14']; exact c1)).mpr ⟨by rw [A17']; omega, trivial⟩
      have smy : SmA A (yesA A1 t) := fun q h7 h8 h14 h15 h18 h20 h21 => by
        unfold yesA
        rw [up_n h7]
        exact sm q h7 h8 h14 h15 h18 h20 h21
      have q5 : ∀ o', o' < (C 2).toNat → Wt A Ls t o' → (A 0 o' = A 3 t ∨ ∀ q, q < (C 5).toNat → ¬ pnd A1 q t (A 0 o')) → A 1 o' = t := fun o' ho hw hpp => q4 o' ho hw (hpp.imp id (fun z => ⟨fun y => by
        rcases y.2 with y | y
        · omega
        · omega, z⟩))
    · rcases ha with ⟨r1, _⟩ | ⟨r1, _⟩ | ⟨_, r2, _⟩ | ⟨_, _, r3, r4, r5⟩ | ⟨_, _, r3, _⟩ | ⟨r1, _⟩ | ⟨r1, _⟩ | ⟨r1, _⟩
      any_goals omega
      · rw [A14'] at r2; exact absurd c1 r2
      · rw [e, r4, r5]
        refine ⟨rfl, smy, IV.nx (iy.v (fun t' _ e => ?_))⟩
        have e : t' = t := e
        rw [e]
        intro _
        refine ⟨?_, ?_, ?_, fun o' ho hw hpp => ?_⟩
        · show up (I 0) t (I 0 t - 1) t = A1 8 t - up (A1 7) t (A1 7 t + 1) t
          rw [up_s, up_s, A18', A17']
          omega
        · show up (I 0) t (I 0 t - 1) t = cM (R3 t) C A1
          rw [up_s, q2]
        · show 0 ≤ up (A1 7) t (A1 7 t + 1) t ∧ A1 8 t ≤ 6
          rw [up_s, A18', A17']
          omega
        · have hw : Wt A1 L1 t o' := hw
          show A1 1 o' = t
          rw [A11]
          refine q5 o' ho ((ew o').mp hw) (hpp.imp (fun z => ?_) (fun z q hq => ?_))
          · have z : A1 0 o' = A1 3 t := z
            rw [A10, A13'] at z; exact z
          · have := z q hq
            have this : ¬ pnd A1 q t (A1 0 o') := this
            rw [A10] at this; exact this
      · rw [A17', A18'] at r3; omega
    · rcases ha with ⟨r1, _⟩ | ⟨r1, _⟩ | ⟨_, r2, _⟩ | ⟨_, _, r3, _⟩ | ⟨_, _, r3, r4⟩ | ⟨r1, _⟩ | ⟨r1, _⟩ | ⟨r1, _⟩
      any_goals omega
      · rw [A14'] at r2; exact absurd c1 r2
      · rw [A17', A18'] at r3; omega
      · have cz : cM (R3 t) C A1 = 0 := by omega
        have lk : ∀ o', Wt A1 L1 t o' → A1 1 o' = t := fun o' hw => by
          have pl := hw.pl g1 ht
          rw [A11]
          refine q5 o' pl.1 ((ew o').mp hw) (Or.inr (fun q hq hpn => nP_z _ cz q hq ?_))
          show A1 19 q = t ∧ (1 ≤ A1 18 q ∧ A1 18 q ≤ 3)
          refine ⟨hpn.1, ?_⟩
          rcases hpn.2 with y | y
          · have := y.1; omega
          · have := y.1; omega
        rw [e]
        rw [ed'] at r4
        exact mk_all (A := yesA A1 t) (B := A) (s := d) iy smy ht ed h5 (Or.inr (by show A1 4 t = 3; rw [A14']; exact c1)) cz (fun o' c w hc hn wc => (g5.1 o' t (Wt.pl g1 ht w).1 (lk o' w)).2.2 c hc (fun e => by rw [e] at hn; have hn : 0 < A1 5 t := hn; omega) hn wc) (fun o' w => Or.inr (lk o' w)) (fun o' w => Or.inr (lk o' w)) h55 r4
  · -- a no
    have h4 : A1 4 t = 2 ∨ A1 4 t = 3 := by rw [A14']; exact m6 (by omega)
    have ed : A1 3 t = d := by rw [A13', ← m10 (by omega)]; exact h17
    have ed' : (A 3 t).toNat = d := by rw [← A13', ed]; omega
    rcases hp with ⟨s1, _⟩ | ⟨s1, _⟩ | ⟨s1, _⟩ | ⟨s1, _⟩ | ⟨s1, _⟩ | ⟨_, c1, e⟩ | ⟨_, c1, e⟩ | ⟨s1, _⟩ | ⟨s1, _⟩ | ⟨s1, _⟩
    any_goals omega
    · rcases ha with ⟨r1, _⟩ | ⟨r1, _⟩ | ⟨_, r2, r3, r4⟩ | ⟨r1, _⟩ | ⟨r1, _⟩ | ⟨_, r2, _⟩ | ⟨r1, _⟩ | ⟨r1, _⟩
      any_goals omega
      · rw [e, r3, r4]
        refine ⟨rfl, sm, IV.nx (ix.v (fun t' _ e => ?_))⟩
        have e : t' = t := e
        rw [e]
        intro h3
        rw [A14'] at h3
        exact absurd h3 c1
      · rw [A14'] at r2; exact absurd r2 c1
    · rcases ha with ⟨r1, _⟩ | ⟨r1, _⟩ | ⟨_, r2, _⟩ | ⟨r1, _⟩ | ⟨r1, _⟩ | ⟨_, _, r3, r4⟩ | ⟨r1, _⟩ | ⟨r1, _⟩
      any_goals omega
      · rw [A14'] at r2; exact absurd c1 r2
      · have hP : ∀ u : Nat, (aks (hnA A L1 t) L1 t u ∧ ¬ (u : Int) = A 16 k) ↔ noQ C (abA C A1 t d) t a d u := fun u => by
          have q : aks (hnA A L1 t) L1 t u ↔ aks A1 L1 t u := by
            unfold aks
            rw [A13', A10, A110]
            exact Iff.rfl
          rw [q, aks_iff g1 ht, ed, h16]
          show ((¬ (u : Int) = d ∧ wraP C A1 t u) ∧ ¬ (u : Int) = a) ↔ (¬ u = d ∧ ¬ u = a ∧ wraP C A1 t u)
          constructor
          · rintro ⟨⟨z1, z2⟩, z3⟩; exact ⟨by omega, by omega, z2⟩
          · rintro ⟨z1, z2, z3⟩; exact ⟨⟨by omega, z3⟩, by omega⟩
        have smn : SmA (hnA A L1 t) (abA C A1 t d) := by
          intro q h7 h8 h14 h15 h18 h20 h21
          unfold hnA abA
          by_cases e1 : q = 1
          · subst e1
            rw [up_s, up_s, ukF_cg (A' := up A 4 (up (A 4) t 2)) (A := A1) (show A 0 = A1 0 from A10.symm) (show A 1 = A1 1 from A11.symm) (show A 10 = A1 10 from A110.symm), ed']
            exact uk_eq (fun o' w => (w.pl g1 ht).1) (fun o' ho h1 => (g5.1 o' t ho h1).2.1)
          · rw [up_n e1, up_n e1]
            by_cases e4 : q = 4
            · subst e4; rw [up_s, up_s, A14']
            · rw [up_n e4, up_n e4]
              exact sm q h7 h8 h14 h15 h18 h20 h21
        have ns := no_step (a := a) ix ht (by rw [A14']; exact c1) ed hd h55
        have c := bcl_c (P := fun u : Nat => aks (hnA A L1 t) L1 t u ∧ ¬ (u : Int) = A 16 k) (P' := noQ C (abA C A1 t d) t a d) (a := (hnA A L1 t) 3 t) (a' := d) (so := 4) (t := t) (t' := t) (C := C) (A := hnA A L1 t) (A' := abA C A1 t d) (I := I) (Ls := L1) hP (C 1).toNat
        have sb := bcl_s (P := fun u : Nat => aks (hnA A L1 t) L1 t u ∧ ¬ (u : Int) = A 16 k) (a := (hnA A L1 t) 3 t) (so := 4) (t := t) (p := (C, hnA A L1 t, I, L1)) (C 1).toNat
        have sa := bcl_s (P := noQ C (abA C A1 t d) t a d) (a := d) (so := 4) (t := t) (p := (C, abA C A1 t d, I, L1)) (C 1).toNat
        have bm := bcs_sm (P := fun u : Nat => aks (hnA A L1 t) L1 t u ∧ ¬ (u : Int) = A 16 k) (P' := noQ C (abA C A1 t d) t a d) (a := d) (so := 4) (t := t) (C := C) smn hP (C 1).toNat
        have e3 : hnA A L1 t 3 t = (d : Int) := by show A 3 t = d; rw [← A13']; exact ed
        rw [e, r3, r4]
        unfold noB
        refine ⟨?_, ?_, ?_⟩
        · rw [c.1]; exact sa.1.symm
        · rw [sb.2.1, e3]; exact bm.2
        · rw [c.2]
          rw [← sa.1, ← sa.2.1]
          exact ns
  · -- to unlock
    have h4 : A1 4 t = 2 := by rw [A14']; exact m7 so
    rcases hp with ⟨s1, _⟩ | ⟨s1, _⟩ | ⟨s1, _⟩ | ⟨s1, _⟩ | ⟨s1, _⟩ | ⟨s1, _⟩ | ⟨s1, _⟩ | ⟨_, e⟩ | ⟨s1, _⟩ | ⟨s1, _⟩
    any_goals omega
    rcases ha with ⟨r1, _⟩ | ⟨r1, _⟩ | ⟨r1, _⟩ | ⟨r1, _⟩ | ⟨r1, _⟩ | ⟨r1, _⟩ | ⟨_, r3, r4⟩ | ⟨r1, _⟩
    any_goals omega
    rw [e, r3, r4]
    refine ⟨rfl, ?_, IV.nx (unl_step ix ht h4)⟩
    show SmA (up A 1 (ukF A (L1 (500 + 2 * t)) t d (L1 (500 + 2 * t)).length)) _
    intro q h7 h8 h14 h15 h18 h20 h21
    by_cases e1 : q = 1
    · subst e1
      rw [up_s, up_s, ukF_cg (A' := A) (A := A1) A10.symm A11.symm A110.symm]
      exact uk_eq (fun o' w => (w.pl g1 ht).1) (fun o' ho h1 => (g5.1 o' t ho h1).2.1)
    · rw [up_n e1, up_n e1]
      exact sm q h7 h8 h14 h15 h18 h20 h21
  · -- the news of a commit
    have h5 : 0 < A1 5 t := by rw [A15']; exact m8 so
    have h3 : ¬ A1 3 t = d := by rw [A13', ← m9 (by omega)]; omega
    have hh := h5c so
    have iz := ix.hold ht hd h5 h3 (by rw [A121]; exact hh)
    have hn : ∀ y, y ∈ L1 (2 + 2 * d) → ¬ cbP C A y d := fun y hy => by
      rw [sm.cb]
      exact (g7.2.1 d y hd hy).2.2.2
    rcases ha with ⟨r1, _⟩ | ⟨r1, _⟩ | ⟨r1, _⟩ | ⟨r1, _⟩ | ⟨r1, _⟩ | ⟨r1, _⟩ | ⟨r1, _⟩ | ⟨_, r3, r, r4⟩
    any_goals omega
    have cl : ∃ m' B' Ls', clsP C d m' A (up L1 (2 + 2 * d) (L1 (2 + 2 * d) ++ [t])) B' Ls' ∧ p = (C, B', I, Ls') := by
      rcases hp with ⟨s1, _⟩ | ⟨s1, _⟩ | ⟨s1, _⟩ | ⟨s1, _⟩ | ⟨s1, _⟩ | ⟨s1, _⟩ | ⟨s1, _⟩ | ⟨s1, _⟩ | ⟨_, c1, c2⟩ | ⟨_, c1, c2⟩
      any_goals omega
      · exact hold_cls (Or.inl ⟨c1, c2⟩) hn (by omega)
      · exact hold_cls (Or.inr ⟨c1, c2⟩) hn (by omega)
    obtain ⟨m', B', Ls', c1, c2⟩ := cl
    have smh : SmA A (hldA A1 t d) := fun q h7 h8 h14 h15 h18 h20 h21 => by
      unfold hldA
      rw [up_n h21, up_n h20]
      exact sm q h7 h8 h14 h15 h18 h20 h21
    have z := rel_all hd r m' _ A' _ B' _ Ls' iz smh r4 c1
    rw [c2, r3]
    exact ⟨rfl, z.1, IV.nx z.2⟩
end P15
