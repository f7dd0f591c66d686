section P10
variable {C C' : Nat → Int} {A A' B I I' : Nat → Nat → Int} {Ls Ls' : Nat → List Nat} {n : Nat}
theorem em_pl (g1 : G1 C A I Ls) {t : Nat} (ht : t < (C 3).toNat) : Ls (500 + 2 * t) = [] ↔ ¬ exq (plq A t) (C 4).toNat := by
  constructor
  · rintro e ⟨k, k1, k2, k3⟩
    obtain ⟨x, x1, x2⟩ := g1.2.2.1 k k1 ((g1.1 k k1).2.2.1.mpr k3)
    rw [k2, show ((t : Int)).toNat = t by omega, e] at x1
    exact absurd x1 (List.not_mem_nil)
  · intro h
    cases hl : Ls (500 + 2 * t) with
    | nil => rfl
    | cons x l =>
      have hx : x ∈ Ls (500 + 2 * t) := by rw [hl]; exact List.mem_cons_self
      have q := g1.2.1 t x ht hx
      exact absurd ⟨x, q.1, q.2.1, (g1.1 x q.1).2.2.1.mp q.2.2⟩ h
theorem em_an (g1 : G1 C A I Ls) {t : Nat} (ht : t < (C 3).toNat) : (Ls (500 + 2 * t) = [] ∧ Ls (501 + 2 * t) = []) ↔ ¬ exq (anq A t) (C 4).toNat := by
  constructor
  · rintro ⟨e1, e2⟩ ⟨k, k1, k2⟩
    by_cases z : A 11 k = 0
    · exact (em_pl g1 ht).mp e1 ⟨k, k1, k2, (g1.1 k k1).2.2.1.mp z⟩
    · have : k ∈ Ls (501 + 2 * t) := (c501 g1 ht).mpr ⟨k1, k2, z⟩
      rw [e2] at this
      exact absurd this (List.not_mem_nil)
  · intro h
    refine ⟨(em_pl g1 ht).mpr (fun ⟨k, k1, k2⟩ => h ⟨k, k1, k2.1⟩), ?_⟩
    cases hl : Ls (501 + 2 * t) with
    | nil => rfl
    | cons x l =>
      have hx : x ∈ Ls (501 + 2 * t) := by rw [hl]; exact List.mem_cons_self
      have q := (c501 g1 ht).mp hx
      exact absurd ⟨x, q.1, q.2.1⟩ h
theorem em_fa (b : RB C A) (g1 : G1 C A I Ls) (g3 : G3 C A) {t s : Nat} (ht : t < (C 3).toNat) (es : A 3 t = s) : nP (aks A Ls t) (C 1).toNat = 0 ↔ ¬ exq (faq A t s) (C 4).toNat := by
  constructor
  · rintro e ⟨k, k1, k2, k3, k4⟩
    obtain ⟨x, x1, x2⟩ := g1.2.2.1 k k1 ((g1.1 k k1).2.2.1.mpr k3)
    rw [k2, show ((t : Int)).toNat = t by omega] at x1
    have h0 := g3.2.2.2.2.2.2.2 (A 10 k).toNat (by have := (g1.1 k k1).2.1; omega)
    have v0 := b.v0 (A 10 k).toNat
    refine nP_z _ e (A 0 (A 10 k).toNat).toNat (by omega) ⟨by rw [es]; omega, x, x1, ?_⟩
    rw [x2]
    omega
  · intro h
    refine nP_0 _ (fun u hu z => ?_)
    obtain ⟨z1, x, x1, x2⟩ := z
    have q := g1.2.1 t x ht x1
    refine h ⟨x, q.1, q.2.1, (g1.1 x q.1).2.2.1.mp q.2.2, ?_⟩
    rw [x2, ← es]
    exact z1
/-- commit: the class and the reference do the same -/
theorem try_step {t s : Nat} {p : CB} (v : IV n C A I Ls) (ht : t < (C 3).toNat) (es : A 3 t = s) (h0 : A 4 t = 0) (h55 : C 5 + 6 ≤ 15000) (hp : tryP C A I Ls t p) (hc : cmtP C A t s C' A') : C' = p.1 ∧ SmA p.2.1 A' ∧ IV (n + 1) C' A' p.2.2.1 p.2.2.2 := by
  have v' := v
  obtain ⟨b, g1, g2, g3, g4, g5, gw, g6, g7, g8⟩ := v
  have op := opn b g4 g6 ht h0
  have eT : (A 3 t).toNat = s := by rw [es]; omega
  have Ea := em_an g1 ht
  have Ep := em_pl g1 ht
  have Ef := em_fa b g1 g3 ht es
  have pa : exq (plq A t) (C 4).toNat → exq (anq A t) (C 4).toNat := fun ⟨k, k1, k2⟩ => ⟨k, k1, k2.1⟩
  have Ec : hca A Ls t ↔ acfP C A t s := by
    unfold hca
    rw [eT]
    exact acf_iff b g1 g2 ht op.1
  have cp : acfP C A t s → exq (plq A t) (C 4).toNat := fun ⟨o, o1, ⟨o2, o3, o4⟩, _⟩ => by
    obtain ⟨x, x1, x2⟩ := (wrt_wt g1 ht o2).mp o4
    have q := g1.2.1 t x ht x1
    exact ⟨x, q.1, q.2.1, (g1.1 x q.1).2.2.1.mp q.2.2⟩
  have mk : ¬ acfP C A t s → nP (aks A Ls t) (C 1).toNat = 0 → cmsP C A t s C' A' → p = mkS C A I Ls t → C' = p.1 ∧ SmA p.2.1 A' ∧ IV (n + 1) C' A' p.2.2.1 p.2.2.2 := by
    intro hn hz hcm e
    have own : ∀ o, Wt A Ls t o → A 0 o = s := fun o w => by
      have pl := w.pl g1 ht
      have h00 := g3.2.2.2.2.2.2.2 o pl.1
      have v0 := b.v0 o
      obtain ⟨x, x1, x2⟩ := w
      by_cases z : A 0 o = s
      · exact z
      · exact absurd ⟨by rw [es]; omega, x, x1, by rw [x2]; omega⟩ (nP_z _ hz (A 0 o).toNat (by omega))
    rw [e]
    refine mk_all v'.x SmA.rf ht es op.1 (Or.inl h0) ?_ (fun o c w hc h5 wc => ((nocf b g1 g5 ht op.1 hn w (own o w)).2 c hc h5 wc).1) (fun o w => (nocf b g1 g5 ht op.1 hn w (own o w)).1) (fun o w => Or.inl (own o w)) h55 hcm
    refine nP_0 _ (fun q hq z => ?_)
    have z : A 19 q = t ∧ (1 ≤ A 18 q ∧ A 18 q ≤ 3) := z
    exact op.2 q hq (by omega) (by omega)
  rcases hp with ⟨q1, q2⟩ | ⟨q1, q2, q3⟩ | ⟨q1, q2, q3, q4⟩ | ⟨q1, q2, q3, q4⟩
  · rcases hc with ⟨_, c2, c3⟩ | ⟨c1, _⟩ | ⟨c1, _⟩ | ⟨c1, _⟩ | ⟨c1, _⟩
    · rw [c2, c3, q2]
      exact ⟨rfl, SmA.rf, v'.ph ht h0 (Or.inl rfl)⟩
    · exact absurd c1 (Ea.mp q1)
    · exact absurd (pa c1) (Ea.mp q1)
    · exact absurd (pa c1) (Ea.mp q1)
    · exact absurd (pa c1) (Ea.mp q1)
  · have q2 := Ec.mp q2
    rcases hc with ⟨c1, _⟩ | ⟨_, c2, _⟩ | ⟨_, _, c3, c4⟩ | ⟨_, c2, _⟩ | ⟨_, c2, _⟩
    · exact absurd (pa (cp q2)) c1
    · exact absurd (cp q2) c2
    · rw [c3, c4, q3]
      exact ⟨rfl, SmA.rf, v'.ph ht h0 (Or.inr rfl)⟩
    · exact absurd q2 c2
    · exact absurd q2 c2
  · have q2 : ¬ acfP C A t s := fun z => q2 (Ec.mpr z)
    rcases hc with ⟨c1, _⟩ | ⟨_, _, c3⟩ | ⟨_, c2, _⟩ | ⟨_, _, _, c4⟩ | ⟨_, _, c3, _⟩
    · exact absurd (Ea.mpr c1) q1
    · exact mk q2 q3 c3 q4
    · exact absurd c2 q2
    · exact mk q2 q3 c4 q4
    · exact absurd c3 (Ef.mp q3)
  · have q2 : ¬ acfP C A t s := fun z => q2 (Ec.mpr z)
    rcases hc with ⟨c1, _⟩ | ⟨_, c2, _⟩ | ⟨_, c2, _⟩ | ⟨_, _, c3, _⟩ | ⟨_, _, _, c4, c5⟩
    · exact absurd (Ea.mpr c1) q1
    · refine absurd (Ef.mpr (fun ⟨k, k1, k2, k3, _⟩ => c2 ⟨k, k1, k2, k3⟩)) q3
    · exact absurd c2 q2
    · exact absurd (Ef.mpr c3) q3
    · rw [c4, c5, q4]
      exact wait_all v' ht es h0 q2 h55
end P10
