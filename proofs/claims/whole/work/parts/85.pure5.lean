section P5
variable {C C' : Nat → Int} {A A' I I' : Nat → Nat → Int} {Ls Ls' : Nat → List Nat} {n : Nat} {P : Nat → Prop} {p : CB}
theorem bcl_I {a so t : Int} : ∀ u k, ¬ k = 2 → (bcl P a so t p u).2.2.1 k = p.2.2.1 k := by
  intro u
  induction u with
  | zero => intro k _; rfl
  | succ u ih =>
    intro k hk
    by_cases hp : P u
    · rw [bcl_y hp]
      exact (up_n hk).trans (ih k hk)
    · rw [bcl_n hp]
      exact ih k hk
theorem mso_bcl {a so t : Int} (h5 : 0 ≤ p.1 5) {u : Nat} (hu : u ≤ 6) : mso p.1 p.2.1 p.2.2.1 p.2.2.2 (bcl P a so t p u).1 (bcl P a so t p u).2.1 (bcl P a so t p u).2.2.1 (bcl P a so t p u).2.2.2 := by
  have s := bcl_s (P := P) (a := a) (so := so) (t := t) (p := p) u
  have q := bcs_5 (P := P) (a := a) (so := so) (t := t) (C := p.1) (A := p.2.1) h5 u
  refine ⟨fun k hk => ?_, fun k hk => ?_, fun k hk => bcl_I u k hk, fun i hi => bcl_e hi u hu⟩
  · rw [s.1]; exact q.2.2.1 k hk
  · rw [s.2.1]; exact q.2.2.2 k hk
/-- the lists and sorts do not hang on who sends, nor on the arrays -/
theorem bcl_c {P' : Nat → Prop} {a a' so t t' : Int} (hp : ∀ u, P u ↔ P' u) : ∀ u, (bcl P a so t (C, A, I, Ls) u).1 = (bcl P' a' so t' (C, A', I, Ls) u).1 ∧ (bcl P a so t (C, A, I, Ls) u).2.2 = (bcl P' a' so t' (C, A', I, Ls) u).2.2 := by
  intro u
  induction u with
  | zero => exact ⟨rfl, rfl⟩
  | succ u ih =>
    by_cases h : P u
    · rw [bcl_y h, bcl_y ((hp u).mp h)]
      unfold bstep
      rw [ih.1, ih.2]
      exact ⟨rfl, rfl⟩
    · rw [bcl_n h, bcl_n (fun z => h ((hp u).mpr z))]
      exact ih
theorem nP_1 {s : Nat} {Q : Prop} : ∀ m : Nat, s < m → nP (fun v => v = s ∧ Q) m = pI Q := by
  intro m
  induction m with
  | zero => intro h; omega
  | succ m ih =>
    intro h
    show nP _ m + pI (m = s ∧ Q) = _
    by_cases e : m = s
    · rw [nP_0 m (fun k hk z => by omega), pI_e (show (m = s ∧ Q) ↔ Q from ⟨fun z => z.2, fun z => ⟨e, z⟩⟩)]
      omega
    · rw [ih (by omega), pI_n (P := m = s ∧ Q) (fun z => e z.1)]
      omega
/-- messages of one sort about t to those of whom P speaks -/
theorem ix_bcl {e : Nat → Prop} (v : IX n e p.1 p.2.1 p.2.2.1 p.2.2.2) {a t : Nat} {so : Int} (hP : ∀ u, P u → ¬ a = u) (ha : (a : Int) < p.1 1) (hs : 1 ≤ so ∧ so ≤ 5) (ht : t < (p.1 3).toNat) (h3 : so ≤ 3 → p.2.1 4 t = 2 ∨ p.2.1 4 t = 3) (h4 : so = 4 → p.2.1 4 t = 2) (h5 : so = 5 → 0 < p.2.1 5 t) (h6 : (a : Int) = p.2.1 3 t) (h7 : so = 1 ∨ so = 4 ∨ so = 5) (hw : ∀ t', t' < (p.1 3).toNat → ¬ e t' → 3 < so ∨ ¬ t' = t) (hh : ∀ s : Nat, s < (p.1 1).toNat → p.2.1 21 s + cM (R5 s) p.1 p.2.1 + pI (P s ∧ so = 5) ≤ p.1 6) (h55 : p.1 5 + 6 ≤ 15000) :
    IX (n + 1) e (bcl P a so t p (p.1 1).toNat).1 (bcl P a so t p (p.1 1).toNat).2.1 (bcl P a so t p (p.1 1).toNat).2.2.1 (bcl P a so t p (p.1 1).toNat).2.2.2 := by
  obtain ⟨b, g1, g2, g3, g4, g5, gw, g6, g7, g8, w2, w3, w4, w5⟩ := v
  have b1 := b.c1
  have b3 := b.c3
  have b5 := b.c5
  have m : ∀ u, u ≤ 6 → mso p.1 p.2.1 p.2.2.1 p.2.2.2 (bcl P a so t p u).1 (bcl P a so t p u).2.1 (bcl P a so t p u).2.2.1 (bcl P a so t p u).2.2.2 := fun u hu => mso_bcl b5.1 hu
  have mm := m (p.1 1).toNat (by omega)
  have s := bcl_s (P := P) (a := a) (so := so) (t := t) (p := p) (p.1 1).toNat
  have bk := bcs_ok b (P := P) (a := a) (so := so) (t := t) ⟨by omega, by omega⟩ ⟨by omega, by omega⟩ ⟨by omega, by omega⟩ h55 (p.1 1).toNat (by omega)
  have q5 := bcs_5 (P := P) (a := a) (so := so) (t := t) (C := p.1) (A := p.2.1) b5.1 (p.1 1).toNat
  have qo := bcs_o (P := P) (a := a) (so := so) (t := t) (C := p.1) (A := p.2.1) b5.1 (p.1 1).toNat
  have G : ∀ u, u ≤ (p.1 1).toNat → G6 (bcl P a so t p u).1 (bcl P a so t p u).2.1 (bcl P a so t p u).2.2.1 (bcl P a so t p u).2.2.2 := by
    intro u
    induction u with
    | zero => intro _; exact g6
    | succ u ih =>
      intro hu
      by_cases hp : P u
      · rw [bcl_y hp]
        have mu := m u (by omega)
        have su := bcl_s (P := P) (a := a) (so := so) (t := t) (p := p) u
        have qu := bcs_5 (P := P) (a := a) (so := so) (t := t) (C := p.1) (A := p.2.1) b5.1 u
        refine (ih (by omega)).snd (by rw [su.1]; omega) ?_ ?_ (hP u hp) hs ?_ ?_ ?_ ?_ ?_ ?_
        · rw [mu.1 1 (by decide)]; exact ha
        · rw [mu.1 1 (by decide)]; omega
        · rw [mu.1 3 (by decide)]; exact ht
        · rw [mu.2.1 4 (by decide)]; exact h3
        · rw [mu.2.1 4 (by decide)]; exact h4
        · rw [mu.2.1 5 (by decide)]; exact h5
        · rw [mu.2.1 3 (by decide)]; exact fun _ => h6
        · intro z; omega
      · rw [bcl_n hp]
        exact ih (by omega)
  refine ⟨?_, g1.ms mm, g2.ms mm, g3.ms mm, g4.ms mm, g5.ms mm, fun t' ht' he => ?_, G _ (Nat.le_refl _), g7.ms mm (fun s' hs' => ?_), fun i hi => ?_, fun h1 => ?_, ?_, ?_, ?_⟩
  · rw [s.1, s.2.1]; exact bk.1
  · rw [mm.1 3 (by decide)] at ht'
    refine (gw t' ht' he).ms mm (by rw [s.1]; omega) (fun q hq => by rw [s.2.1]; exact qo q hq) ?_
    rw [s.1, s.2.1, cM_b b5.1, nP_0 _ (fun k hk z => ?_), Int.add_zero]
    have z2 := z.2
    unfold R3 at z2
    have := hw t' ht' he
    omega
  · rw [s.1, s.2.1, cM_b b5.1]
    have := hh s' hs'
    rw [nP_e (P' := fun v => v = s' ∧ (P s' ∧ so = 5)) _ (fun k hk => ?_), nP_1 _ hs']
    · omega
    · unfold R5
      constructor
      · rintro ⟨z1, z2, z3⟩
        have e : k = s' := by omega
        subst e
        exact ⟨rfl, z1, z2⟩
      · rintro ⟨z1, z2, z3⟩
        subst z1
        exact ⟨z2, z3, rfl⟩
  · rw [lvl.ms mm] at hi
    have h0 := g8 i hi
    by_cases c : i < 2 ∨ i % 2 = 0 ∨ 20 ≤ i
    · rw [mm.2.2.2 i c]; exact h0
    · -- an inbox of a site that is not there
      have : ∀ u, u ≤ (p.1 1).toNat → (bcl P a so t p u).2.2.2 i = p.2.2.2 i := by
        intro u
        induction u with
        | zero => intro _; rfl
        | succ u ih =>
          intro hu
          by_cases hp : P u
          · rw [bcl_y hp]
            exact (up_n (by unfold lvl at hi; omega)).trans (ih (by omega))
          · rw [bcl_n hp]; exact ih (by omega)
      rw [this _ (Nat.le_refl _)]; exact h0
  · rw [mm.1 1 (by decide)] at h1
    rw [mm.2.1 13 (by decide), mm.2.1 21 (by decide)]
    exact w2 h1
  · rw [mm.2.2.1 3 (by decide), mm.1 4 (by decide)]; exact w3
  · rw [mm.1 2 (by decide), mm.1 3 (by decide), mm.1 4 (by decide)]; omega
  · rw [s.1]; omega
end P5
