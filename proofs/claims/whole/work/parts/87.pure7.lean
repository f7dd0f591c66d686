section P7
variable {C C' : Nat → Int} {A A' B I I' : Nat → Nat → Int} {Ls Ls' : Nat → List Nat} {n : Nat}
/-- the class's arrays against the reference's: all but yes, asked, made, committed, sort, held -/
def SmA (B A : Nat → Nat → Int) : Prop := ∀ k, ¬ k = 7 → ¬ k = 8 → ¬ k = 14 → ¬ k = 15 → ¬ k = 18 → ¬ k = 20 → ¬ k = 21 → B k = A k
theorem SmA.rf : SmA A A := fun _ _ _ _ _ _ _ _ => rfl
theorem hnw_cg {l : List Nat} {a : Nat} (h : A' 10 = A 10) : ∀ j, hnw A' l a Ls j = hnw A l a Ls j := by
  intro j
  induction j with
  | zero => rfl
  | succ j ih =>
    cases hx : l[j]? with
    | none => simp only [hnw, hx]; exact ih
    | some x => rw [hnw_s hx, hnw_s hx, ih, h]
theorem hnd_cg {t : Nat} (h : A' 10 = A 10) : hndL A' Ls t = hndL A Ls t := by
  unfold hndL
  rw [hnw_cg h, hnw_cg h]
theorem ukF_cg {l : List Nat} {t s j : Nat} (h0 : A' 0 = A 0) (h1 : A' 1 = A 1) (h10 : A' 10 = A 10) : ukF A' l t s j = ukF A l t s j := by
  funext o
  unfold ukF amg
  rw [h0, h1, h10]
theorem lkF_cg {l : List Nat} {t s j : Nat} (h0 : A' 0 = A 0) (h1 : A' 1 = A 1) (h10 : A' 10 = A 10) : lkF A' l t s j = lkF A l t s j := by
  funext o
  unfold lkF amg
  rw [h0, h1, h10]
theorem up_cg {α : Type} {f g : Nat → α} {k : Nat} {x y : α} (h : f = g) (e : x = y) : up f k x = up g k y := by rw [h, e]
theorem snd_sm (h : SmA B A) {a d so t : Int} : SmA (sndA C B a d so t) (sndA C A a d so t) := by
  intro k h7 h8 h14 h15 h18 h20 h21
  unfold sndA
  by_cases e19 : k = 19
  · subst e19
    rw [up_s, up_s]
    exact up_cg (h 19 (by decide) (by decide) (by decide) (by decide) (by decide) (by decide) (by decide)) rfl
  · rw [up_n e19, up_n e19, up_n h18, up_n h18]
    by_cases e17 : k = 17
    · subst e17
      rw [up_s, up_s]
      exact up_cg (h 17 (by decide) (by decide) (by decide) (by decide) (by decide) (by decide) (by decide)) rfl
    · rw [up_n e17, up_n e17]
      by_cases e16 : k = 16
      · subst e16
        rw [up_s, up_s]
        exact up_cg (h 16 (by decide) (by decide) (by decide) (by decide) (by decide) (by decide) (by decide)) rfl
      · rw [up_n e16, up_n e16]
        exact h k h7 h8 h14 h15 h18 h20 h21
theorem bcs_sm {P P' : Nat → Prop} {a so t : Int} (h : SmA B A) (hp : ∀ u, P u ↔ P' u) : ∀ u, (bcs P a so t C B u).1 = (bcs P' a so t C A u).1 ∧ SmA (bcs P a so t C B u).2 (bcs P' a so t C A u).2 := by
  intro u
  induction u with
  | zero => exact ⟨rfl, h⟩
  | succ u ih =>
    by_cases q : P u
    · rw [bcs_y q, bcs_y ((hp u).mp q)]
      refine ⟨?_, ?_⟩
      · show sndC _ = sndC _
        rw [ih.1]
      · show SmA (sndA _ _ _ _ _ _) (sndA _ _ _ _ _ _)
        rw [ih.1]
        exact snd_sm ih.2
    · rw [bcs_n q, bcs_n (fun z => q ((hp u).mpr z))]
      exact ih
/-- nothing to let go -/
theorem rls_0 {s m : Nat} (h : rlsP C s m A A') (hn : ∀ k, k < (A 21 s).toNat → ¬ cbP C A (hdt A s k) s) : A' = A := by
  cases m with
  | zero => exact h.1
  | succ m =>
    obtain ⟨k, k1, -, k2, -⟩ := h
    exact absurd k2 (hn k k1)
theorem mk_all {t s : Nat} (v : IX n (fun x => x = t) C A I Ls) (sm : SmA B A) (ht : t < (C 3).toNat) (es : A 3 t = s) (h5 : A 5 t = 0) (h4 : A 4 t = 0 ∨ A 4 t = 3) (hq : cM (R3 t) C A = 0) (hV : ∀ o c, Wt A Ls t o → c < (C 3).toNat → 0 < A 5 c → Wt A Ls c o → visB A c t = true) (hL : ∀ o, Wt A Ls t o → A 1 o = -1 ∨ A 1 o = t) (hL2 : ∀ o, Wt A Ls t o → A 0 o = s ∨ A 1 o = t) (h55 : C 5 + 6 ≤ 15000) (hc : cmsP C A t s C' A') :
    C' = (mkS C B I Ls t).1 ∧ SmA (mkS C B I Ls t).2.1 A' ∧ IV (n + 1) C' A' (mkS C B I Ls t).2.2.1 (mkS C B I Ls t).2.2.2 := by
  have b := v.1
  have b1 := b.c1
  have g1 := v.2.1
  have g3 := v.2.2.2.1
  have g5 := v.2.2.2.2.2.1
  have hs : s < (C 1).toNat := by have := g3.2.2.2.2.2.2.1 t ht; omega
  obtain ⟨ix, hh⟩ := v.mk ht es h5 h4 hq hV hL hL2
  obtain ⟨m, e1, hr⟩ := hc
  have B3 : B 3 = A 3 := sm 3 (by decide) (by decide) (by decide) (by decide) (by decide) (by decide) (by decide)
  have B0 : B 0 = A 0 := sm 0 (by decide) (by decide) (by decide) (by decide) (by decide) (by decide) (by decide)
  have B1 : B 1 = A 1 := sm 1 (by decide) (by decide) (by decide) (by decide) (by decide) (by decide) (by decide)
  have B4 : B 4 = A 4 := sm 4 (by decide) (by decide) (by decide) (by decide) (by decide) (by decide) (by decide)
  have B5 : B 5 = A 5 := sm 5 (by decide) (by decide) (by decide) (by decide) (by decide) (by decide) (by decide)
  have B10 : B 10 = A 10 := sm 10 (by decide) (by decide) (by decide) (by decide) (by decide) (by decide) (by decide)
  have B13 : B 13 = A 13 := sm 13 (by decide) (by decide) (by decide) (by decide) (by decide) (by decide) (by decide)
  have eS : (B 3 t).toNat = s := by rw [B3, es]; omega
  have k4 := g3.2.2.2.1 s hs
  have eL : hndL (mkA B t) Ls t = hndL (mkA A t) Ls t := hnd_cg (show B 10 = A 10 from B10)
  have hw2 : ∀ x, x ∈ Ls (500 + 2 * t) → (mkA A t 10 x).toNat < 200 := fun x hx => by
    have h1 := g1.2.1 t x ht hx
    have h2 := (g1.1 x h1.1).2.1
    have := b.c2
    show (A 10 x).toNat < 200
    omega
  have hc2 : ∀ x, x ∈ Ls (501 + 2 * t) → (mkA A t 10 x).toNat < 200 := fun x hx => by
    have h1 := (c501 g1 ht).mp hx
    have h2 := (g1.1 x h1.1).2.1
    have := b.c2
    show (A 10 x).toNat < 200
    omega
  have l500 : hndL (mkA A t) Ls t (500 + 2 * t) = Ls (500 + 2 * t) := hnd_o hw2 hc2 (by omega)
  have sm2 : SmA (mkA2 B Ls t) (cm1A C A t s) := by
    intro k h7 h8 h14 h15 h18 h20 h21
    show up (up (mkA B t) 13 (up (mkA B t 13) (6 * (B 3 t).toNat + (mkA B t 3 t).toNat) (mkA B t 5 t))) 1 (ukF (mkA B t) (hndL (mkA B t) Ls t (500 + 2 * t)) t (B 3 t).toNat (hndL (mkA B t) Ls t (500 + 2 * t)).length) k = up (cm0A A t s) 1 (unlF A t s (C 2).toNat) k
    by_cases e1 : k = 1
    · subst e1
      rw [up_s, up_s, eL, l500, eS, ukF_cg (A' := mkA B t) (A := A) (show B 0 = A 0 from B0) (show B 1 = A 1 from B1) (show B 10 = A 10 from B10)]
      exact uk_eq (fun o w => (w.pl g1 ht).1) (fun o ho h1 => (g5.1 o t ho h1).2.1)
    · rw [up_n e1, up_n e1]
      unfold cm0A
      by_cases e13 : k = 13
      · subst e13
        rw [up_s, up_s]
        show up (B 13) (6 * (B 3 t).toNat + (B 3 t).toNat) (up (B 5) t (B 13 (6 * (B 3 t).toNat + (B 3 t).toNat) + 1) t) = up (A 13) (6 * s + s) (A 14 s + 1)
        rw [eS, up_s, B13, k4]
      · rw [up_n e13, up_n e13, up_n h15]
        unfold mkA
        by_cases e5 : k = 5
        · subst e5
          rw [up_s, up_s]
          show up (B 5) t (B 13 (6 * (B 3 t).toNat + (B 3 t).toNat) + 1) = up (A 5) t (A 14 s + 1)
          rw [eS, B13, B5, k4]
        · rw [up_n e5, up_n e5, up_n h14]
          by_cases e4 : k = 4
          · subst e4
            rw [up_s, up_s]
            show up (B 4) t 1 = up (A 4) t 1
            rw [B4]
          · rw [up_n e4, up_n e4]
            exact sm k h7 h8 h14 h15 h18 h20 h21
  have hP : ∀ u : Nat, ¬ (u : Int) = B 3 t ↔ ¬ u = s := fun u => by rw [B3, es]; omega
  -- the lists of what is sent
  have c := bcl_c (P := fun u : Nat => ¬ (u : Int) = B 3 t) (P' := fun u => ¬ u = s) (a := B 3 t) (a' := s) (so := 5) (t := t) (t' := t) (C := up C 6 (C 6 + 1)) (A := mkA2 B Ls t) (A' := cm1A C A t s) (I := I) (Ls := hndL (mkA A t) Ls t) hP (C 1).toNat
  have sb := bcl_s (P := fun u : Nat => ¬ (u : Int) = B 3 t) (a := B 3 t) (so := 5) (t := t) (p := (up C 6 (C 6 + 1), mkA2 B Ls t, I, hndL (mkA B t) Ls t)) (C 1).toNat
  have sa := bcl_s (P := fun u : Nat => ¬ u = s) (a := s) (so := 5) (t := t) (p := (cmC C, cm1A C A t s, I, hndL (mkA A t) Ls t)) (C 1).toNat
  have bm := bcs_sm (P := fun u : Nat => ¬ (u : Int) = B 3 t) (P' := fun u => ¬ u = s) (a := B 3 t) (so := 5) (t := t) (C := cmC C) sm2 hP (C 1).toNat
  have ea : B 3 t = (s : Int) := by rw [B3]; exact es
  have iv : IX (n + 1) (fun _ => False) (bcl (fun u : Nat => ¬ u = s) s 5 t (cmC C, cm1A C A t s, I, hndL (mkA A t) Ls t) (C 1).toNat).1 (bcl (fun u : Nat => ¬ u = s) s 5 t (cmC C, cm1A C A t s, I, hndL (mkA A t) Ls t) (C 1).toNat).2.1 (bcl (fun u : Nat => ¬ u = s) s 5 t (cmC C, cm1A C A t s, I, hndL (mkA A t) Ls t) (C 1).toNat).2.2.1 (bcl (fun u : Nat => ¬ u = s) s 5 t (cmC C, cm1A C A t s, I, hndL (mkA A t) Ls t) (C 1).toNat).2.2.2 := ix_bcl (p := (cmC C, cm1A C A t s, I, hndL (mkA A t) Ls t)) (P := fun u => ¬ u = s) (a := s) (t := t) (so := 5) ix (fun u hu e => hu e.symm) (by show (s : Int) < C 1; omega) (by decide) ht (by intro z; omega) (by intro z; omega) (fun _ => by show 0 < up (A 5) t (A 14 s + 1) t; rw [up_s]; have := b.v14 s; omega) (by show (s : Int) = A 3 t; exact es.symm) (by omega) (fun t' _ _ => Or.inl (by decide)) (fun s' hs' => by
    have := hh s' hs'
    have p1 : pI (¬ s' = s ∧ (5 : Int) = 5) ≤ 1 := by
      rcases pI_01 (¬ s' = s ∧ (5 : Int) = 5) with z | z <;> omega
    show cm1A C A t s 21 s' + cM (R5 s') (cmC C) (cm1A C A t s) + pI (¬ s' = s ∧ (5 : Int) = 5) ≤ cmC C 6
    omega) h55
  -- nothing is let go behind it
  have hm := mso_bcl (p := (cmC C, cm1A C A t s, I, hndL (mkA A t) Ls t)) (P := fun u : Nat => ¬ u = s) (a := s) (so := 5) (t := t) (by show 0 ≤ C 5; exact b.c5.1) (u := (C 1).toNat) (by omega)
  have eC : (cmS C A t s).1 = (bcl (fun u : Nat => ¬ u = s) s 5 t (cmC C, cm1A C A t s, I, hndL (mkA A t) Ls t) (C 1).toNat).1 := sa.1.symm
  have eA : (cmS C A t s).2 = (bcl (fun u : Nat => ¬ u = s) s 5 t (cmC C, cm1A C A t s, I, hndL (mkA A t) Ls t) (C 1).toNat).2.1 := sa.2.1.symm
  have e2 : A' = (cmS C A t s).2 := by
    refine rls_0 hr (fun k hk cb => ?_)
    have g7 := iv.2.2.2.2.2.2.2.2.1
    rw [e1, eC] at cb
    rw [eA] at hk cb
    have l2 := g7.1 s (by rw [hm.1 1 (by decide)]; exact hs)
    refine (g7.2.1 s _ (by rw [hm.1 1 (by decide)]; exact hs) ?_).2.2.2 cb
    rw [l2]
    exact List.mem_map.mpr ⟨k, List.mem_range.mpr hk, rfl⟩
  have eMS : (mkS C B I Ls t).2.2 = (bcl (fun u : Nat => ¬ u = s) s 5 t (cmC C, cm1A C A t s, I, hndL (mkA A t) Ls t) (C 1).toNat).2.2 := by
    unfold mkS
    rw [eL]
    exact c.2
  refine ⟨?_, ?_, ?_⟩
  · rw [e1, eC]
    unfold mkS
    rw [eL]
    exact c.1.symm
  · rw [e2]
    unfold mkS cmS
    rw [sb.2.1]
    have := bm.2
    rw [ea] at this ⊢
    exact this
  · rw [e1, e2, eC, eA, show (mkS C B I Ls t).2.2.1 = (bcl (fun u : Nat => ¬ u = s) s 5 t (cmC C, cm1A C A t s, I, hndL (mkA A t) Ls t) (C 1).toNat).2.2.1 by rw [eMS], show (mkS C B I Ls t).2.2.2 = (bcl (fun u : Nat => ¬ u = s) s 5 t (cmC C, cm1A C A t s, I, hndL (mkA A t) Ls t) (C 1).toNat).2.2.2 by rw [eMS]]
    exact iv.v (fun _ _ z => z.elim)
end P7
