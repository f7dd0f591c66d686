section P9
variable {C C' : Nat → Int} {A A' B I I' : Nat → Nat → Int} {Ls Ls' : Nat → List Nat} {n : Nat}
/-- no messages are about one that is open -/
theorem opn (b : RB C A) (g4 : G4 C A) (g6 : G6 C A I Ls) {t : Nat} (ht : t < (C 3).toNat) (h0 : A 4 t = 0) : A 5 t = 0 ∧ ∀ q, q < (C 5).toNat → ¬ A 18 q = 0 → ¬ (A 19 q).toNat = t := by
  have h5 : ¬ 0 < A 5 t := fun z => by have := g4.1 t ht z; omega
  refine ⟨?_, fun q hq hz e => ?_⟩
  · have := b.v5 t
    omega
  · obtain ⟨-, -, -, m4, -, m6, m7, m8, -, -⟩ := g6.1 q hq hz
    rw [e] at m6 m7 m8
    rcases (show A 18 q ≤ 3 ∨ A 18 q = 4 ∨ A 18 q = 5 by omega) with h | h | h
    · have := m6 h; omega
    · have := m7 h; omega
    · exact h5 (m8 h)
theorem wait_all {t s : Nat} (v : IV n C A I Ls) (ht : t < (C 3).toNat) (es : A 3 t = s) (h0 : A 4 t = 0) (hn : ¬ acfP C A t s) (h55 : C 5 + 6 ≤ 15000) :
    (askB C (wtgA C A t s) t s (C 1).toNat).1 = (wtS C A I Ls t).1 ∧ SmA (wtS C A I Ls t).2.1 (up (askB C (wtgA C A t s) t s (C 1).toNat).2 8 (ask8 C (wtgA C A t s) t s (C 1).toNat)) ∧ IV (n + 1) (askB C (wtgA C A t s) t s (C 1).toNat).1 (up (askB C (wtgA C A t s) t s (C 1).toNat).2 8 (ask8 C (wtgA C A t s) t s (C 1).toNat)) (wtS C A I Ls t).2.2.1 (wtS C A I Ls t).2.2.2 := by
  obtain ⟨b, g1, g2, g3, g4, g5, gw, g6, g7, g8⟩ := v
  have b1 := b.c1
  have b3 := b.c3
  have b5 := b.c5
  have hs : s < (C 1).toNat := by have := g3.2.2.2.2.2.2.1 t ht; omega
  have op := opn b g4 g6 ht h0
  have p3 := g4.2.1 t h0
  have eT : (A 3 t).toNat = s := by rw [es]; omega
  have ewt : wtA A Ls t = (wtgA C A t s) := by
    unfold wtA wtgA
    rw [eT, lk_eq g1 ht]
  have nb := nP_b (askQ C (wtgA C A t s) t s) (C 1).toNat
  have hP : ∀ u : Nat, (aks (wtA A Ls t) Ls t u ∧ ¬ (u : Int) = -1) ↔ askQ C (wtgA C A t s) t s u := fun u => by
    have q : aks (wtA A Ls t) Ls t u ↔ aks A Ls t u := Iff.rfl
    rw [q, aks_iff g1 ht, es]
    show ((¬ (u : Int) = s ∧ wraP C A t u) ∧ ¬ (u : Int) = -1) ↔ (¬ u = s ∧ wraP C A t u)
    constructor
    · rintro ⟨⟨z1, z2⟩, -⟩; exact ⟨by omega, z2⟩
    · rintro ⟨z1, z2⟩; exact ⟨⟨by omega, z2⟩, by omega⟩
  have hN : nP (aks A Ls t) (C 1).toNat = nP (askQ C (wtgA C A t s) t s) (C 1).toNat := nP_e _ (fun u _ => by
    rw [← hP u]
    exact ⟨fun z => ⟨z, by omega⟩, fun z => z.1⟩)
  have a8s : (up (wtgA C A t s) 8 (ask8 C (wtgA C A t s) t s (C 1).toNat)) 8 t = nP (askQ C (wtgA C A t s) t s) (C 1).toNat := by
    show up (A 8) t (A 8 t + nP (askQ C (wtgA C A t s) t s) (C 1).toNat) t = _
    rw [up_s, p3.2, Int.zero_add]
  have a4s : (up (wtgA C A t s) 8 (ask8 C (wtgA C A t s) t s (C 1).toNat)) 4 t = 3 := up_s
  have a4o : ∀ c, ¬ c = t → (up (wtgA C A t s) 8 (ask8 C (wtgA C A t s) t s (C 1).toNat)) 4 c = A 4 c := fun c hc => show up (A 4) t 3 c = A 4 c from up_n hc
  have a8o : ∀ c, ¬ c = t → (up (wtgA C A t s) 8 (ask8 C (wtgA C A t s) t s (C 1).toNat)) 8 c = A 8 c := fun c hc => show up (A 8) t _ c = A 8 c from up_n hc
  have i0s : (up I 0 (up (I 0) t (nP (aks A Ls t) (C 1).toNat))) 0 t = nP (askQ C (wtgA C A t s) t s) (C 1).toNat := by rw [← hN]; exact up_s
  have i0o : ∀ c, ¬ c = t → (up I 0 (up (I 0) t (nP (aks A Ls t) (C 1).toNat))) 0 c = I 0 c := fun c hc => show up (I 0) t _ c = I 0 c from up_n hc
  have ix : IX n (fun x => x = t) C (up (wtgA C A t s) 8 (ask8 C (wtgA C A t s) t s (C 1).toNat)) (up I 0 (up (I 0) t (nP (aks A Ls t) (C 1).toNat))) Ls := by
    refine ⟨?_, g1.cg rfl rfl rfl rfl rfl, g2, g3, ⟨fun t' h1 h2 => ?_, fun t' h1 => ?_, fun t' h1 => ?_⟩, g5.lck b g1 ht op.1 hn (v := (up (wtgA C A t s) 8 (ask8 C (wtgA C A t s) t s (C 1).toNat))) rfl rfl rfl rfl rfl rfl rfl, fun t' h1 h2 => ?_, ⟨fun q hq hz => ?_, g6.2⟩, g7, g8⟩
    · refine ((b.s1 (lckF_b b (by omega))).t4 (by decide)).s8 (fun j => ?_)
      show 0 ≤ up (A 8) t (A 8 t + nP (askQ C (wtgA C A t s) t s) (C 1).toNat) j ∧ up (A 8) t (A 8 t + nP (askQ C (wtgA C A t s) t s) (C 1).toNat) j ≤ 10
      by_cases e : j = t
      · rw [e, up_s]; omega
      · rw [up_n e]; exact b.v8 j
    · by_cases e : t' = t
      · subst e
        have h2 : 0 < A 5 t' := h2
        omega
      · rw [a4o t' e]; exact g4.1 t' h1 h2
    · by_cases e : t' = t
      · rw [e, a4s] at h1; exact absurd h1 (by decide)
      · rw [a4o t' e] at h1
        rw [a8o t' e]
        exact g4.2.1 t' h1
    · rw [a4o t' (by omega)]; exact g4.2.2 t' h1
    · intro h4
      rw [a4o t' h2] at h4
      obtain ⟨q1, q2, q3, q4⟩ := gw t' h1 h4
      rw [i0o t' h2, a8o t' h2]
      refine ⟨q1, q2, q3, fun o ho hw hp => ?_⟩
      have := q4 o ho hw hp
      show lckF C A t s (C 2).toNat o = t'
      rcases lck_v (s := s) (o := o) g1 ht with ⟨z1, z2, z3⟩ | ⟨z1, z2⟩
      · have := (nocf b g1 g5 ht op.1 hn z3 z2).1
        omega
      · rw [z1]; exact this
    · obtain ⟨m1, m2, m3, m4, m5, m6, m7, m8, m9, m10⟩ := g6.1 q hq hz
      have ne := op.2 q hq hz
      refine ⟨m1, m2, m3, m4, m5, ?_, ?_, m8, m9, m10⟩
      · show A 18 q ≤ 3 → (up (wtgA C A t s) 8 (ask8 C (wtgA C A t s) t s (C 1).toNat)) 4 (A 19 q).toNat = 2 ∨ (up (wtgA C A t s) 8 (ask8 C (wtgA C A t s) t s (C 1).toNat)) 4 (A 19 q).toNat = 3
        rw [a4o _ ne]; exact m6
      · show A 18 q = 4 → (up (wtgA C A t s) 8 (ask8 C (wtgA C A t s) t s (C 1).toNat)) 4 (A 19 q).toNat = 2
        rw [a4o _ ne]; exact m7
  have c0 : cM (R3 t) C (up (wtgA C A t s) 8 (ask8 C (wtgA C A t s) t s (C 1).toNat)) = 0 := by
    refine nP_0 _ (fun q hq z => ?_)
    have z : A 19 q = t ∧ (1 ≤ A 18 q ∧ A 18 q ≤ 3) := z
    exact op.2 q hq (by omega) (by omega)
  have iv : IX (n + 1) (fun x => x = t) (bcl (askQ C (wtgA C A t s) t s) s 1 t (C, (up (wtgA C A t s) 8 (ask8 C (wtgA C A t s) t s (C 1).toNat)), (up I 0 (up (I 0) t (nP (aks A Ls t) (C 1).toNat))), Ls) (C 1).toNat).1 (bcl (askQ C (wtgA C A t s) t s) s 1 t (C, (up (wtgA C A t s) 8 (ask8 C (wtgA C A t s) t s (C 1).toNat)), (up I 0 (up (I 0) t (nP (aks A Ls t) (C 1).toNat))), Ls) (C 1).toNat).2.1 (bcl (askQ C (wtgA C A t s) t s) s 1 t (C, (up (wtgA C A t s) 8 (ask8 C (wtgA C A t s) t s (C 1).toNat)), (up I 0 (up (I 0) t (nP (aks A Ls t) (C 1).toNat))), Ls) (C 1).toNat).2.2.1 (bcl (askQ C (wtgA C A t s) t s) s 1 t (C, (up (wtgA C A t s) 8 (ask8 C (wtgA C A t s) t s (C 1).toNat)), (up I 0 (up (I 0) t (nP (aks A Ls t) (C 1).toNat))), Ls) (C 1).toNat).2.2.2 := ix_bcl (p := (C, (up (wtgA C A t s) 8 (ask8 C (wtgA C A t s) t s (C 1).toNat)), (up I 0 (up (I 0) t (nP (aks A Ls t) (C 1).toNat))), Ls)) (P := askQ C (wtgA C A t s) t s) (a := s) (t := t) (so := 1) ix (fun u hu e => hu.1 e.symm) (by show (s : Int) < C 1; omega) (by decide) ht (fun _ => Or.inr a4s) (fun z => by omega) (fun z => by omega) (by show (s : Int) = A 3 t; exact es.symm) (by decide) (fun t' _ h => Or.inr h) (fun s' hs' => by
    show A 21 s' + cM (R5 s') C A + pI (askQ C (wtgA C A t s) t s s' ∧ (1 : Int) = 5) ≤ C 6
    rw [pI_n (fun z => absurd z.2 (by decide))]
    have := g7.2.2 s' hs'
    omega) h55
  have hm := mso_bcl (p := (C, (up (wtgA C A t s) 8 (ask8 C (wtgA C A t s) t s (C 1).toNat)), (up I 0 (up (I 0) t (nP (aks A Ls t) (C 1).toNat))), Ls)) (P := askQ C (wtgA C A t s) t s) (a := s) (so := 1) (t := t) (by show 0 ≤ C 5; exact b5.1) (u := (C 1).toNat) (by omega)
  have sa := bcl_s (P := askQ C (wtgA C A t s) t s) (a := s) (so := 1) (t := t) (p := (C, (up (wtgA C A t s) 8 (ask8 C (wtgA C A t s) t s (C 1).toNat)), (up I 0 (up (I 0) t (nP (aks A Ls t) (C 1).toNat))), Ls)) (C 1).toNat
  have u8 := bcs_u8 (P := askQ C (wtgA C A t s) t s) (a := s) (so := 1) (t := t) (C := C) (A := (wtgA C A t s)) (f := ask8 C (wtgA C A t s) t s (C 1).toNat) (C 1).toNat
  have eC : (askB C (wtgA C A t s) t s (C 1).toNat).1 = (bcl (askQ C (wtgA C A t s) t s) s 1 t (C, (up (wtgA C A t s) 8 (ask8 C (wtgA C A t s) t s (C 1).toNat)), (up I 0 (up (I 0) t (nP (aks A Ls t) (C 1).toNat))), Ls) (C 1).toNat).1 := by rw [sa.1]; exact u8.1.symm
  have eA : up (askB C (wtgA C A t s) t s (C 1).toNat).2 8 (ask8 C (wtgA C A t s) t s (C 1).toNat) = (bcl (askQ C (wtgA C A t s) t s) s 1 t (C, (up (wtgA C A t s) 8 (ask8 C (wtgA C A t s) t s (C 1).toNat)), (up I 0 (up (I 0) t (nP (aks A Ls t) (C 1).toNat))), Ls) (C 1).toNat).2.1 := by rw [sa.2.1]; exact u8.2.symm
  have c := bcl_c (P := fun u : Nat => aks (wtA A Ls t) Ls t u ∧ ¬ (u : Int) = -1) (P' := askQ C (wtgA C A t s) t s) (a := A 3 t) (a' := s) (so := 1) (t := t) (t' := t) (C := C) (A := wtA A Ls t) (A' := (up (wtgA C A t s) 8 (ask8 C (wtgA C A t s) t s (C 1).toNat))) (I := (up I 0 (up (I 0) t (nP (aks A Ls t) (C 1).toNat)))) (Ls := Ls) hP (C 1).toNat
  have sb := bcl_s (P := fun u : Nat => aks (wtA A Ls t) Ls t u ∧ ¬ (u : Int) = -1) (a := A 3 t) (so := 1) (t := t) (p := (C, wtA A Ls t, (up I 0 (up (I 0) t (nP (aks A Ls t) (C 1).toNat))), Ls)) (C 1).toNat
  refine ⟨eC.trans c.1.symm, ?_, ?_⟩
  · unfold wtS
    rw [sb.2.1]
    show SmA (bcs _ (A 3 t) 1 t C (wtA A Ls t) (C 1).toNat).2 _
    rw [es, ewt]
    have := (bcs_sm (a := (s : Int)) (so := 1) (t := t) (C := C) (SmA.rf (A := (wtgA C A t s))) hP (C 1).toNat).2
    rw [ewt] at this
    intro k h7 h8 h14 h15 h18 h20 h21
    rw [up_n h8]
    exact this k h7 h8 h14 h15 h18 h20 h21
  · have e2 : (wtS C A I Ls t).2.2 = (bcl (askQ C (wtgA C A t s) t s) s 1 t (C, (up (wtgA C A t s) 8 (ask8 C (wtgA C A t s) t s (C 1).toNat)), (up I 0 (up (I 0) t (nP (aks A Ls t) (C 1).toNat))), Ls) (C 1).toNat).2.2 := c.2
    rw [eC, eA, e2]
    refine iv.v (fun t' ht' e => ?_)
    have e : t' = t := e
    rw [e]
    intro _
    refine ⟨?_, ?_, ?_, fun o ho hw hp => ?_⟩
    · rw [hm.2.2.1 0 (by decide), hm.2.1 8 (by decide), hm.2.1 7 (by decide)]
      show (up I 0 (up (I 0)  t (nP (aks A Ls t) (C 1).toNat))) 0 t = (up (wtgA C A t s) 8 (ask8 C (wtgA C A t s) t s (C 1).toNat)) 8 t - A 7 t
      rw [i0s, a8s, p3.1, Int.sub_zero]
    · rw [hm.2.2.1 0 (by decide), sa.1, sa.2.1, cM_b (by exact b5.1)]
      show _ = cM (R3 t) C (up (wtgA C A t s) 8 (ask8 C (wtgA C A t s) t s (C 1).toNat)) + _
      rw [c0, Int.zero_add]
      show (up I 0 (up (I 0) t (nP (aks A Ls t) (C 1).toNat))) 0 t = _
      rw [i0s]
      refine nP_e _ (fun u _ => ⟨fun z => ⟨z, rfl, by decide⟩, fun z => z.1⟩)
    · rw [hm.2.1 8 (by decide), hm.2.1 7 (by decide)]
      show 0 ≤ A 7 t ∧ (up (wtgA C A t s) 8 (ask8 C (wtgA C A t s) t s (C 1).toNat)) 8 t ≤ 6
      rw [a8s, p3.1]
      omega
    · rw [hm.wt] at hw
      rw [hm.1 2 (by decide)] at ho
      rw [hm.2.1 0 (by decide), hm.2.1 3 (by decide)] at hp
      rw [hm.2.1 1 (by decide)]
      show lckF C A t s (C 2).toNat o = t
      have hw : Wt A Ls t o := hw
      have ho : o < (C 2).toNat := ho
      have h00 := g3.2.2.2.2.2.2.2 o ho
      have v0 := b.v0 o
      rcases lck_v (s := s) (o := o) g1 ht with ⟨z1, -⟩ | ⟨-, z2⟩
      · exact z1
      · have ne : ¬ A 0 o = s := fun z => z2 ⟨z, hw⟩
        rcases hp with z | z
        · have z : A 0 o = A 3 t := z
          rw [es] at z
          exact absurd z ne
        · have pq : askQ C (wtgA C A t s) t s (A 0 o).toNat := by
            refine ⟨by omega, ?_⟩
            obtain ⟨r1, r2⟩ := (wrq_wt g1 ht (s := (A 0 o).toNat) (o := o)).mpr ⟨by omega, hw⟩
            exact ⟨o, r1, r2⟩
          obtain ⟨q, q1, q2, q3, q4, q5⟩ := bcs_ex (P := askQ C (wtgA C A t s) t s) (a := s) (so := 1) (t := t) (C := C) (A := (up (wtgA C A t s) 8 (ask8 C (wtgA C A t s) t s (C 1).toNat))) b5.1 (C 1).toNat (A 0 o).toNat (by omega) pq
          refine absurd ?_ (z q (by rw [sa.1]; exact q1))
          unfold pnd
          rw [sa.2.1]
          refine ⟨q5, Or.inl ⟨q4, ?_⟩⟩
          show (bcs (askQ C (wtgA C A t s) t s) s 1 t C (up (wtgA C A t s) 8 (ask8 C (wtgA C A t s) t s (C 1).toNat)) (C 1).toNat).2 17 q = A 0 o
          rw [q3]
          omega
end P9
