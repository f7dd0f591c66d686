section P17
variable {C C' : Nat → Int} {A A' B B' I I' : Nat → Nat → Int} {Ls Ls' : Nat → List Nat} {n : Nat}
/-- object -/
theorem obj_step {s : Int} {wb : Bool} (v : IV n C A I Ls) (hs : 0 ≤ s ∧ s < C 1) (h2 : ¬ C 2 = 200) : IV (n + 1) (up C 2 (C 2 + 1)) (obA C A s wb) I (up Ls 0 (Ls 0 ++ [(C 2).toNat])) := by
  obtain ⟨b, g1, g2, g3, g4, g5, gw, g6, g7, g8, w2, w3, w4, w5⟩ := v
  have b1 := b.c1
  have b2 := b.c2
  have b3 := b.c3
  obtain ⟨o, eo⟩ : ∃ o, o = (C 2).toNat := ⟨_, rfl⟩
  rw [← eo]
  have q1 : up C 2 (C 2 + 1) 1 = C 1 := rfl
  have q2 : (up C 2 (C 2 + 1) 2).toNat = o + 1 := by show (C 2 + 1).toNat = o + 1; omega
  have q3 : up C 2 (C 2 + 1) 3 = C 3 := rfl
  have hA : ∀ j, ¬ j = o → obA C A s wb 0 j = A 0 j ∧ obA C A s wb 1 j = A 1 j ∧ obA C A s wb 2 j = A 2 j := fun j hj => by
    rw [eo] at hj
    exact ⟨show up (A 0) (C 2).toNat s j = A 0 j from up_n hj, show up (A 1) (C 2).toNat (-1) j = A 1 j from up_n hj, show up (A 2) (C 2).toNat (bI wb) j = A 2 j from up_n hj⟩
  have hAs : obA C A s wb 0 o = s ∧ obA C A s wb 1 o = -1 := by
    rw [eo]
    exact ⟨show up (A 0) (C 2).toNat s (C 2).toNat = s from up_s, show up (A 1) (C 2).toNat (-1) (C 2).toNat = -1 from up_s⟩
  have Lo : ∀ i, ¬ i = 0 → up Ls 0 (Ls 0 ++ [o]) i = Ls i := fun i hi => up_n hi
  have Lw : ∀ t', up Ls 0 (Ls 0 ++ [o]) (500 + 2 * t') = Ls (500 + 2 * t') := fun t' => Lo _ (by omega)
  have Lc : ∀ t', up Ls 0 (Ls 0 ++ [o]) (501 + 2 * t') = Ls (501 + 2 * t') := fun t' => Lo _ (by omega)
  have L20 : Ls (20 + 2 * o) = [] := g8 _ (by unfold lvl; omega)
  have L21 : Ls (21 + 2 * o) = [] := g8 _ (by unfold lvl; omega)
  have hl := lst_c (A := A) (A' := obA C A s wb) rfl rfl rfl
  have ew : Wt (obA C A s wb) (up Ls 0 (Ls 0 ++ [o])) = Wt A Ls := by
    funext t' o'
    unfold Wt
    rw [Lo _ (by omega)]
    rfl
  have nw : ∀ t, t < (C 3).toNat → ¬ Wt A Ls t o := fun t ht w => by have := (w.pl g1 ht).1; omega
  refine ⟨?_, ⟨fun k hk => ?_, fun t x ht hx => ?_, fun k hk h11 => ?_, fun t ht => ?_, fun t x y ht hx hy he => ?_, fun t x ht hx => ?_, fun t ht => ?_⟩, ⟨fun o' k ho => ?_, fun o' k ho => ?_, fun o' ho => ?_, fun o' ho => ?_⟩, ⟨g3.1, g3.2.1, g3.2.2.1, g3.2.2.2.1, g3.2.2.2.2.1, g3.2.2.2.2.2.1, g3.2.2.2.2.2.2.1, fun o' ho => ?_⟩, g4, ⟨fun o' t ho hl => ?_, fun o' c ho hc hn hw hna => ?_⟩, fun t ht => ?_, ⟨g6.1, g6.2.1, fun s' hs' => ?_⟩, ⟨fun s' hs' => ?_, fun s' x hs' hx => ?_, g7.2.2⟩, fun i hi => ?_, w2, w3, ?_, ?_⟩
  · exact (((b.t0 ⟨by omega, by omega⟩).t2 (by cases wb <;> simp [bI])).t1 ⟨by decide, by decide⟩).d2 ⟨by omega, by omega⟩
  · have q := g1.1 k hk
    refine ⟨q.1, ⟨q.2.1.1, ?_⟩, ?_, q.2.2.2⟩
    · show A 10 k < C 2 + 1
      omega
    · show A 11 k = 0 ↔ obA C A s wb 2 (A 10 k).toNat = 0
      rw [(hA _ (by omega)).2.2]
      exact q.2.2.1
  · rw [Lo _ (by omega)] at hx; exact g1.2.1 t x ht hx
  · obtain ⟨x, x1, x2⟩ := g1.2.2.1 k hk h11
    exact ⟨x, by rw [Lo _ (by omega)]; exact x1, x2⟩
  · rw [Lo _ (by omega)]; exact g1.2.2.2.1 t ht
  · rw [Lo _ (by omega)] at hx hy; exact g1.2.2.2.2.1 t x y ht hx hy he
  · rw [Lo _ (by omega)] at hx
    rw [hl]
    exact g1.2.2.2.2.2.1 t x ht hx
  · rw [Lo _ (by omega)]; exact g1.2.2.2.2.2.2 t ht
  · rw [q2] at ho
    rw [Lo _ (by omega)]
    simp only [Lw]
    by_cases e : o' = o
    · rw [e, L20]
      constructor
      · intro z; exact absurd z (List.not_mem_nil)
      · rintro ⟨t, t1, t2, t3, t4⟩
        exact absurd ⟨k, t3, t4⟩ (nw t t1)
    · exact g2.1 o' k (by omega)
  · rw [q2] at ho
    rw [Lo _ (by omega)]
    simp only [Lc]
    by_cases e : o' = o
    · rw [e, L21]
      constructor
      · intro z; exact absurd z (List.not_mem_nil)
      · rintro ⟨t, t1, t2, t3, t4⟩
        have := (g1.1 k ((c501 g1 t1).mp t3).1).2.1
        have t4 : (A 10 k).toNat = o := t4
        omega
    · exact g2.2.1 o' k (by omega)
  · rw [q2] at ho
    rw [Lo _ (by omega), Lo _ (by omega)]
    by_cases e : o' = o
    · rw [e, L20, L21]; exact ⟨List.nodup_nil, List.nodup_nil⟩
    · exact g2.2.2.1 o' (by omega)
  · rw [q2] at ho
    rw [Lo _ (by omega)]
    by_cases e : o' = o
    · rw [e, L20]; exact List.Pairwise.nil
    · exact g2.2.2.2 o' (by omega)
  · rw [q2] at ho
    by_cases e : o' = o
    · rw [e, hAs.1]; exact hs.2
    · rw [(hA o' e).1]; exact g3.2.2.2.2.2.2.2 o' (by omega)
  · rw [q2] at ho
    rw [ew]
    by_cases e : o' = o
    · rw [e, hAs.2] at hl; omega
    · rw [(hA o' e).2.1] at hl
      exact g5.1 o' t (by omega) hl
  · rw [q2] at ho
    rw [ew] at hw
    have ne : ¬ o' = o := fun e => nw c hc (by rw [← e]; exact hw)
    rw [(hA o' ne).2.1]
    refine g5.2 o' c (by omega) hc hn hw (fun z => hna ?_)
    rw [(hA o' ne).1]
    exact z
  · intro h3
    obtain ⟨z1, z2, z3, z4⟩ := gw t ht h3
    refine ⟨z1, z2, z3, fun o' ho hw hp => ?_⟩
    rw [q2] at ho
    rw [ew] at hw
    have ne : ¬ o' = o := fun e => nw t ht (by rw [← e]; exact hw)
    rw [(hA o' ne).2.1]
    rw [(hA o' ne).1] at hp
    exact z4 o' (by omega) hw hp
  · rw [Lo _ (by omega)]; exact g6.2.2 s' hs'
  · rw [Lo _ (by omega)]; exact g7.1 s' hs'
  · rw [Lo _ (by omega)] at hx; exact g7.2.1 s' x hs' hx
  · have h0 : ¬ lvl C i := fun z => hi (by
      unfold lvl at z ⊢
      rw [q1, q2, q3]
      omega)
    rw [Lo i (fun e => h0 (Or.inl e))]
    exact g8 i h0
  · show C 2 + 1 + C 3 + C 4 ≤ _
    omega
  · show C 5 ≤ _
    omega
/-- begin -/
theorem beg_step {s : Int} (v : IV n C A I Ls) (hs : 0 ≤ s ∧ s < C 1) (h3 : ¬ C 3 = 500) : IV (n + 1) (up C 3 (C 3 + 1)) (bgA C A s) (up I 0 (up (I 0) (C 3).toNat 0)) (up Ls 1 (Ls 1 ++ [(C 3).toNat])) := by
  obtain ⟨b, g1, g2, g3, g4, g5, gw, g6, g7, g8, w2, w3, w4, w5⟩ := v
  have b1 := b.c1
  have b2 := b.c2
  have b3 := b.c3
  obtain ⟨t, et⟩ : ∃ t, t = (C 3).toNat := ⟨_, rfl⟩
  have q1 : up C 3 (C 3 + 1) 1 = C 1 := rfl
  have q2 : up C 3 (C 3 + 1) 2 = C 2 := rfl
  have q3 : (up C 3 (C 3 + 1) 3).toNat = t + 1 := by show (C 3 + 1).toNat = t + 1; omega
  have a3o : ∀ j, ¬ j = t → bgA C A s 3 j = A 3 j := fun j hj => by
    rw [et] at hj
    exact show up (A 3) (C 3).toNat s j = A 3 j from up_n hj
  have a3s : bgA C A s 3 t = s := by rw [et]; exact show up (A 3) (C 3).toNat s (C 3).toNat = s from up_s
  have a6o : ∀ t' u, ¬ t' = t → u < 6 → bgA C A s 6 (6 * t' + u) = A 6 (6 * t' + u) := fun t' u hj hu => by
    show stF (up A 3 (up (A 3) (C 3).toNat s)) (C 3).toNat s.toNat (C 1).toNat (6 * t' + u) = A 6 (6 * t' + u)
    unfold stF
    rw [if_neg (by omega)]
    rfl
  have a6s : ∀ u, u < (C 1).toNat → bgA C A s 6 (6 * t + u) = A 13 (6 * s.toNat + u) := fun u hu => by
    show stF (up A 3 (up (A 3) (C 3).toNat s)) (C 3).toNat s.toNat (C 1).toNat (6 * t + u) = _
    unfold stF
    rw [if_pos (by omega), show 6 * t + u - 6 * (C 3).toNat = u by omega]
    rfl
  have t45 := g4.2.2 t (by omega)
  rw [← et]
  have Lo : ∀ i, ¬ i = 1 → up Ls 1 (Ls 1 ++ [t]) i = Ls i := fun i hi => up_n hi
  have Lw : ∀ t', up Ls 1 (Ls 1 ++ [t]) (500 + 2 * t') = Ls (500 + 2 * t') := fun t' => Lo _ (by omega)
  have Lc : ∀ t', up Ls 1 (Ls 1 ++ [t]) (501 + 2 * t') = Ls (501 + 2 * t') := fun t' => Lo _ (by omega)
  have i0o : ∀ j, ¬ j = t → up I 0 (up (I 0) t 0) 0 j = I 0 j := fun j hj => show up (I 0) t 0 j = I 0 j from up_n hj
  have L50 : Ls (500 + 2 * t) = [] := g8 _ (by unfold lvl; omega)
  have L51 : Ls (501 + 2 * t) = [] := g8 _ (by unfold lvl; omega)
  have hl := lst_c (A := A) (A' := bgA C A s) rfl rfl rfl
  have ew : Wt (bgA C A s) (up Ls 1 (Ls 1 ++ [t])) = Wt A Ls := by
    funext t' o'
    unfold Wt
    rw [Lo _ (by omega)]
    rfl
  have nw : ∀ o, ¬ Wt A Ls t o := fun o ⟨x, x1, _⟩ => by rw [L50] at x1; exact absurd x1 (List.not_mem_nil)
  have vis : ∀ c t', c < t → t' < t → visB (bgA C A s) c t' = visB A c t' := fun c t' hc ht' => by
    have := b.v3 c
    unfold visB
    rw [a3o c (by omega), a6o t' _ (by omega) (by omega)]
    rfl
  have lt3 : ∀ {x : Nat}, x < t + 1 → ¬ x = t → x < (C 3).toNat := fun h1 h2 => by omega
  refine ⟨?_, ⟨fun k hk => ?_, fun t' x ht hx => ?_, fun k hk h11 => ?_, fun t' ht => ?_, fun t' x y ht hx hy he => ?_, fun t' x ht hx => ?_, fun t' ht => ?_⟩, ⟨fun o' k ho => ?_, fun o' k ho => ?_, fun o' ho => ?_, fun o' ho => ?_⟩, ⟨fun t' ht => ?_, fun t' u ht hu => ?_, g3.2.2.1, g3.2.2.2.1, g3.2.2.2.2.1, ?_, fun t' ht => ?_, g3.2.2.2.2.2.2.2⟩, ⟨fun t' ht h5 => ?_, g4.2.1, fun t' ht => ?_⟩, ⟨fun o' t' ho hl => ?_, fun o' c ho hc hn hw hna => ?_⟩, fun t' ht => ?_, ⟨fun q hq h0 => ?_, fun q hq => ?_, fun s' hs' => ?_⟩, ⟨fun s' hs' => ?_, fun s' x hs' hx => ?_, g7.2.2⟩, fun i hi => ?_, w2, w3, ?_, ?_⟩
  · refine ((b.t3 (m := (C 3).toNat) (x := s) ⟨by omega, by omega⟩).s6 (fun j => ?_)).d3 ⟨by omega, by omega⟩
    unfold stF
    split
    · exact b.v13 _
    · exact b.v6 _
  · have q := g1.1 k hk
    refine ⟨⟨q.1.1, ?_⟩, q.2⟩
    show A 9 k < C 3 + 1
    omega
  · rw [q3] at ht
    rw [Lo _ (by omega)] at hx
    by_cases e : t' = t
    · rw [e, L50] at hx; exact absurd hx (List.not_mem_nil)
    · exact g1.2.1 t' x (lt3 ht e) hx
  · obtain ⟨x, x1, x2⟩ := g1.2.2.1 k hk h11
    exact ⟨x, by rw [Lo _ (by omega)]; exact x1, x2⟩
  · rw [q3] at ht
    rw [Lo _ (by omega)]
    by_cases e : t' = t
    · rw [e, L50]; exact List.nodup_nil
    · exact g1.2.2.2.1 t' (lt3 ht e)
  · rw [q3] at ht
    rw [Lo _ (by omega)] at hx hy
    by_cases e : t' = t
    · rw [e, L50] at hx; exact absurd hx (List.not_mem_nil)
    · exact g1.2.2.2.2.1 t' x y (lt3 ht e) hx hy he
  · rw [q3] at ht
    rw [Lo _ (by omega)] at hx
    rw [hl]
    by_cases e : t' = t
    · rw [e, L50] at hx; exact absurd hx (List.not_mem_nil)
    · exact g1.2.2.2.2.2.1 t' x (lt3 ht e) hx
  · rw [q3] at ht
    rw [Lo _ (by omega)]
    by_cases e : t' = t
    · rw [e, L51]
      refine (List.filter_eq_nil_iff.mpr (fun k hk => ?_)).symm
      have hk := List.mem_range.mp hk
      have := (g1.1 k hk).1
      rw [decide_eq_true_eq]
      intro z
      have z1 : A 9 k = t := z.1
      omega
    · exact g1.2.2.2.2.2.2 t' (lt3 ht e)
  · simp only [Lw]
    rw [Lo _ (by omega), q3]
    refine (g2.1 o' k ho).trans ⟨fun ⟨c, c1, c2⟩ => ⟨c, by omega, c2⟩, fun ⟨c, c1, c2, c3⟩ => ⟨c, lt3 c1 (fun e => ?_), c2, c3⟩⟩
    rw [e] at c2
    have c2 : 0 < A 5 t := c2
    omega
  · simp only [Lc]
    rw [Lo _ (by omega), q3]
    refine (g2.2.1 o' k ho).trans ⟨fun ⟨c, c1, c2⟩ => ⟨c, by omega, c2⟩, fun ⟨c, c1, c2, c3⟩ => ⟨c, lt3 c1 (fun e => ?_), c2, c3⟩⟩
    rw [e] at c2
    have c2 : 0 < A 5 t := c2
    omega
  · rw [Lo _ (by omega), Lo _ (by omega)]; exact g2.2.2.1 o' ho
  · rw [Lo _ (by omega)]
    refine (g2.2.2.2 o' ho).imp_of_mem (fun {x y} hx hy h => ?_)
    obtain ⟨c, c1, c2, c3, c4⟩ := (g2.1 o' x ho).mp hx
    obtain ⟨d, d1, d2, d3, d4⟩ := (g2.1 o' y ho).mp hy
    have e1 := (g1.2.1 c x c1 c3).2.1
    have e2 := (g1.2.1 d y d1 d3).2.1
    show visB _ (A 9 x).toNat (A 9 y).toNat = true ∧ visB _ (A 9 y).toNat (A 9 x).toNat = false
    rw [vis _ _ (by omega) (by omega), vis _ _ (by omega) (by omega)]
    exact h
  · rw [q3] at ht
    show A 5 t' ≤ A 14 (bgA C A s 3 t').toNat
    by_cases e : t' = t
    · rw [e, t45.2]; exact (b.v14 _).1
    · rw [a3o t' e]; exact g3.1 t' (lt3 ht e)
  · rw [q3] at ht
    have hu : u < (C 1).toNat := hu
    by_cases e : t' = t
    · rw [e, a6s u hu]; exact g3.2.2.1 s.toNat u (by omega) hu
    · rw [a6o t' u e (by omega)]; exact g3.2.1 t' u (lt3 ht e) hu
  · rw [q3]
    show C 6 = nP (fun t => 0 < A 5 t) t + pI (0 < A 5 t)
    rw [pI_n (by omega), Int.add_zero, et]
    exact g3.2.2.2.2.2.1
  · rw [q3] at ht
    by_cases e : t' = t
    · rw [e, a3s]; exact hs.2
    · rw [a3o t' e]; exact g3.2.2.2.2.2.2.1 t' (lt3 ht e)
  · rw [q3] at ht
    have h5 : 0 < A 5 t' := h5
    exact g4.1 t' (lt3 ht (fun e => by rw [e] at h5; omega)) h5
  · rw [q3] at ht
    exact g4.2.2 t' (by omega)
  · rw [ew]
    have z := g5.1 o' t' ho hl
    rw [q3]
    refine ⟨by omega, z.2.1, fun c hc hn h5 hw => ?_⟩
    have h5 : 0 < A 5 c := h5
    have hc' := lt3 hc (fun e => by rw [e] at h5; omega)
    rw [vis c t' (by omega) (by omega)]
    exact z.2.2 c hc' hn h5 hw
  · rw [q3] at hc
    rw [ew] at hw
    have hn : 0 < A 5 c := hn
    have ne : ¬ c = t := fun e => by rw [e] at hn; omega
    refine g5.2 o' c ho (lt3 hc ne) hn hw (fun z => hna ?_)
    rw [a3o c ne]
    exact z
  · rw [q3] at ht
    intro h4
    have h4 : A 4 t' = 3 := h4
    have ne : ¬ t' = t := fun e => by rw [e, t45.1] at h4; omega
    obtain ⟨z1, z2, z3, z4⟩ := gw t' (lt3 ht ne) h4
    rw [i0o t' ne]
    refine ⟨z1, z2, z3, fun o' ho hw hp => ?_⟩
    rw [ew] at hw
    rw [a3o t' ne] at hp
    exact z4 o' ho hw hp
  · have m19 := (g6.2.1 q hq).1
    obtain ⟨m1, m2, m3, m4, m5, m6, m7, m8, m9, m10⟩ := g6.1 q hq h0
    refine ⟨m1, m2, m3, m4, m5, m6, m7, m8, ?_, ?_⟩
    · rw [show bgA C A s 19 q = A 19 q from rfl, a3o _ (by omega)]; exact m9
    · rw [show bgA C A s 19 q = A 19 q from rfl, a3o _ (by omega)]; exact m10
  · have m := g6.2.1 q hq
    refine ⟨⟨m.1.1, ?_⟩, m.2⟩
    show A 19 q < C 3 + 1
    omega
  · rw [Lo _ (by have hs' : s' < (C 1).toNat := hs'; omega)]; exact g6.2.2 s' hs'
  · rw [Lo _ (by omega)]; exact g7.1 s' hs'
  · rw [Lo _ (by omega)] at hx
    obtain ⟨x1, x2, x3, x4⟩ := g7.2.1 s' x hs' hx
    have ne : ¬ x = t := by omega
    rw [q3]
    refine ⟨by omega, x2, by rw [a3o x ne]; exact x3, fun cb => x4 ?_⟩
    obtain ⟨y1, y2⟩ := cb
    rw [a3o x ne] at y1
    refine ⟨y1, fun u hu => ?_⟩
    have y2 : bgA C A s 6 (6 * x + u) ≤ A 13 (6 * s' + u) := y2 u hu
    rw [a6o x u ne (by omega)] at y2
    exact y2
  · have h0 : ¬ lvl C i := fun z => hi (by
      unfold lvl at z ⊢
      rw [q1, q2, q3]
      omega)
    rw [Lo i (fun e => h0 (Or.inr (Or.inl e)))]
    exact g8 i h0
  · show C 2 + (C 3 + 1) + C 4 ≤ _
    omega
  · show C 5 ≤ _
    omega
end P17
