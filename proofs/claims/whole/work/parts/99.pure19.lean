section P19
variable {C C' : Nat → Int} {A A' B B' I I' : Nat → Nat → Int} {Ls Ls' : Nat → List Nat} {n : Nat}
/-- where c's write stands among the writes of o -/
theorem pos_of (g1 : G1 C A I Ls) (g2 : G2 C A Ls) {o c : Nat} (ho : o < (C 2).toNat) (hp : A 2 o = 0) (hc : c < (C 3).toNat) (h5 : 0 < A 5 c) (hw : wrtB C A c o = true) : ∃ i x : Nat, (Ls (20 + 2 * o))[i]? = some x ∧ x ∈ Ls (500 + 2 * c) ∧ (A 10 x).toNat = o ∧ (A 9 x).toNat = c := by
  obtain ⟨x, x1, x2⟩ := (wrt_wt g1 hc hp).mp hw
  have hm := (g2.1 o x ho).mpr ⟨c, hc, h5, x1, x2⟩
  obtain ⟨i, hi, e⟩ := List.mem_iff_getElem.mp hm
  have := (g1.2.1 c x hc x1).2.1
  exact ⟨i, x, by rw [List.getElem?_eq_getElem hi, e], x1, x2, by omega⟩
theorem pos_vis (g2 : G2 C A Ls) {o i j x y : Nat} (ho : o < (C 2).toNat) (hx : (Ls (20 + 2 * o))[i]? = some x) (hy : (Ls (20 + 2 * o))[j]? = some y) (hij : i < j) : visB A (A 9 x).toNat (A 9 y).toNat = true ∧ visB A (A 9 y).toNat (A 9 x).toNat = false := by
  obtain ⟨hi, ei⟩ := List.getElem?_eq_some_iff.mp hx
  obtain ⟨hj, ej⟩ := List.getElem?_eq_some_iff.mp hy
  have := List.pairwise_iff_getElem.mp (g2.2.2.2 o ho) i j hi hj hij
  rw [ei, ej] at this
  exact this
theorem vis_5 {c t : Nat} (h : visB A c t = true) : 0 < A 5 c := (visB_iff.mp h).1
/-- the latest of those that t sees -/
theorem ltst_c (b : RB C A) (g1 : G1 C A I Ls) (g2 : G2 C A Ls) {t o : Nat} (ho : o < (C 2).toNat) (hp : A 2 o = 0) : ∀ m, m ≤ (C 3).toNat → (ltst C A t o m = -1 ∧ ∀ c, c < m → ¬ (visB A c t = true ∧ wrtB C A c o = true)) ∨ (∃ c0 : Nat, ltst C A t o m = c0 ∧ c0 < m ∧ visB A c0 t = true ∧ wrtB C A c0 o = true ∧ ∀ c, c < m → visB A c t = true → wrtB C A c o = true → ¬ c = c0 → visB A c c0 = true) := by
  intro m
  induction m with
  | zero => intro _; exact Or.inl ⟨rfl, fun c hc => absurd hc (by omega)⟩
  | succ m ih =>
    intro hm
    have ih := ih (by omega)
    have step : ltst C A t o (m + 1) = if visB A m t = true ∧ wrtB C A m o = true ∧ (ltst C A t o m < 0 ∨ visB A (ltst C A t o m).toNat m = true) then (m : Int) else ltst C A t o m := rfl
    rw [step]
    by_cases hv : visB A m t = true ∧ wrtB C A m o = true
    · rcases ih with ⟨e, hno⟩ | ⟨c0, e, c1, c2, c3, c4⟩
      · rw [if_pos ⟨hv.1, hv.2, Or.inl (by omega)⟩]
        refine Or.inr ⟨m, rfl, by omega, hv.1, hv.2, fun c hc h1 h2 hn => absurd ⟨h1, h2⟩ (hno c (by omega))⟩
      · obtain ⟨i, x, i1, _, _, i4⟩ := pos_of g1 g2 ho hp (by omega) (vis_5 hv.1) hv.2
        obtain ⟨j, y, j1, _, _, j4⟩ := pos_of g1 g2 ho hp (show c0 < (C 3).toNat by omega) (vis_5 c2) c3
        have eT : (ltst C A t o m).toNat = c0 := by omega
        have ne : ¬ i = j := fun z => by rw [z, j1] at i1; have := Option.some.inj i1; rw [← this] at i4; omega
        by_cases hb : visB A c0 m = true
        · rw [if_pos ⟨hv.1, hv.2, Or.inr (by rw [eT]; exact hb)⟩]
          refine Or.inr ⟨m, rfl, by omega, hv.1, hv.2, fun c hc h1 h2 hn => ?_⟩
          by_cases z : c = c0
          · rw [z]; exact hb
          · have h3 := c4 c (by omega) h1 h2 z
            obtain ⟨k, w, k1, _, _, k4⟩ := pos_of g1 g2 ho hp (show c < (C 3).toNat by omega) (vis_5 h1) h2
            have kj : k < j := by
              rcases Nat.lt_trichotomy k j with q | q | q
              · exact q
              · rw [q, j1] at k1; have := Option.some.inj k1; rw [← this] at k4; omega
              · have := (pos_vis g2 ho j1 k1 q).2
                rw [k4, j4, h3] at this; cases this
            have ji : j < i := by
              rcases Nat.lt_trichotomy j i with q | q | q
              · exact q
              · exact absurd q.symm ne
              · have := (pos_vis g2 ho i1 j1 q).2
                rw [i4, j4, hb] at this; cases this
            have := (pos_vis g2 ho k1 i1 (by omega)).1
            rw [k4, i4] at this
            exact this
        · rw [if_neg (fun z => z.2.2.elim (fun q => by omega) (fun q => hb (by rw [eT] at q; exact q)))]
          refine Or.inr ⟨c0, e, by omega, c2, c3, fun c hc h1 h2 hn => ?_⟩
          by_cases z : c = m
          · rw [z]
            rcases Nat.lt_trichotomy i j with q | q | q
            · have := (pos_vis g2 ho i1 j1 q).1
              rw [i4, j4] at this; exact this
            · exact absurd q ne
            · have := (pos_vis g2 ho j1 i1 q).1
              rw [i4, j4] at this; exact absurd this hb
          · exact c4 c (by omega) h1 h2 hn
    · rw [if_neg (fun z => hv ⟨z.1, z.2.1⟩)]
      rcases ih with ⟨e, hno⟩ | ⟨c0, e, c1, c2, c3, c4⟩
      · refine Or.inl ⟨e, fun c hc h => ?_⟩
        by_cases z : c = m
        · rw [z] at h; exact hv h
        · exact hno c (by omega) h
      · refine Or.inr ⟨c0, e, by omega, c2, c3, fun c hc h1 h2 hn => ?_⟩
        by_cases z : c = m
        · rw [z] at h1 h2; exact absurd ⟨h1, h2⟩ hv
        · exact c4 c (by omega) h1 h2 hn
theorem rd_own (v : IV n C A I Ls) {t o x : Nat} (ht : t < (C 3).toNat) (hx : x ∈ Ls (500 + 2 * t)) (he : (A 10 x).toNat = o) : rdV C A t o = I 1 x := by
  obtain ⟨b, g1, -⟩ := v
  have w : Wt A Ls t o := ⟨x, hx, he⟩
  have p := w.pl g1 ht
  unfold rdV
  rw [if_pos ((wrt_wt g1 ht p.2).mpr w), g1.2.2.2.2.2.1 t x ht hx, he]
theorem rd_seen (v : IV n C A I Ls) {t o j x : Nat} (ht : t < (C 3).toNat) (ho : o < (C 2).toNat) (hp : A 2 o = 0) (hn : ¬ ∃ x, x ∈ Ls (500 + 2 * t) ∧ (fun k => (A 10 k).toNat = o) x) (hj : (Ls (20 + 2 * o))[j]? = some x) (hv : visB A (A 9 x).toNat t = true) (hl : ∀ q y : Nat, j < q → (Ls (20 + 2 * o))[q]? = some y → visB A (A 9 y).toNat t = false) : rdV C A t o = I 1 x := by
  obtain ⟨b, g1, g2, -⟩ := v
  have nw : ¬ wrtB C A t o = true := fun z => hn ((wrt_wt g1 ht hp).mp z)
  obtain ⟨c, c1, c2, c3, c4⟩ := (g2.1 o x ho).mp (List.mem_of_getElem? hj)
  have c9 := (g1.2.1 c x c1 c3).2.1
  have ec : (A 9 x).toNat = c := by omega
  rw [ec] at hv
  have cw : wrtB C A c o = true := (wrt_wt g1 c1 hp).mpr ⟨x, c3, c4⟩
  unfold rdV
  rw [if_neg nw]
  rcases ltst_c b g1 g2 (t := t) ho hp (C 3).toNat (Nat.le_refl _) with ⟨e, hno⟩ | ⟨c0, e, d1, d2, d3, d4⟩
  · exact absurd ⟨hv, cw⟩ (hno c c1)
  · rw [if_neg (by omega), e, show ((c0 : Int)).toNat = c0 by omega]
    have e0 : c = c0 := by
      by_cases z : c = c0
      · exact z
      · have h3 := d4 c c1 hv cw z
        obtain ⟨k, w, k1, _, _, k4⟩ := pos_of g1 g2 ho hp d1 (vis_5 d2) d3
        rcases Nat.lt_trichotomy j k with q | q | q
        · have := hl k w q k1
          rw [k4, d2] at this; cases this
        · rw [← q, hj] at k1; have := Option.some.inj k1; rw [← this] at k4; omega
        · have := (pos_vis g2 ho k1 hj q).2
          rw [k4, ec, h3] at this; cases this
    rw [← e0, g1.2.2.2.2.2.1 c x c1 c3, c4]
theorem rd_none (v : IV n C A I Ls) {t o : Nat} (ht : t < (C 3).toNat) (ho : o < (C 2).toNat) (hp : A 2 o = 0) (hn : ¬ ∃ x, x ∈ Ls (500 + 2 * t) ∧ (fun k => (A 10 k).toNat = o) x) (hl : ∀ y, y ∈ Ls (20 + 2 * o) → visB A (A 9 y).toNat t = false) : rdV C A t o = 0 := by
  obtain ⟨b, g1, g2, -⟩ := v
  have nw : ¬ wrtB C A t o = true := fun z => hn ((wrt_wt g1 ht hp).mp z)
  unfold rdV
  rw [if_neg nw]
  rcases ltst_c b g1 g2 (t := t) ho hp (C 3).toNat (Nat.le_refl _) with ⟨e, hno⟩ | ⟨c0, e, d1, d2, d3, d4⟩
  · rw [if_pos (by omega)]
  · obtain ⟨k, w, k1, _, _, k4⟩ := pos_of g1 g2 ho hp d1 (vis_5 d2) d3
    have := hl w (List.mem_of_getElem? k1)
    rw [k4, d2] at this; cases this
/-- state -/
theorem st_eq (v : IV n C A I Ls) {t : Nat} {x : Int} (ht : t < (C 3).toNat) (hx : 0 ≤ x ∧ x ≤ 3) : stK C A I t x = stR C A t x := by
  unfold stK stR
  by_cases h0 : x = 0
  · rw [if_pos h0, if_pos h0]
  · rw [if_neg h0, if_neg h0]
    by_cases h1 : x = 1
    · rw [if_pos h1, if_pos h1]
    · rw [if_neg h1, if_neg h1]
      by_cases h2 : x = 2
      · rw [if_pos h2, if_neg (by omega)]
      · rw [if_neg h2, if_pos (show x = 3 by omega)]
        by_cases h3 : A 4 t = 3
        · rw [if_pos h3, if_pos h3]
          exact (v.2.2.2.2.2.2.1 t ht h3).1
        · rw [if_neg h3, if_neg h3]
end P19
