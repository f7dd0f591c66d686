section P6
variable {C C' : Nat → Int} {A A' I I' : Nat → Nat → Int} {Ls Ls' : Nat → List Nat} {n : Nat}
theorem hnw_f {l : List Nat} {a o : Nat} : ∀ j, j ≤ l.length → hnw A l a Ls j (a + 2 * o) = Ls (a + 2 * o) ++ (l.take j).filter (fun k => decide ((A 10 k).toNat = o)) := by
  intro j
  induction j with
  | zero => intro _; simp [hnw]
  | succ j ih =>
    intro hj
    have hx : l[j]? = some l[j] := List.getElem?_eq_getElem (by omega)
    rw [hnw_s hx, List.take_succ_eq_append_getElem (by omega), List.filter_append, ← List.append_assoc, ← ih (by omega)]
    by_cases e : (A 10 l[j]).toNat = o
    · rw [e, up_s, List.filter_cons_of_pos (by exact decide_eq_true e)]
      rfl
    · rw [up_n (by omega), List.filter_cons_of_neg (by simp [e])]
      simp
theorem hnd_w {t o : Nat} (hc : ∀ x, x ∈ Ls (501 + 2 * t) → (A 10 x).toNat < 200) (ho : o < 200) : hndL A Ls t (20 + 2 * o) = Ls (20 + 2 * o) ++ (Ls (500 + 2 * t)).filter (fun k => decide ((A 10 k).toNat = o)) := by
  unfold hndL
  rw [hnw_o (Or.inr rfl) hc (by omega), hnw_f _ (Nat.le_refl _), List.take_length]
theorem hnd_c {t o : Nat} (hw : ∀ x, x ∈ Ls (500 + 2 * t) → (A 10 x).toNat < 200) (ho : o < 200) : hndL A Ls t (21 + 2 * o) = Ls (21 + 2 * o) ++ (Ls (501 + 2 * t)).filter (fun k => decide ((A 10 k).toNat = o)) := by
  unfold hndL
  rw [hnw_f _ (Nat.le_refl _), List.take_length, hnw_o (Or.inl rfl) hw (by omega)]
theorem hnd_o {t i : Nat} (hw : ∀ x, x ∈ Ls (500 + 2 * t) → (A 10 x).toNat < 200) (hc : ∀ x, x ∈ Ls (501 + 2 * t) → (A 10 x).toNat < 200) (hi : i < 20 ∨ 500 ≤ i) : hndL A Ls t i = Ls i := by
  unfold hndL
  rw [hnw_o (Or.inr rfl) hc (by omega), hnw_o (Or.inl rfl) hw (by omega)]
theorem c501 (g : G1 C A I Ls) {t k : Nat} (ht : t < (C 3).toNat) : k ∈ Ls (501 + 2 * t) ↔ k < (C 4).toNat ∧ A 9 k = t ∧ ¬ A 11 k = 0 := by
  rw [g.2.2.2.2.2.2 t ht, List.mem_filter, List.mem_range, decide_eq_true_eq]
/-- a commit made: t gets its number, its site applies it, the items get its writes and changes -/
theorem IX.mk {t s : Nat} (v : IX n (fun x => x = t) C A I Ls) (ht : t < (C 3).toNat) (es : A 3 t = s) (h5 : A 5 t = 0) (h4 : A 4 t = 0 ∨ A 4 t = 3) (hq0 : cM (R3 t) C A = 0) (hV : ∀ o c, Wt A Ls t o → c < (C 3).toNat → 0 < A 5 c → Wt A Ls c o → visB A c t = true) (hL : ∀ o, Wt A Ls t o → A 1 o = -1 ∨ A 1 o = t) (hL2 : ∀ o, Wt A Ls t o → A 0 o = s ∨ A 1 o = t) :
    IX n (fun _ => False) (cmC C) (cm1A C A t s) I (hndL (mkA A t) Ls t) ∧ ∀ s' : Nat, s' < (C 1).toNat → cm1A C A t s 21 s' + cM (R5 s') (cmC C) (cm1A C A t s) + 1 ≤ cmC C 6 := by
  obtain ⟨b, g1, g2, g3, g4, g5, gw, g6, g7, g8, w2, w3, w4, w5⟩ := v
  have b1 := b.c1
  have b2 := b.c2
  have b3 := b.c3
  have b6 := b.c6
  have b14 := b.v14 s
  have hs : s < (C 1).toNat := by have := g3.2.2.2.2.2.2.1 t ht; omega
  have k14 := g3.2.2.2.2.1
  have k6 := g3.2.2.2.2.2.1
  have k6b : C 6 ≤ (C 3).toNat - 1 := by rw [k6]; exact nP_lt (q := t) (by omega) _ ht
  have k14s := k14 s
  have hw2 : ∀ x, x ∈ Ls (500 + 2 * t) → (mkA A t 10 x).toNat < 200 := fun x hx => by
    have h1 := g1.2.1 t x ht hx
    have h2 := (g1.1 x h1.1).2.1
    show (A 10 x).toNat < 200
    omega
  have hc2 : ∀ x, x ∈ Ls (501 + 2 * t) → (mkA A t 10 x).toNat < 200 := fun x hx => by
    have h1 := (c501 g1 ht).mp hx
    have h2 := (g1.1 x h1.1).2.1
    show (A 10 x).toNat < 200
    omega
  have lw : ∀ t', hndL (mkA A t) Ls t (500 + 2 * t') = Ls (500 + 2 * t') := fun t' => hnd_o hw2 hc2 (by omega)
  have lc : ∀ t', hndL (mkA A t) Ls t (501 + 2 * t') = Ls (501 + 2 * t') := fun t' => hnd_o hw2 hc2 (by omega)
  have l20 : ∀ o, o < 200 → hndL (mkA A t) Ls t (20 + 2 * o) = Ls (20 + 2 * o) ++ (Ls (500 + 2 * t)).filter (fun k => decide ((A 10 k).toNat = o)) := fun o ho => hnd_w hc2 ho
  have l21 : ∀ o, o < 200 → hndL (mkA A t) Ls t (21 + 2 * o) = Ls (21 + 2 * o) ++ (Ls (501 + 2 * t)).filter (fun k => decide ((A 10 k).toNat = o)) := fun o ho => hnd_c hw2 ho
  have lo : ∀ i, i < 20 → hndL (mkA A t) Ls t i = Ls i := fun i hi => hnd_o hw2 hc2 (by omega)
  have ew : Wt (cm1A C A t s) (hndL (mkA A t) Ls t) = Wt A Ls := by
    funext t' o
    unfold Wt
    rw [lw]
    rfl
  have a5s : cm1A C A t s 5 t = A 14 s + 1 := up_s
  have a5o : ∀ c, ¬ c = t → cm1A C A t s 5 c = A 5 c := fun c hc => show up (A 5) t _ c = A 5 c from up_n hc
  have a4s : cm1A C A t s 4 t = 1 := up_s
  have a4o : ∀ c, ¬ c = t → cm1A C A t s 4 c = A 4 c := fun c hc => show up (A 4) t _ c = A 4 c from up_n hc
  have a14s : cm1A C A t s 14 s = A 14 s + 1 := up_s
  have a14o : ∀ c, ¬ c = s → cm1A C A t s 14 c = A 14 c := fun c hc => show up (A 14) s _ c = A 14 c from up_n hc
  have a13s : cm1A C A t s 13 (6 * s + s) = A 14 s + 1 := up_s
  have a13o : ∀ c, ¬ c = 6 * s + s → cm1A C A t s 13 c = A 13 c := fun c hc => show up (A 13) (6 * s + s) _ c = A 13 c from up_n hc
  have k4 := g3.2.2.2.1 s hs
  have a13g : ∀ c, A 13 c ≤ cm1A C A t s 13 c := fun c => by
    by_cases e : c = 6 * s + s
    · rw [e, a13s, k4]; omega
    · rw [a13o c e]; exact Int.le_refl _
  have a14g : ∀ c, A 14 c ≤ cm1A C A t s 14 c := fun c => by
    by_cases e : c = s
    · rw [e, a14s]; omega
    · rw [a14o c e]; exact Int.le_refl _
  have a1 : ∀ o : Nat, (cm1A C A t s 1 o = -1 ∧ o < (C 2).toNat ∧ A 0 o = s ∧ A 1 o = t) ∨ (cm1A C A t s 1 o = A 1 o ∧ ¬ (o < (C 2).toNat ∧ A 0 o = s ∧ A 1 o = t)) := fun o => by
    show (unlF A t s (C 2).toNat o = -1 ∧ _) ∨ (unlF A t s (C 2).toNat o = A 1 o ∧ _)
    unfold unlF
    by_cases e : o < (C 2).toNat ∧ A 0 o = s ∧ A 1 o = t
    · rw [if_pos e]; exact Or.inl ⟨rfl, e⟩
    · rw [if_neg e]; exact Or.inr ⟨rfl, e⟩
  have viso : ∀ c t', ¬ c = t → visB (cm1A C A t s) c t' = visB A c t' := fun c t' hc => by
    unfold visB
    rw [a5o c hc]
    rfl
  have vist : ∀ c, c < (C 3).toNat → visB (cm1A C A t s) t c = false := fun c hc => by
    rw [visB_f, a5s]
    show ¬ (_ ∧ A 14 s + 1 ≤ A 6 (6 * c + (A 3 t).toNat))
    have := g3.2.1 c s hc hs
    rw [es, show ((s : Int)).toNat = s by omega]
    omega
  -- who wrote an item before is not t
  have old : ∀ o k, o < (C 2).toNat → k ∈ Ls (20 + 2 * o) → ∃ c, c < (C 3).toNat ∧ ¬ c = t ∧ 0 < A 5 c ∧ k ∈ Ls (500 + 2 * c) ∧ (A 10 k).toNat = o ∧ (A 9 k).toNat = c := fun o k ho hk => by
    obtain ⟨c, c1, c2, c3, c4⟩ := (g2.1 o k ho).mp hk
    have := (g1.2.1 c k c1 c3).2.1
    exact ⟨c, c1, fun e => by rw [e] at c2; omega, c2, c3, c4, by omega⟩
  have msg : ∀ q, q < (C 5).toNat → ¬ A 18 q = 0 → ¬ (A 19 q).toNat = t := fun q hq h0 e => by
    have m := g6.1 q hq h0
    obtain ⟨-, -, -, m4, -, m6, m7, m8, -, -⟩ := m
    have m19 := (g6.2.1 q hq).1
    rw [e] at m6 m7 m8
    have nz := nP_z _ hq0 q hq
    have nz : ¬ (A 19 q = t ∧ (1 ≤ A 18 q ∧ A 18 q ≤ 3)) := nz
    have e19 : A 19 q = t := by omega
    rcases (show A 18 q ≤ 3 ∨ A 18 q = 4 ∨ A 18 q = 5 by omega) with h | h | h
    · exact nz ⟨e19, by omega, h⟩
    · have := m7 h; omega
    · have := m8 h; omega
  refine ⟨⟨cm1A_b b (by omega) (by omega), ?_, ⟨fun o k ho => ?_, fun o k ho => ?_, fun o ho => ?_, fun o ho => ?_⟩, ⟨fun t' h => ?_, fun t' u h1 h2 => ?_, fun s' u h1 h2 => ?_, fun s' h1 => ?_, fun s' => ?_, ?_, g3.2.2.2.2.2.2.1, g3.2.2.2.2.2.2.2⟩, ⟨fun t' h1 h2 => ?_, fun t' h1 => ?_, fun t' h1 => ?_⟩, ⟨fun o t' ho h1 => ?_, fun o c ho hc hn hw hna => ?_⟩, fun t' ht' _ => ?_, ⟨fun q hq h0 => ?_, g6.2.1, fun s' hs' => ?_⟩, ⟨fun s' hs' => ?_, fun s' x hs' hx => ?_, fun s' hs' => ?_⟩, fun i hi => ?_, fun h => ?_, w3, w4, w5⟩, fun s' hs' => ?_⟩
  · -- G1
    have hl := lst_c (A := A) (A' := cm1A C A t s) rfl rfl rfl
    unfold G1
    simp only [lw, lc, hl]
    exact g1
  · -- the items' writes
    have ho : o < (C 2).toNat := ho
    rw [l20 o (by omega), List.mem_append, List.mem_filter, decide_eq_true_eq]
    simp only [lw]
    constructor
    · rintro (h | h)
      · obtain ⟨c, c1, c2, c3, c4, c5, -⟩ := old o k ho h
        exact ⟨c, c1, by rw [a5o c c2]; exact c3, c4, c5⟩
      · exact ⟨t, ht, by rw [a5s]; omega, h.1, h.2⟩
    · rintro ⟨c, c1, c2, c3, c4⟩
      by_cases e : c = t
      · subst e; exact Or.inr ⟨c3, c4⟩
      · rw [a5o c e] at c2
        exact Or.inl ((g2.1 o k ho).mpr ⟨c, c1, c2, c3, c4⟩)
  · have ho : o < (C 2).toNat := ho
    rw [l21 o (by omega), List.mem_append, List.mem_filter, decide_eq_true_eq]
    simp only [lc]
    constructor
    · rintro (h | h)
      · obtain ⟨c, c1, c2, c3, c4⟩ := (g2.2.1 o k ho).mp h
        exact ⟨c, c1, by rw [a5o c (fun e => by rw [e] at c2; omega)]; exact c2, c3, c4⟩
      · exact ⟨t, ht, by rw [a5s]; omega, h.1, h.2⟩
    · rintro ⟨c, c1, c2, c3, c4⟩
      by_cases e : c = t
      · subst e; exact Or.inr ⟨c3, c4⟩
      · rw [a5o c e] at c2
        exact Or.inl ((g2.2.1 o k ho).mpr ⟨c, c1, c2, c3, c4⟩)
  · have ho : o < (C 2).toNat := ho
    rw [l20 o (by omega), l21 o (by omega)]
    have nd := g2.2.2.1 o ho
    constructor
    · refine List.nodup_append.mpr ⟨nd.1, (g1.2.2.2.1 t ht).filter _, fun x hx y hy e => ?_⟩
      subst e
      obtain ⟨c, c1, c2, -, c4, -, c6⟩ := old o x ho hx
      have := (g1.2.1 t x ht (List.mem_filter.mp hy).1).2.1
      omega
    · refine List.nodup_append.mpr ⟨nd.2, ?_, fun x hx y hy e => ?_⟩
      · rw [g1.2.2.2.2.2.2 t ht]
        exact (List.nodup_range.filter _).filter _
      · subst e
        obtain ⟨c, c1, c2, c3, c4⟩ := (g2.2.1 o x ho).mp hx
        have q1 := ((c501 g1 c1).mp c3).2.1
        have q2 := ((c501 g1 ht).mp (List.mem_filter.mp hy).1).2.1
        have e : c = t := by omega
        rw [e] at c2
        omega
  · have ho : o < (C 2).toNat := ho
    rw [l20 o (by omega)]
    refine List.pairwise_append.mpr ⟨?_, ?_, fun x hx y hy => ?_⟩
    · refine (g2.2.2.2 o ho).imp_of_mem (fun {x y} hx hy h => ?_)
      obtain ⟨c, -, c2, -, -, -, c6⟩ := old o x ho hx
      obtain ⟨d, -, d2, -, -, -, d6⟩ := old o y ho hy
      show visB _ (A 9 x).toNat (A 9 y).toNat = true ∧ visB _ (A 9 y).toNat (A 9 x).toNat = false
      rw [viso _ _ (by omega), viso _ _ (by omega)]
      exact h
    · refine ((g1.2.2.2.1 t ht).filter _).imp_of_mem (fun {x y} hx hy h => ?_)
      have hx := List.mem_filter.mp hx
      have hy := List.mem_filter.mp hy
      have ex := of_decide_eq_true hx.2
      have ey := of_decide_eq_true hy.2
      have q1 := (g1.1 x (g1.2.1 t x ht hx.1).1).2.1
      have q2 := (g1.1 y (g1.2.1 t y ht hy.1).1).2.1
      exact absurd (g1.2.2.2.2.1 t x y ht hx.1 hy.1 (by omega)) h
    · obtain ⟨c, c1, c2, c3, c4, c5, c6⟩ := old o x ho hx
      have hy := List.mem_filter.mp hy
      have ey := of_decide_eq_true hy.2
      have h9 := (g1.2.1 t y ht hy.1).2.1
      show visB _ (A 9 x).toNat (A 9 y).toNat = true ∧ visB _ (A 9 y).toNat (A 9 x).toNat = false
      rw [show (A 9 y).toNat = t by omega, c6, viso c t c2, vist c c1]
      exact ⟨hV o c ⟨y, hy.1, ey⟩ c1 c3 ⟨x, c4, c5⟩, rfl⟩
  · -- clocks
    show cm1A C A t s 5 t' ≤ cm1A C A t s 14 (A 3 t').toNat
    by_cases e : t' = t
    · subst e
      rw [a5s, es, show ((s : Int)).toNat = s by omega, a14s]
      exact Int.le_refl _
    · rw [a5o t' e]
      exact Int.le_trans (g3.1 t' h) (a14g _)
  · exact Int.le_trans (g3.2.1 t' u h1 h2) (a14g u)
  · have h1 : s' < (C 1).toNat := h1
    have h2 : u < (C 1).toNat := h2
    by_cases e : 6 * s' + u = 6 * s + s
    · have eu : u = s := by omega
      rw [e, a13s, eu, a14s]
      exact Int.le_refl _
    · rw [a13o _ e]
      exact Int.le_trans (g3.2.2.1 s' u h1 h2) (a14g u)
  · have h1 : s' < (C 1).toNat := h1
    by_cases e : s' = s
    · subst e
      rw [a13s, a14s]
    · rw [a13o _ (by omega), a14o _ e]
      exact g3.2.2.2.1 s' h1
  · show _ ≤ C 6 + 1
    have := k14 s'
    by_cases e : s' = s
    · rw [e, a14s]; omega
    · rw [a14o s' e]; omega
  · show C 6 + 1 = nP (fun t' => 0 < cm1A C A t s 5 t') (C 3).toNat
    have := nP_r (P := fun t' => 0 < cm1A C A t s 5 t') (P' := fun t' => 0 < A 5 t') (q := t) (by show 0 < cm1A C A t s 5 t; rw [a5s]; omega) (by omega) (C 3).toNat ht (fun k hk hn => by rw [a5o k hn])
    omega
  · -- phases
    by_cases e : t' = t
    · rw [e]; exact a4s
    · rw [a5o t' e] at h2
      rw [a4o t' e]
      exact g4.1 t' h1 h2
  · by_cases e : t' = t
    · rw [e, a4s] at h1
      exact absurd h1 (by decide)
    · rw [a4o t' e] at h1
      exact g4.2.1 t' h1
  · have h1 : (C 3).toNat ≤ t' := h1
    rw [a4o t' (by omega), a5o t' (by omega)]
    exact g4.2.2 t' h1
  · -- locks
    have ho : o < (C 2).toNat := ho
    rw [ew]
    rcases a1 o with ⟨z1, -⟩ | ⟨z1, z2⟩
    · omega
    · rw [z1] at h1
      have q := g5.1 o t' ho h1
      refine ⟨q.1, q.2.1, fun c hc hn h5c hwc => ?_⟩
      by_cases e : c = t
      · subst e
        have := hL o hwc
        omega
      · rw [a5o c e] at h5c
        rw [viso c t' e]
        exact q.2.2 c hc hn h5c hwc
  · have ho : o < (C 2).toNat := ho
    rw [ew] at hw
    have hna : ¬ cm1A C A t s 5 c ≤ cm1A C A t s 13 (6 * (A 0 o).toNat + (A 3 c).toNat) := hna
    by_cases e : c = t
    · subst e
      have e0 : ¬ A 0 o = s := fun z => hna (by
        rw [z, es, show ((s : Int)).toNat = s by omega, a5s, a13s]
        exact Int.le_refl _)
      have := (hL2 o hw).elim (fun z => absurd z e0) id
      rcases a1 o with ⟨-, z2, z3, -⟩ | ⟨z1, -⟩
      · exact absurd z3 e0
      · rw [z1]; exact this
    · rw [a5o c e] at hn hna
      have := g5.2 o c ho hc hn hw (fun z => hna (Int.le_trans z (a13g _)))
      rcases a1 o with ⟨-, -, -, z4⟩ | ⟨z1, -⟩
      · omega
      · rw [z1]; exact this
  · -- who waits
    intro h
    by_cases e : t' = t
    · rw [e, a4s] at h
      exact absurd h (by decide)
    · rw [a4o t' e] at h
      obtain ⟨q1, q2, q3, q4⟩ := gw t' ht' e h
      refine ⟨q1, q2, q3, fun o ho hw hp => ?_⟩
      rw [ew] at hw
      have := q4 o ho hw hp
      rcases a1 o with ⟨-, -, -, z4⟩ | ⟨z1, -⟩
      · omega
      · rw [z1]; exact this
  · -- messages
    obtain ⟨m1, m2, m3, m4, m5, m6, m7, m8, m9, m10⟩ := g6.1 q hq h0
    have ne := msg q hq h0
    refine ⟨m1, m2, m3, m4, m5, ?_, ?_, ?_, m9, m10⟩
    · show A 18 q ≤ 3 → cm1A C A t s 4 (A 19 q).toNat = 2 ∨ cm1A C A t s 4 (A 19 q).toNat = 3
      rw [a4o _ ne]; exact m6
    · show A 18 q = 4 → cm1A C A t s 4 (A 19 q).toNat = 2
      rw [a4o _ ne]; exact m7
    · show A 18 q = 5 → 0 < cm1A C A t s 5 (A 19 q).toNat
      rw [a5o _ ne]; exact m8
  · rw [lo (3 + 2 * s') (by have hs' : s' < (C 1).toNat := hs'; omega)]
    exact g6.2.2 s' hs'
  · -- what is held
    rw [lo (2 + 2 * s') (by have hs' : s' < (C 1).toNat := hs'; omega)]
    exact g7.1 s' hs'
  · have hs' : s' < (C 1).toNat := hs'
    rw [lo (2 + 2 * s') (by omega)] at hx
    obtain ⟨x1, x2, x3, x4⟩ := g7.2.1 s' x hs' hx
    have ne : ¬ x = t := fun e => by rw [e] at x2; omega
    refine ⟨x1, by rw [a5o x ne]; exact x2, x3, fun cb => x4 ?_⟩
    obtain ⟨y1, y2⟩ := cb
    have y1 : cm1A C A t s 5 x = cm1A C A t s 13 (6 * s' + (A 3 x).toNat) + 1 := y1
    have x6 := b.v3 x
    rw [a5o x ne, a13o _ (fun z => by omega)] at y1
    refine ⟨y1, fun u hu => ?_⟩
    have y2 : A 6 (6 * x + u) ≤ cm1A C A t s 13 (6 * s' + u) := y2 u hu
    by_cases e : 6 * s' + u = 6 * s + s
    · have eu : u = s := by omega
      have es' : s' = s := by omega
      subst eu es'
      show A 6 (6 * x + _) ≤ A 13 _
      rw [k4]
      exact g3.2.1 x _ x1 hu
    · rw [a13o _ e] at y2
      exact y2
  · show A 21 s' + cM (R5 s') C A ≤ C 6 + 1
    have := g7.2.2 s' hs'
    omega
  · have hi : ¬ lvl C i := hi
    have h0 := g8 i hi
    rcases Nat.lt_or_ge i 20 with z | z
    · rw [lo i z]; exact h0
    rcases Nat.lt_or_ge i 500 with y | y
    · -- not an item's
      have z2 : 20 + 2 * (C 2).toNat ≤ i := by unfold lvl at hi; omega
      unfold hndL
      have r1 : ∀ j, hnw (mkA A t) (Ls (501 + 2 * t)) 21 (hnw (mkA A t) (Ls (500 + 2 * t)) 20 Ls (Ls (500 + 2 * t)).length) j i = hnw (mkA A t) (Ls (500 + 2 * t)) 20 Ls (Ls (500 + 2 * t)).length i := by
        intro j
        induction j with
        | zero => rfl
        | succ j ih =>
          cases hx : (Ls (501 + 2 * t))[j]? with
          | none => simp only [hnw, hx]; exact ih
          | some x =>
            have h1 := (c501 g1 ht).mp (List.mem_of_getElem? hx)
            have h2 := (g1.1 x h1.1).2.1
            rw [hnw_s hx, up_n (by show ¬ i = 21 + 2 * (A 10 x).toNat; omega)]
            exact ih
      have r2 : ∀ j, hnw (mkA A t) (Ls (500 + 2 * t)) 20 Ls j i = Ls i := by
        intro j
        induction j with
        | zero => rfl
        | succ j ih =>
          cases hx : (Ls (500 + 2 * t))[j]? with
          | none => simp only [hnw, hx]; exact ih
          | some x =>
            have h1 := g1.2.1 t x ht (List.mem_of_getElem? hx)
            have h2 := (g1.1 x h1.1).2.1
            rw [hnw_s hx, up_n (by show ¬ i = 20 + 2 * (A 10 x).toNat; omega)]
            exact ih
      rw [r1, r2]; exact h0
    · rw [hnd_o hw2 hc2 (by omega)]; exact h0
  · have h : C 1 = 0 := h
    omega
  · show A 21 s' + cM (R5 s') C A + 1 ≤ C 6 + 1
    have := g7.2.2 s' hs'
    omega
end P6
