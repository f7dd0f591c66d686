section P18
variable {C C' : Nat → Int} {A A' B B' I I' : Nat → Nat → Int} {Ls Ls' : Nat → List Nat} {n : Nat}
theorem lst_did {c o' : Nat} {t o v s : Int} : ∀ m, m ≤ (C 4).toNat → lst (didA C A t o v s) c o' m = lst A c o' m := by
  intro m
  induction m with
  | zero => intro _; rfl
  | succ m ih =>
    intro hm
    show (if didA C A t o v s 9 m = c ∧ didA C A t o v s 10 m = o' then didA C A t o v s 12 m else lst (didA C A t o v s) c o' m) = (if A 9 m = c ∧ A 10 m = o' then A 12 m else lst A c o' m)
    rw [ih (by omega), show didA C A t o v s 9 m = A 9 m from show up (A 9) (C 4).toNat t m = A 9 m from up_n (by omega), show didA C A t o v s 10 m = A 10 m from show up (A 10) (C 4).toNat o m = A 10 m from up_n (by omega), show didA C A t o v s 12 m = A 12 m from show up (A 12) (C 4).toNat v m = A 12 m from up_n (by omega)]
/-- an operation more of one that is open: all but the transactions' own lists -/
theorem did_step {t o : Nat} {w s : Int} {Lx : Nat → List Nat} (v : IV n C A I Ls) (ht : t < (C 3).toNat) (ho : o < (C 2).toNat) (h0 : A 4 t = 0) (hs : -1 ≤ s ∧ s ≤ 1) (hw : inL w) (h4 : C 4 < 4000) (g1' : G1 (didC C) (didA C A t o w s) I' Lx) (hI : ∀ k, ¬ k = 1 → ¬ k = 3 → I' k = I k) (hI3 : 0 ≤ I' 3 0 ∧ I' 3 0 ≤ C 4 + 1) (hL : ∀ i, ¬ i = 500 + 2 * t → ¬ i = 501 + 2 * t → Lx i = Ls i) (hsub : ∀ x, x ∈ Ls (500 + 2 * t) → x ∈ Lx (500 + 2 * t)) : IV (n + 1) (didC C) (didA C A t o w s) I' Lx := by
  obtain ⟨b, g1, g2, g3, g4, g5, gw, g6, g7, g8, w2, w3, w4, w5⟩ := v
  have b1 := b.c1
  have b2 := b.c2
  have b3 := b.c3
  have b4 := b.c4
  have op := opn b g4 g6 ht h0
  have A9 : ∀ k, k < (C 4).toNat → didA C A t o w s 9 k = A 9 k := fun k hk => show up (A 9) (C 4).toNat t k = A 9 k from up_n (by omega)
  have A10 : ∀ k, k < (C 4).toNat → didA C A t o w s 10 k = A 10 k := fun k hk => show up (A 10) (C 4).toNat o k = A 10 k from up_n (by omega)
  have Lw : ∀ t', ¬ t' = t → Lx (500 + 2 * t') = Ls (500 + 2 * t') := fun t' h => hL _ (by omega) (by omega)
  have Lc : ∀ t', ¬ t' = t → Lx (501 + 2 * t') = Ls (501 + 2 * t') := fun t' h => hL _ (by omega) (by omega)
  have ew : ∀ t' o', t' < (C 3).toNat → ¬ t' = t → (Wt (didA C A t o w s) Lx t' o' ↔ Wt A Ls t' o') := fun t' o' h1 h2 => by
    unfold Wt
    rw [Lw t' h2]
    constructor
    · rintro ⟨x, x1, x2⟩
      rw [A10 x (g1.2.1 t' x h1 x1).1] at x2
      exact ⟨x, x1, x2⟩
    · rintro ⟨x, x1, x2⟩
      exact ⟨x, x1, by rw [A10 x (g1.2.1 t' x h1 x1).1]; exact x2⟩
  have nt : ∀ c, 0 < A 5 c → ¬ c = t := fun c h e => by rw [e] at h; omega
  refine ⟨?_, g1', ⟨fun o' k ho' => ?_, fun o' k ho' => ?_, fun o' ho' => ?_, fun o' ho' => ?_⟩, g3, g4, ⟨fun o' t' ho' hl => ?_, fun o' c ho' hc hn hw' hna => ?_⟩, fun t' ht' => ?_, ⟨fun q hq hz => ?_, fun q hq => ?_, fun s' hs' => ?_⟩, ⟨fun s' hs' => ?_, fun s' x hs' hx => ?_, g7.2.2⟩, fun i hi => ?_, w2, hI3, ?_, ?_⟩
  · exact ((((b.t9 ⟨by omega, by omega⟩).t10 ⟨by omega, by omega⟩).t12 hw).t11 hs).d4 ⟨by omega, by omega⟩
  · have ho' : o' < (C 2).toNat := ho'
    rw [hL _ (by omega) (by omega)]
    refine (g2.1 o' k ho').trans ⟨fun ⟨c, c1, c2, c3, c4⟩ => ⟨c, c1, c2, ?_, ?_⟩, fun ⟨c, c1, c2, c3, c4⟩ => ⟨c, c1, c2, ?_, ?_⟩⟩
    · rw [Lw c (nt c c2)]; exact c3
    · rw [A10 k (g1.2.1 c k c1 c3).1]; exact c4
    · rw [Lw c (nt c c2)] at c3; exact c3
    · rw [Lw c (nt c c2)] at c3
      rw [A10 k (g1.2.1 c k c1 c3).1] at c4; exact c4
  · have ho' : o' < (C 2).toNat := ho'
    rw [hL _ (by omega) (by omega)]
    refine (g2.2.1 o' k ho').trans ⟨fun ⟨c, c1, c2, c3, c4⟩ => ⟨c, c1, c2, ?_, ?_⟩, fun ⟨c, c1, c2, c3, c4⟩ => ⟨c, c1, c2, ?_, ?_⟩⟩
    · rw [Lc c (nt c c2)]; exact c3
    · rw [A10 k ((c501 g1 c1).mp c3).1]; exact c4
    · rw [Lc c (nt c c2)] at c3; exact c3
    · rw [Lc c (nt c c2)] at c3
      rw [A10 k ((c501 g1 c1).mp c3).1] at c4; exact c4
  · have ho' : o' < (C 2).toNat := ho'
    rw [hL _ (by omega) (by omega), hL _ (by omega) (by omega)]; exact g2.2.2.1 o' ho'
  · have ho' : o' < (C 2).toNat := ho'
    rw [hL _ (by omega) (by omega)]
    refine (g2.2.2.2 o' ho').imp_of_mem (fun {x y} hx hy h => ?_)
    obtain ⟨c, c1, c2, c3, c4⟩ := (g2.1 o' x ho').mp hx
    obtain ⟨d, d1, d2, d3, d4⟩ := (g2.1 o' y ho').mp hy
    rw [A9 x (g1.2.1 c x c1 c3).1, A9 y (g1.2.1 d y d1 d3).1]
    exact h
  · have z := g5.1 o' t' ho' hl
    refine ⟨z.1, ?_, fun c hc hn h5 hw' => z.2.2 c hc hn h5 ((ew c o' hc (nt c h5)).mp hw')⟩
    by_cases e : t' = t
    · obtain ⟨x, x1, x2⟩ := z.2.1
      rw [e] at x1
      refine ⟨x, by rw [e]; exact hsub x x1, ?_⟩
      rw [A10 x (g1.2.1 t x ht x1).1]
      exact x2
    · exact (ew t' o' z.1 e).mpr z.2.1
  · exact g5.2 o' c ho' hc hn ((ew c o' hc (nt c hn)).mp hw') hna
  · intro h3
    have h3 : A 4 t' = 3 := h3
    have ne : ¬ t' = t := fun e => by rw [e] at h3; omega
    obtain ⟨z1, z2, z3, z4⟩ := gw t' ht' h3
    rw [hI 0 (by decide) (by decide)]
    exact ⟨z1, z2, z3, fun o' ho' hw' hp => z4 o' ho' ((ew t' o' ht' ne).mp hw') hp⟩
  · have m := g6.1 q hq hz
    unfold msq at m ⊢
    rw [hI 2 (by decide) (by decide)]
    exact m
  · rw [hI 2 (by decide) (by decide)]; exact g6.2.1 q hq
  · have hs' : s' < (C 1).toNat := hs'
    rw [hL _ (by omega) (by omega)]; exact g6.2.2 s' hs'
  · have hs' : s' < (C 1).toNat := hs'
    rw [hL _ (by omega) (by omega)]; exact g7.1 s' hs'
  · have hs' : s' < (C 1).toNat := hs'
    rw [hL _ (by omega) (by omega)] at hx; exact g7.2.1 s' x hs' hx
  · have hi : ¬ lvl C i := hi
    rw [hL i (fun e => hi (by rw [e]; unfold lvl; omega)) (fun e => hi (by rw [e]; unfold lvl; omega))]
    exact g8 i hi
  · show C 2 + C 3 + (C 4 + 1) ≤ _
    omega
  · show C 5 ≤ _
    omega
/-- the new operation, as it stands in the arrays -/
theorem did_at {t o w s : Int} : didA C A t o w s 9 (C 4).toNat = t ∧ didA C A t o w s 10 (C 4).toNat = o ∧ didA C A t o w s 12 (C 4).toNat = w ∧ didA C A t o w s 11 (C 4).toNat = s := ⟨show up (A 9) _ t _ = t from up_s, show up (A 10) _ o _ = o from up_s, show up (A 12) _ w _ = w from up_s, show up (A 11) _ s _ = s from up_s⟩
theorem did_o {t o w s : Int} {k : Nat} (hk : ¬ k = (C 4).toNat) : didA C A t o w s 9 k = A 9 k ∧ didA C A t o w s 10 k = A 10 k ∧ didA C A t o w s 12 k = A 12 k ∧ didA C A t o w s 11 k = A 11 k := ⟨show up (A 9) _ t _ = _ from up_n hk, show up (A 10) _ o _ = _ from up_n hk, show up (A 12) _ w _ = _ from up_n hk, show up (A 11) _ s _ = _ from up_n hk⟩
theorem lst_s {c o' : Nat} {t o w s : Int} (b4 : 0 ≤ C 4) : lst (didA C A t o w s) c o' (didC C 4).toNat = if t = c ∧ o = o' then w else lst A c o' (C 4).toNat := by
  rw [show (didC C 4).toNat = (C 4).toNat + 1 by show (C 4 + 1).toNat = _; omega]
  have d := did_at (C := C) (A := A) (t := t) (o := o) (w := w) (s := s)
  show (if didA C A t o w s 9 (C 4).toNat = c ∧ didA C A t o w s 10 (C 4).toNat = o' then didA C A t o w s 12 (C 4).toNat else lst (didA C A t o w s) c o' (C 4).toNat) = _
  rw [d.1, d.2.1, d.2.2.1, lst_did _ (Nat.le_refl _)]
theorem fil_s {t' : Nat} {t o w s : Int} (b4 : 0 ≤ C 4) : (List.range (didC C 4).toNat).filter (fun k => decide (didA C A t o w s 9 k = t' ∧ ¬ didA C A t o w s 11 k = 0)) = (List.range (C 4).toNat).filter (fun k => decide (A 9 k = t' ∧ ¬ A 11 k = 0)) ++ (if t = t' ∧ ¬ s = 0 then [(C 4).toNat] else []) := by
  rw [show (didC C 4).toNat = (C 4).toNat + 1 by show (C 4 + 1).toNat = _; omega, List.range_succ, List.filter_append]
  have d := did_at (C := C) (A := A) (t := t) (o := o) (w := w) (s := s)
  congr 1
  · refine List.filter_congr (fun k hk => ?_)
    have hk := List.mem_range.mp hk
    have q := did_o (C := C) (A := A) (t := t) (o := o) (w := w) (s := s) (k := k) (by omega)
    rw [q.1, q.2.2.2]
  · by_cases e : t = t' ∧ ¬ s = 0
    · rw [if_pos e, List.filter_cons_of_pos (by rw [d.1, d.2.2.2]; exact decide_eq_true e)]
      rfl
    · rw [if_neg e, List.filter_cons_of_neg (by rw [d.1, d.2.2.2, decide_eq_true_eq]; exact e)]
      rfl
/-- write -/
theorem wro_step {t o : Nat} {w : Int} {p : CB} (v : IV n C A I Ls) (ht : t < (C 3).toNat) (ho : o < (C 2).toNat) (hp0 : A 2 o = 0) (h0 : A 4 t = 0) (hw : inL w) (h4 : C 4 < 4000) (hp : wroP C A I Ls t o w p) : p.1 = didC C ∧ p.2.1 = didA C A t o w 0 ∧ IV (n + 1) (didC C) (didA C A t o w 0) p.2.2.1 p.2.2.2 := by
  have v0 := v
  obtain ⟨b, g1, g2, g3, g4, g5, gw, g6, g7, g8, w2, w3, w4, w5⟩ := v
  have b4 := b.c4
  have d := did_at (C := C) (A := A) (t := t) (o := o) (w := w) (s := 0)
  have dO : ∀ k, k < (C 4).toNat → didA C A t o w 0 9 k = A 9 k ∧ didA C A t o w 0 10 k = A 10 k ∧ didA C A t o w 0 12 k = A 12 k ∧ didA C A t o w 0 11 k = A 11 k := fun k hk => did_o (by omega)
  have e4 : (didC C 4).toNat = (C 4).toNat + 1 := by show (C 4 + 1).toNat = _; omega
  have tt : ((t : Int)).toNat = t := by omega
  have oo : ((o : Int)).toNat = o := by omega
  have c1 : ∀ k, k < (didC C 4).toNat → (0 ≤ didA C A t o w 0 9 k ∧ didA C A t o w 0 9 k < C 3) ∧ (0 ≤ didA C A t o w 0 10 k ∧ didA C A t o w 0 10 k < C 2) ∧ (didA C A t o w 0 11 k = 0 ↔ A 2 (didA C A t o w 0 10 k).toNat = 0) ∧ (¬ didA C A t o w 0 11 k = 0 → inR (didA C A t o w 0 12 k)) := fun k hk => by
    rw [e4] at hk
    by_cases e : k = (C 4).toNat
    · rw [e, d.1, d.2.1, d.2.2.2, oo]
      exact ⟨⟨by omega, by omega⟩, ⟨by omega, by omega⟩, ⟨fun _ => hp0, fun _ => rfl⟩, fun z => absurd rfl z⟩
    · have q := dO k (by omega)
      rw [q.1, q.2.1, q.2.2.1, q.2.2.2]
      exact g1.1 k (by omega)
  have c7 : ∀ t' : Nat, (List.range (didC C 4).toNat).filter (fun k => decide (didA C A t o w 0 9 k = t' ∧ ¬ didA C A t o w 0 11 k = 0)) = (List.range (C 4).toNat).filter (fun k => decide (A 9 k = t' ∧ ¬ A 11 k = 0)) := fun t' => by
    rw [fil_s b4.1, if_neg (fun z => z.2 rfl), List.append_nil]
  rcases hp with ⟨hn, e⟩ | ⟨x, x1, x2, e⟩
  · have hn : ¬ ∃ x, x ∈ Ls (500 + 2 * t) ∧ (A 10 x).toNat = o := hn
    rw [e]
    show didC C = didC C ∧ didA C A t o w 0 = didA C A t o w 0 ∧ IV (n + 1) (didC C) (didA C A t o w 0) (up I 1 (up (I 1) (C 4).toNat w)) (up Ls (500 + 2 * t) (Ls (500 + 2 * t) ++ [(C 4).toNat]))
    refine ⟨rfl, rfl, did_step v0 ht ho h0 (by decide) hw h4 ?_ (fun k h1 _ => up_n h1) ⟨w3.1, by show I 3 0 ≤ _; omega⟩ (fun i h1 _ => up_n h1) (fun x hx => ?_)⟩
    · have Lo : ∀ i, ¬ i = 500 + 2 * t → up Ls (500 + 2 * t) (Ls (500 + 2 * t) ++ [(C 4).toNat]) i = Ls i := fun i hi => up_n hi
      have mem : ∀ t' x, t' < (C 3).toNat → x ∈ up Ls (500 + 2 * t) (Ls (500 + 2 * t) ++ [(C 4).toNat]) (500 + 2 * t') → (t' = t ∧ x = (C 4).toNat) ∨ (x ∈ Ls (500 + 2 * t') ∧ x < (C 4).toNat ∧ A 9 x = t' ∧ A 11 x = 0 ∧ (t' = t → ¬ (A 10 x).toNat = o)) := fun t' x ht' hx => by
        by_cases z : t' = t
        · rw [z, up_s] at hx
          rcases List.mem_append.mp hx with y | y
          · rw [z]
            have q := g1.2.1 t x ht y
            exact Or.inr ⟨y, q.1, q.2.1, q.2.2, fun _ h => hn ⟨x, y, h⟩⟩
          · exact Or.inl ⟨z, List.mem_singleton.mp y⟩
        · rw [Lo _ (by omega)] at hx
          have q := g1.2.1 t' x ht' hx
          exact Or.inr ⟨hx, q.1, q.2.1, q.2.2, fun h => absurd h z⟩
      refine ⟨c1, fun t' x ht' hx => ?_, fun k hk h11 => ?_, fun t' ht' => ?_, fun t' x y ht' hx hy he => ?_, fun t' x ht' hx => ?_, fun t' ht' => ?_⟩
      · rcases mem t' x ht' hx with ⟨z1, z2⟩ | ⟨z1, z2, z3, z4, _⟩
        · rw [z2, d.1, d.2.2.2, e4, z1]
          exact ⟨by omega, rfl, rfl⟩
        · have q := dO x z2
          rw [q.1, q.2.2.2, e4]
          exact ⟨by omega, z3, z4⟩
      · rw [e4] at hk
        by_cases z : k = (C 4).toNat
        · rw [z, d.1, tt]
          exact ⟨(C 4).toNat, by rw [up_s]; exact List.mem_append.mpr (Or.inr (List.mem_singleton.mpr rfl)), rfl⟩
        · have q := dO k (by omega)
          rw [q.2.2.2] at h11
          obtain ⟨x, x1, x2⟩ := g1.2.2.1 k (by omega) h11
          have a9 := (g1.1 k (by omega)).1
          rw [q.1, q.2.1]
          refine ⟨x, ?_, ?_⟩
          · by_cases y : (A 9 k).toNat = t
            · rw [y, up_s]; rw [y] at x1; exact List.mem_append.mpr (Or.inl x1)
            · rw [Lo _ (by omega)]; exact x1
          · rw [(dO x (g1.2.1 _ x (by omega) x1).1).2.1]; exact x2
      · by_cases z : t' = t
        · rw [z, up_s]
          refine List.nodup_append.mpr ⟨g1.2.2.2.1 t ht, by simp, fun a ha b' hb e' => ?_⟩
          rw [List.mem_singleton.mp hb] at e'
          have := (g1.2.1 t a ht ha).1
          omega
        · rw [Lo _ (by omega)]; exact g1.2.2.2.1 t' ht'
      · rcases mem t' x ht' hx with ⟨z1, z2⟩ | ⟨z1, z2, z3, z4, z5⟩
        · rcases mem t' y ht' hy with ⟨y1, y2⟩ | ⟨y1, y2, y3, y4, y5⟩
          · rw [z2, y2]
          · rw [z2, d.2.1, (dO y y2).2.1] at he
            exact absurd (by omega) (y5 z1)
        · rcases mem t' y ht' hy with ⟨y1, y2⟩ | ⟨y1, y2, y3, y4, y5⟩
          · rw [y2, d.2.1, (dO x z2).2.1] at he
            exact absurd (by omega) (z5 y1)
          · rw [(dO x z2).2.1, (dO y y2).2.1] at he
            exact g1.2.2.2.2.1 t' x y ht' z1 y1 he
      · rw [lst_s b4.1]
        rcases mem t' x ht' hx with ⟨z1, z2⟩ | ⟨z1, z2, z3, z4, z5⟩
        · rw [z2, d.2.1, oo, if_pos ⟨by omega, rfl⟩]
          exact show up (I 1) (C 4).toNat w (C 4).toNat = w from up_s
        · have a10 := (g1.1 x z2).2.1
          rw [(dO x z2).2.1, if_neg (fun h => by
            have h1 : t' = t := by omega
            have h2 : (A 10 x).toNat = o := by omega
            exact z5 h1 h2)]
          rw [show up I 1 (up (I 1) (C 4).toNat w) 1 x = I 1 x from show up (I 1) (C 4).toNat w x = I 1 x from up_n (by omega)]
          exact g1.2.2.2.2.2.1 t' x ht' z1
      · rw [c7, Lo _ (by omega)]; exact g1.2.2.2.2.2.2 t' ht'
    · rw [up_s]; exact List.mem_append.mpr (Or.inl hx)
  · rw [e]
    have xq := g1.2.1 t x ht x1
    have x10 := (g1.1 x xq.1).2.1
    show didC C = didC C ∧ didA C A t o w 0 = didA C A t o w 0 ∧ IV (n + 1) (didC C) (didA C A t o w 0) (up I 1 (up (I 1) x w)) Ls
    refine ⟨rfl, rfl, did_step v0 ht ho h0 (by decide) hw h4 ?_ (fun k h1 _ => up_n h1) ⟨w3.1, by show I 3 0 ≤ _; omega⟩ (fun i _ _ => rfl) (fun x hx => hx)⟩
    refine ⟨c1, fun t' y ht' hy => ?_, fun k hk h11 => ?_, g1.2.2.2.1, fun t' y z ht' hy hz he => ?_, fun t' y ht' hy => ?_, fun t' ht' => ?_⟩
    · have q := g1.2.1 t' y ht' hy
      rw [(dO y q.1).1, (dO y q.1).2.2.2, e4]
      exact ⟨by omega, q.2⟩
    · rw [e4] at hk
      by_cases z : k = (C 4).toNat
      · rw [z, d.1, tt, d.2.1]
        exact ⟨x, x1, by rw [(dO x xq.1).2.1]; omega⟩
      · have q := dO k (by omega)
        rw [q.2.2.2] at h11
        obtain ⟨y, y1, y2⟩ := g1.2.2.1 k (by omega) h11
        have a9 := (g1.1 k (by omega)).1
        rw [q.1, q.2.1]
        exact ⟨y, y1, by rw [(dO y (g1.2.1 _ y (by omega) y1).1).2.1]; exact y2⟩
    · rw [(dO y (g1.2.1 t' y ht' hy).1).2.1, (dO z (g1.2.1 t' z ht' hz).1).2.1] at he
      exact g1.2.2.2.2.1 t' y z ht' hy hz he
    · have q := g1.2.1 t' y ht' hy
      have a10 := (g1.1 y q.1).2.1
      rw [lst_s b4.1, (dO y q.1).2.1]
      by_cases z : y = x
      · rw [z] at q ⊢
        have e9 : t' = t := by omega
        rw [if_pos ⟨by omega, by omega⟩]
        exact show up (I 1) x w x = w from up_s
      · rw [if_neg (fun h => z ?_)]
        · rw [show up I 1 (up (I 1) x w) 1 y = I 1 y from show up (I 1) x w y = I 1 y from up_n z]
          exact g1.2.2.2.2.2.1 t' y ht' hy
        · have e9 : t' = t := by omega
          rw [e9] at hy
          exact g1.2.2.2.2.1 t y x ht hy x1 (by omega)
    · rw [c7]; exact g1.2.2.2.2.2.2 t' ht'
/-- change -/
theorem cha_step {t o : Nat} {w s : Int} (v : IV n C A I Ls) (ht : t < (C 3).toNat) (ho : o < (C 2).toNat) (hp0 : ¬ A 2 o = 0) (h0 : A 4 t = 0) (hw : inR w) (hs : s = 1 ∨ s = -1) (h4 : C 4 < 4000) : IV (n + 1) (chaS C A I Ls t o w s).1 (chaS C A I Ls t o w s).2.1 (chaS C A I Ls t o w s).2.2.1 (chaS C A I Ls t o w s).2.2.2 := by
  have v0 := v
  obtain ⟨b, g1, g2, g3, g4, g5, gw, g6, g7, g8, w2, w3, w4, w5⟩ := v
  have b4 := b.c4
  have d := did_at (C := C) (A := A) (t := t) (o := o) (w := w) (s := s)
  have dO : ∀ k, k < (C 4).toNat → didA C A t o w s 9 k = A 9 k ∧ didA C A t o w s 10 k = A 10 k ∧ didA C A t o w s 12 k = A 12 k ∧ didA C A t o w s 11 k = A 11 k := fun k hk => did_o (by omega)
  have e4 : (didC C 4).toNat = (C 4).toNat + 1 := by show (C 4 + 1).toNat = _; omega
  have oo : ((o : Int)).toNat = o := by omega
  have s0 : ¬ s = 0 := by omega
  have Lo : ∀ i, ¬ i = 501 + 2 * t → up Ls (501 + 2 * t) (Ls (501 + 2 * t) ++ [(C 4).toNat]) i = Ls i := fun i hi => up_n hi
  show IV (n + 1) (didC C) (didA C A t o w s) (up I 3 (up (I 3) 0 (I 3 0 + 1))) (up Ls (501 + 2 * t) (Ls (501 + 2 * t) ++ [(C 4).toNat]))
  refine did_step v0 ht ho h0 (by omega) (by unfold inL; unfold inR at hw; omega) h4 ?_ (fun k _ h3 => up_n h3) ⟨?_, ?_⟩ (fun i _ h1 => up_n h1) (fun x hx => by show x ∈ up Ls _ _ _; rw [Lo _ (by omega)]; exact hx)
  · refine ⟨fun k hk => ?_, fun t' x ht' hx => ?_, fun k hk h11 => ?_, fun t' ht' => ?_, fun t' x y ht' hx hy he => ?_, fun t' x ht' hx => ?_, fun t' ht' => ?_⟩
    · rw [e4] at hk
      by_cases e : k = (C 4).toNat
      · rw [e, d.1, d.2.1, d.2.2.1, d.2.2.2, oo]
        refine ⟨⟨by omega, ?_⟩, ⟨by omega, ?_⟩, ⟨fun z => absurd z s0, fun z => absurd z hp0⟩, fun _ => hw⟩
        · show (t : Int) < C 3
          omega
        · show (o : Int) < C 2
          omega
      · have q := dO k (by omega)
        rw [q.1, q.2.1, q.2.2.1, q.2.2.2]
        exact g1.1 k (by omega)
    · rw [Lo _ (by omega)] at hx
      have q := g1.2.1 t' x ht' hx
      rw [(dO x q.1).1, (dO x q.1).2.2.2, e4]
      exact ⟨by omega, q.2⟩
    · rw [e4] at hk
      by_cases z : k = (C 4).toNat
      · rw [z, d.2.2.2] at h11; exact absurd h11 s0
      · have q := dO k (by omega)
        rw [q.2.2.2] at h11
        obtain ⟨y, y1, y2⟩ := g1.2.2.1 k (by omega) h11
        have a9 := (g1.1 k (by omega)).1
        rw [q.1, q.2.1]
        exact ⟨y, by rw [Lo _ (by omega)]; exact y1, by rw [(dO y (g1.2.1 _ y (by omega) y1).1).2.1]; exact y2⟩
    · rw [Lo _ (by omega)]; exact g1.2.2.2.1 t' ht'
    · rw [Lo _ (by omega)] at hx hy
      rw [(dO x (g1.2.1 t' x ht' hx).1).2.1, (dO y (g1.2.1 t' y ht' hy).1).2.1] at he
      exact g1.2.2.2.2.1 t' x y ht' hx hy he
    · rw [Lo _ (by omega)] at hx
      have q := g1.2.1 t' x ht' hx
      have a10 := (g1.1 x q.1).2
      rw [lst_s b4.1, (dO x q.1).2.1, if_neg (fun h => hp0 ?_)]
      · exact g1.2.2.2.2.2.1 t' x ht' hx
      · have e : (A 10 x).toNat = o := by omega
        rw [← e]
        exact a10.2.1.mp q.2.2
    · rw [fil_s b4.1]
      by_cases z : t' = t
      · rw [z, up_s, if_pos ⟨by omega, s0⟩, g1.2.2.2.2.2.2 t ht]
      · rw [Lo _ (by omega), if_neg (fun h => z (by omega)), List.append_nil]
        exact g1.2.2.2.2.2.2 t' ht'
  · show 0 ≤ up (I 3) 0 (I 3 0 + 1) 0
    rw [up_s]; omega
  · show up (I 3) 0 (I 3 0 + 1) 0 ≤ _
    rw [up_s]; omega
end P18
