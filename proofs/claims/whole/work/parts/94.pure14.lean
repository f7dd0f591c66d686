section P14
variable {C C' : Nat → Int} {A A' B B' I I' : Nat → Nat → Int} {Ls Ls' : Nat → List Nat} {n : Nat}
theorem IV.nx (v : IV n C A I Ls) : IV (n + 1) C A I Ls := (v.x (e := fun _ => False)).nx.v (fun _ _ z => z.elim)
/-- a commit is held back, to be let go at once -/
theorem IX.hold {t d : Nat} (v : IX n (fun x => x = t) C A I Ls) (ht : t < (C 3).toNat) (hd : d < (C 1).toNat) (h5 : 0 < A 5 t) (h3s : ¬ A 3 t = d) (h6 : A 21 d + cM (R5 d) C A + 1 ≤ C 6) : IZ n d C (hldA A t d) I (up Ls (2 + 2 * d) (Ls (2 + 2 * d) ++ [t])) := by
  obtain ⟨b, g1, g2, g3, g4, g5, gw, g6, g7, g8, w2, w3, w4, w5⟩ := v
  have b1 := b.c1
  have b3 := b.c3
  have b21 := b.v21 d
  have c0 : 0 ≤ cM (R5 d) C A := (nP_b _ _).1
  have k6 := g3.2.2.2.2.2.1
  have k6b := nP_b (fun t => 0 < A 5 t) (C 3).toNat
  have h4 := g4.1 t ht h5
  have Lo : ∀ i, ¬ i = 2 + 2 * d → up Ls (2 + 2 * d) (Ls (2 + 2 * d) ++ [t]) i = Ls i := fun i hi => up_n hi
  have Lw : ∀ t', up Ls (2 + 2 * d) (Ls (2 + 2 * d) ++ [t]) (500 + 2 * t') = Ls (500 + 2 * t') := fun t' => Lo _ (by omega)
  have Lc : ∀ t', up Ls (2 + 2 * d) (Ls (2 + 2 * d) ++ [t]) (501 + 2 * t') = Ls (501 + 2 * t') := fun t' => Lo _ (by omega)
  have L2 : ∀ t', up Ls (2 + 2 * d) (Ls (2 + 2 * d) ++ [t]) (20 + 2 * t') = Ls (20 + 2 * t') := fun t' => Lo _ (by omega)
  have L21 : ∀ t', up Ls (2 + 2 * d) (Ls (2 + 2 * d) ++ [t]) (21 + 2 * t') = Ls (21 + 2 * t') := fun t' => Lo _ (by omega)
  have ew : Wt A (up Ls (2 + 2 * d) (Ls (2 + 2 * d) ++ [t])) = Wt A Ls := by
    funext t' o
    unfold Wt
    rw [Lw]
  have hdo : ∀ s i : Nat, ¬ (s = d ∧ i = (A 21 d).toNat) → i < 500 → hdt (hldA A t d) s i = hdt A s i := fun s i h hi => by
    unfold hdt
    show (up (A 20) (500 * d + (A 21 d).toNat) t (500 * s + i)).toNat = _
    rw [up_n (fun z => h ?_)]
    have h3 : (A 21 d).toNat < 500 := by omega
    rcases Nat.lt_trichotomy s d with q | q | q
    · have : 500 * s + 500 ≤ 500 * d := by omega
      omega
    · subst q; exact ⟨rfl, by omega⟩
    · have : 500 * d + 500 ≤ 500 * s := by omega
      omega
  have hds : hdt (hldA A t d) d (A 21 d).toNat = t := by
    unfold hdt
    show (up (A 20) (500 * d + (A 21 d).toNat) (t : Int) (500 * d + (A 21 d).toNat)).toNat = t
    rw [up_s]
    omega
  have a21s : hldA A t d 21 d = A 21 d + 1 := up_s
  have a21o : ∀ s, ¬ s = d → hldA A t d 21 s = A 21 s := fun s hs => show up (A 21) d _ s = A 21 s from up_n hs
  refine ⟨(b.t20 ⟨by omega, by omega⟩).t21 ⟨by omega, by omega⟩, ?_, ?_, g3, g4, ?_, fun t' ht' => ?_, ⟨g6.1, g6.2.1, fun s hs => ?_⟩, ⟨fun s hs => ?_, fun s x hs' hx => ?_, fun s hs => ?_⟩, fun i hi => ?_, fun h => (by have h : C 1 = 0 := h; omega), w3, w4, w5⟩
  · have g := g1.cg (A' := hldA A t d) rfl rfl rfl rfl rfl
    unfold G1 at g ⊢
    simp only [Lw, Lc]
    exact g
  · unfold G2 at g2 ⊢
    simp only [Lw, Lc, L2, L21]
    exact g2
  · show G5 C A (up Ls (2 + 2 * d) (Ls (2 + 2 * d) ++ [t]))
    unfold G5
    rw [ew]
    exact g5
  · intro h3
    have h3 : A 4 t' = 3 := h3
    have hne : ¬ t' = t := fun e => by rw [e] at h3; omega
    obtain ⟨q1, q2, q3, q4⟩ := gw t' ht' hne h3
    refine ⟨q1, q2, q3, fun o ho hw hp => q4 o ho ?_ hp⟩
    have hw : Wt A (up Ls (2 + 2 * d) (Ls (2 + 2 * d) ++ [t])) t' o := hw
    rw [ew] at hw
    exact hw
  · rw [Lo _ (by omega)]; exact g6.2.2 s hs
  · have b21s := b.v21 s
    by_cases e : s = d
    · subst e
      rw [up_s, a21s, show (A 21 s + 1).toNat = (A 21 s).toNat + 1 by omega, List.range_succ, List.map_append, g7.1 s hs]
      show _ ++ [t] = _ ++ [hdt (hldA A t s) s (A 21 s).toNat]
      rw [hds]
      refine congrArg (fun z => z ++ [t]) (List.map_congr_left (fun i hi => (hdo s i ?_ ?_).symm))
      · have hi := List.mem_range.mp hi; omega
      · have hi := List.mem_range.mp hi; omega
    · rw [Lo _ (by omega), a21o s e, g7.1 s hs]
      refine List.map_congr_left (fun i hi => (hdo s i (fun z => e z.1) ?_).symm)
      have hi := List.mem_range.mp hi; omega
  · by_cases e : s = d
    · subst e
      rw [up_s] at hx
      rcases List.mem_append.mp hx with z | z
      · obtain ⟨y1, y2, y3, y4⟩ := g7.2.1 s x hs' z
        exact ⟨y1, y2, y3, fun _ => y4⟩
      · rw [List.mem_singleton.mp z]
        exact ⟨ht, h5, h3s, fun q => absurd rfl q⟩
    · rw [Lo _ (by omega)] at hx
      obtain ⟨y1, y2, y3, y4⟩ := g7.2.1 s x hs' hx
      exact ⟨y1, y2, y3, fun _ => y4⟩
  · by_cases e : s = d
    · subst e
      rw [a21s]
      show A 21 s + 1 + cM (R5 s) C A ≤ C 6
      omega
    · rw [a21o s e]; exact g7.2.2 s hs
  · have hi : ¬ lvl C i := hi
    rw [Lo i (fun e => hi (by rw [e]; unfold lvl; omega))]
    exact g8 i hi
theorem up_up {α : Type} {f : Nat → α} {k : Nat} {x y : α} : up (up f k x) k y = up f k y := by
  funext j
  by_cases e : j = k
  · subst e; rw [up_s, up_s]
  · rw [up_n e, up_n e, up_n e]
/-- held back, or applied at once: the same, seen as letting go -/
theorem hold_cls {d t : Nat} {p : CB} (h : (cbP C B t d ∧ ∃ m B' Ls', clsP C d m (apyA B Ls t d) Ls B' Ls' ∧ p = (C, B', I, Ls')) ∨ (¬ cbP C B t d ∧ p = (C, B, I, up Ls (2 + 2 * d) (Ls (2 + 2 * d) ++ [t])))) (hn : ∀ x, x ∈ Ls (2 + 2 * d) → ¬ cbP C B x d) (hd : d < 6) : ∃ m B' Ls', clsP C d m B (up Ls (2 + 2 * d) (Ls (2 + 2 * d) ++ [t])) B' Ls' ∧ p = (C, B', I, Ls') := by
  rcases h with ⟨h1, m, B', Ls', h2, h3⟩ | ⟨h1, h2⟩
  · refine ⟨m + 1, B', Ls', ⟨(Ls (2 + 2 * d)).length, t, ?_, fun q y hq hy => ?_, h1, ?_⟩, h3⟩
    · rw [up_s, List.getElem?_append_right (Nat.le_refl _)]
      simp
    · rw [up_s, List.getElem?_append_left hq] at hy
      exact hn y (List.mem_of_getElem? hy)
    · rw [up_s, up_up]
      have e : (Ls (2 + 2 * d) ++ [t]).eraseIdx (Ls (2 + 2 * d)).length = Ls (2 + 2 * d) := by
        rw [List.eraseIdx_append_of_length_le (Nat.le_refl _)]
        simp
      rw [e, up_self]
      exact h2
  · refine ⟨0, B, _, ⟨rfl, rfl, ?_⟩, h2⟩
    rintro ⟨x, x1, x2⟩
    rw [up_s] at x1
    rcases List.mem_append.mp x1 with z | z
    · exact hn x z x2
    · rw [List.mem_singleton.mp z] at x2
      exact h1 x2
end P14
