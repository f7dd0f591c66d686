section P13
variable {C C' : Nat → Int} {A A' B B' I I' : Nat → Nat → Int} {Ls Ls' : Nat → List Nat} {n : Nat}
/-- what is held back, while the site d lets go -/
def G7x (d : Nat) (C : Nat → Int) (A : Nat → Nat → Int) (Ls : Nat → List Nat) : Prop :=
  (∀ s, s < (C 1).toNat → Ls (2 + 2 * s) = (List.range (A 21 s).toNat).map (hdt A s)) ∧
  (∀ s x : Nat, s < (C 1).toNat → x ∈ Ls (2 + 2 * s) → x < (C 3).toNat ∧ 0 < A 5 x ∧ ¬ A 3 x = s ∧ (¬ s = d → ¬ cbP C A x s)) ∧
  (∀ s : Nat, s < (C 1).toNat → A 21 s + cM (R5 s) C A ≤ C 6)
def IZ (n d : Nat) (C : Nat → Int) (A I : Nat → Nat → Int) (Ls : Nat → List Nat) : Prop := RB C A ∧ G1 C A I Ls ∧ G2 C A Ls ∧ G3 C A ∧ G4 C A ∧ G5 C A Ls ∧ (∀ t, t < (C 3).toNat → WtG C A I Ls t) ∧ G6 C A I Ls ∧ G7x d C A Ls ∧ G8 n C A I Ls
theorem hdt_shift (b : RB C A) {d k s i : Nat} (hk : k < (A 21 d).toNat) (hi : i < 500) : hdt (stpA C A d k) s i = if s = d ∧ k ≤ i ∧ i < (A 21 d - 1).toNat then hdt A s (i + 1) else hdt A s i := by
  have b21 := b.v21 d
  unfold hdt
  show (shF A d k (A 21 d - 1).toNat (500 * s + i)).toNat = _
  unfold shF
  by_cases e : s = d
  · subst e
    by_cases z : k ≤ i ∧ i < (A 21 s - 1).toNat
    · rw [if_pos ⟨by omega, by omega⟩, if_pos ⟨rfl, z⟩, Nat.add_assoc]
    · rw [if_neg (fun y => z ⟨by omega, by omega⟩), if_neg (fun y => z y.2)]
  · rw [if_neg (c := s = d ∧ _) (fun y => e y.1), if_neg (fun y => ?_)]
    have h1 := y.1
    have h2 := y.2
    have h3 : (A 21 d - 1).toNat < 500 := by omega
    rcases Nat.lt_trichotomy s d with q | q | q
    · have : 500 * s + 500 ≤ 500 * d := by omega
      omega
    · exact e q
    · have : 500 * d + 500 ≤ 500 * s := by omega
      omega
/-- one of those held at d is applied -/
theorem IZ.stp {d k : Nat} (v : IZ n d C A I Ls) (hd : d < (C 1).toNat) (hk : k < (A 21 d).toNat) (hc : cbP C A (hdt A d k) d) : IZ n d C (stpA C A d k) I (up Ls (2 + 2 * d) ((Ls (2 + 2 * d)).eraseIdx k)) := by
  obtain ⟨b, g1, g2, g3, g4, g5, gw, g6, g7, g8, w2, w3, w4, w5⟩ := v
  obtain ⟨x, ex⟩ : ∃ x, x = hdt A d k := ⟨_, rfl⟩
  have b1 := b.c1
  have b21 := b.v21 d
  have l2 := g7.1 d hd
  have xm : x ∈ Ls (2 + 2 * d) := by rw [l2, ex]; exact List.mem_map.mpr ⟨k, List.mem_range.mpr hk, rfl⟩
  obtain ⟨x1, x2, x3, -⟩ := g7.2.1 d x hd xm
  have hcb := hc
  rw [← ex] at hcb
  have c1 := hcb.1
  have b3 := b.v3 x
  have ha3 := g3.2.2.2.2.2.2.1 x x1
  have xs : ¬ (A 3 x).toNat = d := by omega
  have A13s : stpA C A d k 13 (6 * d + (A 3 x).toNat) = A 5 x := by
    show up (A 13) (6 * d + (A 3 (hdt A d k)).toNat) (A 13 (6 * d + (A 3 (hdt A d k)).toNat) + 1) _ = _
    rw [← ex, up_s, c1]
  have A13o : ∀ q, ¬ q = 6 * d + (A 3 x).toNat → stpA C A d k 13 q = A 13 q := fun q hq => by
    show up (A 13) (6 * d + (A 3 (hdt A d k)).toNat) _ q = _
    rw [← ex, up_n hq]
  have A13g : ∀ q, A 13 q ≤ stpA C A d k 13 q := fun q => by
    by_cases e : q = 6 * d + (A 3 x).toNat
    · rw [e, A13s, c1]; omega
    · rw [A13o q e]; exact Int.le_refl _
  have A1v : ∀ o, (stpA C A d k 1 o = -1 ∧ o < (C 2).toNat ∧ A 0 o = d ∧ A 1 o = x) ∨ (stpA C A d k 1 o = A 1 o ∧ ¬ (o < (C 2).toNat ∧ A 0 o = d ∧ A 1 o = x)) := fun o => by
    rw [ex]
    exact unl_v
  have Lo : ∀ i, ¬ i = 2 + 2 * d → up Ls (2 + 2 * d) ((Ls (2 + 2 * d)).eraseIdx k) i = Ls i := fun i hi => up_n hi
  have Lw : ∀ t', up Ls (2 + 2 * d) ((Ls (2 + 2 * d)).eraseIdx k) (500 + 2 * t') = Ls (500 + 2 * t') := fun t' => Lo _ (by omega)
  have Lc : ∀ t', up Ls (2 + 2 * d) ((Ls (2 + 2 * d)).eraseIdx k) (501 + 2 * t') = Ls (501 + 2 * t') := fun t' => Lo _ (by omega)
  have L2 : ∀ t', up Ls (2 + 2 * d) ((Ls (2 + 2 * d)).eraseIdx k) (20 + 2 * t') = Ls (20 + 2 * t') := fun t' => Lo _ (by omega)
  have L21 : ∀ t', up Ls (2 + 2 * d) ((Ls (2 + 2 * d)).eraseIdx k) (21 + 2 * t') = Ls (21 + 2 * t') := fun t' => Lo _ (by omega)
  have Li : ∀ s, up Ls (2 + 2 * d) ((Ls (2 + 2 * d)).eraseIdx k) (3 + 2 * s) = Ls (3 + 2 * s) := fun t' => Lo _ (by omega)
  have ew : Wt (stpA C A d k) (up Ls (2 + 2 * d) ((Ls (2 + 2 * d)).eraseIdx k)) = Wt A Ls := by
    funext t' o
    unfold Wt
    rw [Lw]
    rfl
  refine ⟨stpA_b b hk hc, ?_, ?_, ⟨g3.1, g3.2.1, fun s u h1 h2 => ?_, fun s h1 => ?_, g3.2.2.2.2⟩, g4, ⟨fun o t' ho hl => ?_, fun o c ho hcc hcn hw hna => ?_⟩, fun t' ht' => ?_, ⟨g6.1, g6.2.1, fun s hs => ?_⟩, ⟨fun s hs => ?_, fun s y hs hy => ?_, fun s hs => ?_⟩, fun i hi => ?_, fun h => ?_, w3, w4, w5⟩
  · have g := g1.cg (A' := stpA C A d k) rfl rfl rfl rfl rfl
    unfold G1 at g ⊢
    simp only [Lw, Lc]
    exact g
  · unfold G2 at g2 ⊢
    simp only [Lw, Lc, L2, L21]
    exact g2
  · by_cases e : 6 * s + u = 6 * d + (A 3 x).toNat
    · have eu : u = (A 3 x).toNat := by omega
      rw [e, A13s, eu]
      exact g3.1 x x1
    · rw [A13o _ e]; exact g3.2.2.1 s u h1 h2
  · rw [A13o _ (by omega)]; exact g3.2.2.2.1 s h1
  · rw [ew]
    rcases A1v o with ⟨z1, _⟩ | ⟨z1, _⟩
    · omega
    · rw [z1] at hl
      exact g5.1 o t' ho hl
  · rw [ew] at hw
    have hcn : 0 < A 5 c := hcn
    have hna : ¬ A 5 c ≤ stpA C A d k 13 (6 * (A 0 o).toNat + (A 3 c).toNat) := hna
    have q := g5.2 o c ho hcc hcn hw (fun z => hna (Int.le_trans z (A13g _)))
    rcases A1v o with ⟨z1, _, z3, z4⟩ | ⟨z1, _⟩
    · have e : c = x := by omega
      subst e
      refine absurd ?_ hna
      rw [z3, show ((d : Int)).toNat = d by omega, A13s]
      exact Int.le_refl _
    · rw [z1]; exact q
  · intro h3
    have h3 : A 4 t' = 3 := h3
    obtain ⟨q1, q2, q3, q4⟩ := gw t' ht' h3
    refine ⟨q1, q2, q3, fun o ho hw hp => ?_⟩
    rw [ew] at hw
    have := q4 o ho hw hp
    rcases A1v o with ⟨z1, _, _, z4⟩ | ⟨z1, _⟩
    · have e : t' = x := by omega
      have := g4.1 x x1 x2
      rw [← e] at this
      omega
    · rw [z1]; exact this
  · rw [Li]; exact g6.2.2 s hs
  · have b21s := b.v21 s
    by_cases e : s = d
    · subst e
      rw [up_s, l2]
      have e21 : (stpA C A s k 21 s).toNat = (A 21 s - 1).toNat := by
        show (up (A 21) s (A 21 s - 1) s).toNat = _
        rw [up_s]
      rw [e21]
      refine List.ext_getElem? (fun i => ?_)
      rw [List.getElem?_eraseIdx]
      by_cases hi : i < (A 21 s - 1).toNat
      · simp only [List.getElem?_map]
        rw [List.getElem?_range hi, List.getElem?_range (show i < (A 21 s).toNat by omega), List.getElem?_range (show i + 1 < (A 21 s).toNat by omega)]
        show (if i < k then some (hdt A s i) else some (hdt A s (i + 1))) = some (hdt (stpA C A s k) s i)
        rw [hdt_shift b hk (by omega)]
        by_cases q : i < k
        · rw [if_pos q, if_neg (by omega)]
        · rw [if_neg q, if_pos ⟨rfl, by omega, hi⟩]
      · rw [List.getElem?_eq_none (l := List.map (hdt (stpA C A s k) s) _) (by simp; omega)]
        by_cases q : i < k
        · omega
        · rw [if_neg q, List.getElem?_eq_none (by simp; omega)]
    · have e21 : (stpA C A d k 21 s).toNat = (A 21 s).toNat := by
        show (up (A 21) d (A 21 d - 1) s).toNat = _
        rw [up_n e]
      rw [Lo _ (by omega), e21, g7.1 s hs]
      refine List.map_congr_left (fun i hi => ?_)
      have hi := List.mem_range.mp hi
      rw [hdt_shift b hk (by omega), if_neg (fun z => e z.1)]
  · have old : y ∈ Ls (2 + 2 * s) := by
      by_cases e : s = d
      · subst e
        rw [up_s] at hy
        exact List.mem_of_mem_eraseIdx hy
      · rw [Lo _ (by omega)] at hy; exact hy
    obtain ⟨y1, y2, y3, y4⟩ := g7.2.1 s y hs old
    refine ⟨y1, y2, y3, fun ne cb => y4 ne ?_⟩
    have hs' : s < (C 1).toNat := hs
    have yb := b.v3 y
    obtain ⟨z1, z2⟩ := cb
    have z1 : A 5 y = stpA C A d k 13 (6 * s + (A 3 y).toNat) + 1 := z1
    rw [A13o _ (by omega)] at z1
    refine ⟨z1, fun u hu => ?_⟩
    have z2 : A 6 (6 * y + u) ≤ stpA C A d k 13 (6 * s + u) := z2 u hu
    rw [A13o _ (by omega)] at z2
    exact z2
  · show up (A 21) d (A 21 d - 1) s + cM (R5 s) C A ≤ C 6
    have := g7.2.2 s hs
    by_cases e : s = d
    · subst e; rw [up_s]; omega
    · rw [up_n e]; exact this
  · have hi : ¬ lvl C i := hi
    rw [Lo i (fun e => hi (by rw [e]; unfold lvl; omega))]
    exact g8 i hi
  · have h : C 1 = 0 := h
    omega
theorem SmA.cb (sm : SmA B A) : cbP C B = cbP C A := by
  funext t s
  unfold cbP cbq
  rw [sm 3 (by decide) (by decide) (by decide) (by decide) (by decide) (by decide) (by decide), sm 5 (by decide) (by decide) (by decide) (by decide) (by decide) (by decide) (by decide), sm 6 (by decide) (by decide) (by decide) (by decide) (by decide) (by decide) (by decide), sm 13 (by decide) (by decide) (by decide) (by decide) (by decide) (by decide) (by decide)]
/-- the class and the reference let go the same -/
theorem rel_all {d : Nat} (hd : d < (C 1).toNat) : ∀ (k m : Nat) (A A' B B' : Nat → Nat → Int) (Ls Ls' : Nat → List Nat), IZ n d C A I Ls → SmA B A → rlsP C d k A A' → clsP C d m B Ls B' Ls' → SmA B' A' ∧ IV n C A' I Ls' := by
  intro k
  induction k with
  | zero =>
    intro m A A' B B' Ls Ls' v sm hr hc
    obtain ⟨e, hn⟩ := hr
    obtain ⟨b, g1, g2, g3, g4, g5, gw, g6, g7, g8⟩ := v
    have l2 := g7.1 d hd
    have no : ∀ x, x ∈ Ls (2 + 2 * d) → ¬ cbP C A x d := fun x hx => by
      rw [l2] at hx
      obtain ⟨i, hi, ei⟩ := List.mem_map.mp hx
      rw [← ei]
      exact hn i (List.mem_range.mp hi)
    cases m with
    | zero =>
      obtain ⟨c1, c2, -⟩ := hc
      rw [c1, c2, e]
      refine ⟨sm, b, g1, g2, g3, g4, g5, gw, g6, ⟨g7.1, fun s x hs hx => ?_, g7.2.2⟩, g8⟩
      obtain ⟨y1, y2, y3, y4⟩ := g7.2.1 s x hs hx
      refine ⟨y1, y2, y3, ?_⟩
      by_cases z : s = d
      · rw [z] at hx ⊢; exact no x hx
      · exact y4 z
    | succ m =>
      obtain ⟨i, x, h1, -, h3, -⟩ := hc
      rw [sm.cb] at h3
      exact absurd h3 (no x (List.mem_of_getElem? h1))
  | succ k ih =>
    intro m A A' B B' Ls Ls' v sm hr hc
    obtain ⟨i, i1, i2, i3, i4⟩ := hr
    have v0 := v
    obtain ⟨b, g1, g2, g3, g4, g5, gw, g6, g7, g8⟩ := v
    have l2 := g7.1 d hd
    have hi : (Ls (2 + 2 * d))[i]? = some (hdt A d i) := by rw [l2, List.getElem?_map, List.getElem?_range i1]; rfl
    cases m with
    | zero =>
      obtain ⟨-, -, c3⟩ := hc
      rw [sm.cb] at c3
      exact absurd ⟨_, List.mem_of_getElem? hi, i3⟩ c3
    | succ m =>
      obtain ⟨j, x, j1, j2, j3, j4⟩ := hc
      rw [sm.cb] at j2 j3
      have e : j = i := by
        rcases Nat.lt_trichotomy i j with z | z | z
        · exact absurd i3 (j2 i _ z hi)
        · exact z.symm
        · have hj : j < (A 21 d).toNat := by omega
          rw [l2, List.getElem?_map, List.getElem?_range hj] at j1
          have e : hdt A d j = x := Option.some.inj j1
          rw [← e] at j3
          exact absurd j3 (i2 j z)
      subst e
      rw [hi] at j1
      have e : hdt A d j = x := Option.some.inj j1
      subst e
      have iz := v0.stp hd i1 i3
      refine ih m _ A' _ B' _ Ls' iz ?_ i4 j4
      have xm : hdt A d j ∈ Ls (2 + 2 * d) := List.mem_of_getElem? hi
      obtain ⟨x1, x2, -, -⟩ := g7.2.1 d _ hd xm
      have B0 : B 0 = A 0 := sm 0 (by decide) (by decide) (by decide) (by decide) (by decide) (by decide) (by decide)
      have B1 : B 1 = A 1 := sm 1 (by decide) (by decide) (by decide) (by decide) (by decide) (by decide) (by decide)
      have B3 : B 3 = A 3 := sm 3 (by decide) (by decide) (by decide) (by decide) (by decide) (by decide) (by decide)
      have B5 : B 5 = A 5 := sm 5 (by decide) (by decide) (by decide) (by decide) (by decide) (by decide) (by decide)
      have B10 : B 10 = A 10 := sm 10 (by decide) (by decide) (by decide) (by decide) (by decide) (by decide) (by decide)
      have B13 : B 13 = A 13 := sm 13 (by decide) (by decide) (by decide) (by decide) (by decide) (by decide) (by decide)
      intro q h7 h8 h14 h15 h18 h20 h21
      unfold apyA stpA
      by_cases e1 : q = 1
      · subst e1
        rw [up_s, up_s, up_n (by have := g3.2.2.2.2.2.2.1 _ x1; have := b.c1; omega), ukF_cg (A := A) B0 B1 B10]
        exact uk_eq (fun o w => (w.pl g1 x1).1) (fun o ho h1 => (g5.1 o _ ho h1).2.1)
      · rw [up_n e1, up_n e1]
        by_cases e13 : q = 13
        · subst e13
          rw [up_s, up_s, B13, B3, B5, i3.1]
        · rw [up_n e13, up_n e13, up_n h20, up_n h21]
          exact sm q h7 h8 h14 h15 h18 h20 h21
end P13
