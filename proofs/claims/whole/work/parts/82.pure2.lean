section P2
variable {C : Nat → Int} {A I : Nat → Nat → Int} {Ls : Nat → List Nat}
/-- what the items hold: the numbered transactions' writes and changes, the writes in the order of sight -/
def G2 (C : Nat → Int) (A : Nat → Nat → Int) (Ls : Nat → List Nat) : Prop :=
  (∀ o k, o < (C 2).toNat → (k ∈ Ls (20 + 2 * o) ↔ ∃ t, t < (C 3).toNat ∧ 0 < A 5 t ∧ k ∈ Ls (500 + 2 * t) ∧ (A 10 k).toNat = o)) ∧
  (∀ o k, o < (C 2).toNat → (k ∈ Ls (21 + 2 * o) ↔ ∃ t, t < (C 3).toNat ∧ 0 < A 5 t ∧ k ∈ Ls (501 + 2 * t) ∧ (A 10 k).toNat = o)) ∧
  (∀ o, o < (C 2).toNat → (Ls (20 + 2 * o)).Nodup ∧ (Ls (21 + 2 * o)).Nodup) ∧
  (∀ o, o < (C 2).toNat → (Ls (20 + 2 * o)).Pairwise (fun x y => visB A (A 9 x).toNat (A 9 y).toNat = true ∧ visB A (A 9 y).toNat (A 9 x).toNat = false))
/-- clocks -/
def G3 (C : Nat → Int) (A : Nat → Nat → Int) : Prop :=
  (∀ t, t < (C 3).toNat → A 5 t ≤ A 14 (A 3 t).toNat) ∧ (∀ t u, t < (C 3).toNat → u < (C 1).toNat → A 6 (6 * t + u) ≤ A 14 u) ∧ (∀ s u, s < (C 1).toNat → u < (C 1).toNat → A 13 (6 * s + u) ≤ A 14 u) ∧ (∀ s, s < (C 1).toNat → A 13 (6 * s + s) = A 14 s) ∧ (∀ s, A 14 s ≤ C 6) ∧ C 6 = nP (fun t => 0 < A 5 t) (C 3).toNat ∧ (∀ t, t < (C 3).toNat → A 3 t < C 1) ∧ (∀ o, o < (C 2).toNat → A 0 o < C 1)
/-- how many messages are such -/
noncomputable def cM (R : Int → Int → Int → Int → Prop) (C : Nat → Int) (A : Nat → Nat → Int) : Int := nP (fun q => R (A 16 q) (A 17 q) (A 18 q) (A 19 q)) (C 5).toNat
/-- phases -/
def G4 (C : Nat → Int) (A : Nat → Nat → Int) : Prop :=
  (∀ t, t < (C 3).toNat → 0 < A 5 t → A 4 t = 1) ∧
  (∀ t, A 4 t = 0 → A 7 t = 0 ∧ A 8 t = 0) ∧
  (∀ t, (C 3).toNat ≤ t → A 4 t = 0 ∧ A 5 t = 0)
/-- an ask or a no about t, that concerns the site s -/
def pnd (A : Nat → Nat → Int) (q t : Nat) (s : Int) : Prop := A 19 q = t ∧ ((A 18 q = 1 ∧ A 17 q = s) ∨ (A 18 q = 3 ∧ A 16 q = s))
/-- locks -/
def G5 (C : Nat → Int) (A : Nat → Nat → Int) (Ls : Nat → List Nat) : Prop :=
  (∀ o t : Nat, o < (C 2).toNat → A 1 o = t → t < (C 3).toNat ∧ Wt A Ls t o ∧ ∀ c, c < (C 3).toNat → ¬ c = t → 0 < A 5 c → Wt A Ls c o → visB A c t = true) ∧
  (∀ o c : Nat, o < (C 2).toNat → c < (C 3).toNat → 0 < A 5 c → Wt A Ls c o → ¬ A 5 c ≤ A 13 (6 * (A 0 o).toNat + (A 3 c).toNat) → A 1 o = c)
/-- the questions about t that are open -/
def R3 (t : Nat) : Int → Int → Int → Int → Prop := fun _ _ so x => x = t ∧ (1 ≤ so ∧ so ≤ 3)
def R5 (s : Nat) : Int → Int → Int → Int → Prop := fun _ d so _ => so = 5 ∧ d = s
/-- who waits -/
def WtG (C : Nat → Int) (A I : Nat → Nat → Int) (Ls : Nat → List Nat) (t : Nat) : Prop := A 4 t = 3 → I 0 t = A 8 t - A 7 t ∧ I 0 t = cM (R3 t) C A ∧ (0 ≤ A 7 t ∧ A 8 t ≤ 6) ∧ ∀ o, o < (C 2).toNat → Wt A Ls t o → (A 0 o = A 3 t ∨ ∀ q, q < (C 5).toNat → ¬ pnd A q t (A 0 o)) → A 1 o = t
/-- a message on its way -/
def msq (C : Nat → Int) (A I : Nat → Nat → Int) (q : Nat) : Prop := (0 ≤ A 16 q ∧ A 16 q < C 1) ∧ (0 ≤ A 17 q ∧ A 17 q < C 1) ∧ ¬ A 16 q = A 17 q ∧ (1 ≤ A 18 q ∧ A 18 q ≤ 5) ∧ I 2 q = A 18 q ∧ (A 18 q ≤ 3 → A 4 (A 19 q).toNat = 2 ∨ A 4 (A 19 q).toNat = 3) ∧ (A 18 q = 4 → A 4 (A 19 q).toNat = 2) ∧ (A 18 q = 5 → 0 < A 5 (A 19 q).toNat) ∧ ((A 18 q = 1 ∨ A 18 q = 4 ∨ A 18 q = 5) → A 16 q = A 3 (A 19 q).toNat) ∧ ((A 18 q = 2 ∨ A 18 q = 3) → A 17 q = A 3 (A 19 q).toNat)
def G6 (C : Nat → Int) (A I : Nat → Nat → Int) (Ls : Nat → List Nat) : Prop :=
  (∀ q, q < (C 5).toNat → ¬ A 18 q = 0 → msq C A I q) ∧
  (∀ q, q < (C 5).toNat → (0 ≤ A 19 q ∧ A 19 q < C 3) ∧ 1 ≤ I 2 q ∧ I 2 q ≤ 5) ∧
  (∀ s : Nat, s < (C 1).toNat → Ls (3 + 2 * s) = (List.range (C 5).toNat).filter (fun q => decide (¬ A 18 q = 0 ∧ A 17 q = s)))
/-- what is held back -/
def G7 (C : Nat → Int) (A : Nat → Nat → Int) (Ls : Nat → List Nat) : Prop :=
  (∀ s, s < (C 1).toNat → Ls (2 + 2 * s) = (List.range (A 21 s).toNat).map (hdt A s)) ∧
  (∀ s x : Nat, s < (C 1).toNat → x ∈ Ls (2 + 2 * s) → x < (C 3).toNat ∧ 0 < A 5 x ∧ ¬ A 3 x = s ∧ ¬ cbP C A x s) ∧
  (∀ s : Nat, s < (C 1).toNat → A 21 s + cM (R5 s) C A ≤ C 6)
/-- bounds by the number n of the calls -/
def G8 (n : Nat) (C : Nat → Int) (A I : Nat → Nat → Int) (Ls : Nat → List Nat) : Prop :=
  (∀ i, ¬ lvl C i → Ls i = []) ∧ (C 1 = 0 → ∀ j, A 13 j = 0 ∧ A 21 j = 0) ∧ (0 ≤ I 3 0 ∧ I 3 0 ≤ C 4) ∧ C 2 + C 3 + C 4 ≤ n ∧ C 5 ≤ 6 * n
def IV (n : Nat) (C : Nat → Int) (A I : Nat → Nat → Int) (Ls : Nat → List Nat) : Prop := RB C A ∧ G1 C A I Ls ∧ G2 C A Ls ∧ G3 C A ∧ G4 C A ∧ G5 C A Ls ∧ (∀ t, t < (C 3).toNat → WtG C A I Ls t) ∧ G6 C A I Ls ∧ G7 C A Ls ∧ G8 n C A I Ls
theorem visB_iff {c t : Nat} : visB A c t = true ↔ 0 < A 5 c ∧ A 5 c ≤ A 6 (6 * t + (A 3 c).toNat) := by
  unfold visB
  rw [Bool.and_eq_true, decide_eq_true_eq, decide_eq_true_eq]
theorem visB_f {c t : Nat} : visB A c t = false ↔ ¬ (0 < A 5 c ∧ A 5 c ≤ A 6 (6 * t + (A 3 c).toNat)) := by
  rw [← visB_iff]
  cases visB A c t <;> simp
/-- conflicts: what the class sees is what the reference sees -/
theorem acf_iff (b : RB C A) (g1 : G1 C A I Ls) (g2 : G2 C A Ls) {t s : Nat} (ht : t < (C 3).toNat) (h5 : A 5 t = 0) : (∃ x, x ∈ Ls (500 + 2 * t) ∧ (fun k => A 0 (A 10 k).toNat = s ∧ hcf A Ls (A 10 k).toNat t s) x) ↔ acfP C A t s := by
  have cf : ∀ o, o < (C 2).toNat → A 2 o = 0 → A 0 o = s → (hcf A Ls o t s ↔ cflP C A t o) := fun o ho hp hs => by
    have hl := b.v1 o
    unfold hcf cflP
    constructor
    · rintro (h1 | ⟨k, h1, h2, h3⟩)
      · exact Or.inl ⟨by omega, h1.2⟩
      · obtain ⟨c, c1, c2, c3, c4⟩ := (g2.1 o k ho).mp h1
        have c5 := (g1.2.1 c k c1 c3).2.1
        rw [c5, show ((c : Int)).toNat = c by omega] at h2 h3
        refine Or.inr ⟨c, c1, fun e => by rw [e] at c2; omega, ⟨h2.1, ?_⟩, h3, (wrt_wt g1 c1 hp).mpr ⟨k, c3, c4⟩⟩
        rw [hs, show ((s : Int)).toNat = s by omega]
        exact h2.2
    · rintro (h1 | ⟨c, c1, c2, c3, c4, c5⟩)
      · exact Or.inl ⟨by omega, h1.2⟩
      · obtain ⟨k, k1, k2⟩ := (wrt_wt g1 c1 hp).mp c5
        have c6 := (g1.2.1 c k c1 k1).2.1
        refine Or.inr ⟨k, (g2.1 o k ho).mpr ⟨c, c1, c3.1, k1, k2⟩, ?_, ?_⟩
        · rw [c6, show ((c : Int)).toNat = c by omega]
          rw [hs, show ((s : Int)).toNat = s by omega] at c3
          exact c3
        · rw [c6, show ((c : Int)).toNat = c by omega]
          exact c4
  unfold acfP
  constructor
  · rintro ⟨x, h1, h2, h3⟩
    have w : Wt A Ls t (A 10 x).toNat := ⟨x, h1, rfl⟩
    have q := w.pl g1 ht
    exact ⟨_, q.1, ⟨q.2, h2, (wrt_wt g1 ht q.2).mpr w⟩, (cf _ q.1 q.2 h2).mp h3⟩
  · rintro ⟨o, h1, ⟨h2, h3, h4⟩, h5⟩
    obtain ⟨x, x1, x2⟩ := (wrt_wt g1 ht h2).mp h4
    refine ⟨x, x1, ?_⟩
    show A 0 (A 10 x).toNat = s ∧ hcf A Ls (A 10 x).toNat t s
    rw [x2]
    exact ⟨h3, (cf o h1 h2 h3).mpr h5⟩
end P2
