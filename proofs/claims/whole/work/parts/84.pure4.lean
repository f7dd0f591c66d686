section P4
variable {C C' : Nat → Int} {A A' I I' : Nat → Nat → Int} {Ls Ls' : Nat → List Nat} {n : Nat}
/-- only messages have changed -/
def mso (C : Nat → Int) (A I : Nat → Nat → Int) (Ls : Nat → List Nat) (C' : Nat → Int) (A' I' : Nat → Nat → Int) (Ls' : Nat → List Nat) : Prop := (∀ k, ¬ k = 5 → C' k = C k) ∧ (∀ k, k < 16 ∨ 19 < k → A' k = A k) ∧ (∀ k, ¬ k = 2 → I' k = I k) ∧ (∀ i, (i < 2 ∨ i % 2 = 0 ∨ 20 ≤ i) → Ls' i = Ls i)
theorem mso.vis (m : mso C A I Ls C' A' I' Ls') : visB A' = visB A := by
  funext c t
  unfold visB
  rw [m.2.1 5 (by decide), m.2.1 6 (by decide), m.2.1 3 (by decide)]
theorem mso.wt (m : mso C A I Ls C' A' I' Ls') : Wt A' Ls' = Wt A Ls := by
  funext t o
  unfold Wt
  rw [m.2.1 10 (by decide), m.2.2.2 (500 + 2 * t) (by omega)]
theorem lst_c (h9 : A' 9 = A 9) (h10 : A' 10 = A 10) (h12 : A' 12 = A 12) : lst A' = lst A := by
  funext t o n
  induction n with
  | zero => rfl
  | succ n ih =>
    show (if A' 9 n = t ∧ A' 10 n = o then A' 12 n else lst A' t o n) = (if A 9 n = t ∧ A 10 n = o then A 12 n else lst A t o n)
    rw [h9, h10, h12, ih]
theorem G1.cg (g : G1 C A I Ls) (h2 : A' 2 = A 2) (h9 : A' 9 = A 9) (h10 : A' 10 = A 10) (h11 : A' 11 = A 11) (h12 : A' 12 = A 12) : G1 C A' I Ls := by
  have hl := lst_c h9 h10 h12
  unfold G1
  simp only [h2, h9, h10, h11, h12, hl]
  exact g
theorem G1.ms (g : G1 C A I Ls) (m : mso C A I Ls C' A' I' Ls') : G1 C' A' I' Ls' := by
  have hl := lst_c (m.2.1 9 (by decide)) (m.2.1 10 (by decide)) (m.2.1 12 (by decide))
  have e0 : ∀ t, Ls' (500 + 2 * t) = Ls (500 + 2 * t) := fun t => m.2.2.2 _ (by omega)
  have e1 : ∀ t, Ls' (501 + 2 * t) = Ls (501 + 2 * t) := fun t => m.2.2.2 _ (by omega)
  unfold G1
  simp only [m.1 2 (by decide), m.1 3 (by decide), m.1 4 (by decide), m.2.1 2 (by decide), m.2.1 9 (by decide), m.2.1 10 (by decide), m.2.1 11 (by decide), m.2.1 12 (by decide), m.2.2.1 1 (by decide), hl, e0, e1]
  exact g
theorem G2.ms (g : G2 C A Ls) (m : mso C A I Ls C' A' I' Ls') : G2 C' A' Ls' := by
  have e0 : ∀ t, Ls' (500 + 2 * t) = Ls (500 + 2 * t) := fun t => m.2.2.2 _ (by omega)
  have e1 : ∀ t, Ls' (501 + 2 * t) = Ls (501 + 2 * t) := fun t => m.2.2.2 _ (by omega)
  have e2 : ∀ t, Ls' (20 + 2 * t) = Ls (20 + 2 * t) := fun t => m.2.2.2 _ (by omega)
  have e3 : ∀ t, Ls' (21 + 2 * t) = Ls (21 + 2 * t) := fun t => m.2.2.2 _ (by omega)
  unfold G2
  simp only [m.1 2 (by decide), m.1 3 (by decide), m.2.1 5 (by decide), m.2.1 9 (by decide), m.2.1 10 (by decide), m.vis, e0, e1, e2, e3]
  exact g
theorem G3.ms (g : G3 C A) (m : mso C A I Ls C' A' I' Ls') : G3 C' A' := by
  unfold G3
  simp only [m.1 1 (by decide), m.1 2 (by decide), m.1 3 (by decide), m.1 6 (by decide), m.2.1 0 (by decide), m.2.1 3 (by decide), m.2.1 5 (by decide), m.2.1 6 (by decide), m.2.1 13 (by decide), m.2.1 14 (by decide)]
  exact g
theorem G4.ms (g : G4 C A) (m : mso C A I Ls C' A' I' Ls') : G4 C' A' := by
  unfold G4
  simp only [m.1 3 (by decide), m.2.1 4 (by decide), m.2.1 5 (by decide), m.2.1 7 (by decide), m.2.1 8 (by decide)]
  exact g
theorem G5.ms (g : G5 C A Ls) (m : mso C A I Ls C' A' I' Ls') : G5 C' A' Ls' := by
  unfold G5
  simp only [m.1 2 (by decide), m.1 3 (by decide), m.2.1 0 (by decide), m.2.1 1 (by decide), m.2.1 3 (by decide), m.2.1 5 (by decide), m.2.1 13 (by decide), m.vis, m.wt]
  exact g
/-- with messages kept and others added, what is asked of who waits is no more -/
theorem WtG.ms {t : Nat} (w : WtG C A I Ls t) (m : mso C A I Ls C' A' I' Ls') (h5 : (C 5).toNat ≤ (C' 5).toNat) (ho : ∀ q, q < (C 5).toNat → A' 16 q = A 16 q ∧ A' 17 q = A 17 q ∧ A' 18 q = A 18 q ∧ A' 19 q = A 19 q) (hc : cM (R3 t) C' A' = cM (R3 t) C A) : WtG C' A' I' Ls' t := by
  unfold WtG
  simp only [m.1 2 (by decide), m.2.1 0 (by decide), m.2.1 1 (by decide), m.2.1 3 (by decide), m.2.1 4 (by decide), m.2.1 7 (by decide), m.2.1 8 (by decide), m.2.2.1 0 (by decide), m.wt, hc]
  intro h4
  obtain ⟨w1, w2, w3, w4⟩ := w h4
  refine ⟨w1, w2, w3, fun o ho' hw hq => w4 o ho' hw (hq.imp id (fun z q hq' hp => z q (by omega) ?_))⟩
  have e := ho q hq'
  unfold pnd at hp ⊢
  rw [e.1, e.2.1, e.2.2.1, e.2.2.2]
  exact hp
theorem cbP.ms (m : mso C A I Ls C' A' I' Ls') : cbP C' A' = cbP C A := by
  funext t s
  unfold cbP cbq
  rw [m.1 1 (by decide), m.2.1 3 (by decide), m.2.1 5 (by decide), m.2.1 6 (by decide), m.2.1 13 (by decide)]
theorem G7.ms (g : G7 C A Ls) (m : mso C A I Ls C' A' I' Ls') (h3 : ∀ s : Nat, s < (C 1).toNat → A 21 s + cM (R5 s) C' A' ≤ C 6) : G7 C' A' Ls' := by
  have e2 : ∀ s, Ls' (2 + 2 * s) = Ls (2 + 2 * s) := fun t => m.2.2.2 _ (by omega)
  have eh : hdt A' = hdt A := by funext s k; unfold hdt; rw [m.2.1 20 (by decide)]
  unfold G7
  simp only [m.1 1 (by decide), m.1 3 (by decide), m.1 6 (by decide), m.2.1 3 (by decide), m.2.1 5 (by decide), m.2.1 21 (by decide), e2, eh, cbP.ms m]
  exact ⟨g.1, g.2.1, h3⟩
theorem lvl.ms {i : Nat} (m : mso C A I Ls C' A' I' Ls') : lvl C' i ↔ lvl C i := by
  unfold lvl
  rw [m.1 1 (by decide), m.1 2 (by decide), m.1 3 (by decide)]
/-- IV but for one who waits -/
def IX (n : Nat) (e : Nat → Prop) (C : Nat → Int) (A I : Nat → Nat → Int) (Ls : Nat → List Nat) : Prop := RB C A ∧ G1 C A I Ls ∧ G2 C A Ls ∧ G3 C A ∧ G4 C A ∧ G5 C A Ls ∧ (∀ t, t < (C 3).toNat → ¬ e t → WtG C A I Ls t) ∧ G6 C A I Ls ∧ G7 C A Ls ∧ G8 n C A I Ls
theorem IV.x {e : Nat → Prop} (v : IV n C A I Ls) : IX n e C A I Ls := ⟨v.1, v.2.1, v.2.2.1, v.2.2.2.1, v.2.2.2.2.1, v.2.2.2.2.2.1, fun t ht _ => v.2.2.2.2.2.2.1 t ht, v.2.2.2.2.2.2.2⟩
theorem IX.v {e : Nat → Prop} (v : IX n e C A I Ls) (h : ∀ t, t < (C 3).toNat → e t → WtG C A I Ls t) : IV n C A I Ls := ⟨v.1, v.2.1, v.2.2.1, v.2.2.2.1, v.2.2.2.2.1, v.2.2.2.2.2.1, fun t ht => by
  by_cases q : e t
  · exact h t ht q
  · exact v.2.2.2.2.2.2.1 t ht q, v.2.2.2.2.2.2.2⟩
theorem IX.nx {e : Nat → Prop} (v : IX n e C A I Ls) : IX (n + 1) e C A I Ls := by
  obtain ⟨v1, v2, v3, v4, v5, v6, v7, v8, v9, w1, w2, w3, w4, w5⟩ := v
  exact ⟨v1, v2, v3, v4, v5, v6, v7, v8, v9, w1, w2, w3, by omega, by omega⟩
/-- a phase alone: committed without a number, or aborted, while it was open -/
theorem IV.ph (iv : IV n C A I Ls) {t : Nat} {v : Int} (ht : t < (C 3).toNat) (h0 : A 4 t = 0) (hv : v = 1 ∨ v = 2) : IV (n + 1) C (up A 4 (up (A 4) t v)) I Ls := by
  obtain ⟨b, g1, g2, g3, g4, g5, gw, g6, g7, g8, w2, w3, w4, w5⟩ := iv
  have s : up A 4 (up (A 4) t v) 4 t = v := up_s
  have o : ∀ t', ¬ t' = t → up A 4 (up (A 4) t v) 4 t' = A 4 t' := fun t' h => show up (A 4) t v t' = A 4 t' from up_n h
  refine ⟨b.t4 (by omega), g1.cg rfl rfl rfl rfl rfl, g2, g3, ⟨fun t' h1 h2 => ?_, fun t' h1 => ?_, fun t' h1 => ?_⟩, g5, fun t' h1 => ?_, ⟨fun q hq h => ?_, g6.2⟩, g7, g8, w2, w3, by omega, by omega⟩
  · have h2 : 0 < A 5 t' := h2
    by_cases e : t' = t
    · subst e
      have := g4.1 t' h1 h2
      omega
    · rw [o t' e]; exact g4.1 t' h1 h2
  · by_cases e : t' = t
    · subst e
      rw [s] at h1
      omega
    · rw [o t' e] at h1; exact g4.2.1 t' h1
  · rw [o t' (by omega)]; exact g4.2.2 t' h1
  · intro h4
    by_cases e : t' = t
    · subst e
      rw [s] at h4
      omega
    · rw [o t' e] at h4
      exact gw t' h1 h4
  · have m := g6.1 q hq h
    obtain ⟨m1, m2, m3, m4, m5, m6, m7, m8, m9, m10⟩ := m
    refine ⟨m1, m2, m3, m4, m5, fun z => ?_, fun z => ?_, m8, m9, m10⟩
    · have := m6 z
      show up (A 4) t v (A 19 q).toNat = 2 ∨ up (A 4) t v (A 19 q).toNat = 3
      by_cases e : (A 19 q).toNat = t
      · rw [e] at this; omega
      · rw [up_n e]; exact this
    · have := m7 z
      show up (A 4) t v (A 19 q).toNat = 2
      by_cases e : (A 19 q).toNat = t
      · rw [e] at this; omega
      · rw [up_n e]; exact this
end P4
