section P1
variable {C : Nat → Int} {A I : Nat → Nat → Int} {Ls : Nat → List Nat}
/-- t wrote the plain object o -/
def Wt (A : Nat → Nat → Int) (Ls : Nat → List Nat) (t o : Nat) : Prop := ∃ x, x ∈ Ls (500 + 2 * t) ∧ (A 10 x).toNat = o
/-- the operations, and the lists of the transactions -/
def G1 (C : Nat → Int) (A I : Nat → Nat → Int) (Ls : Nat → List Nat) : Prop :=
  (∀ k, k < (C 4).toNat → (0 ≤ A 9 k ∧ A 9 k < C 3) ∧ (0 ≤ A 10 k ∧ A 10 k < C 2) ∧ (A 11 k = 0 ↔ A 2 (A 10 k).toNat = 0) ∧ (¬ A 11 k = 0 → inR (A 12 k))) ∧
  (∀ t x, t < (C 3).toNat → x ∈ Ls (500 + 2 * t) → x < (C 4).toNat ∧ A 9 x = t ∧ A 11 x = 0) ∧
  (∀ k, k < (C 4).toNat → A 11 k = 0 → ∃ x, x ∈ Ls (500 + 2 * (A 9 k).toNat) ∧ A 10 x = A 10 k) ∧
  (∀ t, t < (C 3).toNat → (Ls (500 + 2 * t)).Nodup) ∧
  (∀ t x y, t < (C 3).toNat → x ∈ Ls (500 + 2 * t) → y ∈ Ls (500 + 2 * t) → A 10 x = A 10 y → x = y) ∧
  (∀ t x, t < (C 3).toNat → x ∈ Ls (500 + 2 * t) → I 1 x = lst A t (A 10 x).toNat (C 4).toNat) ∧
  (∀ t, t < (C 3).toNat → Ls (501 + 2 * t) = (List.range (C 4).toNat).filter (fun k => decide (A 9 k = t ∧ ¬ A 11 k = 0)))
theorem wrtB_iff {t o : Nat} : wrtB C A t o = true ↔ ∃ k, k < (C 4).toNat ∧ A 9 k = t ∧ A 10 k = o := by
  unfold wrtB
  rw [List.any_eq_true]
  constructor
  · rintro ⟨k, h1, h2⟩
    simp only [Bool.and_eq_true, decide_eq_true_eq] at h2
    exact ⟨k, List.mem_range.mp h1, h2.1, h2.2⟩
  · rintro ⟨k, h1, h2, h3⟩
    exact ⟨k, List.mem_range.mpr h1, by simp only [Bool.and_eq_true, decide_eq_true_eq]; exact ⟨h2, h3⟩⟩
theorem Wt.pl (g : G1 C A I Ls) {t o : Nat} (ht : t < (C 3).toNat) (w : Wt A Ls t o) : o < (C 2).toNat ∧ A 2 o = 0 := by
  obtain ⟨x, hx, rfl⟩ := w
  have h1 := g.2.1 t x ht hx
  have h2 := g.1 x h1.1
  exact ⟨by omega, h2.2.2.1.mp h1.2.2⟩
theorem wrt_wt (g : G1 C A I Ls) {t o : Nat} (ht : t < (C 3).toNat) (ho : A 2 o = 0) : wrtB C A t o = true ↔ Wt A Ls t o := by
  rw [wrtB_iff]
  constructor
  · rintro ⟨k, h1, h2, h3⟩
    have q := g.1 k h1
    have e : (A 10 k).toNat = o := by omega
    obtain ⟨x, hx, hx2⟩ := g.2.2.1 k h1 (q.2.2.1.mpr (by rw [e]; exact ho))
    rw [h2, show ((t : Int)).toNat = t by omega] at hx
    exact ⟨x, hx, by rw [hx2]; exact e⟩
  · rintro ⟨x, hx, he⟩
    have h1 := g.2.1 t x ht hx
    have h2 := g.1 x h1.1
    exact ⟨x, h1.1, h1.2.1, by omega⟩
theorem amg_wt {t s o : Nat} : amg A (Ls (500 + 2 * t)) s (Ls (500 + 2 * t)).length o ↔ A 0 o = s ∧ Wt A Ls t o := by
  unfold amg Wt
  constructor
  · rintro ⟨h1, q, y, h2, h3, h4⟩
    exact ⟨h1, y, List.mem_of_getElem? h3, h4⟩
  · rintro ⟨h1, x, h2, h3⟩
    obtain ⟨q, hq, e⟩ := List.mem_iff_getElem.mp h2
    exact ⟨h1, q, x, hq, by rw [List.getElem?_eq_getElem hq, e], h3⟩
theorem wrq_wt (g : G1 C A I Ls) {t s o : Nat} (ht : t < (C 3).toNat) : (o < (C 2).toNat ∧ wrq C A t s o) ↔ (A 0 o = s ∧ Wt A Ls t o) := by
  constructor
  · rintro ⟨h1, h2, h3, h4⟩
    exact ⟨h3, (wrt_wt g ht h2).mp h4⟩
  · rintro ⟨h1, h2⟩
    have q := h2.pl g ht
    exact ⟨q.1, q.2, h1, (wrt_wt g ht q.2).mpr h2⟩
theorem lk_eq (g : G1 C A I Ls) {t s : Nat} (ht : t < (C 3).toNat) : lkF A (Ls (500 + 2 * t)) t s (Ls (500 + 2 * t)).length = lckF C A t s (C 2).toNat := by
  funext o
  unfold lkF lckF
  by_cases q : A 0 o = s ∧ Wt A Ls t o
  · rw [if_pos (amg_wt.mpr q), if_pos ((wrq_wt g ht).mpr q)]
  · rw [if_neg (fun z => q (amg_wt.mp z)), if_neg (fun z => q ((wrq_wt g ht).mp z))]
theorem uk_eq {t s : Nat} (hp : ∀ o, Wt A Ls t o → o < (C 2).toNat) (hl : ∀ o, o < (C 2).toNat → A 1 o = t → Wt A Ls t o) : ukF A (Ls (500 + 2 * t)) t s (Ls (500 + 2 * t)).length = unlF A t s (C 2).toNat := by
  funext o
  unfold ukF unlF
  by_cases q : (A 0 o = s ∧ Wt A Ls t o) ∧ A 1 o = t
  · rw [if_pos ⟨amg_wt.mpr q.1, q.2⟩, if_pos ⟨hp o q.1.2, q.1.1, q.2⟩]
  · rw [if_neg (fun z => q ⟨amg_wt.mp z.1, z.2⟩), if_neg (fun z => q ⟨⟨z.2.1, hl o z.1 z.2.2⟩, z.2.2⟩)]
theorem aks_iff (g : G1 C A I Ls) {t u : Nat} (ht : t < (C 3).toNat) : aks A Ls t u ↔ ¬ (u : Int) = A 3 t ∧ wraP C A t u := by
  unfold aks wraP
  constructor
  · rintro ⟨h1, x, h2, h3⟩
    obtain ⟨h4, h5⟩ := (wrq_wt g ht (s := u) (o := (A 10 x).toNat)).mpr ⟨h3, x, h2, rfl⟩
    exact ⟨h1, _, h4, h5⟩
  · rintro ⟨h1, o, h2, h3⟩
    obtain ⟨h4, x, h5, h6⟩ := (wrq_wt g ht).mp ⟨h2, h3⟩
    exact ⟨h1, x, h5, by rw [h6]; exact h4⟩
end P1
