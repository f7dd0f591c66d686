section P20
variable {C C' : Nat → Int} {A A' B B' I I' : Nat → Nat → Int} {Ls Ls' : Nat → List Nat} {n : Nat}
/-- a sum over the numbers below -/
def sm (f : Nat → Int) : Nat → Int
  | 0 => 0
  | k + 1 => sm f k + f k
theorem sm_e {f g : Nat → Int} : ∀ m, (∀ k, k < m → f k = g k) → sm f m = sm g m := by
  intro m
  induction m with
  | zero => intro _; rfl
  | succ m ih =>
    intro h
    show sm f m + f m = sm g m + g m
    rw [ih (fun k hk => h k (by omega)), h m (by omega)]
theorem sm_add {f g : Nat → Int} : ∀ m, sm (fun k => f k + g k) m = sm f m + sm g m := by
  intro m
  induction m with
  | zero => rfl
  | succ m ih =>
    show sm _ m + (f m + g m) = (sm f m + f m) + (sm g m + g m)
    rw [ih]
    omega
theorem sm_0 : ∀ m, sm (fun _ => 0) m = 0 := by
  intro m
  induction m with
  | zero => rfl
  | succ m ih => show sm _ m + 0 = 0; rw [ih]; rfl
theorem sm_1 {a : Nat} {x : Int} : ∀ m, a < m → sm (fun k => if k = a then x else 0) m = x := by
  intro m
  induction m with
  | zero => intro h; omega
  | succ m ih =>
    intro h
    show sm _ m + (if m = a then x else 0) = x
    by_cases e : m = a
    · rw [if_pos e, sm_e (g := fun _ => 0) m (fun k hk => if_neg (by omega)), sm_0]
      omega
    · rw [if_neg e, ih (by omega)]
      omega
theorem smj_cons {a : Nat} {l : List Nat} {f : Nat → Int} : ∀ j, smj (a :: l) f (j + 1) = f a + smj l f j := by
  intro j
  induction j with
  | zero => show 0 + f a = f a + 0; omega
  | succ j ih =>
    show smj (a :: l) f (j + 1) + (match (a :: l)[j + 1]? with | some x => f x | none => 0) = f a + (smj l f j + (match l[j]? with | some x => f x | none => 0))
    rw [ih]
    simp only [List.getElem?_cons_succ]
    omega
theorem smj_sm {f : Nat → Int} {m : Nat} : ∀ l : List Nat, l.Nodup → (∀ x, x ∈ l → x < m) → smj l f l.length = sm (fun k => if k ∈ l then f k else 0) m := by
  intro l
  induction l with
  | nil => intro _ _; rw [sm_e (g := fun _ => 0) m (fun k _ => if_neg (List.not_mem_nil)), sm_0]; rfl
  | cons a l ih =>
    intro hn hl
    have hn := List.nodup_cons.mp hn
    show smj (a :: l) f (l.length + 1) = _
    rw [smj_cons, ih hn.2 (fun x hx => hl x (List.mem_cons_of_mem _ hx))]
    rw [← sm_1 (a := a) (x := f a) m (hl a List.mem_cons_self), ← sm_add]
    refine sm_e m (fun k _ => ?_)
    by_cases e : k = a
    · rw [if_pos e, e, if_neg hn.1, if_pos List.mem_cons_self]
      omega
    · rw [if_neg e]
      by_cases z : k ∈ l
      · rw [if_pos z, if_pos (List.mem_cons_of_mem _ z)]; omega
      · rw [if_neg z, if_neg (fun y => (List.mem_cons.mp y).elim e z)]; omega
theorem cnt_sm {t o : Nat} {e : Int} : ∀ m, cnt A t o e m = sm (fun k => if cntP A t o e k then A 11 k else 0) m := by
  intro m
  induction m with
  | zero => rfl
  | succ m ih =>
    show (if cntP A t o e m then cnt A t o e m + A 11 m else cnt A t o e m) = sm _ m + (if cntP A t o e m then A 11 m else 0)
    rw [← ih]
    by_cases z : cntP A t o e m
    · rw [if_pos z, if_pos z]
    · rw [if_neg z, if_neg z, Int.add_zero]
/-- count of an element: the class adds up what the reference adds up -/
theorem cn_eq (v : IV n C A I Ls) {t o : Nat} {e : Int} (ht : t < (C 3).toNat) (ho : o < (C 2).toNat) (hp : ¬ A 2 o = 0) (h0 : A 4 t = 0) : smj (Ls (21 + 2 * o)) (fvs A t e) (Ls (21 + 2 * o)).length + smj (Ls (501 + 2 * t)) (fow A o e) (Ls (501 + 2 * t)).length = cnt A t o e (C 4).toNat := by
  obtain ⟨b, g1, g2, g3, g4, g5, gw, g6, g7, g8⟩ := v
  have op := opn b g4 g6 ht h0
  have m21 : ∀ x, x ∈ Ls (21 + 2 * o) → ∃ c, c < (C 3).toNat ∧ 0 < A 5 c ∧ x < (C 4).toNat ∧ A 9 x = c ∧ ¬ A 11 x = 0 ∧ (A 10 x).toNat = o := fun x hx => by
    obtain ⟨c, c1, c2, c3, c4⟩ := (g2.2.1 o x ho).mp hx
    have q := (c501 g1 c1).mp c3
    exact ⟨c, c1, c2, q.1, q.2.1, q.2.2, c4⟩
  rw [smj_sm (m := (C 4).toNat) _ (g2.2.2.1 o ho).2 (fun x hx => by obtain ⟨c, _, _, h, _⟩ := m21 x hx; exact h), smj_sm (m := (C 4).toNat) _ (by rw [g1.2.2.2.2.2.2 t ht]; exact List.nodup_range.filter _) (fun x hx => ((c501 g1 ht).mp hx).1), ← sm_add, cnt_sm]
  refine sm_e _ (fun k hk => ?_)
  have q := g1.1 k hk
  by_cases h1 : k ∈ Ls (21 + 2 * o)
  · obtain ⟨c, c1, c2, c3, c4, c5, c6⟩ := m21 k h1
    have nt : ¬ c = t := fun z => by rw [z] at c2; omega
    rw [if_pos h1, if_neg (fun z => nt (by have := ((c501 g1 ht).mp z).2.1; omega)), Int.add_zero]
    unfold fvs
    by_cases z : A 12 k = e ∧ visB A (A 9 k).toNat t = true
    · rw [if_pos z, if_pos ⟨by omega, z.1, Or.inr z.2⟩]
    · rw [if_neg z, if_neg (fun y => z ⟨y.2.1, y.2.2.elim (fun w => by omega) id⟩)]
  · rw [if_neg h1, Int.zero_add]
    by_cases h2 : k ∈ Ls (501 + 2 * t)
    · have r := (c501 g1 ht).mp h2
      rw [if_pos h2]
      unfold fow
      by_cases z : A 12 k = e ∧ (A 10 k).toNat = o
      · rw [if_pos z, if_pos ⟨by omega, z.1, Or.inl r.2.1⟩]
      · rw [if_neg z, if_neg (fun y => z ⟨y.2.1, by omega⟩)]
    · rw [if_neg h2, if_neg (fun y => ?_)]
      obtain ⟨y1, y2, y3⟩ := y
      have s11 : ¬ A 11 k = 0 := fun z => hp (by have := q.2.2.1.mp z; rw [show (A 10 k).toNat = o by omega] at this; exact this)
      rcases y3 with y3 | y3
      · exact h2 ((c501 g1 ht).mpr ⟨hk, y3, s11⟩)
      · refine h1 ((g2.2.1 o k ho).mpr ⟨(A 9 k).toNat, by omega, vis_5 y3, (c501 g1 (by omega)).mpr ⟨hk, by omega, s11⟩, by omega⟩)
/-- if an element counts, an operation speaks of it -/
theorem cnt_ex {t o : Nat} {e : Int} : ∀ m, ¬ cnt A t o e m = 0 → ∃ k, k < m ∧ A 10 k = o ∧ A 12 k = e := by
  intro m
  induction m with
  | zero => intro h; exact absurd rfl h
  | succ m ih =>
    intro h
    by_cases z : cntP A t o e m
    · exact ⟨m, by omega, z.1, z.2.1⟩
    · have h : ¬ (if cntP A t o e m then cnt A t o e m + A 11 m else cnt A t o e m) = 0 := h
      rw [if_neg z] at h
      obtain ⟨k, k1, k2⟩ := ih h
      exact ⟨k, by omega, k2⟩
theorem bst_s {t o n4 m : Nat} {l : Int} : bst A t o n4 l (m + 1) = if bsq A t o n4 l (bst A t o n4 l m) m then A 12 m else bst A t o n4 l m := rfl
theorem bst_le {t o n4 : Nat} {l : Int} : ∀ m, (∀ k, k < m → A 10 k = o → l < A 12 k → ¬ cnt A t o (A 12 k) n4 = 0 → bst A t o n4 l m ≤ A 12 k) ∧ (bst A t o n4 l m = 9223372036854775807 ∨ ∃ k, k < m ∧ A 10 k = o ∧ l < A 12 k ∧ ¬ cnt A t o (A 12 k) n4 = 0 ∧ bst A t o n4 l m = A 12 k) := by
  intro m
  induction m with
  | zero => exact ⟨fun k hk => absurd hk (by omega), Or.inl rfl⟩
  | succ m ih =>
    rw [bst_s]
    by_cases z : bsq A t o n4 l (bst A t o n4 l m) m
    · rw [if_pos z]
      refine ⟨fun k hk h1 h2 h3 => ?_, Or.inr ⟨m, by omega, z.1, z.2.1, z.2.2.2, rfl⟩⟩
      by_cases e : k = m
      · rw [e]; exact Int.le_refl _
      · have := ih.1 k (by omega) h1 h2 h3
        have := z.2.2.1
        omega
    · rw [if_neg z]
      refine ⟨fun k hk h1 h2 h3 => ?_, ih.2.imp id (fun ⟨k, k1, k2⟩ => ⟨k, by omega, k2⟩)⟩
      by_cases e : k = m
      · rw [e] at h1 h2 h3 ⊢
        by_cases y : bst A t o n4 l m ≤ A 12 m
        · exact y
        · exact absurd ⟨h1, h2, by omega, h3⟩ z
      · exact ih.1 k (by omega) h1 h2 h3
theorem eli_none {t o n4 : Nat} {m : Nat} (he : eli A t o n4 m = none) : ∀ k, eli A t o n4 (m + k) = none := by
  intro k
  induction k with
  | zero => exact he
  | succ k ih =>
    show (match eli A t o n4 (m + k) with | none => none | some l => if bst A t o n4 l n4 = 9223372036854775807 then none else some (bst A t o n4 l n4)) = none
    rw [ih]
theorem eli_some {t o n4 m : Nat} {l : Int} (he : eli A t o n4 m = some l) : eli A t o n4 (m + 1) = if bst A t o n4 l n4 = 9223372036854775807 then none else some (bst A t o n4 l n4) := by
  show (match eli A t o n4 m with | none => none | some l => if bst A t o n4 l n4 = 9223372036854775807 then none else some (bst A t o n4 l n4)) = _
  rw [he]
/-- element: the places of the tally are the reference's numbers -/
theorem el_eq {t o n4 m : Nat} {e c : Nat → Int} {Bd : Nat} {i : Int} (ti : TI m e c (fun y => cnt A t o y n4) Bd) : (∀ p, plc m c i m 0 = some p → 0 ≤ i ∧ eli A t o n4 (i.toNat + 1) = some (e p)) ∧ (plc m c i m 0 = none → i < 0 ∨ eli A t o n4 (i.toNat + 1) = none) := by
  obtain ⟨t1, t2, t3, t4, t5, t6⟩ := ti
  have t2 : ∀ p, p < m → c p = cnt A t o (e p) n4 := t2
  have t3 : ∀ x, ¬ cnt A t o x n4 = 0 → ∃ p, p < m ∧ e p = x := t3
  have sup : ∀ p, p < m → ¬ c p = 0 → ∃ k, k < n4 ∧ A 10 k = o ∧ A 12 k = e p ∧ ¬ cnt A t o (A 12 k) n4 = 0 := fun p hp hc => by
    have h : ¬ cnt A t o (e p) n4 = 0 := by rw [← t2 p hp]; exact hc
    obtain ⟨k, k1, k2, k3⟩ := cnt_ex n4 h
    exact ⟨k, k1, k2, k3, by rw [k3]; exact h⟩
  have main : ∀ r b : Nat, r ≤ m → (i < 0 ∨ (b : Int) ≤ i) → ∀ l, eli A t o n4 b = some l → (∀ p, p < m - r → ¬ c p = 0 → e p ≤ l) → (∀ p, m - r ≤ p → p < m → l < e p) → (∀ p, plc m c i r b = some p → 0 ≤ i ∧ eli A t o n4 (i.toNat + 1) = some (e p)) ∧ (plc m c i r b = none → i < 0 ∨ eli A t o n4 (i.toNat + 1) = none) := by
    intro r
    induction r with
    | zero =>
      intro b _ hb l hl h1 h2
      refine ⟨fun p hp => (by cases hp), fun _ => ?_⟩
      rcases hb with hb | hb
      · exact Or.inl hb
      · refine Or.inr ?_
        have hn : eli A t o n4 (b + 1) = none := by
          rw [eli_some hl]
          rcases (bst_le (A := A) (t := t) (o := o) (n4 := n4) (l := l) n4).2 with z | ⟨k, k1, k2, k3, k4, k5⟩
          · rw [if_pos z]
          · obtain ⟨p, p1, p2⟩ := t3 (A 12 k) k4
            have := h1 p (by omega) (by rw [t2 p p1, p2]; exact k4)
            omega
        have := eli_none hn (i.toNat - b)
        rw [show b + 1 + (i.toNat - b) = i.toNat + 1 by omega] at this
        exact this
    | succ r ih =>
      intro b hr hb l hl h1 h2
      by_cases z : c (m - (r + 1)) = 0
      · have e1 : plc m c i (r + 1) b = plc m c i r b := if_pos z
        rw [e1]
        refine ih b (by omega) hb l hl (fun p hp hc => ?_) (fun p hp hm => h2 p (by omega) hm)
        by_cases y : p = m - (r + 1)
        · rw [y] at hc; exact absurd z hc
        · exact h1 p (by omega) hc
      · obtain ⟨p0, ep⟩ : ∃ p0, p0 = m - (r + 1) := ⟨_, rfl⟩
        rw [← ep] at z
        have r4 := t4 p0 (by omega)
        unfold inR at r4
        have nx : eli A t o n4 (b + 1) = some (e p0) := by
          rw [eli_some hl]
          obtain ⟨k, k1, k2, k3, k4⟩ := sup p0 (by omega) z
          have lt := h2 p0 (by omega) (by omega)
          have le := (bst_le (A := A) (t := t) (o := o) (n4 := n4) (l := l) n4).1 k k1 k2 (by rw [k3]; exact lt) k4
          rcases (bst_le (A := A) (t := t) (o := o) (n4 := n4) (l := l) n4).2 with y | ⟨q, q1, q2, q3, q4, q5⟩
          · rw [y, k3] at le; omega
          · obtain ⟨p, p1, p2⟩ := t3 (A 12 q) q4
            have cp : ¬ c p = 0 := by rw [t2 p p1, p2]; exact q4
            have pge : p0 ≤ p := by
              rcases Nat.lt_or_ge p p0 with w | w
              · have := h1 p (by omega) cp; omega
              · exact w
            have ge : e p0 ≤ e p := by
              rcases Nat.eq_or_lt_of_le pge with w | w
              · rw [w]; exact Int.le_refl _
              · have := t1 p0 p w p1; omega
            have eq : bst A t o n4 l n4 = e p0 := by rw [k3] at le; rw [q5] at le ⊢; omega
            rw [eq, if_neg (by omega)]
        by_cases y : (b : Int) = i
        · have e1 : plc m c i (r + 1) b = some p0 := by rw [ep]; exact (if_neg (by rw [← ep]; exact z)).trans (if_pos y)
          rw [e1]
          refine ⟨fun p hp => ?_, fun h => (by cases h)⟩
          cases hp
          refine ⟨by omega, ?_⟩
          rw [show i.toNat = b by omega]
          exact nx
        · have e1 : plc m c i (r + 1) b = plc m c i r (b + 1) := (if_neg (by rw [← ep]; exact z)).trans (if_neg y)
          rw [e1]
          refine ih (b + 1) (by omega) (hb.imp id (fun w => by omega)) (e p0) nx (fun p hp hc => ?_) (fun p hp hm => t1 p0 p (by omega) hm)
          by_cases w : p = p0
          · rw [w]; exact Int.le_refl _
          · have := t1 p p0 (by omega) (by omega); omega
  refine main m 0 (Nat.le_refl _) (by omega) (-9223372036854775808) rfl (fun p hp => absurd hp (by omega)) (fun p _ hp => ?_)
  have := t4 p hp
  unfold inR at this
  omega
end P20
