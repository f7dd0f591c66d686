section P21
variable {C C' : Nat → Int} {A A' B B' I I' : Nat → Nat → Int} {Ls Ls' : Nat → List Nat} {n : Nat}
theorem cnj_e {l l' : List Nat} {P : Nat → Prop} : ∀ j, (∀ i, i < j → l[i]? = l'[i]?) → cnj l P j = cnj l' P j := by
  intro j
  induction j with
  | zero => intro _; rfl
  | succ j ih =>
    intro h
    show cnj l P j + pI (∃ x, l[j]? = some x ∧ P x) = cnj l' P j + pI (∃ x, l'[j]? = some x ∧ P x)
    rw [ih (fun i hi => h i (by omega)), h j (by omega)]
theorem cnj_app {l : List Nat} {x : Nat} {P : Nat → Prop} : cnj (l ++ [x]) P (l ++ [x]).length = cnj l P l.length + pI (P x) := by
  rw [show (l ++ [x]).length = l.length + 1 by simp]
  show cnj (l ++ [x]) P l.length + pI (∃ y, (l ++ [x])[l.length]? = some y ∧ P y) = _
  rw [cnj_e (l' := l) l.length (fun i hi => List.getElem?_append_left hi)]
  congr 1
  refine pI_e ⟨fun ⟨y, y1, y2⟩ => ?_, fun h => ⟨x, by simp, h⟩⟩
  have : x = y := by simpa using y1
  rw [this]; exact y2
/-- waiting -/
theorem wt_eq (v : IV n C A I Ls) {d : Nat} {a : Int} (hd : d < (C 1).toNat) : cnj (Ls (3 + 2 * d)) (fun q => A 16 q = a) (Ls (3 + 2 * d)).length = wtn A a d (C 5).toNat := by
  rw [v.2.2.2.2.2.2.2.1.2.2 d hd]
  have : ∀ m, cnj ((List.range m).filter (fun q => decide (¬ A 18 q = 0 ∧ A 17 q = d))) (fun q => A 16 q = a) ((List.range m).filter (fun q => decide (¬ A 18 q = 0 ∧ A 17 q = d))).length = wtn A a d m := by
    intro m
    induction m with
    | zero => rfl
    | succ m ih =>
      show _ = if wtq A a d m then wtn A a d m + 1 else wtn A a d m
      rw [List.range_succ, List.filter_append]
      by_cases z : ¬ A 18 m = 0 ∧ A 17 m = d
      · rw [List.filter_cons_of_pos (by exact decide_eq_true z), List.filter_nil, cnj_app, ih]
        by_cases y : A 16 m = a
        · rw [pI_y y, if_pos ⟨z.1, y, z.2⟩]
        · rw [pI_n y, if_neg (fun w => y w.2.1), Int.add_zero]
      · rw [List.filter_cons_of_neg (by rw [decide_eq_true_eq]; exact z), List.filter_nil, List.append_nil, ih, if_neg (fun w => z ⟨w.1, w.2.2⟩)]
  exact this _
theorem lsm_h (v : IV n C A I Ls) : ∀ m, m ≤ (C 1).toNat → lsm Ls 2 m = hsm A m := by
  intro m
  induction m with
  | zero => intro _; rfl
  | succ m ih =>
    intro hm
    show lsm Ls 2 m + ((Ls (2 + 2 * m)).length : Int) = hsm A m + A 21 m
    have := v.1.v21 m
    rw [ih (by omega), v.2.2.2.2.2.2.2.2.1.1 m (by omega), List.length_map, List.length_range]
    omega
theorem lsm_f {F G : Nat → List Nat} : ∀ m, (∀ s, s < m → (F (3 + 2 * s)).length = (G (3 + 2 * s)).length) → lsm F 3 m = lsm G 3 m := by
  intro m
  induction m with
  | zero => intro _; rfl
  | succ m ih =>
    intro h
    show lsm F 3 m + ((F (3 + 2 * m)).length : Int) = lsm G 3 m + ((G (3 + 2 * m)).length : Int)
    rw [ih (fun s hs => h s (by omega)), h m (by omega)]
/-- the inboxes of the first m messages -/
def inb (A : Nat → Nat → Int) (m : Nat) : Nat → List Nat := fun i => (List.range m).filter (fun q => decide (¬ A 18 q = 0 ∧ A 17 q = ((i - 3) / 2 : Nat)))
theorem inb_0 : ∀ s, lsm (inb A 0) 3 s = 0 := by
  intro s
  induction s with
  | zero => rfl
  | succ s ih => show lsm _ 3 s + ((inb A 0 (3 + 2 * s)).length : Int) = 0; rw [ih]; rfl
theorem inb_s {m : Nat} (h : ¬ A 18 m = 0 → 0 ≤ A 17 m) : ∀ s, lsm (inb A (m + 1)) 3 s = lsm (inb A m) 3 s + (if ¬ A 18 m = 0 ∧ A 17 m < s then 1 else 0) := by
  intro s
  induction s with
  | zero => show (0 : Int) = 0 + _; rw [if_neg (fun z => by have := h z.1; have := z.2; omega)]; rfl
  | succ s ih =>
    show lsm _ 3 s + ((inb A (m + 1) (3 + 2 * s)).length : Int) = lsm _ 3 s + ((inb A m (3 + 2 * s)).length : Int) + _
    rw [ih]
    unfold inb
    rw [show (3 + 2 * s - 3) / 2 = s by omega, List.range_succ, List.filter_append, List.length_append]
    by_cases z : ¬ A 18 m = 0 ∧ A 17 m = s
    · rw [List.filter_cons_of_pos (by exact decide_eq_true z), if_neg (by omega), if_pos ⟨z.1, by omega⟩]
      simp
      omega
    · rw [List.filter_cons_of_neg (by rw [decide_eq_true_eq]; exact z)]
      by_cases y : ¬ A 18 m = 0 ∧ A 17 m < s
      · rw [if_pos y, if_pos ⟨y.1, by omega⟩]; simp; omega
      · rw [if_neg y, if_neg (fun w => by
          have w1 := w.1
          have w2 := w.2
          by_cases q : A 17 m = s
          · exact z ⟨w1, q⟩
          · exact y ⟨w1, by omega⟩)]
        simp
theorem lsm_m (v : IV n C A I Ls) : lsm Ls 3 (C 1).toNat = msm A (C 5).toNat := by
  have g6 := v.2.2.2.2.2.2.2.1
  rw [lsm_f (G := inb A (C 5).toNat) _ (fun s hs => by
    rw [g6.2.2 s hs]
    unfold inb
    rw [show (3 + 2 * s - 3) / 2 = s by omega])]
  have : ∀ m, m ≤ (C 5).toNat → lsm (inb A m) 3 (C 1).toNat = msm A m := by
    intro m
    induction m with
    | zero => intro _; rw [inb_0]; rfl
    | succ m ih =>
      intro hm
      show _ = if A 18 m = 0 then msm A m else msm A m + 1
      rw [inb_s (fun z => ((g6.1 m (by omega) z).2.1).1), ih (by omega)]
      by_cases z : A 18 m = 0
      · rw [if_pos z, if_neg (fun y => y.1 z), Int.add_zero]
      · have := (g6.1 m (by omega) z).2.1
        rw [if_neg z, if_pos ⟨z, by omega⟩]
  exact this _ (Nat.le_refl _)
/-- count of what -/
theorem ct_eq (v : IV n C A I Ls) {x : Int} : cnK C Ls x = cnR C A x := by
  unfold cnK cnR
  rw [lsm_h v _ (Nat.le_refl _), lsm_m v]
/-- the beginning -/
theorem iv_0 : IV 0 (fun _ => 0) (fun _ _ => 0) (fun _ _ => 0) (fun _ => []) := by
  refine ⟨⟨by decide, by decide, by decide, by decide, by decide, by decide, fun _ => (show 0 ≤ (0 : Int) ∧ (0 : Int) < 6 by decide), fun _ => (show -1 ≤ (0 : Int) ∧ (0 : Int) < 500 by decide), fun _ => Or.inl rfl, fun _ => (show 0 ≤ (0 : Int) ∧ (0 : Int) < 6 by decide), fun _ => (show 0 ≤ (0 : Int) ∧ (0 : Int) ≤ 3 by decide), fun _ => (show 0 ≤ (0 : Int) ∧ (0 : Int) ≤ 500 by decide), fun _ => (show 0 ≤ (0 : Int) ∧ (0 : Int) ≤ 500 by decide), fun _ => (show 0 ≤ (0 : Int) ∧ (0 : Int) ≤ 10 by decide), fun _ => (show 0 ≤ (0 : Int) ∧ (0 : Int) ≤ 10 by decide), fun _ => (show 0 ≤ (0 : Int) ∧ (0 : Int) < 500 by decide), fun _ => (show 0 ≤ (0 : Int) ∧ (0 : Int) < 200 by decide), fun _ => (show -1 ≤ (0 : Int) ∧ (0 : Int) ≤ 1 by decide), fun _ => (show -9223372036854775808 ≤ (0 : Int) ∧ (0 : Int) < 9223372036854775808 by decide), fun _ => (show 0 ≤ (0 : Int) ∧ (0 : Int) ≤ 500 by decide), fun _ => (show 0 ≤ (0 : Int) ∧ (0 : Int) ≤ 500 by decide), fun _ => (show 0 ≤ (0 : Int) ∧ (0 : Int) < 6 by decide), fun _ => (show 0 ≤ (0 : Int) ∧ (0 : Int) < 6 by decide), fun _ => (show 0 ≤ (0 : Int) ∧ (0 : Int) ≤ 5 by decide), fun _ => (show 0 ≤ (0 : Int) ∧ (0 : Int) < 500 by decide), fun _ => (show 0 ≤ (0 : Int) ∧ (0 : Int) < 500 by decide), fun _ => (show 0 ≤ (0 : Int) ∧ (0 : Int) ≤ 500 by decide)⟩, ⟨fun k h => absurd h (Nat.not_lt_zero _), fun t x h => absurd h (Nat.not_lt_zero _), fun k h => absurd h (Nat.not_lt_zero _), fun t h => absurd h (Nat.not_lt_zero _), fun t x y h => absurd h (Nat.not_lt_zero _), fun t x h => absurd h (Nat.not_lt_zero _), fun t h => absurd h (Nat.not_lt_zero _)⟩, ⟨fun o k h => absurd h (Nat.not_lt_zero _), fun o k h => absurd h (Nat.not_lt_zero _), fun o h => absurd h (Nat.not_lt_zero _), fun o h => absurd h (Nat.not_lt_zero _)⟩, ⟨fun t h => absurd h (Nat.not_lt_zero _), fun t u h => absurd h (Nat.not_lt_zero _), fun s u h => absurd h (Nat.not_lt_zero _), fun s h => absurd h (Nat.not_lt_zero _), fun _ => Int.le_refl _, rfl, fun t h => absurd h (Nat.not_lt_zero _), fun o h => absurd h (Nat.not_lt_zero _)⟩, ⟨fun t h => absurd h (Nat.not_lt_zero _), fun _ _ => ⟨rfl, rfl⟩, fun _ _ => ⟨rfl, rfl⟩⟩, ⟨fun o t h => absurd h (Nat.not_lt_zero _), fun o c h => absurd h (Nat.not_lt_zero _)⟩, fun t h => absurd h (Nat.not_lt_zero _), ⟨fun q h => absurd h (Nat.not_lt_zero _), fun q h => absurd h (Nat.not_lt_zero _), fun s h => absurd h (Nat.not_lt_zero _)⟩, ⟨fun s h => absurd h (Nat.not_lt_zero _), fun s x h => absurd h (Nat.not_lt_zero _), fun s h => absurd h (Nat.not_lt_zero _)⟩, fun _ _ => rfl, fun _ _ => ⟨rfl, rfl⟩, ⟨Int.le_refl _, Int.le_refl _⟩, Int.le_refl _, Int.le_refl _⟩
end P21
