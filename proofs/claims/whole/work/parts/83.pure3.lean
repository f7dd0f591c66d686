section P3
variable {C : Nat → Int} {A I : Nat → Nat → Int} {Ls : Nat → List Nat}
theorem pI_y {P : Prop} (h : P) : pI P = 1 := by unfold pI; rw [if_pos h]
theorem pI_n {P : Prop} (h : ¬ P) : pI P = 0 := by unfold pI; rw [if_neg h]
theorem pI_e {P P' : Prop} (h : P ↔ P') : pI P = pI P' := by rw [show P = P' from propext h]
theorem nP_e {P P' : Nat → Prop} : ∀ n : Nat, (∀ k, k < n → (P k ↔ P' k)) → nP P n = nP P' n := by
  intro n
  induction n with
  | zero => intro _; rfl
  | succ n ih =>
    intro h
    show nP P n + pI (P n) = nP P' n + pI (P' n)
    rw [ih (fun k hk => h k (by omega)), pI_e (h n (by omega))]
theorem nP_0 {P : Nat → Prop} : ∀ n : Nat, (∀ k, k < n → ¬ P k) → nP P n = 0 := by
  intro n
  induction n with
  | zero => intro _; rfl
  | succ n ih =>
    intro h
    show nP P n + pI (P n) = 0
    rw [ih (fun k hk => h k (by omega)), pI_n (h n (by omega))]
    rfl
theorem nP_z {P : Nat → Prop} : ∀ n : Nat, nP P n = 0 → ∀ k, k < n → ¬ P k := by
  intro n
  induction n with
  | zero => intro _ k hk; omega
  | succ n ih =>
    intro h k hk hp
    have h : nP P n + pI (P n) = 0 := h
    have b := nP_b P n
    by_cases e : k = n
    · rw [← e, pI_y hp] at h
      rw [← e] at b
      omega
    · have p1 : 0 ≤ pI (P n) := by
        by_cases z : P n
        · rw [pI_y z]; decide
        · rw [pI_n z]; decide
      exact ih (by omega) k (by omega) hp
/-- one fewer -/
theorem nP_r {P P' : Nat → Prop} {q : Nat} (hp : P q) (hp' : ¬ P' q) : ∀ n : Nat, q < n → (∀ k, k < n → ¬ k = q → (P' k ↔ P k)) → nP P' n = nP P n - 1 := by
  intro n
  induction n with
  | zero => intro h; omega
  | succ n ih =>
    intro hq h
    show nP P' n + pI (P' n) = nP P n + pI (P n) - 1
    by_cases e : q = n
    · rw [nP_e n (fun k hk => h k (by omega) (by omega)), ← e, pI_y hp, pI_n hp']
      omega
    · rw [ih (by omega) (fun k hk => h k (by omega)), pI_e (h n (by omega) (by omega))]
      omega
theorem nP_up {P : Nat → Prop} {q : Nat} : ∀ n : Nat, q < n → P q → 0 < nP P n := by
  intro n hq hp
  have b := nP_b P n
  by_cases e : nP P n = 0
  · exact absurd hp (nP_z n e q hq)
  · omega
theorem nP_l {P P' : Nat → Prop} : ∀ n : Nat, (∀ k, k < n → P k → P' k) → nP P n ≤ nP P' n := by
  intro n
  induction n with
  | zero => intro _; exact Int.le_refl _
  | succ n ih =>
    intro h
    show nP P n + pI (P n) ≤ nP P' n + pI (P' n)
    have := ih (fun k hk => h k (by omega))
    by_cases z : P n
    · rw [pI_y z, pI_y (h n (by omega) z)]; omega
    · rw [pI_n z]
      by_cases y : P' n
      · rw [pI_y y]; omega
      · rw [pI_n y]; omega
/-- below n if one of them is missing -/
theorem nP_lt {P : Nat → Prop} {q : Nat} (hq : ¬ P q) : ∀ n : Nat, q < n → nP P n ≤ (n : Int) - 1 := by
  intro n
  induction n with
  | zero => intro h; omega
  | succ n ih =>
    intro h
    show nP P n + pI (P n) ≤ _
    have b := nP_b P n
    by_cases e : q = n
    · rw [← e, pI_n hq]
      rw [← e] at b
      omega
    · have := ih (by omega)
      by_cases z : P n
      · rw [pI_y z]; omega
      · rw [pI_n z]; omega
theorem snd_o {a d so t : Int} {q : Nat} (hq : ¬ q = (C 5).toNat) : sndA C A a d so t 16 q = A 16 q ∧ sndA C A a d so t 17 q = A 17 q ∧ sndA C A a d so t 18 q = A 18 q ∧ sndA C A a d so t 19 q = A 19 q := ⟨show up (A 16) _ _ q = _ from up_n hq, show up (A 17) _ _ q = _ from up_n hq, show up (A 18) _ _ q = _ from up_n hq, show up (A 19) _ _ q = _ from up_n hq⟩
theorem snd_n {a d so t : Int} : sndA C A a d so t 16 (C 5).toNat = a ∧ sndA C A a d so t 17 (C 5).toNat = d ∧ sndA C A a d so t 18 (C 5).toNat = so ∧ sndA C A a d so t 19 (C 5).toNat = t := ⟨show up (A 16) _ _ _ = _ from up_s, show up (A 17) _ _ _ = _ from up_s, show up (A 18) _ _ _ = _ from up_s, show up (A 19) _ _ _ = _ from up_s⟩
theorem snd_5 (h5 : 0 ≤ C 5) : (sndC C 5).toNat = (C 5).toNat + 1 := by show (C 5 + 1).toNat = _; omega
theorem cM_s {R : Int → Int → Int → Int → Prop} {a d so t : Int} (h5 : 0 ≤ C 5) : cM R (sndC C) (sndA C A a d so t) = cM R C A + pI (R a d so t) := by
  unfold cM
  rw [snd_5 h5]
  show nP _ (C 5).toNat + pI _ = _
  have n := snd_n (C := C) (A := A) (a := a) (d := d) (so := so) (t := t)
  show nP _ (C 5).toNat + pI (R (sndA C A a d so t 16 (C 5).toNat) (sndA C A a d so t 17 (C 5).toNat) (sndA C A a d so t 18 (C 5).toNat) (sndA C A a d so t 19 (C 5).toNat)) = _
  rw [n.1, n.2.1, n.2.2.1, n.2.2.2]
  rw [nP_e (P' := fun q => R (A 16 q) (A 17 q) (A 18 q) (A 19 q)) _ (fun k hk => by
    have o := snd_o (C := C) (A := A) (a := a) (d := d) (so := so) (t := t) (q := k) (by omega)
    rw [o.1, o.2.1, o.2.2.1, o.2.2.2])]
theorem bcs_5 {P : Nat → Prop} {a so t : Int} (h5 : 0 ≤ C 5) : ∀ u, C 5 ≤ (bcs P a so t C A u).1 5 ∧ (bcs P a so t C A u).1 5 ≤ C 5 + u ∧ (∀ k, ¬ k = 5 → (bcs P a so t C A u).1 k = C k) ∧ (∀ k, k < 16 ∨ 19 < k → (bcs P a so t C A u).2 k = A k) := by
  intro u
  induction u with
  | zero => exact ⟨Int.le_refl _, by show C 5 ≤ C 5 + (0 : Nat); omega, fun _ _ => rfl, fun _ _ => rfl⟩
  | succ u ih =>
    by_cases hp : P u
    · rw [bcs_y hp]
      refine ⟨?_, ?_, fun k hk => ?_, fun k hk => ?_⟩
      · show C 5 ≤ (bcs P a so t C A u).1 5 + 1
        have := ih.1
        omega
      · show (bcs P a so t C A u).1 5 + 1 ≤ _
        have := ih.2.1
        omega
      · exact (up_n hk).trans (ih.2.2.1 k hk)
      · show up (up (up (up _ 16 _) 17 _) 18 _) 19 _ k = _
        rw [up_n (by omega), up_n (by omega), up_n (by omega), up_n (by omega)]
        exact ih.2.2.2 k hk
    · rw [bcs_n hp]
      exact ⟨ih.1, by have := ih.2.1; omega, ih.2.2⟩
theorem cM_b {R : Int → Int → Int → Int → Prop} {P : Nat → Prop} {a so t : Int} (h5 : 0 ≤ C 5) : ∀ u, cM R (bcs P a so t C A u).1 (bcs P a so t C A u).2 = cM R C A + nP (fun v => P v ∧ R a v so t) u := by
  intro u
  induction u with
  | zero => show cM R C A = cM R C A + 0; rw [Int.add_zero]
  | succ u ih =>
    show _ = _ + (nP _ u + pI _)
    by_cases hp : P u
    · rw [bcs_y hp]
      have h := bcs_5 (P := P) (a := a) (so := so) (t := t) (A := A) h5 u
      rw [cM_s (by omega), ih, pI_e (show (P u ∧ R a u so t) ↔ R a u so t from ⟨fun z => z.2, fun z => ⟨hp, z⟩⟩), Int.add_assoc]
    · rw [bcs_n hp, ih, pI_n (fun z => hp z.1), Int.add_zero]
/-- messages that were there stay -/
theorem bcs_o {P : Nat → Prop} {a so t : Int} (h5 : 0 ≤ C 5) : ∀ u q, q < (C 5).toNat → (bcs P a so t C A u).2 16 q = A 16 q ∧ (bcs P a so t C A u).2 17 q = A 17 q ∧ (bcs P a so t C A u).2 18 q = A 18 q ∧ (bcs P a so t C A u).2 19 q = A 19 q := by
  intro u
  induction u with
  | zero => intro q hq; exact ⟨rfl, rfl, rfl, rfl⟩
  | succ u ih =>
    intro q hq
    by_cases hp : P u
    · rw [bcs_y hp]
      have h := bcs_5 (P := P) (a := a) (so := so) (t := t) (A := A) h5 u
      have o := snd_o (C := (bcs P a so t C A u).1) (A := (bcs P a so t C A u).2) (a := a) (d := u) (so := so) (t := t) (q := q) (by omega)
      have i := ih q hq
      exact ⟨o.1.trans i.1, o.2.1.trans i.2.1, o.2.2.1.trans i.2.2.1, o.2.2.2.trans i.2.2.2⟩
    · rw [bcs_n hp]
      exact ih q hq
/-- a message more, in the inboxes' terms -/
theorem G6.snd (g : G6 C A I Ls) (b5 : 0 ≤ C 5) {a d t : Nat} {so : Int} (ha : (a : Int) < C 1) (hd : (d : Int) < C 1) (hn : ¬ a = d) (hs : 1 ≤ so ∧ so ≤ 5) (ht : t < (C 3).toNat) (h3 : so ≤ 3 → A 4 t = 2 ∨ A 4 t = 3) (h4 : so = 4 → A 4 t = 2) (h5 : so = 5 → 0 < A 5 t) (h6 : (so = 1 ∨ so = 4 ∨ so = 5) → (a : Int) = A 3 t) (h7 : (so = 2 ∨ so = 3) → (d : Int) = A 3 t) : G6 (sndC C) (sndA C A a d so t) (up I 2 (up (I 2) (C 5).toNat so)) (up Ls (3 + 2 * d) (Ls (3 + 2 * d) ++ [(C 5).toNat])) := by
  have e5 := snd_5 b5
  have n := snd_n (C := C) (A := A) (a := a) (d := d) (so := so) (t := t)
  have tt : ((t : Int)).toNat = t := by omega
  refine ⟨fun q hq h0 => ?_, fun q hq => ?_, fun s hs' => ?_⟩
  · rw [e5] at hq
    by_cases e : q = (C 5).toNat
    · subst e
      unfold msq
      rw [n.1, n.2.1, n.2.2.1, n.2.2.2, tt]
      refine ⟨⟨by omega, ha⟩, ⟨by omega, hd⟩, by omega, hs, ?_, h3, h4, h5, h6, h7⟩
      exact up_s
    · have o := snd_o (C := C) (A := A) (a := a) (d := d) (so := so) (t := t) e
      have m := g.1 q (by omega) (by rw [← o.2.2.1]; exact h0)
      unfold msq at m ⊢
      rw [o.1, o.2.1, o.2.2.1, o.2.2.2]
      rw [show up I 2 (up (I 2) (C 5).toNat so) 2 q = I 2 q from up_n e]
      exact m
  · rw [e5] at hq
    by_cases e : q = (C 5).toNat
    · subst e
      rw [n.2.2.2]
      rw [show up I 2 (up (I 2) (C 5).toNat so) 2 (C 5).toNat = so from up_s]
      refine ⟨⟨by omega, ?_⟩, hs⟩
      show (t : Int) < C 3
      omega
    · have o := snd_o (C := C) (A := A) (a := a) (d := d) (so := so) (t := t) e
      rw [o.2.2.2, show up I 2 (up (I 2) (C 5).toNat so) 2 q = I 2 q from up_n e]
      exact g.2.1 q (by omega)
  · have hs' : s < (C 1).toNat := hs'
    rw [e5, List.range_succ, List.filter_append]
    have e0 : (List.range (C 5).toNat).filter (fun q => decide (¬ sndA C A a d so t 18 q = 0 ∧ sndA C A a d so t 17 q = s)) = (List.range (C 5).toNat).filter (fun q => decide (¬ A 18 q = 0 ∧ A 17 q = s)) := by
      refine List.filter_congr (fun q hq => ?_)
      have hq := List.mem_range.mp hq
      have o := snd_o (C := C) (A := A) (a := a) (d := d) (so := so) (t := t) (q := q) (by omega)
      rw [o.2.1, o.2.2.1]
    rw [e0, ← g.2.2 s hs']
    by_cases e : s = d
    · subst e
      rw [up_s, List.filter_cons_of_pos (by rw [n.2.1, n.2.2.1]; exact decide_eq_true ⟨by omega, rfl⟩)]
      rfl
    · rw [up_n (by omega), List.filter_cons_of_neg (by rw [n.2.1, n.2.2.1]; simp; omega)]
      simp
end P3
