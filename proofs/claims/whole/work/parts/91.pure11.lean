section P11
variable {C C' : Nat → Int} {A A' B I I' : Nat → Nat → Int} {Ls Ls' : Nat → List Nat} {n : Nat}
theorem erase_f {x : Nat} : ∀ (l : List Nat) (j : Nat), l.Nodup → l[j]? = some x → l.eraseIdx j = l.filter (fun y => decide (¬ y = x)) := by
  intro l
  induction l with
  | nil => intro j _ h; simp at h
  | cons a l ih =>
    intro j hn h
    have hn := List.nodup_cons.mp hn
    cases j with
    | zero =>
      have e : a = x := by simpa using h
      subst e
      rw [List.filter_cons_of_neg (by simp)]
      show l = _
      refine (List.filter_eq_self.mpr (fun y hy => ?_)).symm
      rw [decide_eq_true_eq]
      intro z
      rw [z] at hy
      exact hn.1 hy
    | succ j =>
      have h : l[j]? = some x := by simpa using h
      have ne : ¬ a = x := fun z => by rw [z] at hn; exact hn.1 (List.mem_of_getElem? h)
      rw [List.filter_cons_of_pos (by exact decide_eq_true ne)]
      show a :: l.eraseIdx j = _
      rw [ih j hn.2 h]
theorem inb_lt {P : Nat → Bool} {m : Nat} : ((List.range m).filter P).Pairwise (· < ·) := List.pairwise_lt_range.filter _
/-- the class takes the message that the reference finds -/
theorem msg_eq (g6 : G6 C A I Ls) {d j x k : Nat} {a : Int} (hd : d < (C 1).toNat) (hx : (Ls (3 + 2 * d))[j]? = some x) (hn : nof (Ls (3 + 2 * d)) (fun q => A 16 q = a) j) (ha : A 16 x = a) (hk : k < (C 5).toNat) (hk1 : ∀ q, q < k → ¬ wtq A a d q) (hk2 : wtq A a d k) : k = x ∧ x < (C 5).toNat ∧ ¬ A 18 x = 0 ∧ A 17 x = d := by
  have el := g6.2.2 d hd
  have hm := List.mem_of_getElem? hx
  rw [el, List.mem_filter, List.mem_range, decide_eq_true_eq] at hm
  refine ⟨?_, hm.1, hm.2⟩
  rcases Nat.lt_trichotomy k x with h | h | h
  · have km : k ∈ Ls (3 + 2 * d) := by
      rw [el, List.mem_filter, List.mem_range, decide_eq_true_eq]
      exact ⟨hk, hk2.1, hk2.2.2⟩
    obtain ⟨i, hi, e⟩ := List.mem_iff_getElem.mp km
    have hi2 : (Ls (3 + 2 * d))[i]? = some k := by rw [List.getElem?_eq_getElem hi, e]
    rcases Nat.lt_or_ge i j with z | z
    · exact absurd hk2.2.1 (hn i k z hi2)
    · obtain ⟨hj, ej⟩ := List.getElem?_eq_some_iff.mp hx
      rcases Nat.eq_or_lt_of_le z with y | y
      · subst y
        omega
      · have pw : (Ls (3 + 2 * d)).Pairwise (· < ·) := by rw [el]; exact inb_lt
        have := List.pairwise_iff_getElem.mp pw j i hj hi y
        omega
  · exact h
  · exact absurd ⟨hm.2.1, ha, hm.2.2⟩ (hk1 x h)
theorem msg_no (g6 : G6 C A I Ls) {d : Nat} {a : Int} (hd : d < (C 1).toNat) : (¬ ∃ x, x ∈ Ls (3 + 2 * d) ∧ (fun q => A 16 q = a) x) ↔ ∀ q, q < (C 5).toNat → ¬ wtq A a d q := by
  have el := g6.2.2 d hd
  constructor
  · intro h q hq w
    refine h ⟨q, ?_, w.2.1⟩
    rw [el, List.mem_filter, List.mem_range, decide_eq_true_eq]
    exact ⟨hq, w.1, w.2.2⟩
  · rintro h ⟨x, x1, x2⟩
    rw [el, List.mem_filter, List.mem_range, decide_eq_true_eq] at x1
    exact h x x1.1 ⟨x1.2.1, x2, x1.2.2⟩
theorem cM_rm {R : Int → Int → Int → Int → Prop} {x : Nat} (hx : x < (C 5).toNat) (h1 : R (A 16 x) (A 17 x) (A 18 x) (A 19 x)) (h0 : ∀ a b d, ¬ R a b 0 d) : cM R C (up A 18 (up (A 18) x 0)) = cM R C A - 1 := by
  refine nP_r (q := x) h1 ?_ _ hx (fun k _ hn => ?_)
  · show ¬ R (A 16 x) (A 17 x) (up (A 18) x 0 x) (A 19 x)
    rw [up_s]; exact h0 _ _ _
  · show R (A 16 k) (A 17 k) (up (A 18) x 0 k) (A 19 k) ↔ _
    rw [up_n hn]
theorem cM_rn {R : Int → Int → Int → Int → Prop} {x : Nat} (h1 : ¬ R (A 16 x) (A 17 x) (A 18 x) (A 19 x)) (h0 : ∀ a b d, ¬ R a b 0 d) : cM R C (up A 18 (up (A 18) x 0)) = cM R C A := by
  refine nP_e _ (fun k _ => ?_)
  show R (A 16 k) (A 17 k) (up (A 18) x 0 k) (A 19 k) ↔ R (A 16 k) (A 17 k) (A 18 k) (A 19 k)
  by_cases e : k = x
  · rw [e, up_s]
    exact ⟨fun z => absurd z (h0 _ _ _), fun z => absurd z h1⟩
  · rw [up_n e]
theorem R3_0 {t : Nat} : ∀ a b d, ¬ R3 t a b 0 d := fun _ _ _ z => by unfold R3 at z; omega
theorem R5_0 {t : Nat} : ∀ a b d, ¬ R5 t a b 0 d := fun _ _ _ z => by unfold R5 at z; omega
/-- a message is taken out -/
theorem IV.rm (v : IV n C A I Ls) {d j x t : Nat} (hd : d < (C 1).toNat) (hj : (Ls (3 + 2 * d))[j]? = some x) (hx : x < (C 5).toNat) (h18 : ¬ A 18 x = 0) (h17 : A 17 x = d) (et : A 19 x = t) :
    IX n (fun y => y = t) C (up A 18 (up (A 18) x 0)) I (up Ls (3 + 2 * d) ((Ls (3 + 2 * d)).eraseIdx j)) ∧ (A 18 x = 5 → A 21 d + cM (R5 d) C (up A 18 (up (A 18) x 0)) + 1 ≤ C 6) ∧ msq C A I x ∧ t < (C 3).toNat ∧ (A 4 t = 3 → I 0 t = A 8 t - A 7 t ∧ cM (R3 t) C (up A 18 (up (A 18) x 0)) = I 0 t - pI (A 18 x ≤ 3) ∧ (0 ≤ A 7 t ∧ A 8 t ≤ 6) ∧ ∀ o, o < (C 2).toNat → Wt A Ls t o → (A 0 o = A 3 t ∨ (¬ pnd A x t (A 0 o) ∧ ∀ q, q < (C 5).toNat → ¬ pnd (up A 18 (up (A 18) x 0)) q t (A 0 o))) → A 1 o = t) := by
  obtain ⟨b, g1, g2, g3, g4, g5, gw, g6, g7, g8, w2, w3, w4, w5⟩ := v
  have b1 := b.c1
  have m := g6.1 x hx h18
  have m19 := (g6.2.1 x hx).1
  have ht : t < (C 3).toNat := by omega
  have el := g6.2.2 d hd
  have nd : (Ls (3 + 2 * d)).Nodup := by rw [el]; exact List.nodup_range.filter _
  have a18o : ∀ q, ¬ q = x → up A 18 (up (A 18) x 0) 18 q = A 18 q := fun q hq => show up (A 18) x 0 q = A 18 q from up_n hq
  have a18s : up A 18 (up (A 18) x 0) 18 x = 0 := up_s
  have Lo : ∀ i, ¬ i = 3 + 2 * d → up Ls (3 + 2 * d) ((Ls (3 + 2 * d)).eraseIdx j) i = Ls i := fun i hi => up_n hi
  have ew : Wt A (up Ls (3 + 2 * d) ((Ls (3 + 2 * d)).eraseIdx j)) = Wt A Ls := by
    funext t' o
    unfold Wt
    rw [Lo _ (by omega)]
  have Lw : ∀ t', up Ls (3 + 2 * d) ((Ls (3 + 2 * d)).eraseIdx j) (500 + 2 * t') = Ls (500 + 2 * t') := fun t' => Lo _ (by omega)
  have Lc : ∀ t', up Ls (3 + 2 * d) ((Ls (3 + 2 * d)).eraseIdx j) (501 + 2 * t') = Ls (501 + 2 * t') := fun t' => Lo _ (by omega)
  have L2 : ∀ t', up Ls (3 + 2 * d) ((Ls (3 + 2 * d)).eraseIdx j) (20 + 2 * t') = Ls (20 + 2 * t') := fun t' => Lo _ (by omega)
  have L21 : ∀ t', up Ls (3 + 2 * d) ((Ls (3 + 2 * d)).eraseIdx j) (21 + 2 * t') = Ls (21 + 2 * t') := fun t' => Lo _ (by omega)
  have Lh : ∀ s, up Ls (3 + 2 * d) ((Ls (3 + 2 * d)).eraseIdx j) (2 + 2 * s) = Ls (2 + 2 * s) := fun t' => Lo _ (by omega)
  refine ⟨⟨b.t18 (by decide), ?_, ?_, g3, g4, ?_, fun t' ht' hne => ?_, ⟨fun q hq h0 => ?_, g6.2.1, fun s hs => ?_⟩, ⟨fun s hs => ?_, fun s y hs hy => ?_, fun s hs => ?_⟩, fun i hi => ?_, w2, w3, w4, w5⟩, fun h5 => ?_, m, ht, fun h4 => ?_⟩
  · have g := g1.cg (A' := up A 18 (up (A 18) x 0)) rfl rfl rfl rfl rfl
    unfold G1 at g ⊢
    simp only [Lw, Lc]
    exact g
  · unfold G2 at g2 ⊢
    simp only [Lw, Lc, L2, L21]
    exact g2
  · show G5 C A (up Ls (3 + 2 * d) ((Ls (3 + 2 * d)).eraseIdx j))
    unfold G5
    rw [ew]
    exact g5
  · intro h4
    obtain ⟨q1, q2, q3, q4⟩ := gw t' ht' h4
    refine ⟨q1, ?_, q3, fun o ho hw hp => q4 o ho ?_ (hp.imp id (fun z q hq hpn => z q hq ?_))⟩
    · rw [cM_rn (fun z => hne ?_) R3_0]
      · exact q2
      · have z : A 19 x = t' ∧ _ := z
        have := z.1
        show t' = t
        omega
    · have hw : Wt A (up Ls (3 + 2 * d) ((Ls (3 + 2 * d)).eraseIdx j)) t' o := hw
      rw [ew] at hw
      exact hw
    · have ne : ¬ q = x := fun e => hne (by have := hpn.1; rw [e] at this; show t' = t; omega)
      unfold pnd at hpn ⊢
      rw [a18o q ne]
      exact hpn
  · have ne : ¬ q = x := fun e => h0 (by rw [e]; exact a18s)
    rw [a18o q ne] at h0
    have mq := g6.1 q hq h0
    unfold msq at mq ⊢
    rw [a18o q ne]
    exact mq
  · by_cases e : s = d
    · subst e
      rw [up_s, erase_f _ j nd hj, el, List.filter_filter]
      refine List.filter_congr (fun q hq => ?_)
      by_cases z : q = x
      · rw [z, a18s]; simp
      · have e1 : (decide (¬ q = x)) = true := by simp [z]
        rw [a18o q z, e1, Bool.true_and]
        rfl
    · rw [Lo _ (by omega), g6.2.2 s hs]
      refine List.filter_congr (fun q hq => ?_)
      by_cases z : q = x
      · rw [z, a18s, h17]
        have : ¬ (d : Int) = (s : Int) := by omega
        simp [this]
      · rw [a18o q z]
        rfl
  · rw [Lh]; exact g7.1 s hs
  · rw [Lh] at hy; exact g7.2.1 s y hs hy
  · have := g7.2.2 s hs
    show A 21 s + _ ≤ C 6
    by_cases z : R5 s (A 16 x) (A 17 x) (A 18 x) (A 19 x)
    · rw [cM_rm hx z R5_0]; omega
    · rw [cM_rn z R5_0]; exact this
  · have hi : ¬ lvl C i := hi
    have ne : ¬ i = 3 + 2 * d := fun e => hi (by rw [e]; unfold lvl; omega)
    rw [Lo i ne]; exact g8 i hi
  · have := g7.2.2 d hd
    rw [cM_rm hx (show R5 d _ _ _ _ from ⟨h5, h17⟩) R5_0]
    omega
  · obtain ⟨q1, q2, q3, q4⟩ := gw t ht h4
    refine ⟨q1, ?_, q3, fun o ho hw hp => q4 o ho hw (hp.imp id (fun z q hq hpn => ?_))⟩
    · have m4 := m.2.2.2.1
      by_cases z : A 18 x ≤ 3
      · rw [cM_rm hx (show R3 t _ _ _ _ from ⟨et, m4.1, z⟩) R3_0, pI_y z, q2]
      · rw [cM_rn (fun y => z y.2.2) R3_0, pI_n z, q2]; omega
    · by_cases e : q = x
      · rw [e] at hpn; exact z.1 hpn
      · refine z.2 q hq ?_
        unfold pnd at hpn ⊢
        rw [a18o q e]
        exact hpn
end P11
