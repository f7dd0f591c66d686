section P8
variable {C C' : Nat → Int} {A A' B I I' : Nat → Nat → Int} {Ls Ls' : Nat → List Nat} {n : Nat}
theorem bcs_ex {P : Nat → Prop} {a so t : Int} (h5 : 0 ≤ C 5) : ∀ j u, u < j → P u → ∃ q, q < ((bcs P a so t C A j).1 5).toNat ∧ (bcs P a so t C A j).2 16 q = a ∧ (bcs P a so t C A j).2 17 q = u ∧ (bcs P a so t C A j).2 18 q = so ∧ (bcs P a so t C A j).2 19 q = t := by
  intro j
  induction j with
  | zero => intro u hu; omega
  | succ j ih =>
    intro u hu hp
    have b := bcs_5 (P := P) (a := a) (so := so) (t := t) (A := A) h5 j
    by_cases e : u = j
    · subst e
      rw [bcs_y hp]
      have nn := snd_n (C := (bcs P a so t C A u).1) (A := (bcs P a so t C A u).2) (a := a) (d := u) (so := so) (t := t)
      exact ⟨_, by show _ < ((bcs P a so t C A u).1 5 + 1).toNat; omega, nn⟩
    · obtain ⟨q, q1, q2⟩ := ih u (by omega) hp
      by_cases hj : P j
      · rw [bcs_y hj]
        have o := snd_o (C := (bcs P a so t C A j).1) (A := (bcs P a so t C A j).2) (a := a) (d := j) (so := so) (t := t) (q := q) (by omega)
        refine ⟨q, by show _ < ((bcs P a so t C A j).1 5 + 1).toNat; omega, ?_⟩
        rw [show (sndC (bcs P a so t C A j).1, sndA (bcs P a so t C A j).1 (bcs P a so t C A j).2 a (↑j) so t).2 = sndA (bcs P a so t C A j).1 (bcs P a so t C A j).2 a (↑j) so t from rfl, o.1, o.2.1, o.2.2.1, o.2.2.2]
        exact q2
      · rw [bcs_n hj]
        exact ⟨q, q1, q2⟩
theorem bcs_u8 {P : Nat → Prop} {a so t : Int} {f : Nat → Int} : ∀ u, (bcs P a so t C (up A 8 f) u).1 = (bcs P a so t C A u).1 ∧ (bcs P a so t C (up A 8 f) u).2 = up (bcs P a so t C A u).2 8 f := by
  intro u
  induction u with
  | zero => exact ⟨rfl, rfl⟩
  | succ u ih =>
    by_cases q : P u
    · rw [bcs_y q, bcs_y q]
      refine ⟨?_, ?_⟩
      · show sndC _ = sndC _
        rw [ih.1]
      · show sndA _ _ _ _ _ _ = up (sndA _ _ _ _ _ _) 8 f
        rw [ih.1, ih.2]
        funext k
        unfold sndA
        by_cases e8 : k = 8
        · subst e8; rw [up_s, up_n (by decide), up_n (by decide), up_n (by decide), up_n (by decide), up_s]
        · rw [up_n e8]
          by_cases e19 : k = 19
          · subst e19; rw [up_s, up_s, up_n (by decide)]
          · rw [up_n e19, up_n e19]
            by_cases e18 : k = 18
            · subst e18; rw [up_s, up_s, up_n (by decide)]
            · rw [up_n e18, up_n e18]
              by_cases e17 : k = 17
              · subst e17; rw [up_s, up_s, up_n (by decide)]
              · rw [up_n e17, up_n e17]
                by_cases e16 : k = 16
                · subst e16; rw [up_s, up_s, up_n (by decide)]
                · rw [up_n e16, up_n e16, up_n e8]
    · rw [bcs_n q, bcs_n q]
      exact ih
/-- all that wrote what t wrote at s, where there is no conflict -/
theorem nocf (b : RB C A) (g1 : G1 C A I Ls) (g5 : G5 C A Ls) {t s : Nat} (ht : t < (C 3).toNat) (h5 : A 5 t = 0) (hn : ¬ acfP C A t s) {o : Nat} (w : Wt A Ls t o) (hs : A 0 o = s) : (A 1 o = -1 ∨ A 1 o = t) ∧ ∀ c, c < (C 3).toNat → 0 < A 5 c → Wt A Ls c o → visB A c t = true ∧ A 5 c ≤ A 13 (6 * s + (A 3 c).toNat) := by
  have p := w.pl g1 ht
  have nc : ¬ cflP C A t o := fun z => hn ⟨o, p.1, ⟨p.2, hs, (wrt_wt g1 ht p.2).mpr w⟩, z⟩
  have b1 := b.v1 o
  have l : A 1 o = -1 ∨ A 1 o = t := by
    by_cases e : A 1 o = t
    · exact Or.inr e
    · by_cases z : 0 ≤ A 1 o
      · exact absurd (Or.inl ⟨z, e⟩) nc
      · exact Or.inl (by omega)
  refine ⟨l, fun c hc h5c wc => ?_⟩
  have ne : ¬ c = t := fun e => by rw [e] at h5c; omega
  have ap : A 5 c ≤ A 13 (6 * s + (A 3 c).toNat) := by
    by_cases z : A 5 c ≤ A 13 (6 * (A 0 o).toNat + (A 3 c).toNat)
    · rw [hs, show ((s : Int)).toNat = s by omega] at z; exact z
    · have := g5.2 o c p.1 hc h5c wc z
      omega
  refine ⟨?_, ap⟩
  cases hv : visB A c t with
  | true => rfl
  | false => exact absurd (Or.inr ⟨c, hc, ne, ⟨h5c, by rw [hs, show ((s : Int)).toNat = s by omega]; exact ap⟩, hv, (wrt_wt g1 hc p.2).mpr wc⟩) nc
/-- t locks at s what it wrote there -/
theorem lck_v {t s o : Nat} (g1 : G1 C A I Ls) (ht : t < (C 3).toNat) : (lckF C A t s (C 2).toNat o = t ∧ A 0 o = s ∧ Wt A Ls t o) ∨ (lckF C A t s (C 2).toNat o = A 1 o ∧ ¬ (A 0 o = s ∧ Wt A Ls t o)) := by
  unfold lckF
  by_cases e : o < (C 2).toNat ∧ wrq C A t s o
  · rw [if_pos e]; exact Or.inl ⟨rfl, (wrq_wt g1 ht).mp e⟩
  · rw [if_neg e]; exact Or.inr ⟨rfl, fun z => e ((wrq_wt g1 ht).mpr z)⟩
/-- locks after t has locked at s -/
theorem G5.lck (g5 : G5 C A Ls) (b : RB C A) (g1 : G1 C A I Ls) {t s : Nat} (ht : t < (C 3).toNat) (h5 : A 5 t = 0) (hn : ¬ acfP C A t s) {v : Nat → Nat → Int} (h1 : v 1 = lckF C A t s (C 2).toNat) (h0 : v 0 = A 0) (h3 : v 3 = A 3) (h55 : v 5 = A 5) (h6 : v 6 = A 6) (h10 : v 10 = A 10) (h13 : v 13 = A 13) : G5 C v Ls := by
  have ew : Wt v Ls = Wt A Ls := by funext t' o; unfold Wt; rw [h10]
  have ev : visB v = visB A := by funext c t'; unfold visB; rw [h55, h6, h3]
  refine ⟨fun o t' ho hl => ?_, fun o c ho hc hcn hw hna => ?_⟩
  · rw [h1] at hl
    rw [ew, ev, h55]
    rcases lck_v (s := s) (o := o) g1 ht with ⟨z1, z2, z3⟩ | ⟨z1, z2⟩
    · have e : t' = t := by omega
      subst e
      exact ⟨ht, z3, fun c hc hne hcn wc => ((nocf b g1 g5 ht h5 hn z3 z2).2 c hc hcn wc).1⟩
    · rw [z1] at hl
      exact g5.1 o t' ho hl
  · rw [ew] at hw
    rw [h55] at hcn
    rw [h55, h13, h0, h3] at hna
    have q := g5.2 o c ho hc hcn hw hna
    rw [h1]
    rcases lck_v (s := s) (o := o) g1 ht with ⟨z1, z2, z3⟩ | ⟨z1, z2⟩
    · have := (nocf b g1 g5 ht h5 hn z3 z2).1
      have ne : ¬ c = t := fun e => by rw [e] at hcn; omega
      omega
    · rw [z1]; exact q
end P8
