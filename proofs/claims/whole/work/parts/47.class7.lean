section C7
variable {ad : AD} {ow : OW} {K : KK} {h : AH} {C : Nat → Int} {A I : Nat → Nat → Int} {F : Nat → Nat → Nat → Int} {Ls : Nat → List Nat} {cp : Nat → Nat} {Q : AR → AH → Prop}
theorem kd7 {id : Nat} (h6 : C 1 ≤ 6) (hi : lvl C id) (hk : kd id = 7) : ∃ s, s < (C 1).toNat ∧ id = 3 + 2 * s := by
  unfold kd at hk
  unfold lvl at hi
  by_cases h0 : id = 0
  · rw [if_pos h0] at hk; cases hk
  · rw [if_neg h0] at hk
    by_cases h1 : id = 1
    · rw [if_pos h1] at hk; cases hk
    · rw [if_neg h1] at hk
      by_cases h2 : id < 20
      · rw [if_pos h2] at hk
        by_cases h3 : id % 2 = 0
        · rw [if_pos h3] at hk; cases hk
        · exact ⟨(id - 3) / 2, by omega, by omega⟩
      · rw [if_neg h2] at hk
        by_cases h3 : id % 2 = 0
        · rw [if_pos h3] at hk; cases hk
        · rw [if_neg h3] at hk; cases hk
/-- a message more, that nobody has yet -/
theorem CI.new7 {z m a : Nat} {e : AE} (g : CI ad K z C A I F Ls cp) (lt : LT C A Ls) (h6 : C 1 ≤ 6) (hm : (C 5).toNat ≤ m) : CI (qd ad 7 m a) (p2 K 7 m e) z C A I F Ls cp := by
  obtain ⟨g1, g2, g3, g4, g5, g6, g7, g8, g9, g10, g11, g12, g13, g14, g15, g16, g17⟩ := g
  refine ⟨g1, g2, g3, g4, g5, g6, g7, g8, g9, fun q hq => ?_, fun id hi => ?_, g12, g13, g14, g15, g16, g17⟩
  · rw [p2_n (by omega)]
    exact g10 q hq
  · have hne : ∀ x, x ∈ Ls id → ¬ (kd id = 7 ∧ x = m) := fun x hx ⟨h1, h2⟩ => by
      obtain ⟨s, hs, rfl⟩ := kd7 h6 hi h1
      have := (lt.2.2.2.2.2 s x hs hx).1
      omega
    obtain ⟨c, G, v1, v2, v3, v4, v5, v6, v7⟩ := g11 id hi
    refine ⟨c, G, v1, v2, v3, v4, v5, fun j x hx => ?_, fun x hx => ?_⟩
    · rw [qd_n (hne x (List.mem_of_getElem? hx))]
      exact v6 j x hx
    · rw [p2_n (hne x hx)]
      exact v7 x hx
theorem CI.bump {z : Nat} {fr d so : Int} {t : Nat} (g : CI ad K z C A I F Ls cp) (b : RB C A) (hk : K 7 (C 5).toNat = some (.inr (7, [aI so, aI fr, aR (ad 4 t)]))) : CI ad K z (sndC C) (sndA C A fr d so t) (up I 2 (up (I 2) (C 5).toNat so)) F Ls cp := by
  have b5 := b.c5
  obtain ⟨g1, g2, g3, g4, g5, g6, g7, g8, g9, g10, g11, g12, g13, g14, g15, g16, g17⟩ := g
  refine ⟨g1, g2, g3, g4, g5, g6, g7, g8, g9, fun q hq => ?_, g11, g12, g13, g14, g15, g16, g17⟩
  have hq : q < (C 5 + 1).toNat := hq
  unfold msCell
  by_cases hn : q = (C 5).toNat
  · subst hn
    rw [hk, show up I 2 (up (I 2) (C 5).toNat so) 2 (C 5).toNat = so from up_s, show sndA C A fr d so t 16 (C 5).toNat = fr from up_s, show sndA C A fr d so t 19 (C 5).toNat = (t : Int) from up_s]
    rfl
  · rw [g10 q (by omega), show up I 2 (up (I 2) (C 5).toNat so) 2 q = I 2 q from up_n hn, show sndA C A fr d so t 16 q = A 16 q from up_n hn, show sndA C A fr d so t 19 q = A 19 q from up_n hn]
    rfl
theorem LT.snd {fr d so : Int} {t u : Nat} (lt : LT C A Ls) (b : RB C A) (hu : u < (C 1).toNat) (h6 : C 1 ≤ 6) (ht : t < (C 3).toNat) : LT (sndC C) (sndA C A fr d so t) (up Ls (3 + 2 * u) (Ls (3 + 2 * u) ++ [(C 5).toNat])) := by
  have b5 := b.c5
  have e : ∀ j, ¬ j = 3 + 2 * u → up Ls (3 + 2 * u) (Ls (3 + 2 * u) ++ [(C 5).toNat]) j = Ls j := fun j hj => up_n hj
  obtain ⟨l1, l2, l3, l4, l5, l6⟩ := lt
  refine ⟨fun t k ht hk => ?_, fun t k ht hk => ?_, fun o k ho hk => ?_, fun o k ho hk => ?_, fun s x hs hx => ?_, fun s q hs hq => ?_⟩
  · rw [e _ (by omega)] at hk
    exact l1 t k ht hk
  · rw [e _ (by omega)] at hk
    exact l2 t k ht hk
  · rw [e _ (by omega)] at hk
    rw [e _ (by omega)]
    exact l3 o k ho hk
  · rw [e _ (by omega)] at hk
    rw [e _ (by omega)]
    exact l4 o k ho hk
  · rw [e _ (by omega)] at hx
    exact l5 s x hs hx
  · show q < (C 5 + 1).toNat ∧ (sndA C A fr d so t 19 q).toNat < (C 3).toNat
    have hs : s < (C 1).toNat := hs
    have key : (q ∈ Ls (3 + 2 * s)) ∨ q = (C 5).toNat := by
      by_cases hn : 3 + 2 * s = 3 + 2 * u
      · rw [hn, up_s] at hq
        rcases List.mem_append.mp hq with z | z
        · rw [hn]; exact Or.inl z
        · exact Or.inr (List.mem_singleton.mp z)
      · rw [e _ hn] at hq
        exact Or.inl hq
    by_cases hn : q = (C 5).toNat
    · rw [show sndA C A fr d so t 19 q = (t : Int) by rw [hn]; exact up_s]
      exact ⟨by omega, by omega⟩
    · have hz := l6 s q hs (key.resolve_right hn)
      rw [show sndA C A fr d so t 19 q = A 19 q from up_n hn]
      exact ⟨by omega, hz.2⟩
/-- a message that was made is put into the inbox of the site u -/
theorem sndgo {i pc u t : Nat} {L : AL} {st : List AV} {fr so : Int} {ow0 : OW} {h0 : AH} (hk1 : cod i pc = some (.inr (17, 16, 2, 1, 8), 3)) (hk2 : cod i (pc + 3) = some (.inl .pop, 1)) (hl : st.length ≤ 4) (w : WD ad ow K h) (g : CI ad K h.2.2.2.1 C A I F Ls cp) (b : RB C A) (lt : LT C A Ls) (fo : Fo ow0 h0 ow h) (hu : u < (C 1).toNat) (hcp : cp (3 + 2 * u) < 200000)
    (k : ∀ ad' ow' K' h' c', WD ad' ow' K' h' → CI ad' K' h'.2.2.2.1 (sndC C) (sndA C A fr u so t) (up I 2 (up (I 2) (C 5).toNat so)) F (up Ls (3 + 2 * u) (Ls (3 + 2 * u) ++ [(C 5).toNat])) (up cp (3 + 2 * u) c') → Fo ow0 h0 ow' h' → (∀ k i, (k ≠ 7 ∨ i < (C 5).toNat) → k ≠ 10 → ad' k i = ad k i) → (c' = cp (3 + 2 * u) ∧ h'.2.1 = h.2.1 + 1 ∧ h'.2.2.1 = h.2.2.1 + 3 ∨ c' = ncap (cp (3 + 2 * u)) ∧ h'.2.1 = h.2.1 + 2 ∧ h'.2.2.1 = h.2.2.1 + 3 + ncap (cp (3 + 2 * u)) ∧ (Ls (3 + 2 * u)).length = cp (3 + 2 * u)) → Rn i (pc + 3 + 1) L st h' Q) : Rn i pc L (aR h.2.1 :: aR (ad 8 (3 + 2 * u)) :: st) (hnew h (.inr (7, [aI so, aI fr, aR (ad 4 t)])) 3) Q := by
  have b1 := b.c1
  have h6 : u < 6 := by omega
  have w1 : WD (qd ad 7 (C 5).toNat h.2.1) (up ow h.2.1 (7, (C 5).toNat)) (p2 K 7 (C 5).toNat (.inr (7, [aI so, aI fr, aR (ad 4 t)]))) (hnew h (.inr (7, [aI so, aI fr, aR (ad 4 t)])) 3) := w.new (by decide)
  have g1 : CI (qd ad 7 (C 5).toNat h.2.1) (p2 K 7 (C 5).toNat (.inr (7, [aI so, aI fr, aR (ad 4 t)]))) (hnew h (.inr (7, [aI so, aI fr, aR (ad 4 t)])) 3).2.2.2.1 C A I F Ls cp := g.new7 lt b1.2 (Nat.le_refl _)
  have v := g1.lb hu h6
  obtain ⟨e8, v8⟩ := v.obj
  have ea : qd ad 7 (C 5).toNat h.2.1 7 (C 5).toNat = h.2.1 := qd_s
  refine x_call2 hk1 hl (rcv_1 (w1.at v8)) (Nat.le_of_ble_eq_true rfl) ?_
  have z := c_add (Q := Bh i pc (pc + 3) L st Q) w1 v (by decide) (x := (C 5).toNat) p2_s hcp (fun ad' ow' K' h' c' wa v' => bh_1 (by
    refine x_pop hk2 rfl ?_
    obtain ⟨w2, fo2, hK, hA, hc, hcost⟩ := wa
    have e : h'.2.2.2.1 = h.2.2.2.1 := by rw [fo2.2.2.1]; rfl
    have g2 := g1.lst (z := h.2.2.2.1) (id := 3 + 2 * u) (by omega) hK hA (by rw [kd_b h6]; rw [e] at v'; exact v')
    have hk7 : K' 7 (C 5).toNat = some (.inr (7, [aI so, aI fr, aR (ad' 4 t)])) := by
      rw [hK 7 _ (by omega) (by omega), hA 4 t (by omega)]
      exact p2_s
    refine k ad' ow' K' h' c' w2 (by rw [e]; exact g2.bump b hk7) (fo.tr (Fo.tr Fo.new fo2)) (fun k i h7 h10 => ?_) ?_
    · rw [hA k i (fun q => h10 q.1), qd_n (fun q => h7.elim (fun z => z q.1) (fun z => by omega))]
    · rcases hcost with ⟨c1, c2⟩ | ⟨c1, c2, c3, c4⟩
      · refine Or.inl ⟨c1, ?_, ?_⟩
        · rw [c2]; rfl
        · rw [c2]; rfl
      · exact Or.inr ⟨c1, c2, c3, c4⟩))
  rw [ea] at z
  exact z
end C7
