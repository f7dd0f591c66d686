section C4
variable {ad : AD} {ow : OW} {K : KK} {h : AH} {C : Nat → Int} {A I : Nat → Nat → Int} {F : Nat → Nat → Nat → Int} {Ls : Nat → List Nat} {cp : Nat → Nat} {Q : AR → AH → Prop}
def phaseCell (ad : AD) (A I : Nat → Nat → Int) (t : Nat) (v : Int) : AE := .inr (4, [aI t, aI (A 3 t), aR (ad 12 t), aR (ad 8 (500 + 2 * t)), aR (ad 8 (501 + 2 * t)), aI v, aI (A 5 t), aI (I 0 t)])
theorem CI.phase {z t : Nat} {v : Int} (g : CI ad K z C A I F Ls cp) : CI ad (p2 K 4 t (phaseCell ad A I t v)) z C (up A 4 (up (A 4) t v)) I F Ls cp := by
  obtain ⟨g1, g2, g3, g4, g5, g6, g7, g8, g9, g10, g11, g12, g13, g14, g15, g16, g17⟩ := g
  refine ⟨g1, g2, g3, g4, g5, fun t' ht' => ?_, g7, g8, g9, g10, fun id hi => (g11 id hi).cls (by decide) (by decide), g12, g13, g14, g15, g16, g17⟩
  by_cases ht : t' = t
  · subst ht
    rw [p2_s]
    unfold phaseCell trCell
    rw [show (up A 4 (up (A 4) t' v)) 4 t' = v from up_s]
    rfl
  · rw [p2_n (fun q => ht q.2), g6 t' ht']
    unfold trCell
    rw [show (up A 4 (up (A 4) t v)) 4 t' = A 4 t' from up_n ht]
    rfl
theorem phasego {i pc t : Nat} {L : AL} {st : List AV} {ow0 : OW} {h0 : AH} (w : WD ad ow K h) (fo : Fo ow0 h0 ow h) (g : CI ad K h.2.2.2.1 C A I F Ls cp) (ht : t < (C 3).toNat) (v : Int) (k : ∀ K' h', WD ad ow K' h' → Fo ow0 h0 ow h' → CI ad K' h'.2.2.2.1 C (up A 4 (up (A 4) t v)) I F Ls cp → h'.2 = h.2 → Rn i pc L st h' Q) : Rn i pc L st (hput h (ad 4 t) (phaseCell ad A I t v)) Q := k _ _ (w.put (g.tran ht)) (fo.tr (Fo.put w (g.tran ht))) g.phase rfl
def numCell (ad : AD) (A I : Nat → Nat → Int) (t : Nat) (v : Int) : AE := .inr (4, [aI t, aI (A 3 t), aR (ad 12 t), aR (ad 8 (500 + 2 * t)), aR (ad 8 (501 + 2 * t)), aI (A 4 t), aI v, aI (I 0 t)])
theorem CI.num {z t : Nat} {v : Int} (g : CI ad K z C A I F Ls cp) : CI ad (p2 K 4 t (numCell ad A I t v)) z C (up A 5 (up (A 5) t v)) I F Ls cp := by
  obtain ⟨g1, g2, g3, g4, g5, g6, g7, g8, g9, g10, g11, g12, g13, g14, g15, g16, g17⟩ := g
  refine ⟨g1, g2, g3, g4, g5, fun t' ht' => ?_, g7, g8, g9, g10, fun id hi => (g11 id hi).cls (by decide) (by decide), g12, g13, g14, g15, g16, g17⟩
  by_cases ht : t' = t
  · subst ht
    rw [p2_s]
    unfold numCell trCell
    rw [show (up A 5 (up (A 5) t' v)) 5 t' = v from up_s]
    rfl
  · rw [p2_n (fun q => ht q.2), g6 t' ht']
    unfold trCell
    rw [show (up A 5 (up (A 5) t v)) 5 t' = A 5 t' from up_n ht]
    rfl
theorem numgo {i pc t : Nat} {L : AL} {st : List AV} {ow0 : OW} {h0 : AH} (w : WD ad ow K h) (fo : Fo ow0 h0 ow h) (g : CI ad K h.2.2.2.1 C A I F Ls cp) (ht : t < (C 3).toNat) (v : Int) (k : ∀ K' h', WD ad ow K' h' → Fo ow0 h0 ow h' → CI ad K' h'.2.2.2.1 C (up A 5 (up (A 5) t v)) I F Ls cp → h'.2 = h.2 → Rn i pc L st h' Q) : Rn i pc L st (hput h (ad 4 t) (numCell ad A I t v)) Q := k _ _ (w.put (g.tran ht)) (fo.tr (Fo.put w (g.tran ht))) g.num rfl
def dueCell (ad : AD) (A I : Nat → Nat → Int) (t : Nat) (v : Int) : AE := .inr (4, [aI t, aI (A 3 t), aR (ad 12 t), aR (ad 8 (500 + 2 * t)), aR (ad 8 (501 + 2 * t)), aI (A 4 t), aI (A 5 t), aI v])
theorem CI.due {z t : Nat} {v : Int} (g : CI ad K z C A I F Ls cp) : CI ad (p2 K 4 t (dueCell ad A I t v)) z C A (up I 0 (up (I 0) t v)) F Ls cp := by
  obtain ⟨g1, g2, g3, g4, g5, g6, g7, g8, g9, g10, g11, g12, g13, g14, g15, g16, g17⟩ := g
  refine ⟨g1, g2, g3, g4, g5, fun t' ht' => ?_, g7, g8, g9, g10, fun id hi => (g11 id hi).cls (by decide) (by decide), g12, g13, g14, g15, g16, g17⟩
  by_cases ht : t' = t
  · subst ht
    rw [p2_s]
    unfold dueCell trCell
    rw [show (up I 0 (up (I 0) t' v)) 0 t' = v from up_s]
    skip
  · rw [p2_n (fun q => ht q.2), g6 t' ht']
    unfold trCell
    rw [show (up I 0 (up (I 0) t v)) 0 t' = I 0 t' from up_n ht]
    skip
theorem duego {i pc t : Nat} {L : AL} {st : List AV} {ow0 : OW} {h0 : AH} (w : WD ad ow K h) (fo : Fo ow0 h0 ow h) (g : CI ad K h.2.2.2.1 C A I F Ls cp) (ht : t < (C 3).toNat) (v : Int) (k : ∀ K' h', WD ad ow K' h' → Fo ow0 h0 ow h' → CI ad K' h'.2.2.2.1 C A (up I 0 (up (I 0) t v)) F Ls cp → h'.2 = h.2 → Rn i pc L st h' Q) : Rn i pc L st (hput h (ad 4 t) (dueCell ad A I t v)) Q := k _ _ (w.put (g.tran ht)) (fo.tr (Fo.put w (g.tran ht))) g.due rfl
theorem LX.arr {z id ek c k i : Nat} {l : List Nat} {e : AE} (v : LX ad K z id ek l c) (h8 : k ≠ 8) (h10 : k ≠ 10) (hek : ek ≠ k) : LX ad (p2 K k i e) z id ek l c := by
  obtain ⟨m, G, v1, v2, v3, v4, v5, v6, v7⟩ := v
  refine ⟨m, G, ?_, fun q => ?_, v3, v4, v5, v6, fun x hx => ?_⟩
  · rw [p2_n (fun q => h8 q.1.symm)]
    exact v1
  · rw [p2_n (fun q => h10 q.1.symm)]
    exact v2 q
  · rw [p2_n (fun q => hek q.1)]
    exact v7 x hx
theorem kd_lt (id : Nat) : 3 ≤ kd id ∧ kd id < 8 := by
  unfold kd
  split
  · exact ⟨by decide, by decide⟩
  · split
    · exact ⟨by decide, by decide⟩
    · split
      · split <;> exact ⟨by decide, by decide⟩
      · split <;> exact ⟨by decide, by decide⟩
/-- one number of seenOf -/
theorem CI.see {z s u : Nat} {v : Int} (g : CI ad K z C A I F Ls cp) (hs : s < (C 1).toNat) (hu : u < (C 1).toNat) (h6 : C 1 ≤ 6) : CI ad (p2 K 11 s (inCell (C 1).toNat (up (F 0 s) u v))) z C (up A 13 (up (A 13) (6 * s + u) v)) I (up F 0 (up (F 0) s (up (F 0 s) u v))) Ls cp := by
  obtain ⟨g1, g2, g3, g4, g5, g6, g7, g8, g9, g10, g11, g12, g13, g14, g15, g16, g17⟩ := g
  refine ⟨g1, g2, g3, fun s' hs' => ?_, g5, g6, g7, g8, g9, g10, fun id hi => (g11 id hi).arr (by decide) (by decide) (by have := kd_lt id; omega), g12, g13, g14, fun s' u' hs' hu' => ?_, g16, g17⟩
  · by_cases hn : s' = s
    · subst hn
      rw [p2_s, show up F 0 (up (F 0) s' (up (F 0 s') u v)) 0 s' = up (F 0 s') u v from up_s]
    · rw [p2_n (fun q => hn q.2), g4 s' hs', show up F 0 (up (F 0) s (up (F 0 s) u v)) 0 s' = F 0 s' from up_n hn]
  · show up (F 0) s (up (F 0 s) u v) s' u' = up (A 13) (6 * s + u) v (6 * s' + u')
    by_cases hn : s' = s
    · subst hn
      rw [up_s]
      by_cases hm : u' = u
      · subst hm
        rw [up_s, up_s]
      · rw [up_n hm, up_n (by omega)]
        exact g15 s' u' hs' hu'
    · rw [up_n hn, up_n (by omega)]
      exact g15 s' u' hs' hu'
theorem seego {i pc s u : Nat} {L : AL} {st : List AV} {ow0 : OW} {h0 : AH} (w : WD ad ow K h) (fo : Fo ow0 h0 ow h) (g : CI ad K h.2.2.2.1 C A I F Ls cp) (hs : s < (C 1).toNat) (hu : u < (C 1).toNat) (h6 : C 1 ≤ 6) (v : Int) (k : ∀ K' F' h', WD ad ow K' h' → Fo ow0 h0 ow h' → CI ad K' h'.2.2.2.1 C (up A 13 (up (A 13) (6 * s + u) v)) I F' Ls cp → h'.2 = h.2 → Rn i pc L st h' Q) : Rn i pc L st (hput h (ad 11 s) (inCell (C 1).toNat (up (F 0 s) u v))) Q := k _ _ _ (w.put (g.seen hs)) (fo.tr (Fo.put w (g.seen hs))) (g.see hs hu h6) rfl
/-- the lists, when a list id has changed alone -/
theorem LX.oth {z id id' ek c : Nat} {l : List Nat} {ad' : AD} {K' : KK} (v : LX ad K z id' ek l c) (hn : id' ≠ id) (he : ek < 8) (hK : ∀ k i, ¬ (k = 8 ∧ i = id) → ¬ (k = 10 ∧ i = id) → K' k i = K k i) (hA : ∀ k i, ¬ (k = 10 ∧ i = id) → ad' k i = ad k i) : LX ad' K' z id' ek l c := by
  obtain ⟨m, G, v1, v2, v3, v4, v5, v6, v7⟩ := v
  refine ⟨m, G, ?_, fun q => ?_, v3, v4, v5, fun j x hx => ?_, fun x hx => ?_⟩
  · rw [hK 8 id' (fun q => hn q.2) (by omega), hA 10 id' (fun q => hn q.2)]
    exact v1
  · rw [hK 10 id' (by omega) (fun q => hn q.2)]
    exact v2 q
  · rw [hA ek x (by omega)]
    exact v6 j x hx
  · rw [hK ek x (by omega) (by omega)]
    exact v7 x hx
/-- a list of a site or of an item has changed -/
theorem CI.lst {z id c' : Nat} {l' : List Nat} {ad' : AD} {K' : KK} (g : CI ad K z C A I F Ls cp) (hi1 : 2 ≤ id ∧ id < 500) (hK : ∀ k i, ¬ (k = 8 ∧ i = id) → ¬ (k = 10 ∧ i = id) → K' k i = K k i) (hA : ∀ k i, ¬ (k = 10 ∧ i = id) → ad' k i = ad k i) (v : LX ad' K' z id (kd id) l' c') : CI ad' K' z C A I F (up Ls id l') (up cp id c') := by
  obtain ⟨g1, g2, g3, g4, g5, g6, g7, g8, g9, g10, g11, g12, g13, g14, g15, g16, g17⟩ := g
  have eK : ∀ k i, ¬ k = 8 → ¬ k = 10 → K' k i = K k i := fun k i h1 h2 => hK k i (fun q => h1 q.1) (fun q => h2 q.1)
  have eA : ∀ k i, ¬ k = 10 → ad' k i = ad k i := fun k i h1 => hA k i (fun q => h1 q.1)
  refine ⟨?_, ?_, fun s hs => ?_, fun s hs => ?_, fun o ho => ?_, fun t ht => ?_, fun t ht => ?_, fun t k ht hk => ?_, fun t k ht hk => ?_, fun q hq => ?_, fun id' hi' => ?_, ?_, ?_, ?_, g15, g16, g17⟩
  · rw [eK 0 0 (by decide) (by decide), g1]
    unfold sCell
    rw [eA 14 0 (by decide), eA 8 0 (by decide), eA 8 1 (by decide), eA 1 0 (by decide)]
  · obtain ⟨R, h1, h2⟩ := g2
    exact ⟨R, (eK 14 0 (by decide) (by decide)).trans h1, fun s hs => by rw [eA 2 s (by decide)]; exact h2 s hs⟩
  · rw [eK 2 s (by decide) (by decide), g3 s hs]
    unfold siCell
    rw [eA 11 s (by decide), eA 8 (2 + 2 * s) (by decide), eA 8 (3 + 2 * s) (by decide)]
  · rw [eK 11 s (by decide) (by decide), g4 s hs]
  · rw [eK 3 o (by decide) (by decide), g5 o ho]
    unfold itCell
    rw [eA 8 (20 + 2 * o) (by decide), eA 8 (21 + 2 * o) (by decide)]
  · rw [eK 4 t (by decide) (by decide), g6 t ht]
    unfold trCell
    rw [eA 12 t (by decide), eA 8 (500 + 2 * t) (by decide), eA 8 (501 + 2 * t) (by decide)]
  · rw [eK 12 t (by decide) (by decide), g7 t ht]
  · rw [up_n (by omega)] at hk
    rw [eK 5 k (by decide) (by decide), g8 t k ht hk]
    unfold wrCell
    rw [eA 4 t (by decide), eA 3 _ (by decide)]
  · rw [up_n (by omega)] at hk
    rw [eK 6 k (by decide) (by decide), g9 t k ht hk]
    unfold chCell
    rw [eA 4 t (by decide), eA 3 _ (by decide)]
  · rw [eK 7 q (by decide) (by decide), g10 q hq]
    unfold msCell
    rw [eA 4 _ (by decide)]
  · by_cases hn : id' = id
    · subst hn
      rw [up_s, up_s]
      exact v
    · rw [up_n hn, up_n hn]
      exact (g11 id' hi').oth hn (kd_lt id').2 hK hA
  · obtain ⟨h1, h2, h3, h4⟩ := g12
    rw [up_n (by omega), eK 1 0 (by decide) (by decide), eK 13 0 (by decide) (by decide), eK 13 1 (by decide) (by decide)]
    refine ⟨?_, h2, h3, h4⟩
    rw [h1]
    unfold tyCell
    rw [eA 13 0 (by decide), eA 13 1 (by decide)]
  · rw [up_n (by omega)]
    exact g13
  · rw [up_n (by omega)]
    exact g14
end C4
