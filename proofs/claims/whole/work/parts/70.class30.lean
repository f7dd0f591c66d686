section C30
variable {ad : AD} {ow : OW} {K : KK} {h : AH} {C : Nat → Int} {A I : Nat → Nat → Int} {F : Nat → Nat → Nat → Int} {Ls : Nat → List Nat} {cp : Nat → Nat} {Q : AR → AH → Prop}
theorem did_b (b : RB C A) {t o v s : Int} (ht : 0 ≤ t ∧ t < 500) (ho : 0 ≤ o ∧ o < 200) (hv : inL v) (hs : -1 ≤ s ∧ s ≤ 1) (h4 : C 4 < 4000) : RB (didC C) (didA C A t o v s) := by
  have := b.c4
  exact ((((b.t9 ht).t10 ho).t12 hv).t11 hs).d4 ⟨by omega, by omega⟩
theorem CI.did {z : Nat} {t o v s : Int} {I' : Nat → Nat → Int} (g : CI ad K z C A I F Ls cp) (hk : ∀ t k, t < (C 3).toNat → (k ∈ Ls (500 + 2 * t) ∨ k ∈ Ls (501 + 2 * t)) → k < (C 4).toNat) (h1 : ∀ j, j ≠ 1 → I' j = I j) (h2 : ∀ j, j ≠ (C 4).toNat → I' 1 j = I 1 j) : CI ad K z (didC C) (didA C A t o v s) I' F Ls cp := by
  refine g.agr ⟨rfl, rfl, rfl, rfl, rfl⟩ ⟨by rw [h1 3 (by decide)], by rw [h1 4 (by decide)]⟩ (fun _ _ => ⟨rfl, rfl, rfl⟩) (fun _ _ => ⟨rfl, rfl, rfl, by rw [h1 0 (by decide)]⟩) (fun t k ht hm => ?_) (fun t k ht hm => ?_) (fun _ _ => ⟨by rw [h1 2 (by decide)], rfl, rfl⟩) (fun _ _ _ _ => rfl) (fun _ _ _ _ => rfl)
  · have := hk t k ht (Or.inl hm)
    exact ⟨show up (A 10) (C 4).toNat o k = A 10 k from up_n (by omega), h2 k (by omega)⟩
  · have := hk t k ht (Or.inr hm)
    exact ⟨show up (A 10) (C 4).toNat o k = A 10 k from up_n (by omega), show up (A 12) (C 4).toNat v k = A 12 k from up_n (by omega), show up (A 11) (C 4).toNat s k = A 11 k from up_n (by omega)⟩
theorem LT.did {t o v s : Int} (lt : LT C A Ls) (hk : ∀ t k, t < (C 3).toNat → (k ∈ Ls (500 + 2 * t) ∨ k ∈ Ls (501 + 2 * t)) → k < (C 4).toNat) : LT (didC C) (didA C A t o v s) Ls := by
  have e9 : ∀ k, k < (C 4).toNat → didA C A t o v s 9 k = A 9 k := fun k h => show up (A 9) (C 4).toNat t k = A 9 k from up_n (by omega)
  have e10 : ∀ k, k < (C 4).toNat → didA C A t o v s 10 k = A 10 k := fun k h => show up (A 10) (C 4).toNat o k = A 10 k from up_n (by omega)
  refine ⟨fun t k h1 h2 => ?_, fun t k h1 h2 => ?_, fun o k h1 h2 => ?_, fun o k h1 h2 => ?_, lt.2.2.2.2.1, lt.2.2.2.2.2⟩
  · rw [e9 k (hk t k h1 (Or.inl h2)), e10 k (hk t k h1 (Or.inl h2))]; exact lt.1 t k h1 h2
  · rw [e9 k (hk t k h1 (Or.inr h2)), e10 k (hk t k h1 (Or.inr h2))]; exact lt.2.1 t k h1 h2
  · have q := lt.2.2.1 o k h1 h2
    rw [e9 k (hk _ k q.1 (Or.inl q.2))]; exact q
  · have q := lt.2.2.2.1 o k h1 h2
    rw [e9 k (hk _ k q.1 (Or.inr q.2))]; exact q
/-- a list of a transaction, one more -/
theorem LT.own {t x a : Nat} (lt : LT C A Ls) (b1 : (C 1).toNat ≤ 6) (b2 : (C 2).toNat ≤ 200) (ht : t < (C 3).toNat) (h9 : A 9 x = t) (h10 : (A 10 x).toNat < (C 2).toNat) (ha : a = 500 ∨ a = 501) : LT C A (up Ls (a + 2 * t) (Ls (a + 2 * t) ++ [x])) := by
  have e : ∀ j y, y ∈ Ls j → y ∈ up Ls (a + 2 * t) (Ls (a + 2 * t) ++ [x]) j := fun j y hy => by
    by_cases q : j = a + 2 * t
    · subst q
      rw [up_s]
      exact List.mem_append.mpr (Or.inl hy)
    · rw [up_n q]
      exact hy
  refine ⟨fun t' k h1 h2 => ?_, fun t' k h1 h2 => ?_, fun o k h1 h2 => ?_, fun o k h1 h2 => ?_, fun s k h1 h2 => ?_, fun s k h1 h2 => ?_⟩
  · by_cases q : 500 + 2 * t' = a + 2 * t
    · rw [q, up_s] at h2
      rcases List.mem_append.mp h2 with z | z
      · exact lt.1 t' k h1 (by rw [q]; exact z)
      · have e : t' = t := by omega
        rw [List.mem_singleton.mp z, e]
        exact ⟨h9, h10⟩
    · rw [up_n q] at h2
      exact lt.1 t' k h1 h2
  · by_cases q : 501 + 2 * t' = a + 2 * t
    · rw [q, up_s] at h2
      rcases List.mem_append.mp h2 with z | z
      · exact lt.2.1 t' k h1 (by rw [q]; exact z)
      · have e : t' = t := by omega
        rw [List.mem_singleton.mp z, e]
        exact ⟨h9, h10⟩
    · rw [up_n q] at h2
      exact lt.2.1 t' k h1 h2
  · rw [up_n (by omega)] at h2
    exact ⟨(lt.2.2.1 o k h1 h2).1, e _ _ (lt.2.2.1 o k h1 h2).2⟩
  · rw [up_n (by omega)] at h2
    exact ⟨(lt.2.2.2.1 o k h1 h2).1, e _ _ (lt.2.2.2.1 o k h1 h2).2⟩
  · rw [up_n (by omega)] at h2
    exact lt.2.2.2.2.1 s k h1 h2
  · rw [up_n (by omega)] at h2
    exact lt.2.2.2.2.2 s k h1 h2
theorem wrgo {i pc t o : Nat} {L : AL} {st : List AV} {v : Int} {ow0 : OW} {h0 : AH} (hk1 : cod i pc = some (.inr (17, 16, 2, 1, 8), 3)) (hk2 : cod i (pc + 3) = some (.inl .pop, 1)) (hl : st.length ≤ 4) (w : WD ad ow K h) (g : CI ad K h.2.2.2.1 C A I F Ls cp) (b : RB C A) (lt : LT C A Ls) (fo : Fo ow0 h0 ow h) (hk : ∀ t k, t < (C 3).toNat → (k ∈ Ls (500 + 2 * t) ∨ k ∈ Ls (501 + 2 * t)) → k < (C 4).toNat) (hm : ∀ q, q < (C 5).toNat → (A 19 q).toNat < (C 3).toNat) (ht : t < (C 3).toNat) (ho : o < (C 2).toNat) (hcp : cp (500 + 2 * t) < 200000)
    (k : ∀ ad' ow' K' h' c', WD ad' ow' K' h' → CI ad' K' h'.2.2.2.1 (didC C) (didA C A t o v 0) (up I 1 (up (I 1) (C 4).toNat v)) F (up Ls (500 + 2 * t) (Ls (500 + 2 * t) ++ [(C 4).toNat])) (up cp (500 + 2 * t) c') → Fo ow0 h0 ow' h' → (∀ k i, k ≠ 5 → k ≠ 10 → ad' k i = ad k i) → (c' = cp (500 + 2 * t) ∧ h'.2.1 = h.2.1 + 1 ∧ h'.2.2.1 = h.2.2.1 + 3 ∨ c' = ncap (cp (500 + 2 * t)) ∧ h'.2.1 = h.2.1 + 2 ∧ h'.2.2.1 = h.2.2.1 + 3 + ncap (cp (500 + 2 * t)) ∧ (Ls (500 + 2 * t)).length = cp (500 + 2 * t)) → Rn i (pc + 3 + 1) L st h' Q) : Rn i pc L (aR h.2.1 :: aR (ad 8 (500 + 2 * t)) :: st) (hnew h (.inr (5, [aR (ad 4 t), aR (ad 3 o), aL v])) 3) Q := by
  have b1 := b.c1
  have b3 := b.c3
  obtain ⟨m, em⟩ : ∃ m, m = (C 4).toNat := ⟨_, rfl⟩
  obtain ⟨ad1, ea1⟩ : ∃ f : AD, f = qd ad 5 m h.2.1 := ⟨_, rfl⟩
  obtain ⟨K1, eK1⟩ : ∃ f : KK, f = p2 K 5 m (.inr (5, [aR (ad 4 t), aR (ad 3 o), aL v])) := ⟨_, rfl⟩
  have w1 : WD ad1 (up ow h.2.1 (5, m)) K1 (hnew h (.inr (5, [aR (ad 4 t), aR (ad 3 o), aL v])) 3) := by rw [ea1, eK1]; exact w.new (by decide)
  have g0 : CI ad K h.2.2.2.1 (didC C) (didA C A t o v 0) (up I 1 (up (I 1) (C 4).toNat v)) F Ls cp := g.did hk (fun j hj => up_n hj) (fun j hj => show up (I 1) (C 4).toNat v j = I 1 j from up_n hj)
  have lt0 : LT (didC C) (didA C A t o v 0) Ls := lt.did hk
  have g1 : CI ad1 K1 h.2.2.2.1 (didC C) (didA C A t o v 0) (up I 1 (up (I 1) (C 4).toNat v)) F Ls cp := by
    refine g0.ext lt0 b1.2 hm (fun k i hu => ?_)
    have hn : ¬ (k = 5 ∧ i = m) := fun q => by
      obtain ⟨rfl, rfl⟩ := q
      rcases hu with q | q | q | q | q | q | q | q | q | q | q | q | q | q
      · exact absurd q.1 (by decide)
      · exact absurd q.1 (by decide)
      · exact absurd q.1 (by decide)
      · exact absurd q.1 (by decide)
      · exact absurd q.1 (by decide)
      · exact absurd q.1 (by decide)
      · exact absurd q.1 (by decide)
      · exact absurd q.1 (by decide)
      · exact absurd q.1 (by decide)
      · obtain ⟨_, t, h1, h2⟩ := q; have := hk t _ h1 (Or.inl h2); omega
      · exact absurd q.1 (by decide)
      · exact absurd q.1 (by decide)
      · exact absurd q.1 (by decide)
      · exact absurd q.1 (by decide)
    rw [ea1, eK1, qd_n hn, p2_n hn]
    exact ⟨rfl, rfl⟩
  have e4 : ad1 4 t = ad 4 t := by rw [ea1]; exact qd_n (by omega)
  have e3 : ad1 3 o = ad 3 o := by rw [ea1]; exact qd_n (by omega)
  have e8 : ad1 8 (500 + 2 * t) = ad 8 (500 + 2 * t) := by rw [ea1]; exact qd_n (by omega)
  have hx0 : K1 5 m = some (wrCell ad1 (didA C A t o v 0) (up I 1 (up (I 1) (C 4).toNat v)) t m) := by
    rw [eK1, p2_s]
    unfold wrCell
    rw [show (didA C A t o v 0) 10 m = (o : Int) from by rw [em]; exact up_s, e4]
    rw [show (up I 1 (up (I 1) (C 4).toNat v)) 1 m = v from by rw [em]; exact up_s, show ((o : Int)).toNat = o by omega, e3]
  have v1 := g1.lw (t := t) ht
  obtain ⟨f8, v8⟩ := v1.obj
  have ea : ad1 5 m = h.2.1 := by rw [ea1]; exact qd_s
  rw [← e8]
  refine x_call2 hk1 hl (rcv_1 (w1.at v8)) (Nat.le_of_ble_eq_true rfl) ?_
  have z := c_add (Q := Bh i pc (pc + 3) L st Q) w1 v1 (by decide) (x := m) hx0 hcp (fun ad' ow' K' h' c' wa v' => bh_1 (by
    refine x_pop hk2 rfl ?_
    obtain ⟨w2, fo2, hK, hA, hc, hcost⟩ := wa
    have e : h'.2.2.2.1 = h.2.2.2.1 := by rw [fo2.2.2.1]; rfl
    have g2 := g1.lsw (z := h.2.2.2.1) (id := 500 + 2 * t) rfl (by omega) hx0 hK hA (by rw [kd_w]; rw [e] at v'; exact v')
    rw [em] at g2
    refine k ad' ow' K' h' c' w2 (by rw [e]; exact g2) (fo.tr (Fo.tr Fo.new fo2)) (fun k i h7 h10 => ?_) ?_
    · rw [hA k i (fun q => h10 q.1), ea1, qd_n (fun q => h7 q.1)]
    · rcases hcost with ⟨c1, c2⟩ | ⟨c1, c2, c3, c4⟩
      · refine Or.inl ⟨c1, ?_, ?_⟩
        · rw [c2]; rfl
        · rw [c2]; rfl
      · exact Or.inr ⟨c1, c2, c3, c4⟩))
  rw [ea] at z
  exact z
theorem chgo {i pc t o : Nat} {L : AL} {st : List AV} {v s : Int} {ow0 : OW} {h0 : AH} (hk1 : cod i pc = some (.inr (17, 16, 2, 1, 8), 3)) (hk2 : cod i (pc + 3) = some (.inl .pop, 1)) (hl : st.length ≤ 4) (w : WD ad ow K h) (g : CI ad K h.2.2.2.1 C A I F Ls cp) (b : RB C A) (lt : LT C A Ls) (fo : Fo ow0 h0 ow h) (hk : ∀ t k, t < (C 3).toNat → (k ∈ Ls (500 + 2 * t) ∨ k ∈ Ls (501 + 2 * t)) → k < (C 4).toNat) (hm : ∀ q, q < (C 5).toNat → (A 19 q).toNat < (C 3).toNat) (ht : t < (C 3).toNat) (ho : o < (C 2).toNat) (hcp : cp (501 + 2 * t) < 200000)
    (k : ∀ ad' ow' K' h' c', WD ad' ow' K' h' → CI ad' K' h'.2.2.2.1 (didC C) (didA C A t o v s) I F (up Ls (501 + 2 * t) (Ls (501 + 2 * t) ++ [(C 4).toNat])) (up cp (501 + 2 * t) c') → Fo ow0 h0 ow' h' → (∀ k i, k ≠ 6 → k ≠ 10 → ad' k i = ad k i) → (c' = cp (501 + 2 * t) ∧ h'.2.1 = h.2.1 + 1 ∧ h'.2.2.1 = h.2.2.1 + 4 ∨ c' = ncap (cp (501 + 2 * t)) ∧ h'.2.1 = h.2.1 + 2 ∧ h'.2.2.1 = h.2.2.1 + 4 + ncap (cp (501 + 2 * t)) ∧ (Ls (501 + 2 * t)).length = cp (501 + 2 * t)) → Rn i (pc + 3 + 1) L st h' Q) : Rn i pc L (aR h.2.1 :: aR (ad 8 (501 + 2 * t)) :: st) (hnew h (.inr (6, [aR (ad 4 t), aR (ad 3 o), aI v, aI s])) 4) Q := by
  have b1 := b.c1
  have b3 := b.c3
  obtain ⟨m, em⟩ : ∃ m, m = (C 4).toNat := ⟨_, rfl⟩
  obtain ⟨ad1, ea1⟩ : ∃ f : AD, f = qd ad 6 m h.2.1 := ⟨_, rfl⟩
  obtain ⟨K1, eK1⟩ : ∃ f : KK, f = p2 K 6 m (.inr (6, [aR (ad 4 t), aR (ad 3 o), aI v, aI s])) := ⟨_, rfl⟩
  have w1 : WD ad1 (up ow h.2.1 (6, m)) K1 (hnew h (.inr (6, [aR (ad 4 t), aR (ad 3 o), aI v, aI s])) 4) := by rw [ea1, eK1]; exact w.new (by decide)
  have g0 : CI ad K h.2.2.2.1 (didC C) (didA C A t o v s) I F Ls cp := g.did hk (fun _ _ => rfl) (fun _ _ => rfl)
  have lt0 : LT (didC C) (didA C A t o v s) Ls := lt.did hk
  have g1 : CI ad1 K1 h.2.2.2.1 (didC C) (didA C A t o v s) I F Ls cp := by
    refine g0.ext lt0 b1.2 hm (fun k i hu => ?_)
    have hn : ¬ (k = 6 ∧ i = m) := fun q => by
      obtain ⟨rfl, rfl⟩ := q
      rcases hu with q | q | q | q | q | q | q | q | q | q | q | q | q | q
      · exact absurd q.1 (by decide)
      · exact absurd q.1 (by decide)
      · exact absurd q.1 (by decide)
      · exact absurd q.1 (by decide)
      · exact absurd q.1 (by decide)
      · exact absurd q.1 (by decide)
      · exact absurd q.1 (by decide)
      · exact absurd q.1 (by decide)
      · exact absurd q.1 (by decide)
      · exact absurd q.1 (by decide)
      · obtain ⟨_, t, h1, h2⟩ := q; have := hk t _ h1 (Or.inr h2); omega
      · exact absurd q.1 (by decide)
      · exact absurd q.1 (by decide)
      · exact absurd q.1 (by decide)
    rw [ea1, eK1, qd_n hn, p2_n hn]
    exact ⟨rfl, rfl⟩
  have e4 : ad1 4 t = ad 4 t := by rw [ea1]; exact qd_n (by omega)
  have e3 : ad1 3 o = ad 3 o := by rw [ea1]; exact qd_n (by omega)
  have e8 : ad1 8 (501 + 2 * t) = ad 8 (501 + 2 * t) := by rw [ea1]; exact qd_n (by omega)
  have hx0 : K1 6 m = some (chCell ad1 (didA C A t o v s) t m) := by
    rw [eK1, p2_s]
    unfold chCell
    rw [show (didA C A t o v s) 10 m = (o : Int) from by rw [em]; exact up_s, e4]
    rw [show (didA C A t o v s) 12 m = v from by rw [em]; exact up_s, show (didA C A t o v s) 11 m = s from by rw [em]; exact up_s, show ((o : Int)).toNat = o by omega, e3]
  have v1 := g1.lc (t := t) ht
  obtain ⟨f8, v8⟩ := v1.obj
  have ea : ad1 6 m = h.2.1 := by rw [ea1]; exact qd_s
  rw [← e8]
  refine x_call2 hk1 hl (rcv_1 (w1.at v8)) (Nat.le_of_ble_eq_true rfl) ?_
  have z := c_add (Q := Bh i pc (pc + 3) L st Q) w1 v1 (by decide) (x := m) hx0 hcp (fun ad' ow' K' h' c' wa v' => bh_1 (by
    refine x_pop hk2 rfl ?_
    obtain ⟨w2, fo2, hK, hA, hc, hcost⟩ := wa
    have e : h'.2.2.2.1 = h.2.2.2.1 := by rw [fo2.2.2.1]; rfl
    have g2 := g1.lsc (z := h.2.2.2.1) (id := 501 + 2 * t) rfl (by omega) hx0 hK hA (by rw [kd_c]; rw [e] at v'; exact v')
    rw [em] at g2
    refine k ad' ow' K' h' c' w2 (by rw [e]; exact g2) (fo.tr (Fo.tr Fo.new fo2)) (fun k i h7 h10 => ?_) ?_
    · rw [hA k i (fun q => h10 q.1), ea1, qd_n (fun q => h7 q.1)]
    · rcases hcost with ⟨c1, c2⟩ | ⟨c1, c2, c3, c4⟩
      · refine Or.inl ⟨c1, ?_, ?_⟩
        · rw [c2]; rfl
        · rw [c2]; rfl
      · exact Or.inr ⟨c1, c2, c3, c4⟩))
  rw [ea] at z
  exact z
theorem ownX {P : AD → Prop} {S N M H a t x q : Nat} {ow0 : OW} {h0 : AH} {ad' : AD} {ow' : OW} {K' : KK} {h' : AH} {c' : Nat} {C' : Nat → Int} {A' I' : Nat → Nat → Int} (g : CI ad K h.2.2.2.1 C A I F Ls cp) (b : RB C A) (ht : t < (C 3).toNat) (ha : a = 500 ∨ a = 501) (hC : C' 1 = C 1 ∧ C' 2 = C 2 ∧ C' 3 = C 3 ∧ C' 5 = C 5) (b' : RB C' A') (lt' : LT C' A' (up Ls (a + 2 * t) (Ls (a + 2 * t) ++ [x]))) (ib : IB C Ls cp) (pt : PT S N h cp) (jw : JB C Ls cp 20 M) (jc : JB C Ls cp 21 M) (hb : HB C Ls cp H) (tb : TB C Ls cp) (hP : P ad') (w' : WD ad' ow' K' h') (g' : CI ad' K' h'.2.2.2.1 C' A' I' F (up Ls (a + 2 * t) (Ls (a + 2 * t) ++ [x])) (up cp (a + 2 * t) c')) (fo' : Fo ow0 h0 ow' h') (hcost : c' = cp (a + 2 * t) ∧ h'.2.1 = h.2.1 + 1 ∧ h'.2.2.1 = h.2.2.1 + q ∨ c' = ncap (cp (a + 2 * t)) ∧ h'.2.1 = h.2.1 + 2 ∧ h'.2.2.1 = h.2.2.1 + q + ncap (cp (a + 2 * t)) ∧ (Ls (a + 2 * t)).length = cp (a + 2 * t)) : WX P ow0 h0 (S + q) (N + 2) M H (C', A', I', up Ls (a + 2 * t) (Ls (a + 2 * t) ++ [x])) h' := by
  have b1 := b.c1
  have b2 := b.c2
  have b3 := b.c3
  have hlv : lvl C (a + 2 * t) := by unfold lvl; omega
  have v := g.ls hlv
  have hlc : (Ls (a + 2 * t)).length ≤ cp (a + 2 * t) ∧ (cp (a + 2 * t) = 0 ∨ 10 ≤ cp (a + 2 * t)) := by
    obtain ⟨m, G, v⟩ := v
    exact ⟨v.2.2.1, v.2.2.2.1⟩
  have hnc : ncap (cp (a + 2 * t)) ≤ 10 + 2 * cp (a + 2 * t) ∧ ncap (cp (a + 2 * t)) ≤ 4 * (ncap (cp (a + 2 * t)) - cp (a + 2 * t)) ∧ cp (a + 2 * t) ≤ ncap (cp (a + 2 * t)) := by
    unfold ncap
    split <;> omega
  have hs := csum_up (cp := cp) (c := c') 1500 (show a + 2 * t < 1500 by omega)
  have hl2 : (Ls (a + 2 * t) ++ [x]).length = (Ls (a + 2 * t)).length + 1 := by simp
  obtain ⟨c1, c2, c3, c5⟩ := hC
  refine ⟨ad', ow', K', F, _, hP, w', g', b', lt', fo', fun u hu => ?_, ⟨?_, ?_⟩, ⟨fun o ho => ?_, fun o ho => ?_⟩, fun s hs => ?_, ?_, ?_, fun i h1 h2 => ?_, fun i h1 h2 => ?_, (show up cp (a + 2 * t) c' 2000 ≤ 1024 by rw [up_n (by omega)]; exact tb.2.2.2.2)⟩
  · have hu : u < (C' 1).toNat := hu
    rw [c1] at hu
    show (up Ls (a + 2 * t) (Ls (a + 2 * t) ++ [x]) (3 + 2 * u)).length ≤ (C' 5).toNat ∧ _ ≤ 10 + 2 * (C' 5).toNat
    rw [up_n (by omega), up_n (by omega), c5]
    exact ib u hu
  · have := pt.1
    rcases hcost with ⟨d1, d2, d3⟩ | ⟨d1, d2, d3, d4⟩ <;> omega
  · have := pt.2
    rcases hcost with ⟨d1, d2, d3⟩ | ⟨d1, d2, d3, d4⟩ <;> omega
  · have ho : o < (C' 2).toNat := ho
    rw [c2] at ho
    show up cp (a + 2 * t) c' (20 + 2 * o) ≤ 10 + 2 * (up Ls (a + 2 * t) (Ls (a + 2 * t) ++ [x]) (20 + 2 * o)).length ∧ (up Ls (a + 2 * t) (Ls (a + 2 * t) ++ [x]) (20 + 2 * o)).length ≤ M
    rw [up_n (by omega), up_n (by omega)]
    exact jw o ho
  · have ho : o < (C' 2).toNat := ho
    rw [c2] at ho
    show up cp (a + 2 * t) c' (21 + 2 * o) ≤ 10 + 2 * (up Ls (a + 2 * t) (Ls (a + 2 * t) ++ [x]) (21 + 2 * o)).length ∧ (up Ls (a + 2 * t) (Ls (a + 2 * t) ++ [x]) (21 + 2 * o)).length ≤ M
    rw [up_n (by omega), up_n (by omega)]
    exact jc o ho
  · have hs : s < (C' 1).toNat := hs
    rw [c1] at hs
    show (up Ls (a + 2 * t) (Ls (a + 2 * t) ++ [x]) (2 + 2 * s)).length ≤ H ∧ _
    rw [up_n (by omega), up_n (by omega)]
    exact hb s hs
  · show up cp (a + 2 * t) c' 0 ≤ 10 + 2 * (C' 2).toNat
    rw [up_n (by omega), c2]; exact tb.1
  · show up cp (a + 2 * t) c' 1 ≤ 10 + 2 * (C' 3).toNat
    rw [up_n (by omega), c3]; exact tb.2.1
  · have h2 : i < 500 + 2 * (C' 3).toNat := h2
    rw [c3] at h2
    show up cp (a + 2 * t) c' i ≤ 10 + 2 * (up Ls (a + 2 * t) (Ls (a + 2 * t) ++ [x]) i).length
    have := tb.2.2.1 i h1 h2
    by_cases hn : i = a + 2 * t
    · rw [hn] at this ⊢
      rw [up_s, up_s, hl2]
      rcases hcost with ⟨d1, d2, d3⟩ | ⟨d1, d2, d3, d4⟩ <;> omega
    · rw [up_n hn, up_n hn]
      exact this
  · have h3 : ¬ lvl C i := fun z => h2 (by show lvl C' i; unfold lvl at z ⊢; rw [c1, c2, c3]; exact z)
    have h4 : ¬ i = a + 2 * t := fun z => h3 (z ▸ hlv)
    show up cp (a + 2 * t) c' i = 0
    rw [up_n h4]
    exact tb.2.2.2.1 i h1 h3
/-- others of the same C and lists -/
theorem didX {P : AD → Prop} {S N M H : Nat} {ow0 : OW} {h0 : AH} {ow' : OW} {K' : KK} {h' : AH} {C' : Nat → Int} {A' I' : Nat → Nat → Int} (hC : C' 1 = C 1 ∧ C' 2 = C 2 ∧ C' 3 = C 3 ∧ C' 5 = C 5) (b' : RB C' A') (lt' : LT C' A' Ls) (ib : IB C Ls cp) (pt : PT S N h' cp) (jw : JB C Ls cp 20 M) (jc : JB C Ls cp 21 M) (hb : HB C Ls cp H) (tb : TB C Ls cp) (hP : P ad) (w' : WD ad ow' K' h') (g' : CI ad K' h'.2.2.2.1 C' A' I' F Ls cp) (fo' : Fo ow0 h0 ow' h') : WX P ow0 h0 S N M H (C', A', I', Ls) h' := by
  obtain ⟨c1, c2, c3, c5⟩ := hC
  refine ⟨ad, ow', K', F, cp, hP, w', g', b', lt', fo', fun u hu => ?_, pt, ⟨fun o ho => ?_, fun o ho => ?_⟩, fun s hs => ?_, ?_, ?_, fun i h1 h2 => ?_, fun i h1 h2 => ?_, tb.2.2.2.2⟩
  · have hu : u < (C' 1).toNat := hu
    rw [c1] at hu
    show _ ≤ (C' 5).toNat ∧ _ ≤ 10 + 2 * (C' 5).toNat
    rw [c5]
    exact ib u hu
  · exact jw o (by have ho : o < (C' 2).toNat := ho; rw [c2] at ho; exact ho)
  · exact jc o (by have ho : o < (C' 2).toNat := ho; rw [c2] at ho; exact ho)
  · exact hb s (by have hs : s < (C' 1).toNat := hs; rw [c1] at hs; exact hs)
  · show cp 0 ≤ 10 + 2 * (C' 2).toNat
    rw [c2]; exact tb.1
  · show cp 1 ≤ 10 + 2 * (C' 3).toNat
    rw [c3]; exact tb.2.1
  · have h2 : i < 500 + 2 * (C' 3).toNat := h2
    rw [c3] at h2
    exact tb.2.2.1 i h1 h2
  · have h3 : ¬ lvl C i := fun z => h2 (by show lvl C' i; unfold lvl at z ⊢; rw [c1, c2, c3]; exact z)
    exact tb.2.2.2.1 i h1 h3
end C30
