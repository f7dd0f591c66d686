section C12
variable {ad : AD} {ow : OW} {K : KK} {h : AH} {C : Nat → Int} {A I : Nat → Nat → Int} {F : Nat → Nat → Nat → Int} {Ls : Nat → List Nat} {cp : Nat → Nat} {Q : AR → AH → Prop}
/-- the first j of l handed to their items: a is 20 (writes) or 21 (changes) -/
def hnw (A : Nat → Nat → Int) (l : List Nat) (a : Nat) (Ls : Nat → List Nat) : Nat → Nat → List Nat
  | 0 => Ls
  | j + 1 => match l[j]? with
    | some x => up (hnw A l a Ls j) (a + 2 * (A 10 x).toNat) (hnw A l a Ls j (a + 2 * (A 10 x).toNat) ++ [x])
    | none => hnw A l a Ls j
theorem hnw_s {l : List Nat} {a j x : Nat} (hx : l[j]? = some x) : hnw A l a Ls (j + 1) = up (hnw A l a Ls j) (a + 2 * (A 10 x).toNat) (hnw A l a Ls j (a + 2 * (A 10 x).toNat) ++ [x]) := by
  simp only [hnw, hx]
/-- lists that never shrink: their capacity, their length -/
def JB (C : Nat → Int) (Ls : Nat → List Nat) (cp : Nat → Nat) (a M : Nat) : Prop := ∀ o, o < (C 2).toNat → cp (a + 2 * o) ≤ 10 + 2 * (Ls (a + 2 * o)).length ∧ (Ls (a + 2 * o)).length ≤ M
theorem LT.hand {t x o a : Nat} (lt : LT C A Ls) (b1 : (C 1).toNat ≤ 6) (b2 : (C 2).toNat ≤ 200) (ho : o < (C 2).toNat) (ht : t < (C 3).toNat) (h9 : A 9 x = t) (ha : a = 20 ∧ x ∈ Ls (500 + 2 * t) ∨ a = 21 ∧ x ∈ Ls (501 + 2 * t)) : LT C A (up Ls (a + 2 * o) (Ls (a + 2 * o) ++ [x])) := by
  have e : ∀ j, ¬ j = a + 2 * o → up Ls (a + 2 * o) (Ls (a + 2 * o) ++ [x]) j = Ls j := fun j hj => up_n hj
  have m : ∀ j y, y ∈ up Ls (a + 2 * o) (Ls (a + 2 * o) ++ [x]) j → y ∈ Ls j ∨ (y = x ∧ j = a + 2 * o) := fun j y hy => by
    by_cases q : j = a + 2 * o
    · rw [q, up_s] at hy
      rcases List.mem_append.mp hy with z | z
      · rw [q]; exact Or.inl z
      · exact Or.inr ⟨List.mem_singleton.mp z, q⟩
    · rw [e j q] at hy
      exact Or.inl hy
  have ha2 : a = 20 ∨ a = 21 := ha.elim (fun z => Or.inl z.1) (fun z => Or.inr z.1)
  obtain ⟨l1, l2, l3, l4, l5, l6⟩ := lt
  refine ⟨fun t' k ht' hk => ?_, fun t' k ht' hk => ?_, fun o' k ho' hk => ?_, fun o' k ho' hk => ?_, fun s y hs hy => ?_, fun s q hs hq => ?_⟩
  · rw [e _ (by omega)] at hk
    exact l1 t' k ht' hk
  · rw [e _ (by omega)] at hk
    exact l2 t' k ht' hk
  · rw [e _ (by omega)]
    rcases m _ _ hk with z | ⟨z1, z2⟩
    · exact l3 o' k ho' z
    · subst z1
      rcases ha with ⟨y1, y2⟩ | ⟨y1, y2⟩
      · rw [h9]
        exact ⟨by omega, y2⟩
      · omega
  · rw [e _ (by omega)]
    rcases m _ _ hk with z | ⟨z1, z2⟩
    · exact l4 o' k ho' z
    · subst z1
      rcases ha with ⟨y1, y2⟩ | ⟨y1, y2⟩
      · omega
      · rw [h9]
        exact ⟨by omega, y2⟩
  · rcases m _ _ hy with z | ⟨z1, z2⟩
    · exact l5 s y hs z
    · omega
  · rw [e _ (by omega)] at hq
    exact l6 s q hs hq
theorem lp_handW {ow0 : OW} {h0 : AH} {ad0 : AD} {cp0 : Nat → Nat} {Ls0 : Nat → List Nat} {l : List Nat} {S N M t : Nat} (b : RB C A) (ht : t < (C 3).toNat) (hM : M + l.length < 80000) (k : ∀ ad' ow' K' cp' h', WD ad' ow' K' h' → CI ad' K' h'.2.2.2.1 C A I F (hnw A l 20 Ls0 l.length) cp' → LT C A (hnw A l 20 Ls0 l.length) → Fo ow0 h0 ow' h' → JB C (hnw A l 20 Ls0 l.length) cp' 20 (M + l.length) → PT S (N + l.length) h' cp' → (∀ k i, k ≠ 10 → ad' k i = ad0 k i) → (∀ i, (i < 20 ∨ 20 + 2 * (C 2).toNat ≤ i ∨ ¬ i % 2 = 0) → cp' i = cp0 i) → Rn 69 51 [some (aR (ad' 4 t)), some (aI (l.length : Int))] [] h' Q) : ∀ n j : Nat, j + n = l.length → ∀ ad ow K Ls cp h, Ls = hnw A l 20 Ls0 j → WD ad ow K h → CI ad K h.2.2.2.1 C A I F Ls cp → LT C A Ls → Fo ow0 h0 ow h → JB C Ls cp 20 (M + j) → PT S (N + j) h cp → Ls (500 + 2 * t) = l → (∀ k i, k ≠ 10 → ad k i = ad0 k i) → (∀ i, (i < 20 ∨ 20 + 2 * (C 2).toNat ≤ i ∨ ¬ i % 2 = 0) → cp i = cp0 i) → Rn 69 2 [some (aR (ad 4 t)), some (aI ((j : Int)))] [] h Q := by
  have b1 := b.c1
  have b2 := b.c2
  intro n
  induction n using Nat.strongRecOn with | ind n ih => ?_
  intro j hj ad ow K Ls cp h eL w g lt fo jb pt hl hA hcp0
  have v := g.lw ht
  obtain ⟨e8, v8⟩ := v.obj
  have vl := v.len
  have hll : (Ls (500 + 2 * t)).length = l.length := by rw [hl]
  refine x_iload_n k_69_2 rfl ?_
  refine x_aload_n k_69_3 rfl ?_
  refine x_get k_69_4 (w.at (g.tran (by omega))) rfl ?_
  refine x_call1 k_69_7 (Nat.le_of_ble_eq_true rfl) (rcv_1 (w.at v8)) (Nat.le_of_ble_eq_true rfl) ?_
  refine c_size w v (bh_1 ?_)
  refine x_icmpge (t := 51) k_69_10 rfl (by show inR ((j : Int)) ∧ inR (((Ls (500 + 2 * t)).length : Int)); omega) (fun hb => ?_) (fun hb => ?_)
  · have c10 : ((Ls (500 + 2 * t)).length : Int) ≤ (j : Int) := hb
    have e2 : l.length = j := by rw [← hl]; omega
    rw [e2] at k
    rw [eL] at g lt jb
    exact k ad ow K cp h w g lt fo jb pt hA hcp0
  · have c10 : ¬ (((Ls (500 + 2 * t)).length : Int) ≤ (j : Int)) := hb
    obtain ⟨x, hx, hm⟩ := at_l (l := Ls (500 + 2 * t)) (j := j) (by omega)
    have hT := lt.1 t x ht hm
    have hx0 : l[j]? = some x := by rw [← hl]; exact hx
    refine x_aload_n k_69_13 rfl ?_
    refine x_get k_69_14 (w.at (g.tran (by omega))) rfl ?_
    refine x_iload_n k_69_17 rfl ?_
    refine x_call2 k_69_18 (Nat.le_of_ble_eq_true rfl) (rcv_1 (w.at v8)) (Nat.le_of_ble_eq_true rfl) ?_
    refine c_get w v hx (bh_1 ?_)
    refine x_cast k_69_21 (w.at (g.wr ht hm)) ?_
    refine x_get k_69_24 (w.at (g.wr ht hm)) rfl ?_
    refine x_get k_69_27 (w.at (g.item (by omega))) rfl ?_
    refine x_aload_n k_69_30 rfl ?_
    refine x_get k_69_31 (w.at (g.tran (by omega))) rfl ?_
    refine x_iload_n k_69_34 rfl ?_
    refine x_call2 k_69_35 (Nat.le_of_ble_eq_true rfl) (rcv_1 (w.at v8)) (Nat.le_of_ble_eq_true rfl) ?_
    refine c_get w v hx (bh_1 ?_)
    refine x_cast k_69_38 (w.at (g.wr ht hm)) ?_
    have vi := g.iw hT.2
    obtain ⟨f8, vi8⟩ := vi.obj
    have hj := jb (A 10 x).toNat hT.2
    have hlc : (Ls (20 + 2 * (A 10 x).toNat)).length ≤ cp (20 + 2 * (A 10 x).toNat) ∧ (cp (20 + 2 * (A 10 x).toNat) = 0 ∨ 10 ≤ cp (20 + 2 * (A 10 x).toNat)) := by
      obtain ⟨mm, G, vi⟩ := vi
      exact ⟨vi.2.2.1, vi.2.2.2.1⟩
    refine x_call2 k_69_41 (Nat.le_of_ble_eq_true rfl) (rcv_1 (w.at vi8)) (Nat.le_of_ble_eq_true rfl) ?_
    refine c_add w vi (by decide) (g.wr ht hm) (by omega) (fun ad' ow' K' h' c' wa v' => bh_1 ?_)
    refine x_pop k_69_44 rfl ?_
    refine x_inc1 k_69_45 rfl ?_
    refine x_goto (t := 2) k_69_48 rfl ?_
    obtain ⟨w2, fo2, hK, hA2, hc, hcost⟩ := wa
    have e : h'.2.2.2.1 = h.2.2.2.1 := by rw [fo2.2.2.1]
    have g2 := g.lst (z := h.2.2.2.1) (id := 20 + 2 * (A 10 x).toNat) (by omega) hK hA2 (by rw [kd_iw]; rw [e] at v'; exact v')
    have hs := csum_up (cp := cp) (c := c') 1500 (show 20 + 2 * (A 10 x).toNat < 1500 by omega)
    have hnc : ncap (cp (20 + 2 * (A 10 x).toNat)) ≤ 10 + 2 * cp (20 + 2 * (A 10 x).toNat) ∧ ncap (cp (20 + 2 * (A 10 x).toNat)) ≤ 4 * (ncap (cp (20 + 2 * (A 10 x).toNat)) - cp (20 + 2 * (A 10 x).toNat)) ∧ cp (20 + 2 * (A 10 x).toNat) ≤ ncap (cp (20 + 2 * (A 10 x).toNat)) := by
      unfold ncap
      split <;> omega
    have hl2 : (Ls (20 + 2 * (A 10 x).toNat) ++ [x]).length = (Ls (20 + 2 * (A 10 x).toNat)).length + 1 := by simp
    have pt2 : PT S (N + (j + 1)) h' (up cp (20 + 2 * (A 10 x).toNat) c') := by
      have p1 := pt.1
      have p2' := pt.2
      rcases hcost with ⟨c1, c2⟩ | ⟨c1, c2, c3, c4⟩
      · refine ⟨?_, ?_⟩
        · rw [c2]
          omega
        · rw [c2]
          omega
      · exact ⟨by omega, by omega⟩
    have z := ih (n - 1) (by omega) (j + 1) (by omega) ad' ow' K' _ _ h' (by rw [hnw_s hx0, ← eL]) w2 (by rw [e]; exact g2) (lt.hand (by omega) (by omega) hT.2 ht hT.1 (Or.inl ⟨rfl, hm⟩)) (fo.tr fo2) (fun o ho => by
      by_cases hn : 20 + 2 * o = 20 + 2 * (A 10 x).toNat
      · rw [hn, up_s, up_s, hl2]
        rcases hcost with ⟨c1, _⟩ | ⟨c1, _, _, c4⟩ <;> omega
      · rw [up_n hn, up_n hn]
        have := jb o ho
        omega) pt2 (by rw [up_n (by omega)]; exact hl) (fun k i h10 => (hA2 k i (fun q => h10 q.1)).trans (hA k i h10)) (fun i hi => (up_n (by omega)).trans (hcp0 i hi))
    rw [hA2 4 t (by omega)] at z
    exact z
theorem lp_handC {ow0 : OW} {h0 : AH} {ad0 : AD} {cp0 : Nat → Nat} {Ls0 : Nat → List Nat} {l : List Nat} {S N M t : Nat} (b : RB C A) (ht : t < (C 3).toNat) (hM : M + l.length < 80000) (k : ∀ ad' ow' K' cp' h', WD ad' ow' K' h' → CI ad' K' h'.2.2.2.1 C A I F (hnw A l 21 Ls0 l.length) cp' → LT C A (hnw A l 21 Ls0 l.length) → Fo ow0 h0 ow' h' → JB C (hnw A l 21 Ls0 l.length) cp' 21 (M + l.length) → PT S (N + l.length) h' cp' → (∀ k i, k ≠ 10 → ad' k i = ad0 k i) → (∀ i, (i < 20 ∨ 20 + 2 * (C 2).toNat ≤ i ∨ ¬ i % 2 = 1) → cp' i = cp0 i) → Q (.inl none) h') : ∀ n j : Nat, j + n = l.length → ∀ ad ow K Ls cp h, Ls = hnw A l 21 Ls0 j → WD ad ow K h → CI ad K h.2.2.2.1 C A I F Ls cp → LT C A Ls → Fo ow0 h0 ow h → JB C Ls cp 21 (M + j) → PT S (N + j) h cp → Ls (501 + 2 * t) = l → (∀ k i, k ≠ 10 → ad k i = ad0 k i) → (∀ i, (i < 20 ∨ 20 + 2 * (C 2).toNat ≤ i ∨ ¬ i % 2 = 1) → cp i = cp0 i) → Rn 69 53 [some (aR (ad 4 t)), some (aI ((j : Int)))] [] h Q := by
  have b1 := b.c1
  have b2 := b.c2
  intro n
  induction n using Nat.strongRecOn with | ind n ih => ?_
  intro j hj ad ow K Ls cp h eL w g lt fo jb pt hl hA hcp0
  have v := g.lc ht
  obtain ⟨e8, v8⟩ := v.obj
  have vl := v.len
  have hll : (Ls (501 + 2 * t)).length = l.length := by rw [hl]
  refine x_iload_n k_69_53 rfl ?_
  refine x_aload_n k_69_54 rfl ?_
  refine x_get k_69_55 (w.at (g.tran (by omega))) rfl ?_
  refine x_call1 k_69_58 (Nat.le_of_ble_eq_true rfl) (rcv_1 (w.at v8)) (Nat.le_of_ble_eq_true rfl) ?_
  refine c_size w v (bh_1 ?_)
  refine x_icmpge (t := 102) k_69_61 rfl (by show inR ((j : Int)) ∧ inR (((Ls (501 + 2 * t)).length : Int)); omega) (fun hb => ?_) (fun hb => ?_)
  · have c61 : ((Ls (501 + 2 * t)).length : Int) ≤ (j : Int) := hb
    refine x_return k_69_102 ?_
    have e2 : l.length = j := by rw [← hl]; omega
    rw [e2] at k
    rw [eL] at g lt jb
    exact k ad ow K cp h w g lt fo jb pt hA hcp0
  · have c61 : ¬ (((Ls (501 + 2 * t)).length : Int) ≤ (j : Int)) := hb
    obtain ⟨x, hx, hm⟩ := at_l (l := Ls (501 + 2 * t)) (j := j) (by omega)
    have hT := lt.2.1 t x ht hm
    have hx0 : l[j]? = some x := by rw [← hl]; exact hx
    refine x_aload_n k_69_64 rfl ?_
    refine x_get k_69_65 (w.at (g.tran (by omega))) rfl ?_
    refine x_iload_n k_69_68 rfl ?_
    refine x_call2 k_69_69 (Nat.le_of_ble_eq_true rfl) (rcv_1 (w.at v8)) (Nat.le_of_ble_eq_true rfl) ?_
    refine c_get w v hx (bh_1 ?_)
    refine x_cast k_69_72 (w.at (g.ch ht hm)) ?_
    refine x_get k_69_75 (w.at (g.ch ht hm)) rfl ?_
    refine x_get k_69_78 (w.at (g.item (by omega))) rfl ?_
    refine x_aload_n k_69_81 rfl ?_
    refine x_get k_69_82 (w.at (g.tran (by omega))) rfl ?_
    refine x_iload_n k_69_85 rfl ?_
    refine x_call2 k_69_86 (Nat.le_of_ble_eq_true rfl) (rcv_1 (w.at v8)) (Nat.le_of_ble_eq_true rfl) ?_
    refine c_get w v hx (bh_1 ?_)
    refine x_cast k_69_89 (w.at (g.ch ht hm)) ?_
    have vi := g.ic hT.2
    obtain ⟨f8, vi8⟩ := vi.obj
    have hj := jb (A 10 x).toNat hT.2
    have hlc : (Ls (21 + 2 * (A 10 x).toNat)).length ≤ cp (21 + 2 * (A 10 x).toNat) ∧ (cp (21 + 2 * (A 10 x).toNat) = 0 ∨ 10 ≤ cp (21 + 2 * (A 10 x).toNat)) := by
      obtain ⟨mm, G, vi⟩ := vi
      exact ⟨vi.2.2.1, vi.2.2.2.1⟩
    refine x_call2 k_69_92 (Nat.le_of_ble_eq_true rfl) (rcv_1 (w.at vi8)) (Nat.le_of_ble_eq_true rfl) ?_
    refine c_add w vi (by decide) (g.ch ht hm) (by omega) (fun ad' ow' K' h' c' wa v' => bh_1 ?_)
    refine x_pop k_69_95 rfl ?_
    refine x_inc1 k_69_96 rfl ?_
    refine x_goto (t := 53) k_69_99 rfl ?_
    obtain ⟨w2, fo2, hK, hA2, hc, hcost⟩ := wa
    have e : h'.2.2.2.1 = h.2.2.2.1 := by rw [fo2.2.2.1]
    have g2 := g.lst (z := h.2.2.2.1) (id := 21 + 2 * (A 10 x).toNat) (by omega) hK hA2 (by rw [kd_ic]; rw [e] at v'; exact v')
    have hs := csum_up (cp := cp) (c := c') 1500 (show 21 + 2 * (A 10 x).toNat < 1500 by omega)
    have hnc : ncap (cp (21 + 2 * (A 10 x).toNat)) ≤ 10 + 2 * cp (21 + 2 * (A 10 x).toNat) ∧ ncap (cp (21 + 2 * (A 10 x).toNat)) ≤ 4 * (ncap (cp (21 + 2 * (A 10 x).toNat)) - cp (21 + 2 * (A 10 x).toNat)) ∧ cp (21 + 2 * (A 10 x).toNat) ≤ ncap (cp (21 + 2 * (A 10 x).toNat)) := by
      unfold ncap
      split <;> omega
    have hl2 : (Ls (21 + 2 * (A 10 x).toNat) ++ [x]).length = (Ls (21 + 2 * (A 10 x).toNat)).length + 1 := by simp
    have pt2 : PT S (N + (j + 1)) h' (up cp (21 + 2 * (A 10 x).toNat) c') := by
      have p1 := pt.1
      have p2' := pt.2
      rcases hcost with ⟨c1, c2⟩ | ⟨c1, c2, c3, c4⟩
      · refine ⟨?_, ?_⟩
        · rw [c2]
          omega
        · rw [c2]
          omega
      · exact ⟨by omega, by omega⟩
    have z := ih (n - 1) (by omega) (j + 1) (by omega) ad' ow' K' _ _ h' (by rw [hnw_s hx0, ← eL]) w2 (by rw [e]; exact g2) (lt.hand (by omega) (by omega) hT.2 ht hT.1 (Or.inr ⟨rfl, hm⟩)) (fo.tr fo2) (fun o ho => by
      by_cases hn : 21 + 2 * o = 21 + 2 * (A 10 x).toNat
      · rw [hn, up_s, up_s, hl2]
        rcases hcost with ⟨c1, _⟩ | ⟨c1, _, _, c4⟩ <;> omega
      · rw [up_n hn, up_n hn]
        have := jb o ho
        omega) pt2 (by rw [up_n (by omega)]; exact hl) (fun k i h10 => (hA2 k i (fun q => h10 q.1)).trans (hA k i h10)) (fun i hi => (up_n (by omega)).trans (hcp0 i hi))
    rw [hA2 4 t (by omega)] at z
    exact z
theorem hnw_o {l : List Nat} {a id : Nat} (ha : a = 20 ∨ a = 21) (hl : ∀ x, x ∈ l → (A 10 x).toNat < 200) (hid : id < 20 ∨ 500 ≤ id ∨ ¬ id % 2 = a % 2) : ∀ j, hnw A l a Ls j id = Ls id := by
  intro j
  induction j with
  | zero => rfl
  | succ j ih =>
    cases hx : l[j]? with
    | none => simp only [hnw, hx]; exact ih
    | some x =>
      have := hl x (List.mem_of_getElem? hx)
      rw [hnw_s hx, up_n (by omega)]
      exact ih
/-- what handToItems leaves of the lists -/
def hndL (A : Nat → Nat → Int) (Ls : Nat → List Nat) (t : Nat) : Nat → List Nat := hnw A (Ls (501 + 2 * t)) 21 (hnw A (Ls (500 + 2 * t)) 20 Ls (Ls (500 + 2 * t)).length) (Ls (501 + 2 * t)).length
theorem k_handToItems {ow0 : OW} {h0 : AH} {S N M : Nat} (w : WD ad ow K h) (g : CI ad K h.2.2.2.1 C A I F Ls cp) (b : RB C A) (lt : LT C A Ls) (fo : Fo ow0 h0 ow h) (ib : IB C Ls cp) (pt : PT S N h cp) (jw : JB C Ls cp 20 M) (jc : JB C Ls cp 21 M) {t : Nat} (ht : t < (C 3).toNat) (hM1 : M + (Ls (500 + 2 * t)).length < 80000) (hM2 : M + (Ls (501 + 2 * t)).length < 80000)
    (k : ∀ ad' ow' K' cp' h', WD ad' ow' K' h' → CI ad' K' h'.2.2.2.1 C A I F (hndL A Ls t) cp' → LT C A (hndL A Ls t) → Fo ow0 h0 ow' h' → IB C (hndL A Ls t) cp' → PT S (N + (Ls (500 + 2 * t)).length + (Ls (501 + 2 * t)).length) h' cp' → JB C (hndL A Ls t) cp' 20 (M + (Ls (500 + 2 * t)).length) → JB C (hndL A Ls t) cp' 21 (M + (Ls (501 + 2 * t)).length) → (∀ k i, k ≠ 10 → ad' k i = ad k i) → (∀ i, (i < 20 ∨ 20 + 2 * (C 2).toNat ≤ i) → cp' i = cp i) → Q (.inl none) h') : Rn 69 0 (entL 69 [aR (ad 4 t)]) [] h Q := by
  show Rn 69 0 [some (aR (ad 4 t)), none] [] h Q
  have b1 := b.c1
  have b2 := b.c2
  have hw2 : ∀ x, x ∈ Ls (500 + 2 * t) → (A 10 x).toNat < 200 := fun x hx => by have := (lt.1 t x ht hx).2; omega
  have hc2 : ∀ x, x ∈ Ls (501 + 2 * t) → (A 10 x).toNat < 200 := fun x hx => by have := (lt.2.1 t x ht hx).2; omega
  refine x_iconst k_69_0 ?_
  refine x_is1n k_69_1 rfl ?_
  refine lp_handW (M := M) (cp0 := cp) (ad0 := ad) b ht hM1 (fun ad1 ow1 K1 cp1 h1 w1 g1 lt1 fo1 jb1 pt1 hA1 hcp1 => ?_) (Ls (500 + 2 * t)).length 0 (Nat.zero_add _) ad ow K Ls cp h rfl w g lt fo jw pt rfl (fun _ _ _ => rfl) (fun _ _ => rfl)
  refine x_iconst k_69_51 ?_
  refine x_is1n k_69_52 rfl ?_
  have e5 : hnw A (Ls (500 + 2 * t)) 20 Ls (Ls (500 + 2 * t)).length (501 + 2 * t) = Ls (501 + 2 * t) := hnw_o (Or.inl rfl) hw2 (by omega) _
  refine lp_handC (M := M) (cp0 := cp1) (ad0 := ad1) b ht hM2 (fun ad2 ow2 K2 cp2 h2 w2 g2 lt2 fo2 jb2 pt2 hA2 hcp2 => ?_) (Ls (501 + 2 * t)).length 0 (Nat.zero_add _) ad1 ow1 K1 _ cp1 h1 rfl w1 g1 lt1 fo1 (fun o ho => ?_) pt1 e5 (fun _ _ _ => rfl) (fun _ _ => rfl)
  · refine k ad2 ow2 K2 cp2 h2 w2 g2 lt2 fo2 (fun u hu => ?_) pt2 (fun o ho => ?_) jb2 (fun k i h10 => (hA2 k i h10).trans (hA1 k i h10)) (fun i hi => (hcp2 i (by omega)).trans (hcp1 i (by omega)))
    · unfold hndL
      rw [hcp2 _ (by omega), hcp1 _ (by omega), hnw_o (Or.inr rfl) hc2 (by omega), hnw_o (Or.inl rfl) hw2 (by omega)]
      exact ib u hu
    · unfold hndL
      rw [hcp2 _ (by omega), hnw_o (Or.inr rfl) hc2 (by omega)]
      exact jb1 o ho
  · have e21 : hnw A (Ls (500 + 2 * t)) 20 Ls (Ls (500 + 2 * t)).length (21 + 2 * o) = Ls (21 + 2 * o) := hnw_o (Or.inl rfl) hw2 (by omega) _
    rw [hcp1 _ (by omega)]
    show cp (21 + 2 * o) ≤ 10 + 2 * (hnw A (Ls (500 + 2 * t)) 20 Ls (Ls (500 + 2 * t)).length (21 + 2 * o)).length ∧ (hnw A (Ls (500 + 2 * t)) 20 Ls (Ls (500 + 2 * t)).length (21 + 2 * o)).length ≤ M
    rw [e21]
    exact jc o ho
end C12
