/-! THE CLASS's PICTURE. Lists: 0 items, 1 transactions, 2 + 2 s held of the site s, 3 + 2 s its inbox, 20 + 2 o writes of the item o, 21 + 2 o its changes, 500 + 2 t writes of the transaction t, 501 + 2 t its changes.
Names: 0 store, 1 tally, 2 sites, 3 items, 4 transactions, 5 writes, 6 changes, 7 messages, 8 lists, 10 their arrays, 11 seenOf, 12 start, 13 the tally's arrays, 14 siteRow.
I: 0 yesesDue, 1 a write's value, 2 a message's sort, 3 changesKept, 4 the tally's size. F: 0 seenOf, 1 start, 2 the tally's arrays. -/
def kd (id : Nat) : Nat := if id = 0 then 3 else if id = 1 then 4 else if id < 20 then (if id % 2 = 0 then 4 else 7) else (if id % 2 = 0 then 5 else 6)
def lvl (C : Nat → Int) (id : Nat) : Prop := id = 0 ∨ id = 1 ∨ (2 ≤ id ∧ id < 2 + 2 * (C 1).toNat) ∨ (20 ≤ id ∧ id < 20 + 2 * (C 2).toNat) ∨ (500 ≤ id ∧ id < 500 + 2 * (C 3).toNat)
def sCell (ad : AD) (C : Nat → Int) (I : Nat → Nat → Int) : AE := .inr (0, [aR (ad 14 0), aR (ad 8 0), aR (ad 8 1), aR (ad 1 0), aI (I 3 0), aI (C 6)])
def siCell (ad : AD) (s : Nat) : AE := .inr (2, [aI s, aR (ad 11 s), aR (ad 8 (2 + 2 * s)), aR (ad 8 (3 + 2 * s))])
def itCell (ad : AD) (A : Nat → Nat → Int) (o : Nat) : AE := .inr (3, [aI (A 0 o), aI (A 2 o), aR (ad 8 (20 + 2 * o)), aR (ad 8 (21 + 2 * o)), aI (A 1 o)])
def trCell (ad : AD) (A I : Nat → Nat → Int) (t : Nat) : AE := .inr (4, [aI t, aI (A 3 t), aR (ad 12 t), aR (ad 8 (500 + 2 * t)), aR (ad 8 (501 + 2 * t)), aI (A 4 t), aI (A 5 t), aI (I 0 t)])
def wrCell (ad : AD) (A I : Nat → Nat → Int) (t k : Nat) : AE := .inr (5, [aR (ad 4 t), aR (ad 3 (A 10 k).toNat), aL (I 1 k)])
def chCell (ad : AD) (A : Nat → Nat → Int) (t k : Nat) : AE := .inr (6, [aR (ad 4 t), aR (ad 3 (A 10 k).toNat), aI (A 12 k), aI (A 11 k)])
def msCell (ad : AD) (A I : Nat → Nat → Int) (q : Nat) : AE := .inr (7, [aI (I 2 q), aI (A 16 q), aR (ad 4 (A 19 q).toNat)])
def inCell (n : Nat) (f : Nat → Int) : AE := .inl (0, n, .inl f)
def tyCell (ad : AD) (I : Nat → Nat → Int) : AE := .inr (1, [aR (ad 13 0), aR (ad 13 1), aI (I 4 0)])
def CI (ad : AD) (K : KK) (z : Nat) (C : Nat → Int) (A I : Nat → Nat → Int) (F : Nat → Nat → Nat → Int) (Ls : Nat → List Nat) (cp : Nat → Nat) : Prop :=
  K 0 0 = some (sCell ad C I) ∧
  (∃ R, K 14 0 = some (.inl (3, (C 1).toNat, .inr (.inr R))) ∧ ∀ s, s < (C 1).toNat → R s = some (ad 2 s)) ∧
  (∀ s, s < (C 1).toNat → K 2 s = some (siCell ad s)) ∧
  (∀ s, s < (C 1).toNat → K 11 s = some (inCell (C 1).toNat (F 0 s))) ∧
  (∀ o, o < (C 2).toNat → K 3 o = some (itCell ad A o)) ∧
  (∀ t, t < (C 3).toNat → K 4 t = some (trCell ad A I t)) ∧
  (∀ t, t < (C 3).toNat → K 12 t = some (inCell (C 1).toNat (F 1 t))) ∧
  (∀ t k, t < (C 3).toNat → k ∈ Ls (500 + 2 * t) → K 5 k = some (wrCell ad A I t k)) ∧
  (∀ t k, t < (C 3).toNat → k ∈ Ls (501 + 2 * t) → K 6 k = some (chCell ad A t k)) ∧
  (∀ q, q < (C 5).toNat → K 7 q = some (msCell ad A I q)) ∧
  (∀ id, lvl C id → LX ad K z id (kd id) (Ls id) (cp id)) ∧
  (K 1 0 = some (tyCell ad I) ∧ K 13 0 = some (inCell (cp 2000) (F 2 0)) ∧ K 13 1 = some (inCell (cp 2000) (F 2 1)) ∧ 16 ≤ cp 2000) ∧
  Ls 0 = List.range (C 2).toNat ∧ Ls 1 = List.range (C 3).toNat ∧
  (∀ s u, s < (C 1).toNat → u < (C 1).toNat → F 0 s u = A 13 (6 * s + u)) ∧
  (∀ t u, t < (C 3).toNat → u < (C 1).toNat → F 1 t u = A 6 (6 * t + u)) ∧
  (∀ t, t < (C 3).toNat → A 3 t < C 1)
section CIs
variable {ad : AD} {ow : OW} {K : KK} {h : AH} {z : Nat} {C : Nat → Int} {A I : Nat → Nat → Int} {F : Nat → Nat → Nat → Int} {Ls : Nat → List Nat} {cp : Nat → Nat} {Q : AR → AH → Prop}
theorem CI.store (g : CI ad K z C A I F Ls cp) : K 0 0 = some (sCell ad C I) := g.1
theorem CI.row (g : CI ad K z C A I F Ls cp) : ∃ R, K 14 0 = some (.inl (3, (C 1).toNat, .inr (.inr R))) ∧ ∀ s, s < (C 1).toNat → R s = some (ad 2 s) := g.2.1
theorem CI.site (g : CI ad K z C A I F Ls cp) {s : Nat} (hs : s < (C 1).toNat) : K 2 s = some (siCell ad s) := g.2.2.1 s hs
theorem CI.seen (g : CI ad K z C A I F Ls cp) {s : Nat} (hs : s < (C 1).toNat) : K 11 s = some (inCell (C 1).toNat (F 0 s)) := g.2.2.2.1 s hs
theorem CI.item (g : CI ad K z C A I F Ls cp) {o : Nat} (ho : o < (C 2).toNat) : K 3 o = some (itCell ad A o) := g.2.2.2.2.1 o ho
theorem CI.tran (g : CI ad K z C A I F Ls cp) {t : Nat} (ht : t < (C 3).toNat) : K 4 t = some (trCell ad A I t) := g.2.2.2.2.2.1 t ht
theorem CI.start (g : CI ad K z C A I F Ls cp) {t : Nat} (ht : t < (C 3).toNat) : K 12 t = some (inCell (C 1).toNat (F 1 t)) := g.2.2.2.2.2.2.1 t ht
theorem CI.wr (g : CI ad K z C A I F Ls cp) {t k : Nat} (ht : t < (C 3).toNat) (hk : k ∈ Ls (500 + 2 * t)) : K 5 k = some (wrCell ad A I t k) := g.2.2.2.2.2.2.2.1 t k ht hk
theorem CI.ch (g : CI ad K z C A I F Ls cp) {t k : Nat} (ht : t < (C 3).toNat) (hk : k ∈ Ls (501 + 2 * t)) : K 6 k = some (chCell ad A t k) := g.2.2.2.2.2.2.2.2.1 t k ht hk
theorem CI.ms (g : CI ad K z C A I F Ls cp) {q : Nat} (hq : q < (C 5).toNat) : K 7 q = some (msCell ad A I q) := g.2.2.2.2.2.2.2.2.2.1 q hq
theorem CI.ls (g : CI ad K z C A I F Ls cp) {id : Nat} (hi : lvl C id) : LX ad K z id (kd id) (Ls id) (cp id) := g.2.2.2.2.2.2.2.2.2.2.1 id hi
theorem CI.tal (g : CI ad K z C A I F Ls cp) : K 1 0 = some (tyCell ad I) ∧ K 13 0 = some (inCell (cp 2000) (F 2 0)) ∧ K 13 1 = some (inCell (cp 2000) (F 2 1)) ∧ 16 ≤ cp 2000 := g.2.2.2.2.2.2.2.2.2.2.2.1
theorem CI.ls0 (g : CI ad K z C A I F Ls cp) : Ls 0 = List.range (C 2).toNat := g.2.2.2.2.2.2.2.2.2.2.2.2.1
theorem CI.ls1 (g : CI ad K z C A I F Ls cp) : Ls 1 = List.range (C 3).toNat := g.2.2.2.2.2.2.2.2.2.2.2.2.2.1
theorem CI.f0 (g : CI ad K z C A I F Ls cp) {s u : Nat} (hs : s < (C 1).toNat) (hu : u < (C 1).toNat) : F 0 s u = A 13 (6 * s + u) := g.2.2.2.2.2.2.2.2.2.2.2.2.2.2.1 s u hs hu
theorem CI.f1 (g : CI ad K z C A I F Ls cp) {t u : Nat} (ht : t < (C 3).toNat) (hu : u < (C 1).toNat) : F 1 t u = A 6 (6 * t + u) := g.2.2.2.2.2.2.2.2.2.2.2.2.2.2.2.1 t u ht hu
theorem CI.a3 (g : CI ad K z C A I F Ls cp) {t : Nat} (ht : t < (C 3).toNat) : A 3 t < C 1 := g.2.2.2.2.2.2.2.2.2.2.2.2.2.2.2.2 t ht
/-- a cell that nobody of the class has (an exception) -/
theorem WD.exn {e : AE} {c : Nat} (w : WD ad ow K h) : WD ad (up ow h.2.1 (21, 0)) K (hnew h e c) := by
  refine ⟨fun k' i' e' he => ?_, fun x hx => ?_, ?_, w.2.2.2.1, ?_, Nat.lt_succ_of_lt w.2.2.2.2.2⟩
  · have wl := w.1 k' i' e' he
    have hne : ad k' i' ≠ h.2.1 := Nat.ne_of_lt wl.2.2
    exact ⟨(hnew_n hne).trans wl.1, (up_n hne).trans wl.2.1, Nat.lt_succ_of_lt wl.2.2⟩
  · have hx : h.2.1 + 1 ≤ x := hx
    rw [hnew_n (by omega)]
    exact w.2.1 x (by omega)
  · obtain ⟨G, hG⟩ := w.2.2.1
    exact ⟨G, (hnew_n (Nat.ne_of_lt w.2.2.2.2.2)).trans hG⟩
  · show (up ow h.2.1 (21, 0) h.2.2.2.1).1 = 20
    rw [up_n (Nat.ne_of_lt w.2.2.2.2.2)]
    exact w.2.2.2.2.1
theorem k_needSite (w : WD ad ow K h) (g : CI ad K z C A I F Ls cp) (b : RB C A) {s : Int} (hs : inR s) (k1 : (0 ≤ s ∧ s < C 1) → Q (.inl none) h) (k2 : ¬ (0 ≤ s ∧ s < C 1) → Q (.inr (10, h.2.1)) (hex h 10)) : Rn 14 0 (entL 14 [aR (ad 0 0), aI s]) [] h Q := by
  show Rn 14 0 [some (aR (ad 0 0)), some (aI s)] [] h Q
  have b1 := b.c1
  obtain ⟨R, hR, _⟩ := g.row
  refine x_iload_n k_14_0 rfl ?_
  refine x_iflt (t := 13) k_14_1 rfl hs (fun hb => ?_) (fun hb => ?_)
  · refine x_throw k_14_13 (Nat.le_of_ble_eq_true rfl) ?_
    exact k2 (by omega)
  · refine x_iload_n k_14_4 rfl ?_
    refine x_aload_n k_14_5 rfl ?_
    refine x_get k_14_6 (w.at g.store) rfl ?_
    refine x_alen k_14_9 (w.at hR) ?_
    refine x_icmplt (t := 23) k_14_10 rfl (by omega) (fun hc => ?_) (fun hc => ?_)
    · refine x_return k_14_23 ?_
      exact k1 (by omega)
    · refine x_throw k_14_13 (Nat.le_of_ble_eq_true rfl) ?_
      exact k2 (by omega)
theorem k_needTwo (w : WD ad ow K h) (g : CI ad K z C A I F Ls cp) (b : RB C A) {s u : Int} (hs : inR s) (hu : inR u) (k1 : ((0 ≤ s ∧ s < C 1) ∧ (0 ≤ u ∧ u < C 1)) → ¬ s = u → Q (.inl none) h) (k2 : (¬ ((0 ≤ s ∧ s < C 1) ∧ (0 ≤ u ∧ u < C 1)) ∨ s = u) → Q (.inr (10, h.2.1)) (hex h 10)) : Rn 79 0 (entL 79 [aR (ad 0 0), aI s, aI u]) [] h Q := by
  show Rn 79 0 [some (aR (ad 0 0)), some (aI s), some (aI u)] [] h Q
  refine x_aload_n k_79_0 rfl ?_
  refine x_iload_n k_79_1 rfl ?_
  refine x_call2 k_79_2 (Nat.le_of_ble_eq_true rfl) (rcv_1 (w.at g.store)) (Nat.le_of_ble_eq_true rfl) ?_
  refine k_needSite w g b hs (fun h1 => bh_v ?_) (fun h1 => bh_o rfl (k2 (Or.inl (fun q => h1 q.1))))
  refine x_aload_n k_79_5 rfl ?_
  refine x_iload_n k_79_6 rfl ?_
  refine x_call2 k_79_7 (Nat.le_of_ble_eq_true rfl) (rcv_1 (w.at g.store)) (Nat.le_of_ble_eq_true rfl) ?_
  refine k_needSite w g b hu (fun h2 => bh_v ?_) (fun h2 => bh_o rfl (k2 (Or.inl (fun q => h2 q.2))))
  refine x_iload_n k_79_10 rfl ?_
  refine x_iload_n k_79_11 rfl ?_
  refine x_icmpne (t := 25) k_79_12 rfl ⟨hs, hu⟩ (fun hc => ?_) (fun hc => ?_)
  · refine x_return k_79_25 ?_
    exact k1 ⟨h1, h2⟩ hc
  · refine x_throw k_79_15 (Nat.le_of_ble_eq_true rfl) ?_
    exact k2 (Or.inr (Decidable.not_not.mp hc))
theorem k_transactionOf (w : WD ad ow K h) (g : CI ad K h.2.2.2.1 C A I F Ls cp) (b : RB C A) {t : Int} (ht : inR t) (k1 : (0 ≤ t ∧ t < C 3) → Q (.inl (some (aR (ad 4 t.toNat)))) h) (k2 : ¬ (0 ≤ t ∧ t < C 3) → Q (.inr (10, h.2.1)) (hex h 10)) : Rn 28 0 (entL 28 [aR (ad 0 0), aI t]) [] h Q := by
  show Rn 28 0 [some (aR (ad 0 0)), some (aI t)] [] h Q
  have b1 := b.c3
  have v := g.ls (id := 1) (Or.inr (Or.inl rfl))
  have v8 : ∃ e, K 8 1 = some (.inr (8, e)) := by
    obtain ⟨m, F, v⟩ := v
    exact ⟨_, v.1⟩
  obtain ⟨e8, v8⟩ := v8
  have hlen : (Ls 1).length = (C 3).toNat := by rw [g.ls1, List.length_range]
  refine x_iload_n k_28_0 rfl ?_
  refine x_iflt (t := 15) k_28_1 rfl ht (fun hb => ?_) (fun hb => ?_)
  · refine x_throw k_28_15 (Nat.le_of_ble_eq_true rfl) ?_
    exact k2 (by omega)
  · refine x_iload_n k_28_4 rfl ?_
    refine x_aload_n k_28_5 rfl ?_
    refine x_get k_28_6 (w.at g.store) rfl ?_
    refine x_call1 k_28_9 (Nat.le_of_ble_eq_true rfl) (rcv_1 (w.at v8)) (Nat.le_of_ble_eq_true rfl) ?_
    refine c_size w v (bh_1 ?_)
    refine x_icmplt (t := 25) k_28_12 rfl (by rw [hlen]; omega) (fun hc => ?_) (fun hc => ?_)
    · rw [hlen] at hc
      have e := k1 (by omega)
      refine x_aload_n k_28_25 rfl ?_
      refine x_get k_28_26 (w.at g.store) rfl ?_
      refine x_iload_n k_28_29 rfl ?_
      refine x_top (show t = ((t.toNat : Nat) : Int) by omega) ?_
      refine x_call2 k_28_30 (Nat.le_of_ble_eq_true rfl) (rcv_1 (w.at v8)) (Nat.le_of_ble_eq_true rfl) ?_
      refine c_get w v (x := t.toNat) (by rw [g.ls1]; exact List.getElem?_range (by omega)) (bh_1 ?_)
      refine x_cast k_28_33 (w.at (g.tran (by omega))) ?_
      refine x_areturn k_28_36 ?_
      exact e
    · rw [hlen] at hc
      refine x_throw k_28_15 (Nat.le_of_ble_eq_true rfl) ?_
      exact k2 (by omega)
theorem k_itemOf (w : WD ad ow K h) (g : CI ad K h.2.2.2.1 C A I F Ls cp) (b : RB C A) {t : Int} (ht : inR t) (k1 : (0 ≤ t ∧ t < C 2) → Q (.inl (some (aR (ad 3 t.toNat)))) h) (k2 : ¬ (0 ≤ t ∧ t < C 2) → Q (.inr (10, h.2.1)) (hex h 10)) : Rn 34 0 (entL 34 [aR (ad 0 0), aI t]) [] h Q := by
  show Rn 34 0 [some (aR (ad 0 0)), some (aI t)] [] h Q
  have b1 := b.c2
  have v := g.ls (id := 0) (Or.inl rfl)
  have v8 : ∃ e, K 8 0 = some (.inr (8, e)) := by
    obtain ⟨m, F, v⟩ := v
    exact ⟨_, v.1⟩
  obtain ⟨e8, v8⟩ := v8
  have hlen : (Ls 0).length = (C 2).toNat := by rw [g.ls0, List.length_range]
  refine x_iload_n k_34_0 rfl ?_
  refine x_iflt (t := 15) k_34_1 rfl ht (fun hb => ?_) (fun hb => ?_)
  · refine x_throw k_34_15 (Nat.le_of_ble_eq_true rfl) ?_
    exact k2 (by omega)
  · refine x_iload_n k_34_4 rfl ?_
    refine x_aload_n k_34_5 rfl ?_
    refine x_get k_34_6 (w.at g.store) rfl ?_
    refine x_call1 k_34_9 (Nat.le_of_ble_eq_true rfl) (rcv_1 (w.at v8)) (Nat.le_of_ble_eq_true rfl) ?_
    refine c_size w v (bh_1 ?_)
    refine x_icmplt (t := 25) k_34_12 rfl (by rw [hlen]; omega) (fun hc => ?_) (fun hc => ?_)
    · rw [hlen] at hc
      have e := k1 (by omega)
      refine x_aload_n k_34_25 rfl ?_
      refine x_get k_34_26 (w.at g.store) rfl ?_
      refine x_iload_n k_34_29 rfl ?_
      refine x_top (show t = ((t.toNat : Nat) : Int) by omega) ?_
      refine x_call2 k_34_30 (Nat.le_of_ble_eq_true rfl) (rcv_1 (w.at v8)) (Nat.le_of_ble_eq_true rfl) ?_
      refine c_get w v (x := t.toNat) (by rw [g.ls0]; exact List.getElem?_range (by omega)) (bh_1 ?_)
      refine x_cast k_34_33 (w.at (g.item (by omega))) ?_
      refine x_areturn k_34_36 ?_
      exact e
    · rw [hlen] at hc
      refine x_throw k_34_15 (Nat.le_of_ble_eq_true rfl) ?_
      exact k2 (by omega)
theorem k_plainItem (w : WD ad ow K h) (g : CI ad K h.2.2.2.1 C A I F Ls cp) (b : RB C A) {o : Int} (ho : inR o) (k1 : (0 ≤ o ∧ o < C 2) → A 2 o.toNat = bI false → Q (.inl (some (aR (ad 3 o.toNat)))) h) (k2 : (¬ (0 ≤ o ∧ o < C 2) ∨ ¬ A 2 o.toNat = bI false) → Q (.inr (10, h.2.1)) (hex h 10)) : Rn 33 0 (entL 33 [aR (ad 0 0), aI o]) [] h Q := by
  show Rn 33 0 [some (aR (ad 0 0)), some (aI o), none] [] h Q
  have b2 := b.v2 o.toNat
  refine x_aload_n k_33_0 rfl ?_
  refine x_iload_n k_33_1 rfl ?_
  refine x_call2 k_33_2 (Nat.le_of_ble_eq_true rfl) (rcv_1 (w.at g.store)) (Nat.le_of_ble_eq_true rfl) ?_
  refine k_itemOf w g b ho (fun h1 => bh_1 ?_) (fun h1 => bh_o rfl (k2 (Or.inl h1)))
  refine x_as2n k_33_5 rfl ?_
  refine x_aload_n k_33_6 rfl ?_
  refine x_get k_33_7 (w.at (g.item (by omega))) rfl ?_
  refine x_ifeq (t := 23) k_33_10 rfl (by omega) (fun hc => ?_) (fun hc => ?_)
  · refine x_aload_n k_33_23 rfl ?_
    refine x_areturn k_33_24 ?_
    exact k1 h1 (by simp only [bI]; exact hc)
  · refine x_throw k_33_13 (Nat.le_of_ble_eq_true rfl) ?_
    exact k2 (Or.inr (by simp only [bI]; exact hc))
theorem k_setItem (w : WD ad ow K h) (g : CI ad K h.2.2.2.1 C A I F Ls cp) (b : RB C A) {o : Int} (ho : inR o) (k1 : (0 ≤ o ∧ o < C 2) → A 2 o.toNat = bI true → Q (.inl (some (aR (ad 3 o.toNat)))) h) (k2 : (¬ (0 ≤ o ∧ o < C 2) ∨ ¬ A 2 o.toNat = bI true) → Q (.inr (10, h.2.1)) (hex h 10)) : Rn 45 0 (entL 45 [aR (ad 0 0), aI o]) [] h Q := by
  show Rn 45 0 [some (aR (ad 0 0)), some (aI o), none] [] h Q
  have b2 := b.v2 o.toNat
  refine x_aload_n k_45_0 rfl ?_
  refine x_iload_n k_45_1 rfl ?_
  refine x_call2 k_45_2 (Nat.le_of_ble_eq_true rfl) (rcv_1 (w.at g.store)) (Nat.le_of_ble_eq_true rfl) ?_
  refine k_itemOf w g b ho (fun h1 => bh_1 ?_) (fun h1 => bh_o rfl (k2 (Or.inl h1)))
  refine x_as2n k_45_5 rfl ?_
  refine x_aload_n k_45_6 rfl ?_
  refine x_get k_45_7 (w.at (g.item (by omega))) rfl ?_
  refine x_ifne (t := 23) k_45_10 rfl (by omega) (fun hc => ?_) (fun hc => ?_)
  · refine x_aload_n k_45_23 rfl ?_
    refine x_areturn k_45_24 ?_
    exact k1 h1 (by simp only [bI]; exact b2.resolve_left hc)
  · refine x_throw k_45_13 (Nat.le_of_ble_eq_true rfl) ?_
    exact k2 (Or.inr (by simp only [bI]; intro q; exact absurd (Decidable.not_not.mp hc) (by rw [q]; decide)))
theorem k_needOpen (w : WD ad ow K h) (g : CI ad K z C A I F Ls cp) (b : RB C A) {t : Nat} (ht : t < (C 3).toNat) (k1 : A 4 t = 0 → Q (.inl none) h) (k2 : ¬ A 4 t = 0 → Q (.inr (11, h.2.1)) (hex h 11)) : Rn 35 0 (entL 35 [aR (ad 0 0), aR (ad 4 t)]) [] h Q := by
  show Rn 35 0 [some (aR (ad 0 0)), some (aR (ad 4 t))] [] h Q
  have b4 := b.v4 t
  refine x_aload_n k_35_0 rfl ?_
  refine x_get k_35_1 (w.at (g.tran ht)) rfl ?_
  refine x_ifeq (t := 17) k_35_4 rfl (by omega) (fun hc => ?_) (fun hc => ?_)
  · refine x_return k_35_17 ?_
    exact k1 hc
  · refine x_throw k_35_7 (Nat.le_of_ble_eq_true rfl) ?_
    exact k2 hc
theorem k_sees (w : WD ad ow K h) (g : CI ad K z C A I F Ls cp) (b : RB C A) {c t : Nat} (hc : c < (C 3).toNat) (ht : t < (C 3).toNat) (k : Q (.inl (some (aI (bI (visB A c t))))) h) : Rn 38 0 (entL 38 [aR (ad 4 t), aR (ad 4 c)]) [] h Q := by
  show Rn 38 0 [some (aR (ad 4 t)), some (aR (ad 4 c))] [] h Q
  have b5 := b.v5 c
  have b3 := b.v3 c
  have a3 := g.a3 hc
  have b6 := b.v6 (6 * t + (A 3 c).toNat)
  have f1 := g.f1 ht (u := (A 3 c).toNat) (by omega)
  refine x_aload_n k_38_0 rfl ?_
  refine x_get k_38_1 (w.at (g.tran hc)) rfl ?_
  refine x_ifle (t := 27) k_38_4 rfl (by omega) (fun hb => ?_) (fun hb => ?_)
  · refine x_iconst k_38_27 ?_
    refine x_zreturn k_38_28 rfl (Or.inl rfl) ?_
    exact ret_f (by simp [visB]; omega) k
  · refine x_aload_n k_38_7 rfl ?_
    refine x_get k_38_8 (w.at (g.tran hc)) rfl ?_
    refine x_aload_n k_38_11 rfl ?_
    refine x_get k_38_12 (w.at (g.tran ht)) rfl ?_
    refine x_aload_n k_38_15 rfl ?_
    refine x_get k_38_16 (w.at (g.tran hc)) rfl ?_
    refine y_iaload (m := (A 3 c).toNat) k_38_19 (w.at (g.start ht)) (Or.inl rfl) (by omega) (by omega) ?_
    rw [f1]
    refine x_icmpgt (t := 27) k_38_20 rfl (by omega) (fun hd => ?_) (fun hd => ?_)
    · refine x_iconst k_38_27 ?_
      refine x_zreturn k_38_28 rfl (Or.inl rfl) ?_
      exact ret_f (by simp [visB]; omega) k
    · refine x_iconst k_38_23 ?_
      refine x_goto (t := 28) k_38_24 rfl ?_
      refine x_zreturn k_38_28 rfl (Or.inr rfl) ?_
      exact ret_t (by simp [visB]; omega) k
theorem k_hasApplied (w : WD ad ow K h) (g : CI ad K z C A I F Ls cp) (b : RB C A) {c s : Nat} (hc : c < (C 3).toNat) (hs : s < (C 1).toNat) (k : Q (.inl (some (aI (bI (decide (apq A c s)))))) h) : Rn 65 0 (entL 65 [aR (ad 2 s), aR (ad 4 c)]) [] h Q := by
  show Rn 65 0 [some (aR (ad 2 s)), some (aR (ad 4 c))] [] h Q
  have b5 := b.v5 c
  have b3 := b.v3 c
  have a3 := g.a3 hc
  have b13 := b.v13 (6 * s + (A 3 c).toNat)
  have f0 := g.f0 hs (u := (A 3 c).toNat) (by omega)
  refine x_aload_n k_65_0 rfl ?_
  refine x_get k_65_1 (w.at (g.tran hc)) rfl ?_
  refine x_ifle (t := 27) k_65_4 rfl (by omega) (fun hb => ?_) (fun hb => ?_)
  · refine x_iconst k_65_27 ?_
    refine x_zreturn k_65_28 rfl (Or.inl rfl) ?_
    exact ret_0 (by omega) k
  · refine x_aload_n k_65_7 rfl ?_
    refine x_get k_65_8 (w.at (g.tran hc)) rfl ?_
    refine x_aload_n k_65_11 rfl ?_
    refine x_get k_65_12 (w.at (g.site hs)) rfl ?_
    refine x_aload_n k_65_15 rfl ?_
    refine x_get k_65_16 (w.at (g.tran hc)) rfl ?_
    refine y_iaload (m := (A 3 c).toNat) k_65_19 (w.at (g.seen hs)) (Or.inl rfl) (by omega) (by omega) ?_
    rw [f0]
    refine x_icmpgt (t := 27) k_65_20 rfl (by omega) (fun hd => ?_) (fun hd => ?_)
    · refine x_iconst k_65_27 ?_
      refine x_zreturn k_65_28 rfl (Or.inl rfl) ?_
      exact ret_0 (by omega) k
    · refine x_iconst k_65_23 ?_
      refine x_goto (t := 28) k_65_24 rfl ?_
      refine x_zreturn k_65_28 rfl (Or.inr rfl) ?_
      exact ret_1 (by omega) k
end CIs
