section CONS
variable {ad : AD} {ow : OW} {K : KK} {h : AH} {Q : AR → AH → Prop} {id ek c : Nat} {l : List Nat}
/-- what a removal changes -/
def WR (ad : AD) (ow : OW) (K : KK) (h : AH) (id : Nat) (K' : KK) (h' : AH) : Prop := WD ad ow K' h' ∧ Fo ow h ow h' ∧ (∀ k i, ¬ (k = 8 ∧ i = id) → ¬ (k = 10 ∧ i = id) → K' k i = K k i) ∧ h'.2 = h.2
theorem c_remove (w : WD ad ow K h) (v : LX ad K h.2.2.2.1 id ek l c) (hek : ek < 8) {i x : Nat} (hi : l[i]? = some x) (k : ∀ K' h', WR ad ow K h id K' h' → LX ad K' h'.2.2.2.1 id ek (l.eraseIdx i) c → Q (.inl (some (aR (ad ek x)))) h') : Rn 81 0 (entL 81 [aR (ad 8 id), aI i]) [] h Q := by
  obtain ⟨m, F, v⟩ := v
  have hl : i < l.length := (List.getElem?_eq_some_iff.mp hi).1
  have h3 := v.2.2.1
  have h4 := v.2.2.2.2.1
  have hc : c ≠ 0 := by omega
  have v1 := v.1
  rw [if_neg hc] at v1
  have e := v.2.2.2.2.2.1 i x hi
  have v2 := v.2.1 hc
  refine l_remove (w.at v1) (w.at v2) hl h3 (by omega) (v.all w) hek (fun h' F' q => ?_)
  rw [e]
  obtain ⟨q1, q2, q3, q4, q5⟩ := q
  have hek8 : ¬ ek = 8 := by omega
  have hek10 : ¬ ek = 10 := by omega
  have hlen : (l.eraseIdx i).length = l.length - 1 := List.length_eraseIdx_of_lt hl
  have w1 : WD ad ow (p2 (p2 K 10 id (rcell c F')) 8 id (lcell (ad 10 id) ((l.length : Int) - 1) (m + 1))) h' := by
    refine ⟨fun k' i' e' he => ?_, fun y hy => ?_, ?_, fun j => ?_, ?_, ?_⟩
    · by_cases n8 : k' = 8 ∧ i' = id
      · obtain ⟨rfl, rfl⟩ := n8
        rw [p2_s] at he
        cases he
        refine ⟨q1, (w.1 _ _ _ v1).2.1, ?_⟩
        rw [q5]
        exact (w.1 _ _ _ v1).2.2
      · rw [p2_n n8] at he
        by_cases n10 : k' = 10 ∧ i' = id
        · obtain ⟨rfl, rfl⟩ := n10
          rw [p2_s] at he
          cases he
          refine ⟨q2, (w.1 _ _ _ v2).2.1, ?_⟩
          rw [q5]
          exact (w.1 _ _ _ v2).2.2
        · rw [p2_n n10] at he
          refine ⟨(q4 _ (w.ne he v1 n8) (w.ne he v2 n10)).trans (w.at he), (w.1 _ _ _ he).2.1, ?_⟩
          rw [q5]
          exact (w.1 _ _ _ he).2.2
    · rw [q5] at hy
      have z8 := (w.1 _ _ _ v1).2.2
      have z10 := (w.1 _ _ _ v2).2.2
      rw [q4 y (by omega) (by omega)]
      exact w.2.1 y hy
    · rw [q5]
      obtain ⟨G0, hG0⟩ := w.2.2.1
      exact ⟨G0, (q4 _ (w.own v1 w.2.2.2.2.1) (w.own v2 w.2.2.2.2.1)).trans hG0⟩
    · rw [p2_n (by omega), p2_n (by omega)]
      exact w.2.2.2.1 j
    · rw [q5]
      exact w.2.2.2.2.1
    · rw [q5]
      exact w.2.2.2.2.2
  refine k _ h' ⟨w1, ⟨by rw [q5]; exact Nat.le_refl _, by rw [q5]; exact Nat.le_refl _, by rw [q5], fun y h1 h2 => ⟨q4 y (w.own v1 h2) (w.own v2 h2), rfl⟩⟩, fun k' i' n1 n2 => (p2_n n1).trans (p2_n n2), q5⟩ ⟨m + 1, F', ?_⟩
  refine ⟨?_, fun _ => ?_, by omega, v.2.2.2.1, h4, fun j y hy => ?_, fun y hy => ?_⟩
  · rw [p2_s, if_neg hc, hlen]
    refine congrArg (fun z => some (lcell (ad 10 id) z (m + 1))) ?_
    omega
  · rw [p2_n (by omega), p2_s]
  · have hj : j < l.length - 1 := by
      have := (List.getElem?_eq_some_iff.mp hy).1
      omega
    rw [q3 j hj]
    rw [List.getElem?_eraseIdx] at hy
    unfold rmF
    by_cases hz : j < i
    · rw [if_pos hz] at hy
      rw [if_neg (by omega)]
      exact v.2.2.2.2.2.1 j y hy
    · rw [if_neg hz] at hy
      rw [if_pos ⟨by omega, hj⟩]
      exact v.2.2.2.2.2.1 (j + 1) y hy
  · rw [p2_n (by omega), p2_n (by omega)]
    exact v.2.2.2.2.2.2 y (List.mem_of_mem_eraseIdx hy)
theorem hput_put {a : Nat} {e e' : AE} : hput (hput h a e) a e' = hput h a e' := by
  unfold hput
  refine Prod.ext ?_ rfl
  funext x
  show (if x = a then some e' else (if x = a then some e else h.1 x)) = (if x = a then some e' else h.1 x)
  by_cases q : x = a
  · rw [if_pos q, if_pos q]
  · rw [if_neg q, if_neg q, if_neg q]
/-- a put at the address below, behind a cell made -/
theorem hput_hnew {a n : Nat} {e e' : AE} (hn : a ≠ h.2.1) : hnew (hput h a e) e' n = hput (hnew h e' n) a e := by
  unfold hput hnew
  refine Prod.ext ?_ rfl
  funext x
  show (if x = h.2.1 then some e' else (if x = a then some e else h.1 x)) = (if x = a then some e else (if x = h.2.1 then some e' else h.1 x))
  by_cases q : x = h.2.1
  · rw [if_pos q, if_neg (fun r => hn (r.symm.trans q)), if_pos q]
  · rw [if_neg q, if_neg q]
theorem i_write {a t it : Nat} {v : Int} {f1 f2 f3 : AV} (he : h.1 a = some (.inr (5, [f1, f2, f3]))) (k : Q (.inl none) (hput h a (.inr (5, [aR t, aR it, aL v])))) : Rn 42 0 (entL 42 [aR a, aR t, aR it, aL v]) [] h Q := by
  show Rn 42 0 [some (aR a), some (aR t), some (aR it), some (aL v), none] [] h Q
  refine x_aload_n k_42_0 rfl ?_
  refine x_oinit k_42_1 (Nat.le_of_ble_eq_true rfl) ?_
  refine x_aload_n k_42_4 rfl ?_
  refine x_aload_n k_42_5 rfl ?_
  refine x_put k_42_6 he (Nat.le_of_ble_eq_true rfl) rfl ?_
  refine x_aload_n k_42_9 rfl ?_
  refine x_aload_n k_42_10 rfl ?_
  refine x_put k_42_11 hput_s (Nat.le_of_ble_eq_true rfl) rfl ?_
  refine x_aload_n k_42_14 rfl ?_
  refine x_lload_n k_42_15 rfl ?_
  refine x_put k_42_16 hput_s (Nat.le_of_ble_eq_true rfl) rfl ?_
  refine x_return k_42_19 ?_
  rw [hput_put, hput_put]
  exact k
theorem i_change {a t it : Nat} {x y : Int} {f1 f2 f3 f4 : AV} (he : h.1 a = some (.inr (6, [f1, f2, f3, f4]))) (k : Q (.inl none) (hput h a (.inr (6, [aR t, aR it, aI x, aI y])))) : Rn 46 0 (entL 46 [aR a, aR t, aR it, aI x, aI y]) [] h Q := by
  show Rn 46 0 [some (aR a), some (aR t), some (aR it), some (aI x), some (aI y)] [] h Q
  refine x_aload_n k_46_0 rfl ?_
  refine x_oinit k_46_1 (Nat.le_of_ble_eq_true rfl) ?_
  refine x_aload_n k_46_4 rfl ?_
  refine x_aload_n k_46_5 rfl ?_
  refine x_put k_46_6 he (Nat.le_of_ble_eq_true rfl) rfl ?_
  refine x_aload_n k_46_9 rfl ?_
  refine x_aload_n k_46_10 rfl ?_
  refine x_put k_46_11 hput_s (Nat.le_of_ble_eq_true rfl) rfl ?_
  refine x_aload_n k_46_14 rfl ?_
  refine x_iload_n k_46_15 rfl ?_
  refine x_put k_46_16 hput_s (Nat.le_of_ble_eq_true rfl) rfl ?_
  refine x_aload_n k_46_19 rfl ?_
  refine x_iload k_46_20 rfl ?_
  refine x_put k_46_22 hput_s (Nat.le_of_ble_eq_true rfl) rfl ?_
  refine x_return k_46_25 ?_
  rw [hput_put, hput_put, hput_put]
  exact k
theorem i_message {a t : Nat} {x y : Int} {f1 f2 f3 : AV} (he : h.1 a = some (.inr (7, [f1, f2, f3]))) (k : Q (.inl none) (hput h a (.inr (7, [aI x, aI y, aR t])))) : Rn 72 0 (entL 72 [aR a, aI x, aI y, aR t]) [] h Q := by
  show Rn 72 0 [some (aR a), some (aI x), some (aI y), some (aR t)] [] h Q
  refine x_aload_n k_72_0 rfl ?_
  refine x_oinit k_72_1 (Nat.le_of_ble_eq_true rfl) ?_
  refine x_aload_n k_72_4 rfl ?_
  refine x_iload_n k_72_5 rfl ?_
  refine x_put k_72_6 he (Nat.le_of_ble_eq_true rfl) rfl ?_
  refine x_aload_n k_72_9 rfl ?_
  refine x_iload_n k_72_10 rfl ?_
  refine x_put k_72_11 hput_s (Nat.le_of_ble_eq_true rfl) rfl ?_
  refine x_aload_n k_72_14 rfl ?_
  refine x_aload_n k_72_15 rfl ?_
  refine x_put k_72_16 hput_s (Nat.le_of_ble_eq_true rfl) rfl ?_
  refine x_return k_72_19 ?_
  rw [hput_put, hput_put]
  exact k
/-- a new list: the cell made, its constructor run -/
theorem x_newl {i pc len n c d : Nat} {L : AL} {st : List AV} (hk : cod i pc = some (.inr (2, 8, n, c, d), len)) (hn : cod i (pc + 3) = some (.inl .dup, 1)) (hc : cod i (pc + 3 + 1) = some (.inr (17, 1, 1, 2, 0), 3)) (hl : st.length ≤ 3) (k : Rn i (pc + 3 + 1 + 3) L (aR h.2.1 :: st) (hnew h (lcell h.2.2.2.1 0 0) n) Q) : Rn i pc L st h Q := by
  refine x_new hk ?_
  refine x_dup hn rfl ?_
  refine x_call1 hc (by show st.length + 1 ≤ 4; omega) rfl (Nat.le_of_ble_eq_true rfl) ?_
  refine l_init (f1 := aN) (f2 := aI 0) (f3 := aI 0) hnew_s (bh_v ?_)
  rw [show hput (hnew h (.inr (8, dfl 8)) n) h.2.1 (lcell (hnew h (.inr (8, dfl 8)) n).2.2.2.1 0 0) = hnew h (lcell h.2.2.2.1 0 0) n from hput_new]
  exact k
theorem i_item {a : Nat} {x : Int} {w : Bool} {f1 f2 f3 f4 f5 : AV} (he : h.1 a = some (.inr (3, [f1, f2, f3, f4, f5]))) (ha : a < h.2.1) (k : Q (.inl none) (hput (hnew (hnew h (lcell h.2.2.2.1 0 0) 3) (lcell h.2.2.2.1 0 0) 3) a (.inr (3, [aI x, aI (bI w), aR h.2.1, aR (h.2.1 + 1), aI (-1)])))) : Rn 15 0 (entL 15 [aR a, aI x, aI (bI w)]) [] h Q := by
  show Rn 15 0 [some (aR a), some (aI x), some (aI (bI w))] [] h Q
  have hb : okv 1 (aI (bI w)) = true := by cases w <;> rfl
  refine x_aload_n k_15_0 rfl ?_
  refine x_oinit k_15_1 (Nat.le_of_ble_eq_true rfl) ?_
  refine x_aload_n k_15_4 rfl ?_
  refine x_iload_n k_15_5 rfl ?_
  refine x_put k_15_6 he (Nat.le_of_ble_eq_true rfl) rfl ?_
  refine x_aload_n k_15_9 rfl ?_
  refine x_iload_n k_15_10 rfl ?_
  refine x_put k_15_11 hput_s (Nat.le_of_ble_eq_true rfl) hb ?_
  rw [hput_put]
  refine x_aload_n k_15_14 rfl ?_
  refine x_newl k_15_15 k_15_18 k_15_19 (Nat.le_of_ble_eq_true rfl) ?_
  rw [hput_hnew (Nat.ne_of_lt ha)]
  refine x_put k_15_22 hput_s (Nat.le_of_ble_eq_true rfl) rfl ?_
  rw [hput_put]
  refine x_aload_n k_15_25 rfl ?_
  refine x_newl k_15_26 k_15_29 k_15_30 (Nat.le_of_ble_eq_true rfl) ?_
  rw [hput_hnew (Nat.ne_of_lt (Nat.lt_succ_of_lt ha))]
  refine x_put k_15_33 hput_s (Nat.le_of_ble_eq_true rfl) rfl ?_
  rw [hput_put]
  refine x_aload_n k_15_36 rfl ?_
  refine x_iconst k_15_37 ?_
  refine x_put k_15_38 hput_s (Nat.le_of_ble_eq_true rfl) rfl ?_
  rw [hput_put]
  refine x_return k_15_41 ?_
  exact k
theorem i_site {a : Nat} {x : Int} {n : Nat} {f1 f2 f3 f4 : AV} (hn : n ≤ 6) (he : h.1 a = some (.inr (2, [f1, f2, f3, f4]))) (ha : a < h.2.1) (k : Q (.inl none) (hput (hnew (hnew (hnew h (.inl (0, n, .inl (fun _ => 0))) n) (lcell h.2.2.2.1 0 0) 3) (lcell h.2.2.2.1 0 0) 3) a (.inr (2, [aI x, aR h.2.1, aR (h.2.1 + 1), aR (h.2.1 + 2)])))) : Rn 11 0 (entL 11 [aR a, aI x, aI n]) [] h Q := by
  show Rn 11 0 [some (aR a), some (aI x), some (aI n)] [] h Q
  refine x_aload_n k_11_0 rfl ?_
  refine x_oinit k_11_1 (Nat.le_of_ble_eq_true rfl) ?_
  refine x_aload_n k_11_4 rfl ?_
  refine x_iload_n k_11_5 rfl ?_
  refine x_put k_11_6 he (Nat.le_of_ble_eq_true rfl) rfl ?_
  refine x_aload_n k_11_9 rfl ?_
  refine x_iload_n k_11_10 rfl ?_
  refine x_newa_int k_11_11 ⟨by omega, by omega⟩ ?_
  rw [hput_hnew (Nat.ne_of_lt ha)]
  refine x_put k_11_13 hput_s (Nat.le_of_ble_eq_true rfl) rfl ?_
  rw [hput_put]
  refine x_aload_n k_11_16 rfl ?_
  refine x_newl k_11_17 k_11_20 k_11_21 (Nat.le_of_ble_eq_true rfl) ?_
  rw [hput_hnew (Nat.ne_of_lt (Nat.lt_succ_of_lt ha))]
  refine x_put k_11_24 hput_s (Nat.le_of_ble_eq_true rfl) rfl ?_
  rw [hput_put]
  refine x_aload_n k_11_27 rfl ?_
  refine x_newl k_11_28 k_11_31 k_11_32 (Nat.le_of_ble_eq_true rfl) ?_
  rw [hput_hnew (Nat.ne_of_lt (Nat.lt_succ_of_lt (Nat.lt_succ_of_lt ha)))]
  refine x_put k_11_35 hput_s (Nat.le_of_ble_eq_true rfl) rfl ?_
  rw [hput_put]
  refine x_return k_11_38 ?_
  exact k
theorem i_tran {a b n : Nat} {x y : Int} {F : Nat → Int} {f1 f2 f3 f4 f5 f6 : AV} (hn : 0 < n) (hb : h.1 b = some (.inl (0, n, .inl F))) (he : h.1 a = some (.inr (4, [f1, f2, f3, f4, f5, f6, aI 0, aI 0]))) (ha : a < h.2.1) (k : Q (.inl none) (hput (hnew (hnew (hnew h (.inl (0, n, .inl F)) n) (lcell h.2.2.2.1 0 0) 3) (lcell h.2.2.2.1 0 0) 3) a (.inr (4, [aI x, aI y, aR h.2.1, aR (h.2.1 + 1), aR (h.2.1 + 2), aI 0, aI 0, aI 0])))) : Rn 25 0 (entL 25 [aR a, aI x, aI y, aR b]) [] h Q := by
  show Rn 25 0 [some (aR a), some (aI x), some (aI y), some (aR b)] [] h Q
  have hba : b ≠ a := fun q => by rw [q, he] at hb; cases hb
  refine x_aload_n k_25_0 rfl ?_
  refine x_oinit k_25_1 (Nat.le_of_ble_eq_true rfl) ?_
  refine x_aload_n k_25_4 rfl ?_
  refine x_iload_n k_25_5 rfl ?_
  refine x_put k_25_6 he (Nat.le_of_ble_eq_true rfl) rfl ?_
  refine x_aload_n k_25_9 rfl ?_
  refine x_iload_n k_25_10 rfl ?_
  refine x_put k_25_11 hput_s (Nat.le_of_ble_eq_true rfl) rfl ?_
  rw [hput_put]
  refine x_aload_n k_25_14 rfl ?_
  refine x_aload_n k_25_15 rfl ?_
  refine x_clone k_25_16 ((hput_n hba).trans hb) (Nat.le_of_ble_eq_true rfl) ?_
  rw [hput_hnew (Nat.ne_of_lt ha)]
  refine x_castA k_25_19 ((hput_n (Nat.ne_of_gt ha)).trans hnew_s) hn ?_
  refine x_put k_25_22 hput_s (Nat.le_of_ble_eq_true rfl) rfl ?_
  rw [hput_put]
  refine x_aload_n k_25_25 rfl ?_
  refine x_newl k_25_26 k_25_29 k_25_30 (Nat.le_of_ble_eq_true rfl) ?_
  rw [hput_hnew (Nat.ne_of_lt (Nat.lt_succ_of_lt ha))]
  refine x_put k_25_33 hput_s (Nat.le_of_ble_eq_true rfl) rfl ?_
  rw [hput_put]
  refine x_aload_n k_25_36 rfl ?_
  refine x_newl k_25_37 k_25_40 k_25_41 (Nat.le_of_ble_eq_true rfl) ?_
  rw [hput_hnew (Nat.ne_of_lt (Nat.lt_succ_of_lt (Nat.lt_succ_of_lt ha)))]
  refine x_put k_25_44 hput_s (Nat.le_of_ble_eq_true rfl) rfl ?_
  rw [hput_put]
  refine x_aload_n k_25_47 rfl ?_
  refine x_iconst k_25_48 ?_
  refine x_put k_25_49 hput_s (Nat.le_of_ble_eq_true rfl) rfl ?_
  rw [hput_put]
  refine x_return k_25_52 ?_
  exact k
end CONS
