section LS1
variable {h : AH} {Q : AR → AH → Prop} {lo d : Nat} {m : Int}
/-- what stands in a list's array behind a removal -/
def rmF (F : Nat → Option Nat) (i n : Nat) : Nat → Option Nat := fun k => if i ≤ k ∧ k < n - 1 then F (k + 1) else F k
def REM (h : AH) (lo d n c : Nat) (m : Int) (F : Nat → Option Nat) (i : Nat) (h' : AH) (F' : Nat → Option Nat) : Prop := h'.1 lo = some (lcell d ((n : Int) - 1) m) ∧ h'.1 d = some (rcell c F') ∧ (∀ j, j < n - 1 → F' j = rmF F i n j) ∧ (∀ x, x ≠ lo → x ≠ d → h'.1 x = h.1 x) ∧ h'.2 = h.2
theorem l_fastRemove {c ci n i : Nat} {F : Nat → Option Nat} (hL : h.1 lo = some (lcell d n m)) (hd : h.1 d = some (rcell c F)) (hi : i < n) (hnc : n ≤ c) (hc5 : c < 500000) (ha : allC h F ci n) (hci : ci < 8) (k : ∀ h' F', REM h lo d n c (m + 1) F i h' F' → Q (.inl none) h') : Rn 82 0 (entL 82 [aR lo, aR d, aI i]) [] h Q := by
  show Rn 82 0 [some (aR lo), some (aR d), some (aI i), none] [] h Q
  have hdl : d ≠ lo := fun q => by rw [q, hL] at hd; cases hd
  refine x_aload_n k_82_0 rfl ?_
  refine x_dup k_82_1 rfl ?_
  refine x_get k_82_2 hL rfl ?_
  refine x_iconst k_82_5 ?_
  refine x_iadd k_82_6 ?_
  refine x_put k_82_7 hL (Nat.le_of_ble_eq_true rfl) rfl ?_
  have hL1 : (hput h lo (lcell d n (m + 1))).1 lo = some (lcell d n (m + 1)) := hput_s
  have hd1 : (hput h lo (lcell d n (m + 1))).1 d = some (rcell c F) := (hput_n hdl).trans hd
  refine x_aload_n k_82_10 rfl ?_
  refine x_get k_82_11 hL1 rfl ?_
  refine x_iconst k_82_14 ?_
  refine x_isub k_82_15 ?_
  refine x_dup k_82_16 rfl ?_
  refine x_is3n k_82_17 rfl ?_
  refine x_iload_n k_82_18 rfl ?_
  refine x_icmple (t := 34) k_82_19 rfl (by omega) (fun hb => ?_) (fun hb => ?_)
  · have hb : (n : Int) - 1 ≤ i := hb
    refine x_aload_n k_82_34 rfl ?_
    refine x_aload_n k_82_35 rfl ?_
    refine x_iload_n k_82_36 rfl ?_
    refine x_dup_x1 k_82_37 rfl ?_
    refine x_put k_82_38 hL1 (Nat.le_of_ble_eq_true rfl) rfl ?_
    refine x_null k_82_41 ?_
    refine x_aastore k_82_42 ((hput_n hdl).trans hd1) (Or.inr rfl) (by omega) (by omega) rfl ?_
    refine x_return k_82_43 ?_
    refine k _ _ ⟨(hput_n hdl.symm).trans hput_s, hput_s, fun j hj => ?_, fun x h1 h2 => (hput_n h2).trans ((hput_n h1).trans (hput_n h1)), rfl⟩
    rw [up_n (by omega)]
    unfold rmF
    rw [if_neg (by omega)]
  · have hb : ¬ (n : Int) - 1 ≤ i := hb
    refine x_aload_n k_82_22 rfl ?_
    refine x_iload_n k_82_23 rfl ?_
    refine x_iconst k_82_24 ?_
    refine x_iadd k_82_25 ?_
    refine x_aload_n k_82_26 rfl ?_
    refine x_iload_n k_82_27 rfl ?_
    refine x_iload_n k_82_28 rfl ?_
    refine x_iload_n k_82_29 rfl ?_
    refine x_isub k_82_30 ?_
    refine x_copyQ k_82_31 hd1 hd1 ⟨by omega, by omega, by omega, by omega, by omega, (Nat.le_of_ble_eq_true rfl), by omega, by omega, allC_o (allC_p ha hL (fun fs q => by unfold lcell at q; cases q; exact absurd hci (by decide))) hci (by omega)⟩ ?_
    refine x_aload_n k_82_34 rfl ?_
    refine x_aload_n k_82_35 rfl ?_
    refine x_iload_n k_82_36 rfl ?_
    refine x_dup_x1 k_82_37 rfl ?_
    refine x_put k_82_38 ((hput_n hdl.symm).trans hL1) (Nat.le_of_ble_eq_true rfl) rfl ?_
    refine x_null k_82_41 ?_
    refine x_aastore k_82_42 ((hput_n hdl).trans hput_s) (Or.inr rfl) (by omega) (by omega) rfl ?_
    refine x_return k_82_43 ?_
    refine k _ _ ⟨(hput_n hdl.symm).trans hput_s, hput_s, fun j hj => ?_, fun x h1 h2 => (hput_n h2).trans ((hput_n h1).trans ((hput_n h2).trans (hput_n h1))), rfl⟩
    rw [up_n (by omega)]
    unfold cpy rmF
    by_cases hz : i ≤ j
    · rw [if_pos ⟨by omega, by omega⟩, if_pos ⟨hz, hj⟩]
      refine congrArg F ?_
      omega
    · rw [if_neg (by omega), if_neg (by omega)]
theorem l_remove {c ci n i : Nat} {F : Nat → Option Nat} (hL : h.1 lo = some (lcell d n m)) (hd : h.1 d = some (rcell c F)) (hi : i < n) (hnc : n ≤ c) (hc5 : c < 500000) (ha : allC h F ci n) (hci : ci < 8) (k : ∀ h' F', REM h lo d n c (m + 1) F i h' F' → Q (.inl (some (aQ (F i)))) h') : Rn 81 0 (entL 81 [aR lo, aI i]) [] h Q := by
  show Rn 81 0 [some (aR lo), some (aI i), none, none] [] h Q
  refine x_iload_n k_81_0 rfl ?_
  refine x_aload_n k_81_1 rfl ?_
  refine x_get k_81_2 hL rfl ?_
  refine x_call2 k_81_5 (Nat.le_of_ble_eq_true rfl) rfl (Nat.le_of_ble_eq_true rfl) ?_
  refine l_check (by omega) (by omega) (by omega) (bh_1 ?_)
  refine x_pop k_81_8 rfl ?_
  refine x_aload_n k_81_9 rfl ?_
  refine x_get k_81_10 hL rfl ?_
  refine x_as2n k_81_13 rfl ?_
  refine x_aload_n k_81_14 rfl ?_
  refine x_iload_n k_81_15 rfl ?_
  refine x_aaload k_81_16 hd (Or.inr rfl) (by omega) (by omega) ?_
  refine x_as3n k_81_17 rfl ?_
  refine x_aload_n k_81_18 rfl ?_
  refine x_aload_n k_81_19 rfl ?_
  refine x_iload_n k_81_20 rfl ?_
  refine x_call3 k_81_21 (Nat.le_of_ble_eq_true rfl) (rcv_1 hL) (Nat.le_of_ble_eq_true rfl) ?_
  refine l_fastRemove hL hd hi hnc hc5 ha hci (fun h' F' q => bh_v ?_)
  refine x_aload_n k_81_24 rfl ?_
  refine x_areturn k_81_25 ?_
  exact k h' F' q
/-- a new list, behind its constructor -/
theorem l_init {f1 f2 f3 : AV} (hL : h.1 lo = some (.inr (8, [f1, aI 0, f3]))) (k : Q (.inl none) (hput h lo (lcell h.2.2.2.1 0 0))) : Rn 1 0 (entL 1 [aR lo]) [] h Q := by
  show Rn 1 0 [some (aR lo)] [] h Q
  refine x_aload_n k_1_0 rfl ?_
  refine x_call1 k_1_1 (Nat.le_of_ble_eq_true rfl) rfl (Nat.le_of_ble_eq_true rfl) ?_
  show Rn 2 0 [some (aR lo)] [] h _
  refine x_aload_n k_2_0 rfl ?_
  refine x_call1 k_2_1 (Nat.le_of_ble_eq_true rfl) rfl (Nat.le_of_ble_eq_true rfl) ?_
  show Rn 3 0 [some (aR lo)] [] h _
  refine x_aload_n k_3_0 rfl ?_
  refine x_oinit k_3_1 (Nat.le_of_ble_eq_true rfl) ?_
  refine x_return k_3_4 (bh_v ?_)
  refine x_aload_n k_2_4 rfl ?_
  refine x_iconst k_2_5 ?_
  refine x_put k_2_6 hL (Nat.le_of_ble_eq_true rfl) rfl ?_
  refine x_return k_2_9 (bh_v ?_)
  refine x_aload_n k_1_4 rfl ?_
  refine x_gets k_1_5 ?_
  refine x_put k_1_8 hput_s (Nat.le_of_ble_eq_true rfl) rfl ?_
  refine x_return k_1_11 ?_
  have e : hput (hput h lo (.inr (8, [f1, aI 0, f3].set 2 (aI 0)))) lo (.inr (8, ([f1, aI 0, f3].set 2 (aI 0)).set 0 (aR h.2.2.2.1))) = hput h lo (lcell h.2.2.2.1 0 0) := by
    unfold hput
    refine Prod.ext ?_ rfl
    funext x
    show (if x = lo then _ else (if x = lo then _ else h.1 x)) = (if x = lo then _ else h.1 x)
    by_cases q : x = lo
    · rw [if_pos q, if_pos q]
      rfl
    · rw [if_neg q, if_neg q, if_neg q]
  rw [← e] at k
  exact k
end LS1
