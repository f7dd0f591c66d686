section LS0
variable {i pc len : Nat} {st : List AV} {h : AH} {Q : AR → AH → Prop} {L : AL}
theorem x_copyI {a b c d src dst n0 n1 : Nat} {f g : Nat → Int} {sp dp n : Int} (hk : cod i pc = some (.inr (8, a, b, c, d), len)) (hs : h.1 src = some (.inl (0, n0, .inl f))) (hd : h.1 dst = some (.inl (0, n1, .inl g))) (hc : 0 ≤ sp ∧ 0 ≤ dp ∧ 0 ≤ n ∧ sp + n ≤ n0 ∧ dp + n ≤ n1 ∧ st.length ≤ 4 ∧ 0 < n0 ∧ 0 < n1) (k : Rn i (pc + 3) L st (hput h dst (.inl (0, n1, .inl (cpy f g sp.toNat dp.toNat n.toNat)))) Q) : Rn i pc L (aI n :: aI dp :: aR dst :: aI sp :: aR src :: st) h Q := Rn.step (by
  rw [stp, hk]
  show wrp (o_copyI (pc + 3) L (aI n :: aI dp :: aR dst :: aI sp :: aR src :: st) h) = _
  unfold o_copyI
  simp only [hs, hd]
  rw [if_pos hc]
  rfl) k
theorem x_copyQ {a b c d src dst n0 n1 : Nat} {f g : Nat → Option Nat} {sp dp n : Int} (hk : cod i pc = some (.inr (9, a, b, c, d), len)) (hs : h.1 src = some (.inl (4, n0, .inr (.inr f)))) (hd : h.1 dst = some (.inl (4, n1, .inr (.inr g)))) (hc : 0 ≤ sp ∧ 0 ≤ dp ∧ 0 ≤ n ∧ sp + n ≤ n0 ∧ dp + n ≤ n1 ∧ st.length ≤ 4 ∧ 0 < n0 ∧ 0 < n1 ∧ o_all f sp.toNat n.toNat h = true) (k : Rn i (pc + 3) L st (hput h dst (.inl (4, n1, .inr (.inr (cpy f g sp.toNat dp.toNat n.toNat))))) Q) : Rn i pc L (aI n :: aI dp :: aR dst :: aI sp :: aR src :: st) h Q := Rn.step (by
  rw [stp, hk]
  show wrp (o_copyQ (pc + 3) L (aI n :: aI dp :: aR dst :: aI sp :: aR src :: st) h) = _
  unfold o_copyQ
  simp only [hs, hd]
  rw [if_pos hc]
  rfl) k
theorem x_clone {a b c d x n : Nat} {f : Nat → Int} (hk : cod i pc = some (.inr (10, a, b, c, d), len)) (hs : h.1 x = some (.inl (0, n, .inl f))) (hl : st.length ≤ 4) (k : Rn i (pc + 3) L (aR h.2.1 :: st) (hnew h (.inl (0, n, .inl f)) n) Q) : Rn i pc L (aR x :: st) h Q := Rn.step (by
  rw [stp, hk]
  show wrp (o_clone (pc + 3) L (aR x :: st) h) = _
  unfold o_clone
  simp only [hs]
  rw [if_pos hl]
  rfl) k
theorem x_getC {a b c d x n : Nat} {y : AA} (hk : cod i pc = some (.inr (13, a, b, c, d), len)) (hs : h.1 x = some (.inl (4, n, y))) (hl : st.length ≤ 4 ∧ 0 < n) (k : Rn i (pc + 3) L (aR h.2.2.2.2 :: st) h Q) : Rn i pc L (aR x :: st) h Q := Rn.step (by
  rw [stp, hk]
  show wrp (o_getC (pc + 3) L (aR x :: st) h) = _
  unfold o_getC
  simp only [hs]
  rw [if_pos hl]
  rfl) k
theorem shr_1 {x : Int} (h0 : 0 ≤ x) (h1 : x < 1073741824) : f_shr x 1 = x / 2 := by
  unfold f_shr
  show (Int32.ofInt x >>> (Int32.ofInt 1 &&& 31)).toBitVec.toInt = x / 2
  rw [Int32.toBitVec_shiftRight, show ((Int32.ofInt 1 &&& 31).toBitVec).smod 32 = 1#32 by decide]
  show ((Int32.ofInt x).toBitVec.sshiftRight 1).toInt = x / 2
  rw [BitVec.toInt_sshiftRight]
  show (Int32.ofInt x).toInt >>> 1 = x / 2
  rw [Int32.toInt_ofInt_of_le (by omega) (by omega), Int.shiftRight_eq_div_pow]
  rfl
/-- all places below n hold objects of the class ci -/
def allC (h : AH) (F : Nat → Option Nat) (ci n : Nat) : Prop := ∀ j, j < n → ∃ y fs, F j = some y ∧ h.1 y = some (.inr (ci, fs))
theorem allC_o {F : Nat → Option Nat} {ci n sp m : Nat} (ha : allC h F ci n) (hc : ci < 8) (hm : sp + m ≤ n) : o_all F sp m h = true := by
  unfold o_all
  refine List.any_eq_true.mpr ⟨ci, List.mem_range.mpr hc, List.all_eq_true.mpr (fun j hj => ?_)⟩
  obtain ⟨y, fs, h1, h2⟩ := ha (sp + j) (by have := List.mem_range.mp hj; omega)
  simp only [h1, h2]
  exact beq_self_eq_true ci
/-! ARRAYLIST -/
def lcell (d : Nat) (n m : Int) : AE := .inr (8, [aR d, aI n, aI m])
def rcell (c : Nat) (F : Nat → Option Nat) : AE := .inl (4, c, .inr (.inr F))
section
variable {lo d : Nat} {n m : Int}
theorem l_size (hL : h.1 lo = some (lcell d n m)) (k : Q (.inl (some (aI n))) h) : Rn 6 0 (entL 6 [aR lo]) [] h Q := by
  show Rn 6 0 [some (aR lo)] [] h Q
  refine x_aload_n k_6_0 rfl ?_
  refine x_get k_6_1 hL rfl ?_
  refine x_ireturn k_6_4 rfl ?_
  exact k
theorem l_isEmpty (hL : h.1 lo = some (lcell d n m)) (hn : inR n) (k : Q (.inl (some (aI (bI (decide (n = 0)))))) h) : Rn 62 0 (entL 62 [aR lo]) [] h Q := by
  show Rn 62 0 [some (aR lo)] [] h Q
  refine x_aload_n k_62_0 rfl ?_
  refine x_get k_62_1 hL rfl ?_
  refine x_ifne (t := 11) k_62_4 rfl hn (fun hb => ?_) (fun hb => ?_)
  · refine x_iconst k_62_11 ?_
    refine x_zreturn k_62_12 rfl (by first | exact Or.inl rfl | exact Or.inr rfl) ?_
    exact ret_0 hb k
  · refine x_iconst k_62_7 ?_
    refine x_goto (t := 12) k_62_8 rfl ?_
    refine x_zreturn k_62_12 rfl (by first | exact Or.inl rfl | exact Or.inr rfl) ?_
    exact ret_1 (Decidable.not_not.mp hb) k
theorem l_chk {i n : Int} (h0 : 0 ≤ i) (h1 : i < n) (h2 : n < 2147483648) (k : Q (.inl (some (aI i))) h) : Rn 31 0 (entL 31 [aI i, aI n, aN]) [] h Q := by
  show Rn 31 0 [some (aI i), some (aI n), some aN] [] h Q
  refine x_iload_n k_31_0 rfl ?_
  refine x_iflt (t := 9) k_31_1 rfl (by omega) (fun hb => ?_) (fun hb => ?_)
  · exact absurd hb (by omega)
  · refine x_iload_n k_31_4 rfl ?_
    refine x_iload_n k_31_5 rfl ?_
    refine x_icmplt (t := 16) k_31_6 rfl (by omega) (fun hb => ?_) (fun hb => ?_)
    · refine x_iload_n k_31_16 rfl ?_
      refine x_ireturn k_31_17 rfl ?_
      exact k
    · exact absurd h1 (by assumption)
theorem l_check {i n : Int} (h0 : 0 ≤ i) (h1 : i < n) (h2 : n < 2147483648) (k : Q (.inl (some (aI i))) h) : Rn 30 0 (entL 30 [aI i, aI n]) [] h Q := by
  show Rn 30 0 [some (aI i), some (aI n)] [] h Q
  refine x_iload_n k_30_0 rfl ?_
  refine x_iload_n k_30_1 rfl ?_
  refine x_null k_30_2 ?_
  refine x_call3 k_30_3 (Nat.le_of_ble_eq_true rfl) rfl (Nat.le_of_ble_eq_true rfl) ?_
  refine l_chk h0 h1 h2 (bh_1 ?_)
  refine x_ireturn k_30_6 rfl ?_
  exact k
theorem l_edata {c : Nat} {F : Nat → Option Nat} {j : Nat} (hL : h.1 lo = some (lcell d n m)) (hd : h.1 d = some (rcell c F)) (hj : j < c) (k : Q (.inl (some (aQ (F j)))) h) : Rn 32 0 (entL 32 [aR lo, aI j]) [] h Q := by
  show Rn 32 0 [some (aR lo), some (aI j)] [] h Q
  refine x_aload_n k_32_0 rfl ?_
  refine x_get k_32_1 hL rfl ?_
  refine x_iload_n k_32_4 rfl ?_
  refine x_aaload k_32_5 hd (Or.inr rfl) (by omega) (by omega) ?_
  refine x_areturn k_32_6 ?_
  exact k
theorem l_get {c : Nat} {F : Nat → Option Nat} {j : Nat} (hL : h.1 lo = some (lcell d n m)) (hd : h.1 d = some (rcell c F)) (hj : (j : Int) < n) (hc : n ≤ c) (hn : n < 2147483648) (k : Q (.inl (some (aQ (F j)))) h) : Rn 29 0 (entL 29 [aR lo, aI j]) [] h Q := by
  show Rn 29 0 [some (aR lo), some (aI j)] [] h Q
  refine x_iload_n k_29_0 rfl ?_
  refine x_aload_n k_29_1 rfl ?_
  refine x_get k_29_2 hL rfl ?_
  refine x_call2 k_29_5 (Nat.le_of_ble_eq_true rfl) rfl (Nat.le_of_ble_eq_true rfl) ?_
  refine l_check (by omega) hj hn (bh_1 ?_)
  refine x_pop k_29_8 rfl ?_
  refine x_aload_n k_29_9 rfl ?_
  refine x_iload_n k_29_10 rfl ?_
  refine x_call2 k_29_11 (Nat.le_of_ble_eq_true rfl) (rcv_1 hL) (Nat.le_of_ble_eq_true rfl) ?_
  refine l_edata hL hd (by omega) (bh_1 ?_)
  refine x_areturn k_29_14 ?_
  exact k
theorem l_newlen {x p : Int} (h0 : 0 < x) (h1 : 0 ≤ p ∧ p < 1000000) (h2 : x < 1000000) (hp : 1 ≤ p) (k : Q (.inl (some (aI (x + p)))) h) : Rn 20 0 (entL 20 [aI x, aI 1, aI p]) [] h Q := by
  show Rn 20 0 [some (aI x), some (aI 1), some (aI p), none] [] h Q
  refine x_iload_n k_20_0 rfl ?_
  refine x_iload_n k_20_1 rfl ?_
  refine x_iload_n k_20_2 rfl ?_
  refine x_mx k_20_3 ⟨by decide, by omega, (Nat.le_of_ble_eq_true rfl)⟩ ?_
  refine x_top (show (if (1 : Int) < p then p else 1) = p by split <;> omega) ?_
  refine x_iadd k_20_6 ?_
  refine x_is3n k_20_7 rfl ?_
  refine x_iconst k_20_8 ?_
  refine x_iload_n k_20_9 rfl ?_
  refine x_icmpge (t := 21) k_20_10 rfl ⟨by decide, by omega⟩ (fun hb => ?_) (fun hb => ?_)
  · exact absurd hb (by omega)
  · refine x_iload_n k_20_13 rfl ?_
    refine x_ldcI k_20_14 ?_
    refine x_icmpgt (t := 21) k_20_16 rfl ⟨by omega, by decide⟩ (fun hb => ?_) (fun hb => ?_)
    · have hb2 : (2147483639 : Int) < x + p := by assumption
      exact absurd hb2 (by omega)
    · refine x_iload_n k_20_19 rfl ?_
      refine x_ireturn k_20_20 rfl ?_
      exact k
theorem hput_new {e e' : AE} {c : Nat} : hput (hnew h e c) h.2.1 e' = hnew h e' c := by
  unfold hput hnew
  refine Prod.ext ?_ rfl
  funext x
  show (if x = h.2.1 then some e' else (if x = h.2.1 then some e else h.1 x)) = (if x = h.2.1 then some e' else h.1 x)
  by_cases q : x = h.2.1
  · rw [if_pos q, if_pos q]
  · rw [if_neg q, if_neg q, if_neg q]
def ncap (c : Nat) : Nat := if c = 0 then 10 else c + c / 2
theorem allC_n {F : Nat → Option Nat} {ci n c : Nat} {e : AE} (ha : allC h F ci n) (hf : h.1 h.2.1 = none) : allC (hnew h e c) F ci n := fun j hj => by
  obtain ⟨y, fs, h1, h2⟩ := ha j hj
  refine ⟨y, fs, h1, ?_⟩
  rw [hnew_n (fun q => by rw [q, hf] at h2; cases h2)]
  exact h2
theorem allC_p {F : Nat → Option Nat} {ci n a : Nat} {e e0 : AE} (ha : allC h F ci n) (he : h.1 a = some e0) (hn : ∀ fs, e0 ≠ .inr (ci, fs)) : allC (hput h a e) F ci n := fun j hj => by
  obtain ⟨y, fs, h1, h2⟩ := ha j hj
  refine ⟨y, fs, h1, ?_⟩
  rw [hput_n (fun q => by rw [q, he] at h2; exact hn fs (Option.some.inj h2))]
  exact h2
theorem l_copy22 {src c nl ci : Nat} {F : Nat → Option Nat} (hs : h.1 src = some (rcell c F)) (hc : 0 < c) (hcl : c ≤ nl) (hnl : nl ≤ 1048576) (hf : h.1 h.2.1 = none) (ha : allC h F ci c) (hci : ci < 8) (k : Q (.inl (some (aR h.2.1))) (hnew h (rcell nl (cpy F (fun _ => none) 0 0 c)) nl)) : Rn 22 0 (entL 22 [aR src, aI nl, aR h.2.2.2.2]) [] h Q := by
  show Rn 22 0 [some (aR src), some (aI nl), some (aR h.2.2.2.2), none] [] h Q
  have hne : src ≠ h.2.1 := fun q => by rw [q, hf] at hs; cases hs
  refine x_aload_n k_22_0 rfl ?_
  refine x_ldcM k_22_1 ?_
  refine x_acmpne (t := 13) k_22_3 rfl (fun hb => absurd rfl hb) (fun hb => ?_)
  refine x_iload_n k_22_6 rfl ?_
  refine x_anew k_22_7 ⟨by omega, by omega⟩ ?_
  refine x_goto (t := 24) k_22_10 rfl ?_
  refine x_as3n k_22_24 rfl ?_
  refine x_aload_n k_22_25 rfl ?_
  refine x_iconst k_22_26 ?_
  refine x_aload_n k_22_27 rfl ?_
  refine x_iconst k_22_28 ?_
  refine x_aload_n k_22_29 rfl ?_
  refine x_alen k_22_30 ((hnew_n hne).trans hs) ?_
  refine x_iload_n k_22_31 rfl ?_
  refine x_mn k_22_32 ⟨by omega, by omega, (Nat.le_of_ble_eq_true rfl)⟩ ?_
  refine x_top (show (if ((nl : Nat) : Int) < ((c : Nat) : Int) then ((nl : Nat) : Int) else ((c : Nat) : Int)) = ((c : Nat) : Int) by split <;> omega) ?_
  refine x_copyQ k_22_35 ((hnew_n hne).trans hs) hnew_s ⟨by decide, by decide, by omega, by omega, by show (0 : Int) + c ≤ ((nl : Nat) : Int); omega, (Nat.le_of_ble_eq_true rfl), hc, by show 0 < nl; omega, allC_o (allC_n ha hf) hci (by show 0 + c ≤ c; omega)⟩ ?_
  refine x_aload_n k_22_38 rfl ?_
  refine x_areturn k_22_39 ?_
  rw [hput_new]
  exact k
theorem l_copy21 {src c nl ci : Nat} {F : Nat → Option Nat} (hs : h.1 src = some (rcell c F)) (hc : 0 < c) (hcl : c ≤ nl) (hnl : nl ≤ 1048576) (hf : h.1 h.2.1 = none) (ha : allC h F ci c) (hci : ci < 8) (k : Q (.inl (some (aR h.2.1))) (hnew h (rcell nl (cpy F (fun _ => none) 0 0 c)) nl)) : Rn 21 0 (entL 21 [aR src, aI nl]) [] h Q := by
  show Rn 21 0 [some (aR src), some (aI nl)] [] h Q
  refine x_aload_n k_21_0 rfl ?_
  refine x_iload_n k_21_1 rfl ?_
  refine x_aload_n k_21_2 rfl ?_
  refine x_getC k_21_3 hs ⟨(Nat.le_of_ble_eq_true rfl), hc⟩ ?_
  refine x_call3 k_21_6 (Nat.le_of_ble_eq_true rfl) rfl (Nat.le_of_ble_eq_true rfl) ?_
  refine l_copy22 hs hc hcl hnl hf ha hci (bh_1 ?_)
  refine x_areturn k_21_9 ?_
  exact k
theorem l_grow19 {c ci n : Nat} {F : Nat → Option Nat} (hL : h.1 lo = some (lcell d n m)) (hd : h.1 d = some (rcell c F)) (hnc : n = c) (hc5 : c < 500000) (hcc : c = 0 ∨ 10 ≤ c) (hcd : c = 0 → d = h.2.2.2.1) (hf : h.1 h.2.1 = none) (ha : allC h F ci c) (hci : ci < 8) (k : Q (.inl (some (aR h.2.1))) (hput (hnew h (rcell (ncap c) (cpy F (fun _ => none) 0 0 c)) (ncap c)) lo (lcell h.2.1 n m))) : Rn 19 0 (entL 19 [aR lo, aI ((n : Int) + 1)]) [] h Q := by
  show Rn 19 0 [some (aR lo), some (aI ((n : Int) + 1)), none, none] [] h Q
  subst hnc
  have hlo : lo ≠ h.2.1 := fun q => by rw [q, hf] at hL; cases hL
  refine x_aload_n k_19_0 rfl ?_
  refine x_get k_19_1 hL rfl ?_
  refine x_alen k_19_4 hd ?_
  refine x_is2n k_19_5 rfl ?_
  refine x_iload_n k_19_6 rfl ?_
  refine x_ifgt (t := 20) k_19_7 rfl (by omega) (fun hb => ?_) (fun hb => ?_)
  · have hb : (0 : Int) < n := hb
    refine x_iload_n k_19_20 rfl ?_
    refine x_iload_n k_19_21 rfl ?_
    refine x_iload_n k_19_22 rfl ?_
    refine x_isub k_19_23 ?_
    refine x_top (show ((n : Int) + 1) - (n : Int) = 1 by omega) ?_
    refine x_iload_n k_19_24 rfl ?_
    refine x_iconst k_19_25 ?_
    refine x_ishr k_19_26 ?_
    refine x_top (shr_1 (by omega) (by omega)) ?_
    refine x_call3 k_19_27 (Nat.le_of_ble_eq_true rfl) rfl (Nat.le_of_ble_eq_true rfl) ?_
    refine l_newlen (by omega) (by omega) (by omega) (by omega) (bh_1 ?_)
    refine x_top (show (n : Int) + (n : Int) / 2 = ((ncap n : Nat) : Int) by unfold ncap; rw [if_neg (by omega)]; omega) ?_
    refine x_is3n k_19_30 rfl ?_
    refine x_aload_n k_19_31 rfl ?_
    refine x_aload_n k_19_32 rfl ?_
    refine x_get k_19_33 hL rfl ?_
    refine x_iload_n k_19_36 rfl ?_
    refine x_call2 k_19_37 (Nat.le_of_ble_eq_true rfl) rfl (Nat.le_of_ble_eq_true rfl) ?_
    refine l_copy21 hd (by omega) (by unfold ncap; rw [if_neg (by omega)]; omega) (by unfold ncap; rw [if_neg (by omega)]; omega) hf ha hci (bh_1 ?_)
    refine x_dup_x1 k_19_40 rfl ?_
    refine x_put k_19_41 ((hnew_n hlo).trans hL) (Nat.le_of_ble_eq_true rfl) rfl ?_
    refine x_areturn k_19_44 ?_
    exact k
  · have hb : ¬ (0 : Int) < n := hb
    have h0 : n = 0 := by omega
    subst h0
    have hdd := hcd rfl
    refine x_aload_n k_19_10 rfl ?_
    refine x_get k_19_11 hL rfl ?_
    refine x_gets k_19_14 ?_
    refine x_acmpeq (t := 45) k_19_17 rfl (fun hb => ?_) (fun hb => absurd (congrArg some hdd) hb)
    refine x_aload_n k_19_45 rfl ?_
    refine x_bipush k_19_46 ?_
    refine x_iload_n k_19_48 rfl ?_
    refine x_mx k_19_49 ⟨by decide, by decide, (Nat.le_of_ble_eq_true rfl)⟩ ?_
    refine x_top (show (if (10 : Int) < ((0 : Nat) : Int) + 1 then ((0 : Nat) : Int) + 1 else 10) = 10 by decide) ?_
    refine x_anew k_19_52 (by decide) ?_
    refine x_dup_x1 k_19_55 rfl ?_
    refine x_put k_19_56 ((hnew_n hlo).trans hL) (Nat.le_of_ble_eq_true rfl) rfl ?_
    refine x_areturn k_19_59 ?_
    have e : cpy F (fun _ => none) 0 0 0 = (fun _ => none) := by
      funext x
      unfold cpy
      rw [if_neg (by omega)]
    rw [e] at k
    exact k
theorem l_grow18 {c ci n : Nat} {F : Nat → Option Nat} (hL : h.1 lo = some (lcell d n m)) (hd : h.1 d = some (rcell c F)) (hnc : n = c) (hc5 : c < 500000) (hcc : c = 0 ∨ 10 ≤ c) (hcd : c = 0 → d = h.2.2.2.1) (hf : h.1 h.2.1 = none) (ha : allC h F ci c) (hci : ci < 8) (k : Q (.inl (some (aR h.2.1))) (hput (hnew h (rcell (ncap c) (cpy F (fun _ => none) 0 0 c)) (ncap c)) lo (lcell h.2.1 n m))) : Rn 18 0 (entL 18 [aR lo]) [] h Q := by
  show Rn 18 0 [some (aR lo)] [] h Q
  refine x_aload_n k_18_0 rfl ?_
  refine x_aload_n k_18_1 rfl ?_
  refine x_get k_18_2 hL rfl ?_
  refine x_iconst k_18_5 ?_
  refine x_iadd k_18_6 ?_
  refine x_call2 k_18_7 (Nat.le_of_ble_eq_true rfl) (rcv_1 hL) (Nat.le_of_ble_eq_true rfl) ?_
  refine l_grow19 hL hd hnc hc5 hcc hcd hf ha hci (bh_1 ?_)
  refine x_areturn k_18_10 ?_
  exact k
def ADD (h : AH) (lo d n c : Nat) (m : Int) (F : Nat → Option Nat) (e : Nat) (h' : AH) (d' c' : Nat) (F' : Nat → Option Nat) : Prop := h'.1 lo = some (lcell d' ((n : Int) + 1) m) ∧ h'.1 d' = some (rcell c' F') ∧ (∀ j, j < n → F' j = F j) ∧ F' n = some e ∧ (∀ x, x ≠ lo → x ≠ d' → h'.1 x = h.1 x) ∧ ((n < c ∧ d' = d ∧ c' = c ∧ h'.2 = h.2) ∨ (n = c ∧ d' = h.2.1 ∧ c' = ncap c ∧ h'.2.1 = h.2.1 + 1 ∧ h'.2.2.1 = h.2.2.1 + ncap c ∧ h'.2.2.2 = h.2.2.2))
theorem may_e {e ce : Nat} {fe : List AV} (he : h.1 e = some (.inr (ce, fe))) (hce : ce < 8) : o_may 4 (some e) h = true := by
  unfold o_may
  simp [he, hce]
theorem l_add17 {c ci n e ce : Nat} {fe : List AV} {F : Nat → Option Nat} (hL : h.1 lo = some (lcell d n m)) (hd : h.1 d = some (rcell c F)) (hnc : n ≤ c) (hc5 : c < 500000) (hcc : c = 0 ∨ 10 ≤ c) (hcd : c = 0 → d = h.2.2.2.1) (hf : h.1 h.2.1 = none) (ha : allC h F ci n) (hci : ci < 8) (he : h.1 e = some (.inr (ce, fe))) (hce : ce < 8) (k : ∀ h' d' c' F', ADD h lo d n c m F e h' d' c' F' → Q (.inl none) h') : Rn 17 0 (entL 17 [aR lo, aR e, aR d, aI n]) [] h Q := by
  show Rn 17 0 [some (aR lo), some (aR e), some (aR d), some (aI n)] [] h Q
  have hlo : lo ≠ h.2.1 := fun q => by rw [q, hf] at hL; cases hL
  have hdl : d ≠ lo := fun q => by rw [q, hL] at hd; cases hd
  have hel : e ≠ h.2.1 := fun q => by rw [q, hf] at he; cases he
  refine x_iload_n k_17_0 rfl ?_
  refine x_aload_n k_17_1 rfl ?_
  refine x_alen k_17_2 hd ?_
  refine x_icmpne (t := 11) k_17_3 rfl (by omega) (fun hb => ?_) (fun hb => ?_)
  · have hb : ¬ (n : Int) = c := hb
    refine x_aload_n k_17_11 rfl ?_
    refine x_iload_n k_17_12 rfl ?_
    refine x_aload_n k_17_13 rfl ?_
    refine x_aastore k_17_14 hd (Or.inr rfl) (by omega) (by omega) (may_e he hce) ?_
    refine x_aload_n k_17_15 rfl ?_
    refine x_iload_n k_17_16 rfl ?_
    refine x_iconst k_17_17 ?_
    refine x_iadd k_17_18 ?_
    refine x_put k_17_19 ((hput_n hdl.symm).trans hL) (Nat.le_of_ble_eq_true rfl) rfl ?_
    refine x_return k_17_22 ?_
    refine k _ d c (up F n (some e)) ⟨hput_s, (hput_n hdl).trans hput_s, fun j hj => up_n (by omega), up_s, fun x h1 h2 => (hput_n h1).trans (hput_n h2), Or.inl ⟨by omega, rfl, rfl, rfl⟩⟩
  · have hb : n = c := by have hb : ¬ ¬ (n : Int) = c := hb; omega
    refine x_aload_n k_17_6 rfl ?_
    refine x_call1 k_17_7 (Nat.le_of_ble_eq_true rfl) (rcv_1 hL) (Nat.le_of_ble_eq_true rfl) ?_
    refine l_grow18 hL hd hb hc5 hcc hcd hf (hb ▸ ha) hci (bh_1 ?_)
    have hcap : n < ncap c := by unfold ncap; split <;> omega
    refine x_as2n k_17_10 rfl ?_
    refine x_aload_n k_17_11 rfl ?_
    refine x_iload_n k_17_12 rfl ?_
    refine x_aload_n k_17_13 rfl ?_
    have hel2 : e ≠ lo := fun q => by rw [q, hL] at he; cases he; exact absurd hce (by decide)
    refine x_aastore k_17_14 ((hput_n hlo.symm).trans hnew_s) (Or.inr rfl) (by omega) (by omega) (may_e ((hput_n hel2).trans ((hnew_n hel).trans he)) hce) ?_
    refine x_aload_n k_17_15 rfl ?_
    refine x_iload_n k_17_16 rfl ?_
    refine x_iconst k_17_17 ?_
    refine x_iadd k_17_18 ?_
    refine x_put k_17_19 ((hput_n hlo).trans hput_s) (Nat.le_of_ble_eq_true rfl) rfl ?_
    refine x_return k_17_22 ?_
    refine k _ h.2.1 (ncap c) (up (cpy F (fun _ => none) 0 0 c) n (some e)) ⟨hput_s, (hput_n hlo.symm).trans hput_s, fun j hj => (up_n (by omega)).trans ?_, up_s, fun x h1 h2 => (hput_n h1).trans ((hput_n h2).trans ((hput_n h1).trans (hnew_n h2))), Or.inr ⟨hb, rfl, rfl, rfl, rfl, rfl⟩⟩
    unfold cpy
    rw [if_pos ⟨by omega, by omega⟩, show 0 + (j - 0) = j by omega]
theorem l_add {c ci n e ce : Nat} {fe : List AV} {F : Nat → Option Nat} (hL : h.1 lo = some (lcell d n m)) (hd : h.1 d = some (rcell c F)) (hnc : n ≤ c) (hc5 : c < 500000) (hcc : c = 0 ∨ 10 ≤ c) (hcd : c = 0 → d = h.2.2.2.1) (hf : h.1 h.2.1 = none) (ha : allC h F ci n) (hci : ci < 8) (he : h.1 e = some (.inr (ce, fe))) (hce : ce < 8) (k : ∀ h' d' c' F', ADD h lo d n c (m + 1) F e h' d' c' F' → Q (.inl (some (aI 1))) h') : Rn 16 0 (entL 16 [aR lo, aR e]) [] h Q := by
  show Rn 16 0 [some (aR lo), some (aR e)] [] h Q
  have hdl : d ≠ lo := fun q => by rw [q, hL] at hd; cases hd
  have hlo : lo ≠ h.2.1 := fun q => by rw [q, hf] at hL; cases hL
  have hel2 : e ≠ lo := fun q => by rw [q, hL] at he; cases he; exact absurd hce (by decide)
  refine x_aload_n k_16_0 rfl ?_
  refine x_dup k_16_1 rfl ?_
  refine x_get k_16_2 hL rfl ?_
  refine x_iconst k_16_5 ?_
  refine x_iadd k_16_6 ?_
  refine x_put k_16_7 hL (Nat.le_of_ble_eq_true rfl) rfl ?_
  have hL1 : (hput h lo (lcell d n (m + 1))).1 lo = some (lcell d n (m + 1)) := hput_s
  refine x_aload_n k_16_10 rfl ?_
  refine x_aload_n k_16_11 rfl ?_
  refine x_aload_n k_16_12 rfl ?_
  refine x_get k_16_13 hL1 rfl ?_
  refine x_aload_n k_16_16 rfl ?_
  refine x_get k_16_17 hL1 rfl ?_
  refine x_call4 k_16_20 (Nat.le_of_ble_eq_true rfl) (rcv_1 hL1) (Nat.le_of_ble_eq_true rfl) ?_
  refine l_add17 hL1 ((hput_n hdl).trans hd) hnc hc5 hcc hcd ((hput_n hlo.symm).trans hf) (allC_p ha hL (fun fs q => by unfold lcell at q; cases q; exact absurd hci (by decide))) hci ((hput_n hel2).trans he) hce (fun h' d' c' F' q => bh_v ?_)
  refine x_iconst k_16_23 ?_
  refine x_zreturn k_16_24 rfl (Or.inr rfl) ?_
  obtain ⟨q1, q2, q3, q4, q5, q6⟩ := q
  exact k h' d' c' F' ⟨q1, q2, q3, q4, fun x h1 h2 => (q5 x h1 h2).trans (hput_n h1), q6⟩
end
end LS0
