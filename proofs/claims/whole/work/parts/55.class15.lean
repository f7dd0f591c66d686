section C15
variable {ad : AD} {ow : OW} {K : KK} {h : AH} {C : Nat → Int} {A I : Nat → Nat → Int} {F : Nat → Nat → Nat → Int} {Ls : Nat → List Nat} {cp : Nat → Nat} {Q : AR → AH → Prop}
/-- what state(t, x) tells -/
def stK (C : Nat → Int) (A I : Nat → Nat → Int) (t : Nat) (x : Int) : Int := if x = 0 then A 4 t else if x = 1 then A 5 t else if x = 2 then apn A t (C 1).toNat else (if A 4 t = 3 then I 0 t else 0)
theorem stK_0 {t : Nat} {x : Int} (h : x = 0) : stK C A I t x = A 4 t := by unfold stK; rw [if_pos h]
theorem stK_1 {t : Nat} {x : Int} (h : x = 1) : stK C A I t x = A 5 t := by unfold stK; rw [if_neg (by omega), if_pos h]
theorem stK_2 {t : Nat} {x : Int} (h : x = 2) : stK C A I t x = apn A t (C 1).toNat := by unfold stK; rw [if_neg (by omega), if_neg (by omega), if_pos h]
theorem stK_3 {t : Nat} {x : Int} (h : x = 3) : stK C A I t x = if A 4 t = 3 then I 0 t else 0 := by unfold stK; rw [if_neg (by omega), if_neg (by omega), if_neg (by omega)]
theorem k_state (w : WD ad ow K h) (g : CI ad K h.2.2.2.1 C A I F Ls cp) (b : RB C A) {t x : Int} (ht : inR t) (hx : inR x) (k1 : (0 ≤ t ∧ t < C 3) → (0 ≤ x ∧ x ≤ 3) → Q (.inl (some (aI (stK C A I t.toNat x)))) h) (k2 : (¬ (0 ≤ t ∧ t < C 3) ∨ x < 0 ∨ 3 < x) → Q (.inr (10, h.2.1)) (hex h 10)) : Rn 97 0 (entL 97 [aR (ad 0 0), aI t, aI x]) [] h Q := by
  show Rn 97 0 [some (aR (ad 0 0)), some (aI t), some (aI x), none] [] h Q
  refine x_aload_n k_97_0 rfl ?_
  refine x_iload_n k_97_1 rfl ?_
  refine x_call2 k_97_2 (Nat.le_of_ble_eq_true rfl) (rcv_1 (w.at g.store)) (Nat.le_of_ble_eq_true rfl) ?_
  refine k_transactionOf w g b ht (fun h1 => bh_1 ?_) (fun h1 => bh_o rfl (k2 (Or.inl h1)))
  refine x_as3n k_97_5 rfl ?_
  refine x_iload_n k_97_6 rfl ?_
  by_cases x0 : x = 0
  · refine x_tabIn (o := 29) (t := 36) k_97_7 hx (by omega) (by subst x0; rfl) rfl ?_
    refine x_aload_n k_97_36 rfl ?_
    refine x_get k_97_37 (w.at (g.tran (by omega))) rfl ?_
    have f37 := b.v4 (t.toNat)
    refine x_ireturn k_97_40 rfl ?_
    rw [stK_0 x0] at k1
    exact k1 h1 (by omega)
  by_cases x1 : x = 1
  · refine x_tabIn (o := 34) (t := 41) k_97_7 hx (by omega) (by subst x1; rfl) rfl ?_
    refine x_aload_n k_97_41 rfl ?_
    refine x_get k_97_42 (w.at (g.tran (by omega))) rfl ?_
    have f42 := b.v5 (t.toNat)
    refine x_ireturn k_97_45 rfl ?_
    rw [stK_1 x1] at k1
    exact k1 h1 (by omega)
  by_cases x2 : x = 2
  · refine x_tabIn (o := 39) (t := 46) k_97_7 hx (by omega) (by subst x2; rfl) rfl ?_
    refine x_aload_n k_97_46 rfl ?_
    refine x_aload_n k_97_47 rfl ?_
    refine x_call2 k_97_48 (Nat.le_of_ble_eq_true rfl) (rcv_1 (w.at g.store)) (Nat.le_of_ble_eq_true rfl) ?_
    refine k_sitesApplied w g b (t := t.toNat) (by omega) (bh_1 ?_)
    refine x_ireturn k_97_51 rfl ?_
    rw [stK_2 x2] at k1
    exact k1 h1 (by omega)
  by_cases x3 : x = 3
  · refine x_tabIn (o := 45) (t := 52) k_97_7 hx (by omega) (by subst x3; rfl) rfl ?_
    refine x_aload_n k_97_52 rfl ?_
    refine x_get k_97_53 (w.at (g.tran (by omega))) rfl ?_
    have f53 := b.v4 (t.toNat)
    refine x_iconst k_97_56 ?_
    refine x_icmpne (t := 67) k_97_57 rfl (by show inR (A 4 (t.toNat)) ∧ inR (3); omega) (fun hb => ?_) (fun hb => ?_)
    · have c57 : ¬ A 4 (t.toNat) = 3 := hb
      refine x_iconst k_97_67 ?_
      refine x_ireturn k_97_68 rfl ?_
      rw [stK_3 x3, if_neg c57] at k1
      exact k1 h1 (by omega)
    · have c57 : ¬ (¬ A 4 (t.toNat) = 3) := hb
      refine x_aload_n k_97_60 rfl ?_
      refine x_get k_97_61 (w.at (g.tran (by omega))) rfl ?_
      refine x_goto (t := 68) k_97_64 rfl ?_
      refine x_ireturn k_97_68 rfl ?_
      rw [stK_3 x3, if_pos (Decidable.not_not.mp c57)] at k1
      exact k1 h1 (by omega)
  refine x_tabOut (t := 69) k_97_7 hx (by omega) rfl ?_
  refine x_throw k_97_69 (Nat.le_of_ble_eq_true rfl) ?_
  exact k2 (by omega)
end C15
