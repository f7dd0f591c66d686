section C16
variable {ad : AD} {ow : OW} {K : KK} {h : AH} {C : Nat → Int} {A I : Nat → Nat → Int} {F : Nat → Nat → Nat → Int} {Ls : Nat → List Nat} {cp : Nat → Nat} {Q : AR → AH → Prop}
/-- what count(x) tells -/
def cnK (C : Nat → Int) (Ls : Nat → List Nat) (x : Int) : Int := if x = 0 then C 1 else if x = 1 then C 2 else if x = 2 then C 3 else if x = 3 then C 6 else if x = 4 then lsm Ls 2 (C 1).toNat else if x = 5 then lsm Ls 3 (C 1).toNat else -1
theorem k_count (w : WD ad ow K h) (g : CI ad K h.2.2.2.1 C A I F Ls cp) (b : RB C A) {x : Int} (hx : inR x) (k : Q (.inl (some (aI (cnK C Ls x)))) h) : Rn 5 0 (entL 5 [aR (ad 0 0), aI x]) [] h Q := by
  show Rn 5 0 [some (aR (ad 0 0)), some (aI x)] [] h Q
  have b1 := b.c1
  have b2 := b.c2
  have b3 := b.c3
  obtain ⟨R, hR, hR2⟩ := g.row
  have v0 := g.ls (id := 0) (Or.inl rfl)
  have v1 := g.ls (id := 1) (Or.inr (Or.inl rfl))
  obtain ⟨e0, v08⟩ := v0.obj
  obtain ⟨e1, v18⟩ := v1.obj
  have hl0 : (Ls 0).length = (C 2).toNat := by rw [g.ls0, List.length_range]
  have hl1 : (Ls 1).length = (C 3).toNat := by rw [g.ls1, List.length_range]
  refine x_iload_n k_5_0 rfl ?_
  by_cases x0 : x = 0
  · refine x_tabIn (o := 39) (t := 40) k_5_1 hx (by omega) (by subst x0; rfl) rfl ?_
    refine x_aload_n k_5_40 rfl ?_
    refine x_get k_5_41 (w.at g.store) rfl ?_
    refine x_alen k_5_44 (w.at hR) ?_
    refine x_top (show ((C 1).toNat : Int) = C 1 from (by omega)) ?_
    refine x_ireturn k_5_45 rfl ?_
    unfold cnK at k
    rw [if_pos (by omega)] at k
    exact k
  by_cases x1 : x = 1
  · refine x_tabIn (o := 45) (t := 46) k_5_1 hx (by omega) (by subst x1; rfl) rfl ?_
    refine x_aload_n k_5_46 rfl ?_
    refine x_get k_5_47 (w.at g.store) rfl ?_
    refine x_call1 k_5_50 (Nat.le_of_ble_eq_true rfl) (rcv_1 (w.at v08)) (Nat.le_of_ble_eq_true rfl) ?_
    refine c_size w v0 (bh_1 ?_)
    refine x_top (show ((Ls 0).length : Int) = C 2 from (by rw [hl0]; omega)) ?_
    refine x_ireturn k_5_53 rfl ?_
    unfold cnK at k
    rw [if_neg (by omega), if_pos (by omega)] at k
    exact k
  by_cases x2 : x = 2
  · refine x_tabIn (o := 53) (t := 54) k_5_1 hx (by omega) (by subst x2; rfl) rfl ?_
    refine x_aload_n k_5_54 rfl ?_
    refine x_get k_5_55 (w.at g.store) rfl ?_
    refine x_call1 k_5_58 (Nat.le_of_ble_eq_true rfl) (rcv_1 (w.at v18)) (Nat.le_of_ble_eq_true rfl) ?_
    refine c_size w v1 (bh_1 ?_)
    refine x_top (show ((Ls 1).length : Int) = C 3 from (by rw [hl1]; omega)) ?_
    refine x_ireturn k_5_61 rfl ?_
    unfold cnK at k
    rw [if_neg (by omega), if_neg (by omega), if_pos (by omega)] at k
    exact k
  by_cases x3 : x = 3
  · refine x_tabIn (o := 61) (t := 62) k_5_1 hx (by omega) (by subst x3; rfl) rfl ?_
    refine x_aload_n k_5_62 rfl ?_
    refine x_get k_5_63 (w.at g.store) rfl ?_
    refine x_ireturn k_5_66 rfl ?_
    unfold cnK at k
    rw [if_neg (by omega), if_neg (by omega), if_neg (by omega), if_pos (by omega)] at k
    exact k
  by_cases x4 : x = 4
  · refine x_tabIn (o := 66) (t := 67) k_5_1 hx (by omega) (by subst x4; rfl) rfl ?_
    refine x_aload_n k_5_67 rfl ?_
    refine x_call1 k_5_68 (Nat.le_of_ble_eq_true rfl) (rcv_1 (w.at g.store)) (Nat.le_of_ble_eq_true rfl) ?_
    refine k_held w g b (bh_1 ?_)
    refine x_ireturn k_5_71 rfl ?_
    unfold cnK at k
    rw [if_neg (by omega), if_neg (by omega), if_neg (by omega), if_neg (by omega), if_pos (by omega)] at k
    exact k
  by_cases x5 : x = 5
  · refine x_tabIn (o := 71) (t := 72) k_5_1 hx (by omega) (by subst x5; rfl) rfl ?_
    refine x_aload_n k_5_72 rfl ?_
    refine x_call1 k_5_73 (Nat.le_of_ble_eq_true rfl) (rcv_1 (w.at g.store)) (Nat.le_of_ble_eq_true rfl) ?_
    refine k_waits w g b (bh_1 ?_)
    refine x_ireturn k_5_76 rfl ?_
    unfold cnK at k
    rw [if_neg (by omega), if_neg (by omega), if_neg (by omega), if_neg (by omega), if_neg (by omega), if_pos (by omega)] at k
    exact k
  refine x_tabOut (t := 77) k_5_1 hx (by omega) rfl ?_
  refine x_iconst k_5_77 ?_
  refine x_ireturn k_5_78 rfl ?_
  unfold cnK at k
  rw [if_neg (by omega), if_neg (by omega), if_neg (by omega), if_neg (by omega), if_neg (by omega), if_neg (by omega)] at k
  exact k
end C16
