section C19
variable {ad : AD} {ow : OW} {K : KK} {h : AH} {C : Nat → Int} {A I : Nat → Nat → Int} {F : Nat → Nat → Nat → Int} {Ls : Nat → List Nat} {cp : Nat → Nat} {Q : AR → AH → Prop}
theorem lp_valueOf (w : WD ad ow K h) (g : CI ad K h.2.2.2.1 C A I F Ls cp) (b : RB C A) (lt : LT C A Ls) {t o : Nat} (ht : t < (C 3).toNat) (ho : o < (C 2).toNat) (k2 : ∀ j x : Nat, (Ls (20 + 2 * o))[j]? = some x → visB A (A 9 x).toNat t = true → (∀ q y : Nat, j < q → (Ls (20 + 2 * o))[q]? = some y → visB A (A 9 y).toNat t = false) → Q (.inl (some (aL (I 1 x)))) h) (k3 : (∀ y, y ∈ Ls (20 + 2 * o) → visB A (A 9 y).toNat t = false) → Q (.inl (some (aL 0))) h) : ∀ j : Nat, j ≤ (Ls (20 + 2 * o)).length → (∀ q y : Nat, j ≤ q → (Ls (20 + 2 * o))[q]? = some y → visB A (A 9 y).toNat t = false) → ∀ z : Option AV, Rn 36 25 [some (aR (ad 4 t)), some (aR (ad 3 o)), some aN, some (aI (((j : Int) - 1))), z] [] h Q := by
  have v := g.iw ho
  obtain ⟨e8, v8⟩ := v.obj
  have vl := v.len
  intro j
  induction j using Nat.strongRecOn with | ind j ih => ?_
  intro hj hq z
  refine x_iload_n k_36_25 rfl ?_
  refine x_iflt (t := 66) k_36_26 rfl (by show inR (((j : Int) - 1)); omega) (fun hb => ?_) (fun hb => ?_)
  · have c26 : ((j : Int) - 1) < 0 := hb
    refine x_lconst k_36_66 ?_
    refine x_lreturn k_36_67 ?_
    refine k3 (fun y hy => ?_)
    obtain ⟨q, h3⟩ := List.mem_iff_getElem?.mp hy
    exact hq q y (by omega) h3
  · have c26 : ¬ (((j : Int) - 1) < 0) := hb
    obtain ⟨x, hx, hm⟩ := at_l (l := Ls (20 + 2 * o)) (j := j - 1) (by omega)
    have hT := lt.2.2.1 o x ho hm
    refine x_aload_n k_36_29 rfl ?_
    refine x_get k_36_30 (w.at (g.item (by omega))) rfl ?_
    refine x_iload_n k_36_33 rfl ?_
    refine x_top (show ((j : Int) - 1) = ((j - 1 : Nat) : Int) by omega) ?_
    refine x_call2 k_36_34 (Nat.le_of_ble_eq_true rfl) (rcv_1 (w.at v8)) (Nat.le_of_ble_eq_true rfl) ?_
    refine c_get w v hx (bh_1 ?_)
    refine x_cast k_36_37 (w.at (g.wr hT.1 hT.2)) ?_
    refine x_as4 k_36_40 rfl ?_
    refine x_aload_n k_36_42 rfl ?_
    refine x_aload k_36_43 rfl ?_
    refine x_get k_36_45 (w.at (g.wr hT.1 hT.2)) rfl ?_
    refine x_call2 k_36_48 (Nat.le_of_ble_eq_true rfl) (rcv_1 (w.at (g.tran (by omega)))) (Nat.le_of_ble_eq_true rfl) ?_
    refine k_sees w g b hT.1 ht (bh_1 ?_)
    refine x_ifeq_b (t := 60) k_36_51 rfl (fun c51 => ?_) (fun c51 => ?_)
    · refine x_inc3 k_36_60 rfl ?_
      refine x_goto (t := 25) k_36_63 rfl ?_
      have z := ih (j - 1) (by omega) (by omega) (fun q y hq1 hy => by
        rcases Nat.lt_or_ge (j - 1) q with r | r
        · exact hq q y (by omega) hy
        · rw [show q = j - 1 by omega, hx] at hy
          cases hy
          exact c51) (some (aR (ad 5 x)))
      rw [show (((j - 1 : Nat) : Int) - 1) = ((j : Int) - 1) + -1 by omega] at z
      exact z
    · refine x_aload k_36_54 rfl ?_
      refine x_get k_36_56 (w.at (g.wr hT.1 hT.2)) rfl ?_
      refine x_lreturn k_36_59 ?_
      exact k2 (j - 1) x hx c51 (fun q y h1 h2 => hq q y (by omega) h2)
theorem k_valueOf (w : WD ad ow K h) (g : CI ad K h.2.2.2.1 C A I F Ls cp) (b : RB C A) (lt : LT C A Ls) {t o : Nat} (ht : t < (C 3).toNat) (ho : o < (C 2).toNat) (k1 : ∀ x, x ∈ Ls (500 + 2 * t) → (A 10 x).toNat = o → Q (.inl (some (aL (I 1 x)))) h) (k2 : (¬ ∃ x, x ∈ Ls (500 + 2 * t) ∧ (fun k => (A 10 k).toNat = o) x) → ∀ j x : Nat, (Ls (20 + 2 * o))[j]? = some x → visB A (A 9 x).toNat t = true → (∀ q y : Nat, j < q → (Ls (20 + 2 * o))[q]? = some y → visB A (A 9 y).toNat t = false) → Q (.inl (some (aL (I 1 x)))) h) (k3 : (¬ ∃ x, x ∈ Ls (500 + 2 * t) ∧ (fun k => (A 10 k).toNat = o) x) → (∀ y, y ∈ Ls (20 + 2 * o) → visB A (A 9 y).toNat t = false) → Q (.inl (some (aL 0))) h) : Rn 36 0 (entL 36 [aR (ad 4 t), aR (ad 3 o)]) [] h Q := by
  show Rn 36 0 [some (aR (ad 4 t)), some (aR (ad 3 o)), none, none, none] [] h Q
  have v := g.iw ho
  obtain ⟨e8, v8⟩ := v.obj
  refine x_aload_n k_36_0 rfl ?_
  refine x_aload_n k_36_1 rfl ?_
  refine x_call2 k_36_2 (Nat.le_of_ble_eq_true rfl) (rcv_1 (w.at (g.tran ht))) (Nat.le_of_ble_eq_true rfl) ?_
  refine k_ownWrite w g b lt ht ho (fun x hm he => bh_1 ?_) (fun hn => bh_1 ?_)
  · refine x_as2n k_36_5 rfl ?_
    refine x_aload_n k_36_6 rfl ?_
    refine x_ifnull_s (t := 15) k_36_7 rfl ?_
    refine x_aload_n k_36_10 rfl ?_
    refine x_get k_36_11 (w.at (g.wr ht hm)) rfl ?_
    refine x_lreturn k_36_14 ?_
    exact k1 x hm he
  · refine x_as2n k_36_5 rfl ?_
    refine x_aload_n k_36_6 rfl ?_
    refine x_ifnull_n (t := 15) k_36_7 rfl ?_
    refine x_aload_n k_36_15 rfl ?_
    refine x_get k_36_16 (w.at (g.item (by omega))) rfl ?_
    refine x_call1 k_36_19 (Nat.le_of_ble_eq_true rfl) (rcv_1 (w.at v8)) (Nat.le_of_ble_eq_true rfl) ?_
    refine c_size w v (bh_1 ?_)
    refine x_iconst k_36_22 ?_
    refine x_isub k_36_23 ?_
    refine x_is3n k_36_24 rfl ?_
    exact lp_valueOf w g b lt ht ho (k2 hn) (k3 hn) (Ls (20 + 2 * o)).length (Nat.le_refl _) (fun q y h1 h2 => by rw [List.getElem?_eq_none h1] at h2; cases h2) _
end C19
