section C20
variable {ad : AD} {ow : OW} {K : KK} {h : AH} {C : Nat → Int} {A I : Nat → Nat → Int} {F : Nat → Nat → Nat → Int} {Ls : Nat → List Nat} {cp : Nat → Nat} {Q : AR → AH → Prop}
theorem hd_27 (w : WD ad ow K h) (g : CI ad K h.2.2.2.1 C A I F Ls cp) (b : RB C A) {t o : Int}  (ht : inR t) (ho : inR o) (e1 : badP C A t o false → Q (.inr (10, h.2.1)) (hex h 10)) (e2 : ¬ badP C A t o false → refP C A t → Q (.inr (11, h.2.1)) (hex h 11)) (k : ¬ badP C A t o false → ¬ refP C A t → Rn 27 18 [some (aR (ad 0 0)), some (aI (t)), some (aI (o)), some (aR (ad 4 (t.toNat))), some (aR (ad 3 (o.toNat)))] [] h Q) : Rn 27 0 [some (aR (ad 0 0)), some (aI (t)), some (aI (o)), none, none] [] h Q := by
  refine x_aload_n k_27_0 rfl ?_
  refine x_iload_n k_27_1 rfl ?_
  refine x_call2 k_27_2 (Nat.le_of_ble_eq_true rfl) (rcv_1 (w.at g.store)) (Nat.le_of_ble_eq_true rfl) ?_
  refine k_transactionOf w g b ht (fun h1 => bh_1 ?_) (fun h1 => bh_o rfl (e1 (Or.inl h1)))
  refine x_as3n k_27_5 rfl ?_
  refine x_aload_n k_27_6 rfl ?_
  refine x_iload_n k_27_7 rfl ?_
  refine x_call2 k_27_8 (Nat.le_of_ble_eq_true rfl) (rcv_1 (w.at g.store)) (Nat.le_of_ble_eq_true rfl) ?_
  refine k_plainItem w g b ho (fun h2 h3 => bh_1 ?_) (fun h2 => bh_o rfl (e1 (Or.inr h2)))
  refine x_as4 k_27_11 rfl ?_
  refine x_aload_n k_27_13 rfl ?_
  refine x_aload_n k_27_14 rfl ?_
  refine x_call2 k_27_15 (Nat.le_of_ble_eq_true rfl) (rcv_1 (w.at g.store)) (Nat.le_of_ble_eq_true rfl) ?_
  refine k_needOpen w g b (t := t.toNat) (by omega) (fun h4 => bh_v ?_) (fun h4 => bh_o rfl (e2 (by unfold badP; omega) ⟨h1, h4⟩))
  exact k (by unfold badP; omega) (fun q => q.2 h4)
theorem hd_40 (w : WD ad ow K h) (g : CI ad K h.2.2.2.1 C A I F Ls cp) (b : RB C A) {t o : Int} {v : Int} (ht : inR t) (ho : inR o) (e1 : badP C A t o false → Q (.inr (10, h.2.1)) (hex h 10)) (e2 : ¬ badP C A t o false → refP C A t → Q (.inr (11, h.2.1)) (hex h 11)) (k : ¬ badP C A t o false → ¬ refP C A t → Rn 40 20 [some (aR (ad 0 0)), some (aI (t)), some (aI (o)), some (aL (v)), none, some (aR (ad 4 (t.toNat))), some (aR (ad 3 (o.toNat)))] [] h Q) : Rn 40 0 [some (aR (ad 0 0)), some (aI (t)), some (aI (o)), some (aL (v)), none, none, none] [] h Q := by
  refine x_aload_n k_40_0 rfl ?_
  refine x_iload_n k_40_1 rfl ?_
  refine x_call2 k_40_2 (Nat.le_of_ble_eq_true rfl) (rcv_1 (w.at g.store)) (Nat.le_of_ble_eq_true rfl) ?_
  refine k_transactionOf w g b ht (fun h1 => bh_1 ?_) (fun h1 => bh_o rfl (e1 (Or.inl h1)))
  refine x_as5 k_40_5 rfl ?_
  refine x_aload_n k_40_7 rfl ?_
  refine x_iload_n k_40_8 rfl ?_
  refine x_call2 k_40_9 (Nat.le_of_ble_eq_true rfl) (rcv_1 (w.at g.store)) (Nat.le_of_ble_eq_true rfl) ?_
  refine k_plainItem w g b ho (fun h2 h3 => bh_1 ?_) (fun h2 => bh_o rfl (e1 (Or.inr h2)))
  refine x_as6 k_40_12 rfl ?_
  refine x_aload_n k_40_14 rfl ?_
  refine x_aload k_40_15 rfl ?_
  refine x_call2 k_40_17 (Nat.le_of_ble_eq_true rfl) (rcv_1 (w.at g.store)) (Nat.le_of_ble_eq_true rfl) ?_
  refine k_needOpen w g b (t := t.toNat) (by omega) (fun h4 => bh_v ?_) (fun h4 => bh_o rfl (e2 (by unfold badP; omega) ⟨h1, h4⟩))
  exact k (by unfold badP; omega) (fun q => q.2 h4)
theorem hd_44 (w : WD ad ow K h) (g : CI ad K h.2.2.2.1 C A I F Ls cp) (b : RB C A) {t o : Int} {x : Int} {y : Bool} (ht : inR t) (ho : inR o) (e1 : badP C A t o true → Q (.inr (10, h.2.1)) (hex h 10)) (e2 : ¬ badP C A t o true → refP C A t → Q (.inr (11, h.2.1)) (hex h 11)) (k : ¬ badP C A t o true → ¬ refP C A t → Rn 44 20 [some (aR (ad 0 0)), some (aI (t)), some (aI (o)), some (aI (x)), some (aI (bI (y))), some (aR (ad 4 (t.toNat))), some (aR (ad 3 (o.toNat)))] [] h Q) : Rn 44 0 [some (aR (ad 0 0)), some (aI (t)), some (aI (o)), some (aI (x)), some (aI (bI (y))), none, none] [] h Q := by
  refine x_aload_n k_44_0 rfl ?_
  refine x_iload_n k_44_1 rfl ?_
  refine x_call2 k_44_2 (Nat.le_of_ble_eq_true rfl) (rcv_1 (w.at g.store)) (Nat.le_of_ble_eq_true rfl) ?_
  refine k_transactionOf w g b ht (fun h1 => bh_1 ?_) (fun h1 => bh_o rfl (e1 (Or.inl h1)))
  refine x_as5 k_44_5 rfl ?_
  refine x_aload_n k_44_7 rfl ?_
  refine x_iload_n k_44_8 rfl ?_
  refine x_call2 k_44_9 (Nat.le_of_ble_eq_true rfl) (rcv_1 (w.at g.store)) (Nat.le_of_ble_eq_true rfl) ?_
  refine k_setItem w g b ho (fun h2 h3 => bh_1 ?_) (fun h2 => bh_o rfl (e1 (Or.inr h2)))
  refine x_as6 k_44_12 rfl ?_
  refine x_aload_n k_44_14 rfl ?_
  refine x_aload k_44_15 rfl ?_
  refine x_call2 k_44_17 (Nat.le_of_ble_eq_true rfl) (rcv_1 (w.at g.store)) (Nat.le_of_ble_eq_true rfl) ?_
  refine k_needOpen w g b (t := t.toNat) (by omega) (fun h4 => bh_v ?_) (fun h4 => bh_o rfl (e2 (by unfold badP; omega) ⟨h1, h4⟩))
  exact k (by unfold badP; omega) (fun q => q.2 h4)
theorem hd_48 (w : WD ad ow K h) (g : CI ad K h.2.2.2.1 C A I F Ls cp) (b : RB C A) {t o : Int} {x : Int} (ht : inR t) (ho : inR o) (e1 : badP C A t o true → Q (.inr (10, h.2.1)) (hex h 10)) (e2 : ¬ badP C A t o true → refP C A t → Q (.inr (11, h.2.1)) (hex h 11)) (k : ¬ badP C A t o true → ¬ refP C A t → Rn 48 20 [some (aR (ad 0 0)), some (aI (t)), some (aI (o)), some (aI (x)), some (aR (ad 4 (t.toNat))), some (aR (ad 3 (o.toNat)))] [] h Q) : Rn 48 0 [some (aR (ad 0 0)), some (aI (t)), some (aI (o)), some (aI (x)), none, none] [] h Q := by
  refine x_aload_n k_48_0 rfl ?_
  refine x_iload_n k_48_1 rfl ?_
  refine x_call2 k_48_2 (Nat.le_of_ble_eq_true rfl) (rcv_1 (w.at g.store)) (Nat.le_of_ble_eq_true rfl) ?_
  refine k_transactionOf w g b ht (fun h1 => bh_1 ?_) (fun h1 => bh_o rfl (e1 (Or.inl h1)))
  refine x_as4 k_48_5 rfl ?_
  refine x_aload_n k_48_7 rfl ?_
  refine x_iload_n k_48_8 rfl ?_
  refine x_call2 k_48_9 (Nat.le_of_ble_eq_true rfl) (rcv_1 (w.at g.store)) (Nat.le_of_ble_eq_true rfl) ?_
  refine k_setItem w g b ho (fun h2 h3 => bh_1 ?_) (fun h2 => bh_o rfl (e1 (Or.inr h2)))
  refine x_as5 k_48_12 rfl ?_
  refine x_aload_n k_48_14 rfl ?_
  refine x_aload k_48_15 rfl ?_
  refine x_call2 k_48_17 (Nat.le_of_ble_eq_true rfl) (rcv_1 (w.at g.store)) (Nat.le_of_ble_eq_true rfl) ?_
  refine k_needOpen w g b (t := t.toNat) (by omega) (fun h4 => bh_v ?_) (fun h4 => bh_o rfl (e2 (by unfold badP; omega) ⟨h1, h4⟩))
  exact k (by unfold badP; omega) (fun q => q.2 h4)
theorem hd_51 (w : WD ad ow K h) (g : CI ad K h.2.2.2.1 C A I F Ls cp) (b : RB C A) {t o : Int} {x : Int} (ht : inR t) (ho : inR o) (e1 : badP C A t o true → Q (.inr (10, h.2.1)) (hex h 10)) (e2 : ¬ badP C A t o true → refP C A t → Q (.inr (11, h.2.1)) (hex h 11)) (k : ¬ badP C A t o true → ¬ refP C A t → Rn 51 20 [some (aR (ad 0 0)), some (aI (t)), some (aI (o)), some (aI (x)), some (aR (ad 4 (t.toNat))), some (aR (ad 3 (o.toNat))), none] [] h Q) : Rn 51 0 [some (aR (ad 0 0)), some (aI (t)), some (aI (o)), some (aI (x)), none, none, none] [] h Q := by
  refine x_aload_n k_51_0 rfl ?_
  refine x_iload_n k_51_1 rfl ?_
  refine x_call2 k_51_2 (Nat.le_of_ble_eq_true rfl) (rcv_1 (w.at g.store)) (Nat.le_of_ble_eq_true rfl) ?_
  refine k_transactionOf w g b ht (fun h1 => bh_1 ?_) (fun h1 => bh_o rfl (e1 (Or.inl h1)))
  refine x_as4 k_51_5 rfl ?_
  refine x_aload_n k_51_7 rfl ?_
  refine x_iload_n k_51_8 rfl ?_
  refine x_call2 k_51_9 (Nat.le_of_ble_eq_true rfl) (rcv_1 (w.at g.store)) (Nat.le_of_ble_eq_true rfl) ?_
  refine k_setItem w g b ho (fun h2 h3 => bh_1 ?_) (fun h2 => bh_o rfl (e1 (Or.inr h2)))
  refine x_as5 k_51_12 rfl ?_
  refine x_aload_n k_51_14 rfl ?_
  refine x_aload k_51_15 rfl ?_
  refine x_call2 k_51_17 (Nat.le_of_ble_eq_true rfl) (rcv_1 (w.at g.store)) (Nat.le_of_ble_eq_true rfl) ?_
  refine k_needOpen w g b (t := t.toNat) (by omega) (fun h4 => bh_v ?_) (fun h4 => bh_o rfl (e2 (by unfold badP; omega) ⟨h1, h4⟩))
  exact k (by unfold badP; omega) (fun q => q.2 h4)
theorem k_read (w : WD ad ow K h) (g : CI ad K h.2.2.2.1 C A I F Ls cp) (b : RB C A) (lt : LT C A Ls) {t o : Int} (ht : inR t) (ho : inR o) (e1 : badP C A t o false → Q (.inr (10, h.2.1)) (hex h 10)) (e2 : ¬ badP C A t o false → refP C A t → Q (.inr (11, h.2.1)) (hex h 11)) (k1 : ¬ badP C A t o false → ¬ refP C A t → ∀ x, x ∈ Ls (500 + 2 * t.toNat) → (A 10 x).toNat = o.toNat → Q (.inl (some (aL (I 1 x)))) h) (k2 : ¬ badP C A t o false → ¬ refP C A t → (¬ ∃ x, x ∈ Ls (500 + 2 * t.toNat) ∧ (fun k => (A 10 k).toNat = o.toNat) x) → ∀ j x : Nat, (Ls (20 + 2 * o.toNat))[j]? = some x → visB A (A 9 x).toNat t.toNat = true → (∀ q y : Nat, j < q → (Ls (20 + 2 * o.toNat))[q]? = some y → visB A (A 9 y).toNat t.toNat = false) → Q (.inl (some (aL (I 1 x)))) h) (k3 : ¬ badP C A t o false → ¬ refP C A t → (¬ ∃ x, x ∈ Ls (500 + 2 * t.toNat) ∧ (fun k => (A 10 k).toNat = o.toNat) x) → (∀ y, y ∈ Ls (20 + 2 * o.toNat) → visB A (A 9 y).toNat t.toNat = false) → Q (.inl (some (aL 0))) h) : Rn 27 0 (entL 27 [aR (ad 0 0), aI t, aI o]) [] h Q := by
  show Rn 27 0 [some (aR (ad 0 0)), some (aI t), some (aI o), none, none] [] h Q
  refine hd_27 w g b ht ho e1 e2 (fun nb nr => ?_)
  have nb2 := nb
  unfold badP at nb2
  refine x_aload_n k_27_18 rfl ?_
  refine x_aload k_27_19 rfl ?_
  refine x_call2 k_27_21 (Nat.le_of_ble_eq_true rfl) (rcv_1 (w.at (g.tran (t := t.toNat) (by omega)))) (Nat.le_of_ble_eq_true rfl) ?_
  refine k_valueOf w g b lt (t := t.toNat) (o := o.toNat) (by omega) (by omega) (fun x hx he => bh_1 ?_) (fun hn j x hx hv hq => bh_1 ?_) (fun hn hv => bh_1 ?_)
  · refine x_lreturn k_27_24 ?_
    exact k1 nb nr x hx he
  · refine x_lreturn k_27_24 ?_
    exact k2 nb nr hn j x hx hv hq
  · refine x_lreturn k_27_24 ?_
    exact k3 nb nr hn hv
end C20
