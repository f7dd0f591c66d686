section C5
variable {ad : AD} {ow : OW} {K : KK} {h : AH} {C : Nat → Int} {A I : Nat → Nat → Int} {F : Nat → Nat → Nat → Int} {Ls : Nat → List Nat} {cp : Nat → Nat} {Q : AR → AH → Prop}
/-- what apply(t) at the site s leaves of the arrays -/
noncomputable def apyA (A : Nat → Nat → Int) (Ls : Nat → List Nat) (t s : Nat) : Nat → Nat → Int := up (up A 13 (up (A 13) (6 * s + (A 3 t).toNat) (A 5 t))) 1 (ukF A (Ls (500 + 2 * t)) t s (Ls (500 + 2 * t)).length)
theorem k_apply {ow0 : OW} {h0 : AH} (w : WD ad ow K h) (g : CI ad K h.2.2.2.1 C A I F Ls cp) (b : RB C A) (fo : Fo ow0 h0 ow h) (lt : LT C A Ls) {t s : Nat} (ht : t < (C 3).toNat) (hs : s < (C 1).toNat) (k : ∀ K' F' h', WD ad ow K' h' → CI ad K' h'.2.2.2.1 C (apyA A Ls t s) I F' Ls cp → Fo ow0 h0 ow h' → h'.2 = h.2 → Q (.inl none) h') : Rn 70 0 (entL 70 [aR (ad 2 s), aR (ad 4 t)]) [] h Q := by
  show Rn 70 0 [some (aR (ad 2 s)), some (aR (ad 4 t))] [] h Q
  have b1 := b.c1
  have a3 := g.a3 ht
  have b3 := b.v3 t
  have b5 := b.v5 t
  refine x_aload_n k_70_0 rfl ?_
  refine x_get k_70_1 (w.at (g.site (by omega))) rfl ?_
  refine x_aload_n k_70_4 rfl ?_
  refine x_get k_70_5 (w.at (g.tran (by omega))) rfl ?_
  have f5 := b.v3 t
  refine x_aload_n k_70_8 rfl ?_
  refine x_get k_70_9 (w.at (g.tran (by omega))) rfl ?_
  have f9 := b.v5 t
  refine y_iastore (m := (A 3 t).toNat) k_70_12 (w.at (g.seen (by omega))) (show A 3 t = (((A 3 t).toNat : Nat) : Int) by omega) (by omega) ?_
  refine seego w fo g hs (u := (A 3 t).toNat) (by omega) (by omega) (A 5 t) (fun K F h w fo g e1 => ?_)
  refine x_aload_n k_70_13 rfl ?_
  refine x_aload_n k_70_14 rfl ?_
  refine x_call2 k_70_15 (Nat.le_of_ble_eq_true rfl) (rcv_1 (w.at (g.tran (by omega)))) (Nat.le_of_ble_eq_true rfl) ?_
  refine k_unlockAt w g fo (b.t13 ⟨by omega, by omega⟩) lt ht hs (fun K h w g fo e2 => bh_v ?_)
  refine x_return k_70_18 ?_
  exact k K F h w g fo (e2.trans e1)
end C5
