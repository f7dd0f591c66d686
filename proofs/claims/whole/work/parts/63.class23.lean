section C23
variable {ad : AD} {ow : OW} {K : KK} {h : AH} {C : Nat → Int} {A I : Nat → Nat → Int} {F : Nat → Nat → Nat → Int} {Ls : Nat → List Nat} {cp : Nat → Nat} {Q : AR → AH → Prop}
theorem k_count3 (w : WD ad ow K h) (g : CI ad K h.2.2.2.1 C A I F Ls cp) (b : RB C A) (lt : LT C A Ls) {t o x : Int} (ht : inR t) (ho : inR o) (hx : inR x) (hin : ∀ t' x, t' < (C 3).toNat → x ∈ Ls (501 + 2 * t') → inR (A 12 x)) (e1 : badP C A t o true → Q (.inr (10, h.2.1)) (hex h 10)) (e2 : ¬ badP C A t o true → refP C A t → Q (.inr (11, h.2.1)) (hex h 11)) (k : ¬ badP C A t o true → ¬ refP C A t → Q (.inl (some (aI (smj (Ls (21 + 2 * o.toNat)) (fvs A t.toNat x) (Ls (21 + 2 * o.toNat)).length + smj (Ls (501 + 2 * t.toNat)) (fow A o.toNat x) (Ls (501 + 2 * t.toNat)).length)))) h) : Rn 48 0 (entL 48 [aR (ad 0 0), aI t, aI o, aI x]) [] h Q := by
  show Rn 48 0 [some (aR (ad 0 0)), some (aI t), some (aI o), some (aI x), none, none] [] h Q
  refine hd_48 w g b ht ho e1 e2 (fun nb nr => ?_)
  have nb2 := nb
  unfold badP at nb2
  refine x_aload k_48_20 rfl ?_
  refine x_aload k_48_22 rfl ?_
  refine x_iload_n k_48_24 rfl ?_
  refine x_call3 k_48_25 (Nat.le_of_ble_eq_true rfl) (rcv_1 (w.at (g.tran (t := t.toNat) (by omega)))) (Nat.le_of_ble_eq_true rfl) ?_
  refine k_countOf w g b lt (t := t.toNat) (o := o.toNat) (by omega) (by omega) hx hin (bh_1 ?_)
  refine x_ireturn k_48_28 rfl ?_
  exact k nb nr
end C23
