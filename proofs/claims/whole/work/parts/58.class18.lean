section C18
variable {ad : AD} {ow : OW} {K : KK} {h : AH} {C : Nat → Int} {A I : Nat → Nat → Int} {F : Nat → Nat → Nat → Int} {Ls : Nat → List Nat} {cp : Nat → Nat} {Q : AR → AH → Prop}
/-- what hearNo leaves of the arrays before its messages -/
noncomputable def hnA (A : Nat → Nat → Int) (Ls : Nat → List Nat) (t : Nat) : Nat → Nat → Int := up (up A 4 (up (A 4) t 2)) 1 (ukF (up A 4 (up (A 4) t 2)) (Ls (500 + 2 * t)) t (A 3 t).toNat (Ls (500 + 2 * t)).length)
theorem k_hearNo {S N : Nat} {ow0 : OW} {h0 : AH} (w : WD ad ow K h) (g : CI ad K h.2.2.2.1 C A I F Ls cp) (b : RB C A) (lt : LT C A Ls) (fo : Fo ow0 h0 ow h) (ib : IB C Ls cp) (pt : PT S N h cp) {t : Nat} {x : Int} (ht : t < (C 3).toNat) (hx : inR x) (h5 : C 5 + 6 ≤ 15000) (k0 : ¬ A 4 t = 3 → Q (.inl none) h) (k : A 4 t = 3 → ∀ ad' ow' K' cp' h', WD ad' ow' K' h' → CI ad' K' h'.2.2.2.1 ((bcl (fun u => aks (hnA A Ls t) Ls t u ∧ ¬ (u : Int) = x) ((hnA A Ls t) 3 t) 4 t (C, (hnA A Ls t), I, Ls)) (C 1).toNat).1 ((bcl (fun u => aks (hnA A Ls t) Ls t u ∧ ¬ (u : Int) = x) ((hnA A Ls t) 3 t) 4 t (C, (hnA A Ls t), I, Ls)) (C 1).toNat).2.1 ((bcl (fun u => aks (hnA A Ls t) Ls t u ∧ ¬ (u : Int) = x) ((hnA A Ls t) 3 t) 4 t (C, (hnA A Ls t), I, Ls)) (C 1).toNat).2.2.1 F ((bcl (fun u => aks (hnA A Ls t) Ls t u ∧ ¬ (u : Int) = x) ((hnA A Ls t) 3 t) 4 t (C, (hnA A Ls t), I, Ls)) (C 1).toNat).2.2.2 cp' → LT ((bcl (fun u => aks (hnA A Ls t) Ls t u ∧ ¬ (u : Int) = x) ((hnA A Ls t) 3 t) 4 t (C, (hnA A Ls t), I, Ls)) (C 1).toNat).1 ((bcl (fun u => aks (hnA A Ls t) Ls t u ∧ ¬ (u : Int) = x) ((hnA A Ls t) 3 t) 4 t (C, (hnA A Ls t), I, Ls)) (C 1).toNat).2.1 ((bcl (fun u => aks (hnA A Ls t) Ls t u ∧ ¬ (u : Int) = x) ((hnA A Ls t) 3 t) 4 t (C, (hnA A Ls t), I, Ls)) (C 1).toNat).2.2.2 → Fo ow0 h0 ow' h' → IB ((bcl (fun u => aks (hnA A Ls t) Ls t u ∧ ¬ (u : Int) = x) ((hnA A Ls t) 3 t) 4 t (C, (hnA A Ls t), I, Ls)) (C 1).toNat).1 ((bcl (fun u => aks (hnA A Ls t) Ls t u ∧ ¬ (u : Int) = x) ((hnA A Ls t) 3 t) 4 t (C, (hnA A Ls t), I, Ls)) (C 1).toNat).2.2.2 cp' → PT (S + 3 * (C 1).toNat) (N + 2 * (C 1).toNat) h' cp' → (∀ k i, (k ≠ 7 ∨ i < (C 5).toNat) → k ≠ 10 → ad' k i = ad k i) → (∀ i, (i < 2 ∨ i % 2 = 0 ∨ 2 + 2 * (C 1).toNat ≤ i) → cp' i = cp i) → Q (.inl none) h') : Rn 86 0 (entL 86 [aR (ad 0 0), aR (ad 4 t), aI x]) [] h Q := by
  show Rn 86 0 [some (aR (ad 0 0)), some (aR (ad 4 t)), some (aI x)] [] h Q
  have b4 := b.v4 t
  have b1 := b.c1
  have a3 := g.a3 ht
  have b3 := b.v3 t
  refine x_aload_n k_86_0 rfl ?_
  refine x_get k_86_1 (w.at (g.tran ht)) rfl ?_
  refine x_iconst k_86_4 ?_
  refine x_icmpeq (t := 9) k_86_5 rfl (by show inR (A 4 t) ∧ inR 3; omega) (fun hc => ?_) (fun hc => ?_)
  · have hc : A 4 t = 3 := hc
    refine x_aload_n k_86_9 rfl ?_
    refine x_iconst k_86_10 ?_
    refine x_put k_86_11 (w.at (g.tran ht)) (Nat.le_of_ble_eq_true rfl) rfl ?_
    refine phasego w fo g ht 2 (fun K h w fo g e1 => ?_)
    obtain ⟨R, hR, hR2⟩ := g.row
    have bA : RB C (up A 4 (up (A 4) t 2)) := b.t4 ⟨by omega, by omega⟩
    refine x_aload_n k_86_14 rfl ?_
    refine x_aload_n k_86_15 rfl ?_
    refine x_get k_86_16 (w.at g.store) rfl ?_
    refine x_aload_n k_86_19 rfl ?_
    refine x_get k_86_20 (w.at (g.tran ht)) rfl ?_
    refine x_aaload k_86_23 (w.at hR) (Or.inl rfl) (show 0 ≤ A 3 t by omega) (show A 3 t < (((C 1).toNat : Nat) : Int) by omega) ?_
    rw [show R (up A 4 (up (A 4) t 2) 3 t).toNat = some (ad 2 (A 3 t).toNat) from hR2 (A 3 t).toNat (by omega)]
    refine x_call2 k_86_24 (Nat.le_of_ble_eq_true rfl) (rcv_1 (w.at (g.tran ht))) (Nat.le_of_ble_eq_true rfl) ?_
    refine k_unlockAt w g fo bA lt ht (s := (A 3 t).toNat) (by omega) (fun K h w g fo e2 => bh_v ?_)
    have pt1 : PT S N h cp := by unfold PT; rw [e2, e1]; exact pt
    refine x_aload_n k_86_27 rfl ?_
    refine x_aload_n k_86_28 rfl ?_
    refine x_iconst k_86_29 ?_
    refine x_iload_n k_86_30 rfl ?_
    refine x_call4 k_86_31 (Nat.le_of_ble_eq_true rfl) (rcv_1 (w.at g.store)) (Nat.le_of_ble_eq_true rfl) ?_
    refine k_sendOther (I0 := I) (A0 := hnA A Ls t) (Ls0 := Ls) w g (bA.s1 (ukF_b bA)) lt fo ib pt1 h5 ht (by decide) hx (fun ad' ow' K' cp' h' q1 q2 q3 q4 q5 q6 q7 q8 => bh_v ?_)
    refine x_return k_86_34 ?_
    exact k hc ad' ow' K' cp' h' q1 q2 q3 q4 q5 q6 q7 q8
  · refine x_return k_86_8 ?_
    exact k0 hc
end C18
