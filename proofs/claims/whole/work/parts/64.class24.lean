section C24
variable {ad : AD} {ow : OW} {K : KK} {h : AH} {C : Nat → Int} {A I : Nat → Nat → Int} {F : Nat → Nat → Nat → Int} {Ls : Nat → List Nat} {cp : Nat → Nat} {Q : AR → AH → Prop}
/-- the class's world as a whole: the arrays p, its room, what is not its own -/
def WS (ad0 : AD) (cp0 : Nat → Nat) (C0 : Nat → Int) (ow0 : OW) (h0 : AH) (S N M : Nat) (p : CB) (h : AH) : Prop := ∃ ad ow K F cp, WD ad ow K h ∧ CI ad K h.2.2.2.1 p.1 p.2.1 p.2.2.1 F p.2.2.2 cp ∧ RB p.1 p.2.1 ∧ LT p.1 p.2.1 p.2.2.2 ∧ Fo ow0 h0 ow h ∧ IB p.1 p.2.2.2 cp ∧ PT S N h cp ∧ (JB p.1 p.2.2.2 cp 20 M ∧ JB p.1 p.2.2.2 cp 21 M) ∧ (∀ k i, (k ≠ 7 ∨ i < (C0 5).toNat) → k ≠ 10 → ad k i = ad0 k i) ∧ (∀ i, (i < 2 ∨ i < 20 ∧ i % 2 = 0 ∨ 2 + 2 * (C0 1).toNat ≤ i ∧ i < 20 ∨ 20 + 2 * (C0 2).toNat ≤ i) → cp i = cp0 i)
theorem JB.mono {a M M' : Nat} (j : JB C Ls cp a M) (hM : M ≤ M') : JB C Ls cp a M' := fun o ho => ⟨(j o ho).1, Nat.le_trans (j o ho).2 hM⟩
theorem PT.mono {S N S' N' : Nat} (j : PT S N h cp) (hS : S ≤ S') (hN : N ≤ N') : PT S' N' h cp := ⟨by have := j.1; omega, by have := j.2; omega⟩
theorem bcl_b {P : Nat → Prop} {a so : Int} {t : Nat} {p : CB} (b : RB p.1 p.2.1) (ha : 0 ≤ a ∧ a < 6) (hso : 0 ≤ so ∧ so ≤ 5) (ht : t < 500) (h5 : p.1 5 + 6 ≤ 15000) {u : Nat} (hu : u ≤ 6) : RB (bcl P a so t p u).1 (bcl P a so t p u).2.1 ∧ (∀ k, ¬ k = 5 → (bcl P a so t p u).1 k = p.1 k) := by
  have q := bcs_ok b (P := P) (a := a) (so := so) (t := t) ha hso ⟨by omega, by omega⟩ h5 u hu
  have s := bcl_s (P := P) (a := a) (so := so) (t := t) (p := p) u
  rw [s.1, s.2.1]
  exact ⟨q.1, q.2.2.2.1⟩
theorem mkS_b (b : RB C A) {t : Nat} (ht : t < (C 3).toNat) (h13 : A 13 (6 * (A 3 t).toNat + (A 3 t).toNat) < 500) (h6 : C 6 < 1000) (h5 : C 5 + 6 ≤ 15000) : RB (mkS C A I Ls t).1 (mkS C A I Ls t).2.1 ∧ (∀ k, ¬ k = 5 → (mkS C A I Ls t).1 k = up C 6 (C 6 + 1) k) := by
  have b1 := b.c1
  have b3 := b.c3
  exact bcl_b (p := (up C 6 (C 6 + 1), mkA2 A Ls t, I, hndL (mkA A t) Ls t)) (apyA_b (mkA_b b h13 h6)) (b.v3 t) (by decide) (by omega) h5 (by omega)
end C24
