section C26
variable {ad : AD} {ow : OW} {K : KK} {h : AH} {C : Nat → Int} {A I : Nat → Nat → Int} {F : Nat → Nat → Nat → Int} {Ls : Nat → List Nat} {cp : Nat → Nat} {Q : AR → AH → Prop}
/-- the lists of what a site holds back -/
def HB (C : Nat → Int) (Ls : Nat → List Nat) (cp : Nat → Nat) (H : Nat) : Prop := ∀ s, s < (C 1).toNat → (Ls (2 + 2 * s)).length ≤ H ∧ cp (2 + 2 * s) ≤ 10 + 2 * H
/-- the capacities of the other lists -/
def TB (C : Nat → Int) (Ls : Nat → List Nat) (cp : Nat → Nat) : Prop := cp 0 ≤ 10 + 2 * (C 2).toNat ∧ cp 1 ≤ 10 + 2 * (C 3).toNat ∧ (∀ i, 500 ≤ i → i < 500 + 2 * (C 3).toNat → cp i ≤ 10 + 2 * (Ls i).length) ∧ (∀ i, i < 1500 → ¬ lvl C i → cp i = 0) ∧ cp 2000 ≤ 1024
/-- the class's world with all bounds -/
def WY (ow0 : OW) (h0 : AH) (S N M H : Nat) (ad : AD) (ow : OW) (K : KK) (F : Nat → Nat → Nat → Int) (cp : Nat → Nat) (p : CB) (h : AH) : Prop := WD ad ow K h ∧ CI ad K h.2.2.2.1 p.1 p.2.1 p.2.2.1 F p.2.2.2 cp ∧ RB p.1 p.2.1 ∧ LT p.1 p.2.1 p.2.2.2 ∧ Fo ow0 h0 ow h ∧ IB p.1 p.2.2.2 cp ∧ PT S N h cp ∧ (JB p.1 p.2.2.2 cp 20 M ∧ JB p.1 p.2.2.2 cp 21 M) ∧ HB p.1 p.2.2.2 cp H ∧ TB p.1 p.2.2.2 cp
def WX (P : AD → Prop) (ow0 : OW) (h0 : AH) (S N M H : Nat) (p : CB) (h : AH) : Prop := ∃ ad ow K F cp, P ad ∧ WY ow0 h0 S N M H ad ow K F cp p h
theorem bcl_e {P : Nat → Prop} {a so t : Int} {p : CB} {j : Nat} (hj : j < 2 ∨ j % 2 = 0 ∨ 20 ≤ j) : ∀ u, u ≤ 6 → (bcl P a so t p u).2.2.2 j = p.2.2.2 j := by
  intro u
  induction u with
  | zero => intro _; rfl
  | succ u ih =>
    intro hu
    by_cases hp : P u
    · rw [bcl_y hp]
      exact (up_n (by omega)).trans (ih (by omega))
    · rw [bcl_n hp]
      exact ih (by omega)
theorem WS.y {P : AD → Prop} {S N M H : Nat} {ow0 : OW} {h0 : AH} {p : CB} (ws : WS ad cp C ow0 h0 S N M p h) (b : RB C A) (hP : ∀ ad' : AD, (∀ k i, (k ≠ 7 ∨ i < (C 5).toNat) → k ≠ 10 → ad' k i = ad k i) → P ad') (e1 : p.1 1 = C 1) (e2 : p.1 2 = C 2) (e3 : p.1 3 = C 3) (hL : ∀ i, (i < 2 ∨ i < 20 ∧ i % 2 = 0 ∨ 500 ≤ i) → p.2.2.2 i = Ls i) (hb : HB C Ls cp H) (tb : TB C Ls cp) : WX P ow0 h0 S N M H p h := by
  have b1 := b.c1
  have b2 := b.c2
  obtain ⟨ad', ow', K', F', cp', q1, q2, q3, q4, q5, q6, q7, q8, q9, q10⟩ := ws
  refine ⟨ad', ow', K', F', cp', hP ad' q9, q1, q2, q3, q4, q5, q6, q7, q8, fun s hs => ?_, ?_, ?_, fun i h1 h2 => ?_, fun i h1 h2 => ?_, (by rw [q10 _ (by omega)]; exact tb.2.2.2.2)⟩
  · rw [e1] at hs
    rw [hL _ (by omega), q10 _ (by omega)]
    exact hb s hs
  · rw [e2, q10 _ (by omega)]; exact tb.1
  · rw [e3, q10 _ (by omega)]; exact tb.2.1
  · rw [e3] at h2
    rw [hL _ (by omega), q10 _ (by omega)]
    exact tb.2.2.1 i h1 h2
  · have h3 : ¬ lvl C i := fun z => h2 (by unfold lvl at z ⊢; rw [e1, e2, e3]; exact z)
    rw [q10 _ (by unfold lvl at h3; omega)]
    exact tb.2.2.2.1 i h1 h3
theorem WX.mono {P : AD → Prop} {S N M H S' N' M' H' : Nat} {ow0 : OW} {h0 : AH} {p : CB} (x : WX P ow0 h0 S N M H p h) (hS : S ≤ S') (hN : N ≤ N') (hM : M ≤ M') (hH : H ≤ H') : WX P ow0 h0 S' N' M' H' p h := by
  obtain ⟨ad', ow', K', F', cp', hp, q1, q2, q3, q4, q5, q6, q7, q8, q9, q10⟩ := x
  exact ⟨ad', ow', K', F', cp', hp, q1, q2, q3, q4, q5, q6, q7.mono hS hN, ⟨q8.1.mono hM, q8.2.mono hM⟩, fun s hs => ⟨by have := (q9 s hs).1; omega, by have := (q9 s hs).2; omega⟩, q10⟩
theorem mkS_e (lt : LT C A Ls) (b : RB C A) {t : Nat} (ht : t < (C 3).toNat) {i : Nat} (hi : i < 2 ∨ i < 20 ∧ i % 2 = 0 ∨ 500 ≤ i) : (mkS C A I Ls t).2.2.2 i = Ls i := by
  have b1 := b.c1
  have b2 := b.c2
  have hw2 : ∀ x, x ∈ Ls (500 + 2 * t) → (mkA A t 10 x).toNat < 200 := fun x hx => by have := (lt.1 t x ht hx).2; show (A 10 x).toNat < 200; omega
  have hc2 : ∀ x, x ∈ Ls (501 + 2 * t) → (mkA A t 10 x).toNat < 200 := fun x hx => by have := (lt.2.1 t x ht hx).2; show (A 10 x).toNat < 200; omega
  refine (bcl_e (p := (up C 6 (C 6 + 1), mkA2 A Ls t, I, hndL (mkA A t) Ls t)) (by omega) _ (by omega)).trans ?_
  show hndL (mkA A t) Ls t i = Ls i
  unfold hndL
  rw [hnw_o (Or.inr rfl) hc2 (by omega), hnw_o (Or.inl rfl) hw2 (by omega)]
theorem LT.hadd {t s : Nat} (lt : LT C A Ls) (b1 : (C 1).toNat ≤ 6) (hs : s < (C 1).toNat) (ht : t < (C 3).toNat) : LT C A (up Ls (2 + 2 * s) (Ls (2 + 2 * s) ++ [t])) := by
  refine ⟨fun t' k h1 h2 => ?_, fun t' k h1 h2 => ?_, fun t' k h1 h2 => ?_, fun t' k h1 h2 => ?_, fun s' x h1 h2 => ?_, fun s' x h1 h2 => ?_⟩
  · rw [up_n (by omega)] at h2; exact lt.1 t' k h1 h2
  · rw [up_n (by omega)] at h2; exact lt.2.1 t' k h1 h2
  · rw [up_n (by omega)] at h2
    have := lt.2.2.1 t' k h1 h2
    rw [up_n (by omega)]
    exact this
  · rw [up_n (by omega)] at h2
    have := lt.2.2.2.1 t' k h1 h2
    rw [up_n (by omega)]
    exact this
  · by_cases hn : 2 + 2 * s' = 2 + 2 * s
    · rw [hn, up_s] at h2
      rcases List.mem_append.mp h2 with z | z
      · exact lt.2.2.2.2.1 s x hs z
      · rw [List.mem_singleton.mp z]; exact ht
    · rw [up_n hn] at h2; exact lt.2.2.2.2.1 s' x h1 h2
  · rw [up_n (by omega)] at h2; exact lt.2.2.2.2.2 s' x h1 h2
/-- what arrive leaves: a message about t, of sort so, from x, at the site s -/
def arvP (C : Nat → Int) (A I : Nat → Nat → Int) (Ls : Nat → List Nat) (s t : Nat) (so x : Int) (p : CB) : Prop :=
  (so = 1 ∧ (∃ x, x ∈ Ls (500 + 2 * t) ∧ (fun k => A 0 (A 10 k).toNat = s ∧ hcf A Ls (A 10 k).toNat t s) x) ∧ p = (sndC C, sndA C A s (A 3 t).toNat 3 t, up I 2 (up (I 2) (C 5).toNat 3), up Ls (3 + 2 * (A 3 t).toNat) (Ls (3 + 2 * (A 3 t).toNat) ++ [(C 5).toNat]))) ∨
  (so = 1 ∧ ¬ (∃ x, x ∈ Ls (500 + 2 * t) ∧ (fun k => A 0 (A 10 k).toNat = s ∧ hcf A Ls (A 10 k).toNat t s) x) ∧ p = (sndC C, sndA C (up A 1 (lkF A (Ls (500 + 2 * t)) t s (Ls (500 + 2 * t)).length)) s (A 3 t).toNat 2 t, up I 2 (up (I 2) (C 5).toNat 2), up Ls (3 + 2 * (A 3 t).toNat) (Ls (3 + 2 * (A 3 t).toNat) ++ [(C 5).toNat]))) ∨
  (so = 2 ∧ ¬ A 4 t = 3 ∧ p = (C, A, I, Ls)) ∨
  (so = 2 ∧ A 4 t = 3 ∧ ¬ I 0 t - 1 = 0 ∧ p = (C, A, (up I 0 (up (I 0) t (I 0 t - 1))), Ls)) ∨
  (so = 2 ∧ A 4 t = 3 ∧ I 0 t - 1 = 0 ∧ p = mkS C A (up I 0 (up (I 0) t (I 0 t - 1))) Ls t) ∨
  (so = 3 ∧ ¬ A 4 t = 3 ∧ p = (C, A, I, Ls)) ∨
  (so = 3 ∧ A 4 t = 3 ∧ p = (bcl (fun u => aks (hnA A Ls t) Ls t u ∧ ¬ (u : Int) = x) ((hnA A Ls t) 3 t) 4 t (C, (hnA A Ls t), I, Ls)) (C 1).toNat) ∨
  (so = 4 ∧ p = (C, (up A 1 (ukF A (Ls (500 + 2 * t)) t s (Ls (500 + 2 * t)).length)), I, Ls)) ∨
  ((so < 1 ∨ 4 < so) ∧ cbP C A t s ∧ ∃ n A' Ls', clsP C s n (apyA A Ls t s) Ls A' Ls' ∧ p = (C, A', I, Ls')) ∨
  ((so < 1 ∨ 4 < so) ∧ ¬ cbP C A t s ∧ p = (C, A, I, up Ls (2 + 2 * s) (Ls (2 + 2 * s) ++ [t])))
section CA
variable {P : AD → Prop} {S N M H : Nat} {ow0 : OW} {h0 : AH} {p : CB} {ad' : AD} {ow' : OW} {K' : KK} {F' : Nat → Nat → Nat → Int} {cp' : Nat → Nat} {h' : AH} {t : Nat}
/-- what a message more leaves -/
theorem sndX {t s : Nat} {so : Int} {A1 : Nat → Nat → Int} (b : RB C A1) (e3 : A1 3 t = A 3 t) (a3 : A 3 t < C 1) (b3 : 0 ≤ A 3 t) (hs : s < 6) (hso : 0 ≤ so ∧ so ≤ 5) (ht : t < 500) (h5 : C 5 + 6 ≤ 15000) (jw : JB C Ls cp 20 M) (jc : JB C Ls cp 21 M) (hb : HB C Ls cp H) (tb : TB C Ls cp) (hP : ∀ ad' : AD, (∀ k i, (k ≠ 7 ∨ i < (C 5).toNat) → k ≠ 10 → ad' k i = ad k i) → P ad') (q1 : WD ad' ow' K' h') (q2 : CI ad' K' h'.2.2.2.1 (sndC C) (sndA C A1 s (A 3 t).toNat so t) (up I 2 (up (I 2) (C 5).toNat so)) F (up Ls (3 + 2 * (A 3 t).toNat) (Ls (3 + 2 * (A 3 t).toNat) ++ [(C 5).toNat])) cp') (q3 : LT (sndC C) (sndA C A1 s (A 3 t).toNat so t) (up Ls (3 + 2 * (A 3 t).toNat) (Ls (3 + 2 * (A 3 t).toNat) ++ [(C 5).toNat]))) (q4 : Fo ow0 h0 ow' h') (q5 : IB (sndC C) (up Ls (3 + 2 * (A 3 t).toNat) (Ls (3 + 2 * (A 3 t).toNat) ++ [(C 5).toNat])) cp') (q6 : PT (S + 3) (N + 2) h' cp') (q7 : ∀ k i, (k ≠ 7 ∨ i < (C 5).toNat) → k ≠ 10 → ad' k i = ad k i) (q8 : ∀ i, (i < 2 ∨ i % 2 = 0 ∨ 2 + 2 * (C 1).toNat ≤ i) → cp' i = cp i) : WX P ow0 h0 (S + 3) (N + 2) M H (sndC C, sndA C A1 s (A 3 t).toNat so t, up I 2 (up (I 2) (C 5).toNat so), up Ls (3 + 2 * (A 3 t).toNat) (Ls (3 + 2 * (A 3 t).toNat) ++ [(C 5).toNat])) h' := by
  have b1 := b.c1
  have b2 := b.c2
  have b5 := b.c5
  refine WS.y (C := C) (A := A1) (ad := ad) (cp := cp) (Ls := Ls) ⟨ad', ow', K', F, cp', q1, q2, ?_, q3, q4, q5, q6, ⟨fun o ho => ?_, fun o ho => ?_⟩, q7, fun i hi => q8 i (by omega)⟩ b hP rfl rfl rfl (fun i hi => up_n (by omega)) hb tb
  · exact snd_b b ⟨by omega, by omega⟩ ⟨by omega, by omega⟩ hso ⟨by omega, by omega⟩ (by omega)
  · show cp' (20 + 2 * o) ≤ 10 + 2 * (up Ls (3 + 2 * (A 3 t).toNat) (Ls (3 + 2 * (A 3 t).toNat) ++ [(C 5).toNat]) (20 + 2 * o)).length ∧ (up Ls (3 + 2 * (A 3 t).toNat) (Ls (3 + 2 * (A 3 t).toNat) ++ [(C 5).toNat]) (20 + 2 * o)).length ≤ M
    rw [q8 _ (by omega), up_n (by omega)]
    exact jw o ho
  · show cp' (21 + 2 * o) ≤ 10 + 2 * (up Ls (3 + 2 * (A 3 t).toNat) (Ls (3 + 2 * (A 3 t).toNat) ++ [(C 5).toNat]) (21 + 2 * o)).length ∧ (up Ls (3 + 2 * (A 3 t).toNat) (Ls (3 + 2 * (A 3 t).toNat) ++ [(C 5).toNat]) (21 + 2 * o)).length ≤ M
    rw [q8 _ (by omega), up_n (by omega)]
    exact jc o ho
/-- the same arrays, or others of the same C and lists -/
theorem sameX {A1 I1 : Nat → Nat → Int} (b0 : RB C A) (b : RB C A1) (lt : LT C A1 Ls) (ib : IB C Ls cp) (jw : JB C Ls cp 20 M) (jc : JB C Ls cp 21 M) (hb : HB C Ls cp H) (tb : TB C Ls cp) (hP : ∀ ad' : AD, (∀ k i, (k ≠ 7 ∨ i < (C 5).toNat) → k ≠ 10 → ad' k i = ad k i) → P ad') (q1 : WD ad ow' K' h') (q2 : CI ad K' h'.2.2.2.1 C A1 I1 F' Ls cp) (q4 : Fo ow0 h0 ow' h') (q6 : PT S N h' cp) : WX P ow0 h0 S N M H (C, A1, I1, Ls) h' :=
  ⟨ad, ow', K', F', cp, hP ad (fun _ _ _ _ => rfl), q1, q2, b, lt, q4, ib, q6, ⟨jw, jc⟩, hb, tb⟩
/-- a commit made -/
theorem mkX (b : RB C A) (lt : LT C A Ls) (ht : t < (C 3).toNat) (h13 : A 13 (6 * (A 3 t).toNat + (A 3 t).toNat) < 500) (h6 : C 6 < 1000) (h5 : C 5 + 6 ≤ 15000) (hb : HB C Ls cp H) (tb : TB C Ls cp) (hP : ∀ ad' : AD, (∀ k i, (k ≠ 7 ∨ i < (C 5).toNat) → k ≠ 10 → ad' k i = ad k i) → P ad') {I1 : Nat → Nat → Int} (q1 : WD ad' ow' K' h') (q2 : CI ad' K' h'.2.2.2.1 (mkS C A I1 Ls t).1 (mkS C A I1 Ls t).2.1 (mkS C A I1 Ls t).2.2.1 F' (mkS C A I1 Ls t).2.2.2 cp') (q3 : LT (mkS C A I1 Ls t).1 (mkS C A I1 Ls t).2.1 (mkS C A I1 Ls t).2.2.2) (q4 : Fo ow0 h0 ow' h') (q5 : IB (mkS C A I1 Ls t).1 (mkS C A I1 Ls t).2.2.2 cp') (q6 : PT S N h' cp') (q7 : ∀ k i, (k ≠ 7 ∨ i < (C 5).toNat) → k ≠ 10 → ad' k i = ad k i) (q8 : JB C (mkS C A I1 Ls t).2.2.2 cp' 20 M) (q9 : JB C (mkS C A I1 Ls t).2.2.2 cp' 21 M) (q10 : ∀ i, (i < 2 ∨ i < 20 ∧ i % 2 = 0 ∨ 2 + 2 * (C 1).toNat ≤ i ∧ i < 20 ∨ 20 + 2 * (C 2).toNat ≤ i) → cp' i = cp i) : WX P ow0 h0 S N M H (mkS C A I1 Ls t) h' := by
  have mb := mkS_b (I := I1) (Ls := Ls) b ht h13 h6 h5
  have e1 : (mkS C A I1 Ls t).1 1 = C 1 := mb.2 1 (by decide)
  have e2 : (mkS C A I1 Ls t).1 2 = C 2 := mb.2 2 (by decide)
  have e3 : (mkS C A I1 Ls t).1 3 = C 3 := mb.2 3 (by decide)
  exact WS.y (C := C) (A := A) (ad := ad) (cp := cp) (Ls := Ls) ⟨ad', ow', K', F', cp', q1, q2, mb.1, q3, q4, q5, q6, ⟨fun o ho => q8 o (by rw [e2] at ho; exact ho), fun o ho => q9 o (by rw [e2] at ho; exact ho)⟩, q7, q10⟩ b hP e1 e2 e3 (fun i hi => mkS_e lt b ht hi) hb tb
/-- messages to many -/
theorem bclX {B : Nat → Prop} {a so : Int} {A1 I1 : Nat → Nat → Int} (b : RB C A1) (ht : t < 500) (ha : 0 ≤ a ∧ a < 6) (hso : 0 ≤ so ∧ so ≤ 5) (h5 : C 5 + 6 ≤ 15000) (jw : JB C Ls cp 20 M) (jc : JB C Ls cp 21 M) (hb : HB C Ls cp H) (tb : TB C Ls cp) (hP : ∀ ad' : AD, (∀ k i, (k ≠ 7 ∨ i < (C 5).toNat) → k ≠ 10 → ad' k i = ad k i) → P ad') (q1 : WD ad' ow' K' h') (q2 : CI ad' K' h'.2.2.2.1 ((bcl B a so t (C, A1, I1, Ls)) (C 1).toNat).1 ((bcl B a so t (C, A1, I1, Ls)) (C 1).toNat).2.1 ((bcl B a so t (C, A1, I1, Ls)) (C 1).toNat).2.2.1 F' ((bcl B a so t (C, A1, I1, Ls)) (C 1).toNat).2.2.2 cp') (q3 : LT ((bcl B a so t (C, A1, I1, Ls)) (C 1).toNat).1 ((bcl B a so t (C, A1, I1, Ls)) (C 1).toNat).2.1 ((bcl B a so t (C, A1, I1, Ls)) (C 1).toNat).2.2.2) (q4 : Fo ow0 h0 ow' h') (q5 : IB ((bcl B a so t (C, A1, I1, Ls)) (C 1).toNat).1 ((bcl B a so t (C, A1, I1, Ls)) (C 1).toNat).2.2.2 cp') (q6 : PT S N h' cp') (q7 : ∀ k i, (k ≠ 7 ∨ i < (C 5).toNat) → k ≠ 10 → ad' k i = ad k i) (q8 : ∀ i, (i < 2 ∨ i % 2 = 0 ∨ 2 + 2 * (C 1).toNat ≤ i) → cp' i = cp i) : WX P ow0 h0 S N M H ((bcl B a so t (C, A1, I1, Ls)) (C 1).toNat) h' := by
  have b1 := b.c1
  have bb := bcl_b (P := B) (a := a) (so := so) (t := t) (p := (C, A1, I1, Ls)) b ha hso ht h5 (u := (C 1).toNat) (by omega)
  have e1 : (bcl B a so t (C, A1, I1, Ls) (C 1).toNat).1 1 = C 1 := bb.2 1 (by decide)
  have e2 : (bcl B a so t (C, A1, I1, Ls) (C 1).toNat).1 2 = C 2 := bb.2 2 (by decide)
  have e3 : (bcl B a so t (C, A1, I1, Ls) (C 1).toNat).1 3 = C 3 := bb.2 3 (by decide)
  have eL : ∀ j, (j < 2 ∨ j % 2 = 0 ∨ 20 ≤ j) → (bcl B a so t (C, A1, I1, Ls) (C 1).toNat).2.2.2 j = Ls j := fun j hj => bcl_e hj _ (by omega)
  refine WS.y (C := C) (A := A1) (ad := ad) (cp := cp) (Ls := Ls) ⟨ad', ow', K', F', cp', q1, q2, bb.1, q3, q4, q5, q6, ⟨fun o ho => ?_, fun o ho => ?_⟩, q7, fun i hi => q8 i (by omega)⟩ b hP e1 e2 e3 (fun i hi => eL i (by omega)) hb tb
  · rw [e2] at ho
    rw [eL _ (by omega), q8 _ (by omega)]
    exact jw o ho
  · rw [e2] at ho
    rw [eL _ (by omega), q8 _ (by omega)]
    exact jc o ho
/-- held back -/
theorem holdX {s : Nat} {c' : Nat} (g : CI ad K h.2.2.2.1 C A I F Ls cp) (b : RB C A) (lt : LT C A Ls) (hs : s < (C 1).toNat) (ht : t < (C 3).toNat) (fo : Fo ow0 h0 ow h) (ib : IB C Ls cp) (pt : PT S N h cp) (jw : JB C Ls cp 20 M) (jc : JB C Ls cp 21 M) (hb : HB C Ls cp H) (tb : TB C Ls cp) (hP : ∀ ad' : AD, (∀ k i, (k ≠ 7 ∨ i < (C 5).toNat) → k ≠ 10 → ad' k i = ad k i) → P ad') (wa : WA ad ow K h (2 + 2 * s) (cp (2 + 2 * s)) (Ls (2 + 2 * s)).length ad' ow' K' h' c') (q2 : CI ad' K' h'.2.2.2.1 C A I F (up Ls (2 + 2 * s) (Ls (2 + 2 * s) ++ [t])) (up cp (2 + 2 * s) c')) : WX P ow0 h0 S (N + 1) M (H + 1) (C, A, I, up Ls (2 + 2 * s) (Ls (2 + 2 * s) ++ [t])) h' := by
  have b1 := b.c1
  have b2 := b.c2
  have hbs := hb s hs
  have v := g.lh hs (by omega)
  have hlc : (Ls (2 + 2 * s)).length ≤ cp (2 + 2 * s) ∧ (cp (2 + 2 * s) = 0 ∨ 10 ≤ cp (2 + 2 * s)) := by
    obtain ⟨m, G, v⟩ := v
    exact ⟨v.2.2.1, v.2.2.2.1⟩
  obtain ⟨w2, fo2, hK, hA, hc, hcost⟩ := wa
  have hl2 : (Ls (2 + 2 * s) ++ [t]).length = (Ls (2 + 2 * s)).length + 1 := by simp
  have hnc : ncap (cp (2 + 2 * s)) ≤ 10 + 2 * cp (2 + 2 * s) ∧ ncap (cp (2 + 2 * s)) ≤ 4 * (ncap (cp (2 + 2 * s)) - cp (2 + 2 * s)) ∧ cp (2 + 2 * s) ≤ ncap (cp (2 + 2 * s)) := by
    unfold ncap
    split <;> omega
  have hsum := csum_up (cp := cp) (c := c') 1500 (show 2 + 2 * s < 1500 by omega)
  refine ⟨ad', ow', K', F, _, hP ad' (fun k i h7 h10 => hA k i (fun z => h10 z.1)), w2, q2, b, lt.hadd (by omega) hs ht, fo.tr fo2, fun u hu => ?_, ⟨?_, ?_⟩, ⟨fun o ho => ?_, fun o ho => ?_⟩, fun s' hs' => ?_, ?_, ?_, fun i h1 h2 => ?_, fun i h1 h2 => ?_, (by rw [up_n (by omega)]; exact tb.2.2.2.2)⟩
  · show (up Ls (2 + 2 * s) (Ls (2 + 2 * s) ++ [t]) (3 + 2 * u)).length ≤ _ ∧ _
    rw [up_n (by omega), up_n (by omega)]
    exact ib u hu
  · have := pt.1
    rcases hcost with ⟨c1, c2⟩ | ⟨c1, c2, c3, c4⟩
    · rw [c2]; omega
    · omega
  · have := pt.2
    rcases hcost with ⟨c1, c2⟩ | ⟨c1, c2, c3, c4⟩
    · rw [c2]; omega
    · omega
  · show up cp (2 + 2 * s) c' (20 + 2 * o) ≤ 10 + 2 * (up Ls (2 + 2 * s) (Ls (2 + 2 * s) ++ [t]) (20 + 2 * o)).length ∧ (up Ls (2 + 2 * s) (Ls (2 + 2 * s) ++ [t]) (20 + 2 * o)).length ≤ M
    rw [up_n (by omega), up_n (by omega)]
    exact jw o ho
  · show up cp (2 + 2 * s) c' (21 + 2 * o) ≤ 10 + 2 * (up Ls (2 + 2 * s) (Ls (2 + 2 * s) ++ [t]) (21 + 2 * o)).length ∧ (up Ls (2 + 2 * s) (Ls (2 + 2 * s) ++ [t]) (21 + 2 * o)).length ≤ M
    rw [up_n (by omega), up_n (by omega)]
    exact jc o ho
  · show (up Ls (2 + 2 * s) (Ls (2 + 2 * s) ++ [t]) (2 + 2 * s')).length ≤ _ ∧ _
    by_cases hn : 2 + 2 * s' = 2 + 2 * s
    · rw [hn, up_s, up_s, hl2]
      refine ⟨by omega, ?_⟩
      rcases hcost with ⟨c1, _⟩ | ⟨c1, _, _, c4⟩ <;> omega
    · rw [up_n hn, up_n hn]
      have := hb s' hs'
      omega
  · rw [up_n (by omega)]; exact tb.1
  · rw [up_n (by omega)]; exact tb.2.1
  · show up cp (2 + 2 * s) c' i ≤ 10 + 2 * (up Ls (2 + 2 * s) (Ls (2 + 2 * s) ++ [t]) i).length
    rw [up_n (by omega), up_n (by omega)]
    exact tb.2.2.1 i h1 h2
  · have h3 : ¬ i = 2 + 2 * s := fun z => h2 (show lvl C i by unfold lvl; omega)
    rw [up_n h3]
    exact tb.2.2.2.1 i h1 h2
end CA
end C26
