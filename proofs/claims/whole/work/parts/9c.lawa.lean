section LA
variable {ad : AD} {ow : OW} {K : KK} {h : AH} {C : Nat → Int} {A I : Nat → Nat → Int} {F : Nat → Nat → Nat → Int} {Ls : Nat → List Nat} {cp : Nat → Nat} {Q : AR → AH → Prop}
variable {as ao scr am len : Nat} {adm : Nat → Nat} {xs : Nat → Int} {v0 : Int} {S N M H : Nat} {CM : Nat → Int} {AM : Nat → Nat → Int} {p : CB}
theorem mlen_1 : ∀ k, k < 22 → mlen k ≠ 1 := by decide
theorem mtag_3 : ∀ k, k < 22 → mtag k < 3 := by decide
/-- the addresses of the law's own -/
def own (ao scr am : Nat) (adm : Nat → Nat) (x : Nat) : Prop := x = scr ∨ x = ao ∨ x = am ∨ ∃ k, k < 22 ∧ x = adm k
/-- what the law has beside the class: the reference, its script, its row of one -/
def LO (ao scr am : Nat) (adm : Nat → Nat) (len : Nat) (xs : Nat → Int) (v0 : Int) (CM : Nat → Int) (AM : Nat → Nat → Int) (ow : OW) (h : AH) : Prop := MP am adm CM AM h ∧ h.1 scr = some (.inl (9, len, .inl xs)) ∧ (∃ f, h.1 ao = some (.inl (1, 1, .inr (.inl f))) ∧ f 0 = v0) ∧ (∀ x, own ao scr am adm x → (ow x).1 = 20 ∧ x < h.2.1)
/-- the law's world -/
def LW (as ao scr am : Nat) (adm : Nat → Nat) (len : Nat) (xs : Nat → Int) (v0 : Int) (S N M H : Nat) (CM : Nat → Int) (AM : Nat → Nat → Int) (p : CB) (h : AH) : Prop := ∃ ad ow K F cp, ad 0 0 = as ∧ WY ow h S N M H ad ow K F cp p h ∧ LO ao scr am adm len xs v0 CM AM ow h
theorem LO.fo {ow' : OW} {h' : AH} (lo : LO ao scr am adm len xs v0 CM AM ow h) (fo : Fo ow h ow' h') : LO ao scr am adm len xs v0 CM AM ow' h' := by
  obtain ⟨m, l1, ⟨f, l2, l3⟩, l4⟩ := lo
  have e : ∀ x, own ao scr am adm x → h'.1 x = h.1 x ∧ ow' x = ow x := fun x hx => fo.2.2.2 x (l4 x hx).2 (l4 x hx).1
  refine ⟨⟨?_, fun k hk => ?_, m.2.2⟩, ?_, ⟨f, ?_, l3⟩, fun x hx => ?_⟩
  · rw [(e am (Or.inr (Or.inr (Or.inl rfl)))).1]; exact m.1
  · rw [(e (adm k) (Or.inr (Or.inr (Or.inr ⟨k, hk, rfl⟩)))).1]; exact m.2.1 k hk
  · rw [(e scr (Or.inl rfl)).1]; exact l1
  · rw [(e ao (Or.inr (Or.inl rfl))).1]; exact l2
  · rw [(e x hx).2]
    exact ⟨(l4 x hx).1, Nat.lt_of_lt_of_le (l4 x hx).2 fo.1⟩
/-- behind a call of the class -/
theorem LW.cls {S' N' M' H' : Nat} {p' : CB} {h' : AH} (ea : ad 0 0 = as) (lo : LO ao scr am adm len xs v0 CM AM ow h) (wx : WX (fun ad' => ad' 0 0 = ad 0 0) ow h S' N' M' H' p' h') : LW as ao scr am adm len xs v0 S' N' M' H' CM AM p' h' := by
  obtain ⟨ad', ow', K', F', cp', hp, w, g, b, lt, fo, ib, pt, jj, hb, tb⟩ := wx
  exact ⟨ad', ow', K', F', cp', hp.trans ea, ⟨w, g, b, lt, Fo.rf, ib, pt, jj, hb, tb⟩, lo.fo fo⟩
/-- behind a call that threw -/
theorem exn_x {cp : Nat → Nat} {ci : Nat} (y : WY ow h S N M H ad ow K F cp p h) : WX (fun ad' => ad' 0 0 = ad 0 0) ow h (S + 6) (N + 1) M H p (hex h ci) := by
  obtain ⟨w, g, b, lt, fo, ib, pt, jj, hb, tb⟩ := y
  refine ⟨ad, up ow h.2.1 (21, 0), K, F, cp, rfl, w.exn, g, b, lt, ⟨Nat.le_succ _, Nat.le_add_right _ _, rfl, fun x h1 _ => ⟨hnew_n (Nat.ne_of_lt h1), up_n (Nat.ne_of_lt h1)⟩⟩, ib, ⟨?_, ?_⟩, jj, hb, tb⟩
  · have := pt.1
    show h.2.2.1 + 6 ≤ _
    omega
  · have := pt.2
    show h.2.1 + 1 ≤ _
    omega
/-- no change of what is the class's -/
theorem same_x {h' : AH} (y : WY ow h S N M H ad ow K F cp p h) (e : h' = h) : WX (fun ad' => ad' 0 0 = ad 0 0) ow h S N M H p h' := by
  subst e
  obtain ⟨w, g, b, lt, fo, ib, pt, jj, hb, tb⟩ := y
  exact ⟨ad, ow, K, F, cp, rfl, w, g, b, lt, Fo.rf, ib, pt, jj, hb, tb⟩
theorem WD.frm {h' : AH} (w : WD ad ow K h) (h2 : h'.2 = h.2) (hx : ∀ x, ¬ ((ow x).1 = 20 ∧ x < h.2.1 ∧ ¬ x = h.2.2.2.1) → h'.1 x = h.1 x) : WD ad ow K h' := by
  obtain ⟨w1, w2, ⟨G, w3⟩, w4, w5, w6⟩ := w
  refine ⟨fun k i e hk => ?_, fun x hx' => ?_, ⟨G, ?_⟩, w4, ?_, ?_⟩
  · have q := w1 k i e hk
    have ne : ¬ (ow (ad k i)).1 = 20 := fun z => by
      rw [q.2.1] at z
      have z : k = 20 := z
      rw [z, w4 i] at hk
      cases hk
    rw [hx _ (fun z => ne z.1), h2]
    exact q
  · rw [h2] at hx'
    rw [hx x (fun z => by omega)]
    exact w2 x hx'
  · rw [h2, hx _ (fun z => z.2.2 rfl)]; exact w3
  · rw [h2]; exact w5
  · rw [h2]; exact w6
theorem WY.frm {h' : AH} (y : WY ow h S N M H ad ow K F cp p h) (h2 : h'.2 = h.2) (hx : ∀ x, ¬ ((ow x).1 = 20 ∧ x < h.2.1 ∧ ¬ x = h.2.2.2.1) → h'.1 x = h.1 x) : WY ow h' S N M H ad ow K F cp p h' := by
  obtain ⟨w, g, b, lt, fo, ib, pt, jj, hb, tb⟩ := y
  refine ⟨w.frm h2 hx, ?_, b, lt, Fo.rf, ib, ?_, jj, hb, tb⟩
  · rw [h2]; exact g
  · unfold PT; rw [h2]; exact pt
theorem own_z {cp : Nat → Nat} (y : WY ow h S N M H ad ow K F cp p h) (lo : LO ao scr am adm len xs v0 CM AM ow h) {x : Nat} (hx : own ao scr am adm x) : (ow x).1 = 20 ∧ x < h.2.1 ∧ ¬ x = h.2.2.2.1 := by
  obtain ⟨m, l1, ⟨f, l2, l3⟩, l4⟩ := lo
  refine ⟨(l4 x hx).1, (l4 x hx).2, fun z => ?_⟩
  obtain ⟨G, w3⟩ := y.1.2.2.1
  rw [← z] at w3
  rcases hx with q | q | q | ⟨k, hk, q⟩
  · rw [q, l1] at w3; cases w3
  · rw [q, l2] at w3; cases w3
  · rw [q, m.1] at w3; cases w3
  · have := m.2.1 k hk
    rw [← q, w3] at this
    have e : (4 : Nat) = mtag k := by
      have := Option.some.inj this
      have := Sum.inl.inj this
      exact (Prod.mk.inj this).1
    have := mtag_3 k hk
    omega
/-- behind a call of the reference -/
theorem LW.ref {CM' : Nat → Int} {AM' : Nat → Nat → Int} {h' : AH} (l : LW as ao scr am adm len xs v0 S N M H CM AM p h) (m' : MP am adm CM' AM' h') (mv : Mv am adm h h') : LW as ao scr am adm len xs v0 S N M H CM' AM' p h' := by
  obtain ⟨ad, ow, K, F, cp, ea, y, lo⟩ := l
  have oz := fun x hx => own_z (x := x) y lo hx
  obtain ⟨m, l1, ⟨f, l2, l3⟩, l4⟩ := lo
  have s1 : scr ≠ am := fun z => by rw [z, m.1] at l1; cases l1
  have s2 : ao ≠ am := fun z => by rw [z, m.1] at l2; cases l2
  have s3 : ∀ k, k < 22 → scr ≠ adm k := fun k hk z => by
    have := m.2.1 k hk
    rw [← z, l1] at this
    have e : (9 : Nat) = mtag k := (Prod.mk.inj (Sum.inl.inj (Option.some.inj this))).1
    have := mtag_3 k hk
    omega
  have s4 : ∀ k, k < 22 → ao ≠ adm k := fun k hk z => by
    have := m.2.1 k hk
    rw [← z, l2] at this
    have e : (1 : Nat) = mlen k := (Prod.mk.inj (Prod.mk.inj (Sum.inl.inj (Option.some.inj this))).2).1
    have := mlen_1 k hk
    omega
  refine ⟨ad, ow, K, F, cp, ea, y.frm mv.1 (fun x hx => mv.2 x (fun z => hx (oz x (by rw [z]; exact Or.inr (Or.inr (Or.inl rfl))))) (fun k hk z => hx (oz x (by rw [z]; exact Or.inr (Or.inr (Or.inr ⟨k, hk, rfl⟩)))))), m', ?_, ⟨f, ?_, l3⟩, fun x hx => ?_⟩
  · rw [mv.2 scr s1 s3]; exact l1
  · rw [mv.2 ao s2 s4]; exact l2
  · rw [mv.1]; exact l4 x hx
/-- the row of one gets a value -/
theorem LW.put {f : Nat → Int} {x : Int} (l : LW as ao scr am adm len xs v0 S N M H CM AM p h) (hf : h.1 ao = some (.inl (1, 1, .inr (.inl f)))) : LW as ao scr am adm len xs x S N M H CM AM p (hput h ao (.inl (1, 1, .inr (.inl (up f 0 x))))) := by
  obtain ⟨ad, ow, K, F, cp, ea, y, lo⟩ := l
  have oz := own_z (x := ao) y lo (Or.inr (Or.inl rfl))
  obtain ⟨m, l1, -, l4⟩ := lo
  have s1 : scr ≠ ao := fun z => by rw [z, hf] at l1; cases l1
  have s2 : am ≠ ao := fun z => by rw [← z, m.1] at hf; cases hf
  have s4 : ∀ k, k < 22 → adm k ≠ ao := fun k hk z => by
    have := m.2.1 k hk
    rw [z, hf] at this
    have e : (1 : Nat) = mlen k := (Prod.mk.inj (Prod.mk.inj (Sum.inl.inj (Option.some.inj this))).2).1
    have := mlen_1 k hk
    omega
  refine ⟨ad, ow, K, F, cp, ea, y.frm rfl (fun x hx => hput_n (fun z => hx (by rw [z]; exact oz))), ⟨?_, fun k hk => ?_, m.2.2⟩, ?_, ⟨_, hput_s, up_s⟩, l4⟩
  · rw [hput_n s2]; exact m.1
  · rw [hput_n (s4 k hk)]; exact m.2.1 k hk
  · rw [hput_n s1]; exact l1
theorem LW.mono {S' N' M' H' : Nat} (l : LW as ao scr am adm len xs v0 S N M H CM AM p h) (hS : S ≤ S') (hN : N ≤ N') (hM : M ≤ M') (hH : H ≤ H') : LW as ao scr am adm len xs v0 S' N' M' H' CM AM p h := by
  obtain ⟨ad, ow, K, F, cp, ea, ⟨w, g, b, lt, fo, ib, pt, jj, hb, tb⟩, lo⟩ := l
  exact ⟨ad, ow, K, F, cp, ea, ⟨w, g, b, lt, fo, ib, pt.mono hS hN, ⟨jj.1.mono hM, jj.2.mono hM⟩, fun s hs => ⟨by have := (hb s hs).1; omega, by have := (hb s hs).2; omega⟩, tb⟩, lo⟩
/-- the class's picture in the reference's arrays again -/
theorem LW.agr {A' : Nat → Nat → Int} {C' : Nat → Int} (l : LW as ao scr am adm len xs v0 S N M H CM AM p h) (hC : ∀ k, ¬ k = 0 → C' k = p.1 k) (sm : SmA p.2.1 A') (b' : RB C' A') : LW as ao scr am adm len xs v0 S N M H CM AM (C', A', p.2.2.1, p.2.2.2) h := by
  obtain ⟨ad, ow, K, F, cp, ea, ⟨w, g, b, lt, fo, ib, pt, jj, hb, tb⟩, lo⟩ := l
  have s := fun k h7 h8 h14 h15 h18 h20 h21 => (sm k h7 h8 h14 h15 h18 h20 h21).symm
  have e0 := s 0 (by decide) (by decide) (by decide) (by decide) (by decide) (by decide) (by decide)
  have e1 := s 1 (by decide) (by decide) (by decide) (by decide) (by decide) (by decide) (by decide)
  have e2 := s 2 (by decide) (by decide) (by decide) (by decide) (by decide) (by decide) (by decide)
  have e3 := s 3 (by decide) (by decide) (by decide) (by decide) (by decide) (by decide) (by decide)
  have e4 := s 4 (by decide) (by decide) (by decide) (by decide) (by decide) (by decide) (by decide)
  have e5 := s 5 (by decide) (by decide) (by decide) (by decide) (by decide) (by decide) (by decide)
  have e6 := s 6 (by decide) (by decide) (by decide) (by decide) (by decide) (by decide) (by decide)
  have e9 := s 9 (by decide) (by decide) (by decide) (by decide) (by decide) (by decide) (by decide)
  have e10 := s 10 (by decide) (by decide) (by decide) (by decide) (by decide) (by decide) (by decide)
  have e11 := s 11 (by decide) (by decide) (by decide) (by decide) (by decide) (by decide) (by decide)
  have e12 := s 12 (by decide) (by decide) (by decide) (by decide) (by decide) (by decide) (by decide)
  have e13 := s 13 (by decide) (by decide) (by decide) (by decide) (by decide) (by decide) (by decide)
  have e16 := s 16 (by decide) (by decide) (by decide) (by decide) (by decide) (by decide) (by decide)
  have e19 := s 19 (by decide) (by decide) (by decide) (by decide) (by decide) (by decide) (by decide)
  have c1 := hC 1 (by decide)
  have c2 := hC 2 (by decide)
  have c3 := hC 3 (by decide)
  have c5 := hC 5 (by decide)
  have c6 := hC 6 (by decide)
  refine ⟨ad, ow, K, F, cp, ea, ⟨w, ?_, b', ?_, fo, ?_, pt, ⟨?_, ?_⟩, ?_, ?_⟩, lo⟩
  · show CI ad K h.2.2.2.1 C' A' p.2.2.1 F p.2.2.2 cp
    exact g.agr (C' := C') (A' := A') (I' := p.2.2.1) ⟨c1, c2, c3, c5, c6⟩ ⟨rfl, rfl⟩ (fun o _ => by rw [e0, e1, e2]; exact ⟨rfl, rfl, rfl⟩) (fun t _ => by rw [e3, e4, e5]; exact ⟨rfl, rfl, rfl, rfl⟩) (fun t k _ _ => by rw [e10]; exact ⟨rfl, rfl⟩) (fun t k _ _ => by rw [e10, e12, e11]; exact ⟨rfl, rfl, rfl⟩) (fun q _ => by rw [e16, e19]; exact ⟨rfl, rfl, rfl⟩) (fun s u _ _ => by rw [e13]) (fun t u _ _ => by rw [e6])
  · show LT C' A' p.2.2.2
    unfold LT
    rw [c1, c2, c3, c5, e9, e10, e19]
    exact lt
  · show IB C' p.2.2.2 cp
    unfold IB
    rw [c1, c5]
    exact ib
  · show JB C' p.2.2.2 cp 20 M
    unfold JB
    rw [c2]
    exact jj.1
  · show JB C' p.2.2.2 cp 21 M
    unfold JB
    rw [c2]
    exact jj.2
  · show HB C' p.2.2.2 cp H
    unfold HB
    rw [c1]
    exact hb
  · show TB C' p.2.2.2 cp
    have el : ∀ i, lvl C' i ↔ lvl p.1 i := fun i => by unfold lvl; rw [c1, c2, c3]
    unfold TB
    simp only [c2, c3, el]
    exact tb
theorem nd_len {l : List Nat} {m : Nat} (hn : l.Nodup) (hl : ∀ x, x ∈ l → x < m) : l.length ≤ m := by
  have e1 : ∀ (l : List Nat) (j : Nat), j ≤ l.length → smj l (fun _ => 1) j = j := by
    intro l j
    induction j with
    | zero => intro _; rfl
    | succ j ih =>
      intro hj
      have hx : l[j]? = some l[j] := List.getElem?_eq_getElem (by omega)
      rw [smj_s hx, ih (by omega)]
      omega
  have e2 : ∀ m, sm (fun k => if k ∈ l then (1 : Int) else 0) m ≤ m := by
    intro m
    induction m with
    | zero => exact Int.le_refl _
    | succ m ih =>
      show sm _ m + (if m ∈ l then (1 : Int) else 0) ≤ _
      split <;> omega
  have e3 := smj_sm (f := fun _ => 1) (m := m) l hn hl
  rw [e1 l l.length (Nat.le_refl _)] at e3
  have := e2 m
  omega
/-- the items' lists are no longer than there are operations -/
theorem LW.jb {n : Nat} {C : Nat → Int} {A I : Nat → Nat → Int} {Ls : Nat → List Nat} (l : LW as ao scr am adm len xs v0 S N M H CM AM (C, A, I, Ls) h) (v : IV n C A I Ls) (hn : n ≤ 512) : LW as ao scr am adm len xs v0 S N 512 H CM AM (C, A, I, Ls) h := by
  obtain ⟨ad, ow, K, F, cp, ea, ⟨w, g, b, lt, fo, ib, pt, jj, hb, tb⟩, lo⟩ := l
  obtain ⟨-, g1, g2, -, -, -, -, -, -, -, -, -, w4, -⟩ := v
  have b2 := b.c2
  have b3 := b.c3
  have b4 : 0 ≤ C 4 := b.c4.1
  have b2 : 0 ≤ C 2 ∧ C 2 ≤ 200 := b2
  have b3 : 0 ≤ C 3 ∧ C 3 ≤ 500 := b3
  refine ⟨ad, ow, K, F, cp, ea, ⟨w, g, b, lt, fo, ib, pt, ⟨fun o ho => ⟨(jj.1 o ho).1, ?_⟩, fun o ho => ⟨(jj.2 o ho).1, ?_⟩⟩, hb, tb⟩, lo⟩
  · refine Nat.le_trans (nd_len (m := (C 4).toNat) (g2.2.2.1 o ho).1 (fun x hx => ?_)) (by omega)
    obtain ⟨c, c1, c2, c3, c4⟩ := (g2.1 o x ho).mp hx
    exact (g1.2.1 c x c1 c3).1
  · refine Nat.le_trans (nd_len (m := (C 4).toNat) (g2.2.2.1 o ho).2 (fun x hx => ?_)) (by omega)
    obtain ⟨c, c1, c2, c3, c4⟩ := (g2.2.1 o x ho).mp hx
    exact ((c501 g1 c1).mp c3).1
end LA
