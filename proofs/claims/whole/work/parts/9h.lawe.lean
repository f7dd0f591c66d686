section LE0
variable {ad : AD} {ow : OW} {K : KK} {h : AH} {C : Nat → Int} {A I : Nat → Nat → Int} {F : Nat → Nat → Nat → Int} {Ls : Nat → List Nat} {cp : Nat → Nat} {Q : AR → AH → Prop}
variable {as ao scr am len : Nat} {adm : Nat → Nat} {xs : Nat → Int} {v0 c : Int} {S N n : Nat}
theorem csum_le {a B : Nat} : ∀ m, (∀ i, a ≤ i → i < a + m → cp i ≤ B) → csum cp (a + m) ≤ csum cp a + m * B := by
  intro m
  induction m with
  | zero => intro _; exact Nat.le_add_right _ _
  | succ m ih =>
    intro hq
    have h1 := ih (fun i h1 h2 => hq i h1 (by omega))
    have h2 := hq (a + m) (by omega) (by omega)
    have e : csum cp (a + (m + 1)) = csum cp (a + m) + cp (a + m) := rfl
    rw [e, Nat.succ_mul]
    omega
theorem LST.room (lst : LST as ao scr am adm len xs v0 S N n c h) (hn : n ≤ 512) : h.2.2.1 ≤ S + 4 * (123080 + 2068 * 512) ∧ h.2.1 ≤ N := by
  obtain ⟨C, A, I, Ls, c0, v, ad, ow, K, F, cp, ea, ⟨w, g, b, lt, fo, ib, pt, ⟨jw, jc⟩, hb, tb⟩, lo⟩ := lst
  have ib : IB C Ls cp := ib
  have jw : JB C Ls cp 20 512 := jw
  have jc : JB C Ls cp 21 512 := jc
  have hb : HB C Ls cp n := hb
  have tb : TB C Ls cp := tb
  have bd := v.bd
  have b1 := v.1.c1
  have b2 := v.1.c2
  have b3 := v.1.c3
  have b4 := v.1.c4
  have b5 := v.1.c5
  have hl := v.hl
  have g8 := v.2.2.2.2.2.2.2.2.2.2.2.2.1
  obtain ⟨t0, t1, t2, t3, -⟩ := tb
  have z : ∀ i, i < 1500 → ¬ lvl C i → cp i ≤ 0 := fun i h1 h2 => Nat.le_of_eq (t3 i h1 h2)
  have s1 : csum cp (0 + 20) ≤ csum cp 0 + 20 * 6154 := csum_le 20 (fun i _ hi => by
    by_cases hv : lvl C i
    · rcases hv with e | e | e | e | e
      · subst e; omega
      · subst e; omega
      · by_cases hp : i % 2 = 0
        · have q := (hb ((i - 2) / 2) (by omega)).2
          rw [show 2 + 2 * ((i - 2) / 2) = i by omega] at q
          omega
        · have q := (ib ((i - 3) / 2) (by omega)).2
          rw [show 3 + 2 * ((i - 3) / 2) = i by omega] at q
          omega
      · omega
      · omega
    · have := z i (by omega) hv
      omega)
  have s2 : csum cp (20 + 2 * (C 2).toNat) ≤ csum cp 20 + 2 * (C 2).toNat * 1034 := csum_le (2 * (C 2).toNat) (fun i h1 h2 => by
    by_cases hp : i % 2 = 0
    · have q := jw ((i - 20) / 2) (by omega)
      rw [show 20 + 2 * ((i - 20) / 2) = i by omega] at q
      omega
    · have q := jc ((i - 21) / 2) (by omega)
      rw [show 21 + 2 * ((i - 21) / 2) = i by omega] at q
      omega)
  have s3 : csum cp (20 + 2 * (C 2).toNat + (480 - 2 * (C 2).toNat)) ≤ csum cp (20 + 2 * (C 2).toNat) + (480 - 2 * (C 2).toNat) * 0 := csum_le _ (fun i h1 h2 => z i (by omega) (by unfold lvl; omega))
  rw [show 20 + 2 * (C 2).toNat + (480 - 2 * (C 2).toNat) = 500 by omega] at s3
  have s4 : csum cp (500 + 2 * (C 3).toNat) ≤ csum cp 500 + 2 * (C 3).toNat * 1034 := csum_le (2 * (C 3).toNat) (fun i h1 h2 => by
    have q := t2 i h1 h2
    by_cases hp : i % 2 = 0
    · have q2 := (hl ((i - 500) / 2) (by omega)).1
      rw [show 500 + 2 * ((i - 500) / 2) = i by omega] at q2
      omega
    · have q2 := (hl ((i - 501) / 2) (by omega)).2
      rw [show 501 + 2 * ((i - 501) / 2) = i by omega] at q2
      omega)
  have s5 : csum cp (500 + 2 * (C 3).toNat + (1000 - 2 * (C 3).toNat)) ≤ csum cp (500 + 2 * (C 3).toNat) + (1000 - 2 * (C 3).toNat) * 0 := csum_le _ (fun i h1 h2 => z i (by omega) (by unfold lvl; omega))
  rw [show 500 + 2 * (C 3).toNat + (1000 - 2 * (C 3).toNat) = 1500 by omega] at s5
  have s0 : csum cp 0 = 0 := rfl
  have s1 : csum cp 20 ≤ csum cp 0 + 20 * 6154 := s1
  obtain ⟨p1, p2⟩ := pt
  refine ⟨?_, p2⟩
  omega
theorem WD.grow {h' : AH} (w : WD ad ow K h) (h1 : h.2.1 ≤ h'.2.1) (h2 : h'.2.2.2 = h.2.2.2) (hx : ∀ x, x < h.2.1 → h'.1 x = h.1 x) (hz : ∀ x, h'.2.1 ≤ x → h'.1 x = none) : WD ad (fun x => if h.2.1 ≤ x then (20, 0) else ow x) K h' := by
  obtain ⟨w1, w2, ⟨G, w3⟩, w4, w5, w6⟩ := w
  refine ⟨fun k i e hk => ?_, hz, ⟨G, ?_⟩, w4, ?_, ?_⟩
  · obtain ⟨q1, q2, q3⟩ := w1 k i e hk
    refine ⟨by rw [hx _ q3]; exact q1, ?_, by omega⟩
    show (if h.2.1 ≤ ad k i then (20, 0) else ow (ad k i)) = _
    rw [if_neg (by omega)]
    exact q2
  · rw [h2, hx _ w6]; exact w3
  · show (if h.2.1 ≤ h'.2.2.2.1 then ((20, 0) : Nat × Nat) else ow h'.2.2.2.1).1 = 20
    rw [h2, if_neg (by omega)]
    exact w5
  · rw [h2]; omega
theorem mls_b : mls 22 ≤ 100000 := Nat.le_of_ble_eq_true rfl
theorem z_up : up (fun _ => (0 : Int)) 0 0 = (fun _ => (0 : Int)) := up_self (f := (fun _ => (0 : Int))) (k := 0)
theorem w_00 (v : EV) (h1 : v.scr < v.b0) (h2 : v.aD < v.b0) (h3 : v.scr ≠ v.aD) : WD (fun _ _ => 0) (fun _ => (20, 0)) (fun _ _ => none) (h00 v) := by
  unfold WD
  refine ⟨fun k i e (he : (none : Option AE) = some e) => (nomatch he), fun x hx => ?_, ⟨fun _ => none, ?_⟩, fun _ => rfl, rfl, h2⟩
  · have hx : v.b0 ≤ x := hx
    show up (up (fun _ => none) v.scr _) v.aD _ x = none
    rw [up_n (by omega), up_n (by omega)]
  · show up (up (fun _ => none) v.scr _) v.aD _ v.aD = _
    rw [up_s]
    rfl
theorem law_0 (v : EV) (h1 : v.scr < v.b0) (h2 : v.aD < v.b0) (h3 : v.scr ≠ v.aD) (k : ∀ as ao am adm h', LST as ao v.scr am adm v.len v.xs 0 (77 + mls 22) (v.b0 + 31) 0 0 h' → Rn 140 23 [some (aR v.scr), some (aR as), some (aR am), some (aR ao), some (aI 0), none, none, none] [] h' Q) : Rn 140 0 (entL 140 [aR v.scr]) [] (h00 v) Q := by
  show Rn 140 0 [some (aR v.scr), none, none, none, none, none, none, none] [] (h00 v) Q
  refine x_new k_140_0 ?_
  refine x_dup k_140_3 rfl ?_
  refine x_call1 k_140_4 (Nat.le_of_ble_eq_true rfl) rfl (Nat.le_of_ble_eq_true rfl) ?_
  have w := (w_00 v h1 h2 h3).new (k := 0) (i := 0) (e := .inr (0, dfl 0)) (c := 6) (by decide)
  refine (show Rn 0 0 (entL 0 [aR (qd (fun _ _ => 0) 0 0 (h00 v).2.1 0 0)]) [] _ _ from ?_)
  refine k_init (C := (fun _ => (0 : Int))) (A := (fun _ _ => (0 : Int))) (I := (fun _ _ => (0 : Int))) (M := 512) (H := 0) w (fun k i hn => p2_n hn) p2_s ⟨rfl, rfl, rfl, rfl, rfl⟩ iv_0.1 ⟨rfl, rfl⟩ (fun ha wx => bh_v ?_)
  refine x_as1n k_140_7 rfl ?_
  refine x_new k_140_8 ?_
  refine x_dup k_140_11 rfl ?_
  refine x_call1 k_140_12 (Nat.le_of_ble_eq_true rfl) rfl (Nat.le_of_ble_eq_true rfl) ?_
  refine r_init hnew_s (Nat.lt_succ_self _) (fun hb m e1 e2 e3 fr => bh_v ?_)
  refine x_as2n k_140_15 rfl ?_
  refine x_iconst k_140_16 ?_
  refine x_newa_long k_140_17 (by decide) ?_
  refine x_as3n k_140_19 rfl ?_
  refine x_iconst k_140_20 ?_
  refine x_is4 k_140_21 rfl ?_
  refine k (h00 v).2.1 hb.2.1 ha.2.1 (fun j => ha.2.1 + 1 + j) _ ⟨(fun _ => (0 : Int)), (fun _ _ => (0 : Int)), (fun _ _ => (0 : Int)), fun _ => [], rfl, iv_0, ?_⟩
  rw [z_up]
  obtain ⟨ad, ow, K, F, cp, hp, w1, g, b, lt, fo, ib, pt, jj, hbb, tb⟩ := wx
  have e1 : hb.2.1 = ha.2.1 + 1 + 22 := e1
  have e2 : hb.2.2.1 = ha.2.2.1 + 29 + mls 22 := e2
  have e3 : hb.2.2.2 = ha.2.2.2 := e3
  have fr : ∀ x, (x < ha.2.1 + 1 ∨ ha.2.1 + 1 + 22 ≤ x) → x ≠ ha.2.1 → hb.1 x = (hnew ha (.inr (9, dfl 9)) 29).1 x := fr
  have fo1 : v.b0 + 1 ≤ ha.2.1 := fo.1
  have fr2 : ∀ x, x < ha.2.1 → (hnew hb (.inl (1, (1 : Int).toNat, .inr (.inl (fun _ => 0)))) (1 : Int).toNat).1 x = ha.1 x := fun x hx => by
    rw [hnew_n (by omega), fr x (by omega) (by omega), hnew_n (by omega)]
  have hs := fo.2.2.2 v.scr (show v.scr < v.b0 + 1 by omega) (by rw [up_n (show ¬ v.scr = (h00 v).2.1 from fun q => absurd (show v.scr = v.b0 from q) (by omega))])
  have wg := w1.grow (h' := hnew hb (.inl (1, (1 : Int).toNat, .inr (.inl (fun _ => 0)))) (1 : Int).toNat) (show ha.2.1 ≤ hb.2.1 + 1 by omega) e3 fr2 (fun x hx => by
    have hx : hb.2.1 + 1 ≤ x := hx
    rw [hnew_n (by omega), fr x (by omega) (by omega), hnew_n (by omega)]
    exact w1.2.1 x (by omega))
  have e4 : hb.2.2.2.1 = ha.2.2.2.1 := by rw [e3]
  obtain ⟨pt1, pt2⟩ := pt
  have pt1 : ha.2.2.1 ≤ 0 + 6 + 41 + 4 * csum cp 1500 := pt1
  have pt2 : ha.2.1 ≤ v.b0 + 1 + 6 := pt2
  refine ⟨ad, _, K, F, cp, hp, ⟨wg, ?_, b, lt, Fo.rf, ib, ⟨?_, ?_⟩, jj, hbb, tb⟩, ⟨?_, fun k hk => ?_, m.2.2⟩, ?_, ⟨fun _ => 0, hnew_s, rfl⟩, fun x hx => ?_⟩
  · show CI ad K hb.2.2.2.1 _ _ _ F _ cp
    rw [e4]
    exact g
  · show hb.2.2.1 + 1 ≤ 77 + mls 22 + 4200 * 0 + 4 * csum cp 1500
    omega
  · show hb.2.1 + 1 ≤ v.b0 + 31
    omega
  · rw [hnew_n (by omega)]
    exact m.1
  · rw [hnew_n (by show ¬ ha.2.1 + 1 + k = hb.2.1; omega)]
    exact m.2.1 k hk
  · rw [fr2 v.scr (by omega), hs.1]
    show (hnew (h00 v) _ 6).1 v.scr = _
    rw [hnew_n (show ¬ v.scr = (h00 v).2.1 from fun q => absurd (show v.scr = v.b0 from q) (by omega))]
    show up (up (fun _ => none) v.scr _) v.aD _ v.scr = _
    rw [up_n h3, up_s]
  · show (if ha.2.1 ≤ x then ((20, 0) : Nat × Nat) else ow x).1 = 20 ∧ x < hb.2.1 + 1
    rcases hx with q | q | q | ⟨k, hk, q⟩
    · rw [q, if_neg (by omega), hs.2]
      exact ⟨by rw [up_n (show ¬ v.scr = (h00 v).2.1 from fun q => absurd (show v.scr = v.b0 from q) (by omega))], by omega⟩
    · rw [if_pos (by omega)]
      exact ⟨rfl, by omega⟩
    · rw [if_pos (by omega)]
      exact ⟨rfl, by omega⟩
    · have q : x = ha.2.1 + 1 + k := q
      rw [if_pos (by omega)]
      exact ⟨rfl, by omega⟩
end LE0
theorem law_go (v : EV) (h1 : v.scr < v.b0) (h2 : v.aD < v.b0) (h3 : v.scr ≠ v.aD) (h4 : v.len ≤ 2560) (h5 : ∀ j, inR (v.xs j)) : Rn 140 0 (entL 140 [aR v.scr]) [] (h00 v) (fun r h' => r = .inl (some (aI 1)) ∧ h'.2.1 ≤ v.b0 + 601024 ∧ h'.2.2.1 ≤ 7293034) := by
  refine law_0 v h1 h2 h3 (fun as ao am adm h' lst => ?_)
  refine law_lp (S0 := 77 + mls 22) (N0 := v.b0 + 31) h5 h4 (fun n v0 c h' hn lst => ?_) 2560 0 0 0 h' none none none (by omega) (by omega) lst
  have q := lst.room hn
  have m := mls_b
  exact ⟨rfl, by omega, by omega⟩
