section P12
variable {C C' : Nat → Int} {A A' B I I' : Nat → Nat → Int} {Ls Ls' : Nat → List Nat} {n : Nat}
theorem mso_snd {a so t : Int} {d : Nat} (hd : d < 6) : mso C A I Ls (sndC C) (sndA C A a d so t) (up I 2 (up (I 2) (C 5).toNat so)) (up Ls (3 + 2 * d) (Ls (3 + 2 * d) ++ [(C 5).toNat])) := by
  refine ⟨fun k hk => up_n hk, fun k hk => ?_, fun k hk => up_n hk, fun i hi => up_n (by omega)⟩
  unfold sndA
  rw [up_n (by omega), up_n (by omega), up_n (by omega), up_n (by omega)]
theorem ix_snd {e : Nat → Prop} (v : IX n e C A I Ls) {a d t : Nat} {so : Int} (ha : (a : Int) < C 1) (hd : (d : Int) < C 1) (hn : ¬ a = d) (hs : 1 ≤ so ∧ so ≤ 4) (ht : t < (C 3).toNat) (h3 : so ≤ 3 → A 4 t = 2 ∨ A 4 t = 3) (h4 : so = 4 → A 4 t = 2) (h6 : (so = 1 ∨ so = 4 ∨ so = 5) → (a : Int) = A 3 t) (h7 : (so = 2 ∨ so = 3) → (d : Int) = A 3 t) (hw : ∀ t', t' < (C 3).toNat → ¬ e t' → 3 < so ∨ ¬ t' = t) (h55 : C 5 + 6 ≤ 15000) : IX (n + 1) e (sndC C) (sndA C A a d so t) (up I 2 (up (I 2) (C 5).toNat so)) (up Ls (3 + 2 * d) (Ls (3 + 2 * d) ++ [(C 5).toNat])) := by
  obtain ⟨b, g1, g2, g3, g4, g5, gw, g6, g7, g8, w2, w3, w4, w5⟩ := v
  have b1 := b.c1
  have b3 := b.c3
  have b5 := b.c5
  have mm := mso_snd (C := C) (A := A) (I := I) (Ls := Ls) (a := a) (so := so) (t := t) (d := d) (by omega)
  have e5 := snd_5 b5.1
  refine ⟨snd_b b ⟨by omega, by omega⟩ ⟨by omega, by omega⟩ ⟨by omega, by omega⟩ ⟨by omega, by omega⟩ (by omega), g1.ms mm, g2.ms mm, g3.ms mm, g4.ms mm, g5.ms mm, fun t' ht' he => ?_, g6.snd b5.1 ha hd hn ⟨hs.1, by omega⟩ ht h3 h4 (fun z => by omega) h6 h7, g7.ms mm (fun s' hs' => ?_), fun i hi => ?_, w2, w3, ?_, ?_⟩
  · refine (gw t' ht' he).ms mm (by omega) (fun q hq => snd_o (by omega)) ?_
    rw [cM_s b5.1, pI_n (fun z => ?_), Int.add_zero]
    have z : (t : Int) = t' ∧ (1 ≤ so ∧ so ≤ 3) := z
    have := hw t' ht' he
    omega
  · rw [cM_s b5.1, pI_n (fun z => ?_), Int.add_zero]
    · exact g7.2.2 s' hs'
    · have z : so = 5 ∧ _ := z
      omega
  · have hi : ¬ lvl C i := hi
    rw [up_n (fun z => hi (by rw [z]; unfold lvl; omega))]
    exact g8 i hi
  · show C 2 + C 3 + C 4 ≤ _
    omega
  · show C 5 + 1 ≤ _
    omega
/-- what is known of t, about whom an ask has come to d, if it waits -/
def Wq (C : Nat → Int) (A I : Nat → Nat → Int) (Ls : Nat → List Nat) (t d : Nat) : Prop := A 4 t = 3 → I 0 t = A 8 t - A 7 t ∧ cM (R3 t) C A = I 0 t - 1 ∧ (0 ≤ A 7 t ∧ A 8 t ≤ 6) ∧ ∀ o, o < (C 2).toNat → Wt A Ls t o → (A 0 o = A 3 t ∨ (¬ A 0 o = d ∧ ∀ q, q < (C 5).toNat → ¬ pnd A q t (A 0 o))) → A 1 o = t
theorem ab_5 (b : RB C A) (g4 : G4 C A) {t : Nat} (ht : t < (C 3).toNat) (h4 : A 4 t = 2 ∨ A 4 t = 3) : A 5 t = 0 := by
  have := b.v5 t
  by_cases z : 0 < A 5 t
  · have := g4.1 t ht z; omega
  · omega
/-- the answer no -/
theorem ans_no {t a d : Nat} (v : IX n (fun x => x = t) C A I Ls) (wq : Wq C A I Ls t d) (ht : t < (C 3).toNat) (h4 : A 4 t = 2 ∨ A 4 t = 3) (ea : A 3 t = a) (ha : a < (C 1).toNat) (hd : d < (C 1).toNat) (hn : ¬ a = d) (h55 : C 5 + 6 ≤ 15000) : IV (n + 1) (sndC C) (sndA C A d a 3 t) (up I 2 (up (I 2) (C 5).toNat 3)) (up Ls (3 + 2 * a) (Ls (3 + 2 * a) ++ [(C 5).toNat])) := by
  have b := v.1
  have b1 := b.c1
  have b5 := b.c5
  have ix := ix_snd (so := 3) (a := d) (d := a) v (by omega) (by omega) (fun z => hn z.symm) (by decide) ht (fun _ => h4) (fun z => by omega) (fun z => by omega) (fun _ => ea.symm) (fun t' _ h => Or.inr h) h55
  refine ix.v (fun t' ht' e => ?_)
  have e : t' = t := e
  rw [e]
  have mm := mso_snd (C := C) (A := A) (I := I) (Ls := Ls) (a := d) (so := 3) (t := t) (d := a) (by omega)
  intro h3
  have h3 : A 4 t = 3 := h3
  obtain ⟨q1, q2, q3, q4⟩ := wq h3
  refine ⟨q1, ?_, q3, fun o ho hw hp => ?_⟩
  · rw [cM_s b5.1, q2, pI_y (show R3 t _ _ _ _ from ⟨rfl, by decide, by decide⟩)]
    show I 0 t = _
    omega
  · rw [mm.wt] at hw
    refine q4 o ho hw (hp.imp id (fun z => ⟨fun zd => ?_, fun q hq hpn => z q (by rw [snd_5 b5.1]; omega) ?_⟩))
    · refine z (C 5).toNat (by rw [snd_5 b5.1]; omega) ?_
      have nn := snd_n (C := C) (A := A) (a := d) (d := a) (so := 3) (t := t)
      unfold pnd
      rw [nn.1, nn.2.2.1, nn.2.2.2]
      exact ⟨rfl, Or.inr ⟨rfl, zd.symm⟩⟩
    · have o := snd_o (C := C) (A := A) (a := d) (d := a) (so := 3) (t := t) (q := q) (by omega)
      unfold pnd at hpn ⊢
      rw [o.1, o.2.1, o.2.2.1, o.2.2.2]
      exact hpn
/-- the answer yes -/
theorem ans_yes {t a d : Nat} (v : IX n (fun x => x = t) C A I Ls) (wq : Wq C A I Ls t d) (ht : t < (C 3).toNat) (h4 : A 4 t = 2 ∨ A 4 t = 3) (ea : A 3 t = a) (ha : a < (C 1).toNat) (hd : d < (C 1).toNat) (hn : ¬ a = d) (hcf : ¬ acfP C A t d) (h55 : C 5 + 6 ≤ 15000) : IV (n + 1) (sndC C) (sndA C (up A 1 (lckF C A t d (C 2).toNat)) d a 2 t) (up I 2 (up (I 2) (C 5).toNat 2)) (up Ls (3 + 2 * a) (Ls (3 + 2 * a) ++ [(C 5).toNat])) := by
  obtain ⟨b, g1, g2, g3, g4, g5, gw, g6, g7, g8⟩ := v
  have b1 := b.c1
  have b3 := b.c3
  have b5 := b.c5
  have h5 := ab_5 b g4 ht h4
  have lck : IX n (fun x => x = t) C (up A 1 (lckF C A t d (C 2).toNat)) I Ls := by
    refine ⟨b.s1 (lckF_b b (by omega)), g1.cg rfl rfl rfl rfl rfl, g2, g3, g4, g5.lck b g1 ht h5 hcf (v := up A 1 (lckF C A t d (C 2).toNat)) rfl rfl rfl rfl rfl rfl rfl, fun t' ht' hne => ?_, g6, g7, g8⟩
    intro h3
    obtain ⟨q1, q2, q3, q4⟩ := gw t' ht' hne h3
    refine ⟨q1, q2, q3, fun o ho hw hp => ?_⟩
    have := q4 o ho hw hp
    show lckF C A t d (C 2).toNat o = t'
    rcases lck_v (s := d) (o := o) g1 ht with ⟨z1, z2, z3⟩ | ⟨z1, z2⟩
    · have := (nocf b g1 g5 ht h5 hcf z3 z2).1
      omega
    · rw [z1]; exact this
  have ix := ix_snd (so := 2) (a := d) (d := a) lck (by omega) (by omega) (fun z => hn z.symm) (by decide) ht (fun _ => h4) (fun z => by omega) (fun z => by omega) (fun _ => ea.symm) (fun t' _ h => Or.inr h) h55
  refine ix.v (fun t' ht' e => ?_)
  have e : t' = t := e
  rw [e]
  have mm := mso_snd (C := C) (A := up A 1 (lckF C A t d (C 2).toNat)) (I := I) (Ls := Ls) (a := d) (so := 2) (t := t) (d := a) (by omega)
  intro h3
  have h3 : A 4 t = 3 := h3
  obtain ⟨q1, q2, q3, q4⟩ := wq h3
  refine ⟨q1, ?_, q3, fun o ho hw hp => ?_⟩
  · rw [cM_s b5.1, pI_y (show R3 t _ _ _ _ from ⟨rfl, by decide, by decide⟩)]
    show I 0 t = cM (R3 t) C A + 1
    omega
  · rw [mm.wt] at hw
    have hw : Wt A Ls t o := hw
    show lckF C A t d (C 2).toNat o = t
    rcases lck_v (s := d) (o := o) g1 ht with ⟨z1, z2, z3⟩ | ⟨z1, z2⟩
    · exact z1
    · rw [z1]
      refine q4 o ho hw (hp.imp id (fun z => ⟨fun zd => z2 ⟨zd, hw⟩, fun q hq hpn => z q (by rw [snd_5 b5.1]; omega) ?_⟩))
      have o := snd_o (C := C) (A := up A 1 (lckF C A t d (C 2).toNat)) (a := d) (d := a) (so := 2) (t := t) (q := q) (by omega)
      unfold pnd at hpn ⊢
      rw [o.1, o.2.1, o.2.2.1, o.2.2.2]
      exact hpn
/-- what an unlocking by t leaves of the locks -/
theorem unl_v {t s o : Nat} : (unlF A t s (C 2).toNat o = -1 ∧ o < (C 2).toNat ∧ A 0 o = s ∧ A 1 o = t) ∨ (unlF A t s (C 2).toNat o = A 1 o ∧ ¬ (o < (C 2).toNat ∧ A 0 o = s ∧ A 1 o = t)) := by
  unfold unlF
  by_cases e : o < (C 2).toNat ∧ A 0 o = s ∧ A 1 o = t
  · rw [if_pos e]; exact Or.inl ⟨rfl, e⟩
  · rw [if_neg e]; exact Or.inr ⟨rfl, e⟩
theorem G5.unl (g5 : G5 C A Ls) {t s : Nat} (h5 : A 5 t = 0) {v : Nat → Nat → Int} (h1 : v 1 = unlF A t s (C 2).toNat) (h0 : v 0 = A 0) (h3 : v 3 = A 3) (h55 : v 5 = A 5) (h6 : v 6 = A 6) (h10 : v 10 = A 10) (h13 : v 13 = A 13) : G5 C v Ls := by
  have ew : Wt v Ls = Wt A Ls := by funext t' o; unfold Wt; rw [h10]
  have ev : visB v = visB A := by funext c t'; unfold visB; rw [h55, h6, h3]
  refine ⟨fun o t' ho hl => ?_, fun o c ho hc hcn hw hna => ?_⟩
  · rw [h1] at hl
    rw [ew, ev, h55]
    rcases unl_v (C := C) (A := A) (t := t) (s := s) (o := o) with ⟨z1, _⟩ | ⟨z1, _⟩
    · omega
    · rw [z1] at hl
      exact g5.1 o t' ho hl
  · rw [ew] at hw
    rw [h55] at hcn
    rw [h55, h13, h0, h3] at hna
    have q := g5.2 o c ho hc hcn hw hna
    rw [h1]
    rcases unl_v (C := C) (A := A) (t := t) (s := s) (o := o) with ⟨z1, _, _, z4⟩ | ⟨z1, _⟩
    · have e : c = t := by omega
      rw [e] at hcn
      omega
    · rw [z1]; exact q
/-- t, which has no number and does not wait, is unlocked at s -/
theorem unl_step {t s : Nat} (v : IX n (fun x => x = t) C A I Ls) (ht : t < (C 3).toNat) (h4 : A 4 t = 2) : IV n C (up A 1 (unlF A t s (C 2).toNat)) I Ls := by
  obtain ⟨b, g1, g2, g3, g4, g5, gw, g6, g7, g8⟩ := v
  have h5 := ab_5 b g4 ht (Or.inl h4)
  refine ⟨b.s1 (unlF_b b), g1.cg rfl rfl rfl rfl rfl, g2, g3, g4, g5.unl h5 (v := up A 1 (unlF A t s (C 2).toNat)) rfl rfl rfl rfl rfl rfl rfl, fun t' ht' => ?_, g6, g7, g8⟩
  intro h3
  have h3 : A 4 t' = 3 := h3
  have hne : ¬ t' = t := fun e => by rw [e] at h3; omega
  obtain ⟨q1, q2, q3, q4⟩ := gw t' ht' hne h3
  refine ⟨q1, q2, q3, fun o ho hw hp => ?_⟩
  have := q4 o ho hw hp
  show unlF A t s (C 2).toNat o = t'
  rcases unl_v (C := C) (A := A) (t := t) (s := s) (o := o) with ⟨z1, _, _, z4⟩ | ⟨z1, _⟩
  · omega
  · rw [z1]; exact this
/-- a no while t waits -/
theorem no_step {t a d : Nat} (v : IX n (fun x => x = t) C A I Ls) (ht : t < (C 3).toNat) (h4 : A 4 t = 3) (ed : A 3 t = d) (hd : d < (C 1).toNat) (h55 : C 5 + 6 ≤ 15000) : IV (n + 1) (bcl (noQ C (abA C A t d) t a d) d 4 t (C, abA C A t d, I, Ls) (C 1).toNat).1 (bcl (noQ C (abA C A t d) t a d) d 4 t (C, abA C A t d, I, Ls) (C 1).toNat).2.1 (bcl (noQ C (abA C A t d) t a d) d 4 t (C, abA C A t d, I, Ls) (C 1).toNat).2.2.1 (bcl (noQ C (abA C A t d) t a d) d 4 t (C, abA C A t d, I, Ls) (C 1).toNat).2.2.2 := by
  obtain ⟨b, g1, g2, g3, g4, g5, gw, g6, g7, g8⟩ := v
  have h5 := ab_5 b g4 ht (Or.inr h4)
  have a4s : abA C A t d 4 t = 2 := up_s
  have a4o : ∀ c, ¬ c = t → abA C A t d 4 c = A 4 c := fun c hc => show up (A 4) t 2 c = A 4 c from up_n hc
  have ix : IX n (fun _ => False) C (abA C A t d) I Ls := by
    refine ⟨(b.t4 (by decide)).s1 (unlF_b b), g1.cg rfl rfl rfl rfl rfl, g2, g3, ⟨fun t' h1 h2 => ?_, fun t' h1 => ?_, fun t' h1 => ?_⟩, g5.unl h5 (v := abA C A t d) rfl rfl rfl rfl rfl rfl rfl, fun t' ht' _ => ?_, ⟨fun q hq hz => ?_, g6.2⟩, g7, g8⟩
    · have h2 : 0 < A 5 t' := h2
      by_cases e : t' = t
      · rw [e] at h2; omega
      · rw [a4o t' e]; exact g4.1 t' h1 h2
    · by_cases e : t' = t
      · rw [e, a4s] at h1; exact absurd h1 (by decide)
      · rw [a4o t' e] at h1; exact g4.2.1 t' h1
    · rw [a4o t' (by omega)]; exact g4.2.2 t' h1
    · intro h3
      by_cases e : t' = t
      · rw [e, a4s] at h3; exact absurd h3 (by decide)
      · rw [a4o t' e] at h3
        obtain ⟨q1, q2, q3, q4⟩ := gw t' ht' e h3
        refine ⟨q1, q2, q3, fun o ho hw hp => ?_⟩
        have := q4 o ho hw hp
        show unlF A t d (C 2).toNat o = t'
        rcases unl_v (C := C) (A := A) (t := t) (s := d) (o := o) with ⟨z1, _, _, z4⟩ | ⟨z1, _⟩
        · omega
        · rw [z1]; exact this
    · obtain ⟨m1, m2, m3, m4, m5, m6, m7, m8, m9, m10⟩ := g6.1 q hq hz
      refine ⟨m1, m2, m3, m4, m5, fun z => ?_, fun z => ?_, m8, m9, m10⟩
      · show abA C A t d 4 (A 19 q).toNat = 2 ∨ abA C A t d 4 (A 19 q).toNat = 3
        by_cases e : (A 19 q).toNat = t
        · rw [e]; exact Or.inl a4s
        · rw [a4o _ e]; exact m6 z
      · show abA C A t d 4 (A 19 q).toNat = 2
        by_cases e : (A 19 q).toNat = t
        · rw [e]; exact a4s
        · rw [a4o _ e]; exact m7 z
  have iv := ix_bcl (p := (C, abA C A t d, I, Ls)) (P := noQ C (abA C A t d) t a d) (a := d) (t := t) (so := 4) ix (fun u hu e => hu.1 e.symm) (by show (d : Int) < C 1; omega) (by decide) ht (fun z => by omega) (fun _ => a4s) (fun z => by omega) (by show (d : Int) = A 3 t; exact ed.symm) (by decide) (fun t' _ _ => Or.inl (by decide)) (fun s' hs' => by
    show A 21 s' + cM (R5 s') C A + pI (noQ C (abA C A t d) t a d s' ∧ (4 : Int) = 5) ≤ C 6
    rw [pI_n (fun z => absurd z.2 (by decide))]
    have := g7.2.2 s' hs'
    omega) h55
  exact iv.v (fun _ _ z => z.elim)
/-- a yes more, but not the last -/
theorem yes_step {t : Nat} (v : IX n (fun x => x = t) C A I Ls) (ht : t < (C 3).toNat) (h4 : A 4 t = 3) : IX n (fun x => x = t) C (yesA A t) (up I 0 (up (I 0) t (I 0 t - 1))) Ls ↔ A 7 t + 1 ≤ 10 ∧ True := by
  obtain ⟨b, g1, g2, g3, g4, g5, gw, g6, g7, g8⟩ := v
  have a7o : ∀ c, ¬ c = t → yesA A t 7 c = A 7 c := fun c hc => show up (A 7) t _ c = A 7 c from up_n hc
  have a7s : yesA A t 7 t = A 7 t + 1 := up_s
  have i0o : ∀ c, ¬ c = t → up I 0 (up (I 0) t (I 0 t - 1)) 0 c = I 0 c := fun c hc => show up (I 0) t _ c = I 0 c from up_n hc
  constructor
  · intro ix
    have := ix.1.v7 t
    rw [a7s] at this
    exact ⟨this.2, trivial⟩
  · rintro ⟨h7, -⟩
    have b7 := b.v7 t
    refine ⟨b.t7 ⟨by omega, h7⟩, g1.cg rfl rfl rfl rfl rfl, g2, g3, ⟨g4.1, fun t' h1 => ?_, g4.2.2⟩, g5, fun t' ht' hne => ?_, g6, g7, g8⟩
    · have h1 : A 4 t' = 0 := h1
      have ne : ¬ t' = t := fun e => by rw [e] at h1; omega
      rw [a7o t' ne]
      exact g4.2.1 t' h1
    · intro h3
      rw [i0o t' hne, a7o t' hne]
      exact gw t' ht' hne h3
end P12
