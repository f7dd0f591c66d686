section LC
variable {ad : AD} {ow : OW} {K : KK} {h : AH} {C : Nat → Int} {A I : Nat → Nat → Int} {F : Nat → Nat → Nat → Int} {Ls : Nat → List Nat} {cp : Nat → Nat} {Q : AR → AH → Prop}
variable {as ao scr am len : Nat} {adm : Nat → Nat} {xs : Nat → Int} {v0 w : Int} {S N n : Nat}
/-- between two calls of the script -/
def LST (as ao scr am : Nat) (adm : Nat → Nat) (len : Nat) (xs : Nat → Int) (v0 : Int) (S N n : Nat) (c : Int) (h : AH) : Prop := ∃ C A I Ls, C 0 = 0 ∧ IV n C A I Ls ∧ LW as ao scr am adm len xs v0 S N 512 n (up C 0 c) A (C, A, I, Ls) h
/-- what the reference's call will do -/
def RF (j : Nat) (args : List AV) (g : Int → Option AV) (rg : Int → Prop) (as ao scr am : Nat) (adm : Nat → Nat) (len : Nat) (xs : Nat → Int) (v1 : Int) (S N n : Nat) (c : Int) (h : AH) : Prop := ∀ Q : AR → AH → Prop, (∀ b h', (c = 0 → v1 = b ∧ rg b) → LST as ao scr am adm len xs v1 (S + 4200) (N + 1100) (n + 1) c h' → Q (.inl (g b)) h') → Rn j 0 (entL j (aR am :: args)) [] h Q
theorem up00 (c0 : C 0 = 0) : up (up C 0 w) 0 0 = C := by
  rw [up_up, ← c0]
  exact up_self
theorem wcd_a {P R : Prop} {dP : Decidable P} {dR : Decidable R} (hw : wcd (@decide P dP) (@decide R dR) ≠ 0) (z : ¬ P) (z2 : ¬ R) : False := hw (wcd_0 z z2)
theorem LW.mp {M H : Nat} {CM : Nat → Int} {AM : Nat → Nat → Int} {p : CB} (l : LW as ao scr am adm len xs v0 S N M H CM AM p h) : MP am adm CM AM h := by
  obtain ⟨ad, ow, K, F, cp, ea, y, lo⟩ := l
  exact lo.1
theorem LW.sc {M H : Nat} {CM : Nat → Int} {AM : Nat → Nat → Int} {p : CB} (l : LW as ao scr am adm len xs v0 S N M H CM AM p h) : h.1 scr = some (.inl (9, len, .inl xs)) := by
  obtain ⟨ad, ow, K, F, cp, ea, y, lo⟩ := l
  exact lo.2.1
theorem LW.e0 {M : Nat} {c : Int} {h'' : AH} (l : LW as ao scr am adm len xs v0 S N M (n + 1) (up C 0 w) A (C, A, I, Ls) h) (v : IV n C A I Ls) (c0 : C 0 = 0) (hn : n < 512) (m' : MP am adm (up (up C 0 w) 0 c) A h'') (mv : Mv am adm h h'') : LST as ao scr am adm len xs v0 S N (n + 1) c h'' := by
  rw [up_up] at m'
  exact ⟨C, A, I, Ls, c0, v.nx, (l.ref m' mv).jb v.nx (by omega)⟩
theorem LW.e1 {M : Nat} {h'' : AH} {P R : Prop} {dP : Decidable P} {dR : Decidable R} (l : LW as ao scr am adm len xs v0 S N M (n + 1) (up C 0 w) A (C, A, I, Ls) h) (v : IV n C A I Ls) (c0 : C 0 = 0) (hn : n < 512) (m' : MP am adm (up (up C 0 w) 0 (wcd (@decide P dP) (@decide R dR))) A h'') (mv : Mv am adm h h'') (z : P) : LST as ao scr am adm len xs v0 S N (n + 1) 1 h'' := by
  rw [wcd_1 z] at m'
  exact l.e0 v c0 hn m' mv
theorem LW.e2 {M : Nat} {h'' : AH} {P R : Prop} {dP : Decidable P} {dR : Decidable R} (l : LW as ao scr am adm len xs v0 S N M (n + 1) (up C 0 w) A (C, A, I, Ls) h) (v : IV n C A I Ls) (c0 : C 0 = 0) (hn : n < 512) (m' : MP am adm (up (up C 0 w) 0 (wcd (@decide P dP) (@decide R dR))) A h'') (mv : Mv am adm h h'') (z : ¬ P) (z2 : R) : LST as ao scr am adm len xs v0 S N (n + 1) 2 h'' := by
  rw [wcd_2 z z2] at m'
  exact l.e0 v c0 hn m' mv
theorem LW.ok {M : Nat} {h'' : AH} {CM C' : Nat → Int} {AM A' : Nat → Nat → Int} {p : CB} (l : LW as ao scr am adm len xs v0 S N M (n + 1) CM AM p h) (m' : MP am adm C' A' h'') (mv : Mv am adm h h'') (hn : n < 512) (c0 : C' 0 = 0) (hC : ∀ k, ¬ k = 0 → C' k = p.1 k) (sm : SmA p.2.1 A') (v : IV (n + 1) C' A' p.2.2.1 p.2.2.2) : LST as ao scr am adm len xs v0 S N (n + 1) 0 h'' := by
  have e : up C' 0 0 = C' := by
    have := up_self (f := C') (k := 0)
    rw [c0] at this
    exact this
  refine ⟨C', A', p.2.2.1, p.2.2.2, c0, v, ?_⟩
  rw [e]
  exact ((l.agr hC sm v.1).ref m' mv).jb v (by omega)
theorem IV.i4 {I' : Nat → Nat → Int} (hI : ∀ j, ¬ j = 4 → I' j = I j) (v : IV n C A I Ls) : IV n C A I' Ls := by
  have e0 := hI 0 (by decide)
  have e1 := hI 1 (by decide)
  have e2 := hI 2 (by decide)
  have e3 := hI 3 (by decide)
  obtain ⟨b, g1, g2, g3, g4, g5, gw, g6, g7, g8⟩ := v
  refine ⟨b, ?_, g2, g3, g4, g5, fun t ht => ?_, ?_, g7, ?_⟩
  · unfold G1
    rw [e1]
    exact g1
  · have := gw t ht
    unfold WtG
    rw [e0]
    exact this
  · unfold G6
    refine ⟨fun q hq h18 => ?_, ?_, g6.2.2⟩
    · have := g6.1 q hq h18
      unfold msq
      rw [e2]
      exact this
    · rw [e2]
      exact g6.2.1
  · unfold G8
    rw [e3]
    exact g8
theorem ltst_0w {t o : Nat} : ∀ m, ltst (up C 0 w) A t o m = ltst C A t o m := by
  intro m
  induction m with
  | zero => rfl
  | succ m ih =>
    simp only [ltst]
    rw [ih]
    rfl
theorem rdV_0w {t o : Nat} : rdV (up C 0 w) A t o = rdV C A t o := by
  unfold rdV
  rw [ltst_0w]
  rfl
theorem cms_0 {t s : Nat} {C' : Nat → Int} {A' : Nat → Nat → Int} (h5 : 0 ≤ C 5) (hc : cmsP C A t s C' A') : C' 0 = C 0 := by
  obtain ⟨m, e, -⟩ := hc
  rw [e]
  exact (bcs_5 (C := cmC C) (A := cm1A C A t s) (P := fun u => ¬ u = s) (a := s) (so := 5) (t := t) h5 (C 1).toNat).2.2.1 0 (by decide)
theorem cmt_0 {t s : Nat} {C' : Nat → Int} {A' : Nat → Nat → Int} (h5 : 0 ≤ C 5) (hc : cmtP C A t s C' A') : C' 0 = C 0 := by
  rcases hc with ⟨-, e, -⟩ | ⟨-, -, hc⟩ | ⟨-, -, e, -⟩ | ⟨-, -, -, hc⟩ | ⟨-, -, -, e, -⟩
  · rw [e]
  · exact cms_0 h5 hc
  · rw [e]
  · exact cms_0 h5 hc
  · rw [e]
    exact (bcs_5 (C := C) (A := wtgA C A t s) (P := askQ C (wtgA C A t s) t s) (a := s) (so := 1) (t := t) h5 (C 1).toNat).2.2.1 0 (by decide)
theorem arr_0 {so : Int} {t s a d : Nat} {C' : Nat → Int} {A' : Nat → Nat → Int} (h5 : 0 ≤ C 5) (hc : arrP C A so t s a d C' A') : C' 0 = C 0 := by
  rcases hc with ⟨-, -, e, -⟩ | ⟨-, -, e, -⟩ | ⟨-, -, e, -⟩ | ⟨-, -, -, e, -⟩ | ⟨-, -, -, hc⟩ | ⟨-, -, e, -⟩ | ⟨-, e, -⟩ | ⟨-, e, -⟩
  · rw [e]; rfl
  · rw [e]; rfl
  · rw [e]
  · rw [e]
  · exact cms_0 h5 hc
  · rw [e]
    exact (bcs_5 (C := C) (A := abA C A t d) (P := noQ C (abA C A t d) t a d) (a := d) (so := 4) (t := t) h5 (C 1).toNat).2.2.1 0 (by decide)
  · rw [e]
  · rw [e]
theorem b_sites (l : LW as ao scr am adm len xs v0 S N 512 n (up C 0 w) A (C, A, I, Ls) h) (v : IV n C A I Ls) (c0 : C 0 = 0) (hn : n < 512) {m : Int} (hm : inR m) (k : ∀ c v1 p' h', inR c → LW as ao scr am adm len xs v1 (S + 4200) (N + 1100) 1536 (n + 1) (up C 0 w) A p' h' → RF 103 [aI m] (fun _ => none) (fun _ => True) as ao scr am adm len xs v1 S N n c h' → Q (.inl (some (aI c))) h') : Rn 9 0 (entL 9 [aR as, aI m]) [] h Q := by
  have b : RB (up C 0 w) A := v.1
  have b1 := v.1.c1
  have b2 := v.1.c2
  have b3 := v.1.c3
  have b4 := v.1.c4
  have b5 := v.1.c5
  have bd := v.bd
  refine w_sites l v hn (by omega) hm (fun z h' l' => k 1 _ _ h' ⟨by decide, by decide⟩ l' (fun Q kk => r_sites l'.mp b hm (fun h'' _ m' mv => kk 0 h'' (fun q => absurd q (by decide)) (l'.e1 v c0 hn m' mv z)) (fun h'' q _ _ => absurd z q.1))) (fun z z2 h' l' => k 2 _ _ h' ⟨by decide, by decide⟩ l' (fun Q kk => r_sites l'.mp b hm (fun h'' _ m' mv => kk 0 h'' (fun q => absurd q (by decide)) (l'.e2 v c0 hn m' mv z z2)) (fun h'' q _ _ => absurd z2 q.2))) (fun z z2 h' l' => k 0 _ _ h' ⟨by decide, by decide⟩ l' (fun Q kk => ?_))
  refine r_sites l'.mp b hm (fun h'' hw _ _ => (wcd_a hw z z2).elim) (fun h'' _ m' mv => ?_)
  have m' : MP am adm (up C 1 m) A h'' := by rw [up00 c0] at m'; exact m'
  have iv := sit_step v (by omega) (m := m.toNat) (by omega)
  rw [show ((m.toNat : Nat) : Int) = m by omega] at iv
  exact kk v0 h'' (fun _ => ⟨rfl, trivial⟩) (l'.ok m' mv hn c0 (fun _ _ => rfl) SmA.rf iv)
theorem b_object (l : LW as ao scr am adm len xs v0 S N 512 n (up C 0 w) A (C, A, I, Ls) h) (v : IV n C A I Ls) (c0 : C 0 = 0) (hn : n < 512) {s : Int} {wb : Bool} (hs : inR s) (k : ∀ c v1 p' h', inR c → LW as ao scr am adm len xs v1 (S + 4200) (N + 1100) 1536 (n + 1) (up C 0 w) A p' h' → RF 105 [aI s, aI (bI wb)] (fun b => some (aI b)) (inR) as ao scr am adm len xs v1 S N n c h' → Q (.inl (some (aI c))) h') : Rn 12 0 (entL 12 [aR as, aI s, aI (bI wb), aR ao]) [] h Q := by
  have b : RB (up C 0 w) A := v.1
  have b1 := v.1.c1
  have b2 := v.1.c2
  have b3 := v.1.c3
  have b4 := v.1.c4
  have b5 := v.1.c5
  have bd := v.bd
  refine w_object l v hn (by omega) hs (fun z h' l' => k 1 _ _ h' ⟨by decide, by decide⟩ l' (fun Q kk => r_object (w := wb) l'.mp b hs (fun h'' _ m' mv => kk 0 h'' (fun q => absurd q (by decide)) (l'.e1 v c0 hn m' mv z)) (fun h'' q _ _ => absurd z q.1))) (fun z z2 h' l' => k 2 _ _ h' ⟨by decide, by decide⟩ l' (fun Q kk => r_object (w := wb) l'.mp b hs (fun h'' _ m' mv => kk 0 h'' (fun q => absurd q (by decide)) (l'.e2 v c0 hn m' mv z z2)) (fun h'' q _ _ => absurd z2 q.2))) (fun z z2 h' l' => k 0 _ _ h' ⟨by decide, by decide⟩ l' (fun Q kk => ?_))
  refine r_object (w := wb) l'.mp b hs (fun h'' hw _ _ => (wcd_a hw (fun q => q z) z2).elim) (fun h'' _ m' mv => ?_)
  have m' : MP am adm (up C 2 (C 2 + 1)) (obA C A s wb) h'' := by rw [up00 c0] at m'; exact m'
  exact kk (C 2) h'' (fun _ => ⟨rfl, by show inR (C 2); omega⟩) (l'.ok (p := obS C A I Ls s wb) m' mv hn c0 (fun _ _ => rfl) SmA.rf (obj_step v z z2))
theorem b_begin (l : LW as ao scr am adm len xs v0 S N 512 n (up C 0 w) A (C, A, I, Ls) h) (v : IV n C A I Ls) (c0 : C 0 = 0) (hn : n < 512) {s : Int} (hs : inR s) (k : ∀ c v1 p' h', inR c → LW as ao scr am adm len xs v1 (S + 4200) (N + 1100) 1536 (n + 1) (up C 0 w) A p' h' → RF 107 [aI s] (fun b => some (aI b)) (inR) as ao scr am adm len xs v1 S N n c h' → Q (.inl (some (aI c))) h') : Rn 23 0 (entL 23 [aR as, aI s, aR ao]) [] h Q := by
  have b : RB (up C 0 w) A := v.1
  have b1 := v.1.c1
  have b2 := v.1.c2
  have b3 := v.1.c3
  have b4 := v.1.c4
  have b5 := v.1.c5
  have bd := v.bd
  refine w_begin l v hn (by omega) hs (fun z h' l' => k 1 _ _ h' ⟨by decide, by decide⟩ l' (fun Q kk => r_begin l'.mp b hs (fun h'' _ m' mv => kk 0 h'' (fun q => absurd q (by decide)) (l'.e1 v c0 hn m' mv z)) (fun h'' q _ _ => absurd z q.1))) (fun z z2 h' l' => k 2 _ _ h' ⟨by decide, by decide⟩ l' (fun Q kk => r_begin l'.mp b hs (fun h'' _ m' mv => kk 0 h'' (fun q => absurd q (by decide)) (l'.e2 v c0 hn m' mv z z2)) (fun h'' q _ _ => absurd z2 q.2))) (fun z z2 h' l' => k 0 _ _ h' ⟨by decide, by decide⟩ l' (fun Q kk => ?_))
  refine r_begin l'.mp b hs (fun h'' hw _ _ => (wcd_a hw (fun q => q z) z2).elim) (fun h'' _ m' mv => ?_)
  have m' : MP am adm (up C 3 (C 3 + 1)) (bgA C A s) h'' := by rw [up00 c0] at m'; exact m'
  exact kk (C 3) h'' (fun _ => ⟨rfl, by show inR (C 3); omega⟩) (l'.ok (p := bgS C A I Ls s) m' mv hn c0 (fun _ _ => rfl) SmA.rf (beg_step v z z2))
theorem b_read (l : LW as ao scr am adm len xs v0 S N 512 n (up C 0 w) A (C, A, I, Ls) h) (v : IV n C A I Ls) (c0 : C 0 = 0) (hn : n < 512) {t o : Int} (ht : inR t) (ho : inR o) (k : ∀ c v1 p' h', inR c → LW as ao scr am adm len xs v1 (S + 4200) (N + 1100) 1536 (n + 1) (up C 0 w) A p' h' → RF 108 [aI t, aI o] (fun b => some (aL b)) (inL) as ao scr am adm len xs v1 S N n c h' → Q (.inl (some (aI c))) h') : Rn 26 0 (entL 26 [aR as, aI t, aI o, aR ao]) [] h Q := by
  have b : RB (up C 0 w) A := v.1
  have b1 := v.1.c1
  have b2 := v.1.c2
  have b3 := v.1.c3
  have b4 := v.1.c4
  have b5 := v.1.c5
  have bd := v.bd
  refine w_read l v hn (by omega) ht ho (fun z h' l' => k 1 _ _ h' ⟨by decide, by decide⟩ l' (fun Q kk => r_read l'.mp b ht ho (fun h'' _ m' mv => kk 0 h'' (fun q => absurd q (by decide)) (l'.e1 v c0 hn m' mv z)) (fun h'' q _ _ => absurd z q.1))) (fun z z2 h' l' => k 2 _ _ h' ⟨by decide, by decide⟩ l' (fun Q kk => r_read l'.mp b ht ho (fun h'' _ m' mv => kk 0 h'' (fun q => absurd q (by decide)) (l'.e2 v c0 hn m' mv z z2)) (fun h'' q _ _ => absurd z2 q.2))) (fun z z2 h' l' => k 0 _ _ h' ⟨by decide, by decide⟩ l' (fun Q kk => ?_))
  refine r_read l'.mp b ht ho (fun h'' hw _ _ => (wcd_a hw z z2).elim) (fun h'' _ m' mv => ?_)
  rw [rdV_0w]
  exact kk (rdV C A t.toNat o.toNat) h'' (fun _ => ⟨rfl, rd_b v.1⟩) (l'.e0 v c0 hn m' mv)
theorem b_write (l : LW as ao scr am adm len xs v0 S N 512 n (up C 0 w) A (C, A, I, Ls) h) (v : IV n C A I Ls) (c0 : C 0 = 0) (hn : n < 512) {t o x : Int} (ht : inR t) (ho : inR o) (hx : inL x) (k : ∀ c v1 p' h', inR c → LW as ao scr am adm len xs v1 (S + 4200) (N + 1100) 1536 (n + 1) (up C 0 w) A p' h' → RF 115 [aI t, aI o, aL x] (fun _ => none) (fun _ => True) as ao scr am adm len xs v1 S N n c h' → Q (.inl (some (aI c))) h') : Rn 39 0 (entL 39 [aR as, aI t, aI o, aL x]) [] h Q := by
  have b : RB (up C 0 w) A := v.1
  have b1 := v.1.c1
  have b2 := v.1.c2
  have b3 := v.1.c3
  have b4 := v.1.c4
  have b5 := v.1.c5
  have bd := v.bd
  refine w_write l v hn (by omega) ht ho hx (fun z h' l' => k 1 _ _ h' ⟨by decide, by decide⟩ l' (fun Q kk => r_write l'.mp b ht ho (fun h'' _ m' mv => kk 0 h'' (fun q => absurd q (by decide)) (l'.e1 v c0 hn m' mv z)) (fun h'' q _ _ => absurd z q.1))) (fun z z2 h' l' => k 2 _ _ h' ⟨by decide, by decide⟩ l' (fun Q kk => r_write l'.mp b ht ho (fun h'' _ m' mv => kk 0 h'' (fun q => absurd q (by decide)) (l'.e2 v c0 hn m' mv z z2)) (fun h'' q _ _ => absurd z2 q.2))) (fun z z2 p h' hp l' => k 0 _ _ h' ⟨by decide, by decide⟩ l' (fun Q kk => ?_))
  refine r_write l'.mp b ht ho (fun h'' hw _ _ => (wcd_a hw z z2).elim) (fun h'' _ m' mv => ?_)
  have nb := z
  have nr := z2
  unfold badP at nb
  unfold refP at nr
  rw [show bI false = 0 from rfl] at nb
  have m' : MP am adm (didC C) (didA C A t o x 0) h'' := by rw [up00 c0] at m'; exact m'
  obtain ⟨q1, q2, iv⟩ := wro_step v (t := t.toNat) (o := o.toNat) (by omega) (by omega) (by omega) (by omega) hx (by omega) hp
  rw [show ((t.toNat : Nat) : Int) = t by omega, show ((o.toNat : Nat) : Int) = o by omega] at q2 iv
  exact kk v0 h'' (fun _ => ⟨rfl, trivial⟩) (l'.ok m' mv hn c0 (fun k _ => by rw [q1]) (by rw [q2]; exact SmA.rf) iv)
theorem b_change (l : LW as ao scr am adm len xs v0 S N 512 n (up C 0 w) A (C, A, I, Ls) h) (v : IV n C A I Ls) (c0 : C 0 = 0) (hn : n < 512) {t o x : Int} {yb : Bool} (ht : inR t) (ho : inR o) (hx : inR x) (k : ∀ c v1 p' h', inR c → LW as ao scr am adm len xs v1 (S + 4200) (N + 1100) 1536 (n + 1) (up C 0 w) A p' h' → RF 117 [aI t, aI o, aI x, aI (bI yb)] (fun _ => none) (fun _ => True) as ao scr am adm len xs v1 S N n c h' → Q (.inl (some (aI c))) h') : Rn 43 0 (entL 43 [aR as, aI t, aI o, aI x, aI (bI yb)]) [] h Q := by
  have b : RB (up C 0 w) A := v.1
  have b1 := v.1.c1
  have b2 := v.1.c2
  have b3 := v.1.c3
  have b4 := v.1.c4
  have b5 := v.1.c5
  have bd := v.bd
  refine w_change l v hn (by omega) ht ho hx (fun z h' l' => k 1 _ _ h' ⟨by decide, by decide⟩ l' (fun Q kk => r_change (w := yb) l'.mp b ht ho hx (fun h'' _ m' mv => kk 0 h'' (fun q => absurd q (by decide)) (l'.e1 v c0 hn m' mv z)) (fun h'' q _ _ => absurd z q.1))) (fun z z2 h' l' => k 2 _ _ h' ⟨by decide, by decide⟩ l' (fun Q kk => r_change (w := yb) l'.mp b ht ho hx (fun h'' _ m' mv => kk 0 h'' (fun q => absurd q (by decide)) (l'.e2 v c0 hn m' mv z z2)) (fun h'' q _ _ => absurd z2 q.2))) (fun z z2 h' l' => k 0 _ _ h' ⟨by decide, by decide⟩ l' (fun Q kk => ?_))
  refine r_change (w := yb) l'.mp b ht ho hx (fun h'' hw _ _ => (wcd_a hw z z2).elim) (fun h'' _ m' mv => ?_)
  have nb := z
  have nr := z2
  unfold badP at nb
  unfold refP at nr
  rw [show bI true = 1 from rfl] at nb
  have m' : MP am adm (didC C) (didA C A t o x (if yb = true then 1 else -1)) h'' := by rw [up00 c0] at m'; exact m'
  have iv := cha_step v (t := t.toNat) (o := o.toNat) (w := x) (s := if yb = true then 1 else -1) (by omega) (by omega) (by omega) (by omega) hx (by cases yb <;> simp) (by omega)
  have iv : IV (n + 1) (didC C) (didA C A ((t.toNat : Nat) : Int) ((o.toNat : Nat) : Int) x (if yb = true then 1 else -1)) _ _ := iv
  have q2 : (chaS C A I Ls t.toNat o.toNat x (if yb = true then 1 else -1)).2.1 = didA C A t o x (if yb = true then 1 else -1) := by
    show didA C A ((t.toNat : Nat) : Int) ((o.toNat : Nat) : Int) x (if yb = true then 1 else -1) = _
    rw [show ((t.toNat : Nat) : Int) = t by omega, show ((o.toNat : Nat) : Int) = o by omega]
  rw [show ((t.toNat : Nat) : Int) = t by omega, show ((o.toNat : Nat) : Int) = o by omega] at iv
  exact kk v0 h'' (fun _ => ⟨rfl, trivial⟩) (l'.ok (C' := didC C) m' mv hn c0 (fun k _ => rfl) (by rw [q2]; exact SmA.rf) iv)
theorem b_count3 (l : LW as ao scr am adm len xs v0 S N 512 n (up C 0 w) A (C, A, I, Ls) h) (v : IV n C A I Ls) (c0 : C 0 = 0) (hn : n < 512) {t o x : Int} (ht : inR t) (ho : inR o) (hx : inR x) (k : ∀ c v1 p' h', inR c → LW as ao scr am adm len xs v1 (S + 4200) (N + 1100) 1536 (n + 1) (up C 0 w) A p' h' → RF 118 [aI t, aI o, aI x] (fun b => some (aI b)) (inR) as ao scr am adm len xs v1 S N n c h' → Q (.inl (some (aI c))) h') : Rn 47 0 (entL 47 [aR as, aI t, aI o, aI x, aR ao]) [] h Q := by
  have b : RB (up C 0 w) A := v.1
  have b1 := v.1.c1
  have b2 := v.1.c2
  have b3 := v.1.c3
  have b4 := v.1.c4
  have b5 := v.1.c5
  have bd := v.bd
  refine w_count3 l v hn (by omega) ht ho hx (fun z h' l' => k 1 _ _ h' ⟨by decide, by decide⟩ l' (fun Q kk => r_count3 l'.mp b ht ho hx (fun h'' _ m' mv => kk 0 h'' (fun q => absurd q (by decide)) (l'.e1 v c0 hn m' mv z)) (fun h'' q _ _ => absurd z q.1))) (fun z z2 h' l' => k 2 _ _ h' ⟨by decide, by decide⟩ l' (fun Q kk => r_count3 l'.mp b ht ho hx (fun h'' _ m' mv => kk 0 h'' (fun q => absurd q (by decide)) (l'.e2 v c0 hn m' mv z z2)) (fun h'' q _ _ => absurd z2 q.2))) (fun z z2 h' l' => k 0 _ _ h' ⟨by decide, by decide⟩ l' (fun Q kk => ?_))
  refine r_count3 l'.mp b ht ho hx (fun h'' hw _ _ => (wcd_a hw z z2).elim) (fun h'' _ m' mv => ?_)
  exact kk (cnt A t.toNat o.toNat x (C 4).toNat) h'' (fun _ => ⟨rfl, by have := cnt_b v.1 t.toNat o.toNat x (C 4).toNat; unfold inR; omega⟩) (l'.e0 v c0 hn m' mv)
theorem b_element (l : LW as ao scr am adm len xs v0 S N 512 n (up C 0 w) A (C, A, I, Ls) h) (v : IV n C A I Ls) (c0 : C 0 = 0) (hn : n < 512) {t o i : Int} (ht : inR t) (ho : inR o) (hi : inR i) (k : ∀ c v1 p' h', inR c → LW as ao scr am adm len xs v1 (S + 4200) (N + 1100) 1536 (n + 1) (up C 0 w) A p' h' → RF 120 [aI t, aI o, aI i] (fun b => some (aI b)) (inR) as ao scr am adm len xs v1 S N n c h' → Q (.inl (some (aI c))) h') : Rn 50 0 (entL 50 [aR as, aI t, aI o, aI i, aR ao]) [] h Q := by
  have b : RB (up C 0 w) A := v.1
  have b1 := v.1.c1
  have b2 := v.1.c2
  have b3 := v.1.c3
  have b4 := v.1.c4
  have b5 := v.1.c5
  have bd := v.bd
  refine w_element l v hn (by omega) ht ho hi (fun z h' l' => k 1 _ _ h' ⟨by decide, by decide⟩ l' (fun Q kk => r_element l'.mp b ht ho hi (fun h'' _ m' mv => kk 0 h'' (fun q => absurd q (by decide)) (l'.e1 v c0 hn m' mv z)) (fun h'' q _ _ _ => absurd z q.1) (fun x h'' q _ _ _ _ => absurd z q.1))) (fun z z2 h' l' => k 2 _ _ h' ⟨by decide, by decide⟩ l' (fun Q kk => r_element l'.mp b ht ho hi (fun h'' _ m' mv => kk 0 h'' (fun q => absurd q (by decide)) (l'.e2 v c0 hn m' mv z z2)) (fun h'' q _ _ _ => absurd z2 q.2) (fun x h'' q _ _ _ _ => absurd z2 q.2))) (fun z z2 I' h' hq hI l' => k 3 _ _ h' ⟨by decide, by decide⟩ l' (fun Q kk => ?_)) (fun z z2 x I' h' hr hi0 he hI l' => k 0 _ _ h' ⟨by decide, by decide⟩ l' (fun Q kk => ?_))
  · refine r_element l'.mp b ht ho hi (fun h'' hw _ _ => (wcd_a hw z z2).elim) (fun h'' _ _ m' mv => ?_) (fun x h'' _ hi0 he _ _ => ?_)
    · have m' : MP am adm (up (up C 0 w) 0 3) A h'' := by rw [up_up] at m'; exact m'
      exact kk 0 h'' (fun q => absurd q (by decide)) (l'.e0 (v.i4 hI) c0 hn m' mv)
    · rcases hq with hq | hq
      · omega
      · rw [show eli A t.toNat o.toNat (C 4).toNat (i.toNat + 1) = some x from he] at hq
        cases hq
  · refine r_element l'.mp b ht ho hi (fun h'' hw _ _ => (wcd_a hw z z2).elim) (fun h'' _ hq _ _ => ?_) (fun x' h'' _ _ he' m' mv => ?_)
    · rcases hq with hq | hq
      · omega
      · rw [show eli A t.toNat o.toNat (C 4).toNat (i.toNat + 1) = none from hq] at he
        cases he
    · have he' : eli A t.toNat o.toNat (C 4).toNat (i.toNat + 1) = some x' := he'
      rw [he] at he'
      cases he'
      exact kk x h'' (fun _ => ⟨rfl, hr⟩) (l'.e0 (v.i4 hI) c0 hn m' mv)
theorem b_commit (l : LW as ao scr am adm len xs v0 S N 512 n (up C 0 w) A (C, A, I, Ls) h) (v : IV n C A I Ls) (c0 : C 0 = 0) (hn : n < 512) {t : Int} (ht : inR t) (k : ∀ c v1 p' h', inR c → LW as ao scr am adm len xs v1 (S + 4200) (N + 1100) 1536 (n + 1) (up C 0 w) A p' h' → RF 122 [aI t] (fun b => some (aI b)) (inR) as ao scr am adm len xs v1 S N n c h' → Q (.inl (some (aI c))) h') : Rn 59 0 (entL 59 [aR as, aI t, aR ao]) [] h Q := by
  have b : RB (up C 0 w) A := v.1
  have b1 := v.1.c1
  have b2 := v.1.c2
  have b3 := v.1.c3
  have b4 := v.1.c4
  have b5 := v.1.c5
  have bd := v.bd
  refine w_commit l v hn (by omega) ht (fun z h' l' => k 1 _ _ h' ⟨by decide, by decide⟩ l' (fun Q kk => r_commit l'.mp b ht (fun (q : 0 ≤ t ∧ t < C 3) q2 => v.h14 (by omega) (Or.inl q2)) (show C 6 < 1000 by omega) (show C 5 + 6 ≤ 15000 by omega) (fun _ q2 => by have := (v.2.2.2.2.1.2.1 t.toNat q2).2; omega) (fun h'' _ m' mv => kk 0 h'' (fun q => absurd q (by decide)) (l'.e1 v c0 hn m' mv z)) (fun C' A' h'' q _ _ _ _ => absurd z q.1))) (fun z z2 h' l' => k 2 _ _ h' ⟨by decide, by decide⟩ l' (fun Q kk => r_commit l'.mp b ht (fun (q : 0 ≤ t ∧ t < C 3) q2 => v.h14 (by omega) (Or.inl q2)) (show C 6 < 1000 by omega) (show C 5 + 6 ≤ 15000 by omega) (fun _ q2 => by have := (v.2.2.2.2.1.2.1 t.toNat q2).2; omega) (fun h'' _ m' mv => kk 0 h'' (fun q => absurd q (by decide)) (l'.e2 v c0 hn m' mv z ⟨Decidable.not_not.mp z, z2⟩)) (fun C' A' h'' q _ _ _ _ => absurd ⟨Decidable.not_not.mp z, z2⟩ q.2))) (fun z z2 p h' hp l' => k 0 _ _ h' ⟨by decide, by decide⟩ l' (fun Q kk => ?_))
  refine r_commit l'.mp b ht (fun (q : 0 ≤ t ∧ t < C 3) q2 => v.h14 (by omega) (Or.inl q2)) (show C 6 < 1000 by omega) (show C 5 + 6 ≤ 15000 by omega) (fun _ q2 => by have := (v.2.2.2.2.1.2.1 t.toNat q2).2; omega) (fun h'' hw _ _ => (wcd_a hw (fun q => q z) (fun q => q.2 z2)).elim) (fun C' A' h'' _ cm rb m' mv => ?_)
  rw [up00 c0] at cm
  have b33 := v.1.v3 t.toNat
  obtain ⟨q1, q2, iv⟩ := try_step v (t := t.toNat) (s := (A 3 t.toNat).toNat) (by omega) (by omega) z2 (by omega) hp cm
  have q4 : p.2.1 4 = A' 4 := q2 4 (by decide) (by decide) (by decide) (by decide) (by decide) (by decide) (by decide)
  have r4 := rb.v4 t.toNat
  exact kk (A' 4 t.toNat) h'' (fun _ => ⟨by rw [q4], by unfold inR; omega⟩) (l'.ok m' mv hn ((cmt_0 (by omega) cm).trans c0) (fun k _ => by rw [q1]) q2 iv)
theorem b_abort (l : LW as ao scr am adm len xs v0 S N 512 n (up C 0 w) A (C, A, I, Ls) h) (v : IV n C A I Ls) (c0 : C 0 = 0) (hn : n < 512) {t : Int} (ht : inR t) (k : ∀ c v1 p' h', inR c → LW as ao scr am adm len xs v1 (S + 4200) (N + 1100) 1536 (n + 1) (up C 0 w) A p' h' → RF 132 [aI t] (fun _ => none) (fun _ => True) as ao scr am adm len xs v1 S N n c h' → Q (.inl (some (aI c))) h') : Rn 75 0 (entL 75 [aR as, aI t]) [] h Q := by
  have b : RB (up C 0 w) A := v.1
  have b1 := v.1.c1
  have b2 := v.1.c2
  have b3 := v.1.c3
  have b4 := v.1.c4
  have b5 := v.1.c5
  have bd := v.bd
  refine w_abort l v hn (by omega) ht (fun z h' l' => k 1 _ _ h' ⟨by decide, by decide⟩ l' (fun Q kk => r_abort l'.mp b ht (fun h'' _ m' mv => kk 0 h'' (fun q => absurd q (by decide)) (l'.e1 v c0 hn m' mv z)) (fun h'' q _ _ => absurd z q.1))) (fun z z2 h' l' => k 2 _ _ h' ⟨by decide, by decide⟩ l' (fun Q kk => r_abort l'.mp b ht (fun h'' _ m' mv => kk 0 h'' (fun q => absurd q (by decide)) (l'.e2 v c0 hn m' mv z ⟨Decidable.not_not.mp z, z2⟩)) (fun h'' q _ _ => absurd ⟨Decidable.not_not.mp z, z2⟩ q.2))) (fun z z2 h' l' => k 0 _ _ h' ⟨by decide, by decide⟩ l' (fun Q kk => ?_))
  refine r_abort l'.mp b ht (fun h'' hw _ _ => (wcd_a hw (fun q => q z) (fun q => q.2 z2)).elim) (fun h'' _ m' mv => ?_)
  have m' : MP am adm C (up A 4 (up (A 4) t.toNat 2)) h'' := by rw [up00 c0] at m'; exact m'
  exact kk v0 h'' (fun _ => ⟨rfl, trivial⟩) (l'.ok m' mv hn c0 (fun _ _ => rfl) SmA.rf (v.ph (t := t.toNat) (by omega) z2 (Or.inr rfl)))
theorem dlv_h (v : IV n C A I Ls) {a d : Int} : ((0 ≤ a ∧ a < C 1) ∧ (0 ≤ d ∧ d < C 1)) → ∀ j, j < (C 5).toNat → wtq A a d j → arrH A (A 18 j) (A 19 j).toNat (A 3 (A 19 j).toNat).toNat d.toNat := by
  intro z j hj hq
  have bd := v.bd
  have h14 := fun h4 => v.h14 (t := (A 19 j).toNat) (v.mb j hj) (Or.inr h4)
  obtain ⟨b, g1, g2, g3, g4, g5, gw, g6, g7, g8⟩ := v
  have q2 := g6.1 j hj hq.1
  have q3 := (g6.2.1 j hj).1
  have b3 := b.v3 (A 19 j).toNat
  have hq1 := hq.2.2
  refine ⟨by omega, fun h4 => ⟨h14 h4, ?_⟩, fun hs => ?_⟩
  · have w1 := gw (A 19 j).toNat (by omega) h4
    have := (nP_b (fun q => R3 (A 19 j).toNat (A 16 q) (A 17 q) (A 18 q) (A 19 q)) (C 5).toNat).1
    have e : cM (R3 (A 19 j).toNat) C A = nP (fun q => R3 (A 19 j).toNat (A 16 q) (A 17 q) (A 18 q) (A 19 q)) (C 5).toNat := rfl
    omega
  · have w1 := g7.2.2 d.toNat (by omega)
    have w2 := q2.2.2.2.1
    have e : cM (R5 d.toNat) C A = nP (fun q => R5 d.toNat (A 16 q) (A 17 q) (A 18 q) (A 19 q)) (C 5).toNat := rfl
    have := nP_up (P := fun q => R5 d.toNat (A 16 q) (A 17 q) (A 18 q) (A 19 q)) (q := j) (C 5).toNat hj ⟨by omega, by omega⟩
    omega
theorem b_deliver (l : LW as ao scr am adm len xs v0 S N 512 n (up C 0 w) A (C, A, I, Ls) h) (v : IV n C A I Ls) (c0 : C 0 = 0) (hn : n < 512) {a d : Int} (ha : inR a) (hd : inR d) (k : ∀ c v1 p' h', inR c → LW as ao scr am adm len xs v1 (S + 4200) (N + 1100) 1536 (n + 1) (up C 0 w) A p' h' → RF 133 [aI a, aI d] (fun b => some (aI b)) (inR) as ao scr am adm len xs v1 S N n c h' → Q (.inl (some (aI c))) h') : Rn 77 0 (entL 77 [aR as, aI a, aI d, aR ao]) [] h Q := by
  have b : RB (up C 0 w) A := v.1
  have b1 := v.1.c1
  have b2 := v.1.c2
  have b3 := v.1.c3
  have b4 := v.1.c4
  have b5 := v.1.c5
  have bd := v.bd
  have hH := dlv_h v (a := a) (d := d)
  have mem : ∀ q, (0 ≤ d ∧ d < C 1) → (q ∈ Ls (3 + 2 * d.toNat) ↔ q < (C 5).toNat ∧ ¬ A 18 q = 0 ∧ A 17 q = d) := fun q hd => by
    rw [v.2.2.2.2.2.2.2.1.2.2 d.toNat (by omega), List.mem_filter, List.mem_range, decide_eq_true_eq]
    rw [show ((d.toNat : Nat) : Int) = d by omega]
  refine w_deliver l v hn (by omega) ha hd (fun z h' l' => k 1 _ _ h' ⟨by decide, by decide⟩ l' (fun Q kk => r_deliver l'.mp b ha hd hH (show C 6 < 1000 by omega) (show C 5 + 6 ≤ 15000 by omega) (fun h'' _ m' mv => kk 0 h'' (fun q => absurd q (by decide)) (l'.e1 v c0 hn m' mv z)) (fun h'' q _ _ _ => absurd z q.1) (fun j C' A' h'' q _ _ _ _ _ _ _ => absurd z q.1))) (fun z z2 hno h' l' => k 0 _ _ h' ⟨by decide, by decide⟩ l' (fun Q kk => ?_)) (fun z z2 j x p h' hj hno h16 hp l' => k 0 _ _ h' ⟨by decide, by decide⟩ l' (fun Q kk => ?_))
  · refine r_deliver l'.mp b ha hd hH (show C 6 < 1000 by omega) (show C 5 + 6 ≤ 15000 by omega) (fun h'' hw _ _ => (wcd_a hw (fun q => q.elim (fun y => y z) z2) id).elim) (fun h'' _ _ m' mv => ?_) (fun j C' A' h'' _ hj _ hq _ _ _ _ => ?_)
    · exact kk 0 h'' (fun _ => ⟨rfl, by decide⟩) (l'.e0 v c0 hn m' mv)
    · exact absurd ⟨j, (mem j z.2).mpr ⟨hj, hq.1, hq.2.2⟩, hq.2.1⟩ hno
  · have hx := (mem x z.2).mp (List.mem_of_getElem? hj)
    refine r_deliver l'.mp b ha hd hH (show C 6 < 1000 by omega) (show C 5 + 6 ≤ 15000 by omega) (fun h'' hw _ _ => (wcd_a hw (fun q => q.elim (fun y => y z) z2) id).elim) (fun h'' _ hno' _ _ => absurd ⟨hx.2.1, h16, hx.2.2⟩ (hno' x hx.1)) (fun j' C' A' h'' _ hj' hno' hq hp' rb m' mv => ?_)
    rw [up00 c0] at hp'
    have ea : ((a.toNat : Nat) : Int) = a := by omega
    have ed : ((d.toNat : Nat) : Int) = d := by omega
    obtain ⟨q0, q1, q2, iv⟩ := dlv_step (d := d.toNat) (a := a.toNat) v (by omega) (by omega) hj (by rw [ea]; exact hno) (by rw [ea]; exact h16) hp hj' (by rw [ea, ed]; exact hno') (by rw [ea, ed]; exact hq) hp'
    have r5 := (v.2.2.2.2.2.2.2.1.2.1 x hx.1).2
    exact kk (A 18 j') h'' (fun _ => ⟨q0, by rw [← q0]; unfold inR; omega⟩) (l'.ok m' mv hn ((arr_0 (by show 0 ≤ C 5; omega) hp').trans c0) (fun k _ => by rw [q1]) q2 iv)
theorem b_waiting (l : LW as ao scr am adm len xs v0 S N 512 n (up C 0 w) A (C, A, I, Ls) h) (v : IV n C A I Ls) (c0 : C 0 = 0) (hn : n < 512) {a d : Int} (ha : inR a) (hd : inR d) (k : ∀ c v1 p' h', inR c → LW as ao scr am adm len xs v1 (S + 4200) (N + 1100) 1536 (n + 1) (up C 0 w) A p' h' → RF 135 [aI a, aI d] (fun b => some (aI b)) (inR) as ao scr am adm len xs v1 S N n c h' → Q (.inl (some (aI c))) h') : Rn 91 0 (entL 91 [aR as, aI a, aI d, aR ao]) [] h Q := by
  have b : RB (up C 0 w) A := v.1
  have b1 := v.1.c1
  have b2 := v.1.c2
  have b3 := v.1.c3
  have b4 := v.1.c4
  have b5 := v.1.c5
  have bd := v.bd
  refine w_waiting l v hn (by omega) ha hd (fun z h' l' => k 1 _ _ h' ⟨by decide, by decide⟩ l' (fun Q kk => r_waiting l'.mp b ha hd (fun h'' _ m' mv => kk 0 h'' (fun q => absurd q (by decide)) (l'.e1 v c0 hn m' mv z)) (fun h'' q _ _ => absurd z q.1))) (fun z z2 h' l' => k 0 _ _ h' ⟨by decide, by decide⟩ l' (fun Q kk => ?_))
  refine r_waiting l'.mp b ha hd (fun h'' hw _ _ => (wcd_a hw (fun q => q.elim (fun y => y z) z2) id).elim) (fun h'' _ m' mv => ?_)
  have w5 := wtn_b (A := A) (a := a) (d := d) (C 5).toNat
  exact kk (wtn A a d (C 5).toNat) h'' (fun _ => ⟨by rw [show ((d.toNat : Nat) : Int) = d by omega], by unfold inR; omega⟩) (l'.e0 v c0 hn m' mv)
theorem b_seen (l : LW as ao scr am adm len xs v0 S N 512 n (up C 0 w) A (C, A, I, Ls) h) (v : IV n C A I Ls) (c0 : C 0 = 0) (hn : n < 512) {s u : Int} (hs : inR s) (hu : inR u) (k : ∀ c v1 p' h', inR c → LW as ao scr am adm len xs v1 (S + 4200) (N + 1100) 1536 (n + 1) (up C 0 w) A p' h' → RF 136 [aI s, aI u] (fun b => some (aI b)) (inR) as ao scr am adm len xs v1 S N n c h' → Q (.inl (some (aI c))) h') : Rn 94 0 (entL 94 [aR as, aI s, aI u, aR ao]) [] h Q := by
  have b : RB (up C 0 w) A := v.1
  have b1 := v.1.c1
  have b2 := v.1.c2
  have b3 := v.1.c3
  have b4 := v.1.c4
  have b5 := v.1.c5
  have bd := v.bd
  refine w_seen l v hn (by omega) hs hu (fun z h' l' => k 1 _ _ h' ⟨by decide, by decide⟩ l' (fun Q kk => r_seen l'.mp b hs hu (fun h'' _ m' mv => kk 0 h'' (fun q => absurd q (by decide)) (l'.e1 v c0 hn m' mv z)) (fun h'' q _ _ => absurd z q.1))) (fun z h' l' => k 0 _ _ h' ⟨by decide, by decide⟩ l' (fun Q kk => ?_))
  refine r_seen l'.mp b hs hu (fun h'' hw _ _ => (wcd_a hw (fun q => q z) id).elim) (fun h'' _ m' mv => ?_)
  have := v.1.v13 (6 * s.toNat + u.toNat)
  exact kk (A 13 (6 * s.toNat + u.toNat)) h'' (fun _ => ⟨rfl, by unfold inR; omega⟩) (l'.e0 v c0 hn m' mv)
theorem b_state (l : LW as ao scr am adm len xs v0 S N 512 n (up C 0 w) A (C, A, I, Ls) h) (v : IV n C A I Ls) (c0 : C 0 = 0) (hn : n < 512) {t x : Int} (ht : inR t) (hx : inR x) (k : ∀ c v1 p' h', inR c → LW as ao scr am adm len xs v1 (S + 4200) (N + 1100) 1536 (n + 1) (up C 0 w) A p' h' → RF 137 [aI t, aI x] (fun b => some (aI b)) (inR) as ao scr am adm len xs v1 S N n c h' → Q (.inl (some (aI c))) h') : Rn 96 0 (entL 96 [aR as, aI t, aI x, aR ao]) [] h Q := by
  have b : RB (up C 0 w) A := v.1
  have b1 := v.1.c1
  have b2 := v.1.c2
  have b3 := v.1.c3
  have b4 := v.1.c4
  have b5 := v.1.c5
  have bd := v.bd
  refine w_state l v hn (by omega) ht hx (fun z h' l' => k 1 _ _ h' ⟨by decide, by decide⟩ l' (fun Q kk => r_state l'.mp b ht hx (fun h'' _ m' mv => kk 0 h'' (fun q => absurd q (by decide)) (l'.e1 v c0 hn m' mv z)) (fun h'' q _ _ => absurd z q.1))) (fun z z2 h' l' => k 0 _ _ h' ⟨by decide, by decide⟩ l' (fun Q kk => ?_))
  refine r_state l'.mp b ht hx (fun h'' hw _ _ => (wcd_a hw (fun q => by rcases q with q | q | q; exact q z; omega; omega) id).elim) (fun h'' _ m' mv => ?_)
  have := stR_b v.1 (t := t.toNat) (x := x)
  exact kk (stR C A t.toNat x) h'' (fun _ => ⟨rfl, by unfold inR; omega⟩) (l'.e0 v c0 hn m' mv)
theorem b_locked (l : LW as ao scr am adm len xs v0 S N 512 n (up C 0 w) A (C, A, I, Ls) h) (v : IV n C A I Ls) (c0 : C 0 = 0) (hn : n < 512) {u : Int} (hu : inR u) (k : ∀ c v1 p' h', inR c → LW as ao scr am adm len xs v1 (S + 4200) (N + 1100) 1536 (n + 1) (up C 0 w) A p' h' → RF 138 [aI u] (fun b => some (aI b)) (inR) as ao scr am adm len xs v1 S N n c h' → Q (.inl (some (aI c))) h') : Rn 99 0 (entL 99 [aR as, aI u, aR ao]) [] h Q := by
  have b : RB (up C 0 w) A := v.1
  have b1 := v.1.c1
  have b2 := v.1.c2
  have b3 := v.1.c3
  have b4 := v.1.c4
  have b5 := v.1.c5
  have bd := v.bd
  refine w_locked l v hn (by omega) hu (fun z h' l' => k 1 _ _ h' ⟨by decide, by decide⟩ l' (fun Q kk => r_locked l'.mp b hu (fun h'' _ m' mv => kk 0 h'' (fun q => absurd q (by decide)) (l'.e1 v c0 hn m' mv z)) (fun h'' q _ _ => absurd z q.1))) (fun z h' l' => k 0 _ _ h' ⟨by decide, by decide⟩ l' (fun Q kk => ?_))
  refine r_locked l'.mp b hu (fun h'' hw _ _ => (wcd_a hw (fun q => q z) id).elim) (fun h'' _ m' mv => ?_)
  have := v.1.v1 u.toNat
  exact kk (A 1 u.toNat) h'' (fun _ => ⟨rfl, by unfold inR; omega⟩) (l'.e0 v c0 hn m' mv)
end LC
