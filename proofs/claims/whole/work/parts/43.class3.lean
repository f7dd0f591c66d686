section C3
variable {ad : AD} {ow : OW} {K : KK} {h : AH} {C : Nat → Int} {A I : Nat → Nat → Int} {F : Nat → Nat → Nat → Int} {Ls : Nat → List Nat} {cp : Nat → Nat} {Q : AR → AH → Prop}
theorem LX.cls {z id ek c k i : Nat} {l : List Nat} {fs : List AV} (v : LX ad K z id ek l c) (h8 : k ≠ 8) (h10 : k ≠ 10) : LX ad (p2 K k i (.inr (k, fs))) z id ek l c := by
  obtain ⟨m, G, v1, v2, v3, v4, v5, v6, v7⟩ := v
  refine ⟨m, G, ?_, fun q => ?_, v3, v4, v5, v6, fun x hx => ?_⟩
  · rw [p2_n (fun q => h8 q.1.symm)]
    exact v1
  · rw [p2_n (fun q => h10 q.1.symm)]
    exact v2 q
  · by_cases hn : ek = k ∧ x = i
    · obtain ⟨rfl, rfl⟩ := hn
      exact ⟨fs, p2_s⟩
    · rw [p2_n hn]
      exact v7 x hx
def lkCell (ad : AD) (A : Nat → Nat → Int) (o : Nat) (v : Int) : AE := .inr (3, [aI (A 0 o), aI (A 2 o), aR (ad 8 (20 + 2 * o)), aR (ad 8 (21 + 2 * o)), aI v])
theorem CI.lock {z o : Nat} {v : Int} (g : CI ad K z C A I F Ls cp) : CI ad (p2 K 3 o (lkCell ad A o v)) z C (up A 1 (up (A 1) o v)) I F Ls cp := by
  obtain ⟨g1, g2, g3, g4, g5, g6, g7, g8, g9, g10, g11, g12, g13, g14, g15, g16, g17⟩ := g
  refine ⟨g1, g2, g3, g4, fun o' ho' => ?_, g6, g7, g8, g9, g10, fun id hi => (g11 id hi).cls (by decide) (by decide), g12, g13, g14, g15, g16, g17⟩
  by_cases ho : o' = o
  · subst ho
    rw [p2_s]
    unfold lkCell itCell
    rw [show up A 1 (up (A 1) o' v) 1 o' = v from up_s]
    rfl
  · rw [p2_n (fun q => ho q.2), g5 o' ho']
    unfold itCell
    rw [show up A 1 (up (A 1) o v) 1 o' = A 1 o' from up_n ho]
    rfl
theorem lgo {i pc o : Nat} {L : AL} {st : List AV} {ow0 : OW} {h0 : AH} (w : WD ad ow K h) (fo : Fo ow0 h0 ow h) (g : CI ad K h.2.2.2.1 C A I F Ls cp) (ho : o < (C 2).toNat) (v : Int) (k : ∀ K' h', WD ad ow K' h' → Fo ow0 h0 ow h' → CI ad K' h'.2.2.2.1 C (up A 1 (up (A 1) o v)) I F Ls cp → h'.2 = h.2 → Rn i pc L st h' Q) : Rn i pc L st (hput h (ad 3 o) (lkCell ad A o v)) Q := k _ _ (w.put (g.item ho)) (fo.tr (Fo.put w (g.item ho))) g.lock rfl
/-- the item o, at the site s, is among those written by the first j of l -/
def amg (A : Nat → Nat → Int) (l : List Nat) (s j o : Nat) : Prop := A 0 o = s ∧ ∃ q y, q < j ∧ l[q]? = some y ∧ (A 10 y).toNat = o
noncomputable def lkF (A : Nat → Nat → Int) (l : List Nat) (t s j : Nat) : Nat → Int := fun o => @ite Int (amg A l s j o) (Classical.propDecidable _) (t : Int) (A 1 o)
noncomputable def ukF (A : Nat → Nat → Int) (l : List Nat) (t s j : Nat) : Nat → Int := fun o => @ite Int (amg A l s j o ∧ A 1 o = t) (Classical.propDecidable _) (-1 : Int) (A 1 o)
theorem amg_0 {l : List Nat} {s o : Nat} : ¬ amg A l s 0 o := fun ⟨_, q, _, h1, _⟩ => absurd h1 (Nat.not_lt_zero q)
theorem amg_s {l : List Nat} {s j o x : Nat} (hx : l[j]? = some x) : amg A l s (j + 1) o ↔ amg A l s j o ∨ (A 0 o = s ∧ (A 10 x).toNat = o) := by
  constructor
  · intro ⟨h1, q, y, h2, h3, h4⟩
    rcases Nat.lt_or_ge q j with z | z
    · exact Or.inl ⟨h1, q, y, z, h3, h4⟩
    · rw [show q = j by omega, hx] at h3
      cases h3
      exact Or.inr ⟨h1, h4⟩
  · intro hz
    rcases hz with ⟨h1, q, y, h2, h3, h4⟩ | ⟨h1, h2⟩
    · exact ⟨h1, q, y, by omega, h3, h4⟩
    · exact ⟨h1, j, x, by omega, hx, h2⟩
theorem lkF_y {l : List Nat} {t s j x q : Nat} (hx : l[j]? = some x) (hs : A 0 (A 10 x).toNat = s) : up (lkF A l t s j) (A 10 x).toNat (t : Int) q = lkF A l t s (j + 1) q := by
  by_cases hq : q = (A 10 x).toNat
  · rw [hq, up_s]
    unfold lkF
    rw [if_pos ((amg_s hx).mpr (Or.inr ⟨hs, rfl⟩))]
  · rw [up_n hq]
    unfold lkF
    by_cases hz : amg A l s j q
    · rw [if_pos hz, if_pos ((amg_s hx).mpr (Or.inl hz))]
    · rw [if_neg hz, if_neg (fun y => ((amg_s hx).mp y).elim hz (fun r => hq r.2.symm))]
theorem lkF_n {l : List Nat} {t s j x q : Nat} (hx : l[j]? = some x) (hs : ¬ A 0 (A 10 x).toNat = s) : lkF A l t s j q = lkF A l t s (j + 1) q := by
  unfold lkF
  by_cases hz : amg A l s j q
  · rw [if_pos hz, if_pos ((amg_s hx).mpr (Or.inl hz))]
  · rw [if_neg hz, if_neg (fun y => ((amg_s hx).mp y).elim hz (fun r => hs (r.2 ▸ r.1)))]
theorem ukF_v {l : List Nat} {t s j o : Nat} : ukF A l t s j o = -1 ∧ amg A l s j o ∧ A 1 o = t ∨ ukF A l t s j o = A 1 o ∧ ¬ (amg A l s j o ∧ A 1 o = t) := by
  unfold ukF
  by_cases hz : amg A l s j o ∧ A 1 o = t
  · rw [if_pos hz]
    exact Or.inl ⟨rfl, hz⟩
  · rw [if_neg hz]
    exact Or.inr ⟨rfl, hz⟩
theorem ukF_y {l : List Nat} {t s j x q : Nat} (hx : l[j]? = some x) (hs : A 0 (A 10 x).toNat = s) (ht : ukF A l t s j (A 10 x).toNat = t) : up (ukF A l t s j) (A 10 x).toNat (-1 : Int) q = ukF A l t s (j + 1) q := by
  by_cases hq : q = (A 10 x).toNat
  · rw [hq, up_s]
    have h1 : A 1 (A 10 x).toNat = t := by
      rcases ukF_v (A := A) (l := l) (t := t) (s := s) (j := j) (o := (A 10 x).toNat) with z | z
      · exact z.2.2
      · rw [← z.1]
        exact ht
    unfold ukF
    rw [if_pos ⟨(amg_s hx).mpr (Or.inr ⟨hs, rfl⟩), h1⟩]
  · rw [up_n hq]
    unfold ukF
    by_cases hz : amg A l s j q ∧ A 1 q = t
    · rw [if_pos hz, if_pos ⟨(amg_s hx).mpr (Or.inl hz.1), hz.2⟩]
    · rw [if_neg hz, if_neg (fun y => ((amg_s hx).mp y.1).elim (fun r => hz ⟨r, y.2⟩) (fun r => hq r.2.symm))]
theorem ukF_n {l : List Nat} {t s j x q : Nat} (hx : l[j]? = some x) (hs : ¬ A 0 (A 10 x).toNat = s ∨ ¬ ukF A l t s j (A 10 x).toNat = t) : ukF A l t s j q = ukF A l t s (j + 1) q := by
  by_cases hz : amg A l s j q ∧ A 1 q = t
  · unfold ukF
    rw [if_pos hz, if_pos ⟨(amg_s hx).mpr (Or.inl hz.1), hz.2⟩]
  · have e : ukF A l t s j q = A 1 q := if_neg hz
    rw [e]
    unfold ukF
    rw [if_neg (fun y => ((amg_s hx).mp y.1).elim (fun r => hz ⟨r, y.2⟩) (fun r => ?_))]
    rcases hs with hs | hs
    · exact hs (r.2 ▸ r.1)
    · rw [r.2, e] at hs
      exact hs y.2
theorem lkF_b (b : RB C A) {l : List Nat} {t s j : Nat} (ht : t < 500) (o : Nat) : -1 ≤ lkF A l t s j o ∧ lkF A l t s j o < 500 := by
  have := b.v1 o
  unfold lkF
  by_cases hz : amg A l s j o
  · rw [if_pos hz]; omega
  · rw [if_neg hz]; exact this
theorem ukF_b (b : RB C A) {l : List Nat} {t s j : Nat} (o : Nat) : -1 ≤ ukF A l t s j o ∧ ukF A l t s j o < 500 := by
  have := b.v1 o
  rcases ukF_v (A := A) (l := l) (t := t) (s := s) (j := j) (o := o) with z | z
  · rw [z.1]; omega
  · rw [z.1]; exact this
theorem cie {z : Nat} {A2 : Nat → Nat → Int} (g : CI ad K z C A I F Ls cp) (e : A = A2) : CI ad K z C A2 I F Ls cp := e ▸ g
theorem lp_lockAt {ow0 : OW} {h0 hb : AH} {A0 : Nat → Nat → Int} (b0 : RB C A0) (lt0 : LT C A0 Ls) {t s : Nat} (ht : t < (C 3).toNat) (hs : s < (C 1).toNat) (k : ∀ K' h', WD ad ow K' h' → CI ad K' h'.2.2.2.1 C (up A0 1 (lkF A0 (Ls (500 + 2 * t)) t s (Ls (500 + 2 * t)).length)) I F Ls cp → Fo ow0 h0 ow h' → h'.2 = hb.2 → Q (.inl none) h') : ∀ n j : Nat, j + n = (Ls (500 + 2 * t)).length → ∀ K h A, A = up A0 1 (lkF A0 (Ls (500 + 2 * t)) t s j) → WD ad ow K h → CI ad K h.2.2.2.1 C A I F Ls cp → Fo ow0 h0 ow h → h.2 = hb.2 → ∀ z : Option AV, Rn 73 2 [some (aR (ad 4 t)), some (aR (ad 2 s)), some (aI ((j : Int))), z] [] h Q := by
  have b3 := b0.c3
  have b1 := b0.c1
  intro n
  induction n using Nat.strongRecOn with | ind n ih => ?_
  intro j hj K h A eA w g fo hz2 z
  have b : RB C A := by rw [eA]; exact b0.s1 (lkF_b b0 (by omega))
  have lt : LT C A Ls := by rw [eA]; exact lt0
  have v := g.lw ht
  obtain ⟨e8, v8⟩ := v.obj
  have vl := v.len
  refine x_iload_n k_73_2 rfl ?_
  refine x_aload_n k_73_3 rfl ?_
  refine x_get k_73_4 (w.at (g.tran (by omega))) rfl ?_
  refine x_call1 k_73_7 (Nat.le_of_ble_eq_true rfl) (rcv_1 (w.at v8)) (Nat.le_of_ble_eq_true rfl) ?_
  refine c_size w v (bh_1 ?_)
  refine x_icmpge (t := 53) k_73_10 rfl (by show inR ((j : Int)) ∧ inR (((Ls (500 + 2 * t)).length : Int)); omega) (fun hb => ?_) (fun hb => ?_)
  · have c10 : ((Ls (500 + 2 * t)).length : Int) ≤ (j : Int) := hb
    refine x_return k_73_53 ?_
    have e : (Ls (500 + 2 * t)).length = j := by omega
    rw [e] at k
    exact k K h w (cie g eA) fo hz2
  · have c10 : ¬ (((Ls (500 + 2 * t)).length : Int) ≤ (j : Int)) := hb
    obtain ⟨x, hx, hm⟩ := at_l (l := Ls (500 + 2 * t)) (j := j) (by omega)
    have hT := lt.1 t x ht hm
    refine x_aload_n k_73_13 rfl ?_
    refine x_get k_73_14 (w.at (g.tran (by omega))) rfl ?_
    refine x_iload_n k_73_17 rfl ?_
    refine x_call2 k_73_18 (Nat.le_of_ble_eq_true rfl) (rcv_1 (w.at v8)) (Nat.le_of_ble_eq_true rfl) ?_
    refine c_get w v hx (bh_1 ?_)
    refine x_cast k_73_21 (w.at (g.wr ht hm)) ?_
    refine x_get k_73_24 (w.at (g.wr ht hm)) rfl ?_
    refine x_as3n k_73_27 rfl ?_
    refine x_aload_n k_73_28 rfl ?_
    refine x_get k_73_29 (w.at (g.item (by omega))) rfl ?_
    have f29 := b.v0 ((A 10 x).toNat)
    refine x_aload_n k_73_32 rfl ?_
    refine x_get k_73_33 (w.at (g.site (by omega))) rfl ?_
    refine x_icmpne (t := 47) k_73_36 rfl (by show inR (A 0 ((A 10 x).toNat)) ∧ inR ((s : Int)); omega) (fun hb => ?_) (fun hb => ?_)
    · have c36 : ¬ A 0 ((A 10 x).toNat) = (s : Int) := hb
      refine x_inc2 k_73_47 rfl ?_
      refine x_goto (t := 2) k_73_50 rfl ?_
      exact ih (n - 1) (by omega) (j + 1) (by omega) K h A (eA.trans (upe (fun q => lkF_n hx (by rw [eA] at c36; exact c36)))) w g fo hz2 _
    · have c36 : ¬ (¬ A 0 ((A 10 x).toNat) = (s : Int)) := hb
      refine x_aload_n k_73_39 rfl ?_
      refine x_aload_n k_73_40 rfl ?_
      refine x_get k_73_41 (w.at (g.tran (by omega))) rfl ?_
      refine x_put k_73_44 (w.at (g.item (by omega))) (Nat.le_of_ble_eq_true rfl) rfl ?_
      refine lgo w fo g hT.2 ((t : Nat) : Int) (fun K h w fo g e2 => ?_)
      have hz2 := e2.trans hz2
      refine x_inc2 k_73_47 rfl ?_
      refine x_goto (t := 2) k_73_50 rfl ?_
      exact ih (n - 1) (by omega) (j + 1) (by omega) K h _ (by rw [eA]; exact up2.trans (upe (fun q => lkF_y hx (by have c := Decidable.not_not.mp c36; rw [eA] at c; exact c)))) w g fo hz2 _
theorem k_lockAt {A0 : Nat → Nat → Int} {ow0 : OW} {h0 : AH} (w : WD ad ow K h) (g : CI ad K h.2.2.2.1 C A0 I F Ls cp) (fo : Fo ow0 h0 ow h) (b : RB C A0) (lt : LT C A0 Ls) {t s : Nat} (ht : t < (C 3).toNat) (hs : s < (C 1).toNat) (k : ∀ K' h', WD ad ow K' h' → CI ad K' h'.2.2.2.1 C (up A0 1 (lkF A0 (Ls (500 + 2 * t)) t s (Ls (500 + 2 * t)).length)) I F Ls cp → Fo ow0 h0 ow h' → h'.2 = h.2 → Q (.inl none) h') : Rn 73 0 (entL 73 [aR (ad 4 t), aR (ad 2 s)]) [] h Q := by
  show Rn 73 0 [some (aR (ad 4 t)), some (aR (ad 2 s)), none, none] [] h Q
  refine x_iconst k_73_0 ?_
  refine x_is2n k_73_1 rfl ?_
  refine lp_lockAt (hb := h) b lt ht hs k (Ls (500 + 2 * t)).length 0 (Nat.zero_add _) K h A0 (upself (fun q => ?_)).symm w g fo rfl _
  exact if_neg (fun y => amg_0 y)
theorem lp_unlockAt {ow0 : OW} {h0 hb : AH} {A0 : Nat → Nat → Int} (b0 : RB C A0) (lt0 : LT C A0 Ls) {t s : Nat} (ht : t < (C 3).toNat) (hs : s < (C 1).toNat) (k : ∀ K' h', WD ad ow K' h' → CI ad K' h'.2.2.2.1 C (up A0 1 (ukF A0 (Ls (500 + 2 * t)) t s (Ls (500 + 2 * t)).length)) I F Ls cp → Fo ow0 h0 ow h' → h'.2 = hb.2 → Q (.inl none) h') : ∀ n j : Nat, j + n = (Ls (500 + 2 * t)).length → ∀ K h A, A = up A0 1 (ukF A0 (Ls (500 + 2 * t)) t s j) → WD ad ow K h → CI ad K h.2.2.2.1 C A I F Ls cp → Fo ow0 h0 ow h → h.2 = hb.2 → ∀ z : Option AV, Rn 71 2 [some (aR (ad 4 t)), some (aR (ad 2 s)), some (aI ((j : Int))), z] [] h Q := by
  have b3 := b0.c3
  have b1 := b0.c1
  intro n
  induction n using Nat.strongRecOn with | ind n ih => ?_
  intro j hj K h A eA w g fo hz2 z
  have b : RB C A := by rw [eA]; exact b0.s1 (ukF_b b0)
  have lt : LT C A Ls := by rw [eA]; exact lt0
  have v := g.lw ht
  obtain ⟨e8, v8⟩ := v.obj
  have vl := v.len
  refine x_iload_n k_71_2 rfl ?_
  refine x_aload_n k_71_3 rfl ?_
  refine x_get k_71_4 (w.at (g.tran (by omega))) rfl ?_
  refine x_call1 k_71_7 (Nat.le_of_ble_eq_true rfl) (rcv_1 (w.at v8)) (Nat.le_of_ble_eq_true rfl) ?_
  refine c_size w v (bh_1 ?_)
  refine x_icmpge (t := 61) k_71_10 rfl (by show inR ((j : Int)) ∧ inR (((Ls (500 + 2 * t)).length : Int)); omega) (fun hb => ?_) (fun hb => ?_)
  · have c10 : ((Ls (500 + 2 * t)).length : Int) ≤ (j : Int) := hb
    refine x_return k_71_61 ?_
    have e : (Ls (500 + 2 * t)).length = j := by omega
    rw [e] at k
    exact k K h w (cie g eA) fo hz2
  · have c10 : ¬ (((Ls (500 + 2 * t)).length : Int) ≤ (j : Int)) := hb
    obtain ⟨x, hx, hm⟩ := at_l (l := Ls (500 + 2 * t)) (j := j) (by omega)
    have hT := lt.1 t x ht hm
    refine x_aload_n k_71_13 rfl ?_
    refine x_get k_71_14 (w.at (g.tran (by omega))) rfl ?_
    refine x_iload_n k_71_17 rfl ?_
    refine x_call2 k_71_18 (Nat.le_of_ble_eq_true rfl) (rcv_1 (w.at v8)) (Nat.le_of_ble_eq_true rfl) ?_
    refine c_get w v hx (bh_1 ?_)
    refine x_cast k_71_21 (w.at (g.wr ht hm)) ?_
    refine x_get k_71_24 (w.at (g.wr ht hm)) rfl ?_
    refine x_as3n k_71_27 rfl ?_
    refine x_aload_n k_71_28 rfl ?_
    refine x_get k_71_29 (w.at (g.item (by omega))) rfl ?_
    have f29 := b.v0 ((A 10 x).toNat)
    refine x_aload_n k_71_32 rfl ?_
    refine x_get k_71_33 (w.at (g.site (by omega))) rfl ?_
    refine x_icmpne (t := 55) k_71_36 rfl (by show inR (A 0 ((A 10 x).toNat)) ∧ inR ((s : Int)); omega) (fun hb => ?_) (fun hb => ?_)
    · have c36 : ¬ A 0 ((A 10 x).toNat) = (s : Int) := hb
      refine x_inc2 k_71_55 rfl ?_
      refine x_goto (t := 2) k_71_58 rfl ?_
      exact ih (n - 1) (by omega) (j + 1) (by omega) K h A (eA.trans (upe (fun q => ukF_n hx (Or.inl (by rw [eA] at c36; exact c36))))) w g fo hz2 _
    · have c36 : ¬ (¬ A 0 ((A 10 x).toNat) = (s : Int)) := hb
      refine x_aload_n k_71_39 rfl ?_
      refine x_get k_71_40 (w.at (g.item (by omega))) rfl ?_
      have f40 := b.v1 ((A 10 x).toNat)
      refine x_aload_n k_71_43 rfl ?_
      refine x_get k_71_44 (w.at (g.tran (by omega))) rfl ?_
      refine x_icmpne (t := 55) k_71_47 rfl (by show inR (A 1 ((A 10 x).toNat)) ∧ inR ((t : Int)); omega) (fun hb => ?_) (fun hb => ?_)
      · have c47 : ¬ A 1 ((A 10 x).toNat) = (t : Int) := hb
        refine x_inc2 k_71_55 rfl ?_
        refine x_goto (t := 2) k_71_58 rfl ?_
        exact ih (n - 1) (by omega) (j + 1) (by omega) K h A (eA.trans (upe (fun q => ukF_n hx (Or.inr (by rw [eA] at c47; exact c47))))) w g fo hz2 _
      · have c47 : ¬ (¬ A 1 ((A 10 x).toNat) = (t : Int)) := hb
        refine x_aload_n k_71_50 rfl ?_
        refine x_iconst k_71_51 ?_
        refine x_put k_71_52 (w.at (g.item (by omega))) (Nat.le_of_ble_eq_true rfl) rfl ?_
        refine lgo w fo g hT.2 (-1 : Int) (fun K h w fo g e2 => ?_)
        have hz2 := e2.trans hz2
        refine x_inc2 k_71_55 rfl ?_
        refine x_goto (t := 2) k_71_58 rfl ?_
        exact ih (n - 1) (by omega) (j + 1) (by omega) K h _ (by rw [eA]; exact up2.trans (upe (fun q => ukF_y hx (by have c := Decidable.not_not.mp c36; rw [eA] at c; exact c) (by have c := Decidable.not_not.mp c47; rw [eA] at c; exact c)))) w g fo hz2 _
theorem k_unlockAt {A0 : Nat → Nat → Int} {ow0 : OW} {h0 : AH} (w : WD ad ow K h) (g : CI ad K h.2.2.2.1 C A0 I F Ls cp) (fo : Fo ow0 h0 ow h) (b : RB C A0) (lt : LT C A0 Ls) {t s : Nat} (ht : t < (C 3).toNat) (hs : s < (C 1).toNat) (k : ∀ K' h', WD ad ow K' h' → CI ad K' h'.2.2.2.1 C (up A0 1 (ukF A0 (Ls (500 + 2 * t)) t s (Ls (500 + 2 * t)).length)) I F Ls cp → Fo ow0 h0 ow h' → h'.2 = h.2 → Q (.inl none) h') : Rn 71 0 (entL 71 [aR (ad 4 t), aR (ad 2 s)]) [] h Q := by
  show Rn 71 0 [some (aR (ad 4 t)), some (aR (ad 2 s)), none, none] [] h Q
  refine x_iconst k_71_0 ?_
  refine x_is2n k_71_1 rfl ?_
  refine lp_unlockAt (hb := h) b lt ht hs k (Ls (500 + 2 * t)).length 0 (Nat.zero_add _) K h A0 (upself (fun q => ?_)).symm w g fo rfl _
  exact if_neg (fun y => amg_0 y.1)
end C3
