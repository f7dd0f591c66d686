section C31
variable {ad : AD} {ow : OW} {K : KK} {h : AH} {C : Nat → Int} {A I : Nat → Nat → Int} {F : Nat → Nat → Nat → Int} {Ls : Nat → List Nat} {cp : Nat → Nat} {Q : AR → AH → Prop}
/-- what write(t, o, v) leaves -/
def wroP (C : Nat → Int) (A I : Nat → Nat → Int) (Ls : Nat → List Nat) (t o : Nat) (v : Int) (p : CB) : Prop :=
  ((¬ ∃ x, x ∈ Ls (500 + 2 * t) ∧ (fun k => (A 10 k).toNat = o) x) ∧ p = (didC C, didA C A t o v 0, up I 1 (up (I 1) (C 4).toNat v), up Ls (500 + 2 * t) (Ls (500 + 2 * t) ++ [(C 4).toNat]))) ∨
  (∃ x, x ∈ Ls (500 + 2 * t) ∧ (A 10 x).toNat = o ∧ p = (didC C, didA C A t o v 0, up I 1 (up (I 1) x v), Ls))
theorem k_keep {H : Nat} {S N M : Nat} {ow0 : OW} {h0 : AH} (w : WD ad ow K h) (g : CI ad K h.2.2.2.1 C A I F Ls cp) (b : RB C A) (lt : LT C A Ls) (fo : Fo ow0 h0 ow h) (ib : IB C Ls cp) (pt : PT S N h cp) (jw : JB C Ls cp 20 M) (jc : JB C Ls cp 21 M) (hb : HB C Ls cp H) (tb : TB C Ls cp) (hk : ∀ t k, t < (C 3).toNat → (k ∈ Ls (500 + 2 * t) ∨ k ∈ Ls (501 + 2 * t)) → k < (C 4).toNat) (hm : ∀ q, q < (C 5).toNat → (A 19 q).toNat < (C 3).toNat) (hl : ∀ t, t < (C 3).toNat → (Ls (500 + 2 * t)).length ≤ 5000 ∧ (Ls (501 + 2 * t)).length ≤ 5000) (h4 : C 4 < 4000) {t o : Nat} (ht : t < (C 3).toNat) (ho : o < (C 2).toNat) {v : Int} (hv : inL v) (k : ∀ p h', wroP C A I Ls t o v p → WX (fun ad' => ad' 0 0 = ad 0 0) ow0 h0 (S + 4) (N + 2) M H p h' → Q (.inl none) h') : Rn 41 0 (entL 41 [aR (ad 4 t), aR (ad 3 o), aL v]) [] h Q := by
  show Rn 41 0 [some (aR (ad 4 t)), some (aR (ad 3 o)), some (aL v), none, none] [] h Q
  have b1 := b.c1
  have b2 := b.c2
  have b3 := b.c3
  have bd : RB (didC C) (didA C A t o v 0) := did_b b ⟨by omega, by omega⟩ ⟨by omega, by omega⟩ hv (by decide) h4
  refine x_aload_n k_41_0 rfl ?_
  refine x_aload_n k_41_1 rfl ?_
  refine x_call2 k_41_2 (Nat.le_of_ble_eq_true rfl) (rcv_1 (w.at (g.tran ht))) (Nat.le_of_ble_eq_true rfl) ?_
  refine k_ownWrite w g b lt ht ho (fun x hx he => bh_1 ?_) (fun hn => bh_1 ?_)
  · refine x_as4 k_41_5 rfl ?_
    refine x_aload k_41_7 rfl ?_
    refine x_ifnn_s (t := 33) k_41_9 rfl ?_
    refine x_aload k_41_33 rfl ?_
    refine x_lload_n k_41_35 rfl ?_
    refine x_put k_41_36 (w.at (g.wr ht hx)) (Nat.le_of_ble_eq_true rfl) rfl ?_
    refine wvgo w fo g lt ht hx v (fun K' h' w' fo' g' e => ?_)
    refine x_return k_41_39 ?_
    have hx4 := hk t x ht (Or.inl hx)
    refine k _ h' (Or.inr ⟨x, hx, he, rfl⟩) (WX.mono (didX (C' := didC C) ⟨rfl, rfl, rfl, rfl⟩ bd (lt.did hk) ib (S := S) (N := N) (by unfold PT; rw [e]; exact pt) jw jc hb tb rfl w' (g'.did hk (fun _ _ => rfl) (fun _ _ => rfl)) fo') (by omega) (by omega) (by omega) (by omega))
  · refine x_as4 k_41_5 rfl ?_
    refine x_aload k_41_7 rfl ?_
    refine x_ifnn_n (t := 33) k_41_9 rfl ?_
    refine x_aload_n k_41_12 rfl ?_
    refine x_get k_41_13 (w.at (g.tran ht)) rfl ?_
    refine x_new k_41_16 ?_
    refine x_dup k_41_19 rfl ?_
    refine x_aload_n k_41_20 rfl ?_
    refine x_aload_n k_41_21 rfl ?_
    refine x_lload_n k_41_22 rfl ?_
    refine x_call4 k_41_23 (Nat.le_of_ble_eq_true rfl) rfl (Nat.le_of_ble_eq_true rfl) ?_
    refine i_write hnew_s (bh_v ?_)
    rw [hput_new]
    have hT := tb.2.2.1 (500 + 2 * t) (by omega) (by omega)
    have hL := (hl t ht).1
    refine wrgo k_41_26 k_41_29 (Nat.le_of_ble_eq_true rfl) w g b lt fo hk hm ht ho (by omega) (fun ad' ow' K' h' c' w' g' fo' hA hcost => ?_)
    refine x_goto (t := 39) k_41_30 rfl ?_
    refine x_return k_41_39 ?_
    refine k _ h' (Or.inl ⟨hn, rfl⟩) (WX.mono (ownX (a := 500) (C' := didC C) g b ht (Or.inl rfl) ⟨rfl, rfl, rfl, rfl⟩ bd ?_ ib pt jw jc hb tb (P := (fun ad' => ad' 0 0 = ad 0 0)) (hA 0 0 (by decide) (by decide)) w' g' fo' hcost) (by omega) (by omega) (by omega) (by omega))
    refine (lt.did hk).own (show (C 1).toNat ≤ 6 by omega) (show (C 2).toNat ≤ 200 by omega) ht (show up (A 9) (C 4).toNat (t : Int) (C 4).toNat = t from up_s) ?_ (Or.inl rfl)
    rw [show didA C A t o v 0 10 (C 4).toNat = (o : Int) from up_s]
    show (o : Int).toNat < (C 2).toNat
    omega
theorem k_write {H : Nat} {S N M : Nat} {ow0 : OW} {h0 : AH} (w : WD ad ow K h) (g : CI ad K h.2.2.2.1 C A I F Ls cp) (b : RB C A) (lt : LT C A Ls) (fo : Fo ow0 h0 ow h) (ib : IB C Ls cp) (pt : PT S N h cp) (jw : JB C Ls cp 20 M) (jc : JB C Ls cp 21 M) (hb : HB C Ls cp H) (tb : TB C Ls cp) (hk : ∀ t k, t < (C 3).toNat → (k ∈ Ls (500 + 2 * t) ∨ k ∈ Ls (501 + 2 * t)) → k < (C 4).toNat) (hm : ∀ q, q < (C 5).toNat → (A 19 q).toNat < (C 3).toNat) (hl : ∀ t, t < (C 3).toNat → (Ls (500 + 2 * t)).length ≤ 5000 ∧ (Ls (501 + 2 * t)).length ≤ 5000) (h4 : C 4 < 4000) {t o v : Int} (ht : inR t) (ho : inR o) (hv : inL v) (e1 : badP C A t o false → Q (.inr (10, h.2.1)) (hex h 10)) (e2 : ¬ badP C A t o false → refP C A t → Q (.inr (11, h.2.1)) (hex h 11)) (k : ¬ badP C A t o false → ¬ refP C A t → ∀ p h', wroP C A I Ls t.toNat o.toNat v p → WX (fun ad' => ad' 0 0 = ad 0 0) ow0 h0 (S + 4) (N + 2) M H p h' → Q (.inl none) h') : Rn 40 0 (entL 40 [aR (ad 0 0), aI t, aI o, aL v]) [] h Q := by
  show Rn 40 0 [some (aR (ad 0 0)), some (aI t), some (aI o), some (aL v), none, none, none] [] h Q
  refine hd_40 w g b ht ho e1 e2 (fun n1 n2 => ?_)
  have q1 : 0 ≤ t ∧ t < C 3 := by unfold badP at n1; omega
  have q2 : 0 ≤ o ∧ o < C 2 := by unfold badP at n1; omega
  refine x_aload k_40_20 rfl ?_
  refine x_aload k_40_22 rfl ?_
  refine x_lload_n k_40_24 rfl ?_
  refine x_call3 k_40_25 (Nat.le_of_ble_eq_true rfl) (rcv_1 (w.at (g.tran (t := t.toNat) (by omega)))) (Nat.le_of_ble_eq_true rfl) ?_
  refine k_keep w g b lt fo ib pt jw jc hb tb hk hm hl h4 (t := t.toNat) (o := o.toNat) (by omega) (by omega) hv (fun p h' hp wx => bh_v ?_)
  refine x_return k_40_28 ?_
  exact k n1 n2 p h' hp wx
/-- the store's number of changes -/
theorem CI.chk {z : Nat} {v : Int} (g : CI ad K z C A I F Ls cp) : CI ad (p2 K 0 0 (sCell ad C (up I 3 (up (I 3) 0 v)))) z C A (up I 3 (up (I 3) 0 v)) F Ls cp := by
  have g0 : CI ad (p2 K 0 0 (sCell ad (up C 6 (C 6)) I)) z (up C 6 (C 6)) A I F Ls cp := g.cms
  rw [up_self] at g0
  obtain ⟨g1, g2, g3, g4, g5, g6, g7, g8, g9, g10, g11, g12, g13, g14, g15, g16, g17⟩ := g0
  refine ⟨p2_s, ?_, ?_, ?_, ?_, ?_, ?_, ?_, ?_, ?_, fun id hi => ?_, ?_, g13, g14, g15, g16, g17⟩
  · obtain ⟨R, h1, h2⟩ := g2
    rw [p2_n (by decide)] at h1
    exact ⟨R, by rw [p2_n (by decide)]; exact h1, h2⟩
  · intro s hs; have := g3 s hs; rw [p2_n (by omega)] at this ⊢; exact this
  · intro s hs; have := g4 s hs; rw [p2_n (by omega)] at this ⊢; exact this
  · intro s hs; have := g5 s hs; rw [p2_n (by omega)] at this ⊢; exact this
  · intro s hs; have := g6 s hs; rw [p2_n (by omega)] at this ⊢; exact this
  · intro s hs; have := g7 s hs; rw [p2_n (by omega)] at this ⊢; exact this
  · intro t s ht hs; have := g8 t s ht hs; rw [p2_n (by omega)] at this ⊢; exact this
  · intro t s ht hs; have := g9 t s ht hs; rw [p2_n (by omega)] at this ⊢; exact this
  · intro s hs; have := g10 s hs; rw [p2_n (by omega)] at this ⊢; exact this
  · exact ((g.ls hi).cls (by decide) (by decide))
  · obtain ⟨h1, h2, h3, h4⟩ := g12
    rw [p2_n (by decide)] at h1 h2 h3
    rw [p2_n (by decide), p2_n (by decide), p2_n (by decide)]
    exact ⟨h1, h2, h3, h4⟩
/-- what change(t, o, x, y) leaves -/
def chaS (C : Nat → Int) (A I : Nat → Nat → Int) (Ls : Nat → List Nat) (t o : Nat) (x y : Int) : CB := (didC C, didA C A t o x y, up I 3 (up (I 3) 0 (I 3 0 + 1)), up Ls (501 + 2 * t) (Ls (501 + 2 * t) ++ [(C 4).toNat]))
theorem k_change {H : Nat} {S N M : Nat} {ow0 : OW} {h0 : AH} (w : WD ad ow K h) (g : CI ad K h.2.2.2.1 C A I F Ls cp) (b : RB C A) (lt : LT C A Ls) (fo : Fo ow0 h0 ow h) (ib : IB C Ls cp) (pt : PT S N h cp) (jw : JB C Ls cp 20 M) (jc : JB C Ls cp 21 M) (hb : HB C Ls cp H) (tb : TB C Ls cp) (hk : ∀ t k, t < (C 3).toNat → (k ∈ Ls (500 + 2 * t) ∨ k ∈ Ls (501 + 2 * t)) → k < (C 4).toNat) (hm : ∀ q, q < (C 5).toNat → (A 19 q).toNat < (C 3).toNat) (hl : ∀ t, t < (C 3).toNat → (Ls (500 + 2 * t)).length ≤ 5000 ∧ (Ls (501 + 2 * t)).length ≤ 5000) (h4 : C 4 < 4000) (h3 : 0 ≤ I 3 0 ∧ I 3 0 < 512) {t o x : Int} {y : Bool} (ht : inR t) (ho : inR o) (hx : inR x) (e1 : badP C A t o true → Q (.inr (10, h.2.1)) (hex h 10)) (e2 : ¬ badP C A t o true → refP C A t → Q (.inr (11, h.2.1)) (hex h 11)) (k : ¬ badP C A t o true → ¬ refP C A t → ∀ h', WX (fun ad' => ad' 0 0 = ad 0 0) ow0 h0 (S + 4) (N + 2) M H (chaS C A I Ls t.toNat o.toNat x (if y = true then 1 else -1)) h' → Q (.inl none) h') : Rn 44 0 (entL 44 [aR (ad 0 0), aI t, aI o, aI x, aI (bI y)]) [] h Q := by
  show Rn 44 0 [some (aR (ad 0 0)), some (aI t), some (aI o), some (aI x), some (aI (bI y)), none, none] [] h Q
  refine hd_44 w g b ht ho e1 e2 (fun n1 n2 => ?_)
  have q1 : 0 ≤ t ∧ t < C 3 := by unfold badP at n1; omega
  have q2 : 0 ≤ o ∧ o < C 2 := by unfold badP at n1; omega
  have b1 := b.c1
  have b2 := b.c2
  have b3 := b.c3
  have ht' : t.toNat < (C 3).toNat := by omega
  have ho' : o.toNat < (C 2).toNat := by omega
  refine x_aload_n k_44_20 rfl ?_
  refine x_get k_44_21 (w.at g.store) rfl ?_
  refine x_sipush k_44_24 ?_
  refine x_icmplt (t := 40) k_44_27 rfl (by show inR (I 3 0) ∧ inR 512; omega) (fun hb' => ?_) (fun hb' => absurd (show I 3 0 < 512 from h3.2) hb')
  refine x_aload_n k_44_40 rfl ?_
  refine x_dup k_44_41 rfl ?_
  refine x_get k_44_42 (w.at g.store) rfl ?_
  refine x_iconst k_44_45 ?_
  refine x_iadd k_44_46 ?_
  refine x_put k_44_47 (w.at g.store) (Nat.le_of_ble_eq_true rfl) rfl ?_
  have w1 : WD ad ow (p2 K 0 0 (sCell ad C (up I 3 (up (I 3) 0 (I 3 0 + 1))))) (hput h (ad 0 0) (sCell ad C (up I 3 (up (I 3) 0 (I 3 0 + 1))))) := w.put g.store
  have fo1 : Fo ow0 h0 ow (hput h (ad 0 0) (sCell ad C (up I 3 (up (I 3) 0 (I 3 0 + 1))))) := fo.tr (Fo.put w g.store)
  have g1 : CI ad (p2 K 0 0 (sCell ad C (up I 3 (up (I 3) 0 (I 3 0 + 1))))) (hput h (ad 0 0) (sCell ad C (up I 3 (up (I 3) 0 (I 3 0 + 1))))).2.2.2.1 C A (up I 3 (up (I 3) 0 (I 3 0 + 1))) F Ls cp := g.chk
  have pt1 : PT S N (hput h (ad 0 0) (sCell ad C (up I 3 (up (I 3) 0 (I 3 0 + 1))))) cp := pt
  show Rn 44 50 [some (aR (ad 0 0)), some (aI t), some (aI o), some (aI x), some (aI (bI y)), some (aR (ad 4 t.toNat)), some (aR (ad 3 o.toNat))] [] (hput h (ad 0 0) (sCell ad C (up I 3 (up (I 3) 0 (I 3 0 + 1))))) Q
  obtain ⟨K1, eK⟩ : ∃ q, q = p2 K 0 0 (sCell ad C (up I 3 (up (I 3) 0 (I 3 0 + 1)))) := ⟨_, rfl⟩
  obtain ⟨h1, eh⟩ : ∃ q, q = hput h (ad 0 0) (sCell ad C (up I 3 (up (I 3) 0 (I 3 0 + 1)))) := ⟨_, rfl⟩
  rw [← eK, ← eh] at w1
  rw [← eh] at fo1 pt1
  rw [← eK, ← eh] at g1
  rw [← eh]
  refine x_aload k_44_50 rfl ?_
  refine x_get k_44_52 (w1.at (g1.tran ht')) rfl ?_
  refine x_new k_44_55 ?_
  refine x_dup k_44_58 rfl ?_
  refine x_aload k_44_59 rfl ?_
  refine x_aload k_44_61 rfl ?_
  refine x_iload_n k_44_63 rfl ?_
  refine x_iload k_44_64 rfl ?_
  have tail : ∀ z : Int, z = (if y = true then 1 else -1) → Rn 44 74 [some (aR (ad 0 0)), some (aI t), some (aI o), some (aI x), some (aI (bI y)), some (aR (ad 4 t.toNat)), some (aR (ad 3 o.toNat))] [aI z, aI x, aR (ad 3 o.toNat), aR (ad 4 t.toNat), aR h1.2.1, aR h1.2.1, aR (ad 8 (501 + 2 * t.toNat))] (hnew h1 (.inr (6, dfl 6)) 4) Q := by
    intro z hz
    refine x_call5 k_44_74 (Nat.le_of_ble_eq_true rfl) rfl (Nat.le_of_ble_eq_true rfl) ?_
    refine i_change (f1 := aN) (f2 := aN) (f3 := aI 0) (f4 := aI 0) hnew_s (bh_v ?_)
    rw [hput_new]
    have hT := tb.2.2.1 (501 + 2 * t.toNat) (by omega) (by omega)
    have hL := (hl t.toNat ht').2
    refine chgo (s := z) (v := x) k_44_77 k_44_80 (Nat.le_of_ble_eq_true rfl) w1 g1 b lt fo1 hk hm ht' ho' (by omega) (fun ad' ow' K' h' c' w' g' fo' hA hcost => ?_)
    refine x_return k_44_81 ?_
    have bd : RB (didC C) (didA C A t.toNat o.toNat x z) := did_b b ⟨by omega, by omega⟩ ⟨by omega, by omega⟩ (by unfold inL; omega) (by rw [hz]; split <;> omega) h4
    rw [← hz] at k
    refine k n1 n2 h' (WX.mono (ownX (a := 501) (C' := didC C) g1 b ht' (Or.inr rfl) ⟨rfl, rfl, rfl, rfl⟩ bd ?_ ib pt1 jw jc hb tb (P := (fun ad' => ad' 0 0 = ad 0 0)) (hA 0 0 (by decide) (by decide)) w' g' fo' hcost) (by omega) (by omega) (by omega) (by omega))
    refine (lt.did hk).own (show (C 1).toNat ≤ 6 by omega) (show (C 2).toNat ≤ 200 by omega) ht' (show up (A 9) (C 4).toNat (t.toNat : Int) (C 4).toNat = t.toNat from up_s) ?_ (Or.inr rfl)
    rw [show didA C A t.toNat o.toNat x z 10 (C 4).toNat = (o.toNat : Int) from up_s]
    show (o.toNat : Int).toNat < (C 2).toNat
    omega
  refine x_ifeq_b (t := 73) k_44_66 rfl (fun c66 => ?_) (fun c66 => ?_)
  · refine x_iconst k_44_73 ?_
    exact tail _ (by rw [c66]; rfl)
  · refine x_iconst k_44_69 ?_
    refine x_goto (t := 74) k_44_70 rfl ?_
    exact tail _ (by rw [c66]; rfl)
end C31
