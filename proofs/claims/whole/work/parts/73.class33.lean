section C33
variable {ad : AD} {ow : OW} {K : KK} {h : AH} {C : Nat → Int} {A I : Nat → Nat → Int} {F : Nat → Nat → Nat → Int} {Ls : Nat → List Nat} {cp : Nat → Nat} {Q : AR → AH → Prop}
theorem usd_3 {i : Nat} (hu : usd C Ls 3 i) : i < (C 2).toNat := by
  rcases hu with q | q | q | q | q | q | q | q | q | q | q | q | q | q
  · exact absurd q.1 (by decide)
  · exact absurd q.1 (by decide)
  · exact absurd q.1 (by decide)
  · exact absurd q.1 (by decide)
  · exact absurd q.1 (by decide)
  · exact absurd q.1 (by decide)
  · exact q.2
  · exact absurd q.1 (by decide)
  · exact absurd q.1 (by decide)
  · exact absurd q.1 (by decide)
  · exact absurd q.1 (by decide)
  · exact absurd q.1 (by decide)
  · exact absurd q.1 (by decide)
  · exact absurd q.1 (by decide)
theorem usd_4 {i : Nat} (hu : usd C Ls 4 i) : i < (C 3).toNat := by
  rcases hu with q | q | q | q | q | q | q | q | q | q | q | q | q | q
  · exact absurd q.1 (by decide)
  · exact absurd q.1 (by decide)
  · exact absurd q.1 (by decide)
  · exact absurd q.1 (by decide)
  · exact absurd q.1 (by decide)
  · exact absurd q.1 (by decide)
  · exact absurd q.1 (by decide)
  · exact q.2
  · exact absurd q.1 (by decide)
  · exact absurd q.1 (by decide)
  · exact absurd q.1 (by decide)
  · exact absurd q.1 (by decide)
  · exact absurd q.1 (by decide)
  · exact absurd q.1 (by decide)
theorem usd_12 {i : Nat} (hu : usd C Ls 12 i) : i < (C 3).toNat := by
  rcases hu with q | q | q | q | q | q | q | q | q | q | q | q | q | q
  · exact absurd q.1 (by decide)
  · exact absurd q.1 (by decide)
  · exact absurd q.1 (by decide)
  · exact absurd q.1 (by decide)
  · exact absurd q.1 (by decide)
  · exact absurd q.1 (by decide)
  · exact absurd q.1 (by decide)
  · exact absurd q.1 (by decide)
  · exact q.2
  · exact absurd q.1 (by decide)
  · exact absurd q.1 (by decide)
  · exact absurd q.1 (by decide)
  · exact absurd q.1 (by decide)
  · exact absurd q.1 (by decide)
theorem usd_8 {i : Nat} (hu : usd C Ls 8 i) : lvl C i := by
  rcases hu with q | q | q | q | q | q | q | q | q | q | q | q | q | q
  · exact absurd q.1 (by decide)
  · exact absurd q.1 (by decide)
  · exact absurd q.1 (by decide)
  · exact absurd q.1 (by decide)
  · exact absurd q.1 (by decide)
  · exact absurd q.1 (by decide)
  · exact absurd q.1 (by decide)
  · exact absurd q.1 (by decide)
  · exact absurd q.1 (by decide)
  · exact absurd q.1 (by decide)
  · exact absurd q.1 (by decide)
  · exact absurd q.1 (by decide)
  · exact q.2
  · exact absurd q.1 (by decide)
theorem usd_2 {i : Nat} (hu : usd C Ls 2 i) : i < (C 1).toNat := by
  rcases hu with q | q | q | q | q | q | q | q | q | q | q | q | q | q
  · exact absurd q.1 (by decide)
  · exact absurd q.1 (by decide)
  · exact absurd q.1 (by decide)
  · exact absurd q.1 (by decide)
  · exact q.2
  · exact absurd q.1 (by decide)
  · exact absurd q.1 (by decide)
  · exact absurd q.1 (by decide)
  · exact absurd q.1 (by decide)
  · exact absurd q.1 (by decide)
  · exact absurd q.1 (by decide)
  · exact absurd q.1 (by decide)
  · exact absurd q.1 (by decide)
  · exact absurd q.1 (by decide)
theorem usd_11 {i : Nat} (hu : usd C Ls 11 i) : i < (C 1).toNat := by
  rcases hu with q | q | q | q | q | q | q | q | q | q | q | q | q | q
  · exact absurd q.1 (by decide)
  · exact absurd q.1 (by decide)
  · exact absurd q.1 (by decide)
  · exact absurd q.1 (by decide)
  · exact absurd q.1 (by decide)
  · exact q.2
  · exact absurd q.1 (by decide)
  · exact absurd q.1 (by decide)
  · exact absurd q.1 (by decide)
  · exact absurd q.1 (by decide)
  · exact absurd q.1 (by decide)
  · exact absurd q.1 (by decide)
  · exact absurd q.1 (by decide)
  · exact absurd q.1 (by decide)
theorem usd_14 {i : Nat} (hu : usd C Ls 14 i) : i = 0 := by
  rcases hu with q | q | q | q | q | q | q | q | q | q | q | q | q | q
  · exact absurd q.1 (by decide)
  · exact q.2
  · exact absurd q.1 (by decide)
  · exact absurd q.1 (by decide)
  · exact absurd q.1 (by decide)
  · exact absurd q.1 (by decide)
  · exact absurd q.1 (by decide)
  · exact absurd q.1 (by decide)
  · exact absurd q.1 (by decide)
  · exact absurd q.1 (by decide)
  · exact absurd q.1 (by decide)
  · exact absurd q.1 (by decide)
  · exact absurd q.1 (by decide)
  · exact absurd q.1 (by decide)
theorem usd_10 {i : Nat} (hu : usd C Ls 10 i) : lvl C i := by
  rcases hu with q | q | q | q | q | q | q | q | q | q | q | q | q | q
  · exact absurd q.1 (by decide)
  · exact absurd q.1 (by decide)
  · exact absurd q.1 (by decide)
  · exact absurd q.1 (by decide)
  · exact absurd q.1 (by decide)
  · exact absurd q.1 (by decide)
  · exact absurd q.1 (by decide)
  · exact absurd q.1 (by decide)
  · exact absurd q.1 (by decide)
  · exact absurd q.1 (by decide)
  · exact absurd q.1 (by decide)
  · exact absurd q.1 (by decide)
  · exact absurd q.1 (by decide)
  · exact q.2
def obA (C : Nat → Int) (A : Nat → Nat → Int) (s : Int) (wb : Bool) : Nat → Nat → Int := up (up (up A 0 (up (A 0) (C 2).toNat s)) 2 (up (A 2) (C 2).toNat (bI wb))) 1 (up (A 1) (C 2).toNat (-1))
/-- what object(s, wb) leaves -/
def obS (C : Nat → Int) (A I : Nat → Nat → Int) (Ls : Nat → List Nat) (s : Int) (wb : Bool) : CB := (up C 2 (C 2 + 1), obA C A s wb, I, up Ls 0 (Ls 0 ++ [(C 2).toNat]))
theorem LT.obj {s : Int} {wb : Bool} {l : List Nat} (lt : LT C A Ls) (b2 : 0 ≤ C 2) (l1 : Ls (20 + 2 * (C 2).toNat) = []) (l2 : Ls (21 + 2 * (C 2).toNat) = []) : LT (up C 2 (C 2 + 1)) (obA C A s wb) (up Ls 0 l) := by
  have e : ∀ j, ¬ j = 0 → up Ls 0 l j = Ls j := fun j hj => up_n hj
  refine ⟨fun t k h1 h2 => ?_, fun t k h1 h2 => ?_, fun o k h1 h2 => ?_, fun o k h1 h2 => ?_, fun t k h1 h2 => ?_, fun t k h1 h2 => ?_⟩
  · rw [e _ (by omega)] at h2
    exact ⟨(lt.1 t k h1 h2).1, show (A 10 k).toNat < (C 2 + 1).toNat by have := (lt.1 t k h1 h2).2; omega⟩
  · rw [e _ (by omega)] at h2
    exact ⟨(lt.2.1 t k h1 h2).1, show (A 10 k).toNat < (C 2 + 1).toNat by have := (lt.2.1 t k h1 h2).2; omega⟩
  · have h1 : o < (C 2 + 1).toNat := h1
    rw [e _ (by omega)] at h2
    rw [e _ (by omega)]
    by_cases hn : o = (C 2).toNat
    · rw [hn, l1] at h2; exact absurd h2 (List.not_mem_nil)
    · exact lt.2.2.1 o k (by omega) h2
  · have h1 : o < (C 2 + 1).toNat := h1
    rw [e _ (by omega)] at h2
    rw [e _ (by omega)]
    by_cases hn : o = (C 2).toNat
    · rw [hn, l2] at h2; exact absurd h2 (List.not_mem_nil)
    · exact lt.2.2.2.1 o k (by omega) h2
  · rw [e _ (by omega)] at h2
    exact lt.2.2.2.2.1 t k h1 h2
  · rw [e _ (by omega)] at h2
    exact lt.2.2.2.2.2 t k h1 h2
theorem k_object {H : Nat} {S N M : Nat} {ow0 : OW} {h0 : AH} (w : WD ad ow K h) (g : CI ad K h.2.2.2.1 C A I F Ls cp) (b : RB C A) (lt : LT C A Ls) (fo : Fo ow0 h0 ow h) (ib : IB C Ls cp) (pt : PT S N h cp) (jw : JB C Ls cp 20 M) (jc : JB C Ls cp 21 M) (hb : HB C Ls cp H) (tb : TB C Ls cp) (hm : ∀ q, q < (C 5).toNat → (A 19 q).toNat < (C 3).toNat) (hle : ∀ i, ¬ lvl C i → Ls i = []) {s : Int} {wb : Bool} (hs : inR s) (e1 : ¬ (0 ≤ s ∧ s < C 1) → Q (.inr (10, h.2.1)) (hex h 10)) (e2 : (0 ≤ s ∧ s < C 1) → C 2 = 200 → Q (.inr (11, h.2.1)) (hex h 11)) (k : (0 ≤ s ∧ s < C 1) → ¬ C 2 = 200 → ∀ h', WX (fun ad' => ad' 0 0 = ad 0 0) ow0 h0 (S + 11) (N + 4) M H (obS C A I Ls s wb) h' → Q (.inl (some (aI (C 2)))) h') : Rn 13 0 (entL 13 [aR (ad 0 0), aI s, aI (bI wb)]) [] h Q := by
  show Rn 13 0 [some (aR (ad 0 0)), some (aI s), some (aI (bI wb))] [] h Q
  have b1 := b.c1
  have b2 := b.c2
  have b3 := b.c3
  have v0 : LX ad K h.2.2.2.1 0 3 (Ls 0) (cp 0) := g.ls (id := 0) (Or.inl rfl)
  have len0 : (Ls 0).length = (C 2).toNat := by rw [g.ls0]; exact List.length_range
  obtain ⟨f8, v8⟩ := v0.obj
  refine x_aload_n k_13_0 rfl ?_
  refine x_iload_n k_13_1 rfl ?_
  refine x_call2 k_13_2 (Nat.le_of_ble_eq_true rfl) (rcv_1 (w.at g.store)) (Nat.le_of_ble_eq_true rfl) ?_
  refine k_needSite w g b hs (fun h1 => bh_v ?_) (fun h1 => bh_o rfl (e1 h1))
  refine x_aload_n k_13_5 rfl ?_
  refine x_get k_13_6 (w.at g.store) rfl ?_
  refine x_call1 k_13_9 (Nat.le_of_ble_eq_true rfl) (rcv_1 (w.at v8)) (Nat.le_of_ble_eq_true rfl) ?_
  refine c_size w v0 (bh_1 ?_)
  refine x_sipush k_13_12 ?_
  refine x_icmplt (t := 28) k_13_15 rfl (by show inR ((Ls 0).length : Int) ∧ inR 200; omega) (fun c15 => ?_) (fun c15 => ?_)
  · have c15 : ((Ls 0).length : Int) < 200 := c15
    refine x_aload_n k_13_28 rfl ?_
    refine x_get k_13_29 (w.at g.store) rfl ?_
    refine x_new k_13_32 ?_
    refine x_dup k_13_35 rfl ?_
    refine x_iload_n k_13_36 rfl ?_
    refine x_iload_n k_13_37 rfl ?_
    refine x_call3 k_13_38 (Nat.le_of_ble_eq_true rfl) rfl (Nat.le_of_ble_eq_true rfl) ?_
    refine i_item (f1 := aI 0) (f2 := aI 0) (f3 := aN) (f4 := aN) (f5 := aI 0) hnew_s (Nat.lt_succ_self _) (bh_v ?_)
    obtain ⟨o, eo⟩ : ∃ o, o = (C 2).toNat := ⟨_, rfl⟩
    obtain ⟨ic, eic⟩ : ∃ e : AE, e = .inr (3, [aI s, aI (bI wb), aR (h.2.1 + 1), aR (h.2.1 + 1 + 1), aI (-1)]) := ⟨_, rfl⟩
    obtain ⟨lc, elc⟩ : ∃ e : AE, e = lcell h.2.2.2.1 0 0 := ⟨_, rfl⟩
    obtain ⟨ad3, ead⟩ : ∃ f : AD, f = qd (qd (qd ad 3 o h.2.1) 8 (20 + 2 * o) (h.2.1 + 1)) 8 (21 + 2 * o) (h.2.1 + 1 + 1) := ⟨_, rfl⟩
    obtain ⟨ow3, eow⟩ : ∃ f : OW, f = up (up (up ow h.2.1 (3, o)) (h.2.1 + 1) (8, 20 + 2 * o)) (h.2.1 + 1 + 1) (8, 21 + 2 * o) := ⟨_, rfl⟩
    obtain ⟨K3, eK3⟩ : ∃ f : KK, f = p2 (p2 (p2 K 3 o (.inr (3, dfl 3))) 8 (20 + 2 * o) lc) 8 (21 + 2 * o) lc := ⟨_, rfl⟩
    obtain ⟨h3, eh3⟩ : ∃ f : AH, f = hnew (hnew (hnew h (.inr (3, dfl 3)) 5) lc 3) lc 3 := ⟨_, rfl⟩
    have w3 : WD ad3 ow3 K3 h3 := by
      rw [ead, eow, eK3, eh3]
      exact ((w.new (k := 3) (i := o) (e := .inr (3, dfl 3)) (c := 5) (by decide)).new (k := 8) (i := 20 + 2 * o) (e := lc) (c := 3) (by decide)).new (k := 8) (i := 21 + 2 * o) (e := lc) (c := 3) (by decide)
    have fo3 : Fo ow0 h0 ow3 h3 := by
      rw [eow, eh3]
      exact fo.tr (Fo.new.tr (Fo.new.tr Fo.new))
    have ea : ad3 3 o = h.2.1 := by rw [ead, qd_n (by omega), qd_n (by omega)]; exact qd_s
    have ek3 : K3 3 o = some (.inr (3, dfl 3)) := by rw [eK3, p2_n (by omega), p2_n (by omega)]; exact p2_s
    have w4 : WD ad3 ow3 (p2 K3 3 o ic) (hput h3 h.2.1 ic) := by
      have := w3.put (e := ic) ek3
      rw [ea] at this
      exact this
    have fo4 : Fo ow0 h0 ow3 (hput h3 h.2.1 ic) := by
      have := fo3.tr (Fo.put (e := ic) w3 ek3)
      rw [ea] at this
      exact this
    have ez : (hput h3 h.2.1 ic).2.2.2.1 = h.2.2.2.1 := by rw [eh3]; rfl
    have ekk : ∀ k i, ¬ (k = 3 ∧ i = o) → ¬ (k = 8 ∧ i = 20 + 2 * o) → ¬ (k = 8 ∧ i = 21 + 2 * o) → p2 K3 3 o ic k i = K k i ∧ ad3 k i = ad k i := fun k i n1 n2 n3 => by
      rw [p2_n n1, eK3, p2_n n3, p2_n n2, p2_n n1, ead, qd_n n3, qd_n n2, qd_n n1]
      exact ⟨rfl, rfl⟩
    have hA' : ∀ j, ¬ j = o → obA C A s wb 0 j = A 0 j ∧ obA C A s wb 1 j = A 1 j ∧ obA C A s wb 2 j = A 2 j := fun j hj => by
      rw [eo] at hj
      exact ⟨show up (A 0) (C 2).toNat s j = A 0 j from up_n hj, show up (A 1) (C 2).toNat (-1) j = A 1 j from up_n hj, show up (A 2) (C 2).toNat (bI wb) j = A 2 j from up_n hj⟩
    have g0 : CI ad K h.2.2.2.1 C (obA C A s wb) I F Ls cp := g.agr ⟨rfl, rfl, rfl, rfl, rfl⟩ ⟨rfl, rfl⟩ (fun j hj => hA' j (by omega)) (fun _ _ => ⟨rfl, rfl, rfl, rfl⟩) (fun _ _ _ _ => ⟨rfl, rfl⟩) (fun _ _ _ _ => ⟨rfl, rfl, rfl⟩) (fun _ _ => ⟨rfl, rfl, rfl⟩) (fun _ _ _ _ => rfl) (fun _ _ _ _ => rfl)
    have g4 : CI ad3 (p2 K3 3 o ic) h.2.2.2.1 C (obA C A s wb) I F Ls cp := by
      refine g0.ext lt b1.2 hm (fun k i hu => ekk k i (fun q => ?_) (fun q => ?_) (fun q => ?_))
      · obtain ⟨rfl, rfl⟩ := q
        have := usd_3 hu
        omega
      · obtain ⟨rfl, rfl⟩ := q
        have := usd_8 hu
        unfold lvl at this
        omega
      · obtain ⟨rfl, rfl⟩ := q
        have := usd_8 hu
        unfold lvl at this
        omega
    have e20 : ad3 8 (20 + 2 * o) = h.2.1 + 1 := by rw [ead, qd_n (by omega)]; exact qd_s
    have e21 : ad3 8 (21 + 2 * o) = h.2.1 + 1 + 1 := by rw [ead]; exact qd_s
    have hi : p2 K3 3 o ic 3 o = some (itCell ad3 (obA C A s wb) o) := by
      rw [p2_s, eic]
      unfold itCell
      rw [e20, e21, eo, show obA C A s wb 0 (C 2).toNat = s from up_s, show obA C A s wb 2 (C 2).toNat = bI wb from up_s, show obA C A s wb 1 (C 2).toNat = -1 from up_s]
    have u20 : p2 K3 3 o ic 8 (20 + 2 * o) = some lc := by rw [p2_n (by omega), eK3, p2_n (by omega)]; exact p2_s
    have u21 : p2 K3 3 o ic 8 (21 + 2 * o) = some lc := by rw [p2_n (by omega), eK3]; exact p2_s
    have lv20 : ¬ lvl C (20 + 2 * o) := by unfold lvl; omega
    have lv21 : ¬ lvl C (21 + 2 * o) := by unfold lvl; omega
    have l20 := hle _ lv20
    have l21 := hle _ lv21
    have c20 := tb.2.2.2.1 (20 + 2 * o) (by omega) lv20
    have c21 := tb.2.2.2.1 (21 + 2 * o) (by omega) lv21
    have vv : LX ad3 (p2 K3 3 o ic) (hput h3 h.2.1 ic).2.2.2.1 0 3 (Ls 0) (cp 0) := by rw [ez]; exact g4.ls (id := 0) (Or.inl rfl)
    obtain ⟨f8', v8'⟩ := vv.obj
    have e80 : ad3 8 0 = ad 8 0 := (ekk 8 0 (by omega) (by omega) (by omega)).2
    have e00 : ad3 0 0 = ad 0 0 := (ekk 0 0 (by omega) (by omega) (by omega)).2
    have tb0 := tb.1
    show Rn 13 41 [some (aR (ad 0 0)), some (aI s), some (aI (bI wb))] [aR h.2.1, aR (ad 8 0)] (hput (hnew (hnew (hnew h (.inr (3, dfl 3)) 5) (lcell h.2.2.2.1 0 0) 3) (lcell h.2.2.2.1 0 0) 3) h.2.1 (.inr (3, [aI s, aI (bI wb), aR (h.2.1 + 1), aR (h.2.1 + 1 + 1), aI (-1)]))) Q
    rw [← elc, ← eh3, ← eic, ← e80, ← ea, ← e00]
    rw [ea]
    refine x_call2 k_13_41 (Nat.le_of_ble_eq_true rfl) (rcv_1 (w4.at v8')) (Nat.le_of_ble_eq_true rfl) ?_
    have z := c_add (Q := Bh 13 41 44 [some (aR (ad3 0 0)), some (aI s), some (aI (bI wb))] [] Q) w4 vv (by decide) (x := o) hi (by omega) (fun ad' ow' K' h' c' wa v' => bh_1 (by
      obtain ⟨w5, fo5, hK, hA, hc, hcost⟩ := wa
      have e5 : h'.2.2.2.1 = h.2.2.2.1 := by rw [fo5.2.2.1]; exact ez
      have g5 := g4.obj (z := h.2.2.2.1) ⟨b2.1, by omega⟩ eo hi (by rw [u20, elc]) (by rw [u21, elc]) l20 l21 c20 c21 hK hA (by rw [e5] at v'; exact v')
      rw [← e5] at g5
      refine x_pop k_13_44 rfl ?_
      rw [← hA 0 0 (by omega)]
      refine x_aload_n k_13_45 rfl ?_
      refine x_get k_13_46 (w5.at g5.store) rfl ?_
      have v5 := g5.ls (id := 0) (Or.inl rfl)
      rw [up_s, up_s] at v5
      obtain ⟨f9, v9⟩ := v5.obj
      refine x_call1 k_13_49 (Nat.le_of_ble_eq_true rfl) (rcv_1 (w5.at v9)) (Nat.le_of_ble_eq_true rfl) ?_
      refine c_size w5 v5 (bh_1 ?_)
      refine x_iconst k_13_52 ?_
      refine x_isub k_13_53 ?_
      refine x_top (show (((Ls 0 ++ [o]).length : Nat) : Int) - 1 = C 2 by rw [List.length_append, len0]; show (((C 2).toNat + 1 : Nat) : Int) - 1 = C 2; omega) ?_
      refine x_ireturn k_13_54 rfl ?_
      refine k h1 (by omega) h' ?_
      have cc1 : (hput h3 h.2.1 ic).2.1 = h.2.1 + 3 := by rw [eh3]; rfl
      have cc2 : (hput h3 h.2.1 ic).2.2.1 = h.2.2.1 + 11 := by rw [eh3]; rfl
      have bA : RB (up C 2 (C 2 + 1)) (obA C A s wb) := (((b.t0 ⟨by omega, by omega⟩).t2 (bI_01 wb)).t1 ⟨by decide, by decide⟩).d2 ⟨by omega, by omega⟩
      have hv : (Ls 0).length ≤ cp 0 ∧ (cp 0 = 0 ∨ 10 ≤ cp 0) := by
        obtain ⟨m, G, v⟩ := v0
        exact ⟨v.2.2.1, v.2.2.2.1⟩
      have hnc : ncap (cp 0) ≤ 10 + 2 * cp 0 ∧ ncap (cp 0) ≤ 4 * (ncap (cp 0) - cp 0) ∧ cp 0 ≤ ncap (cp 0) := by
        unfold ncap
        split <;> omega
      have hsum := csum_up (cp := cp) (id := 0) (c := c') 1500 (by decide)
      unfold obS
      rw [← eo]
      refine ⟨ad', ow', K', F, _, (hA 0 0 (by omega)).trans e00, w5, g5, bA, lt.obj b2.1 (by rw [← eo]; exact l20) (by rw [← eo]; exact l21), fo4.tr fo5, fun u hu => ?_, ⟨?_, ?_⟩, ⟨fun o' ho => ?_, fun o' ho => ?_⟩, fun s' hs' => ?_, ?_, ?_, fun i h1 h2 => ?_, fun i h1 h2 => ?_, (show up cp 0 c' 2000 ≤ 1024 by rw [up_n (by decide)]; exact tb.2.2.2.2)⟩
      · show (up Ls 0 _ (3 + 2 * u)).length ≤ _ ∧ _
        rw [up_n (by omega), up_n (by omega)]
        exact ib u hu
      · have := pt.1
        rcases hcost with ⟨d1, d2⟩ | ⟨d1, d2, d3, d4⟩
        · rw [d2, cc2]; omega
        · rw [d3, cc2]; omega
      · have := pt.2
        rcases hcost with ⟨d1, d2⟩ | ⟨d1, d2, d3, d4⟩
        · rw [d2, cc1]; omega
        · rw [d2, cc1]; omega
      · have ho : o' < (C 2 + 1).toNat := ho
        show up cp 0 c' (20 + 2 * o') ≤ 10 + 2 * (up Ls 0 _ (20 + 2 * o')).length ∧ (up Ls 0 _ (20 + 2 * o')).length ≤ M
        rw [up_n (by omega), up_n (by omega)]
        by_cases hn : o' = o
        · rw [hn, c20, l20]; exact ⟨Nat.zero_le _, Nat.zero_le _⟩
        · exact jw o' (by omega)
      · have ho : o' < (C 2 + 1).toNat := ho
        show up cp 0 c' (21 + 2 * o') ≤ 10 + 2 * (up Ls 0 _ (21 + 2 * o')).length ∧ (up Ls 0 _ (21 + 2 * o')).length ≤ M
        rw [up_n (by omega), up_n (by omega)]
        by_cases hn : o' = o
        · rw [hn, c21, l21]; exact ⟨Nat.zero_le _, Nat.zero_le _⟩
        · exact jc o' (by omega)
      · show (up Ls 0 _ (2 + 2 * s')).length ≤ H ∧ _
        rw [up_n (by omega), up_n (by omega)]
        exact hb s' hs'
      · show up cp 0 c' 0 ≤ 10 + 2 * (C 2 + 1).toNat
        rw [up_s]
        rcases hcost with ⟨d1, d2⟩ | ⟨d1, d2, d3, d4⟩ <;> omega
      · show up cp 0 c' 1 ≤ _
        rw [up_n (by decide)]
        exact tb.2.1
      · show up cp 0 c' i ≤ 10 + 2 * (up Ls 0 _ i).length
        rw [up_n (by omega), up_n (by omega)]
        exact tb.2.2.1 i h1 h2
      · have q1 : up C 2 (C 2 + 1) 1 = C 1 := rfl
        have q2 : up C 2 (C 2 + 1) 2 = C 2 + 1 := rfl
        have q3 : up C 2 (C 2 + 1) 3 = C 3 := rfl
        have h2 : ¬ lvl (up C 2 (C 2 + 1)) i := h2
        have h3 : ¬ lvl C i := fun y => h2 (by unfold lvl at y ⊢; rw [q1, q2, q3]; omega)
        have h4 : ¬ i = 0 := fun y => h3 (Or.inl y)
        show up cp 0 c' i = 0
        rw [up_n h4]
        exact tb.2.2.2.1 i h1 h3))
    rw [ea] at z
    exact z
  · have c15 : ¬ ((Ls 0).length : Int) < 200 := c15
    refine x_throw k_13_18 (Nat.le_of_ble_eq_true rfl) ?_
    exact e2 h1 (by omega)
end C33
