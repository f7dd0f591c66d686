section C34
variable {ad : AD} {ow : OW} {K : KK} {h : AH} {C : Nat → Int} {A I : Nat → Nat → Int} {F : Nat → Nat → Nat → Int} {Ls : Nat → List Nat} {cp : Nat → Nat} {Q : AR → AH → Prop}
noncomputable def bgA (C : Nat → Int) (A : Nat → Nat → Int) (s : Int) : Nat → Nat → Int := up (up A 3 (up (A 3) (C 3).toNat s)) 6 (stF (up A 3 (up (A 3) (C 3).toNat s)) (C 3).toNat s.toNat (C 1).toNat)
/-- what begin(s) leaves -/
noncomputable def bgS (C : Nat → Int) (A I : Nat → Nat → Int) (Ls : Nat → List Nat) (s : Int) : CB := (up C 3 (C 3 + 1), bgA C A s, up I 0 (up (I 0) (C 3).toNat 0), up Ls 1 (Ls 1 ++ [(C 3).toNat]))
theorem LT.beg {s : Int} {l : List Nat} (lt : LT C A Ls) (b3 : 0 ≤ C 3) (b1 : C 1 ≤ 6) (l1 : Ls (500 + 2 * (C 3).toNat) = []) (l2 : Ls (501 + 2 * (C 3).toNat) = []) : LT (up C 3 (C 3 + 1)) (bgA C A s) (up Ls 1 l) := by
  have e : ∀ j, ¬ j = 1 → up Ls 1 l j = Ls j := fun j hj => up_n hj
  refine ⟨fun t k h1 h2 => ?_, fun t k h1 h2 => ?_, fun o k h1 h2 => ?_, fun o k h1 h2 => ?_, fun t k h1 h2 => ?_, fun t k h1 h2 => ?_⟩
  · have h1 : t < (C 3 + 1).toNat := h1
    rw [e _ (by omega)] at h2
    by_cases hn : t = (C 3).toNat
    · rw [hn, l1] at h2; exact absurd h2 (List.not_mem_nil)
    · exact lt.1 t k (by omega) h2
  · have h1 : t < (C 3 + 1).toNat := h1
    rw [e _ (by omega)] at h2
    by_cases hn : t = (C 3).toNat
    · rw [hn, l2] at h2; exact absurd h2 (List.not_mem_nil)
    · exact lt.2.1 t k (by omega) h2
  · rw [e _ (by omega)] at h2
    rw [e _ (by omega)]
    have q := lt.2.2.1 o k h1 h2
    exact ⟨show (A 9 k).toNat < (C 3 + 1).toNat by omega, q.2⟩
  · rw [e _ (by omega)] at h2
    rw [e _ (by omega)]
    have q := lt.2.2.2.1 o k h1 h2
    exact ⟨show (A 9 k).toNat < (C 3 + 1).toNat by omega, q.2⟩
  · rw [e _ (by omega)] at h2
    have q := lt.2.2.2.2.1 t k h1 h2
    show k < (C 3 + 1).toNat
    omega
  · rw [e _ (by omega)] at h2
    have q := lt.2.2.2.2.2 t k h1 h2
    exact ⟨q.1, show (A 19 k).toNat < (C 3 + 1).toNat by omega⟩
theorem k_begin {H : Nat} {S N M : Nat} {ow0 : OW} {h0 : AH} (w : WD ad ow K h) (g : CI ad K h.2.2.2.1 C A I F Ls cp) (b : RB C A) (lt : LT C A Ls) (fo : Fo ow0 h0 ow h) (ib : IB C Ls cp) (pt : PT S N h cp) (jw : JB C Ls cp 20 M) (jc : JB C Ls cp 21 M) (hb : HB C Ls cp H) (tb : TB C Ls cp) (hm : ∀ q, q < (C 5).toNat → (A 19 q).toNat < (C 3).toNat) (hle : ∀ i, ¬ lvl C i → Ls i = []) (h45 : A 4 (C 3).toNat = 0 ∧ A 5 (C 3).toNat = 0) {s : Int} (hs : inR s) (e1 : ¬ (0 ≤ s ∧ s < C 1) → Q (.inr (10, h.2.1)) (hex h 10)) (e2 : (0 ≤ s ∧ s < C 1) → C 3 = 500 → Q (.inr (11, h.2.1)) (hex h 11)) (k : (0 ≤ s ∧ s < C 1) → ¬ C 3 = 500 → ∀ h', WX (fun ad' => ad' 0 0 = ad 0 0) ow0 h0 (S + 20) (N + 5) M H (bgS C A I Ls s) h' → Q (.inl (some (aI (C 3)))) h') : Rn 24 0 (entL 24 [aR (ad 0 0), aI s]) [] h Q := by
  show Rn 24 0 [some (aR (ad 0 0)), some (aI s), none] [] h Q
  have b1 := b.c1
  have b2 := b.c2
  have b3 := b.c3
  have v0 : LX ad K h.2.2.2.1 1 4 (Ls 1) (cp 1) := g.ls (id := 1) (Or.inr (Or.inl rfl))
  have len0 : (Ls 1).length = (C 3).toNat := by rw [g.ls1]; exact List.length_range
  obtain ⟨f8, v8⟩ := v0.obj
  obtain ⟨R, hR, hR2⟩ := g.row
  refine x_aload_n k_24_0 rfl ?_
  refine x_iload_n k_24_1 rfl ?_
  refine x_call2 k_24_2 (Nat.le_of_ble_eq_true rfl) (rcv_1 (w.at g.store)) (Nat.le_of_ble_eq_true rfl) ?_
  refine k_needSite w g b hs (fun h1 => bh_v ?_) (fun h1 => bh_o rfl (e1 h1))
  refine x_aload_n k_24_5 rfl ?_
  refine x_get k_24_6 (w.at g.store) rfl ?_
  refine x_call1 k_24_9 (Nat.le_of_ble_eq_true rfl) (rcv_1 (w.at v8)) (Nat.le_of_ble_eq_true rfl) ?_
  refine c_size w v0 (bh_1 ?_)
  refine x_top (show (((Ls 1).length : Nat) : Int) = C 3 by rw [len0]; omega) ?_
  refine x_is2n k_24_12 rfl ?_
  refine x_iload_n k_24_13 rfl ?_
  refine x_sipush k_24_14 ?_
  refine x_icmplt (t := 30) k_24_17 rfl (by show inR (C 3) ∧ inR 500; omega) (fun c17 => ?_) (fun c17 => ?_)
  · have c17 : C 3 < 500 := c17
    have hsn : s.toNat < (C 1).toNat := by omega
    have nn : ∀ {k i : Nat} {e : AE} {e0 : AE} {n : Nat}, K k i = some e → (hnew h e0 n).1 (ad k i) = some e := fun hk => (hnew_n (Nat.ne_of_lt (w.1 _ _ _ hk).2.2)).trans (w.at hk)
    refine x_aload_n k_24_30 rfl ?_
    refine x_get k_24_31 (w.at g.store) rfl ?_
    refine x_new k_24_34 ?_
    refine x_dup k_24_37 rfl ?_
    refine x_iload_n k_24_38 rfl ?_
    refine x_iload_n k_24_39 rfl ?_
    refine x_aload_n k_24_40 rfl ?_
    refine x_get k_24_41 (nn g.store) rfl ?_
    refine x_iload_n k_24_44 rfl ?_
    refine x_aaload k_24_45 (nn hR) (Or.inl rfl) (by omega) (by omega) ?_
    rw [hR2 s.toNat hsn]
    refine x_get k_24_46 (nn (g.site hsn)) rfl ?_
    refine x_call4 k_24_49 (Nat.le_of_ble_eq_true rfl) rfl (Nat.le_of_ble_eq_true rfl) ?_
    refine i_tran (n := (C 1).toNat) (F := F 0 s.toNat) (f1 := aI 0) (f2 := aI 0) (f3 := aN) (f4 := aN) (f5 := aN) (f6 := aI 0) (by omega) (nn (g.seen hsn)) hnew_s (Nat.lt_succ_self _) (bh_v ?_)
    obtain ⟨t, et⟩ : ∃ t, t = (C 3).toNat := ⟨_, rfl⟩
    obtain ⟨ic, eic⟩ : ∃ e : AE, e = .inr (4, [aI (C 3), aI s, aR (h.2.1 + 1), aR (h.2.1 + 1 + 1), aR (h.2.1 + 1 + 2), aI 0, aI 0, aI 0]) := ⟨_, rfl⟩
    obtain ⟨lc, elc⟩ : ∃ e : AE, e = lcell h.2.2.2.1 0 0 := ⟨_, rfl⟩
    obtain ⟨sc, esc⟩ : ∃ e : AE, e = .inl (0, (C 1).toNat, .inl (F 0 s.toNat)) := ⟨_, rfl⟩
    obtain ⟨ad3, ead⟩ : ∃ f : AD, f = qd (qd (qd (qd ad 4 t h.2.1) 12 t (h.2.1 + 1)) 8 (500 + 2 * t) (h.2.1 + 1 + 1)) 8 (501 + 2 * t) (h.2.1 + 1 + 2) := ⟨_, rfl⟩
    obtain ⟨ow3, eow⟩ : ∃ f : OW, f = up (up (up (up ow h.2.1 (4, t)) (h.2.1 + 1) (12, t)) (h.2.1 + 1 + 1) (8, 500 + 2 * t)) (h.2.1 + 1 + 2) (8, 501 + 2 * t) := ⟨_, rfl⟩
    obtain ⟨K3, eK3⟩ : ∃ f : KK, f = p2 (p2 (p2 (p2 K 4 t (.inr (4, dfl 4))) 12 t sc) 8 (500 + 2 * t) lc) 8 (501 + 2 * t) lc := ⟨_, rfl⟩
    obtain ⟨h3, eh3⟩ : ∃ f : AH, f = hnew (hnew (hnew (hnew h (.inr (4, dfl 4)) 8) sc (C 1).toNat) lc 3) lc 3 := ⟨_, rfl⟩
    have w3 : WD ad3 ow3 K3 h3 := by
      rw [ead, eow, eK3, eh3]
      exact (((w.new (k := 4) (i := t) (e := .inr (4, dfl 4)) (c := 8) (by decide)).new (k := 12) (i := t) (e := sc) (c := (C 1).toNat) (by decide)).new (k := 8) (i := 500 + 2 * t) (e := lc) (c := 3) (by decide)).new (k := 8) (i := 501 + 2 * t) (e := lc) (c := 3) (by decide)
    have fo3 : Fo ow0 h0 ow3 h3 := by
      rw [eow, eh3]
      exact fo.tr (Fo.new.tr (Fo.new.tr (Fo.new.tr Fo.new)))
    have ea : ad3 4 t = h.2.1 := by rw [ead, qd_n (by omega), qd_n (by omega), qd_n (by omega)]; exact qd_s
    have ek3 : K3 4 t = some (.inr (4, dfl 4)) := by rw [eK3, p2_n (by omega), p2_n (by omega), p2_n (by omega)]; exact p2_s
    have w4 : WD ad3 ow3 (p2 K3 4 t ic) (hput h3 h.2.1 ic) := by
      have := w3.put (e := ic) ek3
      rw [ea] at this
      exact this
    have fo4 : Fo ow0 h0 ow3 (hput h3 h.2.1 ic) := by
      have := fo3.tr (Fo.put (e := ic) w3 ek3)
      rw [ea] at this
      exact this
    have ez : (hput h3 h.2.1 ic).2.2.2.1 = h.2.2.2.1 := by rw [eh3]; rfl
    have ekk : ∀ k i, ¬ (k = 4 ∧ i = t) → ¬ (k = 12 ∧ i = t) → ¬ (k = 8 ∧ i = 500 + 2 * t) → ¬ (k = 8 ∧ i = 501 + 2 * t) → p2 K3 4 t ic k i = K k i ∧ ad3 k i = ad k i := fun k i n1 n2 n3 n4 => by
      rw [p2_n n1, eK3, p2_n n4, p2_n n3, p2_n n2, p2_n n1, ead, qd_n n4, qd_n n3, qd_n n2, qd_n n1]
      exact ⟨rfl, rfl⟩
    have h3' : ∀ j, ¬ j = t → bgA C A s 3 j = A 3 j := fun j hj => by
      rw [et] at hj
      exact show up (A 3) (C 3).toNat s j = A 3 j from up_n hj
    have h6' : ∀ t' u, ¬ t' = t → u < 6 → bgA C A s 6 (6 * t' + u) = A 6 (6 * t' + u) := fun t' u hj hu => by
      show stF (up A 3 (up (A 3) (C 3).toNat s)) (C 3).toNat s.toNat (C 1).toNat (6 * t' + u) = A 6 (6 * t' + u)
      unfold stF
      rw [if_neg (by omega)]
      rfl
    have h6t : ∀ u, u < (C 1).toNat → bgA C A s 6 (6 * t + u) = F 0 s.toNat u := fun u hu => by
      show stF (up A 3 (up (A 3) (C 3).toNat s)) (C 3).toNat s.toNat (C 1).toNat (6 * t + u) = F 0 s.toNat u
      unfold stF
      rw [if_pos (by omega), show 6 * t + u - 6 * (C 3).toNat = u by omega, g.f0 hsn hu]
      rfl
    have i0' : ∀ j, ¬ j = t → up I 0 (up (I 0) (C 3).toNat 0) 0 j = I 0 j := fun j hj => by
      rw [et] at hj
      exact show up (I 0) (C 3).toNat 0 j = I 0 j from up_n hj
    obtain ⟨I', eI⟩ : ∃ f : Nat → Nat → Int, f = up I 0 (up (I 0) (C 3).toNat 0) := ⟨_, rfl⟩
    obtain ⟨F', eF⟩ : ∃ f : Nat → Nat → Nat → Int, f = up F 1 (up (F 1) t (F 0 s.toNat)) := ⟨_, rfl⟩
    have eF0 : F' 0 = F 0 := by rw [eF]; rfl
    have eF2 : F' 2 = F 2 := by rw [eF]; rfl
    have eF1 : ∀ j, ¬ j = t → F' 1 j = F 1 j := fun j hj => by rw [eF]; exact show up (F 1) t (F 0 s.toNat) j = F 1 j from up_n hj
    have g0 : CI ad K h.2.2.2.1 C (bgA C A s) I' F Ls cp := by
      rw [eI]
      exact g.agr ⟨rfl, rfl, rfl, rfl, rfl⟩ ⟨rfl, rfl⟩ (fun _ _ => ⟨rfl, rfl, rfl⟩) (fun j hj => ⟨h3' j (by omega), rfl, rfl, i0' j (by omega)⟩) (fun _ _ _ _ => ⟨rfl, rfl⟩) (fun _ _ _ _ => ⟨rfl, rfl, rfl⟩) (fun _ _ => ⟨rfl, rfl, rfl⟩) (fun _ _ _ _ => rfl) (fun j u hj hu => h6' j u (by omega) (by omega))
    have g00 : CI ad K h.2.2.2.1 C (bgA C A s) I' F' Ls cp := by
      obtain ⟨g1, g2, g3, g4, g5, g6, g7, g8, g9, g10, g11, g12, g13, g14, g15, g16, g17⟩ := g0
      refine ⟨g1, g2, g3, fun j hj => ?_, g5, g6, fun j hj => ?_, g8, g9, g10, g11, ?_, g13, g14, fun j u hj hu => ?_, fun j u hj hu => ?_, g17⟩
      · rw [eF0]; exact g4 j hj
      · rw [eF1 j (by omega)]; exact g7 j hj
      · rw [eF2]; exact g12
      · rw [eF0]; exact g15 j u hj hu
      · rw [eF1 j (by omega)]; exact g16 j u hj hu
    have g4 : CI ad3 (p2 K3 4 t ic) h.2.2.2.1 C (bgA C A s) I' F' Ls cp := by
      refine g00.ext lt b1.2 hm (fun k i hu => ekk k i (fun q => ?_) (fun q => ?_) (fun q => ?_) (fun q => ?_))
      · obtain ⟨rfl, rfl⟩ := q
        have := usd_4 hu
        omega
      · obtain ⟨rfl, rfl⟩ := q
        have := usd_12 hu
        omega
      · obtain ⟨rfl, rfl⟩ := q
        have := usd_8 hu
        unfold lvl at this
        omega
      · obtain ⟨rfl, rfl⟩ := q
        have := usd_8 hu
        unfold lvl at this
        omega
    have e20 : ad3 8 (500 + 2 * t) = h.2.1 + 1 + 1 := by rw [ead, qd_n (by omega)]; exact qd_s
    have e21 : ad3 8 (501 + 2 * t) = h.2.1 + 1 + 2 := by rw [ead]; exact qd_s
    have e12 : ad3 12 t = h.2.1 + 1 := by rw [ead, qd_n (by omega), qd_n (by omega)]; exact qd_s
    have hi : p2 K3 4 t ic 4 t = some (trCell ad3 (bgA C A s) I' t) := by
      rw [p2_s, eic]
      unfold trCell
      rw [e12, e20, e21, et, show bgA C A s 3 (C 3).toNat = s from up_s, show bgA C A s 4 (C 3).toNat = 0 from h45.1, show bgA C A s 5 (C 3).toNat = 0 from h45.2, eI, show up I 0 (up (I 0) (C 3).toNat 0) 0 (C 3).toNat = 0 from up_s, show (((C 3).toNat : Nat) : Int) = C 3 by omega]
    have u12 : p2 K3 4 t ic 12 t = some (inCell (C 1).toNat (F' 1 t)) := by
      rw [p2_n (by omega), eK3, p2_n (by omega), p2_n (by omega), p2_s, esc, eF]
      rw [show up F 1 (up (F 1) t (F 0 s.toNat)) 1 t = F 0 s.toNat from up_s]
      rfl
    have u20 : p2 K3 4 t ic 8 (500 + 2 * t) = some lc := by rw [p2_n (by omega), eK3, p2_n (by omega)]; exact p2_s
    have u21 : p2 K3 4 t ic 8 (501 + 2 * t) = some lc := by rw [p2_n (by omega), eK3]; exact p2_s
    have lv20 : ¬ lvl C (500 + 2 * t) := by unfold lvl; omega
    have lv21 : ¬ lvl C (501 + 2 * t) := by unfold lvl; omega
    have l20 := hle _ lv20
    have l21 := hle _ lv21
    have c20 := tb.2.2.2.1 (500 + 2 * t) (by omega) lv20
    have c21 := tb.2.2.2.1 (501 + 2 * t) (by omega) lv21
    have vv : LX ad3 (p2 K3 4 t ic) (hput h3 h.2.1 ic).2.2.2.1 1 4 (Ls 1) (cp 1) := by rw [ez]; exact g4.ls (id := 1) (Or.inr (Or.inl rfl))
    obtain ⟨f8', v8'⟩ := vv.obj
    have e80 : ad3 8 1 = ad 8 1 := (ekk 8 1 (by omega) (by omega) (by omega) (by omega)).2
    have e00 : ad3 0 0 = ad 0 0 := (ekk 0 0 (by omega) (by omega) (by omega) (by omega)).2
    have tb0 := tb.2.1
    show Rn 24 52 [some (aR (ad 0 0)), some (aI s), some (aI (C 3))] [aR h.2.1, aR (ad 8 1)] (hput (hnew (hnew (hnew (hnew h (.inr (4, dfl 4)) 8) (.inl (0, (C 1).toNat, .inl (F 0 s.toNat))) (C 1).toNat) (lcell h.2.2.2.1 0 0) 3) (lcell h.2.2.2.1 0 0) 3) h.2.1 (.inr (4, [aI (C 3), aI s, aR (h.2.1 + 1), aR (h.2.1 + 1 + 1), aR (h.2.1 + 1 + 2), aI 0, aI 0, aI 0]))) Q
    rw [← elc, ← esc, ← eh3, ← eic, ← e80, ← ea, ← e00]
    rw [ea]
    refine x_call2 k_24_52 (Nat.le_of_ble_eq_true rfl) (rcv_1 (w4.at v8')) (Nat.le_of_ble_eq_true rfl) ?_
    have z := c_add (Q := Bh 24 52 55 [some (aR (ad3 0 0)), some (aI s), some (aI (C 3))] [] Q) w4 vv (by decide) (x := t) hi (by omega) (fun ad' ow' K' h' c' wa v' => bh_1 (by
      obtain ⟨w5, fo5, hK, hA, hc, hcost⟩ := wa
      have e5 : h'.2.2.2.1 = h.2.2.2.1 := by rw [fo5.2.2.1]; exact ez
      have g5 := g4.beg (z := h.2.2.2.1) ⟨b3.1, c17⟩ et hi u12 (by rw [u20, elc]) (by rw [u21, elc]) l20 l21 c20 c21 (fun u hu => by rw [h6t u hu, eF]; exact congrFun (show up F 1 (up (F 1) t (F 0 s.toNat)) 1 t = F 0 s.toNat from up_s) u) (by rw [et, show bgA C A s 3 (C 3).toNat = s from up_s]; exact h1.2) hK hA (by rw [e5] at v'; exact v')
      rw [← e5] at g5
      refine x_pop k_24_55 rfl ?_
      refine x_iload_n k_24_56 rfl ?_
      refine x_ireturn k_24_57 rfl ?_
      refine k h1 (by omega) h' ?_
      have cc1 : (hput h3 h.2.1 ic).2.1 = h.2.1 + 4 := by rw [eh3]; rfl
      have cc2 : (hput h3 h.2.1 ic).2.2.1 = h.2.2.1 + 8 + (C 1).toNat + 3 + 3 := by rw [eh3]; rfl
      have bA : RB (up C 3 (C 3 + 1)) (bgA C A s) := by
        refine ((b.t3 (m := (C 3).toNat) (x := s) ⟨by omega, by omega⟩).s6 (fun j => ?_)).d3 ⟨by omega, by omega⟩
        unfold stF
        split
        · exact b.v13 _
        · exact b.v6 _
      have hv : (Ls 1).length ≤ cp 1 ∧ (cp 1 = 0 ∨ 10 ≤ cp 1) := by
        obtain ⟨m, G, v⟩ := v0
        exact ⟨v.2.2.1, v.2.2.2.1⟩
      have hnc : ncap (cp 1) ≤ 10 + 2 * cp 1 ∧ ncap (cp 1) ≤ 4 * (ncap (cp 1) - cp 1) ∧ cp 1 ≤ ncap (cp 1) := by
        unfold ncap
        split <;> omega
      have hsum := csum_up (cp := cp) (id := 1) (c := c') 1500 (by decide)
      unfold bgS
      rw [← eI, ← et]
      refine ⟨ad', ow', K', F', _, (hA 0 0 (by omega)).trans e00, w5, g5, bA, lt.beg b3.1 b1.2 (by rw [← et]; exact l20) (by rw [← et]; exact l21), fo4.tr fo5, fun u hu => ?_, ⟨?_, ?_⟩, ⟨fun o' ho => ?_, fun o' ho => ?_⟩, fun s' hs' => ?_, ?_, ?_, fun i h1 h2 => ?_, fun i h1 h2 => ?_, (show up cp 1 c' 2000 ≤ 1024 by rw [up_n (by decide)]; exact tb.2.2.2.2)⟩
      · show (up Ls 1 _ (3 + 2 * u)).length ≤ _ ∧ _
        rw [up_n (by omega), up_n (by omega)]
        exact ib u hu
      · have := pt.1
        rcases hcost with ⟨d1, d2⟩ | ⟨d1, d2, d3, d4⟩
        · rw [d2, cc2]; omega
        · rw [d3, cc2]; omega
      · have := pt.2
        rcases hcost with ⟨d1, d2⟩ | ⟨d1, d2, d3, d4⟩
        · rw [d2, cc1]; omega
        · rw [d2, cc1]; omega
      · show up cp 1 c' (20 + 2 * o') ≤ 10 + 2 * (up Ls 1 _ (20 + 2 * o')).length ∧ (up Ls 1 _ (20 + 2 * o')).length ≤ M
        rw [up_n (by omega), up_n (by omega)]
        exact jw o' ho
      · show up cp 1 c' (21 + 2 * o') ≤ 10 + 2 * (up Ls 1 _ (21 + 2 * o')).length ∧ (up Ls 1 _ (21 + 2 * o')).length ≤ M
        rw [up_n (by omega), up_n (by omega)]
        exact jc o' ho
      · show (up Ls 1 _ (2 + 2 * s')).length ≤ H ∧ _
        rw [up_n (by omega), up_n (by omega)]
        exact hb s' hs'
      · show up cp 1 c' 0 ≤ _
        rw [up_n (by decide)]
        exact tb.1
      · show up cp 1 c' 1 ≤ 10 + 2 * (C 3 + 1).toNat
        rw [up_s]
        rcases hcost with ⟨d1, d2⟩ | ⟨d1, d2, d3, d4⟩ <;> omega
      · have h2 : i < 500 + 2 * (C 3 + 1).toNat := h2
        show up cp 1 c' i ≤ 10 + 2 * (up Ls 1 _ i).length
        rw [up_n (by omega), up_n (by omega)]
        by_cases n1 : i = 500 + 2 * t
        · rw [n1, c20]; exact Nat.zero_le _
        by_cases n2 : i = 501 + 2 * t
        · rw [n2, c21]; exact Nat.zero_le _
        exact tb.2.2.1 i h1 (by omega)
      · have q1 : up C 3 (C 3 + 1) 1 = C 1 := rfl
        have q2 : up C 3 (C 3 + 1) 2 = C 2 := rfl
        have q3 : up C 3 (C 3 + 1) 3 = C 3 + 1 := rfl
        have h2 : ¬ lvl (up C 3 (C 3 + 1)) i := h2
        have h3 : ¬ lvl C i := fun y => h2 (by unfold lvl at y ⊢; rw [q1, q2, q3]; omega)
        have h4 : ¬ i = 1 := fun y => h3 (Or.inr (Or.inl y))
        show up cp 1 c' i = 0
        rw [up_n h4]
        exact tb.2.2.2.1 i h1 h3))
    rw [ea] at z
    exact z
  · have c17 : ¬ C 3 < 500 := c17
    refine x_throw k_24_20 (Nat.le_of_ble_eq_true rfl) ?_
    exact e2 h1 (by omega)
end C34
