section C39
variable {ad : AD} {ow : OW} {K : KK} {h : AH} {C : Nat → Int} {A I : Nat → Nat → Int} {F : Nat → Nat → Nat → Int} {Ls : Nat → List Nat} {cp : Nat → Nat} {Q : AR → AH → Prop}
theorem TZ.mono {n B B' : Nat} {T : Int → Int} {I0 : Nat → Nat → Int} {F0 : Nat → Nat → Nat → Int} {cpb : Nat → Nat} {ad0 : AD} {h1 : AH} {ow0 : OW} {h0 : AH} (tz : TZ C A Ls I0 F0 cpb ad0 h1 ow0 h0 T B ad ow K I F cp n h) (hB : B ≤ B') : TZ C A Ls I0 F0 cpb ad0 h1 ow0 h0 T B' ad ow K I F cp n h := by
  obtain ⟨w, fo, g, ⟨t1, t2, t3, t4, t5, t6⟩, r⟩ := tz
  exact ⟨w, fo, g, ⟨t1, t2, t3, t4, fun x => by have := t5 x; omega, by omega⟩, r⟩
theorem lp_all1 {I0 : Nat → Nat → Int} {F0 : Nat → Nat → Nat → Int} {cpb : Nat → Nat} {ad0 : AD} {h1 : AH} {ow0 : OW} {h0 : AH} (b : RB C A) (lt : LT C A Ls) {t o : Nat} (ht : t < (C 3).toNat) (ho : o < (C 2).toNat) (hin : ∀ t' x, t' < (C 3).toNat → x ∈ Ls (501 + 2 * t') → inR (A 12 x)) (hlen : (Ls (21 + 2 * o)).length ≤ 512) (k : ∀ ad ow K I F cp n h z, TZ C A Ls I0 F0 cpb ad0 h1 ow0 h0 (fun y => smj (Ls (21 + 2 * o)) (fvs A t y) (Ls (21 + 2 * o)).length) (Ls (21 + 2 * o)).length ad ow K I F cp n h → Rn 52 54 [some (aR (ad 4 t)), some (aR (ad 3 o)), some (aR (ad 1 0)), some (aI ((Ls (21 + 2 * o)).length : Int)), z] [] h Q) : ∀ r j : Nat, j + r = (Ls (21 + 2 * o)).length → ∀ ad ow K I F cp n h z, TZ C A Ls I0 F0 cpb ad0 h1 ow0 h0 (fun y => smj (Ls (21 + 2 * o)) (fvs A t y) j) j ad ow K I F cp n h → Rn 52 6 [some (aR (ad 4 t)), some (aR (ad 3 o)), some (aR (ad 1 0)), some (aI (j : Int)), z] [] h Q := by
  intro r
  induction r with
  | zero =>
    intro j hj ad ow K I F cp n h z tz
    have tz0 := tz
    obtain ⟨w, fo, g, _⟩ := tz
    have v := g.ic ho
    obtain ⟨e8, v8⟩ := v.obj
    have vl := v.len
    refine x_iload_n k_52_6 rfl ?_
    refine x_aload_n k_52_7 rfl ?_
    refine x_get k_52_8 (w.at (g.item ho)) rfl ?_
    refine x_call1 k_52_11 (Nat.le_of_ble_eq_true rfl) (rcv_1 (w.at v8)) (Nat.le_of_ble_eq_true rfl) ?_
    refine c_size w v (bh_1 ?_)
    refine x_icmpge (t := 54) k_52_14 rfl (by show inR ((j : Int)) ∧ inR (((Ls (21 + 2 * o)).length : Int)); omega) (fun hb => ?_) (fun hb => absurd (show ((Ls (21 + 2 * o)).length : Int) ≤ j by omega) hb)
    have e : j = (Ls (21 + 2 * o)).length := by omega
    rw [e] at tz0
    rw [e]
    exact k ad ow K I F cp n h z tz0
  | succ r ih =>
    intro j hj ad ow K I F cp n h z tz
    have tz0 := tz
    obtain ⟨w, fo, g, _⟩ := tz
    have v := g.ic ho
    obtain ⟨e8, v8⟩ := v.obj
    have vl := v.len
    refine x_iload_n k_52_6 rfl ?_
    refine x_aload_n k_52_7 rfl ?_
    refine x_get k_52_8 (w.at (g.item ho)) rfl ?_
    refine x_call1 k_52_11 (Nat.le_of_ble_eq_true rfl) (rcv_1 (w.at v8)) (Nat.le_of_ble_eq_true rfl) ?_
    refine c_size w v (bh_1 ?_)
    refine x_icmpge (t := 54) k_52_14 rfl (by show inR ((j : Int)) ∧ inR (((Ls (21 + 2 * o)).length : Int)); omega) (fun hb => absurd (show ((Ls (21 + 2 * o)).length : Int) ≤ j from hb) (by omega)) (fun hb => ?_)
    obtain ⟨x, hx, hm⟩ := at_l (l := Ls (21 + 2 * o)) (j := j) (by omega)
    have hT := lt.2.2.2.1 o x ho hm
    have hr := hin _ x hT.1 hT.2
    refine x_aload_n k_52_17 rfl ?_
    refine x_get k_52_18 (w.at (g.item ho)) rfl ?_
    refine x_iload_n k_52_21 rfl ?_
    refine x_call2 k_52_22 (Nat.le_of_ble_eq_true rfl) (rcv_1 (w.at v8)) (Nat.le_of_ble_eq_true rfl) ?_
    refine c_get w v hx (bh_1 ?_)
    refine x_cast k_52_25 (w.at (g.ch hT.1 hT.2)) ?_
    refine x_as4 k_52_28 rfl ?_
    refine x_aload_n k_52_30 rfl ?_
    refine x_aload k_52_31 rfl ?_
    refine x_get k_52_33 (w.at (g.ch hT.1 hT.2)) rfl ?_
    refine x_call2 k_52_36 (Nat.le_of_ble_eq_true rfl) (rcv_1 (w.at (g.tran ht))) (Nat.le_of_ble_eq_true rfl) ?_
    refine k_sees w g b hT.1 ht (bh_1 ?_)
    refine x_ifeq_b (t := 48) k_52_39 rfl (fun c39 => ?_) (fun c39 => ?_)
    · refine x_inc3 k_52_48 rfl ?_
      refine x_goto (t := 6) k_52_51 rfl ?_
      have e : (fun y => smj (Ls (21 + 2 * o)) (fvs A t y) (j + 1)) = (fun y => smj (Ls (21 + 2 * o)) (fvs A t y) j) := by
        funext y
        rw [smj_s hx, show fvs A t y x = 0 from if_neg (fun q => by rw [c39] at q; exact absurd q.2 (by decide)), Int.add_zero]
      exact ih (j + 1) (by omega) ad ow K I F cp n h (some (aR (ad 6 x))) (by rw [e]; exact tz0.mono (by omega))
    · refine x_aload_n k_52_42 rfl ?_
      refine x_aload k_52_43 rfl ?_
      refine x_call2 k_52_45 (Nat.le_of_ble_eq_true rfl) (rcv_1 (w.at g.tal.1)) (Nat.le_of_ble_eq_true rfl) ?_
      refine k_take b tz0 (by omega) hT.1 hT.2 hr (fun ad' ow' K' I' F' cp' n' h' tz' => bh_v ?_)
      refine x_inc3 k_52_48 rfl ?_
      refine x_goto (t := 6) k_52_51 rfl ?_
      have e : (fun y => smj (Ls (21 + 2 * o)) (fvs A t y) (j + 1)) = adT (fun y => smj (Ls (21 + 2 * o)) (fvs A t y) j) (A 12 x) (A 11 x) := by
        funext y
        unfold adT
        rw [smj_s hx]
        by_cases q : y = A 12 x
        · rw [if_pos q, show fvs A t y x = A 11 x from if_pos ⟨q.symm, c39⟩]
        · rw [if_neg q, show fvs A t y x = 0 from if_neg (fun z => q z.1.symm), Int.add_zero]
      have ea : ∀ k i, ¬ k = 13 → ad' k i = ad k i := fun k i hk => (tz'.2.2.2.2.2.2.2.2.2.2.2.1 k i hk).trans (tz0.2.2.2.2.2.2.2.2.2.2.2.1 k i hk).symm
      have zz := ih (j + 1) (by omega) ad' ow' K' I' F' cp' n' h' (some (aR (ad 6 x))) (by rw [e]; exact tz')
      rw [ea 4 t (by decide), ea 3 o (by decide), ea 1 0 (by decide)] at zz
      exact zz
theorem lp_all2 {I0 : Nat → Nat → Int} {F0 : Nat → Nat → Nat → Int} {cpb : Nat → Nat} {ad0 : AD} {h1 : AH} {ow0 : OW} {h0 : AH} (b : RB C A) (lt : LT C A Ls) {t o : Nat} (ht : t < (C 3).toNat) (ho : o < (C 2).toNat) (hin : ∀ t' x, t' < (C 3).toNat → x ∈ Ls (501 + 2 * t') → inR (A 12 x)) (hlen : (Ls (21 + 2 * o)).length + (Ls (501 + 2 * t)).length ≤ 512) (k : ∀ ad ow K I F cp n h, TZ C A Ls I0 F0 cpb ad0 h1 ow0 h0 (fun y => smj (Ls (21 + 2 * o)) (fvs A t y) (Ls (21 + 2 * o)).length + smj (Ls (501 + 2 * t)) (fow A o y) (Ls (501 + 2 * t)).length) ((Ls (21 + 2 * o)).length + (Ls (501 + 2 * t)).length) ad ow K I F cp n h → Q (.inl none) h) : ∀ r j : Nat, j + r = (Ls (501 + 2 * t)).length → ∀ ad ow K I F cp n h z, TZ C A Ls I0 F0 cpb ad0 h1 ow0 h0 (fun y => smj (Ls (21 + 2 * o)) (fvs A t y) (Ls (21 + 2 * o)).length + smj (Ls (501 + 2 * t)) (fow A o y) j) ((Ls (21 + 2 * o)).length + j) ad ow K I F cp n h → Rn 52 56 [some (aR (ad 4 t)), some (aR (ad 3 o)), some (aR (ad 1 0)), some (aI (j : Int)), z] [] h Q := by
  intro r
  induction r with
  | zero =>
    intro j hj ad ow K I F cp n h z tz
    have tz0 := tz
    obtain ⟨w, fo, g, _⟩ := tz
    have v := g.lc ht
    obtain ⟨e8, v8⟩ := v.obj
    have vl := v.len
    refine x_iload_n k_52_56 rfl ?_
    refine x_aload_n k_52_57 rfl ?_
    refine x_get k_52_58 (w.at (g.tran ht)) rfl ?_
    refine x_call1 k_52_61 (Nat.le_of_ble_eq_true rfl) (rcv_1 (w.at v8)) (Nat.le_of_ble_eq_true rfl) ?_
    refine c_size w v (bh_1 ?_)
    refine x_icmpge (t := 101) k_52_64 rfl (by show inR ((j : Int)) ∧ inR (((Ls (501 + 2 * t)).length : Int)); omega) (fun hb => ?_) (fun hb => absurd (show ((Ls (501 + 2 * t)).length : Int) ≤ j by omega) hb)
    refine x_return k_52_101 ?_
    have e : j = (Ls (501 + 2 * t)).length := by omega
    rw [e] at tz0
    exact k ad ow K I F cp n h tz0
  | succ r ih =>
    intro j hj ad ow K I F cp n h z tz
    have tz0 := tz
    obtain ⟨w, fo, g, _⟩ := tz
    have v := g.lc ht
    obtain ⟨e8, v8⟩ := v.obj
    have vl := v.len
    refine x_iload_n k_52_56 rfl ?_
    refine x_aload_n k_52_57 rfl ?_
    refine x_get k_52_58 (w.at (g.tran ht)) rfl ?_
    refine x_call1 k_52_61 (Nat.le_of_ble_eq_true rfl) (rcv_1 (w.at v8)) (Nat.le_of_ble_eq_true rfl) ?_
    refine c_size w v (bh_1 ?_)
    refine x_icmpge (t := 101) k_52_64 rfl (by show inR ((j : Int)) ∧ inR (((Ls (501 + 2 * t)).length : Int)); omega) (fun hb => absurd (show ((Ls (501 + 2 * t)).length : Int) ≤ j from hb) (by omega)) (fun hb => ?_)
    obtain ⟨x, hx, hm⟩ := at_l (l := Ls (501 + 2 * t)) (j := j) (by omega)
    have hT := lt.2.1 t x ht hm
    have hr := hin _ x ht hm
    refine x_aload_n k_52_67 rfl ?_
    refine x_get k_52_68 (w.at (g.tran ht)) rfl ?_
    refine x_iload_n k_52_71 rfl ?_
    refine x_call2 k_52_72 (Nat.le_of_ble_eq_true rfl) (rcv_1 (w.at v8)) (Nat.le_of_ble_eq_true rfl) ?_
    refine c_get w v hx (bh_1 ?_)
    refine x_cast k_52_75 (w.at (g.ch ht hm)) ?_
    refine x_as4 k_52_78 rfl ?_
    refine x_aload k_52_80 rfl ?_
    refine x_get k_52_82 (w.at (g.ch ht hm)) rfl ?_
    refine x_aload_n k_52_85 rfl ?_
    refine x_acmpne (t := 95) k_52_86 rfl (fun c86 => ?_) (fun c86 => ?_)
    · refine x_inc3 k_52_95 rfl ?_
      refine x_goto (t := 56) k_52_98 rfl ?_
      have e : (fun y => smj (Ls (21 + 2 * o)) (fvs A t y) (Ls (21 + 2 * o)).length + smj (Ls (501 + 2 * t)) (fow A o y) (j + 1)) = (fun y => smj (Ls (21 + 2 * o)) (fvs A t y) (Ls (21 + 2 * o)).length + smj (Ls (501 + 2 * t)) (fow A o y) j) := by
        funext y
        rw [smj_s hx, show fow A o y x = 0 from if_neg (fun q => c86 (by rw [q.2])), Int.add_zero]
      exact ih (j + 1) (by omega) ad ow K I F cp n h (some (aR (ad 6 x))) (by rw [e]; exact tz0.mono (by omega))
    · have hxo : (A 10 x).toNat = o := by
        exact Classical.byContradiction (fun q => by
          have c86 : ad 3 (A 10 x).toNat = ad 3 o := Option.some.inj (Decidable.not_not.mp c86)
          exact w.ne (g.item hT.2) (g.item ho) (fun y => q y.2) c86)
      refine x_aload_n k_52_89 rfl ?_
      refine x_aload k_52_90 rfl ?_
      refine x_call2 k_52_92 (Nat.le_of_ble_eq_true rfl) (rcv_1 (w.at g.tal.1)) (Nat.le_of_ble_eq_true rfl) ?_
      refine k_take b tz0 (by omega) ht hm hr (fun ad' ow' K' I' F' cp' n' h' tz' => bh_v ?_)
      refine x_inc3 k_52_95 rfl ?_
      refine x_goto (t := 56) k_52_98 rfl ?_
      have e : (fun y => smj (Ls (21 + 2 * o)) (fvs A t y) (Ls (21 + 2 * o)).length + smj (Ls (501 + 2 * t)) (fow A o y) (j + 1)) = adT (fun y => smj (Ls (21 + 2 * o)) (fvs A t y) (Ls (21 + 2 * o)).length + smj (Ls (501 + 2 * t)) (fow A o y) j) (A 12 x) (A 11 x) := by
        funext y
        unfold adT
        rw [smj_s hx]
        by_cases q : y = A 12 x
        · rw [if_pos q, show fow A o y x = A 11 x from if_pos ⟨q.symm, hxo⟩, Int.add_assoc]
        · rw [if_neg q, show fow A o y x = 0 from if_neg (fun z => q z.1.symm), Int.add_zero]
      have ea : ∀ k i, ¬ k = 13 → ad' k i = ad k i := fun k i hk => (tz'.2.2.2.2.2.2.2.2.2.2.2.1 k i hk).trans (tz0.2.2.2.2.2.2.2.2.2.2.2.1 k i hk).symm
      have zz := ih (j + 1) (by omega) ad' ow' K' I' F' cp' n' h' (some (aR (ad 6 x))) (by rw [e]; exact tz')
      rw [ea 4 t (by decide), ea 3 o (by decide), ea 1 0 (by decide)] at zz
      exact zz
theorem k_countAll {ow0 : OW} {h0 : AH} (w : WD ad ow K h) (g : CI ad K h.2.2.2.1 C A I F Ls cp) (b : RB C A) (lt : LT C A Ls) (fo : Fo ow0 h0 ow h) {t o : Nat} (ht : t < (C 3).toNat) (ho : o < (C 2).toNat) (hin : ∀ t' x, t' < (C 3).toNat → x ∈ Ls (501 + 2 * t') → inR (A 12 x)) (hlen2 : (Ls (21 + 2 * o)).length + (Ls (501 + 2 * t)).length ≤ 512) (hcp : cp 2000 ≤ 1024) (k : ∀ ad' ow' K' I' F' cp' n h', TZ C A Ls I F cp ad h ow0 h0 (fun y => smj (Ls (21 + 2 * o)) (fvs A t y) (Ls (21 + 2 * o)).length + smj (Ls (501 + 2 * t)) (fow A o y) (Ls (501 + 2 * t)).length) ((Ls (21 + 2 * o)).length + (Ls (501 + 2 * t)).length) ad' ow' K' I' F' cp' n h' → Q (.inl none) h') : Rn 52 0 (entL 52 [aR (ad 4 t), aR (ad 3 o), aR (ad 1 0)]) [] h Q := by
  show Rn 52 0 [some (aR (ad 4 t)), some (aR (ad 3 o)), some (aR (ad 1 0)), none, none] [] h Q
  obtain ⟨y1, y2, y3, y4⟩ := g.tal
  refine x_aload_n k_52_0 rfl ?_
  refine x_call1 k_52_1 (Nat.le_of_ble_eq_true rfl) (rcv_1 (w.at y1)) (Nat.le_of_ble_eq_true rfl) ?_
  show Rn 53 0 [some (aR (ad 1 0))] [] h _
  refine x_aload_n k_53_0 rfl ?_
  refine x_iconst k_53_1 ?_
  refine x_put k_53_2 (w.at y1) (Nat.le_of_ble_eq_true rfl) rfl ?_
  refine x_return k_53_5 ?_
  refine bh_v ?_
  have w1 := w.put (e := tyCell ad (up I 4 (up (I 4) 0 0))) y1
  have fo1 := fo.tr (Fo.put (e := tyCell ad (up I 4 (up (I 4) 0 0))) w y1)
  have g1 : CI ad (p2 K 1 0 (tyCell ad (up I 4 (up (I 4) 0 0)))) h.2.2.2.1 C A (up I 4 (up (I 4) 0 0)) F Ls cp := by
    refine g.tly b (fun k i n1 n2 => ⟨p2_n n1, rfl⟩) rfl ⟨p2_s, ?_, ?_, y4⟩ (fun j hj => up_n hj) (fun _ _ => rfl) (fun _ _ => rfl)
    · rw [p2_n (by omega)]; exact y2
    · rw [p2_n (by omega)]; exact y3
  show Rn 52 4 _ [] (hput h (ad 1 0) (tyCell ad (up I 4 (up (I 4) 0 0)))) Q
  refine x_iconst k_52_4 ?_
  refine x_is3n k_52_5 rfl ?_
  refine lp_all1 (I0 := I) (F0 := F) (cpb := cp) (ad0 := ad) (h1 := h) (ow0 := ow0) (h0 := h0) b lt ht ho hin (by omega) (fun ad2 ow2 K2 I2 F2 cp2 n2 h2 z2 tz2 => ?_) (Ls (21 + 2 * o)).length 0 (by omega) ad ow _ _ F cp 0 _ none ⟨w1, fo1, g1, ⟨fun p q _ hq => absurd hq (by omega), fun p hp => absurd hp (by omega), fun x hx => absurd rfl hx, fun p hp => absurd hp (by omega), fun x => ⟨by show -((0 : Nat) : Int) ≤ 0; omega, by show (0 : Int) ≤ ((0 : Nat) : Int); omega⟩, Nat.le_refl _⟩, (show up (I 4) 0 (0 : Int) 0 = ((0 : Nat) : Int) from up_s), Nat.zero_le _, hcp, Nat.le_refl _, fun j hj => up_n hj, fun _ _ => rfl, fun _ _ => rfl, fun _ _ _ => rfl, Nat.le_add_right _ _, Nat.le_add_right _ _⟩
  refine x_iconst k_52_54 ?_
  refine x_is3n k_52_55 rfl ?_
  refine lp_all2 (I0 := I) (F0 := F) (cpb := cp) (ad0 := ad) (h1 := h) (ow0 := ow0) (h0 := h0) b lt ht ho hin hlen2 k (Ls (501 + 2 * t)).length 0 (by omega) ad2 ow2 K2 I2 F2 cp2 n2 h2 z2 ?_
  have e : (fun y => smj (Ls (21 + 2 * o)) (fvs A t y) (Ls (21 + 2 * o)).length + smj (Ls (501 + 2 * t)) (fow A o y) 0) = (fun y => smj (Ls (21 + 2 * o)) (fvs A t y) (Ls (21 + 2 * o)).length) := by
    funext y
    show _ + 0 = _
    rw [Int.add_zero]
  rw [e]
  exact tz2
/-- the i-th of the places that count -/
def plc (n : Nat) (c : Nat → Int) (i : Int) : Nat → Nat → Option Nat
  | 0, _ => none
  | r + 1, b => if c (n - (r + 1)) = 0 then plc n c i r b else if (b : Int) = i then some (n - (r + 1)) else plc n c i r (b + 1)
theorem plc_a {n r b : Nat} {c : Nat → Int} {i : Int} (h : c (n - (r + 1)) = 0) : plc n c i (r + 1) b = plc n c i r b := if_pos h
theorem plc_b {n r b : Nat} {c : Nat → Int} {i : Int} (h : ¬ c (n - (r + 1)) = 0) (e : (b : Int) = i) : plc n c i (r + 1) b = some (n - (r + 1)) := (if_neg h).trans (if_pos e)
theorem plc_c {n r b : Nat} {c : Nat → Int} {i : Int} (h : ¬ c (n - (r + 1)) = 0) (e : ¬ (b : Int) = i) : plc n c i (r + 1) b = plc n c i r (b + 1) := (if_neg h).trans (if_neg e)
theorem k_placeOf {a a0 a1 n m : Nat} {c : Nat → Int} {i : Int} (ht : h.1 a = some (.inr (1, [aR a0, aR a1, aI (n : Int)]))) (h1 : h.1 a1 = some (.inl (0, m, .inl c))) (hn : n ≤ m) (hm : m ≤ 100000) (hi : inR i) (hc : ∀ p, p < n → inR (c p)) (k : ∀ p, plc n c i n 0 = some p → Q (.inl (some (aI (p : Int)))) h) (k0 : plc n c i n 0 = none → Q (.inl (some (aI (-1)))) h) : Rn 58 0 (entL 58 [aR a, aI i]) [] h Q := by
  show Rn 58 0 [some (aR a), some (aI i), none, none] [] h Q
  have lp : ∀ r b : Nat, r ≤ n → b + r ≤ n → plc n c i r b = plc n c i n 0 → Rn 58 4 [some (aR a), some (aI i), some (aI (b : Int)), some (aI ((n - r : Nat) : Int))] [] h Q := by
    intro r
    induction r with
    | zero =>
      intro b h2 h3 h4
      refine x_iload_n k_58_4 rfl ?_
      refine x_aload_n k_58_5 rfl ?_
      refine x_get k_58_6 ht rfl ?_
      refine x_icmpge (t := 37) k_58_9 rfl (by show inR ((n - 0 : Nat) : Int) ∧ inR (n : Int); omega) (fun _ => ?_) (fun q => absurd (show (n : Int) ≤ ((n - 0 : Nat) : Int) by omega) q)
      refine x_iconst k_58_37 ?_
      refine x_ireturn k_58_38 rfl ?_
      exact k0 (by rw [← h4]; rfl)
    | succ r ih =>
      intro b h2 h3 h4
      refine x_iload_n k_58_4 rfl ?_
      refine x_aload_n k_58_5 rfl ?_
      refine x_get k_58_6 ht rfl ?_
      refine x_icmpge (t := 37) k_58_9 rfl (by show inR ((n - (r + 1) : Nat) : Int) ∧ inR (n : Int); omega) (fun q => absurd (show (n : Int) ≤ ((n - (r + 1) : Nat) : Int) from q) (by omega)) (fun _ => ?_)
      refine x_aload_n k_58_12 rfl ?_
      refine x_get k_58_13 ht rfl ?_
      refine x_iload_n k_58_16 rfl ?_
      refine y_iaload (m := n - (r + 1)) k_58_17 h1 (Or.inl rfl) rfl (by omega) ?_
      have step : ∀ b' : Nat, b' + r ≤ n → plc n c i r b' = plc n c i n 0 → Rn 58 31 [some (aR a), some (aI i), some (aI (b' : Int)), some (aI ((n - (r + 1) : Nat) : Int))] [] h Q := by
        intro b' h5 h6
        refine x_inc3 k_58_31 rfl ?_
        refine x_goto (t := 4) k_58_34 rfl ?_
        rw [show ((n - (r + 1) : Nat) : Int) + 1 = ((n - r : Nat) : Int) by omega]
        exact ih b' (by omega) h5 h6
      refine x_ifeq (t := 31) k_58_18 rfl (hc _ (by omega)) (fun c18 => ?_) (fun c18 => ?_)
      · exact step b (by omega) ((plc_a c18).symm.trans h4)
      · have c18 : ¬ c (n - (r + 1)) = 0 := c18
        refine x_iload_n k_58_21 rfl ?_
        refine x_iload_n k_58_22 rfl ?_
        refine x_icmpne (t := 28) k_58_23 rfl (by show inR (b : Int) ∧ inR i; exact ⟨by omega, hi⟩) (fun c23 => ?_) (fun c23 => ?_)
        · have c23 : ¬ (b : Int) = i := c23
          refine x_inc2 k_58_28 rfl ?_
          rw [show (b : Int) + 1 = ((b + 1 : Nat) : Int) by omega]
          exact step (b + 1) (by omega) ((plc_c c18 c23).symm.trans h4)
        · have c23 : (b : Int) = i := Decidable.not_not.mp c23
          refine x_iload_n k_58_26 rfl ?_
          refine x_ireturn k_58_27 rfl ?_
          refine k (n - (r + 1)) ?_
          exact h4.symm.trans (plc_b c18 c23)
  refine x_iconst k_58_0 ?_
  refine x_is2n k_58_1 rfl ?_
  refine x_iconst k_58_2 ?_
  refine x_is3n k_58_3 rfl ?_
  have z := lp n 0 (Nat.le_refl _) (by omega) rfl
  rw [show n - n = 0 by omega] at z
  exact z
end C39
