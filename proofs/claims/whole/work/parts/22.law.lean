/-! THE LAW'S START: the abstract machine at the law's entry -/
def h00 (v : EV) : AH := (up (up (fun _ => none) v.scr (some (.inl (9, v.len, .inl v.xs)))) v.aD (some (.inl (4, 0, .inr (.inr (fun _ => none))))), v.b0, 0, v.aD, v.aM)
theorem strl_in : ∀ q ∈ strl, Cond.stringRef q.1 q.2.1 q.2.2 ∈ lw_tbl ∧ q.1 = R_Store := by decide +kernel
theorem ncl_in : ∀ q ∈ ncl, Cond.not (.castable q.1 q.2) ∈ flatC (Jvm.Cond.and given_1 narrow_1) := by decide +kernel
theorem arr_known {s : State} {args : Array Value} {ty : FieldType} (h : (Cond.arrayClass ty).before args s = true) : ∃ cA : ClassId, ArrOfT s cA ty ∧ s.vm.findClass ("[" ++ ty.toString) = some cA := by
  obtain ⟨cA, kA, comp, h1, h2, h3⟩ := Cond.arrayClass_spec h
  exact ⟨cA, fun n z => ⟨fun k h => (by cases h), kA, h2, comp, h3⟩, h1⟩
theorem arr_over {s : State} {args : Array Value} {C : String} (h : (Cond.arrayOver (.object C)).before args s = true) : ∃ cA : ClassId, ArrOfT s cA (.object C) ∧ va_RA s cA (.object C) := by
  obtain ⟨comp, cA, kA, h1, -, h3, h4, h5⟩ := Cond.arrayOver_spec h
  exact ⟨cA, fun n z => ⟨fun k h => (by cases h), kA, h3, comp, h4⟩, kA, comp, h3, h4, h1, h5⟩
theorem scr_ne {s : State} {b a L : Nat} {xs : Nat → Int32} {C : String} {A : Nat → Prop} (h1 : va_X b L xs s s.heap) (h2 : va_T (.object C) a 0 (fun _ => .null) A s s.heap) : b ≠ a := by
  intro q
  subst q
  obtain ⟨c1, e1, ⟨-, k1, f1, m1, g1⟩, -⟩ := h1
  obtain ⟨c2, e2, ⟨-, k2, f2, m2, g2⟩, -⟩ := h2
  cases e1.symm.trans e2
  cases f1.symm.trans f2
  rw [g1] at g2
  cases g2
theorem all_known {s : State} {args : Array Value} (hts : ∀ w ∈ lw_tbl, w.before args s = true) : ∃ (dC : Nat → ClassId) (dI : Nat → Nat → Nat), ∀ (k : Nat) (q : vw_C), classes[k]? = some q → u_Kn s q.1 q.2.1 q.2.2 (dC k) (dI k) := by
  obtain ⟨c0, i0, h0⟩ := u_known (C := R_Store) (T := F_Store) (N := 6) (n := 6) hts (cls_in 0 _ rfl) (hts (.instantiable R_Store 6) (by decide +kernel))
  obtain ⟨c1, i1, h1⟩ := u_known (C := R_Tally) (T := F_Tally) (N := 3) (n := 3) hts (cls_in 1 _ rfl) (hts (.instantiable R_Tally 3) (by decide +kernel))
  obtain ⟨c2, i2, h2⟩ := u_known (C := R_Site) (T := F_Site) (N := 4) (n := 4) hts (cls_in 2 _ rfl) (hts (.instantiable R_Site 4) (by decide +kernel))
  obtain ⟨c3, i3, h3⟩ := u_known (C := R_Item) (T := F_Item) (N := 5) (n := 5) hts (cls_in 3 _ rfl) (hts (.instantiable R_Item 5) (by decide +kernel))
  obtain ⟨c4, i4, h4⟩ := u_known (C := R_Tran) (T := F_Tran) (N := 8) (n := 8) hts (cls_in 4 _ rfl) (hts (.instantiable R_Tran 8) (by decide +kernel))
  obtain ⟨c5, i5, h5⟩ := u_known (C := R_Write) (T := F_Write) (N := 3) (n := 3) hts (cls_in 5 _ rfl) (hts (.instantiable R_Write 3) (by decide +kernel))
  obtain ⟨c6, i6, h6⟩ := u_known (C := R_Change) (T := F_Change) (N := 4) (n := 4) hts (cls_in 6 _ rfl) (hts (.instantiable R_Change 4) (by decide +kernel))
  obtain ⟨c7, i7, h7⟩ := u_known (C := R_Msg) (T := F_Msg) (N := 3) (n := 3) hts (cls_in 7 _ rfl) (hts (.instantiable R_Msg 3) (by decide +kernel))
  obtain ⟨c8, i8, h8⟩ := u_known (C := R_List) (T := F_List) (N := 3) (n := 3) hts (cls_in 8 _ rfl) (hts (.instantiable R_List 3) (by decide +kernel))
  obtain ⟨c9, i9, h9⟩ := u_known (C := R_Model) (T := F_Model) (N := 29) (n := 29) hts (cls_in 9 _ rfl) (hts (.instantiable R_Model 29) (by decide +kernel))
  obtain ⟨c10, i10, h10⟩ := u_known (C := R_Iae) (T := F_Iae) (N := 0) (n := 6) hts (cls_in 10 _ rfl) (hts (.instantiable R_Iae 6) (by decide +kernel))
  obtain ⟨c11, i11, h11⟩ := u_known (C := R_Ise) (T := F_Ise) (N := 0) (n := 6) hts (cls_in 11 _ rfl) (hts (.instantiable R_Ise 6) (by decide +kernel))
  obtain ⟨c12, i12, h12⟩ := u_known (C := R_Nse) (T := F_Nse) (N := 0) (n := 6) hts (cls_in 12 _ rfl) (hts (.instantiable R_Nse 6) (by decide +kernel))
  refine ⟨fun k => match k with
    | 0 => c0
    | 1 => c1
    | 2 => c2
    | 3 => c3
    | 4 => c4
    | 5 => c5
    | 6 => c6
    | 7 => c7
    | 8 => c8
    | 9 => c9
    | 10 => c10
    | 11 => c11
    | 12 => c12
    | _ => c0, fun k => match k with
    | 0 => i0
    | 1 => i1
    | 2 => i2
    | 3 => i3
    | 4 => i4
    | 5 => i5
    | 6 => i6
    | 7 => i7
    | 8 => i8
    | 9 => i9
    | 10 => i10
    | 11 => i11
    | 12 => i12
    | _ => i0, ?_⟩
  intro k q hq
  match k, hq with
  | 0, hq => cases hq; exact h0
  | 1, hq => cases hq; exact h1
  | 2, hq => cases hq; exact h2
  | 3, hq => cases hq; exact h3
  | 4, hq => cases hq; exact h4
  | 5, hq => cases hq; exact h5
  | 6, hq => cases hq; exact h6
  | 7, hq => cases hq; exact h7
  | 8, hq => cases hq; exact h8
  | 9, hq => cases hq; exact h9
  | 10, hq => cases hq; exact h10
  | 11, hq => cases hq; exact h11
  | 12, hq => cases hq; exact h12
  | k + 13, hq => simp [classes] at hq
theorem law_start {p : Program} {e : Env} {s : State} {m : MethodId} {below : List Frame} {meth : Method} {c : Code} (l : Launch) (hl : l.stackTraces = false) {b Ln : Nat} {xs : Nat → Int32} (hLn : Ln ≤ 2560) (hx : p.tables.exec = Jvm.exec) (hb : c.code = code) (hr : meth.sig.returnType = ret) (hml : c.maxLocals = 8) (hown : s.vm.findClass "FarStoreLaw" = some m.cls) (hts : ∀ w ∈ lw_tbl, w.before #[Value.ref b] s = true) (hX : va_X b Ln xs s s.heap) (hbl : b < s.heap.size) (hlocks : meth.locks = false) (hgv : (Jvm.Cond.and given_1 narrow_1).before #[Value.ref b] s = true) (hnm : meth.name = "law") (htb : c.exceptionTable.toList = []) (hok : ∀ i, i < 141 → okm i = true)
    (hgo : ∀ v : EV, v.scr < v.b0 → v.aD < v.b0 → v.scr ≠ v.aD → v.len = Ln → (∀ j, inR (v.xs j)) → Rn 140 0 (entL 140 [aR v.scr]) [] (h00 v) (fun r h' => r = .inl (some (aI 1)) ∧ h'.2.1 ≤ v.b0 + 601024 ∧ h'.2.2.1 ≤ 7293034)) :
    W p l e room_1 s m #[Value.ref b] below meth c s.heap [] 0 0 (fun t => ∃ o, t.status = .running ∧ Ended t below o ∧ o = .returned (some (.int 1)) ∧ Framed s o t [] 601024 7293034) (entryFrame m ([Value.ref b] : List Value).toArray 8) := by
  have hs := flat_of_before _ hgv
  obtain ⟨dC, dI, hKc⟩ := all_known hts
  obtain ⟨aI0, hI1, hI2⟩ := arr_known (hts (.arrayClass .int) (by decide +kernel))
  obtain ⟨aI1, hL1, hL2⟩ := arr_known (hts (.arrayClass .long) (by decide +kernel))
  obtain ⟨aI2, hB1, hB2⟩ := arr_known (hts (.arrayClass .boolean) (by decide +kernel))
  obtain ⟨aI3, hS1, hS2⟩ := arr_over (hts (.arrayOver (.object "FarStore$Site")) (by decide +kernel))
  obtain ⟨aI4, hO1, hO2⟩ := arr_over (hts (.arrayOver (.object "java/lang/Object")) (by decide +kernel))
  have hA : ∀ a : Nat, a < s.heap.size → ¬ s.heap.size ≤ a := fun a h => by omega
  obtain ⟨aD, hev, hT⟩ := va_Tof (tm := .static "java/util/ArrayList" "DEFAULTCAPACITY_EMPTY_ELEMENTDATA" "[Ljava/lang/Object;") (ty := .object "java/lang/Object") (N := 0) (f := fun _ => .null) (A := fun q => s.heap.size ≤ q) (by decide) (hs (.arrayOf (.static "java/util/ArrayList" "DEFAULTCAPACITY_EMPTY_ELEMENTDATA" "[Ljava/lang/Object;") (.object "java/lang/Object")) (by decide +kernel)) (va_eqt (hs (.eq (.length (.static "java/util/ArrayList" "DEFAULTCAPACITY_EMPTY_ELEMENTDATA" "[Ljava/lang/Object;")) (.int 0)) (by decide +kernel))) (fun j hj => absurd hj (Nat.not_lt_zero j)) hA
  have hZ : va_Z "java/util/ArrayList" "DEFAULTCAPACITY_EMPTY_ELEMENTDATA" "[Ljava/lang/Object;" (.ref aD) (fun q => s.heap.size ≤ q) s s.heap := va_Zof (hts (.laysStatic "java/util/ArrayList" "DEFAULTCAPACITY_EMPTY_ELEMENTDATA" "[Ljava/lang/Object;") (by decide +kernel)) (hts (.initialized "java/util/ArrayList") (by decide +kernel)) hev hA
  obtain ⟨aM, hM⟩ := va_Mi.of (hs (.isRef (.mirror "[Ljava/lang/Object;")) (by decide +kernel))
  have hU : vx_Zq Bundle.tN "UNASSIGNED_STACK" Bundle.steD (fun q => s.heap.size ≤ q) s s.heap := vx_Zqof (hts (.laysStatic Bundle.tN "UNASSIGNED_STACK" Bundle.steD) (by decide +kernel)) (hts (.initialized Bundle.tN) (by decide +kernel)) (hs (.isRef (.static Bundle.tN "UNASSIGNED_STACK" Bundle.steD)) (by decide +kernel)) hA
  have hN : vx_Zq Bundle.tN "SUPPRESSED_SENTINEL" Bundle.listD (fun q => s.heap.size ≤ q) s s.heap := vx_Zqof (hts (.laysStatic Bundle.tN "SUPPRESSED_SENTINEL" Bundle.listD) (by decide +kernel)) (hts (.initialized Bundle.tN) (by decide +kernel)) (hs (.isRef (.static Bundle.tN "SUPPRESSED_SENTINEL" Bundle.listD)) (by decide +kernel)) hA
  have haD : aD < s.heap.size := by
    obtain ⟨cell, h1, -⟩ := hT
    exact (Array.getElem?_eq_some_iff.mp h1).1
  obtain ⟨v, hv⟩ : ∃ v : EV, v = ((dC, dI), (fun t => match t with
    | 0 => aI0
    | 1 => aI1
    | 2 => aI2
    | 3 => aI3
    | _ => aI4), s.heap.size, (b, Ln, fun j => (xs j).toInt), aD, aM) := ⟨_, rfl⟩
  have v1 : v.scr = b := by rw [hv]
  have v2 : v.b0 = s.heap.size := by rw [hv]
  have v3 : v.aD = aD := by rw [hv]
  have v4 : v.len = Ln := by rw [hv]
  have hxs : ∀ j, inR (v.xs j) := fun j => by
    rw [hv]
    exact ⟨Int32.le_toInt _, Int32.toInt_lt _⟩
  have hK : KX v s := by
    refine ⟨fun w hw hg a => word_at (State.WarmedH.refl s) (good_of_word hg) (hts w hw), fun w hw hx => ?_, ⟨by rw [hv]; exact hKc, ?_⟩, va_AO.of (hts (.arrayOver (.object "FarStore$Site")) (by decide +kernel)), va_AO.of (hts (.arrayOver (.object "java/lang/Object")) (by decide +kernel)), by rw [hv]; exact hM, fun q hq => ?_, fun q hq => va_Nc.of (hs _ (ncl_in q hq))⟩
    · have h1 := hts w hw
      unfold xw at hx
      split at hx
      · exact va_Nw.of rfl h1
      · exact va_Nw.of rfl h1
      · cases hx
    · intro k q hq
      rw [hv] at hq
      match k, hq with
      | 0, hq => cases hq; exact ⟨hI1, hI2⟩
      | 1, hq => cases hq; exact ⟨hL1, hL2⟩
      | 2, hq => cases hq; exact ⟨hB1, hB2⟩
      | 3, hq => cases hq; exact ⟨hS1, hS2⟩
      | 4, hq => cases hq; exact ⟨hO1, hO2⟩
      | k + 5, hq => simp [tysOf] at hq
    · obtain ⟨h1, h2⟩ := strl_in q hq
      have hfc : s.vm.findClass q.1 = some (dC 0) := by
        rw [h2]
        exact (hKc 0 _ rfl).2.1
      obtain ⟨-, -, -, sa, -, -, -, -, -, hev⟩ := Cond.stringRef_spec hfc (hts _ h1)
      exact ⟨sa, vk_R.of (hts _ h1) hev⟩
  have hxx : (fun j => Int32.ofInt (v.xs j)) = xs := by
    funext j
    rw [hv]
    exact Int32.ofInt_toInt _
  have hlz : LZ v s := by
    refine ⟨⟨?_, by rw [v1, v2]; exact hbl, by rw [v2, v3]; exact hT, by rw [v2, v3]; exact hZ, by rw [v2]; exact Nat.le_refl _⟩, by rw [v2]; exact hU, by rw [v2]; exact hN⟩
    rw [hxx, v1, v4]
    exact hX
  have hne : v.scr ≠ v.aD := by rw [v1, v3]; exact scr_ne hX hT
  obtain ⟨f, r, h', hrun, rfl, hn1, hz1⟩ := hgo v (by rw [v1, v2]; exact hbl) (by rw [v3, v2]; exact haD) hne v4 hxs
  have hR : Rl v (h00 v) s.heap := by
    refine ⟨Nat.le_refl _, ?_, fun a e he => ?_, fun a t n x he => ?_, rfl⟩
    · intro k q hq
      have : (wsOf v (h00 v)).length = 0 := by rw [ws_len]; exact Nat.sub_self _
      rw [List.eq_nil_of_length_eq_zero this] at hq
      cases hq
    · refine Or.inr ?_
      by_cases h1 : a = v.aD
      · have he' : e = .inl (4, 0, .inr (.inr (fun _ => none))) := by simpa [h00, up, h1] using he.symm
        exact ⟨by rw [h1, v3, v2]; exact haD, Or.inr ⟨h1, he'⟩⟩
      · by_cases h2 : a = v.scr
        · have he' : e = .inl (9, v.len, .inl v.xs) := by simpa [h00, up, h1, h2, hne] using he.symm
          exact ⟨by rw [h2, v1, v2]; exact hbl, Or.inl ⟨h2, he'⟩⟩
        · simp [h00, up, h1, h2] at he
    · by_cases h1 : a = v.aD
      · have he' : (Sum.inl (4, 0, .inr (.inr (fun _ => none))) : AE) = .inl (t, n, x) := by simpa [h00, up, h1] using he
        cases he'
        exact ⟨by decide, fun _ => by decide⟩
      · by_cases h2 : a = v.scr
        · have he' : (Sum.inl (9, v.len, .inl v.xs) : AE) = .inl (t, n, x) := by simpa [h00, up, h1, h2, hne] using he
          cases he'
          refine ⟨by omega, fun hq => ?_⟩
          rw [h2, v1, v2] at hq
          omega
        · simp [h00, up, h1, h2] at he
  have C : CX v p l room_1 s m meth c 140 s.heap.size := ⟨hx, hb, hml, hown, hr, hlocks, hnm, by rw [htb]; rfl, rfl, hK, hlz, by decide, by decide, hl⟩
  have w := sound hl v hok f 140 0 _ [] (h00 v) _ h' hrun (by decide) (entL_len (Nat.le_of_ble_eq_true rfl)) p e room_1 s m #[Value.ref b] below meth c s.heap.size 0
    (fun t => ∃ o, t.status = .running ∧ Ended t below o ∧ o = .returned (some (.int 1)) ∧ Framed s o t [] 601024 7293034) C (by rw [← v2]; exact hn1) (by show h'.2.2.1 ≤ 0 + 7293034; omega)
    (fun t o L cells slots g1 g2 g3 g4 g5 g6 g7 g8 g9 g10 => by
      have e1 : o = .returned (some (.int 1)) := by
        have g1 : o = .returned (some (.int (Int32.ofInt 1))) := g1
        rw [g1, lit1]
      refine ⟨o, g6, g7, e1, ⟨_, e1⟩, g8, g9.weaken (fun x hx hlt => ?_) ?_ ?_⟩
      · have hq := g10 x hx
        rw [v2] at hq
        exact absurd hlt (Nat.not_lt.mpr hq)
      · have : h'.2.1 ≤ s.heap.size + 601024 := by rw [← v2]; exact hn1
        omega
      · omega)
    _ s.heap [] 0 0 (lh_entry (Nat.le_of_ble_eq_true rfl)) hR va_S.rf (by show v.b0 = _; rw [v2]; rfl) rfl
  rw [List.map_nil, ← lg_entry_eq] at w
  have e3 : ([aR v.scr] : List AV).map cv = [Value.ref b] := by rw [v1]; rfl
  rw [e3] at w
  exact w
