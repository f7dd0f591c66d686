/-! what is carried from state to state, whole -/
theorem nw_decl {x : MethodName} {u U : State} (hvm : u.vm.Alike U.vm) (h : va_Nw (.declares x) u) : va_Nw (.declares x) U := by
  have h1 : (Cond.declares x).before #[] (u.setVm U.vm) = true := by
    rw [Cond.declares_setVm hvm]
    exact h
  exact va_tabs rfl (rfl : (u.setVm U.vm).vm = U.vm) h1
theorem xw_warm {w : Cond} {s U : State} (hx : xw w = true) (hW : s.WarmedH U.vm) (h : va_Nw w s) : va_Nw w U := by
  unfold xw at hx
  split at hx
  · exact va_Nw.warmC hW h
  · exact nw_decl hW.alike h
  · cases hx
theorem xw_use {w : Cond} {U : State} {a : Array Value} (hx : xw w = true) (h : va_Nw w U) : w.before a U = true := by
  unfold xw at hx
  split at hx
  · exact va_Nw.use rfl h
  · exact va_Nw.use rfl h
  · cases hx
def KX (v : EV) (U : State) : Prop := (∀ w ∈ lw_tbl, goodWord w = true → ∀ a, w.before a U = true) ∧ (∀ w ∈ lw_tbl, xw w = true → va_Nw w U) ∧ va_K v.D classes (tysOf v) U ∧ va_AO nSite U ∧ va_AO "java/lang/Object" U ∧ va_Mi "[Ljava/lang/Object;" v.aM U ∧ (∀ q ∈ strl, ∃ sa, vk_R q.1 q.2.1 q.2.2 sa U) ∧ (∀ q ∈ ncl, va_Nc q.1 q.2 U)
theorem KX.warm {v : EV} {s U : State} (hW : s.WarmedH U.vm) (h : KX v s) : KX v U := by
  obtain ⟨h1, h2, h3, h4, h5, h6, h7, h8⟩ := h
  refine ⟨fun w hw hg a => word_at hW (good_of_word hg) (h1 w hw hg #[]), fun w hw hx => xw_warm hx hW (h2 w hw hx), h3.moved hW.alike, h4.moved hW.alike, h5.moved hW.alike, h6.moved hW.alike, fun q hq => ?_, fun q hq => (h8 q hq).moved hW.alike⟩
  obtain ⟨sa, hs⟩ := h7 q hq
  exact ⟨sa, hs.warm hW⟩
def LZ (v : EV) (s : State) : Prop := Lo v s ∧ vx_Zq Bundle.tN "UNASSIGNED_STACK" Bundle.steD (fun q => v.b0 ≤ q) s s.heap ∧ vx_Zq Bundle.tN "SUPPRESSED_SENTINEL" Bundle.listD (fun q => v.b0 ≤ q) s s.heap
theorem LZ.to {v : EV} {s U : State} (h : LZ v s) (hvm : s.vm.Alike U.vm) (hq : ∀ q : Nat, q < s.heap.size → ¬ v.b0 ≤ q → U.heap[q]? = s.heap[q]?) (hsz : s.heap.size ≤ U.heap.size) : LZ v U :=
  ⟨h.1.to hvm hq hsz, (h.2.1.moved hvm).kept hq, (h.2.2.moved hvm).kept hq⟩
section Throw
variable {p : Program} {l : Launch} {e : Env} {R : Room} {s : State} {m : MethodId} {args : Array Value} {below : List Frame} {meth : Method} {c : Code} {Q : State → Prop} {v : EV} {n0 z0 : Nat} {pc : Nat} {L : AL} {st : List AV} {h : AH} {cc : ByteArray}
/-- 'throw new E("text")', out of a method without handlers there -/
theorem e_throw (hx : p.tables.exec = Jvm.exec) (hb : c.code = cc) (hl : l.stackTraces = false) (hn0 : n0 = s.heap.size) (hlz : LZ v s) (hK : va_K v.D classes (tysOf v) s) (hml : c.maxLocals = L.length) (hlocks : meth.locks = false) {own cls text : String} {T0 : u_T} {names : List String} {ik is ic sa ci : Nat}
    (hown : s.vm.findClass own = some m.cls) (hc0 : classes[ci]? = some (cls, T0, 0)) (hcls : Bundle.fit cls = true) (hnames : ∀ n ∈ names, Bundle.fit n = true)
    (hk : (Cond.classLink own ik cls).before args s = true) (hini : (Cond.initialized cls).before args s = true) (hstr : vk_R own is text sa s) (hat : ∀ w ∈ vx_atS own ic cls names, w.before args s = true)
    (hgood : ∀ w ∈ Cond.classLink own ik cls :: Cond.initialized cls :: vx_atS own ic cls names, vx_ot w = true)
    (d0 : decode cc pc = .ok (.new ik, 3)) (d3 : decode cc (pc + 3) = .ok (.dup, 1)) (d4 : decode cc (pc + 4) = .ok (.ldc is, 2)) (d6 : decode cc (pc + 6) = .ok (.invokespecial ic, 3)) (d9 : decode cc (pc + 9) = .ok (.athrow, 1))
    (hout : ∀ x ∈ c.exceptionTable.toList, covers x (pc + 9) = false) (hRframes : names.length + 3 < R.frames) (hRlocals : 8 + (13 * (names.length + 1) + 43) ≤ R.locals) : SE v p l e R s m args below meth c n0 z0 Q pc L st h (o_throw ci st h) := by
  unfold o_throw
  rcases Nat.lt_or_ge 4 st.length with hst | hst
  · rw [if_neg (by omega)]
    exact se_none
  rw [if_pos hst]
  intro r h' q
  cases q
  refine ⟨Nat.le_succ _, Nat.le_add_right _ _, fun ci' a q => ?_, fun hcl hsl hE ls H locs cells slots hL hR hS hc hz => ?_⟩
  · cases q
    exact ⟨[], by simp [hnew, up]⟩
  have hcl : h.2.1 + 1 ≤ n0 + R.cells := hcl
  have hsl : h.2.2.1 + 6 ≤ z0 + R.slots := hsl
  intro T hT X
  have hsum := cv_sum st
  have htr : e.platform.stackTraces = false := (show e.platform.stackTraces = l.stackTraces by rw [X.admits.platform]).trans hl
  have Y := vx_rebase X (R' := { frames := R.frames, locals := R.locals, cells := 1, slots := 6 }) (Nat.le_refl _) (Nat.le_refl _) (by show cells + 1 ≤ R.cells; omega) (by show slots + 6 ≤ R.slots; omega)
  obtain ⟨s', hA⟩ : ∃ z, z = (T.setVm s.vm).setFrames (.invoking m args :: below) := ⟨_, rfl⟩
  rw [← hA] at Y
  have hvm : s'.vm = s.vm := by rw [hA]; rfl
  have hhp : s'.heap = H := by rw [hA]; exact hT
  have hW0 : s.WarmedH s'.vm := by rw [hvm]; exact State.WarmedH.refl s
  have hat' : ∀ w ∈ vx_atS own ic cls names, w.before args s' = true := fun w hw => vx_ot_at hW0 hvm.symm (hgood w (List.mem_cons_of_mem _ (List.mem_cons_of_mem _ hw))) (hat w hw)
  have hk' : (Cond.classLink own ik cls).before args s' = true := vx_ot_at hW0 hvm.symm (hgood _ List.mem_cons_self) hk
  have hini' : (Cond.initialized cls).before args s' = true := vx_ot_at hW0 hvm.symm (hgood _ (List.mem_cons_of_mem _ List.mem_cons_self)) hini
  have hU' : vx_Zq Bundle.tN "UNASSIGNED_STACK" Bundle.steD (fun q => v.b0 ≤ q) s' s'.heap := by rw [hhp]; exact vx_Zq.moved hW0.alike (hlz.2.1.kept hS.2.1)
  have hN' : vx_Zq Bundle.tN "SUPPRESSED_SENTINEL" Bundle.listD (fun q => v.b0 ≤ q) s' s'.heap := by rw [hhp]; exact vx_Zq.moved hW0.alike (hlz.2.2.kept hS.2.1)
  have ho : ∀ w ∈ Bundle.ownAtoms own ic cls names, w.before args s' = true := vx_own hat' (vx_isRefq hU'.1) (vx_isRefq hN'.1) hU'.2.word hN'.2.word
  have hown' : s'.vm.findClass own = some m.cls := by rw [hvm]; exact hown
  have hins : (Cond.instantiable cls 6).before args s' = true := ho _ (by simp [Bundle.ownAtoms])
  obtain ⟨vm₁, cX, kX, hfX, hkX, -, -, X₁, st1⟩ := Y.newCold hx (own := own) (C := cls) (index := ik) (n := 6) hown' hk' hins hini'
    (g := F0 m pc ls (st.map cv)) rfl (by rw [hb]; exact d0) (Nat.le_refl _) (Nat.le_refl _)
  generalize hT1 : (T.setVm vm₁).pushCell { cls := cX, slots := kX.instanceTypes.map defaultValue, vm := .none } = T1 at X₁ st1
  have hcat : (Value.ref T.heap.size).category = 1 := rfl
  have hcellA : T1.heap[T.heap.size]? = some (freshCell cX kX) := by rw [← hT1]; exact State.heap_pushCell_size _ _
  have d3' : decode c.code (pc + 3) = .ok (.dup, 1) := by rw [hb]; exact d3
  have d4' : decode c.code (pc + 4) = .ok (.ldc is, 2) := by rw [hb]; exact d4
  have hstr' : vk_R own is text sa s' := vk_R.warm hW0 hstr
  obtain ⟨U, hsteps, hrun, hend, hW, hsame, ce, hce, hO⟩ := X₁.ctorThrowS hx htr (own := own) (cls := cls) (names := names) (ic := ic) hown' hcls hnames ho (fun x hx => nomatch hx) hfX hkX hcellA (by rw [hhp, hT]; exact Nat.le_refl _) (msg := .ref sa) rfl
    (g := { method := m, pc := pc + 6, locals := ls, stack := .ref sa :: .ref T.heap.size :: .ref T.heap.size :: st.map cv, locked := none }) rfl (by rw [hml]; exact hL.size) rfl rfl (rest := st.map cv) rfl
    (by rw [hb]; exact d6) (by rw [hb]; exact d9) hout hRframes (by simp only [List.map_cons, List.sum_cons, hcat]; show 2 * 0 + _ + _ ≤ _; omega) hlocks
  obtain ⟨f1, f2⟩ := vx_frame hsame
  rw [hhp] at f1 f2
  have f2 : ∀ q : Nat, q < H.size → U.heap[q]? = H[q]? := fun q hq => f2 q hq (fun z hz => nomatch hz)
  have hWs : s.WarmedH U.vm := State.WarmedH.trans hW0 hW
  have hcl' : s.vm.findClass cls = some ce.cls := by
    have h9 := hO.cls
    rw [hvm] at h9
    exact h9
  have hall : s.sameButNew ({ U with vm := s.vm } : State) locs (cells + 1) (slots + 6) := by
    subst hA
    obtain ⟨e1, e2⟩ := hsame
    rw [State.setFrames_setFrames] at e1
    have h2 : (T.setVm s.vm).sameButNew ({ U with vm := s.vm } : State) [] (0 + 1) (0 + 6) := ⟨e1, e2⟩
    have h3 := X.same.trans h2
    rw [List.append_nil] at h3
    exact h3
  have hsz : H.size = h.2.1 := heap_size hR hlz.1 hS hn0 hc (by
    have := X.heapSize
    rwa [hT] at this)
  have hTs : T.heap.size = h.2.1 := by rw [hT]; exact hsz
  refine ⟨U, ?_, hE U (.threw h.2.1) locs (cells + 1) (slots + 6) rfl ?_ ⟨Nat.le_trans hS.1 f1, fun q h1 h2 => (f2 q (Nat.lt_of_lt_of_le h1 hS.1)).trans (hS.2.1 q h1 h2)⟩ (by show h.2.1 + 1 = _; omega) (by show h.2.2.1 + 6 = _; omega) hrun (by rw [← hTs]; exact hend) hWs hall hS.2.2⟩
  · refine st1 _ ?_
    show Steps p.tables e below (T1.setTop { method := m, pc := pc + 3, locals := ls, stack := .ref T.heap.size :: st.map cv, locked := none }) _
    jvm_step X₁.here [X₁.here.top, hx, d3', Value.category]
    exact X₁.ldcString hx (own := own) (text := text) (index := is) (a := sa) hown' hstr'.1 hstr'.2
      (g := { method := m, pc := pc + 4, locals := ls, stack := .ref T.heap.size :: .ref T.heap.size :: st.map cv, locked := none }) rfl d4' _ hsteps
  · refine hR.new (fun t n y q => by cases q) ?_
    rw [← ws_new _ 6 hR.1]
    refine (hR.2.1.kept fun k x hx => f2 x.1 ((hR.2.1 k x hx).lt)).app fun k x hx => ?_
    have hz : k < 1 := (List.getElem?_eq_some_iff.mp hx).1
    rw [show k = 0 by omega] at hx
    cases hx
    refine ⟨_, hc0, ce, by rw [← hTs]; exact hce, ?_, hO.vm, fun k hk => absurd hk (Nat.not_lt_zero k)⟩
    have h9 : s.vm.findClass cls = some (v.D.1 ci) := (hK.1 ci _ hc0).2.1
    exact Option.some.inj (hcl'.symm.trans h9)
end Throw
