theorem nsB_0 : decode nsB 0 = .ok (.aload_n 0, 1) := by decide +kernel
theorem nsB_1 : decode nsB 1 = .ok (.aload_n 1, 1) := by decide +kernel
theorem nsB_2 : decode nsB 2 = .ok (.invokespecial 13, 3) := by decide +kernel
theorem nsB_5 : decode nsB 5 = .ok (.return_, 1) := by decide +kernel
section ThrowN
variable {p : Program} {l : Launch} {e : Env} {R : Room} {s : State} {m₀ : MethodId} {args : Array Value} {below : List Frame} {meth : Method} {c : Code} {W : State} {locs : List Loc} {cells slots : Nat}
set_option maxHeartbeats 1000000 in
/-- a made exception gets its text through two links, and leaves -/
theorem ctorThrowN (X : Stand p l e R s m₀ args below meth c W locs cells slots) (hx : p.tables.exec = Jvm.exec) (htr : e.platform.stackTraces = false) {own cls Y : String} {names : List String} {ic : Nat}
    (hown : s.vm.findClass own = some m₀.cls) (hcls : Bundle.fit cls = true) (hY : Bundle.fit Y = true) (hnames : ∀ n ∈ names, Bundle.fit n = true) (h : ∀ w ∈ ownN own ic cls Y names, w.before args s = true)
    (hlocs : ∀ x ∈ locs, ∀ cell, s.heap[x.base]? = some cell → cell.vm.isStatics = false)
    {a : Addr} {cX : ClassId} {kX : Class} (hfX : s.vm.findClass cls = some cX) (hkX : s.vm.classes[cX]? = some kX) (hcell : W.heap[a]? = some (freshCell cX kX)) (hnew : s.heap.size ≤ a) {msg : Value} (hmsg : msg.isRef = true)
    {g : JFrame} (hg : g.method = m₀) (hsize : g.locals.size = c.maxLocals) (hlocked : g.locked = none) (hentered : g.entered = []) {rest : List Value} (hstack : g.stack = msg :: .ref a :: .ref a :: rest)
    (d6 : decode c.code g.pc = .ok (.invokespecial ic, 3)) (d9 : decode c.code (g.pc + 3) = .ok (.athrow, 1)) (hout : ∀ x ∈ c.exceptionTable.toList, covers x (g.pc + 3) = false)
    (hRf : names.length + 4 < R.frames) (hRl : 2 * g.monitorRoom + ((Value.ref a :: rest).map fun v => v.category).sum + (13 * (names.length + 2) + 42) ≤ R.locals) (hlocks : meth.locks = false) :
    ∃ U : State, Steps p.tables e below (W.setTop g) U ∧ U.status = .running ∧ Ended U below (.threw a) ∧ s.WarmedH U.vm ∧ s.sameButNew ({ U with vm := s.vm } : State) locs cells slots ∧
      ∃ ce, U.heap[a]? = some ce ∧ s.vm.findClass cls = some ce.cls ∧ ce.vm = .none := by
  have hpl : e.platform.magicAccessors = ({} : Platform).magicAccessors := by rw [X.admits.platform]
  have w : ∀ x, x ∈ ownN own ic cls Y names → x.holds args s none s [] = true := fun x hx => h x hx
  obtain ⟨T, Z0, L, -, D⟩ := ThrowableC.of_atoms (args := args) (by rw [X.admits.platform]) (by rw [X.admits.platform]) hpl (fun x hx => h x (by simp [ownN, hx]))
  obtain ⟨Z, M, LZ, LM, hnZ⟩ := Init0T.ofS_atoms (args := args) hpl L D (fun x hx => h x (by simp [ownN, hx]))
  obtain ⟨P1, L1, hP1, hs1⟩ := PassC.ofS_atoms (args := args) (s := s) hpl (X := cls) (Y := Y) (Bundle.fit_spec hcls).1 (Bundle.fit_spec hY).2 nsB_0 nsB_1 nsB_2 nsB_5 (fun x hx => h x (by simp [ownN, hx]))
  obtain ⟨P2, Ps, hlen, L2, hL, hP2, hl2, hls⟩ := Bundle.chainS (args := args) hpl hnZ names Y hY hnames (fun x hx => h x (by simp [ownN, hx]))
  have hl1 := Option.some.inj (hs1.symm.trans hP2)
  have hfound : s.vm.findClass cls = some P1.m.cls := findClass_of_methodNamed hP1
  cases Option.some.inj (hfX.symm.trans hfound)
  obtain ⟨c1, k1, hc1, hk, hord, -, -, -⟩ := Cond.instantiable_spec (w (.instantiable cls 6) (by simp [ownN]))
  cases Option.some.inj (hc1.symm.trans hfound)
  cases Option.some.inj (hkX.symm.trans hk)
  have sel : ∀ (y : MethodName) (my : MethodId), s.methodNamed? y = some my → (plainName y.cls = true ∨ True) → s.methodFound? y.cls y.name y.desc = some my → (Cond.selects cls y y).holds args s none s [] = true → selectMethod e.platform s.vm P1.m.cls my = .method my := fun y my h1 _ h2 h3 => by
    obtain ⟨c2, r2, m2, q1, q2, q3, q4, -⟩ := Cond.selects_spec h3
    cases Option.some.inj (q1.symm.trans hfound)
    cases Option.some.inj (q2.symm.trans h2)
    cases Option.some.inj (q3.symm.trans h1)
    rw [Launch.admits_selectMethod X.admits]
    exact q4
  have s0 := sel Bundle.tFill0 T.fill0 D.fill0 (Or.inr trivial) (State.methodFound?_of_named D.fill0 (by decide)) (w _ (by simp [ownN]))
  have s1 := sel Bundle.tFill T.fill D.fill (Or.inr trivial) (State.methodFound?_of_named D.fill (by decide)) (w _ (by simp [ownN]))
  obtain ⟨cS, hcS, hiS⟩ := D.statics
  obtain ⟨u0, hu0⟩ := Cond.staticRefV D.unassigned L.unassignedStatic L.statics hcS hiS (w (.isRef (.static Bundle.tN "UNASSIGNED_STACK" Bundle.steD)) (by simp [ownN]))
  obtain ⟨u1, hu1⟩ := Cond.staticRefV D.sentinel L.sentinelStatic L.statics hcS hiS (w (.isRef (.static Bundle.tN "SUPPRESSED_SENTINEL" Bundle.listD)) (by simp [ownN]))
  obtain ⟨ciB, iB, fB, hkB, hgB, haB, hsB, -, hnB, htB, hfB⟩ := Cond.ownField (t := .object "java/lang/Object") D.found L.cls (by decide +kernel) (w (.fieldLink Bundle.tN 198 Bundle.tN "backtrace" "Ljava/lang/Object;") (by simp [ownN])) (w (.lays Bundle.tN Bundle.tN "backtrace" "Ljava/lang/Object;") (by simp [ownN])) e.platform hpl
  obtain ⟨cS', hcS', heS, -, hkeep⟩ := X.same.2.2.2.2.2 T.aS cS hcS
  have out : ∀ i, (⟨T.aS, i⟩ : Loc) ∉ locs := fun i hm => by
    have := hlocs _ hm cS hcS
    rw [hiS] at this
    cases this
  have hkn : cS'.vm ≠ .unknown := fun hu => by
    rw [heS] at hu
    rw [show cS.vm = .unknown from hu] at hiS
    cases hiS
  have hne : T.aS ≠ a := Nat.ne_of_lt (Nat.lt_of_lt_of_le (Array.getElem?_eq_some_iff.mp hcS).1 hnew)
  obtain ⟨iM, hfM⟩ := D.msg
  obtain ⟨tC, dC, hdC, nC⟩ := Cond.laysAt hfound hk D.cause (w (.lays cls Bundle.tN "cause" "Ljava/lang/Throwable;") (by simp [ownN]))
  obtain ⟨tS, dS, hdS, nS⟩ := Cond.laysAt hfound hk D.stack (w (.lays cls Bundle.tN "stackTrace" Bundle.steD) (by simp [ownN]))
  obtain ⟨tP, dP, hdP, nP⟩ := Cond.laysAt hfound hk D.supp (w (.lays cls Bundle.tN "suppressedExceptions" Bundle.listD) (by simp [ownN]))
  obtain ⟨tM, dM, hdM, nM⟩ := Cond.laysAt hfound hk hfM (w (.lays cls Bundle.tN "detailMessage" "Ljava/lang/String;") (by simp [ownN]))
  obtain ⟨tB, dB, hdB, nB⟩ := Cond.laysAt hfound hk hfB (w (.lays cls Bundle.tN "backtrace" "Ljava/lang/Object;") (by simp [ownN]))
  have bC := Cond.laysApart hdB hdC nB nC (by rw [hnB, D.causeName]; decide)
  have bS := Cond.laysApart hdB hdS nB nS (by rw [hnB, D.stackName]; decide)
  have bP := Cond.laysApart hdB hdP nB nP (by rw [hnB, D.suppName]; decide)
  have skip : SkipFacts T e.platform s (fun u => u) u0 ((preparedCellV T.toThrowableT (freshCell P1.m.cls kX) a u0 u1).withEntry W.cur) :=
    ⟨{ ci198 := ciB, i198 := iB, fBack := fB }, ⟨hkB, hgB, haB, hsB⟩, by
      have := fresh_default (c := P1.m.cls) tB
      rw [htB] at this
      simpa [preparedCellV, Cell.setSlot, Cell.withEntry, Array.getElem?_setIfInBounds, bC, bS, bP, bC.symm, bS.symm, bP.symm, defaultValue] using this, fun _ _ => rfl⟩
  obtain ⟨tm, m1, cd, k2, vm₁, hn1, -, -, -, -, -, -, -, hW₁, st1⟩ := Steps.initColdS (tb := p.tables) (e := e) (below := below) (s := s) (U := W) X.here hx X.warmed hpl hown (t := Bundle.initS cls) rfl rfl (Bundle.fit_spec hcls).2
    (w (.methodLink own ic (Bundle.initS cls)) (by simp [ownN])) (h (.instanceMethod (Bundle.initS cls)) (by simp [ownN, Bundle.passSAtoms])) (bytes := nsB) (maxL := 2) (h (.code (Bundle.initS cls) nsB 2 none) (by simp [ownN, Bundle.passSAtoms])) (f := g) hg (a := a) (msg := msg) (rest := .ref a :: rest) hstack d6
  cases Option.some.inj (hn1.symm.trans hP1)
  have X₁ := X.noted hW₁
  obtain ⟨vm₂, X₂, st2⟩ := X₁.ctorMessageOffV hx (g := { g with stack := .ref a :: rest }) hg hsize T L Z LZ M LM (P1 :: P2 :: Ps)
    (fun P hP => by
      rcases List.mem_cons.mp hP with rfl | hP
      · exact L1
      rcases List.mem_cons.mp hP with rfl | hP
      · exact L2
      · exact hL P hP) ⟨hl1, hl2, hls⟩ (u0 := u0) (sen := u1) (self := a) hmsg (cell := freshCell P1.m.cls kX) (cellS := cS')
    hcell (fun _ => by simp) (by simp) rfl rfl s0 s1 hcS' hne hkn (by rw [hkeep _ (out _)]; exact hu0) (by rw [hkeep _ (out _)]; exact hu1)
    (Takes.of_laid hk hord tC (by rw [D.causeType]; rfl)) (Takes.of_laid hk hord tS (by rw [D.stackType]; exact fits_refV_array _ u0)) (Takes.of_laid hk hord tP (by rw [D.suppType]; exact fits_refV_object _ u1))
    (Takes.of_laid hk hord tM (by rw [D.msgType]; exact fits_refV_object _ ⟨msg, hmsg⟩)) D.objLocals skip htr [] d6 (by simp only [List.length_cons, hlen]; omega) (by simp only [List.length_cons, hlen]; exact hRl)
  obtain ⟨walk, run, ended, hWU, same⟩ := X₂.athrowLeaves hx (g := { g with stack := .ref a :: rest, pc := g.pc + 3 }) hg hlocked hentered hout (a := a) (rest := rest) rfl d9 hlocks
  have hlt : a < ((W.setVm vm₁).setVm vm₂).heap.size := (Array.getElem?_eq_some_iff.mp hcell).1
  have hU := heapAt_setCell_self (s := (W.setVm vm₁).setVm vm₂) (plainBareV T.toThrowableT (freshCell P1.m.cls kX) a u0 u1 msg) hlt
  refine ⟨_, st1 _ (fun acts => ?_), run, ended, hWU, same.weaken (fun y hy hlt' => ?_) (Nat.le_refl _) (Nat.le_refl _), _, hU, hfound, rfl⟩
  · rw [doInvoke_state]
    exact st2 _ walk
  · rcases List.mem_append.mp hy with h1 | h1
    · exact h1
    · refine absurd hlt' (Nat.not_lt.mpr ?_)
      have hb : y.base = a := by
        simp only [List.mem_cons, List.not_mem_nil, or_false] at h1
        rcases h1 with rfl | rfl | rfl | rfl | rfl <;> rfl
      rw [hb]
      exact hnew
end ThrowN

section Throw
variable {p : Program} {l : Launch} {e : Env} {R : Room} {s : State} {m : MethodId} {args : Array Value} {below : List Frame} {meth : Method} {c : Code} {Q : State → Prop} {v : EV} {n0 z0 : Nat} {pc : Nat} {L : AL} {st : List AV} {h : AH} {cc : ByteArray}
/-- the same, for a class whose constructor links 13 -/
theorem e_throwN (hx : p.tables.exec = Jvm.exec) (hb : c.code = cc) (hl : l.stackTraces = false) (hn0 : n0 = s.heap.size) (hlz : LZ v s) (hK : va_K v.D classes (tysOf v) s) (hml : c.maxLocals = L.length) (hlocks : meth.locks = false) {own cls Ys text : String} {T0 : u_T} {names : List String} {ik is ic sa ci : Nat}
    (hown : s.vm.findClass own = some m.cls) (hc0 : classes[ci]? = some (cls, T0, 0)) (hcls : Bundle.fit cls = true) (hY : Bundle.fit Ys = true) (hnames : ∀ n ∈ names, Bundle.fit n = true)
    (hk : (Cond.classLink own ik cls).before args s = true) (hini : (Cond.initialized cls).before args s = true) (hstr : vk_R own is text sa s) (hat : ∀ w ∈ vx_atN own ic cls Ys names, w.before args s = true)
    (hgood : ∀ w ∈ Cond.classLink own ik cls :: Cond.initialized cls :: vx_atN own ic cls Ys names, vx_ot w = true)
    (d0 : decode cc pc = .ok (.new ik, 3)) (d3 : decode cc (pc + 3) = .ok (.dup, 1)) (d4 : decode cc (pc + 4) = .ok (.ldc is, 2)) (d6 : decode cc (pc + 6) = .ok (.invokespecial ic, 3)) (d9 : decode cc (pc + 9) = .ok (.athrow, 1))
    (hout : ∀ x ∈ c.exceptionTable.toList, covers x (pc + 9) = false) (hRframes : names.length + 4 < R.frames) (hRlocals : 8 + (13 * (names.length + 2) + 43) ≤ R.locals) : SE v p l e R s m args below meth c n0 z0 Q pc L st h (o_throw ci st h) := by
  unfold o_throw
  rcases Nat.lt_or_ge 4 st.length with hst | hst
  · rw [if_neg (by omega)]
    exact se_none
  rw [if_pos hst]
  intro r h' q
  cases q
  refine ⟨Nat.le_succ _, Nat.le_add_right _ _, fun ci' a q => ?_, fun hcl hsl hE ls H locs cells slots hL hR hS hc hz => ?_⟩
  · cases q
    exact ⟨[], by simp [hnew, up]⟩
  have hcl : h.2.1 + 1 ≤ n0 + R.cells := hcl
  have hsl : h.2.2.1 + 6 ≤ z0 + R.slots := hsl
  intro T hT X
  have hsum := cv_sum st
  have htr : e.platform.stackTraces = false := (show e.platform.stackTraces = l.stackTraces by rw [X.admits.platform]).trans hl
  have Y := vx_rebase X (R' := { frames := R.frames, locals := R.locals, cells := 1, slots := 6 }) (Nat.le_refl _) (Nat.le_refl _) (by show cells + 1 ≤ R.cells; omega) (by show slots + 6 ≤ R.slots; omega)
  obtain ⟨s', hA⟩ : ∃ z, z = (T.setVm s.vm).setFrames (.invoking m args :: below) := ⟨_, rfl⟩
  rw [← hA] at Y
  have hvm : s'.vm = s.vm := by rw [hA]; rfl
  have hhp : s'.heap = H := by rw [hA]; exact hT
  have hW0 : s.WarmedH s'.vm := by rw [hvm]; exact State.WarmedH.refl s
  have hat' : ∀ w ∈ vx_atN own ic cls Ys names, w.before args s' = true := fun w hw => vx_ot_at hW0 hvm.symm (hgood w (List.mem_cons_of_mem _ (List.mem_cons_of_mem _ hw))) (hat w hw)
  have hk' : (Cond.classLink own ik cls).before args s' = true := vx_ot_at hW0 hvm.symm (hgood _ List.mem_cons_self) hk
  have hini' : (Cond.initialized cls).before args s' = true := vx_ot_at hW0 hvm.symm (hgood _ (List.mem_cons_of_mem _ List.mem_cons_self)) hini
  have hU' : vx_Zq Bundle.tN "UNASSIGNED_STACK" Bundle.steD (fun q => v.b0 ≤ q) s' s'.heap := by rw [hhp]; exact vx_Zq.moved hW0.alike (hlz.2.1.kept hS.2.1)
  have hN' : vx_Zq Bundle.tN "SUPPRESSED_SENTINEL" Bundle.listD (fun q => v.b0 ≤ q) s' s'.heap := by rw [hhp]; exact vx_Zq.moved hW0.alike (hlz.2.2.kept hS.2.1)
  have ho : ∀ w ∈ ownN own ic cls Ys names, w.before args s' = true := vx_own hat' (vx_isRefq hU'.1) (vx_isRefq hN'.1) hU'.2.word hN'.2.word
  have hown' : s'.vm.findClass own = some m.cls := by rw [hvm]; exact hown
  have hins : (Cond.instantiable cls 6).before args s' = true := ho _ (by simp [ownN])
  obtain ⟨vm₁, cX, kX, hfX, hkX, -, -, X₁, st1⟩ := Y.newCold hx (own := own) (C := cls) (index := ik) (n := 6) hown' hk' hins hini'
    (g := F0 m pc ls (st.map cv)) rfl (by rw [hb]; exact d0) (Nat.le_refl _) (Nat.le_refl _)
  generalize hT1 : (T.setVm vm₁).pushCell { cls := cX, slots := kX.instanceTypes.map defaultValue, vm := .none } = T1 at X₁ st1
  have hcat : (Value.ref T.heap.size).category = 1 := rfl
  have hcellA : T1.heap[T.heap.size]? = some (freshCell cX kX) := by rw [← hT1]; exact State.heap_pushCell_size _ _
  have d3' : decode c.code (pc + 3) = .ok (.dup, 1) := by rw [hb]; exact d3
  have d4' : decode c.code (pc + 4) = .ok (.ldc is, 2) := by rw [hb]; exact d4
  have hstr' : vk_R own is text sa s' := vk_R.warm hW0 hstr
  obtain ⟨U, hsteps, hrun, hend, hW, hsame, ce, hce, hO, hOv⟩ := ctorThrowN X₁ hx htr (own := own) (cls := cls) (Y := Ys) (names := names) (ic := ic) hown' hcls hY hnames ho (fun x hx => nomatch hx) hfX hkX hcellA (by rw [hhp, hT]; exact Nat.le_refl _) (msg := .ref sa) rfl
    (g := { method := m, pc := pc + 6, locals := ls, stack := .ref sa :: .ref T.heap.size :: .ref T.heap.size :: st.map cv, locked := none }) rfl (by rw [hml]; exact hL.size) rfl rfl (rest := st.map cv) rfl
    (by rw [hb]; exact d6) (by rw [hb]; exact d9) hout hRframes (by simp only [List.map_cons, List.sum_cons, hcat]; show 2 * 0 + _ + _ ≤ _; omega) hlocks
  obtain ⟨f1, f2⟩ := vx_frame hsame
  rw [hhp] at f1 f2
  have f2 : ∀ q : Nat, q < H.size → U.heap[q]? = H[q]? := fun q hq => f2 q hq (fun z hz => nomatch hz)
  have hWs : s.WarmedH U.vm := State.WarmedH.trans hW0 hW
  have hcl' : s.vm.findClass cls = some ce.cls := by
    have h9 := hO
    rw [hvm] at h9
    exact h9
  have hall : s.sameButNew ({ U with vm := s.vm } : State) locs (cells + 1) (slots + 6) := by
    subst hA
    obtain ⟨e1, e2⟩ := hsame
    rw [State.setFrames_setFrames] at e1
    have h2 : (T.setVm s.vm).sameButNew ({ U with vm := s.vm } : State) [] (0 + 1) (0 + 6) := ⟨e1, e2⟩
    have h3 := X.same.trans h2
    rw [List.append_nil] at h3
    exact h3
  have hsz : H.size = h.2.1 := heap_size hR hlz.1 hS hn0 hc (by
    have := X.heapSize
    rwa [hT] at this)
  have hTs : T.heap.size = h.2.1 := by rw [hT]; exact hsz
  refine ⟨U, ?_, hE U (.threw h.2.1) locs (cells + 1) (slots + 6) rfl ?_ ⟨Nat.le_trans hS.1 f1, fun q h1 h2 => (f2 q (Nat.lt_of_lt_of_le h1 hS.1)).trans (hS.2.1 q h1 h2)⟩ (by show h.2.1 + 1 = _; omega) (by show h.2.2.1 + 6 = _; omega) hrun (by rw [← hTs]; exact hend) hWs hall hS.2.2⟩
  · refine st1 _ ?_
    show Steps p.tables e below (T1.setTop { method := m, pc := pc + 3, locals := ls, stack := .ref T.heap.size :: st.map cv, locked := none }) _
    jvm_step X₁.here [X₁.here.top, hx, d3', Value.category]
    exact X₁.ldcString hx (own := own) (text := text) (index := is) (a := sa) hown' hstr'.1 hstr'.2
      (g := { method := m, pc := pc + 4, locals := ls, stack := .ref T.heap.size :: .ref T.heap.size :: st.map cv, locked := none }) rfl d4' _ hsteps
  · refine hR.new (fun t n y q => by cases q) ?_
    rw [← ws_new _ 6 hR.1]
    refine (hR.2.1.kept fun k x hx => f2 x.1 ((hR.2.1 k x hx).lt)).app fun k x hx => ?_
    have hz : k < 1 := (List.getElem?_eq_some_iff.mp hx).1
    rw [show k = 0 by omega] at hx
    cases hx
    refine ⟨_, hc0, ce, by rw [← hTs]; exact hce, ?_, hOv, fun k hk => absurd hk (Nat.not_lt_zero k)⟩
    have h9 : s.vm.findClass cls = some (v.D.1 ci) := (hK.1 ci _ hc0).2.1
    exact Option.some.inj (hcl'.symm.trans h9)
end Throw
