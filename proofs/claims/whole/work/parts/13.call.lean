section CallO
variable {l : Launch} {R : Room} {p : Program} {e : Env} {below : List Frame} {s : State} {m : MethodId} {args : Array Value} {meth : Method} {c : Code} {T : State} {locs : List Loc} {cells slots : Nat} {Q : State → Prop} {H : Heap}
/-- behind a call that has returned, or thrown -/
def aft (U : State) (g : JFrame) (len : Nat) (o : Outcome) : State := match o with
  | .returned w => U.setTop { g with pc := g.pc + len, stack := w.toList ++ g.stack }
  | .threw x => (U.setTop g).pushFrame (.throwing x)
/-- a callee's contract that says how it ends, whichever way -/
abbrev MO (l : Launch) (y : MethodName) (S : Spec) (P : Array Value → State → Prop) (Qc : Array Value → State → Outcome → State → Prop) (mc ms : Nat) (free : Addr → Prop) : Prop :=
  MetFree l y S P (fun _ _ _ _ _ => True) (fun a st o t => Qc a st o t ∧ st.WarmedH t.vm ∧ ∃ L, st.sameButNew ({ t with vm := st.vm } : State) L mc ms ∧ ∀ q ∈ L, free q.base)
theorem call_o {y : MethodName} {S : Spec} {P : Array Value → State → Prop} {Qc : Array Value → State → Outcome → State → Prop} {mc ms : Nat} {free : Addr → Prop} {bytes : ByteArray} {maxL : Nat} {ret : Option FieldType} {hh : List (Nat × Nat × Nat × Nat)}
    (hM : MO l y S P Qc mc ms free) (X : Stand p l e R s m args below meth c T locs cells slots) {g : JFrame} (hg : g.method = m) (hsize : g.locals.size = c.maxLocals) {ig : Instr} {len W0 : Nat} (hdg : decode c.code g.pc = .ok (ig, len)) (hW : 2 * g.monitorRoom + (g.stack.map fun v => v.category).sum ≤ W0)
    (hframes : S.room.frames + 1 ≤ R.frames) (hlocals : W0 + (maxL + 11) + S.room.locals ≤ R.locals) (hcells : cells + S.room.cells ≤ R.cells) (hslots : slots + S.room.slots ≤ R.slots)
    {mk : MethodId} (hn : T.methodNamed? y = some mk) {a : Array Value} (hpre : S.pre.before a T = true) (hcode : (Cond.codeWith y bytes maxL ret hh).before a T = true) (hini : (Cond.initialized y.cls).before a T = true) (hP : P a (T.calling g mk a)) :
    ∃ (o : Outcome) (t T' : State) (L : List Loc), Stand p l e R s m args below meth c T' (locs ++ L) (cells + mc) (slots + ms) ∧ T'.heap = t.heap ∧ T'.vm = t.vm ∧ (∀ q ∈ L, free q.base) ∧ Qc a (T.calling g mk a) o t ∧ Steps p.tables e below (doInvoke e (T.setTop g) [] mk a).1 (aft T' g len o) := by
  obtain ⟨mY, methY, cY, hnY, hmY, hcY, -, hlY, -, -, -, -⟩ := Cond.codeWith_spec hcode
  cases hn.symm.trans hnY
  obtain ⟨kY, hkY, -⟩ := className_of_methodNamed hn
  have hinitY : kY.init = .initialized := Cond.initialized_spec (findClass_of_methodNamed hn) hkY hini
  have h : At T g.method c below := by rw [hg]; exact X.here
  have happ : S.appliesLoose y e.platform (T.calling g mk a) = true :=
    Spec.appliesLoose_calling (g := g) h hdg hn hkY hinitY (X.room_calling (g := g) (R' := S.room) hsize hmY hcY hframes (by rw [hlY]; omega) hcells hslots) hpre
  obtain ⟨mid, hmid⟩ := h.above
  have hfr : (T.setTop g).frames = (.java g :: mid) ++ below := by rw [State.frames_setTop' g h.top, hmid]; rfl
  obtain ⟨o, s₂, hsteps, -, hend, hq⟩ := Steps.callFree hM p X.admits X.cas X.clock (acts := []) hfr happ hP trivial
  have hq : Qc a (T.calling g mk a) o s₂ ∧ (T.calling g mk a).WarmedH s₂.vm ∧ ∃ L, (T.calling g mk a).sameButNew ({ s₂ with vm := (T.calling g mk a).vm } : State) L mc ms ∧ ∀ q ∈ L, free q.base := hq
  rw [State.frames_setTop' g h.top] at hend
  obtain ⟨hq1, hW₂, L, hs2, hL⟩ := hq
  obtain ⟨e2, q2, q3, q4, q5, q6⟩ := id hs2
  have e3 : s₂ = ({ (T.calling g mk a).setFrames s₂.frames with heap := s₂.heap, slotsUsed := s₂.slotsUsed } : State).setVm s₂.vm := by
    have : s₂ = ({ s₂ with vm := (T.calling g mk a).vm } : State).setVm s₂.vm := rfl
    rw [e2] at this
    exact this
  have hW' : T.WarmedH s₂.vm := hW₂
  obtain ⟨g₀, hg0⟩ := Option.isSome_iff_exists.mp h.top
  obtain ⟨r, hr⟩ := State.topJava?_eq_some.mp hg0
  have hr' : (({ T with heap := s₂.heap, slotsUsed := s₂.slotsUsed } : State).setVm s₂.vm).frames = .java g₀ :: r := hr
  have hsame : T.sameButNew ({ T with heap := s₂.heap, slotsUsed := s₂.slotsUsed } : State) L mc ms := by
    refine ⟨?_, q2, q3, q4, q5, q6⟩
    obtain ⟨t, ht, -⟩ := State.frames_cons hr
    show ({ T with heap := s₂.heap, slotsUsed := s₂.slotsUsed } : State) = { T.setFrames T.frames with heap := s₂.heap, slotsUsed := s₂.slotsUsed }
    rw [State.setFrames_self ht]
  have hs₂ : s₂ = aft (({ T with heap := s₂.heap, slotsUsed := s₂.slotsUsed } : State).setVm s₂.vm) g len o := by
    cases o with
    | returned w =>
      obtain ⟨c₂, i₂, len₂, hc₂, hd₂, hf₂⟩ := hend
      have hcc : c₂ = c := by
        have h1 : s₂.code? g.method = T.code? g.method := by
          rw [State.code?_eq, State.code?_eq, hW'.alike.method?]
        exact Option.some.inj (hc₂.symm.trans (h1.trans h.code))
      subst hcc
      have hlen : len₂ = len := by rw [hdg] at hd₂; cases hd₂; rfl
      subst hlen
      refine e3.trans ?_
      show _ = State.setTop _ _
      rw [hf₂, State.calling_eq h.top, State.setFrames_setFrames, State.setTop_of_frames _ hr', hr]
      rfl
    | threw x =>
      have hf₂ : s₂.frames = .throwing x :: .java g :: T.frames.tail := hend
      refine e3.trans ?_
      show _ = State.pushFrame (State.setTop _ _) _
      rw [hf₂, State.calling_eq h.top, State.setFrames_setFrames, State.pushFrame, State.frames_setTop _ hr', State.setTop_of_frames _ hr', State.setFrames_setFrames, hr]
      rfl
  subst hg
  refine ⟨o, s₂, (({ T with heap := s₂.heap, slotsUsed := s₂.slotsUsed } : State).setVm s₂.vm), L,
    ⟨X.admits, X.cas, X.clock, X.frames, X.room, X.hears, X.method, X.code, (X.here.setHeapUsed s₂.heap s₂.slotsUsed).setVm hW'.alike, X.tail, State.WarmedH.trans X.warmed hW', X.limits, X.bytes, X.same.trans (hsame.setVm s.vm)⟩, rfl, rfl, hL, hq1, ?_⟩
  rw [← hs₂]
  exact hsteps
/-- the machine, where x is being thrown over the frame g, comes to Q -/
def WT (p : Program) (l : Launch) (e : Env) (R : Room) (s : State) (m : MethodId) (args : Array Value) (below : List Frame) (meth : Method) (c : Code) (H : Heap) (locs : List Loc) (cells slots : Nat) (Q : State → Prop) (g : JFrame) (x : Addr) : Prop :=
  ∀ T : State, T.heap = H → Stand p l e R s m args below meth c T locs cells slots → ∃ t, Steps p.tables e below ((T.setTop g).pushFrame (.throwing x)) t ∧ Q t
theorem WT.out {g : JFrame} {x : Addr} (hg : g.method = m) (hlocked : g.locked = none) (hentered : g.entered = []) (hout : ∀ y ∈ c.exceptionTable.toList, covers y g.pc = false) (hlocks : meth.locks = false)
    (hq : ∀ t : State, t.heap = H → t.status = .running → Ended t below (.threw x) → s.WarmedH t.vm → s.sameButNew ({ t with vm := s.vm } : State) locs cells slots → Q t) : WT p l e R s m args below meth c H locs cells slots Q g x := by
  intro T hT X
  obtain ⟨h1, h2, h3, h4, h5⟩ := X.leaveThrown x hg hlocked hentered hout hlocks
  exact ⟨_, h1, hq _ hT h2 h3 h4 h5⟩
theorem WT.caught {g : JFrame} {x : Addr} {pc' : Nat} (hg : g.method = m) (hf : ∀ T : State, T.heap = H → Stand p l e R s m args below meth c T locs cells slots → Finds e ((T.setTop g).pushFrame (.throwing x)) g x (.found pc'))
    (k : W p l e R s m args below meth c H locs cells slots Q { g with pc := pc', stack := [.ref x] }) : WT p l e R s m args below meth c H locs cells slots Q g x := by
  intro T hT X
  obtain ⟨t, a1, b1⟩ := k T hT X
  subst hg
  exact ⟨t, Steps.caught X.here (hf T hT X) a1, b1⟩
/-- a call: how the machine comes into it, and what its contract says -/
theorem w_call {y : MethodName} {S : Spec} {P : Array Value → State → Prop} {Qc : Array Value → State → Outcome → State → Prop} {mc ms : Nat} {free : Addr → Prop} {bytes : ByteArray} {maxL : Nat} {ret : Option FieldType} {hh : List (Nat × Nat × Nat × Nat)} {pc : Nat} {ls : Array Slot} {st0 rest : List Value} {a : Array Value} {ig : Instr}
    (enter : ∀ T : State, T.heap = H → Stand p l e R s m args below meth c T locs cells slots → ∃ (vm₁ : Vm) (mk : MethodId), Stand p l e R s m args below meth c (T.setVm vm₁) locs cells slots ∧ (T.setVm vm₁).methodNamed? y = some mk ∧ ∀ target, (∀ acts, Steps p.tables e below (doInvoke e ((T.setVm vm₁).setTop (F0 m pc ls rest)) acts mk a).1 target) → Steps p.tables e below (T.setTop (F0 m pc ls st0)) target)
    (hM : MO l y S P Qc mc ms free) (hsize : ls.size = c.maxLocals) (hdg : decode c.code pc = .ok (ig, 3)) (hW : (rest.map fun v => v.category).sum ≤ 8)
    (hframes : S.room.frames + 1 ≤ R.frames) (hlocals : 8 + (maxL + 11) + S.room.locals ≤ R.locals) (hcells : cells + S.room.cells ≤ R.cells) (hslots : slots + S.room.slots ≤ R.slots)
    (hpre : ∀ U : State, s.WarmedH U.vm → S.pre.before a U = true ∧ (Cond.codeWith y bytes maxL ret hh).before a U = true ∧ (Cond.initialized y.cls).before a U = true)
    (hP : ∀ U : State, U.heap = H → s.WarmedH U.vm → H.size ≤ s.heap.size + cells → P a U)
    (kk : ∀ (o : Outcome) (st₀ t : State) (L : List Loc), st₀.heap = H → (∀ q ∈ L, free q.base) → s.WarmedH t.vm → Qc a st₀ o t → match o with
      | .returned w => W p l e R s m args below meth c t.heap (locs ++ L) (cells + mc) (slots + ms) Q (F0 m (pc + 3) ls (w.toList ++ rest))
      | .threw x => WT p l e R s m args below meth c t.heap (locs ++ L) (cells + mc) (slots + ms) Q (F0 m pc ls rest) x) :
    W p l e R s m args below meth c H locs cells slots Q (F0 m pc ls st0) := by
  intro T hT X
  obtain ⟨vm₁, mk, X₁, hn, st1⟩ := enter T hT X
  have hH : (T.setVm vm₁).heap = H := hT
  have hsz : H.size ≤ s.heap.size + cells := by
    have := X.heapSize
    rwa [hT] at this
  obtain ⟨hp1, hp2, hp3⟩ := hpre (T.setVm vm₁) X₁.warmed
  obtain ⟨o, t, T', L, X', e1, e2, hL, hq, hsteps⟩ := call_o (g := F0 m pc ls rest) hM X₁ rfl hsize hdg (W0 := 8) (lv_room hW) hframes hlocals hcells hslots hn hp1 hp2 hp3 (hP _ hH X₁.warmed hsz)
  have k := kk o ((T.setVm vm₁).calling (F0 m pc ls rest) mk a) t L hH hL (by rw [← e2]; exact X'.warmed) hq
  cases o with
  | returned w =>
    obtain ⟨t2, a1, b1⟩ := k T' e1 X'
    refine ⟨t2, st1 _ fun acts => ?_, b1⟩
    rw [doInvoke_state]
    exact hsteps.trans a1
  | threw x =>
    obtain ⟨t2, a1, b1⟩ := k T' e1 X'
    refine ⟨t2, st1 _ fun acts => ?_, b1⟩
    rw [doInvoke_state]
    exact hsteps.trans a1
/-- the ways into a call -/
theorem en_V (hexec : p.tables.exec = Jvm.exec) {own C : String} {index : Nat} {y : MethodName} {n : Nat}
    (hown : s.vm.findClass own = some m.cls) (hlink : (Cond.methodLink own index y).before args s = true ∨ ∃ host, (Cond.methodLinkNest own index y host).before args s = true) (hinst : (Cond.instanceMethod y).before args s = true) (hsel : (Cond.selects C y y).before args s = true)
    (hy : y.cls ≠ "java/lang/invoke/MethodHandle" ∧ y.cls ≠ "java/lang/invoke/VarHandle") (hpar : (parseMethodDescriptor y.desc).map (fun d => d.parameters.length) = some n) (hsig : ∀ meth mk, s.methodNamed? y = some mk → s.vm.method? mk = some meth → parseMethodDescriptor y.desc = some meth.sig)
    {b : Addr} {cellB : Cell} (hcell : H[b]? = some cellB) (hobj : cellB.vm.isStatics = false) (hcls : s.vm.findClass C = some cellB.cls) {pc : Nat} {ls : Array Slot} {As rest : List Value} (hn : As.length = n) (hdg : decode c.code pc = .ok (.invokevirtual index, 3)) :
    ∀ T : State, T.heap = H → Stand p l e R s m args below meth c T locs cells slots → ∃ (vm₁ : Vm) (mk : MethodId), Stand p l e R s m args below meth c (T.setVm vm₁) locs cells slots ∧ (T.setVm vm₁).methodNamed? y = some mk ∧ ∀ target, (∀ acts, Steps p.tables e below (doInvoke e ((T.setVm vm₁).setTop (F0 m pc ls rest)) acts mk (Value.ref b :: As).toArray).1 target) → Steps p.tables e below (T.setTop (F0 m pc ls (As.reverse ++ .ref b :: rest))) target := by
  intro T hT X
  obtain ⟨mk, methM, hnamed, hmethM, hstM, habM⟩ := Cond.instanceMethod_spec hinst
  obtain ⟨c2, r2, m2, q1, q2, q3, q4, kP, hkP, hkPi⟩ := Cond.selects_spec hsel
  cases hcls.symm.trans q1
  cases (State.methodFound?_of_named hnamed hy).symm.trans q2
  cases hnamed.symm.trans q3
  have hselP : selectMethod e.platform s.vm cellB.cls mk = .method mk := by rw [Launch.admits_selectMethod X.admits]; exact q4
  have hlen : As.length = methM.sig.parameters.length := by
    have h1 := hsig methM mk hnamed hmethM
    rw [h1] at hpar
    rw [hn]
    exact (Option.some.inj hpar).symm
  rcases hlink with hlink | ⟨host, hlink⟩
  · obtain ⟨vm₁, X₁, hstep₁⟩ := X.invokevirtual hexec hown hlink hnamed hmethM hstM hkP hkPi hy (a := b) (cell := cellB) (by rw [hT]; exact hcell)
      (fun z h => by rw [h] at hobj; cases hobj) hselP hmethM habM hkP hkPi (g := F0 m pc ls (As.reverse ++ .ref b :: rest)) rfl (argsL := As) (rest := rest) hlen rfl hdg
    exact ⟨vm₁, mk, X₁, X₁.named hnamed, hstep₁⟩
  · obtain ⟨vm₁, X₁, hstep₁⟩ := X.invokevirtualNest hexec hown hlink hnamed hmethM hstM hkP hkPi hy (a := b) (cell := cellB) (by rw [hT]; exact hcell)
      (fun z h => by rw [h] at hobj; cases hobj) hselP hmethM habM hkP hkPi (g := F0 m pc ls (As.reverse ++ .ref b :: rest)) rfl (argsL := As) (rest := rest) hlen rfl hdg
    exact ⟨vm₁, mk, X₁, X₁.named hnamed, hstep₁⟩
theorem en_S (hexec : p.tables.exec = Jvm.exec) {own : String} {index : Nat} {y : MethodName} {n : Nat} {bytes : ByteArray} {maxL : Nat} {ret : Option FieldType} {hh : List (Nat × Nat × Nat × Nat)}
    (hown : s.vm.findClass own = some m.cls) (hlink : (Cond.methodLink own index y).before args s = true) (hstat : (Cond.static y).before args s = true) (hinit : (Cond.initialized y.cls).before args s = true) (hcode : (Cond.codeWith y bytes maxL ret hh).before args s = true)
    (hy : y.cls ≠ "java/lang/invoke/MethodHandle" ∧ y.cls ≠ "java/lang/invoke/VarHandle") (hpar : (parseMethodDescriptor y.desc).map (fun d => d.parameters.length) = some n)
    {pc : Nat} {ls : Array Slot} {As rest : List Value} (hn : As.length = n) (hdg : decode c.code pc = .ok (.invokestatic index, 3)) :
    ∀ T : State, T.heap = H → Stand p l e R s m args below meth c T locs cells slots → ∃ (vm₁ : Vm) (mk : MethodId), Stand p l e R s m args below meth c (T.setVm vm₁) locs cells slots ∧ (T.setVm vm₁).methodNamed? y = some mk ∧ ∀ target, (∀ acts, Steps p.tables e below (doInvoke e ((T.setVm vm₁).setTop (F0 m pc ls rest)) acts mk As.toArray).1 target) → Steps p.tables e below (T.setTop (F0 m pc ls (As.reverse ++ rest))) target := by
  intro T hT X
  obtain ⟨mk, methM, cM, hnamed, hmethM, -, -, -, -, -, -, hsigM⟩ := Cond.codeWith_spec hcode
  have hstatic : methM.isStatic = true := Cond.static_spec hnamed hmethM hstat
  obtain ⟨kP, hkP, -⟩ := className_of_methodNamed hnamed
  have hinitP : kP.init = .initialized := Cond.initialized_spec (findClass_of_methodNamed hnamed) hkP hinit
  have hlen : As.length = methM.sig.parameters.length := by
    rw [hsigM] at hpar
    rw [hn]
    exact (Option.some.inj hpar).symm
  obtain ⟨vm₁, X₁, hstep₁⟩ := X.invokestatic hexec hown hlink hnamed hmethM hstatic hkP hinitP hy (g := F0 m pc ls (As.reverse ++ rest)) rfl (argsL := As) (rest := rest) hlen rfl hdg
  exact ⟨vm₁, mk, X₁, X₁.named hnamed, hstep₁⟩
theorem en_I (hexec : p.tables.exec = Jvm.exec) {own : String} {index : Nat} {y : MethodName} {n : Nat} {bytes : ByteArray} {maxL : Nat}
    (hown : s.vm.findClass own = some m.cls) (hy1 : y.name = "<init>") (hlink : (Cond.methodLink own index y).before args s = true) (hinst : (Cond.instanceMethod y).before args s = true) (hcode : (Cond.code y bytes maxL none).before args s = true)
    (hy : y.cls ≠ "java/lang/invoke/MethodHandle" ∧ y.cls ≠ "java/lang/invoke/VarHandle") (hpar : (parseMethodDescriptor y.desc).map (fun d => d.parameters.length) = some n)
    {pc : Nat} {ls : Array Slot} {b : Addr} {As rest : List Value} (hn : As.length = n) (hdg : decode c.code pc = .ok (.invokespecial index, 3)) :
    ∀ T : State, T.heap = H → Stand p l e R s m args below meth c T locs cells slots → ∃ (vm₁ : Vm) (mk : MethodId), Stand p l e R s m args below meth c (T.setVm vm₁) locs cells slots ∧ (T.setVm vm₁).methodNamed? y = some mk ∧ ∀ target, (∀ acts, Steps p.tables e below (doInvoke e ((T.setVm vm₁).setTop (F0 m pc ls rest)) acts mk (Value.ref b :: As).toArray).1 target) → Steps p.tables e below (T.setTop (F0 m pc ls (As.reverse ++ .ref b :: rest))) target := by
  intro T hT X
  have hpl : e.platform.magicAccessors = ({} : Platform).magicAccessors := by rw [X.admits.platform]
  obtain ⟨mk, methM, cM, kP, vm₁, hnamed, hmethM, hcodeM, -, hlocalsM, -, hkP, -, hW₁, hstep₁⟩ := Steps.initColdArgs (e := e) X.here hexec X.warmed hpl hown hy1 hy hlink hinst hcode (f := F0 m pc ls (As.reverse ++ .ref b :: rest)) rfl (argsL := As) (a := b) (rest := rest) (fun sig h => by
    rw [h] at hpar
    rw [hn]
    exact (Option.some.inj hpar).symm) rfl hdg
  have X₁ := X.noted hW₁
  exact ⟨vm₁, mk, X₁, X₁.named hnamed, hstep₁⟩
end CallO
