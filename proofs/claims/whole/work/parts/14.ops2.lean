section SOps2
variable {p : Program} {l : Launch} {e : Env} {R : Room} {s : State} {m : MethodId} {args : Array Value} {below : List Frame} {meth : Method} {c : Code} {Q : State → Prop} {v : EV} {n0 z0 : Nat} {pc t : Nat} {L : AL} {st : List AV} {h : AH} {cc : ByteArray}
theorem map_at {fs : List AV} {k : Nat} {w : AV} (hk : fs[k]? = some w) : (fs.map cv)[k]? = some (cv w) := by rw [List.getElem?_map, hk]; rfl
theorem s_get (hx : p.tables.exec = Jvm.exec) (hb : c.code = cc) {own ref C : String} {T : u_T} {N ci k idx : Nat} {Ts : List Cond} (hts : ∀ w ∈ Ts, w.before args s = true) (hin : ∀ w ∈ u_ws C T N, w ∈ Ts) (hown : s.vm.findClass own = some m.cls) (hK : va_K v.D classes (tysOf v) s) (hc0 : classes[ci]? = some (C, T, N)) (hk : k < N) (hlink : (Cond.fieldLink own idx ref (T k).2.1 (T k).2.2.1).before args s = true) (hsame : ∀ x, s.fieldFound? (T k).1 (T k).2.1 (T k).2.2.1 = some x → s.fieldFound? ref (T k).2.1 (T k).2.2.1 = some x) (hd : decode cc pc = .ok (.getfield idx, 3)) : SO v p l e R s m args below meth c n0 z0 Q pc L st h (o_get ci k (pc + 3) L st h) := by
  unfold o_get
  split
  · rename_i a r
    split
    · rename_i c' fs he
      split
      · rename_i hci
        subst hci
        split
        · rename_i w hw
          exact so_nx rfl fun kk ls H locs cells slots hL hR hS hc hz => va_get hx hb hts hin hown hK hR.2.1 (a - v.b0) (ws_get he (hR.obj he).1 (hR.obj he).2) hc0 k hk hlink hsame (map_at hw) hd (kk ls H locs cells slots hL hR hS hc hz)
        · exact so_none
      · exact so_none
    · exact so_none
  · exact so_none
theorem s_getN (hx : p.tables.exec = Jvm.exec) (hb : c.code = cc) {own ref C host : String} {T : u_T} {N ci k idx : Nat} {Ts : List Cond} (hts : ∀ w ∈ Ts, w.before args s = true) (hin : ∀ w ∈ u_ws C T N, w ∈ Ts) (hown : s.vm.findClass own = some m.cls) (hK : va_K v.D classes (tysOf v) s) (hc0 : classes[ci]? = some (C, T, N)) (hk : k < N) (hlink : (Cond.fieldLinkNest own idx ref (T k).2.1 (T k).2.2.1 host).before args s = true) (hsame : ∀ x, s.fieldFound? (T k).1 (T k).2.1 (T k).2.2.1 = some x → s.fieldFound? ref (T k).2.1 (T k).2.2.1 = some x) (hd : decode cc pc = .ok (.getfield idx, 3)) : SO v p l e R s m args below meth c n0 z0 Q pc L st h (o_get ci k (pc + 3) L st h) := by
  unfold o_get
  split
  · rename_i a r
    split
    · rename_i c' fs he
      split
      · rename_i hci
        subst hci
        split
        · rename_i w hw
          exact so_nx rfl fun kk ls H locs cells slots hL hR hS hc hz => va_getN hx hb hts hin hown hK hR.2.1 (a - v.b0) (ws_get he (hR.obj he).1 (hR.obj he).2) hc0 k hk hlink hsame (map_at hw) hd (kk ls H locs cells slots hL hR hS hc hz)
        · exact so_none
      · exact so_none
    · exact so_none
  · exact so_none
theorem okv_fits {ty : FieldType} {w : AV} (h : okv (tyk ty) w = true) : narrow ty (cv w) = cv w ∧ fits ty (cv w) = true := by
  rcases w with x | x | x | x
  · cases ty with
    | int => exact ⟨rfl, rfl⟩
    | boolean =>
      have h : x = 0 ∨ x = 1 := by simpa [okv, tyk] using h
      rcases h with rfl | rfl <;> exact ⟨by decide, by decide⟩
    | _ => simp [okv, tyk] at h
  · cases ty with
    | long => exact ⟨rfl, rfl⟩
    | _ => simp [okv, tyk] at h
  · cases ty with
    | object n => exact ⟨rfl, rfl⟩
    | array n => exact ⟨rfl, rfl⟩
    | _ => simp [okv, tyk] at h
  · cases ty with
    | object n => exact ⟨rfl, rfl⟩
    | array n => exact ⟨rfl, rfl⟩
    | _ => simp [okv, tyk] at h
theorem s_put (hx : p.tables.exec = Jvm.exec) (hb : c.code = cc) {own ref C : String} {T : u_T} {N ci k idx : Nat} {Ts : List Cond} (hts : ∀ w ∈ Ts, w.before args s = true) (hin : ∀ w ∈ u_ws C T N, w ∈ Ts) (ty0 : Nat → FieldType) (hty : ∀ k, k < N → parseFieldDescriptor (T k).2.2.1 = some (ty0 k)) (hnm : ∀ a, a < N → ∀ b, b < N → a ≠ b → (T a).2.1 ≠ (T b).2.1) (hown : s.vm.findClass own = some m.cls) (hK : va_K v.D classes (tysOf v) s) (hc0 : classes[ci]? = some (C, T, N)) (hk : k < N) (hlink : (Cond.fieldLink own idx ref (T k).2.1 (T k).2.2.1).before args s = true) (hsame : ∀ x, s.fieldFound? (T k).1 (T k).2.1 (T k).2.2.1 = some x → s.fieldFound? ref (T k).2.1 (T k).2.2.1 = some x) (hfin : (T k).2.2.2 = false) (hd : decode cc pc = .ok (.putfield idx, 3)) : SO v p l e R s m args below meth c n0 z0 Q pc L st h (o_put ci k (tyk (ty0 k)) (pc + 3) L st h) := by
  unfold o_put
  split
  · rename_i w a r
    split
    · rename_i c' fs he
      split
      · rename_i hci
        obtain ⟨rfl, hlen, hok⟩ := hci
        obtain ⟨f1, f2⟩ := okv_fits hok
        refine so_put fun ls H locs cells slots hL hR hS kk => ?_
        obtain ⟨q1, q2⟩ := hR.obj he
        refine va_put hx hb hts hin ty0 hty hnm hown hK hR.2.1 (ws_D v h) hS (a - v.b0) (ws_get he q1 q2) hc0 k hk hlink hsame hfin (hty k hk) f1 f2 (by rw [List.length_map]; exact hlen) hd fun H1 locs1 hP1 hD1 hS1 => kk H1 locs1 (hR.put q1 q2 (fun t' n' x' e => by (cases e)) ?_) hS1
        rw [← ws_put _ q1 q2]
        rw [← List.map_set] at hP1
        exact hP1
      · exact so_none
    · exact so_none
  · exact so_none
theorem s_putN (hx : p.tables.exec = Jvm.exec) (hb : c.code = cc) {own ref C host : String} {T : u_T} {N ci k idx : Nat} {Ts : List Cond} (hts : ∀ w ∈ Ts, w.before args s = true) (hin : ∀ w ∈ u_ws C T N, w ∈ Ts) (ty0 : Nat → FieldType) (hty : ∀ k, k < N → parseFieldDescriptor (T k).2.2.1 = some (ty0 k)) (hnm : ∀ a, a < N → ∀ b, b < N → a ≠ b → (T a).2.1 ≠ (T b).2.1) (hown : s.vm.findClass own = some m.cls) (hK : va_K v.D classes (tysOf v) s) (hc0 : classes[ci]? = some (C, T, N)) (hk : k < N) (hlink : (Cond.fieldLinkNest own idx ref (T k).2.1 (T k).2.2.1 host).before args s = true) (hsame : ∀ x, s.fieldFound? (T k).1 (T k).2.1 (T k).2.2.1 = some x → s.fieldFound? ref (T k).2.1 (T k).2.2.1 = some x) (hfin : (T k).2.2.2 = false) (hd : decode cc pc = .ok (.putfield idx, 3)) : SO v p l e R s m args below meth c n0 z0 Q pc L st h (o_put ci k (tyk (ty0 k)) (pc + 3) L st h) := by
  unfold o_put
  split
  · rename_i w a r
    split
    · rename_i c' fs he
      split
      · rename_i hci
        obtain ⟨rfl, hlen, hok⟩ := hci
        obtain ⟨f1, f2⟩ := okv_fits hok
        refine so_put fun ls H locs cells slots hL hR hS kk => ?_
        obtain ⟨q1, q2⟩ := hR.obj he
        refine va_putN hx hb hts hin ty0 hty hnm hown hK hR.2.1 (ws_D v h) hS (a - v.b0) (ws_get he q1 q2) hc0 k hk hlink hsame hfin (hty k hk) f1 f2 (by rw [List.length_map]; exact hlen) hd fun H1 locs1 hP1 hD1 hS1 => kk H1 locs1 (hR.put q1 q2 (fun t' n' x' e => by (cases e)) ?_) hS1
        rw [← ws_put _ q1 q2]
        rw [← List.map_set] at hP1
        exact hP1
      · exact so_none
    · exact so_none
  · exact so_none
theorem s_putF (hx : p.tables.exec = Jvm.exec) (hb : c.code = cc) {own ref C : String} {T : u_T} {N ci k idx : Nat} {Ts : List Cond} (hts : ∀ w ∈ Ts, w.before args s = true) (hin : ∀ w ∈ u_ws C T N, w ∈ Ts) (ty0 : Nat → FieldType) (hty : ∀ k, k < N → parseFieldDescriptor (T k).2.2.1 = some (ty0 k)) (hnm : ∀ a, a < N → ∀ b, b < N → a ≠ b → (T a).2.1 ≠ (T b).2.1) (hown : s.vm.findClass own = some m.cls) (hK : va_K v.D classes (tysOf v) s) (hc0 : classes[ci]? = some (C, T, N)) (hk : k < N) (hlink : (Cond.fieldLink own idx ref (T k).2.1 (T k).2.2.1).before args s = true) (hsame : ∀ x, s.fieldFound? (T k).1 (T k).2.1 (T k).2.2.1 = some x → s.fieldFound? ref (T k).2.1 (T k).2.2.1 = some x) (hfin : (T k).2.2.2 = true) (hin2 : meth.name = "<init>") (hdecl : (T k).1 = own) (hd : decode cc pc = .ok (.putfield idx, 3)) : SO v p l e R s m args below meth c n0 z0 Q pc L st h (o_put ci k (tyk (ty0 k)) (pc + 3) L st h) := by
  unfold o_put
  split
  · rename_i w a r
    split
    · rename_i c' fs he
      split
      · rename_i hci
        obtain ⟨rfl, hlen, hok⟩ := hci
        obtain ⟨f1, f2⟩ := okv_fits hok
        refine so_put fun ls H locs cells slots hL hR hS kk => ?_
        obtain ⟨q1, q2⟩ := hR.obj he
        refine va_putF hx hb hts hin ty0 hty hnm hown hK hR.2.1 (ws_D v h) hS (a - v.b0) (ws_get he q1 q2) hc0 k hk hlink hsame hfin hin2 hdecl (hty k hk) f1 f2 (by rw [List.length_map]; exact hlen) hd fun H1 locs1 hP1 hD1 hS1 => kk H1 locs1 (hR.put q1 q2 (fun t' n' x' e => by (cases e)) ?_) hS1
        rw [← ws_put _ q1 q2]
        rw [← List.map_set] at hP1
        exact hP1
      · exact so_none
    · exact so_none
  · exact so_none
theorem s_new (hx : p.tables.exec = Jvm.exec) (hb : c.code = cc) (hn0 : n0 = s.heap.size) (hlo : Lo v s) {own C : String} {T : u_T} {N ci idx : Nat} {fs : List AV} {Ts : List Cond} (hts : ∀ w ∈ Ts, w.before args s = true) (hin : ∀ w ∈ u_ws C T N, w ∈ Ts) (ty0 : Nat → FieldType) (hty : ∀ k, k < N → parseFieldDescriptor (T k).2.2.1 = some (ty0 k)) (hown : s.vm.findClass own = some m.cls) (hcl : (Cond.classLink own idx C).before args s = true) (hinst : (Cond.instantiable C N).before args s = true) (hini : (Cond.initialized C).before args s = true) (hK : va_K v.D classes (tysOf v) s) (hc0 : classes[ci]? = some (C, T, N)) (hfs : ∀ j, j < N → defaultValue (ty0 j) = vp_V (fs.map cv) j) (hd : decode cc pc = .ok (.new idx, 3)) : SO v p l e R s m args below meth c n0 z0 Q pc L st h (o_new ci N fs (pc + 3) L st h) := by
  have hA : ∀ q, s.heap.size ≤ q → v.b0 ≤ q := fun q hq => Nat.le_trans hlo.2.2.2.2 hq
  exact so_new hn0 (fun t n y q => by (cases q)) fun ls H locs cells slots hL hR hS hcl0 hsl kk => va_new hx hb hts hin ty0 hty hown hcl hinst hini hK hR.2.1 (ws_D v h) hS hA hc0 hfs hcl0 hsl hd fun q H1 hP1 hD1 hS1 => kk q H1 hP1 hD1 hS1
theorem s_anew (hx : p.tables.exec = Jvm.exec) (hb : c.code = cc) (hn0 : n0 = s.heap.size) (hlo : Lo v s) {own C : String} {idx t : Nat} (hown : s.vm.findClass own = some m.cls) (hcl : (Cond.classLink own idx C).before args s = true) (hao : va_AO C s) (hK : va_K v.D classes (tysOf v) s) (ht5 : t < 5) (ht : (tysOf v)[t]? = some (v.dA t, .object C)) (hd : decode cc pc = .ok (.anewarray idx, 3)) : SO v p l e R s m args below meth c n0 z0 Q pc L st h (o_anew t (pc + 3) L st h) := by
  have hA : ∀ q, s.heap.size ≤ q → v.b0 ≤ q := fun q hq => Nat.le_trans hlo.2.2.2.2 hq
  unfold o_anew
  split
  · rename_i n r
    split
    · rename_i hc0
      obtain ⟨e1, e2, e3⟩ := i_len0 hc0.1 hc0.2
      refine so_new hn0 (fun t n' y q => by (cases q; exact ⟨by omega, ht5⟩)) fun ls H locs cells slots hL hR hS hcl0 hsl kk => ?_
      refine va_newq hx hb hown hcl hao hK hR.2.1 (ws_D v h) hS hA e1 e2 (by omega) hcl0 hsl hd fun q cA H1 hK1 hP1 hD1 hS1 => ?_
      have := dA_obj ht hK (hK1.2 5 (cA, .object C) rfl).2
      subst this
      exact kk q H1 hP1 hD1 hS1
    · exact so_none
  · exact so_none
theorem r_recv {H : Heap} {a ci : Nat} {fs : List AV} {q : vw_C} (hK : va_K v.D classes (tysOf v) s) (hR : Rl v h H) (he : h.1 a = some (.inr (ci, fs))) (hc0 : classes[ci]? = some q) : ∃ cell : Cell, H[a]? = some cell ∧ cell.vm.isStatics = false ∧ s.vm.findClass q.1 = some cell.cls :=
  va_recv hK hR.2.1 hc0 (ws_get he (hR.obj he).1 (hR.obj he).2)
theorem s_cast (hx : p.tables.exec = Jvm.exec) (hb : c.code = cc) {own : String} {idx ci : Nat} {q : vw_C} (hown : s.vm.findClass own = some m.cls) (hK : va_K v.D classes (tysOf v) s) (hc0 : classes[ci]? = some q) (hlink : (Cond.classLink own idx q.1).before args s = true) (hd : decode cc pc = .ok (.checkcast idx, 3)) : SO v p l e R s m args below meth c n0 z0 Q pc L st h (o_cast ci (pc + 3) L st h) := by
  unfold o_cast
  split
  · exact so_nx rfl fun kk ls H locs cells slots hL hR hS hc hz => lv_castN hx hb hd (kk ls H locs cells slots hL hR hS hc hz)
  · rename_i a r
    split
    · rename_i c' fs he
      split
      · rename_i hci
        subst hci
        exact so_nx rfl fun kk ls H locs cells slots hL hR hS hc hz => va_castS hx hb hown hlink (hK.1 _ _ hc0).2 (r_recv hK hR he hc0) hd (kk ls H locs cells slots hL hR hS hc hz)
      · exact so_none
    · exact so_none
  · exact so_none
theorem s_ldc2 (hx : p.tables.exec = Jvm.exec) (hb : c.code = cc) {own : String} {idx : Nat} {x : Int} (hown : s.vm.findClass own = some m.cls) (hconst : (Cond.constantLong own idx (Int64.ofInt x)).before args s = true) (hd : decode cc pc = .ok (.ldc2_w idx, 3)) : SO v p l e R s m args below meth c n0 z0 Q pc L st h (nx (pc + 3) L (aL x :: st) h) :=
  so_nx rfl fun kk ls H locs cells slots hL hR hS hc hz => lv_ldc2 hx hb hown hconst hd (kk ls H locs cells slots hL hR hS hc hz)
theorem s_gets (hx : p.tables.exec = Jvm.exec) (hb : c.code = cc) (hlo : Lo v s) {own : String} {idx : Nat} (hown : s.vm.findClass own = some m.cls) (hlink : (Cond.fieldLink own idx "java/util/ArrayList" "DEFAULTCAPACITY_EMPTY_ELEMENTDATA" "[Ljava/lang/Object;").before args s = true) (hd : decode cc pc = .ok (.getstatic idx, 3)) : SO v p l e R s m args below meth c n0 z0 Q pc L st h (nx (pc + 3) L (aR h.2.2.2.1 :: st) h) :=
  so_nx rfl fun kk ls H locs cells slots hL hR hS hc hz => va_gets hx hb hlo.2.2.2.1 hS hown hlink (fun _ q => q) hd (by
    have k := kk ls H locs cells slots hL hR hS hc hz
    rw [hR.2.2.2.2] at k
    exact k)
theorem s_oinit (hx : p.tables.exec = Jvm.exec) (hb : c.code = cc) (hml : c.maxLocals = L.length) (hRf : 1 ≤ R.frames) (hRl : 20 ≤ R.locals) {own : String} {idx : Nat} (hown : s.vm.findClass own = some m.cls) (hlink : (Cond.methodLink own idx Lib.objectInit).before args s = true) (hinst : (Cond.instanceMethod Lib.objectInit).before args s = true) (hcode : (Cond.code Lib.objectInit ⟨#[0xb1]⟩ 1 none).before args s = true) (hd : decode cc pc = .ok (.invokespecial idx, 3)) : SO v p l e R s m args below meth c n0 z0 Q pc L st h (o_oinit (pc + 3) L st h) := by
  unfold o_oinit
  split
  · rename_i a r
    split
    · rename_i hr
      refine so_nx rfl fun kk ls H locs cells slots hL hR hS hc hz => W.objInit hx hb hown hlink hinst hcode rfl (by rw [hml]; exact hL.size) rfl hd hRf ?_ (kk ls H locs cells slots hL hR hS hc hz)
      have := cv_sum r
      show 2 * 0 + _ + 12 ≤ _
      omega
    · exact so_none
  · exact so_none
theorem va_cpy_eq {α : Type} (f g : Nat → α) (sp dp n : Nat) : va_cpy f g sp dp n = cpy f g sp dp n := rfl
theorem i_nn {x : Int} (h0 : 0 ≤ x) (h1 : x < 1073741824) : ¬ Int32.ofInt x < 0 ∧ (Int32.ofInt x).toNatClampNeg = x.toNat := by
  have hn : inR x := ⟨by omega, by omega⟩
  refine ⟨fun q => ?_, i_nat hn⟩
  rw [z_lt hn] at q
  omega
theorem s_copyI (hx : p.tables.exec = Jvm.exec) (hb : c.code = cc) (hml : c.maxLocals = L.length) (hRf : 1 ≤ R.frames) (hRl : 40 ≤ R.locals) {own : String} {idx : Nat} (hown : s.vm.findClass own = some m.cls) (hlink : (Cond.methodLink own idx arraycopyName).before args s = true) (hnat : (Cond.native arraycopyName).before args s = true) (hstat : (Cond.static arraycopyName).before args s = true) (hini : (Cond.initialized "java/lang/System").before args s = true) (hK : va_K v.D classes (tysOf v) s) (hd : decode cc pc = .ok (.invokestatic idx, 3)) : SO v p l e R s m args below meth c n0 z0 Q pc L st h (o_copyI (pc + 3) L st h) := by
  unfold o_copyI
  split
  · rename_i n dp a sp a0 r
    split
    · rename_i n0' f n1' g he0 he1
      split
      · rename_i hc0
        obtain ⟨h1, h2, h3, h4, h5, h6, h7, h8⟩ := hc0
        refine so_put fun ls H locs cells slots hL hR hS kk => ?_
        have b0 := (hR.2.2.2.1 a0 _ _ _ he0).1
        have b1 := (hR.2.2.2.1 a _ _ _ he1).1
        obtain ⟨q1, q2⟩ := hR.arr he0 (by decide) (Int.le_refl 0) (by omega)
        obtain ⟨q3, q4⟩ := hR.arr he1 (by decide) (Int.le_refl 0) (by omega)
        obtain ⟨c1, c2⟩ := i_nn h1 (by omega)
        obtain ⟨c3, c4⟩ := i_nn h2 (by omega)
        obtain ⟨c5, c6⟩ := i_nn h3 (by omega)
        refine va_copyi hx hb (by rw [hml]; exact hL.size.symm) hown hlink hnat hstat hini hK hR.2.1 (ws_D v h) hS (a0 - v.b0) (a - v.b0) 0 0 (ws_get he0 q1 q2) (ws_get he1 q3 q4) rfl rfl rfl c1 c3 c5 (by rw [c2, c6]; omega) (by rw [c4, c6]; omega) (fun _ _ => rfl) hRf ?_ hd fun H1 locs1 hP1 hD1 hS1 => kk H1 locs1 (hR.put q3 q4 ?_ ?_) hS1
        · have := cv_sum r
          have hw : nativeFrameWords "java/lang/System" "arraycopy" 5 = 7 := by decide
          omega
        · intro t' n' x' e; cases e; exact ⟨b1, by decide⟩
        · rw [← ws_put _ q3 q4]
          rw [c2, c4, c6] at hP1
          have ee : va_cpy (fun j => Int32.ofInt (f j)) (fun j => Int32.ofInt (g j)) sp.toNat dp.toNat n.toNat = fun j => Int32.ofInt (cpy f g sp.toNat dp.toNat n.toNat j) := by
            funext j
            unfold va_cpy cpy
            split <;> rfl
          rw [ee] at hP1
          exact hP1
      · exact so_none
    · exact so_none
  · exact so_none
theorem s_mx (hx : p.tables.exec = Jvm.exec) (hb : c.code = cc) (hml : c.maxLocals = L.length) (hRf : 1 ≤ R.frames) (hRl : 40 ≤ R.locals) {own : String} {idx : Nat} (hown : s.vm.findClass own = some m.cls) (hlink : (Cond.methodLink own idx Lib.Math.max.name).before args s = true) (hstat : (Cond.static Lib.Math.max.name).before args s = true) (hini : (Cond.initialized "java/lang/Math").before args s = true) (hcode : (Cond.code Lib.Math.max.name Lib.Math.max.code 2 (some .int)).before args s = true) (hcr : ∀ cells, h.2.1 = n0 + cells → cells ≤ R.cells) (hsr : ∀ slots, h.2.2.1 = z0 + slots → slots ≤ R.slots) (hd : decode cc pc = .ok (.invokestatic idx, 3)) : SO v p l e R s m args below meth c n0 z0 Q pc L st h (o_mx true (pc + 3) L st h) := by
  unfold o_mx
  split
  · rename_i y x r
    split
    · rename_i hr
      refine so_nx rfl fun kk ls H locs cells slots hL hR hS hc hz => va_mmax hx hb (by rw [hml]; exact hL.size.symm) hown hlink hstat hini hcode hRf ?_ (hcr _ hc) (hsr _ hz) hd ?_
      · have := cv_sum r
        omega
      · have k := kk ls H locs cells slots hL hR hS hc hz
        rw [if_pos rfl] at k
        by_cases hxy : x < y
        · rw [if_pos ((i_lt hr.1 hr.2.1).mpr hxy)]
          rw [if_pos hxy] at k
          exact k
        · rw [if_neg (fun q => hxy ((i_lt hr.1 hr.2.1).mp q))]
          rw [if_neg hxy] at k
          exact k
    · exact so_none
  · exact so_none
theorem s_mn (hx : p.tables.exec = Jvm.exec) (hb : c.code = cc) (hml : c.maxLocals = L.length) (hRf : 1 ≤ R.frames) (hRl : 40 ≤ R.locals) {own : String} {idx : Nat} (hown : s.vm.findClass own = some m.cls) (hlink : (Cond.methodLink own idx Lib.Math.min.name).before args s = true) (hstat : (Cond.static Lib.Math.min.name).before args s = true) (hini : (Cond.initialized "java/lang/Math").before args s = true) (hcode : (Cond.code Lib.Math.min.name Lib.Math.min.code 2 (some .int)).before args s = true) (hcr : ∀ cells, h.2.1 = n0 + cells → cells ≤ R.cells) (hsr : ∀ slots, h.2.2.1 = z0 + slots → slots ≤ R.slots) (hd : decode cc pc = .ok (.invokestatic idx, 3)) : SO v p l e R s m args below meth c n0 z0 Q pc L st h (o_mx false (pc + 3) L st h) := by
  unfold o_mx
  split
  · rename_i y x r
    split
    · rename_i hr
      refine so_nx rfl fun kk ls H locs cells slots hL hR hS hc hz => va_mmin hx hb (by rw [hml]; exact hL.size.symm) hown hlink hstat hini hcode hRf ?_ (hcr _ hc) (hsr _ hz) hd ?_
      · have := cv_sum r
        omega
      · have k := kk ls H locs cells slots hL hR hS hc hz
        rw [if_neg (by decide)] at k
        by_cases hxy : y < x
        · rw [if_pos ((i_lt hr.2.1 hr.1).mpr hxy)]
          rw [if_pos hxy] at k
          exact k
        · rw [if_neg (fun q => hxy ((i_lt hr.2.1 hr.1).mp q))]
          rw [if_neg hxy] at k
          exact k
    · exact so_none
  · exact so_none
theorem s_aast (hx : p.tables.exec = Jvm.exec) (hb : c.code = cc) (hK : va_K v.D classes (tysOf v) s) (hsite : ∃ q, classes[ciSite]? = some q ∧ q.1 = nSite) (hcast : ∀ ci q, ci < 8 → classes[ci]? = some q → va_Nw (.castable q.1 "java/lang/Object") s) (hd : decode cc pc = .ok (.aastore, 1)) : SO v p l e R s m args below meth c n0 z0 Q pc L st h (o_aast (pc + 1) L st h) := by
  unfold o_aast
  split
  · rename_i x i a r
    split
    · rename_i t n F he
      split
      · rename_i hc0
        obtain ⟨ht, h1, h2, h3⟩ := hc0
        refine so_put fun ls H locs cells slots hL hR hS kk => ?_
        obtain ⟨e1, e2⟩ := i_in (hR.2.2.2.1 a _ n _ he).1 h1 h2
        have hnn : t ≠ 9 := by rcases ht with rfl | rfl <;> decide
        have ht5 : t < 5 := by rcases ht with rfl | rfl <;> decide
        obtain ⟨q1, q2⟩ := hR.arr he hnn h1 h2
        have fin0 : ∀ (H1 : Heap), va_P v.D classes ((wsOf v h).set (a - v.b0) (a, .inl (v.dA t, n, .inr (.inr (.inr (.inr (va_up F (Int32.ofInt i).toNatClampNeg x))))))) H1 → Rl v (hput h a (.inl (t, n, .inr (.inr (up F i.toNat x))))) H1 := by
          intro H1 hP1
          refine hR.put q1 q2 (fun t' n' x' e => by (cases e; exact ⟨(hR.2.2.2.1 a _ n _ he).1, ht5⟩)) ?_
          rw [← ws_put _ q1 q2]
          rw [e2, vaup_up] at hP1
          exact hP1
        cases x with
        | none =>
          rcases ht with rfl | rfl
          · exact va_astqN hx hb hK hR.2.1 (ws_D v h) hS (a - v.b0) 3 (ws_get he q1 q2) rfl e1 hd fun H1 locs1 hP1 hD1 hS1 => kk H1 locs1 (fin0 H1 hP1) hS1
          · exact va_astqN hx hb hK hR.2.1 (ws_D v h) hS (a - v.b0) 4 (ws_get he q1 q2) rfl e1 hd fun H1 locs1 hP1 hD1 hS1 => kk H1 locs1 (fin0 H1 hP1) hS1
        | some b =>
          unfold o_may at h3
          simp only at h3
          split at h3
          · rename_i ci fs hb'
            obtain ⟨w1, w2⟩ := hR.obj hb'
            obtain ⟨q, hq1, -⟩ := hR.2.1 _ _ (ws_get hb' w1 w2)
            rcases ht with rfl | rfl
            · have hci : ci = ciSite := by simpa using h3
              subst hci
              obtain ⟨q', hq', hnm⟩ := hsite
              cases hq1.symm.trans hq'
              exact va_astq hx hb hK hR.2.1 (ws_D v h) hS (a - v.b0) 3 (b - v.b0) ciSite (ws_get he q1 q2) (by rw [hnm]; rfl) (ws_get hb' w1 w2) hq' e1 hd fun H1 locs1 hP1 hD1 hS1 => kk H1 locs1 (fin0 H1 hP1) hS1
            · have hci : ci < 8 := by simpa using h3
              exact va_astqO hx hb hK hR.2.1 (ws_D v h) hS (a - v.b0) 4 (b - v.b0) ci (ws_get he q1 q2) rfl (hcast ci q hci hq1) (ws_get hb' w1 w2) hq1 e1 hd fun H1 locs1 hP1 hD1 hS1 => kk H1 locs1 (fin0 H1 hP1) hS1
          · cases h3
      · exact so_none
    · exact so_none
  · exact so_none
theorem all_spec {f : Nat → Option Nat} {sp n : Nat} (ha : o_all f sp n h = true) : ∃ ci, ci < 8 ∧ ∀ i, i < n → ∀ y, f (sp + i) = some y → ∃ fs, h.1 y = some (.inr (ci, fs)) := by
  obtain ⟨ci, hci, h1⟩ := List.any_eq_true.mp ha
  refine ⟨ci, List.mem_range.mp hci, fun i hi y hy => ?_⟩
  have h2 := List.all_eq_true.mp h1 i (List.mem_range.mpr hi)
  rw [hy] at h2
  simp only at h2
  split at h2
  · rename_i c' fs he
    have : c' = ci := by simpa using h2
    subst this
    exact ⟨fs, he⟩
  · cases h2
theorem s_copyQ (hx : p.tables.exec = Jvm.exec) (hb : c.code = cc) (hml : c.maxLocals = L.length) (hRf : 1 ≤ R.frames) (hRl : 40 ≤ R.locals) {own : String} {idx : Nat} (hown : s.vm.findClass own = some m.cls) (hlink : (Cond.methodLink own idx arraycopyName).before args s = true) (hnat : (Cond.native arraycopyName).before args s = true) (hstat : (Cond.static arraycopyName).before args s = true) (hini : (Cond.initialized "java/lang/System").before args s = true) (hK : va_K v.D classes (tysOf v) s) (hcls : ∀ ci, ci < 8 → ∃ q, classes[ci]? = some q) (hcast : ∀ ci q, ci < 8 → classes[ci]? = some q → va_Nw (.castable q.1 "java/lang/Object") s) (hd : decode cc pc = .ok (.invokestatic idx, 3)) : SO v p l e R s m args below meth c n0 z0 Q pc L st h (o_copyQ (pc + 3) L st h) := by
  unfold o_copyQ
  split
  · rename_i n dp a sp a0 r
    split
    · rename_i n0' f n1' g he0 he1
      split
      · rename_i hc0
        obtain ⟨h1, h2, h3, h4, h5, h6, h7, h8, h9⟩ := hc0
        refine so_put fun ls H locs cells slots hL hR hS kk => ?_
        have b0 := (hR.2.2.2.1 a0 _ _ _ he0).1
        have b1 := (hR.2.2.2.1 a _ _ _ he1).1
        obtain ⟨q1, q2⟩ := hR.arr he0 (by decide) (Int.le_refl 0) (by omega)
        obtain ⟨q3, q4⟩ := hR.arr he1 (by decide) (Int.le_refl 0) (by omega)
        obtain ⟨c1, c2⟩ := i_nn h1 (by omega)
        obtain ⟨c3, c4⟩ := i_nn h2 (by omega)
        obtain ⟨c5, c6⟩ := i_nn h3 (by omega)
        obtain ⟨ci, hci, hall⟩ := all_spec h9
        obtain ⟨q, hq⟩ := hcls ci hci
        refine va_copyq (C := q.1) hx hb (by rw [hml]; exact hL.size.symm) hown hlink hnat hstat hini hK hR.2.1 (ws_D v h) hS (a0 - v.b0) (a - v.b0) 4 4 (ws_get he0 q1 q2) (ws_get he1 q3 q4) rfl rfl c1 c3 c5 (by rw [c2, c6]; omega) (by rw [c4, c6]; omega) ?_ ?_ hRf ?_ hd fun H1 locs1 hP1 hD1 hS1 => kk H1 locs1 (hR.put q3 q4 ?_ ?_) hS1
        · intro i hi y hy
          rw [c6] at hi
          rw [c2] at hy
          obtain ⟨fs, hfs⟩ := hall i hi y hy
          exact r_recv hK hR hfs hq
        · intro comp c0 hcomp hc0'
          obtain ⟨d0, t1, f1, f2, f3⟩ := Cond.castable_spec (va_Nw.use (A := args) rfl (hcast ci q hci hq))
          cases hcomp.symm.trans f2
          cases hc0'.symm.trans f1
          exact f3
        · have := cv_sum r
          have hw : nativeFrameWords "java/lang/System" "arraycopy" 5 = 7 := by decide
          omega
        · intro t' n' x' e; cases e; exact ⟨b1, by decide⟩
        · rw [← ws_put _ q3 q4]
          rw [c2, c4, c6] at hP1
          exact hP1
      · exact so_none
    · exact so_none
  · exact so_none
theorem s_clone (hx : p.tables.exec = Jvm.exec) (hb : c.code = cc) (hn0 : n0 = s.heap.size) (hlo : Lo v s) (hml : c.maxLocals = L.length) (hRf : 1 ≤ R.frames) (hRl : 40 ≤ R.locals) {own : String} {idx : Nat} (hown : s.vm.findClass own = some m.cls)
    (hlink : (Cond.methodLink own idx ⟨"[I", "clone", "()Ljava/lang/Object;"⟩).before args s = true) (hsame : (Cond.sameMethod "[I" "java/lang/Object" "clone" "()Ljava/lang/Object;").before args s = true)
    (hnat : (Cond.native ⟨"java/lang/Object", "clone", "()Ljava/lang/Object;"⟩).before args s = true) (hinst : (Cond.instanceMethod ⟨"java/lang/Object", "clone", "()Ljava/lang/Object;"⟩).before args s = true)
    (hsel : (Cond.selects "[I" ⟨"[I", "clone", "()Ljava/lang/Object;"⟩ ⟨"java/lang/Object", "clone", "()Ljava/lang/Object;"⟩).before args s = true) (hcl : va_Nw (.castable "[I" "java/lang/Cloneable") s) (hK : va_K v.D classes (tysOf v) s) (hd : decode cc pc = .ok (.invokevirtual idx, 3)) : SO v p l e R s m args below meth c n0 z0 Q pc L st h (o_clone (pc + 3) L st h) := by
  have hA : ∀ q, s.heap.size ≤ q → v.b0 ≤ q := fun q hq => Nat.le_trans hlo.2.2.2.2 hq
  unfold o_clone
  split
  · rename_i a r
    split
    · rename_i n f he
      split
      · rename_i hr
        refine (fun z => z) ?_
        intro pc' L' st' h' q
        cases q
        by_cases hin : v.b0 ≤ a ∧ n < 1073741824
        · refine so_new hn0 (fun t n' y q => by (cases q; exact ⟨hin.2, by decide⟩)) (fun ls H locs cells slots hL hR hS hcl0 hsl kk => ?_) _ _ _ _ rfl
          have hlt : a < h.2.1 := by
            rcases hR.2.2.1 a _ he with w | w
            · exact w.2
            · omega
          refine va_clone hx hb (by rw [hml]; exact hL.size.symm) hown hlink hsame hnat hinst hsel hcl hK hR.2.1 (ws_D v h) hS hA (a - v.b0) 0 (ws_get he hin.1 hlt) rfl (va_nm_int (hK.2 0 _ rfl).2) (va_fit (fun i _ => rfl)) hRf ?_ hcl0 hsl hd fun q H1 hK1 hP1 hD1 hS1 => kk q H1 hP1 hD1 hS1
          have := cv_sum r
          omega
        · refine ⟨rfl, Nat.le_succ _, Nat.le_add_right _ _, fun _ _ _ ls H locs cells slots hL hR hS hc hz => ?_⟩
          refine absurd ?_ hin
          refine ⟨?_, (hR.2.2.2.1 a _ _ _ he).1⟩
          rcases hR.2.2.1 a _ he with w | ⟨-, ⟨-, w⟩ | ⟨-, w⟩⟩
          · exact w.1
          · cases w
          · cases w
      · exact so_none
    · exact so_none
  · exact so_none
theorem s_getC (hx : p.tables.exec = Jvm.exec) (hb : c.code = cc) (hml : c.maxLocals = L.length) (hRf : 1 ≤ R.frames) (hRl : 40 ≤ R.locals) {own : String} {idx : Nat} (hown : s.vm.findClass own = some m.cls) (hlink : (Cond.methodLink own idx ⟨"java/lang/Object", "getClass", "()Ljava/lang/Class;"⟩).before args s = true) (hdc : va_Dc s)
    (hsel : (Cond.selects "[Ljava/lang/Object;" ⟨"java/lang/Object", "getClass", "()Ljava/lang/Class;"⟩ ⟨"java/lang/Object", "getClass", "()Ljava/lang/Class;"⟩).before args s = true) (hinst : (Cond.instanceMethod ⟨"java/lang/Object", "getClass", "()Ljava/lang/Class;"⟩).before args s = true) (hnat : (Cond.native ⟨"java/lang/Object", "getClass", "()Ljava/lang/Class;"⟩).before args s = true) (hM : va_Mi "[Ljava/lang/Object;" v.aM s) (hK : va_K v.D classes (tysOf v) s) (hd : decode cc pc = .ok (.invokevirtual idx, 3)) : SO v p l e R s m args below meth c n0 z0 Q pc L st h (o_getC (pc + 3) L st h) := by
  unfold o_getC
  split
  · rename_i a r
    split
    · rename_i n x he
      split
      · rename_i hr
        refine so_nx rfl fun kk ls H locs cells slots hL hR hS hc hz => ?_
        obtain ⟨q1, q2⟩ := hR.arr he (by decide) (Int.le_refl 0) (by omega)
        have hcell := hR.2.1 _ _ (ws_get he q1 q2)
        refine va_getC hx hb (by rw [hml]; exact hL.size.symm) hown hlink (va_Dc.use hdc) hsel hinst hnat hM ⟨vp_cell (v.dA 4) (n, cA x), hcell, ?_, ?_⟩ hRf ?_ hd ?_
        · rcases x with F | F | F <;> rfl
        · have e : (vp_cell (v.dA 4) (n, cA x)).cls = v.dA 4 := by rcases x with F | F | F <;> rfl
          rw [e]
          exact va_nmO (hK.2 4 _ rfl).2 (by decide +kernel)
        · have := cv_sum r
          omega
        · have k := kk ls H locs cells slots hL hR hS hc hz
          rw [hR.2.2.2.2] at k
          exact k
      · exact so_none
    · exact so_none
  · exact so_none
theorem s_ldcM (hx : p.tables.exec = Jvm.exec) (hb : c.code = cc) {own : String} {idx : Nat} (hown : s.vm.findClass own = some m.cls) (hlink : (Cond.classLink own idx "[Ljava/lang/Object;").before args s = true) (hM : va_Mi "[Ljava/lang/Object;" v.aM s) (hd : decode cc pc = .ok (.ldc idx, 2)) : SO v p l e R s m args below meth c n0 z0 Q pc L st h (nx (pc + 2) L (aR h.2.2.2.2 :: st) h) :=
  so_nx rfl fun kk ls H locs cells slots hL hR hS hc hz => va_ldcM hx hb hown hlink hM hd (by
    have k := kk ls H locs cells slots hL hR hS hc hz
    rw [hR.2.2.2.2] at k
    exact k)
theorem s_castA (hx : p.tables.exec = Jvm.exec) (hb : c.code = cc) {own nm : String} {idx t : Nat} (hown : s.vm.findClass own = some m.cls) (hlink : (Cond.classLink own idx nm).before args s = true) (hnm : s.vm.findClass nm = some (v.dA t)) (ht9 : t ≠ 9) (hd : decode cc pc = .ok (.checkcast idx, 3)) : SO v p l e R s m args below meth c n0 z0 Q pc L st h (o_castA t (pc + 3) L st h) := by
  unfold o_castA
  split
  · rename_i a r
    split
    · rename_i t' n x he
      split
      · rename_i hc0
        obtain ⟨rfl, hn⟩ := hc0
        refine so_nx rfl fun kk ls H locs cells slots hL hR hS hc hz => ?_
        obtain ⟨q1, q2⟩ := hR.arr he ht9 (Int.le_refl 0) (by omega)
        exact va_castA hx hb hown hlink hR.2.1 (a - v.b0) (ws_get he q1 q2) hnm hd (kk ls H locs cells slots hL hR hS hc hz)
      · exact so_none
    · exact so_none
  · exact so_none
theorem s_ldcI (hx : p.tables.exec = Jvm.exec) (hb : c.code = cc) {own : String} {idx : Nat} {x : Int} (hown : s.vm.findClass own = some m.cls) (hconst : (Cond.constant own idx (Int32.ofInt x)).before args s = true) (hd : decode cc pc = .ok (.ldc idx, 2)) : SO v p l e R s m args below meth c n0 z0 Q pc L st h (nx (pc + 2) L (aI x :: st) h) :=
  so_nx rfl fun kk ls H locs cells slots hL hR hS hc hz => lv_ldc hx hb hown hconst hd (kk ls H locs cells slots hL hR hS hc hz)
end SOps2
