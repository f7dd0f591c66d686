section SOps
variable {p : Program} {l : Launch} {e : Env} {R : Room} {s : State} {m : MethodId} {args : Array Value} {below : List Frame} {meth : Method} {c : Code} {Q : State → Prop} {v : EV} {n0 z0 : Nat} {pc t : Nat} {L : AL} {st : List AV} {h : AH} {cc : ByteArray}
/-- the real machine, at the abstract point, comes to Q -/
def WW (v : EV) (p : Program) (l : Launch) (e : Env) (R : Room) (s : State) (m : MethodId) (args : Array Value) (below : List Frame) (meth : Method) (c : Code) (n0 z0 : Nat) (Q : State → Prop) (pc : Nat) (L : AL) (st : List AV) (h : AH) : Prop :=
  ∀ (ls : Array Slot) (H : Heap) (locs : List Loc) (cells slots : Nat), Lh ls L → Rl v h H → va_S (fun q => v.b0 ≤ q) s.heap H locs → h.2.1 = n0 + cells → h.2.2.1 = z0 + slots → W p l e R s m args below meth c H locs cells slots Q (F0 m pc ls (st.map cv))
/-- an instruction that goes on is right -/
def SO (v : EV) (p : Program) (l : Launch) (e : Env) (R : Room) (s : State) (m : MethodId) (args : Array Value) (below : List Frame) (meth : Method) (c : Code) (n0 z0 : Nat) (Q : State → Prop) (pc : Nat) (L : AL) (st : List AV) (h : AH) (act : Nx) : Prop :=
  ∀ pc' L' st' h', act = some (pc', L', st', h') → L'.length = L.length ∧ h.2.1 ≤ h'.2.1 ∧ h.2.2.1 ≤ h'.2.2.1 ∧ (h'.2.1 ≤ n0 + R.cells → h'.2.2.1 ≤ z0 + R.slots → WW v p l e R s m args below meth c n0 z0 Q pc' L' st' h' → WW v p l e R s m args below meth c n0 z0 Q pc L st h)
theorem so_nx {pc' : Nat} {L' : AL} {st' : List AV} (hl : L'.length = L.length) (k : WW v p l e R s m args below meth c n0 z0 Q pc' L' st' h → WW v p l e R s m args below meth c n0 z0 Q pc L st h) : SO v p l e R s m args below meth c n0 z0 Q pc L st h (nx pc' L' st' h) := by
  intro a b c d q
  cases q
  exact ⟨hl, Nat.le_refl _, Nat.le_refl _, fun _ _ => k⟩
theorem so_none : SO v p l e R s m args below meth c n0 z0 Q pc L st h none := by
  intro a b c d q
  cases q
theorem s_iconst (hx : p.tables.exec = Jvm.exec) (hb : c.code = cc) {n : Int} (hd : decode cc pc = .ok (.iconst n, 1)) : SO v p l e R s m args below meth c n0 z0 Q pc L st h (nx (pc + 1) L (aI n :: st) h) :=
  so_nx rfl fun k ls H locs cells slots hL hR hS hc hz => lv_iconst hx hb hd rfl (k ls H locs cells slots hL hR hS hc hz)
theorem s_bipush (hx : p.tables.exec = Jvm.exec) (hb : c.code = cc) {n : Int} (hd : decode cc pc = .ok (.bipush n, 2)) (hn : -128 ≤ n ∧ n < 128) : SO v p l e R s m args below meth c n0 z0 Q pc L st h (nx (pc + 2) L (aI n :: st) h) :=
  so_nx rfl fun k ls H locs cells slots hL hR hS hc hz => lv_bipush hx hb hd (Int8.toInt32_ofInt (by simpa using hn.1) (by rw [show Int8.maxValue.toInt = 127 from by decide]; omega)) (k ls H locs cells slots hL hR hS hc hz)
theorem s_sipush (hx : p.tables.exec = Jvm.exec) (hb : c.code = cc) {n : Int} (hd : decode cc pc = .ok (.sipush n, 3)) (hn : -32768 ≤ n ∧ n < 32768) : SO v p l e R s m args below meth c n0 z0 Q pc L st h (nx (pc + 3) L (aI n :: st) h) :=
  so_nx rfl fun k ls H locs cells slots hL hR hS hc hz => lv_sipush hx hb hd (Int16.toInt32_ofInt (by simpa using hn.1) (by rw [show Int16.maxValue.toInt = 32767 from by decide]; omega)) (k ls H locs cells slots hL hR hS hc hz)
theorem s_lconst (hx : p.tables.exec = Jvm.exec) (hb : c.code = cc) {n : Fin 2} (hd : decode cc pc = .ok (.lconst n, 1)) : SO v p l e R s m args below meth c n0 z0 Q pc L st h (nx (pc + 1) L (aL ((n : Nat) : Int) :: st) h) :=
  so_nx rfl fun k ls H locs cells slots hL hR hS hc hz => lv_lconst hx hb hd Int64.ofInt_eq_ofNat.symm (k ls H locs cells slots hL hR hS hc hz)
theorem s_null (hx : p.tables.exec = Jvm.exec) (hb : c.code = cc) (hd : decode cc pc = .ok (.aconst_null, 1)) : SO v p l e R s m args below meth c n0 z0 Q pc L st h (nx (pc + 1) L (aN :: st) h) :=
  so_nx rfl fun k ls H locs cells slots hL hR hS hc hz => lv_null hx hb hd (k ls H locs cells slots hL hR hS hc hz)
theorem s_iload (hx : p.tables.exec = Jvm.exec) (hb : c.code = cc) {k : Nat} (hd : decode cc pc = .ok (.iload k, 2)) : SO v p l e R s m args below meth c n0 z0 Q pc L st h (o_ldI k (pc + 2) L st h) := by
  unfold o_ldI
  split
  · rename_i x hk
    exact so_nx rfl fun kk ls H locs cells slots hL hR hS hc hz => lv_iload hx hb hd (hL.2 k (aI x) hk) (kk ls H locs cells slots hL hR hS hc hz)
  · exact so_none
theorem s_iload_n (hx : p.tables.exec = Jvm.exec) (hb : c.code = cc) {k : Fin 4} (hd : decode cc pc = .ok (.iload_n k, 1)) : SO v p l e R s m args below meth c n0 z0 Q pc L st h (o_ldI k.val (pc + 1) L st h) := by
  unfold o_ldI
  split
  · rename_i x hk
    exact so_nx rfl fun kk ls H locs cells slots hL hR hS hc hz => lv_iload_n hx hb hd rfl (hL.2 k.val (aI x) hk) (kk ls H locs cells slots hL hR hS hc hz)
  · exact so_none
theorem s_lload (hx : p.tables.exec = Jvm.exec) (hb : c.code = cc) {k : Nat} (hd : decode cc pc = .ok (.lload k, 2)) : SO v p l e R s m args below meth c n0 z0 Q pc L st h (o_ldL k (pc + 2) L st h) := by
  unfold o_ldL
  split
  · rename_i x hk
    exact so_nx rfl fun kk ls H locs cells slots hL hR hS hc hz => lv_lload hx hb hd (hL.2 k (aL x) hk) (kk ls H locs cells slots hL hR hS hc hz)
  · exact so_none
theorem s_lload_n (hx : p.tables.exec = Jvm.exec) (hb : c.code = cc) {k : Fin 4} (hd : decode cc pc = .ok (.lload_n k, 1)) : SO v p l e R s m args below meth c n0 z0 Q pc L st h (o_ldL k.val (pc + 1) L st h) := by
  unfold o_ldL
  split
  · rename_i x hk
    exact so_nx rfl fun kk ls H locs cells slots hL hR hS hc hz => lv_lload_n hx hb hd rfl (hL.2 k.val (aL x) hk) (kk ls H locs cells slots hL hR hS hc hz)
  · exact so_none
theorem s_aload (hx : p.tables.exec = Jvm.exec) (hb : c.code = cc) {k : Nat} (hd : decode cc pc = .ok (.aload k, 2)) : SO v p l e R s m args below meth c n0 z0 Q pc L st h (o_ldA k (pc + 2) L st h) := by
  unfold o_ldA
  split
  · rename_i x hk
    cases x with
    | none => exact so_nx rfl fun kk ls H locs cells slots hL hR hS hc hz => lv_aloadN hx hb hd (hL.2 k aN hk) (kk ls H locs cells slots hL hR hS hc hz)
    | some x => exact so_nx rfl fun kk ls H locs cells slots hL hR hS hc hz => lv_aload hx hb hd (hL.2 k (aR x) hk) (kk ls H locs cells slots hL hR hS hc hz)
  · exact so_none
theorem s_aload_n (hx : p.tables.exec = Jvm.exec) (hb : c.code = cc) {k : Fin 4} (hd : decode cc pc = .ok (.aload_n k, 1)) : SO v p l e R s m args below meth c n0 z0 Q pc L st h (o_ldA k.val (pc + 1) L st h) := by
  unfold o_ldA
  split
  · rename_i x hk
    cases x with
    | none => exact so_nx rfl fun kk ls H locs cells slots hL hR hS hc hz => lv_aload_nN hx hb hd rfl (hL.2 k.val aN hk) (kk ls H locs cells slots hL hR hS hc hz)
    | some x => exact so_nx rfl fun kk ls H locs cells slots hL hR hS hc hz => lv_aload_n hx hb hd rfl (hL.2 k.val (aR x) hk) (kk ls H locs cells slots hL hR hS hc hz)
  · exact so_none
theorem s_istore (hx : p.tables.exec = Jvm.exec) (hb : c.code = cc) {k : Nat} (hd : decode cc pc = .ok (.istore k, 2)) : SO v p l e R s m args below meth c n0 z0 Q pc L st h (o_stI k (pc + 2) L st h) := by
  unfold o_stI
  split
  · rename_i x r
    split
    · rename_i L' hs
      exact so_nx (by rw [(sto_spec hs).2.1, List.length_set]) fun kk ls H locs cells slots hL hR hS hc hz => lv_istore hx hb hd (lh_prs hL) (sto_spec hs).1 rfl (fun ls' h' => kk ls' H locs cells slots (lh_set hs h') hR hS hc hz)
    · exact so_none
  · exact so_none
theorem s_istore_n (hx : p.tables.exec = Jvm.exec) (hb : c.code = cc) {k : Fin 4} (hd : decode cc pc = .ok (.istore_n k, 1)) : SO v p l e R s m args below meth c n0 z0 Q pc L st h (o_stI k.val (pc + 1) L st h) := by
  unfold o_stI
  split
  · rename_i x r
    split
    · rename_i L' hs
      exact so_nx (by rw [(sto_spec hs).2.1, List.length_set]) fun kk ls H locs cells slots hL hR hS hc hz => lv_istore_n hx hb hd rfl (lh_prs hL) (sto_spec hs).1 rfl (fun ls' h' => kk ls' H locs cells slots (lh_set hs h') hR hS hc hz)
    · exact so_none
  · exact so_none
theorem s_lstore (hx : p.tables.exec = Jvm.exec) (hb : c.code = cc) {k : Nat} (hd : decode cc pc = .ok (.lstore k, 2)) : SO v p l e R s m args below meth c n0 z0 Q pc L st h (o_stL k (pc + 2) L st h) := by
  unfold o_stL
  split
  · rename_i x r
    split
    · rename_i L' hs
      exact so_nx (by rw [(stoL_spec hs).2.1, List.length_set, List.length_set]) fun kk ls H locs cells slots hL hR hS hc hz => lv_lstore hx hb hd (lh_prs hL) (stoL_spec hs).1 rfl (fun ls' h' => kk ls' H locs cells slots (lh_setL hs h') hR hS hc hz)
    · exact so_none
  · exact so_none
theorem s_lstore_n (hx : p.tables.exec = Jvm.exec) (hb : c.code = cc) {k : Fin 4} (hd : decode cc pc = .ok (.lstore_n k, 1)) : SO v p l e R s m args below meth c n0 z0 Q pc L st h (o_stL k.val (pc + 1) L st h) := by
  unfold o_stL
  split
  · rename_i x r
    split
    · rename_i L' hs
      exact so_nx (by rw [(stoL_spec hs).2.1, List.length_set, List.length_set]) fun kk ls H locs cells slots hL hR hS hc hz => lv_lstore_n hx hb hd rfl (lh_prs hL) (stoL_spec hs).1 rfl (fun ls' h' => kk ls' H locs cells slots (lh_setL hs h') hR hS hc hz)
    · exact so_none
  · exact so_none
theorem s_astore (hx : p.tables.exec = Jvm.exec) (hb : c.code = cc) {k : Nat} (hd : decode cc pc = .ok (.astore k, 2)) : SO v p l e R s m args below meth c n0 z0 Q pc L st h (o_stA k (pc + 2) L st h) := by
  unfold o_stA
  split
  · rename_i x r
    split
    · rename_i L' hs
      cases x with
      | none => exact so_nx (by rw [(sto_spec hs).2.1, List.length_set]) fun kk ls H locs cells slots hL hR hS hc hz => lv_astoreN hx hb hd (lh_prs hL) (sto_spec hs).1 rfl (fun ls' h' => kk ls' H locs cells slots (lh_set hs h') hR hS hc hz)
      | some x => exact so_nx (by rw [(sto_spec hs).2.1, List.length_set]) fun kk ls H locs cells slots hL hR hS hc hz => lv_astore hx hb hd (lh_prs hL) (sto_spec hs).1 rfl (fun ls' h' => kk ls' H locs cells slots (lh_set hs h') hR hS hc hz)
    · exact so_none
  · exact so_none
theorem s_astore_n (hx : p.tables.exec = Jvm.exec) (hb : c.code = cc) {k : Fin 4} (hd : decode cc pc = .ok (.astore_n k, 1)) : SO v p l e R s m args below meth c n0 z0 Q pc L st h (o_stA k.val (pc + 1) L st h) := by
  unfold o_stA
  split
  · rename_i x r
    split
    · rename_i L' hs
      cases x with
      | none => exact so_nx (by rw [(sto_spec hs).2.1, List.length_set]) fun kk ls H locs cells slots hL hR hS hc hz => lv_astore_nN hx hb hd rfl (lh_prs hL) (sto_spec hs).1 rfl (fun ls' h' => kk ls' H locs cells slots (lh_set hs h') hR hS hc hz)
      | some x => exact so_nx (by rw [(sto_spec hs).2.1, List.length_set]) fun kk ls H locs cells slots hL hR hS hc hz => lv_astore_n hx hb hd rfl (lh_prs hL) (sto_spec hs).1 rfl (fun ls' h' => kk ls' H locs cells slots (lh_set hs h') hR hS hc hz)
    · exact so_none
  · exact so_none
theorem prs_idx {L : AL} {j : Nat} {v : AV} (h : L[j]? = some (some v)) : ∃ k : Nat, (prs L)[k]? = some (j, cv v) := List.getElem?_of_mem (prs_mem h)
theorem s_iinc (hx : p.tables.exec = Jvm.exec) (hb : c.code = cc) {k : Nat} {n : Int} (hd : decode cc pc = .ok (.iinc k n, 3)) : SO v p l e R s m args below meth c n0 z0 Q pc L st h (o_inc k n (pc + 3) L st h) := by
  unfold o_inc
  split
  · rename_i x hk
    split
    · rename_i L' hs
      obtain ⟨k', hk'⟩ := prs_idx hk
      exact so_nx (by rw [(sto_spec hs).2.1, List.length_set]) fun kk ls H locs cells slots hL hR hS hc hz => lv_iinc hx hb hd (lh_prs hL) hk' (by rw [Int32.ofInt_add]) (sto_spec hs).1 rfl (fun ls' h' => kk ls' H locs cells slots (lh_set hs h') hR hS hc hz)
    · exact so_none
  · exact so_none
theorem s_iadd (hx : p.tables.exec = Jvm.exec) (hb : c.code = cc) (hd : decode cc pc = .ok (.iadd, 1)) : SO v p l e R s m args below meth c n0 z0 Q pc L st h (o_bin (fun x y => x + y) (pc + 1) L st h) := by
  unfold o_bin
  split
  · rename_i y x r
    exact so_nx rfl fun kk ls H locs cells slots hL hR hS hc hz => lv_iadd hx hb hd (by
      have k := kk ls H locs cells slots hL hR hS hc hz
      simpa only [List.map_cons, cv, Int32.ofInt_add] using k)
  · exact so_none
theorem s_isub (hx : p.tables.exec = Jvm.exec) (hb : c.code = cc) (hd : decode cc pc = .ok (.isub, 1)) : SO v p l e R s m args below meth c n0 z0 Q pc L st h (o_bin (fun x y => x - y) (pc + 1) L st h) := by
  unfold o_bin
  split
  · rename_i y x r
    exact so_nx rfl fun kk ls H locs cells slots hL hR hS hc hz => lv_isub hx hb hd (by
      have k := kk ls H locs cells slots hL hR hS hc hz
      simpa only [List.map_cons, cv, Int32.ofInt_sub] using k)
  · exact so_none
theorem s_imul (hx : p.tables.exec = Jvm.exec) (hb : c.code = cc) (hd : decode cc pc = .ok (.imul, 1)) : SO v p l e R s m args below meth c n0 z0 Q pc L st h (o_bin (fun x y => x * y) (pc + 1) L st h) := by
  unfold o_bin
  split
  · rename_i y x r
    exact so_nx rfl fun kk ls H locs cells slots hL hR hS hc hz => lv_imul hx hb hd (by
      have k := kk ls H locs cells slots hL hR hS hc hz
      simpa only [List.map_cons, cv, Int32.ofInt_mul] using k)
  · exact so_none
theorem s_iand (hx : p.tables.exec = Jvm.exec) (hb : c.code = cc) (hd : decode cc pc = .ok (.iand, 1)) : SO v p l e R s m args below meth c n0 z0 Q pc L st h (o_bin f_and (pc + 1) L st h) := by
  unfold o_bin
  split
  · rename_i y x r
    exact so_nx rfl fun kk ls H locs cells slots hL hR hS hc hz => lv_iand hx hb hd (by
      have k := kk ls H locs cells slots hL hR hS hc hz
      simpa only [List.map_cons, cv, f_and, Int32.ofInt_toInt] using k)
  · exact so_none
theorem s_ishr (hx : p.tables.exec = Jvm.exec) (hb : c.code = cc) (hd : decode cc pc = .ok (.ishr, 1)) : SO v p l e R s m args below meth c n0 z0 Q pc L st h (o_bin f_shr (pc + 1) L st h) := by
  unfold o_bin
  split
  · rename_i y x r
    exact so_nx rfl fun kk ls H locs cells slots hL hR hS hc hz => lv_ishr hx hb hd (by
      have k := kk ls H locs cells slots hL hR hS hc hz
      simpa only [List.map_cons, cv, f_shr, Int32.ofInt_toInt] using k)
  · exact so_none
theorem s_land (hx : p.tables.exec = Jvm.exec) (hb : c.code = cc) (hd : decode cc pc = .ok (.land, 1)) : SO v p l e R s m args below meth c n0 z0 Q pc L st h (o_binL f_land (pc + 1) L st h) := by
  unfold o_binL
  split
  · rename_i y x r
    exact so_nx rfl fun kk ls H locs cells slots hL hR hS hc hz => lv_land hx hb hd (by
      have k := kk ls H locs cells slots hL hR hS hc hz
      simpa only [List.map_cons, cv, f_land, Int64.ofInt_toInt] using k)
  · exact so_none
theorem s_lor (hx : p.tables.exec = Jvm.exec) (hb : c.code = cc) (hd : decode cc pc = .ok (.lor, 1)) : SO v p l e R s m args below meth c n0 z0 Q pc L st h (o_binL f_lor (pc + 1) L st h) := by
  unfold o_binL
  split
  · rename_i y x r
    exact so_nx rfl fun kk ls H locs cells slots hL hR hS hc hz => lv_lor hx hb hd (by
      have k := kk ls H locs cells slots hL hR hS hc hz
      simpa only [List.map_cons, cv, f_lor, Int64.ofInt_toInt] using k)
  · exact so_none
theorem s_idiv (hx : p.tables.exec = Jvm.exec) (hb : c.code = cc) (hd : decode cc pc = .ok (.idiv, 1)) : SO v p l e R s m args below meth c n0 z0 Q pc L st h (o_div (pc + 1) L st h) := by
  unfold o_div
  split
  · rename_i y x r
    split
    · rename_i hc0
      obtain ⟨h1, h2, h3⟩ := hc0
      have e1 : Int32.ofInt (x.tdiv y) = Int32.ofInt x / Int32.ofInt y := by
        apply Int32.toInt_inj.mp
        rw [Int32.toInt_div_of_ne_right _ _ (fun q => by
          have := congrArg Int32.toInt q
          rw [i_to h2] at this
          rw [this] at h3
          exact absurd h3 (by decide)), i_to h1, i_to h2, i_to]
        refine ⟨?_, ?_⟩
        · rcases Int.le_total 0 x with q | q
          · have := Int.tdiv_nonneg q (Int.le_of_lt h3)
            omega
          · have h4 := Int.neg_tdiv x y
            have h5 : (-x).tdiv y ≤ -x := Int.tdiv_le_self _ (by omega)
            omega
        · rcases Int.le_total 0 x with q | q
          · have h5 : x.tdiv y ≤ x := Int.tdiv_le_self _ q
            omega
          · have h4 := Int.neg_tdiv x y
            have h5 := Int.tdiv_nonneg (a := -x) (b := y) (by omega) (Int.le_of_lt h3)
            omega
      exact so_nx rfl fun kk ls H locs cells slots hL hR hS hc hz => lv_idiv hx hb hd (fun q => by
        rw [i_0, i_eq h2 inR_0] at q
        omega) (by
        have k := kk ls H locs cells slots hL hR hS hc hz
        simpa only [List.map_cons, cv, e1] using k)
    · exact so_none
  · exact so_none
theorem s_lshl (hx : p.tables.exec = Jvm.exec) (hb : c.code = cc) (hd : decode cc pc = .ok (.lshl, 1)) : SO v p l e R s m args below meth c n0 z0 Q pc L st h (o_lshl (pc + 1) L st h) := by
  unfold o_lshl
  split
  · rename_i y x r
    exact so_nx rfl fun kk ls H locs cells slots hL hR hS hc hz => lv_lshl hx hb hd rfl (by
      have k := kk ls H locs cells slots hL hR hS hc hz
      simpa only [List.map_cons, cv, f_lshl, Int64.ofInt_toInt] using k)
  · exact so_none
theorem s_i2l (hx : p.tables.exec = Jvm.exec) (hb : c.code = cc) (hd : decode cc pc = .ok (.i2l, 1)) : SO v p l e R s m args below meth c n0 z0 Q pc L st h (o_i2l (pc + 1) L st h) := by
  unfold o_i2l
  split
  · rename_i x r
    split
    · rename_i h1
      exact so_nx rfl fun kk ls H locs cells slots hL hR hS hc hz => lv_i2l hx hb hd (i_i2l h1) (kk ls H locs cells slots hL hR hS hc hz)
    · exact so_none
  · exact so_none
theorem s_l2i (hx : p.tables.exec = Jvm.exec) (hb : c.code = cc) (hd : decode cc pc = .ok (.l2i, 1)) : SO v p l e R s m args below meth c n0 z0 Q pc L st h (o_l2i (pc + 1) L st h) := by
  unfold o_l2i
  split
  · rename_i x r
    exact so_nx rfl fun kk ls H locs cells slots hL hR hS hc hz => lv_l2i hx hb hd Int64.toInt32_ofInt (kk ls H locs cells slots hL hR hS hc hz)
  · exact so_none
theorem s_lcmp (hx : p.tables.exec = Jvm.exec) (hb : c.code = cc) (hd : decode cc pc = .ok (.lcmp, 1)) : SO v p l e R s m args below meth c n0 z0 Q pc L st h (o_lcmp (pc + 1) L st h) := by
  unfold o_lcmp
  split
  · rename_i y x r
    split
    · rename_i h1
      exact so_nx rfl fun kk ls H locs cells slots hL hR hS hc hz => W.lcmp hx hb hd (by
        rw [i_cmp h1.1 h1.2]
        exact kk ls H locs cells slots hL hR hS hc hz)
    · exact so_none
  · exact so_none
theorem s_dup (hx : p.tables.exec = Jvm.exec) (hb : c.code = cc) (hd : decode cc pc = .ok (.dup, 1)) : SO v p l e R s m args below meth c n0 z0 Q pc L st h (o_dup (pc + 1) L st h) := by
  unfold o_dup
  split
  · rename_i w r
    split
    · rename_i h1
      exact so_nx rfl fun kk ls H locs cells slots hL hR hS hc hz => lv_dup hx hb hd (cv_one h1) (kk ls H locs cells slots hL hR hS hc hz)
    · exact so_none
  · exact so_none
theorem s_pop (hx : p.tables.exec = Jvm.exec) (hb : c.code = cc) (hd : decode cc pc = .ok (.pop, 1)) : SO v p l e R s m args below meth c n0 z0 Q pc L st h (o_pop (pc + 1) L st h) := by
  unfold o_pop
  split
  · rename_i w r
    split
    · rename_i h1
      exact so_nx rfl fun kk ls H locs cells slots hL hR hS hc hz => lv_pop hx hb hd (cv_one h1) (kk ls H locs cells slots hL hR hS hc hz)
    · exact so_none
  · exact so_none
theorem s_dup_x1 (hx : p.tables.exec = Jvm.exec) (hb : c.code = cc) (hd : decode cc pc = .ok (.dup_x1, 1)) : SO v p l e R s m args below meth c n0 z0 Q pc L st h (o_dupx1 (pc + 1) L st h) := by
  unfold o_dupx1
  split
  · rename_i w x r
    split
    · rename_i h1
      have h1 := Bool.and_eq_true_iff.mp h1
      exact so_nx rfl fun kk ls H locs cells slots hL hR hS hc hz => lv_dup_x1 hx hb hd (cv_one h1.1) (cv_one h1.2) (kk ls H locs cells slots hL hR hS hc hz)
    · exact so_none
  · exact so_none
theorem s_dup2 (hx : p.tables.exec = Jvm.exec) (hb : c.code = cc) (hd : decode cc pc = .ok (.dup2, 1)) : SO v p l e R s m args below meth c n0 z0 Q pc L st h (o_dup2 (pc + 1) L st h) := by
  unfold o_dup2
  split
  · rename_i w x r
    split
    · rename_i h1
      have h1 := Bool.and_eq_true_iff.mp h1
      exact so_nx rfl fun kk ls H locs cells slots hL hR hS hc hz => lv_dup2_11 hx hb hd (cv_one h1.1) (cv_one h1.2) (kk ls H locs cells slots hL hR hS hc hz)
    · exact so_none
  · exact so_none
theorem tg_eq {pc : Nat} {off : Int} (h : 0 ≤ (pc : Int) + off) : (pc : Int) + off = ((tg pc off : Nat) : Int) := (Int.toNat_of_nonneg h).symm
theorem so_br {b : Prop} {b1 : Bool} {t u : Nat} {st' : List AV} (hbb : b1 = true ↔ b) (row : ∀ (ls : Array Slot) (H : Heap) (locs : List Loc) (cells slots : Nat), (b → W p l e R s m args below meth c H locs cells slots Q (F0 m t ls (st'.map cv))) → (¬ b → W p l e R s m args below meth c H locs cells slots Q (F0 m u ls (st'.map cv))) → W p l e R s m args below meth c H locs cells slots Q (F0 m pc ls (st.map cv))) :
    SO v p l e R s m args below meth c n0 z0 Q pc L st h (if b1 then nx t L st' h else nx u L st' h) := by
  split
  · rename_i h1
    exact so_nx rfl fun kk ls H locs cells slots hL hR hS hc hz => row ls H locs cells slots (fun _ => kk ls H locs cells slots hL hR hS hc hz) (fun q => absurd (hbb.mp h1) q)
  · rename_i h1
    exact so_nx rfl fun kk ls H locs cells slots hL hR hS hc hz => row ls H locs cells slots (fun q => absurd (hbb.mpr q) h1) (fun _ => kk ls H locs cells slots hL hR hS hc hz)
theorem s_if (hx : p.tables.exec = Jvm.exec) (hb : c.code = cc) {cnd : ClassFile.Cond} {off : Int} (hd : decode cc pc = .ok (.ifCond cnd off, 3)) (ht : 0 ≤ (pc : Int) + off) : SO v p l e R s m args below meth c n0 z0 Q pc L st h (o_if cnd (tg pc off) (pc + 3) L st h) := by
  unfold o_if
  split
  · rename_i x r
    split
    · rename_i hr
      cases cnd with
      | eq => exact so_br (b := x = 0) (by simp [cmpI]) fun ls H locs cells slots k1 k2 => lv_if_eq hx hb hd (tg_eq ht) (fun q => k1 ((z_eq hr).mp q)) (fun q => k2 (fun z => q ((z_eq hr).mpr z)))
      | ne => exact so_br (b := ¬ x = 0) (by simp [cmpI]) fun ls H locs cells slots k1 k2 => lv_if_ne hx hb hd (tg_eq ht) (fun q => k1 (fun z => q ((z_eq hr).mpr z))) (fun q => k2 (fun z => z ((z_eq hr).mp q)))
      | lt => exact so_br (b := x < 0) (by simp [cmpI]) fun ls H locs cells slots k1 k2 => lv_if_lt hx hb hd (tg_eq ht) (fun q => k1 ((z_lt hr).mp q)) (fun q => k2 (fun z => q ((z_lt hr).mpr z)))
      | ge => exact so_br (b := 0 ≤ x) (by simp [cmpI]) fun ls H locs cells slots k1 k2 => lv_if_ge hx hb hd (tg_eq ht) (fun q => k1 ((z_ge hr).mp q)) (fun q => k2 (fun z => q ((z_ge hr).mpr z)))
      | gt => exact so_br (b := 0 < x) (by simp [cmpI]) fun ls H locs cells slots k1 k2 => lv_if_gt hx hb hd (tg_eq ht) (fun q => k1 ((z_gt hr).mp q)) (fun q => k2 (fun z => q ((z_gt hr).mpr z)))
      | le => exact so_br (b := x ≤ 0) (by simp [cmpI]) fun ls H locs cells slots k1 k2 => lv_if_le hx hb hd (tg_eq ht) (fun q => k1 ((z_le hr).mp q)) (fun q => k2 (fun z => q ((z_le hr).mpr z)))
    · exact so_none
  · exact so_none
theorem s_icmp (hx : p.tables.exec = Jvm.exec) (hb : c.code = cc) {cnd : ClassFile.Cond} {off : Int} (hd : decode cc pc = .ok (.if_icmp cnd off, 3)) (ht : 0 ≤ (pc : Int) + off) : SO v p l e R s m args below meth c n0 z0 Q pc L st h (o_icmp cnd (tg pc off) (pc + 3) L st h) := by
  unfold o_icmp
  split
  · rename_i y x r
    split
    · rename_i hr
      cases cnd with
      | eq => exact so_br (b := x = y) (by simp [cmpI]) fun ls H locs cells slots k1 k2 => lv_icmp_eq hx hb hd (tg_eq ht) (fun q => k1 ((i_eq hr.1 hr.2).mp q)) (fun q => k2 (fun z => q ((i_eq hr.1 hr.2).mpr z)))
      | ne => exact so_br (b := ¬ x = y) (by simp [cmpI]) fun ls H locs cells slots k1 k2 => lv_icmp_ne hx hb hd (tg_eq ht) (fun q => k1 (fun z => q ((i_eq hr.1 hr.2).mpr z))) (fun q => k2 (fun z => z ((i_eq hr.1 hr.2).mp q)))
      | lt => exact so_br (b := x < y) (by simp [cmpI]) fun ls H locs cells slots k1 k2 => lv_icmp_lt hx hb hd (tg_eq ht) (fun q => k1 ((i_lt hr.1 hr.2).mp q)) (fun q => k2 (fun z => q ((i_lt hr.1 hr.2).mpr z)))
      | ge => exact so_br (b := y ≤ x) (by simp [cmpI]) fun ls H locs cells slots k1 k2 => lv_icmp_ge hx hb hd (tg_eq ht) (fun q => k1 ((i_le hr.2 hr.1).mp q)) (fun q => k2 (fun z => q ((i_le hr.2 hr.1).mpr z)))
      | gt => exact so_br (b := y < x) (by simp [cmpI]) fun ls H locs cells slots k1 k2 => lv_icmp_gt hx hb hd (tg_eq ht) (fun q => k1 ((i_lt hr.2 hr.1).mp q)) (fun q => k2 (fun z => q ((i_lt hr.2 hr.1).mpr z)))
      | le => exact so_br (b := x ≤ y) (by simp [cmpI]) fun ls H locs cells slots k1 k2 => lv_icmp_le hx hb hd (tg_eq ht) (fun q => k1 ((i_le hr.1 hr.2).mp q)) (fun q => k2 (fun z => q ((i_le hr.1 hr.2).mpr z)))
    · exact so_none
  · exact so_none
theorem s_acmp (hx : p.tables.exec = Jvm.exec) (hb : c.code = cc) {cnd : ACond} {off : Int} (hd : decode cc pc = .ok (.if_acmp cnd off, 3)) (ht : 0 ≤ (pc : Int) + off) : SO v p l e R s m args below meth c n0 z0 Q pc L st h (o_acmp cnd (tg pc off) (pc + 3) L st h) := by
  unfold o_acmp
  split
  · rename_i y x r
    cases cnd with
    | eq =>
      refine so_br (b := x = y) (by simp) fun ls H locs cells slots k1 k2 => ?_
      simp only [List.map_cons]
      rw [cv_q, cv_q]
      exact lv_acmp_eq hx hb hd (tg_eq ht) k1 k2
    | ne =>
      refine so_br (b := x = y) (by simp) fun ls H locs cells slots k1 k2 => ?_
      simp only [List.map_cons]
      rw [cv_q, cv_q]
      exact lv_acmp_ne hx hb hd (tg_eq ht) k2 k1
  · exact so_none
theorem s_ifnull (hx : p.tables.exec = Jvm.exec) (hb : c.code = cc) {off : Int} (hd : decode cc pc = .ok (.ifnull off, 3)) (ht : 0 ≤ (pc : Int) + off) : SO v p l e R s m args below meth c n0 z0 Q pc L st h (o_null true (tg pc off) (pc + 3) L st h) := by
  unfold o_null
  split
  · exact so_nx rfl fun kk ls H locs cells slots hL hR hS hc hz => lv_ifnullN hx hb hd (tg_eq ht) (kk ls H locs cells slots hL hR hS hc hz)
  · exact so_nx rfl fun kk ls H locs cells slots hL hR hS hc hz => lv_ifnull hx hb hd (kk ls H locs cells slots hL hR hS hc hz)
  · exact so_none
theorem s_ifnonnull (hx : p.tables.exec = Jvm.exec) (hb : c.code = cc) {off : Int} (hd : decode cc pc = .ok (.ifnonnull off, 3)) (ht : 0 ≤ (pc : Int) + off) : SO v p l e R s m args below meth c n0 z0 Q pc L st h (o_null false (tg pc off) (pc + 3) L st h) := by
  unfold o_null
  split
  · exact so_nx rfl fun kk ls H locs cells slots hL hR hS hc hz => lv_ifnonnullN hx hb hd (kk ls H locs cells slots hL hR hS hc hz)
  · exact so_nx rfl fun kk ls H locs cells slots hL hR hS hc hz => lv_ifnonnull hx hb hd (tg_eq ht) (kk ls H locs cells slots hL hR hS hc hz)
  · exact so_none
theorem s_goto (hx : p.tables.exec = Jvm.exec) (hb : c.code = cc) {off : Int} (hd : decode cc pc = .ok (.goto off, 3)) (ht : 0 ≤ (pc : Int) + off) : SO v p l e R s m args below meth c n0 z0 Q pc L st h (nx (tg pc off) L st h) :=
  so_nx rfl fun kk ls H locs cells slots hL hR hS hc hz => lv_goto hx hb hd (tg_eq ht) (kk ls H locs cells slots hL hR hS hc hz)
theorem s_tab (hx : p.tables.exec = Jvm.exec) (hb : c.code = cc) {d lo hi : Int} {offs : Array Int} {len : Nat} (hd : decode cc pc = .ok (.tableswitch d lo hi offs, len)) (ht : 0 ≤ (pc : Int) + d) (hts : ∀ o ∈ offs.toList, 0 ≤ (pc : Int) + o) : SO v p l e R s m args below meth c n0 z0 Q pc L st h (o_tab d lo hi offs pc L st h) := by
  unfold o_tab
  split
  · rename_i x r
    split
    · rename_i hr
      split
      · rename_i h1
        exact so_nx rfl fun kk ls H locs cells slots hL hR hS hc hz => lv_tableOut hx hb hd (by rw [i_to hr]; exact h1) (tg_eq ht) (kk ls H locs cells slots hL hR hS hc hz)
      · rename_i h1
        split
        · rename_i o ho
          exact so_nx rfl fun kk ls H locs cells slots hL hR hS hc hz => lv_tableIn hx hb hd (by rw [i_to hr]; exact fun q => h1 (Or.inl q)) (by rw [i_to hr]; exact fun q => h1 (Or.inr q)) (by rw [i_to hr]; exact ho) (tg_eq (hts o (by
            rw [← Array.getElem?_toList] at ho
            exact List.mem_of_getElem? ho))) (kk ls H locs cells slots hL hR hS hc hz)
        · exact so_none
    · exact so_none
  · exact so_none
theorem s_alen (hx : p.tables.exec = Jvm.exec) (hb : c.code = cc) (hK : va_K v.D classes (tysOf v) s) (hlo : Lo v s) (hd : decode cc pc = .ok (.arraylength, 1)) : SO v p l e R s m args below meth c n0 z0 Q pc L st h (o_alen (pc + 1) L st h) := by
  unfold o_alen
  split
  · rename_i a r
    split
    · rename_i t n x he
      refine so_nx rfl fun kk ls H locs cells slots hL hR hS hc hz => ?_
      rcases hR.2.2.1 a _ he with ⟨q1, q2⟩ | ⟨q1, ⟨q2, q3⟩ | ⟨q2, q3⟩⟩
      · obtain ⟨ty, hty⟩ := tys_at v ((hR.2.2.2.1 a t n x he).2 q1)
        exact va_alen hx hb hK hR.2.1 (a - v.b0) t (ws_get he q1 q2) hty i_len hd (kk ls H locs cells slots hL hR hS hc hz)
      · cases q3
        subst q2
        exact va_slen hx hb hlo.1 (Nat.lt_of_lt_of_le q1 hlo.2.2.2.2) (by show ¬ v.b0 ≤ _; omega) hS hd (by
          rw [i_len]
          exact kk ls H locs cells slots hL hR hS hc hz)
      · cases q3
        subst q2
        exact va_tlen hx hb hlo.2.2.1 hS i_len hd (kk ls H locs cells slots hL hR hS hc hz)
    · exact so_none
  · exact so_none
theorem s_iald (hx : p.tables.exec = Jvm.exec) (hb : c.code = cc) (hK : va_K v.D classes (tysOf v) s) (hlo : Lo v s) (hd : decode cc pc = .ok (.iaload, 1)) : SO v p l e R s m args below meth c n0 z0 Q pc L st h (o_iald (pc + 1) L st h) := by
  unfold o_iald
  split
  · rename_i i a r
    split
    · rename_i t n F he
      split
      · rename_i hc0
        obtain ⟨ht, h1, h2⟩ := hc0
        refine so_nx rfl fun kk ls H locs cells slots hL hR hS hc hz => ?_
        obtain ⟨e1, e2⟩ := i_in (hR.2.2.2.1 a t n _ he).1 h1 h2
        rcases ht with rfl | rfl
        · obtain ⟨q1, q2⟩ := hR.arr he (by decide) h1 h2
          refine va_iald hx hb hK hR.2.1 (a - v.b0) 0 (ws_get he q1 q2) rfl e1 hd ?_
          rw [e2]
          exact kk ls H locs cells slots hL hR hS hc hz
        · rcases hR.2.2.1 a _ he with ⟨q1, q2⟩ | ⟨q1, ⟨q2, q3⟩ | ⟨q2, q3⟩⟩
          · exact absurd ((hR.2.2.2.1 a _ n _ he).2 q1) (by decide)
          · cases q3
            subst q2
            refine va_sld hx hb hlo.1 (Nat.lt_of_lt_of_le q1 hlo.2.2.2.2) (by show ¬ v.b0 ≤ _; omega) hS e1 hd ?_
            rw [e2]
            exact kk ls H locs cells slots hL hR hS hc hz
          · cases q3
      · exact so_none
    · exact so_none
  · exact so_none
theorem s_bald (hx : p.tables.exec = Jvm.exec) (hb : c.code = cc) (hK : va_K v.D classes (tysOf v) s) (hd : decode cc pc = .ok (.baload, 1)) : SO v p l e R s m args below meth c n0 z0 Q pc L st h (o_bald (pc + 1) L st h) := by
  unfold o_bald
  split
  · rename_i i a r
    split
    · rename_i t n F he
      split
      · rename_i hc0
        obtain ⟨ht, h1, h2⟩ := hc0
        refine so_nx rfl fun kk ls H locs cells slots hL hR hS hc hz => ?_
        obtain ⟨e1, e2⟩ := i_in (hR.2.2.2.1 a t n _ he).1 h1 h2
        have ht : t = 2 := ht
        subst ht
        obtain ⟨q1, q2⟩ := hR.arr he (by decide) h1 h2
        refine va_zald hx hb hK hR.2.1 (a - v.b0) 2 (ws_get he q1 q2) rfl e1 hd ?_
        rw [e2]
        exact kk ls H locs cells slots hL hR hS hc hz
      · exact so_none
    · exact so_none
  · exact so_none
theorem s_lald (hx : p.tables.exec = Jvm.exec) (hb : c.code = cc) (hK : va_K v.D classes (tysOf v) s) (hd : decode cc pc = .ok (.laload, 1)) : SO v p l e R s m args below meth c n0 z0 Q pc L st h (o_lald (pc + 1) L st h) := by
  unfold o_lald
  split
  · rename_i i a r
    split
    · rename_i n F he
      split
      · rename_i hc0
        obtain ⟨h1, h2⟩ := hc0
        refine so_nx rfl fun kk ls H locs cells slots hL hR hS hc hz => ?_
        obtain ⟨e1, e2⟩ := i_in (hR.2.2.2.1 a _ n _ he).1 h1 h2
        obtain ⟨q1, q2⟩ := hR.arr he (by decide) h1 h2
        refine va_lald hx hb hK hR.2.1 (a - v.b0) 1 (ws_get he q1 q2) rfl e1 hd ?_
        rw [e2]
        exact kk ls H locs cells slots hL hR hS hc hz
      · exact so_none
    · exact so_none
  · exact so_none
theorem s_aald (hx : p.tables.exec = Jvm.exec) (hb : c.code = cc) (hK : va_K v.D classes (tysOf v) s) (hd : decode cc pc = .ok (.aaload, 1)) : SO v p l e R s m args below meth c n0 z0 Q pc L st h (o_aald (pc + 1) L st h) := by
  unfold o_aald
  split
  · rename_i i a r
    split
    · rename_i t n F he
      split
      · rename_i hc0
        obtain ⟨ht, h1, h2⟩ := hc0
        refine so_nx rfl fun kk ls H locs cells slots hL hR hS hc hz => ?_
        obtain ⟨e1, e2⟩ := i_in (hR.2.2.2.1 a _ n _ he).1 h1 h2
        have k := kk ls H locs cells slots hL hR hS hc hz
        rw [List.map_cons, cv_q] at k
        rcases ht with rfl | rfl
        · obtain ⟨q1, q2⟩ := hR.arr he (by decide) h1 h2
          refine va_aldq hx hb hK hR.2.1 (a - v.b0) 3 (ws_get he q1 q2) rfl e1 hd ?_
          rw [e2]
          exact k
        · obtain ⟨q1, q2⟩ := hR.arr he (by decide) h1 h2
          refine va_aldq hx hb hK hR.2.1 (a - v.b0) 4 (ws_get he q1 q2) rfl e1 hd ?_
          rw [e2]
          exact k
      · exact so_none
    · exact so_none
  · exact so_none
/-- one of our cells is changed -/
theorem so_put {pc' : Nat} {st' : List AV} {a : Nat} {x : AE} (row : ∀ (ls : Array Slot) (H : Heap) (locs : List Loc) (cells slots : Nat), Lh ls L → Rl v h H → va_S (fun q => v.b0 ≤ q) s.heap H locs → (∀ (H1 : Heap) (locs1 : List Loc), Rl v (hput h a x) H1 → va_S (fun q => v.b0 ≤ q) s.heap H1 locs1 → W p l e R s m args below meth c H1 locs1 cells slots Q (F0 m pc' ls (st'.map cv))) → W p l e R s m args below meth c H locs cells slots Q (F0 m pc ls (st.map cv))) :
    SO v p l e R s m args below meth c n0 z0 Q pc L st h (nx pc' L st' (hput h a x)) := by
  intro a b c d q
  cases q
  exact ⟨rfl, Nat.le_refl _, Nat.le_refl _, fun _ _ kk ls H locs cells slots hL hR hS hc hz => row ls H locs cells slots hL hR hS (fun H1 locs1 hR1 hS1 => kk ls H1 locs1 cells slots hL hR1 hS1 hc hz)⟩
theorem s_iast (hx : p.tables.exec = Jvm.exec) (hb : c.code = cc) (hK : va_K v.D classes (tysOf v) s) (hd : decode cc pc = .ok (.iastore, 1)) : SO v p l e R s m args below meth c n0 z0 Q pc L st h (o_iast (pc + 1) L st h) := by
  unfold o_iast
  split
  · rename_i x i a r
    split
    · rename_i t n F he
      split
      · rename_i hc0
        obtain ⟨ht, h1, h2⟩ := hc0
        have ht : t = 0 := ht
        subst ht
        refine so_put fun ls H locs cells slots hL hR hS kk => ?_
        obtain ⟨e1, e2⟩ := i_in (hR.2.2.2.1 a _ n _ he).1 h1 h2
        obtain ⟨q1, q2⟩ := hR.arr he (by decide) h1 h2
        refine va_iast hx hb hK hR.2.1 (ws_D v h) hS (a - v.b0) 0 (ws_get he q1 q2) rfl e1 hd fun H1 locs1 hP1 hD1 hS1 => kk H1 locs1 (hR.put q1 q2 ?_ ?_) hS1
        · intro t' n' x' e; cases e; exact ⟨(hR.2.2.2.1 a _ n _ he).1, by decide⟩
        · rw [← ws_put _ q1 q2]
          rw [e2, upd_up] at hP1
          exact hP1
      · exact so_none
    · exact so_none
  · exact so_none
theorem nar_b {x : Int} (h : x = 0 ∨ x = 1) : vp_nar .boolean (Int32.ofInt x) = Int32.ofInt x := by
  rcases h with rfl | rfl <;> decide
theorem s_bast (hx : p.tables.exec = Jvm.exec) (hb : c.code = cc) (hK : va_K v.D classes (tysOf v) s) (hd : decode cc pc = .ok (.bastore, 1)) : SO v p l e R s m args below meth c n0 z0 Q pc L st h (o_bast (pc + 1) L st h) := by
  unfold o_bast
  split
  · rename_i x i a r
    split
    · rename_i t n F he
      split
      · rename_i hc0
        obtain ⟨ht, h1, h2⟩ := hc0
        have ht : t = 2 ∧ (x = 0 ∨ x = 1) := ht
        obtain ⟨rfl, hx01⟩ := ht
        refine so_put fun ls H locs cells slots hL hR hS kk => ?_
        obtain ⟨e1, e2⟩ := i_in (hR.2.2.2.1 a _ n _ he).1 h1 h2
        obtain ⟨q1, q2⟩ := hR.arr he (by decide) h1 h2
        refine va_zast hx hb hK hR.2.1 (ws_D v h) hS (a - v.b0) 2 (ws_get he q1 q2) rfl e1 hd fun H1 locs1 hP1 hD1 hS1 => kk H1 locs1 (hR.put q1 q2 ?_ ?_) hS1
        · intro t' n' x' e; cases e; exact ⟨(hR.2.2.2.1 a _ n _ he).1, by decide⟩
        · rw [← ws_put _ q1 q2]
          rw [e2, nar_b hx01, upd_up] at hP1
          exact hP1
      · exact so_none
    · exact so_none
  · exact so_none
theorem s_last (hx : p.tables.exec = Jvm.exec) (hb : c.code = cc) (hK : va_K v.D classes (tysOf v) s) (hd : decode cc pc = .ok (.lastore, 1)) : SO v p l e R s m args below meth c n0 z0 Q pc L st h (o_last (pc + 1) L st h) := by
  unfold o_last
  split
  · rename_i x i a r
    split
    · rename_i n F he
      split
      · rename_i hc0
        obtain ⟨h1, h2⟩ := hc0
        refine so_put fun ls H locs cells slots hL hR hS kk => ?_
        obtain ⟨e1, e2⟩ := i_in (hR.2.2.2.1 a _ n _ he).1 h1 h2
        obtain ⟨q1, q2⟩ := hR.arr he (by decide) h1 h2
        refine va_last hx hb hK hR.2.1 (ws_D v h) hS (a - v.b0) 1 (ws_get he q1 q2) rfl e1 hd fun H1 locs1 hP1 hD1 hS1 => kk H1 locs1 (hR.put q1 q2 ?_ ?_) hS1
        · intro t' n' x' e; cases e; exact ⟨(hR.2.2.2.1 a _ n _ he).1, by decide⟩
        · rw [← ws_put _ q1 q2]
          rw [e2, updL_up] at hP1
          exact hP1
      · exact so_none
    · exact so_none
  · exact so_none
theorem W.mono {Q1 Q2 : State → Prop} {H : Heap} {locs : List Loc} {cells slots : Nat} {g : JFrame} (h : ∀ t, Q1 t → Q2 t) (w : W p l e R s m args below meth c H locs cells slots Q1 g) : W p l e R s m args below meth c H locs cells slots Q2 g := fun T hT X => by
  obtain ⟨t, a, b⟩ := w T hT X
  exact ⟨t, a, h t b⟩
/-- the answer, as the machine has it -/
def oc (r : AR) (o : Outcome) : Prop := match r with
  | .inl w => o = .returned (w.map cv)
  | .inr q => o = .threw q.2
/-- what an end must give -/
def EO (v : EV) (s : State) (below : List Frame) (n0 z0 : Nat) (Q : State → Prop) (r : AR) (h : AH) : Prop :=
  ∀ (t : State) (o : Outcome) (L : List Loc) (cells slots : Nat), oc r o → Rl v h t.heap → va_F (fun q => v.b0 ≤ q) s t → h.2.1 = n0 + cells → h.2.2.1 = z0 + slots → t.status = .running → Ended t below o → s.WarmedH t.vm → s.sameButNew ({ t with vm := s.vm } : State) L cells slots → (∀ q ∈ L, v.b0 ≤ q.base) → Q t
/-- an instruction that ends the method is right -/
def SE (v : EV) (p : Program) (l : Launch) (e : Env) (R : Room) (s : State) (m : MethodId) (args : Array Value) (below : List Frame) (meth : Method) (c : Code) (n0 z0 : Nat) (Q : State → Prop) (pc : Nat) (L : AL) (st : List AV) (h : AH) (act : Act) : Prop :=
  ∀ r h', act = some (.inr (.inl (r, h'))) → h.2.1 ≤ h'.2.1 ∧ h.2.2.1 ≤ h'.2.2.1 ∧ (∀ ci a, r = .inr (ci, a) → ∃ fs, h'.1 a = some (.inr (ci, fs))) ∧ (h'.2.1 ≤ n0 + R.cells → h'.2.2.1 ≤ z0 + R.slots → EO v s below n0 z0 Q r h' → WW v p l e R s m args below meth c n0 z0 Q pc L st h)
theorem se_none : SE v p l e R s m args below meth c n0 z0 Q pc L st h none := by
  intro a b q
  cases q
theorem se_ret {w : Option AV} (row : ∀ (ls : Array Slot) (H : Heap) (locs : List Loc) (cells slots : Nat), va_S (fun q => v.b0 ≤ q) s.heap H locs → W p l e R s m args below meth c H locs cells slots (MQ below (fun _ _ o t => o = .returned (w.map cv) ∧ t.heap = H) args s cells slots (fun q => v.b0 ≤ q)) (F0 m pc ls (st.map cv))) : SE v p l e R s m args below meth c n0 z0 Q pc L st h (fin (.inl w) h) := by
  intro r h' q
  cases q
  refine ⟨Nat.le_refl _, Nat.le_refl _, fun ci a q => by (cases q), fun _ _ hE ls H locs cells slots hL hR hS hc hz => W.mono (fun t ht => ?_) (row ls H locs cells slots hS)⟩
  obtain ⟨o, h1, h2, ⟨h3, h4⟩, L', ⟨-, h5, h6⟩, h7⟩ := ht
  exact hE t o L' cells slots h3 (by rw [h4]; exact hR) (hS.F h4) hc hz h1 h2 h5 h6 h7
theorem e_ret (hx : p.tables.exec = Jvm.exec) (hb : c.code = cc) (hr : meth.sig.returnType = some .int) (hlocks : meth.locks = false) (hd : decode cc pc = .ok (.ireturn, 1)) : SE v p l e R s m args below meth c n0 z0 Q pc L st h (o_ret false st h) := by
  unfold o_ret
  split
  · rename_i x
    exact se_ret fun ls H locs cells slots hS => W.iret hx hb hr (fun t ht _ => ⟨rfl, ht⟩) hS.2.2 hd hlocks
  · exact se_none
theorem e_zret (hx : p.tables.exec = Jvm.exec) (hb : c.code = cc) (hr : meth.sig.returnType = some .boolean) (hlocks : meth.locks = false) (hd : decode cc pc = .ok (.ireturn, 1)) : SE v p l e R s m args below meth c n0 z0 Q pc L st h (o_ret true st h) := by
  unfold o_ret
  split
  · rename_i x
    rw [if_pos rfl]
    split
    · rename_i hx01
      refine se_ret fun ls H locs cells slots hS => W.zret (ty := .boolean) hx hb hr ?_ (fun t ht _ => ⟨rfl, ht⟩) hS.2.2 hd hlocks
      rcases hx01 with rfl | rfl
      · rw [lit0]; exact narrow_b0
      · rw [lit1]; exact narrow_b1
    · exact se_none
  · exact se_none
theorem e_lret (hx : p.tables.exec = Jvm.exec) (hb : c.code = cc) (hr : meth.sig.returnType = some .long) (hlocks : meth.locks = false) (hd : decode cc pc = .ok (.lreturn, 1)) : SE v p l e R s m args below meth c n0 z0 Q pc L st h (o_lret st h) := by
  unfold o_lret
  split
  · rename_i x
    exact se_ret fun ls H locs cells slots hS => W.lret hx hb hr (fun t ht _ => ⟨rfl, ht⟩) hS.2.2 hd hlocks
  · exact se_none
theorem e_aret (hx : p.tables.exec = Jvm.exec) (hb : c.code = cc) {rt : FieldType} (hr : meth.sig.returnType = some rt) (hrt : (∃ n, rt = .object n) ∨ ∃ t, rt = .array t) (hlocks : meth.locks = false) (hd : decode cc pc = .ok (.areturn, 1)) : SE v p l e R s m args below meth c n0 z0 Q pc L st h (o_aret st h) := by
  unfold o_aret
  split
  · rename_i x
    exact se_ret fun ls H locs cells slots hS => W.aret (v := cv (aQ x)) hx hb hr hrt (by cases x with
      | none => exact Or.inl rfl
      | some a => exact Or.inr ⟨a, rfl⟩) (fun t ht _ => ⟨rfl, ht⟩) hS.2.2 hd hlocks
  · exact se_none
theorem e_vret (hx : p.tables.exec = Jvm.exec) (hb : c.code = cc) (hr : meth.sig.returnType = none) (hlocks : meth.locks = false) (hd : decode cc pc = .ok (.return_, 1)) : SE v p l e R s m args below meth c n0 z0 Q pc L st h (o_vret st h) := by
  unfold o_vret
  split
  · exact se_ret fun ls H locs cells slots hS => W.vret hx hb hr (fun t ht _ => ⟨rfl, ht⟩) hS.2.2 hd hlocks
  · exact se_none
/-! making cells -/
theorem new_addr {x : va_E} {q : Nat} {H1 : Heap} (hP : va_P v.D classes (wsOf v h ++ [(q, x)]) H1) (hD : va_D (fun q => v.b0 ≤ q) (wsOf v h ++ [(q, x)])) (hz : H1.size ≤ h.2.1 + 1) : q = h.2.1 := by
  have hq : (wsOf v h ++ [(q, x)])[(wsOf v h).length]? = some (q, x) := by simp
  have h1 : q < H1.size := (hP _ _ hq).lt
  have h2 : v.b0 ≤ q := hD.2 _ _ hq
  rcases Nat.lt_or_ge q h.2.1 with h3 | h3
  · have h4 : q - v.b0 < h.2.1 - v.b0 := by omega
    have h5 : (wsOf v h ++ [(q, x)])[q - v.b0]? = some (v.b0 + (q - v.b0), cE v.dA ((h.1 (v.b0 + (q - v.b0))).getD (.inr (0, [])))) := by
      rw [List.getElem?_append_left (by rw [ws_len]; exact h4)]
      exact ws_at v h h4
    have h6 := hD.1 _ _ _ _ hq h5 (show q = v.b0 + (q - v.b0) by omega)
    rw [ws_len] at h6
    omega
  · omega
theorem so_new {pc' k : Nat} {st' : List AV} {x : AE} (hn0 : n0 = s.heap.size) (hx : ∀ t n y, x = .inl (t, n, y) → n < 1073741824 ∧ t < 5)
    (row : ∀ (ls : Array Slot) (H : Heap) (locs : List Loc) (cells slots : Nat), Lh ls L → Rl v h H → va_S (fun q => v.b0 ≤ q) s.heap H locs → cells + 1 ≤ R.cells → slots + k ≤ R.slots → (∀ (q : Nat) (H1 : Heap), va_P v.D classes (wsOf v h ++ [(q, cE v.dA x)]) H1 → va_D (fun q => v.b0 ≤ q) (wsOf v h ++ [(q, cE v.dA x)]) → va_S (fun q => v.b0 ≤ q) s.heap H1 locs → W p l e R s m args below meth c H1 locs (cells + 1) (slots + k) Q (F0 m pc' ls (.ref q :: st'.map cv))) → W p l e R s m args below meth c H locs cells slots Q (F0 m pc ls (st.map cv))) :
    SO v p l e R s m args below meth c n0 z0 Q pc L st h (nx pc' L (aR h.2.1 :: st') (hnew h x k)) := by
  intro a b c d q
  cases q
  refine ⟨rfl, Nat.le_succ _, Nat.le_add_right _ _, fun hc0 hz0 kk ls H locs cells slots hL hR hS hc hz => ?_⟩
  have hc0 : h.2.1 + 1 ≤ n0 + R.cells := hc0
  have hz0 : h.2.2.1 + k ≤ z0 + R.slots := hz0
  refine row ls H locs cells slots hL hR hS (by omega) (by omega) fun q H1 hP1 hD1 hS1 => ?_
  intro T hT X
  have hsz : H1.size ≤ h.2.1 + 1 := by
    have := X.heapSize
    rw [hT] at this
    omega
  have hq := new_addr hP1 hD1 hsz
  subst hq
  rw [ws_new x k hR.1] at hP1
  exact kk ls H1 locs (cells + 1) (slots + k) hL (hR.new hx hP1) hS1 (by show h.2.1 + 1 = _; omega) (by show h.2.2.1 + k = _; omega) T hT X
theorem dA_int (hK : va_K v.D classes (tysOf v) s) {cA : ClassId} (h : va_RA s cA .int) : cA = v.dA 0 := by
  have h0 : s.vm.findClass ("[" ++ FieldType.int.toString) = some (v.dA 0) := (hK.2 0 _ rfl).2
  have h : s.vm.findClass ("[" ++ FieldType.int.toString) = some cA := h
  exact Option.some.inj (h.symm.trans h0)
theorem dA_long (hK : va_K v.D classes (tysOf v) s) {cA : ClassId} (h : va_RA s cA .long) : cA = v.dA 1 := by
  have h0 : s.vm.findClass ("[" ++ FieldType.long.toString) = some (v.dA 1) := (hK.2 1 _ rfl).2
  have h : s.vm.findClass ("[" ++ FieldType.long.toString) = some cA := h
  exact Option.some.inj (h.symm.trans h0)
theorem dA_bool (hK : va_K v.D classes (tysOf v) s) {cA : ClassId} (h : va_RA s cA .boolean) : cA = v.dA 2 := by
  have h0 : s.vm.findClass ("[" ++ FieldType.boolean.toString) = some (v.dA 2) := (hK.2 2 _ rfl).2
  have h : s.vm.findClass ("[" ++ FieldType.boolean.toString) = some cA := h
  exact Option.some.inj (h.symm.trans h0)
theorem dA_obj {C : String} {t : Nat} (ht : (tysOf v)[t]? = some (v.dA t, .object C)) (hK : va_K v.D classes (tysOf v) s) {cA : ClassId} (h : va_RA s cA (.object C)) : cA = v.dA t := by
  obtain ⟨_, _, _, _, _, h0⟩ := (hK.2 t _ ht).2
  obtain ⟨_, _, _, _, _, h1⟩ := h
  exact Option.some.inj (h1.symm.trans h0)
theorem i_len0 {n : Int} (h0 : 0 ≤ n) (h1 : n ≤ 1048576) : ¬ Int32.ofInt n < 0 ∧ (Int32.ofInt n).toNatClampNeg = n.toNat ∧ n.toNat ≤ 1048576 := by
  have hn : inR n := ⟨by omega, by omega⟩
  refine ⟨fun q => ?_, i_nat hn, by omega⟩
  rw [z_lt hn] at q
  omega
theorem l64_0 : Int64.ofInt 0 = 0 := by decide
theorem cell_i0 (cA : ClassId) (n : Nat) : vp_cell cA (n, .inl (fun _ => Int32.ofInt 0)) = arrV cA n (fun _ => defaultValue .int) := by
  simp only [lit0]
  rfl
theorem cell_z0 (cA : ClassId) (n : Nat) : vp_cell cA (n, .inl (fun _ => Int32.ofInt 0)) = arrV cA n (fun _ => defaultValue .boolean) := by
  simp only [lit0]
  rfl
theorem cell_l0 (cA : ClassId) (n : Nat) : vp_cell cA (n, .inr (.inl (fun _ => Int64.ofInt 0))) = arrV cA n (fun _ => defaultValue .long) := by
  simp only [l64_0]
  rfl
theorem s_new_i (hx : p.tables.exec = Jvm.exec) (hb : c.code = cc) (hn0 : n0 = s.heap.size) (hK : va_K v.D classes (tysOf v) s) (hlo : Lo v s) (h_a : (Cond.arrayClass .int).before args s = true) (hd : decode cc pc = .ok (.newarray .int, 2)) {n : Int} {r : List AV} (hc0 : 0 ≤ n ∧ n ≤ 1048576) : SO v p l e R s m args below meth c n0 z0 Q pc L (aI n :: r) h (nx (pc + 2) L (aR h.2.1 :: r) (hnew h (.inl (0, n.toNat, .inl (fun _ => 0))) n.toNat)) := by
  have hA : ∀ q, s.heap.size ≤ q → v.b0 ≤ q := fun q hq => Nat.le_trans hlo.2.2.2.2 hq
  obtain ⟨e1, e2, e3⟩ := i_len0 hc0.1 hc0.2
  refine so_new hn0 (fun t n' y q => ?_) fun ls H locs cells slots hL hR hS hcl hsl kk => ?_
  · cases q
    exact ⟨by omega, by decide⟩
  · have hbt : n.toNat * componentBytes .int ≤ 536870912 := by
      have h4 : componentBytes .int = 4 := rfl
      rw [h4]
      omega
    refine va_newa (atype := .int) (ty := .int) (a0 := (n.toNat, .inl (fun _ => Int32.ofInt 0))) hx hb h_a rfl hK hR.2.1 (ws_D v h) hS hA (fun cA => cell_i0 cA _) e1 e2 hbt hcl hsl hd fun q cA H1 hK1 hP1 hD1 hS1 => ?_
    have hh := dA_int hK (hK1.2 5 (cA, .int) rfl).2
    subst hh
    exact kk q H1 hP1 hD1 hS1
theorem s_new_l (hx : p.tables.exec = Jvm.exec) (hb : c.code = cc) (hn0 : n0 = s.heap.size) (hK : va_K v.D classes (tysOf v) s) (hlo : Lo v s) (h_a : (Cond.arrayClass .long).before args s = true) (hd : decode cc pc = .ok (.newarray .long, 2)) {n : Int} {r : List AV} (hc0 : 0 ≤ n ∧ n ≤ 1048576) : SO v p l e R s m args below meth c n0 z0 Q pc L (aI n :: r) h (nx (pc + 2) L (aR h.2.1 :: r) (hnew h (.inl (1, n.toNat, .inr (.inl (fun _ => 0)))) n.toNat)) := by
  have hA : ∀ q, s.heap.size ≤ q → v.b0 ≤ q := fun q hq => Nat.le_trans hlo.2.2.2.2 hq
  obtain ⟨e1, e2, e3⟩ := i_len0 hc0.1 hc0.2
  refine so_new hn0 (fun t n' y q => ?_) fun ls H locs cells slots hL hR hS hcl hsl kk => ?_
  · cases q
    exact ⟨by omega, by decide⟩
  · have hbt : n.toNat * componentBytes .long ≤ 536870912 := by
      have h4 : componentBytes .long = 8 := rfl
      rw [h4]
      omega
    refine va_newa (atype := .long) (ty := .long) (a0 := (n.toNat, .inr (.inl (fun _ => Int64.ofInt 0)))) hx hb h_a rfl hK hR.2.1 (ws_D v h) hS hA (fun cA => cell_l0 cA _) e1 e2 hbt hcl hsl hd fun q cA H1 hK1 hP1 hD1 hS1 => ?_
    have hh := dA_long hK (hK1.2 5 (cA, .long) rfl).2
    subst hh
    exact kk q H1 hP1 hD1 hS1
theorem s_new_z (hx : p.tables.exec = Jvm.exec) (hb : c.code = cc) (hn0 : n0 = s.heap.size) (hK : va_K v.D classes (tysOf v) s) (hlo : Lo v s) (h_a : (Cond.arrayClass .boolean).before args s = true) (hd : decode cc pc = .ok (.newarray .boolean, 2)) {n : Int} {r : List AV} (hc0 : 0 ≤ n ∧ n ≤ 1048576) : SO v p l e R s m args below meth c n0 z0 Q pc L (aI n :: r) h (nx (pc + 2) L (aR h.2.1 :: r) (hnew h (.inl (2, n.toNat, .inl (fun _ => 0))) n.toNat)) := by
  have hA : ∀ q, s.heap.size ≤ q → v.b0 ≤ q := fun q hq => Nat.le_trans hlo.2.2.2.2 hq
  obtain ⟨e1, e2, e3⟩ := i_len0 hc0.1 hc0.2
  refine so_new hn0 (fun t n' y q => ?_) fun ls H locs cells slots hL hR hS hcl hsl kk => ?_
  · cases q
    exact ⟨by omega, by decide⟩
  · have hbt : n.toNat * componentBytes .boolean ≤ 536870912 := by
      have h4 : componentBytes .boolean = 1 := rfl
      rw [h4]
      omega
    refine va_newa (atype := .boolean) (ty := .boolean) (a0 := (n.toNat, .inl (fun _ => Int32.ofInt 0))) hx hb h_a rfl hK hR.2.1 (ws_D v h) hS hA (fun cA => cell_z0 cA _) e1 e2 hbt hcl hsl hd fun q cA H1 hK1 hP1 hD1 hS1 => ?_
    have hh := dA_bool hK (hK1.2 5 (cA, .boolean) rfl).2
    subst hh
    exact kk q H1 hP1 hD1 hS1
theorem s_newa (hx : p.tables.exec = Jvm.exec) (hb : c.code = cc) (hn0 : n0 = s.heap.size) (hK : va_K v.D classes (tysOf v) s) (hlo : Lo v s) (h_i : (Cond.arrayClass .int).before args s = true) (h_l : (Cond.arrayClass .long).before args s = true) (h_z : (Cond.arrayClass .boolean).before args s = true) {at_ : ArrayType} (hd : decode cc pc = .ok (.newarray at_, 2)) : SO v p l e R s m args below meth c n0 z0 Q pc L st h (o_newa at_ (pc + 2) L st h) := by
  unfold o_newa
  split
  · split
    · rename_i hc0
      split
      · exact s_new_i hx hb hn0 hK hlo h_i hd hc0
      · exact s_new_l hx hb hn0 hK hlo h_l hd hc0
      · exact s_new_z hx hb hn0 hK hlo h_z hd hc0
      · exact so_none
    · exact so_none
  · exact so_none
end SOps
