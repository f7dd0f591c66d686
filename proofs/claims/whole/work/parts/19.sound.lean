section Sound
variable {p : Program} {l : Launch} {e : Env} {R : Room} {s : State} {m : MethodId} {args : Array Value} {below : List Frame} {meth : Method} {c : Code} {Q : State → Prop} {v : EV} {i n0 z0 : Nat} {pc len : Nat} {L : AL} {st : List AV} {h : AH}
theorem snd_step (hi : okm i = true) (C : CX v p l R s m meth c i n0) (hL : L.length = mxl i) (hcr : ∀ cells, h.2.1 = n0 + cells → cells ≤ R.cells) (hsr : ∀ slots, h.2.2.1 = z0 + slots → slots ≤ R.slots) {pc' : Nat} {L' : AL} {st' : List AV} {h' : AH} (hs : stp i pc L st h = some (.inl (pc', L', st', h'))) (hc : h'.2.1 ≤ n0 + R.cells) (hz : h'.2.2.1 ≤ z0 + R.slots) (k : WW v p l e R s m args below meth c n0 z0 Q pc' L' st' h') : WW v p l e R s m args below meth c n0 z0 Q pc L st h := by
  have C' := C
  obtain ⟨hx, hb, hml, hown, hret, hlocks, hnm, htb, hn0, hK, hlz, hfr, hlo, hl⟩ := C
  unfold stp at hs
  split at hs
  · rename_i ins len hcod
    have hk := okm_at hi hcod
    obtain ⟨hk1, hk2⟩ := Bool.and_eq_true_iff.mp hk
    have hSO : SO v p l e R s m args below meth c n0 z0 Q pc L st h (stl ins pc len L st h) := snd_l hx hb hn0 hK.2.2.1 hlz.1 (inG_use hK g_ai args) (inG_use hK g_al args) (inG_use hK g_az args) site_word (cast_words hK) hk1
    unfold stm at hs
    split at hs
    · unfold o_ret at hs
      split at hs
      · split at hs
        · split at hs <;> cases hs
        · cases hs
      · cases hs
    · unfold o_lret at hs
      split at hs <;> cases hs
    · unfold o_aret at hs
      split at hs <;> cases hs
    · unfold o_vret at hs
      split at hs <;> cases hs
    · exact (hSO _ _ _ _ (wrp_some hs)).2.2.2 hc hz k
  · rename_i op len hcod
    have hk : okx i pc op = true := okm_at hi hcod
    have hSO : SO v p l e R s m args below meth c n0 z0 Q pc L st h (stx op pc L st h) := snd_x C' hL hcr hsr hk
    unfold stn at hs
    split at hs
    · unfold o_throw at hs
      split at hs <;> cases hs
    · unfold o_call at hs
      split at hs <;> cases hs
    · exact (hSO _ _ _ _ (wrp_some hs)).2.2.2 hc hz k
  · cases hs
theorem snd_throw0 (C : CX v p l R s m meth c i n0) (hL : L.length = mxl i) {ci : Nat} (hk : ok_throw0 i pc ci = true) : SE v p l e R s m args below meth c n0 z0 Q pc L st h (o_throw ci st h) := by
  obtain ⟨hx, hb, hml, hown, hret, hlocks, hnm, htb, hn0, hK, hlz, hfr, hlo, hl⟩ := C
  unfold ok_throw0 at hk
  split at hk
  · rename_i ik is ic q d0 d4 d6 hq
    obtain ⟨k1, hk⟩ := Bool.and_eq_true_iff.mp hk
    obtain ⟨k2, hk⟩ := Bool.and_eq_true_iff.mp hk
    obtain ⟨k3, hk⟩ := Bool.and_eq_true_iff.mp hk
    obtain ⟨k4, hk⟩ := Bool.and_eq_true_iff.mp hk
    obtain ⟨k5, hk⟩ := Bool.and_eq_true_iff.mp hk
    obtain ⟨k6, hk⟩ := Bool.and_eq_true_iff.mp hk
    obtain ⟨k7, hk⟩ := Bool.and_eq_true_iff.mp hk
    obtain ⟨k8, hk⟩ := Bool.and_eq_true_iff.mp hk
    obtain ⟨k9, hk⟩ := Bool.and_eq_true_iff.mp hk
    obtain ⟨k10, hk⟩ := Bool.and_eq_true_iff.mp hk
    obtain ⟨k11, k12⟩ := Bool.and_eq_true_iff.mp hk
    obtain ⟨z, hz, hz2⟩ := List.any_eq_true.mp k7
    obtain ⟨z1, z2⟩ := Bool.and_eq_true_iff.mp hz2
    have z1 := of_decide_eq_true z1
    have z2 := of_decide_eq_true z2
    obtain ⟨sa, hsa⟩ := hK.2.2.2.2.2.2.1 z hz
    rw [z1, z2] at hsa
    obtain ⟨cn, T0, N0⟩ := q
    have k3 : N0 = 0 := of_decide_eq_true k3
    subst k3
    have htb0 : c.exceptionTable.toList = [] := by
      have := htb
      rw [of_decide_eq_true k10] at this
      exact List.map_eq_nil_iff.mp this
    have k11 : 6 ≤ frs i := of_decide_eq_true k11
    have k12 : 90 ≤ lcs i := of_decide_eq_true k12
    refine e_throw hx hb hl hn0 hlz hK.2.2.1 (hml.trans hL.symm) hlocks hown hq k4 (names := exN) (by decide +kernel) (inG_use hK k5 args) (inG_use hK k6 args) hsa ?_ ?_ d0 (of_decide_eq_true k1) d4 d6 (of_decide_eq_true k2) (fun x hx => by rw [htb0] at hx; cases hx) ?_ ?_
    · intro w hw
      rcases Bool.or_eq_true_iff.mp (List.all_eq_true.mp k8 w hw) with h1 | h1
      · exact inG_use hK h1 args
      · exact xw_use (Bool.and_eq_true_iff.mp h1).2 (inX_nw hK h1)
    · intro w hw
      exact List.all_eq_true.mp k9 w hw
    · show 2 + 3 < R.frames
      omega
    · show 8 + (13 * (2 + 1) + 43) ≤ R.locals
      omega
  · cases hk
theorem snd_throwN (C : CX v p l R s m meth c i n0) (hL : L.length = mxl i) (hk : ok_throwN i pc = true) : SE v p l e R s m args below meth c n0 z0 Q pc L st h (o_throw 12 st h) := by
  obtain ⟨hx, hb, hml, hown, hret, hlocks, hnm, htb, hn0, hK, hlz, hfr, hlo, hl⟩ := C
  unfold ok_throwN at hk
  split at hk
  · rename_i ik is ic q d0 d4 d6 hq
    obtain ⟨k1, hk⟩ := Bool.and_eq_true_iff.mp hk
    obtain ⟨k2, hk⟩ := Bool.and_eq_true_iff.mp hk
    obtain ⟨k3, hk⟩ := Bool.and_eq_true_iff.mp hk
    obtain ⟨k4, hk⟩ := Bool.and_eq_true_iff.mp hk
    obtain ⟨k5, hk⟩ := Bool.and_eq_true_iff.mp hk
    obtain ⟨k6, hk⟩ := Bool.and_eq_true_iff.mp hk
    obtain ⟨k7, hk⟩ := Bool.and_eq_true_iff.mp hk
    obtain ⟨k8, hk⟩ := Bool.and_eq_true_iff.mp hk
    obtain ⟨k9, hk⟩ := Bool.and_eq_true_iff.mp hk
    obtain ⟨k10, hk⟩ := Bool.and_eq_true_iff.mp hk
    obtain ⟨k11, k12⟩ := Bool.and_eq_true_iff.mp hk
    obtain ⟨z, hz, hz2⟩ := List.any_eq_true.mp k7
    obtain ⟨z1, z2⟩ := Bool.and_eq_true_iff.mp hz2
    have z1 := of_decide_eq_true z1
    have z2 := of_decide_eq_true z2
    obtain ⟨sa, hsa⟩ := hK.2.2.2.2.2.2.1 z hz
    rw [z1, z2] at hsa
    obtain ⟨cn, T0, N0⟩ := q
    have k3 : N0 = 0 := of_decide_eq_true k3
    subst k3
    have htb0 : c.exceptionTable.toList = [] := by
      have := htb
      rw [of_decide_eq_true k10] at this
      exact List.map_eq_nil_iff.mp this
    have k11 : 6 ≤ frs i := of_decide_eq_true k11
    have k12 : 90 ≤ lcs i := of_decide_eq_true k12
    refine e_throwN (Ys := nRT) hx hb hl hn0 hlz hK.2.2.1 (hml.trans hL.symm) hlocks hown hq k4 (by decide +kernel) (names := nEx) (by decide +kernel) (inG_use hK k5 args) (inG_use hK k6 args) hsa ?_ ?_ d0 (of_decide_eq_true k1) d4 d6 (of_decide_eq_true k2) (fun x hx => by rw [htb0] at hx; cases hx) ?_ ?_
    · intro w hw
      rcases Bool.or_eq_true_iff.mp (List.all_eq_true.mp k8 w hw) with h1 | h1
      · exact inG_use hK h1 args
      · exact xw_use (Bool.and_eq_true_iff.mp h1).2 (inX_nw hK h1)
    · intro w hw
      exact List.all_eq_true.mp k9 w hw
    · show 1 + 4 < R.frames
      omega
    · show 8 + (13 * (1 + 2) + 43) ≤ R.locals
      omega
  · cases hk
theorem snd_throw (C : CX v p l R s m meth c i n0) (hL : L.length = mxl i) {ci : Nat} (hk : ok_throw i pc ci = true) : SE v p l e R s m args below meth c n0 z0 Q pc L st h (o_throw ci st h) := by
  unfold ok_throw at hk
  split at hk
  · rename_i e
    subst e
    exact snd_throwN C hL hk
  · exact snd_throw0 C hL hk
theorem snd_fin (hi : okm i = true) (C : CX v p l R s m meth c i n0) (hL : L.length = mxl i) {r : AR} {h' : AH} (hs : stp i pc L st h = some (.inr (.inl (r, h')))) (hc : h'.2.1 ≤ n0 + R.cells) (hz : h'.2.2.1 ≤ z0 + R.slots) (hE : EO v s below n0 z0 Q r h') : WW v p l e R s m args below meth c n0 z0 Q pc L st h := by
  have C' := C
  obtain ⟨hx, hb, hml, hown, hret, hlocks, hnm, htb, hn0, hK, hlz, hfr, hlo, hl⟩ := C
  unfold stp at hs
  split at hs
  · rename_i ins len hcod
    have hk := okm_at hi hcod
    obtain ⟨hk1, hk2⟩ := Bool.and_eq_true_iff.mp hk
    unfold okl at hk1
    obtain ⟨hd, hk1⟩ := Bool.and_eq_true_iff.mp hk1
    have hd := of_decide_eq_true hd
    unfold stm at hs
    split at hs
    · have hk1 : len = 1 := by simpa using hk1
      subst hk1
      unfold okr at hk2
      simp only at hk2
      unfold rtb at hs
      split at hk2
      · rename_i hr
        rw [hr] at hs
        exact (e_ret hx hb (hret.trans hr) hlocks hd _ _ hs).2.2.2 hc hz hE
      · rename_i hr
        rw [hr] at hs
        exact (e_zret hx hb (hret.trans hr) hlocks hd _ _ hs).2.2.2 hc hz hE
      · cases hk2
    · have hk1 : len = 1 := by simpa using hk1
      subst hk1
      exact (e_lret hx hb (hret.trans (of_decide_eq_true hk2)) hlocks hd _ _ hs).2.2.2 hc hz hE
    · have hk1 : len = 1 := by simpa using hk1
      subst hk1
      unfold okr at hk2
      simp only at hk2
      split at hk2
      · rename_i n hr
        exact (e_aret hx hb (hret.trans hr) (Or.inl ⟨n, rfl⟩) hlocks hd _ _ hs).2.2.2 hc hz hE
      · rename_i n hr
        exact (e_aret hx hb (hret.trans hr) (Or.inr ⟨n, rfl⟩) hlocks hd _ _ hs).2.2.2 hc hz hE
      · cases hk2
    · have hk1 : len = 1 := by simpa using hk1
      subst hk1
      exact (e_vret hx hb (hret.trans (of_decide_eq_true hk2)) hlocks hd _ _ hs).2.2.2 hc hz hE
    · exact (wrp_nl hs).elim
  · rename_i op len hcod
    have hk : okx i pc op = true := okm_at hi hcod
    unfold stn at hs
    split at hs
    · exact (snd_throw C' hL hk _ _ hs).2.2.2 hc hz hE
    · unfold o_call at hs
      split at hs <;> cases hs
    · exact (wrp_nl hs).elim
  · cases hs
/-! calls -/
def cw (j : Nat) : Cond := .codeWith (nam j) (bts j) (mxl j) (rty j) (tbl j)
theorem okc_use (hK : KX v s) {j : Nat} (h : okc j = true) (a : Array Value) : (cw j).before a s = true := by
  rcases Bool.or_eq_true_iff.mp h with h | h
  · exact inG_use hK h a
  · obtain ⟨h1, h2⟩ := Bool.and_eq_true_iff.mp h
    have h3 := inG_use hK h2 a
    unfold cw
    rw [of_decide_eq_true h1]
    unfold Cond.before Cond.holds at h3 ⊢
    rw [← Cond.code_iff_codeWith_nil]
    exact h3
def rmJ (j : Nat) (h h' : AH) : Room := { frames := frs j, cells := h'.2.1 - h.2.1, slots := h'.2.2.1 - h.2.2.1, locals := lcs j }
def PJ (v : EV) (as : List AV) (h : AH) : Array Value → State → Prop := fun a U => a = (as.map cv).toArray ∧ KX v U ∧ LZ v U ∧ Rl v h U.heap ∧ U.heap.size = h.2.1
def QJ (v : EV) (r : AR) (h' : AH) : Array Value → State → Outcome → State → Prop := fun _ st o t => oc r o ∧ Rl v h' t.heap ∧ va_F (fun q => v.b0 ≤ q) st t
/-- a method's contract, by a run of the abstract machine -/
def MJ (l : Launch) (v : EV) (j : Nat) (as : List AV) (h : AH) (r : AR) (h' : AH) : Prop := MO l (nam j) (headSpec [cw j] (rmJ j h h')) (PJ v as h) (QJ v r h') (h'.2.1 - h.2.1) (h'.2.2.1 - h.2.2.1) (fun q => v.b0 ≤ q)
/-- the classes that a catch names, in the law's pool -/
def cmapL (t : Nat) : Nat := match t with
  | 13 => 10
  | 15 => 11
  | 44 => 12
  | _ => 99
def hok (i : Nat) : Bool := decide (hdl i = (tbl i).map (fun x => (x.1, x.2.1, x.2.2.1, cmapL x.2.2.2))) && (tbl i).all (fun x => decide ((nam i).cls = "FarStoreLaw") && (decide (x.2.2.2 = 13) || (decide (x.2.2.2 = 15) || decide (x.2.2.2 = 44))))
theorem hok_all : (List.range 141).all hok = true := by decide +kernel
def exn (t : Nat) : String := match t with
  | 13 => "java/lang/IllegalArgumentException"
  | 15 => "java/lang/IllegalStateException"
  | _ => "java/util/NoSuchElementException"
theorem x13 : inG (.classLink "FarStoreLaw" 13 "java/lang/IllegalArgumentException") = true := by decide +kernel
theorem x15 : inG (.classLink "FarStoreLaw" 15 "java/lang/IllegalStateException") = true := by decide +kernel
theorem x44 : inG (.classLink "FarStoreLaw" 44 "java/util/NoSuchElementException") = true := by decide +kernel
theorem c13 : inX (.castable "java/lang/IllegalArgumentException" "java/lang/IllegalArgumentException") = true := by decide +kernel
theorem c15 : inX (.castable "java/lang/IllegalStateException" "java/lang/IllegalStateException") = true := by decide +kernel
theorem c44 : inX (.castable "java/util/NoSuchElementException" "java/util/NoSuchElementException") = true := by decide +kernel
theorem ex_link (hK : KX v s) {t : Nat} (ht : t = 13 ∨ t = 15 ∨ t = 44) (a : Array Value) : (Cond.classLink "FarStoreLaw" t (exn t)).before a s = true := by
  rcases ht with rfl | rfl | rfl
  · exact inG_use hK x13 a
  · exact inG_use hK x15 a
  · exact inG_use hK x44 a
theorem ex_cast (hK : KX v s) {t : Nat} (ht : t = 13 ∨ t = 15 ∨ t = 44) (a : Array Value) : (Cond.castable (exn t) (exn t)).before a s = true := by
  rcases ht with rfl | rfl | rfl
  · exact va_Nw.use rfl (inX_nw hK c13)
  · exact va_Nw.use rfl (inX_nw hK c15)
  · exact va_Nw.use rfl (inX_nw hK c44)
theorem ex_cls {t : Nat} (ht : t = 13 ∨ t = 15 ∨ t = 44) : ∃ T0, classes[cmapL t]? = some (exn t, T0, 0) := by
  rcases ht with rfl | rfl | rfl
  · exact ⟨_, rfl⟩
  · exact ⟨_, rfl⟩
  · exact ⟨_, rfl⟩
theorem ex_nc (hK : KX v s) {t u : Nat} (ht : t = 13 ∨ t = 15 ∨ t = 44) (hu : u = 13 ∨ u = 15 ∨ u = 44) (hne : cmapL u ≠ cmapL t) : va_Nc (exn t) (exn u) s := by
  have h8 := hK.2.2.2.2.2.2.2
  rcases ht with rfl | rfl | rfl <;> rcases hu with rfl | rfl | rfl <;> first
    | exact absurd rfl hne
    | exact h8 (_, _) (by decide +kernel)
theorem snd_catch (h141 : i < 141) (C : CX v p l R s m meth c i n0) {ci a p' : Nat} {fs : List AV} {H : Heap} {locs : List Loc} {cells slots : Nat} {ls : Array Slot} {rest : List Value} (hh : hnd i pc ci = some (some p')) (hR : Rl v h H) (ha : h.1 a = some (.inr (ci, fs))) (kk : W p l e R s m args below meth c H locs cells slots Q (F0 m p' ls [.ref a])) : WT p l e R s m args below meth c H locs cells slots Q (F0 m pc ls rest) a := by
  obtain ⟨hx, hb, hml, hown, hret, hlocks, hnm, htb, hn0, hK, hlz, hfr, hlo, hl⟩ := C
  have hok1 := List.all_eq_true.mp hok_all i (List.mem_range.mpr h141)
  obtain ⟨k1, k2⟩ := Bool.and_eq_true_iff.mp hok1
  have k1 := of_decide_eq_true k1
  have hT : hdl i = c.exceptionTable.toList.map (fun h => (h.startPc, h.endPc, h.handlerPc, cmapL h.catchType)) := by
    rw [k1, ← htb, List.map_map]
    rfl
  have kt : ∀ x ∈ c.exceptionTable.toList, (nam i).cls = "FarStoreLaw" ∧ (x.catchType = 13 ∨ x.catchType = 15 ∨ x.catchType = 44) := by
    intro x hx
    have h1 : (x.startPc, x.endPc, x.handlerPc, x.catchType) ∈ tbl i := by
      rw [← htb]
      exact List.mem_map.mpr ⟨x, hx, rfl⟩
    obtain ⟨h2, h3⟩ := Bool.and_eq_true_iff.mp (List.all_eq_true.mp k2 _ h1)
    refine ⟨of_decide_eq_true h2, ?_⟩
    rcases Bool.or_eq_true_iff.mp h3 with h3 | h3
    · exact Or.inl (of_decide_eq_true h3)
    · rcases Bool.or_eq_true_iff.mp h3 with h3 | h3
      · exact Or.inr (Or.inl (of_decide_eq_true h3))
      · exact Or.inr (Or.inr (of_decide_eq_true h3))
  unfold hnd at hh
  split at hh
  · cases hh
  · split at hh
    · rename_i x hx
      cases hh
      rw [List.find?_filter, hT, List.find?_map] at hx
      obtain ⟨y, hy, rfl⟩ := Option.map_eq_some_iff.mp hx
      obtain ⟨hy1, pre, suf, hsplit, hpre⟩ := List.find?_eq_some_iff_append.mp hy
      simp only [Function.comp, Bool.and_eq_true, decide_eq_true_eq, beq_iff_eq] at hy1
      obtain ⟨⟨g1, g2⟩, g3⟩ := hy1
      have hym : y ∈ c.exceptionTable.toList := by rw [hsplit]; simp
      obtain ⟨n1, n2⟩ := kt y hym
      have hn0' : y.catchType ≠ 0 := by rcases n2 with q | q | q <;> omega
      obtain ⟨T0, hcl⟩ := ex_cls n2
      rw [g3] at hcl
      obtain ⟨ce, w1, w2, w3⟩ := r_recv hK.2.2.1 hR ha hcl
      obtain ⟨-, -, ce2, y1, y2, y3, -⟩ := hR.2.1 _ _ (ws_get ha (hR.obj ha).1 (hR.obj ha).2)
      have y1 : H[a]? = some ce2 := y1
      cases w1.symm.trans y1
      have hown' : s.vm.findClass "FarStoreLaw" = some m.cls := by rw [← n1]; exact hown
      refine vx_catch (own := "FarStoreLaw") (name := exn y.catchType) (E := exn y.catchType) (ce := ce) hown' pre y suf hsplit ?_ (by simp [covers, g1, g2]) hn0' (ex_link hK n2 args) (ex_cast hK n2 args) w1 y3 w3 kk
      intro z hz
      have hzm : z ∈ c.exceptionTable.toList := by rw [hsplit]; exact List.mem_append_left _ hz
      obtain ⟨-, m2⟩ := kt z hzm
      have hz0 : z.catchType ≠ 0 := by rcases m2 with q | q | q <;> omega
      cases hcv : covers z pc with
      | false => exact Or.inl rfl
      | true =>
        refine Or.inr ⟨hz0, exn z.catchType, ex_link hK m2 args, ex_nc hK n2 m2 ?_⟩
        intro hcm
        have hzp := hpre z hz
        have hcv' : z.startPc ≤ pc ∧ pc < z.endPc := by simpa [covers] using hcv
        simp [Function.comp, hcv'.1, hcv'.2, hcm, g3] at hzp
    · cases hh
theorem hnd_out (h141 : i < 141) (C : CX v p l R s m meth c i n0) {ci : Nat} (hh : hnd i pc ci = some none) : ∀ x ∈ c.exceptionTable.toList, covers x pc = false := by
  obtain ⟨hx, hb, hml, hown, hret, hlocks, hnm, htb, hn0, hK, hlz, hfr, hlo, hl⟩ := C
  have hok1 := List.all_eq_true.mp hok_all i (List.mem_range.mpr h141)
  obtain ⟨k1, k2⟩ := Bool.and_eq_true_iff.mp hok1
  have k1 := of_decide_eq_true k1
  have hT : hdl i = c.exceptionTable.toList.map (fun h => (h.startPc, h.endPc, h.handlerPc, cmapL h.catchType)) := by
    rw [k1, ← htb, List.map_map]
    rfl
  unfold hnd at hh
  split at hh
  · rename_i hf
    intro x hx
    have h1 := List.filter_eq_nil_iff.mp hf _ (by rw [hT]; exact List.mem_map.mpr ⟨x, hx, rfl⟩)
    simp only [Bool.and_eq_true, decide_eq_true_eq, not_and] at h1
    cases hcv : covers x pc with
    | false => rfl
    | true =>
      have hcv' : x.startPc ≤ pc ∧ pc < x.endPc := by simpa [covers] using hcv
      exact absurd hcv'.2 (h1 hcv'.1)
  · split at hh <;> cases hh
end Sound
