/-! THE ABSTRACT MACHINE IS RIGHT: instructions, by the static check -/
def CX (v : EV) (p : Program) (l : Launch) (R : Room) (s : State) (m : MethodId) (meth : Method) (c : Code) (i n0 : Nat) : Prop :=
  p.tables.exec = Jvm.exec ∧ c.code = bts i ∧ c.maxLocals = mxl i ∧ s.vm.findClass (nam i).cls = some m.cls ∧ meth.sig.returnType = rty i ∧ meth.locks = false ∧ meth.name = (nam i).name ∧ c.exceptionTable.toList.map (fun h => (h.startPc, h.endPc, h.handlerPc, h.catchType)) = tbl i ∧ n0 = s.heap.size ∧ KX v s ∧ LZ v s ∧ frs i ≤ R.frames ∧ lcs i ≤ R.locals ∧ l.stackTraces = false
theorem good_lay {C : String} {T : u_T} {k : Nat} : goodWord (u_lay C T k) = true := by
  unfold u_lay
  split <;> rfl
theorem fld_words {v : EV} {s : State} (hK : KX v s) {ci : Nat} {q : vw_C} (hq : classes[ci]? = some q) (a : Array Value) : ∀ w ∈ u_ws q.1 q.2.1 q.2.2, w.before a s = true := fun w hw => by
  obtain ⟨k, -, rfl⟩ := List.mem_map.mp hw
  exact hK.1 _ (cls_in ci q hq _ hw) good_lay a
theorem cast_words {v : EV} {s : State} (hK : KX v s) : ∀ (ci : Nat) (q : vw_C), ci < 8 → classes[ci]? = some q → va_Nw (.castable q.1 "java/lang/Object") s := fun ci q h8 hq => inX_nw hK (cls_ca ci q h8 hq)
theorem site_word : ∃ q : vw_C, classes[ciSite]? = some q ∧ q.1 = nSite := ⟨_, rfl, rfl⟩
theorem g_ai : inG (.arrayClass .int) = true := by decide +kernel
theorem g_al : inG (.arrayClass .long) = true := by decide +kernel
theorem g_az : inG (.arrayClass .boolean) = true := by decide +kernel
section Asm
variable {p : Program} {l : Launch} {e : Env} {R : Room} {s : State} {m : MethodId} {args : Array Value} {below : List Frame} {meth : Method} {c : Code} {Q : State → Prop} {v : EV} {i n0 z0 : Nat} {pc len : Nat} {L : AL} {st : List AV} {h : AH}
theorem snd_x (C : CX v p l R s m meth c i n0) (hL : L.length = mxl i) (hcr : ∀ cells, h.2.1 = n0 + cells → cells ≤ R.cells) (hsr : ∀ slots, h.2.2.1 = z0 + slots → slots ≤ R.slots) {op : Nat × Nat × Nat × Nat × Nat} (hk : okx i pc op = true) : SO v p l e R s m args below meth c n0 z0 Q pc L st h (stx op pc L st h) := by
  obtain ⟨hx, hb, hml, hown, hret, hlocks, hnm, htb, hn0, hK, hlz, hfr, hlo, hl⟩ := C
  have hKK := hK.2.2.1
  have hml' : c.maxLocals = L.length := hml.trans hL.symm
  unfold okx at hk
  split at hk
  · rename_i ci k _ _
    unfold ok_get at hk
    split at hk
    · rename_i idx q hd hq
      obtain ⟨hk0, ref, hl1, hs1⟩ := okf_spec hK hk
      exact s_get hx hb (fld_words hK hq args) (fun w hw => hw) hown hKK hq hk0 (hl1 args) hs1 hd
    · cases hk
  · rename_i ci k kind _
    unfold ok_put at hk
    split at hk
    · rename_i idx q hd hq
      obtain ⟨hk12, hk3⟩ := Bool.and_eq_true_iff.mp hk
      obtain ⟨hk1, hk2⟩ := Bool.and_eq_true_iff.mp hk12
      have hk2 := of_decide_eq_true hk2
      subst hk2
      obtain ⟨hk0, ref, hl1, hs1⟩ := okf_spec hK hk1
      rcases Bool.or_eq_true_iff.mp hk3 with hf | hf
      · exact s_put hx hb (fld_words hK hq args) (fun w hw => hw) (tyF ci) (cls_ty ci q hq) (cls_nm ci q hq) hown hKK hq hk0 (hl1 args) hs1 (eq_of_beq hf) hd
      · obtain ⟨f1, f2⟩ := Bool.and_eq_true_iff.mp hf
        have f3 : (q.2.1 k).2.2.2 = true ∨ (q.2.1 k).2.2.2 = false := by cases (q.2.1 k).2.2.2 <;> simp
        rcases f3 with f3 | f3
        · exact s_putF hx hb (fld_words hK hq args) (fun w hw => hw) (tyF ci) (cls_ty ci q hq) (cls_nm ci q hq) hown hKK hq hk0 (hl1 args) hs1 f3 (hnm.trans (of_decide_eq_true f1)) (of_decide_eq_true f2) hd
        · exact s_put hx hb (fld_words hK hq args) (fun w hw => hw) (tyF ci) (cls_ty ci q hq) (cls_nm ci q hq) hown hKK hq hk0 (hl1 args) hs1 f3 hd
    · cases hk
  · rename_i ci N _ _
    unfold ok_new at hk
    split at hk
    · rename_i idx q hd hq
      obtain ⟨k1, hk⟩ := Bool.and_eq_true_iff.mp hk
      obtain ⟨k2, hk⟩ := Bool.and_eq_true_iff.mp hk
      obtain ⟨k3, k4⟩ := Bool.and_eq_true_iff.mp hk
      have k1 := of_decide_eq_true k1
      subst k1
      exact s_new hx hb hn0 hlz.1 (fld_words hK hq args) (fun w hw => hw) (tyF ci) (cls_ty ci q hq) hown (inG_use hK k2 args) (inG_use hK k3 args) (inG_use hK k4 args) hKK hq (cls_df ci q hq) hd
    · cases hk
  · rename_i t _ _ _
    unfold ok_anew at hk
    split at hk
    · rename_i idx hd
      rcases Bool.or_eq_true_iff.mp hk with hk | hk
      · obtain ⟨k1, k2⟩ := Bool.and_eq_true_iff.mp hk
        have k1 := of_decide_eq_true k1
        subst k1
        exact s_anew hx hb hn0 hlz.1 hown (inG_use hK k2 args) hK.2.2.2.1 hKK (by decide) rfl hd
      · obtain ⟨k1, k2⟩ := Bool.and_eq_true_iff.mp hk
        have k1 := of_decide_eq_true k1
        subst k1
        exact s_anew hx hb hn0 hlz.1 hown (inG_use hK k2 args) hK.2.2.2.2.1 hKK (by decide) rfl hd
    · cases hk
  · rename_i ci _ _ _
    unfold ok_cast at hk
    split at hk
    · rename_i idx q hd hq
      exact s_cast hx hb hown hKK hq (inG_use hK hk args) hd
    · cases hk
  · rename_i t _ _ _
    unfold ok_castA at hk
    split at hk
    · rename_i idx hd
      rcases Bool.or_eq_true_iff.mp hk with hk | hk
      · obtain ⟨k1, k2⟩ := Bool.and_eq_true_iff.mp hk
        have k1 := of_decide_eq_true k1
        subst k1
        exact s_castA hx hb hown (inG_use hK k2 args) (va_nm_int (hKK.2 0 _ rfl).2) (by decide) hd
      · obtain ⟨k1, k2⟩ := Bool.and_eq_true_iff.mp hk
        have k1 := of_decide_eq_true k1
        subst k1
        exact s_castA hx hb hown (inG_use hK k2 args) (va_nmO (hKK.2 4 _ rfl).2 (by decide +kernel)) (by decide) hd
    · cases hk
  · unfold ok_gets at hk
    split at hk
    · rename_i idx hd
      exact s_gets hx hb hlz.1 hown (inG_use hK hk args) hd
    · cases hk
  · unfold ok_oinit at hk
    split at hk
    · rename_i idx hd
      obtain ⟨k1, hk⟩ := Bool.and_eq_true_iff.mp hk
      obtain ⟨k2, hk⟩ := Bool.and_eq_true_iff.mp hk
      obtain ⟨k3, hk⟩ := Bool.and_eq_true_iff.mp hk
      obtain ⟨k4, k5⟩ := Bool.and_eq_true_iff.mp hk
      exact s_oinit hx hb hml' (Nat.le_trans (of_decide_eq_true k4) hfr) (Nat.le_trans (of_decide_eq_true k5) hlo) hown (inG_use hK k1 args) (inG_use hK k2 args) (inG_use hK k3 args) hd
    · cases hk
  · unfold ok_copy at hk
    split at hk
    · rename_i idx hd
      obtain ⟨k1, hk⟩ := Bool.and_eq_true_iff.mp hk
      obtain ⟨k2, hk⟩ := Bool.and_eq_true_iff.mp hk
      obtain ⟨k3, hk⟩ := Bool.and_eq_true_iff.mp hk
      obtain ⟨k4, hk⟩ := Bool.and_eq_true_iff.mp hk
      obtain ⟨k5, k6⟩ := Bool.and_eq_true_iff.mp hk
      exact s_copyI hx hb hml' (Nat.le_trans (of_decide_eq_true k5) hfr) (Nat.le_trans (of_decide_eq_true k6) hlo) hown (inG_use hK k1 args) (inG_use hK k2 args) (inG_use hK k3 args) (inG_use hK k4 args) hKK hd
    · cases hk
  · unfold ok_copy at hk
    split at hk
    · rename_i idx hd
      obtain ⟨k1, hk⟩ := Bool.and_eq_true_iff.mp hk
      obtain ⟨k2, hk⟩ := Bool.and_eq_true_iff.mp hk
      obtain ⟨k3, hk⟩ := Bool.and_eq_true_iff.mp hk
      obtain ⟨k4, hk⟩ := Bool.and_eq_true_iff.mp hk
      obtain ⟨k5, k6⟩ := Bool.and_eq_true_iff.mp hk
      exact s_copyQ hx hb hml' (Nat.le_trans (of_decide_eq_true k5) hfr) (Nat.le_trans (of_decide_eq_true k6) hlo) hown (inG_use hK k1 args) (inG_use hK k2 args) (inG_use hK k3 args) (inG_use hK k4 args) hKK (fun ci hci => by
        match ci, hci with
        | 0, _ => exact ⟨_, rfl⟩
        | 1, _ => exact ⟨_, rfl⟩
        | 2, _ => exact ⟨_, rfl⟩
        | 3, _ => exact ⟨_, rfl⟩
        | 4, _ => exact ⟨_, rfl⟩
        | 5, _ => exact ⟨_, rfl⟩
        | 6, _ => exact ⟨_, rfl⟩
        | 7, _ => exact ⟨_, rfl⟩) (cast_words hK) hd
    · cases hk
  · unfold ok_clone at hk
    split at hk
    · rename_i idx hd
      obtain ⟨k1, hk⟩ := Bool.and_eq_true_iff.mp hk
      obtain ⟨k2, hk⟩ := Bool.and_eq_true_iff.mp hk
      obtain ⟨k3, hk⟩ := Bool.and_eq_true_iff.mp hk
      obtain ⟨k4, hk⟩ := Bool.and_eq_true_iff.mp hk
      obtain ⟨k5, hk⟩ := Bool.and_eq_true_iff.mp hk
      obtain ⟨k6, hk⟩ := Bool.and_eq_true_iff.mp hk
      obtain ⟨k7, k8⟩ := Bool.and_eq_true_iff.mp hk
      exact s_clone hx hb hn0 hlz.1 hml' (Nat.le_trans (of_decide_eq_true k7) hfr) (Nat.le_trans (of_decide_eq_true k8) hlo) hown (inG_use hK k1 args) (inG_use hK k2 args) (inG_use hK k3 args) (inG_use hK k4 args) (inG_use hK k5 args) (inX_nw hK k6) hKK hd
    · cases hk
  · unfold ok_mm at hk
    split at hk
    · rename_i idx hd
      obtain ⟨k1, hk⟩ := Bool.and_eq_true_iff.mp hk
      obtain ⟨k2, hk⟩ := Bool.and_eq_true_iff.mp hk
      obtain ⟨k3, hk⟩ := Bool.and_eq_true_iff.mp hk
      obtain ⟨k4, hk⟩ := Bool.and_eq_true_iff.mp hk
      obtain ⟨k5, k6⟩ := Bool.and_eq_true_iff.mp hk
      exact s_mx hx hb hml' (Nat.le_trans (of_decide_eq_true k5) hfr) (Nat.le_trans (of_decide_eq_true k6) hlo) hown (inG_use hK k1 args) (inG_use hK k2 args) (inG_use hK k3 args) (inG_use hK k4 args) hcr hsr hd
    · cases hk
  · unfold ok_mm at hk
    split at hk
    · rename_i idx hd
      obtain ⟨k1, hk⟩ := Bool.and_eq_true_iff.mp hk
      obtain ⟨k2, hk⟩ := Bool.and_eq_true_iff.mp hk
      obtain ⟨k3, hk⟩ := Bool.and_eq_true_iff.mp hk
      obtain ⟨k4, hk⟩ := Bool.and_eq_true_iff.mp hk
      obtain ⟨k5, k6⟩ := Bool.and_eq_true_iff.mp hk
      exact s_mn hx hb hml' (Nat.le_trans (of_decide_eq_true k5) hfr) (Nat.le_trans (of_decide_eq_true k6) hlo) hown (inG_use hK k1 args) (inG_use hK k2 args) (inG_use hK k3 args) (inG_use hK k4 args) hcr hsr hd
    · cases hk
  · unfold ok_getC at hk
    split at hk
    · rename_i idx hd
      obtain ⟨k1, hk⟩ := Bool.and_eq_true_iff.mp hk
      obtain ⟨k2, hk⟩ := Bool.and_eq_true_iff.mp hk
      obtain ⟨k3, hk⟩ := Bool.and_eq_true_iff.mp hk
      obtain ⟨k4, hk⟩ := Bool.and_eq_true_iff.mp hk
      obtain ⟨k5, hk⟩ := Bool.and_eq_true_iff.mp hk
      obtain ⟨k6, k7⟩ := Bool.and_eq_true_iff.mp hk
      exact s_getC hx hb hml' (Nat.le_trans (of_decide_eq_true k6) hfr) (Nat.le_trans (of_decide_eq_true k7) hlo) hown (inG_use hK k1 args) (inX_nw hK k2) (inG_use hK k3 args) (inG_use hK k4 args) (inG_use hK k5 args) hK.2.2.2.2.2.1 hKK hd
    · cases hk
  · unfold ok_ldcM at hk
    split at hk
    · rename_i idx hd
      exact s_ldcM hx hb hown (inG_use hK hk args) hK.2.2.2.2.2.1 hd
    · cases hk
  · rename_i x _ _ _
    unfold ok_ldcI at hk
    split at hk
    · rename_i idx hd
      exact s_ldcI hx hb hown (inG_use hK hk args) hd
    · cases hk
  · rename_i x g _ _
    unfold ok_ldc2 at hk
    split at hk
    · rename_i idx hd
      exact s_ldc2 hx hb hown (inG_use hK hk args) hd
    · cases hk
  · exact so_none
  · exact so_none
  · cases hk
end Asm
