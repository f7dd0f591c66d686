section OkL
variable {p : Program} {l : Launch} {e : Env} {R : Room} {s : State} {m : MethodId} {args : Array Value} {below : List Frame} {meth : Method} {c : Code} {Q : State → Prop} {v : EV} {n0 z0 : Nat} {pc len : Nat} {L : AL} {st : List AV} {h : AH} {bs : ByteArray} {ins : Instr}
theorem snd_l (hx : p.tables.exec = Jvm.exec) (hb : c.code = bs) (hn0 : n0 = s.heap.size) (hK : va_K v.D classes (tysOf v) s) (hlo : Lo v s) (h_i : (Cond.arrayClass .int).before args s = true) (h_l : (Cond.arrayClass .long).before args s = true) (h_z : (Cond.arrayClass .boolean).before args s = true) (hsite : ∃ q, classes[ciSite]? = some q ∧ q.1 = nSite) (hcast : ∀ ci q, ci < 8 → classes[ci]? = some q → va_Nw (.castable q.1 "java/lang/Object") s) (hk : okl bs pc ins len = true) : SO v p l e R s m args below meth c n0 z0 Q pc L st h (stl ins pc len L st h) := by
  unfold okl at hk
  obtain ⟨hd, hk⟩ := Bool.and_eq_true_iff.mp hk
  have hd := of_decide_eq_true hd
  cases ins with
  | iconst n =>
    have hk : len = 1 := by simpa using hk
    subst hk
    exact s_iconst hx hb hd
  | lconst n =>
    have hk : len = 1 := by simpa using hk
    subst hk
    exact s_lconst hx hb hd
  | aconst_null =>
    have hk : len = 1 := by simpa using hk
    subst hk
    exact s_null hx hb hd
  | iload_n k =>
    have hk : len = 1 := by simpa using hk
    subst hk
    exact s_iload_n hx hb hd
  | lload_n k =>
    have hk : len = 1 := by simpa using hk
    subst hk
    exact s_lload_n hx hb hd
  | aload_n k =>
    have hk : len = 1 := by simpa using hk
    subst hk
    exact s_aload_n hx hb hd
  | istore_n k =>
    have hk : len = 1 := by simpa using hk
    subst hk
    exact s_istore_n hx hb hd
  | lstore_n k =>
    have hk : len = 1 := by simpa using hk
    subst hk
    exact s_lstore_n hx hb hd
  | astore_n k =>
    have hk : len = 1 := by simpa using hk
    subst hk
    exact s_astore_n hx hb hd
  | iadd =>
    have hk : len = 1 := by simpa using hk
    subst hk
    exact s_iadd hx hb hd
  | isub =>
    have hk : len = 1 := by simpa using hk
    subst hk
    exact s_isub hx hb hd
  | imul =>
    have hk : len = 1 := by simpa using hk
    subst hk
    exact s_imul hx hb hd
  | iand =>
    have hk : len = 1 := by simpa using hk
    subst hk
    exact s_iand hx hb hd
  | ishr =>
    have hk : len = 1 := by simpa using hk
    subst hk
    exact s_ishr hx hb hd
  | idiv =>
    have hk : len = 1 := by simpa using hk
    subst hk
    exact s_idiv hx hb hd
  | land =>
    have hk : len = 1 := by simpa using hk
    subst hk
    exact s_land hx hb hd
  | lor =>
    have hk : len = 1 := by simpa using hk
    subst hk
    exact s_lor hx hb hd
  | lshl =>
    have hk : len = 1 := by simpa using hk
    subst hk
    exact s_lshl hx hb hd
  | i2l =>
    have hk : len = 1 := by simpa using hk
    subst hk
    exact s_i2l hx hb hd
  | l2i =>
    have hk : len = 1 := by simpa using hk
    subst hk
    exact s_l2i hx hb hd
  | lcmp =>
    have hk : len = 1 := by simpa using hk
    subst hk
    exact s_lcmp hx hb hd
  | dup =>
    have hk : len = 1 := by simpa using hk
    subst hk
    exact s_dup hx hb hd
  | pop =>
    have hk : len = 1 := by simpa using hk
    subst hk
    exact s_pop hx hb hd
  | dup_x1 =>
    have hk : len = 1 := by simpa using hk
    subst hk
    exact s_dup_x1 hx hb hd
  | dup2 =>
    have hk : len = 1 := by simpa using hk
    subst hk
    exact s_dup2 hx hb hd
  | arraylength =>
    have hk : len = 1 := by simpa using hk
    subst hk
    exact s_alen hx hb hK hlo hd
  | iaload =>
    have hk : len = 1 := by simpa using hk
    subst hk
    exact s_iald hx hb hK hlo hd
  | baload =>
    have hk : len = 1 := by simpa using hk
    subst hk
    exact s_bald hx hb hK hd
  | laload =>
    have hk : len = 1 := by simpa using hk
    subst hk
    exact s_lald hx hb hK hd
  | aaload =>
    have hk : len = 1 := by simpa using hk
    subst hk
    exact s_aald hx hb hK hd
  | iastore =>
    have hk : len = 1 := by simpa using hk
    subst hk
    exact s_iast hx hb hK hd
  | bastore =>
    have hk : len = 1 := by simpa using hk
    subst hk
    exact s_bast hx hb hK hd
  | lastore =>
    have hk : len = 1 := by simpa using hk
    subst hk
    exact s_last hx hb hK hd
  | aastore =>
    have hk : len = 1 := by simpa using hk
    subst hk
    exact s_aast hx hb hK hsite hcast hd
  | iload k =>
    have hk : len = 2 := by simpa using hk
    subst hk
    exact s_iload hx hb hd
  | lload k =>
    have hk : len = 2 := by simpa using hk
    subst hk
    exact s_lload hx hb hd
  | aload k =>
    have hk : len = 2 := by simpa using hk
    subst hk
    exact s_aload hx hb hd
  | istore k =>
    have hk : len = 2 := by simpa using hk
    subst hk
    exact s_istore hx hb hd
  | lstore k =>
    have hk : len = 2 := by simpa using hk
    subst hk
    exact s_lstore hx hb hd
  | astore k =>
    have hk : len = 2 := by simpa using hk
    subst hk
    exact s_astore hx hb hd
  | newarray t =>
    have hk : len = 2 := by simpa using hk
    subst hk
    exact s_newa hx hb hn0 hK hlo h_i h_l h_z hd
  | iinc k n =>
    have hk : len = 3 := by simpa using hk
    subst hk
    exact s_iinc hx hb hd
  | bipush n =>
    obtain ⟨h1, h2⟩ := Bool.and_eq_true_iff.mp hk
    have h2 := eq_of_beq h2
    subst h2
    exact s_bipush hx hb hd (of_decide_eq_true h1)
  | sipush n =>
    obtain ⟨h1, h2⟩ := Bool.and_eq_true_iff.mp hk
    have h2 := eq_of_beq h2
    subst h2
    exact s_sipush hx hb hd (of_decide_eq_true h1)
  | ifCond cnd off =>
    obtain ⟨h1, h2⟩ := Bool.and_eq_true_iff.mp hk
    have h2 := eq_of_beq h2
    subst h2
    exact s_if hx hb hd (of_decide_eq_true h1)
  | if_icmp cnd off =>
    obtain ⟨h1, h2⟩ := Bool.and_eq_true_iff.mp hk
    have h2 := eq_of_beq h2
    subst h2
    exact s_icmp hx hb hd (of_decide_eq_true h1)
  | if_acmp cnd off =>
    obtain ⟨h1, h2⟩ := Bool.and_eq_true_iff.mp hk
    have h2 := eq_of_beq h2
    subst h2
    exact s_acmp hx hb hd (of_decide_eq_true h1)
  | ifnull off =>
    obtain ⟨h1, h2⟩ := Bool.and_eq_true_iff.mp hk
    have h2 := eq_of_beq h2
    subst h2
    exact s_ifnull hx hb hd (of_decide_eq_true h1)
  | ifnonnull off =>
    obtain ⟨h1, h2⟩ := Bool.and_eq_true_iff.mp hk
    have h2 := eq_of_beq h2
    subst h2
    exact s_ifnonnull hx hb hd (of_decide_eq_true h1)
  | goto off =>
    obtain ⟨h1, h2⟩ := Bool.and_eq_true_iff.mp hk
    have h2 := eq_of_beq h2
    subst h2
    exact s_goto hx hb hd (of_decide_eq_true h1)
  | tableswitch d lo hi offs =>
    obtain ⟨h1, h2⟩ := Bool.and_eq_true_iff.mp hk
    exact s_tab hx hb hd (of_decide_eq_true h1) (fun o ho => of_decide_eq_true (List.all_eq_true.mp h2 o ho))
  | _ => exact so_none
end OkL
theorem inG_use {v : EV} {s : State} (hK : KX v s) {w : Cond} (h : inG w = true) (a : Array Value) : w.before a s = true := by
  obtain ⟨h1, h2⟩ := Bool.and_eq_true_iff.mp h
  exact hK.1 w (of_decide_eq_true h1) h2 a
theorem inX_nw {v : EV} {s : State} (hK : KX v s) {w : Cond} (h : inX w = true) : va_Nw w s := by
  obtain ⟨h1, h2⟩ := Bool.and_eq_true_iff.mp h
  exact hK.2.1 w (of_decide_eq_true h1) h2
theorem okf_spec {v : EV} {s : State} (hK : KX v s) {own : String} {idx k : Nat} {q : vw_C} (h : okf own idx q k = true) : k < q.2.2 ∧ ∃ ref, (∀ a, (Cond.fieldLink own idx ref (q.2.1 k).2.1 (q.2.1 k).2.2.1).before a s = true) ∧ ∀ x, s.fieldFound? (q.2.1 k).1 (q.2.1 k).2.1 (q.2.1 k).2.2.1 = some x → s.fieldFound? ref (q.2.1 k).2.1 (q.2.1 k).2.2.1 = some x := by
  obtain ⟨h1, h2⟩ := Bool.and_eq_true_iff.mp h
  refine ⟨of_decide_eq_true h1, ?_⟩
  rcases Bool.or_eq_true_iff.mp h2 with h3 | h3
  · exact ⟨_, fun a => inG_use hK h3 a, fun x hx => hx⟩
  · obtain ⟨h4, h5⟩ := Bool.and_eq_true_iff.mp h3
    exact ⟨_, fun a => inG_use hK h4 a, fun x hx => u_same (inG_use hK h5 #[]) x hx⟩
theorem cls_df : ∀ (ci : Nat) (q : vw_C), classes[ci]? = some q → ∀ j, j < q.2.2 → defaultValue (tyF ci j) = vp_V ((dfl ci).map cv) j := by
  intro ci q hq
  match ci, hq with
  | 0, hq => cases hq; decide +kernel
  | 1, hq => cases hq; decide +kernel
  | 2, hq => cases hq; decide +kernel
  | 3, hq => cases hq; decide +kernel
  | 4, hq => cases hq; decide +kernel
  | 5, hq => cases hq; decide +kernel
  | 6, hq => cases hq; decide +kernel
  | 7, hq => cases hq; decide +kernel
  | 8, hq => cases hq; decide +kernel
  | 9, hq => cases hq; decide +kernel
  | 10, hq => cases hq; decide +kernel
  | 11, hq => cases hq; decide +kernel
  | 12, hq => cases hq; decide +kernel
  | k + 13, hq => simp [classes] at hq
