/-! no instruction takes cells away; the locals keep their number -/
section MonoOps
variable {L : AL} {st : List AV} {h : AH}
def Mn (L : AL) (h : AH) (act : Nx) : Prop := ∀ pc' L' st' h', act = some (pc', L', st', h') → L'.length = L.length ∧ h.2.1 ≤ h'.2.1 ∧ h.2.2.1 ≤ h'.2.2.1 ∧ h'.2.2.2 = h.2.2.2
theorem mn_none : Mn L h none := by intro a b c d q; cases q
theorem mn_nx {pc' : Nat} {L' : AL} {st' : List AV} (hl : L'.length = L.length) : Mn L h (nx pc' L' st' h) := by
  intro a b c d q; cases q; exact ⟨hl, Nat.le_refl _, Nat.le_refl _, rfl⟩
theorem mn_put {pc' : Nat} {st' : List AV} {a : Nat} {x : AE} : Mn L h (nx pc' L st' (hput h a x)) := by
  intro a b c d q; cases q; exact ⟨rfl, Nat.le_refl _, Nat.le_refl _, rfl⟩
theorem mn_new {pc' k : Nat} {st' : List AV} {x : AE} : Mn L h (nx pc' L st' (hnew h x k)) := by
  intro a b c d q; cases q; exact ⟨rfl, Nat.le_succ _, Nat.le_add_right _ _, rfl⟩
theorem mn_sto {L' : AL} {k pc' : Nat} {w : AV} {st' : List AV} (hs : sto L k w = some L') : Mn L h (nx pc' L' st' h) := mn_nx (by rw [(sto_spec hs).2.1, List.length_set])
theorem mn_stoL {L' : AL} {k pc' : Nat} {w : AV} {st' : List AV} (hs : stoL L k w = some L') : Mn L h (nx pc' L' st' h) := mn_nx (by rw [(stoL_spec hs).2.1, List.length_set, List.length_set])
theorem m_ldI {k : Nat} {pc : Nat} : Mn L h (o_ldI k pc L st h) := by
  unfold o_ldI
  repeat' split
  all_goals first
    | exact mn_none
    | exact mn_nx rfl
    | exact mn_put
    | exact mn_new
    | exact mn_sto (by assumption)
    | exact mn_stoL (by assumption)
theorem m_ldL {k : Nat} {pc : Nat} : Mn L h (o_ldL k pc L st h) := by
  unfold o_ldL
  repeat' split
  all_goals first
    | exact mn_none
    | exact mn_nx rfl
    | exact mn_put
    | exact mn_new
    | exact mn_sto (by assumption)
    | exact mn_stoL (by assumption)
theorem m_ldA {k : Nat} {pc : Nat} : Mn L h (o_ldA k pc L st h) := by
  unfold o_ldA
  repeat' split
  all_goals first
    | exact mn_none
    | exact mn_nx rfl
    | exact mn_put
    | exact mn_new
    | exact mn_sto (by assumption)
    | exact mn_stoL (by assumption)
theorem m_stI {k : Nat} {pc : Nat} : Mn L h (o_stI k pc L st h) := by
  unfold o_stI
  repeat' split
  all_goals first
    | exact mn_none
    | exact mn_nx rfl
    | exact mn_put
    | exact mn_new
    | exact mn_sto (by assumption)
    | exact mn_stoL (by assumption)
theorem m_stL {k : Nat} {pc : Nat} : Mn L h (o_stL k pc L st h) := by
  unfold o_stL
  repeat' split
  all_goals first
    | exact mn_none
    | exact mn_nx rfl
    | exact mn_put
    | exact mn_new
    | exact mn_sto (by assumption)
    | exact mn_stoL (by assumption)
theorem m_stA {k : Nat} {pc : Nat} : Mn L h (o_stA k pc L st h) := by
  unfold o_stA
  repeat' split
  all_goals first
    | exact mn_none
    | exact mn_nx rfl
    | exact mn_put
    | exact mn_new
    | exact mn_sto (by assumption)
    | exact mn_stoL (by assumption)
theorem m_inc {k : Nat} {n : Int} {pc : Nat} : Mn L h (o_inc k n pc L st h) := by
  unfold o_inc
  repeat' split
  all_goals first
    | exact mn_none
    | exact mn_nx rfl
    | exact mn_put
    | exact mn_new
    | exact mn_sto (by assumption)
    | exact mn_stoL (by assumption)
theorem m_bin {f : Int → Int → Int} {pc : Nat} : Mn L h (o_bin f pc L st h) := by
  unfold o_bin
  repeat' split
  all_goals first
    | exact mn_none
    | exact mn_nx rfl
    | exact mn_put
    | exact mn_new
    | exact mn_sto (by assumption)
    | exact mn_stoL (by assumption)
theorem m_div {pc : Nat} : Mn L h (o_div pc L st h) := by
  unfold o_div
  repeat' split
  all_goals first
    | exact mn_none
    | exact mn_nx rfl
    | exact mn_put
    | exact mn_new
    | exact mn_sto (by assumption)
    | exact mn_stoL (by assumption)
theorem m_binL {f : Int → Int → Int} {pc : Nat} : Mn L h (o_binL f pc L st h) := by
  unfold o_binL
  repeat' split
  all_goals first
    | exact mn_none
    | exact mn_nx rfl
    | exact mn_put
    | exact mn_new
    | exact mn_sto (by assumption)
    | exact mn_stoL (by assumption)
theorem m_lshl {pc : Nat} : Mn L h (o_lshl pc L st h) := by
  unfold o_lshl
  repeat' split
  all_goals first
    | exact mn_none
    | exact mn_nx rfl
    | exact mn_put
    | exact mn_new
    | exact mn_sto (by assumption)
    | exact mn_stoL (by assumption)
theorem m_i2l {pc : Nat} : Mn L h (o_i2l pc L st h) := by
  unfold o_i2l
  repeat' split
  all_goals first
    | exact mn_none
    | exact mn_nx rfl
    | exact mn_put
    | exact mn_new
    | exact mn_sto (by assumption)
    | exact mn_stoL (by assumption)
theorem m_l2i {pc : Nat} : Mn L h (o_l2i pc L st h) := by
  unfold o_l2i
  repeat' split
  all_goals first
    | exact mn_none
    | exact mn_nx rfl
    | exact mn_put
    | exact mn_new
    | exact mn_sto (by assumption)
    | exact mn_stoL (by assumption)
theorem m_lcmp {pc : Nat} : Mn L h (o_lcmp pc L st h) := by
  unfold o_lcmp
  repeat' split
  all_goals first
    | exact mn_none
    | exact mn_nx rfl
    | exact mn_put
    | exact mn_new
    | exact mn_sto (by assumption)
    | exact mn_stoL (by assumption)
theorem m_dup {pc : Nat} : Mn L h (o_dup pc L st h) := by
  unfold o_dup
  repeat' split
  all_goals first
    | exact mn_none
    | exact mn_nx rfl
    | exact mn_put
    | exact mn_new
    | exact mn_sto (by assumption)
    | exact mn_stoL (by assumption)
theorem m_pop {pc : Nat} : Mn L h (o_pop pc L st h) := by
  unfold o_pop
  repeat' split
  all_goals first
    | exact mn_none
    | exact mn_nx rfl
    | exact mn_put
    | exact mn_new
    | exact mn_sto (by assumption)
    | exact mn_stoL (by assumption)
theorem m_dupx1 {pc : Nat} : Mn L h (o_dupx1 pc L st h) := by
  unfold o_dupx1
  repeat' split
  all_goals first
    | exact mn_none
    | exact mn_nx rfl
    | exact mn_put
    | exact mn_new
    | exact mn_sto (by assumption)
    | exact mn_stoL (by assumption)
theorem m_dup2 {pc : Nat} : Mn L h (o_dup2 pc L st h) := by
  unfold o_dup2
  repeat' split
  all_goals first
    | exact mn_none
    | exact mn_nx rfl
    | exact mn_put
    | exact mn_new
    | exact mn_sto (by assumption)
    | exact mn_stoL (by assumption)
theorem m_if {c : ClassFile.Cond} {t : Nat} {pc : Nat} : Mn L h (o_if c t pc L st h) := by
  unfold o_if
  repeat' split
  all_goals first
    | exact mn_none
    | exact mn_nx rfl
    | exact mn_put
    | exact mn_new
    | exact mn_sto (by assumption)
    | exact mn_stoL (by assumption)
theorem m_icmp {c : ClassFile.Cond} {t : Nat} {pc : Nat} : Mn L h (o_icmp c t pc L st h) := by
  unfold o_icmp
  repeat' split
  all_goals first
    | exact mn_none
    | exact mn_nx rfl
    | exact mn_put
    | exact mn_new
    | exact mn_sto (by assumption)
    | exact mn_stoL (by assumption)
theorem m_acmp {c : ACond} {t : Nat} {pc : Nat} : Mn L h (o_acmp c t pc L st h) := by
  unfold o_acmp
  repeat' split
  all_goals first
    | exact mn_none
    | exact mn_nx rfl
    | exact mn_put
    | exact mn_new
    | exact mn_sto (by assumption)
    | exact mn_stoL (by assumption)
theorem m_null {b : Bool} {t : Nat} {pc : Nat} : Mn L h (o_null b t pc L st h) := by
  unfold o_null
  repeat' split
  all_goals first
    | exact mn_none
    | exact mn_nx rfl
    | exact mn_put
    | exact mn_new
    | exact mn_sto (by assumption)
    | exact mn_stoL (by assumption)
theorem m_tab {d : Int} {lo : Int} {hi : Int} {offs : Array Int} {pc : Nat} : Mn L h (o_tab d lo hi offs pc L st h) := by
  unfold o_tab
  repeat' split
  all_goals first
    | exact mn_none
    | exact mn_nx rfl
    | exact mn_put
    | exact mn_new
    | exact mn_sto (by assumption)
    | exact mn_stoL (by assumption)
theorem m_alen {pc : Nat} : Mn L h (o_alen pc L st h) := by
  unfold o_alen
  repeat' split
  all_goals first
    | exact mn_none
    | exact mn_nx rfl
    | exact mn_put
    | exact mn_new
    | exact mn_sto (by assumption)
    | exact mn_stoL (by assumption)
theorem m_iald {pc : Nat} : Mn L h (o_iald pc L st h) := by
  unfold o_iald
  repeat' split
  all_goals first
    | exact mn_none
    | exact mn_nx rfl
    | exact mn_put
    | exact mn_new
    | exact mn_sto (by assumption)
    | exact mn_stoL (by assumption)
theorem m_bald {pc : Nat} : Mn L h (o_bald pc L st h) := by
  unfold o_bald
  repeat' split
  all_goals first
    | exact mn_none
    | exact mn_nx rfl
    | exact mn_put
    | exact mn_new
    | exact mn_sto (by assumption)
    | exact mn_stoL (by assumption)
theorem m_lald {pc : Nat} : Mn L h (o_lald pc L st h) := by
  unfold o_lald
  repeat' split
  all_goals first
    | exact mn_none
    | exact mn_nx rfl
    | exact mn_put
    | exact mn_new
    | exact mn_sto (by assumption)
    | exact mn_stoL (by assumption)
theorem m_aald {pc : Nat} : Mn L h (o_aald pc L st h) := by
  unfold o_aald
  repeat' split
  all_goals first
    | exact mn_none
    | exact mn_nx rfl
    | exact mn_put
    | exact mn_new
    | exact mn_sto (by assumption)
    | exact mn_stoL (by assumption)
theorem m_iast {pc : Nat} : Mn L h (o_iast pc L st h) := by
  unfold o_iast
  repeat' split
  all_goals first
    | exact mn_none
    | exact mn_nx rfl
    | exact mn_put
    | exact mn_new
    | exact mn_sto (by assumption)
    | exact mn_stoL (by assumption)
theorem m_bast {pc : Nat} : Mn L h (o_bast pc L st h) := by
  unfold o_bast
  repeat' split
  all_goals first
    | exact mn_none
    | exact mn_nx rfl
    | exact mn_put
    | exact mn_new
    | exact mn_sto (by assumption)
    | exact mn_stoL (by assumption)
theorem m_last {pc : Nat} : Mn L h (o_last pc L st h) := by
  unfold o_last
  repeat' split
  all_goals first
    | exact mn_none
    | exact mn_nx rfl
    | exact mn_put
    | exact mn_new
    | exact mn_sto (by assumption)
    | exact mn_stoL (by assumption)
theorem m_aast {pc : Nat} : Mn L h (o_aast pc L st h) := by
  unfold o_aast
  repeat' split
  all_goals first
    | exact mn_none
    | exact mn_nx rfl
    | exact mn_put
    | exact mn_new
    | exact mn_sto (by assumption)
    | exact mn_stoL (by assumption)
theorem m_newa {at_ : ArrayType} {pc : Nat} : Mn L h (o_newa at_ pc L st h) := by
  unfold o_newa
  repeat' split
  all_goals first
    | exact mn_none
    | exact mn_nx rfl
    | exact mn_put
    | exact mn_new
    | exact mn_sto (by assumption)
    | exact mn_stoL (by assumption)
theorem m_get {ci : Nat} {k : Nat} {pc : Nat} : Mn L h (o_get ci k pc L st h) := by
  unfold o_get
  repeat' split
  all_goals first
    | exact mn_none
    | exact mn_nx rfl
    | exact mn_put
    | exact mn_new
    | exact mn_sto (by assumption)
    | exact mn_stoL (by assumption)
theorem m_put {ci : Nat} {k : Nat} {kind : Nat} {pc : Nat} : Mn L h (o_put ci k kind pc L st h) := by
  unfold o_put
  repeat' split
  all_goals first
    | exact mn_none
    | exact mn_nx rfl
    | exact mn_put
    | exact mn_new
    | exact mn_sto (by assumption)
    | exact mn_stoL (by assumption)
theorem m_new {ci : Nat} {N : Nat} {fs : List AV} {pc : Nat} : Mn L h (o_new ci N fs pc L st h) := by
  unfold o_new
  repeat' split
  all_goals first
    | exact mn_none
    | exact mn_nx rfl
    | exact mn_put
    | exact mn_new
    | exact mn_sto (by assumption)
    | exact mn_stoL (by assumption)
theorem m_anew {t : Nat} {pc : Nat} : Mn L h (o_anew t pc L st h) := by
  unfold o_anew
  repeat' split
  all_goals first
    | exact mn_none
    | exact mn_nx rfl
    | exact mn_put
    | exact mn_new
    | exact mn_sto (by assumption)
    | exact mn_stoL (by assumption)
theorem m_cast {ci : Nat} {pc : Nat} : Mn L h (o_cast ci pc L st h) := by
  unfold o_cast
  repeat' split
  all_goals first
    | exact mn_none
    | exact mn_nx rfl
    | exact mn_put
    | exact mn_new
    | exact mn_sto (by assumption)
    | exact mn_stoL (by assumption)
theorem m_castA {t : Nat} {pc : Nat} : Mn L h (o_castA t pc L st h) := by
  unfold o_castA
  repeat' split
  all_goals first
    | exact mn_none
    | exact mn_nx rfl
    | exact mn_put
    | exact mn_new
    | exact mn_sto (by assumption)
    | exact mn_stoL (by assumption)
theorem m_oinit {pc : Nat} : Mn L h (o_oinit pc L st h) := by
  unfold o_oinit
  repeat' split
  all_goals first
    | exact mn_none
    | exact mn_nx rfl
    | exact mn_put
    | exact mn_new
    | exact mn_sto (by assumption)
    | exact mn_stoL (by assumption)
theorem m_copyI {pc : Nat} : Mn L h (o_copyI pc L st h) := by
  unfold o_copyI
  repeat' split
  all_goals first
    | exact mn_none
    | exact mn_nx rfl
    | exact mn_put
    | exact mn_new
    | exact mn_sto (by assumption)
    | exact mn_stoL (by assumption)
theorem m_copyQ {pc : Nat} : Mn L h (o_copyQ pc L st h) := by
  unfold o_copyQ
  repeat' split
  all_goals first
    | exact mn_none
    | exact mn_nx rfl
    | exact mn_put
    | exact mn_new
    | exact mn_sto (by assumption)
    | exact mn_stoL (by assumption)
theorem m_clone {pc : Nat} : Mn L h (o_clone pc L st h) := by
  unfold o_clone
  repeat' split
  all_goals first
    | exact mn_none
    | exact mn_nx rfl
    | exact mn_put
    | exact mn_new
    | exact mn_sto (by assumption)
    | exact mn_stoL (by assumption)
theorem m_mx {b : Bool} {pc : Nat} : Mn L h (o_mx b pc L st h) := by
  unfold o_mx
  repeat' split
  all_goals first
    | exact mn_none
    | exact mn_nx rfl
    | exact mn_put
    | exact mn_new
    | exact mn_sto (by assumption)
    | exact mn_stoL (by assumption)
theorem m_getC {pc : Nat} : Mn L h (o_getC pc L st h) := by
  unfold o_getC
  repeat' split
  all_goals first
    | exact mn_none
    | exact mn_nx rfl
    | exact mn_put
    | exact mn_new
    | exact mn_sto (by assumption)
    | exact mn_stoL (by assumption)
theorem stl_mono {ins : Instr} {pc len : Nat} : Mn L h (stl ins pc len L st h) := by
  unfold stl
  split
  all_goals first | exact mn_none | exact mn_nx rfl | exact m_ldI | exact m_ldL | exact m_ldA | exact m_stI | exact m_stL | exact m_stA | exact m_inc | exact m_bin | exact m_div | exact m_binL | exact m_lshl | exact m_i2l | exact m_l2i | exact m_lcmp | exact m_dup | exact m_pop | exact m_dupx1 | exact m_dup2 | exact m_if | exact m_icmp | exact m_acmp | exact m_null | exact m_tab | exact m_alen | exact m_iald | exact m_bald | exact m_lald | exact m_aald | exact m_iast | exact m_bast | exact m_last | exact m_aast | exact m_newa | exact m_get | exact m_put | exact m_new | exact m_anew | exact m_cast | exact m_castA | exact m_oinit | exact m_copyI | exact m_copyQ | exact m_clone | exact m_mx | exact m_getC
theorem stx_mono {op : Nat × Nat × Nat × Nat × Nat} {pc : Nat} : Mn L h (stx op pc L st h) := by
  unfold stx
  split
  all_goals first | exact mn_none | exact mn_nx rfl | exact m_ldI | exact m_ldL | exact m_ldA | exact m_stI | exact m_stL | exact m_stA | exact m_inc | exact m_bin | exact m_div | exact m_binL | exact m_lshl | exact m_i2l | exact m_l2i | exact m_lcmp | exact m_dup | exact m_pop | exact m_dupx1 | exact m_dup2 | exact m_if | exact m_icmp | exact m_acmp | exact m_null | exact m_tab | exact m_alen | exact m_iald | exact m_bald | exact m_lald | exact m_aald | exact m_iast | exact m_bast | exact m_last | exact m_aast | exact m_newa | exact m_get | exact m_put | exact m_new | exact m_anew | exact m_cast | exact m_castA | exact m_oinit | exact m_copyI | exact m_copyQ | exact m_clone | exact m_mx | exact m_getC
end MonoOps
/-! runs: nothing is taken away -/
theorem wrp_some {x : Nx} {y : Nat × AL × List AV × AH} (h : wrp x = some (.inl y)) : x = some y := by
  cases x with
  | none => cases h
  | some z => cases h; rfl
theorem wrp_nl {x : Nx} {y : (AR × AH) ⊕ (Nat × List AV × Nat × List AV)} (h : wrp x = some (.inr y)) : False := by
  cases x with
  | none => cases h
  | some z => cases h
theorem stp_mono {i pc pc' : Nat} {L L' : AL} {st st' : List AV} {h h' : AH} (hs : stp i pc L st h = some (.inl (pc', L', st', h'))) : L'.length = L.length ∧ h.2.1 ≤ h'.2.1 ∧ h.2.2.1 ≤ h'.2.2.1 ∧ h'.2.2.2 = h.2.2.2 := by
  unfold stp at hs
  split at hs
  · rename_i ins len hc
    unfold stm at hs
    split at hs
    · unfold o_ret at hs
      split at hs
      · split at hs
        · split at hs <;> cases hs
        · cases hs
      · cases hs
    · unfold o_lret at hs
      split at hs <;> cases hs
    · unfold o_aret at hs
      split at hs <;> cases hs
    · unfold o_vret at hs
      split at hs <;> cases hs
    · exact stl_mono _ _ _ _ (wrp_some hs)
  · rename_i op len hc
    unfold stn at hs
    split at hs
    · unfold o_throw at hs
      split at hs <;> cases hs
    · unfold o_call at hs
      split at hs <;> cases hs
    · exact stx_mono _ _ _ _ (wrp_some hs)
  · cases hs
theorem stp_fin {i pc : Nat} {L : AL} {st : List AV} {h h' : AH} {r : AR} (hs : stp i pc L st h = some (.inr (.inl (r, h')))) : h.2.1 ≤ h'.2.1 ∧ h.2.2.1 ≤ h'.2.2.1 ∧ h'.2.2.2 = h.2.2.2 ∧ ∀ ci a, r = .inr (ci, a) → ∃ fs, h'.1 a = some (.inr (ci, fs)) := by
  unfold stp at hs
  split at hs
  · rename_i ins len hc
    unfold stm at hs
    split at hs
    · unfold o_ret at hs
      split at hs
      · split at hs
        · split at hs
          · cases hs; exact ⟨Nat.le_refl _, Nat.le_refl _, rfl, fun _ _ q => by cases q⟩
          · cases hs
        · cases hs; exact ⟨Nat.le_refl _, Nat.le_refl _, rfl, fun _ _ q => by cases q⟩
      · cases hs
    · unfold o_lret at hs
      split at hs
      · cases hs; exact ⟨Nat.le_refl _, Nat.le_refl _, rfl, fun _ _ q => by cases q⟩
      · cases hs
    · unfold o_aret at hs
      split at hs
      · cases hs; exact ⟨Nat.le_refl _, Nat.le_refl _, rfl, fun _ _ q => by cases q⟩
      · cases hs
    · unfold o_vret at hs
      split at hs
      · cases hs; exact ⟨Nat.le_refl _, Nat.le_refl _, rfl, fun _ _ q => by cases q⟩
      · cases hs
    · exact (wrp_nl hs).elim
  · rename_i op len hc
    unfold stn at hs
    split at hs
    · unfold o_throw at hs
      split at hs
      · cases hs
        refine ⟨Nat.le_succ _, Nat.le_add_right _ _, rfl, fun ci a q => ?_⟩
        cases q
        exact ⟨[], by simp [hnew, up]⟩
      · cases hs
    · unfold o_call at hs
      split at hs <;> cases hs
    · exact (wrp_nl hs).elim
  · cases hs
theorem run_mono : ∀ (f i pc : Nat) (L : AL) (st : List AV) (h : AH) (r : AR) (h' : AH), run f i pc L st h = some (r, h') → h.2.1 ≤ h'.2.1 ∧ h.2.2.1 ≤ h'.2.2.1 ∧ h'.2.2.2 = h.2.2.2 ∧ ∀ ci a, r = .inr (ci, a) → ∃ fs, h'.1 a = some (.inr (ci, fs)) := by
  intro f
  induction f with
  | zero => intro i pc L st h r h' hx; cases hx
  | succ f ih =>
    intro i pc L st h r h' hx
    rw [run] at hx
    split at hx
    · cases hx
    · rename_i hs
      obtain ⟨-, a1, a2, a3⟩ := stp_mono hs
      obtain ⟨b1, b2, b3, b4⟩ := ih _ _ _ _ _ _ _ hx
      exact ⟨Nat.le_trans a1 b1, Nat.le_trans a2 b2, b3.trans a3, b4⟩
    · rename_i r0 hs
      cases hx
      exact stp_fin hs
    · rename_i j as pc' rest hs
      split at hx
      · cases hx
      · rename_i w h1 h2
        obtain ⟨a1, a2, a3, -⟩ := ih _ _ _ _ _ _ _ h2
        obtain ⟨b1, b2, b3, b4⟩ := ih _ _ _ _ _ _ _ hx
        exact ⟨Nat.le_trans a1 b1, Nat.le_trans a2 b2, b3.trans a3, b4⟩
      · rename_i ci a h1 h2
        obtain ⟨a1, a2, a3, a4⟩ := ih _ _ _ _ _ _ _ h2
        split at hx
        · cases hx
        · cases hx
          exact ⟨a1, a2, a3, a4⟩
        · obtain ⟨b1, b2, b3, b4⟩ := ih _ _ _ _ _ _ _ hx
          exact ⟨Nat.le_trans a1 b1, Nat.le_trans a2 b2, b3.trans a3, b4⟩
/-! what is carried from state to state -/
theorem Lo.to {v : EV} {s U : State} (h : Lo v s) (hvm : s.vm.Alike U.vm) (hq : ∀ q : Nat, q < s.heap.size → ¬ v.b0 ≤ q → U.heap[q]? = s.heap[q]?) (hsz : s.heap.size ≤ U.heap.size) : Lo v U := by
  obtain ⟨h1, h2, h3, h4, h5⟩ := h
  exact ⟨(h1.moved hvm).kept (hq v.scr (Nat.lt_of_lt_of_le h2 h5) (by omega)), h2, (h3.moved hvm).kept hq, (h4.moved hvm).kept hq, Nat.le_trans h5 hsz⟩
theorem heap_size {v : EV} {h : AH} {H : Heap} {s : State} {locs : List Loc} {cells n0 : Nat} (hR : Rl v h H) (hlo : Lo v s) (hS : va_S (fun q => v.b0 ≤ q) s.heap H locs) (hn0 : n0 = s.heap.size) (hc : h.2.1 = n0 + cells) (hsz : H.size ≤ s.heap.size + cells) : H.size = h.2.1 := by
  have h1 := hS.1
  have h2 := hlo.2.2.2.2
  rcases Nat.lt_or_ge v.b0 h.2.1 with h3 | h3
  · have h4 := (hR.2.1 _ _ (ws_at v h (k := h.2.1 - 1 - v.b0) (by omega))).lt
    have h5 : v.b0 + (h.2.1 - 1 - v.b0) < H.size := h4
    omega
  · omega
theorem lg_laid (as : List AV) : lg_sl (as.map cv) = (laid as).map (fun o => match o with
    | some w => Slot.val (cv w)
    | none => Slot.second) := by
  induction as with
  | nil => rfl
  | cons w r ih =>
    have e : lg_sl ((w :: r).map cv) = (if (cv w).category = 2 then [Slot.val (cv w), Slot.second] else [Slot.val (cv w)]) ++ lg_sl (r.map cv) := rfl
    rw [e, ih]
    rcases w with x | x | x | x <;> rfl
theorem lh_entry {j : Nat} {as : List AV} (h : (laid as).length ≤ mxl j) : Lh ((lg_sl (as.map cv) ++ List.replicate (mxl j - (lg_sl (as.map cv)).length) Slot.unset).toArray) (entL j as) := by
  have hlen : (lg_sl (as.map cv)).length = (laid as).length := by rw [lg_laid, List.length_map]
  have h1 := lv_entry (as.map cv) (n := mxl j) (by rw [hlen]; exact h)
  have hel : (entL j as).length = mxl j := by simp [entL]; omega
  refine ⟨⟨by rw [hel]; exact h1.1, h1.2.1, fun q hq => by cases hq⟩, fun k w hk => ?_⟩
  unfold entL at hk
  rcases Nat.lt_or_ge k (laid as).length with hl | hl
  · rw [List.getElem?_append_left hl] at hk
    rw [List.getElem?_toArray, List.getElem?_append_left (by rw [hlen]; exact hl), lg_laid, List.getElem?_map, hk]
    rfl
  · rw [List.getElem?_append_right hl] at hk
    have := List.mem_replicate.mp (List.mem_of_getElem? hk)
    cases this.2
