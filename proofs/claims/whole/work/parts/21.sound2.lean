/-! EVERY RUN of the abstract machine is one of the real machine -/
def P2 (l : Launch) (v : EV) (f : Nat) : Prop := ∀ (i pc : Nat) (L : AL) (st : List AV) (h : AH) (r : AR) (h' : AH), run f i pc L st h = some (r, h') → i < 141 → L.length = mxl i →
  ∀ (p : Program) (e : Env) (R : Room) (s : State) (m : MethodId) (args : Array Value) (below : List Frame) (meth : Method) (c : Code) (n0 z0 : Nat) (Q : State → Prop), CX v p l R s m meth c i n0 → h'.2.1 ≤ n0 + R.cells → h'.2.2.1 ≤ z0 + R.slots → EO v s below n0 z0 Q r h' → WW v p l e R s m args below meth c n0 z0 Q pc L st h
theorem entL_len {j : Nat} {as : List AV} (h : (laid as).length ≤ mxl j) : (entL j as).length = mxl j := by
  simp [entL]
  omega
theorem met_of {l : Launch} {v : EV} {f j : Nat} {as : List AV} {h h' : AH} {r : AR} (hl : l.stackTraces = false) (H2 : P2 l v f) (hrun : run f j 0 (entL j as) [] h = some (r, h')) (hj : j < 141) (hlaid : (laid as).length ≤ mxl j) (hpl : plainName (nam j).cls = true) : MJ l v j as h r h' := by
  obtain ⟨m1, m2, -, -⟩ := run_mono _ _ _ _ _ _ _ _ hrun
  unfold MJ MO
  refine MetFree.of_bodyS (code := bts j) (maxLocals := mxl j) (ret := rty j) hpl ?_ ?_
  · intro args s m hpre hn
    obtain ⟨m', meth, c, hn', h1, h2, h3, h4, -, h5, h6, -⟩ := Cond.codeWith_spec (atoms_spec (ws := [cw j]) hpre _ List.mem_cons_self)
    cases hn.symm.trans hn'
    exact ⟨meth, c, h1, h2, h3, h4, h5, h6⟩
  · intro p e s m args below meth c s₁ B hml hP _
    obtain ⟨rfl, hK, hlz, hR, hsz⟩ := hP
    have htab : c.exceptionTable.toList.map (fun h => (h.startPc, h.endPc, h.handlerPc, h.catchType)) = tbl j := by
      obtain ⟨m', meth', c', hn', h1, h2, -, -, h5, -, -, -⟩ := Cond.codeWith_spec (atoms_spec (ws := [cw j]) B.pre _ List.mem_cons_self)
      cases B.named.symm.trans hn'
      cases B.method.symm.trans h1
      cases (Stand.of_body B).code.symm.trans h2
      exact h5
    have hh0 : s₁.heap = s.heap := by rw [B.state]; rfl
    have C : CX v p l (rmJ j h h') s m meth c j h.2.1 := ⟨B.exec, B.bytes, hml, findClass_of_methodNamed B.named, B.returns, B.notSynchronized, (name_of_methodNamed B.named B.method).1, htab, hsz.symm, hK, hlz, Nat.le_refl _, Nat.le_refl _, hl⟩
    have w := H2 j 0 (entL j as) [] h r h' hrun hj (entL_len hlaid) p e (rmJ j h h') s m (as.map cv).toArray below meth c h.2.1 h.2.2.1
      (fun t => ∃ o, t.status = .running ∧ Ended t below o ∧ QJ v r h' (as.map cv).toArray s o t ∧ s.WarmedH t.vm ∧ ∃ L, s.sameButNew ({ t with vm := s.vm } : State) L (h'.2.1 - h.2.1) (h'.2.2.1 - h.2.2.1) ∧ ∀ q ∈ L, v.b0 ≤ q.base)
      C (by show h'.2.1 ≤ h.2.1 + (h'.2.1 - h.2.1); omega) (by show h'.2.2.1 ≤ h.2.2.1 + (h'.2.2.1 - h.2.2.1); omega)
      (fun t o L cells slots g1 g2 g3 g4 g5 g6 g7 g8 g9 g10 => by
        have e1 : cells = h'.2.1 - h.2.1 := by omega
        have e2 : slots = h'.2.2.1 - h.2.2.1 := by omega
        subst e1; subst e2
        exact ⟨o, g6, g7, ⟨g1, g2, g3⟩, g8, L, g9, g10⟩)
      _ s.heap [] 0 0 (lh_entry hlaid) hR va_S.rf rfl rfl
    rw [List.map_nil, ← lg_entry_eq] at w
    obtain ⟨t, a1, o, b1, b2, b3⟩ := w s₁ hh0 (Stand.of_body B)
    exact ⟨t, o, a1, b1, b2, b3⟩
theorem sound {l : Launch} (hl : l.stackTraces = false) (v : EV) (hok : ∀ i, i < 141 → okm i = true) : ∀ f, P2 l v f := by
  intro f
  induction f with
  | zero => intro i pc L st h r h' hrun; cases hrun
  | succ f ih =>
    intro i pc L st h r h' hrun hi hL p e R s m args below meth c n0 z0 Q C hc hz hE
    obtain ⟨m1, m2, -, -⟩ := run_mono _ _ _ _ _ _ _ _ hrun
    have hcr : ∀ cells, h.2.1 = n0 + cells → cells ≤ R.cells := fun cells q => by omega
    have hsr : ∀ slots, h.2.2.1 = z0 + slots → slots ≤ R.slots := fun slots q => by omega
    rw [run] at hrun
    split at hrun
    · cases hrun
    · rename_i pc' L' st' h1 hs
      obtain ⟨n1, n2, -, -⟩ := run_mono _ _ _ _ _ _ _ _ hrun
      exact snd_step (hok i hi) C hL hcr hsr hs (by omega) (by omega) (ih _ _ _ _ _ _ _ hrun hi ((stp_mono hs).1.trans hL) p e R s m args below meth c n0 z0 Q C hc hz hE)
    · rename_i r0 hs
      cases hrun
      exact snd_fin (hok i hi) C hL hs hc hz hE
    · rename_i j as pc' rest hs
      obtain ⟨na, kind, ci, len, hcod, -, -, -, hlaid, -, -, -⟩ := stp_call hs
      have hk0 := ok1_r (okm_at (hok i hi) hcod)
      have hk : ok_call i pc j na kind ci = true := by simpa only [okx] using hk0
      unfold ok_call at hk
      obtain ⟨hA, -⟩ := Bool.and_eq_true_iff.mp hk
      obtain ⟨-, hA⟩ := Bool.and_eq_true_iff.mp hA
      obtain ⟨-, hA⟩ := Bool.and_eq_true_iff.mp hA
      obtain ⟨hpl, hA⟩ := Bool.and_eq_true_iff.mp hA
      obtain ⟨-, hA⟩ := Bool.and_eq_true_iff.mp hA
      obtain ⟨-, hA⟩ := Bool.and_eq_true_iff.mp hA
      obtain ⟨-, hA⟩ := Bool.and_eq_true_iff.mp hA
      obtain ⟨-, hj⟩ := Bool.and_eq_true_iff.mp hA
      have hj : j < 141 := of_decide_eq_true hj
      split at hrun
      · cases hrun
      · rename_i w h1 hrun1
        obtain ⟨q1, q2, -, q4⟩ := run_mono _ _ _ _ _ _ _ _ hrun1
        obtain ⟨n1, n2, -, -⟩ := run_mono _ _ _ _ _ _ _ _ hrun
        exact snd_call hi (hok i hi) C hL hs (met_of hl ih hrun1 hj hlaid hpl) q1 q2 q4 (by omega) (by omega) (ih _ _ _ _ _ _ _ hrun hi hL p e R s m args below meth c n0 z0 Q C hc hz hE)
      · rename_i cx a h1 hrun1
        obtain ⟨q1, q2, -, q4⟩ := run_mono _ _ _ _ _ _ _ _ hrun1
        split at hrun
        · cases hrun
        · rename_i hh
          cases hrun
          refine snd_call hi (hok i hi) C hL hs (met_of hl ih hrun1 hj hlaid hpl) q1 q2 q4 (by omega) (by omega) ?_
          simp only [hh]
          exact hE
        · rename_i p' hh
          obtain ⟨n1, n2, -, -⟩ := run_mono _ _ _ _ _ _ _ _ hrun
          refine snd_call hi (hok i hi) C hL hs (met_of hl ih hrun1 hj hlaid hpl) q1 q2 q4 (by omega) (by omega) ?_
          simp only [hh]
          exact ih _ _ _ _ _ _ _ hrun hi hL p e R s m args below meth c n0 z0 Q C hc hz hE
