section SoundCall
variable {p : Program} {l : Launch} {e : Env} {R : Room} {s : State} {m : MethodId} {args : Array Value} {below : List Frame} {meth : Method} {c : Code} {Q : State → Prop} {v : EV} {i n0 z0 : Nat} {pc : Nat} {L : AL} {st : List AV} {h : AH}
theorem stp_call {j pc' : Nat} {as rest : List AV} (hs : stp i pc L st h = some (.inr (.inr (j, as, pc', rest)))) : ∃ na kind ci len, cod i pc = some (.inr (17, j, na, kind, ci), len) ∧ na ≤ st.length ∧ st.length ≤ na + 4 ∧ rcv kind ci as h = true ∧ (laid as).length ≤ mxl j ∧ as = (st.take na).reverse ∧ pc' = pc + 3 ∧ rest = st.drop na := by
  unfold stp at hs
  split at hs
  · rename_i ins len hcod
    unfold stm at hs
    split at hs
    · unfold o_ret at hs
      split at hs
      · split at hs
        · split at hs <;> cases hs
        · cases hs
      · cases hs
    · unfold o_lret at hs
      split at hs <;> cases hs
    · unfold o_aret at hs
      split at hs <;> cases hs
    · unfold o_vret at hs
      split at hs <;> cases hs
    · exact (wrp_nl hs).elim
  · rename_i op len hcod
    unfold stn at hs
    split at hs
    · unfold o_throw at hs
      split at hs <;> cases hs
    · rename_i j' na kind ci
      unfold o_call at hs
      split at hs
      · rename_i hc
        cases hs
        exact ⟨na, kind, ci, len, hcod, hc.1, hc.2.1, hc.2.2.1, hc.2.2.2, rfl, rfl, rfl⟩
      · cases hs
    · exact (wrp_nl hs).elim
  · cases hs
theorem ok1_r {i pc len : Nat} {x : Nat × Nat × Nat × Nat × Nat} (h : ok1 i pc (.inr x) len = true) : okx i pc x = true := h
theorem parse_sub {d : String} {n : Nat} (h : (parseMethodDescriptor d).map (fun d => d.parameters.length + 1) = some (n + 1)) : (parseMethodDescriptor d).map (fun d => d.parameters.length) = some n := by
  cases hp : parseMethodDescriptor d with
  | none => rw [hp] at h; cases h
  | some x =>
    rw [hp] at h
    have : x.parameters.length + 1 = n + 1 := Option.some.inj h
    show some x.parameters.length = some n
    congr 1
    omega
theorem snd_call (h141 : i < 141) (hi : okm i = true) (C : CX v p l R s m meth c i n0) (hL : L.length = mxl i) {j pc' : Nat} {as rest : List AV} (hs : stp i pc L st h = some (.inr (.inr (j, as, pc', rest)))) {r1 : AR} {h1 : AH} (hM : MJ l v j as h r1 h1) (hm1 : h.2.1 ≤ h1.2.1) (hm2 : h.2.2.1 ≤ h1.2.2.1) (hth : ∀ ci a, r1 = .inr (ci, a) → ∃ fs, h1.1 a = some (.inr (ci, fs))) (hc1 : h1.2.1 ≤ n0 + R.cells) (hz1 : h1.2.2.1 ≤ z0 + R.slots)
    (kk : match r1 with
      | .inl w => WW v p l e R s m args below meth c n0 z0 Q pc' L (w.toList ++ rest) h1
      | .inr (ci, a) => (match hnd i pc ci with
        | none => False
        | some none => EO v s below n0 z0 Q (.inr (ci, a)) h1
        | some (some p') => WW v p l e R s m args below meth c n0 z0 Q p' L [aR a] h1)) : WW v p l e R s m args below meth c n0 z0 Q pc L st h := by
  have C' := C
  obtain ⟨hx, hb, hml, hown, hret, hlocks, hnm, htb, hn0, hK, hlz, hfr, hlo, hl⟩ := C
  obtain ⟨na, kind, ci, len, hcod, hna, hst4, hrcv, hlaid, rfl, rfl, rfl⟩ := stp_call hs
  have hk0 := ok1_r (okm_at hi hcod)
  have hk : ok_call i pc j na kind ci = true := by simpa only [okx] using hk0
  unfold ok_call at hk
  obtain ⟨hA, hB⟩ := Bool.and_eq_true_iff.mp hk
  obtain ⟨k1, hA⟩ := Bool.and_eq_true_iff.mp hA
  obtain ⟨k2, hA⟩ := Bool.and_eq_true_iff.mp hA
  obtain ⟨k3, hA⟩ := Bool.and_eq_true_iff.mp hA
  obtain ⟨k4, hA⟩ := Bool.and_eq_true_iff.mp hA
  obtain ⟨k5, hA⟩ := Bool.and_eq_true_iff.mp hA
  obtain ⟨k6, hA⟩ := Bool.and_eq_true_iff.mp hA
  obtain ⟨k7, k8⟩ := Bool.and_eq_true_iff.mp hA
  have k6 : frs j + 1 ≤ frs i := of_decide_eq_true k6
  have k7 : 8 + (mxl j + 11) + lcs j ≤ lcs i := of_decide_eq_true k7
  have hy : (nam j).cls ≠ "java/lang/invoke/MethodHandle" ∧ (nam j).cls ≠ "java/lang/invoke/VarHandle" := ⟨of_decide_eq_true k4, of_decide_eq_true k5⟩
  have hlen : (st.take na).reverse.length = na := by rw [List.length_reverse, List.length_take]; omega
  have hst : st.map cv = ((st.take na).reverse.map cv).reverse ++ (st.drop na).map cv := by
    rw [← List.map_reverse, List.reverse_reverse, ← List.map_append, List.take_append_drop]
  have hrl : (st.drop na).length ≤ 4 := by rw [List.length_drop]; omega
  intro ls H locs cells slots hLh hR hS hcn hzn
  have hcell : cells + (h1.2.1 - h.2.1) ≤ R.cells := by omega
  have hslot : slots + (h1.2.2.1 - h.2.2.1) ≤ R.slots := by omega
  have hls : ls.size = c.maxLocals := by rw [hml, ← hL]; exact hLh.size
  have hsum : ((((st.drop na).map cv)).map fun v => v.category).sum ≤ 8 := by
    have := cv_sum (st.drop na)
    omega
  have main : ∀ ig, decode c.code pc = .ok (ig, 3) → (∀ T : State, T.heap = H → Stand p l e R s m args below meth c T locs cells slots → ∃ (vm₁ : Vm) (mk : MethodId), Stand p l e R s m args below meth c (T.setVm vm₁) locs cells slots ∧ (T.setVm vm₁).methodNamed? (nam j) = some mk ∧ ∀ target, (∀ acts, Steps p.tables e below (doInvoke e ((T.setVm vm₁).setTop (F0 m pc ls ((st.drop na).map cv))) acts mk ((st.take na).reverse.map cv).toArray).1 target) → Steps p.tables e below (T.setTop (F0 m pc ls (st.map cv))) target) → W p l e R s m args below meth c H locs cells slots Q (F0 m pc ls (st.map cv)) := by
    intro ig hdg enter
    refine w_call (bytes := bts j) (maxL := mxl j) (ret := rty j) (hh := tbl j) enter hM hls hdg hsum (by show frs j + 1 ≤ R.frames; omega) (by show 8 + (mxl j + 11) + lcs j ≤ R.locals; omega) hcell hslot ?_ ?_ ?_
    · intro U hW
      have hKU := hK.warm hW
      refine ⟨atoms_intro fun w hw => ?_, okc_use hKU k1 _, inG_use hKU k2 _⟩
      rw [List.mem_singleton.mp hw]
      exact okc_use hKU k1 _
    · intro U hUH hW hsz
      refine ⟨rfl, hK.warm hW, hlz.to hW.alike (fun q h1 h2 => by rw [hUH]; exact hS.2.1 q h1 h2) (by rw [hUH]; exact hS.1), by rw [hUH]; exact hR, ?_⟩
      rw [hUH]
      exact heap_size hR hlz.1 hS hn0 hcn hsz
    · intro o st₀ t L0 h0 hL0 hWt hq
      obtain ⟨ho, hR1, hF⟩ := hq
      rw [va_F, h0] at hF
      have hS1 : va_S (fun q => v.b0 ≤ q) s.heap t.heap (locs ++ L0) := by
        refine ⟨Nat.le_trans hS.1 hF.1, fun q w1 w2 => (hF.2 q (Nat.lt_of_lt_of_le w1 hS.1) w2).trans (hS.2.1 q w1 w2), fun q hq => ?_⟩
        rcases List.mem_append.mp hq with w | w
        · exact hS.2.2 q w
        · exact hL0 q w
      have e1 : h1.2.1 = n0 + (cells + (h1.2.1 - h.2.1)) := by omega
      have e2 : h1.2.2.1 = z0 + (slots + (h1.2.2.1 - h.2.2.1)) := by omega
      rcases r1 with w | ⟨cx, a⟩
      · have ho : o = .returned (w.map cv) := ho
        subst ho
        have k := kk ls t.heap (locs ++ L0) _ _ hLh hR1 hS1 e1 e2
        have ee : (w.toList ++ st.drop na).map cv = (w.map cv).toList ++ (st.drop na).map cv := by cases w <;> rfl
        rw [ee] at k
        exact k
      · have ho : o = .threw a := ho
        subst ho
        obtain ⟨fs, hfs⟩ := hth cx a rfl
        simp only at kk
        split at kk
        · exact kk.elim
        · rename_i hh
          refine WT.out rfl rfl rfl (hnd_out h141 C' hh) hlocks fun t2 q1 q2 q3 q4 q5 => ?_
          exact kk t2 (.threw a) (locs ++ L0) _ _ rfl (by rw [q1]; exact hR1) (hS1.F q1) e1 e2 q2 q3 q4 q5 hS1.2.2
        · rename_i p' hh
          exact snd_catch h141 C' hh hR1 hfs (kk ls t.heap (locs ++ L0) _ _ hLh hR1 hS1 e1 e2)
  have hsg : ∀ (meth : Method) (mk : MethodId), s.methodNamed? (nam j) = some mk → s.vm.method? mk = some meth → parseMethodDescriptor (nam j).desc = some meth.sig := by
    intro meth mk g1 g2
    obtain ⟨m3, meth3, c3, q1, q2, -, -, -, -, -, -, q3⟩ := Cond.codeWith_spec (okc_use hK k1 args)
    cases g1.symm.trans q1
    cases g2.symm.trans q2
    exact q3
  split at hB
  · rename_i idx hd
    obtain ⟨b1, hB⟩ := Bool.and_eq_true_iff.mp hB
    obtain ⟨b2, b3⟩ := Bool.and_eq_true_iff.mp hB
    have hd' : decode c.code pc = .ok (.invokestatic idx, 3) := by rw [hb]; exact hd
    refine main _ hd' ?_
    rw [hst]
    exact en_S hx hown (inG_use hK b1 args) (inG_use hK b2 args) (inG_use hK k2 args) (okc_use hK k1 args) hy (of_decide_eq_true b3) (by rw [List.length_map]; exact hlen) hd'
  · rename_i idx hd
    split at hB
    · rename_i q hq
      obtain ⟨b1, hB⟩ := Bool.and_eq_true_iff.mp hB
      obtain ⟨b2, hB⟩ := Bool.and_eq_true_iff.mp hB
      obtain ⟨b3, b4⟩ := Bool.and_eq_true_iff.mp hB
      have hd' : decode c.code pc = .ok (.invokevirtual idx, 3) := by rw [hb]; exact hd
      refine main _ hd' ?_
      rw [hst]
      unfold rcv at hrcv
      simp only at hrcv
      split at hrcv
      · rename_i b as' hras
        split at hrcv
        · rename_i c' fs hfs
          have hcc : c' = ci := eq_of_beq hrcv
          subst hcc
          rw [hras] at hlen ⊢
          obtain ⟨cellB, w1, w2, w3⟩ := r_recv hK.2.2.1 hR hfs hq
          have hn1 : as'.length + 1 = na := hlen
          subst hn1
          have e5 : ((Sum.inr (Sum.inr (some b)) :: as' : List AV).map cv).reverse ++ (st.drop (as'.length + 1)).map cv = (as'.map cv).reverse ++ .ref b :: (st.drop (as'.length + 1)).map cv := by
            simp [cv]
          rw [e5]
          exact en_V hx hown (Or.inl (inG_use hK b1 args)) (inG_use hK b2 args) (inG_use hK b3 args) hy (parse_sub (of_decide_eq_true b4)) (fun meth mk => hsg meth mk) w1 w2 w3 (by rw [List.length_map]) hd'
        · cases hrcv
      · cases hrcv
    · cases hB
  · rename_i idx hd
    obtain ⟨b1, hB⟩ := Bool.and_eq_true_iff.mp hB
    obtain ⟨b2, hB⟩ := Bool.and_eq_true_iff.mp hB
    obtain ⟨b3, hB⟩ := Bool.and_eq_true_iff.mp hB
    obtain ⟨b4, b5⟩ := Bool.and_eq_true_iff.mp hB
    have hd' : decode c.code pc = .ok (.invokespecial idx, 3) := by rw [hb]; exact hd
    refine main _ hd' ?_
    rw [hst]
    unfold rcv at hrcv
    simp only at hrcv
    split at hrcv
    · rename_i b as' hras
      rw [hras] at hlen ⊢
      have hn1 : as'.length + 1 = na := hlen
      subst hn1
      have e5 : ((Sum.inr (Sum.inr (some b)) :: as' : List AV).map cv).reverse ++ (st.drop (as'.length + 1)).map cv = (as'.map cv).reverse ++ .ref b :: (st.drop (as'.length + 1)).map cv := by
        simp [cv]
      rw [e5]
      exact en_I hx hown (of_decide_eq_true b3) (inG_use hK b1 args) (inG_use hK b2 args) (inG_use hK b4 args) hy (parse_sub (of_decide_eq_true b5)) (by rw [List.length_map]) hd'
    · cases hrcv
  · cases hB
end SoundCall
