/-! THE CLASS's WORLD: cells by names (kind, number); ad: where they lie; ow: whose an address is -/
abbrev AD : Type := Nat → Nat → Nat
abbrev OW : Type := Nat → Nat × Nat
abbrev KK : Type := Nat → Nat → Option AE
def WD (ad : AD) (ow : OW) (K : KK) (h : AH) : Prop := (∀ k i e, K k i = some e → h.1 (ad k i) = some e ∧ ow (ad k i) = (k, i) ∧ ad k i < h.2.1) ∧ (∀ x, h.2.1 ≤ x → h.1 x = none) ∧ (∃ F, h.1 h.2.2.2.1 = some (rcell 0 F)) ∧ (∀ i, K 20 i = none) ∧ (ow h.2.2.2.1).1 = 20 ∧ h.2.2.2.1 < h.2.1
/-- what is not the class's stays -/
def Fo (ow : OW) (h : AH) (ow' : OW) (h' : AH) : Prop := h.2.1 ≤ h'.2.1 ∧ h.2.2.1 ≤ h'.2.2.1 ∧ h'.2.2.2 = h.2.2.2 ∧ ∀ x, x < h.2.1 → (ow x).1 = 20 → h'.1 x = h.1 x ∧ ow' x = ow x
def p2 (K : KK) (k i : Nat) (e : AE) : KK := up K k (up (K k) i (some e))
def qd (ad : AD) (k i a : Nat) : AD := up ad k (up (ad k) i a)
section WDs
variable {ad : AD} {ow ow' ow2 : OW} {K : KK} {h h' h2 : AH} {k i : Nat} {e e0 : AE}
theorem Fo.rf : Fo ow h ow h := ⟨Nat.le_refl _, Nat.le_refl _, rfl, fun _ _ _ => ⟨rfl, rfl⟩⟩
theorem Fo.tr (a : Fo ow h ow' h') (b : Fo ow' h' ow2 h2) : Fo ow h ow2 h2 := ⟨Nat.le_trans a.1 b.1, Nat.le_trans a.2.1 b.2.1, b.2.2.1.trans a.2.2.1, fun x h1 h2 => by
  have a1 := a.2.2.2 x h1 h2
  have b1 := b.2.2.2 x (Nat.lt_of_lt_of_le h1 a.1) (by rw [a1.2]; exact h2)
  exact ⟨b1.1.trans a1.1, b1.2.trans a1.2⟩⟩
theorem p2_s : p2 K k i e k i = some e := by unfold p2; rw [up_s, up_s]
theorem p2_n {k' i' : Nat} (hn : ¬ (k' = k ∧ i' = i)) : p2 K k i e k' i' = K k' i' := by
  unfold p2
  by_cases hk : k' = k
  · subst hk
    rw [up_s, up_n (fun q => hn ⟨rfl, q⟩)]
  · rw [up_n hk]
theorem qd_s {a : Nat} : qd ad k i a k i = a := by unfold qd; rw [up_s, up_s]
theorem qd_n {a k' i' : Nat} (hn : ¬ (k' = k ∧ i' = i)) : qd ad k i a k' i' = ad k' i' := by
  unfold qd
  by_cases hk : k' = k
  · subst hk
    rw [up_s, up_n (fun q => hn ⟨rfl, q⟩)]
  · rw [up_n hk]
theorem WD.at (w : WD ad ow K h) (hk : K k i = some e) : h.1 (ad k i) = some e := (w.1 k i e hk).1
theorem WD.ne (w : WD ad ow K h) {k' i' : Nat} {e' : AE} (hk : K k i = some e) (hk' : K k' i' = some e') (hn : ¬ (k = k' ∧ i = i')) : ad k i ≠ ad k' i' := fun q => by
  have h1 := (w.1 k i e hk).2.1
  have h2 := (w.1 k' i' e' hk').2.1
  rw [q, h2] at h1
  cases h1
  exact hn ⟨rfl, rfl⟩
theorem WD.k20 (w : WD ad ow K h) (hk : K k i = some e) : k ≠ 20 := fun q => by
  subst q
  rw [w.2.2.2.1 i] at hk
  cases hk
theorem WD.own (w : WD ad ow K h) (hk : K k i = some e) {x : Nat} (hx : (ow x).1 = 20) : x ≠ ad k i := fun q => by
  rw [q, (w.1 k i e hk).2.1] at hx
  exact w.k20 hk hx
theorem WD.put (w : WD ad ow K h) (hk : K k i = some e0) : WD ad ow (p2 K k i e) (hput h (ad k i) e) := by
  have wl := w.1 k i e0 hk
  refine ⟨fun k' i' e' he => ?_, fun x hx => ?_, ?_, fun j => ?_, w.2.2.2.2.1, w.2.2.2.2.2⟩
  · by_cases hn : k' = k ∧ i' = i
    · obtain ⟨rfl, rfl⟩ := hn
      rw [p2_s] at he
      cases he
      exact ⟨hput_s, wl.2⟩
    · rw [p2_n hn] at he
      exact ⟨(hput_n (w.ne he hk hn)).trans (w.at he), (w.1 k' i' e' he).2⟩
  · rw [hput_n (by have := wl.2.2; intro q; have hx : h.2.1 ≤ x := hx; omega)]
    exact w.2.1 x hx
  · obtain ⟨F, hF⟩ := w.2.2.1
    refine ⟨F, (hput_n ?_).trans hF⟩
    exact w.own hk w.2.2.2.2.1
  · rw [p2_n (fun q => w.k20 hk q.1.symm)]
    exact w.2.2.2.1 j
theorem Fo.put (w : WD ad ow K h) (hk : K k i = some e0) : Fo ow h ow (hput h (ad k i) e) := ⟨Nat.le_refl _, Nat.le_refl _, rfl, fun x _ h2 => ⟨hput_n (w.own hk h2), rfl⟩⟩
theorem WD.new {c : Nat} (w : WD ad ow K h) (hk : k ≠ 20) : WD (qd ad k i h.2.1) (up ow h.2.1 (k, i)) (p2 K k i e) (hnew h e c) := by
  refine ⟨fun k' i' e' he => ?_, fun x hx => ?_, ?_, fun j => ?_, ?_, Nat.lt_succ_of_lt w.2.2.2.2.2⟩
  · by_cases hn : k' = k ∧ i' = i
    · obtain ⟨rfl, rfl⟩ := hn
      rw [p2_s] at he
      cases he
      rw [qd_s]
      exact ⟨hnew_s, up_s, Nat.lt_succ_self _⟩
    · rw [p2_n hn] at he
      have wl := w.1 k' i' e' he
      rw [qd_n hn]
      have hne : ad k' i' ≠ h.2.1 := Nat.ne_of_lt wl.2.2
      exact ⟨(hnew_n hne).trans wl.1, (up_n hne).trans wl.2.1, Nat.lt_succ_of_lt wl.2.2⟩
  · have hx : h.2.1 + 1 ≤ x := hx
    rw [hnew_n (by omega)]
    exact w.2.1 x (by omega)
  · obtain ⟨F, hF⟩ := w.2.2.1
    exact ⟨F, (hnew_n (Nat.ne_of_lt w.2.2.2.2.2)).trans hF⟩
  · rw [p2_n (fun q => hk q.1.symm)]
    exact w.2.2.2.1 j
  · show (up ow h.2.1 (k, i) h.2.2.2.1).1 = 20
    rw [up_n (Nat.ne_of_lt w.2.2.2.2.2)]
    exact w.2.2.2.2.1
theorem Fo.new {c : Nat} : Fo ow h (up ow h.2.1 (k, i)) (hnew h e c) := ⟨Nat.le_succ _, Nat.le_add_right _ _, rfl, fun x h1 _ => ⟨hnew_n (Nat.ne_of_lt h1), up_n (Nat.ne_of_lt h1)⟩⟩
/-! lists by names: the list object (8, id), its array (10, id), its elements (ek, x) for x in l -/
def LV (ad : AD) (K : KK) (z : Nat) (id ek : Nat) (l : List Nat) (c : Nat) (m : Int) (F : Nat → Option Nat) : Prop := K 8 id = some (lcell (if c = 0 then z else ad 10 id) l.length m) ∧ (c ≠ 0 → K 10 id = some (rcell c F)) ∧ l.length ≤ c ∧ (c = 0 ∨ 10 ≤ c) ∧ c < 400000 ∧ (∀ j x, l[j]? = some x → F j = some (ad ek x)) ∧ (∀ x, x ∈ l → ∃ fs, K ek x = some (.inr (ek, fs)))
def LX (ad : AD) (K : KK) (z : Nat) (id ek : Nat) (l : List Nat) (c : Nat) : Prop := ∃ m F, LV ad K z id ek l c m F
theorem LV.cell {id ek c : Nat} {l : List Nat} {m : Int} {F : Nat → Option Nat} (w : WD ad ow K h) (v : LV ad K h.2.2.2.1 id ek l c m F) : ∃ G, h.1 (if c = 0 then h.2.2.2.1 else ad 10 id) = some (rcell c G) ∧ (c ≠ 0 → G = F) := by
  by_cases hc : c = 0
  · subst hc
    obtain ⟨G, hG⟩ := w.2.2.1
    exact ⟨G, hG, fun q => absurd rfl q⟩
  · refine ⟨F, ?_, fun _ => rfl⟩
    rw [if_neg hc]
    exact w.at (v.2.1 hc)
theorem LV.all {id ek c : Nat} {l : List Nat} {m : Int} {F : Nat → Option Nat} (w : WD ad ow K h) (v : LV ad K h.2.2.2.1 id ek l c m F) : allC h F ek l.length := fun j hj => by
  have hx : l[j]? = some l[j] := List.getElem?_eq_getElem hj
  obtain ⟨fs, hfs⟩ := v.2.2.2.2.2.2 l[j] (List.getElem_mem hj)
  exact ⟨ad ek l[j], fs, v.2.2.2.2.2.1 j _ hx, w.at hfs⟩
variable {Q : AR → AH → Prop} {id ek c : Nat} {l : List Nat}
theorem c_size (w : WD ad ow K h) (v : LX ad K h.2.2.2.1 id ek l c) (k : Q (.inl (some (aI l.length))) h) : Rn 6 0 (entL 6 [aR (ad 8 id)]) [] h Q := by
  obtain ⟨m, F, v⟩ := v
  exact l_size (w.at v.1) k
theorem c_get (w : WD ad ow K h) (v : LX ad K h.2.2.2.1 id ek l c) {j x : Nat} (hj : l[j]? = some x) (k : Q (.inl (some (aR (ad ek x)))) h) : Rn 29 0 (entL 29 [aR (ad 8 id), aI j]) [] h Q := by
  obtain ⟨m, F, v⟩ := v
  have hl : j < l.length := (List.getElem?_eq_some_iff.mp hj).1
  have h3 := v.2.2.1
  have h4 := v.2.2.2.2.1
  have hc : c ≠ 0 := by omega
  have v1 := v.1
  rw [if_neg hc] at v1
  have e := v.2.2.2.2.2.1 j x hj
  refine l_get (w.at v1) (w.at (v.2.1 hc)) (by omega) (by omega) (by omega) ?_
  rw [e]
  exact k
/-- what an add changes -/
def WA (ad : AD) (ow : OW) (K : KK) (h : AH) (id c n : Nat) (ad' : AD) (ow' : OW) (K' : KK) (h' : AH) (c' : Nat) : Prop := WD ad' ow' K' h' ∧ Fo ow h ow' h' ∧ (∀ k i, ¬ (k = 8 ∧ i = id) → ¬ (k = 10 ∧ i = id) → K' k i = K k i) ∧ (∀ k i, ¬ (k = 10 ∧ i = id) → ad' k i = ad k i) ∧ c ≤ c' ∧ (c' = c ∧ h'.2 = h.2 ∨ c' = ncap c ∧ h'.2.1 = h.2.1 + 1 ∧ h'.2.2.1 = h.2.2.1 + ncap c ∧ n = c)
theorem c_add (w : WD ad ow K h) (v : LX ad K h.2.2.2.1 id ek l c) (hek : ek < 8) {x : Nat} {fx : List AV} (hx : K ek x = some (.inr (ek, fx))) (hc3 : c < 200000) (k : ∀ ad' ow' K' h' c', WA ad ow K h id c l.length ad' ow' K' h' c' → LX ad' K' h'.2.2.2.1 id ek (l ++ [x]) c' → Q (.inl (some (aI 1))) h') : Rn 16 0 (entL 16 [aR (ad 8 id), aR (ad ek x)]) [] h Q := by
  obtain ⟨m, F, v⟩ := v
  obtain ⟨G, hG, hGF⟩ := v.cell w
  have ha : allC h G ek l.length := by
    by_cases hc : c = 0
    · intro j hj
      have := v.2.2.1
      omega
    · rw [hGF hc]
      exact v.all w
  have h3 := v.2.2.1
  have hF : ∀ j y, l[j]? = some y → G j = some (ad ek y) := fun j y hy => by
    have hl : j < l.length := (List.getElem?_eq_some_iff.mp hy).1
    rw [hGF (by omega)]
    exact v.2.2.2.2.2.1 j y hy
  refine l_add (w.at v.1) hG v.2.2.1 (by omega) v.2.2.2.1 (fun q => if_pos q) (w.2.1 _ (Nat.le_refl _)) ha hek (w.at hx) hek (fun h' d' c' F' q => ?_)
  obtain ⟨q1, q2, q3, q4, q5, q6⟩ := q
  have hap : ∀ (ad' : AD) (j y : Nat), (∀ y, ad' ek y = ad ek y) → (l ++ [x])[j]? = some y → F' j = some (ad' ek y) := fun ad' j y he hy => by
    rw [he y]
    rcases Nat.lt_or_ge j l.length with hj | hj
    · rw [List.getElem?_append_left hj] at hy
      rw [q3 j hj]
      exact hF j y hy
    · rw [List.getElem?_append_right hj] at hy
      have hj0 : j - l.length = 0 := by
        rcases Nat.eq_zero_or_pos (j - l.length) with z | z
        · exact z
        · rw [List.getElem?_eq_none (by simp; omega)] at hy
          cases hy
      rw [hj0] at hy
      have hjl : j = l.length := by omega
      cases hy
      rw [hjl]
      exact q4
  have hmem : ∀ y, y ∈ l ++ [x] → ∃ fs, K ek y = some (.inr (ek, fs)) := fun y hy => by
    rcases List.mem_append.mp hy with z | z
    · exact v.2.2.2.2.2.2 y z
    · rw [List.mem_singleton.mp z]
      exact ⟨fx, hx⟩
  have hlen : ((l ++ [x]).length : Int) = (l.length : Int) + 1 := by simp
  have hlen2 : (l ++ [x]).length = l.length + 1 := by simp
  have hek8 : ¬ ek = 8 := by omega
  have hek10 : ¬ ek = 10 := by omega
  rcases q6 with ⟨r1, r2, r3, r4⟩ | ⟨r1, r2, r3, r4, r5, r6⟩
  · have hc : c ≠ 0 := by omega
    rw [if_neg hc] at r2 hG
    subst r2 r3
    have w1 : WD ad ow (p2 (p2 K 10 id (rcell c' F')) 8 id (lcell (ad 10 id) ((l.length : Int) + 1) (m + 1))) h' := by
      refine ⟨fun k' i' e' he => ?_, fun y hy => ?_, ?_, fun j => ?_, ?_, ?_⟩
      · by_cases n8 : k' = 8 ∧ i' = id
        · obtain ⟨rfl, rfl⟩ := n8
          rw [p2_s] at he
          cases he
          refine ⟨q1, (w.1 _ _ _ v.1).2.1, ?_⟩
          rw [r4]
          exact (w.1 _ _ _ v.1).2.2
        · rw [p2_n n8] at he
          by_cases n10 : k' = 10 ∧ i' = id
          · obtain ⟨rfl, rfl⟩ := n10
            rw [p2_s] at he
            cases he
            refine ⟨q2, (w.1 _ _ _ (v.2.1 hc)).2.1, ?_⟩
            rw [r4]
            exact (w.1 _ _ _ (v.2.1 hc)).2.2
          · rw [p2_n n10] at he
            refine ⟨(q5 _ (w.ne he v.1 n8) (w.ne he (v.2.1 hc) n10)).trans (w.at he), (w.1 _ _ _ he).2.1, ?_⟩
            rw [r4]
            exact (w.1 _ _ _ he).2.2
      · rw [r4] at hy
        have z8 := (w.1 _ _ _ v.1).2.2
        have z10 := (w.1 _ _ _ (v.2.1 hc)).2.2
        rw [q5 y (by omega) (by omega)]
        exact w.2.1 y hy
      · rw [r4]
        obtain ⟨G0, hG0⟩ := w.2.2.1
        exact ⟨G0, (q5 _ (w.own v.1 w.2.2.2.2.1) (w.own (v.2.1 hc) w.2.2.2.2.1)).trans hG0⟩
      · rw [p2_n (by omega), p2_n (by omega)]
        exact w.2.2.2.1 j
      · rw [r4]
        exact w.2.2.2.2.1
      · rw [r4]
        exact w.2.2.2.2.2
    refine k ad ow _ h' c' ⟨w1, ⟨by rw [r4]; exact Nat.le_refl _, by rw [r4]; exact Nat.le_refl _, by rw [r4], fun y h1 h2 => ⟨q5 y (w.own v.1 h2) (w.own (v.2.1 hc) h2), rfl⟩⟩, fun k' i' n1 n2 => (p2_n n1).trans (p2_n n2), fun _ _ _ => rfl, Nat.le_refl _, Or.inl ⟨rfl, r4⟩⟩ ⟨m + 1, F', ?_⟩
    refine ⟨?_, fun _ => ?_, by omega, v.2.2.2.1, v.2.2.2.2.1, fun j y hy => hap ad j y (fun _ => rfl) hy, fun y hy => ?_⟩
    · rw [p2_s, if_neg hc, hlen]
    · rw [p2_n (by omega), p2_s]
    · rw [p2_n (by omega), p2_n (by omega)]
      exact hmem y hy
  · subst r2 r3
    have hcn : 10 ≤ ncap c := by
      have := v.2.2.2.1
      unfold ncap
      split <;> omega
    have hcn2 : ncap c < 400000 ∧ l.length + 1 ≤ ncap c ∧ c ≤ ncap c := by
      have := v.2.2.2.1
      unfold ncap
      split <;> omega
    have w1 : WD (qd ad 10 id h.2.1) (up ow h.2.1 (10, id)) (p2 (p2 K 10 id (rcell (ncap c) F')) 8 id (lcell h.2.1 ((l.length : Int) + 1) (m + 1))) h' := by
      have z8 := (w.1 _ _ _ v.1).2.2
      refine ⟨fun k' i' e' he => ?_, fun y hy => ?_, ?_, fun j => ?_, ?_, ?_⟩
      · by_cases n8 : k' = 8 ∧ i' = id
        · obtain ⟨rfl, rfl⟩ := n8
          rw [p2_s] at he
          cases he
          rw [qd_n (by omega)]
          refine ⟨q1, (up_n (by omega)).trans (w.1 _ _ _ v.1).2.1, by omega⟩
        · rw [p2_n n8] at he
          by_cases n10 : k' = 10 ∧ i' = id
          · obtain ⟨rfl, rfl⟩ := n10
            rw [p2_s] at he
            cases he
            rw [qd_s]
            exact ⟨q2, up_s, by omega⟩
          · rw [p2_n n10] at he
            rw [qd_n n10]
            have zz := (w.1 _ _ _ he).2.2
            exact ⟨(q5 _ (w.ne he v.1 n8) (by omega)).trans (w.at he), (up_n (by omega)).trans (w.1 _ _ _ he).2.1, by omega⟩
      · rw [q5 y (by omega) (by omega)]
        exact w.2.1 y (by omega)
      · rw [r6]
        obtain ⟨G0, hG0⟩ := w.2.2.1
        exact ⟨G0, (q5 _ (w.own v.1 w.2.2.2.2.1) (Nat.ne_of_lt w.2.2.2.2.2)).trans hG0⟩
      · rw [p2_n (by omega), p2_n (by omega)]
        exact w.2.2.2.1 j
      · rw [r6, up_n (Nat.ne_of_lt w.2.2.2.2.2)]
        exact w.2.2.2.2.1
      · rw [r6]
        have := w.2.2.2.2.2
        omega
    refine k _ _ _ h' (ncap c) ⟨w1, ⟨by omega, by omega, r6, fun y h1 h2 => ⟨q5 y (w.own v.1 h2) (Nat.ne_of_lt h1), up_n (Nat.ne_of_lt h1)⟩⟩, fun k' i' n1 n2 => (p2_n n1).trans (p2_n n2), fun k' i' n1 => qd_n n1, hcn2.2.2, Or.inr ⟨rfl, r4, r5, r1⟩⟩ ⟨m + 1, F', ?_⟩
    refine ⟨?_, fun _ => ?_, by omega, Or.inr hcn, hcn2.1, fun j y hy => hap _ j y (fun y => qd_n (by omega)) hy, fun y hy => ?_⟩
    · rw [p2_s, if_neg (by omega), qd_s, hlen]
    · rw [p2_n (by omega), p2_s]
    · rw [p2_n (by omega), p2_n (by omega)]
      exact hmem y hy
end WDs
