/-! WHAT THE ABSTRACT MACHINE SAYS OF THE REAL ONE: values, locals, heaps -/
def cv (v : AV) : Value := match v with
  | .inl i => .int (Int32.ofInt i)
  | .inr (.inl x) => .long (Int64.ofInt x)
  | .inr (.inr none) => .null
  | .inr (.inr (some a)) => .ref a
theorem cv_q (r : Option Nat) : cv (aQ r) = va_rf r := by cases r <;> rfl
theorem cv_one {v : AV} (h : one v = true) : (cv v).category = 1 := by
  rcases v with x | x | x | x
  · rfl
  · cases h
  · rfl
  · rfl
theorem cv_two {v : AV} (h : one v = false) : (cv v).category = 2 := by
  rcases v with x | x | x | x
  · cases h
  · rfl
  · cases h
  · cases h
theorem cv_le (v : AV) : (cv v).category ≤ 2 := by
  cases h : one v with
  | true => rw [cv_one h]; decide
  | false => rw [cv_two h]; exact Nat.le_refl 2
theorem cv_sum (st : List AV) : ((st.map cv).map fun v => v.category).sum ≤ 2 * st.length := by
  induction st with
  | nil => exact Nat.le_refl 0
  | cons v r ih =>
    have := cv_le v
    simp only [List.map_cons, List.sum_cons, List.length_cons]
    omega
def cA (x : AA) : (Nat → Int32) ⊕ (Nat → Int64) ⊕ (Nat → UInt32) ⊕ (Nat → UInt64) ⊕ (Nat → Option Nat) := match x with
  | .inl F => .inl (fun j => Int32.ofInt (F j))
  | .inr (.inl F) => .inr (.inl (fun j => Int64.ofInt (F j)))
  | .inr (.inr F) => .inr (.inr (.inr (.inr F)))
def cE (dA : Nat → ClassId) (x : AE) : va_E := match x with
  | .inl (t, n, y) => .inl (dA t, n, cA y)
  | .inr (ci, fs) => .inr (ci, fs.map cv)
/-- class numbers and field places; array classes by their tags; where our cells begin; the script (its cell, its length, its ints); the empty list's array; Object[]'s class object -/
abbrev EV : Type := va_G × (Nat → ClassId) × Nat × (Nat × Nat × (Nat → Int)) × Nat × Nat
abbrev EV.D (v : EV) : va_G := v.1
abbrev EV.dA (v : EV) : Nat → ClassId := v.2.1
abbrev EV.b0 (v : EV) : Nat := v.2.2.1
abbrev EV.scr (v : EV) : Nat := v.2.2.2.1.1
abbrev EV.len (v : EV) : Nat := v.2.2.2.1.2.1
abbrev EV.xs (v : EV) : Nat → Int := v.2.2.2.1.2.2
abbrev EV.aD (v : EV) : Nat := v.2.2.2.2.1
abbrev EV.aM (v : EV) : Nat := v.2.2.2.2.2
def wsOf (v : EV) (h : AH) : va_W := (List.range (h.2.1 - v.b0)).map fun k => (v.b0 + k, cE v.dA ((h.1 (v.b0 + k)).getD (.inr (0, []))))
theorem ws_len (v : EV) (h : AH) : (wsOf v h).length = h.2.1 - v.b0 := by simp [wsOf]
theorem ws_at (v : EV) (h : AH) {k : Nat} (hk : k < h.2.1 - v.b0) : (wsOf v h)[k]? = some (v.b0 + k, cE v.dA ((h.1 (v.b0 + k)).getD (.inr (0, [])))) := by
  simp [wsOf, hk]
theorem ws_get {v : EV} {h : AH} {a : Nat} {e : AE} (he : h.1 a = some e) (h1 : v.b0 ≤ a) (h2 : a < h.2.1) : (wsOf v h)[a - v.b0]? = some (a, cE v.dA e) := by
  rw [ws_at v h (by omega), show v.b0 + (a - v.b0) = a by omega, he]
  rfl
theorem ws_put {v : EV} {h : AH} {a : Nat} (e : AE) (h1 : v.b0 ≤ a) (h2 : a < h.2.1) : (wsOf v h).set (a - v.b0) (a, cE v.dA e) = wsOf v (hput h a e) := by
  apply List.ext_getElem?
  intro k
  rw [List.getElem?_set]
  by_cases hk : a - v.b0 = k
  · rw [if_pos hk, if_pos (by rw [ws_len]; omega), ws_at v (hput h a e) (by show k < h.2.1 - v.b0; omega), show v.b0 + k = a by omega]
    simp [hput, up]
  · rw [if_neg hk]
    by_cases hl : k < h.2.1 - v.b0
    · rw [ws_at v h hl, ws_at v (hput h a e) hl]
      simp [hput, up, show ¬ v.b0 + k = a by omega]
    · rw [List.getElem?_eq_none (by rw [ws_len]; omega), List.getElem?_eq_none (by rw [ws_len]; show h.2.1 - v.b0 ≤ k; omega)]
theorem ws_new {v : EV} {h : AH} (e : AE) (k0 : Nat) (h1 : v.b0 ≤ h.2.1) : wsOf v h ++ [(h.2.1, cE v.dA e)] = wsOf v (hnew h e k0) := by
  apply List.ext_getElem?
  intro k
  by_cases hl : k < h.2.1 - v.b0
  · rw [List.getElem?_append_left (by rw [ws_len]; exact hl), ws_at v h hl, ws_at v (hnew h e k0) (by show k < h.2.1 + 1 - v.b0; omega)]
    simp [hnew, up, show ¬ v.b0 + k = h.2.1 by omega]
  · rw [List.getElem?_append_right (by rw [ws_len]; omega), ws_len]
    by_cases hk : k = h.2.1 - v.b0
    · subst hk
      rw [ws_at v (hnew h e k0) (by show h.2.1 - v.b0 < h.2.1 + 1 - v.b0; omega), show v.b0 + (h.2.1 - v.b0) = h.2.1 by omega]
      simp [hnew, up]
    · rw [List.getElem?_eq_none (by simp only [List.length_cons, List.length_nil]; omega), List.getElem?_eq_none (by rw [ws_len]; show h.2.1 + 1 - v.b0 ≤ k; omega)]
theorem ws_D (v : EV) (h : AH) : va_D (fun q => v.b0 ≤ q) (wsOf v h) := by
  refine ⟨fun i j x y hx hy hxy => ?_, fun k q hq => ?_⟩
  · have hi : i < h.2.1 - v.b0 := by have := (List.getElem?_eq_some_iff.mp hx).1; rwa [ws_len] at this
    have hj : j < h.2.1 - v.b0 := by have := (List.getElem?_eq_some_iff.mp hy).1; rwa [ws_len] at this
    rw [ws_at v h hi] at hx
    rw [ws_at v h hj] at hy
    cases hx; cases hy
    have : v.b0 + i = v.b0 + j := hxy
    omega
  · have hi : k < h.2.1 - v.b0 := by have := (List.getElem?_eq_some_iff.mp hq).1; rwa [ws_len] at this
    rw [ws_at v h hi] at hq
    cases hq
    exact Nat.le_add_right _ _
/-- the cells below: the script, and the array of an empty list -/
def Low (v : EV) (a : Nat) (e : AE) : Prop := (a = v.scr ∧ e = .inl (9, v.len, .inl v.xs)) ∨ (a = v.aD ∧ e = .inl (4, 0, .inr (.inr (fun _ => none))))
def Rl (v : EV) (h : AH) (H : Heap) : Prop := v.b0 ≤ h.2.1 ∧ va_P v.D classes (wsOf v h) H ∧ (∀ a e, h.1 a = some e → (v.b0 ≤ a ∧ a < h.2.1) ∨ (a < v.b0 ∧ Low v a e)) ∧ (∀ a t n x, h.1 a = some (.inl (t, n, x)) → n < 1073741824 ∧ (v.b0 ≤ a → t < 5)) ∧ h.2.2.2 = (v.aD, v.aM)
def tysOf (v : EV) : List (ClassId × FieldType) := [(v.dA 0, .int), (v.dA 1, .long), (v.dA 2, .boolean), (v.dA 3, .object nSite), (v.dA 4, .object "java/lang/Object")]
def Lh (ls : Array Slot) (L : AL) : Prop := lv_has ls L.length [] ∧ ∀ (j : Nat) (v : AV), L[j]? = some (some v) → ls[j]? = some (.val (cv v))
theorem Lh.size {ls : Array Slot} {L : AL} (h : Lh ls L) : ls.size = L.length := h.1.1
theorem lng_of {L : AL} {j : Nat} {v : AV} (hj : L[j]? = some (some v)) (h : lng L[j]? = false) : one v = true := by
  rw [hj] at h
  rcases v with x | x | x | x
  · rfl
  · cases h
  · rfl
  · rfl
theorem sto_spec {L L' : AL} {k : Nat} {v : AV} (h : sto L k v = some L') : k < L.length ∧ L' = L.set k (some v) ∧ ∀ j, j + 1 = k → lng L[j]? = false := by
  unfold sto at h
  split at h
  · rename_i hk
    cases k with
    | zero =>
      simp only [Option.some.injEq] at h
      exact ⟨hk, h.symm, fun j hj => absurd hj (by omega)⟩
    | succ k =>
      simp only at h
      split at h
      · cases h
      · rename_i hl
        refine ⟨hk, (Option.some.inj h).symm, fun j hj => ?_⟩
        rw [show j = k by omega]
        simpa using hl
  · cases h
theorem stoL_spec {L L' : AL} {k : Nat} {v : AV} (h : stoL L k v = some L') : k + 1 < L.length ∧ L' = (L.set k (some v)).set (k + 1) none ∧ ∀ j, j + 1 = k → lng L[j]? = false := by
  unfold stoL at h
  split at h
  · rename_i hk
    cases k with
    | zero =>
      simp only [Option.some.injEq] at h
      exact ⟨hk, h.symm, fun j hj => absurd hj (by omega)⟩
    | succ k =>
      simp only at h
      split at h
      · cases h
      · rename_i hl
        refine ⟨hk, (Option.some.inj h).symm, fun j hj => ?_⟩
        rw [show j = k by omega]
        simpa using hl
  · cases h
def prs (L : AL) : List (Nat × Value) := (List.range L.length).filterMap (fun j => match L[j]? with
  | some (some v) => some (j, cv v)
  | _ => none)
theorem prs_mem {L : AL} {j : Nat} {v : AV} (h : L[j]? = some (some v)) : (j, cv v) ∈ prs L := by
  refine List.mem_filterMap.mpr ⟨j, List.mem_range.mpr (List.getElem?_eq_some_iff.mp h).1, ?_⟩
  simp [h]
theorem prs_of {L : AL} {q : Nat × Value} (h : q ∈ prs L) : ∃ v, L[q.1]? = some (some v) ∧ q.2 = cv v := by
  obtain ⟨j, -, hj⟩ := List.mem_filterMap.mp h
  split at hj
  · rename_i v hv
    cases hj
    exact ⟨v, hv, rfl⟩
  · cases hj
theorem lh_prs {ls : Array Slot} {L : AL} (h : Lh ls L) : lv_has ls L.length (prs L) := ⟨h.1.1, h.1.2.1, fun q hq => by
  obtain ⟨v, h1, h2⟩ := prs_of hq
  rw [h2]
  exact h.2 _ v h1⟩
theorem lh_set {ls : Array Slot} {L L' : AL} {k : Nat} {v : AV} (hs : sto L k v = some L') (h1 : lv_has ls L.length ((k, cv v) :: (prs L).filter (fun q => !(q.1 == k) && !(q.1 + 1 == k && q.2.category == 2)))) : Lh ls L' := by
  obtain ⟨hk, rfl, hl⟩ := sto_spec hs
  refine ⟨⟨by rw [List.length_set]; exact h1.1, h1.2.1, fun q hq => by cases hq⟩, fun j w hj => ?_⟩
  rw [List.getElem?_set] at hj
  by_cases hjk : k = j
  · rw [if_pos hjk, if_pos hk] at hj
    cases hj
    subst hjk
    exact h1.2.2 (k, cv v) (List.mem_cons_self ..)
  · rw [if_neg hjk] at hj
    refine h1.2.2 (j, cv w) (List.mem_cons_of_mem _ (List.mem_filter.mpr ⟨prs_mem hj, ?_⟩))
    have c1 : ((j : Nat) == k) = false := by simpa using fun q => hjk q.symm
    by_cases hjk2 : j + 1 = k
    · have := cv_one (lng_of hj (hl j hjk2))
      simp [c1, this]
    · simp [c1, hjk2]
theorem lh_setL {ls : Array Slot} {L L' : AL} {k : Nat} {v : AV} (hs : stoL L k v = some L') (h1 : lv_has ls L.length ((k, cv v) :: (prs L).filter (fun q => !(q.1 == k) && (!(q.1 == k + 1) && !(q.1 + 1 == k && q.2.category == 2))))) : Lh ls L' := by
  obtain ⟨hk, rfl, hl⟩ := stoL_spec hs
  refine ⟨⟨by rw [List.length_set, List.length_set]; exact h1.1, h1.2.1, fun q hq => by cases hq⟩, fun j w hj => ?_⟩
  rw [List.getElem?_set] at hj
  by_cases hj1 : k + 1 = j
  · rw [if_pos hj1] at hj
    split at hj <;> cases hj
  rw [if_neg hj1, List.getElem?_set] at hj
  by_cases hjk : k = j
  · rw [if_pos hjk, if_pos (by omega)] at hj
    cases hj
    subst hjk
    exact h1.2.2 (k, cv v) (List.mem_cons_self ..)
  · rw [if_neg hjk] at hj
    refine h1.2.2 (j, cv w) (List.mem_cons_of_mem _ (List.mem_filter.mpr ⟨prs_mem hj, ?_⟩))
    have c1 : ((j : Nat) == k) = false := by simpa using fun q => hjk q.symm
    have c2 : ((j : Nat) == k + 1) = false := by simpa using fun q => hj1 q.symm
    by_cases hjk2 : j + 1 = k
    · have := cv_one (lng_of hj (hl j hjk2))
      simp [c1, c2, this]
    · simp [c1, c2, hjk2]
/-! numbers -/
theorem i_to {x : Int} (h : inR x) : (Int32.ofInt x).toInt = x := Int32.toInt_ofInt_of_le (by have := h.1; omega) (by have := h.2; omega)
theorem l_to {x : Int} (h : inL x) : (Int64.ofInt x).toInt = x := Int64.toInt_ofInt_of_le (by have := h.1; omega) (by have := h.2; omega)
theorem i_eq {x y : Int} (hx : inR x) (hy : inR y) : Int32.ofInt x = Int32.ofInt y ↔ x = y := by
  rw [← Int32.toInt_inj, i_to hx, i_to hy]
theorem i_lt {x y : Int} (hx : inR x) (hy : inR y) : Int32.ofInt x < Int32.ofInt y ↔ x < y := by
  rw [Int32.lt_iff_toInt_lt, i_to hx, i_to hy]
theorem i_le {x y : Int} (hx : inR x) (hy : inR y) : Int32.ofInt x ≤ Int32.ofInt y ↔ x ≤ y := by
  rw [Int32.le_iff_toInt_le, i_to hx, i_to hy]
theorem i_0 : (0 : Int32) = Int32.ofInt 0 := lit0.symm
theorem i_nat {x : Int} (h : inR x) : (Int32.ofInt x).toNatClampNeg = x.toNat := by
  show (Int32.ofInt x).toInt.toNat = x.toNat
  rw [i_to h]
theorem inR_0 : inR 0 := by decide
theorem i_in {x : Int} {n : Nat} (hn : n < 1073741824) (h0 : 0 ≤ x) (h1 : x < n) : vp_in (Int32.ofInt x) n ∧ (Int32.ofInt x).toNatClampNeg = x.toNat := by
  have hx : inR x := ⟨by omega, by omega⟩
  refine ⟨fun q => ?_, i_nat hx⟩
  rcases q with q | q
  · rw [i_0, i_lt hx inR_0] at q
    omega
  · rw [i_nat hx] at q
    omega
theorem i_len {n : Nat} : Int32.ofNat n = Int32.ofInt n := Int32.ofInt_eq_ofNat.symm
theorem i_i2l {x : Int} (h : inR x) : (Int32.ofInt x).toInt64 = Int64.ofInt x := by
  rw [← Int64.ofInt_int32ToInt, i_to h]
theorem i_cmp {x y : Int} (hx : inL x) (hy : inL y) : lg_cmp (Int64.ofInt x) (Int64.ofInt y) = Int32.ofInt (if x < y then -1 else if x = y then 0 else 1) := by
  have e1 : Int64.ofInt x > Int64.ofInt y ↔ y < x := by
    show Int64.ofInt y < Int64.ofInt x ↔ _
    rw [Int64.lt_iff_toInt_lt, l_to hx, l_to hy]
  have e2 : Int64.ofInt x = Int64.ofInt y ↔ x = y := by rw [← Int64.toInt_inj, l_to hx, l_to hy]
  unfold lg_cmp
  by_cases h1 : y < x
  · rw [if_pos (e1.mpr h1), if_neg (by omega), if_neg (by omega)]
    exact lit1.symm
  · rw [if_neg (fun q => h1 (e1.mp q))]
    by_cases h2 : x = y
    · rw [if_pos (e2.mpr h2), if_neg (by omega), if_pos h2]
      exact lit0.symm
    · rw [if_neg (fun q => h2 (e2.mp q)), if_pos (by omega)]
      exact litm1.symm
theorem z_eq {x : Int} (h : inR x) : Int32.ofInt x = 0 ↔ x = 0 := by rw [i_0]; exact i_eq h inR_0
theorem z_lt {x : Int} (h : inR x) : Int32.ofInt x < 0 ↔ x < 0 := by rw [i_0]; exact i_lt h inR_0
theorem z_le {x : Int} (h : inR x) : Int32.ofInt x ≤ 0 ↔ x ≤ 0 := by rw [i_0]; exact i_le h inR_0
theorem z_ge {x : Int} (h : inR x) : 0 ≤ Int32.ofInt x ↔ 0 ≤ x := by rw [i_0]; exact i_le inR_0 h
theorem z_gt {x : Int} (h : inR x) : 0 < Int32.ofInt x ↔ 0 < x := by rw [i_0]; exact i_lt inR_0 h
/-- what holds of the cells below our own, at the method's start -/
def Lo (v : EV) (s : State) : Prop := va_X v.scr v.len (fun j => Int32.ofInt (v.xs j)) s s.heap ∧ v.scr < v.b0 ∧ va_T (.object "java/lang/Object") v.aD 0 (fun _ => .null) (fun q => v.b0 ≤ q) s s.heap ∧ va_Z "java/util/ArrayList" "DEFAULTCAPACITY_EMPTY_ELEMENTDATA" "[Ljava/lang/Object;" (.ref v.aD) (fun q => v.b0 ≤ q) s s.heap ∧ v.b0 ≤ s.heap.size
theorem tys_at (v : EV) {t : Nat} (h : t < 5) : ∃ ty, (tysOf v)[t]? = some (v.dA t, ty) := by
  match t, h with
  | 0, _ => exact ⟨_, rfl⟩
  | 1, _ => exact ⟨_, rfl⟩
  | 2, _ => exact ⟨_, rfl⟩
  | 3, _ => exact ⟨_, rfl⟩
  | 4, _ => exact ⟨_, rfl⟩
theorem upd_up (F : Nat → Int) (k : Nat) (x : Int) : upd (fun j => Int32.ofInt (F j)) k (Int32.ofInt x) = fun j => Int32.ofInt (up F k x j) := by
  funext j
  by_cases h : j = k <;> simp [upd, up, h]
theorem updL_up (F : Nat → Int) (k : Nat) (x : Int) : vp_updL (fun j => Int64.ofInt (F j)) k (Int64.ofInt x) = fun j => Int64.ofInt (up F k x j) := by
  funext j
  by_cases h : j = k <;> simp [vp_updL, up, h]
theorem vaup_up (F : Nat → Option Nat) (k : Nat) (x : Option Nat) : va_up F k x = up F k x := by
  funext j
  by_cases h : j = k <;> simp [va_up, up, h]
theorem Rl.put {v : EV} {h : AH} {H H1 : Heap} {a : Nat} {e : AE} (hR : Rl v h H) (h1 : v.b0 ≤ a) (h2 : a < h.2.1) (he : ∀ t n x, e = .inl (t, n, x) → n < 1073741824 ∧ t < 5) (hP : va_P v.D classes (wsOf v (hput h a e)) H1) : Rl v (hput h a e) H1 := by
  refine ⟨hR.1, hP, fun b e' hb => ?_, fun b t n x hb => ?_, hR.2.2.2.2⟩
  · by_cases hba : b = a
    · exact Or.inl (by rw [hba]; exact ⟨h1, h2⟩)
    · have hb' : h.1 b = some e' := by simpa [hput, up, hba] using hb
      exact hR.2.2.1 b e' hb'
  · by_cases hba : b = a
    · have hb' : e = .inl (t, n, x) := by simpa [hput, up, hba] using hb
      exact ⟨(he t n x hb').1, fun _ => (he t n x hb').2⟩
    · have hb' : h.1 b = some (.inl (t, n, x)) := by simpa [hput, up, hba] using hb
      exact hR.2.2.2.1 b t n x hb'
theorem Rl.new {v : EV} {h : AH} {H H1 : Heap} {k : Nat} {e : AE} (hR : Rl v h H) (he : ∀ t n x, e = .inl (t, n, x) → n < 1073741824 ∧ t < 5) (hP : va_P v.D classes (wsOf v (hnew h e k)) H1) : Rl v (hnew h e k) H1 := by
  refine ⟨Nat.le_succ_of_le hR.1, hP, fun b e' hb => ?_, fun b t n x hb => ?_, hR.2.2.2.2⟩
  · by_cases hba : b = h.2.1
    · refine Or.inl ⟨by rw [hba]; exact hR.1, ?_⟩
      show b < h.2.1 + 1
      omega
    · have hb' : h.1 b = some e' := by simpa [hnew, up, hba] using hb
      rcases hR.2.2.1 b e' hb' with q | q
      · exact Or.inl ⟨q.1, Nat.lt_succ_of_lt q.2⟩
      · exact Or.inr q
  · by_cases hba : b = h.2.1
    · have hb' : e = .inl (t, n, x) := by simpa [hnew, up, hba] using hb
      exact ⟨(he t n x hb').1, fun _ => (he t n x hb').2⟩
    · have hb' : h.1 b = some (.inl (t, n, x)) := by simpa [hnew, up, hba] using hb
      exact hR.2.2.2.1 b t n x hb'
/-- an object, and an array of a tag that only ours have, lies among our cells -/
theorem Rl.obj {v : EV} {h : AH} {H : Heap} {a ci : Nat} {fs : List AV} (hR : Rl v h H) (he : h.1 a = some (.inr (ci, fs))) : v.b0 ≤ a ∧ a < h.2.1 := by
  rcases hR.2.2.1 a _ he with q | ⟨-, ⟨-, q⟩ | ⟨-, q⟩⟩
  · exact q
  · cases q
  · cases q
theorem Rl.arr {v : EV} {h : AH} {H : Heap} {a t n : Nat} {x : AA} (hR : Rl v h H) (he : h.1 a = some (.inl (t, n, x))) (ht : t ≠ 9) {i : Int} (h0 : 0 ≤ i) (hi : i < n) : v.b0 ≤ a ∧ a < h.2.1 := by
  rcases hR.2.2.1 a _ he with q | ⟨-, ⟨-, q⟩ | ⟨-, q⟩⟩
  · exact q
  · cases q
    exact absurd rfl ht
  · cases q
    omega
