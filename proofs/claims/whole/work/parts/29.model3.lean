section Rows3
variable {i pc len : Nat} {st : List AV} {h h0 : AH} {Q : AR → AH → Prop} {L : AL} {am : Nat} {ad : Nat → Nat} {C C' : Nat → Int} {A A' : Nat → Nat → Int}
theorem x_top {x y : Int} (e : x = y) (k : Rn i pc L (aI y :: st) h Q) : Rn i pc L (aI x :: st) h Q := by rw [e]; exact k
theorem y_iaload {a t n m : Nat} {F : Nat → Int} {j : Int} (hk : cod i pc = some (.inl .iaload, len)) (he : h.1 a = some (.inl (t, n, .inl F))) (ht : t = 0 ∨ t = 9) (hj : j = (m : Int)) (h1 : m < n) (k : Rn i (pc + len) L (aI (F m) :: st) h Q) : Rn i pc L (aI j :: aR a :: st) h Q := by
  subst hj
  exact x_iaload hk he ht (by omega) (by omega) k
theorem y_baload {a n m : Nat} {F : Nat → Int} {j : Int} (hk : cod i pc = some (.inl .baload, len)) (he : h.1 a = some (.inl (2, n, .inl F))) (hj : j = (m : Int)) (h1 : m < n) (k : Rn i (pc + len) L (aI (F m) :: st) h Q) : Rn i pc L (aI j :: aR a :: st) h Q := by
  subst hj
  exact x_baload hk he (by omega) (by omega) k
theorem y_laload {a n m : Nat} {F : Nat → Int} {j : Int} (hk : cod i pc = some (.inl .laload, len)) (he : h.1 a = some (.inl (1, n, .inr (.inl F)))) (hj : j = (m : Int)) (h1 : m < n) (k : Rn i (pc + len) L (aL (F m) :: st) h Q) : Rn i pc L (aI j :: aR a :: st) h Q := by
  subst hj
  exact x_laload hk he (by omega) (by omega) k
theorem y_iastore {a n m : Nat} {F : Nat → Int} {j x : Int} (hk : cod i pc = some (.inl .iastore, len)) (he : h.1 a = some (.inl (0, n, .inl F))) (hj : j = (m : Int)) (h1 : m < n) (k : Rn i (pc + len) L st (hput h a (.inl (0, n, .inl (up F m x)))) Q) : Rn i pc L (aI x :: aI j :: aR a :: st) h Q := by
  subst hj
  exact x_iastore hk he (by omega) (by omega) k
theorem y_bastore {a n m : Nat} {F : Nat → Int} {j x : Int} (hk : cod i pc = some (.inl .bastore, len)) (he : h.1 a = some (.inl (2, n, .inl F))) (hx : x = 0 ∨ x = 1) (hj : j = (m : Int)) (h1 : m < n) (k : Rn i (pc + len) L st (hput h a (.inl (2, n, .inl (up F m x)))) Q) : Rn i pc L (aI x :: aI j :: aR a :: st) h Q := by
  subst hj
  exact x_bastore hk he hx (by omega) (by omega) k
theorem y_lastore {a n m : Nat} {F : Nat → Int} {j x : Int} (hk : cod i pc = some (.inl .lastore, len)) (he : h.1 a = some (.inl (1, n, .inr (.inl F)))) (hj : j = (m : Int)) (h1 : m < n) (k : Rn i (pc + len) L st (hput h a (.inl (1, n, .inr (.inl (up F m x))))) Q) : Rn i pc L (aL x :: aI j :: aR a :: st) h Q := by
  subst hj
  exact x_lastore hk he (by omega) (by omega) k
theorem mgo {h' : AH} (M' : MP am ad C' A' h') (V : Mv am ad h0 h') (k : ∀ h', MP am ad C' A' h' → Mv am ad h0 h' → Rn i pc L st h' Q) : Rn i pc L st h' Q := k h' M' V
theorem cmp_r (x y : Int) : inR (if x < y then -1 else if x = y then 0 else 1) := by split; decide; split <;> decide
theorem cmp_eq (x y : Int) : (if x < y then (-1 : Int) else if x = y then 0 else 1) = 0 ↔ x = y := by split; constructor <;> intro q <;> omega; split <;> constructor <;> intro q <;> omega
theorem cmp_ne (x y : Int) : ¬ (if x < y then (-1 : Int) else if x = y then 0 else 1) = 0 ↔ ¬ x = y := not_congr (cmp_eq x y)
theorem cmp_le (x y : Int) : (if x < y then (-1 : Int) else if x = y then 0 else 1) ≤ 0 ↔ x ≤ y := by split; constructor <;> intro q <;> omega; split <;> constructor <;> intro q <;> omega
theorem cmp_ge (x y : Int) : 0 ≤ (if x < y then (-1 : Int) else if x = y then 0 else 1) ↔ y ≤ x := by split; constructor <;> intro q <;> omega; split <;> constructor <;> intro q <;> omega
theorem cmp_lt (x y : Int) : (if x < y then (-1 : Int) else if x = y then 0 else 1) < 0 ↔ x < y := by split; constructor <;> intro q <;> omega; split <;> constructor <;> intro q <;> omega
theorem cmp_gt (x y : Int) : 0 < (if x < y then (-1 : Int) else if x = y then 0 else 1) ↔ y < x := by split; constructor <;> intro q <;> omega; split <;> constructor <;> intro q <;> omega
theorem x_ifeq_p {t : Nat} {off : Int} {P : Prop} [Decidable P] (hk : cod i pc = some (.inl (.ifCond .eq off), len)) (ht : tg pc off = t) (kt : ¬ P → Rn i t L st h Q) (kf : P → Rn i (pc + len) L st h Q) : Rn i pc L (aI (bI (decide P)) :: st) h Q :=
  x_ifeq_b hk ht (fun q => kt (of_decide_eq_false q)) (fun q => kf (of_decide_eq_true q))
theorem x_ifne_p {t : Nat} {off : Int} {P : Prop} [Decidable P] (hk : cod i pc = some (.inl (.ifCond .ne off), len)) (ht : tg pc off = t) (kt : P → Rn i t L st h Q) (kf : ¬ P → Rn i (pc + len) L st h Q) : Rn i pc L (aI (bI (decide P)) :: st) h Q :=
  x_ifne_b hk ht (fun q => kt (of_decide_eq_true q)) (fun q => kf (of_decide_eq_false q))
theorem bI_1 {P : Prop} [Decidable P] (hp : P) : (1 : Int) = bI (decide P) := by simp [bI, hp]
theorem bI_0 {P : Prop} [Decidable P] (hp : ¬ P) : (0 : Int) = bI (decide P) := by simp [bI, hp]
theorem RB.u0 {x : Int} (b : RB C A) : RB (up C 0 x) A := b
theorem RB.d1 {x : Int} (b : RB C A) (hx : 0 ≤ x ∧ x ≤ 6) : RB (up C 1 x) A := ⟨hx, b.c2, b.c3, b.c4, b.c5, b.c6, b.v0, b.v1, b.v2, b.v3, b.v4, b.v5, b.v6, b.v7, b.v8, b.v9, b.v10, b.v11, b.v12, b.v13, b.v14, b.v16, b.v17, b.v18, b.v19, b.v20, b.v21⟩
theorem RB.d2 {x : Int} (b : RB C A) (hx : 0 ≤ x ∧ x ≤ 200) : RB (up C 2 x) A := ⟨b.c1, hx, b.c3, b.c4, b.c5, b.c6, b.v0, b.v1, b.v2, b.v3, b.v4, b.v5, b.v6, b.v7, b.v8, b.v9, b.v10, b.v11, b.v12, b.v13, b.v14, b.v16, b.v17, b.v18, b.v19, b.v20, b.v21⟩
theorem RB.d3 {x : Int} (b : RB C A) (hx : 0 ≤ x ∧ x ≤ 500) : RB (up C 3 x) A := ⟨b.c1, b.c2, hx, b.c4, b.c5, b.c6, b.v0, b.v1, b.v2, b.v3, b.v4, b.v5, b.v6, b.v7, b.v8, b.v9, b.v10, b.v11, b.v12, b.v13, b.v14, b.v16, b.v17, b.v18, b.v19, b.v20, b.v21⟩
theorem RB.d4 {x : Int} (b : RB C A) (hx : 0 ≤ x ∧ x ≤ 4000) : RB (up C 4 x) A := ⟨b.c1, b.c2, b.c3, hx, b.c5, b.c6, b.v0, b.v1, b.v2, b.v3, b.v4, b.v5, b.v6, b.v7, b.v8, b.v9, b.v10, b.v11, b.v12, b.v13, b.v14, b.v16, b.v17, b.v18, b.v19, b.v20, b.v21⟩
theorem RB.d5 {x : Int} (b : RB C A) (hx : 0 ≤ x ∧ x ≤ 15000) : RB (up C 5 x) A := ⟨b.c1, b.c2, b.c3, b.c4, hx, b.c6, b.v0, b.v1, b.v2, b.v3, b.v4, b.v5, b.v6, b.v7, b.v8, b.v9, b.v10, b.v11, b.v12, b.v13, b.v14, b.v16, b.v17, b.v18, b.v19, b.v20, b.v21⟩
theorem RB.d6 {x : Int} (b : RB C A) (hx : 0 ≤ x ∧ x ≤ 1000) : RB (up C 6 x) A := ⟨b.c1, b.c2, b.c3, b.c4, b.c5, hx, b.v0, b.v1, b.v2, b.v3, b.v4, b.v5, b.v6, b.v7, b.v8, b.v9, b.v10, b.v11, b.v12, b.v13, b.v14, b.v16, b.v17, b.v18, b.v19, b.v20, b.v21⟩
theorem RB.s0 {f : Nat → Int} (b : RB C A) (hf : ∀ j, 0 ≤ f j ∧ f j < 6) : RB C (up A 0 f) := ⟨b.c1, b.c2, b.c3, b.c4, b.c5, b.c6, hf, b.v1, b.v2, b.v3, b.v4, b.v5, b.v6, b.v7, b.v8, b.v9, b.v10, b.v11, b.v12, b.v13, b.v14, b.v16, b.v17, b.v18, b.v19, b.v20, b.v21⟩
theorem RB.s1 {f : Nat → Int} (b : RB C A) (hf : ∀ j, -1 ≤ f j ∧ f j < 500) : RB C (up A 1 f) := ⟨b.c1, b.c2, b.c3, b.c4, b.c5, b.c6, b.v0, hf, b.v2, b.v3, b.v4, b.v5, b.v6, b.v7, b.v8, b.v9, b.v10, b.v11, b.v12, b.v13, b.v14, b.v16, b.v17, b.v18, b.v19, b.v20, b.v21⟩
theorem RB.s2 {f : Nat → Int} (b : RB C A) (hf : ∀ j, f j = 0 ∨ f j = 1) : RB C (up A 2 f) := ⟨b.c1, b.c2, b.c3, b.c4, b.c5, b.c6, b.v0, b.v1, hf, b.v3, b.v4, b.v5, b.v6, b.v7, b.v8, b.v9, b.v10, b.v11, b.v12, b.v13, b.v14, b.v16, b.v17, b.v18, b.v19, b.v20, b.v21⟩
theorem RB.s3 {f : Nat → Int} (b : RB C A) (hf : ∀ j, 0 ≤ f j ∧ f j < 6) : RB C (up A 3 f) := ⟨b.c1, b.c2, b.c3, b.c4, b.c5, b.c6, b.v0, b.v1, b.v2, hf, b.v4, b.v5, b.v6, b.v7, b.v8, b.v9, b.v10, b.v11, b.v12, b.v13, b.v14, b.v16, b.v17, b.v18, b.v19, b.v20, b.v21⟩
theorem RB.s4 {f : Nat → Int} (b : RB C A) (hf : ∀ j, 0 ≤ f j ∧ f j ≤ 3) : RB C (up A 4 f) := ⟨b.c1, b.c2, b.c3, b.c4, b.c5, b.c6, b.v0, b.v1, b.v2, b.v3, hf, b.v5, b.v6, b.v7, b.v8, b.v9, b.v10, b.v11, b.v12, b.v13, b.v14, b.v16, b.v17, b.v18, b.v19, b.v20, b.v21⟩
theorem RB.s5 {f : Nat → Int} (b : RB C A) (hf : ∀ j, 0 ≤ f j ∧ f j ≤ 500) : RB C (up A 5 f) := ⟨b.c1, b.c2, b.c3, b.c4, b.c5, b.c6, b.v0, b.v1, b.v2, b.v3, b.v4, hf, b.v6, b.v7, b.v8, b.v9, b.v10, b.v11, b.v12, b.v13, b.v14, b.v16, b.v17, b.v18, b.v19, b.v20, b.v21⟩
theorem RB.s6 {f : Nat → Int} (b : RB C A) (hf : ∀ j, 0 ≤ f j ∧ f j ≤ 500) : RB C (up A 6 f) := ⟨b.c1, b.c2, b.c3, b.c4, b.c5, b.c6, b.v0, b.v1, b.v2, b.v3, b.v4, b.v5, hf, b.v7, b.v8, b.v9, b.v10, b.v11, b.v12, b.v13, b.v14, b.v16, b.v17, b.v18, b.v19, b.v20, b.v21⟩
theorem RB.s7 {f : Nat → Int} (b : RB C A) (hf : ∀ j, 0 ≤ f j ∧ f j ≤ 10) : RB C (up A 7 f) := ⟨b.c1, b.c2, b.c3, b.c4, b.c5, b.c6, b.v0, b.v1, b.v2, b.v3, b.v4, b.v5, b.v6, hf, b.v8, b.v9, b.v10, b.v11, b.v12, b.v13, b.v14, b.v16, b.v17, b.v18, b.v19, b.v20, b.v21⟩
theorem RB.s8 {f : Nat → Int} (b : RB C A) (hf : ∀ j, 0 ≤ f j ∧ f j ≤ 10) : RB C (up A 8 f) := ⟨b.c1, b.c2, b.c3, b.c4, b.c5, b.c6, b.v0, b.v1, b.v2, b.v3, b.v4, b.v5, b.v6, b.v7, hf, b.v9, b.v10, b.v11, b.v12, b.v13, b.v14, b.v16, b.v17, b.v18, b.v19, b.v20, b.v21⟩
theorem RB.s9 {f : Nat → Int} (b : RB C A) (hf : ∀ j, 0 ≤ f j ∧ f j < 500) : RB C (up A 9 f) := ⟨b.c1, b.c2, b.c3, b.c4, b.c5, b.c6, b.v0, b.v1, b.v2, b.v3, b.v4, b.v5, b.v6, b.v7, b.v8, hf, b.v10, b.v11, b.v12, b.v13, b.v14, b.v16, b.v17, b.v18, b.v19, b.v20, b.v21⟩
theorem RB.s10 {f : Nat → Int} (b : RB C A) (hf : ∀ j, 0 ≤ f j ∧ f j < 200) : RB C (up A 10 f) := ⟨b.c1, b.c2, b.c3, b.c4, b.c5, b.c6, b.v0, b.v1, b.v2, b.v3, b.v4, b.v5, b.v6, b.v7, b.v8, b.v9, hf, b.v11, b.v12, b.v13, b.v14, b.v16, b.v17, b.v18, b.v19, b.v20, b.v21⟩
theorem RB.s11 {f : Nat → Int} (b : RB C A) (hf : ∀ j, -1 ≤ f j ∧ f j ≤ 1) : RB C (up A 11 f) := ⟨b.c1, b.c2, b.c3, b.c4, b.c5, b.c6, b.v0, b.v1, b.v2, b.v3, b.v4, b.v5, b.v6, b.v7, b.v8, b.v9, b.v10, hf, b.v12, b.v13, b.v14, b.v16, b.v17, b.v18, b.v19, b.v20, b.v21⟩
theorem RB.s12 {f : Nat → Int} (b : RB C A) (hf : ∀ j, inL (f j)) : RB C (up A 12 f) := ⟨b.c1, b.c2, b.c3, b.c4, b.c5, b.c6, b.v0, b.v1, b.v2, b.v3, b.v4, b.v5, b.v6, b.v7, b.v8, b.v9, b.v10, b.v11, hf, b.v13, b.v14, b.v16, b.v17, b.v18, b.v19, b.v20, b.v21⟩
theorem RB.s13 {f : Nat → Int} (b : RB C A) (hf : ∀ j, 0 ≤ f j ∧ f j ≤ 500) : RB C (up A 13 f) := ⟨b.c1, b.c2, b.c3, b.c4, b.c5, b.c6, b.v0, b.v1, b.v2, b.v3, b.v4, b.v5, b.v6, b.v7, b.v8, b.v9, b.v10, b.v11, b.v12, hf, b.v14, b.v16, b.v17, b.v18, b.v19, b.v20, b.v21⟩
theorem RB.s14 {f : Nat → Int} (b : RB C A) (hf : ∀ j, 0 ≤ f j ∧ f j ≤ 500) : RB C (up A 14 f) := ⟨b.c1, b.c2, b.c3, b.c4, b.c5, b.c6, b.v0, b.v1, b.v2, b.v3, b.v4, b.v5, b.v6, b.v7, b.v8, b.v9, b.v10, b.v11, b.v12, b.v13, hf, b.v16, b.v17, b.v18, b.v19, b.v20, b.v21⟩
theorem RB.s16 {f : Nat → Int} (b : RB C A) (hf : ∀ j, 0 ≤ f j ∧ f j < 6) : RB C (up A 16 f) := ⟨b.c1, b.c2, b.c3, b.c4, b.c5, b.c6, b.v0, b.v1, b.v2, b.v3, b.v4, b.v5, b.v6, b.v7, b.v8, b.v9, b.v10, b.v11, b.v12, b.v13, b.v14, hf, b.v17, b.v18, b.v19, b.v20, b.v21⟩
theorem RB.s17 {f : Nat → Int} (b : RB C A) (hf : ∀ j, 0 ≤ f j ∧ f j < 6) : RB C (up A 17 f) := ⟨b.c1, b.c2, b.c3, b.c4, b.c5, b.c6, b.v0, b.v1, b.v2, b.v3, b.v4, b.v5, b.v6, b.v7, b.v8, b.v9, b.v10, b.v11, b.v12, b.v13, b.v14, b.v16, hf, b.v18, b.v19, b.v20, b.v21⟩
theorem RB.s18 {f : Nat → Int} (b : RB C A) (hf : ∀ j, 0 ≤ f j ∧ f j ≤ 5) : RB C (up A 18 f) := ⟨b.c1, b.c2, b.c3, b.c4, b.c5, b.c6, b.v0, b.v1, b.v2, b.v3, b.v4, b.v5, b.v6, b.v7, b.v8, b.v9, b.v10, b.v11, b.v12, b.v13, b.v14, b.v16, b.v17, hf, b.v19, b.v20, b.v21⟩
theorem RB.s19 {f : Nat → Int} (b : RB C A) (hf : ∀ j, 0 ≤ f j ∧ f j < 500) : RB C (up A 19 f) := ⟨b.c1, b.c2, b.c3, b.c4, b.c5, b.c6, b.v0, b.v1, b.v2, b.v3, b.v4, b.v5, b.v6, b.v7, b.v8, b.v9, b.v10, b.v11, b.v12, b.v13, b.v14, b.v16, b.v17, b.v18, hf, b.v20, b.v21⟩
theorem RB.s20 {f : Nat → Int} (b : RB C A) (hf : ∀ j, 0 ≤ f j ∧ f j < 500) : RB C (up A 20 f) := ⟨b.c1, b.c2, b.c3, b.c4, b.c5, b.c6, b.v0, b.v1, b.v2, b.v3, b.v4, b.v5, b.v6, b.v7, b.v8, b.v9, b.v10, b.v11, b.v12, b.v13, b.v14, b.v16, b.v17, b.v18, b.v19, hf, b.v21⟩
theorem RB.s21 {f : Nat → Int} (b : RB C A) (hf : ∀ j, 0 ≤ f j ∧ f j ≤ 500) : RB C (up A 21 f) := ⟨b.c1, b.c2, b.c3, b.c4, b.c5, b.c6, b.v0, b.v1, b.v2, b.v3, b.v4, b.v5, b.v6, b.v7, b.v8, b.v9, b.v10, b.v11, b.v12, b.v13, b.v14, b.v16, b.v17, b.v18, b.v19, b.v20, hf⟩
theorem RB.t0 {x : Int} {m : Nat} (b : RB C A) (hx : 0 ≤ x ∧ x < 6) : RB C (up A 0 (up (A 0) m x)) := b.s0 (fun j => by unfold up; split; exact hx; exact b.v0 j)
theorem RB.t1 {x : Int} {m : Nat} (b : RB C A) (hx : -1 ≤ x ∧ x < 500) : RB C (up A 1 (up (A 1) m x)) := b.s1 (fun j => by unfold up; split; exact hx; exact b.v1 j)
theorem RB.t2 {x : Int} {m : Nat} (b : RB C A) (hx : x = 0 ∨ x = 1) : RB C (up A 2 (up (A 2) m x)) := b.s2 (fun j => by unfold up; split; exact hx; exact b.v2 j)
theorem RB.t3 {x : Int} {m : Nat} (b : RB C A) (hx : 0 ≤ x ∧ x < 6) : RB C (up A 3 (up (A 3) m x)) := b.s3 (fun j => by unfold up; split; exact hx; exact b.v3 j)
theorem RB.t4 {x : Int} {m : Nat} (b : RB C A) (hx : 0 ≤ x ∧ x ≤ 3) : RB C (up A 4 (up (A 4) m x)) := b.s4 (fun j => by unfold up; split; exact hx; exact b.v4 j)
theorem RB.t5 {x : Int} {m : Nat} (b : RB C A) (hx : 0 ≤ x ∧ x ≤ 500) : RB C (up A 5 (up (A 5) m x)) := b.s5 (fun j => by unfold up; split; exact hx; exact b.v5 j)
theorem RB.t6 {x : Int} {m : Nat} (b : RB C A) (hx : 0 ≤ x ∧ x ≤ 500) : RB C (up A 6 (up (A 6) m x)) := b.s6 (fun j => by unfold up; split; exact hx; exact b.v6 j)
theorem RB.t7 {x : Int} {m : Nat} (b : RB C A) (hx : 0 ≤ x ∧ x ≤ 10) : RB C (up A 7 (up (A 7) m x)) := b.s7 (fun j => by unfold up; split; exact hx; exact b.v7 j)
theorem RB.t8 {x : Int} {m : Nat} (b : RB C A) (hx : 0 ≤ x ∧ x ≤ 10) : RB C (up A 8 (up (A 8) m x)) := b.s8 (fun j => by unfold up; split; exact hx; exact b.v8 j)
theorem RB.t9 {x : Int} {m : Nat} (b : RB C A) (hx : 0 ≤ x ∧ x < 500) : RB C (up A 9 (up (A 9) m x)) := b.s9 (fun j => by unfold up; split; exact hx; exact b.v9 j)
theorem RB.t10 {x : Int} {m : Nat} (b : RB C A) (hx : 0 ≤ x ∧ x < 200) : RB C (up A 10 (up (A 10) m x)) := b.s10 (fun j => by unfold up; split; exact hx; exact b.v10 j)
theorem RB.t11 {x : Int} {m : Nat} (b : RB C A) (hx : -1 ≤ x ∧ x ≤ 1) : RB C (up A 11 (up (A 11) m x)) := b.s11 (fun j => by unfold up; split; exact hx; exact b.v11 j)
theorem RB.t12 {x : Int} {m : Nat} (b : RB C A) (hx : inL (x)) : RB C (up A 12 (up (A 12) m x)) := b.s12 (fun j => by unfold up; split; exact hx; exact b.v12 j)
theorem RB.t13 {x : Int} {m : Nat} (b : RB C A) (hx : 0 ≤ x ∧ x ≤ 500) : RB C (up A 13 (up (A 13) m x)) := b.s13 (fun j => by unfold up; split; exact hx; exact b.v13 j)
theorem RB.t14 {x : Int} {m : Nat} (b : RB C A) (hx : 0 ≤ x ∧ x ≤ 500) : RB C (up A 14 (up (A 14) m x)) := b.s14 (fun j => by unfold up; split; exact hx; exact b.v14 j)
theorem RB.t16 {x : Int} {m : Nat} (b : RB C A) (hx : 0 ≤ x ∧ x < 6) : RB C (up A 16 (up (A 16) m x)) := b.s16 (fun j => by unfold up; split; exact hx; exact b.v16 j)
theorem RB.t17 {x : Int} {m : Nat} (b : RB C A) (hx : 0 ≤ x ∧ x < 6) : RB C (up A 17 (up (A 17) m x)) := b.s17 (fun j => by unfold up; split; exact hx; exact b.v17 j)
theorem RB.t18 {x : Int} {m : Nat} (b : RB C A) (hx : 0 ≤ x ∧ x ≤ 5) : RB C (up A 18 (up (A 18) m x)) := b.s18 (fun j => by unfold up; split; exact hx; exact b.v18 j)
theorem RB.t19 {x : Int} {m : Nat} (b : RB C A) (hx : 0 ≤ x ∧ x < 500) : RB C (up A 19 (up (A 19) m x)) := b.s19 (fun j => by unfold up; split; exact hx; exact b.v19 j)
theorem RB.t20 {x : Int} {m : Nat} (b : RB C A) (hx : 0 ≤ x ∧ x < 500) : RB C (up A 20 (up (A 20) m x)) := b.s20 (fun j => by unfold up; split; exact hx; exact b.v20 j)
theorem RB.t21 {x : Int} {m : Nat} (b : RB C A) (hx : 0 ≤ x ∧ x ≤ 500) : RB C (up A 21 (up (A 21) m x)) := b.s21 (fun j => by unfold up; split; exact hx; exact b.v21 j)
theorem RB.s15 {f : Nat → Int} (b : RB C A) : RB C (up A 15 f) := b
end Rows3
section M3
variable {am : Nat} {ad : Nat → Nat} {C : Nat → Int} {A : Nat → Nat → Int} {h : AH} {Q : AR → AH → Prop}
abbrev badP (C : Nat → Int) (A : Nat → Nat → Int) (t o : Int) (s : Bool) : Prop := ¬ (0 ≤ t ∧ t < C 3) ∨ ¬ (0 ≤ o ∧ o < C 2) ∨ ¬ A 2 o.toNat = bI s
abbrev refP (C : Nat → Int) (A : Nat → Nat → Int) (t : Int) : Prop := (0 ≤ t ∧ t < C 3) ∧ ¬ A 4 t.toNat = 0
/-- the last op of t at o, among the first k -/
def lst (A : Nat → Nat → Int) (t o : Nat) : Nat → Int
  | 0 => 0
  | k + 1 => if A 9 k = t ∧ A 10 k = o then A 12 k else lst A t o k
theorem lp_lastOf (M : MP am ad C A h) (b : RB C A) {t o : Nat} (ht : t < 500) (ho : o < 200) (k : Q (.inl (some (aL (lst A t o (C 4).toNat)))) h) : ∀ n j : Nat, j + n = (C 4).toNat → Rn 113 5 [some (aR am), some (aI t), some (aI o), some (aL (lst A t o j)), none, some (aI j)] [] h Q := by
  intro n
  induction n using Nat.strongRecOn with | ind n ih => ?_
  intro j hj
  refine x_iload k_113_5 rfl ?_
  refine x_aload_n k_113_7 rfl ?_
  refine x_get k_113_8 M.1 rfl ?_
  have f8 := b.c4
  refine x_icmpge (t := 50) k_113_11 rfl (by show inR ((j : Int)) ∧ inR (C 4); omega) (fun hb => ?_) (fun hb => ?_)
  · have c11 : C 4 ≤ (j : Int) := hb
    refine x_lload_n k_113_50 rfl ?_
    refine x_lreturn k_113_51 ?_
    have e : (C 4).toNat = j := by omega
    rw [e] at k
    exact k
  · have c11 : ¬ (C 4 ≤ (j : Int)) := hb
    refine x_aload_n k_113_14 rfl ?_
    refine x_get k_113_15 M.1 rfl ?_
    refine x_iload k_113_18 rfl ?_
    refine y_iaload (m := j) k_113_20 M.a9 (Or.inl rfl) rfl (by omega) ?_
    have f20 := b.v9 (j)
    refine x_iload_n k_113_21 rfl ?_
    refine x_icmpne (t := 44) k_113_22 rfl (by show inR (A 9 j) ∧ inR ((t : Int)); omega) (fun hb => ?_) (fun hb => ?_)
    · have c22 : ¬ A 9 j = (t : Int) := hb
      refine x_inc5 k_113_44 rfl ?_
      refine x_goto (t := 5) k_113_47 rfl ?_
      rw [show lst A t o j = lst A t o (j + 1) by simp only [lst]; rw [if_neg (by omega)]]
      exact ih (n - 1) (by omega) (j + 1) (by omega)
    · have c22 : ¬ (¬ A 9 j = (t : Int)) := hb
      refine x_aload_n k_113_25 rfl ?_
      refine x_get k_113_26 M.1 rfl ?_
      refine x_iload k_113_29 rfl ?_
      refine y_iaload (m := j) k_113_31 M.a10 (Or.inl rfl) rfl (by omega) ?_
      have f31 := b.v10 (j)
      refine x_iload_n k_113_32 rfl ?_
      refine x_icmpne (t := 44) k_113_33 rfl (by show inR (A 10 j) ∧ inR ((o : Int)); omega) (fun hb => ?_) (fun hb => ?_)
      · have c33 : ¬ A 10 j = (o : Int) := hb
        refine x_inc5 k_113_44 rfl ?_
        refine x_goto (t := 5) k_113_47 rfl ?_
        rw [show lst A t o j = lst A t o (j + 1) by simp only [lst]; rw [if_neg (by omega)]]
        exact ih (n - 1) (by omega) (j + 1) (by omega)
      · have c33 : ¬ (¬ A 10 j = (o : Int)) := hb
        refine x_aload_n k_113_36 rfl ?_
        refine x_get k_113_37 M.1 rfl ?_
        refine x_iload k_113_40 rfl ?_
        refine y_laload (m := j) k_113_42 M.a12 rfl (by omega) ?_
        have f42 := b.v12 (j)
        refine x_ls3n k_113_43 rfl ?_
        refine x_inc5 k_113_44 rfl ?_
        refine x_goto (t := 5) k_113_47 rfl ?_
        rw [show A 12 j = lst A t o (j + 1) by simp only [lst]; rw [if_pos ⟨by omega, by omega⟩]]
        exact ih (n - 1) (by omega) (j + 1) (by omega)
theorem r_lastOf (M : MP am ad C A h) (b : RB C A) {t o : Nat} (ht : t < 500) (ho : o < 200) (k : Q (.inl (some (aL (lst A t o (C 4).toNat)))) h) : Rn 113 0 (entL 113 [aR am, aI t, aI o]) [] h Q := by
  show Rn 113 0 [some (aR am), some (aI t), some (aI o), none, none, none] [] h Q
  refine x_lconst k_113_0 ?_
  refine x_ls3n k_113_1 rfl ?_
  refine x_iconst k_113_2 ?_
  refine x_is5 k_113_3 rfl ?_
  exact lp_lastOf M b ht ho k (C 4).toNat 0 (by omega)
/-- one more op -/
def didC (C : Nat → Int) : Nat → Int := up C 4 (C 4 + 1)
def didA (C : Nat → Int) (A : Nat → Nat → Int) (t o v s : Int) : Nat → Nat → Int := up (up (up (up A 9 (up (A 9) (C 4).toNat t)) 10 (up (A 10) (C 4).toNat o)) 12 (up (A 12) (C 4).toNat v)) 11 (up (A 11) (C 4).toNat s)
theorem r_did (M : MP am ad C A h) (b : RB C A) {t o v s : Int} (k : ∀ h', MP am ad (didC C) (didA C A t o v s) h' → Mv am ad h h' → Q (.inl none) h') : Rn 116 0 (entL 116 [aR am, aI t, aI o, aL v, aI s]) [] h Q := by
  show Rn 116 0 [some (aR am), some (aI t), some (aI o), some (aL v), none, some (aI s)] [] h Q
  have V : Mv am ad h h := Mv.rf
  refine x_aload_n k_116_0 rfl ?_
  refine x_get k_116_1 M.1 rfl ?_
  refine x_aload_n k_116_4 rfl ?_
  refine x_get k_116_5 M.1 rfl ?_
  have f5 := b.c4
  refine x_iload_n k_116_8 rfl ?_
  refine y_iastore (m := (C 4).toNat) k_116_9 M.a9 (by omega) (by omega) ?_
  refine mgo (M.s9 _) (V.tr (Mv.ma (Nat.le_of_ble_eq_true rfl))) (fun h M V => ?_)
  obtain ⟨A9, eA9⟩ : ∃ B, B = up A 9 (up (A 9) ((C 4).toNat) (t)) := ⟨_, rfl⟩
  have M : MP am ad C A9 h := by rw [eA9]; exact M
  refine x_aload_n k_116_10 rfl ?_
  refine x_get k_116_11 M.1 rfl ?_
  refine x_aload_n k_116_14 rfl ?_
  refine x_get k_116_15 M.1 rfl ?_
  have f15 := b.c4
  refine x_iload_n k_116_18 rfl ?_
  refine y_iastore (m := (C 4).toNat) k_116_19 M.a10 (by omega) (by omega) ?_
  refine mgo (M.s10 _) (V.tr (Mv.ma (Nat.le_of_ble_eq_true rfl))) (fun h M V => ?_)
  obtain ⟨A19, eA19⟩ : ∃ B, B = up A9 10 (up (A9 10) ((C 4).toNat) (o)) := ⟨_, rfl⟩
  have M : MP am ad C A19 h := by rw [eA19]; exact M
  refine x_aload_n k_116_20 rfl ?_
  refine x_get k_116_21 M.1 rfl ?_
  refine x_aload_n k_116_24 rfl ?_
  refine x_get k_116_25 M.1 rfl ?_
  have f25 := b.c4
  refine x_lload_n k_116_28 rfl ?_
  refine y_lastore (m := (C 4).toNat) k_116_29 M.a12 (by omega) (by omega) ?_
  refine mgo (M.s12 _) (V.tr (Mv.ma (Nat.le_of_ble_eq_true rfl))) (fun h M V => ?_)
  obtain ⟨A29, eA29⟩ : ∃ B, B = up A19 12 (up (A19 12) ((C 4).toNat) (v)) := ⟨_, rfl⟩
  have M : MP am ad C A29 h := by rw [eA29]; exact M
  refine x_aload_n k_116_30 rfl ?_
  refine x_get k_116_31 M.1 rfl ?_
  refine x_aload_n k_116_34 rfl ?_
  refine x_get k_116_35 M.1 rfl ?_
  have f35 := b.c4
  refine x_iload k_116_38 rfl ?_
  refine y_iastore (m := (C 4).toNat) k_116_40 M.a11 (by omega) (by omega) ?_
  refine mgo (M.s11 _) (V.tr (Mv.ma (Nat.le_of_ble_eq_true rfl))) (fun h M V => ?_)
  obtain ⟨A40, eA40⟩ : ∃ B, B = up A29 11 (up (A29 11) ((C 4).toNat) (s)) := ⟨_, rfl⟩
  have M : MP am ad C A40 h := by rw [eA40]; exact M
  refine x_aload_n k_116_41 rfl ?_
  refine x_dup k_116_42 rfl ?_
  refine x_get k_116_43 M.1 rfl ?_
  have f43 := b.c4
  refine x_iconst k_116_46 ?_
  refine x_iadd k_116_47 ?_
  refine x_put k_116_48 M.1 (Nat.le_of_ble_eq_true rfl) rfl ?_
  refine mgo (M.c4 _) (V.tr Mv.mo) (fun h M V => ?_)
  obtain ⟨C48, eC48⟩ : ∃ B, B = up C 4 ((C 4 + 1)) := ⟨_, rfl⟩
  have M : MP am ad C48 A40 h := by rw [eC48]; exact M
  refine x_return k_116_51 ?_
  refine k h ?_ V
  subst eA40
  subst eA29
  subst eA19
  subst eA9
  subst eC48
  exact M
theorem r_isWrong (M : MP am ad C A h) (b : RB C A) {t o : Int} {s : Bool} (ht : inR t) (ho : inR o) (k : ∀ h', MP am ad (up C 0 (wcd (decide (badP C A t o s)) (decide (refP C A t)))) A h' → Mv am ad h h' → Q (.inl (some (aI (bI (decide (wcd (decide (badP C A t o s)) (decide (refP C A t)) ≠ 0)))))) h') : Rn 109 0 (entL 109 [aR am, aI t, aI o, aI (bI s)]) [] h Q := by
  show Rn 109 0 [some (aR am), some (aI t), some (aI o), some (aI (bI s))] [] h Q
  have c2 := b.c2
  have c3 := b.c3
  have bs := bI_01 s
  have J54 : ∀ y : Int, y = bI (decide (refP C A t)) → Rn 109 54 [some (aR am), some (aI t), some (aI o), some (aI (bI s))] [aI y, aI (bI (decide (badP C A t o s))), aR am] h Q := by
    intro y hy
    subst hy
    refine x_call3 k_109_54 (Nat.le_of_ble_eq_true rfl) (rcv_1 M.1) (Nat.le_of_ble_eq_true rfl) ?_
    refine r_fails M (fun h' M' V' => bh_1 ?_)
    refine x_zreturn k_109_57 rfl (bI_01 _) ?_
    exact k h' M' V'
  have J32 : ∀ x : Int, x = bI (decide (badP C A t o s)) → Rn 109 32 [some (aR am), some (aI t), some (aI o), some (aI (bI s))] [aI x, aR am] h Q := by
    intro x hx
    subst hx
    refine x_aload_n k_109_32 rfl ?_
    refine x_iload_n k_109_33 rfl ?_
    refine x_call2 k_109_34 (Nat.le_of_ble_eq_true rfl) (rcv_1 M.1) (Nat.le_of_ble_eq_true rfl) ?_
    refine r_isTran M (by omega) (by omega) (bh_1 ?_)
    refine x_ifeq_p (t := 53) k_109_37 rfl (fun c37 => ?_) (fun c37 => ?_)
    · refine x_iconst k_109_53 ?_
      exact J54 0 (bI_0 (by unfold refP; omega))
    · refine x_aload_n k_109_40 rfl ?_
      refine x_get k_109_41 M.1 rfl ?_
      refine x_iload_n k_109_44 rfl ?_
      refine y_iaload (m := t.toNat) k_109_45 M.a4 (Or.inl rfl) (by omega) (by omega) ?_
      have f45 := b.v4 (t.toNat)
      refine x_ifeq (t := 53) k_109_46 rfl (by show inR (A 4 (t.toNat)); omega) (fun hb => ?_) (fun hb => ?_)
      · have c46 : A 4 (t.toNat) = 0 := hb
        refine x_iconst k_109_53 ?_
        exact J54 0 (bI_0 (by unfold refP; omega))
      · have c46 : ¬ (A 4 (t.toNat) = 0) := hb
        refine x_iconst k_109_49 ?_
        refine x_goto (t := 54) k_109_50 rfl ?_
        exact J54 1 (bI_1 (by unfold refP; omega))
  refine x_aload_n k_109_0 rfl ?_
  refine x_aload_n k_109_1 rfl ?_
  refine x_iload_n k_109_2 rfl ?_
  refine x_call2 k_109_3 (Nat.le_of_ble_eq_true rfl) (rcv_1 M.1) (Nat.le_of_ble_eq_true rfl) ?_
  refine r_isTran M (by omega) (by omega) (bh_1 ?_)
  refine x_ifeq_p (t := 27) k_109_6 rfl (fun c6 => ?_) (fun c6 => ?_)
  · refine x_iconst k_109_27 ?_
    refine x_goto (t := 32) k_109_28 rfl ?_
    exact J32 1 (bI_1 (by unfold badP; omega))
  · refine x_aload_n k_109_9 rfl ?_
    refine x_iload_n k_109_10 rfl ?_
    refine x_call2 k_109_11 (Nat.le_of_ble_eq_true rfl) (rcv_1 M.1) (Nat.le_of_ble_eq_true rfl) ?_
    refine r_isObject M (by omega) (by omega) (bh_1 ?_)
    refine x_ifeq_p (t := 27) k_109_14 rfl (fun c14 => ?_) (fun c14 => ?_)
    · refine x_iconst k_109_27 ?_
      refine x_goto (t := 32) k_109_28 rfl ?_
      exact J32 1 (bI_1 (by unfold badP; omega))
    · refine x_aload_n k_109_17 rfl ?_
      refine x_get k_109_18 M.1 rfl ?_
      refine x_iload_n k_109_21 rfl ?_
      refine y_baload (m := o.toNat) k_109_22 M.a2 (by omega) (by omega) ?_
      have f22 := b.v2 (o.toNat)
      refine x_iload_n k_109_23 rfl ?_
      refine x_icmpeq (t := 31) k_109_24 rfl (by show inR (A 2 (o.toNat)) ∧ inR (bI (s)); omega) (fun hb => ?_) (fun hb => ?_)
      · have c24 : A 2 (o.toNat) = bI (s) := hb
        refine x_iconst k_109_31 ?_
        exact J32 0 (bI_0 (by unfold badP; omega))
      · have c24 : ¬ (A 2 (o.toNat) = bI (s)) := hb
        refine x_iconst k_109_27 ?_
        refine x_goto (t := 32) k_109_28 rfl ?_
        exact J32 1 (bI_1 (by unfold badP; omega))
end M3
