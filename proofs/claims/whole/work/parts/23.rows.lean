section Rows
variable {i pc len : Nat} {L : AL} {st : List AV} {h : AH} {Q : AR → AH → Prop}
theorem x_iconst {n : Int} (hk : cod i pc = some (.inl (.iconst n), len))  (k : Rn i (pc + len) L (aI n :: st) h Q) : Rn i pc L st h Q := Rn.step (by
  rw [stp, hk]
  show wrp (nx (pc + len) L (aI n :: st) h) = _
  rfl) k
theorem x_bipush {n : Int} (hk : cod i pc = some (.inl (.bipush n), len))  (k : Rn i (pc + len) L (aI n :: st) h Q) : Rn i pc L st h Q := Rn.step (by
  rw [stp, hk]
  show wrp (nx (pc + len) L (aI n :: st) h) = _
  rfl) k
theorem x_sipush {n : Int} (hk : cod i pc = some (.inl (.sipush n), len))  (k : Rn i (pc + len) L (aI n :: st) h Q) : Rn i pc L st h Q := Rn.step (by
  rw [stp, hk]
  show wrp (nx (pc + len) L (aI n :: st) h) = _
  rfl) k
theorem x_lconst {n : Fin 2} (hk : cod i pc = some (.inl (.lconst n), len))  (k : Rn i (pc + len) L (aL ((n : Nat) : Int) :: st) h Q) : Rn i pc L st h Q := Rn.step (by
  rw [stp, hk]
  show wrp (nx (pc + len) L (aL ((n : Nat) : Int) :: st) h) = _
  rfl) k
theorem x_null  (hk : cod i pc = some (.inl .aconst_null, len))  (k : Rn i (pc + len) L (aN :: st) h Q) : Rn i pc L st h Q := Rn.step (by
  rw [stp, hk]
  show wrp (nx (pc + len) L (aN :: st) h) = _
  rfl) k
theorem x_iload {k0 : Nat} {x : Int} (hk : cod i pc = some (.inl (.iload k0), len)) (hL : L[k0]? = some (some (aI x))) (k : Rn i (pc + len) L (aI x :: st) h Q) : Rn i pc L st h Q := Rn.step (by
  rw [stp, hk]
  show wrp (o_ldI k0 (pc + len) L st h) = _
  unfold o_ldI
  rw [hL]
  rfl) k
theorem x_iload_n {k0 : Fin 4} {x : Int} (hk : cod i pc = some (.inl (.iload_n k0), len)) (hL : L[k0.val]? = some (some (aI x))) (k : Rn i (pc + len) L (aI x :: st) h Q) : Rn i pc L st h Q := Rn.step (by
  rw [stp, hk]
  show wrp (o_ldI k0.val (pc + len) L st h) = _
  unfold o_ldI
  rw [hL]
  rfl) k
theorem x_lload {k0 : Nat} {x : Int} (hk : cod i pc = some (.inl (.lload k0), len)) (hL : L[k0]? = some (some (aL x))) (k : Rn i (pc + len) L (aL x :: st) h Q) : Rn i pc L st h Q := Rn.step (by
  rw [stp, hk]
  show wrp (o_ldL k0 (pc + len) L st h) = _
  unfold o_ldL
  rw [hL]
  rfl) k
theorem x_lload_n {k0 : Fin 4} {x : Int} (hk : cod i pc = some (.inl (.lload_n k0), len)) (hL : L[k0.val]? = some (some (aL x))) (k : Rn i (pc + len) L (aL x :: st) h Q) : Rn i pc L st h Q := Rn.step (by
  rw [stp, hk]
  show wrp (o_ldL k0.val (pc + len) L st h) = _
  unfold o_ldL
  rw [hL]
  rfl) k
theorem x_aload {k0 : Nat} {x : Option Nat} (hk : cod i pc = some (.inl (.aload k0), len)) (hL : L[k0]? = some (some (aQ x))) (k : Rn i (pc + len) L (aQ x :: st) h Q) : Rn i pc L st h Q := Rn.step (by
  rw [stp, hk]
  show wrp (o_ldA k0 (pc + len) L st h) = _
  unfold o_ldA
  rw [hL]
  rfl) k
theorem x_aload_n {k0 : Fin 4} {x : Option Nat} (hk : cod i pc = some (.inl (.aload_n k0), len)) (hL : L[k0.val]? = some (some (aQ x))) (k : Rn i (pc + len) L (aQ x :: st) h Q) : Rn i pc L st h Q := Rn.step (by
  rw [stp, hk]
  show wrp (o_ldA k0.val (pc + len) L st h) = _
  unfold o_ldA
  rw [hL]
  rfl) k
theorem x_istore {k0 : Nat} {x : Int} {L' : AL} (hk : cod i pc = some (.inl (.istore k0), len)) (hL : sto L k0 (aI x) = some L') (k : Rn i (pc + len) L' st h Q) : Rn i pc L (aI x :: st) h Q := Rn.step (by
  rw [stp, hk]
  show wrp (o_stI k0 (pc + len) L (aI x :: st) h) = _
  show wrp (match sto L k0 (aI x) with
      | some L' => nx (pc + len) L' st h
      | none => none) = _
  rw [hL]
  rfl) k
theorem x_istore_n {k0 : Fin 4} {x : Int} {L' : AL} (hk : cod i pc = some (.inl (.istore_n k0), len)) (hL : sto L k0.val (aI x) = some L') (k : Rn i (pc + len) L' st h Q) : Rn i pc L (aI x :: st) h Q := Rn.step (by
  rw [stp, hk]
  show wrp (o_stI k0.val (pc + len) L (aI x :: st) h) = _
  show wrp (match sto L k0.val (aI x) with
      | some L' => nx (pc + len) L' st h
      | none => none) = _
  rw [hL]
  rfl) k
theorem x_lstore {k0 : Nat} {x : Int} {L' : AL} (hk : cod i pc = some (.inl (.lstore k0), len)) (hL : stoL L k0 (aL x) = some L') (k : Rn i (pc + len) L' st h Q) : Rn i pc L (aL x :: st) h Q := Rn.step (by
  rw [stp, hk]
  show wrp (o_stL k0 (pc + len) L (aL x :: st) h) = _
  show wrp (match stoL L k0 (aL x) with
      | some L' => nx (pc + len) L' st h
      | none => none) = _
  rw [hL]
  rfl) k
theorem x_lstore_n {k0 : Fin 4} {x : Int} {L' : AL} (hk : cod i pc = some (.inl (.lstore_n k0), len)) (hL : stoL L k0.val (aL x) = some L') (k : Rn i (pc + len) L' st h Q) : Rn i pc L (aL x :: st) h Q := Rn.step (by
  rw [stp, hk]
  show wrp (o_stL k0.val (pc + len) L (aL x :: st) h) = _
  show wrp (match stoL L k0.val (aL x) with
      | some L' => nx (pc + len) L' st h
      | none => none) = _
  rw [hL]
  rfl) k
theorem x_astore {k0 : Nat} {x : Option Nat} {L' : AL} (hk : cod i pc = some (.inl (.astore k0), len)) (hL : sto L k0 (aQ x) = some L') (k : Rn i (pc + len) L' st h Q) : Rn i pc L (aQ x :: st) h Q := Rn.step (by
  rw [stp, hk]
  show wrp (o_stA k0 (pc + len) L (aQ x :: st) h) = _
  show wrp (match sto L k0 (aQ x) with
      | some L' => nx (pc + len) L' st h
      | none => none) = _
  rw [hL]
  rfl) k
theorem x_astore_n {k0 : Fin 4} {x : Option Nat} {L' : AL} (hk : cod i pc = some (.inl (.astore_n k0), len)) (hL : sto L k0.val (aQ x) = some L') (k : Rn i (pc + len) L' st h Q) : Rn i pc L (aQ x :: st) h Q := Rn.step (by
  rw [stp, hk]
  show wrp (o_stA k0.val (pc + len) L (aQ x :: st) h) = _
  show wrp (match sto L k0.val (aQ x) with
      | some L' => nx (pc + len) L' st h
      | none => none) = _
  rw [hL]
  rfl) k
theorem x_iinc {k0 : Nat} {n x : Int} {L' : AL} (hk : cod i pc = some (.inl (.iinc k0 n), len)) (hx : L[k0]? = some (some (aI x))) (hL : sto L k0 (aI (x + n)) = some L') (k : Rn i (pc + len) L' st h Q) : Rn i pc L st h Q := Rn.step (by
  rw [stp, hk]
  show wrp (o_inc k0 n (pc + len) L st h) = _
  unfold o_inc
  rw [hx]
  show wrp (match sto L k0 (aI (x + n)) with
      | some L' => nx (pc + len) L' st h
      | none => none) = _
  rw [hL]
  rfl) k
theorem x_iadd {x y : Int} (hk : cod i pc = some (.inl .iadd, len))  (k : Rn i (pc + len) L (aI (x + y) :: st) h Q) : Rn i pc L (aI y :: aI x :: st) h Q := Rn.step (by
  rw [stp, hk]
  show wrp (nx (pc + len) L (aI (x + y) :: st) h) = _
  rfl) k
theorem x_isub {x y : Int} (hk : cod i pc = some (.inl .isub, len))  (k : Rn i (pc + len) L (aI (x - y) :: st) h Q) : Rn i pc L (aI y :: aI x :: st) h Q := Rn.step (by
  rw [stp, hk]
  show wrp (nx (pc + len) L (aI (x - y) :: st) h) = _
  rfl) k
theorem x_imul {x y : Int} (hk : cod i pc = some (.inl .imul, len))  (k : Rn i (pc + len) L (aI (x * y) :: st) h Q) : Rn i pc L (aI y :: aI x :: st) h Q := Rn.step (by
  rw [stp, hk]
  show wrp (nx (pc + len) L (aI (x * y) :: st) h) = _
  rfl) k
theorem x_iand {x y : Int} (hk : cod i pc = some (.inl .iand, len))  (k : Rn i (pc + len) L (aI (f_and x y) :: st) h Q) : Rn i pc L (aI y :: aI x :: st) h Q := Rn.step (by
  rw [stp, hk]
  show wrp (nx (pc + len) L (aI (f_and x y) :: st) h) = _
  rfl) k
theorem x_ishr {x y : Int} (hk : cod i pc = some (.inl .ishr, len))  (k : Rn i (pc + len) L (aI (f_shr x y) :: st) h Q) : Rn i pc L (aI y :: aI x :: st) h Q := Rn.step (by
  rw [stp, hk]
  show wrp (nx (pc + len) L (aI (f_shr x y) :: st) h) = _
  rfl) k
theorem x_idiv {x y : Int} (hk : cod i pc = some (.inl .idiv, len)) (hc : inR x ∧ inR y ∧ 0 < y) (k : Rn i (pc + len) L (aI (x.tdiv y) :: st) h Q) : Rn i pc L (aI y :: aI x :: st) h Q := Rn.step (by
  rw [stp, hk]
  show wrp ((if inR x ∧ inR y ∧ 0 < y then nx (pc + len) L (aI (x.tdiv y) :: st) h else none)) = _
  rw [if_pos hc]
  rfl) k
theorem x_land {x y : Int} (hk : cod i pc = some (.inl .land, len))  (k : Rn i (pc + len) L (aL (f_land x y) :: st) h Q) : Rn i pc L (aL y :: aL x :: st) h Q := Rn.step (by
  rw [stp, hk]
  show wrp (nx (pc + len) L (aL (f_land x y) :: st) h) = _
  rfl) k
theorem x_lor {x y : Int} (hk : cod i pc = some (.inl .lor, len))  (k : Rn i (pc + len) L (aL (f_lor x y) :: st) h Q) : Rn i pc L (aL y :: aL x :: st) h Q := Rn.step (by
  rw [stp, hk]
  show wrp (nx (pc + len) L (aL (f_lor x y) :: st) h) = _
  rfl) k
theorem x_lshl {x y : Int} (hk : cod i pc = some (.inl .lshl, len))  (k : Rn i (pc + len) L (aL (f_lshl x y) :: st) h Q) : Rn i pc L (aI y :: aL x :: st) h Q := Rn.step (by
  rw [stp, hk]
  show wrp (nx (pc + len) L (aL (f_lshl x y) :: st) h) = _
  rfl) k
theorem x_i2l {x : Int} (hk : cod i pc = some (.inl .i2l, len)) (hc : inR x) (k : Rn i (pc + len) L (aL x :: st) h Q) : Rn i pc L (aI x :: st) h Q := Rn.step (by
  rw [stp, hk]
  show wrp ((if inR x then nx (pc + len) L (aL x :: st) h else none)) = _
  rw [if_pos hc]
  rfl) k
theorem x_l2i {x : Int} (hk : cod i pc = some (.inl .l2i, len))  (k : Rn i (pc + len) L (aI x :: st) h Q) : Rn i pc L (aL x :: st) h Q := Rn.step (by
  rw [stp, hk]
  show wrp (nx (pc + len) L (aI x :: st) h) = _
  rfl) k
theorem x_lcmp {x y : Int} (hk : cod i pc = some (.inl .lcmp, len)) (hc : inL x ∧ inL y) (k : Rn i (pc + len) L (aI (if x < y then -1 else if x = y then 0 else 1) :: st) h Q) : Rn i pc L (aL y :: aL x :: st) h Q := Rn.step (by
  rw [stp, hk]
  show wrp ((if inL x ∧ inL y then nx (pc + len) L (aI (if x < y then -1 else if x = y then 0 else 1) :: st) h else none)) = _
  rw [if_pos hc]
  rfl) k
theorem x_dup {w : AV} (hk : cod i pc = some (.inl .dup, len)) (hc : one w = true) (k : Rn i (pc + len) L (w :: w :: st) h Q) : Rn i pc L (w :: st) h Q := Rn.step (by
  rw [stp, hk]
  show wrp ((if one w then nx (pc + len) L (w :: w :: st) h else none)) = _
  rw [if_pos hc]
  rfl) k
theorem x_pop {w : AV} (hk : cod i pc = some (.inl .pop, len)) (hc : one w = true) (k : Rn i (pc + len) L st h Q) : Rn i pc L (w :: st) h Q := Rn.step (by
  rw [stp, hk]
  show wrp ((if one w then nx (pc + len) L st h else none)) = _
  rw [if_pos hc]
  rfl) k
theorem x_dup_x1 {w x : AV} (hk : cod i pc = some (.inl .dup_x1, len)) (hc : (one w && one x) = true) (k : Rn i (pc + len) L (w :: x :: w :: st) h Q) : Rn i pc L (w :: x :: st) h Q := Rn.step (by
  rw [stp, hk]
  show wrp ((if one w && one x then nx (pc + len) L (w :: x :: w :: st) h else none)) = _
  rw [if_pos hc]
  rfl) k
theorem x_dup2 {w x : AV} (hk : cod i pc = some (.inl .dup2, len)) (hc : (one w && one x) = true) (k : Rn i (pc + len) L (w :: x :: w :: x :: st) h Q) : Rn i pc L (w :: x :: st) h Q := Rn.step (by
  rw [stp, hk]
  show wrp ((if one w && one x then nx (pc + len) L (w :: x :: w :: x :: st) h else none)) = _
  rw [if_pos hc]
  rfl) k
theorem x_goto {off : Int} {t : Nat} (hk : cod i pc = some (.inl (.goto off), len)) (ht : tg pc off = t) (k : Rn i t L st h Q) : Rn i pc L st h Q := Rn.step (by
  rw [stp, hk]
  show wrp (nx (tg pc off) L st h) = _
  rw [ht]
  rfl) k
theorem x_ifeq {off x : Int} {t : Nat} (hk : cod i pc = some (.inl (.ifCond .eq off), len)) (ht : tg pc off = t) (hr : inR x) (kt : x = 0 → Rn i t L st h Q) (kf : ¬ (x = 0) → Rn i (pc + len) L st h Q) : Rn i pc L (aI x :: st) h Q := by
  by_cases hb : x = 0
  · refine Rn.step ?_ (kt hb)
    rw [stp, hk]
    show wrp (if inR x then (if cmpI .eq x 0 then nx (tg pc off) L st h else nx (pc + len) L st h) else none) = _
    rw [if_pos hr, if_pos (by simpa [cmpI] using hb), ht]
    rfl
  · refine Rn.step ?_ (kf hb)
    rw [stp, hk]
    show wrp (if inR x then (if cmpI .eq x 0 then nx (tg pc off) L st h else nx (pc + len) L st h) else none) = _
    rw [if_pos hr, if_neg (by simpa [cmpI] using hb)]
    rfl
theorem x_ifne {off x : Int} {t : Nat} (hk : cod i pc = some (.inl (.ifCond .ne off), len)) (ht : tg pc off = t) (hr : inR x) (kt : ¬ x = 0 → Rn i t L st h Q) (kf : ¬ (¬ x = 0) → Rn i (pc + len) L st h Q) : Rn i pc L (aI x :: st) h Q := by
  by_cases hb : ¬ x = 0
  · refine Rn.step ?_ (kt hb)
    rw [stp, hk]
    show wrp (if inR x then (if cmpI .ne x 0 then nx (tg pc off) L st h else nx (pc + len) L st h) else none) = _
    rw [if_pos hr, if_pos (by simpa [cmpI] using hb), ht]
    rfl
  · refine Rn.step ?_ (kf hb)
    rw [stp, hk]
    show wrp (if inR x then (if cmpI .ne x 0 then nx (tg pc off) L st h else nx (pc + len) L st h) else none) = _
    rw [if_pos hr, if_neg (by simpa [cmpI] using hb)]
    rfl
theorem x_iflt {off x : Int} {t : Nat} (hk : cod i pc = some (.inl (.ifCond .lt off), len)) (ht : tg pc off = t) (hr : inR x) (kt : x < 0 → Rn i t L st h Q) (kf : ¬ (x < 0) → Rn i (pc + len) L st h Q) : Rn i pc L (aI x :: st) h Q := by
  by_cases hb : x < 0
  · refine Rn.step ?_ (kt hb)
    rw [stp, hk]
    show wrp (if inR x then (if cmpI .lt x 0 then nx (tg pc off) L st h else nx (pc + len) L st h) else none) = _
    rw [if_pos hr, if_pos (by simpa [cmpI] using hb), ht]
    rfl
  · refine Rn.step ?_ (kf hb)
    rw [stp, hk]
    show wrp (if inR x then (if cmpI .lt x 0 then nx (tg pc off) L st h else nx (pc + len) L st h) else none) = _
    rw [if_pos hr, if_neg (by simpa [cmpI] using hb)]
    rfl
theorem x_ifge {off x : Int} {t : Nat} (hk : cod i pc = some (.inl (.ifCond .ge off), len)) (ht : tg pc off = t) (hr : inR x) (kt : 0 ≤ x → Rn i t L st h Q) (kf : ¬ (0 ≤ x) → Rn i (pc + len) L st h Q) : Rn i pc L (aI x :: st) h Q := by
  by_cases hb : 0 ≤ x
  · refine Rn.step ?_ (kt hb)
    rw [stp, hk]
    show wrp (if inR x then (if cmpI .ge x 0 then nx (tg pc off) L st h else nx (pc + len) L st h) else none) = _
    rw [if_pos hr, if_pos (by simpa [cmpI] using hb), ht]
    rfl
  · refine Rn.step ?_ (kf hb)
    rw [stp, hk]
    show wrp (if inR x then (if cmpI .ge x 0 then nx (tg pc off) L st h else nx (pc + len) L st h) else none) = _
    rw [if_pos hr, if_neg (by simpa [cmpI] using hb)]
    rfl
theorem x_ifgt {off x : Int} {t : Nat} (hk : cod i pc = some (.inl (.ifCond .gt off), len)) (ht : tg pc off = t) (hr : inR x) (kt : 0 < x → Rn i t L st h Q) (kf : ¬ (0 < x) → Rn i (pc + len) L st h Q) : Rn i pc L (aI x :: st) h Q := by
  by_cases hb : 0 < x
  · refine Rn.step ?_ (kt hb)
    rw [stp, hk]
    show wrp (if inR x then (if cmpI .gt x 0 then nx (tg pc off) L st h else nx (pc + len) L st h) else none) = _
    rw [if_pos hr, if_pos (by simpa [cmpI] using hb), ht]
    rfl
  · refine Rn.step ?_ (kf hb)
    rw [stp, hk]
    show wrp (if inR x then (if cmpI .gt x 0 then nx (tg pc off) L st h else nx (pc + len) L st h) else none) = _
    rw [if_pos hr, if_neg (by simpa [cmpI] using hb)]
    rfl
theorem x_ifle {off x : Int} {t : Nat} (hk : cod i pc = some (.inl (.ifCond .le off), len)) (ht : tg pc off = t) (hr : inR x) (kt : x ≤ 0 → Rn i t L st h Q) (kf : ¬ (x ≤ 0) → Rn i (pc + len) L st h Q) : Rn i pc L (aI x :: st) h Q := by
  by_cases hb : x ≤ 0
  · refine Rn.step ?_ (kt hb)
    rw [stp, hk]
    show wrp (if inR x then (if cmpI .le x 0 then nx (tg pc off) L st h else nx (pc + len) L st h) else none) = _
    rw [if_pos hr, if_pos (by simpa [cmpI] using hb), ht]
    rfl
  · refine Rn.step ?_ (kf hb)
    rw [stp, hk]
    show wrp (if inR x then (if cmpI .le x 0 then nx (tg pc off) L st h else nx (pc + len) L st h) else none) = _
    rw [if_pos hr, if_neg (by simpa [cmpI] using hb)]
    rfl
theorem x_icmpeq {off x y : Int} {t : Nat} (hk : cod i pc = some (.inl (.if_icmp .eq off), len)) (ht : tg pc off = t) (hr : inR x ∧ inR y) (kt : x = y → Rn i t L st h Q) (kf : ¬ (x = y) → Rn i (pc + len) L st h Q) : Rn i pc L (aI y :: aI x :: st) h Q := by
  by_cases hb : x = y
  · refine Rn.step ?_ (kt hb)
    rw [stp, hk]
    show wrp (if inR x ∧ inR y then (if cmpI .eq x y then nx (tg pc off) L st h else nx (pc + len) L st h) else none) = _
    rw [if_pos hr, if_pos (by simpa [cmpI] using hb), ht]
    rfl
  · refine Rn.step ?_ (kf hb)
    rw [stp, hk]
    show wrp (if inR x ∧ inR y then (if cmpI .eq x y then nx (tg pc off) L st h else nx (pc + len) L st h) else none) = _
    rw [if_pos hr, if_neg (by simpa [cmpI] using hb)]
    rfl
theorem x_icmpne {off x y : Int} {t : Nat} (hk : cod i pc = some (.inl (.if_icmp .ne off), len)) (ht : tg pc off = t) (hr : inR x ∧ inR y) (kt : ¬ x = y → Rn i t L st h Q) (kf : ¬ (¬ x = y) → Rn i (pc + len) L st h Q) : Rn i pc L (aI y :: aI x :: st) h Q := by
  by_cases hb : ¬ x = y
  · refine Rn.step ?_ (kt hb)
    rw [stp, hk]
    show wrp (if inR x ∧ inR y then (if cmpI .ne x y then nx (tg pc off) L st h else nx (pc + len) L st h) else none) = _
    rw [if_pos hr, if_pos (by simpa [cmpI] using hb), ht]
    rfl
  · refine Rn.step ?_ (kf hb)
    rw [stp, hk]
    show wrp (if inR x ∧ inR y then (if cmpI .ne x y then nx (tg pc off) L st h else nx (pc + len) L st h) else none) = _
    rw [if_pos hr, if_neg (by simpa [cmpI] using hb)]
    rfl
theorem x_icmplt {off x y : Int} {t : Nat} (hk : cod i pc = some (.inl (.if_icmp .lt off), len)) (ht : tg pc off = t) (hr : inR x ∧ inR y) (kt : x < y → Rn i t L st h Q) (kf : ¬ (x < y) → Rn i (pc + len) L st h Q) : Rn i pc L (aI y :: aI x :: st) h Q := by
  by_cases hb : x < y
  · refine Rn.step ?_ (kt hb)
    rw [stp, hk]
    show wrp (if inR x ∧ inR y then (if cmpI .lt x y then nx (tg pc off) L st h else nx (pc + len) L st h) else none) = _
    rw [if_pos hr, if_pos (by simpa [cmpI] using hb), ht]
    rfl
  · refine Rn.step ?_ (kf hb)
    rw [stp, hk]
    show wrp (if inR x ∧ inR y then (if cmpI .lt x y then nx (tg pc off) L st h else nx (pc + len) L st h) else none) = _
    rw [if_pos hr, if_neg (by simpa [cmpI] using hb)]
    rfl
theorem x_icmpge {off x y : Int} {t : Nat} (hk : cod i pc = some (.inl (.if_icmp .ge off), len)) (ht : tg pc off = t) (hr : inR x ∧ inR y) (kt : y ≤ x → Rn i t L st h Q) (kf : ¬ (y ≤ x) → Rn i (pc + len) L st h Q) : Rn i pc L (aI y :: aI x :: st) h Q := by
  by_cases hb : y ≤ x
  · refine Rn.step ?_ (kt hb)
    rw [stp, hk]
    show wrp (if inR x ∧ inR y then (if cmpI .ge x y then nx (tg pc off) L st h else nx (pc + len) L st h) else none) = _
    rw [if_pos hr, if_pos (by simpa [cmpI] using hb), ht]
    rfl
  · refine Rn.step ?_ (kf hb)
    rw [stp, hk]
    show wrp (if inR x ∧ inR y then (if cmpI .ge x y then nx (tg pc off) L st h else nx (pc + len) L st h) else none) = _
    rw [if_pos hr, if_neg (by simpa [cmpI] using hb)]
    rfl
theorem x_icmpgt {off x y : Int} {t : Nat} (hk : cod i pc = some (.inl (.if_icmp .gt off), len)) (ht : tg pc off = t) (hr : inR x ∧ inR y) (kt : y < x → Rn i t L st h Q) (kf : ¬ (y < x) → Rn i (pc + len) L st h Q) : Rn i pc L (aI y :: aI x :: st) h Q := by
  by_cases hb : y < x
  · refine Rn.step ?_ (kt hb)
    rw [stp, hk]
    show wrp (if inR x ∧ inR y then (if cmpI .gt x y then nx (tg pc off) L st h else nx (pc + len) L st h) else none) = _
    rw [if_pos hr, if_pos (by simpa [cmpI] using hb), ht]
    rfl
  · refine Rn.step ?_ (kf hb)
    rw [stp, hk]
    show wrp (if inR x ∧ inR y then (if cmpI .gt x y then nx (tg pc off) L st h else nx (pc + len) L st h) else none) = _
    rw [if_pos hr, if_neg (by simpa [cmpI] using hb)]
    rfl
theorem x_icmple {off x y : Int} {t : Nat} (hk : cod i pc = some (.inl (.if_icmp .le off), len)) (ht : tg pc off = t) (hr : inR x ∧ inR y) (kt : x ≤ y → Rn i t L st h Q) (kf : ¬ (x ≤ y) → Rn i (pc + len) L st h Q) : Rn i pc L (aI y :: aI x :: st) h Q := by
  by_cases hb : x ≤ y
  · refine Rn.step ?_ (kt hb)
    rw [stp, hk]
    show wrp (if inR x ∧ inR y then (if cmpI .le x y then nx (tg pc off) L st h else nx (pc + len) L st h) else none) = _
    rw [if_pos hr, if_pos (by simpa [cmpI] using hb), ht]
    rfl
  · refine Rn.step ?_ (kf hb)
    rw [stp, hk]
    show wrp (if inR x ∧ inR y then (if cmpI .le x y then nx (tg pc off) L st h else nx (pc + len) L st h) else none) = _
    rw [if_pos hr, if_neg (by simpa [cmpI] using hb)]
    rfl
theorem x_acmpeq {off : Int} {x y : Option Nat} {t : Nat} (hk : cod i pc = some (.inl (.if_acmp .eq off), len)) (ht : tg pc off = t) (kt : x = y → Rn i t L st h Q) (kf : ¬ (x = y) → Rn i (pc + len) L st h Q) : Rn i pc L (aQ y :: aQ x :: st) h Q := by
  by_cases hb : x = y
  · refine Rn.step ?_ (kt hb)
    rw [stp, hk]
    show wrp (if decide (x = y) then nx (tg pc off) L st h else nx (pc + len) L st h) = _
    rw [if_pos (by simpa using hb), ht]
    rfl
  · refine Rn.step ?_ (kf hb)
    rw [stp, hk]
    show wrp (if decide (x = y) then nx (tg pc off) L st h else nx (pc + len) L st h) = _
    rw [if_neg (by simpa using hb)]
    rfl
theorem x_acmpne {off : Int} {x y : Option Nat} {t : Nat} (hk : cod i pc = some (.inl (.if_acmp .ne off), len)) (ht : tg pc off = t) (kt : ¬ x = y → Rn i t L st h Q) (kf : ¬ (¬ x = y) → Rn i (pc + len) L st h Q) : Rn i pc L (aQ y :: aQ x :: st) h Q := by
  by_cases hb : ¬ x = y
  · refine Rn.step ?_ (kt hb)
    rw [stp, hk]
    show wrp (if decide (x = y) then nx (pc + len) L st h else nx (tg pc off) L st h) = _
    rw [if_neg (by simpa using hb), ht]
    rfl
  · refine Rn.step ?_ (kf hb)
    rw [stp, hk]
    show wrp (if decide (x = y) then nx (pc + len) L st h else nx (tg pc off) L st h) = _
    rw [if_pos (by simpa using hb)]
    rfl
theorem x_ifnull_n {off : Int} {t : Nat} (hk : cod i pc = some (.inl (.ifnull off), len)) (ht : tg pc off = t) (k : Rn i t L st h Q) : Rn i pc L (aN :: st) h Q := Rn.step (by
  rw [stp, hk]
  show wrp (nx (tg pc off) L st h) = _
  rw [ht]
  rfl) k
theorem x_ifnull_s {off : Int} {t : Nat} {x : Nat} (hk : cod i pc = some (.inl (.ifnull off), len)) (ht : tg pc off = t) (k : Rn i (pc + len) L st h Q) : Rn i pc L (aR x :: st) h Q := Rn.step (by
  rw [stp, hk]
  show wrp (nx (pc + len) L st h) = _
  rfl) k
theorem x_ifnn_n {off : Int} {t : Nat} (hk : cod i pc = some (.inl (.ifnonnull off), len)) (ht : tg pc off = t) (k : Rn i (pc + len) L st h Q) : Rn i pc L (aN :: st) h Q := Rn.step (by
  rw [stp, hk]
  show wrp (nx (pc + len) L st h) = _
  rfl) k
theorem x_ifnn_s {off : Int} {t : Nat} {x : Nat} (hk : cod i pc = some (.inl (.ifnonnull off), len)) (ht : tg pc off = t) (k : Rn i t L st h Q) : Rn i pc L (aR x :: st) h Q := Rn.step (by
  rw [stp, hk]
  show wrp (nx (tg pc off) L st h) = _
  rw [ht]
  rfl) k
theorem x_tabOut {d lo hi x : Int} {offs : Array Int} {t : Nat} (hk : cod i pc = some (.inl (.tableswitch d lo hi offs), len)) (hr : inR x) (hx : x < lo ∨ hi < x) (ht : tg pc d = t) (k : Rn i t L st h Q) : Rn i pc L (aI x :: st) h Q := Rn.step (by
  rw [stp, hk]
  show wrp (o_tab d lo hi offs pc L (aI x :: st) h) = _
  show wrp (if inR x then (if x < lo ∨ hi < x then nx (tg pc d) L st h else (match offs[(x - lo).toNat]? with
      | some o => nx (tg pc o) L st h
      | none => none)) else none) = _
  rw [if_pos hr, if_pos hx, ht]
  rfl) k
theorem x_tabIn {d lo hi x o : Int} {offs : Array Int} {t : Nat} (hk : cod i pc = some (.inl (.tableswitch d lo hi offs), len)) (hr : inR x) (hx : ¬ (x < lo ∨ hi < x)) (ho : offs[(x - lo).toNat]? = some o) (ht : tg pc o = t) (k : Rn i t L st h Q) : Rn i pc L (aI x :: st) h Q := Rn.step (by
  rw [stp, hk]
  show wrp (o_tab d lo hi offs pc L (aI x :: st) h) = _
  show wrp (if inR x then (if x < lo ∨ hi < x then nx (tg pc d) L st h else (match offs[(x - lo).toNat]? with
      | some o => nx (tg pc o) L st h
      | none => none)) else none) = _
  rw [if_pos hr, if_neg hx, ho]
  show wrp (nx (tg pc o) L st h) = _
  rw [ht]
  rfl) k
theorem x_alen {a t n : Nat} {y : AA} (hk : cod i pc = some (.inl .arraylength, len)) (he : h.1 a = some (.inl (t, n, y))) (k : Rn i (pc + len) L (aI n :: st) h Q) : Rn i pc L (aR a :: st) h Q := Rn.step (by
  rw [stp, hk]
  show wrp (o_alen (pc + len) L (aR a :: st) h) = _
  unfold o_alen
  simp only [he]
  rfl) k
theorem x_iaload {a t n : Nat} {F : Nat → Int} {j : Int} (hk : cod i pc = some (.inl .iaload, len)) (he : h.1 a = some (.inl (t, n, .inl F))) (ht : t = 0 ∨ t = 9) (h0 : 0 ≤ j) (h1 : j < n) (k : Rn i (pc + len) L (aI (F j.toNat) :: st) h Q) : Rn i pc L (aI j :: aR a :: st) h Q := Rn.step (by
  rw [stp, hk]
  show wrp (o_iald (pc + len) L (aI j :: aR a :: st) h) = _
  unfold o_iald
  simp only [he]
  rw [if_pos ⟨ht, h0, h1⟩]
  rfl) k
theorem x_baload {a n : Nat} {F : Nat → Int} {j : Int} (hk : cod i pc = some (.inl .baload, len)) (he : h.1 a = some (.inl (2, n, .inl F))) (h0 : 0 ≤ j) (h1 : j < n) (k : Rn i (pc + len) L (aI (F j.toNat) :: st) h Q) : Rn i pc L (aI j :: aR a :: st) h Q := Rn.step (by
  rw [stp, hk]
  show wrp (o_bald (pc + len) L (aI j :: aR a :: st) h) = _
  unfold o_bald
  simp only [he]
  rw [if_pos ⟨trivial, h0, h1⟩]
  rfl) k
theorem x_laload {a n : Nat} {F : Nat → Int} {j : Int} (hk : cod i pc = some (.inl .laload, len)) (he : h.1 a = some (.inl (1, n, .inr (.inl F)))) (h0 : 0 ≤ j) (h1 : j < n) (k : Rn i (pc + len) L (aL (F j.toNat) :: st) h Q) : Rn i pc L (aI j :: aR a :: st) h Q := Rn.step (by
  rw [stp, hk]
  show wrp (o_lald (pc + len) L (aI j :: aR a :: st) h) = _
  unfold o_lald
  simp only [he]
  rw [if_pos ⟨h0, h1⟩]
  rfl) k
theorem x_aaload {a t n : Nat} {F : Nat → Option Nat} {j : Int} (hk : cod i pc = some (.inl .aaload, len)) (he : h.1 a = some (.inl (t, n, .inr (.inr F)))) (ht : t = 3 ∨ t = 4) (h0 : 0 ≤ j) (h1 : j < n) (k : Rn i (pc + len) L (aQ (F j.toNat) :: st) h Q) : Rn i pc L (aI j :: aR a :: st) h Q := Rn.step (by
  rw [stp, hk]
  show wrp (o_aald (pc + len) L (aI j :: aR a :: st) h) = _
  unfold o_aald
  simp only [he]
  rw [if_pos ⟨ht, h0, h1⟩]
  rfl) k
theorem x_iastore {a n : Nat} {F : Nat → Int} {j x : Int} (hk : cod i pc = some (.inl .iastore, len)) (he : h.1 a = some (.inl (0, n, .inl F))) (h0 : 0 ≤ j) (h1 : j < n) (k : Rn i (pc + len) L st (hput h a (.inl (0, n, .inl (up F j.toNat x)))) Q) : Rn i pc L (aI x :: aI j :: aR a :: st) h Q := Rn.step (by
  rw [stp, hk]
  show wrp (o_iast (pc + len) L (aI x :: aI j :: aR a :: st) h) = _
  unfold o_iast
  simp only [he]
  rw [if_pos ⟨trivial, h0, h1⟩]
  rfl) k
theorem x_bastore {a n : Nat} {F : Nat → Int} {j x : Int} (hk : cod i pc = some (.inl .bastore, len)) (he : h.1 a = some (.inl (2, n, .inl F))) (hx : x = 0 ∨ x = 1) (h0 : 0 ≤ j) (h1 : j < n) (k : Rn i (pc + len) L st (hput h a (.inl (2, n, .inl (up F j.toNat x)))) Q) : Rn i pc L (aI x :: aI j :: aR a :: st) h Q := Rn.step (by
  rw [stp, hk]
  show wrp (o_bast (pc + len) L (aI x :: aI j :: aR a :: st) h) = _
  unfold o_bast
  simp only [he]
  rw [if_pos ⟨⟨trivial, hx⟩, h0, h1⟩]
  rfl) k
theorem x_lastore {a n : Nat} {F : Nat → Int} {j x : Int} (hk : cod i pc = some (.inl .lastore, len)) (he : h.1 a = some (.inl (1, n, .inr (.inl F)))) (h0 : 0 ≤ j) (h1 : j < n) (k : Rn i (pc + len) L st (hput h a (.inl (1, n, .inr (.inl (up F j.toNat x))))) Q) : Rn i pc L (aL x :: aI j :: aR a :: st) h Q := Rn.step (by
  rw [stp, hk]
  show wrp (o_last (pc + len) L (aL x :: aI j :: aR a :: st) h) = _
  unfold o_last
  simp only [he]
  rw [if_pos ⟨h0, h1⟩]
  rfl) k
theorem x_aastore {a t n : Nat} {F : Nat → Option Nat} {j : Int} {x : Option Nat} (hk : cod i pc = some (.inl .aastore, len)) (he : h.1 a = some (.inl (t, n, .inr (.inr F)))) (ht : t = 3 ∨ t = 4) (h0 : 0 ≤ j) (h1 : j < n) (hm : o_may t x h = true) (k : Rn i (pc + len) L st (hput h a (.inl (t, n, .inr (.inr (up F j.toNat x))))) Q) : Rn i pc L (aQ x :: aI j :: aR a :: st) h Q := Rn.step (by
  rw [stp, hk]
  show wrp (o_aast (pc + len) L (aQ x :: aI j :: aR a :: st) h) = _
  unfold o_aast
  simp only [he]
  rw [if_pos ⟨ht, h0, h1, hm⟩]
  rfl) k
theorem x_newa_int {n : Int} (hk : cod i pc = some (.inl (.newarray .int), len)) (hc : 0 ≤ n ∧ n ≤ 1048576) (k : Rn i (pc + len) L (aR h.2.1 :: st) (hnew h (.inl (0, n.toNat, .inl (fun _ => 0))) n.toNat) Q) : Rn i pc L (aI n :: st) h Q := Rn.step (by
  rw [stp, hk]
  show wrp ((if 0 ≤ n ∧ n ≤ 1048576 then nx (pc + len) L (aR h.2.1 :: st) (hnew h (.inl (0, n.toNat, .inl (fun _ => 0))) n.toNat) else none)) = _
  rw [if_pos hc]
  rfl) k
theorem x_newa_long {n : Int} (hk : cod i pc = some (.inl (.newarray .long), len)) (hc : 0 ≤ n ∧ n ≤ 1048576) (k : Rn i (pc + len) L (aR h.2.1 :: st) (hnew h (.inl (1, n.toNat, .inr (.inl (fun _ => 0)))) n.toNat) Q) : Rn i pc L (aI n :: st) h Q := Rn.step (by
  rw [stp, hk]
  show wrp ((if 0 ≤ n ∧ n ≤ 1048576 then nx (pc + len) L (aR h.2.1 :: st) (hnew h (.inl (1, n.toNat, .inr (.inl (fun _ => 0)))) n.toNat) else none)) = _
  rw [if_pos hc]
  rfl) k
theorem x_newa_boolean {n : Int} (hk : cod i pc = some (.inl (.newarray .boolean), len)) (hc : 0 ≤ n ∧ n ≤ 1048576) (k : Rn i (pc + len) L (aR h.2.1 :: st) (hnew h (.inl (2, n.toNat, .inl (fun _ => 0))) n.toNat) Q) : Rn i pc L (aI n :: st) h Q := Rn.step (by
  rw [stp, hk]
  show wrp ((if 0 ≤ n ∧ n ≤ 1048576 then nx (pc + len) L (aR h.2.1 :: st) (hnew h (.inl (2, n.toNat, .inl (fun _ => 0))) n.toNat) else none)) = _
  rw [if_pos hc]
  rfl) k
theorem x_ireturn {x : Int} (hk : cod i pc = some (.inl .ireturn, len)) (hb : rtb i = false) (k : Q (.inl (some (aI x))) h) : Rn i pc L [aI x] h Q := Rn.fin (by
  rw [stp, hk]
  show o_ret (rtb i) [aI x] h = _
  rw [hb]
  rfl) k
theorem x_zreturn {x : Int} (hk : cod i pc = some (.inl .ireturn, len)) (hb : rtb i = true) (hx : x = 0 ∨ x = 1) (k : Q (.inl (some (aI x))) h) : Rn i pc L [aI x] h Q := Rn.fin (by
  rw [stp, hk]
  show o_ret (rtb i) [aI x] h = _
  rw [hb]
  show (if x = 0 ∨ x = 1 then fin (.inl (some (aI x))) h else none) = _
  rw [if_pos hx]
  rfl) k
theorem x_lreturn {x : Int} (hk : cod i pc = some (.inl .lreturn, len))  (k : Q (.inl (some (aL x))) h) : Rn i pc L [aL x] h Q := Rn.fin (by
  rw [stp, hk]
  show o_lret [aL x] h = _
  rfl) k
theorem x_areturn {x : Option Nat} (hk : cod i pc = some (.inl .areturn, len))  (k : Q (.inl (some (aQ x))) h) : Rn i pc L [aQ x] h Q := Rn.fin (by
  rw [stp, hk]
  show o_aret [aQ x] h = _
  rfl) k
theorem x_return  (hk : cod i pc = some (.inl .return_, len))  (k : Q (.inl none) h) : Rn i pc L [] h Q := Rn.fin (by
  rw [stp, hk]
  show o_vret [] h = _
  rfl) k
theorem x_get {ci k0 c d a : Nat} {fs : List AV} {w : AV} (hk : cod i pc = some (.inr (0, ci, k0, c, d), len)) (he : h.1 a = some (.inr (ci, fs))) (hw : fs[k0]? = some w) (k : Rn i (pc + 3) L (w :: st) h Q) : Rn i pc L (aR a :: st) h Q := Rn.step (by
  rw [stp, hk]
  show wrp (o_get ci k0 (pc + 3) L (aR a :: st) h) = _
  unfold o_get
  simp only [he, hw, if_true]
  rfl) k
theorem x_put {ci k0 kind d a : Nat} {fs : List AV} {w : AV} (hk : cod i pc = some (.inr (1, ci, k0, kind, d), len)) (he : h.1 a = some (.inr (ci, fs))) (hl : k0 < fs.length) (hw : okv kind w = true) (k : Rn i (pc + 3) L st (hput h a (.inr (ci, fs.set k0 w))) Q) : Rn i pc L (w :: aR a :: st) h Q := Rn.step (by
  rw [stp, hk]
  show wrp (o_put ci k0 kind (pc + 3) L (w :: aR a :: st) h) = _
  unfold o_put
  simp only [he]
  rw [if_pos ⟨trivial, hl, hw⟩]
  rfl) k
theorem x_new {ci n c d : Nat} (hk : cod i pc = some (.inr (2, ci, n, c, d), len))  (k : Rn i (pc + 3) L (aR h.2.1 :: st) (hnew h (.inr (ci, dfl ci)) n) Q) : Rn i pc L st h Q := Rn.step (by
  rw [stp, hk]
  show wrp (o_new ci n (dfl ci) (pc + 3) L st h) = _
  rfl) k
theorem x_anew {t b c d : Nat} {n : Int} (hk : cod i pc = some (.inr (3, t, b, c, d), len)) (hc : 0 ≤ n ∧ n ≤ 1048576) (k : Rn i (pc + 3) L (aR h.2.1 :: st) (hnew h (.inl (t, n.toNat, .inr (.inr (fun _ => none)))) n.toNat) Q) : Rn i pc L (aI n :: st) h Q := Rn.step (by
  rw [stp, hk]
  show wrp ((if 0 ≤ n ∧ n ≤ 1048576 then nx (pc + 3) L (aR h.2.1 :: st) (hnew h (.inl (t, n.toNat, .inr (.inr (fun _ => none)))) n.toNat) else none)) = _
  rw [if_pos hc]
  rfl) k
theorem x_cast {ci b c d a : Nat} {fs : List AV} (hk : cod i pc = some (.inr (4, ci, b, c, d), len)) (he : h.1 a = some (.inr (ci, fs))) (k : Rn i (pc + 3) L (aR a :: st) h Q) : Rn i pc L (aR a :: st) h Q := Rn.step (by
  rw [stp, hk]
  show wrp (o_cast ci (pc + 3) L (aR a :: st) h) = _
  unfold o_cast
  simp only [he, if_true]
  rfl) k
theorem x_castN {ci b c d : Nat} (hk : cod i pc = some (.inr (4, ci, b, c, d), len))  (k : Rn i (pc + 3) L (aN :: st) h Q) : Rn i pc L (aN :: st) h Q := Rn.step (by
  rw [stp, hk]
  show wrp (nx (pc + 3) L (aN :: st) h) = _
  rfl) k
theorem x_castA {t b c d a n : Nat} {y : AA} (hk : cod i pc = some (.inr (5, t, b, c, d), len)) (he : h.1 a = some (.inl (t, n, y))) (hn : 0 < n) (k : Rn i (pc + 3) L (aR a :: st) h Q) : Rn i pc L (aR a :: st) h Q := Rn.step (by
  rw [stp, hk]
  show wrp (o_castA t (pc + 3) L (aR a :: st) h) = _
  unfold o_castA
  simp only [he]
  rw [if_pos ⟨trivial, hn⟩]
  rfl) k
theorem x_gets {a b c d : Nat} (hk : cod i pc = some (.inr (6, a, b, c, d), len))  (k : Rn i (pc + 3) L (aR h.2.2.2.1 :: st) h Q) : Rn i pc L st h Q := Rn.step (by
  rw [stp, hk]
  show wrp (nx (pc + 3) L (aR h.2.2.2.1 :: st) h) = _
  rfl) k
theorem x_oinit {a b c d x : Nat} (hk : cod i pc = some (.inr (7, a, b, c, d), len)) (hl : st.length ≤ 4) (k : Rn i (pc + 3) L st h Q) : Rn i pc L (aR x :: st) h Q := Rn.step (by
  rw [stp, hk]
  show wrp ((if st.length ≤ 4 then nx (pc + 3) L st h else none)) = _
  rw [if_pos hl]
  rfl) k
theorem x_mx {a b c d : Nat} {x y : Int} (hk : cod i pc = some (.inr (11, a, b, c, d), len)) (hc : inR x ∧ inR y ∧ st.length ≤ 4) (k : Rn i (pc + 3) L (aI (if x < y then y else x) :: st) h Q) : Rn i pc L (aI y :: aI x :: st) h Q := Rn.step (by
  rw [stp, hk]
  show wrp ((if inR x ∧ inR y ∧ st.length ≤ 4 then nx (pc + 3) L (aI (if true then (if x < y then y else x) else (if y < x then y else x)) :: st) h else none)) = _
  rw [if_pos hc]
  rfl) k
theorem x_mn {a b c d : Nat} {x y : Int} (hk : cod i pc = some (.inr (12, a, b, c, d), len)) (hc : inR x ∧ inR y ∧ st.length ≤ 4) (k : Rn i (pc + 3) L (aI (if y < x then y else x) :: st) h Q) : Rn i pc L (aI y :: aI x :: st) h Q := Rn.step (by
  rw [stp, hk]
  show wrp ((if inR x ∧ inR y ∧ st.length ≤ 4 then nx (pc + 3) L (aI (if false then (if x < y then y else x) else (if y < x then y else x)) :: st) h else none)) = _
  rw [if_pos hc]
  rfl) k
theorem x_ldcM {a b c d : Nat} (hk : cod i pc = some (.inr (14, a, b, c, d), len))  (k : Rn i (pc + 2) L (aR h.2.2.2.2 :: st) h Q) : Rn i pc L st h Q := Rn.step (by
  rw [stp, hk]
  show wrp (nx (pc + 2) L (aR h.2.2.2.2 :: st) h) = _
  rfl) k
theorem x_ldcI {x b c d : Nat} (hk : cod i pc = some (.inr (18, x, b, c, d), len))  (k : Rn i (pc + 2) L (aI x :: st) h Q) : Rn i pc L st h Q := Rn.step (by
  rw [stp, hk]
  show wrp (nx (pc + 2) L (aI x :: st) h) = _
  rfl) k
theorem x_ldc2 {x g c d : Nat} (hk : cod i pc = some (.inr (15, x, g, c, d), len))  (k : Rn i (pc + 3) L (aL (if g = 0 then (x : Int) else -(x : Int)) :: st) h Q) : Rn i pc L st h Q := Rn.step (by
  rw [stp, hk]
  show wrp (nx (pc + 3) L (aL (if g = 0 then (x : Int) else -(x : Int)) :: st) h) = _
  rfl) k
theorem x_throw {ci b c d : Nat} (hk : cod i pc = some (.inr (16, ci, b, c, d), len)) (hl : st.length ≤ 4) (k : Q (.inr (ci, h.2.1)) (hnew h (.inr (ci, [])) 6)) : Rn i pc L st h Q := Rn.fin (by
  rw [stp, hk]
  show (if st.length ≤ 4 then fin (.inr (ci, h.2.1)) (hnew h (.inr (ci, [])) 6) else none) = _
  rw [if_pos hl]
  rfl) k
/-- a call: the arguments lie on the stack, the last on top -/
theorem x_call {j na kind ci : Nat} {as : List AV} (hk : cod i pc = some (.inr (17, j, na, kind, ci), len)) (hn : as.length = na) (hl : st.length ≤ 4) (hr : rcv kind ci as h = true) (hm : (laid as).length ≤ mxl j) (k : Rn j 0 (entL j as) [] h (Bh i pc (pc + 3) L st Q)) : Rn i pc L (as.reverse ++ st) h Q := by
  refine Rn.call ?_ k
  rw [stp, hk]
  show o_call j na kind ci (pc + 3) (as.reverse ++ st) h = _
  unfold o_call
  have e1 : (as.reverse ++ st).take na = as.reverse := by rw [← hn, ← List.length_reverse]; exact List.take_left
  have e2 : (as.reverse ++ st).drop na = st := by rw [← hn, ← List.length_reverse]; exact List.drop_left
  rw [e1, e2, List.reverse_reverse, if_pos ⟨by simp [hn], by simp [hn]; omega, hr, hm⟩]
theorem x_call0 {j kind ci : Nat} (hk : cod i pc = some (.inr (17, j, 0, kind, ci), len)) (hl : st.length ≤ 4) (hr : rcv kind ci [] h = true) (hm : (laid []).length ≤ mxl j) (k : Rn j 0 (entL j []) [] h (Bh i pc (pc + 3) L st Q)) : Rn i pc L (st) h Q := x_call (as := []) hk rfl hl hr hm k
theorem x_call1 {j kind ci : Nat} {a0 : AV} (hk : cod i pc = some (.inr (17, j, 1, kind, ci), len)) (hl : st.length ≤ 4) (hr : rcv kind ci [a0] h = true) (hm : (laid [a0]).length ≤ mxl j) (k : Rn j 0 (entL j [a0]) [] h (Bh i pc (pc + 3) L st Q)) : Rn i pc L (a0 :: st) h Q := x_call (as := [a0]) hk rfl hl hr hm k
theorem x_call2 {j kind ci : Nat} {a0 a1 : AV} (hk : cod i pc = some (.inr (17, j, 2, kind, ci), len)) (hl : st.length ≤ 4) (hr : rcv kind ci [a0, a1] h = true) (hm : (laid [a0, a1]).length ≤ mxl j) (k : Rn j 0 (entL j [a0, a1]) [] h (Bh i pc (pc + 3) L st Q)) : Rn i pc L (a1 :: a0 :: st) h Q := x_call (as := [a0, a1]) hk rfl hl hr hm k
theorem x_call3 {j kind ci : Nat} {a0 a1 a2 : AV} (hk : cod i pc = some (.inr (17, j, 3, kind, ci), len)) (hl : st.length ≤ 4) (hr : rcv kind ci [a0, a1, a2] h = true) (hm : (laid [a0, a1, a2]).length ≤ mxl j) (k : Rn j 0 (entL j [a0, a1, a2]) [] h (Bh i pc (pc + 3) L st Q)) : Rn i pc L (a2 :: a1 :: a0 :: st) h Q := x_call (as := [a0, a1, a2]) hk rfl hl hr hm k
theorem x_call4 {j kind ci : Nat} {a0 a1 a2 a3 : AV} (hk : cod i pc = some (.inr (17, j, 4, kind, ci), len)) (hl : st.length ≤ 4) (hr : rcv kind ci [a0, a1, a2, a3] h = true) (hm : (laid [a0, a1, a2, a3]).length ≤ mxl j) (k : Rn j 0 (entL j [a0, a1, a2, a3]) [] h (Bh i pc (pc + 3) L st Q)) : Rn i pc L (a3 :: a2 :: a1 :: a0 :: st) h Q := x_call (as := [a0, a1, a2, a3]) hk rfl hl hr hm k
theorem x_call5 {j kind ci : Nat} {a0 a1 a2 a3 a4 : AV} (hk : cod i pc = some (.inr (17, j, 5, kind, ci), len)) (hl : st.length ≤ 4) (hr : rcv kind ci [a0, a1, a2, a3, a4] h = true) (hm : (laid [a0, a1, a2, a3, a4]).length ≤ mxl j) (k : Rn j 0 (entL j [a0, a1, a2, a3, a4]) [] h (Bh i pc (pc + 3) L st Q)) : Rn i pc L (a4 :: a3 :: a2 :: a1 :: a0 :: st) h Q := x_call (as := [a0, a1, a2, a3, a4]) hk rfl hl hr hm k
theorem x_call6 {j kind ci : Nat} {a0 a1 a2 a3 a4 a5 : AV} (hk : cod i pc = some (.inr (17, j, 6, kind, ci), len)) (hl : st.length ≤ 4) (hr : rcv kind ci [a0, a1, a2, a3, a4, a5] h = true) (hm : (laid [a0, a1, a2, a3, a4, a5]).length ≤ mxl j) (k : Rn j 0 (entL j [a0, a1, a2, a3, a4, a5]) [] h (Bh i pc (pc + 3) L st Q)) : Rn i pc L (a5 :: a4 :: a3 :: a2 :: a1 :: a0 :: st) h Q := x_call (as := [a0, a1, a2, a3, a4, a5]) hk rfl hl hr hm k
end Rows
