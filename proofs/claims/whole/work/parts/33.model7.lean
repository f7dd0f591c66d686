section M7
variable {am : Nat} {ad : Nat → Nat} {C : Nat → Int} {A : Nat → Nat → Int} {h : AH} {Q : AR → AH → Prop}
theorem up_s {α : Type} {f : Nat → α} {k : Nat} {x : α} : up f k x k = x := if_pos rfl
theorem up_n {α : Type} {f : Nat → α} {k j : Nat} {x : α} (hn : ¬ j = k) : up f k x j = f j := if_neg hn
theorem cnt_b (b : RB C A) (t o : Nat) (e : Int) : ∀ n : Nat, -(n : Int) ≤ cnt A t o e n ∧ cnt A t o e n ≤ n := by
  intro n
  induction n with
  | zero => simp [cnt]
  | succ k ih =>
    have := b.v11 k
    simp only [cnt]
    split <;> omega
abbrev bsq (A : Nat → Nat → Int) (t o n4 : Nat) (l y : Int) (k : Nat) : Prop := A 10 k = o ∧ l < A 12 k ∧ A 12 k < y ∧ ¬ cnt A t o (A 12 k) n4 = 0
def bst (A : Nat → Nat → Int) (t o n4 : Nat) (l : Int) : Nat → Int
  | 0 => 9223372036854775807
  | k + 1 => if bsq A t o n4 l (bst A t o n4 l k) k then A 12 k else bst A t o n4 l k
theorem bst_b (b : RB C A) (t o n4 : Nat) (l : Int) : ∀ n : Nat, inL (bst A t o n4 l n) ∧ bst A t o n4 l n ≤ 9223372036854775807 ∧ (bst A t o n4 l n = 9223372036854775807 ∨ (l < bst A t o n4 l n ∧ ∃ k, k < n ∧ A 12 k = bst A t o n4 l n)) := by
  intro n
  induction n with
  | zero => exact ⟨by simp only [bst]; omega, by simp only [bst]; omega, Or.inl rfl⟩
  | succ k ih =>
    have := b.v12 k
    simp only [bst]
    split
    · next z => exact ⟨this, by omega, Or.inr ⟨z.2.1, k, by omega, rfl⟩⟩
    · refine ⟨ih.1, ih.2.1, ih.2.2.elim Or.inl (fun z => Or.inr ⟨z.1, ?_⟩)⟩
      obtain ⟨q, q1, q2⟩ := z.2
      exact ⟨q, by omega, q2⟩
def gtc (A : Nat → Nat → Int) (l : Int) : Nat → Nat
  | 0 => 0
  | k + 1 => if l < A 12 k then gtc A l k + 1 else gtc A l k
theorem gtc_n (l : Int) : ∀ n, gtc A l n ≤ n := by
  intro n
  induction n with
  | zero => simp [gtc]
  | succ k ih => simp only [gtc]; split <;> omega
theorem gtc_m {l y : Int} (hl : l ≤ y) : ∀ n, gtc A y n ≤ gtc A l n := by
  intro n
  induction n with
  | zero => simp [gtc]
  | succ k ih =>
    simp only [gtc]
    split
    · rw [if_pos (by omega)]; omega
    · split <;> omega
theorem gtc_l {l y : Int} (hl : l < y) : ∀ n, (∃ k, k < n ∧ A 12 k = y) → gtc A y n < gtc A l n := by
  intro n
  induction n with
  | zero => intro ⟨k, h1, _⟩; omega
  | succ k ih =>
    intro ⟨q, h1, h2⟩
    simp only [gtc]
    by_cases hq : q = k
    · subst hq
      have := gtc_m (A := A) (Int.le_of_lt hl) q
      rw [if_neg (by omega), if_pos (by omega)]
      omega
    · have := ih ⟨q, by omega, h2⟩
      split
      · rw [if_pos (by omega)]; omega
      · split <;> omega
/-- the last element told after n rounds; none when there are no more -/
def eli (A : Nat → Nat → Int) (t o n4 : Nat) : Nat → Option Int
  | 0 => some (-9223372036854775808)
  | n + 1 => match eli A t o n4 n with
    | none => none
    | some l => if bst A t o n4 l n4 = 9223372036854775807 then none else some (bst A t o n4 l n4)
theorem eli_n (t o n4 : Nat) {n : Nat} (he : eli A t o n4 n = none) : ∀ m, eli A t o n4 (n + m) = none := by
  intro m
  induction m with
  | zero => exact he
  | succ m ih =>
    show eli A t o n4 (n + m + 1) = none
    simp only [eli, ih]
theorem lp_el1 (M : MP am ad C A h) (b : RB C A) {t o n : Nat} {i l : Int} (ht : t < 500) (ho : o < 200) (hl : inL l) (k : Rn 120 111 [some (aR am), some (aI ((t : Int))), some (aI ((o : Int))), some (aI (i)), some (aL (l)), none, some (aI ((n : Int))), some (aL (bst A t o (C 4).toNat l (C 4).toNat)), none, some (aI (((C 4).toNat : Int)))] [] h Q) : ∀ m j : Nat, j + m = (C 4).toNat → Rn 120 34 [some (aR am), some (aI ((t : Int))), some (aI ((o : Int))), some (aI (i)), some (aL (l)), none, some (aI ((n : Int))), some (aL (bst A t o (C 4).toNat l j)), none, some (aI ((j : Int)))] [] h Q := by
  intro m
  induction m using Nat.strongRecOn with | ind m ih => ?_
  intro j hj
  have hbb := (bst_b b t o (C 4).toNat l j).1
  refine x_iload k_120_34 rfl ?_
  refine x_aload_n k_120_36 rfl ?_
  refine x_get k_120_37 M.1 rfl ?_
  have f37 := b.c4
  refine x_icmpge (t := 111) k_120_40 rfl (by show inR ((j : Int)) ∧ inR (C 4); omega) (fun hb => ?_) (fun hb => ?_)
  · have c40 : C 4 ≤ (j : Int) := hb
    have e : (C 4).toNat = j := by omega
    rw [e] at k
    rw [e]
    exact k
  · have c40 : ¬ (C 4 ≤ (j : Int)) := hb
    refine x_aload_n k_120_43 rfl ?_
    refine x_get k_120_44 M.1 rfl ?_
    refine x_iload k_120_47 rfl ?_
    refine y_iaload (m := j) k_120_49 M.a10 (Or.inl rfl) rfl (by omega) ?_
    have f49 := b.v10 (j)
    refine x_iload_n k_120_50 rfl ?_
    refine x_icmpne (t := 105) k_120_51 rfl (by show inR (A 10 j) ∧ inR ((o : Int)); omega) (fun hb => ?_) (fun hb => ?_)
    · have c51 : ¬ A 10 j = (o : Int) := hb
      refine x_inc9 k_120_105 rfl ?_
      refine x_goto (t := 34) k_120_108 rfl ?_
      have z := ih (m - 1) (by omega) (j + 1) (by omega)
      rw [show bst A t o (C 4).toNat l (j + 1) = bst A t o (C 4).toNat l j by simp only [bst]; rw [if_neg (by omega)]] at z
      exact z
    · have c51 : ¬ (¬ A 10 j = (o : Int)) := hb
      refine x_aload_n k_120_54 rfl ?_
      refine x_get k_120_55 M.1 rfl ?_
      refine x_iload k_120_58 rfl ?_
      refine y_laload (m := j) k_120_60 M.a12 rfl (by omega) ?_
      have f60 := b.v12 (j)
      refine x_lload k_120_61 rfl ?_
      refine x_lcmp k_120_63 (by show inL (A 12 j) ∧ inL (l); exact ⟨by omega, by omega⟩) ?_
      refine x_ifle (t := 105) k_120_64 rfl (cmp_r _ _) (fun hb => ?_) (fun hb => ?_)
      · have c64 : A 12 j ≤ l := (cmp_le _ _).mp hb
        refine x_inc9 k_120_105 rfl ?_
        refine x_goto (t := 34) k_120_108 rfl ?_
        have z := ih (m - 1) (by omega) (j + 1) (by omega)
        rw [show bst A t o (C 4).toNat l (j + 1) = bst A t o (C 4).toNat l j by simp only [bst]; rw [if_neg (by omega)]] at z
        exact z
      · have c64 : ¬ (A 12 j ≤ l) := fun w => hb ((cmp_le _ _).mpr w)
        refine x_aload_n k_120_67 rfl ?_
        refine x_get k_120_68 M.1 rfl ?_
        refine x_iload k_120_71 rfl ?_
        refine y_laload (m := j) k_120_73 M.a12 rfl (by omega) ?_
        have f73 := b.v12 (j)
        refine x_lload k_120_74 rfl ?_
        refine x_lcmp k_120_76 (by show inL (A 12 j) ∧ inL (bst A t o (C 4).toNat l j); exact ⟨by omega, by omega⟩) ?_
        refine x_ifge (t := 105) k_120_77 rfl (cmp_r _ _) (fun hb => ?_) (fun hb => ?_)
        · have c77 : bst A t o (C 4).toNat l j ≤ A 12 j := (cmp_ge _ _).mp hb
          refine x_inc9 k_120_105 rfl ?_
          refine x_goto (t := 34) k_120_108 rfl ?_
          have z := ih (m - 1) (by omega) (j + 1) (by omega)
          rw [show bst A t o (C 4).toNat l (j + 1) = bst A t o (C 4).toNat l j by simp only [bst]; rw [if_neg (by omega)]] at z
          exact z
        · have c77 : ¬ (bst A t o (C 4).toNat l j ≤ A 12 j) := fun w => hb ((cmp_ge _ _).mpr w)
          refine x_aload_n k_120_80 rfl ?_
          refine x_iload_n k_120_81 rfl ?_
          refine x_iload_n k_120_82 rfl ?_
          refine x_aload_n k_120_83 rfl ?_
          refine x_get k_120_84 M.1 rfl ?_
          refine x_iload k_120_87 rfl ?_
          refine y_laload (m := j) k_120_89 M.a12 rfl (by omega) ?_
          have f89 := b.v12 (j)
          refine x_call4 k_120_90 (Nat.le_of_ble_eq_true rfl) (rcv_1 M.1) (Nat.le_of_ble_eq_true rfl) ?_
          have hcb := cnt_b b t o (A 12 j) (C 4).toNat
          refine r_countOf (t := t) (o := o) M b ht ho (by omega) (bh_1 ?_)
          refine x_ifeq (t := 105) k_120_93 rfl (by show inR (cnt A t o (A 12 j) (C 4).toNat); omega) (fun hb => ?_) (fun hb => ?_)
          · have c93 : cnt A t o (A 12 j) (C 4).toNat = 0 := hb
            refine x_inc9 k_120_105 rfl ?_
            refine x_goto (t := 34) k_120_108 rfl ?_
            have z := ih (m - 1) (by omega) (j + 1) (by omega)
            rw [show bst A t o (C 4).toNat l (j + 1) = bst A t o (C 4).toNat l j by simp only [bst]; rw [if_neg (by omega)]] at z
            exact z
          · have c93 : ¬ (cnt A t o (A 12 j) (C 4).toNat = 0) := hb
            refine x_aload_n k_120_96 rfl ?_
            refine x_get k_120_97 M.1 rfl ?_
            refine x_iload k_120_100 rfl ?_
            refine y_laload (m := j) k_120_102 M.a12 rfl (by omega) ?_
            have f102 := b.v12 (j)
            refine x_ls7 k_120_103 rfl ?_
            refine x_inc9 k_120_105 rfl ?_
            refine x_goto (t := 34) k_120_108 rfl ?_
            have z := ih (m - 1) (by omega) (j + 1) (by omega)
            rw [show bst A t o (C 4).toNat l (j + 1) = A 12 j by simp only [bst]; rw [if_pos ⟨by omega, by omega, by omega, by omega⟩]] at z
            exact z
theorem lp_el2 (M : MP am ad C A h) (b : RB C A) {t o : Nat} {i : Int} (ht : t < 500) (ho : o < 200) (hi : inR i) (k3 : ∀ h', (i < 0 ∨ eli A t o (C 4).toNat (i.toNat + 1) = none) → MP am ad (up C 0 3) A h' → Mv am ad h h' → Q (.inl (some (aI 0))) h') (k0 : ∀ l, 0 ≤ i → eli A t o (C 4).toNat (i.toNat + 1) = some l → Q (.inl (some (aI l))) h) : ∀ r n : Nat, ∀ l : Int, eli A t o (C 4).toNat n = some l → inL l → gtc A l (C 4).toNat = r → n + r ≤ 4000 → (n : Int) ≤ i + 1 ∨ n = 0 → ∀ z7 z8 z9, Rn 120 20 [some (aR am), some (aI ((t : Int))), some (aI ((o : Int))), some (aI (i)), some (aL (l)), none, some (aI ((n : Int))), z7, z8, z9] [] h Q := by
  intro r
  induction r using Nat.strongRecOn with | ind r ih => ?_
  intro n l he hl hr hn hni z7 z8 z9
  subst hr
  refine x_iload k_120_20 rfl ?_
  refine x_iload_n k_120_22 rfl ?_
  refine x_icmpgt (t := 136) k_120_23 rfl (by show inR ((n : Int)) ∧ inR (i); omega) (fun hb => ?_) (fun hb => ?_)
  · have c23 : i < (n : Int) := hb
    refine x_iload_n k_120_136 rfl ?_
    refine x_ifge (t := 148) k_120_137 rfl (by show inR (i); omega) (fun hb => ?_) (fun hb => ?_)
    · have c137 : 0 ≤ i := hb
      refine x_lload k_120_148 rfl ?_
      refine x_l2i k_120_150 ?_
      refine x_ireturn k_120_151 rfl ?_
      exact k0 l (by omega) (by rw [show i.toNat + 1 = n by omega]; exact he)
    · have c137 : ¬ (0 ≤ i) := hb
      refine x_aload_n k_120_140 rfl ?_
      refine x_iconst k_120_141 ?_
      refine x_call2 k_120_142 (Nat.le_of_ble_eq_true rfl) (rcv_1 M.1) (Nat.le_of_ble_eq_true rfl) ?_
      refine r_no M (fun h M V => bh_1 ?_)
      refine x_goto (t := 151) k_120_145 rfl ?_
      refine x_ireturn k_120_151 rfl ?_
      exact k3 h (Or.inl (by omega)) M V
  · have c23 : ¬ (i < (n : Int)) := hb
    refine x_ldc2 k_120_26 ?_
    refine x_ls7 k_120_29 rfl ?_
    refine x_iconst k_120_31 ?_
    refine x_is9 k_120_32 rfl ?_
    refine lp_el1 M b ht ho hl ?_ (C 4).toNat 0 (Nat.zero_add _)
    have hbb := (bst_b b t o (C 4).toNat l (C 4).toNat).1
    refine x_lload k_120_111 rfl ?_
    refine x_ldc2 k_120_113 ?_
    refine x_lcmp k_120_116 (by show inL (bst A t o (C 4).toNat l (C 4).toNat) ∧ inL ((9223372036854775807)); exact ⟨by omega, by omega⟩) ?_
    refine x_ifne (t := 126) k_120_117 rfl (cmp_r _ _) (fun hb => ?_) (fun hb => ?_)
    · have c117 : ¬ bst A t o (C 4).toNat l (C 4).toNat = (9223372036854775807) := (cmp_ne _ _).mp hb
      have hgl : gtc A (bst A t o (C 4).toNat l (C 4).toNat) (C 4).toNat < gtc A l (C 4).toNat := by
        have hb2 := (bst_b b t o (C 4).toNat l (C 4).toNat).2.2.elim (fun q => absurd q c117) id
        exact gtc_l hb2.1 (C 4).toNat hb2.2
      refine x_lload k_120_126 rfl ?_
      refine x_ls4 k_120_128 rfl ?_
      refine x_inc6 k_120_130 rfl ?_
      refine x_goto (t := 20) k_120_133 rfl ?_
      exact ih _ hgl (n + 1) (bst A t o (C 4).toNat l (C 4).toNat) (by simp only [eli, he]; rw [if_neg (by omega)]) hbb rfl (by omega) (by omega) _ _ _
    · have c117 : ¬ (¬ bst A t o (C 4).toNat l (C 4).toNat = (9223372036854775807)) := fun w => hb ((cmp_ne _ _).mpr w)
      refine x_aload_n k_120_120 rfl ?_
      refine x_iconst k_120_121 ?_
      refine x_call2 k_120_122 (Nat.le_of_ble_eq_true rfl) (rcv_1 M.1) (Nat.le_of_ble_eq_true rfl) ?_
      refine r_no M (fun h M V => bh_1 ?_)
      refine x_ireturn k_120_125 rfl ?_
      refine k3 h (Or.inr ?_) M V
      have hz : eli A t o (C 4).toNat (n + 1) = none := by simp only [eli, he]; rw [if_pos (by omega)]
      rw [show i.toNat + 1 = n + 1 + (i.toNat - n) by omega]
      exact eli_n t o _ hz _
theorem r_element (M : MP am ad C A h) (b : RB C A) {t o i : Int} (ht : inR t) (ho : inR o) (hi : inR i) (kf : ∀ h', wcd (decide (badP C A t o true)) (decide (refP C A t)) ≠ 0 → MP am ad (up C 0 (wcd (decide (badP C A t o true)) (decide (refP C A t)))) A h' → Mv am ad h h' → Q (.inl (some (aI 0))) h') (k3 : ∀ h', (¬ badP C A t o true ∧ ¬ refP C A t) → (i < 0 ∨ eli A t.toNat o.toNat (C 4).toNat (i.toNat + 1) = none) → MP am ad (up (up C 0 0) 0 3) A h' → Mv am ad h h' → Q (.inl (some (aI 0))) h') (k0 : ∀ l h', (¬ badP C A t o true ∧ ¬ refP C A t) → 0 ≤ i → eli A t.toNat o.toNat (C 4).toNat (i.toNat + 1) = some l → MP am ad (up C 0 0) A h' → Mv am ad h h' → Q (.inl (some (aI l))) h') : Rn 120 0 (entL 120 [aR am, aI t, aI o, aI i]) [] h Q := by
  show Rn 120 0 [some (aR am), some (aI (t)), some (aI (o)), some (aI (i)), none, none, none, none, none, none] [] h Q
  refine x_aload_n k_120_0 rfl ?_
  refine x_iload_n k_120_1 rfl ?_
  refine x_iload_n k_120_2 rfl ?_
  refine x_iconst k_120_3 ?_
  refine x_call4 k_120_4 (Nat.le_of_ble_eq_true rfl) (rcv_1 M.1) (Nat.le_of_ble_eq_true rfl) ?_
  refine r_isWrong (s := true) M b (by omega) (by omega) (fun h M V => bh_1 ?_)
  refine x_ifeq_p (t := 12) k_120_7 rfl (fun c7 => ?_) (fun c7 => ?_)
  · have cG := wcd_z c7
    have M : MP am ad (up C 0 0) A h := by rw [← cG.1]; exact M
    have b2 := b.c2
    have b3 := b.c3
    have b4 := b.c4
    have cG2 := cG.2.1
    unfold badP at cG2
    refine x_ldc2 k_120_12 ?_
    refine x_ls4 k_120_15 rfl ?_
    refine x_iconst k_120_17 ?_
    refine x_is6 k_120_18 rfl ?_
    rw [show t = ((t.toNat : Nat) : Int) by omega, show o = ((o.toNat : Nat) : Int) by omega]
    have hg := gtc_n (A := A) (-9223372036854775808) (C 4).toNat
    exact lp_el2 (C := up C 0 0) M b (by omega) (by omega) hi (fun h' q M' V' => k3 h' cG.2 q M' (V.tr V')) (fun l q1 q2 => k0 l h cG.2 q1 q2 M V) _ 0 _ rfl (by decide) rfl (by show 0 + gtc A (-9223372036854775808) (C 4).toNat ≤ 4000; omega) (Or.inr rfl) _ _ _
  · refine x_iconst k_120_10 ?_
    refine x_ireturn k_120_11 rfl ?_
    exact kf h c7 M V
def shF (A : Nat → Nat → Int) (s k i : Nat) : Nat → Int := fun q => if 500 * s + k ≤ q ∧ q < 500 * s + i then A 20 (q + 1) else A 20 q
theorem shF_y {s k j q : Nat} (hk : k ≤ j) : up (shF A s k j) (500 * s + j) (shF A s k j (500 * s + j + 1)) q = shF A s k (j + 1) q := by
  unfold up
  by_cases hq : q = 500 * s + j
  · subst hq
    rw [if_pos rfl]
    unfold shF
    rw [if_neg (by omega), if_pos ⟨by omega, by omega⟩]
  · rw [if_neg hq]
    unfold shF
    by_cases hz : 500 * s + k ≤ q ∧ q < 500 * s + j
    · rw [if_pos hz, if_pos ⟨by omega, by omega⟩]
    · rw [if_neg hz, if_neg (by omega)]
def hdt (A : Nat → Nat → Int) (s k : Nat) : Nat := (A 20 (500 * s + k)).toNat
def stpA (C : Nat → Int) (A : Nat → Nat → Int) (s k : Nat) : Nat → Nat → Int := up (up (up (up A 21 (up (A 21) s (A 21 s - 1))) 20 (shF A s k (A 21 s - 1).toNat)) 13 (up (A 13) (6 * s + (A 3 (hdt A s k)).toNat) (A 13 (6 * s + (A 3 (hdt A s k)).toNat) + 1))) 1 (unlF A (hdt A s k) s (C 2).toNat)
/-- A' is what A becomes when the site s lets go its held ones, n of them -/
def rlsP (C : Nat → Int) (s : Nat) : Nat → (Nat → Nat → Int) → (Nat → Nat → Int) → Prop
  | 0, A, A' => A' = A ∧ ∀ k, k < (A 21 s).toNat → ¬ cbP C A (hdt A s k) s
  | n + 1, A, A' => ∃ k, k < (A 21 s).toNat ∧ (∀ q, q < k → ¬ cbP C A (hdt A s q) s) ∧ cbP C A (hdt A s k) s ∧ rlsP C s n (stpA C A s k) A'
theorem stpA_b (b : RB C A) {s k : Nat} (hk : k < (A 21 s).toNat) (hc : cbP C A (hdt A s k) s) : RB C (stpA C A s k) := by
  have h1 := b.v21 s
  have h5 := b.v5 (hdt A s k)
  have h13 := b.v13 (6 * s + (A 3 (hdt A s k)).toNat)
  have hc := hc.1
  exact (((b.t21 ⟨by omega, by omega⟩).s20 (fun j => by unfold shF; split; exact b.v20 _; exact b.v20 _)).t13 ⟨by omega, by omega⟩).s1 (unlF_b b)
theorem lp_shift {h0 : AH} (b : RB C A) {s kk m : Nat} {tv : Int} (hs : s < 6) (hm : A 21 s = m) (hm5 : m < 500) (k : ∀ h', MP am ad C (up A 20 (shF A s kk m)) h' → Mv am ad h0 h' → Rn 126 109 [some (aR am), some (aI ((s : Int))), some (aI (0)), some (aI ((kk : Int))), some (aI (tv)), some (aI ((m : Int)))] [] h' Q) : ∀ n j : Nat, j + n = m → kk ≤ j → ∀ h, MP am ad C (up A 20 (shF A s kk j)) h → Mv am ad h0 h → Rn 126 64 [some (aR am), some (aI ((s : Int))), some (aI (0)), some (aI ((kk : Int))), some (aI (tv)), some (aI ((j : Int)))] [] h Q := by
  intro n
  induction n using Nat.strongRecOn with | ind n ih => ?_
  intro j hj hk h M V
  refine x_iload k_126_64 rfl ?_
  refine x_aload_n k_126_66 rfl ?_
  refine x_get k_126_67 M.1 rfl ?_
  refine x_iload_n k_126_70 rfl ?_
  refine y_iaload (m := s) k_126_71 M.a21 (Or.inl rfl) rfl (by omega) ?_
  have f71 := b.v21 (s)
  refine x_icmpge (t := 109) k_126_72 rfl (by show inR ((j : Int)) ∧ inR (A 21 s); omega) (fun hb => ?_) (fun hb => ?_)
  · have c72 : A 21 s ≤ (j : Int) := hb
    have e : m = j := by omega
    rw [e] at k
    exact k h M V
  · have c72 : ¬ (A 21 s ≤ (j : Int)) := hb
    refine x_aload_n k_126_75 rfl ?_
    refine x_get k_126_76 M.1 rfl ?_
    refine x_sipush k_126_79 ?_
    refine x_iload_n k_126_82 rfl ?_
    refine x_imul k_126_83 ?_
    refine x_iload k_126_84 rfl ?_
    refine x_iadd k_126_86 ?_
    refine x_aload_n k_126_87 rfl ?_
    refine x_get k_126_88 M.1 rfl ?_
    refine x_sipush k_126_91 ?_
    refine x_iload_n k_126_94 rfl ?_
    refine x_imul k_126_95 ?_
    refine x_iload k_126_96 rfl ?_
    refine x_iadd k_126_98 ?_
    refine x_iconst k_126_99 ?_
    refine x_iadd k_126_100 ?_
    refine y_iaload (m := 500 * s + j + 1) k_126_101 M.a20 (Or.inl rfl) (show (((500 * (s : Int)) + (j : Int)) + 1) = ((500 * s + j + 1 : Nat) : Int) by omega) (by omega) ?_
    refine y_iastore (m := 500 * s + j) k_126_102 M.a20 (show ((500 * (s : Int)) + (j : Int)) = ((500 * s + j : Nat) : Int) by omega) (by omega) ?_
    refine mgo (M.s20 _) (V.tr (Mv.ma (Nat.le_of_ble_eq_true rfl))) (fun h M V => ?_)
    refine x_inc5 k_126_103 rfl ?_
    refine x_goto (t := 64) k_126_106 rfl ?_
    exact ih (n - 1) (by omega) (j + 1) (by omega) (by omega) h (M.ce (up2.trans (upe (fun q => shF_y (by omega))))) V
theorem lp_step (M : MP am ad C A h) (b : RB C A) {h0 : AH} (V : Mv am ad h0 h) {s k tt : Nat} (hs : s < 6) (hk : k < (A 21 s).toNat) (hte : tt = hdt A s k) (hc : cbP C A tt s) (z5 : Option AV) (kk : ∀ h', MP am ad C (stpA C A s k) h' → Mv am ad h0 h' → Rn 126 137 [some (aR am), some (aI ((s : Int))), some (aI (0)), some (aI ((k : Int))), some (aI (((tt : Nat) : Int))), some (aI (((A 21 s - 1).toNat : Int)))] [] h' Q) : Rn 126 51 [some (aR am), some (aI ((s : Int))), some (aI (0)), some (aI ((k : Int))), some (aI (((tt : Nat) : Int))), z5] [] h Q := by
  have h21 := b.v21 s
  have h5 := b.v5 tt
  have h13 := b.v13 (6 * s + (A 3 tt).toNat)
  have h20 := b.v20 (500 * s + k)
  have htt : tt < 500 := by rw [hte]; unfold hdt; omega
  have hc1 := hc.1
  refine x_aload_n k_126_51 rfl ?_
  refine x_get k_126_52 M.1 rfl ?_
  refine x_iload_n k_126_55 rfl ?_
  refine x_dup2 k_126_56 rfl ?_
  refine y_iaload (m := s) k_126_57 M.a21 (Or.inl rfl) rfl (by omega) ?_
  have f57 := b.v21 (s)
  refine x_iconst k_126_58 ?_
  refine x_isub k_126_59 ?_
  refine y_iastore (m := s) k_126_60 M.a21 rfl (by omega) ?_
  refine mgo (M.s21 _) (V.tr (Mv.ma (Nat.le_of_ble_eq_true rfl))) (fun h M V => ?_)
  refine x_iload_n k_126_61 rfl ?_
  refine x_is5 k_126_62 rfl ?_
  refine lp_shift (C := C) (A := up A 21 (up (A 21) s (A 21 s - 1))) (m := (A 21 s - 1).toNat) (b.t21 ⟨by omega, by omega⟩) hs (by show up (A 21) s (A 21 s - 1) s = _; rw [up_s]; omega) (by omega) (fun h M V => ?_) ((A 21 s - 1).toNat - k) k (by omega) (Nat.le_refl _) h (M.ce (upself (fun q => if_neg (by omega))).symm) V
  refine x_aload_n k_126_109 rfl ?_
  refine x_get k_126_110 M.1 rfl ?_
  refine x_bipush k_126_113 ?_
  refine x_iload_n k_126_115 rfl ?_
  refine x_imul k_126_116 ?_
  refine x_aload_n k_126_117 rfl ?_
  refine x_get k_126_118 M.1 rfl ?_
  refine x_iload k_126_121 rfl ?_
  refine y_iaload (m := (tt)) k_126_123 M.a3 (Or.inl rfl) rfl (by omega) ?_
  have f123 := b.v3 ((tt))
  refine x_iadd k_126_124 ?_
  refine x_dup2 k_126_125 rfl ?_
  refine y_iaload (m := 6 * s + (A 3 tt).toNat) k_126_126 M.a13 (Or.inl rfl) (show ((6 * (s : Int)) + A 3 (tt)) = ((6 * s + (A 3 tt).toNat : Nat) : Int) by omega) (by omega) ?_
  have f126 := b.v13 (6 * s + (A 3 tt).toNat)
  refine x_iconst k_126_127 ?_
  refine x_iadd k_126_128 ?_
  refine y_iastore (m := 6 * s + (A 3 tt).toNat) k_126_129 M.a13 (show ((6 * (s : Int)) + A 3 (tt)) = ((6 * s + (A 3 tt).toNat : Nat) : Int) by omega) (by omega) ?_
  refine mgo (M.s13 _) (V.tr (Mv.ma (Nat.le_of_ble_eq_true rfl))) (fun h M V => ?_)
  have b3 : RB C (up (up (up A 21 (up (A 21) s (A 21 s - 1))) 20 (shF A s k (A 21 s - 1).toNat)) 13 (up (A 13) (6 * s + (A 3 tt).toNat) (A 13 (6 * s + (A 3 tt).toNat) + 1))) := ((b.t21 ⟨by omega, by omega⟩).s20 (fun j => by unfold shF; split; exact b.v20 _; exact b.v20 _)).t13 ⟨by omega, by omega⟩
  refine x_aload_n k_126_130 rfl ?_
  refine x_iload k_126_131 rfl ?_
  refine x_iload_n k_126_133 rfl ?_
  refine x_call3 k_126_134 (Nat.le_of_ble_eq_true rfl) (rcv_1 M.1) (Nat.le_of_ble_eq_true rfl) ?_
  refine r_unlock (t := tt) (s := s) M b3 (by omega) hs (fun h M V1 => bh_v ?_)
  have V := V.tr V1
  subst hte
  exact kk h M V
theorem lp_search (M : MP am ad C A h) (b : RB C A) {h0 : AH} (V : Mv am ad h0 h) {s : Nat} (hs : s < 6) (k0 : ∀ h', (∀ q, q < (A 21 s).toNat → ¬ cbP C A (hdt A s q) s) → MP am ad C A h' → Mv am ad h0 h' → Q (.inl none) h') (k1 : ∀ h' k, k < (A 21 s).toNat → (∀ q, q < k → ¬ cbP C A (hdt A s q) s) → cbP C A (hdt A s k) s → MP am ad C (stpA C A s k) h' → Mv am ad h0 h' → ∀ z2 z3 z4 z5, Rn 126 6 [some (aR am), some (aI ((s : Int))), z2, z3, z4, z5] [] h' Q) : ∀ n j : Nat, j + n = (A 21 s).toNat → (∀ q, q < j → ¬ cbP C A (hdt A s q) s) → ∀ z4 z5, Rn 126 10 [some (aR am), some (aI ((s : Int))), some (aI (0)), some (aI ((j : Int))), z4, z5] [] h Q := by
  intro n
  induction n using Nat.strongRecOn with | ind n ih => ?_
  intro j hj hq z4 z5
  have h21 := b.v21 s
  refine x_iload_n k_126_10 rfl ?_
  refine x_aload_n k_126_11 rfl ?_
  refine x_get k_126_12 M.1 rfl ?_
  refine x_iload_n k_126_15 rfl ?_
  refine y_iaload (m := s) k_126_16 M.a21 (Or.inl rfl) rfl (by omega) ?_
  have f16 := b.v21 (s)
  refine x_icmpge (t := 145) k_126_17 rfl (by show inR ((j : Int)) ∧ inR (A 21 s); omega) (fun hb => ?_) (fun hb => ?_)
  · have c17 : A 21 s ≤ (j : Int) := hb
    refine x_goto (t := 2) k_126_145 rfl ?_
    refine x_iload_n k_126_2 rfl ?_
    refine x_ifeq (t := 148) k_126_3 rfl (by show inR (0); omega) (fun hb => ?_) (fun hb => ?_)
    · refine x_return k_126_148 ?_
      exact k0 h (fun q y => hq q (by omega)) M V
    · exact absurd hb (by decide)
  · have c17 : ¬ (A 21 s ≤ (j : Int)) := hb
    refine x_iload_n k_126_20 rfl ?_
    refine x_ifne (t := 145) k_126_21 rfl (by show inR (0); omega) (fun hb => ?_) (fun hb => ?_)
    · exact absurd hb (by decide)
    · refine x_aload_n k_126_24 rfl ?_
      refine x_get k_126_25 M.1 rfl ?_
      refine x_sipush k_126_28 ?_
      refine x_iload_n k_126_31 rfl ?_
      refine x_imul k_126_32 ?_
      refine x_iload_n k_126_33 rfl ?_
      refine x_iadd k_126_34 ?_
      refine y_iaload (m := 500 * s + j) k_126_35 M.a20 (Or.inl rfl) (show ((500 * (s : Int)) + (j : Int)) = ((500 * s + j : Nat) : Int) by omega) (by omega) ?_
      have f35 := b.v20 (500 * s + j)
      refine x_top (show A 20 (500 * s + j) = ((hdt A s j : Nat) : Int) from (by unfold hdt; omega)) ?_
      refine x_is4 k_126_36 rfl ?_
      refine x_aload_n k_126_38 rfl ?_
      refine x_iload k_126_39 rfl ?_
      refine x_iload_n k_126_41 rfl ?_
      refine x_call3 k_126_42 (Nat.le_of_ble_eq_true rfl) (rcv_1 M.1) (Nat.le_of_ble_eq_true rfl) ?_
      refine r_canBe (t := hdt A s j) (s := s) M b (by show (A 20 (500 * s + j)).toNat < 500; omega) hs (bh_1 ?_)
      refine x_ifne_P (t := 51) k_126_45 rfl (fun c45 => ?_) (fun c45 => ?_)
      · refine lp_step M b V hs (by omega) rfl c45 _ (fun h M V => ?_)
        refine x_iconst k_126_137 ?_
        refine x_is2n k_126_138 rfl ?_
        refine x_inc3 k_126_139 rfl ?_
        refine x_goto (t := 10) k_126_142 rfl ?_
        have b4 := stpA_b b (by omega) c45
        obtain ⟨A4, hA4⟩ : ∃ B, B = stpA C A s j := ⟨_, rfl⟩
        rw [← hA4] at M b4
        refine x_iload_n k_126_10 rfl ?_
        refine x_aload_n k_126_11 rfl ?_
        refine x_get k_126_12 M.1 rfl ?_
        refine x_iload_n k_126_15 rfl ?_
        refine y_iaload (m := s) k_126_16 M.a21 (Or.inl rfl) rfl (by omega) ?_
        have f16 := b4.v21 (s)
        refine x_icmpge (t := 145) k_126_17 rfl (by show inR (((j : Int) + 1)) ∧ inR (A4 21 s); omega) (fun hb => ?_) (fun hb => ?_)
        · have c17 : A4 21 s ≤ ((j : Int) + 1) := hb
          refine x_goto (t := 2) k_126_145 rfl ?_
          refine x_iload_n k_126_2 rfl ?_
          refine x_ifeq (t := 148) k_126_3 rfl (by show inR (1); omega) (fun hb => ?_) (fun hb => ?_)
          · exact absurd hb (by decide)
          · rw [hA4] at M
            exact k1 h j (by omega) hq c45 M V _ _ _ _
        · have c17 : ¬ (A4 21 s ≤ ((j : Int) + 1)) := hb
          refine x_iload_n k_126_20 rfl ?_
          refine x_ifne (t := 145) k_126_21 rfl (by show inR (1); omega) (fun hb => ?_) (fun hb => ?_)
          · refine x_goto (t := 2) k_126_145 rfl ?_
            refine x_iload_n k_126_2 rfl ?_
            refine x_ifeq (t := 148) k_126_3 rfl (by show inR (1); omega) (fun hb => ?_) (fun hb => ?_)
            · exact absurd hb (by decide)
            · rw [hA4] at M
              exact k1 h j (by omega) hq c45 M V _ _ _ _
          · exact absurd hb (by decide)
      · refine x_goto (t := 139) k_126_48 rfl ?_
        refine x_inc3 k_126_139 rfl ?_
        refine x_goto (t := 10) k_126_142 rfl ?_
        exact ih (n - 1) (by omega) (j + 1) (by omega) (nx_all hq c45) _ _
theorem lp_release {s : Nat} {h0 : AH} (hs : s < 6) : ∀ m : Nat, ∀ A h, (A 21 s).toNat = m → RB C A → MP am ad C A h → Mv am ad h0 h → (∀ n A' h', rlsP C s n A A' → RB C A' → MP am ad C A' h' → Mv am ad h0 h' → Q (.inl none) h') → ∀ z2 z3 z4 z5, Rn 126 6 [some (aR am), some (aI ((s : Int))), z2, z3, z4, z5] [] h Q := by
  intro m
  induction m using Nat.strongRecOn with | ind m ih => ?_
  intro A h hm b M V k z2 z3 z4 z5
  refine x_iconst k_126_6 ?_
  refine x_is2n k_126_7 rfl ?_
  refine x_iconst k_126_8 ?_
  refine x_is3n k_126_9 rfl ?_
  refine lp_search M b V hs (fun h' q M' V' => k 0 A h' ⟨rfl, q⟩ b M' V') (fun h' j q1 q2 q3 M' V' => ?_) (A 21 s).toNat 0 (Nat.zero_add _) (fun q hq => absurd hq (Nat.not_lt_zero q)) _ _
  have h21 := b.v21 s
  refine ih _ ?_ (stpA C A s j) h' rfl (stpA_b b q1 q3) M' V' (fun n A' h' r b' M' V' => k (n + 1) A' h' ⟨j, q1, q2, q3, r⟩ b' M' V')
  have e : stpA C A s j 21 s = A 21 s - 1 := by show up (A 21) s (A 21 s - 1) s = _; rw [up_s]
  rw [e]
  omega
theorem r_release (M : MP am ad C A h) (b : RB C A) {s : Nat} (hs : s < 6) (k : ∀ n A' h', rlsP C s n A A' → RB C A' → MP am ad C A' h' → Mv am ad h h' → Q (.inl none) h') : Rn 126 0 (entL 126 [aR am, aI s]) [] h Q := by
  show Rn 126 0 [some (aR am), some (aI s), none, none, none, none] [] h Q
  refine x_iconst k_126_0 ?_
  refine x_is2n k_126_1 rfl ?_
  refine x_iload_n k_126_2 rfl ?_
  refine x_ifeq (t := 148) k_126_3 rfl (by decide) (fun hb => absurd hb (by decide)) (fun hb => ?_)
  exact lp_release hs _ A h rfl b M Mv.rf k _ _ _ _
end M7
