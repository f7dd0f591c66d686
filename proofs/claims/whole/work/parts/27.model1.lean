section M1
variable {am : Nat} {ad : Nat → Nat} {C : Nat → Int} {A : Nat → Nat → Int} {h : AH} {Q : AR → AH → Prop}
theorem ret_1 {P : Prop} [Decidable P] (hp : P) (k : Q (.inl (some (aI (bI (decide P))))) h) : Q (.inl (some (aI 1))) h := by simpa [bI, hp] using k
theorem ret_0 {P : Prop} [Decidable P] (hp : ¬ P) (k : Q (.inl (some (aI (bI (decide P))))) h) : Q (.inl (some (aI 0))) h := by simpa [bI, hp] using k
def wcd (b r : Bool) : Int := if b then 1 else if r then 2 else 0
theorem r_thrown (M : MP am ad C A h) (k : Q (.inl (some (aI (C 0)))) h) : Rn 102 0 (entL 102 [aR am]) [] h Q := by
  show Rn 102 0 [some (aR am)] [] h Q
  refine x_aload_n k_102_0 rfl ?_
  refine x_get k_102_1 M.1 rfl ?_
  refine x_ireturn k_102_4 rfl ?_
  exact k
theorem r_no (M : MP am ad C A h) {x : Int} (k : ∀ h', MP am ad (up C 0 x) A h' → Mv am ad h h' → Q (.inl (some (aI 0))) h') : Rn 121 0 (entL 121 [aR am, aI x]) [] h Q := by
  show Rn 121 0 [some (aR am), some (aI x)] [] h Q
  refine x_aload_n k_121_0 rfl ?_
  refine x_iload_n k_121_1 rfl ?_
  refine x_put k_121_2 M.1 (Nat.le_of_ble_eq_true rfl) rfl ?_
  refine x_iconst k_121_5 ?_
  refine x_ireturn k_121_6 rfl ?_
  exact k _ (M.c0 x) Mv.mo
theorem r_isSite (M : MP am ad C A h) {s : Int} (hs : inR s) (hc : inR (C 1)) (k : Q (.inl (some (aI (bI (decide (0 ≤ s ∧ s < C 1)))))) h) : Rn 106 0 (entL 106 [aR am, aI s]) [] h Q := by
  show Rn 106 0 [some (aR am), some (aI s)] [] h Q
  refine x_iload_n k_106_0 rfl ?_
  refine x_iflt (t := 16) k_106_1 rfl hs (fun hb => ?_) (fun hb => ?_)
  · refine x_iconst k_106_16 ?_
    refine x_zreturn k_106_17 rfl (by first | exact Or.inl rfl | exact Or.inr rfl) ?_
    exact ret_0 (by omega) k
  · refine x_iload_n k_106_4 rfl ?_
    refine x_aload_n k_106_5 rfl ?_
    refine x_get k_106_6 M.1 rfl ?_
    refine x_icmpge (t := 16) k_106_9 rfl ⟨hs, hc⟩ (fun hb => ?_) (fun hb => ?_)
    · refine x_iconst k_106_16 ?_
      refine x_zreturn k_106_17 rfl (by first | exact Or.inl rfl | exact Or.inr rfl) ?_
      exact ret_0 (by omega) k
    · refine x_iconst k_106_12 ?_
      refine x_goto (t := 17) k_106_13 rfl ?_
      refine x_zreturn k_106_17 rfl (by first | exact Or.inl rfl | exact Or.inr rfl) ?_
      exact ret_1 (by omega) k
theorem r_isTran (M : MP am ad C A h) {s : Int} (hs : inR s) (hc : inR (C 3)) (k : Q (.inl (some (aI (bI (decide (0 ≤ s ∧ s < C 3)))))) h) : Rn 110 0 (entL 110 [aR am, aI s]) [] h Q := by
  show Rn 110 0 [some (aR am), some (aI s)] [] h Q
  refine x_iload_n k_110_0 rfl ?_
  refine x_iflt (t := 16) k_110_1 rfl hs (fun hb => ?_) (fun hb => ?_)
  · refine x_iconst k_110_16 ?_
    refine x_zreturn k_110_17 rfl (by first | exact Or.inl rfl | exact Or.inr rfl) ?_
    exact ret_0 (by omega) k
  · refine x_iload_n k_110_4 rfl ?_
    refine x_aload_n k_110_5 rfl ?_
    refine x_get k_110_6 M.1 rfl ?_
    refine x_icmpge (t := 16) k_110_9 rfl ⟨hs, hc⟩ (fun hb => ?_) (fun hb => ?_)
    · refine x_iconst k_110_16 ?_
      refine x_zreturn k_110_17 rfl (by first | exact Or.inl rfl | exact Or.inr rfl) ?_
      exact ret_0 (by omega) k
    · refine x_iconst k_110_12 ?_
      refine x_goto (t := 17) k_110_13 rfl ?_
      refine x_zreturn k_110_17 rfl (by first | exact Or.inl rfl | exact Or.inr rfl) ?_
      exact ret_1 (by omega) k
theorem r_isObject (M : MP am ad C A h) {s : Int} (hs : inR s) (hc : inR (C 2)) (k : Q (.inl (some (aI (bI (decide (0 ≤ s ∧ s < C 2)))))) h) : Rn 111 0 (entL 111 [aR am, aI s]) [] h Q := by
  show Rn 111 0 [some (aR am), some (aI s)] [] h Q
  refine x_iload_n k_111_0 rfl ?_
  refine x_iflt (t := 16) k_111_1 rfl hs (fun hb => ?_) (fun hb => ?_)
  · refine x_iconst k_111_16 ?_
    refine x_zreturn k_111_17 rfl (by first | exact Or.inl rfl | exact Or.inr rfl) ?_
    exact ret_0 (by omega) k
  · refine x_iload_n k_111_4 rfl ?_
    refine x_aload_n k_111_5 rfl ?_
    refine x_get k_111_6 M.1 rfl ?_
    refine x_icmpge (t := 16) k_111_9 rfl ⟨hs, hc⟩ (fun hb => ?_) (fun hb => ?_)
    · refine x_iconst k_111_16 ?_
      refine x_zreturn k_111_17 rfl (by first | exact Or.inl rfl | exact Or.inr rfl) ?_
      exact ret_0 (by omega) k
    · refine x_iconst k_111_12 ?_
      refine x_goto (t := 17) k_111_13 rfl ?_
      refine x_zreturn k_111_17 rfl (by first | exact Or.inl rfl | exact Or.inr rfl) ?_
      exact ret_1 (by omega) k
theorem r_fails (M : MP am ad C A h) {b r : Bool} (k : ∀ h', MP am ad (up C 0 (wcd b r)) A h' → Mv am ad h h' → Q (.inl (some (aI (bI (decide (wcd b r ≠ 0)))))) h') : Rn 104 0 (entL 104 [aR am, aI (bI b), aI (bI r)]) [] h Q := by
  show Rn 104 0 [some (aR am), some (aI (bI b)), some (aI (bI r))] [] h Q
  refine x_aload_n k_104_0 rfl ?_
  refine x_iload_n k_104_1 rfl ?_
  have fin : ∀ x : Int, x = wcd b r → inR x → Rn 104 18 [some (aR am), some (aI (bI b)), some (aI (bI r))] [aI x, aR am] h Q := by
    intro x hx hr
    refine x_put k_104_18 M.1 (Nat.le_of_ble_eq_true rfl) rfl ?_
    refine x_aload_n k_104_21 rfl ?_
    refine x_get k_104_22 (M.c0 x).1 rfl ?_
    refine x_ifeq (t := 32) k_104_25 rfl hr (fun hb => ?_) (fun hb => ?_)
    · refine x_iconst k_104_32 ?_
      refine x_zreturn k_104_33 rfl (Or.inl rfl) ?_
      have hb : x = 0 := hb
      subst hx
      exact ret_0 (by omega) (k _ (M.c0 _) Mv.mo)
    · refine x_iconst k_104_28 ?_
      refine x_goto (t := 33) k_104_29 rfl ?_
      refine x_zreturn k_104_33 rfl (Or.inr rfl) ?_
      have hb : ¬ x = 0 := hb
      subst hx
      exact ret_1 hb (k _ (M.c0 _) Mv.mo)
  refine x_ifeq_b (t := 9) k_104_2 rfl (fun hb => ?_) (fun hb => ?_)
  · refine x_iload_n k_104_9 rfl ?_
    refine x_ifeq_b (t := 17) k_104_10 rfl (fun hr => ?_) (fun hr => ?_)
    · refine x_iconst k_104_17 ?_
      exact fin 0 (by simp [wcd, hb, hr]) (by decide)
    · refine x_iconst k_104_13 ?_
      refine x_goto (t := 18) k_104_14 rfl ?_
      exact fin 2 (by simp [wcd, hb, hr]) (by decide)
  · refine x_iconst k_104_5 ?_
    refine x_goto (t := 18) k_104_6 rfl ?_
    exact fin 1 (by simp [wcd, hb]) (by decide)
end M1
