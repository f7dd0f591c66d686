section C8
variable {ad : AD} {ow : OW} {K : KK} {h : AH} {C : Nat → Int} {A I : Nat → Nat → Int} {F : Nat → Nat → Nat → Int} {Ls : Nat → List Nat} {cp : Nat → Nat} {Q : AR → AH → Prop}
def csum (cp : Nat → Nat) : Nat → Nat
  | 0 => 0
  | n + 1 => csum cp n + cp n
theorem csum_n {id c : Nat} : ∀ n, n ≤ id → csum (up cp id c) n = csum cp n := by
  intro n
  induction n with
  | zero => intro _; rfl
  | succ n ih =>
    intro hn
    simp only [csum]
    rw [ih (by omega), up_n (by omega)]
theorem csum_up {id c : Nat} : ∀ n, id < n → csum (up cp id c) n + cp id = csum cp n + c := by
  intro n
  induction n with
  | zero => intro hn; omega
  | succ n ih =>
    intro hn
    simp only [csum]
    by_cases hi : id = n
    · subst hi
      rw [up_s, csum_n id (Nat.le_refl _)]
      omega
    · have := ih (by omega)
      rw [up_n (fun q => hi q.symm)]
      omega
/-- room: slots at most S and four for each place of the lists' capacity; cells at most N -/
def PT (S N : Nat) (h : AH) (cp : Nat → Nat) : Prop := h.2.2.1 ≤ S + 4 * csum cp 1500 ∧ h.2.1 ≤ N
def IB (C : Nat → Int) (Ls : Nat → List Nat) (cp : Nat → Nat) : Prop := ∀ u, u < (C 1).toNat → (Ls (3 + 2 * u)).length ≤ (C 5).toNat ∧ cp (3 + 2 * u) ≤ 10 + 2 * (C 5).toNat
theorem sndgo2 {i pc u t S N : Nat} {L : AL} {st : List AV} {fr so : Int} {ow0 : OW} {h0 : AH} (hk1 : cod i pc = some (.inr (17, 16, 2, 1, 8), 3)) (hk2 : cod i (pc + 3) = some (.inl .pop, 1)) (hl : st.length ≤ 4) (w : WD ad ow K h) (g : CI ad K h.2.2.2.1 C A I F Ls cp) (b : RB C A) (lt : LT C A Ls) (fo : Fo ow0 h0 ow h) (ib : IB C Ls cp) (pt : PT S N h cp) (hu : u < (C 1).toNat) (ht : t < (C 3).toNat)
    (k : ∀ ad' ow' K' cp' h', WD ad' ow' K' h' → CI ad' K' h'.2.2.2.1 (sndC C) (sndA C A fr u so t) (up I 2 (up (I 2) (C 5).toNat so)) F (up Ls (3 + 2 * u) (Ls (3 + 2 * u) ++ [(C 5).toNat])) cp' → LT (sndC C) (sndA C A fr u so t) (up Ls (3 + 2 * u) (Ls (3 + 2 * u) ++ [(C 5).toNat])) → Fo ow0 h0 ow' h' → IB (sndC C) (up Ls (3 + 2 * u) (Ls (3 + 2 * u) ++ [(C 5).toNat])) cp' → PT (S + 3) (N + 2) h' cp' → (∀ k i, (k ≠ 7 ∨ i < (C 5).toNat) → k ≠ 10 → ad' k i = ad k i) → (∀ i, (i < 2 ∨ i % 2 = 0 ∨ 2 + 2 * (C 1).toNat ≤ i) → cp' i = cp i) → Rn i (pc + 3 + 1) L st h' Q) : Rn i pc L (aR h.2.1 :: aR (ad 8 (3 + 2 * u)) :: st) (hnew h (.inr (7, [aI so, aI fr, aR (ad 4 t)])) 3) Q := by
  have b1 := b.c1
  have b5 := b.c5
  have hb := ib u hu
  have v := g.lb hu (by omega)
  have hlc : (Ls (3 + 2 * u)).length ≤ cp (3 + 2 * u) ∧ (cp (3 + 2 * u) = 0 ∨ 10 ≤ cp (3 + 2 * u)) := by
    obtain ⟨m, G, v⟩ := v
    exact ⟨v.2.2.1, v.2.2.2.1⟩
  refine sndgo hk1 hk2 hl w g b lt fo hu (by omega) (fun ad' ow' K' h' c' w' g' fo' hA hcost => ?_)
  have hl2 : (Ls (3 + 2 * u) ++ [(C 5).toNat]).length = (Ls (3 + 2 * u)).length + 1 := by simp
  have hnc : ncap (cp (3 + 2 * u)) ≤ 10 + 2 * cp (3 + 2 * u) ∧ ncap (cp (3 + 2 * u)) ≤ 4 * (ncap (cp (3 + 2 * u)) - cp (3 + 2 * u)) ∧ cp (3 + 2 * u) ≤ ncap (cp (3 + 2 * u)) := by
    unfold ncap
    split <;> omega
  have v' := g'.lb (s := u) hu (by omega)
  rw [up_s, up_s] at v'
  have hlc' : (Ls (3 + 2 * u)).length + 1 ≤ c' := by
    obtain ⟨m, G, v'⟩ := v'
    have := v'.2.2.1
    omega
  have hs := csum_up (cp := cp) (c := c') 1500 (show 3 + 2 * u < 1500 by omega)
  refine k ad' ow' K' _ h' w' g' (lt.snd b hu b1.2 ht) fo' (fun u' hu' => ?_) ⟨?_, ?_⟩ hA (fun i hi => up_n (by omega))
  · have hu' : u' < (C 1).toNat := hu'
    show _ ≤ (C 5 + 1).toNat ∧ _ ≤ 10 + 2 * (C 5 + 1).toNat
    by_cases hn : 3 + 2 * u' = 3 + 2 * u
    · rw [hn, up_s, up_s, hl2]
      refine ⟨by omega, ?_⟩
      rcases hcost with ⟨c1, _⟩ | ⟨c1, _, _, c4⟩
      · omega
      · omega
    · rw [up_n hn, up_n hn]
      have := ib u' hu'
      omega
  · have := pt.1
    rcases hcost with ⟨c1, c2, c3⟩ | ⟨c1, c2, c3, c4⟩ <;> omega
  · have := pt.2
    rcases hcost with ⟨c1, c2, c3⟩ | ⟨c1, c2, c3, c4⟩ <;> omega
end C8
