section C11
variable {ad : AD} {ow : OW} {K : KK} {h : AH} {C : Nat → Int} {A I : Nat → Nat → Int} {F : Nat → Nat → Nat → Int} {Ls : Nat → List Nat} {cp : Nat → Nat} {Q : AR → AH → Prop}
theorem lp_news {ow0 : OW} {h0 : AH} {ad0 : AD} {cp0 : Nat → Nat} {C0 : Nat → Int} {A0 I0 : Nat → Nat → Int} {Ls0 : Nat → List Nat} {S N t s : Nat} (b0 : RB C0 A0) (h5 : C0 5 + 6 ≤ 15000) (ht0 : t < (C0 3).toNat) (k : ∀ ad' ow' K' cp' h', WD ad' ow' K' h' → CI ad' K' h'.2.2.2.1 ((bcl (fun u => ¬ (u : Int) = A0 3 t) (A0 3 t) 5 t (C0, A0, I0, Ls0)) (C0 1).toNat).1 ((bcl (fun u => ¬ (u : Int) = A0 3 t) (A0 3 t) 5 t (C0, A0, I0, Ls0)) (C0 1).toNat).2.1 ((bcl (fun u => ¬ (u : Int) = A0 3 t) (A0 3 t) 5 t (C0, A0, I0, Ls0)) (C0 1).toNat).2.2.1 F ((bcl (fun u => ¬ (u : Int) = A0 3 t) (A0 3 t) 5 t (C0, A0, I0, Ls0)) (C0 1).toNat).2.2.2 cp' → LT ((bcl (fun u => ¬ (u : Int) = A0 3 t) (A0 3 t) 5 t (C0, A0, I0, Ls0)) (C0 1).toNat).1 ((bcl (fun u => ¬ (u : Int) = A0 3 t) (A0 3 t) 5 t (C0, A0, I0, Ls0)) (C0 1).toNat).2.1 ((bcl (fun u => ¬ (u : Int) = A0 3 t) (A0 3 t) 5 t (C0, A0, I0, Ls0)) (C0 1).toNat).2.2.2 → Fo ow0 h0 ow' h' → IB ((bcl (fun u => ¬ (u : Int) = A0 3 t) (A0 3 t) 5 t (C0, A0, I0, Ls0)) (C0 1).toNat).1 ((bcl (fun u => ¬ (u : Int) = A0 3 t) (A0 3 t) 5 t (C0, A0, I0, Ls0)) (C0 1).toNat).2.2.2 cp' → PT (S + 3 * (C0 1).toNat) (N + 2 * (C0 1).toNat) h' cp' → (∀ k i, (k ≠ 7 ∨ i < (C0 5).toNat) → k ≠ 10 → ad' k i = ad0 k i) → (∀ i, (i < 2 ∨ i % 2 = 0 ∨ 2 + 2 * (C0 1).toNat ≤ i) → cp' i = cp0 i) → Q (.inl none) h') : ∀ n j : Nat, j + n = (C0 1).toNat → ∀ ad ow K C A I Ls cp h, (bcl (fun u => ¬ (u : Int) = A0 3 t) (A0 3 t) 5 t (C0, A0, I0, Ls0)) j = (C, A, I, Ls) → WD ad ow K h → CI ad K h.2.2.2.1 C A I F Ls cp → LT C A Ls → Fo ow0 h0 ow h → IB C Ls cp → PT (S + 3 * j) (N + 2 * j) h cp → (∀ k i, (k ≠ 7 ∨ i < (C0 5).toNat) → k ≠ 10 → ad k i = ad0 k i) → (∀ i, (i < 2 ∨ i % 2 = 0 ∨ 2 + 2 * (C0 1).toNat ≤ i) → cp i = cp0 i) → Rn 68 51 [some (aR (ad 0 0)), some (aR (ad 4 t)), some (aR (ad 2 s)), some (aI ((j : Int)))] [] h Q := by
  intro n
  induction n using Nat.strongRecOn with | ind n ih => ?_
  intro j hj ad ow K C A I Ls cp h e w g lt fo ib pt hA hcp
  have b01 := b0.c1
  have b03 := b0.v3 t
  have b033 := b0.c3
  have q := bcs_ok b0 (P := (fun u => ¬ (u : Int) = A0 3 t)) (a := A0 3 t) (so := 5) (t := t) b03 ⟨by omega, by omega⟩ ⟨by omega, by omega⟩ h5 j (by omega)
  have qs := bcl_s (P := (fun u => ¬ (u : Int) = A0 3 t)) (a := A0 3 t) (so := 5) (t := t) (p := (C0, A0, I0, Ls0)) j
  rw [e] at qs
  have qC : C = (bcs (fun u => ¬ (u : Int) = A0 3 t) (A0 3 t) 5 t C0 A0 j).1 := qs.1
  have qA : A = (bcs (fun u => ¬ (u : Int) = A0 3 t) (A0 3 t) 5 t C0 A0 j).2 := qs.2.1
  have b : RB C A := by rw [qC, qA]; exact q.1
  have e5 : C0 5 ≤ C 5 := by rw [qC]; exact q.2.1
  have e1 : C 1 = C0 1 := by rw [qC]; exact q.2.2.2.1 1 (by decide)
  have e3 : C 3 = C0 3 := by rw [qC]; exact q.2.2.2.1 3 (by decide)
  have ea3 : A 3 = A0 3 := by rw [qA]; exact q.2.2.2.2 3 (by decide)
  have ht : t < (C 3).toNat := by rw [e3]; exact ht0
  obtain ⟨R, hR, hR2⟩ := g.row
  refine x_iload_n k_68_51 rfl ?_
  refine x_aload_n k_68_52 rfl ?_
  refine x_get k_68_53 (w.at g.store) rfl ?_
  refine x_alen k_68_56 (w.at hR) ?_
  refine x_icmpge (t := 100) k_68_57 rfl (by show inR ((j : Int)) ∧ inR (((C 1).toNat : Int)); omega) (fun hb => ?_) (fun hb => ?_)
  · have c57 : ((C 1).toNat : Int) ≤ (j : Int) := hb
    refine x_return k_68_100 ?_
    have e2 : (C0 1).toNat = j := by omega
    refine k ad ow K cp h w ?_ ?_ fo ?_ ?_ hA hcp
    · rw [e2, e]; exact g
    · rw [e2, e]; exact lt
    · rw [e2, e]; exact ib
    · rw [e2]; exact pt
  · have c57 : ¬ (((C 1).toNat : Int) ≤ (j : Int)) := hb
    refine x_iload_n k_68_60 rfl ?_
    refine x_aload_n k_68_61 rfl ?_
    refine x_get k_68_62 (w.at (g.tran (by omega))) rfl ?_
    have f62 := b.v3 t
    refine x_icmpeq (t := 94) k_68_65 rfl (by show inR ((j : Int)) ∧ inR (A 3 t); omega) (fun hb => ?_) (fun hb => ?_)
    · have c65 : (j : Int) = A 3 t := hb
      refine x_inc3 k_68_94 rfl ?_
      refine x_goto (t := 51) k_68_97 rfl ?_
      have z := ih (n - 1) (by omega) (j + 1) (by omega) ad ow K C A I Ls cp h (by rw [bcl_n (P := (fun u => ¬ (u : Int) = A0 3 t)) (fun y => y (by rw [ea3] at c65; exact c65)), e]) w g lt fo ib ⟨by have := pt.1; omega, by have := pt.2; omega⟩ hA hcp
      exact z
    · have c65 : ¬ ((j : Int) = A 3 t) := hb
      refine x_aload_n k_68_68 rfl ?_
      refine x_get k_68_69 (w.at g.store) rfl ?_
      refine x_iload_n k_68_72 rfl ?_
      refine x_aaload k_68_73 (w.at hR) (Or.inl rfl) (by omega) (by omega) ?_
      rw [show R (((j : Int)) : Int).toNat = some (ad 2 j) from hR2 j (by omega)]
      refine x_get k_68_74 (w.at (g.site (by omega))) rfl ?_
      refine x_new k_68_77 ?_
      refine x_dup k_68_80 rfl ?_
      refine x_iconst k_68_81 ?_
      refine x_aload_n k_68_82 rfl ?_
      refine x_get k_68_83 ((hnew_n (Nat.ne_of_lt (w.1 _ _ _ (g.tran ht)).2.2)).trans (w.at (g.tran ht))) rfl ?_
      refine x_aload_n k_68_86 rfl ?_
      refine x_call4 k_68_87 (Nat.le_of_ble_eq_true rfl) rfl (Nat.le_of_ble_eq_true rfl) ?_
      refine i_message hnew_s (bh_v ?_)
      rw [hput_new]
      refine sndgo2 (S := S + 3 * j) (N := N + 2 * j) k_68_90 k_68_93 (Nat.le_of_ble_eq_true rfl) w g b lt fo ib pt (by omega) ht (fun ad' ow' K' cp' h' w' g' lt' fo' ib' pt' hA' hcp' => ?_)
      refine x_inc3 k_68_94 rfl ?_
      refine x_goto (t := 51) k_68_97 rfl ?_
      have z := ih (n - 1) (by omega) (j + 1) (by omega) ad' ow' K' _ _ _ _ cp' h' (by rw [bcl_y (P := (fun u => ¬ (u : Int) = A0 3 t)) (by rw [ea3] at c65; exact c65), e]; unfold bstep; rw [ea3]) w' g' lt' fo' ib' pt' (fun k i h7 h10 => (hA' k i (h7.imp id (fun z => by omega)) h10).trans (hA k i h7 h10)) (fun i hi => (hcp' i (by omega)).trans (hcp i hi))
      rw [hA' 0 0 (Or.inl (by decide)) (by decide), hA' 4 t (Or.inl (by decide)) (by decide), hA' 2 s (Or.inl (by decide)) (by decide)] at z
      exact z
/-- the store's number of commits -/
theorem CI.cms {z : Nat} {v : Int} (g : CI ad K z C A I F Ls cp) : CI ad (p2 K 0 0 (sCell ad (up C 6 v) I)) z (up C 6 v) A I F Ls cp := by
  obtain ⟨g1, g2, g3, g4, g5, g6, g7, g8, g9, g10, g11, g12, g13, g14, g15, g16, g17⟩ := g
  exact ⟨p2_s, g2, g3, g4, g5, g6, g7, g8, g9, g10, fun id hi => (g11 id hi).cls (by decide) (by decide), g12, g13, g14, g15, g16, g17⟩
theorem cmsgo {i pc : Nat} {L : AL} {st : List AV} {ow0 : OW} {h0 : AH} (w : WD ad ow K h) (fo : Fo ow0 h0 ow h) (g : CI ad K h.2.2.2.1 C A I F Ls cp) (v : Int) (k : ∀ K' h', WD ad ow K' h' → Fo ow0 h0 ow h' → CI ad K' h'.2.2.2.1 (up C 6 v) A I F Ls cp → h'.2 = h.2 → Rn i pc L st h' Q) : Rn i pc L st (hput h (ad 0 0) (sCell ad (up C 6 v) I)) Q := k _ _ (w.put g.store) (fo.tr (Fo.put w g.store)) g.cms rfl
end C11
