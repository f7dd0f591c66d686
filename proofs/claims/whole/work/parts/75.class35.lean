section C35
variable {ad : AD} {ow : OW} {K : KK} {h : AH} {C : Nat → Int} {A I : Nat → Nat → Int} {F : Nat → Nat → Nat → Int} {Ls : Nat → List Nat} {cp : Nat → Nat} {Q : AR → AH → Prop}
/-- the names that sites makes -/
def nws (k i : Nat) : Prop := (k = 14 ∧ i = 0) ∨ k = 2 ∨ k = 11 ∨ (k = 8 ∧ 2 ≤ i ∧ i < 20)
/-- j of the sites are made -/
def SI (ad0 : AD) (K0 : KK) (z n j : Nat) (ad : AD) (K : KK) : Prop := (∀ k i, ¬ nws k i → K k i = K0 k i ∧ ad k i = ad0 k i) ∧ (∃ R, K 14 0 = some (.inl (3, n, .inr (.inr R))) ∧ ∀ s, s < j → R s = some (ad 2 s)) ∧ (∀ s, s < j → K 2 s = some (siCell ad s) ∧ K 11 s = some (inCell n (fun _ => 0)) ∧ K 8 (2 + 2 * s) = some (lcell z 0 0) ∧ K 8 (3 + 2 * s) = some (lcell z 0 0))
theorem lp_sites {ow0 : OW} {h0 hb : AH} {ad0 : AD} {K0 : KK} {n : Nat} (hn : n ≤ 6) (k : ∀ ad ow K h, WD ad ow K h → Fo ow0 h0 ow h → h.2.2.2 = hb.2.2.2 → SI ad0 K0 hb.2.2.2.1 n n ad K → h.2.1 = hb.2.1 + 4 * n → h.2.2.1 = hb.2.2.1 + (10 + n) * n → Rn 10 69 [some (aR (ad0 0 0)), some (aI (n : Int)), some (aR (ad 14 0)), some (aI ((n : Int)))] [] h Q) : ∀ m j : Nat, j + m = n → ∀ ad ow K h, WD ad ow K h → Fo ow0 h0 ow h → h.2.2.2 = hb.2.2.2 → SI ad0 K0 hb.2.2.2.1 n j ad K → h.2.1 = hb.2.1 + 4 * j → h.2.2.1 = hb.2.2.1 + (10 + n) * j → Rn 10 46 [some (aR (ad0 0 0)), some (aI (n : Int)), some (aR (ad 14 0)), some (aI ((j : Int)))] [] h Q := by
  intro m
  induction m with
  | zero =>
    intro j hj ad ow K h w fo ez si c1 c2
    have e : j = n := by omega
    subst e
    refine x_iload_n k_10_46 rfl ?_
    refine x_iload_n k_10_47 rfl ?_
    refine x_icmpge (t := 69) k_10_48 rfl (by show inR (j : Int) ∧ inR (j : Int); omega) (fun hb' => ?_) (fun hb' => absurd (Int.le_refl _) hb')
    exact k ad ow K h w fo ez si c1 c2
  | succ m ih =>
    intro j hj ad ow K h w fo ez si c1 c2
    obtain ⟨s1, ⟨R, s2, s3⟩, s4⟩ := si
    have ez1 : h.2.2.2.1 = hb.2.2.2.1 := by rw [ez]
    refine x_iload_n k_10_46 rfl ?_
    refine x_iload_n k_10_47 rfl ?_
    refine x_icmpge (t := 69) k_10_48 rfl (by show inR (j : Int) ∧ inR (n : Int); omega) (fun hb' => absurd (show (n : Int) ≤ j from hb') (by omega)) (fun hb' => ?_)
    refine x_aload_n k_10_51 rfl ?_
    refine x_iload_n k_10_52 rfl ?_
    refine x_new k_10_53 ?_
    refine x_dup k_10_56 rfl ?_
    refine x_iload_n k_10_57 rfl ?_
    refine x_iload_n k_10_58 rfl ?_
    refine x_call3 k_10_59 (Nat.le_of_ble_eq_true rfl) rfl (Nat.le_of_ble_eq_true rfl) ?_
    refine i_site (f1 := aI 0) (f2 := aN) (f3 := aN) (f4 := aN) hn hnew_s (Nat.lt_succ_self _) (bh_v ?_)
    obtain ⟨ic, eic⟩ : ∃ e : AE, e = .inr (2, [aI (j : Int), aR (h.2.1 + 1), aR (h.2.1 + 1 + 1), aR (h.2.1 + 1 + 2)]) := ⟨_, rfl⟩
    obtain ⟨lc, elc⟩ : ∃ e : AE, e = lcell h.2.2.2.1 0 0 := ⟨_, rfl⟩
    obtain ⟨sc, esc⟩ : ∃ e : AE, e = .inl (0, n, .inl (fun _ => 0)) := ⟨_, rfl⟩
    obtain ⟨ad3, ead⟩ : ∃ f : AD, f = qd (qd (qd (qd ad 2 j h.2.1) 11 j (h.2.1 + 1)) 8 (2 + 2 * j) (h.2.1 + 1 + 1)) 8 (3 + 2 * j) (h.2.1 + 1 + 2) := ⟨_, rfl⟩
    obtain ⟨ow3, eow⟩ : ∃ f : OW, f = up (up (up (up ow h.2.1 (2, j)) (h.2.1 + 1) (11, j)) (h.2.1 + 1 + 1) (8, 2 + 2 * j)) (h.2.1 + 1 + 2) (8, 3 + 2 * j) := ⟨_, rfl⟩
    obtain ⟨K3, eK3⟩ : ∃ f : KK, f = p2 (p2 (p2 (p2 K 2 j (.inr (2, dfl 2))) 11 j sc) 8 (2 + 2 * j) lc) 8 (3 + 2 * j) lc := ⟨_, rfl⟩
    obtain ⟨h3, eh3⟩ : ∃ f : AH, f = hnew (hnew (hnew (hnew h (.inr (2, dfl 2)) 4) sc n) lc 3) lc 3 := ⟨_, rfl⟩
    have w3 : WD ad3 ow3 K3 h3 := by
      rw [ead, eow, eK3, eh3]
      exact (((w.new (k := 2) (i := j) (e := .inr (2, dfl 2)) (c := 4) (by decide)).new (k := 11) (i := j) (e := sc) (c := n) (by decide)).new (k := 8) (i := 2 + 2 * j) (e := lc) (c := 3) (by decide)).new (k := 8) (i := 3 + 2 * j) (e := lc) (c := 3) (by decide)
    have fo3 : Fo ow0 h0 ow3 h3 := by
      rw [eow, eh3]
      exact fo.tr (Fo.new.tr (Fo.new.tr (Fo.new.tr Fo.new)))
    have ea : ad3 2 j = h.2.1 := by rw [ead, qd_n (by omega), qd_n (by omega), qd_n (by omega)]; exact qd_s
    have ek3 : K3 2 j = some (.inr (2, dfl 2)) := by rw [eK3, p2_n (by omega), p2_n (by omega), p2_n (by omega)]; exact p2_s
    have w4 : WD ad3 ow3 (p2 K3 2 j ic) (hput h3 h.2.1 ic) := by
      have := w3.put (e := ic) ek3
      rw [ea] at this
      exact this
    have fo4 : Fo ow0 h0 ow3 (hput h3 h.2.1 ic) := by
      have := fo3.tr (Fo.put (e := ic) w3 ek3)
      rw [ea] at this
      exact this
    have ekk : ∀ k i, ¬ (k = 2 ∧ i = j) → ¬ (k = 11 ∧ i = j) → ¬ (k = 8 ∧ i = 2 + 2 * j) → ¬ (k = 8 ∧ i = 3 + 2 * j) → p2 K3 2 j ic k i = K k i ∧ ad3 k i = ad k i := fun k i n1 n2 n3 n4 => by
      rw [p2_n n1, eK3, p2_n n4, p2_n n3, p2_n n2, p2_n n1, ead, qd_n n4, qd_n n3, qd_n n2, qd_n n1]
      exact ⟨rfl, rfl⟩
    have er := ekk 14 0 (by omega) (by omega) (by omega) (by omega)
    have e14 : ad3 14 0 = ad 14 0 := er.2
    have hrow : p2 K3 2 j ic 14 0 = some (.inl (3, n, .inr (.inr R))) := by rw [er.1]; exact s2
    have hic : p2 K3 2 j ic 2 j = some ic := p2_s
    show Rn 10 62 [some (aR (ad0 0 0)), some (aI (n : Int)), some (aR (ad 14 0)), some (aI ((j : Int)))] [aR h.2.1, aI (j : Int), aR (ad 14 0)] (hput (hnew (hnew (hnew (hnew h (.inr (2, dfl 2)) 4) (.inl (0, n, .inl (fun _ => 0))) n) (lcell h.2.2.2.1 0 0) 3) (lcell h.2.2.2.1 0 0) 3) h.2.1 (.inr (2, [aI (j : Int), aR (h.2.1 + 1), aR (h.2.1 + 1 + 1), aR (h.2.1 + 1 + 2)]))) Q
    rw [← elc, ← esc, ← eh3, ← eic, ← e14]
    have hc2 : (hput h3 h.2.1 ic).1 h.2.1 = some (.inr (2, [aI (j : Int), aR (h.2.1 + 1), aR (h.2.1 + 1 + 1), aR (h.2.1 + 1 + 2)])) := by
      have := w4.at hic
      rw [ea, eic] at this
      rw [eic]
      exact this
    refine x_aastore k_10_62 (w4.at hrow) (Or.inl rfl) (by omega) (by omega) (by unfold o_may; simp only [hc2]; rfl) ?_
    refine x_inc3 k_10_63 rfl ?_
    refine x_goto (t := 46) k_10_66 rfl ?_
    have w5 := w4.put (e := .inl (3, n, .inr (.inr (up R ((j : Int)).toNat (some h.2.1))))) hrow
    have fo5 := fo4.tr (Fo.put (e := .inl (3, n, .inr (.inr (up R ((j : Int)).toNat (some h.2.1))))) w4 hrow)
    have p14 : ∀ k i, ¬ k = 14 → p2 (p2 K3 2 j ic) 14 0 (.inl (3, n, .inr (.inr (up R ((j : Int)).toNat (some h.2.1))))) k i = p2 K3 2 j ic k i := fun k i hk => p2_n (fun z => hk z.1)
    refine ih (j + 1) (by omega) ad3 ow3 _ _ w5 fo5 ?_ ⟨fun k i hk => ?_, ⟨_, p2_s, fun s hs => ?_⟩, fun s hs => ?_⟩ ?_ ?_
    · rw [eh3]; exact ez
    · have n0 : ¬ (k = 14 ∧ i = 0) := fun q => hk (Or.inl q)
      have q := ekk k i (fun q => hk (Or.inr (Or.inl q.1))) (fun q => hk (Or.inr (Or.inr (Or.inl q.1)))) (fun q => hk (Or.inr (Or.inr (Or.inr (by omega))))) (fun q => hk (Or.inr (Or.inr (Or.inr (by omega)))))
      rw [p2_n n0, q.1, q.2]
      exact s1 k i hk
    · by_cases e : s = j
      · rw [e, ea, show ((j : Int)).toNat = j by omega, up_s]
      · rw [up_n (by omega), (ekk 2 s (by omega) (by omega) (by omega) (by omega)).2]
        exact s3 s (by omega)
    · rw [p14 2 s (by decide), p14 11 s (by decide), p14 8 (2 + 2 * s) (by decide), p14 8 (3 + 2 * s) (by decide)]
      by_cases e : s = j
      · rw [e]
        refine ⟨?_, ?_, ?_, ?_⟩
        · rw [hic, eic]
          unfold siCell
          rw [show ad3 11 j = h.2.1 + 1 by rw [ead, qd_n (by omega), qd_n (by omega)]; exact qd_s, show ad3 8 (2 + 2 * j) = h.2.1 + 1 + 1 by rw [ead, qd_n (by omega)]; exact qd_s, show ad3 8 (3 + 2 * j) = h.2.1 + 1 + 2 by rw [ead]; exact qd_s]
        · rw [p2_n (by omega), eK3, p2_n (by omega), p2_n (by omega), p2_s, esc]; rfl
        · rw [p2_n (by omega), eK3, p2_n (by omega), p2_s, elc, ez1]
        · rw [p2_n (by omega), eK3, p2_s, elc, ez1]
      · have q := s4 s (by omega)
        rw [(ekk 2 s (by omega) (by omega) (by omega) (by omega)).1, (ekk 11 s (by omega) (by omega) (by omega) (by omega)).1, (ekk 8 (2 + 2 * s) (by omega) (by omega) (by omega) (by omega)).1, (ekk 8 (3 + 2 * s) (by omega) (by omega) (by omega) (by omega)).1]
        refine ⟨?_, q.2⟩
        rw [q.1]
        unfold siCell
        rw [(ekk 11 s (by omega) (by omega) (by omega) (by omega)).2, (ekk 8 (2 + 2 * s) (by omega) (by omega) (by omega) (by omega)).2, (ekk 8 (3 + 2 * s) (by omega) (by omega) (by omega) (by omega)).2]
    · show (hput h3 h.2.1 ic).2.1 = _
      rw [eh3]
      show h.2.1 + 1 + 1 + 1 + 1 = _
      omega
    · show (hput h3 h.2.1 ic).2.2.1 = _
      rw [eh3]
      show h.2.2.1 + 4 + n + 3 + 3 = _
      rw [c2, Nat.mul_add]
      omega
theorem k_sites {H : Nat} {S N M : Nat} {ow0 : OW} {h0 : AH} (w : WD ad ow K h) (g : CI ad K h.2.2.2.1 C A I F Ls cp) (b : RB C A) (lt : LT C A Ls) (fo : Fo ow0 h0 ow h) (ib : IB C Ls cp) (pt : PT S N h cp) (jw : JB C Ls cp 20 M) (jc : JB C Ls cp 21 M) (hb : HB C Ls cp H) (tb : TB C Ls cp) (hle : ∀ i, ¬ lvl C i → Ls i = []) (h130 : C 1 = 0 → ∀ j, A 13 j = 0) {n : Int} (hn : inR n) (e1 : (n < 1 ∨ 6 < n) → Q (.inr (10, h.2.1)) (hex h 10)) (e2 : ¬ (n < 1 ∨ 6 < n) → 0 < C 1 → Q (.inr (11, h.2.1)) (hex h 11)) (k : ¬ (n < 1 ∨ 6 < n) → ¬ 0 < C 1 → ∀ h', WX (fun ad' => ad' 0 0 = ad 0 0) ow0 h0 (S + 102) (N + 25) M H (up C 1 n, A, I, Ls) h' → Q (.inl none) h') : Rn 10 0 (entL 10 [aR (ad 0 0), aI n]) [] h Q := by
  show Rn 10 0 [some (aR (ad 0 0)), some (aI n), none, none] [] h Q
  have b1 := b.c1
  have b2 := b.c2
  have b3 := b.c3
  obtain ⟨R, hR, hR2⟩ := g.row
  have T : Rn 10 11 [some (aR (ad 0 0)), some (aI n), none, none] [] h Q ∨ ¬ (n < 1 ∨ 6 < n) := by
    by_cases q : n < 1 ∨ 6 < n
    · refine Or.inl ?_
      refine x_throw k_10_11 (Nat.le_of_ble_eq_true rfl) ?_
      exact e1 q
    · exact Or.inr q
  have D : ¬ (n < 1 ∨ 6 < n) → Rn 10 21 [some (aR (ad 0 0)), some (aI n), none, none] [] h Q := by
    intro q
    refine x_aload_n k_10_21 rfl ?_
    refine x_get k_10_22 (w.at g.store) rfl ?_
    refine x_alen k_10_25 (w.at hR) ?_
    refine x_ifle (t := 39) k_10_26 rfl (by show inR (((C 1).toNat : Nat) : Int); omega) (fun c26 => ?_) (fun c26 => ?_)
    · have c26 : (((C 1).toNat : Nat) : Int) ≤ 0 := c26
      have hC1 : C 1 = 0 := by omega
      have hC3 : (C 3).toNat = 0 := by
        rcases Nat.eq_zero_or_pos (C 3).toNat with z | z
        · exact z
        · have h1 := g.a3 z
          have h2 := b.v3 0
          omega
      obtain ⟨m, em⟩ : ∃ m : Nat, n = (m : Int) := ⟨n.toNat, by omega⟩
      refine x_iload_n k_10_39 rfl ?_
      refine x_anew k_10_40 (by omega) ?_
      refine x_as2n k_10_43 rfl ?_
      refine x_iconst k_10_44 ?_
      refine x_is3n k_10_45 rfl ?_
      have hmn : n.toNat = m := by omega
      rw [em]
      rw [show ((m : Int)).toNat = m by omega]
      obtain ⟨h1, eh1⟩ : ∃ f : AH, f = hnew h (.inl (3, m, .inr (.inr (fun _ => none)))) m := ⟨_, rfl⟩
      obtain ⟨ad1, ea1⟩ : ∃ f : AD, f = qd ad 14 0 h.2.1 := ⟨_, rfl⟩
      have w1 : WD ad1 (up ow h.2.1 (14, 0)) (p2 K 14 0 (.inl (3, m, .inr (.inr (fun _ => none))))) h1 := by rw [ea1, eh1]; exact w.new (by decide)
      have fo1 : Fo ow0 h0 (up ow h.2.1 (14, 0)) h1 := by rw [eh1]; exact fo.tr Fo.new
      have ez1 : h1.2.2.2 = h.2.2.2 := by rw [eh1]; rfl
      have ez : h1.2.2.2.1 = h.2.2.2.1 := by rw [ez1]
      have a14 : ad1 14 0 = h.2.1 := by rw [ea1]; exact qd_s
      have lp := lp_sites (Q := Q) (ow0 := ow0) (h0 := h0) (hb := h1) (ad0 := ad) (K0 := K) (n := m) (by omega) (fun ad2 ow2 K2 h2 w2 fo2 ez2 si c1 c2 => by
        obtain ⟨s1, ⟨R2, s2, s3⟩, s4⟩ := si
        have ez3 : h2.2.2.2.1 = h.2.2.2.1 := by rw [ez2, ez1]
        have ks : K2 0 0 = some (sCell ad C I) := by rw [(s1 0 0 (by unfold nws; omega)).1]; exact g.store
        have e0 : ad2 0 0 = ad 0 0 := (s1 0 0 (by unfold nws; omega)).2
        have e80 : ad2 8 0 = ad 8 0 := (s1 8 0 (by unfold nws; omega)).2
        have e81 : ad2 8 1 = ad 8 1 := (s1 8 1 (by unfold nws; omega)).2
        have e10 : ad2 1 0 = ad 1 0 := (s1 1 0 (by unfold nws; omega)).2
        rw [← e0]
        refine x_aload_n k_10_69 rfl ?_
        refine x_aload_n k_10_70 rfl ?_
        refine x_put k_10_71 (w2.at ks) (Nat.le_of_ble_eq_true rfl) rfl ?_
        refine x_return k_10_74 ?_
        have sc : sCell ad2 (up C 1 (m : Int)) I = .inr (0, [aR (ad2 14 0), aR (ad 8 0), aR (ad 8 1), aR (ad 1 0), aI (I 3 0), aI (C 6)]) := by
          unfold sCell
          rw [e80, e81, e10]
          rfl
        show Q (.inl none) (hput h2 (ad2 0 0) (.inr (0, [aR (ad2 14 0), aR (ad 8 0), aR (ad 8 1), aR (ad 1 0), aI (I 3 0), aI (C 6)])))
        rw [← sc]
        rw [em] at k
        refine k (by omega) (by omega) _ ?_
        have w3 := w2.put (e := sCell ad2 (up C 1 (m : Int)) I) ks
        have fo3 := fo2.tr (Fo.put (e := sCell ad2 (up C 1 (m : Int)) I) w2 ks)
        have hLs : ∀ i, 2 ≤ i → i < 20 → Ls i = [] ∧ cp i = 0 := fun i h1 h2 => by
          have : ¬ lvl C i := by unfold lvl; omega
          exact ⟨hle i this, tb.2.2.2.1 i (by omega) this⟩
        have oth : ∀ k i, ¬ (k = 0 ∧ i = 0) → ¬ nws k i → p2 K2 0 0 (sCell ad2 (up C 1 (m : Int)) I) k i = K k i ∧ ad2 k i = ad k i := fun k i n1 n2 => by
          rw [p2_n n1]; exact s1 k i n2
        have g3 : CI ad2 (p2 K2 0 0 (sCell ad2 (up C 1 (m : Int)) I)) h.2.2.2.1 (up C 1 (m : Int)) A I (up F 0 (fun _ _ => 0)) Ls cp := by
          have hL := fun id x => lst_usd (id := id) (x := x) g lt b1.2
          obtain ⟨g1, g2, g3, g4, g5, g6, g7, g8, g9, g10, g11, g12, g13, g14, g15, g16, g17⟩ := g
          have q1 : up C 1 (m : Int) 1 = (m : Int) := rfl
          have q2 : up C 1 (m : Int) 2 = C 2 := rfl
          have q3 : up C 1 (m : Int) 3 = C 3 := rfl
          have q5 : up C 1 (m : Int) 5 = C 5 := rfl
          have mm : ((m : Int)).toNat = m := by omega
          unfold CI
          rw [q1, q2, q3, q5, mm]
          refine ⟨p2_s, ⟨R2, by rw [p2_n (by omega)]; exact s2, s3⟩, fun s hs => ?_, fun s hs => ?_, fun o' ho => ?_, fun t ht => absurd ht (by omega), fun t ht => absurd ht (by omega), fun t k ht hk => absurd ht (by omega), fun t k ht hk => absurd ht (by omega), fun q hq => ?_, fun id hi => ?_, ?_, g13, g14, fun s u h1 h2 => ?_, fun t u h1 h2 => absurd h1 (by omega), fun t h1 => absurd h1 (by omega)⟩
          · rw [p2_n (by omega)]; exact (s4 s hs).1
          · rw [p2_n (by omega)]; exact (s4 s hs).2.1
          · rw [(oth 3 o' (by omega) (by unfold nws; omega)).1, g5 o' ho]
            unfold itCell
            rw [(oth 8 (20 + 2 * o') (by omega) (by unfold nws; omega)).2, (oth 8 (21 + 2 * o') (by omega) (by unfold nws; omega)).2]
          · rw [(oth 7 q (by omega) (by unfold nws; omega)).1, g10 q hq]
            unfold msCell
            rw [(oth 4 _ (by omega) (by unfold nws; omega)).2]
          · by_cases hid : 2 ≤ id ∧ id < 20
            · have hid2 : id < 2 + 2 * m := by
                have hi : lvl (up C 1 (m : Int)) id := hi
                unfold lvl at hi
                rw [q1, q2, q3] at hi
                omega
              have q := hLs id hid.1 hid.2
              rw [q.1, q.2]
              have k8 : p2 K2 0 0 (sCell ad2 (up C 1 (m : Int)) I) 8 id = some (lcell h.2.2.2.1 0 0) := by
                rw [p2_n (by omega)]
                rw [ez] at s4
                rcases Nat.mod_two_eq_zero_or_one id with e | e
                · have := (s4 ((id - 2) / 2) (by omega)).2.2.1
                  rw [show 2 + 2 * ((id - 2) / 2) = id by omega] at this
                  exact this
                · have := (s4 ((id - 3) / 2) (by omega)).2.2.2
                  rw [show 3 + 2 * ((id - 3) / 2) = id by omega] at this
                  exact this
              refine ⟨0, fun _ => none, ?_, fun q => absurd rfl q, Nat.le_refl _, Or.inl rfl, by decide, fun j x hx => ?_, fun x hx => ?_⟩
              · rw [k8]; rfl
              · exact absurd hx (by simp)
              · exact absurd hx (List.not_mem_nil)
            · have hid2 : lvl C id := by
                have hi : lvl (up C 1 (m : Int)) id := hi
                unfold lvl at hi ⊢
                rw [q1, q2, q3] at hi
                omega
              obtain ⟨c, G, v1, v2, v3, v4, v5, v6, v7⟩ := g11 id hid2
              have k8 := oth 8 id (by omega) (by unfold nws; omega)
              have k10 := oth 10 id (by omega) (by unfold nws; omega)
              have ne : ∀ x, x ∈ Ls id → ¬ nws (kd id) x ∧ ¬ kd id = 0 := fun x hx => by
                have u := hL id x hid2 hx
                have d0 : kd id = 3 ∨ kd id = 4 ∨ kd id = 5 ∨ kd id = 6 := by
                  unfold kd
                  rcases Nat.lt_or_ge id 2 with e | e
                  · rcases Nat.lt_or_ge id 1 with e1 | e1
                    · rw [if_pos (by omega)]; exact Or.inl rfl
                    · rw [if_neg (by omega), if_pos (by omega)]; exact Or.inr (Or.inl rfl)
                  · rw [if_neg (by omega), if_neg (by omega), if_neg (by omega)]
                    split
                    · exact Or.inr (Or.inr (Or.inl rfl))
                    · exact Or.inr (Or.inr (Or.inr rfl))
                unfold nws
                omega
              refine ⟨c, G, ?_, fun h => ?_, v3, v4, v5, fun j x hx => ?_, fun x hx => ?_⟩
              · rw [k8.1, v1, k10.2]
              · rw [k10.1]; exact v2 h
              · have q := ne x (List.mem_of_getElem? hx)
                rw [(oth _ _ (fun z => q.2 z.1) q.1).2]
                exact v6 j x hx
              · have q := ne x hx
                rw [(oth _ _ (fun z => q.2 z.1) q.1).1]
                exact v7 x hx
          · obtain ⟨h1, h2, h3, h4⟩ := g12
            have u1 := oth 1 0 (by omega) (by unfold nws; omega)
            have u2 := oth 13 0 (by omega) (by unfold nws; omega)
            have u3 := oth 13 1 (by omega) (by unfold nws; omega)
            rw [u1.1, u2.1, u3.1]
            refine ⟨?_, h2, h3, h4⟩
            rw [h1]
            unfold tyCell
            rw [u2.2, u3.2]
          · show (0 : Int) = A 13 (6 * s + u)
            rw [h130 hC1]
        have ez4 : (hput h2 (ad2 0 0) (sCell ad2 (up C 1 (m : Int)) I)).2.2.2.1 = h.2.2.2.1 := ez3
        refine ⟨ad2, ow2, _, _, cp, e0, w3, by rw [ez4]; exact g3, b.d1 ⟨by omega, by omega⟩, ⟨lt.1, lt.2.1, lt.2.2.1, lt.2.2.2.1, fun s x h1 h2 => ?_, fun s x h1 h2 => ?_⟩, fo3, fun u hu => ?_, ⟨?_, ?_⟩, ⟨jw, jc⟩, fun s hs => ?_, tb.1, tb.2.1, tb.2.2.1, fun i h1 h2 => ?_, tb.2.2.2.2⟩
        · have h1 : s < ((m : Int)).toNat := h1
          have h2 : x ∈ Ls (2 + 2 * s) := h2
          rw [(hLs (2 + 2 * s) (by omega) (by omega)).1] at h2
          exact absurd h2 (List.not_mem_nil)
        · have h1 : s < ((m : Int)).toNat := h1
          have h2 : x ∈ Ls (3 + 2 * s) := h2
          rw [(hLs (3 + 2 * s) (by omega) (by omega)).1] at h2
          exact absurd h2 (List.not_mem_nil)
        · have hu : u < ((m : Int)).toNat := hu
          have q := hLs (3 + 2 * u) (by omega) (by omega)
          show (Ls (3 + 2 * u)).length ≤ _ ∧ _
          rw [q.1, q.2]
          exact ⟨Nat.zero_le _, Nat.zero_le _⟩
        · show h2.2.2.1 ≤ _
          have := pt.1
          have e6 : h1.2.2.1 = h.2.2.1 + m := by rw [eh1]; rfl
          have e7 : (10 + m) * m ≤ 16 * 6 := Nat.mul_le_mul (by omega) (by omega)
          omega
        · show h2.2.1 ≤ _
          have := pt.2
          have e6 : h1.2.1 = h.2.1 + 1 := by rw [eh1]; rfl
          omega
        · have hs : s < ((m : Int)).toNat := hs
          have q := hLs (2 + 2 * s) (by omega) (by omega)
          show (Ls (2 + 2 * s)).length ≤ _ ∧ _
          rw [q.1, q.2]
          exact ⟨Nat.zero_le _, Nat.zero_le _⟩
        · refine tb.2.2.2.1 i h1 (fun z => h2 ?_)
          have q1 : up C 1 (m : Int) 1 = (m : Int) := rfl
          have q2 : up C 1 (m : Int) 2 = C 2 := rfl
          have q3 : up C 1 (m : Int) 3 = C 3 := rfl
          show lvl (up C 1 (m : Int)) i
          unfold lvl at z ⊢
          rw [q1, q2, q3]
          omega) m 0 (by omega) ad1 (up ow h.2.1 (14, 0)) _ h1 w1 fo1 rfl ⟨fun k i hk => ?_, ⟨_, p2_s, fun s hs => absurd hs (by omega)⟩, fun s hs => absurd hs (by omega)⟩ (by omega) (by omega)
      · rw [a14, eh1] at lp
        exact lp
      · have n0 : ¬ (k = 14 ∧ i = 0) := fun q => hk (Or.inl q)
        rw [p2_n n0, ea1, qd_n n0]
        exact ⟨rfl, rfl⟩
    · have c26 : ¬ (((C 1).toNat : Nat) : Int) ≤ 0 := c26
      refine x_throw k_10_29 (Nat.le_of_ble_eq_true rfl) ?_
      exact e2 q (by omega)
  refine x_iload_n k_10_0 rfl ?_
  refine x_iconst k_10_1 ?_
  refine x_icmplt (t := 11) k_10_2 rfl (by show inR n ∧ inR 1; omega) (fun c2 => ?_) (fun c2 => ?_)
  · have c2 : n < 1 := c2
    exact T.elim id (fun q => absurd (Or.inl c2) q)
  · have c2 : ¬ n < 1 := c2
    refine x_iload_n k_10_5 rfl ?_
    refine x_bipush k_10_6 ?_
    refine x_icmple (t := 21) k_10_8 rfl (by show inR n ∧ inR 6; omega) (fun c8 => ?_) (fun c8 => ?_)
    · have c8 : n ≤ 6 := c8
      exact D (by omega)
    · have c8 : ¬ n ≤ 6 := c8
      exact T.elim id (fun q => absurd (Or.inr (by omega)) q)
end C35
