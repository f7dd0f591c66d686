section C37
variable {ad : AD} {ow : OW} {K : KK} {h : AH} {C : Nat → Int} {A I : Nat → Nat → Int} {F : Nat → Nat → Nat → Int} {Ls : Nat → List Nat} {cp : Nat → Nat} {Q : AR → AH → Prop}
theorem CI.tly {z : Nat} {ad' : AD} {K' : KK} {I' : Nat → Nat → Int} {F' : Nat → Nat → Nat → Int} {cp' : Nat → Nat} (g : CI ad K z C A I F Ls cp) (b : RB C A) (hK : ∀ k i, ¬ (k = 1 ∧ i = 0) → ¬ (k = 13 ∧ i < 2) → K' k i = K k i ∧ ad' k i = ad k i) (h1 : ad' 1 0 = ad 1 0) (ht : K' 1 0 = some (tyCell ad' I') ∧ K' 13 0 = some (inCell (cp' 2000) (F' 2 0)) ∧ K' 13 1 = some (inCell (cp' 2000) (F' 2 1)) ∧ 16 ≤ cp' 2000) (hI : ∀ j, ¬ j = 4 → I' j = I j) (hF : ∀ j, ¬ j = 2 → F' j = F j) (hcp : ∀ j, ¬ j = 2000 → cp' j = cp j) : CI ad' K' z C A I' F' Ls cp' := by
  have b1 := b.c1
  have b2 := b.c2
  have b3 := b.c3
  obtain ⟨g1, g2, g3, g4, g5, g6, g7, g8, g9, g10, g11, g12, g13, g14, g15, g16, g17⟩ := g
  have eK : ∀ k i, ¬ k = 1 → ¬ k = 13 → K' k i = K k i := fun k i h1 h2 => (hK k i (fun q => h1 q.1) (fun q => h2 q.1)).1
  have eA : ∀ k i, ¬ k = 1 → ¬ k = 13 → ad' k i = ad k i := fun k i h1 h2 => (hK k i (fun q => h1 q.1) (fun q => h2 q.1)).2
  refine ⟨?_, ?_, fun s hs => ?_, fun s hs => ?_, fun o ho => ?_, fun t ht => ?_, fun t ht => ?_, fun t k ht hk => ?_, fun t k ht hk => ?_, fun q hq => ?_, fun id hi => ?_, ht, g13, g14, ?_, ?_, g17⟩
  · rw [eK 0 0 (by decide) (by decide), g1]
    unfold sCell
    rw [eA 14 0 (by decide) (by decide), eA 8 0 (by decide) (by decide), eA 8 1 (by decide) (by decide), h1, hI 3 (by decide)]
  · obtain ⟨R, h1, h2⟩ := g2
    exact ⟨R, (eK 14 0 (by decide) (by decide)).trans h1, fun s hs => by rw [eA 2 s (by decide) (by decide)]; exact h2 s hs⟩
  · rw [eK 2 s (by decide) (by decide), g3 s hs]
    unfold siCell
    rw [eA 11 s (by decide) (by decide), eA 8 (2 + 2 * s) (by decide) (by decide), eA 8 (3 + 2 * s) (by decide) (by decide)]
  · rw [eK 11 s (by decide) (by decide), g4 s hs, hF 0 (by decide)]
  · rw [eK 3 o (by decide) (by decide), g5 o ho]
    unfold itCell
    rw [eA 8 (20 + 2 * o) (by decide) (by decide), eA 8 (21 + 2 * o) (by decide) (by decide)]
  · rw [eK 4 t (by decide) (by decide), g6 t ht]
    unfold trCell
    rw [eA 12 t (by decide) (by decide), eA 8 (500 + 2 * t) (by decide) (by decide), eA 8 (501 + 2 * t) (by decide) (by decide), hI 0 (by decide)]
  · rw [eK 12 t (by decide) (by decide), g7 t ht, hF 1 (by decide)]
  · rw [eK 5 k (by decide) (by decide), g8 t k ht hk]
    unfold wrCell
    rw [eA 4 t (by decide) (by decide), eA 3 _ (by decide) (by decide), hI 1 (by decide)]
  · rw [eK 6 k (by decide) (by decide), g9 t k ht hk]
    unfold chCell
    rw [eA 4 t (by decide) (by decide), eA 3 _ (by decide) (by decide)]
  · rw [eK 7 q (by decide) (by decide), g10 q hq]
    unfold msCell
    rw [eA 4 _ (by decide) (by decide), hI 2 (by decide)]
  · have hid : ¬ id = 2000 := by unfold lvl at hi; omega
    obtain ⟨c, G, v1, v2, v3, v4, v5, v6, v7⟩ := g11 id hi
    have hk := (kd_lt id)
    rw [hcp id hid]
    refine ⟨c, G, ?_, fun h => ?_, v3, v4, v5, fun j x hx => ?_, fun x hx => ?_⟩
    · rw [eK 8 id (by decide) (by decide), v1, eA 10 id (by decide) (by decide)]
    · rw [eK 10 id (by decide) (by decide)]; exact v2 h
    · rw [eA _ x (by omega) (by omega)]; exact v6 j x hx
    · rw [eK _ x (by omega) (by omega)]; exact v7 x hx
  · rw [hF 0 (by decide)]; exact g15
  · rw [hF 1 (by decide)]; exact g16
/-- where the element x stands, or would stand -/
def fnb (n : Nat) (e : Nat → Int) (x : Int) (lo : Nat) : Prop := lo ≤ n ∧ (∀ p, p < lo → e p < x) ∧ (∀ p, lo ≤ p → p < n → x ≤ e p)
theorem lp_fnb {a a0 n m : Nat} {e : Nat → Int} {f1 : AV} {x : Int} (ht : h.1 a = some (.inr (1, [aR a0, f1, aI (n : Int)]))) (h0 : h.1 a0 = some (.inl (0, m, .inl e))) (hn : n ≤ m) (hm : m ≤ 100000) (hx : inR x) (he : ∀ p, p < n → inR (e p)) (hs : ∀ p q, p < q → q < n → e p < e q) (k : ∀ lo, fnb n e x lo → Q (.inl (some (aI (lo : Int)))) h) : ∀ st lo hi : Nat, hi - lo ≤ st → lo ≤ hi → hi ≤ n → st ≤ n → (∀ p, p < lo → e p < x) → (∀ p, hi ≤ p → p < n → x ≤ e p) → ∀ z, Rn 55 13 [some (aR a), some (aI x), some (aI (lo : Int)), some (aI (hi : Int)), some (aI (st : Int)), z] [] h Q := by
  intro st
  induction st with
  | zero =>
    intro lo hi h1 h2 h3 h4 h5 h6 z
    refine x_iload_n k_55_13 rfl ?_
    refine x_iload_n k_55_14 rfl ?_
    refine x_icmpge (t := 58) k_55_15 rfl (by show inR (lo : Int) ∧ inR (hi : Int); omega) (fun c15 => ?_) (fun c15 => absurd (show (hi : Int) ≤ lo by omega) c15)
    refine x_iload_n k_55_58 rfl ?_
    refine x_ireturn k_55_59 rfl ?_
    exact k lo ⟨by omega, h5, fun p q1 q2 => h6 p (by omega) q2⟩
  | succ st ih =>
    intro lo hi h1 h2 h3 h4 h5 h6 z
    refine x_iload_n k_55_13 rfl ?_
    refine x_iload_n k_55_14 rfl ?_
    refine x_icmpge (t := 58) k_55_15 rfl (by show inR (lo : Int) ∧ inR (hi : Int); omega) (fun c15 => ?_) (fun c15 => ?_)
    · have c15 : (hi : Int) ≤ lo := c15
      refine x_iload_n k_55_58 rfl ?_
      refine x_ireturn k_55_59 rfl ?_
      exact k lo ⟨by omega, h5, fun p q1 q2 => h6 p (by omega) q2⟩
    · have c15 : ¬ (hi : Int) ≤ lo := c15
      refine x_iload k_55_18 rfl ?_
      refine x_ifle (t := 58) k_55_20 rfl (by show inR (((st + 1 : Nat)) : Int); omega) (fun c20 => absurd (show (((st + 1 : Nat)) : Int) ≤ 0 from c20) (by omega)) (fun c20 => ?_)
      refine x_iload_n k_55_23 rfl ?_
      refine x_iload_n k_55_24 rfl ?_
      refine x_iadd k_55_25 ?_
      refine x_iconst k_55_26 ?_
      refine x_idiv k_55_27 (by show inR ((lo : Int) + hi) ∧ inR 2 ∧ (0 : Int) < 2; omega) ?_
      obtain ⟨mi, em⟩ : ∃ mi : Nat, mi = (lo + hi) / 2 := ⟨_, rfl⟩
      refine x_top (show ((lo : Int) + hi).tdiv 2 = (mi : Int) by rw [Int.tdiv_eq_ediv_of_nonneg (by omega)]; omega) ?_
      refine x_is5 k_55_28 rfl ?_
      refine x_aload_n k_55_30 rfl ?_
      refine x_get k_55_31 ht rfl ?_
      refine x_iload k_55_34 rfl ?_
      refine y_iaload (m := mi) k_55_36 h0 (Or.inl rfl) rfl (by omega) ?_
      refine x_iload_n k_55_37 rfl ?_
      have hr := he mi (by omega)
      refine x_icmpge (t := 49) k_55_38 rfl ⟨hr, hx⟩ (fun c38 => ?_) (fun c38 => ?_)
      · have c38 : x ≤ e mi := c38
        refine x_iload k_55_49 rfl ?_
        refine x_is3n k_55_51 rfl ?_
        refine x_inc4 k_55_52 rfl ?_
        refine x_goto (t := 13) k_55_55 rfl ?_
        have zz := ih lo mi (by omega) (by omega) (by omega) (by omega) h5 (fun p q1 q2 => by
          rcases Nat.eq_or_lt_of_le q1 with r | r
          · rw [← r]; exact c38
          · have := hs mi p r q2; omega) (some (aI (mi : Int)))
        rw [show ((((st + 1 : Nat)) : Int) + -1) = (st : Int) by omega]
        exact zz
      · have c38 : ¬ x ≤ e mi := c38
        refine x_iload k_55_41 rfl ?_
        refine x_iconst k_55_43 ?_
        refine x_iadd k_55_44 ?_
        refine x_top (show (mi : Int) + 1 = ((mi + 1 : Nat) : Int) by omega) ?_
        refine x_is2n k_55_45 rfl ?_
        refine x_goto (t := 52) k_55_46 rfl ?_
        refine x_inc4 k_55_52 rfl ?_
        refine x_goto (t := 13) k_55_55 rfl ?_
        have zz := ih (mi + 1) hi (by omega) (by omega) h3 (by omega) (fun p q1 => by
          rcases Nat.lt_or_ge p mi with r | r
          · have := hs p mi r (by omega); omega
          · rw [show p = mi by omega]; omega) h6 (some (aI (mi : Int)))
        rw [show ((((st + 1 : Nat)) : Int) + -1) = (st : Int) by omega]
        exact zz
theorem k_fnb {a a0 n m : Nat} {e : Nat → Int} {f1 : AV} {x : Int} (ht : h.1 a = some (.inr (1, [aR a0, f1, aI (n : Int)]))) (h0 : h.1 a0 = some (.inl (0, m, .inl e))) (hn : n ≤ m) (hm : m ≤ 100000) (hx : inR x) (he : ∀ p, p < n → inR (e p)) (hs : ∀ p q, p < q → q < n → e p < e q) (k : ∀ lo, fnb n e x lo → Q (.inl (some (aI (lo : Int)))) h) : Rn 55 0 (entL 55 [aR a, aI x]) [] h Q := by
  show Rn 55 0 [some (aR a), some (aI x), none, none, none, none] [] h Q
  refine x_iconst k_55_0 ?_
  refine x_is2n k_55_1 rfl ?_
  refine x_aload_n k_55_2 rfl ?_
  refine x_get k_55_3 ht rfl ?_
  refine x_is3n k_55_6 rfl ?_
  refine x_aload_n k_55_7 rfl ?_
  refine x_get k_55_8 ht rfl ?_
  refine x_is4 k_55_11 rfl ?_
  exact lp_fnb ht h0 hn hm hx he hs k n 0 n (by omega) (by omega) (by omega) (by omega) (fun p q => absurd q (by omega)) (fun p q1 q2 => absurd q2 (by omega)) none
theorem i_copyI {a n0 m : Nat} {f : Nat → Int} (he : h.1 a = some (.inl (0, n0, .inl f))) (ha : a < h.2.1) (h1 : 0 < n0) (h2 : n0 < m) (h3 : m ≤ 100000) (k : Q (.inl (some (aR h.2.1))) (hnew h (.inl (0, m, .inl (cpy f (fun _ => 0) 0 0 n0))) m)) : Rn 57 0 (entL 57 [aR a, aI (m : Int)]) [] h Q := by
  show Rn 57 0 [some (aR a), some (aI (m : Int)), none] [] h Q
  refine x_iload_n k_57_0 rfl ?_
  refine x_aload_n k_57_1 rfl ?_
  refine x_alen k_57_2 he ?_
  refine x_icmpne (t := 14) k_57_3 rfl (by show inR (m : Int) ∧ inR (n0 : Int); omega) (fun c3 => ?_) (fun c3 => absurd (show ¬ (m : Int) = n0 by omega) c3)
  refine x_iload_n k_57_14 rfl ?_
  refine x_newa_int k_57_15 (by omega) ?_
  rw [show ((m : Int)).toNat = m by omega]
  refine x_as2n k_57_17 rfl ?_
  have hn : (hnew h (.inl (0, m, .inl (fun _ => 0))) m).1 a = some (.inl (0, n0, .inl f)) := (hnew_n (Nat.ne_of_lt ha)).trans he
  refine x_aload_n k_57_18 rfl ?_
  refine x_iconst k_57_19 ?_
  refine x_aload_n k_57_20 rfl ?_
  refine x_iconst k_57_21 ?_
  refine x_aload_n k_57_22 rfl ?_
  refine x_alen k_57_23 hn ?_
  refine x_iload_n k_57_24 rfl ?_
  refine x_mn k_57_25 (by show inR (n0 : Int) ∧ inR (m : Int) ∧ _ ≤ 4; exact ⟨by omega, by omega, (Nat.le_of_ble_eq_true rfl)⟩) ?_
  rw [if_neg (by omega)]
  refine x_copyI k_57_28 hn hnew_s (by refine ⟨by decide, by decide, by omega, by omega, by omega, (Nat.le_of_ble_eq_true rfl), by omega, by omega⟩) ?_
  rw [hput_new]
  refine x_aload_n k_57_31 rfl ?_
  refine x_areturn k_57_32 ?_
  rw [show ((n0 : Int)).toNat = n0 by omega]
  exact k
theorem lp_room {ow0 : OW} {h0 : AH} {n m p : Nat} {e c : Nat → Int} (w : WD ad ow K h) (fo : Fo ow0 h0 ow h) (ty : K 1 0 = some (.inr (1, [aR (ad 13 0), aR (ad 13 1), aI (n : Int)])) ∧ K 13 0 = some (inCell m e) ∧ K 13 1 = some (inCell m c)) (hn : n + 1 ≤ m) (hm : m ≤ 100000) (hp : p ≤ n) (k : ∀ K' h' e' c', WD ad ow K' h' → Fo ow0 h0 ow h' → (∀ k i, ¬ (k = 1 ∧ i = 0) → ¬ (k = 13 ∧ i < 2) → K' k i = K k i) → (K' 1 0 = some (.inr (1, [aR (ad 13 0), aR (ad 13 1), aI ((n + 1 : Nat) : Int)])) ∧ K' 13 0 = some (inCell m e') ∧ K' 13 1 = some (inCell m c')) → (∀ q, q < p → e' q = e q ∧ c' q = c q) → (∀ q, p ≤ q → q < n → e' (q + 1) = e q ∧ c' (q + 1) = c q) → h'.2 = h.2 → Q (.inl none) h') : Rn 56 46 [some (aR (ad 1 0)), some (aI (p : Int))] [] h Q := by
  obtain ⟨t1, t2, t3⟩ := ty
  obtain ⟨e1, ee1⟩ : ∃ f : Nat → Int, f = cpy e e p (p + 1) (n - p) := ⟨_, rfl⟩
  obtain ⟨c1, ec1⟩ : ∃ f : Nat → Int, f = cpy c c p (p + 1) (n - p) := ⟨_, rfl⟩
  refine x_aload_n k_56_46 rfl ?_
  refine x_get k_56_47 (w.at t1) rfl ?_
  refine x_iload_n k_56_50 rfl ?_
  refine x_aload_n k_56_51 rfl ?_
  refine x_get k_56_52 (w.at t1) rfl ?_
  refine x_iload_n k_56_55 rfl ?_
  refine x_iconst k_56_56 ?_
  refine x_iadd k_56_57 ?_
  refine x_aload_n k_56_58 rfl ?_
  refine x_get k_56_59 (w.at t1) rfl ?_
  refine x_iload_n k_56_62 rfl ?_
  refine x_isub k_56_63 ?_
  refine x_copyI k_56_64 (w.at t2) (w.at t2) (by refine ⟨by omega, by omega, by omega, by omega, by omega, (Nat.le_of_ble_eq_true rfl), by omega, by omega⟩) ?_
  rw [show ((p : Int)).toNat = p by omega, show ((p : Int) + 1).toNat = p + 1 by omega, show ((n : Int) - p).toNat = n - p by omega, ← ee1]
  have w1 : WD ad ow (p2 K 13 0 (inCell m e1)) (hput h (ad 13 0) (inCell m e1)) := w.put t2
  have fo1 : Fo ow0 h0 ow (hput h (ad 13 0) (inCell m e1)) := fo.tr (Fo.put w t2)
  have t11 : p2 K 13 0 (inCell m e1) 1 0 = some (.inr (1, [aR (ad 13 0), aR (ad 13 1), aI (n : Int)])) := by rw [p2_n (by omega)]; exact t1
  have t31 : p2 K 13 0 (inCell m e1) 13 1 = some (inCell m c) := by rw [p2_n (by omega)]; exact t3
  show Rn 56 67 [some (aR (ad 1 0)), some (aI (p : Int))] [] (hput h (ad 13 0) (inCell m e1)) Q
  refine x_aload_n k_56_67 rfl ?_
  refine x_get k_56_68 (w1.at t11) rfl ?_
  refine x_iload_n k_56_71 rfl ?_
  refine x_aload_n k_56_72 rfl ?_
  refine x_get k_56_73 (w1.at t11) rfl ?_
  refine x_iload_n k_56_76 rfl ?_
  refine x_iconst k_56_77 ?_
  refine x_iadd k_56_78 ?_
  refine x_aload_n k_56_79 rfl ?_
  refine x_get k_56_80 (w1.at t11) rfl ?_
  refine x_iload_n k_56_83 rfl ?_
  refine x_isub k_56_84 ?_
  refine x_copyI k_56_85 (w1.at t31) (w1.at t31) (by refine ⟨by omega, by omega, by omega, by omega, by omega, (Nat.le_of_ble_eq_true rfl), by omega, by omega⟩) ?_
  rw [show ((p : Int)).toNat = p by omega, show ((p : Int) + 1).toNat = p + 1 by omega, show ((n : Int) - p).toNat = n - p by omega, ← ec1]
  have w2 : WD ad ow (p2 (p2 K 13 0 (inCell m e1)) 13 1 (inCell m c1)) (hput (hput h (ad 13 0) (inCell m e1)) (ad 13 1) (inCell m c1)) := w1.put t31
  have fo2 : Fo ow0 h0 ow (hput (hput h (ad 13 0) (inCell m e1)) (ad 13 1) (inCell m c1)) := fo1.tr (Fo.put w1 t31)
  have t12 : p2 (p2 K 13 0 (inCell m e1)) 13 1 (inCell m c1) 1 0 = some (.inr (1, [aR (ad 13 0), aR (ad 13 1), aI (n : Int)])) := by rw [p2_n (by omega)]; exact t11
  show Rn 56 88 [some (aR (ad 1 0)), some (aI (p : Int))] [] (hput (hput h (ad 13 0) (inCell m e1)) (ad 13 1) (inCell m c1)) Q
  refine x_aload_n k_56_88 rfl ?_
  refine x_dup k_56_89 rfl ?_
  refine x_get k_56_90 (w2.at t12) rfl ?_
  refine x_iconst k_56_93 ?_
  refine x_iadd k_56_94 ?_
  refine x_top (show (n : Int) + 1 = ((n + 1 : Nat) : Int) by omega) ?_
  refine x_put k_56_95 (w2.at t12) (Nat.le_of_ble_eq_true rfl) rfl ?_
  refine x_return k_56_98 ?_
  have w3 := w2.put (e := .inr (1, [aR (ad 13 0), aR (ad 13 1), aI ((n + 1 : Nat) : Int)])) t12
  have fo3 := fo2.tr (Fo.put (e := .inr (1, [aR (ad 13 0), aR (ad 13 1), aI ((n + 1 : Nat) : Int)])) w2 t12)
  refine k _ _ e1 c1 w3 fo3 (fun k i n1 n2 => ?_) ⟨p2_s, ?_, ?_⟩ (fun q hq => ?_) (fun q q1 q2 => ?_) rfl
  · rw [p2_n n1, p2_n (fun z => n2 ⟨z.1, by omega⟩), p2_n (fun z => n2 ⟨z.1, by omega⟩)]
  · rw [p2_n (by omega), p2_n (by omega)]; exact p2_s
  · rw [p2_n (by omega)]; exact p2_s
  · rw [ee1, ec1]
    unfold cpy
    rw [if_neg (by omega), if_neg (by omega)]
    exact ⟨rfl, rfl⟩
  · rw [ee1, ec1]
    unfold cpy
    rw [if_pos (by omega), if_pos (by omega), show p + (q + 1 - (p + 1)) = q by omega]
    exact ⟨rfl, rfl⟩
theorem k_room {ow0 : OW} {h0 : AH} {n m p : Nat} {e c : Nat → Int} (w : WD ad ow K h) (fo : Fo ow0 h0 ow h) (ty : K 1 0 = some (.inr (1, [aR (ad 13 0), aR (ad 13 1), aI (n : Int)])) ∧ K 13 0 = some (inCell m e) ∧ K 13 1 = some (inCell m c)) (hn : n ≤ m) (h0m : 16 ≤ m) (hm : m ≤ 50000) (hp : p ≤ n) (k : ∀ ad' ow' K' h' m' e' c', WD ad' ow' K' h' → Fo ow0 h0 ow' h' → (∀ k i, ¬ (k = 1 ∧ i = 0) → ¬ (k = 13 ∧ i < 2) → K' k i = K k i ∧ ad' k i = ad k i) → ad' 1 0 = ad 1 0 → K' 1 0 = some (.inr (1, [aR (ad' 13 0), aR (ad' 13 1), aI ((n + 1 : Nat) : Int)])) ∧ K' 13 0 = some (inCell m' e') ∧ K' 13 1 = some (inCell m' c') → (∀ q, q < p → e' q = e q ∧ c' q = c q) → (∀ q, p ≤ q → q < n → e' (q + 1) = e q ∧ c' (q + 1) = c q) → n + 1 ≤ m' → m ≤ m' → (m' = m ∨ m' = 2 * n) → h'.2.1 ≤ h.2.1 + (m' - m) → h'.2.2.1 ≤ h.2.2.1 + 4 * (m' - m) → h'.2.2.2 = h.2.2.2 → Q (.inl none) h') : Rn 56 0 (entL 56 [aR (ad 1 0), aI (p : Int)]) [] h Q := by
  show Rn 56 0 [some (aR (ad 1 0)), some (aI (p : Int))] [] h Q
  have ty0 := ty
  obtain ⟨t1, t2, t3⟩ := ty
  refine x_aload_n k_56_0 rfl ?_
  refine x_get k_56_1 (w.at t1) rfl ?_
  refine x_aload_n k_56_4 rfl ?_
  refine x_get k_56_5 (w.at t1) rfl ?_
  refine x_alen k_56_8 (w.at t2) ?_
  refine x_icmpne (t := 46) k_56_9 rfl (by show inR (n : Int) ∧ inR (m : Int); omega) (fun c9 => ?_) (fun c9 => ?_)
  · have c9 : ¬ (n : Int) = m := c9
    exact lp_room w fo ty0 (by omega) (by omega) hp (fun K' h' e' c' q1 q2 q3 q4 q5 q6 q7 => k ad ow K' h' m e' c' q1 q2 (fun k i n1 n2 => ⟨q3 k i n1 n2, rfl⟩) rfl q4 q5 q6 (by omega) (Nat.le_refl _) (Or.inl rfl) (by rw [q7]; omega) (by rw [q7]; omega) (by rw [q7]))
  · have c9 : n = m := by have c9 : ¬ ¬ (n : Int) = m := c9; omega
    obtain ⟨e1, ee1⟩ : ∃ f : Nat → Int, f = cpy e (fun _ => 0) 0 0 m := ⟨_, rfl⟩
    obtain ⟨c1, ec1⟩ : ∃ f : Nat → Int, f = cpy c (fun _ => 0) 0 0 m := ⟨_, rfl⟩
    refine x_aload_n k_56_12 rfl ?_
    refine x_aload_n k_56_13 rfl ?_
    refine x_get k_56_14 (w.at t1) rfl ?_
    refine x_iconst k_56_17 ?_
    refine x_aload_n k_56_18 rfl ?_
    refine x_get k_56_19 (w.at t1) rfl ?_
    refine x_imul k_56_22 ?_
    refine x_top (show (2 : Int) * n = ((2 * n : Nat) : Int) by omega) ?_
    refine x_call2 k_56_23 (Nat.le_of_ble_eq_true rfl) rfl (Nat.le_of_ble_eq_true rfl) ?_
    refine i_copyI (w.at t2) (w.1 _ _ _ t2).2.2 (by omega) (by omega) (by omega) (bh_1 ?_)
    rw [← ee1]
    have w1 := w.new (k := 13) (i := 0) (e := inCell (2 * n) e1) (c := 2 * n) (by decide)
    have fo1 := fo.tr (Fo.new (k := 13) (i := 0) (e := inCell (2 * n) e1) (c := 2 * n))
    have t11 : p2 K 13 0 (inCell (2 * n) e1) 1 0 = some (.inr (1, [aR (ad 13 0), aR (ad 13 1), aI (n : Int)])) := by rw [p2_n (by omega)]; exact t1
    have a10 : qd ad 13 0 h.2.1 1 0 = ad 1 0 := qd_n (by omega)
    have g1 := w1.at t11
    rw [a10] at g1
    refine x_put k_56_26 g1 (Nat.le_of_ble_eq_true rfl) rfl ?_
    obtain ⟨ad1, ea1⟩ : ∃ f : AD, f = qd ad 13 0 h.2.1 := ⟨_, rfl⟩
    have a10' : ad1 1 0 = ad 1 0 := by rw [ea1]; exact a10
    have a130 : ad1 13 0 = h.2.1 := by rw [ea1]; exact qd_s
    have a131 : ad1 13 1 = ad 13 1 := by rw [ea1]; exact qd_n (by omega)
    obtain ⟨h1, eh1⟩ : ∃ f : AH, f = hput (hnew h (inCell (2 * n) e1) (2 * n)) (ad 1 0) (.inr (1, [aR h.2.1, aR (ad 13 1), aI (n : Int)])) := ⟨_, rfl⟩
    obtain ⟨ow1, eow1⟩ : ∃ f : OW, f = up ow h.2.1 (13, 0) := ⟨_, rfl⟩
    obtain ⟨K1, eK1⟩ : ∃ f : KK, f = p2 (p2 K 13 0 (inCell (2 * n) e1)) 1 0 (.inr (1, [aR h.2.1, aR (ad 13 1), aI (n : Int)])) := ⟨_, rfl⟩
    have w2 : WD ad1 ow1 K1 h1 := by
      have := w1.put (e := .inr (1, [aR h.2.1, aR (ad 13 1), aI (n : Int)])) t11
      rw [a10] at this
      rw [ea1, eow1, eK1, eh1]
      exact this
    have fo2 : Fo ow0 h0 ow1 h1 := by
      have := fo1.tr (Fo.put (e := .inr (1, [aR h.2.1, aR (ad 13 1), aI (n : Int)])) w1 t11)
      rw [a10] at this
      rw [eow1, eh1]
      exact this
    have u1 : K1 1 0 = some (.inr (1, [aR (ad1 13 0), aR (ad1 13 1), aI (n : Int)])) := by rw [eK1, p2_s, a130, a131]
    have u2 : K1 13 0 = some (inCell (2 * n) e1) := by rw [eK1, p2_n (by omega)]; exact p2_s
    have u3 : K1 13 1 = some (inCell m c) := by rw [eK1, p2_n (by omega), p2_n (by omega)]; exact t3
    have cx1 : h1.2.1 = h.2.1 + 1 := by rw [eh1]; rfl
    have cx2 : h1.2.2.1 = h.2.2.1 + 2 * n := by rw [eh1]; rfl
    have cx3 : h1.2.2.2 = h.2.2.2 := by rw [eh1]; rfl
    show Rn 56 29 [some (aR (ad 1 0)), some (aI (p : Int))] [] (hput (hnew h (inCell (2 * n) e1) (2 * n)) (ad 1 0) (.inr (1, [aR h.2.1, aR (ad 13 1), aI (n : Int)]))) Q
    rw [← eh1, ← a10']
    refine x_aload_n k_56_29 rfl ?_
    refine x_aload_n k_56_30 rfl ?_
    refine x_get k_56_31 (w2.at u1) rfl ?_
    refine x_iconst k_56_34 ?_
    refine x_aload_n k_56_35 rfl ?_
    refine x_get k_56_36 (w2.at u1) rfl ?_
    refine x_imul k_56_39 ?_
    refine x_top (show (2 : Int) * n = ((2 * n : Nat) : Int) by omega) ?_
    refine x_call2 k_56_40 (Nat.le_of_ble_eq_true rfl) rfl (Nat.le_of_ble_eq_true rfl) ?_
    refine i_copyI (w2.at u3) (w2.1 _ _ _ u3).2.2 (by omega) (by omega) (by omega) (bh_1 ?_)
    rw [← ec1]
    have w3 := w2.new (k := 13) (i := 1) (e := inCell (2 * n) c1) (c := 2 * n) (by decide)
    have fo3 := fo2.tr (Fo.new (k := 13) (i := 1) (e := inCell (2 * n) c1) (c := 2 * n))
    have u11 : p2 K1 13 1 (inCell (2 * n) c1) 1 0 = some (.inr (1, [aR (ad1 13 0), aR (ad1 13 1), aI (n : Int)])) := by rw [p2_n (by omega)]; exact u1
    have b10 : qd ad1 13 1 h1.2.1 1 0 = ad1 1 0 := qd_n (by omega)
    have g2 := w3.at u11
    rw [b10] at g2
    refine x_put k_56_43 g2 (Nat.le_of_ble_eq_true rfl) rfl ?_
    obtain ⟨ad2, ea2⟩ : ∃ f : AD, f = qd ad1 13 1 h1.2.1 := ⟨_, rfl⟩
    have b10' : ad2 1 0 = ad1 1 0 := by rw [ea2]; exact b10
    have b131 : ad2 13 1 = h1.2.1 := by rw [ea2]; exact qd_s
    have b130 : ad2 13 0 = ad1 13 0 := by rw [ea2]; exact qd_n (by omega)
    obtain ⟨h2, eh2⟩ : ∃ f : AH, f = hput (hnew h1 (inCell (2 * n) c1) (2 * n)) (ad1 1 0) (.inr (1, [aR (ad1 13 0), aR h1.2.1, aI (n : Int)])) := ⟨_, rfl⟩
    obtain ⟨ow2, eow2⟩ : ∃ f : OW, f = up ow1 h1.2.1 (13, 1) := ⟨_, rfl⟩
    obtain ⟨K2, eK2⟩ : ∃ f : KK, f = p2 (p2 K1 13 1 (inCell (2 * n) c1)) 1 0 (.inr (1, [aR (ad1 13 0), aR h1.2.1, aI (n : Int)])) := ⟨_, rfl⟩
    have w4 : WD ad2 ow2 K2 h2 := by
      have := w3.put (e := .inr (1, [aR (ad1 13 0), aR h1.2.1, aI (n : Int)])) u11
      rw [b10] at this
      rw [ea2, eow2, eK2, eh2]
      exact this
    have fo4 : Fo ow0 h0 ow2 h2 := by
      have := fo3.tr (Fo.put (e := .inr (1, [aR (ad1 13 0), aR h1.2.1, aI (n : Int)])) w3 u11)
      rw [b10] at this
      rw [eow2, eh2]
      exact this
    have v1 : K2 1 0 = some (.inr (1, [aR (ad2 13 0), aR (ad2 13 1), aI (n : Int)])) := by rw [eK2, p2_s, b130, b131]
    have v2 : K2 13 0 = some (inCell (2 * n) e1) := by rw [eK2, p2_n (by omega), p2_n (by omega)]; exact u2
    have v3 : K2 13 1 = some (inCell (2 * n) c1) := by rw [eK2, p2_n (by omega)]; exact p2_s
    have dx1 : h2.2.1 = h.2.1 + 2 := by rw [eh2]; show h1.2.1 + 1 = _; omega
    have dx2 : h2.2.2.1 = h.2.2.1 + 4 * n := by rw [eh2]; show h1.2.2.1 + 2 * n = _; omega
    have dx3 : h2.2.2.2 = h.2.2.2 := by rw [eh2]; exact cx3
    show Rn 56 46 [some (aR (ad1 1 0)), some (aI (p : Int))] [] (hput (hnew h1 (inCell (2 * n) c1) (2 * n)) (ad1 1 0) (.inr (1, [aR (ad1 13 0), aR h1.2.1, aI (n : Int)]))) Q
    rw [← eh2, ← b10']
    refine lp_room w4 fo4 ⟨v1, v2, v3⟩ (by omega) (by omega) hp (fun K' h' e' c' q1 q2 q3 q4 q5 q6 q7 => k ad2 ow2 K' h' (2 * n) e' c' q1 q2 (fun k i n1 n2 => ⟨?_, ?_⟩) (b10'.trans a10') q4 (fun q hq => ?_) (fun q h1 h2 => ?_) (by omega) (by omega) (Or.inr rfl) (by rw [q7, dx1]; omega) (by rw [q7, dx2]; omega) (by rw [q7]; exact dx3))
    · rw [q3 k i n1 n2, eK2, p2_n n1, p2_n (fun z => n2 ⟨z.1, by omega⟩), eK1, p2_n n1, p2_n (fun z => n2 ⟨z.1, by omega⟩)]
    · rw [ea2, qd_n (fun z => n2 ⟨z.1, by omega⟩), ea1, qd_n (fun z => n2 ⟨z.1, by omega⟩)]
    · rw [(q5 q hq).1, (q5 q hq).2, ee1, ec1]
      unfold cpy
      rw [if_pos (by omega), if_pos (by omega), show 0 + (q - 0) = q by omega]
      exact ⟨rfl, rfl⟩
    · rw [(q6 q h1 h2).1, (q6 q h1 h2).2, ee1, ec1]
      unfold cpy
      rw [if_pos (by omega), if_pos (by omega), show 0 + (q - 0) = q by omega]
      exact ⟨rfl, rfl⟩
end C37
