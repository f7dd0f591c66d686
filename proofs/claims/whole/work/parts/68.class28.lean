section C28
variable {ad : AD} {ow : OW} {K : KK} {h : AH} {C : Nat → Int} {A I : Nat → Nat → Int} {F : Nat → Nat → Nat → Int} {Ls : Nat → List Nat} {cp : Nat → Nat} {Q : AR → AH → Prop}
theorem WX.imp {P P' : AD → Prop} {S N M H : Nat} {ow0 : OW} {h0 : AH} {p : CB} (x : WX P ow0 h0 S N M H p h) (hi : ∀ ad, P ad → P' ad) : WX P' ow0 h0 S N M H p h := by
  obtain ⟨ad', ow', K', F', cp', hp, q⟩ := x
  exact ⟨ad', ow', K', F', cp', hi ad' hp, q⟩
theorem bcl_5 {B : Nat → Prop} {a so t : Int} {p : CB} : ∀ u, p.1 5 ≤ (bcl B a so t p u).1 5 ∧ ∀ x, x < (p.1 5).toNat → (bcl B a so t p u).2.2.1 2 x = p.2.2.1 2 x := by
  intro u
  induction u with
  | zero => exact ⟨Int.le_refl _, fun _ _ => rfl⟩
  | succ u ih =>
    by_cases hp : B u
    · rw [bcl_y hp]
      refine ⟨?_, fun x hx => ?_⟩
      · show p.1 5 ≤ (bcl B a so t p u).1 5 + 1
        have := ih.1
        omega
      · show up ((bcl B a so t p u).2.2.1 2) ((bcl B a so t p u).1 5).toNat so x = _
        rw [up_n (by have := ih.1; omega)]
        exact ih.2 x hx
    · rw [bcl_n hp]
      exact ih
theorem arv_5 {s t : Nat} {so x : Int} {p : CB} (hp : arvP C A I Ls s t so x p) : C 5 ≤ p.1 5 ∧ ∀ x, x < (C 5).toNat → p.2.2.1 2 x = I 2 x := by
  have sn : ∀ so : Int, ∀ x, x < (C 5).toNat → up (I 2) (C 5).toNat so x = I 2 x := fun so x hx => up_n (by omega)
  have s5 : C 5 ≤ sndC C 5 := by show C 5 ≤ C 5 + 1; omega
  rcases hp with ⟨_, _, e⟩ | ⟨_, _, e⟩ | ⟨_, _, e⟩ | ⟨_, _, _, e⟩ | ⟨_, _, _, e⟩ | ⟨_, _, e⟩ | ⟨_, _, e⟩ | ⟨_, e⟩ | ⟨_, _, n, A', Ls', _, e⟩ | ⟨_, _, e⟩
  · subst e; exact ⟨s5, sn 3⟩
  · subst e; exact ⟨s5, sn 2⟩
  · subst e; exact ⟨Int.le_refl _, fun _ _ => rfl⟩
  · subst e; exact ⟨Int.le_refl _, fun _ _ => rfl⟩
  · subst e; exact bcl_5 (p := (up C 6 (C 6 + 1), mkA2 A Ls t, (up I 0 (up (I 0) t (I 0 t - 1))), hndL (mkA A t) Ls t)) _
  · subst e; exact ⟨Int.le_refl _, fun _ _ => rfl⟩
  · subst e; exact bcl_5 (p := (C, hnA A Ls t, I, Ls)) _
  · subst e; exact ⟨Int.le_refl _, fun _ _ => rfl⟩
  · subst e; exact ⟨Int.le_refl _, fun _ _ => rfl⟩
  · subst e; exact ⟨Int.le_refl _, fun _ _ => rfl⟩
theorem try_k {t : Nat} {p : CB} (hp : tryP C A I Ls t p) (lt : LT C A Ls) (b : RB C A) (ht : t < (C 3).toNat) (h13 : A 13 (6 * (A 3 t).toNat + (A 3 t).toNat) < 500) (h6 : C 6 < 1000) (h5 : C 5 + 6 ≤ 15000) : p.1 1 = C 1 ∧ p.1 2 = C 2 ∧ p.1 3 = C 3 ∧ ∀ i, (i < 2 ∨ i < 20 ∧ i % 2 = 0 ∨ 500 ≤ i) → p.2.2.2 i = Ls i := by
  have b1 := b.c1
  have b3 := b.v3 t
  have b33 := b.c3
  rcases hp with ⟨_, e⟩ | ⟨_, _, e⟩ | ⟨_, _, _, e⟩ | ⟨_, _, _, e⟩
  · subst e; exact ⟨rfl, rfl, rfl, fun _ _ => rfl⟩
  · subst e; exact ⟨rfl, rfl, rfl, fun _ _ => rfl⟩
  · subst e
    have mb := mkS_b (I := I) (Ls := Ls) b ht h13 h6 h5
    exact ⟨mb.2 1 (by decide), mb.2 2 (by decide), mb.2 3 (by decide), fun i hi => mkS_e lt b ht hi⟩
  · subst e
    have bA : RB C (wtA A Ls t) := (b.s1 (lkF_b b (by omega))).t4 ⟨by omega, by omega⟩
    have bb := bcl_b (P := fun u => aks (wtA A Ls t) Ls t u ∧ ¬ (u : Int) = -1) (a := A 3 t) (so := 1) (t := t) (p := (C, wtA A Ls t, up I 0 (up (I 0) t (nP (aks A Ls t) (C 1).toNat)), Ls)) bA b3 (by decide) (by omega) h5 (u := (C 1).toNat) (by omega)
    exact ⟨bb.2 1 (by decide), bb.2 2 (by decide), bb.2 3 (by decide), fun i hi => bcl_e (by omega) _ (by omega)⟩
theorem k_commit {H : Nat} {S N M : Nat} {ow0 : OW} {h0 : AH} (w : WD ad ow K h) (g : CI ad K h.2.2.2.1 C A I F Ls cp) (b : RB C A) (lt : LT C A Ls) (fo : Fo ow0 h0 ow h) (ib : IB C Ls cp) (pt : PT S N h cp) (jw : JB C Ls cp 20 M) (jc : JB C Ls cp 21 M) (hb : HB C Ls cp H) (tb : TB C Ls cp) (hl : ∀ t, t < (C 3).toNat → (Ls (500 + 2 * t)).length ≤ 512 ∧ (Ls (501 + 2 * t)).length ≤ 512) (hM : M < 70000) (h13 : ∀ t, t < (C 3).toNat → (A 4 t = 0 ∨ A 4 t = 3) → A 13 (6 * (A 3 t).toNat + (A 3 t).toNat) < 500) (h6 : C 6 < 1000) (h5 : C 5 + 6 ≤ 15000) {t : Int} (ht : inR t) (e1 : ¬ (0 ≤ t ∧ t < C 3) → Q (.inr (10, h.2.1)) (hex h 10)) (e2 : (0 ≤ t ∧ t < C 3) → ¬ A 4 t.toNat = 0 → Q (.inr (11, h.2.1)) (hex h 11)) (k : (0 ≤ t ∧ t < C 3) → A 4 t.toNat = 0 → ∀ p h', tryP C A I Ls t.toNat p → WX (fun ad' => ad' 0 0 = ad 0 0) ow0 h0 (S + 18) (N + 1036) (M + 1024) (H + 1) p h' → Q (.inl (some (aI (p.2.1 4 t.toNat)))) h') : Rn 60 0 (entL 60 [aR (ad 0 0), aI t]) [] h Q := by
  show Rn 60 0 [some (aR (ad 0 0)), some (aI t), none] [] h Q
  refine x_aload_n k_60_0 rfl ?_
  refine x_iload_n k_60_1 rfl ?_
  refine x_call2 k_60_2 (Nat.le_of_ble_eq_true rfl) (rcv_1 (w.at g.store)) (Nat.le_of_ble_eq_true rfl) ?_
  refine k_transactionOf w g b ht (fun h1 => bh_1 ?_) (fun h1 => bh_o rfl (e1 h1))
  refine x_as2n k_60_5 rfl ?_
  refine x_aload_n k_60_6 rfl ?_
  refine x_aload_n k_60_7 rfl ?_
  refine x_call2 k_60_8 (Nat.le_of_ble_eq_true rfl) (rcv_1 (w.at g.store)) (Nat.le_of_ble_eq_true rfl) ?_
  have ht' : t.toNat < (C 3).toNat := by omega
  refine k_needOpen w g b ht' (fun h2 => bh_v ?_) (fun h2 => bh_o rfl (e2 h1 h2))
  refine x_aload_n k_60_11 rfl ?_
  refine x_aload_n k_60_12 rfl ?_
  refine x_call2 k_60_13 (Nat.le_of_ble_eq_true rfl) (rcv_1 (w.at g.store)) (Nat.le_of_ble_eq_true rfl) ?_
  have hl := hl t.toNat ht'
  refine k_try w g b lt fo ib pt jw jc ht' (by omega) (by omega) (h13 _ ht' (Or.inl h2)) h6 h5 (fun p h' hp ws => bh_v ?_)
  have tk := try_k hp lt b ht' (h13 _ ht' (Or.inl h2)) h6 h5
  have x := WS.y (P := fun ad' => ad' 0 0 = ad 0 0 ∧ ad' 4 t.toNat = ad 4 t.toNat) ws b (fun ad' q => ⟨q 0 0 (Or.inl (by decide)) (by decide), q 4 _ (Or.inl (by decide)) (by decide)⟩) tk.1 tk.2.1 tk.2.2.1 tk.2.2.2 hb tb
  have x2 : WX (fun ad' => ad' 0 0 = ad 0 0) ow0 h0 (S + 18) (N + 1036) (M + 1024) (H + 1) p h' := WX.mono (x.imp (fun ad q => q.1)) (by omega) (by omega) (by omega) (by omega)
  obtain ⟨ad', ow', K', F', cp', hq, y⟩ := x
  refine x_aload_n k_60_16 rfl ?_
  rw [← hq.2]
  refine x_get k_60_17 (y.1.at (y.2.1.tran (t := t.toNat) (by rw [tk.2.2.1]; exact ht'))) rfl ?_
  refine x_ireturn k_60_20 rfl ?_
  exact k h1 h2 p h' hp x2
theorem k_deliver {H : Nat} {S N M : Nat} {ow0 : OW} {h0 : AH} (w : WD ad ow K h) (g : CI ad K h.2.2.2.1 C A I F Ls cp) (b : RB C A) (lt : LT C A Ls) (fo : Fo ow0 h0 ow h) (ib : IB C Ls cp) (pt : PT S N h cp) (jw : JB C Ls cp 20 M) (jc : JB C Ls cp 21 M) (hb : HB C Ls cp H) (tb : TB C Ls cp) (hl : ∀ t, t < (C 3).toNat → (Ls (500 + 2 * t)).length ≤ 512 ∧ (Ls (501 + 2 * t)).length ≤ 512) (hM : M < 70000) (h13 : ∀ t, t < (C 3).toNat → (A 4 t = 0 ∨ A 4 t = 3) → A 13 (6 * (A 3 t).toNat + (A 3 t).toNat) < 500) (h6 : C 6 < 1000) (h5 : C 5 + 6 ≤ 15000) (hdu : ∀ t, t < (C 3).toNat → A 4 t = 3 → 0 ≤ I 0 t ∧ I 0 t ≤ 100) (hso : ∀ q, q < (C 5).toNat → inR (I 2 q)) (hH : H < 80000) {a d : Int} (ha : inR a) (hd : inR d) (e1 : (¬ ((0 ≤ a ∧ a < C 1) ∧ (0 ≤ d ∧ d < C 1)) ∨ a = d) → Q (.inr (10, h.2.1)) (hex h 10)) (k0 : ((0 ≤ a ∧ a < C 1) ∧ (0 ≤ d ∧ d < C 1)) → ¬ a = d → (¬ ∃ x, x ∈ Ls (3 + 2 * d.toNat) ∧ (fun q => A 16 q = a) x) → Q (.inl (some (aI 0))) h) (k1 : ((0 ≤ a ∧ a < C 1) ∧ (0 ≤ d ∧ d < C 1)) → ¬ a = d → ∀ j x p h', (Ls (3 + 2 * d.toNat))[j]? = some x → nof (Ls (3 + 2 * d.toNat)) (fun q => A 16 q = a) j → A 16 x = a → arvP C A I (up Ls (3 + 2 * d.toNat) ((Ls (3 + 2 * d.toNat)).eraseIdx j)) d.toNat (A 19 x).toNat (I 2 x) (A 16 x) p → WX (fun ad' => ad' 0 0 = ad 0 0) ow0 h0 (S + 18) (N + 1036) (M + 1024) (H + 1) p h' → Q (.inl (some (aI (I 2 x)))) h') : Rn 78 0 (entL 78 [aR (ad 0 0), aI a, aI d]) [] h Q := by
  show Rn 78 0 [some (aR (ad 0 0)), some (aI a), some (aI d), none] [] h Q
  have b1 := b.c1
  obtain ⟨R, hR, hR2⟩ := g.row
  refine x_aload_n k_78_0 rfl ?_
  refine x_iload_n k_78_1 rfl ?_
  refine x_iload_n k_78_2 rfl ?_
  refine x_call3 k_78_3 (Nat.le_of_ble_eq_true rfl) (rcv_1 (w.at g.store)) (Nat.le_of_ble_eq_true rfl) ?_
  refine k_needTwo w g b ha hd (fun h1 h2 => bh_v ?_) (fun h1 => bh_o rfl (e1 h1))
  refine x_aload_n k_78_6 rfl ?_
  refine x_get k_78_7 (w.at g.store) rfl ?_
  refine x_iload_n k_78_10 rfl ?_
  refine x_aaload k_78_11 (w.at hR) (Or.inl rfl) (by omega) (by omega) ?_
  rw [hR2 d.toNat (by omega)]
  refine x_iload_n k_78_12 rfl ?_
  have hs : d.toNat < (C 1).toNat := by omega
  refine x_call2 k_78_13 (Nat.le_of_ble_eq_true rfl) (rcv_1 (w.at (g.site hs))) (Nat.le_of_ble_eq_true rfl) ?_
  refine k_takeFrom w g b lt hs (by omega) ha (fun j x K' h' hx hno h16 w' g' fo' e2 => bh_1 ?_) (fun hn => bh_1 ?_)
  · refine x_as3n k_78_16 rfl ?_
    refine x_aload_n k_78_17 rfl ?_
    refine x_ifnn_s (t := 23) k_78_18 rfl ?_
    obtain ⟨R', hR', hR2'⟩ := g'.row
    refine x_aload_n k_78_23 rfl ?_
    refine x_aload_n k_78_24 rfl ?_
    refine x_aload_n k_78_25 rfl ?_
    refine x_get k_78_26 (w'.at g'.store) rfl ?_
    refine x_iload_n k_78_29 rfl ?_
    refine x_aaload k_78_30 (w'.at hR') (Or.inl rfl) (by omega) (by omega) ?_
    rw [hR2' d.toNat (by omega)]
    refine x_call3 k_78_31 (Nat.le_of_ble_eq_true rfl) (rcv_1 (w'.at g'.store)) (Nat.le_of_ble_eq_true rfl) ?_
    have hm := List.mem_of_getElem? hx
    have hx5 := lt.2.2.2.2.2 _ _ hs hm
    have hle : ((Ls (3 + 2 * d.toNat)).eraseIdx j).length ≤ (Ls (3 + 2 * d.toNat)).length := by
      rw [List.length_eraseIdx]
      split <;> omega
    have ht := hl _ hx5.2
    refine k_arrive (P := fun ad' => ad' 0 0 = ad 0 0 ∧ ad' 7 x = ad 7 x) (H := H) (M := M) (S := S) (N := N) (ow0 := ow0) (h0 := h0) w' g' b (lt.sub (by omega) (fun y hy => List.mem_of_mem_eraseIdx hy)) (fo.tr fo') (fun u hu => ?_) (by unfold PT; rw [e2]; exact pt) (fun o ho => ?_) (fun o ho => ?_) (fun s' hs' => ?_) ⟨tb.1, tb.2.1, fun i h1 h2 => ?_, tb.2.2.2⟩ (fun ad' q => ⟨q 0 0 (Or.inl (by decide)) (by decide), q 7 x (Or.inr hx5.1) (by decide)⟩) (q := x) (s := d.toNat) (t := (A 19 x).toNat) hx5.1 hs rfl hx5.2 (hso x hx5.1) ?_ ?_ (fun z => h13 _ hx5.2 (Or.inr z)) h6 h5 (hdu _ hx5.2) hH (fun p h'' hp wx => bh_v ?_)
    · show (up Ls (3 + 2 * d.toNat) _ (3 + 2 * u)).length ≤ _ ∧ _
      have := ib u hu
      by_cases hn : 3 + 2 * u = 3 + 2 * d.toNat
      · rw [hn] at this ⊢
        rw [up_s]
        exact ⟨Nat.le_trans hle this.1, this.2⟩
      · rw [up_n hn]
        exact this
    · show _ ≤ 10 + 2 * (up Ls (3 + 2 * d.toNat) _ (20 + 2 * o)).length ∧ (up Ls (3 + 2 * d.toNat) _ (20 + 2 * o)).length ≤ M
      rw [up_n (by omega)]
      exact jw o ho
    · show _ ≤ 10 + 2 * (up Ls (3 + 2 * d.toNat) _ (21 + 2 * o)).length ∧ (up Ls (3 + 2 * d.toNat) _ (21 + 2 * o)).length ≤ M
      rw [up_n (by omega)]
      exact jc o ho
    · show (up Ls (3 + 2 * d.toNat) _ (2 + 2 * s')).length ≤ _ ∧ _
      rw [up_n (by omega)]
      exact hb s' hs'
    · show _ ≤ 10 + 2 * (up Ls (3 + 2 * d.toNat) _ i).length
      rw [up_n (by omega)]
      exact tb.2.2.1 i h1 h2
    · rw [up_n (by omega)]
      omega
    · rw [up_n (by omega)]
      omega
    · have w5 := arv_5 hp
      rw [up_n (by omega), up_n (by omega)] at wx
      have x2 : WX (fun ad' => ad' 0 0 = ad 0 0) ow0 h0 (S + 18) (N + 1036) (M + 1024) (H + 1) p h'' := WX.mono (wx.imp (fun ad q => q.1)) (by omega) (by omega) (by omega) (by omega)
      obtain ⟨ad', ow', K'', F', cp', hq, y⟩ := wx
      refine x_aload_n k_78_34 rfl ?_
      rw [← hq.2]
      refine x_get k_78_35 (y.1.at (y.2.1.ms (q := x) (by omega))) rfl ?_
      refine x_top (w5.2 x hx5.1) ?_
      refine x_ireturn k_78_38 rfl ?_
      exact k1 h1 h2 j x p h'' hx hno h16 hp x2
  · refine x_as3n k_78_16 rfl ?_
    refine x_aload_n k_78_17 rfl ?_
    refine x_ifnn_n (t := 23) k_78_18 rfl ?_
    refine x_iconst k_78_21 ?_
    refine x_ireturn k_78_22 rfl ?_
    exact k0 h1 h2 hn
end C28
