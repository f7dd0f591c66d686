section C6
variable {ad : AD} {ow : OW} {K : KK} {h : AH} {C : Nat → Int} {A I : Nat → Nat → Int} {F : Nat → Nat → Nat → Int} {Ls : Nat → List Nat} {cp : Nat → Nat} {Q : AR → AH → Prop}
theorem up_self {α : Type} {f : Nat → α} {k : Nat} : up f k (f k) = f := by
  funext j
  by_cases q : j = k
  · subst q; rw [up_s]
  · rw [up_n q]
/-- the site s lets go n of those it holds, as the class does it -/
def clsP (C : Nat → Int) (s : Nat) : Nat → (Nat → Nat → Int) → (Nat → List Nat) → (Nat → Nat → Int) → (Nat → List Nat) → Prop
  | 0, A, Ls, A', Ls' => A' = A ∧ Ls' = Ls ∧ ¬ ∃ x, x ∈ Ls (2 + 2 * s) ∧ cbP C A x s
  | n + 1, A, Ls, A', Ls' => ∃ k x, (Ls (2 + 2 * s))[k]? = some x ∧ nof (Ls (2 + 2 * s)) (fun x => cbP C A x s) k ∧ cbP C A x s ∧ clsP C s n (apyA A (up Ls (2 + 2 * s) ((Ls (2 + 2 * s)).eraseIdx k)) x s) (up Ls (2 + 2 * s) ((Ls (2 + 2 * s)).eraseIdx k)) A' Ls'
theorem LT.sub {id : Nat} {l' : List Nat} (lt : LT C A Ls) (hid : id < 500) (hs : ∀ x, x ∈ l' → x ∈ Ls id) : LT C A (up Ls id l') := by
  have e : ∀ j x, x ∈ up Ls id l' j → x ∈ Ls j := fun j x hx => by
    by_cases q : j = id
    · subst q
      rw [up_s] at hx
      exact hs x hx
    · rw [up_n q] at hx
      exact hx
  obtain ⟨l1, l2, l3, l4, l5, l6⟩ := lt
  refine ⟨fun t k ht hk => l1 t k ht (e _ _ hk), fun t k ht hk => l2 t k ht (e _ _ hk), fun o k ho hk => ?_, fun o k ho hk => ?_, fun s x hs' hx => l5 s x hs' (e _ _ hx), fun s q hs' hq => l6 s q hs' (e _ _ hq)⟩
  · rw [up_n (by omega)]
    exact l3 o k ho (e _ _ hk)
  · rw [up_n (by omega)]
    exact l4 o k ho (e _ _ hk)
theorem apyA_b (b : RB C A) {t s : Nat} : RB C (apyA A Ls t s) := by
  have := b.v5 t
  exact (b.t13 ⟨by omega, by omega⟩).s1 (ukF_b b)
theorem apyA_lt {t s : Nat} {Ls2 : Nat → List Nat} (lt : LT C A Ls) : LT C (apyA A Ls2 t s) Ls := lt
theorem lp_applyHeld {ow0 : OW} {h0 hb : AH} {s : Nat} (hs : s < (C 1).toNat) (h6 : s < 6) : ∀ m : Nat, ∀ A Ls K F h, (Ls (2 + 2 * s)).length = m → WD ad ow K h → CI ad K h.2.2.2.1 C A I F Ls cp → RB C A → LT C A Ls → Fo ow0 h0 ow h → h.2 = hb.2 → (∀ n A' Ls' K' F' h', clsP C s n A Ls A' Ls' → WD ad ow K' h' → CI ad K' h'.2.2.2.1 C A' I F' Ls' cp → RB C A' → LT C A' Ls' → Fo ow0 h0 ow h' → h'.2 = hb.2 → Q (.inl none) h') → ∀ z : Option AV, Rn 89 8 [some (aR (ad 2 s)), some (aI (((Ls (2 + 2 * s)).length : Int))), z] [] h Q := by
  intro m
  induction m using Nat.strongRecOn with | ind m ih => ?_
  intro A Ls K F h hm w g b lt fo hz2 k z
  have v := g.lh hs h6
  obtain ⟨e8, v8⟩ := v.obj
  have vl := v.len
  refine x_iload_n k_89_8 rfl ?_
  refine x_ifle (t := 43) k_89_9 rfl (by omega) (fun hb => ?_) (fun hb => ?_)
  · have hb : ((Ls (2 + 2 * s)).length : Int) ≤ 0 := hb
    refine x_return k_89_43 ?_
    refine k 0 A Ls K F h ⟨rfl, rfl, fun ⟨x, h1, _⟩ => ?_⟩ w g b lt fo hz2
    have := List.length_pos_of_mem h1
    omega
  · refine x_aload_n k_89_12 rfl ?_
    refine x_call1 k_89_13 (Nat.le_of_ble_eq_true rfl) (rcv_1 (w.at (g.site hs))) (Nat.le_of_ble_eq_true rfl) ?_
    refine k_first w g b lt hs (fun j x hx hn hc => bh_1 ?_) (fun hn => bh_1 ?_)
    · have hjl : j < (Ls (2 + 2 * s)).length := (List.getElem?_eq_some_iff.mp hx).1
      have hxt : x < (C 3).toNat := lt.2.2.2.2.1 s x hs (List.mem_of_getElem? hx)
      refine x_is2n k_89_16 rfl ?_
      refine x_iload_n k_89_17 rfl ?_
      refine x_ifge (t := 22) k_89_18 rfl (by omega) (fun hb => ?_) (fun hb => absurd (Int.natCast_nonneg j) hb)
      refine x_aload_n k_89_22 rfl ?_
      refine x_aload_n k_89_23 rfl ?_
      refine x_get k_89_24 (w.at (g.site hs)) rfl ?_
      refine x_iload_n k_89_27 rfl ?_
      refine x_call2 k_89_28 (Nat.le_of_ble_eq_true rfl) (rcv_1 (w.at v8)) (Nat.le_of_ble_eq_true rfl) ?_
      refine c_remove w v (by decide) hx (fun K2 h2 wr v2 => bh_1 ?_)
      obtain ⟨w2, fo2, hK, hh⟩ := wr
      have g2 : CI ad K2 h2.2.2.2.1 C A I F (up Ls (2 + 2 * s) ((Ls (2 + 2 * s)).eraseIdx j)) cp := by
        rw [hh]
        have := g.lst (id := (2 + 2 * s)) (by omega) hK (fun _ _ _ => rfl) (by rw [kd_h h6]; rw [hh] at v2; exact v2)
        rw [up_self] at this
        exact this
      have lt2 : LT C A (up Ls (2 + 2 * s) ((Ls (2 + 2 * s)).eraseIdx j)) := lt.sub (by omega) (fun y hy => List.mem_of_mem_eraseIdx hy)
      refine x_cast k_89_31 (w2.at (g2.tran hxt)) ?_
      refine x_call2 k_89_34 (Nat.le_of_ble_eq_true rfl) (rcv_1 (w2.at (g2.site hs))) (Nat.le_of_ble_eq_true rfl) ?_
      refine k_apply w2 g2 b (fo.tr fo2) lt2 hxt hs (fun K3 F3 h3 w3 g3 fo3 e3 => bh_v ?_)
      refine x_inc1 k_89_37 rfl ?_
      refine x_goto (t := 8) k_89_40 rfl ?_
      have hlen : (up Ls (2 + 2 * s) ((Ls (2 + 2 * s)).eraseIdx j) (2 + 2 * s)).length = (Ls (2 + 2 * s)).length - 1 := by rw [up_s]; exact List.length_eraseIdx_of_lt hjl
      have e := ih (m - 1) (by omega) (apyA A (up Ls (2 + 2 * s) ((Ls (2 + 2 * s)).eraseIdx j)) x s) (up Ls (2 + 2 * s) ((Ls (2 + 2 * s)).eraseIdx j)) K3 F3 h3 (by omega) w3 g3 (apyA_b b) (apyA_lt lt2) fo3 (e3.trans (hh.trans hz2)) (fun n A' Ls' K' F' h' q => k (n + 1) A' Ls' K' F' h' ⟨j, x, hx, hn, hc, q⟩) (some (aI j))
      rw [hlen, show (((Ls (2 + 2 * s)).length - 1 : Nat) : Int) = ((Ls (2 + 2 * s)).length : Int) + (-1) by omega] at e
      exact e
    · refine x_is2n k_89_16 rfl ?_
      refine x_iload_n k_89_17 rfl ?_
      refine x_ifge (t := 22) k_89_18 rfl (by decide) (fun hb => absurd hb (by decide)) (fun hb => ?_)
      refine x_return k_89_21 ?_
      exact k 0 A Ls K F h ⟨rfl, rfl, hn⟩ w g b lt fo hz2
theorem k_applyHeld {ow0 : OW} {h0 : AH} (w : WD ad ow K h) (g : CI ad K h.2.2.2.1 C A I F Ls cp) (b : RB C A) (fo : Fo ow0 h0 ow h) (lt : LT C A Ls) {s : Nat} (hs : s < (C 1).toNat) (h6 : s < 6) (k : (∀ n A' Ls' K' F' h', clsP C s n A Ls A' Ls' → WD ad ow K' h' → CI ad K' h'.2.2.2.1 C A' I F' Ls' cp → RB C A' → LT C A' Ls' → Fo ow0 h0 ow h' → h'.2 = h.2 → Q (.inl none) h')) : Rn 89 0 (entL 89 [aR (ad 2 s)]) [] h Q := by
  show Rn 89 0 [some (aR (ad 2 s)), none, none] [] h Q
  have v := g.lh hs h6
  obtain ⟨e8, v8⟩ := v.obj
  refine x_aload_n k_89_0 rfl ?_
  refine x_get k_89_1 (w.at (g.site hs)) rfl ?_
  refine x_call1 k_89_4 (Nat.le_of_ble_eq_true rfl) (rcv_1 (w.at v8)) (Nat.le_of_ble_eq_true rfl) ?_
  refine c_size w v (bh_1 ?_)
  refine x_is1n k_89_7 rfl ?_
  exact lp_applyHeld (hb := h) hs h6 _ A Ls K F h rfl w g b lt fo rfl k _
theorem k_receive {ow0 : OW} {h0 : AH} (w : WD ad ow K h) (g : CI ad K h.2.2.2.1 C A I F Ls cp) (b : RB C A) (fo : Fo ow0 h0 ow h) (lt : LT C A Ls) {t s : Nat} (ht : t < (C 3).toNat) (hs : s < (C 1).toNat) (h6 : s < 6) (hcp : cp (2 + 2 * s) < 200000) (k1 : cbP C A t s → ∀ n A' Ls' K' F' h', clsP C s n (apyA A Ls t s) Ls A' Ls' → WD ad ow K' h' → CI ad K' h'.2.2.2.1 C A' I F' Ls' cp → RB C A' → LT C A' Ls' → Fo ow0 h0 ow h' → h'.2 = h.2 → Q (.inl none) h') (k0 : ¬ cbP C A t s → ∀ ad' ow' K' h' c', WA ad ow K h (2 + 2 * s) (cp (2 + 2 * s)) (Ls (2 + 2 * s)).length ad' ow' K' h' c' → CI ad' K' h'.2.2.2.1 C A I F (up Ls (2 + 2 * s) (Ls (2 + 2 * s) ++ [t])) (up cp (2 + 2 * s) c') → Q (.inl none) h') : Rn 87 0 (entL 87 [aR (ad 2 s), aR (ad 4 t)]) [] h Q := by
  show Rn 87 0 [some (aR (ad 2 s)), some (aR (ad 4 t))] [] h Q
  refine x_aload_n k_87_0 rfl ?_
  refine x_aload_n k_87_1 rfl ?_
  refine x_call2 k_87_2 (Nat.le_of_ble_eq_true rfl) (rcv_1 (w.at (g.site hs))) (Nat.le_of_ble_eq_true rfl) ?_
  refine k_canApply w g b ht hs (bh_1 ?_)
  refine x_ifeq_P (t := 20) k_87_5 rfl (fun hc => ?_) (fun hc => ?_)
  · have v := g.lh hs h6
    obtain ⟨e8, v8⟩ := v.obj
    refine x_aload_n k_87_20 rfl ?_
    refine x_get k_87_21 (w.at (g.site hs)) rfl ?_
    refine x_aload_n k_87_24 rfl ?_
    refine x_call2 k_87_25 (Nat.le_of_ble_eq_true rfl) (rcv_1 (w.at v8)) (Nat.le_of_ble_eq_true rfl) ?_
    refine c_add w v (by decide) (g.tran ht) hcp (fun ad' ow' K' h' c' wa v' => bh_1 ?_)
    refine x_pop k_87_28 rfl ?_
    refine x_return k_87_29 ?_
    refine k0 hc ad' ow' K' h' c' wa ?_
    obtain ⟨w2, fo2, hK, hA, _⟩ := wa
    have e : h'.2.2.2.1 = h.2.2.2.1 := by rw [fo2.2.2.1]
    rw [e]
    rw [e] at v'
    exact g.lst (by omega) hK hA (by rw [kd_h h6]; exact v')
  · refine x_aload_n k_87_8 rfl ?_
    refine x_aload_n k_87_9 rfl ?_
    refine x_call2 k_87_10 (Nat.le_of_ble_eq_true rfl) (rcv_1 (w.at (g.site hs))) (Nat.le_of_ble_eq_true rfl) ?_
    refine k_apply w g b fo lt ht hs (fun K2 F2 h2 w2 g2 fo2 e2 => bh_v ?_)
    refine x_aload_n k_87_13 rfl ?_
    refine x_call1 k_87_14 (Nat.le_of_ble_eq_true rfl) (rcv_1 (w2.at (g2.site hs))) (Nat.le_of_ble_eq_true rfl) ?_
    refine k_applyHeld w2 g2 (apyA_b b) fo2 (apyA_lt lt) hs h6 (fun n A' Ls' K' F' h' q w' g' b' lt' fo' e' => bh_v ?_)
    refine x_goto (t := 29) k_87_17 rfl ?_
    refine x_return k_87_29 ?_
    exact k1 hc n A' Ls' K' F' h' q w' g' b' lt' fo' (e'.trans e2)
theorem lp_takeFrom (w : WD ad ow K h) (g : CI ad K h.2.2.2.1 C A I F Ls cp) (b : RB C A) (lt : LT C A Ls) {s : Nat} {a : Int} (hs : s < (C 1).toNat) (h6 : s < 6) (ha : inR a) (k1 : ∀ j x K' h', (Ls (3 + 2 * s))[j]? = some x → nof (Ls (3 + 2 * s)) (fun q => A 16 q = a) j → A 16 x = a → WD ad ow K' h' → CI ad K' h'.2.2.2.1 C A I F (up Ls (3 + 2 * s) ((Ls (3 + 2 * s)).eraseIdx j)) cp → Fo ow h ow h' → h'.2 = h.2 → Q (.inl (some (aR (ad 7 x)))) h') (k0 : (¬ ∃ x, x ∈ Ls (3 + 2 * s) ∧ (fun q => A 16 q = a) x) → Q (.inl (some aN)) h) : ∀ n j : Nat, j + n = (Ls (3 + 2 * s)).length → nof (Ls (3 + 2 * s)) (fun q => A 16 q = a) j → Rn 80 2 [some (aR (ad 2 s)), some (aI (a)), some (aI ((j : Int)))] [] h Q := by
  have v := g.lb hs h6
  obtain ⟨e8, v8⟩ := v.obj
  have vl := v.len
  intro n
  induction n using Nat.strongRecOn with | ind n ih => ?_
  intro j hj hq
  refine x_iload_n k_80_2 rfl ?_
  refine x_aload_n k_80_3 rfl ?_
  refine x_get k_80_4 (w.at (g.site (by omega))) rfl ?_
  refine x_call1 k_80_7 (Nat.le_of_ble_eq_true rfl) (rcv_1 (w.at v8)) (Nat.le_of_ble_eq_true rfl) ?_
  refine c_size w v (bh_1 ?_)
  refine x_icmpge (t := 49) k_80_10 rfl (by show inR ((j : Int)) ∧ inR (((Ls (3 + 2 * s)).length : Int)); omega) (fun hb => ?_) (fun hb => ?_)
  · have c10 : ((Ls (3 + 2 * s)).length : Int) ≤ (j : Int) := hb
    refine x_null k_80_49 ?_
    refine x_areturn k_80_50 ?_
    exact k0 (nof_e hq (by omega))
  · have c10 : ¬ (((Ls (3 + 2 * s)).length : Int) ≤ (j : Int)) := hb
    obtain ⟨x, hx, hm⟩ := at_l (l := Ls (3 + 2 * s)) (j := j) (by omega)
    have hT := lt.2.2.2.2.2 s x hs hm
    refine x_aload_n k_80_13 rfl ?_
    refine x_get k_80_14 (w.at (g.site (by omega))) rfl ?_
    refine x_iload_n k_80_17 rfl ?_
    refine x_call2 k_80_18 (Nat.le_of_ble_eq_true rfl) (rcv_1 (w.at v8)) (Nat.le_of_ble_eq_true rfl) ?_
    refine c_get w v hx (bh_1 ?_)
    refine x_cast k_80_21 (w.at (g.ms (by omega))) ?_
    refine x_get k_80_24 (w.at (g.ms (by omega))) rfl ?_
    have f24 := b.v16 x
    refine x_iload_n k_80_27 rfl ?_
    refine x_icmpne (t := 43) k_80_28 rfl (by show inR (A 16 x) ∧ inR (a); omega) (fun hb => ?_) (fun hb => ?_)
    · have c28 : ¬ A 16 x = a := hb
      refine x_inc2 k_80_43 rfl ?_
      refine x_goto (t := 2) k_80_46 rfl ?_
      exact ih (n - 1) (by omega) (j + 1) (by omega) (nof_s hq hx c28)
    · have c28 : ¬ (¬ A 16 x = a) := hb
      refine x_aload_n k_80_31 rfl ?_
      refine x_get k_80_32 (w.at (g.site (by omega))) rfl ?_
      refine x_iload_n k_80_35 rfl ?_
      refine x_call2 k_80_36 (Nat.le_of_ble_eq_true rfl) (rcv_1 (w.at v8)) (Nat.le_of_ble_eq_true rfl) ?_
      refine c_remove w v (by decide) hx (fun K2 h2 wr v2 => bh_1 ?_)
      obtain ⟨w2, fo2, hK, hh⟩ := wr
      have g2 : CI ad K2 h2.2.2.2.1 C A I F (up Ls (3 + 2 * s) ((Ls (3 + 2 * s)).eraseIdx j)) cp := by
        rw [hh]
        have := g.lst (id := (3 + 2 * s)) (by omega) hK (fun _ _ _ => rfl) (by rw [kd_b h6]; rw [hh] at v2; exact v2)
        rw [up_self] at this
        exact this
      refine x_cast k_80_39 (w2.at (g2.ms hT.1)) ?_
      refine x_areturn k_80_42 ?_
      exact k1 j x K2 h2 hx hq (Decidable.not_not.mp c28) w2 g2 fo2 hh
theorem k_takeFrom (w : WD ad ow K h) (g : CI ad K h.2.2.2.1 C A I F Ls cp) (b : RB C A) (lt : LT C A Ls) {s : Nat} {a : Int} (hs : s < (C 1).toNat) (h6 : s < 6) (ha : inR a) (k1 : ∀ j x K' h', (Ls (3 + 2 * s))[j]? = some x → nof (Ls (3 + 2 * s)) (fun q => A 16 q = a) j → A 16 x = a → WD ad ow K' h' → CI ad K' h'.2.2.2.1 C A I F (up Ls (3 + 2 * s) ((Ls (3 + 2 * s)).eraseIdx j)) cp → Fo ow h ow h' → h'.2 = h.2 → Q (.inl (some (aR (ad 7 x)))) h') (k0 : (¬ ∃ x, x ∈ Ls (3 + 2 * s) ∧ (fun q => A 16 q = a) x) → Q (.inl (some aN)) h) : Rn 80 0 (entL 80 [aR (ad 2 s), aI a]) [] h Q := by
  show Rn 80 0 [some (aR (ad 2 s)), some (aI a), none] [] h Q
  refine x_iconst k_80_0 ?_
  refine x_is2n k_80_1 rfl ?_
  exact lp_takeFrom w g b lt hs h6 ha k1 k0 (Ls (3 + 2 * s)).length 0 (Nat.zero_add _) nof_0
end C6
