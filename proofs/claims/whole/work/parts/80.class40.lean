section C40
variable {ad : AD} {ow : OW} {K : KK} {h : AH} {C : Nat → Int} {A I : Nat → Nat → Int} {F : Nat → Nat → Nat → Int} {Ls : Nat → List Nat} {cp : Nat → Nat} {Q : AR → AH → Prop}
theorem plc_lt {n : Nat} {c : Nat → Int} {i : Int} : ∀ r b p, r ≤ n → plc n c i r b = some p → p < n := by
  intro r
  induction r with
  | zero => intro b p _ h; cases h
  | succ r ih =>
    intro b p hr h
    by_cases q : c (n - (r + 1)) = 0
    · rw [plc_a q] at h
      exact ih b p (by omega) h
    · by_cases e : (b : Int) = i
      · rw [plc_b q e] at h
        cases h
        omega
      · rw [plc_c q e] at h
        exact ih (b + 1) p (by omega) h
theorem k_element {H : Nat} {S N M : Nat} {ow0 : OW} {h0 : AH} (w : WD ad ow K h) (g : CI ad K h.2.2.2.1 C A I F Ls cp) (b : RB C A) (lt : LT C A Ls) (fo : Fo ow0 h0 ow h) (ib : IB C Ls cp) (pt : PT S N h cp) (jw : JB C Ls cp 20 M) (jc : JB C Ls cp 21 M) (hb : HB C Ls cp H) (tb : TB C Ls cp) (hin : ∀ t' x, t' < (C 3).toNat → x ∈ Ls (501 + 2 * t') → inR (A 12 x)) {t o i : Int} (ht : inR t) (ho : inR o) (hi : inR i) (hlen : ¬ badP C A t o true → ¬ refP C A t → ((Ls (21 + 2 * o.toNat)).length + (Ls (501 + 2 * t.toNat)).length) ≤ 512) (e1 : badP C A t o true → Q (.inr (10, h.2.1)) (hex h 10)) (e2 : ¬ badP C A t o true → refP C A t → Q (.inr (11, h.2.1)) (hex h 11)) (k3 : ¬ badP C A t o true → ¬ refP C A t → ∀ (n : Nat) (e c : Nat → Int) (I' : Nat → Nat → Int) h', TI n e c (fun y => smj (Ls (21 + 2 * o.toNat)) (fvs A t.toNat y) (Ls (21 + 2 * o.toNat)).length + smj (Ls (501 + 2 * t.toNat)) (fow A o.toNat y) (Ls (501 + 2 * t.toNat)).length) ((Ls (21 + 2 * o.toNat)).length + (Ls (501 + 2 * t.toNat)).length) → (∀ j, ¬ j = 4 → I' j = I j) → plc n c i n 0 = none → WX (fun ad' => ad' 0 0 = ad 0 0) ow0 h0 (S + 4096) (N + 1024) M H (C, A, I', Ls) h' → Q (.inr (12, h'.2.1)) (hex h' 12)) (k : ¬ badP C A t o true → ¬ refP C A t → ∀ (n : Nat) (e c : Nat → Int) (I' : Nat → Nat → Int) h', TI n e c (fun y => smj (Ls (21 + 2 * o.toNat)) (fvs A t.toNat y) (Ls (21 + 2 * o.toNat)).length + smj (Ls (501 + 2 * t.toNat)) (fow A o.toNat y) (Ls (501 + 2 * t.toNat)).length) ((Ls (21 + 2 * o.toNat)).length + (Ls (501 + 2 * t.toNat)).length) → (∀ j, ¬ j = 4 → I' j = I j) → ∀ p, plc n c i n 0 = some p → WX (fun ad' => ad' 0 0 = ad 0 0) ow0 h0 (S + 4096) (N + 1024) M H (C, A, I', Ls) h' → Q (.inl (some (aI (e p)))) h') : Rn 51 0 (entL 51 [aR (ad 0 0), aI t, aI o, aI i]) [] h Q := by
  show Rn 51 0 [some (aR (ad 0 0)), some (aI t), some (aI o), some (aI i), none, none, none] [] h Q
  refine hd_51 w g b ht ho e1 e2 (fun n1 n2 => ?_)
  have q1 : 0 ≤ t ∧ t < C 3 := by have n1 := n1; unfold badP at n1; omega
  have q2 : 0 ≤ o ∧ o < C 2 := by have n1 := n1; unfold badP at n1; omega
  have ht' : t.toNat < (C 3).toNat := by omega
  have ho' : o.toNat < (C 2).toNat := by omega
  refine x_aload k_51_20 rfl ?_
  refine x_aload k_51_22 rfl ?_
  refine x_aload_n k_51_24 rfl ?_
  refine x_get k_51_25 (w.at g.store) rfl ?_
  refine x_call3 k_51_28 (Nat.le_of_ble_eq_true rfl) (rcv_1 (w.at (g.tran ht'))) (Nat.le_of_ble_eq_true rfl) ?_
  refine k_countAll w g b lt fo ht' ho' hin (hlen n1 n2) tb.2.2.2.2 (fun ad' ow' K' I' F' cp' n h' tz => bh_v ?_)
  obtain ⟨w', fo', g', ti, hn, hnm, hm, hmb, hI, hF, hcp, hA, hc1, hc2⟩ := tz
  have e00 : ad' 0 0 = ad 0 0 := hA 0 0 (by decide)
  have ti0 := ti
  obtain ⟨t1, t2, t3, t4, t5, t6⟩ := ti
  obtain ⟨y1, y2, y3, y4⟩ := g'.tal
  have y1' : K' 1 0 = some (.inr (1, [aR (ad' 13 0), aR (ad' 13 1), aI (n : Int)])) := by rw [y1]; unfold tyCell; rw [hn]
  have cin : ∀ p, p < n → inR (F' 2 1 p) := fun p hp => by
    have a1 := t5 (F' 2 0 p)
    rw [t2 p hp]
    unfold inR
    omega
  have sm : ∀ m, m ≤ 1500 → csum cp' m = csum cp m := fun m => by
    induction m with
    | zero => intro _; rfl
    | succ m ih =>
      intro hm'
      show csum cp' m + cp' m = csum cp m + cp m
      rw [ih (by omega), hcp m (by omega)]
  have b1 := b.c1
  have b2 := b.c2
  have b3 := b.c3
  have X : WX (fun ad' => ad' 0 0 = ad 0 0) ow0 h0 (S + 4096) (N + 1024) M H (C, A, I', Ls) h' := by
    refine ⟨ad', ow', K', F', cp', e00, w', g', b, lt, fo', fun u hu => ?_, ⟨?_, ?_⟩, ⟨fun q hq => ?_, fun q hq => ?_⟩, fun s hs => ?_, ?_, ?_, fun j h1 h2 => ?_, fun j h1 h2 => ?_, hm⟩
    · rw [hcp _ (by have hu : u < (C 1).toNat := hu; omega)]; exact ib u hu
    · have := pt.1
      rw [sm 1500 (Nat.le_refl _)]
      omega
    · have := pt.2
      omega
    · rw [hcp _ (by have hq : q < (C 2).toNat := hq; omega)]; exact jw q hq
    · rw [hcp _ (by have hq : q < (C 2).toNat := hq; omega)]; exact jc q hq
    · rw [hcp _ (by have hs : s < (C 1).toNat := hs; omega)]; exact hb s hs
    · rw [hcp _ (by decide)]; exact tb.1
    · rw [hcp _ (by decide)]; exact tb.2.1
    · rw [hcp _ (by have h2 : j < 500 + 2 * (C 3).toNat := h2; omega)]; exact tb.2.2.1 j h1 h2
    · rw [hcp _ (by omega)]; exact tb.2.2.2.1 j h1 h2
  rw [← e00]
  refine x_aload_n k_51_31 rfl ?_
  refine x_get k_51_32 (w'.at g'.store) rfl ?_
  refine x_iload_n k_51_35 rfl ?_
  refine x_call2 k_51_36 (Nat.le_of_ble_eq_true rfl) (rcv_1 (w'.at y1')) (Nat.le_of_ble_eq_true rfl) ?_
  refine k_placeOf (w'.at y1') (w'.at y3) hnm (by omega) hi cin (fun p hp => bh_1 ?_) (fun hp => bh_1 ?_)
  · have hpn := plc_lt n 0 p (Nat.le_refl _) hp
    refine x_is6 k_51_39 rfl ?_
    refine x_iload k_51_41 rfl ?_
    refine x_ifge (t := 56) k_51_43 rfl (by show inR (p : Int); omega) (fun _ => ?_) (fun q => absurd (show (0 : Int) ≤ p by omega) q)
    refine x_aload_n k_51_56 rfl ?_
    refine x_get k_51_57 (w'.at g'.store) rfl ?_
    refine x_get k_51_60 (w'.at y1') rfl ?_
    refine x_iload k_51_63 rfl ?_
    refine y_iaload (m := p) k_51_65 (w'.at y2) (Or.inl rfl) rfl (by omega) ?_
    refine x_ireturn k_51_66 rfl ?_
    exact k n1 n2 n _ _ I' h' ti0 hI p hp X
  · refine x_is6 k_51_39 rfl ?_
    refine x_iload k_51_41 rfl ?_
    refine x_ifge (t := 56) k_51_43 rfl (by show inR (-1 : Int); decide) (fun q => absurd q (by decide)) (fun _ => ?_)
    refine x_throw k_51_46 (Nat.le_of_ble_eq_true rfl) ?_
    exact k3 n1 n2 n _ _ I' h' ti0 hI hp X
end C40
