section C38
variable {ad : AD} {ow : OW} {K : KK} {h : AH} {C : Nat → Int} {A I : Nat → Nat → Int} {F : Nat → Nat → Nat → Int} {Ls : Nat → List Nat} {cp : Nat → Nat} {Q : AR → AH → Prop}
/-- the tally: elements in their order, with the totals T -/
def TI (n : Nat) (e c : Nat → Int) (T : Int → Int) (B : Nat) : Prop := (∀ p q, p < q → q < n → e p < e q) ∧ (∀ p, p < n → c p = T (e p)) ∧ (∀ x, ¬ T x = 0 → ∃ p, p < n ∧ e p = x) ∧ (∀ p, p < n → inR (e p)) ∧ (∀ x, -(B : Int) ≤ T x ∧ T x ≤ B) ∧ n ≤ B
def adT (T : Int → Int) (x a : Int) : Int → Int := fun y => if y = x then T y + a else T y
theorem adT_s {T : Int → Int} {x a : Int} : adT T x a x = T x + a := by unfold adT; rw [if_pos rfl]
theorem adT_n {T : Int → Int} {x a y : Int} (hn : ¬ y = x) : adT T x a y = T y := by unfold adT; rw [if_neg hn]
theorem adT_b {T : Int → Int} {B : Nat} {x a : Int} (hb : ∀ x, -(B : Int) ≤ T x ∧ T x ≤ B) (ha : -1 ≤ a ∧ a ≤ 1) (y : Int) : -((B + 1 : Nat) : Int) ≤ adT T x a y ∧ adT T x a y ≤ ((B + 1 : Nat) : Int) := by
  have := hb y
  by_cases q : y = x
  · rw [q, adT_s]; rw [q] at this; omega
  · rw [adT_n q]; omega
theorem TI.upd {n B p : Nat} {e c c' : Nat → Int} {T : Int → Int} {a : Int} (ti : TI n e c T B) (ha : -1 ≤ a ∧ a ≤ 1) (hp : p < n) (hc : c' p = c p + a) (hn : ∀ q, ¬ q = p → c' q = c q) : TI n e c' (adT T (e p) a) (B + 1) := by
  obtain ⟨t1, t2, t3, t4, t5, t6⟩ := ti
  refine ⟨t1, fun q hq => ?_, fun x hx => ?_, t4, adT_b t5 ha, by omega⟩
  · by_cases r : q = p
    · rw [r, hc, t2 p hp, adT_s]
    · have ne : ¬ e q = e p := fun z => by
        rcases Nat.lt_or_ge q p with y | y
        · have := t1 q p y hp; omega
        · have := t1 p q (by omega) hq; omega
      rw [hn q r, t2 q hq, adT_n ne]
  · by_cases r : x = e p
    · exact ⟨p, hp, r.symm⟩
    · rw [adT_n r] at hx
      exact t3 x hx
theorem TI.ins {n B p : Nat} {e c e' c' : Nat → Int} {T : Int → Int} {a x : Int} (ti : TI n e c T B) (ha : -1 ≤ a ∧ a ≤ 1) (hx : inR x) (fn : fnb n e x p) (hne : p = n ∨ ¬ e p = x) (h1 : ∀ q, q < p → e' q = e q ∧ c' q = c q) (h2 : ∀ q, p ≤ q → q < n → e' (q + 1) = e q ∧ c' (q + 1) = c q) (h3 : e' p = x) (h4 : c' p = a) : TI (n + 1) e' c' (adT T x a) (B + 1) := by
  obtain ⟨t1, t2, t3, t4, t5, t6⟩ := ti
  obtain ⟨f1, f2, f3⟩ := fn
  have gt : ∀ q, p ≤ q → q < n → x < e q := fun q q1 q2 => by
    have a1 := f3 p (Nat.le_refl _) (by omega)
    have a2 : ¬ e p = x := hne.elim (fun z => absurd q2 (by omega)) id
    rcases Nat.eq_or_lt_of_le q1 with z | z
    · rw [← z]; omega
    · have := t1 p q z q2; omega
  have T0 : T x = 0 := by
    by_cases z : T x = 0
    · exact z
    · obtain ⟨q, q1, q2⟩ := t3 x z
      rcases Nat.lt_or_ge q p with y | y
      · have := f2 q y; omega
      · have := gt q y q1; omega
  have cs : ∀ q, q < n + 1 → (q < p ∧ e' q = e q ∧ c' q = c q) ∨ q = p ∨ (∃ r, q = r + 1 ∧ p ≤ r ∧ r < n ∧ e' q = e r ∧ c' q = c r) := fun q hq => by
    rcases Nat.lt_or_ge q p with y | y
    · exact Or.inl ⟨y, h1 q y⟩
    · by_cases z : q = p
      · exact Or.inr (Or.inl z)
      · have r := h2 (q - 1) (by omega) (by omega)
        rw [show q - 1 + 1 = q by omega] at r
        exact Or.inr (Or.inr ⟨q - 1, by omega, by omega, by omega, r⟩)
  refine ⟨fun q r hqr hr => ?_, fun q hq => ?_, fun y hy => ?_, fun q hq => ?_, adT_b t5 ha, by omega⟩
  · rcases cs q (by omega) with ⟨a1, a2, _⟩ | a1 | ⟨u, a1, a2, a3, a4, _⟩
    · rcases cs r hr with ⟨b1, b2, _⟩ | b1 | ⟨v, b1, b2, b3, b4, _⟩
      · rw [a2, b2]; exact t1 q r hqr (by omega)
      · rw [a2, b1, h3]; exact f2 q a1
      · rw [a2, b4]; have := f2 q a1; have := gt v b2 b3; omega
    · rcases cs r hr with ⟨b1, b2, _⟩ | b1 | ⟨v, b1, b2, b3, b4, _⟩
      · exact absurd b1 (by omega)
      · exact absurd b1 (by omega)
      · rw [a1, h3, b4]; exact gt v b2 b3
    · rcases cs r hr with ⟨b1, b2, _⟩ | b1 | ⟨v, b1, b2, b3, b4, _⟩
      · exact absurd b1 (by omega)
      · exact absurd b1 (by omega)
      · rw [a4, b4]; exact t1 u v (by omega) b3
  · rcases cs q hq with ⟨a1, a2, a3⟩ | a1 | ⟨u, a1, a2, a3, a4, a5⟩
    · have := f2 q a1
      rw [a3, a2, adT_n (by omega)]; exact t2 q (by omega)
    · rw [a1, h3, h4, adT_s, T0]; omega
    · have := gt u a2 a3
      rw [a5, a4, adT_n (by omega)]; exact t2 u a3
  · by_cases z : y = x
    · exact ⟨p, by omega, by rw [h3, z]⟩
    · rw [adT_n z] at hy
      obtain ⟨q, q1, q2⟩ := t3 y hy
      rcases Nat.lt_or_ge q p with u | u
      · exact ⟨q, by omega, by rw [(h1 q u).1]; exact q2⟩
      · exact ⟨q + 1, by omega, by rw [(h2 q u q1).1]; exact q2⟩
  · rcases cs q hq with ⟨a1, a2, _⟩ | a1 | ⟨u, a1, a2, a3, a4, _⟩
    · rw [a2]; exact t4 q (by omega)
    · rw [a1, h3]; exact hx
    · rw [a4]; exact t4 u a3
/-- the world while the tally is filled -/
def TZ (C : Nat → Int) (A : Nat → Nat → Int) (Ls : Nat → List Nat) (I0 : Nat → Nat → Int) (F0 : Nat → Nat → Nat → Int) (cpb : Nat → Nat) (ad0 : AD) (h1 : AH) (ow0 : OW) (h0 : AH) (T : Int → Int) (B : Nat) (ad : AD) (ow : OW) (K : KK) (I : Nat → Nat → Int) (F : Nat → Nat → Nat → Int) (cp : Nat → Nat) (n : Nat) (h : AH) : Prop := WD ad ow K h ∧ Fo ow0 h0 ow h ∧ CI ad K h.2.2.2.1 C A I F Ls cp ∧ TI n (F 2 0) (F 2 1) T B ∧ I 4 0 = (n : Int) ∧ n ≤ cp 2000 ∧ cp 2000 ≤ 1024 ∧ cpb 2000 ≤ cp 2000 ∧ (∀ j, ¬ j = 4 → I j = I0 j) ∧ (∀ j, ¬ j = 2 → F j = F0 j) ∧ (∀ j, ¬ j = 2000 → cp j = cpb j) ∧ (∀ k i, ¬ k = 13 → ad k i = ad0 k i) ∧ h.2.1 ≤ h1.2.1 + (cp 2000 - cpb 2000) ∧ h.2.2.1 ≤ h1.2.2.1 + 4 * (cp 2000 - cpb 2000)
theorem tk_tail {ow0 : OW} {h0 : AH} {n m p x : Nat} {a x1 : Int} {f1 f2 : AV} {e c : Nat → Int} (w : WD ad ow K h) (fo : Fo ow0 h0 ow h) (ty : K 1 0 = some (.inr (1, [aR (ad 13 0), aR (ad 13 1), aI (n : Int)])) ∧ K 13 0 = some (inCell m e) ∧ K 13 1 = some (inCell m c)) (hx : K 6 x = some (.inr (6, [f1, f2, aI x1, aI a]))) (hp : p < m) (k : ∀ K' h' c', WD ad ow K' h' → Fo ow0 h0 ow h' → (∀ k i, ¬ (k = 13 ∧ i = 1) → K' k i = K k i) → K' 13 1 = some (inCell m c') → c' p = c p + a → (∀ q, ¬ q = p → c' q = c q) → h'.2 = h.2 → Q (.inl none) h') : Rn 54 52 [some (aR (ad 1 0)), some (aR (ad 6 x)), some (aI (p : Int))] [] h Q := by
  obtain ⟨t1, t2, t3⟩ := ty
  refine x_aload_n k_54_52 rfl ?_
  refine x_get k_54_53 (w.at t1) rfl ?_
  refine x_iload_n k_54_56 rfl ?_
  refine x_dup2 k_54_57 rfl ?_
  refine y_iaload (m := p) k_54_58 (w.at t3) (Or.inl rfl) rfl hp ?_
  refine x_aload_n k_54_59 rfl ?_
  refine x_get k_54_60 (w.at hx) rfl ?_
  refine x_iadd k_54_63 ?_
  refine y_iastore (m := p) k_54_64 (w.at t3) rfl hp ?_
  refine x_return k_54_65 ?_
  exact k _ _ (up c p (c p + a)) (w.put (e := inCell m (up c p (c p + a))) t3) (fo.tr (Fo.put (e := inCell m (up c p (c p + a))) w t3)) (fun k i n1 => p2_n n1) p2_s up_s (fun q hq => up_n hq) rfl
theorem k_take {I0 : Nat → Nat → Int} {F0 : Nat → Nat → Nat → Int} {cpb : Nat → Nat} {ad0 : AD} {h1 : AH} {ow0 : OW} {h0 : AH} {T : Int → Int} {B n : Nat} (b : RB C A) (tz : TZ C A Ls I0 F0 cpb ad0 h1 ow0 h0 T B ad ow K I F cp n h) (hB : B < 512) {t x : Nat} (ht : t < (C 3).toNat) (hx : x ∈ Ls (501 + 2 * t)) (hin : inR (A 12 x)) (k : ∀ ad ow K I F cp n h, TZ C A Ls I0 F0 cpb ad0 h1 ow0 h0 (adT T (A 12 x) (A 11 x)) (B + 1) ad ow K I F cp n h → Q (.inl none) h) : Rn 54 0 (entL 54 [aR (ad 1 0), aR (ad 6 x)]) [] h Q := by
  show Rn 54 0 [some (aR (ad 1 0)), some (aR (ad 6 x)), none] [] h Q
  have b11 := b.v11 x
  obtain ⟨w, fo, g, ti, hn, hnm, hm, hmb, hI, hF, hcp, hA, hc1, hc2⟩ := tz
  have ti0 := ti
  obtain ⟨t1, t2, t3, t4, t5, t6⟩ := ti
  obtain ⟨y1, y2, y3, y4⟩ := g.tal
  have y1' : K 1 0 = some (.inr (1, [aR (ad 13 0), aR (ad 13 1), aI (n : Int)])) := by rw [y1]; unfold tyCell; rw [hn]
  have hch := g.ch ht hx
  have fin : ∀ ad' ow' K' (e' c' : Nat → Int) (n' m' : Nat) h', WD ad' ow' K' h' → Fo ow0 h0 ow' h' → (∀ k i, ¬ (k = 1 ∧ i = 0) → ¬ (k = 13 ∧ i < 2) → K' k i = K k i ∧ ad' k i = ad k i) → ad' 1 0 = ad 1 0 → K' 1 0 = some (.inr (1, [aR (ad' 13 0), aR (ad' 13 1), aI (n' : Int)])) → K' 13 0 = some (inCell m' e') → K' 13 1 = some (inCell m' c') → TI n' e' c' (adT T (A 12 x) (A 11 x)) (B + 1) → n' ≤ m' → m' ≤ 1024 → cp 2000 ≤ m' → h'.2.1 ≤ h.2.1 + (m' - cp 2000) → h'.2.2.1 ≤ h.2.2.1 + 4 * (m' - cp 2000) → h'.2.2.2 = h.2.2.2 → Q (.inl none) h' := by
    intro ad' ow' K' e' c' n' m' h' q1 q2 q3 q4 q5 q6 q7 q8 q9 q10 q11 q12 q13 q14
    have ez : h'.2.2.2.1 = h.2.2.2.1 := by rw [q14]
    have i2 : up I 4 (up (I 4) 0 (n' : Int)) 4 0 = (n' : Int) := show up (I 4) 0 (n' : Int) 0 = (n' : Int) from up_s
    refine k ad' ow' K' (up I 4 (up (I 4) 0 (n' : Int))) (up F 2 (up (up (F 2) 0 e') 1 c')) (up cp 2000 m') n' h' ⟨q1, q2, ?_, ?_, i2, ?_, ?_, ?_, fun j hj => (up_n hj).trans (hI j hj), fun j hj => (up_n hj).trans (hF j hj), fun j hj => (up_n hj).trans (hcp j hj), fun k i hk => ?_, ?_, ?_⟩
    · rw [ez]
      refine g.tly b q3 q4 ⟨?_, ?_, ?_, ?_⟩ (fun j hj => up_n hj) (fun j hj => up_n hj) (fun j hj => up_n hj)
      · rw [q5]; unfold tyCell; rw [i2]
      · rw [up_s]; exact q6
      · rw [up_s]; exact q7
      · rw [up_s]; omega
    · exact q8
    · rw [up_s]; exact q9
    · rw [up_s]; exact q10
    · rw [up_s]; omega
    · by_cases h10 : k = 1 ∧ i = 0
      · obtain ⟨rfl, rfl⟩ := h10
        rw [q4]; exact hA 1 0 (by decide)
      · rw [(q3 k i h10 (fun z => hk z.1)).2]; exact hA k i hk
    · rw [up_s]; omega
    · rw [up_s]; omega
  refine x_aload_n k_54_0 rfl ?_
  refine x_aload_n k_54_1 rfl ?_
  refine x_get k_54_2 (w.at hch) rfl ?_
  refine x_call2 k_54_5 (Nat.le_of_ble_eq_true rfl) (rcv_1 (w.at y1')) (Nat.le_of_ble_eq_true rfl) ?_
  refine k_fnb (w.at y1') (w.at y2) hnm (by omega) hin t4 t1 (fun p fn => bh_1 ?_)
  have fn0 := fn
  obtain ⟨f1, f2, f3⟩ := fn
  refine x_is2n k_54_8 rfl ?_
  have room : (p = n ∨ ¬ F 2 0 p = A 12 x) → Rn 54 30 [some (aR (ad 1 0)), some (aR (ad 6 x)), some (aI (p : Int))] [] h Q := by
    intro hne
    refine x_aload_n k_54_30 rfl ?_
    refine x_iload_n k_54_31 rfl ?_
    refine x_call2 k_54_32 (Nat.le_of_ble_eq_true rfl) (rcv_1 (w.at y1')) (Nat.le_of_ble_eq_true rfl) ?_
    refine k_room w fo ⟨y1', y2, y3⟩ hnm y4 (by omega) f1 (fun ad' ow' K' h' m' e' c' q1 q2 q3 q4 q5 q6 q7 q8 q9 q10 q11 q12 q13 => bh_v ?_)
    obtain ⟨r1, r2, r3⟩ := q5
    have e6 : ad' 6 x = ad 6 x := (q3 6 x (by omega) (by omega)).2
    have k6 : K' 6 x = some (chCell ad A t x) := by rw [(q3 6 x (by omega) (by omega)).1]; exact hch
    rw [← q4, ← e6]
    refine x_aload_n k_54_35 rfl ?_
    refine x_get k_54_36 (q1.at r1) rfl ?_
    refine x_iload_n k_54_39 rfl ?_
    refine x_aload_n k_54_40 rfl ?_
    refine x_get k_54_41 (q1.at k6) rfl ?_
    refine y_iastore (m := p) k_54_44 (q1.at r2) rfl (by omega) ?_
    have w2 := q1.put (e := inCell m' (up e' p (A 12 x))) r2
    have fo2 := q2.tr (Fo.put (e := inCell m' (up e' p (A 12 x))) q1 r2)
    have s1 : p2 K' 13 0 (inCell m' (up e' p (A 12 x))) 1 0 = some (.inr (1, [aR (ad' 13 0), aR (ad' 13 1), aI ((n + 1 : Nat) : Int)])) := by rw [p2_n (by omega)]; exact r1
    have s3 : p2 K' 13 0 (inCell m' (up e' p (A 12 x))) 13 1 = some (inCell m' c') := by rw [p2_n (by omega)]; exact r3
    refine x_aload_n k_54_45 rfl ?_
    refine x_get k_54_46 (w2.at s1) rfl ?_
    refine x_iload_n k_54_49 rfl ?_
    refine x_iconst k_54_50 ?_
    refine y_iastore (m := p) k_54_51 (w2.at s3) rfl (by omega) ?_
    have w3 := w2.put (e := inCell m' (up c' p 0)) s3
    have fo3 := fo2.tr (Fo.put (e := inCell m' (up c' p 0)) w2 s3)
    obtain ⟨K3, eK3⟩ : ∃ f : KK, f = p2 (p2 K' 13 0 (inCell m' (up e' p (A 12 x)))) 13 1 (inCell m' (up c' p 0)) := ⟨_, rfl⟩
    obtain ⟨h3, eh3⟩ : ∃ f : AH, f = hput (hput h' (ad' 13 0) (inCell m' (up e' p (A 12 x)))) (ad' 13 1) (inCell m' (up c' p 0)) := ⟨_, rfl⟩
    rw [← eK3, ← eh3] at w3
    rw [← eh3] at fo3
    show Rn 54 52 [some (aR (ad' 1 0)), some (aR (ad' 6 x)), some (aI (p : Int))] [] (hput (hput h' (ad' 13 0) (inCell m' (up e' p (A 12 x)))) (ad' 13 1) (inCell m' (up c' p 0))) Q
    rw [← eh3]
    have eh32 : h3.2 = h'.2 := by rw [eh3]; rfl
    refine tk_tail (n := n + 1) (m := m') (e := up e' p (A 12 x)) (c := up c' p 0) w3 fo3 ⟨?_, ?_, ?_⟩ (f1 := aR (ad 4 t)) (f2 := aR (ad 3 (A 10 x).toNat)) (x1 := A 12 x) (a := A 11 x) ?_ (by omega) (fun K4 h4 c4 v1 v2 v3 v4 v5 v6 v7 => ?_)
    · rw [eK3, p2_n (by omega)]; exact s1
    · rw [eK3, p2_n (by omega)]; exact p2_s
    · rw [eK3]; exact p2_s
    · rw [eK3, p2_n (by omega), p2_n (by omega)]; exact k6
    · refine fin ad' ow' K4 (up e' p (A 12 x)) c4 (n + 1) m' h4 v1 v2 (fun k i n1 n2 => ⟨?_, (q3 k i n1 n2).2⟩) q4 ?_ ?_ v4 (ti0.ins ⟨by omega, by omega⟩ hin fn0 hne (fun q hq => ?_) (fun q h1 h2 => ?_) up_s (by rw [v5, up_s]; omega)) q8 (by omega) (by omega) (by rw [v7, eh32]; exact q11) (by rw [v7, eh32]; exact q12) (by rw [v7, eh32]; exact q13)
      · rw [v3 k i (fun z => n2 ⟨z.1, by omega⟩), eK3, p2_n (fun z => n2 ⟨z.1, by omega⟩), p2_n (fun z => n2 ⟨z.1, by omega⟩)]
        exact (q3 k i n1 n2).1
      · rw [v3 1 0 (by omega), eK3, p2_n (by omega)]; exact s1
      · rw [v3 13 0 (by omega), eK3, p2_n (by omega)]; exact p2_s
      · rw [up_n (by omega), v6 q (by omega), up_n (by omega)]; exact q6 q hq
      · rw [up_n (by omega), v6 (q + 1) (by omega), up_n (by omega)]; exact q7 q h1 h2
  refine x_iload_n k_54_9 rfl ?_
  refine x_aload_n k_54_10 rfl ?_
  refine x_get k_54_11 (w.at y1') rfl ?_
  refine x_icmpeq (t := 30) k_54_14 rfl (by show inR (p : Int) ∧ inR (n : Int); omega) (fun c14 => ?_) (fun c14 => ?_)
  · have c14 : (p : Int) = n := c14
    exact room (Or.inl (by omega))
  · have c14 : ¬ (p : Int) = n := c14
    refine x_aload_n k_54_17 rfl ?_
    refine x_get k_54_18 (w.at y1') rfl ?_
    refine x_iload_n k_54_21 rfl ?_
    refine y_iaload (m := p) k_54_22 (w.at y2) (Or.inl rfl) rfl (by omega) ?_
    refine x_aload_n k_54_23 rfl ?_
    refine x_get k_54_24 (w.at hch) rfl ?_
    refine x_icmpeq (t := 52) k_54_27 rfl ⟨t4 p (by omega), hin⟩ (fun c27 => ?_) (fun c27 => ?_)
    · have c27 : F 2 0 p = A 12 x := c27
      refine tk_tail (n := n) (m := cp 2000) (e := F 2 0) (c := F 2 1) w fo ⟨y1', y2, y3⟩ (f1 := aR (ad 4 t)) (f2 := aR (ad 3 (A 10 x).toNat)) (x1 := A 12 x) (a := A 11 x) hch (by omega) (fun K4 h4 c4 v1 v2 v3 v4 v5 v6 v7 => ?_)
      have tu := ti0.upd (p := p) (c' := c4) (a := A 11 x) ⟨by omega, by omega⟩ (by omega) v5 v6
      rw [c27] at tu
      exact fin ad ow K4 (F 2 0) c4 n (cp 2000) h4 v1 v2 (fun k i n1 n2 => ⟨v3 k i (fun z => n2 ⟨z.1, by omega⟩), rfl⟩) rfl (by rw [v3 1 0 (by omega)]; exact y1') (by rw [v3 13 0 (by omega)]; exact y2) v4 tu hnm hm (Nat.le_refl _) (by rw [v7]; omega) (by rw [v7]; omega) (by rw [v7])
    · exact room (Or.inr c27)
end C38
