section C22
variable {ad : AD} {ow : OW} {K : KK} {h : AH} {C : Nat → Int} {A I : Nat → Nat → Int} {F : Nat → Nat → Nat → Int} {Ls : Nat → List Nat} {cp : Nat → Nat} {Q : AR → AH → Prop}
/-- the value of a write -/
theorem CI.wv {z t x : Nat} {v : Int} (g : CI ad K z C A I F Ls cp) (lt : LT C A Ls) (ht : t < (C 3).toNat) (hx : x ∈ Ls (500 + 2 * t)) : CI ad (p2 K 5 x (.inr (5, [aR (ad 4 t), aR (ad 3 (A 10 x).toNat), aL v]))) z C A (up I 1 (up (I 1) x v)) F Ls cp := by
  obtain ⟨g1, g2, g3, g4, g5, g6, g7, g8, g9, g10, g11, g12, g13, g14, g15, g16, g17⟩ := g
  refine ⟨g1, g2, g3, g4, g5, g6, g7, fun t' k ht' hk => ?_, g9, g10, fun id hi => (g11 id hi).cls (by decide) (by decide), g12, g13, g14, g15, g16, g17⟩
  unfold wrCell
  by_cases hn : k = x
  · subst hn
    have h1 := (lt.1 t' k ht' hk).1
    have h2 := (lt.1 t k ht hx).1
    have e : t' = t := by omega
    subst e
    rw [p2_s, show up I 1 (up (I 1) k v) 1 k = v from up_s]
  · rw [p2_n (fun q => hn q.2), g8 t' k ht' hk, show up I 1 (up (I 1) x v) 1 k = I 1 k from up_n hn]
    rfl
theorem wvgo {i pc t x : Nat} {L : AL} {st : List AV} {ow0 : OW} {h0 : AH} (w : WD ad ow K h) (fo : Fo ow0 h0 ow h) (g : CI ad K h.2.2.2.1 C A I F Ls cp) (lt : LT C A Ls) (ht : t < (C 3).toNat) (hx : x ∈ Ls (500 + 2 * t)) (v : Int) (k : ∀ K' h', WD ad ow K' h' → Fo ow0 h0 ow h' → CI ad K' h'.2.2.2.1 C A (up I 1 (up (I 1) x v)) F Ls cp → h'.2 = h.2 → Rn i pc L st h' Q) : Rn i pc L st (hput h (ad 5 x) (.inr (5, [aR (ad 4 t), aR (ad 3 (A 10 x).toNat), aL v]))) Q := k _ _ (w.put (g.wr ht hx)) (fo.tr (Fo.put w (g.wr ht hx))) (g.wv lt ht hx) rfl
end C22
