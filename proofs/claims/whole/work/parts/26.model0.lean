/-! booleans as ints -/
def bI (b : Bool) : Int := if b then 1 else 0
theorem bI_r (b : Bool) : inR (bI b) := by cases b <;> decide
theorem bI_01 (b : Bool) : bI b = 0 ∨ bI b = 1 := by cases b <;> simp [bI]
theorem x_ifeq_b {i pc len t : Nat} {L : AL} {st : List AV} {h : AH} {Q : AR → AH → Prop} {off : Int} {b : Bool} (hk : cod i pc = some (.inl (.ifCond .eq off), len)) (ht : tg pc off = t) (kt : b = false → Rn i t L st h Q) (kf : b = true → Rn i (pc + len) L st h Q) : Rn i pc L (aI (bI b) :: st) h Q :=
  x_ifeq hk ht (bI_r b) (fun q => kt (by cases b; rfl; exact absurd q (by decide))) (fun q => kf (by cases b; exact absurd rfl q; rfl))
theorem x_ifne_b {i pc len t : Nat} {L : AL} {st : List AV} {h : AH} {Q : AR → AH → Prop} {off : Int} {b : Bool} (hk : cod i pc = some (.inl (.ifCond .ne off), len)) (ht : tg pc off = t) (kt : b = true → Rn i t L st h Q) (kf : b = false → Rn i (pc + len) L st h Q) : Rn i pc L (aI (bI b) :: st) h Q :=
  x_ifne hk ht (bI_r b) (fun q => kt (by cases b; exact absurd rfl q; rfl)) (fun q => kf (by cases b; rfl; exact absurd (by decide : ¬ bI true = 0) q))
/-! THE REFERENCE's memory: C its seven ints, A its arrays (22, in the order of the fields) -/
def mfs (ad : Nat → Nat) (C : Nat → Int) : List AV := [aI (C 0), aI (C 1), aI (C 2), aI (C 3), aI (C 4), aI (C 5), aI (C 6), aR (ad 0), aR (ad 1), aR (ad 2), aR (ad 3), aR (ad 4), aR (ad 5), aR (ad 6), aR (ad 7), aR (ad 8), aR (ad 9), aR (ad 10), aR (ad 11), aR (ad 12), aR (ad 13), aR (ad 14), aR (ad 15), aR (ad 16), aR (ad 17), aR (ad 18), aR (ad 19), aR (ad 20), aR (ad 21)]
def mtag (k : Nat) : Nat := if k = 2 then 2 else if k = 12 then 1 else 0
def mlen (k : Nat) : Nat := [200, 200, 200, 500, 500, 500, 3000, 500, 500, 4200, 4200, 4200, 4200, 36, 6, 3006, 16000, 16000, 16000, 16000, 3000, 6].getD k 0
def marr (k : Nat) (f : Nat → Int) : AA := if k = 12 then .inr (.inl f) else .inl f
def MP (am : Nat) (ad : Nat → Nat) (C : Nat → Int) (A : Nat → Nat → Int) (h : AH) : Prop := h.1 am = some (.inr (9, mfs ad C)) ∧ (∀ k, k < 22 → h.1 (ad k) = some (.inl (mtag k, mlen k, marr k (A k)))) ∧ ∀ j k, j < 22 → k < 22 → ad j = ad k → j = k
/-- nothing but the reference's own cells has changed -/
def Mv (am : Nat) (ad : Nat → Nat) (h h' : AH) : Prop := h'.2 = h.2 ∧ ∀ b, b ≠ am → (∀ k, k < 22 → b ≠ ad k) → h'.1 b = h.1 b
section MPs
variable {am : Nat} {ad : Nat → Nat} {C : Nat → Int} {A : Nat → Nat → Int} {h h' h2 : AH}
theorem Mv.rf : Mv am ad h h := ⟨rfl, fun _ _ _ => rfl⟩
theorem Mv.tr (a : Mv am ad h h') (b : Mv am ad h' h2) : Mv am ad h h2 := ⟨b.1.trans a.1, fun q w1 w2 => (b.2 q w1 w2).trans (a.2 q w1 w2)⟩
theorem Mv.mo {e : AE} : Mv am ad h (hput h am e) := ⟨rfl, fun q w1 _ => hput_n w1⟩
theorem Mv.ma {e : AE} {k : Nat} (hk : k < 22) : Mv am ad h (hput h (ad k) e) := ⟨rfl, fun q _ w2 => hput_n (w2 k hk)⟩
theorem MP.ne (M : MP am ad C A h) {k : Nat} (hk : k < 22) : ad k ≠ am := fun q => by
  have h1 := M.2.1 k hk
  rw [q, M.1] at h1
  cases h1
theorem MP.put (M : MP am ad C A h) {C' : Nat → Int} {fs : List AV} (hf : fs = mfs ad C') : MP am ad C' A (hput h am (.inr (9, fs))) :=
  ⟨by rw [hput_s, hf], fun k hk => by rw [hput_n (M.ne hk)]; exact M.2.1 k hk, M.2.2⟩
theorem MP.sto (M : MP am ad C A h) {k : Nat} (hk : k < 22) (f : Nat → Int) : MP am ad C (up A k f) (hput h (ad k) (.inl (mtag k, mlen k, marr k f))) := by
  refine ⟨by rw [hput_n (M.ne hk).symm]; exact M.1, fun j hj => ?_, M.2.2⟩
  by_cases hjk : j = k
  · subst hjk
    rw [hput_s]
    simp [up]
  · rw [hput_n (fun q => hjk (M.2.2 j k hj hk q))]
    simpa [up, hjk] using M.2.1 j hj
theorem MP.mv (M : MP am ad C A h) {C' : Nat → Int} {A' : Nat → Nat → Int} (hc : ∀ k, k < 7 → C k = C' k) (ha : ∀ k, k < 22 → A k = A' k) : MP am ad C' A' h := by
  refine ⟨?_, fun k hk => by rw [← ha k hk]; exact M.2.1 k hk, M.2.2⟩
  rw [M.1]
  simp only [mfs, hc 0 (by decide), hc 1 (by decide), hc 2 (by decide), hc 3 (by decide), hc 4 (by decide), hc 5 (by decide), hc 6 (by decide)]
theorem MP.a0 (M : MP am ad C A h) : h.1 (ad 0) = some (.inl (0, 200, .inl (A 0))) := M.2.1 0 (by decide)
theorem MP.s0 (M : MP am ad C A h) (f : Nat → Int) : MP am ad C (up A 0 f) (hput h (ad 0) (.inl (0, 200, .inl f))) := M.sto (k := 0) (by decide) f
theorem MP.a1 (M : MP am ad C A h) : h.1 (ad 1) = some (.inl (0, 200, .inl (A 1))) := M.2.1 1 (by decide)
theorem MP.s1 (M : MP am ad C A h) (f : Nat → Int) : MP am ad C (up A 1 f) (hput h (ad 1) (.inl (0, 200, .inl f))) := M.sto (k := 1) (by decide) f
theorem MP.a2 (M : MP am ad C A h) : h.1 (ad 2) = some (.inl (2, 200, .inl (A 2))) := M.2.1 2 (by decide)
theorem MP.s2 (M : MP am ad C A h) (f : Nat → Int) : MP am ad C (up A 2 f) (hput h (ad 2) (.inl (2, 200, .inl f))) := M.sto (k := 2) (by decide) f
theorem MP.a3 (M : MP am ad C A h) : h.1 (ad 3) = some (.inl (0, 500, .inl (A 3))) := M.2.1 3 (by decide)
theorem MP.s3 (M : MP am ad C A h) (f : Nat → Int) : MP am ad C (up A 3 f) (hput h (ad 3) (.inl (0, 500, .inl f))) := M.sto (k := 3) (by decide) f
theorem MP.a4 (M : MP am ad C A h) : h.1 (ad 4) = some (.inl (0, 500, .inl (A 4))) := M.2.1 4 (by decide)
theorem MP.s4 (M : MP am ad C A h) (f : Nat → Int) : MP am ad C (up A 4 f) (hput h (ad 4) (.inl (0, 500, .inl f))) := M.sto (k := 4) (by decide) f
theorem MP.a5 (M : MP am ad C A h) : h.1 (ad 5) = some (.inl (0, 500, .inl (A 5))) := M.2.1 5 (by decide)
theorem MP.s5 (M : MP am ad C A h) (f : Nat → Int) : MP am ad C (up A 5 f) (hput h (ad 5) (.inl (0, 500, .inl f))) := M.sto (k := 5) (by decide) f
theorem MP.a6 (M : MP am ad C A h) : h.1 (ad 6) = some (.inl (0, 3000, .inl (A 6))) := M.2.1 6 (by decide)
theorem MP.s6 (M : MP am ad C A h) (f : Nat → Int) : MP am ad C (up A 6 f) (hput h (ad 6) (.inl (0, 3000, .inl f))) := M.sto (k := 6) (by decide) f
theorem MP.a7 (M : MP am ad C A h) : h.1 (ad 7) = some (.inl (0, 500, .inl (A 7))) := M.2.1 7 (by decide)
theorem MP.s7 (M : MP am ad C A h) (f : Nat → Int) : MP am ad C (up A 7 f) (hput h (ad 7) (.inl (0, 500, .inl f))) := M.sto (k := 7) (by decide) f
theorem MP.a8 (M : MP am ad C A h) : h.1 (ad 8) = some (.inl (0, 500, .inl (A 8))) := M.2.1 8 (by decide)
theorem MP.s8 (M : MP am ad C A h) (f : Nat → Int) : MP am ad C (up A 8 f) (hput h (ad 8) (.inl (0, 500, .inl f))) := M.sto (k := 8) (by decide) f
theorem MP.a9 (M : MP am ad C A h) : h.1 (ad 9) = some (.inl (0, 4200, .inl (A 9))) := M.2.1 9 (by decide)
theorem MP.s9 (M : MP am ad C A h) (f : Nat → Int) : MP am ad C (up A 9 f) (hput h (ad 9) (.inl (0, 4200, .inl f))) := M.sto (k := 9) (by decide) f
theorem MP.a10 (M : MP am ad C A h) : h.1 (ad 10) = some (.inl (0, 4200, .inl (A 10))) := M.2.1 10 (by decide)
theorem MP.s10 (M : MP am ad C A h) (f : Nat → Int) : MP am ad C (up A 10 f) (hput h (ad 10) (.inl (0, 4200, .inl f))) := M.sto (k := 10) (by decide) f
theorem MP.a11 (M : MP am ad C A h) : h.1 (ad 11) = some (.inl (0, 4200, .inl (A 11))) := M.2.1 11 (by decide)
theorem MP.s11 (M : MP am ad C A h) (f : Nat → Int) : MP am ad C (up A 11 f) (hput h (ad 11) (.inl (0, 4200, .inl f))) := M.sto (k := 11) (by decide) f
theorem MP.a12 (M : MP am ad C A h) : h.1 (ad 12) = some (.inl (1, 4200, .inr (.inl (A 12)))) := M.2.1 12 (by decide)
theorem MP.s12 (M : MP am ad C A h) (f : Nat → Int) : MP am ad C (up A 12 f) (hput h (ad 12) (.inl (1, 4200, .inr (.inl f)))) := M.sto (k := 12) (by decide) f
theorem MP.a13 (M : MP am ad C A h) : h.1 (ad 13) = some (.inl (0, 36, .inl (A 13))) := M.2.1 13 (by decide)
theorem MP.s13 (M : MP am ad C A h) (f : Nat → Int) : MP am ad C (up A 13 f) (hput h (ad 13) (.inl (0, 36, .inl f))) := M.sto (k := 13) (by decide) f
theorem MP.a14 (M : MP am ad C A h) : h.1 (ad 14) = some (.inl (0, 6, .inl (A 14))) := M.2.1 14 (by decide)
theorem MP.s14 (M : MP am ad C A h) (f : Nat → Int) : MP am ad C (up A 14 f) (hput h (ad 14) (.inl (0, 6, .inl f))) := M.sto (k := 14) (by decide) f
theorem MP.a15 (M : MP am ad C A h) : h.1 (ad 15) = some (.inl (0, 3006, .inl (A 15))) := M.2.1 15 (by decide)
theorem MP.s15 (M : MP am ad C A h) (f : Nat → Int) : MP am ad C (up A 15 f) (hput h (ad 15) (.inl (0, 3006, .inl f))) := M.sto (k := 15) (by decide) f
theorem MP.a16 (M : MP am ad C A h) : h.1 (ad 16) = some (.inl (0, 16000, .inl (A 16))) := M.2.1 16 (by decide)
theorem MP.s16 (M : MP am ad C A h) (f : Nat → Int) : MP am ad C (up A 16 f) (hput h (ad 16) (.inl (0, 16000, .inl f))) := M.sto (k := 16) (by decide) f
theorem MP.a17 (M : MP am ad C A h) : h.1 (ad 17) = some (.inl (0, 16000, .inl (A 17))) := M.2.1 17 (by decide)
theorem MP.s17 (M : MP am ad C A h) (f : Nat → Int) : MP am ad C (up A 17 f) (hput h (ad 17) (.inl (0, 16000, .inl f))) := M.sto (k := 17) (by decide) f
theorem MP.a18 (M : MP am ad C A h) : h.1 (ad 18) = some (.inl (0, 16000, .inl (A 18))) := M.2.1 18 (by decide)
theorem MP.s18 (M : MP am ad C A h) (f : Nat → Int) : MP am ad C (up A 18 f) (hput h (ad 18) (.inl (0, 16000, .inl f))) := M.sto (k := 18) (by decide) f
theorem MP.a19 (M : MP am ad C A h) : h.1 (ad 19) = some (.inl (0, 16000, .inl (A 19))) := M.2.1 19 (by decide)
theorem MP.s19 (M : MP am ad C A h) (f : Nat → Int) : MP am ad C (up A 19 f) (hput h (ad 19) (.inl (0, 16000, .inl f))) := M.sto (k := 19) (by decide) f
theorem MP.a20 (M : MP am ad C A h) : h.1 (ad 20) = some (.inl (0, 3000, .inl (A 20))) := M.2.1 20 (by decide)
theorem MP.s20 (M : MP am ad C A h) (f : Nat → Int) : MP am ad C (up A 20 f) (hput h (ad 20) (.inl (0, 3000, .inl f))) := M.sto (k := 20) (by decide) f
theorem MP.a21 (M : MP am ad C A h) : h.1 (ad 21) = some (.inl (0, 6, .inl (A 21))) := M.2.1 21 (by decide)
theorem MP.s21 (M : MP am ad C A h) (f : Nat → Int) : MP am ad C (up A 21 f) (hput h (ad 21) (.inl (0, 6, .inl f))) := M.sto (k := 21) (by decide) f
theorem MP.c0 (M : MP am ad C A h) (x : Int) : MP am ad (up C 0 x) A (hput h am (.inr (9, (mfs ad C).set 0 (aI x)))) := M.put (by simp [mfs, up])
theorem MP.c1 (M : MP am ad C A h) (x : Int) : MP am ad (up C 1 x) A (hput h am (.inr (9, (mfs ad C).set 1 (aI x)))) := M.put (by simp [mfs, up])
theorem MP.c2 (M : MP am ad C A h) (x : Int) : MP am ad (up C 2 x) A (hput h am (.inr (9, (mfs ad C).set 2 (aI x)))) := M.put (by simp [mfs, up])
theorem MP.c3 (M : MP am ad C A h) (x : Int) : MP am ad (up C 3 x) A (hput h am (.inr (9, (mfs ad C).set 3 (aI x)))) := M.put (by simp [mfs, up])
theorem MP.c4 (M : MP am ad C A h) (x : Int) : MP am ad (up C 4 x) A (hput h am (.inr (9, (mfs ad C).set 4 (aI x)))) := M.put (by simp [mfs, up])
theorem MP.c5 (M : MP am ad C A h) (x : Int) : MP am ad (up C 5 x) A (hput h am (.inr (9, (mfs ad C).set 5 (aI x)))) := M.put (by simp [mfs, up])
theorem MP.c6 (M : MP am ad C A h) (x : Int) : MP am ad (up C 6 x) A (hput h am (.inr (9, (mfs ad C).set 6 (aI x)))) := M.put (by simp [mfs, up])
end MPs
