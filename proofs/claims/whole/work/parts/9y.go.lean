theorem law_go (v : EV) (h1 : v.scr < v.b0) (h2 : v.aD < v.b0) (h3 : v.scr ≠ v.aD) (h4 : v.len ≤ 2560) (h5 : ∀ j, inR (v.xs j)) : Rn 140 0 (entL 140 [aR v.scr]) [] (h00 v) (fun r h' => r = .inl (some (aI 1)) ∧ h'.2.1 ≤ v.b0 + 601024 ∧ h'.2.2.1 ≤ 7293034) := by
  sorry
