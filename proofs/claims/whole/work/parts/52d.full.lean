theorem zAd_in {q f k : Nat} (hq : q < 8) (hf : f < zWd q) (hk : k < zMs q) : zBs q < zAd q f k ∧ zAd q f k < zBs q + zSz q := by
  obtain rfl | rfl | rfl | rfl | rfl | rfl | rfl | rfl : q = 0 ∨ q = 1 ∨ q = 2 ∨ q = 3 ∨ q = 4 ∨ q = 5 ∨ q = 6 ∨ q = 7 := by omega
  all_goals
    simp only [zWd, zMs, zBs, zSz, zAd, if_true, if_false, Nat.reduceEqDiff, Nat.one_ne_zero] at *
    try simp only [show f = 0 by omega]
    try (have : f = 0 ∨ f = 1 ∨ f = 2 ∨ f = 3 := by omega)
    try (rcases this with rfl | rfl | rfl | rfl)
    all_goals first
      | omega
      | (simp only [if_true, if_false, Nat.reduceEqDiff, Nat.one_ne_zero]; omega)
