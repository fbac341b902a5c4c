theorem zLaw_ok : ∀ (L : Nat) (xs : Nat → Int32), L ≤ 4096 → zLawRuns L xs := sorry
