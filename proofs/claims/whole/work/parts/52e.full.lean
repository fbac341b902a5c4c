theorem mTb_fr {q : Nat} {g g' : Nat → Int32} {b : yTb} {n m c : Nat} (hq : q < 8) (hw : wTb n m c q b) (h : ∀ k, zBs q ≤ k → k < zBs q + zSz q → g' k = g k) (hm : mTb q g b) : mTb q g' b := by
  have hz : 0 < zSz q := by
    obtain rfl | rfl | rfl | rfl | rfl | rfl | rfl | rfl : q = 0 ∨ q = 1 ∨ q = 2 ∨ q = 3 ∨ q = 4 ∨ q = 5 ∨ q = 6 ∨ q = 7 := by omega
    all_goals decide
  refine ⟨by rw [h _ (by omega) (by omega)]; exact hm.1, fun k f hk hf => ?_⟩
  have := zAd_in hq hf (Nat.lt_of_lt_of_le hk hw.1)
  rw [h _ (by omega) (by omega)]
  exact hm.2 k f hk hf
theorem zBs_r {q : Nat} (hq : q < 8) : 618 ≤ zBs q ∧ zBs q + zSz q ≤ 881 := by
  obtain rfl | rfl | rfl | rfl | rfl | rfl | rfl | rfl : q = 0 ∨ q = 1 ∨ q = 2 ∨ q = 3 ∨ q = 4 ∨ q = 5 ∨ q = 6 ∨ q = 7 := by omega
  all_goals decide
theorem zBs_d {p q : Nat} (hp : p < 8) (hq : q < 8) (h : p ≠ q) : zBs p + zSz p ≤ zBs q ∨ zBs q + zSz q ≤ zBs p := by
  obtain rfl | rfl | rfl | rfl | rfl | rfl | rfl | rfl : q = 0 ∨ q = 1 ∨ q = 2 ∨ q = 3 ∨ q = 4 ∨ q = 5 ∨ q = 6 ∨ q = 7 := by omega
  all_goals
    obtain rfl | rfl | rfl | rfl | rfl | rfl | rfl | rfl : p = 0 ∨ p = 1 ∨ p = 2 ∨ p = 3 ∨ p = 4 ∨ p = 5 ∨ p = 6 ∨ p = 7 := by omega
    all_goals first
      | exact absurd rfl h
      | decide
theorem mDay_fr {O c : Nat} {I I' : Nat → Nat → Int32} {y : zFd} (hw : wDay c y) (h : ∀ k, k < 883 → I' 131 (O + k) = I 131 (O + k)) (hm : mDay O I y) : mDay O I' y := by
  refine ⟨mTr_fr hw.1 (fun k a => h k (by omega)) hm.1, mRl_fr hw.2.1 (fun k a b => h k (by omega)) hm.2.1, fun q hq => mTb_fr hq (hw.2.2.1 q hq) (fun k a b => ?_) (hm.2.2.1 q hq), fun k a => by rw [h _ (by omega)]; exact hm.2.2.2 k a⟩
  have := zBs_r hq
  exact h k (by omega)
theorem wTb_le {n m c c' q : Nat} {b : yTb} (hc : c ≤ c') (h : wTb n m c q b) : wTb n m c' q b := by
  refine ⟨h.1, fun k f hk hf => ⟨(h.2 k f hk hf).1, Int.le_trans (h.2 k f hk hf).2 ?_⟩⟩
  unfold zHi
  split
  · exact Int.le_refl _
  · split
    · exact Int.le_refl _
    · split
      · exact Int.le_refl _
      · split
        · split
          · omega
          · exact Int.le_refl _
        · exact Int.le_refl _
theorem wDay_le {c c' : Nat} {y : zFd} (hc : c ≤ c') (h : wDay c y) : wDay c' y := ⟨h.1, h.2.1, fun q hq => wTb_le hc (h.2.2.1 q hq), fun k hk => ⟨(h.2.2.2.1 k hk).1, by have := (h.2.2.2.1 k hk).2; omega⟩, h.2.2.2.2⟩
