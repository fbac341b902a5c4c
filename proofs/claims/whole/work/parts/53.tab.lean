/-! the class's tables -/
def zPu (b : yTb) (v : Nat → Int) : yTb := (b.1 + 1, fun k f => if k = b.1 then v f else b.2 k f)
theorem zWd_b (q : Nat) : 1 ≤ zWd q ∧ zWd q ≤ 4 := by
  unfold zWd
  repeat' split
  all_goals omega
theorem zMs_b (q : Nat) : 6 ≤ zMs q ∧ zMs q ≤ 20 := by
  unfold zMs
  repeat' split
  all_goals omega
theorem zTb_m {q : Nat} (hq : q < 8) : 39 + 2 * q ∈ zTabs := by
  obtain rfl | rfl | rfl | rfl | rfl | rfl | rfl | rfl : q = 0 ∨ q = 1 ∨ q = 2 ∨ q = 3 ∨ q = 4 ∨ q = 5 ∨ q = 6 ∨ q = 7 := by omega
  all_goals decide
theorem zTb_l {L r : Nat} {I : Nat → Nat → Int32} {J : Nat → Nat → Int64} {q : Nat} (hq : q < 8) : zln (zm L I J r) (39 + 2 * q + 1) = zMs q * zWd q := by
  obtain rfl | rfl | rfl | rfl | rfl | rfl | rfl | rfl : q = 0 ∨ q = 1 ∨ q = 2 ∨ q = 3 ∨ q = 4 ∨ q = 5 ∨ q = 6 ∨ q = 7 := by omega
  all_goals rfl
section
variable {d L r : Nat} {I : Nat → Nat → Int32} {J : Nat → Nat → Int64}
theorem zcl_k {k w f : Nat} {m : Nat} (hm : m ≤ 20) (hw : w ≤ 4) (hk : k < m) (hf : f < w) : k * w + f < m * w ∧ m * w ≤ 80 := by
  have h1 : (k + 1) * w ≤ m * w := Nat.mul_le_mul_right w hk
  have h2 : m * w ≤ 20 * 4 := Nat.mul_le_mul hm hw
  rw [Nat.add_mul, Nat.one_mul] at h1
  omega
theorem zmul_b {a b : Int} {m w : Nat} (ha : 0 ≤ a ∧ a < m) (hb : 0 ≤ b ∧ b < w) : 0 ≤ a * w + b ∧ a * w + b < m * w ∧ (a * w + b).toNat = a.toNat * w + b.toNat := by
  obtain ⟨x, rfl⟩ : ∃ x : Nat, a = x := ⟨a.toNat, by omega⟩
  obtain ⟨y, rfl⟩ : ∃ y : Nat, b = y := ⟨b.toNat, by omega⟩
  have h0 : (x + 1) * w ≤ m * w := Nat.mul_le_mul_right w (by omega)
  rw [Nat.add_mul, Nat.one_mul] at h0
  have e : (x : Int) * (w : Int) = ((x * w : Nat) : Int) := (Int.natCast_mul x w).symm
  have e2 : (m : Int) * (w : Int) = ((m * w : Nat) : Int) := (Int.natCast_mul m w).symm
  rw [e, e2, Int.toNat_natCast, Int.toNat_natCast]
  generalize x * w = z at *
  generalize m * w = z2 at *
  omega
theorem cTSize (hd : 1 ≤ d) {o q : Nat} (ho : o ∈ zTabs) {b : yTb} (h : cTb o q I b) : zCd zT d 64 [.ref o] (zm L I J r) = some (some (.int (zi b.1)), zm L I J r) := by
  rw [sX7_size hd ho, h.2.2.1]
theorem cFull (hd : 1 ≤ d) {o q : Nat} (ho : o ∈ zTabs) {b : yTb} (h : cTb o q I b) (hb : b.1 ≤ zMs q) : zCd zT d 65 [.ref o] (zm L I J r) = some (some (.int (zb1 (decide (b.1 = zMs q)))), zm L I J r) := by
  have := zMs_b q
  rw [sX7_isFull hd ho, h.2.2.1, h.1]
  simp only [zi_le (show -2147483648 ≤ (zMs q : Int) ∧ (zMs q : Int) < 2147483648 by omega) (show -2147483648 ≤ (b.1 : Int) ∧ (b.1 : Int) < 2147483648 by omega), zi_lt (show -2147483648 ≤ (b.1 : Int) ∧ (b.1 : Int) < 2147483648 by omega) (show -2147483648 ≤ (zMs q : Int) ∧ (zMs q : Int) < 2147483648 by omega)]
  by_cases e : b.1 = zMs q
  · rw [decide_eq_true e]
    simp only [show ¬ (b.1 : Int) < (zMs q : Int) by omega, show (zMs q : Int) ≤ (b.1 : Int) by omega, if_true, if_false]
    rfl
  · rw [decide_eq_false e]
    simp only [show (b.1 : Int) < (zMs q : Int) by omega, show ¬ (zMs q : Int) ≤ (b.1 : Int) by omega, if_true, if_false]
    rfl
theorem cGet (hd : 2 ≤ d) {q : Nat} (hq : q < 8) {b : yTb} (h : cTb (39 + 2 * q) q I b) (hb : b.1 ≤ zMs q) {k f : Int} (hk : 0 ≤ k ∧ k < b.1) (hf : 0 ≤ f ∧ f < zWd q) : zCd zT d 68 [.ref (39 + 2 * q), .int (zi k), .int (zi f)] (zm L I J r) = some (some (.int (zi (b.2 k.toNat f.toNat))), zm L I J r) := by
  have m1 := zMs_b q
  have m2 := zWd_b q
  have z := zmul_b (m := zMs q) (w := zWd q) (a := k) (b := f) (by omega) hf
  have z3 := h.2.2.2 k.toNat f.toNat (by omega) (by omega)
  have z4 := zcl_k (k := 0) (f := 0) m1.2 m2.2 (by omega) (by omega)
  have z5 : (zMs q : Int) * (zWd q : Int) = ((zMs q * zWd q : Nat) : Int) := (Int.natCast_mul _ _).symm
  rw [sX7_get hd (zTb_m hq), h.2.2.1, h.1, h.2.1, zTb_l hq, zi_mul, zi_add]
  simp (disch := omega) only [zi_lit, zi_lt, zi_le]
  rw [z5] at z
  simp only [show ¬ k < 0 by omega, show ¬ (b.1 : Int) ≤ k by omega, show ¬ (zMs q : Int) < (b.1 : Int) by omega, show ¬ f < 0 by omega, show ¬ (zWd q : Int) ≤ f by omega, if_false]
  rw [if_neg (show ¬ zi 1 = zi 0 by decide), zin_t ⟨z.1, z.2.1⟩ (by omega), zgd_t, zi_cl ⟨z.1, by omega⟩, z.2.2, z3]
theorem cSet (hd : 2 ≤ d) {q : Nat} (hq : q < 8) {k f : Nat} {v : Int32} {n : Nat} (h0 : I (39 + 2 * q) 0 = zi (zMs q)) (h1 : I (39 + 2 * q) 1 = zi (zWd q)) (h3 : I (39 + 2 * q) 3 = zi n) (hn : n ≤ zMs q) (hk : k < n) (hf : f < 4) : zCd zT d 69 [.ref (39 + 2 * q), .int (zi k), .int (zi f), .int v] (zm L I J r) = some (none, zm L (if f < zWd q then zu I (39 + 2 * q + 1) (k * zWd q + f) v else I) J r) := by
  have m1 := zMs_b q
  have m2 := zWd_b q
  have z4 := zcl_k (k := 0) (f := 0) m1.2 m2.2 (by omega) (by omega)
  have z5 : (zMs q : Int) * (zWd q : Int) = ((zMs q * zWd q : Nat) : Int) := (Int.natCast_mul _ _).symm
  rw [sX7_set hd (zTb_m hq), h3, h0, h1, zTb_l hq, zi_mul, zi_add]
  simp (disch := omega) only [zi_lit, zi_lt, zi_le]
  simp only [show ¬ (k : Int) < 0 by omega, show ¬ (n : Int) ≤ k by omega, show ¬ (zMs q : Int) < (n : Int) by omega, show ¬ (f : Int) < 0 by omega, if_false]
  by_cases g : f < zWd q
  · have z := zmul_b (m := zMs q) (w := zWd q) (a := k) (b := f) (by omega) (by omega)
    rw [z5] at z
    rw [if_neg (show ¬ (zWd q : Int) ≤ f by omega), if_neg (show ¬ zi 1 = zi 0 by decide), if_pos g, zin_t ⟨z.1, z.2.1⟩ (by omega), zgd_t, zi_cl ⟨z.1, by omega⟩, z.2.2]
    rfl
  · rw [if_pos (show (zWd q : Int) ≤ f by omega), if_pos rfl, if_neg g]
theorem cAdd (hd : 3 ≤ d) {q : Nat} (hq : q < 8) {b : yTb} (h : cTb (39 + 2 * q) q I b) (hb : b.1 < zMs q) (v0 v1 v2 v3 : Int) : ∃ I', zCd zT d 66 [.ref (39 + 2 * q), .int (zi v0), .int (zi v1), .int (zi v2), .int (zi v3)] (zm L I J r) = some (some (.int (zi b.1)), zm L I' J r) ∧ cTb (39 + 2 * q) q I' (zPu b fun f => if f = 0 then v0 else if f = 1 then v1 else if f = 2 then v2 else v3) ∧ ∀ o, o ≠ 39 + 2 * q → o ≠ 39 + 2 * q + 1 → I' o = I o := by
  obtain ⟨e, rfl⟩ : ∃ e, d = e + 1 := ⟨d - 1, by omega⟩
  have m1 := zMs_b q
  have m2 := zWd_b q
  have ho := zTb_m hq
  have a1 : zi b.1 + 1 = zi ((b.1 + 1 : Nat) : Int) := zi_add _ 1
  rw [qX7_add ho, eX7_add_0 ho, cFull (by omega) ho h (by omega), zbI_s, eX7_add_1 ho, decide_eq_false (show ¬ b.1 = zMs q by omega), if_pos (show zb1 false = 0 from rfl), eX7_add_2 ho, h.2.2.1, a1]
  have g0 : ∀ (A : Nat → Nat → Int32) (j : Nat) (w : Int32), A (39 + 2 * q) j = w → ∀ (f k : Nat) (v : Int32), (if f < zWd q then zu A (39 + 2 * q + 1) k v else A) (39 + 2 * q) j = w := by
    intro A j w hA f k v
    split
    · rw [zu_o (by omega)]
      exact hA
    · exact hA
  have b0 : zu I (39 + 2 * q) 3 (zi ((b.1 + 1 : Nat) : Int)) (39 + 2 * q) 0 = zi (zMs q) := by rw [zu_ap, if_neg (by omega)]; exact h.1
  have b1 : zu I (39 + 2 * q) 3 (zi ((b.1 + 1 : Nat) : Int)) (39 + 2 * q) 1 = zi (zWd q) := by rw [zu_ap, if_neg (by omega)]; exact h.2.1
  have b3 : zu I (39 + 2 * q) 3 (zi ((b.1 + 1 : Nat) : Int)) (39 + 2 * q) 3 = zi ((b.1 + 1 : Nat) : Int) := by rw [zu_ap, if_pos ⟨rfl, rfl⟩]
  have s0 : ∀ (A : Nat → Nat → Int32) (f : Nat) (v : Int32), f < 4 → A (39 + 2 * q) 0 = zi (zMs q) → A (39 + 2 * q) 1 = zi (zWd q) → A (39 + 2 * q) 3 = zi ((b.1 + 1 : Nat) : Int) → zCd zT e 69 [.ref (39 + 2 * q), .int (zi b.1), .int (zi f), .int v] (zm L A J r) = some (none, zm L (if f < zWd q then zu A (39 + 2 * q + 1) (b.1 * zWd q + f) v else A) J r) := fun A f v hf h0 h1 h3 => cSet (by omega) hq h0 h1 h3 (by omega) (by omega) hf
  have t0 := s0 _ 0 (zi v0) (by decide) b0 b1 b3
  have t1 := s0 _ 1 (zi v1) (by decide) (g0 _ _ _ b0 0 (b.1 * zWd q + 0) (zi v0)) (g0 _ _ _ b1 0 _ _) (g0 _ _ _ b3 0 _ _)
  have t2 := s0 _ 2 (zi v2) (by decide) (g0 _ _ _ (g0 _ _ _ b0 0 (b.1 * zWd q + 0) (zi v0)) 1 (b.1 * zWd q + 1) (zi v1)) (g0 _ _ _ (g0 _ _ _ b1 0 _ _) 1 _ _) (g0 _ _ _ (g0 _ _ _ b3 0 _ _) 1 _ _)
  have t3 := s0 _ 3 (zi v3) (by decide) (g0 _ _ _ (g0 _ _ _ (g0 _ _ _ b0 0 (b.1 * zWd q + 0) (zi v0)) 1 (b.1 * zWd q + 1) (zi v1)) 2 (b.1 * zWd q + 2) (zi v2)) (g0 _ _ _ (g0 _ _ _ (g0 _ _ _ b1 0 _ _) 1 _ _) 2 _ _) (g0 _ _ _ (g0 _ _ _ (g0 _ _ _ b3 0 _ _) 1 _ _) 2 _ _)
  have u0 : zCd zT e 69 [.ref (39 + 2 * q), .int (zi b.1), .int (0 : Int32), .int (zi v0)] _ = _ := t0
  have u1 : zCd zT e 69 [.ref (39 + 2 * q), .int (zi b.1), .int (1 : Int32), .int (zi v1)] _ = _ := t1
  have u2 : zCd zT e 69 [.ref (39 + 2 * q), .int (zi b.1), .int (2 : Int32), .int (zi v2)] _ = _ := t2
  have u3 : zCd zT e 69 [.ref (39 + 2 * q), .int (zi b.1), .int (3 : Int32), .int (zi v3)] _ = _ := t3
  rw [u0, zbV_s, eX7_add_3 ho, u1, zbV_s, eX7_add_4 ho, u2, zbV_s, eX7_add_5 ho, u3, zbV_s, eX7_add_6 ho]
  refine ⟨_, rfl, ⟨g0 _ _ _ (g0 _ _ _ (g0 _ _ _ (g0 _ _ _ b0 0 _ _) 1 _ _) 2 _ _) 3 _ _, g0 _ _ _ (g0 _ _ _ (g0 _ _ _ (g0 _ _ _ b1 0 _ _) 1 _ _) 2 _ _) 3 _ _, g0 _ _ _ (g0 _ _ _ (g0 _ _ _ (g0 _ _ _ b3 0 _ _) 1 _ _) 2 _ _) 3 _ _, fun k f hk hf => ?_⟩, fun o h1 h2 => ?_⟩
  · have cl : ∀ (A : Nat → Nat → Int32) (f2 : Nat) (v : Int32), (if f2 < zWd q then zu A (39 + 2 * q + 1) (b.1 * zWd q + f2) v else A) (39 + 2 * q + 1) (k * zWd q + f) = if k = b.1 ∧ f2 = f then v else A (39 + 2 * q + 1) (k * zWd q + f) := by
      intro A f2 v
      by_cases g : f2 < zWd q
      · rw [if_pos g, zu_ap]
        by_cases e2 : k = b.1 ∧ f2 = f
        · rw [if_pos e2, if_pos ⟨rfl, by rw [e2.1, e2.2]⟩]
        · rw [if_neg e2, if_neg]
          intro w
          have w2 := w.2
          by_cases e3 : k = b.1
          · rw [e3] at w2
            exact e2 ⟨e3, by omega⟩
          · have hk2 : k + 1 ≤ b.1 := by have : k < b.1 + 1 := hk; omega
            have := Nat.mul_le_mul_right (zWd q) hk2
            rw [Nat.add_mul, Nat.one_mul] at this
            omega
      · rw [if_neg g, if_neg (fun w => g (by omega))]
    rw [cl, cl, cl, cl]
    show _ = zi (if k = b.1 then _ else b.2 k f)
    by_cases e3 : k = b.1
    · rw [if_pos e3]
      have : f = 0 ∨ f = 1 ∨ f = 2 ∨ f = 3 := by omega
      rcases this with rfl | rfl | rfl | rfl
      · simp [e3]
      · simp [e3]
      · simp [e3]
      · simp [e3]
    · rw [if_neg e3]
      simp only [e3, false_and, if_false]
      rw [zu_o (by omega)]
      exact h.2.2.2 k f (by have : k < b.1 + 1 := hk; omega) hf
  · have f0 : ∀ (A : Nat → Nat → Int32) (f k : Nat) (v : Int32), (if f < zWd q then zu A (39 + 2 * q + 1) k v else A) o = A o := by
      intro A f k v
      split
      · exact zu_o h2
      · rfl
    rw [f0, f0, f0, f0, zu_o h1]
end
