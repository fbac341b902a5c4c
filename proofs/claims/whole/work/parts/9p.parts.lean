/-! PARTS of a set -/
theorem yDn : ∀ (n m s v : Nat), s ≤ n → s &&& m = s → v &&& m = v → v < s → v ≤ (s - 1) &&& m := by
  intro n
  induction n with
  | zero => intro m s v h1 _ _ h4; omega
  | succ n ih =>
    intro m s v hn hs hv hlt
    have s1 : s / 2 &&& m / 2 = s / 2 := by rw [← Nat.and_div_two, hs]
    have v1 : v / 2 &&& m / 2 = v / 2 := by rw [← Nat.and_div_two, hv]
    have r1 : ((s - 1) &&& m) / 2 = (s - 1) / 2 &&& m / 2 := Nat.and_div_two
    have r2 : ((s - 1) &&& m) % 2 = 1 ↔ (s - 1) % 2 = 1 ∧ m % 2 = 1 := Nat.and_mod_two_eq_one
    have v2 : (v &&& m) % 2 = 1 ↔ v % 2 = 1 ∧ m % 2 = 1 := Nat.and_mod_two_eq_one
    rw [hv] at v2
    by_cases q : s % 2 = 1
    · have e : (s - 1) / 2 = s / 2 := by omega
      rw [e, s1] at r1
      generalize (s - 1) &&& m = x at *
      omega
    · have e : (s - 1) / 2 = s / 2 - 1 := by omega
      rw [e] at r1
      have w : v / 2 < s / 2 := by omega
      have := ih (m / 2) (s / 2) (v / 2) (by omega) s1 v1 w
      generalize (s - 1) &&& m = x at *
      generalize (s / 2 - 1) &&& m / 2 = z at *
      omega
theorem yXs : ∀ (n m c : Nat), m ≤ n → c &&& m = c → (m ^^^ c) + c = m := by
  intro n
  induction n with
  | zero =>
    intro m c h1 h2
    have h3 : c &&& m ≤ m := Nat.and_le_right
    rw [show m = 0 by omega, show c = 0 by omega]
    rfl
  | succ n ih =>
    intro m c hn hc
    by_cases hm : m = 0
    · have h3 : c &&& m ≤ m := Nat.and_le_right
      rw [hm, show c = 0 by omega]
      rfl
    · have c1 : c / 2 &&& m / 2 = c / 2 := by rw [← Nat.and_div_two, hc]
      have r1 : (m ^^^ c) / 2 = m / 2 ^^^ c / 2 := Nat.xor_div_two
      have r2 : (m ^^^ c) % 2 = 1 ↔ ¬ (m % 2 = 1 ↔ c % 2 = 1) := Nat.xor_mod_two_eq_one
      have c2 : (c &&& m) % 2 = 1 ↔ c % 2 = 1 ∧ m % 2 = 1 := Nat.and_mod_two_eq_one
      rw [hc] at c2
      have := ih (m / 2) (c / 2) (by omega) c1
      generalize m ^^^ c = x at *
      generalize m / 2 ^^^ c / 2 = z at *
      omega
theorem yXd {m c : Nat} (h : c &&& m = c) : m ^^^ c = m - c ∧ c ≤ m := by
  have h1 := yXs m m c (Nat.le_refl m) h
  omega
def yDs {α : Type} (g : Nat → α → α) (m : Nat) : Nat → Nat → α → α
  | 0, _, a => a
  | n + 1, v, a => if v = 0 then a else yDs g m n ((v - 1) &&& m) (g v a)
theorem yDs_0 {α : Type} {g : Nat → α → α} {m : Nat} {a : α} : ∀ n, yDs g m n 0 a = a := by
  intro n
  cases n with
  | zero => rfl
  | succ n => rw [yDs, if_pos rfl]
theorem yAm {x m : Nat} : (x &&& m) &&& m = x &&& m := by rw [Nat.and_assoc, Nat.and_self]
theorem yDs_i {α : Type} {g : Nat → α → α} {m : Nat} {Q : Nat → α → Prop} (hg : ∀ v a, v ≠ 0 → v &&& m = v → Q v a → Q ((v - 1) &&& m) (g v a)) : ∀ n v a, v ≤ n → v &&& m = v → Q v a → Q 0 (yDs g m n v a) := by
  intro n
  induction n with
  | zero =>
    intro v a h1 _ hq
    rw [show v = 0 by omega] at hq
    exact hq
  | succ n ih =>
    intro v a h1 h2 hq
    rw [yDs]
    by_cases q : v = 0
    · rw [if_pos q]
      rw [q] at hq
      exact hq
    · rw [if_neg q]
      have h3 : (v - 1) &&& m ≤ v - 1 := Nat.and_le_left
      exact ih _ _ (by omega) yAm (hg v a q h2 hq)
/-- the lowest bit, and its place -/
def yLob (s : Nat) : Nat := s ^^^ (s &&& (s - 1))
def yTz (s : Nat) : Nat := (yLob s).log2
theorem yLob_f {s : Nat} (h : s < 1024) (h0 : s ≠ 0) : yTz s < 10 ∧ yLob s = 2 ^ yTz s ∧ s.testBit (yTz s) = true ∧ yLob s ≤ s ∧ yLob s &&& s = yLob s ∧ s ^^^ yLob s = s &&& (s - 1) ∧ yPc (s ^^^ yLob s) 10 + 1 = yPc s 10 := by
  have key : ∀ s : Fin 1024, s.1 ≠ 0 → yTz s.1 < 10 ∧ yLob s.1 = 2 ^ yTz s.1 ∧ s.1.testBit (yTz s.1) = true ∧ yLob s.1 ≤ s.1 ∧ yLob s.1 &&& s.1 = yLob s.1 ∧ s.1 ^^^ yLob s.1 = s.1 &&& (s.1 - 1) ∧ yPc (s.1 ^^^ yLob s.1) 10 + 1 = yPc s.1 10 := by decide +kernel
  exact key ⟨s, h⟩ h0
theorem yLob_i {s : Nat} (h : s < 1024) : zi (s : Int) &&& -zi (s : Int) = zi ((yLob s : Nat) : Int) := by
  have key : ∀ s : Fin 1024, zi ((s.1 : Nat) : Int) &&& -zi ((s.1 : Nat) : Int) = zi ((yLob s.1 : Nat) : Int) := by decide +kernel
  exact key ⟨s, h⟩
theorem yBp {c j : Nat} (h : c < 1024) (hj : j < 10) : (c &&& 2 ^ j ≠ 0 ↔ c.testBit j = true) ∧ (c.testBit j = true → 2 ^ j &&& c = 2 ^ j ∧ 2 ^ j ≤ c) := by
  have key : ∀ c : Fin 1024, ∀ j : Fin 10, (c.1 &&& 2 ^ j.1 ≠ 0 ↔ c.1.testBit j.1 = true) ∧ (c.1.testBit j.1 = true → 2 ^ j.1 &&& c.1 = 2 ^ j.1 ∧ 2 ^ j.1 ≤ c.1) := by decide +kernel
  exact key ⟨c, h⟩ ⟨j, hj⟩
theorem yB2 {i j : Nat} : (2 ^ j).testBit i = decide (i = j) := by
  rw [Nat.testBit_two_pow]
  by_cases q : j = i
  · rw [decide_eq_true q, decide_eq_true q.symm]
  · rw [decide_eq_false q, decide_eq_false (fun w => q w.symm)]
def yNt (a0 : Int32) : Int32 := if 0 < ((a0 ^^^ (-1 : Int32)) &&& (a0 - (1 : Int32))) then (if ((a0 ^^^ (-1 : Int32)) &&& (a0 - (1 : Int32))) ≤ (65536 : Int32) then (if ((a0 ^^^ (-1 : Int32)) &&& (a0 - (1 : Int32))) ≤ (256 : Int32) then (if ((a0 ^^^ (-1 : Int32)) &&& (a0 - (1 : Int32))) ≤ (16 : Int32) then (if ((a0 ^^^ (-1 : Int32)) &&& (a0 - (1 : Int32))) ≤ (4 : Int32) then ((1 : Int32) + (zus ((a0 ^^^ (-1 : Int32)) &&& (a0 - (1 : Int32))) (1 : Int32))) else (((1 : Int32) + (2 : Int32)) + (zus (zus ((a0 ^^^ (-1 : Int32)) &&& (a0 - (1 : Int32))) (2 : Int32)) (1 : Int32)))) else (if (zus ((a0 ^^^ (-1 : Int32)) &&& (a0 - (1 : Int32))) (4 : Int32)) ≤ (4 : Int32) then (((1 : Int32) + (4 : Int32)) + (zus (zus ((a0 ^^^ (-1 : Int32)) &&& (a0 - (1 : Int32))) (4 : Int32)) (1 : Int32))) else ((((1 : Int32) + (4 : Int32)) + (2 : Int32)) + (zus (zus (zus ((a0 ^^^ (-1 : Int32)) &&& (a0 - (1 : Int32))) (4 : Int32)) (2 : Int32)) (1 : Int32))))) else (if (zus ((a0 ^^^ (-1 : Int32)) &&& (a0 - (1 : Int32))) (8 : Int32)) ≤ (16 : Int32) then (if (zus ((a0 ^^^ (-1 : Int32)) &&& (a0 - (1 : Int32))) (8 : Int32)) ≤ (4 : Int32) then (((1 : Int32) + (8 : Int32)) + (zus (zus ((a0 ^^^ (-1 : Int32)) &&& (a0 - (1 : Int32))) (8 : Int32)) (1 : Int32))) else ((((1 : Int32) + (8 : Int32)) + (2 : Int32)) + (zus (zus (zus ((a0 ^^^ (-1 : Int32)) &&& (a0 - (1 : Int32))) (8 : Int32)) (2 : Int32)) (1 : Int32)))) else (if (zus (zus ((a0 ^^^ (-1 : Int32)) &&& (a0 - (1 : Int32))) (8 : Int32)) (4 : Int32)) ≤ (4 : Int32) then ((((1 : Int32) + (8 : Int32)) + (4 : Int32)) + (zus (zus (zus ((a0 ^^^ (-1 : Int32)) &&& (a0 - (1 : Int32))) (8 : Int32)) (4 : Int32)) (1 : Int32))) else (((((1 : Int32) + (8 : Int32)) + (4 : Int32)) + (2 : Int32)) + (zus (zus (zus (zus ((a0 ^^^ (-1 : Int32)) &&& (a0 - (1 : Int32))) (8 : Int32)) (4 : Int32)) (2 : Int32)) (1 : Int32)))))) else (if (zus ((a0 ^^^ (-1 : Int32)) &&& (a0 - (1 : Int32))) (16 : Int32)) ≤ (256 : Int32) then (if (zus ((a0 ^^^ (-1 : Int32)) &&& (a0 - (1 : Int32))) (16 : Int32)) ≤ (16 : Int32) then (if (zus ((a0 ^^^ (-1 : Int32)) &&& (a0 - (1 : Int32))) (16 : Int32)) ≤ (4 : Int32) then (((1 : Int32) + (16 : Int32)) + (zus (zus ((a0 ^^^ (-1 : Int32)) &&& (a0 - (1 : Int32))) (16 : Int32)) (1 : Int32))) else ((((1 : Int32) + (16 : Int32)) + (2 : Int32)) + (zus (zus (zus ((a0 ^^^ (-1 : Int32)) &&& (a0 - (1 : Int32))) (16 : Int32)) (2 : Int32)) (1 : Int32)))) else (if (zus (zus ((a0 ^^^ (-1 : Int32)) &&& (a0 - (1 : Int32))) (16 : Int32)) (4 : Int32)) ≤ (4 : Int32) then ((((1 : Int32) + (16 : Int32)) + (4 : Int32)) + (zus (zus (zus ((a0 ^^^ (-1 : Int32)) &&& (a0 - (1 : Int32))) (16 : Int32)) (4 : Int32)) (1 : Int32))) else (((((1 : Int32) + (16 : Int32)) + (4 : Int32)) + (2 : Int32)) + (zus (zus (zus (zus ((a0 ^^^ (-1 : Int32)) &&& (a0 - (1 : Int32))) (16 : Int32)) (4 : Int32)) (2 : Int32)) (1 : Int32))))) else (if (zus (zus ((a0 ^^^ (-1 : Int32)) &&& (a0 - (1 : Int32))) (16 : Int32)) (8 : Int32)) ≤ (16 : Int32) then (if (zus (zus ((a0 ^^^ (-1 : Int32)) &&& (a0 - (1 : Int32))) (16 : Int32)) (8 : Int32)) ≤ (4 : Int32) then ((((1 : Int32) + (16 : Int32)) + (8 : Int32)) + (zus (zus (zus ((a0 ^^^ (-1 : Int32)) &&& (a0 - (1 : Int32))) (16 : Int32)) (8 : Int32)) (1 : Int32))) else (((((1 : Int32) + (16 : Int32)) + (8 : Int32)) + (2 : Int32)) + (zus (zus (zus (zus ((a0 ^^^ (-1 : Int32)) &&& (a0 - (1 : Int32))) (16 : Int32)) (8 : Int32)) (2 : Int32)) (1 : Int32)))) else (if (zus (zus (zus ((a0 ^^^ (-1 : Int32)) &&& (a0 - (1 : Int32))) (16 : Int32)) (8 : Int32)) (4 : Int32)) ≤ (4 : Int32) then (((((1 : Int32) + (16 : Int32)) + (8 : Int32)) + (4 : Int32)) + (zus (zus (zus (zus ((a0 ^^^ (-1 : Int32)) &&& (a0 - (1 : Int32))) (16 : Int32)) (8 : Int32)) (4 : Int32)) (1 : Int32))) else ((((((1 : Int32) + (16 : Int32)) + (8 : Int32)) + (4 : Int32)) + (2 : Int32)) + (zus (zus (zus (zus (zus ((a0 ^^^ (-1 : Int32)) &&& (a0 - (1 : Int32))) (16 : Int32)) (8 : Int32)) (4 : Int32)) (2 : Int32)) (1 : Int32))))))) else (((a0 ^^^ (-1 : Int32)) &&& (a0 - (1 : Int32))) &&& (32 : Int32))
theorem yNt_p {s : Nat} (h : s < 1024) (h0 : s ≠ 0) : yNt (zi (s : Int)) = zi ((yTz s : Nat) : Int) := by
  have key : ∀ s : Fin 1024, s.1 ≠ 0 → yNt (zi ((s.1 : Nat) : Int)) = zi ((yTz s.1 : Nat) : Int) := by decide +kernel
  exact key ⟨s, h⟩ h0
section
variable {d L r : Nat} {I : Nat → Nat → Int32} {J : Nat → Nat → Int64}
theorem cNt (hd : 1 ≤ d) (x : Int32) : zCd zT d 369 [.int x] (zm L I J r) = some (some (.int (yNt x)), zm L I J r) := sJ6_numberOfTrailingZeros_0f7a4 hd x
theorem cLo (hd : 1 ≤ d) {s : Nat} (h : s < 1024) : zCd zT d 368 [.int (zi (s : Int))] (zm L I J r) = some (some (.int (zi ((yLob s : Nat) : Int))), zm L I J r) := by
  rw [sJ6_lowestOneBit_0f7a4 hd, yLob_i h]
end
theorem yXor {a b : Nat} (ha : a < 2147483648) (hb : b < 2147483648) : zi (a : Int) ^^^ zi (b : Int) = zi ((a ^^^ b : Nat) : Int) := by
  have h : a ^^^ b < 2 ^ 31 := Nat.xor_lt_two_pow (n := 31) ha hb
  refine yBi (by omega) ?_
  rw [Int32.toBitVec_xor, BitVec.toNat_xor, yBn (by omega), yBn (by omega)]
/-- a without b -/
theorem yAnN {a b : Nat} (ha : a < 2147483648) (hb : b < 2147483648) : zi (a : Int) &&& (zi (b : Int) ^^^ (-1 : Int32)) = zi ((a ^^^ (a &&& b) : Nat) : Int) := by
  have m1 : (-1 : Int32).toBitVec = BitVec.allOnes 32 := by decide
  have h1 : a &&& b ≤ a := Nat.and_le_left
  have h : a ^^^ (a &&& b) < 2 ^ 31 := Nat.xor_lt_two_pow (n := 31) ha (by omega)
  refine Int32.toBitVec_inj.mp (BitVec.eq_of_getLsbD_eq fun i hi => ?_)
  rw [Int32.toBitVec_and, Int32.toBitVec_xor, yBv, yBv, yBv, m1, BitVec.getLsbD_and, BitVec.getLsbD_xor, BitVec.getLsbD_ofNat, BitVec.getLsbD_ofNat, BitVec.getLsbD_ofNat, BitVec.getLsbD_allOnes, decide_eq_true hi, Bool.true_and, Bool.true_and, Bool.true_and, Bool.xor_true, Nat.testBit_xor, Nat.testBit_and]
  cases a.testBit i <;> cases b.testBit i <;> rfl
/-- the lowest bit set aside -/
theorem yLa {s v lw : Nat} (hl : lw &&& s = lw) (hv : v &&& (s ^^^ lw) = v) : (v ||| lw) &&& s = v ||| lw ∧ (s ^^^ lw) ^^^ v = s ^^^ (v ||| lw) := by
  refine ⟨Nat.eq_of_testBit_eq fun i => ?_, Nat.eq_of_testBit_eq fun i => ?_⟩
  all_goals
    have h1 : (lw &&& s).testBit i = lw.testBit i := by rw [hl]
    have h2 : (v &&& (s ^^^ lw)).testBit i = v.testBit i := by rw [hv]
    rw [Nat.testBit_and] at h1
    rw [Nat.testBit_and, Nat.testBit_xor] at h2
    simp only [Nat.testBit_and, Nat.testBit_or, Nat.testBit_xor]
    revert h1 h2
    cases s.testBit i <;> cases v.testBit i <;> cases lw.testBit i <;> decide
theorem yLb2 {s c lw : Nat} (hc : c &&& s = c) (hl : lw &&& c = lw) : (c ^^^ lw) &&& (s ^^^ lw) = c ^^^ lw ∧ (c ^^^ lw) ||| lw = c := by
  refine ⟨Nat.eq_of_testBit_eq fun i => ?_, Nat.eq_of_testBit_eq fun i => ?_⟩
  all_goals
    have h1 : (lw &&& c).testBit i = lw.testBit i := by rw [hl]
    have h2 : (c &&& s).testBit i = c.testBit i := by rw [hc]
    rw [Nat.testBit_and] at h1 h2
    simp only [Nat.testBit_and, Nat.testBit_or, Nat.testBit_xor]
    revert h1 h2
    cases s.testBit i <;> cases c.testBit i <;> cases lw.testBit i <;> decide
/-- what is left of a part, of a part of it -/
theorem yPx {s c m : Nat} (hs : s &&& m = s) (hc : c &&& s = c) : (s ^^^ c) &&& m = s ^^^ c ∧ c &&& m = c ∧ (s ^^^ c) &&& s = s ^^^ c := by
  refine ⟨Nat.eq_of_testBit_eq fun i => ?_, Nat.eq_of_testBit_eq fun i => ?_, Nat.eq_of_testBit_eq fun i => ?_⟩
  all_goals
    have h1 : (s &&& m).testBit i = s.testBit i := by rw [hs]
    have h2 : (c &&& s).testBit i = c.testBit i := by rw [hc]
    rw [Nat.testBit_and] at h1 h2
    simp only [Nat.testBit_and, Nat.testBit_xor]
    revert h1 h2
    cases s.testBit i <;> cases c.testBit i <;> cases m.testBit i <;> decide
