/-! INTS AS WHOLE NUMBERS -/
def zi (x : Int) : Int32 := Int32.ofInt x
def zR3 (x : Int) : Prop := -2147483648 ≤ x ∧ x < 2147483648
theorem zi_lit (n : Nat) : (OfNat.ofNat n : Int32) = zi (OfNat.ofNat n) := (Int32.ofInt_eq_ofNat (n := n)).symm
theorem zi_add (x y : Int) : zi x + zi y = zi (x + y) := (Int32.ofInt_add x y).symm
theorem zi_sub (x y : Int) : zi x - zi y = zi (x - y) := (Int32.ofInt_sub x y).symm
theorem zi_mul (x y : Int) : zi x * zi y = zi (x * y) := (Int32.ofInt_mul x y).symm
theorem zi_neg (x : Int) : -zi x = zi (-x) := (Int32.ofInt_neg x).symm
theorem zi_toInt (x : Int32) : zi x.toInt = x := Int32.ofInt_toInt x
theorem zi_of (x : Int32) : ∃ y : Int, x = zi y ∧ -2147483648 ≤ y ∧ y < 2147483648 := ⟨x.toInt, (zi_toInt x).symm, x.le_toInt, x.toInt_lt⟩
theorem zi_val {x : Int} (h : -2147483648 ≤ x ∧ x < 2147483648) : (zi x).toInt = x := Int32.toInt_ofInt_of_le (by omega) (by omega)
theorem zi_nI (n : Nat) : nI n = zi n := (Int32.ofInt_eq_ofNat (n := n)).symm
theorem zi_lt {x y : Int} (h : -2147483648 ≤ x ∧ x < 2147483648) (g : -2147483648 ≤ y ∧ y < 2147483648) : zi x < zi y ↔ x < y := by rw [Int32.lt_iff_toInt_lt, zi_val h, zi_val g]
theorem zi_le {x y : Int} (h : -2147483648 ≤ x ∧ x < 2147483648) (g : -2147483648 ≤ y ∧ y < 2147483648) : zi x ≤ zi y ↔ x ≤ y := by rw [Int32.le_iff_toInt_le, zi_val h, zi_val g]
theorem zi_eq {x y : Int} (h : -2147483648 ≤ x ∧ x < 2147483648) (g : -2147483648 ≤ y ∧ y < 2147483648) : zi x = zi y ↔ x = y := by rw [← Int32.toInt_inj, zi_val h, zi_val g]
theorem zi_cl {x : Int} (h : 0 ≤ x ∧ x < 2147483648) : (zi x).toNatClampNeg = x.toNat := by
  show (zi x).toInt.toNat = _
  rw [zi_val (by omega)]
theorem zi_div {x y : Int} (h : 0 ≤ x ∧ x < 2147483648) (g : 0 < y ∧ y < 2147483648) : zi x / zi y = zi (x / y) := by
  have h1 : zi (x.tdiv y) = zi x / zi y := Int32.ofInt_tdiv (by show -2147483648 ≤ x; omega) (by show x ≤ 2147483647; omega) (by show -2147483648 ≤ y; omega) (by show y ≤ 2147483647; omega)
  rw [← h1, Int.tdiv_eq_ediv_of_nonneg h.1]
theorem zin_t {x : Int} {n : Nat} (h : 0 ≤ x ∧ x < n) (hn : x < 2147483648) : zin (zi x) n = true := by
  unfold zin
  rw [Bool.and_eq_true, decide_eq_true_eq, decide_eq_true_eq, zi_cl (by omega)]
  refine ⟨?_, by omega⟩
  show (0 : Int32) ≤ zi x
  rw [zi_lit, zi_le (by decide) (by omega)]
  exact h.1
