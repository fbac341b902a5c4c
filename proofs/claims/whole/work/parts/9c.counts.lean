/-! COUNTS of bits, UNIONS and SUMS of a table -/
def yPc (s : Nat) : Nat → Nat
  | 0 => 0
  | k + 1 => yPc s k + (if s.testBit k = true then 1 else 0)
def yBc (a0 : Int32) : Int32 := (((((((a0 - ((zus a0 (1 : Int32)) &&& (1431655765 : Int32))) &&& (858993459 : Int32)) + ((zus (a0 - ((zus a0 (1 : Int32)) &&& (1431655765 : Int32))) (2 : Int32)) &&& (858993459 : Int32))) + (zus (((a0 - ((zus a0 (1 : Int32)) &&& (1431655765 : Int32))) &&& (858993459 : Int32)) + ((zus (a0 - ((zus a0 (1 : Int32)) &&& (1431655765 : Int32))) (2 : Int32)) &&& (858993459 : Int32))) (4 : Int32))) &&& (252645135 : Int32)) + (zus (((((a0 - ((zus a0 (1 : Int32)) &&& (1431655765 : Int32))) &&& (858993459 : Int32)) + ((zus (a0 - ((zus a0 (1 : Int32)) &&& (1431655765 : Int32))) (2 : Int32)) &&& (858993459 : Int32))) + (zus (((a0 - ((zus a0 (1 : Int32)) &&& (1431655765 : Int32))) &&& (858993459 : Int32)) + ((zus (a0 - ((zus a0 (1 : Int32)) &&& (1431655765 : Int32))) (2 : Int32)) &&& (858993459 : Int32))) (4 : Int32))) &&& (252645135 : Int32)) (8 : Int32))) + (zus ((((((a0 - ((zus a0 (1 : Int32)) &&& (1431655765 : Int32))) &&& (858993459 : Int32)) + ((zus (a0 - ((zus a0 (1 : Int32)) &&& (1431655765 : Int32))) (2 : Int32)) &&& (858993459 : Int32))) + (zus (((a0 - ((zus a0 (1 : Int32)) &&& (1431655765 : Int32))) &&& (858993459 : Int32)) + ((zus (a0 - ((zus a0 (1 : Int32)) &&& (1431655765 : Int32))) (2 : Int32)) &&& (858993459 : Int32))) (4 : Int32))) &&& (252645135 : Int32)) + (zus (((((a0 - ((zus a0 (1 : Int32)) &&& (1431655765 : Int32))) &&& (858993459 : Int32)) + ((zus (a0 - ((zus a0 (1 : Int32)) &&& (1431655765 : Int32))) (2 : Int32)) &&& (858993459 : Int32))) + (zus (((a0 - ((zus a0 (1 : Int32)) &&& (1431655765 : Int32))) &&& (858993459 : Int32)) + ((zus (a0 - ((zus a0 (1 : Int32)) &&& (1431655765 : Int32))) (2 : Int32)) &&& (858993459 : Int32))) (4 : Int32))) &&& (252645135 : Int32)) (8 : Int32))) (16 : Int32))) &&& (63 : Int32)
theorem yBc_p {s : Nat} (h : s < 1024) : yBc (zi (s : Int)) = zi ((yPc s 10 : Nat) : Int) := by
  have key : ∀ s : Fin 1024, yBc (zi ((s.1 : Nat) : Int)) = zi ((yPc s.1 10 : Nat) : Int) := by decide +kernel
  exact key ⟨s, h⟩
theorem yBc_m : yBc (-1) = 32 := by decide +kernel
section
variable {d L r : Nat} {I : Nat → Nat → Int32} {J : Nat → Nat → Int64}
theorem cBc (hd : 1 ≤ d) (x : Int32) : zCd zT d 370 [.int x] (zm L I J r) = some (some (.int (yBc x)), zm L I J r) := sJ6_bitCount_0f7a4 hd x
def yUn (b : yTb) (f s : Nat) : Nat → Nat
  | 0 => 0
  | k + 1 => if s.testBit k = true then yUn b f s k ||| (b.2 k f).toNat else yUn b f s k
def ySm (b : yTb) (f s : Nat) : Nat → Int
  | 0 => 0
  | k + 1 => if s.testBit k = true then ySm b f s k + b.2 k f else ySm b f s k
theorem yUn_b {b : yTb} {f s B n : Nat} (h : ∀ k, k < n → 0 ≤ b.2 k f ∧ b.2 k f < ((2 ^ B : Nat) : Int)) : ∀ k, k ≤ n → yUn b f s k < 2 ^ B := by
  intro k
  induction k with
  | zero => exact fun _ => Nat.two_pow_pos B
  | succ k ih =>
    intro hk
    have h1 := ih (by omega)
    have h2 := h k (by omega)
    rw [yUn]
    split
    · exact Nat.or_lt_two_pow h1 (by omega)
    · exact h1
theorem ySm_b {b : yTb} {f s n : Nat} {B : Int} (h : ∀ k, k < n → 0 ≤ b.2 k f ∧ b.2 k f ≤ B) (hB : 0 ≤ B) : ∀ k, k ≤ n → 0 ≤ ySm b f s k ∧ ySm b f s k ≤ B * (k : Int) := by
  intro k
  induction k with
  | zero => exact fun _ => ⟨Int.le_refl 0, by rw [ySm]; exact Int.le_of_eq (Int.mul_zero B).symm⟩
  | succ k ih =>
    intro hk
    have h1 := ih (by omega)
    have h2 := h k (by omega)
    have h3 : B * ((k + 1 : Nat) : Int) = B * (k : Int) + B := by rw [show ((k + 1 : Nat) : Int) = (k : Int) + 1 from rfl, Int.mul_add, Int.mul_one]
    rw [ySm]
    split <;> omega
theorem cUn (hd : 3 ≤ d) {o q : Nat} (ho : o = 39 + 2 * q) (hq : q < 8) {b : yTb} (hb : cTb o q I b) (hm : b.1 ≤ zMs q) {f s B : Nat} (hf : f < zWd q) (hs : s < 2147483648) (hB : B ≤ 30) (hx : ∀ k, k < b.1 → 0 ≤ b.2 k f ∧ b.2 k f < ((2 ^ B : Nat) : Int)) : zCd zT d 73 [.ref o, .int (zi (f : Int)), .int (zi (s : Int))] (zm L I J r) = some (some (.int (zi (yUn b f s b.1 : Nat))), (zm L I J r)) := by
  obtain ⟨e, rfl⟩ : ∃ e, d = e + 1 := ⟨d - 1, by omega⟩
  have hM : zMs q ≤ 20 := by
    obtain rfl | rfl | rfl | rfl | rfl | rfl | rfl | rfl : q = 0 ∨ q = 1 ∨ q = 2 ∨ q = 3 ∨ q = 4 ∨ q = 5 ∨ q = 6 ∨ q = 7 := by omega
    all_goals decide
  have hp : 2 ^ B ≤ 2 ^ 30 := Nat.pow_le_pow_right (by decide) hB
  have hot : o ∈ zTabs := by
    subst ho
    obtain rfl | rfl | rfl | rfl | rfl | rfl | rfl | rfl : q = 0 ∨ q = 1 ∨ q = 2 ∨ q = 3 ∨ q = 4 ∨ q = 5 ∨ q = 6 ∨ q = 7 := by omega
    all_goals decide
  have h3 : I o 3 = zi b.1 := hb.2.2.1
  have c1 := zFor (n := b.1) (G := fun k => zX 0 (zCd zT e) zc_X7_union 1 [some (.ref o), some (.int (zi (f : Int))), some (.int (zi (s : Int))), some (.int (zi (yUn b f s k : Nat))), some (.int (zi ((k : Nat) : Int)))] [] (zm L I J r)) (fun k hk => by
    have k1 : zi ((k : Nat) : Int) + (1 : Int32) = zi ((k + 1 : Nat) : Int) := zi_add _ 1
    have g : zCd zT e 68 [.ref o, .int (zi ((k : Nat) : Int)), .int (zi (f : Int))] (zm L I J r) = _ := cGetO (by omega) ho hq hb hm (by omega) (by omega)
    have w := hx k hk
    have hu := yUn_b (s := s) hx k (by omega)
    have ev : zi (b.2 k f) = zi (((b.2 k f).toNat : Nat) : Int) := congrArg zi (by omega)
    rw [(eX7_union_1 hot), h3, if_neg (show ¬ zi (b.1 : Int) ≤ zi ((k : Nat) : Int) by rw [zi_le (by omega) (by omega)]; omega), yUn]
    by_cases q : s.testBit k = true
    · rw [if_neg (show ¬ zus (zi (s : Int)) (zi ((k : Nat) : Int)) &&& (1 : Int32) = 0 by rw [yZusB hs (by omega), q]; decide), g, zbI_s, Int.toNat_natCast, Int.toNat_natCast, (eX7_union_2 hot), (eX7_union_3 hot), k1, if_pos q, ev, yOr (by omega) (by omega)]
    · rw [if_pos (show zus (zi (s : Int)) (zi ((k : Nat) : Int)) &&& (1 : Int32) = 0 by rw [yZusB hs (by omega)]; exact Bool.not_eq_true _ ▸ q), (eX7_union_3 hot), k1, if_neg q])
  have z0 : zX 0 (zCd zT e) zc_X7_union 1 [some (.ref o), some (.int (zi (f : Int))), some (.int (zi (s : Int))), some (.int 0), some (.int 0)] [] (zm L I J r) = _ := c1
  rw [(qX7_union hot), (eX7_union_0 hot), z0, (eX7_union_1 hot), h3, if_pos (Int32.le_refl _), (eX7_union_4 hot)]
theorem cSm (hd : 3 ≤ d) {o q : Nat} (ho : o = 39 + 2 * q) (hq : q < 8) {b : yTb} (hb : cTb o q I b) (hm : b.1 ≤ zMs q) {f s : Nat} (hf : f < zWd q) (hs : s < 2147483648) : zCd zT d 74 [.ref o, .int (zi (f : Int)), .int (zi (s : Int))] (zm L I J r) = some (some (.int (zi (ySm b f s b.1))), (zm L I J r)) := by
  obtain ⟨e, rfl⟩ : ∃ e, d = e + 1 := ⟨d - 1, by omega⟩
  have hM : zMs q ≤ 20 := by
    obtain rfl | rfl | rfl | rfl | rfl | rfl | rfl | rfl : q = 0 ∨ q = 1 ∨ q = 2 ∨ q = 3 ∨ q = 4 ∨ q = 5 ∨ q = 6 ∨ q = 7 := by omega
    all_goals decide
  have hot : o ∈ zTabs := by
    subst ho
    obtain rfl | rfl | rfl | rfl | rfl | rfl | rfl | rfl : q = 0 ∨ q = 1 ∨ q = 2 ∨ q = 3 ∨ q = 4 ∨ q = 5 ∨ q = 6 ∨ q = 7 := by omega
    all_goals decide
  have h3 : I o 3 = zi b.1 := hb.2.2.1
  have c1 := zFor (n := b.1) (G := fun k => zX 0 (zCd zT e) zc_X7_sum 1 [some (.ref o), some (.int (zi (f : Int))), some (.int (zi (s : Int))), some (.int (zi (ySm b f s k))), some (.int (zi ((k : Nat) : Int)))] [] (zm L I J r)) (fun k hk => by
    have k1 : zi ((k : Nat) : Int) + (1 : Int32) = zi ((k + 1 : Nat) : Int) := zi_add _ 1
    have g : zCd zT e 68 [.ref o, .int (zi ((k : Nat) : Int)), .int (zi (f : Int))] (zm L I J r) = _ := cGetO (by omega) ho hq hb hm (by omega) (by omega)
    rw [(eX7_sum_1 hot), h3, if_neg (show ¬ zi (b.1 : Int) ≤ zi ((k : Nat) : Int) by rw [zi_le (by omega) (by omega)]; omega), ySm]
    by_cases q : s.testBit k = true
    · rw [if_neg (show ¬ zus (zi (s : Int)) (zi ((k : Nat) : Int)) &&& (1 : Int32) = 0 by rw [yZusB hs (by omega), q]; decide), g, zbI_s, Int.toNat_natCast, Int.toNat_natCast, (eX7_sum_2 hot), (eX7_sum_3 hot), k1, if_pos q, zi_add]
    · rw [if_pos (show zus (zi (s : Int)) (zi ((k : Nat) : Int)) &&& (1 : Int32) = 0 by rw [yZusB hs (by omega)]; exact Bool.not_eq_true _ ▸ q), (eX7_sum_3 hot), k1, if_neg q])
  have z0 : zX 0 (zCd zT e) zc_X7_sum 1 [some (.ref o), some (.int (zi (f : Int))), some (.int (zi (s : Int))), some (.int 0), some (.int 0)] [] (zm L I J r) = _ := c1
  rw [(qX7_sum hot), (eX7_sum_0 hot), z0, (eX7_sum_1 hot), h3, if_pos (Int32.le_refl _), (eX7_sum_4 hot)]
end
