/-! LONGS as sets of bits -/
def yLb64 (x : Int64) (i : Nat) : Bool := x.toBitVec.toNat.testBit i
theorem yLz (x : Int64) : lg_cmp x 0 = 0 ↔ x.toBitVec.toNat = 0 := by
  have h1 : lg_cmp x 0 = 0 ↔ x = 0 := by
    unfold lg_cmp
    by_cases q : x = 0
    · rw [q, if_neg (show ¬ (0 : Int64) > 0 by decide), if_pos rfl]
      exact ⟨fun _ => rfl, fun _ => rfl⟩
    · rw [if_neg q]
      constructor
      · intro w
        split at w
        · exact absurd w (by decide)
        · exact absurd w (by decide)
      · exact fun w => absurd w q
  rw [h1]
  constructor
  · intro w
    rw [w]
    rfl
  · intro w
    exact Int64.toBitVec_inj.mp (BitVec.eq_of_toNat_eq w)
theorem yL1 {i : Nat} (h : i < 64) : ((1 : Int64) <<< ((zi (i : Int)).toInt64 &&& 63)).toBitVec.toNat = 2 ^ i := by
  have key : ∀ i : Fin 64, ((1 : Int64) <<< ((zi ((i.1 : Nat) : Int)).toInt64 &&& 63)).toBitVec.toNat = 2 ^ i.1 := by decide +kernel
  exact key ⟨i, h⟩
theorem yZul {x : Int64} {i : Nat} (h : i < 64) : (zul x (zi (i : Int))).toBitVec.toNat = x.toBitVec.toNat >>> i := by
  have key : ∀ i : Fin 64, ((zi ((i.1 : Nat) : Int)).toInt64.toUInt64 &&& Int64.toUInt64 63) = UInt64.ofNat i.1 := by decide +kernel
  have k1 : ((zi (i : Int)).toInt64.toUInt64 &&& Int64.toUInt64 63) = UInt64.ofNat i := key ⟨i, h⟩
  unfold zul
  rw [k1]
  show (x.toUInt64 >>> UInt64.ofNat i).toNat = _
  rw [UInt64.toNat_shiftRight]
  have e : (UInt64.ofNat i).toNat % 64 = i := by
    have : (UInt64.ofNat i).toNat = i := UInt64.toNat_ofNat_of_lt' (by show i < 2 ^ 64; omega)
    rw [this]
    omega
  rw [e]
  rfl
theorem yA1 {n : Nat} : n &&& 1 = 0 ↔ n.testBit 0 = false := by
  rw [Nat.and_one_is_mod, Nat.testBit_zero, decide_eq_false_iff_not]
  omega
theorem yL64a {x : Int64} {i : Nat} (h : i < 64) : lg_cmp (zul x (zi (i : Int)) &&& 1) 0 = 0 ↔ yLb64 x i = false := by
  rw [yLz, Int64.toBitVec_and, BitVec.toNat_and, yZul h, show (1 : Int64).toBitVec.toNat = 1 from rfl, yA1, Nat.testBit_shiftRight, Nat.add_zero]
  rfl
theorem yA2 {n i : Nat} : n &&& 2 ^ i = 0 ↔ n.testBit i = false := by
  constructor
  · intro h
    have h2 : (n &&& 2 ^ i).testBit i = false := by rw [h, Nat.zero_testBit]
    rw [Nat.testBit_and, yB2, decide_eq_true rfl, Bool.and_true] at h2
    exact h2
  · intro h
    refine Nat.eq_of_testBit_eq fun j => ?_
    rw [Nat.testBit_and, yB2, Nat.zero_testBit]
    by_cases e : j = i
    · rw [e, h, Bool.false_and]
    · rw [decide_eq_false e, Bool.and_false]
theorem yL64b {x : Int64} {i : Nat} (h : i < 64) : lg_cmp (x &&& ((1 : Int64) <<< ((zi (i : Int)).toInt64 &&& 63))) 0 = 0 ↔ yLb64 x i = false := by
  rw [yLz, Int64.toBitVec_and, BitVec.toNat_and, yL1 h, yA2]
  rfl
theorem yL64c {x : Int64} {i j : Nat} (h : i < 64) : yLb64 (x ||| ((1 : Int64) <<< ((zi (i : Int)).toInt64 &&& 63))) j = (yLb64 x j || decide (j = i)) := by
  unfold yLb64
  rw [Int64.toBitVec_or, BitVec.toNat_or, yL1 h, Nat.testBit_or, yB2]
theorem yL64_or {x z : Int64} {j : Nat} : yLb64 (x ||| z) j = (yLb64 x j || yLb64 z j) := by
  unfold yLb64
  rw [Int64.toBitVec_or, BitVec.toNat_or, Nat.testBit_or]
theorem yL64_an {x z : Int64} {j : Nat} : yLb64 (x &&& z) j = (yLb64 x j && yLb64 z j) := by
  unfold yLb64
  rw [Int64.toBitVec_and, BitVec.toNat_and, Nat.testBit_and]
theorem yL64_no {x : Int64} {j : Nat} (h : j < 64) : yLb64 (x ^^^ (-1 : Int64)) j = !yLb64 x j := by
  unfold yLb64
  rw [Int64.toBitVec_xor, BitVec.toNat_xor, Nat.testBit_xor, show (-1 : Int64).toBitVec.toNat = 2 ^ 64 - 1 from rfl, Nat.testBit_two_pow_sub_one, decide_eq_true h, Bool.xor_true]
theorem yL64_0 {j : Nat} : yLb64 0 j = false := by
  unfold yLb64
  rw [show (0 : Int64).toBitVec.toNat = 0 from rfl, Nat.zero_testBit]
