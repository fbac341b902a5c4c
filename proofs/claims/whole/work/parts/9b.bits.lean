/-! BITS -/
theorem yBv {s : Nat} : (zi (s : Int)).toBitVec = BitVec.ofNat 32 s := BitVec.ofInt_natCast 32 s
theorem yBn {s : Nat} (h : s < 4294967296) : (zi (s : Int)).toBitVec.toNat = s := by
  rw [yBv, BitVec.toNat_ofNat]
  exact Nat.mod_eq_of_lt h
theorem yBi {x : Int32} {n : Nat} (hn : n < 4294967296) (h : x.toBitVec.toNat = n) : x = zi (n : Int) := by
  refine Int32.toBitVec_inj.mp (BitVec.eq_of_toNat_eq ?_)
  rw [h, yBn hn]
theorem yOr {a b : Nat} (ha : a < 2147483648) (hb : b < 2147483648) : zi (a : Int) ||| zi (b : Int) = zi ((a ||| b : Nat) : Int) := by
  have h : a ||| b < 2 ^ 31 := Nat.or_lt_two_pow (n := 31) ha hb
  refine yBi (by omega) ?_
  rw [Int32.toBitVec_or, BitVec.toNat_or, yBn (by omega), yBn (by omega)]
theorem yAnd {a b : Nat} (ha : a < 2147483648) (hb : b < 2147483648) : zi (a : Int) &&& zi (b : Int) = zi ((a &&& b : Nat) : Int) := by
  have h : a &&& b ≤ a := Nat.and_le_left
  refine yBi (by omega) ?_
  rw [Int32.toBitVec_and, BitVec.toNat_and, yBn (by omega), yBn (by omega)]
theorem yShl {n : Nat} (hn : n < 31) : (1 : Int32) <<< (zi (n : Int) &&& 31) = zi ((2 ^ n : Nat) : Int) := by
  have key : ∀ n : Fin 31, (1 : Int32) <<< (zi ((n.1 : Nat) : Int) &&& 31) = zi ((2 ^ n.1 : Nat) : Int) := by decide +kernel
  exact key ⟨n, hn⟩
theorem y31 {n : Nat} (hn : n < 32) : zi (n : Int) &&& 31 = zi (n : Int) := by
  have key : ∀ n : Fin 32, zi ((n.1 : Nat) : Int) &&& 31 = zi ((n.1 : Nat) : Int) := by decide +kernel
  exact key ⟨n, hn⟩
theorem yBit1 {m : Nat} (hm : m < 2147483648) : (zi (m : Int) &&& (1 : Int32) = 0) ↔ m.testBit 0 = false := by
  have h1 : (1 : Int32) = zi ((1 : Nat) : Int) := rfl
  have h2 : m &&& 1 = m % 2 := Nat.and_one_is_mod m
  rw [h1, yAnd hm (by decide), h2, show (0 : Int32) = zi 0 from rfl, zi_eq (by omega) (by decide), Nat.testBit_zero, decide_eq_false_iff_not]
  omega
theorem yZus {s k : Nat} (hs : s < 2147483648) (hk : k < 32) : zus (zi (s : Int)) (zi (k : Int)) = zi ((s >>> k : Nat) : Int) := by
  have hle : s >>> k ≤ s := Nat.shiftRight_le s k
  refine yBi (by omega) ?_
  have e1 : (zi (k : Int)).toUInt32 &&& Int32.toUInt32 31 = (zi (k : Int)).toUInt32 := by
    have := y31 hk
    exact congrArg Int32.toUInt32 this
  unfold zus
  rw [e1]
  show ((zi (s : Int)).toUInt32 >>> (zi (k : Int)).toUInt32).toNat = _
  rw [UInt32.toNat_shiftRight]
  show (zi (s : Int)).toBitVec.toNat >>> ((zi (k : Int)).toBitVec.toNat % 32) = _
  rw [yBn (by omega), yBn (by omega), Nat.mod_eq_of_lt hk]
theorem yZusB {s k : Nat} (hs : s < 2147483648) (hk : k < 32) : (zus (zi (s : Int)) (zi (k : Int)) &&& (1 : Int32) = 0) ↔ s.testBit k = false := by
  have hle : s >>> k ≤ s := Nat.shiftRight_le s k
  rw [yZus hs hk, yBit1 (by omega), Nat.testBit_shiftRight, Nat.add_zero]
theorem yShr {s k : Nat} (hs : s < 2147483648) (hk : k < 32) : zi (s : Int) >>> (zi (k : Int) &&& 31) = zi ((s >>> k : Nat) : Int) := by
  have hle : s >>> k ≤ s := Nat.shiftRight_le s k
  rw [y31 hk]
  refine yBi (by omega) ?_
  have hm : ∀ k : Fin 32, (BitVec.ofNat 32 k.1).smod 32 = BitVec.ofNat 32 k.1 := by decide +kernel
  have h1 : (BitVec.ofNat 32 k).smod 32 = BitVec.ofNat 32 k := hm ⟨k, hk⟩
  rw [Int32.toBitVec_shiftRight, yBv, yBv, h1]
  show (BitVec.sshiftRight (BitVec.ofNat 32 s) (BitVec.ofNat 32 k).toNat).toNat = _
  have h2 : (BitVec.ofNat 32 s).msb = false := by
    rw [BitVec.msb_eq_false_iff_two_mul_lt, BitVec.toNat_ofNat, Nat.mod_eq_of_lt (by omega)]
    omega
  rw [BitVec.sshiftRight_eq_of_msb_false h2, BitVec.toNat_ushiftRight, BitVec.toNat_ofNat, BitVec.toNat_ofNat, Nat.mod_eq_of_lt (show s < 2 ^ 32 by omega), Nat.mod_eq_of_lt (show k < 2 ^ 32 by omega)]
theorem yShrB {s k : Nat} (hs : s < 2147483648) (hk : k < 32) : ((zi (s : Int) >>> (zi (k : Int) &&& 31)) &&& (1 : Int32) = 0) ↔ s.testBit k = false := by
  have hle : s >>> k ≤ s := Nat.shiftRight_le s k
  rw [yShr hs hk, yBit1 (by omega), Nat.testBit_shiftRight, Nat.add_zero]
