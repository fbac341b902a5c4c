/-! RUN's question -/
theorem zlc_lt (x y : Int64) : lg_cmp x y < 0 ↔ x < y := by
  unfold lg_cmp
  rw [Int64.lt_iff_toInt_lt]
  by_cases h : x > y
  · rw [if_pos h]
    have := Int64.lt_iff_toInt_lt.mp h
    exact ⟨fun q => absurd q (by decide), fun q => by omega⟩
  · rw [if_neg h]
    have h1 : ¬ y.toInt < x.toInt := fun q => h (Int64.lt_iff_toInt_lt.mpr q)
    by_cases g : x = y
    · rw [if_pos g, g]
      exact ⟨fun q => absurd q (by decide), fun q => by omega⟩
    · rw [if_neg g]
      have g1 : ¬ x.toInt = y.toInt := fun q => g (Int64.toInt_inj.mp q)
      exact ⟨fun _ => by omega, fun _ => by decide⟩
theorem zlc_gt (x y : Int64) : 0 < lg_cmp x y ↔ y < x := by
  unfold lg_cmp
  by_cases h : x > y
  · rw [if_pos h]
    exact ⟨fun _ => h, fun _ => by decide⟩
  · rw [if_neg h]
    by_cases g : x = y
    · rw [if_pos g]
      exact ⟨fun q => absurd q (by decide), fun q => absurd q h⟩
    · rw [if_neg g]
      exact ⟨fun q => absurd q (by decide), fun q => absurd q h⟩
def zbo (x lo hi : Int) : Bool := decide (x < lo ∨ hi < x)
/-- the refusals' order -/
def zRf (a b : Bool) (n : Nat) : Int := if a = true then -2 else if b = true then -3 else if n = 0 then -5 else 0
section
variable {d L r : Nat} {I : Nat → Nat → Int32} {J : Nat → Nat → Int64} {t : zDy}
theorem mWithin (hd : 1 ≤ d) {x : Int} (hx : -2147483648 ≤ x ∧ x < 2147483648) {a b : Int64} : zCd zT d 240 [.long (zi x).toInt64, .long a, .long b] (zm L I J r) = some (some (.int (zb1 (!zbo x a.toInt b.toInt))), zm L I J r) := by
  have e : (zi x).toInt64.toInt = x := by rw [Int32.toInt_toInt64, zi_val hx]
  rw [sX12_within hd]
  have k : (if lg_cmp (zi x).toInt64 a < 0 then (0 : Int32) else if 0 < lg_cmp (zi x).toInt64 b then 0 else 1) = zb1 (!zbo x a.toInt b.toInt) := by
    simp only [zlc_lt, zlc_gt, Int64.lt_iff_toInt_lt, e]
    unfold zbo
    by_cases h1 : x < a.toInt
    · rw [if_pos h1, decide_eq_true (Or.inl h1)]
      rfl
    · rw [if_neg h1]
      by_cases h2 : b.toInt < x
      · rw [if_pos h2, decide_eq_true (Or.inr h2)]
        rfl
      · rw [if_neg h2, decide_eq_false (fun q => q.elim h1 h2)]
        rfl
  rw [k]
theorem cOut (hd : 1 ≤ d) {x lo hi : Int} (hx : -2147483648 ≤ x ∧ x < 2147483648) (h1 : -2147483648 ≤ lo ∧ lo < 2147483648) (h2 : -2147483648 ≤ hi ∧ hi < 2147483648) : zCd zT d 225 [.int (zi x), .int (zi lo), .int (zi hi)] (zm L I J r) = some (some (.int (zb1 (zbo x lo hi))), zm L I J r) := by
  rw [sX11_outside hd]
  simp only [zi_lt hx h1, zi_le hx h2]
  have k : (if x < lo then (1 : Int32) else if x ≤ hi then 0 else 1) = zb1 (zbo x lo hi) := by
    unfold zbo
    by_cases q1 : x < lo
    · rw [if_pos q1, decide_eq_true (Or.inl q1)]
      rfl
    · rw [if_neg q1]
      by_cases q2 : x ≤ hi
      · rw [if_pos q2, decide_eq_false (by omega)]
        rfl
      · rw [if_neg q2, decide_eq_true (by omega)]
        rfl
  rw [k]
theorem cBadW (hd : 2 ≤ d) {x : Int} (hx : -2147483648 ≤ x ∧ x < 2147483648) : zCd zT d 226 [.int (zi x)] (zm L I J r) = some (some (.int (zb1 (zbo x 1 20))), zm L I J r) := by
  rw [sX11_badWeight hd]
  have k : (if zi x < (1 : Int32) then (1 : Int32) else if zi x ≤ (20 : Int32) then 0 else 1) = zb1 (zbo x 1 20) := by
    unfold zbo
    simp (disch := omega) only [show (1 : Int32) = zi 1 from rfl, show (20 : Int32) = zi 20 from rfl, zi_lt, zi_le]
    by_cases q1 : x < 1
    · rw [if_pos q1, decide_eq_true (Or.inl q1)]
      rfl
    · rw [if_neg q1]
      by_cases q2 : x ≤ 20
      · rw [if_pos q2, decide_eq_false (by omega)]
        rfl
      · rw [if_neg q2, decide_eq_true (by omega)]
        rfl
  rw [k, zb1_01, zgd_t]
theorem mWeight (hd : 1 ≤ d) {x : Int} (hx : -2147483648 ≤ x ∧ x < 2147483648) : zCd zT d 280 [.int (zi x)] (zm L I J r) = some (some (.int (zb1 (!zbo x 1 20))), zm L I J r) := by
  rw [sX12_isWeight hd]
  have k : (if zi x < (1 : Int32) then (0 : Int32) else if (20 : Int32) < zi x then 0 else 1) = zb1 (!zbo x 1 20) := by
    unfold zbo
    have e1 : zi x < (1 : Int32) ↔ x < 1 := zi_lt (y := 1) hx (by decide)
    have e2 : (20 : Int32) < zi x ↔ 20 < x := zi_lt (x := 20) (by decide) hx
    simp only [e1, e2]
    by_cases q1 : x < 1
    · rw [if_pos q1, decide_eq_true (Or.inl q1)]
      rfl
    · rw [if_neg q1]
      by_cases q2 : 20 < x
      · rw [if_pos q2, decide_eq_true (by omega)]
        rfl
      · rw [if_neg q2, decide_eq_false (by omega)]
        rfl
  rw [k]
theorem mAir (hd : 1 ≤ d) {x : Int} (hx : -2147483648 ≤ x ∧ x < 2147483648) : zCd zT d 281 [.int (zi x)] (zm L I J r) = some (some (.int (zb1 (!zbo x 0 99))), zm L I J r) := by
  rw [sX12_isAir hd]
  have k : (if zi x < (0 : Int32) then (0 : Int32) else if (99 : Int32) < zi x then 0 else 1) = zb1 (!zbo x 0 99) := by
    unfold zbo
    have e1 : zi x < (0 : Int32) ↔ x < 0 := zi_lt (y := 0) hx (by decide)
    have e2 : (99 : Int32) < zi x ↔ 99 < x := zi_lt (x := 99) (by decide) hx
    simp only [e1, e2]
    by_cases q1 : x < 0
    · rw [if_pos q1, decide_eq_true (Or.inl q1)]
      rfl
    · rw [if_neg q1]
      by_cases q2 : 99 < x
      · rw [if_pos q2, decide_eq_true (by omega)]
        rfl
      · rw [if_neg q2, decide_eq_false (by omega)]
        rfl
  rw [k]
theorem cRef (hd : 3 ≤ d) (h : zTI I J t) (a b : Bool) : zCd zT d 219 [.ref 16, .int (zb1 a), .int (zb1 b)] (zm L I J r) = some (some (.int (zi (zRf a b t.n))), zm L I J r) := by
  have hw := h.2.2.1.1
  have e : I 32 5 = zi t.n := h.1.1
  rw [sX11_refusal hd, e]
  have e0 : zi (t.n : Int) = 0 ↔ t.n = 0 := by
    rw [show (0 : Int32) = zi 0 from rfl, zi_eq (by omega) (by decide)]
    omega
  unfold zRf
  cases a <;> cases b
  · by_cases q : t.n = 0
    · simp only [e0, q, if_true]
      rfl
    · simp only [e0, q, if_false]
      rfl
  · rfl
  · rfl
  · rfl
theorem mTrack (hd : 1 ≤ d) (h : zTI I J t) : zCd zT d 242 [.ref 130] (zm L I J r) = some (some (.int (zb1 (decide (0 < t.n)))), zm L I J r) := by
  have hw := h.2.2.1.1
  have e : I 131 0 = zi t.n := h.2.1.1
  rw [sX12_isTrack hd, e]
  have e0 : zi (t.n : Int) ≤ 0 ↔ ¬ 0 < t.n := by
    rw [show (0 : Int32) = zi 0 from rfl, zi_le (by omega) (by decide)]
    omega
  by_cases q : 0 < t.n
  · rw [if_neg (fun w => e0.mp w q), decide_eq_true q]
    rfl
  · rw [if_pos (e0.mpr q), decide_eq_false q]
    rfl
end
