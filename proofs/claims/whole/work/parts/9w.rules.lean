/-! RULES: sets of bits, a state of TRAINS and SENSORS, may one leave -/
def yBset (f : Nat → Bool) : Nat → Nat
  | 0 => 0
  | k + 1 => if f k = true then yBset f k ||| 2 ^ k else yBset f k
theorem yBset_b {f : Nat → Bool} : ∀ n, yBset f n < 2 ^ n ∧ ∀ i, (yBset f n).testBit i = (decide (i < n) && f i) := by
  intro n
  induction n with
  | zero => exact ⟨Nat.two_pow_pos 0, fun i => by rw [yBset, Nat.zero_testBit, decide_eq_false (Nat.not_lt_zero i), Bool.false_and]⟩
  | succ n ih =>
    have hp : 2 ^ n < 2 ^ (n + 1) := Nat.pow_lt_pow_right (by decide) (Nat.lt_succ_self n)
    rw [yBset]
    by_cases q : f n = true
    · rw [if_pos q]
      refine ⟨Nat.or_lt_two_pow (Nat.lt_trans ih.1 hp) hp, fun i => ?_⟩
      rw [Nat.testBit_or, ih.2 i, yB2]
      by_cases e : i = n
      · rw [e, q, decide_eq_true rfl, decide_eq_true (Nat.lt_succ_self n), Bool.or_true, Bool.and_true]
      · rw [decide_eq_false e, Bool.or_false]
        by_cases w : i < n
        · rw [decide_eq_true w, decide_eq_true (show i < n + 1 by omega)]
        · rw [decide_eq_false w, decide_eq_false (show ¬ i < n + 1 by omega)]
    · rw [if_neg q]
      refine ⟨Nat.lt_trans ih.1 hp, fun i => ?_⟩
      rw [ih.2 i]
      by_cases e : i = n
      · rw [e, Bool.eq_false_iff.mpr q, Bool.and_false, Bool.and_false]
      · by_cases w : i < n
        · rw [decide_eq_true w, decide_eq_true (show i < n + 1 by omega)]
        · rw [decide_eq_false w, decide_eq_false (show ¬ i < n + 1 by omega)]
/-- what a SENSOR is told to show: 0 the truth, 1 free, 2 not free -/
def yLi (l b : Nat) : Nat := l / 3 ^ b % 3
def yFr (l : Nat) : Nat := yBset (fun b => decide (yLi l b = 1)) 6
def yFl (l : Nat) : Nat := yBset (fun b => decide (yLi l b = 2)) 6
def yEn (t l : Nat) : Nat := t + 64 * yFr l + 4096 * yFl l
def ySw (t l : Nat) : Nat := yBset (fun b => if yLi l b = 0 then !t.testBit b else decide (yLi l b = 1)) 6
theorem yEn_b {t l : Nat} (ht : t < 64) : yFr l < 64 ∧ yFl l < 64 ∧ yEn t l < 262144 ∧ (∀ i, i < 6 → (yEn t l).testBit i = t.testBit i) ∧ yEn t l >>> 6 = yFr l + 64 * yFl l ∧ yEn t l >>> 12 = yFl l ∧ ∀ i, i < 6 → (yEn t l >>> 6).testBit i = decide (yLi l i = 1) ∧ (yEn t l >>> 12).testBit i = decide (yLi l i = 2) := by
  have h1 := yBset_b (f := fun b => decide (yLi l b = 1)) 6
  have h2 := yBset_b (f := fun b => decide (yLi l b = 2)) 6
  have b1 : yFr l < 64 := h1.1
  have b2 : yFl l < 64 := h2.1
  have e6 : yEn t l >>> 6 = yFr l + 64 * yFl l := by
    rw [Nat.shiftRight_eq_div_pow]
    unfold yEn
    show (t + 64 * yFr l + 4096 * yFl l) / 64 = _
    omega
  have e12 : yEn t l >>> 12 = yFl l := by
    rw [Nat.shiftRight_eq_div_pow]
    unfold yEn
    show (t + 64 * yFr l + 4096 * yFl l) / 4096 = _
    omega
  have lowb : ∀ x z i : Nat, i < 6 → x < 64 → (x + 64 * z).testBit i = x.testBit i := by
    intro x z i hi hx
    have h3 : (x + 64 * z) % 2 ^ 6 = x := by
      show (x + 64 * z) % 64 = x
      omega
    have h4 : ((x + 64 * z) % 2 ^ 6).testBit i = (decide (i < 6) && (x + 64 * z).testBit i) := Nat.testBit_mod_two_pow _ _ _
    rw [h3, decide_eq_true hi, Bool.true_and] at h4
    exact h4.symm
  refine ⟨b1, b2, by unfold yEn; omega, fun i hi => ?_, e6, e12, fun i hi => ⟨?_, ?_⟩⟩
  · have := lowb t (yFr l + 64 * yFl l) i hi ht
    rw [← this]
    unfold yEn
    congr 1
    omega
  · rw [e6, lowb _ _ i hi b1]
    unfold yFr
    rw [h1.2 i, decide_eq_true hi, Bool.true_and]
  · rw [e12]
    unfold yFl
    rw [h2.2 i, decide_eq_true hi, Bool.true_and]
theorem yLi_b {l b : Nat} : yLi l b = 0 ∨ yLi l b = 1 ∨ yLi l b = 2 := by
  have : yLi l b < 3 := Nat.mod_lt _ (by decide)
  omega
theorem ySw_b {t l : Nat} : ySw t l < 64 ∧ ∀ i, i < 6 → (ySw t l).testBit i = if yLi l i = 0 then !t.testBit i else decide (yLi l i = 1) := by
  have h := yBset_b (f := fun b => if yLi l b = 0 then !t.testBit b else decide (yLi l b = 1)) 6
  refine ⟨h.1, fun i hi => ?_⟩
  unfold ySw
  rw [h.2 i, decide_eq_true hi, Bool.true_and]
theorem yShw_i {t l : Nat} (ht : t < 64) : (((zi ((yEn t l : Nat) : Int) ^^^ (-1 : Int32)) ||| zus (zi ((yEn t l : Nat) : Int)) (6 : Int32)) &&& (zus (zi ((yEn t l : Nat) : Int)) (12 : Int32) ^^^ (-1 : Int32))) &&& (63 : Int32) = zi ((ySw t l : Nat) : Int) := by
  have h := yEn_b (l := l) ht
  have hs := ySw_b (t := t) (l := l)
  have m1 : (-1 : Int32).toBitVec = BitVec.allOnes 32 := by decide
  have m63 : (63 : Int32).toBitVec = BitVec.ofNat 32 63 := by decide
  have hm63 : ∀ i, (63 : Nat).testBit i = decide (i < 6) := fun i => Nat.testBit_two_pow_sub_one 6 i
  rw [show (6 : Int32) = zi ((6 : Nat) : Int) from rfl, show (12 : Int32) = zi ((12 : Nat) : Int) from rfl, yZus (by omega) (by decide), yZus (by omega) (by decide)]
  refine Int32.toBitVec_inj.mp (BitVec.eq_of_getLsbD_eq fun i hi => ?_)
  rw [Int32.toBitVec_and, Int32.toBitVec_and, Int32.toBitVec_or, Int32.toBitVec_xor, Int32.toBitVec_xor, yBv, yBv, yBv, yBv, m1, m63, BitVec.getLsbD_and, BitVec.getLsbD_and, BitVec.getLsbD_or, BitVec.getLsbD_xor, BitVec.getLsbD_xor, BitVec.getLsbD_ofNat, BitVec.getLsbD_ofNat, BitVec.getLsbD_ofNat, BitVec.getLsbD_ofNat, BitVec.getLsbD_ofNat, BitVec.getLsbD_allOnes, decide_eq_true hi, Bool.true_and, Bool.true_and, Bool.true_and, Bool.true_and, Bool.true_and, Bool.xor_true, Bool.xor_true, hm63]
  by_cases w : i < 6
  · rw [decide_eq_true w, Bool.and_true, h.2.2.2.1 i w, (h.2.2.2.2.2.2 i w).1, (h.2.2.2.2.2.2 i w).2, hs.2 i w]
    rcases yLi_b (l := l) (b := i) with q | q | q
    · rw [if_pos q, q]
      cases t.testBit i <;> rfl
    · rw [if_neg (by omega), q]
      cases t.testBit i <;> rfl
    · rw [if_neg (by omega), q]
      cases t.testBit i <;> rfl
  · rw [decide_eq_false w, Bool.and_false, Nat.testBit_lt_two_pow (Nat.lt_of_lt_of_le (show ySw t l < 2 ^ 6 from hs.1) (Nat.pow_le_pow_right (by decide) (by omega)))]
def yAny (f : Nat → Bool) (n : Nat) : Bool := decide (zFs f n < n)
theorem yAny_i {f : Nat → Bool} {n : Nat} : yAny f n = true ↔ ∃ k, k < n ∧ f k = true := by
  unfold yAny
  rw [decide_eq_true_iff]
  constructor
  · exact fun h => ⟨_, h, zFs_s h⟩
  · rintro ⟨k, hk, hf⟩
    by_cases w : zFs f n < n
    · exact w
    · have := zFs_n (stop := f) (n := n) (j := k) (by omega)
      rw [hf] at this
      cases this
def yNx (nb b : Nat) : Nat := if b + 1 < nb then b + 1 else 0
theorem yNx_b {nb b : Nat} (h : b < nb) : yNx nb b < nb := by
  unfold yNx
  split <;> omega
def yOf (u : yRl) (b : Nat) : Bool := yAny (fun k => decide (u.2.1 k = b)) u.1
def yHo2 (u : yRl) (S b : Nat) : Bool := yAny (fun k => decide (u.2.1 k = b) && u.2.2 k S) u.1
def yMa (u : yRl) (nb S b : Nat) : Bool := if nb < 2 then false else if yOf u b = true then yHo2 u S b else S.testBit (yNx nb b)
theorem yZsf {b s : Nat} (hb : b < 6) (hs : s < 64) : lg_cmp (zul (zsf b) (zi (s : Int)) &&& 1) 0 = 0 ↔ s.testBit b = false := by
  have key : ∀ b : Fin 6, ∀ s : Fin 64, lg_cmp (zul (zsf b.1) (zi ((s.1 : Nat) : Int)) &&& 1) 0 = 0 ↔ s.1.testBit b.1 = false := by decide +kernel
  exact key ⟨b, hb⟩ ⟨s, hs⟩
section
variable {d L r : Nat} {I : Nat → Nat → Int32} {J : Nat → Nat → Int64}
variable {u : yRl}
theorem cAllow (hd : 2 ≤ d) (hu : cRl 0 I J u) {b x S : Nat} (hb : b < 6) (hx : x < 6) (hS : S < 64) : zCd zT d 46 [.ref 37, .int (zi (b : Int)), .int (zi (x : Int)), .int (zi (S : Int))] (zm L I J r) = some (some (.int (zb1 (if yOf u b = true then yHo2 u S b else S.testBit x))), zm L I J r) := by
  have h1 := hu.2.1 b hb
  have h2 := hu.2.2 b S hb hS
  have h3 := yZsf hx hS
  have e1 : zus (I 37 1) (zi (b : Int)) &&& 1 = 0 ↔ ¬ yOf u b = true := by
    refine h1.trans (not_congr ?_)
    unfold yOf
    rw [yAny_i]
    constructor
    · rintro ⟨k, hk, he⟩
      exact ⟨k, hk, decide_eq_true he⟩
    · rintro ⟨k, hk, he⟩
      exact ⟨k, hk, of_decide_eq_true he⟩
  have e2 : lg_cmp (zul (J 38 b) (zi (S : Int)) &&& 1) 0 = 0 ↔ ¬ yHo2 u S b = true := by
    refine h2.trans (not_congr ?_)
    unfold yHo2
    rw [yAny_i]
    constructor
    · rintro ⟨k, hk, he, hw⟩
      exact ⟨k, hk, by rw [decide_eq_true he, hw]; rfl⟩
    · rintro ⟨k, hk, he⟩
      rw [Bool.and_eq_true] at he
      exact ⟨k, hk, of_decide_eq_true he.1, he.2⟩
  rw [sX5_allow hd, if_neg (show ¬ zi (b : Int) < (0 : Int32) by rw [show (0 : Int32) = zi 0 from rfl, zi_lt (by omega) (by decide)]; omega), if_pos (show zi (b : Int) < (6 : Int32) by rw [show (6 : Int32) = zi 6 from rfl, zi_lt (by omega) (by decide)]; omega)]
  by_cases q : yOf u b = true
  · rw [if_neg (fun w => e1.mp w q), zin_t (by omega) (by omega), zgd_t, zi_cl (by omega), Int.toNat_natCast, if_pos q]
    by_cases q2 : yHo2 u S b = true
    · rw [if_neg (fun w => e2.mp w q2), q2]
      rfl
    · rw [if_pos (e2.mpr q2), Bool.eq_false_iff.mpr q2]
      rfl
  · rw [if_pos (e1.mpr q), if_neg (show ¬ zi (x : Int) < (0 : Int32) by rw [show (0 : Int32) = zi 0 from rfl, zi_lt (by omega) (by decide)]; omega), if_pos (show zi (x : Int) < (6 : Int32) by rw [show (6 : Int32) = zi 6 from rfl, zi_lt (by omega) (by decide)]; omega), zin_t (by omega) (by omega), zgd_t, zi_cl (by omega), Int.toNat_natCast, if_neg q]
    cases q2 : S.testBit x
    · rw [if_pos (h3.mpr q2)]
      rfl
    · rw [if_neg (fun w => by have := h3.mp w; rw [q2] at this; cases this)]
      rfl
theorem cNxt (hd : 1 ≤ d) {nb b : Nat} (hb : b < nb) (hn : nb ≤ 6) (h5 : I 121 5 = zi (nb : Int)) : zCd zT d 57 [.ref 121, .int (zi (b : Int))] (zm L I J r) = some (some (.int (zi ((yNx nb b : Nat) : Int))), (zm L I J r)) := by
  have k1 : zi (b : Int) + (1 : Int32) = zi ((b + 1 : Nat) : Int) := zi_add _ 1
  have e1 : zi ((b + 1 : Nat) : Int) < zi (nb : Int) ↔ b + 1 < nb := by
    rw [zi_lt (by omega) (by omega)]
    omega
  unfold yNx
  rw [sX6_nextTo hd, h5, k1]
  by_cases q : b + 1 < nb
  · rw [if_pos (e1.mpr q), if_pos q]
  · rw [if_neg (fun w => q (e1.mp w)), if_neg q]
    rfl
theorem cIn (hd : 1 ≤ d) {s k : Nat} (hs : s < 2147483648) (hk : k < 32) : zCd zT d 56 [.int (zi (s : Int)), .int (zi (k : Int))] (zm L I J r) = some (some (.int (zb1 (s.testBit k))), (zm L I J r)) := by
  rw [sX6_isIn hd]
  cases q : s.testBit k
  · rw [if_pos ((yZusB hs hk).mpr q)]
    rfl
  · rw [if_neg (fun w => by have := (yZusB hs hk).mp w; rw [q] at this; cases this)]
    rfl
theorem cMay (hd : 3 ≤ d) (hu : cRl 0 I J u) {nb b t l : Nat} (hb : b < nb) (hn : nb ≤ 6) (h5 : I 121 5 = zi (nb : Int)) (ht : t < 64) : zCd zT d 55 [.ref 121, .int (zi ((yEn t l : Nat) : Int)), .int (zi (b : Int))] (zm L I J 37) = some (some (.int (zb1 (t.testBit b && yMa u nb (ySw t l) b))), zm L I J 37) := by
  obtain ⟨e, rfl⟩ : ∃ e, d = e + 1 := ⟨d - 1, by omega⟩
  have hE := yEn_b (l := l) ht
  have hS := ySw_b (t := t) (l := l)
  have e5 : zi (nb : Int) < (2 : Int32) ↔ nb < 2 := by
    rw [show (2 : Int32) = zi 2 from rfl, zi_lt (by omega) (by decide)]
    omega
  unfold yMa
  rw [qX6_mayLeave, eX6_mayLeave_0, h5]
  by_cases q1 : nb < 2
  · rw [if_pos (e5.mpr q1), if_pos q1, eX6_mayLeave_2, Bool.and_false]
    rfl
  · rw [if_neg (fun w => q1 (e5.mp w)), if_neg q1, cIn (by omega) (by omega) (by omega), zbI_s, eX6_mayLeave_1, hE.2.2.2.1 b (by omega)]
    cases q2 : t.testBit b
    · rw [if_pos (show zb1 false = 0 from rfl), eX6_mayLeave_2, Bool.false_and]
      rfl
    · have nx := yNx_b hb
      rw [if_neg (show ¬ zb1 true = 0 by decide), eX6_mayLeave_3, show (decide (16 ≤ 37) && true) = true from rfl, zgd_t, zgd_t, cNxt (by omega) hb hn h5, zbI_s, yShw_i ht, eX6_mayLeave_4, cAllow (by omega) hu (by omega) (by omega) hS.1, zbI_s, eX6_mayLeave_5, Bool.true_and]
      cases (if yOf u b = true then yHo2 u (ySw t l) b else (ySw t l).testBit (yNx nb b))
      · rw [if_pos (show zb1 false = 0 from rfl), eX6_mayLeave_6, eX6_mayLeave_7]
        rfl
      · rw [if_neg (show ¬ zb1 true = 0 by decide), eX6_mayLeave_7]
        rfl
end
