/-! COVER -/
theorem ySub {w u : Nat} (hw : w < 2147483648) : (zi (w : Int) &&& (zi (u : Int) ^^^ (-1 : Int32)) = 0) ↔ u &&& w = w := by
  have m1 : (-1 : Int32).toBitVec = BitVec.allOnes 32 := by decide
  have m0 : (0 : Int32).toBitVec = 0#32 := rfl
  have e : (zi (w : Int) &&& (zi (u : Int) ^^^ (-1 : Int32)) = 0) ↔ ∀ i, i < 32 → (w.testBit i && !(u.testBit i)) = false := by
    rw [← Int32.toBitVec_inj, Int32.toBitVec_and, Int32.toBitVec_xor, yBv, yBv, m1, m0]
    constructor
    · intro h i hi
      have h2 : (BitVec.ofNat 32 w &&& (BitVec.ofNat 32 u ^^^ BitVec.allOnes 32)).getLsbD i = (0#32).getLsbD i := by rw [h]
      rw [BitVec.getLsbD_and, BitVec.getLsbD_xor, BitVec.getLsbD_ofNat, BitVec.getLsbD_ofNat, BitVec.getLsbD_allOnes, BitVec.getLsbD_zero, decide_eq_true hi, Bool.true_and, Bool.true_and, Bool.xor_true] at h2
      exact h2
    · intro h
      refine BitVec.eq_of_getLsbD_eq fun i hi => ?_
      rw [BitVec.getLsbD_and, BitVec.getLsbD_xor, BitVec.getLsbD_ofNat, BitVec.getLsbD_ofNat, BitVec.getLsbD_allOnes, BitVec.getLsbD_zero, decide_eq_true hi, Bool.true_and, Bool.true_and, Bool.xor_true]
      exact h i hi
  rw [e]
  constructor
  · intro h
    refine Nat.eq_of_testBit_eq fun i => ?_
    rw [Nat.testBit_and]
    by_cases hi : i < 32
    · have := h i hi
      cases q1 : w.testBit i
      · rw [Bool.and_false]
      · cases q2 : u.testBit i
        · rw [q1, q2] at this
          cases this
        · rfl
    · have hz : w.testBit i = false := Nat.testBit_lt_two_pow (Nat.lt_of_lt_of_le (show w < 2 ^ 31 by omega) (Nat.pow_le_pow_right (by decide) (by omega)))
      rw [hz, Bool.and_false]
  · intro h i _
    have h2 : (u &&& w).testBit i = w.testBit i := by rw [h]
    rw [Nat.testBit_and] at h2
    cases q1 : w.testBit i
    · rfl
    · cases q2 : u.testBit i
      · rw [q1, q2] at h2
        cases h2
      · rfl
theorem yPc_le {s : Nat} : ∀ k, yPc s k ≤ k := by
  intro k
  induction k with
  | zero => exact Nat.le_refl 0
  | succ k ih =>
    rw [yPc]
    split <;> omega
def yCo (b : yTb) (want : Nat) : Nat → Int × Int
  | 0 => (-1, 0)
  | s + 1 => if yUn b 0 s b.1 &&& want = want ∧ ((yCo b want s).1 = -1 ∨ ySm b 1 s b.1 < (yCo b want s).2 ∨ ySm b 1 s b.1 = (yCo b want s).2 ∧ yPc s 10 < yPc (yCo b want s).1.toNat 10) then ((s : Int), ySm b 1 s b.1) else yCo b want s
theorem yW2 {n m c : Nat} {b : yTb} (hw : wTb n m c 2 b) : b.1 ≤ 10 ∧ (∀ k, k < b.1 → 0 ≤ b.2 k 0 ∧ b.2 k 0 < ((2 ^ 12 : Nat) : Int)) ∧ ∀ k, k < b.1 → 0 ≤ b.2 k 1 ∧ b.2 k 1 ≤ 99 := by
  refine ⟨hw.1, fun k hk => ?_, fun k hk => ?_⟩
  · have a0 : 0 ≤ b.2 k 0 ∧ b.2 k 0 ≤ 4095 := hw.2 k 0 hk (by decide)
    exact ⟨a0.1, by have : ((2 ^ 12 : Nat) : Int) = 4096 := rfl; omega⟩
  · have a1 : 1 ≤ b.2 k 1 ∧ b.2 k 1 ≤ 99 := hw.2 k 1 hk (by decide)
    omega
theorem yCo_b {n m c : Nat} {b : yTb} (hw : wTb n m c 2 b) {want : Nat} : ∀ s, (-1 ≤ (yCo b want s).1 ∧ (yCo b want s).1 < (s : Int)) ∧ 0 ≤ (yCo b want s).2 ∧ (yCo b want s).2 ≤ 990 := by
  intro s
  induction s with
  | zero => exact ⟨⟨Int.le_refl _, by show (-1 : Int) < ((0 : Nat) : Int); decide⟩, by show (0 : Int) ≤ 0; decide, by show (0 : Int) ≤ 990; decide⟩
  | succ s ih =>
    have w := yW2 hw
    have sb := ySm_b (s := s) w.2.2 (by decide) b.1 (Nat.le_refl _)
    rw [yCo]
    split
    · show (-1 ≤ (s : Int) ∧ (s : Int) < ((s + 1 : Nat) : Int)) ∧ 0 ≤ ySm b 1 s b.1 ∧ ySm b 1 s b.1 ≤ 990
      omega
    · omega
section
variable {d L r : Nat} {I : Nat → Nat → Int32} {J : Nat → Nat → Int64}
theorem cCov (hd : 5 ≤ d) {b : yTb} {n m c : Nat} (hb : cTb 43 2 I b) (hw : wTb n m c 2 b) {want : Nat} (hwa : want < 4096) : zCd zT d 174 [.ref 16, .int (zi (want : Int))] (zm L I J r) = some (some (.int (zi (yCo b want (2 ^ b.1)).1)), (zm L I J r)) := by
  obtain ⟨e, rfl⟩ : ∃ e, d = e + 1 := ⟨d - 1, by omega⟩
  have w := yW2 hw
  have hp : 2 ^ b.1 ≤ 2 ^ 10 := Nat.pow_le_pow_right (by decide) w.1
  have hsz : zCd zT e 64 [.ref 43] (zm L I J r) = some (some (.int (zi (b.1 : Int))), (zm L I J r)) := cTSize (b := b) (by omega) (by decide) hb
  have c1 := zFor (n := 2 ^ b.1) (G := fun s => zX 0 (zCd zT e) zc_X11_cheapestCover 1 [some (.ref 16), some (.int (zi (want : Int))), some (.ref 43), some (.int (zi (yCo b want s).1)), some (.int (zi (yCo b want s).2)), some (.int (zi ((s : Nat) : Int))), none, none] [] (zm L I J r)) (fun s hs => by
    have k1 : zi ((s : Nat) : Int) + (1 : Int32) = zi ((s + 1 : Nat) : Int) := zi_add _ 1
    have cu : zCd zT e 73 [.ref 43, .int 0, .int (zi ((s : Nat) : Int))] (zm L I J r) = _ := cUn (L := L) (J := J) (r := r) (f := 0) (B := 12) (q := 2) (by omega) rfl (by decide) hb hw.1 (by decide) (by omega) (by decide) w.2.1
    have cs : zCd zT e 74 [.ref 43, .int 1, .int (zi ((s : Nat) : Int))] (zm L I J r) = _ := cSm (L := L) (J := J) (r := r) (f := 1) (s := s) (q := 2) (by omega) rfl (by decide) hb hw.1 (by decide) (by omega)
    have ub := yUn_b (s := s) w.2.1 b.1 (Nat.le_refl _)
    have sb := ySm_b (s := s) w.2.2 (by decide) b.1 (Nat.le_refl _)
    have pb := yCo_b hw (want := want) s
    have ab : yUn b 0 s b.1 &&& want ≤ want := Nat.and_le_right
    rw [yCo]
    generalize yCo b want s = p at pb ⊢
    obtain ⟨p1, p2⟩ := p
    have pb1 : -1 ≤ p1 ∧ p1 < (s : Int) := pb.1
    have pb2 : 0 ≤ p2 ∧ p2 ≤ 990 := pb.2
    show _ = zX 0 (zCd zT e) zc_X11_cheapestCover 1 [some (.ref 16), some (.int (zi (want : Int))), some (.ref 43), some (.int (zi (if yUn b 0 s b.1 &&& want = want ∧ (p1 = -1 ∨ ySm b 1 s b.1 < p2 ∨ ySm b 1 s b.1 = p2 ∧ yPc s 10 < yPc p1.toNat 10) then ((s : Int), ySm b 1 s b.1) else (p1, p2)).1)), some (.int (zi (if yUn b 0 s b.1 &&& want = want ∧ (p1 = -1 ∨ ySm b 1 s b.1 < p2 ∨ ySm b 1 s b.1 = p2 ∧ yPc s 10 < yPc p1.toNat 10) then ((s : Int), ySm b 1 s b.1) else (p1, p2)).2)), some (.int (zi ((s + 1 : Nat) : Int))), none, none] [] (zm L I J r)
    have d1 : zi p1 = (-1 : Int32) ↔ p1 = -1 := zi_m1 (by omega)
    have d2 : zi (ySm b 1 s b.1) < zi p2 ↔ ySm b 1 s b.1 < p2 := zi_lt (by omega) (by omega)
    have d3 : zi (ySm b 1 s b.1) = zi p2 ↔ ySm b 1 s b.1 = p2 := zi_eq (by omega) (by omega)
    have d4 : zi ((yUn b 0 s b.1 &&& want : Nat) : Int) = zi (want : Int) ↔ yUn b 0 s b.1 &&& want = want := by
      rw [zi_eq (by omega) (by omega)]
      omega
    have fin : ∀ fl : Int32, zX 0 (zCd zT e) zc_X11_cheapestCover 8 [some (.ref 16), some (.int (zi (want : Int))), some (.ref 43), some (.int (zi p1)), some (.int (zi p2)), some (.int (zi ((s : Nat) : Int))), some (.int (zi (ySm b 1 s b.1))), none] [.int fl] (zm L I J r) = if p1 = -1 ∨ ySm b 1 s b.1 < p2 ∨ ¬ fl = 0 then zX 0 (zCd zT e) zc_X11_cheapestCover 1 [some (.ref 16), some (.int (zi (want : Int))), some (.ref 43), some (.int (zi ((s : Nat) : Int))), some (.int (zi (ySm b 1 s b.1))), some (.int (zi ((s + 1 : Nat) : Int))), none, none] [] (zm L I J r) else zX 0 (zCd zT e) zc_X11_cheapestCover 1 [some (.ref 16), some (.int (zi (want : Int))), some (.ref 43), some (.int (zi p1)), some (.int (zi p2)), some (.int (zi ((s + 1 : Nat) : Int))), none, none] [] (zm L I J r) := by
      intro fl
      rw [eX11_cheapestCover_8]
      by_cases q1 : p1 = -1
      · rw [if_pos (d1.mpr q1), if_pos (Or.inl q1), eX11_cheapestCover_9, eX11_cheapestCover_10, k1]
      · rw [if_neg (fun w => q1 (d1.mp w))]
        by_cases q2 : ySm b 1 s b.1 < p2
        · rw [if_pos (d2.mpr q2), if_pos (Or.inr (Or.inl q2)), eX11_cheapestCover_9, eX11_cheapestCover_10, k1]
        · rw [if_neg (fun w => q2 (d2.mp w))]
          by_cases q3 : fl = 0
          · rw [if_pos q3, if_neg (fun w => by rcases w with w | w | w; exact q1 w; exact q2 w; exact w q3), eX11_cheapestCover_10, k1]
          · rw [if_neg q3, if_pos (Or.inr (Or.inr q3)), eX11_cheapestCover_9, eX11_cheapestCover_10, k1]
    rw [eX11_cheapestCover_1, hsz, zbI_s, eX11_cheapestCover_2, yShl (by omega), if_neg (show ¬ zi ((2 ^ b.1 : Nat) : Int) ≤ zi ((s : Nat) : Int) by rw [zi_le (by omega) (by omega)]; omega), cu, zbI_s, eX11_cheapestCover_3, yAnd (by omega) (by omega)]
    by_cases hu : yUn b 0 s b.1 &&& want = want
    · rw [if_pos (d4.mpr hu), cs, zbI_s, eX11_cheapestCover_4]
      by_cases q3 : ySm b 1 s b.1 = p2
      · rw [if_pos (d3.mpr q3), cBc (by omega), zbI_s, eX11_cheapestCover_5, cBc (by omega), zbI_s, eX11_cheapestCover_6, yBc_p (s := s) (by omega)]
        by_cases q1 : p1 = -1
        · by_cases q4 : yBc (zi p1) ≤ zi ((yPc s 10 : Nat) : Int)
          · rw [if_pos q4, eX11_cheapestCover_7, fin 0, if_pos (Or.inl q1), if_pos ⟨hu, Or.inl q1⟩]
          · rw [if_neg q4, fin 1, if_pos (Or.inl q1), if_pos ⟨hu, Or.inl q1⟩]
        · have e1 : zi p1 = zi ((p1.toNat : Nat) : Int) := congrArg zi (by omega)
          have pc1 : yPc p1.toNat 10 ≤ 10 := yPc_le 10
          have pc2 : yPc s 10 ≤ 10 := yPc_le 10
          have e2 : yBc (zi p1) = zi ((yPc p1.toNat 10 : Nat) : Int) := by rw [e1, yBc_p (by omega)]
          have d5 : zi ((yPc p1.toNat 10 : Nat) : Int) ≤ zi ((yPc s 10 : Nat) : Int) ↔ yPc p1.toNat 10 ≤ yPc s 10 := by
            rw [zi_le (by omega) (by omega)]
            omega
          rw [e2]
          by_cases q4 : yPc p1.toNat 10 ≤ yPc s 10
          · rw [if_pos (d5.mpr q4), eX11_cheapestCover_7, fin 0, if_neg (fun w => by rcases w with w | w | w; exact q1 w; omega; exact w rfl), if_neg (fun w => by rcases w.2 with w | w | w; exact q1 w; omega; omega)]
          · rw [if_neg (fun w => q4 (d5.mp w)), fin 1, if_pos (Or.inr (Or.inr (by decide))), if_pos ⟨hu, Or.inr (Or.inr ⟨q3, by omega⟩)⟩]
      · rw [if_neg (fun w => q3 (d3.mp w)), eX11_cheapestCover_7, fin 0]
        by_cases q5 : p1 = -1 ∨ ySm b 1 s b.1 < p2
        · rw [if_pos (by rcases q5 with w | w; exact Or.inl w; exact Or.inr (Or.inl w)), if_pos ⟨hu, by rcases q5 with w | w; exact Or.inl w; exact Or.inr (Or.inl w)⟩]
        · rw [if_neg (fun w => by rcases w with w | w | w; exact q5 (Or.inl w); exact q5 (Or.inr w); exact w rfl), if_neg (fun w => by rcases w.2 with w | w | w; exact q5 (Or.inl w); exact q5 (Or.inr w); exact q3 w.1)]
    · rw [if_neg (fun w => hu (d4.mp w)), eX11_cheapestCover_10, k1, if_neg (fun w => hu w.1)])
  have z0 : zX 0 (zCd zT e) zc_X11_cheapestCover 1 [some (.ref 16), some (.int (zi (want : Int))), some (.ref 43), some (.int (-1)), some (.int 0), some (.int 0), none, none] [] (zm L I J r) = _ := c1
  rw [qX11_cheapestCover, eX11_cheapestCover_0, z0, eX11_cheapestCover_1, hsz, zbI_s, eX11_cheapestCover_2, yShl (by omega), if_pos (Int32.le_refl _), eX11_cheapestCover_11]
end
