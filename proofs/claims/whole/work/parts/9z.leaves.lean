/-! LEAVES: the question -/
theorem yNeg {x : Int} (h : -2147483648 ≤ x ∧ x < 0) : (zi x).toBitVec.getLsbD 31 = true := by
  have h1 : (zi x).toBitVec.msb = true := by
    rw [BitVec.msb_eq_toInt, decide_eq_true_iff]
    show (zi x).toInt < 0
    rw [zi_val (by omega)]
    exact h.2
  rw [BitVec.msb_eq_getLsbD_last] at h1
  exact h1
theorem yMask {x : Int} (bx : -2147483648 ≤ x ∧ x < 2147483648) {nb : Nat} (hn : nb ≤ 6) : (zi x &&& (zi ((2 ^ nb - 1 : Nat) : Int) ^^^ (-1 : Int32)) = 0) ↔ zbo x 0 ((2 ^ nb - 1 : Nat) : Int) = false := by
  have hp : 2 ^ nb ≤ 2 ^ 6 := Nat.pow_le_pow_right (by decide) hn
  have h0 := Nat.two_pow_pos nb
  unfold zbo
  rw [decide_eq_false_iff_not]
  by_cases q : x < 0
  · constructor
    · intro w
      have m1 : (-1 : Int32).toBitVec = BitVec.allOnes 32 := by decide
      have w2 : (zi x &&& (zi ((2 ^ nb - 1 : Nat) : Int) ^^^ (-1 : Int32))).toBitVec.getLsbD 31 = false := by
        rw [w]
        decide
      rw [Int32.toBitVec_and, Int32.toBitVec_xor, BitVec.getLsbD_and, BitVec.getLsbD_xor, yNeg (by omega), yBv, m1, BitVec.getLsbD_ofNat, BitVec.getLsbD_allOnes, Nat.testBit_two_pow_sub_one, decide_eq_false (show ¬ 31 < nb by omega)] at w2
      exact absurd w2 (by decide)
    · exact fun w => absurd (Or.inl q) w
  · obtain ⟨a, rfl⟩ : ∃ k : Nat, x = k := ⟨x.toNat, by omega⟩
    have h1 : a &&& (2 ^ nb - 1) = a % 2 ^ nb := Nat.and_two_pow_sub_one_eq_mod a nb
    have h2 : (a % 2 ^ nb) &&& a = a % 2 ^ nb := by
      rw [← h1, Nat.and_assoc, Nat.and_comm (2 ^ nb - 1) a, ← Nat.and_assoc, Nat.and_self]
    have h3 := yXd h2
    have h4 : a % 2 ^ nb < 2 ^ nb := Nat.mod_lt _ h0
    have h5 : a < 2 ^ nb → a % 2 ^ nb = a := fun w => Nat.mod_eq_of_lt w
    rw [yAnN (by omega) (by omega), h1, h3.1, show (0 : Int32) = zi 0 from rfl, zi_eq (by omega) (by decide)]
    constructor
    · intro w
      omega
    · intro w
      have := h5 (by omega)
      omega
def yBbb (t : zDy) (x : Int) : Bool := decide (0 < t.n) && zbo x 0 ((2 ^ (t.m + 1) - 1 : Nat) : Int)
theorem zV_md {c : Nat} {I : Nat → Nat → Int32} {J : Nat → Nat → Int64} {y : zFd} {z0 z1 : Bool × zFd} (hv : zV c I J y z0 z1) (hn : 0 < y.1.n) : yMd (I 131) (y.1.m + 1) y.2.1 := by
  have hw := hv.2.2.1.1
  have hr := hv.2.2.1.2.1
  have hm := hv.2.1.2.1
  simp only [Nat.zero_add] at hm
  have h61 : I 131 (0 + 61) = zi y.1.m := hv.2.1.1.2.2.1
  have w0 := hw.1
  have w3 := hw.2.2.1
  exact ⟨⟨y.1.n, hn, by omega, hv.2.1.1.1⟩, by omega, h61, hm, hr.1, fun k hk => by have := hr.2 k hk; omega⟩
section
variable {d L r : Nat} {I : Nat → Nat → Int32} {J : Nat → Nat → Int64}
variable {t : zDy}
theorem cBadBb (hd : 4 ≤ d) (h : zTI I J t) {x : Int} (bx : -2147483648 ≤ x ∧ x < 2147483648) : zCd zT d 222 [.ref 16, .int (zi x)] (zm L I J r) = some (some (.int (zb1 (yBbb t x))), (zm L I J r)) := by
  have hw := h.2.2.1.1
  have hm := h.2.2.1.2.2.1
  have e5 : I 32 5 = zi t.n := h.1.1
  have e6 : I 32 6 = zi t.m := h.1.2.2.1
  have e0 : zi (t.n : Int) = (0 : Int32) ↔ t.n = 0 := (zi_eq (y := 0) (by omega) (by decide)).trans (by omega)
  unfold yBbb
  rw [sX11_badBlockBits (by omega), e5, e6]
  by_cases q : t.n = 0
  · simp only [if_pos (e0.mpr q)]
    rw [if_neg (by decide), decide_eq_false (by omega), Bool.false_and]
    rfl
  · simp only [if_neg (fun w => q (e0.mp w))]
    have hp : 2 ^ (t.m + 1) ≤ 2 ^ 6 := Nat.pow_le_pow_right (by decide) (by omega)
    have h0 := Nat.two_pow_pos (t.m + 1)
    rw [if_pos trivial, decide_eq_true (by omega), Bool.true_and, show zi (t.m : Int) + (1 : Int32) = zi ((t.m + 1 : Nat) : Int) from zi_add _ 1, yShl (by omega), show zi ((2 ^ (t.m + 1) : Nat) : Int) - (1 : Int32) = zi ((2 ^ (t.m + 1) - 1 : Nat) : Int) from (zi_sub _ 1).trans (congrArg zi (by omega))]
    cases q2 : zbo x 0 ((2 ^ (t.m + 1) - 1 : Nat) : Int)
    · rw [if_pos ((yMask bx (by omega)).mpr q2)]
      rfl
    · rw [if_neg (fun w => by have := (yMask bx (by omega)).mp w; rw [q2] at this; cases this)]
      rfl
theorem mIsTr (hd : 4 ≤ d) {nb : Nat} {u : yRl} (h : yMd (I 131) nb u) {x : Int} (bx : -2147483648 ≤ x ∧ x < 2147483648) : zCd zT d 304 [.ref 130, .int (zi x)] (zm L I J r) = some (some (.int (zb1 (!zbo x 0 ((2 ^ nb - 1 : Nat) : Int)))), (zm L I J r)) := by
  obtain ⟨e, rfl⟩ : ∃ e, d = e + 1 := ⟨d - 1, by omega⟩
  have hp : 2 ^ nb ≤ 2 ^ 6 := Nat.pow_le_pow_right (by decide) h.2.1.2
  have h0 := Nat.two_pow_pos nb
  have hnb := h.2.1
  rw [qX12_isTrains, eX12_isTrains_0, mBks (by omega) h, zbI_s, eX12_isTrains_1, yShl (by omega), show zi ((2 ^ nb : Nat) : Int) - (1 : Int32) = zi ((2 ^ nb - 1 : Nat) : Int) from (zi_sub _ 1).trans (congrArg zi (by omega)), mWithin (by omega) bx, zbI_s, eX12_isTrains_2, y64 (by omega), show (0 : Int64).toInt = 0 from rfl, zb1_01, zgd_t]
theorem cPrep (hd : 1 ≤ d) (a b : Int32) : zCd zT d 48 [.ref 121, .ref 37, .int a, .int b] (zm L I J r) = some (none, zm L (zu (zu I 121 5 a) 121 6 b) J 37) := by
  obtain ⟨e, rfl⟩ : ∃ e, d = e + 1 := ⟨d - 1, by omega⟩
  have h1 : zCd zT (e + 1) 48 [.ref 121, .ref 37, .int a, .int b] (zm L I J r) = zX 2 (zCd zT e) zc_X6_prepare 0 [some (.ref 121), some (.ref 37), some (.int a), some (.int b)] [] (zm L I J r) := zCd_eq (t := zt_X6_prepare) rfl
  have h2 : zX 2 (zCd zT e) zc_X6_prepare 0 [some (.ref 121), some (.ref 37), some (.int a), some (.int b)] [] (zm L I J r) = some (none, zpi (zpi (zpr (zm L I J r) 121 4 37) 121 5 a) 121 6 b) := zX_at (zCd_mem e) (b := zc_X6_prepare_0) rfl _ _ _
  rw [h1, h2, zpr_zm]
  rfl
end
theorem yEn_0 {t : Nat} : yEn t 0 = t := by
  have h1 : yFr 0 = 0 := by decide
  have h2 : yFl 0 = 0 := by decide
  unfold yEn
  rw [h1, h2]
  omega
theorem oLeaves (x b : Int32) : zOk 151 306 [.int x, .int b] := by
  obtain ⟨x, rfl, bx⟩ := zi_of x
  obtain ⟨b, rfl, bb⟩ := zi_of b
  refine zOk_q fun L c r I J y z0 z1 hc hr hv => ⟨.int (if zRf (yNb y.1 b) (yBbb y.1 x) y.1.n = 0 then zb1 (x.toNat.testBit b.toNat && yMa y.2.1 (y.1.m + 1) (ySw x.toNat 0) b.toNat) else zi (zRf (yNb y.1 b) (yBbb y.1 x) y.1.n)), ?_, fun I1 J1 r1 hk hr1 hv1 => ?_⟩
  · have hT := zV_TI hv
    rw [qX11_leaves, eX11_leaves_0, cNb (by decide) hT bb, zbI_s, eX11_leaves_1, cBadBb (by decide) hT bx, zbI_s, eX11_leaves_2, cRef (by decide) hT, zbI_s, eX11_leaves_3]
    by_cases q : zRf (yNb y.1 b) (yBbb y.1 x) y.1.n = 0
    · have hn : ¬ y.1.n = 0 := fun w => by
        unfold zRf at q
        split at q
        · omega
        · split at q
          · omega
          · first
              | omega
              | (rw [if_pos w] at q; omega)
      have g1 : yNb y.1 b = false := by
        cases w : yNb y.1 b
        · rfl
        · unfold zRf at q
          rw [w, if_pos rfl] at q
          omega
      have g2 : yBbb y.1 x = false := by
        cases w : yBbb y.1 x
        · rfl
        · unfold zRf at q
          rw [g1, w, if_neg (by decide), if_pos rfl] at q
          omega
      unfold yNb at g1
      unfold yBbb at g2
      rw [decide_eq_true (by omega), Bool.true_and] at g1 g2
      have g1 := zbo_f g1
      have g2 := zbo_f g2
      have hm := hv.2.2.1.1.2.2.1
      have hw0 := hv.2.2.1.1.1
      have hp : 2 ^ (y.1.m + 1) ≤ 2 ^ 6 := Nat.pow_le_pow_right (by decide) (by omega)
      have hp0 := Nat.two_pow_pos (y.1.m + 1)
      obtain ⟨x, rfl⟩ : ∃ k : Nat, x = k := ⟨x.toNat, by omega⟩
      obtain ⟨b, rfl⟩ : ∃ k : Nat, b = k := ⟨b.toNat, by omega⟩
      have e5 : I 32 5 = zi y.1.n := hT.1.1
      have e6 : I 32 6 = zi y.1.m := hT.1.2.2.1
      have kb : zCd zT 59 113 [.ref 32] (zm L I J r) = some (some (.int (zi ((y.1.m + 1 : Nat) : Int))), (zm L I J r)) := by
        rw [sX9_blocks (by omega) (o := 32) (by decide), e5, e6, if_neg (show ¬ zi (y.1.n : Int) = 0 by rw [show (0 : Int32) = zi 0 from rfl, zi_eq (by omega) (by decide)]; omega), show zi (y.1.m : Int) + (1 : Int32) = zi ((y.1.m + 1 : Nat) : Int) from zi_add _ 1]
      have hu : cRl 0 (zu (zu I 121 5 (zi ((y.1.m + 1 : Nat) : Int))) 121 6 0) J y.2.1 := cRl_fr (by rw [zu_o (by decide), zu_o (by decide)]) rfl hv.1.2.1
      have mw := cMay (d := 59) (L := L) (J := J) (I := zu (zu I 121 5 (zi ((y.1.m + 1 : Nat) : Int))) 121 6 0) (nb := y.1.m + 1) (b := b) (t := x) (l := 0) (by decide) hu (by omega) (by omega) (by rw [zu_n (by decide), zu_y ⟨rfl, rfl⟩]) (by omega)
      rw [yEn_0] at mw
      rw [if_pos (yRf_z.mpr q), if_pos q, eX11_leaves_4, kb, zbI_s, eX11_leaves_5, cPrep (by decide), zbV_s, eX11_leaves_6, mw, zbI_s, eX11_leaves_7, Int.toNat_natCast, Int.toNat_natCast]
      refine ⟨zu (zu I 121 5 (zi ((y.1.m + 1 : Nat) : Int))) 121 6 0, J, 37, ?_, ⟨fun o k hp => ?_, fun _ _ => rfl⟩, ?_, Or.inr rfl⟩
      · cases (x.testBit b && yMa y.2.1 (y.1.m + 1) (ySw x 0) b)
        · rw [if_pos (show zb1 false = 0 from rfl), eX11_leaves_8, eX11_leaves_9]
          rfl
        · rw [if_neg (show ¬ zb1 true = 0 by decide), eX11_leaves_9]
          rfl
      · rw [zu_o (fun w => by rw [w] at hp; cases hp), zu_o (fun w => by rw [w] at hp; cases hp)]
      · unfold zCa
        rw [zu_o (by decide), zu_o (by decide)]
        exact hv.2.2.2.2.2.2.2.2.2
    · rw [if_neg (fun w => q (yRf_z.mp w)), if_neg q]
      exact ⟨I, J, r, rfl, zKp_rf, hv.2.2.2.2.2.2.2.2.2, hr⟩
  · have hT := zTI_fr zSm_0 (zV_TI hv1)
    have q0 : zu I1 130 0 0 120 = I1 120 := zu_o (by decide)
    have hw0 := hv1.2.2.1.1.1
    have hm := hv1.2.2.1.1.2.2.1
    rw [qX12_leaves, eX12_leaves_0, mTrack (by decide) hT, zbI_s, eX12_leaves_1]
    by_cases hn : y.1.n = 0
    · have e1 : yNb y.1 b = false := by
        unfold yNb
        rw [decide_eq_false (by omega), Bool.false_and]
      have e2 : yBbb y.1 x = false := by
        unfold yBbb
        rw [decide_eq_false (by omega), Bool.false_and]
      rw [decide_eq_false (show ¬ 0 < y.1.n by omega), if_pos (show zb1 false = 0 from rfl), eX12_leaves_4, mTrack (by decide) hT, zbI_s, eX12_leaves_5, decide_eq_false (show ¬ 0 < y.1.n by omega), if_pos (show zb1 false = 0 from rfl), eX12_leaves_7, mTrack (by decide) hT, zbI_s, eX12_leaves_8, decide_eq_false (show ¬ 0 < y.1.n by omega), if_pos (show zb1 false = 0 from rfl), e1, e2, yRf5 hn, if_neg (by decide)]
      exact ⟨_, J1, rfl, ⟨zSm_0, fun _ _ => rfl⟩, q0⟩
    · have hn0 : 0 < y.1.n := by omega
      have hd0 : yMd (zu I1 130 0 0 131) (y.1.m + 1) y.2.1 := by
        rw [zu_o (show 131 ≠ 130 by decide)]
        exact zV_md hv1 hn0
      have e1 : yNb y.1 b = zbo b 0 (y.1.m : Int) := by
        unfold yNb
        rw [decide_eq_true hn0, Bool.true_and]
      have e2 : yBbb y.1 x = zbo x 0 ((2 ^ (y.1.m + 1) - 1 : Nat) : Int) := by
        unfold yBbb
        rw [decide_eq_true hn0, Bool.true_and]
      rw [decide_eq_true hn0, if_neg (show ¬ zb1 true = 0 by decide), mBks (by decide) hd0, zbI_s, eX12_leaves_2, show zi ((y.1.m + 1 : Nat) : Int) - (1 : Int32) = zi (y.1.m : Int) from (zi_sub _ 1).trans (congrArg zi (by omega)), mWithin (by decide) bb, zbI_s, eX12_leaves_3, y64 (by omega), show (0 : Int64).toInt = 0 from rfl, e1, e2]
      cases h1 : zbo b 0 (y.1.m : Int)
      · rw [if_neg (show ¬ zb1 (!false) = 0 by decide), eX12_leaves_4, mTrack (by decide) hT, zbI_s, eX12_leaves_5, decide_eq_true hn0, if_neg (show ¬ zb1 true = 0 by decide), mIsTr (by decide) hd0 bx, zbI_s, eX12_leaves_6]
        cases h2 : zbo x 0 ((2 ^ (y.1.m + 1) - 1 : Nat) : Int)
        · have g1 := zbo_f h1
          have g2 := zbo_f h2
          have hp : 2 ^ (y.1.m + 1) ≤ 2 ^ 6 := Nat.pow_le_pow_right (by decide) (by omega)
          have hp0 := Nat.two_pow_pos (y.1.m + 1)
          obtain ⟨x, rfl⟩ : ∃ k : Nat, x = k := ⟨x.toNat, by omega⟩
          obtain ⟨b, rfl⟩ : ∃ k : Nat, b = k := ⟨b.toNat, by omega⟩
          obtain ⟨I2, c1, c2⟩ := mMay (d := 59) (L := L) (J := J1) (r := r1) (by decide) hd0 (b := b) (t := x) (l := 0) (by omega) (by omega) (by decide)
          rw [show x + 64 * 0 = x by omega] at c1
          rw [if_neg (show ¬ zb1 (!false) = 0 by decide), eX12_leaves_7, mTrack (by decide) hT, zbI_s, eX12_leaves_8, decide_eq_true hn0, if_neg (show ¬ zb1 true = 0 by decide), eX12_leaves_9, mIn (by decide) (by omega) (by omega), zbI_s, eX12_leaves_10, show x % 64 = x by omega, yRf0 hn, if_pos rfl, Int.toNat_natCast, Int.toNat_natCast]
          cases x.testBit b
          · rw [if_pos (show zb1 false = 0 from rfl), eX12_leaves_12, eX12_leaves_13, Bool.false_and]
            exact ⟨_, J1, rfl, ⟨zSm_0, fun _ _ => rfl⟩, q0⟩
          · rw [if_neg (show ¬ zb1 true = 0 by decide), c1, zbI_s, eX12_leaves_11, Bool.true_and]
            refine ⟨I2, J1, ?_, ⟨zSm_tr zSm_0 (zSm_x (a := 137) (fun _ => rfl) c2), fun _ _ => rfl⟩, (c2 120 (by decide)).trans q0⟩
            cases yMa y.2.1 (y.1.m + 1) (ySw x 0) b
            · rw [if_pos (show zb1 false = 0 from rfl), eX12_leaves_12, eX12_leaves_13]
              rfl
            · rw [if_neg (show ¬ zb1 true = 0 by decide), eX12_leaves_13]
              rfl
        · rw [if_pos (show zb1 (!true) = 0 from rfl), yRf3, if_neg (by decide)]
          exact ⟨_, J1, rfl, ⟨zSm_0, fun _ _ => rfl⟩, q0⟩
      · rw [if_pos (show zb1 (!true) = 0 from rfl), yRf2, if_neg (by decide)]
        exact ⟨_, J1, rfl, ⟨zSm_0, fun _ _ => rfl⟩, q0⟩
