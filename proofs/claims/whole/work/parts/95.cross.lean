/-! CROSS and CLEAR: the questions -/
theorem yRf_b {a b : Bool} {n : Nat} : -5 ≤ zRf a b n ∧ zRf a b n ≤ 0 := by
  unfold zRf
  split
  · decide
  · split
    · decide
    · split <;> decide
theorem yRf_z {a b : Bool} {n : Nat} : zi (zRf a b n) = (0 : Int32) ↔ zRf a b n = 0 := by
  have := yRf_b (a := a) (b := b) (n := n)
  exact zi_eq (y := 0) (by omega) (by decide)
section
variable {d L r : Nat} {I : Nat → Nat → Int32} {J : Nat → Nat → Int64}
variable {t : zDy}
theorem cCrB (hd : 3 ≤ d) {w n bt a b c : Int} (bw : -2147483648 ≤ w ∧ w < 2147483648) (bn : -2147483648 ≤ n ∧ n < 2147483648) (bbt : -2147483648 ≤ bt ∧ bt < 2147483648) (ba : -2147483648 ≤ a ∧ a < 2147483648) (bb : -2147483648 ≤ b ∧ b < 2147483648) (bc : -2147483648 ≤ c ∧ c < 2147483648) {p : Int} {np : Bool} : zX 0 (zCd zT d) zc_X11_cross 1 [some (.ref 16), some (.int (zi w)), some (.int (zi p)), some (.int (zi n)), some (.int (zi bt)), some (.int (zi a)), some (.int (zi b)), some (.int (zi c)), none, none] [.int (zb1 np), .ref 16] (zm L I J r) = zX 0 (zCd zT d) zc_X11_cross 8 [some (.ref 16), some (.int (zi w)), some (.int (zi p)), some (.int (zi n)), some (.int (zi bt)), some (.int (zi a)), some (.int (zi b)), some (.int (zi c)), none, none] [.int (zb1 (zbo w 1 20 || (zbo n 1 10 || (zbo bt 1 999 || yOth a b c)))), .int (zb1 np), .ref 16] (zm L I J r) := by
  simp (disch := omega) only [eX11_cross_1, eX11_cross_2, eX11_cross_3, eX11_cross_4, eX11_cross_5, eX11_cross_6, eX11_cross_7, cBadW, cBadN, cBadB, cOth, zbI_s, zp_if, zor_if]
  cases (zbo w 1 20 || (zbo n 1 10 || (zbo bt 1 999 || yOth a b c))) <;> rfl
theorem mCrB (hd : 3 ≤ d) {w n bt a b c : Int} (bw : -2147483648 ≤ w ∧ w < 2147483648) (bn : -2147483648 ≤ n ∧ n < 2147483648) (bbt : -2147483648 ≤ bt ∧ bt < 2147483648) (ba : -2147483648 ≤ a ∧ a < 2147483648) (bb : -2147483648 ≤ b ∧ b < 2147483648) (bc : -2147483648 ≤ c ∧ c < 2147483648) {p : Int} : zX 0 (zCd zT d) zc_X12_cross 3 [some (.ref 130), some (.int (zi w)), some (.int (zi p)), some (.int (zi n)), some (.int (zi bt)), some (.int (zi a)), some (.int (zi b)), some (.int (zi c))] [] (zm L I J r) = if (zbo w 1 20 || (zbo n 1 10 || (zbo bt 1 999 || yOth a b c))) = true then some (some (.int (-3)), (zm L I J r)) else zX 0 (zCd zT d) zc_X12_cross 11 [some (.ref 130), some (.int (zi w)), some (.int (zi p)), some (.int (zi n)), some (.int (zi bt)), some (.int (zi a)), some (.int (zi b)), some (.int (zi c))] [] (zm L I J r) := by
  unfold yOth
  simp (disch := omega) only [eX12_cross_3, eX12_cross_4, eX12_cross_5, eX12_cross_6, eX12_cross_7, eX12_cross_8, eX12_cross_9, eX12_cross_10, mWeight, mWithin, show (0 : Int64).toInt = 0 from rfl, show (1 : Int64).toInt = 1 from rfl, show (10 : Int64).toInt = 10 from rfl, show (99 : Int64).toInt = 99 from rfl, show (999 : Int64).toInt = 999 from rfl, zbI_s, zn_if, zor_if, Bool.or_assoc]
theorem cClB (hd : 3 ≤ d) {w n a b c : Int} (bw : -2147483648 ≤ w ∧ w < 2147483648) (bn : -2147483648 ≤ n ∧ n < 2147483648) (ba : -2147483648 ≤ a ∧ a < 2147483648) (bb : -2147483648 ≤ b ∧ b < 2147483648) (bc : -2147483648 ≤ c ∧ c < 2147483648) {p : Int} {np : Bool} : zX 0 (zCd zT d) zc_X11_clear 1 [some (.ref 16), some (.int (zi w)), some (.int (zi p)), some (.int (zi n)), some (.int (zi a)), some (.int (zi b)), some (.int (zi c)), none, none, none] [.int (zb1 np), .ref 16] (zm L I J r) = zX 0 (zCd zT d) zc_X11_clear 7 [some (.ref 16), some (.int (zi w)), some (.int (zi p)), some (.int (zi n)), some (.int (zi a)), some (.int (zi b)), some (.int (zi c)), none, none, none] [.int (zb1 (zbo w 1 20 || (zbo n 1 10 || yOth a b c))), .int (zb1 np), .ref 16] (zm L I J r) := by
  simp (disch := omega) only [eX11_clear_1, eX11_clear_2, eX11_clear_3, eX11_clear_4, eX11_clear_5, eX11_clear_6, cBadW, cBadN, cOth, zbI_s, zp_if, zor_if]
  cases (zbo w 1 20 || (zbo n 1 10 || yOth a b c)) <;> rfl
theorem mClB (hd : 3 ≤ d) {w n a b c : Int} (bw : -2147483648 ≤ w ∧ w < 2147483648) (bn : -2147483648 ≤ n ∧ n < 2147483648) (ba : -2147483648 ≤ a ∧ a < 2147483648) (bb : -2147483648 ≤ b ∧ b < 2147483648) (bc : -2147483648 ≤ c ∧ c < 2147483648) {p : Int} : zX 0 (zCd zT d) zc_X12_clear 3 [some (.ref 130), some (.int (zi w)), some (.int (zi p)), some (.int (zi n)), some (.int (zi a)), some (.int (zi b)), some (.int (zi c)), none] [] (zm L I J r) = if (zbo w 1 20 || (zbo n 1 10 || yOth a b c)) = true then some (some (.int (-3)), (zm L I J r)) else zX 0 (zCd zT d) zc_X12_clear 10 [some (.ref 130), some (.int (zi w)), some (.int (zi p)), some (.int (zi n)), some (.int (zi a)), some (.int (zi b)), some (.int (zi c)), none] [] (zm L I J r) := by
  unfold yOth
  simp (disch := omega) only [eX12_clear_3, eX12_clear_4, eX12_clear_5, eX12_clear_6, eX12_clear_7, eX12_clear_8, eX12_clear_9, mWeight, mWithin, show (0 : Int64).toInt = 0 from rfl, show (1 : Int64).toInt = 1 from rfl, show (10 : Int64).toInt = 10 from rfl, show (99 : Int64).toInt = 99 from rfl, show (999 : Int64).toInt = 999 from rfl, zbI_s, zn_if, zor_if, Bool.or_assoc]
theorem mCrNp (hd : 2 ≤ d) (h : zTI I J t) {w n bt a b c : Int} {p : Int} (bp : -2147483648 ≤ p ∧ p < 2147483648) : zX 0 (zCd zT d) zc_X12_cross 1 [some (.ref 130), some (.int (zi w)), some (.int (zi p)), some (.int (zi n)), some (.int (zi bt)), some (.int (zi a)), some (.int (zi b)), some (.int (zi c))] [.int (zb1 (decide (0 < t.n)))] (zm L I J r) = if zNp t p = true then some (some (.int (-2)), (zm L I J r)) else zX 0 (zCd zT d) zc_X12_cross 3 [some (.ref 130), some (.int (zi w)), some (.int (zi p)), some (.int (zi n)), some (.int (zi bt)), some (.int (zi a)), some (.int (zi b)), some (.int (zi c))] [] (zm L I J r) := by
  unfold zNp
  rw [eX12_cross_1]
  by_cases hn : 0 < t.n
  · rw [decide_eq_true hn, if_neg (show ¬ zb1 true = 0 by decide), mPt (by omega) h bp, zbI_s, eX12_cross_2]
    cases zbo p 0 ((t.n : Int) - 1)
    · rw [if_neg (show ¬ zb1 (!false) = 0 by decide), if_neg (by decide)]
    · rw [if_pos (show zb1 (!true) = 0 from rfl), if_pos (by decide)]
  · rw [decide_eq_false hn, if_pos (show zb1 false = 0 from rfl), if_neg (by simp)]
theorem mClNp (hd : 2 ≤ d) (h : zTI I J t) {w n a b c : Int} {p : Int} (bp : -2147483648 ≤ p ∧ p < 2147483648) : zX 0 (zCd zT d) zc_X12_clear 1 [some (.ref 130), some (.int (zi w)), some (.int (zi p)), some (.int (zi n)), some (.int (zi a)), some (.int (zi b)), some (.int (zi c)), none] [.int (zb1 (decide (0 < t.n)))] (zm L I J r) = if zNp t p = true then some (some (.int (-2)), (zm L I J r)) else zX 0 (zCd zT d) zc_X12_clear 3 [some (.ref 130), some (.int (zi w)), some (.int (zi p)), some (.int (zi n)), some (.int (zi a)), some (.int (zi b)), some (.int (zi c)), none] [] (zm L I J r) := by
  unfold zNp
  rw [eX12_clear_1]
  by_cases hn : 0 < t.n
  · rw [decide_eq_true hn, if_neg (show ¬ zb1 true = 0 by decide), mPt (by omega) h bp, zbI_s, eX12_clear_2]
    cases zbo p 0 ((t.n : Int) - 1)
    · rw [if_neg (show ¬ zb1 (!false) = 0 by decide), if_neg (by decide)]
    · rw [if_pos (show zb1 (!true) = 0 from rfl), if_pos (by decide)]
  · rw [decide_eq_false hn, if_pos (show zb1 false = 0 from rfl), if_neg (by simp)]
theorem cCross (hd : 9 ≤ d) (h : zTI I J t) {w p n bt a b c : Int} (bw : -2147483648 ≤ w ∧ w < 2147483648) (bp : -2147483648 ≤ p ∧ p < 2147483648) (bn : -2147483648 ≤ n ∧ n < 2147483648) (bbt : -2147483648 ≤ bt ∧ bt < 2147483648) (ba : -2147483648 ≤ a ∧ a < 2147483648) (bb : -2147483648 ≤ b ∧ b < 2147483648) (bc : -2147483648 ≤ c ∧ c < 2147483648) : ∃ I', zCd zT d 184 [.ref 16, .int (zi w), .int (zi p), .int (zi n), .int (zi bt), .int (zi a), .int (zi b), .int (zi c)] (zm L I J r) = some (some (.int (zi (yCrV t w p n bt a b c))), (zm L I' J r)) ∧ zFr3 I I' := by
  obtain ⟨e, rfl⟩ : ∃ e, d = e + 1 := ⟨d - 1, by omega⟩
  rw [qX11_cross, eX11_cross_0, cNp (by omega) h bp, zbI_s, cCrB (by omega) bw bn bbt ba bb bc, eX11_cross_8, cRef (by omega) h, zbI_s, eX11_cross_9]
  unfold yCrV
  by_cases hz : zRf (zNp t p) (zbo w 1 20 || (zbo n 1 10 || (zbo bt 1 999 || yOth a b c))) t.n = 0
  · obtain ⟨n1, n2, n3⟩ := zRf_0.mp hz
    rw [if_pos (yRf_z.mpr hz), if_pos hz, eX11_cross_10]
    unfold yOth at n2
    simp only [Bool.or_eq_false_iff] at n2
    obtain ⟨g1, g2, g3, ⟨g4, g5⟩, g6⟩ := n2
    have g1 := zbo_f g1
    have g2 := zbo_f g2
    have g3 := zbo_f g3
    have g4 := zbo_f g4
    have g5 := zbo_f g5
    have g6 := zbo_f g6
    have g0 := zNp_f n1 n3
    have hn60 := h.2.2.1.1
    obtain ⟨p, rfl⟩ : ∃ k : Nat, p = k := ⟨p.toNat, by omega⟩
    obtain ⟨n, rfl⟩ : ∃ k : Nat, n = k := ⟨n.toNat, by omega⟩
    obtain ⟨I1, c1, c2, c3⟩ := cAtP (d := e) (L := L) (r := r) (by omega) h n3 g1 (p := p) (by omega)
    refine ⟨I1, ?_, c2⟩
    rw [c1, zbV_s, eX11_cross_11, c3, zbI_s, eX11_cross_12, Int.toNat_natCast, Int.toNat_natCast]
    by_cases q : yFs t w p = -1
    · rw [if_pos q, if_pos q, if_pos (show zi (-1) = (-1 : Int32) from rfl), eX11_cross_14]
      rfl
    · have bt := yTi_b (t := t) (loss := zLss t w 0 0) (v := t.push) (p := p) q
      rw [if_neg q, if_neg q, if_neg (show ¬ zi (zfTi (zRu t (zLss t w 0 0) 0 t.push).2 p) = (-1 : Int32) by rw [zi_m1 (by omega)]; omega), eX11_cross_13, cNears (by omega) bt (by omega) g3 g4 g5 g6, zbI_s, eX11_cross_14]
  · rw [if_neg (fun w => hz (yRf_z.mp w)), if_neg hz]
    exact ⟨I, rfl, fun _ _ _ _ => rfl⟩
theorem mCross (hd : 9 ≤ d) (h : zTI I J t) {w p n bt a b c : Int} (bw : -2147483648 ≤ w ∧ w < 2147483648) (bp : -2147483648 ≤ p ∧ p < 2147483648) (bn : -2147483648 ≤ n ∧ n < 2147483648) (bbt : -2147483648 ≤ bt ∧ bt < 2147483648) (ba : -2147483648 ≤ a ∧ a < 2147483648) (bb : -2147483648 ≤ b ∧ b < 2147483648) (bc : -2147483648 ≤ c ∧ c < 2147483648) : ∃ I', zCd zT d 337 [.ref 130, .int (zi w), .int (zi p), .int (zi n), .int (zi bt), .int (zi a), .int (zi b), .int (zi c)] (zm L I J r) = some (some (.int (zi (yCrV t w p n bt a b c))), (zm L I' J r)) ∧ zSm I I' ∧ I' 120 = I 120 := by
  obtain ⟨e, rfl⟩ : ∃ e, d = e + 1 := ⟨d - 1, by omega⟩
  have h0 := zTI_fr zSm_0 h
  have q0 : zu I 130 0 0 120 = I 120 := zu_o (by decide)
  rw [qX12_cross, eX12_cross_0, mTrack (by omega) h0, zbI_s, mCrNp (by omega) h0 bp, mCrB (by omega) bw bn bbt ba bb bc]
  unfold yCrV zRf
  by_cases z1 : zNp t p = true
  · simp only [if_pos z1]
    exact ⟨_, rfl, zSm_0, q0⟩
  · rw [if_neg z1]
    by_cases z2 : (zbo w 1 20 || (zbo n 1 10 || (zbo bt 1 999 || yOth a b c))) = true
    · simp only [if_neg z1, if_pos z2]
      exact ⟨_, rfl, zSm_0, q0⟩
    · rw [if_neg z2, eX12_cross_11, mTrack (by omega) h0, zbI_s, eX12_cross_12]
      simp only [if_neg z1, if_neg z2]
      by_cases n3 : t.n = 0
      · rw [decide_eq_false (by omega), if_pos (show zb1 false = 0 from rfl), if_pos n3]
        exact ⟨_, rfl, zSm_0, q0⟩
      · rw [Bool.not_eq_true] at z1 z2
        rw [decide_eq_true (show 0 < t.n by omega), if_neg (show ¬ zb1 true = 0 by decide), if_neg n3, if_pos rfl, eX12_cross_13]
        unfold yOth at z2
        simp only [Bool.or_eq_false_iff] at z2
        obtain ⟨g1, g2, g3, ⟨g4, g5⟩, g6⟩ := z2
        have g1 := zbo_f g1
        have g2 := zbo_f g2
        have g3 := zbo_f g3
        have g4 := zbo_f g4
        have g5 := zbo_f g5
        have g6 := zbo_f g6
        have n3 : 0 < t.n := by omega
        have g0 := zNp_f z1 n3
        have hn60 := h.2.2.1.1
        obtain ⟨p, rfl⟩ : ∃ k : Nat, p = k := ⟨p.toNat, by omega⟩
        obtain ⟨n, rfl⟩ : ∃ k : Nat, n = k := ⟨n.toNat, by omega⟩
        obtain ⟨I1, c1, c2, c3, c4, c5⟩ := mAtP (d := e) (L := L) (r := r) (by omega) h0 n3 g1 (p := p) (by omega)
        refine ⟨I1, ?_, zSm_tr zSm_0 c2, c3.trans q0⟩
        rw [c1, zbV_s, eX12_cross_14, zin_t (by omega) (by omega), zgd_t, zi_cl (by omega), Int.toNat_natCast, Int.toNat_natCast]
        by_cases q : yFs t w p = -1
        · rw [if_pos (c4.mpr q), if_pos q, eX12_cross_16]
          rfl
        · have bt := yTi_b (t := t) (loss := zLss t w 0 0) (v := t.push) (p := p) q
          rw [if_neg (fun w => q (c4.mp w)), if_neg q, eX12_cross_15, mNears (by omega) (by omega) (c5 q) bt (by omega) g3 g4 g5 g6, zbI_s, eX12_cross_16]
end
theorem oCross (w p n bt a b c : Int32) : zOk 184 337 [.int w, .int p, .int n, .int bt, .int a, .int b, .int c] := by
  obtain ⟨w, rfl, bw⟩ := zi_of w
  obtain ⟨p, rfl, bp⟩ := zi_of p
  obtain ⟨n, rfl, bn⟩ := zi_of n
  obtain ⟨bt, rfl, bbt⟩ := zi_of bt
  obtain ⟨a, rfl, ba⟩ := zi_of a
  obtain ⟨b, rfl, bb⟩ := zi_of b
  obtain ⟨c, rfl, bc⟩ := zi_of c
  exact zOk_r (V := fun t => .int (zi (yCrV t w p n bt a b c))) (fun L r I J t h => cCross (by decide) h bw bp bn bbt ba bb bc) (fun L r I J t h => mCross (by decide) h bw bp bn bbt ba bb bc)
