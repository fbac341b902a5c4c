def yWh (n wh : Int) : Bool := decide (¬ wh = -1 ∧ (wh < 0 ∨ n ≤ wh))
def yHB (w n bt la : Int) : Bool := zbo w 1 20 || (zbo n 1 10 || (zbo bt 1 999 || zbo la 0 999))
def yHoV (t : zDy) (w n bt wh la : Int) : Int32 := if zRf (yWh n wh) (yHB w n bt la) t.n = 0 then (if zIsO t w 0 0 = true then (yHo (yTm t (zRu t (zLss t w 0 0) 0 t.push).2) (t.m + 1) (zi bt) (zi wh) (zi la) n.toNat).2 else -1) else zi (zRf (yWh n wh) (yHB w n bt la) t.n)
def yBB (w n la mo : Int) : Bool := zbo w 1 20 || (zbo n 1 10 || (zbo la 0 999 || zbo mo 0 99))
def yBtV (t : zDy) (w n la mo : Int) : Int := if zRf false (yBB w n la mo) t.n = 0 then yLb t w n.toNat (zi la) (zi mo) else zRf false (yBB w n la mo) t.n
def yRiV (t : zDy) (w n la mo se : Int) : Int := if zRf false (yBB w n la mo || zbo se 1 40) t.n = 0 then (if yLb t w n.toNat (zi la) (zi mo) = -1 then -1 else se * 1000 / yLb t w n.toNat (zi la) (zi mo)) else zRf false (yBB w n la mo || zbo se 1 40) t.n
theorem yLb_b {t : zDy} {w : Int} {n : Nat} {la mo : Int32} : yLb t w n la mo = -1 ∨ 1 ≤ yLb t w n la mo ∧ yLb t w n la mo ≤ 999 := by
  unfold yLb
  split
  · split <;> omega
  · exact Or.inl rfl
section
variable {d L r : Nat} {I : Nat → Nat → Int32} {J : Nat → Nat → Int64}
variable {t : zDy}
theorem cBadN (hd : 2 ≤ d) {x : Int} (bx : -2147483648 ≤ x ∧ x < 2147483648) : zCd zT d 229 [.int (zi x)] (zm L I J r) = some (some (.int (zb1 (zbo x 1 10))), (zm L I J r)) := by
  obtain ⟨e, rfl⟩ : ∃ e, d = e + 1 := ⟨d - 1, by omega⟩
  simp (disch := omega) only [qX11_badTrainCount, eX11_badTrainCount_0, eX11_badTrainCount_1, cOut, zbI_s, zbL_s, zbV_s, zgd_t, zb1_t, zb1_f, zb1_01, zz_0, zz_1, zi_lit, zi_add, zi_sub, zi_mul, zi_neg]
theorem cBadB (hd : 2 ≤ d) {x : Int} (bx : -2147483648 ≤ x ∧ x < 2147483648) : zCd zT d 230 [.int (zi x)] (zm L I J r) = some (some (.int (zb1 (zbo x 1 999))), (zm L I J r)) := by
  obtain ⟨e, rfl⟩ : ∃ e, d = e + 1 := ⟨d - 1, by omega⟩
  simp (disch := omega) only [qX11_badBeat, eX11_badBeat_0, eX11_badBeat_1, cOut, zbI_s, zbL_s, zbV_s, zgd_t, zb1_t, zb1_f, zb1_01, zz_0, zz_1, zi_lit, zi_add, zi_sub, zi_mul, zi_neg]
theorem cBadS (hd : 2 ≤ d) {x : Int} (bx : -2147483648 ≤ x ∧ x < 2147483648) : zCd zT d 228 [.int (zi x)] (zm L I J r) = some (some (.int (zb1 (zbo x 1 40))), (zm L I J r)) := by
  obtain ⟨e, rfl⟩ : ∃ e, d = e + 1 := ⟨d - 1, by omega⟩
  simp (disch := omega) only [qX11_badSeats, eX11_badSeats_0, eX11_badSeats_1, cOut, zbI_s, zbL_s, zbV_s, zgd_t, zb1_t, zb1_f, zb1_01, zz_0, zz_1, zi_lit, zi_add, zi_sub, zi_mul, zi_neg]
theorem cBBQ (hd : 4 ≤ d) {w n la mo : Int} (bw : -2147483648 ≤ w ∧ w < 2147483648) (bn : -2147483648 ≤ n ∧ n < 2147483648) (bla : -2147483648 ≤ la ∧ la < 2147483648) (bmo : -2147483648 ≤ mo ∧ mo < 2147483648) : zCd zT d 157 [.ref 16, .int (zi w), .int (zi n), .int (zi la), .int (zi mo)] (zm L I J r) = some (some (.int (zb1 (yBB w n la mo))), (zm L I J r)) := by
  obtain ⟨e, rfl⟩ : ∃ e, d = e + 1 := ⟨d - 1, by omega⟩
  have k1 : zCd zT e 225 [.int (zi la), .int 0, .int 999] (zm L I J r) = _ := cOut (lo := 0) (hi := 999) (by omega) bla (by decide) (by decide)
  have k2 : zCd zT e 225 [.int (zi mo), .int 0, .int 99] (zm L I J r) = _ := cOut (lo := 0) (hi := 99) (by omega) bmo (by decide) (by decide)
  rw [qX11_badBeatQuestion, eX11_badBeatQuestion_0, cBadW (by omega) bw, zbI_s, eX11_badBeatQuestion_1, cBadN (by omega) bn, zbI_s, eX11_badBeatQuestion_2, k1, zbI_s, eX11_badBeatQuestion_3, k2, zbI_s, eX11_badBeatQuestion_4, eX11_badBeatQuestion_5, eX11_badBeatQuestion_6, eX11_badBeatQuestion_7, eX11_badBeatQuestion_7]
  unfold yBB
  cases zbo w 1 20 <;> cases zbo n 1 10 <;> cases zbo la 0 999 <;> cases zbo mo 0 99
  all_goals rfl
theorem cHoldsQ (hd : 11 ≤ d) (h : zTI I J t) {w n bt wh la : Int} (bw : -2147483648 ≤ w ∧ w < 2147483648) (bn : -2147483648 ≤ n ∧ n < 2147483648) (bbt : -2147483648 ≤ bt ∧ bt < 2147483648) (bwh : -2147483648 ≤ wh ∧ wh < 2147483648) (bla : -2147483648 ≤ la ∧ la < 2147483648) : ∃ I', zCd zT d 154 [.ref 16, .int (zi w), .int (zi n), .int (zi bt), .int (zi wh), .int (zi la)] (zm L I J r) = some (some (.int (yHoV t w n bt wh la)), (zm L I' J r)) ∧ zSm I I' ∧ I' 120 = I 120 := by
  obtain ⟨e, rfl⟩ : ∃ e, d = e + 1 := ⟨d - 1, by omega⟩
  have e1 : zi wh = -1 ↔ wh = -1 := zi_m1 bwh
  have e2 : zi wh < 0 ↔ wh < 0 := zi_lt (y := 0) bwh (by decide)
  have e3 : zi wh < zi n ↔ wh < n := zi_lt bwh bn
  have k1 : zCd zT e 225 [.int (zi la), .int 0, .int 999] (zm L I J r) = _ := cOut (lo := 0) (hi := 999) (by omega) bla (by decide) (by decide)
  have hA : zX 0 (zCd zT e) zc_X11_holds 0 [some (.ref 16), some (.int (zi w)), some (.int (zi n)), some (.int (zi bt)), some (.int (zi wh)), some (.int (zi la)), none] [] (zm L I J r) = zX 0 (zCd zT e) zc_X11_holds 3 [some (.ref 16), some (.int (zi w)), some (.int (zi n)), some (.int (zi bt)), some (.int (zi wh)), some (.int (zi la)), none] [.int (zb1 (yWh n wh)), .ref 16] (zm L I J r) := by
    rw [eX11_holds_0, eX11_holds_1, eX11_holds_2]
    simp only [e1, e2, e3]
    unfold yWh
    by_cases q1 : wh = -1
    · rw [if_pos q1, decide_eq_false (fun w => w.1 q1)]
      rfl
    · rw [if_neg q1]
      by_cases q2 : wh < 0
      · rw [if_pos q2, decide_eq_true ⟨q1, Or.inl q2⟩]
        rfl
      · rw [if_neg q2]
        by_cases q3 : wh < n
        · rw [if_pos q3, decide_eq_false (by omega)]
          rfl
        · rw [if_neg q3, decide_eq_true (by omega)]
          rfl
  have hB : ∀ x : Int32, zX 0 (zCd zT e) zc_X11_holds 3 [some (.ref 16), some (.int (zi w)), some (.int (zi n)), some (.int (zi bt)), some (.int (zi wh)), some (.int (zi la)), none] [.int x, .ref 16] (zm L I J r) = zX 0 (zCd zT e) zc_X11_holds 10 [some (.ref 16), some (.int (zi w)), some (.int (zi n)), some (.int (zi bt)), some (.int (zi wh)), some (.int (zi la)), none] [.int (zb1 (yHB w n bt la)), .int x, .ref 16] (zm L I J r) := by
    intro x
    rw [eX11_holds_3, cBadW (by omega) bw, zbI_s, eX11_holds_4, cBadN (by omega) bn, zbI_s, eX11_holds_5, cBadB (by omega) bbt, zbI_s, eX11_holds_6, k1, zbI_s, eX11_holds_7, eX11_holds_8, eX11_holds_9]
    unfold yHB
    cases zbo w 1 20 <;> cases zbo n 1 10 <;> cases zbo bt 1 999 <;> cases zbo la 0 999
    all_goals rfl
  rw [qX11_holds, hA, hB, eX11_holds_10, cRef (by omega) h, zbI_s, eX11_holds_11]
  unfold yHoV
  by_cases q : zRf (yWh n wh) (yHB w n bt la) t.n = 0
  · rw [if_pos (zRf_i.mpr q), if_pos q, eX11_holds_12]
    obtain ⟨q1, q2, q3⟩ := zRf_0.mp q
    unfold yHB at q2
    simp only [Bool.or_eq_false_iff] at q2
    have gn := zbo_f q2.2.1
    have en : zi n = zi ((n.toNat : Nat) : Int) := congrArg zi (by omega)
    obtain ⟨I1, c1, c2, c3⟩ := cTT (d := e) (L := L) (r := r) (by omega) h q3 (zbo_f q2.1)
    have ks := zSm_5 (fun o n6 n7 n8 n9 _ => c2 o n6 n7 n8 n9)
    rw [c1, zbI_s, eX11_holds_13, eX11_holds_15, eX11_holds_16]
    cases hz : zIsO t w 0 0
    · exact ⟨I1, rfl, ks⟩
    · have hT1 := zTI_fr ks.1 h
      obtain ⟨I2, a1, a2⟩ := cHolds (d := e) (L := L) (r := r) (I := I1) (J := J) (by omega) hT1 q3 (c3 hz) (n := n.toNat) (by omega) (zi bt) (zi wh) (zi la)
      rw [if_neg (show ¬ zb1 true = 0 by decide), if_pos rfl, en, a1, zbI_s, eX11_holds_14, eX11_holds_16]
      exact ⟨I2, rfl, zSm_5 (fun o n6 n7 n8 n9 n0 => (a2 o n0).trans (c2 o n6 n7 n8 n9))⟩
  · rw [if_neg (fun x => q (zRf_i.mp x)), if_neg q]
    exact ⟨I, rfl, zSm_rf, rfl⟩
theorem mHoldsQ (hd : 11 ≤ d) (h : zTI I J t) {w n bt wh la : Int} (bw : -2147483648 ≤ w ∧ w < 2147483648) (bn : -2147483648 ≤ n ∧ n < 2147483648) (bbt : -2147483648 ≤ bt ∧ bt < 2147483648) (bwh : -2147483648 ≤ wh ∧ wh < 2147483648) (bla : -2147483648 ≤ la ∧ la < 2147483648) : ∃ I', zCd zT d 310 [.ref 130, .int (zi w), .int (zi n), .int (zi bt), .int (zi wh), .int (zi la)] (zm L I J r) = some (some (.int (yHoV t w n bt wh la)), (zm L I' J r)) ∧ zSm I I' ∧ I' 120 = I 120 := by
  obtain ⟨e, rfl⟩ : ∃ e, d = e + 1 := ⟨d - 1, by omega⟩
  have h0 := zTI_fr zSm_0 h
  have g0 : zu I 130 0 0 120 = I 120 := zu_o (by decide)
  have hs0 : zSm I (zu I 130 0 0) := zSm_0
  have e1 : zi wh = -1 ↔ wh = -1 := zi_m1 bwh
  have e2 : zi wh < 0 ↔ wh < 0 := zi_lt (y := 0) bwh (by decide)
  have e3 : zi wh < zi n ↔ wh < n := zi_lt bwh bn
  rw [qX12_holds, eX12_holds_0]
  generalize zu I 130 0 0 = IA at h0 g0 hs0 ⊢
  have hA : (if zi wh = -1 then zX 0 (zCd zT e) zc_X12_holds 2 [some (.ref 130), some (.int (zi w)), some (.int (zi n)), some (.int (zi bt)), some (.int (zi wh)), some (.int (zi la))] [] (zm L IA J r) else if zi wh < 0 then zX 0 (zCd zT e) zc_X12_holds 1 [some (.ref 130), some (.int (zi w)), some (.int (zi n)), some (.int (zi bt)), some (.int (zi wh)), some (.int (zi la))] [] (zm L IA J r) else if zi wh < zi n then zX 0 (zCd zT e) zc_X12_holds 2 [some (.ref 130), some (.int (zi w)), some (.int (zi n)), some (.int (zi bt)), some (.int (zi wh)), some (.int (zi la))] [] (zm L IA J r) else zX 0 (zCd zT e) zc_X12_holds 1 [some (.ref 130), some (.int (zi w)), some (.int (zi n)), some (.int (zi bt)), some (.int (zi wh)), some (.int (zi la))] [] (zm L IA J r)) = (if yWh n wh = true then some (some (.int (-2)), (zm L IA J r)) else zX 0 (zCd zT e) zc_X12_holds 2 [some (.ref 130), some (.int (zi w)), some (.int (zi n)), some (.int (zi bt)), some (.int (zi wh)), some (.int (zi la))] [] (zm L IA J r)) := by
    rw [eX12_holds_1]
    simp only [e1, e2, e3]
    unfold yWh
    by_cases q1 : wh = -1
    · rw [if_pos q1, decide_eq_false (fun w => w.1 q1)]
      rfl
    · rw [if_neg q1]
      by_cases q2 : wh < 0
      · rw [if_pos q2, decide_eq_true ⟨q1, Or.inl q2⟩]
        rfl
      · rw [if_neg q2]
        by_cases q3 : wh < n
        · rw [if_pos q3, decide_eq_false (by omega)]
          rfl
        · rw [if_neg q3, decide_eq_true (by omega)]
          rfl
  rw [hA, eX12_holds_2, mWeight (by omega) bw, zbI_s, eX12_holds_3, mWithin (by omega) bn, zbI_s, eX12_holds_4, mWithin (by omega) bbt, zbI_s, eX12_holds_5, mWithin (by omega) bla, zbI_s, eX12_holds_6, eX12_holds_7, eX12_holds_8, mTrack (by omega) h0, zbI_s, eX12_holds_9, show (1 : Int64).toInt = 1 from rfl, show (10 : Int64).toInt = 10 from rfl, show (999 : Int64).toInt = 999 from rfl, show (0 : Int64).toInt = 0 from rfl]
  simp only [zn_if, zor_if]
  have hBB : (zbo w 1 20 || (zbo n 1 10 || (zbo bt 1 999 || zbo la 0 999))) = yHB w n bt la := rfl
  rw [hBB]
  simp only [zp_if]
  unfold yHoV zRf
  by_cases q1 : yWh n wh = true
  · rw [if_pos q1, if_pos q1]
    exact ⟨IA, rfl, hs0, g0⟩
  rw [if_neg q1, if_neg q1]
  by_cases q2 : yHB w n bt la = true
  · rw [if_pos q2, if_pos q2]
    exact ⟨IA, rfl, hs0, g0⟩
  rw [if_neg q2, if_neg q2]
  by_cases q3 : t.n = 0
  · rw [if_pos q3, if_neg (show ¬ decide (0 < t.n) = true by rw [decide_eq_true_iff]; omega)]
    exact ⟨IA, rfl, hs0, g0⟩
  rw [if_neg q3, if_pos (show decide (0 < t.n) = true by rw [decide_eq_true_iff]; omega), eX12_holds_10, if_pos rfl]
  rw [Bool.not_eq_true] at q2
  unfold yHB at q2
  simp only [Bool.or_eq_false_iff] at q2
  have gn := zbo_f q2.2.1
  have en : zi n = zi ((n.toNat : Nat) : Int) := congrArg zi (by omega)
  obtain ⟨I1, c1, c2, c3, c4, c5, c6⟩ := mOut (d := e) (L := L) (r := r) (by omega) h0 (by omega) (zbo_f q2.1) (wi := 0) (co := 0) (by decide) (by decide)
  have c1' : zCd zT e 279 [.ref 130, .int (zi w), .int 0, .int 0] (zm L IA J r) = some (none, (zm L I1 J r)) := c1
  rw [c1', zbV_s, eX12_holds_11, eX12_holds_13, eX12_holds_14]
  by_cases hz : zIsO t w 0 0 = true
  · have al := zRu_all c2.2.2.1.2.2.2.2.2.2.2.2.2.1 (of_decide_eq_true hz)
    obtain ⟨I2, a1, a2⟩ := mHolds (d := e) (L := L) (r := r) (I := I1) (J := J) (by omega) c2 (by omega) c6 al.2 (n := n.toNat) (by omega) (zi bt) (zi wh) (zi la)
    rw [if_pos (c5.mpr hz), if_pos hz, en, a1, zbI_s, eX12_holds_12, eX12_holds_14]
    exact ⟨I2, rfl, zSm_tr hs0 (zSm_tr c3 (zSm_x (a := 142) (fun _ => rfl) a2)), by rw [a2 120 (by decide), c4, g0]⟩
  · rw [if_neg (fun w => hz (c5.mp w)), if_neg hz]
    exact ⟨I1, rfl, zSm_tr hs0 c3, by rw [c4, g0]⟩
theorem cBeatQ (hd : 12 ≤ d) (h : zTI I J t) {w n la mo : Int} (bw : -2147483648 ≤ w ∧ w < 2147483648) (bn : -2147483648 ≤ n ∧ n < 2147483648) (bla : -2147483648 ≤ la ∧ la < 2147483648) (bmo : -2147483648 ≤ mo ∧ mo < 2147483648) : ∃ I', zCd zT d 156 [.ref 16, .int (zi w), .int (zi n), .int (zi la), .int (zi mo)] (zm L I J r) = some (some (.int (zi (yBtV t w n la mo))), (zm L I' J r)) ∧ zSm I I' ∧ I' 120 = I 120 := by
  obtain ⟨e, rfl⟩ : ∃ e, d = e + 1 := ⟨d - 1, by omega⟩
  have kr : zCd zT e 219 [.ref 16, .int 0, .int (zb1 (yBB w n la mo))] (zm L I J r) = _ := cRef (by omega) h false (yBB w n la mo)
  rw [qX11_beat, eX11_beat_0, cBBQ (by omega) bw bn bla bmo, zbI_s, eX11_beat_1, kr, zbI_s, eX11_beat_2]
  unfold yBtV
  by_cases q : zRf false (yBB w n la mo) t.n = 0
  · rw [if_pos (zRf_i.mpr q), if_pos q, eX11_beat_3]
    obtain ⟨q1, q2, q3⟩ := zRf_0.mp q
    unfold yBB at q2
    simp only [Bool.or_eq_false_iff] at q2
    have gn := zbo_f q2.2.1
    have en : zi n = zi ((n.toNat : Nat) : Int) := congrArg zi (by omega)
    obtain ⟨I1, c1, c2⟩ := cLB (d := e) (L := L) (r := r) (by omega) h q3 (zbo_f q2.1) (n := n.toNat) (by omega) (zi la) (zi mo)
    rw [en, c1, zbI_s, eX11_beat_4]
    exact ⟨I1, rfl, c2⟩
  · rw [if_neg (fun x => q (zRf_i.mp x)), if_neg q]
    exact ⟨I, rfl, zSm_rf, rfl⟩
theorem mBeatQ (hd : 11 ≤ d) (h : zTI I J t) {w n la mo : Int} (bw : -2147483648 ≤ w ∧ w < 2147483648) (bn : -2147483648 ≤ n ∧ n < 2147483648) (bla : -2147483648 ≤ la ∧ la < 2147483648) (bmo : -2147483648 ≤ mo ∧ mo < 2147483648) : ∃ I', zCd zT d 311 [.ref 130, .int (zi w), .int (zi n), .int (zi la), .int (zi mo)] (zm L I J r) = some (some (.int (zi (yBtV t w n la mo))), (zm L I' J r)) ∧ zSm I I' ∧ I' 120 = I 120 := by
  obtain ⟨e, rfl⟩ : ∃ e, d = e + 1 := ⟨d - 1, by omega⟩
  have h0 := zTI_fr zSm_0 h
  have g0 : zu I 130 0 0 120 = I 120 := zu_o (by decide)
  have hs0 : zSm I (zu I 130 0 0) := zSm_0
  rw [qX12_beat, eX12_beat_0]
  generalize zu I 130 0 0 = IA at h0 g0 hs0 ⊢
  rw [mWeight (by omega) bw, zbI_s, eX12_beat_1, mWithin (by omega) bn, zbI_s, eX12_beat_2, mWithin (by omega) bla, zbI_s, eX12_beat_3, mWithin (by omega) bmo, zbI_s, eX12_beat_4, eX12_beat_5, eX12_beat_6, mTrack (by omega) h0, zbI_s, eX12_beat_7, show (1 : Int64).toInt = 1 from rfl, show (10 : Int64).toInt = 10 from rfl, show (999 : Int64).toInt = 999 from rfl, show (0 : Int64).toInt = 0 from rfl, show (99 : Int64).toInt = 99 from rfl]
  simp only [zn_if, zor_if]
  have hBB : (zbo w 1 20 || (zbo n 1 10 || (zbo la 0 999 || zbo mo 0 99))) = yBB w n la mo := rfl
  rw [hBB]
  simp only [zp_if]
  unfold yBtV zRf
  rw [if_neg (show ¬ false = true by decide)]
  by_cases q2 : yBB w n la mo = true
  · rw [if_pos q2, if_pos q2]
    exact ⟨IA, rfl, hs0, g0⟩
  rw [if_neg q2, if_neg q2]
  by_cases q3 : t.n = 0
  · rw [if_pos q3, if_neg (show ¬ decide (0 < t.n) = true by rw [decide_eq_true_iff]; omega)]
    exact ⟨IA, rfl, hs0, g0⟩
  rw [if_neg q3, if_pos (show decide (0 < t.n) = true by rw [decide_eq_true_iff]; omega), eX12_beat_8, if_pos rfl]
  rw [Bool.not_eq_true] at q2
  unfold yBB at q2
  simp only [Bool.or_eq_false_iff] at q2
  have gn := zbo_f q2.2.1
  have en : zi n = zi ((n.toNat : Nat) : Int) := congrArg zi (by omega)
  obtain ⟨I1, c1, c2, c3⟩ := mLB (d := e) (L := L) (r := r) (by omega) h0 (by omega) (zbo_f q2.1) (n := n.toNat) (by omega) (zi la) (zi mo)
  rw [en, c1, zbI_s, eX12_beat_9]
  exact ⟨I1, rfl, zSm_tr hs0 c2, by rw [c3, g0]⟩
theorem cRidersQ (hd : 12 ≤ d) (h : zTI I J t) {w n la mo se : Int} (bw : -2147483648 ≤ w ∧ w < 2147483648) (bn : -2147483648 ≤ n ∧ n < 2147483648) (bla : -2147483648 ≤ la ∧ la < 2147483648) (bmo : -2147483648 ≤ mo ∧ mo < 2147483648) (bse : -2147483648 ≤ se ∧ se < 2147483648) : ∃ I', zCd zT d 210 [.ref 16, .int (zi w), .int (zi n), .int (zi la), .int (zi mo), .int (zi se)] (zm L I J r) = some (some (.int (zi (yRiV t w n la mo se))), (zm L I' J r)) ∧ zSm I I' ∧ I' 120 = I 120 := by
  obtain ⟨e, rfl⟩ : ∃ e, d = e + 1 := ⟨d - 1, by omega⟩
  have kr : zCd zT e 219 [.ref 16, .int 0, .int (zb1 (yBB w n la mo || zbo se 1 40))] (zm L I J r) = _ := cRef (by omega) h false (yBB w n la mo || zbo se 1 40)
  have hA : zX 0 (zCd zT e) zc_X11_riders 1 [some (.ref 16), some (.int (zi w)), some (.int (zi n)), some (.int (zi la)), some (.int (zi mo)), some (.int (zi se)), none, none] [.int (zb1 (yBB w n la mo)), .int 0, .ref 16] (zm L I J r) = zX 0 (zCd zT e) zc_X11_riders 5 [some (.ref 16), some (.int (zi w)), some (.int (zi n)), some (.int (zi la)), some (.int (zi mo)), some (.int (zi se)), none, none] [.int (zb1 (yBB w n la mo || zbo se 1 40)), .int 0, .ref 16] (zm L I J r) := by
    rw [eX11_riders_1, cBadS (by omega) bse, zbI_s, eX11_riders_2, eX11_riders_3, eX11_riders_4]
    cases yBB w n la mo <;> cases zbo se 1 40
    all_goals rfl
  rw [qX11_riders, eX11_riders_0, cBBQ (by omega) bw bn bla bmo, zbI_s, hA, eX11_riders_5, kr, zbI_s, eX11_riders_6]
  unfold yRiV
  by_cases q : zRf false (yBB w n la mo || zbo se 1 40) t.n = 0
  · rw [if_pos (zRf_i.mpr q), if_pos q, eX11_riders_7]
    obtain ⟨q1, q2, q3⟩ := zRf_0.mp q
    unfold yBB at q2
    simp only [Bool.or_eq_false_iff] at q2
    have gn := zbo_f q2.1.2.1
    have gs := zbo_f q2.2
    have en : zi n = zi ((n.toNat : Nat) : Int) := congrArg zi (by omega)
    obtain ⟨I1, c1, c2⟩ := cLB (d := e) (L := L) (r := r) (by omega) h q3 (zbo_f q2.1.1) (n := n.toNat) (by omega) (zi la) (zi mo)
    rw [en, c1, zbI_s, eX11_riders_8]
    have lb := yLb_b (t := t) (w := w) (n := n.toNat) (la := zi la) (mo := zi mo)
    generalize yLb t w n.toNat (zi la) (zi mo) = x at lb ⊢
    refine ⟨I1, ?_, c2⟩
    rcases lb with lb | lb
    · rw [lb, if_neg (by decide), eX11_riders_10, if_pos rfl]
      rfl
    · have hz : decide (zi x ≠ 0) = true := by
        rw [decide_eq_true_iff, show (0 : Int32) = zi 0 from rfl, ne_eq, zi_eq (by omega) (by decide)]
        omega
      have dv : zi se * (1000 : Int32) / zi x = zi (se * 1000 / x) := by simp (disch := omega) only [zi_lit, zi_mul, zi_div]
      rw [if_pos (show (1 : Int32) ≤ zi x by rw [show (1 : Int32) = zi 1 from rfl, zi_le (by decide) (by omega)]; omega), eX11_riders_9, hz, zgd_t, eX11_riders_10, dv, if_neg (by omega)]
  · rw [if_neg (fun x => q (zRf_i.mp x)), if_neg q]
    exact ⟨I, rfl, zSm_rf, rfl⟩
theorem mRidersQ (hd : 11 ≤ d) (h : zTI I J t) {w n la mo se : Int} (bw : -2147483648 ≤ w ∧ w < 2147483648) (bn : -2147483648 ≤ n ∧ n < 2147483648) (bla : -2147483648 ≤ la ∧ la < 2147483648) (bmo : -2147483648 ≤ mo ∧ mo < 2147483648) (bse : -2147483648 ≤ se ∧ se < 2147483648) : ∃ I', zCd zT d 359 [.ref 130, .int (zi w), .int (zi n), .int (zi la), .int (zi mo), .int (zi se)] (zm L I J r) = some (some (.int (zi (yRiV t w n la mo se))), (zm L I' J r)) ∧ zSm I I' ∧ I' 120 = I 120 := by
  obtain ⟨e, rfl⟩ : ∃ e, d = e + 1 := ⟨d - 1, by omega⟩
  have h0 := zTI_fr zSm_0 h
  have g0 : zu I 130 0 0 120 = I 120 := zu_o (by decide)
  have hs0 : zSm I (zu I 130 0 0) := zSm_0
  rw [qX12_riders, eX12_riders_0]
  generalize zu I 130 0 0 = IA at h0 g0 hs0 ⊢
  rw [mWeight (by omega) bw, zbI_s, eX12_riders_1, mWithin (by omega) bn, zbI_s, eX12_riders_2, mWithin (by omega) bla, zbI_s, eX12_riders_3, mWithin (by omega) bmo, zbI_s, eX12_riders_4, mWithin (by omega) bse, zbI_s, eX12_riders_5, eX12_riders_6, eX12_riders_7, mTrack (by omega) h0, zbI_s, eX12_riders_8, show (1 : Int64).toInt = 1 from rfl, show (10 : Int64).toInt = 10 from rfl, show (999 : Int64).toInt = 999 from rfl, show (0 : Int64).toInt = 0 from rfl, show (99 : Int64).toInt = 99 from rfl, show (40 : Int64).toInt = 40 from rfl]
  simp only [zn_if, zor_if]
  have hBB : (zbo w 1 20 || (zbo n 1 10 || (zbo la 0 999 || (zbo mo 0 99 || zbo se 1 40)))) = (yBB w n la mo || zbo se 1 40) := by
    unfold yBB
    simp only [Bool.or_assoc]
  rw [hBB]
  simp only [zp_if]
  unfold yRiV zRf
  rw [if_neg (show ¬ false = true by decide)]
  by_cases q2 : (yBB w n la mo || zbo se 1 40) = true
  · rw [if_pos q2, if_pos q2]
    exact ⟨IA, rfl, hs0, g0⟩
  rw [if_neg q2, if_neg q2]
  by_cases q3 : t.n = 0
  · rw [if_pos q3, if_neg (show ¬ decide (0 < t.n) = true by rw [decide_eq_true_iff]; omega)]
    exact ⟨IA, rfl, hs0, g0⟩
  rw [if_neg q3, if_pos (show decide (0 < t.n) = true by rw [decide_eq_true_iff]; omega), eX12_riders_9, if_pos rfl]
  rw [Bool.not_eq_true] at q2
  unfold yBB at q2
  simp only [Bool.or_eq_false_iff] at q2
  have gn := zbo_f q2.1.2.1
  have gs := zbo_f q2.2
  have en : zi n = zi ((n.toNat : Nat) : Int) := congrArg zi (by omega)
  obtain ⟨I1, c1, c2, c3⟩ := mLB (d := e) (L := L) (r := r) (by omega) h0 (by omega) (zbo_f q2.1.1) (n := n.toNat) (by omega) (zi la) (zi mo)
  rw [en, c1, zbI_s, eX12_riders_10]
  have lb := yLb_b (t := t) (w := w) (n := n.toNat) (la := zi la) (mo := zi mo)
  generalize yLb t w n.toNat (zi la) (zi mo) = x at lb ⊢
  refine ⟨I1, ?_, zSm_tr hs0 c2, by rw [c3, g0]⟩
  rcases lb with lb | lb
  · rw [lb, if_pos (by decide), eX12_riders_12, if_pos rfl]
    rfl
  · have hz : decide (zi x ≠ 0) = true := by
      rw [decide_eq_true_iff, show (0 : Int32) = zi 0 from rfl, ne_eq, zi_eq (by omega) (by decide)]
      omega
    have dv : (1000 : Int32) * zi se / zi x = zi (se * 1000 / x) := by
      rw [show (1000 : Int32) * zi se = zi (se * 1000) from (zi_mul 1000 se).trans (congrArg zi (Int.mul_comm _ _))]
      simp (disch := omega) only [zi_div]
    rw [if_neg (show ¬ zi x = -1 by rw [zi_m1 (by omega)]; omega), eX12_riders_11, hz, zgd_t, eX12_riders_12, dv, if_neg (by omega)]
end
theorem oHolds (a b p s f : Int32) : zOk 154 310 [.int a, .int b, .int p, .int s, .int f] := by
  obtain ⟨a, rfl, b1⟩ := zi_of a
  obtain ⟨b, rfl, b2⟩ := zi_of b
  obtain ⟨p, rfl, b3⟩ := zi_of p
  obtain ⟨s, rfl, b4⟩ := zi_of s
  obtain ⟨f, rfl, b5⟩ := zi_of f
  exact zOk_k (V := fun y => .int (yHoV y.1 a b p s f)) (fun L r c I J y h hD hW hcc hc => by
    obtain ⟨I', x1, x2, x3⟩ := cHoldsQ (d := 60) (L := L) (r := r) (by decide) h b1 b2 b3 b4 b5
    exact ⟨I', x1, x2, by unfold zCa; rw [x3]; exact hc⟩) (fun L r c I J y h hD hW hcc => mHoldsQ (by decide) h b1 b2 b3 b4 b5)
theorem oBeat (a b p s : Int32) : zOk 156 311 [.int a, .int b, .int p, .int s] := by
  obtain ⟨a, rfl, b1⟩ := zi_of a
  obtain ⟨b, rfl, b2⟩ := zi_of b
  obtain ⟨p, rfl, b3⟩ := zi_of p
  obtain ⟨s, rfl, b4⟩ := zi_of s
  exact zOk_k (V := fun y => .int (zi (yBtV y.1 a b p s))) (fun L r c I J y h hD hW hcc hc => by
    obtain ⟨I', x1, x2, x3⟩ := cBeatQ (d := 60) (L := L) (r := r) (by decide) h b1 b2 b3 b4
    exact ⟨I', x1, x2, by unfold zCa; rw [x3]; exact hc⟩) (fun L r c I J y h hD hW hcc => mBeatQ (by decide) h b1 b2 b3 b4)
theorem oRiders (a b p s f : Int32) : zOk 210 359 [.int a, .int b, .int p, .int s, .int f] := by
  obtain ⟨a, rfl, b1⟩ := zi_of a
  obtain ⟨b, rfl, b2⟩ := zi_of b
  obtain ⟨p, rfl, b3⟩ := zi_of p
  obtain ⟨s, rfl, b4⟩ := zi_of s
  obtain ⟨f, rfl, b5⟩ := zi_of f
  exact zOk_k (V := fun y => .int (zi (yRiV y.1 a b p s f))) (fun L r c I J y h hD hW hcc hc => by
    obtain ⟨I', x1, x2, x3⟩ := cRidersQ (d := 60) (L := L) (r := r) (by decide) h b1 b2 b3 b4 b5
    exact ⟨I', x1, x2, by unfold zCa; rw [x3]; exact hc⟩) (fun L r c I J y h hD hW hcc => mRidersQ (by decide) h b1 b2 b3 b4 b5)
