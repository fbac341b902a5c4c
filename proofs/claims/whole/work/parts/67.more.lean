/-! LOG, STAYS, ENTRIES, OPERATORS: one more -/
def yNb (t : zDy) (p : Int) : Bool := decide (0 < t.n) && zbo p 0 (t.m : Int)
section
variable {d L r : Nat} {I : Nat → Nat → Int32} {J : Nat → Nat → Int64}
variable {t : zDy}
theorem cR1 (hd : 3 ≤ d) (h : zTI I J t) (x : Bool) : zCd zT d 219 [.ref 16, .int (zi 1), .int (zb1 x)] (zm L I J r) = some (some (.int (zi (-2))), (zm L I J r)) := by
  have := cRef (d := d) (L := L) (r := r) hd h true x
  unfold zRf at this
  rw [if_pos rfl] at this
  exact this
theorem cR10 (hd : 3 ≤ d) (h : zTI I J t) : zCd zT d 219 [.ref 16, .int (zi 1), .int (zi 0)] (zm L I J r) = some (some (.int (zi (-2))), (zm L I J r)) := cR1 hd h false
theorem cR11 (hd : 3 ≤ d) (h : zTI I J t) : zCd zT d 219 [.ref 16, .int (zi 1), .int (zi 1)] (zm L I J r) = some (some (.int (zi (-2))), (zm L I J r)) := cR1 hd h true
theorem cR01 (hd : 3 ≤ d) (h : zTI I J t) : zCd zT d 219 [.ref 16, .int (zi 0), .int (zi 1)] (zm L I J r) = some (some (.int (zi (-3))), (zm L I J r)) := by
  have := cRef (d := d) (L := L) (r := r) hd h false true
  unfold zRf at this
  rw [if_neg (by decide), if_pos rfl] at this
  exact this
theorem cR0n (hd : 3 ≤ d) (h : zTI I J t) (hn : t.n = 0) : zCd zT d 219 [.ref 16, .int (zi 0), .int (zi 0)] (zm L I J r) = some (some (.int (zi (-5))), (zm L I J r)) := by
  have := cRef (d := d) (L := L) (r := r) hd h false false
  unfold zRf at this
  rw [if_neg (by decide), if_neg (by decide), if_pos hn] at this
  exact this
theorem cR0p (hd : 3 ≤ d) (h : zTI I J t) (hn : 0 < t.n) : zCd zT d 219 [.ref 16, .int (zi 0), .int (zi 0)] (zm L I J r) = some (some (.int (zi 0)), (zm L I J r)) := by
  have := cRef (d := d) (L := L) (r := r) hd h false false
  unfold zRf at this
  rw [if_neg (by decide), if_neg (by decide), if_neg (by omega)] at this
  exact this
theorem cNb (hd : 3 ≤ d) (h : zTI I J t) {p : Int} (hp : -2147483648 ≤ p ∧ p < 2147483648) : zCd zT d 221 [.ref 16, .int (zi p)] (zm L I J r) = some (some (.int (zb1 (yNb t p))), (zm L I J r)) := by
  have hw := h.2.2.1.1
  have hm := h.2.2.1.2.2.1
  have e : I 32 5 = zi t.n := h.1.1
  have e6 : I 32 6 = zi t.m := h.1.2.2.1
  have e0 : zi (t.n : Int) = 0 ↔ t.n = 0 := (zi_eq (y := 0) (by omega) (by decide)).trans (by omega)
  have e1 : zi p < (0 : Int32) ↔ p < 0 := zi_lt (y := 0) hp (by decide)
  have e2 : zi (t.m : Int) + (1 : Int32) - (1 : Int32) = zi (t.m : Int) := by
    rw [show (1 : Int32) = zi 1 from rfl, zi_add, zi_sub]
    exact congrArg zi (by omega)
  have e3 : zi p ≤ zi (t.m : Int) ↔ p ≤ (t.m : Int) := zi_le hp (by omega)
  rw [sX11_noSuchBlock hd, e, e6]
  simp only [e0, e1]
  unfold yNb zbo
  by_cases q : t.n = 0
  · simp only [q, if_true]
    rw [if_neg (by decide)]
    rfl
  · simp only [q, if_false, if_true, e2, e3]
    rw [decide_eq_true (show 0 < t.n by omega)]
    by_cases q1 : p < 0
    · rw [if_pos q1, decide_eq_true (Or.inl q1)]
      rfl
    · rw [if_neg q1]
      by_cases q2 : p ≤ (t.m : Int)
      · rw [if_pos q2, decide_eq_false (show ¬ (p < 0 ∨ (t.m : Int) < p) by omega)]
        rfl
      · rw [if_neg q2, decide_eq_true (show (p < 0 ∨ (t.m : Int) < p) by omega)]
        rfl
theorem cAddO (hd : 3 ≤ d) {o q : Nat} (ho : o = 39 + 2 * q) (hq : q < 8) {b : yTb} (h : cTb o q I b) (hb : b.1 < zMs q) (v0 v1 v2 v3 : Int) : ∃ I', zCd zT d 66 [.ref o, .int (zi v0), .int (zi v1), .int (zi v2), .int (zi v3)] (zm L I J r) = some (some (.int (zi b.1)), (zm L I' J r)) ∧ cTb (39 + 2 * q) q I' (zPu b fun f => if f = 0 then v0 else if f = 1 then v1 else if f = 2 then v2 else v3) ∧ ∀ o, o ≠ 39 + 2 * q → o ≠ 39 + 2 * q + 1 → I' o = I o := by
  subst ho
  exact cAdd hd hq h hb v0 v1 v2 v3
end
theorem ym2 : ¬ zi (-2) = zi 0 := by decide
theorem ym3 : ¬ zi (-3) = zi 0 := by decide
theorem ym5 : ¬ zi (-5) = zi 0 := by decide
theorem zAl_a (x : Int) : x + 1 - 1 = x := by omega
theorem oLog (a b p s : Int32) : zOk 160 313 [.int a, .int b, .int p, .int s] := by
  intro L c r I J y z0 z1 hc hr hv
  obtain ⟨a, rfl, ba⟩ := zi_of a
  obtain ⟨b, rfl, bb⟩ := zi_of b
  obtain ⟨p, rfl, bp⟩ := zi_of p
  obtain ⟨s, rfl, bs⟩ := zi_of s
  have hT := zV_TI hv
  have hw60 := hT.2.2.1.1
  have hm5 := hT.2.2.1.2.2.1
  have hb : cTb 39 0 I (y.2.2.1 0) := hv.1.2.2.1 0 (by decide)
  have hw := hv.2.2.1.2.2.1 0 (by decide)
  have hn : I 131 618 = zi (y.2.2.1 0).1 := (zV_mt hv (q := 0) (by decide)).1
  have hw1 : (y.2.2.1 0).1 ≤ 12 := hw.1
  have hpt : I 131 0 = zi y.1.n := hv.2.1.1.1
  have hpm : I 131 61 = zi y.1.m := by have := hv.2.1.1.2.2.1; rwa [Nat.zero_add] at this
  have hn0 : y.1.n = 0 → (y.2.2.1 0).1 = 0 := fun w => (hv.2.2.1.2.2.2.2 w).1
  have hF := cFull (d := 59) (L := L) (r := r) (J := J) (by decide) (o := 39) (by decide) hb hw.1
  by_cases q0 : y.1.n = 0
  · have hz0 := hn0 q0
    cases h0 : zbo a 0 3 <;> cases h1 : zbo b 1 20 <;> cases h2 : zbo p 1 99999 <;> cases h3 : zbo s 0 99
    all_goals first
      | (refine zGo_0 hr hv (.int (zi (-2))) ?_ ?_
         · simp (disch := omega) only [qX11_log, eX11_log_0, eX11_log_1, eX11_log_2, eX11_log_3, eX11_log_4, eX11_log_5, eX11_log_6, eX11_log_7, eX11_log_8, eX11_log_9, eX11_log_10, eX11_log_11, eX11_log_12, qX11_badLoggedTrain, eX11_badLoggedTrain_0, eX11_badLoggedTrain_1, qX11_badTicks, eX11_badTicks_0, eX11_badTicks_1, cOut, cBadW, h0, h1, h2, h3, if_true, if_false, Bool.or_true, Bool.true_or, Bool.or_false, zbI_s, zbL_s, zbV_s, zgd_t, zb1_t, zb1_f, zb1_01, zz_0, zz_1, zi_lit, zi_add, zi_sub, zi_mul, zi_neg, zi_z0, ym2, ym3, ym5, cR10 (d := 59) (by decide) hT, cR11 (d := 59) (by decide) hT, cR01 (d := 59) (by decide) hT, cR0n (d := 59) (by decide) hT q0]
         · simp (disch := omega) only [qX12_log, eX12_log_0, eX12_log_1, eX12_log_2, eX12_log_3, eX12_log_4, eX12_log_5, eX12_log_6, eX12_log_7, eX12_log_8, eX12_log_9, eX12_log_10, mWithin, mWeight, mAir, show (0 : Int64).toInt = 0 from rfl, show (1 : Int64).toInt = 1 from rfl, show (3 : Int64).toInt = 3 from rfl, show (99 : Int64).toInt = 99 from rfl, show (9999 : Int64).toInt = 9999 from rfl, show (99999 : Int64).toInt = 99999 from rfl, h0, h1, h2, h3, Bool.not_false, Bool.not_true, if_true, if_false, sX12_isTrack, sX12_blocks, zu_n, zu_y, zi_le, zi_eq, zi_lt, if_pos, if_neg, zbI_s, zbL_s, zbV_s, zgd_t, zb1_t, zb1_f, zb1_01, zz_0, zz_1, zi_lit, zi_add, zi_sub, zi_mul, zi_neg, zi_z0, hpt, hpm, hn, q0, hz0])
      | (refine zGo_0 hr hv (.int (zi (-3))) ?_ ?_
         · simp (disch := omega) only [qX11_log, eX11_log_0, eX11_log_1, eX11_log_2, eX11_log_3, eX11_log_4, eX11_log_5, eX11_log_6, eX11_log_7, eX11_log_8, eX11_log_9, eX11_log_10, eX11_log_11, eX11_log_12, qX11_badLoggedTrain, eX11_badLoggedTrain_0, eX11_badLoggedTrain_1, qX11_badTicks, eX11_badTicks_0, eX11_badTicks_1, cOut, cBadW, h0, h1, h2, h3, if_true, if_false, Bool.or_true, Bool.true_or, Bool.or_false, zbI_s, zbL_s, zbV_s, zgd_t, zb1_t, zb1_f, zb1_01, zz_0, zz_1, zi_lit, zi_add, zi_sub, zi_mul, zi_neg, zi_z0, ym2, ym3, ym5, cR10 (d := 59) (by decide) hT, cR11 (d := 59) (by decide) hT, cR01 (d := 59) (by decide) hT, cR0n (d := 59) (by decide) hT q0]
         · simp (disch := omega) only [qX12_log, eX12_log_0, eX12_log_1, eX12_log_2, eX12_log_3, eX12_log_4, eX12_log_5, eX12_log_6, eX12_log_7, eX12_log_8, eX12_log_9, eX12_log_10, mWithin, mWeight, mAir, show (0 : Int64).toInt = 0 from rfl, show (1 : Int64).toInt = 1 from rfl, show (3 : Int64).toInt = 3 from rfl, show (99 : Int64).toInt = 99 from rfl, show (9999 : Int64).toInt = 9999 from rfl, show (99999 : Int64).toInt = 99999 from rfl, h0, h1, h2, h3, Bool.not_false, Bool.not_true, if_true, if_false, sX12_isTrack, sX12_blocks, zu_n, zu_y, zi_le, zi_eq, zi_lt, if_pos, if_neg, zbI_s, zbL_s, zbV_s, zgd_t, zb1_t, zb1_f, zb1_01, zz_0, zz_1, zi_lit, zi_add, zi_sub, zi_mul, zi_neg, zi_z0, hpt, hpm, hn, q0, hz0])
      | (refine zGo_0 hr hv (.int (zi (-5))) ?_ ?_
         · simp (disch := omega) only [qX11_log, eX11_log_0, eX11_log_1, eX11_log_2, eX11_log_3, eX11_log_4, eX11_log_5, eX11_log_6, eX11_log_7, eX11_log_8, eX11_log_9, eX11_log_10, eX11_log_11, eX11_log_12, qX11_badLoggedTrain, eX11_badLoggedTrain_0, eX11_badLoggedTrain_1, qX11_badTicks, eX11_badTicks_0, eX11_badTicks_1, cOut, cBadW, h0, h1, h2, h3, if_true, if_false, Bool.or_true, Bool.true_or, Bool.or_false, zbI_s, zbL_s, zbV_s, zgd_t, zb1_t, zb1_f, zb1_01, zz_0, zz_1, zi_lit, zi_add, zi_sub, zi_mul, zi_neg, zi_z0, ym2, ym3, ym5, cR10 (d := 59) (by decide) hT, cR11 (d := 59) (by decide) hT, cR01 (d := 59) (by decide) hT, cR0n (d := 59) (by decide) hT q0]
         · simp (disch := omega) only [qX12_log, eX12_log_0, eX12_log_1, eX12_log_2, eX12_log_3, eX12_log_4, eX12_log_5, eX12_log_6, eX12_log_7, eX12_log_8, eX12_log_9, eX12_log_10, mWithin, mWeight, mAir, show (0 : Int64).toInt = 0 from rfl, show (1 : Int64).toInt = 1 from rfl, show (3 : Int64).toInt = 3 from rfl, show (99 : Int64).toInt = 99 from rfl, show (9999 : Int64).toInt = 9999 from rfl, show (99999 : Int64).toInt = 99999 from rfl, h0, h1, h2, h3, Bool.not_false, Bool.not_true, if_true, if_false, sX12_isTrack, sX12_blocks, zu_n, zu_y, zi_le, zi_eq, zi_lt, if_pos, if_neg, zbI_s, zbL_s, zbV_s, zgd_t, zb1_t, zb1_f, zb1_01, zz_0, zz_1, zi_lit, zi_add, zi_sub, zi_mul, zi_neg, zi_z0, hpt, hpm, hn, q0, hz0])
  · have qp : 0 < y.1.n := by omega
    by_cases hall : zbo a 0 3 = false ∧ zbo b 1 20 = false ∧ zbo p 1 99999 = false ∧ zbo s 0 99 = false
    · obtain ⟨h0, h1, h2, h3⟩ := hall
      have g0 := zbo_f h0
      have g1 := zbo_f h1
      have g2 := zbo_f h2
      have g3 := zbo_f h3
      by_cases h9 : (y.2.2.1 0).1 = 12
      · have hfull : decide ((y.2.2.1 0).1 = zMs 0) = true := decide_eq_true h9
        refine zGo_0 hr hv (.int (zi (-4))) ?_ ?_
        · simp (disch := omega) only [qX11_log, eX11_log_0, eX11_log_1, eX11_log_2, eX11_log_3, eX11_log_4, eX11_log_5, eX11_log_6, eX11_log_7, eX11_log_8, eX11_log_9, eX11_log_10, eX11_log_11, eX11_log_12, qX11_badLoggedTrain, eX11_badLoggedTrain_0, eX11_badLoggedTrain_1, qX11_badTicks, eX11_badTicks_0, eX11_badTicks_1, cOut, cBadW, h0, h1, h2, h3, if_true, if_false, Bool.or_true, Bool.true_or, Bool.or_false, zbI_s, zbL_s, zbV_s, zgd_t, zb1_t, zb1_f, zb1_01, zz_0, zz_1, zi_lit, zi_add, zi_sub, zi_mul, zi_neg, zi_z0, ym2, ym3, ym5, cR10 (d := 59) (by decide) hT, cR11 (d := 59) (by decide) hT, cR01 (d := 59) (by decide) hT, cR0p (d := 59) (by decide) hT qp, hF, hfull]
        · simp (disch := omega) only [qX12_log, eX12_log_0, eX12_log_1, eX12_log_2, eX12_log_3, eX12_log_4, eX12_log_5, eX12_log_6, eX12_log_7, eX12_log_8, eX12_log_9, eX12_log_10, mWithin, mWeight, mAir, show (0 : Int64).toInt = 0 from rfl, show (1 : Int64).toInt = 1 from rfl, show (3 : Int64).toInt = 3 from rfl, show (99 : Int64).toInt = 99 from rfl, show (9999 : Int64).toInt = 9999 from rfl, show (99999 : Int64).toInt = 99999 from rfl, h0, h1, h2, h3, Bool.not_false, Bool.not_true, if_true, if_false, sX12_isTrack, sX12_blocks, zu_n, zu_y, zi_le, zi_eq, zi_lt, if_pos, if_neg, zbI_s, zbL_s, zbV_s, zgd_t, zb1_t, zb1_f, zb1_01, zz_0, zz_1, zi_lit, zi_add, zi_sub, zi_mul, zi_neg, zi_z0, hpt, hpm, hn, h9]
      · have hlt : (y.2.2.1 0).1 < 12 := by omega
        have hfull : decide ((y.2.2.1 0).1 = zMs 0) = false := decide_eq_false h9
        refine zGo_t (q := 0) (vv := fun f => if f = 0 then a else if f = 1 then b else if f = 2 then p else s) (by decide) hr hv hlt (fun w => absurd w q0) (fun f hf => ?_) (fun h => absurd h (by decide)) (.int (zi ((((y.2.2.1 0).1 : Nat) : Int) + 1))) ?_ (fun I1 i1 i2 => ?_)
        · obtain rfl | rfl | rfl | rfl := show f = 0 ∨ f = 1 ∨ f = 2 ∨ f = 3 by have : f < 4 := hf; omega
          · exact g0
          · exact g1
          · exact g2
          · exact g3
        · obtain ⟨I1, c1, c2, c3⟩ := cAddO (d := 59) (L := L) (r := r) (J := J) (by decide) (o := 39) (q := 0) rfl (by decide) hb hlt a b p s
          refine ⟨I1, ?_, c2, c3⟩
          simp (disch := omega) only [qX11_log, eX11_log_0, eX11_log_1, eX11_log_2, eX11_log_3, eX11_log_4, eX11_log_5, eX11_log_6, eX11_log_7, eX11_log_8, eX11_log_9, eX11_log_10, eX11_log_11, eX11_log_12, qX11_badLoggedTrain, eX11_badLoggedTrain_0, eX11_badLoggedTrain_1, qX11_badTicks, eX11_badTicks_0, eX11_badTicks_1, cOut, cBadW, h0, h1, h2, h3, if_true, if_false, Bool.or_true, Bool.true_or, Bool.or_false, zbI_s, zbL_s, zbV_s, zgd_t, zb1_t, zb1_f, zb1_01, zz_0, zz_1, zi_lit, zi_add, zi_sub, zi_mul, zi_neg, zi_z0, ym2, ym3, ym5, cR10 (d := 59) (by decide) hT, cR11 (d := 59) (by decide) hT, cR01 (d := 59) (by decide) hT, cR0p (d := 59) (by decide) hT qp, hF, hfull, c1]
        · have hn1 : I1 131 618 = zi (y.2.2.1 0).1 := by rw [i1, hn]
          have hpt1 : I1 131 0 = zi y.1.n := by rw [i1, hpt]
          have hpm1 : I1 131 61 = zi y.1.m := by rw [i1, hpm]
          generalize (y.2.2.1 0).1 = n at *
          refine ⟨zu (zu (zu (zu (zu (zu I1 130 0 (zi 0)) 131 (619 + n) (zi a)) 131 (631 + n) (zi b)) 131 (643 + n) (zi p)) 131 (655 + n) (zi s)) 131 618 (zi ((n + 1 : Nat) : Int)), ?_, fun o k x1 x2 => ?_, ?_, fun f hf => ?_, fun k x1 x2 => ?_⟩
          · simp (disch := omega) only [qX12_log, eX12_log_0, eX12_log_1, eX12_log_2, eX12_log_3, eX12_log_4, eX12_log_5, eX12_log_6, eX12_log_7, eX12_log_8, eX12_log_9, eX12_log_10, mWithin, mWeight, mAir, show (0 : Int64).toInt = 0 from rfl, show (1 : Int64).toInt = 1 from rfl, show (3 : Int64).toInt = 3 from rfl, show (99 : Int64).toInt = 99 from rfl, show (9999 : Int64).toInt = 9999 from rfl, show (99999 : Int64).toInt = 99999 from rfl, h0, h1, h2, h3, Bool.not_false, Bool.not_true, if_true, if_false, sX12_isTrack, sX12_blocks, zu_n, zu_y, zi_le, zi_eq, zi_lt, if_pos, if_neg, zbI_s, zbL_s, zbV_s, zgd_t, zb1_t, zb1_f, zb1_01, zz_0, zz_1, zi_lit, zi_add, zi_sub, zi_mul, zi_neg, zi_z0, hpt1, hpm1, hn1, zin_t, zi_cl, show (619 + (n : Int)).toNat = 619 + n by omega, show (631 + (n : Int)).toNat = 631 + n by omega, show (643 + (n : Int)).toNat = 643 + n by omega, show (655 + (n : Int)).toNat = 655 + n by omega, zAl_a]
            rfl
          · simp (disch := omega) only [zu_n]
          · exact zu_y ⟨rfl, rfl⟩
          · obtain rfl | rfl | rfl | rfl := show f = 0 ∨ f = 1 ∨ f = 2 ∨ f = 3 by have : f < 4 := hf; omega
            · show zu _ 131 618 _ 131 (619 + n) = zi a
              simp (disch := omega) only [zu_n, zu_y]
            · show zu _ 131 618 _ 131 (631 + n) = zi b
              simp (disch := omega) only [zu_n, zu_y]
            · show zu _ 131 618 _ 131 (643 + n) = zi p
              simp (disch := omega) only [zu_n, zu_y]
            · show zu _ 131 618 _ 131 (655 + n) = zi s
              simp (disch := omega) only [zu_n, zu_y]
          · have e0 : k ≠ 618 := x1
            have e1 : k ≠ 619 + n := x2 0 (by decide)
            have e2 : k ≠ 631 + n := x2 1 (by decide)
            have e3 : k ≠ 643 + n := x2 2 (by decide)
            have e4 : k ≠ 655 + n := x2 3 (by decide)
            simp (disch := omega) only [zu_n]
    · cases h0 : zbo a 0 3 <;> cases h1 : zbo b 1 20 <;> cases h2 : zbo p 1 99999 <;> cases h3 : zbo s 0 99
      all_goals first
        | (refine absurd ?_ hall; simp only [h0, h1, h2, h3, and_self]; done)
        | (refine zGo_0 hr hv (.int (zi (-2))) ?_ ?_
           · simp (disch := omega) only [qX11_log, eX11_log_0, eX11_log_1, eX11_log_2, eX11_log_3, eX11_log_4, eX11_log_5, eX11_log_6, eX11_log_7, eX11_log_8, eX11_log_9, eX11_log_10, eX11_log_11, eX11_log_12, qX11_badLoggedTrain, eX11_badLoggedTrain_0, eX11_badLoggedTrain_1, qX11_badTicks, eX11_badTicks_0, eX11_badTicks_1, cOut, cBadW, h0, h1, h2, h3, if_true, if_false, Bool.or_true, Bool.true_or, Bool.or_false, zbI_s, zbL_s, zbV_s, zgd_t, zb1_t, zb1_f, zb1_01, zz_0, zz_1, zi_lit, zi_add, zi_sub, zi_mul, zi_neg, zi_z0, ym2, ym3, ym5, cR10 (d := 59) (by decide) hT, cR11 (d := 59) (by decide) hT, cR01 (d := 59) (by decide) hT, cR0p (d := 59) (by decide) hT qp]
           · simp (disch := omega) only [qX12_log, eX12_log_0, eX12_log_1, eX12_log_2, eX12_log_3, eX12_log_4, eX12_log_5, eX12_log_6, eX12_log_7, eX12_log_8, eX12_log_9, eX12_log_10, mWithin, mWeight, mAir, show (0 : Int64).toInt = 0 from rfl, show (1 : Int64).toInt = 1 from rfl, show (3 : Int64).toInt = 3 from rfl, show (99 : Int64).toInt = 99 from rfl, show (9999 : Int64).toInt = 9999 from rfl, show (99999 : Int64).toInt = 99999 from rfl, h0, h1, h2, h3, Bool.not_false, Bool.not_true, if_true, if_false, sX12_isTrack, sX12_blocks, zu_n, zu_y, zi_le, zi_eq, zi_lt, if_pos, if_neg, zbI_s, zbL_s, zbV_s, zgd_t, zb1_t, zb1_f, zb1_01, zz_0, zz_1, zi_lit, zi_add, zi_sub, zi_mul, zi_neg, zi_z0, hpt, hpm, hn])
        | (refine zGo_0 hr hv (.int (zi (-3))) ?_ ?_
           · simp (disch := omega) only [qX11_log, eX11_log_0, eX11_log_1, eX11_log_2, eX11_log_3, eX11_log_4, eX11_log_5, eX11_log_6, eX11_log_7, eX11_log_8, eX11_log_9, eX11_log_10, eX11_log_11, eX11_log_12, qX11_badLoggedTrain, eX11_badLoggedTrain_0, eX11_badLoggedTrain_1, qX11_badTicks, eX11_badTicks_0, eX11_badTicks_1, cOut, cBadW, h0, h1, h2, h3, if_true, if_false, Bool.or_true, Bool.true_or, Bool.or_false, zbI_s, zbL_s, zbV_s, zgd_t, zb1_t, zb1_f, zb1_01, zz_0, zz_1, zi_lit, zi_add, zi_sub, zi_mul, zi_neg, zi_z0, ym2, ym3, ym5, cR10 (d := 59) (by decide) hT, cR11 (d := 59) (by decide) hT, cR01 (d := 59) (by decide) hT, cR0p (d := 59) (by decide) hT qp]
           · simp (disch := omega) only [qX12_log, eX12_log_0, eX12_log_1, eX12_log_2, eX12_log_3, eX12_log_4, eX12_log_5, eX12_log_6, eX12_log_7, eX12_log_8, eX12_log_9, eX12_log_10, mWithin, mWeight, mAir, show (0 : Int64).toInt = 0 from rfl, show (1 : Int64).toInt = 1 from rfl, show (3 : Int64).toInt = 3 from rfl, show (99 : Int64).toInt = 99 from rfl, show (9999 : Int64).toInt = 9999 from rfl, show (99999 : Int64).toInt = 99999 from rfl, h0, h1, h2, h3, Bool.not_false, Bool.not_true, if_true, if_false, sX12_isTrack, sX12_blocks, zu_n, zu_y, zi_le, zi_eq, zi_lt, if_pos, if_neg, zbI_s, zbL_s, zbV_s, zgd_t, zb1_t, zb1_f, zb1_01, zz_0, zz_1, zi_lit, zi_add, zi_sub, zi_mul, zi_neg, zi_z0, hpt, hpm, hn])

