/-! CREW: the question -/
section
variable {d L r : Nat} {I : Nat → Nat → Int32} {J : Nat → Nat → Int64}
theorem mCount1 (hd : 1 ≤ d) {s : Nat} (hs : s < 1024) : zCd zT d 353 [.int (zi (s : Int))] (zm L I J r) = some (some (.int (zi (yPc s 8 : Nat))), (zm L I J r)) := by
  obtain ⟨e, rfl⟩ : ∃ e, d = e + 1 := ⟨d - 1, by omega⟩
  have c1 := zFor (n := 8) (G := fun k => zX 0 (zCd zT e) zc_X12_count1 1 [some (.int (zi (s : Int))), some (.int (zi (yPc s k : Nat))), some (.int (zi ((k : Nat) : Int)))] [] (zm L I J r)) (fun k hk => by
    have k1 : zi ((k : Nat) : Int) + (1 : Int32) = zi ((k + 1 : Nat) : Int) := zi_add _ 1
    have hle : s >>> k ≤ s := Nat.shiftRight_le s k
    have h2 : (s >>> k) &&& 1 = if s.testBit k = true then 1 else 0 := by
      rw [Nat.and_one_is_mod]
      have ht : (s >>> k).testBit 0 = s.testBit k := by rw [Nat.testBit_shiftRight, Nat.add_zero]
      rw [Nat.testBit_zero] at ht
      by_cases q : s.testBit k = true
      · rw [if_pos q]
        rw [q] at ht
        exact of_decide_eq_true ht
      · rw [if_neg q]
        rw [Bool.not_eq_true] at q
        rw [q] at ht
        have := of_decide_eq_false ht
        omega
    have k3 : zi ((yPc s k : Nat) : Int) + (zi (s : Int) >>> (zi ((k : Nat) : Int) &&& 31) &&& (1 : Int32)) = zi ((yPc s k + (if s.testBit k = true then 1 else 0) : Nat) : Int) := by
      rw [yShr (by omega) (by omega), show (1 : Int32) = zi ((1 : Nat) : Int) from rfl, yAnd (by omega) (by decide), h2, zi_add]
      rfl
    rw [eX12_count1_1, if_neg (show ¬ (8 : Int32) ≤ zi ((k : Nat) : Int) by rw [show (8 : Int32) = zi 8 from rfl, zi_le (by decide) (by omega)]; omega), k3, k1, yPc])
  have z0 : zX 0 (zCd zT e) zc_X12_count1 1 [some (.int (zi (s : Int))), some (.int 0), some (.int 0)] [] (zm L I J r) = _ := c1
  rw [qX12_count1, eX12_count1_0, z0, eX12_count1_1, if_pos (show (8 : Int32) ≤ zi ((8 : Nat) : Int) by decide), eX12_count1_2]
theorem cBadH (hd : 2 ≤ d) {x : Int} (bx : -2147483648 ≤ x ∧ x < 2147483648) : zCd zT d 234 [.int (zi x)] (zm L I J r) = some (some (.int (zb1 (zbo x 0 23))), (zm L I J r)) := by
  obtain ⟨e, rfl⟩ : ∃ e, d = e + 1 := ⟨d - 1, by omega⟩
  cases h1 : zbo x 0 23
  all_goals simp (disch := omega) only [qX11_badHour, eX11_badHour_0, eX11_badHour_1, cOut, h1, zbI_s, zbL_s, zbV_s, zgd_t, zb1_t, zb1_f, zb1_01, zz_0, zz_1, zi_lit, zi_add, zi_sub, zi_mul, zi_neg, zi_z0]
end
theorem oCrew (a l : Int32) : zOk 202 354 [.int a, .int l] := by
  intro L c r I J y z0 z1 hc hr hv
  obtain ⟨a, rfl, ba⟩ := zi_of a
  obtain ⟨l, rfl, bl⟩ := zi_of l
  have hT := zV_TI hv
  have h0 : zTI (zu I 130 0 (zi 0)) J y.1 := zTI_fr zSm_0 hT
  have hb : cTb 53 7 I (y.2.2.1 7) := hv.1.2.2.1 7 (by decide)
  have hw := hv.2.2.1.2.2.1 7 (by decide)
  have hmt : mTb 7 (zu I 130 0 (zi 0) 131) (y.2.2.1 7) := mTb_sm zSm_0 (zV_mt hv (q := 7) (by decide))
  have w7 := yW7 hw
  cases h1 : zbo l 0 1
  · have g1 := zbo_f h1
    cases h2 : zbo a 0 23
    · have cr : zCd zT 59 219 [.ref 16, .int (zi 0), .int (zi 0)] (zm L I J r) = _ := cRef (L := L) (r := r) (by omega) hT false false
      have mt := mTrack (d := 59) (L := L) (r := r) (by omega) h0
      by_cases h3 : y.1.n = 0
      · rw [yRf5 h3] at cr
        rw [decide_eq_false (show ¬ 0 < y.1.n by omega)] at mt
        refine zGo_0 hr hv (.int (zi (-5))) ?_ ?_
        · simp (disch := omega) only [qX11_crew, eX11_crew_0, eX11_crew_1, eX11_crew_2, eX11_crew_3, cOut, cBadH, cr, h1, h2, if_true, if_false, zi_eq, zbI_s, zbL_s, zbV_s, zgd_t, zb1_t, zb1_f, zb1_01, zz_0, zz_1, zi_lit, zi_add, zi_sub, zi_mul, zi_neg, zi_z0]
          rfl
        · simp (disch := omega) only [qX12_crew, eX12_crew_0, eX12_crew_1, eX12_crew_2, eX12_crew_3, eX12_crew_4, eX12_crew_5, mWithin, show (0 : Int64).toInt = 0 from rfl, show (1 : Int64).toInt = 1 from rfl, show (23 : Int64).toInt = 23 from rfl, mt, h1, h2, zi_eq, Bool.not_false, Bool.not_true, yI1, if_true, if_false, zbI_s, zbL_s, zbV_s, zgd_t, zb1_t, zb1_f, zb1_01, zz_0, zz_1, zi_lit, zi_add, zi_sub, zi_mul, zi_neg, zi_z0]
      · rw [yRf0 h3] at cr
        have h3 : 0 < y.1.n := by omega
        rw [decide_eq_true h3] at mt
        have cc := cCrew (d := 59) (L := L) (r := r) (by decide) hT h3 hb hw ba
        have mm := mCrew (d := 59) (L := L) (r := r) (by decide) h0 h3 hmt hw ba
        have pb := yCw_b (b := y.2.2.1 7) (D := yDu (y.2.2.1 7) a (y.2.2.1 7).1) (K := 2 ^ (y.1.m + 1) - 1) (2 ^ (y.2.2.1 7).1)
        have hp : 2 ^ (y.2.2.1 7).1 ≤ 2 ^ 8 := Nat.pow_le_pow_right (by decide) w7.1
        generalize yCw (y.2.2.1 7) (yDu (y.2.2.1 7) a (y.2.2.1 7).1) (2 ^ (y.1.m + 1) - 1) (2 ^ (y.2.2.1 7).1) = p at cc mm pb
        by_cases q : p = -1
        · subst q
          refine zGo_0 hr hv (.int (zi (-1))) ?_ ?_
          · simp (disch := omega) only [qX11_crew, eX11_crew_0, eX11_crew_1, eX11_crew_2, eX11_crew_3, eX11_crew_4, eX11_crew_5, cOut, cBadH, cr, cc, h1, h2, if_true, if_false, zi_eq, yI1, zbI_s, zbL_s, zbV_s, zgd_t, zb1_t, zb1_f, zb1_01, zz_0, zz_1, zi_lit, zi_add, zi_sub, zi_mul, zi_neg, zi_z0]
          · simp (disch := omega) only [qX12_crew, qX12_crew, eX12_crew_0, eX12_crew_1, eX12_crew_2, eX12_crew_3, eX12_crew_4, eX12_crew_5, eX12_crew_6, eX12_crew_7, eX12_crew_8, eX12_crew_9, eX12_crew_10, mWithin, show (0 : Int64).toInt = 0 from rfl, show (1 : Int64).toInt = 1 from rfl, show (23 : Int64).toInt = 23 from rfl, mt, mm, h1, h2, zi_eq, Bool.not_false, Bool.not_true, yI1, if_true, if_false, zbI_s, zbL_s, zbV_s, zgd_t, zb1_t, zb1_f, zb1_01, zz_0, zz_1, zi_lit, zi_add, zi_sub, zi_mul, zi_neg, zi_z0]
        · obtain ⟨s, rfl⟩ : ∃ k : Nat, p = k := ⟨p.toNat, by omega⟩
          have hs : s < 1024 := by omega
          have px : yPc s 8 = yPc s 10 := (yPc_x (show s < 2 ^ 8 by omega) 10 (by decide)).symm
          have cb := cBc (d := 59) (L := L) (I := I) (J := J) (r := r) (by decide) (zi (s : Int))
          rw [yBc_p hs] at cb
          have mc := mCount1 (d := 59) (L := L) (I := zu I 130 0 (zi 0)) (J := J) (r := r) (by decide) hs
          rw [px] at mc
          by_cases q2 : l = 0
          · subst q2
            refine zGo_0 hr hv (.int (zi (yPc s 10 : Nat))) ?_ ?_
            · simp (disch := omega) only [qX11_crew, qX11_crew, eX11_crew_0, eX11_crew_1, eX11_crew_2, eX11_crew_3, eX11_crew_4, eX11_crew_5, eX11_crew_6, eX11_crew_7, eX11_crew_8, eX11_crew_9, cOut, cBadH, cr, cc, cb, h1, h2, q, if_true, if_false, zi_eq, yI1, zbI_s, zbL_s, zbV_s, zgd_t, zb1_t, zb1_f, zb1_01, zz_0, zz_1, zi_lit, zi_add, zi_sub, zi_mul, zi_neg, zi_z0]
            · simp (disch := omega) only [qX12_crew, qX12_crew, eX12_crew_0, eX12_crew_1, eX12_crew_2, eX12_crew_3, eX12_crew_4, eX12_crew_5, eX12_crew_6, eX12_crew_7, eX12_crew_8, eX12_crew_9, eX12_crew_10, mWithin, show (0 : Int64).toInt = 0 from rfl, show (1 : Int64).toInt = 1 from rfl, show (23 : Int64).toInt = 23 from rfl, mt, mm, mc, h1, h2, q, zi_eq, Bool.not_false, Bool.not_true, yI1, show ((0 : Int) = 1) = False from eq_false (by decide), if_true, if_false, zbI_s, zbL_s, zbV_s, zgd_t, zb1_t, zb1_f, zb1_01, zz_0, zz_1, zi_lit, zi_add, zi_sub, zi_mul, zi_neg, zi_z0]
          · obtain rfl : l = 1 := by omega
            refine zGo_0 hr hv (.int (zi (s : Int))) ?_ ?_
            · simp (disch := omega) only [qX11_crew, qX11_crew, eX11_crew_0, eX11_crew_1, eX11_crew_2, eX11_crew_3, eX11_crew_4, eX11_crew_5, eX11_crew_6, eX11_crew_7, eX11_crew_8, eX11_crew_9, cOut, cBadH, cr, cc, h1, h2, q, if_true, if_false, zi_eq, yI1, zbI_s, zbL_s, zbV_s, zgd_t, zb1_t, zb1_f, zb1_01, zz_0, zz_1, zi_lit, zi_add, zi_sub, zi_mul, zi_neg, zi_z0]
            · simp (disch := omega) only [qX12_crew, qX12_crew, eX12_crew_0, eX12_crew_1, eX12_crew_2, eX12_crew_3, eX12_crew_4, eX12_crew_5, eX12_crew_6, eX12_crew_7, eX12_crew_8, eX12_crew_9, eX12_crew_10, mWithin, show (0 : Int64).toInt = 0 from rfl, show (1 : Int64).toInt = 1 from rfl, show (23 : Int64).toInt = 23 from rfl, mt, mm, h1, h2, q, zi_eq, Bool.not_false, Bool.not_true, yI1, if_true, if_false, zbI_s, zbL_s, zbV_s, zgd_t, zb1_t, zb1_f, zb1_01, zz_0, zz_1, zi_lit, zi_add, zi_sub, zi_mul, zi_neg, zi_z0]
    · have cr : zCd zT 59 219 [.ref 16, .int (zi 0), .int (zi 1)] (zm L I J r) = _ := cRef (L := L) (r := r) (by omega) hT false true
      rw [yRf3] at cr
      refine zGo_0 hr hv (.int (zi (-3))) ?_ ?_
      · simp (disch := omega) only [qX11_crew, eX11_crew_0, eX11_crew_1, eX11_crew_2, eX11_crew_3, cOut, cBadH, cr, h1, h2, if_true, if_false, zi_eq, zbI_s, zbL_s, zbV_s, zgd_t, zb1_t, zb1_f, zb1_01, zz_0, zz_1, zi_lit, zi_add, zi_sub, zi_mul, zi_neg, zi_z0]
        rfl
      · simp (disch := omega) only [qX12_crew, eX12_crew_0, eX12_crew_1, eX12_crew_2, eX12_crew_3, mWithin, show (0 : Int64).toInt = 0 from rfl, show (1 : Int64).toInt = 1 from rfl, show (23 : Int64).toInt = 23 from rfl, h1, h2, zi_eq, Bool.not_false, Bool.not_true, yI1, if_true, if_false, zbI_s, zbL_s, zbV_s, zgd_t, zb1_t, zb1_f, zb1_01, zz_0, zz_1, zi_lit, zi_add, zi_sub, zi_mul, zi_neg, zi_z0]
  · have cr : zCd zT 59 219 [.ref 16, .int (zi 1), .int (zb1 (zbo a 0 23))] (zm L I J r) = _ := cRef (L := L) (r := r) (by omega) hT true (zbo a 0 23)
    rw [yRf2] at cr
    refine zGo_0 hr hv (.int (zi (-2))) ?_ ?_
    · simp (disch := omega) only [qX11_crew, eX11_crew_0, eX11_crew_1, eX11_crew_2, eX11_crew_3, cOut, cBadH, cr, h1, if_true, if_false, zi_eq, zbI_s, zbL_s, zbV_s, zgd_t, zb1_t, zb1_f, zb1_01, zz_0, zz_1, zi_lit, zi_add, zi_sub, zi_mul, zi_neg, zi_z0]
      rfl
    · simp (disch := omega) only [qX12_crew, eX12_crew_0, eX12_crew_1, mWithin, show (0 : Int64).toInt = 0 from rfl, show (1 : Int64).toInt = 1 from rfl, h1, zi_eq, Bool.not_false, Bool.not_true, yI1, if_true, if_false, zbI_s, zbL_s, zbV_s, zgd_t, zb1_t, zb1_f, zb1_01, zz_0, zz_1, zi_lit, zi_add, zi_sub, zi_mul, zi_neg, zi_z0]
