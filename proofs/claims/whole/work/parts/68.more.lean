theorem y64 {x : Int} (h : -2147483648 ≤ x ∧ x < 2147483648) : (zi x).toInt64.toInt = x := by rw [Int32.toInt_toInt64, zi_val h]
theorem oStay (a b p s : Int32) : zOk 189 339 [.int a, .int b, .int p, .int s] := by
  intro L c r I J y z0 z1 hc hr hv
  obtain ⟨a, rfl, ba⟩ := zi_of a
  obtain ⟨b, rfl, bb⟩ := zi_of b
  obtain ⟨p, rfl, bp⟩ := zi_of p
  obtain ⟨s, rfl, bs⟩ := zi_of s
  have hT := zV_TI hv
  have hw60 := hT.2.2.1.1
  have hm5 := hT.2.2.1.2.2.1
  have hb : cTb 49 5 I (y.2.2.1 5) := hv.1.2.2.1 5 (by decide)
  have hw := hv.2.2.1.2.2.1 5 (by decide)
  have hn : I 131 733 = zi (y.2.2.1 5).1 := (zV_mt hv (q := 5) (by decide)).1
  have hw1 : (y.2.2.1 5).1 ≤ 20 := hw.1
  have hpt : I 131 0 = zi y.1.n := hv.2.1.1.1
  have hpm : I 131 61 = zi y.1.m := by have := hv.2.1.1.2.2.1; rwa [Nat.zero_add] at this
  have hn0 : y.1.n = 0 → (y.2.2.1 5).1 = 0 := fun w => (hv.2.2.1.2.2.2.2 w).2.2.1
  have hF := cFull (d := 59) (L := L) (r := r) (J := J) (by decide) (o := 49) (by decide) hb hw.1
  by_cases q0 : y.1.n = 0
  · have hz0 := hn0 q0
    have hWb : True := trivial
    have hNb : yNb y.1 b = false := by
      unfold yNb
      rw [decide_eq_false (by omega), Bool.false_and]
    cases h0 : zbo a 0 3 <;> cases h1 : yNb y.1 b <;> cases h2 : zbo p 0 9999 <;> cases h3 : zbo s 0 99
    all_goals first
      | (exfalso; rw [hNb] at h1; cases h1; done)
      | (refine zGo_0 hr hv (.int (zi (-2))) ?_ ?_
         · simp (disch := omega) only [qX11_stay, eX11_stay_0, eX11_stay_1, eX11_stay_2, eX11_stay_3, eX11_stay_4, eX11_stay_5, eX11_stay_6, eX11_stay_7, eX11_stay_8, eX11_stay_9, eX11_stay_10, eX11_stay_11, eX11_stay_12, eX11_stay_13, eX11_stay_14, eX11_stay_15, qX11_badLoggedTrain, eX11_badLoggedTrain_0, eX11_badLoggedTrain_1, cNb (d := 59) (by decide) hT bb, cOut, cBadW, h0, h1, h2, h3, if_true, if_false, Bool.or_true, Bool.true_or, Bool.or_false, zbI_s, zbL_s, zbV_s, zgd_t, zb1_t, zb1_f, zb1_01, zz_0, zz_1, zi_lit, zi_add, zi_sub, zi_mul, zi_neg, zi_z0, ym2, ym3, ym5, cR10 (d := 59) (by decide) hT, cR11 (d := 59) (by decide) hT, cR01 (d := 59) (by decide) hT, cR0n (d := 59) (by decide) hT q0]
         · simp (disch := omega) only [qX12_stay, eX12_stay_0, eX12_stay_1, eX12_stay_2, eX12_stay_3, eX12_stay_4, eX12_stay_5, eX12_stay_6, eX12_stay_7, eX12_stay_8, eX12_stay_9, eX12_stay_10, eX12_stay_11, eX12_stay_12, eX12_stay_13, mWithin, mWeight, mAir, show (0 : Int64).toInt = 0 from rfl, show (1 : Int64).toInt = 1 from rfl, show (3 : Int64).toInt = 3 from rfl, show (99 : Int64).toInt = 99 from rfl, show (9999 : Int64).toInt = 9999 from rfl, show (99999 : Int64).toInt = 99999 from rfl, hWb, y64, zAl_a, h0, h1, h2, h3, Bool.not_false, Bool.not_true, if_true, if_false, sX12_isTrack, sX12_blocks, zu_n, zu_y, zi_le, zi_eq, zi_lt, if_pos, if_neg, zbI_s, zbL_s, zbV_s, zgd_t, zb1_t, zb1_f, zb1_01, zz_0, zz_1, zi_lit, zi_add, zi_sub, zi_mul, zi_neg, zi_z0, hpt, hpm, hn, q0, hz0])
      | (refine zGo_0 hr hv (.int (zi (-3))) ?_ ?_
         · simp (disch := omega) only [qX11_stay, eX11_stay_0, eX11_stay_1, eX11_stay_2, eX11_stay_3, eX11_stay_4, eX11_stay_5, eX11_stay_6, eX11_stay_7, eX11_stay_8, eX11_stay_9, eX11_stay_10, eX11_stay_11, eX11_stay_12, eX11_stay_13, eX11_stay_14, eX11_stay_15, qX11_badLoggedTrain, eX11_badLoggedTrain_0, eX11_badLoggedTrain_1, cNb (d := 59) (by decide) hT bb, cOut, cBadW, h0, h1, h2, h3, if_true, if_false, Bool.or_true, Bool.true_or, Bool.or_false, zbI_s, zbL_s, zbV_s, zgd_t, zb1_t, zb1_f, zb1_01, zz_0, zz_1, zi_lit, zi_add, zi_sub, zi_mul, zi_neg, zi_z0, ym2, ym3, ym5, cR10 (d := 59) (by decide) hT, cR11 (d := 59) (by decide) hT, cR01 (d := 59) (by decide) hT, cR0n (d := 59) (by decide) hT q0]
         · simp (disch := omega) only [qX12_stay, eX12_stay_0, eX12_stay_1, eX12_stay_2, eX12_stay_3, eX12_stay_4, eX12_stay_5, eX12_stay_6, eX12_stay_7, eX12_stay_8, eX12_stay_9, eX12_stay_10, eX12_stay_11, eX12_stay_12, eX12_stay_13, mWithin, mWeight, mAir, show (0 : Int64).toInt = 0 from rfl, show (1 : Int64).toInt = 1 from rfl, show (3 : Int64).toInt = 3 from rfl, show (99 : Int64).toInt = 99 from rfl, show (9999 : Int64).toInt = 9999 from rfl, show (99999 : Int64).toInt = 99999 from rfl, hWb, y64, zAl_a, h0, h1, h2, h3, Bool.not_false, Bool.not_true, if_true, if_false, sX12_isTrack, sX12_blocks, zu_n, zu_y, zi_le, zi_eq, zi_lt, if_pos, if_neg, zbI_s, zbL_s, zbV_s, zgd_t, zb1_t, zb1_f, zb1_01, zz_0, zz_1, zi_lit, zi_add, zi_sub, zi_mul, zi_neg, zi_z0, hpt, hpm, hn, q0, hz0])
      | (refine zGo_0 hr hv (.int (zi (-5))) ?_ ?_
         · simp (disch := omega) only [qX11_stay, eX11_stay_0, eX11_stay_1, eX11_stay_2, eX11_stay_3, eX11_stay_4, eX11_stay_5, eX11_stay_6, eX11_stay_7, eX11_stay_8, eX11_stay_9, eX11_stay_10, eX11_stay_11, eX11_stay_12, eX11_stay_13, eX11_stay_14, eX11_stay_15, qX11_badLoggedTrain, eX11_badLoggedTrain_0, eX11_badLoggedTrain_1, cNb (d := 59) (by decide) hT bb, cOut, cBadW, h0, h1, h2, h3, if_true, if_false, Bool.or_true, Bool.true_or, Bool.or_false, zbI_s, zbL_s, zbV_s, zgd_t, zb1_t, zb1_f, zb1_01, zz_0, zz_1, zi_lit, zi_add, zi_sub, zi_mul, zi_neg, zi_z0, ym2, ym3, ym5, cR10 (d := 59) (by decide) hT, cR11 (d := 59) (by decide) hT, cR01 (d := 59) (by decide) hT, cR0n (d := 59) (by decide) hT q0]
         · simp (disch := omega) only [qX12_stay, eX12_stay_0, eX12_stay_1, eX12_stay_2, eX12_stay_3, eX12_stay_4, eX12_stay_5, eX12_stay_6, eX12_stay_7, eX12_stay_8, eX12_stay_9, eX12_stay_10, eX12_stay_11, eX12_stay_12, eX12_stay_13, mWithin, mWeight, mAir, show (0 : Int64).toInt = 0 from rfl, show (1 : Int64).toInt = 1 from rfl, show (3 : Int64).toInt = 3 from rfl, show (99 : Int64).toInt = 99 from rfl, show (9999 : Int64).toInt = 9999 from rfl, show (99999 : Int64).toInt = 99999 from rfl, hWb, y64, zAl_a, h0, h1, h2, h3, Bool.not_false, Bool.not_true, if_true, if_false, sX12_isTrack, sX12_blocks, zu_n, zu_y, zi_le, zi_eq, zi_lt, if_pos, if_neg, zbI_s, zbL_s, zbV_s, zgd_t, zb1_t, zb1_f, zb1_01, zz_0, zz_1, zi_lit, zi_add, zi_sub, zi_mul, zi_neg, zi_z0, hpt, hpm, hn, q0, hz0])
  · have qp : 0 < y.1.n := by omega
    have hWb : zbo b 0 (y.1.m : Int) = yNb y.1 b := by
      unfold yNb
      rw [decide_eq_true qp, Bool.true_and]
    by_cases hall : zbo a 0 3 = false ∧ yNb y.1 b = false ∧ zbo p 0 9999 = false ∧ zbo s 0 99 = false
    · obtain ⟨h0, h1, h2, h3⟩ := hall
      have g0 := zbo_f h0
      have g1 : 0 ≤ b ∧ b ≤ (y.1.m : Int) := by
        unfold yNb at h1
        rw [decide_eq_true qp, Bool.true_and] at h1
        exact zbo_f h1
      have g2 := zbo_f h2
      have g3 := zbo_f h3
      by_cases h9 : (y.2.2.1 5).1 = 20
      · have hfull : decide ((y.2.2.1 5).1 = zMs 5) = true := decide_eq_true h9
        refine zGo_0 hr hv (.int (zi (-4))) ?_ ?_
        · simp (disch := omega) only [qX11_stay, eX11_stay_0, eX11_stay_1, eX11_stay_2, eX11_stay_3, eX11_stay_4, eX11_stay_5, eX11_stay_6, eX11_stay_7, eX11_stay_8, eX11_stay_9, eX11_stay_10, eX11_stay_11, eX11_stay_12, eX11_stay_13, eX11_stay_14, eX11_stay_15, qX11_badLoggedTrain, eX11_badLoggedTrain_0, eX11_badLoggedTrain_1, cNb (d := 59) (by decide) hT bb, cOut, cBadW, h0, h1, h2, h3, if_true, if_false, Bool.or_true, Bool.true_or, Bool.or_false, zbI_s, zbL_s, zbV_s, zgd_t, zb1_t, zb1_f, zb1_01, zz_0, zz_1, zi_lit, zi_add, zi_sub, zi_mul, zi_neg, zi_z0, ym2, ym3, ym5, cR10 (d := 59) (by decide) hT, cR11 (d := 59) (by decide) hT, cR01 (d := 59) (by decide) hT, cR0p (d := 59) (by decide) hT qp, hF, hfull]
        · simp (disch := omega) only [qX12_stay, eX12_stay_0, eX12_stay_1, eX12_stay_2, eX12_stay_3, eX12_stay_4, eX12_stay_5, eX12_stay_6, eX12_stay_7, eX12_stay_8, eX12_stay_9, eX12_stay_10, eX12_stay_11, eX12_stay_12, eX12_stay_13, mWithin, mWeight, mAir, show (0 : Int64).toInt = 0 from rfl, show (1 : Int64).toInt = 1 from rfl, show (3 : Int64).toInt = 3 from rfl, show (99 : Int64).toInt = 99 from rfl, show (9999 : Int64).toInt = 9999 from rfl, show (99999 : Int64).toInt = 99999 from rfl, hWb, y64, zAl_a, h0, h1, h2, h3, Bool.not_false, Bool.not_true, if_true, if_false, sX12_isTrack, sX12_blocks, zu_n, zu_y, zi_le, zi_eq, zi_lt, if_pos, if_neg, zbI_s, zbL_s, zbV_s, zgd_t, zb1_t, zb1_f, zb1_01, zz_0, zz_1, zi_lit, zi_add, zi_sub, zi_mul, zi_neg, zi_z0, hpt, hpm, hn, h9]
      · have hlt : (y.2.2.1 5).1 < 20 := by omega
        have hfull : decide ((y.2.2.1 5).1 = zMs 5) = false := decide_eq_false h9
        refine zGo_t (q := 5) (vv := fun f => if f = 0 then a else if f = 1 then b else if f = 2 then p else s) (by decide) hr hv hlt (fun w => absurd w q0) (fun f hf => ?_) (fun h => absurd h (by decide)) (.int (zi (y.2.2.1 5).1)) ?_ (fun I1 i1 i2 => ?_)
        · obtain rfl | rfl | rfl | rfl := show f = 0 ∨ f = 1 ∨ f = 2 ∨ f = 3 by have : f < 4 := hf; omega
          · exact g0
          · exact g1
          · exact g2
          · exact g3
        · obtain ⟨I1, c1, c2, c3⟩ := cAddO (d := 59) (L := L) (r := r) (J := J) (by decide) (o := 49) (q := 5) rfl (by decide) hb hlt a b p s
          refine ⟨I1, ?_, c2, c3⟩
          simp (disch := omega) only [qX11_stay, eX11_stay_0, eX11_stay_1, eX11_stay_2, eX11_stay_3, eX11_stay_4, eX11_stay_5, eX11_stay_6, eX11_stay_7, eX11_stay_8, eX11_stay_9, eX11_stay_10, eX11_stay_11, eX11_stay_12, eX11_stay_13, eX11_stay_14, eX11_stay_15, qX11_badLoggedTrain, eX11_badLoggedTrain_0, eX11_badLoggedTrain_1, cNb (d := 59) (by decide) hT bb, cOut, cBadW, h0, h1, h2, h3, if_true, if_false, Bool.or_true, Bool.true_or, Bool.or_false, zbI_s, zbL_s, zbV_s, zgd_t, zb1_t, zb1_f, zb1_01, zz_0, zz_1, zi_lit, zi_add, zi_sub, zi_mul, zi_neg, zi_z0, ym2, ym3, ym5, cR10 (d := 59) (by decide) hT, cR11 (d := 59) (by decide) hT, cR01 (d := 59) (by decide) hT, cR0p (d := 59) (by decide) hT qp, hF, hfull, c1]
        · have hn1 : I1 131 733 = zi (y.2.2.1 5).1 := by rw [i1, hn]
          have hpt1 : I1 131 0 = zi y.1.n := by rw [i1, hpt]
          have hpm1 : I1 131 61 = zi y.1.m := by rw [i1, hpm]
          generalize (y.2.2.1 5).1 = n at *
          refine ⟨zu (zu (zu (zu (zu (zu I1 130 0 (zi 0)) 131 (734 + n) (zi a)) 131 (754 + n) (zi b)) 131 (774 + n) (zi p)) 131 (794 + n) (zi s)) 131 733 (zi ((n + 1 : Nat) : Int)), ?_, fun o k x1 x2 => ?_, ?_, fun f hf => ?_, fun k x1 x2 => ?_⟩
          · simp (disch := omega) only [qX12_stay, eX12_stay_0, eX12_stay_1, eX12_stay_2, eX12_stay_3, eX12_stay_4, eX12_stay_5, eX12_stay_6, eX12_stay_7, eX12_stay_8, eX12_stay_9, eX12_stay_10, eX12_stay_11, eX12_stay_12, eX12_stay_13, mWithin, mWeight, mAir, show (0 : Int64).toInt = 0 from rfl, show (1 : Int64).toInt = 1 from rfl, show (3 : Int64).toInt = 3 from rfl, show (99 : Int64).toInt = 99 from rfl, show (9999 : Int64).toInt = 9999 from rfl, show (99999 : Int64).toInt = 99999 from rfl, hWb, y64, zAl_a, h0, h1, h2, h3, Bool.not_false, Bool.not_true, if_true, if_false, sX12_isTrack, sX12_blocks, zu_n, zu_y, zi_le, zi_eq, zi_lt, if_pos, if_neg, zbI_s, zbL_s, zbV_s, zgd_t, zb1_t, zb1_f, zb1_01, zz_0, zz_1, zi_lit, zi_add, zi_sub, zi_mul, zi_neg, zi_z0, hpt1, hpm1, hn1, zin_t, zi_cl, show (734 + (n : Int)).toNat = 734 + n by omega, show (754 + (n : Int)).toNat = 754 + n by omega, show (774 + (n : Int)).toNat = 774 + n by omega, show (794 + (n : Int)).toNat = 794 + n by omega, zAl_a]
            rfl
          · simp (disch := omega) only [zu_n]
          · exact zu_y ⟨rfl, rfl⟩
          · obtain rfl | rfl | rfl | rfl := show f = 0 ∨ f = 1 ∨ f = 2 ∨ f = 3 by have : f < 4 := hf; omega
            · show zu _ 131 733 _ 131 (734 + n) = zi a
              simp (disch := omega) only [zu_n, zu_y]
            · show zu _ 131 733 _ 131 (754 + n) = zi b
              simp (disch := omega) only [zu_n, zu_y]
            · show zu _ 131 733 _ 131 (774 + n) = zi p
              simp (disch := omega) only [zu_n, zu_y]
            · show zu _ 131 733 _ 131 (794 + n) = zi s
              simp (disch := omega) only [zu_n, zu_y]
          · have e0 : k ≠ 733 := x1
            have e1 : k ≠ 734 + n := x2 0 (by decide)
            have e2 : k ≠ 754 + n := x2 1 (by decide)
            have e3 : k ≠ 774 + n := x2 2 (by decide)
            have e4 : k ≠ 794 + n := x2 3 (by decide)
            simp (disch := omega) only [zu_n]
    · cases h0 : zbo a 0 3 <;> cases h1 : yNb y.1 b <;> cases h2 : zbo p 0 9999 <;> cases h3 : zbo s 0 99
      all_goals first
        | (refine absurd ?_ hall; simp only [h0, h1, h2, h3, and_self]; done)
        | (refine zGo_0 hr hv (.int (zi (-2))) ?_ ?_
           · simp (disch := omega) only [qX11_stay, eX11_stay_0, eX11_stay_1, eX11_stay_2, eX11_stay_3, eX11_stay_4, eX11_stay_5, eX11_stay_6, eX11_stay_7, eX11_stay_8, eX11_stay_9, eX11_stay_10, eX11_stay_11, eX11_stay_12, eX11_stay_13, eX11_stay_14, eX11_stay_15, qX11_badLoggedTrain, eX11_badLoggedTrain_0, eX11_badLoggedTrain_1, cNb (d := 59) (by decide) hT bb, cOut, cBadW, h0, h1, h2, h3, if_true, if_false, Bool.or_true, Bool.true_or, Bool.or_false, zbI_s, zbL_s, zbV_s, zgd_t, zb1_t, zb1_f, zb1_01, zz_0, zz_1, zi_lit, zi_add, zi_sub, zi_mul, zi_neg, zi_z0, ym2, ym3, ym5, cR10 (d := 59) (by decide) hT, cR11 (d := 59) (by decide) hT, cR01 (d := 59) (by decide) hT, cR0p (d := 59) (by decide) hT qp]
           · simp (disch := omega) only [qX12_stay, eX12_stay_0, eX12_stay_1, eX12_stay_2, eX12_stay_3, eX12_stay_4, eX12_stay_5, eX12_stay_6, eX12_stay_7, eX12_stay_8, eX12_stay_9, eX12_stay_10, eX12_stay_11, eX12_stay_12, eX12_stay_13, mWithin, mWeight, mAir, show (0 : Int64).toInt = 0 from rfl, show (1 : Int64).toInt = 1 from rfl, show (3 : Int64).toInt = 3 from rfl, show (99 : Int64).toInt = 99 from rfl, show (9999 : Int64).toInt = 9999 from rfl, show (99999 : Int64).toInt = 99999 from rfl, hWb, y64, zAl_a, h0, h1, h2, h3, Bool.not_false, Bool.not_true, if_true, if_false, sX12_isTrack, sX12_blocks, zu_n, zu_y, zi_le, zi_eq, zi_lt, if_pos, if_neg, zbI_s, zbL_s, zbV_s, zgd_t, zb1_t, zb1_f, zb1_01, zz_0, zz_1, zi_lit, zi_add, zi_sub, zi_mul, zi_neg, zi_z0, hpt, hpm, hn])
        | (refine zGo_0 hr hv (.int (zi (-3))) ?_ ?_
           · simp (disch := omega) only [qX11_stay, eX11_stay_0, eX11_stay_1, eX11_stay_2, eX11_stay_3, eX11_stay_4, eX11_stay_5, eX11_stay_6, eX11_stay_7, eX11_stay_8, eX11_stay_9, eX11_stay_10, eX11_stay_11, eX11_stay_12, eX11_stay_13, eX11_stay_14, eX11_stay_15, qX11_badLoggedTrain, eX11_badLoggedTrain_0, eX11_badLoggedTrain_1, cNb (d := 59) (by decide) hT bb, cOut, cBadW, h0, h1, h2, h3, if_true, if_false, Bool.or_true, Bool.true_or, Bool.or_false, zbI_s, zbL_s, zbV_s, zgd_t, zb1_t, zb1_f, zb1_01, zz_0, zz_1, zi_lit, zi_add, zi_sub, zi_mul, zi_neg, zi_z0, ym2, ym3, ym5, cR10 (d := 59) (by decide) hT, cR11 (d := 59) (by decide) hT, cR01 (d := 59) (by decide) hT, cR0p (d := 59) (by decide) hT qp]
           · simp (disch := omega) only [qX12_stay, eX12_stay_0, eX12_stay_1, eX12_stay_2, eX12_stay_3, eX12_stay_4, eX12_stay_5, eX12_stay_6, eX12_stay_7, eX12_stay_8, eX12_stay_9, eX12_stay_10, eX12_stay_11, eX12_stay_12, eX12_stay_13, mWithin, mWeight, mAir, show (0 : Int64).toInt = 0 from rfl, show (1 : Int64).toInt = 1 from rfl, show (3 : Int64).toInt = 3 from rfl, show (99 : Int64).toInt = 99 from rfl, show (9999 : Int64).toInt = 9999 from rfl, show (99999 : Int64).toInt = 99999 from rfl, hWb, y64, zAl_a, h0, h1, h2, h3, Bool.not_false, Bool.not_true, if_true, if_false, sX12_isTrack, sX12_blocks, zu_n, zu_y, zi_le, zi_eq, zi_lt, if_pos, if_neg, zbI_s, zbL_s, zbV_s, zgd_t, zb1_t, zb1_f, zb1_01, zz_0, zz_1, zi_lit, zi_add, zi_sub, zi_mul, zi_neg, zi_z0, hpt, hpm, hn])

theorem oGrow_a {L c r : Nat} {I : Nat → Nat → Int32} {J : Nat → Nat → Int64} {y : zFd} {z0 z1 : Bool × zFd} (hc : c < 512) (hr : zRr r) (hv : zV c I J y z0 z1) {a b p : Int} (ba : -2147483648 ≤ a ∧ a < 2147483648) (bb : -2147483648 ≤ b ∧ b < 2147483648) (bp : -2147483648 ≤ p ∧ p < 2147483648) (hs : (y.2.2.1 6).1 = 0) : zGo 195 346 [.int (zi a), .int (zi b), .int (zi p)] L c r I J := by
  have hT := zV_TI hv
  have hw60 := hT.2.2.1.1
  have hm5 := hT.2.2.1.2.2.1
  have hb : cTb 51 6 I (y.2.2.1 6) := hv.1.2.2.1 6 (by decide)
  have hw := hv.2.2.1.2.2.1 6 (by decide)
  have hn : I 131 814 = zi (y.2.2.1 6).1 := (zV_mt hv (q := 6) (by decide)).1
  have hw1 : (y.2.2.1 6).1 ≤ 20 := hw.1
  have hpt : I 131 0 = zi y.1.n := hv.2.1.1.1
  have hpm : I 131 61 = zi y.1.m := by have := hv.2.1.1.2.2.1; rwa [Nat.zero_add] at this
  have hn0 : y.1.n = 0 → (y.2.2.1 6).1 = 0 := fun w => (hv.2.2.1.2.2.2.2 w).2.2.2
  have hF := cFull (d := 59) (L := L) (r := r) (J := J) (by decide) (o := 51) (by decide) hb hw.1
  by_cases q0 : y.1.n = 0
  · have hz0 := hn0 q0
    cases h0 : zbo a 1 20 <;> cases h1 : zbo b 1 99999 <;> cases h2 : zbo p 0 99
    all_goals first
      | (refine zGo_0 hr hv (.int (zi (-2))) ?_ ?_
         · simp (disch := omega) only [qX11_grow, eX11_grow_0, eX11_grow_1, eX11_grow_2, eX11_grow_3, eX11_grow_4, eX11_grow_5, eX11_grow_6, eX11_grow_7, eX11_grow_8, eX11_grow_9, eX11_grow_10, eX11_grow_11, eX11_grow_12, eX11_grow_13, eX11_grow_14, eX11_grow_15, qX11_badTicks, eX11_badTicks_0, eX11_badTicks_1, cTSize (d := 59) (by decide) (o := 51) (by decide) hb, zi_le, if_pos, if_neg, cOut, cBadW, h0, h1, h2, if_true, if_false, Bool.or_true, Bool.true_or, Bool.or_false, zbI_s, zbL_s, zbV_s, zgd_t, zb1_t, zb1_f, zb1_01, zz_0, zz_1, zi_lit, zi_add, zi_sub, zi_mul, zi_neg, zi_z0, ym2, ym3, ym5, cR10 (d := 59) (by decide) hT, cR11 (d := 59) (by decide) hT, cR01 (d := 59) (by decide) hT, cR0n (d := 59) (by decide) hT q0]
         · simp (disch := omega) only [qX12_grow, eX12_grow_0, eX12_grow_1, eX12_grow_2, eX12_grow_3, eX12_grow_4, eX12_grow_5, eX12_grow_6, eX12_grow_7, eX12_grow_8, eX12_grow_9, mWithin, mWeight, mAir, show (0 : Int64).toInt = 0 from rfl, show (1 : Int64).toInt = 1 from rfl, show (3 : Int64).toInt = 3 from rfl, show (99 : Int64).toInt = 99 from rfl, show (9999 : Int64).toInt = 9999 from rfl, show (99999 : Int64).toInt = 99999 from rfl, h0, h1, h2, Bool.not_false, Bool.not_true, if_true, if_false, sX12_isTrack, sX12_blocks, zu_n, zu_y, zi_le, zi_eq, zi_lt, if_pos, if_neg, zbI_s, zbL_s, zbV_s, zgd_t, zb1_t, zb1_f, zb1_01, zz_0, zz_1, zi_lit, zi_add, zi_sub, zi_mul, zi_neg, zi_z0, hpt, hpm, hn, q0, hz0])
      | (refine zGo_0 hr hv (.int (zi (-3))) ?_ ?_
         · simp (disch := omega) only [qX11_grow, eX11_grow_0, eX11_grow_1, eX11_grow_2, eX11_grow_3, eX11_grow_4, eX11_grow_5, eX11_grow_6, eX11_grow_7, eX11_grow_8, eX11_grow_9, eX11_grow_10, eX11_grow_11, eX11_grow_12, eX11_grow_13, eX11_grow_14, eX11_grow_15, qX11_badTicks, eX11_badTicks_0, eX11_badTicks_1, cTSize (d := 59) (by decide) (o := 51) (by decide) hb, zi_le, if_pos, if_neg, cOut, cBadW, h0, h1, h2, if_true, if_false, Bool.or_true, Bool.true_or, Bool.or_false, zbI_s, zbL_s, zbV_s, zgd_t, zb1_t, zb1_f, zb1_01, zz_0, zz_1, zi_lit, zi_add, zi_sub, zi_mul, zi_neg, zi_z0, ym2, ym3, ym5, cR10 (d := 59) (by decide) hT, cR11 (d := 59) (by decide) hT, cR01 (d := 59) (by decide) hT, cR0n (d := 59) (by decide) hT q0]
         · simp (disch := omega) only [qX12_grow, eX12_grow_0, eX12_grow_1, eX12_grow_2, eX12_grow_3, eX12_grow_4, eX12_grow_5, eX12_grow_6, eX12_grow_7, eX12_grow_8, eX12_grow_9, mWithin, mWeight, mAir, show (0 : Int64).toInt = 0 from rfl, show (1 : Int64).toInt = 1 from rfl, show (3 : Int64).toInt = 3 from rfl, show (99 : Int64).toInt = 99 from rfl, show (9999 : Int64).toInt = 9999 from rfl, show (99999 : Int64).toInt = 99999 from rfl, h0, h1, h2, Bool.not_false, Bool.not_true, if_true, if_false, sX12_isTrack, sX12_blocks, zu_n, zu_y, zi_le, zi_eq, zi_lt, if_pos, if_neg, zbI_s, zbL_s, zbV_s, zgd_t, zb1_t, zb1_f, zb1_01, zz_0, zz_1, zi_lit, zi_add, zi_sub, zi_mul, zi_neg, zi_z0, hpt, hpm, hn, q0, hz0])
      | (refine zGo_0 hr hv (.int (zi (-5))) ?_ ?_
         · simp (disch := omega) only [qX11_grow, eX11_grow_0, eX11_grow_1, eX11_grow_2, eX11_grow_3, eX11_grow_4, eX11_grow_5, eX11_grow_6, eX11_grow_7, eX11_grow_8, eX11_grow_9, eX11_grow_10, eX11_grow_11, eX11_grow_12, eX11_grow_13, eX11_grow_14, eX11_grow_15, qX11_badTicks, eX11_badTicks_0, eX11_badTicks_1, cTSize (d := 59) (by decide) (o := 51) (by decide) hb, zi_le, if_pos, if_neg, cOut, cBadW, h0, h1, h2, if_true, if_false, Bool.or_true, Bool.true_or, Bool.or_false, zbI_s, zbL_s, zbV_s, zgd_t, zb1_t, zb1_f, zb1_01, zz_0, zz_1, zi_lit, zi_add, zi_sub, zi_mul, zi_neg, zi_z0, ym2, ym3, ym5, cR10 (d := 59) (by decide) hT, cR11 (d := 59) (by decide) hT, cR01 (d := 59) (by decide) hT, cR0n (d := 59) (by decide) hT q0]
         · simp (disch := omega) only [qX12_grow, eX12_grow_0, eX12_grow_1, eX12_grow_2, eX12_grow_3, eX12_grow_4, eX12_grow_5, eX12_grow_6, eX12_grow_7, eX12_grow_8, eX12_grow_9, mWithin, mWeight, mAir, show (0 : Int64).toInt = 0 from rfl, show (1 : Int64).toInt = 1 from rfl, show (3 : Int64).toInt = 3 from rfl, show (99 : Int64).toInt = 99 from rfl, show (9999 : Int64).toInt = 9999 from rfl, show (99999 : Int64).toInt = 99999 from rfl, h0, h1, h2, Bool.not_false, Bool.not_true, if_true, if_false, sX12_isTrack, sX12_blocks, zu_n, zu_y, zi_le, zi_eq, zi_lt, if_pos, if_neg, zbI_s, zbL_s, zbV_s, zgd_t, zb1_t, zb1_f, zb1_01, zz_0, zz_1, zi_lit, zi_add, zi_sub, zi_mul, zi_neg, zi_z0, hpt, hpm, hn, q0, hz0])
  · have qp : 0 < y.1.n := by omega
    by_cases hall : zbo a 1 20 = false ∧ zbo b 1 99999 = false ∧ zbo p 0 99 = false
    · obtain ⟨h0, h1, h2⟩ := hall
      have g0 := zbo_f h0
      have g1 := zbo_f h1
      have g2 := zbo_f h2
      by_cases h9 : (y.2.2.1 6).1 = 20
      · exact absurd h9 (by omega)
      · have hlt : (y.2.2.1 6).1 < 20 := by omega
        have hfull : decide ((y.2.2.1 6).1 = zMs 6) = false := decide_eq_false h9
        refine zGo_t (q := 6) (vv := fun f => if f = 0 then a else if f = 1 then b else if f = 2 then p else 0) (by decide) hr hv hlt (fun w => absurd w q0) (fun f hf => ?_) (fun _ k hk => absurd hk (by omega)) (.int (zi ((((y.2.2.1 6).1 : Nat) : Int) + 1))) ?_ (fun I1 i1 i2 => ?_)
        · obtain rfl | rfl | rfl := show f = 0 ∨ f = 1 ∨ f = 2 by have : f < 3 := hf; omega
          · exact g0
          · exact g1
          · exact g2
        · obtain ⟨I1, c1, c2, c3⟩ := cAddO (d := 59) (L := L) (r := r) (J := J) (by decide) (o := 51) (q := 6) rfl (by decide) hb hlt a b p 0
          refine ⟨I1, ?_, c2, c3⟩
          simp (disch := omega) only [qX11_grow, eX11_grow_0, eX11_grow_1, eX11_grow_2, eX11_grow_3, eX11_grow_4, eX11_grow_5, eX11_grow_6, eX11_grow_7, eX11_grow_8, eX11_grow_9, eX11_grow_10, eX11_grow_11, eX11_grow_12, eX11_grow_13, eX11_grow_14, eX11_grow_15, qX11_badTicks, eX11_badTicks_0, eX11_badTicks_1, cTSize (d := 59) (by decide) (o := 51) (by decide) hb, zi_le, if_pos, if_neg, cOut, cBadW, h0, h1, h2, if_true, if_false, Bool.or_true, Bool.true_or, Bool.or_false, zbI_s, zbL_s, zbV_s, zgd_t, zb1_t, zb1_f, zb1_01, zz_0, zz_1, zi_lit, zi_add, zi_sub, zi_mul, zi_neg, zi_z0, ym2, ym3, ym5, cR10 (d := 59) (by decide) hT, cR11 (d := 59) (by decide) hT, cR01 (d := 59) (by decide) hT, cR0p (d := 59) (by decide) hT qp, hF, hfull, c1]
        · have hn1 : I1 131 814 = zi (y.2.2.1 6).1 := by rw [i1, hn]
          have hpt1 : I1 131 0 = zi y.1.n := by rw [i1, hpt]
          have hpm1 : I1 131 61 = zi y.1.m := by rw [i1, hpm]
          generalize (y.2.2.1 6).1 = n at *
          refine ⟨zu (zu (zu (zu (zu I1 130 0 (zi 0)) 131 (815) (zi a)) 131 (816 + n) (zi b)) 131 (836 + n) (zi p)) 131 814 (zi ((n + 1 : Nat) : Int)), ?_, fun o k x1 x2 => ?_, ?_, fun f hf => ?_, fun k x1 x2 => ?_⟩
          · simp (disch := omega) only [qX12_grow, eX12_grow_0, eX12_grow_1, eX12_grow_2, eX12_grow_3, eX12_grow_4, eX12_grow_5, eX12_grow_6, eX12_grow_7, eX12_grow_8, eX12_grow_9, mWithin, mWeight, mAir, show (0 : Int64).toInt = 0 from rfl, show (1 : Int64).toInt = 1 from rfl, show (3 : Int64).toInt = 3 from rfl, show (99 : Int64).toInt = 99 from rfl, show (9999 : Int64).toInt = 9999 from rfl, show (99999 : Int64).toInt = 99999 from rfl, h0, h1, h2, Bool.not_false, Bool.not_true, if_true, if_false, sX12_isTrack, sX12_blocks, zu_n, zu_y, zi_le, zi_eq, zi_lt, if_pos, if_neg, zbI_s, zbL_s, zbV_s, zgd_t, zb1_t, zb1_f, zb1_01, zz_0, zz_1, zi_lit, zi_add, zi_sub, zi_mul, zi_neg, zi_z0, hpt1, hpm1, hn1, zin_t, zi_cl, show (816 + (n : Int)).toNat = 816 + n by omega, show (836 + (n : Int)).toNat = 836 + n by omega, zAl_a]
            rfl
          · simp (disch := omega) only [zu_n]
          · exact zu_y ⟨rfl, rfl⟩
          · obtain rfl | rfl | rfl := show f = 0 ∨ f = 1 ∨ f = 2 by have : f < 3 := hf; omega
            · show zu _ 131 814 _ 131 (815) = zi a
              simp (disch := omega) only [zu_n, zu_y]
            · show zu _ 131 814 _ 131 (816 + n) = zi b
              simp (disch := omega) only [zu_n, zu_y]
            · show zu _ 131 814 _ 131 (836 + n) = zi p
              simp (disch := omega) only [zu_n, zu_y]
          · have e0 : k ≠ 814 := x1
            have e1 : k ≠ 815 := x2 0 (by decide)
            have e2 : k ≠ 816 + n := x2 1 (by decide)
            have e3 : k ≠ 836 + n := x2 2 (by decide)
            simp (disch := omega) only [zu_n]
    · cases h0 : zbo a 1 20 <;> cases h1 : zbo b 1 99999 <;> cases h2 : zbo p 0 99
      all_goals first
        | (refine absurd ?_ hall; simp only [h0, h1, h2, and_self]; done)
        | (refine zGo_0 hr hv (.int (zi (-2))) ?_ ?_
           · simp (disch := omega) only [qX11_grow, eX11_grow_0, eX11_grow_1, eX11_grow_2, eX11_grow_3, eX11_grow_4, eX11_grow_5, eX11_grow_6, eX11_grow_7, eX11_grow_8, eX11_grow_9, eX11_grow_10, eX11_grow_11, eX11_grow_12, eX11_grow_13, eX11_grow_14, eX11_grow_15, qX11_badTicks, eX11_badTicks_0, eX11_badTicks_1, cTSize (d := 59) (by decide) (o := 51) (by decide) hb, zi_le, if_pos, if_neg, cOut, cBadW, h0, h1, h2, if_true, if_false, Bool.or_true, Bool.true_or, Bool.or_false, zbI_s, zbL_s, zbV_s, zgd_t, zb1_t, zb1_f, zb1_01, zz_0, zz_1, zi_lit, zi_add, zi_sub, zi_mul, zi_neg, zi_z0, ym2, ym3, ym5, cR10 (d := 59) (by decide) hT, cR11 (d := 59) (by decide) hT, cR01 (d := 59) (by decide) hT, cR0p (d := 59) (by decide) hT qp]
           · simp (disch := omega) only [qX12_grow, eX12_grow_0, eX12_grow_1, eX12_grow_2, eX12_grow_3, eX12_grow_4, eX12_grow_5, eX12_grow_6, eX12_grow_7, eX12_grow_8, eX12_grow_9, mWithin, mWeight, mAir, show (0 : Int64).toInt = 0 from rfl, show (1 : Int64).toInt = 1 from rfl, show (3 : Int64).toInt = 3 from rfl, show (99 : Int64).toInt = 99 from rfl, show (9999 : Int64).toInt = 9999 from rfl, show (99999 : Int64).toInt = 99999 from rfl, h0, h1, h2, Bool.not_false, Bool.not_true, if_true, if_false, sX12_isTrack, sX12_blocks, zu_n, zu_y, zi_le, zi_eq, zi_lt, if_pos, if_neg, zbI_s, zbL_s, zbV_s, zgd_t, zb1_t, zb1_f, zb1_01, zz_0, zz_1, zi_lit, zi_add, zi_sub, zi_mul, zi_neg, zi_z0, hpt, hpm, hn])
        | (refine zGo_0 hr hv (.int (zi (-3))) ?_ ?_
           · simp (disch := omega) only [qX11_grow, eX11_grow_0, eX11_grow_1, eX11_grow_2, eX11_grow_3, eX11_grow_4, eX11_grow_5, eX11_grow_6, eX11_grow_7, eX11_grow_8, eX11_grow_9, eX11_grow_10, eX11_grow_11, eX11_grow_12, eX11_grow_13, eX11_grow_14, eX11_grow_15, qX11_badTicks, eX11_badTicks_0, eX11_badTicks_1, cTSize (d := 59) (by decide) (o := 51) (by decide) hb, zi_le, if_pos, if_neg, cOut, cBadW, h0, h1, h2, if_true, if_false, Bool.or_true, Bool.true_or, Bool.or_false, zbI_s, zbL_s, zbV_s, zgd_t, zb1_t, zb1_f, zb1_01, zz_0, zz_1, zi_lit, zi_add, zi_sub, zi_mul, zi_neg, zi_z0, ym2, ym3, ym5, cR10 (d := 59) (by decide) hT, cR11 (d := 59) (by decide) hT, cR01 (d := 59) (by decide) hT, cR0p (d := 59) (by decide) hT qp]
           · simp (disch := omega) only [qX12_grow, eX12_grow_0, eX12_grow_1, eX12_grow_2, eX12_grow_3, eX12_grow_4, eX12_grow_5, eX12_grow_6, eX12_grow_7, eX12_grow_8, eX12_grow_9, mWithin, mWeight, mAir, show (0 : Int64).toInt = 0 from rfl, show (1 : Int64).toInt = 1 from rfl, show (3 : Int64).toInt = 3 from rfl, show (99 : Int64).toInt = 99 from rfl, show (9999 : Int64).toInt = 9999 from rfl, show (99999 : Int64).toInt = 99999 from rfl, h0, h1, h2, Bool.not_false, Bool.not_true, if_true, if_false, sX12_isTrack, sX12_blocks, zu_n, zu_y, zi_le, zi_eq, zi_lt, if_pos, if_neg, zbI_s, zbL_s, zbV_s, zgd_t, zb1_t, zb1_f, zb1_01, zz_0, zz_1, zi_lit, zi_add, zi_sub, zi_mul, zi_neg, zi_z0, hpt, hpm, hn])

theorem oGrow_b {L c r : Nat} {I : Nat → Nat → Int32} {J : Nat → Nat → Int64} {y : zFd} {z0 z1 : Bool × zFd} (hc : c < 512) (hr : zRr r) (hv : zV c I J y z0 z1) {a b p : Int} (ba : -2147483648 ≤ a ∧ a < 2147483648) (bb : -2147483648 ≤ b ∧ b < 2147483648) (bp : -2147483648 ≤ p ∧ p < 2147483648) (hs : 0 < (y.2.2.1 6).1) (hs2 : (y.2.2.1 6).2 0 0 = a) : zGo 195 346 [.int (zi a), .int (zi b), .int (zi p)] L c r I J := by
  have hT := zV_TI hv
  have hw60 := hT.2.2.1.1
  have hm5 := hT.2.2.1.2.2.1
  have hb : cTb 51 6 I (y.2.2.1 6) := hv.1.2.2.1 6 (by decide)
  have hw := hv.2.2.1.2.2.1 6 (by decide)
  have hn : I 131 814 = zi (y.2.2.1 6).1 := (zV_mt hv (q := 6) (by decide)).1
  have hw1 : (y.2.2.1 6).1 ≤ 20 := hw.1
  have hpt : I 131 0 = zi y.1.n := hv.2.1.1.1
  have hpm : I 131 61 = zi y.1.m := by have := hv.2.1.1.2.2.1; rwa [Nat.zero_add] at this
  have hn0 : y.1.n = 0 → (y.2.2.1 6).1 = 0 := fun w => (hv.2.2.1.2.2.2.2 w).2.2.2
  have hw0 : I 131 815 = zi a := by
    have := (zV_mt hv (q := 6) (by decide)).2 0 0 hs (by decide)
    rw [hs2] at this
    exact this
  have hG : zCd zT 59 68 [.ref 51, .int (zi 0), .int (zi 0)] (zm L I J r) = some (some (.int (zi a)), (zm L I J r)) := by
    rw [← hs2]
    exact cGetO (by decide) (o := 51) (q := 6) rfl (by decide) hb hw.1 (k := 0) (f := 0) (by omega) (by decide)
  have hall6 : ∀ k, k < (y.2.2.1 6).1 → (y.2.2.1 6).2 k 0 = a := by
    intro k hk
    have e1 : I 131 815 = zi ((y.2.2.1 6).2 k 0) := (zV_mt hv (q := 6) (by decide)).2 k 0 hk (by decide)
    have b1 : 1 ≤ (y.2.2.1 6).2 k 0 ∧ (y.2.2.1 6).2 k 0 ≤ 20 := hw.2 k 0 hk (by decide)
    have b2 : 1 ≤ (y.2.2.1 6).2 0 0 ∧ (y.2.2.1 6).2 0 0 ≤ 20 := hw.2 0 0 hs (by decide)
    rw [hw0] at e1
    exact ((zi_eq (by omega) (by omega)).mp e1).symm
  have hF := cFull (d := 59) (L := L) (r := r) (J := J) (by decide) (o := 51) (by decide) hb hw.1
  by_cases q0 : y.1.n = 0
  · have hz0 := hn0 q0
    exact absurd hz0 (by omega)
  · have qp : 0 < y.1.n := by omega
    by_cases hall : zbo a 1 20 = false ∧ zbo b 1 99999 = false ∧ zbo p 0 99 = false
    · obtain ⟨h0, h1, h2⟩ := hall
      have g0 := zbo_f h0
      have g1 := zbo_f h1
      have g2 := zbo_f h2
      by_cases h9 : (y.2.2.1 6).1 = 20
      · have hfull : decide ((y.2.2.1 6).1 = zMs 6) = true := decide_eq_true h9
        refine zGo_0 hr hv (.int (zi (-4))) ?_ ?_
        · simp (disch := omega) only [qX11_grow, eX11_grow_0, eX11_grow_1, eX11_grow_2, eX11_grow_3, eX11_grow_4, eX11_grow_5, eX11_grow_6, eX11_grow_7, eX11_grow_8, eX11_grow_9, eX11_grow_10, eX11_grow_11, eX11_grow_12, eX11_grow_13, eX11_grow_14, eX11_grow_15, qX11_badTicks, eX11_badTicks_0, eX11_badTicks_1, cTSize (d := 59) (by decide) (o := 51) (by decide) hb, zi_le, zi_eq, if_pos, if_neg, hG, cOut, cBadW, h0, h1, h2, if_true, if_false, Bool.or_true, Bool.true_or, Bool.or_false, zbI_s, zbL_s, zbV_s, zgd_t, zb1_t, zb1_f, zb1_01, zz_0, zz_1, zi_lit, zi_add, zi_sub, zi_mul, zi_neg, zi_z0, ym2, ym3, ym5, cR10 (d := 59) (by decide) hT, cR11 (d := 59) (by decide) hT, cR01 (d := 59) (by decide) hT, cR0p (d := 59) (by decide) hT qp, hF, hfull]
        · simp (disch := omega) only [qX12_grow, eX12_grow_0, eX12_grow_1, eX12_grow_2, eX12_grow_3, eX12_grow_4, eX12_grow_5, eX12_grow_6, eX12_grow_7, eX12_grow_8, eX12_grow_9, mWithin, mWeight, mAir, show (0 : Int64).toInt = 0 from rfl, show (1 : Int64).toInt = 1 from rfl, show (3 : Int64).toInt = 3 from rfl, show (99 : Int64).toInt = 99 from rfl, show (9999 : Int64).toInt = 9999 from rfl, show (99999 : Int64).toInt = 99999 from rfl, hw0, h0, h1, h2, Bool.not_false, Bool.not_true, if_true, if_false, sX12_isTrack, sX12_blocks, zu_n, zu_y, zi_le, zi_eq, zi_lt, if_pos, if_neg, zbI_s, zbL_s, zbV_s, zgd_t, zb1_t, zb1_f, zb1_01, zz_0, zz_1, zi_lit, zi_add, zi_sub, zi_mul, zi_neg, zi_z0, hpt, hpm, hn, h9]
      · have hlt : (y.2.2.1 6).1 < 20 := by omega
        have hfull : decide ((y.2.2.1 6).1 = zMs 6) = false := decide_eq_false h9
        refine zGo_t (q := 6) (vv := fun f => if f = 0 then a else if f = 1 then b else if f = 2 then p else 0) (by decide) hr hv hlt (fun w => absurd w q0) (fun f hf => ?_) (fun _ k hk => hall6 k hk) (.int (zi ((((y.2.2.1 6).1 : Nat) : Int) + 1))) ?_ (fun I1 i1 i2 => ?_)
        · obtain rfl | rfl | rfl := show f = 0 ∨ f = 1 ∨ f = 2 by have : f < 3 := hf; omega
          · exact g0
          · exact g1
          · exact g2
        · obtain ⟨I1, c1, c2, c3⟩ := cAddO (d := 59) (L := L) (r := r) (J := J) (by decide) (o := 51) (q := 6) rfl (by decide) hb hlt a b p 0
          refine ⟨I1, ?_, c2, c3⟩
          simp (disch := omega) only [qX11_grow, eX11_grow_0, eX11_grow_1, eX11_grow_2, eX11_grow_3, eX11_grow_4, eX11_grow_5, eX11_grow_6, eX11_grow_7, eX11_grow_8, eX11_grow_9, eX11_grow_10, eX11_grow_11, eX11_grow_12, eX11_grow_13, eX11_grow_14, eX11_grow_15, qX11_badTicks, eX11_badTicks_0, eX11_badTicks_1, cTSize (d := 59) (by decide) (o := 51) (by decide) hb, zi_le, zi_eq, if_pos, if_neg, hG, cOut, cBadW, h0, h1, h2, if_true, if_false, Bool.or_true, Bool.true_or, Bool.or_false, zbI_s, zbL_s, zbV_s, zgd_t, zb1_t, zb1_f, zb1_01, zz_0, zz_1, zi_lit, zi_add, zi_sub, zi_mul, zi_neg, zi_z0, ym2, ym3, ym5, cR10 (d := 59) (by decide) hT, cR11 (d := 59) (by decide) hT, cR01 (d := 59) (by decide) hT, cR0p (d := 59) (by decide) hT qp, hF, hfull, c1]
        · have hn1 : I1 131 814 = zi (y.2.2.1 6).1 := by rw [i1, hn]
          have hpt1 : I1 131 0 = zi y.1.n := by rw [i1, hpt]
          have hpm1 : I1 131 61 = zi y.1.m := by rw [i1, hpm]
          have hw0 : I1 131 815 = zi a := by rw [i1, hw0]
          generalize (y.2.2.1 6).1 = n at *
          refine ⟨zu (zu (zu (zu (zu I1 130 0 (zi 0)) 131 (815) (zi a)) 131 (816 + n) (zi b)) 131 (836 + n) (zi p)) 131 814 (zi ((n + 1 : Nat) : Int)), ?_, fun o k x1 x2 => ?_, ?_, fun f hf => ?_, fun k x1 x2 => ?_⟩
          · simp (disch := omega) only [qX12_grow, eX12_grow_0, eX12_grow_1, eX12_grow_2, eX12_grow_3, eX12_grow_4, eX12_grow_5, eX12_grow_6, eX12_grow_7, eX12_grow_8, eX12_grow_9, mWithin, mWeight, mAir, show (0 : Int64).toInt = 0 from rfl, show (1 : Int64).toInt = 1 from rfl, show (3 : Int64).toInt = 3 from rfl, show (99 : Int64).toInt = 99 from rfl, show (9999 : Int64).toInt = 9999 from rfl, show (99999 : Int64).toInt = 99999 from rfl, hw0, h0, h1, h2, Bool.not_false, Bool.not_true, if_true, if_false, sX12_isTrack, sX12_blocks, zu_n, zu_y, zi_le, zi_eq, zi_lt, if_pos, if_neg, zbI_s, zbL_s, zbV_s, zgd_t, zb1_t, zb1_f, zb1_01, zz_0, zz_1, zi_lit, zi_add, zi_sub, zi_mul, zi_neg, zi_z0, hpt1, hpm1, hn1, zin_t, zi_cl, show (816 + (n : Int)).toNat = 816 + n by omega, show (836 + (n : Int)).toNat = 836 + n by omega, zAl_a]
            rfl
          · simp (disch := omega) only [zu_n]
          · exact zu_y ⟨rfl, rfl⟩
          · obtain rfl | rfl | rfl := show f = 0 ∨ f = 1 ∨ f = 2 by have : f < 3 := hf; omega
            · show zu _ 131 814 _ 131 (815) = zi a
              simp (disch := omega) only [zu_n, zu_y]
            · show zu _ 131 814 _ 131 (816 + n) = zi b
              simp (disch := omega) only [zu_n, zu_y]
            · show zu _ 131 814 _ 131 (836 + n) = zi p
              simp (disch := omega) only [zu_n, zu_y]
          · have e0 : k ≠ 814 := x1
            have e1 : k ≠ 815 := x2 0 (by decide)
            have e2 : k ≠ 816 + n := x2 1 (by decide)
            have e3 : k ≠ 836 + n := x2 2 (by decide)
            simp (disch := omega) only [zu_n]
    · cases h0 : zbo a 1 20 <;> cases h1 : zbo b 1 99999 <;> cases h2 : zbo p 0 99
      all_goals first
        | (refine absurd ?_ hall; simp only [h0, h1, h2, and_self]; done)
        | (refine zGo_0 hr hv (.int (zi (-2))) ?_ ?_
           · simp (disch := omega) only [qX11_grow, eX11_grow_0, eX11_grow_1, eX11_grow_2, eX11_grow_3, eX11_grow_4, eX11_grow_5, eX11_grow_6, eX11_grow_7, eX11_grow_8, eX11_grow_9, eX11_grow_10, eX11_grow_11, eX11_grow_12, eX11_grow_13, eX11_grow_14, eX11_grow_15, qX11_badTicks, eX11_badTicks_0, eX11_badTicks_1, cTSize (d := 59) (by decide) (o := 51) (by decide) hb, zi_le, zi_eq, if_pos, if_neg, hG, cOut, cBadW, h0, h1, h2, if_true, if_false, Bool.or_true, Bool.true_or, Bool.or_false, zbI_s, zbL_s, zbV_s, zgd_t, zb1_t, zb1_f, zb1_01, zz_0, zz_1, zi_lit, zi_add, zi_sub, zi_mul, zi_neg, zi_z0, ym2, ym3, ym5, cR10 (d := 59) (by decide) hT, cR11 (d := 59) (by decide) hT, cR01 (d := 59) (by decide) hT, cR0p (d := 59) (by decide) hT qp]
           · simp (disch := omega) only [qX12_grow, eX12_grow_0, eX12_grow_1, eX12_grow_2, eX12_grow_3, eX12_grow_4, eX12_grow_5, eX12_grow_6, eX12_grow_7, eX12_grow_8, eX12_grow_9, mWithin, mWeight, mAir, show (0 : Int64).toInt = 0 from rfl, show (1 : Int64).toInt = 1 from rfl, show (3 : Int64).toInt = 3 from rfl, show (99 : Int64).toInt = 99 from rfl, show (9999 : Int64).toInt = 9999 from rfl, show (99999 : Int64).toInt = 99999 from rfl, hw0, h0, h1, h2, Bool.not_false, Bool.not_true, if_true, if_false, sX12_isTrack, sX12_blocks, zu_n, zu_y, zi_le, zi_eq, zi_lt, if_pos, if_neg, zbI_s, zbL_s, zbV_s, zgd_t, zb1_t, zb1_f, zb1_01, zz_0, zz_1, zi_lit, zi_add, zi_sub, zi_mul, zi_neg, zi_z0, hpt, hpm, hn])
        | (refine zGo_0 hr hv (.int (zi (-3))) ?_ ?_
           · simp (disch := omega) only [qX11_grow, eX11_grow_0, eX11_grow_1, eX11_grow_2, eX11_grow_3, eX11_grow_4, eX11_grow_5, eX11_grow_6, eX11_grow_7, eX11_grow_8, eX11_grow_9, eX11_grow_10, eX11_grow_11, eX11_grow_12, eX11_grow_13, eX11_grow_14, eX11_grow_15, qX11_badTicks, eX11_badTicks_0, eX11_badTicks_1, cTSize (d := 59) (by decide) (o := 51) (by decide) hb, zi_le, zi_eq, if_pos, if_neg, hG, cOut, cBadW, h0, h1, h2, if_true, if_false, Bool.or_true, Bool.true_or, Bool.or_false, zbI_s, zbL_s, zbV_s, zgd_t, zb1_t, zb1_f, zb1_01, zz_0, zz_1, zi_lit, zi_add, zi_sub, zi_mul, zi_neg, zi_z0, ym2, ym3, ym5, cR10 (d := 59) (by decide) hT, cR11 (d := 59) (by decide) hT, cR01 (d := 59) (by decide) hT, cR0p (d := 59) (by decide) hT qp]
           · simp (disch := omega) only [qX12_grow, eX12_grow_0, eX12_grow_1, eX12_grow_2, eX12_grow_3, eX12_grow_4, eX12_grow_5, eX12_grow_6, eX12_grow_7, eX12_grow_8, eX12_grow_9, mWithin, mWeight, mAir, show (0 : Int64).toInt = 0 from rfl, show (1 : Int64).toInt = 1 from rfl, show (3 : Int64).toInt = 3 from rfl, show (99 : Int64).toInt = 99 from rfl, show (9999 : Int64).toInt = 9999 from rfl, show (99999 : Int64).toInt = 99999 from rfl, hw0, h0, h1, h2, Bool.not_false, Bool.not_true, if_true, if_false, sX12_isTrack, sX12_blocks, zu_n, zu_y, zi_le, zi_eq, zi_lt, if_pos, if_neg, zbI_s, zbL_s, zbV_s, zgd_t, zb1_t, zb1_f, zb1_01, zz_0, zz_1, zi_lit, zi_add, zi_sub, zi_mul, zi_neg, zi_z0, hpt, hpm, hn])

theorem oGrow_c {L c r : Nat} {I : Nat → Nat → Int32} {J : Nat → Nat → Int64} {y : zFd} {z0 z1 : Bool × zFd} (hc : c < 512) (hr : zRr r) (hv : zV c I J y z0 z1) {a b p : Int} (ba : -2147483648 ≤ a ∧ a < 2147483648) (bb : -2147483648 ≤ b ∧ b < 2147483648) (bp : -2147483648 ≤ p ∧ p < 2147483648) (hs : 0 < (y.2.2.1 6).1) (hs2 : ¬ (y.2.2.1 6).2 0 0 = a) : zGo 195 346 [.int (zi a), .int (zi b), .int (zi p)] L c r I J := by
  have hT := zV_TI hv
  have hb : cTb 51 6 I (y.2.2.1 6) := hv.1.2.2.1 6 (by decide)
  have hw := hv.2.2.1.2.2.1 6 (by decide)
  have hw1 : (y.2.2.1 6).1 ≤ 20 := hw.1
  have w0 : 1 ≤ (y.2.2.1 6).2 0 0 ∧ (y.2.2.1 6).2 0 0 ≤ 20 := hw.2 0 0 hs (by decide)
  have hn : I 131 814 = zi (y.2.2.1 6).1 := (zV_mt hv (q := 6) (by decide)).1
  have hw0 : I 131 815 = zi ((y.2.2.1 6).2 0 0) := (zV_mt hv (q := 6) (by decide)).2 0 0 hs (by decide)
  have hG : zCd zT 59 68 [.ref 51, .int (zi 0), .int (zi 0)] (zm L I J r) = some (some (.int (zi ((y.2.2.1 6).2 0 0))), (zm L I J r)) := cGetO (by decide) (o := 51) (q := 6) rfl (by decide) hb hw.1 (k := 0) (f := 0) (by omega) (by decide)
  refine zGo_0 hr hv (.int (zi (-3))) ?_ ?_
  · cases h0 : zbo a 1 20
    all_goals simp (disch := omega) only [qX11_grow, eX11_grow_0, eX11_grow_1, eX11_grow_2, eX11_grow_3, eX11_grow_4, eX11_grow_5, eX11_grow_6, eX11_grow_7, eX11_grow_8, eX11_grow_9, eX11_grow_10, eX11_grow_11, eX11_grow_12, eX11_grow_13, eX11_grow_14, eX11_grow_15, qX11_badTicks, eX11_badTicks_0, eX11_badTicks_1, cTSize (d := 59) (by decide) (o := 51) (by decide) hb, cOut, cBadW, zi_le, zi_eq, if_true, if_false, if_pos, if_neg, hG, h0, zbI_s, zbL_s, zbV_s, zgd_t, zb1_t, zb1_f, zb1_01, zz_0, zz_1, zi_lit, zi_add, zi_sub, zi_mul, zi_neg, zi_z0, ym2, ym3, ym5, cR01 (d := 59) (by decide) hT]
  · cases h0 : zbo a 1 20
    all_goals simp (disch := omega) only [qX12_grow, eX12_grow_0, eX12_grow_1, eX12_grow_2, eX12_grow_3, eX12_grow_4, eX12_grow_5, eX12_grow_6, eX12_grow_7, eX12_grow_8, eX12_grow_9, mWeight, h0, Bool.not_false, Bool.not_true, zu_n, hn, hw0, zi_le, zi_eq, if_true, if_false, if_pos, if_neg, zbI_s, zbL_s, zbV_s, zgd_t, zb1_t, zb1_f, zb1_01, zz_0, zz_1, zi_lit, zi_add, zi_sub, zi_mul, zi_neg, zi_z0]
theorem oGrow (a b p : Int32) : zOk 195 346 [.int a, .int b, .int p] := by
  intro L c r I J y z0 z1 hc hr hv
  obtain ⟨a, rfl, ba⟩ := zi_of a
  obtain ⟨b, rfl, bb⟩ := zi_of b
  obtain ⟨p, rfl, bp⟩ := zi_of p
  by_cases h : (y.2.2.1 6).1 = 0
  · exact oGrow_a hc hr hv ba bb bp h
  · by_cases h2 : (y.2.2.1 6).2 0 0 = a
    · exact oGrow_b hc hr hv ba bb bp (by omega) h2
    · exact oGrow_c hc hr hv ba bb bp (by omega) h2
