/-! COVER: the question -/
theorem oCover (a l : Int32) : zOk 173 324 [.int a, .int l] := by
  intro L c r I J y z0 z1 hc hr hv
  obtain ⟨a, rfl, ba⟩ := zi_of a
  obtain ⟨l, rfl, bl⟩ := zi_of l
  have hb : cTb 43 2 I (y.2.2.1 2) := hv.1.2.2.1 2 (by decide)
  have hw := hv.2.2.1.2.2.1 2 (by decide)
  have hmt : mTb 2 (zu I 130 0 (zi 0) 131) (y.2.2.1 2) := mTb_sm zSm_0 (zV_mt hv (q := 2) (by decide))
  cases h1 : zbo l 0 1
  · have g1 := zbo_f h1
    cases h2 : zbo a 0 4095
    · have g2 := zbo_f h2
      obtain ⟨a, rfl⟩ : ∃ k : Nat, a = k := ⟨a.toNat, by omega⟩
      have cc := cCov (d := 59) (L := L) (J := J) (r := r) (by decide) hb hw (want := a) (by omega)
      have mm := mCov (d := 59) (L := L) (J := J) (r := r) (by decide) hmt hw (want := a) (by omega) (l2 := l)
      have w2 := yW2 hw
      have pb := yCo_b hw (want := a) (2 ^ (y.2.2.1 2).1)
      have ps := yCo_s (b := y.2.2.1 2) (want := a) (2 ^ (y.2.2.1 2).1)
      have hp : 2 ^ (y.2.2.1 2).1 ≤ 2 ^ 10 := Nat.pow_le_pow_right (by decide) w2.1
      generalize yCo (y.2.2.1 2) a (2 ^ (y.2.2.1 2).1) = p at cc mm pb ps
      obtain ⟨p1, p2⟩ := p
      have pb1 : -1 ≤ p1 ∧ p1 < ((2 ^ (y.2.2.1 2).1 : Nat) : Int) := pb.1
      have cc : zCd zT 59 174 [.ref 16, .int (zi (a : Int))] (zm L I J r) = some (some (.int (zi p1)), (zm L I J r)) := cc
      have ps : p1 = -1 ∨ p2 = ySm (y.2.2.1 2) 1 p1.toNat (y.2.2.1 2).1 := ps
      have d1 : zi p1 = (-1 : Int32) ↔ p1 = -1 := zi_m1 (by omega)
      have d0 : zi l = (0 : Int32) ↔ l = 0 := zi_eq (y := 0) bl (by decide)
      have d2 : zi l = (1 : Int32) ↔ l = 1 := zi_eq (y := 1) bl (by decide)
      have k1 : zCd zT 59 225 [.int (zi l), .int 0, .int 1] (zm L I J r) = some (some (.int (zb1 (zbo l 0 1))), (zm L I J r)) := cOut (lo := 0) (hi := 1) (by omega) bl (by decide) (by decide)
      have k2 : zCd zT 59 225 [.int (zi (a : Int)), .int 0, .int 4095] (zm L I J r) = some (some (.int (zb1 (zbo a 0 4095))), (zm L I J r)) := cOut (lo := 0) (hi := 4095) (by omega) ba (by decide) (by decide)
      refine zGo_0 hr hv (.int (if p1 = -1 then zi (-1) else if l = 0 then zi p2 else zi p1)) ?_ ?_
      · rw [qX11_cover, eX11_cover_0, k1, zbI_s, eX11_cover_1, h1, if_pos (show zb1 false = 0 by decide), eX11_cover_2, k2, zbI_s, eX11_cover_3, h2, if_pos (show zb1 false = 0 by decide), eX11_cover_4, cc, zbI_s, eX11_cover_5]
        by_cases q : p1 = -1
        · rw [if_pos (d1.mpr q), if_pos q]
          rfl
        · rw [if_neg (fun w => q (d1.mp w)), if_neg q, eX11_cover_6]
          by_cases q2 : l = 0
          · have e1 : zi p1 = zi ((p1.toNat : Nat) : Int) := congrArg zi (by omega)
            have cs : zCd zT 59 74 [.ref 43, .int 1, .int (zi ((p1.toNat : Nat) : Int))] (zm L I J r) = _ := cSm (L := L) (J := J) (r := r) (f := 1) (s := p1.toNat) (q := 2) (by omega) rfl (by decide) hb hw.1 (by decide) (by omega)
            rw [if_pos (d0.mpr q2), if_pos q2, e1, cs, zbI_s, eX11_cover_7, eX11_cover_9]
            rcases ps with w | w
            · exact absurd w q
            · rw [w]
          · rw [if_neg (fun w => q2 (d0.mp w)), if_neg q2, eX11_cover_8, eX11_cover_9]
      · rw [qX12_cover, eX12_cover_0, mWithin (by omega) bl, zbI_s, eX12_cover_1, show (0 : Int64).toInt = 0 from rfl, show (1 : Int64).toInt = 1 from rfl, h1, if_neg (show ¬ zb1 (!false) = 0 by decide), eX12_cover_2, mWithin (by omega) ba, zbI_s, eX12_cover_3, show (0 : Int64).toInt = 0 from rfl, show (4095 : Int64).toInt = 4095 from rfl, h2, if_neg (show ¬ zb1 (!false) = 0 by decide)]
        refine mm.trans ?_
        rw [eX12_cover_12]
        show (if zi p1 = (-1 : Int32) then _ else if zi l = (1 : Int32) then _ else _) = _
        by_cases q : p1 = -1
        · rw [if_pos (d1.mpr q), if_pos q, eX12_cover_13, eX12_cover_15, q]
        · rw [if_neg (fun w => q (d1.mp w)), if_neg q]
          by_cases q2 : l = 1
          · rw [if_pos (d2.mpr q2), if_neg (show ¬ l = 0 by omega), eX12_cover_13, eX12_cover_15]
          · rw [if_neg (fun w => q2 (d2.mp w)), if_pos (show l = 0 by omega), eX12_cover_14, eX12_cover_15]
    · refine zGo_0 hr hv (.int (zi (-3))) ?_ ?_
      · simp (disch := omega) only [qX11_cover, eX11_cover_0, eX11_cover_1, eX11_cover_2, eX11_cover_3, cOut, h1, h2, if_true, if_false, zi_eq, yI1, zbI_s, zbL_s, zbV_s, zgd_t, zb1_t, zb1_f, zb1_01, zz_0, zz_1, zi_lit, zi_add, zi_sub, zi_mul, zi_neg, zi_z0]
      · simp (disch := omega) only [qX12_cover, eX12_cover_0, eX12_cover_1, eX12_cover_2, eX12_cover_3, mWithin, show (0 : Int64).toInt = 0 from rfl, show (1 : Int64).toInt = 1 from rfl, show (4095 : Int64).toInt = 4095 from rfl, h1, h2, zi_eq, Bool.not_false, Bool.not_true, yI1, if_true, if_false, zbI_s, zbL_s, zbV_s, zgd_t, zb1_t, zb1_f, zb1_01, zz_0, zz_1, zi_lit, zi_add, zi_sub, zi_mul, zi_neg, zi_z0]
  · refine zGo_0 hr hv (.int (zi (-2))) ?_ ?_
    · simp (disch := omega) only [qX11_cover, eX11_cover_0, eX11_cover_1, cOut, h1, if_true, if_false, zi_eq, yI1, zbI_s, zbL_s, zbV_s, zgd_t, zb1_t, zb1_f, zb1_01, zz_0, zz_1, zi_lit, zi_add, zi_sub, zi_mul, zi_neg, zi_z0]
    · simp (disch := omega) only [qX12_cover, eX12_cover_0, eX12_cover_1, mWithin, show (0 : Int64).toInt = 0 from rfl, show (1 : Int64).toInt = 1 from rfl, h1, zi_eq, Bool.not_false, Bool.not_true, yI1, if_true, if_false, zbI_s, zbL_s, zbV_s, zgd_t, zb1_t, zb1_f, zb1_01, zz_0, zz_1, zi_lit, zi_add, zi_sub, zi_mul, zi_neg, zi_z0]
