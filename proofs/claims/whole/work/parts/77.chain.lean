/-! CHAINS: slips, lift, a STRETCHED RUN -/
theorem zV_st {c : Nat} {I I2 : Nat → Nat → Int32} {J : Nat → Nat → Int64} {y : zFd} {z0 z1 : Bool × zFd} {s : Nat → Int} (hv : zV c I J y z0 z1) (h1 : ∀ o, o ≠ 55 → o ≠ 131 → o ≠ 130 → I2 o = I o) (h2 : ∀ k, k ≠ 0 → I2 130 k = I 130 k) (h3 : ∀ k, k ≠ 881 → k ≠ 882 → I2 131 k = I 131 k) (hs : ∀ k, k < 2 → I2 55 k = zi (s k) ∧ I2 131 (881 + k) = zi (s k) ∧ 0 ≤ s k ∧ s k ≤ 20000 * ((c : Int) + 1)) : zV (c + 1) I2 J (y.1, y.2.1, y.2.2.1, s) z0 z1 := by
  obtain ⟨a1, a2, a3, a4, a5, a6, a7, a8, a9, a10⟩ := hv
  have hw1 := wDay_le (Nat.le_succ c) a3
  have vm : ∀ D O j o z, (26 ≤ D ∧ D ≤ 60) → 883 ≤ O → (56 ≤ o ∧ o ≤ 115) → zVm c D O I J j o z → zVm (c + 1) D O I2 J j o z := by
    intro D O j o z hD hO ho hz
    have e : ∀ p, 31 ≤ p → p ≤ 55 → I2 (p + D) = I (p + D) := fun p _ _ => h1 _ (by omega) (by omega) (by omega)
    refine ⟨by rw [h1 o (by omega) (by omega) (by omega)]; exact hz.1, by rw [h1 133 (by omega) (by omega) (by omega)]; exact hz.2.1, fun p hp => by rw [e _ (by omega) (by omega)]; exact hz.2.2.1 p hp, fun w => ?_⟩
    obtain ⟨x1, x2, x3⟩ := hz.2.2.2 w
    exact ⟨cDay_fr e (fun _ _ _ => rfl) x1, mDay_fr x3 (fun k _ => h3 _ (by omega) (by omega)) x2, wDay_le (Nat.le_succ c) x3⟩
  have e131 : ∀ k, k < 881 → I2 131 (0 + k) = I 131 (0 + k) := fun k hk => h3 _ (by omega) (by omega)
  refine ⟨⟨cTr_fr (fun o _ _ => h1 _ (by omega) (by omega) (by omega)) (fun _ _ _ => rfl) a1.1, cRl_fr (h1 _ (by decide) (by decide) (by decide)) rfl a1.2.1, fun q hq => cTb_fr (h1 _ (by omega) (by omega) (by omega)) (h1 _ (by omega) (by omega) (by omega)) (a1.2.2.1 q hq), fun k hk => (hs k hk).1⟩, ⟨mTr_fr a3.1 (fun k hk => e131 k (by omega)) a2.1, mRl_fr a3.2.1 (fun k _ hk => e131 k (by omega)) a2.2.1, fun q hq => mTb_fr hq (a3.2.2.1 q hq) (fun k _ hk => e131 k (by have := zBs_r hq; omega)) (a2.2.2.1 q hq), fun k hk => by rw [Nat.zero_add]; exact (hs k hk).2.1⟩, ⟨hw1.1, hw1.2.1, hw1.2.2.1, fun k hk => ⟨(hs k hk).2.2.1, by have := (hs k hk).2.2.2; show s k ≤ 20000 * (((c + 1 : Nat) : Int)); omega⟩, hw1.2.2.2.2⟩, vm _ _ _ _ _ (by omega) (by omega) (by omega) a4, vm _ _ _ _ _ (by omega) (by omega) (by omega) a5, fun i hi => ?_, ?_, fun k hk => ?_, by rw [h2 25 (by decide)]; exact a9, ?_⟩
  · rw [h1 (108 + 2 * i) (by omega) (by omega) (by omega), h1 145 (by omega) (by omega) (by omega), h1 146 (by omega) (by omega) (by omega)]
    exact a6 i hi
  · unfold zVt
    rw [h1 17 (by omega) (by omega) (by omega), h1 18 (by omega) (by omega) (by omega), h1 134 (by omega) (by omega) (by omega), h2 5 (by decide), h2 15 (by decide), h2 16 (by decide)]
    exact a7
  · rw [h1 119 (by omega) (by omega) (by omega)]
    exact a8 k hk
  · show ∀ l : Nat, l < 2481 → I2 120 l = -2 ∨ I2 120 l = zi (zOT y.1 l)
    rw [h1 120 (by omega) (by omega) (by omega)]
    exact a10
theorem oSlips (a b : Int32) : zOk 208 357 [.int a, .int b] := by
  intro L c r I J y z0 z1 hc hr hv
  obtain ⟨a, rfl, ba⟩ := zi_of a
  obtain ⟨b, rfl, bb⟩ := zi_of b
  have hT := zV_TI hv
  have hnc := hT.2.2.1.2.2.2.2.1
  have p7 : I 32 7 = zi y.1.nc := hv.1.1.2.2.2.2.1
  have m67 : I 131 67 = zi y.1.nc := by have := hv.2.1.1.2.2.2.2.1; rwa [Nat.zero_add] at this
  cases h0 : zbo a 0 ((y.1.nc : Int) - 1)
  · cases h1 : zbo b 1 20
    · have g0 := zbo_f h0
      have g1 := zbo_f h1
      obtain ⟨k, rfl⟩ : ∃ k : Nat, a = k := ⟨a.toNat, by omega⟩
      have hk : k < y.1.nc := by omega
      have w := hT.2.2.1.2.2.2.2.2.1 k hk
      have v1 : I 35 k = zi (y.1.cv k) := (hv.1.1.2.2.2.2.2.1 k hk).1
      have v2 : I 55 k = zi (y.2.2.2 k) := hv.1.2.2.2 k (by omega)
      have v3 : I 131 (72 + k) = zi (y.1.cv k) := by have := (hv.2.1.1.2.2.2.2.2.1 k hk).2.2; rwa [Nat.zero_add] at this
      have v4 : I 131 (881 + k) = zi (y.2.2.2 k) := by have := hv.2.1.2.2.2 k (by omega); rwa [Nat.zero_add] at this
      have ws := hv.2.2.1.2.2.2.1 k (by omega)
      have hz : decide (zi b ≠ zi 0) = true := by
        rw [decide_eq_true_iff, ne_eq, zi_eq (by omega) (by decide)]
        omega
      by_cases q : 0 < 1000 * y.1.cv k - y.2.2.2 k
      · refine zGo_0 hr hv (.int (zi ((1000 * y.1.cv k - y.2.2.2 k + b - 1) / b))) ?_ ?_
        · simp (disch := omega) only [qX11_slips, eX11_slips_0, eX11_slips_1, eX11_slips_2, eX11_slips_3, eX11_slips_4, eX11_slips_5, eX11_slips_6, eX11_slips_7, eX11_slips_8, qX11_noSuchChain, eX11_noSuchChain_0, eX11_noSuchChain_1, eX11_noSuchChain_2, sX9_chains (d := 58) (by decide) (o := 32) (by decide), sX9_chains (d := 57) (by decide) (o := 32) (by decide), p7, cOut, cBadW, h0, h1, sX9_chainPace, sX0_stretch, zi_le, zi_lt, if_pos, if_neg, if_true, if_false, zin_t, zi_cl, Int.toNat_natCast, v1, v2, hz, zi_div, zbI_s, zbL_s, zbV_s, zgd_t, zb1_t, zb1_f, zb1_01, zz_0, zz_1, zi_lit, zi_add, zi_sub, zi_mul, zi_neg, zi_z0]
        · simp (disch := omega) only [qX12_slips, eX12_slips_0, eX12_slips_1, eX12_slips_2, eX12_slips_3, eX12_slips_4, eX12_slips_5, eX12_slips_6, mWithin, mWeight, zu_n, m67, y64, show (0 : Int64).toInt = 0 from rfl, h0, h1, Bool.not_false, zi_lt, if_pos, if_neg, if_true, if_false, zin_t, zi_cl, show (72 + (k : Int)).toNat = 72 + k by omega, show (881 + (k : Int)).toNat = 881 + k by omega, v3, v4, hz, zi_div, zbI_s, zbL_s, zbV_s, zgd_t, zb1_t, zb1_f, zb1_01, zz_0, zz_1, zi_lit, zi_add, zi_sub, zi_mul, zi_neg, zi_z0]
      · refine zGo_0 hr hv (.int (zi 0)) ?_ ?_
        · simp (disch := omega) only [qX11_slips, eX11_slips_0, eX11_slips_1, eX11_slips_2, eX11_slips_3, eX11_slips_4, eX11_slips_5, eX11_slips_6, eX11_slips_7, eX11_slips_8, qX11_noSuchChain, eX11_noSuchChain_0, eX11_noSuchChain_1, eX11_noSuchChain_2, sX9_chains (d := 58) (by decide) (o := 32) (by decide), p7, cOut, cBadW, h0, h1, sX9_chainPace, sX0_stretch, zi_le, zi_lt, if_pos, if_neg, if_true, if_false, zin_t, zi_cl, Int.toNat_natCast, v1, v2, zbI_s, zbL_s, zbV_s, zgd_t, zb1_t, zb1_f, zb1_01, zz_0, zz_1, zi_lit, zi_add, zi_sub, zi_mul, zi_neg, zi_z0]
        · simp (disch := omega) only [qX12_slips, eX12_slips_0, eX12_slips_1, eX12_slips_2, eX12_slips_3, eX12_slips_4, eX12_slips_5, eX12_slips_6, mWithin, mWeight, zu_n, m67, y64, show (0 : Int64).toInt = 0 from rfl, h0, h1, Bool.not_false, zi_lt, if_pos, if_neg, if_true, if_false, zin_t, zi_cl, show (72 + (k : Int)).toNat = 72 + k by omega, show (881 + (k : Int)).toNat = 881 + k by omega, v3, v4, zbI_s, zbL_s, zbV_s, zgd_t, zb1_t, zb1_f, zb1_01, zz_0, zz_1, zi_lit, zi_add, zi_sub, zi_mul, zi_neg, zi_z0]
    · refine zGo_0 hr hv (.int (zi (-3))) ?_ ?_
      · simp (disch := omega) only [qX11_slips, eX11_slips_0, eX11_slips_1, eX11_slips_2, eX11_slips_3, qX11_noSuchChain, eX11_noSuchChain_0, eX11_noSuchChain_1, eX11_noSuchChain_2, sX9_chains (d := 58) (by decide) (o := 32) (by decide), p7, cOut, cBadW, h0, h1, if_true, if_false, zbI_s, zbL_s, zbV_s, zgd_t, zb1_t, zb1_f, zb1_01, zz_0, zz_1, zi_lit, zi_add, zi_sub, zi_mul, zi_neg, zi_z0]
      · simp (disch := omega) only [qX12_slips, eX12_slips_0, eX12_slips_1, eX12_slips_2, eX12_slips_3, mWithin, mWeight, zu_n, m67, y64, show (0 : Int64).toInt = 0 from rfl, h0, h1, Bool.not_false, Bool.not_true, if_true, if_false, zbI_s, zbL_s, zbV_s, zgd_t, zb1_t, zb1_f, zb1_01, zz_0, zz_1, zi_lit, zi_add, zi_sub, zi_mul, zi_neg, zi_z0]
  · refine zGo_0 hr hv (.int (zi (-2))) ?_ ?_
    · simp (disch := omega) only [qX11_slips, eX11_slips_0, eX11_slips_1, qX11_noSuchChain, eX11_noSuchChain_0, eX11_noSuchChain_1, eX11_noSuchChain_2, sX9_chains (d := 58) (by decide) (o := 32) (by decide), p7, cOut, h0, if_true, if_false, zbI_s, zbL_s, zbV_s, zgd_t, zb1_t, zb1_f, zb1_01, zz_0, zz_1, zi_lit, zi_add, zi_sub, zi_mul, zi_neg, zi_z0]
    · simp (disch := omega) only [qX12_slips, eX12_slips_0, eX12_slips_1, mWithin, zu_n, m67, y64, show (0 : Int64).toInt = 0 from rfl, h0, Bool.not_true, if_true, if_false, zbI_s, zbL_s, zbV_s, zgd_t, zb1_t, zb1_f, zb1_01, zz_0, zz_1, zi_lit, zi_add, zi_sub, zi_mul, zi_neg, zi_z0]
theorem oLift (a b p : Int32) : zOk 207 356 [.int a, .int b, .int p] := by
  intro L c r I J y z0 z1 hc hr hv
  obtain ⟨a, rfl, ba⟩ := zi_of a
  obtain ⟨b, rfl, bb⟩ := zi_of b
  obtain ⟨p, rfl, bp⟩ := zi_of p
  have hT := zV_TI hv
  have hnc := hT.2.2.1.2.2.2.2.1
  have p7 : I 32 7 = zi y.1.nc := hv.1.1.2.2.2.2.1
  have m67 : I 131 67 = zi y.1.nc := by have := hv.2.1.1.2.2.2.2.1; rwa [Nat.zero_add] at this
  cases h0 : zbo a 0 ((y.1.nc : Int) - 1)
  · by_cases hbp : zbo b 1 20 = false ∧ zbo p 1 999 = false
    · obtain ⟨h1, h2⟩ := hbp
      have g0 := zbo_f h0
      have g1 := zbo_f h1
      have g2 := zbo_f h2
      obtain ⟨k, rfl⟩ : ∃ k : Nat, a = k := ⟨a.toNat, by omega⟩
      have hk : k < y.1.nc := by omega
      have v2 : I 55 k = zi (y.2.2.2 k) := hv.1.2.2.2 k (by omega)
      have v4 : I 131 (881 + k) = zi (y.2.2.2 k) := by have := hv.2.1.2.2.2 k (by omega); rwa [Nat.zero_add] at this
      have ws := hv.2.2.1.2.2.2.1 k (by omega)
      have hp1 : 0 ≤ b * p ∧ b * p ≤ 19980 := ⟨Int.mul_nonneg (by omega) (by omega), by have := Int.mul_le_mul g1.2 g2.2 (by omega) (by decide); omega⟩
      refine ⟨.int (zi (y.2.2.2 k + b * p)), zu I 55 k (zi (y.2.2.2 k + b * p)), J, r, zu (zu (zu I 55 k (zi (y.2.2.2 k + b * p))) 130 0 (zi 0)) 131 (881 + k) (zi (y.2.2.2 k + b * p)), J, r, (y.1, y.2.1, y.2.2.1, fun j => if j = k then y.2.2.2 k + b * p else y.2.2.2 j), z0, z1, ?_, ?_, hr, zV_st hv (fun o x1 x2 x3 => by rw [zu_o x2, zu_o x3, zu_o x1]) (fun j x1 => by rw [zu_n (by omega), zu_n (by omega), zu_n (by omega)]) (fun j x1 x2 => by rw [zu_n (by omega), zu_n (by omega), zu_n (by omega)]) (fun j hj => ?_)⟩
      · simp (disch := omega) only [qX11_lift, eX11_lift_0, eX11_lift_1, eX11_lift_2, eX11_lift_3, eX11_lift_4, eX11_lift_5, eX11_lift_6, eX11_lift_7, qX11_noSuchChain, eX11_noSuchChain_0, eX11_noSuchChain_1, eX11_noSuchChain_2, sX9_chains (d := 58) (by decide) (o := 32) (by decide), p7, cOut, cBadW, h0, h1, h2, sX0_addStretch, zi_le, zi_lt, if_pos, if_neg, if_true, if_false, zin_t, zi_cl, Int.toNat_natCast, zu_y, v2, zbI_s, zbL_s, zbV_s, zgd_t, zb1_t, zb1_f, zb1_01, zz_0, zz_1, zi_lit, zi_add, zi_sub, zi_mul, zi_neg, zi_z0]
      · simp (disch := omega) only [qX12_lift, eX12_lift_0, eX12_lift_1, eX12_lift_2, eX12_lift_3, eX12_lift_4, eX12_lift_5, eX12_lift_6, mWithin, mWeight, zu_n, zu_y, m67, y64, show (0 : Int64).toInt = 0 from rfl, show (1 : Int64).toInt = 1 from rfl, show (999 : Int64).toInt = 999 from rfl, h0, h1, h2, Bool.not_false, if_pos, if_neg, if_true, if_false, zin_t, zi_cl, show (881 + (k : Int)).toNat = 881 + k by omega, v4, zbI_s, zbL_s, zbV_s, zgd_t, zb1_t, zb1_f, zb1_01, zz_0, zz_1, zi_lit, zi_add, zi_sub, zi_mul, zi_neg, zi_z0]
      · have wj := hv.2.2.1.2.2.2.1 j hj
        by_cases e : j = k
        · rw [e]
          refine ⟨by rw [zu_n (by omega), zu_n (by omega), zu_y ⟨rfl, rfl⟩, if_pos rfl], by rw [zu_y ⟨rfl, rfl⟩, if_pos rfl], ?_, ?_⟩
          · rw [if_pos rfl]
            omega
          · rw [if_pos rfl]
            omega
        · have u2 : I 55 j = zi (y.2.2.2 j) := hv.1.2.2.2 j hj
          have u4 : I 131 (881 + j) = zi (y.2.2.2 j) := by have := hv.2.1.2.2.2 j hj; rwa [Nat.zero_add] at this
          refine ⟨by rw [zu_n (by omega), zu_n (by omega), zu_n (by omega), if_neg e, u2], by rw [zu_n (by omega), zu_n (by omega), zu_n (by omega), if_neg e, u4], ?_, ?_⟩
          · rw [if_neg e]
            omega
          · rw [if_neg e]
            omega
    · refine zGo_0 hr hv (.int (zi (-3))) ?_ ?_
      · cases h1 : zbo b 1 20 <;> cases h2 : zbo p 1 999
        · exact absurd ⟨h1, h2⟩ hbp
        all_goals simp (disch := omega) only [qX11_lift, eX11_lift_0, eX11_lift_1, eX11_lift_2, eX11_lift_3, eX11_lift_4, eX11_lift_5, qX11_noSuchChain, eX11_noSuchChain_0, eX11_noSuchChain_1, eX11_noSuchChain_2, sX9_chains (d := 58) (by decide) (o := 32) (by decide), p7, cOut, cBadW, h0, h1, h2, if_true, if_false, zbI_s, zbL_s, zbV_s, zgd_t, zb1_t, zb1_f, zb1_01, zz_0, zz_1, zi_lit, zi_add, zi_sub, zi_mul, zi_neg, zi_z0]
      · cases h1 : zbo b 1 20 <;> cases h2 : zbo p 1 999
        · exact absurd ⟨h1, h2⟩ hbp
        all_goals simp (disch := omega) only [qX12_lift, eX12_lift_0, eX12_lift_1, eX12_lift_2, eX12_lift_3, eX12_lift_4, eX12_lift_5, mWithin, mWeight, zu_n, m67, y64, show (0 : Int64).toInt = 0 from rfl, show (1 : Int64).toInt = 1 from rfl, show (999 : Int64).toInt = 999 from rfl, h0, h1, h2, Bool.not_false, Bool.not_true, if_true, if_false, zbI_s, zbL_s, zbV_s, zgd_t, zb1_t, zb1_f, zb1_01, zz_0, zz_1, zi_lit, zi_add, zi_sub, zi_mul, zi_neg, zi_z0]
  · refine zGo_0 hr hv (.int (zi (-2))) ?_ ?_
    · simp (disch := omega) only [qX11_lift, eX11_lift_0, eX11_lift_1, qX11_noSuchChain, eX11_noSuchChain_0, eX11_noSuchChain_1, eX11_noSuchChain_2, sX9_chains (d := 58) (by decide) (o := 32) (by decide), p7, cOut, h0, if_true, if_false, zbI_s, zbL_s, zbV_s, zgd_t, zb1_t, zb1_f, zb1_01, zz_0, zz_1, zi_lit, zi_add, zi_sub, zi_mul, zi_neg, zi_z0]
    · simp (disch := omega) only [qX12_lift, eX12_lift_0, eX12_lift_1, mWithin, zu_n, m67, y64, show (0 : Int64).toInt = 0 from rfl, h0, Bool.not_true, if_true, if_false, zbI_s, zbL_s, zbV_s, zgd_t, zb1_t, zb1_f, zb1_01, zz_0, zz_1, zi_lit, zi_add, zi_sub, zi_mul, zi_neg, zi_z0]
