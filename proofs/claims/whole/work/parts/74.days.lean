/-! PARTS: DAYS, FIRST, AGE -/
theorem zForI {β M : Type} {G : Nat → M → β} {P : Nat → M → Prop} : ∀ {n : Nat}, (∀ i m, i < n → P i m → ∃ m', G i m = G (i + 1) m' ∧ P (i + 1) m') → ∀ m, P 0 m → ∃ m', G 0 m = G n m' ∧ P n m' := by
  intro n
  induction n with
  | zero => intro _ m hm; exact ⟨m, rfl, hm⟩
  | succ n ih =>
    intro h m hm
    obtain ⟨m1, a, b⟩ := ih (fun i m hi => h i m (by omega)) m hm
    obtain ⟨m2, c, e⟩ := h n m1 (by omega) b
    exact ⟨m2, a.trans c, e⟩
def yDl (b : yTb) (h : Int) (k : Nat) : Int := if b.2 k 1 - b.2 k 0 ≤ 0 then 0 else (b.2 k 1 - b.2 k 0) / h
theorem yDl_b {b : yTb} {n m c : Nat} (hw : wTb n m c 3 b) {h : Int} (hh : 1 ≤ h) {k : Nat} (hk : k < b.1) : 0 ≤ yDl b h k ∧ yDl b h k ≤ 9999 := by
  have w0 : 0 ≤ b.2 k 0 ∧ b.2 k 0 ≤ 10000 * ((c : Int) + 1) := hw.2 k 0 hk (by decide)
  have w1 : 1 ≤ b.2 k 1 ∧ b.2 k 1 ≤ 9999 := hw.2 k 1 hk (by decide)
  unfold yDl
  split
  · omega
  · exact ⟨Int.ediv_nonneg (by omega) (by omega), Int.le_trans (Int.ediv_le_self _ (by omega)) (by omega)⟩
section
variable {d L r : Nat} {I : Nat → Nat → Int32} {J : Nat → Nat → Int64}
theorem cDl (hd : 3 ≤ d) {b : yTb} {n m c : Nat} (hc : c ≤ 513) (hb : cTb 45 3 I b) (hw : wTb n m c 3 b) {h : Int} (hh : 1 ≤ h ∧ h ≤ 24) {k : Nat} (hk : k < b.1) : zCd zT d 178 [.ref 16, .int (zi (k : Int)), .int (zi h)] (zm L I J r) = some (some (.int (zi (yDl b h k))), (zm L I J r)) := by
  obtain ⟨e, rfl⟩ : ∃ e, d = e + 1 := ⟨d - 1, by omega⟩
  have w0 : 0 ≤ b.2 k 0 ∧ b.2 k 0 ≤ 10000 * ((c : Int) + 1) := hw.2 k 0 hk (by decide)
  have w1 : 1 ≤ b.2 k 1 ∧ b.2 k 1 ≤ 9999 := hw.2 k 1 hk (by decide)
  have g0 : zCd zT e 68 [.ref 45, .int (zi (k : Int)), .int (zi 0)] (zm L I J r) = some (some (.int (zi (b.2 k 0))), (zm L I J r)) := cGetO (by omega) (o := 45) (q := 3) rfl (by decide) hb hw.1 (k := (k : Int)) (f := 0) (by omega) (by decide)
  have g1 : zCd zT e 68 [.ref 45, .int (zi (k : Int)), .int (zi 1)] (zm L I J r) = some (some (.int (zi (b.2 k 1))), (zm L I J r)) := cGetO (by omega) (o := 45) (q := 3) rfl (by decide) hb hw.1 (k := (k : Int)) (f := 1) (by omega) (by decide)
  have hz : decide (zi h ≠ zi 0) = true := by
    rw [decide_eq_true_iff, ne_eq, zi_eq (by omega) (by decide)]
    omega
  unfold yDl
  by_cases q : b.2 k 1 - b.2 k 0 ≤ 0
  · simp (disch := omega) only [qX11_daysLeft, eX11_daysLeft_0, eX11_daysLeft_1, eX11_daysLeft_2, eX11_daysLeft_3, eX11_daysLeft_4, eX11_daysLeft_5, g0, g1, zbI_s, zbL_s, zbV_s, zgd_t, zb1_t, zb1_f, zb1_01, zz_0, zz_1, zi_lit, zi_add, zi_sub, zi_mul, zi_neg, zi_le, zi_lt, if_pos, if_neg]
  · simp (disch := omega) only [qX11_daysLeft, eX11_daysLeft_0, eX11_daysLeft_1, eX11_daysLeft_2, eX11_daysLeft_3, eX11_daysLeft_4, eX11_daysLeft_5, g0, g1, zbI_s, zbL_s, zbV_s, zgd_t, zb1_t, zb1_f, zb1_01, zz_0, zz_1, zi_lit, zi_add, zi_sub, zi_mul, zi_neg, zi_le, zi_lt, if_pos, if_neg, hz, zi_div]
theorem mDl (hd : 1 ≤ d) {b : yTb} {n m c : Nat} (hc : c ≤ 513) (hb : mTb 3 (I 131) b) (hw : wTb n m c 3 b) {h : Int} (hh : 1 ≤ h ∧ h ≤ 24) {k : Nat} (hk : k < b.1) : zCd zT d 327 [.ref 130, .int (zi (k : Int)), .int (zi h)] (zm L I J r) = some (some (.int (zi (yDl b h k))), (zm L I J r)) := by
  have w0 : 0 ≤ b.2 k 0 ∧ b.2 k 0 ≤ 10000 * ((c : Int) + 1) := hw.2 k 0 hk (by decide)
  have w1 : 1 ≤ b.2 k 1 ∧ b.2 k 1 ≤ 9999 := hw.2 k 1 hk (by decide)
  have hm : b.1 ≤ 8 := hw.1
  have g0 : I 131 (696 + k) = zi (b.2 k 0) := hb.2 k 0 hk (by decide)
  have g1 : I 131 (704 + k) = zi (b.2 k 1) := hb.2 k 1 hk (by decide)
  have hz : decide (zi h ≠ zi 0) = true := by
    rw [decide_eq_true_iff, ne_eq, zi_eq (by omega) (by decide)]
    omega
  unfold yDl
  by_cases q : b.2 k 1 - b.2 k 0 ≤ 0
  · by_cases q2 : b.2 k 1 - b.2 k 0 = 0
    · simp (disch := omega) only [sX12_daysOf hd, zbI_s, zbL_s, zbV_s, zgd_t, zb1_t, zb1_f, zb1_01, zz_0, zz_1, zi_lit, zi_add, zi_sub, zi_mul, zi_neg, zin_t, zi_cl, show (696 + (k : Int)).toNat = 696 + k by omega, show (704 + (k : Int)).toNat = 704 + k by omega, g0, g1, zi_le, if_pos, hz, zi_div]
      rw [q2]
      simp
    · simp (disch := omega) only [sX12_daysOf hd, zbI_s, zbL_s, zbV_s, zgd_t, zb1_t, zb1_f, zb1_01, zz_0, zz_1, zi_lit, zi_add, zi_sub, zi_mul, zi_neg, zin_t, zi_cl, show (696 + (k : Int)).toNat = 696 + k by omega, show (704 + (k : Int)).toNat = 704 + k by omega, g0, g1, zi_le, if_pos, if_neg]
  · simp (disch := omega) only [sX12_daysOf hd, zbI_s, zbL_s, zbV_s, zgd_t, zb1_t, zb1_f, zb1_01, zz_0, zz_1, zi_lit, zi_add, zi_sub, zi_mul, zi_neg, zin_t, zi_cl, show (696 + (k : Int)).toNat = 696 + k by omega, show (704 + (k : Int)).toNat = 704 + k by omega, g0, g1, zi_le, if_pos, if_neg, hz, zi_div]
end
/-- the PART with the fewest DAYS among the first k + 1 -/
def yFp (b : yTb) (h : Int) : Nat → Nat
  | 0 => 0
  | k + 1 => if yDl b h (k + 1) < yDl b h (yFp b h k) then k + 1 else yFp b h k
theorem yFp_b {b : yTb} {h : Int} : ∀ k, yFp b h k ≤ k := by
  intro k
  induction k with
  | zero => exact Nat.le_refl 0
  | succ k ih =>
    rw [yFp]
    split <;> omega
theorem oDays (a b : Int32) : zOk 177 328 [.int a, .int b] := by
  intro L c r I J y z0 z1 hc hr hv
  obtain ⟨a, rfl, ba⟩ := zi_of a
  obtain ⟨b, rfl, bb⟩ := zi_of b
  have hb : cTb 45 3 I (y.2.2.1 3) := hv.1.2.2.1 3 (by decide)
  have hw := hv.2.2.1.2.2.1 3 (by decide)
  have hm := zV_mt hv (q := 3) (by decide)
  have hm0 : mTb 3 (zu I 130 0 (zi 0) 131) (y.2.2.1 3) := by rw [zu_o (by decide)]; exact hm
  have hn : I 131 695 = zi (y.2.2.1 3).1 := hm.1
  have hw1 : (y.2.2.1 3).1 ≤ 8 := hw.1
  cases h0 : zbo a 0 (((y.2.2.1 3).1 : Int) - 1)
  · cases h1 : zbo b 1 24
    · have g0 := zbo_f h0
      have g1 := zbo_f h1
      have ea : zi a = zi ((a.toNat : Nat) : Int) := congrArg zi (by omega)
      refine zGo_0 hr hv (.int (zi (yDl (y.2.2.1 3) b a.toNat))) ?_ ?_
      · have k : zCd zT 59 178 [.ref 16, .int (zi a), .int (zi b)] (zm L I J r) = some (some (.int (zi (yDl (y.2.2.1 3) b a.toNat))), (zm L I J r)) := by
          rw [ea]
          exact cDl (by decide) (Nat.le_of_lt (by omega)) hb hw g1 (show a.toNat < (y.2.2.1 3).1 by omega)
        simp (disch := omega) only [qX11_days, eX11_days_0, eX11_days_1, eX11_days_2, eX11_days_3, eX11_days_4, eX11_days_5, eX11_days_6, cTSize (d := 59) (by decide) (o := 45) (by decide) hb, cOut, h0, h1, qX11_badDayHours, eX11_badDayHours_0, eX11_badDayHours_1, if_true, if_false, zbI_s, zbL_s, zbV_s, zgd_t, zb1_t, zb1_f, zb1_01, zz_0, zz_1, zi_lit, zi_add, zi_sub, zi_mul, zi_neg, zi_z0, k]
      · have k : zCd zT 59 327 [.ref 130, .int (zi a), .int (zi b)] (zm L (zu I 130 0 (zi 0)) J r) = some (some (.int (zi (yDl (y.2.2.1 3) b a.toNat))), (zm L (zu I 130 0 (zi 0)) J r)) := by
          rw [ea]
          exact mDl (by decide) (Nat.le_of_lt (by omega)) hm0 hw g1 (show a.toNat < (y.2.2.1 3).1 by omega)
        simp (disch := omega) only [qX12_days, eX12_days_0, eX12_days_1, eX12_days_2, eX12_days_3, eX12_days_4, eX12_days_5, mWithin, show (0 : Int64).toInt = 0 from rfl, show (1 : Int64).toInt = 1 from rfl, show (24 : Int64).toInt = 24 from rfl, zu_n, hn, y64, h0, h1, Bool.not_false, if_true, if_false, zbI_s, zbL_s, zbV_s, zgd_t, zb1_t, zb1_f, zb1_01, zz_0, zz_1, zi_lit, zi_add, zi_sub, zi_mul, zi_neg, zi_z0, k]
    · refine zGo_0 hr hv (.int (zi (-3))) ?_ ?_
      · simp (disch := omega) only [qX11_days, eX11_days_0, eX11_days_1, eX11_days_2, eX11_days_3, eX11_days_4, eX11_days_5, eX11_days_6, cTSize (d := 59) (by decide) (o := 45) (by decide) hb, cOut, h0, h1, qX11_badDayHours, eX11_badDayHours_0, eX11_badDayHours_1, if_true, if_false, zbI_s, zbL_s, zbV_s, zgd_t, zb1_t, zb1_f, zb1_01, zz_0, zz_1, zi_lit, zi_add, zi_sub, zi_mul, zi_neg, zi_z0]
      · simp (disch := omega) only [qX12_days, eX12_days_0, eX12_days_1, eX12_days_2, eX12_days_3, eX12_days_4, eX12_days_5, mWithin, show (0 : Int64).toInt = 0 from rfl, show (1 : Int64).toInt = 1 from rfl, show (24 : Int64).toInt = 24 from rfl, zu_n, hn, y64, h0, h1, Bool.not_false, Bool.not_true, if_true, if_false, zbI_s, zbL_s, zbV_s, zgd_t, zb1_t, zb1_f, zb1_01, zz_0, zz_1, zi_lit, zi_add, zi_sub, zi_mul, zi_neg, zi_z0]
  · refine zGo_0 hr hv (.int (zi (-2))) ?_ ?_
    · simp (disch := omega) only [qX11_days, eX11_days_0, eX11_days_1, eX11_days_2, eX11_days_3, eX11_days_4, eX11_days_5, eX11_days_6, cTSize (d := 59) (by decide) (o := 45) (by decide) hb, cOut, h0, if_true, if_false, zbI_s, zbL_s, zbV_s, zgd_t, zb1_t, zb1_f, zb1_01, zz_0, zz_1, zi_lit, zi_add, zi_sub, zi_mul, zi_neg, zi_z0]
    · simp (disch := omega) only [qX12_days, eX12_days_0, eX12_days_1, eX12_days_2, eX12_days_3, eX12_days_4, eX12_days_5, mWithin, show (0 : Int64).toInt = 0 from rfl, show (1 : Int64).toInt = 1 from rfl, show (24 : Int64).toInt = 24 from rfl, zu_n, hn, y64, h0, Bool.not_true, if_true, if_false, zbI_s, zbL_s, zbV_s, zgd_t, zb1_t, zb1_f, zb1_01, zz_0, zz_1, zi_lit, zi_add, zi_sub, zi_mul, zi_neg, zi_z0]
theorem oFirst (a : Int32) : zOk 179 329 [.int a] := by
  intro L c r I J y z0 z1 hc hr hv
  obtain ⟨a, rfl, ba⟩ := zi_of a
  have hb : cTb 45 3 I (y.2.2.1 3) := hv.1.2.2.1 3 (by decide)
  have hw := hv.2.2.1.2.2.1 3 (by decide)
  have hm := zV_mt hv (q := 3) (by decide)
  have hm0 : mTb 3 (zu I 130 0 (zi 0) 131) (y.2.2.1 3) := by rw [zu_o (by decide)]; exact hm
  have hn : I 131 695 = zi (y.2.2.1 3).1 := hm.1
  have hw1 : (y.2.2.1 3).1 ≤ 8 := hw.1
  cases h1 : zbo a 1 24
  · have g1 := zbo_f h1
    by_cases q : (y.2.2.1 3).1 = 0
    · refine zGo_0 hr hv (.int (zi (-5))) ?_ ?_
      · simp (disch := omega) only [qX11_first, eX11_first_0, eX11_first_1, eX11_first_2, eX11_first_3, eX11_first_4, eX11_first_5, eX11_first_6, eX11_first_7, eX11_first_8, eX11_first_9, eX11_first_10, cTSize (d := 59) (by decide) (o := 45) (by decide) hb, cOut, h1, qX11_badDayHours, eX11_badDayHours_0, eX11_badDayHours_1, zi_eq, if_pos, if_true, if_false, zbI_s, zbL_s, zbV_s, zgd_t, zb1_t, zb1_f, zb1_01, zz_0, zz_1, zi_lit, zi_add, zi_sub, zi_mul, zi_neg, zi_z0]
      · simp (disch := omega) only [qX12_first, eX12_first_0, eX12_first_1, eX12_first_2, eX12_first_3, eX12_first_4, eX12_first_5, eX12_first_6, eX12_first_7, eX12_first_8, mWithin, show (0 : Int64).toInt = 0 from rfl, show (1 : Int64).toInt = 1 from rfl, show (24 : Int64).toInt = 24 from rfl, zu_n, hn, h1, Bool.not_false, zi_eq, if_pos, if_neg, if_true, if_false, zbI_s, zbL_s, zbV_s, zgd_t, zb1_t, zb1_f, zb1_01, zz_0, zz_1, zi_lit, zi_add, zi_sub, zi_mul, zi_neg, zi_z0]
    · generalize hB : y.2.2.1 3 = b at *
      refine zGo_0 hr hv (.int (zi ((yFp b a (b.1 - 1) : Nat) : Int))) ?_ ?_
      · have c1 := zFor (n := b.1 - 1) (G := fun k => zX 0 (zCd zT 59) zc_X11_first 5 [some (.ref 16), some (.int (zi a)), some (.int (zi ((yFp b a k : Nat) : Int))), some (.int (zi ((k + 1 : Nat) : Int)))] [] (zm L I J r)) (fun k hk => by
          have k2 : zi ((k + 1 : Nat) : Int) + (1 : Int32) = zi ((k + 1 + 1 : Nat) : Int) := zi_add _ 1
          have f1 := yFp_b (b := b) (h := a) k
          have w1 := yDl_b hw g1.1 (show k + 1 < b.1 by omega)
          have w2 := yDl_b hw g1.1 (show yFp b a k < b.1 by omega)
          rw [eX11_first_5, cTSize (by decide) (by decide) hb, zbI_s, eX11_first_6, if_neg (show ¬ zi (b.1 : Int) ≤ zi ((k + 1 : Nat) : Int) by rw [zi_le (by omega) (by omega)]; omega), cDl (by decide) (by omega) hb hw g1 (show k + 1 < b.1 by omega), zbI_s, eX11_first_7, cDl (by decide) (by omega) hb hw g1 (show yFp b a k < b.1 by omega), zbI_s, eX11_first_8, eX11_first_9, eX11_first_9, k2, yFp]
          simp only [zi_le (show -2147483648 ≤ yDl b a (yFp b a k) ∧ yDl b a (yFp b a k) < 2147483648 by omega) (show -2147483648 ≤ yDl b a (k + 1) ∧ yDl b a (k + 1) < 2147483648 by omega)]
          by_cases q3 : yDl b a (k + 1) < yDl b a (yFp b a k)
          · rw [if_neg (by omega), if_pos q3]
          · rw [if_pos (by omega), if_neg q3])
        have z0 : zX 0 (zCd zT 59) zc_X11_first 5 [some (.ref 16), some (.int (zi a)), some (.int (zi 0)), some (.int (zi 1))] [] (zm L I J r) = _ := c1
        simp (disch := omega) only [qX11_first, eX11_first_0, eX11_first_1, eX11_first_2, eX11_first_3, eX11_first_4, eX11_first_6, eX11_first_7, eX11_first_8, eX11_first_9, eX11_first_10, z0, cTSize (d := 59) (by decide) (o := 45) (by decide) hb, cOut, h1, qX11_badDayHours, eX11_badDayHours_0, eX11_badDayHours_1, zi_eq, if_neg, if_true, if_false, zbI_s, zbL_s, zbV_s, zgd_t, zb1_t, zb1_f, zb1_01, zz_0, zz_1, zi_lit, zi_add, zi_sub, zi_mul, zi_neg, zi_z0]
        rw [eX11_first_5, cTSize (by decide) (by decide) hb, zbI_s, eX11_first_6, if_pos (show zi (b.1 : Int) ≤ zi ((b.1 - 1 + 1 : Nat) : Int) by rw [zi_le (by omega) (by omega)]; omega), eX11_first_10]
      · have en : zu I 130 0 (zi 0) 131 695 = zi b.1 := hm0.1
        have c1 := zFor (n := b.1 - 1) (G := fun k => zX 0 (zCd zT 59) zc_X12_first 4 [some (.ref 130), some (.int (zi a)), some (.int (zi ((yFp b a k : Nat) : Int))), some (.int (zi ((k + 1 : Nat) : Int)))] [] (zm L (zu I 130 0 (zi 0)) J r)) (fun k hk => by
          have k2 : zi ((k + 1 : Nat) : Int) + (1 : Int32) = zi ((k + 1 + 1 : Nat) : Int) := zi_add _ 1
          have f1 := yFp_b (b := b) (h := a) k
          have w1 := yDl_b hw g1.1 (show k + 1 < b.1 by omega)
          have w2 := yDl_b hw g1.1 (show yFp b a k < b.1 by omega)
          rw [eX12_first_4, en, if_neg (show ¬ zi (b.1 : Int) ≤ zi ((k + 1 : Nat) : Int) by rw [zi_le (by omega) (by omega)]; omega), mDl (by decide) (by omega) hm0 hw g1 (show k + 1 < b.1 by omega), zbI_s, eX12_first_5, mDl (by decide) (by omega) hm0 hw g1 (show yFp b a k < b.1 by omega), zbI_s, eX12_first_6, eX12_first_7, eX12_first_7, k2, yFp]
          simp only [zi_le (show -2147483648 ≤ yDl b a (yFp b a k) ∧ yDl b a (yFp b a k) < 2147483648 by omega) (show -2147483648 ≤ yDl b a (k + 1) ∧ yDl b a (k + 1) < 2147483648 by omega)]
          by_cases q3 : yDl b a (k + 1) < yDl b a (yFp b a k)
          · rw [if_neg (by omega), if_pos q3]
          · rw [if_pos (by omega), if_neg q3])
        have z0 : zX 0 (zCd zT 59) zc_X12_first 4 [some (.ref 130), some (.int (zi a)), some (.int (zi 0)), some (.int (zi 1))] [] (zm L (zu I 130 0 (zi 0)) J r) = _ := c1
        simp (disch := omega) only [qX12_first, eX12_first_0, eX12_first_1, eX12_first_2, eX12_first_3, eX12_first_5, eX12_first_6, eX12_first_7, eX12_first_8, z0, mWithin, show (0 : Int64).toInt = 0 from rfl, show (1 : Int64).toInt = 1 from rfl, show (24 : Int64).toInt = 24 from rfl, zu_n, hn, h1, Bool.not_false, zi_eq, if_neg, if_true, if_false, zbI_s, zbL_s, zbV_s, zgd_t, zb1_t, zb1_f, zb1_01, zz_0, zz_1, zi_lit, zi_add, zi_sub, zi_mul, zi_neg, zi_z0]
        rw [eX12_first_4, en, if_pos (show zi (b.1 : Int) ≤ zi ((b.1 - 1 + 1 : Nat) : Int) by rw [zi_le (by omega) (by omega)]; omega), eX12_first_8]
  · refine zGo_0 hr hv (.int (zi (-3))) ?_ ?_
    · simp (disch := omega) only [qX11_first, eX11_first_0, eX11_first_1, eX11_first_2, eX11_first_3, eX11_first_4, eX11_first_5, eX11_first_6, eX11_first_7, eX11_first_8, eX11_first_9, eX11_first_10, cOut, h1, qX11_badDayHours, eX11_badDayHours_0, eX11_badDayHours_1, if_true, if_false, zbI_s, zbL_s, zbV_s, zgd_t, zb1_t, zb1_f, zb1_01, zz_0, zz_1, zi_lit, zi_add, zi_sub, zi_mul, zi_neg, zi_z0]
    · simp (disch := omega) only [qX12_first, eX12_first_0, eX12_first_1, eX12_first_2, eX12_first_3, eX12_first_4, eX12_first_5, eX12_first_6, eX12_first_7, eX12_first_8, mWithin, show (0 : Int64).toInt = 0 from rfl, show (1 : Int64).toInt = 1 from rfl, show (24 : Int64).toInt = 24 from rfl, h1, Bool.not_true, if_true, if_false, zbI_s, zbL_s, zbV_s, zgd_t, zb1_t, zb1_f, zb1_01, zz_0, zz_1, zi_lit, zi_add, zi_sub, zi_mul, zi_neg, zi_z0]
