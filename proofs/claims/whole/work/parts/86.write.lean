/-! WRITE, STORM and KEEP: the rows -/
def yCut (s : Int) (v : Int64) : Int64 := if s = 0 then v.toInt32.toInt8.toInt32.toInt64 else if s = 1 then v.toInt32.toInt16.toInt32.toInt64 else if s = 2 then v.toInt32.toInt64 else v
theorem zuL_y {J : Nat → Nat → Int64} {o k o' k' : Nat} {v : Int64} (h : o' = o ∧ k' = k) : zuL J o k v o' k' = v := if_pos h
theorem zuL_n {J : Nat → Nat → Int64} {o k o' k' : Nat} {v : Int64} (h : ¬ (o' = o ∧ k' = k)) : zuL J o k v o' k' = J o' k' := if_neg h
theorem yI1 : ((1 : Int) = 0) = False := eq_false (by decide)
section
variable {d L r : Nat} {I : Nat → Nat → Int32} {J : Nat → Nat → Int64}
theorem cMiss (hd : 1 ≤ d) {o : Nat} (ho : o ∈ zRows) {s : Int} (bs : -2147483648 ≤ s ∧ s < 2147483648) (h : I o 1 = zi s) : zCd zT d 6 [.ref o] (zm L I J r) = some (some (.int (zb1 (decide (s = -1)))), (zm L I J r)) := by
  obtain ⟨e, rfl⟩ : ∃ e, d = e + 1 := ⟨d - 1, by omega⟩
  have q : zi s = (-1 : Int32) ↔ s = -1 := zi_m1 bs
  rw [qX1_isMissing ho, eX1_isMissing_0 ho, h]
  by_cases q0 : s = -1
  · rw [if_pos (q.mpr q0), eX1_isMissing_2 ho, decide_eq_true q0]
    rfl
  · rw [if_neg (fun w => q0 (q.mp w)), eX1_isMissing_1 ho, eX1_isMissing_2 ho, decide_eq_false q0]
    rfl
theorem cSize (hd : 1 ≤ d) {o : Nat} (ho : o ∈ zRows) {x : Int32} (h : I o 2 = x) : zCd zT d 7 [.ref o] (zm L I J r) = some (some (.int x), (zm L I J r)) := by
  obtain ⟨e, rfl⟩ : ∃ e, d = e + 1 := ⟨d - 1, by omega⟩
  rw [qX1_size ho, eX1_size_0 ho, h]
theorem cCut (hd : 1 ≤ d) {o : Nat} (ho : o ∈ zRows) {s : Int} (bs : -1 ≤ s ∧ s ≤ 3) (h : I o 1 = zi s) {v : Int64} : zCd zT d 11 [.ref o, .long (v)] (zm L I J r) = some (some (.long (yCut s v)), (zm L I J r)) := by
  obtain ⟨e, rfl⟩ : ∃ e, d = e + 1 := ⟨d - 1, by omega⟩
  rw [qX1_cut ho, eX1_cut_0 ho, h]
  obtain rfl | rfl | rfl | rfl | rfl : s = -1 ∨ s = 0 ∨ s = 1 ∨ s = 2 ∨ s = 3 := by omega
  · rw [show ztb (zi (-1)).toInt 0 [1, 2, 3] 4 = 4 by decide, eX1_cut_4 ho]
    rfl
  · rw [show ztb (zi 0).toInt 0 [1, 2, 3] 4 = 1 by decide, eX1_cut_1 ho]
    rfl
  · rw [show ztb (zi 1).toInt 0 [1, 2, 3] 4 = 2 by decide, eX1_cut_2 ho]
    rfl
  · rw [show ztb (zi 2).toInt 0 [1, 2, 3] 4 = 3 by decide, eX1_cut_3 ho]
    rfl
  · rw [show ztb (zi 3).toInt 0 [1, 2, 3] 4 = 4 by decide, eX1_cut_4 ho]
    rfl
theorem mCut (hd : 1 ≤ d) {s : Int} (bs : -2147483648 ≤ s ∧ s < 2147483648) {v : Int64} : zCd zT d 360 [.long (v), .int (zi s)] (zm L I J r) = some (some (.long (yCut s v)), (zm L I J r)) := by
  obtain ⟨e, rfl⟩ : ∃ e, d = e + 1 := ⟨d - 1, by omega⟩
  have q0 : zi s = (0 : Int32) ↔ s = 0 := zi_eq (y := 0) bs (by decide)
  have q1 : zi s = (1 : Int32) ↔ s = 1 := zi_eq (y := 1) bs (by decide)
  have q2 : zi s = (2 : Int32) ↔ s = 2 := zi_eq (y := 2) bs (by decide)
  rw [qX12_cut, eX12_cut_0]
  unfold yCut
  by_cases h0 : s = 0
  · rw [if_pos (q0.mpr h0), eX12_cut_4, if_pos h0]
  · rw [if_neg (fun w => h0 (q0.mp w)), if_neg h0, eX12_cut_1]
    by_cases h1 : s = 1
    · rw [if_pos (q1.mpr h1), eX12_cut_4, if_pos h1]
    · rw [if_neg (fun w => h1 (q1.mp w)), if_neg h1, eX12_cut_2]
      by_cases h2 : s = 2
      · rw [if_pos (q2.mpr h2), eX12_cut_4, if_pos h2]
      · rw [if_neg (fun w => h2 (q2.mp w)), if_neg h2, eX12_cut_3, eX12_cut_4]
theorem cPut (hd : 2 ≤ d) {o : Nat} (ho : o ∈ zRows) {s n : Int} (bs : -1 ≤ s ∧ s ≤ 3) (h : I o 1 = zi s) (h2 : I o 2 = zi n) {k : Nat} (hk : (k : Int) < n) (hn : n ≤ 60) {v : Int64} : zCd zT d 10 [.ref o, .int (zi (k : Int)), .long (v)] (zm L I J r) = some (some (.long (yCut s v)), (zm L I (zuL J (o + 1) k (yCut s v)) r)) := by
  obtain ⟨e, rfl⟩ : ∃ e, d = e + 1 := ⟨d - 1, by omega⟩
  rw [qX1_put ho, eX1_put_0 ho, h2, if_neg (show ¬ zi (k : Int) < 0 by rw [show (0 : Int32) = zi 0 from rfl, zi_lt (by omega) (by decide)]; omega), if_neg (show ¬ zi n ≤ zi (k : Int) by rw [zi_le (by omega) (by omega)]; omega), if_pos (show zi (k : Int) < 60 by rw [show (60 : Int32) = zi 60 from rfl, zi_lt (by omega) (by decide)]; omega), eX1_put_2 ho, cCut (d := e) (by omega) ho bs h, zbL_s, eX1_put_3 ho, zin_t (by omega) (by omega), zgd_t, zgd_t, zi_cl (by omega), Int.toNat_natCast, zuL_y ⟨rfl, rfl⟩]
end
theorem yRw_s {I : Nat → Nat → Int32} {J : Nat → Nat → Int64} (h : zVr I J) {i : Nat} (hi : i < 4) : ∃ s n : Int, (-1 ≤ s ∧ s ≤ 3) ∧ (0 ≤ n ∧ n ≤ 60) ∧ I (108 + 2 * i) 1 = zi s ∧ I (108 + 2 * i) 2 = zi n ∧ I 145 i = zi s ∧ I 146 i = zi n ∧ ∀ k : Nat, (k : Int) < n → J (109 + 2 * i) k = J 147 (60 * i + k) := by
  obtain ⟨x1, x2, s, n, x3, x4, x5, x6, x7, x8, x9⟩ := h i hi
  exact ⟨s, n, ⟨x5, x6⟩, ⟨x7, x8⟩, x1.trans x3, x2.trans x4, x3, x4, x9⟩
theorem yRw_p {I I2 : Nat → Nat → Int32} {J : Nat → Nat → Int64} (h : zVr I J) {i k : Nat} (hi : i < 4) (hk : k < 60) (v : Int64) (hI : ∀ o, 108 ≤ o → o ≤ 146 → o ≠ 130 → I2 o = I o) : zVr I2 (zuL (zuL J (108 + 2 * i + 1) k v) 147 (60 * i + k) v) := by
  intro j hj
  obtain ⟨x1, x2, s, n, x3, x4, x5, x6, x7, x8, x9⟩ := h j hj
  refine ⟨?_, ?_, s, n, ?_, ?_, x5, x6, x7, x8, fun p hp => ?_⟩
  · rw [hI _ (by omega) (by omega) (by omega), hI _ (by omega) (by omega) (by omega)]
    exact x1
  · rw [hI _ (by omega) (by omega) (by omega), hI _ (by omega) (by omega) (by omega)]
    exact x2
  · rw [hI _ (by omega) (by omega) (by omega)]
    exact x3
  · rw [hI _ (by omega) (by omega) (by omega)]
    exact x4
  · rw [zuL_n (o' := 109 + 2 * j) (by omega)]
    by_cases e : j = i ∧ p = k
    · rw [zuL_y (by omega), zuL_y (by omega)]
    · rw [zuL_n (by omega), zuL_n (by omega), zuL_n (by omega)]
      exact x9 p hp
theorem oWrite (a b : Int32) (v : Int64) : zOk 212 362 [.int a, .int b, .long v] := by
  intro L c r I J y z0 z1 hc hr hv
  obtain ⟨a, rfl, ba⟩ := zi_of a
  obtain ⟨b, rfl, bb⟩ := zi_of b
  cases h0 : zbo a 0 3
  · have g0 := zbo_f h0
    obtain ⟨i, rfl⟩ : ∃ i : Nat, a = i := ⟨a.toNat, by omega⟩
    have hi : i < 4 := by omega
    have hg : (decide (16 ≤ 108 + 2 * i) && zin (zi (i : Int)) 4) = true := by
      rw [zin_t (by omega) (by omega), Bool.and_true]
      exact decide_eq_true (by omega)
    obtain ⟨s, n, bs, bn, x1, x2, x3, x4, x5⟩ := yRw_s hv.2.2.2.2.2.1 hi
    have cm := cMiss (d := 59) (L := L) (J := J) (r := r) (by omega) (yRw_m hi) (show -2147483648 ≤ s ∧ s < 2147483648 by omega) x1
    have cs := cSize (d := 59) (L := L) (J := J) (r := r) (by omega) (yRw_m hi) x2
    have y3 : zu I 130 0 (zi 0) 145 i = zi s := by rw [zu_n (by omega)]; exact x3
    have y4 : zu I 130 0 (zi 0) 146 i = zi n := by rw [zu_n (by omega)]; exact x4
    have kn : zi n - (1 : Int32) = zi (n - 1) := zi_sub n 1
    have kt : (zi (n - 1)).toInt64.toInt = n - 1 := by rw [Int32.toInt_toInt64, zi_val (by omega)]
    have q1 : zi s = (-1 : Int32) ↔ s = -1 := zi_m1 (by omega)
    by_cases h1 : s = -1
    · refine zGo_0 hr hv (.long (-6)) ?_ ?_
      · rw [decide_eq_true h1] at cm
        simp (disch := omega) only [qX11_write, eX11_write_0, eX11_write_1, eX11_write_2, eX11_write_3, eX11_write_4, eX11_write_5, eX11_write_6, eX11_write_7, eX11_write_8, cNoRow, h0, hg, yRw_n hi, cm, if_true, if_false, zbI_s, zbL_s, zbV_s, zgd_t, zb1_t, zb1_f, zb1_01, zz_0, zz_1, zi_lit, zi_add, zi_sub, zi_mul, zi_neg, zi_z0]
      · simp (disch := omega) only [qX12_write, eX12_write_0, eX12_write_1, eX12_write_2, eX12_write_3, eX12_write_4, eX12_write_5, eX12_write_6, mWithin, show (0 : Int64).toInt = 0 from rfl, show (3 : Int64).toInt = 3 from rfl, h0, y3, zi_eq, h1, Bool.not_false, Bool.not_true, yI1, if_true, if_false, zin_t, zi_cl, Int.toNat_natCast, zbI_s, zbL_s, zbV_s, zgd_t, zb1_t, zb1_f, zb1_01, zz_0, zz_1, zi_lit, zi_add, zi_sub, zi_mul, zi_neg, zi_z0]
    · rw [decide_eq_false h1] at cm
      cases h2 : zbo b 0 (n - 1)
      · have g2 := zbo_f h2
        obtain ⟨k, rfl⟩ : ∃ k : Nat, b = k := ⟨b.toNat, by omega⟩
        have cp := cPut (d := 59) (L := L) (J := J) (r := r) (v := v) (by omega) (yRw_m hi) bs x1 x2 (k := k) (by omega) bn.2
        have mc := mCut (d := 59) (L := L) (I := zu I 130 0 (zi 0)) (J := zuL J (108 + 2 * i + 1) k (yCut s v)) (r := r) (s := s) (v := v) (by omega) (by omega)
        have kT : (60 * (i : Int) + (k : Int)).toNat = 60 * i + k := by omega
        refine ⟨.long (yCut s v), I, zuL J (108 + 2 * i + 1) k (yCut s v), r, zu I 130 0 (zi 0), zuL (zuL J (108 + 2 * i + 1) k (yCut s v)) 147 (60 * i + k) (yCut s v), r, y, z0, z1, ?_, ?_, hr, zV_row hv (fun o k x1 x2 x3 x4 _ => ?_) (fun o x1 x2 => ?_) (yRw_p hv.2.2.2.2.2.1 hi (by omega) _ fun o _ _ q => ?_)⟩
        · simp (disch := omega) only [qX11_write, eX11_write_0, eX11_write_1, eX11_write_2, eX11_write_3, eX11_write_4, eX11_write_5, eX11_write_6, eX11_write_7, eX11_write_8, cNoRow, h0, hg, yRw_n hi, cm, cs, kn, cOut, h2, cp, if_true, if_false, zbI_s, zbL_s, zbV_s, zgd_t, zb1_t, zb1_f, zb1_01, zz_0, zz_1, zi_lit, zi_add, zi_sub, zi_mul, zi_neg, zi_z0]
        · simp (disch := omega) only [qX12_write, eX12_write_0, eX12_write_1, eX12_write_2, eX12_write_3, eX12_write_4, eX12_write_5, eX12_write_6, mWithin, show (0 : Int64).toInt = 0 from rfl, show (3 : Int64).toInt = 3 from rfl, h0, y3, y4, zi_eq, h1, kn, kt, h2, mc, kT, zuL_y, and_self, Bool.not_false, Bool.not_true, yI1, if_true, if_false, zin_t, zi_cl, Int.toNat_natCast, zbI_s, zbL_s, zbV_s, zgd_t, zb1_t, zb1_f, zb1_01, zz_0, zz_1, zi_lit, zi_add, zi_sub, zi_mul, zi_neg, zi_z0]
        · rw [zu_n x4]
        · rw [show zuL (zuL J (108 + 2 * i + 1) k (yCut s v)) 147 (60 * i + k) (yCut s v) o = J o from funext fun p => by rw [zuL_n (by omega), zuL_n (by omega)]]
        · exact zu_o q
      · refine zGo_0 hr hv (.long (-7)) ?_ ?_
        · simp (disch := omega) only [qX11_write, eX11_write_0, eX11_write_1, eX11_write_2, eX11_write_3, eX11_write_4, eX11_write_5, eX11_write_6, eX11_write_7, eX11_write_8, cNoRow, h0, hg, yRw_n hi, cm, cs, kn, cOut, h2, if_true, if_false, zbI_s, zbL_s, zbV_s, zgd_t, zb1_t, zb1_f, zb1_01, zz_0, zz_1, zi_lit, zi_add, zi_sub, zi_mul, zi_neg, zi_z0]
        · simp (disch := omega) only [qX12_write, eX12_write_0, eX12_write_1, eX12_write_2, eX12_write_3, eX12_write_4, eX12_write_5, eX12_write_6, mWithin, show (0 : Int64).toInt = 0 from rfl, show (3 : Int64).toInt = 3 from rfl, h0, y3, y4, zi_eq, h1, kn, kt, h2, Bool.not_false, Bool.not_true, yI1, if_true, if_false, zin_t, zi_cl, Int.toNat_natCast, zbI_s, zbL_s, zbV_s, zgd_t, zb1_t, zb1_f, zb1_01, zz_0, zz_1, zi_lit, zi_add, zi_sub, zi_mul, zi_neg, zi_z0]
  · refine zGo_0 hr hv (.long (-2)) ?_ ?_
    · simp (disch := omega) only [qX11_write, eX11_write_0, eX11_write_1, cNoRow, h0, if_true, if_false, zbI_s, zbL_s, zbV_s, zgd_t, zb1_t, zb1_f, zb1_01, zz_0, zz_1, zi_lit, zi_add, zi_sub, zi_mul, zi_neg, zi_z0]
    · simp (disch := omega) only [qX12_write, eX12_write_0, eX12_write_1, mWithin, show (0 : Int64).toInt = 0 from rfl, show (3 : Int64).toInt = 3 from rfl, h0, Bool.not_false, Bool.not_true, if_true, if_false, zbI_s, zbL_s, zbV_s, zgd_t, zb1_t, zb1_f, zb1_01, zz_0, zz_1, zi_lit, zi_add, zi_sub, zi_mul, zi_neg, zi_z0]
