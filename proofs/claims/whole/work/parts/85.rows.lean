/-! ROWS -/
theorem zV_row {c : Nat} {I I2 : Nat → Nat → Int32} {J J2 : Nat → Nat → Int64} {y : zFd} {z0 z1 : Bool × zFd} (hv : zV c I J y z0 z1) (h1 : ∀ o k, ¬ (108 ≤ o ∧ o ≤ 115) → o ≠ 145 → o ≠ 146 → ¬ (o = 130 ∧ k = 0) → zPs o k = true ∨ o = 120 → I2 o k = I o k) (h2 : ∀ o, ¬ (109 ≤ o ∧ o ≤ 115) → o ≠ 147 → J2 o = J o) (hr : zVr I2 J2) : zV (c + 1) I2 J2 y z0 z1 := by
  obtain ⟨a1, a2, a3, a4, a5, a6, a7, a8, a9, a10⟩ := hv
  have e1 : ∀ o, 31 ≤ o → o < 108 → I2 o = I o := fun o x1 x2 => funext fun k => h1 o k (by omega) (by omega) (by omega) (by omega) (Or.inl (zPs_o (by omega)))
  have e131 : ∀ k, I2 131 k = I 131 k := fun k => h1 131 k (by decide) (by decide) (by decide) (by omega) (Or.inl rfl)
  have vm : ∀ D O j o z, (26 ≤ D ∧ D ≤ 52) → (56 ≤ o ∧ o < 108) → zVm c D O I J j o z → zVm (c + 1) D O I2 J2 j o z := by
    intro D O j o z hD ho hz
    refine ⟨by rw [e1 o (by omega) (by omega)]; exact hz.1, by rw [h1 133 j (by decide) (by decide) (by decide) (by omega) (Or.inl rfl)]; exact hz.2.1, fun p hp => by rw [e1 _ (by omega) (by omega)]; exact hz.2.2.1 p hp, fun w => ?_⟩
    obtain ⟨x1, x2, x3⟩ := hz.2.2.2 w
    exact ⟨cDay_fr (fun p _ _ => e1 _ (by omega) (by omega)) (fun p _ _ => h2 _ (by omega) (by omega)) x1, mDay_fr x3 (fun k _ => e131 _) x2, wDay_le (Nat.le_succ c) x3⟩
  refine ⟨cDay_fr (fun o _ _ => e1 _ (by omega) (by omega)) (fun o _ _ => h2 _ (by omega) (by omega)) a1, mDay_fr a3 (fun k _ => e131 _) a2, wDay_le (Nat.le_succ c) a3, vm _ _ _ _ _ (by omega) (by omega) a4, vm _ _ _ _ _ (by omega) (by omega) a5, hr, ?_, fun k hk => ?_, by rw [h1 130 25 (by decide) (by decide) (by decide) (by omega) (Or.inl rfl)]; exact a9, ?_⟩
  · unfold zVt
    rw [h1 17 4 (by decide) (by decide) (by decide) (by omega) (Or.inl rfl), h1 17 11 (by decide) (by decide) (by decide) (by omega) (Or.inl rfl), h1 17 12 (by decide) (by decide) (by decide) (by omega) (Or.inl rfl), h1 130 5 (by decide) (by decide) (by decide) (by omega) (Or.inl rfl), h1 130 15 (by decide) (by decide) (by decide) (by omega) (Or.inl rfl), h1 130 16 (by decide) (by decide) (by decide) (by omega) (Or.inl rfl)]
    simp only [show ∀ k, I2 18 k = I 18 k from fun k => h1 18 k (by decide) (by decide) (by decide) (by omega) (Or.inl rfl), show ∀ k, I2 134 k = I 134 k from fun k => h1 134 k (by decide) (by decide) (by decide) (by omega) (Or.inl rfl)]
    exact a7
  · rw [h1 119 k (by decide) (by decide) (by decide) (by omega) (Or.inl rfl)]
    exact a8 k hk
  · unfold zCa
    simp only [show ∀ k, I2 120 k = I 120 k from fun k => h1 120 k (by decide) (by decide) (by decide) (by omega) (Or.inr rfl)]
    exact a10
theorem yRw_g {L r : Nat} {I : Nat → Nat → Int32} {J : Nat → Nat → Int64} {i : Nat} (hi : i < 4) : zgr (zm L I J r) 107 i = 108 + 2 * i := by
  obtain rfl | rfl | rfl | rfl : i = 0 ∨ i = 1 ∨ i = 2 ∨ i = 3 := by omega
  all_goals rfl
theorem yRw_m {i : Nat} (hi : i < 4) : 108 + 2 * i ∈ zRows := by
  obtain rfl | rfl | rfl | rfl : i = 0 ∨ i = 1 ∨ i = 2 ∨ i = 3 := by omega
  all_goals decide
theorem yRw_f {i : Nat} (hi : i < 4) : 108 + 2 * i + 1 ∈ yFlJ := by
  obtain rfl | rfl | rfl | rfl : i = 0 ∨ i = 1 ∨ i = 2 ∨ i = 3 := by omega
  all_goals decide
theorem yRw_l {L r : Nat} {I : Nat → Nat → Int32} {J : Nat → Nat → Int64} {i : Nat} (hi : i < 4) : zln (zm L I J r) (108 + 2 * i + 1) = 60 := by
  obtain rfl | rfl | rfl | rfl : i = 0 ∨ i = 1 ∨ i = 2 ∨ i = 3 := by omega
  all_goals rfl
theorem yRw_t {L r : Nat} {I : Nat → Nat → Int32} {J : Nat → Nat → Int64} {i : Nat} (hi : i < 4) : (decide (16 ≤ zgr (zm L I J r) 107 (zi (i : Int)).toNatClampNeg) && zin (zi (i : Int)) 4) = true := by
  rw [zi_cl (by omega), Int.toNat_natCast, yRw_g hi, zin_t (by omega) (by omega), Bool.and_true]
  exact decide_eq_true (by omega)
theorem yRw_n {L r : Nat} {I : Nat → Nat → Int32} {J : Nat → Nat → Int64} {i : Nat} (hi : i < 4) : zgr (zm L I J r) 107 (zi (i : Int)).toNatClampNeg = 108 + 2 * i := by
  rw [zi_cl (by omega), Int.toNat_natCast, yRw_g hi]
section
variable {d L r : Nat} {I : Nat → Nat → Int32} {J : Nat → Nat → Int64}
theorem cNoRow (hd : 2 ≤ d) {x : Int} (bx : -2147483648 ≤ x ∧ x < 2147483648) : zCd zT d 224 [.ref 16, .int (zi x)] (zm L I J r) = some (some (.int (zb1 (zbo x 0 3))), (zm L I J r)) := by
  obtain ⟨e, rfl⟩ : ∃ e, d = e + 1 := ⟨d - 1, by omega⟩
  have k1 : zCd zT e 225 [.int (zi x), .int 0, .int (((4 : Int32) - (1 : Int32)))] (zm L I J r) = some (some (.int (zb1 (zbo x 0 3))), (zm L I J r)) := cOut (lo := 0) (hi := 3) (by omega) bx (by decide) (by decide)
  rw [qX11_noSuchRow, eX11_noSuchRow_0, k1, zbI_s, eX11_noSuchRow_1, zb1_01, zgd_t]
theorem cMake (hd : 2 ≤ d) {i : Nat} (hi : i < 4) (s n : Int32) : zCd zT d 8 [.ref (108 + 2 * i), .int s, .int n] (zm L I J r) = some (none, (zm L (zu (zu I (108 + 2 * i) 1 s) (108 + 2 * i) 2 n) (zfJ J (108 + 2 * i + 1) 60 0) r)) := by
  obtain ⟨e, rfl⟩ : ∃ e, d = e + 1 := ⟨d - 1, by omega⟩
  have ho := yRw_m hi
  have fl := cFillJ (d := e) (L := L) (r := r) (I := (zu (zu I (108 + 2 * i) 1 s) (108 + 2 * i) 2 n)) (J := J) (by omega) (yRw_f hi) (yRw_l hi) (by decide) 0
  rw [qX1_make ho, eX1_make_0 ho, fl, zbV_s, eX1_make_1 ho]
theorem mZero {a b : Int32} {i n : Nat} (hi : i < 4) (hn : n ≤ 60) : ∃ J', zX 0 (zCd zT d) zc_X12_store 7 [some (.ref 130), some (.int (zi (i : Int))), some (.int a), some (.int (zi (n : Int))), some (.int 0)] [] (zm L I J r) = some (some (.int 0), (zm L I J' r)) ∧ (∀ o, o ≠ 147 → J' o = J o) ∧ ∀ k, J' 147 k = if 60 * i ≤ k ∧ k < 60 * i + n then 0 else J 147 k := by
  obtain ⟨J1, c1, p1, p2⟩ := zForI (n := n) (G := fun k J1 => zX 0 (zCd zT d) zc_X12_store 7 [some (.ref 130), some (.int (zi (i : Int))), some (.int a), some (.int (zi (n : Int))), some (.int (zi ((k : Nat) : Int)))] [] (zm L I J1 r)) (P := fun k J1 => (∀ o, o ≠ 147 → J1 o = J o) ∧ ∀ j, J1 147 j = if 60 * i ≤ j ∧ j < 60 * i + k then 0 else J 147 j) (fun k J1 hk hP => by
    have k1 : zi ((k : Nat) : Int) + (1 : Int32) = zi ((k + 1 : Nat) : Int) := zi_add _ 1
    have k2 : (60 : Int32) * zi (i : Int) + zi ((k : Nat) : Int) = zi ((60 * i + k : Nat) : Int) := by rw [show (60 : Int32) = zi 60 from rfl, zi_mul, zi_add]; exact congrArg zi (by omega)
    refine ⟨zuL J1 147 (60 * i + k) 0, ?_, fun o ho => ?_, fun j => ?_⟩
    · rw [eX12_store_7, if_neg (show ¬ zi (n : Int) ≤ zi ((k : Nat) : Int) by rw [zi_le (by omega) (by omega)]; omega), k2, zin_t (by omega) (by omega), zgd_t, zi_cl (by omega), Int.toNat_natCast, k1]
    · rw [show zuL J1 147 (60 * i + k) 0 o = J1 o from funext fun j => if_neg (fun w => ho w.1)]
      exact hP.1 o ho
    · show (if 147 = 147 ∧ j = 60 * i + k then (0 : Int64) else J1 147 j) = _
      by_cases e : j = 60 * i + k
      · rw [if_pos ⟨rfl, e⟩, if_pos (by omega)]
      · rw [if_neg (fun w => e w.2), hP.2 j]
        by_cases e2 : 60 * i ≤ j ∧ j < 60 * i + k
        · rw [if_pos e2, if_pos (by omega)]
        · rw [if_neg e2, if_neg (by omega)]) J ⟨fun _ _ => rfl, fun j => by rw [if_neg (by omega)]⟩
  have z0 : zX 0 (zCd zT d) zc_X12_store 7 [some (.ref 130), some (.int (zi (i : Int))), some (.int a), some (.int (zi (n : Int))), some (.int 0)] [] (zm L I J r) = _ := c1
  refine ⟨J1, ?_, p1, p2⟩
  rw [z0, eX12_store_7, if_pos (Int32.le_refl _), eX12_store_8]
end
theorem oStore (a b p : Int32) : zOk 211 361 [.int a, .int b, .int p] := by
  intro L c r I J y z0 z1 hc hr hv
  obtain ⟨a, rfl, ba⟩ := zi_of a
  obtain ⟨b, rfl, bb⟩ := zi_of b
  obtain ⟨p, rfl, bp⟩ := zi_of p
  by_cases h : zbo a 0 3 = false ∧ zbo b 0 3 = false
  · obtain ⟨h0, h1⟩ := h
    cases h2 : zbo p 0 60
    · have g0 := zbo_f h0
      have g1 := zbo_f h1
      have g2 := zbo_f h2
      obtain ⟨i, rfl⟩ : ∃ i : Nat, a = i := ⟨a.toNat, by omega⟩
      obtain ⟨n, rfl⟩ : ∃ n : Nat, p = n := ⟨p.toNat, by omega⟩
      have hi : i < 4 := by omega
      have hg : (decide (16 ≤ 108 + 2 * i) && zin (zi (i : Int)) 4) = true := by
        rw [zin_t (by omega) (by omega), Bool.and_true]
        exact decide_eq_true (by omega)
      obtain ⟨J2, m1, m2, m3⟩ := mZero (d := 59) (L := L) (r := r) (I := zu (zu (zu (zu (zu I (108 + 2 * i) 1 (zi b)) (108 + 2 * i) 2 (zi n)) 130 0 (zi 0)) 145 i (zi b)) 146 i (zi n)) (J := zfJ J (108 + 2 * i + 1) 60 0) (a := zi b) (b := zi b) hi (show n ≤ 60 by omega)
      have m1' : zX 0 (zCd zT 59) zc_X12_store 7 [some (.ref 130), some (.int (zi (i : Int))), some (.int (zi b)), some (.int (zi (n : Int))), some (.int (zi 0))] [] (zm L (zu (zu (zu (zu (zu I (108 + 2 * i) 1 (zi b)) (108 + 2 * i) 2 (zi n)) 130 0 (zi 0)) 145 i (zi b)) 146 i (zi n)) (zfJ J (108 + 2 * i + 1) 60 0) r) = _ := m1
      refine ⟨.int (zi 0), zu (zu I (108 + 2 * i) 1 (zi b)) (108 + 2 * i) 2 (zi n), zfJ J (108 + 2 * i + 1) 60 0, r, zu (zu (zu (zu (zu I (108 + 2 * i) 1 (zi b)) (108 + 2 * i) 2 (zi n)) 130 0 (zi 0)) 145 i (zi b)) 146 i (zi n), J2, r, y, z0, z1, ?_, ?_, hr, zV_row hv (fun o k x1 x2 x3 x4 _ => ?_) (fun o x1 x2 => ?_) ?_⟩
      · simp (disch := omega) only [qX11_store, eX11_store_0, eX11_store_1, eX11_store_2, eX11_store_3, eX11_store_4, eX11_store_5, eX11_store_6, eX11_store_7, cNoRow, cOut, h0, h1, h2, if_true, if_false, hg, yRw_n hi, cMake (d := 59) (by decide) hi, zbI_s, zbL_s, zbV_s, zgd_t, zb1_t, zb1_f, zb1_01, zz_0, zz_1, zi_lit, zi_add, zi_sub, zi_mul, zi_neg, zi_z0]
      · simp (disch := omega) only [qX12_store, eX12_store_0, eX12_store_1, eX12_store_2, eX12_store_3, eX12_store_4, eX12_store_5, eX12_store_6, eX12_store_8, mWithin, show (0 : Int64).toInt = 0 from rfl, show (3 : Int64).toInt = 3 from rfl, show (60 : Int64).toInt = 60 from rfl, h0, h1, h2, Bool.not_false, if_true, if_false, zin_t, zi_cl, Int.toNat_natCast, m1', zbI_s, zbL_s, zbV_s, zgd_t, zb1_t, zb1_f, zb1_01, zz_0, zz_1, zi_lit, zi_add, zi_sub, zi_mul, zi_neg, zi_z0]
      · rw [zu_n (by omega), zu_n (by omega), zu_n x4, zu_n (by omega), zu_n (by omega)]
      · rw [m2 o x2, zfJ_o (by omega)]
      · intro j hj
        by_cases e : j = i
        · subst e
          refine ⟨?_, ?_, b, n, ?_, ?_, by omega, by omega, by omega, by omega, fun k hk => ?_⟩
          · simp (disch := omega) only [zu_n, zu_y]
          · simp (disch := omega) only [zu_n, zu_y]
          · simp (disch := omega) only [zu_n, zu_y]
          · simp (disch := omega) only [zu_n, zu_y]
          · rw [m3, if_pos (by omega), m2 _ (by omega), show 109 + 2 * j = 108 + 2 * j + 1 by omega, zfJ_i (by omega)]
        · obtain ⟨x1, x2, s, n', x3, x4, x5, x6, x7, x8, x9⟩ := hv.2.2.2.2.2.1 j hj
          refine ⟨?_, ?_, s, n', ?_, ?_, x5, x6, x7, x8, fun k hk => ?_⟩
          · simp (disch := omega) only [zu_n]
            exact x1
          · simp (disch := omega) only [zu_n]
            exact x2
          · simp (disch := omega) only [zu_n]
            exact x3
          · simp (disch := omega) only [zu_n]
            exact x4
          · rw [m3, if_neg (by omega), m2 _ (by omega), zfJ_o (by omega), zfJ_o (by omega)]
            exact x9 k hk
    · refine zGo_0 hr hv (.int (zi (-3))) ?_ ?_
      · simp (disch := omega) only [qX11_store, eX11_store_0, eX11_store_1, eX11_store_2, eX11_store_3, eX11_store_4, eX11_store_5, cNoRow, cOut, h0, h1, h2, if_true, if_false, zbI_s, zbL_s, zbV_s, zgd_t, zb1_t, zb1_f, zb1_01, zz_0, zz_1, zi_lit, zi_add, zi_sub, zi_mul, zi_neg, zi_z0]
      · simp (disch := omega) only [qX12_store, eX12_store_0, eX12_store_1, eX12_store_2, eX12_store_3, eX12_store_4, eX12_store_5, mWithin, show (0 : Int64).toInt = 0 from rfl, show (3 : Int64).toInt = 3 from rfl, show (60 : Int64).toInt = 60 from rfl, h0, h1, h2, Bool.not_false, Bool.not_true, if_true, if_false, zbI_s, zbL_s, zbV_s, zgd_t, zb1_t, zb1_f, zb1_01, zz_0, zz_1, zi_lit, zi_add, zi_sub, zi_mul, zi_neg, zi_z0]
  · refine zGo_0 hr hv (.int (zi (-2))) ?_ ?_
    · cases h0 : zbo a 0 3 <;> cases h1 : zbo b 0 3
      · exact absurd ⟨h0, h1⟩ h
      all_goals simp (disch := omega) only [qX11_store, eX11_store_0, eX11_store_1, eX11_store_2, eX11_store_3, cNoRow, cOut, h0, h1, if_true, if_false, zbI_s, zbL_s, zbV_s, zgd_t, zb1_t, zb1_f, zb1_01, zz_0, zz_1, zi_lit, zi_add, zi_sub, zi_mul, zi_neg, zi_z0]
    · cases h0 : zbo a 0 3 <;> cases h1 : zbo b 0 3
      · exact absurd ⟨h0, h1⟩ h
      all_goals simp (disch := omega) only [qX12_store, eX12_store_0, eX12_store_1, eX12_store_2, eX12_store_3, mWithin, show (0 : Int64).toInt = 0 from rfl, show (3 : Int64).toInt = 3 from rfl, show (60 : Int64).toInt = 60 from rfl, h0, h1, Bool.not_false, Bool.not_true, if_true, if_false, zbI_s, zbL_s, zbV_s, zgd_t, zb1_t, zb1_f, zb1_01, zz_0, zz_1, zi_lit, zi_add, zi_sub, zi_mul, zi_neg, zi_z0]
