theorem oOperator (a b p : Int32) : zOk 201 351 [.int a, .int b, .int p] := by
  intro L c r I J y z0 z1 hc hr hv
  obtain ⟨a, rfl, ba⟩ := zi_of a
  obtain ⟨b, rfl, bb⟩ := zi_of b
  obtain ⟨p, rfl, bp⟩ := zi_of p
  have hb : cTb 53 7 I (y.2.2.1 7) := hv.1.2.2.1 7 (by decide)
  have hw := hv.2.2.1.2.2.1 7 (by decide)
  have hn : I 131 856 = zi (y.2.2.1 7).1 := (zV_mt hv (q := 7) (by decide)).1
  have hw1 : (y.2.2.1 7).1 ≤ 8 := hw.1
  by_cases h : zbo a 0 63 = false ∧ zbo b 0 23 = false ∧ zbo p b 23 = false
  · obtain ⟨h1, h2, h3⟩ := h
    have g1 := zbo_f h1
    have g2 := zbo_f h2
    have g3 := zbo_f h3
    have h4 : zbo p 0 23 = false := by
      unfold zbo
      exact decide_eq_false (by omega)
    have cA := cAddOr (d := 59) (L := L) (r := r) (J := J) (by decide) (show 7 < 8 by decide) hb hw.1 (zi (-4)) a b p
    by_cases h9 : (y.2.2.1 7).1 = 8
    · refine zGo_0 hr hv (.int (zi (-4))) ?_ ?_
      · have k : zCd zT 59 67 [.ref 53, .int (zi (-4)), .int (zi a), .int (zi b), .int (zi p)] (zm L I J r) = _ := cA.1 h9
        simp (disch := omega) only [qX11_operator, eX11_operator_0, eX11_operator_1, eX11_operator_2, eX11_operator_3, eX11_operator_4, eX11_operator_5, eX11_operator_6, qX11_badHour, eX11_badHour_0, eX11_badHour_1, cOut, h1, h2, h4, zi_le, if_pos, if_true, if_false, zbI_s, zbL_s, zbV_s, zgd_t, zb1_t, zb1_f, zb1_01, zz_0, zz_1, zi_lit, zi_add, zi_sub, zi_mul, zi_neg, zi_z0, k]
      · simp (disch := omega) only [qX12_operator, eX12_operator_0, eX12_operator_1, eX12_operator_2, eX12_operator_3, eX12_operator_4, eX12_operator_5, eX12_operator_6, mWithin, show (0 : Int64).toInt = 0 from rfl, show (63 : Int64).toInt = 63 from rfl, show (23 : Int64).toInt = 23 from rfl, h1, h2, h3, y64, Bool.not_false, if_true, if_false, zu_n, hn, h9, zbI_s, zbL_s, zbV_s, zgd_t, zb1_t, zb1_f, zb1_01, zz_0, zz_1, zi_lit, zi_add, zi_sub, zi_mul, zi_neg, zi_eq, if_pos, if_neg, zi_z0]
    · have hlt : (y.2.2.1 7).1 < 8 := by omega
      refine zGo_t (q := 7) (vv := fun f => if f = 0 then a else if f = 1 then b else if f = 2 then p else 0) (by decide) hr hv hlt (fun _ => by decide) (fun f hf => ?_) (fun h => absurd h (by decide)) (.int (zi (y.2.2.1 7).1)) ?_ (fun I1 i1 i2 => ?_)
      · obtain rfl | rfl | rfl : f = 0 ∨ f = 1 ∨ f = 2 := by have : f < 3 := hf; omega
        · exact g1
        · exact g2
        · show (0 : Int) ≤ p ∧ p ≤ 23
          omega
      · obtain ⟨I1, c1, c2, c3⟩ := cA.2 hlt
        have k : zCd zT 59 67 [.ref 53, .int (zi (-4)), .int (zi a), .int (zi b), .int (zi p)] (zm L I J r) = _ := c1
        refine ⟨I1, ?_, c2, c3⟩
        simp (disch := omega) only [qX11_operator, eX11_operator_0, eX11_operator_1, eX11_operator_2, eX11_operator_3, eX11_operator_4, eX11_operator_5, eX11_operator_6, qX11_badHour, eX11_badHour_0, eX11_badHour_1, cOut, h1, h2, h4, zi_le, if_pos, if_true, if_false, zbI_s, zbL_s, zbV_s, zgd_t, zb1_t, zb1_f, zb1_01, zz_0, zz_1, zi_lit, zi_add, zi_sub, zi_mul, zi_neg, zi_z0, k]
      · have hn1 : I1 131 856 = zi (y.2.2.1 7).1 := by rw [i1, hn]
        generalize (y.2.2.1 7).1 = n at *
        refine ⟨zu (zu (zu (zu (zu I1 130 0 (zi 0)) 131 (857 + n) (zi a)) 131 (865 + n) (zi b)) 131 (873 + n) (zi p)) 131 856 (zi ((n + 1 : Nat) : Int)), ?_, fun o k x1 x2 => ?_, ?_, fun f hf => ?_, fun k x1 x2 => ?_⟩
        · simp (disch := omega) only [qX12_operator, eX12_operator_0, eX12_operator_1, eX12_operator_2, eX12_operator_3, eX12_operator_4, eX12_operator_5, eX12_operator_6, mWithin, show (0 : Int64).toInt = 0 from rfl, show (63 : Int64).toInt = 63 from rfl, show (23 : Int64).toInt = 23 from rfl, h1, h2, h3, y64, Bool.not_false, if_true, if_false, zu_n, zu_y, hn1, zbI_s, zbL_s, zbV_s, zgd_t, zb1_t, zb1_f, zb1_01, zz_0, zz_1, zi_lit, zi_add, zi_sub, zi_mul, zi_neg, zi_eq, if_pos, if_neg, zi_z0, zin_t, zi_cl, show (857 + (n : Int)).toNat = 857 + n by omega, show (865 + (n : Int)).toNat = 865 + n by omega, show (873 + (n : Int)).toNat = 873 + n by omega]
          rfl
        · simp (disch := omega) only [zu_n]
        · exact zu_y ⟨rfl, rfl⟩
        · obtain rfl | rfl | rfl : f = 0 ∨ f = 1 ∨ f = 2 := by have : f < 3 := hf; omega
          · show zu _ 131 856 _ 131 (857 + n) = zi a
            simp (disch := omega) only [zu_n, zu_y]
          · show zu _ 131 856 _ 131 (865 + n) = zi b
            simp (disch := omega) only [zu_n, zu_y]
          · show zu _ 131 856 _ 131 (873 + n) = zi p
            simp (disch := omega) only [zu_n, zu_y]
        · have e0 : k ≠ 856 := x1
          have e1 : k ≠ 857 + n := x2 0 (by decide)
          have e2 : k ≠ 865 + n := x2 1 (by decide)
          have e3 : k ≠ 873 + n := x2 2 (by decide)
          simp (disch := omega) only [zu_n]
  · refine zGo_0 hr hv (.int (zi (-3))) ?_ ?_
    · cases h1 : zbo a 0 63 <;> cases h2 : zbo b 0 23 <;> cases h4 : zbo p 0 23
      · have hlt : p < b := by
          have g2 := zbo_f h2
          have g4 := zbo_f h4
          refine Decidable.by_contra fun w => h ⟨h1, h2, ?_⟩
          unfold zbo
          exact decide_eq_false (by omega)
        simp (disch := omega) only [qX11_operator, eX11_operator_0, eX11_operator_1, eX11_operator_2, eX11_operator_3, eX11_operator_4, eX11_operator_5, eX11_operator_6, qX11_badHour, eX11_badHour_0, eX11_badHour_1, cOut, h1, h2, h4, zi_le, if_neg, if_true, if_false, zbI_s, zbL_s, zbV_s, zgd_t, zb1_t, zb1_f, zb1_01, zz_0, zz_1, zi_lit, zi_add, zi_sub, zi_mul, zi_neg, zi_z0]
      all_goals simp (disch := omega) only [qX11_operator, eX11_operator_0, eX11_operator_1, eX11_operator_2, eX11_operator_3, eX11_operator_4, eX11_operator_5, eX11_operator_6, qX11_badHour, eX11_badHour_0, eX11_badHour_1, cOut, h1, h2, h4, if_true, if_false, zbI_s, zbL_s, zbV_s, zgd_t, zb1_t, zb1_f, zb1_01, zz_0, zz_1, zi_lit, zi_add, zi_sub, zi_mul, zi_neg, zi_z0]
    · cases h1 : zbo a 0 63 <;> cases h2 : zbo b 0 23 <;> cases h3 : zbo p b 23
      · exact absurd ⟨h1, h2, h3⟩ h
      all_goals simp (disch := omega) only [qX12_operator, eX12_operator_0, eX12_operator_1, eX12_operator_2, eX12_operator_3, eX12_operator_4, eX12_operator_5, eX12_operator_6, mWithin, show (0 : Int64).toInt = 0 from rfl, show (63 : Int64).toInt = 63 from rfl, show (23 : Int64).toInt = 23 from rfl, h1, h2, h3, y64, Bool.not_false, Bool.not_true, if_true, if_false, zbI_s, zbL_s, zbV_s, zgd_t, zb1_t, zb1_f, zb1_01, zz_0, zz_1, zi_lit, zi_add, zi_sub, zi_mul, zi_neg, zi_z0]
/-! STAIRS -/
section
variable {d L r : Nat} {I : Nat → Nat → Int32} {J : Nat → Nat → Int64}
variable {t : zDy}
theorem cFind (hd : 3 ≤ d) {o q : Nat} (ho : o = 39 + 2 * q) (hq : q < 8) {b : yTb} (h : cTb o q I b) {n m c : Nat} (hw : wTb n m c q b) {v : Int} (hv : -2147483648 ≤ v ∧ v < 2147483648) (hr : ∀ k, k < b.1 → -2147483648 ≤ b.2 k 0 ∧ b.2 k 0 < 2147483648) : zCd zT d 71 [.ref o, .int 0, .int (zi v)] (zm L I J r) = some (some (.int (if zFs (fun k => decide (b.2 k 0 = v)) b.1 < b.1 then zi (zFs (fun k => decide (b.2 k 0 = v)) b.1) else -1)), (zm L I J r)) := by
  obtain ⟨e, rfl⟩ : ∃ e, d = e + 1 := ⟨d - 1, by omega⟩
  have hm : b.1 ≤ zMs q := hw.1
  have m1 := zMs_b q
  have m2 := zWd_b q
  have hoT : o ∈ zTabs := by rw [ho]; exact zTb_m hq
  have c1 := zForT (n := b.1) (stop := fun k => decide (b.2 k 0 = v)) (G := fun k => zX 0 (zCd zT e) zc_X7_find 1 [some (.ref o), some (.int 0), some (.int (zi v)), some (.int (zi ((k : Nat) : Int)))] [] (zm L I J r)) (E := fun k => some (some (.int (zi ((k : Nat) : Int))), (zm L I J r))) (fun k hk => by
    have g0 : zCd zT e 68 [.ref o, .int (zi (k : Int)), .int 0] (zm L I J r) = some (some (.int (zi (b.2 k 0))), (zm L I J r)) := cGetO (by omega) ho hq h hw.1 (k := (k : Int)) (f := 0) (by omega) (by omega)
    have k2 : zi ((k : Nat) : Int) + (1 : Int32) = zi ((k + 1 : Nat) : Int) := zi_add _ 1
    have e0 : zi (b.2 k 0) = zi v ↔ b.2 k 0 = v := zi_eq (hr k hk) hv
    rw [eX7_find_1 hoT, h.2.2.1, if_neg (show ¬ zi (b.1 : Int) ≤ zi ((k : Nat) : Int) by rw [zi_le (by omega) (by omega)]; omega), g0, zbI_s, eX7_find_2 hoT, eX7_find_3 hoT, k2]
    simp only [e0, decide_eq_true_eq])
  have z0 : zX 0 (zCd zT e) zc_X7_find 1 [some (.ref o), some (.int 0), some (.int (zi v)), some (.int 0)] [] (zm L I J r) = _ := c1
  rw [qX7_find hoT, eX7_find_0 hoT, z0]
  by_cases q1 : zFs (fun k => decide (b.2 k 0 = v)) b.1 < b.1
  · rw [if_pos q1, if_pos q1]
  · rw [if_neg q1, if_neg q1, eX7_find_1 hoT, h.2.2.1, if_pos (Int32.le_refl _), eX7_find_4 hoT]
end
