theorem z64 (n : Nat) (h : n < 9223372036854775808) : (OfNat.ofNat n : Int64).toInt = (OfNat.ofNat n : Int) := by
  show (Int64.ofNat n).toInt = (n : Int)
  exact Int64.toInt_ofNat_of_lt h
theorem zi_z0 : ¬ (zi 1 = zi 0) := by decide
theorem zz_0 : z01 (zi 0) = true := rfl
theorem zz_1 : z01 (zi 1) = true := rfl
theorem zu_n {I : Nat → Nat → Int32} {o k : Nat} {v : Int32} {a j : Nat} (h : ¬ (a = o ∧ j = k)) : zu I o k v a j = I a j := if_neg h
theorem zu_y {I : Nat → Nat → Int32} {o k : Nat} {v : Int32} {a j : Nat} (h : a = o ∧ j = k) : zu I o k v a j = v := if_pos h
theorem zt_n (n p : Nat) : ((OfNat.ofNat n : Int) + (p : Int)).toNat = OfNat.ofNat n + p := by
  show ((n : Int) + (p : Int)).toNat = n + p
  omega
section
variable {d L r : Nat} {I : Nat → Nat → Int32} {J : Nat → Nat → Int64}
theorem cAddOr (hd : 4 ≤ d) {q : Nat} (hq : q < 8) {b : yTb} (h : cTb (39 + 2 * q) q I b) (hb : b.1 ≤ zMs q) (w : Int32) (v0 v1 v2 : Int) : (b.1 = zMs q → zCd zT d 67 [.ref (39 + 2 * q), .int w, .int (zi v0), .int (zi v1), .int (zi v2)] (zm L I J r) = some (some (.int w), zm L I J r)) ∧ (b.1 < zMs q → ∃ I', zCd zT d 67 [.ref (39 + 2 * q), .int w, .int (zi v0), .int (zi v1), .int (zi v2)] (zm L I J r) = some (some (.int (zi b.1)), zm L I' J r) ∧ cTb (39 + 2 * q) q I' (zPu b fun f => if f = 0 then v0 else if f = 1 then v1 else if f = 2 then v2 else 0) ∧ ∀ o, o ≠ 39 + 2 * q → o ≠ 39 + 2 * q + 1 → I' o = I o) := by
  obtain ⟨e, rfl⟩ : ∃ e, d = e + 1 := ⟨d - 1, by omega⟩
  have ho := zTb_m hq
  constructor
  · intro g
    rw [qX7_addOr ho, eX7_addOr_0 ho, cFull (by omega) ho h hb, zbI_s, eX7_addOr_1 ho, decide_eq_true g, if_neg (show ¬ zb1 true = 0 by decide), eX7_addOr_3 ho]
  · intro g
    obtain ⟨I', c1, c2, c3⟩ := cAdd (d := e) (L := L) (r := r) (J := J) (by omega) hq h g v0 v1 v2 0
    have c1' : zCd zT e 66 [.ref (39 + 2 * q), .int (zi v0), .int (zi v1), .int (zi v2), .int (0 : Int32)] (zm L I J r) = _ := c1
    refine ⟨I', ?_, c2, c3⟩
    rw [qX7_addOr ho, eX7_addOr_0 ho, cFull (by omega) ho h hb, zbI_s, eX7_addOr_1 ho, decide_eq_false (show ¬ b.1 = zMs q by omega), if_pos (show zb1 false = 0 from rfl), eX7_addOr_2 ho, c1', zbI_s, eX7_addOr_3 ho]
end
theorem zGo_t {ca mo : Nat} {as : List Value} {L c r q : Nat} {I : Nat → Nat → Int32} {J : Nat → Nat → Int64} {y : zFd} {z0 z1 : Bool × zFd} {vv : Nat → Int} (hq : q < 8) (hr : zRr r) (hv : zV c I J y z0 z1) (hb : (y.2.2.1 q).1 < zMs q) (h0 : y.1.n = 0 → q ≠ 0 ∧ q ≠ 1 ∧ q ≠ 5 ∧ q ≠ 6) (hw : ∀ f, f < zWd q → zLo q f ≤ vv f ∧ vv f ≤ zHi y.1.n y.1.m (c + 1) q f) (h6 : q = 6 → ∀ k, k < (y.2.2.1 q).1 → (y.2.2.1 q).2 k 0 = vv 0) (val : Value) (C : ∃ I1, zCd zT 60 ca (.ref 16 :: as) (zm L I J r) = some (some val, zm L I1 J r) ∧ cTb (39 + 2 * q) q I1 (zPu (y.2.2.1 q) vv) ∧ ∀ o, o ≠ 39 + 2 * q → o ≠ 39 + 2 * q + 1 → I1 o = I o) (M : ∀ I1 : Nat → Nat → Int32, I1 131 = I 131 → I1 130 = I 130 → ∃ I2, zCd zT 60 mo (.ref 130 :: as) (zm L I1 J r) = some (some val, zm L I2 J r) ∧ (∀ o k, o ≠ 131 → ¬ (o = 130 ∧ k = 0) → I2 o k = I1 o k) ∧ I2 131 (zBs q) = zi (((y.2.2.1 q).1 + 1 : Nat) : Int) ∧ (∀ f, f < zWd q → I2 131 (zAd q f (y.2.2.1 q).1) = zi (vv f)) ∧ ∀ k, k ≠ zBs q → (∀ f, f < zWd q → k ≠ zAd q f (y.2.2.1 q).1) → I2 131 k = I1 131 k) : zGo ca mo as L c r I J := by
  obtain ⟨I1, c1, c2, c3⟩ := C
  have g1 : I1 131 = I 131 := c3 131 (by omega) (by omega)
  obtain ⟨I2, m1, m2, m3, m4, m5⟩ := M I1 g1 (c3 130 (by omega) (by omega))
  have hm := hv.2.1.2.2.1 q hq
  simp only [Nat.zero_add] at hm
  have hm1 : mTb q (I1 131) (y.2.2.1 q) := by rw [g1]; exact hm
  have hm2 : mTb q (I2 131) (zPu (y.2.2.1 q) vv) := mTb_pu hq hb hm1 h6 m3 m4 m5
  refine ⟨val, I1, J, r, I2, J, r, zYq y q (zPu (y.2.2.1 q) vv), z0, z1, c1, m1, hr, zV_tb hq hv c3 c2 m2 (fun k hk => m5 k (fun w => hk ?_) (fun f hf w => hk ?_)) hm2 (wTb_pu (wTb_le (Nat.le_succ c) (hv.2.2.1.2.2.1 q hq)) hb hw) h0⟩
  · rw [w]
    have := zAd_in (f := 0) hq (zWd_b q).1 hb
    omega
  · rw [w]
    have := zAd_in hq hf hb
    omega
theorem zV_mt {c : Nat} {I : Nat → Nat → Int32} {J : Nat → Nat → Int64} {y : zFd} {z0 z1 : Bool × zFd} (hv : zV c I J y z0 z1) {q : Nat} (hq : q < 8) : mTb q (I 131) (y.2.2.1 q) := by
  have := hv.2.1.2.2.1 q hq
  simp only [Nat.zero_add] at this
  exact this
theorem oTest (a b : Int32) : zOk 172 323 [.int a, .int b] := by
  intro L c r I J y z0 z1 hc hr hv
  obtain ⟨a, rfl, ba⟩ := zi_of a
  obtain ⟨b, rfl, bb⟩ := zi_of b
  have hb : cTb 43 2 I (y.2.2.1 2) := hv.1.2.2.1 2 (by decide)
  have hw := hv.2.2.1.2.2.1 2 (by decide)
  have hn : I 131 674 = zi (y.2.2.1 2).1 := (zV_mt hv (q := 2) (by decide)).1
  have hw1 : (y.2.2.1 2).1 ≤ 10 := hw.1
  by_cases h : zbo a 0 4095 = false ∧ zbo b 1 99 = false
  · obtain ⟨h1, h2⟩ := h
    have g1 := zbo_f h1
    have g2 := zbo_f h2
    have cA := cAddOr (d := 59) (L := L) (r := r) (J := J) (by decide) (show 2 < 8 by decide) hb hw.1 (zi (-4)) a b 0
    by_cases h3 : (y.2.2.1 2).1 = 10
    · refine zGo_0 hr hv (.int (zi (-4))) ?_ ?_
      · have k : zCd zT 59 67 [.ref 43, .int (zi (-4)), .int (zi a), .int (zi b), .int (zi 0)] (zm L I J r) = _ := cA.1 h3
        simp (disch := omega) only [qX11_test, eX11_test_0, eX11_test_1, eX11_test_2, eX11_test_3, eX11_test_4, eX11_test_5, cOut, h1, h2, if_true, if_false, zbI_s, zbL_s, zbV_s, zgd_t, zb1_t, zb1_f, zb1_01, zz_0, zz_1, zi_lit, zi_add, zi_sub, zi_mul, zi_neg, zi_z0, k]
      · simp (disch := omega) only [qX12_test, eX12_test_0, eX12_test_1, eX12_test_2, eX12_test_3, eX12_test_4, eX12_test_5, mWithin, show (0 : Int64).toInt = 0 from rfl, show (4095 : Int64).toInt = 4095 from rfl, show (1 : Int64).toInt = 1 from rfl, show (99 : Int64).toInt = 99 from rfl, h1, h2, Bool.not_false, if_true, if_false, zu_n, hn, h3, zbI_s, zbL_s, zbV_s, zgd_t, zb1_t, zb1_f, zb1_01, zz_0, zz_1, zi_lit, zi_add, zi_sub, zi_mul, zi_neg, zi_eq, if_pos, if_neg, zi_z0]
    · have hlt : (y.2.2.1 2).1 < 10 := by omega
      refine zGo_t (q := 2) (vv := fun f => if f = 0 then a else if f = 1 then b else if f = 2 then 0 else 0) (by decide) hr hv hlt (fun _ => by decide) (fun f hf => ?_) (fun h => absurd h (by decide)) (.int (zi (y.2.2.1 2).1)) ?_ (fun I1 i1 i2 => ?_)
      · obtain rfl | rfl : f = 0 ∨ f = 1 := by have : f < 2 := hf; omega
        · show (0 : Int) ≤ a ∧ a ≤ 4095
          omega
        · exact g2
      · obtain ⟨I1, c1, c2, c3⟩ := cA.2 hlt
        have k : zCd zT 59 67 [.ref 43, .int (zi (-4)), .int (zi a), .int (zi b), .int (zi 0)] (zm L I J r) = _ := c1
        refine ⟨I1, ?_, c2, c3⟩
        simp (disch := omega) only [qX11_test, eX11_test_0, eX11_test_1, eX11_test_2, eX11_test_3, eX11_test_4, eX11_test_5, cOut, h1, h2, if_true, if_false, zbI_s, zbL_s, zbV_s, zgd_t, zb1_t, zb1_f, zb1_01, zz_0, zz_1, zi_lit, zi_add, zi_sub, zi_mul, zi_neg, zi_z0, k]
      · have hn1 : I1 131 674 = zi (y.2.2.1 2).1 := by rw [i1, hn]
        generalize (y.2.2.1 2).1 = n at *
        refine ⟨zu (zu (zu (zu I1 130 0 (zi 0)) 131 (675 + n) (zi a)) 131 (685 + n) (zi b)) 131 674 (zi ((n + 1 : Nat) : Int)), ?_, fun o k x1 x2 => ?_, ?_, fun f hf => ?_, fun k x1 x2 => ?_⟩
        · simp (disch := omega) only [qX12_test, eX12_test_0, eX12_test_1, eX12_test_2, eX12_test_3, eX12_test_4, eX12_test_5, mWithin, show (0 : Int64).toInt = 0 from rfl, show (4095 : Int64).toInt = 4095 from rfl, show (1 : Int64).toInt = 1 from rfl, show (99 : Int64).toInt = 99 from rfl, h1, h2, Bool.not_false, if_true, if_false, zu_n, zu_y, hn1, zbI_s, zbL_s, zbV_s, zgd_t, zb1_t, zb1_f, zb1_01, zz_0, zz_1, zi_lit, zi_add, zi_sub, zi_mul, zi_neg, zi_eq, if_pos, if_neg, zi_z0, zin_t, zi_cl, show (675 + (n : Int)).toNat = 675 + n by omega, show (685 + (n : Int)).toNat = 685 + n by omega, Int.add_sub_cancel]
          rfl
        · simp (disch := omega) only [zu_n]
        · exact zu_y ⟨rfl, rfl⟩
        · obtain rfl | rfl : f = 0 ∨ f = 1 := by have : f < 2 := hf; omega
          · show zu _ 131 674 _ 131 (675 + n) = zi a
            simp (disch := omega) only [zu_n, zu_y]
          · show zu _ 131 674 _ 131 (685 + n) = zi b
            simp (disch := omega) only [zu_n, zu_y]
        · have e0 : k ≠ 674 := x1
          have e1 : k ≠ 675 + n := x2 0 (by decide)
          have e2 : k ≠ 685 + n := x2 1 (by decide)
          simp (disch := omega) only [zu_n]
  · refine zGo_0 hr hv (.int (zi (-3))) ?_ ?_
    · cases h1 : zbo a 0 4095 <;> cases h2 : zbo b 1 99
      · exact absurd ⟨h1, h2⟩ h
      all_goals simp (disch := omega) only [qX11_test, eX11_test_0, eX11_test_1, eX11_test_2, eX11_test_3, eX11_test_4, eX11_test_5, cOut, h1, h2, if_true, if_false, zbI_s, zbL_s, zbV_s, zgd_t, zb1_t, zb1_f, zb1_01, zz_0, zz_1, zi_lit, zi_add, zi_sub, zi_mul, zi_neg, zi_z0]
    · cases h1 : zbo a 0 4095 <;> cases h2 : zbo b 1 99
      · exact absurd ⟨h1, h2⟩ h
      all_goals simp (disch := omega) only [qX12_test, eX12_test_0, eX12_test_1, eX12_test_2, eX12_test_3, eX12_test_4, eX12_test_5, mWithin, show (0 : Int64).toInt = 0 from rfl, show (4095 : Int64).toInt = 4095 from rfl, show (1 : Int64).toInt = 1 from rfl, show (99 : Int64).toInt = 99 from rfl, h1, h2, Bool.not_false, Bool.not_true, if_true, if_false, zbI_s, zbL_s, zbV_s, zgd_t, zb1_t, zb1_f, zb1_01, zz_0, zz_1, zi_lit, zi_add, zi_sub, zi_mul, zi_neg, zi_z0]
theorem oPart (a b : Int32) : zOk 175 325 [.int a, .int b] := by
  intro L c r I J y z0 z1 hc hr hv
  obtain ⟨a, rfl, ba⟩ := zi_of a
  obtain ⟨b, rfl, bb⟩ := zi_of b
  have hb : cTb 45 3 I (y.2.2.1 3) := hv.1.2.2.1 3 (by decide)
  have hw := hv.2.2.1.2.2.1 3 (by decide)
  have hn : I 131 695 = zi (y.2.2.1 3).1 := (zV_mt hv (q := 3) (by decide)).1
  have hw1 : (y.2.2.1 3).1 ≤ 8 := hw.1
  by_cases h : zbo a 0 9999 = false ∧ zbo b 1 9999 = false
  · obtain ⟨h1, h2⟩ := h
    have g1 := zbo_f h1
    have g2 := zbo_f h2
    have cA := cAddOr (d := 59) (L := L) (r := r) (J := J) (by decide) (show 3 < 8 by decide) hb hw.1 (zi (-4)) a b 0
    by_cases h3 : (y.2.2.1 3).1 = 8
    · refine zGo_0 hr hv (.int (zi (-4))) ?_ ?_
      · have k : zCd zT 59 67 [.ref 45, .int (zi (-4)), .int (zi a), .int (zi b), .int (zi 0)] (zm L I J r) = _ := cA.1 h3
        simp (disch := omega) only [qX11_part, eX11_part_0, eX11_part_1, eX11_part_2, eX11_part_3, eX11_part_4, eX11_part_5, cOut, h1, h2, if_true, if_false, zbI_s, zbL_s, zbV_s, zgd_t, zb1_t, zb1_f, zb1_01, zz_0, zz_1, zi_lit, zi_add, zi_sub, zi_mul, zi_neg, zi_z0, k]
      · simp (disch := omega) only [qX12_part, eX12_part_0, eX12_part_1, eX12_part_2, eX12_part_3, eX12_part_4, eX12_part_5, mWithin, show (0 : Int64).toInt = 0 from rfl, show (9999 : Int64).toInt = 9999 from rfl, show (1 : Int64).toInt = 1 from rfl, show (9999 : Int64).toInt = 9999 from rfl, h1, h2, Bool.not_false, if_true, if_false, zu_n, hn, h3, zbI_s, zbL_s, zbV_s, zgd_t, zb1_t, zb1_f, zb1_01, zz_0, zz_1, zi_lit, zi_add, zi_sub, zi_mul, zi_neg, zi_eq, if_pos, if_neg, zi_z0]
    · have hlt : (y.2.2.1 3).1 < 8 := by omega
      refine zGo_t (q := 3) (vv := fun f => if f = 0 then a else if f = 1 then b else if f = 2 then 0 else 0) (by decide) hr hv hlt (fun _ => by decide) (fun f hf => ?_) (fun h => absurd h (by decide)) (.int (zi (y.2.2.1 3).1)) ?_ (fun I1 i1 i2 => ?_)
      · obtain rfl | rfl : f = 0 ∨ f = 1 := by have : f < 2 := hf; omega
        · show (0 : Int) ≤ a ∧ a ≤ 10000 * (((c + 1 : Nat) : Int) + 1)
          omega
        · exact g2
      · obtain ⟨I1, c1, c2, c3⟩ := cA.2 hlt
        have k : zCd zT 59 67 [.ref 45, .int (zi (-4)), .int (zi a), .int (zi b), .int (zi 0)] (zm L I J r) = _ := c1
        refine ⟨I1, ?_, c2, c3⟩
        simp (disch := omega) only [qX11_part, eX11_part_0, eX11_part_1, eX11_part_2, eX11_part_3, eX11_part_4, eX11_part_5, cOut, h1, h2, if_true, if_false, zbI_s, zbL_s, zbV_s, zgd_t, zb1_t, zb1_f, zb1_01, zz_0, zz_1, zi_lit, zi_add, zi_sub, zi_mul, zi_neg, zi_z0, k]
      · have hn1 : I1 131 695 = zi (y.2.2.1 3).1 := by rw [i1, hn]
        generalize (y.2.2.1 3).1 = n at *
        refine ⟨zu (zu (zu (zu I1 130 0 (zi 0)) 131 (696 + n) (zi a)) 131 (704 + n) (zi b)) 131 695 (zi ((n + 1 : Nat) : Int)), ?_, fun o k x1 x2 => ?_, ?_, fun f hf => ?_, fun k x1 x2 => ?_⟩
        · simp (disch := omega) only [qX12_part, eX12_part_0, eX12_part_1, eX12_part_2, eX12_part_3, eX12_part_4, eX12_part_5, mWithin, show (0 : Int64).toInt = 0 from rfl, show (9999 : Int64).toInt = 9999 from rfl, show (1 : Int64).toInt = 1 from rfl, show (9999 : Int64).toInt = 9999 from rfl, h1, h2, Bool.not_false, if_true, if_false, zu_n, zu_y, hn1, zbI_s, zbL_s, zbV_s, zgd_t, zb1_t, zb1_f, zb1_01, zz_0, zz_1, zi_lit, zi_add, zi_sub, zi_mul, zi_neg, zi_eq, if_pos, if_neg, zi_z0, zin_t, zi_cl, show (696 + (n : Int)).toNat = 696 + n by omega, show (704 + (n : Int)).toNat = 704 + n by omega, Int.add_sub_cancel]
          rfl
        · simp (disch := omega) only [zu_n]
        · exact zu_y ⟨rfl, rfl⟩
        · obtain rfl | rfl : f = 0 ∨ f = 1 := by have : f < 2 := hf; omega
          · show zu _ 131 695 _ 131 (696 + n) = zi a
            simp (disch := omega) only [zu_n, zu_y]
          · show zu _ 131 695 _ 131 (704 + n) = zi b
            simp (disch := omega) only [zu_n, zu_y]
        · have e0 : k ≠ 695 := x1
          have e1 : k ≠ 696 + n := x2 0 (by decide)
          have e2 : k ≠ 704 + n := x2 1 (by decide)
          simp (disch := omega) only [zu_n]
  · refine zGo_0 hr hv (.int (zi (-3))) ?_ ?_
    · cases h1 : zbo a 0 9999 <;> cases h2 : zbo b 1 9999
      · exact absurd ⟨h1, h2⟩ h
      all_goals simp (disch := omega) only [qX11_part, eX11_part_0, eX11_part_1, eX11_part_2, eX11_part_3, eX11_part_4, eX11_part_5, cOut, h1, h2, if_true, if_false, zbI_s, zbL_s, zbV_s, zgd_t, zb1_t, zb1_f, zb1_01, zz_0, zz_1, zi_lit, zi_add, zi_sub, zi_mul, zi_neg, zi_z0]
    · cases h1 : zbo a 0 9999 <;> cases h2 : zbo b 1 9999
      · exact absurd ⟨h1, h2⟩ h
      all_goals simp (disch := omega) only [qX12_part, eX12_part_0, eX12_part_1, eX12_part_2, eX12_part_3, eX12_part_4, eX12_part_5, mWithin, show (0 : Int64).toInt = 0 from rfl, show (9999 : Int64).toInt = 9999 from rfl, show (1 : Int64).toInt = 1 from rfl, show (9999 : Int64).toInt = 9999 from rfl, h1, h2, Bool.not_false, Bool.not_true, if_true, if_false, zbI_s, zbL_s, zbV_s, zgd_t, zb1_t, zb1_f, zb1_01, zz_0, zz_1, zi_lit, zi_add, zi_sub, zi_mul, zi_neg, zi_z0]
theorem oGroup (a b : Int32) : zOk 182 332 [.int a, .int b] := by
  intro L c r I J y z0 z1 hc hr hv
  obtain ⟨a, rfl, ba⟩ := zi_of a
  obtain ⟨b, rfl, bb⟩ := zi_of b
  have hb : cTb 47 4 I (y.2.2.1 4) := hv.1.2.2.1 4 (by decide)
  have hw := hv.2.2.1.2.2.1 4 (by decide)
  have hn : I 131 712 = zi (y.2.2.1 4).1 := (zV_mt hv (q := 4) (by decide)).1
  have hw1 : (y.2.2.1 4).1 ≤ 10 := hw.1
  by_cases h : zbo a 1 8 = false ∧ zbo b 50 220 = false
  · obtain ⟨h1, h2⟩ := h
    have g1 := zbo_f h1
    have g2 := zbo_f h2
    have cA := cAddOr (d := 59) (L := L) (r := r) (J := J) (by decide) (show 4 < 8 by decide) hb hw.1 (zi (-4)) a b 0
    by_cases h3 : (y.2.2.1 4).1 = 10
    · refine zGo_0 hr hv (.int (zi (-4))) ?_ ?_
      · have k : zCd zT 59 67 [.ref 47, .int (zi (-4)), .int (zi a), .int (zi b), .int (zi 0)] (zm L I J r) = _ := cA.1 h3
        simp (disch := omega) only [qX11_group, eX11_group_0, eX11_group_1, eX11_group_2, eX11_group_3, eX11_group_4, eX11_group_5, qX11_badHeight, eX11_badHeight_0, eX11_badHeight_1, cOut, h1, h2, if_true, if_false, zbI_s, zbL_s, zbV_s, zgd_t, zb1_t, zb1_f, zb1_01, zz_0, zz_1, zi_lit, zi_add, zi_sub, zi_mul, zi_neg, zi_z0, k]
      · simp (disch := omega) only [qX12_group, eX12_group_0, eX12_group_1, eX12_group_2, eX12_group_3, eX12_group_4, eX12_group_5, mWithin, show (1 : Int64).toInt = 1 from rfl, show (8 : Int64).toInt = 8 from rfl, show (50 : Int64).toInt = 50 from rfl, show (220 : Int64).toInt = 220 from rfl, h1, h2, Bool.not_false, if_true, if_false, zu_n, hn, h3, zbI_s, zbL_s, zbV_s, zgd_t, zb1_t, zb1_f, zb1_01, zz_0, zz_1, zi_lit, zi_add, zi_sub, zi_mul, zi_neg, zi_eq, if_pos, if_neg, zi_z0]
    · have hlt : (y.2.2.1 4).1 < 10 := by omega
      refine zGo_t (q := 4) (vv := fun f => if f = 0 then a else if f = 1 then b else if f = 2 then 0 else 0) (by decide) hr hv hlt (fun _ => by decide) (fun f hf => ?_) (fun h => absurd h (by decide)) (.int (zi (y.2.2.1 4).1)) ?_ (fun I1 i1 i2 => ?_)
      · obtain rfl | rfl : f = 0 ∨ f = 1 := by have : f < 2 := hf; omega
        · show (1 : Int) ≤ a ∧ a ≤ 8
          omega
        · exact g2
      · obtain ⟨I1, c1, c2, c3⟩ := cA.2 hlt
        have k : zCd zT 59 67 [.ref 47, .int (zi (-4)), .int (zi a), .int (zi b), .int (zi 0)] (zm L I J r) = _ := c1
        refine ⟨I1, ?_, c2, c3⟩
        simp (disch := omega) only [qX11_group, eX11_group_0, eX11_group_1, eX11_group_2, eX11_group_3, eX11_group_4, eX11_group_5, qX11_badHeight, eX11_badHeight_0, eX11_badHeight_1, cOut, h1, h2, if_true, if_false, zbI_s, zbL_s, zbV_s, zgd_t, zb1_t, zb1_f, zb1_01, zz_0, zz_1, zi_lit, zi_add, zi_sub, zi_mul, zi_neg, zi_z0, k]
      · have hn1 : I1 131 712 = zi (y.2.2.1 4).1 := by rw [i1, hn]
        generalize (y.2.2.1 4).1 = n at *
        refine ⟨zu (zu (zu (zu I1 130 0 (zi 0)) 131 (713 + n) (zi a)) 131 (723 + n) (zi b)) 131 712 (zi ((n + 1 : Nat) : Int)), ?_, fun o k x1 x2 => ?_, ?_, fun f hf => ?_, fun k x1 x2 => ?_⟩
        · simp (disch := omega) only [qX12_group, eX12_group_0, eX12_group_1, eX12_group_2, eX12_group_3, eX12_group_4, eX12_group_5, mWithin, show (1 : Int64).toInt = 1 from rfl, show (8 : Int64).toInt = 8 from rfl, show (50 : Int64).toInt = 50 from rfl, show (220 : Int64).toInt = 220 from rfl, h1, h2, Bool.not_false, if_true, if_false, zu_n, zu_y, hn1, zbI_s, zbL_s, zbV_s, zgd_t, zb1_t, zb1_f, zb1_01, zz_0, zz_1, zi_lit, zi_add, zi_sub, zi_mul, zi_neg, zi_eq, if_pos, if_neg, zi_z0, zin_t, zi_cl, show (713 + (n : Int)).toNat = 713 + n by omega, show (723 + (n : Int)).toNat = 723 + n by omega, Int.add_sub_cancel]
          rfl
        · simp (disch := omega) only [zu_n]
        · exact zu_y ⟨rfl, rfl⟩
        · obtain rfl | rfl : f = 0 ∨ f = 1 := by have : f < 2 := hf; omega
          · show zu _ 131 712 _ 131 (713 + n) = zi a
            simp (disch := omega) only [zu_n, zu_y]
          · show zu _ 131 712 _ 131 (723 + n) = zi b
            simp (disch := omega) only [zu_n, zu_y]
        · have e0 : k ≠ 712 := x1
          have e1 : k ≠ 713 + n := x2 0 (by decide)
          have e2 : k ≠ 723 + n := x2 1 (by decide)
          simp (disch := omega) only [zu_n]
  · refine zGo_0 hr hv (.int (zi (-3))) ?_ ?_
    · cases h1 : zbo a 1 8 <;> cases h2 : zbo b 50 220
      · exact absurd ⟨h1, h2⟩ h
      all_goals simp (disch := omega) only [qX11_group, eX11_group_0, eX11_group_1, eX11_group_2, eX11_group_3, eX11_group_4, eX11_group_5, qX11_badHeight, eX11_badHeight_0, eX11_badHeight_1, cOut, h1, h2, if_true, if_false, zbI_s, zbL_s, zbV_s, zgd_t, zb1_t, zb1_f, zb1_01, zz_0, zz_1, zi_lit, zi_add, zi_sub, zi_mul, zi_neg, zi_z0]
    · cases h1 : zbo a 1 8 <;> cases h2 : zbo b 50 220
      · exact absurd ⟨h1, h2⟩ h
      all_goals simp (disch := omega) only [qX12_group, eX12_group_0, eX12_group_1, eX12_group_2, eX12_group_3, eX12_group_4, eX12_group_5, mWithin, show (1 : Int64).toInt = 1 from rfl, show (8 : Int64).toInt = 8 from rfl, show (50 : Int64).toInt = 50 from rfl, show (220 : Int64).toInt = 220 from rfl, h1, h2, Bool.not_false, Bool.not_true, if_true, if_false, zbI_s, zbL_s, zbV_s, zgd_t, zb1_t, zb1_f, zb1_01, zz_0, zz_1, zi_lit, zi_add, zi_sub, zi_mul, zi_neg, zi_z0]
