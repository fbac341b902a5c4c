theorem znth_n {α : Type} : ∀ (l : List α) (i : Nat), l.length ≤ i → znth l i = none
  | [], _, _ => rfl
  | _ :: l, 0, h => by simp at h
  | _ :: l, i + 1, h => znth_n l i (by simpa using h)
theorem ztb_d {x lo : Int} {js : List Nat} {d : Nat} (h : x < lo ∨ lo + js.length ≤ x) : ztb x lo js d = d := by
  unfold ztb
  by_cases q : x < lo
  · rw [if_pos q]
  · rw [if_neg q, znth_n js _ (by omega)]
    rfl
theorem oCount (a : Int32) : zOk 217 367 [.int a] := by
  intro L c r I J y z0 z1 hc hr hv
  obtain ⟨a, rfl, ba⟩ := zi_of a
  obtain ⟨T, hT, t1, t2, _⟩ := hv.2.2.2.2.2.2.1.1
  have hw := hv.2.2.1.1.1
  have p0 : I 32 5 = zi y.1.n := hv.1.1.1
  have m0 : I 131 0 = zi y.1.n := hv.2.1.1.1
  have p1 : I 32 6 = zi y.1.m := hv.1.1.2.2.1
  have m1 : I 131 61 = zi y.1.m := by have := hv.2.1.1.2.2.1; rwa [Nat.zero_add] at this
  have p2 : I 32 7 = zi y.1.nc := hv.1.1.2.2.2.2.1
  have m2 : I 131 67 = zi y.1.nc := by have := hv.2.1.1.2.2.2.2.1; rwa [Nat.zero_add] at this
  have p3 : I 32 8 = zi y.1.nd := hv.1.1.2.2.2.2.2.2.1
  have m3 : I 131 74 = zi y.1.nd := by have := hv.2.1.1.2.2.2.2.2.2.1; rwa [Nat.zero_add] at this
  have p4 : I 32 9 = zi y.1.drag := hv.1.1.2.2.2.2.2.2.2.2.1
  have m4 : I 131 79 = zi y.1.drag := by have := hv.2.1.1.2.2.2.2.2.2.2.2.1; rwa [Nat.zero_add] at this
  have p5 : I 32 10 = zi y.1.push := hv.1.1.2.2.2.2.2.2.2.2.2
  have m5 : I 131 80 = zi y.1.push := by have := hv.2.1.1.2.2.2.2.2.2.2.2.2; rwa [Nat.zero_add] at this
  have p6 : I 37 2 = zi y.2.1.1 := hv.1.2.1.1
  have m6 : I 131 81 = zi y.2.1.1 := by have := hv.2.1.2.1.1; simpa using this
  have m7 : I 131 618 = zi (y.2.2.1 0).1 := (zV_mt hv (q := 0) (by decide)).1
  have p7 : cTb 39 0 I (y.2.2.1 0) := hv.1.2.2.1 0 (by decide)
  have m8 : I 131 667 = zi (y.2.2.1 1).1 := (zV_mt hv (q := 1) (by decide)).1
  have p8 : cTb 41 1 I (y.2.2.1 1) := hv.1.2.2.1 1 (by decide)
  have m9 : I 131 674 = zi (y.2.2.1 2).1 := (zV_mt hv (q := 2) (by decide)).1
  have p9 : cTb 43 2 I (y.2.2.1 2) := hv.1.2.2.1 2 (by decide)
  have m10 : I 131 695 = zi (y.2.2.1 3).1 := (zV_mt hv (q := 3) (by decide)).1
  have p10 : cTb 45 3 I (y.2.2.1 3) := hv.1.2.2.1 3 (by decide)
  have m12 : I 131 712 = zi (y.2.2.1 4).1 := (zV_mt hv (q := 4) (by decide)).1
  have p12 : cTb 47 4 I (y.2.2.1 4) := hv.1.2.2.1 4 (by decide)
  have m13 : I 131 733 = zi (y.2.2.1 5).1 := (zV_mt hv (q := 5) (by decide)).1
  have p13 : cTb 49 5 I (y.2.2.1 5) := hv.1.2.2.1 5 (by decide)
  have m14 : I 131 814 = zi (y.2.2.1 6).1 := (zV_mt hv (q := 6) (by decide)).1
  have p14 : cTb 51 6 I (y.2.2.1 6) := hv.1.2.2.1 6 (by decide)
  have m15 : I 131 856 = zi (y.2.2.1 7).1 := (zV_mt hv (q := 7) (by decide)).1
  have p15 : cTb 53 7 I (y.2.2.1 7) := hv.1.2.2.1 7 (by decide)
  have hcase : a = 0 ∨ a = 1 ∨ a = 2 ∨ a = 3 ∨ a = 4 ∨ a = 5 ∨ a = 6 ∨ a = 7 ∨ a = 8 ∨ a = 9 ∨ a = 10 ∨ a = 11 ∨ a = 12 ∨ a = 13 ∨ a = 14 ∨ a = 15 ∨ a < 0 ∨ 16 ≤ a := by omega
  rcases hcase with rfl | rfl | rfl | rfl | rfl | rfl | rfl | rfl | rfl | rfl | rfl | rfl | rfl | rfl | rfl | rfl | hbig
  · refine zGo_0 hr hv (.int (zi y.1.n)) ?_ ?_
    · rw [qX11_count, eX11_count_0, show ztb (zi 0).toInt 0 [1, 3, 5, 7, 9, 11, 13, 15, 17, 19, 21, 23, 25, 27, 29, 31] 33 = 1 from by decide, eX11_count_1, sX9_points (by decide) (o := 32) (by decide), zbI_s, eX11_count_2, p0]
    · rw [qX12_count, eX12_count_0, show ztb (zi 0).toInt 0 [1, 2, 4, 5, 6, 7, 8, 9, 10, 11, 12, 13, 14, 15, 16, 17] 18 = 1 from by decide, eX12_count_1, zu_o (show 131 ≠ 130 by decide), m0]
      rfl
  · refine zGo_0 hr hv (.int (zi (if y.1.n = 0 then (0 : Int) else (y.1.m : Int) + 1))) ?_ ?_
    · rw [qX11_count, eX11_count_0, show ztb (zi 1).toInt 0 [1, 3, 5, 7, 9, 11, 13, 15, 17, 19, 21, 23, 25, 27, 29, 31] 33 = 3 from by decide, eX11_count_3, sX9_blocks (by decide) (o := 32) (by decide), zbI_s, eX11_count_4, p0, p1]
      have e0 : zi (y.1.n : Int) = 0 ↔ y.1.n = 0 := by
        rw [show (0 : Int32) = zi 0 from rfl, zi_eq (by omega) (by decide)]
        omega
      by_cases q : y.1.n = 0
      · rw [if_pos (e0.mpr q), if_pos q]
        rfl
      · rw [if_neg (fun w => q (e0.mp w)), if_neg q]
        exact congrArg (fun x => some (some (Value.int x), zm L I J r)) (zi_add _ 1)
    · rw [qX12_count, eX12_count_0, show ztb (zi 1).toInt 0 [1, 2, 4, 5, 6, 7, 8, 9, 10, 11, 12, 13, 14, 15, 16, 17] 18 = 2 from by decide, eX12_count_2, sX12_blocks (by decide), zbI_s, eX12_count_3, zu_o (show 131 ≠ 130 by decide), m0, m1]
      have e0 : zi (y.1.n : Int) ≤ 0 ↔ y.1.n = 0 := by
        rw [show (0 : Int32) = zi 0 from rfl, zi_le (by omega) (by decide)]
        omega
      by_cases q : y.1.n = 0
      · simp only [e0, q, if_true, z10I, if_false]
        rfl
      · simp only [e0, q, if_false, z10I]
        exact congrArg (fun x => some (some (Value.int x), zm L (zu I 130 0 0) J r)) (zi_add _ 1)
  · refine zGo_0 hr hv (.int (zi y.1.nc)) ?_ ?_
    · rw [qX11_count, eX11_count_0, show ztb (zi 2).toInt 0 [1, 3, 5, 7, 9, 11, 13, 15, 17, 19, 21, 23, 25, 27, 29, 31] 33 = 5 from by decide, eX11_count_5, sX9_chains (by decide) (o := 32) (by decide), zbI_s, eX11_count_6, p2]
    · rw [qX12_count, eX12_count_0, show ztb (zi 2).toInt 0 [1, 2, 4, 5, 6, 7, 8, 9, 10, 11, 12, 13, 14, 15, 16, 17] 18 = 4 from by decide, eX12_count_4, zu_o (show 131 ≠ 130 by decide), m2]
      rfl
  · refine zGo_0 hr hv (.int (zi y.1.nd)) ?_ ?_
    · rw [qX11_count, eX11_count_0, show ztb (zi 3).toInt 0 [1, 3, 5, 7, 9, 11, 13, 15, 17, 19, 21, 23, 25, 27, 29, 31] 33 = 7 from by decide, eX11_count_7, sX9_dogs (by decide) (o := 32) (by decide), zbI_s, eX11_count_8, p3]
    · rw [qX12_count, eX12_count_0, show ztb (zi 3).toInt 0 [1, 2, 4, 5, 6, 7, 8, 9, 10, 11, 12, 13, 14, 15, 16, 17] 18 = 5 from by decide, eX12_count_5, zu_o (show 131 ≠ 130 by decide), m3]
      rfl
  · refine zGo_0 hr hv (.int (zi y.1.drag)) ?_ ?_
    · rw [qX11_count, eX11_count_0, show ztb (zi 4).toInt 0 [1, 3, 5, 7, 9, 11, 13, 15, 17, 19, 21, 23, 25, 27, 29, 31] 33 = 9 from by decide, eX11_count_9, sX9_drag (by decide), zbI_s, eX11_count_10, p4]
    · rw [qX12_count, eX12_count_0, show ztb (zi 4).toInt 0 [1, 2, 4, 5, 6, 7, 8, 9, 10, 11, 12, 13, 14, 15, 16, 17] 18 = 6 from by decide, eX12_count_6, zu_o (show 131 ≠ 130 by decide), m4]
      rfl
  · refine zGo_0 hr hv (.int (zi y.1.push)) ?_ ?_
    · rw [qX11_count, eX11_count_0, show ztb (zi 5).toInt 0 [1, 3, 5, 7, 9, 11, 13, 15, 17, 19, 21, 23, 25, 27, 29, 31] 33 = 11 from by decide, eX11_count_11, sX9_push (by decide), zbI_s, eX11_count_12, p5]
    · rw [qX12_count, eX12_count_0, show ztb (zi 5).toInt 0 [1, 2, 4, 5, 6, 7, 8, 9, 10, 11, 12, 13, 14, 15, 16, 17] 18 = 7 from by decide, eX12_count_7, zu_o (show 131 ≠ 130 by decide), m5]
      rfl
  · refine zGo_0 hr hv (.int (zi y.2.1.1)) ?_ ?_
    · rw [qX11_count, eX11_count_0, show ztb (zi 6).toInt 0 [1, 3, 5, 7, 9, 11, 13, 15, 17, 19, 21, 23, 25, 27, 29, 31] 33 = 13 from by decide, eX11_count_13, sX5_size (by decide) (o := 37) (by decide), zbI_s, eX11_count_14, p6]
    · rw [qX12_count, eX12_count_0, show ztb (zi 6).toInt 0 [1, 2, 4, 5, 6, 7, 8, 9, 10, 11, 12, 13, 14, 15, 16, 17] 18 = 8 from by decide, eX12_count_8, zu_o (show 131 ≠ 130 by decide), m6]
      rfl
  · refine zGo_0 hr hv (.int (zi (y.2.2.1 0).1)) ?_ ?_
    · rw [qX11_count, eX11_count_0, show ztb (zi 7).toInt 0 [1, 3, 5, 7, 9, 11, 13, 15, 17, 19, 21, 23, 25, 27, 29, 31] 33 = 15 from by decide, eX11_count_15, cTSize (by decide) (o := 39) (by decide) p7, zbI_s, eX11_count_16]
    · rw [qX12_count, eX12_count_0, show ztb (zi 7).toInt 0 [1, 2, 4, 5, 6, 7, 8, 9, 10, 11, 12, 13, 14, 15, 16, 17] 18 = 9 from by decide, eX12_count_9, zu_o (show 131 ≠ 130 by decide), m7]
      rfl
  · refine zGo_0 hr hv (.int (zi (y.2.2.1 1).1)) ?_ ?_
    · rw [qX11_count, eX11_count_0, show ztb (zi 8).toInt 0 [1, 3, 5, 7, 9, 11, 13, 15, 17, 19, 21, 23, 25, 27, 29, 31] 33 = 17 from by decide, eX11_count_17, cTSize (by decide) (o := 41) (by decide) p8, zbI_s, eX11_count_18]
    · rw [qX12_count, eX12_count_0, show ztb (zi 8).toInt 0 [1, 2, 4, 5, 6, 7, 8, 9, 10, 11, 12, 13, 14, 15, 16, 17] 18 = 10 from by decide, eX12_count_10, zu_o (show 131 ≠ 130 by decide), m8]
      rfl
  · refine zGo_0 hr hv (.int (zi (y.2.2.1 2).1)) ?_ ?_
    · rw [qX11_count, eX11_count_0, show ztb (zi 9).toInt 0 [1, 3, 5, 7, 9, 11, 13, 15, 17, 19, 21, 23, 25, 27, 29, 31] 33 = 19 from by decide, eX11_count_19, cTSize (by decide) (o := 43) (by decide) p9, zbI_s, eX11_count_20]
    · rw [qX12_count, eX12_count_0, show ztb (zi 9).toInt 0 [1, 2, 4, 5, 6, 7, 8, 9, 10, 11, 12, 13, 14, 15, 16, 17] 18 = 11 from by decide, eX12_count_11, zu_o (show 131 ≠ 130 by decide), m9]
      rfl
  · refine zGo_0 hr hv (.int (zi (y.2.2.1 3).1)) ?_ ?_
    · rw [qX11_count, eX11_count_0, show ztb (zi 10).toInt 0 [1, 3, 5, 7, 9, 11, 13, 15, 17, 19, 21, 23, 25, 27, 29, 31] 33 = 21 from by decide, eX11_count_21, cTSize (by decide) (o := 45) (by decide) p10, zbI_s, eX11_count_22]
    · rw [qX12_count, eX12_count_0, show ztb (zi 10).toInt 0 [1, 2, 4, 5, 6, 7, 8, 9, 10, 11, 12, 13, 14, 15, 16, 17] 18 = 12 from by decide, eX12_count_12, zu_o (show 131 ≠ 130 by decide), m10]
      rfl
  · refine zGo_0 hr hv (.int (zi T)) ?_ ?_
    · rw [qX11_count, eX11_count_0, show ztb (zi 11).toInt 0 [1, 3, 5, 7, 9, 11, 13, 15, 17, 19, 21, 23, 25, 27, 29, 31] 33 = 23 from by decide, eX11_count_23, sX8_held (by decide), zbI_s, eX11_count_24, t1]
    · rw [qX12_count, eX12_count_0, show ztb (zi 11).toInt 0 [1, 2, 4, 5, 6, 7, 8, 9, 10, 11, 12, 13, 14, 15, 16, 17] 18 = 13 from by decide, eX12_count_13, zu_n (show ¬ (130 = 130 ∧ 5 = 0) by decide), t2]
      rfl
  · refine zGo_0 hr hv (.int (zi (y.2.2.1 4).1)) ?_ ?_
    · rw [qX11_count, eX11_count_0, show ztb (zi 12).toInt 0 [1, 3, 5, 7, 9, 11, 13, 15, 17, 19, 21, 23, 25, 27, 29, 31] 33 = 25 from by decide, eX11_count_25, cTSize (by decide) (o := 47) (by decide) p12, zbI_s, eX11_count_26]
    · rw [qX12_count, eX12_count_0, show ztb (zi 12).toInt 0 [1, 2, 4, 5, 6, 7, 8, 9, 10, 11, 12, 13, 14, 15, 16, 17] 18 = 14 from by decide, eX12_count_14, zu_o (show 131 ≠ 130 by decide), m12]
      rfl
  · refine zGo_0 hr hv (.int (zi (y.2.2.1 5).1)) ?_ ?_
    · rw [qX11_count, eX11_count_0, show ztb (zi 13).toInt 0 [1, 3, 5, 7, 9, 11, 13, 15, 17, 19, 21, 23, 25, 27, 29, 31] 33 = 27 from by decide, eX11_count_27, cTSize (by decide) (o := 49) (by decide) p13, zbI_s, eX11_count_28]
    · rw [qX12_count, eX12_count_0, show ztb (zi 13).toInt 0 [1, 2, 4, 5, 6, 7, 8, 9, 10, 11, 12, 13, 14, 15, 16, 17] 18 = 15 from by decide, eX12_count_15, zu_o (show 131 ≠ 130 by decide), m13]
      rfl
  · refine zGo_0 hr hv (.int (zi (y.2.2.1 6).1)) ?_ ?_
    · rw [qX11_count, eX11_count_0, show ztb (zi 14).toInt 0 [1, 3, 5, 7, 9, 11, 13, 15, 17, 19, 21, 23, 25, 27, 29, 31] 33 = 29 from by decide, eX11_count_29, cTSize (by decide) (o := 51) (by decide) p14, zbI_s, eX11_count_30]
    · rw [qX12_count, eX12_count_0, show ztb (zi 14).toInt 0 [1, 2, 4, 5, 6, 7, 8, 9, 10, 11, 12, 13, 14, 15, 16, 17] 18 = 16 from by decide, eX12_count_16, zu_o (show 131 ≠ 130 by decide), m14]
      rfl
  · refine zGo_0 hr hv (.int (zi (y.2.2.1 7).1)) ?_ ?_
    · rw [qX11_count, eX11_count_0, show ztb (zi 15).toInt 0 [1, 3, 5, 7, 9, 11, 13, 15, 17, 19, 21, 23, 25, 27, 29, 31] 33 = 31 from by decide, eX11_count_31, cTSize (by decide) (o := 53) (by decide) p15, zbI_s, eX11_count_32]
    · rw [qX12_count, eX12_count_0, show ztb (zi 15).toInt 0 [1, 2, 4, 5, 6, 7, 8, 9, 10, 11, 12, 13, 14, 15, 16, 17] 18 = 17 from by decide, eX12_count_17, zu_o (show 131 ≠ 130 by decide), m15]
      rfl
  · have e : (zi a).toInt = a := zi_val ba
    refine zGo_0 hr hv (.int (zi (-1))) ?_ ?_
    · rw [qX11_count, eX11_count_0, e, ztb_d hbig, eX11_count_33]
      rfl
    · rw [qX12_count, eX12_count_0, e, ztb_d hbig, eX12_count_18]
      rfl
theorem zlk_d {x : Int} (h0 : ¬ x = 0) (h1 : ¬ x = 1) {a b d : Nat} : zlk x [(0, a), (1, b)] d = d := by
  unfold zlk
  rw [if_neg h0]
  unfold zlk
  rw [if_neg h1]
  rfl
theorem oFault (a : Int32) : zOk 142 270 [.int a] := by
  intro L c r I J y z0 z1 hc hr hv
  obtain ⟨a, rfl, ba⟩ := zi_of a
  obtain ⟨_, f1, f2⟩ := hv.2.2.2.2.2.2.1
  have e : (zi a).toInt = a := zi_val ba
  have e0 : zi a = 0 ↔ a = 0 := zi_eq (y := 0) ba (by decide)
  have e1 : zi a = 1 ↔ a = 1 := zi_eq (y := 1) ba (by decide)
  by_cases q0 : a = 0
  · subst q0
    refine zGo_0 hr hv (.int (I 130 15)) ?_ ?_
    · rw [qX11_fault, eX11_fault_0, show zlk (zi 0).toInt [(0, 1), (1, 3)] 5 = 1 from by decide, eX11_fault_1, sX8_faultKind (by decide), zbI_s, eX11_fault_2, f1]
    · rw [sX12_fault (by decide)]
      rfl
  · by_cases q1 : a = 1
    · subst q1
      refine zGo_0 hr hv (.int (I 130 16)) ?_ ?_
      · rw [qX11_fault, eX11_fault_0, show zlk (zi 1).toInt [(0, 1), (1, 3)] 5 = 3 from by decide, eX11_fault_3, sX8_faultPlace (by decide), zbI_s, eX11_fault_4, f2]
      · rw [sX12_fault (by decide)]
        rfl
    · refine zGo_0 hr hv (.int (zi (-1))) ?_ ?_
      · rw [qX11_fault, eX11_fault_0, e, zlk_d q0 q1, eX11_fault_5]
        rfl
      · rw [sX12_fault (by decide)]
        simp only [e0, e1, q0, q1, if_false]
        rfl
