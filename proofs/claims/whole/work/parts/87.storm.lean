/-! STORM: a RUN under each wind of a row -/
def yClp (x : Int64) : Int := if x.toInt < 0 then 0 else if 99 < x.toInt then 99 else x.toInt
theorem yClp_b {x : Int64} : 0 ≤ yClp x ∧ yClp x ≤ 99 := by
  unfold yClp
  split
  · omega
  · split <;> omega
theorem yT32 {x : Int64} (h : -2147483648 ≤ x.toInt ∧ x.toInt < 2147483648) : x.toInt32 = zi x.toInt := by
  rw [← zi_toInt x.toInt32, Int64.toInt_toInt32]
  exact congrArg zi (Int.bmod_eq_of_le (by omega) (by omega))
theorem yClp_c {x : Int64} : (if (if x < (99 : Int64) then x else 99) < (0 : Int64) then (0 : Int64) else (if x < (99 : Int64) then x else 99)).toInt32 = zi (yClp x) := by
  have e1 : x < (99 : Int64) ↔ x.toInt < 99 := Int64.lt_iff_toInt_lt
  have e2 : x < (0 : Int64) ↔ x.toInt < 0 := Int64.lt_iff_toInt_lt
  unfold yClp
  by_cases h1 : x.toInt < 99
  · rw [if_pos (e1.mpr h1)]
    by_cases h2 : x.toInt < 0
    · rw [if_pos (e2.mpr h2), if_pos h2]
      rfl
    · rw [if_neg (fun w => h2 (e2.mp w)), if_neg h2, if_neg (by omega)]
      exact yT32 (by omega)
  · rw [if_neg (fun w => h1 (e1.mp w)), if_neg (by decide), if_neg (by omega)]
    by_cases h2 : 99 < x.toInt
    · rw [if_pos h2]
      rfl
    · rw [if_neg h2, show x.toInt = 99 by omega]
      rfl
def yStm (t : zDy) (w : Int) (f : Nat → Int64) (n : Nat) : Int := if zFs (fun j => !zIsO t w (yClp (f j)) 0) n < n then (zFs (fun j => !zIsO t w (yClp (f j)) 0) n : Nat) else -1
theorem yStm_c {t : zDy} {w : Int} {f g : Nat → Int64} {n : Nat} (h : ∀ k, k < n → f k = g k) : yStm t w f n = yStm t w g n := by
  unfold yStm
  rw [zFs_c (stop := fun j => !zIsO t w (yClp (f j)) 0) (stop' := fun j => !zIsO t w (yClp (g j)) 0) (fun j hj => by rw [h j hj])]
theorem zGo_s {ca mo : Nat} {as : List Value} {L c r : Nat} {I : Nat → Nat → Int32} {J : Nat → Nat → Int64} {y : zFd} {z0 z1 : Bool × zFd} (hr : zRr r) (hv : zV c I J y z0 z1) (v : Value) (C : ∃ I1, zCd zT 60 ca (.ref 16 :: as) (zm L I J r) = some (some v, zm L I1 J r) ∧ zSm I I1 ∧ zCa I1 y.1) (M : ∀ I1, zSm I I1 → zV c I1 J y z0 z1 → ∃ I2, zCd zT 60 mo (.ref 130 :: as) (zm L I1 J r) = some (some v, zm L I2 J r) ∧ zSm I1 I2 ∧ I2 120 = I1 120) : zGo ca mo as L c r I J := by
  obtain ⟨I1, a1, a2, a3⟩ := C
  have hv1 : zV c I1 J y z0 z1 := zV_fr (Nat.le_refl c) ⟨a2, fun _ _ => rfl⟩ a3 hv
  obtain ⟨I2, b1, b2, b3⟩ := M I1 a2 hv1
  exact ⟨v, I1, J, r, I2, J, r, y, z0, z1, a1, b1, hr, zV_fr (Nat.le_succ c) ⟨b2, fun _ _ => rfl⟩ (by unfold zCa; rw [b3]; exact a3) hv1⟩
section
variable {d L r : Nat} {I : Nat → Nat → Int32} {J : Nat → Nat → Int64}
variable {t : zDy}
theorem cStorm (hd : 9 ≤ d) (h : zTI I J t) (hc : zCa I t) (hn : 0 < t.n) {i : Nat} (hi : i < 4) {w : Int} (hw : 1 ≤ w ∧ w ≤ 20) {n : Nat} (hn60 : n ≤ 60) (hs : I (108 + 2 * i) 2 = zi (n : Int)) (x : Int32) : ∃ I', zX 0 (zCd zT d) zc_X11_storm 8 [some (.ref 16), some (.int (zi (i : Int))), some (.int (zi w)), some (.int x), some (.int 0), none] [] (zm L I J r) = some (some (.int (zi (yStm t w (J (109 + 2 * i)) n))), (zm L I' J r)) ∧ zSm I I' ∧ zCa I' t := by
  have hg : (decide (16 ≤ 108 + 2 * i) && zin (zi (i : Int)) 4) = true := by
    rw [zin_t (by omega) (by omega), Bool.and_true]
    exact decide_eq_true (by omega)
  obtain ⟨I2, p2, g2⟩ := zForS (n := n) (G := fun k I1 => zX 0 (zCd zT d) zc_X11_storm 8 [some (.ref 16), some (.int (zi (i : Int))), some (.int (zi w)), some (.int x), some (.int (zi ((k : Nat) : Int))), none] [] (zm L I1 J r)) (E := fun k I1 => some (some (.int (zi ((k : Nat) : Int))), (zm L I1 J r))) (P := fun I1 => zTI I1 J t ∧ zCa I1 t ∧ zSm I I1) (stop := fun j => !zIsO t w (yClp (J (109 + 2 * i) j)) 0) (fun k I1 hk hP => by
    have s1 : I1 (108 + 2 * i) 2 = zi (n : Int) := by rw [hP.2.2 _ _ (zPs_o (by omega))]; exact hs
    have cs := cSize (d := d) (L := L) (J := J) (r := r) (by omega) (yRw_m hi) s1
    have cg : zCd zT d 9 [.ref (108 + 2 * i), .int (zi ((k : Nat) : Int))] (zm L I1 J r) = some (some (.long (J (109 + 2 * i) k)), (zm L I1 J r)) := by
      obtain ⟨e, rfl⟩ : ∃ e, d = e + 1 := ⟨d - 1, by omega⟩
      have ho := yRw_m hi
      rw [qX1_get ho, eX1_get_0 ho, s1, if_neg (show ¬ zi (k : Int) < 0 by rw [show (0 : Int32) = zi 0 from rfl, zi_lt (by omega) (by decide)]; omega), if_neg (show ¬ zi (n : Int) ≤ zi (k : Int) by rw [zi_le (by omega) (by omega)]; omega), if_pos (show zi (k : Int) < 60 by rw [show (60 : Int32) = zi 60 from rfl, zi_lt (by omega) (by decide)]; omega), eX1_get_2 ho, zin_t (by omega) (by omega), zgd_t, zi_cl (by omega), Int.toNat_natCast, eX1_get_3 ho, show 108 + 2 * i + 1 = 109 + 2 * i by omega]
    obtain ⟨I2, c1, c2, c3⟩ := cIsOut (d := d) (L := L) (r := r) (by omega) hP.1 hP.2.1 hn hw (wi := yClp (J (109 + 2 * i) k)) yClp_b (show 0 ≤ (0 : Int) ∧ (0 : Int) ≤ 99 by decide)
    have c1' : zCd zT d 239 [.ref 16, .int (zi w), .int (zi (yClp (J (109 + 2 * i) k))), .int 0] (zm L I1 J r) = some (some (.int (zb1 (zIsO t w (yClp (J (109 + 2 * i) k)) 0))), (zm L I2 J r)) := c1
    have k1 : zi ((k : Nat) : Int) + (1 : Int32) = zi ((k + 1 : Nat) : Int) := zi_add _ 1
    refine ⟨I2, ⟨zTI_fr c2 hP.1, c3, zSm_tr hP.2.2 c2⟩, ?_⟩
    rw [eX11_storm_8, yRw_n hi, hg, zgd_t, cs, zbI_s, eX11_storm_9, if_neg (show ¬ zi (n : Int) ≤ zi ((k : Nat) : Int) by rw [zi_le (by omega) (by omega)]; omega), yRw_n hi, hg, zgd_t, cg, zbL_s, eX11_storm_10, yClp_c, c1', zbI_s, eX11_storm_11, eX11_storm_12, k1]
    cases zIsO t w (yClp (J (109 + 2 * i) k)) 0
    · rw [if_pos (show zb1 false = 0 by decide), if_pos (show (!false) = true from rfl)]
    · rw [if_neg (show ¬ zb1 true = 0 by decide), if_neg (show ¬ (!true) = true by decide)]) I ⟨h, hc, zSm_rf⟩
  refine ⟨I2, ?_, p2.2.2, p2.2.1⟩
  have z0 : zX 0 (zCd zT d) zc_X11_storm 8 [some (.ref 16), some (.int (zi (i : Int))), some (.int (zi w)), some (.int x), some (.int 0), none] [] (zm L I J r) = _ := g2
  rw [z0]
  unfold yStm
  by_cases q : zFs (fun j => !zIsO t w (yClp (J (109 + 2 * i) j)) 0) n < n
  · rw [if_pos q, if_pos q]
  · have s1 : I2 (108 + 2 * i) 2 = zi (n : Int) := by rw [p2.2.2 _ _ (zPs_o (by omega))]; exact hs
    have cs := cSize (d := d) (L := L) (J := J) (r := r) (by omega) (yRw_m hi) s1
    rw [if_neg q, if_neg q, eX11_storm_8, yRw_n hi, hg, zgd_t, cs, zbI_s, eX11_storm_9, if_pos (Int32.le_refl _), eX11_storm_13]
    rfl
theorem mStorm (hd : 9 ≤ d) (h : zTI I J t) (hn : 0 < t.n) {i : Nat} (hi : i < 4) {w : Int} (hw : 1 ≤ w ∧ w ≤ 20) {n : Nat} (hn60 : n ≤ 60) (hs : I 146 i = zi (n : Int)) : ∃ I', zX 0 (zCd zT d) zc_X12_storm 8 [some (.ref 130), some (.int (zi (i : Int))), some (.int (zi w)), some (.int 0), none, none] [] (zm L I J r) = some (some (.int (zi (yStm t w (fun k => J 147 (60 * i + k)) n))), (zm L I' J r)) ∧ zSm I I' ∧ I' 120 = I 120 := by
  obtain ⟨I2, p2, g2⟩ := zForS (n := n) (G := fun k I1 => zX 0 (zCd zT d) zc_X12_storm 8 [some (.ref 130), some (.int (zi (i : Int))), some (.int (zi w)), some (.int (zi ((k : Nat) : Int))), none, none] [] (zm L I1 J r)) (E := fun k I1 => some (some (.int (zi ((k : Nat) : Int))), (zm L I1 J r))) (P := fun I1 => zTI I1 J t ∧ I1 120 = I 120 ∧ zSm I I1) (stop := fun j => !zIsO t w (yClp (J 147 (60 * i + j))) 0) (fun k I1 hk hP => by
    have s1 : I1 146 i = zi (n : Int) := by rw [hP.2.2 _ _ rfl]; exact hs
    have k2 : (60 : Int32) * zi (i : Int) + zi ((k : Nat) : Int) = zi ((60 * i + k : Nat) : Int) := by rw [show (60 : Int32) = zi 60 from rfl, zi_mul, zi_add]; exact congrArg zi (by omega)
    obtain ⟨I2, c1, c2, c3, c4, c5, _⟩ := mOut (d := d) (L := L) (r := r) (by omega) hP.1 hn hw (wi := yClp (J 147 (60 * i + k))) yClp_b (co := 0) (by decide)
    have k1 : zi ((k : Nat) : Int) + (1 : Int32) = zi ((k + 1 : Nat) : Int) := zi_add _ 1
    have fin : ∀ (l : Int64), zX 0 (zCd zT d) zc_X12_storm 11 [some (.ref 130), some (.int (zi (i : Int))), some (.int (zi w)), some (.int (zi ((k : Nat) : Int))), some (.long (l)), none] [.int (zi (yClp (J 147 (60 * i + k)))), .int (zi w), .ref 130] (zm L I1 J r) = if (!zIsO t w (yClp (J 147 (60 * i + k))) 0) = true then some (some (.int (zi ((k : Nat) : Int))), (zm L I2 J r)) else zX 0 (zCd zT d) zc_X12_storm 8 [some (.ref 130), some (.int (zi (i : Int))), some (.int (zi w)), some (.int (zi ((k + 1 : Nat) : Int))), none, none] [] (zm L I2 J r) := by
      intro l
      have c1' : zCd zT d 279 [.ref 130, .int (zi w), .int (zi (yClp (J 147 (60 * i + k)))), .int 0] (zm L I1 J r) = some (none, (zm L I2 J r)) := c1
      rw [eX12_storm_11, c1', zbV_s, eX12_storm_12, eX12_storm_13, k1]
      by_cases q : zIsO t w (yClp (J 147 (60 * i + k))) 0 = true
      · rw [if_pos (c5.mpr q), q, if_neg (show ¬ (!true) = true by decide)]
      · rw [if_neg (fun x => q (c5.mp x)), if_pos (by rw [Bool.not_eq_true] at q; rw [q]; rfl)]
    refine ⟨I2, ⟨c2, c4.trans hP.2.1, zSm_tr hP.2.2 c3⟩, ?_⟩
    rw [eX12_storm_8, zin_t (by omega) (by omega), zgd_t, zi_cl (by omega), Int.toNat_natCast, s1, if_neg (show ¬ zi (n : Int) ≤ zi ((k : Nat) : Int) by rw [zi_le (by omega) (by omega)]; omega), k2, zin_t (by omega) (by omega), zgd_t, zi_cl (by omega), Int.toNat_natCast]
    have e2 : J 147 (60 * i + k) < (0 : Int64) ↔ (J 147 (60 * i + k)).toInt < 0 := Int64.lt_iff_toInt_lt
    have e3 : (99 : Int64) < J 147 (60 * i + k) ↔ 99 < (J 147 (60 * i + k)).toInt := Int64.lt_iff_toInt_lt
    by_cases h1 : (J 147 (60 * i + k)).toInt < 0
    · rw [if_neg (show ¬ (0 : Int32) ≤ lg_cmp (J 147 (60 * i + k)) 0 by rw [Int32.not_le]; exact (zlc_lt _ _).mpr (e2.mpr h1))]
      have e : yClp (J 147 (60 * i + k)) = 0 := by unfold yClp; rw [if_pos h1]
      have f := fin (J 147 (60 * i + k))
      rw [e] at f ⊢
      exact f
    · rw [if_pos (show (0 : Int32) ≤ lg_cmp (J 147 (60 * i + k)) 0 by rw [← Int32.not_lt]; exact fun w => h1 (e2.mp ((zlc_lt _ _).mp w))), eX12_storm_9]
      by_cases h2 : 99 < (J 147 (60 * i + k)).toInt
      · rw [if_neg (show ¬ lg_cmp (J 147 (60 * i + k)) 99 ≤ (0 : Int32) by rw [Int32.not_le]; exact (zlc_gt _ _).mpr (e3.mpr h2))]
        have e : yClp (J 147 (60 * i + k)) = 99 := by unfold yClp; rw [if_neg h1, if_pos h2]
        have f := fin (J 147 (60 * i + k))
        rw [e] at f ⊢
        exact f
      · rw [if_pos (show lg_cmp (J 147 (60 * i + k)) 99 ≤ (0 : Int32) by rw [← Int32.not_lt]; exact fun w => h2 (e3.mp ((zlc_gt _ _).mp w))), eX12_storm_10]
        have e : yClp (J 147 (60 * i + k)) = (J 147 (60 * i + k)).toInt := by unfold yClp; rw [if_neg h1, if_neg h2]
        have f := fin (J 147 (60 * i + k))
        rw [yT32 (by omega)]
        rw [e] at f ⊢
        exact f) I ⟨h, rfl, zSm_rf⟩
  refine ⟨I2, ?_, p2.2.2, p2.2.1⟩
  have z0 : zX 0 (zCd zT d) zc_X12_storm 8 [some (.ref 130), some (.int (zi (i : Int))), some (.int (zi w)), some (.int 0), none, none] [] (zm L I J r) = _ := g2
  rw [z0]
  unfold yStm
  by_cases q : zFs (fun j => !zIsO t w (yClp (J 147 (60 * i + j))) 0) n < n
  · rw [if_pos q, if_pos q]
  · have s1 : I2 146 i = zi (n : Int) := by rw [p2.2.2 _ _ rfl]; exact hs
    rw [if_neg q, if_neg q, eX12_storm_8, zin_t (by omega) (by omega), zgd_t, zi_cl (by omega), Int.toNat_natCast, s1, if_pos (Int32.le_refl _), eX12_storm_14]
    rfl
end
theorem yRf5 {n : Nat} (h : n = 0) : zRf false false n = -5 := by
  unfold zRf
  rw [if_neg (by decide), if_neg (by decide), if_pos h]
theorem yRf0 {n : Nat} (h : ¬ n = 0) : zRf false false n = 0 := by
  unfold zRf
  rw [if_neg (by decide), if_neg (by decide), if_neg h]
theorem yRf3 {n : Nat} : zRf false true n = -3 := by
  unfold zRf
  rw [if_neg (by decide), if_pos rfl]
theorem oStorm (a w : Int32) : zOk 213 363 [.int a, .int w] := by
  intro L c r I J y z0 z1 hc hr hv
  obtain ⟨a, rfl, ba⟩ := zi_of a
  obtain ⟨w, rfl, bw⟩ := zi_of w
  have hT := zV_TI hv
  have h0 : zTI (zu I 130 0 (zi 0)) J y.1 := zTI_fr zSm_0 hT
  cases h1 : zbo a 0 3
  · have g1 := zbo_f h1
    obtain ⟨i, rfl⟩ : ∃ i : Nat, a = i := ⟨a.toNat, by omega⟩
    have hi : i < 4 := by omega
    have hg : (decide (16 ≤ 108 + 2 * i) && zin (zi (i : Int)) 4) = true := by
      rw [zin_t (by omega) (by omega), Bool.and_true]
      exact decide_eq_true (by omega)
    cases h2 : zbo w 1 20
    · have cr : zCd zT 59 219 [.ref 16, .int (zi 0), .int (zi 0)] (zm L I J r) = _ := cRef (L := L) (r := r) (by omega) hT false false
      have mt := mTrack (d := 59) (L := L) (r := r) (by omega) h0
      by_cases h3 : y.1.n = 0
      · rw [yRf5 h3] at cr
        rw [decide_eq_false (show ¬ 0 < y.1.n by omega)] at mt
        refine zGo_0 hr hv (.int (zi (-5))) ?_ ?_
        · simp (disch := omega) only [qX11_storm, eX11_storm_0, eX11_storm_1, eX11_storm_2, eX11_storm_3, eX11_storm_4, cNoRow, cBadW, cr, h1, h2, if_true, if_false, zi_eq, zbI_s, zbL_s, zbV_s, zgd_t, zb1_t, zb1_f, zb1_01, zz_0, zz_1, zi_lit, zi_add, zi_sub, zi_mul, zi_neg, zi_z0]
          rfl
        · simp (disch := omega) only [qX12_storm, eX12_storm_0, eX12_storm_1, eX12_storm_2, eX12_storm_3, eX12_storm_4, eX12_storm_5, mWithin, show (0 : Int64).toInt = 0 from rfl, show (3 : Int64).toInt = 3 from rfl, mWeight, mt, h1, h2, zi_eq, Bool.not_false, Bool.not_true, yI1, if_true, if_false, zbI_s, zbL_s, zbV_s, zgd_t, zb1_t, zb1_f, zb1_01, zz_0, zz_1, zi_lit, zi_add, zi_sub, zi_mul, zi_neg, zi_z0]
      · rw [yRf0 h3] at cr
        have h3 : 0 < y.1.n := by omega
        rw [decide_eq_true h3] at mt
        obtain ⟨s, n, bs, bn, x1, x2, x3, x4, x5⟩ := yRw_s hv.2.2.2.2.2.1 hi
        have cm := cMiss (d := 59) (L := L) (J := J) (r := r) (by omega) (yRw_m hi) (show -2147483648 ≤ s ∧ s < 2147483648 by omega) x1
        have y3 : zu I 130 0 (zi 0) 145 i = zi s := by rw [zu_n (by omega)]; exact x3
        by_cases h4 : s = -1
        · refine zGo_0 hr hv (.int (zi (-6))) ?_ ?_
          · rw [decide_eq_true h4] at cm
            simp (disch := omega) only [qX11_storm, eX11_storm_0, eX11_storm_1, eX11_storm_2, eX11_storm_3, eX11_storm_4, eX11_storm_5, eX11_storm_6, cNoRow, cBadW, cr, h1, h2, hg, yRw_n hi, cm, zi_eq, yI1, if_true, if_false, zbI_s, zbL_s, zbV_s, zgd_t, zb1_t, zb1_f, zb1_01, zz_0, zz_1, zi_lit, zi_add, zi_sub, zi_mul, zi_neg, zi_z0]
          · simp (disch := omega) only [qX12_storm, eX12_storm_0, eX12_storm_1, eX12_storm_2, eX12_storm_3, eX12_storm_4, eX12_storm_5, eX12_storm_6, mWithin, show (0 : Int64).toInt = 0 from rfl, show (3 : Int64).toInt = 3 from rfl, mWeight, mt, h1, h2, y3, zi_eq, h4, zin_t, zi_cl, Int.toNat_natCast, Bool.not_false, Bool.not_true, yI1, if_true, if_false, zbI_s, zbL_s, zbV_s, zgd_t, zb1_t, zb1_f, zb1_01, zz_0, zz_1, zi_lit, zi_add, zi_sub, zi_mul, zi_neg, zi_z0]
        · rw [decide_eq_false h4] at cm
          have g2 := zbo_f h2
          obtain ⟨n, rfl⟩ : ∃ k : Nat, n = k := ⟨n.toNat, by omega⟩
          refine zGo_s hr hv (.int (zi (yStm y.1 w (J (109 + 2 * i)) n))) ?_ ?_
          · obtain ⟨I2, c1, c2, c3⟩ := cStorm (d := 59) (L := L) (r := r) (by omega) hT hv.2.2.2.2.2.2.2.2.2 h3 hi g2 (by omega) x2 (zi 0)
            have c1' : zX 0 (zCd zT 59) zc_X11_storm 8 [some (.ref 16), some (.int (zi (i : Int))), some (.int (zi w)), some (.int (zi 0)), some (.int (zi 0)), none] [] (zm L I J r) = _ := c1
            refine ⟨I2, ?_, c2, c3⟩
            simp (disch := omega) only [qX11_storm, eX11_storm_0, eX11_storm_1, eX11_storm_2, eX11_storm_3, eX11_storm_4, eX11_storm_5, eX11_storm_6, eX11_storm_7, cNoRow, cBadW, cr, h1, h2, hg, yRw_n hi, cm, c1', zi_eq, yI1, if_true, if_false, zbI_s, zbL_s, zbV_s, zgd_t, zb1_t, zb1_f, zb1_01, zz_0, zz_1, zi_lit, zi_add, zi_sub, zi_mul, zi_neg, zi_z0]
          · intro I1 s1 v1
            have hT1 : zTI (zu I1 130 0 (zi 0)) J y.1 := zTI_fr zSm_0 (zV_TI v1)
            have mt := mTrack (d := 59) (L := L) (r := r) (by omega) hT1
            rw [decide_eq_true h3] at mt
            have y3 : zu I1 130 0 (zi 0) 145 i = zi s := by rw [zu_n (by omega), s1 145 i rfl]; exact x3
            have y4 : zu I1 130 0 (zi 0) 146 i = zi n := by rw [zu_n (by omega), s1 146 i rfl]; exact x4
            obtain ⟨I2, m1, m2, m3⟩ := mStorm (d := 59) (L := L) (r := r) (by omega) hT1 h3 hi g2 (by omega) y4
            have m1' : zX 0 (zCd zT 59) zc_X12_storm 8 [some (.ref 130), some (.int (zi (i : Int))), some (.int (zi w)), some (.int (zi 0)), none, none] [] (zm L (zu I1 130 0 (zi 0)) J r) = _ := m1
            have q0 : zu I1 130 0 (zi 0) 120 = I1 120 := zu_o (by decide)
            refine ⟨I2, ?_, zSm_tr zSm_0 m2, m3.trans q0⟩
            rw [yStm_c (f := J (109 + 2 * i)) (g := fun k => J 147 (60 * i + k)) (fun k hk => x5 k (by omega))]
            simp (disch := omega) only [qX12_storm, eX12_storm_0, eX12_storm_1, eX12_storm_2, eX12_storm_3, eX12_storm_4, eX12_storm_5, eX12_storm_6, eX12_storm_7, mWithin, show (0 : Int64).toInt = 0 from rfl, show (3 : Int64).toInt = 3 from rfl, mWeight, mt, m1', h1, h2, y3, zi_eq, h4, zin_t, zi_cl, Int.toNat_natCast, Bool.not_false, Bool.not_true, yI1, if_true, if_false, zbI_s, zbL_s, zbV_s, zgd_t, zb1_t, zb1_f, zb1_01, zz_0, zz_1, zi_lit, zi_add, zi_sub, zi_mul, zi_neg, zi_z0]
    · have cr : zCd zT 59 219 [.ref 16, .int (zi 0), .int (zi 1)] (zm L I J r) = _ := cRef (L := L) (r := r) (by omega) hT false true
      rw [yRf3] at cr
      refine zGo_0 hr hv (.int (zi (-3))) ?_ ?_
      · simp (disch := omega) only [qX11_storm, eX11_storm_0, eX11_storm_1, eX11_storm_2, eX11_storm_3, eX11_storm_4, cNoRow, cBadW, cr, h1, h2, if_true, if_false, zi_eq, zbI_s, zbL_s, zbV_s, zgd_t, zb1_t, zb1_f, zb1_01, zz_0, zz_1, zi_lit, zi_add, zi_sub, zi_mul, zi_neg, zi_z0]
        rfl
      · simp (disch := omega) only [qX12_storm, eX12_storm_0, eX12_storm_1, eX12_storm_2, eX12_storm_3, mWithin, show (0 : Int64).toInt = 0 from rfl, show (3 : Int64).toInt = 3 from rfl, mWeight, h1, h2, zi_eq, Bool.not_false, Bool.not_true, yI1, if_true, if_false, zbI_s, zbL_s, zbV_s, zgd_t, zb1_t, zb1_f, zb1_01, zz_0, zz_1, zi_lit, zi_add, zi_sub, zi_mul, zi_neg, zi_z0]
  · refine zGo_0 hr hv (.int (zi (-2))) ?_ ?_
    · simp (disch := omega) only [qX11_storm, eX11_storm_0, eX11_storm_1, cNoRow, h1, if_true, if_false, zbI_s, zbL_s, zbV_s, zgd_t, zb1_t, zb1_f, zb1_01, zz_0, zz_1, zi_lit, zi_add, zi_sub, zi_mul, zi_neg, zi_z0]
    · simp (disch := omega) only [qX12_storm, eX12_storm_0, eX12_storm_1, mWithin, show (0 : Int64).toInt = 0 from rfl, show (3 : Int64).toInt = 3 from rfl, h1, Bool.not_false, Bool.not_true, if_true, if_false, zbI_s, zbL_s, zbV_s, zgd_t, zb1_t, zb1_f, zb1_01, zz_0, zz_1, zi_lit, zi_add, zi_sub, zi_mul, zi_neg, zi_z0]
