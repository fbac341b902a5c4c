/-! KEEP: the speeds of a RUN into a row -/
def yKp (x : Int) : Int64 := (if (0 : Int32) < zi x then zi x else 0).toInt64
def yFs (t : zDy) (w : Int) (p : Nat) : Int := zfSp (zRu t (zLss t w 0 0) 0 t.push).2 p
theorem zTI_fj {I : Nat → Nat → Int32} {J J1 : Nat → Nat → Int64} {t : zDy} (h : zTI I J t) (e : J1 36 = J 36) (e2 : J1 32 = J 32) : zTI I J1 t := by
  have e' : J1 (36 + 0) = J (36 + 0) := e
  have e3 : J1 (32 + 0) = J (32 + 0) := e2
  unfold zTI cTr at h ⊢
  rw [e', e3]
  exact h
section
variable {d L r : Nat} {I : Nat → Nat → Int32} {J : Nat → Nat → Int64}
variable {t : zDy}
theorem cKeep (hd : 8 ≤ d) (h : zTI I J t) (hn : 0 < t.n) {i : Nat} (hi : i < 4) {w : Int} (hw : 1 ≤ w ∧ w ≤ 20) {s n : Int} (bs : -1 ≤ s ∧ s ≤ 3) (bn : (t.n : Int) ≤ n ∧ n ≤ 60) (h1 : I (108 + 2 * i) 1 = zi s) (h2 : I (108 + 2 * i) 2 = zi n) (x : Int32) : ∃ I' J', zX 0 (zCd zT d) zc_X11_keep 10 [some (.ref 16), some (.int (zi (i : Int))), some (.int (zi w)), some (.int x), some (.int (zi (t.n : Int))), none] [] (zm L I J r) = some (some (.int (zi (t.n : Int))), (zm L I' J' r)) ∧ zFr3 I I' ∧ (∀ o, o ≠ 109 + 2 * i → J' o = J o) ∧ ∀ j, J' (109 + 2 * i) j = if j < t.n then yCut s (yKp (yFs t w j)) else J (109 + 2 * i) j := by
  have hn60 := h.2.2.1.1
  have hg : (decide (16 ≤ 108 + 2 * i) && zin (zi (i : Int)) 4) = true := by
    rw [zin_t (by omega) (by omega), Bool.and_true]
    exact decide_eq_true (by omega)
  obtain ⟨I1, c1, c2, c3, _⟩ := cPass (d := d) (L := L) (r := r) (by omega) h hn hw (wi := 0) (co := 0) (by decide) (by decide)
  have c1' : zCd zT d 238 [.ref 16, .int (zi w), .int 0, .int 0] (zm L I J r) = _ := c1
  have f1 : I1 (108 + 2 * i) 1 = zi s := by rw [c3 _ (by omega) (by omega) (by omega)]; exact h1
  have f2 : I1 (108 + 2 * i) 2 = zi n := by rw [c3 _ (by omega) (by omega) (by omega)]; exact h2
  obtain ⟨J1, p1, p2, p3⟩ := zForI (n := t.n) (G := fun k J1 => zX 0 (zCd zT d) zc_X11_keep 12 [some (.ref 16), some (.int (zi (i : Int))), some (.int (zi w)), some (.int x), some (.int (zi (t.n : Int))), some (.int (zi ((k : Nat) : Int)))] [] (zm L I1 J1 r)) (P := fun k J1 => (∀ o, o ≠ 109 + 2 * i → J1 o = J o) ∧ ∀ j, J1 (109 + 2 * i) j = if j < k then yCut s (yKp (yFs t w j)) else J (109 + 2 * i) j) (fun k J1 hk hP => by
    have k1 : zi ((k : Nat) : Int) + (1 : Int32) = zi ((k + 1 : Nat) : Int) := zi_add _ 1
    have cf : zCd zT d 31 [.ref 116, .int (zi (k : Int))] (zm L I1 J1 r) = some (some (.int (zi (yFs t w k))), (zm L I1 J1 r)) := cFirst (by omega) c2 (by omega)
    have cp := cPut (d := d) (L := L) (J := J1) (r := r) (v := yKp (yFs t w k)) (by omega) (yRw_m hi) bs f1 f2 (k := k) (by omega) bn.2
    refine ⟨zuL J1 (108 + 2 * i + 1) k (yCut s (yKp (yFs t w k))), ?_, fun o ho => ?_, fun j => ?_⟩
    · rw [eX11_keep_12, if_neg (show ¬ zi (t.n : Int) ≤ zi ((k : Nat) : Int) by rw [zi_le (by omega) (by omega)]; omega), yRw_n hi, hg, zgd_t, cf, zbI_s, eX11_keep_13]
      refine (congrArg (fun z => zbL z _) cp).trans ?_
      rw [zbL_s, eX11_keep_14, k1]
    · rw [show zuL J1 (108 + 2 * i + 1) k (yCut s (yKp (yFs t w k))) o = J1 o from funext fun j => zuL_n (by omega)]
      exact hP.1 o ho
    · by_cases e : j = k
      · rw [zuL_y (by omega), if_pos (by omega), e]
      · rw [zuL_n (by omega), hP.2 j]
        by_cases e2 : j < k
        · rw [if_pos e2, if_pos (by omega)]
        · rw [if_neg e2, if_neg (by omega)]) J ⟨fun _ _ => rfl, fun j => by rw [if_neg (by omega)]⟩
  have z0 : zX 0 (zCd zT d) zc_X11_keep 12 [some (.ref 16), some (.int (zi (i : Int))), some (.int (zi w)), some (.int x), some (.int (zi (t.n : Int))), some (.int 0)] [] (zm L I1 J r) = _ := p1
  refine ⟨I1, J1, ?_, c3, p2, p3⟩
  rw [eX11_keep_10, c1', zbV_s, eX11_keep_11, z0, eX11_keep_12, if_pos (Int32.le_refl _), eX11_keep_15]
theorem mKeep (hd : 9 ≤ d) (h : zTI I J t) (hn : 0 < t.n) {i : Nat} (hi : i < 4) {w : Int} (hw : 1 ≤ w ∧ w ≤ 20) {s n : Int} (bs : -1 ≤ s ∧ s ≤ 3) (bn : (t.n : Int) ≤ n ∧ n ≤ 60) (h1 : I 145 i = zi s) (h2 : I 146 i = zi n) : ∃ I' J', zX 0 (zCd zT d) zc_X12_keep 8 [some (.ref 130), some (.int (zi (i : Int))), some (.int (zi w)), none] [] (zm L I J r) = some (some (.int (zi (t.n : Int))), (zm L I' J' r)) ∧ zSm I I' ∧ I' 120 = I 120 ∧ (∀ o, o ≠ 147 → J' o = J o) ∧ ∀ j, J' 147 j = if 60 * i ≤ j ∧ j < 60 * i + t.n then yCut s (yKp (yFs t w (j - 60 * i))) else J 147 j := by
  have hn60 := h.2.2.1.1
  obtain ⟨I1, c1, c2, c3, c4, _, c5⟩ := mOut (d := d) (L := L) (r := r) (by omega) h hn hw (wi := 0) (co := 0) (by decide) (by decide)
  have c1' : zCd zT d 279 [.ref 130, .int (zi w), .int 0, .int 0] (zm L I J r) = _ := c1
  have en : I1 131 0 = zi t.n := c2.2.1.1
  have f1 : I1 145 i = zi s := by rw [c3 145 i rfl]; exact h1
  have fs : ∀ p, p < t.n → I1 135 p = zi (yFs t w p) ∧ -1 ≤ yFs t w p ∧ yFs t w p ≤ 999 := by
    intro p hp
    unfold yFs
    generalize zRu t (zLss t w 0 0) 0 t.push = s at c5
    obtain ⟨en, fo, at1, pa, ti, tu, tp, td, pul, sl, fs, ft⟩ := s
    obtain ⟨a, b, c, _⟩ := c5.2.2 p hp
    exact ⟨a, b, c⟩
  obtain ⟨J1, p1, p2, p3⟩ := zForI (n := t.n) (G := fun k J1 => zX 0 (zCd zT d) zc_X12_keep 10 [some (.ref 130), some (.int (zi (i : Int))), some (.int (zi w)), some (.int (zi ((k : Nat) : Int)))] [] (zm L I1 J1 r)) (P := fun k J1 => (∀ o, o ≠ 147 → J1 o = J o) ∧ ∀ j, J1 147 j = if 60 * i ≤ j ∧ j < 60 * i + k then yCut s (yKp (yFs t w (j - 60 * i))) else J 147 j) (fun k J1 hk hP => by
    have k1 : zi ((k : Nat) : Int) + (1 : Int32) = zi ((k + 1 : Nat) : Int) := zi_add _ 1
    have k2 : (60 : Int32) * zi (i : Int) + zi ((k : Nat) : Int) = zi ((60 * i + k : Nat) : Int) := by rw [show (60 : Int32) = zi 60 from rfl, zi_mul, zi_add]; exact congrArg zi (by omega)
    obtain ⟨g1, g2, g3⟩ := fs k hk
    have fin : ∀ v : Int64, v = yKp (yFs t w k) → zX 0 (zCd zT d) zc_X12_keep 12 [some (.ref 130), some (.int (zi (i : Int))), some (.int (zi w)), some (.int (zi ((k : Nat) : Int)))] [.long (v), .int ((zi ((60 * i + k : Nat) : Int))), .ref 147] (zm L I1 J1 r) = zX 0 (zCd zT d) zc_X12_keep 10 [some (.ref 130), some (.int (zi (i : Int))), some (.int (zi w)), some (.int (zi ((k + 1 : Nat) : Int)))] [] (zm L I1 (zuL J1 147 (60 * i + k) (yCut s (yKp (yFs t w k)))) r) := by
      intro v hv
      rw [eX12_keep_12, zin_t (by omega) (by omega), zgd_t, zi_cl (by omega), Int.toNat_natCast, f1, mCut (by omega) (by omega), zbL_s, eX12_keep_13, zin_t (by omega) (by omega), zgd_t, zi_cl (by omega), Int.toNat_natCast, k1, hv]
    refine ⟨zuL J1 147 (60 * i + k) (yCut s (yKp (yFs t w k))), ?_, fun o ho => ?_, fun j => ?_⟩
    · rw [eX12_keep_10, en, if_neg (show ¬ zi (t.n : Int) ≤ zi ((k : Nat) : Int) by rw [zi_le (by omega) (by omega)]; omega), zin_t (by omega) (by omega), zgd_t, zi_cl (by omega), Int.toNat_natCast, g1, k2]
      by_cases q : yFs t w k = -1
      · rw [if_pos ((zi_m1 (by omega)).mpr q)]
        refine fin 0 ?_
        rw [q]
        rfl
      · rw [if_neg (fun x => q ((zi_m1 (by omega)).mp x)), eX12_keep_11, zin_t (by omega) (by omega), zgd_t, zi_cl (by omega), Int.toNat_natCast, g1]
        refine fin _ ?_
        unfold yKp
        by_cases q2 : yFs t w k = 0
        · rw [q2]
          rfl
        · rw [if_pos (show (0 : Int32) < zi (yFs t w k) by rw [show (0 : Int32) = zi 0 from rfl, zi_lt (by decide) (by omega)]; omega)]
    · rw [show zuL J1 147 (60 * i + k) (yCut s (yKp (yFs t w k))) o = J1 o from funext fun j => zuL_n (fun q => ho q.1)]
      exact hP.1 o ho
    · by_cases e : j = 60 * i + k
      · rw [zuL_y ⟨rfl, e⟩, if_pos (by omega), e, show 60 * i + k - 60 * i = k by omega]
      · rw [zuL_n (by omega), hP.2 j]
        by_cases e2 : 60 * i ≤ j ∧ j < 60 * i + k
        · rw [if_pos e2, if_pos (by omega)]
        · rw [if_neg e2, if_neg (by omega)]) J ⟨fun _ _ => rfl, fun j => by rw [if_neg (by omega)]⟩
  have z0 : zX 0 (zCd zT d) zc_X12_keep 10 [some (.ref 130), some (.int (zi (i : Int))), some (.int (zi w)), some (.int 0)] [] (zm L I1 J r) = _ := p1
  refine ⟨I1, J1, ?_, c3, c4, p2, p3⟩
  rw [eX12_keep_8, c1', zbV_s, eX12_keep_9, z0, eX12_keep_10, en, if_pos (Int32.le_refl _), eX12_keep_14, en]
end
theorem oKeep (a w : Int32) : zOk 214 364 [.int a, .int w] := by
  intro L c r I J y z0 z1 hc hr hv
  obtain ⟨a, rfl, ba⟩ := zi_of a
  obtain ⟨w, rfl, bw⟩ := zi_of w
  have hT := zV_TI hv
  have h0 : zTI (zu I 130 0 (zi 0)) J y.1 := zTI_fr zSm_0 hT
  have hn60 := hT.2.2.1.1
  cases h1 : zbo a 0 3
  · have g1 := zbo_f h1
    obtain ⟨i, rfl⟩ : ∃ i : Nat, a = i := ⟨a.toNat, by omega⟩
    have hi : i < 4 := by omega
    have hg : (decide (16 ≤ 108 + 2 * i) && zin (zi (i : Int)) 4) = true := by
      rw [zin_t (by omega) (by omega), Bool.and_true]
      exact decide_eq_true (by omega)
    cases h2 : zbo w 1 20
    · have cr : zCd zT 59 219 [.ref 16, .int (zi 0), .int (zi 0)] (zm L I J r) = _ := cRef (L := L) (r := r) (by omega) hT false false
      have mt := mTrack (d := 59) (L := L) (r := r) (by omega) h0
      by_cases h3 : y.1.n = 0
      · rw [yRf5 h3] at cr
        rw [decide_eq_false (show ¬ 0 < y.1.n by omega)] at mt
        refine zGo_0 hr hv (.int (zi (-5))) ?_ ?_
        · simp (disch := omega) only [qX11_keep, eX11_keep_0, eX11_keep_1, eX11_keep_2, eX11_keep_3, eX11_keep_4, cNoRow, cBadW, cr, h1, h2, if_true, if_false, zi_eq, zbI_s, zbL_s, zbV_s, zgd_t, zb1_t, zb1_f, zb1_01, zz_0, zz_1, zi_lit, zi_add, zi_sub, zi_mul, zi_neg, zi_z0]
          rfl
        · simp (disch := omega) only [qX12_keep, eX12_keep_0, eX12_keep_1, eX12_keep_2, eX12_keep_3, eX12_keep_4, eX12_keep_5, mWithin, show (0 : Int64).toInt = 0 from rfl, show (3 : Int64).toInt = 3 from rfl, mWeight, mt, h1, h2, zi_eq, Bool.not_false, Bool.not_true, yI1, if_true, if_false, zbI_s, zbL_s, zbV_s, zgd_t, zb1_t, zb1_f, zb1_01, zz_0, zz_1, zi_lit, zi_add, zi_sub, zi_mul, zi_neg, zi_z0]
      · rw [yRf0 h3] at cr
        have h3 : 0 < y.1.n := by omega
        rw [decide_eq_true h3] at mt
        obtain ⟨s, n, bs, bn, x1, x2, x3, x4, x5⟩ := yRw_s hv.2.2.2.2.2.1 hi
        have cm := cMiss (d := 59) (L := L) (J := J) (r := r) (by omega) (yRw_m hi) (show -2147483648 ≤ s ∧ s < 2147483648 by omega) x1
        have cs := cSize (d := 59) (L := L) (J := J) (r := r) (by omega) (yRw_m hi) x2
        have y3 : zu I 130 0 (zi 0) 145 i = zi s := by rw [zu_n (by omega)]; exact x3
        have y4 : zu I 130 0 (zi 0) 146 i = zi n := by rw [zu_n (by omega)]; exact x4
        have y5 : zu I 130 0 (zi 0) 131 0 = zi y.1.n := h0.2.1.1
        have cn : zCd zT 59 112 [.ref 32] (zm L I J r) = some (some (.int (zi y.1.n)), (zm L I J r)) := by
          rw [sX9_points (by omega) (o := 32) (by decide), show I 32 5 = zi y.1.n from hT.1.1]
        by_cases h4 : s = -1
        · refine zGo_0 hr hv (.int (zi (-6))) ?_ ?_
          · rw [decide_eq_true h4] at cm
            simp (disch := omega) only [qX11_keep, eX11_keep_0, eX11_keep_1, eX11_keep_2, eX11_keep_3, eX11_keep_4, eX11_keep_5, eX11_keep_6, cNoRow, cBadW, cr, h1, h2, hg, yRw_n hi, cm, zi_eq, yI1, if_true, if_false, zbI_s, zbL_s, zbV_s, zgd_t, zb1_t, zb1_f, zb1_01, zz_0, zz_1, zi_lit, zi_add, zi_sub, zi_mul, zi_neg, zi_z0]
          · simp (disch := omega) only [qX12_keep, eX12_keep_0, eX12_keep_1, eX12_keep_2, eX12_keep_3, eX12_keep_4, eX12_keep_5, eX12_keep_6, mWithin, show (0 : Int64).toInt = 0 from rfl, show (3 : Int64).toInt = 3 from rfl, mWeight, mt, h1, h2, y3, zi_eq, h4, zin_t, zi_cl, Int.toNat_natCast, Bool.not_false, Bool.not_true, yI1, if_true, if_false, zbI_s, zbL_s, zbV_s, zgd_t, zb1_t, zb1_f, zb1_01, zz_0, zz_1, zi_lit, zi_add, zi_sub, zi_mul, zi_neg, zi_z0]
        · rw [decide_eq_false h4] at cm
          have g2 := zbo_f h2
          by_cases h5 : (y.1.n : Int) ≤ n
          · obtain ⟨I1, J1, c1, c2, c3, c4⟩ := cKeep (d := 59) (L := L) (r := r) (by omega) hT h3 hi g2 bs ⟨h5, bn.2⟩ x1 x2 (zi 0)
            have hk : zSm I I1 := zSm_3 c2
            have hT1 : zTI (zu I1 130 0 (zi 0)) J1 y.1 := zTI_fj (zTI_fr (zSm_tr hk zSm_0) hT) (c3 36 (by omega)) (c3 32 (by omega))
            have mt := mTrack (d := 59) (L := L) (r := r) (by omega) hT1
            rw [decide_eq_true h3] at mt
            have y3 : zu I1 130 0 (zi 0) 145 i = zi s := by rw [zu_n (by omega), hk 145 i rfl]; exact x3
            have y4 : zu I1 130 0 (zi 0) 146 i = zi n := by rw [zu_n (by omega), hk 146 i rfl]; exact x4
            have y5 : zu I1 130 0 (zi 0) 131 0 = zi y.1.n := hT1.2.1.1
            obtain ⟨I2, J2, m1, m2, m3, m4, m5⟩ := mKeep (d := 59) (L := L) (r := r) (by omega) hT1 h3 hi g2 bs ⟨h5, bn.2⟩ y3 y4
            have hk2 : zSm I I2 := zSm_tr hk (zSm_tr zSm_0 m2)
            refine ⟨.int (zi y.1.n), I1, J1, r, I2, J2, r, y, z0, z1, ?_, ?_, hr, zV_row hv (fun o k w1 w2 w3 w4 w5 => ?_) (fun o w1 w2 => ?_) ?_⟩
            · simp (disch := omega) only [qX11_keep, eX11_keep_0, eX11_keep_1, eX11_keep_2, eX11_keep_3, eX11_keep_4, eX11_keep_5, eX11_keep_6, eX11_keep_7, eX11_keep_8, eX11_keep_9, cNoRow, cBadW, cr, h1, h2, hg, yRw_n hi, cm, cn, cs, c1, zi_eq, zi_le, h5, yI1, if_true, if_false, zbI_s, zbL_s, zbV_s, zgd_t, zb1_t, zb1_f, zb1_01, zz_0, zz_1, zi_lit, zi_add, zi_sub, zi_mul, zi_neg, zi_z0]
            · simp (disch := omega) only [qX12_keep, eX12_keep_0, eX12_keep_1, eX12_keep_2, eX12_keep_3, eX12_keep_4, eX12_keep_5, eX12_keep_6, eX12_keep_7, mWithin, show (0 : Int64).toInt = 0 from rfl, show (3 : Int64).toInt = 3 from rfl, mWeight, mt, m1, h1, h2, y3, y4, y5, zi_eq, zi_le, h4, h5, zin_t, zi_cl, Int.toNat_natCast, Bool.not_false, Bool.not_true, yI1, if_true, if_false, zbI_s, zbL_s, zbV_s, zgd_t, zb1_t, zb1_f, zb1_01, zz_0, zz_1, zi_lit, zi_add, zi_sub, zi_mul, zi_neg, zi_z0]
            · obtain w5 | w5 := w5
              · exact hk2 o k w5
              · rw [w5, m3, zu_o (by decide), c2 120 (by decide) (by decide) (by decide)]
            · rw [m4 o w2, c3 o (by omega)]
            · intro j hj
              obtain ⟨v1, v2, s', n', v3, v4, v5, v6, v7, v8, v9⟩ := hv.2.2.2.2.2.1 j hj
              refine ⟨?_, ?_, s', n', ?_, ?_, v5, v6, v7, v8, fun k hk3 => ?_⟩
              · rw [hk2 _ _ (zPs_o (by omega)), hk2 145 j rfl]
                exact v1
              · rw [hk2 _ _ (zPs_o (by omega)), hk2 146 j rfl]
                exact v2
              · rw [hk2 145 j rfl]
                exact v3
              · rw [hk2 146 j rfl]
                exact v4
              · rw [m4 _ (by omega), m5]
                by_cases e : j = i
                · subst e
                  rw [c4 k]
                  by_cases e2 : k < y.1.n
                  · rw [if_pos e2, if_pos (by omega), show 60 * j + k - 60 * j = k by omega]
                  · rw [if_neg e2, if_neg (by omega), c3 _ (by omega)]
                    exact v9 k hk3
                · rw [c3 _ (by omega), if_neg (by omega), c3 _ (by omega)]
                  exact v9 k hk3
          · refine zGo_0 hr hv (.int (zi (-7))) ?_ ?_
            · simp (disch := omega) only [qX11_keep, eX11_keep_0, eX11_keep_1, eX11_keep_2, eX11_keep_3, eX11_keep_4, eX11_keep_5, eX11_keep_6, eX11_keep_7, eX11_keep_8, eX11_keep_9, cNoRow, cBadW, cr, h1, h2, hg, yRw_n hi, cm, cn, cs, zi_eq, zi_le, h5, yI1, if_true, if_false, zbI_s, zbL_s, zbV_s, zgd_t, zb1_t, zb1_f, zb1_01, zz_0, zz_1, zi_lit, zi_add, zi_sub, zi_mul, zi_neg, zi_z0]
            · simp (disch := omega) only [qX12_keep, eX12_keep_0, eX12_keep_1, eX12_keep_2, eX12_keep_3, eX12_keep_4, eX12_keep_5, eX12_keep_6, eX12_keep_7, mWithin, show (0 : Int64).toInt = 0 from rfl, show (3 : Int64).toInt = 3 from rfl, mWeight, mt, h1, h2, y3, y4, y5, zi_eq, zi_le, h4, h5, zin_t, zi_cl, Int.toNat_natCast, Bool.not_false, Bool.not_true, yI1, if_true, if_false, zbI_s, zbL_s, zbV_s, zgd_t, zb1_t, zb1_f, zb1_01, zz_0, zz_1, zi_lit, zi_add, zi_sub, zi_mul, zi_neg, zi_z0]
    · have cr : zCd zT 59 219 [.ref 16, .int (zi 0), .int (zi 1)] (zm L I J r) = _ := cRef (L := L) (r := r) (by omega) hT false true
      rw [yRf3] at cr
      refine zGo_0 hr hv (.int (zi (-3))) ?_ ?_
      · simp (disch := omega) only [qX11_keep, eX11_keep_0, eX11_keep_1, eX11_keep_2, eX11_keep_3, eX11_keep_4, cNoRow, cBadW, cr, h1, h2, if_true, if_false, zi_eq, zbI_s, zbL_s, zbV_s, zgd_t, zb1_t, zb1_f, zb1_01, zz_0, zz_1, zi_lit, zi_add, zi_sub, zi_mul, zi_neg, zi_z0]
        rfl
      · simp (disch := omega) only [qX12_keep, eX12_keep_0, eX12_keep_1, eX12_keep_2, eX12_keep_3, mWithin, show (0 : Int64).toInt = 0 from rfl, show (3 : Int64).toInt = 3 from rfl, mWeight, h1, h2, zi_eq, Bool.not_false, Bool.not_true, yI1, if_true, if_false, zbI_s, zbL_s, zbV_s, zgd_t, zb1_t, zb1_f, zb1_01, zz_0, zz_1, zi_lit, zi_add, zi_sub, zi_mul, zi_neg, zi_z0]
  · refine zGo_0 hr hv (.int (zi (-2))) ?_ ?_
    · simp (disch := omega) only [qX11_keep, eX11_keep_0, eX11_keep_1, cNoRow, h1, if_true, if_false, zbI_s, zbL_s, zbV_s, zgd_t, zb1_t, zb1_f, zb1_01, zz_0, zz_1, zi_lit, zi_add, zi_sub, zi_mul, zi_neg, zi_z0]
    · simp (disch := omega) only [qX12_keep, eX12_keep_0, eX12_keep_1, mWithin, show (0 : Int64).toInt = 0 from rfl, show (3 : Int64).toInt = 3 from rfl, h1, Bool.not_false, Bool.not_true, if_true, if_false, zbI_s, zbL_s, zbV_s, zgd_t, zb1_t, zb1_f, zb1_01, zz_0, zz_1, zi_lit, zi_add, zi_sub, zi_mul, zi_neg, zi_z0]
