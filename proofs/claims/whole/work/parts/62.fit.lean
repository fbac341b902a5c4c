section
variable {d L r : Nat} {I : Nat → Nat → Int32} {J : Nat → Nat → Int64}
variable {t : zDy}
theorem mLossB (hd : 1 ≤ d) {x w : Int} (hx : 0 ≤ x ∧ x ≤ 1000) (hw : 1 ≤ w ∧ w ≤ 20) : zCd zT d 278 [.ref 130, .int (zi x), .int (zi w), .int 0, .int 0] (zm L I J r) = some (some (.int (zi (10 * x / w))), (zm L I J r)) := by
  rw [sX12_lossOf hd, show decide (zi w ≠ 0) = true by
    rw [decide_eq_true_iff]
    simp (disch := omega) only [zi_lit, ne_eq, zi_eq]
    omega, zgd_t]
  have : ((10 : Int32) * zi x + (2 : Int32) * 0 + 0) / zi w = zi (10 * x / w) := by
    simp (disch := omega) only [zi_lit, zi_mul, zi_add, zi_div]
    exact congrArg zi (by rw [show (10 * x + 2 * 0 + 0 : Int) = 10 * x by omega])
  rw [this]
theorem mTF (hd : 1 ≤ d) {x due off : Int} (hx : -1 ≤ x ∧ x ≤ 3300) (h1 : 1 ≤ due ∧ due ≤ 99999) (h2 : 0 ≤ off ∧ off ≤ 99) : zCd zT d 240 [.long ((zi x).toInt64), .long ((zi due - zi off).toInt64), .long ((zi due + zi off).toInt64)] (zm L I J r) = some (some (.int (zb1 (decide (due - off ≤ x ∧ x ≤ due + off)))), (zm L I J r)) := by
  have e1 : (zi due - zi off).toInt64.toInt = due - off := by rw [zi_sub, Int32.toInt_toInt64, zi_val (by omega)]
  have e2 : (zi due + zi off).toInt64.toInt = due + off := by rw [zi_add, Int32.toInt_toInt64, zi_val (by omega)]
  rw [mWithin hd (by omega), e1, e2]
  have : (!zbo x (due - off) (due + off)) = decide (due - off ≤ x ∧ x ≤ due + off) := by
    rw [Bool.eq_iff_iff]
    unfold zbo
    simp only [Bool.not_eq_true', decide_eq_true_eq, decide_eq_false_iff_not]
    omega
  rw [this]
theorem mFit (hd : 9 ≤ d) (h : zTI I J t) (hn : 0 < t.n) {b : yTb} {m c : Nat} (hb : mTb 0 (I 131) b) (hw : wTb t.n m c 0 b) {drag worn : Int} (h1 : 0 ≤ drag ∧ drag ≤ 50) (h2 : 0 ≤ worn ∧ worn ≤ 4) : ∃ I', zCd zT d 314 [.ref 130, .int (zi drag), .int (zi worn)] (zm L I J r) = some (some (.int (zb1 (yAl (yPF t b drag worn) b.1))), (zm L I' J r)) ∧ (zTI I' J t ∧ zSm I I' ∧ I' 120 = I 120) := by
  obtain ⟨e, rfl⟩ : ∃ e, d = e + 1 := ⟨d - 1, by omega⟩
  have hm : b.1 ≤ 12 := hw.1
  obtain ⟨I1, hp, c1⟩ := zForS (n := b.1) (stop := fun k => !yPF t b drag worn k) (G := fun k I1 => zX 3 (zCd zT e) zc_X12_isFit 1 [some (.ref 130), some (.int (zi drag)), some (.int (zi worn)), some (.int (zi ((k : Nat) : Int)))] [] (zm L I1 J r)) (E := fun k I1 => some (some (.int 0), (zm L I1 J r))) (P := fun I1 => zTI I1 J t ∧ zSm I I1 ∧ I1 120 = I 120) (fun k I1 hk hP => by
    have hb1 := mTb_sm hP.2.1 hb
    have w0 : 0 ≤ b.2 k 0 ∧ b.2 k 0 ≤ 3 := hw.2 k 0 hk (by decide)
    have w1 : 1 ≤ b.2 k 1 ∧ b.2 k 1 ≤ 20 := hw.2 k 1 hk (by decide)
    have w2 : 1 ≤ b.2 k 2 ∧ b.2 k 2 ≤ 99999 := hw.2 k 2 hk (by decide)
    have w3 : 0 ≤ b.2 k 3 ∧ b.2 k 3 ≤ 99 := hw.2 k 3 hk (by decide)
    have en : I1 131 618 = zi b.1 := hb1.1
    have g0 : I1 131 (619 + k) = zi (b.2 k 0) := hb1.2 k 0 hk (by decide)
    have g1 : I1 131 (631 + k) = zi (b.2 k 1) := hb1.2 k 1 hk (by decide)
    have k0 : zi (b.2 k 0) + (1 : Int32) = zi (b.2 k 0 + 1) := zi_add _ 1
    have k2 : zi ((k : Nat) : Int) + (1 : Int32) = zi ((k + 1 : Nat) : Int) := zi_add _ 1
    have a0 : (619 : Int32) + zi ((k : Nat) : Int) = zi ((619 + k : Nat) : Int) := zi_add 619 _
    have a1 : (631 : Int32) + zi ((k : Nat) : Int) = zi ((631 + k : Nat) : Int) := zi_add 631 _
    have a2 : (643 : Int32) + zi ((k : Nat) : Int) = zi ((643 + k : Nat) : Int) := zi_add 643 _
    have a3 : (655 : Int32) + zi ((k : Nat) : Int) = zi ((655 + k : Nat) : Int) := zi_add 655 _
    have e0 : zi worn = zi (b.2 k 0 + 1) ↔ worn = b.2 k 0 + 1 := zi_eq (by omega) (by omega)
    have hx : 0 ≤ drag + (if worn = b.2 k 0 + 1 then 10 else 0) ∧ drag + (if worn = b.2 k 0 + 1 then 10 else 0) ≤ 1000 := by split <;> omega
    have hL := yLs_b hx w1.1
    obtain ⟨I2, t1, t2, t3, t4, t5, t6⟩ := mRuns (d := e) (L := L) (r := r) (by omega) hP.1 hn hL
    refine ⟨I2, ⟨t2, zSm_tr hP.2.1 t3, t4.trans hP.2.2⟩, ?_⟩
    have hb2 := mTb_sm t3 hb1
    have g2 : I2 131 (643 + k) = zi (b.2 k 2) := hb2.2 k 2 hk (by decide)
    have g3 : I2 131 (655 + k) = zi (b.2 k 3) := hb2.2 k 3 hk (by decide)
    have bO := zOT_b (t := t) (l := 10 * (drag + (if worn = b.2 k 0 + 1 then 10 else 0)) / b.2 k 1)
    have tail : ∀ (x : Int) (y : Int32), zi x + y = zi (drag + (if worn = b.2 k 0 + 1 then 10 else 0)) → zX 3 (zCd zT e) zc_X12_isFit 3 [some (.ref 130), some (.int (zi drag)), some (.int (zi worn)), some (.int (zi ((k : Nat) : Int)))] [.int y, .int (zi x), .ref 130, .ref 130] (zm L I1 J r) = if (!yPF t b drag worn k) = true then some (some (.int 0), (zm L I2 J r)) else zX 3 (zCd zT e) zc_X12_isFit 1 [some (.ref 130), some (.int (zi drag)), some (.int (zi worn)), some (.int (zi ((k + 1 : Nat) : Int)))] [] (zm L I2 J r) := by
      intro x y hxe
      have hxe' : y + zi x = zi (drag + (if worn = b.2 k 0 + 1 then 10 else 0)) := by rw [Int32.add_comm]; exact hxe
      rw [eX12_isFit_3, a1, zin_t (by omega) (by omega), zgd_t, zi_cl (by omega), Int.toNat_natCast, g1]
      first
        | rw [hxe]
        | rw [hxe']
      rw [mLossB (by omega) hx w1, zbI_s, eX12_isFit_4, t1, zbV_s, eX12_isFit_5, a2, a3]
      unfold yPF yFT
      generalize zOT t (10 * (drag + (if worn = b.2 k 0 + 1 then 10 else 0)) / b.2 k 1) = z at t5 t6 bO ⊢
      by_cases q : I2 130 19 = 0
      · have q1 := t5.mp q
        rw [if_pos q, zin_t (by omega) (by omega), zin_t (by omega) (by omega), zgd_t, zgd_t, zgd_t, zgd_t, zi_cl (by omega), zi_cl (by omega), Int.toNat_natCast, Int.toNat_natCast, g2, g3, t6 q, mTF (by omega) ⟨bO.1, bO.2.1⟩ w2 w3, zbI_s, eX12_isFit_6, eX12_isFit_7, eX12_isFit_8, k2]
        by_cases q2 : b.2 k 2 - b.2 k 3 ≤ z ∧ z ≤ b.2 k 2 + b.2 k 3
        · rw [decide_eq_true q2, decide_eq_true ⟨q1, q2⟩]
          rfl
        · rw [decide_eq_false q2, decide_eq_false (fun w => q2 w.2)]
          rfl
      · have q1 : z = -1 := Decidable.not_not.mp (fun w => q (t5.mpr w))
        rw [if_neg q, eX12_isFit_7, decide_eq_false (fun w => w.1 q1)]
        rfl
    rw [eX12_isFit_1, en, if_neg (show ¬ zi (b.1 : Int) ≤ zi ((k : Nat) : Int) by rw [zi_le (by omega) (by omega)]; omega), a0, zin_t (by omega) (by omega), zgd_t, zi_cl (by omega), Int.toNat_natCast, g0, k0]
    simp only [e0]
    by_cases q : worn = b.2 k 0 + 1
    · rw [if_pos q]
      exact tail drag 10 (by rw [if_pos q]; exact zi_add _ 10)
    · rw [if_neg q, eX12_isFit_2]
      exact tail drag 0 (by rw [if_neg q]; exact zi_add _ 0)) I ⟨h, zSm_rf, rfl⟩
  have z0 : zX 3 (zCd zT e) zc_X12_isFit 1 [some (.ref 130), some (.int (zi drag)), some (.int (zi worn)), some (.int 0)] [] (zm L I J r) = _ := c1
  refine ⟨I1, ?_, hp⟩
  rw [qX12_isFit, eX12_isFit_0, z0]
  unfold yAl
  by_cases q : zFs (fun k => !yPF t b drag worn k) b.1 < b.1
  · rw [if_pos q, decide_eq_false (fun w => w q)]
    rfl
  · have en : I1 131 618 = zi b.1 := (mTb_sm hp.2.1 hb).1
    rw [if_neg q, decide_eq_true q, eX12_isFit_1, en, if_pos (Int32.le_refl _), eX12_isFit_9]
    rfl
/-! FITS -/
def yFiV (y : zFd) (i : Int) : Int := if y.1.n = 0 then -5 else yIt (fun p => yAl (yPF y.1 (y.2.2.1 0) ((p / 5 : Nat) : Int) ((p % 5 : Nat) : Int)) (y.2.2.1 0).1) (fun p => 10 * ((p / 5 : Nat) : Int) + ((p % 5 : Nat) : Int)) 255 i
theorem cFits (hd : 10 ≤ d) {y : zFd} {c : Nat} (h : zTI I J y.1) (hD : cDay 0 I J y) (hW : wDay c y) (hc : zCa I y.1) {i : Int} (bi : -2147483648 ≤ i ∧ i < 2147483648) : ∃ I', zCd zT d 161 [.ref 16, .int (zi i)] (zm L I J r) = some (some (.int (zi (yFiV y i))), (zm L I' J r)) ∧ zSm I I' ∧ zCa I' y.1 := by
  obtain ⟨e, rfl⟩ : ∃ e, d = e + 1 := ⟨d - 1, by omega⟩
  rw [qX11_fits, eX11_fits_0, cNoTrack (by omega) h, zbI_s, eX11_fits_1]
  unfold yFiV
  by_cases q : y.1.n = 0
  · rw [decide_eq_true q, if_neg (show ¬ zb1 true = 0 by decide), if_pos q]
    exact ⟨I, rfl, zSm_rf, hc⟩
  rw [decide_eq_false q, if_pos (show zb1 false = 0 from rfl), if_neg q, eX11_fits_2, eX11_fits_3, if_neg (by decide)]
  have hb : cTb 39 0 I (y.2.2.1 0) := hD.2.2.1 0 (by decide)
  have hw := hW.2.2.1 0 (by decide)
  generalize hP : (fun p : Nat => yAl (yPF y.1 (y.2.2.1 0) ((p / 5 : Nat) : Int) ((p % 5 : Nat) : Int)) (y.2.2.1 0).1) = P
  have e9 : zi i = -1 ↔ i = -1 := zi_m1 bi
  obtain ⟨I1, hp, c1⟩ := yIth (n := 255) (i := i) (P := P) (G := fun p I1 => if p < 255 then zX 0 (zCd zT e) zc_X11_fits 4 [some (.ref 16), some (.int (zi i)), some (.int (zi ((yCn P p : Nat) : Int))), some (.int (zi ((p / 5 : Nat) : Int))), some (.int (zi ((p % 5 : Nat) : Int)))] [] (zm L I1 J r) else zX 0 (zCd zT e) zc_X11_fits 9 [some (.ref 16), some (.int (zi i)), some (.int (zi ((yCn P p : Nat) : Int))), some (.int (zi 51)), none] [] (zm L I1 J r)) (E := fun p I1 => some (some (.int (zi (10 * ((p / 5 : Nat) : Int) + ((p % 5 : Nat) : Int)))), (zm L I1 J r))) (Q := fun I1 => zTI I1 J y.1 ∧ zSm I I1 ∧ zCa I1 y.1) (fun p I1 hpn hQ => by
    have hb1 := cTb_sm (by decide) hQ.2.1 hb
    obtain ⟨I2, t1, t2, t3, t4⟩ := cPairFits (d := e) (L := L) (r := r) (by omega) hQ.1 hQ.2.2 (by omega) hb1 hw (drag := ((p / 5 : Nat) : Int)) (worn := ((p % 5 : Nat) : Int)) (by omega) (by omega)
    refine ⟨I2, ⟨t2, zSm_tr hQ.2.1 t3, t4⟩, ?_⟩
    have cb := yCn_b (P := P) p
    have hu : yCn P (p + 1) = yCn P p + (if P p = true then 1 else 0) := rfl
    have hPp : yAl (yPF y.1 (y.2.2.1 0) ((p / 5 : Nat) : Int) ((p % 5 : Nat) : Int)) (y.2.2.1 0).1 = P p := by rw [← hP]
    have nx : ∀ c' : Nat, zX 0 (zCd zT e) zc_X11_fits 7 [some (.ref 16), some (.int (zi i)), some (.int (zi (c' : Int))), some (.int (zi ((p / 5 : Nat) : Int))), some (.int (zi ((p % 5 : Nat) : Int)))] [] (zm L I2 J r) = if p + 1 < 255 then zX 0 (zCd zT e) zc_X11_fits 4 [some (.ref 16), some (.int (zi i)), some (.int (zi (c' : Int))), some (.int (zi (((p + 1) / 5 : Nat) : Int))), some (.int (zi (((p + 1) % 5 : Nat) : Int)))] [] (zm L I2 J r) else zX 0 (zCd zT e) zc_X11_fits 9 [some (.ref 16), some (.int (zi i)), some (.int (zi (c' : Int))), some (.int (zi 51)), none] [] (zm L I2 J r) := by
      intro c'
      have k1 : zi ((p % 5 : Nat) : Int) + (1 : Int32) = zi ((p % 5 + 1 : Nat) : Int) := zi_add _ 1
      have k2 : zi ((p / 5 : Nat) : Int) + (1 : Int32) = zi ((p / 5 + 1 : Nat) : Int) := zi_add _ 1
      rw [eX11_fits_7, k1]
      by_cases m4 : p % 5 = 4
      · rw [eX11_fits_4, m4, if_pos (by decide), eX11_fits_8, k2, eX11_fits_3]
        by_cases l : p + 1 < 255
        · rw [if_pos l, if_neg (show ¬ (50 : Int32) < zi ((p / 5 + 1 : Nat) : Int) by rw [show (50 : Int32) = zi 50 from rfl, zi_lt (by decide) (by omega)]; omega), show (p + 1) / 5 = p / 5 + 1 by omega, show (p + 1) % 5 = 0 by omega]
          rfl
        · rw [if_neg l, if_pos (show (50 : Int32) < zi ((p / 5 + 1 : Nat) : Int) by rw [show (50 : Int32) = zi 50 from rfl, zi_lt (by decide) (by omega)]; omega), show p / 5 + 1 = 51 by omega]
          rfl
      · rw [if_pos (by omega), show (p + 1) / 5 = p / 5 by omega, show (p + 1) % 5 = p % 5 + 1 by omega]
    have k3 : zi ((yCn P p : Nat) : Int) + (1 : Int32) = zi ((yCn P p + 1 : Nat) : Int) := zi_add _ 1
    have k4 : (10 : Int32) * zi ((p / 5 : Nat) : Int) + zi ((p % 5 : Nat) : Int) = zi (10 * ((p / 5 : Nat) : Int) + ((p % 5 : Nat) : Int)) := by rw [show (10 : Int32) = zi 10 from rfl, zi_mul, zi_add]
    rw [if_pos hpn, eX11_fits_4, if_neg (show ¬ (4 : Int32) < zi ((p % 5 : Nat) : Int) by rw [show (4 : Int32) = zi 4 from rfl, zi_lt (by decide) (by omega)]; omega), t1, zbI_s, eX11_fits_5, hPp, eX11_fits_6, k3, k4, hu]
    simp only [nx, zi_eq (show -2147483648 ≤ ((yCn P p : Nat) : Int) ∧ ((yCn P p : Nat) : Int) < 2147483648 by omega) bi]
    cases P p
    · rfl
    · rfl) I ⟨h, zSm_rf, hc⟩
  have z0 : zX 0 (zCd zT e) zc_X11_fits 4 [some (.ref 16), some (.int (zi i)), some (.int 0), some (.int 0), some (.int 0)] [] (zm L I J r) = _ := c1
  refine ⟨I1, ?_, hp.2⟩
  rw [z0]
  unfold yIt
  by_cases q2 : yIs P 255 i < 255
  · rw [if_pos q2, if_pos q2]
  · rw [if_neg q2, if_neg q2, if_neg (by decide), eX11_fits_9, eX11_fits_10, eX11_fits_11, eX11_fits_11]
    by_cases q3 : i = -1
    · rw [if_pos (e9.mpr q3), if_pos q3]
    · rw [if_neg (fun w => q3 (e9.mp w)), if_neg q3]
      rfl
end
