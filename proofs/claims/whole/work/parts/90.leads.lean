/-! LEADS -/
section
variable {d L r : Nat} {I : Nat → Nat → Int32} {J : Nat → Nat → Int64}
variable {t : zDy}
theorem cLeads (hd : 10 ≤ d) (h : zTI I J t) (hc : zCa I t) (hn : 0 < t.n) {b : yTb} {n m c : Nat} (hb : cTb 49 5 I b) (hw : wTb n m c 5 b) (hm : m ≤ 20) {w : Int} (h1 : 1 ≤ w ∧ w ≤ 20) {a : Int} (ba : -2147483648 ≤ a ∧ a < 2147483648) (x : Int32) : ∃ I', zX 0 (zCd zT d) zc_X11_leads 4 [some (.ref 16), some (.int (zi a)), some (.int (zi w)), some (.int x), none, none] [] (zm L I J r) = some (some (.int (zi (yLn t b w a b.1))), (zm L I' J r)) ∧ zSm I I' ∧ zCa I' t := by
  have hb20 : b.1 ≤ 20 := hw.1
  obtain ⟨I2, p1, p2⟩ := zForM (n := b.1) (G := fun k I1 => zX 0 (zCd zT d) zc_X11_leads 5 [some (.ref 16), some (.int (zi a)), some (.int (zi w)), some (.int x), some (.int (zi (yLn t b w a k))), some (.int (zi ((k : Nat) : Int)))] [] (zm L I1 J r)) (P := fun I1 => zTI I1 J t ∧ zCa I1 t ∧ zSm I I1) (fun k I1 hk hP => by
    have hb1 : cTb 49 5 I1 b := cTb_sm (by decide) hP.2.2 hb
    have hsz : zCd zT d 64 [.ref 49] (zm L I1 J r) = some (some (.int (zi (b.1 : Int))), (zm L I1 J r)) := cTSize (b := b) (by omega) (by decide) hb1
    obtain ⟨I2, c1, c2, c3⟩ := cLed (d := d) (L := L) (r := r) (by omega) hP.1 hP.2.1 hn hb1 hw hm hk h1
    have k1 : zi ((k : Nat) : Int) + (1 : Int32) = zi ((k + 1 : Nat) : Int) := zi_add _ 1
    have q1 : zi ((yLn t b w a k : Nat) : Int) + (1 : Int32) = zi ((yLn t b w a k + 1 : Nat) : Int) := zi_add _ 1
    have q2 := yLd_b (t := t) (b := b) (w := w) (k := k)
    refine ⟨I2, ?_, zTI_fr c2 hP.1, c3, zSm_tr hP.2.2 c2⟩
    rw [eX11_leads_5, hsz, zbI_s, eX11_leads_6, if_neg (show ¬ zi (b.1 : Int) ≤ zi ((k : Nat) : Int) by rw [zi_le (by omega) (by omega)]; omega), c1, zbI_s, eX11_leads_7, yLn]
    by_cases q : yLd t b w k = a
    · rw [if_pos (by rw [zi_eq (by omega) ba]; exact q), if_pos q, eX11_leads_8, k1, q1]
    · rw [if_neg (by rw [zi_eq (by omega) ba]; exact q), if_neg q, eX11_leads_8, k1]
      rfl) I ⟨h, hc, zSm_rf⟩
  have z0 : zX 0 (zCd zT d) zc_X11_leads 5 [some (.ref 16), some (.int (zi a)), some (.int (zi w)), some (.int x), some (.int 0), some (.int 0)] [] (zm L I J r) = _ := p1
  have hb1 : cTb 49 5 I2 b := cTb_sm (by decide) p2.2.2 hb
  have hsz : zCd zT d 64 [.ref 49] (zm L I2 J r) = some (some (.int (zi (b.1 : Int))), (zm L I2 J r)) := cTSize (b := b) (by omega) (by decide) hb1
  refine ⟨I2, ?_, p2.2.2, p2.2.1⟩
  rw [eX11_leads_4, z0, eX11_leads_5, hsz, zbI_s, eX11_leads_6, if_pos (Int32.le_refl _), eX11_leads_9]
theorem mLeads (hd : 10 ≤ d) (h : zTI I J t) (hn : 0 < t.n) {b : yTb} {n m c : Nat} (hb : mTb 5 (I 131) b) (hw : wTb n m c 5 b) (hm : m ≤ 20) {w : Int} (h1 : 1 ≤ w ∧ w ≤ 20) {a : Int} (ba : -2147483648 ≤ a ∧ a < 2147483648) : ∃ I', zX 0 (zCd zT d) zc_X12_leads 6 [some (.ref 130), some (.int (zi a)), some (.int (zi w)), none, none] [] (zm L I J r) = some (some (.int (zi (yLn t b w a b.1))), (zm L I' J r)) ∧ zSm I I' ∧ I' 120 = I 120 := by
  have hb20 : b.1 ≤ 20 := hw.1
  obtain ⟨I2, p1, p2⟩ := zForM (n := b.1) (G := fun k I1 => zX 0 (zCd zT d) zc_X12_leads 7 [some (.ref 130), some (.int (zi a)), some (.int (zi w)), some (.int (zi (yLn t b w a k))), some (.int (zi ((k : Nat) : Int)))] [] (zm L I1 J r)) (P := fun I1 => zTI I1 J t ∧ I1 120 = I 120 ∧ zSm I I1) (fun k I1 hk hP => by
    have hb1 : mTb 5 (I1 131) b := mTb_sm hP.2.2 hb
    have h3 : I1 131 733 = zi b.1 := hb1.1
    obtain ⟨I2, c1, c2, c3⟩ := mLed (d := d) (L := L) (r := r) (by omega) hP.1 hn hb1 hw hm hk h1
    have k1 : zi ((k : Nat) : Int) + (1 : Int32) = zi ((k + 1 : Nat) : Int) := zi_add _ 1
    have q1 : zi ((yLn t b w a k : Nat) : Int) + (1 : Int32) = zi ((yLn t b w a k + 1 : Nat) : Int) := zi_add _ 1
    have q0 : zi ((yLn t b w a k : Nat) : Int) + (0 : Int32) = zi ((yLn t b w a k : Nat) : Int) := Int32.add_zero _
    have q2 := yLd_b (t := t) (b := b) (w := w) (k := k)
    refine ⟨I2, ?_, zTI_fr c2 hP.1, c3.trans hP.2.1, zSm_tr hP.2.2 c2⟩
    rw [eX12_leads_7, h3, if_neg (show ¬ zi (b.1 : Int) ≤ zi ((k : Nat) : Int) by rw [zi_le (by omega) (by omega)]; omega), c1, zbI_s, eX12_leads_8, yLn]
    by_cases q : yLd t b w k = a
    · rw [if_pos (by rw [zi_eq (by omega) ba]; exact q), if_pos q, eX12_leads_10, k1, q1]
    · rw [if_neg (by rw [zi_eq (by omega) ba]; exact q), if_neg q, eX12_leads_9, eX12_leads_10, k1, q0]
      rfl) I ⟨h, rfl, zSm_rf⟩
  have z0 : zX 0 (zCd zT d) zc_X12_leads 7 [some (.ref 130), some (.int (zi a)), some (.int (zi w)), some (.int 0), some (.int 0)] [] (zm L I J r) = _ := p1
  have hb1 : mTb 5 (I2 131) b := mTb_sm p2.2.2 hb
  have h3 : I2 131 733 = zi b.1 := hb1.1
  refine ⟨I2, ?_, p2.2.2, p2.2.1⟩
  rw [eX12_leads_6, z0, eX12_leads_7, h3, if_pos (Int32.le_refl _), eX12_leads_11]
end
theorem oLeads (a w : Int32) : zOk 192 343 [.int a, .int w] := by
  intro L c r I J y z0 z1 hc hr hv
  obtain ⟨a, rfl, ba⟩ := zi_of a
  obtain ⟨w, rfl, bw⟩ := zi_of w
  have hT := zV_TI hv
  have h0 : zTI (zu I 130 0 (zi 0)) J y.1 := zTI_fr zSm_0 hT
  have hb : cTb 49 5 I (y.2.2.1 5) := hv.1.2.2.1 5 (by decide)
  have hw := hv.2.2.1.2.2.1 5 (by decide)
  have hm5 : y.1.m ≤ 5 := hT.2.2.1.2.2.1
  have hm20 : y.1.m ≤ 20 := by omega
  cases h1 : zbo a 0 3
  · have g1 := zbo_f h1
    cases h2 : zbo w 1 20
    · have g2 := zbo_f h2
      have cr : zCd zT 59 219 [.ref 16, .int (zi 0), .int (zi 0)] (zm L I J r) = _ := cRef (L := L) (r := r) (by omega) hT false false
      have mt := mTrack (d := 59) (L := L) (r := r) (by omega) h0
      by_cases h3 : y.1.n = 0
      · rw [yRf5 h3] at cr
        rw [decide_eq_false (show ¬ 0 < y.1.n by omega)] at mt
        refine zGo_0 hr hv (.int (zi (-5))) ?_ ?_
        · simp (disch := omega) only [qX11_leads, eX11_leads_0, eX11_leads_1, eX11_leads_2, eX11_leads_3, cOut, cBadW, cr, h1, h2, if_true, if_false, zi_eq, zbI_s, zbL_s, zbV_s, zgd_t, zb1_t, zb1_f, zb1_01, zz_0, zz_1, zi_lit, zi_add, zi_sub, zi_mul, zi_neg, zi_z0]
          rfl
        · simp (disch := omega) only [qX12_leads, eX12_leads_0, eX12_leads_1, eX12_leads_2, eX12_leads_3, eX12_leads_4, eX12_leads_5, mWithin, show (0 : Int64).toInt = 0 from rfl, show (3 : Int64).toInt = 3 from rfl, mWeight, mt, h1, h2, zi_eq, Bool.not_false, Bool.not_true, yI1, if_true, if_false, zbI_s, zbL_s, zbV_s, zgd_t, zb1_t, zb1_f, zb1_01, zz_0, zz_1, zi_lit, zi_add, zi_sub, zi_mul, zi_neg, zi_z0]
      · rw [yRf0 h3] at cr
        have h3 : 0 < y.1.n := by omega
        refine zGo_s hr hv (.int (zi (yLn y.1 (y.2.2.1 5) w a (y.2.2.1 5).1))) ?_ ?_
        · obtain ⟨I2, c1, c2, c3⟩ := cLeads (d := 59) (L := L) (r := r) (by omega) hT hv.2.2.2.2.2.2.2.2.2 h3 hb hw hm20 g2 ba (zi 0)
          refine ⟨I2, ?_, c2, c3⟩
          simp (disch := omega) only [qX11_leads, eX11_leads_0, eX11_leads_1, eX11_leads_2, eX11_leads_3, cOut, cBadW, cr, h1, h2, c1, if_true, if_false, zi_eq, zbI_s, zbL_s, zbV_s, zgd_t, zb1_t, zb1_f, zb1_01, zz_0, zz_1, zi_lit, zi_add, zi_sub, zi_mul, zi_neg, zi_z0]
        · intro I1 s1 v1
          have hT1 : zTI (zu I1 130 0 (zi 0)) J y.1 := zTI_fr zSm_0 (zV_TI v1)
          have mt := mTrack (d := 59) (L := L) (r := r) (by omega) hT1
          rw [decide_eq_true h3] at mt
          have hm1 := zV_mt v1 (q := 5) (by decide)
          obtain ⟨I2, m1, m2, m3⟩ := mLeads (d := 59) (L := L) (r := r) (by omega) hT1 h3 (mTb_sm zSm_0 hm1) hw hm20 g2 ba
          have q0 : zu I1 130 0 (zi 0) 120 = I1 120 := zu_o (by decide)
          refine ⟨I2, ?_, zSm_tr zSm_0 m2, m3.trans q0⟩
          simp (disch := omega) only [qX12_leads, eX12_leads_0, eX12_leads_1, eX12_leads_2, eX12_leads_3, eX12_leads_4, eX12_leads_5, mWithin, show (0 : Int64).toInt = 0 from rfl, show (3 : Int64).toInt = 3 from rfl, mWeight, mt, m1, h1, h2, zi_eq, Bool.not_false, Bool.not_true, yI1, if_true, if_false, zbI_s, zbL_s, zbV_s, zgd_t, zb1_t, zb1_f, zb1_01, zz_0, zz_1, zi_lit, zi_add, zi_sub, zi_mul, zi_neg, zi_z0]
    · have cr : zCd zT 59 219 [.ref 16, .int (zi 0), .int (zi 1)] (zm L I J r) = _ := cRef (L := L) (r := r) (by omega) hT false true
      rw [yRf3] at cr
      refine zGo_0 hr hv (.int (zi (-3))) ?_ ?_
      · simp (disch := omega) only [qX11_leads, eX11_leads_0, eX11_leads_1, eX11_leads_2, eX11_leads_3, cOut, cBadW, cr, h1, h2, if_true, if_false, zi_eq, zbI_s, zbL_s, zbV_s, zgd_t, zb1_t, zb1_f, zb1_01, zz_0, zz_1, zi_lit, zi_add, zi_sub, zi_mul, zi_neg, zi_z0]
        rfl
      · simp (disch := omega) only [qX12_leads, eX12_leads_0, eX12_leads_1, eX12_leads_2, eX12_leads_3, mWithin, show (0 : Int64).toInt = 0 from rfl, show (3 : Int64).toInt = 3 from rfl, mWeight, h1, h2, zi_eq, Bool.not_false, Bool.not_true, yI1, if_true, if_false, zbI_s, zbL_s, zbV_s, zgd_t, zb1_t, zb1_f, zb1_01, zz_0, zz_1, zi_lit, zi_add, zi_sub, zi_mul, zi_neg, zi_z0]
  · have cr : zCd zT 59 219 [.ref 16, .int (zi 1), .int (zb1 (zbo w 1 20))] (zm L I J r) = _ := cRef (L := L) (r := r) (by omega) hT true (zbo w 1 20)
    rw [yRf2] at cr
    refine zGo_0 hr hv (.int (zi (-2))) ?_ ?_
    · simp (disch := omega) only [qX11_leads, eX11_leads_0, eX11_leads_1, eX11_leads_2, eX11_leads_3, cOut, cBadW, cr, h1, if_true, if_false, zi_eq, zbI_s, zbL_s, zbV_s, zgd_t, zb1_t, zb1_f, zb1_01, zz_0, zz_1, zi_lit, zi_add, zi_sub, zi_mul, zi_neg, zi_z0]
      rfl
    · simp (disch := omega) only [qX12_leads, eX12_leads_0, eX12_leads_1, mWithin, show (0 : Int64).toInt = 0 from rfl, show (3 : Int64).toInt = 3 from rfl, h1, zi_eq, Bool.not_false, Bool.not_true, yI1, if_true, if_false, zbI_s, zbL_s, zbV_s, zgd_t, zb1_t, zb1_f, zb1_01, zz_0, zz_1, zi_lit, zi_add, zi_sub, zi_mul, zi_neg, zi_z0]
