/-! GROWTHS -/
theorem yTk_b {a b : Int} (ha : 0 ≤ a ∧ a ≤ 20) (hb : 0 ≤ b ∧ b ≤ 99) : 0 ≤ a * b ∧ a * b ≤ 1980 ∧ 0 ≤ a * b / 10 ∧ a * b / 10 ≤ 198 := by
  have h1 := Int.mul_nonneg ha.1 hb.1
  have h2 := Int.mul_le_mul ha.2 hb.2 hb.1 (by decide)
  omega
def yGP (t : zDy) (b : yTb) (drag ten : Int) (k : Nat) : Bool := yFT t (10 * (drag + ten * (k : Int) / 10) / b.2 0 0) (b.2 k 1) (b.2 k 2)
section
variable {d L r : Nat} {I : Nat → Nat → Int32} {J : Nat → Nat → Int64}
variable {t : zDy}
theorem cGrownLoss (hd : 3 ≤ d) {b : yTb} {n m c : Nat} (hb : cTb 51 6 I b) (hw : wTb n m c 6 b) (hn : 0 < b.1) {drag ten k : Int} (h1 : 0 ≤ drag ∧ drag ≤ 50) (h2 : 0 ≤ ten ∧ ten ≤ 20) (h3 : 0 ≤ k ∧ k ≤ 99) : zCd zT d 198 [.ref 16, .int (zi drag), .int (zi ten), .int (zi k)] (zm L I J r) = some (some (.int (zi (10 * (drag + ten * k / 10) / b.2 0 0))), (zm L I J r)) := by
  obtain ⟨e, rfl⟩ : ∃ e, d = e + 1 := ⟨d - 1, by omega⟩
  have tb := yTk_b h2 h3
  have w0 : 1 ≤ b.2 0 0 ∧ b.2 0 0 ≤ 20 := hw.2 0 0 hn (by decide)
  have g0 : zCd zT e 68 [.ref 51, .int 0, .int 0] (zm L I J r) = some (some (.int (zi (b.2 0 0))), (zm L I J r)) := cGetO (by omega) (o := 51) (q := 6) rfl (by decide) hb hw.1 (k := 0) (f := 0) (by omega) (by decide)
  have k1 : zi drag + zi ten * zi k / (10 : Int32) = zi (drag + ten * k / 10) := by simp (disch := omega) only [zi_lit, zi_mul, zi_div, zi_add]
  rw [qX11_grownLoss, eX11_grownLoss_0, g0, zbI_s, eX11_grownLoss_1, k1, cLossBy (by omega) (by omega) w0, zbI_s, eX11_grownLoss_2]
theorem cGrowthFits (hd : 9 ≤ d) (h : zTI I J t) (hc : zCa I t) (hn : 0 < t.n) {b : yTb} {m c : Nat} (hb : cTb 51 6 I b) (hw : wTb t.n m c 6 b) {drag ten : Int} (h1 : 0 ≤ drag ∧ drag ≤ 50) (h2 : 0 ≤ ten ∧ ten ≤ 20) : ∃ I', zCd zT d 197 [.ref 16, .int (zi drag), .int (zi ten)] (zm L I J r) = some (some (.int (zb1 (yAl (yGP t b drag ten) b.1))), (zm L I' J r)) ∧ (zTI I' J t ∧ zSm I I' ∧ zCa I' t) := by
  obtain ⟨e, rfl⟩ : ∃ e, d = e + 1 := ⟨d - 1, by omega⟩
  have hm : b.1 ≤ 20 := hw.1
  obtain ⟨I1, hp, c1⟩ := zForS (n := b.1) (stop := fun k => !yGP t b drag ten k) (G := fun k I1 => zX 3 (zCd zT e) zc_X11_growthFits 1 [some (.ref 16), some (.int (zi drag)), some (.int (zi ten)), some (.ref 51), some (.int (zi ((k : Nat) : Int)))] [] (zm L I1 J r)) (E := fun k I1 => some (some (.int 0), (zm L I1 J r))) (P := fun I1 => zTI I1 J t ∧ zSm I I1 ∧ zCa I1 t) (fun k I1 hk hP => by
    have hb1 := cTb_sm (by decide) hP.2.1 hb
    have w0 : 1 ≤ b.2 0 0 ∧ b.2 0 0 ≤ 20 := hw.2 0 0 (by omega) (by decide)
    have w1 : 1 ≤ b.2 k 1 ∧ b.2 k 1 ≤ 99999 := hw.2 k 1 hk (by decide)
    have w2 : 0 ≤ b.2 k 2 ∧ b.2 k 2 ≤ 99 := hw.2 k 2 hk (by decide)
    have tb := yTk_b (a := ten) (b := (k : Int)) h2 (by omega)
    have g : ∀ f : Nat, f < 3 → zCd zT e 68 [.ref 51, .int (zi (k : Int)), .int (zi (f : Int))] (zm L I1 J r) = _ := fun f hf => cGetO (by omega) (o := 51) (q := 6) rfl (by decide) hb1 hw.1 (by omega) (show 0 ≤ (f : Int) ∧ (f : Int) < 3 by omega)
    have g1 : zCd zT e 68 [.ref 51, .int (zi (k : Int)), .int 1] (zm L I1 J r) = some (some (.int (zi (b.2 k 1))), (zm L I1 J r)) := g 1 (by decide)
    have g2 : zCd zT e 68 [.ref 51, .int (zi (k : Int)), .int 2] (zm L I1 J r) = some (some (.int (zi (b.2 k 2))), (zm L I1 J r)) := g 2 (by decide)
    have k2 : zi ((k : Nat) : Int) + (1 : Int32) = zi ((k + 1 : Nat) : Int) := zi_add _ 1
    have hL := yLs_b (x := drag + ten * (k : Int) / 10) (w := b.2 0 0) (by omega) w0.1
    obtain ⟨I2, t1, t2, t3⟩ := cTF (d := e) (L := L) (r := r) (by omega) hP.1 hP.2.2 hn hL w1 w2
    refine ⟨I2, ⟨zTI_fr t2 hP.1, zSm_tr hP.2.1 t2, t3⟩, ?_⟩
    rw [eX11_growthFits_1, cTSize (by omega) (by decide) hb1, zbI_s, eX11_growthFits_2, if_neg (show ¬ zi (b.1 : Int) ≤ zi ((k : Nat) : Int) by rw [zi_le (by omega) (by omega)]; omega), cGrownLoss (by omega) hb1 hw (by omega) h1 h2 (by omega), zbI_s, eX11_growthFits_3, g1, zbI_s, eX11_growthFits_4, g2, zbI_s, eX11_growthFits_5, t1, zbI_s, eX11_growthFits_6, eX11_growthFits_7, k2]
    unfold yGP
    cases yFT t (10 * (drag + ten * (k : Int) / 10) / b.2 0 0) (b.2 k 1) (b.2 k 2)
    · rfl
    · rfl) I ⟨h, zSm_rf, hc⟩
  have z0 : zX 3 (zCd zT e) zc_X11_growthFits 1 [some (.ref 16), some (.int (zi drag)), some (.int (zi ten)), some (.ref 51), some (.int 0)] [] (zm L I J r) = _ := c1
  refine ⟨I1, ?_, hp⟩
  rw [qX11_growthFits, eX11_growthFits_0, z0]
  unfold yAl
  by_cases q : zFs (fun k => !yGP t b drag ten k) b.1 < b.1
  · rw [if_pos q, decide_eq_false (fun w => w q)]
    rfl
  · rw [if_neg q, decide_eq_true q, eX11_growthFits_1, cTSize (by omega) (by decide) (cTb_sm (by decide) hp.2.1 hb), zbI_s, eX11_growthFits_2, if_pos (Int32.le_refl _), eX11_growthFits_8]
    rfl
theorem mRunsOn (hd : 8 ≤ d) (h : zTI I J t) (hn : 0 < t.n) {b : yTb} {n m c : Nat} (hb : mTb 6 (I 131) b) (hw : wTb n m c 6 b) (hb0 : 0 < b.1) {drag ten k : Int} (h1 : 0 ≤ drag ∧ drag ≤ 50) (h2 : 0 ≤ ten ∧ ten ≤ 20) (h3 : 0 ≤ k ∧ k ≤ 99) : ∃ I', zCd zT d 347 [.ref 130, .int (zi k), .int (zi drag), .int (zi ten)] (zm L I J r) = some (none, (zm L I' J r)) ∧ zTI I' J t ∧ zSm I I' ∧ I' 120 = I 120 ∧ (I' 130 19 = 0 ↔ ¬ zOT t (10 * (drag + ten * k / 10) / b.2 0 0) = -1) ∧ (I' 130 19 = 0 → I' 130 24 = zi (zOT t (10 * (drag + ten * k / 10) / b.2 0 0))) := by
  obtain ⟨e, rfl⟩ : ∃ e, d = e + 1 := ⟨d - 1, by omega⟩
  have tb := yTk_b h2 h3
  have w0 : 1 ≤ b.2 0 0 ∧ b.2 0 0 ≤ 20 := hw.2 0 0 hb0 (by decide)
  have g0 : I 131 815 = zi (b.2 0 0) := hb.2 0 0 hb0 (by decide)
  have k1 : zi drag + zi ten * zi k / (10 : Int32) = zi (drag + ten * k / 10) := by simp (disch := omega) only [zi_lit, zi_mul, zi_div, zi_add]
  have hL := yLs_b (x := drag + ten * k / 10) (w := b.2 0 0) (by omega) w0.1
  obtain ⟨I2, t1, t2⟩ := mRuns (d := e) (L := L) (r := r) (by omega) h hn hL
  refine ⟨I2, ?_, t2⟩
  rw [qX12_runsOn, eX12_runsOn_0, k1, g0, mLossB (by omega) (by omega) w0, zbI_s, eX12_runsOn_1, t1, zbV_s, eX12_runsOn_2]
theorem mGrows (hd : 10 ≤ d) (h : zTI I J t) (hn : 0 < t.n) {b : yTb} {m c : Nat} (hb : mTb 6 (I 131) b) (hw : wTb t.n m c 6 b) {drag ten : Int} (h1 : 0 ≤ drag ∧ drag ≤ 50) (h2 : 0 ≤ ten ∧ ten ≤ 20) : ∃ I', zCd zT d 348 [.ref 130, .int (zi drag), .int (zi ten)] (zm L I J r) = some (some (.int (zb1 (yAl (yGP t b drag ten) b.1))), (zm L I' J r)) ∧ (zTI I' J t ∧ zSm I I' ∧ I' 120 = I 120) := by
  obtain ⟨e, rfl⟩ : ∃ e, d = e + 1 := ⟨d - 1, by omega⟩
  have hm : b.1 ≤ 20 := hw.1
  obtain ⟨I1, hp, c1⟩ := zForS (n := b.1) (stop := fun k => !yGP t b drag ten k) (G := fun k I1 => zX 3 (zCd zT e) zc_X12_grows 1 [some (.ref 130), some (.int (zi drag)), some (.int (zi ten)), some (.int (zi ((k : Nat) : Int)))] [] (zm L I1 J r)) (E := fun k I1 => some (some (.int 0), (zm L I1 J r))) (P := fun I1 => zTI I1 J t ∧ zSm I I1 ∧ I1 120 = I 120) (fun k I1 hk hP => by
    have hb1 := mTb_sm hP.2.1 hb
    have w0 : 1 ≤ b.2 0 0 ∧ b.2 0 0 ≤ 20 := hw.2 0 0 (by omega) (by decide)
    have w1 : 1 ≤ b.2 k 1 ∧ b.2 k 1 ≤ 99999 := hw.2 k 1 hk (by decide)
    have w2 : 0 ≤ b.2 k 2 ∧ b.2 k 2 ≤ 99 := hw.2 k 2 hk (by decide)
    have tb := yTk_b (a := ten) (b := (k : Int)) h2 (by omega)
    have en : I1 131 814 = zi b.1 := hb1.1
    have k2 : zi ((k : Nat) : Int) + (1 : Int32) = zi ((k + 1 : Nat) : Int) := zi_add _ 1
    have a2 : (816 : Int32) + zi ((k : Nat) : Int) = zi ((816 + k : Nat) : Int) := zi_add 816 _
    have a3 : (836 : Int32) + zi ((k : Nat) : Int) = zi ((836 + k : Nat) : Int) := zi_add 836 _
    obtain ⟨I2, t1, t2, t3, t4, t5, t6⟩ := mRunsOn (d := e) (L := L) (r := r) (by omega) hP.1 hn hb1 hw (by omega) h1 h2 (k := (k : Int)) (by omega)
    refine ⟨I2, ⟨t2, zSm_tr hP.2.1 t3, t4.trans hP.2.2⟩, ?_⟩
    have hb2 := mTb_sm t3 hb1
    have g2 : I2 131 (816 + k) = zi (b.2 k 1) := hb2.2 k 1 hk (by decide)
    have g3 : I2 131 (836 + k) = zi (b.2 k 2) := hb2.2 k 2 hk (by decide)
    have bO := zOT_b (t := t) (l := 10 * (drag + ten * (k : Int) / 10) / b.2 0 0)
    rw [eX12_grows_1, en, if_neg (show ¬ zi (b.1 : Int) ≤ zi ((k : Nat) : Int) by rw [zi_le (by omega) (by omega)]; omega), t1, zbV_s, eX12_grows_2, a2, a3]
    unfold yGP yFT
    generalize zOT t (10 * (drag + ten * (k : Int) / 10) / b.2 0 0) = z at t5 t6 bO ⊢
    by_cases q : I2 130 19 = 0
    · have q1 := t5.mp q
      rw [if_pos q, zin_t (by omega) (by omega), zin_t (by omega) (by omega), zgd_t, zgd_t, zgd_t, zgd_t, zi_cl (by omega), zi_cl (by omega), Int.toNat_natCast, Int.toNat_natCast, g2, g3, t6 q, mTF (by omega) ⟨bO.1, bO.2.1⟩ w1 w2, zbI_s, eX12_grows_3, eX12_grows_4, eX12_grows_5, k2]
      by_cases q2 : b.2 k 1 - b.2 k 2 ≤ z ∧ z ≤ b.2 k 1 + b.2 k 2
      · rw [decide_eq_true q2, decide_eq_true ⟨q1, q2⟩]
        rfl
      · rw [decide_eq_false q2, decide_eq_false (fun w => q2 w.2)]
        rfl
    · have q1 : z = -1 := Decidable.not_not.mp (fun w => q (t5.mpr w))
      rw [if_neg q, eX12_grows_4, decide_eq_false (fun w => w.1 q1)]
      rfl) I ⟨h, zSm_rf, rfl⟩
  have z0 : zX 3 (zCd zT e) zc_X12_grows 1 [some (.ref 130), some (.int (zi drag)), some (.int (zi ten)), some (.int 0)] [] (zm L I J r) = _ := c1
  refine ⟨I1, ?_, hp⟩
  rw [qX12_grows, eX12_grows_0, z0]
  unfold yAl
  by_cases q : zFs (fun k => !yGP t b drag ten k) b.1 < b.1
  · rw [if_pos q, decide_eq_false (fun w => w q)]
    rfl
  · have en : I1 131 814 = zi b.1 := (mTb_sm hp.2.1 hb).1
    rw [if_neg q, decide_eq_true q, eX12_grows_1, en, if_pos (Int32.le_refl _), eX12_grows_6]
    rfl
end
def yGrV (y : zFd) (i : Int) : Int := if y.1.n = 0 ∨ (y.2.2.1 6).1 = 0 then -5 else yIt (fun p => yAl (yGP y.1 (y.2.2.1 6) ((p / 21 : Nat) : Int) ((p % 21 : Nat) : Int)) (y.2.2.1 6).1) (fun p => 100 * ((p / 21 : Nat) : Int) + ((p % 21 : Nat) : Int)) 1071 i
section
variable {d L r : Nat} {I : Nat → Nat → Int32} {J : Nat → Nat → Int64}
theorem cGrowths (hd : 11 ≤ d) {y : zFd} {c : Nat} (h : zTI I J y.1) (hD : cDay 0 I J y) (hW : wDay c y) (hc : zCa I y.1) {i : Int} (bi : -2147483648 ≤ i ∧ i < 2147483648) : ∃ I', zCd zT d 196 [.ref 16, .int (zi i)] (zm L I J r) = some (some (.int (zi (yGrV y i))), (zm L I' J r)) ∧ zSm I I' ∧ zCa I' y.1 := by
  obtain ⟨e, rfl⟩ : ∃ e, d = e + 1 := ⟨d - 1, by omega⟩
  have hb : cTb 51 6 I (y.2.2.1 6) := hD.2.2.1 6 (by decide)
  have hw := hW.2.2.1 6 (by decide)
  have hm : (y.2.2.1 6).1 ≤ 20 := hw.1
  have e0 : zi ((y.2.2.1 6).1 : Int) = 0 ↔ (y.2.2.1 6).1 = 0 := (zi_eq (y := 0) (by omega) (by decide)).trans (by omega)
  rw [qX11_growths, eX11_growths_0, cNoTrack (by omega) h, zbI_s, eX11_growths_1, cTSize (by omega) (by decide) hb, zbI_s, eX11_growths_2, eX11_growths_3]
  simp only [e0]
  unfold yGrV
  by_cases q : y.1.n = 0
  · rw [decide_eq_true q, if_neg (show ¬ zb1 true = 0 by decide), if_pos (Or.inl q)]
    exact ⟨I, rfl, zSm_rf, hc⟩
  rw [decide_eq_false q, if_pos (show zb1 false = 0 from rfl)]
  by_cases q0 : (y.2.2.1 6).1 = 0
  · rw [if_pos q0, if_pos (Or.inr q0)]
    exact ⟨I, rfl, zSm_rf, hc⟩
  rw [if_neg q0, if_neg (fun w => w.elim q q0), eX11_growths_4, eX11_growths_5, if_neg (by decide)]
  generalize hP : (fun p : Nat => yAl (yGP y.1 (y.2.2.1 6) ((p / 21 : Nat) : Int) ((p % 21 : Nat) : Int)) (y.2.2.1 6).1) = P
  have e9 : zi i = -1 ↔ i = -1 := zi_m1 bi
  obtain ⟨I1, hp, c1⟩ := yIth (n := 1071) (i := i) (P := P) (G := fun p I1 => if p < 1071 then zX 0 (zCd zT e) zc_X11_growths 6 [some (.ref 16), some (.int (zi i)), some (.int (zi ((yCn P p : Nat) : Int))), some (.int (zi ((p / 21 : Nat) : Int))), some (.int (zi ((p % 21 : Nat) : Int)))] [] (zm L I1 J r) else zX 0 (zCd zT e) zc_X11_growths 11 [some (.ref 16), some (.int (zi i)), some (.int (zi ((yCn P p : Nat) : Int))), some (.int (zi 51)), none] [] (zm L I1 J r)) (E := fun p I1 => some (some (.int (zi (100 * ((p / 21 : Nat) : Int) + ((p % 21 : Nat) : Int)))), (zm L I1 J r))) (Q := fun I1 => zTI I1 J y.1 ∧ zSm I I1 ∧ zCa I1 y.1) (fun p I1 hpn hQ => by
    have hb1 := cTb_sm (by decide) hQ.2.1 hb
    obtain ⟨I2, t1, t2, t3, t4⟩ := cGrowthFits (d := e) (L := L) (r := r) (by omega) hQ.1 hQ.2.2 (by omega) hb1 hw (drag := ((p / 21 : Nat) : Int)) (ten := ((p % 21 : Nat) : Int)) (by omega) (by omega)
    refine ⟨I2, ⟨t2, zSm_tr hQ.2.1 t3, t4⟩, ?_⟩
    have cb := yCn_b (P := P) p
    have hu : yCn P (p + 1) = yCn P p + (if P p = true then 1 else 0) := rfl
    have hPp : yAl (yGP y.1 (y.2.2.1 6) ((p / 21 : Nat) : Int) ((p % 21 : Nat) : Int)) (y.2.2.1 6).1 = P p := by rw [← hP]
    have nx : ∀ c' : Nat, zX 0 (zCd zT e) zc_X11_growths 9 [some (.ref 16), some (.int (zi i)), some (.int (zi (c' : Int))), some (.int (zi ((p / 21 : Nat) : Int))), some (.int (zi ((p % 21 : Nat) : Int)))] [] (zm L I2 J r) = if p + 1 < 1071 then zX 0 (zCd zT e) zc_X11_growths 6 [some (.ref 16), some (.int (zi i)), some (.int (zi (c' : Int))), some (.int (zi (((p + 1) / 21 : Nat) : Int))), some (.int (zi (((p + 1) % 21 : Nat) : Int)))] [] (zm L I2 J r) else zX 0 (zCd zT e) zc_X11_growths 11 [some (.ref 16), some (.int (zi i)), some (.int (zi (c' : Int))), some (.int (zi 51)), none] [] (zm L I2 J r) := by
      intro c'
      have k1 : zi ((p % 21 : Nat) : Int) + (1 : Int32) = zi ((p % 21 + 1 : Nat) : Int) := zi_add _ 1
      have k2 : zi ((p / 21 : Nat) : Int) + (1 : Int32) = zi ((p / 21 + 1 : Nat) : Int) := zi_add _ 1
      rw [eX11_growths_9, k1]
      by_cases m4 : p % 21 = 20
      · rw [eX11_growths_6, m4, if_pos (by decide), eX11_growths_10, k2, eX11_growths_5]
        by_cases l : p + 1 < 1071
        · rw [if_pos l, if_neg (show ¬ (50 : Int32) < zi ((p / 21 + 1 : Nat) : Int) by rw [show (50 : Int32) = zi 50 from rfl, zi_lt (by decide) (by omega)]; omega), show (p + 1) / 21 = p / 21 + 1 by omega, show (p + 1) % 21 = 0 by omega]
          rfl
        · rw [if_neg l, if_pos (show (50 : Int32) < zi ((p / 21 + 1 : Nat) : Int) by rw [show (50 : Int32) = zi 50 from rfl, zi_lt (by decide) (by omega)]; omega), show p / 21 + 1 = 51 by omega]
          rfl
      · rw [if_pos (by omega), show (p + 1) / 21 = p / 21 by omega, show (p + 1) % 21 = p % 21 + 1 by omega]
    have k3 : zi ((yCn P p : Nat) : Int) + (1 : Int32) = zi ((yCn P p + 1 : Nat) : Int) := zi_add _ 1
    have k4 : (100 : Int32) * zi ((p / 21 : Nat) : Int) + zi ((p % 21 : Nat) : Int) = zi (100 * ((p / 21 : Nat) : Int) + ((p % 21 : Nat) : Int)) := by rw [show (100 : Int32) = zi 100 from rfl, zi_mul, zi_add]
    rw [if_pos hpn, eX11_growths_6, if_neg (show ¬ (20 : Int32) < zi (((p % 21 : Nat) : Int)) by rw [show (20 : Int32) = zi 20 from rfl, zi_lt (by decide) (by omega)]; omega), t1, zbI_s, eX11_growths_7, hPp, eX11_growths_8, k3, k4, hu]
    simp only [nx, zi_eq (show -2147483648 ≤ ((yCn P p : Nat) : Int) ∧ ((yCn P p : Nat) : Int) < 2147483648 by omega) bi]
    cases P p
    · rfl
    · rfl) I ⟨h, zSm_rf, hc⟩
  have z0 : zX 0 (zCd zT e) zc_X11_growths 6 [some (.ref 16), some (.int (zi i)), some (.int 0), some (.int 0), some (.int 0)] [] (zm L I J r) = _ := c1
  refine ⟨I1, ?_, hp.2⟩
  rw [z0]
  unfold yIt
  by_cases q2 : yIs P 1071 i < 1071
  · rw [if_pos q2, if_pos q2]
  · rw [if_neg q2, if_neg q2, if_neg (by decide), eX11_growths_11, eX11_growths_12, eX11_growths_13, eX11_growths_13]
    by_cases q3 : i = -1
    · rw [if_pos (e9.mpr q3), if_pos q3]
    · rw [if_neg (fun w => q3 (e9.mp w)), if_neg q3]
      rfl

theorem mGrowths (hd : 11 ≤ d) {y : zFd} {c : Nat} (h : zTI I J y.1) (hD : mTb 6 (I 131) (y.2.2.1 6)) (hW : wDay c y) {i : Int} (bi : -2147483648 ≤ i ∧ i < 2147483648) : ∃ I', zCd zT d 349 [.ref 130, .int (zi i)] (zm L I J r) = some (some (.int (zi (yGrV y i))), (zm L I' J r)) ∧ zSm I I' ∧ I' 120 = I 120 := by
  obtain ⟨e, rfl⟩ : ∃ e, d = e + 1 := ⟨d - 1, by omega⟩
  have h0 := zTI_fr zSm_0 h
  have hs0 : zSm I (zu I 130 0 0) := zSm_0
  have g0 : zu I 130 0 0 120 = I 120 := zu_o (by decide)
  have hw := hW.2.2.1 6 (by decide)
  have hm : (y.2.2.1 6).1 ≤ 20 := hw.1
  have e0 : zi ((y.2.2.1 6).1 : Int) = 0 ↔ (y.2.2.1 6).1 = 0 := (zi_eq (y := 0) (by omega) (by decide)).trans (by omega)
  have en : zu I 130 0 0 131 814 = zi (y.2.2.1 6).1 := (mTb_sm hs0 hD).1
  rw [qX12_growths, eX12_growths_0, mTrack (by omega) h0, zbI_s, eX12_growths_1, en, eX12_growths_2]
  generalize zu I 130 0 0 = IA at h0 hs0 g0 ⊢
  generalize I = I0 at h hD hs0 g0 ⊢
  generalize IA = I at h0 hs0 g0 ⊢
  have hb := hD
  simp only [e0]
  unfold yGrV
  by_cases q : y.1.n = 0
  · rw [decide_eq_false (show ¬ 0 < y.1.n by omega), if_pos (show zb1 false = 0 from rfl), if_pos (Or.inl q)]
    exact ⟨I, rfl, hs0, g0⟩
  rw [decide_eq_true (show 0 < y.1.n by omega), if_neg (show ¬ zb1 true = 0 by decide)]
  by_cases q0 : (y.2.2.1 6).1 = 0
  · rw [if_pos q0, if_pos (Or.inr q0)]
    exact ⟨I, rfl, hs0, g0⟩
  rw [if_neg q0, if_neg (fun w => w.elim q q0), eX12_growths_3, eX12_growths_4, if_neg (by decide)]
  generalize hP : (fun p : Nat => yAl (yGP y.1 (y.2.2.1 6) ((p / 21 : Nat) : Int) ((p % 21 : Nat) : Int)) (y.2.2.1 6).1) = P
  have e9 : zi i = -1 ↔ i = -1 := zi_m1 bi
  obtain ⟨I1, hp, c1⟩ := yIth (n := 1071) (i := i) (P := P) (G := fun p I1 => if p < 1071 then zX 0 (zCd zT e) zc_X12_growths 5 [some (.ref 130), some (.int (zi i)), some (.int (zi ((yCn P p : Nat) : Int))), some (.int (zi ((p / 21 : Nat) : Int))), some (.int (zi ((p % 21 : Nat) : Int)))] [] (zm L I1 J r) else zX 0 (zCd zT e) zc_X12_growths 11 [some (.ref 130), some (.int (zi i)), some (.int (zi ((yCn P p : Nat) : Int))), some (.int (zi 51)), none] [] (zm L I1 J r)) (E := fun p I1 => some (some (.int (zi (100 * ((p / 21 : Nat) : Int) + ((p % 21 : Nat) : Int)))), (zm L I1 J r))) (Q := fun I1 => zTI I1 J y.1 ∧ zSm I0 I1 ∧ I1 120 = I0 120) (fun p I1 hpn hQ => by
    have hb1 := mTb_sm hQ.2.1 hb
    obtain ⟨I2, t1, t2, t3, t4⟩ := mGrows (d := e) (L := L) (r := r) (by omega) hQ.1 (by omega) hb1 hw (drag := ((p / 21 : Nat) : Int)) (ten := ((p % 21 : Nat) : Int)) (by omega) (by omega)
    refine ⟨I2, ⟨t2, zSm_tr hQ.2.1 t3, t4.trans hQ.2.2⟩, ?_⟩
    have cb := yCn_b (P := P) p
    have hu : yCn P (p + 1) = yCn P p + (if P p = true then 1 else 0) := rfl
    have hPp : yAl (yGP y.1 (y.2.2.1 6) ((p / 21 : Nat) : Int) ((p % 21 : Nat) : Int)) (y.2.2.1 6).1 = P p := by rw [← hP]
    have nx : ∀ c' : Nat, zX 0 (zCd zT e) zc_X12_growths 9 [some (.ref 130), some (.int (zi i)), some (.int (zi (c' : Int))), some (.int (zi ((p / 21 : Nat) : Int))), some (.int (zi ((p % 21 : Nat) : Int)))] [] (zm L I2 J r) = if p + 1 < 1071 then zX 0 (zCd zT e) zc_X12_growths 5 [some (.ref 130), some (.int (zi i)), some (.int (zi (c' : Int))), some (.int (zi (((p + 1) / 21 : Nat) : Int))), some (.int (zi (((p + 1) % 21 : Nat) : Int)))] [] (zm L I2 J r) else zX 0 (zCd zT e) zc_X12_growths 11 [some (.ref 130), some (.int (zi i)), some (.int (zi (c' : Int))), some (.int (zi 51)), none] [] (zm L I2 J r) := by
      intro c'
      have k1 : zi ((p % 21 : Nat) : Int) + (1 : Int32) = zi ((p % 21 + 1 : Nat) : Int) := zi_add _ 1
      have k2 : zi ((p / 21 : Nat) : Int) + (1 : Int32) = zi ((p / 21 + 1 : Nat) : Int) := zi_add _ 1
      rw [eX12_growths_9, k1]
      by_cases m4 : p % 21 = 20
      · rw [eX12_growths_5, m4, if_pos (by decide), eX12_growths_10, k2, eX12_growths_4]
        by_cases l : p + 1 < 1071
        · rw [if_pos l, if_neg (show ¬ (50 : Int32) < zi ((p / 21 + 1 : Nat) : Int) by rw [show (50 : Int32) = zi 50 from rfl, zi_lt (by decide) (by omega)]; omega), show (p + 1) / 21 = p / 21 + 1 by omega, show (p + 1) % 21 = 0 by omega]
          rfl
        · rw [if_neg l, if_pos (show (50 : Int32) < zi ((p / 21 + 1 : Nat) : Int) by rw [show (50 : Int32) = zi 50 from rfl, zi_lt (by decide) (by omega)]; omega), show p / 21 + 1 = 51 by omega]
          rfl
      · rw [if_pos (by omega), show (p + 1) / 21 = p / 21 by omega, show (p + 1) % 21 = p % 21 + 1 by omega]
    have k3 : zi ((yCn P p : Nat) : Int) + (1 : Int32) = zi ((yCn P p + 1 : Nat) : Int) := zi_add _ 1
    have k4 : (100 : Int32) * zi ((p / 21 : Nat) : Int) + zi ((p % 21 : Nat) : Int) = zi (100 * ((p / 21 : Nat) : Int) + ((p % 21 : Nat) : Int)) := by rw [show (100 : Int32) = zi 100 from rfl, zi_mul, zi_add]
    rw [if_pos hpn, eX12_growths_5, if_neg (show ¬ (20 : Int32) < zi (((p % 21 : Nat) : Int)) by rw [show (20 : Int32) = zi 20 from rfl, zi_lt (by decide) (by omega)]; omega), t1, zbI_s, eX12_growths_6, hPp, eX12_growths_7, eX12_growths_8, k3, k4, hu]
    simp only [nx, zi_eq (show -2147483648 ≤ ((yCn P p : Nat) : Int) ∧ ((yCn P p : Nat) : Int) < 2147483648 by omega) bi]
    cases P p
    · rfl
    · rfl) I ⟨h0, hs0, g0⟩
  have z0 : zX 0 (zCd zT e) zc_X12_growths 5 [some (.ref 130), some (.int (zi i)), some (.int 0), some (.int 0), some (.int 0)] [] (zm L I J r) = _ := c1
  refine ⟨I1, ?_, hp.2⟩
  rw [z0]
  unfold yIt
  by_cases q2 : yIs P 1071 i < 1071
  · rw [if_pos q2, if_pos q2]
  · rw [if_neg q2, if_neg q2, if_neg (by decide), eX12_growths_11, eX12_growths_12, eX12_growths_13, eX12_growths_13]
    by_cases q3 : i = -1
    · rw [if_pos (e9.mpr q3), if_pos q3]
    · rw [if_neg (fun w => q3 (e9.mp w)), if_neg q3]
      rfl

end
theorem oGrowths (a : Int32) : zOk 196 349 [.int a] := by
  obtain ⟨a, rfl, ba⟩ := zi_of a
  exact zOk_k (V := fun y => .int (zi (yGrV y a))) (fun L r c I J y h hD hW _ hc => cGrowths (by decide) h hD hW hc ba) (fun L r c I J y h hD hW _ => mGrowths (by decide) h (mDay_t hD (by decide)) hW ba)

