/-! FORETOLD -/
def yFu (m : Int32) (best x : Int) : Int := if x = -1 then best else if best = -1 then x else if (if m = 0 then x < best else best < x) then x else best
def yFo (P : Nat → Bool) (T : Nat → Int) (m : Int32) : Nat → Int
  | 0 => -1
  | p + 1 => yFu m (yFo P T m p) (if P p = true then T p else -1)
theorem yFo_b {P : Nat → Bool} {T : Nat → Int} {m : Int32} (h : ∀ p, -1 ≤ T p ∧ T p ≤ 3300) : ∀ p, -1 ≤ yFo P T m p ∧ yFo P T m p ≤ 3300 := by
  intro p
  induction p with
  | zero => rw [yFo]; omega
  | succ p ih =>
    have := h p
    rw [yFo]
    unfold yFu
    repeat' split
    all_goals omega
def yFoV (y : zFd) (day : Int) (m : Int32) : Int := if zbo day 0 99 = true then -3 else if y.1.n = 0 ∨ (y.2.2.1 6).1 = 0 then -5 else yFo (fun p => yAl (yGP y.1 (y.2.2.1 6) ((p / 21 : Nat) : Int) ((p % 21 : Nat) : Int)) (y.2.2.1 6).1) (fun p => zOT y.1 (10 * (((p / 21 : Nat) : Int) + ((p % 21 : Nat) : Int) * day / 10) / (y.2.2.1 6).2 0 0)) m 1071
section
variable {d L r : Nat} {I : Nat → Nat → Int32} {J : Nat → Nat → Int64}
theorem cFore (hd : 11 ≤ d) {y : zFd} {c : Nat} (h : zTI I J y.1) (hD : cDay 0 I J y) (hW : wDay c y) (hc : zCa I y.1) {day : Int} (bday : -2147483648 ≤ day ∧ day < 2147483648) (m : Int32) : ∃ I', zCd zT d 199 [.ref 16, .int (zi day), .int m] (zm L I J r) = some (some (.int (zi (yFoV y day m))), (zm L I' J r)) ∧ zSm I I' ∧ zCa I' y.1 := by
  obtain ⟨e, rfl⟩ : ∃ e, d = e + 1 := ⟨d - 1, by omega⟩
  have hb : cTb 51 6 I (y.2.2.1 6) := hD.2.2.1 6 (by decide)
  have hw := hW.2.2.1 6 (by decide)
  have hm : (y.2.2.1 6).1 ≤ 20 := hw.1
  have e0 : zi ((y.2.2.1 6).1 : Int) = 0 ↔ (y.2.2.1 6).1 = 0 := (zi_eq (y := 0) (by omega) (by decide)).trans (by omega)
  have k0 : zCd zT e 225 [.int (zi day), .int 0, .int 99] (zm L I J r) = _ := cOut (lo := 0) (hi := 99) (by omega) bday (by decide) (by decide)
  rw [qX11_foretold, eX11_foretold_0, k0, zbI_s, eX11_foretold_1]
  unfold yFoV
  cases hdb : zbo day 0 99
  case true => exact ⟨I, rfl, zSm_rf, hc⟩
  have bd := zbo_f hdb
  rw [if_pos (show zb1 false = 0 from rfl), if_neg (show ¬ false = true by decide), eX11_foretold_2, cNoTrack (by omega) h, zbI_s, eX11_foretold_3, cTSize (by omega) (by decide) hb, zbI_s, eX11_foretold_4, eX11_foretold_5]
  simp only [e0]
  by_cases q : y.1.n = 0
  · rw [decide_eq_true q, if_neg (show ¬ zb1 true = 0 by decide), if_pos (Or.inl q)]
    exact ⟨I, rfl, zSm_rf, hc⟩
  rw [decide_eq_false q, if_pos (show zb1 false = 0 from rfl)]
  by_cases q0 : (y.2.2.1 6).1 = 0
  · rw [if_pos q0, if_pos (Or.inr q0)]
    exact ⟨I, rfl, zSm_rf, hc⟩
  rw [if_neg q0, if_neg (fun w => w.elim q q0), eX11_foretold_6, eX11_foretold_7, if_neg (by decide)]
  generalize hP : (fun p : Nat => yAl (yGP y.1 (y.2.2.1 6) ((p / 21 : Nat) : Int) ((p % 21 : Nat) : Int)) (y.2.2.1 6).1) = P
  generalize hT : (fun p : Nat => zOT y.1 (10 * (((p / 21 : Nat) : Int) + ((p % 21 : Nat) : Int) * day / 10) / (y.2.2.1 6).2 0 0)) = T
  have hTb : ∀ p, -1 ≤ T p ∧ T p ≤ 3300 := fun p => by rw [← hT]; exact ⟨zOT_b.1, zOT_b.2.1⟩
  obtain ⟨I1, c1, hp⟩ := zForM (n := 1071) (G := fun p I1 => if p < 1071 then zX 0 (zCd zT e) zc_X11_foretold 8 [some (.ref 16), some (.int (zi day)), some (.int m), some (.int (zi (yFo P T m p))), some (.int (zi ((p / 21 : Nat) : Int))), some (.int (zi ((p % 21 : Nat) : Int))), none, none] [] (zm L I1 J r) else zX 0 (zCd zT e) zc_X11_foretold 20 [some (.ref 16), some (.int (zi day)), some (.int m), some (.int (zi (yFo P T m p))), some (.int (zi 51)), none, none, none] [] (zm L I1 J r)) (P := fun I1 => zTI I1 J y.1 ∧ zSm I I1 ∧ zCa I1 y.1) (fun p I1 hpn hQ => by
    have cb := yFo_b (P := P) (m := m) hTb p
    have tb := hTb p
    have hu : yFo P T m (p + 1) = yFu m (yFo P T m p) (if P p = true then T p else -1) := rfl
    have hPp : yAl (yGP y.1 (y.2.2.1 6) ((p / 21 : Nat) : Int) ((p % 21 : Nat) : Int)) (y.2.2.1 6).1 = P p := by rw [← hP]
    have hTp : zOT y.1 (10 * (((p / 21 : Nat) : Int) + ((p % 21 : Nat) : Int) * day / 10) / (y.2.2.1 6).2 0 0) = T p := by rw [← hT]
    have nx : ∀ (c' : Int32) (I2 : Nat → Nat → Int32), ∀ l6 l7 : Int32, zX 0 (zCd zT e) zc_X11_foretold 18 [some (.ref 16), some (.int (zi day)), some (.int m), some (.int c'), some (.int (zi ((p / 21 : Nat) : Int))), some (.int (zi ((p % 21 : Nat) : Int))), some (.int l6), some (.int l7)] [] (zm L I2 J r) = if p + 1 < 1071 then zX 0 (zCd zT e) zc_X11_foretold 8 [some (.ref 16), some (.int (zi day)), some (.int m), some (.int c'), some (.int (zi (((p + 1) / 21 : Nat) : Int))), some (.int (zi (((p + 1) % 21 : Nat) : Int))), none, none] [] (zm L I2 J r) else zX 0 (zCd zT e) zc_X11_foretold 20 [some (.ref 16), some (.int (zi day)), some (.int m), some (.int c'), some (.int (zi 51)), none, none, none] [] (zm L I2 J r) := by
      intro c' I2 l6 l7
      have k1 : zi ((p % 21 : Nat) : Int) + (1 : Int32) = zi ((p % 21 + 1 : Nat) : Int) := zi_add _ 1
      have k2 : zi ((p / 21 : Nat) : Int) + (1 : Int32) = zi ((p / 21 + 1 : Nat) : Int) := zi_add _ 1
      rw [eX11_foretold_18, k1]
      by_cases m4 : p % 21 = 20
      · rw [eX11_foretold_8, m4, if_pos (by decide), eX11_foretold_19, k2, eX11_foretold_7]
        by_cases l : p + 1 < 1071
        · rw [if_pos l, if_neg (show ¬ (50 : Int32) < zi ((p / 21 + 1 : Nat) : Int) by rw [show (50 : Int32) = zi 50 from rfl, zi_lt (by decide) (by omega)]; omega), show (p + 1) / 21 = p / 21 + 1 by omega, show (p + 1) % 21 = 0 by omega]
          rfl
        · rw [if_neg l, if_pos (show (50 : Int32) < zi ((p / 21 + 1 : Nat) : Int) by rw [show (50 : Int32) = zi 50 from rfl, zi_lt (by decide) (by omega)]; omega), show p / 21 + 1 = 51 by omega]
          rfl
      · rw [if_pos (by omega), show (p + 1) / 21 = p / 21 by omega, show (p + 1) % 21 = p % 21 + 1 by omega]
    have hb1 := cTb_sm (by decide) hQ.2.1 hb
    obtain ⟨I2, t1, t2, t3, t4⟩ := cGrowthFits (d := e) (L := L) (r := r) (by omega) hQ.1 hQ.2.2 (by omega) hb1 hw (drag := ((p / 21 : Nat) : Int)) (ten := ((p % 21 : Nat) : Int)) (by omega) (by omega)
    rw [hPp] at t1
    have start : zX 0 (zCd zT e) zc_X11_foretold 8 [some (.ref 16), some (.int (zi day)), some (.int m), some (.int (zi (yFo P T m p))), some (.int (zi ((p / 21 : Nat) : Int))), some (.int (zi ((p % 21 : Nat) : Int))), none, none] [] (zm L I1 J r) = zX 0 (zCd zT e) zc_X11_foretold 9 [some (.ref 16), some (.int (zi day)), some (.int m), some (.int (zi (yFo P T m p))), some (.int (zi ((p / 21 : Nat) : Int))), some (.int (zi ((p % 21 : Nat) : Int))), none, none] [.int (zb1 (P p))] (zm L I2 J r) := by
      rw [eX11_foretold_8, if_neg (show ¬ (20 : Int32) < zi ((p % 21 : Nat) : Int) by rw [show (20 : Int32) = zi 20 from rfl, zi_lt (by decide) (by omega)]; omega), t1, zbI_s]
    rw [if_pos hpn, start, hu]
    have tail : ∀ (x : Int) (I3 : Nat → Nat → Int32), -1 ≤ x ∧ x ≤ 3300 → zX 0 (zCd zT e) zc_X11_foretold 12 [some (.ref 16), some (.int (zi day)), some (.int m), some (.int (zi (yFo P T m p))), some (.int (zi ((p / 21 : Nat) : Int))), some (.int (zi ((p % 21 : Nat) : Int))), none, none] [.int (zi x)] (zm L I3 J r) = if p + 1 < 1071 then zX 0 (zCd zT e) zc_X11_foretold 8 [some (.ref 16), some (.int (zi day)), some (.int m), some (.int (zi (yFu m (yFo P T m p) x))), some (.int (zi (((p + 1) / 21 : Nat) : Int))), some (.int (zi (((p + 1) % 21 : Nat) : Int))), none, none] [] (zm L I3 J r) else zX 0 (zCd zT e) zc_X11_foretold 20 [some (.ref 16), some (.int (zi day)), some (.int m), some (.int (zi (yFu m (yFo P T m p) x))), some (.int (zi 51)), none, none, none] [] (zm L I3 J r) := by
      intro x I3 bx
      rw [eX11_foretold_12, eX11_foretold_13, eX11_foretold_14, eX11_foretold_15]
      have e1 : zi x = -1 ↔ x = -1 := zi_m1 (by omega)
      have e2 : zi (yFo P T m p) = -1 ↔ yFo P T m p = -1 := zi_m1 (by omega)
      have e3 : zi x ≤ zi (yFo P T m p) ↔ x ≤ yFo P T m p := zi_le (by omega) (by omega)
      have e4 : zi (yFo P T m p) ≤ zi x ↔ yFo P T m p ≤ x := zi_le (by omega) (by omega)
      have done : ∀ s : Int32, (s = 0 ↔ ¬ (if m = 0 then x < yFo P T m p else yFo P T m p < x)) → zX 0 (zCd zT e) zc_X11_foretold 16 [some (.ref 16), some (.int (zi day)), some (.int m), some (.int (zi (yFo P T m p))), some (.int (zi ((p / 21 : Nat) : Int))), some (.int (zi ((p % 21 : Nat) : Int))), some (.int (zi x)), none] [.int s] (zm L I3 J r) = if p + 1 < 1071 then zX 0 (zCd zT e) zc_X11_foretold 8 [some (.ref 16), some (.int (zi day)), some (.int m), some (.int (zi (yFu m (yFo P T m p) x))), some (.int (zi (((p + 1) / 21 : Nat) : Int))), some (.int (zi (((p + 1) % 21 : Nat) : Int))), none, none] [] (zm L I3 J r) else zX 0 (zCd zT e) zc_X11_foretold 20 [some (.ref 16), some (.int (zi day)), some (.int m), some (.int (zi (yFu m (yFo P T m p) x))), some (.int (zi 51)), none, none, none] [] (zm L I3 J r) := by
        intro s hs
        rw [eX11_foretold_16, eX11_foretold_17]
        simp only [nx, e1, e2, hs]
        unfold yFu
        by_cases q1 : x = -1
        · simp only [q1, if_true]
        · simp only [q1, if_false]
          by_cases q2 : yFo P T m p = -1
          · simp only [q2, if_true]
          · simp only [q2, if_false]
            by_cases q3 : (if m = 0 then x < yFo P T m p else yFo P T m p < x)
            · simp only [q3, if_true, not_true_eq_false, if_false]
            · simp only [q3, if_true, not_false_eq_true, if_false]
      simp only [e3, e4]
      by_cases qm : m = 0
      · rw [if_pos qm]
        by_cases q5 : yFo P T m p ≤ x
        · rw [if_pos q5]
          exact done 0 (by rw [if_pos qm]; exact ⟨fun _ => by omega, fun _ => rfl⟩)
        · rw [if_neg q5]
          exact done 1 (by rw [if_pos qm]; exact ⟨fun w => absurd w (by decide), fun w => absurd (show x < yFo P T m p by omega) w⟩)
      · rw [if_neg qm]
        by_cases q5 : x ≤ yFo P T m p
        · rw [if_pos q5]
          exact done 0 (by rw [if_neg qm]; exact ⟨fun _ => by omega, fun _ => rfl⟩)
        · rw [if_neg q5]
          exact done 1 (by rw [if_neg qm]; exact ⟨fun w => absurd w (by decide), fun w => absurd (show yFo P T m p < x by omega) w⟩)
    cases hPc : P p
    · refine ⟨I2, ?_, ⟨t2, zSm_tr hQ.2.1 t3, t4⟩⟩
      rw [eX11_foretold_9, if_pos (show zb1 false = 0 from rfl), eX11_foretold_11]
      exact tail (-1) I2 (by decide)
    · have hb2 := cTb_sm (by decide) t3 hb1
      have w0 : 1 ≤ (y.2.2.1 6).2 0 0 ∧ (y.2.2.1 6).2 0 0 ≤ 20 := hw.2 0 0 (by omega) (by decide)
      have tk := yTk_b (a := ((p % 21 : Nat) : Int)) (b := day) (by omega) bd
      obtain ⟨I3, u1, u2, u3⟩ := cTio (d := e - 1) (L := L) (r := r) (by omega) t2 t4 (by omega) (yLs_b (x := ((p / 21 : Nat) : Int) + ((p % 21 : Nat) : Int) * day / 10) (w := (y.2.2.1 6).2 0 0) (by omega) w0.1)
      have gt : zCd zT e 200 [.ref 16, .int (zi ((p / 21 : Nat) : Int)), .int (zi ((p % 21 : Nat) : Int)), .int (zi day)] (zm L I2 J r) = some (some (.int (zi (T p))), (zm L I3 J r)) := by
        obtain ⟨e1, rfl⟩ : ∃ e1, e = e1 + 1 := ⟨e - 1, by omega⟩
        rw [qX11_grownTicks, eX11_grownTicks_0, cGrownLoss (by omega) hb2 hw (by omega) (by omega) (by omega) bd, zbI_s, eX11_grownTicks_1]
        rw [Nat.add_sub_cancel] at u1
        rw [u1, zbI_s, eX11_grownTicks_2, hTp]
      refine ⟨I3, ?_, ⟨zTI_fr u2 t2, zSm_tr hQ.2.1 (zSm_tr t3 u2), u3⟩⟩
      rw [eX11_foretold_9, if_neg (show ¬ zb1 true = 0 by decide), gt, zbI_s, eX11_foretold_10]
      exact tail (T p) I3 tb) I ⟨h, zSm_rf, hc⟩
  have z0 : zX 0 (zCd zT e) zc_X11_foretold 8 [some (.ref 16), some (.int (zi day)), some (.int m), some (.int (-1)), some (.int 0), some (.int 0), none, none] [] (zm L I J r) = _ := c1
  refine ⟨I1, ?_, hp.2⟩
  rw [z0, if_neg (by decide), eX11_foretold_20]

theorem mFore (hd : 11 ≤ d) {y : zFd} {c : Nat} (h : zTI I J y.1) (hD : mTb 6 (I 131) (y.2.2.1 6)) (hW : wDay c y) {day : Int} (bday : -2147483648 ≤ day ∧ day < 2147483648) (m : Int32) : ∃ I', zCd zT d 350 [.ref 130, .int (zi day), .int m] (zm L I J r) = some (some (.int (zi (yFoV y day m))), (zm L I' J r)) ∧ zSm I I' ∧ I' 120 = I 120 := by
  obtain ⟨e, rfl⟩ : ∃ e, d = e + 1 := ⟨d - 1, by omega⟩
  have h0 := zTI_fr zSm_0 h
  have hs0 : zSm I (zu I 130 0 0) := zSm_0
  have g0 : zu I 130 0 0 120 = I 120 := zu_o (by decide)
  have hw := hW.2.2.1 6 (by decide)
  have hm : (y.2.2.1 6).1 ≤ 20 := hw.1
  have e0 : zi ((y.2.2.1 6).1 : Int) = 0 ↔ (y.2.2.1 6).1 = 0 := (zi_eq (y := 0) (by omega) (by decide)).trans (by omega)
  have en : zu I 130 0 0 131 814 = zi (y.2.2.1 6).1 := (mTb_sm hs0 hD).1
  rw [qX12_foretold, eX12_foretold_0, mWithin (by omega) bday, zbI_s, eX12_foretold_1, show (0 : Int64).toInt = 0 from rfl, show (99 : Int64).toInt = 99 from rfl]
  unfold yFoV
  cases hdb : zbo day 0 99
  case true => exact ⟨_, rfl, hs0, g0⟩
  have bd := zbo_f hdb
  rw [if_neg (show ¬ zb1 (!false) = 0 by decide), if_neg (show ¬ false = true by decide), eX12_foretold_2, mTrack (by omega) h0, zbI_s, eX12_foretold_3, en, eX12_foretold_4]
  generalize zu I 130 0 0 = IA at h0 hs0 g0 ⊢
  generalize I = I0 at h hD hs0 g0 ⊢
  generalize IA = I at h0 hs0 g0 ⊢
  have hb := hD
  simp only [e0]
  by_cases q : y.1.n = 0
  · rw [decide_eq_false (show ¬ 0 < y.1.n by omega), if_pos (show zb1 false = 0 from rfl), if_pos (Or.inl q)]
    exact ⟨I, rfl, hs0, g0⟩
  rw [decide_eq_true (show 0 < y.1.n by omega), if_neg (show ¬ zb1 true = 0 by decide)]
  by_cases q0 : (y.2.2.1 6).1 = 0
  · rw [if_pos q0, if_pos (Or.inr q0)]
    exact ⟨I, rfl, hs0, g0⟩
  rw [if_neg q0, if_neg (fun w => w.elim q q0), eX12_foretold_5, eX12_foretold_6, if_neg (by decide)]
  generalize hP : (fun p : Nat => yAl (yGP y.1 (y.2.2.1 6) ((p / 21 : Nat) : Int) ((p % 21 : Nat) : Int)) (y.2.2.1 6).1) = P
  generalize hT : (fun p : Nat => zOT y.1 (10 * (((p / 21 : Nat) : Int) + ((p % 21 : Nat) : Int) * day / 10) / (y.2.2.1 6).2 0 0)) = T
  have hTb : ∀ p, -1 ≤ T p ∧ T p ≤ 3300 := fun p => by rw [← hT]; exact ⟨zOT_b.1, zOT_b.2.1⟩
  obtain ⟨I1, c1, hp⟩ := zForM (n := 1071) (G := fun p I1 => if p < 1071 then zX 0 (zCd zT e) zc_X12_foretold 7 [some (.ref 130), some (.int (zi day)), some (.int m), some (.int (zi (yFo P T m p))), some (.int (zi ((p / 21 : Nat) : Int))), some (.int (zi ((p % 21 : Nat) : Int)))] [] (zm L I1 J r) else zX 0 (zCd zT e) zc_X12_foretold 18 [some (.ref 130), some (.int (zi day)), some (.int m), some (.int (zi (yFo P T m p))), some (.int (zi 51)), none] [] (zm L I1 J r)) (P := fun I1 => zTI I1 J y.1 ∧ zSm I0 I1 ∧ I1 120 = I0 120) (fun p I1 hpn hQ => by
    have cb := yFo_b (P := P) (m := m) hTb p
    have tb := hTb p
    have hu : yFo P T m (p + 1) = yFu m (yFo P T m p) (if P p = true then T p else -1) := rfl
    have hPp : yAl (yGP y.1 (y.2.2.1 6) ((p / 21 : Nat) : Int) ((p % 21 : Nat) : Int)) (y.2.2.1 6).1 = P p := by rw [← hP]
    have hTp : zOT y.1 (10 * (((p / 21 : Nat) : Int) + ((p % 21 : Nat) : Int) * day / 10) / (y.2.2.1 6).2 0 0) = T p := by rw [← hT]
    have nx : ∀ (c' : Int32) (I2 : Nat → Nat → Int32), zX 0 (zCd zT e) zc_X12_foretold 16 [some (.ref 130), some (.int (zi day)), some (.int m), some (.int c'), some (.int (zi ((p / 21 : Nat) : Int))), some (.int (zi ((p % 21 : Nat) : Int)))] [] (zm L I2 J r) = if p + 1 < 1071 then zX 0 (zCd zT e) zc_X12_foretold 7 [some (.ref 130), some (.int (zi day)), some (.int m), some (.int c'), some (.int (zi (((p + 1) / 21 : Nat) : Int))), some (.int (zi (((p + 1) % 21 : Nat) : Int)))] [] (zm L I2 J r) else zX 0 (zCd zT e) zc_X12_foretold 18 [some (.ref 130), some (.int (zi day)), some (.int m), some (.int c'), some (.int (zi 51)), none] [] (zm L I2 J r) := by
      intro c' I2
      have k1 : zi ((p % 21 : Nat) : Int) + (1 : Int32) = zi ((p % 21 + 1 : Nat) : Int) := zi_add _ 1
      have k2 : zi ((p / 21 : Nat) : Int) + (1 : Int32) = zi ((p / 21 + 1 : Nat) : Int) := zi_add _ 1
      rw [eX12_foretold_16, k1]
      by_cases m4 : p % 21 = 20
      · rw [eX12_foretold_7, m4, if_pos (by decide), eX12_foretold_17, k2, eX12_foretold_6]
        by_cases l : p + 1 < 1071
        · rw [if_pos l, if_neg (show ¬ (50 : Int32) < zi ((p / 21 + 1 : Nat) : Int) by rw [show (50 : Int32) = zi 50 from rfl, zi_lt (by decide) (by omega)]; omega), show (p + 1) / 21 = p / 21 + 1 by omega, show (p + 1) % 21 = 0 by omega]
          rfl
        · rw [if_neg l, if_pos (show (50 : Int32) < zi ((p / 21 + 1 : Nat) : Int) by rw [show (50 : Int32) = zi 50 from rfl, zi_lt (by decide) (by omega)]; omega), show p / 21 + 1 = 51 by omega]
          rfl
      · rw [if_pos (by omega), show (p + 1) / 21 = p / 21 by omega, show (p + 1) % 21 = p % 21 + 1 by omega]
    have hb1 := mTb_sm hQ.2.1 hb
    obtain ⟨I2, t1, t2, t3, t4⟩ := mGrows (d := e) (L := L) (r := r) (by omega) hQ.1 (by omega) hb1 hw (drag := ((p / 21 : Nat) : Int)) (ten := ((p % 21 : Nat) : Int)) (by omega) (by omega)
    rw [hPp] at t1
    have start : zX 0 (zCd zT e) zc_X12_foretold 7 [some (.ref 130), some (.int (zi day)), some (.int m), some (.int (zi (yFo P T m p))), some (.int (zi ((p / 21 : Nat) : Int))), some (.int (zi ((p % 21 : Nat) : Int)))] [] (zm L I1 J r) = zX 0 (zCd zT e) zc_X12_foretold 8 [some (.ref 130), some (.int (zi day)), some (.int m), some (.int (zi (yFo P T m p))), some (.int (zi ((p / 21 : Nat) : Int))), some (.int (zi ((p % 21 : Nat) : Int)))] [.int (zb1 (P p))] (zm L I2 J r) := by
      rw [eX12_foretold_7, if_neg (show ¬ (20 : Int32) < zi ((p % 21 : Nat) : Int) by rw [show (20 : Int32) = zi 20 from rfl, zi_lt (by decide) (by omega)]; omega), t1, zbI_s]
    rw [if_pos hpn, start, hu]
    cases hPc : P p
    · refine ⟨I2, ?_, ⟨t2, zSm_tr hQ.2.1 t3, t4.trans hQ.2.2⟩⟩
      rw [eX12_foretold_8, if_pos (show zb1 false = 0 from rfl), nx]
      rfl
    · have hb2 := mTb_sm t3 hb1
      obtain ⟨I3, u1, u2, u3, u4, u5, u6⟩ := mRunsOn (d := e) (L := L) (r := r) (by omega) t2 (by omega) hb2 hw (by omega) (drag := ((p / 21 : Nat) : Int)) (ten := ((p % 21 : Nat) : Int)) (k := day) (by omega) (by omega) bd
      rw [hTp] at u5 u6
      refine ⟨I3, ?_, ⟨u2, zSm_tr hQ.2.1 (zSm_tr t3 u3), u4.trans (t4.trans hQ.2.2)⟩⟩
      rw [eX12_foretold_8, if_neg (show ¬ zb1 true = 0 by decide), eX12_foretold_9, u1, zbV_s, eX12_foretold_10, if_pos rfl]
      by_cases q1 : I3 130 19 = 0
      · have q2 := u5.mp q1
        have e2 : zi (yFo P T m p) = -1 ↔ yFo P T m p = -1 := zi_m1 (by omega)
        have e3 : zi (T p) ≤ zi (yFo P T m p) ↔ T p ≤ yFo P T m p := zi_le (by omega) (by omega)
        have e4 : zi (yFo P T m p) ≤ zi (T p) ↔ yFo P T m p ≤ T p := zi_le (by omega) (by omega)
        rw [if_pos q1, eX12_foretold_11, eX12_foretold_12, eX12_foretold_13, eX12_foretold_14, eX12_foretold_15, eX12_foretold_15, u6 q1]
        simp only [nx, e2, e3, e4]
        unfold yFu
        simp only [q2, if_false]
        by_cases q3 : yFo P T m p = -1
        · simp only [q3, if_true]
        · simp only [q3, if_false]
          by_cases qm : m = 0
          · simp only [qm, if_true]
            by_cases q5 : yFo P T 0 p ≤ T p
            · simp only [q5, if_true, show ¬ T p < yFo P T 0 p by omega, if_false]
            · simp only [q5, if_false, show T p < yFo P T 0 p by omega, if_true]
          · simp only [qm, if_false]
            by_cases q5 : T p ≤ yFo P T m p
            · simp only [q5, if_true, show ¬ yFo P T m p < T p by omega, if_false]
            · simp only [q5, if_false, show yFo P T m p < T p by omega, if_true]
      · have q2 : T p = -1 := Decidable.not_not.mp (fun w => q1 (u5.mpr w))
        rw [if_neg q1, nx, q2]
        rfl) I ⟨h0, hs0, g0⟩
  have z0 : zX 0 (zCd zT e) zc_X12_foretold 7 [some (.ref 130), some (.int (zi day)), some (.int m), some (.int (-1)), some (.int 0), some (.int 0)] [] (zm L I J r) = _ := c1
  refine ⟨I1, ?_, hp.2⟩
  rw [z0, if_neg (by decide), eX12_foretold_18]

end
theorem oForetold (a m : Int32) : zOk 199 350 [.int a, .int m] := by
  obtain ⟨a, rfl, ba⟩ := zi_of a
  exact zOk_k (V := fun y => .int (zi (yFoV y a m))) (fun L r c I J y h hD hW _ hc => cFore (by decide) h hD hW hc ba m) (fun L r c I J y h hD hW _ => mFore (by decide) h (mDay_t hD (by decide)) hW ba m)

