/-! WORN -/
def yWa (P : Nat → Bool) : Nat → Int
  | 0 => -1
  | p + 1 => if P p = true then ((p % 5 : Nat) : Int) else yWa P p
def yWs (P : Nat → Bool) (p : Nat) : Bool := P p && (decide (¬ yWa P p = -1) && decide (¬ yWa P p = ((p % 5 : Nat) : Int)))
def yWm (a : Int) : Int := if a = -1 then -1 else if a = 0 then 9 else a - 1
theorem yWa_b {P : Nat → Bool} : ∀ p, -1 ≤ yWa P p ∧ yWa P p ≤ 4 := by
  intro p
  induction p with
  | zero => rw [yWa]; omega
  | succ p ih =>
    rw [yWa]
    split <;> omega
theorem yWm_b {a : Int} (h : -1 ≤ a ∧ a ≤ 4) : (-1 ≤ yWm a ∧ yWm a ≤ 9) ∧ (yWm a = -1 ↔ a = -1) ∧ ∀ b, -1 ≤ b ∧ b ≤ 4 → (yWm a = yWm b ↔ a = b) := by
  unfold yWm
  refine ⟨by split <;> (try split) <;> omega, by split <;> (try split) <;> omega, fun b hb => ?_⟩
  by_cases h1 : a = -1
  · rw [if_pos h1]
    by_cases h2 : b = -1
    · rw [if_pos h2]
      omega
    · rw [if_neg h2]
      split <;> omega
  · rw [if_neg h1]
    by_cases h2 : b = -1
    · rw [if_pos h2]
      split <;> omega
    · rw [if_neg h2]
      split
      · split <;> omega
      · split <;> omega
def yWoV (y : zFd) : Int := if y.1.n = 0 then -5 else if zFs (yWs fun p => yAl (yPF y.1 (y.2.2.1 0) ((p / 5 : Nat) : Int) ((p % 5 : Nat) : Int)) (y.2.2.1 0).1) 255 < 255 then -1 else yWm (yWa (fun p => yAl (yPF y.1 (y.2.2.1 0) ((p / 5 : Nat) : Int) ((p % 5 : Nat) : Int)) (y.2.2.1 0).1) 255)
section
variable {d L r : Nat} {I : Nat → Nat → Int32} {J : Nat → Nat → Int64}
theorem cWorn (hd : 10 ≤ d) {y : zFd} {c : Nat} (h : zTI I J y.1) (hD : cDay 0 I J y) (hW : wDay c y) (hc : zCa I y.1) : ∃ I', zCd zT d 164 [.ref 16] (zm L I J r) = some (some (.int (zi (yWoV y))), (zm L I' J r)) ∧ zSm I I' ∧ zCa I' y.1 := by
  obtain ⟨e, rfl⟩ : ∃ e, d = e + 1 := ⟨d - 1, by omega⟩
  rw [qX11_worn, eX11_worn_0, cNoTrack (by omega) h, zbI_s, eX11_worn_1]
  unfold yWoV
  by_cases q : y.1.n = 0
  · rw [decide_eq_true q, if_neg (show ¬ zb1 true = 0 by decide), if_pos q]
    exact ⟨I, rfl, zSm_rf, hc⟩
  rw [decide_eq_false q, if_pos (show zb1 false = 0 from rfl), if_neg q, eX11_worn_2, eX11_worn_3, if_neg (by decide)]
  have hb : cTb 39 0 I (y.2.2.1 0) := hD.2.2.1 0 (by decide)
  have hw := hW.2.2.1 0 (by decide)
  generalize hP : (fun p : Nat => yAl (yPF y.1 (y.2.2.1 0) ((p / 5 : Nat) : Int) ((p % 5 : Nat) : Int)) (y.2.2.1 0).1) = P
  obtain ⟨I1, hp, c1⟩ := zForS (n := 255) (stop := yWs P) (G := fun p I1 => if p < 255 then zX 0 (zCd zT e) zc_X11_worn 4 [some (.ref 16), some (.int (zi (yWa P p))), some (.int (zi ((p / 5 : Nat) : Int))), some (.int (zi ((p % 5 : Nat) : Int)))] [] (zm L I1 J r) else zX 0 (zCd zT e) zc_X11_worn 9 [some (.ref 16), some (.int (zi (yWa P p))), some (.int (zi 51)), none] [] (zm L I1 J r)) (E := fun p I1 => some (some (.int (zi (-1))), (zm L I1 J r))) (P := fun I1 => zTI I1 J y.1 ∧ zSm I I1 ∧ zCa I1 y.1) (fun p I1 hpn hQ => by
    have hb1 := cTb_sm (by decide) hQ.2.1 hb
    obtain ⟨I2, t1, t2, t3, t4⟩ := cPairFits (d := e) (L := L) (r := r) (by omega) hQ.1 hQ.2.2 (by omega) hb1 hw (drag := ((p / 5 : Nat) : Int)) (worn := ((p % 5 : Nat) : Int)) (by omega) (by omega)
    refine ⟨I2, ⟨t2, zSm_tr hQ.2.1 t3, t4⟩, ?_⟩
    have cb := yWa_b (P := P) p
    have hu : yWa P (p + 1) = (if P p = true then ((p % 5 : Nat) : Int) else yWa P p) := rfl
    have hPp : yAl (yPF y.1 (y.2.2.1 0) ((p / 5 : Nat) : Int) ((p % 5 : Nat) : Int)) (y.2.2.1 0).1 = P p := by rw [← hP]
    have nx : ∀ c' : Int32, zX 0 (zCd zT e) zc_X11_worn 7 [some (.ref 16), some (.int c'), some (.int (zi ((p / 5 : Nat) : Int))), some (.int (zi ((p % 5 : Nat) : Int)))] [] (zm L I2 J r) = if p + 1 < 255 then zX 0 (zCd zT e) zc_X11_worn 4 [some (.ref 16), some (.int c'), some (.int (zi (((p + 1) / 5 : Nat) : Int))), some (.int (zi (((p + 1) % 5 : Nat) : Int)))] [] (zm L I2 J r) else zX 0 (zCd zT e) zc_X11_worn 9 [some (.ref 16), some (.int c'), some (.int (zi 51)), none] [] (zm L I2 J r) := by
      intro c'
      have k1 : zi ((p % 5 : Nat) : Int) + (1 : Int32) = zi ((p % 5 + 1 : Nat) : Int) := zi_add _ 1
      have k2 : zi ((p / 5 : Nat) : Int) + (1 : Int32) = zi ((p / 5 + 1 : Nat) : Int) := zi_add _ 1
      rw [eX11_worn_7, k1]
      by_cases m4 : p % 5 = 4
      · rw [eX11_worn_4, m4, if_pos (by decide), eX11_worn_8, k2, eX11_worn_3]
        by_cases l : p + 1 < 255
        · rw [if_pos l, if_neg (show ¬ (50 : Int32) < zi ((p / 5 + 1 : Nat) : Int) by rw [show (50 : Int32) = zi 50 from rfl, zi_lt (by decide) (by omega)]; omega), show (p + 1) / 5 = p / 5 + 1 by omega, show (p + 1) % 5 = 0 by omega]
          rfl
        · rw [if_neg l, if_pos (show (50 : Int32) < zi ((p / 5 + 1 : Nat) : Int) by rw [show (50 : Int32) = zi 50 from rfl, zi_lt (by decide) (by omega)]; omega), show p / 5 + 1 = 51 by omega]
          rfl
      · rw [if_pos (by omega), show (p + 1) / 5 = p / 5 by omega, show (p + 1) % 5 = p % 5 + 1 by omega]
    rw [if_pos hpn, eX11_worn_4, if_neg (show ¬ (4 : Int32) < zi ((p % 5 : Nat) : Int) by rw [show (4 : Int32) = zi 4 from rfl, zi_lt (by decide) (by omega)]; omega), t1, zbI_s, eX11_worn_5, hPp, hu]
    unfold yWs
    cases P p
    · rw [if_pos (show zb1 false = 0 from rfl), nx]
      rfl
    · rw [if_neg (show ¬ zb1 true = 0 by decide)]
      rw [eX11_worn_6, nx]
      have e1 : zi (yWa P p) = -1 ↔ yWa P p = -1 := zi_m1 (by omega)
      have e2 : zi (yWa P p) = zi ((p % 5 : Nat) : Int) ↔ yWa P p = ((p % 5 : Nat) : Int) := zi_eq (by omega) (by omega)
      simp only [e1, e2, if_true]
      by_cases q3 : yWa P p = -1
      · rw [if_pos q3, decide_eq_false (fun w => w q3)]
        rfl
      · rw [if_neg q3, decide_eq_true q3]
        by_cases q4 : yWa P p = ((p % 5 : Nat) : Int)
        · rw [if_pos q4, decide_eq_false (fun w => w q4)]
          rfl
        · rw [if_neg q4, decide_eq_true q4]
          rfl) I ⟨h, zSm_rf, hc⟩
  have z0 : zX 0 (zCd zT e) zc_X11_worn 4 [some (.ref 16), some (.int (zi (-1))), some (.int 0), some (.int 0)] [] (zm L I J r) = _ := c1
  refine ⟨I1, ?_, hp.2⟩
  rw [show (-1 : Int32) = zi (-1) from rfl, show (0 : Int32) = 0 from rfl, z0]
  have cb := yWa_b (P := P) 255
  unfold yWm
  by_cases q2 : zFs (yWs P) 255 < 255
  · rw [if_pos q2, if_pos q2]
  · rw [if_neg q2, if_neg q2, if_neg (by decide)]
    have e1 : zi (yWa P 255) = -1 ↔ yWa P 255 = -1 := zi_m1 (by omega)
    have e2 : zi (yWa P 255) = 0 ↔ yWa P 255 = 0 := zi_eq (y := 0) (by omega) (by decide)
    rw [eX11_worn_9, eX11_worn_10, eX11_worn_11, eX11_worn_12, eX11_worn_12]
    simp only [e1, e2]
    by_cases q3 : yWa P 255 = -1
    · rw [if_pos q3, if_pos q3]
      rfl
    · rw [if_neg q3, if_neg q3]
      by_cases q4 : yWa P 255 = 0
      · rw [if_pos q4, if_pos q4]
        rfl
      · rw [if_neg q4, if_neg q4, show zi (yWa P 255) - (1 : Int32) = zi (yWa P 255 - 1) from zi_sub _ 1]
theorem mWorn (hd : 10 ≤ d) {y : zFd} {c : Nat} (h : zTI I J y.1) (hD : mTb 0 (I 131) (y.2.2.1 0)) (hW : wDay c y) : ∃ I', zCd zT d 316 [.ref 130] (zm L I J r) = some (some (.int (zi (yWoV y))), (zm L I' J r)) ∧ zSm I I' ∧ I' 120 = I 120 := by
  obtain ⟨e, rfl⟩ : ∃ e, d = e + 1 := ⟨d - 1, by omega⟩
  have h0 := zTI_fr zSm_0 h
  have hs0 : zSm I (zu I 130 0 0) := zSm_0
  have g0 : zu I 130 0 0 120 = I 120 := zu_o (by decide)
  rw [qX12_worn, eX12_worn_0, mTrack (by omega) h0, zbI_s, eX12_worn_1]
  generalize zu I 130 0 0 = IA at h0 hs0 g0 ⊢
  generalize I = I0 at h hD hs0 g0 ⊢
  generalize IA = I at h0 hs0 g0 ⊢
  have hb := hD
  unfold yWoV
  have hw := hW.2.2.1 0 (by decide)
  by_cases q : y.1.n = 0
  · rw [decide_eq_false (show ¬ 0 < y.1.n by omega), if_pos (show zb1 false = 0 from rfl), if_pos q]
    exact ⟨I, rfl, hs0, g0⟩
  rw [decide_eq_true (show 0 < y.1.n by omega), if_neg (show ¬ zb1 true = 0 by decide), if_neg q, eX12_worn_2, eX12_worn_3, if_neg (by decide)]
  generalize hP : (fun p : Nat => yAl (yPF y.1 (y.2.2.1 0) ((p / 5 : Nat) : Int) ((p % 5 : Nat) : Int)) (y.2.2.1 0).1) = P
  obtain ⟨I1, hp, c1⟩ := zForS (n := 255) (stop := yWs P) (G := fun p I1 => if p < 255 then zX 0 (zCd zT e) zc_X12_worn 4 [some (.ref 130), some (.int (zi (yWm (yWa P p)))), some (.int (zi ((p / 5 : Nat) : Int))), some (.int (zi ((p % 5 : Nat) : Int))), none] [] (zm L I1 J r) else zX 0 (zCd zT e) zc_X12_worn 12 [some (.ref 130), some (.int (zi (yWm (yWa P p)))), some (.int (zi 51)), none, none] [] (zm L I1 J r)) (E := fun p I1 => some (some (.int (zi (-1))), (zm L I1 J r))) (P := fun I1 => zTI I1 J y.1 ∧ zSm I0 I1 ∧ I1 120 = I0 120) (fun p I1 hpn hQ => by
    have hb1 := mTb_sm hQ.2.1 hb
    obtain ⟨I2, t1, t2, t3, t4⟩ := mFit (d := e) (L := L) (r := r) (by omega) hQ.1 (by omega) hb1 hw (drag := ((p / 5 : Nat) : Int)) (worn := ((p % 5 : Nat) : Int)) (by omega) (by omega)
    refine ⟨I2, ⟨t2, zSm_tr hQ.2.1 t3, t4.trans hQ.2.2⟩, ?_⟩
    have cb := yWa_b (P := P) p
    have hu : yWa P (p + 1) = (if P p = true then ((p % 5 : Nat) : Int) else yWa P p) := rfl
    have hPp : yAl (yPF y.1 (y.2.2.1 0) ((p / 5 : Nat) : Int) ((p % 5 : Nat) : Int)) (y.2.2.1 0).1 = P p := by rw [← hP]
    have nx : ∀ c' : Int32, zX 0 (zCd zT e) zc_X12_worn 10 [some (.ref 130), some (.int c'), some (.int (zi ((p / 5 : Nat) : Int))), some (.int (zi ((p % 5 : Nat) : Int))), none] [] (zm L I2 J r) = if p + 1 < 255 then zX 0 (zCd zT e) zc_X12_worn 4 [some (.ref 130), some (.int c'), some (.int (zi (((p + 1) / 5 : Nat) : Int))), some (.int (zi (((p + 1) % 5 : Nat) : Int))), none] [] (zm L I2 J r) else zX 0 (zCd zT e) zc_X12_worn 12 [some (.ref 130), some (.int c'), some (.int (zi 51)), none, none] [] (zm L I2 J r) := by
      intro c'
      have k1 : zi ((p % 5 : Nat) : Int) + (1 : Int32) = zi ((p % 5 + 1 : Nat) : Int) := zi_add _ 1
      have k2 : zi ((p / 5 : Nat) : Int) + (1 : Int32) = zi ((p / 5 + 1 : Nat) : Int) := zi_add _ 1
      rw [eX12_worn_10, k1]
      by_cases m4 : p % 5 = 4
      · rw [eX12_worn_4, m4, if_pos (by decide), eX12_worn_11, k2, eX12_worn_3]
        by_cases l : p + 1 < 255
        · rw [if_pos l, if_neg (show ¬ (50 : Int32) < zi ((p / 5 + 1 : Nat) : Int) by rw [show (50 : Int32) = zi 50 from rfl, zi_lt (by decide) (by omega)]; omega), show (p + 1) / 5 = p / 5 + 1 by omega, show (p + 1) % 5 = 0 by omega]
          rfl
        · rw [if_neg l, if_pos (show (50 : Int32) < zi ((p / 5 + 1 : Nat) : Int) by rw [show (50 : Int32) = zi 50 from rfl, zi_lt (by decide) (by omega)]; omega), show p / 5 + 1 = 51 by omega]
          rfl
      · rw [if_pos (by omega), show (p + 1) / 5 = p / 5 by omega, show (p + 1) % 5 = p % 5 + 1 by omega]
    rw [if_pos hpn, eX12_worn_4, if_neg (show ¬ (5 : Int32) ≤ zi ((p % 5 : Nat) : Int) by rw [show (5 : Int32) = zi 5 from rfl, zi_le (by decide) (by omega)]; omega), t1, zbI_s, eX12_worn_5, hPp, hu]
    unfold yWs
    cases P p
    · rw [if_pos (show zb1 false = 0 from rfl), nx]
      rfl
    · rw [if_neg (show ¬ zb1 true = 0 by decide)]
      have hz : ∀ x : Int, x = yWm ((p % 5 : Nat) : Int) → zX 0 (zCd zT e) zc_X12_worn 8 [some (.ref 130), some (.int (zi (yWm (yWa P p)))), some (.int (zi ((p / 5 : Nat) : Int))), some (.int (zi ((p % 5 : Nat) : Int))), none] [.int (zi x)] (zm L I2 J r) = if (true && (decide (¬ yWa P p = -1) && decide (¬ yWa P p = ((p % 5 : Nat) : Int)))) = true then some (some (.int (zi (-1))), (zm L I2 J r)) else if p + 1 < 255 then zX 0 (zCd zT e) zc_X12_worn 4 [some (.ref 130), some (.int (zi (yWm ((p % 5 : Nat) : Int)))), some (.int (zi (((p + 1) / 5 : Nat) : Int))), some (.int (zi (((p + 1) % 5 : Nat) : Int))), none] [] (zm L I2 J r) else zX 0 (zCd zT e) zc_X12_worn 12 [some (.ref 130), some (.int (zi (yWm ((p % 5 : Nat) : Int)))), some (.int (zi 51)), none, none] [] (zm L I2 J r) := by
        intro x hx
        have e1 : zi (yWm (yWa P p)) = -1 ↔ yWa P p = -1 := by
          have b := yWm_b (a := yWa P p) (by omega)
          rw [zi_m1 (by omega)]
          exact b.2.1
        have e2 : zi (yWm (yWa P p)) = zi x ↔ yWa P p = ((p % 5 : Nat) : Int) := by
          have b := yWm_b (a := yWa P p) (by omega)
          have b2 := yWm_b (a := ((p % 5 : Nat) : Int)) (by omega)
          rw [zi_eq (by omega) (by omega), hx]
          exact b.2.2 _ (by omega)
        rw [eX12_worn_8, eX12_worn_9, nx, hx]
        rw [hx] at e2
        simp only [e1, e2]
        by_cases q3 : yWa P p = -1
        · rw [if_pos q3, decide_eq_false (fun w => w q3)]
          rfl
        · rw [if_neg q3, decide_eq_true q3]
          by_cases q4 : yWa P p = ((p % 5 : Nat) : Int)
          · rw [if_pos q4, decide_eq_false (fun w => w q4)]
            rfl
          · rw [if_neg q4, decide_eq_true q4]
            rfl
      have e3 : zi ((p % 5 : Nat) : Int) = 0 ↔ p % 5 = 0 := (zi_eq (y := 0) (by omega) (by decide)).trans (by omega)
      rw [eX12_worn_6, eX12_worn_7, show zi ((p % 5 : Nat) : Int) - (1 : Int32) = zi (((p % 5 : Nat) : Int) - 1) from zi_sub _ 1]
      simp only [e3, if_true]
      by_cases q5 : p % 5 = 0
      · rw [if_pos q5]
        exact hz 9 (by unfold yWm; rw [if_neg (by omega), if_pos (by omega)])
      · rw [if_neg q5]
        exact hz _ (by unfold yWm; rw [if_neg (by omega), if_neg (by omega)])) I ⟨h0, hs0, g0⟩
  have z0 : zX 0 (zCd zT e) zc_X12_worn 4 [some (.ref 130), some (.int (zi (-1))), some (.int 0), some (.int 0), none] [] (zm L I J r) = _ := c1
  refine ⟨I1, ?_, hp.2⟩
  rw [show (-1 : Int32) = zi (-1) from rfl, show (0 : Int32) = 0 from rfl, z0]
  have cb := yWa_b (P := P) 255
  by_cases q2 : zFs (yWs P) 255 < 255
  · rw [if_pos q2, if_pos q2]
  · rw [if_neg q2, if_neg q2, if_neg (by decide)]
    rw [eX12_worn_12]
end
theorem oWorn : zOk 164 316 [] := zOk_k (V := fun y => .int (zi (yWoV y))) (fun L r c I J y h hD hW _ hc => cWorn (by decide) h hD hW hc) (fun L r c I J y h hD hW _ => mWorn (by decide) h (mDay_t hD (by decide)) hW)

