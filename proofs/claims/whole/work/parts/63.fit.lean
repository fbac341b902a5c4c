section
variable {d L r : Nat} {I : Nat → Nat → Int32} {J : Nat → Nat → Int64}
theorem mFits (hd : 10 ≤ d) {y : zFd} {c : Nat} (h : zTI I J y.1) (hD : mTb 0 (I 131) (y.2.2.1 0)) (hW : wDay c y) {i : Int} (bi : -2147483648 ≤ i ∧ i < 2147483648) : ∃ I', zCd zT d 315 [.ref 130, .int (zi i)] (zm L I J r) = some (some (.int (zi (yFiV y i))), (zm L I' J r)) ∧ zSm I I' ∧ I' 120 = I 120 := by
  obtain ⟨e, rfl⟩ : ∃ e, d = e + 1 := ⟨d - 1, by omega⟩
  have h0 := zTI_fr zSm_0 h
  have hs0 : zSm I (zu I 130 0 0) := zSm_0
  have g0 : zu I 130 0 0 120 = I 120 := zu_o (by decide)
  rw [qX12_fits, eX12_fits_0, mTrack (by omega) h0, zbI_s, eX12_fits_1]
  generalize zu I 130 0 0 = IA at h0 hs0 g0 ⊢
  generalize I = I0 at h hD hs0 g0 ⊢
  generalize IA = I at h0 hs0 g0 ⊢
  have hb := hD
  unfold yFiV
  have hw := hW.2.2.1 0 (by decide)
  by_cases q : y.1.n = 0
  · rw [decide_eq_false (show ¬ 0 < y.1.n by omega), if_pos (show zb1 false = 0 from rfl), if_pos q]
    exact ⟨I, rfl, hs0, g0⟩
  rw [decide_eq_true (show 0 < y.1.n by omega), if_neg (show ¬ zb1 true = 0 by decide), if_neg q, eX12_fits_2, eX12_fits_3, if_neg (by decide)]
  generalize hP : (fun p : Nat => yAl (yPF y.1 (y.2.2.1 0) ((p / 5 : Nat) : Int) ((p % 5 : Nat) : Int)) (y.2.2.1 0).1) = P
  have e9 : zi i = -1 ↔ i = -1 := zi_m1 bi
  obtain ⟨I1, hp, c1⟩ := yIth (n := 255) (i := i) (P := P) (G := fun p I1 => if p < 255 then zX 0 (zCd zT e) zc_X12_fits 4 [some (.ref 130), some (.int (zi i)), some (.int (zi ((yCn P p : Nat) : Int))), some (.int (zi ((p / 5 : Nat) : Int))), some (.int (zi ((p % 5 : Nat) : Int)))] [] (zm L I1 J r) else zX 0 (zCd zT e) zc_X12_fits 10 [some (.ref 130), some (.int (zi i)), some (.int (zi ((yCn P p : Nat) : Int))), some (.int (zi 51)), none] [] (zm L I1 J r)) (E := fun p I1 => some (some (.int (zi (10 * ((p / 5 : Nat) : Int) + ((p % 5 : Nat) : Int)))), (zm L I1 J r))) (Q := fun I1 => zTI I1 J y.1 ∧ zSm I0 I1 ∧ I1 120 = I0 120) (fun p I1 hpn hQ => by
    have hb1 := mTb_sm hQ.2.1 hb
    obtain ⟨I2, t1, t2, t3, t4⟩ := mFit (d := e) (L := L) (r := r) (by omega) hQ.1 (by omega) hb1 hw (drag := ((p / 5 : Nat) : Int)) (worn := ((p % 5 : Nat) : Int)) (by omega) (by omega)
    refine ⟨I2, ⟨t2, zSm_tr hQ.2.1 t3, t4.trans hQ.2.2⟩, ?_⟩
    have cb := yCn_b (P := P) p
    have hu : yCn P (p + 1) = yCn P p + (if P p = true then 1 else 0) := rfl
    have hPp : yAl (yPF y.1 (y.2.2.1 0) ((p / 5 : Nat) : Int) ((p % 5 : Nat) : Int)) (y.2.2.1 0).1 = P p := by rw [← hP]
    have nx : ∀ c' : Nat, zX 0 (zCd zT e) zc_X12_fits 8 [some (.ref 130), some (.int (zi i)), some (.int (zi (c' : Int))), some (.int (zi ((p / 5 : Nat) : Int))), some (.int (zi ((p % 5 : Nat) : Int)))] [] (zm L I2 J r) = if p + 1 < 255 then zX 0 (zCd zT e) zc_X12_fits 4 [some (.ref 130), some (.int (zi i)), some (.int (zi (c' : Int))), some (.int (zi (((p + 1) / 5 : Nat) : Int))), some (.int (zi (((p + 1) % 5 : Nat) : Int)))] [] (zm L I2 J r) else zX 0 (zCd zT e) zc_X12_fits 10 [some (.ref 130), some (.int (zi i)), some (.int (zi (c' : Int))), some (.int (zi 51)), none] [] (zm L I2 J r) := by
      intro c'
      have k1 : zi ((p % 5 : Nat) : Int) + (1 : Int32) = zi ((p % 5 + 1 : Nat) : Int) := zi_add _ 1
      have k2 : zi ((p / 5 : Nat) : Int) + (1 : Int32) = zi ((p / 5 + 1 : Nat) : Int) := zi_add _ 1
      rw [eX12_fits_8, k1]
      by_cases m4 : p % 5 = 4
      · rw [eX12_fits_4, m4, if_pos (by decide), eX12_fits_9, k2, eX12_fits_3]
        by_cases l : p + 1 < 255
        · rw [if_pos l, if_neg (show ¬ (50 : Int32) < zi ((p / 5 + 1 : Nat) : Int) by rw [show (50 : Int32) = zi 50 from rfl, zi_lt (by decide) (by omega)]; omega), show (p + 1) / 5 = p / 5 + 1 by omega, show (p + 1) % 5 = 0 by omega]
          rfl
        · rw [if_neg l, if_pos (show (50 : Int32) < zi ((p / 5 + 1 : Nat) : Int) by rw [show (50 : Int32) = zi 50 from rfl, zi_lt (by decide) (by omega)]; omega), show p / 5 + 1 = 51 by omega]
          rfl
      · rw [if_pos (by omega), show (p + 1) / 5 = p / 5 by omega, show (p + 1) % 5 = p % 5 + 1 by omega]
    have k3 : zi ((yCn P p : Nat) : Int) + (1 : Int32) = zi ((yCn P p + 1 : Nat) : Int) := zi_add _ 1
    have k4 : (10 : Int32) * zi ((p / 5 : Nat) : Int) + zi ((p % 5 : Nat) : Int) = zi (10 * ((p / 5 : Nat) : Int) + ((p % 5 : Nat) : Int)) := by rw [show (10 : Int32) = zi 10 from rfl, zi_mul, zi_add]
    rw [if_pos hpn, eX12_fits_4, if_neg (show ¬ (5 : Int32) ≤ zi (((p % 5 : Nat) : Int)) by rw [show (5 : Int32) = zi 5 from rfl, zi_le (by decide) (by omega)]; omega), t1, zbI_s, eX12_fits_5, hPp, eX12_fits_6, eX12_fits_7, k3, k4, hu]
    simp only [nx, zi_eq (show -2147483648 ≤ ((yCn P p : Nat) : Int) ∧ ((yCn P p : Nat) : Int) < 2147483648 by omega) bi]
    cases P p
    · rfl
    · rfl) I ⟨h0, hs0, g0⟩
  have z0 : zX 0 (zCd zT e) zc_X12_fits 4 [some (.ref 130), some (.int (zi i)), some (.int 0), some (.int 0), some (.int 0)] [] (zm L (I) J r) = _ := c1
  refine ⟨I1, ?_, hp.2⟩
  rw [z0]
  unfold yIt
  by_cases q2 : yIs P 255 i < 255
  · rw [if_pos q2, if_pos q2]
  · rw [if_neg q2, if_neg q2, if_neg (by decide), eX12_fits_10, eX12_fits_11, eX12_fits_12, eX12_fits_12]
    by_cases q3 : i = -1
    · rw [if_pos (e9.mpr q3), if_pos q3]
    · rw [if_neg (fun w => q3 (e9.mp w)), if_neg q3]
      rfl

end
theorem mDay_t {I : Nat → Nat → Int32} {y : zFd} (h : mDay 0 I y) {q : Nat} (hq : q < 8) : mTb q (I 131) (y.2.2.1 q) := by
  have := h.2.2.1 q hq
  simp only [Nat.zero_add] at this
  exact this
theorem oFits (a : Int32) : zOk 161 315 [.int a] := by
  obtain ⟨a, rfl, ba⟩ := zi_of a
  exact zOk_k (V := fun y => .int (zi (yFiV y a))) (fun L r c I J y h hD hW _ hc => cFits (by decide) h hD hW hc ba) (fun L r c I J y h hD hW _ => mFits (by decide) h (mDay_t hD (by decide)) hW ba)

