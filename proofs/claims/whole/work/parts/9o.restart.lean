/-! RESTART: the question -/
def yReV (t : zDy) (w p : Int) : Int := if zRf (zNp t p) (zbo w 1 20) t.n = 0 then yRsV t (zLss t w 0 0) p.toNat else zRf (zNp t p) (zbo w 1 20) t.n
section
variable {d L r : Nat} {I : Nat → Nat → Int32} {J : Nat → Nat → Int64}
variable {t : zDy}
theorem cRest (hd : 9 ≤ d) (h : zTI I J t) {w p : Int} (bw : -2147483648 ≤ w ∧ w < 2147483648) (bp : -2147483648 ≤ p ∧ p < 2147483648) : ∃ I', zCd zT d 180 [.ref 16, .int (zi w), .int (zi p)] (zm L I J r) = some (some (.int (zi (yReV t w p))), (zm L I' J r)) ∧ zFr3 I I' := by
  obtain ⟨e, rfl⟩ : ∃ e, d = e + 1 := ⟨d - 1, by omega⟩
  rw [qX11_restart, eX11_restart_0, cNp (by omega) h bp, zbI_s, eX11_restart_1, cBadW (by omega) bw, zbI_s, eX11_restart_2, cRef (by omega) h, zbI_s, eX11_restart_3]
  unfold yReV
  by_cases hz : zRf (zNp t p) (zbo w 1 20) t.n = 0
  · obtain ⟨n1, n2, n3⟩ := zRf_0.mp hz
    have g1 := zbo_f n2
    have g0 := zNp_f n1 n3
    have hn60 := h.2.2.1.1
    have hl := zLss_b h.2.2.1 g1.1 (wi := 0) (co := 0) (by decide) (by decide)
    rw [if_pos (yRf_z.mpr hz), if_pos hz, eX11_restart_4, cLs (by omega) h g1, zbI_s, eX11_restart_5]
    obtain ⟨p, rfl⟩ : ∃ k : Nat, p = k := ⟨p.toNat, by omega⟩
    obtain ⟨I2, c1, c2⟩ := cRsL (d := e) (L := L) (r := r) (by omega) h (w := w) (l := zLss t w 0 0) (p := p) (x := zi (zRf (zNp t (p : Int)) (zbo w 1 20) t.n)) (by omega) hl 1000 0 I (by omega) (by omega) (fun _ _ _ _ => rfl) (fun u hu => absurd hu (by omega))
    exact ⟨I2, c1, c2⟩
  · rw [if_neg (fun w => hz (yRf_z.mp w)), if_neg hz]
    exact ⟨I, rfl, fun _ _ _ _ => rfl⟩
theorem mRest (hd : 9 ≤ d) (h : zTI I J t) {w p : Int} (bw : -2147483648 ≤ w ∧ w < 2147483648) (bp : -2147483648 ≤ p ∧ p < 2147483648) : ∃ I', zCd zT d 330 [.ref 130, .int (zi w), .int (zi p)] (zm L I J r) = some (some (.int (zi (yReV t w p))), (zm L I' J r)) ∧ zSm I I' ∧ I' 120 = I 120 := by
  obtain ⟨e, rfl⟩ : ∃ e, d = e + 1 := ⟨d - 1, by omega⟩
  have h0 := zTI_fr zSm_0 h
  have q0 : zu I 130 0 0 120 = I 120 := zu_o (by decide)
  have np : zX 0 (zCd zT e) zc_X12_restart 1 [some (.ref 130), some (.int (zi w)), some (.int (zi p)), none] [.int (zb1 (decide (0 < t.n)))] (zm L (zu I 130 0 0) J r) = if zNp t p = true then some (some (.int (-2)), (zm L (zu I 130 0 0) J r)) else zX 0 (zCd zT e) zc_X12_restart 3 [some (.ref 130), some (.int (zi w)), some (.int (zi p)), none] [] (zm L (zu I 130 0 0) J r) := by
    unfold zNp
    rw [eX12_restart_1]
    by_cases hn : 0 < t.n
    · rw [decide_eq_true hn, if_neg (show ¬ zb1 true = 0 by decide), mPt (by omega) h0 bp, zbI_s, eX12_restart_2]
      cases zbo p 0 ((t.n : Int) - 1)
      · rw [if_neg (show ¬ zb1 (!false) = 0 by decide), if_neg (by decide)]
      · rw [if_pos (show zb1 (!true) = 0 from rfl), if_pos (by decide)]
    · rw [decide_eq_false hn, if_pos (show zb1 false = 0 from rfl), if_neg (by simp)]
  rw [qX12_restart, eX12_restart_0, mTrack (by omega) h0, zbI_s, np]
  unfold yReV zRf
  by_cases z1 : zNp t p = true
  · simp only [if_pos z1]
    exact ⟨_, rfl, zSm_0, q0⟩
  · rw [if_neg z1, eX12_restart_3, mWeight (by omega) bw, zbI_s, eX12_restart_4]
    simp only [if_neg z1]
    cases z2 : zbo w 1 20
    · rw [if_neg (show ¬ zb1 (!false) = 0 by decide), if_neg (show ¬ false = true by decide), eX12_restart_5, mTrack (by omega) h0, zbI_s, eX12_restart_6]
      by_cases n3 : t.n = 0
      · rw [decide_eq_false (by omega), if_pos (show zb1 false = 0 from rfl), if_pos n3]
        exact ⟨_, rfl, zSm_0, q0⟩
      · rw [Bool.not_eq_true] at z1
        have n4 : 0 < t.n := by omega
        have g0 := zNp_f z1 n4
        obtain ⟨p, rfl⟩ : ∃ k : Nat, p = k := ⟨p.toNat, by omega⟩
        obtain ⟨I2, c1, c2, c3⟩ := mRsL (d := e) (L := L) (r := r) (by omega) h0 (zbo_f z2) (p := p) (by omega)
        rw [decide_eq_true n4, if_neg (show ¬ zb1 true = 0 by decide), if_neg n3, if_pos rfl, eX12_restart_7]
        exact ⟨I2, c1, zSm_tr zSm_0 c2, c3.trans q0⟩
    · rw [if_pos (show zb1 (!true) = 0 from rfl), if_pos rfl]
      exact ⟨_, rfl, zSm_0, q0⟩
end
theorem oRestart (w p : Int32) : zOk 180 330 [.int w, .int p] := by
  obtain ⟨w, rfl, bw⟩ := zi_of w
  obtain ⟨p, rfl, bp⟩ := zi_of p
  exact zOk_r (V := fun t => .int (zi (yReV t w p))) (fun L r I J t h => cRest (by decide) h bw bp) (fun L r I J t h => mRest (by decide) h bw bp)
