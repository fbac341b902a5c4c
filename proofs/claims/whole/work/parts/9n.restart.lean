/-! RESTART: the model's loop -/
section
variable {d L r : Nat} {I : Nat → Nat → Int32} {J : Nat → Nat → Int64}
variable {t : zDy}
theorem yLs0 (h : wTr t) {w : Int} (hw : 1 ≤ w ∧ w ≤ 20) : (((10 : Int32) * zi t.drag + (2 : Int32) * 0) + 0) / zi w = zi (zLss t w 0 0) := by
  have bdr := h.2.2.2.2.2.2.2.2.1
  have e : (((10 : Int32) * zi t.drag + (2 : Int32) * zi 0) + zi 0) / zi w = zi (zLss t w 0 0) := by
    unfold zLss
    simp (disch := omega) only [zi_lit, zi_mul, zi_add, zi_div]
  exact e
theorem mLs (hd : 1 ≤ d) (h : wTr t) {w : Int} (hw : 1 ≤ w ∧ w ≤ 20) : zCd zT d 278 [.ref 130, .int (zi t.drag), .int (zi w), .int 0, .int 0] (zm L I J r) = some (some (.int (zi (zLss t w 0 0))), (zm L I J r)) := by
  rw [sX12_lossOf (by omega), show decide (zi w ≠ 0) = true by
    rw [decide_eq_true_iff]
    simp (disch := omega) only [zi_lit, ne_eq, zi_eq]
    omega, zgd_t, yLs0 h hw]
theorem cLs (hd : 5 ≤ d) (h : zTI I J t) {w : Int} (hw : 1 ≤ w ∧ w ≤ 20) : zCd zT d 236 [.ref 16, .int (zi w), .int 0, .int 0] (zm L I J r) = some (some (.int (zi (zLss t w 0 0))), (zm L I J r)) := by
  have hdr : I 32 9 = zi t.drag := h.1.2.2.2.2.2.2.2.2.1
  rw [sX11_lossIn (by omega), hdr, if_pos (show (1 : Int32) ≤ zi w by simp (disch := omega) only [zi_lit, zi_le]; omega), show decide (zi w ≠ 0) = true by
    rw [decide_eq_true_iff]
    simp (disch := omega) only [zi_lit, ne_eq, zi_eq]
    omega, zgd_t, yLs0 h.2.2.1 hw]
theorem mRsL (hd : 6 ≤ d) (h : zTI I J t) {w : Int} {p : Nat} (hw : 1 ≤ w ∧ w ≤ 20) (hp : p < t.n) : ∃ I2, zX 0 (zCd zT d) zc_X12_restart 8 [some (.ref 130), some (.int (zi w)), some (.int (zi (p : Int))), some (.int 0)] [] (zm L I J r) = some (some (.int (zi (yRsV t (zLss t w 0 0) p))), (zm L I2 J r)) ∧ zSm I I2 ∧ I2 120 = I 120 := by
  have hl := zLss_b h.2.2.1 hw.1 (wi := 0) (co := 0) (by decide) (by decide)
  obtain ⟨I2, p2, g2⟩ := zForS (n := 1000) (G := fun v I1 => zX 0 (zCd zT d) zc_X12_restart 8 [some (.ref 130), some (.int (zi w)), some (.int (zi (p : Int))), some (.int (zi ((v : Nat) : Int)))] [] (zm L I1 J r)) (E := fun v I1 => some (some (.int (zi ((v : Nat) : Int))), (zm L I1 J r))) (P := fun I1 => zTI I1 J t ∧ I1 120 = I 120 ∧ zSm I I1) (stop := yRs t (zLss t w 0 0) p) (fun v I1 hv hP => by
    have k1 : zi ((v : Nat) : Int) + (1 : Int32) = zi ((v + 1 : Nat) : Int) := zi_add _ 1
    have hdr : I1 131 79 = zi t.drag := hP.1.2.1.2.2.2.2.2.2.2.2.1
    obtain ⟨I2, c1, c2, c3, c4⟩ := mGo (d := d) (L := L) (r := r) (J := J) (by omega) hl (zTI_m hP.1) hp (v := ((v : Nat) : Int)) (by omega)
    have c1 : zCd zT d 277 [.ref 130, .int (zi (p : Int)), .int (zi ((v : Nat) : Int)), .int (zi (zLss t w 0 0))] (zm L I1 J r) = some (none, (zm L I2 J r)) := c1
    have e4 : I2 130 19 = (0 : Int32) ↔ (zRu t (zLss t w 0 0) p ((v : Nat) : Int)).1 = 0 := by
      rw [c4]
      exact zi_e0 zRu_e
    refine ⟨I2, ⟨zTI_fr (zSm_m c3) hP.1, (funext fun k => c3 120 k (by decide) (by decide) (fun q => by cases q.1)).trans hP.2.1, zSm_tr hP.2.2 (zSm_m c3)⟩, ?_⟩
    rw [eX12_restart_8, if_neg (show ¬ (1000 : Int32) ≤ zi ((v : Nat) : Int) by rw [show (1000 : Int32) = zi 1000 from rfl, zi_le (by decide) (by omega)]; omega), hdr, mLs (by omega) hP.1.2.2.1 hw, zbI_s, eX12_restart_9, c1, zbV_s, eX12_restart_10]
    by_cases o : (zRu t (zLss t w 0 0) p ((v : Nat) : Int)).1 = 0
    · rw [if_pos (e4.mpr o), if_pos (show yRs t (zLss t w 0 0) p v = true from decide_eq_true o)]
    · rw [if_neg (fun w => o (e4.mp w)), if_neg (show ¬ yRs t (zLss t w 0 0) p v = true by unfold yRs; rw [decide_eq_false o]; decide), eX12_restart_11, k1]) I ⟨h, rfl, zSm_rf⟩
  have z0 : zX 0 (zCd zT d) zc_X12_restart 8 [some (.ref 130), some (.int (zi w)), some (.int (zi (p : Int))), some (.int 0)] [] (zm L I J r) = _ := g2
  refine ⟨I2, ?_, p2.2.2, p2.2.1⟩
  rw [z0]
  unfold yRsV
  by_cases q : zFs (yRs t (zLss t w 0 0) p) 1000 < 1000
  · rw [if_pos q, if_pos q]
  · rw [if_neg q, if_neg q, eX12_restart_8, if_pos (show (1000 : Int32) ≤ zi ((1000 : Nat) : Int) by decide), eX12_restart_12]
    rfl
end
