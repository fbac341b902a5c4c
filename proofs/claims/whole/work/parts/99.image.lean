/-! IMAGE and RESTORE: the questions -/
theorem oImage0 : zOk 215 365 [.int (zi 0)] := by
  intro L c r I J y z0 z1 hc hr hv
  have ba : -2147483648 ≤ (0 : Int) ∧ (0 : Int) < 2147483648 := by decide
  obtain ⟨I1, J1, s, d1, f1, f2, k1⟩ := cCp_26_0 (d := 59) (L := L) (r := r) (by decide) hv.1 hv.2.2.1 hv.2.2.2.1.2.2.1
  obtain ⟨I2, m1, p1, p2⟩ := mImL (d := 59) (L := L) (J := J1) (r := r) (I := zu (zu I1 57 11 1) 130 0 0) (j := 0) (by decide)
  have m1' : zX 0 (zCd zT 59) zc_X12_image 3 [some (.ref 130), some (.int (zi 0)), some (.int 0)] [] (zm L (zu (zu I1 57 11 1) 130 0 0) J1 r) = _ := m1
  have F : ∀ o k, o ≠ 133 → ¬ (o = 131 ∧ 883 ≤ k ∧ k < 1766) → ¬ (o = 130 ∧ k = 0) → ¬ (57 ≤ o ∧ o ≤ 81) → zu I2 133 0 1 o k = I o k := by
    intro o k w1 w2 w3 w4
    rw [zu_n (by omega), p1 o k (by omega), zu_n w3, zu_n (by omega), f1 o (by omega)]
  have F2 : ∀ o, 58 ≤ o → o ≤ 81 → zu I2 133 0 1 o = I1 o := by
    intro o w1 w2
    funext k
    rw [zu_n (by omega), p1 o k (by omega), zu_n (by omega), zu_n (by omega)]
  have w := wDay_le (Nat.le_succ c) hv.2.2.1
  have own : zVm (c + 1) 26 883 (zu I2 133 0 1) J1 0 57 (true, y) := by
    refine ⟨?_, zu_y ⟨rfl, rfl⟩, fun q hq => ?_, fun _ => ⟨cDay_f2 (fun o a b => F2 _ (by omega) (by omega)) (fun _ _ _ => rfl) d1, mDay_cp hv.2.1 hv.2.2.1 (fun k hk => ?_), w⟩⟩
    · rw [zu_n (by omega), p1 57 11 (by omega), zu_n (by omega), zu_y ⟨rfl, rfl⟩]
      rfl
    · rw [F2 (39 + 2 * q + 26) (by omega) (by omega)]
      exact k1 q hq
    · rw [zu_n (by omega)]
      have := p2 k hk
      rw [show 883 * (0 + 1) + k = 883 + k by omega] at this
      rw [this, zu_n (by omega), zu_n (by omega), f1 131 (by omega), Nat.zero_add]
  have oth : zVm (c + 1) 51 1766 (zu I2 133 0 1) J1 1 82 z1 := zVm_c hv.2.2.2.2.1 (F _ _ (by omega) (by omega) (by omega) (by omega)) (by rw [zu_n (by omega), p1 133 1 (by omega), zu_n (by omega), zu_n (by omega), f1 133 (by omega)]) (fun p a b => funext fun k => F _ _ (by omega) (by omega) (by omega) (by omega)) (fun p a b => f2 _ (by omega) (by omega) (by omega)) (fun k hk => F _ _ (by omega) (by omega) (by omega) (by omega))
  refine ⟨.int 0, zu I1 57 11 1, J1, r, zu I2 133 0 1, J1, r, y, (true, y), z1, ?_, ?_, hr, zV_im hv (fun o k a => F o k (by omega) (by omega) (by omega) (by omega)) (fun o a => f2 o (by omega) (by omega) (by omega)) (cDay_fr (fun o a b => funext fun k => F _ _ (by omega) (by omega) (by omega) (by omega)) (fun o a b => f2 _ (by omega) (by omega) (by omega)) hv.1) (mDay_fr hv.2.2.1 (fun k hk => F _ _ (by omega) (by omega) (by omega) (by omega)) hv.2.1) w own oth ?_⟩
  · have kk : zCd zT 59 225 [.int (zi 0), .int 0, .int (((2 : Int32) - (1 : Int32)))] (zm L I J r) = some (some (.int (zb1 (zbo 0 0 1))), (zm L I J r)) := cOut (lo := 0) (hi := 1) (by omega) ba (by decide) (by decide)
    rw [qX11_image, eX11_image_0, kk, zbI_s, eX11_image_1, if_pos (show zb1 (zbo 0 0 1) = 0 by decide), eX11_image_2, show zgr (zm L I J r) 56 (zi 0).toNatClampNeg = 57 from rfl, show (decide (16 ≤ 57) && zin (zi 0) 2) = true from by decide, zgd_t, s, zbV_s, eX11_image_3, show zgr (zm L I1 J1 r) 56 (zi 0).toNatClampNeg = 57 from rfl, show (decide (16 ≤ 57) && zin (zi 0) 2) = true from by decide, zgd_t, show (zkk (zm L I1 J1 r) 57 == 10 && true) = true from rfl, zgd_t]
  · rw [qX12_image, eX12_image_0, mWithin (by omega) ba, zbI_s, eX12_image_1, if_neg (show ¬ zb1 (!zbo 0 (0 : Int64).toInt (1 : Int64).toInt) = 0 by decide), eX12_image_2, m1', eX12_image_4, show (zin (zi ((0 : Nat) : Int)) 2 && true) = true from by decide, zgd_t]
    rfl
  · unfold zCa
    rw [show zu I2 133 0 1 120 = I 120 from funext fun k => F 120 k (by omega) (by omega) (by omega) (by omega)]
    exact hv.2.2.2.2.2.2.2.2.2
theorem oImage1 : zOk 215 365 [.int (zi 1)] := by
  intro L c r I J y z0 z1 hc hr hv
  have ba : -2147483648 ≤ (1 : Int) ∧ (1 : Int) < 2147483648 := by decide
  obtain ⟨I1, J1, s, d1, f1, f2, k1⟩ := cCp_51_0 (d := 59) (L := L) (r := r) (by decide) hv.1 hv.2.2.1 hv.2.2.2.2.1.2.2.1
  obtain ⟨I2, m1, p1, p2⟩ := mImL (d := 59) (L := L) (J := J1) (r := r) (I := zu (zu I1 82 11 1) 130 0 0) (j := 1) (by decide)
  have m1' : zX 0 (zCd zT 59) zc_X12_image 3 [some (.ref 130), some (.int (zi 1)), some (.int 0)] [] (zm L (zu (zu I1 82 11 1) 130 0 0) J1 r) = _ := m1
  have F : ∀ o k, o ≠ 133 → ¬ (o = 131 ∧ 1766 ≤ k ∧ k < 2649) → ¬ (o = 130 ∧ k = 0) → ¬ (82 ≤ o ∧ o ≤ 106) → zu I2 133 1 1 o k = I o k := by
    intro o k w1 w2 w3 w4
    rw [zu_n (by omega), p1 o k (by omega), zu_n w3, zu_n (by omega), f1 o (by omega)]
  have F2 : ∀ o, 83 ≤ o → o ≤ 106 → zu I2 133 1 1 o = I1 o := by
    intro o w1 w2
    funext k
    rw [zu_n (by omega), p1 o k (by omega), zu_n (by omega), zu_n (by omega)]
  have w := wDay_le (Nat.le_succ c) hv.2.2.1
  have own : zVm (c + 1) 51 1766 (zu I2 133 1 1) J1 1 82 (true, y) := by
    refine ⟨?_, zu_y ⟨rfl, rfl⟩, fun q hq => ?_, fun _ => ⟨cDay_f2 (fun o a b => F2 _ (by omega) (by omega)) (fun _ _ _ => rfl) d1, mDay_cp hv.2.1 hv.2.2.1 (fun k hk => ?_), w⟩⟩
    · rw [zu_n (by omega), p1 82 11 (by omega), zu_n (by omega), zu_y ⟨rfl, rfl⟩]
      rfl
    · rw [F2 (39 + 2 * q + 51) (by omega) (by omega)]
      exact k1 q hq
    · rw [zu_n (by omega)]
      have := p2 k hk
      rw [show 883 * (1 + 1) + k = 1766 + k by omega] at this
      rw [this, zu_n (by omega), zu_n (by omega), f1 131 (by omega), Nat.zero_add]
  have oth : zVm (c + 1) 26 883 (zu I2 133 1 1) J1 0 57 z0 := zVm_c hv.2.2.2.1 (F _ _ (by omega) (by omega) (by omega) (by omega)) (by rw [zu_n (by omega), p1 133 0 (by omega), zu_n (by omega), zu_n (by omega), f1 133 (by omega)]) (fun p a b => funext fun k => F _ _ (by omega) (by omega) (by omega) (by omega)) (fun p a b => f2 _ (by omega) (by omega) (by omega)) (fun k hk => F _ _ (by omega) (by omega) (by omega) (by omega))
  refine ⟨.int 0, zu I1 82 11 1, J1, r, zu I2 133 1 1, J1, r, y, z0, (true, y), ?_, ?_, hr, zV_im hv (fun o k a => F o k (by omega) (by omega) (by omega) (by omega)) (fun o a => f2 o (by omega) (by omega) (by omega)) (cDay_fr (fun o a b => funext fun k => F _ _ (by omega) (by omega) (by omega) (by omega)) (fun o a b => f2 _ (by omega) (by omega) (by omega)) hv.1) (mDay_fr hv.2.2.1 (fun k hk => F _ _ (by omega) (by omega) (by omega) (by omega)) hv.2.1) w oth own ?_⟩
  · have kk : zCd zT 59 225 [.int (zi 1), .int 0, .int (((2 : Int32) - (1 : Int32)))] (zm L I J r) = some (some (.int (zb1 (zbo 1 0 1))), (zm L I J r)) := cOut (lo := 0) (hi := 1) (by omega) ba (by decide) (by decide)
    rw [qX11_image, eX11_image_0, kk, zbI_s, eX11_image_1, if_pos (show zb1 (zbo 1 0 1) = 0 by decide), eX11_image_2, show zgr (zm L I J r) 56 (zi 1).toNatClampNeg = 82 from rfl, show (decide (16 ≤ 82) && zin (zi 1) 2) = true from by decide, zgd_t, s, zbV_s, eX11_image_3, show zgr (zm L I1 J1 r) 56 (zi 1).toNatClampNeg = 82 from rfl, show (decide (16 ≤ 82) && zin (zi 1) 2) = true from by decide, zgd_t, show (zkk (zm L I1 J1 r) 82 == 10 && true) = true from rfl, zgd_t]
  · rw [qX12_image, eX12_image_0, mWithin (by omega) ba, zbI_s, eX12_image_1, if_neg (show ¬ zb1 (!zbo 1 (0 : Int64).toInt (1 : Int64).toInt) = 0 by decide), eX12_image_2, m1', eX12_image_4, show (zin (zi ((1 : Nat) : Int)) 2 && true) = true from by decide, zgd_t]
    rfl
  · unfold zCa
    rw [show zu I2 133 1 1 120 = I 120 from funext fun k => F 120 k (by omega) (by omega) (by omega) (by omega)]
    exact hv.2.2.2.2.2.2.2.2.2
theorem oImage (a : Int32) : zOk 215 365 [.int a] := by
  obtain ⟨a, rfl, ba⟩ := zi_of a
  cases h : zbo a 0 1
  · have g := zbo_f h
    obtain rfl | rfl : a = 0 ∨ a = 1 := by omega
    · exact oImage0
    · exact oImage1
  · intro L c r I J y z0 z1 hc hr hv
    have kk : zCd zT 59 225 [.int (zi a), .int 0, .int (((2 : Int32) - (1 : Int32)))] (zm L I J r) = some (some (.int (zb1 (zbo a 0 1))), (zm L I J r)) := cOut (lo := 0) (hi := 1) (by omega) ba (by decide) (by decide)
    refine zGo_0 hr hv (.int (-2)) ?_ ?_
    · rw [qX11_image, eX11_image_0, kk, zbI_s, eX11_image_1, h, if_neg (show ¬ zb1 true = 0 by decide)]
    · rw [qX12_image, eX12_image_0, mWithin (by omega) ba, zbI_s, eX12_image_1, show (0 : Int64).toInt = 0 from rfl, show (1 : Int64).toInt = 1 from rfl, h, if_pos (show zb1 (!true) = 0 from rfl)]
      rfl
