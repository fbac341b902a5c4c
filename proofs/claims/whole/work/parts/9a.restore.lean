/-! RESTORE -/
section
variable {d L r : Nat} {I : Nat → Nat → Int32} {J : Nat → Nat → Int64}
theorem cForg (hd : 2 ≤ d) : zCd zT d 19 [.ref 116] (zm L I J r) = some (none, (zm L (zfI I 120 2481 (-2)) J r)) := by
  obtain ⟨e, rfl⟩ : ∃ e, d = e + 1 := ⟨d - 1, by omega⟩
  have fl := cFillI (d := e) (L := L) (r := r) (I := I) (J := J) (by omega) (o := 120) (n := 2481) (by decide) rfl (by decide) (-2)
  rw [qX3_forget, eX3_forget_0, fl, zbV_s, eX3_forget_1]
end
theorem oRestore0 : zOk 216 366 [.int (zi 0)] := by
  intro L c r I J y z0 z1 hc hr hv
  have ba : -2147483648 ≤ (0 : Int) ∧ (0 : Int) < 2147483648 := by decide
  have kk : zCd zT 59 225 [.int (zi 0), .int 0, .int (((2 : Int32) - (1 : Int32)))] (zm L I J r) = some (some (.int (zb1 (zbo 0 0 1))), (zm L I J r)) := cOut (lo := 0) (hi := 1) (by omega) ba (by decide) (by decide)
  have g1 : I 57 11 = zb1 z0.1 := hv.2.2.2.1.1
  have g2 : I 133 0 = zb1 z0.1 := hv.2.2.2.1.2.1
  obtain ⟨b, y2⟩ := z0
  cases b
  · have g1 : I 57 11 = 0 := g1
    have g2 : zu I 130 0 0 133 0 = 0 := by rw [zu_n (by omega)]; exact g2
    refine zGo_0 hr hv (.int (-5)) ?_ ?_
    · rw [qX11_restore, eX11_restore_0, kk, zbI_s, eX11_restore_1, if_pos (show zb1 (zbo 0 0 1) = 0 by decide), eX11_restore_2, show zgr (zm L I J r) 56 (zi 0).toNatClampNeg = 57 from rfl, show (decide (16 ≤ 57) && zin (zi 0) 2) = true from by decide, zgd_t, show (zkk (zm L I J r) 57 == 10) = true from rfl, zgd_t, g1, if_pos rfl]
    · rw [qX12_restore, eX12_restore_0, mWithin (by omega) ba, zbI_s, eX12_restore_1, if_neg (show ¬ zb1 (!zbo 0 (0 : Int64).toInt (1 : Int64).toInt) = 0 by decide), eX12_restore_2, show zin (zi 0) 2 = true from by decide, zgd_t, show (zi 0).toNatClampNeg = 0 from rfl, g2, if_pos rfl]
      rfl
  · have g1 : I 57 11 = 1 := g1
    have g2 : zu I 130 0 0 133 0 = 1 := by rw [zu_n (by omega)]; exact g2
    obtain ⟨x1, x2, x3⟩ := hv.2.2.2.1.2.2.2 rfl
    obtain ⟨I1, J1, s, d1, f1, f2, k1⟩ := cCp_0_26 (d := 59) (L := L) (r := r) (by decide) x1 x3 (fun q hq => ⟨(hv.1.2.2.1 q hq).1, (hv.1.2.2.1 q hq).2.1⟩)
    have fo := cForg (d := 59) (L := L) (r := r) (I := I1) (J := J1) (by decide)
    obtain ⟨I2, m1, p1, p2⟩ := mReL (d := 59) (L := L) (J := J1) (r := r) (I := zu (zfI I1 120 2481 (-2)) 130 0 0) (j := 0) (by decide)
    have m1' : zX 0 (zCd zT 59) zc_X12_restore 4 [some (.ref 130), some (.int (zi 0)), some (.int 0)] [] (zm L (zu (zfI I1 120 2481 (-2)) 130 0 0) J1 r) = _ := m1
    have g3 : zu (zfI I1 120 2481 (-2)) 130 0 0 133 0 = 1 := by rw [zu_n (by omega), zfI_o (by omega), f1 133 (by omega)]; exact (zu_n (by omega)).symm.trans g2
    have F : ∀ o k, ¬ (32 ≤ o ∧ o ≤ 55) → o ≠ 120 → ¬ (o = 131 ∧ k < 883) → ¬ (o = 130 ∧ k = 0) → I2 o k = I o k := by
      intro o k w1 w2 w3 w4
      rw [p1 o k w3, zu_n w4, zfI_o w2, f1 o w1]
    have F2 : ∀ o, 32 ≤ o → o ≤ 55 → I2 o = I1 o := by
      intro o w1 w2
      funext k
      rw [p1 o k (by omega), zu_n (by omega), zfI_o (by omega)]
    have w := wDay_le (Nat.le_succ c) x3
    refine ⟨.int 0, zfI I1 120 2481 (-2), J1, r, I2, J1, r, y2, (true, y2), z1, ?_, ?_, hr, zV_im hv (fun o k a => F o k (by omega) (by omega) (by omega) (by omega)) (fun o a => f2 o (by omega) (by omega) (by omega)) (cDay_f2 (fun o a b => F2 _ (by omega) (by omega)) (fun _ _ _ => rfl) d1) (mDay_cp x2 x3 (fun k hk => ?_)) w (zVm_c hv.2.2.2.1 (F _ _ (by omega) (by omega) (by omega) (by omega)) (F _ _ (by omega) (by omega) (by omega) (by omega)) (fun p a b => funext fun k => F _ _ (by omega) (by omega) (by omega) (by omega)) (fun p a b => f2 _ (by omega) (by omega) (by omega)) (fun k hk => F _ _ (by omega) (by omega) (by omega) (by omega))) (zVm_c hv.2.2.2.2.1 (F _ _ (by omega) (by omega) (by omega) (by omega)) (F _ _ (by omega) (by omega) (by omega) (by omega)) (fun p a b => funext fun k => F _ _ (by omega) (by omega) (by omega) (by omega)) (fun p a b => f2 _ (by omega) (by omega) (by omega)) (fun k hk => F _ _ (by omega) (by omega) (by omega) (by omega))) ?_⟩
    · rw [qX11_restore, eX11_restore_0, kk, zbI_s, eX11_restore_1, if_pos (show zb1 (zbo 0 0 1) = 0 by decide), eX11_restore_2, show zgr (zm L I J r) 56 (zi 0).toNatClampNeg = 57 from rfl, show (decide (16 ≤ 57) && zin (zi 0) 2) = true from by decide, zgd_t, show (zkk (zm L I J r) 57 == 10) = true from rfl, zgd_t, g1, if_neg (by decide), eX11_restore_3, show zgr (zm L I J r) 56 (zi 0).toNatClampNeg = 57 from rfl, show (decide (16 ≤ 57) && zin (zi 0) 2) = true from by decide, zgd_t, s, zbV_s, eX11_restore_4, fo, zbV_s, eX11_restore_5]
    · rw [qX12_restore, eX12_restore_0, mWithin (by omega) ba, zbI_s, eX12_restore_1, if_neg (show ¬ zb1 (!zbo 0 (0 : Int64).toInt (1 : Int64).toInt) = 0 by decide), eX12_restore_2, show zin (zi 0) 2 = true from by decide, zgd_t, show (zi 0).toNatClampNeg = 0 from rfl, g3, if_neg (by decide), eX12_restore_3, m1']
    · rw [Nat.zero_add, p2 k hk, zu_n (by omega), zfI_o (by omega), f1 131 (by omega)]
    · intro l hl
      refine Or.inl ?_
      rw [p1 120 l (by omega), zu_n (by omega), zfI_i hl]
theorem oRestore1 : zOk 216 366 [.int (zi 1)] := by
  intro L c r I J y z0 z1 hc hr hv
  have ba : -2147483648 ≤ (1 : Int) ∧ (1 : Int) < 2147483648 := by decide
  have kk : zCd zT 59 225 [.int (zi 1), .int 0, .int (((2 : Int32) - (1 : Int32)))] (zm L I J r) = some (some (.int (zb1 (zbo 1 0 1))), (zm L I J r)) := cOut (lo := 0) (hi := 1) (by omega) ba (by decide) (by decide)
  have g1 : I 82 11 = zb1 z1.1 := hv.2.2.2.2.1.1
  have g2 : I 133 1 = zb1 z1.1 := hv.2.2.2.2.1.2.1
  obtain ⟨b, y2⟩ := z1
  cases b
  · have g1 : I 82 11 = 0 := g1
    have g2 : zu I 130 0 0 133 1 = 0 := by rw [zu_n (by omega)]; exact g2
    refine zGo_0 hr hv (.int (-5)) ?_ ?_
    · rw [qX11_restore, eX11_restore_0, kk, zbI_s, eX11_restore_1, if_pos (show zb1 (zbo 1 0 1) = 0 by decide), eX11_restore_2, show zgr (zm L I J r) 56 (zi 1).toNatClampNeg = 82 from rfl, show (decide (16 ≤ 82) && zin (zi 1) 2) = true from by decide, zgd_t, show (zkk (zm L I J r) 82 == 10) = true from rfl, zgd_t, g1, if_pos rfl]
    · rw [qX12_restore, eX12_restore_0, mWithin (by omega) ba, zbI_s, eX12_restore_1, if_neg (show ¬ zb1 (!zbo 1 (0 : Int64).toInt (1 : Int64).toInt) = 0 by decide), eX12_restore_2, show zin (zi 1) 2 = true from by decide, zgd_t, show (zi 1).toNatClampNeg = 1 from rfl, g2, if_pos rfl]
      rfl
  · have g1 : I 82 11 = 1 := g1
    have g2 : zu I 130 0 0 133 1 = 1 := by rw [zu_n (by omega)]; exact g2
    obtain ⟨x1, x2, x3⟩ := hv.2.2.2.2.1.2.2.2 rfl
    obtain ⟨I1, J1, s, d1, f1, f2, k1⟩ := cCp_0_51 (d := 59) (L := L) (r := r) (by decide) x1 x3 (fun q hq => ⟨(hv.1.2.2.1 q hq).1, (hv.1.2.2.1 q hq).2.1⟩)
    have fo := cForg (d := 59) (L := L) (r := r) (I := I1) (J := J1) (by decide)
    obtain ⟨I2, m1, p1, p2⟩ := mReL (d := 59) (L := L) (J := J1) (r := r) (I := zu (zfI I1 120 2481 (-2)) 130 0 0) (j := 1) (by decide)
    have m1' : zX 0 (zCd zT 59) zc_X12_restore 4 [some (.ref 130), some (.int (zi 1)), some (.int 0)] [] (zm L (zu (zfI I1 120 2481 (-2)) 130 0 0) J1 r) = _ := m1
    have g3 : zu (zfI I1 120 2481 (-2)) 130 0 0 133 1 = 1 := by rw [zu_n (by omega), zfI_o (by omega), f1 133 (by omega)]; exact (zu_n (by omega)).symm.trans g2
    have F : ∀ o k, ¬ (32 ≤ o ∧ o ≤ 55) → o ≠ 120 → ¬ (o = 131 ∧ k < 883) → ¬ (o = 130 ∧ k = 0) → I2 o k = I o k := by
      intro o k w1 w2 w3 w4
      rw [p1 o k w3, zu_n w4, zfI_o w2, f1 o w1]
    have F2 : ∀ o, 32 ≤ o → o ≤ 55 → I2 o = I1 o := by
      intro o w1 w2
      funext k
      rw [p1 o k (by omega), zu_n (by omega), zfI_o (by omega)]
    have w := wDay_le (Nat.le_succ c) x3
    refine ⟨.int 0, zfI I1 120 2481 (-2), J1, r, I2, J1, r, y2, z0, (true, y2), ?_, ?_, hr, zV_im hv (fun o k a => F o k (by omega) (by omega) (by omega) (by omega)) (fun o a => f2 o (by omega) (by omega) (by omega)) (cDay_f2 (fun o a b => F2 _ (by omega) (by omega)) (fun _ _ _ => rfl) d1) (mDay_cp x2 x3 (fun k hk => ?_)) w (zVm_c hv.2.2.2.1 (F _ _ (by omega) (by omega) (by omega) (by omega)) (F _ _ (by omega) (by omega) (by omega) (by omega)) (fun p a b => funext fun k => F _ _ (by omega) (by omega) (by omega) (by omega)) (fun p a b => f2 _ (by omega) (by omega) (by omega)) (fun k hk => F _ _ (by omega) (by omega) (by omega) (by omega))) (zVm_c hv.2.2.2.2.1 (F _ _ (by omega) (by omega) (by omega) (by omega)) (F _ _ (by omega) (by omega) (by omega) (by omega)) (fun p a b => funext fun k => F _ _ (by omega) (by omega) (by omega) (by omega)) (fun p a b => f2 _ (by omega) (by omega) (by omega)) (fun k hk => F _ _ (by omega) (by omega) (by omega) (by omega))) ?_⟩
    · rw [qX11_restore, eX11_restore_0, kk, zbI_s, eX11_restore_1, if_pos (show zb1 (zbo 1 0 1) = 0 by decide), eX11_restore_2, show zgr (zm L I J r) 56 (zi 1).toNatClampNeg = 82 from rfl, show (decide (16 ≤ 82) && zin (zi 1) 2) = true from by decide, zgd_t, show (zkk (zm L I J r) 82 == 10) = true from rfl, zgd_t, g1, if_neg (by decide), eX11_restore_3, show zgr (zm L I J r) 56 (zi 1).toNatClampNeg = 82 from rfl, show (decide (16 ≤ 82) && zin (zi 1) 2) = true from by decide, zgd_t, s, zbV_s, eX11_restore_4, fo, zbV_s, eX11_restore_5]
    · rw [qX12_restore, eX12_restore_0, mWithin (by omega) ba, zbI_s, eX12_restore_1, if_neg (show ¬ zb1 (!zbo 1 (0 : Int64).toInt (1 : Int64).toInt) = 0 by decide), eX12_restore_2, show zin (zi 1) 2 = true from by decide, zgd_t, show (zi 1).toNatClampNeg = 1 from rfl, g3, if_neg (by decide), eX12_restore_3, m1']
    · rw [Nat.zero_add, p2 k hk, zu_n (by omega), zfI_o (by omega), f1 131 (by omega)]
    · intro l hl
      refine Or.inl ?_
      rw [p1 120 l (by omega), zu_n (by omega), zfI_i hl]
theorem oRestore (a : Int32) : zOk 216 366 [.int a] := by
  obtain ⟨a, rfl, ba⟩ := zi_of a
  cases h : zbo a 0 1
  · have g := zbo_f h
    obtain rfl | rfl : a = 0 ∨ a = 1 := by omega
    · exact oRestore0
    · exact oRestore1
  · intro L c r I J y z0 z1 hc hr hv
    have kk : zCd zT 59 225 [.int (zi a), .int 0, .int (((2 : Int32) - (1 : Int32)))] (zm L I J r) = some (some (.int (zb1 (zbo a 0 1))), (zm L I J r)) := cOut (lo := 0) (hi := 1) (by omega) ba (by decide) (by decide)
    refine zGo_0 hr hv (.int (-2)) ?_ ?_
    · rw [qX11_restore, eX11_restore_0, kk, zbI_s, eX11_restore_1, h, if_neg (show ¬ zb1 true = 0 by decide)]
    · rw [qX12_restore, eX12_restore_0, mWithin (by omega) ba, zbI_s, eX12_restore_1, show (0 : Int64).toInt = 0 from rfl, show (1 : Int64).toInt = 1 from rfl, h, if_pos (show zb1 (!true) = 0 from rfl)]
      rfl
