/-! THE LAW: one call of each kind -/
def kNext (s i L c : Nat) (I : Nat → Nat → Int32) (J : Nat → Nat → Int64) (r : Nat) : Prop := ∃ (I2 : Nat → Nat → Int32) (J2 : Nat → Nat → Int64) (r2 : Nat) (y : zFd) (z0 z1 : Bool × zFd), zX 3 (zCd zT 60) zc_L_law s [some (.ref 1), some (.ref 16), some (.ref 130), some (.int (zi (i : Int)))] [] (zm L I J r) = zX 3 (zCd zT 60) zc_L_law 171 [some (.ref 1), some (.ref 16), some (.ref 130), some (.int (zi (i : Int)))] [] (zm L I2 J2 r2) ∧ zRr r2 ∧ zV (c + 1) I2 J2 y z0 z1 ∧ I2 1 = I 1
theorem yLs {v : Int64} : lg_cmp v v = 0 := by
  unfold lg_cmp
  rw [if_neg (show ¬ v > v from fun w => absurd w (Int64.lt_irrefl)), if_pos rfl]
section
variable {L c r i : Nat} {I : Nat → Nat → Int32} {J : Nat → Nat → Int64} {y : zFd} {z0 z1 : Bool × zFd}
theorem kOp0 (hL : L ≤ 4096) (hi : i + 8 ≤ L) (hc : c < 512) (hr : zRr r) (hv : zV c I J y z0 z1) : kNext 4 i L c I J r := by
  obtain ⟨v, I1, J1, r1, I2, J2, r2, y2, x0, x1, a, b, h1, h2⟩ := oFeed (I 1 (i + 1)) (I 1 (i + 2)) (I 1 (i + 3)) (I 1 (i + 4)) (I 1 (i + 5)) L c r I J y z0 z1 hc hr hv
  have e1 : I1 1 = I 1 := (zCd_mem 60 _ _ _ _ a).2.2.2
  have e2 : I2 1 = I1 1 := (zCd_mem 60 _ _ _ _ b).2.2.2
  obtain ⟨w, hw⟩ := (zCd_ty (t := zt_X11_feed) rfl a).1 rfl
  cases hw
  refine ⟨I2, J2, r2, y2, x0, x1, ?_, h1, h2, e2.trans e1⟩
  simp only [kb_4, kb_5, kb_6, kok1 hL hi, kok2 hL hi, kok3 hL hi, kok4 hL hi, kok5 hL hi, kok6 hL hi, kok7 hL hi, kx1 hL hi, kx2 hL hi, kx3 hL hi, kx4 hL hi, kx5 hL hi, kx6 hL hi, kx7 hL hi, zgd_t, kgi, a, zbI_s, zbL_s, e1, b, yLs, if_true]
theorem kOp1 (hL : L ≤ 4096) (hi : i + 8 ≤ L) (hc : c < 512) (hr : zRr r) (hv : zV c I J y z0 z1) : kNext 7 i L c I J r := by
  obtain ⟨v, I1, J1, r1, I2, J2, r2, y2, x0, x1, a, b, h1, h2⟩ := oText (I 1 (i + 1)) (I 1 (i + 2)) L c r I J y z0 z1 hc hr hv
  have e1 : I1 1 = I 1 := (zCd_mem 60 _ _ _ _ a).2.2.2
  have e2 : I2 1 = I1 1 := (zCd_mem 60 _ _ _ _ b).2.2.2
  obtain ⟨w, hw⟩ := (zCd_ty (t := zt_X11_text) rfl a).1 rfl
  cases hw
  refine ⟨I2, J2, r2, y2, x0, x1, ?_, h1, h2, e2.trans e1⟩
  simp only [kb_7, kb_8, kb_9, kok1 hL hi, kok2 hL hi, kok3 hL hi, kok4 hL hi, kok5 hL hi, kok6 hL hi, kok7 hL hi, kx1 hL hi, kx2 hL hi, kx3 hL hi, kx4 hL hi, kx5 hL hi, kx6 hL hi, kx7 hL hi, zgd_t, kgi, a, zbI_s, zbL_s, e1, b, yLs, if_true]
theorem kOp2 (hL : L ≤ 4096) (hi : i + 8 ≤ L) (hc : c < 512) (hr : zRr r) (hv : zV c I J y z0 z1) : kNext 10 i L c I J r := by
  obtain ⟨v, I1, J1, r1, I2, J2, r2, y2, x0, x1, a, b, h1, h2⟩ := oFault (I 1 (i + 1)) L c r I J y z0 z1 hc hr hv
  have e1 : I1 1 = I 1 := (zCd_mem 60 _ _ _ _ a).2.2.2
  have e2 : I2 1 = I1 1 := (zCd_mem 60 _ _ _ _ b).2.2.2
  obtain ⟨w, hw⟩ := (zCd_ty (t := zt_X11_fault) rfl a).1 rfl
  cases hw
  refine ⟨I2, J2, r2, y2, x0, x1, ?_, h1, h2, e2.trans e1⟩
  simp only [kb_10, kb_11, kb_12, kok1 hL hi, kok2 hL hi, kok3 hL hi, kok4 hL hi, kok5 hL hi, kok6 hL hi, kok7 hL hi, kx1 hL hi, kx2 hL hi, kx3 hL hi, kx4 hL hi, kx5 hL hi, kx6 hL hi, kx7 hL hi, zgd_t, kgi, a, zbI_s, zbL_s, e1, b, yLs, if_true]
theorem kOp3 (hL : L ≤ 4096) (hi : i + 8 ≤ L) (hc : c < 512) (hr : zRr r) (hv : zV c I J y z0 z1) : kNext 13 i L c I J r := by
  obtain ⟨v, I1, J1, r1, I2, J2, r2, y2, x0, x1, a, b, h1, h2⟩ := oRun (I 1 (i + 1)) (I 1 (i + 2)) (I 1 (i + 3)) (I 1 (i + 4)) L c r I J y z0 z1 hc hr hv
  have e1 : I1 1 = I 1 := (zCd_mem 60 _ _ _ _ a).2.2.2
  have e2 : I2 1 = I1 1 := (zCd_mem 60 _ _ _ _ b).2.2.2
  obtain ⟨w, hw⟩ := (zCd_ty (t := zt_X11_run) rfl a).1 rfl
  cases hw
  refine ⟨I2, J2, r2, y2, x0, x1, ?_, h1, h2, e2.trans e1⟩
  simp only [kb_13, kb_14, kb_15, kok1 hL hi, kok2 hL hi, kok3 hL hi, kok4 hL hi, kok5 hL hi, kok6 hL hi, kok7 hL hi, kx1 hL hi, kx2 hL hi, kx3 hL hi, kx4 hL hi, kx5 hL hi, kx6 hL hi, kx7 hL hi, zgd_t, kgi, a, zbI_s, zbL_s, e1, b, yLs, if_true]
theorem kOp4 (hL : L ≤ 4096) (hi : i + 8 ≤ L) (hc : c < 512) (hr : zRr r) (hv : zV c I J y z0 z1) : kNext 16 i L c I J r := by
  obtain ⟨v, I1, J1, r1, I2, J2, r2, y2, x0, x1, a, b, h1, h2⟩ := oSpeed (I 1 (i + 1)) (I 1 (i + 2)) L c r I J y z0 z1 hc hr hv
  have e1 : I1 1 = I 1 := (zCd_mem 60 _ _ _ _ a).2.2.2
  have e2 : I2 1 = I1 1 := (zCd_mem 60 _ _ _ _ b).2.2.2
  obtain ⟨w, hw⟩ := (zCd_ty (t := zt_X11_speed) rfl a).1 rfl
  cases hw
  refine ⟨I2, J2, r2, y2, x0, x1, ?_, h1, h2, e2.trans e1⟩
  simp only [kb_16, kb_17, kb_18, kok1 hL hi, kok2 hL hi, kok3 hL hi, kok4 hL hi, kok5 hL hi, kok6 hL hi, kok7 hL hi, kx1 hL hi, kx2 hL hi, kx3 hL hi, kx4 hL hi, kx5 hL hi, kx6 hL hi, kx7 hL hi, zgd_t, kgi, a, zbI_s, zbL_s, e1, b, yLs, if_true]
theorem kOp5 (hL : L ≤ 4096) (hi : i + 8 ≤ L) (hc : c < 512) (hr : zRr r) (hv : zV c I J y z0 z1) : kNext 19 i L c I J r := by
  obtain ⟨v, I1, J1, r1, I2, J2, r2, y2, x0, x1, a, b, h1, h2⟩ := oPoint (I 1 (i + 1)) (I 1 (i + 2)) L c r I J y z0 z1 hc hr hv
  have e1 : I1 1 = I 1 := (zCd_mem 60 _ _ _ _ a).2.2.2
  have e2 : I2 1 = I1 1 := (zCd_mem 60 _ _ _ _ b).2.2.2
  obtain ⟨w, hw⟩ := (zCd_ty (t := zt_X11_point) rfl a).1 rfl
  cases hw
  refine ⟨I2, J2, r2, y2, x0, x1, ?_, h1, h2, e2.trans e1⟩
  simp only [kb_19, kb_20, kb_21, kok1 hL hi, kok2 hL hi, kok3 hL hi, kok4 hL hi, kok5 hL hi, kok6 hL hi, kok7 hL hi, kx1 hL hi, kx2 hL hi, kx3 hL hi, kx4 hL hi, kx5 hL hi, kx6 hL hi, kx7 hL hi, zgd_t, kgi, a, zbI_s, zbL_s, e1, b, yLs, if_true]
theorem kOp6 (hL : L ≤ 4096) (hi : i + 8 ≤ L) (hc : c < 512) (hr : zRr r) (hv : zV c I J y z0 z1) : kNext 22 i L c I J r := by
  obtain ⟨v, I1, J1, r1, I2, J2, r2, y2, x0, x1, a, b, h1, h2⟩ := oFelt (I 1 (i + 1)) (I 1 (i + 2)) (I 1 (i + 3)) L c r I J y z0 z1 hc hr hv
  have e1 : I1 1 = I 1 := (zCd_mem 60 _ _ _ _ a).2.2.2
  have e2 : I2 1 = I1 1 := (zCd_mem 60 _ _ _ _ b).2.2.2
  obtain ⟨w, hw⟩ := (zCd_ty (t := zt_X11_felt) rfl a).1 rfl
  cases hw
  refine ⟨I2, J2, r2, y2, x0, x1, ?_, h1, h2, e2.trans e1⟩
  simp only [kb_22, kb_23, kb_24, kok1 hL hi, kok2 hL hi, kok3 hL hi, kok4 hL hi, kok5 hL hi, kok6 hL hi, kok7 hL hi, kx1 hL hi, kx2 hL hi, kx3 hL hi, kx4 hL hi, kx5 hL hi, kx6 hL hi, kx7 hL hi, zgd_t, kgi, a, zbI_s, zbL_s, e1, b, yLs, if_true]
theorem kOp7 (hL : L ≤ 4096) (hi : i + 8 ≤ L) (hc : c < 512) (hr : zRr r) (hv : zV c I J y z0 z1) : kNext 25 i L c I J r := by
  by_cases q : I 1 (i + 3) = 0
  · have q9 := q
    obtain ⟨v, I1, J1, r1, I2, J2, r2, y2, x0, x1, a, b, h1, h2⟩ := oFeels (I 1 (i + 1)) (I 1 (i + 2)) 0 L c r I J y z0 z1 hc hr hv
    have e1 : I1 1 = I 1 := (zCd_mem 60 _ _ _ _ a).2.2.2
    have e2 : I2 1 = I1 1 := (zCd_mem 60 _ _ _ _ b).2.2.2
    obtain ⟨w, hw⟩ := (zCd_ty (t := zt_X11_feels) rfl a).1 rfl
    cases hw
    refine ⟨I2, J2, r2, y2, x0, x1, ?_, h1, h2, e2.trans e1⟩
    simp only [kb_25, kb_26, kb_27, kb_28, kb_29, kb_30, kb_31, kok1 hL hi, kok2 hL hi, kok3 hL hi, kok4 hL hi, kok5 hL hi, kok6 hL hi, kok7 hL hi, kx1 hL hi, kx2 hL hi, kx3 hL hi, kx4 hL hi, kx5 hL hi, kx6 hL hi, kx7 hL hi, zgd_t, kgi, a, zbI_s, zbL_s, e1, b, yLs, if_true, q9]
  · have q9 := q
    obtain ⟨v, I1, J1, r1, I2, J2, r2, y2, x0, x1, a, b, h1, h2⟩ := oFeels (I 1 (i + 1)) (I 1 (i + 2)) 1 L c r I J y z0 z1 hc hr hv
    have e1 : I1 1 = I 1 := (zCd_mem 60 _ _ _ _ a).2.2.2
    have e2 : I2 1 = I1 1 := (zCd_mem 60 _ _ _ _ b).2.2.2
    obtain ⟨w, hw⟩ := (zCd_ty (t := zt_X11_feels) rfl a).1 rfl
    cases hw
    refine ⟨I2, J2, r2, y2, x0, x1, ?_, h1, h2, e2.trans e1⟩
    simp only [kb_25, kb_26, kb_27, kb_28, kb_29, kb_30, kb_31, kok1 hL hi, kok2 hL hi, kok3 hL hi, kok4 hL hi, kok5 hL hi, kok6 hL hi, kok7 hL hi, kx1 hL hi, kx2 hL hi, kx3 hL hi, kx4 hL hi, kx5 hL hi, kx6 hL hi, kx7 hL hi, zgd_t, kgi, a, zbI_s, zbL_s, e1, b, yLs, if_true, q9, if_false]
theorem kOp8 (hL : L ≤ 4096) (hi : i + 8 ≤ L) (hc : c < 512) (hr : zRr r) (hv : zV c I J y z0 z1) : kNext 32 i L c I J r := by
  obtain ⟨v, I1, J1, r1, I2, J2, r2, y2, x0, x1, a, b, h1, h2⟩ := oOdds (I 1 (i + 1)) (I 1 (i + 2)) (I 1 (i + 3)) (I 1 (i + 4)) (I 1 (i + 5)) L c r I J y z0 z1 hc hr hv
  have e1 : I1 1 = I 1 := (zCd_mem 60 _ _ _ _ a).2.2.2
  have e2 : I2 1 = I1 1 := (zCd_mem 60 _ _ _ _ b).2.2.2
  obtain ⟨w, hw⟩ := (zCd_ty (t := zt_X11_odds) rfl a).1 rfl
  cases hw
  refine ⟨I2, J2, r2, y2, x0, x1, ?_, h1, h2, e2.trans e1⟩
  simp only [kb_32, kb_33, kb_34, kok1 hL hi, kok2 hL hi, kok3 hL hi, kok4 hL hi, kok5 hL hi, kok6 hL hi, kok7 hL hi, kx1 hL hi, kx2 hL hi, kx3 hL hi, kx4 hL hi, kx5 hL hi, kx6 hL hi, kx7 hL hi, zgd_t, kgi, a, zbI_s, zbL_s, e1, b, yLs, if_true]
theorem kOp9 (hL : L ≤ 4096) (hi : i + 8 ≤ L) (hc : c < 512) (hr : zRr r) (hv : zV c I J y z0 z1) : kNext 35 i L c I J r := by
  obtain ⟨v, I1, J1, r1, I2, J2, r2, y2, x0, x1, a, b, h1, h2⟩ := oRow (I 1 (i + 1)) (I 1 (i + 2)) (I 1 (i + 3)) (I 1 (i + 4)) L c r I J y z0 z1 hc hr hv
  have e1 : I1 1 = I 1 := (zCd_mem 60 _ _ _ _ a).2.2.2
  have e2 : I2 1 = I1 1 := (zCd_mem 60 _ _ _ _ b).2.2.2
  obtain ⟨w, hw⟩ := (zCd_ty (t := zt_X11_row) rfl a).1 rfl
  cases hw
  refine ⟨I2, J2, r2, y2, x0, x1, ?_, h1, h2, e2.trans e1⟩
  simp only [kb_35, kb_36, kb_37, kok1 hL hi, kok2 hL hi, kok3 hL hi, kok4 hL hi, kok5 hL hi, kok6 hL hi, kok7 hL hi, kx1 hL hi, kx2 hL hi, kx3 hL hi, kx4 hL hi, kx5 hL hi, kx6 hL hi, kx7 hL hi, zgd_t, kgi, a, zbI_s, zbL_s, e1, b, yLs, if_true]
theorem kOp10 (hL : L ≤ 4096) (hi : i + 8 ≤ L) (hc : c < 512) (hr : zRr r) (hv : zV c I J y z0 z1) : kNext 38 i L c I J r := by
  obtain ⟨v, I1, J1, r1, I2, J2, r2, y2, x0, x1, a, b, h1, h2⟩ := oLeaves (I 1 (i + 1)) (I 1 (i + 2)) L c r I J y z0 z1 hc hr hv
  have e1 : I1 1 = I 1 := (zCd_mem 60 _ _ _ _ a).2.2.2
  have e2 : I2 1 = I1 1 := (zCd_mem 60 _ _ _ _ b).2.2.2
  obtain ⟨w, hw⟩ := (zCd_ty (t := zt_X11_leaves) rfl a).1 rfl
  cases hw
  refine ⟨I2, J2, r2, y2, x0, x1, ?_, h1, h2, e2.trans e1⟩
  simp only [kb_38, kb_39, kb_40, kok1 hL hi, kok2 hL hi, kok3 hL hi, kok4 hL hi, kok5 hL hi, kok6 hL hi, kok7 hL hi, kx1 hL hi, kx2 hL hi, kx3 hL hi, kx4 hL hi, kx5 hL hi, kx6 hL hi, kx7 hL hi, zgd_t, kgi, a, zbI_s, zbL_s, e1, b, yLs, if_true]
theorem kOp11 (hL : L ≤ 4096) (hi : i + 8 ≤ L) (hc : c < 512) (hr : zRr r) (hv : zV c I J y z0 z1) : kNext 41 i L c I J r := by
  obtain ⟨v, I1, J1, r1, I2, J2, r2, y2, x0, x1, a, b, h1, h2⟩ := oTime (I 1 (i + 1)) (I 1 (i + 2)) L c r I J y z0 z1 hc hr hv
  have e1 : I1 1 = I 1 := (zCd_mem 60 _ _ _ _ a).2.2.2
  have e2 : I2 1 = I1 1 := (zCd_mem 60 _ _ _ _ b).2.2.2
  obtain ⟨w, hw⟩ := (zCd_ty (t := zt_X11_time) rfl a).1 rfl
  cases hw
  refine ⟨I2, J2, r2, y2, x0, x1, ?_, h1, h2, e2.trans e1⟩
  simp only [kb_41, kb_42, kb_43, kok1 hL hi, kok2 hL hi, kok3 hL hi, kok4 hL hi, kok5 hL hi, kok6 hL hi, kok7 hL hi, kx1 hL hi, kx2 hL hi, kx3 hL hi, kx4 hL hi, kx5 hL hi, kx6 hL hi, kx7 hL hi, zgd_t, kgi, a, zbI_s, zbL_s, e1, b, yLs, if_true]
theorem kOp12 (hL : L ≤ 4096) (hi : i + 8 ≤ L) (hc : c < 512) (hr : zRr r) (hv : zV c I J y z0 z1) : kNext 44 i L c I J r := by
  obtain ⟨v, I1, J1, r1, I2, J2, r2, y2, x0, x1, a, b, h1, h2⟩ := oHolds (I 1 (i + 1)) (I 1 (i + 2)) (I 1 (i + 3)) (I 1 (i + 4)) (I 1 (i + 5)) L c r I J y z0 z1 hc hr hv
  have e1 : I1 1 = I 1 := (zCd_mem 60 _ _ _ _ a).2.2.2
  have e2 : I2 1 = I1 1 := (zCd_mem 60 _ _ _ _ b).2.2.2
  obtain ⟨w, hw⟩ := (zCd_ty (t := zt_X11_holds) rfl a).1 rfl
  cases hw
  refine ⟨I2, J2, r2, y2, x0, x1, ?_, h1, h2, e2.trans e1⟩
  simp only [kb_44, kb_45, kb_46, kok1 hL hi, kok2 hL hi, kok3 hL hi, kok4 hL hi, kok5 hL hi, kok6 hL hi, kok7 hL hi, kx1 hL hi, kx2 hL hi, kx3 hL hi, kx4 hL hi, kx5 hL hi, kx6 hL hi, kx7 hL hi, zgd_t, kgi, a, zbI_s, zbL_s, e1, b, yLs, if_true]
theorem kOp13 (hL : L ≤ 4096) (hi : i + 8 ≤ L) (hc : c < 512) (hr : zRr r) (hv : zV c I J y z0 z1) : kNext 47 i L c I J r := by
  obtain ⟨v, I1, J1, r1, I2, J2, r2, y2, x0, x1, a, b, h1, h2⟩ := oBeat (I 1 (i + 1)) (I 1 (i + 2)) (I 1 (i + 3)) (I 1 (i + 4)) L c r I J y z0 z1 hc hr hv
  have e1 : I1 1 = I 1 := (zCd_mem 60 _ _ _ _ a).2.2.2
  have e2 : I2 1 = I1 1 := (zCd_mem 60 _ _ _ _ b).2.2.2
  obtain ⟨w, hw⟩ := (zCd_ty (t := zt_X11_beat) rfl a).1 rfl
  cases hw
  refine ⟨I2, J2, r2, y2, x0, x1, ?_, h1, h2, e2.trans e1⟩
  simp only [kb_47, kb_48, kb_49, kok1 hL hi, kok2 hL hi, kok3 hL hi, kok4 hL hi, kok5 hL hi, kok6 hL hi, kok7 hL hi, kx1 hL hi, kx2 hL hi, kx3 hL hi, kx4 hL hi, kx5 hL hi, kx6 hL hi, kx7 hL hi, zgd_t, kgi, a, zbI_s, zbL_s, e1, b, yLs, if_true]
theorem kOp14 (hL : L ≤ 4096) (hi : i + 8 ≤ L) (hc : c < 512) (hr : zRr r) (hv : zV c I J y z0 z1) : kNext 50 i L c I J r := by
  obtain ⟨v, I1, J1, r1, I2, J2, r2, y2, x0, x1, a, b, h1, h2⟩ := oLog (I 1 (i + 1)) (I 1 (i + 2)) (I 1 (i + 3)) (I 1 (i + 4)) L c r I J y z0 z1 hc hr hv
  have e1 : I1 1 = I 1 := (zCd_mem 60 _ _ _ _ a).2.2.2
  have e2 : I2 1 = I1 1 := (zCd_mem 60 _ _ _ _ b).2.2.2
  obtain ⟨w, hw⟩ := (zCd_ty (t := zt_X11_log) rfl a).1 rfl
  cases hw
  refine ⟨I2, J2, r2, y2, x0, x1, ?_, h1, h2, e2.trans e1⟩
  simp only [kb_50, kb_51, kb_52, kok1 hL hi, kok2 hL hi, kok3 hL hi, kok4 hL hi, kok5 hL hi, kok6 hL hi, kok7 hL hi, kx1 hL hi, kx2 hL hi, kx3 hL hi, kx4 hL hi, kx5 hL hi, kx6 hL hi, kx7 hL hi, zgd_t, kgi, a, zbI_s, zbL_s, e1, b, yLs, if_true]
theorem kOp15 (hL : L ≤ 4096) (hi : i + 8 ≤ L) (hc : c < 512) (hr : zRr r) (hv : zV c I J y z0 z1) : kNext 53 i L c I J r := by
  obtain ⟨v, I1, J1, r1, I2, J2, r2, y2, x0, x1, a, b, h1, h2⟩ := oFits (I 1 (i + 1)) L c r I J y z0 z1 hc hr hv
  have e1 : I1 1 = I 1 := (zCd_mem 60 _ _ _ _ a).2.2.2
  have e2 : I2 1 = I1 1 := (zCd_mem 60 _ _ _ _ b).2.2.2
  obtain ⟨w, hw⟩ := (zCd_ty (t := zt_X11_fits) rfl a).1 rfl
  cases hw
  refine ⟨I2, J2, r2, y2, x0, x1, ?_, h1, h2, e2.trans e1⟩
  simp only [kb_53, kb_54, kb_55, kok1 hL hi, kok2 hL hi, kok3 hL hi, kok4 hL hi, kok5 hL hi, kok6 hL hi, kok7 hL hi, kx1 hL hi, kx2 hL hi, kx3 hL hi, kx4 hL hi, kx5 hL hi, kx6 hL hi, kx7 hL hi, zgd_t, kgi, a, zbI_s, zbL_s, e1, b, yLs, if_true]
theorem kOp16 (hL : L ≤ 4096) (hi : i + 8 ≤ L) (hc : c < 512) (hr : zRr r) (hv : zV c I J y z0 z1) : kNext 56 i L c I J r := by
  obtain ⟨v, I1, J1, r1, I2, J2, r2, y2, x0, x1, a, b, h1, h2⟩ := oWorn L c r I J y z0 z1 hc hr hv
  have e1 : I1 1 = I 1 := (zCd_mem 60 _ _ _ _ a).2.2.2
  have e2 : I2 1 = I1 1 := (zCd_mem 60 _ _ _ _ b).2.2.2
  obtain ⟨w, hw⟩ := (zCd_ty (t := zt_X11_worn) rfl a).1 rfl
  cases hw
  refine ⟨I2, J2, r2, y2, x0, x1, ?_, h1, h2, e2.trans e1⟩
  simp only [kb_56, kb_57, kb_58, kok1 hL hi, kok2 hL hi, kok3 hL hi, kok4 hL hi, kok5 hL hi, kok6 hL hi, kok7 hL hi, kx1 hL hi, kx2 hL hi, kx3 hL hi, kx4 hL hi, kx5 hL hi, kx6 hL hi, kx7 hL hi, zgd_t, kgi, a, zbI_s, zbL_s, e1, b, yLs, if_true]
theorem kOp17 (hL : L ≤ 4096) (hi : i + 8 ≤ L) (hc : c < 512) (hr : zRr r) (hv : zV c I J y z0 z1) : kNext 59 i L c I J r := by
  obtain ⟨v, I1, J1, r1, I2, J2, r2, y2, x0, x1, a, b, h1, h2⟩ := oStair (I 1 (i + 1)) L c r I J y z0 z1 hc hr hv
  have e1 : I1 1 = I 1 := (zCd_mem 60 _ _ _ _ a).2.2.2
  have e2 : I2 1 = I1 1 := (zCd_mem 60 _ _ _ _ b).2.2.2
  obtain ⟨w, hw⟩ := (zCd_ty (t := zt_X11_stair) rfl a).1 rfl
  cases hw
  refine ⟨I2, J2, r2, y2, x0, x1, ?_, h1, h2, e2.trans e1⟩
  simp only [kb_59, kb_60, kb_61, kok1 hL hi, kok2 hL hi, kok3 hL hi, kok4 hL hi, kok5 hL hi, kok6 hL hi, kok7 hL hi, kx1 hL hi, kx2 hL hi, kx3 hL hi, kx4 hL hi, kx5 hL hi, kx6 hL hi, kx7 hL hi, zgd_t, kgi, a, zbI_s, zbL_s, e1, b, yLs, if_true]
theorem kOp18 (hL : L ≤ 4096) (hi : i + 8 ≤ L) (hc : c < 512) (hr : zRr r) (hv : zV c I J y z0 z1) : kNext 62 i L c I J r := by
  obtain ⟨v, I1, J1, r1, I2, J2, r2, y2, x0, x1, a, b, h1, h2⟩ := oWalk (I 1 (i + 1)) (I 1 (i + 2)) L c r I J y z0 z1 hc hr hv
  have e1 : I1 1 = I 1 := (zCd_mem 60 _ _ _ _ a).2.2.2
  have e2 : I2 1 = I1 1 := (zCd_mem 60 _ _ _ _ b).2.2.2
  obtain ⟨w, hw⟩ := (zCd_ty (t := zt_X11_walk) rfl a).1 rfl
  cases hw
  refine ⟨I2, J2, r2, y2, x0, x1, ?_, h1, h2, e2.trans e1⟩
  simp only [kb_62, kb_63, kb_64, kok1 hL hi, kok2 hL hi, kok3 hL hi, kok4 hL hi, kok5 hL hi, kok6 hL hi, kok7 hL hi, kx1 hL hi, kx2 hL hi, kx3 hL hi, kx4 hL hi, kx5 hL hi, kx6 hL hi, kx7 hL hi, zgd_t, kgi, a, zbI_s, zbL_s, e1, b, yLs, if_true]
theorem kOp19 (hL : L ≤ 4096) (hi : i + 8 ≤ L) (hc : c < 512) (hr : zRr r) (hv : zV c I J y z0 z1) : kNext 65 i L c I J r := by
  obtain ⟨v, I1, J1, r1, I2, J2, r2, y2, x0, x1, a, b, h1, h2⟩ := oWorst (I 1 (i + 1)) L c r I J y z0 z1 hc hr hv
  have e1 : I1 1 = I 1 := (zCd_mem 60 _ _ _ _ a).2.2.2
  have e2 : I2 1 = I1 1 := (zCd_mem 60 _ _ _ _ b).2.2.2
  obtain ⟨w, hw⟩ := (zCd_ty (t := zt_X11_worst) rfl a).1 rfl
  cases hw
  refine ⟨I2, J2, r2, y2, x0, x1, ?_, h1, h2, e2.trans e1⟩
  simp only [kb_65, kb_66, kb_67, kok1 hL hi, kok2 hL hi, kok3 hL hi, kok4 hL hi, kok5 hL hi, kok6 hL hi, kok7 hL hi, kx1 hL hi, kx2 hL hi, kx3 hL hi, kx4 hL hi, kx5 hL hi, kx6 hL hi, kx7 hL hi, zgd_t, kgi, a, zbI_s, zbL_s, e1, b, yLs, if_true]
theorem kOp20 (hL : L ≤ 4096) (hi : i + 8 ≤ L) (hc : c < 512) (hr : zRr r) (hv : zV c I J y z0 z1) : kNext 68 i L c I J r := by
  obtain ⟨v, I1, J1, r1, I2, J2, r2, y2, x0, x1, a, b, h1, h2⟩ := oTest (I 1 (i + 1)) (I 1 (i + 2)) L c r I J y z0 z1 hc hr hv
  have e1 : I1 1 = I 1 := (zCd_mem 60 _ _ _ _ a).2.2.2
  have e2 : I2 1 = I1 1 := (zCd_mem 60 _ _ _ _ b).2.2.2
  obtain ⟨w, hw⟩ := (zCd_ty (t := zt_X11_test) rfl a).1 rfl
  cases hw
  refine ⟨I2, J2, r2, y2, x0, x1, ?_, h1, h2, e2.trans e1⟩
  simp only [kb_68, kb_69, kb_70, kok1 hL hi, kok2 hL hi, kok3 hL hi, kok4 hL hi, kok5 hL hi, kok6 hL hi, kok7 hL hi, kx1 hL hi, kx2 hL hi, kx3 hL hi, kx4 hL hi, kx5 hL hi, kx6 hL hi, kx7 hL hi, zgd_t, kgi, a, zbI_s, zbL_s, e1, b, yLs, if_true]
theorem kOp21 (hL : L ≤ 4096) (hi : i + 8 ≤ L) (hc : c < 512) (hr : zRr r) (hv : zV c I J y z0 z1) : kNext 71 i L c I J r := by
  obtain ⟨v, I1, J1, r1, I2, J2, r2, y2, x0, x1, a, b, h1, h2⟩ := oCover (I 1 (i + 1)) (I 1 (i + 2)) L c r I J y z0 z1 hc hr hv
  have e1 : I1 1 = I 1 := (zCd_mem 60 _ _ _ _ a).2.2.2
  have e2 : I2 1 = I1 1 := (zCd_mem 60 _ _ _ _ b).2.2.2
  obtain ⟨w, hw⟩ := (zCd_ty (t := zt_X11_cover) rfl a).1 rfl
  cases hw
  refine ⟨I2, J2, r2, y2, x0, x1, ?_, h1, h2, e2.trans e1⟩
  simp only [kb_71, kb_72, kb_73, kok1 hL hi, kok2 hL hi, kok3 hL hi, kok4 hL hi, kok5 hL hi, kok6 hL hi, kok7 hL hi, kx1 hL hi, kx2 hL hi, kx3 hL hi, kx4 hL hi, kx5 hL hi, kx6 hL hi, kx7 hL hi, zgd_t, kgi, a, zbI_s, zbL_s, e1, b, yLs, if_true]
theorem kOp22 (hL : L ≤ 4096) (hi : i + 8 ≤ L) (hc : c < 512) (hr : zRr r) (hv : zV c I J y z0 z1) : kNext 74 i L c I J r := by
  obtain ⟨v, I1, J1, r1, I2, J2, r2, y2, x0, x1, a, b, h1, h2⟩ := oPart (I 1 (i + 1)) (I 1 (i + 2)) L c r I J y z0 z1 hc hr hv
  have e1 : I1 1 = I 1 := (zCd_mem 60 _ _ _ _ a).2.2.2
  have e2 : I2 1 = I1 1 := (zCd_mem 60 _ _ _ _ b).2.2.2
  obtain ⟨w, hw⟩ := (zCd_ty (t := zt_X11_part) rfl a).1 rfl
  cases hw
  refine ⟨I2, J2, r2, y2, x0, x1, ?_, h1, h2, e2.trans e1⟩
  simp only [kb_74, kb_75, kb_76, kok1 hL hi, kok2 hL hi, kok3 hL hi, kok4 hL hi, kok5 hL hi, kok6 hL hi, kok7 hL hi, kx1 hL hi, kx2 hL hi, kx3 hL hi, kx4 hL hi, kx5 hL hi, kx6 hL hi, kx7 hL hi, zgd_t, kgi, a, zbI_s, zbL_s, e1, b, yLs, if_true]
theorem kOp23 (hL : L ≤ 4096) (hi : i + 8 ≤ L) (hc : c < 512) (hr : zRr r) (hv : zV c I J y z0 z1) : kNext 77 i L c I J r := by
  obtain ⟨v, I1, J1, r1, I2, J2, r2, y2, x0, x1, a, b, h1, h2⟩ := oAge (I 1 (i + 1)) L c r I J y z0 z1 hc hr hv
  have e1 : I1 1 = I 1 := (zCd_mem 60 _ _ _ _ a).2.2.2
  have e2 : I2 1 = I1 1 := (zCd_mem 60 _ _ _ _ b).2.2.2
  obtain ⟨w, hw⟩ := (zCd_ty (t := zt_X11_age) rfl a).1 rfl
  cases hw
  refine ⟨I2, J2, r2, y2, x0, x1, ?_, h1, h2, e2.trans e1⟩
  simp only [kb_77, kb_78, kb_79, kok1 hL hi, kok2 hL hi, kok3 hL hi, kok4 hL hi, kok5 hL hi, kok6 hL hi, kok7 hL hi, kx1 hL hi, kx2 hL hi, kx3 hL hi, kx4 hL hi, kx5 hL hi, kx6 hL hi, kx7 hL hi, zgd_t, kgi, a, zbI_s, zbL_s, e1, b, yLs, if_true]
theorem kOp24 (hL : L ≤ 4096) (hi : i + 8 ≤ L) (hc : c < 512) (hr : zRr r) (hv : zV c I J y z0 z1) : kNext 80 i L c I J r := by
  obtain ⟨v, I1, J1, r1, I2, J2, r2, y2, x0, x1, a, b, h1, h2⟩ := oDays (I 1 (i + 1)) (I 1 (i + 2)) L c r I J y z0 z1 hc hr hv
  have e1 : I1 1 = I 1 := (zCd_mem 60 _ _ _ _ a).2.2.2
  have e2 : I2 1 = I1 1 := (zCd_mem 60 _ _ _ _ b).2.2.2
  obtain ⟨w, hw⟩ := (zCd_ty (t := zt_X11_days) rfl a).1 rfl
  cases hw
  refine ⟨I2, J2, r2, y2, x0, x1, ?_, h1, h2, e2.trans e1⟩
  simp only [kb_80, kb_81, kb_82, kok1 hL hi, kok2 hL hi, kok3 hL hi, kok4 hL hi, kok5 hL hi, kok6 hL hi, kok7 hL hi, kx1 hL hi, kx2 hL hi, kx3 hL hi, kx4 hL hi, kx5 hL hi, kx6 hL hi, kx7 hL hi, zgd_t, kgi, a, zbI_s, zbL_s, e1, b, yLs, if_true]
theorem kOp25 (hL : L ≤ 4096) (hi : i + 8 ≤ L) (hc : c < 512) (hr : zRr r) (hv : zV c I J y z0 z1) : kNext 83 i L c I J r := by
  obtain ⟨v, I1, J1, r1, I2, J2, r2, y2, x0, x1, a, b, h1, h2⟩ := oFirst (I 1 (i + 1)) L c r I J y z0 z1 hc hr hv
  have e1 : I1 1 = I 1 := (zCd_mem 60 _ _ _ _ a).2.2.2
  have e2 : I2 1 = I1 1 := (zCd_mem 60 _ _ _ _ b).2.2.2
  obtain ⟨w, hw⟩ := (zCd_ty (t := zt_X11_first) rfl a).1 rfl
  cases hw
  refine ⟨I2, J2, r2, y2, x0, x1, ?_, h1, h2, e2.trans e1⟩
  simp only [kb_83, kb_84, kb_85, kok1 hL hi, kok2 hL hi, kok3 hL hi, kok4 hL hi, kok5 hL hi, kok6 hL hi, kok7 hL hi, kx1 hL hi, kx2 hL hi, kx3 hL hi, kx4 hL hi, kx5 hL hi, kx6 hL hi, kx7 hL hi, zgd_t, kgi, a, zbI_s, zbL_s, e1, b, yLs, if_true]
theorem kOp26 (hL : L ≤ 4096) (hi : i + 8 ≤ L) (hc : c < 512) (hr : zRr r) (hv : zV c I J y z0 z1) : kNext 86 i L c I J r := by
  obtain ⟨v, I1, J1, r1, I2, J2, r2, y2, x0, x1, a, b, h1, h2⟩ := oRestart (I 1 (i + 1)) (I 1 (i + 2)) L c r I J y z0 z1 hc hr hv
  have e1 : I1 1 = I 1 := (zCd_mem 60 _ _ _ _ a).2.2.2
  have e2 : I2 1 = I1 1 := (zCd_mem 60 _ _ _ _ b).2.2.2
  obtain ⟨w, hw⟩ := (zCd_ty (t := zt_X11_restart) rfl a).1 rfl
  cases hw
  refine ⟨I2, J2, r2, y2, x0, x1, ?_, h1, h2, e2.trans e1⟩
  simp only [kb_86, kb_87, kb_88, kok1 hL hi, kok2 hL hi, kok3 hL hi, kok4 hL hi, kok5 hL hi, kok6 hL hi, kok7 hL hi, kx1 hL hi, kx2 hL hi, kx3 hL hi, kx4 hL hi, kx5 hL hi, kx6 hL hi, kx7 hL hi, zgd_t, kgi, a, zbI_s, zbL_s, e1, b, yLs, if_true]
theorem kOp27 (hL : L ≤ 4096) (hi : i + 8 ≤ L) (hc : c < 512) (hr : zRr r) (hv : zV c I J y z0 z1) : kNext 89 i L c I J r := by
  obtain ⟨v, I1, J1, r1, I2, J2, r2, y2, x0, x1, a, b, h1, h2⟩ := oValley (I 1 (i + 1)) L c r I J y z0 z1 hc hr hv
  have e1 : I1 1 = I 1 := (zCd_mem 60 _ _ _ _ a).2.2.2
  have e2 : I2 1 = I1 1 := (zCd_mem 60 _ _ _ _ b).2.2.2
  obtain ⟨w, hw⟩ := (zCd_ty (t := zt_X11_valley) rfl a).1 rfl
  cases hw
  refine ⟨I2, J2, r2, y2, x0, x1, ?_, h1, h2, e2.trans e1⟩
  simp only [kb_89, kb_90, kb_91, kok1 hL hi, kok2 hL hi, kok3 hL hi, kok4 hL hi, kok5 hL hi, kok6 hL hi, kok7 hL hi, kx1 hL hi, kx2 hL hi, kx3 hL hi, kx4 hL hi, kx5 hL hi, kx6 hL hi, kx7 hL hi, zgd_t, kgi, a, zbI_s, zbL_s, e1, b, yLs, if_true]
theorem kOp28 (hL : L ≤ 4096) (hi : i + 8 ≤ L) (hc : c < 512) (hr : zRr r) (hv : zV c I J y z0 z1) : kNext 92 i L c I J r := by
  obtain ⟨v, I1, J1, r1, I2, J2, r2, y2, x0, x1, a, b, h1, h2⟩ := oGroup (I 1 (i + 1)) (I 1 (i + 2)) L c r I J y z0 z1 hc hr hv
  have e1 : I1 1 = I 1 := (zCd_mem 60 _ _ _ _ a).2.2.2
  have e2 : I2 1 = I1 1 := (zCd_mem 60 _ _ _ _ b).2.2.2
  obtain ⟨w, hw⟩ := (zCd_ty (t := zt_X11_group) rfl a).1 rfl
  cases hw
  refine ⟨I2, J2, r2, y2, x0, x1, ?_, h1, h2, e2.trans e1⟩
  simp only [kb_92, kb_93, kb_94, kok1 hL hi, kok2 hL hi, kok3 hL hi, kok4 hL hi, kok5 hL hi, kok6 hL hi, kok7 hL hi, kx1 hL hi, kx2 hL hi, kx3 hL hi, kx4 hL hi, kx5 hL hi, kx6 hL hi, kx7 hL hi, zgd_t, kgi, a, zbI_s, zbL_s, e1, b, yLs, if_true]
theorem kOp29 (hL : L ≤ 4096) (hi : i + 8 ≤ L) (hc : c < 512) (hr : zRr r) (hv : zV c I J y z0 z1) : kNext 95 i L c I J r := by
  obtain ⟨v, I1, J1, r1, I2, J2, r2, y2, x0, x1, a, b, h1, h2⟩ := oTrains (I 1 (i + 1)) (I 1 (i + 2)) (I 1 (i + 3)) L c r I J y z0 z1 hc hr hv
  have e1 : I1 1 = I 1 := (zCd_mem 60 _ _ _ _ a).2.2.2
  have e2 : I2 1 = I1 1 := (zCd_mem 60 _ _ _ _ b).2.2.2
  obtain ⟨w, hw⟩ := (zCd_ty (t := zt_X11_trains) rfl a).1 rfl
  cases hw
  refine ⟨I2, J2, r2, y2, x0, x1, ?_, h1, h2, e2.trans e1⟩
  simp only [kb_95, kb_96, kb_97, kok1 hL hi, kok2 hL hi, kok3 hL hi, kok4 hL hi, kok5 hL hi, kok6 hL hi, kok7 hL hi, kx1 hL hi, kx2 hL hi, kx3 hL hi, kx4 hL hi, kx5 hL hi, kx6 hL hi, kx7 hL hi, zgd_t, kgi, a, zbI_s, zbL_s, e1, b, yLs, if_true]
theorem kOp30 (hL : L ≤ 4096) (hi : i + 8 ≤ L) (hc : c < 512) (hr : zRr r) (hv : zV c I J y z0 z1) : kNext 98 i L c I J r := by
  obtain ⟨v, I1, J1, r1, I2, J2, r2, y2, x0, x1, a, b, h1, h2⟩ := oCross (I 1 (i + 1)) (I 1 (i + 2)) (I 1 (i + 3)) (I 1 (i + 4)) (I 1 (i + 5)) (I 1 (i + 6)) (I 1 (i + 7)) L c r I J y z0 z1 hc hr hv
  have e1 : I1 1 = I 1 := (zCd_mem 60 _ _ _ _ a).2.2.2
  have e2 : I2 1 = I1 1 := (zCd_mem 60 _ _ _ _ b).2.2.2
  obtain ⟨w, hw⟩ := (zCd_ty (t := zt_X11_cross) rfl a).1 rfl
  cases hw
  refine ⟨I2, J2, r2, y2, x0, x1, ?_, h1, h2, e2.trans e1⟩
  simp only [kb_98, kb_99, kb_100, kok1 hL hi, kok2 hL hi, kok3 hL hi, kok4 hL hi, kok5 hL hi, kok6 hL hi, kok7 hL hi, kx1 hL hi, kx2 hL hi, kx3 hL hi, kx4 hL hi, kx5 hL hi, kx6 hL hi, kx7 hL hi, zgd_t, kgi, a, zbI_s, zbL_s, e1, b, yLs, if_true]
theorem kOp31 (hL : L ≤ 4096) (hi : i + 8 ≤ L) (hc : c < 512) (hr : zRr r) (hv : zV c I J y z0 z1) : kNext 101 i L c I J r := by
  obtain ⟨v, I1, J1, r1, I2, J2, r2, y2, x0, x1, a, b, h1, h2⟩ := oClear (I 1 (i + 1)) (I 1 (i + 2)) (I 1 (i + 3)) (I 1 (i + 4)) (I 1 (i + 5)) (I 1 (i + 6)) L c r I J y z0 z1 hc hr hv
  have e1 : I1 1 = I 1 := (zCd_mem 60 _ _ _ _ a).2.2.2
  have e2 : I2 1 = I1 1 := (zCd_mem 60 _ _ _ _ b).2.2.2
  obtain ⟨w, hw⟩ := (zCd_ty (t := zt_X11_clear) rfl a).1 rfl
  cases hw
  refine ⟨I2, J2, r2, y2, x0, x1, ?_, h1, h2, e2.trans e1⟩
  simp only [kb_101, kb_102, kb_103, kok1 hL hi, kok2 hL hi, kok3 hL hi, kok4 hL hi, kok5 hL hi, kok6 hL hi, kok7 hL hi, kx1 hL hi, kx2 hL hi, kx3 hL hi, kx4 hL hi, kx5 hL hi, kx6 hL hi, kx7 hL hi, zgd_t, kgi, a, zbI_s, zbL_s, e1, b, yLs, if_true]
theorem kOp32 (hL : L ≤ 4096) (hi : i + 8 ≤ L) (hc : c < 512) (hr : zRr r) (hv : zV c I J y z0 z1) : kNext 104 i L c I J r := by
  obtain ⟨v, I1, J1, r1, I2, J2, r2, y2, x0, x1, a, b, h1, h2⟩ := oStay (I 1 (i + 1)) (I 1 (i + 2)) (I 1 (i + 3)) (I 1 (i + 4)) L c r I J y z0 z1 hc hr hv
  have e1 : I1 1 = I 1 := (zCd_mem 60 _ _ _ _ a).2.2.2
  have e2 : I2 1 = I1 1 := (zCd_mem 60 _ _ _ _ b).2.2.2
  obtain ⟨w, hw⟩ := (zCd_ty (t := zt_X11_stay) rfl a).1 rfl
  cases hw
  refine ⟨I2, J2, r2, y2, x0, x1, ?_, h1, h2, e2.trans e1⟩
  simp only [kb_104, kb_105, kb_106, kok1 hL hi, kok2 hL hi, kok3 hL hi, kok4 hL hi, kok5 hL hi, kok6 hL hi, kok7 hL hi, kx1 hL hi, kx2 hL hi, kx3 hL hi, kx4 hL hi, kx5 hL hi, kx6 hL hi, kx7 hL hi, zgd_t, kgi, a, zbI_s, zbL_s, e1, b, yLs, if_true]
theorem kOp33 (hL : L ≤ 4096) (hi : i + 8 ≤ L) (hc : c < 512) (hr : zRr r) (hv : zV c I J y z0 z1) : kNext 107 i L c I J r := by
  obtain ⟨v, I1, J1, r1, I2, J2, r2, y2, x0, x1, a, b, h1, h2⟩ := oLed (I 1 (i + 1)) (I 1 (i + 2)) L c r I J y z0 z1 hc hr hv
  have e1 : I1 1 = I 1 := (zCd_mem 60 _ _ _ _ a).2.2.2
  have e2 : I2 1 = I1 1 := (zCd_mem 60 _ _ _ _ b).2.2.2
  obtain ⟨w, hw⟩ := (zCd_ty (t := zt_X11_led) rfl a).1 rfl
  cases hw
  refine ⟨I2, J2, r2, y2, x0, x1, ?_, h1, h2, e2.trans e1⟩
  simp only [kb_107, kb_108, kb_109, kok1 hL hi, kok2 hL hi, kok3 hL hi, kok4 hL hi, kok5 hL hi, kok6 hL hi, kok7 hL hi, kx1 hL hi, kx2 hL hi, kx3 hL hi, kx4 hL hi, kx5 hL hi, kx6 hL hi, kx7 hL hi, zgd_t, kgi, a, zbI_s, zbL_s, e1, b, yLs, if_true]
theorem kOp34 (hL : L ≤ 4096) (hi : i + 8 ≤ L) (hc : c < 512) (hr : zRr r) (hv : zV c I J y z0 z1) : kNext 110 i L c I J r := by
  obtain ⟨v, I1, J1, r1, I2, J2, r2, y2, x0, x1, a, b, h1, h2⟩ := oLeads (I 1 (i + 1)) (I 1 (i + 2)) L c r I J y z0 z1 hc hr hv
  have e1 : I1 1 = I 1 := (zCd_mem 60 _ _ _ _ a).2.2.2
  have e2 : I2 1 = I1 1 := (zCd_mem 60 _ _ _ _ b).2.2.2
  obtain ⟨w, hw⟩ := (zCd_ty (t := zt_X11_leads) rfl a).1 rfl
  cases hw
  refine ⟨I2, J2, r2, y2, x0, x1, ?_, h1, h2, e2.trans e1⟩
  simp only [kb_110, kb_111, kb_112, kok1 hL hi, kok2 hL hi, kok3 hL hi, kok4 hL hi, kok5 hL hi, kok6 hL hi, kok7 hL hi, kx1 hL hi, kx2 hL hi, kx3 hL hi, kx4 hL hi, kx5 hL hi, kx6 hL hi, kx7 hL hi, zgd_t, kgi, a, zbI_s, zbL_s, e1, b, yLs, if_true]
theorem kOp35 (hL : L ≤ 4096) (hi : i + 8 ≤ L) (hc : c < 512) (hr : zRr r) (hv : zV c I J y z0 z1) : kNext 113 i L c I J r := by
  obtain ⟨v, I1, J1, r1, I2, J2, r2, y2, x0, x1, a, b, h1, h2⟩ := oQuiet L c r I J y z0 z1 hc hr hv
  have e1 : I1 1 = I 1 := (zCd_mem 60 _ _ _ _ a).2.2.2
  have e2 : I2 1 = I1 1 := (zCd_mem 60 _ _ _ _ b).2.2.2
  obtain ⟨w, hw⟩ := (zCd_ty (t := zt_X11_quiet) rfl a).1 rfl
  cases hw
  refine ⟨I2, J2, r2, y2, x0, x1, ?_, h1, h2, e2.trans e1⟩
  simp only [kb_113, kb_114, kb_115, kok1 hL hi, kok2 hL hi, kok3 hL hi, kok4 hL hi, kok5 hL hi, kok6 hL hi, kok7 hL hi, kx1 hL hi, kx2 hL hi, kx3 hL hi, kx4 hL hi, kx5 hL hi, kx6 hL hi, kx7 hL hi, zgd_t, kgi, a, zbI_s, zbL_s, e1, b, yLs, if_true]
theorem kOp36 (hL : L ≤ 4096) (hi : i + 8 ≤ L) (hc : c < 512) (hr : zRr r) (hv : zV c I J y z0 z1) : kNext 116 i L c I J r := by
  obtain ⟨v, I1, J1, r1, I2, J2, r2, y2, x0, x1, a, b, h1, h2⟩ := oGrow (I 1 (i + 1)) (I 1 (i + 2)) (I 1 (i + 3)) L c r I J y z0 z1 hc hr hv
  have e1 : I1 1 = I 1 := (zCd_mem 60 _ _ _ _ a).2.2.2
  have e2 : I2 1 = I1 1 := (zCd_mem 60 _ _ _ _ b).2.2.2
  obtain ⟨w, hw⟩ := (zCd_ty (t := zt_X11_grow) rfl a).1 rfl
  cases hw
  refine ⟨I2, J2, r2, y2, x0, x1, ?_, h1, h2, e2.trans e1⟩
  simp only [kb_116, kb_117, kb_118, kok1 hL hi, kok2 hL hi, kok3 hL hi, kok4 hL hi, kok5 hL hi, kok6 hL hi, kok7 hL hi, kx1 hL hi, kx2 hL hi, kx3 hL hi, kx4 hL hi, kx5 hL hi, kx6 hL hi, kx7 hL hi, zgd_t, kgi, a, zbI_s, zbL_s, e1, b, yLs, if_true]
theorem kOp37 (hL : L ≤ 4096) (hi : i + 8 ≤ L) (hc : c < 512) (hr : zRr r) (hv : zV c I J y z0 z1) : kNext 119 i L c I J r := by
  obtain ⟨v, I1, J1, r1, I2, J2, r2, y2, x0, x1, a, b, h1, h2⟩ := oGrowths (I 1 (i + 1)) L c r I J y z0 z1 hc hr hv
  have e1 : I1 1 = I 1 := (zCd_mem 60 _ _ _ _ a).2.2.2
  have e2 : I2 1 = I1 1 := (zCd_mem 60 _ _ _ _ b).2.2.2
  obtain ⟨w, hw⟩ := (zCd_ty (t := zt_X11_growths) rfl a).1 rfl
  cases hw
  refine ⟨I2, J2, r2, y2, x0, x1, ?_, h1, h2, e2.trans e1⟩
  simp only [kb_119, kb_120, kb_121, kok1 hL hi, kok2 hL hi, kok3 hL hi, kok4 hL hi, kok5 hL hi, kok6 hL hi, kok7 hL hi, kx1 hL hi, kx2 hL hi, kx3 hL hi, kx4 hL hi, kx5 hL hi, kx6 hL hi, kx7 hL hi, zgd_t, kgi, a, zbI_s, zbL_s, e1, b, yLs, if_true]
theorem kOp38 (hL : L ≤ 4096) (hi : i + 8 ≤ L) (hc : c < 512) (hr : zRr r) (hv : zV c I J y z0 z1) : kNext 122 i L c I J r := by
  by_cases q : I 1 (i + 2) = 0
  · have q9 := q
    obtain ⟨v, I1, J1, r1, I2, J2, r2, y2, x0, x1, a, b, h1, h2⟩ := oForetold (I 1 (i + 1)) 0 L c r I J y z0 z1 hc hr hv
    have e1 : I1 1 = I 1 := (zCd_mem 60 _ _ _ _ a).2.2.2
    have e2 : I2 1 = I1 1 := (zCd_mem 60 _ _ _ _ b).2.2.2
    obtain ⟨w, hw⟩ := (zCd_ty (t := zt_X11_foretold) rfl a).1 rfl
    cases hw
    refine ⟨I2, J2, r2, y2, x0, x1, ?_, h1, h2, e2.trans e1⟩
    simp only [kb_122, kb_123, kb_124, kb_125, kb_126, kb_127, kb_128, kok1 hL hi, kok2 hL hi, kok3 hL hi, kok4 hL hi, kok5 hL hi, kok6 hL hi, kok7 hL hi, kx1 hL hi, kx2 hL hi, kx3 hL hi, kx4 hL hi, kx5 hL hi, kx6 hL hi, kx7 hL hi, zgd_t, kgi, a, zbI_s, zbL_s, e1, b, yLs, if_true, q9]
  · have q9 := q
    obtain ⟨v, I1, J1, r1, I2, J2, r2, y2, x0, x1, a, b, h1, h2⟩ := oForetold (I 1 (i + 1)) 1 L c r I J y z0 z1 hc hr hv
    have e1 : I1 1 = I 1 := (zCd_mem 60 _ _ _ _ a).2.2.2
    have e2 : I2 1 = I1 1 := (zCd_mem 60 _ _ _ _ b).2.2.2
    obtain ⟨w, hw⟩ := (zCd_ty (t := zt_X11_foretold) rfl a).1 rfl
    cases hw
    refine ⟨I2, J2, r2, y2, x0, x1, ?_, h1, h2, e2.trans e1⟩
    simp only [kb_122, kb_123, kb_124, kb_125, kb_126, kb_127, kb_128, kok1 hL hi, kok2 hL hi, kok3 hL hi, kok4 hL hi, kok5 hL hi, kok6 hL hi, kok7 hL hi, kx1 hL hi, kx2 hL hi, kx3 hL hi, kx4 hL hi, kx5 hL hi, kx6 hL hi, kx7 hL hi, zgd_t, kgi, a, zbI_s, zbL_s, e1, b, yLs, if_true, q9, if_false]
theorem kOp39 (hL : L ≤ 4096) (hi : i + 8 ≤ L) (hc : c < 512) (hr : zRr r) (hv : zV c I J y z0 z1) : kNext 129 i L c I J r := by
  obtain ⟨v, I1, J1, r1, I2, J2, r2, y2, x0, x1, a, b, h1, h2⟩ := oOperator (I 1 (i + 1)) (I 1 (i + 2)) (I 1 (i + 3)) L c r I J y z0 z1 hc hr hv
  have e1 : I1 1 = I 1 := (zCd_mem 60 _ _ _ _ a).2.2.2
  have e2 : I2 1 = I1 1 := (zCd_mem 60 _ _ _ _ b).2.2.2
  obtain ⟨w, hw⟩ := (zCd_ty (t := zt_X11_operator) rfl a).1 rfl
  cases hw
  refine ⟨I2, J2, r2, y2, x0, x1, ?_, h1, h2, e2.trans e1⟩
  simp only [kb_129, kb_130, kb_131, kok1 hL hi, kok2 hL hi, kok3 hL hi, kok4 hL hi, kok5 hL hi, kok6 hL hi, kok7 hL hi, kx1 hL hi, kx2 hL hi, kx3 hL hi, kx4 hL hi, kx5 hL hi, kx6 hL hi, kx7 hL hi, zgd_t, kgi, a, zbI_s, zbL_s, e1, b, yLs, if_true]
theorem kOp40 (hL : L ≤ 4096) (hi : i + 8 ≤ L) (hc : c < 512) (hr : zRr r) (hv : zV c I J y z0 z1) : kNext 132 i L c I J r := by
  obtain ⟨v, I1, J1, r1, I2, J2, r2, y2, x0, x1, a, b, h1, h2⟩ := oCrew (I 1 (i + 1)) (I 1 (i + 2)) L c r I J y z0 z1 hc hr hv
  have e1 : I1 1 = I 1 := (zCd_mem 60 _ _ _ _ a).2.2.2
  have e2 : I2 1 = I1 1 := (zCd_mem 60 _ _ _ _ b).2.2.2
  obtain ⟨w, hw⟩ := (zCd_ty (t := zt_X11_crew) rfl a).1 rfl
  cases hw
  refine ⟨I2, J2, r2, y2, x0, x1, ?_, h1, h2, e2.trans e1⟩
  simp only [kb_132, kb_133, kb_134, kok1 hL hi, kok2 hL hi, kok3 hL hi, kok4 hL hi, kok5 hL hi, kok6 hL hi, kok7 hL hi, kx1 hL hi, kx2 hL hi, kx3 hL hi, kx4 hL hi, kx5 hL hi, kx6 hL hi, kx7 hL hi, zgd_t, kgi, a, zbI_s, zbL_s, e1, b, yLs, if_true]
theorem kOp41 (hL : L ≤ 4096) (hi : i + 8 ≤ L) (hc : c < 512) (hr : zRr r) (hv : zV c I J y z0 z1) : kNext 135 i L c I J r := by
  obtain ⟨v, I1, J1, r1, I2, J2, r2, y2, x0, x1, a, b, h1, h2⟩ := oBare L c r I J y z0 z1 hc hr hv
  have e1 : I1 1 = I 1 := (zCd_mem 60 _ _ _ _ a).2.2.2
  have e2 : I2 1 = I1 1 := (zCd_mem 60 _ _ _ _ b).2.2.2
  obtain ⟨w, hw⟩ := (zCd_ty (t := zt_X11_bare) rfl a).1 rfl
  cases hw
  refine ⟨I2, J2, r2, y2, x0, x1, ?_, h1, h2, e2.trans e1⟩
  simp only [kb_135, kb_136, kb_137, kok1 hL hi, kok2 hL hi, kok3 hL hi, kok4 hL hi, kok5 hL hi, kok6 hL hi, kok7 hL hi, kx1 hL hi, kx2 hL hi, kx3 hL hi, kx4 hL hi, kx5 hL hi, kx6 hL hi, kx7 hL hi, zgd_t, kgi, a, zbI_s, zbL_s, e1, b, yLs, if_true]
theorem kOp42 (hL : L ≤ 4096) (hi : i + 8 ≤ L) (hc : c < 512) (hr : zRr r) (hv : zV c I J y z0 z1) : kNext 138 i L c I J r := by
  obtain ⟨v, I1, J1, r1, I2, J2, r2, y2, x0, x1, a, b, h1, h2⟩ := oLift (I 1 (i + 1)) (I 1 (i + 2)) (I 1 (i + 3)) L c r I J y z0 z1 hc hr hv
  have e1 : I1 1 = I 1 := (zCd_mem 60 _ _ _ _ a).2.2.2
  have e2 : I2 1 = I1 1 := (zCd_mem 60 _ _ _ _ b).2.2.2
  obtain ⟨w, hw⟩ := (zCd_ty (t := zt_X11_lift) rfl a).1 rfl
  cases hw
  refine ⟨I2, J2, r2, y2, x0, x1, ?_, h1, h2, e2.trans e1⟩
  simp only [kb_138, kb_139, kb_140, kok1 hL hi, kok2 hL hi, kok3 hL hi, kok4 hL hi, kok5 hL hi, kok6 hL hi, kok7 hL hi, kx1 hL hi, kx2 hL hi, kx3 hL hi, kx4 hL hi, kx5 hL hi, kx6 hL hi, kx7 hL hi, zgd_t, kgi, a, zbI_s, zbL_s, e1, b, yLs, if_true]
theorem kOp43 (hL : L ≤ 4096) (hi : i + 8 ≤ L) (hc : c < 512) (hr : zRr r) (hv : zV c I J y z0 z1) : kNext 141 i L c I J r := by
  obtain ⟨v, I1, J1, r1, I2, J2, r2, y2, x0, x1, a, b, h1, h2⟩ := oSlips (I 1 (i + 1)) (I 1 (i + 2)) L c r I J y z0 z1 hc hr hv
  have e1 : I1 1 = I 1 := (zCd_mem 60 _ _ _ _ a).2.2.2
  have e2 : I2 1 = I1 1 := (zCd_mem 60 _ _ _ _ b).2.2.2
  obtain ⟨w, hw⟩ := (zCd_ty (t := zt_X11_slips) rfl a).1 rfl
  cases hw
  refine ⟨I2, J2, r2, y2, x0, x1, ?_, h1, h2, e2.trans e1⟩
  simp only [kb_141, kb_142, kb_143, kok1 hL hi, kok2 hL hi, kok3 hL hi, kok4 hL hi, kok5 hL hi, kok6 hL hi, kok7 hL hi, kx1 hL hi, kx2 hL hi, kx3 hL hi, kx4 hL hi, kx5 hL hi, kx6 hL hi, kx7 hL hi, zgd_t, kgi, a, zbI_s, zbL_s, e1, b, yLs, if_true]
theorem kOp44 (hL : L ≤ 4096) (hi : i + 8 ≤ L) (hc : c < 512) (hr : zRr r) (hv : zV c I J y z0 z1) : kNext 144 i L c I J r := by
  obtain ⟨v, I1, J1, r1, I2, J2, r2, y2, x0, x1, a, b, h1, h2⟩ := oStretched (I 1 (i + 1)) (I 1 (i + 2)) L c r I J y z0 z1 hc hr hv
  have e1 : I1 1 = I 1 := (zCd_mem 60 _ _ _ _ a).2.2.2
  have e2 : I2 1 = I1 1 := (zCd_mem 60 _ _ _ _ b).2.2.2
  obtain ⟨w, hw⟩ := (zCd_ty (t := zt_X11_stretched) rfl a).1 rfl
  cases hw
  refine ⟨I2, J2, r2, y2, x0, x1, ?_, h1, h2, e2.trans e1⟩
  simp only [kb_144, kb_145, kb_146, kok1 hL hi, kok2 hL hi, kok3 hL hi, kok4 hL hi, kok5 hL hi, kok6 hL hi, kok7 hL hi, kx1 hL hi, kx2 hL hi, kx3 hL hi, kx4 hL hi, kx5 hL hi, kx6 hL hi, kx7 hL hi, zgd_t, kgi, a, zbI_s, zbL_s, e1, b, yLs, if_true]
theorem kOp45 (hL : L ≤ 4096) (hi : i + 8 ≤ L) (hc : c < 512) (hr : zRr r) (hv : zV c I J y z0 z1) : kNext 147 i L c I J r := by
  obtain ⟨v, I1, J1, r1, I2, J2, r2, y2, x0, x1, a, b, h1, h2⟩ := oRiders (I 1 (i + 1)) (I 1 (i + 2)) (I 1 (i + 3)) (I 1 (i + 4)) (I 1 (i + 5)) L c r I J y z0 z1 hc hr hv
  have e1 : I1 1 = I 1 := (zCd_mem 60 _ _ _ _ a).2.2.2
  have e2 : I2 1 = I1 1 := (zCd_mem 60 _ _ _ _ b).2.2.2
  obtain ⟨w, hw⟩ := (zCd_ty (t := zt_X11_riders) rfl a).1 rfl
  cases hw
  refine ⟨I2, J2, r2, y2, x0, x1, ?_, h1, h2, e2.trans e1⟩
  simp only [kb_147, kb_148, kb_149, kok1 hL hi, kok2 hL hi, kok3 hL hi, kok4 hL hi, kok5 hL hi, kok6 hL hi, kok7 hL hi, kx1 hL hi, kx2 hL hi, kx3 hL hi, kx4 hL hi, kx5 hL hi, kx6 hL hi, kx7 hL hi, zgd_t, kgi, a, zbI_s, zbL_s, e1, b, yLs, if_true]
theorem kOp46 (hL : L ≤ 4096) (hi : i + 8 ≤ L) (hc : c < 512) (hr : zRr r) (hv : zV c I J y z0 z1) : kNext 150 i L c I J r := by
  obtain ⟨v, I1, J1, r1, I2, J2, r2, y2, x0, x1, a, b, h1, h2⟩ := oStore (I 1 (i + 1)) (I 1 (i + 2)) (I 1 (i + 3)) L c r I J y z0 z1 hc hr hv
  have e1 : I1 1 = I 1 := (zCd_mem 60 _ _ _ _ a).2.2.2
  have e2 : I2 1 = I1 1 := (zCd_mem 60 _ _ _ _ b).2.2.2
  obtain ⟨w, hw⟩ := (zCd_ty (t := zt_X11_store) rfl a).1 rfl
  cases hw
  refine ⟨I2, J2, r2, y2, x0, x1, ?_, h1, h2, e2.trans e1⟩
  simp only [kb_150, kb_151, kb_152, kok1 hL hi, kok2 hL hi, kok3 hL hi, kok4 hL hi, kok5 hL hi, kok6 hL hi, kok7 hL hi, kx1 hL hi, kx2 hL hi, kx3 hL hi, kx4 hL hi, kx5 hL hi, kx6 hL hi, kx7 hL hi, zgd_t, kgi, a, zbI_s, zbL_s, e1, b, yLs, if_true]
theorem kOp47 (hL : L ≤ 4096) (hi : i + 8 ≤ L) (hc : c < 512) (hr : zRr r) (hv : zV c I J y z0 z1) : kNext 153 i L c I J r := by
  obtain ⟨v, I1, J1, r1, I2, J2, r2, y2, x0, x1, a, b, h1, h2⟩ := oWrite (I 1 (i + 1)) (I 1 (i + 2)) (((I 1 (i + 3)).toInt64 <<< ((32 : Int32).toInt64 &&& 63)) ||| ((I 1 (i + 4)).toInt64 &&& (4294967295 : Int64))) L c r I J y z0 z1 hc hr hv
  have e1 : I1 1 = I 1 := (zCd_mem 60 _ _ _ _ a).2.2.2
  have e2 : I2 1 = I1 1 := (zCd_mem 60 _ _ _ _ b).2.2.2
  obtain ⟨w, hw⟩ := (zCd_ty (t := zt_X11_write) rfl a).2 rfl
  cases hw
  refine ⟨I2, J2, r2, y2, x0, x1, ?_, h1, h2, e2.trans e1⟩
  simp only [kb_153, kb_154, kb_155, kok1 hL hi, kok2 hL hi, kok3 hL hi, kok4 hL hi, kok5 hL hi, kok6 hL hi, kok7 hL hi, kx1 hL hi, kx2 hL hi, kx3 hL hi, kx4 hL hi, kx5 hL hi, kx6 hL hi, kx7 hL hi, zgd_t, kgi, a, zbI_s, zbL_s, e1, b, yLs, if_true]
theorem kOp48 (hL : L ≤ 4096) (hi : i + 8 ≤ L) (hc : c < 512) (hr : zRr r) (hv : zV c I J y z0 z1) : kNext 156 i L c I J r := by
  obtain ⟨v, I1, J1, r1, I2, J2, r2, y2, x0, x1, a, b, h1, h2⟩ := oStorm (I 1 (i + 1)) (I 1 (i + 2)) L c r I J y z0 z1 hc hr hv
  have e1 : I1 1 = I 1 := (zCd_mem 60 _ _ _ _ a).2.2.2
  have e2 : I2 1 = I1 1 := (zCd_mem 60 _ _ _ _ b).2.2.2
  obtain ⟨w, hw⟩ := (zCd_ty (t := zt_X11_storm) rfl a).1 rfl
  cases hw
  refine ⟨I2, J2, r2, y2, x0, x1, ?_, h1, h2, e2.trans e1⟩
  simp only [kb_156, kb_157, kb_158, kok1 hL hi, kok2 hL hi, kok3 hL hi, kok4 hL hi, kok5 hL hi, kok6 hL hi, kok7 hL hi, kx1 hL hi, kx2 hL hi, kx3 hL hi, kx4 hL hi, kx5 hL hi, kx6 hL hi, kx7 hL hi, zgd_t, kgi, a, zbI_s, zbL_s, e1, b, yLs, if_true]
theorem kOp49 (hL : L ≤ 4096) (hi : i + 8 ≤ L) (hc : c < 512) (hr : zRr r) (hv : zV c I J y z0 z1) : kNext 159 i L c I J r := by
  obtain ⟨v, I1, J1, r1, I2, J2, r2, y2, x0, x1, a, b, h1, h2⟩ := oKeep (I 1 (i + 1)) (I 1 (i + 2)) L c r I J y z0 z1 hc hr hv
  have e1 : I1 1 = I 1 := (zCd_mem 60 _ _ _ _ a).2.2.2
  have e2 : I2 1 = I1 1 := (zCd_mem 60 _ _ _ _ b).2.2.2
  obtain ⟨w, hw⟩ := (zCd_ty (t := zt_X11_keep) rfl a).1 rfl
  cases hw
  refine ⟨I2, J2, r2, y2, x0, x1, ?_, h1, h2, e2.trans e1⟩
  simp only [kb_159, kb_160, kb_161, kok1 hL hi, kok2 hL hi, kok3 hL hi, kok4 hL hi, kok5 hL hi, kok6 hL hi, kok7 hL hi, kx1 hL hi, kx2 hL hi, kx3 hL hi, kx4 hL hi, kx5 hL hi, kx6 hL hi, kx7 hL hi, zgd_t, kgi, a, zbI_s, zbL_s, e1, b, yLs, if_true]
theorem kOp50 (hL : L ≤ 4096) (hi : i + 8 ≤ L) (hc : c < 512) (hr : zRr r) (hv : zV c I J y z0 z1) : kNext 162 i L c I J r := by
  obtain ⟨v, I1, J1, r1, I2, J2, r2, y2, x0, x1, a, b, h1, h2⟩ := oImage (I 1 (i + 1)) L c r I J y z0 z1 hc hr hv
  have e1 : I1 1 = I 1 := (zCd_mem 60 _ _ _ _ a).2.2.2
  have e2 : I2 1 = I1 1 := (zCd_mem 60 _ _ _ _ b).2.2.2
  obtain ⟨w, hw⟩ := (zCd_ty (t := zt_X11_image) rfl a).1 rfl
  cases hw
  refine ⟨I2, J2, r2, y2, x0, x1, ?_, h1, h2, e2.trans e1⟩
  simp only [kb_162, kb_163, kb_164, kok1 hL hi, kok2 hL hi, kok3 hL hi, kok4 hL hi, kok5 hL hi, kok6 hL hi, kok7 hL hi, kx1 hL hi, kx2 hL hi, kx3 hL hi, kx4 hL hi, kx5 hL hi, kx6 hL hi, kx7 hL hi, zgd_t, kgi, a, zbI_s, zbL_s, e1, b, yLs, if_true]
theorem kOp51 (hL : L ≤ 4096) (hi : i + 8 ≤ L) (hc : c < 512) (hr : zRr r) (hv : zV c I J y z0 z1) : kNext 165 i L c I J r := by
  obtain ⟨v, I1, J1, r1, I2, J2, r2, y2, x0, x1, a, b, h1, h2⟩ := oRestore (I 1 (i + 1)) L c r I J y z0 z1 hc hr hv
  have e1 : I1 1 = I 1 := (zCd_mem 60 _ _ _ _ a).2.2.2
  have e2 : I2 1 = I1 1 := (zCd_mem 60 _ _ _ _ b).2.2.2
  obtain ⟨w, hw⟩ := (zCd_ty (t := zt_X11_restore) rfl a).1 rfl
  cases hw
  refine ⟨I2, J2, r2, y2, x0, x1, ?_, h1, h2, e2.trans e1⟩
  simp only [kb_165, kb_166, kb_167, kok1 hL hi, kok2 hL hi, kok3 hL hi, kok4 hL hi, kok5 hL hi, kok6 hL hi, kok7 hL hi, kx1 hL hi, kx2 hL hi, kx3 hL hi, kx4 hL hi, kx5 hL hi, kx6 hL hi, kx7 hL hi, zgd_t, kgi, a, zbI_s, zbL_s, e1, b, yLs, if_true]
theorem kOp52 (hL : L ≤ 4096) (hi : i + 8 ≤ L) (hc : c < 512) (hr : zRr r) (hv : zV c I J y z0 z1) : kNext 168 i L c I J r := by
  obtain ⟨v, I1, J1, r1, I2, J2, r2, y2, x0, x1, a, b, h1, h2⟩ := oCount (I 1 (i + 1)) L c r I J y z0 z1 hc hr hv
  have e1 : I1 1 = I 1 := (zCd_mem 60 _ _ _ _ a).2.2.2
  have e2 : I2 1 = I1 1 := (zCd_mem 60 _ _ _ _ b).2.2.2
  obtain ⟨w, hw⟩ := (zCd_ty (t := zt_X11_count) rfl a).1 rfl
  cases hw
  refine ⟨I2, J2, r2, y2, x0, x1, ?_, h1, h2, e2.trans e1⟩
  simp only [kb_168, kb_169, kb_170, kok1 hL hi, kok2 hL hi, kok3 hL hi, kok4 hL hi, kok5 hL hi, kok6 hL hi, kok7 hL hi, kx1 hL hi, kx2 hL hi, kx3 hL hi, kx4 hL hi, kx5 hL hi, kx6 hL hi, kx7 hL hi, zgd_t, kgi, a, zbI_s, zbL_s, e1, b, yLs, if_true]
end
