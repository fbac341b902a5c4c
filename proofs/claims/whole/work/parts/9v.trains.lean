/-! TRAINS: the question -/
def yTsr (b : yTb) (h q : Int) (k : Nat) : Bool := decide (h ≤ b.2 k 1 ∧ q < b.2 k 0)
theorem yTsr_i {b : yTb} {h q : Int} {k : Nat} : yTsr b h q k = true ↔ h ≤ b.2 k 1 ∧ q < b.2 k 0 := by
  unfold yTsr
  rw [decide_eq_true_iff]
def yTrV (b : yTb) (q h x : Int) : Int32 := if zFs (yTsr b h q) b.1 < b.1 then -1 else if x = -1 then zi (yF (fun c => ySm b 0 c b.1) q (yRd b h b.1)) else if 0 ≤ x ∧ x < yF (fun c => ySm b 0 c b.1) q (yRd b h b.1) then zi ((yTk (fun c => ySm b 0 c b.1) q (yRd b h b.1) x.toNat : Nat) : Int) else -1
theorem yFit_r {b : yTb} {h q : Int} (hz : ¬ zFs (yTsr b h q) b.1 < b.1) : yFit b q (yRd b h b.1) := by
  have r := yRd_b (b := b) (h := h) b.1
  refine ⟨r.1, fun k hk ht => ?_⟩
  have h1 := zFs_n (stop := yTsr b h q) (n := b.1) (j := k) (by omega)
  have h2 := ((r.2 k).mp ht).2
  by_cases w : q < b.2 k 0
  · rw [yTsr_i.mpr ⟨h2, w⟩] at h1
    cases h1
  · omega
theorem yW4 {n m c : Nat} {b : yTb} (hw : wTb n m c 4 b) : b.1 ≤ 10 ∧ (∀ k, k < b.1 → 1 ≤ b.2 k 0 ∧ b.2 k 0 ≤ 8) ∧ ∀ k, k < b.1 → 50 ≤ b.2 k 1 ∧ b.2 k 1 ≤ 220 :=
  ⟨hw.1, fun k hk => hw.2 k 0 hk (by decide), fun k hk => hw.2 k 1 hk (by decide)⟩
section
variable {d L r : Nat} {I : Nat → Nat → Int32} {J : Nat → Nat → Int64}
variable {b : yTb} {q h x : Int}
theorem cTrains (hd : 4 ≤ d) (bq : 1 ≤ q ∧ q ≤ 40) (bh : 50 ≤ h ∧ h ≤ 220) (bx : -2147483648 ≤ x ∧ x < 2147483648) (hb : cTb 47 4 I b) {n m c : Nat} (hw : wTb n m c 4 b) : ∃ I', zX 0 (zCd zT d) zc_X11_trains 4 [some (.ref 16), some (.int (zi q)), some (.int (zi h)), some (.int (zi x)), none, none] [] (zm L I J r) = some (some (.int (yTrV b q h x)), (zm L I' J r)) ∧ ∀ o, o ≠ 126 → o ≠ 127 → I' o = I o := by
  have w4 := yW4 hw
  have hsz : zCd zT d 64 [.ref 47] (zm L I J r) = some (some (.int (zi (b.1 : Int))), (zm L I J r)) := cTSize (b := b) (by omega) (by decide) hb
  have loop := zForT (n := b.1) (stop := yTsr b h q) (G := fun k => zX 0 (zCd zT d) zc_X11_trains 5 [some (.ref 16), some (.int (zi q)), some (.int (zi h)), some (.int (zi x)), some (.int (zi ((yRd b h k : Nat) : Int))), some (.int (zi ((k : Nat) : Int)))] [] (zm L I J r)) (E := fun _ => some (some (.int (-1)), (zm L I J r))) (fun k hk => by
    try dsimp only
    have k1 : zi ((k : Nat) : Int) + (1 : Int32) = zi ((k + 1 : Nat) : Int) := zi_add _ 1
    have rb := (yRd_b (b := b) (h := h) k).1
    have p1 : 2 ^ k ≤ 2 ^ 10 := Nat.pow_le_pow_right (by decide) (by omega)
    have w0 := w4.2.1 k hk
    have w1 := w4.2.2 k hk
    have g1 : zCd zT d 68 [.ref 47, .int (zi ((k : Nat) : Int)), .int 1] (zm L I J r) = _ := cGetO (L := L) (J := J) (r := r) (q := 4) (k := ((k : Nat) : Int)) (f := 1) (by omega) rfl (by decide) hb w4.1 (by omega) (by decide)
    have g0 : zCd zT d 68 [.ref 47, .int (zi ((k : Nat) : Int)), .int 0] (zm L I J r) = _ := cGetO (L := L) (J := J) (r := r) (q := 4) (k := ((k : Nat) : Int)) (f := 0) (by omega) rfl (by decide) hb w4.1 (by omega) (by decide)
    have d1 : zi (b.2 k 1) < zi h ↔ b.2 k 1 < h := zi_lt (by omega) (by omega)
    have d0 : zi (b.2 k 0) ≤ zi q ↔ b.2 k 0 ≤ q := zi_le (by omega) (by omega)
    rw [eX11_trains_5, hsz, zbI_s, eX11_trains_6, if_neg (show ¬ zi (b.1 : Int) ≤ zi ((k : Nat) : Int) by rw [zi_le (by omega) (by omega)]; omega), g1, zbI_s, Int.toNat_natCast, show (1 : Int).toNat = 1 from rfl, eX11_trains_7, yRd]
    by_cases q1 : h ≤ b.2 k 1
    · rw [if_neg (fun w => by have := d1.mp w; omega), g0, zbI_s, Int.toNat_natCast, show (0 : Int).toNat = 0 from rfl, eX11_trains_8, if_pos q1]
      by_cases q2 : q < b.2 k 0
      · rw [if_neg (fun w => by have := d0.mp w; omega), if_pos (yTsr_i.mpr ⟨q1, q2⟩)]
      · rw [if_pos (d0.mpr (by omega)), eX11_trains_9, yShl (by omega), yOr (by omega) (by omega), eX11_trains_10, k1, if_neg (fun w => q2 (yTsr_i.mp w).2)]
    · rw [if_pos (d1.mpr (by omega)), eX11_trains_10, k1, if_neg q1, if_neg (fun w => q1 (yTsr_i.mp w).1)])
  have z0 : zX 0 (zCd zT d) zc_X11_trains 5 [some (.ref 16), some (.int (zi q)), some (.int (zi h)), some (.int (zi x)), some (.int 0), some (.int 0)] [] (zm L I J r) = _ := loop
  unfold yTrV
  rw [eX11_trains_4, z0]
  by_cases hz : zFs (yTsr b h q) b.1 < b.1
  · rw [if_pos hz, if_pos hz]
    exact ⟨I, rfl, fun _ _ _ => rfl⟩
  · have hf := yFit_r hz
    obtain ⟨I', c1, c2, c3⟩ := cPack (d := d) (L := L) (J := J) (r := r) (by omega) bq hb w4.1 w4.2.1 hf
    have hR : yRd b h b.1 < 1024 := by
      have : 2 ^ b.1 ≤ 2 ^ 10 := Nat.pow_le_pow_right (by decide) w4.1
      have := hf.1
      omega
    have fb := (yF_f w4.1 _ _ (Nat.le_refl _) hf).1
    have fp : yPc (yRd b h b.1) 10 ≤ 10 := yPc_le 10
    have fz := (yF_b (W := fun c => ySm b 0 c b.1) (q := q) _ (yRd b h b.1) (Nat.le_refl _)).1
    have hfw : zCd zT d 15 [.ref 125, .int (zi ((yRd b h b.1 : Nat) : Int))] (zm L I' J r) = some (some (.int (zi (yF (fun c => ySm b 0 c b.1) q (yRd b h b.1)))), (zm L I' J r)) := by
      rw [sX2_fewest (by omega), if_neg (show ¬ zi ((yRd b h b.1 : Nat) : Int) < (0 : Int32) by rw [show (0 : Int32) = zi 0 from rfl, zi_lt (by omega) (by decide)]; omega), if_pos (show zi ((yRd b h b.1 : Nat) : Int) < (1024 : Int32) by rw [show (1024 : Int32) = zi 1024 from rfl, zi_lt (by omega) (by decide)]; omega), zin_t (by omega) (by omega), zgd_t, zi_cl (by omega), Int.toNat_natCast, (c3 _ (Nat.le_refl _) (Nat.and_self _)).2]
    refine ⟨I', ?_, c2⟩
    rw [if_neg hz, if_neg hz, eX11_trains_5, hsz, zbI_s, eX11_trains_6, if_pos (Int32.le_refl _), eX11_trains_11, c1, zbV_s, eX11_trains_12]
    have d1 : zi x = (-1 : Int32) ↔ x = -1 := zi_m1 bx
    by_cases q1 : x = -1
    · rw [if_pos (d1.mpr q1), if_pos q1, hfw, zbI_s, eX11_trains_13, eX11_trains_15]
    · rw [if_neg (fun w => q1 (d1.mp w)), if_neg q1, eX11_trains_14]
      by_cases q2 : 0 ≤ x ∧ x < yF (fun c => ySm b 0 c b.1) q (yRd b h b.1)
      · obtain ⟨i, rfl⟩ : ∃ k : Nat, x = k := ⟨x.toNat, by omega⟩
        rw [if_pos q2, cTrainAt (by omega) bq w4.1 w4.2.1 hf c3 q2.2, zbI_s, eX11_trains_15, Int.toNat_natCast]
      · obtain ⟨e, rfl⟩ : ∃ e, d = e + 1 := ⟨d - 1, by omega⟩
        have hfw' : zCd zT e 15 [.ref 125, .int (zi ((yRd b h b.1 : Nat) : Int))] (zm L I' J r) = some (some (.int (zi (yF (fun c => ySm b 0 c b.1) q (yRd b h b.1)))), (zm L I' J r)) := by
          rw [sX2_fewest (by omega), if_neg (show ¬ zi ((yRd b h b.1 : Nat) : Int) < (0 : Int32) by rw [show (0 : Int32) = zi 0 from rfl, zi_lt (by omega) (by decide)]; omega), if_pos (show zi ((yRd b h b.1 : Nat) : Int) < (1024 : Int32) by rw [show (1024 : Int32) = zi 1024 from rfl, zi_lt (by omega) (by decide)]; omega), zin_t (by omega) (by omega), zgd_t, zi_cl (by omega), Int.toNat_natCast, (c3 _ (Nat.le_refl _) (Nat.and_self _)).2]
        rw [if_neg q2, qX2_trainAt, eX2_trainAt_0]
        by_cases q3 : x < 0
        · rw [if_pos (show zi x < (0 : Int32) by rw [show (0 : Int32) = zi 0 from rfl, zi_lt (by omega) (by decide)]; exact q3), eX2_trainAt_2, zbI_s, eX11_trains_15]
        · rw [if_neg (show ¬ zi x < (0 : Int32) by rw [show (0 : Int32) = zi 0 from rfl, zi_lt (by omega) (by decide)]; exact q3), hfw', zbI_s, eX2_trainAt_1, if_neg (show ¬ zi x < zi (yF (fun c => ySm b 0 c b.1) q (yRd b h b.1)) by rw [zi_lt (by omega) (by omega)]; omega), eX2_trainAt_2, zbI_s, eX11_trains_15]
theorem mTrains (hd : 1 ≤ d) (bq : 1 ≤ q ∧ q ≤ 40) (bh : 50 ≤ h ∧ h ≤ 220) (bx : -2147483648 ≤ x ∧ x < 2147483648) (hb : mTb 4 (I 131) b) {n m c : Nat} (hw : wTb n m c 4 b) : ∃ I', zX 0 (zCd zT d) zc_X12_trains 4 [some (.ref 130), some (.int (zi q)), some (.int (zi h)), some (.int (zi x)), none, none, none, none] [] (zm L I J r) = some (some (.int (yTrV b q h x)), (zm L I' J r)) ∧ ∀ o, o ≠ 143 → o ≠ 144 → I' o = I o := by
  have w4 := yW4 hw
  have rd := yRd_b (b := b) (h := h) b.1
  have hp : 2 ^ b.1 ≤ 2 ^ 10 := Nat.pow_le_pow_right (by decide) w4.1
  have ri := mRiders (d := d) (L := L) (J := J) (r := r) (q := q) (x := x) hb w4.1 w4.2.2 bh
  obtain ⟨I', c1, c2, c3⟩ := mPack (d := d) (L := L) (J := J) (r := r) (h := h) (x := x) hd bq hb w4.1 w4.2.1 (l4 := zi ((yRd b h b.1 : Nat) : Int)) (l5 := zi ((b.1 : Nat) : Int))
  refine ⟨I', ?_, c2⟩
  have cRr := c3 _ rd.1
  have fz := yF_b (W := fun c => ySm b 0 c b.1) (q := q) _ (yRd b h b.1) (Nat.le_refl _)
  have d0 : zi (yF (fun c => ySm b 0 c b.1) q (yRd b h b.1)) < (1000 : Int32) ↔ yF (fun c => ySm b 0 c b.1) q (yRd b h b.1) < 1000 := zi_lt (y := 1000) (by omega) (by decide)
  unfold yTrV
  rw [ri, c1, eX12_trains_18, zin_t (by omega) (by omega), zgd_t, zi_cl (by omega), Int.toNat_natCast, cRr.2]
  by_cases hz : zFs (yTsr b h q) b.1 < b.1
  · have st := yTsr_i.mp (zFs_s hz)
    have := yF_u (b := b) (q := q) w4.1 (fun k hk => by have := w4.2.1 k hk; omega) hz st.2 _ (yRd b h b.1) (Nat.le_refl _) ((rd.2 _).mpr ⟨hz, st.1⟩)
    rw [if_pos hz, if_neg (fun w => by have := d0.mp w; omega)]
  · have hf := yFit_r hz
    have fb := (yF_f w4.1 _ _ (Nat.le_refl _) hf).1
    have fp : yPc (yRd b h b.1) 10 ≤ 10 := yPc_le 10
    have d1 : zi x = (-1 : Int32) ↔ x = -1 := zi_m1 bx
    rw [if_neg hz, if_pos (d0.mpr (by omega)), eX12_trains_19]
    by_cases q1 : x = -1
    · rw [if_pos (d1.mpr q1), if_pos q1, zin_t (by omega) (by omega), zgd_t, zi_cl (by omega), Int.toNat_natCast, cRr.2]
    · rw [if_neg (fun w => q1 (d1.mp w)), if_neg q1, eX12_trains_20]
      have loop := zForT (n := (yF (fun c => ySm b 0 c b.1) q (yRd b h b.1)).toNat) (stop := fun k => decide ((k : Int) = x)) (G := fun k => zX 0 (zCd zT d) zc_X12_trains 21 [some (.ref 130), some (.int (zi q)), some (.int (zi h)), some (.int (zi x)), some (.int (zi ((yRd b h b.1 : Nat) : Int))), some (.int (zi ((yLk (fun c => ySm b 0 c b.1) q (yRd b h b.1) k : Nat) : Int))), some (.int (zi ((k : Nat) : Int))), none] [] (zm L I' J r)) (E := fun k => some (some (.int (zi ((yTk (fun c => ySm b 0 c b.1) q (yRd b h b.1) k : Nat) : Int))), (zm L I' J r))) (fun k hk => by
        try dsimp only
        have k1 : zi ((k : Nat) : Int) + (1 : Int32) = zi ((k + 1 : Nat) : Int) := zi_add _ 1
        have h1 := yLk_p w4.1 hf k (by omega)
        have h2 := yXd h1.1
        have hf1 := yFit_x hf h1.1
        have h0 : yLk (fun c => ySm b 0 c b.1) q (yRd b h b.1) k ≠ 0 := fun w => by
          have := (yF_z w4.1 hf1).mpr w
          omega
        obtain ⟨p, e1, e2, e3, _⟩ := yBest w4.1 hf1 h0
        have pn := yCd_n e3
        have et : yTk (fun c => ySm b 0 c b.1) q (yRd b h b.1) k = p := by
          unfold yTk
          rw [e1, Int.toNat_natCast]
        have ex : yLk (fun c => ySm b 0 c b.1) q (yRd b h b.1) (k + 1) = yLk (fun c => ySm b 0 c b.1) q (yRd b h b.1) k ^^^ p := by
          rw [yLk, e1, Int.toNat_natCast]
        have mf := mFirst (d := d) (L := L) (J := J) (r := r) (I := I') (W := fun c => ySm b 0 c b.1) (f := yF (fun c => ySm b 0 c b.1) q) (q := q) (s := yLk (fun c => ySm b 0 c b.1) q (yRd b h b.1) k) hd bq (by omega) (fun t ht => by
          have h2 := ySm_r w4.1 w4.2.1 t
          exact ⟨(c3 t (by omega)).1, h2.1, by show ySm b 0 t b.1 ≤ 1000; omega⟩) (fun t ht => by
          have h2 := yF_b (W := fun c => ySm b 0 c b.1) (q := q) t t (Nat.le_refl t)
          exact ⟨(c3 t (by omega)).2, h2.1, by omega⟩)
        rw [eX12_trains_21, if_neg (show ¬ zi ((yLk (fun c => ySm b 0 c b.1) q (yRd b h b.1) k : Nat) : Int) = (0 : Int32) by rw [show (0 : Int32) = zi 0 from rfl, zi_eq (by omega) (by decide)]; omega), mf, zbI_s, e1, eX12_trains_22, et]
        by_cases q2 : (k : Int) = x
        · rw [if_pos (show zi (k : Int) = zi x by rw [q2]), if_pos (decide_eq_true q2)]
        · rw [if_neg (show ¬ zi (k : Int) = zi x by rw [zi_eq (by omega) bx]; exact q2), if_neg (fun w => q2 (of_decide_eq_true w)), eX12_trains_23, yXor (by omega) (by omega), k1, ex])
      have z0 : zX 0 (zCd zT d) zc_X12_trains 21 [some (.ref 130), some (.int (zi q)), some (.int (zi h)), some (.int (zi x)), some (.int (zi ((yRd b h b.1 : Nat) : Int))), some (.int (zi ((yRd b h b.1 : Nat) : Int))), some (.int 0), none] [] (zm L I' J r) = _ := loop
      rw [z0]
      by_cases q2 : 0 ≤ x ∧ x < yF (fun c => ySm b 0 c b.1) q (yRd b h b.1)
      · have fs := zFs_u (stop := fun k : Nat => decide ((k : Int) = x)) (n := (yF (fun c => ySm b 0 c b.1) q (yRd b h b.1)).toNat) (k := x.toNat) (by omega) (fun j hj => decide_eq_false (by omega)) (fun _ => decide_eq_true (by omega))
        rw [fs, if_pos (by omega), if_pos q2]
      · have fs := zFs_u (stop := fun k : Nat => decide ((k : Int) = x)) (n := (yF (fun c => ySm b 0 c b.1) q (yRd b h b.1)).toNat) (k := (yF (fun c => ySm b 0 c b.1) q (yRd b h b.1)).toNat) (Nat.le_refl _) (fun j hj => decide_eq_false (by omega)) (fun w => absurd w (Nat.lt_irrefl _))
        have hl := yLk_p w4.1 hf (yF (fun c => ySm b 0 c b.1) q (yRd b h b.1)).toNat (by omega)
        have hz0 := (yF_z w4.1 (yFit_x hf hl.1)).mp (by omega)
        rw [fs, if_neg (Nat.lt_irrefl _), if_neg q2, eX12_trains_21, hz0, if_pos (show zi ((0 : Nat) : Int) = (0 : Int32) from rfl), eX12_trains_24]
end
theorem oTrains (a h x : Int32) : zOk 183 334 [.int a, .int h, .int x] := by
  obtain ⟨a, rfl, ba⟩ := zi_of a
  obtain ⟨h, rfl, bh⟩ := zi_of h
  obtain ⟨x, rfl, bx⟩ := zi_of x
  refine zOk_q fun L c r I J y z0 z1 hc hr hv => ⟨.int (if zbo a 1 40 = true ∨ zbo h 50 220 = true then zi (-3) else yTrV (y.2.2.1 4) a h x), ?_, fun I1 J1 r1 hk hr1 hv1 => ?_⟩
  · have k1 : zCd zT 59 228 [.int (zi a)] (zm L I J r) = some (some (.int (zb1 (zbo a 1 40))), (zm L I J r)) := cBadS (by decide) ba
    have k2 : zCd zT 59 233 [.int (zi h)] (zm L I J r) = some (some (.int (zb1 (zbo h 50 220))), (zm L I J r)) := by
      simp (disch := omega) only [qX11_badHeight, eX11_badHeight_0, eX11_badHeight_1, cOut, zbI_s, zbL_s, zbV_s, zgd_t, zb1_t, zb1_f, zb1_01, zz_0, zz_1, zi_lit, zi_add, zi_sub, zi_mul, zi_neg]
    rw [qX11_trains, eX11_trains_0, k1, zbI_s, eX11_trains_1]
    cases h1 : zbo a 1 40
    · rw [if_pos (show zb1 false = 0 from rfl), k2, zbI_s, eX11_trains_2]
      cases h2 : zbo h 50 220
      · have hb : cTb 47 4 I (y.2.2.1 4) := hv.1.2.2.1 4 (by decide)
        obtain ⟨I', c1, c2⟩ := cTrains (d := 59) (L := L) (J := J) (r := r) (by decide) (zbo_f h1) (zbo_f h2) bx hb (hv.2.2.1.2.2.1 4 (by decide))
        rw [if_pos (show zb1 false = 0 from rfl), if_neg (by decide)]
        refine ⟨I', J, r, c1, ⟨fun o k hp => ?_, fun _ _ => rfl⟩, ?_, hr⟩
        · rw [c2 o (fun w => by rw [w] at hp; cases hp) (fun w => by rw [w] at hp; cases hp)]
        · unfold zCa
          rw [c2 120 (by decide) (by decide)]
          exact hv.2.2.2.2.2.2.2.2.2
      · rw [if_neg (show ¬ zb1 true = 0 by decide), eX11_trains_3, if_pos (Or.inr rfl)]
        exact ⟨I, J, r, rfl, zKp_rf, hv.2.2.2.2.2.2.2.2.2, hr⟩
    · rw [if_neg (show ¬ zb1 true = 0 by decide), eX11_trains_3, if_pos (Or.inl rfl)]
      exact ⟨I, J, r, rfl, zKp_rf, hv.2.2.2.2.2.2.2.2.2, hr⟩
  · have hmt : mTb 4 (zu I1 130 0 (zi 0) 131) (y.2.2.1 4) := mTb_sm zSm_0 (zV_mt hv1 (q := 4) (by decide))
    have q0 : zu I1 130 0 (zi 0) 120 = I1 120 := zu_o (by decide)
    rw [qX12_trains, eX12_trains_0, mWithin (by omega) ba, zbI_s, eX12_trains_1, show (1 : Int64).toInt = 1 from rfl, show (40 : Int64).toInt = 40 from rfl]
    cases h1 : zbo a 1 40
    · rw [if_neg (show ¬ zb1 (!false) = 0 by decide), mWithin (by omega) bh, zbI_s, eX12_trains_2, show (50 : Int64).toInt = 50 from rfl, show (220 : Int64).toInt = 220 from rfl]
      cases h2 : zbo h 50 220
      · obtain ⟨I', c1, c2⟩ := mTrains (d := 59) (L := L) (J := J1) (r := r1) (by decide) (zbo_f h1) (zbo_f h2) bx hmt (hv1.2.2.1.2.2.1 4 (by decide))
        rw [if_neg (show ¬ zb1 (!false) = 0 by decide), if_neg (by decide)]
        refine ⟨I', J1, c1, ⟨zSm_tr zSm_0 fun o k hp => ?_, fun _ _ => rfl⟩, ?_⟩
        · rw [c2 o (fun w => by rw [w] at hp; cases hp) (fun w => by rw [w] at hp; cases hp)]
          rfl
        · rw [c2 120 (by decide) (by decide)]
          exact q0
      · rw [if_pos (show zb1 (!true) = 0 from rfl), eX12_trains_3, if_pos (Or.inr rfl)]
        exact ⟨_, J1, rfl, ⟨zSm_0, fun _ _ => rfl⟩, q0⟩
    · rw [if_pos (show zb1 (!true) = 0 from rfl), eX12_trains_3, if_pos (Or.inl rfl)]
      exact ⟨_, J1, rfl, ⟨zSm_0, fun _ _ => rfl⟩, q0⟩
