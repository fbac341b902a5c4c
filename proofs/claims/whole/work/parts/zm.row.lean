/-! ROWS OF EVENTS: the question -/
theorem oRow (a x l i : Int32) : zOk 150 305 [.int a, .int x, .int l, .int i] := by
  obtain ⟨a, rfl, ba⟩ := zi_of a
  obtain ⟨x, rfl, bx⟩ := zi_of x
  obtain ⟨l, rfl, bl⟩ := zi_of l
  obtain ⟨i, rfl, bi⟩ := zi_of i
  refine zOk_q fun L c r I J y z0 z1 hc hr hv => ⟨.int (zi (if zRf (zbo a 0 1) (yBbb y.1 x || zbo l 0 3) y.1.n = 0 then yRowA (decide (a = 0)) y.2.1 (y.1.m + 1) x.toNat l.toNat i else zRf (zbo a 0 1) (yBbb y.1 x || zbo l 0 3) y.1.n)), ?_, fun I1 J1 r1 hk hr1 hv1 => ?_⟩
  · have hT := zV_TI hv
    have k6 : zX 0 (zCd zT 59) zc_X11_row 1 [some (.ref 16), some (.int (zi a)), some (.int (zi x)), some (.int (zi l)), some (.int (zi i)), none] [.int (zb1 (zbo a 0 1)), .ref 16] (zm L I J r) = zX 0 (zCd zT 59) zc_X11_row 6 [some (.ref 16), some (.int (zi a)), some (.int (zi x)), some (.int (zi l)), some (.int (zi i)), none] [.int (zb1 (yBbb y.1 x || zbo l 0 3)), .int (zb1 (zbo a 0 1)), .ref 16] (zm L I J r) := by
      have kl : zCd zT 59 225 [.int (zi l), .int 0, .int 3] (zm L I J r) = some (some (.int (zb1 (zbo l 0 3))), (zm L I J r)) := cOut (lo := 0) (hi := 3) (by omega) bl (by decide) (by decide)
      rw [eX11_row_1, cBadBb (by decide) hT bx, zbI_s, eX11_row_2]
      cases yBbb y.1 x
      · rw [if_pos (show zb1 false = 0 from rfl), kl, zbI_s, eX11_row_3, Bool.false_or]
        cases zbo l 0 3
        · rw [if_pos (show zb1 false = 0 from rfl), eX11_row_5]
          rfl
        · rw [if_neg (show ¬ zb1 true = 0 by decide), eX11_row_4]
          rfl
      · rw [if_neg (show ¬ zb1 true = 0 by decide), eX11_row_4, Bool.true_or]
        rfl
    have ka : zCd zT 59 225 [.int (zi a), .int 0, .int 1] (zm L I J r) = some (some (.int (zb1 (zbo a 0 1))), (zm L I J r)) := cOut (lo := 0) (hi := 1) (by omega) ba (by decide) (by decide)
    rw [qX11_row, eX11_row_0, ka, zbI_s, k6, eX11_row_6, cRef (by decide) hT, zbI_s, eX11_row_7]
    by_cases q : zRf (zbo a 0 1) (yBbb y.1 x || zbo l 0 3) y.1.n = 0
    · have hn : ¬ y.1.n = 0 := fun w => by
        unfold zRf at q
        split at q
        · omega
        · split at q
          · omega
          · first
              | omega
              | (rw [if_pos w] at q; omega)
      have g1 : zbo a 0 1 = false := by
        cases w : zbo a 0 1
        · rfl
        · unfold zRf at q
          rw [w, if_pos rfl] at q
          omega
      have g2 : (yBbb y.1 x || zbo l 0 3) = false := by
        cases w : (yBbb y.1 x || zbo l 0 3)
        · rfl
        · unfold zRf at q
          rw [g1, w, if_neg (by decide), if_pos rfl] at q
          omega
      rw [Bool.or_eq_false_iff] at g2
      have g1 := zbo_f g1
      have g3 := zbo_f g2.2
      have g4 := g2.1
      unfold yBbb at g4
      rw [decide_eq_true (by omega), Bool.true_and] at g4
      have g4 := zbo_f g4
      have hm := hv.2.2.1.1.2.2.1
      have hw0 := hv.2.2.1.1.1
      have hp : 2 ^ (y.1.m + 1) ≤ 2 ^ 6 := Nat.pow_le_pow_right (by decide) (by omega)
      have hp0 := Nat.two_pow_pos (y.1.m + 1)
      obtain ⟨x, rfl⟩ : ∃ k : Nat, x = k := ⟨x.toNat, by omega⟩
      obtain ⟨l, rfl⟩ : ∃ k : Nat, l = k := ⟨l.toNat, by omega⟩
      have e5 : I 32 5 = zi y.1.n := hT.1.1
      have e6 : I 32 6 = zi y.1.m := hT.1.2.2.1
      have kb : zCd zT 59 113 [.ref 32] (zm L I J r) = some (some (.int (zi ((y.1.m + 1 : Nat) : Int))), (zm L I J r)) := by
        rw [sX9_blocks (by omega) (o := 32) (by decide), e5, e6, if_neg (show ¬ zi (y.1.n : Int) = 0 by rw [show (0 : Int32) = zi 0 from rfl, zi_eq (by omega) (by decide)]; omega), show zi (y.1.m : Int) + (1 : Int32) = zi ((y.1.m + 1 : Nat) : Int) from zi_add _ 1]
      have hcx : yCx (zu (zu I 121 5 (zi ((y.1.m + 1 : Nat) : Int))) 121 6 (zi (l : Int))) J (y.1.m + 1) y.2.1 := ⟨by rw [zu_n (by decide), zu_y ⟨rfl, rfl⟩], cRl_fr (by rw [zu_o (by decide), zu_o (by decide)]) rfl hv.1.2.1, by omega⟩
      obtain ⟨I2, J2, c1, c2⟩ := cRowA (d := 59) (L := L) (by decide) (cr := decide (a = 0)) (show l ≤ 3 by omega) (show x < 64 by omega) hcx (zu_y ⟨rfl, rfl⟩) bi (l1 := zi a) (l3 := zi (l : Int)) (l5 := zi (zRf (zbo a 0 1) (yBbb y.1 (x : Int) || zbo (l : Int) 0 3) y.1.n))
      have a0 : zi a = (0 : Int32) ↔ a = 0 := zi_eq (y := 0) ba (by decide)
      rw [if_pos (yRf_z.mpr q), eX11_row_8, kb, zbI_s, eX11_row_9, cPrep (by decide), zbV_s, eX11_row_10, if_pos q, Int.toNat_natCast, Int.toNat_natCast]
      refine ⟨I2, J2, 37, ?_, ⟨fun o k hp => ?_, fun o ho => c2.2 o ho⟩, ?_, Or.inr rfl⟩
      · by_cases q2 : a = 0
        · rw [if_pos (a0.mpr q2)]
          rw [decide_eq_true q2] at c1 ⊢
          exact c1
        · rw [if_neg (fun w => q2 (a0.mp w)), eX11_row_11]
          rw [decide_eq_false q2] at c1 ⊢
          exact c1
      · rw [c2.1 o (fun w => by rw [w] at hp; cases hp) (fun w => by rw [w] at hp; cases hp) (fun w => by rw [w] at hp; cases hp), zu_o (fun w => by rw [w] at hp; cases hp), zu_o (fun w => by rw [w] at hp; cases hp)]
      · unfold zCa
        rw [c2.1 120 (by decide) (by decide) (by decide), zu_o (by decide), zu_o (by decide)]
        exact hv.2.2.2.2.2.2.2.2.2
    · rw [if_neg (fun w => q (yRf_z.mp w)), if_neg q]
      exact ⟨I, J, r, rfl, zKp_rf, hv.2.2.2.2.2.2.2.2.2, hr⟩
  · have hT := zTI_fr zSm_0 (zV_TI hv1)
    have q0 : zu I1 130 0 0 120 = I1 120 := zu_o (by decide)
    have hw0 := hv1.2.2.1.1.1
    have hm := hv1.2.2.1.1.2.2.1
    rw [qX12_row, eX12_row_0, mWithin (by decide) ba, zbI_s, eX12_row_1, show (0 : Int64).toInt = 0 from rfl, show (1 : Int64).toInt = 1 from rfl]
    cases h1 : zbo a 0 1
    · rw [if_neg (show ¬ zb1 (!false) = 0 by decide), eX12_row_2, mTrack (by decide) hT, zbI_s, eX12_row_3]
      by_cases hn : y.1.n = 0
      · have e2 : yBbb y.1 x = false := by
          unfold yBbb
          rw [decide_eq_false (by omega), Bool.false_and]
        rw [decide_eq_false (show ¬ 0 < y.1.n by omega), if_pos (show zb1 false = 0 from rfl), eX12_row_5, mWithin (by decide) bl, zbI_s, eX12_row_6, show (0 : Int64).toInt = 0 from rfl, show (3 : Int64).toInt = 3 from rfl, e2, Bool.false_or]
        cases h3 : zbo l 0 3
        · rw [if_neg (show ¬ zb1 (!false) = 0 by decide), eX12_row_8, mTrack (by decide) hT, zbI_s, eX12_row_9, decide_eq_false (show ¬ 0 < y.1.n by omega), if_pos (show zb1 false = 0 from rfl), yRf5 hn, if_neg (by decide)]
          exact ⟨_, J1, rfl, ⟨zSm_0, fun _ _ => rfl⟩, q0⟩
        · rw [if_pos (show zb1 (!true) = 0 from rfl), eX12_row_7, yRf3, if_neg (by decide)]
          exact ⟨_, J1, rfl, ⟨zSm_0, fun _ _ => rfl⟩, q0⟩
      · have hn0 : 0 < y.1.n := by omega
        have hd0 : yMd (zu I1 130 0 0 131) (y.1.m + 1) y.2.1 := by
          rw [zu_o (show 131 ≠ 130 by decide)]
          exact zV_md hv1 hn0
        have e2 : yBbb y.1 x = zbo x 0 ((2 ^ (y.1.m + 1) - 1 : Nat) : Int) := by
          unfold yBbb
          rw [decide_eq_true hn0, Bool.true_and]
        rw [decide_eq_true hn0, if_neg (show ¬ zb1 true = 0 by decide), mIsTr (by decide) hd0 bx, zbI_s, eX12_row_4, e2]
        cases h2 : zbo x 0 ((2 ^ (y.1.m + 1) - 1 : Nat) : Int)
        · rw [if_neg (show ¬ zb1 (!false) = 0 by decide), eX12_row_5, mWithin (by decide) bl, zbI_s, eX12_row_6, show (0 : Int64).toInt = 0 from rfl, show (3 : Int64).toInt = 3 from rfl, Bool.false_or]
          cases h3 : zbo l 0 3
          · have g1 := zbo_f h1
            have g2 := zbo_f h2
            have g3 := zbo_f h3
            have hp : 2 ^ (y.1.m + 1) ≤ 2 ^ 6 := Nat.pow_le_pow_right (by decide) (by omega)
            have hp0 := Nat.two_pow_pos (y.1.m + 1)
            obtain ⟨x, rfl⟩ : ∃ k : Nat, x = k := ⟨x.toNat, by omega⟩
            obtain ⟨l, rfl⟩ : ∃ k : Nat, l = k := ⟨l.toNat, by omega⟩
            obtain ⟨I2, c1, c2⟩ := mRowA (d := 59) (L := L) (J := J1) (r := r1) (by decide) (cr := decide (a = 0)) (show l ≤ 3 by omega) (show x < 64 by omega) hd0 bi rfl
            have ea : zi a = zb1 (!decide (a = 0)) := by
              by_cases q2 : a = 0
              · rw [decide_eq_true q2, q2]
                rfl
              · rw [decide_eq_false q2, show a = 1 by omega]
                rfl
            rw [if_neg (show ¬ zb1 (!false) = 0 by decide), eX12_row_8, mTrack (by decide) hT, zbI_s, eX12_row_9, decide_eq_true hn0, if_neg (show ¬ zb1 true = 0 by decide), yRf0 hn, if_pos rfl, Int.toNat_natCast, Int.toNat_natCast, ea]
            refine ⟨I2, J1, c1, ⟨zSm_tr zSm_0 fun o k hp => ?_, fun _ _ => rfl⟩, ?_⟩
            · by_cases w : o = 130
              · subst w
                exact c2.2 k (fun w => by rw [w] at hp; cases hp) (fun w => by rw [w] at hp; cases hp) (fun w => by rw [w] at hp; cases hp)
              · rw [c2.1 o w (fun w => by rw [w] at hp; cases hp) (fun w => by rw [w] at hp; cases hp) (fun w => by rw [w] at hp; cases hp) (fun w => by rw [w] at hp; cases hp) (fun w => by rw [w] at hp; cases hp)]
            · rw [c2.1 120 (by decide) (by decide) (by decide) (by decide) (by decide) (by decide)]
              exact q0
          · rw [if_pos (show zb1 (!true) = 0 from rfl), eX12_row_7, yRf3, if_neg (by decide)]
            exact ⟨_, J1, rfl, ⟨zSm_0, fun _ _ => rfl⟩, q0⟩
        · rw [if_pos (show zb1 (!true) = 0 from rfl), eX12_row_7, Bool.true_or, yRf3, if_neg (by decide)]
          exact ⟨_, J1, rfl, ⟨zSm_0, fun _ _ => rfl⟩, q0⟩
    · rw [if_pos (show zb1 (!true) = 0 from rfl), yRf2, if_neg (by decide)]
      exact ⟨_, J1, rfl, ⟨zSm_0, fun _ _ => rfl⟩, q0⟩
