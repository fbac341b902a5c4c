/-! CREW: the model's -/
def yAd (b : yTb) (h : Int) (s : Nat) : Nat → Bool
  | 0 => true
  | k + 1 => if s.testBit k = true then yAd b h s k && !zbo h (b.2 k 1) (b.2 k 2) else yAd b h s k
theorem yAd_t {b : yTb} {h : Int} {s : Nat} : ∀ k, yAd b h s k = true ↔ ∀ j, j < k → s.testBit j = true → yOn b h j := by
  intro k
  induction k with
  | zero => exact ⟨fun _ j hj => absurd hj (by omega), fun _ => rfl⟩
  | succ k ih =>
    rw [yAd]
    by_cases q : s.testBit k = true
    · rw [if_pos q, Bool.and_eq_true, ih]
      constructor
      · intro w j hj hb
        by_cases e : j = k
        · subst e
          have := w.2
          cases z : zbo h (b.2 j 1) (b.2 j 2)
          · exact zbo_f z
          · rw [z] at this
            cases this
        · exact w.1 j (by omega) hb
      · intro w
        refine ⟨fun j hj hb => w j (by omega) hb, ?_⟩
        have on : b.2 k 1 ≤ h ∧ h ≤ b.2 k 2 := w k (by omega) q
        unfold zbo
        rw [decide_eq_false (by omega)]
        rfl
    · rw [if_neg q, ih]
      constructor
      · intro w j hj hb
        by_cases e : j = k
        · subst e
          exact absurd hb q
        · exact w j (by omega) hb
      · intro w j hj hb
        exact w j (by omega) hb
section
variable {d L r : Nat} {I : Nat → Nat → Int32} {J : Nat → Nat → Int64}
variable {t : zDy}
theorem mCrew (hd : 4 ≤ d) (hT : zTI I J t) (hn : 0 < t.n) {b : yTb} {n m c : Nat} (hb : mTb 7 (I 131) b) (hw : wTb n m c 7 b) {h : Int} (bh : -2147483648 ≤ h ∧ h < 2147483648) : zCd zT d 352 [.ref 130, .int (zi h)] (zm L I J r) = some (some (.int (zi (yCw b (yDu b h b.1) (2 ^ (t.m + 1) - 1) (2 ^ b.1)))), (zm L I J r)) := by
  obtain ⟨e, rfl⟩ : ∃ e, d = e + 1 := ⟨d - 1, by omega⟩
  obtain ⟨f, hf⟩ : ∃ f, e = f + 1 := ⟨e - 1, by omega⟩
  have w := yW7 hw
  have hm5 : t.m ≤ 5 := hT.2.2.1.2.2.1
  have hp : 2 ^ b.1 ≤ 2 ^ 8 := Nat.pow_le_pow_right (by decide) w.1
  have hp2 : 2 ^ (t.m + 1) ≤ 2 ^ 6 := Nat.pow_le_pow_right (by decide) (by omega)
  have hp1 : 1 ≤ 2 ^ (t.m + 1) := Nat.one_le_two_pow
  have h3 : I 131 856 = zi b.1 := hb.1
  have em : I 131 61 = zi t.m := hT.2.1.2.2.1
  have g0 : ∀ k, k < b.1 → I 131 (857 + k) = zi (b.2 k 0) := fun k hk => hb.2 k 0 hk (by decide)
  have g1 : ∀ k, k < b.1 → I 131 (865 + k) = zi (b.2 k 1) := fun k hk => hb.2 k 1 hk (by decide)
  have g2 : ∀ k, k < b.1 → I 131 (873 + k) = zi (b.2 k 2) := fun k hk => hb.2 k 2 hk (by decide)
  have a0 : ∀ k : Nat, (857 : Int32) + zi (k : Int) = zi ((857 + k : Nat) : Int) := fun k => zi_add 857 _
  have a1 : ∀ k : Nat, (865 : Int32) + zi (k : Int) = zi ((865 + k : Nat) : Int) := fun k => zi_add 865 _
  have a2 : ∀ k : Nat, (873 : Int32) + zi (k : Int) = zi ((873 + k : Nat) : Int) := fun k => zi_add 873 _
  have kb : zCd zT e 243 [.ref 130] (zm L I J r) = some (some (.int (zi ((t.m + 1 : Nat) : Int))), (zm L I J r)) := by
    rw [hf, qX12_blocks, eX12_blocks_0, mTrack (by omega) hT, zbI_s, eX12_blocks_1, decide_eq_true hn, if_neg (show ¬ zb1 true = 0 by decide), em, eX12_blocks_3]
    exact congrArg (fun x => some (some (Value.int x), zm L I J r)) (zi_add _ 1)
  have k2 : zi ((2 ^ (t.m + 1) : Nat) : Int) - (1 : Int32) = zi ((2 ^ (t.m + 1) - 1 : Nat) : Int) := (zi_sub _ 1).trans (congrArg zi (by omega))
  have inner : ∀ (s : Nat) (x y : Int32), s < 2 ^ b.1 → zX 0 (zCd zT e) zc_X12_crewAt 2 [some (.ref 130), some (.int (zi h)), some (.int x), some (.int y), some (.int (zi ((s : Nat) : Int))), some (.int 0), some (.int 0), some (.int 1), some (.int 0)] [] (zm L I J r) = zX 0 (zCd zT e) zc_X12_crewAt 2 [some (.ref 130), some (.int (zi h)), some (.int x), some (.int y), some (.int (zi ((s : Nat) : Int))), some (.int (zi (yUn b 0 s b.1 : Nat))), some (.int (zi (yPc s b.1 : Nat))), some (.int (zb1 (yAd b h s b.1))), some (.int (zi (b.1 : Int)))] [] (zm L I J r) := by
    intro s x y hs
    have c1 := zFor (n := b.1) (G := fun k => zX 0 (zCd zT e) zc_X12_crewAt 2 [some (.ref 130), some (.int (zi h)), some (.int x), some (.int y), some (.int (zi ((s : Nat) : Int))), some (.int (zi (yUn b 0 s k : Nat))), some (.int (zi (yPc s k : Nat))), some (.int (zb1 (yAd b h s k))), some (.int (zi ((k : Nat) : Int)))] [] (zm L I J r)) (fun k hk => by
      have k1 : zi ((k : Nat) : Int) + (1 : Int32) = zi ((k + 1 : Nat) : Int) := zi_add _ 1
      have q1 : zi ((yPc s k : Nat) : Int) + (1 : Int32) = zi ((yPc s k + 1 : Nat) : Int) := zi_add _ 1
      have ub := yUn_b (s := s) w.2.1 k (by omega)
      have w0 := w.2.1 k hk
      have w1 := w.2.2 k hk
      have ev : zi (b.2 k 0) = zi (((b.2 k 0).toNat : Nat) : Int) := congrArg zi (by omega)
      have t1 : (zi (b.2 k 1)).toInt64.toInt = b.2 k 1 := by rw [Int32.toInt_toInt64, zi_val (by omega)]
      have t2 : (zi (b.2 k 2)).toInt64.toInt = b.2 k 2 := by rw [Int32.toInt_toInt64, zi_val (by omega)]
      rw [eX12_crewAt_2, h3, if_neg (show ¬ zi (b.1 : Int) ≤ zi ((k : Nat) : Int) by rw [zi_le (by omega) (by omega)]; omega), yUn, yPc, yAd]
      by_cases q : s.testBit k = true
      · rw [if_neg (show ¬ (zi ((s : Nat) : Int) >>> (zi ((k : Nat) : Int) &&& 31)) &&& (1 : Int32) = 0 by rw [yShrB (by omega) (by omega), q]; decide), eX12_crewAt_3, a0, a1, a2, zin_t (by omega) (by omega), zgd_t, zi_cl (by omega), Int.toNat_natCast, g0 k hk, q1, if_pos q, if_pos q, if_pos q, ev, yOr (by omega) (by omega)]
        cases yAd b h s k
        · rw [if_pos (show zb1 false = 0 by decide), eX12_crewAt_5, eX12_crewAt_6, eX12_crewAt_7, k1]
          rfl
        · rw [if_neg (show ¬ zb1 true = 0 by decide), zin_t (by omega) (by omega), zgd_t, zin_t (by omega) (by omega), zgd_t, zi_cl (by omega), zi_cl (by omega), Int.toNat_natCast, Int.toNat_natCast, g1 k hk, g2 k hk, mWithin (by omega) bh, zbI_s, t1, t2, eX12_crewAt_4]
          cases zbo h (b.2 k 1) (b.2 k 2)
          · rw [if_neg (show ¬ zb1 (!false) = 0 by decide), eX12_crewAt_6, eX12_crewAt_7, k1]
            rfl
          · rw [if_pos (show zb1 (!true) = 0 by decide), eX12_crewAt_5, eX12_crewAt_6, eX12_crewAt_7, k1]
            rfl
      · rw [if_pos (show (zi ((s : Nat) : Int) >>> (zi ((k : Nat) : Int) &&& 31)) &&& (1 : Int32) = 0 by rw [yShrB (by omega) (by omega)]; exact Bool.not_eq_true _ ▸ q), eX12_crewAt_7, k1, if_neg q, if_neg q, if_neg q]
        rfl)
    exact c1
  have c1 := zFor (n := 2 ^ b.1) (G := fun s => zX 0 (zCd zT e) zc_X12_crewAt 1 [some (.ref 130), some (.int (zi h)), some (.int (zi (yCw b (yDu b h b.1) (2 ^ (t.m + 1) - 1) s))), some (.int (zi (yCoN (yCw b (yDu b h b.1) (2 ^ (t.m + 1) - 1) s) : Nat))), some (.int (zi ((s : Nat) : Int))), none, none, none, none] [] (zm L I J r)) (fun s hs => by
    have k1 : zi ((s : Nat) : Int) + (1 : Int32) = zi ((s + 1 : Nat) : Int) := zi_add _ 1
    have pb := yCw_b (b := b) (D := yDu b h b.1) (K := 2 ^ (t.m + 1) - 1) s
    have px : yPc s b.1 = yPc s 10 := (yPc_x hs 10 (by omega)).symm
    have pl : yPc s 10 ≤ 10 := yPc_le 10
    have al : yAd b h s b.1 = true ↔ s &&& yDu b h b.1 = s := (yAd_t b.1).trans (yDu_s hs).symm
    rw [eX12_crewAt_1, h3, yShl (by omega), if_neg (show ¬ zi ((2 ^ b.1 : Nat) : Int) ≤ zi ((s : Nat) : Int) by rw [zi_le (by omega) (by omega)]; omega), inner s _ _ hs, eX12_crewAt_2, h3, if_pos (Int32.le_refl _), eX12_crewAt_8, px, yCw]
    generalize yCw b (yDu b h b.1) (2 ^ (t.m + 1) - 1) s = p at pb ⊢
    generalize yDu b h b.1 = D at al ⊢
    have d1 : zi p = (-1 : Int32) ↔ p = -1 := zi_m1 (by omega)
    have cn : yCoN (s : Int) = yPc s 10 := by
      unfold yCoN
      rw [if_neg (by omega), Int.toNat_natCast]
    cases ha : yAd b h s b.1
    · rw [if_pos (show zb1 false = 0 by decide), eX12_crewAt_11, k1, if_neg (fun w => by rw [al.mpr w.1] at ha; cases ha)]
    · have a : s &&& D = s := al.mp ha
      rw [if_neg (show ¬ zb1 true = 0 by decide), kb, zbI_s, eX12_crewAt_9, yShl (by omega), k2]
      by_cases q : yUn b 0 s b.1 &&& (2 ^ (t.m + 1) - 1) = 2 ^ (t.m + 1) - 1
      · rw [if_pos ((ySub (by omega)).mpr q)]
        by_cases q1 : p = -1
        · rw [if_pos (d1.mpr q1), if_pos (⟨a, q, Or.inl q1⟩ : s &&& D = s ∧ yUn b 0 s b.1 &&& (2 ^ (t.m + 1) - 1) = 2 ^ (t.m + 1) - 1 ∧ (p = -1 ∨ yPc s 10 < yPc p.toNat 10)), eX12_crewAt_10, eX12_crewAt_11, k1, cn]
        · have pn : yCoN p = yPc p.toNat 10 := by
            unfold yCoN
            rw [if_neg q1]
          have pc1 : yPc p.toNat 10 ≤ 10 := yPc_le 10
          rw [if_neg (fun w => q1 (d1.mp w))]
          by_cases q4 : yPc s 10 < yPc p.toNat 10
          · rw [if_pos (show zi ((yPc s 10 : Nat) : Int) < zi ((yCoN p : Nat) : Int) by rw [pn, zi_lt (by omega) (by omega)]; omega), if_pos (⟨a, q, Or.inr q4⟩ : s &&& D = s ∧ yUn b 0 s b.1 &&& (2 ^ (t.m + 1) - 1) = 2 ^ (t.m + 1) - 1 ∧ (p = -1 ∨ yPc s 10 < yPc p.toNat 10)), eX12_crewAt_10, eX12_crewAt_11, k1, cn]
          · rw [if_neg (show ¬ zi ((yPc s 10 : Nat) : Int) < zi ((yCoN p : Nat) : Int) by rw [pn, zi_lt (by omega) (by omega)]; omega), if_neg (fun w => by rcases w.2.2 with w | w; exact q1 w; exact q4 w : ¬ (s &&& D = s ∧ yUn b 0 s b.1 &&& (2 ^ (t.m + 1) - 1) = 2 ^ (t.m + 1) - 1 ∧ (p = -1 ∨ yPc s 10 < yPc p.toNat 10))), eX12_crewAt_11, k1]
      · rw [if_neg (fun w => q ((ySub (by omega)).mp w)), if_neg (fun w => q w.2.1), eX12_crewAt_11, k1])
  have z0 : zX 0 (zCd zT e) zc_X12_crewAt 1 [some (.ref 130), some (.int (zi h)), some (.int (-1)), some (.int 0), some (.int 0), none, none, none, none] [] (zm L I J r) = _ := c1
  rw [qX12_crewAt, eX12_crewAt_0, z0, eX12_crewAt_1, h3, yShl (by omega), if_pos (Int32.le_refl _), eX12_crewAt_12]
end
