/-! TEXT: what a text leaves behind -/
section
variable {d L r : Nat} {I : Nat → Nat → Int32} {J : Nat → Nat → Int64}
variable {B : Nat → Nat} {n : Nat}
theorem cTellT (hd : 6 ≤ d) {x : zDy × Bool × Bool} (hx : cDat I J x) (hw : wNt x.1) : ∃ I' J', zCd zT d 140 [.ref 16] (zm L I J r) = some (some (.int (zi (x.1.n : Int))), zm L I' J' r) ∧ cTr 0 I' J' x.1 ∧ (I' 37 1 = 0 ∧ I' 37 2 = 0 ∧ ∀ b, b < 6 → J' 38 b = 0) ∧ (∀ q, q = 0 ∨ q = 1 ∨ q = 5 ∨ q = 6 → I' (39 + 2 * q) 3 = 0) ∧ (∀ c, c < 2 → I' 55 c = 0) ∧ (∀ l, l < 2481 → I' 120 l = -2) ∧ (∀ o k, ¬ (32 ≤ o ∧ o ≤ 35) → o ≠ 37 → ¬ ((o = 39 ∨ o = 41 ∨ o = 49 ∨ o = 51) ∧ k = 3) → o ≠ 55 → o ≠ 120 → I' o k = I o k) ∧ ∀ o, o ≠ 32 → o ≠ 36 → o ≠ 38 → J' o = J o := by
  obtain ⟨e, rfl⟩ : ∃ e, d = e + 1 := ⟨d - 1, by omega⟩
  obtain ⟨f, rfl⟩ : ∃ f, e = f + 1 := ⟨e - 1, by omega⟩
  obtain ⟨g, rfl⟩ : ∃ g, f = g + 1 := ⟨f - 1, by omega⟩
  obtain ⟨h1, h2, h3, h4, h5, h6, h7, h8, h9, h10, h11, h12⟩ := hx
  obtain ⟨w1, w2, w3, w4, w5, w6, w7, w8⟩ := hw
  have o37 : 37 ∈ zRuls := by decide
  obtain ⟨I1, hI1⟩ : ∃ I1, I1 = zu (zu (zu (zu (zu (zu (zcI (zcI (zcI I 25 0 33 0 60) 26 0 34 0 5) 27 0 35 0 2) 32 5 (I 24 5)) 32 6 (I 24 6)) 32 7 (I 24 7)) 32 8 (I 24 8)) 32 9 (I 24 9)) 32 10 (I 24 10) := ⟨_, rfl⟩
  obtain ⟨J1, hJ1⟩ : ∃ J1, J1 = zuL (zcJ J 28 0 36 0 2) 32 4 (J 24 4) := ⟨_, rfl⟩
  have r33 : ∀ p, p < 60 → I1 33 p = I 25 p := fun p hp => by rw [hI1, zu_n (by omega), zu_n (by omega), zu_n (by omega), zu_n (by omega), zu_n (by omega), zu_n (by omega), zcI_o (by decide), zcI_o (by decide), zcI_y hp]
  have r34 : ∀ p, p < 5 → I1 34 p = I 26 p := fun p hp => by rw [hI1, zu_n (by omega), zu_n (by omega), zu_n (by omega), zu_n (by omega), zu_n (by omega), zu_n (by omega), zcI_o (by decide), zcI_y hp, zcI_o (by decide)]
  have r35 : ∀ p, p < 2 → I1 35 p = I 27 p := fun p hp => by rw [hI1, zu_n (by omega), zu_n (by omega), zu_n (by omega), zu_n (by omega), zu_n (by omega), zu_n (by omega), zcI_y hp, zcI_o (by decide), zcI_o (by decide)]
  have r5 : I1 32 5 = I 24 5 := by rw [hI1, zu_n (by decide), zu_n (by decide), zu_n (by decide), zu_n (by decide), zu_n (by decide), zu_y ⟨rfl, rfl⟩]
  have r6 : I1 32 6 = I 24 6 := by rw [hI1, zu_n (by decide), zu_n (by decide), zu_n (by decide), zu_n (by decide), zu_y ⟨rfl, rfl⟩]
  have r7 : I1 32 7 = I 24 7 := by rw [hI1, zu_n (by decide), zu_n (by decide), zu_n (by decide), zu_y ⟨rfl, rfl⟩]
  have r8 : I1 32 8 = I 24 8 := by rw [hI1, zu_n (by decide), zu_n (by decide), zu_y ⟨rfl, rfl⟩]
  have r9 : I1 32 9 = I 24 9 := by rw [hI1, zu_n (by decide), zu_y ⟨rfl, rfl⟩]
  have r10 : I1 32 10 = I 24 10 := by rw [hI1, zu_y ⟨rfl, rfl⟩]
  have s36 : ∀ p, p < 2 → J1 36 p = J 28 p := fun p hp => by rw [hJ1, zuL_o (by decide), zcJ_y hp]
  have s32 : J1 32 4 = J 24 4 := by rw [hJ1]; exact if_pos ⟨rfl, rfl⟩
  have fr1 : ∀ o, ¬ (32 ≤ o ∧ o ≤ 35) → I1 o = I o := fun o a => by rw [hI1, zu_o (by omega), zu_o (by omega), zu_o (by omega), zu_o (by omega), zu_o (by omega), zu_o (by omega), zcI_o (by omega), zcI_o (by omega), zcI_o (by omega)]
  have fj1 : ∀ o, o ≠ 32 → o ≠ 36 → J1 o = J o := fun o a b => by rw [hJ1, zuL_o a, zcJ_o b]
  have wip := cFillJ (d := g) (L := L) (I := I1) (J := J1) (r := r) (o := 38) (n := 6) (by omega) (by decide) rfl (by decide) 0
  obtain ⟨I2, hI2⟩ : ∃ I2, I2 = zu (zu I1 37 1 0) 37 2 0 := ⟨_, rfl⟩
  obtain ⟨I3, hI3⟩ : ∃ I3, I3 = zu (zu (zu (zu I2 39 3 0) 41 3 0) 49 3 0) 51 3 0 := ⟨_, rfl⟩
  have f55 := cFillI (d := g + 1) (L := L) (I := I3) (J := zfJ J1 38 6 0) (r := r) (o := 55) (n := 2) (by omega) (by decide) rfl (by decide) 0
  have f120 := cFillI (d := g + 1) (L := L) (I := zfI I3 55 2 0) (J := zfJ J1 38 6 0) (r := r) (o := 120) (n := 2481) (by omega) (by decide) rfl (by decide) (-2)
  have fr2 : ∀ o, o ≠ 37 → I2 o = I1 o := fun o a => by rw [hI2, zu_o a, zu_o a]
  have fr3 : ∀ o k, ¬ ((o = 39 ∨ o = 41 ∨ o = 49 ∨ o = 51) ∧ k = 3) → I3 o k = I2 o k := fun o k a => by rw [hI3, zu_n (by omega), zu_n (by omega), zu_n (by omega), zu_n (by omega)]
  have fr5 : ∀ o, o ≠ 55 → o ≠ 120 → zfI (zfI I3 55 2 0) 120 2481 (-2) o = I3 o := fun o a b => by rw [zfI_o b, zfI_o a]
  have frA : ∀ o k, 32 ≤ o → o ≤ 35 → zfI (zfI I3 55 2 0) 120 2481 (-2) o k = I1 o k := fun o k a b => by rw [fr5 o (by omega) (by omega), fr3 o k (by omega), fr2 o (by omega)]
  refine ⟨zfI (zfI I3 55 2 0) 120 2481 (-2), zfJ J1 38 6 0, ?_, ?_, ⟨?_, ?_, fun b hb => zfJ_i hb⟩, fun q hq => ?_, fun c hc => ?_, fun l hl => zfI_i hl, fun o k a b c d e => ?_, fun o a b c => ?_⟩
  · rw [qX11_tellTrack, eX11_tellTrack_0, qX0_tellTrack, eX0_tellTrack_0, sX9_copyFrom_32_24 (by omega), zbV_s, ← hI1, ← hJ1, eX0_tellTrack_1, qX5_wipe o37, eX5_wipe_0 o37, wip, zbV_s, eX5_wipe_1 o37, zbV_s, ← hI2, eX0_tellTrack_2, sX7_wipe (by omega) (by decide), zbV_s, eX0_tellTrack_3, sX7_wipe (by omega) (by decide), zbV_s, eX0_tellTrack_4, sX7_wipe (by omega) (by decide), zbV_s, eX0_tellTrack_5, sX7_wipe (by omega) (by decide), zbV_s, ← hI3, eX0_tellTrack_6, f55, zbV_s, eX0_tellTrack_7, zbV_s, eX11_tellTrack_1, qX3_forget, eX3_forget_0, f120, zbV_s, eX3_forget_1, zbV_s, eX11_tellTrack_2, sX9_points (by omega) (by decide), zbI_s, eX11_tellTrack_3, fr5 24 (by decide) (by decide), fr3 24 5 (by decide), fr2 24 (by decide), fr1 24 (by decide), h1]
  · refine ⟨?_, fun p hp => ?_, ?_, fun i hi => ?_, ?_, fun c hc => ?_, ?_, fun p hp => ?_, ?_, ?_⟩
    · show zfI (zfI I3 55 2 0) 120 2481 (-2) 32 5 = _
      rw [frA 32 5 (by decide) (by decide), r5]
      exact h1
    · show zfI (zfI I3 55 2 0) 120 2481 (-2) 33 p = _
      rw [frA 33 p (by decide) (by decide), r33 p (by omega)]
      exact h2 p hp
    · show zfI (zfI I3 55 2 0) 120 2481 (-2) 32 6 = _
      rw [frA 32 6 (by decide) (by decide), r6]
      exact h3
    · show zfI (zfI I3 55 2 0) 120 2481 (-2) 34 i = _
      rw [frA 34 i (by decide) (by decide), r34 i (by omega)]
      exact h4 i hi
    · show zfI (zfI I3 55 2 0) 120 2481 (-2) 32 7 = _
      rw [frA 32 7 (by decide) (by decide), r7]
      exact h5
    · show zfI (zfI I3 55 2 0) 120 2481 (-2) 35 c = _ ∧ ∀ p : Nat, p < 60 → (¬ lg_cmp (zul (zfJ J1 38 6 0 36 c) (zi p) &&& 1) 0 = 0 ↔ _)
      rw [frA 35 c (by decide) (by decide), r35 c (by omega), zfJ_o (by decide), s36 c (by omega)]
      refine ⟨(h6 c hc).1, fun p hp => ?_⟩
      rw [yL64a (by omega), (h6 c hc).2 p hp, decide_eq_false_iff_not, Decidable.not_not]
    · show zfI (zfI I3 55 2 0) 120 2481 (-2) 32 8 = _
      rw [frA 32 8 (by decide) (by decide), r8]
      exact h7
    · show (¬ lg_cmp (zul (zfJ J1 38 6 0 32 4) (zi p) &&& 1) 0 = 0 ↔ _)
      rw [zfJ_o (by decide), s32, yL64a (by omega), h8 p hp, Bool.not_eq_false]
    · show zfI (zfI I3 55 2 0) 120 2481 (-2) 32 9 = _
      rw [frA 32 9 (by decide) (by decide), r9]
      exact h9
    · show zfI (zfI I3 55 2 0) 120 2481 (-2) 32 10 = _
      rw [frA 32 10 (by decide) (by decide), r10]
      exact h10
  · rw [fr5 37 (by decide) (by decide), fr3 37 1 (by decide), hI2, zu_n (by decide), zu_y ⟨rfl, rfl⟩]
  · rw [fr5 37 (by decide) (by decide), fr3 37 2 (by decide), hI2, zu_y ⟨rfl, rfl⟩]
  · rcases hq with rfl | rfl | rfl | rfl
    · show zfI (zfI I3 55 2 0) 120 2481 (-2) 39 3 = 0
      rw [fr5 39 (by decide) (by decide), hI3, zu_n (by decide), zu_n (by decide), zu_n (by decide), zu_y ⟨rfl, rfl⟩]
    · show zfI (zfI I3 55 2 0) 120 2481 (-2) 41 3 = 0
      rw [fr5 41 (by decide) (by decide), hI3, zu_n (by decide), zu_n (by decide), zu_y ⟨rfl, rfl⟩]
    · show zfI (zfI I3 55 2 0) 120 2481 (-2) 49 3 = 0
      rw [fr5 49 (by decide) (by decide), hI3, zu_n (by decide), zu_y ⟨rfl, rfl⟩]
    · show zfI (zfI I3 55 2 0) 120 2481 (-2) 51 3 = 0
      rw [fr5 51 (by decide) (by decide), hI3, zu_y ⟨rfl, rfl⟩]
  · rw [zfI_o (by decide), zfI_i hc]
  · rw [fr5 o d e, fr3 o k c, fr2 o b, fr1 o a]
  · rw [zfJ_o c, fj1 o a b]
/-- the model's beginning -/
theorem mFrn (hd : 8 ≤ d) (hn : n ≤ 400) (hB : ∀ k, k < n → B k < 256) (ht : ∀ k, k < n → I 134 k = zi (B k : Int)) {a T : Nat} (ha : a < 2) (hT : n ≤ T ∧ T ≤ 400) (h5 : I 130 5 = zi (T : Int)) (h1 : a = 1 → ¬ I 131 0 ≤ 0) : ∃ I1, zCd zT d 269 [.ref 130, .int (zi (a : Int)), .int (zi (n : Int))] (zm L I J r) = zX 0 (zCd zT (d - 1)) zc_X12_text 11 [some (.ref 130), some (.int (zi (a : Int))), some (.int (zi (n : Int))), some (.int (zi ((618 : Nat) : Int)))] [] (zm L I1 J r) ∧ mAt B n I1 (yTo B n 0) ∧ (∀ k, k < 618 → I1 132 k = if k = 79 then 10 else 0) ∧ (I1 130 5 = 0 ∧ I1 130 13 = 0 ∧ I1 130 14 = 0 ∧ I1 130 17 = 0 ∧ I1 130 18 = 0) ∧ (∀ o, o ≠ 130 → o ≠ 132 → I1 o = I o) ∧ ∀ k, 15 ≤ k → k ≠ 17 → k ≠ 18 → I1 130 k = I 130 k := by
  obtain ⟨e, rfl⟩ : ∃ e, d = e + 1 := ⟨d - 1, by omega⟩
  obtain ⟨U, hU⟩ : ∃ U, U = zu (zu (zu (zu (zu (zu (zu (zu (zu I 130 0 0) 130 8 (zi (n : Int))) 130 5 0) 130 7 0) 130 11 0) 130 13 0) 130 14 0) 130 17 0) 130 18 0 := ⟨_, rfl⟩
  have uo : ∀ o, o ≠ 130 → U o = I o := fun o a => by rw [hU, zu_o a, zu_o a, zu_o a, zu_o a, zu_o a, zu_o a, zu_o a, zu_o a, zu_o a]
  have uk : ∀ k, 15 ≤ k → k ≠ 17 → k ≠ 18 → U 130 k = I 130 k := fun k a b c => by rw [hU, zu_n (by omega), zu_n (by omega), zu_n (by omega), zu_n (by omega), zu_n (by omega), zu_n (by omega), zu_n (by omega), zu_n (by omega), zu_n (by omega)]
  have u8 : U 130 8 = zi (n : Int) := by rw [hU, zu_n (by decide), zu_n (by decide), zu_n (by decide), zu_n (by decide), zu_n (by decide), zu_n (by decide), zu_n (by decide), zu_y ⟨rfl, rfl⟩]
  have u5 : U 130 5 = 0 := by rw [hU, zu_n (by decide), zu_n (by decide), zu_n (by decide), zu_n (by decide), zu_n (by decide), zu_n (by decide), zu_y ⟨rfl, rfl⟩]
  have u7 : U 130 7 = 0 := by rw [hU, zu_n (by decide), zu_n (by decide), zu_n (by decide), zu_n (by decide), zu_n (by decide), zu_y ⟨rfl, rfl⟩]
  have u11 : U 130 11 = 0 := by rw [hU, zu_n (by decide), zu_n (by decide), zu_n (by decide), zu_n (by decide), zu_y ⟨rfl, rfl⟩]
  have u13 : U 130 13 = 0 := by rw [hU, zu_n (by decide), zu_n (by decide), zu_n (by decide), zu_y ⟨rfl, rfl⟩]
  have u14 : U 130 14 = 0 := by rw [hU, zu_n (by decide), zu_n (by decide), zu_y ⟨rfl, rfl⟩]
  have u17 : U 130 17 = 0 := by rw [hU, zu_n (by decide), zu_y ⟨rfl, rfl⟩]
  have u18 : U 130 18 = 0 := by rw [hU, zu_y ⟨rfl, rfl⟩]
  have lp : ∃ m, zX 0 (zCd zT e) zc_X12_text 7 [some (.ref 130), some (.int (zi (a : Int))), some (.int (zi (n : Int))), some (.int 0)] [] (zm L U J r) = zX 0 (zCd zT e) zc_X12_text 7 [some (.ref 130), some (.int (zi (a : Int))), some (.int (zi (n : Int))), some (.int (zi ((618 : Nat) : Int)))] [] (zm L m J r) ∧ (∀ k, k < 618 → m 132 k = if k = 79 then 10 else 0) ∧ ∀ o, o ≠ 132 → m o = U o := by
    obtain ⟨m, c1, c2⟩ := zForI (n := 618) (M := Nat → Nat → Int32) (G := fun i m => zX 0 (zCd zT e) zc_X12_text 7 [some (.ref 130), some (.int (zi (a : Int))), some (.int (zi (n : Int))), some (.int (zi ((i : Nat) : Int)))] [] (zm L m J r)) (P := fun i m => (∀ k, k < i → m 132 k = if k = 79 then 10 else 0) ∧ ∀ o, o ≠ 132 → m o = U o) (fun i m hi hm => by
      have go : zX 0 (zCd zT e) zc_X12_text 7 [some (.ref 130), some (.int (zi (a : Int))), some (.int (zi (n : Int))), some (.int (zi ((i : Nat) : Int)))] [] (zm L m J r) = zX 0 (zCd zT e) zc_X12_text 9 [some (.ref 130), some (.int (zi (a : Int))), some (.int (zi (n : Int))), some (.int (zi ((i : Nat) : Int)))] [.int (if i = 79 then 10 else 0), .int (zi ((i : Nat) : Int)), .ref 132] (zm L m J r) := by
        have i79 : zi (i : Int) = (79 : Int32) ↔ i = 79 := yEq (b := 79) (by omega) (by decide)
        rw [eX12_text_7, if_neg (show ¬ (618 : Int32) ≤ zi (i : Int) by rw [show (618 : Int32) = zi ((618 : Nat) : Int) from rfl, yLe (by omega) (by omega)]; omega)]
        by_cases q : i = 79
        · rw [if_pos (i79.mpr q), if_pos q]
        · rw [if_neg (fun z => q (i79.mp z)), if_neg q, eX12_text_8]
      rw [go, eX12_text_9, zin_t (by omega) (by omega), zgd_t, zi_cl (by omega), Int.toNat_natCast, yZ1]
      refine ⟨_, rfl, fun k hk => ?_, fun o a => by rw [zu_o a]; exact hm.2 o a⟩
      by_cases q : k = i
      · rw [zu_y ⟨rfl, by omega⟩, q]
      · rw [zu_n (by omega)]
        exact hm.1 k (by omega)) U ⟨fun k hk => absurd hk (Nat.not_lt_zero k), fun _ _ => rfl⟩
    exact ⟨m, c1, c2.1, c2.2⟩
  obtain ⟨m, c1, c2, c3⟩ := lp
  have m130 : m 130 = U 130 := c3 130 (by decide)
  have mx : mTx B n m := ⟨by rw [m130]; exact u8, fun k hk => by rw [c3 134 (by decide), uo 134 (by decide)]; exact ht k hk⟩
  obtain ⟨I1, d1, d2⟩ := mNext0 (d := e) (L := L) (J := J) (r := r) (by omega) hn hB mx (Nat.zero_le n) (by rw [m130]; exact u7)
  have d3 := mNx_at mx (Nat.zero_le n) (by rw [m130]; exact u11) d2
  have fr : ∀ o k, ¬ (o = 130 ∧ 6 ≤ k ∧ k ≤ 12 ∧ k ≠ 8) → I1 o k = m o k := d3.2.1
  have z0 : (zi 0 : Int32) = 0 := rfl
  have wi1 : zCd zT e 240 [.long ((zi (a : Int)).toInt64), .long (0), .long (1)] (zm L (zu I 130 0 0) J r) = some (some (.int (zb1 (!zbo (a : Int) (0 : Int64).toInt (1 : Int64).toInt))), (zm L (zu I 130 0 0) J r)) := mWithin (by omega) (by omega)
  have wi2 : zCd zT e 240 [.long ((zi (n : Int)).toInt64), .long (0), .long ((zi (T : Int)).toInt64)] (zm L (zu I 130 0 0) J r) = some (some (.int (zb1 (!zbo (n : Int) (0 : Int64).toInt (zi (T : Int)).toInt64.toInt))), (zm L (zu I 130 0 0) J r)) := mWithin (by omega) (by omega)
  have hTT : (zi (T : Int)).toInt64.toInt = T := by rw [Int32.toInt_toInt64, zi_val (by omega)]
  have b1 : zbo (a : Int) (0 : Int64).toInt (1 : Int64).toInt = false := decide_eq_false (by rw [show (0 : Int64).toInt = 0 from rfl, show (1 : Int64).toInt = 1 from rfl]; omega)
  have b2 : zbo (n : Int) (0 : Int64).toInt (zi (T : Int)).toInt64.toInt = false := decide_eq_false (by rw [hTT, show (0 : Int64).toInt = 0 from rfl]; omega)
  have go6 : zX 0 (zCd zT e) zc_X12_text 4 [some (.ref 130), some (.int (zi (a : Int))), some (.int (zi (n : Int))), none] [] (zm L (zu I 130 0 0) J r) = zX 0 (zCd zT e) zc_X12_text 6 [some (.ref 130), some (.int (zi (a : Int))), some (.int (zi (n : Int))), none] [] (zm L (zu I 130 0 0) J r) := by
    rw [eX12_text_4]
    by_cases q : a = 1
    · rw [if_pos (show zi (a : Int) = (1 : Int32) by rw [q]; rfl), sX12_isTrack (by omega), zbI_s, eX12_text_5, zu_o (show (131 : Nat) ≠ 130 by decide), if_neg (h1 q), if_neg (show ¬ (1 : Int32) = 0 by decide)]
    · rw [if_neg (show ¬ zi (a : Int) = (1 : Int32) by rw [show (1 : Int32) = zi ((1 : Nat) : Int) from rfl, yEq (by omega) (by omega)]; exact q)]
  refine ⟨I1, ?_, d3.1, fun k hk => ?_, ⟨?_, ?_, ?_, ?_, ?_⟩, fun o a b => ?_, fun k a b c => ?_⟩
  · show _ = zX 0 (zCd zT e) zc_X12_text 11 _ [] (zm L I1 J r)
    rw [qX12_text, eX12_text_0, wi1, zbI_s, eX12_text_1, b1, if_neg (show ¬ zb1 (!false) = 0 by decide), eX12_text_2, zu_n (show ¬ ((130 : Nat) = 130 ∧ (5 : Nat) = 0) by decide), h5, wi2, zbI_s, eX12_text_3, b2, if_neg (show ¬ zb1 (!false) = 0 by decide), go6, eX12_text_6, ← hU, c1, eX12_text_7, if_pos (show (618 : Int32) ≤ zi ((618 : Nat) : Int) by decide), eX12_text_10, d1, zbV_s]
  · rw [fr 132 k (by omega)]
    exact c2 k hk
  · rw [fr 130 5 (by omega), m130]
    exact u5
  · rw [fr 130 13 (by omega), m130]
    exact u13
  · rw [fr 130 14 (by omega), m130]
    exact u14
  · rw [fr 130 17 (by omega), m130]
    exact u17
  · rw [fr 130 18 (by omega), m130]
    exact u18
  · have : I1 o = m o := funext fun k => fr o k (by omega)
    rw [this, c3 o b, uo o a]
  · rw [fr 130 k (by omega), m130]
    exact uk k a b c
end
