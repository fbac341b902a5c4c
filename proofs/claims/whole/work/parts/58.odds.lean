theorem zn_if {α : Type} {x : Bool} {A B : α} : (if zb1 (!x) = 0 then A else B) = (if x = true then A else B) := by cases x <;> rfl
theorem zp_if {α : Type} {x : Bool} {A B : α} : (if zb1 x = 0 then A else B) = (if x = true then B else A) := by cases x <;> rfl
theorem zor_if {α : Type} {x y : Bool} {A B : α} : (if x = true then A else if y = true then A else B) = (if (x || y) = true then A else B) := by cases x <;> cases y <;> rfl
section
variable {d L r : Nat} {I : Nat → Nat → Int32} {J : Nat → Nat → Int64}
variable {t : zDy}
/-- the model's RUN, and whether it is OUT -/
theorem mOut (hd : 8 ≤ d) (h : zTI I J t) (hn : 0 < t.n) {w wi co : Int} (h1 : 1 ≤ w ∧ w ≤ 20) (h2 : 0 ≤ wi ∧ wi ≤ 99) (h3 : 0 ≤ co ∧ co ≤ 99) : ∃ I', zCd zT d 279 [.ref 130, .int (zi w), .int (zi wi), .int (zi co)] (zm L I J r) = some (none, (zm L I' J r)) ∧ zTI I' J t ∧ zSm I I' ∧ I' 120 = I 120 ∧ (I' 130 19 = 0 ↔ zIsO t w wi co = true) ∧ mRd t.n I' (zRu t (zLss t w wi co) 0 t.push).2 := by
  obtain ⟨I', c1, c2, c3, c4⟩ := mPass (L := L) (r := r) hd h hn h1 h2 h3
  refine ⟨I', c1, zTI_fr (zSm_m c3) h, zSm_m c3, funext fun k => c3 120 k (by decide) (by decide) (fun q => by cases q.1), ?_, c2⟩
  rw [c4, zi_e0 zRu_e]
  unfold zIsO
  rw [decide_eq_true_iff]
theorem mOdds (hd : 10 ≤ d) (h : zTI I J t) {a b c e f : Int} (ba : -2147483648 ≤ a ∧ a < 2147483648) (bb : -2147483648 ≤ b ∧ b < 2147483648) (bc : -2147483648 ≤ c ∧ c < 2147483648) (be : -2147483648 ≤ e ∧ e < 2147483648) (bf : -2147483648 ≤ f ∧ f < 2147483648) : ∃ I', zCd zT d 290 [.ref 130, .int (zi a), .int (zi b), .int (zi c), .int (zi e), .int (zi f)] (zm L I J r) = some (some (.int (zi (zOdV t a b c e f))), (zm L I' J r)) ∧ zSm I I' ∧ I' 120 = I 120 := by
  obtain ⟨g, rfl⟩ : ∃ g, d = g + 1 := ⟨d - 1, by omega⟩
  have h0 := zTI_fr zSm_0 h
  have g0 : zu I 130 0 0 120 = I 120 := zu_o (by decide)
  have eA : (20 : Int64).toInt = 20 := rfl
  have eB : (99 : Int64).toInt = 99 := rfl
  have ea : (zi a).toInt64.toInt = a := by rw [Int32.toInt_toInt64, zi_val ba]
  have ec : (zi c).toInt64.toInt = c := by rw [Int32.toInt_toInt64, zi_val bc]
  have key : zOdB a b c e f = (zbo a 1 20 || (zbo b a 20 || (zbo c 0 99 || (zbo e c 99 || zbo f 0 99)))) := by
    rw [Bool.eq_iff_iff]
    simp only [zOdB, zbo, Bool.or_eq_true, decide_eq_true_eq]
    omega
  rw [qX12_odds, eX12_odds_0, mWeight (by omega) ba, zbI_s, eX12_odds_1, mWithin (by omega) bb, zbI_s, eX12_odds_2, mAir (by omega) bc, zbI_s, eX12_odds_3, mWithin (by omega) be, zbI_s, eX12_odds_4, mAir (by omega) bf, zbI_s, eX12_odds_5, eX12_odds_6, eX12_odds_7, mTrack (by omega) h0, zbI_s, eX12_odds_8, ea, ec, eA, eB]
  simp only [zn_if, zor_if]
  rw [← key]
  simp only [zp_if]
  unfold zOdV zRf
  by_cases q2 : zOdB a b c e f = true
  · rw [if_pos q2, if_pos q2]
    exact ⟨_, rfl, zSm_0, g0⟩
  · rw [if_neg q2, if_neg q2]
    by_cases q3 : t.n = 0
    · rw [if_pos q3, if_neg (show ¬ decide (0 < t.n) = true by rw [decide_eq_true_iff]; omega)]
      exact ⟨_, rfl, zSm_0, g0⟩
    · rw [if_neg q3, if_pos (show decide (0 < t.n) = true by rw [decide_eq_true_iff]; omega), eX12_odds_9, if_neg (show ¬ false = true by decide), if_pos rfl]
      have q3 : 0 < t.n := by omega
      rw [key] at q2
      simp only [Bool.not_eq_true, Bool.or_eq_false_iff] at q2
      obtain ⟨p1, p2, p4, p5, p7⟩ := q2
      have p1 := zbo_f p1
      have p2 := zbo_f p2
      have p4 := zbo_f p4
      have p5 := zbo_f p5
      have p7 := zbo_f p7
      obtain ⟨m, hm⟩ : ∃ m : Nat, e - c + 1 = m := ⟨(e - c + 1).toNat, by omega⟩
      obtain ⟨n, hn⟩ : ∃ n : Nat, b - a + 1 = n := ⟨(b - a + 1).toNat, by omega⟩
      rw [hm, hn, Int.toNat_natCast, Int.toNat_natCast]
      have inner : ∀ (w acc : Int), 1 ≤ w → w ≤ 20 → ∀ I1, (zTI I1 J t ∧ zSm I I1 ∧ I1 120 = I 120) → ∃ I2, zX 0 (zCd zT g) zc_X12_odds 11 [some (.ref 130), some (.int (zi a)), some (.int (zi b)), some (.int (zi c)), some (.int (zi e)), some (.int (zi f)), some (.int (zi (acc + ((zO1 t w c f 0 : Nat) : Int)))), some (.int (zi w)), some (.int (zi (c + ((0 : Nat) : Int))))] [] (zm L I1 J r) = zX 0 (zCd zT g) zc_X12_odds 11 [some (.ref 130), some (.int (zi a)), some (.int (zi b)), some (.int (zi c)), some (.int (zi e)), some (.int (zi f)), some (.int (zi (acc + ((zO1 t w c f m : Nat) : Int)))), some (.int (zi w)), some (.int (zi (c + (m : Int))))] [] (zm L I2 J r) ∧ (zTI I2 J t ∧ zSm I I2 ∧ I2 120 = I 120) := by
        intro w acc w1 w2
        refine zForM (G := fun i I1 => zX 0 (zCd zT g) zc_X12_odds 11 [some (.ref 130), some (.int (zi a)), some (.int (zi b)), some (.int (zi c)), some (.int (zi e)), some (.int (zi f)), some (.int (zi (acc + ((zO1 t w c f i : Nat) : Int)))), some (.int (zi w)), some (.int (zi (c + (i : Int))))] [] (zm L I1 J r)) (P := fun I1 => zTI I1 J t ∧ zSm I I1 ∧ I1 120 = I 120) (fun i I1 hi hP => ?_)
        obtain ⟨I2, c1, c2, c3, c4, c5, _⟩ := mOut (d := g) (L := L) (r := r) (by omega) hP.1 q3 ⟨w1, w2⟩ (wi := c + (i : Int)) (by omega) p7
        refine ⟨I2, ?_, c2, zSm_tr hP.2.1 c3, c4.trans hP.2.2⟩
        show zX 0 (zCd zT g) zc_X12_odds 11 _ _ _ = zX 0 (zCd zT g) zc_X12_odds 11 _ _ _
        have i1 : zi (c + (i : Int)) + 1 = zi (c + ((i + 1 : Nat) : Int)) := by
          rw [show (1 : Int32) = zi 1 from rfl, zi_add]
          exact congrArg zi (by omega)
        rw [eX12_odds_11, if_neg (show ¬ zi e < zi (c + (i : Int)) by rw [zi_lt be (by omega)]; omega), c1, zbV_s, eX12_odds_12, eX12_odds_13, eX12_odds_14, eX12_odds_14, i1, zO1]
        have i2 : ∀ z : Nat, z ≤ 1 → zi (acc + ((zO1 t w c f i : Nat) : Int)) + zi z = zi (acc + ((zO1 t w c f i + z : Nat) : Int)) := by
          intro z _
          rw [zi_add]
          exact congrArg zi (by omega)
        have j0 := i2 0 (by decide)
        have j1 := i2 1 (by decide)
        rw [show zi ((0 : Nat) : Int) = (0 : Int32) from rfl] at j0
        rw [show zi ((1 : Nat) : Int) = (1 : Int32) from rfl] at j1
        rw [j0, j1]
        by_cases q : zIsO t w (c + (i : Int)) f = true
        · rw [if_pos (c5.mpr q), if_pos q]
        · rw [if_neg (fun x => q (c5.mp x)), if_neg q]
      have outer : ∃ I2, zX 0 (zCd zT g) zc_X12_odds 10 [some (.ref 130), some (.int (zi a)), some (.int (zi b)), some (.int (zi c)), some (.int (zi e)), some (.int (zi f)), some (.int (zi ((zO2 t a c f m 0 : Nat) : Int))), some (.int (zi (a + ((0 : Nat) : Int)))), none] [] (zm L (zu I 130 0 0) J r) = zX 0 (zCd zT g) zc_X12_odds 10 [some (.ref 130), some (.int (zi a)), some (.int (zi b)), some (.int (zi c)), some (.int (zi e)), some (.int (zi f)), some (.int (zi ((zO2 t a c f m n : Nat) : Int))), some (.int (zi (a + (n : Int)))), none] [] (zm L I2 J r) ∧ (zTI I2 J t ∧ zSm I I2 ∧ I2 120 = I 120) := by
        refine zForM (G := fun i I1 => zX 0 (zCd zT g) zc_X12_odds 10 [some (.ref 130), some (.int (zi a)), some (.int (zi b)), some (.int (zi c)), some (.int (zi e)), some (.int (zi f)), some (.int (zi ((zO2 t a c f m i : Nat) : Int))), some (.int (zi (a + (i : Int)))), none] [] (zm L I1 J r)) (P := fun I1 => zTI I1 J t ∧ zSm I I1 ∧ I1 120 = I 120) (fun i I1 hi hP => ?_) _ ⟨h0, zSm_0, g0⟩
        obtain ⟨I2, c1, c2⟩ := inner (a + (i : Int)) ((zO2 t a c f m i : Nat) : Int) (by omega) (by omega) I1 hP
        refine ⟨I2, ?_, c2⟩
        show zX 0 (zCd zT g) zc_X12_odds 10 _ _ _ = zX 0 (zCd zT g) zc_X12_odds 10 _ _ _
        have z0 : zi c = zi (c + ((0 : Nat) : Int)) := congrArg zi (by omega)
        have z1 : zi ((zO2 t a c f m i : Nat) : Int) = zi (((zO2 t a c f m i : Nat) : Int) + ((zO1 t (a + (i : Int)) c f 0 : Nat) : Int)) := congrArg zi (by rw [zO1]; omega)
        have i1 : zi (a + (i : Int)) + 1 = zi (a + ((i + 1 : Nat) : Int)) := by
          rw [show (1 : Int32) = zi 1 from rfl, zi_add]
          exact congrArg zi (by omega)
        have z2 : zi (((zO2 t a c f m i : Nat) : Int) + ((zO1 t (a + (i : Int)) c f m : Nat) : Int)) = zi ((zO2 t a c f m (i + 1) : Nat) : Int) := congrArg zi (by rw [zO2]; omega)
        rw [← z0, ← z1] at c1
        rw [eX12_odds_10, if_neg (show ¬ zi b < zi (a + (i : Int)) by rw [zi_lt bb (by omega)]; omega), c1, eX12_odds_11, if_pos (show zi e < zi (c + (m : Int)) by rw [zi_lt be (by omega)]; omega), eX12_odds_15, i1, z2]
      obtain ⟨I2, c1, c2⟩ := outer
      have z0 : zi a = zi (a + ((0 : Nat) : Int)) := congrArg zi (by omega)
      have z1 : (0 : Int32) = zi ((zO2 t a c f m 0 : Nat) : Int) := rfl
      rw [← z0, ← z1] at c1
      rw [c1, eX12_odds_10, if_pos (show zi b < zi (a + (n : Int)) by rw [zi_lt bb (by omega)]; omega), eX12_odds_16]
      exact ⟨I2, rfl, c2.2⟩
end
/-- a question that goes by the TRACK, and by what is kept of RUNS -/
theorem zOk_k {ca mo : Nat} {as : List Value} {V : zFd → Value} (C : ∀ (L r c : Nat) (I : Nat → Nat → Int32) (J : Nat → Nat → Int64) (y : zFd), zTI I J y.1 → cDay 0 I J y → wDay c y → c < 512 → zCa I y.1 → ∃ I', zCd zT 60 ca (.ref 16 :: as) (zm L I J r) = some (some (V y), zm L I' J r) ∧ zSm I I' ∧ zCa I' y.1) (M : ∀ (L r c : Nat) (I : Nat → Nat → Int32) (J : Nat → Nat → Int64) (y : zFd), zTI I J y.1 → mDay 0 I y → wDay c y → c < 512 → ∃ I', zCd zT 60 mo (.ref 130 :: as) (zm L I J r) = some (some (V y), zm L I' J r) ∧ zSm I I' ∧ I' 120 = I 120) : zOk ca mo as := by
  refine zOk_q fun L c r I J y z0 z1 hc hr hv => ⟨V y, ?_, fun I1 J1 r1 hk hr1 hv1 => ?_⟩
  · obtain ⟨I', a, b, e⟩ := C L r c I J y (zV_TI hv) hv.1 hv.2.2.1 hc hv.2.2.2.2.2.2.2.2.2
    exact ⟨I', J, r, a, ⟨b, fun _ _ => rfl⟩, e, hr⟩
  · obtain ⟨I', a, b, e⟩ := M L r1 c I1 J1 y (zV_TI hv1) hv1.2.1 hv1.2.2.1 hc
    exact ⟨I', J1, a, ⟨b, fun _ _ => rfl⟩, e⟩
theorem oOdds (a b c e f : Int32) : zOk 149 290 [.int a, .int b, .int c, .int e, .int f] := by
  obtain ⟨a, rfl, b1⟩ := zi_of a
  obtain ⟨b, rfl, b2⟩ := zi_of b
  obtain ⟨c, rfl, b3⟩ := zi_of c
  obtain ⟨e, rfl, b4⟩ := zi_of e
  obtain ⟨f, rfl, b5⟩ := zi_of f
  exact zOk_k (V := fun y => .int (zi (zOdV y.1 a b c e f))) (fun L r k I J y h _ _ _ hc => cOdds (by decide) h hc b1 b2 b3 b4 b5) (fun L r k I J y h _ _ _ => mOdds (by decide) h b1 b2 b3 b4 b5)
