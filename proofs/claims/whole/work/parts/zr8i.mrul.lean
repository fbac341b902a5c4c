/-! TEXT of THE CONTROLLER: the model's facts, in each other -/
theorem yFrx_f {B : Nat → Nat} {n bk : Nat} {s : yTkS} (h : s.1 ≠ 0) : (yFrx B n bk s).1 = s := by
  show (yRdN B n (yNd B n s 13) 0 ((bk : Int) - 1) true).1 = s
  rw [yNd_f h, yRdN_f h]
theorem yPar_st {B : Nat → Nat} {n : Nat} {F : yTkS → yHld} (hM : ∀ s, yMo n s (F s).1) (hS : ∀ s : yTkS, s.2 ≤ n → (F s).1.1 = 0 → s.2 < (F s).1.2) : ∀ s : yTkS, s.2 ≤ n → (yPar B n F s).1.1 = 0 → s.2 < (yPar B n F s).1.2 := fun s hn h => by
  have a : yMo n (F s).1 (yPar B n F s).1 := yLpo_m hM 400 (F s)
  have b := a h
  have c := hS s hn b.1
  have e := (hM s b.1).2 (fun _ => hn)
  have f := b.2 (fun _ => e.2)
  omega
section
variable {d L r : Nat} {I : Nat → Nat → Int32} {J : Nat → Nat → Int64}
variable {B : Nat → Nat} {n bk : Nat}
theorem mFac (hn : n ≤ 400) (hB : ∀ k, k < n → B k < 256) (hbk : 1 ≤ bk ∧ bk ≤ 6) : ∀ (q d : Nat), q ≤ 8 → 3 * q + 12 ≤ d → mFn B n bk L J r (8 - q) (fun I => zCd zT d 267 [.ref 130] (zm L I J r)) (yFac B n bk q) := by
  intro q
  induction q with
  | zero =>
    intro d _ hd I s st ha hb h13 h14 h2
    obtain ⟨e, rfl⟩ : ∃ e, d = e + 1 := ⟨d - 1, by omega⟩
    have sn := mAt_n ha
    have fx := fun l1 => mFrx (d := e) (L := L) (J := J) (r := r) (by omega) hn hB hbk l1 ha hb h14 h2
    dsimp only
    rw [qX12_readFact, eX12_readFact_0]
    by_cases hs : s.1 = 0
    · obtain ⟨a1, a2, a3, a4, a5, a6, a7⟩ := ha.2.1 hs
      have kb := yK_b (B := B) (n := n) (p := s.2)
      have i12 : zi (yK B n s.2 : Int) = (12 : Int32) ↔ yK B n s.2 = 12 := yEq (b := 12) (by omega) (by decide)
      have i17 : zi (yK B n s.2 : Int) = (17 : Int32) ↔ yK B n s.2 = 17 := yEq (b := 17) (by omega) (by decide)
      have full : ∀ l1 : Int32, ∃ (I' : Nat → Nat → Int32) (st' : Nat), zX 2 (zCd zT e) zc_X12_readFact 2 [some (.ref 130), some (.int l1), none] [] (zm L I J r) = some (none, zm L I' J r) ∧ mAt B n I' (yFa B n s 5) ∧ I' 130 14 = zi (st' : Int) ∧ st ≤ st' ∧ 2 * st' + s.2 ≤ 2 * st + (yFa B n s 5).2 ∧ ((yFa B n s 5).1 = 0 → mE (I' 132) st st' (fun _ => false)) ∧ mRw st I I' := by
        intro l1
        obtain ⟨I1, c1, c2, c3, c4⟩ := mFails (d := e) (L := L) (J := J) (r := r) (by omega) ha (f := 5) (by decide)
        have c1' : zCd zT e 252 [.ref 130, .int 5] (zm L I J r) = _ := c1
        have ge := yFa_ge (B := B) (f := 5) sn
        rw [eX12_readFact_2, h13, if_pos (show zi ((8 - 0 : Nat) : Int) = (8 : Int32) from rfl), c1', zbV_s, eX12_readFact_3, if_neg c4]
        exact ⟨I1, st, rfl, c2, (c3 130 14 (by omega)).trans h14, Nat.le_refl _, by omega, fun z => absurd z (yFa_n (by decide)), mRw_t c3⟩
      rw [if_pos a3, eX12_readFact_1, a6]
      by_cases g1 : yK B n s.2 = 12
      · have t12 : yIsK B n s 12 = true := yZb.mpr ⟨hs, g1⟩
        have n13 : ¬ yIsK B n s 13 = true := fun z => by
          have := (yZb.mp z).2
          omega
        rw [if_pos (i12.mpr g1), yFac, if_neg n13, if_pos t12]
        exact full _
      · have n12 : yIsK B n s 12 = false := Bool.eq_false_iff.mpr fun z => g1 (yZb.mp z).2
        rw [if_neg (fun z => g1 (i12.mp z))]
        by_cases g2 : yK B n s.2 = 17
        · have t17 : yIsK B n s 17 = true := yZb.mpr ⟨hs, g2⟩
          have n13 : ¬ yIsK B n s 13 = true := fun z => by
            have := (yZb.mp z).2
            omega
          have n12' : ¬ yIsK B n s 12 = true := by rw [n12]; decide
          rw [if_pos (i17.mpr g2), yFac, if_neg n13, if_neg n12', if_pos t17]
          exact full _
        · have n17 : yIsK B n s 17 = false := Bool.eq_false_iff.mpr fun z => g2 (yZb.mp z).2
          rw [if_neg (fun z => g2 (i17.mp z)), yFac_o n12 n17]
          exact fx _
    · rw [yFac_o (yIsK_f hs) (yIsK_f hs)]
      obtain ⟨b1, b2, b3⟩ := ha.2.2 hs
      rcases b3 with ⟨b4, b5⟩ | ⟨b4, b5, b6, b7⟩
      · have n11 : ¬ I 130 11 = 0 := by rw [b4]; exact yNe0 (by omega) hs
        rw [if_neg n11]
        refine ⟨I, st, rfl, ?_, h14, Nat.le_refl _, ?_, fun z => ?_, mRw_rf⟩
        · rw [yFrx_f hs]
          exact ha
        · rw [yFrx_f hs]
          omega
        · rw [yFrx_f hs] at z
          exact absurd z hs
      · rw [if_pos b5, eX12_readFact_1, b6, if_neg (show ¬ (20 : Int32) = 12 by decide), if_neg (show ¬ (20 : Int32) = 17 by decide)]
        exact fx _
  | succ q ih =>
    intro d hq hd I s st ha hb h13 h14 h2
    obtain ⟨e, rfl⟩ : ∃ e, d = e + 1 := ⟨d - 1, by omega⟩
    have sn := mAt_n ha
    have fx := fun l1 => mFrx (d := e) (L := L) (J := J) (r := r) (by omega) hn hB hbk l1 ha hb h14 h2
    dsimp only
    rw [qX12_readFact, eX12_readFact_0]
    by_cases hs : s.1 = 0
    · obtain ⟨a1, a2, a3, a4, a5, a6, a7⟩ := ha.2.1 hs
      have kb := yK_b (B := B) (n := n) (p := s.2)
      have i12 : zi (yK B n s.2 : Int) = (12 : Int32) ↔ yK B n s.2 = 12 := yEq (b := 12) (by omega) (by decide)
      have i17 : zi (yK B n s.2 : Int) = (17 : Int32) ↔ yK B n s.2 = 17 := yEq (b := 17) (by omega) (by decide)
      have n8 : ¬ zi ((8 - (q + 1) : Nat) : Int) = (8 : Int32) := by
        rw [show (8 : Int32) = zi ((8 : Nat) : Int) from rfl, yEq (by omega) (by omega)]
        omega
      have k1 : zi ((8 - (q + 1) : Nat) : Int) + (1 : Int32) = zi ((8 - q : Nat) : Int) := by
        rw [yZ1]
        exact congrArg zi (by omega)
      have k2 : zi ((8 - q : Nat) : Int) - (1 : Int32) = zi ((8 - (q + 1) : Nat) : Int) := by
        rw [yZm1]
        exact congrArg zi (by omega)
      obtain ⟨I1, c1, c2, c3, c4⟩ := mNextA (d := e) (L := L) (J := J) (r := r) (by omega) hn hB ha hs
      have go : ∀ l1 : Int32, zX 2 (zCd zT e) zc_X12_readFact 2 [some (.ref 130), some (.int l1), none] [] (zm L I J r) = zX 2 (zCd zT e) zc_X12_readFact 5 [some (.ref 130), some (.int l1), none] [] (zm L I1 J r) := by
        intro l1
        rw [eX12_readFact_2, h13, if_neg n8, eX12_readFact_3, if_pos a3, eX12_readFact_4, c1, zbV_s]
      have e13 : I1 130 13 = zi ((8 - (q + 1) : Nat) : Int) := (c3 130 13 (by omega)).trans h13
      obtain ⟨U, hU⟩ : ∃ U, U = zu I1 130 13 (zi ((8 - q : Nat) : Int)) := ⟨_, rfl⟩
      have uA : mAt B n U (yAdv B n s) := mAt_fr (fun k _ _ => by rw [hU, zu_n (by omega)]) (by rw [hU, zu_o (by decide)]) c2
      have uB : mBk U bk := mBk_fr (by rw [hU, zu_n (by omega)]) (by rw [hU, zu_n (by omega)]) (mBk_t c3 hb)
      have u13 : U 130 13 = zi ((8 - q : Nat) : Int) := by rw [hU, zu_y ⟨rfl, rfl⟩]
      have u14 : U 130 14 = zi (st : Int) := by rw [hU, zu_n (by omega), c3 130 14 (by omega)]; exact h14
      have uo : ∀ o k, ¬ (o = 130 ∧ 6 ≤ k ∧ k ≤ 12 ∧ k ≠ 8) → ¬ (o = 130 ∧ k = 13) → U o k = I o k := fun o k a b => by rw [hU, zu_n b, c3 o k a]
      rw [if_pos a3, eX12_readFact_1, a6]
      by_cases g1 : yK B n s.2 = 12
      · have t12 : yIsK B n s 12 = true := yZb.mpr ⟨hs, g1⟩
        have n13 : ¬ yIsK B n s 13 = true := fun z => by
          have := (yZb.mp z).2
          omega
        have p2 := yAdv_g2 (B := B) hs sn (by rw [g1]; decide)
        obtain ⟨I2, st2, d1, d2, d3, d4, d5, d6, d7⟩ := ih e (by omega) (by omega) U (yAdv B n s) st uA uB u13 u14 (by omega)
        have d1' : zCd zT e 267 [.ref 130] (zm L U J r) = some (none, (zm L I2 J r)) := d1
        have fn := mAt_n d2
        have v13 : I2 130 13 = zi ((8 - q : Nat) : Int) := (d7 130 13 (by omega) (by omega) (by omega)).trans u13
        obtain ⟨W, hW⟩ : ∃ W, W = zu I2 130 13 (zi ((8 - (q + 1) : Nat) : Int)) := ⟨_, rfl⟩
        have wA : mAt B n W (yFac B n bk q (yAdv B n s)).1 := mAt_fr (fun k _ _ => by rw [hW, zu_n (by omega)]) (by rw [hW, zu_o (by decide)]) d2
        have w14 : W 130 14 = zi (st2 : Int) := by rw [hW, zu_n (by omega)]; exact d3
        obtain ⟨I3, st3, e1, e2, e3, e4, e5, e6, e7, e8⟩ := mEmIf (d := e) (L := L) (J := J) (r := r) (st := st2) (by omega) (by omega) w14 12 0 wA (K := fun N => zX 2 (zCd zT e) zc_X12_readFact 11 [some (.ref 130), some (.int (zi ((12 : Nat) : Int))), none] [] N)
        simp only [eX12_readFact_11] at e1
        have fr : mRw st I I3 := fun o k x y z => by
          by_cases w : o = 130 ∧ k = 13
          · obtain ⟨rfl, rfl⟩ := w
            rw [e7 130 13 (by omega) (by omega) (by omega), hW, zu_y ⟨rfl, rfl⟩]
            exact h13.symm
          · rw [e7 o k x y (by omega), hW, zu_n w, d7 o k x y z, uo o k x w]
        rw [if_pos (i12.mpr g1), g1, go, eX12_readFact_5, if_pos (show zi ((12 : Nat) : Int) = (12 : Int32) from rfl), e13, k1, ← hU, d1', zbV_s, eX12_readFact_6, eX12_readFact_8, if_neg (show ¬ zi ((12 : Nat) : Int) = (17 : Int32) by decide), v13, k2, ← hW, eX12_readFact_10]
        simp only [eX12_readFact_11]
        rw [e1, yFac, if_neg n13, if_pos t12]
        refine ⟨I3, st3, rfl, e2, e3, by omega, ?_, fun z => ?_, fr⟩
        · show 2 * st3 + s.2 ≤ 2 * st + (yFac B n bk q (yAdv B n s)).1.2
          omega
        · obtain ⟨x1, x2, x3⟩ := e6 z
          rw [x1]
          have m2 : mE (I3 132) st st2 (yFac B n bk q (yAdv B n s)).2 := mE_c (fun k hk => by rw [e8 k hk, hW, zu_o (by decide)]) d4 (d6 z)
          refine mE_1 d4 m2 (fun i x stk => ?_)
          rw [x2]
          exact yOp12
      · have n12 : yIsK B n s 12 = false := Bool.eq_false_iff.mpr fun z => g1 (yZb.mp z).2
        rw [if_neg (fun z => g1 (i12.mp z))]
        by_cases g2 : yK B n s.2 = 17
        · have t17 : yIsK B n s 17 = true := yZb.mpr ⟨hs, g2⟩
          have n13 : ¬ yIsK B n s 13 = true := fun z => by
            have := (yZb.mp z).2
            omega
          have n12' : ¬ yIsK B n s 12 = true := by rw [n12]; decide
          have p1 := yAdv_g1 (B := B) hs sn (by rw [g2]; decide)
          have hst : ∀ s : yTkS, s.2 ≤ n → (yFac B n bk q s).1.1 = 0 → s.2 < (yFac B n bk q s).1.2 := fun s a b => yFac_st q a b
          have hp : mFn B n bk L J r (8 - q) (fun I => zCd zT (e - 1) 266 [.ref 130] (zm L I J r)) (yPar B n (yFac B n bk q)) := mPar (d := e - 1) (by omega) hn hB (ih (e - 1 - 1) (by omega) (by omega)) hst
          have ht := mTes (d := e) (by omega) hn hB hp (yPar_st (yFac_m q) hst)
          obtain ⟨I2, st2, d1, d2, d3, d4, d5, d6, d7⟩ := ht U (yAdv B n s) st uA uB u13 u14 (by omega)
          have d1' : zCd zT e 265 [.ref 130] (zm L U J r) = some (none, (zm L I2 J r)) := d1
          have fn := mAt_n d2
          have v13 : I2 130 13 = zi ((8 - q : Nat) : Int) := (d7 130 13 (by omega) (by omega) (by omega)).trans u13
          obtain ⟨W, hW⟩ : ∃ W, W = zu I2 130 13 (zi ((8 - (q + 1) : Nat) : Int)) := ⟨_, rfl⟩
          have wA : mAt B n W (yTes B n (yFac B n bk q) (yAdv B n s)).1 := mAt_fr (fun k _ _ => by rw [hW, zu_n (by omega)]) (by rw [hW, zu_o (by decide)]) d2
          have w14 : W 130 14 = zi (st2 : Int) := by rw [hW, zu_n (by omega)]; exact d3
          obtain ⟨I3, f1, f2, f3, f4⟩ := mNeeds (d := e) (L := L) (J := J) (r := r) (by omega) hn hB wA (k := 18) (by decide)
          have f1' : zCd zT e 255 [.ref 130, .int 18] (zm L W J r) = _ := f1
          have fg := yNd_ge (B := B) (n := n) (s := (yTes B n (yFac B n bk q) (yAdv B n s)).1) (k := 18) fn
          have fr : mRw st I I3 := fun o k x y z => by
            by_cases w : o = 130 ∧ k = 13
            · obtain ⟨rfl, rfl⟩ := w
              rw [f3 130 13 (by omega), hW, zu_y ⟨rfl, rfl⟩]
              exact h13.symm
            · rw [f3 o k x, hW, zu_n w, d7 o k x y z, uo o k x w]
          rw [if_pos (i17.mpr g2), g2, go, eX12_readFact_5, if_neg (show ¬ zi ((17 : Nat) : Int) = (12 : Int32) by decide), e13, k1, ← hU, eX12_readFact_7, d1', zbV_s, eX12_readFact_8, if_pos (show zi ((17 : Nat) : Int) = (17 : Int32) from rfl), v13, k2, ← hW, f1', zbV_s, eX12_readFact_9, eX12_readFact_11, yFac, if_neg n13, if_neg n12', if_pos t17]
          refine ⟨I3, st2, rfl, f2, ?_, d4, ?_, fun z => ?_, fr⟩
          · rw [f3 130 14 (by omega)]
            exact w14
          · show 2 * st2 + s.2 ≤ 2 * st + (yNd B n (yTes B n (yFac B n bk q) (yAdv B n s)).1 18).2
            omega
          · have z2 := (yNd_m (B := B) (n := n) (s := (yTes B n (yFac B n bk q) (yAdv B n s)).1) (k := 18) z).1
            exact mE_c (fun k hk => by rw [f3 132 k (by omega), hW, zu_o (by decide)]) d4 (d6 z2)
        · have n17 : yIsK B n s 17 = false := Bool.eq_false_iff.mpr fun z => g2 (yZb.mp z).2
          rw [if_neg (fun z => g2 (i17.mp z)), yFac_o n12 n17]
          exact fx _
    · rw [yFac_o (yIsK_f hs) (yIsK_f hs)]
      obtain ⟨b1, b2, b3⟩ := ha.2.2 hs
      rcases b3 with ⟨b4, b5⟩ | ⟨b4, b5, b6, b7⟩
      · have n11 : ¬ I 130 11 = 0 := by rw [b4]; exact yNe0 (by omega) hs
        rw [if_neg n11]
        refine ⟨I, st, rfl, ?_, h14, Nat.le_refl _, ?_, fun z => ?_, mRw_rf⟩
        · rw [yFrx_f hs]
          exact ha
        · rw [yFrx_f hs]
          omega
        · rw [yFrx_f hs] at z
          exact absurd z hs
      · rw [if_pos b5, eX12_readFact_1, b6, if_neg (show ¬ (20 : Int32) = 12 by decide), if_neg (show ¬ (20 : Int32) = 17 by decide)]
        exact fx _
end
