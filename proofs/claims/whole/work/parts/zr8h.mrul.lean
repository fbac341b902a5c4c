/-! TEXT of THE CONTROLLER: the model's rows of facts -/
section
variable {d L r : Nat} {I : Nat → Nat → Int32} {J : Nat → Nat → Int64}
variable {B : Nat → Nat} {n bk : Nat}
theorem mParL (hd : 8 ≤ d) (hn : n ≤ 400) (hB : ∀ k, k < n → B k < 256) {dep : Nat} {F : yTkS → yHld} (hF : mFn B n bk L J r dep (fun I => zCd zT d 267 [.ref 130] (zm L I J r)) F) (st0 : Nat) : ∀ (f : Nat) (I : Nat → Nat → Int32) (z : yHld) (st : Nat), mAt B n I z.1 → mBk I bk → I 130 13 = zi (dep : Int) → I 130 14 = zi (st : Int) → 2 * st ≤ z.1.2 → st0 ≤ st → (z.1.1 = 0 → mE (I 132) st0 st z.2) → (z.1.1 = 0 → n < f + z.1.2) → ∃ (I' : Nat → Nat → Int32) (st' : Nat), zX 2 (zCd zT d) zc_X12_readPart 1 [some (.ref 130)] [] (zm L I J r) = some (none, zm L I' J r) ∧ mAt B n I' (yLpo B n 11 and F f z).1 ∧ I' 130 14 = zi (st' : Int) ∧ st ≤ st' ∧ 2 * st' + z.1.2 ≤ 2 * st + (yLpo B n 11 and F f z).1.2 ∧ ((yLpo B n 11 and F f z).1.1 = 0 → mE (I' 132) st0 st' (yLpo B n 11 and F f z).2) ∧ mRw st I I' := by
  intro f
  induction f with
  | zero =>
    intro I z st ha hb h13 h14 h2 h0 hm hf
    have zn := mAt_n ha
    have nf : z.1.1 ≠ 0 := fun q => by
      have := hf q
      omega
    have me := (mEats (d := d) (L := L) (J := J) (r := r) hd hn hB ha (k := 11) (by decide)).1 (yIsK_f nf)
    have me' : zCd zT d 254 [.ref 130, .int 11] (zm L I J r) = _ := me
    rw [eX12_readPart_1, me', zbI_s, eX12_readPart_2, if_pos (show (0 : Int32) = 0 from rfl), eX12_readPart_5, yLpo]
    exact ⟨I, st, rfl, ha, h14, Nat.le_refl _, by omega, hm, mRw_rf⟩
  | succ f ih =>
    intro I z st ha hb h13 h14 h2 h0 hm hf
    have zn := mAt_n ha
    have me := mEats (d := d) (L := L) (J := J) (r := r) hd hn hB ha (k := 11) (by decide)
    rw [eX12_readPart_1, yLpo]
    cases g : yIsK B n z.1 11
    · have me' : zCd zT d 254 [.ref 130, .int 11] (zm L I J r) = _ := me.1 g
      rw [me', zbI_s, eX12_readPart_2, if_pos (show (0 : Int32) = 0 from rfl), eX12_readPart_5, if_neg (by decide)]
      exact ⟨I, st, rfl, ha, h14, Nat.le_refl _, by omega, hm, mRw_rf⟩
    · have gg := yZb.mp g
      have p2 := yAdv_g2 (B := B) gg.1 zn (by rw [gg.2]; decide)
      obtain ⟨I1, c1, c2, c3, c4⟩ := me.2 g
      have c1' : zCd zT d 254 [.ref 130, .int 11] (zm L I J r) = _ := c1
      obtain ⟨I2, st2, d1, d2, d3, d4, d5, d6, d7⟩ := hF I1 (yAdv B n z.1) st c2 (mBk_t c3 hb) ((c3 130 13 (by omega)).trans h13) ((c3 130 14 (by omega)).trans h14) (by omega)
      have d1' : zCd zT d 267 [.ref 130] (zm L I1 J r) = _ := d1
      have fn := mAt_n d2
      obtain ⟨I3, st3, e1, e2, e3, e4, e5, e6, e7, e8⟩ := mEmIf (d := d) (L := L) (J := J) (r := r) (st := st2) (by omega) (by omega) d3 11 0 d2 (K := fun N => zX 2 (zCd zT d) zc_X12_readPart 4 [some (.ref 130)] [] N)
      simp only [eX12_readPart_4] at e1
      have fr : mRw st I I3 := mRw_tr (Nat.le_refl _) (mRw_t c3) (mRw_tr d4 d7 e7)
      have low : ∀ k, k < 118 + 2 * st → I3 132 k = I 132 k := fun k hk => by rw [e8 k (by omega), d7 132 k (by omega) (by omega) (by omega), c3 132 k (by omega)]
      obtain ⟨I4, st4, f1, f2, f3, f4, f5, f6, f7⟩ := ih I3 ((F (yAdv B n z.1)).1, fun i => and (z.2 i) ((F (yAdv B n z.1)).2 i)) st3 e2 (mBk_r fr hb) ((fr 130 13 (by omega) (by omega) (by omega)).trans h13) e3 (show 2 * st3 ≤ (F (yAdv B n z.1)).1.2 by omega) (by omega) (fun q => by
        obtain ⟨x1, x2, x3⟩ := e6 q
        rw [x1]
        refine mE_2 (op := and) h0 d4 (mE_c low h0 (hm gg.1)) (mE_c (fun k hk => e8 k hk) d4 (d6 q)) (fun i x y stk => ?_)
        rw [x2]
        exact yOp11) (fun q => by
        have := hf gg.1
        have d5' : 2 * st2 + (yAdv B n z.1).2 ≤ 2 * st + (F (yAdv B n z.1)).1.2 := d5
        show n < f + (F (yAdv B n z.1)).1.2
        omega)
      rw [c1', zbI_s, eX12_readPart_2, if_neg (show ¬ (1 : Int32) = 0 by decide), d1', zbV_s, eX12_readPart_3, e1, if_pos rfl]
      have f5' : 2 * st4 + (F (yAdv B n z.1)).1.2 ≤ 2 * st3 + (yLpo B n 11 and F f ((F (yAdv B n z.1)).1, fun i => and (z.2 i) ((F (yAdv B n z.1)).2 i))).1.2 := f5
      exact ⟨I4, st4, f1, f2, f3, by omega, by omega, f6, mRw_tr (show st ≤ st3 by omega) fr f7⟩
theorem mPar (hd : 9 ≤ d) (hn : n ≤ 400) (hB : ∀ k, k < n → B k < 256) {dep : Nat} {F : yTkS → yHld} (hF : mFn B n bk L J r dep (fun I => zCd zT (d - 1) 267 [.ref 130] (zm L I J r)) F) (hS : ∀ s : yTkS, s.2 ≤ n → (F s).1.1 = 0 → s.2 < (F s).1.2) : mFn B n bk L J r dep (fun I => zCd zT d 266 [.ref 130] (zm L I J r)) (yPar B n F) := by
  obtain ⟨e, rfl⟩ : ∃ e, d = e + 1 := ⟨d - 1, by omega⟩
  have hF' : mFn B n bk L J r dep (fun I => zCd zT e 267 [.ref 130] (zm L I J r)) F := hF
  intro I s st ha hb h13 h14 h2
  have sn := mAt_n ha
  obtain ⟨I1, st1, c1, c2, c3, c4, c5, c6, c7⟩ := hF' I s st ha hb h13 h14 h2
  have c1' : zCd zT e 267 [.ref 130] (zm L I J r) = _ := c1
  obtain ⟨I2, st2, d1, d2, d3, d4, d5, d6, d7⟩ := mParL (d := e) (by omega) hn hB hF' st 400 I1 (F s) st1 c2 (mBk_r c7 hb) ((c7 130 13 (by omega) (by omega) (by omega)).trans h13) c3 (by omega) c4 c6 (fun q => by
    have := hS s sn q
    omega)
  refine ⟨I2, st2, ?_, d2, d3, Nat.le_trans c4 d4, ?_, d6, mRw_tr c4 c7 d7⟩
  · dsimp only
    rw [qX12_readPart, eX12_readPart_0, c1', zbV_s, d1]
  · have d5' : 2 * st2 + (F s).1.2 ≤ 2 * st1 + (yPar B n F s).1.2 := d5
    omega
theorem mTesL (hd : 8 ≤ d) (hn : n ≤ 400) (hB : ∀ k, k < n → B k < 256) {dep : Nat} {F : yTkS → yHld} (hF : mFn B n bk L J r dep (fun I => zCd zT d 266 [.ref 130] (zm L I J r)) F) (st0 : Nat) : ∀ (f : Nat) (I : Nat → Nat → Int32) (z : yHld) (st : Nat), mAt B n I z.1 → mBk I bk → I 130 13 = zi (dep : Int) → I 130 14 = zi (st : Int) → 2 * st ≤ z.1.2 → st0 ≤ st → (z.1.1 = 0 → mE (I 132) st0 st z.2) → (z.1.1 = 0 → n < f + z.1.2) → ∃ (I' : Nat → Nat → Int32) (st' : Nat), zX 2 (zCd zT d) zc_X12_readTest 1 [some (.ref 130)] [] (zm L I J r) = some (none, zm L I' J r) ∧ mAt B n I' (yLpo B n 10 or F f z).1 ∧ I' 130 14 = zi (st' : Int) ∧ st ≤ st' ∧ 2 * st' + z.1.2 ≤ 2 * st + (yLpo B n 10 or F f z).1.2 ∧ ((yLpo B n 10 or F f z).1.1 = 0 → mE (I' 132) st0 st' (yLpo B n 10 or F f z).2) ∧ mRw st I I' := by
  intro f
  induction f with
  | zero =>
    intro I z st ha hb h13 h14 h2 h0 hm hf
    have zn := mAt_n ha
    have nf : z.1.1 ≠ 0 := fun q => by
      have := hf q
      omega
    have me := (mEats (d := d) (L := L) (J := J) (r := r) hd hn hB ha (k := 10) (by decide)).1 (yIsK_f nf)
    have me' : zCd zT d 254 [.ref 130, .int 10] (zm L I J r) = _ := me
    rw [eX12_readTest_1, me', zbI_s, eX12_readTest_2, if_pos (show (0 : Int32) = 0 from rfl), eX12_readTest_5, yLpo]
    exact ⟨I, st, rfl, ha, h14, Nat.le_refl _, by omega, hm, mRw_rf⟩
  | succ f ih =>
    intro I z st ha hb h13 h14 h2 h0 hm hf
    have zn := mAt_n ha
    have me := mEats (d := d) (L := L) (J := J) (r := r) hd hn hB ha (k := 10) (by decide)
    rw [eX12_readTest_1, yLpo]
    cases g : yIsK B n z.1 10
    · have me' : zCd zT d 254 [.ref 130, .int 10] (zm L I J r) = _ := me.1 g
      rw [me', zbI_s, eX12_readTest_2, if_pos (show (0 : Int32) = 0 from rfl), eX12_readTest_5, if_neg (by decide)]
      exact ⟨I, st, rfl, ha, h14, Nat.le_refl _, by omega, hm, mRw_rf⟩
    · have gg := yZb.mp g
      have p2 := yAdv_g2 (B := B) gg.1 zn (by rw [gg.2]; decide)
      obtain ⟨I1, c1, c2, c3, c4⟩ := me.2 g
      have c1' : zCd zT d 254 [.ref 130, .int 10] (zm L I J r) = _ := c1
      obtain ⟨I2, st2, d1, d2, d3, d4, d5, d6, d7⟩ := hF I1 (yAdv B n z.1) st c2 (mBk_t c3 hb) ((c3 130 13 (by omega)).trans h13) ((c3 130 14 (by omega)).trans h14) (by omega)
      have d1' : zCd zT d 266 [.ref 130] (zm L I1 J r) = _ := d1
      have fn := mAt_n d2
      obtain ⟨I3, st3, e1, e2, e3, e4, e5, e6, e7, e8⟩ := mEmIf (d := d) (L := L) (J := J) (r := r) (st := st2) (by omega) (by omega) d3 10 0 d2 (K := fun N => zX 2 (zCd zT d) zc_X12_readTest 4 [some (.ref 130)] [] N)
      simp only [eX12_readTest_4] at e1
      have fr : mRw st I I3 := mRw_tr (Nat.le_refl _) (mRw_t c3) (mRw_tr d4 d7 e7)
      have low : ∀ k, k < 118 + 2 * st → I3 132 k = I 132 k := fun k hk => by rw [e8 k (by omega), d7 132 k (by omega) (by omega) (by omega), c3 132 k (by omega)]
      obtain ⟨I4, st4, f1, f2, f3, f4, f5, f6, f7⟩ := ih I3 ((F (yAdv B n z.1)).1, fun i => or (z.2 i) ((F (yAdv B n z.1)).2 i)) st3 e2 (mBk_r fr hb) ((fr 130 13 (by omega) (by omega) (by omega)).trans h13) e3 (show 2 * st3 ≤ (F (yAdv B n z.1)).1.2 by omega) (by omega) (fun q => by
        obtain ⟨x1, x2, x3⟩ := e6 q
        rw [x1]
        refine mE_2 (op := or) h0 d4 (mE_c low h0 (hm gg.1)) (mE_c (fun k hk => e8 k hk) d4 (d6 q)) (fun i x y stk => ?_)
        rw [x2]
        exact yOp10) (fun q => by
        have := hf gg.1
        have d5' : 2 * st2 + (yAdv B n z.1).2 ≤ 2 * st + (F (yAdv B n z.1)).1.2 := d5
        show n < f + (F (yAdv B n z.1)).1.2
        omega)
      rw [c1', zbI_s, eX12_readTest_2, if_neg (show ¬ (1 : Int32) = 0 by decide), d1', zbV_s, eX12_readTest_3, e1, if_pos rfl]
      have f5' : 2 * st4 + (F (yAdv B n z.1)).1.2 ≤ 2 * st3 + (yLpo B n 10 or F f ((F (yAdv B n z.1)).1, fun i => or (z.2 i) ((F (yAdv B n z.1)).2 i))).1.2 := f5
      exact ⟨I4, st4, f1, f2, f3, by omega, by omega, f6, mRw_tr (show st ≤ st3 by omega) fr f7⟩
theorem mTes (hd : 9 ≤ d) (hn : n ≤ 400) (hB : ∀ k, k < n → B k < 256) {dep : Nat} {F : yTkS → yHld} (hF : mFn B n bk L J r dep (fun I => zCd zT (d - 1) 266 [.ref 130] (zm L I J r)) (yPar B n F)) (hS : ∀ s : yTkS, s.2 ≤ n → (yPar B n F s).1.1 = 0 → s.2 < (yPar B n F s).1.2) : mFn B n bk L J r dep (fun I => zCd zT d 265 [.ref 130] (zm L I J r)) (yTes B n F) := by
  obtain ⟨e, rfl⟩ : ∃ e, d = e + 1 := ⟨d - 1, by omega⟩
  have hF' : mFn B n bk L J r dep (fun I => zCd zT e 266 [.ref 130] (zm L I J r)) (yPar B n F) := hF
  intro I s st ha hb h13 h14 h2
  have sn := mAt_n ha
  obtain ⟨I1, st1, c1, c2, c3, c4, c5, c6, c7⟩ := hF' I s st ha hb h13 h14 h2
  have c1' : zCd zT e 266 [.ref 130] (zm L I J r) = _ := c1
  obtain ⟨I2, st2, d1, d2, d3, d4, d5, d6, d7⟩ := mTesL (d := e) (by omega) hn hB hF' st 400 I1 (yPar B n F s) st1 c2 (mBk_r c7 hb) ((c7 130 13 (by omega) (by omega) (by omega)).trans h13) c3 (by omega) c4 c6 (fun q => by
    have := hS s sn q
    omega)
  refine ⟨I2, st2, ?_, d2, d3, Nat.le_trans c4 d4, ?_, d6, mRw_tr c4 c7 d7⟩
  · dsimp only
    rw [qX12_readTest, eX12_readTest_0, c1', zbV_s, d1]
  · have d5' : 2 * st2 + (yPar B n F s).1.2 ≤ 2 * st1 + (yTes B n F s).1.2 := d5
    omega
end
