/-! TEXT of a TRACK: the model reads it, line by line -/
section
variable {d L r : Nat} {I : Nat → Nat → Int32} {J : Nat → Nat → Int64}
variable {B : Nat → Nat} {n : Nat}
theorem mChn (hd : 12 ≤ d) (hn : n ≤ 400) (hB : ∀ k, k < n → B k < 256) {s : yTkS} {x : zDy × Bool × Bool} (ha : mAt B n I s) (hx : mDat I x) (hw : wNt x.1) (hs : s.1 = 0) : ∃ I', zCd zT d 260 [.ref 130] (zm L I J r) = some (none, (zm L I' J r)) ∧ mAt B n I' (yChn B n s x.1).1 ∧ ((yChn B n s x.1).1.1 = 0 → mDat I' ((yChn B n s x.1).2, x.2)) ∧ mFw I I' := by
  obtain ⟨e, rfl⟩ : ∃ e, d = e + 1 := ⟨d - 1, by omega⟩
  have w1 := hw.1
  have w5 := hw.2.2.2.2.1
  have w3 := hw.2.2.1
  obtain ⟨I1, c1, c2, c3, c4, c5, c6, c7⟩ := mSpn (d := e) (L := L) (J := J) (r := r) (by omega) hn hB (t := x.1) ha hx.1 w1 hs (mn := 67) (fr := 68) (to := 70) (c := x.1.nc) hx.2.2.2.2.1 w5 (by decide) (by omega)
  have c1' : zCd zT e 259 [.ref 130, .int 67, .int 68, .int 70] (zm L I J r) = _ := c1
  obtain ⟨I2, d1, d2, d3, d4⟩ := mNeeds (d := e) (L := L) (J := J) (r := r) (by omega) hn hB c2 (k := 4) (by decide)
  have d1' : zCd zT e 255 [.ref 130, .int 4] (zm L I1 J r) = _ := d1
  obtain ⟨I3, v, e1, e2, e3, e4, e5⟩ := mReads (d := e) (L := L) (J := J) (r := r) (by omega) hn hB d2 (a1 := 0) (a2 := 999) (lo := 0) (hi := 999) (fun _ => ⟨rfl, rfl⟩) (by decide) (by decide) true
  have e1' : zCd zT e 256 [.ref 130, .int 0, .int 999, .int 0] (zm L I2 J r) = _ := e1
  have mm := mFt_tr d3 e3
  rw [qX12_readChain, eX12_readChain_0, c1', zbV_s, eX12_readChain_1, d1', zbV_s, eX12_readChain_2, e1', zbI_s, eX12_readChain_3]
  unfold yChn
  by_cases q : 2 ≤ x.1.nc
  · rw [if_pos q] at e2 e4
    rw [if_pos q]
    have nf : (yFa B n s 5).1 ≠ 0 := yFa_n (by decide)
    rw [yNd_f nf, yRdN_f nf] at e2 e4
    rw [if_neg (fun z => absurd rfl (e4.mp z)), eX12_readChain_4]
    exact ⟨I3, rfl, e2, fun z => absurd z nf, mFw_tr c5 (mFw_t mm)⟩
  · rw [if_neg q] at e2 e4 e5
    rw [if_neg q]
    rcases yRdN_c (B := B) (n := n) (s := yNd B n (ySpn B n s x.1).2.1 4) (lo := 0) (hi := 999) (room := true) with c | c
    · rw [if_neg (fun z => e4.mp z c.1), eX12_readChain_4]
      exact ⟨I3, rfl, e2, fun z => absurd z c.2, mFw_tr c5 (mFw_t mm)⟩
    · have s0 := (yNd_m (B := B) (n := n) (s := (ySpn B n s x.1).2.1) (k := 4) c.2.1).1
      have tk := (yRdN_0 s0).1
      have e132 : I3 132 = _ := (mFt_o mm (by decide)).trans (c4 ⟨by omega, tk⟩)
      have f : ∀ k, I3 132 k = zu (zu (zu I 132 (68 + x.1.nc) (zi (ySpn B n s x.1).1.2)) 132 (70 + x.1.nc) (zi (ySpn B n s x.1).2.2)) 132 67 (zi ((x.1.nc + 1 : Nat) : Int)) 132 k := fun k => congrFun e132 k
      have k67 : I3 132 67 = zi ((x.1.nc + 1 : Nat) : Int) := by rw [f 67, zu_y ⟨rfl, rfl⟩]
      have k1 : ((72 : Int32) + zi ((x.1.nc + 1 : Nat) : Int)) - (1 : Int32) = zi ((72 + x.1.nc : Nat) : Int) := by
        rw [show (72 : Int32) = zi 72 from rfl, show (1 : Int32) = zi 1 from rfl, zi_add, zi_sub]
        exact congrArg zi (by omega)
      rw [if_pos (e4.mpr c.1), k67, k1, zin_t (by omega) (by omega), zgd_t, zi_cl (by omega), Int.toNat_natCast, eX12_readChain_4, e5 c.1, if_neg c.1]
      obtain ⟨h1, h2, h3, h4, h5, h6, h7, h8, h9, h10, h11, h12⟩ := hx
      refine ⟨_, rfl, mAt_fr (fun k _ _ => by rw [zu_o (by decide)]) (by rw [zu_o (by decide)]) e2, fun _ => ⟨?_, fun p hp => ?_, ?_, fun i hi => ?_, ?_, fun c hc => ?_, ?_, fun c hc => ?_, ?_, ?_, ?_, ?_⟩, mFw_tr (mFw_tr c5 (mFw_t mm)) (fun o k a b c => by rw [zu_n (by omega)])⟩
      · rw [zu_n (by omega), f, zu_n (by decide), zu_n (by omega), zu_n (by omega)]
        exact h1
      · have hp' : p < x.1.n := hp
        rw [zu_n (by omega), f, zu_n (by omega), zu_n (by omega), zu_n (by omega)]
        exact h2 p hp
      · rw [zu_n (by omega), f, zu_n (by omega), zu_n (by omega), zu_n (by omega)]
        exact h3
      · have hi' : i < x.1.m := hi
        rw [zu_n (by omega), f, zu_n (by omega), zu_n (by omega), zu_n (by omega)]
        exact h4 i hi
      · rw [zu_n (by omega), k67]
        rfl
      · have hc' : c < x.1.nc + 1 := hc
        show _ = zi (yFn x.1.cf x.1.nc _ c) ∧ _ = zi (yFn x.1.ct x.1.nc _ c) ∧ _ = zi (yFn x.1.cv x.1.nc _ c)
        by_cases z : c = x.1.nc
        · rw [z, yFn_y, yFn_y, yFn_y, zu_n (by omega), zu_n (by omega), zu_y ⟨rfl, rfl⟩, f, f, zu_n (by omega), zu_n (by omega), zu_y ⟨rfl, rfl⟩, zu_n (by omega), zu_y ⟨rfl, rfl⟩]
          exact ⟨rfl, rfl, rfl⟩
        · have h := h6 c (by omega)
          rw [yFn_n z, yFn_n z, yFn_n z, zu_n (by omega), zu_n (by omega), zu_n (by omega), f, f, f, zu_n (by omega), zu_n (by omega), zu_n (by omega), zu_n (by omega), zu_n (by omega), zu_n (by omega), zu_n (by omega), zu_n (by omega), zu_n (by omega)]
          exact h
      · rw [zu_n (by omega), f, zu_n (by omega), zu_n (by omega), zu_n (by omega)]
        exact h7
      · have hc' : c < x.1.nd := hc
        have w7 := hw.2.2.2.2.2.2.1
        rw [zu_n (by omega), zu_n (by omega), f, f, zu_n (by omega), zu_n (by omega), zu_n (by omega), zu_n (by omega), zu_n (by omega), zu_n (by omega)]
        exact h8 c hc
      · rw [zu_n (by omega), f, zu_n (by omega), zu_n (by omega), zu_n (by omega)]
        exact h9
      · rw [zu_n (by omega), f, zu_n (by omega), zu_n (by omega), zu_n (by omega)]
        exact h10
      · rw [zu_n (by omega), mm 130 17 (by omega), c6]
        exact h11
      · rw [zu_n (by omega), mm 130 18 (by omega), c7]
        exact h12
theorem mDgn (hd : 12 ≤ d) (hn : n ≤ 400) (hB : ∀ k, k < n → B k < 256) {s : yTkS} {x : zDy × Bool × Bool} (ha : mAt B n I s) (hx : mDat I x) (hw : wNt x.1) (hs : s.1 = 0) : ∃ I', zCd zT d 259 [.ref 130, .int 74, .int 75, .int 77] (zm L I J r) = some (none, (zm L I' J r)) ∧ mAt B n I' (yDgn B n s x.1).1 ∧ ((yDgn B n s x.1).1.1 = 0 → mDat I' ((yDgn B n s x.1).2, x.2)) ∧ mFw I I' := by
  have w1 := hw.1
  have w5 := hw.2.2.2.2.1
  have w7 := hw.2.2.2.2.2.2.1
  have w3 := hw.2.2.1
  obtain ⟨I1, c1, c2, c3, c4, c5, c6, c7⟩ := mSpn (d := d) (L := L) (J := J) (r := r) (by omega) hn hB (t := x.1) ha hx.1 w1 hs (mn := 74) (fr := 75) (to := 77) (c := x.1.nd) hx.2.2.2.2.2.2.1 w7 (by decide) (by omega)
  have c1' : zCd zT d 259 [.ref 130, .int 74, .int 75, .int 77] (zm L I J r) = _ := c1
  rw [c1']
  unfold yDgn
  refine ⟨I1, rfl, ?_, fun z => ?_, c5⟩
  · by_cases q : 2 ≤ x.1.nd
    · rw [if_pos q] at c2 ⊢
      exact c2
    · rw [if_neg q] at c2 ⊢
      exact c2
  · by_cases q : 2 ≤ x.1.nd
    · rw [if_pos q] at z
      exact absurd z (yFa_n (by decide))
    · rw [if_neg q] at z ⊢
      have tk : (ySpn B n s x.1).2.2 ≠ -1 := (yRdN_0 z).1
      rw [if_neg tk]
      have e132 := c4 ⟨by omega, tk⟩
      have f : ∀ k, I1 132 k = zu (zu (zu I 132 (75 + x.1.nd) (zi (ySpn B n s x.1).1.2)) 132 (77 + x.1.nd) (zi (ySpn B n s x.1).2.2)) 132 74 (zi ((x.1.nd + 1 : Nat) : Int)) 132 k := fun k => congrFun e132 k
      obtain ⟨h1, h2, h3, h4, h5, h6, h7, h8, h9, h10, h11, h12⟩ := hx
      refine ⟨?_, fun p hp => ?_, ?_, fun i hi => ?_, ?_, fun c hc => ?_, ?_, fun c hc => ?_, ?_, ?_, c6.trans h11, c7.trans h12⟩
      · rw [f, zu_n (by decide), zu_n (by omega), zu_n (by omega)]
        exact h1
      · have hp' : p < x.1.n := hp
        rw [f, zu_n (by omega), zu_n (by omega), zu_n (by omega)]
        exact h2 p hp
      · rw [f, zu_n (by omega), zu_n (by omega), zu_n (by omega)]
        exact h3
      · have hi' : i < x.1.m := hi
        rw [f, zu_n (by omega), zu_n (by omega), zu_n (by omega)]
        exact h4 i hi
      · rw [f, zu_n (by omega), zu_n (by omega), zu_n (by omega)]
        exact h5
      · have hc' : c < x.1.nc := hc
        rw [f, f, f, zu_n (by omega), zu_n (by omega), zu_n (by omega), zu_n (by omega), zu_n (by omega), zu_n (by omega), zu_n (by omega), zu_n (by omega), zu_n (by omega)]
        exact h6 c hc
      · rw [f, zu_y ⟨rfl, rfl⟩]
        rfl
      · have hc' : c < x.1.nd + 1 := hc
        show _ = zi (yFn x.1.df x.1.nd _ c) ∧ _ = zi (yFn x.1.dt x.1.nd _ c)
        by_cases y : c = x.1.nd
        · rw [y, yFn_y, yFn_y, f, f, zu_n (by omega), zu_n (by omega), zu_y ⟨rfl, rfl⟩, zu_n (by omega), zu_y ⟨rfl, rfl⟩]
          exact ⟨rfl, rfl⟩
        · have h := h8 c (by omega)
          rw [yFn_n y, yFn_n y, f, f, zu_n (by omega), zu_n (by omega), zu_n (by omega), zu_n (by omega), zu_n (by omega), zu_n (by omega)]
          exact h
      · rw [f, zu_n (by omega), zu_n (by omega), zu_n (by omega)]
        exact h9
      · rw [f, zu_n (by omega), zu_n (by omega), zu_n (by omega)]
        exact h10
theorem mDrg (hd : 9 ≤ d) (hn : n ≤ 400) (hB : ∀ k, k < n → B k < 256) {s : yTkS} {x : zDy × Bool × Bool} (ha : mAt B n I s) (hx : mDat I x) (hw : wNt x.1) (hs : s.1 = 0) : ∃ I', zCd zT d 261 [.ref 130] (zm L I J r) = some (none, (zm L I' J r)) ∧ mAt B n I' (if x.2.1 = true then yFa B n s 4 else (yRdN B n (yAdv B n s) 0 50 true).1) ∧ ((if x.2.1 = true then yFa B n s 4 else (yRdN B n (yAdv B n s) 0 50 true).1).1 = 0 → mDat I' (if x.2.1 = true then x else (ySetD x.1 (yRdN B n (yAdv B n s) 0 50 true).2, true, x.2.2))) ∧ mFw I I' := by
  obtain ⟨e, rfl⟩ : ∃ e, d = e + 1 := ⟨d - 1, by omega⟩
  have a3 := (ha.2.1 hs).2.2.1
  have w1 := hw.1
  have w3 := hw.2.2.1
  have w5 := hw.2.2.2.2.1
  have w7 := hw.2.2.2.2.2.2.1
  obtain ⟨h1, h2, h3, h4, h5, h6, h7, h8, h9, h10, h11, h12⟩ := hx
  rw [qX12_readDrag, eX12_readDrag_0, h11]
  cases q : x.2.1
  · obtain ⟨I0, hI0⟩ : ∃ I0, I0 = zu I 130 17 1 := ⟨_, rfl⟩
    have ha0 : mAt B n I0 s := mAt_fr (fun k _ _ => by rw [hI0, zu_n (by omega)]) (by rw [hI0, zu_o (by decide)]) ha
    obtain ⟨I1, c1, c2, c3, c4⟩ := mNextA (d := e) (L := L) (J := J) (r := r) (by omega) hn hB ha0 hs
    obtain ⟨I2, v, d1, d2, d3, d4, d5⟩ := mReads (d := e) (L := L) (J := J) (r := r) (by omega) hn hB c2 (a1 := 0) (a2 := 50) (lo := 0) (hi := 50) (fun _ => ⟨rfl, rfl⟩) (by decide) (by decide) true
    have d1' : zCd zT e 256 [.ref 130, .int 0, .int 50, .int 0] (zm L I1 J r) = _ := d1
    have mm := mFt_tr c3 d3
    have e132 : I2 132 = I 132 := by rw [mFt_o mm (by decide), hI0, zu_o (by decide)]
    rw [if_pos (show zb1 false = 0 by decide), eX12_readDrag_1, if_pos a3, eX12_readDrag_2, ← hI0, c1, zbV_s, eX12_readDrag_3, d1', zbI_s, eX12_readDrag_4, show zin (79 : Int32) 618 = true from rfl, zgd_t, show (79 : Int32).toNatClampNeg = 79 from rfl, if_neg (show ¬ false = true by decide)]
    refine ⟨_, rfl, mAt_fr (fun k _ _ => by rw [zu_o (by decide)]) (by rw [zu_o (by decide)]) d2, fun z => ?_, fun o k a b c => ?_⟩
    · have tk := (yRdN_0 z).1
      rw [if_neg (show ¬ false = true by decide), d5 tk]
      refine ⟨?_, fun p hp => ?_, ?_, fun i hi => ?_, ?_, fun c hc => ?_, ?_, fun c hc => ?_, zu_y ⟨rfl, rfl⟩, ?_, ?_, ?_⟩
      · rw [zu_n (by decide), e132]
        exact h1
      · have hp' : p < x.1.n := hp
        rw [zu_n (by omega), e132]
        exact h2 p hp
      · rw [zu_n (by decide), e132]
        exact h3
      · have hi' : i < x.1.m := hi
        rw [zu_n (by omega), e132]
        exact h4 i hi
      · rw [zu_n (by decide), e132]
        exact h5
      · have hc' : c < x.1.nc := hc
        rw [zu_n (by omega), zu_n (by omega), zu_n (by omega), e132]
        exact h6 c hc
      · rw [zu_n (by decide), e132]
        exact h7
      · have hc' : c < x.1.nd := hc
        rw [zu_n (by omega), zu_n (by omega), e132]
        exact h8 c hc
      · rw [zu_n (by decide), e132]
        exact h10
      · rw [zu_n (by decide), mm 130 17 (by omega), hI0, zu_y ⟨rfl, rfl⟩]
        rfl
      · rw [zu_n (by decide), mm 130 18 (by omega), hI0, zu_n (by decide)]
        exact h12
    · rw [zu_n (by omega), mm o k a, hI0, zu_n (by omega)]
  · obtain ⟨I1, c1, c2, c3, c4⟩ := mFails (d := e) (L := L) (J := J) (r := r) (by omega) ha (f := 4) (by decide)
    have c1' : zCd zT e 252 [.ref 130, .int 4] (zm L I J r) = _ := c1
    rw [if_neg (show ¬ zb1 true = 0 by decide), c1', zbV_s, eX12_readDrag_1, if_neg c4, if_pos rfl]
    exact ⟨I1, rfl, c2, fun z => absurd z (yFa_n (by decide)), mFw_t c3⟩
theorem mPsh (hd : 9 ≤ d) (hn : n ≤ 400) (hB : ∀ k, k < n → B k < 256) {s : yTkS} {x : zDy × Bool × Bool} (ha : mAt B n I s) (hx : mDat I x) (hw : wNt x.1) (hs : s.1 = 0) : ∃ I', zCd zT d 262 [.ref 130] (zm L I J r) = some (none, (zm L I' J r)) ∧ mAt B n I' (if x.2.2 = true then yFa B n s 4 else (yRdN B n (yAdv B n s) 0 999 true).1) ∧ ((if x.2.2 = true then yFa B n s 4 else (yRdN B n (yAdv B n s) 0 999 true).1).1 = 0 → mDat I' (if x.2.2 = true then x else (ySetP x.1 (yRdN B n (yAdv B n s) 0 999 true).2, x.2.1, true))) ∧ mFw I I' := by
  obtain ⟨e, rfl⟩ : ∃ e, d = e + 1 := ⟨d - 1, by omega⟩
  have a3 := (ha.2.1 hs).2.2.1
  have w1 := hw.1
  have w3 := hw.2.2.1
  have w5 := hw.2.2.2.2.1
  have w7 := hw.2.2.2.2.2.2.1
  obtain ⟨h1, h2, h3, h4, h5, h6, h7, h8, h9, h10, h11, h12⟩ := hx
  rw [qX12_readPush, eX12_readPush_0, h12]
  cases q : x.2.2
  · obtain ⟨I0, hI0⟩ : ∃ I0, I0 = zu I 130 18 1 := ⟨_, rfl⟩
    have ha0 : mAt B n I0 s := mAt_fr (fun k _ _ => by rw [hI0, zu_n (by omega)]) (by rw [hI0, zu_o (by decide)]) ha
    obtain ⟨I1, c1, c2, c3, c4⟩ := mNextA (d := e) (L := L) (J := J) (r := r) (by omega) hn hB ha0 hs
    obtain ⟨I2, v, d1, d2, d3, d4, d5⟩ := mReads (d := e) (L := L) (J := J) (r := r) (by omega) hn hB c2 (a1 := 0) (a2 := 999) (lo := 0) (hi := 999) (fun _ => ⟨rfl, rfl⟩) (by decide) (by decide) true
    have d1' : zCd zT e 256 [.ref 130, .int 0, .int 999, .int 0] (zm L I1 J r) = _ := d1
    have mm := mFt_tr c3 d3
    have e132 : I2 132 = I 132 := by rw [mFt_o mm (by decide), hI0, zu_o (by decide)]
    rw [if_pos (show zb1 false = 0 by decide), eX12_readPush_1, if_pos a3, eX12_readPush_2, ← hI0, c1, zbV_s, eX12_readPush_3, d1', zbI_s, eX12_readPush_4, show zin (80 : Int32) 618 = true from rfl, zgd_t, show (80 : Int32).toNatClampNeg = 80 from rfl, if_neg (show ¬ false = true by decide)]
    refine ⟨_, rfl, mAt_fr (fun k _ _ => by rw [zu_o (by decide)]) (by rw [zu_o (by decide)]) d2, fun z => ?_, fun o k a b c => ?_⟩
    · have tk := (yRdN_0 z).1
      rw [if_neg (show ¬ false = true by decide), d5 tk]
      refine ⟨?_, fun p hp => ?_, ?_, fun i hi => ?_, ?_, fun c hc => ?_, ?_, fun c hc => ?_, ?_, zu_y ⟨rfl, rfl⟩, ?_, ?_⟩
      · rw [zu_n (by decide), e132]
        exact h1
      · have hp' : p < x.1.n := hp
        rw [zu_n (by omega), e132]
        exact h2 p hp
      · rw [zu_n (by decide), e132]
        exact h3
      · have hi' : i < x.1.m := hi
        rw [zu_n (by omega), e132]
        exact h4 i hi
      · rw [zu_n (by decide), e132]
        exact h5
      · have hc' : c < x.1.nc := hc
        rw [zu_n (by omega), zu_n (by omega), zu_n (by omega), e132]
        exact h6 c hc
      · rw [zu_n (by decide), e132]
        exact h7
      · have hc' : c < x.1.nd := hc
        rw [zu_n (by omega), zu_n (by omega), e132]
        exact h8 c hc
      · rw [zu_n (by decide), e132]
        exact h9
      · rw [zu_n (by decide), mm 130 17 (by omega), hI0, zu_n (by decide)]
        exact h11
      · rw [zu_n (by decide), mm 130 18 (by omega), hI0, zu_y ⟨rfl, rfl⟩]
        rfl
    · rw [zu_n (by omega), mm o k a, hI0, zu_n (by omega)]
  · obtain ⟨I1, c1, c2, c3, c4⟩ := mFails (d := e) (L := L) (J := J) (r := r) (by omega) ha (f := 4) (by decide)
    have c1' : zCd zT e 252 [.ref 130, .int 4] (zm L I J r) = _ := c1
    rw [if_neg (show ¬ zb1 true = 0 by decide), c1', zbV_s, eX12_readPush_1, if_neg c4, if_pos rfl]
    exact ⟨I1, rfl, c2, fun z => absurd z (yFa_n (by decide)), mFw_t c3⟩
end
