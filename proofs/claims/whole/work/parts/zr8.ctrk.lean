/-! TEXT of a TRACK: the class reads it -/
theorem yGe0 {k : Nat} (h : k < 2147483648) : ¬ zi (k : Int) < (0 : Int32) := by
  rw [show (0 : Int32) = zi ((0 : Nat) : Int) from rfl, yLt h (by decide)]
  omega
theorem yNe0 {k : Nat} (h : k < 2147483648) (g : k ≠ 0) : ¬ zi (k : Int) = (0 : Int32) := by
  rw [show (0 : Int32) = zi ((0 : Nat) : Int) from rfl, yEq h (by decide)]
  exact g
theorem yZm1 (x : Int) : zi x - (1 : Int32) = zi (x - 1) := zi_sub x 1
theorem yZp1 (x : Int) : zi x + (1 : Int32) = zi (x + 1) := zi_add x 1
theorem yM1 {x : Int} (h : -100000 ≤ x ∧ x ≤ 100000) : zi x = (-1 : Int32) ↔ x = -1 := by
  rw [show (-1 : Int32) = zi (-1) from rfl, zi_eq (by omega) (by decide)]
theorem yRdN_b {B : Nat → Nat} {n : Nat} {s : yTkS} {lo hi : Int} {room : Bool} (h : hi ≤ 100000) (g : 0 ≤ lo) : -100000 ≤ (yRdN B n s lo hi room).2 ∧ (yRdN B n s lo hi room).2 ≤ 100000 := by
  rcases yRdN_c (B := B) (n := n) (s := s) (lo := lo) (hi := hi) (room := room) with c | c
  · rw [c.1]
    decide
  · omega
section
variable {d L r : Nat} {I : Nat → Nat → Int32} {J : Nat → Nat → Int64}
variable {B : Nat → Nat} {n : Nat}
theorem cHgh1 (hd : 3 ≤ d) (hn : n ≤ 400) {s : yTkS} {x : zDy × Bool × Bool} (ha : cAt B n I s) (hx : cDat I J x) (hw : wNt x.1) (k : Int32) : ∃ I', zX 2 (zCd zT d) zc_X10_readHeights 4 [some (.ref 22), some (.ref 17), some (.ref 24), some (.int k), none] [] (zm L I J r) = zX 2 (zCd zT d) zc_X10_readHeights 2 [some (.ref 22), some (.ref 17), some (.ref 24), some (.int (k + (1 : Int32))), none] [] (zm L I' J r) ∧ cAt B n I' (yRdN B n s 0 99 (decide (x.1.n < 60))).1 ∧ cDat I' J ((if (yRdN B n s 0 99 (decide (x.1.n < 60))).2 = -1 then x.1 else yAddP x.1 (yRdN B n s 0 99 (decide (x.1.n < 60))).2), x.2) ∧ cFw I I' J J := by
  have w1 := hw.1
  obtain ⟨I1, c1, c2, c3⟩ := cTkN (d := d) (L := L) (J := J) (r := r) (by omega) hn ha (lo := 0) (hi := 99) (by decide) (by decide) (decide (x.1.n < 60))
  have rb := yRdN_b (B := B) (n := n) (s := s) (lo := 0) (hi := 99) (room := decide (x.1.n < 60)) (by decide) (by decide)
  have go : zX 2 (zCd zT d) zc_X10_readHeights 4 [some (.ref 22), some (.ref 17), some (.ref 24), some (.int k), none] [] (zm L I J r) = zX 2 (zCd zT d) zc_X10_readHeights 7 [some (.ref 22), some (.ref 17), some (.ref 24), some (.int k), none] [.int (zb1 (decide (x.1.n < 60))), .int 99, .int 0, .ref 17] (zm L I J r) := by
    rw [eX10_readHeights_4, sX9_points (by omega) (by decide), zbI_s, hx.1, eX10_readHeights_5]
    by_cases q : x.1.n < 60
    · rw [if_neg (show ¬ (60 : Int32) ≤ zi (x.1.n : Int) by rw [show (60 : Int32) = zi ((60 : Nat) : Int) from rfl, yLe (by omega) (by omega)]; omega), decide_eq_true q]
      rfl
    · rw [if_pos (show (60 : Int32) ≤ zi (x.1.n : Int) by rw [show (60 : Int32) = zi ((60 : Nat) : Int) from rfl, yLe (by omega) (by omega)]; omega), decide_eq_false q, eX10_readHeights_6]
      rfl
  have c1' : zCd zT d 96 [.ref 17, .int 0, .int 99, .int (zb1 (decide (x.1.n < 60)))] (zm L I J r) = _ := c1
  rw [go, eX10_readHeights_7, c1', zbI_s, eX10_readHeights_8]
  have hx1 := cDat_t c3 hx
  rcases yRdN_c (B := B) (n := n) (s := s) (lo := 0) (hi := 99) (room := decide (x.1.n < 60)) with c | c
  · rw [if_pos ((yM1 rb).mpr c.1), eX10_readHeights_9, if_pos c.1]
    exact ⟨I1, rfl, c2, hx1, cFw_t c3⟩
  · obtain ⟨I2, d1, d2, d3⟩ := cAddP (d := d) (L := L) (r := r) (by omega) hx1 (of_decide_eq_true c.2.2.2.2.2.2.1) (yRdN B n s 0 99 (decide (x.1.n < 60))).2
    rw [if_neg (fun q => c.1 ((yM1 rb).mp q)), d1, zbV_s, eX10_readHeights_9, if_neg c.1]
    exact ⟨I2, rfl, cAt_fr (fun o _ _ => d3 o (by omega) (by omega)) c2, d2, cFw_tr (cFw_t c3) ⟨fun o k _ _ g => by rw [d3 o (by omega) (by omega)], fun _ _ _ => rfl⟩⟩
theorem cHghL (hd : 3 ≤ d) (hn : n ≤ 400) : ∀ (f : Nat) (I : Nat → Nat → Int32) (J : Nat → Nat → Int64) (s : yTkS) (x : zDy × Bool × Bool), f ≤ 60 → cAt B n I s → cDat I J x → wNt x.1 → ∃ I' J', zX 2 (zCd zT d) zc_X10_readHeights 4 [some (.ref 22), some (.ref 17), some (.ref 24), some (.int (zi ((60 - f : Nat) : Int))), none] [] (zm L I J r) = some (none, (zm L I' J' r)) ∧ cAt B n I' (yHgh B n (f + 1) (s, x.1)).1 ∧ cDat I' J' ((yHgh B n (f + 1) (s, x.1)).2, x.2) ∧ cFw I I' J J' := by
  intro f
  induction f with
  | zero =>
    intro I J s x _ ha hx hw
    obtain ⟨I1, c1, c2, c3, c4⟩ := cHgh1 (d := d) (L := L) (r := r) hd hn ha hx hw (zi ((60 - 0 : Nat) : Int))
    refine ⟨I1, J, ?_, ?_, ?_, c4⟩
    · rw [c1, eX10_readHeights_2, yZ1, if_pos (show (60 : Int32) < zi ((60 - 0 + 1 : Nat) : Int) by decide), eX10_readHeights_10]
    · rw [yHgh, yHgh]
      split <;> exact c2
    · rw [yHgh, yHgh]
      split <;> exact c3
  | succ f ih =>
    intro I J s x hf ha hx hw
    obtain ⟨I1, c1, c2, c3, c4⟩ := cHgh1 (d := d) (L := L) (r := r) hd hn ha hx hw (zi ((60 - (f + 1) : Nat) : Int))
    have hw1 : wNt (if (yRdN B n s 0 99 (decide (x.1.n < 60))).2 = -1 then x.1 else yAddP x.1 (yRdN B n s 0 99 (decide (x.1.n < 60))).2) := by
      rcases yRdN_c (B := B) (n := n) (s := s) (lo := 0) (hi := 99) (room := decide (x.1.n < 60)) with c | c
      · rw [if_pos c.1]
        exact hw
      · rw [if_neg c.1]
        exact wNt_P hw (of_decide_eq_true c.2.2.2.2.2.2.1) ⟨c.2.2.2.2.1, c.2.2.2.2.2.1⟩
    rw [c1, eX10_readHeights_2, yZ1, show 60 - (f + 1) + 1 = 60 - f by omega, if_neg (show ¬ (60 : Int32) < zi ((60 - f : Nat) : Int) by rw [show (60 : Int32) = zi ((60 : Nat) : Int) from rfl, yLt (by omega) (by omega)]; omega), if_neg (yNe0 (by omega) (by omega)), cNum (by omega) c2, zbI_s, eX10_readHeights_3]
    rw [yHgh]
    cases g : yIsK B n (yRdN B n s 0 99 (decide (x.1.n < 60))).1 15
    · rw [if_pos (show zb1 false = 0 by decide), eX10_readHeights_10, if_neg (by decide)]
      exact ⟨I1, J, rfl, c2, c3, c4⟩
    · rw [if_neg (show ¬ zb1 true = 0 by decide), if_pos rfl]
      obtain ⟨I2, J2, d1, d2, d3, d4⟩ := ih I1 J (yRdN B n s 0 99 (decide (x.1.n < 60))).1 (_, x.2) (by omega) c2 c3 hw1
      exact ⟨I2, J2, d1, d2, d3, cFw_tr c4 d4⟩
theorem cHgh (hd : 4 ≤ d) (hn : n ≤ 400) {s : yTkS} {x : zDy × Bool × Bool} (ha : cAt B n I s) (hx : cDat I J x) (hw : wNt x.1) (hs : s.1 = 0) (hk : yK B n s.2 ≠ 19) : ∃ I' J', zCd zT d 131 [.ref 22, .ref 17, .ref 24] (zm L I J r) = some (none, (zm L I' J' r)) ∧ cAt B n I' (yHgh B n 61 (yAdv B n s, x.1)).1 ∧ cDat I' J' ((yHgh B n 61 (yAdv B n s, x.1)).2, x.2) ∧ cFw I I' J J' := by
  obtain ⟨e, rfl⟩ : ∃ e, d = e + 1 := ⟨d - 1, by omega⟩
  obtain ⟨I1, c1, c2, c3⟩ := cAdv (d := e) (L := L) (J := J) (r := r) (by omega) hn ha hs hk
  obtain ⟨I2, J2, d1, d2, d3, d4⟩ := cHghL (d := e) (L := L) (r := r) (B := B) (n := n) (by omega) hn 60 I1 J (yAdv B n s) x (by decide) c2 (cDat_t c3 hx) hw
  have d1' : zX 2 (zCd zT e) zc_X10_readHeights 4 [some (.ref 22), some (.ref 17), some (.ref 24), some (.int 0), none] [] (zm L I1 J r) = _ := d1
  rw [qX10_readHeights, eX10_readHeights_0, c1, zbV_s, eX10_readHeights_1, eX10_readHeights_2, if_neg (show ¬ (60 : Int32) < 0 by decide), if_pos (show (0 : Int32) = 0 from rfl), d1']
  exact ⟨I2, J2, rfl, d2, d3, cFw_tr (cFw_t c3) d4⟩
theorem cLsp (hd : 2 ≤ d) {x : zDy × Bool × Bool} (hx : cDat I J x) (hw : wNt x.1) : zCd zT d 123 [.ref 24] (zm L I J r) = some (some (.int (zi (yLsp x.1))), (zm L I J r)) := by
  have w3 := hw.2.2.1
  obtain ⟨h1, h2, h3, h4, _⟩ := hx
  rw [sX9_lastSplit hd, h3]
  unfold yLsp
  by_cases e : x.1.m = 0
  · rw [e, if_pos (show zi ((0 : Nat) : Int) < (1 : Int32) by decide), if_pos rfl]
    rfl
  · rw [if_neg (show ¬ zi (x.1.m : Int) < (1 : Int32) by rw [show (1 : Int32) = zi ((1 : Nat) : Int) from rfl, yLt (by omega) (by omega)]; omega), if_pos (show zi (x.1.m : Int) ≤ (5 : Int32) by rw [show (5 : Int32) = zi ((5 : Nat) : Int) from rfl, yLe (by omega) (by omega)]; omega), yZm1, show ((x.1.m : Int) - 1) = ((x.1.m - 1 : Nat) : Int) by omega, zin_t (by omega) (by omega), zgd_t, zi_cl (by omega), Int.toNat_natCast, h4 _ (by omega), if_neg e]
theorem cTBlk (hd : 4 ≤ d) (hn : n ≤ 400) {s : yTkS} {x : zDy × Bool × Bool} (ha : cAt B n I s) (hx : cDat I J x) (hw : wNt x.1) (hs : s.1 = 0) (hk : yK B n s.2 ≠ 19) : ∃ I', zCd zT d 132 [.ref 22, .ref 17, .ref 24] (zm L I J r) = some (none, (zm L I' J r)) ∧ cAt B n I' (yBlk B n s x.1).1 ∧ cDat I' J ((yBlk B n s x.1).2, x.2) ∧ cFw I I' J J := by
  obtain ⟨e, rfl⟩ : ∃ e, d = e + 1 := ⟨d - 1, by omega⟩
  have w1 := hw.1
  have w3 := hw.2.2.1
  have lb := yLsp_b hw
  have bk : (if zi (x.1.n : Int) = 0 then (0 : Int32) else zi (x.1.m : Int) + 1) < (6 : Int32) ↔ x.1.m < 5 := by
    by_cases q : x.1.n = 0
    · have m0 : x.1.m = 0 := by
        by_cases z : x.1.m = 0
        · exact z
        · have := hw.2.2.2.1 0 (by omega)
          omega
      rw [q, m0, if_pos (by decide)]
      decide
    · rw [if_neg (yNe0 (by omega) q), yZ1, show (6 : Int32) = zi ((6 : Nat) : Int) from rfl, yLt (by omega) (by omega)]
      omega
  rw [qX10_readBlock, eX10_readBlock_0, sX9_blocks (by omega) (by decide), zbI_s, hx.1, hx.2.2.1, eX10_readBlock_1]
  unfold yBlk
  by_cases q : 5 ≤ x.1.m
  · obtain ⟨I1, c1, c2, c3⟩ := cFail (d := e) (L := L) (J := J) (r := r) (by omega) hn ha (f := 5) (by decide)
    have c1' : zCd zT e 93 [.ref 17, .int 5] (zm L I J r) = _ := c1
    rw [if_neg (fun z => by have := bk.mp z; omega), c1', zbV_s, eX10_readBlock_2, if_pos q]
    exact ⟨I1, rfl, c2, cDat_t c3 hx, cFw_t c3⟩
  · obtain ⟨I1, c1, c2, c3⟩ := cAdv (d := e) (L := L) (J := J) (r := r) (by omega) hn ha hs hk
    have hx1 := cDat_t c3 hx
    obtain ⟨I2, d1, d2, d3⟩ := cTkN (d := e) (L := L) (J := J) (r := r) (by omega) hn c2 (lo := yLsp x.1 + 1) (hi := (x.1.n : Int) - 1) (by omega) (by omega) true
    have d1' : zCd zT e 96 [.ref 17, .int (zi (yLsp x.1 + 1)), .int (zi ((x.1.n : Int) - 1)), .int 1] (zm L I1 J r) = _ := d1
    have hx2 := cDat_t d3 hx1
    have rb := yRdN_b (B := B) (n := n) (s := yAdv B n s) (lo := yLsp x.1 + 1) (hi := (x.1.n : Int) - 1) (room := true) (by omega) (by omega)
    rw [if_pos (bk.mpr (by omega)), eX10_readBlock_3, c1, zbV_s, eX10_readBlock_4, cLsp (by omega) hx1 hw, zbI_s, eX10_readBlock_5, sX9_points (by omega) (by decide), zbI_s, hx1.1, yZp1, eX10_readBlock_6, yZm1, d1', zbI_s, eX10_readBlock_7, if_neg q]
    rcases yRdN_c (B := B) (n := n) (s := yAdv B n s) (lo := yLsp x.1 + 1) (hi := (x.1.n : Int) - 1) (room := true) with c | c
    · rw [if_pos ((yM1 rb).mpr c.1), eX10_readBlock_8, if_pos c.1]
      exact ⟨I2, rfl, d2, hx2, cFw_tr (cFw_t c3) (cFw_t d3)⟩
    · obtain ⟨I3, e1, e2, e3⟩ := cAddS (d := e) (L := L) (r := r) (by omega) hx2 (by omega) (yRdN B n (yAdv B n s) (yLsp x.1 + 1) ((x.1.n : Int) - 1) true).2
      rw [if_neg (fun q => c.1 ((yM1 rb).mp q)), e1, zbV_s, eX10_readBlock_8, if_neg c.1]
      exact ⟨I3, rfl, cAt_fr (fun o _ _ => e3 o (by omega) (by omega)) d2, e2, cFw_tr (cFw_tr (cFw_t c3) (cFw_t d3)) ⟨fun o k _ _ g => by rw [e3 o (by omega) (by omega)], fun _ _ _ => rfl⟩⟩
/-- a chain's or a dog's two numbers -/
theorem cSpnC (hd : 9 ≤ d) (hn : n ≤ 400) (hB : ∀ k, k < n → B k < 256) {s : yTkS} {x : zDy × Bool × Bool} (ha : cAt B n I s) (hx : cDat I J x) (hw : wNt x.1) (hs : s.1 = 0) (hk : yK B n s.2 ≠ 19) : (∃ I', zX 2 (zCd zT d) zc_X10_readChain 3 [some (.ref 22), some (.ref 17), some (.ref 24), none, none, none] [] (zm L I J r) = zX 2 (zCd zT d) zc_X10_readChain 9 [some (.ref 22), some (.ref 17), some (.ref 24), some (.int (zi (ySpn B n s x.1).1.2)), none, none] [.int (zi (ySpn B n s x.1).2.2)] (zm L I' J r) ∧ cAt B n I' (ySpn B n s x.1).2.1 ∧ cDat I' J x ∧ cFt I I') ∧ ∃ I', zX 2 (zCd zT d) zc_X10_readDog 3 [some (.ref 22), some (.ref 17), some (.ref 24), none, none] [] (zm L I J r) = zX 2 (zCd zT d) zc_X10_readDog 9 [some (.ref 22), some (.ref 17), some (.ref 24), some (.int (zi (ySpn B n s x.1).1.2)), none] [.int (zi (ySpn B n s x.1).2.2)] (zm L I' J r) ∧ cAt B n I' (ySpn B n s x.1).2.1 ∧ cDat I' J x ∧ cFt I I' := by
  have w1 := hw.1
  obtain ⟨I1, c1, c2, c3⟩ := cAdv (d := d) (L := L) (J := J) (r := r) (by omega) hn ha hs hk
  have hx1 := cDat_t c3 hx
  obtain ⟨I2, d1, d2, d3⟩ := cTkN (d := d) (L := L) (J := J) (r := r) (by omega) hn c2 (lo := 0) (hi := (x.1.n : Int) - 1) (by decide) (by omega) true
  have d1' : zCd zT d 96 [.ref 17, .int 0, .int (zi ((x.1.n : Int) - 1)), .int 1] (zm L I1 J r) = _ := d1
  have hx2 := cDat_t d3 hx1
  have rb : -1 ≤ (yRdN B n (yAdv B n s) 0 ((x.1.n : Int) - 1) true).2 ∧ (yRdN B n (yAdv B n s) 0 ((x.1.n : Int) - 1) true).2 ≤ 59 := by
    rcases yRdN_c (B := B) (n := n) (s := yAdv B n s) (lo := 0) (hi := (x.1.n : Int) - 1) (room := true) with c | c
    · rw [c.1]
      decide
    · omega
  obtain ⟨I3, e1, e2, e3⟩ := cTkW (d := d) (L := L) (J := J) (r := r) (by omega) hn hB d2 (q := 3) (by decide)
  have e1' : zCd zT d 94 [.ref 17, .ref 1006] (zm L I2 J r) = _ := e1
  have hx3 := cDat_t e3 hx2
  obtain ⟨I4, f1, f2, f3⟩ := cTkN (d := d) (L := L) (J := J) (r := r) (by omega) hn e2 (lo := (yRdN B n (yAdv B n s) 0 ((x.1.n : Int) - 1) true).2 + 1) (hi := (x.1.n : Int) - 1) (by omega) (by omega) true
  have f1' : zCd zT d 96 [.ref 17, .int (zi ((yRdN B n (yAdv B n s) 0 ((x.1.n : Int) - 1) true).2 + 1)), .int (zi ((x.1.n : Int) - 1)), .int 1] (zm L I3 J r) = _ := f1
  have hx4 := cDat_t f3 hx3
  have fr := cFt_tr (cFt_tr c3 d3) (cFt_tr e3 f3)
  constructor
  · rw [eX10_readChain_3, c1, zbV_s, eX10_readChain_4, sX9_points (by omega) (by decide), zbI_s, hx1.1, eX10_readChain_5, yZm1, d1', zbI_s, eX10_readChain_6, e1', zbV_s, eX10_readChain_7, sX9_points (by omega) (by decide), zbI_s, hx3.1, yZp1, eX10_readChain_8, yZm1, f1', zbI_s]
    exact ⟨I4, rfl, f2, hx4, fr⟩
  · rw [eX10_readDog_3, c1, zbV_s, eX10_readDog_4, sX9_points (by omega) (by decide), zbI_s, hx1.1, eX10_readDog_5, yZm1, d1', zbI_s, eX10_readDog_6, e1', zbV_s, eX10_readDog_7, sX9_points (by omega) (by decide), zbI_s, hx3.1, yZp1, eX10_readDog_8, yZm1, f1', zbI_s]
    exact ⟨I4, rfl, f2, hx4, fr⟩
theorem ySpn_r {B : Nat → Nat} {n : Nat} {s : yTkS} {t : zDy} (hn : t.n ≤ 60) : (-100000 ≤ (ySpn B n s t).1.2 ∧ (ySpn B n s t).1.2 ≤ 100000) ∧ -100000 ≤ (ySpn B n s t).2.2 ∧ (ySpn B n s t).2.2 ≤ 100000 := by
  have r1 := yRdN_b (B := B) (n := n) (s := yAdv B n s) (lo := 0) (hi := (t.n : Int) - 1) (room := true) (by omega) (by omega)
  have e1 : (ySpn B n s t).1.2 = (yRdN B n (yAdv B n s) 0 ((t.n : Int) - 1) true).2 := rfl
  refine ⟨by rw [e1]; exact r1, ?_⟩
  by_cases q : (ySpn B n s t).2.2 = -1
  · rw [q]
    decide
  · have := ySpn_b q
    omega
theorem cChn (hd : 10 ≤ d) (hn : n ≤ 400) (hB : ∀ k, k < n → B k < 256) {s : yTkS} {x : zDy × Bool × Bool} (ha : cAt B n I s) (hx : cDat I J x) (hw : wNt x.1) (hs : s.1 = 0) (hk : yK B n s.2 ≠ 19) : ∃ I' J', zCd zT d 133 [.ref 22, .ref 17, .ref 24] (zm L I J r) = some (none, (zm L I' J' r)) ∧ cAt B n I' (yChn B n s x.1).1 ∧ cDat I' J' ((yChn B n s x.1).2, x.2) ∧ cFw I I' J J' := by
  obtain ⟨e, rfl⟩ : ∃ e, d = e + 1 := ⟨d - 1, by omega⟩
  have w5 := hw.2.2.2.2.1
  have w1 := hw.1
  rw [qX10_readChain, eX10_readChain_0, sX9_chains (by omega) (by decide), zbI_s, hx.2.2.2.2.1, eX10_readChain_1]
  unfold yChn
  by_cases q : 2 ≤ x.1.nc
  · obtain ⟨I1, c1, c2, c3⟩ := cFail (d := e) (L := L) (J := J) (r := r) (by omega) hn ha (f := 5) (by decide)
    have c1' : zCd zT e 93 [.ref 17, .int 5] (zm L I J r) = _ := c1
    rw [if_neg (show ¬ zi (x.1.nc : Int) < (2 : Int32) by rw [show (2 : Int32) = zi ((2 : Nat) : Int) from rfl, yLt (by omega) (by omega)]; omega), c1', zbV_s, eX10_readChain_2, if_pos q]
    exact ⟨I1, J, rfl, c2, cDat_t c3 hx, cFw_t c3⟩
  · obtain ⟨I1, c1, c2, c3, c4⟩ := (cSpnC (d := e) (L := L) (r := r) (by omega) hn hB ha hx hw hs hk).1
    obtain ⟨I2, d1, d2, d3⟩ := cTkW (d := e) (L := L) (J := J) (r := r) (by omega) hn hB c2 (q := 4) (by decide)
    have d1' : zCd zT e 94 [.ref 17, .ref 1008] (zm L I1 J r) = _ := d1
    have hx2 := cDat_t d3 c3
    obtain ⟨I3, f1, f2, f3⟩ := cTkN (d := e) (L := L) (J := J) (r := r) (by omega) hn d2 (lo := 0) (hi := 999) (by decide) (by decide) true
    have f1' : zCd zT e 96 [.ref 17, .int 0, .int 999, .int 1] (zm L I2 J r) = _ := f1
    have hx3 := cDat_t f3 hx2
    have rb := yRdN_b (B := B) (n := n) (s := yNd B n (ySpn B n s x.1).2.1 4) (lo := 0) (hi := 999) (room := true) (by decide) (by decide)
    have fr := cFt_tr c4 (cFt_tr d3 f3)
    rw [if_pos (show zi (x.1.nc : Int) < (2 : Int32) by rw [show (2 : Int32) = zi ((2 : Nat) : Int) from rfl, yLt (by omega) (by omega)]; omega), c1, eX10_readChain_9, d1', zbV_s, eX10_readChain_10, f1', zbI_s, eX10_readChain_11, if_neg q]
    rcases yRdN_c (B := B) (n := n) (s := yNd B n (ySpn B n s x.1).2.1 4) (lo := 0) (hi := 999) (room := true) with c | c
    · rw [if_pos ((yM1 rb).mpr c.1), eX10_readChain_12, if_pos c.1]
      exact ⟨I3, J, rfl, f2, hx3, cFw_t fr⟩
    · have s0 := (yNd_m (B := B) (n := n) (s := (ySpn B n s x.1).2.1) (k := 4) c.2.1).1
      have b := ySpn_b (yRdN_0 s0).1
      obtain ⟨I4, J4, g1, g2, g3, g4⟩ := cAddC (d := e) (L := L) (r := r) (by omega) hx3 (by omega) (a := (ySpn B n s x.1).1.2) (b := (ySpn B n s x.1).2.2) (v := (yRdN B n (yNd B n (ySpn B n s x.1).2.1 4) 0 999 true).2) b.1 (by omega)
      rw [if_neg (fun q => c.1 ((yM1 rb).mp q)), g1, zbV_s, eX10_readChain_12, if_neg c.1]
      exact ⟨I4, J4, rfl, cAt_fr (fun o _ _ => g3 o (by omega) (by omega)) f2, g2, cFw_tr (cFw_t fr) ⟨fun o k _ _ g => by rw [g3 o (by omega) (by omega)], fun o _ g => g4 o g⟩⟩
theorem cDgn (hd : 10 ≤ d) (hn : n ≤ 400) (hB : ∀ k, k < n → B k < 256) {s : yTkS} {x : zDy × Bool × Bool} (ha : cAt B n I s) (hx : cDat I J x) (hw : wNt x.1) (hs : s.1 = 0) (hk : yK B n s.2 ≠ 19) : ∃ I' J', zCd zT d 134 [.ref 22, .ref 17, .ref 24] (zm L I J r) = some (none, (zm L I' J' r)) ∧ cAt B n I' (yDgn B n s x.1).1 ∧ cDat I' J' ((yDgn B n s x.1).2, x.2) ∧ cFw I I' J J' := by
  obtain ⟨e, rfl⟩ : ∃ e, d = e + 1 := ⟨d - 1, by omega⟩
  have w7 := hw.2.2.2.2.2.2.1
  have w1 := hw.1
  rw [qX10_readDog, eX10_readDog_0, sX9_dogs (by omega) (by decide), zbI_s, hx.2.2.2.2.2.2.1, eX10_readDog_1]
  unfold yDgn
  by_cases q : 2 ≤ x.1.nd
  · obtain ⟨I1, c1, c2, c3⟩ := cFail (d := e) (L := L) (J := J) (r := r) (by omega) hn ha (f := 5) (by decide)
    have c1' : zCd zT e 93 [.ref 17, .int 5] (zm L I J r) = _ := c1
    rw [if_neg (show ¬ zi (x.1.nd : Int) < (2 : Int32) by rw [show (2 : Int32) = zi ((2 : Nat) : Int) from rfl, yLt (by omega) (by omega)]; omega), c1', zbV_s, eX10_readDog_2, if_pos q]
    exact ⟨I1, J, rfl, c2, cDat_t c3 hx, cFw_t c3⟩
  · obtain ⟨I1, c1, c2, c3, c4⟩ := (cSpnC (d := e) (L := L) (r := r) (by omega) hn hB ha hx hw hs hk).2
    have rb := (ySpn_r (B := B) (n := n) (s := s) (t := x.1) w1).2
    rw [if_pos (show zi (x.1.nd : Int) < (2 : Int32) by rw [show (2 : Int32) = zi ((2 : Nat) : Int) from rfl, yLt (by omega) (by omega)]; omega), c1, eX10_readDog_9, if_neg q]
    by_cases c : (ySpn B n s x.1).2.2 = -1
    · rw [if_pos ((yM1 rb).mpr c), eX10_readDog_10, if_pos c]
      exact ⟨I1, J, rfl, c2, c3, cFw_t c4⟩
    · have b := ySpn_b c
      obtain ⟨I4, J4, g1, g2, g3, g4⟩ := cAddD (d := e) (L := L) (r := r) (by omega) c3 (by omega) (a := (ySpn B n s x.1).1.2) (b := (ySpn B n s x.1).2.2) b.1 (by omega)
      rw [if_neg (fun q => c ((yM1 rb).mp q)), g1, zbV_s, eX10_readDog_10, if_neg c]
      exact ⟨I4, J4, rfl, cAt_fr (fun o _ _ => g3 o (by omega)) c2, g2, cFw_tr (cFw_t c4) ⟨fun o k _ _ g => by rw [g3 o (by omega)], fun o g _ => g4 o g⟩⟩
theorem cDrg (hd : 4 ≤ d) (hn : n ≤ 400) {s : yTkS} {x : zDy × Bool × Bool} (ha : cAt B n I s) (hx : cDat I J x) (hs : s.1 = 0) (hk : yK B n s.2 ≠ 19) : ∃ I', zCd zT d 135 [.ref 22, .ref 17, .ref 24] (zm L I J r) = some (none, (zm L I' J r)) ∧ cAt B n I' (if x.2.1 = true then yFa B n s 4 else (yRdN B n (yAdv B n s) 0 50 true).1) ∧ cDat I' J (if x.2.1 = true then x else (ySetD x.1 (yRdN B n (yAdv B n s) 0 50 true).2, true, x.2.2)) ∧ cFw I I' J J := by
  obtain ⟨e, rfl⟩ : ∃ e, d = e + 1 := ⟨d - 1, by omega⟩
  obtain ⟨h1, h2, h3, h4, h5, h6, h7, h8, h9, h10, h11, h12⟩ := hx
  rw [qX10_readDrag, eX10_readDrag_0, h11]
  cases q : x.2.1
  · obtain ⟨I0, hI0⟩ : ∃ I0, I0 = zu I 22 0 1 := ⟨_, rfl⟩
    have ha0 : cAt B n I0 s := cAt_fr (fun o _ _ => by rw [hI0, zu_o (by omega)]) ha
    obtain ⟨I1, c1, c2, c3⟩ := cAdv (d := e) (L := L) (J := J) (r := r) (by omega) hn ha0 hs hk
    obtain ⟨I2, d1, d2, d3⟩ := cTkN (d := e) (L := L) (J := J) (r := r) (by omega) hn c2 (lo := 0) (hi := 50) (by decide) (by decide) true
    have d1' : zCd zT e 96 [.ref 17, .int 0, .int 50, .int 1] (zm L I1 J r) = _ := d1
    have fr := cFt_tr c3 d3
    rw [if_pos (show zb1 false = 0 by decide), eX10_readDrag_2, ← hI0, c1, zbV_s, eX10_readDrag_3, d1', zbI_s, eX10_readDrag_4, sX9_setDrag (by omega), zbV_s, eX10_readDrag_5]
    refine ⟨_, rfl, ?_, ?_, ?_⟩
    · rw [if_neg (by decide)]
      exact cAt_fr (fun o _ _ => by rw [zu_o (by omega)]) d2
    · have e24 : I2 24 = I 24 := by rw [cFt_o fr (by decide), hI0, zu_o (by decide)]
      have e25 : I2 25 = I 25 := by rw [cFt_o fr (by decide), hI0, zu_o (by decide)]
      have e26 : I2 26 = I 26 := by rw [cFt_o fr (by decide), hI0, zu_o (by decide)]
      have e27 : I2 27 = I 27 := by rw [cFt_o fr (by decide), hI0, zu_o (by decide)]
      have e22 : I2 22 = zu I 22 0 1 22 := by rw [cFt_o fr (by decide), hI0]
      rw [if_neg (by decide)]
      refine ⟨?_, fun p hp => ?_, ?_, fun i hi => ?_, ?_, fun c hc => ?_, ?_, h8, zu_y ⟨rfl, rfl⟩, ?_, ?_, ?_⟩
      · rw [zu_n (by decide), e24]
        exact h1
      · rw [zu_n (by omega), e25]
        exact h2 p hp
      · rw [zu_n (by decide), e24]
        exact h3
      · rw [zu_n (by omega), e26]
        exact h4 i hi
      · rw [zu_n (by decide), e24]
        exact h5
      · rw [zu_n (by omega), e27]
        exact h6 c hc
      · rw [zu_n (by decide), e24]
        exact h7
      · rw [zu_n (by decide), e24]
        exact h10
      · rw [zu_n (by decide), e22, zu_y ⟨rfl, rfl⟩]
        rfl
      · rw [zu_n (by decide), e22, zu_n (by decide)]
        exact h12
    · refine ⟨fun o k g1 g2 g3 => ?_, fun _ _ _ => rfl⟩
      rw [zu_o (by omega), fr o k g1, hI0, zu_o g2]
  · obtain ⟨I1, c1, c2, c3⟩ := cFail (d := e) (L := L) (J := J) (r := r) (by omega) hn ha (f := 4) (by decide)
    have c1' : zCd zT e 93 [.ref 17, .int 4] (zm L I J r) = _ := c1
    rw [if_neg (show ¬ zb1 true = 0 by decide), c1', zbV_s, eX10_readDrag_1, if_pos rfl, if_pos rfl]
    exact ⟨I1, rfl, c2, cDat_t c3 ⟨h1, h2, h3, h4, h5, h6, h7, h8, h9, h10, h11, h12⟩, cFw_t c3⟩
theorem cPsh (hd : 4 ≤ d) (hn : n ≤ 400) {s : yTkS} {x : zDy × Bool × Bool} (ha : cAt B n I s) (hx : cDat I J x) (hs : s.1 = 0) (hk : yK B n s.2 ≠ 19) : ∃ I', zCd zT d 136 [.ref 22, .ref 17, .ref 24] (zm L I J r) = some (none, (zm L I' J r)) ∧ cAt B n I' (if x.2.2 = true then yFa B n s 4 else (yRdN B n (yAdv B n s) 0 999 true).1) ∧ cDat I' J (if x.2.2 = true then x else (ySetP x.1 (yRdN B n (yAdv B n s) 0 999 true).2, x.2.1, true)) ∧ cFw I I' J J := by
  obtain ⟨e, rfl⟩ : ∃ e, d = e + 1 := ⟨d - 1, by omega⟩
  obtain ⟨h1, h2, h3, h4, h5, h6, h7, h8, h9, h10, h11, h12⟩ := hx
  rw [qX10_readPush, eX10_readPush_0, h12]
  cases q : x.2.2
  · obtain ⟨I0, hI0⟩ : ∃ I0, I0 = zu I 22 1 1 := ⟨_, rfl⟩
    have ha0 : cAt B n I0 s := cAt_fr (fun o _ _ => by rw [hI0, zu_o (by omega)]) ha
    obtain ⟨I1, c1, c2, c3⟩ := cAdv (d := e) (L := L) (J := J) (r := r) (by omega) hn ha0 hs hk
    obtain ⟨I2, d1, d2, d3⟩ := cTkN (d := e) (L := L) (J := J) (r := r) (by omega) hn c2 (lo := 0) (hi := 999) (by decide) (by decide) true
    have d1' : zCd zT e 96 [.ref 17, .int 0, .int 999, .int 1] (zm L I1 J r) = _ := d1
    have fr := cFt_tr c3 d3
    rw [if_pos (show zb1 false = 0 by decide), eX10_readPush_2, ← hI0, c1, zbV_s, eX10_readPush_3, d1', zbI_s, eX10_readPush_4, sX9_setPush (by omega), zbV_s, eX10_readPush_5]
    refine ⟨_, rfl, ?_, ?_, ?_⟩
    · rw [if_neg (by decide)]
      exact cAt_fr (fun o _ _ => by rw [zu_o (by omega)]) d2
    · have e24 : I2 24 = I 24 := by rw [cFt_o fr (by decide), hI0, zu_o (by decide)]
      have e25 : I2 25 = I 25 := by rw [cFt_o fr (by decide), hI0, zu_o (by decide)]
      have e26 : I2 26 = I 26 := by rw [cFt_o fr (by decide), hI0, zu_o (by decide)]
      have e27 : I2 27 = I 27 := by rw [cFt_o fr (by decide), hI0, zu_o (by decide)]
      have e22 : I2 22 = zu I 22 1 1 22 := by rw [cFt_o fr (by decide), hI0]
      rw [if_neg (by decide)]
      refine ⟨?_, fun p hp => ?_, ?_, fun i hi => ?_, ?_, fun c hc => ?_, ?_, h8, ?_, zu_y ⟨rfl, rfl⟩, ?_, ?_⟩
      · rw [zu_n (by decide), e24]
        exact h1
      · rw [zu_n (by omega), e25]
        exact h2 p hp
      · rw [zu_n (by decide), e24]
        exact h3
      · rw [zu_n (by omega), e26]
        exact h4 i hi
      · rw [zu_n (by decide), e24]
        exact h5
      · rw [zu_n (by omega), e27]
        exact h6 c hc
      · rw [zu_n (by decide), e24]
        exact h7
      · rw [zu_n (by decide), e24]
        exact h9
      · rw [zu_n (by decide), e22, zu_n (by decide)]
        exact h11
      · rw [zu_n (by decide), e22, zu_y ⟨rfl, rfl⟩]
        rfl
    · refine ⟨fun o k g1 g2 g3 => ?_, fun _ _ _ => rfl⟩
      rw [zu_o (by omega), fr o k g1, hI0, zu_o g2]
  · obtain ⟨I1, c1, c2, c3⟩ := cFail (d := e) (L := L) (J := J) (r := r) (by omega) hn ha (f := 4) (by decide)
    have c1' : zCd zT e 93 [.ref 17, .int 4] (zm L I J r) = _ := c1
    rw [if_neg (show ¬ zb1 true = 0 by decide), c1', zbV_s, eX10_readPush_1, if_pos rfl, if_pos rfl]
    exact ⟨I1, rfl, c2, cDat_t c3 ⟨h1, h2, h3, h4, h5, h6, h7, h8, h9, h10, h11, h12⟩, cFw_t c3⟩
theorem cLin (hd : 11 ≤ d) (hn : n ≤ 400) (hB : ∀ k, k < n → B k < 256) {x : yTkX} (ha : cAt B n I x.1) (hx : cDat I J x.2) (hw : wNt x.2.1) : ∃ I' J', zCd zT d 130 [.ref 22, .ref 17, .ref 24] (zm L I J r) = some (none, (zm L I' J' r)) ∧ cAt B n I' (yLin B n x).1 ∧ cDat I' J' (yLin B n x).2 ∧ cFw I I' J J' := by
  obtain ⟨e, rfl⟩ : ∃ e, d = e + 1 := ⟨d - 1, by omega⟩
  have i0 : zCd zT e 92 [.ref 17, .ref 1000] (zm L I J r) = some (some (.int (zb1 (yIsK B n x.1 0))), (zm L I J r)) := cWrd (by omega) hn hB ha (q := 0) (by decide)
  have i1 : zCd zT e 92 [.ref 17, .ref 1002] (zm L I J r) = some (some (.int (zb1 (yIsK B n x.1 1))), (zm L I J r)) := cWrd (by omega) hn hB ha (q := 1) (by decide)
  have i2 : zCd zT e 92 [.ref 17, .ref 1004] (zm L I J r) = some (some (.int (zb1 (yIsK B n x.1 2))), (zm L I J r)) := cWrd (by omega) hn hB ha (q := 2) (by decide)
  have i5 : zCd zT e 92 [.ref 17, .ref 1010] (zm L I J r) = some (some (.int (zb1 (yIsK B n x.1 5))), (zm L I J r)) := cWrd (by omega) hn hB ha (q := 5) (by decide)
  have i6 : zCd zT e 92 [.ref 17, .ref 1012] (zm L I J r) = some (some (.int (zb1 (yIsK B n x.1 6))), (zm L I J r)) := cWrd (by omega) hn hB ha (q := 6) (by decide)
  have i7 : zCd zT e 92 [.ref 17, .ref 1014] (zm L I J r) = some (some (.int (zb1 (yIsK B n x.1 7))), (zm L I J r)) := cWrd (by omega) hn hB ha (q := 7) (by decide)
  have t0 : ¬ zb1 true = 0 := by decide
  have f0 : zb1 false = 0 := by decide
  rw [qX10_readLine, eX10_readLine_0, i0, zbI_s, eX10_readLine_1]
  unfold yLin
  cases g0 : yIsK B n x.1 0
  case true =>
    have g := yZb.mp g0
    obtain ⟨I1, J1, c1, c2, c3, c4⟩ := cHgh (d := e) (L := L) (r := r) (by omega) hn ha hx hw g.1 (by omega)
    rw [if_neg t0, c1, zbV_s, eX10_readLine_2, eX10_readLine_19, if_pos rfl]
    exact ⟨I1, J1, rfl, c2, c3, c4⟩
  rw [if_pos f0, eX10_readLine_3, i1, zbI_s, eX10_readLine_4, if_neg (show ¬ false = true by decide)]
  cases g1 : yIsK B n x.1 1
  case true =>
    have g := yZb.mp g1
    obtain ⟨I1, c1, c2, c3, c4⟩ := cTBlk (d := e) (L := L) (r := r) (by omega) hn ha hx hw g.1 (by omega)
    rw [if_neg t0, c1, zbV_s, eX10_readLine_5, eX10_readLine_19, if_pos rfl]
    exact ⟨I1, J, rfl, c2, c3, c4⟩
  rw [if_pos f0, eX10_readLine_6, i2, zbI_s, eX10_readLine_7, if_neg (show ¬ false = true by decide)]
  cases g2 : yIsK B n x.1 2
  case true =>
    have g := yZb.mp g2
    obtain ⟨I1, J1, c1, c2, c3, c4⟩ := cChn (d := e) (L := L) (r := r) (by omega) hn hB ha hx hw g.1 (by omega)
    rw [if_neg t0, c1, zbV_s, eX10_readLine_8, eX10_readLine_19, if_pos rfl]
    exact ⟨I1, J1, rfl, c2, c3, c4⟩
  rw [if_pos f0, eX10_readLine_9, i5, zbI_s, eX10_readLine_10, if_neg (show ¬ false = true by decide)]
  cases g5 : yIsK B n x.1 5
  case true =>
    have g := yZb.mp g5
    obtain ⟨I1, J1, c1, c2, c3, c4⟩ := cDgn (d := e) (L := L) (r := r) (by omega) hn hB ha hx hw g.1 (by omega)
    rw [if_neg t0, c1, zbV_s, eX10_readLine_11, eX10_readLine_19, if_pos rfl]
    exact ⟨I1, J1, rfl, c2, c3, c4⟩
  rw [if_pos f0, eX10_readLine_12, i6, zbI_s, eX10_readLine_13, if_neg (show ¬ false = true by decide)]
  cases g6 : yIsK B n x.1 6
  case true =>
    have g := yZb.mp g6
    obtain ⟨I1, c1, c2, c3, c4⟩ := cDrg (d := e) (L := L) (r := r) (by omega) hn ha hx g.1 (by omega)
    rw [if_neg t0, c1, zbV_s, eX10_readLine_14, eX10_readLine_19, if_pos rfl]
    refine ⟨I1, J, rfl, ?_, ?_, c4⟩
    · cases q : x.2.2.1
      · rw [q] at c2
        exact c2
      · rw [q] at c2
        exact c2
    · cases q : x.2.2.1
      · rw [q] at c3
        exact c3
      · rw [q] at c3
        exact c3
  rw [if_pos f0, eX10_readLine_15, i7, zbI_s, eX10_readLine_16, if_neg (show ¬ false = true by decide)]
  cases g7 : yIsK B n x.1 7
  case true =>
    have g := yZb.mp g7
    obtain ⟨I1, c1, c2, c3, c4⟩ := cPsh (d := e) (L := L) (r := r) (by omega) hn ha hx g.1 (by omega)
    rw [if_neg t0, c1, zbV_s, eX10_readLine_17, eX10_readLine_19, if_pos rfl]
    refine ⟨I1, J, rfl, ?_, ?_, c4⟩
    · cases q : x.2.2.2
      · rw [q] at c2
        exact c2
      · rw [q] at c2
        exact c2
    · cases q : x.2.2.2
      · rw [q] at c3
        exact c3
      · rw [q] at c3
        exact c3
  obtain ⟨I1, c1, c2, c3⟩ := cFail (d := e) (L := L) (J := J) (r := r) (by omega) hn ha (f := 2) (by decide)
  have c1' : zCd zT e 93 [.ref 17, .int 2] (zm L I J r) = _ := c1
  rw [if_pos f0, eX10_readLine_18, c1', zbV_s, eX10_readLine_19, if_neg (show ¬ false = true by decide)]
  exact ⟨I1, J, rfl, c2, cDat_t c3 hx, cFw_t c3⟩
theorem cLnsL (hd : 12 ≤ d) (hn : n ≤ 400) (hB : ∀ k, k < n → B k < 256) : ∀ (f : Nat) (I : Nat → Nat → Int32) (J : Nat → Nat → Int64) (x : yTkX), f ≤ 401 → cAt B n I x.1 → cDat I J x.2 → wNt x.2.1 → (x.1.1 = 0 → wDp x.2.1) → ∃ I' J' k, zX 2 (zCd zT d) zc_X10_read 2 [some (.ref 22), some (.ref 17), some (.ref 24), some (.int (zi ((401 - f : Nat) : Int)))] [] (zm L I J r) = zX 2 (zCd zT d) zc_X10_read 7 [some (.ref 22), some (.ref 17), some (.ref 24), some (.int k)] [] (zm L I' J' r) ∧ cAt B n I' (yLns B n f x).1 ∧ cDat I' J' (yLns B n f x).2 ∧ wNt (yLns B n f x).2.1 ∧ ((yLns B n f x).1.1 = 0 → wDp (yLns B n f x).2.1) ∧ cFw I I' J J' := by
  intro f
  induction f with
  | zero =>
    intro I J x _ ha hx hw hp
    rw [eX10_read_2, if_pos (show (400 : Int32) < zi ((401 - 0 : Nat) : Int) by decide)]
    exact ⟨I, J, _, rfl, ha, hx, hw, hp, cFw_rf⟩
  | succ f ih =>
    intro I J x hf ha hx hw hp
    rw [eX10_read_2, if_neg (show ¬ (400 : Int32) < zi ((401 - (f + 1) : Nat) : Int) by rw [show (400 : Int32) = zi ((400 : Nat) : Int) from rfl, yLt (by omega) (by omega)]; omega), cSnd (by omega) ha, zbI_s, eX10_read_3, yLns]
    by_cases q : x.1.1 = 0
    · rw [decide_eq_true q, if_neg (show ¬ zb1 true = 0 by decide), cTkEnd (by omega) ha, zbI_s, eX10_read_4]
      by_cases g : yK B n x.1.2 = 19
      · have e1 : yIsK B n x.1 19 = true := yZb.mpr ⟨q, g⟩
        rw [e1, if_neg (show ¬ zb1 true = 0 by decide), if_neg (fun z => z.2 g)]
        exact ⟨I, J, _, rfl, ha, hx, hw, hp, cFw_rf⟩
      · have e1 : yIsK B n x.1 19 = false := Bool.eq_false_iff.mpr (fun z => g (yZb.mp z).2)
        obtain ⟨I1, J1, c1, c2, c3, c4⟩ := cLin (d := d) (L := L) (r := r) (by omega) hn hB ha hx hw
        obtain ⟨I2, d1, d2, d3⟩ := cTkS (d := d) (L := L) (J := J1) (r := r) (by omega) hn hB c2 (q := 16) (by decide)
        have d1' : zCd zT d 95 [.ref 17, .int 59] (zm L I1 J1 r) = _ := d1
        have hw1 := yLin_w (B := B) (n := n) hw hp
        obtain ⟨I3, J3, k, e2, e3, e4, e5, e6, e7⟩ := ih I2 J1 (yLn1 B n x) (by omega) d2 (cDat_t d3 c3) hw1.1 (fun z => hw1.2 ((yNd_m (B := B) (n := n) (s := (yLin B n x).1) (k := 16) z).1))
        rw [e1, if_pos (show zb1 false = 0 by decide), c1, zbV_s, eX10_read_5, d1', zbV_s, eX10_read_6, yZ1, show 401 - (f + 1) + 1 = 401 - f by omega, if_pos ⟨q, g⟩]
        exact ⟨I3, J3, k, e2, e3, e4, e5, e6, cFw_tr c4 (cFw_tr (cFw_t d3) e7)⟩
    · rw [decide_eq_false q, if_pos (show zb1 false = 0 by decide), if_neg (fun z => q z.1)]
      exact ⟨I, J, _, rfl, ha, hx, hw, hp, cFw_rf⟩
/-- the class has read a TRACK -/
theorem cTrkR (hd : 13 ≤ d) (hn : n ≤ 400) (hB : ∀ k, k < n → B k < 256) (ha : cAt B n I (yTo B n 0)) : ∃ I' J', zCd zT d 129 [.ref 22, .ref 17, .ref 24] (zm L I J r) = some (none, (zm L I' J' r)) ∧ cAt B n I' (yTrF B n) ∧ cDat I' J' (yTrk B n).2 ∧ wNt (yTrk B n).2.1 ∧ ((yTrk B n).1.1 = 0 → wDp (yTrk B n).2.1) ∧ cFw I I' J J' := by
  obtain ⟨e, rfl⟩ : ∃ e, d = e + 1 := ⟨d - 1, by omega⟩
  obtain ⟨f, rfl⟩ : ∃ f, e = f + 1 := ⟨e - 1, by omega⟩
  have wip := cFillJ (d := f) (L := L) (I := zu (zu I 22 0 0) 22 1 0) (J := J) (r := r) (o := 28) (n := 2) (by omega) (by decide) rfl (by decide) 0
  obtain ⟨I0, hI0⟩ : ∃ I0, I0 = zu (zu (zu (zu (zu (zu (zu (zu I 22 0 0) 22 1 0) 24 5 0) 24 6 0) 24 7 0) 24 8 0) 24 9 10) 24 10 0 := ⟨_, rfl⟩
  obtain ⟨J0, hJ0⟩ : ∃ J0, J0 = zuL (zfJ J 28 2 0) 24 4 (0 : Int64) := ⟨_, rfl⟩
  have fr : ∀ o, o ≠ 22 → o ≠ 24 → I0 o = I o := fun o a b => by rw [hI0, zu_o b, zu_o b, zu_o b, zu_o b, zu_o b, zu_o b, zu_o a, zu_o a]
  have hx0 : cDat I0 J0 (yTn, false, false) := by
    refine ⟨?_, fun p hp => absurd hp (Nat.not_lt_zero p), ?_, fun p hp => absurd hp (Nat.not_lt_zero p), ?_, fun p hp => absurd hp (Nat.not_lt_zero p), ?_, fun p hp => ?_, ?_, ?_, ?_, ?_⟩
    · rw [hI0, zu_n (by decide), zu_n (by decide), zu_n (by decide), zu_n (by decide), zu_n (by decide), zu_y ⟨rfl, rfl⟩]
      rfl
    · rw [hI0, zu_n (by decide), zu_n (by decide), zu_n (by decide), zu_n (by decide), zu_y ⟨rfl, rfl⟩]
      rfl
    · rw [hI0, zu_n (by decide), zu_n (by decide), zu_n (by decide), zu_y ⟨rfl, rfl⟩]
      rfl
    · rw [hI0, zu_n (by decide), zu_n (by decide), zu_y ⟨rfl, rfl⟩]
      rfl
    · rw [hJ0, show zuL (zfJ J 28 2 0) 24 4 (0 : Int64) 24 4 = 0 from if_pos ⟨rfl, rfl⟩, yL64_0]
      have : yTn.dg p = decide ((0 < 0 ∧ (0 : Int) < p ∧ (p : Int) ≤ 0) ∨ (1 < 0 ∧ (0 : Int) < p ∧ (p : Int) ≤ 0)) := rfl
      show _ = yTn.dg p
      rw [this, decide_eq_false (by omega)]
    · rw [hI0, zu_n (by decide), zu_y ⟨rfl, rfl⟩]
      rfl
    · rw [hI0, zu_y ⟨rfl, rfl⟩]
      rfl
    · rw [hI0, zu_n (by decide), zu_n (by decide), zu_n (by decide), zu_n (by decide), zu_n (by decide), zu_n (by decide), zu_n (by decide), zu_y ⟨rfl, rfl⟩]
      rfl
    · rw [hI0, zu_n (by decide), zu_n (by decide), zu_n (by decide), zu_n (by decide), zu_n (by decide), zu_n (by decide), zu_y ⟨rfl, rfl⟩]
      rfl
  have ha0 : cAt B n I0 (yTo B n 0) := cAt_fr (fun o _ _ => fr o (by omega) (by omega)) ha
  obtain ⟨I1, J1, k, c1, c2, c3, c4, c5, c6⟩ := cLnsL (d := f + 1) (L := L) (r := r) (B := B) (n := n) (by omega) hn hB 401 I0 J0 (yTo B n 0, yTn, false, false) (by decide) ha0 hx0 wNt_n (fun _ => show wDp yTn by unfold wDp; decide)
  have c1' : zX 2 (zCd zT (f + 1)) zc_X10_read 2 [some (.ref 22), some (.ref 17), some (.ref 24), some (.int 0)] [] (zm L I0 J0 r) = _ := c1
  have f0 : cFw I I0 J J0 := ⟨fun o k a b c => by rw [fr o b (by omega)], fun o a b => by rw [hJ0]; exact funext fun k => by rw [show zuL (zfJ J 28 2 0) 24 4 (0 : Int64) o k = zfJ J 28 2 0 o k from if_neg (fun y => a y.1), zfJ_o b]⟩
  rw [qX10_read, eX10_read_0, qX9_wipe, eX9_wipe_0, wip, zbV_s, eX9_wipe_1, zbV_s, ← hI0, ← hJ0, eX10_read_1, c1', eX10_read_7, cSnd (by omega) c2, zbI_s, eX10_read_8]
  unfold yTrF
  have pe : yLns B n 401 (yTo B n 0, yTn, false, false) = yTrk B n := rfl
  rw [pe] at c2 c3 c4 c5 ⊢
  by_cases q : (yTrk B n).1.1 = 0
  · have w1 := c4.1
    rw [decide_eq_true q, if_neg (show ¬ zb1 true = 0 by decide), sX9_points (by omega) (by decide), zbI_s, c3.1, eX10_read_9]
    by_cases g : (yTrk B n).2.1.n < 2
    · obtain ⟨I2, d1, d2, d3⟩ := cFail (d := f + 1) (L := L) (J := J1) (r := r) (by omega) hn c2 (f := 2) (by decide)
      have d1' : zCd zT (f + 1) 93 [.ref 17, .int 2] (zm L I1 J1 r) = _ := d1
      rw [if_neg (show ¬ (2 : Int32) ≤ zi ((yTrk B n).2.1.n : Int) by rw [show (2 : Int32) = zi ((2 : Nat) : Int) from rfl, yLe (by omega) (by omega)]; omega), d1', zbV_s, eX10_read_10, if_pos ⟨q, g⟩]
      exact ⟨I2, J1, rfl, d2, cDat_t d3 c3, c4, c5, cFw_tr f0 (cFw_tr c6 (cFw_t d3))⟩
    · rw [if_pos (show (2 : Int32) ≤ zi ((yTrk B n).2.1.n : Int) by rw [show (2 : Int32) = zi ((2 : Nat) : Int) from rfl, yLe (by omega) (by omega)]; omega), eX10_read_10, if_neg (fun z => g z.2)]
      exact ⟨I1, J1, rfl, c2, c3, c4, c5, cFw_tr f0 c6⟩
  · rw [decide_eq_false q, if_pos (show zb1 false = 0 by decide), eX10_read_10, if_neg (fun z => q z.1)]
    exact ⟨I1, J1, rfl, c2, c3, c4, c5, cFw_tr f0 c6⟩
end
