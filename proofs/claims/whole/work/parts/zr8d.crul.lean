/-! TEXT of THE CONTROLLER: the pure reader; the class reads a TEST -/
abbrev yHld : Type := yTkS × (Nat → Bool)
def yLpo (B : Nat → Nat) (n k : Nat) (op : Bool → Bool → Bool) (F : yTkS → yHld) : Nat → yHld → yHld
  | 0, z => z
  | f + 1, z => if yIsK B n z.1 k = true then yLpo B n k op F f ((F (yAdv B n z.1)).1, fun i => op (z.2 i) ((F (yAdv B n z.1)).2 i)) else z
def yPar (B : Nat → Nat) (n : Nat) (F : yTkS → yHld) (s : yTkS) : yHld := yLpo B n 11 and F 400 (F s)
def yTes (B : Nat → Nat) (n : Nat) (F : yTkS → yHld) (s : yTkS) : yHld := yLpo B n 10 or (yPar B n F) 400 (yPar B n F s)
def yFre (B : Nat → Nat) (n bk : Nat) (s : yTkS) : yHld := ((yRdN B n (yAdv B n s) 0 ((bk : Int) - 1) true).1, fun i => if (yRdN B n (yAdv B n s) 0 ((bk : Int) - 1) true).2 = -1 then false else i.testBit (yRdN B n (yAdv B n s) 0 ((bk : Int) - 1) true).2.toNat)
def yFac (B : Nat → Nat) (n bk : Nat) : Nat → yTkS → yHld
  | 0, s => if yIsK B n s 13 = true then yFre B n bk s else if yIsK B n s 12 = true then (yFa B n s 5, fun _ => false) else if yIsK B n s 17 = true then (yFa B n s 5, fun _ => false) else (yFa B n s 2, fun _ => false)
  | r + 1, s => if yIsK B n s 13 = true then yFre B n bk s else if yIsK B n s 12 = true then ((yFac B n bk r (yAdv B n s)).1, fun i => !(yFac B n bk r (yAdv B n s)).2 i) else if yIsK B n s 17 = true then (yNd B n (yTes B n (yFac B n bk r) (yAdv B n s)).1 18, (yTes B n (yFac B n bk r) (yAdv B n s)).2) else (yFa B n s 2, fun _ => false)
def cFn (B : Nat → Nat) (n bk L : Nat) (J : Nat → Nat → Int64) (r : Nat) (run : (Nat → Nat → Int32) → Option zR) (F : yTkS → yHld) : Prop := ∀ (I : Nat → Nat → Int32) (s : yTkS), cAt B n I s → I 23 0 = zi (bk : Int) → ∃ I' w, run I = some (some (.long w), zm L I' J r) ∧ cAt B n I' (F s).1 ∧ (∀ i, i < 64 → yLb64 w i = (F s).2 i) ∧ cFt I I'
section
variable {d L r : Nat} {J : Nat → Nat → Int64} {B : Nat → Nat} {n bk : Nat}
theorem cParL (hd : 7 ≤ d) (hn : n ≤ 400) (hB : ∀ k, k < n → B k < 256) {op : Int32} {F : yTkS → yHld} (hF : cFn B n bk L J r (fun I => zCd zT d 39 [.ref 23, .ref 17, .int op] (zm L I J r)) F) : ∀ (f : Nat) (I : Nat → Nat → Int32) (w : Int64) (z : yHld), f ≤ 400 → cAt B n I z.1 → I 23 0 = zi (bk : Int) → (∀ i, i < 64 → yLb64 w i = z.2 i) → ∃ I' w', zX 1 (zCd zT d) zc_X4_readPart 2 [some (.ref 23), some (.ref 17), some (.int op), some (.long (w)), none, some (.int (zi ((400 - f : Nat) : Int)))] [] (zm L I J r) = some (some (.long w'), zm L I' J r) ∧ cAt B n I' (yLpo B n 11 and F f z).1 ∧ (∀ i, i < 64 → yLb64 w' i = (yLpo B n 11 and F f z).2 i) ∧ cFt I I' := by
  intro f
  induction f with
  | zero =>
    intro I w z _ ha _ hw
    rw [eX4_readPart_2, if_pos (show (400 : Int32) ≤ zi ((400 - 0 : Nat) : Int) by decide), eX4_readPart_6]
    exact ⟨I, w, rfl, ha, hw, cFt_rf⟩
  | succ f ih =>
    intro I w z hf ha hb hw
    have iw : zCd zT d 92 [.ref 17, .ref 1024] (zm L I J r) = some (some (.int (zb1 (yIsK B n z.1 11))), (zm L I J r)) := cWrd (by omega) hn hB ha (q := 11) (by decide)
    rw [eX4_readPart_2, if_neg (show ¬ (400 : Int32) ≤ zi ((400 - (f + 1) : Nat) : Int) by rw [show (400 : Int32) = zi ((400 : Nat) : Int) from rfl, yLe (by omega) (by omega)]; omega), iw, zbI_s, eX4_readPart_3, yLpo]
    cases g : yIsK B n z.1 11
    · rw [if_pos (show zb1 false = 0 by decide), eX4_readPart_6, if_neg (by decide)]
      exact ⟨I, w, rfl, ha, hw, cFt_rf⟩
    · have g2 := yZb.mp g
      obtain ⟨I1, c1, c2, c3⟩ := cAdv (d := d) (L := L) (J := J) (r := r) (by omega) hn ha g2.1 (by omega)
      obtain ⟨I2, v, d1, d2, d3, d4⟩ := hF I1 (yAdv B n z.1) c2 ((c3 23 0 (by omega)).trans hb)
      obtain ⟨I3, w', e1, e2, e3, e4⟩ := ih I2 (w &&& v) ((F (yAdv B n z.1)).1, fun i => and (z.2 i) ((F (yAdv B n z.1)).2 i)) (by omega) d2 (by rw [d4 23 0 (by omega), c3 23 0 (by omega)]; exact hb) (fun i hi => by rw [yL64_an, hw i hi, d3 i hi])
      have d1' : zCd zT d 39 [.ref 23, .ref 17, .int op] (zm L I1 J r) = _ := d1
      rw [if_neg (show ¬ zb1 true = 0 by decide), c1, zbV_s, eX4_readPart_4, d1', zbL_s, eX4_readPart_5, yZ1, show 400 - (f + 1) + 1 = 400 - f by omega, if_pos rfl]
      exact ⟨I3, w', e1, e2, e3, cFt_tr c3 (cFt_tr d4 e4)⟩
theorem cPar (hd : 8 ≤ d) (hn : n ≤ 400) (hB : ∀ k, k < n → B k < 256) {op : Int32} {F : yTkS → yHld} (hF : cFn B n bk L J r (fun I => zCd zT (d - 1) 39 [.ref 23, .ref 17, .int op] (zm L I J r)) F) : cFn B n bk L J r (fun I => zCd zT d 38 [.ref 23, .ref 17, .int op] (zm L I J r)) (yPar B n F) := by
  obtain ⟨e, rfl⟩ : ∃ e, d = e + 1 := ⟨d - 1, by omega⟩
  intro I s ha hb
  have hF' : cFn B n bk L J r (fun I => zCd zT e 39 [.ref 23, .ref 17, .int op] (zm L I J r)) F := hF
  obtain ⟨I1, w, c1, c2, c3, c4⟩ := hF' I s ha hb
  have c1' : zCd zT e 39 [.ref 23, .ref 17, .int op] (zm L I J r) = _ := c1
  obtain ⟨I2, w', d1, d2, d3, d4⟩ := cParL (d := e) (by omega) hn hB hF' 400 I1 w (F s) (by decide) c2 ((c4 23 0 (by omega)).trans hb) c3
  have d1' : zX 1 (zCd zT e) zc_X4_readPart 2 [some (.ref 23), some (.ref 17), some (.int op), some (.long (w)), none, some (.int 0)] [] (zm L I1 J r) = _ := d1
  refine ⟨I2, w', ?_, d2, d3, cFt_tr c4 d4⟩
  dsimp only
  rw [qX4_readPart, eX4_readPart_0, c1', zbL_s, eX4_readPart_1, d1']
theorem cTesL (hd : 7 ≤ d) (hn : n ≤ 400) (hB : ∀ k, k < n → B k < 256) {op : Int32} {F : yTkS → yHld} (hF : cFn B n bk L J r (fun I => zCd zT d 38 [.ref 23, .ref 17, .int op] (zm L I J r)) F) : ∀ (f : Nat) (I : Nat → Nat → Int32) (w : Int64) (z : yHld), f ≤ 400 → cAt B n I z.1 → I 23 0 = zi (bk : Int) → (∀ i, i < 64 → yLb64 w i = z.2 i) → ∃ I' w', zX 1 (zCd zT d) zc_X4_readTest 2 [some (.ref 23), some (.ref 17), some (.int op), some (.long (w)), none, some (.int (zi ((400 - f : Nat) : Int)))] [] (zm L I J r) = some (some (.long w'), zm L I' J r) ∧ cAt B n I' (yLpo B n 10 or F f z).1 ∧ (∀ i, i < 64 → yLb64 w' i = (yLpo B n 10 or F f z).2 i) ∧ cFt I I' := by
  intro f
  induction f with
  | zero =>
    intro I w z _ ha _ hw
    rw [eX4_readTest_2, if_pos (show (400 : Int32) ≤ zi ((400 - 0 : Nat) : Int) by decide), eX4_readTest_6]
    exact ⟨I, w, rfl, ha, hw, cFt_rf⟩
  | succ f ih =>
    intro I w z hf ha hb hw
    have iw : zCd zT d 92 [.ref 17, .ref 1026] (zm L I J r) = some (some (.int (zb1 (yIsK B n z.1 10))), (zm L I J r)) := cWrd (by omega) hn hB ha (q := 10) (by decide)
    rw [eX4_readTest_2, if_neg (show ¬ (400 : Int32) ≤ zi ((400 - (f + 1) : Nat) : Int) by rw [show (400 : Int32) = zi ((400 : Nat) : Int) from rfl, yLe (by omega) (by omega)]; omega), iw, zbI_s, eX4_readTest_3, yLpo]
    cases g : yIsK B n z.1 10
    · rw [if_pos (show zb1 false = 0 by decide), eX4_readTest_6, if_neg (by decide)]
      exact ⟨I, w, rfl, ha, hw, cFt_rf⟩
    · have g2 := yZb.mp g
      obtain ⟨I1, c1, c2, c3⟩ := cAdv (d := d) (L := L) (J := J) (r := r) (by omega) hn ha g2.1 (by omega)
      obtain ⟨I2, v, d1, d2, d3, d4⟩ := hF I1 (yAdv B n z.1) c2 ((c3 23 0 (by omega)).trans hb)
      obtain ⟨I3, w', e1, e2, e3, e4⟩ := ih I2 (w ||| v) ((F (yAdv B n z.1)).1, fun i => or (z.2 i) ((F (yAdv B n z.1)).2 i)) (by omega) d2 (by rw [d4 23 0 (by omega), c3 23 0 (by omega)]; exact hb) (fun i hi => by rw [yL64_or, hw i hi, d3 i hi])
      have d1' : zCd zT d 38 [.ref 23, .ref 17, .int op] (zm L I1 J r) = _ := d1
      rw [if_neg (show ¬ zb1 true = 0 by decide), c1, zbV_s, eX4_readTest_4, d1', zbL_s, eX4_readTest_5, yZ1, show 400 - (f + 1) + 1 = 400 - f by omega, if_pos rfl]
      exact ⟨I3, w', e1, e2, e3, cFt_tr c3 (cFt_tr d4 e4)⟩
theorem cTes (hd : 9 ≤ d) (hn : n ≤ 400) (hB : ∀ k, k < n → B k < 256) {op : Int32} {F : yTkS → yHld} (hF : cFn B n bk L J r (fun I => zCd zT (d - 2) 39 [.ref 23, .ref 17, .int op] (zm L I J r)) F) : cFn B n bk L J r (fun I => zCd zT d 37 [.ref 23, .ref 17, .int op] (zm L I J r)) (yTes B n F) := by
  obtain ⟨e, rfl⟩ : ∃ e, d = e + 1 := ⟨d - 1, by omega⟩
  intro I s ha hb
  have hF' : cFn B n bk L J r (fun I => zCd zT e 38 [.ref 23, .ref 17, .int op] (zm L I J r)) (yPar B n F) := cPar (by omega) hn hB hF
  obtain ⟨I1, w, c1, c2, c3, c4⟩ := hF' I s ha hb
  have c1' : zCd zT e 38 [.ref 23, .ref 17, .int op] (zm L I J r) = _ := c1
  obtain ⟨I2, w', d1, d2, d3, d4⟩ := cTesL (d := e) (by omega) hn hB hF' 400 I1 w (yPar B n F s) (by decide) c2 ((c4 23 0 (by omega)).trans hb) c3
  have d1' : zX 1 (zCd zT e) zc_X4_readTest 2 [some (.ref 23), some (.ref 17), some (.int op), some (.long (w)), none, some (.int 0)] [] (zm L I1 J r) = _ := d1
  refine ⟨I2, w', ?_, d2, d3, cFt_tr c4 d4⟩
  dsimp only
  rw [qX4_readTest, eX4_readTest_0, c1', zbL_s, eX4_readTest_1, d1']
theorem yZsb {b i : Nat} (hb : b < 6) (hi : i < 64) : yLb64 (zsf b) i = i.testBit b := by
  have h := yZsf hb hi
  rw [yL64a hi] at h
  cases e1 : yLb64 (zsf b) i
  · exact (h.mp e1).symm
  · cases e2 : i.testBit b
    · rw [h.mpr e2] at e1
      cases e1
    · rfl
/-- free N, or something else stands there -/
theorem cFac0 (hd : 7 ≤ d) (hn : n ≤ 400) (hB : ∀ k, k < n → B k < 256) (hbk : 1 ≤ bk ∧ bk ≤ 6) (op : Int32) {I : Nat → Nat → Int32} {s : yTkS} (ha : cAt B n I s) (hb : I 23 0 = zi (bk : Int)) : (yIsK B n s 13 = true → ∃ I' w, zX 1 (zCd zT d) zc_X4_readFact 0 [some (.ref 23), some (.ref 17), some (.int op), none, none, none] [] (zm L I J r) = some (some (.long w), zm L I' J r) ∧ cAt B n I' (yFre B n bk s).1 ∧ (∀ i, i < 64 → yLb64 w i = (yFre B n bk s).2 i) ∧ cFt I I') ∧ (yIsK B n s 13 = false → zX 1 (zCd zT d) zc_X4_readFact 0 [some (.ref 23), some (.ref 17), some (.int op), none, none, none] [] (zm L I J r) = zX 1 (zCd zT d) zc_X4_readFact 5 [some (.ref 23), some (.ref 17), some (.int op), none, none, none] [] (zm L I J r)) := by
  have iw : zCd zT d 92 [.ref 17, .ref 1020] (zm L I J r) = some (some (.int (zb1 (yIsK B n s 13))), (zm L I J r)) := cWrd (by omega) hn hB ha (q := 13) (by decide)
  rw [eX4_readFact_0, iw, zbI_s, eX4_readFact_1]
  constructor
  · intro g
    have g2 := yZb.mp g
    obtain ⟨I1, c1, c2, c3⟩ := cAdv (d := d) (L := L) (J := J) (r := r) (by omega) hn ha g2.1 (by omega)
    obtain ⟨I2, d1, d2, d3⟩ := cTkN (d := d) (L := L) (J := J) (r := r) (by omega) hn c2 (lo := 0) (hi := (bk : Int) - 1) (by decide) (by omega) true
    have d1' : zCd zT d 96 [.ref 17, .int 0, .int (zi ((bk : Int) - 1)), .int 1] (zm L I1 J r) = _ := d1
    rw [g, if_neg (show ¬ zb1 true = 0 by decide), c1, zbV_s, eX4_readFact_2, c3 23 0 (by omega), hb, yZm1, d1', zbI_s, eX4_readFact_3, sX5_showingFree (by omega)]
    unfold yFre
    rcases yRdN_c (B := B) (n := n) (s := yAdv B n s) (lo := 0) (hi := (bk : Int) - 1) (room := true) with c | c
    · rw [c.1, if_pos (show zi (-1) < 0 by decide), zbL_s, eX4_readFact_4]
      refine ⟨I2, 0, rfl, d2, fun i hi => ?_, cFt_tr c3 d3⟩
      rw [yL64_0]
      dsimp only
      rw [if_pos rfl]
    · obtain ⟨b, hbe⟩ := yNat c.2.2.2.2.1
      have hb1 := c.1
      have hb6 := c.2.2.2.2.2.1
      rw [hbe] at hb1 hb6
      rw [hbe, if_neg (yGe0 (by omega)), if_pos (show zi (b : Int) < (6 : Int32) by rw [show (6 : Int32) = zi ((6 : Nat) : Int) from rfl, yLt (by omega) (by omega)]; omega), zin_t (by omega) (by omega), zgd_t, zi_cl (by omega), Int.toNat_natCast, zbL_s, eX4_readFact_4]
      refine ⟨I2, _, rfl, d2, fun i hi => ?_, cFt_tr c3 d3⟩
      rw [yZsb (by omega) hi]
      dsimp only
      rw [if_neg hb1]
  · intro g
    rw [g, if_pos (show zb1 false = 0 by decide)]
theorem cFac (hn : n ≤ 400) (hB : ∀ k, k < n → B k < 256) (hbk : 1 ≤ bk ∧ bk ≤ 6) : ∀ (q d : Nat), q ≤ 8 → 3 * q + 9 ≤ d → cFn B n bk L J r (fun I => zCd zT d 39 [.ref 23, .ref 17, .int (zi ((8 - q : Nat) : Int))] (zm L I J r)) (yFac B n bk q) := by
  intro q
  induction q with
  | zero =>
    intro d _ hd I s ha hb
    obtain ⟨e, rfl⟩ : ∃ e, d = e + 1 := ⟨d - 1, by omega⟩
    have c0 := cFac0 (d := e) (L := L) (J := J) (r := r) (by omega) hn hB hbk (zi ((8 - 0 : Nat) : Int)) ha hb
    have iw : zCd zT e 92 [.ref 17, .ref 1022] (zm L I J r) = some (some (.int (zb1 (yIsK B n s 12))), (zm L I J r)) := cWrd (by omega) hn hB ha (q := 12) (by decide)
    have is : zCd zT e 91 [.ref 17, .int 40] (zm L I J r) = some (some (.int (zb1 (yIsK B n s 17))), (zm L I J r)) := cSig (by omega) hB ha (q := 17) (by decide)
    dsimp only
    rw [qX4_readFact, yFac]
    cases g : yIsK B n s 13
    case true => rw [if_pos rfl]; exact c0.1 g
    rw [c0.2 g, eX4_readFact_5, iw, zbI_s, eX4_readFact_6, if_neg (show ¬ false = true by decide)]
    have full : ∀ l3 : Int32, ∃ I' w, zX 1 (zCd zT e) zc_X4_readFact 9 [some (.ref 23), some (.ref 17), some (.int (zi ((8 - 0 : Nat) : Int))), some (.int l3), none, none] [] (zm L I J r) = some (some (.long w), zm L I' J r) ∧ cAt B n I' (yFa B n s 5) ∧ (∀ i, i < 64 → yLb64 w i = false) ∧ cFt I I' := by
      intro l3
      obtain ⟨I1, c1, c2, c3⟩ := cFail (d := e) (L := L) (J := J) (r := r) (by omega) hn ha (f := 5) (by decide)
      have c1' : zCd zT e 93 [.ref 17, .int 5] (zm L I J r) = _ := c1
      rw [eX4_readFact_9, if_neg (show ¬ zi ((8 - 0 : Nat) : Int) < (8 : Int32) by decide), c1', zbV_s, eX4_readFact_10]
      exact ⟨I1, 0, rfl, c2, fun i _ => yL64_0, c3⟩
    cases g1 : yIsK B n s 12
    case true =>
      rw [if_neg (show ¬ zb1 true = 0 by decide), if_pos rfl]
      exact full _
    rw [if_pos (show zb1 false = 0 by decide), is, zbI_s, eX4_readFact_7, if_neg (show ¬ false = true by decide)]
    cases g2 : yIsK B n s 17
    case true =>
      rw [if_neg (show ¬ zb1 true = 0 by decide), if_pos rfl]
      exact full _
    obtain ⟨I1, c1, c2, c3⟩ := cFail (d := e) (L := L) (J := J) (r := r) (by omega) hn ha (f := 2) (by decide)
    have c1' : zCd zT e 93 [.ref 17, .int 2] (zm L I J r) = _ := c1
    rw [if_pos (show zb1 false = 0 by decide), c1', zbV_s, eX4_readFact_8, if_neg (show ¬ false = true by decide)]
    exact ⟨I1, 0, rfl, c2, fun i _ => yL64_0, c3⟩
  | succ q ih =>
    intro d hq hd I s ha hb
    obtain ⟨e, rfl⟩ : ∃ e, d = e + 1 := ⟨d - 1, by omega⟩
    have c0 := cFac0 (d := e) (L := L) (J := J) (r := r) (by omega) hn hB hbk (zi ((8 - (q + 1) : Nat) : Int)) ha hb
    have iw : zCd zT e 92 [.ref 17, .ref 1022] (zm L I J r) = some (some (.int (zb1 (yIsK B n s 12))), (zm L I J r)) := cWrd (by omega) hn hB ha (q := 12) (by decide)
    have is : zCd zT e 91 [.ref 17, .int 40] (zm L I J r) = some (some (.int (zb1 (yIsK B n s 17))), (zm L I J r)) := cSig (by omega) hB ha (q := 17) (by decide)
    have k1 : zi ((8 - (q + 1) : Nat) : Int) + (1 : Int32) = zi ((8 - q : Nat) : Int) := by
      rw [yZ1]
      exact congrArg zi (by omega)
    have lt8 : zi ((8 - (q + 1) : Nat) : Int) < (8 : Int32) := by
      rw [show (8 : Int32) = zi ((8 : Nat) : Int) from rfl, yLt (by omega) (by omega)]
      omega
    dsimp only
    rw [qX4_readFact, yFac]
    cases g : yIsK B n s 13
    case true => rw [if_pos rfl]; exact c0.1 g
    rw [c0.2 g, eX4_readFact_5, iw, zbI_s, eX4_readFact_6, if_neg (show ¬ false = true by decide)]
    cases g1 : yIsK B n s 12
    case true =>
      have gg := yZb.mp g1
      obtain ⟨I1, c1, c2, c3⟩ := cAdv (d := e) (L := L) (J := J) (r := r) (by omega) hn ha gg.1 (by omega)
      obtain ⟨I2, w, d1, d2, d3, d4⟩ := ih e (by omega) (by omega) I1 (yAdv B n s) c2 ((c3 23 0 (by omega)).trans hb)
      have d1' : zCd zT e 39 [.ref 23, .ref 17, .int (zi ((8 - q : Nat) : Int))] (zm L I1 J r) = _ := d1
      rw [if_neg (show ¬ zb1 true = 0 by decide), if_pos rfl, eX4_readFact_9, if_pos lt8, eX4_readFact_11, c1, zbV_s, eX4_readFact_12, if_neg (show ¬ zb1 true = 0 by decide), k1, d1', zbL_s, eX4_readFact_13]
      exact ⟨I2, _, rfl, d2, fun i hi => by rw [yL64_no hi, d3 i hi], cFt_tr c3 d4⟩
    rw [if_pos (show zb1 false = 0 by decide), is, zbI_s, eX4_readFact_7, if_neg (show ¬ false = true by decide)]
    cases g2 : yIsK B n s 17
    case true =>
      have gg := yZb.mp g2
      obtain ⟨I1, c1, c2, c3⟩ := cAdv (d := e) (L := L) (J := J) (r := r) (by omega) hn ha gg.1 (by omega)
      have ht : cFn B n bk L J r (fun I => zCd zT e 37 [.ref 23, .ref 17, .int (zi ((8 - q : Nat) : Int))] (zm L I J r)) (yTes B n (yFac B n bk q)) := cTes (by omega) hn hB (ih (e - 2) (by omega) (by omega))
      obtain ⟨I2, w, d1, d2, d3, d4⟩ := ht I1 (yAdv B n s) c2 ((c3 23 0 (by omega)).trans hb)
      have d1' : zCd zT e 37 [.ref 23, .ref 17, .int (zi ((8 - q : Nat) : Int))] (zm L I1 J r) = _ := d1
      obtain ⟨I3, e1, e2, e3⟩ := cTkS (d := e) (L := L) (J := J) (r := r) (by omega) hn hB d2 (q := 18) (by decide)
      have e1' : zCd zT e 95 [.ref 17, .int 41] (zm L I2 J r) = _ := e1
      rw [if_neg (show ¬ zb1 true = 0 by decide), if_pos rfl, eX4_readFact_9, if_pos lt8, eX4_readFact_11, c1, zbV_s, eX4_readFact_12, if_pos (show zb1 false = 0 by decide), eX4_readFact_14, k1, d1', zbL_s, eX4_readFact_15, e1', zbV_s, eX4_readFact_16]
      exact ⟨I3, w, rfl, e2, d3, cFt_tr c3 (cFt_tr d4 e3)⟩
    obtain ⟨I1, c1, c2, c3⟩ := cFail (d := e) (L := L) (J := J) (r := r) (by omega) hn ha (f := 2) (by decide)
    have c1' : zCd zT e 93 [.ref 17, .int 2] (zm L I J r) = _ := c1
    rw [if_pos (show zb1 false = 0 by decide), c1', zbV_s, eX4_readFact_8, if_neg (show ¬ false = true by decide)]
    exact ⟨I1, 0, rfl, c2, fun i _ => yL64_0, c3⟩
end
