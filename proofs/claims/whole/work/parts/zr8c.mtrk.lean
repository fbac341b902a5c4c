/-! TEXT of a TRACK: the model reads it, to its end -/
theorem yFa_f {B : Nat → Nat} {n : Nat} {s : yTkS} {f : Nat} (h : s.1 ≠ 0) : yFa B n s f = s := if_neg h
theorem yIsK_f {B : Nat → Nat} {n : Nat} {s : yTkS} {k : Nat} (h : s.1 ≠ 0) : yIsK B n s k = false := Bool.eq_false_iff.mpr fun q => h (yZb.mp q).1
theorem yLin_f {B : Nat → Nat} {n : Nat} {x : yTkX} (h : x.1.1 ≠ 0) : yLin B n x = x := by
  have e : ∀ k, ¬ yIsK B n x.1 k = true := fun k q => h (yZb.mp q).1
  unfold yLin
  rw [if_neg (e 0), if_neg (e 1), if_neg (e 2), if_neg (e 5), if_neg (e 6), if_neg (e 7), yFa_f h]
theorem yLns_f {B : Nat → Nat} {n : Nat} {x : yTkX} (h : x.1.1 ≠ 0) : ∀ f, yLns B n f x = x
  | 0 => rfl
  | f + 1 => by rw [yLns, if_neg (fun z => h z.1)]
section
variable {d L r : Nat} {I : Nat → Nat → Int32} {J : Nat → Nat → Int64}
variable {B : Nat → Nat} {n : Nat}
theorem mLin (hd : 13 ≤ d) (hn : n ≤ 400) (hB : ∀ k, k < n → B k < 256) {x : yTkX} (ha : mAt B n I x.1) (hx : x.1.1 = 0 → mDat I x.2) (hw : wNt x.2.1) : ∃ I', zCd zT d 263 [.ref 130] (zm L I J r) = some (none, (zm L I' J r)) ∧ mAt B n I' (yLn1 B n x).1 ∧ ((yLn1 B n x).1.1 = 0 → mDat I' (yLn1 B n x).2) ∧ mFw I I' ∧ (x.1.1 ≠ 0 → ¬ I' 130 11 = 0) := by
  obtain ⟨e, rfl⟩ : ∃ e, d = e + 1 := ⟨d - 1, by omega⟩
  have i0 : zCd zT e 253 [.ref 130, .int 0] (zm L I J r) = some (some (.int (zb1 (yIsK B n x.1 0))), (zm L I J r)) := mIsK (by omega) ha (k := 0) (by decide)
  have i1 : zCd zT e 253 [.ref 130, .int 1] (zm L I J r) = some (some (.int (zb1 (yIsK B n x.1 1))), (zm L I J r)) := mIsK (by omega) ha (k := 1) (by decide)
  have i2 : zCd zT e 253 [.ref 130, .int 2] (zm L I J r) = some (some (.int (zb1 (yIsK B n x.1 2))), (zm L I J r)) := mIsK (by omega) ha (k := 2) (by decide)
  have i5 : zCd zT e 253 [.ref 130, .int 5] (zm L I J r) = some (some (.int (zb1 (yIsK B n x.1 5))), (zm L I J r)) := mIsK (by omega) ha (k := 5) (by decide)
  have i6 : zCd zT e 253 [.ref 130, .int 6] (zm L I J r) = some (some (.int (zb1 (yIsK B n x.1 6))), (zm L I J r)) := mIsK (by omega) ha (k := 6) (by decide)
  have i7 : zCd zT e 253 [.ref 130, .int 7] (zm L I J r) = some (some (.int (zb1 (yIsK B n x.1 7))), (zm L I J r)) := mIsK (by omega) ha (k := 7) (by decide)
  have t0 : ¬ zb1 true = 0 := by decide
  have f0 : zb1 false = 0 := by decide
  have mid : ∃ I1, zX 2 (zCd zT e) zc_X12_readTrackLine 0 [some (.ref 130)] [] (zm L I J r) = zX 2 (zCd zT e) zc_X12_readTrackLine 19 [some (.ref 130)] [] (zm L I1 J r) ∧ mAt B n I1 (yLin B n x).1 ∧ ((yLin B n x).1.1 = 0 → mDat I1 (yLin B n x).2) ∧ mFw I I1 := by
    rw [eX12_readTrackLine_0, i0, zbI_s, eX12_readTrackLine_1]
    unfold yLin
    cases g0 : yIsK B n x.1 0
    case true =>
      have g := yZb.mp g0
      obtain ⟨I1, c1, c2, c3, c4⟩ := mHgh (d := e) (L := L) (J := J) (r := r) (by omega) hn hB ha (hx g.1) hw g.1
      rw [if_neg t0, c1, zbV_s, eX12_readTrackLine_2, if_pos rfl]
      exact ⟨I1, rfl, c2, c3, c4⟩
    rw [if_pos f0, eX12_readTrackLine_3, i1, zbI_s, eX12_readTrackLine_4, if_neg (show ¬ false = true by decide)]
    cases g1 : yIsK B n x.1 1
    case true =>
      have g := yZb.mp g1
      obtain ⟨I1, c1, c2, c3, c4⟩ := mMrk (d := e) (L := L) (J := J) (r := r) (by omega) hn hB ha (hx g.1) hw g.1
      rw [if_neg t0, c1, zbV_s, eX12_readTrackLine_5, if_pos rfl]
      exact ⟨I1, rfl, c2, c3, c4⟩
    rw [if_pos f0, eX12_readTrackLine_6, i2, zbI_s, eX12_readTrackLine_7, if_neg (show ¬ false = true by decide)]
    cases g2 : yIsK B n x.1 2
    case true =>
      have g := yZb.mp g2
      obtain ⟨I1, c1, c2, c3, c4⟩ := mChn (d := e) (L := L) (J := J) (r := r) (by omega) hn hB ha (hx g.1) hw g.1
      rw [if_neg t0, c1, zbV_s, eX12_readTrackLine_8, if_pos rfl]
      exact ⟨I1, rfl, c2, c3, c4⟩
    rw [if_pos f0, eX12_readTrackLine_9, i5, zbI_s, eX12_readTrackLine_10, if_neg (show ¬ false = true by decide)]
    cases g5 : yIsK B n x.1 5
    case true =>
      have g := yZb.mp g5
      obtain ⟨I1, c1, c2, c3, c4⟩ := mDgn (d := e) (L := L) (J := J) (r := r) (by omega) hn hB ha (hx g.1) hw g.1
      rw [if_neg t0, c1, zbV_s, eX12_readTrackLine_11, if_pos rfl]
      exact ⟨I1, rfl, c2, c3, c4⟩
    rw [if_pos f0, eX12_readTrackLine_12, i6, zbI_s, eX12_readTrackLine_13, if_neg (show ¬ false = true by decide)]
    cases g6 : yIsK B n x.1 6
    case true =>
      have g := yZb.mp g6
      obtain ⟨I1, c1, c2, c3, c4⟩ := mDrg (d := e) (L := L) (J := J) (r := r) (by omega) hn hB ha (hx g.1) hw g.1
      rw [if_neg t0, c1, zbV_s, eX12_readTrackLine_14, if_pos rfl]
      refine ⟨I1, rfl, ?_, ?_, c4⟩
      · cases q : x.2.2.1
        · rw [q] at c2
          exact c2
        · rw [q] at c2
          exact c2
      · cases q : x.2.2.1
        · rw [q] at c3
          exact c3
        · rw [q] at c3
          exact c3
    rw [if_pos f0, eX12_readTrackLine_15, i7, zbI_s, eX12_readTrackLine_16, if_neg (show ¬ false = true by decide)]
    cases g7 : yIsK B n x.1 7
    case true =>
      have g := yZb.mp g7
      obtain ⟨I1, c1, c2, c3, c4⟩ := mPsh (d := e) (L := L) (J := J) (r := r) (by omega) hn hB ha (hx g.1) hw g.1
      rw [if_neg t0, c1, zbV_s, eX12_readTrackLine_17, if_pos rfl]
      refine ⟨I1, rfl, ?_, ?_, c4⟩
      · cases q : x.2.2.2
        · rw [q] at c2
          exact c2
        · rw [q] at c2
          exact c2
      · cases q : x.2.2.2
        · rw [q] at c3
          exact c3
        · rw [q] at c3
          exact c3
    obtain ⟨I1, c1, c2, c3, c4⟩ := mFails (d := e) (L := L) (J := J) (r := r) (by omega) ha (f := 2) (by decide)
    have c1' : zCd zT e 252 [.ref 130, .int 2] (zm L I J r) = _ := c1
    rw [if_pos f0, eX12_readTrackLine_18, c1', zbV_s, if_neg (show ¬ false = true by decide)]
    exact ⟨I1, rfl, c2, fun z => absurd z (yFa_n (by decide)), mFw_t c3⟩
  obtain ⟨I1, c1, c2, c3, c4⟩ := mid
  obtain ⟨I2, d1, d2, d3, d4⟩ := mNeeds (d := e) (L := L) (J := J) (r := r) (by omega) hn hB c2 (k := 16) (by decide)
  have d1' : zCd zT e 255 [.ref 130, .int 16] (zm L I1 J r) = _ := d1
  rw [qX12_readTrackLine, c1, eX12_readTrackLine_19, d1', zbV_s, eX12_readTrackLine_20]
  refine ⟨I2, rfl, d2, fun z => ?_, mFw_tr c4 (mFw_t d3), fun z w => ?_⟩
  · have a := (yNd_m (B := B) (n := n) (s := (yLin B n x).1) (k := 16) z).1
    exact mDat_t d3 (c3 a)
  · have := d4.mp w
    rw [yLin_f z, yIsK_f z] at this
    cases this
theorem mLnsL (hd : 13 ≤ d) (hn : n ≤ 400) (hB : ∀ k, k < n → B k < 256) (l2 l3 : Int32) : ∀ (f : Nat) (I : Nat → Nat → Int32) (x : yTkX), (x.1.1 = 0 → n < f + x.1.2) → mAt B n I x.1 → (x.1.1 = 0 → mDat I x.2) → wNt x.2.1 → (x.1.1 = 0 → wDp x.2.1) → ∃ I', zX 0 (zCd zT d) zc_X12_text 11 [some (.ref 130), some (.int 0), some (.int l2), some (.int l3)] [] (zm L I J r) = zX 0 (zCd zT d) zc_X12_text 15 [some (.ref 130), some (.int 0), some (.int l2), some (.int l3)] [] (zm L I' J r) ∧ mAt B n I' (yLns B n f x).1 ∧ ((yLns B n f x).1.1 = 0 → mDat I' (yLns B n f x).2) ∧ mFw I I' ∧ ((yLns B n f x).1.1 ≠ 0 → ¬ I' 130 11 = 0) := by
  intro f
  induction f with
  | zero =>
    intro I x hf ha hx hw hp
    have nf : x.1.1 ≠ 0 := fun z => by
      have a := hf z
      have b := (ha.2.1 z).1
      omega
    obtain ⟨b1, b2, b3⟩ := ha.2.2 nf
    rw [yLns]
    rcases b3 with ⟨b4, b5⟩ | ⟨b4, b5, b6, b7⟩
    · have n11 : ¬ I 130 11 = 0 := by rw [b4]; exact yNe0 (by omega) nf
      rw [eX12_text_11, if_neg n11]
      exact ⟨I, rfl, ha, fun z => absurd z nf, mFw_rf, fun _ => n11⟩
    · obtain ⟨I1, c1, c2, c3, c4, c5⟩ := mLin (d := d) (L := L) (J := J) (r := r) (by omega) hn hB ha hx hw
      have e1 : (yLn1 B n x).1 = x.1 := by
        show yNd B n (yLin B n x).1 16 = x.1
        rw [yLin_f nf, yNd_f nf]
      rw [e1] at c2
      rw [eX12_text_11, if_pos b5, b6, if_neg (show ¬ (20 : Int32) = 19 by decide), if_pos (show (0 : Int32) = 0 from rfl), c1, zbV_s, eX12_text_12, eX12_text_11, if_neg (c5 nf)]
      exact ⟨I1, rfl, c2, fun z => absurd z nf, c4, fun _ => c5 nf⟩
  | succ f ih =>
    intro I x hf ha hx hw hp
    by_cases nf : x.1.1 = 0
    · obtain ⟨a1, a2, a3, a4, a5, a6, a7⟩ := ha.2.1 nf
      have kb := yK_b (B := B) (n := n) (p := x.1.2)
      have i19 : zi (yK B n x.1.2 : Int) = (19 : Int32) ↔ yK B n x.1.2 = 19 := yEq (b := 19) (by omega) (by decide)
      rw [eX12_text_11, if_pos a3, a6, yLns]
      by_cases q : yK B n x.1.2 = 19
      · rw [if_pos (i19.mpr q), if_neg (fun z => z.2 q)]
        exact ⟨I, rfl, ha, hx, mFw_rf, fun z => absurd nf z⟩
      · obtain ⟨I1, c1, c2, c3, c4, c5⟩ := mLin (d := d) (L := L) (J := J) (r := r) (by omega) hn hB ha hx hw
        have hw1 := yLin_w (B := B) (n := n) hw hp
        obtain ⟨I2, e1, e2, e3, e4, e5⟩ := ih I1 (yLn1 B n x) (fun z => by
          have := yLn1_s (B := B) (n := n) (x := x) (fun _ => a1) z
          have := hf nf
          omega) c2 c3 hw1.1 (fun z => hw1.2 ((yNd_m (B := B) (n := n) (s := (yLin B n x).1) (k := 16) z).1))
        rw [if_neg (fun z => q (i19.mp z)), if_pos (show (0 : Int32) = 0 from rfl), c1, zbV_s, eX12_text_12, if_pos ⟨nf, q⟩]
        exact ⟨I2, e1, e2, e3, mFw_tr c4 e4, e5⟩
    · obtain ⟨b1, b2, b3⟩ := ha.2.2 nf
      rw [yLns_f nf]
      rcases b3 with ⟨b4, b5⟩ | ⟨b4, b5, b6, b7⟩
      · have n11 : ¬ I 130 11 = 0 := by rw [b4]; exact yNe0 (by omega) nf
        rw [eX12_text_11, if_neg n11]
        exact ⟨I, rfl, ha, fun z => absurd z nf, mFw_rf, fun _ => n11⟩
      · obtain ⟨I1, c1, c2, c3, c4, c5⟩ := mLin (d := d) (L := L) (J := J) (r := r) (by omega) hn hB ha hx hw
        have e1 : (yLn1 B n x).1 = x.1 := by
          show yNd B n (yLin B n x).1 16 = x.1
          rw [yLin_f nf, yNd_f nf]
        rw [e1] at c2
        rw [eX12_text_11, if_pos b5, b6, if_neg (show ¬ (20 : Int32) = 19 by decide), if_pos (show (0 : Int32) = 0 from rfl), c1, zbV_s, eX12_text_12, eX12_text_11, if_neg (c5 nf)]
        exact ⟨I1, rfl, c2, fun z => absurd z nf, c4, fun _ => c5 nf⟩
/-- behind the first token -/
theorem mTrkR (hd : 13 ≤ d) (hn : n ≤ 400) (hB : ∀ k, k < n → B k < 256) (l2 l3 : Int32) (ha : mAt B n I (yTo B n 0)) (hx : mDat I (yTn, false, false)) : ∃ I', zX 0 (zCd zT d) zc_X12_text 11 [some (.ref 130), some (.int 0), some (.int l2), some (.int l3)] [] (zm L I J r) = zX 0 (zCd zT d) zc_X12_text 16 [some (.ref 130), some (.int 0), some (.int l2), some (.int l3)] [] (zm L I' J r) ∧ mAt B n I' (yTrF B n) ∧ ((yTrF B n).1 = 0 → mDat I' (yTrk B n).2 ∧ 2 ≤ (yTrk B n).2.1.n) ∧ mFw I I' ∧ ((yTrF B n).1 ≠ 0 → ¬ I' 130 11 = 0) := by
  obtain ⟨I1, c1, c2, c3, c4, c5⟩ := mLnsL (d := d) (L := L) (J := J) (r := r) (by omega) hn hB l2 l3 401 I (yTo B n 0, yTn, false, false) (fun _ => by omega) ha (fun _ => hx) wNt_n (fun _ => show wDp yTn by unfold wDp; decide)
  have pe : yLns B n 401 (yTo B n 0, yTn, false, false) = yTrk B n := rfl
  rw [pe] at c2 c3 c5
  rw [c1, eX12_text_15, if_pos (show (0 : Int32) = 0 from rfl)]
  unfold yTrF
  by_cases q : (yTrk B n).1.1 = 0
  · have a3 := (c2.2.1 q).2.2.1
    have hx1 := c3 q
    have hb : (yTrk B n).2.1.n < 2147483648 := by
      have hw1 : ∀ (f : Nat) (x : yTkX), wNt x.2.1 → (x.1.1 = 0 → wDp x.2.1) → wNt (yLns B n f x).2.1 := by
        intro f
        induction f with
        | zero => exact fun x h _ => h
        | succ f ih =>
          intro x h hp
          rw [yLns]
          have hl := yLin_w (B := B) (n := n) h hp
          split
          · exact ih (yLn1 B n x) hl.1 (fun z => hl.2 ((yNd_m (B := B) (n := n) (s := (yLin B n x).1) (k := 16) z).1))
          · exact h
      have := (hw1 401 (yTo B n 0, yTn, false, false) wNt_n (fun _ => show wDp yTn by unfold wDp; decide)).1
      rw [pe] at this
      omega
    rw [if_pos a3, hx1.1]
    by_cases g : (yTrk B n).2.1.n < 2
    · obtain ⟨I2, d1, d2, d3, d4⟩ := mFails (d := d) (L := L) (J := J) (r := r) (by omega) c2 (f := 2) (by decide)
      have d1' : zCd zT d 252 [.ref 130, .int 2] (zm L I1 J r) = _ := d1
      rw [if_neg (show ¬ (2 : Int32) ≤ zi ((yTrk B n).2.1.n : Int) by rw [show (2 : Int32) = zi ((2 : Nat) : Int) from rfl, yLe (by omega) hb]; omega), d1', zbV_s, if_pos ⟨q, g⟩]
      exact ⟨I2, rfl, d2, fun z => absurd z (yFa_n (by decide)), mFw_tr c4 (mFw_t d3), fun _ => d4⟩
    · rw [if_pos (show (2 : Int32) ≤ zi ((yTrk B n).2.1.n : Int) by rw [show (2 : Int32) = zi ((2 : Nat) : Int) from rfl, yLe (by omega) hb]; omega), if_neg (fun z => g z.2)]
      exact ⟨I1, rfl, c2, fun _ => ⟨hx1, by omega⟩, c4, fun z => absurd q z⟩
  · rw [if_neg (c5 q), if_neg (fun z => q z.1)]
    exact ⟨I1, rfl, c2, fun z => absurd z q, c4, fun _ => c5 q⟩
end
