/-! TEXT of a TRACK: the model reads it -/
theorem yRdN_f {B : Nat → Nat} {n : Nat} {s : yTkS} {lo hi : Int} {room : Bool} (h : s.1 ≠ 0) : yRdN B n s lo hi room = (s, -1) := by
  have e : ¬ yIsK B n s 15 = true := fun q => h (yZb.mp q).1
  unfold yRdN yFa
  rw [if_neg e, if_neg h]
theorem yNd_f {B : Nat → Nat} {n : Nat} {s : yTkS} {k : Nat} (h : s.1 ≠ 0) : yNd B n s k = s := by
  have e : ¬ yIsK B n s k = true := fun q => h (yZb.mp q).1
  unfold yNd yFa
  rw [if_neg e, if_neg h]
theorem yAdv_f {B : Nat → Nat} {n : Nat} {s : yTkS} (h : s.1 ≠ 0) : yAdv B n s = s := by
  unfold yAdv
  rw [if_neg h]
def mDat (I : Nat → Nat → Int32) (x : zDy × Bool × Bool) : Prop := I 132 0 = zi (x.1.n : Int) ∧ (∀ p, p < x.1.n → I 132 (1 + p) = zi (x.1.h p)) ∧ I 132 61 = zi (x.1.m : Int) ∧ (∀ i, i < x.1.m → I 132 (62 + i) = zi (x.1.sp i)) ∧ I 132 67 = zi (x.1.nc : Int) ∧ (∀ c, c < x.1.nc → I 132 (68 + c) = zi (x.1.cf c) ∧ I 132 (70 + c) = zi (x.1.ct c) ∧ I 132 (72 + c) = zi (x.1.cv c)) ∧ I 132 74 = zi (x.1.nd : Int) ∧ (∀ c, c < x.1.nd → I 132 (75 + c) = zi (x.1.df c) ∧ I 132 (77 + c) = zi (x.1.dt c)) ∧ I 132 79 = zi x.1.drag ∧ I 132 80 = zi x.1.push ∧ I 130 17 = zb1 x.2.1 ∧ I 130 18 = zb1 x.2.2
def mFw (I I' : Nat → Nat → Int32) : Prop := ∀ o k, ¬ (o = 130 ∧ 6 ≤ k ∧ k ≤ 12 ∧ k ≠ 8) → ¬ (o = 130 ∧ (k = 17 ∨ k = 18)) → ¬ (o = 132 ∧ k < 81) → I' o k = I o k
theorem mFw_tr {I I1 I2 : Nat → Nat → Int32} (h : mFw I I1) (g : mFw I1 I2) : mFw I I2 := fun o k a b c => (g o k a b c).trans (h o k a b c)
theorem mFw_rf {I : Nat → Nat → Int32} : mFw I I := fun _ _ _ _ _ => rfl
theorem mFw_t {I I' : Nat → Nat → Int32} (h : mFt I I') : mFw I I' := fun o k a _ _ => h o k a
theorem mDat_fr {I I' : Nat → Nat → Int32} {x : zDy × Bool × Bool} (h2 : I' 132 = I 132) (h17 : I' 130 17 = I 130 17) (h18 : I' 130 18 = I 130 18) (g : mDat I x) : mDat I' x := by
  unfold mDat
  rw [h2, h17, h18]
  exact g
theorem mDat_t {I I' : Nat → Nat → Int32} {x : zDy × Bool × Bool} (h : mFt I I') (g : mDat I x) : mDat I' x := mDat_fr (mFt_o h (by decide)) (h 130 17 (by omega)) (h 130 18 (by omega)) g
section
variable {d L r : Nat} {I : Nat → Nat → Int32} {J : Nat → Nat → Int64}
variable {B : Nat → Nat} {n : Nat}
theorem mHghL (hd : 9 ≤ d) (hn : n ≤ 400) (hB : ∀ k, k < n → B k < 256) : ∀ (f : Nat) (I : Nat → Nat → Int32) (s : yTkS) (x : zDy × Bool × Bool), 60 < f + x.1.n → wNt x.1 → mAt B n I s → (s.1 = 0 → mDat I x) → ∃ I', zX 2 (zCd zT d) zc_X12_readHigh 2 [some (.ref 130), some (.int 1), none] [] (zm L I J r) = some (none, (zm L I' J r)) ∧ mAt B n I' (yHgh B n f (s, x.1)).1 ∧ ((yHgh B n f (s, x.1)).1.1 = 0 → mDat I' ((yHgh B n f (s, x.1)).2, x.2)) ∧ mFw I I' := by
  intro f
  induction f with
  | zero =>
    intro I s x hf hw _ _
    have := hw.1
    omega
  | succ f ih =>
    intro I s x hf hw ha hx
    have w1 := hw.1
    have rm : yRdN B n s 0 99 (decide (¬ I 132 0 = (60 : Int32))) = yRdN B n s 0 99 (decide (x.1.n < 60)) := by
      by_cases q : s.1 = 0
      · have e := (hx q).1
        have i60 : I 132 0 = (60 : Int32) ↔ x.1.n = 60 := by
          rw [e]
          exact yEq (b := 60) (by omega) (by decide)
        by_cases z : x.1.n = 60
        · rw [decide_eq_false (fun c => c (i60.mpr z)), decide_eq_false (show ¬ x.1.n < 60 by omega)]
        · rw [decide_eq_true (show ¬ I 132 0 = (60 : Int32) from fun c => z (i60.mp c)), decide_eq_true (show x.1.n < 60 by omega)]
      · rw [yRdN_f q, yRdN_f q]
    obtain ⟨I1, v, c1, c2, c3, c4, c5⟩ := mReads (d := d) (L := L) (J := J) (r := r) (by omega) hn hB ha (a1 := 0) (a2 := 99) (lo := 0) (hi := 99) (fun _ => ⟨rfl, rfl⟩) (by decide) (by decide) (decide (¬ I 132 0 = (60 : Int32)))
    rw [rm] at c2 c4 c5
    have go : zX 2 (zCd zT d) zc_X12_readHigh 2 [some (.ref 130), some (.int 1), none] [] (zm L I J r) = zX 2 (zCd zT d) zc_X12_readHigh 5 [some (.ref 130), some (.int 1), none] [.int v] (zm L I1 J r) := by
      rw [eX12_readHigh_2, if_neg (show ¬ (1 : Int32) = 0 by decide)]
      by_cases z : I 132 0 = (60 : Int32)
      · rw [decide_eq_false (fun c => c z)] at c1
        have c1' : zCd zT d 256 [.ref 130, .int 0, .int 99, .int 1] (zm L I J r) = _ := c1
        rw [if_pos z, eX12_readHigh_4, c1', zbI_s]
      · rw [decide_eq_true z] at c1
        have c1' : zCd zT d 256 [.ref 130, .int 0, .int 99, .int 0] (zm L I J r) = _ := c1
        rw [if_neg z, eX12_readHigh_3, eX12_readHigh_4, c1', zbI_s]
    rw [go, eX12_readHigh_5]
    have mid : ∃ I2 y, (if I1 130 11 = 0 then zgd (zin ((1 : Int32) + I1 132 0) 618) (zX 2 (zCd zT d) zc_X12_readHigh 6 [some (.ref 130), some (.int 1), some (.int v)] [] (zm L (zu (zu I1 132 (((1 : Int32) + I1 132 0)).toNatClampNeg v) 132 0 ((zu I1 132 (((1 : Int32) + I1 132 0)).toNatClampNeg v) 132 0 + (1 : Int32))) J r)) else zX 2 (zCd zT d) zc_X12_readHigh 6 [some (.ref 130), some (.int 1), some (.int v)] [] (zm L I1 J r)) = zX 2 (zCd zT d) zc_X12_readHigh 6 [some (.ref 130), some (.int 1), some (.int y)] [] (zm L I2 J r) ∧ mAt B n I2 (yRdN B n s 0 99 (decide (x.1.n < 60))).1 ∧ ((yRdN B n s 0 99 (decide (x.1.n < 60))).1.1 = 0 → mDat I2 ((if (yRdN B n s 0 99 (decide (x.1.n < 60))).2 = -1 then x.1 else yAddP x.1 (yRdN B n s 0 99 (decide (x.1.n < 60))).2), x.2)) ∧ mFw I I2 := by
      rcases yRdN_c (B := B) (n := n) (s := s) (lo := 0) (hi := 99) (room := decide (x.1.n < 60)) with c | c
      · rw [if_neg (fun z => c4.mp z c.1)]
        exact ⟨I1, v, rfl, c2, fun z => absurd z c.2, mFw_t c3⟩
      · have hx1 := mDat_t c3 (hx c.2.1)
        obtain ⟨h1, h2, h3, h4, h5, h6, h7, h8, h9, h10, h11, h12⟩ := hx1
        have nl : x.1.n < 60 := of_decide_eq_true c.2.2.2.2.2.2.1
        have k1 : (1 : Int32) + zi (x.1.n : Int) = zi ((1 + x.1.n : Nat) : Int) := (zi_add 1 _).trans (congrArg zi (by omega))
        rw [if_pos (c4.mpr c.1), c5 c.1, h1, k1, zin_t (by omega) (by omega), zgd_t, zi_cl (by omega), Int.toNat_natCast, zu_n (show ¬ ((132 : Nat) = 132 ∧ 0 = 1 + x.1.n) by omega), h1, yZ1, if_neg c.1]
        have fr : mFw I1 (zu (zu I1 132 (1 + x.1.n) (zi (yRdN B n s 0 99 (decide (x.1.n < 60))).2)) 132 0 (zi ((x.1.n + 1 : Nat) : Int))) := fun o k a b c => by rw [zu_n (by omega), zu_n (by omega)]
        refine ⟨_, _, rfl, mAt_fr (fun k _ _ => by rw [zu_o (by decide), zu_o (by decide)]) (by rw [zu_o (by decide), zu_o (by decide)]) c2, fun _ => ⟨zu_y ⟨rfl, rfl⟩, fun p hp => ?_, ?_, fun i hi => ?_, ?_, fun c hc => ?_, ?_, fun c hc => ?_, ?_, ?_, ?_, ?_⟩, mFw_tr (mFw_t c3) fr⟩
        · have hp' : p < x.1.n + 1 := hp
          show _ = zi (yFn x.1.h x.1.n _ p)
          rw [zu_n (by omega)]
          by_cases e : p = x.1.n
          · rw [e, zu_y ⟨rfl, rfl⟩, yFn_y]
          · rw [zu_n (by omega), yFn_n e]
            exact h2 p (by omega)
        · rw [zu_n (by decide), zu_n (by omega)]
          exact h3
        · have := hw.2.2.1
          rw [zu_n (by omega), zu_n (by omega)]
          exact h4 i hi
        · rw [zu_n (by decide), zu_n (by omega)]
          exact h5
        · rw [zu_n (by omega), zu_n (by omega), zu_n (by omega), zu_n (by omega), zu_n (by omega), zu_n (by omega)]
          exact h6 c hc
        · rw [zu_n (by decide), zu_n (by omega)]
          exact h7
        · rw [zu_n (by omega), zu_n (by omega), zu_n (by omega), zu_n (by omega)]
          exact h8 c hc
        · rw [zu_n (by decide), zu_n (by omega)]
          exact h9
        · rw [zu_n (by decide), zu_n (by omega)]
          exact h10
        · rw [zu_n (by decide), zu_n (by omega)]
          exact h11
        · rw [zu_n (by decide), zu_n (by omega)]
          exact h12
    obtain ⟨I2, y, m1, m2, m3, m4⟩ := mid
    have hw1 : wNt (if (yRdN B n s 0 99 (decide (x.1.n < 60))).2 = -1 then x.1 else yAddP x.1 (yRdN B n s 0 99 (decide (x.1.n < 60))).2) := by
      rcases yRdN_c (B := B) (n := n) (s := s) (lo := 0) (hi := 99) (room := decide (x.1.n < 60)) with c | c
      · rw [if_pos c.1]
        exact hw
      · rw [if_neg c.1]
        exact wNt_P hw (of_decide_eq_true c.2.2.2.2.2.2.1) ⟨c.2.2.2.2.1, c.2.2.2.2.2.1⟩
    rw [m1, eX12_readHigh_6, show (15 : Int32) = zi ((15 : Nat) : Int) from rfl, mIsK (by omega) m2 (by decide), zbI_s, eX12_readHigh_7, yHgh]
    cases g : yIsK B n (yRdN B n s 0 99 (decide (x.1.n < 60))).1 15
    · rw [eX12_readHigh_2, if_pos (show zb1 false = 0 by decide), eX12_readHigh_8, if_neg (by decide)]
      exact ⟨I2, rfl, m2, m3, m4⟩
    · have tk := (yRdN_0 (yZb.mp g).1).1
      have hf1 : 60 < f + (if (yRdN B n s 0 99 (decide (x.1.n < 60))).2 = -1 then x.1 else yAddP x.1 (yRdN B n s 0 99 (decide (x.1.n < 60))).2).n := by
        rw [if_neg tk]
        show 60 < f + (x.1.n + 1)
        omega
      rw [if_pos rfl]
      obtain ⟨I3, d1, d2, d3, d4⟩ := ih I2 (yRdN B n s 0 99 (decide (x.1.n < 60))).1 (_, x.2) hf1 hw1 m2 m3
      exact ⟨I3, d1, d2, d3, mFw_tr m4 d4⟩
theorem mHgh (hd : 10 ≤ d) (hn : n ≤ 400) (hB : ∀ k, k < n → B k < 256) {s : yTkS} {x : zDy × Bool × Bool} (ha : mAt B n I s) (hx : mDat I x) (hw : wNt x.1) (hs : s.1 = 0) : ∃ I', zCd zT d 257 [.ref 130] (zm L I J r) = some (none, (zm L I' J r)) ∧ mAt B n I' (yHgh B n 61 (yAdv B n s, x.1)).1 ∧ ((yHgh B n 61 (yAdv B n s, x.1)).1.1 = 0 → mDat I' ((yHgh B n 61 (yAdv B n s, x.1)).2, x.2)) ∧ mFw I I' := by
  obtain ⟨e, rfl⟩ : ∃ e, d = e + 1 := ⟨d - 1, by omega⟩
  obtain ⟨I1, c1, c2, c3, c4⟩ := mNextA (d := e) (L := L) (J := J) (r := r) (by omega) hn hB ha hs
  obtain ⟨I2, d1, d2, d3, d4⟩ := mHghL (d := e) (L := L) (J := J) (r := r) (B := B) (n := n) (by omega) hn hB 61 I1 (yAdv B n s) x (by omega) hw c2 (fun _ => mDat_t c3 hx)
  rw [qX12_readHigh, eX12_readHigh_0, c1, zbV_s, eX12_readHigh_1, d1]
  exact ⟨I2, rfl, d2, d3, mFw_tr (mFw_t c3) d4⟩
theorem mMrk (hd : 10 ≤ d) (hn : n ≤ 400) (hB : ∀ k, k < n → B k < 256) {s : yTkS} {x : zDy × Bool × Bool} (ha : mAt B n I s) (hx : mDat I x) (hw : wNt x.1) (hs : s.1 = 0) : ∃ I', zCd zT d 258 [.ref 130] (zm L I J r) = some (none, (zm L I' J r)) ∧ mAt B n I' (yBlk B n s x.1).1 ∧ ((yBlk B n s x.1).1.1 = 0 → mDat I' ((yBlk B n s x.1).2, x.2)) ∧ mFw I I' := by
  obtain ⟨e, rfl⟩ : ∃ e, d = e + 1 := ⟨d - 1, by omega⟩
  have w1 := hw.1
  have w3 := hw.2.2.1
  have lb := yLsp_b hw
  have h61 := hx.2.2.1
  have i5 : zi (x.1.m : Int) = (5 : Int32) ↔ x.1.m = 5 := yEq (b := 5) (by omega) (by decide)
  have a3 := (ha.2.1 hs).2.2.1
  rw [qX12_readMark, eX12_readMark_0, h61]
  unfold yBlk
  by_cases q : 5 ≤ x.1.m
  · obtain ⟨I1, c1, c2, c3, c4⟩ := mFails (d := e) (L := L) (J := J) (r := r) (by omega) ha (f := 5) (by decide)
    have c1' : zCd zT e 252 [.ref 130, .int 5] (zm L I J r) = _ := c1
    rw [if_pos (i5.mpr (by omega)), c1', zbV_s, eX12_readMark_1, if_neg c4, if_pos q]
    exact ⟨I1, rfl, c2, fun _ => mDat_t c3 hx, mFw_t c3⟩
  · obtain ⟨I1, c1, c2, c3, c4⟩ := mNextA (d := e) (L := L) (J := J) (r := r) (by omega) hn hB ha hs
    have hx1 := mDat_t c3 hx
    have go : zX 2 (zCd zT e) zc_X12_readMark 3 [some (.ref 130), some (.int (zi (x.1.m : Int))), none] [] (zm L I1 J r) = zX 2 (zCd zT e) zc_X12_readMark 5 [some (.ref 130), some (.int (zi (x.1.m : Int))), none] [.int (zi (yLsp x.1 + 1)), .ref 130] (zm L I1 J r) := by
      rw [eX12_readMark_3]
      unfold yLsp
      by_cases z : x.1.m = 0
      · rw [z, if_pos (show zi ((0 : Nat) : Int) = 0 from rfl), if_pos rfl]
        rfl
      · have k1 : ((62 : Int32) + zi (x.1.m : Int)) - (1 : Int32) = zi ((62 + (x.1.m - 1) : Nat) : Int) := by
          rw [show (62 : Int32) = zi 62 from rfl, show (1 : Int32) = zi 1 from rfl, zi_add, zi_sub]
          exact congrArg zi (by omega)
        rw [if_neg (yNe0 (by omega) z), eX12_readMark_4, k1, zin_t (by omega) (by omega), zgd_t, zi_cl (by omega), Int.toNat_natCast, hx1.2.2.2.1 _ (by omega), yZp1, if_neg z]
    obtain ⟨I2, v, d1, d2, d3, d4, d5⟩ := mReads (d := e) (L := L) (J := J) (r := r) (by omega) hn hB c2 (a1 := zi (yLsp x.1 + 1)) (a2 := zi ((x.1.n : Int) - 1)) (lo := yLsp x.1 + 1) (hi := (x.1.n : Int) - 1) (fun _ => ⟨rfl, rfl⟩) (by omega) (by omega) true
    have d1' : zCd zT e 256 [.ref 130, .int (zi (yLsp x.1 + 1)), .int (zi ((x.1.n : Int) - 1)), .int 0] (zm L I1 J r) = _ := d1
    rw [if_neg (fun z => q (by have := i5.mp z; omega)), eX12_readMark_1, if_pos a3, eX12_readMark_2, c1, zbV_s, go, eX12_readMark_5, hx1.1, yZm1, d1', zbI_s, eX12_readMark_6, if_neg q]
    rcases yRdN_c (B := B) (n := n) (s := yAdv B n s) (lo := yLsp x.1 + 1) (hi := (x.1.n : Int) - 1) (room := true) with c | c
    · rw [if_neg (fun z => d4.mp z c.1)]
      exact ⟨I2, rfl, d2, fun z => absurd z c.2, mFw_tr (mFw_t c3) (mFw_t d3)⟩
    · obtain ⟨h1, h2, h3, h4, h5, h6, h7, h8, h9, h10, h11, h12⟩ := mDat_t d3 hx1
      have k1 : (62 : Int32) + zi (x.1.m : Int) = zi ((62 + x.1.m : Nat) : Int) := (zi_add 62 _).trans (congrArg zi (by omega))
      rw [if_pos (d4.mpr c.1), eX12_readMark_7, k1, zin_t (by omega) (by omega), zgd_t, zi_cl (by omega), Int.toNat_natCast, zu_n (show ¬ ((132 : Nat) = 132 ∧ 61 = 62 + x.1.m) by omega), h3, yZ1, d5 c.1, if_neg c.1]
      have fr : mFw I2 (zu (zu I2 132 (62 + x.1.m) (zi (yRdN B n (yAdv B n s) (yLsp x.1 + 1) ((x.1.n : Int) - 1) true).2)) 132 61 (zi ((x.1.m + 1 : Nat) : Int))) := fun o k a b c => by rw [zu_n (by omega), zu_n (by omega)]
      refine ⟨_, rfl, mAt_fr (fun k _ _ => by rw [zu_o (by decide), zu_o (by decide)]) (by rw [zu_o (by decide), zu_o (by decide)]) d2, fun _ => ⟨?_, fun p hp => ?_, zu_y ⟨rfl, rfl⟩, fun i hi => ?_, ?_, fun c hc => ?_, ?_, fun c hc => ?_, ?_, ?_, ?_, ?_⟩, mFw_tr (mFw_tr (mFw_t c3) (mFw_t d3)) fr⟩
      · rw [zu_n (by decide), zu_n (by omega)]
        exact h1
      · have hp' : p < x.1.n := hp
        rw [zu_n (by omega), zu_n (by omega)]
        exact h2 p hp
      · have hi' : i < x.1.m + 1 := hi
        show _ = zi (yFn x.1.sp x.1.m _ i)
        rw [zu_n (by omega)]
        by_cases e : i = x.1.m
        · rw [e, zu_y ⟨rfl, rfl⟩, yFn_y]
        · rw [zu_n (by omega), yFn_n e]
          exact h4 i (by omega)
      · rw [zu_n (by decide), zu_n (by omega)]
        exact h5
      · rw [zu_n (by omega), zu_n (by omega), zu_n (by omega), zu_n (by omega), zu_n (by omega), zu_n (by omega)]
        exact h6 c hc
      · rw [zu_n (by decide), zu_n (by omega)]
        exact h7
      · rw [zu_n (by omega), zu_n (by omega), zu_n (by omega), zu_n (by omega)]
        exact h8 c hc
      · rw [zu_n (by decide), zu_n (by omega)]
        exact h9
      · rw [zu_n (by decide), zu_n (by omega)]
        exact h10
      · rw [zu_n (by decide), zu_n (by omega)]
        exact h11
      · rw [zu_n (by decide), zu_n (by omega)]
        exact h12
/-- a chain's or a dog's two numbers: c of them stand -/
theorem mSpn (hd : 11 ≤ d) (hn : n ≤ 400) (hB : ∀ k, k < n → B k < 256) {s : yTkS} {t : zDy} (ha : mAt B n I s) (h0 : I 132 0 = zi (t.n : Int)) (hw : t.n ≤ 60) (hs : s.1 = 0) {mn fr to c : Nat} (hm : I 132 mn = zi (c : Int)) (hc : c ≤ 2) (hb : mn < 81 ∧ fr < 79 ∧ to < 79) (hq : mn ≠ fr + c ∧ mn ≠ to + c) : ∃ I', zCd zT d 259 [.ref 130, .int (zi (mn : Int)), .int (zi (fr : Int)), .int (zi (to : Int))] (zm L I J r) = some (none, (zm L I' J r)) ∧ mAt B n I' (if 2 ≤ c then yFa B n s 5 else (ySpn B n s t).2.1) ∧ (I' 130 11 = 0 ↔ c < 2 ∧ (ySpn B n s t).2.2 ≠ -1) ∧ ((c < 2 ∧ (ySpn B n s t).2.2 ≠ -1) → I' 132 = zu (zu (zu I 132 (fr + c) (zi (ySpn B n s t).1.2)) 132 (to + c) (zi (ySpn B n s t).2.2)) 132 mn (zi ((c + 1 : Nat) : Int)) 132) ∧ mFw I I' ∧ I' 130 17 = I 130 17 ∧ I' 130 18 = I 130 18 := by
  obtain ⟨e, rfl⟩ : ∃ e, d = e + 1 := ⟨d - 1, by omega⟩
  have a3 := (ha.2.1 hs).2.2.1
  have i2 : zi (c : Int) = (2 : Int32) ↔ c = 2 := yEq (b := 2) (by omega) (by decide)
  rw [qX12_readSpan, eX12_readSpan_0, zin_t (by omega) (by omega), zgd_t, zi_cl (by omega), Int.toNat_natCast, hm]
  by_cases q : 2 ≤ c
  · obtain ⟨I1, c1, c2, c3, c4⟩ := mFails (d := e) (L := L) (J := J) (r := r) (by omega) ha (f := 5) (by decide)
    have c1' : zCd zT e 252 [.ref 130, .int 5] (zm L I J r) = _ := c1
    rw [if_pos (i2.mpr (by omega)), c1', zbV_s, eX12_readSpan_1, if_neg c4, if_pos q]
    exact ⟨I1, rfl, c2, ⟨fun z => absurd z c4, fun z => absurd z.1 (by omega)⟩, fun z => absurd z.1 (by omega), mFw_t c3, c3 130 17 (by omega), c3 130 18 (by omega)⟩
  · obtain ⟨I1, c1, c2, c3, c4⟩ := mNextA (d := e) (L := L) (J := J) (r := r) (by omega) hn hB ha hs
    obtain ⟨I2, v, d1, d2, d3, d4, d5⟩ := mReads (d := e) (L := L) (J := J) (r := r) (by omega) hn hB c2 (a1 := 0) (a2 := zi ((t.n : Int) - 1)) (lo := 0) (hi := (t.n : Int) - 1) (fun _ => ⟨rfl, rfl⟩) (by decide) (by omega) true
    have d1' : zCd zT e 256 [.ref 130, .int 0, .int (zi ((t.n : Int) - 1)), .int 0] (zm L I1 J r) = _ := d1
    have rb : -1 ≤ (yRdN B n (yAdv B n s) 0 ((t.n : Int) - 1) true).2 ∧ (yRdN B n (yAdv B n s) 0 ((t.n : Int) - 1) true).2 ≤ 59 := by
      rcases yRdN_c (B := B) (n := n) (s := yAdv B n s) (lo := 0) (hi := (t.n : Int) - 1) (room := true) with c | c
      · rw [c.1]
        decide
      · omega
    obtain ⟨I3, e1, e2, e3, e4⟩ := mNeeds (d := e) (L := L) (J := J) (r := r) (by omega) hn hB d2 (k := 3) (by decide)
    have e1' : zCd zT e 255 [.ref 130, .int 3] (zm L I2 J r) = _ := e1
    obtain ⟨I4, u, f1, f2, f3, f4, f5⟩ := mReads (d := e) (L := L) (J := J) (r := r) (by omega) hn hB e2 (a1 := v + (1 : Int32)) (a2 := zi ((t.n : Int) - 1)) (lo := (yRdN B n (yAdv B n s) 0 ((t.n : Int) - 1) true).2 + 1) (hi := (t.n : Int) - 1) (fun z => ⟨by
      have s0 := (yNd_m (B := B) (n := n) (s := (yRdN B n (yAdv B n s) 0 ((t.n : Int) - 1) true).1) (k := 3) z).1
      rw [d5 (yRdN_0 s0).1, yZp1], rfl⟩) (by omega) (by omega) true
    have f1' : zCd zT e 256 [.ref 130, .int (v + (1 : Int32)), .int (zi ((t.n : Int) - 1)), .int 0] (zm L I3 J r) = _ := f1
    have k0 : ∀ I', mFt I I' → I' 132 0 = zi (t.n : Int) := fun I' z => by rw [mFt_o z (by decide)]; exact h0
    have m2 := mFt_tr c3 d3
    have m3 := mFt_tr m2 e3
    have m4 := mFt_tr m3 f3
    rw [if_neg (fun z => q (by have := i2.mp z; omega)), eX12_readSpan_1, if_pos a3, eX12_readSpan_2, c1, zbV_s, eX12_readSpan_3, k0 I1 c3, yZm1, d1', zbI_s, eX12_readSpan_4, e1', zbV_s, eX12_readSpan_5, k0 I3 m3, yZm1, f1', zbI_s, eX12_readSpan_6, if_neg q]
    have f2' : mAt B n I4 (ySpn B n s t).2.1 := f2
    have f4' : I4 130 11 = 0 ↔ (ySpn B n s t).2.2 ≠ -1 := f4
    have f5' : (ySpn B n s t).2.2 ≠ -1 → u = zi (ySpn B n s t).2.2 := f5
    by_cases g : (ySpn B n s t).2.2 = -1
    · rw [if_neg (fun z => f4'.mp z g)]
      exact ⟨I4, rfl, f2', ⟨fun z => absurd g (f4'.mp z), fun z => absurd g z.2⟩, fun z => absurd g z.2, mFw_t m4, m4 130 17 (by omega), m4 130 18 (by omega)⟩
    · have b := ySpn_b g
      have e132 : I4 132 = I 132 := mFt_o m4 (by decide)
      have k1 : zi (fr : Int) + zi (c : Int) = zi ((fr + c : Nat) : Int) := zi_add _ _
      have k2 : zi (to : Int) + zi (c : Int) = zi ((to + c : Nat) : Int) := zi_add _ _
      have va : v = zi (ySpn B n s t).1.2 := d5 b.2.2.2
      have z11 := f4'.mpr g
      rw [if_pos z11, eX12_readSpan_7, k1, k2, zin_t (by omega) (by omega), zgd_t, zin_t (by omega) (by omega), zgd_t, zin_t (by omega) (by omega), zgd_t, zgd_t, zi_cl (by omega), zi_cl (by omega), zi_cl (by omega), Int.toNat_natCast, Int.toNat_natCast, Int.toNat_natCast, zu_n (show ¬ ((132 : Nat) = 132 ∧ mn = to + c) by omega), zu_n (show ¬ ((132 : Nat) = 132 ∧ mn = fr + c) by omega), e132, hm, yZ1, va, f5' g]
      refine ⟨_, rfl, mAt_fr (fun k _ _ => by rw [zu_o (by decide), zu_o (by decide), zu_o (by decide)]) (by rw [zu_o (by decide), zu_o (by decide), zu_o (by decide)]) f2', ⟨fun _ => ⟨by omega, g⟩, fun _ => ?_⟩, fun _ => ?_, mFw_tr (mFw_t m4) (fun o k a b c => by rw [zu_n (by omega), zu_n (by omega), zu_n (by omega)]), ?_, ?_⟩
      · rw [zu_n (by omega), zu_n (by omega), zu_n (by omega)]
        exact z11
      · funext k
        unfold zu
        rw [e132]
      · rw [zu_n (by omega), zu_n (by omega), zu_n (by omega)]
        exact m4 130 17 (by omega)
      · rw [zu_n (by omega), zu_n (by omega), zu_n (by omega)]
        exact m4 130 18 (by omega)
end
