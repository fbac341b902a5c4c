/-! TEXT of a TRACK: the class's reader -/
def cDat (I : Nat → Nat → Int32) (J : Nat → Nat → Int64) (x : zDy × Bool × Bool) : Prop := I 24 5 = zi (x.1.n : Int) ∧ (∀ p, p < x.1.n → I 25 p = zi (x.1.h p)) ∧ I 24 6 = zi (x.1.m : Int) ∧ (∀ i, i < x.1.m → I 26 i = zi (x.1.sp i)) ∧ I 24 7 = zi (x.1.nc : Int) ∧ (∀ c, c < x.1.nc → I 27 c = zi (x.1.cv c) ∧ ∀ p : Nat, p < 60 → yLb64 (J 28 c) p = decide (x.1.cf c ≤ p ∧ (p : Int) < x.1.ct c)) ∧ I 24 8 = zi (x.1.nd : Int) ∧ (∀ p : Nat, p < 60 → yLb64 (J 24 4) p = x.1.dg p) ∧ I 24 9 = zi x.1.drag ∧ I 24 10 = zi x.1.push ∧ I 22 0 = zb1 x.2.1 ∧ I 22 1 = zb1 x.2.2
/-- what reading a TRACK leaves alone -/
def cFw (I I' : Nat → Nat → Int32) (J J' : Nat → Nat → Int64) : Prop := (∀ o k, ¬ (o = 17 ∧ 7 ≤ k) → o ≠ 22 → ¬ (24 ≤ o ∧ o ≤ 28) → I' o k = I o k) ∧ ∀ o, o ≠ 24 → o ≠ 28 → J' o = J o
theorem cFw_tr {I I1 I2 : Nat → Nat → Int32} {J J1 J2 : Nat → Nat → Int64} (h : cFw I I1 J J1) (g : cFw I1 I2 J1 J2) : cFw I I2 J J2 := ⟨fun o k a b c => (g.1 o k a b c).trans (h.1 o k a b c), fun o a b => (g.2 o a b).trans (h.2 o a b)⟩
theorem cFw_rf {I : Nat → Nat → Int32} {J : Nat → Nat → Int64} : cFw I I J J := ⟨fun _ _ _ _ _ => rfl, fun _ _ _ => rfl⟩
theorem cFw_t {I I' : Nat → Nat → Int32} {J : Nat → Nat → Int64} (h : cFt I I') : cFw I I' J J := ⟨fun o k a _ _ => h o k a, fun _ _ _ => rfl⟩
theorem cDat_t {I I' : Nat → Nat → Int32} {J : Nat → Nat → Int64} {x : zDy × Bool × Bool} (h : cFt I I') (g : cDat I J x) : cDat I' J x := by
  unfold cDat
  rw [cFt_o h (o := 24) (by decide), cFt_o h (o := 25) (by decide), cFt_o h (o := 26) (by decide), cFt_o h (o := 27) (by decide), cFt_o h (o := 22) (by decide)]
  exact g
theorem yNat {a : Int} (h : 0 ≤ a) : ∃ k : Nat, a = (k : Int) := ⟨a.toNat, by omega⟩
section
variable {d L r : Nat} {I : Nat → Nat → Int32} {J : Nat → Nat → Int64}
variable {B : Nat → Nat} {n : Nat}
theorem cPtB (hd : 1 ≤ d) {a b : Nat} (hb : b < 60) (hab : a ≤ b + 1) : ∃ w : Int64, zCd zT d 109 [.int (zi (a : Int)), .int (zi (b : Int))] (zm L I J r) = some (some (.long w), (zm L I J r)) ∧ ∀ p : Nat, p < 60 → yLb64 w p = decide (a ≤ p ∧ p ≤ b) := by
  obtain ⟨e, rfl⟩ : ∃ e, d = e + 1 := ⟨d - 1, by omega⟩
  obtain ⟨w, c1, c2⟩ := zForI (n := b + 1 - a) (M := Int64) (G := fun i w => zX 1 (zCd zT e) zc_X9_pointBits 1 [some (.int (zi (a : Int))), some (.int (zi (b : Int))), some (.long (w)), none, some (.int (zi ((a + i : Nat) : Int)))] [] (zm L I J r)) (P := fun i w => ∀ p : Nat, p < 60 → yLb64 w p = decide (a ≤ p ∧ p < a + i)) (fun i w hi hw => by
    rw [eX9_pointBits_1, if_neg (show ¬ zi (b : Int) < zi ((a + i : Nat) : Int) by rw [yLt (by omega) (by omega)]; omega), if_neg (show ¬ (60 : Int32) ≤ zi ((a + i : Nat) : Int) by rw [show (60 : Int32) = zi ((60 : Nat) : Int) from rfl, yLe (by omega) (by omega)]; omega), yZ1]
    refine ⟨_, rfl, fun p hp => ?_⟩
    rw [yL64c (by omega), hw p hp]
    by_cases q : p = a + i
    · rw [decide_eq_true q, Bool.or_true, decide_eq_true (show a ≤ p ∧ p < a + (i + 1) by omega)]
    · rw [decide_eq_false q, Bool.or_false]
      by_cases z : a ≤ p ∧ p < a + i
      · rw [decide_eq_true z, decide_eq_true (show a ≤ p ∧ p < a + (i + 1) by omega)]
      · rw [decide_eq_false z, decide_eq_false (show ¬ (a ≤ p ∧ p < a + (i + 1)) by omega)]) 0 (fun p hp => by
    rw [yL64_0, decide_eq_false (show ¬ (a ≤ p ∧ p < a + 0) by omega)])
  have z0 : zX 1 (zCd zT e) zc_X9_pointBits 1 [some (.int (zi (a : Int))), some (.int (zi (b : Int))), some (.long (0)), none, some (.int (zi (a : Int)))] [] (zm L I J r) = _ := c1
  refine ⟨w, ?_, fun p hp => ?_⟩
  · rw [qX9_pointBits, eX9_pointBits_0, z0, eX9_pointBits_1, if_pos (show zi (b : Int) < zi ((a + (b + 1 - a) : Nat) : Int) by rw [yLt (by omega) (by omega)]; omega), eX9_pointBits_2]
  · rw [c2 p hp]
    by_cases z : a ≤ p ∧ p ≤ b
    · rw [decide_eq_true z, decide_eq_true (show a ≤ p ∧ p < a + (b + 1 - a) by omega)]
    · rw [decide_eq_false z, decide_eq_false (show ¬ (a ≤ p ∧ p < a + (b + 1 - a)) by omega)]
theorem cAddP (hd : 1 ≤ d) {x : zDy × Bool × Bool} (h : cDat I J x) (hn : x.1.n < 60) (v : Int) : ∃ I', zCd zT d 105 [.ref 24, .int (zi v)] (zm L I J r) = some (none, (zm L I' J r)) ∧ cDat I' J (yAddP x.1 v, x.2) ∧ (∀ o, o ≠ 24 → o ≠ 25 → I' o = I o) := by
  obtain ⟨h1, h2, h3, h4, h5, h6, h7, h8, h9, h10, h11, h12⟩ := h
  rw [sX9_addPoint hd, h1, if_neg (show ¬ zi (x.1.n : Int) < (0 : Int32) by rw [show (0 : Int32) = zi ((0 : Nat) : Int) from rfl, yLt (by omega) (by omega)]; omega), if_neg (show ¬ (60 : Int32) ≤ zi (x.1.n : Int) by rw [show (60 : Int32) = zi ((60 : Nat) : Int) from rfl, yLe (by omega) (by omega)]; omega), zin_t (by omega) (by omega), zgd_t, zi_cl (by omega), Int.toNat_natCast, yZ1]
  refine ⟨_, rfl, ⟨zu_y ⟨rfl, rfl⟩, fun p hp => ?_, ?_, fun i hi => ?_, ?_, fun c hc => ?_, ?_, h8, ?_, ?_, ?_, ?_⟩, fun o a b => by rw [zu_o a, zu_o b]⟩
  · have hp' : p < x.1.n + 1 := hp
    show _ = zi (yFn x.1.h x.1.n v p)
    rw [zu_n (by omega)]
    by_cases e : p = x.1.n
    · rw [e, zu_y ⟨rfl, rfl⟩, yFn_y]
    · rw [zu_n (by omega), yFn_n e]
      exact h2 p (by omega)
  · rw [zu_n (by decide), zu_n (by omega)]
    exact h3
  · rw [zu_n (by omega), zu_n (by omega)]
    exact h4 i hi
  · rw [zu_n (by decide), zu_n (by omega)]
    exact h5
  · rw [zu_n (by omega), zu_n (by omega)]
    exact h6 c hc
  · rw [zu_n (by decide), zu_n (by omega)]
    exact h7
  · rw [zu_n (by decide), zu_n (by omega)]
    exact h9
  · rw [zu_n (by decide), zu_n (by omega)]
    exact h10
  · rw [zu_n (by decide), zu_n (by omega)]
    exact h11
  · rw [zu_n (by decide), zu_n (by omega)]
    exact h12
theorem cAddS (hd : 1 ≤ d) {x : zDy × Bool × Bool} (h : cDat I J x) (hn : x.1.m < 5) (v : Int) : ∃ I', zCd zT d 106 [.ref 24, .int (zi v)] (zm L I J r) = some (none, (zm L I' J r)) ∧ cDat I' J (yAddS x.1 v, x.2) ∧ (∀ o, o ≠ 24 → o ≠ 26 → I' o = I o) := by
  obtain ⟨h1, h2, h3, h4, h5, h6, h7, h8, h9, h10, h11, h12⟩ := h
  rw [sX9_addSplit hd, h3, if_neg (show ¬ zi (x.1.m : Int) < (0 : Int32) by rw [show (0 : Int32) = zi ((0 : Nat) : Int) from rfl, yLt (by omega) (by omega)]; omega), if_neg (show ¬ (5 : Int32) ≤ zi (x.1.m : Int) by rw [show (5 : Int32) = zi ((5 : Nat) : Int) from rfl, yLe (by omega) (by omega)]; omega), zin_t (by omega) (by omega), zgd_t, zi_cl (by omega), Int.toNat_natCast, yZ1]
  refine ⟨_, rfl, ⟨?_, fun p hp => ?_, zu_y ⟨rfl, rfl⟩, fun i hi => ?_, ?_, fun c hc => ?_, ?_, h8, ?_, ?_, ?_, ?_⟩, fun o a b => by rw [zu_o a, zu_o b]⟩
  · rw [zu_n (by decide), zu_n (by omega)]
    exact h1
  · rw [zu_n (by omega), zu_n (by omega)]
    exact h2 p hp
  · have hi' : i < x.1.m + 1 := hi
    show _ = zi (yFn x.1.sp x.1.m v i)
    rw [zu_n (by omega)]
    by_cases e : i = x.1.m
    · rw [e, zu_y ⟨rfl, rfl⟩, yFn_y]
    · rw [zu_n (by omega), yFn_n e]
      exact h4 i (by omega)
  · rw [zu_n (by decide), zu_n (by omega)]
    exact h5
  · rw [zu_n (by omega), zu_n (by omega)]
    exact h6 c hc
  · rw [zu_n (by decide), zu_n (by omega)]
    exact h7
  · rw [zu_n (by decide), zu_n (by omega)]
    exact h9
  · rw [zu_n (by decide), zu_n (by omega)]
    exact h10
  · rw [zu_n (by decide), zu_n (by omega)]
    exact h11
  · rw [zu_n (by decide), zu_n (by omega)]
    exact h12
theorem cAddC (hd : 2 ≤ d) {x : zDy × Bool × Bool} (h : cDat I J x) (hn : x.1.nc < 2) {a b v : Int} (ha : 0 ≤ a) (hb : a + 1 ≤ b ∧ b ≤ 59) : ∃ I' J', zCd zT d 107 [.ref 24, .int (zi a), .int (zi b), .int (zi v)] (zm L I J r) = some (none, (zm L I' J' r)) ∧ cDat I' J' (yAddC x.1 a b v, x.2) ∧ (∀ o, o ≠ 24 → o ≠ 27 → I' o = I o) ∧ ∀ o, o ≠ 28 → J' o = J o := by
  obtain ⟨e, rfl⟩ : ∃ e, d = e + 1 := ⟨d - 1, by omega⟩
  obtain ⟨h1, h2, h3, h4, h5, h6, h7, h8, h9, h10, h11, h12⟩ := h
  obtain ⟨a', rfl⟩ := yNat ha
  obtain ⟨b', rfl⟩ := yNat (show 0 ≤ b by omega)
  obtain ⟨w, c1, c2⟩ := cPtB (d := e) (L := L) (I := I) (J := J) (r := r) (a := a') (b := b' - 1) (by omega) (by omega) (by omega)
  have kb : zi (b' : Int) - (1 : Int32) = zi ((b' - 1 : Nat) : Int) := by
    rw [show (1 : Int32) = zi 1 from rfl, zi_sub]
    exact congrArg zi (by omega)
  have no0 : ¬ zi (x.1.nc : Int) < (0 : Int32) := by rw [show (0 : Int32) = zi ((0 : Nat) : Int) from rfl, yLt (by omega) (by omega)]; omega
  have no2 : ¬ (2 : Int32) ≤ zi (x.1.nc : Int) := by rw [show (2 : Int32) = zi ((2 : Nat) : Int) from rfl, yLe (by omega) (by omega)]; omega
  rw [qX9_addChain, eX9_addChain_0, h5, if_neg no0, if_neg no2, if_neg no2, kb, c1, zbL_s, eX9_addChain_1, h5, zin_t (by omega) (by omega), zgd_t, zgd_t, zi_cl (by omega), Int.toNat_natCast, eX9_addChain_2, yZ1]
  refine ⟨_, _, rfl, ⟨?_, fun p hp => ?_, ?_, fun i hi => ?_, zu_y ⟨rfl, rfl⟩, fun c hc => ?_, ?_, fun p hp => ?_, ?_, ?_, ?_, ?_⟩, fun o a b => by rw [zu_o a, zu_o b], fun o a => funext fun k => if_neg (fun q => a q.1)⟩
  · rw [zu_n (by decide), zu_n (by omega)]
    exact h1
  · rw [zu_n (by omega), zu_n (by omega)]
    exact h2 p hp
  · rw [zu_n (by decide), zu_n (by omega)]
    exact h3
  · rw [zu_n (by omega), zu_n (by omega)]
    exact h4 i hi
  · have hc' : c < x.1.nc + 1 := hc
    show _ = zi (yFn x.1.cv x.1.nc v c) ∧ ∀ p : Nat, p < 60 → _ = decide (yFn x.1.cf x.1.nc (a' : Int) c ≤ p ∧ (p : Int) < yFn x.1.ct x.1.nc (b' : Int) c)
    rw [zu_n (by omega)]
    by_cases q : c = x.1.nc
    · rw [q, zu_y ⟨rfl, rfl⟩, yFn_y, yFn_y, yFn_y]
      refine ⟨rfl, fun p hp => ?_⟩
      rw [show zuL J 28 x.1.nc w 28 x.1.nc = w from if_pos ⟨rfl, rfl⟩, c2 p hp]
      by_cases z : a' ≤ p ∧ p ≤ b' - 1
      · rw [decide_eq_true z, decide_eq_true (by omega)]
      · rw [decide_eq_false z, decide_eq_false (by omega)]
    · rw [zu_n (by omega), yFn_n q, yFn_n q, yFn_n q, show zuL J 28 x.1.nc w 28 c = J 28 c from if_neg (fun y => q y.2)]
      exact h6 c (by omega)
  · rw [zu_n (by decide), zu_n (by omega)]
    exact h7
  · rw [show zuL J 28 x.1.nc w 24 4 = J 24 4 from if_neg (fun y => absurd y.1 (by decide))]
    exact h8 p hp
  · rw [zu_n (by decide), zu_n (by omega)]
    exact h9
  · rw [zu_n (by decide), zu_n (by omega)]
    exact h10
  · rw [zu_n (by decide), zu_n (by omega)]
    exact h11
  · rw [zu_n (by decide), zu_n (by omega)]
    exact h12
theorem yDg_a {t : zDy} {a b : Nat} (hn : t.nd < 2) (p : Nat) : (yAddD t (a : Int) (b : Int)).dg p = (t.dg p || decide (a + 1 ≤ p ∧ p ≤ b)) := by
  have e : (yAddD t (a : Int) (b : Int)).dg p = decide ((0 < t.nd + 1 ∧ yFn t.df t.nd (a : Int) 0 < p ∧ (p : Int) ≤ yFn t.dt t.nd (b : Int) 0) ∨ (1 < t.nd + 1 ∧ yFn t.df t.nd (a : Int) 1 < p ∧ (p : Int) ≤ yFn t.dt t.nd (b : Int) 1)) := rfl
  have e2 : t.dg p = decide ((0 < t.nd ∧ t.df 0 < p ∧ (p : Int) ≤ t.dt 0) ∨ (1 < t.nd ∧ t.df 1 < p ∧ (p : Int) ≤ t.dt 1)) := rfl
  rw [e, e2]
  obtain q | q : t.nd = 0 ∨ t.nd = 1 := by omega
  · rw [q, yFn_y, yFn_y]
    by_cases z : a + 1 ≤ p ∧ p ≤ b
    · rw [decide_eq_true z, Bool.or_true, decide_eq_true (by omega)]
    · rw [decide_eq_false z, Bool.or_false]
      rw [decide_eq_false (by omega), decide_eq_false (by omega)]
  · rw [q, yFn_y, yFn_y, yFn_n (by decide), yFn_n (by decide)]
    by_cases z : a + 1 ≤ p ∧ p ≤ b
    · rw [decide_eq_true z, Bool.or_true, decide_eq_true (by omega)]
    · rw [decide_eq_false z, Bool.or_false]
      by_cases y : t.df 0 < p ∧ (p : Int) ≤ t.dt 0
      · rw [decide_eq_true (by omega), decide_eq_true (by omega)]
      · rw [decide_eq_false (by omega), decide_eq_false (by omega)]
theorem cAddD (hd : 2 ≤ d) {x : zDy × Bool × Bool} (h : cDat I J x) (hn : x.1.nd < 2) {a b : Int} (ha : 0 ≤ a) (hb : a + 1 ≤ b ∧ b ≤ 59) : ∃ I' J', zCd zT d 108 [.ref 24, .int (zi a), .int (zi b)] (zm L I J r) = some (none, (zm L I' J' r)) ∧ cDat I' J' (yAddD x.1 a b, x.2) ∧ (∀ o, o ≠ 24 → I' o = I o) ∧ ∀ o, o ≠ 24 → J' o = J o := by
  obtain ⟨e, rfl⟩ : ∃ e, d = e + 1 := ⟨d - 1, by omega⟩
  obtain ⟨h1, h2, h3, h4, h5, h6, h7, h8, h9, h10, h11, h12⟩ := h
  obtain ⟨a', rfl⟩ := yNat ha
  obtain ⟨b', rfl⟩ := yNat (show 0 ≤ b by omega)
  obtain ⟨w, c1, c2⟩ := cPtB (d := e) (L := L) (I := I) (J := J) (r := r) (a := a' + 1) (b := b') (by omega) (by omega) (by omega)
  rw [qX9_addDog, eX9_addDog_0, yZ1, c1, zbL_s, eX9_addDog_1, h7, yZ1]
  refine ⟨_, _, rfl, ⟨?_, fun p hp => ?_, ?_, fun i hi => ?_, ?_, fun c hc => ?_, zu_y ⟨rfl, rfl⟩, fun p hp => ?_, ?_, ?_, ?_, ?_⟩, fun o a => by rw [zu_o a], fun o a => funext fun k => if_neg (fun q => a q.1)⟩
  · rw [zu_n (by decide)]
    exact h1
  · rw [zu_n (by omega)]
    exact h2 p hp
  · rw [zu_n (by decide)]
    exact h3
  · rw [zu_n (by omega)]
    exact h4 i hi
  · rw [zu_n (by decide)]
    exact h5
  · rw [zu_n (by omega), show zuL J 24 4 (J 24 4 ||| w) 28 c = J 28 c from if_neg (fun y => absurd y.1 (by decide))]
    exact h6 c hc
  · rw [show zuL J 24 4 (J 24 4 ||| w) 24 4 = J 24 4 ||| w from if_pos ⟨rfl, rfl⟩, yL64_or, h8 p hp, c2 p hp]
    exact (yDg_a hn p).symm
  · rw [zu_n (by decide)]
    exact h9
  · rw [zu_n (by decide)]
    exact h10
  · rw [zu_n (by decide)]
    exact h11
  · rw [zu_n (by decide)]
    exact h12
end
