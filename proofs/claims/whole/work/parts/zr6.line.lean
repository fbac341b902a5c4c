/-! TEXT of a TRACK: the pure reader -/
def yFn (f : Nat → Int) (i : Nat) (v : Int) : Nat → Int := fun k => if k = i then v else f k
theorem yFn_y {f : Nat → Int} {i : Nat} {v : Int} : yFn f i v i = v := if_pos rfl
theorem yFn_n {f : Nat → Int} {i k : Nat} {v : Int} (h : k ≠ i) : yFn f i v k = f k := if_neg h
def yTn : zDy := (0, fun _ => 0, 0, fun _ => 0, 0, fun _ => 0, fun _ => 0, fun _ => 0, 0, fun _ => 0, fun _ => 0, 10, 0)
def yAddP (t : zDy) (v : Int) : zDy := (t.n + 1, yFn t.h t.n v, t.m, t.sp, t.nc, t.cf, t.ct, t.cv, t.nd, t.df, t.dt, t.drag, t.push)
def yAddS (t : zDy) (v : Int) : zDy := (t.n, t.h, t.m + 1, yFn t.sp t.m v, t.nc, t.cf, t.ct, t.cv, t.nd, t.df, t.dt, t.drag, t.push)
def yAddC (t : zDy) (a b v : Int) : zDy := (t.n, t.h, t.m, t.sp, t.nc + 1, yFn t.cf t.nc a, yFn t.ct t.nc b, yFn t.cv t.nc v, t.nd, t.df, t.dt, t.drag, t.push)
def yAddD (t : zDy) (a b : Int) : zDy := (t.n, t.h, t.m, t.sp, t.nc, t.cf, t.ct, t.cv, t.nd + 1, yFn t.df t.nd a, yFn t.dt t.nd b, t.drag, t.push)
def ySetD (t : zDy) (v : Int) : zDy := (t.n, t.h, t.m, t.sp, t.nc, t.cf, t.ct, t.cv, t.nd, t.df, t.dt, v, t.push)
def ySetP (t : zDy) (v : Int) : zDy := (t.n, t.h, t.m, t.sp, t.nc, t.cf, t.ct, t.cv, t.nd, t.df, t.dt, t.drag, v)
abbrev yTkX : Type := yTkS × zDy × Bool × Bool
def yHgh (B : Nat → Nat) (n : Nat) : Nat → yTkS × zDy → yTkS × zDy
  | 0, x => x
  | f + 1, x => if yIsK B n (yRdN B n x.1 0 99 (decide (x.2.n < 60))).1 15 = true then yHgh B n f ((yRdN B n x.1 0 99 (decide (x.2.n < 60))).1, if (yRdN B n x.1 0 99 (decide (x.2.n < 60))).2 = -1 then x.2 else yAddP x.2 (yRdN B n x.1 0 99 (decide (x.2.n < 60))).2) else ((yRdN B n x.1 0 99 (decide (x.2.n < 60))).1, if (yRdN B n x.1 0 99 (decide (x.2.n < 60))).2 = -1 then x.2 else yAddP x.2 (yRdN B n x.1 0 99 (decide (x.2.n < 60))).2)
def yLsp (t : zDy) : Int := if t.m = 0 then 0 else t.sp (t.m - 1)
def yBlk (B : Nat → Nat) (n : Nat) (s : yTkS) (t : zDy) : yTkS × zDy := if 5 ≤ t.m then (yFa B n s 5, t) else ((yRdN B n (yAdv B n s) (yLsp t + 1) ((t.n : Int) - 1) true).1, if (yRdN B n (yAdv B n s) (yLsp t + 1) ((t.n : Int) - 1) true).2 = -1 then t else yAddS t (yRdN B n (yAdv B n s) (yLsp t + 1) ((t.n : Int) - 1) true).2)
/-- from, to: the two numbers of a chain or a dog -/
def ySpn (B : Nat → Nat) (n : Nat) (s : yTkS) (t : zDy) : (yTkS × Int) × (yTkS × Int) := (yRdN B n (yAdv B n s) 0 ((t.n : Int) - 1) true, yRdN B n (yNd B n (yRdN B n (yAdv B n s) 0 ((t.n : Int) - 1) true).1 3) ((yRdN B n (yAdv B n s) 0 ((t.n : Int) - 1) true).2 + 1) ((t.n : Int) - 1) true)
def yChn (B : Nat → Nat) (n : Nat) (s : yTkS) (t : zDy) : yTkS × zDy := if 2 ≤ t.nc then (yFa B n s 5, t) else ((yRdN B n (yNd B n (ySpn B n s t).2.1 4) 0 999 true).1, if (yRdN B n (yNd B n (ySpn B n s t).2.1 4) 0 999 true).2 = -1 then t else yAddC t (ySpn B n s t).1.2 (ySpn B n s t).2.2 (yRdN B n (yNd B n (ySpn B n s t).2.1 4) 0 999 true).2)
def yDgn (B : Nat → Nat) (n : Nat) (s : yTkS) (t : zDy) : yTkS × zDy := if 2 ≤ t.nd then (yFa B n s 5, t) else ((ySpn B n s t).2.1, if (ySpn B n s t).2.2 = -1 then t else yAddD t (ySpn B n s t).1.2 (ySpn B n s t).2.2)
def yLin (B : Nat → Nat) (n : Nat) (x : yTkX) : yTkX :=
  if yIsK B n x.1 0 = true then ((yHgh B n 61 (yAdv B n x.1, x.2.1)).1, (yHgh B n 61 (yAdv B n x.1, x.2.1)).2, x.2.2)
  else if yIsK B n x.1 1 = true then ((yBlk B n x.1 x.2.1).1, (yBlk B n x.1 x.2.1).2, x.2.2)
  else if yIsK B n x.1 2 = true then ((yChn B n x.1 x.2.1).1, (yChn B n x.1 x.2.1).2, x.2.2)
  else if yIsK B n x.1 5 = true then ((yDgn B n x.1 x.2.1).1, (yDgn B n x.1 x.2.1).2, x.2.2)
  else if yIsK B n x.1 6 = true then (if x.2.2.1 = true then (yFa B n x.1 4, x.2) else ((yRdN B n (yAdv B n x.1) 0 50 true).1, ySetD x.2.1 (yRdN B n (yAdv B n x.1) 0 50 true).2, true, x.2.2.2))
  else if yIsK B n x.1 7 = true then (if x.2.2.2 = true then (yFa B n x.1 4, x.2) else ((yRdN B n (yAdv B n x.1) 0 999 true).1, ySetP x.2.1 (yRdN B n (yAdv B n x.1) 0 999 true).2, x.2.2.1, true))
  else (yFa B n x.1 2, x.2)
def yLn1 (B : Nat → Nat) (n : Nat) (x : yTkX) : yTkX := (yNd B n (yLin B n x).1 16, (yLin B n x).2)
def yLns (B : Nat → Nat) (n : Nat) : Nat → yTkX → yTkX
  | 0, x => x
  | f + 1, x => if x.1.1 = 0 ∧ yK B n x.1.2 ≠ 19 then yLns B n f (yLn1 B n x) else x
def yTrk (B : Nat → Nat) (n : Nat) : yTkX := yLns B n 401 (yTo B n 0, yTn, false, false)
/-- the last check: two POINTS at least -/
def yTrF (B : Nat → Nat) (n : Nat) : yTkS := if (yTrk B n).1.1 = 0 ∧ (yTrk B n).2.1.n < 2 then yFa B n (yTrk B n).1 2 else (yTrk B n).1
/-! what goes on goes forward -/
def yMo (n : Nat) (s s' : yTkS) : Prop := s'.1 = 0 → s.1 = 0 ∧ ((s.1 = 0 → s.2 ≤ n) → s.2 ≤ s'.2 ∧ s'.2 ≤ n)
theorem yMo_tr {n : Nat} {s1 s2 s3 : yTkS} (h : yMo n s1 s2) (g : yMo n s2 s3) : yMo n s1 s3 := fun w => by
  obtain ⟨a, b⟩ := g w
  obtain ⟨c, e⟩ := h a
  refine ⟨c, fun k => ?_⟩
  have e2 := e k
  have b2 := b (fun _ => e2.2)
  exact ⟨by omega, b2.2⟩
theorem yMo_rf {n : Nat} {s : yTkS} : yMo n s s := fun w => ⟨w, fun k => ⟨Nat.le_refl _, k w⟩⟩
theorem yTo_s {B : Nat → Nat} {n q : Nat} (h : (yTo B n q).1 = 0) : (yTo B n q).2 = q ∧ yK B n q ≠ 20 := by
  unfold yTo at h ⊢
  by_cases w : yK B n q = 20
  · rw [if_pos w] at h
    cases h
  · rw [if_neg w]
    exact ⟨rfl, w⟩
theorem yAdv_m {B : Nat → Nat} {n : Nat} {s : yTkS} : yMo n s (yAdv B n s) := fun w => by
  unfold yAdv at w ⊢
  by_cases hs : s.1 = 0
  · rw [if_pos hs] at w ⊢
    have e := (yTo_s w).1
    refine ⟨hs, fun k => ?_⟩
    have b := yEb_b (B := B) (k hs)
    rw [e]
    exact ⟨b.2.2.1, b.1⟩
  · rw [if_neg hs] at w
    exact absurd w hs
theorem yAdv_s {B : Nat → Nat} {n : Nat} {s : yTkS} (h : (yAdv B n s).1 = 0) (hn : s.2 ≤ n) (hk : yK B n s.2 ≠ 19) : s.2 < (yAdv B n s).2 := by
  unfold yAdv at h ⊢
  by_cases hs : s.1 = 0
  · rw [if_pos hs] at h ⊢
    have b := yEb_b (B := B) hn
    rw [(yTo_s h).1]
    exact (b.2.2.2 hk).1
  · rw [if_neg hs] at h
    exact absurd h hs
theorem yFa_n {B : Nat → Nat} {n : Nat} {s : yTkS} {f : Nat} (hf : 1 ≤ f) : (yFa B n s f).1 ≠ 0 := by
  unfold yFa
  by_cases hs : s.1 = 0
  · rw [if_pos hs]
    show f ≠ 0
    omega
  · rw [if_neg hs]
    exact hs
theorem yFa_m {B : Nat → Nat} {n : Nat} {s : yTkS} {f : Nat} (hf : 1 ≤ f) : yMo n s (yFa B n s f) := fun w => absurd w (yFa_n hf)
theorem yNd_m {B : Nat → Nat} {n : Nat} {s : yTkS} {k : Nat} : yMo n s (yNd B n s k) := by
  unfold yNd
  by_cases g : yIsK B n s k = true
  · rw [if_pos g]
    exact yAdv_m
  · rw [if_neg g]
    exact yFa_m (by decide)
/-- a token is taken -/
theorem yNd_s {B : Nat → Nat} {n : Nat} {s : yTkS} {k : Nat} (hk : k ≠ 19) (hn : s.1 = 0 → s.2 ≤ n) (h : (yNd B n s k).1 = 0) : s.1 = 0 ∧ yK B n s.2 = k ∧ s.2 < (yNd B n s k).2 ∧ (yNd B n s k).2 ≤ n := by
  have mo := yNd_m (B := B) (n := n) (s := s) (k := k) h
  unfold yNd at h mo ⊢
  by_cases g : yIsK B n s k = true
  · rw [if_pos g] at h mo ⊢
    have g2 := yZb.mp g
    exact ⟨g2.1, g2.2, yAdv_s h (hn g2.1) (by rw [g2.2]; exact hk), (mo.2 hn).2⟩
  · rw [if_neg g] at h
    exact absurd h (yFa_n (by decide))
theorem yRdN_m {B : Nat → Nat} {n : Nat} {s : yTkS} {lo hi : Int} {room : Bool} : yMo n s (yRdN B n s lo hi room).1 := by
  unfold yRdN
  repeat' split
  · exact yAdv_m
  · exact yFa_m (by decide)
  · exact yFa_m (by decide)
  · exact yFa_m (by decide)
theorem yRdN_c {B : Nat → Nat} {n : Nat} {s : yTkS} {lo hi : Int} {room : Bool} : ((yRdN B n s lo hi room).2 = -1 ∧ (yRdN B n s lo hi room).1.1 ≠ 0) ∨ ((yRdN B n s lo hi room).2 ≠ -1 ∧ s.1 = 0 ∧ yK B n s.2 = 15 ∧ (yRdN B n s lo hi room).2 = (yVl B n s.2 : Int) ∧ lo ≤ (yRdN B n s lo hi room).2 ∧ (yRdN B n s lo hi room).2 ≤ hi ∧ room = true ∧ (yRdN B n s lo hi room).1 = yAdv B n s) := by
  unfold yRdN
  by_cases g : yIsK B n s 15 = true
  · rw [if_pos g]
    have g2 := yZb.mp g
    by_cases w : lo ≤ (yVl B n s.2 : Int) ∧ (yVl B n s.2 : Int) ≤ hi
    · rw [if_pos w]
      cases room
      · rw [if_neg (by decide)]
        exact Or.inl ⟨rfl, yFa_n (by decide)⟩
      · rw [if_pos rfl]
        exact Or.inr ⟨show (yVl B n s.2 : Int) ≠ -1 by omega, g2.1, g2.2, rfl, w.1, w.2, rfl, rfl⟩
    · rw [if_neg w]
      exact Or.inl ⟨rfl, yFa_n (by decide)⟩
  · rw [if_neg g]
    exact Or.inl ⟨rfl, yFa_n (by decide)⟩
theorem yRdN_0 {B : Nat → Nat} {n : Nat} {s : yTkS} {lo hi : Int} {room : Bool} (h : (yRdN B n s lo hi room).1.1 = 0) : (yRdN B n s lo hi room).2 ≠ -1 ∧ s.1 = 0 ∧ yK B n s.2 = 15 ∧ lo ≤ (yRdN B n s lo hi room).2 ∧ (yRdN B n s lo hi room).2 ≤ hi ∧ room = true := by
  rcases yRdN_c (B := B) (n := n) (s := s) (lo := lo) (hi := hi) (room := room) with c | c
  · exact absurd h c.2
  · exact ⟨c.1, c.2.1, c.2.2.1, c.2.2.2.2.1, c.2.2.2.2.2.1, c.2.2.2.2.2.2.1⟩
theorem yHgh_m {B : Nat → Nat} {n : Nat} : ∀ (f : Nat) (x : yTkS × zDy), yMo n x.1 (yHgh B n f x).1
  | 0, x => yMo_rf
  | f + 1, x => by
    rw [yHgh]
    by_cases g : yIsK B n (yRdN B n x.1 0 99 (decide (x.2.n < 60))).1 15 = true
    · rw [if_pos g]
      exact yMo_tr yRdN_m (yHgh_m f _)
    · rw [if_neg g]
      exact yRdN_m
theorem ySpn_m {B : Nat → Nat} {n : Nat} {s : yTkS} {t : zDy} : yMo n s (ySpn B n s t).2.1 := yMo_tr yAdv_m (yMo_tr yRdN_m (yMo_tr yNd_m yRdN_m))
theorem yBlk_m {B : Nat → Nat} {n : Nat} {s : yTkS} {t : zDy} : yMo n s (yBlk B n s t).1 := by
  unfold yBlk
  by_cases g : 5 ≤ t.m
  · rw [if_pos g]
    exact yFa_m (f := 5) (by decide)
  · rw [if_neg g]
    exact yMo_tr yAdv_m yRdN_m
theorem yChn_m {B : Nat → Nat} {n : Nat} {s : yTkS} {t : zDy} : yMo n s (yChn B n s t).1 := by
  unfold yChn
  by_cases g : 2 ≤ t.nc
  · rw [if_pos g]
    exact yFa_m (f := 5) (by decide)
  · rw [if_neg g]
    exact yMo_tr ySpn_m (yMo_tr yNd_m yRdN_m)
theorem yDgn_m {B : Nat → Nat} {n : Nat} {s : yTkS} {t : zDy} : yMo n s (yDgn B n s t).1 := by
  unfold yDgn
  by_cases g : 2 ≤ t.nd
  · rw [if_pos g]
    exact yFa_m (f := 5) (by decide)
  · rw [if_neg g]
    exact ySpn_m
theorem yLin_m {B : Nat → Nat} {n : Nat} {x : yTkX} : yMo n x.1 (yLin B n x).1 := by
  unfold yLin
  by_cases g0 : yIsK B n x.1 0 = true
  · rw [if_pos g0]
    exact yMo_tr yAdv_m (yHgh_m 61 (yAdv B n x.1, x.2.1))
  rw [if_neg g0]
  by_cases g1 : yIsK B n x.1 1 = true
  · rw [if_pos g1]
    exact yBlk_m (s := x.1) (t := x.2.1)
  rw [if_neg g1]
  by_cases g2 : yIsK B n x.1 2 = true
  · rw [if_pos g2]
    exact yChn_m (s := x.1) (t := x.2.1)
  rw [if_neg g2]
  by_cases g5 : yIsK B n x.1 5 = true
  · rw [if_pos g5]
    exact yDgn_m (s := x.1) (t := x.2.1)
  rw [if_neg g5]
  by_cases g6 : yIsK B n x.1 6 = true
  · rw [if_pos g6]
    by_cases q : x.2.2.1 = true
    · rw [if_pos q]
      exact yFa_m (f := 4) (by decide)
    · rw [if_neg q]
      exact yMo_tr yAdv_m (yRdN_m (s := yAdv B n x.1) (lo := 0) (hi := 50) (room := true))
  rw [if_neg g6]
  by_cases g7 : yIsK B n x.1 7 = true
  · rw [if_pos g7]
    by_cases q : x.2.2.2 = true
    · rw [if_pos q]
      exact yFa_m (f := 4) (by decide)
    · rw [if_neg q]
      exact yMo_tr yAdv_m (yRdN_m (s := yAdv B n x.1) (lo := 0) (hi := 999) (room := true))
  rw [if_neg g7]
  exact yFa_m (f := 2) (by decide)
theorem yLn1_s {B : Nat → Nat} {n : Nat} {x : yTkX} (hn : x.1.1 = 0 → x.1.2 ≤ n) (h : (yLn1 B n x).1.1 = 0) : x.1.1 = 0 ∧ x.1.2 < (yLn1 B n x).1.2 ∧ (yLn1 B n x).1.2 ≤ n := by
  have a := yNd_m (B := B) (n := n) (s := (yLin B n x).1) (k := 16) h
  have b := yLin_m (B := B) (n := n) (x := x) a.1
  have c := b.2 hn
  have e := yNd_s (B := B) (n := n) (s := (yLin B n x).1) (k := 16) (by decide) (fun _ => c.2) h
  refine ⟨b.1, ?_, e.2.2.2⟩
  have e3 : (yLin B n x).1.2 < (yLn1 B n x).1.2 := e.2.2.1
  omega
/-! what holds of a TRACK that is being read -/
def wNt (t : zDy) : Prop := t.n ≤ 60 ∧ (∀ p, p < t.n → 0 ≤ t.h p ∧ t.h p ≤ 99) ∧ t.m ≤ 5 ∧ (∀ i, i < t.m → 1 ≤ t.sp i ∧ t.sp i < t.n ∧ (0 < i → t.sp (i - 1) < t.sp i)) ∧ t.nc ≤ 2 ∧ (∀ c, c < t.nc → 0 ≤ t.cf c ∧ t.cf c < t.ct c ∧ t.ct c < t.n ∧ 0 ≤ t.cv c ∧ t.cv c ≤ 999) ∧ t.nd ≤ 2 ∧ ∀ c, c < t.nd → 0 ≤ t.df c ∧ t.df c < t.dt c ∧ t.dt c < t.n
def wDp (t : zDy) : Prop := (0 ≤ t.drag ∧ t.drag ≤ 50) ∧ 0 ≤ t.push ∧ t.push ≤ 999
theorem wNt_n : wNt yTn := ⟨by decide, fun p hp => absurd hp (Nat.not_lt_zero p), by decide, fun p hp => absurd hp (Nat.not_lt_zero p), by decide, fun p hp => absurd hp (Nat.not_lt_zero p), by decide, fun p hp => absurd hp (Nat.not_lt_zero p)⟩
theorem wNt_P {t : zDy} {v : Int} (h : wNt t) (hn : t.n < 60) (hv : 0 ≤ v ∧ v ≤ 99) : wNt (yAddP t v) := by
  obtain ⟨w1, w2, w3, w4, w5, w6, w7, w8⟩ := h
  refine ⟨show t.n + 1 ≤ 60 by omega, fun p hp => ?_, w3, fun i hi => ?_, w5, fun c hc => ?_, w7, fun c hc => ?_⟩
  · have hp' : p < t.n + 1 := hp
    show 0 ≤ yFn t.h t.n v p ∧ yFn t.h t.n v p ≤ 99
    by_cases e : p = t.n
    · rw [e, yFn_y]
      exact hv
    · rw [yFn_n e]
      exact w2 p (by omega)
  · have a := w4 i hi
    refine ⟨a.1, ?_, a.2.2⟩
    show t.sp i < ((t.n + 1 : Nat) : Int)
    omega
  · have a := w6 c hc
    refine ⟨a.1, a.2.1, ?_, a.2.2.2⟩
    show t.ct c < ((t.n + 1 : Nat) : Int)
    omega
  · have a := w8 c hc
    refine ⟨a.1, a.2.1, ?_⟩
    show t.dt c < ((t.n + 1 : Nat) : Int)
    omega
theorem yLsp_b {t : zDy} (h : wNt t) : 0 ≤ yLsp t ∧ yLsp t ≤ 60 := by
  obtain ⟨w1, w2, w3, w4, w5, w6, w7, w8⟩ := h
  unfold yLsp
  by_cases e : t.m = 0
  · rw [if_pos e]
    exact ⟨by decide, by decide⟩
  · rw [if_neg e]
    have := w4 (t.m - 1) (by omega)
    omega
theorem wNt_S {t : zDy} {v : Int} (h : wNt t) (hm : t.m < 5) (hv : yLsp t + 1 ≤ v ∧ v ≤ (t.n : Int) - 1) : wNt (yAddS t v) := by
  have lb := yLsp_b h
  obtain ⟨w1, w2, w3, w4, w5, w6, w7, w8⟩ := h
  refine ⟨w1, w2, show t.m + 1 ≤ 5 by omega, fun i hi => ?_, w5, w6, w7, w8⟩
  have hi' : i < t.m + 1 := hi
  show 1 ≤ yFn t.sp t.m v i ∧ yFn t.sp t.m v i < (t.n : Int) ∧ (0 < i → yFn t.sp t.m v (i - 1) < yFn t.sp t.m v i)
  by_cases e : i = t.m
  · rw [e, yFn_y]
    refine ⟨by omega, by omega, fun g => ?_⟩
    rw [yFn_n (by omega)]
    have : yLsp t = t.sp (t.m - 1) := by
      unfold yLsp
      rw [if_neg (by omega)]
    omega
  · rw [yFn_n e]
    have a := w4 i (by omega)
    refine ⟨a.1, a.2.1, fun g => ?_⟩
    rw [yFn_n (by omega)]
    exact a.2.2 g
theorem wNt_C {t : zDy} {a b v : Int} (h : wNt t) (hc : t.nc < 2) (ha : 0 ≤ a) (hb : a + 1 ≤ b ∧ b ≤ (t.n : Int) - 1) (hv : 0 ≤ v ∧ v ≤ 999) : wNt (yAddC t a b v) := by
  obtain ⟨w1, w2, w3, w4, w5, w6, w7, w8⟩ := h
  refine ⟨w1, w2, w3, w4, show t.nc + 1 ≤ 2 by omega, fun c hc => ?_, w7, w8⟩
  have hc' : c < t.nc + 1 := hc
  show 0 ≤ yFn t.cf t.nc a c ∧ yFn t.cf t.nc a c < yFn t.ct t.nc b c ∧ yFn t.ct t.nc b c < (t.n : Int) ∧ 0 ≤ yFn t.cv t.nc v c ∧ yFn t.cv t.nc v c ≤ 999
  by_cases e : c = t.nc
  · rw [e, yFn_y, yFn_y, yFn_y]
    omega
  · rw [yFn_n e, yFn_n e, yFn_n e]
    exact w6 c (by omega)
theorem wNt_D {t : zDy} {a b : Int} (h : wNt t) (hc : t.nd < 2) (ha : 0 ≤ a) (hb : a + 1 ≤ b ∧ b ≤ (t.n : Int) - 1) : wNt (yAddD t a b) := by
  obtain ⟨w1, w2, w3, w4, w5, w6, w7, w8⟩ := h
  refine ⟨w1, w2, w3, w4, w5, w6, show t.nd + 1 ≤ 2 by omega, fun c hc => ?_⟩
  have hc' : c < t.nd + 1 := hc
  show 0 ≤ yFn t.df t.nd a c ∧ yFn t.df t.nd a c < yFn t.dt t.nd b c ∧ yFn t.dt t.nd b c < (t.n : Int)
  by_cases e : c = t.nd
  · rw [e, yFn_y, yFn_y]
    omega
  · rw [yFn_n e, yFn_n e]
    exact w8 c (by omega)
theorem ySpn_b {B : Nat → Nat} {n : Nat} {s : yTkS} {t : zDy} (h : (ySpn B n s t).2.2 ≠ -1) : 0 ≤ (ySpn B n s t).1.2 ∧ (ySpn B n s t).1.2 + 1 ≤ (ySpn B n s t).2.2 ∧ (ySpn B n s t).2.2 ≤ (t.n : Int) - 1 ∧ (ySpn B n s t).1.2 ≠ -1 := by
  rcases yRdN_c (B := B) (n := n) (s := yNd B n (yRdN B n (yAdv B n s) 0 ((t.n : Int) - 1) true).1 3) (lo := (yRdN B n (yAdv B n s) 0 ((t.n : Int) - 1) true).2 + 1) (hi := (t.n : Int) - 1) (room := true) with c | c
  · exact absurd c.1 h
  · have s0 := (yNd_m (B := B) (n := n) (s := (yRdN B n (yAdv B n s) 0 ((t.n : Int) - 1) true).1) (k := 3) c.2.1).1
    have r0 := yRdN_0 s0
    have e1 : (ySpn B n s t).1.2 = (yRdN B n (yAdv B n s) 0 ((t.n : Int) - 1) true).2 := rfl
    rw [e1]
    exact ⟨r0.2.2.2.1, c.2.2.2.2.1, c.2.2.2.2.2.1, r0.1⟩
theorem yHgh_w {B : Nat → Nat} {n : Nat} : ∀ (f : Nat) (x : yTkS × zDy), wNt x.2 → wNt (yHgh B n f x).2 ∧ (yHgh B n f x).2.drag = x.2.drag ∧ (yHgh B n f x).2.push = x.2.push
  | 0, x, h => ⟨h, rfl, rfl⟩
  | f + 1, x, h => by
    have k : wNt (if (yRdN B n x.1 0 99 (decide (x.2.n < 60))).2 = -1 then x.2 else yAddP x.2 (yRdN B n x.1 0 99 (decide (x.2.n < 60))).2) ∧ (if (yRdN B n x.1 0 99 (decide (x.2.n < 60))).2 = -1 then x.2 else yAddP x.2 (yRdN B n x.1 0 99 (decide (x.2.n < 60))).2).drag = x.2.drag ∧ (if (yRdN B n x.1 0 99 (decide (x.2.n < 60))).2 = -1 then x.2 else yAddP x.2 (yRdN B n x.1 0 99 (decide (x.2.n < 60))).2).push = x.2.push := by
      by_cases w : (yRdN B n x.1 0 99 (decide (x.2.n < 60))).2 = -1
      · rw [if_pos w]
        exact ⟨h, rfl, rfl⟩
      · rw [if_neg w]
        rcases yRdN_c (B := B) (n := n) (s := x.1) (lo := 0) (hi := 99) (room := decide (x.2.n < 60)) with c | c
        · exact absurd c.1 w
        · exact ⟨wNt_P h (of_decide_eq_true c.2.2.2.2.2.2.1) ⟨c.2.2.2.2.1, c.2.2.2.2.2.1⟩, rfl, rfl⟩
    rw [yHgh]
    by_cases g : yIsK B n (yRdN B n x.1 0 99 (decide (x.2.n < 60))).1 15 = true
    · rw [if_pos g]
      have i := yHgh_w (B := B) (n := n) f ((yRdN B n x.1 0 99 (decide (x.2.n < 60))).1, if (yRdN B n x.1 0 99 (decide (x.2.n < 60))).2 = -1 then x.2 else yAddP x.2 (yRdN B n x.1 0 99 (decide (x.2.n < 60))).2) k.1
      exact ⟨i.1, i.2.1.trans k.2.1, i.2.2.trans k.2.2⟩
    · rw [if_neg g]
      exact k
theorem yLin_w {B : Nat → Nat} {n : Nat} {x : yTkX} (h : wNt x.2.1) (hp : x.1.1 = 0 → wDp x.2.1) : wNt (yLin B n x).2.1 ∧ ((yLin B n x).1.1 = 0 → wDp (yLin B n x).2.1) := by
  have mo := (yLin_m (B := B) (n := n) (x := x))
  have keep : (yLin B n x).1.1 = 0 → wDp x.2.1 := fun w => hp (mo w).1
  unfold yLin at keep ⊢
  by_cases g0 : yIsK B n x.1 0 = true
  · rw [if_pos g0] at keep ⊢
    have a := yHgh_w (B := B) (n := n) 61 (yAdv B n x.1, x.2.1) h
    refine ⟨a.1, fun w => ?_⟩
    have b := keep w
    unfold wDp at b ⊢
    rw [a.2.1, a.2.2]
    exact b
  rw [if_neg g0] at keep ⊢
  by_cases g1 : yIsK B n x.1 1 = true
  · rw [if_pos g1] at keep ⊢
    unfold yBlk at keep ⊢
    by_cases q : 5 ≤ x.2.1.m
    · rw [if_pos q] at keep ⊢
      exact ⟨h, keep⟩
    · rw [if_neg q] at keep ⊢
      rcases yRdN_c (B := B) (n := n) (s := yAdv B n x.1) (lo := yLsp x.2.1 + 1) (hi := (x.2.1.n : Int) - 1) (room := true) with c | c
      · rw [if_pos c.1]
        exact ⟨h, keep⟩
      · rw [if_neg c.1]
        exact ⟨wNt_S h (by omega) ⟨c.2.2.2.2.1, c.2.2.2.2.2.1⟩, keep⟩
  rw [if_neg g1] at keep ⊢
  by_cases g2 : yIsK B n x.1 2 = true
  · rw [if_pos g2] at keep ⊢
    unfold yChn at keep ⊢
    by_cases q : 2 ≤ x.2.1.nc
    · rw [if_pos q] at keep ⊢
      exact ⟨h, keep⟩
    · rw [if_neg q] at keep ⊢
      rcases yRdN_c (B := B) (n := n) (s := yNd B n (ySpn B n x.1 x.2.1).2.1 4) (lo := 0) (hi := 999) (room := true) with c | c
      · rw [if_pos c.1]
        exact ⟨h, keep⟩
      · rw [if_neg c.1]
        have s0 := (yNd_m (B := B) (n := n) (s := (ySpn B n x.1 x.2.1).2.1) (k := 4) c.2.1).1
        have b := ySpn_b (yRdN_0 s0).1
        exact ⟨wNt_C h (by omega) b.1 ⟨b.2.1, b.2.2.1⟩ ⟨c.2.2.2.2.1, c.2.2.2.2.2.1⟩, keep⟩
  rw [if_neg g2] at keep ⊢
  by_cases g5 : yIsK B n x.1 5 = true
  · rw [if_pos g5] at keep ⊢
    unfold yDgn at keep ⊢
    by_cases q : 2 ≤ x.2.1.nd
    · rw [if_pos q] at keep ⊢
      exact ⟨h, keep⟩
    · rw [if_neg q] at keep ⊢
      by_cases c : (ySpn B n x.1 x.2.1).2.2 = -1
      · rw [if_pos c]
        exact ⟨h, keep⟩
      · rw [if_neg c]
        have b := ySpn_b c
        exact ⟨wNt_D h (by omega) b.1 ⟨b.2.1, b.2.2.1⟩, keep⟩
  rw [if_neg g5] at keep ⊢
  by_cases g6 : yIsK B n x.1 6 = true
  · rw [if_pos g6] at keep ⊢
    by_cases q : x.2.2.1 = true
    · rw [if_pos q] at keep ⊢
      exact ⟨h, keep⟩
    · rw [if_neg q] at keep ⊢
      refine ⟨h, fun w => ?_⟩
      have c := yRdN_0 w
      exact ⟨⟨c.2.2.2.1, c.2.2.2.2.1⟩, (keep w).2⟩
  rw [if_neg g6] at keep ⊢
  by_cases g7 : yIsK B n x.1 7 = true
  · rw [if_pos g7] at keep ⊢
    by_cases q : x.2.2.2 = true
    · rw [if_pos q] at keep ⊢
      exact ⟨h, keep⟩
    · rw [if_neg q] at keep ⊢
      refine ⟨h, fun w => ?_⟩
      have c := yRdN_0 w
      exact ⟨(keep w).1, c.2.2.2.1, c.2.2.2.2.1⟩
  rw [if_neg g7] at keep ⊢
  exact ⟨h, keep⟩
