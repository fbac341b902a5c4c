/-! TEXT of THE CONTROLLER: operations behind each other; positions -/
theorem zPl_app {g : Nat → Int32} {s : Nat} : ∀ (m1 i m2 : Nat) (st st' : List Bool), zPl g s i m1 st = some st' → zPl g s i (m1 + m2) st = zPl g s (i + m1) m2 st' := by
  intro m1
  induction m1 with
  | zero =>
    intro i m2 st st' h
    rw [zPl] at h
    cases h
    rw [Nat.zero_add, Nat.add_zero]
  | succ m1 ih =>
    intro i m2 st st' h
    rw [zPl] at h
    rw [show m1 + 1 + m2 = (m1 + m2) + 1 by omega, zPl]
    cases q : yOp (g (118 + 2 * i)) (g (119 + 2 * i)) s st with
    | none =>
      rw [q] at h
      cases h
    | some st1 =>
      rw [q] at h
      dsimp only at h ⊢
      rw [ih (i + 1) m2 st1 st' h, show i + 1 + m1 = i + (m1 + 1) by omega]
theorem zPl_c {g g' : Nat → Int32} {s : Nat} : ∀ (m i : Nat) (st : List Bool), (∀ k, 118 + 2 * i ≤ k → k < 118 + 2 * (i + m) → g k = g' k) → zPl g s i m st = zPl g' s i m st := by
  intro m
  induction m with
  | zero =>
    intro i st _
    rw [zPl, zPl]
  | succ m ih =>
    intro i st h
    rw [zPl, zPl, h (118 + 2 * i) (by omega) (by omega), h (119 + 2 * i) (by omega) (by omega)]
    cases yOp (g' (118 + 2 * i)) (g' (119 + 2 * i)) s st with
    | none => rfl
    | some st1 => exact ih (i + 1) st1 (fun k a b => h k (by omega) (by omega))
theorem zPl_1 {g : Nat → Int32} {s i : Nat} {st st' : List Bool} (h : yOp (g (118 + 2 * i)) (g (119 + 2 * i)) s st = some st') : zPl g s i 1 st = some st' := by
  rw [zPl, h]
  dsimp only
  rw [zPl]
def mE (g : Nat → Int32) (a b : Nat) (h : Nat → Bool) : Prop := ∀ i, i < 64 → ∀ st, zPl g i a (b - a) st = some (h i :: st)
theorem mE_c {g g' : Nat → Int32} {a b : Nat} {h : Nat → Bool} (e : ∀ k, k < 118 + 2 * b → g' k = g k) (hab : a ≤ b) (m : mE g a b h) : mE g' a b h := fun i hi st => by
  rw [zPl_c (g' := g) (b - a) a st (fun k _ k2 => e k (by omega))]
  exact m i hi st
theorem mE_2 {g : Nat → Int32} {a b c : Nat} {h1 h2 : Nat → Bool} {op : Bool → Bool → Bool} (hab : a ≤ b) (hbc : b ≤ c) (m1 : mE g a b h1) (m2 : mE g b c h2) (ho : ∀ i x y st, yOp (g (118 + 2 * c)) (g (119 + 2 * c)) i (y :: x :: st) = some (op x y :: st)) : mE g a (c + 1) (fun i => op (h1 i) (h2 i)) := fun i hi st => by
  rw [show c + 1 - a = (b - a) + ((c - b) + 1) by omega, zPl_app (b - a) a ((c - b) + 1) st _ (m1 i hi st), show a + (b - a) = b by omega, zPl_app (c - b) b 1 _ _ (m2 i hi _), show b + (c - b) = c by omega]
  exact zPl_1 (ho i _ _ st)
theorem mE_1 {g : Nat → Int32} {a b : Nat} {h : Nat → Bool} (hab : a ≤ b) (m : mE g a b h) (ho : ∀ i x st, yOp (g (118 + 2 * b)) (g (119 + 2 * b)) i (x :: st) = some ((!x) :: st)) : mE g a (b + 1) (fun i => !h i) := fun i hi st => by
  rw [show b + 1 - a = (b - a) + 1 by omega, zPl_app (b - a) a 1 st _ (m i hi st), show a + (b - a) = b by omega]
  exact zPl_1 (ho i _ st)
theorem mE_0 {g : Nat → Int32} {a : Nat} {h : Nat → Bool} (ho : ∀ i st, yOp (g (118 + 2 * a)) (g (119 + 2 * a)) i st = some (h i :: st)) : mE g a (a + 1) h := fun i hi st => by
  rw [show a + 1 - a = 1 by omega]
  exact zPl_1 (ho i st)
theorem yOp12 {v : Int32} {i : Nat} {x : Bool} {st : List Bool} : yOp (zi 12) v i (x :: st) = some ((!x) :: st) := by
  unfold yOp
  rw [if_pos (show zi 12 = (12 : Int32) from rfl)]
theorem yOp11 {v : Int32} {i : Nat} {x y : Bool} {st : List Bool} : yOp (zi 11) v i (y :: x :: st) = some (and x y :: st) := by
  unfold yOp
  rw [if_neg (show ¬ zi 11 = (12 : Int32) by decide), if_pos (show zi 11 = (11 : Int32) from rfl)]
theorem yOp10 {v : Int32} {i : Nat} {x y : Bool} {st : List Bool} : yOp (zi 10) v i (y :: x :: st) = some (or x y :: st) := by
  unfold yOp
  rw [if_neg (show ¬ zi 10 = (12 : Int32) by decide), if_neg (show ¬ zi 10 = (11 : Int32) by decide), if_pos (show zi 10 = (10 : Int32) from rfl)]
theorem yOp13 {b i : Nat} (hb : b ≤ 5) {st : List Bool} : yOp (zi 13) (zi (b : Int)) i st = some (i.testBit b :: st) := by
  unfold yOp
  rw [if_neg (show ¬ zi 13 = (12 : Int32) by decide), if_neg (show ¬ zi 13 = (11 : Int32) by decide), if_neg (show ¬ zi 13 = (10 : Int32) by decide), if_pos ⟨rfl, by rw [show (0 : Int32) = zi ((0 : Nat) : Int) from rfl, yLe (by omega) (by omega)]; omega, by rw [show (5 : Int32) = zi ((5 : Nat) : Int) from rfl, yLe (by omega) (by omega)]; exact hb⟩, zi_cl (by omega), Int.toNat_natCast]
/-! how far a reader has come, sound or not -/
theorem yTo_ge {B : Nat → Nat} {n q : Nat} (h : q ≤ n) : q ≤ (yTo B n q).2 := by
  have a := (yS_p (B := B) h).1
  unfold yTo
  by_cases w : yK B n q = 20
  · rw [if_pos w]
    exact a
  · rw [if_neg w]
    exact Nat.le_refl _
theorem yAdv_ge {B : Nat → Nat} {n : Nat} {s : yTkS} (h : s.2 ≤ n) : s.2 ≤ (yAdv B n s).2 := by
  unfold yAdv
  by_cases w : s.1 = 0
  · rw [if_pos w]
    have b := yEb_b (B := B) h
    have c := yTo_ge (B := B) b.1
    omega
  · rw [if_neg w]
    exact Nat.le_refl _
theorem yAdv_g1 {B : Nat → Nat} {n : Nat} {s : yTkS} (hs : s.1 = 0) (h : s.2 ≤ n) (hk : yK B n s.2 ≠ 19) : s.2 + 1 ≤ (yAdv B n s).2 := by
  unfold yAdv
  rw [if_pos hs]
  have b := yEb_b (B := B) h
  have b4 := b.2.2.2 hk
  have c := yTo_ge (B := B) b.1
  omega
theorem yAdv_g2 {B : Nat → Nat} {n : Nat} {s : yTkS} (hs : s.1 = 0) (h : s.2 ≤ n) (hk : yK B n s.2 < 14) : s.2 + 2 ≤ (yAdv B n s).2 := by
  unfold yAdv
  rw [if_pos hs]
  have b := yEb_b (B := B) h
  have c := yTo_ge (B := B) b.1
  have sb := yS_p (B := B) h
  have k := yKs_c (B := B) sb.2.1
  have ke : yKs B n (yS B n s.2) = yK B n s.2 := rfl
  rw [ke] at k
  have k2 : yS B n s.2 < n ∧ yK B n s.2 = yKy (yWd B (yS B n s.2) (yEl B n (yS B n s.2) - yS B n s.2)) := by
    rcases k with k | k | k | k | k
    · omega
    · exact ⟨k.1, k.2.1⟩
    · omega
    · omega
    · omega
  have q := (yKy_i hk).mp k2.2.symm
  have len := (yWd_i.mp q).1
  have key : ∀ q : Fin 14, 2 ≤ (yWq q.1).length := by decide +kernel
  have k3 : 2 ≤ (yWq (yK B n s.2)).length := key ⟨_, hk⟩
  have e : yEb B n s.2 = yEl B n (yS B n s.2) := by
    have il : yIsL (B (yS B n s.2)) = true := by
      cases z : yIsL (B (yS B n s.2))
      · have : yK B n s.2 = yKs B n (yS B n s.2) := rfl
        unfold yKs at this
        rw [if_neg (by omega), z, if_neg (by decide)] at this
        repeat' split at this
        all_goals omega
      · rfl
    show yEs B n (yS B n s.2) = _
    unfold yEs
    rw [if_neg (by omega), if_pos il]
  omega
theorem yFa_ge {B : Nat → Nat} {n : Nat} {s : yTkS} {f : Nat} (h : s.2 ≤ n) : s.2 ≤ (yFa B n s f).2 := by
  unfold yFa
  by_cases w : s.1 = 0
  · rw [if_pos w]
    exact (yS_p (B := B) h).1
  · rw [if_neg w]
    exact Nat.le_refl _
theorem yNd_ge {B : Nat → Nat} {n : Nat} {s : yTkS} {k : Nat} (h : s.2 ≤ n) : s.2 ≤ (yNd B n s k).2 := by
  unfold yNd
  by_cases g : yIsK B n s k = true
  · rw [if_pos g]
    exact yAdv_ge h
  · rw [if_neg g]
    exact yFa_ge h
theorem yRdN_ge {B : Nat → Nat} {n : Nat} {s : yTkS} {lo hi : Int} {room : Bool} (h : s.2 ≤ n) : s.2 ≤ (yRdN B n s lo hi room).1.2 := by
  unfold yRdN
  by_cases g : yIsK B n s 15 = true
  · rw [if_pos g]
    by_cases w : lo ≤ (yVl B n s.2 : Int) ∧ (yVl B n s.2 : Int) ≤ hi
    · rw [if_pos w]
      cases room
      · rw [if_neg (by decide)]
        exact yFa_ge h
      · rw [if_pos rfl]
        exact yAdv_ge h
    · rw [if_neg w]
      exact yFa_ge h
  · rw [if_neg g]
    exact yFa_ge h
def yFrx (B : Nat → Nat) (n bk : Nat) (s : yTkS) : yHld := ((yRdN B n (yNd B n s 13) 0 ((bk : Int) - 1) true).1, fun i => if (yRdN B n (yNd B n s 13) 0 ((bk : Int) - 1) true).2 = -1 then false else i.testBit (yRdN B n (yNd B n s 13) 0 ((bk : Int) - 1) true).2.toNat)
theorem yFac_o {B : Nat → Nat} {n bk q : Nat} {s : yTkS} (h1 : yIsK B n s 12 = false) (h2 : yIsK B n s 17 = false) : yFac B n bk q s = yFrx B n bk s := by
  have n1 : ¬ yIsK B n s 12 = true := by rw [h1]; decide
  have n2 : ¬ yIsK B n s 17 = true := by rw [h2]; decide
  have key : (if yIsK B n s 13 = true then yFre B n bk s else (yFa B n s 2, fun _ => false)) = yFrx B n bk s := by
    unfold yFre yFrx yNd
    by_cases g : yIsK B n s 13 = true
    · rw [if_pos g, if_pos g]
    · rw [if_neg g, if_neg g, yRdN_f (yFa_n (by decide))]
      refine Prod.ext rfl (funext fun i => ?_)
      dsimp only
      rw [if_pos rfl]
  cases q with
  | zero => rw [yFac, if_neg n1, if_neg n2, key]
  | succ q => rw [yFac, if_neg n1, if_neg n2, key]
theorem yFac_st {B : Nat → Nat} {n bk : Nat} (q : Nat) {s : yTkS} (hn : s.2 ≤ n) (h : (yFac B n bk q s).1.1 = 0) : s.2 < (yFac B n bk q s).1.2 := by
  have adv : ∀ k, yIsK B n s k = true → k ≠ 19 → s.2 + 1 ≤ (yAdv B n s).2 := fun k g hk => by
    have g2 := yZb.mp g
    exact yAdv_g1 g2.1 hn (by rw [g2.2]; exact hk)
  have an : ∀ {t : yTkS}, yMo n (yAdv B n s) t → t.1 = 0 → (yAdv B n s).2 ≤ t.2 := fun {t} m z => by
    have a := m z
    have b := yAdv_m (B := B) (n := n) (s := s) a.1
    exact (a.2 (fun _ => (b.2 (fun _ => hn)).2)).1
  cases g1 : yIsK B n s 12 with
  | true =>
    have g13 : ¬ yIsK B n s 13 = true := fun z => by
      have a := (yZb.mp z).2
      have b := (yZb.mp g1).2
      omega
    have a := adv 12 g1 (by decide)
    cases q with
    | zero =>
      rw [yFac, if_neg g13, if_pos g1] at h
      exact absurd h (yFa_n (by decide))
    | succ q =>
      rw [yFac, if_neg g13, if_pos g1] at h ⊢
      have b := an (yFac_m q (yAdv B n s)) h
      show s.2 < (yFac B n bk q (yAdv B n s)).1.2
      omega
  | false =>
    cases g2 : yIsK B n s 17 with
    | true =>
      have g13 : ¬ yIsK B n s 13 = true := fun z => by
        have a := (yZb.mp z).2
        have b := (yZb.mp g2).2
        omega
      have n1 : ¬ yIsK B n s 12 = true := by rw [g1]; decide
      have a := adv 17 g2 (by decide)
      cases q with
      | zero =>
        rw [yFac, if_neg g13, if_neg n1, if_pos g2] at h
        exact absurd h (yFa_n (by decide))
      | succ q =>
        rw [yFac, if_neg g13, if_neg n1, if_pos g2] at h ⊢
        have b := an (yMo_tr (yTes_m (yFac_m q) (yAdv B n s)) (yNd_m (k := 18))) h
        show s.2 < (yNd B n (yTes B n (yFac B n bk q) (yAdv B n s)).1 18).2
        omega
    | false =>
      rw [yFac_o g1 g2] at h ⊢
      have c := yRdN_0 (B := B) (n := n) (s := yNd B n s 13) (lo := 0) (hi := (bk : Int) - 1) (room := true) h
      have e := yNd_s (B := B) (n := n) (s := s) (k := 13) (by decide) (fun _ => hn) c.2.1
      have f := yRdN_ge (B := B) (n := n) (s := yNd B n s 13) (lo := 0) (hi := (bk : Int) - 1) (room := true) e.2.2.2
      show s.2 < (yRdN B n (yNd B n s 13) 0 ((bk : Int) - 1) true).1.2
      omega
