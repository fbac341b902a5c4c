/-! tables, rules, a whole day; what holds between two calls -/
theorem zb1_t : zb1 true = 1 := rfl
theorem zb1_f : zb1 false = 0 := rfl
abbrev yTb : Type := Nat × (Nat → Nat → Int)
def zWd (q : Nat) : Nat := if q = 0 then 4 else if q = 1 then 1 else if q = 2 then 2 else if q = 3 then 2 else if q = 4 then 2 else if q = 5 then 4 else 3
def zMs (q : Nat) : Nat := if q = 0 then 12 else if q = 1 then 6 else if q = 2 then 10 else if q = 3 then 8 else if q = 4 then 10 else if q = 5 then 20 else if q = 6 then 20 else 8
def zBs (q : Nat) : Nat := if q = 0 then 618 else if q = 1 then 667 else if q = 2 then 674 else if q = 3 then 695 else if q = 4 then 712 else if q = 5 then 733 else if q = 6 then 814 else 856
def zSz (q : Nat) : Nat := if q = 0 then 49 else if q = 1 then 7 else if q = 2 then 21 else if q = 3 then 17 else if q = 4 then 21 else if q = 5 then 81 else if q = 6 then 42 else 25
def zAd (q f k : Nat) : Nat := if q = 6 then (if f = 0 then 815 else if f = 1 then 816 + k else 836 + k) else zBs q + 1 + zMs q * f + k
def zLo (q f : Nat) : Int := if q = 0 then (if f = 0 then 0 else if f = 1 then 1 else if f = 2 then 1 else 0) else if q = 1 then 0 else if q = 2 then (if f = 0 then 0 else 1) else if q = 3 then (if f = 0 then 0 else 1) else if q = 4 then (if f = 0 then 1 else 50) else if q = 5 then 0 else if q = 6 then (if f = 0 then 1 else if f = 1 then 1 else 0) else 0
def zHi (n m c q f : Nat) : Int := if q = 0 then (if f = 0 then 3 else if f = 1 then 20 else if f = 2 then 99999 else 99) else if q = 1 then (n : Int) - 1 else if q = 2 then (if f = 0 then 4095 else 99) else if q = 3 then (if f = 0 then 10000 * ((c : Int) + 1) else 9999) else if q = 4 then (if f = 0 then 8 else 220) else if q = 5 then (if f = 0 then 3 else if f = 1 then (m : Int) else if f = 2 then 9999 else 99) else if q = 6 then (if f = 0 then 20 else if f = 1 then 99999 else 99) else (if f = 0 then 63 else 23)
def cTb (o q : Nat) (I : Nat → Nat → Int32) (b : yTb) : Prop := I o 0 = zi (zMs q) ∧ I o 1 = zi (zWd q) ∧ I o 3 = zi b.1 ∧ ∀ k f, k < b.1 → f < zWd q → I (o + 1) (k * zWd q + f) = zi (b.2 k f)
def mTb (q : Nat) (g : Nat → Int32) (b : yTb) : Prop := g (zBs q) = zi b.1 ∧ ∀ k f, k < b.1 → f < zWd q → g (zAd q f k) = zi (b.2 k f)
def wTb (n m c q : Nat) (b : yTb) : Prop := b.1 ≤ zMs q ∧ ∀ k f, k < b.1 → f < zWd q → zLo q f ≤ b.2 k f ∧ b.2 k f ≤ zHi n m c q f
/-- RULES: how many, of which BLOCK, whether one holds by a showing -/
abbrev yRl : Type := Nat × (Nat → Nat) × (Nat → Nat → Bool)
def cRl (D : Nat) (I : Nat → Nat → Int32) (J : Nat → Nat → Int64) (u : yRl) : Prop := I (37 + D) 2 = zi u.1 ∧ (∀ b : Nat, b < 6 → (zus (I (37 + D) 1) (zi b) &&& 1 = 0 ↔ ¬ ∃ k, k < u.1 ∧ u.2.1 k = b)) ∧ ∀ b s : Nat, b < 6 → s < 64 → (lg_cmp (zul (J (38 + D) b) (zi s) &&& 1) 0 = 0 ↔ ¬ ∃ k, k < u.1 ∧ u.2.1 k = b ∧ u.2.2 k s = true)
/-- the model's stack of answers: one operation; run over the operations from i on -/
def yOp (k v : Int32) (s : Nat) (st : List Bool) : Option (List Bool) := if k = 12 then (match st with
  | x :: st => some ((!x) :: st)
  | _ => none) else if k = 11 then (match st with
  | y :: x :: st => some ((x && y) :: st)
  | _ => none) else if k = 10 then (match st with
  | y :: x :: st => some ((x || y) :: st)
  | _ => none) else if k = 13 ∧ 0 ≤ v ∧ v ≤ 5 then some (s.testBit v.toNatClampNeg :: st) else none
def zPl (g : Nat → Int32) (s : Nat) : Nat → Nat → List Bool → Option (List Bool)
  | _, 0, st => some st
  | i, n + 1, st => match yOp (g (118 + 2 * i)) (g (119 + 2 * i)) s st with
    | some st' => zPl g s (i + 1) n st'
    | none => none
def mRl (g : Nat → Int32) (u : yRl) : Prop := g 81 = zi u.1 ∧ ∀ k, k < u.1 → g (82 + k) = zi (u.2.1 k) ∧ ∃ fr n : Nat, g (94 + k) = zi fr ∧ g (106 + k) = zi ((fr + n : Nat) : Int) ∧ fr + n ≤ 250 ∧ ∀ s, s < 64 → zPl g s fr n [] = some [u.2.2 k s]
def wRl (m : Nat) (u : yRl) : Prop := u.1 ≤ 12 ∧ ∀ k, k < u.1 → u.2.1 k ≤ m
/-- TRACK, RULES, tables, STRETCH -/
abbrev zFd : Type := zDy × yRl × (Nat → yTb) × (Nat → Int)
def cDay (D : Nat) (I : Nat → Nat → Int32) (J : Nat → Nat → Int64) (y : zFd) : Prop := cTr D I J y.1 ∧ cRl D I J y.2.1 ∧ (∀ q, q < 8 → cTb (39 + 2 * q + D) q I (y.2.2.1 q)) ∧ ∀ c, c < 2 → I (55 + D) c = zi (y.2.2.2 c)
def mDay (O : Nat) (I : Nat → Nat → Int32) (y : zFd) : Prop := mTr O I y.1 ∧ mRl (fun k => I 131 (O + k)) y.2.1 ∧ (∀ q, q < 8 → mTb q (fun k => I 131 (O + k)) (y.2.2.1 q)) ∧ ∀ c, c < 2 → I 131 (O + (881 + c)) = zi (y.2.2.2 c)
def wDay (c : Nat) (y : zFd) : Prop := wTr y.1 ∧ wRl y.1.m y.2.1 ∧ (∀ q, q < 8 → wTb y.1.n y.1.m c q (y.2.2.1 q)) ∧ (∀ k, k < 2 → 0 ≤ y.2.2.2 k ∧ y.2.2.2 k ≤ 20000 * (c : Int)) ∧ (y.1.n = 0 → (y.2.2.1 0).1 = 0 ∧ (y.2.2.1 1).1 = 0 ∧ (y.2.2.1 5).1 = 0 ∧ (y.2.2.1 6).1 = 0)
/-- TICKS of a RUN that is OUT, else -1 -/
def zOT (t : zDy) (l : Int) : Int := if (zRu t l 0 t.push).1 = 0 then zTel 1 (zRu t l 0 t.push) else -1
def zCa (I : Nat → Nat → Int32) (t : zDy) : Prop := ∀ l : Nat, l < 2481 → I 120 l = -2 ∨ I 120 l = zi (zOT t l)
def zVm (c D O : Nat) (I : Nat → Nat → Int32) (J : Nat → Nat → Int64) (j : Nat) (o : Nat) (z : Bool × zFd) : Prop := I o 11 = zb1 z.1 ∧ I 133 j = zb1 z.1 ∧ (∀ q, q < 8 → I (39 + 2 * q + D) 0 = zi (zMs q) ∧ I (39 + 2 * q + D) 1 = zi (zWd q)) ∧ (z.1 = true → cDay D I J z.2 ∧ mDay O I z.2 ∧ wDay c z.2)
def zVr (I : Nat → Nat → Int32) (J : Nat → Nat → Int64) : Prop := ∀ i, i < 4 → I (108 + 2 * i) 1 = I 145 i ∧ I (108 + 2 * i) 2 = I 146 i ∧ ∃ s n : Int, I 145 i = zi s ∧ I 146 i = zi n ∧ -1 ≤ s ∧ s ≤ 3 ∧ 0 ≤ n ∧ n ≤ 60 ∧ ∀ k : Nat, (k : Int) < n → J (109 + 2 * i) k = J 147 (60 * i + k)
def zVt (I : Nat → Nat → Int32) : Prop := (∃ T : Nat, T ≤ 400 ∧ I 17 4 = zi T ∧ I 130 5 = zi T ∧ ∀ k, k < T → ∃ b : Nat, b < 256 ∧ I 18 k = zi b ∧ I 134 k = zi b) ∧ I 17 11 = I 130 15 ∧ I 17 12 = I 130 16
def zV (c : Nat) (I : Nat → Nat → Int32) (J : Nat → Nat → Int64) (y : zFd) (z0 z1 : Bool × zFd) : Prop := cDay 0 I J y ∧ mDay 0 I y ∧ wDay c y ∧ zVm c 26 883 I J 0 57 z0 ∧ zVm c 51 1766 I J 1 82 z1 ∧ zVr I J ∧ zVt I ∧ (∀ c : Nat, c < 2 → I 119 c = 0) ∧ I 130 25 = 0 ∧ zCa I y.1
theorem zV_TI {c : Nat} {I : Nat → Nat → Int32} {J : Nat → Nat → Int64} {y : zFd} {z0 z1 : Bool × zFd} (h : zV c I J y z0 z1) : zTI I J y.1 := ⟨h.1.1, h.2.1.1, h.2.2.1.1, h.2.2.2.2.2.2.2.1, h.2.2.2.2.2.2.2.2.1⟩
