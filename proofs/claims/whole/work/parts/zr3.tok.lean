/-! TEXT: where a reader stands: no fault, and the token from a place on; or a fault and its place -/
abbrev yTkS : Type := Nat × Nat
def yTo (B : Nat → Nat) (n q : Nat) : yTkS := if yK B n q = 20 then (1, yS B n q) else (0, q)
def yIsK (B : Nat → Nat) (n : Nat) (s : yTkS) (k : Nat) : Bool := decide (s.1 = 0 ∧ yK B n s.2 = k)
def yFa (B : Nat → Nat) (n : Nat) (s : yTkS) (f : Nat) : yTkS := if s.1 = 0 then (f, yS B n s.2) else s
def yAdv (B : Nat → Nat) (n : Nat) (s : yTkS) : yTkS := if s.1 = 0 then yTo B n (yEb B n s.2) else s
def yNd (B : Nat → Nat) (n : Nat) (s : yTkS) (k : Nat) : yTkS := if yIsK B n s k = true then yAdv B n s else yFa B n s 2
def yRdN (B : Nat → Nat) (n : Nat) (s : yTkS) (lo hi : Int) (room : Bool) : yTkS × Int := if yIsK B n s 15 = true then (if lo ≤ (yVl B n s.2 : Int) ∧ (yVl B n s.2 : Int) ≤ hi then (if room = true then (yAdv B n s, (yVl B n s.2 : Int)) else (yFa B n s 5, -1)) else (yFa B n s 3, -1)) else (yFa B n s 2, -1)
def yPp (B : Nat → Nat) (n : Nat) : Nat → Nat
  | 0 => 0
  | i + 1 => yEb B n (yPp B n i)
def yNn (B : Nat → Nat) (n : Nat) : Nat := zFs (fun i => decide (yK B n (yPp B n i) = 19 ∨ yK B n (yPp B n i) = 20)) (n + 1)
theorem yPp_b {B : Nat → Nat} {n : Nat} : ∀ i, yPp B n i ≤ n
  | 0 => Nat.zero_le n
  | i + 1 => (yEb_b (yPp_b i)).1
theorem yNn_b {B : Nat → Nat} {n : Nat} : yNn B n ≤ n ∧ (yK B n (yPp B n (yNn B n)) = 19 ∨ yK B n (yPp B n (yNn B n)) = 20) ∧ ∀ j, j < yNn B n → yK B n (yPp B n j) ≠ 19 ∧ yK B n (yPp B n j) ≠ 20 := by
  have hj : ∀ j, j < yNn B n → yK B n (yPp B n j) ≠ 19 ∧ yK B n (yPp B n j) ≠ 20 := fun j h => by
    have := of_decide_eq_false (zFs_n (stop := fun i => decide (yK B n (yPp B n i) = 19 ∨ yK B n (yPp B n i) = 20)) (n := n + 1) (j := j) h)
    omega
  have gr : ∀ i, i ≤ yNn B n → i ≤ yPp B n i := by
    intro i
    induction i with
    | zero => exact fun _ => Nat.zero_le _
    | succ i ih =>
      intro h
      have a := ih (by omega)
      have b := ((yEb_b (B := B) (yPp_b (B := B) (n := n) i)).2.2.2 (hj i (by omega)).1).1
      show i + 1 ≤ yEb B n (yPp B n i)
      omega
  have le : yNn B n ≤ n + 1 := zFs_le
  have lt : yNn B n < n + 1 := by
    by_cases w : yNn B n = n + 1
    · have a := gr (n + 1) (by omega)
      have b := yPp_b (B := B) (n := n) (n + 1)
      omega
    · omega
  exact ⟨by omega, of_decide_eq_true (zFs_s (stop := fun i => decide (yK B n (yPp B n i) = 19 ∨ yK B n (yPp B n i) = 20)) lt), hj⟩
theorem yKs_c {B : Nat → Nat} {n s : Nat} (h : s ≤ n) : (n ≤ s ∧ yKs B n s = 19 ∧ yCv B n s = 0) ∨ (s < n ∧ yKs B n s = yKy (yWd B s (yEl B n s - s)) ∧ yKs B n s ≤ 14 ∧ yCv B n s = yEl B n s - s ∧ yEl B n s ≤ n ∧ s < yEl B n s) ∨ (s < n ∧ yKs B n s = 15 ∧ yCv B n s = yVs B n s) ∨ (s < n ∧ (yKs B n s = 16 ∧ B s = 59 ∨ yKs B n s = 17 ∧ B s = 40 ∨ yKs B n s = 18 ∧ B s = 41) ∧ yCv B n s = B s) ∨ (s < n ∧ yKs B n s = 20) := by
  have ky := yKy_b (w := yWd B s (yEl B n s - s))
  unfold yKs yCv
  by_cases w : n ≤ s
  · rw [if_pos w, if_pos w]
    exact Or.inl ⟨w, rfl, rfl⟩
  · rw [if_neg w, if_neg w]
    right
    cases q1 : yIsL (B s)
    · right
      rw [if_neg (show ¬ false = true by decide), if_neg (show ¬ false = true by decide)]
      cases q2 : yIsD (B s)
      · right
        rw [if_neg (show ¬ false = true by decide), if_neg (show ¬ false = true by decide)]
        by_cases g1 : B s = 59
        · rw [if_pos g1, if_pos (Or.inl g1)]
          exact Or.inl ⟨by omega, Or.inl ⟨rfl, g1⟩, rfl⟩
        · rw [if_neg g1]
          by_cases g2 : B s = 40
          · rw [if_pos g2, if_pos (Or.inr (Or.inl g2))]
            exact Or.inl ⟨by omega, Or.inr (Or.inl ⟨rfl, g2⟩), rfl⟩
          · rw [if_neg g2]
            by_cases g3 : B s = 41
            · rw [if_pos g3, if_pos (Or.inr (Or.inr g3))]
              exact Or.inl ⟨by omega, Or.inr (Or.inr ⟨rfl, g3⟩), rfl⟩
            · rw [if_neg g3]
              exact Or.inr ⟨by omega, rfl⟩
      · rw [if_pos (show true = true from rfl), if_pos (show true = true from rfl)]
        by_cases g : yEd B n s - s ≤ 3
        · rw [if_pos g, if_pos g]
          exact Or.inl ⟨by omega, rfl, rfl⟩
        · rw [if_neg g, if_neg g]
          exact Or.inr (Or.inr ⟨by omega, rfl⟩)
    · rw [if_pos (show true = true from rfl), if_pos (show true = true from rfl)]
      have a := ySp_p (P := fun k => yIsL (B k)) h
      have b := ySp_1 (P := fun k => yIsL (B k)) (i := s) (n := n) (by omega) q1
      exact Or.inl ⟨by omega, rfl, ky, rfl, a.2.1, b⟩
theorem yWd_i {w : List Nat} {B : Nat → Nat} {s m : Nat} : w = yWd B s m ↔ w.length = m ∧ ∀ i, i < m → w.getD i 0 = B (s + i) := by
  constructor
  · rintro rfl
    refine ⟨by simp [yWd], fun i hi => ?_⟩
    simp [yWd, List.getElem?_range hi]
  · rintro ⟨h1, h2⟩
    refine List.ext_getElem (by simp [yWd, h1]) (fun i g1 g2 => ?_)
    have := h2 i (by omega)
    rw [List.getD_eq_getElem?_getD, List.getElem?_eq_getElem g1] at this
    simp [yWd]
    exact this
def cTx (B : Nat → Nat) (n : Nat) (I : Nat → Nat → Int32) : Prop := I 17 6 = zi ((yNn B n + 1 : Nat) : Int) ∧ (∀ k, k < n → I 18 k = zi (B k : Int)) ∧ ∀ j, j ≤ yNn B n → I 19 j = zi (yCk (yK B n (yPp B n j)) : Int) ∧ I 20 j = zi (yS B n (yPp B n j) : Int) ∧ I 21 j = zi (yCv B n (yS B n (yPp B n j)) : Int)
def cAt (B : Nat → Nat) (n : Nat) (I : Nat → Nat → Int32) (s : yTkS) : Prop := cTx B n I ∧ (s.1 = 0 → s.2 ≤ n ∧ yK B n s.2 ≠ 20 ∧ (∃ j, j ≤ yNn B n ∧ s.2 = yPp B n j ∧ I 17 7 = zi (j : Int)) ∧ I 17 8 = zi (yCk (yK B n s.2) : Int) ∧ I 17 9 = zi (yS B n s.2 : Int) ∧ I 17 10 = zi (yCv B n (yS B n s.2) : Int) ∧ I 17 11 = 0 ∧ I 17 12 = -1) ∧ (s.1 ≠ 0 → s.1 ≤ 5 ∧ s.2 ≤ 400 ∧ I 17 11 = zi (s.1 : Int) ∧ I 17 12 = zi (s.2 : Int) ∧ I 17 8 = 4)
def cFt (I I' : Nat → Nat → Int32) : Prop := ∀ o k, ¬ (o = 17 ∧ 7 ≤ k) → I' o k = I o k
theorem cFt_tr {I I1 I2 : Nat → Nat → Int32} (h : cFt I I1) (g : cFt I1 I2) : cFt I I2 := fun o k w => (g o k w).trans (h o k w)
theorem cFt_rf {I : Nat → Nat → Int32} : cFt I I := fun _ _ _ => rfl
theorem cFt_o {I I' : Nat → Nat → Int32} (h : cFt I I') {o : Nat} (ho : o ≠ 17) : I' o = I o := funext fun k => h o k fun w => ho w.1
theorem cTx_fr {B : Nat → Nat} {n : Nat} {I I' : Nat → Nat → Int32} (h6 : I' 17 6 = I 17 6) (h : ∀ o, 18 ≤ o → o ≤ 21 → I' o = I o) (g : cTx B n I) : cTx B n I' := by
  unfold cTx
  rw [h6, h 18 (by decide) (by decide), h 19 (by decide) (by decide), h 20 (by decide) (by decide), h 21 (by decide) (by decide)]
  exact g
/-- what touches no token -/
theorem cAt_fr {B : Nat → Nat} {n : Nat} {I I' : Nat → Nat → Int32} {s : yTkS} (h : ∀ o, 17 ≤ o → o ≤ 21 → I' o = I o) (g : cAt B n I s) : cAt B n I' s := by
  unfold cAt cTx
  rw [h 17 (by decide) (by decide), h 18 (by decide) (by decide), h 19 (by decide) (by decide), h 20 (by decide) (by decide), h 21 (by decide) (by decide)]
  exact g
section
variable {d L r : Nat} {I : Nat → Nat → Int32} {J : Nat → Nat → Int64}
variable {B : Nat → Nat} {n : Nat}
theorem cAdv0 (hd : 1 ≤ d) (hn : n ≤ 400) (hx : cTx B n I) {j : Nat} (hj : j ≤ yNn B n) (h7 : I 17 7 + 1 = zi (j : Int)) (h11 : I 17 11 = 0) (h12 : I 17 12 = -1) : ∃ I', zCd zT d 97 [.ref 17] (zm L I J r) = some (none, (zm L I' J r)) ∧ cAt B n I' (yTo B n (yPp B n j)) ∧ cFt I I' := by
  obtain ⟨e, rfl⟩ : ∃ e, d = e + 1 := ⟨d - 1, by omega⟩
  have nb := yNn_b (B := B) (n := n)
  obtain ⟨x6, x18, xa⟩ := hx
  obtain ⟨x19, x20, x21⟩ := xa j hj
  have pb := yPp_b (B := B) (n := n) j
  have sb := yS_p (B := B) pb
  have kb := yK_b (B := B) (n := n) (p := yPp B n j)
  have fr : cFt I (zu (zu (zu (zu I 17 7 (zi (j : Int))) 17 8 (I 19 j)) 17 9 (I 20 j)) 17 10 (I 21 j)) := fun o k w => by
    rw [zu_n (by omega), zu_n (by omega), zu_n (by omega), zu_n (by omega)]
  rw [qX8_advance, eX8_advance_0, h7, x6, if_neg (show ¬ zi (j : Int) < (0 : Int32) by rw [show (0 : Int32) = zi ((0 : Nat) : Int) from rfl, yLt (by omega) (by omega)]; omega), if_neg (show ¬ zi ((yNn B n + 1 : Nat) : Int) ≤ zi (j : Int) by rw [yLe (by omega) (by omega)]; omega), if_neg (show ¬ (401 : Int32) ≤ zi (j : Int) by rw [show (401 : Int32) = zi ((401 : Nat) : Int) from rfl, yLe (by omega) (by omega)]; omega), eX8_advance_2, if_neg (show ¬ (1 : Int32) = 0 by decide), if_neg (show ¬ (401 : Int32) ≤ zi (j : Int) by rw [show (401 : Int32) = zi ((401 : Nat) : Int) from rfl, yLe (by omega) (by omega)]; omega), if_neg (show ¬ (401 : Int32) ≤ zi (j : Int) by rw [show (401 : Int32) = zi ((401 : Nat) : Int) from rfl, yLe (by omega) (by omega)]; omega), if_pos h11, eX8_advance_4, zin_t (by omega) (by omega), zgd_t, zgd_t, zgd_t, zi_cl (by omega), Int.toNat_natCast]
  simp only [zu_o (show (19 : Nat) ≠ 17 by decide), zu_o (show (20 : Nat) ≠ 17 by decide), zu_o (show (21 : Nat) ≠ 17 by decide)]
  by_cases w : yK B n (yPp B n j) = 20
  · rw [x19, w, if_pos (show zi (yCk 20 : Int) = 4 from rfl), eX8_advance_5]
    refine ⟨_, rfl, ⟨?_, fun q => ?_, fun _ => ?_⟩, ?_⟩
    · refine cTx_fr ?_ (fun o _ _ => ?_) ⟨x6, x18, xa⟩
      · rw [zu_n (by decide), zu_n (by decide), zu_n (by decide), zu_n (by decide), zu_n (by decide), zu_n (by decide)]
      · rw [zu_o (by omega), zu_o (by omega), zu_o (by omega), zu_o (by omega), zu_o (by omega), zu_o (by omega)]
    · unfold yTo at q
      rw [if_pos w] at q
      cases q
    · unfold yTo
      rw [if_pos w]
      refine ⟨show 1 ≤ 5 by decide, show yS B n (yPp B n j) ≤ 400 by omega, ?_, ?_, ?_⟩
      · rw [zu_n (by decide), zu_y ⟨rfl, rfl⟩]
        rfl
      · rw [zu_y ⟨rfl, rfl⟩, x20]
      · rw [zu_n (by decide), zu_n (by decide), zu_n (by decide), zu_n (by decide), zu_y ⟨rfl, rfl⟩]
        rfl
    · intro o k g
      rw [zu_n (by omega), zu_n (by omega), zu_n (by omega), zu_n (by omega), zu_n (by omega), zu_n (by omega)]
  · have c4 : ¬ zi (yCk (yK B n (yPp B n j)) : Int) = 4 := by
      have : yCk (yK B n (yPp B n j)) < 4 := by
        unfold yCk
        rw [if_neg w]
        repeat' split
        all_goals omega
      rw [show (4 : Int32) = zi ((4 : Nat) : Int) from rfl, yEq (by omega) (by omega)]
      omega
    rw [x19, if_neg c4, eX8_advance_5]
    rw [x19] at fr
    have pe : yTo B n (yPp B n j) = (0, yPp B n j) := by
      unfold yTo
      rw [if_neg w]
    refine ⟨_, rfl, ?_, fr⟩
    rw [pe]
    refine ⟨cTx_fr (fr 17 6 (by omega)) (fun o _ _ => cFt_o fr (by omega)) ⟨x6, x18, xa⟩, fun _ => ⟨pb, w, ⟨j, hj, rfl, ?_⟩, ?_, ?_, ?_, ?_, ?_⟩, fun g => absurd rfl g⟩
    · rw [zu_n (by decide), zu_n (by decide), zu_n (by decide), zu_y ⟨rfl, rfl⟩]
    · rw [zu_n (by decide), zu_n (by decide), zu_y ⟨rfl, rfl⟩]
    · rw [zu_n (by decide), zu_y ⟨rfl, rfl⟩, x20]
    · rw [zu_y ⟨rfl, rfl⟩, x21]
    · rw [zu_n (by decide), zu_n (by decide), zu_n (by decide), zu_n (by decide), h11]
    · rw [zu_n (by decide), zu_n (by decide), zu_n (by decide), zu_n (by decide), h12]
theorem cAdv (hd : 1 ≤ d) (hn : n ≤ 400) {s : yTkS} (h : cAt B n I s) (hs : s.1 = 0) (hk : yK B n s.2 ≠ 19) : ∃ I', zCd zT d 97 [.ref 17] (zm L I J r) = some (none, (zm L I' J r)) ∧ cAt B n I' (yAdv B n s) ∧ cFt I I' := by
  obtain ⟨x, a, b⟩ := h
  obtain ⟨a1, a2, ⟨j, a3, a4, a5⟩, a6, a7, a8, a9, a10⟩ := a hs
  have nb := yNn_b (B := B) (n := n)
  have jl : j + 1 ≤ yNn B n := by
    by_cases w : j = yNn B n
    · rw [a4, w] at hk a2
      omega
    · omega
  have e : yAdv B n s = yTo B n (yPp B n (j + 1)) := by
    unfold yAdv
    rw [if_pos hs, a4]
    rfl
  rw [e]
  exact cAdv0 hd hn x jl (by rw [a5, yZ1]) a9 a10
theorem cFail (hd : 1 ≤ d) (hn : n ≤ 400) {s : yTkS} (h : cAt B n I s) {f : Nat} (hf : 1 ≤ f ∧ f ≤ 5) : ∃ I', zCd zT d 93 [.ref 17, .int (zi (f : Int))] (zm L I J r) = some (none, (zm L I' J r)) ∧ cAt B n I' (yFa B n s f) ∧ cFt I I' := by
  obtain ⟨x, a, b⟩ := h
  unfold yFa
  rw [sX8_fail hd]
  by_cases hs : s.1 = 0
  · obtain ⟨a1, a2, a3, a6, a7, a8, a9, a10⟩ := a hs
    have sb := yS_p (B := B) a1
    have fr : cFt I (zu (zu (zu I 17 11 (zi (f : Int))) 17 12 (I 17 9)) 17 8 4) := fun o k w => by rw [zu_n (by omega), zu_n (by omega), zu_n (by omega)]
    rw [if_pos a9, if_pos hs]
    refine ⟨_, rfl, ⟨cTx_fr (fr 17 6 (by omega)) (fun o _ _ => cFt_o fr (by omega)) x, fun q => ?_, fun _ => ⟨hf.2, show yS B n s.2 ≤ 400 by omega, ?_, ?_, ?_⟩⟩, fr⟩
    · have : f = 0 := q
      omega
    · rw [zu_n (by decide), zu_n (by decide), zu_y ⟨rfl, rfl⟩]
    · rw [zu_n (by decide), zu_y ⟨rfl, rfl⟩, a7]
    · rw [zu_y ⟨rfl, rfl⟩]
  · obtain ⟨b1, b2, b3, b4, b5⟩ := b hs
    have fr : cFt I (zu I 17 8 4) := fun o k w => by rw [zu_n (by omega)]
    rw [if_neg (show ¬ I 17 11 = 0 by rw [b3, show (0 : Int32) = zi ((0 : Nat) : Int) from rfl, yEq (by omega) (by omega)]; exact hs), if_neg hs]
    refine ⟨_, rfl, ⟨cTx_fr (fr 17 6 (by omega)) (fun o _ _ => cFt_o fr (by omega)) x, fun q => absurd q hs, fun _ => ⟨b1, b2, ?_, ?_, ?_⟩⟩, fr⟩
    · rw [zu_n (by decide), b3]
    · rw [zu_n (by decide), b4]
    · rw [zu_y ⟨rfl, rfl⟩]
theorem cSnd (hd : 1 ≤ d) {s : yTkS} (h : cAt B n I s) : zCd zT d 88 [.ref 17] (zm L I J r) = some (some (.int (zb1 (decide (s.1 = 0)))), (zm L I J r)) := by
  rw [sX8_isSound hd]
  by_cases hs : s.1 = 0
  · obtain ⟨a1, a2, a3, a6, a7, a8, a9, a10⟩ := h.2.1 hs
    rw [if_pos a9, decide_eq_true hs]
    rfl
  · obtain ⟨b1, b2, b3, b4, b5⟩ := h.2.2 hs
    rw [if_neg (show ¬ I 17 11 = 0 by rw [b3, show (0 : Int32) = zi ((0 : Nat) : Int) from rfl, yEq (by omega) (by omega)]; exact hs), decide_eq_false hs]
    rfl
/-- the kind of the token that stands there -/
theorem cKd {s : yTkS} (h : cAt B n I s) (c : Nat) (hc : c < 4) : I 17 8 = zi (c : Int) ↔ s.1 = 0 ∧ yCk (yK B n s.2) = c := by
  by_cases hs : s.1 = 0
  · obtain ⟨a1, a2, a3, a6, a7, a8, a9, a10⟩ := h.2.1 hs
    have : yCk (yK B n s.2) ≤ 4 := by
      unfold yCk
      repeat' split
      all_goals omega
    rw [a6, yEq (by omega) (by omega)]
    exact ⟨fun w => ⟨hs, w⟩, fun w => w.2⟩
  · obtain ⟨b1, b2, b3, b4, b5⟩ := h.2.2 hs
    rw [b5, show (4 : Int32) = zi ((4 : Nat) : Int) from rfl, yEq (by omega) (by omega)]
    exact ⟨fun w => by omega, fun w => absurd w.1 hs⟩
theorem yCk_i {k : Nat} (hk : k ≤ 20) : (yCk k = 0 ↔ k = 19) ∧ (yCk k = 1 ↔ k < 15) ∧ (yCk k = 2 ↔ k = 15) ∧ (yCk k = 3 ↔ 16 ≤ k ∧ k ≤ 18) := by
  have key : ∀ k : Fin 21, (yCk k.1 = 0 ↔ k.1 = 19) ∧ (yCk k.1 = 1 ↔ k.1 < 15) ∧ (yCk k.1 = 2 ↔ k.1 = 15) ∧ (yCk k.1 = 3 ↔ 16 ≤ k.1 ∧ k.1 ≤ 18) := by decide +kernel
  exact key ⟨k, by omega⟩
theorem cTkEnd (hd : 1 ≤ d) {s : yTkS} (h : cAt B n I s) : zCd zT d 89 [.ref 17] (zm L I J r) = some (some (.int (zb1 (yIsK B n s 19))), (zm L I J r)) := by
  have k := cKd h 0 (by decide)
  have ck := yCk_i (yK_b (B := B) (n := n) (p := s.2))
  have k2 : I 17 8 = 0 ↔ (s.1 = 0 ∧ yK B n s.2 = 19) := k.trans (by rw [ck.1])
  rw [sX8_isAtEnd hd]
  unfold yIsK
  by_cases w : s.1 = 0 ∧ yK B n s.2 = 19
  · rw [if_pos (k2.mpr w), decide_eq_true w]
    rfl
  · rw [if_neg (fun q => w (k2.mp q)), decide_eq_false w]
    rfl
theorem cNum (hd : 1 ≤ d) {s : yTkS} (h : cAt B n I s) : zCd zT d 90 [.ref 17] (zm L I J r) = some (some (.int (zb1 (yIsK B n s 15))), (zm L I J r)) := by
  have k := cKd h 2 (by decide)
  have ck := yCk_i (yK_b (B := B) (n := n) (p := s.2))
  have k2 : I 17 8 = 2 ↔ (s.1 = 0 ∧ yK B n s.2 = 15) := k.trans (by rw [ck.2.2.1])
  rw [sX8_isNumber hd]
  unfold yIsK
  by_cases w : s.1 = 0 ∧ yK B n s.2 = 15
  · rw [if_pos (k2.mpr w), decide_eq_true w]
    rfl
  · rw [if_neg (fun q => w (k2.mp q)), decide_eq_false w]
    rfl
def ySg (k : Nat) : Nat := if k = 16 then 59 else if k = 17 then 40 else 41
theorem cSig (hd : 1 ≤ d) (hB : ∀ k, k < n → B k < 256) {s : yTkS} (h : cAt B n I s) {q : Nat} (hq : 16 ≤ q ∧ q ≤ 18) : zCd zT d 91 [.ref 17, .int (zi (ySg q : Int))] (zm L I J r) = some (some (.int (zb1 (yIsK B n s q))), (zm L I J r)) := by
  have k := cKd h 3 (by decide)
  have ck := yCk_i (yK_b (B := B) (n := n) (p := s.2))
  have k2 : I 17 8 = 3 ↔ (s.1 = 0 ∧ 16 ≤ yK B n s.2 ∧ yK B n s.2 ≤ 18) := k.trans (by rw [ck.2.2.2])
  rw [sX8_isSign hd]
  unfold yIsK
  by_cases w : s.1 = 0 ∧ 16 ≤ yK B n s.2 ∧ yK B n s.2 ≤ 18
  · obtain ⟨a1, a2, a3, a6, a7, a8, a9, a10⟩ := h.2.1 w.1
    have sb := yS_p (B := B) a1
    rw [if_pos (k2.mpr w), a8]
    have kc := yKs_c (B := B) sb.2.1
    have ke : yKs B n (yS B n s.2) = yK B n s.2 := rfl
    rw [ke] at kc
    have c4 : yS B n s.2 < n ∧ (yK B n s.2 = 16 ∧ B (yS B n s.2) = 59 ∨ yK B n s.2 = 17 ∧ B (yS B n s.2) = 40 ∨ yK B n s.2 = 18 ∧ B (yS B n s.2) = 41) ∧ yCv B n (yS B n s.2) = B (yS B n s.2) := by
      rcases kc with c | c | c | c | c
      · omega
      · omega
      · omega
      · exact c
      · omega
    have b256 := hB _ c4.1
    have sg : ySg q < 256 := by
      unfold ySg
      repeat' split
      all_goals decide
    rw [c4.2.2]
    have iff1 : zi (B (yS B n s.2) : Int) = zi (ySg q : Int) ↔ (s.1 = 0 ∧ yK B n s.2 = q) := by
      rw [yEq (by omega) (by omega)]
      unfold ySg
      obtain rfl | rfl | rfl : q = 16 ∨ q = 17 ∨ q = 18 := by omega
      · rw [if_pos rfl]; omega
      · rw [if_neg (by decide), if_pos rfl]; omega
      · rw [if_neg (by decide), if_neg (by decide)]; omega
    by_cases g : s.1 = 0 ∧ yK B n s.2 = q
    · rw [if_pos (iff1.mpr g), decide_eq_true g]
      rfl
    · rw [if_neg (fun z => g (iff1.mp z)), decide_eq_false g]
      rfl
  · rw [if_neg (fun z => w (k2.mp z)), decide_eq_false (fun z => w ⟨z.1, by omega, by omega⟩)]
    rfl
theorem cWrd (hd : 7 ≤ d) (hn : n ≤ 400) (hB : ∀ k, k < n → B k < 256) {s : yTkS} (h : cAt B n I s) {q : Nat} (hq : q < 14) : zCd zT d 92 [.ref 17, .ref (yWn q)] (zm L I J r) = some (some (.int (zb1 (yIsK B n s q))), (zm L I J r)) := by
  obtain ⟨e, rfl⟩ : ∃ e, d = e + 1 := ⟨d - 1, by omega⟩
  obtain ⟨j, hj, ej, wj⟩ : ∃ j, j < 15 ∧ yWn q = 1000 + 2 * j ∧ yStr j = yWq q := by
    have key : ∀ q : Fin 14, (if q.1 < 10 then q.1 else 23 - q.1) < 15 ∧ yWn q.1 = 1000 + 2 * (if q.1 < 10 then q.1 else 23 - q.1) ∧ yStr (if q.1 < 10 then q.1 else 23 - q.1) = yWq q.1 := by decide +kernel
    exact ⟨_, key ⟨q, hq⟩⟩
  have sl := yStr_l hj
  have k := cKd h 1 (by decide)
  have ck := yCk_i (yK_b (B := B) (n := n) (p := s.2))
  have k2 : I 17 8 = 1 ↔ (s.1 = 0 ∧ yK B n s.2 < 15) := k.trans (by rw [ck.2.1])
  rw [ej, qX8_isWord sl.2.1, eX8_isWord_0 sl.2.1]
  unfold yIsK
  by_cases w : s.1 = 0 ∧ yK B n s.2 < 15
  · obtain ⟨a1, a2, a3, a6, a7, a8, a9, a10⟩ := h.2.1 w.1
    have sb := yS_p (B := B) a1
    have kc := yKs_c (B := B) sb.2.1
    have ke : yKs B n (yS B n s.2) = yK B n s.2 := rfl
    rw [ke] at kc
    have c4 : yS B n s.2 < n ∧ yK B n s.2 = yKy (yWd B (yS B n s.2) (yEl B n (yS B n s.2) - yS B n s.2)) ∧ yK B n s.2 ≤ 14 ∧ yCv B n (yS B n s.2) = yEl B n (yS B n s.2) - yS B n s.2 ∧ yEl B n (yS B n s.2) ≤ n ∧ yS B n s.2 < yEl B n (yS B n s.2) := by
      rcases kc with c | c | c | c | c
      · omega
      · exact c
      · omega
      · omega
      · omega
    have ki : (s.1 = 0 ∧ yK B n s.2 = q) ↔ yStr j = yWd B (yS B n s.2) (yEl B n (yS B n s.2) - yS B n s.2) := by
      rw [c4.2.1, yKy_i hq, wj]
      exact ⟨fun z => z.2, fun z => ⟨w.1, z⟩⟩
    rw [if_pos (k2.mpr w), yLen (by omega) hj, zbI_s, eX8_isWord_1 sl.2.1, a8, c4.2.2.2.1]
    by_cases g : (yStr j).length = yEl B n (yS B n s.2) - yS B n s.2
    · rw [if_pos (show zi ((yEl B n (yS B n s.2) - yS B n s.2 : Nat) : Int) = zi (((yStr j).length : Nat) : Int) by rw [g]), eX8_isWord_3 sl.2.1]
      have T := zForT (n := (yStr j).length) (stop := fun i => !decide (B (yS B n s.2 + i) = yCh j i)) (G := fun i => zX 3 (zCd zT e) zc_X8_isWord 4 [some (.ref 17), some (.ref (1000 + 2 * j)), some (.int (zi ((i : Nat) : Int)))] [] (zm L I J r)) (E := fun _ => some (some (.int 0), (zm L I J r))) (fun i hi => by
        have bb := hB (yS B n s.2 + i) (by omega)
        have cb := (yCh_b (j := j) (i := i) hj).1
        rw [eX8_isWord_4 sl.2.1, yLen (by omega) hj, zbI_s, eX8_isWord_5 sl.2.1, if_neg (show ¬ zi (((yStr j).length : Nat) : Int) ≤ zi (i : Int) by rw [yLe (by omega) (by omega)]; omega), a7, show zi (yS B n s.2 : Int) + zi (i : Int) = zi ((yS B n s.2 + i : Nat) : Int) from zi_add _ _, cBy (by omega) hn (by omega) h.1.2.1, zbI_s, eX8_isWord_6 sl.2.1, yChr (by omega) hj hi, zbI_s, eX8_isWord_7 sl.2.1]
        by_cases z : B (yS B n s.2 + i) = yCh j i
        · rw [if_pos (show zi (B (yS B n s.2 + i) : Int) = zi (yCh j i : Int) by rw [z]), decide_eq_true z, if_neg (show ¬ (!true) = true by decide), eX8_isWord_8 sl.2.1, yZ1]
        · rw [if_neg (show ¬ zi (B (yS B n s.2 + i) : Int) = zi (yCh j i : Int) by rw [yEq (by omega) (by omega)]; exact z), decide_eq_false z, if_pos (show (!false) = true by decide)])
      refine (show _ = _ from T).trans ?_
      by_cases z : zFs (fun i => !decide (B (yS B n s.2 + i) = yCh j i)) (yStr j).length < (yStr j).length
      · have s1 := zFs_s z
        rw [if_pos z, decide_eq_false (fun c => by
          have c2 := (yWd_i.mp (ki.mp c)).2 (zFs (fun i => !decide (B (yS B n s.2 + i) = yCh j i)) (yStr j).length) (by omega)
          have c3 : B (yS B n s.2 + zFs (fun i => !decide (B (yS B n s.2 + i) = yCh j i)) (yStr j).length) = yCh j (zFs (fun i => !decide (B (yS B n s.2 + i) = yCh j i)) (yStr j).length) := c2.symm
          rw [decide_eq_true c3] at s1
          cases s1)]
        rfl
      · rw [if_neg z, decide_eq_true (ki.mpr (yWd_i.mpr ⟨g, fun i hi => by
          have c := zFs_n (stop := fun i => !decide (B (yS B n s.2 + i) = yCh j i)) (n := (yStr j).length) (j := i) (by
            have := zFs_le (stop := fun i => !decide (B (yS B n s.2 + i) = yCh j i)) (n := (yStr j).length)
            omega)
          by_cases y : B (yS B n s.2 + i) = yCh j i
          · exact y.symm
          · rw [decide_eq_false y] at c
            cases c⟩)), eX8_isWord_4 sl.2.1, yLen (by omega) hj, zbI_s, eX8_isWord_5 sl.2.1, if_pos (show zi (((yStr j).length : Nat) : Int) ≤ zi (((yStr j).length : Nat) : Int) by rw [yLe (by omega) (by omega)]; omega), eX8_isWord_9 sl.2.1]
        rfl
    · rw [if_neg (show ¬ zi ((yEl B n (yS B n s.2) - yS B n s.2 : Nat) : Int) = zi (((yStr j).length : Nat) : Int) by rw [yEq (by omega) (by omega)]; exact fun z => g z.symm), eX8_isWord_2 sl.2.1, decide_eq_false (fun z => g (yWd_i.mp (ki.mp z)).1)]
      rfl
  · rw [if_neg (fun z => w (k2.mp z)), eX8_isWord_2 sl.2.1, decide_eq_false (fun z => w ⟨z.1, by omega⟩)]
    rfl
theorem cTkW (hd : 8 ≤ d) (hn : n ≤ 400) (hB : ∀ k, k < n → B k < 256) {s : yTkS} (h : cAt B n I s) {q : Nat} (hq : q < 14) : ∃ I', zCd zT d 94 [.ref 17, .ref (yWn q)] (zm L I J r) = some (none, (zm L I' J r)) ∧ cAt B n I' (yNd B n s q) ∧ cFt I I' := by
  obtain ⟨e, rfl⟩ : ∃ e, d = e + 1 := ⟨d - 1, by omega⟩
  have hw : yWn q ∈ zTxts := by
    have key : ∀ q : Fin 14, yWn q.1 ∈ zTxts := by decide +kernel
    exact key ⟨q, hq⟩
  rw [qX8_takeWord hw, eX8_takeWord_0 hw, cWrd (by omega) hn hB h hq, zbI_s, eX8_takeWord_1 hw]
  unfold yNd
  cases g : yIsK B n s q
  · obtain ⟨I', c1, c2, c3⟩ := cFail (d := e) (L := L) (J := J) (r := r) (by omega) hn h (f := 2) (by omega)
    have c1' : zCd zT e 93 [.ref 17, .int 2] (zm L I J r) = some (none, (zm L I' J r)) := c1
    rw [if_pos (show zb1 false = 0 by decide), eX8_takeWord_3 hw, c1', zbV_s, eX8_takeWord_4 hw, if_neg (by decide)]
    exact ⟨I', rfl, c2, c3⟩
  · have g2 := of_decide_eq_true (show decide _ = true from g)
    obtain ⟨I', c1, c2, c3⟩ := cAdv (d := e) (L := L) (J := J) (r := r) (by omega) hn h g2.1 (by omega)
    rw [if_neg (show ¬ zb1 true = 0 by decide), c1, zbV_s, eX8_takeWord_2 hw, eX8_takeWord_4 hw, if_pos rfl]
    exact ⟨I', rfl, c2, c3⟩
theorem cTkS (hd : 2 ≤ d) (hn : n ≤ 400) (hB : ∀ k, k < n → B k < 256) {s : yTkS} (h : cAt B n I s) {q : Nat} (hq : 16 ≤ q ∧ q ≤ 18) : ∃ I', zCd zT d 95 [.ref 17, .int (zi (ySg q : Int))] (zm L I J r) = some (none, (zm L I' J r)) ∧ cAt B n I' (yNd B n s q) ∧ cFt I I' := by
  obtain ⟨e, rfl⟩ : ∃ e, d = e + 1 := ⟨d - 1, by omega⟩
  rw [qX8_takeSign, eX8_takeSign_0, cSig (by omega) hB h hq, zbI_s, eX8_takeSign_1]
  unfold yNd
  cases g : yIsK B n s q
  · obtain ⟨I', c1, c2, c3⟩ := cFail (d := e) (L := L) (J := J) (r := r) (by omega) hn h (f := 2) (by omega)
    have c1' : zCd zT e 93 [.ref 17, .int 2] (zm L I J r) = some (none, (zm L I' J r)) := c1
    rw [if_pos (show zb1 false = 0 by decide), eX8_takeSign_3, c1', zbV_s, eX8_takeSign_4, if_neg (by decide)]
    exact ⟨I', rfl, c2, c3⟩
  · have g2 := of_decide_eq_true (show decide _ = true from g)
    obtain ⟨I', c1, c2, c3⟩ := cAdv (d := e) (L := L) (J := J) (r := r) (by omega) hn h g2.1 (by omega)
    rw [if_neg (show ¬ zb1 true = 0 by decide), c1, zbV_s, eX8_takeSign_2, eX8_takeSign_4, if_pos rfl]
    exact ⟨I', rfl, c2, c3⟩
theorem cTkN (hd : 2 ≤ d) (hn : n ≤ 400) {s : yTkS} (h : cAt B n I s) {lo hi : Int} (b1 : -100000 ≤ lo ∧ lo ≤ 100000) (b2 : -100000 ≤ hi ∧ hi ≤ 100000) (room : Bool) : ∃ I', zCd zT d 96 [.ref 17, .int (zi lo), .int (zi hi), .int (zb1 room)] (zm L I J r) = some (some (.int (zi (yRdN B n s lo hi room).2)), (zm L I' J r)) ∧ cAt B n I' (yRdN B n s lo hi room).1 ∧ cFt I I' := by
  obtain ⟨e, rfl⟩ : ∃ e, d = e + 1 := ⟨d - 1, by omega⟩
  rw [qX8_takeNumber, eX8_takeNumber_0, cNum (by omega) h, zbI_s, eX8_takeNumber_1]
  unfold yRdN
  cases g : yIsK B n s 15
  · obtain ⟨I', c1, c2, c3⟩ := cFail (d := e) (L := L) (J := J) (r := r) (by omega) hn h (f := 2) (by omega)
    have c1' : zCd zT e 93 [.ref 17, .int 2] (zm L I J r) = some (none, (zm L I' J r)) := c1
    rw [if_pos (show zb1 false = 0 by decide), c1', zbV_s, eX8_takeNumber_2, if_neg (by decide)]
    exact ⟨I', rfl, c2, c3⟩
  · have g2 := of_decide_eq_true (show decide _ = true from g)
    obtain ⟨a1, a2, a3, a6, a7, a8, a9, a10⟩ := h.2.1 g2.1
    have sb := yS_p (B := B) a1
    have vb := yVs_b (B := B) sb.2.1 g2.2
    have ev : yCv B n (yS B n s.2) = yVl B n s.2 := by
      have kc := yKs_c (B := B) sb.2.1
      have ke : yKs B n (yS B n s.2) = 15 := g2.2
      rw [ke] at kc
      rcases kc with c | c | c | c | c
      · omega
      · omega
      · exact c.2.2
      · omega
      · omega
    have vb2 : yVl B n s.2 ≤ 999 := vb.1
    rw [if_neg (show ¬ zb1 true = 0 by decide), eX8_takeNumber_3, a8, ev, sX11_outside (by omega), zbI_s, eX8_takeNumber_4, if_pos rfl]
    by_cases w : lo ≤ (yVl B n s.2 : Int) ∧ (yVl B n s.2 : Int) ≤ hi
    · rw [if_neg (show ¬ zi (yVl B n s.2 : Int) < zi lo by rw [zi_lt (by omega) (by omega)]; omega), if_pos (show zi (yVl B n s.2 : Int) ≤ zi hi by rw [zi_le (by omega) (by omega)]; omega), if_pos (show (0 : Int32) = 0 from rfl), eX8_takeNumber_6, if_pos w]
      cases room
      · obtain ⟨I', c1, c2, c3⟩ := cFail (d := e) (L := L) (J := J) (r := r) (by omega) hn h (f := 5) (by omega)
        have c1' : zCd zT e 93 [.ref 17, .int 5] (zm L I J r) = some (none, (zm L I' J r)) := c1
        rw [if_pos (show zb1 false = 0 by decide), c1', zbV_s, eX8_takeNumber_7, if_neg (by decide)]
        exact ⟨I', rfl, c2, c3⟩
      · obtain ⟨I', c1, c2, c3⟩ := cAdv (d := e) (L := L) (J := J) (r := r) (by omega) hn h g2.1 (by omega)
        rw [if_neg (show ¬ zb1 true = 0 by decide), eX8_takeNumber_8, c1, zbV_s, eX8_takeNumber_9, a8, ev, if_pos rfl]
        exact ⟨I', rfl, c2, c3⟩
    · obtain ⟨I', c1, c2, c3⟩ := cFail (d := e) (L := L) (J := J) (r := r) (by omega) hn h (f := 3) (by omega)
      have c1' : zCd zT e 93 [.ref 17, .int 3] (zm L I J r) = some (none, (zm L I' J r)) := c1
      have e1 : (if zi (yVl B n s.2 : Int) < zi lo then (1 : Int32) else if zi (yVl B n s.2 : Int) ≤ zi hi then 0 else 1) = 1 := by
        by_cases z : (yVl B n s.2 : Int) < lo
        · rw [if_pos (show zi (yVl B n s.2 : Int) < zi lo by rw [zi_lt (by omega) (by omega)]; omega)]
        · rw [if_neg (show ¬ zi (yVl B n s.2 : Int) < zi lo by rw [zi_lt (by omega) (by omega)]; omega), if_neg (show ¬ zi (yVl B n s.2 : Int) ≤ zi hi by rw [zi_le (by omega) (by omega)]; omega)]
      rw [e1, if_neg (show ¬ (1 : Int32) = 0 by decide), c1', zbV_s, eX8_takeNumber_5, if_neg w]
      exact ⟨I', rfl, c2, c3⟩
/-- the text is taken apart -/
theorem cBegin (hd : 4 ≤ d) (hn : n ≤ 400) (hB : ∀ k, k < n → B k < 256) (hb : ∀ k, k < n → I 18 k = zi (B k : Int)) {T : Nat} (h4 : I 17 4 = zi (T : Int)) (hT : n ≤ T ∧ T ≤ 400) : ∃ I', zCd zT d 80 [.ref 17, .int (zi (n : Int))] (zm L I J r) = some (none, (zm L I' J r)) ∧ cAt B n I' (yTo B n 0) ∧ I' 17 4 = I 17 4 ∧ ∀ o, o ≠ 17 → o ≠ 19 → o ≠ 20 → o ≠ 21 → I' o = I o := by
  obtain ⟨e, rfl⟩ : ∃ e, d = e + 1 := ⟨d - 1, by omega⟩
  have nb := yNn_b (B := B) (n := n)
  obtain ⟨m, c1, c2⟩ := zForI (n := yNn B n + 1) (M := Nat → Nat → Int32) (G := fun i m => zX 2 (zCd zT e) zc_X8_begin 1 [some (.ref 17), some (.int (zi (n : Int))), some (.int (zi (if i ≤ yNn B n then (yPp B n i : Int) else -1))), some (.int (zi ((i : Nat) : Int)))] [] (zm L m J r)) (P := fun i m => m 17 6 = zi (i : Int) ∧ m 17 5 = zi (n : Int) ∧ m 17 4 = I 17 4 ∧ (∀ j, j < i → m 19 j = zi (yCk (yK B n (yPp B n j)) : Int) ∧ m 20 j = zi (yS B n (yPp B n j) : Int) ∧ m 21 j = zi (yCv B n (yS B n (yPp B n j)) : Int)) ∧ ∀ o, o ≠ 17 → o ≠ 19 → o ≠ 20 → o ≠ 21 → m o = I o) (fun i m hi hm => by
    obtain ⟨m6, m5, m4, ma, mo⟩ := hm
    have pb := yPp_b (B := B) (n := n) i
    have sb := yS_p (B := B) pb
    have mb : ∀ k, k < n → m 18 k = zi (B k : Int) := fun k hk => by rw [mo 18 (by decide) (by decide) (by decide) (by decide)]; exact hb k hk
    rw [if_pos (show i ≤ yNn B n by omega), eX8_begin_1, m5, if_neg (show ¬ zi (n : Int) < zi (i : Int) by rw [yLt (by omega) (by omega)]; omega), if_neg (show ¬ zi (yPp B n i : Int) = (-1 : Int32) by rw [show (-1 : Int32) = zi (-1) from rfl, zi_eq (by omega) (by omega)]; omega), cSkip (by omega) hn hB mb m5 pb, zbI_s, eX8_begin_2, cScan (by omega) hn hB mb m5 sb.2.1 (m := i) (by omega) m6, zbI_s, eX8_begin_3, yZ1]
    have nx : yNbe B n (yS B n (yPp B n i)) = if i + 1 ≤ yNn B n then (yPp B n (i + 1) : Int) else -1 := by
      unfold yNbe
      have ke : yKs B n (yS B n (yPp B n i)) = yK B n (yPp B n i) := rfl
      rw [ke]
      by_cases w : i + 1 ≤ yNn B n
      · have := nb.2.2 i (by omega)
        rw [if_neg (by omega), if_pos w]
        rfl
      · rw [if_neg w, if_pos (by rw [show i = yNn B n by omega]; exact nb.2.1)]
    rw [nx]
    refine ⟨_, rfl, zu_y ⟨rfl, rfl⟩, ?_, ?_, fun j hj => ?_, fun o q1 q2 q3 q4 => ?_⟩
    · unfold cPu
      rw [zu_n (by decide), zu_n (by omega), zu_n (by omega), zu_n (by omega), m5]
    · unfold cPu
      rw [zu_n (by decide), zu_n (by omega), zu_n (by omega), zu_n (by omega), m4]
    · unfold cPu
      by_cases w : j = i
      · rw [w]
        refine ⟨?_, ?_, ?_⟩
        · rw [zu_n (by omega), zu_n (by omega), zu_n (by omega), zu_y ⟨rfl, rfl⟩]
          rfl
        · rw [zu_n (by omega), zu_n (by omega), zu_y ⟨rfl, rfl⟩]
        · rw [zu_n (by omega), zu_y ⟨rfl, rfl⟩]
      · obtain ⟨g1, g2, g3⟩ := ma j (by omega)
        refine ⟨?_, ?_, ?_⟩
        · rw [zu_n (by omega), zu_n (by omega), zu_n (by omega), zu_n (by omega)]
          exact g1
        · rw [zu_n (by omega), zu_n (by omega), zu_n (by omega), zu_n (by omega)]
          exact g2
        · rw [zu_n (by omega), zu_n (by omega), zu_n (by omega), zu_n (by omega)]
          exact g3
    · unfold cPu
      rw [zu_o q1, zu_o q4, zu_o q3, zu_o q2]
      exact mo o q1 q2 q3 q4) (zu (zu I 17 5 (zi (n : Int))) 17 6 0) ⟨zu_y ⟨rfl, rfl⟩, by rw [zu_n (by decide), zu_y ⟨rfl, rfl⟩], by rw [zu_n (by decide), zu_n (by decide)], fun j hj => absurd hj (Nat.not_lt_zero j), fun o q1 _ _ _ => by rw [zu_o q1, zu_o q1]⟩
  obtain ⟨m6, m5, m4, ma, mo⟩ := c2
  have l0 : (if (0 : Int32) < (if I 17 4 < zi (n : Int) then I 17 4 else zi (n : Int)) then (if I 17 4 < zi (n : Int) then I 17 4 else zi (n : Int)) else (0 : Int32)) = zi (n : Int) := by
    rw [h4, if_neg (show ¬ zi (T : Int) < zi (n : Int) by rw [yLt (by omega) (by omega)]; omega)]
    by_cases w : 0 < n
    · rw [if_pos (show (0 : Int32) < zi (n : Int) by rw [show (0 : Int32) = zi ((0 : Nat) : Int) from rfl, yLt (by omega) (by omega)]; omega)]
    · rw [if_neg (show ¬ (0 : Int32) < zi (n : Int) by rw [show (0 : Int32) = zi ((0 : Nat) : Int) from rfl, yLt (by omega) (by omega)]; omega), show n = 0 by omega]
      rfl
  have z0 : zX 2 (zCd zT e) zc_X8_begin 1 [some (.ref 17), some (.int (zi (n : Int))), some (.int 0), some (.int 0)] [] (zm L (zu (zu I 17 5 (zi (n : Int))) 17 6 0) J r) = _ := c1
  obtain ⟨I', a1, a2, a3⟩ := cAdv0 (d := e) (L := L) (J := J) (r := r) (I := zu (zu (zu m 17 7 (-1)) 17 11 0) 17 12 (-1)) (B := B) (n := n) (by omega) hn (j := 0) (cTx_fr (I := m) (by rw [zu_n (by decide), zu_n (by decide), zu_n (by decide)]) (fun o q1 q2 => by rw [zu_o (by omega), zu_o (by omega), zu_o (by omega)]) ⟨m6, fun k hk => by rw [mo 18 (by decide) (by decide) (by decide) (by decide)]; exact hb k hk, fun j hj => ma j (by omega)⟩) (Nat.zero_le _) (by rw [zu_n (by decide), zu_n (by decide), zu_y ⟨rfl, rfl⟩]; rfl) (by rw [zu_n (by decide), zu_y ⟨rfl, rfl⟩]) (by rw [zu_y ⟨rfl, rfl⟩])
  have b4 : zX 2 (zCd zT e) zc_X8_begin 4 [some (.ref 17), some (.int (zi (n : Int))), some (.int (zi (-1))), some (.int (zi ((yNn B n + 1 : Nat) : Int)))] [] (zm L m J r) = some (none, (zm L I' J r)) := by
    rw [eX8_begin_4, a1, zbV_s, eX8_begin_5]
  refine ⟨I', ?_, a2, ?_, fun o q1 q2 q3 q4 => ?_⟩
  · rw [qX8_begin, eX8_begin_0, l0, z0, if_neg (show ¬ yNn B n + 1 ≤ yNn B n by omega), eX8_begin_1]
    by_cases w : m 17 5 < zi ((yNn B n + 1 : Nat) : Int)
    · rw [if_pos w, b4]
    · rw [if_neg w, if_pos (show zi (-1) = (-1 : Int32) from rfl), b4]
  · rw [a3 17 4 (by omega), zu_n (by decide), zu_n (by decide), zu_n (by decide), m4]
  · rw [cFt_o a3 q1, zu_o q1, zu_o q1, zu_o q1]
    exact mo o q1 q2 q3 q4
end
