/-! WALKS -/
def yWb (t : zDy) (p q : Nat) : Int := (if (q : Int) ≤ p then (p : Int) - q else (q : Int) - p) + (if 0 ≤ t.h p - t.h q then t.h p - t.h q else t.h q - t.h p) / 5
def yLw (t : zDy) (b : yTb) (p : Nat) (m : Int) : Nat → Int
  | 0 => if m = -1 then -1 else yWb t p m.toNat
  | k + 1 => if yLw t b p m k = -1 ∨ yWb t p (b.2 k 0).toNat < yLw t b p m k then yWb t p (b.2 k 0).toNat else yLw t b p m k
def yNr (t : zDy) (b : yTb) (p : Nat) (least : Int) : Nat → Int
  | 0 => -1
  | k + 1 => if (yNr t b p least k = -1 ∨ b.2 k 0 < yNr t b p least k) ∧ yWb t p (b.2 k 0).toNat = least then b.2 k 0 else yNr t b p least k
def yGw (t : zDy) (b : yTb) (m : Int) : Nat → Int
  | 0 => -1
  | k + 1 => if yGw t b m k < yLw t b k m b.1 then yLw t b k m b.1 else yGw t b m k
def yBs (t : zDy) (b : yTb) : Nat → Nat × Int
  | 0 => (0, yGw t b 0 t.n)
  | k + 1 => if yGw t b ((k + 1 : Nat) : Int) t.n < (yBs t b k).2 then (k + 1, yGw t b ((k + 1 : Nat) : Int) t.n) else yBs t b k
theorem yWb_b {t : zDy} (hw : wTr t) {p q : Nat} (hp : p < t.n) (hq : q < t.n) : 0 ≤ yWb t p q ∧ yWb t p q ≤ 100 := by
  have h1 := hw.1
  have h2 := hw.2.1 p hp
  have h3 := hw.2.1 q hq
  unfold yWb
  split <;> split <;> omega
theorem yLw_b {t : zDy} (hw : wTr t) {b : yTb} {p : Nat} {m : Int} (hp : p < t.n) (hb : ∀ k, k < b.1 → 0 ≤ b.2 k 0 ∧ b.2 k 0 ≤ (t.n : Int) - 1) (hm : -1 ≤ m ∧ m < t.n) : ∀ k, k ≤ b.1 → -1 ≤ yLw t b p m k ∧ yLw t b p m k ≤ 100 := by
  intro k
  induction k with
  | zero =>
    intro _
    rw [yLw]
    by_cases q : m = -1
    · rw [if_pos q]
      omega
    · rw [if_neg q]
      have := yWb_b hw hp (show m.toNat < t.n by omega)
      omega
  | succ k ih =>
    intro hk
    have h1 := hb k (by omega)
    have h2 := ih (by omega)
    have h3 := yWb_b hw hp (show (b.2 k 0).toNat < t.n by omega)
    rw [yLw]
    split <;> omega
theorem yNr_b {t : zDy} {b : yTb} {p : Nat} {l : Int} (hb : ∀ k, k < b.1 → 0 ≤ b.2 k 0 ∧ b.2 k 0 ≤ (t.n : Int) - 1) : ∀ k, k ≤ b.1 → -1 ≤ yNr t b p l k ∧ yNr t b p l k ≤ t.n := by
  intro k
  induction k with
  | zero => intro _; rw [yNr]; omega
  | succ k ih =>
    intro hk
    have h1 := hb k (by omega)
    have h2 := ih (by omega)
    rw [yNr]
    split <;> omega
theorem yGw_b {t : zDy} (hw : wTr t) {b : yTb} {m : Int} (hb : ∀ k, k < b.1 → 0 ≤ b.2 k 0 ∧ b.2 k 0 ≤ (t.n : Int) - 1) (hm : -1 ≤ m ∧ m < t.n) : ∀ k, k ≤ t.n → -1 ≤ yGw t b m k ∧ yGw t b m k ≤ 100 := by
  intro k
  induction k with
  | zero => intro _; rw [yGw]; omega
  | succ k ih =>
    intro hk
    have h2 := ih (by omega)
    have h3 := yLw_b hw (show k < t.n by omega) hb hm b.1 (Nat.le_refl _)
    rw [yGw]
    split <;> omega
theorem yBs_b {t : zDy} (hw : wTr t) {b : yTb} (hb : ∀ k, k < b.1 → 0 ≤ b.2 k 0 ∧ b.2 k 0 ≤ (t.n : Int) - 1) : ∀ k, k < t.n → (yBs t b k).1 < t.n ∧ -1 ≤ (yBs t b k).2 ∧ (yBs t b k).2 ≤ 100 := by
  intro k
  induction k with
  | zero =>
    intro hk
    have h3 := yGw_b hw hb (m := 0) (by omega) t.n (Nat.le_refl _)
    rw [yBs]
    exact ⟨hk, h3.1, h3.2⟩
  | succ k ih =>
    intro hk
    have h2 := ih (by omega)
    have h3 := yGw_b hw hb (m := ((k + 1 : Nat) : Int)) (by omega) t.n (Nat.le_refl _)
    rw [yBs]
    split
    · exact ⟨hk, h3.1, h3.2⟩
    · exact h2
section
variable {d L r : Nat} {I : Nat → Nat → Int32} {J : Nat → Nat → Int64}
variable {t : zDy}
theorem cWb (hd : 2 ≤ d) (h : zTI I J t) {p q : Nat} (hp : p < t.n) (hq : q < t.n) : zCd zT d 127 [.ref 32, .int (zi (p : Int)), .int (zi (q : Int))] (zm L I J r) = some (some (.int (zi (yWb t p q))), (zm L I J r)) := by
  obtain ⟨e, rfl⟩ : ∃ e, d = e + 1 := ⟨d - 1, by omega⟩
  have hT := zTI_c h
  have hn := h.2.2.1.1
  have h2 := h.2.2.1.2.1 p hp
  have h3 := h.2.2.1.2.1 q hq
  rw [qX9_walkBetween, eX9_walkBetween_0, cHeight (by omega) hT hp, zbI_s, eX9_walkBetween_1, cHeight (by omega) hT hq, zbI_s, eX9_walkBetween_2]
  unfold yWb
  by_cases c1 : (q : Int) ≤ p <;> by_cases c2 : 0 ≤ t.h p - t.h q
  all_goals
    simp (disch := omega) only [zi_lit, zi_sub, zi_le, if_pos, if_neg, zi_div, zi_add]
    try exact congrArg (fun x => some (some (Value.int (zi x)), zm L I J r)) (by omega)
theorem mWb (hd : 1 ≤ d) (h : zTI I J t) {p q : Nat} (hp : p < t.n) (hq : q < t.n) : zCd zT d 318 [.ref 130, .int (zi (p : Int)), .int (zi (q : Int))] (zm L I J r) = some (some (.int (zi (yWb t p q))), (zm L I J r)) := by
  have hT := zTI_m h
  have hn := h.2.2.1.1
  have h2 := h.2.2.1.2.1 p hp
  have h3 := h.2.2.1.2.1 q hq
  have g2 := (hT.2.2.1 p hp).1
  have g3 := (hT.2.2.1 q hq).1
  rw [sX12_walkTo hd]
  unfold yWb
  have a1 : (1 : Int32) + zi (p : Int) = zi ((1 + p : Nat) : Int) := zi_add 1 _
  have a2 : (1 : Int32) + zi (q : Int) = zi ((1 + q : Nat) : Int) := zi_add 1 _
  rw [a1, a2, zin_t (by omega) (by omega), zin_t (by omega) (by omega), zi_cl (by omega), zi_cl (by omega), Int.toNat_natCast, Int.toNat_natCast, g2, g3]
  by_cases c1 : (q : Int) ≤ p <;> by_cases c2 : 0 ≤ t.h p - t.h q
  all_goals
    simp (disch := omega) only [zi_lit, zi_sub, zi_neg, zi_le, if_pos, if_neg, zi_div, zi_add, zgd_t]
    try exact congrArg (fun x => some (some (Value.int (zi x)), zm L I J r)) (by omega)
theorem cLw (hd : 3 ≤ d) (h : zTI I J t) {b : yTb} {n m c : Nat} (hb : cTb 41 1 I b) (hw : wTb t.n m c 1 b) {p : Nat} (hp : p < t.n) {mo : Int} (hm : -1 ≤ mo ∧ mo < t.n) : zCd zT d 167 [.ref 16, .int (zi (p : Int)), .int (zi mo)] (zm L I J r) = some (some (.int (zi (yLw t b p mo b.1))), (zm L I J r)) := by
  obtain ⟨e, rfl⟩ : ∃ e, d = e + 1 := ⟨d - 1, by omega⟩
  have hn := h.2.2.1.1
  have hb6 : b.1 ≤ 6 := hw.1
  have hbb : ∀ k, k < b.1 → 0 ≤ b.2 k 0 ∧ b.2 k 0 ≤ (t.n : Int) - 1 := fun k hk => hw.2 k 0 hk (by decide)
  have c1 := zFor (n := b.1) (G := fun k => zX 0 (zCd zT e) zc_X11_leastWalk 3 [some (.ref 16), some (.int (zi (p : Int))), some (.int (zi mo)), some (.int (zi (yLw t b p mo k))), some (.int (zi ((k : Nat) : Int))), none] [] (zm L I J r)) (fun k hk => by
    have g0 : zCd zT e 68 [.ref 41, .int (zi (k : Int)), .int 0] (zm L I J r) = some (some (.int (zi (b.2 k 0))), (zm L I J r)) := cGetO (by omega) (o := 41) (q := 1) rfl (by decide) hb hw.1 (k := (k : Int)) (f := 0) (by omega) (by decide)
    have w0 := hbb k hk
    have e0 : zi (b.2 k 0) = zi (((b.2 k 0).toNat : Nat) : Int) := congrArg zi (by omega)
    have k2 : zi ((k : Nat) : Int) + (1 : Int32) = zi ((k + 1 : Nat) : Int) := zi_add _ 1
    have w1 := yWb_b h.2.2.1 hp (show (b.2 k 0).toNat < t.n by omega)
    have w2 := yLw_b h.2.2.1 hp hbb hm k (by omega)
    rw [eX11_leastWalk_3, cTSize (by omega) (by decide) hb, zbI_s, eX11_leastWalk_4, if_neg (show ¬ zi (b.1 : Int) ≤ zi ((k : Nat) : Int) by rw [zi_le (by omega) (by omega)]; omega), g0, zbI_s, eX11_leastWalk_5, e0, cWb (by omega) h hp (show (b.2 k 0).toNat < t.n by omega), zbI_s, eX11_leastWalk_6, eX11_leastWalk_7, eX11_leastWalk_8, eX11_leastWalk_8, k2, yLw]
    simp only [zi_m1 (show -2147483648 ≤ yLw t b p mo k ∧ yLw t b p mo k < 2147483648 by omega), zi_le (show -2147483648 ≤ yLw t b p mo k ∧ yLw t b p mo k < 2147483648 by omega) (show -2147483648 ≤ yWb t p (b.2 k 0).toNat ∧ yWb t p (b.2 k 0).toNat < 2147483648 by omega)]
    by_cases q1 : yLw t b p mo k = -1
    · rw [if_pos q1, if_pos (Or.inl q1)]
    · rw [if_neg q1]
      by_cases q2 : yLw t b p mo k ≤ yWb t p (b.2 k 0).toNat
      · rw [if_pos q2, if_neg (by omega)]
      · rw [if_neg q2, if_pos (Or.inr (by omega))])
  have z0 : zX 0 (zCd zT e) zc_X11_leastWalk 3 [some (.ref 16), some (.int (zi (p : Int))), some (.int (zi mo)), some (.int (zi (yLw t b p mo 0))), some (.int 0), none] [] (zm L I J r) = _ := c1
  have e1 : zi mo = -1 ↔ mo = -1 := zi_m1 (by omega)
  have tail : zX 0 (zCd zT e) zc_X11_leastWalk 2 [some (.ref 16), some (.int (zi (p : Int))), some (.int (zi mo)), none, none, none] [.int (zi (yLw t b p mo 0))] (zm L I J r) = some (some (.int (zi (yLw t b p mo b.1))), (zm L I J r)) := by
    rw [eX11_leastWalk_2, z0, eX11_leastWalk_3, cTSize (by omega) (by decide) hb, zbI_s, eX11_leastWalk_4, if_pos (Int32.le_refl _), eX11_leastWalk_9]
  rw [qX11_leastWalk, eX11_leastWalk_0]
  rw [yLw] at tail
  by_cases q : mo = -1
  · rw [if_pos (e1.mpr q)]
    rw [if_pos q] at tail
    exact tail
  · have e0 : zi mo = zi ((mo.toNat : Nat) : Int) := congrArg zi (by omega)
    rw [if_neg (fun w => q (e1.mp w)), eX11_leastWalk_1]
    rw [if_neg q] at tail
    rw [e0] at tail ⊢
    rw [cWb (by omega) h hp (show mo.toNat < t.n by omega), zbI_s]
    exact tail
theorem mLw (hd : 2 ≤ d) (h : zTI I J t) {b : yTb} {m c : Nat} (hb : mTb 1 (I 131) b) (hw : wTb t.n m c 1 b) {p : Nat} (hp : p < t.n) {mo : Int} (hm : -1 ≤ mo ∧ mo < t.n) : zCd zT d 319 [.ref 130, .int (zi (p : Int)), .int (zi mo)] (zm L I J r) = some (some (.int (zi (yLw t b p mo b.1))), (zm L I J r)) := by
  obtain ⟨e, rfl⟩ : ∃ e, d = e + 1 := ⟨d - 1, by omega⟩
  have hn := h.2.2.1.1
  have hb6 : b.1 ≤ 6 := hw.1
  have en : I 131 667 = zi b.1 := hb.1
  have hbb : ∀ k, k < b.1 → 0 ≤ b.2 k 0 ∧ b.2 k 0 ≤ (t.n : Int) - 1 := fun k hk => hw.2 k 0 hk (by decide)
  have c1 := zFor (n := b.1) (G := fun k => zX 0 (zCd zT e) zc_X12_walkOf 3 [some (.ref 130), some (.int (zi (p : Int))), some (.int (zi mo)), some (.int (zi (yLw t b p mo k))), some (.int (zi ((k : Nat) : Int))), none] [] (zm L I J r)) (fun k hk => by
    have g0 : I 131 (668 + k) = zi (b.2 k 0) := hb.2 k 0 hk (by decide)
    have a0 : (668 : Int32) + zi ((k : Nat) : Int) = zi ((668 + k : Nat) : Int) := zi_add 668 _
    have w0 := hbb k hk
    have e0 : zi (b.2 k 0) = zi (((b.2 k 0).toNat : Nat) : Int) := congrArg zi (by omega)
    have k2 : zi ((k : Nat) : Int) + (1 : Int32) = zi ((k + 1 : Nat) : Int) := zi_add _ 1
    have w1 := yWb_b h.2.2.1 hp (show (b.2 k 0).toNat < t.n by omega)
    have w2 := yLw_b h.2.2.1 hp hbb hm k (by omega)
    rw [eX12_walkOf_3, en, if_neg (show ¬ zi (b.1 : Int) ≤ zi ((k : Nat) : Int) by rw [zi_le (by omega) (by omega)]; omega), a0, zin_t (by omega) (by omega), zgd_t, zi_cl (by omega), Int.toNat_natCast, g0, e0, mWb (by omega) h hp (show (b.2 k 0).toNat < t.n by omega), zbI_s, eX12_walkOf_4, eX12_walkOf_5, eX12_walkOf_6, eX12_walkOf_7, eX12_walkOf_7, k2, yLw]
    simp only [zi_m1 (show -2147483648 ≤ yLw t b p mo k ∧ yLw t b p mo k < 2147483648 by omega), zi_le (show -2147483648 ≤ yLw t b p mo k ∧ yLw t b p mo k < 2147483648 by omega) (show -2147483648 ≤ yWb t p (b.2 k 0).toNat ∧ yWb t p (b.2 k 0).toNat < 2147483648 by omega)]
    by_cases q1 : yLw t b p mo k = -1
    · rw [if_pos q1, if_pos (Or.inl q1)]
    · rw [if_neg q1]
      by_cases q2 : yLw t b p mo k ≤ yWb t p (b.2 k 0).toNat
      · rw [if_pos q2, if_neg (by omega)]
      · rw [if_neg q2, if_pos (Or.inr (by omega))])
  have z0 : zX 0 (zCd zT e) zc_X12_walkOf 3 [some (.ref 130), some (.int (zi (p : Int))), some (.int (zi mo)), some (.int (zi (yLw t b p mo 0))), some (.int 0), none] [] (zm L I J r) = _ := c1
  have e1 : zi mo = -1 ↔ mo = -1 := zi_m1 (by omega)
  have tail : zX 0 (zCd zT e) zc_X12_walkOf 2 [some (.ref 130), some (.int (zi (p : Int))), some (.int (zi mo)), none, none, none] [.int (zi (yLw t b p mo 0))] (zm L I J r) = some (some (.int (zi (yLw t b p mo b.1))), (zm L I J r)) := by
    rw [eX12_walkOf_2, z0, eX12_walkOf_3, en, if_pos (Int32.le_refl _), eX12_walkOf_8]
  rw [qX12_walkOf, eX12_walkOf_0]
  rw [yLw] at tail
  by_cases q : mo = -1
  · rw [if_pos (e1.mpr q)]
    rw [if_pos q] at tail
    exact tail
  · have e0 : zi mo = zi ((mo.toNat : Nat) : Int) := congrArg zi (by omega)
    rw [if_neg (fun w => q (e1.mp w)), eX12_walkOf_1]
    rw [if_neg q] at tail
    rw [e0] at tail ⊢
    rw [mWb (by omega) h hp (show mo.toNat < t.n by omega), zbI_s]
    exact tail
end
