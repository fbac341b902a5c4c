/-! CREW: who is on duty -/
def yOn (b : yTb) (h : Int) (k : Nat) : Prop := b.2 k 1 ≤ h ∧ h ≤ b.2 k 2
def yDu (b : yTb) (h : Int) : Nat → Nat
  | 0 => 0
  | k + 1 => if b.2 k 1 ≤ h ∧ h ≤ b.2 k 2 then yDu b h k ||| 2 ^ k else yDu b h k
theorem yDu_b {b : yTb} {h : Int} : ∀ k, yDu b h k < 2 ^ k := by
  intro k
  induction k with
  | zero => exact Nat.one_pos
  | succ k ih =>
    have hp : 2 ^ k < 2 ^ (k + 1) := Nat.pow_lt_pow_succ (by decide)
    rw [yDu]
    split
    · exact Nat.or_lt_two_pow (by omega) hp
    · omega
theorem yDu_t {b : yTb} {h : Int} {j : Nat} : ∀ k, (yDu b h k).testBit j = true ↔ j < k ∧ yOn b h j := by
  intro k
  induction k with
  | zero =>
    rw [yDu, Nat.zero_testBit]
    exact ⟨fun w => absurd w (by decide), fun w => absurd w.1 (by omega)⟩
  | succ k ih =>
    rw [yDu]
    by_cases q : b.2 k 1 ≤ h ∧ h ≤ b.2 k 2
    · rw [if_pos q, Nat.testBit_or, Nat.testBit_two_pow, Bool.or_eq_true, ih, decide_eq_true_eq]
      constructor
      · intro w
        rcases w with w | w
        · exact ⟨by omega, w.2⟩
        · subst w
          exact ⟨by omega, q⟩
      · intro w
        by_cases e : j = k
        · exact Or.inr e.symm
        · exact Or.inl ⟨by omega, w.2⟩
    · rw [if_neg q, ih]
      constructor
      · intro w
        exact ⟨by omega, w.2⟩
      · intro w
        by_cases e : j = k
        · subst e
          exact absurd w.2 q
        · exact ⟨by omega, w.2⟩
theorem yDu_s {b : yTb} {h : Int} {s n : Nat} (hs : s < 2 ^ n) : s &&& yDu b h n = s ↔ ∀ j, j < n → s.testBit j = true → yOn b h j := by
  constructor
  · intro e j hj hb
    have : (s &&& yDu b h n).testBit j = true := by rw [e]; exact hb
    rw [Nat.testBit_and, Bool.and_eq_true] at this
    exact ((yDu_t n).mp this.2).2
  · intro e
    refine Nat.eq_of_testBit_eq fun j => ?_
    rw [Nat.testBit_and]
    cases q : s.testBit j
    · rfl
    · by_cases hj : j < n
      · rw [(yDu_t n).mpr ⟨hj, e j hj q⟩]
        rfl
      · rw [Nat.testBit_lt_two_pow (Nat.lt_of_lt_of_le hs (Nat.pow_le_pow_right (by decide) (by omega)))] at q
        cases q
def yCw (b : yTb) (D K : Nat) : Nat → Int
  | 0 => -1
  | s + 1 => if s &&& D = s ∧ yUn b 0 s b.1 &&& K = K ∧ (yCw b D K s = -1 ∨ yPc s 10 < yPc (yCw b D K s).toNat 10) then (s : Int) else yCw b D K s
theorem yCw_b {b : yTb} {D K : Nat} : ∀ s, -1 ≤ yCw b D K s ∧ yCw b D K s < (s : Int) := by
  intro s
  induction s with
  | zero => exact ⟨Int.le_refl _, by show (-1 : Int) < ((0 : Nat) : Int); decide⟩
  | succ s ih =>
    rw [yCw]
    split <;> omega
theorem yCw_x {b : yTb} {D K : Nat} : ∀ N, D + 1 ≤ N → yCw b D K N = yCw b D K (D + 1) := by
  intro N hN
  induction N with
  | zero => omega
  | succ N ih =>
    by_cases q : D + 1 = N + 1
    · rw [q]
    · have hle : N &&& D ≤ D := Nat.and_le_right
      rw [yCw, if_neg (fun w => by omega), ih (by omega)]
theorem yW7 {n m c : Nat} {b : yTb} (hw : wTb n m c 7 b) : b.1 ≤ 8 ∧ (∀ k, k < b.1 → 0 ≤ b.2 k 0 ∧ b.2 k 0 < ((2 ^ 6 : Nat) : Int)) ∧ ∀ k, k < b.1 → (0 ≤ b.2 k 1 ∧ b.2 k 1 ≤ 23) ∧ 0 ≤ b.2 k 2 ∧ b.2 k 2 ≤ 23 := by
  refine ⟨hw.1, fun k hk => ?_, fun k hk => ?_⟩
  · have a0 : 0 ≤ b.2 k 0 ∧ b.2 k 0 ≤ 63 := hw.2 k 0 hk (by decide)
    exact ⟨a0.1, by have : ((2 ^ 6 : Nat) : Int) = 64 := rfl; omega⟩
  · have a1 : 0 ≤ b.2 k 1 ∧ b.2 k 1 ≤ 23 := hw.2 k 1 hk (by decide)
    have a2 : 0 ≤ b.2 k 2 ∧ b.2 k 2 ≤ 23 := hw.2 k 2 hk (by decide)
    exact ⟨a1, a2⟩
section
variable {d L r : Nat} {I : Nat → Nat → Int32} {J : Nat → Nat → Int64}
theorem cDuty (hd : 3 ≤ d) {b : yTb} {n m c : Nat} (hb : cTb 53 7 I b) (hw : wTb n m c 7 b) {h : Int} (bh : -2147483648 ≤ h ∧ h < 2147483648) : zCd zT d 204 [.ref 16, .int (zi h)] (zm L I J r) = some (some (.int (zi (yDu b h b.1 : Nat))), (zm L I J r)) := by
  obtain ⟨e, rfl⟩ : ∃ e, d = e + 1 := ⟨d - 1, by omega⟩
  have w := yW7 hw
  have hsz : zCd zT e 64 [.ref 53] (zm L I J r) = some (some (.int (zi (b.1 : Int))), (zm L I J r)) := cTSize (b := b) (by omega) (by decide) hb
  have c1 := zFor (n := b.1) (G := fun k => zX 0 (zCd zT e) zc_X11_onDuty 1 [some (.ref 16), some (.int (zi h)), some (.ref 53), some (.int (zi (yDu b h k : Nat))), some (.int (zi ((k : Nat) : Int)))] [] (zm L I J r)) (fun k hk => by
    have k1 : zi ((k : Nat) : Int) + (1 : Int32) = zi ((k + 1 : Nat) : Int) := zi_add _ 1
    have g1 : zCd zT e 68 [.ref 53, .int (zi ((k : Nat) : Int)), .int 1] (zm L I J r) = some (some (.int (zi (b.2 k 1))), (zm L I J r)) := cGetO (q := 7) (by omega) rfl (by decide) hb hw.1 (k := (k : Int)) (f := ((1 : Nat) : Int)) (by omega) (by decide)
    have g2 : zCd zT e 68 [.ref 53, .int (zi ((k : Nat) : Int)), .int 2] (zm L I J r) = some (some (.int (zi (b.2 k 2))), (zm L I J r)) := cGetO (q := 7) (by omega) rfl (by decide) hb hw.1 (k := (k : Int)) (f := ((2 : Nat) : Int)) (by omega) (by decide)
    have wk := w.2.2 k hk
    have db := yDu_b (b := b) (h := h) k
    have hp : 2 ^ k ≤ 2 ^ 8 := Nat.pow_le_pow_right (by decide) (by omega)
    have d1 : zi h < zi (b.2 k 1) ↔ h < b.2 k 1 := zi_lt bh (by omega)
    have d2 : zi (b.2 k 2) < zi h ↔ b.2 k 2 < h := zi_lt (by omega) bh
    rw [eX11_onDuty_1, hsz, zbI_s, eX11_onDuty_2, if_neg (show ¬ zi (b.1 : Int) ≤ zi ((k : Nat) : Int) by rw [zi_le (by omega) (by omega)]; omega), g1, zbI_s, eX11_onDuty_3, yDu]
    by_cases q1 : h < b.2 k 1
    · rw [if_pos (d1.mpr q1), eX11_onDuty_5, k1, if_neg (show ¬ (b.2 k 1 ≤ h ∧ h ≤ b.2 k 2) by omega)]
    · rw [if_neg (fun w => q1 (d1.mp w)), g2, zbI_s, eX11_onDuty_4]
      by_cases q2 : b.2 k 2 < h
      · rw [if_pos (d2.mpr q2), eX11_onDuty_5, k1, if_neg (show ¬ (b.2 k 1 ≤ h ∧ h ≤ b.2 k 2) by omega)]
      · rw [if_neg (fun w => q2 (d2.mp w)), eX11_onDuty_5, k1, if_pos (show b.2 k 1 ≤ h ∧ h ≤ b.2 k 2 by omega), yShl (by omega), yOr (by omega) (by omega)])
  have z0 : zX 0 (zCd zT e) zc_X11_onDuty 1 [some (.ref 16), some (.int (zi h)), some (.ref 53), some (.int 0), some (.int 0)] [] (zm L I J r) = _ := c1
  rw [qX11_onDuty, eX11_onDuty_0, z0, eX11_onDuty_1, hsz, zbI_s, eX11_onDuty_2, if_pos (Int32.le_refl _), eX11_onDuty_6]
theorem cKeys (hd : 4 ≤ d) {t : zDy} (h : zTI I J t) (hn : 0 < t.n) {b : yTb} {n m c : Nat} (hb : cTb 53 7 I b) (hw : wTb n m c 7 b) {s : Nat} (hs : s < 1024) : zCd zT d 205 [.ref 16, .int (zi (s : Int))] (zm L I J r) = some (some (.int (zb1 (decide (yUn b 0 s b.1 &&& (2 ^ (t.m + 1) - 1) = 2 ^ (t.m + 1) - 1)))), (zm L I J r)) := by
  obtain ⟨e, rfl⟩ : ∃ e, d = e + 1 := ⟨d - 1, by omega⟩
  obtain ⟨f, hf⟩ : ∃ f, e = f + 1 := ⟨e - 1, by omega⟩
  have w := yW7 hw
  have hn60 := h.2.2.1.1
  have hm5 : t.m ≤ 5 := h.2.2.1.2.2.1
  have hp : 2 ^ (t.m + 1) ≤ 2 ^ 6 := Nat.pow_le_pow_right (by decide) (by omega)
  have hp1 : 1 ≤ 2 ^ (t.m + 1) := Nat.one_le_two_pow
  have e5 : I 32 5 = zi t.n := h.1.1
  have e6 : I 32 6 = zi t.m := h.1.2.2.1
  have kb : zCd zT f 113 [.ref 32] (zm L I J r) = some (some (.int (zi ((t.m + 1 : Nat) : Int))), (zm L I J r)) := by
    rw [sX9_blocks (by omega) (o := 32) (by decide), e5, e6, if_neg (show ¬ zi (t.n : Int) = 0 by rw [show (0 : Int32) = zi 0 from rfl, zi_eq (by omega) (by decide)]; omega)]
    exact congrArg (fun x => some (some (Value.int x), zm L I J r)) (zi_add _ 1)
  have k2 : zi ((2 ^ (t.m + 1) : Nat) : Int) - (1 : Int32) = zi ((2 ^ (t.m + 1) - 1 : Nat) : Int) := (zi_sub _ 1).trans (congrArg zi (by omega))
  have bb : zCd zT e 114 [.ref 32] (zm L I J r) = some (some (.int (zi ((2 ^ (t.m + 1) - 1 : Nat) : Int))), (zm L I J r)) := by
    rw [hf, qX9_blockBits, eX9_blockBits_0, kb, zbI_s, eX9_blockBits_1, yShl (by omega), k2]
  have cu : zCd zT e 73 [.ref 53, .int 0, .int (zi (s : Int))] (zm L I J r) = _ := cUn (L := L) (J := J) (r := r) (f := 0) (B := 6) (s := s) (q := 7) (by omega) rfl (by decide) hb hw.1 (by decide) (by omega) (by decide) w.2.1
  have ub := yUn_b (s := s) w.2.1 b.1 (Nat.le_refl _)
  have ab : yUn b 0 s b.1 &&& (2 ^ (t.m + 1) - 1) ≤ 2 ^ (t.m + 1) - 1 := Nat.and_le_right
  have d4 : zi ((yUn b 0 s b.1 &&& (2 ^ (t.m + 1) - 1) : Nat) : Int) = zi ((2 ^ (t.m + 1) - 1 : Nat) : Int) ↔ yUn b 0 s b.1 &&& (2 ^ (t.m + 1) - 1) = 2 ^ (t.m + 1) - 1 := by
    rw [zi_eq (by omega) (by omega)]
    omega
  rw [qX11_hasAllKeys, eX11_hasAllKeys_0, bb, zbI_s, eX11_hasAllKeys_1, cu, zbI_s, eX11_hasAllKeys_2, yAnd (by omega) (by omega)]
  by_cases q : yUn b 0 s b.1 &&& (2 ^ (t.m + 1) - 1) = 2 ^ (t.m + 1) - 1
  · rw [if_pos (d4.mpr q), eX11_hasAllKeys_4, decide_eq_true q]
    rfl
  · rw [if_neg (fun w => q (d4.mp w)), eX11_hasAllKeys_3, eX11_hasAllKeys_4, decide_eq_false q]
    rfl
end
