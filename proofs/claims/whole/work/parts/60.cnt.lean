/-! how many, and which is the i-th -/
def yCn (P : Nat → Bool) : Nat → Nat
  | 0 => 0
  | k + 1 => yCn P k + (if P k = true then 1 else 0)
theorem yCn_b {P : Nat → Bool} : ∀ k, yCn P k ≤ k := by
  intro k
  induction k with
  | zero => exact Nat.le_refl 0
  | succ k ih =>
    rw [yCn]
    split <;> omega
theorem yCn_c {P Q : Nat → Bool} : ∀ k, (∀ j, j < k → P j = Q j) → yCn P k = yCn Q k := by
  intro k
  induction k with
  | zero => intro _; rfl
  | succ k ih => intro h; rw [yCn, yCn, ih (fun j hj => h j (by omega)), h k (by omega)]
def yIs (P : Nat → Bool) (n : Nat) (i : Int) : Nat := zFs (fun j => P j && decide ((yCn P j : Int) = i)) n
/-- the i-th of n that has P, by f; how many (i -1); -1 -/
def yIt (P : Nat → Bool) (f : Nat → Int) (n : Nat) (i : Int) : Int := if yIs P n i < n then f (yIs P n i) else if i = -1 then yCn P n else -1
theorem yIth {β M : Type} {G E : Nat → M → β} {Q : M → Prop} {P : Nat → Bool} {n : Nat} {i : Int} (h : ∀ j m, j < n → Q m → ∃ m', Q m' ∧ G j m = if P j = true then (if (yCn P j : Int) = i then E j m' else G (j + 1) m') else G (j + 1) m') (m : M) (hm : Q m) : ∃ m', Q m' ∧ G 0 m = if yIs P n i < n then E (yIs P n i) m' else G n m' := by
  refine zForS (stop := fun j => P j && decide ((yCn P j : Int) = i)) (fun j m hj hq => ?_) m hm
  obtain ⟨m', a, b⟩ := h j m hj hq
  refine ⟨m', a, ?_⟩
  rw [b]
  cases P j
  · rfl
  · by_cases q : (yCn P j : Int) = i
    · rw [if_pos rfl, if_pos q, if_pos (by rw [Bool.true_and]; exact decide_eq_true q)]
    · rw [if_pos rfl, if_neg q, if_neg (by rw [Bool.true_and, decide_eq_true_iff]; exact q)]
theorem yIthT {β : Type} {G E : Nat → β} {P : Nat → Bool} {n : Nat} {i : Int} (h : ∀ j, j < n → G j = if P j = true then (if (yCn P j : Int) = i then E j else G (j + 1)) else G (j + 1)) : G 0 = if yIs P n i < n then E (yIs P n i) else G n := by
  obtain ⟨_, _, a⟩ := yIth (M := Unit) (G := fun i _ => G i) (E := fun i _ => E i) (Q := fun _ => True) (P := P) (n := n) (i := i) (fun j _ hj _ => ⟨(), trivial, h j hj⟩) () trivial
  exact a
theorem zi_m1 {x : Int} (h : -2147483648 ≤ x ∧ x < 2147483648) : zi x = -1 ↔ x = -1 := by
  rw [show (-1 : Int32) = zi (-1) from rfl]
  exact zi_eq h (by decide)
/-! VALLEYS -/
def yVa (t : zDy) (j : Nat) : Bool := decide (t.h (j + 1) < t.h j ∧ t.h (j + 1) < t.h (j + 2))
def yVaV (t : zDy) (i : Int) : Int := if t.n = 0 then -5 else yIt (yVa t) (fun j => (j : Int) + 1) (t.n - 2) i
section
variable {d L r : Nat} {I : Nat → Nat → Int32} {J : Nat → Nat → Int64}
variable {t : zDy}
theorem cNoTrack (hd : 2 ≤ d) (h : zTI I J t) : zCd zT d 218 [.ref 16] (zm L I J r) = some (some (.int (zb1 (decide (t.n = 0)))), (zm L I J r)) := by
  have hw := h.2.2.1.1
  have e : I 32 5 = zi t.n := h.1.1
  have e0 : zi (t.n : Int) = 0 ↔ t.n = 0 := by
    rw [show (0 : Int32) = zi 0 from rfl, zi_eq (by omega) (by decide)]
    omega
  rw [sX11_noTrack hd, e]
  simp only [e0]
  by_cases q : t.n = 0
  · rw [if_pos q, decide_eq_true q]
    rfl
  · rw [if_neg q, decide_eq_false q]
    rfl
theorem cValley (hd : 4 ≤ d) (h : zTI I J t) {i : Int} (bi : -2147483648 ≤ i ∧ i < 2147483648) : zCd zT d 181 [.ref 16, .int (zi i)] (zm L I J r) = some (some (.int (zi (yVaV t i))), (zm L I J r)) := by
  obtain ⟨e, rfl⟩ : ∃ e, d = e + 1 := ⟨d - 1, by omega⟩
  have hw := h.2.2.1.1
  have hT := zTI_c h
  have en : I 32 5 = zi t.n := h.1.1
  rw [qX11_valley, eX11_valley_0, cNoTrack (by omega) h, zbI_s, eX11_valley_1]
  unfold yVaV
  by_cases q : t.n = 0
  · rw [decide_eq_true q, if_neg (show ¬ zb1 true = 0 by decide), if_pos q]
    rfl
  · rw [decide_eq_false q, if_pos (show zb1 false = 0 from rfl), if_neg q, eX11_valley_2]
    have L1 := yIthT (n := t.n - 2) (i := i) (P := yVa t) (G := fun j => zX 0 (zCd zT e) zc_X11_valley 3 [some (.ref 16), some (.int (zi i)), some (.ref 32), some (.int (zi ((yCn (yVa t) j : Nat) : Int))), some (.int (zi ((j + 1 : Nat) : Int))), none] [] (zm L I J r)) (E := fun j => some (some (.int (zi ((j + 1 : Nat) : Int))), (zm L I J r))) (fun j hj => by
      have b0 := (hT.2.2.1 j (by omega)).2
      have b1 := (hT.2.2.1 (j + 1) (by omega)).2
      have b2 := (hT.2.2.1 (j + 2) (by omega)).2
      have cb := yCn_b (P := yVa t) j
      have k0 : zi (t.n : Int) - (1 : Int32) = zi ((t.n : Int) - 1) := zi_sub _ 1
      have k1 : zi ((j + 1 : Nat) : Int) - (1 : Int32) = zi ((j : Nat) : Int) := (zi_sub _ 1).trans (congrArg zi (by omega))
      have k2 : zi ((j + 1 : Nat) : Int) + (1 : Int32) = zi ((j + 2 : Nat) : Int) := zi_add _ 1
      have k3 : zi ((yCn (yVa t) j : Nat) : Int) + (1 : Int32) = zi ((yCn (yVa t) j + 1 : Nat) : Int) := zi_add _ 1
      have hu : yCn (yVa t) (j + 1) = yCn (yVa t) j + (if yVa t j = true then 1 else 0) := rfl
      rw [hu]
      rw [eX11_valley_3, sX9_points (by omega) (o := 32) (by decide), zbI_s, eX11_valley_4, en, k0, if_neg (show ¬ zi ((t.n : Int) - 1) ≤ zi ((j + 1 : Nat) : Int) by rw [zi_le (by omega) (by omega)]; omega), cHeight (by omega) hT (show j + 1 < t.n by omega), zbI_s, eX11_valley_5, k1, cHeight (by omega) hT (show j < t.n by omega), zbI_s, eX11_valley_6, k2, cHeight (by omega) hT (show j + 2 < t.n by omega), zbI_s, eX11_valley_7, eX11_valley_8, eX11_valley_9, eX11_valley_9, k2, k3]
      simp only [zi_le (show -2147483648 ≤ t.h j ∧ t.h j < 2147483648 by omega) (show -2147483648 ≤ t.h (j + 1) ∧ t.h (j + 1) < 2147483648 by omega), zi_le (show -2147483648 ≤ t.h (j + 2) ∧ t.h (j + 2) < 2147483648 by omega) (show -2147483648 ≤ t.h (j + 1) ∧ t.h (j + 1) < 2147483648 by omega), zi_eq (show -2147483648 ≤ ((yCn (yVa t) j : Nat) : Int) ∧ ((yCn (yVa t) j : Nat) : Int) < 2147483648 by omega) bi]
      unfold yVa
      by_cases q1 : t.h j ≤ t.h (j + 1)
      · rw [if_pos q1, decide_eq_false (by omega)]
        rfl
      · rw [if_neg q1]
        by_cases q2 : t.h (j + 2) ≤ t.h (j + 1)
        · rw [if_pos q2, decide_eq_false (by omega)]
          rfl
        · rw [if_neg q2, decide_eq_true (by omega), if_pos rfl, if_pos rfl])
    have z0 : zX 0 (zCd zT e) zc_X11_valley 3 [some (.ref 16), some (.int (zi i)), some (.ref 32), some (.int 0), some (.int 1), none] [] (zm L I J r) = _ := L1
    rw [z0]
    unfold yIt
    by_cases q2 : yIs (yVa t) (t.n - 2) i < t.n - 2
    · rw [if_pos q2, if_pos q2]
      rfl
    · have k0 : zi (t.n : Int) - (1 : Int32) = zi ((t.n : Int) - 1) := zi_sub _ 1
      have e1 : zi i = -1 ↔ i = -1 := zi_m1 bi
      rw [if_neg q2, if_neg q2, eX11_valley_3, sX9_points (by omega) (o := 32) (by decide), zbI_s, eX11_valley_4, en, k0, if_pos (show zi ((t.n : Int) - 1) ≤ zi ((t.n - 2 + 1 : Nat) : Int) by rw [zi_le (by omega) (by omega)]; omega), eX11_valley_10, eX11_valley_11, eX11_valley_12, eX11_valley_12]
      by_cases q3 : i = -1
      · rw [if_pos (e1.mpr q3), if_pos q3]
      · rw [if_neg (fun w => q3 (e1.mp w)), if_neg q3]
        rfl
theorem mValley (hd : 4 ≤ d) (h : zTI I J t) {i : Int} (bi : -2147483648 ≤ i ∧ i < 2147483648) : zCd zT d 331 [.ref 130, .int (zi i)] (zm L I J r) = some (some (.int (zi (yVaV t i))), (zm L (zu I 130 0 0) J r)) := by
  obtain ⟨e, rfl⟩ : ∃ e, d = e + 1 := ⟨d - 1, by omega⟩
  have h0 := zTI_fr zSm_0 h
  have hw := h.2.2.1.1
  rw [qX12_valley, eX12_valley_0, mTrack (by omega) h0, zbI_s, eX12_valley_1]
  generalize zu I 130 0 0 = I at h0 ⊢
  have hT := zTI_m h0
  have en : I 131 0 = zi t.n := h0.2.1.1
  unfold yVaV
  by_cases q : t.n = 0
  · rw [decide_eq_false (show ¬ 0 < t.n by omega), if_pos (show zb1 false = 0 from rfl), if_pos q]
    rfl
  · rw [decide_eq_true (show 0 < t.n by omega), if_neg (show ¬ zb1 true = 0 by decide), if_neg q, eX12_valley_2]
    have L1 := yIthT (n := t.n - 2) (i := i) (P := yVa t) (G := fun j => zX 0 (zCd zT e) zc_X12_valley 3 [some (.ref 130), some (.int (zi i)), some (.int (zi ((yCn (yVa t) j : Nat) : Int))), some (.int (zi ((j + 1 : Nat) : Int)))] [] (zm L I J r)) (E := fun j => some (some (.int (zi ((j + 1 : Nat) : Int))), (zm L I J r))) (fun j hj => by
      obtain ⟨v0, b0⟩ := hT.2.2.1 j (by omega)
      obtain ⟨v1, b1⟩ := hT.2.2.1 (j + 1) (by omega)
      obtain ⟨v2, b2⟩ := hT.2.2.1 (j + 2) (by omega)
      have cb := yCn_b (P := yVa t) j
      have k1 : (1 : Int32) + zi ((j + 1 : Nat) : Int) = zi ((1 + (j + 1) : Nat) : Int) := zi_add 1 _
      have k2 : zi ((1 + (j + 1) : Nat) : Int) - (1 : Int32) = zi ((1 + j : Nat) : Int) := (zi_sub _ 1).trans (congrArg zi (by omega))
      have k4 : zi ((1 + (j + 1) : Nat) : Int) + (1 : Int32) = zi ((1 + (j + 2) : Nat) : Int) := (zi_add _ 1).trans (congrArg zi (by omega))
      have k3 : zi ((yCn (yVa t) j : Nat) : Int) + (1 : Int32) = zi ((yCn (yVa t) j + 1 : Nat) : Int) := zi_add _ 1
      have k5 : zi ((j + 1 : Nat) : Int) + (1 : Int32) = zi ((j + 2 : Nat) : Int) := zi_add _ 1
      have hu : yCn (yVa t) (j + 1) = yCn (yVa t) j + (if yVa t j = true then 1 else 0) := rfl
      rw [hu]
      rw [eX12_valley_3, en, k5, if_neg (show ¬ zi (t.n : Int) ≤ zi ((j + 2 : Nat) : Int) by rw [zi_le (by omega) (by omega)]; omega), k1, k2, k4, zin_t (by omega) (by omega), zin_t (by omega) (by omega), zin_t (by omega) (by omega), zgd_t, zgd_t, zgd_t, zgd_t, zi_cl (by omega), zi_cl (by omega), zi_cl (by omega), Int.toNat_natCast, Int.toNat_natCast, Int.toNat_natCast, v0, v1, v2, eX12_valley_4, eX12_valley_5, eX12_valley_6, eX12_valley_6, k5, k3]
      simp only [zi_le (show -2147483648 ≤ t.h j ∧ t.h j < 2147483648 by omega) (show -2147483648 ≤ t.h (j + 1) ∧ t.h (j + 1) < 2147483648 by omega), zi_lt (show -2147483648 ≤ t.h (j + 1) ∧ t.h (j + 1) < 2147483648 by omega) (show -2147483648 ≤ t.h (j + 2) ∧ t.h (j + 2) < 2147483648 by omega), zi_eq (show -2147483648 ≤ ((yCn (yVa t) j : Nat) : Int) ∧ ((yCn (yVa t) j : Nat) : Int) < 2147483648 by omega) bi]
      unfold yVa
      by_cases q1 : t.h j ≤ t.h (j + 1)
      · rw [if_pos q1, decide_eq_false (by omega)]
        rfl
      · rw [if_neg q1]
        by_cases q2 : t.h (j + 1) < t.h (j + 2)
        · rw [if_pos q2, decide_eq_true (by omega), if_pos rfl, if_pos rfl]
        · rw [if_neg q2, decide_eq_false (by omega)]
          rfl)
    have z0 : zX 0 (zCd zT e) zc_X12_valley 3 [some (.ref 130), some (.int (zi i)), some (.int 0), some (.int 1)] [] (zm L I J r) = _ := L1
    rw [z0]
    unfold yIt
    by_cases q2 : yIs (yVa t) (t.n - 2) i < t.n - 2
    · rw [if_pos q2, if_pos q2]
      rfl
    · have k0 : zi ((t.n - 2 + 1 : Nat) : Int) + (1 : Int32) = zi ((t.n - 2 + 2 : Nat) : Int) := zi_add _ 1
      have e1 : zi i = -1 ↔ i = -1 := zi_m1 bi
      rw [if_neg q2, if_neg q2, eX12_valley_3, en, k0, if_pos (show zi (t.n : Int) ≤ zi ((t.n - 2 + 2 : Nat) : Int) by rw [zi_le (by omega) (by omega)]; omega), eX12_valley_7, eX12_valley_8, eX12_valley_9, eX12_valley_9]
      by_cases q3 : i = -1
      · rw [if_pos (e1.mpr q3), if_pos q3]
      · rw [if_neg (fun w => q3 (e1.mp w)), if_neg q3]
        rfl
end
theorem oValley (a : Int32) : zOk 181 331 [.int a] := by
  obtain ⟨a, rfl, ba⟩ := zi_of a
  exact zOk_r (V := fun t => .int (zi (yVaV t a))) (fun L r I J t h => ⟨I, cValley (by decide) h ba, zFr3_rf⟩) (fun L r I J t h => ⟨_, mValley (by decide) h ba, zSm_0, zu_o (by decide)⟩)
