/-- how many BLOCKS' beginnings of the first k lie at or ahead of a POINT -/
def zBk (t : zDy) (p : Int) : Nat → Nat
  | 0 => 0
  | k + 1 => zBk t p k + (if t.sp k ≤ p then 1 else 0)
theorem zBk_le {t : zDy} {p : Int} (k : Nat) : zBk t p k ≤ k := by
  induction k with
  | zero => exact Nat.le_refl 0
  | succ k ih =>
    show zBk t p k + (if t.sp k ≤ p then 1 else 0) ≤ k + 1
    split <;> omega
theorem zSp_mono {t : zDy} (hw : wTr t) {i : Nat} : ∀ j, i + j < t.m → t.sp i ≤ t.sp (i + j) := by
  intro j
  induction j with
  | zero => exact fun _ => Int.le_refl _
  | succ j ih =>
    intro hj
    have h1 := ih (by omega)
    have h2 := (hw.2.2.2.1 (i + (j + 1)) hj).2.2 (by omega)
    have h3 : i + (j + 1) - 1 = i + j := by omega
    rw [h3] at h2
    omega
theorem zBk_end {t : zDy} (hw : wTr t) {p : Int} {b : Nat} (hb : p < t.sp b) : ∀ j, b + j ≤ t.m → zBk t p (b + j) = zBk t p b := by
  intro j
  induction j with
  | zero => exact fun _ => rfl
  | succ j ih =>
    intro hj
    have h1 := ih (by omega)
    have h2 := zSp_mono hw (i := b) j (by omega)
    show zBk t p (b + j) + (if t.sp (b + j) ≤ p then 1 else 0) = zBk t p b
    rw [if_neg (by omega), h1]
    rfl
section
variable {d L r : Nat} {I : Nat → Nat → Int32} {J : Nat → Nat → Int64} {t : zDy}
theorem cBlk (hd : 1 ≤ d) (h : zTI I J t) {p : Int} (hp : -2147483648 ≤ p ∧ p < 2147483648) : zCd zT d 126 [.ref 32, .int (zi p)] (zm L I J r) = some (some (.int (zi (zBk t p t.m))), zm L I J r) := by
  obtain ⟨e, rfl⟩ : ∃ e, d = e + 1 := ⟨d - 1, by omega⟩
  have hw := h.2.2.1
  have hm5 := hw.2.2.1
  have e6 : I 32 6 = zi t.m := h.1.2.2.1
  have loop : ∀ j i : Nat, i + j = t.m → zX 0 (zCd zT e) zc_X9_blockOf 1 [some (.ref 32), some (.int (zi p)), some (.int (zi (zBk t p i))), some (.int (zi i))] [] (zm L I J r) = some (some (.int (zi (zBk t p t.m))), zm L I J r) := by
    intro j
    induction j with
    | zero =>
      intro i hi
      obtain rfl : i = t.m := by omega
      rw [eX9_blockOf_1, e6, if_pos (show zi (t.m : Int) ≤ zi (t.m : Int) from Int32.le_refl _), eX9_blockOf_3]
    | succ j ih =>
      intro i hi
      have hs := h.1.2.2.2.1 i (by omega)
      have hs1 : I 34 i = zi (t.sp i) := hs
      have hb := hw.2.2.2.1 i (by omega)
      have hn := hw.1
      have k1 : zi (i : Int) + 1 = zi ((i + 1 : Nat) : Int) := zi_add i 1
      have k2 : zi (zBk t p i : Int) + 1 = zi ((zBk t p i + 1 : Nat) : Int) := zi_add _ 1
      have n1 : ¬ zi (t.m : Int) ≤ zi (i : Int) := by
        rw [zi_le (by omega) (by omega)]
        omega
      have n2 : ¬ (5 : Int32) ≤ zi (i : Int) := by
        rw [show (5 : Int32) = zi 5 from rfl, zi_le (by decide) (by omega)]
        omega
      have n3 : zi p < zi (t.sp i) ↔ p < t.sp i := zi_lt hp (by omega)
      have hi1 := ih (i + 1) (by omega)
      have hz : zBk t p (i + 1) = zBk t p i + (if t.sp i ≤ p then 1 else 0) := rfl
      rw [eX9_blockOf_1, e6, if_neg n1, if_neg n2, zin_t (by omega) (by omega), zgd_t, zi_cl (by omega), Int.toNat_natCast, hs1, eX9_blockOf_2, eX9_blockOf_2, k1, k2]
      by_cases q : p < t.sp i
      · rw [if_pos (n3.mpr q)]
        rw [if_neg (show ¬ t.sp i ≤ p by omega)] at hz
        rw [← hi1, hz]
        rfl
      · rw [if_neg (fun w => q (n3.mp w))]
        rw [if_pos (show t.sp i ≤ p by omega)] at hz
        rw [← hi1, hz]
  rw [qX9_blockOf, eX9_blockOf_0]
  exact loop t.m 0 (by omega)
theorem mBlk (hd : 1 ≤ d) (h : zTI I J t) {p : Int} (hp : -2147483648 ≤ p ∧ p < 2147483648) : zCd zT d 285 [.ref 130, .int (zi p)] (zm L I J r) = some (some (.int (zi (zBk t p t.m))), zm L I J r) := by
  obtain ⟨e, rfl⟩ : ∃ e, d = e + 1 := ⟨d - 1, by omega⟩
  have hw := h.2.2.1
  have hm5 := hw.2.2.1
  have e6 : I 131 61 = zi t.m := h.2.1.2.2.1
  have loop : ∀ j i : Nat, i + j = t.m → zBk t p i = i → zX 0 (zCd zT e) zc_X12_blockOf 1 [some (.ref 130), some (.int (zi p)), some (.int (zi i))] [] (zm L I J r) = some (some (.int (zi (zBk t p t.m))), zm L I J r) := by
    intro j
    induction j with
    | zero =>
      intro i hi hz
      obtain rfl : i = t.m := by omega
      rw [eX12_blockOf_1, e6, if_pos (show zi (t.m : Int) ≤ zi (t.m : Int) from Int32.le_refl _), eX12_blockOf_2, hz]
    | succ j ih =>
      intro i hi hz
      have hs := h.2.1.2.2.2.1 i (by omega)
      rw [Nat.zero_add] at hs
      have hb := hw.2.2.2.1 i (by omega)
      have hn := hw.1
      have k1 : zi (i : Int) + 1 = zi ((i + 1 : Nat) : Int) := zi_add i 1
      have k2 : (62 : Int32) + zi (i : Int) = zi ((62 + i : Nat) : Int) := zi_add 62 i
      have n1 : ¬ zi (t.m : Int) ≤ zi (i : Int) := by
        rw [zi_le (by omega) (by omega)]
        omega
      have n3 : zi p < zi (t.sp i) ↔ p < t.sp i := zi_lt hp (by omega)
      rw [eX12_blockOf_1, e6, if_neg n1, k2, zin_t (by omega) (by omega), zgd_t, zi_cl (by omega), Int.toNat_natCast, hs, eX12_blockOf_2, k1]
      by_cases q : p < t.sp i
      · have hend := zBk_end hw q (j + 1) (by omega)
        rw [hi, hz] at hend
        rw [if_pos (n3.mpr q), hend]
      · rw [if_neg (fun w => q (n3.mp w))]
        refine ih (i + 1) (by omega) ?_
        show zBk t p i + (if t.sp i ≤ p then 1 else 0) = i + 1
        rw [if_pos (by omega), hz]
  rw [qX12_blockOf, eX12_blockOf_0]
  exact loop t.m 0 (by omega) rfl
end
