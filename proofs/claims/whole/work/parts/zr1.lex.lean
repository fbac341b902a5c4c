/-! TEXT: bytes, words, tokens -/
def yIsL (c : Nat) : Bool := decide (97 ≤ c ∧ c ≤ 122)
def yIsD (c : Nat) : Bool := decide (48 ≤ c ∧ c ≤ 57)
def yIsB (c : Nat) : Bool := decide (c = 10 ∨ c = 32)
/-- the first place from i on where P does not hold, else n -/
def ySp (P : Nat → Bool) (n i : Nat) : Nat := zFsA (fun k => !P k) (n - i) i
theorem ySpA_p {P : Nat → Bool} : ∀ k i : Nat, (∀ j, i ≤ j → j < zFsA (fun k => !P k) k i → P j = true) ∧ (zFsA (fun k => !P k) k i < i + k → P (zFsA (fun k => !P k) k i) = false) := by
  intro k
  induction k with
  | zero =>
    intro i
    refine ⟨fun j h1 h2 => ?_, fun h => ?_⟩
    · rw [zFsA] at h2
      omega
    · rw [zFsA] at h
      omega
  | succ k ih =>
    intro i
    obtain ⟨a, b⟩ := ih (i + 1)
    have bb := (zFsA_b (stop := fun k => !P k) k (i + 1)).1
    rw [zFsA]
    cases q : P i
    · rw [if_pos (by rfl)]
      exact ⟨fun j h1 h2 => by omega, fun _ => q⟩
    · rw [if_neg (show ¬ (!true) = true by decide)]
      refine ⟨fun j h1 h2 => ?_, fun h => b (by omega)⟩
      by_cases w : j = i
      · rw [w]
        exact q
      · exact a j (by omega) h2
theorem ySp_p {P : Nat → Bool} {n i : Nat} (h : i ≤ n) : i ≤ ySp P n i ∧ ySp P n i ≤ n ∧ (∀ j, i ≤ j → j < ySp P n i → P j = true) ∧ (ySp P n i < n → P (ySp P n i) = false) := by
  have a := zFsA_b (stop := fun k => !P k) (n - i) i
  have b := ySpA_p (P := P) (n - i) i
  unfold ySp
  exact ⟨a.1, by omega, b.1, fun w => b.2 (by omega)⟩
/-- if P holds at i, one more -/
theorem ySp_1 {P : Nat → Bool} {n i : Nat} (h : i < n) (hp : P i = true) : i < ySp P n i := by
  have a := ySp_p (P := P) (n := n) (i := i) (by omega)
  by_cases w : ySp P n i = i
  · have := a.2.2.2 (by omega)
    rw [w, hp] at this
    cases this
  · omega
def yWo : List (List Nat) := [[104, 105, 103, 104], [98, 108, 111, 99, 107], [99, 104, 97, 105, 110], [116, 111], [115, 112, 101, 101, 100], [100, 111, 103], [100, 114, 97, 103], [112, 117, 115, 104], [108, 101, 97, 118, 101], [105, 102], [111, 114], [97, 110, 100], [110, 111, 116], [102, 114, 101, 101]]
def yWq (q : Nat) : List Nat := yWo.getD q []
/-- where a word begins in the model's row of them -/
def yWst (q : Nat) : Nat := [1, 6, 12, 18, 21, 27, 31, 36, 41, 47, 50, 53, 57, 61, 66].getD q 0
/-- which text of the class a word is -/
def yWn (q : Nat) : Nat := if q < 10 then 1000 + 2 * q else 1046 - 2 * q
def yKy (w : List Nat) : Nat := zFs (fun q => decide (yWq q = w)) 14
theorem yWq_i {a b : Nat} (ha : a < 14) (hb : b < 14) (h : yWq a = yWq b) : a = b := by
  have key : ∀ a b : Fin 14, yWq a.1 = yWq b.1 → a.1 = b.1 := by decide +kernel
  exact key ⟨a, ha⟩ ⟨b, hb⟩ h
theorem yKy_i {w : List Nat} {q : Nat} (hq : q < 14) : yKy w = q ↔ yWq q = w := by
  unfold yKy
  constructor
  · intro h
    have := zFs_s (stop := fun q => decide (yWq q = w)) (n := 14) (by omega)
    rw [h] at this
    exact of_decide_eq_true this
  · intro h
    have h1 : zFs (fun q => decide (yWq q = w)) 14 < 14 := by
      by_cases g : zFs (fun q => decide (yWq q = w)) 14 < 14
      · exact g
      · have := zFs_n (stop := fun q => decide (yWq q = w)) (n := 14) (j := q) (by have := zFs_le (stop := fun q => decide (yWq q = w)) (n := 14); omega)
        rw [decide_eq_false_iff_not] at this
        exact absurd h this
    have h2 := zFs_s (stop := fun q => decide (yWq q = w)) h1
    have h3 := of_decide_eq_true h2
    exact yWq_i h1 hq (h3.trans h.symm)
theorem yKy_b {w : List Nat} : yKy w ≤ 14 := zFs_le
def yS (B : Nat → Nat) (n p : Nat) : Nat := ySp (fun k => yIsB (B k)) n p
def yEl (B : Nat → Nat) (n s : Nat) : Nat := ySp (fun k => yIsL (B k)) n s
def yEd (B : Nat → Nat) (n s : Nat) : Nat := ySp (fun k => yIsD (B k)) n s
def yNu (B : Nat → Nat) (s : Nat) : Nat → Nat
  | 0 => 0
  | m + 1 => 10 * yNu B s m + (B (s + m) - 48)
def yWd (B : Nat → Nat) (s m : Nat) : List Nat := (List.range m).map fun i => B (s + i)
/-- a token's kind as the model has it: 0 to 13 the words, 14 another word, 15 a number, 16 ; 17 ( 18 ) 19 the end, 20 none -/
def yKs (B : Nat → Nat) (n s : Nat) : Nat := if n ≤ s then 19 else if yIsL (B s) = true then yKy (yWd B s (yEl B n s - s)) else if yIsD (B s) = true then (if yEd B n s - s ≤ 3 then 15 else 20) else if B s = 59 then 16 else if B s = 40 then 17 else if B s = 41 then 18 else 20
def yEs (B : Nat → Nat) (n s : Nat) : Nat := if n ≤ s then n else if yIsL (B s) = true then yEl B n s else if yIsD (B s) = true then yEd B n s else s + 1
def yK (B : Nat → Nat) (n p : Nat) : Nat := yKs B n (yS B n p)
def yEb (B : Nat → Nat) (n p : Nat) : Nat := yEs B n (yS B n p)
def yVs (B : Nat → Nat) (n s : Nat) : Nat := yNu B s (yEd B n s - s)
def yVl (B : Nat → Nat) (n p : Nat) : Nat := yVs B n (yS B n p)
/-- the class's kind and value -/
def yCk (k : Nat) : Nat := if k = 19 then 0 else if k = 20 then 4 else if k = 15 then 2 else if k < 15 then 1 else 3
def yCv (B : Nat → Nat) (n s : Nat) : Nat := if n ≤ s then 0 else if yIsL (B s) = true then yEl B n s - s else if yIsD (B s) = true then (if yEd B n s - s ≤ 3 then yVs B n s else 0) else if B s = 59 ∨ B s = 40 ∨ B s = 41 then B s else 0
theorem yS_p {B : Nat → Nat} {n p : Nat} (h : p ≤ n) : p ≤ yS B n p ∧ yS B n p ≤ n ∧ (∀ j, p ≤ j → j < yS B n p → yIsB (B j) = true) ∧ (yS B n p < n → yIsB (B (yS B n p)) = false) := ySp_p h
theorem yKs_b {B : Nat → Nat} {n s : Nat} : yKs B n s ≤ 20 ∧ (yKs B n s = 19 ↔ n ≤ s) := by
  have := yKy_b (w := yWd B s (yEl B n s - s))
  unfold yKs
  by_cases h : n ≤ s
  · rw [if_pos h]
    exact ⟨by decide, fun _ => h, fun _ => rfl⟩
  · rw [if_neg h]
    repeat' split
    all_goals first
      | (refine ⟨by omega, fun w => ?_, fun w => absurd w h⟩; omega)
theorem yK_b {B : Nat → Nat} {n p : Nat} : yK B n p ≤ 20 := yKs_b.1
theorem yEs_b {B : Nat → Nat} {n s : Nat} (h : s ≤ n) : yEs B n s ≤ n ∧ s ≤ yEs B n s ∧ (s < n → s < yEs B n s) := by
  unfold yEs
  by_cases g : n ≤ s
  · rw [if_pos g]
    exact ⟨Nat.le_refl n, h, fun w => w⟩
  · rw [if_neg g]
    by_cases q : yIsL (B s) = true
    · rw [if_pos q]
      have a := ySp_p (P := fun k => yIsL (B k)) h
      have b := ySp_1 (P := fun k => yIsL (B k)) (i := s) (n := n) (by omega) q
      exact ⟨a.2.1, a.1, fun _ => b⟩
    · rw [if_neg q]
      by_cases q2 : yIsD (B s) = true
      · rw [if_pos q2]
        have a := ySp_p (P := fun k => yIsD (B k)) h
        have b := ySp_1 (P := fun k => yIsD (B k)) (i := s) (n := n) (by omega) q2
        exact ⟨a.2.1, a.1, fun _ => b⟩
      · rw [if_neg q2]
        exact ⟨by omega, by omega, fun _ => by omega⟩
theorem yEb_b {B : Nat → Nat} {n p : Nat} (h : p ≤ n) : yEb B n p ≤ n ∧ yS B n p ≤ yEb B n p ∧ p ≤ yEb B n p ∧ (yK B n p ≠ 19 → p < yEb B n p ∧ yS B n p < yEb B n p) := by
  have a := yS_p (B := B) h
  have b := yEs_b (B := B) a.2.1
  have c := (yKs_b (B := B) (n := n) (s := yS B n p)).2
  unfold yEb yK
  exact ⟨b.1, b.2.1, by omega, fun w => by
    have : ¬ n ≤ yS B n p := fun q => w (c.mpr q)
    have := b.2.2 (by omega)
    omega⟩
theorem yNu_b {B : Nat → Nat} {s : Nat} : ∀ m, (∀ i, i < m → yIsD (B (s + i)) = true) → yNu B s m < 10 ^ m := by
  intro m
  induction m with
  | zero => intro _; show 0 < 10 ^ 0; decide
  | succ m ih =>
    intro h
    have a := ih (fun i hi => h i (by omega))
    have b := of_decide_eq_true (show decide _ = true from h m (by omega))
    rw [yNu, Nat.pow_succ]
    omega
/-- a number of up to three digits -/
theorem yVs_b {B : Nat → Nat} {n s : Nat} (h : s ≤ n) (hk : yKs B n s = 15) : yVs B n s ≤ 999 ∧ s < n ∧ yIsL (B s) = false ∧ yIsD (B s) = true ∧ yEd B n s - s ≤ 3 ∧ s < yEd B n s := by
  have h19 := yKs_b (B := B) (n := n) (s := s)
  have hs : ¬ n ≤ s := fun q => by have := h19.2.mpr q; omega
  have kb := yKy_b (w := yWd B s (yEl B n s - s))
  have hkk := hk
  unfold yKs at hkk
  rw [if_neg hs] at hkk
  by_cases q : yIsL (B s) = true
  · rw [if_pos q] at hkk
    omega
  · rw [if_neg q] at hkk
    by_cases q2 : yIsD (B s) = true
    · rw [if_pos q2] at hkk
      have q3 : yEd B n s - s ≤ 3 := by
        by_cases w : yEd B n s - s ≤ 3
        · exact w
        · rw [if_neg w] at hkk
          omega
      have a := ySp_p (P := fun k => yIsD (B k)) h
      have b := ySp_1 (P := fun k => yIsD (B k)) (i := s) (n := n) (by omega) q2
      have e : ySp (fun k => yIsD (B k)) n s = yEd B n s := rfl
      rw [e] at a b
      have c := yNu_b (B := B) (s := s) (yEd B n s - s) (fun i hi => a.2.2.1 (s + i) (by omega) (by omega))
      have d : 10 ^ (yEd B n s - s) ≤ 10 ^ 3 := Nat.pow_le_pow_right (by decide) q3
      have f : (10 : Nat) ^ 3 = 1000 := by decide
      refine ⟨?_, by omega, Bool.eq_false_iff.mpr q, q2, q3, b⟩
      unfold yVs
      omega
    · rw [if_neg q2] at hkk
      repeat' split at hkk
      all_goals omega
/-! the texts of the program -/
def yStr (j : Nat) : List Nat := if j = 14 then [32, 104, 105, 103, 104, 32, 98, 108, 111, 99, 107, 32, 99, 104, 97, 105, 110, 32, 116, 111, 32, 115, 112, 101, 101, 100, 32, 100, 111, 103, 32, 100, 114, 97, 103, 32, 112, 117, 115, 104, 32, 108, 101, 97, 118, 101, 32, 105, 102, 32, 111, 114, 32, 97, 110, 100, 32, 110, 111, 116, 32, 102, 114, 101, 101, 32] else yWq (if j < 10 then j else 23 - j)
def yCh (j i : Nat) : Nat := (yStr j).getD i 0
theorem yStr_l {j : Nat} (hj : j < 15) : (yStr j).length ≤ 66 ∧ 1000 + 2 * j ∈ zTxts ∧ 1000 + 2 * j + 1 ∈ zTxt1 ∧ (zbl (1000 + 2 * j + 1)).length = (yStr j).length := by
  have key : ∀ j : Fin 15, (yStr j.1).length ≤ 66 ∧ 1000 + 2 * j.1 ∈ zTxts ∧ 1000 + 2 * j.1 + 1 ∈ zTxt1 ∧ (zbl (1000 + 2 * j.1 + 1)).length = (yStr j.1).length := by decide +kernel
  exact key ⟨j, hj⟩
theorem yCh_b {j i : Nat} (hj : j < 15) : yCh j i < 256 ∧ zby (1000 + 2 * j + 1) i = zi (yCh j i : Int) := by
  by_cases hi : i < 66
  · have key : ∀ j : Fin 15, ∀ i : Fin 66, yCh j.1 i.1 < 256 ∧ zby (1000 + 2 * j.1 + 1) i.1 = zi (yCh j.1 i.1 : Int) := by decide +kernel
    exact key ⟨j, hj⟩ ⟨i, hi⟩
  · have a := yStr_l hj
    have e : yCh j i = 0 := by
      unfold yCh
      rw [List.getD_eq_getElem?_getD, List.getElem?_eq_none (by omega)]
      rfl
    have e2 : zby (1000 + 2 * j + 1) i = 0 := by
      unfold zby
      rw [znth_len _ _ (by omega)]
      rfl
    rw [e, e2]
    exact ⟨by decide, rfl⟩
theorem y255 {b : Nat} (hb : b < 256) : (((zi (b : Int)) &&& (255 : Int32)).toUInt32 % 65536).toInt32 = zi (b : Int) ∧ ((zi (b : Int)).toUInt32 % 65536).toInt32 = zi (b : Int) := by
  have key : ∀ b : Fin 256, (((zi ((b.1 : Nat) : Int)) &&& (255 : Int32)).toUInt32 % 65536).toInt32 = zi ((b.1 : Nat) : Int) ∧ ((zi ((b.1 : Nat) : Int)).toUInt32 % 65536).toInt32 = zi ((b.1 : Nat) : Int) := by decide +kernel
  exact key ⟨b, hb⟩
section
variable {d L r : Nat} {I : Nat → Nat → Int32} {J : Nat → Nat → Int64}
theorem yLen (hd : 2 ≤ d) {j : Nat} (hj : j < 15) : zCd zT d 371 [.ref (1000 + 2 * j)] (zm L I J r) = some (some (.int (zi (((yStr j).length : Nat) : Int))), (zm L I J r)) := by
  have a := yStr_l hj
  rw [sJ0_length_8abf5 hd a.2.1, if_neg (by decide), show decide ((0 : Int32).toInt8.toInt32 = (0 : Int32)) = true by decide, zgd_t]
  have e : zln (zm L I J r) (1000 + 2 * j + 1) = (yStr j).length := by
    rw [← a.2.2.2]
    unfold zln
    rw [if_neg (by omega), if_neg (by omega)]
  rw [e, show ((0 : Int32) &&& 31) = 0 from rfl]
  have e2 : (Int32.ofNat (yStr j).length) >>> (0 : Int32) = zi (((yStr j).length : Nat) : Int) := by
    rw [show Int32.ofNat (yStr j).length = zi (((yStr j).length : Nat) : Int) from zi_nI _]
    have := yShr (s := (yStr j).length) (k := 0) (by omega) (by decide)
    rw [show zi ((0 : Nat) : Int) &&& 31 = 0 from rfl, Nat.shiftRight_zero] at this
    exact this
  rw [e2]
theorem yChr (hd : 5 ≤ d) {j i : Nat} (hj : j < 15) (hi : i < (yStr j).length) : zCd zT d 372 [.ref (1000 + 2 * j), .int (zi (i : Int))] (zm L I J r) = some (some (.int (zi (yCh j i : Int))), (zm L I J r)) := by
  obtain ⟨e, rfl⟩ : ∃ e, d = e + 1 := ⟨d - 1, by omega⟩
  have a := yStr_l hj
  have b := yCh_b (i := i) hj
  have el : zln (zm L I J r) (1000 + 2 * j + 1) = (yStr j).length := by
    rw [← a.2.2.2]
    unfold zln
    rw [if_neg (by omega), if_neg (by omega)]
  rw [qJ0_charAt_5068e a.2.1, eJ0_charAt_5068e_0 a.2.1, sJ0_isLatin1_aae02 (by omega) a.2.1, if_neg (by decide), if_pos rfl, zbI_s, eJ0_charAt_5068e_1 a.2.1, if_neg (by decide), sJ1_charAt_3b067 (by omega) a.2.2.1, el, if_neg (show ¬ zi (i : Int) < 0 by rw [show (0 : Int32) = zi 0 from rfl, zi_lt (by omega) (by decide)]; omega), show Int32.ofNat (yStr j).length = zi (((yStr j).length : Nat) : Int) from zi_nI _, if_pos (show zi (i : Int) < zi (((yStr j).length : Nat) : Int) by rw [zi_lt (by omega) (by omega)]; omega), zin_t (by omega) (by omega), zgd_t, zi_cl (by omega), Int.toNat_natCast, b.2, (y255 b.1).1, (y255 b.1).2, decide_eq_true rfl, zgd_t, zbI_s, eJ0_charAt_5068e_2 a.2.1, (y255 b.1).2, decide_eq_true rfl, zgd_t]
end
