/-! QUIET: the longest stretch between two stays of one train -/
def yMn (s : Int) (ok : Nat → Bool) (v : Nat → Int) : Nat → Int
  | 0 => s
  | j + 1 => if ok j = true ∧ (yMn s ok v j = s ∨ v j < yMn s ok v j) then v j else yMn s ok v j
theorem yMn_s {s : Int} {ok : Nat → Bool} {v : Nat → Int} (hs : ∀ j, ok j = true → v j ≠ s) : ∀ n, (yMn s ok v n = s ∧ ∀ j, j < n → ok j = false) ∨ ((∃ j, j < n ∧ ok j = true ∧ v j = yMn s ok v n) ∧ ∀ i, i < n → ok i = true → yMn s ok v n ≤ v i) := by
  intro n
  induction n with
  | zero => exact Or.inl ⟨rfl, fun j hj => absurd hj (by omega)⟩
  | succ n ih =>
    rw [yMn]
    by_cases q : ok n = true ∧ (yMn s ok v n = s ∨ v n < yMn s ok v n)
    · rw [if_pos q]
      refine Or.inr ⟨⟨n, by omega, q.1, rfl⟩, fun i hi ho => ?_⟩
      by_cases e : i = n
      · rw [e]
        exact Int.le_refl _
      · rcases ih with ⟨x1, x2⟩ | ⟨⟨j, x1, x2, x3⟩, x4⟩
        · rw [x2 i (by omega)] at ho
          cases ho
        · rcases q.2 with w | w
          · exact absurd (x3.trans w) (hs j x2)
          · have := x4 i (by omega) ho
            omega
    · rw [if_neg q]
      rcases ih with ⟨x1, x2⟩ | ⟨⟨j, x1, x2, x3⟩, x4⟩
      · refine Or.inl ⟨x1, fun j hj => ?_⟩
        by_cases e : j = n
        · rw [e]
          by_cases o : ok n = true
          · exact absurd ⟨o, Or.inl x1⟩ q
          · rw [Bool.not_eq_true] at o
            exact o
        · exact x2 j (by omega)
      · refine Or.inr ⟨⟨j, by omega, x2, x3⟩, fun i hi ho => ?_⟩
        by_cases e : i = n
        · rw [e] at ho ⊢
          by_cases w : v n < yMn s ok v n
          · exact absurd ⟨ho, Or.inr w⟩ q
          · omega
        · exact x4 i (by omega) ho
theorem yMn_b {s B : Int} {ok : Nat → Bool} {v : Nat → Int} {n : Nat} (h0 : -B ≤ s ∧ s ≤ B) (h : ∀ j, j < n → -B ≤ v j ∧ v j ≤ B) : ∀ k, k ≤ n → -B ≤ yMn s ok v k ∧ yMn s ok v k ≤ B := by
  intro k
  induction k with
  | zero => exact fun _ => h0
  | succ k ih =>
    intro hk
    rw [yMn]
    split
    · exact h k (by omega)
    · exact ih (by omega)
def yMx (f : Nat → Int) : Nat → Int
  | 0 => -1
  | k + 1 => if yMx f k < f k then f k else yMx f k
theorem yMx_s {f : Nat → Int} : ∀ n, -1 ≤ yMx f n ∧ ∀ k, k < n → f k ≤ yMx f n := by
  intro n
  induction n with
  | zero => exact ⟨Int.le_refl _, fun k hk => absurd hk (by omega)⟩
  | succ n ih =>
    rw [yMx]
    split
    · refine ⟨by omega, fun k hk => ?_⟩
      by_cases e : k = n
      · rw [e]
        exact Int.le_refl _
      · have := ih.2 k (by omega)
        omega
    · refine ⟨ih.1, fun k hk => ?_⟩
      by_cases e : k = n
      · rw [e]
        omega
      · exact ih.2 k (by omega)
theorem yMx_le {f : Nat → Int} {X : Int} (h0 : -1 ≤ X) : ∀ n, (∀ k, k < n → f k ≤ X) → yMx f n ≤ X := by
  intro n
  induction n with
  | zero => exact fun _ => h0
  | succ n ih =>
    intro h
    rw [yMx]
    split
    · exact h n (by omega)
    · exact ih (fun k hk => h k (by omega))
section
variable {tr hr : Nat → Int} {n k : Nat}
def yQc (tr hr : Nat → Int) (k : Nat) : Nat → Int := yMn 0 (fun j => decide (tr j = tr k ∧ 0 < hr j - hr k)) (fun j => hr j - hr k)
def yQm (tr hr : Nat → Int) (k : Nat) : Nat → Int := yMn (-1) (fun j => decide (j ≠ k ∧ tr j = tr k ∧ (0 < hr j - hr k ∨ hr j - hr k = 0 ∧ k ≤ j))) (fun j => hr j - hr k)
theorem yQc_s : ∀ n, (yQc tr hr k n = 0 ∧ ∀ j, j < n → tr j = tr k → ¬ 0 < hr j - hr k) ∨ ((∃ j, j < n ∧ (tr j = tr k ∧ 0 < hr j - hr k) ∧ hr j - hr k = yQc tr hr k n) ∧ ∀ i, i < n → tr i = tr k → 0 < hr i - hr k → yQc tr hr k n ≤ hr i - hr k) := by
  intro n
  rcases yMn_s (s := 0) (ok := fun j => decide (tr j = tr k ∧ 0 < hr j - hr k)) (v := fun j => hr j - hr k) (fun j hj => by have := of_decide_eq_true hj; omega) n with ⟨a, b⟩ | ⟨⟨j, a, b, c⟩, e⟩
  · exact Or.inl ⟨a, fun j hj ht hp => of_decide_eq_false (b j hj) ⟨ht, hp⟩⟩
  · exact Or.inr ⟨⟨j, a, of_decide_eq_true b, c⟩, fun i hi ht hp => e i hi (decide_eq_true ⟨ht, hp⟩)⟩
theorem yQm_s : ∀ n, (yQm tr hr k n = -1 ∧ ∀ j, j < n → ¬ (j ≠ k ∧ tr j = tr k ∧ (0 < hr j - hr k ∨ hr j - hr k = 0 ∧ k ≤ j))) ∨ ((∃ j, j < n ∧ (j ≠ k ∧ tr j = tr k ∧ (0 < hr j - hr k ∨ hr j - hr k = 0 ∧ k ≤ j)) ∧ hr j - hr k = yQm tr hr k n) ∧ ∀ i, i < n → (i ≠ k ∧ tr i = tr k ∧ (0 < hr i - hr k ∨ hr i - hr k = 0 ∧ k ≤ i)) → yQm tr hr k n ≤ hr i - hr k) := by
  intro n
  rcases yMn_s (s := -1) (ok := fun j => decide (j ≠ k ∧ tr j = tr k ∧ (0 < hr j - hr k ∨ hr j - hr k = 0 ∧ k ≤ j))) (v := fun j => hr j - hr k) (fun j hj => by have := of_decide_eq_true hj; omega) n with ⟨a, b⟩ | ⟨⟨j, a, b, c⟩, e⟩
  · exact Or.inl ⟨a, fun j hj => of_decide_eq_false (b j hj)⟩
  · exact Or.inr ⟨⟨j, a, of_decide_eq_true b, c⟩, fun i hi ho => e i hi (decide_eq_true ho)⟩
theorem yQm_0 {j : Nat} (hj : j < n) (ho : j ≠ k ∧ tr j = tr k ∧ (0 < hr j - hr k ∨ hr j - hr k = 0 ∧ k ≤ j)) : 0 ≤ yQm tr hr k n := by
  rcases yQm_s (tr := tr) (hr := hr) (k := k) n with ⟨a, b⟩ | ⟨⟨i, a, b, c⟩, e⟩
  · exact absurd ho (b j hj)
  · omega
theorem yQm_l {g : Int} : ∀ (d k : Nat), n - k ≤ d → k < n → (∃ i, i < n ∧ tr i = tr k ∧ 0 < hr i - hr k) → (∀ i, i < n → tr i = tr k → 0 < hr i - hr k → g ≤ hr i - hr k) → ∃ k', k' < n ∧ g ≤ yQm tr hr k' n := by
  intro d
  induction d with
  | zero => intro k h hk; omega
  | succ d ih =>
    intro k h hk hex hmin
    by_cases q : ∃ j, k < j ∧ j < n ∧ tr j = tr k ∧ hr j = hr k
    · obtain ⟨j, a, b, c, e⟩ := q
      refine ih j (by omega) b ?_ ?_
      · rw [c, e]
        exact hex
      · rw [c, e]
        exact hmin
    · refine ⟨k, hk, ?_⟩
      obtain ⟨i, a, b, c⟩ := hex
      rcases yQm_s (tr := tr) (hr := hr) (k := k) n with ⟨x1, x2⟩ | ⟨⟨j, x1, x2, x3⟩, x4⟩
      · exact absurd ⟨fun w => by rw [w] at c; omega, b, Or.inl c⟩ (x2 i a)
      · rw [← x3]
        obtain ⟨w1, w2, w3⟩ := x2
        rcases w3 with w3 | w3
        · exact hmin j x1 w2 w3
        · exact absurd ⟨j, by omega, x1, w2, by omega⟩ q
theorem yQ_eq {C : Nat → Int} (h1 : ∀ k, k < n → (¬ ∃ j, j < n ∧ j ≠ k ∧ tr j = tr k) → C k = -1) (h2 : ∀ k, k < n → (∃ j, j < n ∧ j ≠ k ∧ tr j = tr k) → C k = yQc tr hr k n) : yMx C n = yMx (fun k => yQm tr hr k n) n := by
  have mM := yMx_s (f := fun k => yQm tr hr k n) n
  have mC := yMx_s (f := C) n
  refine Int.le_antisymm (yMx_le mM.1 n fun k hk => ?_) (yMx_le mC.1 n fun k hk => ?_)
  · by_cases q : ∃ j, j < n ∧ j ≠ k ∧ tr j = tr k
    · rw [h2 k hk q]
      rcases yQc_s (tr := tr) (hr := hr) (k := k) n with ⟨a, b⟩ | ⟨⟨i, a, b, c⟩, e⟩
      · rw [a]
        obtain ⟨j, j1, j2, j3⟩ := q
        have hb := b j j1 j3
        by_cases w : hr j < hr k
        · have z := yQm_0 (n := n) (tr := tr) (hr := hr) (k := j) (j := k) hk ⟨fun w => j2 w.symm, j3.symm, Or.inl (by omega)⟩
          exact Int.le_trans z (mM.2 j j1)
        · by_cases w2 : j < k
          · have z := yQm_0 (n := n) (tr := tr) (hr := hr) (k := j) (j := k) hk ⟨fun w => j2 w.symm, j3.symm, Or.inr ⟨by omega, by omega⟩⟩
            exact Int.le_trans z (mM.2 j j1)
          · have z := yQm_0 (n := n) (tr := tr) (hr := hr) (k := k) (j := j) j1 ⟨j2, j3, Or.inr ⟨by omega, by omega⟩⟩
            exact Int.le_trans z (mM.2 k hk)
      · obtain ⟨k', z1, z2⟩ := yQm_l (tr := tr) (hr := hr) (g := yQc tr hr k n) (n - k) k (Nat.le_refl _) hk ⟨i, a, b⟩ e
        exact Int.le_trans z2 (mM.2 k' z1)
    · rw [h1 k hk q]
      exact mM.1
  · show yQm tr hr k n ≤ _
    rcases yQm_s (tr := tr) (hr := hr) (k := k) n with ⟨x1, x2⟩ | ⟨⟨j, x1, x2, x3⟩, x4⟩
    · rw [x1]
      exact mC.1
    · have hC := h2 k hk ⟨j, x1, x2.1, x2.2.1⟩
      have hle := mC.2 k hk
      rcases yQc_s (tr := tr) (hr := hr) (k := k) n with ⟨a, b⟩ | ⟨⟨i, a, b, c⟩, e⟩
      · have := b j x1 x2.2.1
        omega
      · have := x4 i a ⟨fun w => by rw [w] at b; omega, b.1, Or.inl b.2⟩
        omega
end
theorem yCt_2 {b : yTb} {f k n : Nat} (hk : k < n) : (yCt b f (b.2 k f) n ≤ 1) ↔ ¬ ∃ j, j < n ∧ j ≠ k ∧ b.2 j f = b.2 k f := by
  constructor
  · intro h ⟨j, j1, j2, j3⟩
    have key : ∀ i, (if k < i then 1 else 0) + (if j < i then 1 else 0) ≤ yCt b f (b.2 k f) i := by
      intro i
      induction i with
      | zero => exact Nat.le_refl 0
      | succ i ih =>
        rw [yCt]
        by_cases e1 : i = k
        · rw [e1] at ih ⊢
          rw [if_neg (by omega)] at ih
          rw [if_pos (by omega), if_pos rfl]
          by_cases e2 : j < k
          · rw [if_pos e2] at ih
            rw [if_pos (by omega)]
            omega
          · rw [if_neg e2] at ih
            rw [if_neg (by omega)]
            omega
        · by_cases e2 : i = j
          · rw [e2] at ih ⊢
            rw [if_neg (show ¬ j < j by omega)] at ih
            rw [if_pos (show j < j + 1 by omega), if_pos j3]
            by_cases e3 : k < j
            · rw [if_pos e3] at ih
              rw [if_pos (by omega)]
              omega
            · rw [if_neg e3] at ih
              rw [if_neg (by omega)]
              omega
          · have f1 : (if k < i + 1 then 1 else 0) = (if k < i then 1 else 0) := by
              by_cases w : k < i
              · rw [if_pos w, if_pos (by omega)]
              · rw [if_neg w, if_neg (by omega)]
            have f2 : (if j < i + 1 then 1 else 0) = (if j < i then 1 else 0) := by
              by_cases w : j < i
              · rw [if_pos w, if_pos (by omega)]
              · rw [if_neg w, if_neg (by omega)]
            rw [f1, f2]
            exact Nat.le_trans ih (Nat.le_add_right _ _)
    have := key n
    rw [if_pos hk, if_pos j1] at this
    omega
  · intro h
    have key : ∀ i, i ≤ n → yCt b f (b.2 k f) i ≤ if k < i then 1 else 0 := by
      intro i
      induction i with
      | zero => exact fun _ => Nat.le_refl 0
      | succ i ih =>
        intro hi
        have := ih (by omega)
        rw [yCt]
        by_cases e : i = k
        · rw [if_neg (by omega)] at this
          rw [if_pos (show k < i + 1 by omega)]
          split <;> omega
        · rw [if_neg (fun w => h ⟨i, by omega, e, w⟩)]
          by_cases w : k < i
          · rw [if_pos w] at this
            rw [if_pos (by omega)]
            omega
          · rw [if_neg w] at this
            rw [if_neg (by omega)]
            omega
    have := key n (Nat.le_refl _)
    rw [if_pos hk] at this
    exact this
section
variable {d L r : Nat} {I : Nat → Nat → Int32} {J : Nat → Nat → Int64}
theorem cNext (hd : 3 ≤ d) {b : yTb} {n m c : Nat} (hb : cTb 49 5 I b) (hw : wTb n m c 5 b) (hm : m ≤ 20) {k : Nat} (hk : k < b.1) : zCd zT d 194 [.ref 16, .int (zi (k : Int))] (zm L I J r) = some (some (.int (zi (yQc (fun j => b.2 j 0) (fun j => b.2 j 2) k b.1))), (zm L I J r)) := by
  obtain ⟨e, rfl⟩ : ∃ e, d = e + 1 := ⟨d - 1, by omega⟩
  have hb20 : b.1 ≤ 20 := hw.1
  have hsz : zCd zT e 64 [.ref 49] (zm L I J r) = some (some (.int (zi (b.1 : Int))), (zm L I J r)) := cTSize (b := b) (by omega) (by decide) hb
  have g2 : ∀ j, j < b.1 → zCd zT e 68 [.ref 49, .int (zi ((j : Nat) : Int)), .int 2] (zm L I J r) = some (some (.int (zi (b.2 j 2))), (zm L I J r)) := fun j hj => cGetO (q := 5) (by omega) rfl (by decide) hb hw.1 (k := (j : Int)) (f := ((2 : Nat) : Int)) (by omega) (by decide)
  have g0 : ∀ j, j < b.1 → zCd zT e 68 [.ref 49, .int (zi ((j : Nat) : Int)), .int 0] (zm L I J r) = some (some (.int (zi (b.2 j 0))), (zm L I J r)) := fun j hj => cGetO (q := 5) (by omega) rfl (by decide) hb hw.1 (k := (j : Int)) (f := ((0 : Nat) : Int)) (by omega) (by decide)
  have wk := yW5 hw hm hk
  have c1 := zFor (n := b.1) (G := fun j => zX 0 (zCd zT e) zc_X11_hoursToNext 1 [some (.ref 16), some (.int (zi (k : Int))), some (.ref 49), some (.int (zi (yQc (fun j => b.2 j 0) (fun j => b.2 j 2) k j))), some (.int (zi ((j : Nat) : Int))), none, none] [] (zm L I J r)) (fun j hj => by
    have wj := yW5 hw hm hj
    have k1 : zi ((j : Nat) : Int) + (1 : Int32) = zi ((j + 1 : Nat) : Int) := zi_add _ 1
    have bm : -9999 ≤ yQc (fun j => b.2 j 0) (fun j => b.2 j 2) k j ∧ yQc (fun j => b.2 j 0) (fun j => b.2 j 2) k j ≤ 9999 := yMn_b (B := 9999) (n := b.1) (by decide) (fun i hi => by
      have wi := yW5 hw hm hi
      show -9999 ≤ b.2 i 2 - b.2 k 2 ∧ b.2 i 2 - b.2 k 2 ≤ 9999
      omega) j (by omega)
    have hs : yQc (fun j => b.2 j 0) (fun j => b.2 j 2) k (j + 1) = if (b.2 j 0 = b.2 k 0 ∧ 0 < b.2 j 2 - b.2 k 2) ∧ (yQc (fun j => b.2 j 0) (fun j => b.2 j 2) k j = 0 ∨ b.2 j 2 - b.2 k 2 < yQc (fun j => b.2 j 0) (fun j => b.2 j 2) k j) then b.2 j 2 - b.2 k 2 else yQc (fun j => b.2 j 0) (fun j => b.2 j 2) k j := by
      unfold yQc
      rw [yMn]
      simp only [decide_eq_true_eq]
    rw [hs]
    generalize yQc (fun j => b.2 j 0) (fun j => b.2 j 2) k j = A at bm ⊢
    have kd : zi (b.2 j 2) - zi (b.2 k 2) = zi (b.2 j 2 - b.2 k 2) := zi_sub _ _
    have d0 : zi (b.2 j 2 - b.2 k 2) ≤ (0 : Int32) ↔ b.2 j 2 - b.2 k 2 ≤ 0 := zi_le (y := 0) (by omega) (by decide)
    have d1 : zi A = (0 : Int32) ↔ A = 0 := zi_eq (y := 0) (by omega) (by decide)
    have d2 : zi A ≤ zi (b.2 j 2 - b.2 k 2) ↔ A ≤ b.2 j 2 - b.2 k 2 := zi_le (by omega) (by omega)
    have d3 : zi (b.2 j 0) = zi (b.2 k 0) ↔ b.2 j 0 = b.2 k 0 := zi_eq (by omega) (by omega)
    have no : zX 0 (zCd zT e) zc_X11_hoursToNext 6 [some (.ref 16), some (.int (zi (k : Int))), some (.ref 49), some (.int (zi A)), some (.int (zi ((j : Nat) : Int))), some (.int (zi (b.2 j 2 - b.2 k 2))), none] [] (zm L I J r) = zX 0 (zCd zT e) zc_X11_hoursToNext 1 [some (.ref 16), some (.int (zi (k : Int))), some (.ref 49), some (.int (zi A)), some (.int (zi ((j + 1 : Nat) : Int))), none, none] [] (zm L I J r) := by
      rw [eX11_hoursToNext_6, eX11_hoursToNext_7, if_pos rfl, eX11_hoursToNext_10, k1]
    have yes : (A = 0 ∨ b.2 j 2 - b.2 k 2 < A) → 0 < b.2 j 2 - b.2 k 2 → zX 0 (zCd zT e) zc_X11_hoursToNext 5 [some (.ref 16), some (.int (zi (k : Int))), some (.ref 49), some (.int (zi A)), some (.int (zi ((j : Nat) : Int))), some (.int (zi (b.2 j 2 - b.2 k 2))), none] [] (zm L I J r) = zX 0 (zCd zT e) zc_X11_hoursToNext 1 [some (.ref 16), some (.int (zi (k : Int))), some (.ref 49), some (.int (zi (if (b.2 j 0 = b.2 k 0 ∧ 0 < b.2 j 2 - b.2 k 2) ∧ (A = 0 ∨ b.2 j 2 - b.2 k 2 < A) then b.2 j 2 - b.2 k 2 else A))), some (.int (zi ((j + 1 : Nat) : Int))), none, none] [] (zm L I J r) := by
      intro p1 p2
      rw [eX11_hoursToNext_5, eX11_hoursToNext_7, if_neg (show ¬ (1 : Int32) = 0 by decide), g0 j hj, zbI_s, eX11_hoursToNext_8, g0 k hk, zbI_s, eX11_hoursToNext_9]
      by_cases q : b.2 j 0 = b.2 k 0
      · rw [if_pos (d3.mpr q), if_pos ⟨⟨q, p2⟩, p1⟩, eX11_hoursToNext_10, k1]
      · rw [if_neg (fun w => q (d3.mp w)), if_neg (fun w => q w.1.1), eX11_hoursToNext_10, k1]
    rw [eX11_hoursToNext_1, hsz, zbI_s, eX11_hoursToNext_2, if_neg (show ¬ zi (b.1 : Int) ≤ zi ((j : Nat) : Int) by rw [zi_le (by omega) (by omega)]; omega), g2 j hj, zbI_s, eX11_hoursToNext_3, g2 k hk, zbI_s, eX11_hoursToNext_4, kd]
    by_cases q0 : b.2 j 2 - b.2 k 2 ≤ 0
    · rw [if_pos (d0.mpr q0), if_neg (fun w => by have := w.1.2; omega)]
      exact no
    · rw [if_neg (fun w => q0 (d0.mp w))]
      by_cases q1 : A = 0
      · rw [if_pos (d1.mpr q1)]
        exact yes (Or.inl q1) (by omega)
      · rw [if_neg (fun w => q1 (d1.mp w))]
        by_cases q2 : A ≤ b.2 j 2 - b.2 k 2
        · rw [if_pos (d2.mpr q2), if_neg (fun w => by rcases w.2 with w | w <;> omega)]
          exact no
        · rw [if_neg (fun w => q2 (d2.mp w))]
          exact yes (Or.inr (by omega)) (by omega))
  have z0 : zX 0 (zCd zT e) zc_X11_hoursToNext 1 [some (.ref 16), some (.int (zi (k : Int))), some (.ref 49), some (.int 0), some (.int 0), none, none] [] (zm L I J r) = _ := c1
  rw [qX11_hoursToNext, eX11_hoursToNext_0, z0, eX11_hoursToNext_1, hsz, zbI_s, eX11_hoursToNext_2, if_pos (Int32.le_refl _), eX11_hoursToNext_11]
theorem mNext (hd : 1 ≤ d) {b : yTb} {n m c : Nat} (hb : mTb 5 (I 131) b) (hw : wTb n m c 5 b) (hm : m ≤ 20) {k : Nat} (hk : k < b.1) : zCd zT d 344 [.ref 130, .int (zi (k : Int))] (zm L I J r) = some (some (.int (zi (yQm (fun j => b.2 j 0) (fun j => b.2 j 2) k b.1))), (zm L I J r)) := by
  obtain ⟨e, rfl⟩ : ∃ e, d = e + 1 := ⟨d - 1, by omega⟩
  have hb20 : b.1 ≤ 20 := hw.1
  have h3 : I 131 733 = zi b.1 := hb.1
  have g2 : ∀ j, j < b.1 → I 131 (774 + j) = zi (b.2 j 2) := fun j hj => hb.2 j 2 hj (by decide)
  have g0 : ∀ j, j < b.1 → I 131 (734 + j) = zi (b.2 j 0) := fun j hj => hb.2 j 0 hj (by decide)
  have wk := yW5 hw hm hk
  have a2 : ∀ j : Nat, (774 : Int32) + zi (j : Int) = zi ((774 + j : Nat) : Int) := fun j => zi_add 774 _
  have a0 : ∀ j : Nat, (734 : Int32) + zi (j : Int) = zi ((734 + j : Nat) : Int) := fun j => zi_add 734 _
  have c1 := zFor (n := b.1) (G := fun j => zX 0 (zCd zT e) zc_X12_nextOf 1 [some (.ref 130), some (.int (zi (k : Int))), some (.int (zi (yQm (fun j => b.2 j 0) (fun j => b.2 j 2) k j))), some (.int (zi ((j : Nat) : Int))), none] [] (zm L I J r)) (fun j hj => by
    have wj := yW5 hw hm hj
    have k1 : zi ((j : Nat) : Int) + (1 : Int32) = zi ((j + 1 : Nat) : Int) := zi_add _ 1
    have bm : -9999 ≤ yQm (fun j => b.2 j 0) (fun j => b.2 j 2) k j ∧ yQm (fun j => b.2 j 0) (fun j => b.2 j 2) k j ≤ 9999 := yMn_b (B := 9999) (n := b.1) (by decide) (fun i hi => by
      have wi := yW5 hw hm hi
      show -9999 ≤ b.2 i 2 - b.2 k 2 ∧ b.2 i 2 - b.2 k 2 ≤ 9999
      omega) j (by omega)
    have hs : yQm (fun j => b.2 j 0) (fun j => b.2 j 2) k (j + 1) = if (j ≠ k ∧ b.2 j 0 = b.2 k 0 ∧ (0 < b.2 j 2 - b.2 k 2 ∨ b.2 j 2 - b.2 k 2 = 0 ∧ k ≤ j)) ∧ (yQm (fun j => b.2 j 0) (fun j => b.2 j 2) k j = -1 ∨ b.2 j 2 - b.2 k 2 < yQm (fun j => b.2 j 0) (fun j => b.2 j 2) k j) then b.2 j 2 - b.2 k 2 else yQm (fun j => b.2 j 0) (fun j => b.2 j 2) k j := by
      unfold yQm
      rw [yMn]
      simp only [decide_eq_true_eq]
    rw [hs]
    generalize yQm (fun j => b.2 j 0) (fun j => b.2 j 2) k j = A at bm ⊢
    have kd : zi (b.2 j 2) - zi (b.2 k 2) = zi (b.2 j 2 - b.2 k 2) := zi_sub _ _
    have d0 : zi (b.2 j 2 - b.2 k 2) < (0 : Int32) ↔ b.2 j 2 - b.2 k 2 < 0 := zi_lt (y := 0) (by omega) (by decide)
    have d4 : zi (b.2 j 2 - b.2 k 2) = (0 : Int32) ↔ b.2 j 2 - b.2 k 2 = 0 := zi_eq (y := 0) (by omega) (by decide)
    have d1 : zi A = (-1 : Int32) ↔ A = -1 := zi_m1 (by omega)
    have d2 : zi A ≤ zi (b.2 j 2 - b.2 k 2) ↔ A ≤ b.2 j 2 - b.2 k 2 := zi_le (by omega) (by omega)
    have d3 : zi (b.2 j 0) = zi (b.2 k 0) ↔ b.2 j 0 = b.2 k 0 := zi_eq (by omega) (by omega)
    have d5 : zi ((j : Nat) : Int) = zi (k : Int) ↔ j = k := by rw [zi_eq (by omega) (by omega)]; omega
    have d6 : zi (k : Int) ≤ zi ((j : Nat) : Int) ↔ k ≤ j := by rw [zi_le (by omega) (by omega)]; omega
    have no : zX 0 (zCd zT e) zc_X12_nextOf 6 [some (.ref 130), some (.int (zi (k : Int))), some (.int (zi A)), some (.int (zi ((j : Nat) : Int))), some (.int (zi (b.2 j 2 - b.2 k 2)))] [] (zm L I J r) = zX 0 (zCd zT e) zc_X12_nextOf 1 [some (.ref 130), some (.int (zi (k : Int))), some (.int (zi A)), some (.int (zi ((j + 1 : Nat) : Int))), none] [] (zm L I J r) := by
      rw [eX12_nextOf_6, k1]
    have yes : (j ≠ k ∧ b.2 j 0 = b.2 k 0 ∧ (0 < b.2 j 2 - b.2 k 2 ∨ b.2 j 2 - b.2 k 2 = 0 ∧ k ≤ j)) → zX 0 (zCd zT e) zc_X12_nextOf 2 [some (.ref 130), some (.int (zi (k : Int))), some (.int (zi A)), some (.int (zi ((j : Nat) : Int))), some (.int (zi (b.2 j 2 - b.2 k 2)))] [] (zm L I J r) = zX 0 (zCd zT e) zc_X12_nextOf 1 [some (.ref 130), some (.int (zi (k : Int))), some (.int (zi (if (j ≠ k ∧ b.2 j 0 = b.2 k 0 ∧ (0 < b.2 j 2 - b.2 k 2 ∨ b.2 j 2 - b.2 k 2 = 0 ∧ k ≤ j)) ∧ (A = -1 ∨ b.2 j 2 - b.2 k 2 < A) then b.2 j 2 - b.2 k 2 else A))), some (.int (zi ((j + 1 : Nat) : Int))), none] [] (zm L I J r) := by
      intro p
      rw [eX12_nextOf_2]
      by_cases q1 : A = -1
      · rw [if_pos (d1.mpr q1), if_pos ⟨p, Or.inl q1⟩, eX12_nextOf_3, eX12_nextOf_5, eX12_nextOf_6, k1]
      · rw [if_neg (fun w => q1 (d1.mp w))]
        by_cases q2 : A ≤ b.2 j 2 - b.2 k 2
        · rw [if_pos (d2.mpr q2), if_neg (fun w => by rcases w.2 with w | w <;> omega), eX12_nextOf_4, eX12_nextOf_5, eX12_nextOf_6, k1]
        · rw [if_neg (fun w => q2 (d2.mp w)), if_pos ⟨p, Or.inr (by omega)⟩, eX12_nextOf_3, eX12_nextOf_5, eX12_nextOf_6, k1]
    rw [eX12_nextOf_1, h3, if_neg (show ¬ zi (b.1 : Int) ≤ zi ((j : Nat) : Int) by rw [zi_le (by omega) (by omega)]; omega), a2, a2, a0, a0, zin_t (by omega) (by omega), zgd_t, zin_t (by omega) (by omega), zgd_t, zi_cl (by omega), zi_cl (by omega), Int.toNat_natCast, Int.toNat_natCast, g2 j hj, g2 k hk, kd]
    by_cases q0 : j = k
    · rw [if_pos (d5.mpr q0), if_neg (fun w => w.1.1 q0)]
      exact no
    · rw [if_neg (fun w => q0 (d5.mp w)), zin_t (by omega) (by omega), zgd_t, zin_t (by omega) (by omega), zgd_t, zi_cl (by omega), zi_cl (by omega), Int.toNat_natCast, Int.toNat_natCast, g0 j hj, g0 k hk]
      by_cases q1 : b.2 j 0 = b.2 k 0
      · rw [if_pos (d3.mpr q1)]
        by_cases q2 : b.2 j 2 - b.2 k 2 < 0
        · rw [if_pos (d0.mpr q2), if_neg (fun w => by rcases w.1.2.2 with w | w <;> omega)]
          exact no
        · rw [if_neg (fun w => q2 (d0.mp w))]
          by_cases q3 : b.2 j 2 - b.2 k 2 = 0
          · rw [if_pos (d4.mpr q3)]
            by_cases q4 : k ≤ j
            · rw [if_pos (d6.mpr q4)]
              exact yes ⟨q0, q1, Or.inr ⟨q3, q4⟩⟩
            · rw [if_neg (fun w => q4 (d6.mp w)), if_neg (fun w => by rcases w.1.2.2 with w | w <;> omega)]
              exact no
          · rw [if_neg (fun w => q3 (d4.mp w))]
            exact yes ⟨q0, q1, Or.inl (by omega)⟩
      · rw [if_neg (fun w => q1 (d3.mp w)), if_neg (fun w => q1 w.1.2.1)]
        exact no)
  have z0 : zX 0 (zCd zT e) zc_X12_nextOf 1 [some (.ref 130), some (.int (zi (k : Int))), some (.int (-1)), some (.int 0), none] [] (zm L I J r) = _ := c1
  rw [qX12_nextOf, eX12_nextOf_0, z0, eX12_nextOf_1, h3, if_pos (Int32.le_refl _), eX12_nextOf_7]
end
