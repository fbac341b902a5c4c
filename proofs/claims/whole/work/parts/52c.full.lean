theorem zPl_fr {g g' : Nat → Int32} {s : Nat} (h : ∀ k, 118 ≤ k → k < 618 → g' k = g k) : ∀ (n i : Nat) (st : List Bool), i + n ≤ 250 → zPl g' s i n st = zPl g s i n st := by
  intro n
  induction n with
  | zero => intro i st _; rfl
  | succ n ih =>
    intro i st hi
    unfold zPl
    rw [h (118 + 2 * i) (by omega) (by omega), h (119 + 2 * i) (by omega) (by omega)]
    cases yOp (g (118 + 2 * i)) (g (119 + 2 * i)) s st with
    | none => rfl
    | some x => exact ih (i + 1) x (by omega)
theorem mRl_fr {g g' : Nat → Int32} {u : yRl} {m : Nat} (hw : wRl m u) (h : ∀ k, 81 ≤ k → k < 618 → g' k = g k) (hm : mRl g u) : mRl g' u := by
  refine ⟨by rw [h 81 (by omega) (by omega)]; exact hm.1, fun k hk => ?_⟩
  have w := hw.1
  obtain ⟨a, fr, n, b, c, d, e⟩ := hm.2 k hk
  exact ⟨by rw [h _ (by omega) (by omega)]; exact a, fr, n, by rw [h _ (by omega) (by omega)]; exact b, by rw [h _ (by omega) (by omega)]; exact c, d, fun s hs => by rw [zPl_fr (fun k a b => h k (by omega) b) n fr [] d]; exact e s hs⟩
