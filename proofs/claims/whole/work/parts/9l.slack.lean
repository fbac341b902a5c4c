/-! SLACK: a RUN that starts a little faster goes the same way -/
def ySl : zS → Int
  | (_, _, _, _, _, _, _, _, sl, _, _) => sl
def yRl2 (δ : Int) : zS → zS → Prop
  | (fo, at1, pa, _, _, _, td, pul, _, _, _), (fo', at1', pa', _, _, _, td', pul', _, _, _) => fo' = fo ∧ at1' = at1 ∧ td' = td ∧ pul' = pul ∧ pa' = pa + (if pul = true then 0 else δ)
theorem ySl_m {h ch : Nat → Int} {cp : Int → Int} {dg : Nat → Bool} {loss : Int} {s : zS} : ySl (zStp h ch cp dg loss s).2 ≤ ySl s := by
  obtain ⟨fo, at1, pa, ti, tu, tp, td, pul, sl, fs, ft⟩ := s
  by_cases q : fo = false ∧ dg at1 = true
  · rw [zStp_a q]
    exact Int.le_refl _
  · by_cases q2 : fo = false ∧ (at1 = 0 ∨ ¬ ch at1 = -1)
    · rw [zStp_b q q2]
      exact Int.le_refl _
    · rw [zStp_c q q2]
      generalize zNxt h ch cp loss fo at1 pa = x
      split
      · show (if (pul || !decide (ch at1 = -1)) = true then sl else if -x < sl then -x else sl) ≤ sl
        split
        · exact Int.le_refl _
        · split <;> omega
      · show (if (pul || !decide (ch at1 = -1)) = true then sl else if 1000 - (if 999 < x then 999 else x) < sl then 1000 - (if 999 < x then 999 else x) else sl) ≤ sl
        split
        · exact Int.le_refl _
        · split <;> omega
theorem ySl_n {n : Nat} {h ch : Nat → Int} {cp : Int → Int} {dg : Nat → Bool} {loss : Int} : ∀ (k : Nat) (s : zS), ySl (zRn n h ch cp dg loss k s).2 ≤ ySl s := by
  intro k
  induction k with
  | zero => intro s; exact Int.le_refl _
  | succ k ih =>
    intro s
    by_cases q : n ≤ s.2.1 + 1
    · rw [show zRn n h ch cp dg loss (k + 1) s = (0, s) from if_pos q]
      exact Int.le_refl _
    · by_cases q3 : (zStp h ch cp dg loss s).1 = 3
      · rw [show zRn n h ch cp dg loss (k + 1) s = zRn n h ch cp dg loss k (zStp h ch cp dg loss s).2 from (if_neg q).trans (if_pos q3)]
        exact Int.le_trans (ih _) ySl_m
      · rw [show zRn n h ch cp dg loss (k + 1) s = zStp h ch cp dg loss s from (if_neg q).trans (if_neg q3)]
        exact ySl_m
theorem ySl_s {h ch : Nat → Int} {cp : Int → Int} {dg : Nat → Bool} {loss δ : Int} (hcp : ∀ c, 0 ≤ cp c) (h0 : 0 ≤ δ) {s s' : zS} (hr : yRl2 δ s s') (hs : δ < ySl (zStp h ch cp dg loss s).2) : (zStp h ch cp dg loss s').1 = (zStp h ch cp dg loss s).1 ∧ yRl2 δ (zStp h ch cp dg loss s).2 (zStp h ch cp dg loss s').2 := by
  obtain ⟨fo, at1, pa, ti, tu, tp, td, pul, sl, fs, ft⟩ := s
  obtain ⟨fo', at1', pa', ti', tu', tp', td', pul', sl', fs', ft'⟩ := s'
  obtain ⟨rfl, rfl, rfl, rfl, e⟩ := hr
  by_cases q : fo' = false ∧ dg at1' = true
  · rw [zStp_a q, zStp_a q]
    exact ⟨rfl, rfl, rfl, rfl, rfl, e⟩
  · by_cases q2 : fo' = false ∧ (at1' = 0 ∨ ¬ ch at1' = -1)
    · rw [zStp_b q q2, zStp_b q q2]
      exact ⟨rfl, rfl, rfl, rfl, rfl, e⟩
    · rw [zStp_c q q2] at hs
      rw [zStp_c q q2, zStp_c q q2]
      by_cases c0 : ch at1' = -1
      · have en : zNxt h ch cp loss fo' at1' pa' = zNxt h ch cp loss fo' at1' pa + (if pul' = true then 0 else δ) := by
          unfold zNxt
          rw [if_pos c0, if_pos c0, e]
          omega
        rw [en]
        generalize zNxt h ch cp loss fo' at1' pa = x at hs ⊢
        rw [decide_eq_true c0] at hs ⊢
        cases pul'
        · have ef : (if (false : Bool) = true then (0 : Int) else δ) = δ := rfl
          rw [ef]
          by_cases w : x < 0
          · rw [if_pos w] at hs
            have hs : δ < (if -x < sl then -x else sl) := hs
            have w2 : x + δ < 0 := by
              split at hs <;> omega
            rw [if_pos w, if_pos w2]
            exact ⟨rfl, rfl, rfl, rfl, rfl, e⟩
          · rw [if_neg w] at hs
            have hs : δ < (if 1000 - (if 999 < x then 999 else x) < sl then 1000 - (if 999 < x then 999 else x) else sl) := hs
            have w2 : ¬ x + δ < 0 := by omega
            have w3 : (if 999 < x + δ then 999 else x + δ) = (if 999 < x then 999 else x) + δ := by
              by_cases a1 : 999 < x <;> by_cases a2 : 999 < x + δ <;> simp only [a1, a2, if_true, if_false] at hs ⊢ <;> (split at hs <;> omega)
            rw [if_neg w, if_neg w2]
            exact ⟨rfl, rfl, rfl, rfl, rfl, w3⟩
        · show _ ∧ _
          rw [if_pos rfl, Int.add_zero]
          by_cases w : x < 0
          · rw [if_pos w, if_pos w]
            exact ⟨rfl, rfl, rfl, rfl, rfl, e⟩
          · rw [if_neg w, if_neg w]
            exact ⟨rfl, rfl, rfl, rfl, rfl, (Int.add_zero _).symm⟩
      · have en : ∀ p, zNxt h ch cp loss fo' at1' p = cp (ch at1') := fun p => if_neg c0
        have hc := hcp (ch at1')
        have hn : ¬ cp (ch at1') < 0 := by omega
        rw [en, en, if_neg hn, if_neg hn, decide_eq_false c0]
        refine ⟨rfl, rfl, rfl, rfl, rfl, ?_⟩
        cases pul' <;> exact (Int.add_zero _).symm
theorem yRn_r {n : Nat} {h ch : Nat → Int} {cp : Int → Int} {dg : Nat → Bool} {loss δ : Int} (hcp : ∀ c, 0 ≤ cp c) (h0 : 0 ≤ δ) : ∀ (k : Nat) (s s' : zS), yRl2 δ s s' → δ < ySl (zRn n h ch cp dg loss k s).2 → (zRn n h ch cp dg loss k s').1 = (zRn n h ch cp dg loss k s).1 := by
  intro k
  induction k with
  | zero =>
    intro s s' hr _
    obtain ⟨fo, at1, pa, ti, tu, tp, td, pul, sl, fs, ft⟩ := s
    obtain ⟨fo', at1', pa', ti', tu', tp', td', pul', sl', fs', ft'⟩ := s'
    obtain ⟨rfl, rfl, rfl, rfl, e⟩ := hr
    rfl
  | succ k ih =>
    intro s s' hr hs
    have ea : s'.2.1 = s.2.1 := by
      obtain ⟨fo, at1, pa, ti, tu, tp, td, pul, sl, fs, ft⟩ := s
      obtain ⟨fo', at1', pa', ti', tu', tp', td', pul', sl', fs', ft'⟩ := s'
      exact hr.2.1
    by_cases q : n ≤ s.2.1 + 1
    · rw [show zRn n h ch cp dg loss (k + 1) s = (0, s) from if_pos q, show zRn n h ch cp dg loss (k + 1) s' = (0, s') from if_pos (by rw [ea]; exact q)]
    · have q' : ¬ n ≤ s'.2.1 + 1 := by rw [ea]; exact q
      by_cases q3 : (zStp h ch cp dg loss s).1 = 3
      · rw [show zRn n h ch cp dg loss (k + 1) s = zRn n h ch cp dg loss k (zStp h ch cp dg loss s).2 from (if_neg q).trans (if_pos q3)] at hs ⊢
        have st := ySl_s (h := h) (ch := ch) (dg := dg) (loss := loss) hcp h0 hr (Int.lt_of_lt_of_le hs (ySl_n k _))
        rw [show zRn n h ch cp dg loss (k + 1) s' = zRn n h ch cp dg loss k (zStp h ch cp dg loss s').2 from (if_neg q').trans (if_pos (by rw [st.1]; exact q3))]
        exact ih _ _ st.2 hs
      · rw [show zRn n h ch cp dg loss (k + 1) s = zStp h ch cp dg loss s from (if_neg q).trans (if_neg q3)] at hs ⊢
        have st := ySl_s (h := h) (ch := ch) (dg := dg) (loss := loss) hcp h0 hr hs
        rw [show zRn n h ch cp dg loss (k + 1) s' = zStp h ch cp dg loss s' from (if_neg q').trans (if_neg (by rw [st.1]; exact q3))]
        exact st.1
