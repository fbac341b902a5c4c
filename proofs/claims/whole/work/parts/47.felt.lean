theorem zStp_out {n : Nat} {h ch : Nat → Int} {cp : Int → Int} {dg : Nat → Bool} {loss : Int} {s : zS} (ha : s.2.1 + 1 < n) (ho : ∀ p, n ≤ p → zfSp s p = -1) : ∀ p, n ≤ p → zfSp (zStp h ch cp dg loss s).2 p = -1 := by
  obtain ⟨fo, at1, pa, ti, tu, tp, td, pul, sl, fs, ft⟩ := s
  have ha2 : at1 + 1 < n := ha
  intro p hp
  have hp1 : fs p = -1 := ho p hp
  by_cases q : fo = false ∧ dg at1 = true
  · rw [zStp_a q]
    exact hp1
  · by_cases q2 : fo = false ∧ (at1 = 0 ∨ ¬ ch at1 = -1)
    · rw [zStp_b q q2]
      exact hp1
    · rw [zStp_c q q2]
      split
      · exact hp1
      · have hne : ¬ p = (if fo = true then at1 + 1 else at1 - 1) := by
          split <;> omega
        exact (if_neg (fun w => hne w.1)).trans hp1
theorem zRn_out {n : Nat} {h ch : Nat → Int} {cp : Int → Int} {dg : Nat → Bool} {loss : Int} : ∀ (k : Nat) (s : zS), (∀ p, n ≤ p → zfSp s p = -1) → ∀ p, n ≤ p → zfSp (zRn n h ch cp dg loss k s).2 p = -1 := by
  intro k
  induction k with
  | zero => exact fun s ho => ho
  | succ k ih =>
    intro s ho
    by_cases q : n ≤ s.2.1 + 1
    · rw [show zRn n h ch cp dg loss (k + 1) s = (0, s) from if_pos q]
      exact ho
    · have h1 := zStp_out (h := h) (ch := ch) (cp := cp) (dg := dg) (loss := loss) (show s.2.1 + 1 < n by omega) ho
      by_cases q3 : (zStp h ch cp dg loss s).1 = 3
      · rw [show zRn n h ch cp dg loss (k + 1) s = zRn n h ch cp dg loss k (zStp h ch cp dg loss s).2 from (if_neg q).trans (if_pos q3)]
        exact ih _ h1
      · rw [show zRn n h ch cp dg loss (k + 1) s = zStp h ch cp dg loss s from (if_neg q).trans (if_neg q3)]
        exact h1
theorem zRu_out {t : zDy} {loss v : Int} {f : Nat} (hf : f < t.n) : ∀ p, t.n ≤ p → zfSp (zRu t loss f v).2 p = -1 := by
  refine zRn_out 300 _ (fun p hp => ?_)
  exact if_neg (fun w => by have := w.1; omega)
/-- FELT at a POINT by a RUN -/
def zFl (t : zDy) (s : zS) (p seat : Nat) : Int32 := if zfSp s (p + seat) = -1 then -100000 else 10 + (zi (zfSp s (p + seat)) * ((zi (t.h (p - 1)) + zi (t.h (p + 1))) - 2 * zi (t.h p))) / 20
section
variable {d L r : Nat} {I : Nat → Nat → Int32} {J : Nat → Nat → Int64} {t : zDy}
theorem cFirst2 (hd : 2 ≤ d) {s : zS} (h : zRd (0 = 0) I s) (ho : ∀ p, 60 ≤ p → zfSp s p = -1) {p : Nat} (hp : p < 1000) : zCd zT d 31 [.ref 116, .int (zi p)] (zm L I J r) = some (some (.int (zi (zfSp s p))), zm L I J r) := by
  by_cases q : p < 60
  · exact cFirst hd h q
  · have h1 := ho p (by omega)
    obtain ⟨fo, at1, pa, ti, tu, tp, td, pul, sl, fs, ft⟩ := s
    obtain ⟨_, _, fa, h10, f1, f2, f3⟩ := h
    have e1 : zi (p : Int) < 0 ↔ (p : Int) < 0 := zi_lt (y := 0) (by omega) (by decide)
    have e2 : zi fa < zi (p : Int) ↔ fa < p := zi_lt (by omega) (by omega)
    rw [sX3_firstPaceAt hd, h10]
    simp only [e1, e2]
    rw [if_neg (show ¬ (p : Int) < 0 by omega), if_pos (show fa < (p : Int) by omega), if_pos rfl, h1]
    rfl
theorem cFelt (hd : 3 ≤ d) (h : zTI I J t) {s : zS} (hs : zRd (0 = 0) I s) (ho : ∀ p, t.n ≤ p → zfSp s p = -1) (hb : ∀ p, -1 ≤ zfSp s p ∧ zfSp s p ≤ 999) {p seat : Nat} (h1 : 1 ≤ p) (h2 : p + 1 < t.n) (h3 : seat ≤ 9) : zCd zT d 148 [.ref 16, .int (zi p), .int (zi seat)] (zm L I J r) = some (some (.int (zFl t s p seat)), zm L I J r) := by
  obtain ⟨e, rfl⟩ : ∃ e, d = e + 1 := ⟨d - 1, by omega⟩
  have hw := h.2.2.1.1
  have hT := zTI_c h
  have k0 : zi (p : Int) + zi (seat : Int) = zi ((p + seat : Nat) : Int) := zi_add _ _
  have k1 : zi (p : Int) + (1 : Int32) = zi ((p + 1 : Nat) : Int) := zi_add _ 1
  have k2 : zi (p : Int) - (1 : Int32) = zi ((p - 1 : Nat) : Int) := by
    rw [show (1 : Int32) = zi 1 from rfl, zi_sub]
    exact congrArg zi (by omega)
  rw [qX11_feltNow, eX11_feltNow_0, k0, cFirst2 (by omega) hs (fun q hq => ho q (by omega)) (by omega), zbI_s, eX11_feltNow_1]
  have hb1 := hb (p + seat)
  have e1 : zi (zfSp s (p + seat)) = -1 ↔ zfSp s (p + seat) = -1 := by
    rw [show (-1 : Int32) = zi (-1) from rfl]
    exact zi_eq (by omega) (by omega)
  unfold zFl
  by_cases q : zfSp s (p + seat) = -1
  · rw [if_pos (e1.mpr q), if_pos q]
  · rw [if_neg (fun w => q (e1.mp w)), if_neg q, eX11_feltNow_2, k2, cHeight (by omega) hT (show p - 1 < t.n by omega), zbI_s, eX11_feltNow_3, k1, cHeight (by omega) hT h2, zbI_s, eX11_feltNow_4, cHeight (by omega) hT (show p < t.n by omega), zbI_s, eX11_feltNow_5]
theorem mFelt (hd : 2 ≤ d) (h : zTI I J t) {s : zS} (hs : mRd t.n I s) (ho : ∀ p, t.n ≤ p → zfSp s p = -1) {p seat : Nat} (h1 : 1 ≤ p) (h2 : p + 1 < t.n) (h3 : seat ≤ 9) : zCd zT d 287 [.ref 130, .int (zi p), .int (zi seat)] (zm L I J r) = some (some (.int (zFl t s p seat)), zm L I J r) := by
  have hw := h.2.2.1.1
  have hT := zTI_m h
  have hn : I 131 0 = zi t.n := h.2.1.1
  have k0 : zi (p : Int) + zi (seat : Int) = zi ((p + seat : Nat) : Int) := zi_add _ _
  have k1 : (1 : Int32) + zi (p : Int) = zi ((1 + p : Nat) : Int) := zi_add 1 _
  have k2 : zi ((1 + p : Nat) : Int) - (1 : Int32) = zi ((1 + (p - 1) : Nat) : Int) := by
    rw [show (1 : Int32) = zi 1 from rfl, zi_sub]
    exact congrArg zi (by omega)
  have k3 : zi ((1 + p : Nat) : Int) + (1 : Int32) = zi ((1 + (p + 1) : Nat) : Int) := by
    rw [show (1 : Int32) = zi 1 from rfl, zi_add]
    exact congrArg zi (by omega)
  have e1 : zi ((p + seat : Nat) : Int) < (0 : Int32) ↔ ((p + seat : Nat) : Int) < 0 := zi_lt (y := 0) (by omega) (by decide)
  have e2 : zi (t.n : Int) ≤ zi ((p + seat : Nat) : Int) ↔ (t.n : Int) ≤ ((p + seat : Nat) : Int) := zi_le (by omega) (by omega)
  rw [sX12_feltAt hd, k0, k1, k2, k3, hn]
  simp only [e1, e2]
  rw [if_neg (show ¬ ((p + seat : Nat) : Int) < 0 by omega)]
  unfold zFl
  by_cases q0 : (t.n : Int) ≤ ((p + seat : Nat) : Int)
  · rw [if_pos q0, if_pos rfl, if_pos (ho (p + seat) (by omega))]
  · rw [if_neg q0, if_neg (by decide), zin_t (by omega) (by omega), zin_t (by omega) (by omega), zin_t (by omega) (by omega), zin_t (by omega) (by omega), zi_cl (by omega), zi_cl (by omega), zi_cl (by omega), zi_cl (by omega)]
    simp only [zgd_t, Int.toNat_natCast]
    have b0 := (hT.2.2.1 (p - 1) (by omega)).1
    have b1 := (hT.2.2.1 p (by omega)).1
    have b2 := (hT.2.2.1 (p + 1) (by omega)).1
    obtain ⟨fo, at1, pa, ti, tu, tp, td, pul, sl, fs, ft⟩ := s
    have hf := hs.2.2 (p + seat) (by omega)
    have e3 : zi (fs (p + seat)) = -1 ↔ fs (p + seat) = -1 := by
      rw [show (-1 : Int32) = zi (-1) from rfl]
      exact zi_eq (by omega) (by omega)
    show (if I 135 (p + seat) = -1 then _ else _) = some (some (Value.int (if fs (p + seat) = -1 then _ else _)), _)
    rw [hf.1, b0, b1, b2]
    by_cases q : fs (p + seat) = -1
    · rw [if_pos (e3.mpr q), if_pos q]
    · rw [if_neg (fun w => q (e3.mp w)), if_neg q]
      rfl
end
