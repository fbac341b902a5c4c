/-! frames -/
theorem cTr_fr {D : Nat} {I I' : Nat → Nat → Int32} {J J' : Nat → Nat → Int64} {t : zDy} (h : ∀ o, 32 ≤ o → o ≤ 35 → I' (o + D) = I (o + D)) (g : ∀ o, 32 ≤ o → o ≤ 36 → J' (o + D) = J (o + D)) (hc : cTr D I J t) : cTr D I' J' t := by
  unfold cTr at *
  rw [h 32 (by omega) (by omega), h 33 (by omega) (by omega), h 34 (by omega) (by omega), h 35 (by omega) (by omega), g 36 (by omega) (by omega), g 32 (by omega) (by omega)]
  exact hc
theorem cRl_fr {D : Nat} {I I' : Nat → Nat → Int32} {J J' : Nat → Nat → Int64} {u : yRl} (h : I' (37 + D) = I (37 + D)) (g : J' (38 + D) = J (38 + D)) (hc : cRl D I J u) : cRl D I' J' u := by
  unfold cRl at *
  rw [h, g]
  exact hc
theorem cTb_fr {o q : Nat} {I I' : Nat → Nat → Int32} {b : yTb} (h : I' o = I o) (g : I' (o + 1) = I (o + 1)) (hc : cTb o q I b) : cTb o q I' b := by
  unfold cTb at *
  rw [h, g]
  exact hc
theorem cDay_fr {D : Nat} {I I' : Nat → Nat → Int32} {J J' : Nat → Nat → Int64} {y : zFd} (h : ∀ o, 31 ≤ o → o ≤ 55 → I' (o + D) = I (o + D)) (g : ∀ o, 31 ≤ o → o ≤ 55 → J' (o + D) = J (o + D)) (hc : cDay D I J y) : cDay D I' J' y := by
  refine ⟨cTr_fr (fun o a b => h o (by omega) (by omega)) (fun o a b => g o (by omega) (by omega)) hc.1, cRl_fr (h 37 (by omega) (by omega)) (g 38 (by omega) (by omega)) hc.2.1, fun q hq => cTb_fr (h _ (by omega) (by omega)) ?_ (hc.2.2.1 q hq), fun c h2 => ?_⟩
  · rw [show 39 + 2 * q + D + 1 = (39 + 2 * q + 1) + D by omega]
    exact h _ (by omega) (by omega)
  · rw [h 55 (by omega) (by omega)]
    exact hc.2.2.2 c h2
theorem mTr_fr {O : Nat} {I I' : Nat → Nat → Int32} {t : zDy} (hw : wTr t) (h : ∀ k, k < 81 → I' 131 (O + k) = I 131 (O + k)) (hm : mTr O I t) : mTr O I' t := by
  obtain ⟨m1, m2, m3, m4, m5, m6, m7, m8, m9, m10⟩ := hm
  obtain ⟨w1, w2, w3, w4, w5, w6, w7, w8, w9, w10⟩ := hw
  have h0 : I' 131 O = I 131 O := h 0 (by omega)
  refine ⟨by rw [h0, m1], fun p hp => by rw [h _ (by omega), m2 p hp], by rw [h _ (by omega), m3], fun i hi => by rw [h _ (by omega), m4 i hi], by rw [h _ (by omega), m5], fun c hc => ?_, by rw [h _ (by omega), m7], fun c hc => ?_, by rw [h _ (by omega), m9], by rw [h _ (by omega), m10]⟩
  · rw [h _ (by omega), h _ (by omega), h _ (by omega)]
    exact m6 c hc
  · rw [h _ (by omega), h _ (by omega)]
    exact m8 c hc
