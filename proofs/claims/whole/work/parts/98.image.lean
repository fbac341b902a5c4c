/-! IMAGE and RESTORE -/
theorem cDay_f2 {D : Nat} {I I' : Nat → Nat → Int32} {J J' : Nat → Nat → Int64} {y : zFd} (h : ∀ o, 32 ≤ o → o ≤ 55 → I' (o + D) = I (o + D)) (g : ∀ o, 32 ≤ o → o ≤ 55 → J' (o + D) = J (o + D)) (hc : cDay D I J y) : cDay D I' J' y := by
  refine ⟨cTr_fr (fun o a b => h o (by omega) (by omega)) (fun o a b => g o (by omega) (by omega)) hc.1, cRl_fr (h 37 (by omega) (by omega)) (g 38 (by omega) (by omega)) hc.2.1, fun q hq => cTb_fr (h _ (by omega) (by omega)) ?_ (hc.2.2.1 q hq), fun c h2 => ?_⟩
  · rw [show 39 + 2 * q + D + 1 = (39 + 2 * q + 1) + D by omega]
    exact h _ (by omega) (by omega)
  · rw [h 55 (by omega) (by omega)]
    exact hc.2.2.2 c h2
theorem zVm_c {c D O : Nat} {I I2 : Nat → Nat → Int32} {J J2 : Nat → Nat → Int64} {j o : Nat} {z : Bool × zFd} (h : zVm c D O I J j o z) (e11 : I2 o 11 = I o 11) (e133 : I2 133 j = I 133 j) (eI : ∀ p, 32 ≤ p → p ≤ 55 → I2 (p + D) = I (p + D)) (eJ : ∀ p, 32 ≤ p → p ≤ 55 → J2 (p + D) = J (p + D)) (em : ∀ k, k < 883 → I2 131 (O + k) = I 131 (O + k)) : zVm (c + 1) D O I2 J2 j o z := by
  refine ⟨by rw [e11]; exact h.1, by rw [e133]; exact h.2.1, fun q hq => by rw [eI (39 + 2 * q) (by omega) (by omega)]; exact h.2.2.1 q hq, fun w => ?_⟩
  obtain ⟨x1, x2, x3⟩ := h.2.2.2 w
  exact ⟨cDay_f2 eI eJ x1, mDay_fr x3 em x2, wDay_le (Nat.le_succ c) x3⟩
theorem zV_im {c : Nat} {I I2 : Nat → Nat → Int32} {J J2 : Nat → Nat → Int64} {y y2 : zFd} {z0 z1 z0' z1' : Bool × zFd} (hv : zV c I J y z0 z1) (e : ∀ o k, (108 ≤ o ∧ o ≤ 115 ∨ o = 145 ∨ o = 146 ∨ o = 18 ∨ o = 134 ∨ o = 119 ∨ o = 17 ∨ o = 130 ∧ 0 < k) → I2 o k = I o k) (g : ∀ o, 109 ≤ o → J2 o = J o) (d : cDay 0 I2 J2 y2) (m : mDay 0 I2 y2) (w : wDay (c + 1) y2) (v0 : zVm (c + 1) 26 883 I2 J2 0 57 z0') (v1 : zVm (c + 1) 51 1766 I2 J2 1 82 z1') (hc : zCa I2 y2.1) : zV (c + 1) I2 J2 y2 z0' z1' := by
  obtain ⟨a1, a2, a3, a4, a5, a6, a7, a8, a9, a10⟩ := hv
  refine ⟨d, m, w, v0, v1, fun i hi => ?_, ?_, fun k hk => by rw [e 119 k (by omega)]; exact a8 k hk, by rw [e 130 25 (by omega)]; exact a9, hc⟩
  · obtain ⟨x1, x2, s, n, x3, x4, x5, x6, x7, x8, x9⟩ := a6 i hi
    refine ⟨by rw [e _ _ (by omega), e 145 i (by omega)]; exact x1, by rw [e _ _ (by omega), e 146 i (by omega)]; exact x2, s, n, by rw [e 145 i (by omega)]; exact x3, by rw [e 146 i (by omega)]; exact x4, x5, x6, x7, x8, fun k hk => by rw [g _ (by omega), g 147 (by omega)]; exact x9 k hk⟩
  · unfold zVt
    rw [e 17 4 (by omega), e 17 11 (by omega), e 17 12 (by omega), e 130 5 (by omega), e 130 15 (by omega), e 130 16 (by omega)]
    simp only [show ∀ k, I2 18 k = I 18 k from fun k => e 18 k (by omega), show ∀ k, I2 134 k = I 134 k from fun k => e 134 k (by omega)]
    exact a7
section
variable {d L r : Nat} {I : Nat → Nat → Int32} {J : Nat → Nat → Int64}
theorem mImL {j : Nat} (hj : j < 2) : ∃ I', zX 0 (zCd zT d) zc_X12_image 3 [some (.ref 130), some (.int (zi (j : Int))), some (.int 0)] [] (zm L I J r) = zX 0 (zCd zT d) zc_X12_image 4 [some (.ref 130), some (.int (zi (j : Int))), some (.int (zi 883))] [] (zm L I' J r) ∧ (∀ o k, ¬ (o = 131 ∧ 883 * (j + 1) ≤ k ∧ k < 883 * (j + 1) + 883) → I' o k = I o k) ∧ ∀ k, k < 883 → I' 131 (883 * (j + 1) + k) = I 131 k := by
  obtain ⟨I1, c1, p1, p2⟩ := zForI (n := 883) (G := fun k I1 => zX 0 (zCd zT d) zc_X12_image 3 [some (.ref 130), some (.int (zi (j : Int))), some (.int (zi ((k : Nat) : Int)))] [] (zm L I1 J r)) (P := fun k I1 => (∀ o x, ¬ (o = 131 ∧ 883 * (j + 1) ≤ x ∧ x < 883 * (j + 1) + 883) → I1 o x = I o x) ∧ ∀ x, x < k → I1 131 (883 * (j + 1) + x) = I 131 x) (fun k I1 hk hP => by
    have k1 : zi ((k : Nat) : Int) + (1 : Int32) = zi ((k + 1 : Nat) : Int) := zi_add _ 1
    have k2 : (883 : Int32) * (zi (j : Int) + (1 : Int32)) + zi ((k : Nat) : Int) = zi ((883 * (j + 1) + k : Nat) : Int) := by
      rw [show (883 : Int32) = zi 883 from rfl, show (1 : Int32) = zi 1 from rfl, zi_add, zi_mul, zi_add]
      exact congrArg zi (by omega)
    refine ⟨zu I1 131 (883 * (j + 1) + k) (I1 131 k), ?_, fun o x ho => ?_, fun x hx => ?_⟩
    · rw [eX12_image_3, if_neg (show ¬ (883 : Int32) ≤ zi ((k : Nat) : Int) by rw [show (883 : Int32) = zi 883 from rfl, zi_le (by decide) (by omega)]; omega), k2, zin_t (by omega) (by omega), zgd_t, zin_t (by omega) (by omega), zgd_t, zi_cl (by omega), zi_cl (by omega), Int.toNat_natCast, Int.toNat_natCast, k1]
    · rw [zu_n (by omega)]
      exact hP.1 o x ho
    · by_cases e : x = k
      · rw [e, zu_y ⟨rfl, rfl⟩]
        exact hP.1 131 k (by omega)
      · rw [zu_n (by omega)]
        exact hP.2 x (by omega)) I ⟨fun _ _ _ => rfl, fun x hx => absurd hx (by omega)⟩
  have z0 : zX 0 (zCd zT d) zc_X12_image 3 [some (.ref 130), some (.int (zi (j : Int))), some (.int 0)] [] (zm L I J r) = _ := c1
  exact ⟨I1, by rw [z0, eX12_image_3, if_pos (show (883 : Int32) ≤ zi ((883 : Nat) : Int) by decide)]; rfl, p1, p2⟩
theorem mReL {j : Nat} (hj : j < 2) : ∃ I', zX 0 (zCd zT d) zc_X12_restore 4 [some (.ref 130), some (.int (zi (j : Int))), some (.int 0)] [] (zm L I J r) = some (some (.int 0), (zm L I' J r)) ∧ (∀ o k, ¬ (o = 131 ∧ k < 883) → I' o k = I o k) ∧ ∀ k, k < 883 → I' 131 k = I 131 (883 * (j + 1) + k) := by
  obtain ⟨I1, c1, p1, p2⟩ := zForI (n := 883) (G := fun k I1 => zX 0 (zCd zT d) zc_X12_restore 4 [some (.ref 130), some (.int (zi (j : Int))), some (.int (zi ((k : Nat) : Int)))] [] (zm L I1 J r)) (P := fun k I1 => (∀ o x, ¬ (o = 131 ∧ x < 883) → I1 o x = I o x) ∧ ∀ x, x < k → I1 131 x = I 131 (883 * (j + 1) + x)) (fun k I1 hk hP => by
    have k1 : zi ((k : Nat) : Int) + (1 : Int32) = zi ((k + 1 : Nat) : Int) := zi_add _ 1
    have k2 : (883 : Int32) * (zi (j : Int) + (1 : Int32)) + zi ((k : Nat) : Int) = zi ((883 * (j + 1) + k : Nat) : Int) := by
      rw [show (883 : Int32) = zi 883 from rfl, show (1 : Int32) = zi 1 from rfl, zi_add, zi_mul, zi_add]
      exact congrArg zi (by omega)
    refine ⟨zu I1 131 k (I1 131 (883 * (j + 1) + k)), ?_, fun o x ho => ?_, fun x hx => ?_⟩
    · rw [eX12_restore_4, if_neg (show ¬ (883 : Int32) ≤ zi ((k : Nat) : Int) by rw [show (883 : Int32) = zi 883 from rfl, zi_le (by decide) (by omega)]; omega), k2, zin_t (by omega) (by omega), zgd_t, zin_t (by omega) (by omega), zgd_t, zi_cl (by omega), zi_cl (by omega), Int.toNat_natCast, Int.toNat_natCast, k1]
    · rw [zu_n (by omega)]
      exact hP.1 o x ho
    · by_cases e : x = k
      · rw [e, zu_y ⟨rfl, rfl⟩]
        exact hP.1 131 _ (by omega)
      · rw [zu_n (by omega)]
        exact hP.2 x (by omega)) I ⟨fun _ _ _ => rfl, fun x hx => absurd hx (by omega)⟩
  have z0 : zX 0 (zCd zT d) zc_X12_restore 4 [some (.ref 130), some (.int (zi (j : Int))), some (.int 0)] [] (zm L I J r) = _ := c1
  exact ⟨I1, by rw [z0, eX12_restore_4, if_pos (show (883 : Int32) ≤ zi ((883 : Nat) : Int) by decide), eX12_restore_5], p1, p2⟩
end
