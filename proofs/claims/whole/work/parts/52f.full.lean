/-- what a question keeps -/
def zKp (I I' : Nat → Nat → Int32) (J J' : Nat → Nat → Int64) : Prop := zSm I I' ∧ ∀ o, o ≠ 122 → J' o = J o
theorem zKp_rf {I : Nat → Nat → Int32} {J : Nat → Nat → Int64} : zKp I I J J := ⟨zSm_rf, fun _ _ => rfl⟩
theorem zKp_tr {I I1 I2 : Nat → Nat → Int32} {J J1 J2 : Nat → Nat → Int64} (h : zKp I I1 J J1) (g : zKp I1 I2 J1 J2) : zKp I I2 J J2 := ⟨zSm_tr h.1 g.1, fun o a => (g.2 o a).trans (h.2 o a)⟩
theorem zPs_o {o k : Nat} (h : 31 ≤ o ∧ o ≤ 115) : zPs o k = true := by
  unfold zPs
  simp only [h.1, h.2, decide_true, Bool.and_self, Bool.true_or]
theorem zSm_o {I I' : Nat → Nat → Int32} (h : zSm I I') {o : Nat} (ho : 31 ≤ o ∧ o ≤ 115) : I' o = I o := funext fun k => h o k (zPs_o ho)
theorem zVm_fr {c c' D O j o : Nat} {I I' : Nat → Nat → Int32} {J J' : Nat → Nat → Int64} {z : Bool × zFd} (hc : c ≤ c') (hD : D ≤ 60) (ho : 31 ≤ o ∧ o ≤ 115) (h : zKp I I' J J') (hz : zVm c D O I J j o z) : zVm c' D O I' J' j o z := by
  have e : ∀ o, 31 ≤ o → o ≤ 55 → I' (o + D) = I (o + D) := fun o a b => zSm_o h.1 (by omega)
  refine ⟨by rw [zSm_o h.1 ho]; exact hz.1, by rw [h.1 133 j rfl]; exact hz.2.1, fun q hq => by rw [e _ (by omega) (by omega)]; exact hz.2.2.1 q hq, fun q => ?_⟩
  obtain ⟨a, b, w⟩ := hz.2.2.2 q
  exact ⟨cDay_fr e (fun o a b => h.2 _ (by omega)) a, mDay_fr w (fun k _ => h.1 131 _ rfl) b, wDay_le hc w⟩
theorem zVr_fr {I I' : Nat → Nat → Int32} {J J' : Nat → Nat → Int64} (h : zKp I I' J J') (hz : zVr I J) : zVr I' J' := by
  intro i hi
  rw [zSm_o h.1 (show 31 ≤ 108 + 2 * i ∧ 108 + 2 * i ≤ 115 by omega), h.1 145 i rfl, h.1 146 i rfl, h.2 _ (show 109 + 2 * i ≠ 122 by omega), h.2 147 (by decide)]
  exact hz i hi
theorem zVt_fr {I I' : Nat → Nat → Int32} (h : zSm I I') (hz : zVt I) : zVt I' := by
  unfold zVt
  rw [h 17 4 rfl, h 130 5 rfl, h 17 11 rfl, h 17 12 rfl, h 130 15 rfl, h 130 16 rfl]
  simp only [show ∀ k, I' 18 k = I 18 k from fun k => h 18 k rfl, show ∀ k, I' 134 k = I 134 k from fun k => h 134 k rfl]
  exact hz
theorem zV_fr {c c' : Nat} {I I' : Nat → Nat → Int32} {J J' : Nat → Nat → Int64} {y : zFd} {z0 z1 : Bool × zFd} (hc : c ≤ c') (h : zKp I I' J J') (hca : zCa I' y.1) (hz : zV c I J y z0 z1) : zV c' I' J' y z0 z1 := by
  obtain ⟨h1, h2, h3, h4, h5, h6, h7, h8, h9, h10⟩ := hz
  exact ⟨cDay_fr (fun o a b => zSm_o h.1 (by omega)) (fun o a b => h.2 _ (by omega)) h1, mDay_fr h3 (fun k _ => h.1 131 _ rfl) h2, wDay_le hc h3, zVm_fr hc (by decide) (by decide) h h4, zVm_fr hc (by decide) (by decide) h h5, zVr_fr h h6, zVt_fr h.1 h7, fun k hk => by rw [h.1 119 k rfl]; exact h8 k hk, by rw [h.1 130 25 rfl]; exact h9, hca⟩
