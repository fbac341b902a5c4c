/-- the PARTS when the first i have got older -/
def yAg (b : yTb) (h : Int) (i : Nat) : yTb := (b.1, fun k f => if k < i ∧ f = 0 then b.2 k 0 + h else b.2 k f)
def yAv (b : yTb) (h : Int) (k : Nat) : Bool := decide (b.2 k 1 < b.2 k 0 + h)
theorem yAg_0 {b : yTb} {h : Int} : yAg b h 0 = b := by
  unfold yAg
  simp
theorem yAg_i {b : yTb} {h : Int} {i k f : Nat} : (yAg b h i).2 k f = if k < i ∧ f = 0 then b.2 k 0 + h else b.2 k f := rfl
section
variable {d L r : Nat} {I : Nat → Nat → Int32} {J : Nat → Nat → Int64}
theorem cAge (hd : 5 ≤ d) {b : yTb} {n m c : Nat} (hc : c ≤ 513) (hb : cTb 45 3 I b) (hw : wTb n m c 3 b) {h : Int} (hh : 1 ≤ h ∧ h ≤ 9999) : ∃ I', zCd zT d 176 [.ref 16, .int (zi h)] (zm L I J r) = some (some (.int (zi ((yCn (yAv b h) b.1 : Nat) : Int))), (zm L I' J r)) ∧ cTb 45 3 I' (yAg b h b.1) ∧ ∀ o, o ≠ 46 → I' o = I o := by
  obtain ⟨e, rfl⟩ : ∃ e, d = e + 1 := ⟨d - 1, by omega⟩
  have hm : b.1 ≤ 8 := hw.1
  have h0 : zbo h 1 9999 = false := decide_eq_false (by omega)
  obtain ⟨I1, c1, p1, p2⟩ := zForI (n := b.1) (G := fun k I1 => zX 0 (zCd zT e) zc_X11_age 3 [some (.ref 16), some (.int (zi h)), some (.ref 45), some (.int (zi ((yCn (yAv b h) k : Nat) : Int))), some (.int (zi ((k : Nat) : Int)))] [] (zm L I1 J r)) (P := fun k I1 => cTb 45 3 I1 (yAg b h k) ∧ ∀ o, o ≠ 46 → I1 o = I o) (fun k I1 hk hP => by
    obtain ⟨q1, q2⟩ := hP
    have w0 : 0 ≤ b.2 k 0 ∧ b.2 k 0 ≤ 10000 * ((c : Int) + 1) := hw.2 k 0 hk (by decide)
    have w1 : 1 ≤ b.2 k 1 ∧ b.2 k 1 ≤ 9999 := hw.2 k 1 hk (by decide)
    have v0 : (yAg b h k).2 k 0 = b.2 k 0 := if_neg (by omega)
    have g0 : zCd zT e 68 [.ref 45, .int (zi (k : Int)), .int 0] (zm L I1 J r) = some (some (.int (zi (b.2 k 0))), (zm L I1 J r)) := by
      have := cGetO (d := e) (L := L) (r := r) (J := J) (by omega) (o := 45) (q := 3) rfl (by decide) q1 hm (k := (k : Int)) (f := 0) (by show 0 ≤ (k : Int) ∧ (k : Int) < (b.1 : Int); omega) (by decide)
      rw [Int.toNat_natCast, show (0 : Int).toNat = 0 from rfl, v0] at this
      exact this
    have s0 : zCd zT e 69 [.ref 45, .int (zi (k : Int)), .int 0, .int (zi (b.2 k 0 + h))] (zm L I1 J r) = some (none, (zm L (zu I1 46 (k * 2 + 0) (zi (b.2 k 0 + h))) J r)) := cSet (by omega) (q := 3) (by decide) (f := 0) q1.1 q1.2.1 q1.2.2.1 hm hk (by decide)
    have hb2 : cTb 45 3 (zu I1 46 (k * 2 + 0) (zi (b.2 k 0 + h))) (yAg b h (k + 1)) := by
      refine ⟨by rw [zu_o (by decide)]; exact q1.1, by rw [zu_o (by decide)]; exact q1.2.1, by rw [zu_o (by decide)]; exact q1.2.2.1, fun j f hj hf => ?_⟩
      have hf2 : f < 2 := hf
      show zu I1 46 (k * 2 + 0) (zi (b.2 k 0 + h)) 46 (j * 2 + f) = zi (if j < k + 1 ∧ f = 0 then b.2 j 0 + h else b.2 j f)
      by_cases e1 : j = k ∧ f = 0
      · rw [e1.1, e1.2, zu_y ⟨rfl, rfl⟩, if_pos ⟨by omega, rfl⟩]
      · rw [zu_n (by omega)]
        have := q1.2.2.2 j f hj hf
        rw [yAg_i] at this
        have w : I1 46 (j * 2 + f) = zi (if j < k ∧ f = 0 then b.2 j 0 + h else b.2 j f) := this
        rw [w]
        by_cases e2 : j < k ∧ f = 0
        · rw [if_pos e2, if_pos ⟨by omega, e2.2⟩]
        · rw [if_neg e2, if_neg (by omega)]
    refine ⟨_, ?_, hb2, fun o ho => (zu_o ho).trans (q2 o ho)⟩
    have v2 : (yAg b h (k + 1)).2 k 0 = b.2 k 0 + h := if_pos ⟨by omega, rfl⟩
    have v3 : (yAg b h (k + 1)).2 k 1 = b.2 k 1 := if_neg (by omega)
    have g2 : zCd zT e 68 [.ref 45, .int (zi (k : Int)), .int 0] (zm L (zu I1 46 (k * 2 + 0) (zi (b.2 k 0 + h))) J r) = some (some (.int (zi (b.2 k 0 + h))), (zm L (zu I1 46 (k * 2 + 0) (zi (b.2 k 0 + h))) J r)) := by
      have := cGetO (d := e) (L := L) (r := r) (J := J) (by omega) (o := 45) (q := 3) rfl (by decide) hb2 hm (k := (k : Int)) (f := 0) (by show 0 ≤ (k : Int) ∧ (k : Int) < (b.1 : Int); omega) (by decide)
      rw [Int.toNat_natCast, show (0 : Int).toNat = 0 from rfl, v2] at this
      exact this
    have g3 : zCd zT e 68 [.ref 45, .int (zi (k : Int)), .int 1] (zm L (zu I1 46 (k * 2 + 0) (zi (b.2 k 0 + h))) J r) = some (some (.int (zi (b.2 k 1))), (zm L (zu I1 46 (k * 2 + 0) (zi (b.2 k 0 + h))) J r)) := by
      have := cGetO (d := e) (L := L) (r := r) (J := J) (by omega) (o := 45) (q := 3) rfl (by decide) hb2 hm (k := (k : Int)) (f := 1) (by show 0 ≤ (k : Int) ∧ (k : Int) < (b.1 : Int); omega) (by decide)
      rw [Int.toNat_natCast, show (1 : Int).toNat = 1 from rfl, v3] at this
      exact this
    have k1 : zi (b.2 k 0) + zi h = zi (b.2 k 0 + h) := zi_add _ _
    have k2 : zi ((k : Nat) : Int) + (1 : Int32) = zi ((k + 1 : Nat) : Int) := zi_add _ 1
    have k3 : zi ((yCn (yAv b h) k : Nat) : Int) + (1 : Int32) = zi ((yCn (yAv b h) k + 1 : Nat) : Int) := zi_add _ 1
    have ts : zCd zT e 64 [.ref 45] (zm L I1 J r) = some (some (.int (zi (b.1 : Int))), (zm L I1 J r)) := cTSize (b := yAg b h k) (by omega) (by decide) q1
    rw [eX11_age_3, ts, zbI_s, eX11_age_4, if_neg (show ¬ zi (b.1 : Int) ≤ zi ((k : Nat) : Int) by rw [zi_le (by omega) (by omega)]; omega), g0, zbI_s, eX11_age_5, k1, s0, zbV_s, eX11_age_6, g2, zbI_s, eX11_age_7, g3, zbI_s, eX11_age_8, eX11_age_9, eX11_age_9, k2, k3, yCn]
    simp only [zi_le (show -2147483648 ≤ b.2 k 0 + h ∧ b.2 k 0 + h < 2147483648 by omega) (show -2147483648 ≤ b.2 k 1 ∧ b.2 k 1 < 2147483648 by omega)]
    unfold yAv
    by_cases q : b.2 k 1 < b.2 k 0 + h
    · rw [if_neg (by omega), decide_eq_true q, if_pos rfl]
    · rw [if_pos (by omega), decide_eq_false q]
      rfl) I ⟨by rw [yAg_0]; exact hb, fun _ _ => rfl⟩
  have z0 : zX 0 (zCd zT e) zc_X11_age 3 [some (.ref 16), some (.int (zi h)), some (.ref 45), some (.int (zi 0)), some (.int (zi 0))] [] (zm L I J r) = _ := c1
  have ts : zCd zT e 64 [.ref 45] (zm L I1 J r) = some (some (.int (zi (b.1 : Int))), (zm L I1 J r)) := cTSize (b := yAg b h b.1) (by omega) (by decide) p1
  refine ⟨I1, ?_, p1, p2⟩
  simp (disch := omega) only [qX11_age, eX11_age_0, eX11_age_1, eX11_age_2, eX11_age_4, eX11_age_5, eX11_age_6, eX11_age_7, eX11_age_8, eX11_age_9, eX11_age_10, cOut, h0, z0, if_true, zbI_s, zbL_s, zbV_s, zgd_t, zb1_t, zb1_f, zb1_01, zz_0, zz_1, zi_lit, zi_add, zi_sub, zi_mul, zi_neg]
  rw [eX11_age_3, ts, zbI_s, eX11_age_4, if_pos (Int32.le_refl _), eX11_age_10]
theorem mAge (hd : 2 ≤ d) {b : yTb} {n m c : Nat} (hc : c ≤ 513) (hb : mTb 3 (I 131) b) (hw : wTb n m c 3 b) {h : Int} (hh : 1 ≤ h ∧ h ≤ 9999) : ∃ I', zCd zT d 326 [.ref 130, .int (zi h)] (zm L I J r) = some (some (.int (zi ((yCn (yAv b h) b.1 : Nat) : Int))), (zm L I' J r)) ∧ mTb 3 (I' 131) (yAg b h b.1) ∧ (∀ o k, o ≠ 131 → ¬ (o = 130 ∧ k = 0) → I' o k = I o k) ∧ ∀ k, ¬ (695 ≤ k ∧ k < 712) → I' 131 k = I 131 k := by
  obtain ⟨e, rfl⟩ : ∃ e, d = e + 1 := ⟨d - 1, by omega⟩
  have hm : b.1 ≤ 8 := hw.1
  have h0 : zbo h 1 9999 = false := decide_eq_false (by omega)
  obtain ⟨I1, c1, p1, p2, p3⟩ := zForI (n := b.1) (G := fun k I1 => zX 0 (zCd zT e) zc_X12_age 3 [some (.ref 130), some (.int (zi h)), some (.int (zi ((yCn (yAv b h) k : Nat) : Int))), some (.int (zi ((k : Nat) : Int)))] [] (zm L I1 J r)) (P := fun k I1 => mTb 3 (I1 131) (yAg b h k) ∧ (∀ o k, o ≠ 131 → ¬ (o = 130 ∧ k = 0) → I1 o k = I o k) ∧ ∀ k, ¬ (695 ≤ k ∧ k < 712) → I1 131 k = I 131 k) (fun k I1 hk hP => by
    obtain ⟨q1, q2, q3⟩ := hP
    have w0 : 0 ≤ b.2 k 0 ∧ b.2 k 0 ≤ 10000 * ((c : Int) + 1) := hw.2 k 0 hk (by decide)
    have w1 : 1 ≤ b.2 k 1 ∧ b.2 k 1 ≤ 9999 := hw.2 k 1 hk (by decide)
    have en : I1 131 695 = zi b.1 := q1.1
    have g0 : I1 131 (696 + k) = zi (b.2 k 0) := by
      have := q1.2 k 0 hk (by decide)
      rw [yAg_i, if_neg (by omega)] at this
      exact this
    have g1 : I1 131 (704 + k) = zi (b.2 k 1) := by
      have := q1.2 k 1 hk (by decide)
      rw [yAg_i, if_neg (by omega)] at this
      exact this
    refine ⟨zu I1 131 (696 + k) (zi (b.2 k 0 + h)), ?_, ⟨?_, fun j f hj hf => ?_⟩, fun o j x1 x2 => (zu_n (by omega)).trans (q2 o j x1 x2), fun j x1 => (zu_n (by omega)).trans (q3 j x1)⟩
    · have k2 : zi ((k : Nat) : Int) + (1 : Int32) = zi ((k + 1 : Nat) : Int) := zi_add _ 1
      have k3 : zi ((yCn (yAv b h) k : Nat) : Int) + (1 : Int32) = zi ((yCn (yAv b h) k + 1 : Nat) : Int) := zi_add _ 1
      have k4 : zi ((yCn (yAv b h) k : Nat) : Int) + (0 : Int32) = zi ((yCn (yAv b h) k : Nat) : Int) := (zi_add _ 0).trans (congrArg zi (by omega))
      have a1 : (696 : Int32) + zi ((k : Nat) : Int) = zi ((696 + k : Nat) : Int) := zi_add 696 _
      have a2 : (704 : Int32) + zi ((k : Nat) : Int) = zi ((704 + k : Nat) : Int) := zi_add 704 _
      have k1 : zi (b.2 k 0) + zi h = zi (b.2 k 0 + h) := zi_add _ _
      rw [eX12_age_3, en, if_neg (show ¬ zi (b.1 : Int) ≤ zi ((k : Nat) : Int) by rw [zi_le (by omega) (by omega)]; omega), a1, a2, zin_t (by omega) (by omega), zin_t (by omega) (by omega), zgd_t, zgd_t, zgd_t, zgd_t, zi_cl (by omega), zi_cl (by omega), Int.toNat_natCast, Int.toNat_natCast, g0, k1, zu_y ⟨rfl, rfl⟩, zu_n (show ¬ (131 = 131 ∧ 704 + k = 696 + k) by omega), g1, eX12_age_4, eX12_age_5, eX12_age_5, k2, k3, k4, yCn]
      simp only [zi_le (show -2147483648 ≤ b.2 k 0 + h ∧ b.2 k 0 + h < 2147483648 by omega) (show -2147483648 ≤ b.2 k 1 ∧ b.2 k 1 < 2147483648 by omega)]
      unfold yAv
      by_cases q : b.2 k 1 < b.2 k 0 + h
      · rw [if_neg (by omega), decide_eq_true q, if_pos rfl]
      · rw [if_pos (by omega), decide_eq_false q]
        rfl
    · show zu I1 131 (696 + k) _ 131 695 = _
      rw [zu_n (by omega)]
      exact q1.1
    · have hj1 : j < b.1 := hj
      have hb3 := q1.2 j f hj hf
      rw [yAg_i] at hb3 ⊢
      have hf2 : f = 0 ∨ f = 1 := by have : f < 2 := hf; omega
      rcases hf2 with rfl | rfl
      · show zu I1 131 (696 + k) (zi (b.2 k 0 + h)) 131 (696 + j) = _
        have hb4 : I1 131 (696 + j) = zi (if j < k ∧ 0 = 0 then b.2 j 0 + h else b.2 j 0) := hb3
        by_cases e1 : j = k
        · rw [e1, zu_y ⟨rfl, rfl⟩, if_pos ⟨by omega, rfl⟩]
        · rw [zu_n (by omega), hb4]
          by_cases e2 : j < k
          · rw [if_pos ⟨e2, rfl⟩, if_pos ⟨by omega, rfl⟩]
          · rw [if_neg (by omega), if_neg (by omega)]
      · show zu I1 131 (696 + k) (zi (b.2 k 0 + h)) 131 (704 + j) = _
        have hb4 : I1 131 (704 + j) = zi (if j < k ∧ 1 = 0 then b.2 j 0 + h else b.2 j 1) := hb3
        rw [zu_n (by omega), hb4, if_neg (by omega), if_neg (by omega)]) (zu I 130 0 (zi 0)) ⟨by rw [yAg_0, zu_o (by decide)]; exact hb, fun o k x1 x2 => zu_n x2, fun k _ => zu_n (by omega)⟩
  have z0 : zX 0 (zCd zT e) zc_X12_age 3 [some (.ref 130), some (.int (zi h)), some (.int (zi 0)), some (.int (zi 0))] [] (zm L (zu I 130 0 (zi 0)) J r) = _ := c1
  have en : I1 131 695 = zi b.1 := p1.1
  refine ⟨I1, ?_, p1, p2, p3⟩
  simp (disch := omega) only [qX12_age, eX12_age_0, eX12_age_1, eX12_age_2, eX12_age_4, eX12_age_5, eX12_age_6, mWithin, show (1 : Int64).toInt = 1 from rfl, show (9999 : Int64).toInt = 9999 from rfl, h0, Bool.not_false, z0, if_false, zbI_s, zbL_s, zbV_s, zgd_t, zb1_t, zb1_f, zb1_01, zz_0, zz_1, zi_lit, zi_add, zi_sub, zi_mul, zi_neg, zi_z0]
  rw [eX12_age_3, en, if_pos (Int32.le_refl _), eX12_age_6]
end
theorem oAge (a : Int32) : zOk 176 326 [.int a] := by
  intro L c r I J y z0 z1 hc hr hv
  obtain ⟨a, rfl, ba⟩ := zi_of a
  have hb : cTb 45 3 I (y.2.2.1 3) := hv.1.2.2.1 3 (by decide)
  have hw := hv.2.2.1.2.2.1 3 (by decide)
  have hm := zV_mt hv (q := 3) (by decide)
  cases h1 : zbo a 1 9999
  · have g1 := zbo_f h1
    obtain ⟨I1, c1, c2, c3⟩ := cAge (d := 60) (L := L) (r := r) (J := J) (by decide) (by omega) hb hw g1
    have hm1 : mTb 3 (I1 131) (y.2.2.1 3) := by rw [c3 131 (by decide)]; exact hm
    obtain ⟨I2, m1, m2, m3, m4⟩ := mAge (d := 60) (L := L) (r := r) (J := J) (by decide) (by omega) hm1 hw g1
    refine ⟨_, I1, J, r, I2, J, r, zYq y 3 (yAg (y.2.2.1 3) a (y.2.2.1 3).1), z0, z1, c1, m1, hr, zV_tb (q := 3) (by decide) hv (fun o _ h => c3 o h) c2 m3 m4 m2 ⟨hw.1, fun k f hk hf => ?_⟩ (fun _ => by decide)⟩
    have w0 := hw.2 k f hk hf
    rw [yAg_i]
    by_cases e : k < (y.2.2.1 3).1 ∧ f = 0
    · rw [if_pos e, e.2]
      rw [e.2] at w0
      have w1 : 0 ≤ (y.2.2.1 3).2 k 0 ∧ (y.2.2.1 3).2 k 0 ≤ 10000 * ((c : Int) + 1) := w0
      show 0 ≤ (y.2.2.1 3).2 k 0 + a ∧ (y.2.2.1 3).2 k 0 + a ≤ 10000 * (((c + 1 : Nat) : Int) + 1)
      omega
    · rw [if_neg e]
      exact (wTb_le (Nat.le_succ c) hw).2 k f hk hf
  · refine zGo_0 hr hv (.int (zi (-3))) ?_ ?_
    · simp (disch := omega) only [qX11_age, eX11_age_0, eX11_age_1, eX11_age_2, eX11_age_3, eX11_age_4, eX11_age_5, eX11_age_6, eX11_age_7, eX11_age_8, eX11_age_9, eX11_age_10, cOut, h1, if_true, if_false, zbI_s, zbL_s, zbV_s, zgd_t, zb1_t, zb1_f, zb1_01, zz_0, zz_1, zi_lit, zi_add, zi_sub, zi_mul, zi_neg, zi_z0]
    · simp (disch := omega) only [qX12_age, eX12_age_0, eX12_age_1, mWithin, show (1 : Int64).toInt = 1 from rfl, show (9999 : Int64).toInt = 9999 from rfl, h1, Bool.not_true, if_true, if_false, zbI_s, zbL_s, zbV_s, zgd_t, zb1_t, zb1_f, zb1_01, zz_0, zz_1, zi_lit, zi_add, zi_sub, zi_mul, zi_neg, zi_z0]
