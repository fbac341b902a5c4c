/-! LED and LEADS -/
def yCt (b : yTb) (f : Nat) (x : Int) : Nat → Nat
  | 0 => 0
  | k + 1 => yCt b f x k + (if b.2 k f = x then 1 else 0)
theorem yCt_le {b : yTb} {f : Nat} {x : Int} : ∀ k, yCt b f x k ≤ k := by
  intro k
  induction k with
  | zero => exact Nat.le_refl 0
  | succ k ih =>
    rw [yCt]
    split <;> omega
def yLd (t : zDy) (b : yTb) (w : Int) (k : Nat) : Int := if zIsO t w (b.2 k 3) 0 = true then (if b.1 < 2 * yCt b 0 (b.2 k 0) b.1 then 2 else if b.1 < 2 * yCt b 1 (b.2 k 1) b.1 then 3 else 0) else 1
theorem yLd_b {t : zDy} {b : yTb} {w : Int} {k : Nat} : 0 ≤ yLd t b w k ∧ yLd t b w k ≤ 3 := by
  unfold yLd
  split
  · split
    · omega
    · split <;> omega
  · omega
def yLn (t : zDy) (b : yTb) (w a : Int) : Nat → Nat
  | 0 => 0
  | k + 1 => yLn t b w a k + (if yLd t b w k = a then 1 else 0)
theorem yLn_le {t : zDy} {b : yTb} {w a : Int} : ∀ k, yLn t b w a k ≤ k := by
  intro k
  induction k with
  | zero => exact Nat.le_refl 0
  | succ k ih =>
    rw [yLn]
    split <;> omega
theorem yW5 {n m c : Nat} {b : yTb} (hw : wTb n m c 5 b) (hm : m ≤ 20) {k : Nat} (hk : k < b.1) : (0 ≤ b.2 k 0 ∧ b.2 k 0 ≤ 3) ∧ (0 ≤ b.2 k 1 ∧ b.2 k 1 ≤ 20) ∧ (0 ≤ b.2 k 2 ∧ b.2 k 2 ≤ 9999) ∧ (0 ≤ b.2 k 3 ∧ b.2 k 3 ≤ 99) := by
  have a0 : 0 ≤ b.2 k 0 ∧ b.2 k 0 ≤ 3 := hw.2 k 0 hk (by decide)
  have a1 : 0 ≤ b.2 k 1 ∧ b.2 k 1 ≤ (m : Int) := hw.2 k 1 hk (by decide)
  have a2 : 0 ≤ b.2 k 2 ∧ b.2 k 2 ≤ 9999 := hw.2 k 2 hk (by decide)
  have a3 : 0 ≤ b.2 k 3 ∧ b.2 k 3 ≤ 99 := hw.2 k 3 hk (by decide)
  exact ⟨a0, ⟨a1.1, by omega⟩, a2, a3⟩
section
variable {d L r : Nat} {I : Nat → Nat → Int32} {J : Nat → Nat → Int64}
variable {t : zDy}
theorem cCt (hd : 3 ≤ d) {b : yTb} {n m c : Nat} (hb : cTb 49 5 I b) (hw : wTb n m c 5 b) (hm : m ≤ 20) {f : Nat} (hf : f < 4) {x : Int} (bx : -2147483648 ≤ x ∧ x < 2147483648) : zCd zT d 72 [.ref 49, .int (zi (f : Int)), .int (zi x)] (zm L I J r) = some (some (.int (zi (yCt b f x b.1))), (zm L I J r)) := by
  obtain ⟨e, rfl⟩ : ∃ e, d = e + 1 := ⟨d - 1, by omega⟩
  have hb20 : b.1 ≤ 20 := hw.1
  have h3 : I 49 3 = zi b.1 := hb.2.2.1
  have c1 := zFor (n := b.1) (G := fun k => zX 0 (zCd zT e) zc_X7_countOf 1 [some (.ref 49), some (.int (zi (f : Int))), some (.int (zi x)), some (.int (zi (yCt b f x k))), some (.int (zi ((k : Nat) : Int)))] [] (zm L I J r)) (fun k hk => by
    have k1 : zi ((k : Nat) : Int) + (1 : Int32) = zi ((k + 1 : Nat) : Int) := zi_add _ 1
    have g : zCd zT e 68 [.ref 49, .int (zi ((k : Nat) : Int)), .int (zi (f : Int))] (zm L I J r) = _ := cGetO (q := 5) (by omega) rfl (by decide) hb hw.1 (by omega) (show 0 ≤ (f : Int) ∧ (f : Int) < ((4 : Nat) : Int) by omega)
    have q1 : zi ((yCt b f x k : Nat) : Int) + (1 : Int32) = zi ((yCt b f x k + 1 : Nat) : Int) := zi_add _ 1
    have w := yW5 hw hm hk
    have wf : 0 ≤ b.2 k f ∧ b.2 k f ≤ 9999 := by
      obtain rfl | rfl | rfl | rfl : f = 0 ∨ f = 1 ∨ f = 2 ∨ f = 3 := by omega
      · omega
      · omega
      · omega
      · omega
    rw [(eX7_countOf_1 (by decide)), h3, if_neg (show ¬ zi (b.1 : Int) ≤ zi ((k : Nat) : Int) by rw [zi_le (by omega) (by omega)]; omega), g, zbI_s, Int.toNat_natCast, Int.toNat_natCast, (eX7_countOf_2 (by decide)), yCt]
    by_cases q : b.2 k f = x
    · rw [if_pos (by rw [zi_eq (by omega) bx]; exact q), if_pos q, (eX7_countOf_3 (by decide)), k1, q1]
    · rw [if_neg (by rw [zi_eq (by omega) bx]; exact q), if_neg q, (eX7_countOf_3 (by decide)), k1]
      rfl)
  have z0 : zX 0 (zCd zT e) zc_X7_countOf 1 [some (.ref 49), some (.int (zi (f : Int))), some (.int (zi x)), some (.int 0), some (.int 0)] [] (zm L I J r) = _ := c1
  rw [(qX7_countOf (by decide)), (eX7_countOf_0 (by decide)), z0, (eX7_countOf_1 (by decide)), h3, if_pos (Int32.le_refl _), (eX7_countOf_4 (by decide))]
theorem mCt (hd : 2 ≤ d) {b : yTb} {n m c : Nat} (hb : mTb 5 (I 131) b) (hw : wTb n m c 5 b) (hm : m ≤ 20) {f : Nat} (hf : f < 4) {j : Nat} (hj : j < b.1) : zCd zT d 340 [.ref 130, .int (zi ((734 + 20 * f : Nat) : Int)), .int (zi (j : Int))] (zm L I J r) = some (some (.int (zb1 (decide (b.1 < 2 * yCt b f (b.2 j f) b.1)))), (zm L I J r)) := by
  obtain ⟨e, rfl⟩ : ∃ e, d = e + 1 := ⟨d - 1, by omega⟩
  have hb20 : b.1 ≤ 20 := hw.1
  have h3 : I 131 733 = zi b.1 := hb.1
  have g : ∀ k, k < b.1 → I 131 (734 + 20 * f + k) = zi (b.2 k f) := fun k hk => hb.2 k f hk hf
  have bf : ∀ k, k < b.1 → 0 ≤ b.2 k f ∧ b.2 k f ≤ 9999 := by
    intro k hk
    have w := yW5 hw hm hk
    obtain rfl | rfl | rfl | rfl : f = 0 ∨ f = 1 ∨ f = 2 ∨ f = 3 := by omega
    · omega
    · omega
    · omega
    · omega
  have a0 : ∀ k : Nat, zi ((734 + 20 * f : Nat) : Int) + zi (k : Int) = zi ((734 + 20 * f + k : Nat) : Int) := fun k => zi_add _ _
  have c1 := zFor (n := b.1) (G := fun k => zX 3 (zCd zT e) zc_X12_isMost 1 [some (.ref 130), some (.int (zi ((734 + 20 * f : Nat) : Int))), some (.int (zi (j : Int))), some (.int (zi (yCt b f (b.2 j f) k))), some (.int (zi ((k : Nat) : Int)))] [] (zm L I J r)) (fun k hk => by
    have k1 : zi ((k : Nat) : Int) + (1 : Int32) = zi ((k + 1 : Nat) : Int) := zi_add _ 1
    have q1 : zi ((yCt b f (b.2 j f) k : Nat) : Int) + (1 : Int32) = zi ((yCt b f (b.2 j f) k + 1 : Nat) : Int) := zi_add _ 1
    have q2 : zi ((yCt b f (b.2 j f) k : Nat) : Int) + (0 : Int32) = zi ((yCt b f (b.2 j f) k : Nat) : Int) := Int32.add_zero _
    have w1 := bf k hk
    have w2 := bf j hj
    rw [eX12_isMost_1, h3, if_neg (show ¬ zi (b.1 : Int) ≤ zi ((k : Nat) : Int) by rw [zi_le (by omega) (by omega)]; omega), a0, a0, zin_t (by omega) (by omega), zgd_t, zin_t (by omega) (by omega), zgd_t, zi_cl (by omega), zi_cl (by omega), Int.toNat_natCast, Int.toNat_natCast, g k hk, g j hj, yCt]
    by_cases q : b.2 k f = b.2 j f
    · rw [if_pos (by rw [zi_eq (by omega) (by omega)]; exact q), if_pos q, eX12_isMost_3, k1, q1]
    · rw [if_neg (by rw [zi_eq (by omega) (by omega)]; exact q), if_neg q, eX12_isMost_2, eX12_isMost_3, k1, q2]
      rfl)
  have z0 : zX 3 (zCd zT e) zc_X12_isMost 1 [some (.ref 130), some (.int (zi ((734 + 20 * f : Nat) : Int))), some (.int (zi (j : Int))), some (.int 0), some (.int 0)] [] (zm L I J r) = _ := c1
  have hc := yCt_le (b := b) (f := f) (x := b.2 j f) b.1
  have k2 : (2 : Int32) * zi ((yCt b f (b.2 j f) b.1 : Nat) : Int) = zi ((2 * yCt b f (b.2 j f) b.1 : Nat) : Int) := zi_mul 2 _
  rw [qX12_isMost, eX12_isMost_0, z0, eX12_isMost_1, h3, if_pos (Int32.le_refl _), eX12_isMost_4, h3, k2]
  by_cases q : b.1 < 2 * yCt b f (b.2 j f) b.1
  · rw [if_neg (by rw [zi_le (by omega) (by omega)]; omega), eX12_isMost_6, decide_eq_true q]
    rfl
  · rw [if_pos (by rw [zi_le (by omega) (by omega)]; omega), eX12_isMost_5, eX12_isMost_6, decide_eq_false q]
    rfl
theorem cLed (hd : 9 ≤ d) (h : zTI I J t) (hc : zCa I t) (hn : 0 < t.n) {b : yTb} {n m c : Nat} (hb : cTb 49 5 I b) (hw : wTb n m c 5 b) (hm : m ≤ 20) {j : Nat} (hj : j < b.1) {w : Int} (h1 : 1 ≤ w ∧ w ≤ 20) : ∃ I', zCd zT d 191 [.ref 16, .int (zi (j : Int)), .int (zi w)] (zm L I J r) = some (some (.int (zi (yLd t b w j))), (zm L I' J r)) ∧ zSm I I' ∧ zCa I' t := by
  obtain ⟨e, rfl⟩ : ∃ e, d = e + 1 := ⟨d - 1, by omega⟩
  have hb20 : b.1 ≤ 20 := hw.1
  have wj := yW5 hw hm hj
  have g3 : zCd zT e 68 [.ref 49, .int (zi (j : Int)), .int (zi ((3 : Nat) : Int))] (zm L I J r) = _ := cGetO (q := 5) (by omega) rfl (by decide) hb hw.1 (by omega) (by decide)
  have g3' : zCd zT e 68 [.ref 49, .int (zi (j : Int)), .int 3] (zm L I J r) = some (some (.int (zi (b.2 j 3))), (zm L I J r)) := g3
  obtain ⟨I1, c1, c2, c3⟩ := cIsOut (d := e) (L := L) (r := r) (by omega) h hc hn h1 wj.2.2.2 (co := 0) (by decide)
  have c1' : zCd zT e 239 [.ref 16, .int (zi w), .int (zi (b.2 j 3)), .int 0] (zm L I J r) = some (some (.int (zb1 (zIsO t w (b.2 j 3) 0))), (zm L I1 J r)) := c1
  have hb1 : cTb 49 5 I1 b := cTb_sm (by decide) c2 hb
  have hsz : zCd zT e 64 [.ref 49] (zm L I1 J r) = some (some (.int (zi (b.1 : Int))), (zm L I1 J r)) := cTSize (b := b) (by omega) (by decide) hb1
  refine ⟨I1, ?_, c2, c3⟩
  rw [qX11_ledTo, eX11_ledTo_0, g3', zbI_s, eX11_ledTo_1, c1', zbI_s, eX11_ledTo_2]
  unfold yLd
  cases zIsO t w (b.2 j 3) 0
  · rw [if_pos (show zb1 false = 0 by decide), if_neg (show ¬ false = true by decide)]
    rfl
  · have g0 : zCd zT e 68 [.ref 49, .int (zi (j : Int)), .int (zi ((0 : Nat) : Int))] (zm L I1 J r) = _ := cGetO (q := 5) (by omega) rfl (by decide) hb1 hw.1 (by omega) (by decide)
    have g0' : zCd zT e 68 [.ref 49, .int (zi (j : Int)), .int 0] (zm L I1 J r) = some (some (.int (zi (b.2 j 0))), (zm L I1 J r)) := g0
    have g1 : zCd zT e 68 [.ref 49, .int (zi (j : Int)), .int (zi ((1 : Nat) : Int))] (zm L I1 J r) = _ := cGetO (q := 5) (by omega) rfl (by decide) hb1 hw.1 (by omega) (by decide)
    have g1' : zCd zT e 68 [.ref 49, .int (zi (j : Int)), .int 1] (zm L I1 J r) = some (some (.int (zi (b.2 j 1))), (zm L I1 J r)) := g1
    have n0 : zCd zT e 72 [.ref 49, .int 0, .int (zi (b.2 j 0))] (zm L I1 J r) = _ := cCt (L := L) (J := J) (r := r) (f := 0) (by omega) hb1 hw hm (by decide) (x := b.2 j 0) (by omega)
    have n1 : zCd zT e 72 [.ref 49, .int 1, .int (zi (b.2 j 1))] (zm L I1 J r) = _ := cCt (L := L) (J := J) (r := r) (f := 1) (by omega) hb1 hw hm (by decide) (x := b.2 j 1) (by omega)
    have k0 : (2 : Int32) * zi ((yCt b 0 (b.2 j 0) b.1 : Nat) : Int) = zi ((2 * yCt b 0 (b.2 j 0) b.1 : Nat) : Int) := zi_mul 2 _
    have k1 : (2 : Int32) * zi ((yCt b 1 (b.2 j 1) b.1 : Nat) : Int) = zi ((2 * yCt b 1 (b.2 j 1) b.1 : Nat) : Int) := zi_mul 2 _
    have q0 := yCt_le (b := b) (f := 0) (x := b.2 j 0) b.1
    have q1 := yCt_le (b := b) (f := 1) (x := b.2 j 1) b.1
    rw [if_neg (show ¬ zb1 true = 0 by decide), if_pos rfl, eX11_ledTo_3, g0', zbI_s, eX11_ledTo_4, n0, zbI_s, eX11_ledTo_5, hsz, zbI_s, eX11_ledTo_6, k0]
    by_cases p0 : b.1 < 2 * yCt b 0 (b.2 j 0) b.1
    · rw [if_neg (by rw [zi_le (by omega) (by omega)]; omega), if_pos p0]
      rfl
    · rw [if_pos (by rw [zi_le (by omega) (by omega)]; omega), if_neg p0, eX11_ledTo_7, g1', zbI_s, eX11_ledTo_8, n1, zbI_s, eX11_ledTo_9, hsz, zbI_s, eX11_ledTo_10, k1]
      by_cases p1 : b.1 < 2 * yCt b 1 (b.2 j 1) b.1
      · rw [if_neg (by rw [zi_le (by omega) (by omega)]; omega), if_pos p1, eX11_ledTo_12]
        rfl
      · rw [if_pos (by rw [zi_le (by omega) (by omega)]; omega), if_neg p1, eX11_ledTo_11, eX11_ledTo_12]
        rfl
theorem mLed (hd : 9 ≤ d) (h : zTI I J t) (hn : 0 < t.n) {b : yTb} {n m c : Nat} (hb : mTb 5 (I 131) b) (hw : wTb n m c 5 b) (hm : m ≤ 20) {j : Nat} (hj : j < b.1) {w : Int} (h1 : 1 ≤ w ∧ w ≤ 20) : ∃ I', zCd zT d 341 [.ref 130, .int (zi (j : Int)), .int (zi w)] (zm L I J r) = some (some (.int (zi (yLd t b w j))), (zm L I' J r)) ∧ zSm I I' ∧ I' 120 = I 120 := by
  obtain ⟨e, rfl⟩ : ∃ e, d = e + 1 := ⟨d - 1, by omega⟩
  have hb20 : b.1 ≤ 20 := hw.1
  have wj := yW5 hw hm hj
  obtain ⟨I1, c1, c2, c3, c4, c5, _⟩ := mOut (d := e) (L := L) (r := r) (by omega) h hn h1 wj.2.2.2 (co := 0) (by decide)
  have c1' : zCd zT e 279 [.ref 130, .int (zi w), .int (zi (b.2 j 3)), .int 0] (zm L I J r) = _ := c1
  have g3 : I 131 (794 + j) = zi (b.2 j 3) := hb.2 j 3 hj (by decide)
  have hb1 : mTb 5 (I1 131) b := mTb_sm c3 hb
  have a0 : (794 : Int32) + zi (j : Int) = zi ((794 + j : Nat) : Int) := zi_add 794 _
  refine ⟨I1, ?_, c3, c4⟩
  rw [qX12_ledTo, eX12_ledTo_0, a0, zin_t (by omega) (by omega), zgd_t, zi_cl (by omega), Int.toNat_natCast, g3, c1', zbV_s, eX12_ledTo_1]
  unfold yLd
  by_cases q : zIsO t w (b.2 j 3) 0 = true
  · have n0 : zCd zT e 340 [.ref 130, .int 734, .int (zi (j : Int))] (zm L I1 J r) = _ := mCt (L := L) (J := J) (r := r) (f := 0) (by omega) hb1 hw hm (by decide) hj
    have n1 : zCd zT e 340 [.ref 130, .int 754, .int (zi (j : Int))] (zm L I1 J r) = _ := mCt (L := L) (J := J) (r := r) (f := 1) (by omega) hb1 hw hm (by decide) hj
    rw [if_pos (c5.mpr q), if_pos q, eX12_ledTo_2, n0, zbI_s, eX12_ledTo_3]
    by_cases p0 : b.1 < 2 * yCt b 0 (b.2 j 0) b.1
    · rw [decide_eq_true p0, if_neg (show ¬ zb1 true = 0 by decide), if_pos p0, eX12_ledTo_7]
      rfl
    · rw [decide_eq_false p0, if_pos (show zb1 false = 0 by decide), if_neg p0, eX12_ledTo_4, n1, zbI_s, eX12_ledTo_5]
      by_cases p1 : b.1 < 2 * yCt b 1 (b.2 j 1) b.1
      · rw [decide_eq_true p1, if_neg (show ¬ zb1 true = 0 by decide), if_pos p1, eX12_ledTo_7]
        rfl
      · rw [decide_eq_false p1, if_pos (show zb1 false = 0 by decide), if_neg p1, eX12_ledTo_6, eX12_ledTo_7]
        rfl
  · rw [if_neg (fun w => q (c5.mp w)), if_neg q, eX12_ledTo_7]
    rfl
end
theorem yRf2 {b : Bool} {n : Nat} : zRf true b n = -2 := by
  unfold zRf
  rw [if_pos rfl]
theorem oLed (a w : Int32) : zOk 190 342 [.int a, .int w] := by
  intro L c r I J y z0 z1 hc hr hv
  obtain ⟨a, rfl, ba⟩ := zi_of a
  obtain ⟨w, rfl, bw⟩ := zi_of w
  have hT := zV_TI hv
  have h0 : zTI (zu I 130 0 (zi 0)) J y.1 := zTI_fr zSm_0 hT
  have hb : cTb 49 5 I (y.2.2.1 5) := hv.1.2.2.1 5 (by decide)
  have hw := hv.2.2.1.2.2.1 5 (by decide)
  have hmt := zV_mt hv (q := 5) (by decide)
  have hm5 : y.1.m ≤ 5 := hT.2.2.1.2.2.1
  have hm20 : y.1.m ≤ 20 := by omega
  have hb20 : (y.2.2.1 5).1 ≤ 20 := hw.1
  have ts : zCd zT 59 64 [.ref 49] (zm L I J r) = some (some (.int (zi ((y.2.2.1 5).1 : Int))), (zm L I J r)) := cTSize (by omega) (by decide) hb
  have kn : zi ((y.2.2.1 5).1 : Int) - (1 : Int32) = zi (((y.2.2.1 5).1 : Int) - 1) := zi_sub _ 1
  have kt : (zi (((y.2.2.1 5).1 : Int) - 1)).toInt64.toInt = ((y.2.2.1 5).1 : Int) - 1 := by rw [Int32.toInt_toInt64, zi_val (by omega)]
  have y5 : zu I 130 0 (zi 0) 131 733 = zi (y.2.2.1 5).1 := hmt.1
  cases h1 : zbo a 0 (((y.2.2.1 5).1 : Int) - 1)
  · have g1 := zbo_f h1
    obtain ⟨i, rfl⟩ : ∃ i : Nat, a = i := ⟨a.toNat, by omega⟩
    have hi : i < (y.2.2.1 5).1 := by omega
    cases h2 : zbo w 1 20
    · have g2 := zbo_f h2
      have cr : zCd zT 59 219 [.ref 16, .int (zi 0), .int (zi 0)] (zm L I J r) = _ := cRef (L := L) (r := r) (by omega) hT false false
      have mt := mTrack (d := 59) (L := L) (r := r) (by omega) h0
      by_cases h3 : y.1.n = 0
      · rw [yRf5 h3] at cr
        rw [decide_eq_false (show ¬ 0 < y.1.n by omega)] at mt
        refine zGo_0 hr hv (.int (zi (-5))) ?_ ?_
        · simp (disch := omega) only [qX11_led, eX11_led_0, eX11_led_1, eX11_led_2, eX11_led_3, eX11_led_4, ts, kn, cOut, cBadW, cr, h1, h2, if_true, if_false, zi_eq, zbI_s, zbL_s, zbV_s, zgd_t, zb1_t, zb1_f, zb1_01, zz_0, zz_1, zi_lit, zi_add, zi_sub, zi_mul, zi_neg, zi_z0]
          rfl
        · simp (disch := omega) only [qX12_led, eX12_led_0, eX12_led_1, eX12_led_2, eX12_led_3, eX12_led_4, eX12_led_5, y5, kn, kt, mWithin, show (0 : Int64).toInt = 0 from rfl, mWeight, mt, h1, h2, zi_eq, Bool.not_false, Bool.not_true, yI1, if_true, if_false, zbI_s, zbL_s, zbV_s, zgd_t, zb1_t, zb1_f, zb1_01, zz_0, zz_1, zi_lit, zi_add, zi_sub, zi_mul, zi_neg, zi_z0]
      · rw [yRf0 h3] at cr
        have h3 : 0 < y.1.n := by omega
        refine zGo_s hr hv (.int (zi (yLd y.1 (y.2.2.1 5) w i))) ?_ ?_
        · obtain ⟨I2, c1, c2, c3⟩ := cLed (d := 59) (L := L) (r := r) (by omega) hT hv.2.2.2.2.2.2.2.2.2 h3 hb hw hm20 hi g2
          refine ⟨I2, ?_, c2, c3⟩
          simp (disch := omega) only [qX11_led, qX11_led, eX11_led_0, eX11_led_1, eX11_led_2, eX11_led_3, eX11_led_4, eX11_led_5, eX11_led_6, ts, kn, cOut, cBadW, cr, h1, h2, c1, if_true, if_false, zi_eq, zbI_s, zbL_s, zbV_s, zgd_t, zb1_t, zb1_f, zb1_01, zz_0, zz_1, zi_lit, zi_add, zi_sub, zi_mul, zi_neg, zi_z0]
        · intro I1 s1 v1
          have hT1 : zTI (zu I1 130 0 (zi 0)) J y.1 := zTI_fr zSm_0 (zV_TI v1)
          have mt := mTrack (d := 59) (L := L) (r := r) (by omega) hT1
          rw [decide_eq_true h3] at mt
          have hm1 := zV_mt v1 (q := 5) (by decide)
          have y5 : zu I1 130 0 (zi 0) 131 733 = zi (y.2.2.1 5).1 := hm1.1
          obtain ⟨I2, m1, m2, m3⟩ := mLed (d := 59) (L := L) (r := r) (by omega) hT1 h3 (mTb_sm zSm_0 hm1) hw hm20 hi g2
          have q0 : zu I1 130 0 (zi 0) 120 = I1 120 := zu_o (by decide)
          refine ⟨I2, ?_, zSm_tr zSm_0 m2, m3.trans q0⟩
          simp (disch := omega) only [qX12_led, qX12_led, eX12_led_0, eX12_led_1, eX12_led_2, eX12_led_3, eX12_led_4, eX12_led_5, eX12_led_6, eX12_led_7, y5, kn, kt, mWithin, show (0 : Int64).toInt = 0 from rfl, mWeight, mt, m1, h1, h2, zi_eq, Bool.not_false, Bool.not_true, yI1, if_true, if_false, zbI_s, zbL_s, zbV_s, zgd_t, zb1_t, zb1_f, zb1_01, zz_0, zz_1, zi_lit, zi_add, zi_sub, zi_mul, zi_neg, zi_z0]
    · have cr : zCd zT 59 219 [.ref 16, .int (zi 0), .int (zi 1)] (zm L I J r) = _ := cRef (L := L) (r := r) (by omega) hT false true
      rw [yRf3] at cr
      refine zGo_0 hr hv (.int (zi (-3))) ?_ ?_
      · simp (disch := omega) only [qX11_led, eX11_led_0, eX11_led_1, eX11_led_2, eX11_led_3, eX11_led_4, ts, kn, cOut, cBadW, cr, h1, h2, if_true, if_false, zi_eq, zbI_s, zbL_s, zbV_s, zgd_t, zb1_t, zb1_f, zb1_01, zz_0, zz_1, zi_lit, zi_add, zi_sub, zi_mul, zi_neg, zi_z0]
        rfl
      · simp (disch := omega) only [qX12_led, eX12_led_0, eX12_led_1, eX12_led_2, eX12_led_3, y5, kn, kt, mWithin, show (0 : Int64).toInt = 0 from rfl, mWeight, h1, h2, zi_eq, Bool.not_false, Bool.not_true, yI1, if_true, if_false, zbI_s, zbL_s, zbV_s, zgd_t, zb1_t, zb1_f, zb1_01, zz_0, zz_1, zi_lit, zi_add, zi_sub, zi_mul, zi_neg, zi_z0]
  · have cr : zCd zT 59 219 [.ref 16, .int (zi 1), .int (zb1 (zbo w 1 20))] (zm L I J r) = _ := cRef (L := L) (r := r) (by omega) hT true (zbo w 1 20)
    rw [yRf2] at cr
    refine zGo_0 hr hv (.int (zi (-2))) ?_ ?_
    · simp (disch := omega) only [qX11_led, eX11_led_0, eX11_led_1, eX11_led_2, eX11_led_3, eX11_led_4, ts, kn, cOut, cBadW, cr, h1, if_true, if_false, zi_eq, zbI_s, zbL_s, zbV_s, zgd_t, zb1_t, zb1_f, zb1_01, zz_0, zz_1, zi_lit, zi_add, zi_sub, zi_mul, zi_neg, zi_z0]
      rfl
    · simp (disch := omega) only [qX12_led, eX12_led_0, eX12_led_1, y5, kn, kt, mWithin, show (0 : Int64).toInt = 0 from rfl, h1, zi_eq, Bool.not_false, Bool.not_true, yI1, if_true, if_false, zbI_s, zbL_s, zbV_s, zgd_t, zb1_t, zb1_f, zb1_01, zz_0, zz_1, zi_lit, zi_add, zi_sub, zi_mul, zi_neg, zi_z0]
