/-! an operation is in order: both answer the same, and what holds between two calls holds behind it -/
def zRr (r : Nat) : Prop := r = 0 ∨ r = 37
def zGo (ca mo : Nat) (as : List Value) (L c r : Nat) (I : Nat → Nat → Int32) (J : Nat → Nat → Int64) : Prop := ∃ (v : Value) (I1 : Nat → Nat → Int32) (J1 : Nat → Nat → Int64) (r1 : Nat) (I2 : Nat → Nat → Int32) (J2 : Nat → Nat → Int64) (r2 : Nat) (y' : zFd) (z0' z1' : Bool × zFd), zCd zT 60 ca (.ref 16 :: as) (zm L I J r) = some (some v, zm L I1 J1 r1) ∧ zCd zT 60 mo (.ref 130 :: as) (zm L I1 J1 r1) = some (some v, zm L I2 J2 r2) ∧ zRr r2 ∧ zV (c + 1) I2 J2 y' z0' z1'
def zOk (ca mo : Nat) (as : List Value) : Prop := ∀ (L c r : Nat) (I : Nat → Nat → Int32) (J : Nat → Nat → Int64) (y : zFd) (z0 z1 : Bool × zFd), c < 512 → zRr r → zV c I J y z0 z1 → zGo ca mo as L c r I J
theorem zGo_0 {ca mo : Nat} {as : List Value} {L c r : Nat} {I : Nat → Nat → Int32} {J : Nat → Nat → Int64} {y : zFd} {z0 z1 : Bool × zFd} (hr : zRr r) (hv : zV c I J y z0 z1) (v : Value) (h1 : zCd zT 60 ca (.ref 16 :: as) (zm L I J r) = some (some v, zm L I J r)) (h2 : zCd zT 60 mo (.ref 130 :: as) (zm L I J r) = some (some v, zm L (zu I 130 0 (zi 0)) J r)) : zGo ca mo as L c r I J :=
  ⟨v, I, J, r, zu I 130 0 0, J, r, y, z0, z1, h1, h2, hr, zV_fr (Nat.le_succ c) ⟨zSm_0, fun _ _ => rfl⟩ (by unfold zCa; rw [zu_o (by decide)]; exact hv.2.2.2.2.2.2.2.2.2) hv⟩
theorem zOk_q {ca mo : Nat} {as : List Value} (H : ∀ (L c r : Nat) (I : Nat → Nat → Int32) (J : Nat → Nat → Int64) (y : zFd) (z0 z1 : Bool × zFd), c < 512 → zRr r → zV c I J y z0 z1 → ∃ v : Value, (∃ I1 J1 r1, zCd zT 60 ca (.ref 16 :: as) (zm L I J r) = some (some v, zm L I1 J1 r1) ∧ zKp I I1 J J1 ∧ zCa I1 y.1 ∧ zRr r1) ∧ ∀ I1 J1 r1, zKp I I1 J J1 → zRr r1 → zV c I1 J1 y z0 z1 → ∃ I2 J2, zCd zT 60 mo (.ref 130 :: as) (zm L I1 J1 r1) = some (some v, zm L I2 J2 r1) ∧ zKp I1 I2 J1 J2 ∧ I2 120 = I1 120) : zOk ca mo as := by
  intro L c r I J y z0 z1 hc hr hv
  obtain ⟨v, ⟨I1, J1, r1, a1, a2, a3, a4⟩, h2⟩ := H L c r I J y z0 z1 hc hr hv
  have hv1 : zV c I1 J1 y z0 z1 := zV_fr (Nat.le_refl c) a2 a3 hv
  obtain ⟨I2, J2, b1, b2, b3⟩ := h2 I1 J1 r1 a2 a4 hv1
  exact ⟨v, I1, J1, r1, I2, J2, r1, y, z0, z1, a1, b1, a4, zV_fr (Nat.le_succ c) b2 (by unfold zCa; rw [b3]; exact a3) hv1⟩
theorem zKp_3 {I I' : Nat → Nat → Int32} {J : Nat → Nat → Int64} (h : zFr3 I I') : zKp I I' J J := ⟨zSm_3 h, fun _ _ => rfl⟩
theorem zCa_3 {I I' : Nat → Nat → Int32} {t : zDy} (h : zFr3 I I') (hc : zCa I t) : zCa I' t := by
  unfold zCa
  rw [h 120 (by decide) (by decide) (by decide)]
  exact hc
/-- a question that goes by RUNS alone -/
theorem zOk_r {ca mo : Nat} {as : List Value} {V : zDy → Value} (C : ∀ (L r : Nat) (I : Nat → Nat → Int32) (J : Nat → Nat → Int64) (t : zDy), zTI I J t → ∃ I', zCd zT 60 ca (.ref 16 :: as) (zm L I J r) = some (some (V t), zm L I' J r) ∧ zFr3 I I') (M : ∀ (L r : Nat) (I : Nat → Nat → Int32) (J : Nat → Nat → Int64) (t : zDy), zTI I J t → ∃ I', zCd zT 60 mo (.ref 130 :: as) (zm L I J r) = some (some (V t), zm L I' J r) ∧ zSm I I' ∧ I' 120 = I 120) : zOk ca mo as := by
  refine zOk_q fun L c r I J y z0 z1 hc hr hv => ⟨V y.1, ?_, fun I1 J1 r1 hk hr1 hv1 => ?_⟩
  · obtain ⟨I', a, b⟩ := C L r I J y.1 (zV_TI hv)
    exact ⟨I', J, r, a, zKp_3 b, zCa_3 b hv.2.2.2.2.2.2.2.2.2, hr⟩
  · obtain ⟨I', a, b, c⟩ := M L r1 I1 J1 y.1 (zV_TI hv1)
    exact ⟨I', J1, a, ⟨b, fun _ _ => rfl⟩, c⟩
theorem oRun (a b c w : Int32) : zOk 143 282 [.int a, .int b, .int c, .int w] := by
  obtain ⟨a, rfl, b1⟩ := zi_of a
  obtain ⟨b, rfl, b2⟩ := zi_of b
  obtain ⟨c, rfl, b3⟩ := zi_of c
  obtain ⟨w, rfl, b4⟩ := zi_of w
  exact zOk_r (V := fun t => .int (zi (zRnV t a b c w))) (fun L r I J t h => cRun (by decide) h b1 b2 b3 b4) (fun L r I J t h => mRun (by decide) h b1 b2 b3 b4)
theorem oSpeed (a b : Int32) : zOk 144 284 [.int a, .int b] := by
  obtain ⟨a, rfl, b1⟩ := zi_of a
  obtain ⟨b, rfl, b2⟩ := zi_of b
  exact zOk_r (V := fun t => .int (zi (zSpV t a b))) (fun L r I J t h => cSpeed (by decide) h b1 b2) (fun L r I J t h => mSpeedQ (by decide) h b1 b2)
theorem oPoint (a b : Int32) : zOk 145 286 [.int a, .int b] := by
  obtain ⟨a, rfl, b1⟩ := zi_of a
  obtain ⟨b, rfl, b2⟩ := zi_of b
  exact zOk_r (V := fun t => .int (zi (zPtV t a b))) (fun L r I J t h => ⟨I, cPoint (by decide) h b1 b2, zFr3_rf⟩) (fun L r I J t h => ⟨_, mPoint (by decide) h b1 b2, zSm_0, zu_o (by decide)⟩)
theorem oFelt (a b c : Int32) : zOk 146 288 [.int a, .int b, .int c] := by
  obtain ⟨a, rfl, b1⟩ := zi_of a
  obtain ⟨b, rfl, b2⟩ := zi_of b
  obtain ⟨c, rfl, b3⟩ := zi_of c
  exact zOk_r (V := fun t => .int (zFlV t a b c)) (fun L r I J t h => cFeltQ (by decide) h b1 b2 b3) (fun L r I J t h => mFeltQ (by decide) h b1 b2 b3)
theorem oFeels (a b m : Int32) : zOk 147 289 [.int a, .int b, .int m] := by
  obtain ⟨a, rfl, b1⟩ := zi_of a
  obtain ⟨b, rfl, b2⟩ := zi_of b
  exact zOk_r (V := fun t => .int (zFeV t a b m)) (fun L r I J t h => cFeels (by decide) h b1 b2) (fun L r I J t h => mFeels (by decide) h b1 b2)
/-! the model's tables -/
theorem zAd_j {q f f' k k' : Nat} (hq : q < 8) (hf : f < zWd q) (hf' : f' < zWd q) (hk : k < zMs q) (hk' : k' < zMs q) (h : zAd q f k = zAd q f' k') : f = f' ∧ (k = k' ∨ q = 6 ∧ f = 0) := by
  obtain rfl | rfl | rfl | rfl | rfl | rfl | rfl | rfl : q = 0 ∨ q = 1 ∨ q = 2 ∨ q = 3 ∨ q = 4 ∨ q = 5 ∨ q = 6 ∨ q = 7 := by omega
  all_goals
    simp only [zWd, zMs, zBs, zAd, if_true, if_false, Nat.reduceEqDiff, Nat.one_ne_zero] at *
    have g : f = 0 ∨ f = 1 ∨ f = 2 ∨ f = 3 := by omega
    have g' : f' = 0 ∨ f' = 1 ∨ f' = 2 ∨ f' = 3 := by omega
    rcases g with rfl | rfl | rfl | rfl
    all_goals
      rcases g' with rfl | rfl | rfl | rfl
      all_goals first
        | omega
        | (simp at h; done)
        | (simp at h; omega)
        | (simp at h ⊢; omega)
        | simp
theorem mTb_pu {q : Nat} {g g' : Nat → Int32} {b : yTb} {v : Nat → Int} (hq : q < 8) (hb : b.1 < zMs q) (hm : mTb q g b) (h6 : q = 6 → ∀ k, k < b.1 → b.2 k 0 = v 0) (e0 : g' (zBs q) = zi ((b.1 + 1 : Nat) : Int)) (e1 : ∀ f, f < zWd q → g' (zAd q f b.1) = zi (v f)) (e2 : ∀ k, k ≠ zBs q → (∀ f, f < zWd q → k ≠ zAd q f b.1) → g' k = g k) : mTb q g' (zPu b v) := by
  refine ⟨e0, fun k f hk hf => ?_⟩
  have hk1 : k < b.1 + 1 := hk
  show _ = zi (if k = b.1 then v f else b.2 k f)
  by_cases e3 : k = b.1
  · rw [if_pos e3, e3]
    exact e1 f hf
  · rw [if_neg e3]
    by_cases e4 : q = 6 ∧ f = 0
    · have e5 : zAd q f k = zAd q f b.1 := by
        rw [e4.1, e4.2]
        rfl
      rw [e5, e1 f hf, e4.2, h6 e4.1 k (by omega)]
    · have r := zAd_in hq hf (show k < zMs q by omega)
      rw [e2 _ (by omega) (fun f' hf' w => ?_)]
      · exact hm.2 k f (by omega) hf
      · have := zAd_j hq hf hf' (by omega) hb w
        rcases this.2 with w2 | w2
        · exact e3 w2
        · exact e4 w2
def zYq (y : zFd) (q : Nat) (b : yTb) : zFd := (y.1, y.2.1, (fun p => if p = q then b else y.2.2.1 p), y.2.2.2)
theorem zYq_o {y : zFd} {p q : Nat} {b : yTb} (h : p ≠ q) : (zYq y q b).2.2.1 p = y.2.2.1 p := if_neg h
theorem zYq_s {y : zFd} {q : Nat} {b : yTb} : (zYq y q b).2.2.1 q = b := if_pos rfl
theorem cDay_tb {I I' : Nat → Nat → Int32} {J : Nat → Nat → Int64} {y : zFd} {q : Nat} {b : yTb} (hq : q < 8) (h : cDay 0 I J y) (e : ∀ o, 31 ≤ o → o ≤ 55 → o ≠ 39 + 2 * q → o ≠ 39 + 2 * q + 1 → I' o = I o) (hb : cTb (39 + 2 * q) q I' b) : cDay 0 I' J (zYq y q b) := by
  refine ⟨cTr_fr (fun o _ _ => e o (by omega) (by omega) (by omega) (by omega)) (fun _ _ _ => rfl) h.1, cRl_fr (e 37 (by omega) (by omega) (by omega) (by omega)) rfl h.2.1, fun p hp => ?_, fun c hc => ?_⟩
  · by_cases w : p = q
    · subst w
      rw [zYq_s]
      exact hb
    · rw [zYq_o w]
      exact cTb_fr (e _ (by omega) (by omega) (by omega) (by omega)) (e _ (by omega) (by omega) (by omega) (by omega)) (h.2.2.1 p hp)
  · have e5 : I' (55 + 0) = I (55 + 0) := e 55 (by omega) (by omega) (by omega) (by omega)
    rw [e5]
    exact h.2.2.2 c hc
theorem mDay_tb {I I' : Nat → Nat → Int32} {y : zFd} {q c : Nat} {b : yTb} (hq : q < 8) (hw : wDay c y) (h : mDay 0 I y) (e : ∀ k, k < 883 → ¬ (zBs q ≤ k ∧ k < zBs q + zSz q) → I' 131 k = I 131 k) (hb : mTb q (I' 131) b) : mDay 0 I' (zYq y q b) := by
  have e' : ∀ k, k < 883 → ¬ (zBs q ≤ k ∧ k < zBs q + zSz q) → I' 131 (0 + k) = I 131 (0 + k) := by
    intro k a b
    rw [Nat.zero_add]
    exact e k a b
  have rq := zBs_r hq
  refine ⟨mTr_fr hw.1 (fun k a => e' k (by omega) (by omega)) h.1, mRl_fr hw.2.1 (fun k a b => e' k (by omega) (by omega)) h.2.1, fun p hp => ?_, fun k hk => ?_⟩
  · by_cases w : p = q
    · subst w
      rw [zYq_s]
      simp only [Nat.zero_add]
      exact hb
    · rw [zYq_o w]
      have r1 := zBs_r hp
      have r2 := zBs_d hp hq w
      exact mTb_fr hp (hw.2.2.1 p hp) (fun k a b => e' k (by omega) (by omega)) (h.2.2.1 p hp)
  · rw [e' _ (by omega) (by omega)]
    exact h.2.2.2 k hk
theorem wDay_tb {y : zFd} {q c : Nat} {b : yTb} (hw : wDay c y) (hb : wTb y.1.n y.1.m c q b) (h0 : y.1.n = 0 → q ≠ 0 ∧ q ≠ 1 ∧ q ≠ 5 ∧ q ≠ 6) : wDay c (zYq y q b) := by
  refine ⟨hw.1, hw.2.1, fun p hp => ?_, hw.2.2.2.1, fun hn => ?_⟩
  · by_cases w : p = q
    · subst w
      rw [zYq_s]
      exact hb
    · rw [zYq_o w]
      exact hw.2.2.1 p hp
  · have a := h0 hn
    rw [zYq_o (Ne.symm a.1), zYq_o (Ne.symm a.2.1), zYq_o (Ne.symm a.2.2.1), zYq_o (Ne.symm a.2.2.2)]
    exact hw.2.2.2.2 hn
theorem wTb_pu {n m c q : Nat} {b : yTb} {v : Nat → Int} (h : wTb n m c q b) (hb : b.1 < zMs q) (hv : ∀ f, f < zWd q → zLo q f ≤ v f ∧ v f ≤ zHi n m c q f) : wTb n m c q (zPu b v) := by
  refine ⟨hb, fun k f hk hf => ?_⟩
  have hk1 : k < b.1 + 1 := hk
  show zLo q f ≤ (if k = b.1 then v f else b.2 k f) ∧ (if k = b.1 then v f else b.2 k f) ≤ _
  by_cases e : k = b.1
  · rw [if_pos e]
    exact hv f hf
  · rw [if_neg e]
    exact h.2 k f (by omega) hf
/-- one entry more: from what either side did -/
theorem zV_tb {c q : Nat} {I I1 I2 : Nat → Nat → Int32} {J : Nat → Nat → Int64} {y : zFd} {z0 z1 : Bool × zFd} {b : yTb} (hq : q < 8) (hv : zV c I J y z0 z1) (h1 : ∀ o, o ≠ 39 + 2 * q → o ≠ 39 + 2 * q + 1 → I1 o = I o) (hb : cTb (39 + 2 * q) q I1 b) (h2 : ∀ o k, o ≠ 131 → ¬ (o = 130 ∧ k = 0) → I2 o k = I1 o k) (h3 : ∀ k, ¬ (zBs q ≤ k ∧ k < zBs q + zSz q) → I2 131 k = I1 131 k) (hm : mTb q (I2 131) b) (hw : wTb y.1.n y.1.m (c + 1) q b) (h0 : y.1.n = 0 → q ≠ 0 ∧ q ≠ 1 ∧ q ≠ 5 ∧ q ≠ 6) : zV (c + 1) I2 J (zYq y q b) z0 z1 := by
  obtain ⟨a1, a2, a3, a4, a5, a6, a7, a8, a9, a10⟩ := hv
  have rq := zBs_r hq
  have hw1 := wDay_le (Nat.le_succ c) a3
  have i2 : ∀ o, o ≠ 131 → o ≠ 130 → I2 o = I1 o := fun o x1 x2 => funext fun k => h2 o k x1 (fun w => x2 w.1)
  have i3 : ∀ o, o ≠ 131 → o ≠ 130 → o ≠ 39 + 2 * q → o ≠ 39 + 2 * q + 1 → I2 o = I o := fun o x1 x2 x3 x4 => (i2 o x1 x2).trans (h1 o x3 x4)
  have i4 : ∀ k, ¬ (zBs q ≤ k ∧ k < zBs q + zSz q) → I2 131 k = I 131 k := fun k x => (h3 k x).trans (by rw [h1 131 (by omega) (by omega)])
  have i5 : ∀ k, k ≠ 0 → I2 130 k = I 130 k := fun k x => (h2 130 k (by omega) (fun w => x w.2)).trans (by rw [h1 130 (by omega) (by omega)])
  have vm : ∀ D O j o z, (26 ≤ D ∧ D ≤ 60) → 883 ≤ O → (56 ≤ o ∧ o ≤ 115) → zVm c D O I J j o z → zVm (c + 1) D O I2 J j o z := by
    intro D O j o z hD hO ho hz
    have e : ∀ p, 31 ≤ p → p ≤ 55 → I2 (p + D) = I (p + D) := fun p _ _ => i3 _ (by omega) (by omega) (by omega) (by omega)
    refine ⟨by rw [i3 o (by omega) (by omega) (by omega) (by omega)]; exact hz.1, by rw [i3 133 (by omega) (by omega) (by omega) (by omega)]; exact hz.2.1, fun p hp => by rw [e _ (by omega) (by omega)]; exact hz.2.2.1 p hp, fun w => ?_⟩
    obtain ⟨x1, x2, x3⟩ := hz.2.2.2 w
    exact ⟨cDay_fr e (fun _ _ _ => rfl) x1, mDay_fr x3 (fun k _ => i4 _ (by omega)) x2, wDay_le (Nat.le_succ c) x3⟩
  refine ⟨cDay_tb hq a1 (fun o x1 x2 x3 x4 => i3 o (by omega) (by omega) x3 x4) (cTb_fr (i2 _ (by omega) (by omega)) (i2 _ (by omega) (by omega)) hb), mDay_tb hq a3 a2 (fun k _ x => i4 k x) hm, wDay_tb hw1 hw h0, vm _ _ _ _ _ (by omega) (by omega) (by omega) a4, vm _ _ _ _ _ (by omega) (by omega) (by omega) a5, fun i hi => ?_, ?_, fun k hk => ?_, by rw [i5 25 (by decide)]; exact a9, ?_⟩
  · rw [i3 (108 + 2 * i) (by omega) (by omega) (by omega) (by omega), i3 145 (by omega) (by omega) (by omega) (by omega), i3 146 (by omega) (by omega) (by omega) (by omega)]
    exact a6 i hi
  · unfold zVt
    rw [i3 17 (by omega) (by omega) (by omega) (by omega), i3 18 (by omega) (by omega) (by omega) (by omega), i3 134 (by omega) (by omega) (by omega) (by omega), i5 5 (by decide), i5 15 (by decide), i5 16 (by decide)]
    exact a7
  · rw [i3 119 (by omega) (by omega) (by omega) (by omega)]
    exact a8 k hk
  · unfold zCa
    rw [i3 120 (by omega) (by omega) (by omega) (by omega)]
    exact a10
