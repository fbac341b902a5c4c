section
variable {d L r : Nat} {I : Nat → Nat → Int32} {J : Nat → Nat → Int64}
variable {t : zDy}
theorem mWalkN (hd : 2 ≤ d) (h : zTI I J t) {b : yTb} {m c : Nat} (hb : mTb 1 (I 131) b) (hw : wTb t.n m c 1 b) {p : Nat} (hp : p < t.n) {l : Int} (wl : -1 ≤ l ∧ l ≤ 100) {wh : Int32} : zX 0 (zCd zT d) zc_X12_walk 10 [some (.ref 130), some (.int (zi (p : Int))), some (.int wh), some (.int (zi l)), some (.int (-1)), some (.int 0), none] [] (zm L I J r) = some (some (.int (zi (yNr t b p l b.1))), (zm L I J r)) := by
  have hn := h.2.2.1.1
  have hb6 : b.1 ≤ 6 := hw.1
  have en : I 131 667 = zi b.1 := hb.1
  have hbb : ∀ k, k < b.1 → 0 ≤ b.2 k 0 ∧ b.2 k 0 ≤ (t.n : Int) - 1 := fun k hk => hw.2 k 0 hk (by decide)
  have c1 := zFor (n := b.1) (G := fun k => zX 0 (zCd zT d) zc_X12_walk 10 [some (.ref 130), some (.int (zi (p : Int))), some (.int wh), some (.int (zi l)), some (.int (zi (yNr t b p l k))), some (.int (zi ((k : Nat) : Int))), none] [] (zm L I J r)) (fun k hk => by
    have g0 : I 131 (668 + k) = zi (b.2 k 0) := hb.2 k 0 hk (by decide)
    have a0 : (668 : Int32) + zi ((k : Nat) : Int) = zi ((668 + k : Nat) : Int) := zi_add 668 _
    have w0 := hbb k hk
    have e0 : zi (b.2 k 0) = zi (((b.2 k 0).toNat : Nat) : Int) := congrArg zi (by omega)
    have k2 : zi ((k : Nat) : Int) + (1 : Int32) = zi ((k + 1 : Nat) : Int) := zi_add _ 1
    have w1 := yWb_b h.2.2.1 hp (show (b.2 k 0).toNat < t.n by omega)
    have w2 := yNr_b (t := t) (b := b) (p := p) (l := l) hbb k (by omega)
    have cw := mWb (d := d) (L := L) (r := r) (by omega) h hp (show (b.2 k 0).toNat < t.n by omega)
    rw [← e0] at cw
    have nx : ∀ x l6 : Int32, zX 0 (zCd zT d) zc_X12_walk 13 [some (.ref 130), some (.int (zi (p : Int))), some (.int wh), some (.int (zi l)), some (.int x), some (.int (zi ((k : Nat) : Int))), some (.int l6)] [] (zm L I J r) = zX 0 (zCd zT d) zc_X12_walk 10 [some (.ref 130), some (.int (zi (p : Int))), some (.int wh), some (.int (zi l)), some (.int x), some (.int (zi ((k + 1 : Nat) : Int))), none] [] (zm L I J r) := by
      intro x l6
      rw [eX12_walk_13, k2]
    rw [eX12_walk_10, en, if_neg (show ¬ zi (b.1 : Int) ≤ zi ((k : Nat) : Int) by rw [zi_le (by omega) (by omega)]; omega), a0, zin_t (by omega) (by omega), zgd_t, zi_cl (by omega), Int.toNat_natCast, g0, cw, zbI_s, eX12_walk_11, eX12_walk_12, yNr]
    simp only [nx, zi_m1 (show -2147483648 ≤ yNr t b p l k ∧ yNr t b p l k < 2147483648 by omega), zi_le (show -2147483648 ≤ yNr t b p l k ∧ yNr t b p l k < 2147483648 by omega) (show -2147483648 ≤ b.2 k 0 ∧ b.2 k 0 < 2147483648 by omega), zi_eq (show -2147483648 ≤ yWb t p (b.2 k 0).toNat ∧ yWb t p (b.2 k 0).toNat < 2147483648 by omega) (show -2147483648 ≤ l ∧ l < 2147483648 by omega)]
    by_cases q3 : yWb t p (b.2 k 0).toNat = l
    · simp only [q3, if_true, and_true]
      by_cases q1 : yNr t b p l k = -1
      · simp only [q1, true_or, if_true]
      · simp only [q1, false_or, if_false]
        by_cases q2 : yNr t b p l k ≤ b.2 k 0
        · simp only [q2, show ¬ b.2 k 0 < yNr t b p l k by omega, if_true, if_false]
        · simp only [q2, show b.2 k 0 < yNr t b p l k by omega, if_true, if_false]
    · simp only [q3, if_false, and_false])
  have z0 : zX 0 (zCd zT d) zc_X12_walk 10 [some (.ref 130), some (.int (zi (p : Int))), some (.int wh), some (.int (zi l)), some (.int (-1)), some (.int 0), none] [] (zm L I J r) = _ := c1
  rw [z0, eX12_walk_10, en, if_pos (Int32.le_refl _), eX12_walk_14]
theorem mWalk (hd : 4 ≤ d) {y : zFd} {c : Nat} (h : zTI I J y.1) (hD : mTb 1 (I 131) (y.2.2.1 1)) (hW : wDay c y) {p wh : Int} (bp : -2147483648 ≤ p ∧ p < 2147483648) (bwh : -2147483648 ≤ wh ∧ wh < 2147483648) : zCd zT d 320 [.ref 130, .int (zi p), .int (zi wh)] (zm L I J r) = some (some (.int (zi (yWlV y p wh))), (zm L (zu I 130 0 0) J r)) := by
  obtain ⟨e, rfl⟩ : ∃ e, d = e + 1 := ⟨d - 1, by omega⟩
  have h0 := zTI_fr zSm_0 h
  have hb : mTb 1 (zu I 130 0 0 131) (y.2.2.1 1) := mTb_sm zSm_0 hD
  have hw := hW.2.2.1 1 (by decide)
  have hbb : ∀ k, k < (y.2.2.1 1).1 → 0 ≤ (y.2.2.1 1).2 k 0 ∧ (y.2.2.1 1).2 k 0 ≤ (y.1.n : Int) - 1 := fun k hk => hw.2 k 0 hk (by decide)
  rw [qX12_walk, eX12_walk_0, mWithin (by omega) bwh, zbI_s, eX12_walk_1, show (0 : Int64).toInt = 0 from rfl, show (1 : Int64).toInt = 1 from rfl]
  generalize zu I 130 0 0 = I at h0 hb ⊢
  have e1 : zi wh = 0 ↔ wh = 0 := zi_eq (y := 0) bwh (by decide)
  have hno : ∀ b : Bool, b = true → zRf b false y.1.n = -2 := by
    intro b hb
    unfold zRf
    rw [if_pos hb]
  unfold yWlV
  cases hwh : zbo wh 0 1
  · rw [if_neg (show ¬ zb1 (!false) = 0 by decide), mTrack (by omega) h0, zbI_s, eX12_walk_2]
    by_cases hn : 0 < y.1.n
    · have hnp : zNp y.1 p = zbo p 0 ((y.1.n : Int) - 1) := by
        unfold zNp
        rw [decide_eq_true hn, Bool.true_and]
      rw [decide_eq_true hn, if_neg (show ¬ zb1 true = 0 by decide), mPt (by omega) h0 bp, zbI_s, eX12_walk_3, hnp]
      cases hp0 : zbo p 0 ((y.1.n : Int) - 1)
      · have hz : zRf (false || false) false y.1.n = 0 := zRf_0.mpr ⟨rfl, rfl, hn⟩
        have gp := zbo_f hp0
        have ep : zi p = zi ((p.toNat : Nat) : Int) := congrArg zi (by omega)
        have hn60 := h0.2.2.1.1
        have wl := yLw_b h0.2.2.1 (show p.toNat < y.1.n by omega) hbb (m := -1) (by omega) (y.2.2.1 1).1 (Nat.le_refl _)
        have l0 : zCd zT e 319 [.ref 130, .int (zi ((p.toNat : Nat) : Int)), .int ((-1 : Int32))] (zm L I J r) = _ := mLw (by omega) h0 hb hw (show p.toNat < y.1.n by omega) (mo := -1) (by omega)
        rw [if_neg (show ¬ zb1 (!false) = 0 by decide), eX12_walk_5, mTrack (by omega) h0, zbI_s, eX12_walk_6, decide_eq_true hn, if_neg (show ¬ zb1 true = 0 by decide), eX12_walk_7, ep, l0, zbI_s, eX12_walk_8, eX12_walk_9, mWalkN (by omega) h0 hb hw (show p.toNat < y.1.n by omega) wl, if_pos hz]
        simp only [e1]
        by_cases w1 : (y.2.2.1 1).1 = 0
        · rw [if_pos w1, w1, yNr, yLw, if_pos rfl, ite_self]
        · rw [if_neg w1]
          by_cases w2 : wh = 0
          · rw [if_pos w2, if_pos w2]
          · rw [if_neg w2, if_neg w2]
      · rw [if_pos (show zb1 (!true) = 0 from rfl), eX12_walk_4, hno (true || false) rfl]
        rfl
    · have hnp : zNp y.1 p = false := by
        unfold zNp
        rw [decide_eq_false hn, Bool.false_and]
      have hz : zRf (false || false) false y.1.n = -5 := by
        unfold zRf
        rw [if_neg (by decide), if_neg (by decide), if_pos (by omega)]
      rw [decide_eq_false hn, if_pos (show zb1 false = 0 from rfl), eX12_walk_5, mTrack (by omega) h0, zbI_s, eX12_walk_6, decide_eq_false hn, if_pos (show zb1 false = 0 from rfl), hnp, hz]
      rfl
  · rw [if_pos (show zb1 (!true) = 0 from rfl), eX12_walk_4, hno _ (Bool.or_true _)]
    rfl
theorem mWorst (hd : 5 ≤ d) {y : zFd} {c : Nat} (h : zTI I J y.1) (hD : mTb 1 (I 131) (y.2.2.1 1)) (hW : wDay c y) {wh : Int} (bwh : -2147483648 ≤ wh ∧ wh < 2147483648) : zCd zT d 322 [.ref 130, .int (zi wh)] (zm L I J r) = some (some (.int (zi (yWoW y wh))), (zm L (zu I 130 0 0) J r)) := by
  obtain ⟨e, rfl⟩ : ∃ e, d = e + 1 := ⟨d - 1, by omega⟩
  have h0 := zTI_fr zSm_0 h
  have hb : mTb 1 (zu I 130 0 0 131) (y.2.2.1 1) := mTb_sm zSm_0 hD
  have hw := hW.2.2.1 1 (by decide)
  have hbb : ∀ k, k < (y.2.2.1 1).1 → 0 ≤ (y.2.2.1 1).2 k 0 ∧ (y.2.2.1 1).2 k 0 ≤ (y.1.n : Int) - 1 := fun k hk => hw.2 k 0 hk (by decide)
  rw [qX12_worst, eX12_worst_0, mWithin (by omega) bwh, zbI_s, eX12_worst_1, show (0 : Int64).toInt = 0 from rfl, show (1 : Int64).toInt = 1 from rfl]
  generalize zu I 130 0 0 = I at h0 hb ⊢
  have e1 : zi wh = 0 ↔ wh = 0 := zi_eq (y := 0) bwh (by decide)
  have en : I 131 0 = zi y.1.n := h0.2.1.1
  have hn60 := h0.2.2.1.1
  unfold yWoW
  cases hwh : zbo wh 0 1
  · rw [if_neg (show ¬ zb1 (!false) = 0 by decide), eX12_worst_2, mTrack (by omega) h0, zbI_s, eX12_worst_3]
    by_cases hn : 0 < y.1.n
    · have hz : zRf false false y.1.n = 0 := zRf_0.mpr ⟨rfl, rfl, hn⟩
      have l0 : zCd zT e 321 [.ref 130, .int ((-1 : Int32))] (zm L I J r) = _ := mGw (by omega) h0 hb hw (mo := -1) (by omega)
      have l1 : zCd zT e 321 [.ref 130, .int ((0 : Int32))] (zm L I J r) = _ := mGw (by omega) h0 hb hw (mo := 0) (by omega)
      rw [decide_eq_true hn, if_neg (show ¬ zb1 true = 0 by decide), eX12_worst_4, l0, zbI_s, eX12_worst_5, eX12_worst_6, l1, zbI_s, eX12_worst_7, if_pos hz]
      have c1 := zFor (n := y.1.n - 1) (G := fun k => zX 0 (zCd zT e) zc_X12_worst 8 [some (.ref 130), some (.int (zi wh)), some (.int (zi ((yBs y.1 (y.2.2.1 1) k).1 : Int))), some (.int (zi (yBs y.1 (y.2.2.1 1) k).2)), some (.int (zi ((k + 1 : Nat) : Int))), none] [] (zm L I J r)) (fun k hk => by
        have k2 : zi ((k + 1 : Nat) : Int) + (1 : Int32) = zi ((k + 1 + 1 : Nat) : Int) := zi_add _ 1
        have w1 := yGw_b h0.2.2.1 hbb (m := ((k + 1 : Nat) : Int)) (by omega) y.1.n (Nat.le_refl _)
        have w2 := yBs_b h0.2.2.1 hbb k (by omega)
        rw [eX12_worst_8, en, if_neg (show ¬ zi (y.1.n : Int) ≤ zi ((k + 1 : Nat) : Int) by rw [zi_le (by omega) (by omega)]; omega), mGw (by omega) h0 hb hw (mo := ((k + 1 : Nat) : Int)) (by omega), zbI_s, eX12_worst_9, eX12_worst_10, eX12_worst_11, eX12_worst_11, k2, yBs]
        simp only [zi_lt (show -2147483648 ≤ yGw y.1 (y.2.2.1 1) ((k + 1 : Nat) : Int) y.1.n ∧ yGw y.1 (y.2.2.1 1) ((k + 1 : Nat) : Int) y.1.n < 2147483648 by omega) (show -2147483648 ≤ (yBs y.1 (y.2.2.1 1) k).2 ∧ (yBs y.1 (y.2.2.1 1) k).2 < 2147483648 by omega)]
        by_cases q : yGw y.1 (y.2.2.1 1) ((k + 1 : Nat) : Int) y.1.n < (yBs y.1 (y.2.2.1 1) k).2
        · rw [if_pos q, if_pos q]
        · rw [if_neg q, if_neg q])
      have z0 : zX 0 (zCd zT e) zc_X12_worst 8 [some (.ref 130), some (.int (zi wh)), some (.int 0), some (.int (zi (yGw y.1 (y.2.2.1 1) 0 y.1.n))), some (.int 1), none] [] (zm L I J r) = _ := c1
      rw [z0, eX12_worst_8, en, if_pos (show zi (y.1.n : Int) ≤ zi ((y.1.n - 1 + 1 : Nat) : Int) by rw [zi_le (by omega) (by omega)]; omega), eX12_worst_12]
      simp only [e1]
      by_cases w2 : wh = 0
      · rw [if_pos w2, if_pos w2]
      · rw [if_neg w2, if_neg w2]
    · have hz : zRf false false y.1.n = -5 := by
        unfold zRf
        rw [if_neg (by decide), if_neg (by decide), if_pos (by omega)]
      rw [decide_eq_false hn, if_pos (show zb1 false = 0 from rfl), hz]
      rfl
  · have hz : zRf true false y.1.n = -2 := by
      unfold zRf
      rw [if_pos rfl]
    rw [if_pos (show zb1 (!true) = 0 from rfl), hz]
    rfl
end
theorem oWalk (a b : Int32) : zOk 166 320 [.int a, .int b] := by
  obtain ⟨a, rfl, ba⟩ := zi_of a
  obtain ⟨b, rfl, bb⟩ := zi_of b
  exact zOk_k (V := fun y => .int (zi (yWlV y a b))) (fun L r c I J y h hD hW _ hc => ⟨I, cWalk (by decide) h hD hW ba bb, zSm_rf, hc⟩) (fun L r c I J y h hD hW _ => ⟨_, mWalk (by decide) h (mDay_t hD (by decide)) hW ba bb, zSm_0, zu_o (by decide)⟩)
theorem oWorst (a : Int32) : zOk 169 322 [.int a] := by
  obtain ⟨a, rfl, ba⟩ := zi_of a
  exact zOk_k (V := fun y => .int (zi (yWoW y a))) (fun L r c I J y h hD hW _ hc => ⟨I, cWorst (by decide) h hD hW ba, zSm_rf, hc⟩) (fun L r c I J y h hD hW _ => ⟨_, mWorst (by decide) h (mDay_t hD (by decide)) hW ba, zSm_0, zu_o (by decide)⟩)
