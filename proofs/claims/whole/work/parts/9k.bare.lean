/-! BARE: hours without a crew -/
theorem yUn_t {b : yTb} {f s i : Nat} : ∀ k, (yUn b f s k).testBit i = true ↔ ∃ j, j < k ∧ s.testBit j = true ∧ (b.2 j f).toNat.testBit i = true := by
  intro k
  induction k with
  | zero =>
    rw [yUn, Nat.zero_testBit]
    refine ⟨fun w => absurd w (by decide), fun w => ?_⟩
    obtain ⟨j, hj, _⟩ := w
    omega
  | succ k ih =>
    rw [yUn]
    by_cases q : s.testBit k = true
    · rw [if_pos q, Nat.testBit_or, Bool.or_eq_true, ih]
      constructor
      · intro w
        rcases w with ⟨j, h1, h2, h3⟩ | w
        · exact ⟨j, by omega, h2, h3⟩
        · exact ⟨k, by omega, q, w⟩
      · intro ⟨j, h1, h2, h3⟩
        by_cases e : j = k
        · subst e
          exact Or.inr h3
        · exact Or.inl ⟨j, by omega, h2, h3⟩
    · rw [if_neg q, ih]
      constructor
      · intro ⟨j, h1, h2, h3⟩
        exact ⟨j, by omega, h2, h3⟩
      · intro ⟨j, h1, h2, h3⟩
        by_cases e : j = k
        · subst e
          exact absurd h2 q
        · exact ⟨j, by omega, h2, h3⟩
theorem yUn_m {b : yTb} {f s D K n : Nat} (h : s &&& D = s) (hk : yUn b f s n &&& K = K) : yUn b f D n &&& K = K := by
  refine Nat.eq_of_testBit_eq fun i => ?_
  rw [Nat.testBit_and]
  cases q : K.testBit i
  · rw [Bool.and_false]
  · have h1 : (yUn b f s n &&& K).testBit i = true := by rw [hk]; exact q
    rw [Nat.testBit_and, Bool.and_eq_true] at h1
    obtain ⟨j, j1, j2, j3⟩ := (yUn_t n).mp h1.1
    have h2 : (s &&& D).testBit j = true := by rw [h]; exact j2
    rw [Nat.testBit_and, Bool.and_eq_true] at h2
    rw [(yUn_t n).mpr ⟨j, j1, h2.2, j3⟩]
    rfl
theorem yCw_n {b : yTb} {D K : Nat} : ∀ N, yCw b D K N = -1 ↔ ∀ s, s < N → ¬ (s &&& D = s ∧ yUn b 0 s b.1 &&& K = K) := by
  intro N
  induction N with
  | zero => exact ⟨fun _ s hs => absurd hs (by omega), fun _ => rfl⟩
  | succ N ih =>
    rw [yCw]
    by_cases q : N &&& D = N ∧ yUn b 0 N b.1 &&& K = K ∧ (yCw b D K N = -1 ∨ yPc N 10 < yPc (yCw b D K N).toNat 10)
    · rw [if_pos q]
      exact ⟨fun w => by omega, fun w => absurd ⟨q.1, q.2.1⟩ (w N (by omega))⟩
    · rw [if_neg q, ih]
      constructor
      · intro w s hs
        by_cases e : s = N
        · subst e
          exact fun x => q ⟨x.1, x.2, Or.inl (ih.mpr w)⟩
        · exact w s (by omega)
      · intro w s hs
        exact w s (by omega)
theorem yCw_k {b : yTb} {h : Int} {K : Nat} : yCw b (yDu b h b.1) K (2 ^ b.1) = -1 ↔ ¬ (yUn b 0 (yDu b h b.1) b.1 &&& K = K) := by
  have db := yDu_b (b := b) (h := h) b.1
  rw [yCw_n]
  constructor
  · intro w x
    exact w _ db ⟨Nat.and_self _, x⟩
  · intro w s _ x
    exact w (yUn_m x.1 x.2)
def yBa (b : yTb) (K : Nat) : Nat → Nat
  | 0 => 0
  | k + 1 => if yUn b 0 (yDu b (k : Int) b.1) b.1 &&& K = K then yBa b K k else yBa b K k ||| 2 ^ k
theorem yBa_b {b : yTb} {K : Nat} : ∀ k, yBa b K k < 2 ^ k := by
  intro k
  induction k with
  | zero => exact Nat.one_pos
  | succ k ih =>
    have hp : 2 ^ k < 2 ^ (k + 1) := Nat.pow_lt_pow_succ (by decide)
    rw [yBa]
    split
    · omega
    · exact Nat.or_lt_two_pow (by omega) hp
section
variable {d L r : Nat} {I : Nat → Nat → Int32} {J : Nat → Nat → Int64}
variable {t : zDy}
theorem cBare (hd : 5 ≤ d) (hT : zTI I J t) (hn : 0 < t.n) {b : yTb} {n m c : Nat} (hb : cTb 53 7 I b) (hw : wTb n m c 7 b) : zX 0 (zCd zT d) zc_X11_bare 3 [some (.ref 16), some (.int 0), some (.int 0)] [] (zm L I J r) = some (some (.int (zi (yBa b (2 ^ (t.m + 1) - 1) 24 : Nat))), (zm L I J r)) := by
  have w := yW7 hw
  have hp : 2 ^ b.1 ≤ 2 ^ 8 := Nat.pow_le_pow_right (by decide) w.1
  have c1 := zFor (n := 24) (G := fun k => zX 0 (zCd zT d) zc_X11_bare 3 [some (.ref 16), some (.int (zi (yBa b (2 ^ (t.m + 1) - 1) k : Nat))), some (.int (zi ((k : Nat) : Int)))] [] (zm L I J r)) (fun k hk => by
    have k1 : zi ((k : Nat) : Int) + (1 : Int32) = zi ((k + 1 : Nat) : Int) := zi_add _ 1
    have db := yDu_b (b := b) (h := (k : Int)) b.1
    have bb := yBa_b (b := b) (K := 2 ^ (t.m + 1) - 1) k
    have hp2 : 2 ^ k ≤ 2 ^ 24 := Nat.pow_le_pow_right (by decide) (by omega)
    rw [eX11_bare_3, if_neg (show ¬ (24 : Int32) ≤ zi ((k : Nat) : Int) by rw [show (24 : Int32) = zi 24 from rfl, zi_le (by decide) (by omega)]; omega), cDuty (by omega) hb hw (by omega), zbI_s, eX11_bare_4, cKeys (by omega) hT hn hb hw (by omega), zbI_s, eX11_bare_5, yBa]
    by_cases q : yUn b 0 (yDu b (k : Int) b.1) b.1 &&& (2 ^ (t.m + 1) - 1) = 2 ^ (t.m + 1) - 1
    · rw [decide_eq_true q, if_neg (show ¬ zb1 true = 0 by decide), if_pos q, eX11_bare_6, k1]
    · rw [decide_eq_false q, if_pos (show zb1 false = 0 by decide), if_neg q, eX11_bare_6, k1, yShl (by omega), yOr (by omega) (by omega)])
  have z0 : zX 0 (zCd zT d) zc_X11_bare 3 [some (.ref 16), some (.int 0), some (.int 0)] [] (zm L I J r) = _ := c1
  rw [z0, eX11_bare_3, if_pos (show (24 : Int32) ≤ zi ((24 : Nat) : Int) by decide), eX11_bare_7]
theorem mBare (hd : 5 ≤ d) (hT : zTI I J t) (hn : 0 < t.n) {b : yTb} {n m c : Nat} (hb : mTb 7 (I 131) b) (hw : wTb n m c 7 b) : zX 0 (zCd zT d) zc_X12_bare 3 [some (.ref 130), some (.int 0), some (.int 0)] [] (zm L I J r) = some (some (.int (zi (yBa b (2 ^ (t.m + 1) - 1) 24 : Nat))), (zm L I J r)) := by
  have w := yW7 hw
  have hp : 2 ^ b.1 ≤ 2 ^ 8 := Nat.pow_le_pow_right (by decide) w.1
  have c1 := zFor (n := 24) (G := fun k => zX 0 (zCd zT d) zc_X12_bare 3 [some (.ref 130), some (.int (zi (yBa b (2 ^ (t.m + 1) - 1) k : Nat))), some (.int (zi ((k : Nat) : Int)))] [] (zm L I J r)) (fun k hk => by
    have k1 : zi ((k : Nat) : Int) + (1 : Int32) = zi ((k + 1 : Nat) : Int) := zi_add _ 1
    have pb := yCw_b (b := b) (D := yDu b (k : Int) b.1) (K := 2 ^ (t.m + 1) - 1) (2 ^ b.1)
    have bb := yBa_b (b := b) (K := 2 ^ (t.m + 1) - 1) k
    have hp2 : 2 ^ k ≤ 2 ^ 24 := Nat.pow_le_pow_right (by decide) (by omega)
    have o0 : zi ((yBa b (2 ^ (t.m + 1) - 1) k : Nat) : Int) ||| (0 : Int32) = zi ((yBa b (2 ^ (t.m + 1) - 1) k : Nat) : Int) := Int32.or_zero
    have ck := yCw_k (b := b) (h := (k : Int)) (K := 2 ^ (t.m + 1) - 1)
    rw [eX12_bare_3, if_neg (show ¬ (24 : Int32) ≤ zi ((k : Nat) : Int) by rw [show (24 : Int32) = zi 24 from rfl, zi_le (by decide) (by omega)]; omega), mCrew (by omega) hT hn hb hw (by omega), zbI_s, eX12_bare_4, yBa]
    by_cases q : yUn b 0 (yDu b (k : Int) b.1) b.1 &&& (2 ^ (t.m + 1) - 1) = 2 ^ (t.m + 1) - 1
    · rw [if_neg (by rw [zi_m1 (by omega)]; exact fun w => ck.mp w q), if_pos q, eX12_bare_5, eX12_bare_6, k1, o0]
    · rw [if_pos (by rw [zi_m1 (by omega)]; exact ck.mpr q), if_neg q, eX12_bare_6, k1, yShl (by omega), yOr (by omega) (by omega)])
  have z0 : zX 0 (zCd zT d) zc_X12_bare 3 [some (.ref 130), some (.int 0), some (.int 0)] [] (zm L I J r) = _ := c1
  rw [z0, eX12_bare_3, if_pos (show (24 : Int32) ≤ zi ((24 : Nat) : Int) by decide), eX12_bare_7]
theorem cNoT (hd : 2 ≤ d) (hT : zTI I J t) : zCd zT d 218 [.ref 16] (zm L I J r) = some (some (.int (zb1 (decide (t.n = 0)))), (zm L I J r)) := by
  obtain ⟨e, rfl⟩ : ∃ e, d = e + 1 := ⟨d - 1, by omega⟩
  have hn60 := hT.2.2.1.1
  have e0 : zi (t.n : Int) = (0 : Int32) ↔ t.n = 0 := by
    rw [show (0 : Int32) = zi 0 from rfl, zi_eq (by omega) (by decide)]
    omega
  rw [qX11_noTrack, eX11_noTrack_0, sX9_points (by omega) (o := 32) (by decide), zbI_s, eX11_noTrack_1, show I 32 5 = zi t.n from hT.1.1]
  by_cases q : t.n = 0
  · rw [if_pos (e0.mpr q), decide_eq_true q, eX11_noTrack_3]
    rfl
  · rw [if_neg (fun w => q (e0.mp w)), decide_eq_false q, eX11_noTrack_2, eX11_noTrack_3]
    rfl
end
theorem oBare : zOk 206 355 [] := by
  intro L c r I J y z0 z1 hc hr hv
  have hT := zV_TI hv
  have h0 : zTI (zu I 130 0 0) J y.1 := zTI_fr zSm_0 hT
  have hb : cTb 53 7 I (y.2.2.1 7) := hv.1.2.2.1 7 (by decide)
  have hw := hv.2.2.1.2.2.1 7 (by decide)
  have hmt : mTb 7 (zu I 130 0 0 131) (y.2.2.1 7) := mTb_sm zSm_0 (zV_mt hv (q := 7) (by decide))
  by_cases h3 : y.1.n = 0
  · refine zGo_0 hr hv (.int (-5)) ?_ ?_
    · rw [qX11_bare, eX11_bare_0, cNoT (by decide) hT, zbI_s, eX11_bare_1, decide_eq_true h3, if_neg (show ¬ zb1 true = 0 by decide)]
    · rw [qX12_bare, eX12_bare_0, mTrack (by decide) h0, zbI_s, eX12_bare_1, decide_eq_false (by omega), if_pos (show zb1 false = 0 by decide)]
      rfl
  · refine zGo_0 hr hv (.int (zi (yBa (y.2.2.1 7) (2 ^ (y.1.m + 1) - 1) 24 : Nat))) ?_ ?_
    · rw [qX11_bare, eX11_bare_0, cNoT (by decide) hT, zbI_s, eX11_bare_1, decide_eq_false h3, if_pos (show zb1 false = 0 by decide), eX11_bare_2]
      exact cBare (by decide) hT (by omega) hb hw
    · rw [qX12_bare, eX12_bare_0, mTrack (by decide) h0, zbI_s, eX12_bare_1, decide_eq_true (by omega), if_neg (show ¬ zb1 true = 0 by decide), eX12_bare_2]
      exact mBare (by decide) h0 (by omega) hmt hw
