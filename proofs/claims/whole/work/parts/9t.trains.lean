/-! TRAINS: the class's i-th; the model's best part -/
section
variable {d L r : Nat} {I : Nat → Nat → Int32} {J : Nat → Nat → Int64}
variable {b : yTb} {q : Int}
theorem cTrainAt (hd : 3 ≤ d) (bq : 1 ≤ q ∧ q ≤ 40) (hn : b.1 ≤ 10) (hx : ∀ k, k < b.1 → 1 ≤ b.2 k 0 ∧ b.2 k 0 ≤ 8) {R : Nat} (hf : yFit b q R) (hp : yPk b q R I R) {i : Nat} (hi : (i : Int) < yF (fun c => ySm b 0 c b.1) q R) : zCd zT d 16 [.ref 125, .int (zi (R : Int)), .int (zi q), .int (zi (i : Int))] (zm L I J r) = some (some (.int (zi ((yTk (fun c => ySm b 0 c b.1) q R i : Nat) : Int))), (zm L I J r)) := by
  obtain ⟨e, rfl⟩ : ∃ e, d = e + 1 := ⟨d - 1, by omega⟩
  have hR : R < 1024 := by
    have : 2 ^ b.1 ≤ 2 ^ 10 := Nat.pow_le_pow_right (by decide) hn
    have := hf.1
    omega
  have fb := (yF_f hn R R (Nat.le_refl _) hf).1
  have fp : yPc R 10 ≤ 10 := yPc_le 10
  have hfw : zCd zT e 15 [.ref 125, .int (zi (R : Int))] (zm L I J r) = some (some (.int (zi (yF (fun c => ySm b 0 c b.1) q R))), (zm L I J r)) := by
    rw [sX2_fewest (by omega), if_neg (show ¬ zi (R : Int) < (0 : Int32) by rw [show (0 : Int32) = zi 0 from rfl, zi_lt (by omega) (by decide)]; omega), if_pos (show zi (R : Int) < (1024 : Int32) by rw [show (1024 : Int32) = zi 1024 from rfl, zi_lt (by omega) (by decide)]; omega), zin_t (by omega) (by omega), zgd_t, zi_cl (by omega), Int.toNat_natCast, (hp R (Nat.le_refl R) (Nat.and_self R)).2]
  have ste : ∀ k : Nat, k ≤ i → yLk (fun c => ySm b 0 c b.1) q R k ≤ R ∧ yLk (fun c => ySm b 0 c b.1) q R k &&& R = yLk (fun c => ySm b 0 c b.1) q R k ∧ yLk (fun c => ySm b 0 c b.1) q R k ≠ 0 ∧ yFb (fun c => ySm b 0 c b.1) (yF (fun c => ySm b 0 c b.1) q) q (yLk (fun c => ySm b 0 c b.1) q R k) = ((yTk (fun c => ySm b 0 c b.1) q R k : Nat) : Int) ∧ yTk (fun c => ySm b 0 c b.1) q R k &&& yLk (fun c => ySm b 0 c b.1) q R k = yTk (fun c => ySm b 0 c b.1) q R k := by
    intro k hk
    have h1 := yLk_p hn hf k (by omega)
    have h2 := yXd h1.1
    have hf1 := yFit_x hf h1.1
    have h0 : yLk (fun c => ySm b 0 c b.1) q R k ≠ 0 := fun w => by
      have := (yF_z hn hf1).mpr w
      omega
    obtain ⟨p, e1, e2, e3, _⟩ := yBest hn hf1 h0
    unfold yTk
    rw [e1, Int.toNat_natCast]
    exact ⟨h2.2, h1.1, h0, rfl, e3.1⟩
  have loop := zFor (n := i) (G := fun k => zX 0 (zCd zT e) zc_X2_trainAt 4 [some (.ref 125), some (.int (zi (R : Int))), some (.int (zi q)), some (.int (zi ((i : Nat) : Int))), some (.int (zi ((yLk (fun c => ySm b 0 c b.1) q R k : Nat) : Int))), some (.int (zi ((yTk (fun c => ySm b 0 c b.1) q R k : Nat) : Int))), some (.int (zi ((k + 1 : Nat) : Int)))] [] (zm L I J r)) (fun k hk => by
    have k1 : zi ((k + 1 : Nat) : Int) + (1 : Int32) = zi ((k + 1 + 1 : Nat) : Int) := zi_add _ 1
    have s0 := ste k (by omega)
    have s1 := ste (k + 1) (by omega)
    have t1 := (yXd s0.2.2.2.2).2
    have ex : yLk (fun c => ySm b 0 c b.1) q R (k + 1) = yLk (fun c => ySm b 0 c b.1) q R k ^^^ yTk (fun c => ySm b 0 c b.1) q R k := rfl
    have ct := cBestT (d := e) (L := L) (J := J) (r := r) (by omega) bq hn hx hf hp s1.2.1 s1.2.2.1
    rw [eX2_trainAt_4, if_neg (show ¬ zi ((i : Nat) : Int) < zi ((k + 1 : Nat) : Int) by rw [zi_lt (by omega) (by omega)]; omega), yAnN (by omega) (by omega), Nat.and_comm _ (yTk (fun c => ySm b 0 c b.1) q R k), s0.2.2.2.2, ← ex, ct, zbI_s, eX2_trainAt_5, k1, s1.2.2.2.1])
  have s0 := ste 0 (Nat.zero_le i)
  have ct := cBestT (d := e) (L := L) (J := J) (r := r) (by omega) bq hn hx hf hp s0.2.1 s0.2.2.1
  have l0 : yLk (fun c => ySm b 0 c b.1) q R 0 = R := rfl
  have k0 : zi ((0 : Nat) : Int) + (1 : Int32) = zi ((0 + 1 : Nat) : Int) := rfl
  rw [s0.2.2.2.1, l0] at ct
  rw [l0] at loop
  have z4 : zX 0 (zCd zT e) zc_X2_trainAt 4 [some (.ref 125), some (.int (zi (R : Int))), some (.int (zi q)), some (.int (zi ((i : Nat) : Int))), some (.int (zi (R : Int))), some (.int 0), some (.int 0)] [] (zm L I J r) = zX 0 (zCd zT e) zc_X2_trainAt 4 [some (.ref 125), some (.int (zi (R : Int))), some (.int (zi q)), some (.int (zi ((i : Nat) : Int))), some (.int (zi (R : Int))), some (.int (zi ((0 : Nat) : Int))), some (.int (zi ((0 : Nat) : Int)))] [] (zm L I J r) := rfl
  rw [qX2_trainAt, eX2_trainAt_0, if_neg (show ¬ zi ((i : Nat) : Int) < (0 : Int32) by rw [show (0 : Int32) = zi 0 from rfl, zi_lt (by omega) (by decide)]; omega), hfw, zbI_s, eX2_trainAt_1, if_pos (show zi ((i : Nat) : Int) < zi (yF (fun c => ySm b 0 c b.1) q R) by rw [zi_lt (by omega) (by omega)]; exact hi), eX2_trainAt_3, z4, eX2_trainAt_4, if_neg (show ¬ zi ((i : Nat) : Int) < zi ((0 : Nat) : Int) by rw [zi_lt (by omega) (by omega)]; omega), yAnN (by omega) (by omega), Nat.and_zero, Nat.xor_zero, ct, zbI_s, eX2_trainAt_5, k0, loop, eX2_trainAt_4, if_pos (show zi ((i : Nat) : Int) < zi ((i + 1 : Nat) : Int) by rw [zi_lt (by omega) (by omega)]; omega), eX2_trainAt_6]
theorem mFirst (hd : 1 ≤ d) {W f : Nat → Int} (bq : 1 ≤ q ∧ q ≤ 40) {s : Nat} (hs : s < 1024) (hW : ∀ t, t ≤ s → I 143 t = zi (W t) ∧ 0 ≤ W t ∧ W t ≤ 1000) (hf : ∀ t, t < s → I 144 t = zi (f t) ∧ 0 ≤ f t ∧ f t ≤ 3000) : zCd zT d 333 [.ref 130, .int (zi (s : Int)), .int (zi q)] (zm L I J r) = some (some (.int (zi (yFb W f q s))), (zm L I J r)) := by
  obtain ⟨e, rfl⟩ : ∃ e, d = e + 1 := ⟨d - 1, by omega⟩
  have lws : yLob s < 1024 := by
    have h1 : s &&& (s - 1) ≤ s := Nat.and_le_left
    exact Nat.xor_lt_two_pow (n := 10) hs (by omega)
  have loop : ∀ (n v : Nat) (a : Int), v ≤ n → v &&& s = v → (a = -1 ∨ ∃ p : Nat, a = (p : Int) ∧ p &&& s = p ∧ p ≠ 0) → zX 0 (zCd zT e) zc_X12_firstTrain 1 [some (.ref 130), some (.int (zi (s : Int))), some (.int (zi q)), some (.int (zi ((yLob s : Nat) : Int))), some (.int (zi a)), some (.int (zi (v : Int)))] [] (zm L I J r) = some (some (.int (zi (yDs (fun v a => if v &&& yLob s ≠ 0 ∧ W v ≤ q ∧ (a = -1 ∨ f (s ^^^ v) ≤ f (s ^^^ a.toNat)) then ((v : Nat) : Int) else a) s n v a))), (zm L I J r)) := by
    intro n
    induction n with
    | zero =>
      intro v a h1 hv ha
      have hv0 : v = 0 := by omega
      subst hv0
      rw [eX12_firstTrain_1, if_pos (show zi ((0 : Nat) : Int) ≤ (0 : Int32) from Int32.le_refl _), eX12_firstTrain_5]
      rfl
    | succ n ih =>
      intro v a h1 hv ha
      rw [yDs]
      by_cases q0 : v = 0
      · subst q0
        rw [eX12_firstTrain_1, if_pos (show zi ((0 : Nat) : Int) ≤ (0 : Int32) from Int32.le_refl _), eX12_firstTrain_5, if_pos rfl]
      · rw [if_neg q0]
        have h3 : (v - 1) &&& s ≤ v - 1 := Nat.and_le_left
        have h4 : v &&& yLob s ≤ v := Nat.and_le_left
        have k2 : zi (v : Int) - (1 : Int32) = zi ((v - 1 : Nat) : Int) := (zi_sub _ 1).trans (congrArg zi (by omega))
        have vx := yXd hv
        have w1 := hW v (by omega)
        have w2 := hf (s ^^^ v) (by omega)
        have nxt : ∀ a' : Int, (a' = -1 ∨ ∃ p : Nat, a' = (p : Int) ∧ p &&& s = p ∧ p ≠ 0) → zX 0 (zCd zT e) zc_X12_firstTrain 4 [some (.ref 130), some (.int (zi (s : Int))), some (.int (zi q)), some (.int (zi ((yLob s : Nat) : Int))), some (.int (zi a')), some (.int (zi (v : Int)))] [] (zm L I J r) = some (some (.int (zi (yDs (fun v a => if v &&& yLob s ≠ 0 ∧ W v ≤ q ∧ (a = -1 ∨ f (s ^^^ v) ≤ f (s ^^^ a.toNat)) then ((v : Nat) : Int) else a) s n ((v - 1) &&& s) a'))), (zm L I J r)) := by
          intro a' ha'
          rw [eX12_firstTrain_4, k2, yAnd (by omega) (by omega)]
          exact ih _ _ (by omega) yAm ha'
        have yes : (v &&& yLob s ≠ 0 ∧ W v ≤ q ∧ (a = -1 ∨ f (s ^^^ v) ≤ f (s ^^^ a.toNat))) → zX 0 (zCd zT e) zc_X12_firstTrain 3 [some (.ref 130), some (.int (zi (s : Int))), some (.int (zi q)), some (.int (zi ((yLob s : Nat) : Int))), some (.int (zi a)), some (.int (zi (v : Int)))] [] (zm L I J r) = some (some (.int (zi (yDs (fun v a => if v &&& yLob s ≠ 0 ∧ W v ≤ q ∧ (a = -1 ∨ f (s ^^^ v) ≤ f (s ^^^ a.toNat)) then ((v : Nat) : Int) else a) s n ((v - 1) &&& s) (if v &&& yLob s ≠ 0 ∧ W v ≤ q ∧ (a = -1 ∨ f (s ^^^ v) ≤ f (s ^^^ a.toNat)) then ((v : Nat) : Int) else a)))), (zm L I J r)) := by
          intro hc
          rw [if_pos hc, eX12_firstTrain_3]
          exact nxt _ (Or.inr ⟨v, rfl, hv, q0⟩)
        have no : ¬ (v &&& yLob s ≠ 0 ∧ W v ≤ q ∧ (a = -1 ∨ f (s ^^^ v) ≤ f (s ^^^ a.toNat))) → zX 0 (zCd zT e) zc_X12_firstTrain 4 [some (.ref 130), some (.int (zi (s : Int))), some (.int (zi q)), some (.int (zi ((yLob s : Nat) : Int))), some (.int (zi a)), some (.int (zi (v : Int)))] [] (zm L I J r) = some (some (.int (zi (yDs (fun v a => if v &&& yLob s ≠ 0 ∧ W v ≤ q ∧ (a = -1 ∨ f (s ^^^ v) ≤ f (s ^^^ a.toNat)) then ((v : Nat) : Int) else a) s n ((v - 1) &&& s) (if v &&& yLob s ≠ 0 ∧ W v ≤ q ∧ (a = -1 ∨ f (s ^^^ v) ≤ f (s ^^^ a.toNat)) then ((v : Nat) : Int) else a)))), (zm L I J r)) := by
          intro hc
          rw [if_neg hc]
          exact nxt _ ha
        have d1 : zi (W v) ≤ zi q ↔ W v ≤ q := zi_le (by omega) (by omega)
        try dsimp only
        rw [eX12_firstTrain_1, if_neg (show ¬ zi (v : Int) ≤ (0 : Int32) by rw [show (0 : Int32) = zi 0 from rfl, zi_le (by omega) (by decide)]; omega), yAnd (by omega) (by omega)]
        by_cases q1 : v &&& yLob s = 0
        · rw [if_pos (show zi ((v &&& yLob s : Nat) : Int) = (0 : Int32) by rw [q1]; rfl)]
          exact no (fun w => w.1 q1)
        · rw [if_neg (show ¬ zi ((v &&& yLob s : Nat) : Int) = (0 : Int32) by rw [show (0 : Int32) = zi 0 from rfl, zi_eq (by omega) (by decide)]; omega), zin_t (by omega) (by omega), zgd_t, zi_cl (by omega), Int.toNat_natCast, w1.1]
          by_cases q2 : W v ≤ q
          · rw [if_pos (d1.mpr q2), eX12_firstTrain_2]
            rcases ha with ha | ⟨p, ha, hp, hp0⟩
            · rw [if_pos (show zi a = (-1 : Int32) by rw [ha]; rfl)]
              exact yes ⟨q1, q2, Or.inl ha⟩
            · have px := yXd hp
              have w3 := hf (s ^^^ p) (by omega)
              have d2 : zi (f (s ^^^ p)) < zi (f (s ^^^ v)) ↔ f (s ^^^ p) < f (s ^^^ v) := zi_lt (by omega) (by omega)
              rw [if_neg (show ¬ zi a = (-1 : Int32) by rw [zi_m1 (by omega)]; omega)]
              have ea : zi a = zi (p : Int) := by rw [ha]
              rw [yXor (by omega) (by omega), ea, yXor (by omega) (by omega), zin_t (by omega) (by omega), zgd_t, zin_t (by omega) (by omega), zgd_t, zi_cl (by omega), zi_cl (by omega), Int.toNat_natCast, Int.toNat_natCast, w2.1, w3.1, ← ea]
              by_cases q3 : f (s ^^^ p) < f (s ^^^ v)
              · rw [if_pos (d2.mpr q3)]
                refine no fun w => ?_
                rcases w.2.2 with w | w
                · omega
                · rw [ha, Int.toNat_natCast] at w
                  omega
              · rw [if_neg (fun w => q3 (d2.mp w))]
                exact yes ⟨q1, q2, Or.inr (by rw [ha, Int.toNat_natCast]; omega)⟩
          · rw [if_neg (fun w => q2 (d1.mp w))]
            exact no (fun w => q2 w.2.1)
  rw [qX12_firstTrain, eX12_firstTrain_0, yLob_i hs]
  exact loop s s (-1) (Nat.le_refl _) (Nat.and_self s) (Or.inl rfl)
end
