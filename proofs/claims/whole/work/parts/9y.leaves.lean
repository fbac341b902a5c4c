/-! RULES: may one leave, the model; LEAVES -/
def yMd (g : Nat → Int32) (nb : Nat) (u : yRl) : Prop := (∃ n : Nat, 0 < n ∧ n ≤ 60 ∧ g 0 = zi n) ∧ (1 ≤ nb ∧ nb ≤ 6) ∧ g 61 = zi ((nb - 1 : Nat) : Int) ∧ mRl g u ∧ u.1 ≤ 12 ∧ ∀ k, k < u.1 → u.2.1 k < nb
theorem yAny_s {f : Nat → Bool} {n : Nat} : yAny f (n + 1) = (yAny f n || f n) := by
  rw [Bool.eq_iff_iff, Bool.or_eq_true, yAny_i, yAny_i]
  constructor
  · rintro ⟨k, hk, hf⟩
    by_cases e : k = n
    · rw [e] at hf
      exact Or.inr hf
    · exact Or.inl ⟨k, by omega, hf⟩
  · rintro (⟨k, hk, hf⟩ | hf)
    · exact ⟨k, by omega, hf⟩
    · exact ⟨n, Nat.lt_succ_self n, hf⟩
section
variable {d L r : Nat} {I : Nat → Nat → Int32} {J : Nat → Nat → Int64}
variable {u : yRl} {nb : Nat}
theorem mBks (hd : 2 ≤ d) (h : yMd (I 131) nb u) : zCd zT d 243 [.ref 130] (zm L I J r) = some (some (.int (zi (nb : Int))), (zm L I J r)) := by
  obtain ⟨⟨n, n0, n1, e0⟩, hb, e1, _⟩ := h
  rw [sX12_blocks hd, e0, e1, if_neg (show ¬ zi (n : Int) ≤ (0 : Int32) by rw [show (0 : Int32) = zi 0 from rfl, zi_le (by omega) (by decide)]; omega), if_neg (by decide), show zi ((nb - 1 : Nat) : Int) + (1 : Int32) = zi (nb : Int) from (zi_add _ 1).trans (congrArg zi (by omega))]
theorem mBeh (hd : 3 ≤ d) (h : yMd (I 131) nb u) {b : Nat} (hb : b < nb) : zCd zT d 295 [.ref 130, .int (zi (b : Int))] (zm L I J r) = some (some (.int (zi ((yNx nb b : Nat) : Int))), (zm L I J r)) := by
  obtain ⟨⟨n, n0, n1, e0⟩, hb2, e1, _⟩ := h
  have k1 : zi (b : Int) + (1 : Int32) = zi ((b + 1 : Nat) : Int) := zi_add _ 1
  unfold yNx
  rw [sX12_behindOf hd, e0, e1, if_neg (show ¬ zi (n : Int) ≤ (0 : Int32) by rw [show (0 : Int32) = zi 0 from rfl, zi_le (by omega) (by decide)]; omega), if_neg (show ¬ (1 : Int32) = 0 by decide), show zi ((nb - 1 : Nat) : Int) + (1 : Int32) = zi (nb : Int) from (zi_add _ 1).trans (congrArg zi (by omega)), k1]
  by_cases q : b + 1 < nb
  · rw [if_neg (show ¬ zi ((b + 1 : Nat) : Int) = zi (nb : Int) by rw [zi_eq (by omega) (by omega)]; omega), if_pos q]
  · rw [if_pos (show zi ((b + 1 : Nat) : Int) = zi (nb : Int) by rw [show b + 1 = nb by omega]), if_neg q]
    rfl
theorem mIn (hd : 1 ≤ d) {s b : Nat} (hs : s < 2147483648) (hb : b < 6) : zCd zT d 297 [.ref 130, .int (zi (s : Int)), .int (zi (b : Int))] (zm L I J r) = some (some (.int (zb1 ((s % 64).testBit b))), (zm L I J r)) := by
  rw [sX12_isIn hd]
  have m := (mBit hs hb).2
  cases q : (s % 64).testBit b
  · rw [if_neg (fun w => by have := m.mp w; rw [q] at this; cases this)]
    rfl
  · rw [if_pos (m.mpr q)]
    rfl
theorem mHeld (hd : 5 ≤ d) (h : yMd (I 131) nb u) {k t l : Nat} (hk : k < u.1) (ht : t < 64) (hl : l < 729) : ∃ I', zCd zT d 294 [.ref 130, .int (zi (k : Int)), .int (zi ((t + 64 * l : Nat) : Int))] (zm L I J r) = some (some (.int (zb1 (u.2.2 k (ySw t l)))), (zm L I' J r)) ∧ ∀ o, o ≠ 137 → I' o = I o := by
  obtain ⟨e, rfl⟩ : ∃ e, d = e + 1 := ⟨d - 1, by omega⟩
  have u12 := h.2.2.2.2.1
  obtain ⟨_, fr, n, e1, e2, e3, e4⟩ := h.2.2.2.1.2 k hk
  obtain ⟨I', c1, c2⟩ := mHeldL (d := e) (L := L) (J := J) (r := r) (k := k) (t := t) (l := l) (N := fr + n) (by omega) ht hl (by omega) e3 n fr [] I (u.2.2 k (ySw t l)) rfl e2 rfl (e4 _ (ySw_b (t := t) (l := l)).1) (by show 0 + n ≤ 259; omega) trivial
  refine ⟨I', ?_, c2⟩
  rw [qX12_isHeld, eX12_isHeld_0, show (94 : Int32) + zi (k : Int) = zi ((94 + k : Nat) : Int) from zi_add 94 _, zin_t (by omega) (by omega), zgd_t, zi_cl (by omega), Int.toNat_natCast, e1]
  exact c1
theorem mMay (hd : 6 ≤ d) (h : yMd (I 131) nb u) {b t l : Nat} (hb : b < nb) (ht : t < 64) (hl : l < 729) : ∃ I', zCd zT d 296 [.ref 130, .int (zi ((t + 64 * l : Nat) : Int)), .int (zi (b : Int))] (zm L I J r) = some (some (.int (zb1 (yMa u nb (ySw t l) b))), (zm L I' J r)) ∧ ∀ o, o ≠ 137 → I' o = I o := by
  obtain ⟨e, rfl⟩ : ∃ e, d = e + 1 := ⟨d - 1, by omega⟩
  have hnb := h.2.1
  have e1 : zi (nb : Int) = (1 : Int32) ↔ nb = 1 := by
    rw [show (1 : Int32) = zi 1 from rfl, zi_eq (by omega) (by decide)]
    omega
  rw [qX12_may, eX12_may_0, mBks (by omega) h, zbI_s, eX12_may_1]
  by_cases q1 : nb = 1
  · rw [if_pos (e1.mpr q1)]
    unfold yMa
    rw [if_pos (by omega)]
    exact ⟨I, rfl, fun _ _ => rfl⟩
  · rw [if_neg (fun w => q1 (e1.mp w)), eX12_may_2]
    obtain ⟨I1, c1, c2⟩ := zForS (n := u.1) (M := Nat → Nat → Int32) (stop := fun k => decide (u.2.1 k = b) && u.2.2 k (ySw t l)) (G := fun k m => zX 3 (zCd zT e) zc_X12_may 3 [some (.ref 130), some (.int (zi ((t + 64 * l : Nat) : Int))), some (.int (zi (b : Int))), some (.int (zb1 (yAny (fun k => decide (u.2.1 k = b)) k))), some (.int (zi ((k : Nat) : Int)))] [] (zm L m J r)) (E := fun _ m => some (some (.int 1), zm L m J r)) (P := fun m => ∀ o, o ≠ 137 → m o = I o) (fun k m hk hm => by
      try dsimp only
      have hm1 : m 131 = I 131 := hm 131 (by decide)
      have hh : yMd (m 131) nb u := by rw [hm1]; exact h
      have u12 := h.2.2.2.2.1
      have k1 : zi ((k : Nat) : Int) + (1 : Int32) = zi ((k + 1 : Nat) : Int) := zi_add _ 1
      have g81 : m 131 81 = zi (u.1 : Int) := by rw [hm1]; exact h.2.2.2.1.1
      have g82 : m 131 (82 + k) = zi ((u.2.1 k : Nat) : Int) := by rw [hm1]; exact (h.2.2.2.1.2 k hk).1
      rw [eX12_may_3, g81, if_neg (show ¬ zi (u.1 : Int) ≤ zi ((k : Nat) : Int) by rw [zi_le (by omega) (by omega)]; omega), show (82 : Int32) + zi (k : Int) = zi ((82 + k : Nat) : Int) from zi_add 82 _, zin_t (by omega) (by omega), zgd_t, zi_cl (by omega), Int.toNat_natCast, g82]
      rw [yAny_s]
      by_cases q2 : u.2.1 k = b
      · obtain ⟨I2, r1, r2⟩ := mHeld (d := e) (L := L) (J := J) (r := r) (by omega) hh hk ht hl
        rw [decide_eq_true q2, if_pos (show zi ((u.2.1 k : Nat) : Int) = zi (b : Int) by rw [q2]), eX12_may_4, r1, zbI_s, eX12_may_5, Bool.true_and, Bool.or_true]
        refine ⟨I2, fun o ho => (r2 o ho).trans (hm o ho), ?_⟩
        cases q3 : u.2.2 k (ySw t l)
        · rw [if_pos (show zb1 false = 0 from rfl), eX12_may_6, k1, if_neg (by decide)]
          rfl
        · rw [if_neg (show ¬ zb1 true = 0 by decide), if_pos rfl]
      · refine ⟨m, hm, ?_⟩
        rw [decide_eq_false q2, Bool.false_and, Bool.or_false, if_neg (show ¬ false = true by decide)]
        by_cases q3 : zi ((u.2.1 k : Nat) : Int) = zi (b : Int)
        · exfalso
          rw [zi_eq (by have := h.2.2.2.2.2 k hk; omega) (by omega)] at q3
          omega
        · rw [if_neg q3, eX12_may_6, k1]) I (fun _ _ => rfl)
    have z0 : zX 3 (zCd zT e) zc_X12_may 3 [some (.ref 130), some (.int (zi ((t + 64 * l : Nat) : Int))), some (.int (zi (b : Int))), some (.int 0), some (.int 0)] [] (zm L I J r) = _ := c2
    rw [z0]
    refine ⟨I1, ?_, c1⟩
    have hm1 : I1 131 = I 131 := c1 131 (by decide)
    have g81 : I1 131 81 = zi (u.1 : Int) := by rw [hm1]; exact h.2.2.2.1.1
    have hh : yMd (I1 131) nb u := by rw [hm1]; exact h
    have u12 := h.2.2.2.2.1
    unfold yMa yOf
    rw [if_neg (show ¬ nb < 2 by omega)]
    by_cases q2 : zFs (fun k => decide (u.2.1 k = b) && u.2.2 k (ySw t l)) u.1 < u.1
    · rw [if_pos q2]
      have st := zFs_s q2
      rw [Bool.and_eq_true] at st
      rw [if_pos (yAny_i.mpr ⟨_, q2, st.1⟩)]
      unfold yHo2 yAny
      rw [decide_eq_true q2]
      rfl
    · rw [if_neg q2, eX12_may_3, g81, if_pos (Int32.le_refl _), eX12_may_7]
      by_cases q3 : yAny (fun k => decide (u.2.1 k = b)) u.1 = true
      · rw [q3, if_neg (show ¬ zb1 true = 0 by decide), if_pos rfl, eX12_may_10, eX12_may_11]
        unfold yHo2 yAny
        rw [decide_eq_false q2]
        rfl
      · have nx := yNx_b hb
        rw [Bool.eq_false_iff.mpr q3, if_pos (show zb1 false = 0 from rfl), if_neg (by decide), mBeh (by omega) hh hb, zbI_s, eX12_may_8, mShow (by omega) (by omega) ht hl, zbI_s, eX12_may_9]
        cases (ySw t l).testBit (yNx nb b)
        · rw [if_pos (show zb1 false = 0 from rfl), eX12_may_10, eX12_may_11]
          rfl
        · rw [if_neg (show ¬ zb1 true = 0 by decide), eX12_may_11]
          rfl
end
