section
variable {d L r : Nat} {I : Nat → Nat → Int32} {J : Nat → Nat → Int64} {t : zDy}
theorem mFeels (hd : 10 ≤ d) (h : zTI I J t) {w seat : Int} {m : Int32} (b1 : -2147483648 ≤ w ∧ w < 2147483648) (b3 : -2147483648 ≤ seat ∧ seat < 2147483648) :
    ∃ I', zCd zT d 289 [.ref 130, .int (zi w), .int (zi seat), .int m] (zm L I J r) = some (some (.int (zFeV t w seat m)), zm L I' J r) ∧ zSm I I' ∧ I' 120 = I 120 := by
  obtain ⟨e, rfl⟩ : ∃ e, d = e + 1 := ⟨d - 1, by omega⟩
  have hw := h.2.2.1.1
  have h0 := zTI_fr zSm_0 h
  have g0 : zu I 130 0 0 120 = I 120 := zu_o (by decide)
  rw [qX12_feels, eX12_feels_0, mWithin (by omega) b3, zbI_s, eX12_feels_1, show (0 : Int64).toInt = 0 from rfl, show (9 : Int64).toInt = 9 from rfl]
  unfold zFeV
  cases hse : zbo seat 0 9
  · rw [if_neg (show ¬ zb1 (!false) = 0 by decide), eX12_feels_2, mWeight (by omega) b1, zbI_s, eX12_feels_3]
    cases hq2 : zbo w 1 20
    · rw [if_neg (show ¬ zb1 (!false) = 0 by decide), eX12_feels_4, mTrack (by omega) h0, zbI_s, eX12_feels_5]
      by_cases hn : 0 < t.n
      · rw [decide_eq_true hn, if_neg (show ¬ zb1 true = 0 by decide), eX12_feels_6]
        have hs := zbo_f hse
        obtain ⟨I', c1, c2, c3, c4⟩ := mPass (d := e) (L := L) (r := r) (by omega) h0 hn (zbo_f hq2) (wi := 0) (co := 0) (by decide) (by decide)
        have c1' : zCd zT e 279 [.ref 130, .int (zi w), .int 0, .int 0] (zm L (zu I 130 0 0) J r) = some (none, zm L I' J r) := c1
        have hz : zRf false false t.n = 0 := zRf_0.mpr ⟨rfl, rfl, hn⟩
        have hsn : zi seat = zi ((seat.toNat : Nat) : Int) := by rw [Int.toNat_of_nonneg hs.1]
        have h' := zTI_fr (zSm_m c3) h0
        have en : I' 131 0 = zi t.n := h'.2.1.1
        rw [c1', zbV_s, eX12_feels_7, if_pos hz, hsn]
        refine ⟨I', ?_, zSm_tr zSm_0 (zSm_m c3), m120 c3⟩
        have hout : ∀ p, t.n ≤ p → zfSp (zRu t (zLss t w 0 0) 0 t.push).2 p = -1 := zRu_out hn
        generalize (zRu t (zLss t w 0 0) 0 t.push).2 = s at c2 hout
        have loop : ∀ j k : Nat, k + j = t.n - 2 → zX 0 (zCd zT e) zc_X12_feels 8 [some (.ref 130), some (.int (zi w)), some (.int (zi ((seat.toNat : Nat) : Int))), some (.int m), some (.int (zFeS t s seat.toNat m k)), some (.int (zi ((k + 1 : Nat) : Int))), none] [] (zm L I' J r) = some (some (.int (zFeS t s seat.toNat m (t.n - 2))), zm L I' J r) := by
          intro j
          induction j with
          | zero =>
            intro k hk
            obtain rfl : k = t.n - 2 := by omega
            have k1 : zi (((t.n - 2) + 1 : Nat) : Int) + (1 : Int32) = zi (((t.n - 2) + 1 + 1 : Nat) : Int) := zi_add _ 1
            rw [eX12_feels_8, en, k1, if_pos (show zi (t.n : Int) ≤ zi (((t.n - 2) + 1 + 1 : Nat) : Int) by rw [zi_le (by omega) (by omega)]; omega), eX12_feels_16]
          | succ j ih =>
            intro k hk
            have ihk := ih (k + 1) (by omega)
            have k1 : zi ((k + 1 : Nat) : Int) + (1 : Int32) = zi ((k + 1 + 1 : Nat) : Int) := zi_add _ 1
            rw [eX12_feels_8, en, k1, if_neg (show ¬ zi (t.n : Int) ≤ zi ((k + 1 + 1 : Nat) : Int) by rw [zi_le (by omega) (by omega)]; omega), mFelt (by omega) h' c2 hout (show 1 ≤ k + 1 by omega) (show k + 1 + 1 < t.n by omega) (by omega), zbI_s, eX12_feels_9]
            have hz2 : zFeS t s seat.toNat m (k + 1) = zFeU m (zFeS t s seat.toNat m k) (zFl t s (k + 1) seat.toNat) := rfl
            generalize zFeS t s seat.toNat m k = best at hz2
            generalize zFl t s (k + 1) seat.toNat = v at hz2
            rw [hz2] at ihk
            unfold zFeU at ihk
            rw [eX12_feels_15, k1, eX12_feels_10, eX12_feels_11, eX12_feels_12, eX12_feels_13, eX12_feels_14, eX12_feels_14, eX12_feels_15, eX12_feels_15, k1]
            by_cases q4 : v = -100000
            · rw [if_pos q4] at ihk
              rw [if_pos q4]
              exact ihk
            · rw [if_neg q4] at ihk
              rw [if_neg q4]
              by_cases q5 : best = -100000
              · rw [if_pos q5] at ihk
                rw [if_pos q5]
                exact ihk
              · rw [if_neg q5] at ihk
                rw [if_neg q5]
                by_cases qm : m = 0
                · simp only [qm, if_true] at ihk ⊢
                  by_cases q7 : best ≤ v
                  · rw [if_neg (Int32.not_lt.mpr q7)] at ihk
                    rw [if_pos q7]
                    exact ihk
                  · rw [if_pos (Int32.not_le.mp q7)] at ihk
                    rw [if_neg q7]
                    exact ihk
                · simp only [qm, if_false] at ihk ⊢
                  by_cases q7 : v ≤ best
                  · rw [if_neg (Int32.not_lt.mpr q7)] at ihk
                    rw [if_pos q7]
                    exact ihk
                  · rw [if_pos (Int32.not_le.mp q7)] at ihk
                    rw [if_neg q7]
                    exact ihk
        exact loop (t.n - 2) 0 (by omega)
      · rw [decide_eq_false hn, if_pos (show zb1 false = 0 from rfl)]
        have hz : zRf false false t.n = -5 := by
          unfold zRf
          rw [if_neg (by decide), if_neg (by decide), if_pos (by omega)]
        rw [hz]
        exact ⟨_, rfl, zSm_0, g0⟩
    · rw [if_pos (show zb1 (!true) = 0 from rfl)]
      exact ⟨_, rfl, zSm_0, g0⟩
  · rw [if_pos (show zb1 (!true) = 0 from rfl)]
    have hz : zRf true (zbo w 1 20) t.n = -2 := by
      unfold zRf
      rw [if_pos rfl]
    rw [hz]
    exact ⟨_, rfl, zSm_0, g0⟩
end
