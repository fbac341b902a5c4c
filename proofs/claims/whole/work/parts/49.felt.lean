section
variable {d L r : Nat} {I : Nat → Nat → Int32} {J : Nat → Nat → Int64} {t : zDy}
theorem zSm_0 : zSm I (zu I 130 0 0) := by
  intro o k hp
  rw [zu_ap, if_neg (fun q => by rw [q.1, q.2] at hp; cases hp)]
theorem m120 {I' : Nat → Nat → Int32} (h : mFr (zu I 130 0 0) I') : I' 120 = I 120 := by
  rw [← show zu I 130 0 0 120 = I 120 from zu_o (by decide)]
  exact funext fun k => h 120 k (by decide) (by decide) (fun q => by cases q.1)
theorem mFeltQ (hd : 10 ≤ d) (h : zTI I J t) {w p seat : Int} (b1 : -2147483648 ≤ w ∧ w < 2147483648) (b2 : -2147483648 ≤ p ∧ p < 2147483648) (b3 : -2147483648 ≤ seat ∧ seat < 2147483648) :
    ∃ I', zCd zT d 288 [.ref 130, .int (zi w), .int (zi p), .int (zi seat)] (zm L I J r) = some (some (.int (zFlV t w p seat)), zm L I' J r) ∧ zSm I I' ∧ I' 120 = I 120 := by
  obtain ⟨e, rfl⟩ : ∃ e, d = e + 1 := ⟨d - 1, by omega⟩
  have hw := h.2.2.1.1
  have h0 := zTI_fr zSm_0 h
  have g0 : zu I 130 0 0 120 = I 120 := zu_o (by decide)
  have en : zu I 130 0 0 131 0 = zi t.n := h0.2.1.1
  have hno : ∀ b c : Bool, b = true → zRf b c t.n = -2 := by
    intro b c hb
    unfold zRf
    rw [if_pos hb]
  rw [qX12_felt, eX12_felt_0, mWithin (by omega) b3, zbI_s, eX12_felt_1, show (0 : Int64).toInt = 0 from rfl, show (9 : Int64).toInt = 9 from rfl]
  unfold zFlV
  cases hse : zbo seat 0 9
  · rw [if_neg (show ¬ zb1 (!false) = 0 by decide), mTrack (by omega) h0, zbI_s]
    have hx : ∃ x : Option zR, zX 0 (zCd zT e) zc_X12_felt 2 [some (.ref 130), some (.int (zi w)), some (.int (zi p)), some (.int (zi seat))] [.int (zb1 (decide (0 < t.n)))] (zm L (zu I 130 0 0) J r) = x ∧ x = (if zNe t p = true then some (some (.int (-2)), zm L (zu I 130 0 0) J r) else zX 0 (zCd zT e) zc_X12_felt 5 [some (.ref 130), some (.int (zi w)), some (.int (zi p)), some (.int (zi seat))] [] (zm L (zu I 130 0 0) J r)) := by
      refine ⟨_, rfl, ?_⟩
      have e2 : zi (t.n : Int) - (2 : Int32) = zi ((t.n : Int) - 2) := zi_sub _ 2
      have e3 : (zi ((t.n : Int) - 2)).toInt64.toInt = (t.n : Int) - 2 := by rw [Int32.toInt_toInt64, zi_val (by omega)]
      have en2 : I 131 0 = zi t.n := h.2.1.1
      rw [eX12_felt_2]
      unfold zNe
      by_cases hn : 0 < t.n
      · rw [decide_eq_true hn, if_neg (show ¬ zb1 true = 0 by decide)]
        first
          | rw [en]
          | rw [en2]
        rw [e2, mWithin (by omega) b2, zbI_s, eX12_felt_3, e3, show (1 : Int64).toInt = 1 from rfl]
        cases zbo p 1 ((t.n : Int) - 2)
        · rw [if_neg (show ¬ zb1 (!false) = 0 by decide), if_neg (by decide)]
        · rw [if_pos (show zb1 (!true) = 0 from rfl), if_pos (by decide), eX12_felt_4]
      · rw [decide_eq_false hn, if_pos (show zb1 false = 0 from rfl), if_neg (by simp)]
    obtain ⟨x, x1, x2⟩ := hx
    rw [x1, x2]
    cases hq1 : zNe t p
    · rw [if_neg (by decide), eX12_felt_5, mWeight (by omega) b1, zbI_s, eX12_felt_6]
      cases hq2 : zbo w 1 20
      · rw [if_neg (show ¬ zb1 (!false) = 0 by decide), eX12_felt_7, mTrack (by omega) h0, zbI_s, eX12_felt_8]
        by_cases hn : 0 < t.n
        · rw [decide_eq_true hn, if_neg (show ¬ zb1 true = 0 by decide), eX12_felt_9]
          have hp := zNe_f hq1 hn
          have hs := zbo_f hse
          obtain ⟨I', c1, c2, c3, c4⟩ := mPass (d := e) (L := L) (r := r) (by omega) h0 hn (zbo_f hq2) (wi := 0) (co := 0) (by decide) (by decide)
          have c1' : zCd zT e 279 [.ref 130, .int (zi w), .int 0, .int 0] (zm L (zu I 130 0 0) J r) = some (none, zm L I' J r) := c1
          have hz : zRf (false || false) false t.n = 0 := zRf_0.mpr ⟨rfl, rfl, hn⟩
          have hpn : zi p = zi ((p.toNat : Nat) : Int) := by rw [Int.toNat_of_nonneg (by omega)]
          have hsn : zi seat = zi ((seat.toNat : Nat) : Int) := by rw [Int.toNat_of_nonneg hs.1]
          rw [c1', zbV_s, eX12_felt_10, if_pos hz, hpn, hsn, mFelt (by omega) (zTI_fr (zSm_m c3) h0) c2 (zRu_out hn) (by omega) (by omega) (by omega), zbI_s, eX12_felt_11]
          exact ⟨I', rfl, zSm_tr zSm_0 (zSm_m c3), m120 c3⟩
        · rw [decide_eq_false hn, if_pos (show zb1 false = 0 from rfl)]
          have hz : zRf (false || false) false t.n = -5 := by
            unfold zRf
            rw [if_neg (by decide), if_neg (by decide), if_pos (by omega)]
          rw [hz]
          exact ⟨_, rfl, zSm_0, g0⟩
      · rw [if_pos (show zb1 (!true) = 0 from rfl)]
        exact ⟨_, rfl, zSm_0, g0⟩
    · rw [if_pos rfl, hno (true || false) _ rfl]
      exact ⟨_, rfl, zSm_0, g0⟩
  · rw [if_pos (show zb1 (!true) = 0 from rfl), eX12_felt_4, hno _ _ (Bool.or_true _)]
    exact ⟨_, rfl, zSm_0, g0⟩
end
