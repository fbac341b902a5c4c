def zPtV (t : zDy) (p wh : Int) : Int := if zRf (zNp t p || zbo wh 0 1) false t.n = 0 then (if wh = 0 then t.h p.toNat else zBk t p t.m) else zRf (zNp t p || zbo wh 0 1) false t.n
section
variable {d L r : Nat} {I : Nat → Nat → Int32} {J : Nat → Nat → Int64} {t : zDy}
theorem cPoint (hd : 5 ≤ d) (h : zTI I J t) {p wh : Int} (b1 : -2147483648 ≤ p ∧ p < 2147483648) (b2 : -2147483648 ≤ wh ∧ wh < 2147483648) : zCd zT d 145 [.ref 16, .int (zi p), .int (zi wh)] (zm L I J r) = some (some (.int (zi (zPtV t p wh))), zm L I J r) := by
  obtain ⟨e, rfl⟩ : ∃ e, d = e + 1 := ⟨d - 1, by omega⟩
  have hw := h.2.2.1.1
  have k1 : zCd zT e 225 [.int (zi wh), .int 0, .int 1] (zm L I J r) = _ := cOut (lo := 0) (hi := 1) (by omega) b2 (by decide) (by decide)
  have hb : zX 0 (zCd zT e) zc_X11_point 1 [some (.ref 16), some (.int (zi p)), some (.int (zi wh)), none] [.int (zb1 (zNp t p)), .ref 16] (zm L I J r) = zX 0 (zCd zT e) zc_X11_point 5 [some (.ref 16), some (.int (zi p)), some (.int (zi wh)), none] [.int (zb1 (zNp t p || zbo wh 0 1)), .ref 16] (zm L I J r) := by
    rw [eX11_point_1]
    cases zNp t p
    · rw [if_pos (show zb1 false = 0 from rfl), k1, zbI_s, eX11_point_2]
      cases zbo wh 0 1
      · rw [if_pos (show zb1 false = 0 from rfl), eX11_point_4]
        rfl
      · rw [if_neg (show ¬ zb1 true = 0 by decide), eX11_point_3]
        rfl
    · rw [if_neg (show ¬ zb1 true = 0 by decide), eX11_point_3]
      rfl
  have k2 : zCd zT e 219 [.ref 16, .int (zb1 (zNp t p || zbo wh 0 1)), .int 0] (zm L I J r) = _ := cRef (by omega) h (zNp t p || zbo wh 0 1) false
  rw [qX11_point, eX11_point_0, cNp (by omega) h b1, zbI_s, hb, eX11_point_5, k2, zbI_s, eX11_point_6]
  unfold zPtV
  by_cases q : zRf (zNp t p || zbo wh 0 1) false t.n = 0
  · rw [if_pos (zRf_i.mpr q), if_pos q, eX11_point_7]
    obtain ⟨q1, q2, q3⟩ := zRf_0.mp q
    rw [Bool.or_eq_false_iff] at q1
    have hp := zNp_f q1.1 q3
    have hwh := zbo_f q1.2
    have hpn : zi p = zi ((p.toNat : Nat) : Int) := by rw [Int.toNat_of_nonneg hp.1]
    by_cases hz : wh = 0
    · rw [if_pos (show zi wh = 0 by rw [hz]; rfl), if_pos hz, hpn, cHeight (by omega) (zTI_c h) (show p.toNat < t.n by omega), zbI_s, eX11_point_8, eX11_point_10]
    · have hz1 : wh = 1 := by omega
      rw [if_neg (show ¬ zi wh = 0 by rw [hz1]; decide), if_neg hz, eX11_point_9, cBlk (by omega) h b1, zbI_s, eX11_point_10]
  · rw [if_neg (fun x => q (zRf_i.mp x)), if_neg q]
theorem mPoint (hd : 3 ≤ d) (h : zTI I J t) {p wh : Int} (b1 : -2147483648 ≤ p ∧ p < 2147483648) (b2 : -2147483648 ≤ wh ∧ wh < 2147483648) : zCd zT d 286 [.ref 130, .int (zi p), .int (zi wh)] (zm L I J r) = some (some (.int (zi (zPtV t p wh))), zm L (zu I 130 0 0) J r) := by
  obtain ⟨e, rfl⟩ : ∃ e, d = e + 1 := ⟨d - 1, by omega⟩
  have hw := h.2.2.1.1
  have f0 : zSm I (zu I 130 0 0) := by
    intro o k hp
    rw [zu_ap, if_neg (fun q => by rw [q.1, q.2] at hp; cases hp)]
  have h0 := zTI_fr f0 h
  rw [qX12_point, eX12_point_0, mWithin (by omega) b2, zbI_s, eX12_point_1, show (0 : Int64).toInt = 0 from rfl, show (1 : Int64).toInt = 1 from rfl]
  have hno : ∀ b : Bool, b = true → zRf b false t.n = -2 := by
    intro b hb
    unfold zRf
    rw [if_pos hb]
  unfold zPtV
  cases hwh : zbo wh 0 1
  · rw [if_neg (show ¬ zb1 (!false) = 0 by decide), mTrack (by omega) h0, zbI_s, eX12_point_2]
    by_cases hn : 0 < t.n
    · rw [decide_eq_true hn, if_neg (show ¬ zb1 true = 0 by decide), mPt (by omega) h0 b1, zbI_s, eX12_point_3]
      have hnp : zNp t p = zbo p 0 ((t.n : Int) - 1) := by
        unfold zNp
        rw [decide_eq_true hn, Bool.true_and]
      cases hp0 : zbo p 0 ((t.n : Int) - 1)
      · rw [if_neg (show ¬ zb1 (!false) = 0 by decide), eX12_point_5, mTrack (by omega) h0, zbI_s, eX12_point_6, decide_eq_true hn, if_neg (show ¬ zb1 true = 0 by decide), eX12_point_7, hnp, hp0]
        have hz : zRf (false || false) false t.n = 0 := zRf_0.mpr ⟨rfl, rfl, hn⟩
        have hp := zbo_f hp0
        have hw1 := zbo_f hwh
        rw [if_pos hz]
        by_cases hq : wh = 0
        · have k2 : (1 : Int32) + zi p = zi ((1 + p.toNat : Nat) : Int) := by
            rw [show (1 : Int32) = zi 1 from rfl, zi_add]
            exact congrArg zi (by omega)
          have hh : I 131 (0 + (1 + p.toNat)) = zi (t.h p.toNat) := h.2.1.2.1 p.toNat (by omega)
          have hh2 : zu I 130 0 0 131 (1 + p.toNat) = zi (t.h p.toNat) := by
            rw [Nat.zero_add] at hh
            rw [zu_o (by decide), hh]
          have hh3 : I 131 (1 + p.toNat) = zi (t.h p.toNat) := by rwa [Nat.zero_add] at hh
          rw [if_pos (show zi wh = 0 by rw [hq]; rfl), if_pos hq, k2, zin_t (by omega) (by omega), zgd_t, zi_cl (by omega), Int.toNat_natCast, eX12_point_9]
          first
            | rw [hh2]
            | rw [hh3]
        · have hq1 : wh = 1 := by omega
          rw [if_neg (show ¬ zi wh = 0 by rw [hq1]; decide), if_neg hq, eX12_point_8, mBlk (by omega) h0 b1, zbI_s, eX12_point_9]
      · rw [if_pos (show zb1 (!true) = 0 from rfl), eX12_point_4, hnp, hp0, hno (true || false) rfl]
        rfl
    · have hnp : zNp t p = false := by
        unfold zNp
        rw [decide_eq_false hn, Bool.false_and]
      have hz : zRf (false || false) false t.n = -5 := by
        unfold zRf
        rw [if_neg (by decide), if_neg (by decide), if_pos (by omega)]
      rw [decide_eq_false hn, if_pos (show zb1 false = 0 from rfl), eX12_point_5, mTrack (by omega) h0, zbI_s, eX12_point_6, decide_eq_false hn, if_pos (show zb1 false = 0 from rfl), hnp, hz]
      rfl
  · rw [if_pos (show zb1 (!true) = 0 from rfl), eX12_point_4, hno _ (Bool.or_true _)]
    rfl
end
