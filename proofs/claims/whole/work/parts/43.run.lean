/-- what RUN tells -/
def zTel (wh : Int) : Int × zS → Int
  | (e, (_, at1, pa, ti, tu, tp, _, _, _, _, _)) => if wh = 0 then e else if wh = 1 then ti else if wh = 2 then at1 else if wh = 3 then tu else if wh = 4 then pa else tp
def zRnV (t : zDy) (w wi co wh : Int) : Int := if zRf (zbo wh 0 5) (zbo w 1 20 || zbo wi 0 99 || zbo co 0 99) t.n = 0 then zTel wh (zRu t (zLss t w wi co) 0 t.push) else zRf (zbo wh 0 5) (zbo w 1 20 || zbo wi 0 99 || zbo co 0 99) t.n
theorem zRf_0 {a b : Bool} {n : Nat} : zRf a b n = 0 ↔ a = false ∧ b = false ∧ 0 < n := by
  unfold zRf
  cases a <;> cases b
  · by_cases q : n = 0
    · simp [q]
    · simp [q]
      omega
  · simp
  · simp
  · simp
theorem zRf_i {a b : Bool} {n : Nat} : zi (zRf a b n) = 0 ↔ zRf a b n = 0 := by
  unfold zRf
  cases a <;> cases b
  · by_cases q : n = 0
    · simp only [q]
      decide
    · simp only [q]
      decide
  · show zi (-3) = 0 ↔ (-3 : Int) = 0
    decide
  · show zi (-2) = 0 ↔ (-2 : Int) = 0
    decide
  · show zi (-2) = 0 ↔ (-2 : Int) = 0
    decide
section
variable {d L r : Nat} {I : Nat → Nat → Int32} {J : Nat → Nat → Int64} {t : zDy}
theorem cTell (hd : 1 ≤ d) {z0 : Prop} {p : Int × zS} (h : zRd z0 I p.2) (h4 : I 116 4 = zi p.1) {wh : Int} (hw : 0 ≤ wh ∧ wh ≤ 5) : zCd zT d 30 [.ref 116, .int (zi wh)] (zm L I J r) = some (some (.int (zi (zTel wh p))), zm L I J r) := by
  obtain ⟨e, rfl⟩ : ∃ e, d = e + 1 := ⟨d - 1, by omega⟩
  obtain ⟨en, fo, at1, pa, ti, tu, tp, td, pul, sl, fs, ft⟩ := p
  obtain ⟨⟨h13, h6, h8, h5, h7, h9, h14, h12, h11⟩, _⟩ := h
  have hk : wh = 0 ∨ wh = 1 ∨ wh = 2 ∨ wh = 3 ∨ wh = 4 ∨ wh = 5 := by omega
  rw [qX3_tell, eX3_tell_0]
  rcases hk with q | q | q | q | q | q <;> subst q
  · rw [show ztb (zi 0).toInt 0 [1, 2, 3, 4, 5] 6 = 1 from by decide, eX3_tell_1, h4]
    rfl
  · rw [show ztb (zi 1).toInt 0 [1, 2, 3, 4, 5] 6 = 2 from by decide, eX3_tell_2, h5]
    rfl
  · rw [show ztb (zi 2).toInt 0 [1, 2, 3, 4, 5] 6 = 3 from by decide, eX3_tell_3, h6]
    rfl
  · rw [show ztb (zi 3).toInt 0 [1, 2, 3, 4, 5] 6 = 4 from by decide, eX3_tell_4, h7]
    rfl
  · rw [show ztb (zi 4).toInt 0 [1, 2, 3, 4, 5] 6 = 5 from by decide, eX3_tell_5, h8]
    rfl
  · rw [show ztb (zi 5).toInt 0 [1, 2, 3, 4, 5] 6 = 6 from by decide, eX3_tell_6, h9]
    rfl
theorem zbo_f {x lo hi : Int} (h : zbo x lo hi = false) : lo ≤ x ∧ x ≤ hi := by
  unfold zbo at h
  have := of_decide_eq_false h
  omega
theorem cRun (hd : 9 ≤ d) (h : zTI I J t) {w wi co wh : Int} (b1 : -2147483648 ≤ w ∧ w < 2147483648) (b2 : -2147483648 ≤ wi ∧ wi < 2147483648) (b3 : -2147483648 ≤ co ∧ co < 2147483648) (b4 : -2147483648 ≤ wh ∧ wh < 2147483648) :
    ∃ I', zCd zT d 143 [.ref 16, .int (zi w), .int (zi wi), .int (zi co), .int (zi wh)] (zm L I J r) = some (some (.int (zi (zRnV t w wi co wh))), zm L I' J r) ∧ zFr3 I I' := by
  obtain ⟨e, rfl⟩ : ∃ e, d = e + 1 := ⟨d - 1, by omega⟩
  have k1 : zCd zT e 225 [.int (zi wh), .int 0, .int 5] (zm L I J r) = _ := cOut (lo := 0) (hi := 5) (by omega) b4 (by decide) (by decide)
  have k2 : zCd zT e 225 [.int (zi wi), .int 0, .int 99] (zm L I J r) = _ := cOut (lo := 0) (hi := 99) (by omega) b2 (by decide) (by decide)
  have k3 : zCd zT e 225 [.int (zi co), .int 0, .int 99] (zm L I J r) = _ := cOut (lo := 0) (hi := 99) (by omega) b3 (by decide) (by decide)
  rw [qX11_run, eX11_run_0, k1, zbI_s, eX11_run_1, cBadW (by omega) b1, zbI_s]
  have hb : zX 0 (zCd zT e) zc_X11_run 2 [some (.ref 16), some (.int (zi w)), some (.int (zi wi)), some (.int (zi co)), some (.int (zi wh)), none] [.int (zb1 (zbo w 1 20)), .int (zb1 (zbo wh 0 5)), .ref 16] (zm L I J r) = zX 0 (zCd zT e) zc_X11_run 7 [some (.ref 16), some (.int (zi w)), some (.int (zi wi)), some (.int (zi co)), some (.int (zi wh)), none] [.int (zb1 (zbo w 1 20 || zbo wi 0 99 || zbo co 0 99)), .int (zb1 (zbo wh 0 5)), .ref 16] (zm L I J r) := by
    rw [eX11_run_2]
    cases zbo w 1 20
    · rw [if_pos (show zb1 false = 0 from rfl), k2, zbI_s, eX11_run_3]
      cases zbo wi 0 99
      · rw [if_pos (show zb1 false = 0 from rfl), k3, zbI_s, eX11_run_4]
        cases zbo co 0 99
        · rw [if_pos (show zb1 false = 0 from rfl), eX11_run_6]
          rfl
        · rw [if_neg (show ¬ zb1 true = 0 by decide), eX11_run_5]
          rfl
      · rw [if_neg (show ¬ zb1 true = 0 by decide), eX11_run_5]
        rfl
    · rw [if_neg (show ¬ zb1 true = 0 by decide), eX11_run_5]
      rfl
  rw [hb, eX11_run_7, cRef (by omega) h, zbI_s, eX11_run_8]
  unfold zRnV
  by_cases q : zRf (zbo wh 0 5) (zbo w 1 20 || zbo wi 0 99 || zbo co 0 99) t.n = 0
  · rw [if_pos (zRf_i.mpr q), if_pos q, eX11_run_9]
    obtain ⟨q1, q2, q3⟩ := zRf_0.mp q
    rw [Bool.or_eq_false_iff, Bool.or_eq_false_iff] at q2
    obtain ⟨I', c1, c2, c3, c4⟩ := cPass (d := e) (L := L) (r := r) (by omega) h q3 (zbo_f q2.1.1) (zbo_f q2.1.2) (zbo_f q2.2)
    rw [c1, zbV_s, eX11_run_10, cTell (by omega) c2 c4 (zbo_f q1), zbI_s, eX11_run_11]
    exact ⟨I', rfl, c3⟩
  · rw [if_neg (fun x => q (zRf_i.mp x)), if_neg q]
    exact ⟨I, rfl, zFr3_rf⟩
theorem mRun (hd : 10 ≤ d) (h : zTI I J t) {w wi co wh : Int} (b1 : -2147483648 ≤ w ∧ w < 2147483648) (b2 : -2147483648 ≤ wi ∧ wi < 2147483648) (b3 : -2147483648 ≤ co ∧ co < 2147483648) (b4 : -2147483648 ≤ wh ∧ wh < 2147483648) :
    ∃ I', zCd zT d 282 [.ref 130, .int (zi w), .int (zi wi), .int (zi co), .int (zi wh)] (zm L I J r) = some (some (.int (zi (zRnV t w wi co wh))), zm L I' J r) ∧ zSm I I' ∧ I' 120 = I 120 := by
  obtain ⟨e, rfl⟩ : ∃ e, d = e + 1 := ⟨d - 1, by omega⟩
  have f0 : zSm I (zu I 130 0 0) := by
    intro o k hp
    rw [zu_ap, if_neg (fun q => by rw [q.1, q.2] at hp; cases hp)]
  have g0 : zu I 130 0 0 120 = I 120 := zu_o (by decide)
  have h0 := zTI_fr f0 h
  rw [qX12_run, eX12_run_0, mWithin (by omega) b4, zbI_s, eX12_run_1, show (0 : Int64).toInt = 0 from rfl, show (5 : Int64).toInt = 5 from rfl]
  unfold zRnV
  have hbad : ∀ x : Option zR, x = some (some (.int (-3)), zm L (zu I 130 0 0) J r) → zbo wh 0 5 = false → (zbo w 1 20 || zbo wi 0 99 || zbo co 0 99) = true → ∃ I', x = some (some (.int (zi (if zRf (zbo wh 0 5) (zbo w 1 20 || zbo wi 0 99 || zbo co 0 99) t.n = 0 then zTel wh (zRu t (zLss t w wi co) 0 t.push) else zRf (zbo wh 0 5) (zbo w 1 20 || zbo wi 0 99 || zbo co 0 99) t.n))), zm L I' J r) ∧ zSm I I' ∧ I' 120 = I 120 := by
    intro x hx a1 a2
    rw [a1, a2]
    exact ⟨_, hx, f0, g0⟩
  cases hwh : zbo wh 0 5
  · rw [if_neg (show ¬ zb1 (!false) = 0 by decide), eX12_run_2, mWeight (by omega) b1, zbI_s, eX12_run_3]
    rw [hwh] at hbad
    cases hw1 : zbo w 1 20
    · rw [if_neg (show ¬ zb1 (!false) = 0 by decide), mAir (by omega) b2, zbI_s, eX12_run_4]
      rw [hw1] at hbad
      cases hwi : zbo wi 0 99
      · rw [if_neg (show ¬ zb1 (!false) = 0 by decide), mAir (by omega) b3, zbI_s, eX12_run_5]
        rw [hwi] at hbad
        cases hco : zbo co 0 99
        · rw [if_neg (show ¬ zb1 (!false) = 0 by decide), eX12_run_7, mTrack (by omega) h0, zbI_s, eX12_run_8]
          by_cases hn : 0 < t.n
          · rw [decide_eq_true hn, if_neg (show ¬ zb1 true = 0 by decide), eX12_run_9]
            obtain ⟨I', c1, c2, c3, c4⟩ := mPass (d := e) (L := L) (r := r) (by omega) h0 hn (zbo_f hw1) (zbo_f hwi) (zbo_f hco)
            have hz : zRf false (false || false || false) t.n = 0 := zRf_0.mpr ⟨rfl, rfl, hn⟩
            rw [c1, zbV_s, eX12_run_10, if_pos hz]
            refine ⟨I', ?_, zSm_tr f0 (zSm_m c3), by rw [← g0]; exact funext fun k => c3 120 k (by decide) (by decide) (fun q => by cases q.1)⟩
            have hk : wh = 0 ∨ wh = 1 ∨ wh = 2 ∨ wh = 3 ∨ wh = 4 ∨ wh = 5 := by
              have := zbo_f hwh
              omega
            generalize zRu t (zLss t w wi co) 0 t.push = p at c2 c4
            obtain ⟨en, fo, at1, pa, ti, tu, tp, td, pul, sl, fs, ft⟩ := p
            obtain ⟨⟨h20, h21, h24, h23, h22⟩, _⟩ := c2
            rcases hk with q | q | q | q | q | q <;> subst q
            · rw [show ztb (zi 0).toInt 0 [11, 12, 13, 14, 15] 16 = 11 from by decide, eX12_run_11, c4]
              rfl
            · rw [show ztb (zi 1).toInt 0 [11, 12, 13, 14, 15] 16 = 12 from by decide, eX12_run_12, h24]
              rfl
            · rw [show ztb (zi 2).toInt 0 [11, 12, 13, 14, 15] 16 = 13 from by decide, eX12_run_13, h20]
              rfl
            · rw [show ztb (zi 3).toInt 0 [11, 12, 13, 14, 15] 16 = 14 from by decide, eX12_run_14, h23]
              rfl
            · rw [show ztb (zi 4).toInt 0 [11, 12, 13, 14, 15] 16 = 15 from by decide, eX12_run_15, h21]
              rfl
            · rw [show ztb (zi 5).toInt 0 [11, 12, 13, 14, 15] 16 = 16 from by decide, eX12_run_16, h22]
              rfl
          · rw [decide_eq_false hn, if_pos (show zb1 false = 0 from rfl)]
            have hz : zRf false (false || false || false) t.n = -5 := by
              unfold zRf
              rw [if_neg (by decide), if_neg (by decide), if_pos (by omega)]
            rw [hz]
            exact ⟨_, rfl, f0, g0⟩
        · rw [if_pos (show zb1 (!true) = 0 from rfl), eX12_run_6]
          rw [hco] at hbad
          exact hbad _ rfl rfl rfl
      · rw [if_pos (show zb1 (!true) = 0 from rfl), eX12_run_6]
        rw [hwi] at hbad
        exact hbad _ rfl rfl rfl
    · rw [if_pos (show zb1 (!true) = 0 from rfl), eX12_run_6]
      rw [hw1] at hbad
      exact hbad _ rfl rfl rfl
  · rw [if_pos (show zb1 (!true) = 0 from rfl)]
    have hz : zRf true (zbo w 1 20 || zbo wi 0 99 || zbo co 0 99) t.n = -2 := by
      unfold zRf
      rw [if_pos rfl]
    rw [hz]
    exact ⟨_, rfl, f0, g0⟩
end
