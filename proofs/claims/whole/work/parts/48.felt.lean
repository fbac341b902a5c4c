theorem zRn_bd {n : Nat} {h ch : Nat → Int} {cp : Int → Int} {dg : Nat → Bool} {loss : Int} : ∀ (k : Nat) (s : zS), (∀ p, -1 ≤ zfSp s p ∧ zfSp s p ≤ 999) → ∀ p, -1 ≤ zfSp (zRn n h ch cp dg loss k s).2 p ∧ zfSp (zRn n h ch cp dg loss k s).2 p ≤ 999 := by
  have one : ∀ s : zS, (∀ p, -1 ≤ zfSp s p ∧ zfSp s p ≤ 999) → ∀ p, -1 ≤ zfSp (zStp h ch cp dg loss s).2 p ∧ zfSp (zStp h ch cp dg loss s).2 p ≤ 999 := by
    intro s ho p
    obtain ⟨fo, at1, pa, ti, tu, tp, td, pul, sl, fs, ft⟩ := s
    have hp1 : -1 ≤ fs p ∧ fs p ≤ 999 := ho p
    by_cases q : fo = false ∧ dg at1 = true
    · rw [zStp_a q]
      exact hp1
    · by_cases q2 : fo = false ∧ (at1 = 0 ∨ ¬ ch at1 = -1)
      · rw [zStp_b q q2]
        exact hp1
      · rw [zStp_c q q2]
        by_cases q3 : zNxt h ch cp loss fo at1 pa < 0
        · rw [if_pos q3]
          exact hp1
        · rw [if_neg q3]
          show -1 ≤ (if p = (if fo = true then at1 + 1 else at1 - 1) ∧ fs (if fo = true then at1 + 1 else at1 - 1) = -1 then (if 999 < zNxt h ch cp loss fo at1 pa then 999 else zNxt h ch cp loss fo at1 pa) else fs p) ∧ (if p = (if fo = true then at1 + 1 else at1 - 1) ∧ fs (if fo = true then at1 + 1 else at1 - 1) = -1 then (if 999 < zNxt h ch cp loss fo at1 pa then 999 else zNxt h ch cp loss fo at1 pa) else fs p) ≤ 999
          have hv : 0 ≤ (if 999 < zNxt h ch cp loss fo at1 pa then 999 else zNxt h ch cp loss fo at1 pa) ∧ (if 999 < zNxt h ch cp loss fo at1 pa then 999 else zNxt h ch cp loss fo at1 pa) ≤ 999 := by split <;> omega
          generalize (if 999 < zNxt h ch cp loss fo at1 pa then 999 else zNxt h ch cp loss fo at1 pa) = v at hv
          by_cases q4 : p = (if fo = true then at1 + 1 else at1 - 1) ∧ fs (if fo = true then at1 + 1 else at1 - 1) = -1
          · rw [if_pos q4]
            omega
          · rw [if_neg q4]
            exact hp1
  intro k
  induction k with
  | zero => exact fun s ho => ho
  | succ k ih =>
    intro s ho
    by_cases q : n ≤ s.2.1 + 1
    · rw [show zRn n h ch cp dg loss (k + 1) s = (0, s) from if_pos q]
      exact ho
    · by_cases q3 : (zStp h ch cp dg loss s).1 = 3
      · rw [show zRn n h ch cp dg loss (k + 1) s = zRn n h ch cp dg loss k (zStp h ch cp dg loss s).2 from (if_neg q).trans (if_pos q3)]
        exact ih _ (one s ho)
      · rw [show zRn n h ch cp dg loss (k + 1) s = zStp h ch cp dg loss s from (if_neg q).trans (if_neg q3)]
        exact one s ho
theorem zRu_bd {t : zDy} {loss v : Int} {f : Nat} (hv : 0 ≤ v ∧ v ≤ 999) : ∀ p, -1 ≤ zfSp (zRu t loss f v).2 p ∧ zfSp (zRu t loss f v).2 p ≤ 999 := by
  refine zRn_bd 300 _ (fun p => ?_)
  show -1 ≤ (if p = f ∧ (-1 : Int) = -1 then v else -1) ∧ (if p = f ∧ (-1 : Int) = -1 then v else -1) ≤ 999
  split <;> omega
/-- no POINT between the ends -/
def zNe (t : zDy) (p : Int) : Bool := decide (0 < t.n) && zbo p 1 ((t.n : Int) - 2)
def zFlV (t : zDy) (w p seat : Int) : Int32 := if zRf (zNe t p || zbo seat 0 9) (zbo w 1 20) t.n = 0 then zFl t (zRu t (zLss t w 0 0) 0 t.push).2 p.toNat seat.toNat else zi (zRf (zNe t p || zbo seat 0 9) (zbo w 1 20) t.n)
theorem zNe_f {t : zDy} {p : Int} (h : zNe t p = false) (hn : 0 < t.n) : 1 ≤ p ∧ p ≤ (t.n : Int) - 2 := by
  unfold zNe at h
  rw [decide_eq_true hn, Bool.true_and] at h
  exact zbo_f h
section
variable {d L r : Nat} {I : Nat → Nat → Int32} {J : Nat → Nat → Int64} {t : zDy}
theorem cSeat (hd : 2 ≤ d) {x : Int} (hx : -2147483648 ≤ x ∧ x < 2147483648) : zCd zT d 227 [.int (zi x)] (zm L I J r) = some (some (.int (zb1 (zbo x 0 9))), zm L I J r) := by
  rw [sX11_badSeat hd]
  have k : (if zi x < (0 : Int32) then (1 : Int32) else if zi x ≤ (9 : Int32) then 0 else 1) = zb1 (zbo x 0 9) := by
    unfold zbo
    have e1 : zi x < (0 : Int32) ↔ x < 0 := zi_lt (y := 0) hx (by decide)
    have e2 : zi x ≤ (9 : Int32) ↔ x ≤ 9 := zi_le (y := 9) hx (by decide)
    simp only [e1, e2]
    by_cases q1 : x < 0
    · rw [if_pos q1, decide_eq_true (Or.inl q1)]
      rfl
    · rw [if_neg q1]
      by_cases q2 : x ≤ 9
      · rw [if_pos q2, decide_eq_false (by omega)]
        rfl
      · rw [if_neg q2, decide_eq_true (by omega)]
        rfl
  rw [k, zb1_01, zgd_t]
theorem cFeltQ (hd : 9 ≤ d) (h : zTI I J t) {w p seat : Int} (b1 : -2147483648 ≤ w ∧ w < 2147483648) (b2 : -2147483648 ≤ p ∧ p < 2147483648) (b3 : -2147483648 ≤ seat ∧ seat < 2147483648) :
    ∃ I', zCd zT d 146 [.ref 16, .int (zi w), .int (zi p), .int (zi seat)] (zm L I J r) = some (some (.int (zFlV t w p seat)), zm L I' J r) ∧ zFr3 I I' := by
  obtain ⟨e, rfl⟩ : ∃ e, d = e + 1 := ⟨d - 1, by omega⟩
  have hw := h.2.2.1.1
  have en : I 32 5 = zi t.n := h.1.1
  have e0 : zi (t.n : Int) = 0 ↔ t.n = 0 := by
    rw [show (0 : Int32) = zi 0 from rfl, zi_eq (by omega) (by decide)]
    omega
  -- at an end
  have hA : ∃ b : Bool, zCd zT (e + 1) 146 [.ref 16, .int (zi w), .int (zi p), .int (zi seat)] (zm L I J r) = zX 0 (zCd zT e) zc_X11_felt 5 [some (.ref 16), some (.int (zi w)), some (.int (zi p)), some (.int (zi seat)), none, none] [.int (zb1 b)] (zm L I J r) ∧ (zNp t p || b) = zNe t p := by
    rw [qX11_felt, eX11_felt_0, sX11_noTrack (by omega), zbI_s, eX11_felt_1, en]
    by_cases q : t.n = 0
    · refine ⟨false, ?_, ?_⟩
      · rw [if_pos (e0.mpr q), if_neg (by decide), eX11_felt_4]
        rfl
      · unfold zNp zNe
        rw [decide_eq_false (show ¬ 0 < t.n by omega)]
        rfl
    · have ez : zi p = 0 ↔ p = 0 := by
        rw [show (0 : Int32) = zi 0 from rfl, zi_eq b2 (by decide)]
      have e2 : zi (t.n : Int) - (1 : Int32) = zi ((t.n : Int) - 1) := zi_sub _ 1
      rw [if_neg (fun x => q (e0.mp x)), if_pos rfl]
      by_cases q1 : p = 0
      · refine ⟨true, ?_, ?_⟩
        · rw [if_pos (ez.mpr q1), eX11_felt_3]
          rfl
        · unfold zNe zbo
          rw [decide_eq_true (show 0 < t.n by omega), decide_eq_true (show p < 1 ∨ (t.n : Int) - 2 < p by omega), Bool.or_true]
          rfl
      · rw [if_neg (fun x => q1 (ez.mp x)), sX9_points (by omega) (o := 32) (by decide), zbI_s, eX11_felt_2, en, e2]
        have e3 : zi p = zi ((t.n : Int) - 1) ↔ p = (t.n : Int) - 1 := zi_eq b2 (by omega)
        by_cases q2 : p = (t.n : Int) - 1
        · refine ⟨true, ?_, ?_⟩
          · rw [if_pos (e3.mpr q2), eX11_felt_3]
            rfl
          · unfold zNe zbo
            rw [decide_eq_true (show 0 < t.n by omega), decide_eq_true (show p < 1 ∨ (t.n : Int) - 2 < p by omega), Bool.or_true]
            rfl
        · refine ⟨false, ?_, ?_⟩
          · rw [if_neg (fun x => q2 (e3.mp x)), eX11_felt_4]
            rfl
          · unfold zNp zNe zbo
            rw [Bool.or_false]
            congr 1
            rw [decide_eq_decide]
            omega
  obtain ⟨b, a1, a2⟩ := hA
  have hB : zX 0 (zCd zT e) zc_X11_felt 5 [some (.ref 16), some (.int (zi w)), some (.int (zi p)), some (.int (zi seat)), none, none] [.int (zb1 b)] (zm L I J r) = zX 0 (zCd zT e) zc_X11_felt 10 [some (.ref 16), some (.int (zi w)), some (.int (zi p)), some (.int (zi seat)), some (.int (zb1 b)), none] [.int (zb1 (zNe t p || zbo seat 0 9)), .ref 16] (zm L I J r) := by
    rw [eX11_felt_5, cNp (by omega) h b2, zbI_s, eX11_felt_6, ← a2]
    cases zNp t p
    · rw [if_pos (show zb1 false = 0 from rfl)]
      cases b
      · rw [if_pos (show zb1 false = 0 from rfl), cSeat (by omega) b3, zbI_s, eX11_felt_7]
        cases zbo seat 0 9
        · rw [if_pos (show zb1 false = 0 from rfl), eX11_felt_9]
          rfl
        · rw [if_neg (show ¬ zb1 true = 0 by decide), eX11_felt_8]
          rfl
      · rw [if_neg (show ¬ zb1 true = 0 by decide), eX11_felt_8]
        rfl
    · rw [if_neg (show ¬ zb1 true = 0 by decide), eX11_felt_8]
      rfl
  rw [a1, hB, eX11_felt_10, cBadW (by omega) b1, zbI_s, eX11_felt_11, cRef (by omega) h, zbI_s, eX11_felt_12]
  unfold zFlV
  by_cases q : zRf (zNe t p || zbo seat 0 9) (zbo w 1 20) t.n = 0
  · rw [if_pos (zRf_i.mpr q), if_pos q, eX11_felt_13]
    obtain ⟨q1, q2, q3⟩ := zRf_0.mp q
    rw [Bool.or_eq_false_iff] at q1
    have hp := zNe_f q1.1 q3
    have hse := zbo_f q1.2
    obtain ⟨I', c1, c2, c3, c4⟩ := cPass (d := e) (L := L) (r := r) (by omega) h q3 (zbo_f q2) (wi := 0) (co := 0) (by decide) (by decide)
    have c1' : zCd zT e 238 [.ref 16, .int (zi w), .int 0, .int 0] (zm L I J r) = some (none, zm L I' J r) := c1
    have hpn : zi p = zi ((p.toNat : Nat) : Int) := by rw [Int.toNat_of_nonneg (by omega)]
    have hsn : zi seat = zi ((seat.toNat : Nat) : Int) := by rw [Int.toNat_of_nonneg hse.1]
    rw [c1', zbV_s, eX11_felt_14, hpn, hsn, cFelt (by omega) (zTI_fr (zSm_3 c3) h) c2 (zRu_out q3) (zRu_bd h.2.2.1.2.2.2.2.2.2.2.2.2) (by omega) (by omega) (by omega), zbI_s, eX11_felt_15]
    exact ⟨I', rfl, c3⟩
  · rw [if_neg (fun x => q (zRf_i.mp x)), if_neg q]
    exact ⟨I, rfl, zFr3_rf⟩
end
