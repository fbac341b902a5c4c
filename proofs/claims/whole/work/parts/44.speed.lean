def zfSp : zS → Nat → Int
  | (_, _, _, _, _, _, _, _, _, fs, _) => fs
def zfTi : zS → Nat → Int
  | (_, _, _, _, _, _, _, _, _, _, ft) => ft
/-- no such POINT on a TRACK that stands -/
def zNp (t : zDy) (p : Int) : Bool := decide (0 < t.n) && zbo p 0 ((t.n : Int) - 1)
def zSpV (t : zDy) (w p : Int) : Int := if zRf (zNp t p) (zbo w 1 20) t.n = 0 then zfSp (zRu t (zLss t w 0 0) 0 t.push).2 p.toNat else zRf (zNp t p) (zbo w 1 20) t.n
section
variable {d L r : Nat} {I : Nat → Nat → Int32} {J : Nat → Nat → Int64} {t : zDy}
theorem cFirst (hd : 2 ≤ d) {s : zS} (h : zRd (0 = 0) I s) {p : Nat} (hp : p < 60) : zCd zT d 31 [.ref 116, .int (zi p)] (zm L I J r) = some (some (.int (zi (zfSp s p))), zm L I J r) := by
  obtain ⟨fo, at1, pa, ti, tu, tp, td, pul, sl, fs, ft⟩ := s
  obtain ⟨_, _, fa, h10, f1, f2, f3⟩ := h
  have q := (f3 rfl).2 p hp
  have e1 : zi (p : Int) < 0 ↔ (p : Int) < 0 := zi_lt (y := 0) (by omega) (by decide)
  have e2 : zi fa < zi (p : Int) ↔ fa < p := zi_lt (by omega) (by omega)
  have e3 : (60 : Int32) ≤ zi (p : Int) ↔ 60 ≤ (p : Int) := zi_le (x := 60) (by decide) (by omega)
  rw [sX3_firstPaceAt hd, h10]
  simp only [e1, e2, e3]
  rw [if_neg (show ¬ (p : Int) < 0 by omega), if_neg (show ¬ (60 : Int) ≤ (p : Int) by omega), if_neg (show ¬ (60 : Int) ≤ (p : Int) by omega)]
  by_cases hq : fa < (p : Int)
  · rw [if_pos hq, if_pos rfl]
    show some (some (Value.int (-1 : Int32)), zm L I J r) = some (some (.int (zi (fs p))), zm L I J r)
    rw [q.1.mpr hq]
    rfl
  · rw [if_neg hq, if_neg (by decide), zin_t (by omega) (by omega), zgd_t, zi_cl (by omega), Int.toNat_natCast, (q.2 (by omega)).1]
    rfl
theorem cNp (hd : 3 ≤ d) (h : zTI I J t) {p : Int} (hp : -2147483648 ≤ p ∧ p < 2147483648) : zCd zT d 220 [.ref 16, .int (zi p)] (zm L I J r) = some (some (.int (zb1 (zNp t p))), zm L I J r) := by
  have hw := h.2.2.1.1
  have e : I 32 5 = zi t.n := h.1.1
  have e0 : zi (t.n : Int) = 0 ↔ t.n = 0 := by
    rw [show (0 : Int32) = zi 0 from rfl, zi_eq (by omega) (by decide)]
    omega
  have e1 : zi p < (0 : Int32) ↔ p < 0 := zi_lt (y := 0) hp (by decide)
  have e2 : zi (t.n : Int) - (1 : Int32) = zi ((t.n : Int) - 1) := zi_sub _ 1
  have e3 : zi p ≤ zi ((t.n : Int) - 1) ↔ p ≤ (t.n : Int) - 1 := zi_le hp (by omega)
  rw [sX11_noSuchPoint hd, e, e2]
  simp only [e0, e1, e3]
  unfold zNp zbo
  by_cases q : t.n = 0
  · rw [if_pos q, if_neg (by decide), decide_eq_false (show ¬ 0 < t.n by omega)]
    rfl
  · rw [if_neg q, if_pos rfl, decide_eq_true (show 0 < t.n by omega)]
    by_cases q1 : p < 0
    · rw [if_pos q1, decide_eq_true (Or.inl q1)]
      rfl
    · rw [if_neg q1]
      by_cases q2 : p ≤ (t.n : Int) - 1
      · rw [if_pos q2, decide_eq_false (show ¬ (p < 0 ∨ (t.n : Int) - 1 < p) by omega)]
        rfl
      · rw [if_neg q2, decide_eq_true (show (p < 0 ∨ (t.n : Int) - 1 < p) by omega)]
        rfl
theorem mPt (hd : 1 ≤ d) (h : zTI I J t) {p : Int} (hp : -2147483648 ≤ p ∧ p < 2147483648) : zCd zT d 283 [.ref 130, .int (zi p)] (zm L I J r) = some (some (.int (zb1 (!zbo p 0 ((t.n : Int) - 1)))), zm L I J r) := by
  have hw := h.2.2.1.1
  have e : I 131 0 = zi t.n := h.2.1.1
  have e1 : zi p < (0 : Int32) ↔ p < 0 := zi_lt (y := 0) hp (by decide)
  have e3 : zi (t.n : Int) ≤ zi p ↔ (t.n : Int) ≤ p := zi_le (by omega) hp
  rw [sX12_isPoint hd, e]
  simp only [e1, e3]
  unfold zbo
  by_cases q1 : p < 0
  · rw [if_pos q1, decide_eq_true (Or.inl q1)]
    rfl
  · rw [if_neg q1]
    by_cases q2 : (t.n : Int) ≤ p
    · rw [if_pos q2, decide_eq_true (show (p < 0 ∨ (t.n : Int) - 1 < p) by omega)]
      rfl
    · rw [if_neg q2, decide_eq_false (show ¬ (p < 0 ∨ (t.n : Int) - 1 < p) by omega)]
      rfl
theorem zNp_f {p : Int} (h : zNp t p = false) (hn : 0 < t.n) : 0 ≤ p ∧ p ≤ (t.n : Int) - 1 := by
  unfold zNp at h
  rw [decide_eq_true hn, Bool.true_and] at h
  exact zbo_f h
theorem cSpeed (hd : 9 ≤ d) (h : zTI I J t) {w p : Int} (b1 : -2147483648 ≤ w ∧ w < 2147483648) (b2 : -2147483648 ≤ p ∧ p < 2147483648) :
    ∃ I', zCd zT d 144 [.ref 16, .int (zi w), .int (zi p)] (zm L I J r) = some (some (.int (zi (zSpV t w p))), zm L I' J r) ∧ zFr3 I I' := by
  obtain ⟨e, rfl⟩ : ∃ e, d = e + 1 := ⟨d - 1, by omega⟩
  have hw := h.2.2.1.1
  rw [qX11_speed, eX11_speed_0, cNp (by omega) h b2, zbI_s, eX11_speed_1, cBadW (by omega) b1, zbI_s, eX11_speed_2, cRef (by omega) h, zbI_s, eX11_speed_3]
  unfold zSpV
  by_cases q : zRf (zNp t p) (zbo w 1 20) t.n = 0
  · rw [if_pos (zRf_i.mpr q), if_pos q, eX11_speed_4]
    obtain ⟨q1, q2, q3⟩ := zRf_0.mp q
    have hp := zNp_f q1 q3
    obtain ⟨I', c1, c2, c3, c4⟩ := cPass (d := e) (L := L) (r := r) (by omega) h q3 (zbo_f q2) (wi := 0) (co := 0) (by decide) (by decide)
    have c1' : zCd zT e 238 [.ref 16, .int (zi w), .int 0, .int 0] (zm L I J r) = some (none, zm L I' J r) := c1
    have hpn : zi p = zi ((p.toNat : Nat) : Int) := by rw [Int.toNat_of_nonneg hp.1]
    rw [c1', zbV_s, eX11_speed_5, hpn, cFirst (by omega) c2 (by omega), zbI_s, eX11_speed_6]
    exact ⟨I', rfl, c3⟩
  · rw [if_neg (fun x => q (zRf_i.mp x)), if_neg q]
    exact ⟨I, rfl, zFr3_rf⟩
theorem mSpeedQ (hd : 10 ≤ d) (h : zTI I J t) {w p : Int} (b1 : -2147483648 ≤ w ∧ w < 2147483648) (b2 : -2147483648 ≤ p ∧ p < 2147483648) :
    ∃ I', zCd zT d 284 [.ref 130, .int (zi w), .int (zi p)] (zm L I J r) = some (some (.int (zi (zSpV t w p))), zm L I' J r) ∧ zSm I I' ∧ I' 120 = I 120 := by
  obtain ⟨e, rfl⟩ : ∃ e, d = e + 1 := ⟨d - 1, by omega⟩
  have hw := h.2.2.1.1
  have f0 : zSm I (zu I 130 0 0) := by
    intro o k hp
    rw [zu_ap, if_neg (fun q => by rw [q.1, q.2] at hp; cases hp)]
  have g0 : zu I 130 0 0 120 = I 120 := zu_o (by decide)
  have h0 := zTI_fr f0 h
  rw [qX12_speed, eX12_speed_0, mTrack (by omega) h0, zbI_s, eX12_speed_1]
  have hx : (if zb1 (decide (0 < t.n)) = 0 then zX 0 (zCd zT e) zc_X12_speed 3 [some (.ref 130), some (.int (zi w)), some (.int (zi p))] [] (zm L (zu I 130 0 0) J r) else zbI (zCd zT e 283 [.ref 130, .int (zi p)] (zm L (zu I 130 0 0) J r)) (fun x0 N => zX 0 (zCd zT e) zc_X12_speed 2 [some (.ref 130), some (.int (zi w)), some (.int (zi p))] [.int x0] N)) = (if zNp t p = true then some (some (.int (-2)), zm L (zu I 130 0 0) J r) else zX 0 (zCd zT e) zc_X12_speed 3 [some (.ref 130), some (.int (zi w)), some (.int (zi p))] [] (zm L (zu I 130 0 0) J r)) := by
    unfold zNp
    by_cases hn : 0 < t.n
    · rw [decide_eq_true hn, if_neg (show ¬ zb1 true = 0 by decide), mPt (by omega) h0 b2, zbI_s, eX12_speed_2]
      cases zbo p 0 ((t.n : Int) - 1)
      · rw [if_neg (show ¬ zb1 (!false) = 0 by decide), if_neg (by decide)]
      · rw [if_pos (show zb1 (!true) = 0 from rfl), if_pos (by decide)]
    · rw [decide_eq_false hn, if_pos (show zb1 false = 0 from rfl), if_neg (by simp)]
  rw [hx]
  unfold zSpV
  cases hq1 : zNp t p
  · rw [if_neg (by decide), eX12_speed_3, mWeight (by omega) b1, zbI_s, eX12_speed_4]
    cases hq2 : zbo w 1 20
    · rw [if_neg (show ¬ zb1 (!false) = 0 by decide), eX12_speed_5, mTrack (by omega) h0, zbI_s, eX12_speed_6]
      by_cases hn : 0 < t.n
      · rw [decide_eq_true hn, if_neg (show ¬ zb1 true = 0 by decide), eX12_speed_7]
        have hp := zNp_f hq1 hn
        obtain ⟨I', c1, c2, c3, c4⟩ := mPass (d := e) (L := L) (r := r) (by omega) h0 hn (zbo_f hq2) (wi := 0) (co := 0) (by decide) (by decide)
        have c1' : zCd zT e 279 [.ref 130, .int (zi w), .int 0, .int 0] (zm L (zu I 130 0 0) J r) = some (none, zm L I' J r) := c1
        have hz : zRf false false t.n = 0 := zRf_0.mpr ⟨rfl, rfl, hn⟩
        rw [c1', zbV_s, eX12_speed_8, if_pos hz, zi_cl (by omega), zin_t (by omega) (by omega), zgd_t]
        refine ⟨I', ?_, zSm_tr f0 (zSm_m c3), by rw [← g0]; exact funext fun k => c3 120 k (by decide) (by decide) (fun q => by cases q.1)⟩
        generalize zRu t (zLss t w 0 0) 0 t.push = s at c2
        obtain ⟨en, fo, at1, pa, ti, tu, tp, td, pul, sl, fs, ft⟩ := s
        rw [(c2.2.2 p.toNat (by omega)).1]
        rfl
      · rw [decide_eq_false hn, if_pos (show zb1 false = 0 from rfl)]
        have hz : zRf false false t.n = -5 := by
          unfold zRf
          rw [if_neg (by decide), if_neg (by decide), if_pos (by omega)]
        rw [hz]
        exact ⟨_, rfl, f0, g0⟩
    · rw [if_pos (show zb1 (!true) = 0 from rfl)]
      exact ⟨_, rfl, f0, g0⟩
  · rw [if_pos rfl]
    have hz : zRf true (zbo w 1 20) t.n = -2 := by
      unfold zRf
      rw [if_pos rfl]
    rw [hz]
    exact ⟨_, rfl, f0, g0⟩
end
