/-! A RUN: the class's and the model's are one -/
def zb1 (b : Bool) : Int32 := if b = true then 1 else 0
theorem zb1_0 {b : Bool} : zb1 b = 0 ↔ b = false := by cases b <;> simp [zb1]
/-- forth, POINT, SPEED, TICKS, turns, greatest, has turned here, has been pulled, slack, SPEEDS and TICKS as it first came -/
abbrev zS : Type := Bool × Nat × Int × Int × Int × Int × Bool × Bool × Int × (Nat → Int) × (Nat → Int)
def zTrn (sl : Int) (pul : Bool) : zS → zS
  | (fo, at1, pa, ti, tu, tp, _, _, _, fs, ft) => (!fo, at1, pa, ti, tu + 1, tp, true, pul, sl, fs, ft)
def zArr (to : Nat) (v t : Int) (pul : Bool) : zS → zS
  | (fo, _, _, _, tu, tp, _, _, sl, fs, ft) => (fo, to, v, t, tu, (if tp < v then v else tp), false, pul, (if pul = true then sl else if 1000 - v < sl then 1000 - v else sl), (fun p => if p = to ∧ fs to = -1 then v else fs p), (fun p => if p = to ∧ fs to = -1 then t else ft p))
/-- heights, chain at a POINT (-1: none), a chain's SPEED, dogs -/
def zNxt (h ch : Nat → Int) (cp : Int → Int) (loss : Int) (fo : Bool) (at1 : Nat) (pa : Int) : Int := if ch at1 = -1 then pa + 10 * (h at1 - h (if fo = true then at1 + 1 else at1 - 1)) - loss else cp (ch at1)
def zStp (h ch : Nat → Int) (cp : Int → Int) (dg : Nat → Bool) (loss : Int) : zS → Int × zS
  | (fo, at1, pa, ti, tu, tp, td, pul, sl, fs, ft) =>
    if fo = false ∧ dg at1 = true then (2, (fo, at1, pa, ti, tu, tp, td, pul, sl, fs, ft))
    else if fo = false ∧ (at1 = 0 ∨ ¬ ch at1 = -1) then ((if td = true then 1 else 3), zTrn sl pul (fo, at1, pa, ti, tu, tp, td, pul, sl, fs, ft))
    else if zNxt h ch cp loss fo at1 pa < 0 then ((if td = true then 1 else 3), zTrn (if (pul || !decide (ch at1 = -1)) = true then sl else if -(zNxt h ch cp loss fo at1 pa) < sl then -(zNxt h ch cp loss fo at1 pa) else sl) (pul || !decide (ch at1 = -1)) (fo, at1, pa, ti, tu, tp, td, pul, sl, fs, ft))
    else (3, zArr (if fo = true then at1 + 1 else at1 - 1) (if 999 < zNxt h ch cp loss fo at1 pa then 999 else zNxt h ch cp loss fo at1 pa) (ti + (1 + 40 / (4 + (if 999 < zNxt h ch cp loss fo at1 pa then 999 else zNxt h ch cp loss fo at1 pa)))) (pul || !decide (ch at1 = -1)) (fo, at1, pa, ti, tu, tp, td, pul, sl, fs, ft))
def zRn (n : Nat) (h ch : Nat → Int) (cp : Int → Int) (dg : Nat → Bool) (loss : Int) : Nat → zS → Int × zS
  | 0, s => ((if n ≤ s.2.1 + 1 then 0 else 1), s)
  | k + 1, s => if n ≤ s.2.1 + 1 then (0, s) else if (zStp h ch cp dg loss s).1 = 3 then zRn n h ch cp dg loss k (zStp h ch cp dg loss s).2 else zStp h ch cp dg loss s
theorem zStp_a {h ch : Nat → Int} {cp : Int → Int} {dg : Nat → Bool} {loss : Int} {fo : Bool} {at1 : Nat} {pa ti tu tp : Int} {td pul : Bool} {sl : Int} {fs ft : Nat → Int} (q : fo = false ∧ dg at1 = true) : zStp h ch cp dg loss (fo, at1, pa, ti, tu, tp, td, pul, sl, fs, ft) = (2, (fo, at1, pa, ti, tu, tp, td, pul, sl, fs, ft)) := by
  unfold zStp
  exact if_pos q
theorem zStp_b {h ch : Nat → Int} {cp : Int → Int} {dg : Nat → Bool} {loss : Int} {fo : Bool} {at1 : Nat} {pa ti tu tp : Int} {td pul : Bool} {sl : Int} {fs ft : Nat → Int} (q : ¬ (fo = false ∧ dg at1 = true)) (q2 : fo = false ∧ (at1 = 0 ∨ ¬ ch at1 = -1)) : zStp h ch cp dg loss (fo, at1, pa, ti, tu, tp, td, pul, sl, fs, ft) = ((if td = true then 1 else 3), zTrn sl pul (fo, at1, pa, ti, tu, tp, td, pul, sl, fs, ft)) := by
  unfold zStp
  exact (if_neg q).trans (if_pos q2)
theorem zStp_c {h ch : Nat → Int} {cp : Int → Int} {dg : Nat → Bool} {loss : Int} {fo : Bool} {at1 : Nat} {pa ti tu tp : Int} {td pul : Bool} {sl : Int} {fs ft : Nat → Int} (q : ¬ (fo = false ∧ dg at1 = true)) (q2 : ¬ (fo = false ∧ (at1 = 0 ∨ ¬ ch at1 = -1))) : zStp h ch cp dg loss (fo, at1, pa, ti, tu, tp, td, pul, sl, fs, ft) = (if zNxt h ch cp loss fo at1 pa < 0 then ((if td = true then 1 else 3 : Int), zTrn (if (pul || !decide (ch at1 = -1)) = true then sl else if -(zNxt h ch cp loss fo at1 pa) < sl then -(zNxt h ch cp loss fo at1 pa) else sl) (pul || !decide (ch at1 = -1)) (fo, at1, pa, ti, tu, tp, td, pul, sl, fs, ft)) else (3, zArr (if fo = true then at1 + 1 else at1 - 1) (if 999 < zNxt h ch cp loss fo at1 pa then 999 else zNxt h ch cp loss fo at1 pa) (ti + (1 + 40 / (4 + (if 999 < zNxt h ch cp loss fo at1 pa then 999 else zNxt h ch cp loss fo at1 pa)))) (pul || !decide (ch at1 = -1)) (fo, at1, pa, ti, tu, tp, td, pul, sl, fs, ft))) := by
  unfold zStp
  refine (if_neg q).trans ((if_neg q2).trans ?_)
  split <;> rfl
/-- the class's TRACK, as a RUN asks it -/
def zTk (I : Nat → Nat → Int32) (J : Nat → Nat → Int64) (n : Nat) (h ch : Nat → Int) (cp : Int → Int) (dg : Nat → Bool) : Prop :=
  n ≤ 60 ∧ I 32 5 = zi n ∧ (∀ p, p < n → I 33 p = zi (h p) ∧ 0 ≤ h p ∧ h p ≤ 99) ∧
  (∀ p, p < n → (if (0 : Int32) < I 32 7 ∧ ¬ lg_cmp (zul (J 36 0) (zi p) &&& 1) 0 = 0 then (0 : Int) else if (1 : Int32) < I 32 7 ∧ ¬ lg_cmp (zul (J 36 1) (zi p) &&& 1) 0 = 0 then 1 else -1) = ch p) ∧
  (∀ c : Nat, c < 2 → (∃ p, p < n ∧ ch p = (c : Int)) → (if (0 : Int32) < I 35 c - I 119 c then I 35 c - I 119 c else 0) = zi (cp c) ∧ 0 ≤ cp c ∧ cp c ≤ 999) ∧ ∀ p, p < n → (dg p = true ↔ ¬ lg_cmp (zul (J 32 4) (zi p) &&& 1) 0 = 0)
theorem zTk_ch {I : Nat → Nat → Int32} {J : Nat → Nat → Int64} {n : Nat} {h ch : Nat → Int} {cp : Int → Int} {dg : Nat → Bool} (hT : zTk I J n h ch cp dg) {p : Nat} (hp : p < n) : ch p = -1 ∨ ch p = 0 ∨ ch p = 1 := by
  rw [← hT.2.2.2.1 p hp]
  split
  · exact Or.inr (Or.inl rfl)
  · split
    · exact Or.inr (Or.inr rfl)
    · exact Or.inl rfl
section
variable {d L r : Nat} {I : Nat → Nat → Int32} {J : Nat → Nat → Int64} {n : Nat} {h ch : Nat → Int} {cp : Int → Int} {dg : Nat → Bool}
theorem cHeight (hd : 1 ≤ d) (hT : zTk I J n h ch cp dg) {p : Nat} (hp : p < n) : zCd zT d 119 [.ref 32, .int (zi p)] (zm L I J r) = some (some (.int (zi (h p))), zm L I J r) := by
  have h60 := hT.1
  rw [sX9_height hd, zin_t (by omega) (by omega), zi_cl (by omega), zgd_t]
  simp (disch := omega) only [zi_lit, zi_lt]
  rw [if_neg (by omega), if_pos (by omega), Int.toNat_natCast, (hT.2.2.1 p hp).1]
theorem cChain (hd : 1 ≤ d) (hT : zTk I J n h ch cp dg) {p : Nat} (hp : p < n) : zCd zT d 120 [.ref 32, .int (zi p)] (zm L I J r) = some (some (.int (zi (ch p))), zm L I J r) := by
  obtain ⟨e, rfl⟩ : ∃ e, d = e + 1 := ⟨d - 1, by omega⟩
  rw [qX9_chainAt, eX9_chainAt_0, eX9_chainAt_1, eX9_chainAt_2, eX9_chainAt_1, eX9_chainAt_2, eX9_chainAt_1]
  simp only [eX9_chainAt_3]
  have k1 : (0 : Int32) + 1 = 1 := rfl
  have k2 : (1 : Int32) + 1 = 2 := rfl
  rw [k1, k2, if_neg (show ¬ (2 : Int32) ≤ 0 by decide), if_neg (show ¬ (2 : Int32) ≤ 1 by decide), if_pos (show (2 : Int32) ≤ 2 by decide), show zin 0 2 = true from rfl, show zin 1 2 = true from rfl, zgd_t, zgd_t, show (0 : Int32).toNatClampNeg = 0 from rfl, show (1 : Int32).toNatClampNeg = 1 from rfl, ← hT.2.2.2.1 p hp]
  by_cases h0 : (0 : Int32) < I 32 7
  · have h0' : ¬ I 32 7 ≤ 0 := Int32.not_le.mpr h0
    by_cases b0 : lg_cmp (zul (J 36 0) (zi p) &&& 1) 0 = 0
    · by_cases h1 : (1 : Int32) < I 32 7
      · have h1' : ¬ I 32 7 ≤ 1 := Int32.not_le.mpr h1
        by_cases b1 : lg_cmp (zul (J 36 1) (zi p) &&& 1) 0 = 0
        · simp only [h0, h0', b0, h1, h1', b1, if_true, if_false, not_true_eq_false, and_false, ite_self]
          rfl
        · simp only [h0, h0', b0, h1, h1', b1, if_true, if_false, not_true_eq_false, not_false_eq_true, and_false, and_true]
          rfl
      · have h1' : I 32 7 ≤ 1 := Int32.not_lt.mp h1
        simp only [h0, h0', b0, h1, h1', if_true, if_false, not_true_eq_false, and_false, false_and]
        rfl
    · simp only [h0, h0', b0, if_true, if_false, not_false_eq_true, and_true]
      rfl
  · have h0' : I 32 7 ≤ 0 := Int32.not_lt.mp h0
    have h1 : ¬ (1 : Int32) < I 32 7 := fun q => h0 (Int32.lt_trans (by decide) q)
    simp only [h0, h0', h1, if_true, if_false, false_and]
    rfl
theorem cDog (hd : 1 ≤ d) (hT : zTk I J n h ch cp dg) {p : Nat} (hp : p < n) : zCd zT d 122 [.ref 32, .int (zi p)] (zm L I J r) = some (some (.int (zb1 (dg p))), zm L I J r) := by
  rw [sX9_hasDogAt hd]
  have hg := hT.2.2.2.2.2 p hp
  cases hb : dg p
  · rw [if_pos (by
      by_cases q : lg_cmp (zul (J 32 4) (zi p) &&& 1) 0 = 0
      · exact q
      · have := hg.mpr q
        rw [hb] at this
        cases this)]
    rfl
  · rw [if_neg (hg.mp hb)]
    rfl
theorem cPull (hd : 2 ≤ d) (hT : zTk I J n h ch cp dg) {c : Int} (hc : c = 0 ∨ c = 1) (hx : ∃ p, p < n ∧ ch p = c) : zCd zT d 25 [.ref 116, .ref 32, .int (zi c)] (zm L I J r) = some (some (.int (zi (cp c))), zm L I J r) := by
  rw [sX3_pulledPace hd]
  rcases hc with rfl | rfl
  · have h1 := (hT.2.2.2.2.1 0 (by decide) hx).1
    have k : zi 0 = 0 := rfl
    rw [k, if_neg (show ¬ (0 : Int32) < 0 by decide), if_pos (show (0 : Int32) < 2 by decide), show zin 0 2 = true from rfl, zgd_t, if_neg (show ¬ (0 : Int32) < 0 by decide)]
    try rw [if_pos (show (0 : Int32) < 2 by decide), zgd_t]
    rw [show (0 : Int32).toNatClampNeg = 0 from rfl, h1]
    rfl
  · have h1 := (hT.2.2.2.2.1 1 (by decide) hx).1
    have k : zi 1 = 1 := rfl
    rw [k, if_neg (show ¬ (1 : Int32) < 0 by decide), if_pos (show (1 : Int32) < 2 by decide), show zin 1 2 = true from rfl, zgd_t, if_neg (show ¬ (1 : Int32) < 0 by decide)]
    try rw [if_pos (show (1 : Int32) < 2 by decide), zgd_t]
    rw [show (1 : Int32).toNatClampNeg = 1 from rfl, h1]
    rfl
theorem cTick (hd : 1 ≤ d) {v : Int} (h0 : 0 ≤ v) (h1 : v ≤ 999) : zCd zT d 24 [.int (zi v)] (zm L I J r) = some (some (.int (zi (1 + 40 / (4 + v)))), zm L I J r) := by
  rw [sX3_ticksAt hd]
  simp (disch := omega) only [zi_lit, zi_add, zi_le, zi_div, ne_eq, zi_eq]
  rw [if_pos (by omega), decide_eq_true (by omega), zgd_t]
end
/-- what the class's Ride holds -/
def zRd (z0 : Prop) (I : Nat → Nat → Int32) : zS → Prop
  | (fo, at1, pa, ti, tu, tp, td, pul, sl, fs, ft) =>
    (I 116 13 = zb1 fo ∧ I 116 6 = zi at1 ∧ I 116 8 = zi pa ∧ I 116 5 = zi ti ∧ I 116 7 = zi tu ∧ I 116 9 = zi tp ∧ I 116 14 = zb1 td ∧ I 116 12 = zb1 pul ∧ I 116 11 = zi sl) ∧ (0 ≤ pa ∧ pa ≤ 999 ∧ 0 ≤ tp ∧ tp ≤ 999 ∧ 1 ≤ sl ∧ sl ≤ 1000) ∧
    ∃ fa : Int, I 116 10 = zi fa ∧ -1 ≤ fa ∧ fa < 60 ∧ (z0 → (at1 : Int) ≤ fa ∧ ∀ p : Nat, p < 60 → (fs p = -1 ↔ fa < (p : Int)) ∧ ((p : Int) ≤ fa → I 117 p = zi (fs p) ∧ I 118 p = zi (ft p)))
def zFr3 (I I' : Nat → Nat → Int32) : Prop := ∀ o, o ≠ 116 → o ≠ 117 → o ≠ 118 → I' o = I o
theorem zFr3_rf {I : Nat → Nat → Int32} : zFr3 I I := fun _ _ _ _ => rfl
theorem zFr3_tr {I I1 I2 : Nat → Nat → Int32} (h : zFr3 I I1) (g : zFr3 I1 I2) : zFr3 I I2 := fun o a b c => (g o a b c).trans (h o a b c)
theorem zu_o {I : Nat → Nat → Int32} {o k a : Nat} {v : Int32} (h : a ≠ o) : zu I o k v a = I a := by
  funext j
  rw [zu_ap, if_neg (fun q => h q.1)]
theorem zTk_fr {I I' : Nat → Nat → Int32} {J : Nat → Nat → Int64} {n : Nat} {h ch : Nat → Int} {cp : Int → Int} {dg : Nat → Bool} (hf : zFr3 I I') (hT : zTk I J n h ch cp dg) : zTk I' J n h ch cp dg := by
  have e1 := hf 32 (by decide) (by decide) (by decide)
  have e2 := hf 33 (by decide) (by decide) (by decide)
  have e3 := hf 35 (by decide) (by decide) (by decide)
  have e4 := hf 119 (by decide) (by decide) (by decide)
  unfold zTk
  rw [e1, e2, e3, e4]
  exact hT
section
variable {d L r : Nat} {I : Nat → Nat → Int32} {J : Nat → Nat → Int64}
set_option maxHeartbeats 2000000 in
theorem cArr (hd : 1 ≤ d) {z0 : Prop} {fo : Bool} {at1 : Nat} {pa ti tu tp : Int} {td pul : Bool} {sl : Int} {fs ft : Nat → Int} (hs : zRd z0 I (fo, at1, pa, ti, tu, tp, td, pul, sl, fs, ft)) {to : Nat} {v t : Int} (hv : 0 ≤ v ∧ v ≤ 999) (hto : to < 60) (hz : z0 → to ≤ at1 + 1) :
    ∃ I', zCd zT d 27 [.ref 116, .int (zi to), .int (zi v), .int (zi t)] (zm L I J r) = some (none, zm L I' J r) ∧ zRd z0 I' (zArr to v t pul (fo, at1, pa, ti, tu, tp, td, pul, sl, fs, ft)) ∧ zFr3 I I' ∧ I' 116 4 = I 116 4 := by
  obtain ⟨⟨h13, h6, h8, h5, h7, h9, h14, h12, h11⟩, ⟨g1, g2, g3, g4, g5, g6⟩, fa, h10, f1, f2, f3⟩ := hs
  rw [sX3_arrive hd, zi_cl (by omega), Int.toNat_natCast, zin_t (by omega) (by omega), zgd_t, zgd_t, h12, h10, h9, h11]
  simp (disch := omega) only [zi_lit, zi_sub, zi_lt, zi_le]
  rw [if_neg (show ¬ (60 : Int) ≤ (to : Int) by omega), if_neg (show ¬ (60 : Int) ≤ (to : Int) by omega), if_neg (show ¬ (60 : Int) ≤ (to : Int) by omega), if_neg (show ¬ (60 : Int) ≤ (to : Int) by omega)]
  have key : ∀ (sl2 : Int), sl2 = (if pul = true then sl else if 1000 - v < sl then 1000 - v else sl) → ∃ I', (if (to : Int) ≤ fa then some (none, zm L (zu (zu (zu (zu (zu (zu I 116 6 (zi to)) 116 8 (zi v)) 116 5 (zi t)) 116 9 (if tp < v then zi v else zi tp)) 116 11 (zi sl2)) 116 14 (zi 0)) J r) else some (none, zm L (zu (zu (zu (zu (zu (zu (zu (zu (zu I 116 6 (zi to)) 116 8 (zi v)) 116 5 (zi t)) 116 9 (if tp < v then zi v else zi tp)) 116 11 (zi sl2)) 116 14 (zi 0)) 116 10 (zi to)) 117 to (zi v)) 118 to (zi t)) J r)) = some ((none : Option Value), zm L I' J r) ∧ zRd z0 I' (zArr to v t pul (fo, at1, pa, ti, tu, tp, td, pul, sl, fs, ft)) ∧ zFr3 I I' ∧ I' 116 4 = I 116 4 := by
    intro sl2 hsl
    have hsl2 : 1 ≤ sl2 ∧ sl2 ≤ 1000 := by
      rw [hsl]
      split
      · omega
      · split <;> omega
    have htp : (if tp < v then zi v else zi tp) = zi (if tp < v then v else tp) := by split <;> rfl
    have htp2 : 0 ≤ (if tp < v then v else tp) ∧ (if tp < v then v else tp) ≤ 999 := by split <;> omega
    by_cases hle : (to : Int) ≤ fa
    · rw [if_pos hle]
      refine ⟨_, rfl, ?_, ?_, ?_⟩
      · unfold zRd zArr
        simp only [zu_ap]
        refine ⟨⟨by simpa using h13, rfl, rfl, rfl, by simpa using h7, by simpa using htp, rfl, by simpa using h12, by simpa using congrArg zi hsl⟩, ⟨hv.1, hv.2, htp2.1, htp2.2, ?_, ?_⟩, fa, by simpa using h10, f1, f2, ?_⟩
        · rw [← hsl]; exact hsl2.1
        · rw [← hsl]; exact hsl2.2
        · intro z
          obtain ⟨q1, q2⟩ := f3 z
          refine ⟨hle, fun p hp => ?_⟩
          have hto2 : ¬ fs to = -1 := fun q => by have := (q2 to hto).1.mp q; omega
          simp only [hto2, and_false, if_false]
          simpa using q2 p hp
      · intro o a1 a2 a3
        simp only [zu_o a1]
      · simp [zu_ap]
    · rw [if_neg hle]
      refine ⟨_, rfl, ?_, ?_, ?_⟩
      · unfold zRd zArr
        simp only [zu_ap]
        refine ⟨⟨by simpa using h13, rfl, rfl, rfl, by simpa using h7, by simpa using htp, rfl, by simpa using h12, by simpa using congrArg zi hsl⟩, ⟨hv.1, hv.2, htp2.1, htp2.2, ?_, ?_⟩, to, by simp, by omega, by omega, ?_⟩
        · rw [← hsl]; exact hsl2.1
        · rw [← hsl]; exact hsl2.2
        · intro z
          obtain ⟨q1, q2⟩ := f3 z
          have hz1 := hz z
          refine ⟨by omega, fun p hp => ?_⟩
          have hto2 : fs to = -1 := (q2 to hto).1.mpr (by omega)
          have q3 := q2 p hp
          by_cases hpt : p = to
          · subst hpt
            simp [hto2]
            omega
          · simp [hpt]
            refine ⟨?_, fun hp2 => ?_⟩
            · rw [q3.1]; omega
            · exact q3.2 (by omega)
      · intro o a1 a2 a3
        simp only [zu_o a1, zu_o a2, zu_o a3]
      · simp [zu_ap]
  cases pul
  · rw [if_pos (show zb1 false = zi 0 from rfl)]
    refine (key (if 1000 - v < sl then 1000 - v else sl) rfl).imp fun I' h => ?_
    refine ⟨?_, h.2⟩
    rw [← h.1]
    have hsl3 : (if 1000 - v < sl then zi (1000 - v) else zi sl) = zi (if 1000 - v < sl then 1000 - v else sl) := by split <;> rfl
    rw [← hsl3]
  · rw [if_neg (show ¬ zb1 true = zi 0 by decide)]
    refine (key sl rfl).imp fun I' h => ?_
    exact ⟨h.1 ▸ rfl, h.2⟩
end
section
variable {d L r : Nat} {I : Nat → Nat → Int32} {J : Nat → Nat → Int64} {n : Nat} {h ch : Nat → Int} {cp : Int → Int} {dg : Nat → Bool}
theorem cTrn (hd : 1 ≤ d) {z0 : Prop} {fo : Bool} {at1 : Nat} {pa ti tu tp : Int} {td pul : Bool} {sl : Int} {fs ft : Nat → Int} (hs : zRd z0 I (fo, at1, pa, ti, tu, tp, td, pul, sl, fs, ft)) (he : I 116 4 = zi 3) :
    ∃ I', zCd zT d 26 [.ref 116] (zm L I J r) = some (none, zm L I' J r) ∧ zRd z0 I' (zTrn sl pul (fo, at1, pa, ti, tu, tp, td, pul, sl, fs, ft)) ∧ zFr3 I I' ∧ I' 116 4 = zi (if td = true then 1 else 3) := by
  obtain ⟨⟨h13, h6, h8, h5, h7, h9, h14, h12, h11⟩, hb, fa, h10, f1, f2, f3⟩ := hs
  rw [sX3_turn hd, h13, h14]
  have fr : ∀ (a b c : Int32), zFr3 I (zu (zu (zu I 116 7 a) 116 13 b) 116 14 c) := fun a b c o a1 a2 a3 => by simp only [zu_o a1]
  have fr4 : ∀ (a b c e : Int32), zFr3 I (zu (zu (zu (zu I 116 7 a) 116 13 b) 116 4 e) 116 14 c) := fun a b c e o a1 a2 a3 => by simp only [zu_o a1]
  have e7 : I 116 7 + 1 = zi (tu + 1) := by rw [h7, zi_lit, zi_add]
  cases fo <;> cases td
  · rw [if_pos (zb1_0.mpr rfl), if_pos (zb1_0.mpr rfl)]
    refine ⟨_, rfl, ?_, fr _ _ _, by simp [zu_ap, he]⟩
    unfold zRd zTrn
    simp only [zu_ap]
    exact ⟨⟨rfl, by simpa using h6, by simpa using h8, by simpa using h5, by simpa using e7, by simpa using h9, rfl, by simpa using h12, by simpa using h11⟩, hb, fa, by simpa using h10, f1, f2, by simpa using f3⟩
  · rw [if_pos (zb1_0.mpr rfl), if_neg (fun q => by cases zb1_0.mp q)]
    refine ⟨_, rfl, ?_, fr4 _ _ _ _, by simp [zu_ap]; rfl⟩
    unfold zRd zTrn
    simp only [zu_ap]
    exact ⟨⟨rfl, by simpa using h6, by simpa using h8, by simpa using h5, by simpa using e7, by simpa using h9, rfl, by simpa using h12, by simpa using h11⟩, hb, fa, by simpa using h10, f1, f2, by simpa using f3⟩
  · rw [if_neg (fun q => by cases zb1_0.mp q), if_pos (zb1_0.mpr rfl)]
    refine ⟨_, rfl, ?_, fr _ _ _, by simp [zu_ap, he]⟩
    unfold zRd zTrn
    simp only [zu_ap]
    exact ⟨⟨rfl, by simpa using h6, by simpa using h8, by simpa using h5, by simpa using e7, by simpa using h9, rfl, by simpa using h12, by simpa using h11⟩, hb, fa, by simpa using h10, f1, f2, by simpa using f3⟩
  · rw [if_neg (fun q => by cases zb1_0.mp q), if_neg (fun q => by cases zb1_0.mp q)]
    refine ⟨_, rfl, ?_, fr4 _ _ _ _, by simp [zu_ap]; rfl⟩
    unfold zRd zTrn
    simp only [zu_ap]
    exact ⟨⟨rfl, by simpa using h6, by simpa using h8, by simpa using h5, by simpa using e7, by simpa using h9, rfl, by simpa using h12, by simpa using h11⟩, hb, fa, by simpa using h10, f1, f2, by simpa using f3⟩
theorem zb1_or {a b : Bool} : zb1 a ||| zb1 b = zb1 (a || b) := by cases a <;> cases b <;> rfl
theorem zb1_01 {a : Bool} : z01 (zb1 a) = true := by cases a <;> rfl
theorem zRd_12 {z0 : Prop} {fo : Bool} {at1 : Nat} {pa ti tu tp : Int} {td pul : Bool} {sl : Int} {fs ft : Nat → Int} (pul2 : Bool) (hs : zRd z0 I (fo, at1, pa, ti, tu, tp, td, pul, sl, fs, ft)) : zRd z0 (zu I 116 12 (zb1 pul2)) (fo, at1, pa, ti, tu, tp, td, pul2, sl, fs, ft) := by
  obtain ⟨⟨h13, h6, h8, h5, h7, h9, h14, h12, h11⟩, hb, fa, h10, f1, f2, f3⟩ := hs
  unfold zRd
  simp only [zu_ap]
  exact ⟨⟨by simpa using h13, by simpa using h6, by simpa using h8, by simpa using h5, by simpa using h7, by simpa using h9, by simpa using h14, rfl, by simpa using h11⟩, hb, fa, by simpa using h10, f1, f2, by simpa using f3⟩
theorem zRd_11 {z0 : Prop} {fo : Bool} {at1 : Nat} {pa ti tu tp : Int} {td pul : Bool} {sl : Int} {fs ft : Nat → Int} {sl2 : Int} (h1 : 1 ≤ sl2) (h2 : sl2 ≤ 1000) (hs : zRd z0 I (fo, at1, pa, ti, tu, tp, td, pul, sl, fs, ft)) : zRd z0 (zu I 116 11 (zi sl2)) (fo, at1, pa, ti, tu, tp, td, pul, sl2, fs, ft) := by
  obtain ⟨⟨h13, h6, h8, h5, h7, h9, h14, h12, h11⟩, ⟨g1, g2, g3, g4, g5, g6⟩, fa, h10, f1, f2, f3⟩ := hs
  unfold zRd
  simp only [zu_ap]
  exact ⟨⟨by simpa using h13, by simpa using h6, by simpa using h8, by simpa using h5, by simpa using h7, by simpa using h9, by simpa using h14, by simpa using h12, rfl⟩, ⟨g1, g2, g3, g4, h1, h2⟩, fa, by simpa using h10, f1, f2, by simpa using f3⟩
theorem zFr3_u {k : Nat} {v : Int32} : zFr3 I (zu I 116 k v) := fun o a1 _ _ => zu_o a1
/-- the step behind its new SPEED -/
theorem cGo2 (hd : 2 ≤ d) {z0 : Prop} {fo : Bool} {at1 : Nat} {pa ti tu tp : Int} {td pul : Bool} {sl : Int} {fs ft : Nat → Int} (hs : zRd z0 I (fo, at1, pa, ti, tu, tp, td, pul, sl, fs, ft)) (he : I 116 4 = zi 3) {to : Nat} (hto : to < 60) (hz : z0 → to ≤ at1 + 1) {nx : Int} (n1 : -1000000000 ≤ nx) (n2 : nx ≤ 1000000000) {s1 s2 l2 l3 l5 : Int32} {pul2 : Bool} (hp : s1 ||| s2 = zb1 pul2) :
    ∃ I', zX 2 (zCd zT d) zc_X3_step 14 [some (.ref 116), some (.ref 32), some (.int l2), some (.int l3), some (.int (zi to)), some (.int l5), some (.int (zi nx)), none] [.int s2, .int s1, .ref 116] (zm L I J r) = some (none, zm L I' J r) ∧
      zRd z0 I' (if nx < 0 then ((if td = true then 1 else 3 : Int), zTrn (if pul2 = true then sl else if -nx < sl then -nx else sl) pul2 (fo, at1, pa, ti, tu, tp, td, pul, sl, fs, ft)) else (3, zArr to (if 999 < nx then 999 else nx) (ti + (1 + 40 / (4 + (if 999 < nx then 999 else nx)))) pul2 (fo, at1, pa, ti, tu, tp, td, pul, sl, fs, ft))).2 ∧ zFr3 I I' ∧
      I' 116 4 = zi (if nx < 0 then ((if td = true then 1 else 3 : Int), zTrn (if pul2 = true then sl else if -nx < sl then -nx else sl) pul2 (fo, at1, pa, ti, tu, tp, td, pul, sl, fs, ft)) else (3, zArr to (if 999 < nx then 999 else nx) (ti + (1 + 40 / (4 + (if 999 < nx then 999 else nx)))) pul2 (fo, at1, pa, ti, tu, tp, td, pul, sl, fs, ft))).1 := by
  have hs1 := zRd_12 pul2 hs
  have he1 : zu I 116 12 (zb1 pul2) 116 4 = zi 3 := by simpa [zu_ap] using he
  have h11 : zu I 116 12 (zb1 pul2) 116 11 = zi sl := hs1.1.2.2.2.2.2.2.2.2
  have h5 : zu I 116 12 (zb1 pul2) 116 5 = zi ti := hs1.1.2.2.2.1
  have hsl : 1 ≤ sl ∧ sl ≤ 1000 := ⟨hs.2.1.2.2.2.2.1, hs.2.1.2.2.2.2.2⟩
  rw [eX3_step_14, hp, zb1_01, zgd_t]
  by_cases hn : nx < 0
  · simp only [if_pos hn]
    rw [if_neg (show ¬ (0 : Int32) ≤ zi nx by simp (disch := omega) only [zi_lit, zi_le]; omega)]
    have key : ∀ sl2 : Int, sl2 = (if pul2 = true then sl else if -nx < sl then -nx else sl) → ∃ I', zX 2 (zCd zT d) zc_X3_step 16 [some (.ref 116), some (.ref 32), some (.int l2), some (.int l3), some (.int (zi to)), some (.int l5), some (.int (zi nx)), none] [.int (zi sl2), .ref 116] (zm L (zu I 116 12 (zb1 pul2)) J r) = some (none, zm L I' J r) ∧ zRd z0 I' (zTrn sl2 pul2 (fo, at1, pa, ti, tu, tp, td, pul, sl, fs, ft)) ∧ zFr3 I I' ∧ I' 116 4 = zi (if td = true then 1 else 3) := by
      intro sl2 hsl2
      have b1 : 1 ≤ sl2 ∧ sl2 ≤ 1000 := by
        rw [hsl2]
        split
        · omega
        · split <;> omega
      obtain ⟨I', c1, c2, c3, c4⟩ := cTrn (d := d) (L := L) (r := r) (J := J) (by omega) (zRd_11 b1.1 b1.2 hs1) (by simpa [zu_ap] using he1)
      refine ⟨I', ?_, c2, zFr3_tr zFr3_u (zFr3_tr zFr3_u c3), c4⟩
      rw [eX3_step_16, c1, zbV_s, eX3_step_17, eX3_step_20]
    cases pul2
    · rw [if_pos (show zb1 false = 0 from rfl), eX3_step_15, h11]
      have hv : (if -(zi nx) < zi sl then -(zi nx) else zi sl) = zi (if -nx < sl then -nx else sl) := by
        rw [zi_neg]
        simp (disch := omega) only [zi_lt]
        split <;> rfl
      rw [hv]
      exact key _ rfl
    · rw [if_neg (show ¬ zb1 true = 0 by decide), show I 116 11 = zi sl from hs.1.2.2.2.2.2.2.2.2]
      exact key _ rfl
  · simp only [if_neg hn]
    rw [if_pos (show (0 : Int32) ≤ zi nx by simp (disch := omega) only [zi_lit, zi_le]; omega), eX3_step_18]
    have hv : (if (999 : Int32) < zi nx then (999 : Int32) else zi nx) = zi (if 999 < nx then 999 else nx) := by
      simp (disch := omega) only [zi_lit, zi_lt]
      split <;> rfl
    rw [hv]
    have hb : 0 ≤ (if 999 < nx then 999 else nx) ∧ (if 999 < nx then 999 else nx) ≤ 999 := by split <;> omega
    obtain ⟨I', c1, c2, c3, c4⟩ := cArr (d := d) (L := L) (r := r) (J := J) (by omega) hs1 (to := to) hb hto hz (t := ti + (1 + 40 / (4 + (if 999 < nx then 999 else nx))))
    rw [cTick (by omega) hb.1 hb.2, zbI_s, eX3_step_19, h5, zi_add, c1, zbV_s, eX3_step_20]
    exact ⟨I', rfl, c2, zFr3_tr zFr3_u c3, c4.trans he1⟩
/-- the step behind the question where it goes -/
theorem cGo1 (hd : 2 ≤ d) (hT : zTk I J n h ch cp dg) {loss : Int} (hl : 0 ≤ loss ∧ loss ≤ 1000000) {z0 : Prop} {fo : Bool} {at1 : Nat} {pa ti tu tp : Int} {td pul : Bool} {sl : Int} {fs ft : Nat → Int} (hs : zRd z0 I (fo, at1, pa, ti, tu, tp, td, pul, sl, fs, ft)) (he : I 116 4 = zi 3) (ha : at1 < n) (hf : fo = true → at1 + 1 < n) (hb : fo = false → at1 ≠ 0) :
    ∃ I', zX 2 (zCd zT d) zc_X3_step 6 [some (.ref 116), some (.ref 32), some (.int (zi loss)), some (.int (zi (ch at1))), none, none, none, none] [] (zm L I J r) = some (none, zm L I' J r) ∧
      zRd z0 I' (if zNxt h ch cp loss fo at1 pa < 0 then ((if td = true then 1 else 3 : Int), zTrn (if (pul || !decide (ch at1 = -1)) = true then sl else if -(zNxt h ch cp loss fo at1 pa) < sl then -(zNxt h ch cp loss fo at1 pa) else sl) (pul || !decide (ch at1 = -1)) (fo, at1, pa, ti, tu, tp, td, pul, sl, fs, ft)) else (3, zArr (if fo = true then at1 + 1 else at1 - 1) (if 999 < zNxt h ch cp loss fo at1 pa then 999 else zNxt h ch cp loss fo at1 pa) (ti + (1 + 40 / (4 + (if 999 < zNxt h ch cp loss fo at1 pa then 999 else zNxt h ch cp loss fo at1 pa)))) (pul || !decide (ch at1 = -1)) (fo, at1, pa, ti, tu, tp, td, pul, sl, fs, ft))).2 ∧ zFr3 I I' ∧
      I' 116 4 = zi (if zNxt h ch cp loss fo at1 pa < 0 then ((if td = true then 1 else 3 : Int), zTrn (if (pul || !decide (ch at1 = -1)) = true then sl else if -(zNxt h ch cp loss fo at1 pa) < sl then -(zNxt h ch cp loss fo at1 pa) else sl) (pul || !decide (ch at1 = -1)) (fo, at1, pa, ti, tu, tp, td, pul, sl, fs, ft)) else (3, zArr (if fo = true then at1 + 1 else at1 - 1) (if 999 < zNxt h ch cp loss fo at1 pa then 999 else zNxt h ch cp loss fo at1 pa) (ti + (1 + 40 / (4 + (if 999 < zNxt h ch cp loss fo at1 pa then 999 else zNxt h ch cp loss fo at1 pa)))) (pul || !decide (ch at1 = -1)) (fo, at1, pa, ti, tu, tp, td, pul, sl, fs, ft))).1 := by
  have hs0 := hs
  obtain ⟨⟨h13, h6, h8, h5, h7, h9, h14, h12, h11⟩, ⟨g1, g2, g3, g4, g5, g6⟩, fa, h10, f1, f2, f3⟩ := hs
  have h60 := hT.1
  have hch := zTk_ch hT ha
  generalize hto : (if fo = true then at1 + 1 else at1 - 1) = to
  have hton : to < n := by
    rw [← hto]
    cases fo
    · simp; omega
    · simpa using hf rfl
  -- to block 8
  have hb8 : zX 2 (zCd zT d) zc_X3_step 6 [some (.ref 116), some (.ref 32), some (.int (zi loss)), some (.int (zi (ch at1))), none, none, none, none] [] (zm L I J r) = zX 2 (zCd zT d) zc_X3_step 8 [some (.ref 116), some (.ref 32), some (.int (zi loss)), some (.int (zi (ch at1))), none, none, none, none] [.int (zi to)] (zm L I J r) := by
    rw [eX3_step_6, h13]
    cases fo
    · rw [if_pos (zb1_0.mpr rfl), eX3_step_7, h6, zi_lit, zi_sub, ← hto]
      have : ((at1 : Int) - 1) = ((at1 - 1 : Nat) : Int) := by have := hb rfl; omega
      rw [show ((OfNat.ofNat 1 : Int)) = 1 from rfl, this]
      rfl
    · rw [if_neg (fun q => by cases zb1_0.mp q), h6, zi_lit, zi_add, ← hto]
      rfl
  rw [hb8, eX3_step_8, h6, cHeight (by omega) hT ha, zbI_s, eX3_step_9, cHeight (by omega) hT hton, zbI_s, eX3_step_10, h8]
  have hN : ((zi pa + (10 : Int32) * (zi (h at1) - zi (h to))) - zi loss) = zi (pa + 10 * (h at1 - h to) - loss) := by rw [zi_lit, zi_sub, zi_mul, zi_add, zi_sub]
  rw [hN]
  have bh1 := (hT.2.2.1 at1 ha).2
  have bh2 := (hT.2.2.1 to hton).2
  by_cases hc : ch at1 = -1
  · rw [if_pos (show zi (ch at1) = -1 by rw [hc]; rfl), eX3_step_12, if_pos (show zi (ch at1) = -1 by rw [hc]; rfl), eX3_step_13]
    have hx : zNxt h ch cp loss fo at1 pa = pa + 10 * (h at1 - h to) - loss := by unfold zNxt; rw [if_pos hc, hto]
    have hq : (pul || !decide (ch at1 = -1)) = pul := by simp [hc]
    rw [hx, hq]
    exact cGo2 hd hs0 he (by omega) (fun _ => by rw [← hto]; split <;> omega) (by omega) (by omega) (by rw [h12]; cases pul <;> rfl)
  · have hc2 : ch at1 = 0 ∨ ch at1 = 1 := by omega
    have hcn : ¬ zi (ch at1) = -1 := by rcases hc2 with q | q <;> rw [q] <;> decide
    have hcp : 0 ≤ cp (ch at1) ∧ cp (ch at1) ≤ 999 := by
      rcases hc2 with q | q <;> rw [q]
      · exact (hT.2.2.2.2.1 0 (by decide) ⟨at1, ha, q⟩).2
      · exact (hT.2.2.2.2.1 1 (by decide) ⟨at1, ha, q⟩).2
    rw [if_neg hcn, eX3_step_11, cPull hd hT hc2 ⟨at1, ha, rfl⟩, zbI_s, eX3_step_12, if_neg hcn]
    have hx : zNxt h ch cp loss fo at1 pa = cp (ch at1) := by unfold zNxt; rw [if_neg hc]
    have hq : (pul || !decide (ch at1 = -1)) = true := by simp [hc]
    rw [hx, hq]
    exact cGo2 hd hs0 he (by omega) (fun _ => by rw [← hto]; split <;> omega) (by omega) (by omega) (by rw [h12]; cases pul <;> rfl)
theorem zRd_4 {z0 : Prop} {fo : Bool} {at1 : Nat} {pa ti tu tp : Int} {td pul : Bool} {sl : Int} {fs ft : Nat → Int} {v : Int32} (hs : zRd z0 I (fo, at1, pa, ti, tu, tp, td, pul, sl, fs, ft)) : zRd z0 (zu I 116 4 v) (fo, at1, pa, ti, tu, tp, td, pul, sl, fs, ft) := by
  obtain ⟨⟨h13, h6, h8, h5, h7, h9, h14, h12, h11⟩, hb, fa, h10, f1, f2, f3⟩ := hs
  unfold zRd
  simp only [zu_ap]
  exact ⟨⟨by simpa using h13, by simpa using h6, by simpa using h8, by simpa using h5, by simpa using h7, by simpa using h9, by simpa using h14, by simpa using h12, by simpa using h11⟩, hb, fa, by simpa using h10, f1, f2, by simpa using f3⟩
theorem cStep (hd : 3 ≤ d) (hT : zTk I J n h ch cp dg) {loss : Int} (hl : 0 ≤ loss ∧ loss ≤ 1000000) {z0 : Prop} {s : zS} (hs : zRd z0 I s) (he : I 116 4 = zi 3) (ha : s.2.1 + 1 < n) :
    ∃ I', zCd zT d 23 [.ref 116, .ref 32, .int (zi loss)] (zm L I J r) = some (none, zm L I' J r) ∧ zRd z0 I' (zStp h ch cp dg loss s).2 ∧ zFr3 I I' ∧ I' 116 4 = zi (zStp h ch cp dg loss s).1 := by
  obtain ⟨e, rfl⟩ : ∃ e, d = e + 1 := ⟨d - 1, by omega⟩
  obtain ⟨fo, at1, pa, ti, tu, tp, td, pul, sl, fs, ft⟩ := s
  have hs0 := hs
  obtain ⟨⟨h13, h6, h8, h5, h7, h9, h14, h12, h11⟩, hb, fa, h10, f1, f2, f3⟩ := hs
  have h60 := hT.1
  have ha1 : at1 < n := by have : at1 + 1 < n := ha; omega
  have ha2 : at1 + 1 < n := ha
  have hch := zTk_ch hT ha1
  have hcm : ∀ x : Int, x = -1 ∨ x = 0 ∨ x = 1 → (zi x = -1 ↔ x = -1) := by
    intro x hx
    rcases hx with q | q | q <;> subst q <;> decide
  rw [qX3_step, eX3_step_0, h6, cChain (by omega) hT ha1, zbI_s, eX3_step_1, h13]
  have hB : ∀ (hf : fo = false), (¬ (at1 = 0 ∨ ¬ ch at1 = -1)) → ∃ I', zX 2 (zCd zT e) zc_X3_step 3 [some (.ref 116), some (.ref 32), some (.int (zi loss)), some (.int (zi (ch at1))), none, none, none, none] [] (zm L I J r) = zX 2 (zCd zT e) zc_X3_step 6 [some (.ref 116), some (.ref 32), some (.int (zi loss)), some (.int (zi (ch at1))), none, none, none, none] [] (zm L I' J r) ∧ I' = I := by
    intro hf hq
    refine ⟨I, ?_, rfl⟩
    rw [eX3_step_3, h13, h6, hf, if_pos (show zb1 false = 0 from rfl), if_neg (show ¬ zi at1 = 0 by simp (disch := omega) only [zi_lit, zi_eq]; omega), if_pos ((hcm _ hch).mpr (by omega))]
  have hA : (fo = false → ¬ (at1 = 0 ∨ ¬ ch at1 = -1)) → (fo = false → dg at1 = false) → ∃ I', zX 2 (zCd zT e) zc_X3_step 3 [some (.ref 116), some (.ref 32), some (.int (zi loss)), some (.int (zi (ch at1))), none, none, none, none] [] (zm L I J r) = some (none, zm L I' J r) ∧ zRd z0 I' (zStp h ch cp dg loss (fo, at1, pa, ti, tu, tp, td, pul, sl, fs, ft)).2 ∧ zFr3 I I' ∧ I' 116 4 = zi (zStp h ch cp dg loss (fo, at1, pa, ti, tu, tp, td, pul, sl, fs, ft)).1 := by
    intro hq hg
    obtain ⟨I', c1, c2, c3, c4⟩ := cGo1 (d := e) (L := L) (r := r) (J := J) (by omega) hT hl hs0 he ha1 (fun _ => ha2) (fun q q2 => hq q (Or.inl q2))
    have hst : zStp h ch cp dg loss (fo, at1, pa, ti, tu, tp, td, pul, sl, fs, ft) = (if zNxt h ch cp loss fo at1 pa < 0 then ((if td = true then 1 else 3 : Int), zTrn (if (pul || !decide (ch at1 = -1)) = true then sl else if -(zNxt h ch cp loss fo at1 pa) < sl then -(zNxt h ch cp loss fo at1 pa) else sl) (pul || !decide (ch at1 = -1)) (fo, at1, pa, ti, tu, tp, td, pul, sl, fs, ft)) else (3, zArr (if fo = true then at1 + 1 else at1 - 1) (if 999 < zNxt h ch cp loss fo at1 pa then 999 else zNxt h ch cp loss fo at1 pa) (ti + (1 + 40 / (4 + (if 999 < zNxt h ch cp loss fo at1 pa then 999 else zNxt h ch cp loss fo at1 pa)))) (pul || !decide (ch at1 = -1)) (fo, at1, pa, ti, tu, tp, td, pul, sl, fs, ft))) := by
      refine zStp_c (fun q => ?_) (fun q => hq q.1 q.2)
      have q1 := hg q.1
      rw [q1] at q
      cases q.2
    rw [hst]
    refine ⟨I', ?_, c2, c3, c4⟩
    rw [← c1]
    cases fo
    · obtain ⟨_, b1, rfl⟩ := hB rfl (hq rfl)
      exact b1
    · rw [eX3_step_3, h13, if_neg (show ¬ zb1 true = 0 by decide)]
  cases hfo : fo
  · subst hfo
    rw [if_pos (show zb1 false = 0 from rfl), h6, cDog (by omega) hT ha1, zbI_s, eX3_step_2]
    cases hdg : dg at1
    · rw [if_pos (show zb1 false = 0 from rfl)]
      by_cases hq : at1 = 0 ∨ ¬ ch at1 = -1
      · obtain ⟨I', c1, c2, c3, c4⟩ := cTrn (d := e) (L := L) (r := r) (J := J) (by omega) hs0 he
        have hst : zStp h ch cp dg loss (false, at1, pa, ti, tu, tp, td, pul, sl, fs, ft) = ((if td = true then 1 else 3), zTrn sl pul (false, at1, pa, ti, tu, tp, td, pul, sl, fs, ft)) := by
          exact zStp_b (fun q => by rw [hdg] at q; cases q.2) ⟨rfl, hq⟩
        rw [hst]
        refine ⟨I', ?_, c2, c3, c4⟩
        have h4 : zX 2 (zCd zT e) zc_X3_step 3 [some (.ref 116), some (.ref 32), some (.int (zi loss)), some (.int (zi (ch at1))), none, none, none, none] [] (zm L I J r) = zX 2 (zCd zT e) zc_X3_step 4 [some (.ref 116), some (.ref 32), some (.int (zi loss)), some (.int (zi (ch at1))), none, none, none, none] [] (zm L I J r) := by
          rw [eX3_step_3, h13, h6, if_pos (show zb1 false = 0 from rfl)]
          by_cases hz : at1 = 0
          · rw [if_pos (show zi at1 = 0 by rw [hz]; rfl)]
          · rw [if_neg (show ¬ zi at1 = 0 by simp (disch := omega) only [zi_lit, zi_eq]; omega), if_neg (fun q => (hq.resolve_left hz) ((hcm _ hch).mp q))]
        rw [h4, eX3_step_4, c1, zbV_s, eX3_step_5]
      · exact hA (fun _ => hq) (fun _ => hdg)
    · rw [if_neg (show ¬ zb1 true = 0 by decide)]
      have hst : zStp h ch cp dg loss (false, at1, pa, ti, tu, tp, td, pul, sl, fs, ft) = (2, (false, at1, pa, ti, tu, tp, td, pul, sl, fs, ft)) := by
        exact zStp_a ⟨rfl, hdg⟩
      rw [hst]
      exact ⟨_, rfl, zRd_4 hs0, zFr3_u, by simp [zu_ap]; rfl⟩
  · subst hfo
    rw [if_neg (show ¬ zb1 true = 0 by decide)]
    exact hA (fun q => by cases q) (fun q => by cases q)
theorem zStp_at {h ch : Nat → Int} {cp : Int → Int} {dg : Nat → Bool} {loss : Int} {s : zS} (ha : s.2.1 + 1 < n) : (zStp h ch cp dg loss s).2.2.1 < n := by
  obtain ⟨fo, at1, pa, ti, tu, tp, td, pul, sl, fs, ft⟩ := s
  have ha2 : at1 + 1 < n := ha
  by_cases q : fo = false ∧ dg at1 = true
  · rw [zStp_a q]
    show at1 < n
    omega
  · by_cases q2 : fo = false ∧ (at1 = 0 ∨ ¬ ch at1 = -1)
    · rw [zStp_b q q2]
      show at1 < n
      omega
    · rw [zStp_c q q2]
      split
      · show at1 < n
        omega
      · show (if fo = true then at1 + 1 else at1 - 1) < n
        split <;> omega
theorem zStp_1 {h ch : Nat → Int} {cp : Int → Int} {dg : Nat → Bool} {loss : Int} {s : zS} : (zStp h ch cp dg loss s).1 = 1 ∨ (zStp h ch cp dg loss s).1 = 2 ∨ (zStp h ch cp dg loss s).1 = 3 := by
  obtain ⟨fo, at1, pa, ti, tu, tp, td, pul, sl, fs, ft⟩ := s
  have k : (if td = true then (1 : Int) else 3) = 1 ∨ (if td = true then (1 : Int) else 3) = 2 ∨ (if td = true then (1 : Int) else 3) = 3 := by
    split
    · exact Or.inl rfl
    · exact Or.inr (Or.inr rfl)
  by_cases q : fo = false ∧ dg at1 = true
  · rw [zStp_a q]
    exact Or.inr (Or.inl rfl)
  · by_cases q2 : fo = false ∧ (at1 = 0 ∨ ¬ ch at1 = -1)
    · rw [zStp_b q q2]
      exact k
    · rw [zStp_c q q2]
      split
      · exact k
      · exact Or.inr (Or.inr rfl)
end
