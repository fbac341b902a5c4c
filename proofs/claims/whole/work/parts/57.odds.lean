/-! ODDS -/
def zIsO (t : zDy) (w wi co : Int) : Bool := decide ((zRu t (zLss t w wi co) 0 t.push).1 = 0)
def zO1 (t : zDy) (w calm co : Int) : Nat → Nat
  | 0 => 0
  | k + 1 => zO1 t w calm co k + (if zIsO t w (calm + k) co = true then 0 else 1)
def zO2 (t : zDy) (fr calm co : Int) (m : Nat) : Nat → Nat
  | 0 => 0
  | k + 1 => zO2 t fr calm co m k + zO1 t (fr + k) calm co m
theorem zO1_b {t : zDy} {w calm co : Int} : ∀ k, zO1 t w calm co k ≤ k := by
  intro k
  induction k with
  | zero => exact Nat.le_refl 0
  | succ k ih =>
    rw [zO1]
    split <;> omega
theorem zO2_b {t : zDy} {fr calm co : Int} {m : Nat} (hm : m ≤ 100) : ∀ k, zO2 t fr calm co m k ≤ 100 * k := by
  intro k
  induction k with
  | zero => exact Nat.le_refl 0
  | succ k ih =>
    rw [zO2]
    have := zO1_b (t := t) (w := fr + k) (calm := calm) (co := co) m
    omega
/-- what is wrong with ODDS' question -/
def zOdB (a b c e f : Int) : Bool := zbo a 1 20 || zbo b 1 20 || decide (b < a) || (zbo c 0 99 || zbo e 0 99 || decide (e < c)) || zbo f 0 99
def zOdV (t : zDy) (a b c e f : Int) : Int := if zRf false (zOdB a b c e f) t.n = 0 then zO2 t a c f (e - c + 1).toNat (b - a + 1).toNat else zRf false (zOdB a b c e f) t.n
section
variable {d L r : Nat} {I : Nat → Nat → Int32} {J : Nat → Nat → Int64}
variable {t : zDy}
theorem cOdds (hd : 10 ≤ d) (h : zTI I J t) (hc : zCa I t) {a b c e f : Int} (ba : -2147483648 ≤ a ∧ a < 2147483648) (bb : -2147483648 ≤ b ∧ b < 2147483648) (bc : -2147483648 ≤ c ∧ c < 2147483648) (be : -2147483648 ≤ e ∧ e < 2147483648) (bf : -2147483648 ≤ f ∧ f < 2147483648) : ∃ I', zCd zT d 149 [.ref 16, .int (zi a), .int (zi b), .int (zi c), .int (zi e), .int (zi f)] (zm L I J r) = some (some (.int (zi (zOdV t a b c e f))), zm L I' J r) ∧ zSm I I' ∧ zCa I' t := by
  obtain ⟨g, rfl⟩ : ∃ g, d = g + 1 := ⟨d - 1, by omega⟩
  have x1 : zi a ≤ zi b ↔ a ≤ b := zi_le ba bb
  have x2 : zi c ≤ zi e ↔ c ≤ e := zi_le bc be
  have hb1 : zX 0 (zCd zT g) zc_X11_odds 0 [some (.ref 16), some (.int (zi a)), some (.int (zi b)), some (.int (zi c)), some (.int (zi e)), some (.int (zi f)), none, none, none, none, none, none] [] (zm L I J r) = zX 0 (zCd zT g) zc_X11_odds 5 [some (.ref 16), some (.int (zi a)), some (.int (zi b)), some (.int (zi c)), some (.int (zi e)), some (.int (zi f)), none, none, none, none, none, none] [.int (zb1 (zbo a 1 20 || zbo b 1 20 || decide (b < a)))] (zm L I J r) := by
    rw [eX11_odds_0, cBadW (by omega) ba, zbI_s, eX11_odds_1, cBadW (by omega) bb, zbI_s, eX11_odds_2, eX11_odds_3, eX11_odds_4]
    simp only [x1]
    cases zbo a 1 20 <;> cases zbo b 1 20 <;> by_cases q : a ≤ b
    all_goals simp only [q, show (b < a) ↔ ¬ a ≤ b from Int.not_le.symm, zb1_t, zb1_f, if_true, if_false, z10I, Bool.or_true, Bool.true_or, Bool.or_false, Bool.false_or, not_true_eq_false, not_false_eq_true, decide_true, decide_false]
  have hb2 : ∀ k : Int32, zX 0 (zCd zT g) zc_X11_odds 5 [some (.ref 16), some (.int (zi a)), some (.int (zi b)), some (.int (zi c)), some (.int (zi e)), some (.int (zi f)), none, none, none, none, none, none] [.int k] (zm L I J r) = zX 0 (zCd zT g) zc_X11_odds 10 [some (.ref 16), some (.int (zi a)), some (.int (zi b)), some (.int (zi c)), some (.int (zi e)), some (.int (zi f)), some (.int k), none, none, none, none, none] [.int (zb1 (zbo c 0 99 || zbo e 0 99 || decide (e < c)))] (zm L I J r) := by
    intro k
    have k2 : zCd zT g 225 [.int (zi c), .int 0, .int 99] (zm L I J r) = _ := cOut (lo := 0) (hi := 99) (by omega) bc (by decide) (by decide)
    have k3 : zCd zT g 225 [.int (zi e), .int 0, .int 99] (zm L I J r) = _ := cOut (lo := 0) (hi := 99) (by omega) be (by decide) (by decide)
    rw [eX11_odds_5, k2, zbI_s, eX11_odds_6, k3, zbI_s, eX11_odds_7, eX11_odds_8, eX11_odds_9]
    simp only [x2]
    cases zbo c 0 99 <;> cases zbo e 0 99 <;> by_cases q : c ≤ e
    all_goals simp only [q, show (e < c) ↔ ¬ c ≤ e from Int.not_le.symm, zb1_t, zb1_f, if_true, if_false, z10I, Bool.or_true, Bool.true_or, Bool.or_false, Bool.false_or, not_true_eq_false, not_false_eq_true, decide_true, decide_false]
  have hb3 : ∀ k l : Bool, zX 0 (zCd zT g) zc_X11_odds 10 [some (.ref 16), some (.int (zi a)), some (.int (zi b)), some (.int (zi c)), some (.int (zi e)), some (.int (zi f)), some (.int (zb1 k)), none, none, none, none, none] [.int (zb1 l)] (zm L I J r) = zX 0 (zCd zT g) zc_X11_odds 14 [some (.ref 16), some (.int (zi a)), some (.int (zi b)), some (.int (zi c)), some (.int (zi e)), some (.int (zi f)), some (.int (zb1 k)), some (.int (zb1 l)), none, none, none, none] [.int (zb1 (k || l || zbo f 0 99)), .int 0, .ref 16] (zm L I J r) := by
    intro k l
    have k2 : zCd zT g 225 [.int (zi f), .int 0, .int 99] (zm L I J r) = _ := cOut (lo := 0) (hi := 99) (by omega) bf (by decide) (by decide)
    rw [eX11_odds_10, k2, zbI_s, eX11_odds_11, eX11_odds_12, eX11_odds_13]
    cases k <;> cases l <;> cases zbo f 0 99
    all_goals rfl
  have hr : zCd zT g 219 [.ref 16, .int 0, .int (zb1 (zOdB a b c e f))] (zm L I J r) = _ := cRef (by omega) h false (zOdB a b c e f)
  have hb4 : (zbo a 1 20 || zbo b 1 20 || decide (b < a) || (zbo c 0 99 || zbo e 0 99 || decide (e < c)) || zbo f 0 99) = zOdB a b c e f := rfl
  rw [qX11_odds, hb1, hb2, hb3, hb4, eX11_odds_14, hr, zbI_s, eX11_odds_15]
  unfold zOdV
  by_cases q : zRf false (zOdB a b c e f) t.n = 0
  · rw [if_pos (zRf_i.mpr q), if_pos q, eX11_odds_16]
    obtain ⟨q1, q2, q3⟩ := zRf_0.mp q
    unfold zOdB at q2
    simp only [Bool.or_eq_false_iff, decide_eq_false_iff_not] at q2
    obtain ⟨⟨⟨⟨p1, p2⟩, p3⟩, ⟨p4, p5⟩, p6⟩, p7⟩ := q2
    have p1 := zbo_f p1
    have p2 := zbo_f p2
    have p4 := zbo_f p4
    have p5 := zbo_f p5
    have p7 := zbo_f p7
    obtain ⟨m, hm⟩ : ∃ m : Nat, e - c + 1 = m := ⟨(e - c + 1).toNat, by omega⟩
    obtain ⟨n, hn⟩ : ∃ n : Nat, b - a + 1 = n := ⟨(b - a + 1).toNat, by omega⟩
    rw [hm, hn, Int.toNat_natCast, Int.toNat_natCast]
    have inner : ∀ (l6 l7 l8 : Int32) (w acc : Int), 1 ≤ w → w ≤ 20 → ∀ I1, (zTI I1 J t ∧ zSm I I1 ∧ zCa I1 t) → ∃ I2, zX 0 (zCd zT g) zc_X11_odds 18 [some (.ref 16), some (.int (zi a)), some (.int (zi b)), some (.int (zi c)), some (.int (zi e)), some (.int (zi f)), some (.int l6), some (.int l7), some (.int l8), some (.int (zi (acc + ((zO1 t w c f 0 : Nat) : Int)))), some (.int (zi w)), some (.int (zi (c + ((0 : Nat) : Int))))] [] (zm L I1 J r) = zX 0 (zCd zT g) zc_X11_odds 18 [some (.ref 16), some (.int (zi a)), some (.int (zi b)), some (.int (zi c)), some (.int (zi e)), some (.int (zi f)), some (.int l6), some (.int l7), some (.int l8), some (.int (zi (acc + ((zO1 t w c f m : Nat) : Int)))), some (.int (zi w)), some (.int (zi (c + (m : Int))))] [] (zm L I2 J r) ∧ (zTI I2 J t ∧ zSm I I2 ∧ zCa I2 t) := by
      intro l6 l7 l8 w acc w1 w2
      refine zForM (G := fun i I1 => zX 0 (zCd zT g) zc_X11_odds 18 [some (.ref 16), some (.int (zi a)), some (.int (zi b)), some (.int (zi c)), some (.int (zi e)), some (.int (zi f)), some (.int l6), some (.int l7), some (.int l8), some (.int (zi (acc + ((zO1 t w c f i : Nat) : Int)))), some (.int (zi w)), some (.int (zi (c + (i : Int))))] [] (zm L I1 J r)) (P := fun I1 => zTI I1 J t ∧ zSm I I1 ∧ zCa I1 t) (fun i I1 hi hP => ?_)
      obtain ⟨I2, c1, c2, c3⟩ := cIsOut (d := g) (L := L) (r := r) (by omega) hP.1 hP.2.2 q3 ⟨w1, w2⟩ (wi := c + (i : Int)) (by omega) p7
      refine ⟨I2, ?_, zTI_fr c2 hP.1, zSm_tr hP.2.1 c2, c3⟩
      show zX 0 (zCd zT g) zc_X11_odds 18 _ _ _ = zX 0 (zCd zT g) zc_X11_odds 18 _ _ _
      rw [eX11_odds_18, if_neg (show ¬ zi e < zi (c + (i : Int)) by rw [zi_lt be (by omega)]; omega), c1, zbI_s, eX11_odds_19, eX11_odds_20, eX11_odds_20, zO1]
      have i1 : zi (c + (i : Int)) + 1 = zi (c + ((i + 1 : Nat) : Int)) := by
        rw [show (1 : Int32) = zi 1 from rfl, zi_add]
        exact congrArg zi (by omega)
      have i2 : zi (acc + ((zO1 t w c f i : Nat) : Int)) + 1 = zi (acc + ((zO1 t w c f i + 1 : Nat) : Int)) := by
        rw [show (1 : Int32) = zi 1 from rfl, zi_add]
        exact congrArg zi (by omega)
      rw [i1, i2]
      unfold zIsO
      cases decide ((zRu t (zLss t w (c + (i : Int)) f) 0 t.push).1 = 0)
      · rfl
      · rfl
    have outer : ∀ (l6 l7 l8 : Int32), ∃ I2, zX 0 (zCd zT g) zc_X11_odds 17 [some (.ref 16), some (.int (zi a)), some (.int (zi b)), some (.int (zi c)), some (.int (zi e)), some (.int (zi f)), some (.int l6), some (.int l7), some (.int l8), some (.int (zi ((zO2 t a c f m 0 : Nat) : Int))), some (.int (zi (a + ((0 : Nat) : Int)))), none] [] (zm L I J r) = zX 0 (zCd zT g) zc_X11_odds 17 [some (.ref 16), some (.int (zi a)), some (.int (zi b)), some (.int (zi c)), some (.int (zi e)), some (.int (zi f)), some (.int l6), some (.int l7), some (.int l8), some (.int (zi ((zO2 t a c f m n : Nat) : Int))), some (.int (zi (a + (n : Int)))), none] [] (zm L I2 J r) ∧ (zTI I2 J t ∧ zSm I I2 ∧ zCa I2 t) := by
      intro l6 l7 l8
      refine zForM (G := fun i I1 => zX 0 (zCd zT g) zc_X11_odds 17 [some (.ref 16), some (.int (zi a)), some (.int (zi b)), some (.int (zi c)), some (.int (zi e)), some (.int (zi f)), some (.int l6), some (.int l7), some (.int l8), some (.int (zi ((zO2 t a c f m i : Nat) : Int))), some (.int (zi (a + (i : Int)))), none] [] (zm L I1 J r)) (P := fun I1 => zTI I1 J t ∧ zSm I I1 ∧ zCa I1 t) (fun i I1 hi hP => ?_) I ⟨h, zSm_rf, hc⟩
      obtain ⟨I2, c1, c2⟩ := inner l6 l7 l8 (a + (i : Int)) ((zO2 t a c f m i : Nat) : Int) (by omega) (by omega) I1 hP
      refine ⟨I2, ?_, c2⟩
      show zX 0 (zCd zT g) zc_X11_odds 17 _ _ _ = zX 0 (zCd zT g) zc_X11_odds 17 _ _ _
      have z0 : zi c = zi (c + ((0 : Nat) : Int)) := congrArg zi (by omega)
      have z1 : zi ((zO2 t a c f m i : Nat) : Int) = zi (((zO2 t a c f m i : Nat) : Int) + ((zO1 t (a + (i : Int)) c f 0 : Nat) : Int)) := congrArg zi (by rw [zO1]; omega)
      have i1 : zi (a + (i : Int)) + 1 = zi (a + ((i + 1 : Nat) : Int)) := by
        rw [show (1 : Int32) = zi 1 from rfl, zi_add]
        exact congrArg zi (by omega)
      have z2 : zi (((zO2 t a c f m i : Nat) : Int) + ((zO1 t (a + (i : Int)) c f m : Nat) : Int)) = zi ((zO2 t a c f m (i + 1) : Nat) : Int) := congrArg zi (by rw [zO2]; omega)
      rw [← z0, ← z1] at c1
      rw [eX11_odds_17, if_neg (show ¬ zi b < zi (a + (i : Int)) by rw [zi_lt bb (by omega)]; omega), c1, eX11_odds_18, if_pos (show zi e < zi (c + (m : Int)) by rw [zi_lt be (by omega)]; omega), eX11_odds_21, i1, z2]
    obtain ⟨I2, c1, c2⟩ := outer (zb1 (zbo a 1 20 || zbo b 1 20 || decide (b < a))) (zb1 (zbo c 0 99 || zbo e 0 99 || decide (e < c))) (zi (zRf false (zOdB a b c e f) t.n))
    have z0 : zi a = zi (a + ((0 : Nat) : Int)) := congrArg zi (by omega)
    have z1 : (0 : Int32) = zi ((zO2 t a c f m 0 : Nat) : Int) := rfl
    rw [← z0, ← z1] at c1
    rw [c1, eX11_odds_17, if_pos (show zi b < zi (a + (n : Int)) by rw [zi_lt bb (by omega)]; omega), eX11_odds_22]
    exact ⟨I2, rfl, c2.2⟩
  · rw [if_neg (fun x => q (zRf_i.mp x)), if_neg q]
    exact ⟨I, rfl, zSm_rf, hc⟩
end
