/-! ROWS OF EVENTS: the class opens a state -/
def yCx (I : Nat → Nat → Int32) (J : Nat → Nat → Int64) (nb : Nat) (u : yRl) : Prop := I 121 5 = zi (nb : Int) ∧ cRl 0 I J u ∧ nb ≤ 6
theorem yCx_f {I I' : Nat → Nat → Int32} {J J' : Nat → Nat → Int64} {nb : Nat} {u : yRl} (h : yCx I J nb u) (f : cQf I I' J J') : yCx I' J' nb u := ⟨(f.2.1 5 (by decide)).trans h.1, cRl_fr (f.1 37 (by decide) (by decide) (by decide)) (f.2.2 38 (by decide)) h.2.1, h.2.2⟩
theorem yLcB {l : Nat} (h : l < 729) : yBc (zi ((yFr l + 64 * yFl l : Nat) : Int)) = zi ((yLc l : Nat) : Int) := by
  have key : ∀ l : Fin 729, yBc (zi ((yFr l.1 + 64 * yFl l.1 : Nat) : Int)) = zi ((yLc l.1 : Nat) : Int) := by decide +kernel
  exact key ⟨l, h⟩
section
variable {d L r : Nat} {I : Nat → Nat → Int32} {J : Nat → Nat → Int64}
variable {p : Nat} {Q : yBq} {u : yRl} {nb k t l : Nat}
theorem cLvs (hd : 4 ≤ d) (hc : yCx I J nb u) (h : cQ I J Q) (hq : yBw p Q) (hk : k < Q.1) (e1 : Q.2.1 k = t) (e2 : Q.2.2.1 k = l) : ∃ I' J', zCd zT d 52 [.ref 121, .int (zi (k : Int))] (zm L I J 37) = some (none, zm L I' J' 37) ∧ cQ I' J' (yLvs u nb t l k Q nb) ∧ cQf I I' J J' := by
  obtain ⟨e, rfl⟩ : ∃ e, d = e + 1 := ⟨d - 1, by omega⟩
  have hn := yBw_n hq
  have hk' := hq.1 k hk
  have h123 := (h.2.1 k hk).1
  rw [e1, e2] at hk' h123
  have ht := hk'.1
  have hl := hk'.2.2.1
  have eb := yEn_b (l := l) ht
  have hnb := hc.2.2
  obtain ⟨m, c1, c2, c3⟩ := zForI (n := nb) (M := (Nat → Nat → Int32) × (Nat → Nat → Int64)) (G := fun b m => zX 2 (zCd zT e) zc_X6_meetLeaving 1 [some (.ref 121), some (.int (zi (k : Int))), some (.int (zi ((yEn t l : Nat) : Int))), some (.int (zi ((b : Nat) : Int))), none] [] (zm L m.1 m.2 37)) (P := fun b m => cQ m.1 m.2 (yLvs u nb t l k Q b) ∧ cQf I m.1 J m.2) (fun b m hb hm => by
    have k1 : zi ((b : Nat) : Int) + (1 : Int32) = zi ((b + 1 : Nat) : Int) := zi_add _ 1
    have hcm := yCx_f hc hm.2
    have nx := yNx_b hb
    have w0 := yLvs_w (u := u) hq hk hnb e1 e2 b (by omega)
    have w1 := (yLvs_w (u := u) hq hk hnb e1 e2 (b + 1) (by omega)).1
    rw [yLvs] at w1 ⊢
    rw [eX6_meetLeaving_1, hcm.1, if_neg (show ¬ zi (nb : Int) ≤ zi ((b : Nat) : Int) by rw [zi_le (by omega) (by omega)]; omega), cNxt (by omega) hb hnb hcm.1, zbI_s, eX6_meetLeaving_2, cIn (by omega) (by omega) (by omega), zbI_s, eb.2.2.2.1 _ (show yNx nb b < 6 by omega), eX6_meetLeaving_3]
    cases q1 : t.testBit (yNx nb b)
    · rw [if_pos (show zb1 false = 0 from rfl), cMay (by omega) hcm.2.1 hb hnb hcm.1 ht, zbI_s, eX6_meetLeaving_4]
      rw [q1] at w1
      cases q2 : t.testBit b
      · rw [Bool.false_and, if_pos (show zb1 false = 0 from rfl), eX6_meetLeaving_5, k1, if_neg (fun w => by cases w.1)]
        exact ⟨m, rfl, hm⟩
      · cases q3 : yMa u nb (ySw t l) b
        · rw [Bool.and_false, if_pos (show zb1 false = 0 from rfl), eX6_meetLeaving_5, k1, if_neg (fun w => by cases w.2.1)]
          exact ⟨m, rfl, hm⟩
        · rw [q2, q3, if_pos ⟨rfl, rfl, rfl⟩] at w1
          have mv := yMv ht (b := b) (x := yNx nb b) (by omega) (by omega) q2 q1
          have p1 : 2 ^ b ≤ 2 ^ 6 := Nat.pow_le_pow_right (by decide) (by omega)
          have p10 := Nat.two_pow_pos b
          have p20 := Nat.two_pow_pos (yNx nb b)
          have p2 : 2 ^ yNx nb b ≤ 2 ^ 6 := Nat.pow_le_pow_right (by decide) (by omega)
          have x2 := yX2 ((eb.2.2.2.1 b (by omega)).trans q2)
          have hne : yNx nb b ≠ b := fun w => by rw [w, q2] at q1; cases q1
          have o2 := yO2 ((x2.2.2.2 (yNx nb b) hne).trans ((eb.2.2.2.1 _ (show yNx nb b < 6 by omega)).trans q1))
          have est : (zi ((yEn t l : Nat) : Int) &&& (((1 : Int32) <<< (zi ((b : Nat) : Int) &&& 31)) ^^^ (-1 : Int32))) ||| ((1 : Int32) <<< (zi ((yNx nb b : Nat) : Int) &&& 31)) = zi ((yEn (t - 2 ^ b + 2 ^ yNx nb b) l : Nat) : Int) := by
            rw [yShl (by omega), yShl (by omega), yAnN (by omega) (by omega), x2.1, yOr (by omega) (by omega), o2]
            refine congrArg zi ?_
            unfold yEn
            omega
          obtain ⟨I2, J2, r1, r2, r3⟩ := cMeet (d := e) (L := L) (r := 37) (by omega) hm.1 w0.1 mv.1 hl (f := (k : Int)) (v := (b : Int)) (v' := (b : Int)) w1 (by omega) (by omega) (Or.inr rfl)
          rw [Bool.true_and, if_neg (show ¬ zb1 true = 0 by decide), est, r1, zbV_s, eX6_meetLeaving_5, k1, if_pos ⟨rfl, rfl, rfl⟩]
          exact ⟨(I2, J2), rfl, r2, cQf_t hm.2 r3⟩
    · rw [if_neg (show ¬ zb1 true = 0 by decide), eX6_meetLeaving_5, k1, if_neg (fun w => by cases w.2.2)]
      exact ⟨m, rfl, hm⟩) (I, J) ⟨h, cQf_r⟩
  have z0 : zX 2 (zCd zT e) zc_X6_meetLeaving 1 [some (.ref 121), some (.int (zi (k : Int))), some (.int (zi ((yEn t l : Nat) : Int))), some (.int 0), none] [] (zm L I J 37) = _ := c1
  refine ⟨m.1, m.2, ?_, c2, c3⟩
  rw [qX6_meetLeaving, eX6_meetLeaving_0, zin_t (by omega) (by omega), zgd_t, zi_cl (by omega), Int.toNat_natCast, h123, z0, eX6_meetLeaving_1, (yCx_f hc c3).1, if_pos (Int32.le_refl _), eX6_meetLeaving_6]
theorem yEn_1 (ht : t < 64) (hl : l < 729) {b : Nat} (hb : b < 6) (h0 : yLi l b = 0) : zi ((yEn t l : Nat) : Int) ||| ((1 : Int32) <<< (((6 : Int32) + zi (b : Int)) &&& 31)) = zi ((yEn t (l + 3 ^ b * 1) : Nat) : Int) ∧ zi ((yEn t l : Nat) : Int) ||| ((1 : Int32) <<< (((12 : Int32) + zi (b : Int)) &&& 31)) = zi ((yEn t (l + 3 ^ b * 2) : Nat) : Int) := by
  have eb := yEn_b (l := l) ht
  have l1 := yLl1 hl hb h0
  have l2 := yLl2 hl hb h0
  have bb := eb.2.2.2.2.2.2 b hb
  have t1 : (yEn t l).testBit (6 + b) = false := by
    rw [← Nat.testBit_shiftRight, bb.1, h0]
    rfl
  have t2 : (yEn t l).testBit (12 + b) = false := by
    rw [← Nat.testBit_shiftRight, bb.2, h0]
    rfl
  have f1 := (yBset_b (f := fun b => decide (yLi l b = 1)) 6).2 b
  have f2 := (yBset_b (f := fun b => decide (yLi l b = 2)) 6).2 b
  have g1 : (yFr l).testBit b = false := by
    unfold yFr
    rw [f1, h0]
    cases decide (b < 6) <;> rfl
  have g2 : (yFl l).testBit b = false := by
    unfold yFl
    rw [f2, h0]
    cases decide (b < 6) <;> rfl
  have p1 : 2 ^ (6 + b) = 64 * 2 ^ b := Nat.pow_add 2 6 b
  have p2 : 2 ^ (12 + b) = 4096 * 2 ^ b := Nat.pow_add 2 12 b
  have p3 : 2 ^ b ≤ 2 ^ 5 := Nat.pow_le_pow_right (by decide) (by omega)
  have a1 : (6 : Int32) + zi (b : Int) = zi ((6 + b : Nat) : Int) := zi_add 6 _
  have a2 : (12 : Int32) + zi (b : Int) = zi ((12 + b : Nat) : Int) := zi_add 12 _
  rw [a1, a2, yShl (by omega), yShl (by omega), yOr (by omega) (by omega), yOr (by omega) (by omega), yO2 t1, yO2 t2]
  refine ⟨congrArg zi ?_, congrArg zi ?_⟩
  · unfold yEn
    rw [l1.2.2.1, l1.2.2.2.1, yO2 g1]
    omega
  · unfold yEn
    rw [l2.2.2.1, l2.2.2.2.1, yO2 g2]
    omega
theorem cLieS (hd : 4 ≤ d) (hc : yCx I J nb u) (h : cQ I J Q) (hq : yBw p Q) (hk : k < Q.1) (e1 : Q.2.1 k = t) (e2 : Q.2.2.1 k = l) {lies : Nat} (hli : I 121 6 = zi (lies : Int)) (h3 : lies ≤ 3) : ∃ I' J', zCd zT d 53 [.ref 121, .int (zi (k : Int))] (zm L I J 37) = some (none, zm L I' J' 37) ∧ cQ I' J' (if yLc l < lies then yLie t l k 2 (yLie t l k 1 Q nb) nb else Q) ∧ cQf I I' J J' := by
  obtain ⟨e, rfl⟩ : ∃ e, d = e + 1 := ⟨d - 1, by omega⟩
  have hn := yBw_n hq
  have hk' := hq.1 k hk
  have h123 := (h.2.1 k hk).1
  rw [e1, e2] at hk' h123
  have ht := hk'.1
  have hl := hk'.2.2.1
  have hlc := hk'.2.2.2.1
  have eb := yEn_b (l := l) ht
  have hnb := hc.2.2
  have e6 : zus (zi ((yEn t l : Nat) : Int)) (6 : Int32) = zi ((yFr l + 64 * yFl l : Nat) : Int) := by
    rw [show (6 : Int32) = zi ((6 : Nat) : Int) from rfl, yZus (by omega) (by decide), eb.2.2.2.2.1]
  have e12 : zus (zi ((yEn t l : Nat) : Int)) (12 : Int32) = zi ((yFl l : Nat) : Int) := by
    rw [show (12 : Int32) = zi ((12 : Nat) : Int) from rfl, yZus (by omega) (by decide), eb.2.2.2.2.2.1]
  have d0 : zi ((yLc l : Nat) : Int) < zi (lies : Int) ↔ yLc l < lies := by
    rw [zi_lt (by omega) (by omega)]
    omega
  rw [qX6_meetLies, eX6_meetLies_0, zin_t (by omega) (by omega), zgd_t, zi_cl (by omega), Int.toNat_natCast, h123, e6, cBc (by omega), zbI_s, yLcB hl, eX6_meetLies_1, hli]
  by_cases q : yLc l < lies
  · rw [if_pos (d0.mpr q), if_pos q, eX6_meetLies_2, e6, e12, yOr (by omega) (by omega)]
    have hly : ∀ b : Nat, b < 6 → (zus (zi ((yFr l + 64 * yFl l ||| yFl l : Nat) : Int)) (zi (b : Int)) &&& (1 : Int32) = 0 ↔ yLi l b = 0) := by
      intro b hb
      have ho : yFr l + 64 * yFl l ||| yFl l < 2 ^ 12 := Nat.or_lt_two_pow (n := 12) (by omega) (by omega)
      have bb := eb.2.2.2.2.2.2 b hb
      rw [eb.2.2.2.2.1, eb.2.2.2.2.2.1] at bb
      rw [yZusB (by omega) (by omega), Nat.testBit_or, bb.1, bb.2]
      rcases yLi_b (l := l) (b := b) with w | w | w <;> rw [w] <;> decide
    obtain ⟨m, c1, c2, c3⟩ := zForI (n := nb) (M := (Nat → Nat → Int32) × (Nat → Nat → Int64)) (G := fun b m => zX 2 (zCd zT e) zc_X6_meetLies 3 [some (.ref 121), some (.int (zi (k : Int))), some (.int (zi ((yEn t l : Nat) : Int))), some (.int (zi ((yFr l + 64 * yFl l ||| yFl l : Nat) : Int))), some (.int (zi ((b : Nat) : Int)))] [] (zm L m.1 m.2 37)) (P := fun b m => cQ m.1 m.2 (yLie t l k 1 Q b) ∧ cQf I m.1 J m.2) (fun b m hb hm => by
      have k1 : zi ((b : Nat) : Int) + (1 : Int32) = zi ((b + 1 : Nat) : Int) := zi_add _ 1
      have hcm := yCx_f hc hm.2
      have w0 := yLie_w (e := 1) (Or.inl rfl) hq hk ht hk'.2.1 hl (show yLc l < 3 by omega) b (by omega)
      have w1 := (yLie_w (e := 1) (Or.inl rfl) hq hk ht hk'.2.1 hl (show yLc l < 3 by omega) (b + 1) (by omega)).1
      rw [yLie] at w1 ⊢
      rw [eX6_meetLies_3, hcm.1, if_neg (show ¬ zi (nb : Int) ≤ zi ((b : Nat) : Int) by rw [zi_le (by omega) (by omega)]; omega)]
      by_cases q1 : yLi l b = 0
      · rw [if_pos q1] at w1
        have l1 := yLl1 hl (show b < 6 by omega) q1
        have a10 : (10 : Int32) + zi ((b : Nat) : Int) = zi ((10 * 1 + b : Nat) : Int) := zi_add 10 _
        obtain ⟨I2, J2, r1, r2, r3⟩ := cMeet (d := e) (L := L) (r := 37) (by omega) hm.1 w0.1 ht l1.1 (f := (k : Int)) (v := ((10 * 1 + b : Nat) : Int)) (v' := ((10 * 1 + b : Nat) : Int)) w1 (by omega) (by omega) (Or.inr rfl)
        rw [if_pos ((hly b (by omega)).mpr q1), (yEn_1 ht hl (show b < 6 by omega) q1).1, a10, r1, zbV_s, eX6_meetLies_4, k1, if_pos q1]
        exact ⟨(I2, J2), rfl, r2, cQf_t hm.2 r3⟩
      · rw [if_neg (fun w => q1 ((hly b (by omega)).mp w)), eX6_meetLies_4, k1, if_neg q1]
        exact ⟨m, rfl, hm⟩) (I, J) ⟨h, cQf_r⟩
    have z0 : zX 2 (zCd zT e) zc_X6_meetLies 3 [some (.ref 121), some (.int (zi (k : Int))), some (.int (zi ((yEn t l : Nat) : Int))), some (.int (zi ((yFr l + 64 * yFl l ||| yFl l : Nat) : Int))), some (.int 0)] [] (zm L I J 37) = _ := c1
    have wq := yLie_w (e := 1) (Or.inl rfl) hq hk ht hk'.2.1 hl (show yLc l < 3 by omega) nb hnb
    have hk2 : k < (yLie t l k 1 Q nb).1 := by
      have := wq.2.1
      omega
    obtain ⟨m2, c4, c5, c6⟩ := zForI (n := nb) (M := (Nat → Nat → Int32) × (Nat → Nat → Int64)) (G := fun b m => zX 2 (zCd zT e) zc_X6_meetLies 6 [some (.ref 121), some (.int (zi (k : Int))), some (.int (zi ((yEn t l : Nat) : Int))), some (.int (zi ((yFr l + 64 * yFl l ||| yFl l : Nat) : Int))), some (.int (zi ((b : Nat) : Int)))] [] (zm L m.1 m.2 37)) (P := fun b m => cQ m.1 m.2 (yLie t l k 2 (yLie t l k 1 Q nb) b) ∧ cQf I m.1 J m.2) (fun b m hb hm => by
      have k1 : zi ((b : Nat) : Int) + (1 : Int32) = zi ((b + 1 : Nat) : Int) := zi_add _ 1
      have hcm := yCx_f hc hm.2
      have w0 := yLie_w (e := 2) (Or.inr rfl) wq.1 hk2 ht hk'.2.1 hl (show yLc l < 3 by omega) b (by omega)
      have w1 := (yLie_w (e := 2) (Or.inr rfl) wq.1 hk2 ht hk'.2.1 hl (show yLc l < 3 by omega) (b + 1) (by omega)).1
      rw [yLie] at w1 ⊢
      rw [eX6_meetLies_6, hcm.1, if_neg (show ¬ zi (nb : Int) ≤ zi ((b : Nat) : Int) by rw [zi_le (by omega) (by omega)]; omega)]
      by_cases q1 : yLi l b = 0
      · rw [if_pos q1] at w1
        have l1 := yLl2 hl (show b < 6 by omega) q1
        have a10 : (20 : Int32) + zi ((b : Nat) : Int) = zi ((10 * 2 + b : Nat) : Int) := zi_add 20 _
        obtain ⟨I2, J2, r1, r2, r3⟩ := cMeet (d := e) (L := L) (r := 37) (by omega) hm.1 w0.1 ht l1.1 (f := (k : Int)) (v := ((10 * 2 + b : Nat) : Int)) (v' := ((10 * 2 + b : Nat) : Int)) w1 (by omega) (by omega) (Or.inr rfl)
        rw [if_pos ((hly b (by omega)).mpr q1), (yEn_1 ht hl (show b < 6 by omega) q1).2, a10, r1, zbV_s, eX6_meetLies_7, k1, if_pos q1]
        exact ⟨(I2, J2), rfl, r2, cQf_t hm.2 r3⟩
      · rw [if_neg (fun w => q1 ((hly b (by omega)).mp w)), eX6_meetLies_7, k1, if_neg q1]
        exact ⟨m, rfl, hm⟩) m ⟨c2, c3⟩
    have z1 : zX 2 (zCd zT e) zc_X6_meetLies 6 [some (.ref 121), some (.int (zi (k : Int))), some (.int (zi ((yEn t l : Nat) : Int))), some (.int (zi ((yFr l + 64 * yFl l ||| yFl l : Nat) : Int))), some (.int 0)] [] (zm L m.1 m.2 37) = _ := c4
    refine ⟨m2.1, m2.2, ?_, c5, c6⟩
    rw [z0, eX6_meetLies_3, (yCx_f hc c3).1, if_pos (Int32.le_refl _), eX6_meetLies_5, z1, eX6_meetLies_6, (yCx_f hc c6).1, if_pos (Int32.le_refl _), eX6_meetLies_8]
  · rw [if_neg (fun w => q (d0.mp w)), if_neg q]
    exact ⟨I, J, rfl, h, cQf_r⟩
def yStB (u : yRl) (nb t l b : Nat) : Bool := t.testBit b && yMa u nb (ySw t l) b
def yCrB (u : yRl) (nb t l b : Nat) : Bool := t.testBit (yNx nb b) && (t.testBit b && yMa u nb (ySw t l) b)
theorem cStand (hd : 4 ≤ d) (hc : yCx I J nb u) (ht : t < 64) : zCd zT d 51 [.ref 121, .int (zi ((yEn t l : Nat) : Int))] (zm L I J 37) = some (some (.int (zb1 (!decide (zFs (yStB u nb t l) nb < nb)))), zm L I J 37) := by
  obtain ⟨e, rfl⟩ : ∃ e, d = e + 1 := ⟨d - 1, by omega⟩
  have hnb := hc.2.2
  have loop := zForT (n := nb) (stop := yStB u nb t l) (G := fun b => zX 3 (zCd zT e) zc_X6_stands 1 [some (.ref 121), some (.int (zi ((yEn t l : Nat) : Int))), some (.int (zi ((b : Nat) : Int)))] [] (zm L I J 37)) (E := fun _ => some (some (.int 0), zm L I J 37)) (fun b hb => by
    have k1 : zi ((b : Nat) : Int) + (1 : Int32) = zi ((b + 1 : Nat) : Int) := zi_add _ 1
    rw [eX6_stands_1, hc.1, if_neg (show ¬ zi (nb : Int) ≤ zi ((b : Nat) : Int) by rw [zi_le (by omega) (by omega)]; omega), cMay (by omega) hc.2.1 hb hnb hc.1 ht, zbI_s, eX6_stands_2]
    unfold yStB
    cases t.testBit b && yMa u nb (ySw t l) b
    · rw [if_pos (show zb1 false = 0 from rfl), eX6_stands_3, k1, if_neg (by decide)]
    · rw [if_neg (show ¬ zb1 true = 0 by decide), if_pos rfl])
  have z0 : zX 3 (zCd zT e) zc_X6_stands 1 [some (.ref 121), some (.int (zi ((yEn t l : Nat) : Int))), some (.int 0)] [] (zm L I J 37) = _ := loop
  rw [qX6_stands, eX6_stands_0, z0]
  by_cases q : zFs (yStB u nb t l) nb < nb
  · rw [if_pos q, decide_eq_true q]
    rfl
  · rw [if_neg q, decide_eq_false q, eX6_stands_1, hc.1, if_pos (Int32.le_refl _), eX6_stands_4]
    rfl
theorem cCrash (hd : 4 ≤ d) (hc : yCx I J nb u) (ht : t < 64) : zCd zT d 50 [.ref 121, .int (zi ((yEn t l : Nat) : Int))] (zm L I J 37) = some (some (.int (zb1 (decide (zFs (yCrB u nb t l) nb < nb)))), zm L (if zFs (yCrB u nb t l) nb < nb then zu I 121 8 (zi ((zFs (yCrB u nb t l) nb : Nat) : Int)) else I) J 37) := by
  obtain ⟨e, rfl⟩ : ∃ e, d = e + 1 := ⟨d - 1, by omega⟩
  have hnb := hc.2.2
  have eb := yEn_b (l := l) ht
  have loop := zForT (n := nb) (stop := yCrB u nb t l) (G := fun b => zX 3 (zCd zT e) zc_X6_crashesNext 1 [some (.ref 121), some (.int (zi ((yEn t l : Nat) : Int))), some (.int (zi ((b : Nat) : Int)))] [] (zm L I J 37)) (E := fun b => some (some (.int 1), zm L (zu I 121 8 (zi ((b : Nat) : Int))) J 37)) (fun b hb => by
    have k1 : zi ((b : Nat) : Int) + (1 : Int32) = zi ((b + 1 : Nat) : Int) := zi_add _ 1
    have nx := yNx_b hb
    rw [eX6_crashesNext_1, hc.1, if_neg (show ¬ zi (nb : Int) ≤ zi ((b : Nat) : Int) by rw [zi_le (by omega) (by omega)]; omega), cNxt (by omega) hb hnb hc.1, zbI_s, eX6_crashesNext_2, cIn (by omega) (by omega) (by omega), zbI_s, eb.2.2.2.1 _ (show yNx nb b < 6 by omega), eX6_crashesNext_3]
    unfold yCrB
    cases t.testBit (yNx nb b)
    · rw [if_pos (show zb1 false = 0 from rfl), eX6_crashesNext_5, k1, Bool.false_and, if_neg (by decide)]
    · rw [if_neg (show ¬ zb1 true = 0 by decide), cMay (by omega) hc.2.1 hb hnb hc.1 ht, zbI_s, eX6_crashesNext_4, Bool.true_and]
      cases t.testBit b && yMa u nb (ySw t l) b
      · rw [if_pos (show zb1 false = 0 from rfl), eX6_crashesNext_5, k1, if_neg (by decide)]
      · rw [if_neg (show ¬ zb1 true = 0 by decide), if_pos rfl])
  have z0 : zX 3 (zCd zT e) zc_X6_crashesNext 1 [some (.ref 121), some (.int (zi ((yEn t l : Nat) : Int))), some (.int 0)] [] (zm L I J 37) = _ := loop
  rw [qX6_crashesNext, eX6_crashesNext_0, z0]
  by_cases q : zFs (yCrB u nb t l) nb < nb
  · rw [if_pos q, decide_eq_true q, if_pos q]
    rfl
  · rw [if_neg q, decide_eq_false q, if_neg q, eX6_crashesNext_1, hc.1, if_pos (Int32.le_refl _), eX6_crashesNext_6]
    rfl
end
