/-! CREW: the class's smallest -/
theorem yIfc {P Q : Prop} [Decidable P] [Decidable Q] {a b : Int} (h : P ↔ Q) : (if P then a else b) = if Q then a else b := by
  by_cases p : P
  · rw [if_pos p, if_pos (h.mp p)]
  · rw [if_neg p, if_neg (fun q => p (h.mpr q))]
section
variable {d L r : Nat} {I : Nat → Nat → Int32} {J : Nat → Nat → Int64}
variable {t : zDy}
theorem cCrew (hd : 6 ≤ d) (hT : zTI I J t) (hn : 0 < t.n) {b : yTb} {n m c : Nat} (hb : cTb 53 7 I b) (hw : wTb n m c 7 b) {h : Int} (bh : -2147483648 ≤ h ∧ h < 2147483648) : zCd zT d 203 [.ref 16, .int (zi h)] (zm L I J r) = some (some (.int (zi (yCw b (yDu b h b.1) (2 ^ (t.m + 1) - 1) (2 ^ b.1)))), (zm L I J r)) := by
  obtain ⟨e, rfl⟩ : ∃ e, d = e + 1 := ⟨d - 1, by omega⟩
  have w := yW7 hw
  have db := yDu_b (b := b) (h := h) b.1
  have hp : 2 ^ b.1 ≤ 2 ^ 8 := Nat.pow_le_pow_right (by decide) w.1
  rw [yCw_x (2 ^ b.1) (by omega)]
  have cd := cDuty (d := e) (L := L) (J := J) (r := r) (by omega) hb hw bh
  have ckk : ∀ s : Nat, s < 1024 → _ := fun s hs => cKeys (d := e) (L := L) (r := r) (by omega) hT hn hb hw (s := s) hs
  generalize yDu b h b.1 = D at cd db ⊢
  generalize 2 ^ (t.m + 1) - 1 = K at ckk ⊢
  have c1 := zFor (n := D + 1) (G := fun s => zX 0 (zCd zT e) zc_X11_smallestCrew 2 [some (.ref 16), some (.int (zi h)), some (.int (zi (D : Int))), some (.int (zi (yCw b D K s))), some (.int (zi ((s : Nat) : Int))), none] [] (zm L I J r)) (fun s hs => by
    have k1 : zi ((s : Nat) : Int) + (1 : Int32) = zi ((s + 1 : Nat) : Int) := zi_add _ 1
    have pb := yCw_b (b := b) (D := D) (K := K) s
    have ck := ckk s (by omega)
    have pl : yPc s 10 ≤ 10 := yPc_le 10
    have ab : s &&& D ≤ D := Nat.and_le_right
    rw [yCw]
    generalize yCw b D K s = p at pb ⊢
    have d4 : zi ((s &&& D : Nat) : Int) = zi ((s : Nat) : Int) ↔ s &&& D = s := by
      rw [zi_eq (by omega) (by omega)]
      omega
    have d1 : zi p = (-1 : Int32) ↔ p = -1 := zi_m1 (by omega)
    have fin : ∀ fl : Int32, zX 0 (zCd zT e) zc_X11_smallestCrew 7 [some (.ref 16), some (.int (zi h)), some (.int (zi (D : Int))), some (.int (zi p)), some (.int (zi ((s : Nat) : Int))), none] [.int fl] (zm L I J r) = zX 0 (zCd zT e) zc_X11_smallestCrew 2 [some (.ref 16), some (.int (zi h)), some (.int (zi (D : Int))), some (.int (zi (if s &&& D = s ∧ yUn b 0 s b.1 &&& K = K ∧ ¬ fl = 0 then (s : Int) else p))), some (.int (zi ((s + 1 : Nat) : Int))), none] [] (zm L I J r) := by
      intro fl
      rw [eX11_smallestCrew_7, yAnd (by omega) (by omega)]
      by_cases a : s &&& D = s
      · rw [if_pos (d4.mpr a)]
        by_cases f : fl = 0
        · rw [if_pos f, eX11_smallestCrew_9, k1, if_neg (fun w => w.2.2 f)]
        · rw [if_neg f, ck, zbI_s, eX11_smallestCrew_8]
          by_cases q : yUn b 0 s b.1 &&& K = K
          · rw [decide_eq_true q, if_neg (show ¬ zb1 true = 0 by decide), eX11_smallestCrew_9, k1, if_pos (⟨a, q, f⟩ : s &&& D = s ∧ yUn b 0 s b.1 &&& K = K ∧ ¬ fl = 0)]
          · rw [decide_eq_false q, if_pos (show zb1 false = 0 by decide), eX11_smallestCrew_9, k1, if_neg (fun w => q w.2.1)]
      · rw [if_neg (fun w => a (d4.mp w)), eX11_smallestCrew_9, k1, if_neg (fun w => a w.1)]
    rw [eX11_smallestCrew_2, if_neg (show ¬ zi (D : Int) < zi ((s : Nat) : Int) by rw [zi_lt (by omega) (by omega)]; omega)]
    by_cases q1 : p = -1
    · rw [if_pos (d1.mpr q1), eX11_smallestCrew_5, fin 1, yIfc (P := s &&& D = s ∧ yUn b 0 s b.1 &&& K = K ∧ ¬ (1 : Int32) = 0) (Q := s &&& D = s ∧ yUn b 0 s b.1 &&& K = K ∧ (p = -1 ∨ yPc s 10 < yPc p.toNat 10)) ⟨fun w => ⟨w.1, w.2.1, Or.inl q1⟩, fun w => ⟨w.1, w.2.1, by decide⟩⟩]
    · have e1 : zi p = zi ((p.toNat : Nat) : Int) := congrArg zi (by omega)
      have pc1 : yPc p.toNat 10 ≤ 10 := yPc_le 10
      have e2 : yBc (zi p) = zi ((yPc p.toNat 10 : Nat) : Int) := by rw [e1, yBc_p (by omega)]
      have d5 : zi ((yPc p.toNat 10 : Nat) : Int) ≤ zi ((yPc s 10 : Nat) : Int) ↔ yPc p.toNat 10 ≤ yPc s 10 := by
        rw [zi_le (by omega) (by omega)]
        omega
      rw [if_neg (fun w => q1 (d1.mp w)), cBc (by omega), zbI_s, eX11_smallestCrew_3, cBc (by omega), zbI_s, eX11_smallestCrew_4, e2, yBc_p (s := s) (by omega)]
      by_cases q4 : yPc p.toNat 10 ≤ yPc s 10
      · rw [if_pos (d5.mpr q4), eX11_smallestCrew_6, fin 0, yIfc (P := s &&& D = s ∧ yUn b 0 s b.1 &&& K = K ∧ ¬ (0 : Int32) = 0) (Q := s &&& D = s ∧ yUn b 0 s b.1 &&& K = K ∧ (p = -1 ∨ yPc s 10 < yPc p.toNat 10)) ⟨fun w => absurd rfl w.2.2, fun w => by rcases w.2.2 with w | w <;> omega⟩]
      · rw [if_neg (fun w => q4 (d5.mp w)), eX11_smallestCrew_5, fin 1, yIfc (P := s &&& D = s ∧ yUn b 0 s b.1 &&& K = K ∧ ¬ (1 : Int32) = 0) (Q := s &&& D = s ∧ yUn b 0 s b.1 &&& K = K ∧ (p = -1 ∨ yPc s 10 < yPc p.toNat 10)) ⟨fun w => ⟨w.1, w.2.1, Or.inr (by omega)⟩, fun w => ⟨w.1, w.2.1, by decide⟩⟩])
  have z0 : zX 0 (zCd zT e) zc_X11_smallestCrew 2 [some (.ref 16), some (.int (zi h)), some (.int (zi (D : Int))), some (.int (-1)), some (.int 0), none] [] (zm L I J r) = _ := c1
  rw [qX11_smallestCrew, eX11_smallestCrew_0, cd, zbI_s, eX11_smallestCrew_1, z0, eX11_smallestCrew_2, if_pos (show zi (D : Int) < zi ((D + 1 : Nat) : Int) by rw [zi_lt (by omega) (by omega)]; omega), eX11_smallestCrew_10]
end
