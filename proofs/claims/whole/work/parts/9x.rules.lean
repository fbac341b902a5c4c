/-! RULES: the model -/
def yStk (I : Nat → Nat → Int32) : List Bool → Prop
  | [] => True
  | x :: st => I 137 st.length = zb1 x ∧ yStk I st
theorem yStk_fr {I I' : Nat → Nat → Int32} : ∀ st : List Bool, (∀ j, j < st.length → I' 137 j = I 137 j) → yStk I st → yStk I' st := by
  intro st
  induction st with
  | nil => exact fun _ _ => trivial
  | cons x st ih =>
    intro h hs
    have hl : (x :: st).length = st.length + 1 := rfl
    exact ⟨by rw [h _ (by omega)]; exact hs.1, ih (fun j hj => h j (by omega)) hs.2⟩
theorem y3p {b : Nat} (h : b < 6) : 1 ≤ 3 ^ b ∧ 3 ^ b ≤ 243 := by
  have key : ∀ b : Fin 6, 1 ≤ 3 ^ b.1 ∧ 3 ^ b.1 ≤ 243 := by decide
  exact key ⟨b, h⟩
section
variable {d L r : Nat} {I : Nat → Nat → Int32} {J : Nat → Nat → Int64}
theorem mPower (hd : 1 ≤ d) {b : Nat} (hb : b < 6) : zCd zT d 291 [.int (zi (b : Int))] (zm L I J r) = some (some (.int (zi ((3 ^ b : Nat) : Int))), (zm L I J r)) := by
  obtain ⟨e, rfl⟩ : ∃ e, d = e + 1 := ⟨d - 1, by omega⟩
  have loop := zFor (n := b) (G := fun k => zX 0 (zCd zT e) zc_X12_power 1 [some (.int (zi (b : Int))), some (.int (zi ((3 ^ k : Nat) : Int))), some (.int (zi ((k : Nat) : Int)))] [] (zm L I J r)) (fun k hk => by
    have k1 : zi ((k : Nat) : Int) + (1 : Int32) = zi ((k + 1 : Nat) : Int) := zi_add _ 1
    have k2 : zi ((3 ^ k : Nat) : Int) * (3 : Int32) = zi ((3 ^ (k + 1) : Nat) : Int) := zi_mul _ 3
    rw [eX12_power_1, if_neg (show ¬ zi (b : Int) ≤ zi ((k : Nat) : Int) by rw [zi_le (by omega) (by omega)]; omega), k1, k2])
  have z0 : zX 0 (zCd zT e) zc_X12_power 1 [some (.int (zi (b : Int))), some (.int 1), some (.int 0)] [] (zm L I J r) = _ := loop
  rw [qX12_power, eX12_power_0, z0, eX12_power_1, if_pos (Int32.le_refl _), eX12_power_2]
theorem mLie (hd : 2 ≤ d) {b s : Nat} (hb : b < 6) (hs : s < 2147483648) : zCd zT d 292 [.int (zi (s : Int)), .int (zi (b : Int))] (zm L I J r) = some (some (.int (zi ((yLi (s / 64) b : Nat) : Int))), (zm L I J r)) := by
  obtain ⟨e, rfl⟩ : ∃ e, d = e + 1 := ⟨d - 1, by omega⟩
  have p := y3p hb
  have d1 : zi (s : Int) / (64 : Int32) = zi ((s / 64 : Nat) : Int) := (zi_div (y := 64) (by omega) (by decide)).trans rfl
  have d2 : zi ((s / 64 : Nat) : Int) / zi ((3 ^ b : Nat) : Int) = zi ((s / 64 / 3 ^ b : Nat) : Int) := (zi_div (by omega) (by omega)).trans rfl
  have hq : s / 64 / 3 ^ b ≤ s / 64 := Nat.div_le_self _ _
  rw [qX12_lieOf, eX12_lieOf_0, mPower (by omega) hb, zbI_s, d1, eX12_lieOf_1, show decide (zi ((3 ^ b : Nat) : Int) ≠ 0) = true by
    rw [decide_eq_true_iff]
    rw [show (0 : Int32) = zi 0 from rfl, ne_eq, zi_eq (by omega) (by decide)]
    omega, zgd_t, d2]
  unfold yLi
  generalize s / 64 / 3 ^ b = w at hq
  have d3 : zi (w : Int) / (3 : Int32) = zi ((w / 3 : Nat) : Int) := (zi_div (y := 3) (by omega) (by decide)).trans rfl
  have d4 : zi ((w / 3 : Nat) : Int) * (3 : Int32) = zi ((w / 3 * 3 : Nat) : Int) := (zi_mul _ 3).trans rfl
  rw [d3, d4, zi_sub, show ((w : Nat) : Int) - ((w / 3 * 3 : Nat) : Int) = ((w % 3 : Nat) : Int) by omega]
theorem mBit {s b : Nat} (hs : s < 2147483648) (hb : b < 6) : (((zi (s : Int) - zi (s : Int) / (64 : Int32) * (64 : Int32)) >>> (zi (b : Int) &&& 31)) &&& (1 : Int32) = 0 ↔ (s % 64).testBit b = false) ∧ (((zi (s : Int) - zi (s : Int) / (64 : Int32) * (64 : Int32)) >>> (zi (b : Int) &&& 31)) &&& (1 : Int32) = 1 ↔ (s % 64).testBit b = true) := by
  have d1 : zi (s : Int) / (64 : Int32) = zi ((s / 64 : Nat) : Int) := (zi_div (y := 64) (by omega) (by decide)).trans rfl
  have d4 : zi ((s / 64 : Nat) : Int) * (64 : Int32) = zi ((s / 64 * 64 : Nat) : Int) := (zi_mul _ 64).trans rfl
  rw [d1, d4, zi_sub, show ((s : Nat) : Int) - ((s / 64 * 64 : Nat) : Int) = ((s % 64 : Nat) : Int) by omega]
  exact ⟨yShrB (by omega) (by omega), yShr1 (by omega) (by omega)⟩
theorem mShow (hd : 3 ≤ d) {b t l : Nat} (hb : b < 6) (ht : t < 64) (hl : l < 729) : zCd zT d 293 [.int (zi ((t + 64 * l : Nat) : Int)), .int (zi (b : Int))] (zm L I J r) = some (some (.int (zb1 ((ySw t l).testBit b))), (zm L I J r)) := by
  obtain ⟨e, rfl⟩ : ∃ e, d = e + 1 := ⟨d - 1, by omega⟩
  have hS := (ySw_b (t := t) (l := l)).2 b hb
  have m := (mBit (s := t + 64 * l) (b := b) (by omega) hb).1
  have e1 : (t + 64 * l) / 64 = l := by omega
  have e2 : (t + 64 * l) % 64 = t := by omega
  rw [e2] at m
  rw [qX12_shows, eX12_shows_0, mLie (by omega) hb (by omega), zbI_s, eX12_shows_1, e1, hS]
  rcases yLi_b (l := l) (b := b) with q | q | q
  · rw [q, if_pos (show zi ((0 : Nat) : Int) = (0 : Int32) from rfl), if_pos rfl]
    cases q2 : t.testBit b
    · rw [if_pos (m.mpr q2), eX12_shows_5]
      rfl
    · rw [if_neg (fun w => by have := m.mp w; rw [q2] at this; cases this), eX12_shows_2, eX12_shows_5]
      rfl
  · rw [q, if_neg (show ¬ zi ((1 : Nat) : Int) = (0 : Int32) by decide), if_neg (by decide), eX12_shows_3, if_pos (show zi ((1 : Nat) : Int) = (1 : Int32) from rfl), eX12_shows_5]
    rfl
  · rw [q, if_neg (show ¬ zi ((2 : Nat) : Int) = (0 : Int32) by decide), if_neg (by decide), eX12_shows_3, if_neg (show ¬ zi ((2 : Nat) : Int) = (1 : Int32) by decide), eX12_shows_4, eX12_shows_5]
    rfl
theorem mHeldL (hd : 4 ≤ d) {k t l N : Nat} (ht : t < 64) (hl : l < 729) (hk : k < 12) {g : Nat → Int32} (hN : N ≤ 250) : ∀ (n i : Nat) (st : List Bool) (I : Nat → Nat → Int32) (w : Bool), I 131 = g → g (106 + k) = zi (N : Int) → i + n = N → zPl g (ySw t l) i n st = some [w] → st.length + n ≤ 259 → yStk I st → ∃ I', zX 3 (zCd zT d) zc_X12_isHeld 1 [some (.ref 130), some (.int (zi (k : Int))), some (.int (zi ((t + 64 * l : Nat) : Int))), some (.int (zi ((st.length : Nat) : Int))), some (.int (zi (i : Int))), none] [] (zm L I J r) = some (some (.int (zb1 w)), (zm L I' J r)) ∧ ∀ o, o ≠ 137 → I' o = I o := by
  intro n
  induction n with
  | zero =>
    intro i st I w hg h6 hi hp _ hs
    have hp1 : some st = some [w] := hp
    cases hp1
    have h0 : I 137 0 = zb1 w := hs.1
    rw [eX12_isHeld_1, show (106 : Int32) + zi (k : Int) = zi ((106 + k : Nat) : Int) from zi_add 106 _, zin_t (by omega) (by omega), zgd_t, zi_cl (by omega), Int.toNat_natCast, hg, h6, if_pos (show zi (N : Int) ≤ zi (i : Int) by rw [zi_le (by omega) (by omega)]; omega), eX12_isHeld_14, h0, zb1_01, zgd_t]
    exact ⟨I, rfl, fun _ _ => rfl⟩
  | succ n ih =>
    intro i st I w hg h6 hi hp hb hs
    have k1 : zi (i : Int) + (1 : Int32) = zi ((i + 1 : Nat) : Int) := zi_add _ 1
    have a2 : (118 : Int32) + (2 : Int32) * zi (i : Int) = zi ((118 + 2 * i : Nat) : Int) := by
      rw [show (2 : Int32) = zi 2 from rfl, show (118 : Int32) = zi 118 from rfl, zi_mul, zi_add]
      rfl
    have a3 : zi ((118 + 2 * i : Nat) : Int) + (1 : Int32) = zi ((119 + 2 * i : Nat) : Int) := by
      rw [show (1 : Int32) = zi 1 from rfl, zi_add]
      exact congrArg zi (by omega)
    rw [zPl] at hp
    have hd1 : zX 3 (zCd zT d) zc_X12_isHeld 1 [some (.ref 130), some (.int (zi (k : Int))), some (.int (zi ((t + 64 * l : Nat) : Int))), some (.int (zi ((st.length : Nat) : Int))), some (.int (zi (i : Int))), none] [] (zm L I J r) = if g (118 + 2 * i) = (12 : Int32) then zgd (zin (zi ((st.length : Nat) : Int) - (1 : Int32)) 260) (if I 137 (zi ((st.length : Nat) : Int) - (1 : Int32)).toNatClampNeg = 0 then zX 3 (zCd zT d) zc_X12_isHeld 3 [some (.ref 130), some (.int (zi (k : Int))), some (.int (zi ((t + 64 * l : Nat) : Int))), some (.int (zi ((st.length : Nat) : Int))), some (.int (zi (i : Int))), some (.int (g (118 + 2 * i)))] [.int 1, .int (zi ((st.length : Nat) : Int) - (1 : Int32)), .ref 137] (zm L I J r) else zX 3 (zCd zT d) zc_X12_isHeld 2 [some (.ref 130), some (.int (zi (k : Int))), some (.int (zi ((t + 64 * l : Nat) : Int))), some (.int (zi ((st.length : Nat) : Int))), some (.int (zi (i : Int))), some (.int (g (118 + 2 * i)))] [.int (zi ((st.length : Nat) : Int) - (1 : Int32)), .ref 137] (zm L I J r)) else zX 3 (zCd zT d) zc_X12_isHeld 4 [some (.ref 130), some (.int (zi (k : Int))), some (.int (zi ((t + 64 * l : Nat) : Int))), some (.int (zi ((st.length : Nat) : Int))), some (.int (zi (i : Int))), some (.int (g (118 + 2 * i)))] [] (zm L I J r) := by
      rw [eX12_isHeld_1, show (106 : Int32) + zi (k : Int) = zi ((106 + k : Nat) : Int) from zi_add 106 _, zin_t (by omega) (by omega), zgd_t, zi_cl (by omega), Int.toNat_natCast, hg, h6, if_neg (show ¬ zi (N : Int) ≤ zi (i : Int) by rw [zi_le (by omega) (by omega)]; omega), a2, zin_t (by omega) (by omega), zgd_t, zi_cl (by omega), Int.toNat_natCast]
    rw [hd1]
    have fin : ∀ (st' : List Bool) (I1 : Nat → Nat → Int32) (c : Int32), zPl g (ySw t l) (i + 1) n st' = some [w] → st'.length + n ≤ 259 → yStk I1 st' → (∀ o, o ≠ 137 → I1 o = I o) → ∃ I', zX 3 (zCd zT d) zc_X12_isHeld 13 [some (.ref 130), some (.int (zi (k : Int))), some (.int (zi ((t + 64 * l : Nat) : Int))), some (.int (zi ((st'.length : Nat) : Int))), some (.int (zi (i : Int))), some (.int c)] [] (zm L I1 J r) = some (some (.int (zb1 w)), (zm L I' J r)) ∧ ∀ o, o ≠ 137 → I' o = I o := by
      intro st' I1 c q1 q2 q3 q4
      obtain ⟨I', r1, r2⟩ := ih (i + 1) st' I1 w (by rw [q4 131 (by decide)]; exact hg) h6 (by omega) q1 q2 q3
      refine ⟨I', ?_, fun o ho => (r2 o ho).trans (q4 o ho)⟩
      rw [eX12_isHeld_13, k1]
      exact r1
    unfold yOp at hp
    by_cases c12 : g (118 + 2 * i) = 12
    · rw [if_pos c12] at hp
      match st, hp, hb, hs with
      | x :: st, hp, hb, hs =>
        have hl1 : (x :: st).length = st.length + 1 := rfl
        have e1 : zi (((x :: st).length : Nat) : Int) - (1 : Int32) = zi ((st.length : Nat) : Int) := (zi_sub _ 1).trans (congrArg zi (by omega))
        have hx : I 137 st.length = zb1 x := hs.1
        have go : ∀ c : Int32, ∃ I', zX 3 (zCd zT d) zc_X12_isHeld 3 [some (.ref 130), some (.int (zi (k : Int))), some (.int (zi ((t + 64 * l : Nat) : Int))), some (.int (zi (((x :: st).length : Nat) : Int))), some (.int (zi (i : Int))), some (.int c)] [.int (zb1 (!x)), .int (zi ((st.length : Nat) : Int)), .ref 137] (zm L I J r) = some (some (.int (zb1 w)), (zm L I' J r)) ∧ ∀ o, o ≠ 137 → I' o = I o := by
          intro c
          rw [eX12_isHeld_3, zin_t (by omega) (by omega), Bool.true_and, zb1_01, zgd_t, zi_cl (by omega), Int.toNat_natCast]
          exact fin ((!x) :: st) _ c hp (by have : ((!x) :: st).length = st.length + 1 := rfl; omega) ⟨by rw [zu_y ⟨rfl, rfl⟩], yStk_fr st (fun j hj => by rw [zu_n (by omega)]) hs.2⟩ (fun o ho => zu_o ho)
        rw [if_pos c12, e1, zin_t (by omega) (by omega), zgd_t, zi_cl (by omega), Int.toNat_natCast, hx]
        cases x
        · rw [if_pos (show zb1 false = 0 from rfl)]
          exact go _
        · rw [if_neg (show ¬ zb1 true = 0 by decide), eX12_isHeld_2]
          exact go _
    · rw [if_neg c12] at hp ⊢
      rw [eX12_isHeld_4]
      by_cases c11 : g (118 + 2 * i) = 11
      · rw [if_pos c11] at hp
        match st, hp, hb, hs with
        | z :: x :: st, hp, hb, hs =>
          have hl1 : (z :: x :: st).length = st.length + 1 + 1 := rfl
          have e1 : zi (((z :: x :: st).length : Nat) : Int) + (-1 : Int32) = zi ((st.length + 1 : Nat) : Int) := by
            rw [hl1]
            rw [show (-1 : Int32) = zi (-1) from rfl, zi_add]
            exact congrArg zi (by omega)
          have e2 : zi ((st.length + 1 : Nat) : Int) - (1 : Int32) = zi ((st.length : Nat) : Int) := (zi_sub _ 1).trans (congrArg zi (by omega))
          have hz : I 137 (st.length + 1) = zb1 z := hs.1
          have hx : I 137 st.length = zb1 x := hs.2.1
          have go : ∀ c : Int32, ∃ I', zX 3 (zCd zT d) zc_X12_isHeld 10 [some (.ref 130), some (.int (zi (k : Int))), some (.int (zi ((t + 64 * l : Nat) : Int))), some (.int (zi ((st.length + 1 : Nat) : Int))), some (.int (zi (i : Int))), some (.int c)] [.int (zb1 (x && z)), .int (zi ((st.length : Nat) : Int)), .ref 137] (zm L I J r) = some (some (.int (zb1 w)), (zm L I' J r)) ∧ ∀ o, o ≠ 137 → I' o = I o := by
            intro c
            rw [eX12_isHeld_10, zin_t (by omega) (by omega), Bool.true_and, zb1_01, zgd_t, zi_cl (by omega), Int.toNat_natCast]
            exact fin ((x && z) :: st) _ c hp (by have : ((x && z) :: st).length = st.length + 1 := rfl; omega) ⟨by rw [zu_y ⟨rfl, rfl⟩], yStk_fr st (fun j hj => by rw [zu_n (by omega)]) hs.2.2⟩ (fun o ho => zu_o ho)
          rw [if_pos c11, eX12_isHeld_5, if_pos c11, e1, e2, zin_t (by omega) (by omega), zgd_t, zin_t (by omega) (by omega), zgd_t, zi_cl (by omega), zi_cl (by omega), Int.toNat_natCast, Int.toNat_natCast, hx, hz]
          cases x
          · rw [if_pos (show zb1 false = 0 from rfl), eX12_isHeld_6]
            exact go _
          · rw [if_neg (show ¬ zb1 true = 0 by decide)]
            cases z
            · rw [if_pos (show zb1 false = 0 from rfl), eX12_isHeld_6]
              exact go _
            · rw [if_neg (show ¬ zb1 true = 0 by decide)]
              exact go _
      · rw [if_neg c11] at hp
        by_cases c10 : g (118 + 2 * i) = 10
        · rw [if_pos c10] at hp
          match st, hp, hb, hs with
          | z :: x :: st, hp, hb, hs =>
            have hl1 : (z :: x :: st).length = st.length + 1 + 1 := rfl
            have e1 : zi (((z :: x :: st).length : Nat) : Int) + (-1 : Int32) = zi ((st.length + 1 : Nat) : Int) := by
              rw [hl1]
              rw [show (-1 : Int32) = zi (-1) from rfl, zi_add]
              exact congrArg zi (by omega)
            have e2 : zi ((st.length + 1 : Nat) : Int) - (1 : Int32) = zi ((st.length : Nat) : Int) := (zi_sub _ 1).trans (congrArg zi (by omega))
            have hz : I 137 (st.length + 1) = zb1 z := hs.1
            have hx : I 137 st.length = zb1 x := hs.2.1
            have go : ∀ c : Int32, ∃ I', zX 3 (zCd zT d) zc_X12_isHeld 10 [some (.ref 130), some (.int (zi (k : Int))), some (.int (zi ((t + 64 * l : Nat) : Int))), some (.int (zi ((st.length + 1 : Nat) : Int))), some (.int (zi (i : Int))), some (.int c)] [.int (zb1 (x || z)), .int (zi ((st.length : Nat) : Int)), .ref 137] (zm L I J r) = some (some (.int (zb1 w)), (zm L I' J r)) ∧ ∀ o, o ≠ 137 → I' o = I o := by
              intro c
              rw [eX12_isHeld_10, zin_t (by omega) (by omega), Bool.true_and, zb1_01, zgd_t, zi_cl (by omega), Int.toNat_natCast]
              exact fin ((x || z) :: st) _ c hp (by have : ((x || z) :: st).length = st.length + 1 := rfl; omega) ⟨by rw [zu_y ⟨rfl, rfl⟩], yStk_fr st (fun j hj => by rw [zu_n (by omega)]) hs.2.2⟩ (fun o ho => zu_o ho)
            rw [if_neg c11, if_pos c10, eX12_isHeld_5, if_neg c11, e1, e2, eX12_isHeld_7, e2, zin_t (by omega) (by omega), zgd_t, zin_t (by omega) (by omega), zgd_t, zi_cl (by omega), zi_cl (by omega), Int.toNat_natCast, Int.toNat_natCast, hx, hz]
            cases x
            · rw [if_pos (show zb1 false = 0 from rfl)]
              cases z
              · rw [if_pos (show zb1 false = 0 from rfl), eX12_isHeld_9]
                exact go _
              · rw [if_neg (show ¬ zb1 true = 0 by decide), eX12_isHeld_8]
                exact go _
            · rw [if_neg (show ¬ zb1 true = 0 by decide), eX12_isHeld_8]
              exact go _
        · rw [if_neg c10] at hp
          by_cases c13 : g (118 + 2 * i) = 13 ∧ 0 ≤ g (119 + 2 * i) ∧ g (119 + 2 * i) ≤ 5
          · rw [if_pos c13] at hp
            obtain ⟨v, hv, bv⟩ := zi_of (g (119 + 2 * i))
            have v1 := c13.2
            rw [hv, show (0 : Int32) = zi 0 from rfl, show (5 : Int32) = zi 5 from rfl, zi_le (by decide) bv, zi_le bv (by decide)] at v1
            obtain ⟨v, rfl⟩ : ∃ m : Nat, v = m := ⟨v.toNat, by omega⟩
            rw [hv, zi_cl (by omega), Int.toNat_natCast] at hp
            have e1 : zi ((st.length : Nat) : Int) + (1 : Int32) = zi ((((ySw t l).testBit v :: st).length : Nat) : Int) := zi_add _ 1
            rw [if_neg c11, if_neg c10, eX12_isHeld_11, a2, a3, zin_t (by omega) (by omega), zgd_t, zi_cl (by omega), Int.toNat_natCast, hg, hv, mShow (by omega) (by omega) ht hl, zbI_s, eX12_isHeld_12, zin_t (by omega) (by omega), Bool.true_and, zb1_01, zgd_t, zi_cl (by omega), Int.toNat_natCast, e1]
            exact fin ((ySw t l).testBit v :: st) _ _ hp (by have : ((ySw t l).testBit v :: st).length = st.length + 1 := rfl; omega) ⟨by rw [zu_y ⟨rfl, rfl⟩], yStk_fr st (fun j hj => by rw [zu_n (by omega)]) hs⟩ (fun o ho => zu_o ho)
          · rw [if_neg c13] at hp
            cases hp
end
