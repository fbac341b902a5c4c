/-! CROSS and CLEAR: near ones -/
def yTin (s : zS) : Prop := 0 ≤ s.2.2.2.1 ∧ ∀ p, ¬ zfSp s p = -1 → 0 ≤ zfTi s p ∧ zfTi s p ≤ s.2.2.2.1
theorem yStp_ti {h ch : Nat → Int} {cp : Int → Int} {dg : Nat → Bool} {loss : Int} {s : zS} (hs : yTin s) : yTin (zStp h ch cp dg loss s).2 := by
  obtain ⟨fo, at1, pa, ti, tu, tp, td, pul, sl, fs, ft⟩ := s
  have h0 : 0 ≤ ti := hs.1
  have h1 : ∀ p, ¬ fs p = -1 → 0 ≤ ft p ∧ ft p ≤ ti := hs.2
  by_cases q : fo = false ∧ dg at1 = true
  · rw [zStp_a q]
    exact ⟨h0, h1⟩
  · by_cases q2 : fo = false ∧ (at1 = 0 ∨ ¬ ch at1 = -1)
    · rw [zStp_b q q2]
      exact ⟨h0, h1⟩
    · rw [zStp_c q q2]
      split
      · exact ⟨h0, h1⟩
      · rename_i w
        generalize zNxt h ch cp loss fo at1 pa = x at w
        have e1 : 0 ≤ 40 / (4 + (if 999 < x then 999 else x)) := Int.ediv_nonneg (by omega) (by split <;> omega)
        refine ⟨?_, fun p => ?_⟩
        · show 0 ≤ ti + (1 + 40 / (4 + (if 999 < x then 999 else x)))
          omega
        · show ¬ (if p = (if fo = true then at1 + 1 else at1 - 1) ∧ fs (if fo = true then at1 + 1 else at1 - 1) = -1 then (if 999 < x then 999 else x) else fs p) = -1 → 0 ≤ (if p = (if fo = true then at1 + 1 else at1 - 1) ∧ fs (if fo = true then at1 + 1 else at1 - 1) = -1 then ti + (1 + 40 / (4 + (if 999 < x then 999 else x))) else ft p) ∧ (if p = (if fo = true then at1 + 1 else at1 - 1) ∧ fs (if fo = true then at1 + 1 else at1 - 1) = -1 then ti + (1 + 40 / (4 + (if 999 < x then 999 else x))) else ft p) ≤ ti + (1 + 40 / (4 + (if 999 < x then 999 else x)))
          by_cases e : p = (if fo = true then at1 + 1 else at1 - 1) ∧ fs (if fo = true then at1 + 1 else at1 - 1) = -1
          · rw [if_pos e, if_pos e]
            intro _
            omega
          · rw [if_neg e, if_neg e]
            intro hp
            have := h1 p hp
            omega
theorem yRn_ti {n : Nat} {h ch : Nat → Int} {cp : Int → Int} {dg : Nat → Bool} {loss : Int} : ∀ (k : Nat) (s : zS), yTin s → yTin (zRn n h ch cp dg loss k s).2 := by
  intro k
  induction k with
  | zero => intro s hs; exact hs
  | succ k ih =>
    intro s hs
    by_cases q : n ≤ s.2.1 + 1
    · rw [show zRn n h ch cp dg loss (k + 1) s = (0, s) from if_pos q]
      exact hs
    · have h1 := yStp_ti (h := h) (ch := ch) (cp := cp) (dg := dg) (loss := loss) hs
      by_cases q3 : (zStp h ch cp dg loss s).1 = 3
      · rw [show zRn n h ch cp dg loss (k + 1) s = zRn n h ch cp dg loss k (zStp h ch cp dg loss s).2 from (if_neg q).trans (if_pos q3)]
        exact ih _ h1
      · rw [show zRn n h ch cp dg loss (k + 1) s = zStp h ch cp dg loss s from (if_neg q).trans (if_neg q3)]
        exact h1
theorem yTi_b {t : zDy} {loss v : Int} {p : Nat} (hp : ¬ zfSp (zRu t loss 0 v).2 p = -1) : 0 ≤ zfTi (zRu t loss 0 v).2 p ∧ zfTi (zRu t loss 0 v).2 p ≤ 3300 := by
  have hcp : ∀ c, 0 ≤ (t.cp fun _ => 0) c := by
    intro c
    unfold zDy.cp
    split <;> omega
  have h := zRn_t (n := t.n) (h := t.h) (ch := t.ch) (dg := t.dg) (loss := loss) hcp 300 (zS0 0 v) (by show (0 : Int) ≤ 0; decide)
  have g := yRn_ti (n := t.n) (h := t.h) (ch := t.ch) (cp := t.cp fun _ => 0) (dg := t.dg) (loss := loss) 300 (zS0 0 v) ⟨Int.le_refl 0, fun p hp => by
    have hp1 : ¬ (if p = 0 ∧ (-1 : Int) = -1 then v else -1) = -1 := hp
    have e0 : p = 0 ∧ (-1 : Int) = -1 := by
      by_cases w : p = 0 ∧ (-1 : Int) = -1
      · exact w
      · exact absurd (if_neg w) hp1
    show 0 ≤ (if p = 0 ∧ (-1 : Int) = -1 then (0 : Int) else -1) ∧ (if p = 0 ∧ (-1 : Int) = -1 then (0 : Int) else -1) ≤ 0
    rw [if_pos e0]
    decide⟩
  have g2 := g.2 p hp
  have h2 : (zRn t.n t.h t.ch (t.cp fun _ => 0) t.dg loss 300 (zS0 0 v)).2.2.2.2.1 ≤ 0 + 11 * ((300 : Nat) : Int) := h.2
  exact ⟨g2.1, Int.le_trans g2.2 h2⟩
/-- near one of the others -/
def yNear (x a b c : Int) : Bool := decide (if x ≤ a then a - x ≤ c else ((x - a) % b ≤ c ∨ b - (x - a) % b ≤ c))
theorem yNr_q {x a b c : Int} (hb : 1 ≤ b) (hc : 0 ≤ c) : (∃ k : Nat, x - c ≤ a + k * b ∧ a + k * b ≤ x + c) ↔ yNear x a b c = true := by
  have hk : ∀ k : Nat, 0 ≤ (k : Int) * b := fun k => Int.mul_nonneg (by omega) (by omega)
  unfold yNear
  rw [decide_eq_true_eq]
  by_cases q : x ≤ a
  · rw [if_pos q]
    constructor
    · intro ⟨k, k1, k2⟩
      have := hk k
      omega
    · intro h
      refine ⟨0, ?_⟩
      rw [show ((0 : Nat) : Int) * b = 0 from Int.zero_mul b]
      omega
  · rw [if_neg q]
    have m0 := Int.emod_nonneg (x - a) (show b ≠ 0 by omega)
    have m1 := Int.emod_lt_of_pos (x - a) (show 0 < b by omega)
    have m2 := Int.mul_ediv_add_emod (x - a) b
    have m3 : 0 ≤ (x - a) / b := Int.ediv_nonneg (by omega) (by omega)
    generalize (x - a) % b = r at m0 m1 m2 ⊢
    generalize (x - a) / b = u at m2 m3
    have mc : b * u = u * b := Int.mul_comm b u
    constructor
    · intro ⟨k, k1, k2⟩
      by_cases w : (k : Int) ≤ u
      · have z : (k : Int) * b ≤ u * b := Int.mul_le_mul_of_nonneg_right w (by omega)
        omega
      · have z : (u + 1) * b ≤ (k : Int) * b := Int.mul_le_mul_of_nonneg_right (by omega) (by omega)
        have z2 : (u + 1) * b = u * b + b := by rw [Int.add_mul, Int.one_mul]
        omega
    · intro h
      rcases h with h | h
      · refine ⟨u.toNat, ?_⟩
        rw [show ((u.toNat : Nat) : Int) = u by omega]
        omega
      · refine ⟨(u + 1).toNat, ?_⟩
        have z2 : (u + 1) * b = u * b + b := by rw [Int.add_mul, Int.one_mul]
        rw [show (((u + 1).toNat : Nat) : Int) = u + 1 by omega]
        omega
def yNC (x bt a b c : Int) : Nat → Nat
  | 0 => 0
  | k + 1 => yNC x bt a b c k + (if yNear (x + k * bt) a b c = true then 1 else 0)
theorem yNC_le {x bt a b c : Int} : ∀ k, yNC x bt a b c k ≤ k := by
  intro k
  induction k with
  | zero => exact Nat.le_refl 0
  | succ k ih =>
    rw [yNC]
    split <;> omega
section
variable {d L r : Nat} {I : Nat → Nat → Int32} {J : Nat → Nat → Int64}
theorem cNear (hd : 1 ≤ d) {x a b c : Int} (hx : 0 ≤ x ∧ x ≤ 20000) (ha : 0 ≤ a ∧ a ≤ 999) (hb : 1 ≤ b ∧ b ≤ 999) (hc : 0 ≤ c ∧ c ≤ 99) : zCd zT d 186 [.ref 16, .int (zi x), .int (zi a), .int (zi b), .int (zi c)] (zm L I J r) = some (some (.int (zb1 (yNear x a b c))), (zm L I J r)) := by
  obtain ⟨e, rfl⟩ : ∃ e, d = e + 1 := ⟨d - 1, by omega⟩
  rw [qX11_isNear, eX11_isNear_0]
  unfold yNear
  by_cases q : x ≤ a
  · have k1 : zi a - zi x = zi (a - x) := zi_sub _ _
    rw [if_neg (show ¬ zi a < zi x by rw [zi_lt (by omega) (by omega)]; omega), k1]
    simp only [if_pos q]
    by_cases q2 : a - x ≤ c
    · rw [if_neg (show ¬ zi c < zi (a - x) by rw [zi_lt (by omega) (by omega)]; omega), eX11_isNear_2, decide_eq_true q2]
      rfl
    · rw [if_pos (show zi c < zi (a - x) by rw [zi_lt (by omega) (by omega)]; omega), eX11_isNear_1, eX11_isNear_2, decide_eq_false q2]
      rfl
  · simp only [if_neg q]
    have m0 := Int.emod_nonneg (x - a) (show b ≠ 0 by omega)
    have m1 := Int.emod_lt_of_pos (x - a) (show 0 < b by omega)
    have m2 := Int.mul_ediv_add_emod (x - a) b
    have mc : b * ((x - a) / b) = (x - a) / b * b := Int.mul_comm _ _
    have k1 : zi x - zi a = zi (x - a) := zi_sub _ _
    have k2 : zi (x - a) - zi (x - a) / zi b * zi b = zi ((x - a) % b) := by
      rw [zi_div (by omega) (by omega), zi_mul, zi_sub]
      exact congrArg zi (by omega)
    have k3 : zi b - zi ((x - a) % b) = zi (b - (x - a) % b) := zi_sub _ _
    rw [if_pos (show zi a < zi x by rw [zi_lt (by omega) (by omega)]; omega), eX11_isNear_3, if_pos (show (1 : Int32) ≤ zi b by rw [show (1 : Int32) = zi 1 from rfl, zi_le (by decide) (by omega)]; omega), eX11_isNear_4, k1, k2, k3, decide_eq_true (show zi b ≠ 0 by rw [show (0 : Int32) = zi 0 from rfl, Ne, zi_eq (by omega) (by decide)]; omega), zgd_t]
    generalize (x - a) % b = r at m0 m1
    by_cases q1 : r ≤ c
    · rw [if_pos (show zi r ≤ zi c by rw [zi_le (by omega) (by omega)]; exact q1), eX11_isNear_5, eX11_isNear_7, decide_eq_true (Or.inl q1)]
      rfl
    · rw [if_neg (show ¬ zi r ≤ zi c by rw [zi_le (by omega) (by omega)]; exact q1)]
      by_cases q2 : b - r ≤ c
      · rw [if_neg (show ¬ zi c < zi (b - r) by rw [zi_lt (by omega) (by omega)]; omega), eX11_isNear_5, eX11_isNear_7, decide_eq_true (Or.inr q2)]
        rfl
      · rw [if_pos (show zi c < zi (b - r) by rw [zi_lt (by omega) (by omega)]; omega), eX11_isNear_6, eX11_isNear_7, decide_eq_false (fun w => by rcases w with w | w <;> omega)]
        rfl
theorem mNear (hd : 1 ≤ d) {x a b c : Int} (hx : 0 ≤ x ∧ x ≤ 20000) (ha : 0 ≤ a ∧ a ≤ 999) (hb : 1 ≤ b ∧ b ≤ 999) (hc : 0 ≤ c ∧ c ≤ 99) : zCd zT d 335 [.int (zi x), .int (zi a), .int (zi b), .int (zi c)] (zm L I J r) = some (some (.int (zb1 (yNear x a b c))), (zm L I J r)) := by
  obtain ⟨e, rfl⟩ : ∃ e, d = e + 1 := ⟨d - 1, by omega⟩
  have k1 : zi x + zi c = zi (x + c) := zi_add _ _
  have k2 : zi x - zi c = zi (x - c) := zi_sub _ _
  have key : ∀ (f : Nat) (T : Int), 0 ≤ T → T ≤ 40000 → (x + c - T + 1).toNat ≤ f → ∃ B : Bool, ((∃ k : Nat, x - c ≤ T + k * b ∧ T + k * b ≤ x + c) ↔ B = true) ∧ zX 3 (zCd zT e) zc_X12_isNear 1 [some (.int (zi x)), some (.int (zi a)), some (.int (zi b)), some (.int (zi c)), some (.int (zi T))] [] (zm L I J r) = some (some (.int (zb1 B)), (zm L I J r)) := by
    intro f
    induction f with
    | zero =>
      intro T h0 h1 hf
      refine ⟨false, ⟨fun ⟨k, k1, k2⟩ => ?_, fun w => by cases w⟩, ?_⟩
      · have hk : 0 ≤ (k : Int) * b := Int.mul_nonneg (by omega) (by omega)
        omega
      · rw [eX12_isNear_1, k1, if_pos (show zi (x + c) < zi T by rw [zi_lt (by omega) (by omega)]; omega), eX12_isNear_3]
        rfl
    | succ f ih =>
      intro T h0 h1 hf
      by_cases q : x + c < T
      · refine ⟨false, ⟨fun ⟨k, k1, k2⟩ => ?_, fun w => by cases w⟩, ?_⟩
        · have hk : 0 ≤ (k : Int) * b := Int.mul_nonneg (by omega) (by omega)
          omega
        · rw [eX12_isNear_1, k1, if_pos (show zi (x + c) < zi T by rw [zi_lt (by omega) (by omega)]; omega), eX12_isNear_3]
          rfl
      · by_cases q2 : x - c ≤ T
        · refine ⟨true, ⟨fun _ => rfl, fun _ => ⟨0, ?_⟩⟩, ?_⟩
          · rw [show ((0 : Nat) : Int) * b = 0 from Int.zero_mul b]
            omega
          · rw [eX12_isNear_1, k1, if_neg (show ¬ zi (x + c) < zi T by rw [zi_lt (by omega) (by omega)]; omega), k2, if_neg (show ¬ zi T < zi (x - c) by rw [zi_lt (by omega) (by omega)]; omega)]
            rfl
        · obtain ⟨B, b1, b2⟩ := ih (T + b) (by omega) (by omega) (by omega)
          refine ⟨B, ?_, ?_⟩
          · rw [← b1]
            constructor
            · intro ⟨k, k1, k2⟩
              match k with
              | 0 =>
                rw [show ((0 : Nat) : Int) * b = 0 from Int.zero_mul b] at k1
                omega
              | k + 1 =>
                have z : ((k + 1 : Nat) : Int) * b = k * b + b := by rw [show ((k + 1 : Nat) : Int) = (k : Int) + 1 from rfl, Int.add_mul, Int.one_mul]
                exact ⟨k, by omega, by omega⟩
            · intro ⟨k, k1, k2⟩
              have z : ((k + 1 : Nat) : Int) * b = k * b + b := by rw [show ((k + 1 : Nat) : Int) = (k : Int) + 1 from rfl, Int.add_mul, Int.one_mul]
              exact ⟨k + 1, by omega, by omega⟩
          · have k3 : zi T + zi b = zi (T + b) := zi_add _ _
            rw [eX12_isNear_1, k1, if_neg (show ¬ zi (x + c) < zi T by rw [zi_lt (by omega) (by omega)]; omega), k2, if_pos (show zi T < zi (x - c) by rw [zi_lt (by omega) (by omega)]; omega), eX12_isNear_2, k3]
            exact b2
  obtain ⟨B, b1, b2⟩ := key _ a (by omega) (by omega) (Nat.le_refl _)
  have e2 : B = yNear x a b c := by
    rw [Bool.eq_iff_iff]
    exact b1.symm.trans (yNr_q hb.1 hc.1)
  rw [qX12_isNear, eX12_isNear_0, b2, e2]
end
