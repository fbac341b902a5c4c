def zFeU (m best v : Int32) : Int32 := if v = -100000 then best else if best = -100000 then v else if (if m = 0 then v < best else best < v) then v else best
/-- the most or least FELT among the first k POINTS behind the beginning -/
def zFeS (t : zDy) (s : zS) (seat : Nat) (m : Int32) : Nat → Int32
  | 0 => -100000
  | k + 1 => zFeU m (zFeS t s seat m k) (zFl t s (k + 1) seat)
def zFeV (t : zDy) (w seat : Int) (m : Int32) : Int32 := if zRf (zbo seat 0 9) (zbo w 1 20) t.n = 0 then zFeS t (zRu t (zLss t w 0 0) 0 t.push).2 seat.toNat m (t.n - 2) else zi (zRf (zbo seat 0 9) (zbo w 1 20) t.n)
section
variable {d L r : Nat} {I : Nat → Nat → Int32} {J : Nat → Nat → Int64} {t : zDy}
theorem cFeels (hd : 9 ≤ d) (h : zTI I J t) {w seat : Int} {m : Int32} (b1 : -2147483648 ≤ w ∧ w < 2147483648) (b3 : -2147483648 ≤ seat ∧ seat < 2147483648) :
    ∃ I', zCd zT d 147 [.ref 16, .int (zi w), .int (zi seat), .int m] (zm L I J r) = some (some (.int (zFeV t w seat m)), zm L I' J r) ∧ zFr3 I I' := by
  obtain ⟨e, rfl⟩ : ∃ e, d = e + 1 := ⟨d - 1, by omega⟩
  have hw := h.2.2.1.1
  rw [qX11_feels, eX11_feels_0, cSeat (by omega) b3, zbI_s, eX11_feels_1, cBadW (by omega) b1, zbI_s, eX11_feels_2, cRef (by omega) h, zbI_s, eX11_feels_3]
  unfold zFeV
  by_cases q : zRf (zbo seat 0 9) (zbo w 1 20) t.n = 0
  · rw [if_pos (zRf_i.mpr q), if_pos q, eX11_feels_4]
    obtain ⟨q1, q2, q3⟩ := zRf_0.mp q
    have hse := zbo_f q1
    obtain ⟨I', c1, c2, c3, c4⟩ := cPass (d := e) (L := L) (r := r) (by omega) h q3 (zbo_f q2) (wi := 0) (co := 0) (by decide) (by decide)
    have c1' : zCd zT e 238 [.ref 16, .int (zi w), .int 0, .int 0] (zm L I J r) = some (none, zm L I' J r) := c1
    have hsn : zi seat = zi ((seat.toNat : Nat) : Int) := by rw [Int.toNat_of_nonneg hse.1]
    have h' := zTI_fr (zSm_3 c3) h
    have en : I' 32 5 = zi t.n := h'.1.1
    have e2 : zi (t.n : Int) - (1 : Int32) = zi ((t.n : Int) - 1) := zi_sub _ 1
    rw [c1', zbV_s, eX11_feels_5, hsn]
    have hout : ∀ p, t.n ≤ p → zfSp (zRu t (zLss t w 0 0) 0 t.push).2 p = -1 := zRu_out q3
    have hbd : ∀ p, -1 ≤ zfSp (zRu t (zLss t w 0 0) 0 t.push).2 p ∧ zfSp (zRu t (zLss t w 0 0) 0 t.push).2 p ≤ 999 := zRu_bd h.2.2.1.2.2.2.2.2.2.2.2.2
    generalize (zRu t (zLss t w 0 0) 0 t.push).2 = s at c2 hout hbd
    have loop : ∀ j k : Nat, k + j = t.n - 2 → ∀ l4 : Int32, zX 0 (zCd zT e) zc_X11_feels 6 [some (.ref 16), some (.int (zi w)), some (.int (zi ((seat.toNat : Nat) : Int))), some (.int m), some (.int l4), some (.int (zFeS t s seat.toNat m k)), some (.int (zi ((k + 1 : Nat) : Int))), none, none] [] (zm L I' J r) = some (some (.int (zFeS t s seat.toNat m (t.n - 2))), zm L I' J r) := by
      intro j
      induction j with
      | zero =>
        intro k hk l4
        obtain rfl : k = t.n - 2 := by omega
        rw [eX11_feels_6, sX9_points (by omega) (o := 32) (by decide), zbI_s, eX11_feels_7, en, e2, if_pos (show zi ((t.n : Int) - 1) ≤ zi (((t.n - 2) + 1 : Nat) : Int) by rw [zi_le (by omega) (by omega)]; omega), eX11_feels_15]
      | succ j ih =>
        intro k hk l4
        have ihk := ih (k + 1) (by omega) l4
        have k1 : zi ((k + 1 : Nat) : Int) + (1 : Int32) = zi ((k + 1 + 1 : Nat) : Int) := zi_add _ 1
        rw [eX11_feels_6, sX9_points (by omega) (o := 32) (by decide), zbI_s, eX11_feels_7, en, e2, if_neg (show ¬ zi ((t.n : Int) - 1) ≤ zi ((k + 1 : Nat) : Int) by rw [zi_le (by omega) (by omega)]; omega), cFelt (by omega) h' c2 hout hbd (show 1 ≤ k + 1 by omega) (show k + 1 + 1 < t.n by omega) (by omega), zbI_s, eX11_feels_8]
        have hz : zFeS t s seat.toNat m (k + 1) = zFeU m (zFeS t s seat.toNat m k) (zFl t s (k + 1) seat.toNat) := rfl
        generalize zFeS t s seat.toNat m k = best at hz
        generalize zFl t s (k + 1) seat.toNat = v at hz
        rw [hz] at ihk
        have done : ∀ x : Int32, (¬ x = 0 ↔ (if m = 0 then v < best else best < v)) → zX 0 (zCd zT e) zc_X11_feels 12 [some (.ref 16), some (.int (zi w)), some (.int (zi ((seat.toNat : Nat) : Int))), some (.int m), some (.int l4), some (.int best), some (.int (zi ((k + 1 : Nat) : Int))), some (.int v), none] [.int x] (zm L I' J r) = some (some (.int (zFeS t s seat.toNat m (t.n - 2))), zm L I' J r) := by
          intro x hx
          rw [eX11_feels_12, eX11_feels_13, eX11_feels_14, eX11_feels_14, k1, ← ihk]
          unfold zFeU
          by_cases q4 : v = -100000
          · rw [if_pos q4, if_pos q4]
          · rw [if_neg q4, if_neg q4]
            by_cases q5 : best = -100000
            · rw [if_pos q5, if_pos q5]
            · rw [if_neg q5, if_neg q5]
              by_cases q6 : x = 0
              · rw [if_pos q6, if_neg (fun z => hx.mpr z q6)]
              · rw [if_neg q6, if_pos (hx.mp q6)]
        by_cases qm : m = 0
        · rw [if_pos qm, eX11_feels_10, eX11_feels_11]
          by_cases q7 : best ≤ v
          · rw [if_pos q7]
            exact done 0 (by rw [if_pos qm]; exact ⟨fun z => absurd rfl z, fun z => absurd q7 (Int32.not_le.mpr z)⟩)
          · rw [if_neg q7]
            exact done 1 (by rw [if_pos qm]; exact ⟨fun _ => Int32.not_le.mp q7, fun _ => by decide⟩)
        · rw [if_neg qm, eX11_feels_9]
          by_cases q7 : v ≤ best
          · rw [if_pos q7]
            exact done 0 (by rw [if_neg qm]; exact ⟨fun z => absurd rfl z, fun z => absurd q7 (Int32.not_le.mpr z)⟩)
          · rw [if_neg q7]
            exact done 1 (by rw [if_neg qm]; exact ⟨fun _ => Int32.not_le.mp q7, fun _ => by decide⟩)
    exact ⟨I', loop (t.n - 2) 0 (by omega) _, c3⟩
  · rw [if_neg (fun x => q (zRf_i.mp x)), if_neg q]
    exact ⟨I, rfl, zFr3_rf⟩
end
