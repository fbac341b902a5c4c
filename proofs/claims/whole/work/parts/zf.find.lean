/-! ROWS OF EVENTS: how long, which EVENT; the class's answer -/
theorem yFar_c {F : Nat → Int} {n : Nat} (hF : ∀ k, k < n → -1 ≤ F k ∧ F k < (k : Int)) : ∀ (f g k : Nat), k < n → k < f → k < g → yFar F f k = yFar F g k := by
  intro f
  induction f with
  | zero => intro g k _ h; omega
  | succ f ih =>
    intro g k hn h1 h2
    obtain ⟨g, rfl⟩ : ∃ j, g = j + 1 := ⟨g - 1, by omega⟩
    have := hF k hn
    rw [yFar, yFar]
    by_cases q : F k = -1
    · rw [if_pos q, if_pos q]
    · rw [if_neg q, if_neg q, ih g (F k).toNat (by omega) (by omega) (by omega)]
theorem yBk_s {F : Nat → Int} : ∀ (j k : Nat), yBk F (j + 1) k = (F (yBk F j k)).toNat := by
  intro j
  induction j with
  | zero => intro k; rfl
  | succ j ih =>
    intro k
    rw [yBk, ih, yBk]
theorem yBk_p {F : Nat → Int} {n : Nat} (hn : n ≤ 4660) (hF : ∀ k, k < n → -1 ≤ F k ∧ F k < (k : Int)) : ∀ (j k : Nat), k < n → j < yFar F 4661 k → yBk F j k < n ∧ 0 ≤ F (yBk F j k) := by
  intro j
  induction j with
  | zero =>
    intro k hk h
    have := hF k hk
    refine ⟨hk, ?_⟩
    show 0 ≤ F k
    rw [yFar] at h
    by_cases q : F k = -1
    · rw [if_pos q] at h
      omega
    · omega
  | succ j ih =>
    intro k hk h
    have := hF k hk
    rw [yFar] at h
    by_cases q : F k = -1
    · rw [if_pos q] at h
      omega
    · rw [if_neg q] at h
      rw [yBk]
      refine ih _ (by omega) ?_
      rw [yFar_c hF 4661 4660 (F k).toNat (by omega) (by omega) (by omega)]
      omega
theorem yFar_b {F : Nat → Int} {n : Nat} (hF : ∀ k, k < n → -1 ≤ F k ∧ F k < (k : Int)) : ∀ (f k : Nat), k < n → yFar F f k ≤ k := by
  intro f
  induction f with
  | zero => intro k _; exact Nat.zero_le k
  | succ f ih =>
    intro k hk
    have := hF k hk
    rw [yFar]
    by_cases q : F k = -1
    · rw [if_pos q]
      exact Nat.zero_le k
    · rw [if_neg q]
      have := ih (F k).toNat (by omega)
      omega
def yRowV (cr : Bool) (far : Nat) (ev : Int) (F V : Nat → Int) (k : Nat) (i : Int) : Int := if i = -1 then ((far + (if cr = true then 1 else 0) : Nat) : Int) else if i < 0 ∨ ((far + (if cr = true then 1 else 0) : Nat) : Int) ≤ i then -1 else if cr = true ∧ i = (far : Int) then ev else V (yBk F (far - 1 - i.toNat) k)
section
variable {d L r : Nat} {I : Nat → Nat → Int32} {J : Nat → Nat → Int64}
variable {p : Nat} {Q : yBq} {u : yRl} {nb k t l : Nat}
theorem cOrig (hd : 1 ≤ d) (h : cQ I J Q) (hw : yBw p Q) (hk : k < Q.1) : zCd zT d 60 [.ref 121, .int (zi (k : Int))] (zm L I J r) = some (some (.int (zi (if Q.2.2.2.1 k = -1 then -1 else Q.2.2.2.1 k * 32 + Q.2.2.2.2 k))), (zm L I J r)) := by
  have hn := yBw_n hw
  rw [sX6_originOf hd, h.1, if_neg (show ¬ zi (k : Int) < (0 : Int32) by rw [show (0 : Int32) = zi 0 from rfl, zi_lt (by omega) (by decide)]; omega), if_neg (show ¬ zi (Q.1 : Int) ≤ zi (k : Int) by rw [zi_le (by omega) (by omega)]; omega), if_pos (show zi (k : Int) < (4660 : Int32) by rw [show (4660 : Int32) = zi 4660 from rfl, zi_lt (by omega) (by decide)]; omega), zin_t (by omega) (by omega), zgd_t, zi_cl (by omega), Int.toNat_natCast, (h.2.1 k hk).2]
theorem yDv {f v : Int} (hf : 0 ≤ f ∧ f ≤ 4660) (hv : 0 ≤ v ∧ v ≤ 25) : zi (f * 32 + v) / (32 : Int32) = zi ((f.toNat : Nat) : Int) ∧ zi (f * 32 + v) - zi (f * 32 + v) / (32 : Int32) * (32 : Int32) = zi v := by
  have d1 : zi (f * 32 + v) / (32 : Int32) = zi ((f * 32 + v) / 32) := zi_div (y := 32) (by omega) (by decide)
  have d2 : zi ((f * 32 + v) / 32) * (32 : Int32) = zi ((f * 32 + v) / 32 * 32) := zi_mul _ 32
  rw [d1, d2, zi_sub]
  exact ⟨congrArg zi (by omega), congrArg zi (by omega)⟩
theorem cRowL (hd : 2 ≤ d) (h : cQ I J Q) (hw : yBw p Q) (hk : k < Q.1) (h7 : I 121 7 = zi (k : Int)) : zCd zT d 58 [.ref 121] (zm L I J r) = some (some (.int (zi ((yFar Q.2.2.2.1 4661 k + (if I 121 8 = -1 then 0 else 1) : Nat) : Int))), (zm L I J r)) := by
  obtain ⟨e, rfl⟩ : ∃ e, d = e + 1 := ⟨d - 1, by omega⟩
  have hn := yBw_n hw
  have loop : ∀ (f k len g : Nat), k < f → k < Q.1 → g + k ≤ 4659 → zX 0 (zCd zT e) zc_X6_rowLength 3 [some (.ref 121), some (.int (zi (len : Int))), some (.int (zi (k : Int))), some (.int (zi (g : Int)))] [] (zm L I J r) = some (some (.int (zi ((yFar Q.2.2.2.1 f k + len : Nat) : Int))), (zm L I J r)) := by
    intro f
    induction f with
    | zero => intro k len g h1; omega
    | succ f ih =>
      intro k len g h1 h2 h3
      have hk' := hw.1 k h2
      rw [eX6_rowLength_3, if_neg (show ¬ (4660 : Int32) ≤ zi (g : Int) by rw [show (4660 : Int32) = zi 4660 from rfl, zi_le (by decide) (by omega)]; omega), cOrig (by omega) h hw h2, zbI_s, eX6_rowLength_4, yFar]
      by_cases q : Q.2.2.2.1 k = -1
      · rw [if_pos q, if_pos (show zi (-1) = (-1 : Int32) from rfl), eX6_rowLength_6, if_pos q, Nat.zero_add]
      · have dv := yDv (f := Q.2.2.2.1 k) (v := Q.2.2.2.2 k) (by omega) (by omega)
        have k1 : zi (len : Int) + (1 : Int32) = zi ((len + 1 : Nat) : Int) := zi_add _ 1
        have k2 : zi (g : Int) + (1 : Int32) = zi ((g + 1 : Nat) : Int) := zi_add _ 1
        rw [if_neg q, if_neg (show ¬ zi (Q.2.2.2.1 k * 32 + Q.2.2.2.2 k) = (-1 : Int32) by rw [zi_m1 (by omega)]; omega), cOrig (by omega) h hw h2, zbI_s, if_neg q, eX6_rowLength_5, dv.1, k1, k2, ih _ _ _ (by omega) (by omega) (by omega), if_neg q, show yFar Q.2.2.2.1 f (Q.2.2.2.1 k).toNat + (len + 1) = yFar Q.2.2.2.1 f (Q.2.2.2.1 k).toNat + 1 + len by omega]
  rw [qX6_rowLength, eX6_rowLength_0]
  by_cases q : I 121 8 = -1
  · have := loop 4661 k 0 0 (by omega) hk (by omega)
    have z0 : zX 0 (zCd zT e) zc_X6_rowLength 3 [some (.ref 121), some (.int 0), some (.int (zi (k : Int))), some (.int 0)] [] (zm L I J r) = _ := this
    rw [if_pos q, if_pos q, eX6_rowLength_2, h7, z0]
  · have := loop 4661 k 1 0 (by omega) hk (by omega)
    have z0 : zX 0 (zCd zT e) zc_X6_rowLength 3 [some (.ref 121), some (.int 1), some (.int (zi (k : Int))), some (.int 0)] [] (zm L I J r) = _ := this
    rw [if_neg q, if_neg q, eX6_rowLength_1, eX6_rowLength_2, h7, z0]
theorem cEvent (hd : 3 ≤ d) {cr : Bool} {ev : Int} (h : cQ I J Q) (hw : yBw p Q) (hk : k < Q.1) (h7 : I 121 7 = zi (k : Int)) (h8 : I 121 8 = if cr = true then zi ev else -1) (bev : 0 ≤ ev ∧ ev ≤ 5) {i : Int} (bi : -2147483648 ≤ i ∧ i < 2147483648) (hi : i ≠ -1) : zCd zT d 59 [.ref 121, .int (zi i)] (zm L I J r) = some (some (.int (zi (yRowV cr (yFar Q.2.2.2.1 4661 k) ev Q.2.2.2.1 Q.2.2.2.2 k i))), (zm L I J r)) := by
  obtain ⟨e, rfl⟩ : ∃ e, d = e + 1 := ⟨d - 1, by omega⟩
  have hn := yBw_n hw
  have hF : ∀ k, k < Q.1 → -1 ≤ Q.2.2.2.1 k ∧ Q.2.2.2.1 k < (k : Int) := fun k hk => (hw.1 k hk).2.2.2.2.1
  have fb := yFar_b hF 4661 k hk
  have e8 : I 121 8 = -1 ↔ ¬ cr = true := by
    rw [h8]
    cases cr
    · exact ⟨fun _ => by decide, fun _ => rfl⟩
    · rw [if_pos rfl, zi_m1 (by omega)]
      exact ⟨fun w => by omega, fun w => absurd rfl w⟩
  have rl := cRowL (d := e) (L := L) (r := r) (by omega) h hw hk h7
  have el : (if I 121 8 = -1 then 0 else 1) = if cr = true then 1 else 0 := by
    by_cases q : cr = true
    · rw [if_neg (fun w => e8.mp w q), if_pos q]
    · rw [if_pos (e8.mpr q), if_neg q]
  rw [el] at rl
  unfold yRowV
  rw [if_neg hi]
  generalize hlen : yFar Q.2.2.2.1 4661 k + (if cr = true then 1 else 0) = len at rl ⊢
  have blen : len ≤ 4660 := by
    rw [← hlen]
    split <;> omega
  have sb : zi (len : Int) - (1 : Int32) - zi i = zi ((len : Int) - 1 - i) := by
    rw [show (1 : Int32) = zi 1 from rfl, zi_sub, zi_sub]
  have i0 : zi i < (0 : Int32) ↔ i < 0 := zi_lt (y := 0) bi (by decide)
  rw [qX6_event, eX6_event_0, rl, zbI_s, eX6_event_1, sb]
  by_cases q1 : i < 0
  · rw [if_pos (i0.mpr q1), eX6_event_2, if_pos (Or.inl q1)]
    rfl
  · rw [if_neg (fun w => q1 (i0.mp w))]
    have b0 : (0 : Int32) ≤ zi ((len : Int) - 1 - i) ↔ 0 ≤ (len : Int) - 1 - i := zi_le (x := 0) (by decide) (by omega)
    by_cases q2 : (len : Int) ≤ i
    · rw [if_neg (fun w => by have := b0.mp w; omega), eX6_event_2, if_pos (Or.inr q2)]
      rfl
    · rw [if_pos (b0.mpr (by omega)), if_neg (show ¬ (i < 0 ∨ (len : Int) ≤ i) by omega)]
      obtain ⟨i, rfl⟩ : ∃ j : Nat, i = j := ⟨i.toNat, by omega⟩
      have walk : ∀ (back : Nat) (x : Int32), back < yFar Q.2.2.2.1 4661 k → zX 0 (zCd zT e) zc_X6_event 5 [some (.ref 121), some (.int (zi (i : Int))), some (.int (zi (back : Int))), none, none] [] (zm L I J r) = some (some (.int (zi (Q.2.2.2.2 (yBk Q.2.2.2.1 back k)))), (zm L I J r)) := by
        intro back _ hb
        have lp := zFor (n := back) (G := fun g => zX 0 (zCd zT e) zc_X6_event 6 [some (.ref 121), some (.int (zi (i : Int))), some (.int (zi (back : Int))), some (.int (zi ((yBk Q.2.2.2.1 g k : Nat) : Int))), some (.int (zi ((g : Nat) : Int)))] [] (zm L I J r)) (fun g hg => by
          have bp := yBk_p hn hF g k hk (by omega)
          have hk' := hw.1 _ bp.1
          have k1 : zi ((g : Nat) : Int) + (1 : Int32) = zi ((g + 1 : Nat) : Int) := zi_add _ 1
          have dv := yDv (f := Q.2.2.2.1 (yBk Q.2.2.2.1 g k)) (v := Q.2.2.2.2 (yBk Q.2.2.2.1 g k)) (by omega) (by omega)
          rw [eX6_event_6, if_neg (show ¬ zi (back : Int) ≤ zi ((g : Nat) : Int) by rw [zi_le (by omega) (by omega)]; omega), cOrig (by omega) h hw bp.1, zbI_s, if_neg (show ¬ Q.2.2.2.1 (yBk Q.2.2.2.1 g k) = -1 by omega), eX6_event_7, dv.1, k1, yBk_s])
        have z0 : zX 0 (zCd zT e) zc_X6_event 6 [some (.ref 121), some (.int (zi (i : Int))), some (.int (zi (back : Int))), some (.int (zi (k : Int))), some (.int 0)] [] (zm L I J r) = _ := lp
        have bp := yBk_p hn hF back k hk hb
        have hk' := hw.1 _ bp.1
        have dv := yDv (f := Q.2.2.2.1 (yBk Q.2.2.2.1 back k)) (v := Q.2.2.2.2 (yBk Q.2.2.2.1 back k)) (by omega) (by omega)
        rw [eX6_event_5, h7, z0, eX6_event_6, if_pos (Int32.le_refl _), eX6_event_8, cOrig (by omega) h hw bp.1, zbI_s, if_neg (show ¬ Q.2.2.2.1 (yBk Q.2.2.2.1 back k) = -1 by omega), eX6_event_9, dv.2]
      rw [eX6_event_3, Int.toNat_natCast]
      by_cases q3 : cr = true
      · rw [if_neg (fun w => e8.mp w q3)]
        rw [if_pos q3] at hlen
        have z2 : zi ((len : Int) - 1 - (i : Int)) = (0 : Int32) ↔ (len : Int) - 1 - (i : Int) = 0 := zi_eq (y := 0) (by omega) (by decide)
        by_cases q4 : (i : Int) = ((yFar Q.2.2.2.1 4661 k : Nat) : Int)
        · rw [if_pos (z2.mpr (by omega)), if_pos ⟨q3, q4⟩, h8, if_pos q3]
        · have m1 : zi ((len : Int) - 1 - (i : Int)) + (-1 : Int32) = zi ((yFar Q.2.2.2.1 4661 k - 1 - i : Nat) : Int) := by
            rw [show (-1 : Int32) = zi (-1) from rfl, zi_add]
            exact congrArg zi (by omega)
          rw [if_neg (fun w => by have := z2.mp w; omega), eX6_event_4, m1, if_neg (fun w => q4 w.2), walk _ 0 (by omega)]
      · rw [if_neg q3] at hlen
        have m1 : zi ((len : Int) - 1 - (i : Int)) = zi ((yFar Q.2.2.2.1 4661 k - 1 - i : Nat) : Int) := congrArg zi (by omega)
        rw [if_pos (e8.mpr q3), if_neg (fun w => q3 w.1), m1, walk _ 0 (by omega)]
end
