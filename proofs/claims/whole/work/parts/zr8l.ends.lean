/-! TEXT: the model's end -/
section
variable {d L r : Nat} {I : Nat → Nat → Int32} {J : Nat → Nat → Int64}
variable {B : Nat → Nat} {n : Nat}
theorem mEndF (l1 l2 l3 : Int32) {s : yTkS} (ha : mAt B n I s) (hs : s.1 ≠ 0) (h11 : ¬ I 130 11 = 0) : zX 0 (zCd zT d) zc_X12_text 16 [some (.ref 130), some (.int l1), some (.int l2), some (.int l3)] [] (zm L I J r) = some (some (.int (zi (-10 - (s.1 : Int)))), (zm L (zu (zu I 130 15 (zi (s.1 : Int))) 130 16 (zi (s.2 : Int))) J r)) := by
  obtain ⟨b1, b2, b3⟩ := ha.2.2 hs
  rcases b3 with ⟨b4, b5⟩ | ⟨b4, b5, b6, b7⟩
  · have n11 : ¬ zi (s.1 : Int) = 0 := yNe0 (by omega) hs
    rw [eX12_text_16, b4, if_neg n11, eX12_text_17, zu_n (show ¬ ((130 : Nat) = 130 ∧ (12 : Nat) = 15) by decide), b5, eX12_text_18, zu_n (show ¬ ((130 : Nat) = 130 ∧ (11 : Nat) = 15) by decide), b4, if_neg n11, show (-10 : Int32) = zi (-10) from rfl, zi_sub]
  · exact absurd b5 h11
theorem mEndT (l2 l3 : Int32) (h11 : I 130 11 = 0) : ∃ I', zX 0 (zCd zT d) zc_X12_text 16 [some (.ref 130), some (.int 0), some (.int l2), some (.int l3)] [] (zm L I J r) = some (some (.int (I 132 0)), (zm L I' J r)) ∧ (∀ k, k < 618 → I' 131 k = I 132 k) ∧ (I' 131 618 = 0 ∧ I' 131 667 = 0 ∧ I' 131 733 = 0 ∧ I' 131 814 = 0 ∧ I' 131 881 = 0 ∧ I' 131 882 = 0) ∧ (∀ k, 618 ≤ k → k ≠ 618 → k ≠ 667 → k ≠ 733 → k ≠ 814 → k ≠ 881 → k ≠ 882 → I' 131 k = I 131 k) ∧ I' 130 15 = 0 ∧ I' 130 16 = -1 ∧ (∀ k, k ≠ 15 → k ≠ 16 → I' 130 k = I 130 k) ∧ ∀ o, o ≠ 130 → o ≠ 131 → I' o = I o := by
  obtain ⟨U, hU⟩ : ∃ U, U = zu (zu I 130 15 0) 130 16 (-1) := ⟨_, rfl⟩
  have uo : ∀ o, o ≠ 130 → U o = I o := fun o a => by rw [hU, zu_o a, zu_o a]
  obtain ⟨m, c1, c2, c3, c4⟩ := zForI (n := 618) (M := Nat → Nat → Int32) (G := fun i m => zX 0 (zCd zT d) zc_X12_text 23 [some (.ref 130), some (.int 0), some (.int l2), some (.int (zi ((i : Nat) : Int)))] [] (zm L m J r)) (P := fun i m => (∀ k, k < i → m 131 k = U 132 k) ∧ (∀ k, i ≤ k → m 131 k = U 131 k) ∧ ∀ o, o ≠ 131 → m o = U o) (fun i m hi hm => by
    rw [eX12_text_23, if_neg (show ¬ (618 : Int32) ≤ zi (i : Int) by rw [show (618 : Int32) = zi ((618 : Nat) : Int) from rfl, yLe (by omega) (by omega)]; omega), zin_t (by omega) (by omega), zgd_t, zin_t (by omega) (by omega), zgd_t, zi_cl (by omega), Int.toNat_natCast, yZ1, hm.2.2 132 (by decide)]
    refine ⟨_, rfl, fun k hk => ?_, fun k hk => ?_, fun o a => by rw [zu_o a]; exact hm.2.2 o a⟩
    · by_cases q : k = i
      · rw [zu_y ⟨rfl, q⟩, q]
      · rw [zu_n (by omega)]
        exact hm.1 k (by omega)
    · rw [zu_n (by omega)]
      exact hm.2.1 k (by omega)) U ⟨fun k hk => absurd hk (Nat.not_lt_zero k), fun _ _ => rfl, fun _ _ => rfl⟩
  have c1' : zX 0 (zCd zT d) zc_X12_text 23 [some (.ref 130), some (.int 0), some (.int l2), some (.int 0)] [] (zm L U J r) = _ := c1
  refine ⟨zu (zu (zu (zu (zu (zu m 131 618 0) 131 667 0) 131 733 0) 131 814 0) 131 881 0) 131 882 0, ?_, fun k hk => ?_, ⟨?_, ?_, ?_, ?_, ?_, ?_⟩, fun k a b1 b2 b3 b4 b5 b6 => ?_, ?_, ?_, fun k a b => ?_, fun o a b => ?_⟩
  · rw [eX12_text_16, h11, if_pos (show (0 : Int32) = 0 from rfl), eX12_text_18, zu_n (show ¬ ((130 : Nat) = 130 ∧ (11 : Nat) = 15) by decide), h11, if_pos (show (0 : Int32) = 0 from rfl), ← hU, eX12_text_19, if_neg (show ¬ (0 : Int32) = 1 by decide), eX12_text_22, c1', eX12_text_23, if_pos (show (618 : Int32) ≤ zi ((618 : Nat) : Int) by decide), eX12_text_24, zu_n (show ¬ ((131 : Nat) = 131 ∧ (0 : Nat) = 882) by decide), zu_n (show ¬ ((131 : Nat) = 131 ∧ (0 : Nat) = 881) by decide), zu_n (show ¬ ((131 : Nat) = 131 ∧ (0 : Nat) = 814) by decide), zu_n (show ¬ ((131 : Nat) = 131 ∧ (0 : Nat) = 733) by decide), zu_n (show ¬ ((131 : Nat) = 131 ∧ (0 : Nat) = 667) by decide), zu_n (show ¬ ((131 : Nat) = 131 ∧ (0 : Nat) = 618) by decide), c2 0 (by decide), uo 132 (by decide)]
  · rw [zu_n (by omega), zu_n (by omega), zu_n (by omega), zu_n (by omega), zu_n (by omega), zu_n (by omega), c2 k hk, uo 132 (by decide)]
  · rw [zu_n (by omega), zu_n (by omega), zu_n (by omega), zu_n (by omega), zu_n (by omega), zu_y ⟨rfl, rfl⟩]
  · rw [zu_n (by omega), zu_n (by omega), zu_n (by omega), zu_n (by omega), zu_y ⟨rfl, rfl⟩]
  · rw [zu_n (by omega), zu_n (by omega), zu_n (by omega), zu_y ⟨rfl, rfl⟩]
  · rw [zu_n (by omega), zu_n (by omega), zu_y ⟨rfl, rfl⟩]
  · rw [zu_n (by omega), zu_y ⟨rfl, rfl⟩]
  · rw [zu_y ⟨rfl, rfl⟩]
  · rw [zu_n (by omega), zu_n (by omega), zu_n (by omega), zu_n (by omega), zu_n (by omega), zu_n (by omega), c3 k a, uo 131 (by decide)]
  · rw [zu_o (by decide), zu_o (by decide), zu_o (by decide), zu_o (by decide), zu_o (by decide), zu_o (by decide), c4 130 (by decide), hU, zu_n (by decide), zu_y ⟨rfl, rfl⟩]
  · rw [zu_o (by decide), zu_o (by decide), zu_o (by decide), zu_o (by decide), zu_o (by decide), zu_o (by decide), c4 130 (by decide), hU, zu_y ⟨rfl, rfl⟩]
  · rw [zu_o (by decide), zu_o (by decide), zu_o (by decide), zu_o (by decide), zu_o (by decide), zu_o (by decide), c4 130 (by decide), hU, zu_n (by omega), zu_n (by omega)]
  · rw [zu_o b, zu_o b, zu_o b, zu_o b, zu_o b, zu_o b, c4 o b, uo o a]
theorem mEndR (l2 l3 : Int32) (h11 : I 130 11 = 0) : ∃ I', zX 0 (zCd zT d) zc_X12_text 16 [some (.ref 130), some (.int 1), some (.int l2), some (.int l3)] [] (zm L I J r) = some (some (.int (I 132 81)), (zm L I' J r)) ∧ (∀ k, 81 ≤ k → k < 618 → I' 131 k = I 132 k) ∧ (∀ k, k < 81 ∨ 618 ≤ k → I' 131 k = I 131 k) ∧ I' 130 15 = 0 ∧ I' 130 16 = -1 ∧ (∀ k, k ≠ 15 → k ≠ 16 → I' 130 k = I 130 k) ∧ ∀ o, o ≠ 130 → o ≠ 131 → I' o = I o := by
  obtain ⟨U, hU⟩ : ∃ U, U = zu (zu I 130 15 0) 130 16 (-1) := ⟨_, rfl⟩
  have uo : ∀ o, o ≠ 130 → U o = I o := fun o a => by rw [hU, zu_o a, zu_o a]
  obtain ⟨m, c1, c2, c3, c4⟩ := zForI (n := 537) (M := Nat → Nat → Int32) (G := fun i m => zX 0 (zCd zT d) zc_X12_text 20 [some (.ref 130), some (.int 1), some (.int l2), some (.int (zi ((81 + i : Nat) : Int)))] [] (zm L m J r)) (P := fun i m => (∀ k, 81 ≤ k → k < 81 + i → m 131 k = U 132 k) ∧ (∀ k, k < 81 ∨ 81 + i ≤ k → m 131 k = U 131 k) ∧ ∀ o, o ≠ 131 → m o = U o) (fun i m hi hm => by
    rw [eX12_text_20, if_neg (show ¬ (618 : Int32) ≤ zi ((81 + i : Nat) : Int) by rw [show (618 : Int32) = zi ((618 : Nat) : Int) from rfl, yLe (by omega) (by omega)]; omega), zin_t (by omega) (by omega), zgd_t, zin_t (by omega) (by omega), zgd_t, zi_cl (by omega), Int.toNat_natCast, yZ1, hm.2.2 132 (by decide)]
    refine ⟨_, rfl, fun k h0 hk => ?_, fun k hk => ?_, fun o a => by rw [zu_o a]; exact hm.2.2 o a⟩
    · by_cases q : k = 81 + i
      · rw [zu_y ⟨rfl, q⟩, q]
      · rw [zu_n (by omega)]
        exact hm.1 k h0 (by omega)
    · rw [zu_n (by omega)]
      exact hm.2.1 k (by omega)) U ⟨fun k h0 hk => absurd hk (by omega), fun _ _ => rfl, fun _ _ => rfl⟩
  have c1' : zX 0 (zCd zT d) zc_X12_text 20 [some (.ref 130), some (.int 1), some (.int l2), some (.int 81)] [] (zm L U J r) = _ := c1
  refine ⟨m, ?_, fun k h0 hk => ?_, fun k hk => ?_, ?_, ?_, fun k a b => ?_, fun o a b => ?_⟩
  · rw [eX12_text_16, h11, if_pos (show (0 : Int32) = 0 from rfl), eX12_text_18, zu_n (show ¬ ((130 : Nat) = 130 ∧ (11 : Nat) = 15) by decide), h11, if_pos (show (0 : Int32) = 0 from rfl), ← hU, eX12_text_19, if_pos (show (1 : Int32) = 1 from rfl), c1', eX12_text_20, if_pos (show (618 : Int32) ≤ zi ((81 + 537 : Nat) : Int) by decide), eX12_text_21, c2 81 (by decide) (by decide), uo 132 (by decide)]
  · rw [c2 k h0 (by omega), uo 132 (by decide)]
  · rw [c3 k (by omega), uo 131 (by decide)]
  · rw [c4 130 (by decide), hU, zu_n (by decide), zu_y ⟨rfl, rfl⟩]
  · rw [c4 130 (by decide), hU, zu_y ⟨rfl, rfl⟩]
  · rw [c4 130 (by decide), hU, zu_n (by omega), zu_n (by omega)]
  · rw [c4 o b, uo o a]
end
