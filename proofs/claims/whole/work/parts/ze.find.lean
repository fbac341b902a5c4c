/-! ROWS OF EVENTS: the class's search -/
def yGo (cr : Bool) (u : yRl) (nb t l : Nat) : Bool := if cr = true then decide (zFs (yCrB u nb t l) nb < nb) else !decide (zFs (yStB u nb t l) nb < nb)
def yBf (cr : Bool) (u : yRl) (nb lies : Nat) : Nat → Nat → yBq → Bool × Nat × yBq
  | 0, k, Q => (false, k, Q)
  | f + 1, k, Q => if k < Q.1 then (if yGo cr u nb (Q.2.1 k) (Q.2.2.1 k) = true then (true, k, Q) else yBf cr u nb lies f (k + 1) (yExp u nb lies k Q)) else (false, k, Q)
theorem yBf_w {cr : Bool} {u : yRl} {nb lies p : Nat} (hn : nb ≤ 6) (hl : lies ≤ 3) : ∀ (f k : Nat) (Q : yBq), yBw p Q → yBw p (yBf cr u nb lies f k Q).2.2 ∧ ((yBf cr u nb lies f k Q).1 = true → (yBf cr u nb lies f k Q).2.1 < (yBf cr u nb lies f k Q).2.2.1 ∧ yGo cr u nb ((yBf cr u nb lies f k Q).2.2.2.1 (yBf cr u nb lies f k Q).2.1) ((yBf cr u nb lies f k Q).2.2.2.2.1 (yBf cr u nb lies f k Q).2.1) = true) := by
  intro f
  induction f with
  | zero => exact fun k Q h => ⟨h, fun w => by cases w⟩
  | succ f ih =>
    intro k Q h
    rw [yBf]
    by_cases q1 : k < Q.1
    · rw [if_pos q1]
      by_cases q2 : yGo cr u nb (Q.2.1 k) (Q.2.2.1 k) = true
      · rw [if_pos q2]
        exact ⟨h, fun _ => ⟨q1, q2⟩⟩
      · rw [if_neg q2]
        exact ih _ _ (yExp_w h q1 hn hl).1
    · rw [if_neg q1]
      exact ⟨h, fun w => by cases w⟩
section
variable {d L r : Nat} {I : Nat → Nat → Int32} {J : Nat → Nat → Int64}
variable {p : Nat} {Q : yBq} {u : yRl} {nb k t l : Nat}
theorem cQ_k {k : Nat} {v : Int32} (hk : k ≠ 3) (h : cQ I J Q) : cQ (zu I 121 k v) J Q := by
  refine ⟨by rw [zu_n (by omega)]; exact h.1, fun j hj => ?_, h.2.2⟩
  rw [zu_n (by omega), zu_n (by omega)]
  exact h.2.1 j hj
theorem yCx_k {k : Nat} {v : Int32} (hk : k ≠ 5) (h : yCx I J nb u) : yCx (zu I 121 k v) J nb u := by
  refine ⟨by rw [zu_n (by omega)]; exact h.1, cRl_fr (by rw [zu_o (by decide)]) rfl h.2.1, h.2.2⟩
/-- what the search may change -/
def cQg (I I' : Nat → Nat → Int32) (J J' : Nat → Nat → Int64) : Prop := (∀ o, o ≠ 121 → o ≠ 123 → o ≠ 124 → I' o = I o) ∧ ∀ o, o ≠ 122 → J' o = J o
theorem cQg_t {I I1 I2 : Nat → Nat → Int32} {J J1 J2 : Nat → Nat → Int64} (h : cQg I I1 J J1) (g : cQg I1 I2 J1 J2) : cQg I I2 J J2 := ⟨fun o a b c => (g.1 o a b c).trans (h.1 o a b c), fun o a => (g.2 o a).trans (h.2 o a)⟩
theorem cFindL (hd : 5 ≤ d) {cr : Bool} {lies : Nat} (h3 : lies ≤ 3) {l2 : Int32} : ∀ (f k : Nat) (Q : yBq) (I : Nat → Nat → Int32) (J : Nat → Nat → Int64), f + k = 4661 → yBw p Q → cQ I J Q → yCx I J nb u → I 121 6 = zi (lies : Int) → I 121 8 = -1 → ∃ I' J', zX 3 (zCd zT d) zc_X6_find 4 [some (.ref 121), some (.int (zb1 cr)), some (.int l2), some (.int (zi (k : Int))), none] [] (zm L I J 37) = some (some (.int (zb1 (yBf cr u nb lies f k Q).1)), zm L I' J' 37) ∧ ((yBf cr u nb lies f k Q).1 = true → cQ I' J' (yBf cr u nb lies f k Q).2.2 ∧ I' 121 7 = zi ((yBf cr u nb lies f k Q).2.1 : Int) ∧ I' 121 8 = if cr = true then zi ((zFs (yCrB u nb ((yBf cr u nb lies f k Q).2.2.2.1 (yBf cr u nb lies f k Q).2.1) ((yBf cr u nb lies f k Q).2.2.2.2.1 (yBf cr u nb lies f k Q).2.1)) nb : Nat) : Int) else -1) ∧ cQg I I' J J' := by
  intro f
  induction f with
  | zero =>
    intro k Q I J hf hw hq hc h6 h8
    have hn := yBw_n hw
    refine ⟨I, J, ?_, fun w => (by cases w), fun _ _ _ _ => rfl, fun _ _ => rfl⟩
    rw [eX6_find_4, hq.1, if_pos (show zi (Q.1 : Int) ≤ zi (k : Int) by rw [zi_le (by omega) (by omega)]; omega), eX6_find_11]
    rfl
  | succ f ih =>
    intro k Q I J hf hw hq hc h6 h8
    have hn := yBw_n hw
    rw [yBf]
    by_cases q1 : k < Q.1
    · have hk := hw.1 k q1
      have ht := hk.1
      have hl := hk.2.2.1
      have h123 := (hq.2.1 k q1).1
      have k1 : zi (k : Int) + (1 : Int32) = zi ((k + 1 : Nat) : Int) := zi_add _ 1
      have hq7 := cQ_k (k := 7) (v := zi (k : Int)) (by decide) hq
      have hc7 := yCx_k (k := 7) (v := zi (k : Int)) (by decide) hc
      have ex := yExp_w (u := u) (lies := lies) hw q1 hc.2.2 h3
      rw [if_pos q1, eX6_find_4, hq.1, if_neg (show ¬ zi (Q.1 : Int) ≤ zi (k : Int) by rw [zi_le (by omega) (by omega)]; omega), if_neg (show ¬ (4660 : Int32) ≤ zi (k : Int) by rw [show (4660 : Int32) = zi 4660 from rfl, zi_le (by decide) (by omega)]; omega)]
      have no : ∀ l4 : Int32, yGo cr u nb (Q.2.1 k) (Q.2.2.1 k) = false → ∃ I' J', zX 3 (zCd zT d) zc_X6_find 8 [some (.ref 121), some (.int (zb1 cr)), some (.int l2), some (.int (zi (k : Int))), some (.int l4)] [] (zm L (zu I 121 7 (zi (k : Int))) J 37) = some (some (.int (zb1 (yBf cr u nb lies f (k + 1) (yExp u nb lies k Q)).1)), zm L I' J' 37) ∧ ((yBf cr u nb lies f (k + 1) (yExp u nb lies k Q)).1 = true → cQ I' J' (yBf cr u nb lies f (k + 1) (yExp u nb lies k Q)).2.2 ∧ I' 121 7 = zi ((yBf cr u nb lies f (k + 1) (yExp u nb lies k Q)).2.1 : Int) ∧ I' 121 8 = if cr = true then zi ((zFs (yCrB u nb ((yBf cr u nb lies f (k + 1) (yExp u nb lies k Q)).2.2.2.1 (yBf cr u nb lies f (k + 1) (yExp u nb lies k Q)).2.1) ((yBf cr u nb lies f (k + 1) (yExp u nb lies k Q)).2.2.2.2.1 (yBf cr u nb lies f (k + 1) (yExp u nb lies k Q)).2.1)) nb : Nat) : Int) else -1) ∧ cQg I I' J J' := by
        intro l4 _
        obtain ⟨I1, J1, a1, a2, a3⟩ := cLvs (d := d) (L := L) (by omega) hc7 hq7 hw q1 rfl rfl
        have wl := yLvs_w (u := u) hw q1 hc.2.2 rfl rfl nb (Nat.le_refl nb)
        have hk1 : k < (yLvs u nb (Q.2.1 k) (Q.2.2.1 k) k Q nb).1 := by
          have := wl.2.1
          omega
        have s1 := wl.2.2 k q1
        obtain ⟨I2, J2, b1, b2, b3⟩ := cLieS (d := d) (L := L) (by omega) (yCx_f hc7 a3) a2 wl.1 hk1 s1.1 s1.2.1 (lies := lies) (by rw [a3.2.1 6 (by decide), zu_n (by decide)]; exact h6) h3
        have b2' : cQ I2 J2 (yExp u nb lies k Q) := b2
        have fr := cQf_t a3 b3
        obtain ⟨I3, J3, c1, c2, c3⟩ := ih (k + 1) (yExp u nb lies k Q) I2 J2 (by omega) ex.1 b2' (yCx_f hc7 fr) (by rw [fr.2.1 6 (by decide), zu_n (by decide)]; exact h6) (by rw [fr.2.1 8 (by decide), zu_n (by decide)]; exact h8)
        refine ⟨I3, J3, ?_, c2, cQg_t ⟨fun o x1 x2 x3 => (fr.1 o x1 x2 x3).trans (zu_o x1), fr.2.2⟩ c3⟩
        rw [eX6_find_8, a1, zbV_s, eX6_find_9, b1, zbV_s, eX6_find_10, k1]
        exact c1
      have frm : ∀ v : Int32, cQg I (zu (zu I 121 7 (zi (k : Int))) 121 8 v) J J := fun v => ⟨fun o x1 _ _ => by rw [zu_o x1, zu_o x1], fun _ _ => rfl⟩
      cases cr
      · rw [if_pos (show zb1 false = 0 from rfl), eX6_find_6, zin_t (by omega) (by omega), zgd_t, zi_cl (by omega), Int.toNat_natCast, zu_n (show ¬ (123 = 121 ∧ k = 7) by omega), h123, cStand (by omega) hc7 ht, zbI_s, eX6_find_7]
        have eg : yGo false u nb (Q.2.1 k) (Q.2.2.1 k) = !decide (zFs (yStB u nb (Q.2.1 k) (Q.2.2.1 k)) nb < nb) := if_neg (by decide)
        rw [← eg]
        cases q2 : yGo false u nb (Q.2.1 k) (Q.2.2.1 k)
        · rw [if_pos (show zb1 false = 0 from rfl), if_neg (by decide)]
          exact no _ q2
        · rw [if_neg (show ¬ zb1 true = 0 by decide), if_pos rfl]
          refine ⟨_, J, rfl, fun _ => ⟨hq7, zu_y ⟨rfl, rfl⟩, ?_⟩, fun o x1 _ _ => zu_o x1, fun _ _ => rfl⟩
          rw [if_neg (by decide), zu_n (by decide)]
          exact h8
      · rw [if_neg (show ¬ zb1 true = 0 by decide), zin_t (by omega) (by omega), zgd_t, zi_cl (by omega), Int.toNat_natCast, zu_n (show ¬ (123 = 121 ∧ k = 7) by omega), h123, cCrash (by omega) hc7 ht, zbI_s, eX6_find_5, eX6_find_7]
        have eg : yGo true u nb (Q.2.1 k) (Q.2.2.1 k) = decide (zFs (yCrB u nb (Q.2.1 k) (Q.2.2.1 k)) nb < nb) := if_pos rfl
        rw [← eg]
        cases q2 : yGo true u nb (Q.2.1 k) (Q.2.2.1 k)
        · rw [eg] at q2
          rw [if_neg (of_decide_eq_false q2), if_pos (show zb1 false = 0 from rfl), if_neg (show ¬ false = true by decide)]
          exact no _ (eg.trans q2)
        · rw [eg] at q2
          rw [if_pos (of_decide_eq_true q2), if_neg (show ¬ zb1 true = 0 by decide), if_pos (show true = true from rfl)]
          exact ⟨_, J, rfl, fun _ => ⟨cQ_k (by decide) hq7, by rw [zu_n (by decide), zu_y ⟨rfl, rfl⟩], by rw [zu_y ⟨rfl, rfl⟩, if_pos rfl]⟩, frm _⟩
    · refine ⟨I, J, ?_, fun w => (by rw [if_neg q1] at w; cases w), fun _ _ _ _ => rfl, fun _ _ => rfl⟩
      rw [if_neg q1, eX6_find_4, hq.1, if_pos (show zi (Q.1 : Int) ≤ zi (k : Int) by rw [zi_le (by omega) (by omega)]; omega), eX6_find_11]
      rfl
end
/-- how far from the root, so many steps back -/
def yFar (F : Nat → Int) : Nat → Nat → Nat
  | 0, _ => 0
  | f + 1, k => if F k = -1 then 0 else yFar F f (F k).toNat + 1
def yBk (F : Nat → Int) : Nat → Nat → Nat
  | 0, k => k
  | j + 1, k => yBk F j (F k).toNat
