/-! ROWS OF EVENTS: the class's row -/
def yQ0 : yBq := (0, (fun _ => 0), (fun _ => 0), (fun _ => 0), fun _ => 0)
def yQ1 (t : Nat) : yBq := yAdq yQ0 t 0 (-1) (-1)
def yBR (cr : Bool) (u : yRl) (nb t lies : Nat) : Bool × Nat × yBq := yBf cr u nb lies 4661 0 (yQ1 t)
def yRowA (cr : Bool) (u : yRl) (nb t lies : Nat) (i : Int) : Int := if t = 0 then -1 else if (yBR cr u nb t lies).1 = true then yRowV cr (yFar (yBR cr u nb t lies).2.2.2.2.2.1 4661 (yBR cr u nb t lies).2.1) ((zFs (yCrB u nb ((yBR cr u nb t lies).2.2.2.1 (yBR cr u nb t lies).2.1) ((yBR cr u nb t lies).2.2.2.2.1 (yBR cr u nb t lies).2.1)) nb : Nat) : Int) (yBR cr u nb t lies).2.2.2.2.2.1 (yBR cr u nb t lies).2.2.2.2.2.2 (yBR cr u nb t lies).2.1 i else -1
theorem yRowV_f {far : Nat} {ev : Int} {F V : Nat → Int} {k : Nat} {i : Int} : yRowV false far ev F V k i = if i = -1 then (far : Int) else if i < 0 ∨ (far : Int) ≤ i then -1 else V (yBk F (far - 1 - i.toNat) k) := by
  unfold yRowV
  rw [if_neg (show ¬ (false = true ∧ i = (far : Int)) from fun w => by cases w.1), if_neg (show ¬ false = true by decide), Nat.add_zero]
theorem yQ0_m {t l : Nat} : yMet yQ0 t l = false := by
  cases h : yMet yQ0 t l
  · rfl
  · obtain ⟨k, hk, _⟩ := yMet_i.mp h
    exact absurd hk (Nat.not_lt_zero k)
theorem yQ1_w {t : Nat} (ht : t < 64) : yBw (yPc t 6) yQ0 ∧ yBw (yPc t 6) (yQ1 t) := by
  have h : yBw (yPc t 6) yQ0 := ⟨fun k hk => absurd hk (Nat.not_lt_zero k), fun i j hi => absurd hi (Nat.not_lt_zero i)⟩
  exact ⟨h, yAdq_w h ht rfl (by decide) (by decide) (by decide) (by decide)⟩
section
variable {d L r : Nat} {I : Nat → Nat → Int32} {J : Nat → Nat → Int64}
variable {u : yRl} {nb t lies : Nat}
theorem cSeek (hd : 6 ≤ d) {cr : Bool} (h3 : lies ≤ 3) (ht : t < 64) (h0 : t ≠ 0) (hc : yCx I J nb u) (h6 : I 121 6 = zi (lies : Int)) : ∃ I' J', zCd zT d 49 [.ref 121, .int (zb1 cr), .int (zi (t : Int))] (zm L I J 37) = some (some (.int (zb1 (yBR cr u nb t lies).1)), zm L I' J' 37) ∧ ((yBR cr u nb t lies).1 = true → cQ I' J' (yBR cr u nb t lies).2.2 ∧ I' 121 7 = zi ((yBR cr u nb t lies).2.1 : Int) ∧ I' 121 8 = if cr = true then zi ((zFs (yCrB u nb ((yBR cr u nb t lies).2.2.2.1 (yBR cr u nb t lies).2.1) ((yBR cr u nb t lies).2.2.2.2.1 (yBR cr u nb t lies).2.1)) nb : Nat) : Int) else -1) ∧ cQg I I' J J' := by
  obtain ⟨e, rfl⟩ : ∃ e, d = e + 1 := ⟨d - 1, by omega⟩
  have wq := yQ1_w ht
  have fl := cFillJ (d := e) (L := L) (I := I) (J := J) (r := 37) (o := 122) (n := 4096) (by omega) (by decide) rfl (by decide) 0
  have q0 : cQ (zu (zu I 121 3 0) 121 8 (-1)) (zfJ J 122 4096 0) yQ0 := by
    refine ⟨by rw [zu_n (by decide), zu_y ⟨rfl, rfl⟩]; rfl, fun k hk => absurd hk (Nat.not_lt_zero k), fun t l ht hl => ?_⟩
    have eb := yEn_b (l := l) ht
    rw [zfJ_i (by omega), yL64_0, yQ0_m]
  have hc0 : yCx (zu (zu I 121 3 0) 121 8 (-1)) (zfJ J 122 4096 0) nb u := by
    refine ⟨by rw [zu_n (by decide), zu_n (by decide)]; exact hc.1, cRl_fr (by rw [zu_o (by decide), zu_o (by decide)]) (zfJ_o (by decide)) hc.2.1, hc.2.2⟩
  obtain ⟨I1, J1, a1, a2, a3⟩ := cMeet (d := e) (L := L) (r := 37) (by omega) q0 wq.1 ht (show 0 < 729 by decide) (f := -1) (v := -1) (v' := 0) wq.2 (by decide) (by decide) (Or.inl rfl)
  rw [yEn_0] at a1
  have a1' : zCd zT e 54 [.ref 121, .int (zi (t : Int)), .int (-1), .int 0] (zm L (zu (zu I 121 3 0) 121 8 (-1)) (zfJ J 122 4096 0) 37) = _ := a1
  obtain ⟨I2, J2, b1, b2, b3⟩ := cFindL (d := e) (L := L) (by omega) (cr := cr) h3 (l2 := zi (t : Int)) 4661 0 (yQ1 t) I1 J1 rfl wq.2 a2 (yCx_f hc0 a3) (by rw [a3.2.1 6 (by decide), zu_n (by decide), zu_n (by decide)]; exact h6) (by rw [a3.2.1 8 (by decide), zu_y ⟨rfl, rfl⟩])
  have b1' : zX 3 (zCd zT e) zc_X6_find 4 [some (.ref 121), some (.int (zb1 cr)), some (.int (zi (t : Int))), some (.int 0), none] [] (zm L I1 J1 37) = _ := b1
  refine ⟨I2, J2, ?_, b2, fun o x1 x2 x3 => ?_, fun o x => ?_⟩
  · rw [qX6_find, eX6_find_0, if_neg (show ¬ zi (t : Int) = (0 : Int32) by rw [show (0 : Int32) = zi 0 from rfl, zi_eq (by omega) (by decide)]; omega), eX6_find_1, fl, zbV_s, eX6_find_2, a1', zbV_s, eX6_find_3, b1']
    rfl
  · rw [b3.1 o x1 x2 x3, a3.1 o x1 x2 x3, zu_o x1, zu_o x1]
  · rw [b3.2 o x, a3.2.2 o x, zfJ_o x]
theorem cRowA (hd : 6 ≤ d) {cr : Bool} (h3 : lies ≤ 3) (ht : t < 64) (hc : yCx I J nb u) (h6 : I 121 6 = zi (lies : Int)) {i : Int} (bi : -2147483648 ≤ i ∧ i < 2147483648) {l1 l3 l5 : Int32} : ∃ I' J', zX 0 (zCd zT d) zc_X11_row 12 [some (.ref 16), some (.int l1), some (.int (zi (t : Int))), some (.int l3), some (.int (zi i)), some (.int l5)] [.int (zb1 cr), .ref 121] (zm L I J 37) = some (some (.int (zi (yRowA cr u nb t lies i))), zm L I' J' 37) ∧ cQg I I' J J' := by
  unfold yRowA
  have hnb := hc.2.2
  by_cases q0 : t = 0
  · obtain ⟨e, rfl⟩ : ∃ e, d = e + 1 := ⟨d - 1, by omega⟩
    rw [if_pos q0, eX11_row_12, qX6_find, eX6_find_0, if_pos (show zi (t : Int) = (0 : Int32) by rw [q0]; rfl), zbI_s, eX11_row_13, if_pos rfl]
    exact ⟨I, J, rfl, fun _ _ _ _ => rfl, fun _ _ => rfl⟩
  · obtain ⟨I1, J1, a1, a2, a3⟩ := cSeek (d := d) (L := L) hd (cr := cr) h3 ht q0 hc h6
    have w := yBf_w (cr := cr) (u := u) hnb h3 4661 0 (yQ1 t) (yQ1_w ht).2
    have w' : yBw (yPc t 6) (yBR cr u nb t lies).2.2 ∧ ((yBR cr u nb t lies).1 = true → (yBR cr u nb t lies).2.1 < (yBR cr u nb t lies).2.2.1 ∧ yGo cr u nb ((yBR cr u nb t lies).2.2.2.1 (yBR cr u nb t lies).2.1) ((yBR cr u nb t lies).2.2.2.2.1 (yBR cr u nb t lies).2.1) = true) := w
    clear w
    generalize yBR cr u nb t lies = B at a1 a2 w' ⊢
    obtain ⟨fd, k, Q⟩ := B
    rw [if_neg q0, eX11_row_12, a1, zbI_s, eX11_row_13]
    cases fd
    · rw [if_pos (show zb1 false = 0 from rfl), if_neg (show ¬ (false, k, Q).1 = true from fun w => by cases w)]
      exact ⟨I1, J1, rfl, a3⟩
    · have a2 := a2 rfl
      have wk := w'.2 rfl
      have hw := w'.1
      dsimp only at a2 wk hw ⊢
      have hF : ∀ k, k < Q.1 → -1 ≤ Q.2.2.2.1 k ∧ Q.2.2.2.1 k < (k : Int) := fun k hk => (hw.1 k hk).2.2.2.2.1
      have fb := yFar_b hF 4661 k wk.1
      have hn := yBw_n hw
      rw [if_neg (show ¬ zb1 true = 0 by decide), if_pos rfl, eX11_row_14]
      have i1 : zi i = (-1 : Int32) ↔ i = -1 := zi_m1 bi
      have zb : zFs (yCrB u nb (Q.2.1 k) (Q.2.2.1 k)) nb ≤ nb := zFs_le
      refine ⟨I1, J1, ?_, a3⟩
      by_cases q : i = -1
      · have el : (if I1 121 8 = -1 then 0 else 1) = if cr = true then 1 else 0 := by
          rw [a2.2.2]
          cases cr
          · rw [if_neg (show ¬ false = true by decide), if_neg (show ¬ false = true by decide), if_pos rfl]
          · rw [if_pos rfl, if_pos rfl, if_neg (show ¬ zi ((zFs (yCrB u nb (Q.2.1 k) (Q.2.2.1 k)) nb : Nat) : Int) = (-1 : Int32) by rw [zi_m1 (by omega)]; omega)]
        rw [if_pos (i1.mpr q), cRowL (by omega) a2.1 hw wk.1 a2.2.1, zbI_s, eX11_row_15, eX11_row_17, el]
        unfold yRowV
        rw [if_pos q]
      · have bz : zFs (yCrB u nb (Q.2.1 k) (Q.2.2.1 k)) nb ≤ 5 ∨ cr = false := by
          cases cr
          · exact Or.inr rfl
          · have := wk.2
            unfold yGo at this
            rw [if_pos rfl] at this
            have := of_decide_eq_true this
            omega
        rw [if_neg (fun w => q (i1.mp w)), eX11_row_16]
        rcases bz with bz | bz
        · rw [cEvent (by omega) (cr := cr) (ev := ((zFs (yCrB u nb (Q.2.1 k) (Q.2.2.1 k)) nb : Nat) : Int)) a2.1 hw wk.1 a2.2.1 a2.2.2 (by omega) bi q, zbI_s, eX11_row_17]
        · subst bz
          have a8 : I1 121 8 = -1 := a2.2.2
          rw [cEvent (by omega) (cr := false) (ev := 0) a2.1 hw wk.1 a2.2.1 (by rw [a8, if_neg (by decide)]) (by decide) bi q, zbI_s, eX11_row_17]
          rw [yRowV_f (ev := 0), yRowV_f (ev := ((zFs (yCrB u nb (Q.2.1 k) (Q.2.2.1 k)) nb : Nat) : Int))]
end
