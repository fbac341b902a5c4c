/-! ROWS OF EVENTS: the model's row, the question -/
section
variable {d L r : Nat} {I : Nat → Nat → Int32} {J : Nat → Nat → Int64}
variable {p : Nat} {Q : yBq} {u : yRl} {nb k t l lies : Nat}
theorem mLook (hd : 9 ≤ d) {cr : Bool} (h3 : lies ≤ 3) {g : Nat} (hg : 4661 = g) (ht : t < 64) (hM : yMd (I 131) nb u) : ∃ I', zCd zT d 302 [.ref 130, .int (zb1 (!cr)), .int (zi (t : Int)), .int (zi (lies : Int))] (zm L I J r) = some (some (.int (zi (if (yBm cr u nb lies g 0 (yQ1 t)).1 = true then ((yFar (yBm cr u nb lies g 0 (yQ1 t)).2.2.2.2.2.1 g (yBm cr u nb lies g 0 (yQ1 t)).2.1 + (if cr = true then 1 else 0) : Nat) : Int) else -1))), (zm L I' J r)) ∧ ((yBm cr u nb lies g 0 (yQ1 t)).1 = true → ∃ Q', mQ I' Q' ∧ ySub2 (yBm cr u nb lies g 0 (yQ1 t)).2.2 Q' ∧ I' 130 34 = zi ((yBm cr u nb lies g 0 (yQ1 t)).2.1 : Int) ∧ (cr = true → I' 130 35 = zi ((zFs (yCrB u nb ((yBm cr u nb lies g 0 (yQ1 t)).2.2.2.1 (yBm cr u nb lies g 0 (yQ1 t)).2.1) ((yBm cr u nb lies g 0 (yQ1 t)).2.2.2.2.1 (yBm cr u nb lies g 0 (yQ1 t)).2.1)) nb : Nat) : Int))) ∧ mQi I I' := by
  obtain ⟨e, rfl⟩ : ∃ e, d = e + 1 := ⟨d - 1, by omega⟩
  have wq := yQ1_w ht
  have fill := zFor (n := 46656) (G := fun i => zX 0 (zCd zT e) zc_X12_looks 1 [some (.ref 130), some (.int (zb1 (!cr))), some (.int (zi (t : Int))), some (.int (zi (lies : Int))), some (.int (zi ((i : Nat) : Int))), none] [] (zm L (zfI I 138 i 0) J r)) (fun i hi => by
    have k1 : zi ((i : Nat) : Int) + (1 : Int32) = zi ((i + 1 : Nat) : Int) := zi_add _ 1
    rw [eX12_looks_1, if_neg (show ¬ (46656 : Int32) ≤ zi ((i : Nat) : Int) by rw [show (46656 : Int32) = zi 46656 from rfl, zi_le (by decide) (by omega)]; omega), zin_t (by omega) (by omega), Bool.true_and, zgd_t, zi_cl (by omega), Int.toNat_natCast, zfI_s, k1])
  have z0 : zX 0 (zCd zT e) zc_X12_looks 1 [some (.ref 130), some (.int (zb1 (!cr))), some (.int (zi (t : Int))), some (.int (zi (lies : Int))), some (.int 0), none] [] (zm L (zfI I 138 0 0) J r) = _ := fill
  rw [zfI_0] at z0
  have q0 : mQ (zu (zu (zfI I 138 46656 0) 130 33 0) 130 35 (-1)) yQ0 := by
    refine ⟨by rw [zu_n (by decide), zu_y ⟨rfl, rfl⟩]; rfl, fun k hk => absurd hk (Nat.not_lt_zero k), fun t l ht hl => ?_⟩
    rw [zu_o (by decide), zu_o (by decide), zfI_i (by omega), yQ0_m]
    rfl
  obtain ⟨I1, a1, a2, a3⟩ := mMeet (d := e) (L := L) (J := J) (r := r) (by omega) q0 wq.1 ht (show 0 < 729 by decide) (f := -1) (v := -1)
  have a1' : zCd zT e 300 [.ref 130, .int (zi (t : Int)), .int (-1), .int (-1)] (zm L (zu (zu (zfI I 138 46656 0) 130 33 0) 130 35 (-1)) J r) = some (none, (zm L I1 J r)) := a1
  have fr1 : mQi I I1 := by
    refine ⟨fun o x1 x2 x3 x4 x5 x6 => ?_, fun j y1 y2 y3 => ?_⟩
    · rw [a3.1 o x1 x2 x3 x4 x5 x6, zu_o x1, zu_o x1, zfI_o x3]
    · rw [a3.2 j y1, zu_n (by omega), zu_n (by omega), zfI_o (by decide)]
  have hM1 : yMd (I1 131) nb u := by
    rw [fr1.1 131 (by decide) (by decide) (by decide) (by decide) (by decide) (by decide)]
    exact hM
  have z1 : yBz nb (yQ1 t) := yAdq_z (fun k hk => absurd hk (Nat.not_lt_zero k)) (fun b _ hb => by
    have key : ∀ b : Fin 6, yLi 0 b.1 = 0 := by decide
    exact key ⟨b, hb⟩)
  have h35 : I1 130 35 = -1 := by rw [a3.2 35 (by decide), zu_y ⟨rfl, rfl⟩]
  obtain ⟨I2, b1, b2, b3⟩ := mLookL (d := e) (L := L) (J := J) (r := r) (by omega) (cr := cr) h3 (l2 := zi (t : Int)) hg g 0 (yQ1 t) I1 rfl wq.2 z1 a2 hM1 h35
  have b1' : zX 0 (zCd zT e) zc_X12_looks 4 [some (.ref 130), some (.int (zb1 (!cr))), some (.int (zi (t : Int))), some (.int (zi (lies : Int))), some (.int 0), none] [] (zm L I1 J r) = _ := b1
  refine ⟨I2, ?_, b2, mQi_t fr1 b3⟩
  rw [qX12_looks, eX12_looks_0, z0, eX12_looks_1, if_pos (show (46656 : Int32) ≤ zi ((46656 : Nat) : Int) by decide), eX12_looks_2, a1', zbV_s, eX12_looks_3, b1']
theorem yRowA_e {cr : Bool} {g : Nat} (hg : 4661 = g) (hn : nb ≤ 6) (h3 : lies ≤ 3) (ht : t < 64) (h0 : t ≠ 0) : yBR cr u nb t lies = yBm cr u nb lies g 0 (yQ1 t) := by
  have hp : yPc t 6 ≠ 0 := fun w => h0 ((yPc_z ht).mp w)
  rw [yBm_e hn h3 hp g 0 _ (yQ1_w ht).2]
  unfold yBR
  rw [hg]
theorem mRowA (hd : 9 ≤ d) {cr : Bool} (h3 : lies ≤ 3) (ht : t < 64) (hM : yMd (I 131) nb u) {i : Int} (bi : -2147483648 ≤ i ∧ i < 2147483648) {g : Nat} (hg : 4661 = g) : ∃ I', zX 0 (zCd zT d) zc_X12_row 10 [some (.ref 130), some (.int (zb1 (!cr))), some (.int (zi (t : Int))), some (.int (zi (lies : Int))), some (.int (zi i)), none, none, none] [] (zm L I J r) = some (some (.int (zi (yRowA cr u nb t lies i))), (zm L I' J r)) ∧ mQi I I' := by
  have hnb := hM.2.1
  obtain ⟨I1, a1, a2, a3⟩ := mLook (d := d) (L := L) (J := J) (r := r) hd (cr := cr) h3 hg ht hM
  refine ⟨I1, ?_, a3⟩
  unfold yRowA
  rw [eX12_row_10, a1, zbI_s]
  by_cases q0 : t = 0
  · have w0 : yBw 0 (yQ1 t) := by
      have := (yQ1_w ht).2
      rw [(yPc_z ht).mpr q0] at this
      exact this
    rw [if_pos q0, yBm_0 hnb.2 h3 g 0 _ w0, if_neg (show ¬ false = true by decide), eX12_row_11, if_pos (show zi (-1) = (-1 : Int32) from rfl), eX12_row_12]
  · have w := yBf_w (cr := cr) (u := u) (lies := lies) hnb.2 h3 4661 0 (yQ1 t) (yQ1_w ht).2
    have w' : yBw (yPc t 6) (yBR cr u nb t lies).2.2 ∧ ((yBR cr u nb t lies).1 = true → (yBR cr u nb t lies).2.1 < (yBR cr u nb t lies).2.2.1 ∧ yGo cr u nb ((yBR cr u nb t lies).2.2.2.1 (yBR cr u nb t lies).2.1) ((yBR cr u nb t lies).2.2.2.2.1 (yBR cr u nb t lies).2.1) = true) := w
    clear w
    have e1 := yRowA_e (cr := cr) (u := u) hg hnb.2 h3 ht q0
    rw [← e1] at a2 ⊢
    rw [if_neg q0]
    have yF4 : ∀ (F : Nat → Int) (k : Nat), yFar F 4661 k = yFar F g k := fun F k => by rw [hg]
    rw [yF4]
    have hpos := @yBk_p
    rw [hg] at hpos
    generalize yBR cr u nb t lies = B at a2 w' ⊢
    obtain ⟨fd, k, Q⟩ := B
    cases fd
    · rw [if_neg (show ¬ (false, k, Q).1 = true from fun w => by cases w), if_neg (show ¬ (false, k, Q).1 = true from fun w => by cases w), eX12_row_11, if_pos (show zi (-1) = (-1 : Int32) from rfl), eX12_row_12]
    · obtain ⟨Q', m1, m2, m3, m4⟩ := a2 rfl
      have wk := w'.2 rfl
      have hw := w'.1
      dsimp only at m2 m3 m4 wk hw ⊢
      have hF : ∀ k, k < Q.1 → -1 ≤ Q.2.2.2.1 k ∧ Q.2.2.2.1 k < (k : Int) := fun k hk => (hw.1 k hk).2.2.2.2.1
      have fb := yFar_b hF g k wk.1
      have hn := yBw_n hw
      have i1 : zi i = (-1 : Int32) ↔ i = -1 := zi_m1 bi
      rw [if_pos (show (true, k, Q).1 = true from rfl), if_pos (show (true, k, Q).1 = true from rfl)]
      try dsimp only
      unfold yRowV
      generalize hlen : yFar Q.2.2.2.1 g k + (if cr = true then 1 else 0) = len
      have blen : len ≤ 4660 := by
        rw [← hlen]
        split <;> omega
      have sb : zi (len : Int) - (1 : Int32) = zi ((len : Int) - 1) := zi_sub _ 1
      rw [eX12_row_11, if_neg (show ¬ zi (len : Int) = (-1 : Int32) by rw [zi_m1 (by omega)]; omega)]
      by_cases q : i = -1
      · rw [if_pos (i1.mpr q), eX12_row_12, if_pos q]
      · rw [if_neg (fun w => q (i1.mp w)), eX12_row_13, sb, mWithin (by omega) bi, zbI_s, eX12_row_14, y64 (by omega), show (0 : Int64).toInt = 0 from rfl, if_neg q]
        by_cases q1 : i < 0 ∨ (len : Int) ≤ i
        · have zt : zbo i 0 ((len : Int) - 1) = true := by
            unfold zbo
            exact decide_eq_true (by omega)
          rw [if_pos q1, zt, if_pos (show zb1 (!true) = 0 from rfl)]
          rfl
        · have zt : zbo i 0 ((len : Int) - 1) = false := by
            unfold zbo
            exact decide_eq_false (by omega)
          rw [if_neg q1, zt, if_neg (show ¬ zb1 (!false) = 0 by decide), eX12_row_15]
          obtain ⟨i, rfl⟩ : ∃ j : Nat, i = j := ⟨i.toNat, by omega⟩
          have walk : ∀ l7 : Int32, l7 = zi ((yFar Q.2.2.2.1 g k : Int) - 1) → i < yFar Q.2.2.2.1 g k → zX 0 (zCd zT d) zc_X12_row 18 [some (.ref 130), some (.int (zb1 (!cr))), some (.int (zi (t : Int))), some (.int (zi (lies : Int))), some (.int (zi (i : Int))), some (.int (zi (len : Int))), some (.int (zi (k : Int))), none] [.int l7] (zm L I1 J r) = some (some (.int (zi (Q.2.2.2.2 (yBk Q.2.2.2.1 (yFar Q.2.2.2.1 g k - 1 - i) k)))), (zm L I1 J r)) := by
            intro l7 hl7 hi
            have lp := zFor (n := yFar Q.2.2.2.1 g k - 1 - i) (G := fun j => zX 0 (zCd zT d) zc_X12_row 19 [some (.ref 130), some (.int (zb1 (!cr))), some (.int (zi (t : Int))), some (.int (zi (lies : Int))), some (.int (zi (i : Int))), some (.int (zi (len : Int))), some (.int (zi ((yBk Q.2.2.2.1 j k : Nat) : Int))), some (.int (zi ((yFar Q.2.2.2.1 g k : Int) - 1 - (j : Int))))] [] (zm L I1 J r)) (fun j hj => by
              have bp := hpos hn hF j k wk.1 (by omega)
              have hk' := hw.1 _ bp.1
              have s1 := m2.2 _ bp.1
              have h140 := (m1.2.1 _ (show yBk Q.2.2.2.1 j k < Q'.1 by have := m2.1; omega)).2.1
              have k1 : zi ((yFar Q.2.2.2.1 g k : Int) - 1 - (j : Int)) + (-1 : Int32) = zi ((yFar Q.2.2.2.1 g k : Int) - 1 - ((j + 1 : Nat) : Int)) := by
                rw [show (-1 : Int32) = zi (-1) from rfl, zi_add]
                exact congrArg zi (by omega)
              have ek : zi (Q.2.2.2.1 (yBk Q.2.2.2.1 j k)) = zi ((yBk Q.2.2.2.1 (j + 1) k : Nat) : Int) := by
                rw [yBk_s]
                exact congrArg zi (by omega)
              rw [eX12_row_19, if_neg (show ¬ zi ((yFar Q.2.2.2.1 g k : Int) - 1 - (j : Int)) ≤ zi (i : Int) by rw [zi_le (by omega) (by omega)]; omega), zin_t (by omega) (by omega), zgd_t, zi_cl (by omega), Int.toNat_natCast, h140, s1.2.2.1, ek, k1])
            have z0 : zX 0 (zCd zT d) zc_X12_row 19 [some (.ref 130), some (.int (zb1 (!cr))), some (.int (zi (t : Int))), some (.int (zi (lies : Int))), some (.int (zi (i : Int))), some (.int (zi (len : Int))), some (.int (zi (k : Int))), some (.int (zi ((yFar Q.2.2.2.1 g k : Int) - 1 - ((0 : Nat) : Int))))] [] (zm L I1 J r) = _ := lp
            have e0 : zi ((yFar Q.2.2.2.1 g k : Int) - 1) = zi ((yFar Q.2.2.2.1 g k : Int) - 1 - ((0 : Nat) : Int)) := congrArg zi (by omega)
            have bp := hpos hn hF (yFar Q.2.2.2.1 g k - 1 - i) k wk.1 (by omega)
            have s1 := m2.2 _ bp.1
            have h141 := (m1.2.1 _ (show yBk Q.2.2.2.1 (yFar Q.2.2.2.1 g k - 1 - i) k < Q'.1 by have := m2.1; omega)).2.2
            rw [eX12_row_18, hl7, e0, z0, eX12_row_19, if_pos (show zi ((yFar Q.2.2.2.1 g k : Int) - 1 - ((yFar Q.2.2.2.1 g k - 1 - i : Nat) : Int)) ≤ zi (i : Int) by rw [zi_le (by omega) (by omega)]; omega), eX12_row_20, zin_t (by omega) (by omega), zgd_t, zi_cl (by omega), Int.toNat_natCast, h141, s1.2.2.2]
          rw [Int.toNat_natCast]
          cases cr
          · rw [if_neg (show ¬ false = true by decide)] at hlen
            rw [if_neg (show ¬ zb1 (!false) = 0 by decide), if_neg (show ¬ (false = true ∧ (i : Int) = ((yFar Q.2.2.2.1 g k : Nat) : Int)) from fun w => by cases w.1), eX12_row_16, if_neg (show ¬ zb1 (!false) = 0 by decide), eX12_row_17, m3, sb]
            exact walk _ (congrArg zi (by omega)) (by omega)
          · rw [if_pos rfl] at hlen
            have z2 : zi (i : Int) = zi ((len : Int) - 1) ↔ (i : Int) = (len : Int) - 1 := zi_eq bi (by omega)
            rw [if_pos (show zb1 (!true) = 0 from rfl), sb]
            by_cases q4 : (i : Int) = ((yFar Q.2.2.2.1 g k : Nat) : Int)
            · rw [if_pos (z2.mpr (by omega)), if_pos ⟨rfl, q4⟩, m4 rfl]
            · have sb2 : zi (len : Int) - (2 : Int32) = zi ((yFar Q.2.2.2.1 g k : Int) - 1) := (zi_sub _ 2).trans (congrArg zi (by omega))
              rw [if_neg (fun w => by have := z2.mp w; omega), if_neg (fun w => q4 w.2), eX12_row_16, if_pos (show zb1 (!true) = 0 from rfl), m3, sb2]
              exact walk _ rfl (by omega)
end
