/-! ROWS OF EVENTS: the model opens a state -/
theorem zFs_1 {f : Nat → Bool} {n : Nat} : zFs f (n + 1) = if zFs f n < n then zFs f n else if f n = true then n else n + 1 := by
  by_cases q : zFs f n < n
  · rw [if_pos q]
    exact zFs_u (by omega) (fun j hj => zFs_n hj) (fun _ => zFs_s q)
  · rw [if_neg q]
    by_cases q2 : f n = true
    · rw [if_pos q2]
      exact zFs_u (by omega) (fun j hj => zFs_n (n := n) (by omega)) (fun _ => q2)
    · rw [if_neg q2]
      refine zFs_u (Nat.le_refl _) (fun j hj => ?_) (fun w => absurd w (Nat.lt_irrefl _))
      by_cases e : j = n
      · rw [e]
        exact Bool.eq_false_iff.mpr q2
      · exact zFs_n (n := n) (by omega)
/-- no SENSOR of a BLOCK that isn't there lies -/
def yBz (nb : Nat) (Q : yBq) : Prop := ∀ k, k < Q.1 → ∀ b, nb ≤ b → b < 6 → yLi (Q.2.2.1 k) b = 0
theorem yAdq_z {nb : Nat} {Q : yBq} (h : yBz nb Q) {t l : Nat} {f v : Int} (hl : ∀ b, nb ≤ b → b < 6 → yLi l b = 0) : yBz nb (yAdq Q t l f v) := by
  unfold yAdq
  by_cases q : yMet Q t l = true
  · rw [if_pos q]
    exact h
  · rw [if_neg q]
    intro k hk b hb hb2
    have hk : k < Q.1 + 1 := hk
    show yLi (if k = Q.1 then l else Q.2.2.1 k) b = 0
    by_cases e : k = Q.1
    · rw [if_pos e]
      exact hl b hb hb2
    · rw [if_neg e]
      exact h k (by omega) b hb hb2
theorem yLvs_z {u : yRl} {nb t l k : Nat} {Q : yBq} (h : yBz nb Q) (hl : ∀ b, nb ≤ b → b < 6 → yLi l b = 0) : ∀ b, yBz nb (yLvs u nb t l k Q b) := by
  intro b
  induction b with
  | zero => exact h
  | succ b ih =>
    rw [yLvs]
    split
    · exact yAdq_z ih hl
    · exact ih
theorem yLie_z {nb t l k e : Nat} {Q : yBq} (he : e = 1 ∨ e = 2) (h : yBz nb Q) (h7 : l < 729) (hl : ∀ b, nb ≤ b → b < 6 → yLi l b = 0) (hn : nb ≤ 6) : ∀ b, b ≤ nb → yBz nb (yLie t l k e Q b) := by
  intro b
  induction b with
  | zero => exact fun _ => h
  | succ b ih =>
    intro hb
    rw [yLie]
    by_cases q : yLi l b = 0
    · rw [if_pos q]
      refine yAdq_z (ih (by omega)) (fun c hc hc2 => ?_)
      rcases he with rfl | rfl
      · rw [(yLl1 h7 (show b < 6 by omega) q).2.2.2.2 c hc2 (by omega)]
        exact hl c hc hc2
      · rw [(yLl2 h7 (show b < 6 by omega) q).2.2.2.2 c hc2 (by omega)]
        exact hl c hc hc2
    · rw [if_neg q]
      exact ih (by omega)
theorem yExp_z {u : yRl} {nb lies k p : Nat} {Q : yBq} (h : yBz nb Q) (hw : yBw p Q) (hk : k < Q.1) (hn : nb ≤ 6) : yBz nb (yExp u nb lies k Q) := by
  have hk' := hw.1 k hk
  have h1 := yLvs_z (u := u) (t := Q.2.1 k) (k := k) h (h k hk) nb
  unfold yExp
  split
  · exact yLie_z (Or.inr rfl) (yLie_z (Or.inl rfl) h1 hk'.2.2.1 (h k hk) hn nb (Nat.le_refl nb)) hk'.2.2.1 (h k hk) hn nb (Nat.le_refl nb)
  · exact h1
def yLcN (l : Nat) : Nat → Nat
  | 0 => 0
  | b + 1 => yLcN l b + (if yLi l b = 0 then 0 else 1)
theorem yLcN_e {l nb : Nat} (hn : nb ≤ 6) (h : ∀ b, nb ≤ b → b < 6 → yLi l b = 0) : yLcN l nb = yLc l ∧ yLcN l nb ≤ 6 := by
  have h6 : yLcN l 6 = yLc l := by
    unfold yLc
    simp only [yLcN]
    omega
  have up : ∀ j, nb ≤ j → j ≤ 6 → yLcN l j = yLcN l nb := by
    intro j
    induction j with
    | zero => intro a _; rw [show nb = 0 by omega]
    | succ j ih =>
      intro a b
      by_cases e : nb = j + 1
      · rw [e]
      · rw [yLcN, h j (by omega) (by omega), if_pos rfl, ih (by omega) (by omega), Nat.add_zero]
  have le : ∀ j, yLcN l j ≤ j := by
    intro j
    induction j with
    | zero => exact Nat.le_refl 0
    | succ j ih =>
      rw [yLcN]
      split <;> omega
  exact ⟨(up 6 hn (Nat.le_refl 6)).symm.trans h6, by have := le nb; omega⟩
def mQh (I I' : Nat → Nat → Int32) : Prop := (∀ o, o ≠ 130 → o ≠ 137 → o ≠ 138 → o ≠ 139 → o ≠ 140 → o ≠ 141 → I' o = I o) ∧ ∀ k, k ≠ 33 → k ≠ 35 → I' 130 k = I 130 k
theorem mQh_r {I : Nat → Nat → Int32} : mQh I I := ⟨fun _ _ _ _ _ _ _ => rfl, fun _ _ _ => rfl⟩
theorem mQh_t {I I1 I2 : Nat → Nat → Int32} (h : mQh I I1) (g : mQh I1 I2) : mQh I I2 := ⟨fun o a b c d e f => (g.1 o a b c d e f).trans (h.1 o a b c d e f), fun k a b => (g.2 k a b).trans (h.2 k a b)⟩
theorem mQf_h {I I' : Nat → Nat → Int32} (h : mQf I I') : mQh I I' := ⟨h.1, fun k a _ => h.2 k a⟩
theorem mQ_k {I : Nat → Nat → Int32} {Q : yBq} {k : Nat} {v : Int32} (hk : k ≠ 33) (h : mQ I Q) : mQ (zu I 130 k v) Q := by
  unfold mQ at *
  rw [zu_n (by omega), zu_o (show 139 ≠ 130 by decide), zu_o (show 140 ≠ 130 by decide), zu_o (show 141 ≠ 130 by decide), zu_o (show 138 ≠ 130 by decide)]
  exact h
/-- the first EVENT that crashes, below b -/
def yGe (u : yRl) (nb t l b : Nat) : Int32 := if zFs (yCrB u nb t l) b < b then zi ((zFs (yCrB u nb t l) b : Nat) : Int) else -1
section
variable {d L r : Nat} {I : Nat → Nat → Int32} {J : Nat → Nat → Int64}
variable {p : Nat} {Q : yBq} {u : yRl} {nb k t l lies : Nat}
theorem mLiesOf (hd : 4 ≤ d) (h : yMd (I 131) nb u) (ht : t < 64) (hl : l < 729) (hz : ∀ b, nb ≤ b → b < 6 → yLi l b = 0) : zCd zT d 299 [.ref 130, .int (zi ((t + 64 * l : Nat) : Int))] (zm L I J r) = some (some (.int (zi ((yLc l : Nat) : Int))), (zm L I J r)) := by
  obtain ⟨e, rfl⟩ : ∃ e, d = e + 1 := ⟨d - 1, by omega⟩
  have hnb := h.2.1
  have le := yLcN_e hnb.2 hz
  have loop := zFor (n := nb) (G := fun b => zX 0 (zCd zT e) zc_X12_liesOf 1 [some (.ref 130), some (.int (zi ((t + 64 * l : Nat) : Int))), some (.int (zi ((yLcN l b : Nat) : Int))), some (.int (zi ((b : Nat) : Int)))] [] (zm L I J r)) (fun b hb => by
    have k1 : zi ((b : Nat) : Int) + (1 : Int32) = zi ((b + 1 : Nat) : Int) := zi_add _ 1
    rw [eX12_liesOf_1, mBks (by omega) h, zbI_s, eX12_liesOf_2, if_neg (show ¬ zi (nb : Int) ≤ zi ((b : Nat) : Int) by rw [zi_le (by omega) (by omega)]; omega), mLie (by omega) (by omega) (by omega), zbI_s, show (t + 64 * l) / 64 = l by omega, eX12_liesOf_3, yLcN]
    rcases yLi_b (l := l) (b := b) with q | q | q
    · rw [q, if_pos (show zi ((0 : Nat) : Int) = (0 : Int32) from rfl), eX12_liesOf_5, k1, if_pos rfl, show (0 : Int32) = zi 0 from rfl, zi_add]
      rfl
    · rw [q, if_neg (show ¬ zi ((1 : Nat) : Int) = (0 : Int32) by decide), eX12_liesOf_4, eX12_liesOf_5, k1, if_neg (by decide), show (1 : Int32) = zi 1 from rfl, zi_add]
      rfl
    · rw [q, if_neg (show ¬ zi ((2 : Nat) : Int) = (0 : Int32) by decide), eX12_liesOf_4, eX12_liesOf_5, k1, if_neg (by decide), show (1 : Int32) = zi 1 from rfl, zi_add]
      rfl)
  have z0 : zX 0 (zCd zT e) zc_X12_liesOf 1 [some (.ref 130), some (.int (zi ((t + 64 * l : Nat) : Int))), some (.int 0), some (.int 0)] [] (zm L I J r) = _ := loop
  rw [qX12_liesOf, eX12_liesOf_0, z0, eX12_liesOf_1, mBks (by omega) h, zbI_s, eX12_liesOf_2, if_pos (Int32.le_refl _), eX12_liesOf_6, le.1]
theorem mStop (hd : 7 ≤ d) (h : yMd (I 131) nb u) (ht : t < 64) (hl : l < 729) : ∃ I', zCd zT d 298 [.ref 130, .int (zi ((t + 64 * l : Nat) : Int))] (zm L I J r) = some (some (.int (zb1 (!decide (t = 0) && !decide (zFs (yStB u nb t l) nb < nb)))), (zm L I' J r)) ∧ ∀ o, o ≠ 137 → I' o = I o := by
  obtain ⟨e, rfl⟩ : ∃ e, d = e + 1 := ⟨d - 1, by omega⟩
  have hnb := h.2.1
  have e2 : (t + 64 * l) % 64 = t := by omega
  have d1 : zi ((t + 64 * l : Nat) : Int) / (64 : Int32) = zi ((l : Nat) : Int) := (zi_div (y := 64) (by omega) (by decide)).trans (congrArg zi (by omega))
  have d4 : zi ((l : Nat) : Int) * (64 : Int32) = zi ((l * 64 : Nat) : Int) := (zi_mul _ 64).trans rfl
  have d5 : zi ((t + 64 * l : Nat) : Int) - zi ((l * 64 : Nat) : Int) = zi (t : Int) := (zi_sub _ _).trans (congrArg zi (by omega))
  rw [qX12_isStopped, eX12_isStopped_0, d1, d4, d5]
  by_cases q0 : t = 0
  · rw [if_pos (show zi (t : Int) = (0 : Int32) by rw [q0]; rfl), decide_eq_true q0]
    exact ⟨I, rfl, fun _ _ => rfl⟩
  · rw [if_neg (show ¬ zi (t : Int) = (0 : Int32) by rw [show (0 : Int32) = zi 0 from rfl, zi_eq (by omega) (by decide)]; omega), decide_eq_false q0, Bool.not_false, Bool.true_and, eX12_isStopped_1]
    obtain ⟨m, c1, c2⟩ := zForS (n := nb) (M := Nat → Nat → Int32) (stop := yStB u nb t l) (G := fun b m => zX 3 (zCd zT e) zc_X12_isStopped 2 [some (.ref 130), some (.int (zi ((t + 64 * l : Nat) : Int))), some (.int (zi ((b : Nat) : Int)))] [] (zm L m J r)) (E := fun _ m => some (some (.int 0), zm L m J r)) (P := fun m => ∀ o, o ≠ 137 → m o = I o) (fun b m hb hm => by
      have hm1 : m 131 = I 131 := hm 131 (by decide)
      have hh : yMd (m 131) nb u := by rw [hm1]; exact h
      have k1 : zi ((b : Nat) : Int) + (1 : Int32) = zi ((b + 1 : Nat) : Int) := zi_add _ 1
      rw [eX12_isStopped_2, mBks (by omega) hh, zbI_s, eX12_isStopped_3, if_neg (show ¬ zi (nb : Int) ≤ zi ((b : Nat) : Int) by rw [zi_le (by omega) (by omega)]; omega), mIn (by omega) (by omega) (by omega), zbI_s, eX12_isStopped_4, e2]
      unfold yStB
      cases q1 : t.testBit b
      · rw [if_pos (show zb1 false = 0 from rfl), eX12_isStopped_6, k1, Bool.false_and]
        refine ⟨m, hm, ?_⟩
        rw [if_neg (show ¬ false = true by decide)]
      · obtain ⟨I2, r1, r2⟩ := mMay (d := e) (L := L) (J := J) (r := r) (by omega) hh hb ht hl
        rw [if_neg (show ¬ zb1 true = 0 by decide), r1, zbI_s, eX12_isStopped_5, Bool.true_and]
        refine ⟨I2, fun o ho => (r2 o ho).trans (hm o ho), ?_⟩
        cases yMa u nb (ySw t l) b
        · rw [if_pos (show zb1 false = 0 from rfl), eX12_isStopped_6, k1, if_neg (by decide)]
        · rw [if_neg (show ¬ zb1 true = 0 by decide), if_pos rfl]) I (fun _ _ => rfl)
    have z0 : zX 3 (zCd zT e) zc_X12_isStopped 2 [some (.ref 130), some (.int (zi ((t + 64 * l : Nat) : Int))), some (.int 0)] [] (zm L I J r) = _ := c2
    have hm1 : m 131 = I 131 := c1 131 (by decide)
    have hh : yMd (m 131) nb u := by rw [hm1]; exact h
    refine ⟨m, ?_, c1⟩
    rw [z0]
    by_cases q : zFs (yStB u nb t l) nb < nb
    · rw [if_pos q, decide_eq_true q]
      rfl
    · rw [if_neg q, decide_eq_false q, eX12_isStopped_2, mBks (by omega) hh, zbI_s, eX12_isStopped_3, if_pos (Int32.le_refl _), eX12_isStopped_7]
      rfl
theorem mLvs (hd : 6 ≤ d) (hM : yMd (I 131) nb u) (h : mQ I Q) (hq : yBw p Q) (hk : k < Q.1) (e1 : Q.2.1 k = t) (e2 : Q.2.2.1 k = l) (h35 : I 130 35 = -1) : ∃ I', zX 3 (zCd zT d) zc_X12_opens 1 [some (.ref 130), some (.int (zi (k : Int))), some (.int (zi (lies : Int))), some (.int (zi ((t + 64 * l : Nat) : Int))), some (.int 0), none] [] (zm L I J r) = zX 3 (zCd zT d) zc_X12_opens 10 [some (.ref 130), some (.int (zi (k : Int))), some (.int (zi (lies : Int))), some (.int (zi ((t + 64 * l : Nat) : Int))), some (.int (zi (nb : Int))), none] [] (zm L I' J r) ∧ mQ I' (yLvs u nb t l k Q nb) ∧ mQh I I' ∧ I' 130 35 = yGe u nb t l nb := by
  have hn := yBw_n hq
  have hk' := hq.1 k hk
  rw [e1, e2] at hk'
  have ht := hk'.1
  have hl := hk'.2.2.1
  have hnb := hM.2.1
  have e64 : (t + 64 * l) % 64 = t := by omega
  obtain ⟨m, c1, c2, c3, c4⟩ := zForI (n := nb) (M := Nat → Nat → Int32) (G := fun b m => zX 3 (zCd zT d) zc_X12_opens 1 [some (.ref 130), some (.int (zi (k : Int))), some (.int (zi (lies : Int))), some (.int (zi ((t + 64 * l : Nat) : Int))), some (.int (zi ((b : Nat) : Int))), none] [] (zm L m J r)) (P := fun b m => mQ m (yLvs u nb t l k Q b) ∧ mQh I m ∧ m 130 35 = yGe u nb t l b) (fun b m hb hm => by
    have k1 : zi ((b : Nat) : Int) + (1 : Int32) = zi ((b + 1 : Nat) : Int) := zi_add _ 1
    have hm1 : m 131 = I 131 := hm.2.1.1 131 (by decide) (by decide) (by decide) (by decide) (by decide) (by decide)
    have hh : yMd (m 131) nb u := by rw [hm1]; exact hM
    have nx := yNx_b hb
    have w0 := yLvs_w (u := u) hq hk hnb.2 e1 e2 b (by omega)
    have ge1 : yGe u nb t l (b + 1) = if zFs (yCrB u nb t l) b < b then zi ((zFs (yCrB u nb t l) b : Nat) : Int) else if yCrB u nb t l b = true then zi (b : Int) else -1 := by
      unfold yGe
      rw [zFs_1]
      by_cases q : zFs (yCrB u nb t l) b < b
      · rw [if_pos q, if_pos (by omega), if_pos q]
      · rw [if_neg q, if_neg q]
        by_cases q2 : yCrB u nb t l b = true
        · rw [if_pos q2, if_pos (Nat.lt_succ_self b), if_pos q2]
        · rw [if_neg q2, if_neg (Nat.lt_irrefl _), if_neg q2]
    have ge2 : ∀ x, yCrB u nb t l b = false → x = yGe u nb t l b → x = yGe u nb t l (b + 1) := by
      intro x w1 w2
      rw [ge1, w1, w2, if_neg (show ¬ false = true by decide)]
      rfl
    rw [yLvs, eX12_opens_1, mBks (by omega) hh, zbI_s, eX12_opens_2, if_neg (show ¬ zi (nb : Int) ≤ zi ((b : Nat) : Int) by rw [zi_le (by omega) (by omega)]; omega), mIn (by omega) (by omega) (by omega), zbI_s, eX12_opens_3, e64]
    have cb : yCrB u nb t l b = (t.testBit (yNx nb b) && (t.testBit b && yMa u nb (ySw t l) b)) := rfl
    cases q1 : t.testBit b
    · rw [q1, Bool.false_and, Bool.and_false] at cb
      rw [if_pos (show zb1 false = 0 from rfl), eX12_opens_9, k1, if_neg (fun w => by cases w.1)]
      exact ⟨m, rfl, hm.1, hm.2.1, ge2 _ cb hm.2.2⟩
    · obtain ⟨I2, r1, r2⟩ := mMay (d := d) (L := L) (J := J) (r := r) (by omega) hh hb ht hl
      have hq2 := mQ_7 r2 hm.1
      have hf2 := mQh_t hm.2.1 (mQf_h (mQf_7 r2))
      have h35' : I2 130 35 = yGe u nb t l b := by rw [r2 130 (by decide)]; exact hm.2.2
      have hh2 : yMd (I2 131) nb u := by rw [r2 131 (by decide)]; exact hh
      rw [if_neg (show ¬ zb1 true = 0 by decide), r1, zbI_s, eX12_opens_4]
      cases q3 : yMa u nb (ySw t l) b
      · rw [q3, Bool.and_false, Bool.and_false] at cb
        rw [if_pos (show zb1 false = 0 from rfl), eX12_opens_9, k1, if_neg (fun w => by cases w.2.1)]
        exact ⟨I2, rfl, hq2, hf2, ge2 _ cb h35'⟩
      · rw [if_neg (show ¬ zb1 true = 0 by decide), eX12_opens_5, mBeh (by omega) hh2 hb, zbI_s, eX12_opens_6, mIn (by omega) (by omega) (by omega), zbI_s, eX12_opens_7, e64]
        cases q2 : t.testBit (yNx nb b)
        · rw [q2, Bool.false_and] at cb
          have mv := yMv ht (b := b) (x := yNx nb b) (by omega) (by omega) q1 q2
          have p1 : 2 ^ b ≤ 2 ^ 6 := Nat.pow_le_pow_right (by decide) (by omega)
          have p2 : 2 ^ yNx nb b ≤ 2 ^ 6 := Nat.pow_le_pow_right (by decide) (by omega)
          have est : (zi ((t + 64 * l : Nat) : Int) - ((1 : Int32) <<< (zi ((b : Nat) : Int) &&& 31))) + ((1 : Int32) <<< (zi ((yNx nb b : Nat) : Int) &&& 31)) = zi ((t - 2 ^ b + 2 ^ yNx nb b + 64 * l : Nat) : Int) := by
            rw [yShl (by omega), yShl (by omega), zi_sub, zi_add]
            exact congrArg zi (by omega)
          obtain ⟨I3, s1, s2, s3⟩ := mMeet (d := d) (L := L) (J := J) (r := r) (by omega) hq2 w0.1 mv.1 hl (f := (k : Int)) (v := (b : Int))
          rw [if_pos (show zb1 false = 0 from rfl), eX12_opens_8, est, s1, zbV_s, eX12_opens_9, k1, if_pos ⟨rfl, rfl, rfl⟩]
          exact ⟨I3, rfl, s2, mQh_t hf2 (mQf_h s3), ge2 _ cb ((s3.2 35 (by decide)).trans h35')⟩
        · rw [q1, q2, q3] at cb
          rw [if_neg (show ¬ zb1 true = 0 by decide), if_neg (show ¬ (true = true ∧ true = true ∧ true = false) from fun w => by cases w.2.2), h35']
          by_cases q : zFs (yCrB u nb t l) b < b
          · have e35 : yGe u nb t l b = zi ((zFs (yCrB u nb t l) b : Nat) : Int) := if_pos q
            rw [e35, if_neg (show ¬ zi ((zFs (yCrB u nb t l) b : Nat) : Int) = (-1 : Int32) by rw [zi_m1 (by omega)]; omega), eX12_opens_9, k1]
            exact ⟨I2, rfl, hq2, hf2, by rw [h35', e35, ge1, if_pos q]⟩
          · have e35 : yGe u nb t l b = -1 := if_neg q
            rw [e35, if_pos rfl, eX12_opens_9, k1]
            refine ⟨_, rfl, mQ_k (by decide) hq2, mQh_t hf2 ⟨fun o x1 _ _ _ _ _ => zu_o x1, fun j _ x2 => zu_n (by omega)⟩, ?_⟩
            rw [zu_y ⟨rfl, rfl⟩, ge1, if_neg q, if_pos (show yCrB u nb t l b = true from cb)]) I ⟨h, mQh_r, by rw [h35]; exact (if_neg (Nat.not_lt_zero _)).symm⟩
  have z0 : zX 3 (zCd zT d) zc_X12_opens 1 [some (.ref 130), some (.int (zi (k : Int))), some (.int (zi (lies : Int))), some (.int (zi ((t + 64 * l : Nat) : Int))), some (.int 0), none] [] (zm L I J r) = _ := c1
  have hm1 : m 131 = I 131 := c3.1 131 (by decide) (by decide) (by decide) (by decide) (by decide) (by decide)
  have hh : yMd (m 131) nb u := by rw [hm1]; exact hM
  refine ⟨m, ?_, c2, c3, c4⟩
  rw [z0, eX12_opens_1, mBks (by omega) hh, zbI_s, eX12_opens_2, if_pos (Int32.le_refl _)]
end
