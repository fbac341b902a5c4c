/-! ROWS OF EVENTS: the model's answer -/
def yGm (cr : Bool) (u : yRl) (nb t l : Nat) : Bool := if cr = true then decide (zFs (yCrB u nb t l) nb < nb) else (!decide (t = 0) && !decide (zFs (yStB u nb t l) nb < nb))
def yBm (cr : Bool) (u : yRl) (nb lies : Nat) : Nat → Nat → yBq → Bool × Nat × yBq
  | 0, k, Q => (false, k, Q)
  | f + 1, k, Q => if k < Q.1 then (if yGm cr u nb (Q.2.1 k) (Q.2.2.1 k) = true then (true, k, Q) else yBm cr u nb lies f (k + 1) (yExp u nb lies k Q)) else (false, k, Q)
theorem yPc_z {t : Nat} (h : t < 64) : yPc t 6 = 0 ↔ t = 0 := by
  have key : ∀ t : Fin 64, yPc t.1 6 = 0 ↔ t.1 = 0 := by decide +kernel
  exact key ⟨t, h⟩
theorem yBm_e {cr : Bool} {u : yRl} {nb lies p : Nat} (hn : nb ≤ 6) (hl : lies ≤ 3) (hp : p ≠ 0) : ∀ (f k : Nat) (Q : yBq), yBw p Q → yBm cr u nb lies f k Q = yBf cr u nb lies f k Q := by
  intro f
  induction f with
  | zero => intro k Q _; rfl
  | succ f ih =>
    intro k Q h
    rw [yBm, yBf]
    by_cases q1 : k < Q.1
    · have hk := h.1 k q1
      have ht : ¬ Q.2.1 k = 0 := fun w => hp (by rw [← hk.2.1]; exact (yPc_z hk.1).mpr w)
      have e : yGm cr u nb (Q.2.1 k) (Q.2.2.1 k) = yGo cr u nb (Q.2.1 k) (Q.2.2.1 k) := by
        unfold yGm yGo
        rw [decide_eq_false ht, Bool.not_false, Bool.true_and]
      rw [if_pos q1, if_pos q1, e, ih _ _ (yExp_w h q1 hn hl).1]
    · rw [if_neg q1, if_neg q1]
theorem yBm_0 {cr : Bool} {u : yRl} {nb lies : Nat} (hn : nb ≤ 6) (hl : lies ≤ 3) : ∀ (f k : Nat) (Q : yBq), yBw 0 Q → (yBm cr u nb lies f k Q).1 = false := by
  intro f
  induction f with
  | zero => intro k Q _; rfl
  | succ f ih =>
    intro k Q h
    rw [yBm]
    by_cases q1 : k < Q.1
    · have hk := h.1 k q1
      have ht : Q.2.1 k = 0 := (yPc_z hk.1).mp hk.2.1
      have e : yGm cr u nb (Q.2.1 k) (Q.2.2.1 k) = false := by
        unfold yGm
        rw [ht, decide_eq_true rfl, Bool.not_true, Bool.false_and]
        cases cr
        · rfl
        · rw [if_pos rfl]
          have : zFs (yCrB u nb 0 (Q.2.2.1 k)) nb = nb := zFs_u (Nat.le_refl _) (fun j _ => by unfold yCrB; rw [Nat.zero_testBit, Nat.zero_testBit]; rfl) (fun w => absurd w (Nat.lt_irrefl _))
          rw [this, decide_eq_false (Nat.lt_irrefl _)]
      rw [if_pos q1, e, if_neg (by decide)]
      exact ih _ _ (yExp_w h q1 hn hl).1
    · rw [if_neg q1]
theorem yFar_e {F G : Nat → Int} {n : Nat} (hF : ∀ k, k < n → -1 ≤ F k ∧ F k < (k : Int)) (h : ∀ k, k < n → G k = F k) : ∀ (f k : Nat), k < n → yFar G f k = yFar F f k := by
  intro f
  induction f with
  | zero => intro k _; rfl
  | succ f ih =>
    intro k hk
    have := hF k hk
    rw [yFar, yFar, h k hk]
    by_cases q : F k = -1
    · rw [if_pos q, if_pos q]
    · rw [if_neg q, if_neg q, ih _ (by omega)]
def mQi (I I' : Nat → Nat → Int32) : Prop := (∀ o, o ≠ 130 → o ≠ 137 → o ≠ 138 → o ≠ 139 → o ≠ 140 → o ≠ 141 → I' o = I o) ∧ ∀ k, k ≠ 33 → k ≠ 34 → k ≠ 35 → I' 130 k = I 130 k
theorem mQi_r {I : Nat → Nat → Int32} : mQi I I := ⟨fun _ _ _ _ _ _ _ => rfl, fun _ _ _ _ => rfl⟩
theorem mQi_t {I I1 I2 : Nat → Nat → Int32} (h : mQi I I1) (g : mQi I1 I2) : mQi I I2 := ⟨fun o a b c d e f => (g.1 o a b c d e f).trans (h.1 o a b c d e f), fun k a b c => (g.2 k a b c).trans (h.2 k a b c)⟩
theorem mQh_i {I I' : Nat → Nat → Int32} (h : mQh I I') : mQi I I' := ⟨h.1, fun k a _ c => h.2 k a c⟩
theorem mQi_k {I : Nat → Nat → Int32} {k : Nat} {v : Int32} (hk : k = 33 ∨ k = 34 ∨ k = 35) : mQi I (zu I 130 k v) := ⟨fun o a _ _ _ _ _ => zu_o a, fun j a b c => zu_n (by omega)⟩
section
variable {d L r : Nat} {I : Nat → Nat → Int32} {J : Nat → Nat → Int64}
variable {p : Nat} {Q : yBq} {u : yRl} {nb k t l lies : Nat}
theorem mLookL (hd : 8 ≤ d) {cr : Bool} (h3 : lies ≤ 3) {l2 : Int32} {g : Nat} (hg : 4661 = g) : ∀ (f k : Nat) (Q : yBq) (I : Nat → Nat → Int32), f + k = g → yBw p Q → yBz nb Q → mQ I Q → yMd (I 131) nb u → I 130 35 = -1 → ∃ I', zX 0 (zCd zT d) zc_X12_looks 4 [some (.ref 130), some (.int (zb1 (!cr))), some (.int l2), some (.int (zi (lies : Int))), some (.int (zi (k : Int))), none] [] (zm L I J r) = some (some (.int (zi (if (yBm cr u nb lies f k Q).1 = true then ((yFar (yBm cr u nb lies f k Q).2.2.2.2.2.1 g (yBm cr u nb lies f k Q).2.1 + (if cr = true then 1 else 0) : Nat) : Int) else -1))), (zm L I' J r)) ∧ ((yBm cr u nb lies f k Q).1 = true → ∃ Q', mQ I' Q' ∧ ySub2 (yBm cr u nb lies f k Q).2.2 Q' ∧ I' 130 34 = zi ((yBm cr u nb lies f k Q).2.1 : Int) ∧ (cr = true → I' 130 35 = zi ((zFs (yCrB u nb ((yBm cr u nb lies f k Q).2.2.2.1 (yBm cr u nb lies f k Q).2.1) ((yBm cr u nb lies f k Q).2.2.2.2.1 (yBm cr u nb lies f k Q).2.1)) nb : Nat) : Int))) ∧ mQi I I' := by
  intro f
  induction f with
  | zero =>
    intro k Q I hf hw hz hq hM h35
    have hn := yBw_n hw
    refine ⟨I, ?_, fun w => (by cases w), mQi_r⟩
    rw [eX12_looks_4, hq.1, if_pos (show zi (Q.1 : Int) ≤ zi (k : Int) by rw [zi_le (by omega) (by omega)]; omega), eX12_looks_11]
    rfl
  | succ f ih =>
    intro k Q I hf hw hz hq hM h35
    have hn := yBw_n hw
    rw [yBm]
    by_cases q1 : k < Q.1
    · have hnb := hM.2.1
      have hk := hw.1 k q1
      have ht := hk.1
      have hl := hk.2.2.1
      have h139 := (hq.2.1 k q1).1
      have k1 : zi (k : Int) + (1 : Int32) = zi ((k + 1 : Nat) : Int) := zi_add _ 1
      have hF : ∀ k, k < Q.1 → -1 ≤ Q.2.2.2.1 k ∧ Q.2.2.2.1 k < (k : Int) := fun k hk => (hw.1 k hk).2.2.2.2.1
      have hM7 : yMd (zu I 130 34 (zi (k : Int)) 131) nb u := by rw [zu_o (by decide)]; exact hM
      have hq7 := mQ_k (k := 34) (v := zi (k : Int)) (by decide) hq
      have h357 : zu I 130 34 (zi (k : Int)) 130 35 = -1 := by rw [zu_n (by decide)]; exact h35
      have ex := yExp_w (u := u) (lies := lies) hw q1 hnb.2 h3
      have exz := yExp_z (u := u) (lies := lies) hz hw q1 hnb.2
      rw [if_pos q1, eX12_looks_4, hq.1, if_neg (show ¬ zi (Q.1 : Int) ≤ zi (k : Int) by rw [zi_le (by omega) (by omega)]; omega)]
      have nx : ∀ (m : Nat → Nat → Int32) (l5 : Int32), mQ m (yExp u nb lies k Q) → mQi I m → ∃ I', zX 0 (zCd zT d) zc_X12_looks 10 [some (.ref 130), some (.int (zb1 (!cr))), some (.int l2), some (.int (zi (lies : Int))), some (.int (zi (k : Int))), some (.int l5)] [] (zm L m J r) = some (some (.int (zi (if (yBm cr u nb lies f (k + 1) (yExp u nb lies k Q)).1 = true then ((yFar (yBm cr u nb lies f (k + 1) (yExp u nb lies k Q)).2.2.2.2.2.1 g (yBm cr u nb lies f (k + 1) (yExp u nb lies k Q)).2.1 + (if cr = true then 1 else 0) : Nat) : Int) else -1))), (zm L I' J r)) ∧ ((yBm cr u nb lies f (k + 1) (yExp u nb lies k Q)).1 = true → ∃ Q', mQ I' Q' ∧ ySub2 (yBm cr u nb lies f (k + 1) (yExp u nb lies k Q)).2.2 Q' ∧ I' 130 34 = zi ((yBm cr u nb lies f (k + 1) (yExp u nb lies k Q)).2.1 : Int) ∧ (cr = true → I' 130 35 = zi ((zFs (yCrB u nb ((yBm cr u nb lies f (k + 1) (yExp u nb lies k Q)).2.2.2.1 (yBm cr u nb lies f (k + 1) (yExp u nb lies k Q)).2.1) ((yBm cr u nb lies f (k + 1) (yExp u nb lies k Q)).2.2.2.2.1 (yBm cr u nb lies f (k + 1) (yExp u nb lies k Q)).2.1)) nb : Nat) : Int))) ∧ mQi I I' := by
        intro m l5 hm1 hm2
        have hMm : yMd (zu m 130 35 (-1) 131) nb u := by
          rw [zu_o (by decide), hm2.1 131 (by decide) (by decide) (by decide) (by decide) (by decide) (by decide)]
          exact hM
        obtain ⟨I3, c1, c2, c3⟩ := ih (k + 1) (yExp u nb lies k Q) (zu m 130 35 (-1)) (by omega) ex.1 exz (mQ_k (by decide) hm1) hMm (zu_y ⟨rfl, rfl⟩)
        refine ⟨I3, ?_, c2, mQi_t hm2 (mQi_t (mQi_k (Or.inr (Or.inr rfl))) c3)⟩
        rw [eX12_looks_10, k1]
        exact c1
      cases cr
      · have eg : yGm false u nb (Q.2.1 k) (Q.2.2.1 k) = (!decide (Q.2.1 k = 0) && !decide (zFs (yStB u nb (Q.2.1 k) (Q.2.2.1 k)) nb < nb)) := if_neg (by decide)
        obtain ⟨I1, a1, a2⟩ := mStop (d := d) (L := L) (J := J) (r := r) (I := zu I 130 34 (zi (k : Int))) (by omega) hM7 ht hl
        have hq1 := mQ_7 a2 hq7
        have hf1 : mQi I I1 := mQi_t (mQi_k (Or.inr (Or.inl rfl))) (mQh_i (mQf_h (mQf_7 a2)))
        have h351 : I1 130 35 = -1 := by rw [a2 130 (by decide)]; exact h357
        have hM1 : yMd (I1 131) nb u := by rw [a2 131 (by decide)]; exact hM7
        rw [if_pos (show zb1 (!false) = 1 from rfl), zin_t (by omega) (by omega), zgd_t, zi_cl (by omega), Int.toNat_natCast, zu_n (show ¬ (139 = 130 ∧ k = 34) by omega), h139, a1, zbI_s, eX12_looks_5, ← eg]
        cases q2 : yGm false u nb (Q.2.1 k) (Q.2.2.1 k)
        · obtain ⟨I2, b1, b2, b3, b4⟩ := mOpen (d := d) (L := L) (J := J) (r := r) (by omega) hM1 hq1 hw hz q1 h3 h351
          rw [if_pos (show zb1 false = 0 from rfl), eX12_looks_7, b1, zbI_s, eX12_looks_8, if_neg (show ¬ zb1 (!false) = 0 by decide), if_neg (show ¬ false = true by decide)]
          exact nx I2 _ b2 (mQi_t hf1 (mQh_i b3))
        · rw [if_neg (show ¬ zb1 true = 0 by decide), mFar (by omega) hg hq1 hw q1, zbI_s, eX12_looks_6, if_pos rfl]
          refine ⟨I1, rfl, fun _ => ⟨Q, hq1, ySub2_r, ?_, fun w => (by cases w)⟩, hf1⟩
          rw [a2 130 (by decide), zu_y ⟨rfl, rfl⟩]
      · have eg : yGm true u nb (Q.2.1 k) (Q.2.2.1 k) = decide (zFs (yCrB u nb (Q.2.1 k) (Q.2.2.1 k)) nb < nb) := if_pos rfl
        obtain ⟨I2, b1, b2, b3, b4⟩ := mOpen (d := d) (L := L) (J := J) (r := r) (by omega) hM7 hq7 hw hz q1 h3 h357
        have hf2 : mQi I I2 := mQi_t (mQi_k (Or.inr (Or.inl rfl))) (mQh_i b3)
        rw [if_neg (show ¬ zb1 (!true) = 1 by decide), eX12_looks_7, b1, zbI_s, eX12_looks_8, if_pos (show zb1 (!true) = 0 from rfl), ← eg]
        cases q2 : yGm true u nb (Q.2.1 k) (Q.2.2.1 k)
        · rw [if_pos (show zb1 false = 0 from rfl), if_neg (show ¬ false = true by decide)]
          exact nx I2 _ b2 hf2
        · have hk2 : k < (yExp u nb lies k Q).1 := by
            have := ex.2.1
            omega
          have fe := yFar_e hF (G := (yExp u nb lies k Q).2.2.2.1) (fun j hj => (ex.2.2 j hj).2.2.1) g k q1
          rw [eg] at q2
          rw [if_neg (show ¬ zb1 true = 0 by decide), mFar (by omega) hg b2 ex.1 hk2, zbI_s, eX12_looks_9, fe, if_pos rfl]
          refine ⟨I2, ?_, fun _ => ⟨_, b2, ex.2, ?_, fun _ => ?_⟩, hf2⟩
          · rw [show zi ((yFar Q.2.2.2.1 g k : Nat) : Int) + (1 : Int32) = zi ((yFar Q.2.2.2.1 g k + 1 : Nat) : Int) from zi_add _ 1]
            rfl
          · rw [b3.2 34 (by decide) (by decide), zu_y ⟨rfl, rfl⟩]
          · rw [b4]
            exact if_pos (of_decide_eq_true q2)
    · refine ⟨I, ?_, fun w => (by rw [if_neg q1] at w; cases w), mQi_r⟩
      rw [if_neg q1, eX12_looks_4, hq.1, if_pos (show zi (Q.1 : Int) ≤ zi (k : Int) by rw [zi_le (by omega) (by omega)]; omega), eX12_looks_11]
      rfl
end
