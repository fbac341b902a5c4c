/-! CLEAR -/
section
variable {d L r : Nat} {I : Nat → Nat → Int32} {J : Nat → Nat → Int64}
variable {t : zDy}
theorem cClL (hd : 3 ≤ d) {w x a b c : Int} {p n : Nat} {x0 : Int32} (hx : 0 ≤ x ∧ x ≤ 3300) (hn : n ≤ 10) (ha : 0 ≤ a ∧ a ≤ 999) (hb : 1 ≤ b ∧ b ≤ 999) (hc : 0 ≤ c ∧ c ≤ 99) : zX 0 (zCd zT d) zc_X11_clear 12 [some (.ref 16), some (.int (zi w)), some (.int (zi (p : Int))), some (.int (zi (n : Int))), some (.int (zi a)), some (.int (zi b)), some (.int (zi c)), some (.int x0), some (.int (zi x)), some (.int 1)] [] (zm L I J r) = some (some (.int (zi (if yClB x a b c n < 999 then (yClB x a b c n + 1 : Nat) else -1))), (zm L I J r)) := by
  have c1 := zForT (n := 999) (stop := fun j => decide (yNC x ((j + 1 : Nat) : Int) a b c n = 0)) (G := fun j => zX 0 (zCd zT d) zc_X11_clear 12 [some (.ref 16), some (.int (zi w)), some (.int (zi (p : Int))), some (.int (zi (n : Int))), some (.int (zi a)), some (.int (zi b)), some (.int (zi c)), some (.int x0), some (.int (zi x)), some (.int (zi ((j + 1 : Nat) : Int)))] [] (zm L I J r)) (E := fun j => some (some (.int (zi ((j + 1 : Nat) : Int))), (zm L I J r))) (fun j hj => by
    have k1 : zi ((j + 1 : Nat) : Int) + (1 : Int32) = zi ((j + 1 + 1 : Nat) : Int) := zi_add _ 1
    have hle := yNC_le (x := x) (bt := ((j + 1 : Nat) : Int)) (a := a) (b := b) (c := c) n
    rw [eX11_clear_12, if_neg (show ¬ (999 : Int32) < zi ((j + 1 : Nat) : Int) by rw [show (999 : Int32) = zi 999 from rfl, zi_lt (by decide) (by omega)]; omega), if_neg (show ¬ zi x = (-1 : Int32) by rw [zi_m1 (by omega)]; omega), cNears (by omega) hx hn (by omega) ha hb hc, zbI_s, eX11_clear_13, eX11_clear_14, k1]
    by_cases q : yNC x ((j + 1 : Nat) : Int) a b c n = 0
    · rw [if_pos (show zi ((yNC x ((j + 1 : Nat) : Int) a b c n : Nat) : Int) = (0 : Int32) by rw [q]; rfl), if_pos (decide_eq_true q)]
    · rw [if_neg (show ¬ zi ((yNC x ((j + 1 : Nat) : Int) a b c n : Nat) : Int) = (0 : Int32) by rw [show (0 : Int32) = zi 0 from rfl, zi_eq (by omega) (by decide)]; omega), if_neg (show ¬ decide (yNC x ((j + 1 : Nat) : Int) a b c n = 0) = true by rw [decide_eq_true_eq]; exact q)])
  have z0 : zX 0 (zCd zT d) zc_X11_clear 12 [some (.ref 16), some (.int (zi w)), some (.int (zi (p : Int))), some (.int (zi (n : Int))), some (.int (zi a)), some (.int (zi b)), some (.int (zi c)), some (.int x0), some (.int (zi x)), some (.int 1)] [] (zm L I J r) = _ := c1
  rw [z0]
  unfold yClB
  by_cases q : zFs (fun j => decide (yNC x ((j + 1 : Nat) : Int) a b c n = 0)) 999 < 999
  · rw [if_pos q, if_pos q]
  · rw [if_neg q, if_neg q, eX11_clear_12, if_pos (show (999 : Int32) < zi ((999 + 1 : Nat) : Int) by decide), eX11_clear_15]
    rfl
theorem mClL (hd : 3 ≤ d) {w x a b c : Int} {p n : Nat} (hp : p < 60) (he : I 136 p = zi x) (hf : ¬ I 135 p = -1) (hx : 0 ≤ x ∧ x ≤ 3300) (hn : n ≤ 10) (ha : 0 ≤ a ∧ a ≤ 999) (hb : 1 ≤ b ∧ b ≤ 999) (hc : 0 ≤ c ∧ c ≤ 99) : zX 0 (zCd zT d) zc_X12_clear 14 [some (.ref 130), some (.int (zi w)), some (.int (zi (p : Int))), some (.int (zi (n : Int))), some (.int (zi a)), some (.int (zi b)), some (.int (zi c)), some (.int 1)] [] (zm L I J r) = some (some (.int (zi (if yClB x a b c n < 999 then (yClB x a b c n + 1 : Nat) else -1))), (zm L I J r)) := by
  have c1 := zForT (n := 999) (stop := fun j => decide (yNC x ((j + 1 : Nat) : Int) a b c n = 0)) (G := fun j => zX 0 (zCd zT d) zc_X12_clear 14 [some (.ref 130), some (.int (zi w)), some (.int (zi (p : Int))), some (.int (zi (n : Int))), some (.int (zi a)), some (.int (zi b)), some (.int (zi c)), some (.int (zi ((j + 1 : Nat) : Int)))] [] (zm L I J r)) (E := fun j => some (some (.int (zi ((j + 1 : Nat) : Int))), (zm L I J r))) (fun j hj => by
    have k1 : zi ((j + 1 : Nat) : Int) + (1 : Int32) = zi ((j + 1 + 1 : Nat) : Int) := zi_add _ 1
    have hle := yNC_le (x := x) (bt := ((j + 1 : Nat) : Int)) (a := a) (b := b) (c := c) n
    rw [eX12_clear_14, if_neg (show ¬ (1000 : Int32) ≤ zi ((j + 1 : Nat) : Int) by rw [show (1000 : Int32) = zi 1000 from rfl, zi_le (by decide) (by omega)]; omega), zin_t (by omega) (by omega), zgd_t, zi_cl (by omega), Int.toNat_natCast, if_neg hf, mNears (by omega) hp he hx hn (by omega) ha hb hc, zbI_s, eX12_clear_15, eX12_clear_16, k1]
    by_cases q : yNC x ((j + 1 : Nat) : Int) a b c n = 0
    · rw [if_pos (show zi ((yNC x ((j + 1 : Nat) : Int) a b c n : Nat) : Int) = (0 : Int32) by rw [q]; rfl), if_pos (decide_eq_true q)]
    · rw [if_neg (show ¬ zi ((yNC x ((j + 1 : Nat) : Int) a b c n : Nat) : Int) = (0 : Int32) by rw [show (0 : Int32) = zi 0 from rfl, zi_eq (by omega) (by decide)]; omega), if_neg (show ¬ decide (yNC x ((j + 1 : Nat) : Int) a b c n = 0) = true by rw [decide_eq_true_eq]; exact q)])
  have z0 : zX 0 (zCd zT d) zc_X12_clear 14 [some (.ref 130), some (.int (zi w)), some (.int (zi (p : Int))), some (.int (zi (n : Int))), some (.int (zi a)), some (.int (zi b)), some (.int (zi c)), some (.int 1)] [] (zm L I J r) = _ := c1
  rw [z0]
  unfold yClB
  by_cases q : zFs (fun j => decide (yNC x ((j + 1 : Nat) : Int) a b c n = 0)) 999 < 999
  · rw [if_pos q, if_pos q]
  · rw [if_neg q, if_neg q, eX12_clear_14, if_pos (show (1000 : Int32) ≤ zi ((999 + 1 : Nat) : Int) by decide), eX12_clear_17]
    rfl
theorem cClear (hd : 9 ≤ d) (h : zTI I J t) {w p n a b c : Int} (bw : -2147483648 ≤ w ∧ w < 2147483648) (bp : -2147483648 ≤ p ∧ p < 2147483648) (bn : -2147483648 ≤ n ∧ n < 2147483648) (ba : -2147483648 ≤ a ∧ a < 2147483648) (bb : -2147483648 ≤ b ∧ b < 2147483648) (bc : -2147483648 ≤ c ∧ c < 2147483648) : ∃ I', zCd zT d 187 [.ref 16, .int (zi w), .int (zi p), .int (zi n), .int (zi a), .int (zi b), .int (zi c)] (zm L I J r) = some (some (.int (zi (yClV t w p n a b c))), (zm L I' J r)) ∧ zFr3 I I' := by
  obtain ⟨e, rfl⟩ : ∃ e, d = e + 1 := ⟨d - 1, by omega⟩
  rw [qX11_clear, eX11_clear_0, cNp (by omega) h bp, zbI_s, cClB (by omega) bw bn ba bb bc, eX11_clear_7, cRef (by omega) h, zbI_s, eX11_clear_8]
  unfold yClV
  by_cases hz : zRf (zNp t p) (zbo w 1 20 || (zbo n 1 10 || yOth a b c)) t.n = 0
  · obtain ⟨n1, n2, n3⟩ := zRf_0.mp hz
    rw [if_pos (yRf_z.mpr hz), if_pos hz, eX11_clear_9]
    unfold yOth at n2
    simp only [Bool.or_eq_false_iff] at n2
    obtain ⟨g1, g2, ⟨g4, g5⟩, g6⟩ := n2
    have g1 := zbo_f g1
    have g2 := zbo_f g2
    have g4 := zbo_f g4
    have g5 := zbo_f g5
    have g6 := zbo_f g6
    have g0 := zNp_f n1 n3
    have hn60 := h.2.2.1.1
    obtain ⟨p, rfl⟩ : ∃ k : Nat, p = k := ⟨p.toNat, by omega⟩
    obtain ⟨n, rfl⟩ : ∃ k : Nat, n = k := ⟨n.toNat, by omega⟩
    obtain ⟨I1, c1, c2, c3⟩ := cAtP (d := e) (L := L) (r := r) (by omega) h n3 g1 (p := p) (by omega)
    refine ⟨I1, ?_, c2⟩
    rw [c1, zbV_s, eX11_clear_10, c3, zbI_s, eX11_clear_11, Int.toNat_natCast, Int.toNat_natCast]
    by_cases q : yFs t w p = -1
    · rw [if_pos q, if_pos q, eX11_clear_12, if_neg (show ¬ (999 : Int32) < 1 by decide), if_pos (show zi (-1) = (-1 : Int32) from rfl), eX11_clear_15]
      rfl
    · have bt := yTi_b (t := t) (loss := zLss t w 0 0) (v := t.push) (p := p) q
      rw [if_neg q, if_neg q]
      exact cClL (by omega) bt (by omega) g4 g5 g6
  · rw [if_neg (fun w => hz (yRf_z.mp w)), if_neg hz]
    exact ⟨I, rfl, fun _ _ _ _ => rfl⟩
theorem mClearQ (hd : 9 ≤ d) (h : zTI I J t) {w p n a b c : Int} (bw : -2147483648 ≤ w ∧ w < 2147483648) (bp : -2147483648 ≤ p ∧ p < 2147483648) (bn : -2147483648 ≤ n ∧ n < 2147483648) (ba : -2147483648 ≤ a ∧ a < 2147483648) (bb : -2147483648 ≤ b ∧ b < 2147483648) (bc : -2147483648 ≤ c ∧ c < 2147483648) : ∃ I', zCd zT d 338 [.ref 130, .int (zi w), .int (zi p), .int (zi n), .int (zi a), .int (zi b), .int (zi c)] (zm L I J r) = some (some (.int (zi (yClV t w p n a b c))), (zm L I' J r)) ∧ zSm I I' ∧ I' 120 = I 120 := by
  obtain ⟨e, rfl⟩ : ∃ e, d = e + 1 := ⟨d - 1, by omega⟩
  have h0 := zTI_fr zSm_0 h
  have q0 : zu I 130 0 0 120 = I 120 := zu_o (by decide)
  rw [qX12_clear, eX12_clear_0, mTrack (by omega) h0, zbI_s, mClNp (by omega) h0 bp, mClB (by omega) bw bn ba bb bc]
  unfold yClV zRf
  by_cases z1 : zNp t p = true
  · simp only [if_pos z1]
    exact ⟨_, rfl, zSm_0, q0⟩
  · rw [if_neg z1]
    by_cases z2 : (zbo w 1 20 || (zbo n 1 10 || yOth a b c)) = true
    · simp only [if_neg z1, if_pos z2]
      exact ⟨_, rfl, zSm_0, q0⟩
    · rw [if_neg z2, eX12_clear_10, mTrack (by omega) h0, zbI_s, eX12_clear_11]
      simp only [if_neg z1, if_neg z2]
      by_cases n3 : t.n = 0
      · rw [decide_eq_false (by omega), if_pos (show zb1 false = 0 from rfl), if_pos n3]
        exact ⟨_, rfl, zSm_0, q0⟩
      · rw [Bool.not_eq_true] at z1 z2
        rw [decide_eq_true (show 0 < t.n by omega), if_neg (show ¬ zb1 true = 0 by decide), if_neg n3, if_pos rfl, eX12_clear_12]
        unfold yOth at z2
        simp only [Bool.or_eq_false_iff] at z2
        obtain ⟨g1, g2, ⟨g4, g5⟩, g6⟩ := z2
        have g1 := zbo_f g1
        have g2 := zbo_f g2
        have g4 := zbo_f g4
        have g5 := zbo_f g5
        have g6 := zbo_f g6
        have n3 : 0 < t.n := by omega
        have g0 := zNp_f z1 n3
        have hn60 := h.2.2.1.1
        obtain ⟨p, rfl⟩ : ∃ k : Nat, p = k := ⟨p.toNat, by omega⟩
        obtain ⟨n, rfl⟩ : ∃ k : Nat, n = k := ⟨n.toNat, by omega⟩
        obtain ⟨I1, c1, c2, c3, c4, c5⟩ := mAtP (d := e) (L := L) (r := r) (by omega) h0 n3 g1 (p := p) (by omega)
        refine ⟨I1, ?_, zSm_tr zSm_0 c2, c3.trans q0⟩
        rw [c1, zbV_s, eX12_clear_13, Int.toNat_natCast, Int.toNat_natCast]
        by_cases q : yFs t w p = -1
        · rw [if_pos q, eX12_clear_14, if_neg (show ¬ (1000 : Int32) ≤ 1 by decide), zin_t (by omega) (by omega), zgd_t, zi_cl (by omega), Int.toNat_natCast, if_pos (c4.mpr q), eX12_clear_17]
          rfl
        · have bt := yTi_b (t := t) (loss := zLss t w 0 0) (v := t.push) (p := p) q
          rw [if_neg q]
          exact mClL (by omega) (by omega) (c5 q) (fun w => q (c4.mp w)) bt (by omega) g4 g5 g6
end
theorem oClear (w p n a b c : Int32) : zOk 187 338 [.int w, .int p, .int n, .int a, .int b, .int c] := by
  obtain ⟨w, rfl, bw⟩ := zi_of w
  obtain ⟨p, rfl, bp⟩ := zi_of p
  obtain ⟨n, rfl, bn⟩ := zi_of n
  obtain ⟨a, rfl, ba⟩ := zi_of a
  obtain ⟨b, rfl, bb⟩ := zi_of b
  obtain ⟨c, rfl, bc⟩ := zi_of c
  exact zOk_r (V := fun t => .int (zi (yClV t w p n a b c))) (fun L r I J t h => cClear (by decide) h bw bp bn ba bb bc) (fun L r I J t h => mClearQ (by decide) h bw bp bn ba bb bc)
