/-! ROWS OF EVENTS: the model's search -/
theorem yLie_b {t l k e : Nat} {Q : yBq} {b : Nat} : yLie t l k e Q (b + 1) = if yLi l b = 0 then yAdq (yLie t l k e Q b) t (l + 3 ^ b * e) (k : Int) ((10 * e + b : Nat) : Int) else yLie t l k e Q b := rfl
section
variable {d L r : Nat} {I : Nat → Nat → Int32} {J : Nat → Nat → Int64}
variable {p : Nat} {Q : yBq} {u : yRl} {nb k t l lies : Nat}
theorem mLieO (hd : 6 ≤ d) (hM : yMd (I 131) nb u) (h : mQ I Q) (hq : yBw p Q) (hk : k < Q.1) (ht : t < 64) (hp : yPc t 6 = p) (hl : l < 729) (hc : yLc l < 3) {e : Nat} (he : e = 1 ∨ e = 2) : ∃ I', zX 3 (zCd zT d) zc_X12_opens 16 [some (.ref 130), some (.int (zi (k : Int))), some (.int (zi (lies : Int))), some (.int (zi ((t + 64 * l : Nat) : Int))), some (.int (zi ((10 * e : Nat) : Int))), some (.int 0)] [] (zm L I J r) = zX 3 (zCd zT d) zc_X12_opens 15 [some (.ref 130), some (.int (zi (k : Int))), some (.int (zi (lies : Int))), some (.int (zi ((t + 64 * l : Nat) : Int))), some (.int (zi ((10 * (e + 1) : Nat) : Int))), none] [] (zm L I' J r) ∧ mQ I' (yLie t l k e Q nb) ∧ mQf I I' := by
  have hnb := hM.2.1
  obtain ⟨m, c1, c2, c3⟩ := zForI (n := nb) (M := Nat → Nat → Int32) (G := fun b m => zX 3 (zCd zT d) zc_X12_opens 16 [some (.ref 130), some (.int (zi (k : Int))), some (.int (zi (lies : Int))), some (.int (zi ((t + 64 * l : Nat) : Int))), some (.int (zi ((10 * e : Nat) : Int))), some (.int (zi ((b : Nat) : Int)))] [] (zm L m J r)) (P := fun b m => mQ m (yLie t l k e Q b) ∧ mQf I m) (fun b m hb hm => by
    have k1 : zi ((b : Nat) : Int) + (1 : Int32) = zi ((b + 1 : Nat) : Int) := zi_add _ 1
    have hm1 : m 131 = I 131 := hm.2.1 131 (by decide) (by decide) (by decide) (by decide) (by decide) (by decide)
    have hh : yMd (m 131) nb u := by rw [hm1]; exact hM
    have w0 := yLie_w he hq hk ht hp hl hc b (by omega)
    have li0 : zi ((yLi l b : Nat) : Int) = (0 : Int32) ↔ yLi l b = 0 := by
      rcases yLi_b (l := l) (b := b) with q | q | q <;> rw [q] <;> decide
    rw [yLie_b, eX12_opens_16, mBks (by omega) hh, zbI_s, eX12_opens_17, if_neg (show ¬ zi (nb : Int) ≤ zi ((b : Nat) : Int) by rw [zi_le (by omega) (by omega)]; omega), mLie (by omega) (by omega) (by omega), zbI_s, show (t + 64 * l) / 64 = l by omega, eX12_opens_18]
    by_cases q : yLi l b = 0
    · have p3 := y3p (b := b) (by omega)
      have hl' : l + 3 ^ b * e < 729 := by
        rcases he with rfl | rfl
        · exact (yLl1 hl (show b < 6 by omega) q).1
        · exact (yLl2 hl (show b < 6 by omega) q).1
      have d1 : zi ((10 * e : Nat) : Int) / (10 : Int32) = zi (e : Int) := (zi_div (y := 10) (by omega) (by decide)).trans (congrArg zi (by omega))
      have est : zi ((t + 64 * l : Nat) : Int) + ((64 : Int32) * zi ((3 ^ b : Nat) : Int)) * (zi ((10 * e : Nat) : Int) / (10 : Int32)) = zi ((t + 64 * (l + 3 ^ b * e) : Nat) : Int) := by
        rw [d1, show (64 : Int32) = zi 64 from rfl, zi_mul, zi_mul, zi_add]
        refine congrArg zi ?_
        rcases he with rfl | rfl <;> omega
      have ev : zi ((10 * e : Nat) : Int) + zi ((b : Nat) : Int) = zi ((10 * e + b : Nat) : Int) := (zi_add _ _).trans rfl
      obtain ⟨I3, s1, s2, s3⟩ := mMeet (d := d) (L := L) (J := J) (r := r) (by omega) hm.1 w0.1 ht hl' (f := (k : Int)) (v := ((10 * e + b : Nat) : Int))
      rw [if_pos (li0.mpr q), mPower (by omega) (by omega), zbI_s, eX12_opens_19, est, ev, s1, zbV_s, eX12_opens_20, k1, if_pos q]
      exact ⟨I3, rfl, s2, mQf_t hm.2 s3⟩
    · rw [if_neg (fun w => q (li0.mp w)), eX12_opens_20, k1, if_neg q]
      exact ⟨m, rfl, hm⟩) I ⟨h, mQf_r⟩
  have z0 : zX 3 (zCd zT d) zc_X12_opens 16 [some (.ref 130), some (.int (zi (k : Int))), some (.int (zi (lies : Int))), some (.int (zi ((t + 64 * l : Nat) : Int))), some (.int (zi ((10 * e : Nat) : Int))), some (.int 0)] [] (zm L I J r) = _ := c1
  have hm1 : m 131 = I 131 := c3.1 131 (by decide) (by decide) (by decide) (by decide) (by decide) (by decide)
  have hh : yMd (m 131) nb u := by rw [hm1]; exact hM
  refine ⟨m, ?_, c2, c3⟩
  rw [z0, eX12_opens_16, mBks (by omega) hh, zbI_s, eX12_opens_17, if_pos (Int32.le_refl _), eX12_opens_21, show zi ((10 * e : Nat) : Int) + (10 : Int32) = zi ((10 * (e + 1) : Nat) : Int) from zi_add _ 10]
theorem mOpen (hd : 7 ≤ d) (hM : yMd (I 131) nb u) (h : mQ I Q) (hq : yBw p Q) (hz : yBz nb Q) (hk : k < Q.1) (h3 : lies ≤ 3) (h35 : I 130 35 = -1) : ∃ I', zCd zT d 301 [.ref 130, .int (zi (k : Int)), .int (zi (lies : Int))] (zm L I J r) = some (some (.int (zb1 (decide (zFs (yCrB u nb (Q.2.1 k) (Q.2.2.1 k)) nb < nb)))), (zm L I' J r)) ∧ mQ I' (yExp u nb lies k Q) ∧ mQh I I' ∧ I' 130 35 = yGe u nb (Q.2.1 k) (Q.2.2.1 k) nb := by
  obtain ⟨e, rfl⟩ : ∃ e, d = e + 1 := ⟨d - 1, by omega⟩
  have hn := yBw_n hq
  have hk' := hq.1 k hk
  have h139 := (h.2.1 k hk).1
  have hnb := hM.2.1
  have wl := yLvs_w (u := u) hq hk hnb.2 rfl rfl nb (Nat.le_refl nb)
  have zl := hz k hk
  generalize e1 : Q.2.1 k = t at hk' h139 wl ⊢
  generalize e2 : Q.2.2.1 k = l at hk' h139 wl zl ⊢
  have ht := hk'.1
  have hl := hk'.2.2.1
  obtain ⟨I1, a1, a2, a3, a4⟩ := mLvs (d := e) (L := L) (J := J) (r := r) (lies := lies) (by omega) hM h hq hk e1 e2 h35
  have hm1 : I1 131 = I 131 := a3.1 131 (by decide) (by decide) (by decide) (by decide) (by decide) (by decide)
  have hh : yMd (I1 131) nb u := by rw [hm1]; exact hM
  have d0 : zi ((yLc l : Nat) : Int) < zi (lies : Int) ↔ yLc l < lies := by
    rw [zi_lt (by omega) (by omega)]
    omega
  have ans : ∀ (m : Nat → Nat → Int32), m 130 35 = yGe u nb t l nb → (m 130 35 = -1 ↔ ¬ zFs (yCrB u nb t l) nb < nb) := by
    intro m hm
    rw [hm]
    unfold yGe
    by_cases q : zFs (yCrB u nb t l) nb < nb
    · rw [if_pos q, zi_m1 (by omega)]
      exact ⟨fun w => by omega, fun w => absurd q w⟩
    · rw [if_neg q]
      exact ⟨fun _ => q, fun _ => rfl⟩
  have ex : yExp u nb lies k Q = if yLc l < lies then yLie t l k 2 (yLie t l k 1 (yLvs u nb t l k Q nb) nb) nb else yLvs u nb t l k Q nb := by
    unfold yExp
    rw [e1, e2]
  rw [ex, qX12_opens, eX12_opens_0, zin_t (by omega) (by omega), zgd_t, zi_cl (by omega), Int.toNat_natCast, h139, a1, eX12_opens_10, mLiesOf (by omega) hh ht hl zl, zbI_s, eX12_opens_11]
  by_cases q : yLc l < lies
  · rw [if_pos (d0.mpr q), if_pos q, eX12_opens_14]
    have hk1 : k < (yLvs u nb t l k Q nb).1 := by
      have := wl.2.1
      omega
    obtain ⟨I2, b1, b2, b3⟩ := mLieO (d := e) (L := L) (J := J) (r := r) (lies := lies) (by omega) hh a2 wl.1 hk1 ht hk'.2.1 hl (show yLc l < 3 by omega) (e := 1) (Or.inl rfl)
    have b1' : zX 3 (zCd zT e) zc_X12_opens 16 [some (.ref 130), some (.int (zi (k : Int))), some (.int (zi (lies : Int))), some (.int (zi ((t + 64 * l : Nat) : Int))), some (.int 10), some (.int 0)] [] (zm L I1 J r) = zX 3 (zCd zT e) zc_X12_opens 15 [some (.ref 130), some (.int (zi (k : Int))), some (.int (zi (lies : Int))), some (.int (zi ((t + 64 * l : Nat) : Int))), some (.int (zi ((10 * 2 : Nat) : Int))), none] [] (zm L I2 J r) := b1
    have w1 := yLie_w (e := 1) (Or.inl rfl) wl.1 hk1 ht hk'.2.1 hl (show yLc l < 3 by omega) nb hnb.2
    have hm2 : I2 131 = I1 131 := b3.1 131 (by decide) (by decide) (by decide) (by decide) (by decide) (by decide)
    have hh2 : yMd (I2 131) nb u := by rw [hm2]; exact hh
    have hk2 : k < (yLie t l k 1 (yLvs u nb t l k Q nb) nb).1 := by
      have := w1.2.1
      omega
    obtain ⟨I3, c1, c2, c3⟩ := mLieO (d := e) (L := L) (J := J) (r := r) (lies := lies) (by omega) hh2 b2 w1.1 hk2 ht hk'.2.1 hl (show yLc l < 3 by omega) (e := 2) (Or.inr rfl)
    have c1' : zX 3 (zCd zT e) zc_X12_opens 16 [some (.ref 130), some (.int (zi (k : Int))), some (.int (zi (lies : Int))), some (.int (zi ((t + 64 * l : Nat) : Int))), some (.int (zi ((10 * 2 : Nat) : Int))), some (.int 0)] [] (zm L I2 J r) = zX 3 (zCd zT e) zc_X12_opens 15 [some (.ref 130), some (.int (zi (k : Int))), some (.int (zi (lies : Int))), some (.int (zi ((t + 64 * l : Nat) : Int))), some (.int (zi ((10 * 3 : Nat) : Int))), none] [] (zm L I3 J r) := c1
    have h35' : I3 130 35 = yGe u nb t l nb := (c3.2 35 (by decide)).trans ((b3.2 35 (by decide)).trans a4)
    refine ⟨I3, ?_, c2, mQh_t a3 (mQh_t (mQf_h b3) (mQf_h c3)), h35'⟩
    rw [eX12_opens_15, if_neg (show ¬ (20 : Int32) < 10 by decide), b1', eX12_opens_15, if_neg (show ¬ (20 : Int32) < zi ((10 * 2 : Nat) : Int) by decide), c1', eX12_opens_15, if_pos (show (20 : Int32) < zi ((10 * 3 : Nat) : Int) by decide), eX12_opens_22]
    by_cases q2 : zFs (yCrB u nb t l) nb < nb
    · rw [if_neg (fun w => (ans I3 h35').mp w q2), eX12_opens_24, decide_eq_true q2]
      rfl
    · rw [if_pos ((ans I3 h35').mpr q2), eX12_opens_23, eX12_opens_24, decide_eq_false q2]
      rfl
  · rw [if_neg (fun w => q (d0.mp w)), if_neg q]
    refine ⟨I1, ?_, a2, a3, a4⟩
    by_cases q2 : zFs (yCrB u nb t l) nb < nb
    · rw [if_neg (fun w => (ans I1 a4).mp w q2), eX12_opens_13, decide_eq_true q2]
      rfl
    · rw [if_pos ((ans I1 a4).mpr q2), eX12_opens_12, eX12_opens_13, decide_eq_false q2]
      rfl
theorem mFar (hd : 1 ≤ d) {g : Nat} (hg : 4661 = g) (h : mQ I Q) (hw : yBw p Q) (hk : k < Q.1) : zCd zT d 303 [.ref 130, .int (zi (k : Int))] (zm L I J r) = some (some (.int (zi ((yFar Q.2.2.2.1 g k : Nat) : Int))), (zm L I J r)) := by
  obtain ⟨e, rfl⟩ : ∃ e, d = e + 1 := ⟨d - 1, by omega⟩
  have hn := yBw_n hw
  have loop : ∀ (f k0 k len : Nat), k < f → k < Q.1 → zX 0 (zCd zT e) zc_X12_far 1 [some (.ref 130), some (.int (zi (k0 : Int))), some (.int (zi (len : Int))), some (.int (zi (k : Int)))] [] (zm L I J r) = some (some (.int (zi ((yFar Q.2.2.2.1 f k + len : Nat) : Int))), (zm L I J r)) := by
    intro f
    induction f with
    | zero => intro k0 k len h1; omega
    | succ f ih =>
      intro k0 k len h1 h2
      have hk' := hw.1 k h2
      have h140 := (h.2.1 k h2).2.1
      have k1 : zi (len : Int) + (1 : Int32) = zi ((len + 1 : Nat) : Int) := zi_add _ 1
      rw [eX12_far_1, zin_t (by omega) (by omega), zgd_t, zi_cl (by omega), Int.toNat_natCast, h140, yFar]
      by_cases q : Q.2.2.2.1 k = -1
      · rw [if_pos (show zi (Q.2.2.2.1 k) = (-1 : Int32) by rw [q]; rfl), eX12_far_2, if_pos q, Nat.zero_add]
      · have ek : zi (Q.2.2.2.1 k) = zi (((Q.2.2.2.1 k).toNat : Nat) : Int) := congrArg zi (by omega)
        rw [if_neg (show ¬ zi (Q.2.2.2.1 k) = (-1 : Int32) by rw [zi_m1 (by omega)]; exact q), zgd_t, ek, k1, ih k0 _ _ (by omega) (by omega), if_neg q, show yFar Q.2.2.2.1 f (Q.2.2.2.1 k).toNat + (len + 1) = yFar Q.2.2.2.1 f (Q.2.2.2.1 k).toNat + 1 + len by omega]
  have z0 : zX 0 (zCd zT e) zc_X12_far 1 [some (.ref 130), some (.int (zi (k : Int))), some (.int 0), some (.int (zi (k : Int)))] [] (zm L I J r) = _ := loop g k k 0 (by omega) hk
  rw [qX12_far, eX12_far_0, z0, Nat.add_zero]
end
