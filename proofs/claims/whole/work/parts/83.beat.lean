/-! LEAST BEAT -/
theorem zSm_x {I I' : Nat → Nat → Int32} {a : Nat} (ha : ∀ k, zPs a k = false) (h : ∀ o, o ≠ a → I' o = I o) : zSm I I' := fun o k hp => by
  rw [h o (fun q => by rw [q, ha] at hp; cases hp)]
def yBe (T : Nat → Int32) (nb n : Nat) (beat late most : Int32) : Bool := yAl (fun k => decide ((yHo T nb beat (zi (k : Int)) late n).2 ≤ most)) n
def yLb (t : zDy) (w : Int) (n : Nat) (late most : Int32) : Int := if zIsO t w 0 0 = true then (if zFs (fun j => yBe (yTm t (zRu t (zLss t w 0 0) 0 t.push).2) (t.m + 1) n (zi ((j + 1 : Nat) : Int)) late most) 999 < 999 then ((zFs (fun j => yBe (yTm t (zRu t (zLss t w 0 0) 0 t.push).2) (t.m + 1) n (zi ((j + 1 : Nat) : Int)) late most) 999 + 1 : Nat) : Int) else -1) else -1
section
variable {d L r : Nat} {I : Nat → Nat → Int32} {J : Nat → Nat → Int64}
variable {t : zDy}
theorem cEnough (hd : 4 ≤ d) (h : zTI I J t) (hn : 0 < t.n) {T : Nat → Int32} (hT : ∀ b, b ≤ t.m → I 128 b = T b) {n : Nat} (hn10 : n ≤ 10) (beat late most : Int32) : ∃ I', zCd zT d 159 [.ref 16, .int (zi (n : Int)), .int beat, .int late, .int most] (zm L I J r) = some (some (.int (zb1 (yBe T (t.m + 1) n beat late most))), (zm L I' J r)) ∧ ∀ o, o ≠ 129 → I' o = I o := by
  obtain ⟨e, rfl⟩ : ∃ e, d = e + 1 := ⟨d - 1, by omega⟩
  obtain ⟨I1, hp, c1⟩ := zForS (n := n) (stop := fun k => !decide ((yHo T (t.m + 1) beat (zi (k : Int)) late n).2 ≤ most)) (G := fun k I1 => zX 3 (zCd zT e) zc_X11_isBeatEnough 1 [some (.ref 16), some (.int (zi (n : Int))), some (.int beat), some (.int late), some (.int most), some (.int (zi ((k : Nat) : Int)))] [] (zm L I1 J r)) (E := fun k I1 => some (some (.int 0), (zm L I1 J r))) (P := fun I1 => ∀ o, o ≠ 129 → I1 o = I o) (fun k I1 hk hP => by
    have hT1 := zTI_fr (zSm_x (I' := I1) (a := 129) (fun _ => rfl) hP) h
    obtain ⟨I2, a1, a2⟩ := cHolds (d := e) (L := L) (r := r) (I := I1) (J := J) (by omega) hT1 hn (T := T) (fun b hb => by rw [hP 128 (by decide)]; exact hT b hb) hn10 beat (zi (k : Int)) late
    have k1 : zi ((k : Nat) : Int) + (1 : Int32) = zi ((k + 1 : Nat) : Int) := zi_add _ 1
    refine ⟨I2, fun o ho => (a2 o ho).trans (hP o ho), ?_⟩
    rw [eX11_isBeatEnough_1, if_neg (show ¬ zi (n : Int) ≤ zi ((k : Nat) : Int) by rw [zi_le (by omega) (by omega)]; omega), a1, zbI_s, eX11_isBeatEnough_2, eX11_isBeatEnough_3, k1]
    by_cases q : (yHo T (t.m + 1) beat (zi (k : Int)) late n).2 ≤ most
    · rw [if_pos q, decide_eq_true q]
      rfl
    · rw [if_neg q, decide_eq_false q]
      rfl) I (fun _ _ => rfl)
  have z0 : zX 3 (zCd zT e) zc_X11_isBeatEnough 1 [some (.ref 16), some (.int (zi (n : Int))), some (.int beat), some (.int late), some (.int most), some (.int 0)] [] (zm L I J r) = _ := c1
  refine ⟨I1, ?_, hp⟩
  rw [qX11_isBeatEnough, eX11_isBeatEnough_0, z0]
  unfold yBe yAl
  by_cases q : zFs (fun k => !decide ((yHo T (t.m + 1) beat (zi (k : Int)) late n).2 ≤ most)) n < n
  · rw [if_pos q, decide_eq_false (fun w => w q)]
    rfl
  · rw [if_neg q, decide_eq_true q, eX11_isBeatEnough_1, if_pos (Int32.le_refl _), eX11_isBeatEnough_4]
    rfl
theorem cLB (hd : 10 ≤ d) (h : zTI I J t) (hn : 0 < t.n) {w : Int} (hw : 1 ≤ w ∧ w ≤ 20) {n : Nat} (hn10 : n ≤ 10) (late most : Int32) : ∃ I', zCd zT d 158 [.ref 16, .int (zi w), .int (zi (n : Int)), .int late, .int most] (zm L I J r) = some (some (.int (zi (yLb t w n late most))), (zm L I' J r)) ∧ zSm I I' ∧ I' 120 = I 120 := by
  obtain ⟨e, rfl⟩ : ∃ e, d = e + 1 := ⟨d - 1, by omega⟩
  obtain ⟨I1, c1, c2, c3⟩ := cTT (d := e) (L := L) (r := r) (by omega) h hn hw
  have ks := zSm_5 (fun o n6 n7 n8 n9 _ => c2 o n6 n7 n8 n9)
  rw [qX11_leastBeat, eX11_leastBeat_0, c1, zbI_s, eX11_leastBeat_1]
  unfold yLb
  cases hz : zIsO t w 0 0
  · exact ⟨I1, rfl, ks⟩
  have hT1 := zTI_fr ks.1 h
  have hT := c3 hz
  rw [if_neg (show ¬ zb1 true = 0 by decide), if_pos rfl, eX11_leastBeat_2]
  generalize yTm t (zRu t (zLss t w 0 0) 0 t.push).2 = T at hT ⊢
  obtain ⟨I2, hp, g1⟩ := zForS (n := 999) (stop := fun j => yBe T (t.m + 1) n (zi ((j + 1 : Nat) : Int)) late most) (G := fun j I2 => zX 0 (zCd zT e) zc_X11_leastBeat 3 [some (.ref 16), some (.int (zi w)), some (.int (zi (n : Int))), some (.int late), some (.int most), some (.int (zi ((j + 1 : Nat) : Int)))] [] (zm L I2 J r)) (E := fun j I2 => some (some (.int (zi ((j + 1 : Nat) : Int))), (zm L I2 J r))) (P := fun I2 => ∀ o, o ≠ 129 → I2 o = I1 o) (fun j I2 hj hP => by
    have hT2 := zTI_fr (zSm_x (I' := I2) (a := 129) (fun _ => rfl) hP) hT1
    obtain ⟨I3, a1, a2⟩ := cEnough (d := e) (L := L) (r := r) (I := I2) (J := J) (by omega) hT2 hn (T := T) (fun b hb => by rw [hP 128 (by decide)]; exact hT b hb) hn10 (zi ((j + 1 : Nat) : Int)) late most
    have k1 : zi ((j + 1 : Nat) : Int) + (1 : Int32) = zi ((j + 1 + 1 : Nat) : Int) := zi_add _ 1
    refine ⟨I3, fun o ho => (a2 o ho).trans (hP o ho), ?_⟩
    rw [eX11_leastBeat_3, if_neg (show ¬ (999 : Int32) < zi ((j + 1 : Nat) : Int) by rw [show (999 : Int32) = zi 999 from rfl, zi_lt (by decide) (by omega)]; omega), a1, zbI_s, eX11_leastBeat_4, eX11_leastBeat_5, k1]
    cases yBe T (t.m + 1) n (zi ((j + 1 : Nat) : Int)) late most
    · rfl
    · rfl) I1 (fun _ _ => rfl)
  have z0 : zX 0 (zCd zT e) zc_X11_leastBeat 3 [some (.ref 16), some (.int (zi w)), some (.int (zi (n : Int))), some (.int late), some (.int most), some (.int 1)] [] (zm L I1 J r) = _ := g1
  have k2 := zSm_5 (I := I) (I' := I2) (fun o n6 n7 n8 n9 n0 => (hp o n0).trans (c2 o n6 n7 n8 n9))
  refine ⟨I2, ?_, k2⟩
  rw [z0]
  by_cases q : zFs (fun j => yBe T (t.m + 1) n (zi ((j + 1 : Nat) : Int)) late most) 999 < 999
  · rw [if_pos q, if_pos q]
  · rw [if_neg q, if_neg q, eX11_leastBeat_3, if_pos (by decide), eX11_leastBeat_6]
    rfl
theorem mLB (hd : 9 ≤ d) (h : zTI I J t) (hn : 0 < t.n) {w : Int} (hw : 1 ≤ w ∧ w ≤ 20) {n : Nat} (hn10 : n ≤ 10) (late most : Int32) : ∃ I', zCd zT d 312 [.ref 130, .int (zi w), .int (zi (n : Int)), .int late, .int most] (zm L I J r) = some (some (.int (zi (yLb t w n late most))), (zm L I' J r)) ∧ zSm I I' ∧ I' 120 = I 120 := by
  obtain ⟨e, rfl⟩ : ∃ e, d = e + 1 := ⟨d - 1, by omega⟩
  obtain ⟨I1, c1, c2, c3, c4, c5, c6⟩ := mOut (d := e) (L := L) (r := r) (by omega) h hn hw (wi := 0) (co := 0) (by decide) (by decide)
  have c1' : zCd zT e 279 [.ref 130, .int (zi w), .int 0, .int 0] (zm L I J r) = some (none, (zm L I1 J r)) := c1
  rw [qX12_leastBeat, eX12_leastBeat_0, c1', zbV_s, eX12_leastBeat_1]
  unfold yLb
  by_cases hz : zIsO t w 0 0 = true
  · have al := zRu_all c2.2.2.1.2.2.2.2.2.2.2.2.2.1 (of_decide_eq_true hz)
    have h19 := c5.mpr hz
    rw [if_pos hz]
    generalize (zRu t (zLss t w 0 0) 0 t.push).2 = s at c6 al ⊢
    obtain ⟨I2, hp, g1⟩ := zForS (n := 999) (stop := fun j => yBe (yTm t s) (t.m + 1) n (zi ((j + 1 : Nat) : Int)) late most) (G := fun j I2 => zX 0 (zCd zT e) zc_X12_leastBeat 2 [some (.ref 130), some (.int (zi w)), some (.int (zi (n : Int))), some (.int late), some (.int most), some (.int (zi ((j + 1 : Nat) : Int))), none, none] [] (zm L I2 J r)) (E := fun j I2 => some (some (.int (zi ((j + 1 : Nat) : Int))), (zm L I2 J r))) (P := fun I2 => ∀ o, o ≠ 142 → I2 o = I1 o) (fun j I2 hj hP => by
      have j19 : I2 130 19 = 0 := by rw [hP 130 (by decide)]; exact h19
      have k1 : zi ((j + 1 : Nat) : Int) + (1 : Int32) = zi ((j + 1 + 1 : Nat) : Int) := zi_add _ 1
      obtain ⟨I3, hp3, g3⟩ := zForS (n := n) (stop := fun k => !decide ((yHo (yTm t s) (t.m + 1) (zi ((j + 1 : Nat) : Int)) (zi (k : Int)) late n).2 ≤ most)) (G := fun k I3 => zX 0 (zCd zT e) zc_X12_leastBeat 3 [some (.ref 130), some (.int (zi w)), some (.int (zi (n : Int))), some (.int late), some (.int most), some (.int (zi ((j + 1 : Nat) : Int))), some (.int 1), some (.int (zi ((k : Nat) : Int)))] [] (zm L I3 J r)) (E := fun k I3 => zX 0 (zCd zT e) zc_X12_leastBeat 7 [some (.ref 130), some (.int (zi w)), some (.int (zi (n : Int))), some (.int late), some (.int most), some (.int (zi ((j + 1 : Nat) : Int))), some (.int 0), some (.int (zi ((k + 1 : Nat) : Int)))] [] (zm L I3 J r)) (P := fun I3 => ∀ o, o ≠ 142 → I3 o = I1 o) (fun k I3 hk hP3 => by
        have hT3 := zTI_fr (zSm_x (I' := I3) (a := 142) (fun _ => rfl) hP3) c2
        have hR3 : mRd t.n I3 s := mRd_cg (hP3 _ (by decide)) (hP3 _ (by decide)) (hP3 _ (by decide)) c6
        obtain ⟨I4, a1, a2⟩ := mHolds (d := e) (L := L) (r := r) (I := I3) (J := J) (by omega) hT3 hn hR3 al.2 hn10 (zi ((j + 1 : Nat) : Int)) (zi (k : Int)) late
        have k2 : zi ((k : Nat) : Int) + (1 : Int32) = zi ((k + 1 : Nat) : Int) := zi_add _ 1
        refine ⟨I4, fun o ho => (a2 o ho).trans (hP3 o ho), ?_⟩
        rw [eX12_leastBeat_3, if_neg (show ¬ zi (n : Int) ≤ zi ((k : Nat) : Int) by rw [zi_le (by omega) (by omega)]; omega), if_neg (by decide), a1, zbI_s, eX12_leastBeat_4, eX12_leastBeat_5, eX12_leastBeat_6, eX12_leastBeat_6, k2]
        by_cases q : (yHo (yTm t s) (t.m + 1) (zi ((j + 1 : Nat) : Int)) (zi (k : Int)) late n).2 ≤ most
        · rw [if_neg (Int32.not_lt.mpr q), decide_eq_true q]
          rfl
        · rw [if_pos (Int32.not_le.mp q), decide_eq_false q, eX12_leastBeat_3, if_pos rfl, ite_self]
          rfl) I2 hP
      have z3 : zX 0 (zCd zT e) zc_X12_leastBeat 3 [some (.ref 130), some (.int (zi w)), some (.int (zi (n : Int))), some (.int late), some (.int most), some (.int (zi ((j + 1 : Nat) : Int))), some (.int 1), some (.int 0)] [] (zm L I2 J r) = _ := g3
      refine ⟨I3, hp3, ?_⟩
      rw [eX12_leastBeat_2, if_neg (show ¬ (1000 : Int32) ≤ zi ((j + 1 : Nat) : Int) by rw [show (1000 : Int32) = zi 1000 from rfl, zi_le (by decide) (by omega)]; omega), if_pos j19, z3]
      unfold yBe yAl
      by_cases q : zFs (fun k => !decide ((yHo (yTm t s) (t.m + 1) (zi ((j + 1 : Nat) : Int)) (zi (k : Int)) late n).2 ≤ most)) n < n
      · rw [if_pos q, decide_eq_false (fun w => w q), eX12_leastBeat_7, if_pos rfl, eX12_leastBeat_8, k1]
        rfl
      · rw [if_neg q, decide_eq_true q, eX12_leastBeat_3, if_pos (Int32.le_refl _), eX12_leastBeat_7, if_neg (by decide)]
        rfl) I1 (fun _ _ => rfl)
    have z0 : zX 0 (zCd zT e) zc_X12_leastBeat 2 [some (.ref 130), some (.int (zi w)), some (.int (zi (n : Int))), some (.int late), some (.int most), some (.int 1), none, none] [] (zm L I1 J r) = _ := g1
    refine ⟨I2, ?_, zSm_tr c3 (zSm_x (a := 142) (fun _ => rfl) hp), by rw [hp 120 (by decide), c4]⟩
    rw [z0]
    by_cases q : zFs (fun j => yBe (yTm t s) (t.m + 1) n (zi ((j + 1 : Nat) : Int)) late most) 999 < 999
    · rw [if_pos q, if_pos q]
    · rw [if_neg q, if_neg q, eX12_leastBeat_2, if_pos (by decide), eX12_leastBeat_9]
      rfl
  · have h19 : ¬ I1 130 19 = 0 := fun w => hz (c5.mp w)
    rw [if_neg hz, eX12_leastBeat_2, if_neg (by decide), if_neg h19, eX12_leastBeat_9]
    exact ⟨I1, rfl, c3, c4⟩
end
