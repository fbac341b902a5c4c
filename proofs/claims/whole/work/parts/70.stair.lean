section
variable {d L r : Nat} {I : Nat → Nat → Int32} {J : Nat → Nat → Int64}
theorem mFindS {a : Int} {b : yTb} {n m c : Nat} (hb : mTb 1 (I 131) b) (hw : wTb n m c 1 b) (hn : n ≤ 60) (ha : -2147483648 ≤ a ∧ a < 2147483648) : zX 0 (zCd zT d) zc_X12_stair 4 [some (.ref 130), some (.int (zi a)), some (.int (zi 0))] [] (zm L I J r) = if zFs (fun k => decide (b.2 k 0 = a)) b.1 < b.1 then some (some (.int (zi (-3))), (zm L I J r)) else zX 0 (zCd zT d) zc_X12_stair 6 [some (.ref 130), some (.int (zi a)), some (.int (zi b.1))] [] (zm L I J r) := by
  have hm : b.1 ≤ 6 := hw.1
  have en : I 131 667 = zi b.1 := hb.1
  have c1 := zForT (n := b.1) (stop := fun k => decide (b.2 k 0 = a)) (G := fun k => zX 0 (zCd zT d) zc_X12_stair 4 [some (.ref 130), some (.int (zi a)), some (.int (zi ((k : Nat) : Int)))] [] (zm L I J r)) (E := fun k => some (some (.int (zi (-3))), (zm L I J r))) (fun k hk => by
    have g0 : I 131 (668 + k) = zi (b.2 k 0) := hb.2 k 0 hk (by decide)
    have w0 : 0 ≤ b.2 k 0 ∧ b.2 k 0 ≤ (n : Int) - 1 := hw.2 k 0 hk (by decide)
    have a0 : (668 : Int32) + zi ((k : Nat) : Int) = zi ((668 + k : Nat) : Int) := zi_add 668 _
    have k2 : zi ((k : Nat) : Int) + (1 : Int32) = zi ((k + 1 : Nat) : Int) := zi_add _ 1
    have e0 : zi (b.2 k 0) = zi a ↔ b.2 k 0 = a := zi_eq (by omega) ha
    rw [eX12_stair_4, en, if_neg (show ¬ zi (b.1 : Int) ≤ zi ((k : Nat) : Int) by rw [zi_le (by omega) (by omega)]; omega), a0, zin_t (by omega) (by omega), zgd_t, zi_cl (by omega), Int.toNat_natCast, g0, eX12_stair_5, k2]
    simp only [e0, decide_eq_true_eq]
    rfl)
  have z0 : zX 0 (zCd zT d) zc_X12_stair 4 [some (.ref 130), some (.int (zi a)), some (.int (zi 0))] [] (zm L I J r) = _ := c1
  rw [z0]
  by_cases q1 : zFs (fun k => decide (b.2 k 0 = a)) b.1 < b.1
  · rw [if_pos q1, if_pos q1]
  · rw [if_neg q1, if_neg q1, eX12_stair_4, en, if_pos (Int32.le_refl _)]
end
theorem oStair (a : Int32) : zOk 165 317 [.int a] := by
  intro L c r I J y z0 z1 hc hr hv
  obtain ⟨a, rfl, ba⟩ := zi_of a
  have hT := zV_TI hv
  have hw60 := hT.2.2.1.1
  have hb : cTb 41 1 I (y.2.2.1 1) := hv.1.2.2.1 1 (by decide)
  have hw := hv.2.2.1.2.2.1 1 (by decide)
  have hmt := zV_mt hv (q := 1) (by decide)
  have hn : I 131 667 = zi (y.2.2.1 1).1 := hmt.1
  have hw1 : (y.2.2.1 1).1 ≤ 6 := hw.1
  have hpt : I 131 0 = zi y.1.n := hv.2.1.1.1
  have hn0 : y.1.n = 0 → (y.2.2.1 1).1 = 0 := fun w => (hv.2.2.1.2.2.2.2 w).2.1
  have hF := cFull (d := 59) (L := L) (r := r) (J := J) (by decide) (o := 41) (by decide) hb hw.1
  have hfd := cFind (d := 59) (L := L) (r := r) (J := J) (by decide) (o := 41) (q := 1) rfl (by decide) hb hw ba (fun k hk => by
    have w0 : 0 ≤ (y.2.2.1 1).2 k 0 ∧ (y.2.2.1 1).2 k 0 ≤ (y.1.n : Int) - 1 := hw.2 k 0 hk (by decide)
    omega)
  have hfd0 : zCd zT 59 71 [.ref 41, .int (zi 0), .int (zi a)] (zm L I J r) = _ := hfd
  have hfs := zFs_le (stop := fun k => decide ((y.2.2.1 1).2 k 0 = a)) (n := (y.2.2.1 1).1)
  have hml : ∀ I' : Nat → Nat → Int32, I' 131 = I 131 → zX 0 (zCd zT 59) zc_X12_stair 4 [some (.ref 130), some (.int (zi a)), some (.int (zi 0))] [] (zm L I' J r) = _ := fun I' e => mFindS (d := 59) (L := L) (r := r) (J := J) (by rw [e]; exact hmt) hw (by omega) ba
  have hml0 := hml (zu I 130 0 (zi 0)) (zu_o (by decide))
  by_cases q0 : y.1.n = 0
  · have hz0 := hn0 q0
    have hnp : zNp y.1 a = false := by
      unfold zNp
      rw [decide_eq_false (by omega), Bool.false_and]
    have hq : ¬ zFs (fun k => decide ((y.2.2.1 1).2 k 0 = a)) (y.2.2.1 1).1 < (y.2.2.1 1).1 := by omega
    rw [if_neg hq] at hfd0 hml0
    refine zGo_0 hr hv (.int (zi (-5))) ?_ ?_
    · simp (disch := omega) only [qX11_stair, eX11_stair_0, eX11_stair_1, eX11_stair_2, eX11_stair_3, eX11_stair_4, eX11_stair_5, eX11_stair_6, eX11_stair_7, eX11_stair_8, eX11_stair_9, cNp (d := 59) (by decide) hT ba, hnp, hfd0, if_true, if_false, zbI_s, zbL_s, zbV_s, zgd_t, zb1_t, zb1_f, zb1_01, zz_0, zz_1, zi_lit, zi_add, zi_sub, zi_mul, zi_neg, zi_z0, ym5, cR0n (d := 59) (by decide) hT q0]
    · simp (disch := omega) only [qX12_stair, eX12_stair_0, eX12_stair_1, eX12_stair_2, eX12_stair_3, eX12_stair_6, eX12_stair_7, eX12_stair_8, eX12_stair_9, hml0, sX12_isTrack, zu_n, hpt, hn, q0, hz0, zi_le, zi_eq, if_pos, if_neg, if_true, if_false, zbI_s, zbL_s, zbV_s, zgd_t, zb1_t, zb1_f, zb1_01, zz_0, zz_1, zi_lit, zi_add, zi_sub, zi_mul, zi_neg, zi_z0]
  · have qp : 0 < y.1.n := by omega
    have hnp : zNp y.1 a = zbo a 0 ((y.1.n : Int) - 1) := by
      unfold zNp
      rw [decide_eq_true qp, Bool.true_and]
    have hip : zbo a 0 ((y.1.n : Int) - 1) = true → (a < 0 ∨ (y.1.n : Int) ≤ a) := by
      unfold zbo
      intro h
      have := of_decide_eq_true h
      omega
    cases h0 : zbo a 0 ((y.1.n : Int) - 1)
    · have g0 := zbo_f h0
      by_cases hq : zFs (fun k => decide ((y.2.2.1 1).2 k 0 = a)) (y.2.2.1 1).1 < (y.2.2.1 1).1
      · rw [if_pos hq] at hfd0 hml0
        generalize zFs (fun k => decide ((y.2.2.1 1).2 k 0 = a)) (y.2.2.1 1).1 = z at hfs hq hfd0
        refine zGo_0 hr hv (.int (zi (-3))) ?_ ?_
        · simp (disch := omega) only [qX11_stair, eX11_stair_0, eX11_stair_1, eX11_stair_2, eX11_stair_3, eX11_stair_4, eX11_stair_5, eX11_stair_6, eX11_stair_7, eX11_stair_8, eX11_stair_9, cNp (d := 59) (by decide) hT ba, hnp, h0, hfd0, zi_eq, if_pos, if_neg, if_true, if_false, zbI_s, zbL_s, zbV_s, zgd_t, zb1_t, zb1_f, zb1_01, zz_0, zz_1, zi_lit, zi_add, zi_sub, zi_mul, zi_neg, zi_z0, ym3, cR01 (d := 59) (by decide) hT]
        · simp (disch := omega) only [qX12_stair, eX12_stair_0, eX12_stair_1, eX12_stair_2, eX12_stair_3, eX12_stair_6, eX12_stair_7, eX12_stair_8, eX12_stair_9, hml0, sX12_isTrack, sX12_isPoint, zu_n, hpt, zi_le, zi_lt, zi_eq, if_pos, if_neg, if_true, if_false, zbI_s, zbL_s, zbV_s, zgd_t, zb1_t, zb1_f, zb1_01, zz_0, zz_1, zi_lit, zi_add, zi_sub, zi_mul, zi_neg, zi_z0]
      · rw [if_neg hq] at hfd0 hml0
        by_cases h9 : (y.2.2.1 1).1 = 6
        · have hfull : decide ((y.2.2.1 1).1 = zMs 1) = true := decide_eq_true h9
          refine zGo_0 hr hv (.int (zi (-4))) ?_ ?_
          · simp (disch := omega) only [qX11_stair, eX11_stair_0, eX11_stair_1, eX11_stair_2, eX11_stair_3, eX11_stair_4, eX11_stair_5, eX11_stair_6, eX11_stair_7, eX11_stair_8, eX11_stair_9, cNp (d := 59) (by decide) hT ba, hnp, h0, hfd0, if_true, if_false, zbI_s, zbL_s, zbV_s, zgd_t, zb1_t, zb1_f, zb1_01, zz_0, zz_1, zi_lit, zi_add, zi_sub, zi_mul, zi_neg, zi_z0, cR0p (d := 59) (by decide) hT qp, hF, hfull]
          · simp (disch := omega) only [qX12_stair, eX12_stair_0, eX12_stair_1, eX12_stair_2, eX12_stair_3, eX12_stair_6, eX12_stair_7, eX12_stair_8, eX12_stair_9, hml0, sX12_isTrack, sX12_isPoint, zu_n, hpt, hn, zi_le, zi_lt, zi_eq, if_pos, if_neg, if_true, if_false, zbI_s, zbL_s, zbV_s, zgd_t, zb1_t, zb1_f, zb1_01, zz_0, zz_1, zi_lit, zi_add, zi_sub, zi_mul, zi_neg, zi_z0]
        · have hlt : (y.2.2.1 1).1 < 6 := by omega
          have hfull : decide ((y.2.2.1 1).1 = zMs 1) = false := decide_eq_false h9
          refine zGo_t (q := 1) (vv := fun f => if f = 0 then a else if f = 1 then 0 else if f = 2 then 0 else 0) (by decide) hr hv hlt (fun w => absurd w q0) (fun f hf => ?_) (fun h => absurd h (by decide)) (.int (zi (((y.2.2.1 1).1 : Int) + 1))) ?_ (fun I1 i1 i2 => ?_)
          · obtain rfl : f = 0 := by have : f < 1 := hf; omega
            exact g0
          · obtain ⟨I1, c1, c2, c3⟩ := cAddO (d := 59) (L := L) (r := r) (J := J) (by decide) (o := 41) (q := 1) rfl (by decide) hb hlt a 0 0 0
            refine ⟨I1, ?_, c2, c3⟩
            simp (disch := omega) only [qX11_stair, eX11_stair_0, eX11_stair_1, eX11_stair_2, eX11_stair_3, eX11_stair_4, eX11_stair_5, eX11_stair_6, eX11_stair_7, eX11_stair_8, eX11_stair_9, cNp (d := 59) (by decide) hT ba, hnp, h0, hfd0, if_true, if_false, zbI_s, zbL_s, zbV_s, zgd_t, zb1_t, zb1_f, zb1_01, zz_0, zz_1, zi_lit, zi_add, zi_sub, zi_mul, zi_neg, zi_z0, cR0p (d := 59) (by decide) hT qp, hF, hfull, c1]
          · have hn1 : I1 131 667 = zi (y.2.2.1 1).1 := by rw [i1, hn]
            have hpt1 : I1 131 0 = zi y.1.n := by rw [i1, hpt]
            have hml1 := hml (zu I1 130 0 (zi 0)) ((zu_o (by decide)).trans i1)
            rw [if_neg hq] at hml1
            generalize (y.2.2.1 1).1 = n at *
            refine ⟨zu (zu (zu I1 130 0 (zi 0)) 131 (668 + n) (zi a)) 131 667 (zi ((n + 1 : Nat) : Int)), ?_, fun o k x1 x2 => ?_, ?_, fun f hf => ?_, fun k x1 x2 => ?_⟩
            · simp (disch := omega) only [qX12_stair, eX12_stair_0, eX12_stair_1, eX12_stair_2, eX12_stair_3, eX12_stair_6, eX12_stair_7, eX12_stair_8, eX12_stair_9, hml1, sX12_isTrack, sX12_isPoint, zu_n, zu_y, hpt1, hn1, zi_le, zi_lt, zi_eq, if_pos, if_neg, if_true, if_false, zbI_s, zbL_s, zbV_s, zgd_t, zb1_t, zb1_f, zb1_01, zz_0, zz_1, zi_lit, zi_add, zi_sub, zi_mul, zi_neg, zi_z0, zin_t, zi_cl, show (668 + (n : Int)).toNat = 668 + n by omega]
              rfl
            · simp (disch := omega) only [zu_n]
            · exact zu_y ⟨rfl, rfl⟩
            · obtain rfl : f = 0 := by have : f < 1 := hf; omega
              show zu _ 131 667 _ 131 (668 + n) = zi a
              simp (disch := omega) only [zu_n, zu_y]
            · have e0 : k ≠ 667 := x1
              have e1 : k ≠ 668 + n := x2 0 (by decide)
              simp (disch := omega) only [zu_n]
    · have g0 := hip h0
      refine zGo_0 hr hv (.int (zi (-2))) ?_ ?_
      · by_cases hq : zFs (fun k => decide ((y.2.2.1 1).2 k 0 = a)) (y.2.2.1 1).1 < (y.2.2.1 1).1
        · rw [if_pos hq] at hfd0
          generalize zFs (fun k => decide ((y.2.2.1 1).2 k 0 = a)) (y.2.2.1 1).1 = z at hfs hq hfd0
          simp (disch := omega) only [qX11_stair, eX11_stair_0, eX11_stair_1, eX11_stair_2, eX11_stair_3, eX11_stair_4, eX11_stair_5, eX11_stair_6, eX11_stair_7, eX11_stair_8, eX11_stair_9, cNp (d := 59) (by decide) hT ba, hnp, h0, hfd0, zi_eq, if_pos, if_neg, if_true, if_false, zbI_s, zbL_s, zbV_s, zgd_t, zb1_t, zb1_f, zb1_01, zz_0, zz_1, zi_lit, zi_add, zi_sub, zi_mul, zi_neg, zi_z0, ym2, cR11 (d := 59) (by decide) hT]
        · rw [if_neg hq] at hfd0
          simp (disch := omega) only [qX11_stair, eX11_stair_0, eX11_stair_1, eX11_stair_2, eX11_stair_3, eX11_stair_4, eX11_stair_5, eX11_stair_6, eX11_stair_7, eX11_stair_8, eX11_stair_9, cNp (d := 59) (by decide) hT ba, hnp, h0, hfd0, if_true, if_false, zbI_s, zbL_s, zbV_s, zgd_t, zb1_t, zb1_f, zb1_01, zz_0, zz_1, zi_lit, zi_add, zi_sub, zi_mul, zi_neg, zi_z0, ym2, cR10 (d := 59) (by decide) hT]
      · rcases g0 with g0 | g0
        · simp (disch := omega) only [qX12_stair, eX12_stair_0, eX12_stair_1, eX12_stair_2, eX12_stair_3, eX12_stair_6, eX12_stair_7, eX12_stair_8, eX12_stair_9, sX12_isTrack, sX12_isPoint, zu_n, hpt, zi_le, zi_lt, zi_eq, if_pos, if_neg, if_true, if_false, zbI_s, zbL_s, zbV_s, zgd_t, zb1_t, zb1_f, zb1_01, zz_0, zz_1, zi_lit, zi_add, zi_sub, zi_mul, zi_neg, zi_z0]
        · simp (disch := omega) only [qX12_stair, eX12_stair_0, eX12_stair_1, eX12_stair_2, eX12_stair_3, eX12_stair_6, eX12_stair_7, eX12_stair_8, eX12_stair_9, sX12_isTrack, sX12_isPoint, zu_n, hpt, zi_le, zi_lt, zi_eq, if_pos, if_neg, ite_self, if_true, if_false, zbI_s, zbL_s, zbV_s, zgd_t, zb1_t, zb1_f, zb1_01, zz_0, zz_1, zi_lit, zi_add, zi_sub, zi_mul, zi_neg, zi_z0]
