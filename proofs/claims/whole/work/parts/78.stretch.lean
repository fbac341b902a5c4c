/-! a STRETCHED RUN -/
def yRuS (y : zFd) (w : Int) : Int × zS := zRn y.1.n y.1.h y.1.ch (y.1.cp fun c => y.2.2.2 c.toNat / 1000) y.1.dg (zLss y.1 w 0 0) 300 (zS0 0 y.1.push)
def yStV (y : zFd) (w wh : Int) : Int := if zRf (zbo wh 0 5) (zbo w 1 20) y.1.n = 0 then zTel wh (yRuS y w) else zRf (zbo wh 0 5) (zbo w 1 20) y.1.n
theorem zRd_cg {z : Prop} {I I2 : Nat → Nat → Int32} {s : zS} (h6 : I2 116 = I 116) (h7 : I2 117 = I 117) (h8 : I2 118 = I 118) (h : zRd z I s) : zRd z I2 s := by
  obtain ⟨fo, at1, pa, ti, tu, tp, td, pul, sl, fs, ft⟩ := s
  unfold zRd at *
  rw [h6, h7, h8]
  exact h
section
variable {d L r : Nat} {I : Nat → Nat → Int32} {J : Nat → Nat → Int64}
theorem cStr (hd : 10 ≤ d) {y : zFd} {c : Nat} (hc : c < 512) (h : zTI I J y.1) (hD : cDay 0 I J y) (hW : wDay c y) {w wh : Int} (bw : -2147483648 ≤ w ∧ w < 2147483648) (bwh : -2147483648 ≤ wh ∧ wh < 2147483648) : ∃ I', zCd zT d 209 [.ref 16, .int (zi w), .int (zi wh)] (zm L I J r) = some (some (.int (zi (yStV y w wh))), (zm L I' J r)) ∧ zSm I I' ∧ I' 120 = I 120 := by
  obtain ⟨e, rfl⟩ : ∃ e, d = e + 1 := ⟨d - 1, by omega⟩
  have k1 : zCd zT e 225 [.int (zi wh), .int 0, .int 5] (zm L I J r) = _ := cOut (lo := 0) (hi := 5) (by omega) bwh (by decide) (by decide)
  rw [qX11_stretched, eX11_stretched_0, k1, zbI_s, eX11_stretched_1, cBadW (by omega) bw, zbI_s, eX11_stretched_2, cRef (by omega) h, zbI_s, eX11_stretched_3]
  unfold yStV
  by_cases q : zRf (zbo wh 0 5) (zbo w 1 20) y.1.n = 0
  · rw [if_pos (zRf_i.mpr q), if_pos q]
    obtain ⟨q1, q2, q3⟩ := zRf_0.mp q
    have gw := zbo_f q2
    have gwh := zbo_f q1
    have hw := h.2.2.1
    have hl := zLss_b hw gw.1 (wi := 0) (co := 0) (by decide) (by decide)
    have hdr : I 32 9 = zi y.1.drag := h.1.2.2.2.2.2.2.2.2.1
    have hpu : I 32 10 = zi y.1.push := h.1.2.2.2.2.2.2.2.2.2
    have bdr := hw.2.2.2.2.2.2.2.2.1
    have bpu := hw.2.2.2.2.2.2.2.2.2
    have s0 : I 55 0 = zi (y.2.2.2 0) := hD.2.2.2 0 (by decide)
    have s1 : I 55 1 = zi (y.2.2.2 1) := hD.2.2.2 1 (by decide)
    have b0 := hW.2.2.2.1 0 (by decide)
    have b1 := hW.2.2.2.1 1 (by decide)
    have hz : decide (zi w ≠ 0) = true := by
      rw [decide_eq_true_iff, show (0 : Int32) = zi 0 from rfl, ne_eq, zi_eq (by omega) (by decide)]
      omega
    have hL : (((10 : Int32) * zi y.1.drag + (2 : Int32) * 0) + 0) / zi w = zi (zLss y.1 w 0 0) := by
      unfold zLss
      simp (disch := omega) only [zi_lit, zi_mul, zi_add, zi_div]
    have hloss : zCd zT e 236 [.ref 16, .int (zi w), .int 0, .int 0] (zm L I J r) = some (some (.int (zi (zLss y.1 w 0 0))), (zm L I J r)) := by
      rw [sX11_lossIn (by omega), hdr, if_pos (show (1 : Int32) ≤ zi w by simp (disch := omega) only [zi_lit, zi_le]; omega), hz, zgd_t, hL]
    have ht0 : zCd zT e 3 [.ref 31, .int 0] (zm L I J r) = some (some (.int (zi (y.2.2.2 0))), (zm L I J r)) := by
      rw [sX0_stretch (by omega), if_neg (by decide), if_pos (by decide), show zin 0 2 = true from rfl, zgd_t]
      exact congrArg (fun x => some (some (Value.int x), zm L I J r)) s0
    have ht1 : zCd zT e 3 [.ref 31, .int 1] (zm L I J r) = some (some (.int (zi (y.2.2.2 1))), (zm L I J r)) := by
      rw [sX0_stretch (by omega), if_neg (by decide), if_pos (by decide), show zin 1 2 = true from rfl, zgd_t]
      exact congrArg (fun x => some (some (Value.int x), zm L I J r)) s1
    have d0 : zi (y.2.2.2 0) / (1000 : Int32) = zi (y.2.2.2 0 / 1000) := zi_div (y := 1000) (by omega) (by decide)
    have d1 : zi (y.2.2.2 1) / (1000 : Int32) = zi (y.2.2.2 1 / 1000) := zi_div (y := 1000) (by omega) (by decide)
    rw [eX11_stretched_4, hloss, zbI_s, eX11_stretched_5, ht0, zbI_s, eX11_stretched_6, ht1, zbI_s, eX11_stretched_7, d0, d1]
    generalize hIA : zu (zu I 119 0 (zi (y.2.2.2 0 / 1000))) 119 1 (zi (y.2.2.2 1 / 1000)) = IA
    have oA : ∀ o, o ≠ 119 → IA o = I o := fun o ho => by rw [← hIA, zu_o ho, zu_o ho]
    have cA : cTr 0 IA J y.1 := cTr_fr (fun o _ _ => oA _ (by omega)) (fun _ _ _ => rfl) h.1
    have tk : zTk IA J y.1.n y.1.h y.1.ch (y.1.cp fun c => y.2.2.2 c.toNat / 1000) y.1.dg := zTk_of cA hw (fun c hc2 => by
      have : c = 0 ∨ c = 1 := by omega
      rcases this with rfl | rfl
      · refine ⟨by rw [← hIA, zu_n (by omega), zu_y ⟨rfl, rfl⟩]; rfl, ?_, ?_⟩
        · show 0 ≤ y.2.2.2 0 / 1000
          omega
        · show y.2.2.2 0 / 1000 ≤ 1000000
          omega
      · refine ⟨by rw [← hIA, zu_y ⟨rfl, rfl⟩]; rfl, ?_, ?_⟩
        · show 0 ≤ y.2.2.2 1 / 1000
          omega
        · show y.2.2.2 1 / 1000 ≤ 1000000
          omega)
    obtain ⟨e1, rfl⟩ : ∃ e1, e = e1 + 1 := ⟨e - 1, by omega⟩
    have puA : IA 32 10 = zi y.1.push := by rw [oA 32 (by decide)]; exact hpu
    obtain ⟨I', c1, c2, c3, c4⟩ := cGo (d := e1) (L := L) (r := r) (by omega) hl tk q3 bpu
    have c1' : zCd zT e1 22 [.ref 116, .ref 32, .int (zi (zLss y.1 w 0 0)), .int 0, .int (zi y.1.push)] (zm L IA J r) = some (none, (zm L I' J r)) := c1
    have fl := cFillI (d := e1) (L := L) (r := r) (I := I') (J := J) (by omega) (o := 119) (n := 2) (by decide) rfl (by decide) 0
    rw [qX3_goSlipping, eX3_goSlipping_0, hIA, sX9_push (by omega), zbI_s, puA, eX3_goSlipping_1, c1', zbV_s, eX3_goSlipping_2, fl, zbV_s, eX3_goSlipping_3, zbV_s, eX11_stretched_8, cTell (p := yRuS y w) (by omega) (zRd_cg (zfI_o (by decide)) (zfI_o (by decide)) (zfI_o (by decide)) c2) (by rw [zfI_o (by decide)]; exact c4) gwh, zbI_s, eX11_stretched_9]
    refine ⟨_, rfl, fun o k hp => ?_, by rw [zfI_o (by decide), c3 120 (by decide) (by decide) (by decide), oA 120 (by decide)]⟩
    have n6 : o ≠ 116 := fun w => by rw [w] at hp; cases hp
    have n7 : o ≠ 117 := fun w => by rw [w] at hp; cases hp
    have n8 : o ≠ 118 := fun w => by rw [w] at hp; cases hp
    by_cases e9 : o = 119
    · subst e9
      unfold zfI
      by_cases k2 : k < 2
      · rw [if_pos ⟨rfl, k2⟩]
        exact (h.2.2.2.1 k k2).symm
      · rw [if_neg (fun w => k2 w.2), c3 119 (by decide) (by decide) (by decide), ← hIA, zu_n (by omega), zu_n (by omega)]
    · rw [zfI_o e9, c3 o n6 n7 n8, oA o e9]
  · rw [if_neg (fun x => q (zRf_i.mp x)), if_neg q]
    exact ⟨I, rfl, zSm_rf, rfl⟩
theorem mStr (hd : 10 ≤ d) {y : zFd} {c : Nat} (hc : c < 512) (h : zTI I J y.1) (hD : mDay 0 I y) (hW : wDay c y) {w wh : Int} (bw : -2147483648 ≤ w ∧ w < 2147483648) (bwh : -2147483648 ≤ wh ∧ wh < 2147483648) : ∃ I', zCd zT d 358 [.ref 130, .int (zi w), .int (zi wh)] (zm L I J r) = some (some (.int (zi (yStV y w wh))), (zm L I' J r)) ∧ zSm I I' ∧ I' 120 = I 120 := by
  obtain ⟨e, rfl⟩ : ∃ e, d = e + 1 := ⟨d - 1, by omega⟩
  have h0 := zTI_fr zSm_0 h
  have g0 : zu I 130 0 0 120 = I 120 := zu_o (by decide)
  have hs0 : zSm I (zu I 130 0 0) := zSm_0
  have v0 : zu I 130 0 0 131 (881 + 0) = zi (y.2.2.2 0) := by rw [zu_o (by decide)]; have := hD.2.2.2 0 (by decide); rwa [Nat.zero_add] at this
  have v1 : zu I 130 0 0 131 (881 + 1) = zi (y.2.2.2 1) := by rw [zu_o (by decide)]; have := hD.2.2.2 1 (by decide); rwa [Nat.zero_add] at this
  rw [qX12_stretched, eX12_stretched_0, mWithin (by omega) bwh, zbI_s, eX12_stretched_1, show (0 : Int64).toInt = 0 from rfl, show (5 : Int64).toInt = 5 from rfl]
  generalize zu I 130 0 0 = IA at h0 g0 hs0 v0 v1 ⊢
  unfold yStV
  cases hwh : zbo wh 0 5
  · rw [if_neg (show ¬ zb1 (!false) = 0 by decide), eX12_stretched_2, mWeight (by omega) bw, zbI_s, eX12_stretched_3]
    cases hwb : zbo w 1 20
    · rw [if_neg (show ¬ zb1 (!false) = 0 by decide), eX12_stretched_4, mTrack (by omega) h0, zbI_s, eX12_stretched_5]
      by_cases hn : 0 < y.1.n
      · have hz : zRf false false y.1.n = 0 := zRf_0.mpr ⟨rfl, rfl, hn⟩
        have gw := zbo_f hwb
        have gwh := zbo_f hwh
        have hw := h0.2.2.1
        have hl := zLss_b hw gw.1 (wi := 0) (co := 0) (by decide) (by decide)
        have hdr : IA 131 79 = zi y.1.drag := h0.2.1.2.2.2.2.2.2.2.2.1
        have hpu : IA 131 80 = zi y.1.push := h0.2.1.2.2.2.2.2.2.2.2.2
        have bdr := hw.2.2.2.2.2.2.2.2.1
        have bpu := hw.2.2.2.2.2.2.2.2.2
        have b0 := hW.2.2.2.1 0 (by decide)
        have b1 := hW.2.2.2.1 1 (by decide)
        rw [decide_eq_true hn, if_neg (show ¬ zb1 true = 0 by decide), eX12_stretched_6, if_pos hz]
        have oB : ∀ o, o ≠ 130 → zu IA 130 25 1 o = IA o := fun o ho => zu_o ho
        have cB : mTr 0 (zu IA 130 25 1) y.1 := mTr_fr hw (fun k _ => by rw [oB 131 (by decide)]) h0.2.1
        have d0 : zi (y.2.2.2 0) / (1000 : Int32) = zi (y.2.2.2 0 / 1000) := zi_div (y := 1000) (by omega) (by decide)
        have d1 : zi (y.2.2.2 1) / (1000 : Int32) = zi (y.2.2.2 1 / 1000) := zi_div (y := 1000) (by omega) (by decide)
        have tk : mTk (zu IA 130 25 1) y.1.n y.1.h y.1.ch (y.1.cp fun c => y.2.2.2 c.toNat / 1000) y.1.dg := mTk_of cB hw (fun c hc2 => by
          rw [zu_y ⟨rfl, rfl⟩, if_neg (by decide), oB 131 (by decide)]
          have : c = 0 ∨ c = 1 := by omega
          rcases this with rfl | rfl
          · refine ⟨?_, ?_, by rw [v0, d0]; rfl⟩
            · show 0 ≤ y.2.2.2 0 / 1000
              omega
            · show y.2.2.2 0 / 1000 ≤ 1000000
              omega
          · refine ⟨?_, ?_, by rw [v1, d1]; rfl⟩
            · show 0 ≤ y.2.2.2 1 / 1000
              omega
            · show y.2.2.2 1 / 1000 ≤ 1000000
              omega)
        generalize hIB : zu IA 130 25 1 = IB at tk oB
        obtain ⟨e1, rfl⟩ : ∃ e1, e = e1 + 2 := ⟨e - 2, by omega⟩
        obtain ⟨I', c1, c2, c3, c4⟩ := mGo (d := e1) (L := L) (r := r) (J := J) (by omega) hl tk hn bpu
        have c1' : zCd zT e1 277 [.ref 130, .int 0, .int (zi y.1.push), .int (zi (zLss y.1 w 0 0))] (zm L IB J r) = some (none, (zm L I' J r)) := c1
        have hzw : decide (zi w ≠ 0) = true := by
          rw [decide_eq_true_iff, show (0 : Int32) = zi 0 from rfl, ne_eq, zi_eq (by omega) (by decide)]
          omega
        have hL : (((10 : Int32) * zi y.1.drag + (2 : Int32) * 0) + 0) / zi w = zi (zLss y.1 w 0 0) := by
          unfold zLss
          simp (disch := omega) only [zi_lit, zi_mul, zi_add, zi_div]
        have hdB : IB 131 79 = zi y.1.drag := by rw [oB 131 (by decide)]; exact hdr
        have hpB : IB 131 80 = zi y.1.push := by rw [oB 131 (by decide)]; exact hpu
        rw [qX12_runsBy, eX12_runsBy_0, hdB, sX12_lossOf (by omega), hzw, zgd_t, zbI_s, eX12_runsBy_1, hL, qX12_runs, eX12_runs_0, hpB, c1', zbV_s, eX12_runs_1, zbV_s, eX12_runsBy_2, zbV_s, eX12_stretched_7]
        refine ⟨zu I' 130 25 0, ?_, zSm_tr hs0 (fun o k hp => ?_), by rw [zu_o (by decide), funext fun k => c3 120 k (by decide) (by decide) (fun q => by cases q.1), oB 120 (by decide), g0]⟩
        · have hk : wh = 0 ∨ wh = 1 ∨ wh = 2 ∨ wh = 3 ∨ wh = 4 ∨ wh = 5 := by omega
          have c2' : mRd y.1.n I' (yRuS y w).2 := c2
          have c4' : I' 130 19 = zi (yRuS y w).1 := c4
          generalize yRuS y w = p at c2' c4'
          obtain ⟨en, fo, at1, pa, ti, tu, tp, td, pul, sl, fs, ft⟩ := p
          obtain ⟨⟨h20, h21, h24, h23, h22⟩, _⟩ := c2'
          rcases hk with q | q | q | q | q | q <;> subst q
          · rw [show ztb (zi 0).toInt 0 [8, 9, 10, 11, 12] 13 = 8 from by decide, eX12_stretched_8, zu_n (by omega), c4']
            rfl
          · rw [show ztb (zi 1).toInt 0 [8, 9, 10, 11, 12] 13 = 9 from by decide, eX12_stretched_9, zu_n (by omega), h24]
            rfl
          · rw [show ztb (zi 2).toInt 0 [8, 9, 10, 11, 12] 13 = 10 from by decide, eX12_stretched_10, zu_n (by omega), h20]
            rfl
          · rw [show ztb (zi 3).toInt 0 [8, 9, 10, 11, 12] 13 = 11 from by decide, eX12_stretched_11, zu_n (by omega), h23]
            rfl
          · rw [show ztb (zi 4).toInt 0 [8, 9, 10, 11, 12] 13 = 12 from by decide, eX12_stretched_12, zu_n (by omega), h21]
            rfl
          · rw [show ztb (zi 5).toInt 0 [8, 9, 10, 11, 12] 13 = 13 from by decide, eX12_stretched_13, zu_n (by omega), h22]
            rfl
        · by_cases e9 : o = 130 ∧ k = 25
          · rw [zu_y e9, e9.1, e9.2]
            exact h0.2.2.2.2.symm
          · rw [zu_n e9, zSm_m c3 o k hp, ← hIB, zu_n e9]
      · rw [decide_eq_false hn, if_pos (show zb1 false = 0 from rfl)]
        have hz : zRf false false y.1.n = -5 := by
          unfold zRf
          rw [if_neg (by decide), if_neg (by decide), if_pos (by omega)]
        rw [hz]
        exact ⟨_, rfl, hs0, g0⟩
    · rw [if_pos (show zb1 (!true) = 0 from rfl)]
      exact ⟨_, rfl, hs0, g0⟩
  · rw [if_pos (show zb1 (!true) = 0 from rfl)]
    have hz : zRf true (zbo w 1 20) y.1.n = -2 := by
      unfold zRf
      rw [if_pos rfl]
    rw [hz]
    exact ⟨_, rfl, hs0, g0⟩
end
theorem oStretched (a b : Int32) : zOk 209 358 [.int a, .int b] := by
  obtain ⟨a, rfl, ba⟩ := zi_of a
  obtain ⟨b, rfl, bb⟩ := zi_of b
  exact zOk_k (V := fun y => .int (zi (yStV y a b))) (fun L r c I J y h hD hW hcc hc => by
    obtain ⟨I', x1, x2, x3⟩ := cStr (d := 60) (L := L) (r := r) (by decide) hcc h hD hW ba bb
    exact ⟨I', x1, x2, by unfold zCa; rw [x3]; exact hc⟩) (fun L r c I J y h hD hW hcc => mStr (by decide) hcc h hD hW ba bb)
