/-! TIMES of BLOCKS -/
theorem zStp_all {h ch : Nat → Int} {cp : Int → Int} {dg : Nat → Bool} {loss : Int} {s : zS} (hs : ∀ p, p ≤ s.2.1 → ¬ zfSp s p = -1) : ∀ p, p ≤ (zStp h ch cp dg loss s).2.2.1 → ¬ zfSp (zStp h ch cp dg loss s).2 p = -1 := by
  obtain ⟨fo, at1, pa, ti, tu, tp, td, pul, sl, fs, ft⟩ := s
  intro p
  by_cases q : fo = false ∧ dg at1 = true
  · rw [zStp_a q]
    exact hs p
  · by_cases q2 : fo = false ∧ (at1 = 0 ∨ ¬ ch at1 = -1)
    · rw [zStp_b q q2]
      exact hs p
    · rw [zStp_c q q2]
      split
      · exact hs p
      · rename_i w
        generalize zNxt h ch cp loss fo at1 pa = x at w
        intro hp
        have hp1 : p ≤ (if fo = true then at1 + 1 else at1 - 1) := hp
        show ¬ (if p = (if fo = true then at1 + 1 else at1 - 1) ∧ fs (if fo = true then at1 + 1 else at1 - 1) = -1 then (if 999 < x then 999 else x) else fs p) = -1
        by_cases e : p = (if fo = true then at1 + 1 else at1 - 1) ∧ fs (if fo = true then at1 + 1 else at1 - 1) = -1
        · rw [if_pos e]
          split <;> omega
        · rw [if_neg e]
          by_cases e2 : p ≤ at1
          · exact hs p e2
          · have e3 : p = (if fo = true then at1 + 1 else at1 - 1) := by
              split at hp1 <;> split <;> omega
            rw [e3]
            exact fun e4 => e ⟨e3, e4⟩
theorem zRn_all {n : Nat} {h ch : Nat → Int} {cp : Int → Int} {dg : Nat → Bool} {loss : Int} : ∀ (k : Nat) (s : zS), (∀ p, p ≤ s.2.1 → ¬ zfSp s p = -1) → (∀ p, p ≤ (zRn n h ch cp dg loss k s).2.2.1 → ¬ zfSp (zRn n h ch cp dg loss k s).2 p = -1) ∧ ((zRn n h ch cp dg loss k s).1 = 0 → n ≤ (zRn n h ch cp dg loss k s).2.2.1 + 1) := by
  intro k
  induction k with
  | zero =>
    intro s hs
    refine ⟨hs, fun e => ?_⟩
    have e1 : (if n ≤ s.2.1 + 1 then (0 : Int) else 1) = 0 := e
    by_cases q : n ≤ s.2.1 + 1
    · exact q
    · rw [if_neg q] at e1
      cases e1
  | succ k ih =>
    intro s hs
    by_cases q : n ≤ s.2.1 + 1
    · rw [show zRn n h ch cp dg loss (k + 1) s = (0, s) from if_pos q]
      exact ⟨hs, fun _ => q⟩
    · have h1 := zStp_all (h := h) (ch := ch) (cp := cp) (dg := dg) (loss := loss) hs
      by_cases q3 : (zStp h ch cp dg loss s).1 = 3
      · rw [show zRn n h ch cp dg loss (k + 1) s = zRn n h ch cp dg loss k (zStp h ch cp dg loss s).2 from (if_neg q).trans (if_pos q3)]
        exact ih _ h1
      · rw [show zRn n h ch cp dg loss (k + 1) s = zStp h ch cp dg loss s from (if_neg q).trans (if_neg q3)]
        refine ⟨h1, fun e => ?_⟩
        rcases zStp_1 (h := h) (ch := ch) (cp := cp) (dg := dg) (loss := loss) (s := s) with w | w | w
        · rw [w] at e
          cases e
        · rw [w] at e
          cases e
        · exact absurd w q3
theorem zRu_all {t : zDy} {loss v : Int} (hv : 0 ≤ v) (ho : (zRu t loss 0 v).1 = 0) : t.n ≤ (zRu t loss 0 v).2.2.1 + 1 ∧ ∀ p, p < t.n → ¬ zfSp (zRu t loss 0 v).2 p = -1 := by
  have h := zRn_all (n := t.n) (h := t.h) (ch := t.ch) (cp := t.cp fun _ => 0) (dg := t.dg) (loss := loss) 300 (zS0 0 v) (fun p hp => by
    have hp0 : p ≤ 0 := hp
    show ¬ (if p = 0 ∧ (-1 : Int) = -1 then v else -1) = -1
    rw [if_pos ⟨by omega, rfl⟩]
    omega)
  have h1 := h.2 ho
  exact ⟨h1, fun p hp => h.1 p (by have : t.n ≤ (zRn t.n t.h t.ch (t.cp fun _ => 0) t.dg loss 300 (zS0 0 v)).2.2.1 + 1 := h1; omega)⟩
def yTs (t : zDy) (b : Nat) : Nat := if b = 0 then 0 else (t.sp (b - 1)).toNat
def yTe (t : zDy) (b : Nat) : Nat := if b = t.m then t.n - 1 else (t.sp b).toNat
def yTm (t : zDy) (s : zS) (b : Nat) : Int32 := zi (zfTi s (yTe t b)) - zi (zfTi s (yTs t b))
theorem yTse_b {t : zDy} (hw : wTr t) (hn : 0 < t.n) {b : Nat} (hb : b ≤ t.m) : yTs t b < t.n ∧ yTe t b < t.n := by
  have h1 := hw.1
  have h2 := hw.2.2.2.1
  unfold yTs yTe
  constructor
  · split
    · omega
    · have := h2 (b - 1) (by omega)
      omega
  · split
    · omega
    · have := h2 b (by omega)
      omega
section
variable {d L r : Nat} {I : Nat → Nat → Int32} {J : Nat → Nat → Int64}
variable {t : zDy}
theorem cFirT (hd : 2 ≤ d) {s : zS} (h : zRd (0 = 0) I s) {p : Nat} (hp : p < 60) : zCd zT d 32 [.ref 116, .int (zi (p : Int))] (zm L I J r) = some (some (.int (if zfSp s p = -1 then -1 else zi (zfTi s p))), (zm L I J r)) := by
  obtain ⟨fo, at1, pa, ti, tu, tp, td, pul, sl, fs, ft⟩ := s
  obtain ⟨_, _, fa, h10, f1, f2, f3⟩ := h
  have q := (f3 rfl).2 p hp
  have e1 : zi (p : Int) < 0 ↔ (p : Int) < 0 := zi_lt (y := 0) (by omega) (by decide)
  have e2 : zi fa < zi (p : Int) ↔ fa < p := zi_lt (by omega) (by omega)
  have e3 : (60 : Int32) ≤ zi (p : Int) ↔ 60 ≤ (p : Int) := zi_le (x := 60) (by decide) (by omega)
  rw [sX3_firstTicksAt hd, h10]
  simp only [e1, e2, e3]
  rw [if_neg (show ¬ (p : Int) < 0 by omega), if_neg (show ¬ (60 : Int) ≤ (p : Int) by omega), if_neg (show ¬ (60 : Int) ≤ (p : Int) by omega)]
  by_cases hq : fa < (p : Int)
  · rw [if_pos hq, if_pos rfl]
    show some (some (Value.int (-1 : Int32)), zm L I J r) = some (some (.int (if fs p = -1 then -1 else zi (ft p))), zm L I J r)
    rw [if_pos (q.1.mpr hq)]
  · rw [if_neg hq, if_neg (by decide), zin_t (by omega) (by omega), zgd_t, zi_cl (by omega), Int.toNat_natCast, (q.2 (by omega)).2]
    show some (some (Value.int (zi (ft p))), zm L I J r) = some (some (.int (if fs p = -1 then -1 else zi (ft p))), zm L I J r)
    rw [if_neg (fun w => hq (q.1.mp w))]
theorem cEnd (hd : 1 ≤ d) (h : zTI I J t) (hn : 0 < t.n) {b : Nat} (hb : b ≤ t.m) : zCd zT d 125 [.ref 32, .int (zi (b : Int))] (zm L I J r) = some (some (.int (zi (yTe t b : Int))), (zm L I J r)) := by
  have hw := h.2.2.1
  have hm := hw.2.2.1
  have h1 := hw.1
  have e5 : I 32 5 = zi t.n := h.1.1
  have e6 : I 32 6 = zi t.m := h.1.2.2.1
  unfold yTe
  by_cases q : b = t.m
  · rw [if_pos q, sX9_blockEnd hd, e5, e6, if_neg (show ¬ zi (b : Int) < 0 by rw [show (0 : Int32) = zi 0 from rfl, zi_lt (by omega) (by decide)]; omega), if_pos (show zi (t.m : Int) ≤ zi (b : Int) by rw [zi_le (by omega) (by omega)]; omega)]
    exact congrArg (fun x => some (some (Value.int x), zm L I J r)) ((zi_sub _ 1).trans (congrArg zi (by omega)))
  · have g := h.1.2.2.2.1 b (by omega)
    have g1 : I 34 b = zi (t.sp b) := g
    have w := hw.2.2.2.1 b (by omega)
    rw [if_neg q, sX9_blockEnd hd, e6, if_neg (show ¬ zi (b : Int) < 0 by rw [show (0 : Int32) = zi 0 from rfl, zi_lt (by omega) (by decide)]; omega), if_neg (show ¬ zi (t.m : Int) ≤ zi (b : Int) by rw [zi_le (by omega) (by omega)]; omega), if_pos (show zi (b : Int) < 5 by rw [show (5 : Int32) = zi 5 from rfl, zi_lt (by omega) (by decide)]; omega), zin_t (by omega) (by omega), zgd_t, zi_cl (by omega), Int.toNat_natCast, g1]
    exact congrArg (fun x => some (some (Value.int (zi x)), zm L I J r)) (by omega)
theorem cStart (hd : 1 ≤ d) (h : zTI I J t) (hn : 0 < t.n) {b : Nat} (hb : b ≤ t.m) : zCd zT d 124 [.ref 32, .int (zi (b : Int))] (zm L I J r) = some (some (.int (zi (yTs t b : Int))), (zm L I J r)) := by
  have hw := h.2.2.1
  have hm := hw.2.2.1
  have h1 := hw.1
  unfold yTs
  by_cases q : b = 0
  · rw [if_pos q, sX9_blockStart hd (o := 32) (by decide), if_pos (show zi (b : Int) < 1 by rw [show (1 : Int32) = zi 1 from rfl, zi_lt (by omega) (by decide)]; omega)]
    rfl
  · have g := h.1.2.2.2.1 (b - 1) (by omega)
    have g1 : I 34 (b - 1) = zi (t.sp (b - 1)) := g
    have w := hw.2.2.2.1 (b - 1) (by omega)
    have k1 : zi (b : Int) - (1 : Int32) = zi ((b - 1 : Nat) : Int) := (zi_sub _ 1).trans (congrArg zi (by omega))
    rw [if_neg q, sX9_blockStart hd (o := 32) (by decide), if_neg (show ¬ zi (b : Int) < 1 by rw [show (1 : Int32) = zi 1 from rfl, zi_lt (by omega) (by decide)]; omega), if_pos (show zi (b : Int) ≤ 5 by rw [show (5 : Int32) = zi 5 from rfl, zi_le (by omega) (by decide)]; omega), k1, zin_t (by omega) (by omega), zgd_t, zi_cl (by omega), Int.toNat_natCast, g1]
    exact congrArg (fun x => some (some (Value.int (zi x)), zm L I J r)) (by omega)
theorem cTT (hd : 9 ≤ d) (h : zTI I J t) (hn : 0 < t.n) {w : Int} (hw : 1 ≤ w ∧ w ≤ 20) : ∃ I', zCd zT d 153 [.ref 16, .int (zi w)] (zm L I J r) = some (some (.int (zb1 (zIsO t w 0 0))), (zm L I' J r)) ∧ (∀ o, o ≠ 116 → o ≠ 117 → o ≠ 118 → o ≠ 128 → I' o = I o) ∧ (zIsO t w 0 0 = true → ∀ b, b ≤ t.m → I' 128 b = yTm t (zRu t (zLss t w 0 0) 0 t.push).2 b) := by
  obtain ⟨e, rfl⟩ : ∃ e, d = e + 1 := ⟨d - 1, by omega⟩
  have hwt := h.2.2.1
  have hm := hwt.2.2.1
  have h1 := hwt.1
  have bpu := hwt.2.2.2.2.2.2.2.2.2
  obtain ⟨I1, c1, c2, c3, c4⟩ := cPass (d := e) (L := L) (r := r) (by omega) h hn hw (wi := 0) (co := 0) (by decide) (by decide)
  have c1' : zCd zT e 238 [.ref 16, .int (zi w), .int 0, .int 0] (zm L I J r) = some (none, (zm L I1 J r)) := c1
  have e4 := zi_e0 (zRu_e (t := t) (l := zLss t w 0 0) (v := t.push) (f := 0))
  rw [qX11_takeTimes, eX11_takeTimes_0, c1', zbV_s, eX11_takeTimes_1, sX3_isOut (by omega), zbI_s, eX11_takeTimes_2, c4]
  unfold zIsO
  by_cases q : (zRu t (zLss t w 0 0) 0 t.push).1 = 0
  · have al := zRu_all bpu.1 q
    rw [if_pos (e4.mpr q), if_neg (by decide), decide_eq_true q, eX11_takeTimes_3]
    generalize (zRu t (zLss t w 0 0) 0 t.push).2 = s at c2 al ⊢
    have hT1 := zTI_fr (zSm_3 c3) h
    have fl := zForI (n := t.m + 1) (G := fun b I2 => zX 3 (zCd zT e) zc_X11_takeTimes 4 [some (.ref 16), some (.int (zi w)), some (.ref 32), some (.int (zi ((b : Nat) : Int)))] [] (zm L I2 J r)) (P := fun b I2 => (∀ o, o ≠ 128 → I2 o = I1 o) ∧ ∀ k, k < b → I2 128 k = yTm t s k) (fun b I2 hb hP => by
      have f2 : zSm I1 I2 := fun o k hp => by rw [hP.1 o (fun q => by rw [q] at hp; cases hp)]
      have hT2 := zTI_fr f2 hT1
      have hR2 : zRd (0 = 0) I2 s := zRd_cg (hP.1 _ (by decide)) (hP.1 _ (by decide)) (hP.1 _ (by decide)) c2
      have e5 : I2 32 5 = zi t.n := hT2.1.1
      have e6 : I2 32 6 = zi t.m := hT2.1.2.2.1
      have se := yTse_b hwt hn (show b ≤ t.m by omega)
      have r1 := al.2 (yTe t b) se.2
      have r2 := al.2 (yTs t b) se.1
      have kb : zCd zT e 113 [.ref 32] (zm L I2 J r) = some (some (.int (zi ((t.m + 1 : Nat) : Int))), (zm L I2 J r)) := by
        rw [sX9_blocks (by omega) (o := 32) (by decide), e5, e6, if_neg (show ¬ zi (t.n : Int) = 0 by rw [show (0 : Int32) = zi 0 from rfl, zi_eq (by omega) (by decide)]; omega)]
        exact congrArg (fun x => some (some (Value.int x), zm L I2 J r)) (zi_add _ 1)
      have k1 : zi ((b : Nat) : Int) + (1 : Int32) = zi ((b + 1 : Nat) : Int) := zi_add _ 1
      refine ⟨zu I2 128 b (yTm t s b), ?_, fun o ho => (zu_o ho).trans (hP.1 o ho), fun k hk => ?_⟩
      · rw [eX11_takeTimes_4, kb, zbI_s, eX11_takeTimes_5, if_neg (show ¬ zi ((t.m + 1 : Nat) : Int) ≤ zi ((b : Nat) : Int) by rw [zi_le (by omega) (by omega)]; omega), if_neg (show ¬ (6 : Int32) ≤ zi ((b : Nat) : Int) by rw [show (6 : Int32) = zi 6 from rfl, zi_le (by decide) (by omega)]; omega), cEnd (by omega) hT2 hn (by omega), zbI_s, eX11_takeTimes_6, cFirT (by omega) hR2 (by omega), zbI_s, eX11_takeTimes_7, cStart (by omega) hT2 hn (by omega), zbI_s, eX11_takeTimes_8, cFirT (by omega) hR2 (by omega), zbI_s, eX11_takeTimes_9, zin_t (by omega) (by omega), zgd_t, zi_cl (by omega), Int.toNat_natCast, if_neg r1, if_neg r2, k1]
        rfl
      · by_cases e9 : k = b
        · rw [e9, zu_y ⟨rfl, rfl⟩]
        · rw [zu_n (by omega)]
          exact hP.2 k (by omega)) I1 ⟨fun _ _ => rfl, fun k hk => absurd hk (by omega)⟩
    obtain ⟨I2, g1, g2, g3⟩ := fl
    have z0 : zX 3 (zCd zT e) zc_X11_takeTimes 4 [some (.ref 16), some (.int (zi w)), some (.ref 32), some (.int 0)] [] (zm L I1 J r) = _ := g1
    have f2 : zSm I1 I2 := fun o k hp => by rw [g2 o (fun q => by rw [q] at hp; cases hp)]
    have hT2 := zTI_fr f2 hT1
    have e5 : I2 32 5 = zi t.n := hT2.1.1
    have e6 : I2 32 6 = zi t.m := hT2.1.2.2.1
    have kb : zCd zT e 113 [.ref 32] (zm L I2 J r) = some (some (.int (zi ((t.m + 1 : Nat) : Int))), (zm L I2 J r)) := by
      rw [sX9_blocks (by omega) (o := 32) (by decide), e5, e6, if_neg (show ¬ zi (t.n : Int) = 0 by rw [show (0 : Int32) = zi 0 from rfl, zi_eq (by omega) (by decide)]; omega)]
      exact congrArg (fun x => some (some (Value.int x), zm L I2 J r)) (zi_add _ 1)
    refine ⟨I2, by rw [z0, eX11_takeTimes_4, kb, zbI_s, eX11_takeTimes_5, if_pos (Int32.le_refl _), eX11_takeTimes_10]; rfl, fun o n6 n7 n8 n9 => (g2 o n9).trans (c3 o n6 n7 n8), fun _ b hb => g3 b (by omega)⟩
  · rw [if_neg (fun w => q (e4.mp w)), if_pos rfl, decide_eq_false q]
    exact ⟨I1, rfl, fun o n6 n7 n8 _ => c3 o n6 n7 n8, fun w => by cases w⟩
theorem mTmO (hd : 2 ≤ d) (h : zTI I J t) (hn : 0 < t.n) {s : zS} (hs : mRd t.n I s) (hal : ∀ p, p < t.n → ¬ zfSp s p = -1) {b : Nat} (hb : b ≤ t.m) : zCd zT d 307 [.ref 130, .int (zi (b : Int))] (zm L I J r) = some (some (.int (yTm t s b)), (zm L I J r)) := by
  obtain ⟨e, rfl⟩ : ∃ e, d = e + 1 := ⟨d - 1, by omega⟩
  have hw := h.2.2.1
  have hm := hw.2.2.1
  have h1 := hw.1
  have e0 : I 131 0 = zi t.n := h.2.1.1
  have e6 : I 131 61 = zi t.m := h.2.1.2.2.1
  have se := yTse_b hw hn hb
  have tk : ∀ p, p < t.n → I 136 p = zi (zfTi s p) := by
    intro p hp
    have r1 := hal p hp
    obtain ⟨fo, at1, pa, ti, tu, tp, td, pul, sl, fs, ft⟩ := s
    exact (hs.2.2 p hp).2.2.2 r1
  have a1 : (62 : Int32) + zi (b : Int) = zi ((62 + b : Nat) : Int) := zi_add 62 _
  have kE : zCd zT e 245 [.ref 130, .int (zi (b : Int))] (zm L I J r) = some (some (.int (zi (yTe t b : Int))), (zm L I J r)) := by
    rw [sX12_endOf (by omega), e0, e6, a1]
    unfold yTe
    by_cases q : b = t.m
    · rw [if_pos q, if_pos (by rw [q])]
      exact congrArg (fun x => some (some (Value.int x), zm L I J r)) ((zi_sub _ 1).trans (congrArg zi (by omega)))
    · have g := h.2.1.2.2.2.1 b (by omega)
      rw [Nat.zero_add] at g
      have w := hw.2.2.2.1 b (by omega)
      rw [if_neg q, if_neg (show ¬ zi (b : Int) = zi (t.m : Int) by rw [zi_eq (by omega) (by omega)]; omega), zin_t (by omega) (by omega), zgd_t, zi_cl (by omega), Int.toNat_natCast, g]
      exact congrArg (fun x => some (some (Value.int (zi x)), zm L I J r)) (by omega)
  have kS : zCd zT e 244 [.ref 130, .int (zi (b : Int))] (zm L I J r) = some (some (.int (zi (yTs t b : Int))), (zm L I J r)) := by
    rw [sX12_startOf (by omega), a1]
    unfold yTs
    by_cases q : b = 0
    · rw [if_pos q, if_pos (by rw [q]; rfl)]
      rfl
    · have g := h.2.1.2.2.2.1 (b - 1) (by omega)
      rw [Nat.zero_add] at g
      have w := hw.2.2.2.1 (b - 1) (by omega)
      have k1 : zi ((62 + b : Nat) : Int) - (1 : Int32) = zi ((62 + (b - 1) : Nat) : Int) := (zi_sub _ 1).trans (congrArg zi (by omega))
      rw [if_neg q, if_neg (show ¬ zi (b : Int) = 0 by rw [show (0 : Int32) = zi 0 from rfl, zi_eq (by omega) (by decide)]; omega), k1, zin_t (by omega) (by omega), zgd_t, zi_cl (by omega), Int.toNat_natCast, g]
      exact congrArg (fun x => some (some (Value.int (zi x)), zm L I J r)) (by omega)
  rw [qX12_timeOf, eX12_timeOf_0, kE, zbI_s, eX12_timeOf_1, zin_t (by omega) (by omega), zgd_t, zi_cl (by omega), Int.toNat_natCast, kS, zbI_s, eX12_timeOf_2, zin_t (by omega) (by omega), zgd_t, zi_cl (by omega), Int.toNat_natCast, tk _ se.1, tk _ se.2]
  rfl
end
