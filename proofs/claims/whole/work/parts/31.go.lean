/-! the class's RUN from a POINT -/
section
variable {d L r : Nat} {I : Nat → Nat → Int32} {J : Nat → Nat → Int64} {n : Nat} {h ch : Nat → Int} {cp : Int → Int} {dg : Nat → Bool}
theorem cGoEnd {l2 l3 l4 l6 : Int32} (hn : 1 ≤ n) (h60 : n ≤ 60) {at1 : Nat} (h6 : I 116 6 = zi at1) (ha : at1 < n) (he : I 116 4 = zi 3) : zX 2 (zCd zT d) zc_X3_go 5 [some (.ref 116), some (.ref 32), some (.int l2), some (.int l3), some (.int l4), some (.int (zi ((n : Int) - 1))), some (.int l6)] [] (zm L I J r) = some (none, zm L (zu I 116 4 (zi (if n ≤ at1 + 1 then 0 else 1))) J r) := by
  rw [eX3_go_5, he, if_pos (show zi 3 = 3 from rfl), h6]
  simp (disch := omega) only [zi_lt]
  by_cases q : n ≤ at1 + 1
  · rw [if_neg (by omega), eX3_go_7, eX3_go_8, if_pos q]
    rfl
  · rw [if_pos (by omega), eX3_go_6, eX3_go_7, eX3_go_8, if_neg q]
    rfl
theorem cLoop (hd : 3 ≤ d) {loss : Int} (hl : 0 ≤ loss ∧ loss ≤ 1000000) {z0 : Prop} {l3 l4 : Int32} : ∀ (k : Nat), k ≤ 300 → ∀ (I : Nat → Nat → Int32) (s : zS), zTk I J n h ch cp dg → zRd z0 I s → I 116 4 = zi 3 → s.2.1 < n →
    ∃ I', zX 2 (zCd zT d) zc_X3_go 3 [some (.ref 116), some (.ref 32), some (.int (zi loss)), some (.int l3), some (.int l4), some (.int (zi ((n : Int) - 1))), some (.int (zi (300 - (k : Int))))] [] (zm L I J r) = some (none, zm L I' J r) ∧ zRd z0 I' (zRn n h ch cp dg loss k s).2 ∧ zFr3 I I' ∧ I' 116 4 = zi (zRn n h ch cp dg loss k s).1 := by
  intro k
  induction k with
  | zero =>
    intro _ I s hT hs he ha
    obtain ⟨fo, at1, pa, ti, tu, tp, td, pul, sl, fs, ft⟩ := s
    have h6 : I 116 6 = zi at1 := hs.1.2.1
    have ha1 : at1 < n := ha
    refine ⟨zu I 116 4 (zi (if n ≤ at1 + 1 then 0 else 1)), ?_, zRd_4 hs, zFr3_u, by simp [zu_ap]; rfl⟩
    rw [eX3_go_3, if_pos (show (300 : Int32) ≤ zi (300 - ((0 : Nat) : Int)) by decide), cGoEnd (by omega) hT.1 h6 ha1 he]
  | succ k ih =>
    intro hk I s hT hs he ha
    have h60 := hT.1
    have h6 : I 116 6 = zi s.2.1 := by
      obtain ⟨fo, at1, pa, ti, tu, tp, td, pul, sl, fs, ft⟩ := s
      exact hs.1.2.1
    rw [eX3_go_3, if_neg (show ¬ (300 : Int32) ≤ zi (300 - ((k + 1 : Nat) : Int)) by simp (disch := omega) only [zi_lit, zi_le]; omega), if_pos (show I 116 4 = 3 by rw [he]; rfl)]
    by_cases q : n ≤ s.2.1 + 1
    · rw [if_pos (show zi ((n : Int) - 1) ≤ I 116 6 by rw [h6]; simp (disch := omega) only [zi_le]; omega), cGoEnd (by omega) h60 h6 ha he, if_pos q]
      have hr : zRn n h ch cp dg loss (k + 1) s = (0, s) := if_pos q
      rw [hr]
      refine ⟨_, rfl, ?_, zFr3_u, by simp [zu_ap]⟩
      obtain ⟨fo, at1, pa, ti, tu, tp, td, pul, sl, fs, ft⟩ := s
      exact zRd_4 hs
    · rw [if_neg (show ¬ zi ((n : Int) - 1) ≤ I 116 6 by rw [h6]; simp (disch := omega) only [zi_le]; omega)]
      obtain ⟨I1, c1, c2, c3, c4⟩ := cStep (d := d) (L := L) (r := r) hd hT hl hs he (by omega)
      have hat := zStp_at (h := h) (ch := ch) (cp := cp) (dg := dg) (loss := loss) (n := n) (s := s) (by omega)
      have hl6 : zi (300 - ((k + 1 : Nat) : Int)) + 1 = zi (300 - (k : Int)) := by
        rw [zi_lit, zi_add]
        show zi (300 - ((k + 1 : Nat) : Int) + 1) = zi (300 - (k : Int))
        exact congrArg zi (by omega)
      rw [c1, zbV_s, eX3_go_4, hl6]
      by_cases q3 : (zStp h ch cp dg loss s).1 = 3
      · have hr : zRn n h ch cp dg loss (k + 1) s = zRn n h ch cp dg loss k (zStp h ch cp dg loss s).2 := (if_neg q).trans (if_pos q3)
        rw [hr]
        obtain ⟨I', e1, e2, e3, e4⟩ := ih (by omega) I1 (zStp h ch cp dg loss s).2 (zTk_fr c3 hT) c2 (by rw [c4, q3]) hat
        exact ⟨I', e1, e2, zFr3_tr c3 e3, e4⟩
      · have hr : zRn n h ch cp dg loss (k + 1) s = zStp h ch cp dg loss s := (if_neg q).trans (if_neg q3)
        rw [hr]
        have hne : ¬ I1 116 4 = 3 := by
          rw [c4]
          rcases zStp_1 (h := h) (ch := ch) (cp := cp) (dg := dg) (loss := loss) (s := s) with w | w | w
          · rw [w]; decide
          · rw [w]; decide
          · exact absurd w q3
        have h5 : zX 2 (zCd zT d) zc_X3_go 3 [some (.ref 116), some (.ref 32), some (.int (zi loss)), some (.int l3), some (.int l4), some (.int (zi ((n : Int) - 1))), some (.int (zi (300 - (k : Int))))] [] (zm L I1 J r) = some (none, zm L I1 J r) := by
          rw [eX3_go_3]
          have h8 : zX 2 (zCd zT d) zc_X3_go 5 [some (.ref 116), some (.ref 32), some (.int (zi loss)), some (.int l3), some (.int l4), some (.int (zi ((n : Int) - 1))), some (.int (zi (300 - (k : Int))))] [] (zm L I1 J r) = some (none, zm L I1 J r) := by
            rw [eX3_go_5, if_neg hne, eX3_go_8]
          rw [if_neg hne, h8, ite_self]
        exact ⟨I1, h5, c2, c3, c4⟩
/-- where a RUN begins -/
def zS0 (from1 : Nat) (v : Int) : zS := zArr from1 v 0 false (true, 0, 0, 0, 0, 0, false, false, 1000, fun _ => -1, fun _ => -1)
theorem cGo (hd : 5 ≤ d) {loss : Int} (hl : 0 ≤ loss ∧ loss ≤ 1000000) (hT : zTk I J n h ch cp dg) {from1 : Nat} (hf : from1 < n) {v : Int} (hv : 0 ≤ v ∧ v ≤ 999) :
    ∃ I', zCd zT d 22 [.ref 116, .ref 32, .int (zi loss), .int (zi from1), .int (zi v)] (zm L I J r) = some (none, zm L I' J r) ∧ zRd (from1 = 0) I' (zRn n h ch cp dg loss 300 (zS0 from1 v)).2 ∧ zFr3 I I' ∧ I' 116 4 = zi (zRn n h ch cp dg loss 300 (zS0 from1 v)).1 := by
  obtain ⟨e, rfl⟩ : ∃ e, d = e + 1 := ⟨d - 1, by omega⟩
  have h60 := hT.1
  rw [qX3_go, eX3_go_0, sX9_points (by omega) (o := 32) (by decide), zbI_s, eX3_go_1, hT.2.1, sX3_arrive (by omega), zi_cl (by omega), Int.toNat_natCast, zin_t (by omega) (by omega), zgd_t, zgd_t]
  simp only [zu_ap, and_true, and_self, if_true, if_false, Nat.reduceEqDiff, and_false]
  simp (disch := omega) only [zi_lit, zi_neg, zi_sub, zi_lt, zi_le]
  rw [if_neg (show ¬ (from1 : Int) ≤ -1 by omega), if_neg (show ¬ (60 : Int) ≤ (from1 : Int) by omega), if_neg (show ¬ (60 : Int) ≤ (from1 : Int) by omega), zbV_s, eX3_go_2]
  have H : ∀ I1, zTk I1 J n h ch cp dg → zRd (from1 = 0) I1 (zS0 from1 v) → I1 116 4 = zi 3 → zFr3 I I1 → ∃ I', zX 2 (zCd zT e) zc_X3_go 3 [some (.ref 116), some (.ref 32), some (.int (zi loss)), some (.int (zi from1)), some (.int (zi v)), some (.int (zi ((n : Int) - 1))), some (.int 0)] [] (zm L I1 J r) = some (none, zm L I' J r) ∧ zRd (from1 = 0) I' (zRn n h ch cp dg loss 300 (zS0 from1 v)).2 ∧ zFr3 I I' ∧ I' 116 4 = zi (zRn n h ch cp dg loss 300 (zS0 from1 v)).1 := by
    intro I1 a1 a2 a3 a4
    obtain ⟨I', e1, e2, e3, e4⟩ := cLoop (d := e) (L := L) (r := r) (l3 := zi from1) (l4 := zi v) (by omega) hl 300 (Nat.le_refl _) I1 (zS0 from1 v) a1 a2 a3 hf
    exact ⟨I', e1, e2, zFr3_tr a4 e3, e4⟩
  have e9 : (if 0 < v then zi v else zi 0) = zi (if 0 < v then v else 0) := by split <;> rfl
  have e11 : (if 1000 - v < 1000 then zi (1000 - v) else zi 1000) = zi (if 1000 - v < 1000 then 1000 - v else 1000) := by split <;> rfl
  have g9 : 0 ≤ (if 0 < v then v else 0) ∧ (if 0 < v then v else 0) ≤ 999 := by split <;> omega
  have g11 : 1 ≤ (if 1000 - v < 1000 then 1000 - v else 1000) ∧ (if 1000 - v < 1000 then 1000 - v else 1000) ≤ 1000 := by split <;> omega
  have fr : ∀ (x1 x2 x3 x4 x5 x6 x7 x8 x9 x10 x11 x12 x13 x14 x15 x16 : Int32) (k1 k2 : Nat), zFr3 I (zu (zu (zu (zu (zu (zu (zu (zu (zu (zu (zu (zu (zu (zu (zu (zu I 116 4 x1) 116 7 x2) 116 9 x3) 116 10 x4) 116 11 x5) 116 12 x6) 116 13 x7) 116 6 x8) 116 8 x9) 116 5 x10) 116 9 x11) 116 11 x12) 116 14 x13) 116 10 x14) 117 k1 x15) 118 k2 x16) := by
    intro x1 x2 x3 x4 x5 x6 x7 x8 x9 x10 x11 x12 x13 x14 x15 x16 k1 k2 o a1 a2 a3
    simp only [zu_o a1, zu_o a2, zu_o a3]
  refine H _ (zTk_fr (fr _ _ _ _ _ _ _ _ _ _ _ _ _ _ _ _ _ _) hT) ?_ ?_ (fr _ _ _ _ _ _ _ _ _ _ _ _ _ _ _ _ _ _)
  · unfold zS0 zArr zRd
    simp only [zu_ap]
    refine ⟨⟨by simp; rfl, by simp, by simp, by simp, by simp, by simpa using e9, by simp; rfl, by simp; rfl, by simpa using e11⟩, ⟨hv.1, hv.2, g9.1, g9.2, g11.1, g11.2⟩, (from1 : Int), by simp, by omega, by omega, ?_⟩
    intro z
    subst z
    refine ⟨by omega, fun p hp => ?_⟩
    by_cases hp0 : p = 0
    · subst hp0
      simp
      omega
    · simp [hp0]
      omega
  · simp [zu_ap]
end
