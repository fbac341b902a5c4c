def yWlV (y : zFd) (p wh : Int) : Int := if zRf (zNp y.1 p || zbo wh 0 1) false y.1.n = 0 then (if (y.2.2.1 1).1 = 0 then -1 else if wh = 0 then yLw y.1 (y.2.2.1 1) p.toNat (-1) (y.2.2.1 1).1 else yNr y.1 (y.2.2.1 1) p.toNat (yLw y.1 (y.2.2.1 1) p.toNat (-1) (y.2.2.1 1).1) (y.2.2.1 1).1) else zRf (zNp y.1 p || zbo wh 0 1) false y.1.n
def yWoW (y : zFd) (wh : Int) : Int := if zRf (zbo wh 0 1) false y.1.n = 0 then (if wh = 0 then yGw y.1 (y.2.2.1 1) (-1) y.1.n else (yBs y.1 (y.2.2.1 1) (y.1.n - 1)).1) else zRf (zbo wh 0 1) false y.1.n
section
variable {d L r : Nat} {I : Nat → Nat → Int32} {J : Nat → Nat → Int64}
variable {t : zDy}
theorem cNr (hd : 4 ≤ d) (h : zTI I J t) {b : yTb} {m c : Nat} (hb : cTb 41 1 I b) (hw : wTb t.n m c 1 b) {p : Nat} (hp : p < t.n) : zCd zT d 168 [.ref 16, .int (zi (p : Int))] (zm L I J r) = some (some (.int (zi (yNr t b p (yLw t b p (-1) b.1) b.1))), (zm L I J r)) := by
  obtain ⟨e, rfl⟩ : ∃ e, d = e + 1 := ⟨d - 1, by omega⟩
  have hn := h.2.2.1.1
  have hb6 : b.1 ≤ 6 := hw.1
  have hbb : ∀ k, k < b.1 → 0 ≤ b.2 k 0 ∧ b.2 k 0 ≤ (t.n : Int) - 1 := fun k hk => hw.2 k 0 hk (by decide)
  have hlw : zCd zT e 167 [.ref 16, .int (zi (p : Int)), .int ((-1 : Int32))] (zm L I J r) = _ := cLw (by omega) h (n := t.n) hb hw hp (mo := -1) (by omega)
  have wl := yLw_b h.2.2.1 hp hbb (m := -1) (by omega) b.1 (Nat.le_refl _)
  generalize yLw t b p (-1) b.1 = l at hlw wl ⊢
  have c1 := zFor (n := b.1) (G := fun k => zX 0 (zCd zT e) zc_X11_nearestStair 2 [some (.ref 16), some (.int (zi (p : Int))), some (.int (zi l)), some (.int (zi (yNr t b p l k))), some (.int (zi ((k : Nat) : Int))), none, none] [] (zm L I J r)) (fun k hk => by
    have g0 : zCd zT e 68 [.ref 41, .int (zi (k : Int)), .int 0] (zm L I J r) = some (some (.int (zi (b.2 k 0))), (zm L I J r)) := cGetO (by omega) (o := 41) (q := 1) rfl (by decide) hb hw.1 (k := (k : Int)) (f := 0) (by omega) (by decide)
    have w0 := hbb k hk
    have e0 : zi (b.2 k 0) = zi (((b.2 k 0).toNat : Nat) : Int) := congrArg zi (by omega)
    have k2 : zi ((k : Nat) : Int) + (1 : Int32) = zi ((k + 1 : Nat) : Int) := zi_add _ 1
    have w1 := yWb_b h.2.2.1 hp (show (b.2 k 0).toNat < t.n by omega)
    have w2 := yNr_b (t := t) (b := b) (p := p) (l := l) hbb k (by omega)
    have cw := cWb (d := e) (L := L) (r := r) (by omega) h hp (show (b.2 k 0).toNat < t.n by omega)
    rw [← e0] at cw
    have nx : ∀ x l5 l6 : Int32, zX 0 (zCd zT e) zc_X11_nearestStair 9 [some (.ref 16), some (.int (zi (p : Int))), some (.int (zi l)), some (.int x), some (.int (zi ((k : Nat) : Int))), some (.int l5), some (.int l6)] [] (zm L I J r) = zX 0 (zCd zT e) zc_X11_nearestStair 2 [some (.ref 16), some (.int (zi (p : Int))), some (.int (zi l)), some (.int x), some (.int (zi ((k + 1 : Nat) : Int))), none, none] [] (zm L I J r) := by
      intro x l5 l6
      rw [eX11_nearestStair_9, k2]
    rw [eX11_nearestStair_2, cTSize (by omega) (by decide) hb, zbI_s, eX11_nearestStair_3, if_neg (show ¬ zi (b.1 : Int) ≤ zi ((k : Nat) : Int) by rw [zi_le (by omega) (by omega)]; omega), g0, zbI_s, eX11_nearestStair_4, eX11_nearestStair_5, eX11_nearestStair_6, eX11_nearestStair_7, eX11_nearestStair_7, cw, zbI_s, eX11_nearestStair_8, if_neg (show ¬ (1 : Int32) = 0 by decide), if_pos rfl, yNr]
    simp only [nx, zi_m1 (show -2147483648 ≤ yNr t b p l k ∧ yNr t b p l k < 2147483648 by omega), zi_le (show -2147483648 ≤ yNr t b p l k ∧ yNr t b p l k < 2147483648 by omega) (show -2147483648 ≤ b.2 k 0 ∧ b.2 k 0 < 2147483648 by omega), zi_eq (show -2147483648 ≤ yWb t p (b.2 k 0).toNat ∧ yWb t p (b.2 k 0).toNat < 2147483648 by omega) (show -2147483648 ≤ l ∧ l < 2147483648 by omega)]
    by_cases q1 : yNr t b p l k = -1
    · simp only [q1, true_or, true_and, if_true]
      by_cases q3 : yWb t p (b.2 k 0).toNat = l
      · simp only [q3, if_true]
      · simp only [q3, if_false]
    · simp only [q1, false_or, if_false]
      by_cases q2 : yNr t b p l k ≤ b.2 k 0
      · simp only [q2, show ¬ b.2 k 0 < yNr t b p l k by omega, false_and, if_true, if_false]
      · simp only [q2, show b.2 k 0 < yNr t b p l k by omega, true_and, if_false]
        by_cases q3 : yWb t p (b.2 k 0).toNat = l
        · simp only [q3, if_true]
        · simp only [q3, if_false])
  have z0 : zX 0 (zCd zT e) zc_X11_nearestStair 2 [some (.ref 16), some (.int (zi (p : Int))), some (.int (zi l)), some (.int ((-1 : Int32))), some (.int 0), none, none] [] (zm L I J r) = _ := c1
  rw [qX11_nearestStair, eX11_nearestStair_0, hlw, zbI_s, eX11_nearestStair_1, z0, eX11_nearestStair_2, cTSize (by omega) (by decide) hb, zbI_s, eX11_nearestStair_3, if_pos (Int32.le_refl _), eX11_nearestStair_10]
theorem cGw (hd : 4 ≤ d) (h : zTI I J t) {b : yTb} {m c : Nat} (hb : cTb 41 1 I b) (hw : wTb t.n m c 1 b) {mo : Int} (hm : -1 ≤ mo ∧ mo < t.n) : zCd zT d 170 [.ref 16, .int (zi mo)] (zm L I J r) = some (some (.int (zi (yGw t b mo t.n))), (zm L I J r)) := by
  obtain ⟨e, rfl⟩ : ∃ e, d = e + 1 := ⟨d - 1, by omega⟩
  have hn := h.2.2.1.1
  have en : I 32 5 = zi t.n := h.1.1
  have hbb : ∀ k, k < b.1 → 0 ≤ b.2 k 0 ∧ b.2 k 0 ≤ (t.n : Int) - 1 := fun k hk => hw.2 k 0 hk (by decide)
  have c1 := zFor (n := t.n) (G := fun k => zX 0 (zCd zT e) zc_X11_greatestWalk 1 [some (.ref 16), some (.int (zi mo)), some (.int (zi (yGw t b mo k))), some (.int (zi ((k : Nat) : Int)))] [] (zm L I J r)) (fun k hk => by
    have k2 : zi ((k : Nat) : Int) + (1 : Int32) = zi ((k + 1 : Nat) : Int) := zi_add _ 1
    have w1 := yLw_b h.2.2.1 hk hbb hm b.1 (Nat.le_refl _)
    have w2 := yGw_b h.2.2.1 hbb hm k (by omega)
    rw [eX11_greatestWalk_1, sX9_points (by omega) (o := 32) (by decide), zbI_s, eX11_greatestWalk_2, en, if_neg (show ¬ zi (t.n : Int) ≤ zi ((k : Nat) : Int) by rw [zi_le (by omega) (by omega)]; omega), cLw (by omega) h (n := t.n) hb hw hk hm, zbI_s, eX11_greatestWalk_3, k2, yGw]
    simp only [zi_lt (show -2147483648 ≤ yGw t b mo k ∧ yGw t b mo k < 2147483648 by omega) (show -2147483648 ≤ yLw t b k mo b.1 ∧ yLw t b k mo b.1 < 2147483648 by omega)]
    by_cases q : yGw t b mo k < yLw t b k mo b.1
    · rw [if_pos q, if_pos q]
    · rw [if_neg q, if_neg q])
  have z0 : zX 0 (zCd zT e) zc_X11_greatestWalk 1 [some (.ref 16), some (.int (zi mo)), some (.int ((-1 : Int32))), some (.int 0)] [] (zm L I J r) = _ := c1
  rw [qX11_greatestWalk, eX11_greatestWalk_0, z0, eX11_greatestWalk_1, sX9_points (by omega) (o := 32) (by decide), zbI_s, eX11_greatestWalk_2, en, if_pos (Int32.le_refl _), eX11_greatestWalk_4]
theorem mGw (hd : 3 ≤ d) (h : zTI I J t) {b : yTb} {m c : Nat} (hb : mTb 1 (I 131) b) (hw : wTb t.n m c 1 b) {mo : Int} (hm : -1 ≤ mo ∧ mo < t.n) : zCd zT d 321 [.ref 130, .int (zi mo)] (zm L I J r) = some (some (.int (zi (yGw t b mo t.n))), (zm L I J r)) := by
  obtain ⟨e, rfl⟩ : ∃ e, d = e + 1 := ⟨d - 1, by omega⟩
  have hn := h.2.2.1.1
  have en : I 131 0 = zi t.n := h.2.1.1
  have hbb : ∀ k, k < b.1 → 0 ≤ b.2 k 0 ∧ b.2 k 0 ≤ (t.n : Int) - 1 := fun k hk => hw.2 k 0 hk (by decide)
  have c1 := zFor (n := t.n) (G := fun k => zX 0 (zCd zT e) zc_X12_worstBy 1 [some (.ref 130), some (.int (zi mo)), some (.int (zi (yGw t b mo k))), some (.int (zi ((k : Nat) : Int))), none] [] (zm L I J r)) (fun k hk => by
    have k2 : zi ((k : Nat) : Int) + (1 : Int32) = zi ((k + 1 : Nat) : Int) := zi_add _ 1
    have w1 := yLw_b h.2.2.1 hk hbb hm b.1 (Nat.le_refl _)
    have w2 := yGw_b h.2.2.1 hbb hm k (by omega)
    rw [eX12_worstBy_1, en, if_neg (show ¬ zi (t.n : Int) ≤ zi ((k : Nat) : Int) by rw [zi_le (by omega) (by omega)]; omega), mLw (by omega) h hb hw hk hm, zbI_s, eX12_worstBy_2, eX12_worstBy_3, eX12_worstBy_4, eX12_worstBy_4, k2, yGw]
    simp only [zi_le (show -2147483648 ≤ yLw t b k mo b.1 ∧ yLw t b k mo b.1 < 2147483648 by omega) (show -2147483648 ≤ yGw t b mo k ∧ yGw t b mo k < 2147483648 by omega)]
    by_cases q : yGw t b mo k < yLw t b k mo b.1
    · rw [if_neg (by omega), if_pos q]
    · rw [if_pos (by omega), if_neg q])
  have z0 : zX 0 (zCd zT e) zc_X12_worstBy 1 [some (.ref 130), some (.int (zi mo)), some (.int ((-1 : Int32))), some (.int 0), none] [] (zm L I J r) = _ := c1
  rw [qX12_worstBy, eX12_worstBy_0, z0, eX12_worstBy_1, en, if_pos (Int32.le_refl _), eX12_worstBy_5]
theorem cBs (hd : 5 ≤ d) (h : zTI I J t) (hn0 : 0 < t.n) {b : yTb} {m c : Nat} (hb : cTb 41 1 I b) (hw : wTb t.n m c 1 b) : zCd zT d 171 [.ref 16] (zm L I J r) = some (some (.int (zi ((yBs t b (t.n - 1)).1 : Int))), (zm L I J r)) := by
  obtain ⟨e, rfl⟩ : ∃ e, d = e + 1 := ⟨d - 1, by omega⟩
  have hn := h.2.2.1.1
  have en : I 32 5 = zi t.n := h.1.1
  have hbb : ∀ k, k < b.1 → 0 ≤ b.2 k 0 ∧ b.2 k 0 ≤ (t.n : Int) - 1 := fun k hk => hw.2 k 0 hk (by decide)
  have g0 : zCd zT e 170 [.ref 16, .int 0] (zm L I J r) = _ := cGw (by omega) h hb hw (mo := 0) (by omega)
  have c1 := zFor (n := t.n - 1) (G := fun k => zX 0 (zCd zT e) zc_X11_bestStair 2 [some (.ref 16), some (.int (zi ((yBs t b k).1 : Int))), some (.int (zi (yBs t b k).2)), some (.int (zi ((k + 1 : Nat) : Int))), none] [] (zm L I J r)) (fun k hk => by
    have k2 : zi ((k + 1 : Nat) : Int) + (1 : Int32) = zi ((k + 1 + 1 : Nat) : Int) := zi_add _ 1
    have w1 := yGw_b h.2.2.1 hbb (m := ((k + 1 : Nat) : Int)) (by omega) t.n (Nat.le_refl _)
    have w2 := yBs_b h.2.2.1 hbb k (by omega)
    rw [eX11_bestStair_2, sX9_points (by omega) (o := 32) (by decide), zbI_s, eX11_bestStair_3, en, if_neg (show ¬ zi (t.n : Int) ≤ zi ((k + 1 : Nat) : Int) by rw [zi_le (by omega) (by omega)]; omega), cGw (by omega) h hb hw (mo := ((k + 1 : Nat) : Int)) (by omega), zbI_s, eX11_bestStair_4, eX11_bestStair_5, eX11_bestStair_5, k2, yBs]
    simp only [zi_le (show -2147483648 ≤ (yBs t b k).2 ∧ (yBs t b k).2 < 2147483648 by omega) (show -2147483648 ≤ yGw t b ((k + 1 : Nat) : Int) t.n ∧ yGw t b ((k + 1 : Nat) : Int) t.n < 2147483648 by omega)]
    by_cases q : yGw t b ((k + 1 : Nat) : Int) t.n < (yBs t b k).2
    · rw [if_neg (by omega), if_pos q]
    · rw [if_pos (by omega), if_neg q])
  have z0 : zX 0 (zCd zT e) zc_X11_bestStair 2 [some (.ref 16), some (.int 0), some (.int (zi (yGw t b 0 t.n))), some (.int 1), none] [] (zm L I J r) = _ := c1
  rw [qX11_bestStair, eX11_bestStair_0, g0, zbI_s, eX11_bestStair_1, z0, eX11_bestStair_2, sX9_points (by omega) (o := 32) (by decide), zbI_s, eX11_bestStair_3, en, if_pos (show zi (t.n : Int) ≤ zi ((t.n - 1 + 1 : Nat) : Int) by rw [zi_le (by omega) (by omega)]; omega), eX11_bestStair_6]
theorem cWalk (hd : 5 ≤ d) {y : zFd} {c : Nat} (h : zTI I J y.1) (hD : cDay 0 I J y) (hW : wDay c y) {p wh : Int} (bp : -2147483648 ≤ p ∧ p < 2147483648) (bwh : -2147483648 ≤ wh ∧ wh < 2147483648) : zCd zT d 166 [.ref 16, .int (zi p), .int (zi wh)] (zm L I J r) = some (some (.int (zi (yWlV y p wh))), (zm L I J r)) := by
  obtain ⟨e, rfl⟩ : ∃ e, d = e + 1 := ⟨d - 1, by omega⟩
  have hb : cTb 41 1 I (y.2.2.1 1) := hD.2.2.1 1 (by decide)
  have hw := hW.2.2.1 1 (by decide)
  have hm : (y.2.2.1 1).1 ≤ 6 := hw.1
  have k1 : zCd zT e 225 [.int (zi wh), .int 0, .int 1] (zm L I J r) = _ := cOut (lo := 0) (hi := 1) (by omega) bwh (by decide) (by decide)
  have e0 : zi ((y.2.2.1 1).1 : Int) = 0 ↔ (y.2.2.1 1).1 = 0 := (zi_eq (y := 0) (by omega) (by decide)).trans (by omega)
  have e1 : zi wh = 0 ↔ wh = 0 := zi_eq (y := 0) bwh (by decide)
  have hb1 : zX 0 (zCd zT e) zc_X11_walk 1 [some (.ref 16), some (.int (zi p)), some (.int (zi wh)), none] [.int (zb1 (zNp y.1 p)), .ref 16] (zm L I J r) = zX 0 (zCd zT e) zc_X11_walk 5 [some (.ref 16), some (.int (zi p)), some (.int (zi wh)), none] [.int (zb1 (zNp y.1 p || zbo wh 0 1)), .ref 16] (zm L I J r) := by
    rw [eX11_walk_1, k1, zbI_s, eX11_walk_2, eX11_walk_3, eX11_walk_4]
    cases zNp y.1 p <;> cases zbo wh 0 1
    all_goals rfl
  have k2 : zCd zT e 219 [.ref 16, .int (zb1 (zNp y.1 p || zbo wh 0 1)), .int 0] (zm L I J r) = _ := cRef (by omega) h (zNp y.1 p || zbo wh 0 1) false
  rw [qX11_walk, eX11_walk_0, cNp (by omega) h bp, zbI_s, hb1, eX11_walk_5, k2, zbI_s, eX11_walk_6]
  unfold yWlV
  by_cases q : zRf (zNp y.1 p || zbo wh 0 1) false y.1.n = 0
  · obtain ⟨q1, q2, q3⟩ := zRf_0.mp q
    rw [Bool.or_eq_false_iff] at q1
    have gp := zNp_f q1.1 q3
    have ep : zi p = zi ((p.toNat : Nat) : Int) := congrArg zi (by omega)
    have l0 : zCd zT e 167 [.ref 16, .int (zi ((p.toNat : Nat) : Int)), .int ((-1 : Int32))] (zm L I J r) = _ := cLw (by omega) h (n := y.1.n) hb hw (show p.toNat < y.1.n by omega) (mo := -1) (by omega)
    rw [if_pos (zRf_i.mpr q), if_pos q, eX11_walk_7, cTSize (by omega) (by decide) hb, zbI_s, eX11_walk_8, eX11_walk_9, ep, l0, zbI_s, eX11_walk_10, eX11_walk_11, cNr (by omega) h hb hw (show p.toNat < y.1.n by omega), zbI_s, eX11_walk_12, eX11_walk_12]
    simp only [e0, e1]
    by_cases w1 : (y.2.2.1 1).1 = 0
    · rw [if_pos w1, if_pos w1]
      rfl
    · rw [if_neg w1, if_neg w1]
      by_cases w2 : wh = 0
      · rw [if_pos w2, if_pos w2]
      · rw [if_neg w2, if_neg w2]
  · rw [if_neg (fun x => q (zRf_i.mp x)), if_neg q]
theorem cWorst (hd : 6 ≤ d) {y : zFd} {c : Nat} (h : zTI I J y.1) (hD : cDay 0 I J y) (hW : wDay c y) {wh : Int} (bwh : -2147483648 ≤ wh ∧ wh < 2147483648) : zCd zT d 169 [.ref 16, .int (zi wh)] (zm L I J r) = some (some (.int (zi (yWoW y wh))), (zm L I J r)) := by
  obtain ⟨e, rfl⟩ : ∃ e, d = e + 1 := ⟨d - 1, by omega⟩
  have hb : cTb 41 1 I (y.2.2.1 1) := hD.2.2.1 1 (by decide)
  have hw := hW.2.2.1 1 (by decide)
  have k1 : zCd zT e 225 [.int (zi wh), .int 0, .int 1] (zm L I J r) = _ := cOut (lo := 0) (hi := 1) (by omega) bwh (by decide) (by decide)
  have e1 : zi wh = 0 ↔ wh = 0 := zi_eq (y := 0) bwh (by decide)
  have k2 : zCd zT e 219 [.ref 16, .int (zb1 (zbo wh 0 1)), .int 0] (zm L I J r) = _ := cRef (by omega) h (zbo wh 0 1) false
  rw [qX11_worst, eX11_worst_0, k1, zbI_s, eX11_worst_1, k2, zbI_s, eX11_worst_2]
  unfold yWoW
  by_cases q : zRf (zbo wh 0 1) false y.1.n = 0
  · obtain ⟨q1, q2, q3⟩ := zRf_0.mp q
    have l0 : zCd zT e 170 [.ref 16, .int ((-1 : Int32))] (zm L I J r) = _ := cGw (by omega) h hb hw (mo := -1) (by omega)
    rw [if_pos (zRf_i.mpr q), if_pos q, eX11_worst_3, l0, zbI_s, eX11_worst_4, eX11_worst_5, cBs (by omega) h q3 hb hw, zbI_s, eX11_worst_6, eX11_worst_6]
    simp only [e1]
    by_cases w2 : wh = 0
    · rw [if_pos w2, if_pos w2]
    · rw [if_neg w2, if_neg w2]
  · rw [if_neg (fun x => q (zRf_i.mp x)), if_neg q]
end
