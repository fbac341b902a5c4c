/-! TEXT: the class's beginning and end; what holds behind a text -/
section
variable {d L r : Nat} {I : Nat → Nat → Int32} {J : Nat → Nat → Int64}
variable {B : Nat → Nat} {n : Nat}
theorem cTFrn (hd : 10 ≤ d) (hn : n ≤ 400) (hB : ∀ k, k < n → B k < 256) (hb : ∀ k, k < n → I 18 k = zi (B k : Int)) {a T : Nat} (ha : a < 2) (hT : n ≤ T ∧ T ≤ 400) (h4 : I 17 4 = zi (T : Int)) (h1 : a = 1 → ¬ I 32 5 = 0) : ∃ I1, zCd zT d 139 [.ref 16, .int (zi (a : Int)), .int (zi (n : Int))] (zm L I J r) = zX 0 (zCd zT (d - 1)) zc_X11_text 8 [some (.ref 16), some (.int (zi (a : Int))), some (.int (zi (n : Int)))] [] (zm L I1 J r) ∧ cAt B n I1 (yTo B n 0) ∧ I1 17 4 = I 17 4 ∧ ∀ o, o ≠ 17 → o ≠ 19 → o ≠ 20 → o ≠ 21 → I1 o = I o := by
  obtain ⟨e, rfl⟩ : ∃ e, d = e + 1 := ⟨d - 1, by omega⟩
  obtain ⟨I1, c1, c2, c3, c4⟩ := cBegin (d := e) (L := L) (J := J) (r := r) (by omega) hn hB hb h4 hT
  have k1 : zCd zT e 225 [.int (zi (a : Int)), .int 0, .int 1] (zm L I J r) = some (some (.int (zb1 (zbo (a : Int) 0 1))), (zm L I J r)) := cOut (lo := 0) (hi := 1) (by omega) (by omega) (by decide) (by decide)
  have k2 : zCd zT e 225 [.int (zi (n : Int)), .int 0, .int (zi (T : Int))] (zm L I J r) = some (some (.int (zb1 (zbo (n : Int) 0 (T : Int)))), (zm L I J r)) := cOut (lo := 0) (hi := (T : Int)) (by omega) (by omega) (by decide) (by omega)
  have b1 : zbo (a : Int) 0 1 = false := decide_eq_false (by omega)
  have b2 : zbo (n : Int) 0 (T : Int) = false := decide_eq_false (by omega)
  refine ⟨I1, ?_, c2, c3, c4⟩
  show _ = zX 0 (zCd zT e) zc_X11_text 8 _ [] (zm L I1 J r)
  have go : zX 0 (zCd zT e) zc_X11_text 5 [some (.ref 16), some (.int (zi (a : Int))), some (.int (zi (n : Int)))] [] (zm L I J r) = zX 0 (zCd zT e) zc_X11_text 7 [some (.ref 16), some (.int (zi (a : Int))), some (.int (zi (n : Int)))] [] (zm L I J r) := by
    rw [eX11_text_5]
    by_cases q : a = 1
    · rw [if_pos (show zi (a : Int) = (1 : Int32) by rw [q]; rfl), sX11_noTrack (by omega), zbI_s, if_neg (h1 q), eX11_text_6, if_pos rfl]
    · rw [if_neg (show ¬ zi (a : Int) = (1 : Int32) by rw [show (1 : Int32) = zi ((1 : Nat) : Int) from rfl, yEq (by omega) (by omega)]; exact q)]
  rw [qX11_text, eX11_text_0, k1, zbI_s, eX11_text_1, b1, if_pos (show zb1 false = 0 by decide), eX11_text_2, sX8_held (by omega), zbI_s, h4, eX11_text_3, k2, zbI_s, eX11_text_4, b2, if_pos (show zb1 false = 0 by decide), go, eX11_text_7, c1, zbV_s]
theorem cTEnd (hd : 2 ≤ d) (l1 l2 : Int32) {s : yTkS} (ha : cAt B n I s) : (s.1 ≠ 0 → zX 0 (zCd zT d) zc_X11_text 12 [some (.ref 16), some (.int l1), some (.int l2)] [] (zm L I J r) = some (some (.int (zi (-10 - (s.1 : Int)))), (zm L (zu I 17 4 0) J r))) ∧ (s.1 = 0 → zX 0 (zCd zT d) zc_X11_text 12 [some (.ref 16), some (.int l1), some (.int l2)] [] (zm L I J r) = zX 0 (zCd zT d) zc_X11_text 16 [some (.ref 16), some (.int l1), some (.int l2)] [] (zm L (zu I 17 4 0) J r)) := by
  rw [eX11_text_12, sX8_empty (by omega), zbV_s, eX11_text_13, sX8_isSound (by omega), zbI_s, eX11_text_14, zu_n (show ¬ ((17 : Nat) = 17 ∧ (11 : Nat) = 4) by decide)]
  constructor
  · intro hs
    obtain ⟨b1, b2, b3, b4, b5⟩ := ha.2.2 hs
    rw [b3, if_neg (yNe0 (by omega) hs), if_pos (show (0 : Int32) = 0 from rfl), sX8_faultKind (by omega), zbI_s, eX11_text_15, zu_n (show ¬ ((17 : Nat) = 17 ∧ (11 : Nat) = 4) by decide), b3, show (-10 : Int32) = zi (-10) from rfl, zi_sub]
  · intro hs
    have a11 := (ha.2.1 hs).2.2.2.2.2.2.1
    rw [a11, if_pos (show (0 : Int32) = 0 from rfl), if_neg (show ¬ (1 : Int32) = 0 by decide)]
end
theorem zV_new {c : Nat} {I I' : Nat → Nat → Int32} {J J' : Nat → Nat → Int64} {y y' : zFd} {z0 z1 : Bool × zFd} (hI : ∀ o k, 56 ≤ o → o ≤ 115 → I' o k = I o k) (h119 : I' 119 = I 119) (h133 : I' 133 = I 133) (h145 : I' 145 = I 145) (h146 : I' 146 = I 146) (h131 : ∀ k, 883 ≤ k → I' 131 k = I 131 k) (hJ : ∀ o, 56 ≤ o → J' o = J o) (h25 : I' 130 25 = I 130 25) (ht : zVt I') (hc : cDay 0 I' J' y') (hm : mDay 0 I' y') (hw : wDay (c + 1) y') (hca : zCa I' y'.1) (hv : zV c I J y z0 z1) : zV (c + 1) I' J' y' z0 z1 := by
  obtain ⟨a1, a2, a3, a4, a5, a6, a7, a8, a9, a10⟩ := hv
  have vm : ∀ D O j o z, 25 ≤ D → D ≤ 60 → 883 ≤ O → (56 ≤ o ∧ o ≤ 115) → zVm c D O I J j o z → zVm (c + 1) D O I' J' j o z := by
    intro D O j o z hD0 hD hO ho hz
    have e : ∀ p, 31 ≤ p → p ≤ 55 → I' (p + D) = I (p + D) := fun p _ _ => funext fun k => hI _ k (by omega) (by omega)
    refine ⟨by rw [hI o 11 (by omega) (by omega)]; exact hz.1, by rw [h133]; exact hz.2.1, fun p hp => by rw [e _ (by omega) (by omega)]; exact hz.2.2.1 p hp, fun w => ?_⟩
    obtain ⟨x1, x2, x3⟩ := hz.2.2.2 w
    exact ⟨cDay_fr e (fun _ _ _ => hJ _ (by omega)) x1, mDay_fr x3 (fun k _ => h131 _ (by omega)) x2, wDay_le (Nat.le_succ c) x3⟩
  refine ⟨hc, hm, hw, vm _ _ _ _ _ (by decide) (by decide) (by decide) (by decide) a4, vm _ _ _ _ _ (by decide) (by decide) (by decide) (by decide) a5, fun i hi => ?_, ht, fun k hk => by rw [h119]; exact a8 k hk, h25.trans a9, hca⟩
  have e108 : I' (108 + 2 * i) = I (108 + 2 * i) := funext fun k => hI _ k (by omega) (by omega)
  rw [e108, h145, h146, hJ (109 + 2 * i) (by omega), hJ 147 (by omega)]
  exact a6 i hi
/-- a text is refused: nothing but THE TAPE and the FAULT is another -/
theorem zV_no {c : Nat} {I I' : Nat → Nat → Int32} {J J' : Nat → Nat → Int64} {y : zFd} {z0 z1 : Bool × zFd} (h : ∀ o, 31 ≤ o → o ≠ 130 → o ≠ 132 → I' o = I o) (hj : ∀ o, 31 ≤ o → J' o = J o) (h25 : I' 130 25 = I 130 25) (ht : zVt I') (hv : zV c I J y z0 z1) : zV (c + 1) I' J' y z0 z1 := by
  refine zV_new (fun o k a b => by rw [h o (by omega) (by omega) (by omega)]) (h 119 (by decide) (by decide) (by decide)) (h 133 (by decide) (by decide) (by decide)) (h 145 (by decide) (by decide) (by decide)) (h 146 (by decide) (by decide) (by decide)) (fun k _ => by rw [h 131 (by decide) (by decide) (by decide)]) (fun o a => hj o (by omega)) h25 ht (cDay_fr (fun o a b => h _ (by omega) (by omega) (by omega)) (fun o a b => hj _ (by omega)) hv.1) (mDay_fr hv.2.2.1 (fun k _ => by rw [h 131 (by decide) (by decide) (by decide)]) hv.2.1) (wDay_le (Nat.le_succ c) hv.2.2.1) ?_ hv
  unfold zCa
  rw [h 120 (by decide) (by decide) (by decide)]
  exact hv.2.2.2.2.2.2.2.2.2
theorem yRls_w {B : Nat → Nat} {n bk : Nat} : ∀ (f : Nat) (x : yRuX), (x.2.1 ≤ 12 ∧ ∀ k, k < x.2.1 → x.2.2.1 k + 1 ≤ bk) → ((yRls B n bk f x).2.1 ≤ 12 ∧ ∀ k, k < (yRls B n bk f x).2.1 → (yRls B n bk f x).2.2.1 k + 1 ≤ bk) := by
  intro f
  induction f with
  | zero =>
    intro x h
    rw [yRls]
    exact h
  | succ f ih =>
    intro x h
    rw [yRls]
    by_cases q : x.1.1 = 0 ∧ yK B n x.1.2 ≠ 19
    · rw [if_pos q]
      refine ih _ ?_
      rw [yRl1_2]
      by_cases z2 : (yRt B n bk x.1 x.2).1.1 = 0
      · have sd := yRt_s z2
        have e3 : (yRl0 B n bk x).2 = yAdR x.2 (yRq B n bk x.1 x.2).2.toNat (yRt B n bk x.1 x.2).2 := if_pos z2
        rw [e3]
        refine ⟨show x.2.1 + 1 ≤ 12 by omega, fun k hk => ?_⟩
        have hk' : k < x.2.1 + 1 := hk
        show (if k = x.2.1 then (yRq B n bk x.1 x.2).2.toNat else x.2.2.1 k) + 1 ≤ bk
        by_cases w : k = x.2.1
        · rw [if_pos w]
          have a := sd.2.2.2.2.2.1
          have b := sd.2.2.2.2.2.2.1
          omega
        · rw [if_neg w]
          exact h.2 k (by omega)
      · have e3 : (yRl0 B n bk x).2 = x.2 := if_neg z2
        rw [e3]
        exact h
    · rw [if_neg q]
      exact h
theorem yCtl_w {B : Nat → Nat} {n bk : Nat} : (yCtl B n bk).2.1 ≤ 12 ∧ ∀ k, k < (yCtl B n bk).2.1 → (yCtl B n bk).2.2.1 k + 1 ≤ bk := yRls_w 13 (yTo B n 0, yUn0) ⟨Nat.zero_le _, fun k hk => absurd hk (Nat.not_lt_zero k)⟩
