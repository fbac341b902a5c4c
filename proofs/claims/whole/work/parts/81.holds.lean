theorem yHs_h {T : Nat → Int32} {nb b : Nat} {l : Nat → Int32} {now held : Int32} : (yHs T nb b (l, now, held)).2.2 = if b + 1 < nb ∧ now + T b < l (b + 1) then held + 1 else held := rfl
section
variable {d L r : Nat} {I : Nat → Nat → Int32} {J : Nat → Nat → Int64}
variable {t : zDy}
theorem cHolds (hd : 3 ≤ d) (h : zTI I J t) (hn : 0 < t.n) {T : Nat → Int32} (hT : ∀ b, b ≤ t.m → I 128 b = T b) {n : Nat} (hn10 : n ≤ 10) (beat which late : Int32) : ∃ I', zCd zT d 155 [.ref 16, .int (zi (n : Int)), .int beat, .int which, .int late] (zm L I J r) = some (some (.int (yHo T (t.m + 1) beat which late n).2), (zm L I' J r)) ∧ ∀ o, o ≠ 129 → I' o = I o := by
  obtain ⟨e, rfl⟩ : ∃ e, d = e + 1 := ⟨d - 1, by omega⟩
  have hm := h.2.2.1.2.2.1
  have hn60 := h.2.2.1.1
  have e5 : I 32 5 = zi t.n := h.1.1
  have e6 : I 32 6 = zi t.m := h.1.2.2.1
  have kb : zCd zT e 113 [.ref 32] (zm L I J r) = some (some (.int (zi ((t.m + 1 : Nat) : Int))), (zm L I J r)) := by
    rw [sX9_blocks (by omega) (o := 32) (by decide), e5, e6, if_neg (show ¬ zi (t.n : Int) = 0 by rw [show (0 : Int32) = zi 0 from rfl, zi_eq (by omega) (by decide)]; omega)]
    exact congrArg (fun x => some (some (Value.int x), zm L I J r)) (zi_add _ 1)
  have kmin : (if (6 : Int32) < zi ((t.m + 1 : Nat) : Int) then (6 : Int32) else zi ((t.m + 1 : Nat) : Int)) = zi ((t.m + 1 : Nat) : Int) := if_neg (by rw [show (6 : Int32) = zi 6 from rfl, zi_lt (by decide) (by omega)]; omega)
  have fl := cFillI (d := e) (L := L) (r := r) (I := I) (J := J) (by omega) (o := 129) (n := 6) (by decide) rfl (by decide) 0
  rw [qX11_holdsNow, eX11_holdsNow_0, kb, zbI_s, eX11_holdsNow_1, fl, zbV_s, eX11_holdsNow_2, kmin]
  have nbp : ∀ I2 : Nat → Nat → Int32, (∀ o, o ≠ 129 → I2 o = I o) → ∀ b, b ≤ t.m → I2 128 b = T b := fun I2 h2 b hb => by rw [h2 128 (by decide)]; exact hT b hb
  have inner : ∀ (l7 l8 : Int32) (s : (Nat → Int32) × Int32 × Int32) (I1 : Nat → Nat → Int32), ((∀ o, o ≠ 129 → I1 o = I o) ∧ ∀ j, j < 6 → I1 129 j = s.1 j) → ∃ I2, zX 0 (zCd zT e) zc_X11_holdsNow 6 [some (.ref 16), some (.int (zi (n : Int))), some (.int beat), some (.int which), some (.int late), some (.int (zi ((t.m + 1 : Nat) : Int))), some (.int s.2.2), some (.int l7), some (.int l8), some (.int s.2.1), some (.int 0), none] [] (zm L I1 J r) = zX 0 (zCd zT e) zc_X11_holdsNow 6 [some (.ref 16), some (.int (zi (n : Int))), some (.int beat), some (.int which), some (.int late), some (.int (zi ((t.m + 1 : Nat) : Int))), some (.int ((yHi T (t.m + 1) s (t.m + 1)).2.2)), some (.int l7), some (.int l8), some (.int ((yHi T (t.m + 1) s (t.m + 1)).2.1)), some (.int (zi ((t.m + 1 : Nat) : Int))), none] [] (zm L I2 J r) ∧ (∀ o, o ≠ 129 → I2 o = I o) ∧ ∀ j, j < 6 → I2 129 j = (yHi T (t.m + 1) s (t.m + 1)).1 j := by
    intro l7 l8 s I1 hI1
    refine zForI (n := t.m + 1) (G := fun b I2 => zX 0 (zCd zT e) zc_X11_holdsNow 6 [some (.ref 16), some (.int (zi (n : Int))), some (.int beat), some (.int which), some (.int late), some (.int (zi ((t.m + 1 : Nat) : Int))), some (.int ((yHi T (t.m + 1) s b).2.2)), some (.int l7), some (.int l8), some (.int ((yHi T (t.m + 1) s b).2.1)), some (.int (zi ((b : Nat) : Int))), none] [] (zm L I2 J r)) (P := fun b I2 => (∀ o, o ≠ 129 → I2 o = I o) ∧ ∀ j, j < 6 → I2 129 j = (yHi T (t.m + 1) s b).1 j) (fun b I2 hb hP => ?_) I1 hI1
    have hu : yHi T (t.m + 1) s (b + 1) = yHs T (t.m + 1) b (yHi T (t.m + 1) s b) := rfl
    rw [hu]
    generalize yHi T (t.m + 1) s b = S at hP ⊢
    obtain ⟨l, now, held⟩ := S
    have t1 : I2 128 b = T b := nbp I2 hP.1 b (by omega)
    have k1 : zi ((b : Nat) : Int) + (1 : Int32) = zi ((b + 1 : Nat) : Int) := zi_add _ 1
    have v0 : ∀ j, j < 6 → I2 129 j = l j := hP.2
    refine ⟨zu I2 129 b (yHs T (t.m + 1) b (l, now, held)).2.1, ?_, fun o ho => (zu_o ho).trans (hP.1 o ho), fun j hj => ?_⟩
    · have tail : ∀ x : Int32, x = (yHs T (t.m + 1) b (l, now, held)).2.1 → (x ≤ now + T b ↔ ¬ (b + 1 < t.m + 1 ∧ now + T b < l (b + 1))) → zX 0 (zCd zT e) zc_X11_holdsNow 8 [some (.ref 16), some (.int (zi (n : Int))), some (.int beat), some (.int which), some (.int late), some (.int (zi ((t.m + 1 : Nat) : Int))), some (.int held), some (.int l7), some (.int l8), some (.int now), some (.int (zi ((b : Nat) : Int))), some (.int ((now + T b)))] [.int x] (zm L I2 J r) = zX 0 (zCd zT e) zc_X11_holdsNow 6 [some (.ref 16), some (.int (zi (n : Int))), some (.int beat), some (.int which), some (.int late), some (.int (zi ((t.m + 1 : Nat) : Int))), some (.int ((yHs T (t.m + 1) b (l, now, held)).2.2)), some (.int l7), some (.int l8), some (.int ((yHs T (t.m + 1) b (l, now, held)).2.1)), some (.int (zi ((b + 1 : Nat) : Int))), none] [] (zm L (zu I2 129 b (yHs T (t.m + 1) b (l, now, held)).2.1) J r) := by
        intro x hx hx2
        rw [eX11_holdsNow_8, eX11_holdsNow_9, eX11_holdsNow_9, zin_t (by omega) (by omega), zgd_t, zgd_t, zi_cl (by omega), Int.toNat_natCast, k1, ← hx]
        rw [yHs_h]
        by_cases q : b + 1 < t.m + 1 ∧ now + T b < l (b + 1)
        · rw [if_neg (fun w => hx2.mp w q), if_pos q]
        · rw [if_pos (hx2.mpr q), if_neg q]
      rw [eX11_holdsNow_6, if_neg (show ¬ zi ((t.m + 1 : Nat) : Int) ≤ zi ((b : Nat) : Int) by rw [zi_le (by omega) (by omega)]; omega), zin_t (by omega) (by omega), zgd_t, k1, zi_cl (by omega), Int.toNat_natCast, t1]
      by_cases q : b + 1 < t.m + 1
      · rw [if_neg (show ¬ zi ((t.m + 1 : Nat) : Int) ≤ zi ((b + 1 : Nat) : Int) by rw [zi_le (by omega) (by omega)]; omega), zin_t (by omega) (by omega), zgd_t, zi_cl (by omega), Int.toNat_natCast, v0 (b + 1) (by omega)]
        refine tail _ ?_ ?_
        · unfold yHs
          by_cases q2 : now + T b < l (b + 1)
          · rw [if_pos q2, if_pos ⟨q, q2⟩]
          · rw [if_neg q2, if_neg (fun w => q2 w.2)]
        · by_cases q2 : now + T b < l (b + 1)
          · rw [if_pos q2]
            exact ⟨fun w => absurd q2 (Int32.not_lt.mpr w), fun w => absurd ⟨q, q2⟩ w⟩
          · rw [if_neg q2]
            exact ⟨fun _ w => q2 w.2, fun _ => Int32.le_refl _⟩
      · rw [if_pos (show zi ((t.m + 1 : Nat) : Int) ≤ zi ((b + 1 : Nat) : Int) by rw [zi_le (by omega) (by omega)]; omega), eX11_holdsNow_7]
        refine tail _ ?_ ?_
        · unfold yHs
          rw [if_neg (fun w => q w.1)]
        · exact ⟨fun _ w => q w.1, fun _ => Int32.le_refl _⟩
    · show zu I2 129 b _ 129 j = if j = b then _ else l j
      by_cases e9 : j = b
      · rw [e9, zu_y ⟨rfl, rfl⟩, if_pos rfl]
        rfl
      · rw [zu_n (by omega), if_neg e9]
        exact v0 j hj
  have outer := zForI (n := n) (G := fun k I2 => zX 0 (zCd zT e) zc_X11_holdsNow 3 [some (.ref 16), some (.int (zi (n : Int))), some (.int beat), some (.int which), some (.int late), some (.int (zi ((t.m + 1 : Nat) : Int))), some (.int ((yHo T (t.m + 1) beat which late k).2)), some (.int (zi ((k : Nat) : Int))), none, none, none, none] [] (zm L I2 J r)) (P := fun k I2 => (∀ o, o ≠ 129 → I2 o = I o) ∧ ∀ j, j < 6 → I2 129 j = (yHo T (t.m + 1) beat which late k).1 j) (fun k I2 hk hP => by
    have hu : yHo T (t.m + 1) beat which late (k + 1) = ((yHi T (t.m + 1) ((yHo T (t.m + 1) beat which late k).1, yHn k beat which late (yHo T (t.m + 1) beat which late k).1, (yHo T (t.m + 1) beat which late k).2) (t.m + 1)).1, (yHi T (t.m + 1) ((yHo T (t.m + 1) beat which late k).1, yHn k beat which late (yHo T (t.m + 1) beat which late k).1, (yHo T (t.m + 1) beat which late k).2) (t.m + 1)).2.2) := rfl
    rw [hu]
    generalize yHo T (t.m + 1) beat which late k = S at hP ⊢
    obtain ⟨l, held⟩ := S
    have v0 : I2 129 0 = l 0 := hP.2 0 (by decide)
    have k1 : zi ((k : Nat) : Int) + (1 : Int32) = zi ((k + 1 : Nat) : Int) := zi_add _ 1
    obtain ⟨I3, i1, i2, i3⟩ := inner (zi ((k : Nat) : Int)) (zi (k : Int) * beat + (if zi (k : Int) = which then late else 0)) (l, yHn k beat which late l, held) I2 hP
    refine ⟨I3, ?_, i2, i3⟩
    have st : ∀ x : Int32, x = (if zi (k : Int) = which then late else 0) → zX 0 (zCd zT e) zc_X11_holdsNow 5 [some (.ref 16), some (.int (zi (n : Int))), some (.int beat), some (.int which), some (.int late), some (.int (zi ((t.m + 1 : Nat) : Int))), some (.int held), some (.int (zi ((k : Nat) : Int))), none, none, none, none] [.int x, .int ((zi (k : Int) * beat))] (zm L I2 J r) = zX 0 (zCd zT e) zc_X11_holdsNow 6 [some (.ref 16), some (.int (zi (n : Int))), some (.int beat), some (.int which), some (.int late), some (.int (zi ((t.m + 1 : Nat) : Int))), some (.int held), some (.int (zi ((k : Nat) : Int))), some (.int ((zi (k : Int) * beat + (if zi (k : Int) = which then late else 0)))), some (.int (yHn k beat which late l)), some (.int 0), none] [] (zm L I2 J r) := by
      intro x hx
      rw [eX11_holdsNow_5, v0, hx]
      rfl
    rw [eX11_holdsNow_3, if_neg (show ¬ zi (n : Int) ≤ zi ((k : Nat) : Int) by rw [zi_le (by omega) (by omega)]; omega), eX11_holdsNow_4]
    have fin : zX 0 (zCd zT e) zc_X11_holdsNow 6 [some (.ref 16), some (.int (zi (n : Int))), some (.int beat), some (.int which), some (.int late), some (.int (zi ((t.m + 1 : Nat) : Int))), some (.int held), some (.int (zi ((k : Nat) : Int))), some (.int ((zi (k : Int) * beat + (if zi (k : Int) = which then late else 0)))), some (.int (yHn k beat which late l)), some (.int 0), none] [] (zm L I2 J r) = zX 0 (zCd zT e) zc_X11_holdsNow 3 [some (.ref 16), some (.int (zi (n : Int))), some (.int beat), some (.int which), some (.int late), some (.int (zi ((t.m + 1 : Nat) : Int))), some (.int ((yHi T (t.m + 1) (l, yHn k beat which late l, held) (t.m + 1)).2.2)), some (.int (zi ((k + 1 : Nat) : Int))), none, none, none, none] [] (zm L I3 J r) := by
      refine i1.trans ?_
      rw [eX11_holdsNow_6, if_pos (Int32.le_refl _), eX11_holdsNow_10, k1]
    by_cases q : zi ((k : Nat) : Int) = which
    · rw [if_pos q, st late (by rw [if_pos q])]
      exact fin
    · rw [if_neg q, st 0 (by rw [if_neg q])]
      exact fin) (zfI I 129 6 0) ⟨fun o ho => zfI_o ho, fun j hj => zfI_i hj⟩
  obtain ⟨I2, g1, g2, _⟩ := outer
  have z0 : zX 0 (zCd zT e) zc_X11_holdsNow 3 [some (.ref 16), some (.int (zi (n : Int))), some (.int beat), some (.int which), some (.int late), some (.int (zi ((t.m + 1 : Nat) : Int))), some (.int 0), some (.int 0), none, none, none, none] [] (zm L (zfI I 129 6 0) J r) = _ := g1
  refine ⟨I2, ?_, g2⟩
  rw [z0, eX11_holdsNow_3, if_pos (Int32.le_refl _), eX11_holdsNow_11]
end
