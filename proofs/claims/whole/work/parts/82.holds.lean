theorem mRd_cg {n : Nat} {I I2 : Nat → Nat → Int32} {s : zS} (h0 : I2 130 = I 130) (h5 : I2 135 = I 135) (h6 : I2 136 = I 136) (h : mRd n I s) : mRd n I2 s := by
  obtain ⟨fo, at1, pa, ti, tu, tp, td, pul, sl, fs, ft⟩ := s
  unfold mRd at *
  rw [h0, h5, h6]
  exact h
section
variable {d L r : Nat} {I : Nat → Nat → Int32} {J : Nat → Nat → Int64}
variable {t : zDy}
theorem mHolds (hd : 3 ≤ d) (h : zTI I J t) (hn : 0 < t.n) {s : zS} (hs : mRd t.n I s) (hal : ∀ p, p < t.n → ¬ zfSp s p = -1) {n : Nat} (hn10 : n ≤ 10) (beat which late : Int32) : ∃ I', zCd zT d 309 [.ref 130, .int (zi (n : Int)), .int beat, .int which, .int late] (zm L I J r) = some (some (.int (yHo (yTm t s) (t.m + 1) beat which late n).2), (zm L I' J r)) ∧ ∀ o, o ≠ 142 → I' o = I o := by
  obtain ⟨e, rfl⟩ : ∃ e, d = e + 1 := ⟨d - 1, by omega⟩
  have hm := h.2.2.1.2.2.1
  have hn60 := h.2.2.1.1
  have kk : ∀ I2 : Nat → Nat → Int32, (∀ o, o ≠ 142 → I2 o = I o) → zCd zT e 243 [.ref 130] (zm L I2 J r) = some (some (.int (zi ((t.m + 1 : Nat) : Int))), (zm L I2 J r)) ∧ ∀ b, b ≤ t.m → zCd zT e 307 [.ref 130, .int (zi (b : Int))] (zm L I2 J r) = some (some (.int (yTm t s b)), (zm L I2 J r)) := by
    intro I2 h2
    have f2 : zSm I I2 := fun o k hp => by rw [h2 o (fun q => by rw [q] at hp; cases hp)]
    have hT2 := zTI_fr f2 h
    have e0 : I2 131 0 = zi t.n := hT2.2.1.1
    have e6 : I2 131 61 = zi t.m := by have := hT2.2.1.2.2.1; rwa [Nat.zero_add] at this
    refine ⟨?_, fun b hb => mTmO (by omega) hT2 hn (mRd_cg (h2 _ (by decide)) (h2 _ (by decide)) (h2 _ (by decide)) hs) hal hb⟩
    rw [sX12_blocks (by omega), e0, e6]
    simp only [show ¬ zi (t.n : Int) ≤ 0 by rw [show (0 : Int32) = zi 0 from rfl, zi_le (by omega) (by decide)]; omega, if_false, z10I]
    exact congrArg (fun x => some (some (Value.int x), zm L I2 J r)) (zi_add _ 1)
  have clr := zForI (n := 6) (G := fun k I2 => zX 0 (zCd zT e) zc_X12_holdsOf 1 [some (.ref 130), some (.int (zi (n : Int))), some (.int beat), some (.int which), some (.int late), some (.int 0), some (.int (zi ((k : Nat) : Int))), none, none, none, none] [] (zm L I2 J r)) (P := fun k I2 => (∀ o, o ≠ 142 → I2 o = I o) ∧ ∀ j, j < k → I2 142 j = 0) (fun k I2 hk hP => by
    have k1 : zi ((k : Nat) : Int) + (1 : Int32) = zi ((k + 1 : Nat) : Int) := zi_add _ 1
    refine ⟨zu I2 142 k 0, ?_, fun o ho => (zu_o ho).trans (hP.1 o ho), fun j hj => ?_⟩
    · rw [eX12_holdsOf_1, if_neg (show ¬ (6 : Int32) ≤ zi ((k : Nat) : Int) by rw [show (6 : Int32) = zi 6 from rfl, zi_le (by decide) (by omega)]; omega), zin_t (by omega) (by omega), zgd_t, zi_cl (by omega), Int.toNat_natCast, k1]
    · by_cases e9 : j = k
      · rw [e9, zu_y ⟨rfl, rfl⟩]
      · rw [zu_n (by omega)]
        exact hP.2 j (by omega)) I ⟨fun _ _ => rfl, fun j hj => absurd hj (by omega)⟩
  obtain ⟨I0, z1, z2, z3⟩ := clr
  have zz : zX 0 (zCd zT e) zc_X12_holdsOf 1 [some (.ref 130), some (.int (zi (n : Int))), some (.int beat), some (.int which), some (.int late), some (.int 0), some (.int 0), none, none, none, none] [] (zm L I J r) = _ := z1
  rw [qX12_holdsOf, eX12_holdsOf_0, zz, eX12_holdsOf_1, if_pos (show (6 : Int32) ≤ zi ((6 : Nat) : Int) by decide), eX12_holdsOf_2]
  have inner : ∀ (l6 : Int32) (S : (Nat → Int32) × Int32 × Int32) (I1 : Nat → Nat → Int32), ((∀ o, o ≠ 142 → I1 o = I o) ∧ ∀ j, j < 6 → I1 142 j = S.1 j) → ∃ I2, zX 0 (zCd zT e) zc_X12_holdsOf 8 [some (.ref 130), some (.int (zi (n : Int))), some (.int beat), some (.int which), some (.int late), some (.int S.2.2), some (.int l6), some (.int S.2.1), some (.int 0), none, none] [] (zm L I1 J r) = zX 0 (zCd zT e) zc_X12_holdsOf 8 [some (.ref 130), some (.int (zi (n : Int))), some (.int beat), some (.int which), some (.int late), some (.int ((yHi (yTm t s) (t.m + 1) S (t.m + 1)).2.2)), some (.int l6), some (.int ((yHi (yTm t s) (t.m + 1) S (t.m + 1)).2.1)), some (.int (zi ((t.m + 1 : Nat) : Int))), none, none] [] (zm L I2 J r) ∧ (∀ o, o ≠ 142 → I2 o = I o) ∧ ∀ j, j < 6 → I2 142 j = (yHi (yTm t s) (t.m + 1) S (t.m + 1)).1 j := by
    intro l6 S I1 hI1
    refine zForI (n := t.m + 1) (G := fun b I2 => zX 0 (zCd zT e) zc_X12_holdsOf 8 [some (.ref 130), some (.int (zi (n : Int))), some (.int beat), some (.int which), some (.int late), some (.int ((yHi (yTm t s) (t.m + 1) S b).2.2)), some (.int l6), some (.int ((yHi (yTm t s) (t.m + 1) S b).2.1)), some (.int (zi ((b : Nat) : Int))), none, none] [] (zm L I2 J r)) (P := fun b I2 => (∀ o, o ≠ 142 → I2 o = I o) ∧ ∀ j, j < 6 → I2 142 j = (yHi (yTm t s) (t.m + 1) S b).1 j) (fun b I2 hb hP => ?_) I1 hI1
    have hu : yHi (yTm t s) (t.m + 1) S (b + 1) = yHs (yTm t s) (t.m + 1) b (yHi (yTm t s) (t.m + 1) S b) := rfl
    rw [hu]
    generalize yHi (yTm t s) (t.m + 1) S b = Q at hP ⊢
    obtain ⟨l, now, held⟩ := Q
    obtain ⟨kb, kt⟩ := kk I2 hP.1
    have t1 := kt b (by omega)
    generalize hTT : yTm t s = T at t1 ⊢
    have k1 : zi ((b : Nat) : Int) + (1 : Int32) = zi ((b + 1 : Nat) : Int) := zi_add _ 1
    have v0 : ∀ j, j < 6 → I2 142 j = l j := hP.2
    refine ⟨zu I2 142 b (yHs T (t.m + 1) b (l, now, held)).2.1, ?_, fun o ho => (zu_o ho).trans (hP.1 o ho), fun j hj => ?_⟩
    · have tail : ∀ x : Int32, x = (yHs T (t.m + 1) b (l, now, held)).2.1 → (x ≤ now + T b ↔ ¬ (b + 1 < t.m + 1 ∧ now + T b < l (b + 1))) → zX 0 (zCd zT e) zc_X12_holdsOf 13 [some (.ref 130), some (.int (zi (n : Int))), some (.int beat), some (.int which), some (.int late), some (.int held), some (.int l6), some (.int now), some (.int (zi ((b : Nat) : Int))), some (.int ((now + T b))), none] [.int x] (zm L I2 J r) = zX 0 (zCd zT e) zc_X12_holdsOf 8 [some (.ref 130), some (.int (zi (n : Int))), some (.int beat), some (.int which), some (.int late), some (.int ((yHs T (t.m + 1) b (l, now, held)).2.2)), some (.int l6), some (.int ((yHs T (t.m + 1) b (l, now, held)).2.1)), some (.int (zi ((b + 1 : Nat) : Int))), none, none] [] (zm L (zu I2 142 b (yHs T (t.m + 1) b (l, now, held)).2.1) J r) := by
        intro x hx hx2
        rw [eX12_holdsOf_13, eX12_holdsOf_14, eX12_holdsOf_15, eX12_holdsOf_15, zin_t (by omega) (by omega), zgd_t, zgd_t, zi_cl (by omega), Int.toNat_natCast, k1, ← hx, yHs_h]
        by_cases q : b + 1 < t.m + 1 ∧ now + T b < l (b + 1)
        · rw [if_neg (fun w => hx2.mp w q), if_pos q]
        · rw [if_pos (hx2.mpr q), if_neg q, show held + (0 : Int32) = held from Int32.add_zero held]
      rw [eX12_holdsOf_8, kb, zbI_s, eX12_holdsOf_9, if_neg (show ¬ zi ((t.m + 1 : Nat) : Int) ≤ zi ((b : Nat) : Int) by rw [zi_le (by omega) (by omega)]; omega), t1, zbI_s, eX12_holdsOf_10, kb, zbI_s, eX12_holdsOf_11, k1]
      by_cases q : b + 1 < t.m + 1
      · rw [if_neg (show ¬ zi ((t.m + 1 : Nat) : Int) ≤ zi ((b + 1 : Nat) : Int) by rw [zi_le (by omega) (by omega)]; omega), zin_t (by omega) (by omega), zgd_t, zgd_t, zi_cl (by omega), Int.toNat_natCast, v0 (b + 1) (by omega), eX12_holdsOf_12]
        by_cases q2 : now + T b < l (b + 1)
        · rw [if_neg (Int32.not_le.mpr q2)]
          refine tail _ ?_ ?_
          · unfold yHs
            rw [if_pos ⟨q, q2⟩]
          · exact ⟨fun w => absurd q2 (Int32.not_lt.mpr w), fun w => absurd ⟨q, q2⟩ w⟩
        · rw [if_pos (Int32.not_lt.mp q2)]
          refine tail _ ?_ ?_
          · unfold yHs
            rw [if_neg (fun w => q2 w.2)]
          · exact ⟨fun _ w => q2 w.2, fun _ => Int32.le_refl _⟩
      · rw [if_pos (show zi ((t.m + 1 : Nat) : Int) ≤ zi ((b + 1 : Nat) : Int) by rw [zi_le (by omega) (by omega)]; omega), eX12_holdsOf_12]
        refine tail _ ?_ ?_
        · unfold yHs
          rw [if_neg (fun w => q w.1)]
        · exact ⟨fun _ w => q w.1, fun _ => Int32.le_refl _⟩
    · show zu I2 142 b _ 142 j = if j = b then _ else l j
      by_cases e9 : j = b
      · rw [e9, zu_y ⟨rfl, rfl⟩, if_pos rfl]
        rfl
      · rw [zu_n (by omega), if_neg e9]
        exact v0 j hj
  have outer := zForI (n := n) (G := fun k I2 => zX 0 (zCd zT e) zc_X12_holdsOf 3 [some (.ref 130), some (.int (zi (n : Int))), some (.int beat), some (.int which), some (.int late), some (.int ((yHo (yTm t s) (t.m + 1) beat which late k).2)), some (.int (zi ((k : Nat) : Int))), none, none, none, none] [] (zm L I2 J r)) (P := fun k I2 => (∀ o, o ≠ 142 → I2 o = I o) ∧ ∀ j, j < 6 → I2 142 j = (yHo (yTm t s) (t.m + 1) beat which late k).1 j) (fun k I2 hk hP => by
    have hu : yHo (yTm t s) (t.m + 1) beat which late (k + 1) = ((yHi (yTm t s) (t.m + 1) ((yHo (yTm t s) (t.m + 1) beat which late k).1, yHn k beat which late (yHo (yTm t s) (t.m + 1) beat which late k).1, (yHo (yTm t s) (t.m + 1) beat which late k).2) (t.m + 1)).1, (yHi (yTm t s) (t.m + 1) ((yHo (yTm t s) (t.m + 1) beat which late k).1, yHn k beat which late (yHo (yTm t s) (t.m + 1) beat which late k).1, (yHo (yTm t s) (t.m + 1) beat which late k).2) (t.m + 1)).2.2) := rfl
    rw [hu]
    generalize yHo (yTm t s) (t.m + 1) beat which late k = Q at hP ⊢
    obtain ⟨l, held⟩ := Q
    have v0 : I2 142 0 = l 0 := hP.2 0 (by decide)
    have k1 : zi ((k : Nat) : Int) + (1 : Int32) = zi ((k + 1 : Nat) : Int) := zi_add _ 1
    obtain ⟨I3, i1, i2, i3⟩ := inner (zi ((k : Nat) : Int)) (l, yHn k beat which late l, held) I2 hP
    obtain ⟨kb, _⟩ := kk I3 i2
    refine ⟨I3, ?_, i2, i3⟩
    have st : ∀ x : Int32, x = (if zi (k : Int) = which then late else 0) → zX 0 (zCd zT e) zc_X12_holdsOf 5 [some (.ref 130), some (.int (zi (n : Int))), some (.int beat), some (.int which), some (.int late), some (.int held), some (.int (zi ((k : Nat) : Int))), none, none, none, none] [.int x, .int ((zi (k : Int) * beat))] (zm L I2 J r) = zX 0 (zCd zT e) zc_X12_holdsOf 8 [some (.ref 130), some (.int (zi (n : Int))), some (.int beat), some (.int which), some (.int late), some (.int held), some (.int (zi ((k : Nat) : Int))), some (.int (yHn k beat which late l)), some (.int 0), none, none] [] (zm L I2 J r) := by
      intro x hx
      rw [eX12_holdsOf_5, v0, hx, eX12_holdsOf_6, eX12_holdsOf_7, eX12_holdsOf_7]
      unfold yHn
      by_cases q : zi (k : Int) * beat + (if zi (k : Int) = which then late else 0) < l 0
      · rw [if_neg (Int32.not_le.mpr q), if_pos q]
      · rw [if_pos (Int32.not_lt.mp q), if_neg q]
    rw [eX12_holdsOf_3, if_neg (show ¬ zi (n : Int) ≤ zi ((k : Nat) : Int) by rw [zi_le (by omega) (by omega)]; omega), eX12_holdsOf_4]
    have fin : zX 0 (zCd zT e) zc_X12_holdsOf 8 [some (.ref 130), some (.int (zi (n : Int))), some (.int beat), some (.int which), some (.int late), some (.int held), some (.int (zi ((k : Nat) : Int))), some (.int (yHn k beat which late l)), some (.int 0), none, none] [] (zm L I2 J r) = zX 0 (zCd zT e) zc_X12_holdsOf 3 [some (.ref 130), some (.int (zi (n : Int))), some (.int beat), some (.int which), some (.int late), some (.int ((yHi (yTm t s) (t.m + 1) (l, yHn k beat which late l, held) (t.m + 1)).2.2)), some (.int (zi ((k + 1 : Nat) : Int))), none, none, none, none] [] (zm L I3 J r) := by
      refine i1.trans ?_
      rw [eX12_holdsOf_8, kb, zbI_s, eX12_holdsOf_9, if_pos (Int32.le_refl _), eX12_holdsOf_16, k1]
    by_cases q : zi ((k : Nat) : Int) = which
    · rw [if_pos q, st late (by rw [if_pos q])]
      exact fin
    · rw [if_neg q, st 0 (by rw [if_neg q])]
      exact fin) I0 ⟨z2, z3⟩
  obtain ⟨I2, g1, g2, _⟩ := outer
  have z0 : zX 0 (zCd zT e) zc_X12_holdsOf 3 [some (.ref 130), some (.int (zi (n : Int))), some (.int beat), some (.int which), some (.int late), some (.int 0), some (.int 0), none, none, none, none] [] (zm L I0 J r) = _ := g1
  refine ⟨I2, ?_, g2⟩
  rw [z0, eX12_holdsOf_3, if_pos (Int32.le_refl _), eX12_holdsOf_17]
end
