/-! TEXT: the model's tokens -/
def mFt (I I' : Nat → Nat → Int32) : Prop := ∀ o k, ¬ (o = 130 ∧ 6 ≤ k ∧ k ≤ 12 ∧ k ≠ 8) → I' o k = I o k
theorem mFt_tr {I I1 I2 : Nat → Nat → Int32} (h : mFt I I1) (g : mFt I1 I2) : mFt I I2 := fun o k w => (g o k w).trans (h o k w)
theorem mFt_rf {I : Nat → Nat → Int32} : mFt I I := fun _ _ _ => rfl
theorem mFt_o {I I' : Nat → Nat → Int32} (h : mFt I I') {o : Nat} (ho : o ≠ 130) : I' o = I o := funext fun k => h o k fun w => ho w.1
def mTx (B : Nat → Nat) (n : Nat) (I : Nat → Nat → Int32) : Prop := I 130 8 = zi (n : Int) ∧ ∀ k, k < n → I 134 k = zi (B k : Int)
def mAt (B : Nat → Nat) (n : Nat) (I : Nat → Nat → Int32) (s : yTkS) : Prop := mTx B n I ∧ (s.1 = 0 → s.2 ≤ n ∧ yK B n s.2 ≠ 20 ∧ I 130 11 = 0 ∧ I 130 6 = zi (yS B n s.2 : Int) ∧ I 130 7 = zi (yEb B n s.2 : Int) ∧ I 130 9 = zi (yK B n s.2 : Int) ∧ (yK B n s.2 = 15 → I 130 10 = zi (yVl B n s.2 : Int))) ∧ (s.1 ≠ 0 → s.1 ≤ 5 ∧ s.2 ≤ n ∧ ((I 130 11 = zi (s.1 : Int) ∧ I 130 12 = zi (s.2 : Int)) ∨ (s.1 = 1 ∧ I 130 11 = 0 ∧ I 130 9 = 20 ∧ I 130 6 = zi (s.2 : Int))))
theorem mTx_fr {B : Nat → Nat} {n : Nat} {I I' : Nat → Nat → Int32} (h : mFt I I') (g : mTx B n I) : mTx B n I' := by
  refine ⟨?_, fun k hk => ?_⟩
  · rw [h 130 8 (by omega)]
    exact g.1
  · rw [h 134 k (by omega)]
    exact g.2 k hk
/-- what touches no token -/
theorem mAt_fr {B : Nat → Nat} {n : Nat} {I I' : Nat → Nat → Int32} {s : yTkS} (h : ∀ k, 6 ≤ k → k ≤ 12 → I' 130 k = I 130 k) (h4 : I' 134 = I 134) (g : mAt B n I s) : mAt B n I' s := by
  unfold mAt mTx
  rw [h 6 (by decide) (by decide), h 7 (by decide) (by decide), h 8 (by decide) (by decide), h 9 (by decide) (by decide), h 10 (by decide) (by decide), h 11 (by decide) (by decide), h 12 (by decide) (by decide), h4]
  exact g
theorem yW_f {q i : Nat} (hq : q < 14) (hi : i ≤ (yWq q).length) : yCh 14 (yWst q + i) = (if i < (yWq q).length then (yWq q).getD i 0 else 32) ∧ (i < (yWq q).length → (yWq q).getD i 0 ≠ 32 ∧ (yWq q).getD i 0 < 256) ∧ yWst q + i < 66 ∧ (yWq q).length ≤ 5 ∧ yWst (q + 1) = yWst q + (yWq q).length + 1 := by
  have key0 : ∀ q : Fin 14, (yWq q.1).length ≤ 5 ∧ yWst (q.1 + 1) = yWst q.1 + (yWq q.1).length + 1 := by decide +kernel
  have key : ∀ q : Fin 14, ∀ i : Fin 6, i.1 ≤ (yWq q.1).length → yCh 14 (yWst q.1 + i.1) = (if i.1 < (yWq q.1).length then (yWq q.1).getD i.1 0 else 32) ∧ (i.1 < (yWq q.1).length → (yWq q.1).getD i.1 0 ≠ 32 ∧ (yWq q.1).getD i.1 0 < 256) ∧ yWst q.1 + i.1 < 66 := by decide +kernel
  have a := key0 ⟨q, hq⟩
  have a1 : (yWq q).length ≤ 5 := a.1
  have b := key ⟨q, hq⟩ ⟨i, by omega⟩ hi
  exact ⟨b.1, b.2.1, b.2.2, a.1, a.2⟩
section
variable {d L r : Nat} {I : Nat → Nat → Int32} {J : Nat → Nat → Int64}
variable {B : Nat → Nat} {n : Nat}
theorem yChr14 (hd : 5 ≤ d) {i : Nat} (hi : i < 66) : zCd zT d 372 [.ref 1028, .int (zi (i : Int))] (zm L I J r) = some (some (.int (zi (yCh 14 i : Int))), (zm L I J r)) := yChr (j := 14) hd (by decide) (show i < (yStr 14).length from hi)
theorem yLen14 (hd : 2 ≤ d) : zCd zT d 371 [.ref 1028] (zm L I J r) = some (some (.int (zi 66)), (zm L I J r)) := yLen (j := 14) hd (by decide)
theorem mSee (hd : 1 ≤ d) (hn : n ≤ 400) (hx : mTx B n I) {k : Nat} (hk : k ≤ 400) : zCd zT d 247 [.ref 130, .int (zi (k : Int))] (zm L I J r) = some (some (.int (if k < n then zi (B k : Int) else -1)), (zm L I J r)) := by
  rw [sX12_see hd, hx.1]
  by_cases w : k < n
  · rw [if_neg (show ¬ zi (n : Int) ≤ zi (k : Int) by rw [yLe (by omega) (by omega)]; omega), if_pos w, zin_t (by omega) (by omega), zgd_t, zi_cl (by omega), Int.toNat_natCast, hx.2 k w]
  · rw [if_pos (show zi (n : Int) ≤ zi (k : Int) by rw [yLe (by omega) (by omega)]; omega), if_neg w]
theorem mKey (hd : 6 ≤ d) (hn : n ≤ 400) (hB : ∀ k, k < n → B k < 256) (hx : mTx B n I) {s b : Nat} (h6 : I 130 6 = zi (s : Int)) (h7 : I 130 7 = zi (b : Int)) (hb : s ≤ b ∧ b ≤ n) : zCd zT d 250 [.ref 130] (zm L I J r) = some (some (.int (zi (yKy (yWd B s (b - s)) : Int))), (zm L I J r)) := by
  obtain ⟨e, rfl⟩ : ∃ e, d = e + 1 := ⟨d - 1, by omega⟩
  have T := zForT (n := 14) (stop := fun q => decide (yWq q = yWd B s (b - s))) (G := fun q => zX 0 (zCd zT e) zc_X12_keyAt 1 [some (.ref 130), some (.int (zi ((q : Nat) : Int))), some (.int (zi (yWst q : Int))), none] [] (zm L I J r)) (E := fun q => some (some (.int (zi ((q : Nat) : Int))), (zm L I J r))) (fun q hq => by
    have f0 := yW_f (i := 0) hq (Nat.zero_le _)
    have fl := yW_f (i := (yWq q).length) hq (Nat.le_refl _)
    try dsimp only
    rw [eX12_keyAt_1, yLen14 (by omega), zbI_s, eX12_keyAt_2, if_neg (show ¬ zi 66 ≤ zi (yWst q : Int) by rw [zi_le (by omega) (by omega)]; omega)]
    have T2 := zForT (n := (yWq q).length) (stop := fun i => !decide (s + i < b ∧ B (s + i) = (yWq q).getD i 0)) (G := fun i => zX 0 (zCd zT e) zc_X12_keyAt 3 [some (.ref 130), some (.int (zi (q : Int))), some (.int (zi (yWst q : Int))), some (.int (zi ((i : Nat) : Int)))] [] (zm L I J r)) (E := fun i => zX 0 (zCd zT e) zc_X12_keyAt 6 [some (.ref 130), some (.int (zi (q : Int))), some (.int (zi (yWst q : Int))), some (.int (zi ((i : Nat) : Int)))] [] (zm L I J r)) (fun i hi => by
      have f := yW_f (i := i) hq (by omega)
      have f1 := f.1
      rw [if_pos hi] at f1
      have f2 := f.2.1 hi
      try dsimp only
      rw [eX12_keyAt_3, show zi (yWst q : Int) + zi (i : Int) = zi ((yWst q + i : Nat) : Int) from zi_add _ _, yChr14 (by omega) f.2.2.1, zbI_s, f1, eX12_keyAt_4, if_neg (show ¬ zi ((yWq q).getD i 0 : Int) = (32 : Int32) by rw [show (32 : Int32) = zi ((32 : Nat) : Int) from rfl, yEq (by omega) (by omega)]; exact f2.1), h6, h7, show zi (s : Int) + zi (i : Int) = zi ((s + i : Nat) : Int) from zi_add _ _]
      by_cases z : s + i < b
      · have bb := hB (s + i) (by omega)
        rw [if_neg (show ¬ zi (b : Int) ≤ zi ((s + i : Nat) : Int) by rw [yLe (by omega) (by omega)]; omega), zin_t (by omega) (by omega), zgd_t, show zi (yWst q : Int) + zi (i : Int) = zi ((yWst q + i : Nat) : Int) from zi_add _ _, yChr14 (by omega) f.2.2.1, zbI_s, f1, zi_cl (by omega), Int.toNat_natCast, hx.2 _ (by omega), eX12_keyAt_5, yZ1]
        by_cases y : B (s + i) = (yWq q).getD i 0
        · rw [if_pos (show zi (B (s + i) : Int) = zi ((yWq q).getD i 0 : Int) by rw [y]), decide_eq_true ⟨z, y⟩, if_neg (show ¬ (!true) = true by decide)]
        · rw [if_neg (show ¬ zi (B (s + i) : Int) = zi ((yWq q).getD i 0 : Int) by rw [yEq (by omega) (by omega)]; exact y), decide_eq_false (fun c => y c.2), if_pos (show (!false) = true by decide)]
      · rw [if_pos (show zi (b : Int) ≤ zi ((s + i : Nat) : Int) by rw [yLe (by omega) (by omega)]; omega), decide_eq_false (fun c => z c.1), if_pos (show (!false) = true by decide)])
    have T3 : zX 0 (zCd zT e) zc_X12_keyAt 8 [some (.ref 130), some (.int (zi (q : Int))), some (.int (zi (yWst q : Int))), some (.int (zi ((zFs (fun i => !decide (s + i < b ∧ B (s + i) = (yWq q).getD i 0)) (yWq q).length : Nat) : Int)))] [] (zm L I J r) = zX 0 (zCd zT e) zc_X12_keyAt 1 [some (.ref 130), some (.int (zi ((q + 1 : Nat) : Int))), some (.int (zi (yWst (q + 1) : Int))), none] [] (zm L I J r) := by
      generalize zFs (fun i => !decide (s + i < b ∧ B (s + i) = (yWq q).getD i 0)) (yWq q).length = c
      have c3 := zFor (n := (yWq q).length) (G := fun i => zX 0 (zCd zT e) zc_X12_keyAt 8 [some (.ref 130), some (.int (zi (q : Int))), some (.int (zi ((yWst q + i : Nat) : Int))), some (.int (zi (c : Int)))] [] (zm L I J r)) (fun i hi => by
        have f := yW_f (i := i) hq (by omega)
        have f1 := f.1
        rw [if_pos hi] at f1
        have f2 := f.2.1 hi
        try dsimp only
        rw [eX12_keyAt_8, yChr14 (by omega) f.2.2.1, zbI_s, f1, eX12_keyAt_9, if_neg (show ¬ zi ((yWq q).getD i 0 : Int) = (32 : Int32) by rw [show (32 : Int32) = zi ((32 : Nat) : Int) from rfl, yEq (by omega) (by omega)]; exact f2.1), yZ1]
        rfl)
      refine (show _ = _ from c3).trans ?_
      have fl1 := fl.1
      rw [if_neg (Nat.lt_irrefl _)] at fl1
      rw [eX12_keyAt_8, yChr14 (by omega) fl.2.2.1, zbI_s, fl1, eX12_keyAt_9, if_pos (show zi ((32 : Nat) : Int) = (32 : Int32) from rfl), eX12_keyAt_10, yZ1, yZ1, ← fl.2.2.2.2]
    have cle := zFs_le (stop := fun i => !decide (s + i < b ∧ B (s + i) = (yWq q).getD i 0)) (n := (yWq q).length)
    have T4 : zX 0 (zCd zT e) zc_X12_keyAt 3 [some (.ref 130), some (.int (zi (q : Int))), some (.int (zi (yWst q : Int))), some (.int 0)] [] (zm L I J r) = zX 0 (zCd zT e) zc_X12_keyAt 6 [some (.ref 130), some (.int (zi (q : Int))), some (.int (zi (yWst q : Int))), some (.int (zi ((zFs (fun i => !decide (s + i < b ∧ B (s + i) = (yWq q).getD i 0)) (yWq q).length : Nat) : Int)))] [] (zm L I J r) := by
      refine (show _ = _ from T2).trans ?_
      by_cases z : zFs (fun i => !decide (s + i < b ∧ B (s + i) = (yWq q).getD i 0)) (yWq q).length < (yWq q).length
      · rw [if_pos z]
      · rw [if_neg z, show zFs (fun i => !decide (s + i < b ∧ B (s + i) = (yWq q).getD i 0)) (yWq q).length = (yWq q).length by omega]
        have fl1 := fl.1
        rw [if_neg (Nat.lt_irrefl _)] at fl1
        rw [eX12_keyAt_3, show zi (yWst q : Int) + zi ((yWq q).length : Int) = zi ((yWst q + (yWq q).length : Nat) : Int) from zi_add _ _, yChr14 (by omega) fl.2.2.1, zbI_s, fl1, eX12_keyAt_4, if_pos (show zi ((32 : Nat) : Int) = (32 : Int32) from rfl)]
    rw [T4]
    have fz := yW_f (i := zFs (fun i => !decide (s + i < b ∧ B (s + i) = (yWq q).getD i 0)) (yWq q).length) hq (by omega)
    rw [eX12_keyAt_6, show zi (yWst q : Int) + zi ((zFs (fun i => !decide (s + i < b ∧ B (s + i) = (yWq q).getD i 0)) (yWq q).length : Nat) : Int) = zi ((yWst q + zFs (fun i => !decide (s + i < b ∧ B (s + i) = (yWq q).getD i 0)) (yWq q).length : Nat) : Int) from zi_add _ _, yChr14 (by omega) fz.2.2.1, zbI_s, fz.1, eX12_keyAt_7, h6, h7]
    by_cases z : zFs (fun i => !decide (s + i < b ∧ B (s + i) = (yWq q).getD i 0)) (yWq q).length < (yWq q).length
    · have f2 := fz.2.1 z
      have s1 := zFs_s z
      rw [if_pos z, if_neg (show ¬ zi ((yWq q).getD (zFs (fun i => !decide (s + i < b ∧ B (s + i) = (yWq q).getD i 0)) (yWq q).length) 0 : Int) = (32 : Int32) by rw [show (32 : Int32) = zi ((32 : Nat) : Int) from rfl, yEq (by omega) (by omega)]; exact f2.1), T3, decide_eq_false (fun c => by
        have c2 := yWd_i.mp c
        have c3 := c2.2 (zFs (fun i => !decide (s + i < b ∧ B (s + i) = (yWq q).getD i 0)) (yWq q).length) (by omega)
        have c4 : s + zFs (fun i => !decide (s + i < b ∧ B (s + i) = (yWq q).getD i 0)) (yWq q).length < b ∧ B (s + zFs (fun i => !decide (s + i < b ∧ B (s + i) = (yWq q).getD i 0)) (yWq q).length) = (yWq q).getD (zFs (fun i => !decide (s + i < b ∧ B (s + i) = (yWq q).getD i 0)) (yWq q).length) 0 := ⟨by omega, c3.symm⟩
        rw [decide_eq_true c4] at s1
        cases s1)]
      rfl
    · have cz : zFs (fun i => !decide (s + i < b ∧ B (s + i) = (yWq q).getD i 0)) (yWq q).length = (yWq q).length := by omega
      have all : ∀ i, i < (yWq q).length → s + i < b ∧ B (s + i) = (yWq q).getD i 0 := fun i hi => by
        have c := zFs_n (stop := fun i => !decide (s + i < b ∧ B (s + i) = (yWq q).getD i 0)) (n := (yWq q).length) (j := i) (by omega)
        by_cases y : s + i < b ∧ B (s + i) = (yWq q).getD i 0
        · exact y
        · rw [decide_eq_false y] at c
          cases c
      rw [if_neg z, if_pos (show zi ((32 : Nat) : Int) = (32 : Int32) from rfl), T3, cz, show zi (s : Int) + zi ((yWq q).length : Int) = zi ((s + (yWq q).length : Nat) : Int) from zi_add _ _]
      by_cases y : s + (yWq q).length = b
      · rw [if_pos (show zi ((s + (yWq q).length : Nat) : Int) = zi (b : Int) by rw [y]), decide_eq_true (yWd_i.mpr ⟨by omega, fun i hi => (all i (by omega)).2.symm⟩)]
        rfl
      · rw [if_neg (show ¬ zi ((s + (yWq q).length : Nat) : Int) = zi (b : Int) by rw [yEq (by omega) (by omega)]; exact y), decide_eq_false (fun c => y (by have := (yWd_i.mp c).1; omega))]
        rfl)
  rw [qX12_keyAt, eX12_keyAt_0]
  refine (show _ = _ from T).trans ?_
  unfold yKy
  by_cases z : zFs (fun q => decide (yWq q = yWd B s (b - s))) 14 < 14
  · rw [if_pos z]
  · have : zFs (fun q => decide (yWq q = yWd B s (b - s))) 14 = 14 := by
      have := zFs_le (stop := fun q => decide (yWq q = yWd B s (b - s))) (n := 14)
      omega
    rw [if_neg z, this, eX12_keyAt_1, yLen14 (by omega), zbI_s, eX12_keyAt_2, if_pos (show zi 66 ≤ zi (yWst 14 : Int) by decide), eX12_keyAt_11]
    rfl
/-- what next() leaves -/
def mNx (B : Nat → Nat) (n p : Nat) (I I' : Nat → Nat → Int32) : Prop := I' 130 6 = zi (yS B n p : Int) ∧ I' 130 7 = zi (yEb B n p : Int) ∧ I' 130 9 = zi (yK B n p : Int) ∧ (yK B n p = 15 → I' 130 10 = zi (yVl B n p : Int)) ∧ ∀ o k, ¬ (o = 130 ∧ (k = 6 ∨ k = 7 ∨ k = 9 ∨ k = 10)) → I' o k = I o k
theorem mNext0 (hd : 7 ≤ d) (hn : n ≤ 400) (hB : ∀ k, k < n → B k < 256) (hx : mTx B n I) {p : Nat} (hp : p ≤ n) (h7 : I 130 7 = zi (p : Int)) : ∃ I', zCd zT d 251 [.ref 130] (zm L I J r) = some (none, (zm L I' J r)) ∧ mNx B n p I I' := by
  obtain ⟨e, rfl⟩ : ∃ e, d = e + 1 := ⟨d - 1, by omega⟩
  obtain ⟨s1, s2, s3, s4⟩ := yS_p (B := B) hp
  have kc := yKs_c (B := B) s2
  obtain ⟨s, hs⟩ : ∃ s, s = yS B n p := ⟨_, rfl⟩
  have hK : yK B n p = yKs B n s := by rw [hs]; rfl
  have hE : yEb B n p = yEs B n s := by rw [hs]; rfl
  have hV : yVl B n p = yVs B n s := by rw [hs]; rfl
  unfold mNx
  rw [hK, hE, hV, ← hs]
  rw [← hs] at s1 s2 s3 s4 kc
  -- blanks
  obtain ⟨m, c1, c2⟩ := zForI (n := s - p) (M := Nat → Nat → Int32) (G := fun j m => zX 2 (zCd zT e) zc_X12_next 1 [some (.ref 130)] [] (zm L m J r)) (P := fun j m => m 130 6 = zi ((p + j : Nat) : Int) ∧ ∀ o k, ¬ (o = 130 ∧ k = 6) → m o k = I o k) (fun j m hj hm => by
    obtain ⟨m6, mo⟩ := hm
    have mx : mTx B n m := ⟨by rw [mo 130 8 (by omega)]; exact hx.1, fun k hk => by rw [mo 134 k (by omega)]; exact hx.2 k hk⟩
    have bl := of_decide_eq_true (show decide _ = true from s3 (p + j) (by omega) (by omega))
    have go : zX 2 (zCd zT e) zc_X12_next 1 [some (.ref 130)] [] (zm L m J r) = zX 2 (zCd zT e) zc_X12_next 4 [some (.ref 130)] [] (zm L m J r) := by
      rw [eX12_next_1, m6, mSee (by omega) hn mx (by omega), if_pos (show p + j < n by omega), zbI_s, eX12_next_2]
      by_cases w : B (p + j) = 10
      · rw [if_pos (show zi (B (p + j) : Int) = (10 : Int32) by rw [w]; rfl)]
      · have w2 : B (p + j) = 32 := by omega
        rw [if_neg (show ¬ zi (B (p + j) : Int) = (10 : Int32) by rw [w2]; decide), m6, mSee (by omega) hn mx (by omega), if_pos (show p + j < n by omega), zbI_s, eX12_next_3, if_pos (show zi (B (p + j) : Int) = (32 : Int32) by rw [w2]; rfl)]
    rw [go, eX12_next_4, m6, yZ1]
    refine ⟨_, rfl, zu_y ⟨rfl, rfl⟩, fun o k w => ?_⟩
    rw [zu_n w]
    exact mo o k w) (zu I 130 6 (zi (p : Int))) ⟨zu_y ⟨rfl, rfl⟩, fun o k w => zu_n w⟩
  obtain ⟨m6, mo⟩ := c2
  rw [show p + (s - p) = s by omega] at m6
  have mx : mTx B n m := ⟨by rw [mo 130 8 (by omega)]; exact hx.1, fun k hk => by rw [mo 134 k (by omega)]; exact hx.2 k hk⟩
  have z0 : zX 2 (zCd zT e) zc_X12_next 1 [some (.ref 130)] [] (zm L (zu I 130 6 (zi (p : Int))) J r) = _ := c1
  have go5 : zX 2 (zCd zT e) zc_X12_next 1 [some (.ref 130)] [] (zm L m J r) = zX 2 (zCd zT e) zc_X12_next 5 [some (.ref 130)] [] (zm L m J r) := by
    rw [eX12_next_1, m6, mSee (by omega) hn mx (by omega), zbI_s, eX12_next_2]
    by_cases w : s < n
    · have nb := of_decide_eq_false (show decide _ = false from s4 w)
      have b256 := hB s w
      rw [if_pos w, if_neg (show ¬ zi (B s : Int) = (10 : Int32) by rw [show (10 : Int32) = zi ((10 : Nat) : Int) from rfl, yEq (by omega) (by omega)]; omega), m6, mSee (by omega) hn mx (by omega), if_pos w, zbI_s, eX12_next_3, if_neg (show ¬ zi (B s : Int) = (32 : Int32) by rw [show (32 : Int32) = zi ((32 : Nat) : Int) from rfl, yEq (by omega) (by omega)]; omega)]
    · rw [if_neg w, if_neg (show ¬ (-1 : Int32) = 10 by decide), m6, mSee (by omega) hn mx (by omega), if_neg w, zbI_s, eX12_next_3, if_neg (show ¬ (-1 : Int32) = 32 by decide)]
  rw [qX12_next, eX12_next_0, h7, z0, go5, eX12_next_5, m6, mx.1]
  have e33 : ∀ I', zX 2 (zCd zT e) zc_X12_next 33 [some (.ref 130)] [] (zm L I' J r) = some (none, (zm L I' J r)) := fun I' => eX12_next_33
  by_cases w : s < n
  · have b256 := hB s w
    have w' : ¬ n ≤ s := by omega
    rw [if_pos (show zi (s : Int) < zi (n : Int) by rw [yLt (by omega) (by omega)]; omega), eX12_next_6]
    obtain ⟨u, hu⟩ : ∃ u, u = zu m 130 7 (zi (s : Int)) := ⟨_, rfl⟩
    have u6 : u 130 6 = zi (s : Int) := by rw [hu, zu_n (by decide), m6]
    have u7 : u 130 7 = zi (s : Int) := by rw [hu, zu_y ⟨rfl, rfl⟩]
    have uo : ∀ o k, ¬ (o = 130 ∧ (k = 6 ∨ k = 7)) → u o k = I o k := fun o k g => by rw [hu, zu_n (by omega)]; exact mo o k (by omega)
    have ux : mTx B n u := ⟨by rw [uo 130 8 (by omega)]; exact hx.1, fun k hk => by rw [uo 134 k (by omega)]; exact hx.2 k hk⟩
    rw [← hu, u6, mSee (by omega) hn ux (by omega), if_pos w, zbI_s, eX12_next_7, sX12_isSmall (by omega), yL_i b256, zbI_s, eX12_next_8]
    cases q1 : yIsL (B s)
    · rw [if_pos (show zb1 false = 0 by decide), eX12_next_14, u6, mSee (by omega) hn ux (by omega), if_pos w, zbI_s, eX12_next_15, sX12_isDigit (by omega), yD_i b256, zbI_s, eX12_next_16]
      cases q2 : yIsD (B s)
      · rw [if_pos (show zb1 false = 0 by decide), eX12_next_25, u7, yZ1]
        obtain ⟨v, hv⟩ : ∃ v, v = zu u 130 7 (zi ((s + 1 : Nat) : Int)) := ⟨_, rfl⟩
        have v6 : v 130 6 = zi (s : Int) := by rw [hv, zu_n (by decide), u6]
        have v7 : v 130 7 = zi ((s + 1 : Nat) : Int) := by rw [hv, zu_y ⟨rfl, rfl⟩]
        have vo : ∀ o k, ¬ (o = 130 ∧ (k = 6 ∨ k = 7)) → v o k = I o k := fun o k g => by rw [hv, zu_n (by omega)]; exact uo o k g
        have vx : mTx B n v := ⟨by rw [vo 130 8 (by omega)]; exact hx.1, fun k hk => by rw [vo 134 k (by omega)]; exact hx.2 k hk⟩
        have e3 : yEs B n s = s + 1 := by
          unfold yEs
          rw [if_neg w', q1, q2, if_neg (by decide), if_neg (by decide)]
        have i59 : zi (B s : Int) = (59 : Int32) ↔ B s = 59 := yEq (b := 59) (by omega) (by omega)
        have i40 : zi (B s : Int) = (40 : Int32) ↔ B s = 40 := yEq (b := 40) (by omega) (by omega)
        have i41 : zi (B s : Int) = (41 : Int32) ↔ B s = 41 := yEq (b := 41) (by omega) (by omega)
        have fin : ∀ K : Nat, yKs B n s = K → K ≠ 15 → ∃ I', zX 2 (zCd zT e) zc_X12_next 32 [some (.ref 130)] [.int (zi (K : Int)), .ref 130] (zm L v J r) = some (none, (zm L I' J r)) ∧ (I' 130 6 = zi (s : Int) ∧ I' 130 7 = zi (yEs B n s : Int) ∧ I' 130 9 = zi (yKs B n s : Int) ∧ (yKs B n s = 15 → I' 130 10 = zi (yVs B n s : Int)) ∧ ∀ o k, ¬ (o = 130 ∧ (k = 6 ∨ k = 7 ∨ k = 9 ∨ k = 10)) → I' o k = I o k) := by
          intro K hk k15
          rw [eX12_next_32, e33]
          refine ⟨_, rfl, ?_, ?_, ?_, fun c => absurd (hk.symm.trans c) k15, fun o k g => ?_⟩
          · rw [zu_n (by decide), v6]
          · rw [zu_n (by decide), v7, e3]
          · rw [zu_y ⟨rfl, rfl⟩, hk]
          · rw [zu_n (by omega)]
            exact vo o k (by omega)
        rw [← hv, u6, mSee (by omega) hn vx (by omega), if_pos w, zbI_s, eX12_next_26]
        by_cases g1 : B s = 59
        · rw [if_pos (i59.mpr g1)]
          exact fin 16 (by unfold yKs; rw [if_neg w', q1, q2, if_neg (by decide), if_neg (by decide), if_pos g1]) (by decide)
        · rw [if_neg (fun c => g1 (i59.mp c)), eX12_next_27, v6, mSee (by omega) hn vx (by omega), if_pos w, zbI_s, eX12_next_28]
          by_cases g2 : B s = 40
          · rw [if_pos (i40.mpr g2)]
            exact fin 17 (by unfold yKs; rw [if_neg w', q1, q2, if_neg (by decide), if_neg (by decide), if_neg g1, if_pos g2]) (by decide)
          · rw [if_neg (fun c => g2 (i40.mp c)), eX12_next_29, v6, mSee (by omega) hn vx (by omega), if_pos w, zbI_s, eX12_next_30]
            by_cases g3 : B s = 41
            · rw [if_pos (i41.mpr g3)]
              exact fin 18 (by unfold yKs; rw [if_neg w', q1, q2, if_neg (by decide), if_neg (by decide), if_neg g1, if_neg g2, if_pos g3]) (by decide)
            · rw [if_neg (fun c => g3 (i41.mp c)), eX12_next_31]
              exact fin 20 (by unfold yKs; rw [if_neg w', q1, q2, if_neg (by decide), if_neg (by decide), if_neg g1, if_neg g2, if_neg g3]) (by decide)
      · -- a number
        obtain ⟨d1, d2, d3, d4⟩ := ySp_p (P := fun k => yIsD (B k)) s2
        have ee : ySp (fun k => yIsD (B k)) n s = yEd B n s := rfl
        rw [ee] at d1 d2 d3 d4
        have e3 : yEs B n s = yEd B n s := by
          unfold yEs
          rw [if_neg w', q1, q2, if_neg (by decide), if_pos rfl]
        have k3 : yKs B n s = if yEd B n s - s ≤ 3 then 15 else 20 := by
          unfold yKs
          rw [if_neg w', q1, q2, if_neg (by decide), if_pos rfl]
        rw [if_neg (show ¬ zb1 true = 0 by decide)]
        obtain ⟨v, x1, x2⟩ := zForI (n := yEd B n s - s) (M := Nat → Nat → Int32) (G := fun j m => zX 2 (zCd zT e) zc_X12_next 17 [some (.ref 130)] [] (zm L m J r)) (P := fun j m => m 130 6 = zi (s : Int) ∧ m 130 7 = zi ((s + j : Nat) : Int) ∧ (j ≤ 3 → m 130 10 = zi (yNu B s j : Int)) ∧ ∀ o k, ¬ (o = 130 ∧ (k = 6 ∨ k = 7 ∨ k = 10)) → m o k = I o k) (fun j m hj hm => by
          obtain ⟨m6, m7, m10, mo⟩ := hm
          have mx : mTx B n m := ⟨by rw [mo 130 8 (by omega)]; exact hx.1, fun k hk => by rw [mo 134 k (by omega)]; exact hx.2 k hk⟩
          have dg0 := d3 (s + j) (by omega) (by omega)
          have dg := of_decide_eq_true (show decide _ = true from dg0)
          have b2 := hB (s + j) (by omega)
          rw [eX12_next_17, m7, mSee (by omega) hn mx (by omega), if_pos (show s + j < n by omega), zbI_s, eX12_next_18, sX12_isDigit (by omega), yD_i b2, zbI_s, show yIsD (B (s + j)) = true from dg0, eX12_next_19, if_neg (show ¬ zb1 true = 0 by decide), m7, m6, show zi ((s + j : Nat) : Int) - zi (s : Int) = zi (j : Int) by rw [zi_sub]; exact congrArg zi (by omega)]
          by_cases z : 3 ≤ j
          · rw [if_pos (show (3 : Int32) ≤ zi (j : Int) by rw [show (3 : Int32) = zi ((3 : Nat) : Int) from rfl, yLe (by omega) (by omega)]; exact z), eX12_next_21, m7, yZ1]
            refine ⟨_, rfl, ?_, zu_y ⟨rfl, rfl⟩, fun c => by omega, fun o k g => ?_⟩
            · rw [zu_n (by decide), m6]
            · rw [zu_n (by omega)]
              exact mo o k g
          · have k1 : ((10 : Int32) * zi (yNu B s j : Int) + zi (B (s + j) : Int)) - (48 : Int32) = zi (yNu B s (j + 1) : Int) := by
              rw [show (10 : Int32) = zi 10 from rfl, show (48 : Int32) = zi 48 from rfl, zi_mul, zi_add, zi_sub, yNu]
              exact congrArg zi (by omega)
            rw [if_neg (show ¬ (3 : Int32) ≤ zi (j : Int) by rw [show (3 : Int32) = zi ((3 : Nat) : Int) from rfl, yLe (by omega) (by omega)]; exact z), mSee (by omega) hn mx (by omega), if_pos (show s + j < n by omega), zbI_s, m10 (by omega), eX12_next_20, k1, eX12_next_21, zu_n (show ¬ ((130 : Nat) = 130 ∧ (7 : Nat) = 10) by decide), m7, yZ1]
            refine ⟨_, rfl, ?_, zu_y ⟨rfl, rfl⟩, fun c => ?_, fun o k g => ?_⟩
            · rw [zu_n (by decide), zu_n (by decide), m6]
            · rw [zu_n (by decide), zu_y ⟨rfl, rfl⟩]
            · rw [zu_n (by omega), zu_n (by omega)]
              exact mo o k g) (zu u 130 10 0) ⟨by rw [zu_n (by decide), u6], by rw [zu_n (by decide), u7]; rfl, fun _ => by rw [zu_y ⟨rfl, rfl⟩]; rfl, fun o k g => by rw [zu_n (by omega)]; exact uo o k (by omega)⟩
        obtain ⟨v6, v7, v10, vo⟩ := x2
        rw [show s + (yEd B n s - s) = yEd B n s by omega] at v7
        have vx : mTx B n v := ⟨by rw [vo 130 8 (by omega)]; exact hx.1, fun k hk => by rw [vo 134 k (by omega)]; exact hx.2 k hk⟩
        have z1 : zX 2 (zCd zT e) zc_X12_next 17 [some (.ref 130)] [] (zm L (zu u 130 10 0) J r) = _ := x1
        have go22 : zX 2 (zCd zT e) zc_X12_next 17 [some (.ref 130)] [] (zm L v J r) = zX 2 (zCd zT e) zc_X12_next 22 [some (.ref 130)] [] (zm L v J r) := by
          rw [eX12_next_17, v7, mSee (by omega) hn vx (by omega), zbI_s, eX12_next_18, sX12_isDigit (by omega)]
          by_cases g : yEd B n s < n
          · have s5 : yIsD (B (yEd B n s)) = false := d4 g
            rw [if_pos g, yD_i (hB _ g), zbI_s, s5, eX12_next_19, if_pos (show zb1 false = 0 by decide)]
          · rw [if_neg g, if_pos (show (-1 : Int32) < 48 by decide), zbI_s, eX12_next_19, if_pos rfl]
        rw [z1, go22, eX12_next_22, v7, v6, show zi (yEd B n s : Int) - zi (s : Int) = zi ((yEd B n s - s : Nat) : Int) by rw [zi_sub]; exact congrArg zi (by omega)]
        by_cases g : yEd B n s - s ≤ 3
        · rw [if_pos g] at k3
          rw [if_pos (show zi ((yEd B n s - s : Nat) : Int) ≤ (3 : Int32) by rw [show (3 : Int32) = zi ((3 : Nat) : Int) from rfl, yLe (by omega) (by omega)]; exact g), eX12_next_23, eX12_next_24, e33]
          refine ⟨_, rfl, ?_, ?_, ?_, fun _ => ?_, fun o k g => ?_⟩
          · rw [zu_n (by decide), v6]
          · rw [zu_n (by decide), v7, e3]
          · rw [zu_y ⟨rfl, rfl⟩, k3]
            rfl
          · rw [zu_n (by decide), v10 g]
            rfl
          · rw [zu_n (by omega)]
            exact vo o k (by omega)
        · rw [if_neg g] at k3
          rw [if_neg (show ¬ zi ((yEd B n s - s : Nat) : Int) ≤ (3 : Int32) by rw [show (3 : Int32) = zi ((3 : Nat) : Int) from rfl, yLe (by omega) (by omega)]; exact g), eX12_next_24, e33]
          refine ⟨_, rfl, ?_, ?_, ?_, fun c => ?_, fun o k g => ?_⟩
          · rw [zu_n (by decide), v6]
          · rw [zu_n (by decide), v7, e3]
          · rw [zu_y ⟨rfl, rfl⟩, k3]
            rfl
          · rw [k3] at c
            exact absurd c (by decide)
          · rw [zu_n (by omega)]
            exact vo o k (by omega)
    · -- a word
      obtain ⟨d1, d2, d3, d4⟩ := ySp_p (P := fun k => yIsL (B k)) s2
      have ee : ySp (fun k => yIsL (B k)) n s = yEl B n s := rfl
      rw [ee] at d1 d2 d3 d4
      have e3 : yEs B n s = yEl B n s := by
        unfold yEs
        rw [if_neg w', q1, if_pos rfl]
      have k3 : yKs B n s = yKy (yWd B s (yEl B n s - s)) := by
        unfold yKs
        rw [if_neg w', q1, if_pos rfl]
      rw [if_neg (show ¬ zb1 true = 0 by decide)]
      obtain ⟨v, x1, x2⟩ := zForI (n := yEl B n s - s) (M := Nat → Nat → Int32) (G := fun j m => zX 2 (zCd zT e) zc_X12_next 9 [some (.ref 130)] [] (zm L m J r)) (P := fun j m => m 130 6 = zi (s : Int) ∧ m 130 7 = zi ((s + j : Nat) : Int) ∧ ∀ o k, ¬ (o = 130 ∧ (k = 6 ∨ k = 7)) → m o k = I o k) (fun j m hj hm => by
        obtain ⟨m6, m7, mo⟩ := hm
        have mx : mTx B n m := ⟨by rw [mo 130 8 (by omega)]; exact hx.1, fun k hk => by rw [mo 134 k (by omega)]; exact hx.2 k hk⟩
        have dg0 := d3 (s + j) (by omega) (by omega)
        have b2 := hB (s + j) (by omega)
        rw [eX12_next_9, m7, mSee (by omega) hn mx (by omega), if_pos (show s + j < n by omega), zbI_s, eX12_next_10, sX12_isSmall (by omega), yL_i b2, zbI_s, show yIsL (B (s + j)) = true from dg0, eX12_next_11, if_neg (show ¬ zb1 true = 0 by decide), m7, yZ1]
        refine ⟨_, rfl, ?_, zu_y ⟨rfl, rfl⟩, fun o k g => ?_⟩
        · rw [zu_n (by decide), m6]
        · rw [zu_n (by omega)]
          exact mo o k g) u ⟨u6, u7, uo⟩
      obtain ⟨v6, v7, vo⟩ := x2
      rw [show s + (yEl B n s - s) = yEl B n s by omega] at v7
      have vx : mTx B n v := ⟨by rw [vo 130 8 (by omega)]; exact hx.1, fun k hk => by rw [vo 134 k (by omega)]; exact hx.2 k hk⟩
      have z1 : zX 2 (zCd zT e) zc_X12_next 9 [some (.ref 130)] [] (zm L u J r) = _ := x1
      have go12 : zX 2 (zCd zT e) zc_X12_next 9 [some (.ref 130)] [] (zm L v J r) = zX 2 (zCd zT e) zc_X12_next 12 [some (.ref 130)] [] (zm L v J r) := by
        rw [eX12_next_9, v7, mSee (by omega) hn vx (by omega), zbI_s, eX12_next_10, sX12_isSmall (by omega)]
        by_cases g : yEl B n s < n
        · have s5 : yIsL (B (yEl B n s)) = false := d4 g
          rw [if_pos g, yL_i (hB _ g), zbI_s, s5, eX12_next_11, if_pos (show zb1 false = 0 by decide)]
        · rw [if_neg g, if_pos (show (-1 : Int32) < 97 by decide), zbI_s, eX12_next_11, if_pos rfl]
      rw [z1, go12, eX12_next_12, mKey (by omega) hn hB vx v6 v7 ⟨d1, d2⟩, zbI_s, eX12_next_13, e33]
      have kb := yKy_b (w := yWd B s (yEl B n s - s))
      refine ⟨_, rfl, ?_, ?_, ?_, fun c => ?_, fun o k g => ?_⟩
      · rw [zu_n (by decide), v6]
      · rw [zu_n (by decide), v7, e3]
      · rw [zu_y ⟨rfl, rfl⟩, k3]
      · rw [k3] at c
        omega
      · rw [zu_n (by omega)]
        exact vo o k (by omega)
  · have w' : n ≤ s := by omega
    have k3 : yKs B n s = 19 := yKs_b.2.mpr w'
    have e3 : yEs B n s = n := by
      unfold yEs
      rw [if_pos w']
    rw [if_neg (show ¬ zi (s : Int) < zi (n : Int) by rw [yLt (by omega) (by omega)]; omega), e33]
    refine ⟨_, rfl, ?_, ?_, ?_, fun c => ?_, fun o k g => ?_⟩
    · rw [zu_n (by decide), zu_n (by decide), m6]
    · rw [zu_n (by decide), zu_y ⟨rfl, rfl⟩, e3, show s = n by omega]
    · rw [zu_y ⟨rfl, rfl⟩, k3]
      rfl
    · rw [k3] at c
      exact absurd c (by decide)
    · rw [zu_n (by omega), zu_n (by omega)]
      exact mo o k (by omega)
end
