/-! COVER: the model, and the question -/
theorem yPc_x {s n : Nat} (h : s < 2 ^ n) : ∀ m, n ≤ m → yPc s m = yPc s n := by
  intro m hm
  induction m with
  | zero => rw [show n = 0 by omega]
  | succ m ih =>
    by_cases q : n = m + 1
    · rw [q]
    · rw [yPc, ih (by omega), if_neg (by rw [Nat.testBit_lt_two_pow (Nat.lt_of_lt_of_le h (Nat.pow_le_pow_right (by decide) (show n ≤ m by omega)))]; decide), Nat.add_zero]
theorem yCo_s {b : yTb} {want : Nat} : ∀ s, (yCo b want s).1 = -1 ∨ (yCo b want s).2 = ySm b 1 (yCo b want s).1.toNat b.1 := by
  intro s
  induction s with
  | zero => exact Or.inl rfl
  | succ s ih =>
    rw [yCo]
    split
    · exact Or.inr rfl
    · exact ih
def yCoN (p : Int) : Nat := if p = -1 then 0 else yPc p.toNat 10
section
variable {d L r : Nat} {I : Nat → Nat → Int32} {J : Nat → Nat → Int64}
theorem mCov (hd : 1 ≤ d) {b : yTb} {n m c : Nat} (hb : mTb 2 (I 131) b) (hw : wTb n m c 2 b) {want : Nat} (hwa : want < 4096) {l2 : Int} : zX 0 (zCd zT d) zc_X12_cover 4 [some (.ref 130), some (.int (zi (want : Int))), some (.int (zi l2)), none, none, none, none, none, none, none, none] [] (zm L I J r) = zX 0 (zCd zT d) zc_X12_cover 12 [some (.ref 130), some (.int (zi (want : Int))), some (.int (zi l2)), some (.int (zi (yCo b want (2 ^ b.1)).1)), some (.int (zi (yCo b want (2 ^ b.1)).2)), some (.int (zi (yCoN (yCo b want (2 ^ b.1)).1 : Nat))), some (.int (zi ((2 ^ b.1 : Nat) : Int))), none, none, none, none] [] (zm L I J r) := by
  have w := yW2 hw
  have hp : 2 ^ b.1 ≤ 2 ^ 10 := Nat.pow_le_pow_right (by decide) w.1
  have h3 : I 131 674 = zi b.1 := hb.1
  have g0 : ∀ k, k < b.1 → I 131 (675 + k) = zi (b.2 k 0) := fun k hk => hb.2 k 0 hk (by decide)
  have g1 : ∀ k, k < b.1 → I 131 (685 + k) = zi (b.2 k 1) := fun k hk => hb.2 k 1 hk (by decide)
  have a0 : ∀ k : Nat, (675 : Int32) + zi (k : Int) = zi ((675 + k : Nat) : Int) := fun k => zi_add 675 _
  have a1 : ∀ k : Nat, (685 : Int32) + zi (k : Int) = zi ((685 + k : Nat) : Int) := fun k => zi_add 685 _
  have inner : ∀ (s : Nat) (x y z : Int32), s < 2 ^ b.1 → zX 0 (zCd zT d) zc_X12_cover 6 [some (.ref 130), some (.int (zi (want : Int))), some (.int (zi l2)), some (.int x), some (.int y), some (.int z), some (.int (zi ((s : Nat) : Int))), some (.int 0), some (.int 0), some (.int 0), some (.int 0)] [] (zm L I J r) = zX 0 (zCd zT d) zc_X12_cover 6 [some (.ref 130), some (.int (zi (want : Int))), some (.int (zi l2)), some (.int x), some (.int y), some (.int z), some (.int (zi ((s : Nat) : Int))), some (.int (zi (yUn b 0 s b.1 : Nat))), some (.int (zi (ySm b 1 s b.1))), some (.int (zi (yPc s b.1 : Nat))), some (.int (zi (b.1 : Int)))] [] (zm L I J r) := by
    intro s x y z hs
    have c1 := zFor (n := b.1) (G := fun k => zX 0 (zCd zT d) zc_X12_cover 6 [some (.ref 130), some (.int (zi (want : Int))), some (.int (zi l2)), some (.int x), some (.int y), some (.int z), some (.int (zi ((s : Nat) : Int))), some (.int (zi (yUn b 0 s k : Nat))), some (.int (zi (ySm b 1 s k))), some (.int (zi (yPc s k : Nat))), some (.int (zi ((k : Nat) : Int)))] [] (zm L I J r)) (fun k hk => by
      have k1 : zi ((k : Nat) : Int) + (1 : Int32) = zi ((k + 1 : Nat) : Int) := zi_add _ 1
      have q1 : zi ((yPc s k : Nat) : Int) + (1 : Int32) = zi ((yPc s k + 1 : Nat) : Int) := zi_add _ 1
      have ub := yUn_b (s := s) w.2.1 k (by omega)
      have w0 := w.2.1 k hk
      have ev : zi (b.2 k 0) = zi (((b.2 k 0).toNat : Nat) : Int) := congrArg zi (by omega)
      rw [eX12_cover_6, h3, if_neg (show ¬ zi (b.1 : Int) ≤ zi ((k : Nat) : Int) by rw [zi_le (by omega) (by omega)]; omega), yUn, ySm, yPc]
      by_cases q : s.testBit k = true
      · rw [if_neg (show ¬ (zi ((s : Nat) : Int) >>> (zi ((k : Nat) : Int) &&& 31)) &&& (1 : Int32) = 0 by rw [yShrB (by omega) (by omega), q]; decide), eX12_cover_7, a0, a1, zin_t (by omega) (by omega), zgd_t, zin_t (by omega) (by omega), zgd_t, zi_cl (by omega), zi_cl (by omega), Int.toNat_natCast, Int.toNat_natCast, g0 k hk, g1 k hk, eX12_cover_8, k1, q1, if_pos q, if_pos q, if_pos q, ev, yOr (by omega) (by omega), zi_add]
      · rw [if_pos (show (zi ((s : Nat) : Int) >>> (zi ((k : Nat) : Int) &&& 31)) &&& (1 : Int32) = 0 by rw [yShrB (by omega) (by omega)]; exact Bool.not_eq_true _ ▸ q), eX12_cover_8, k1, if_neg q, if_neg q, if_neg q]
        rfl)
    exact c1
  have c1 := zFor (n := 2 ^ b.1) (G := fun s => zX 0 (zCd zT d) zc_X12_cover 5 [some (.ref 130), some (.int (zi (want : Int))), some (.int (zi l2)), some (.int (zi (yCo b want s).1)), some (.int (zi (yCo b want s).2)), some (.int (zi (yCoN (yCo b want s).1 : Nat))), some (.int (zi ((s : Nat) : Int))), none, none, none, none] [] (zm L I J r)) (fun s hs => by
    have k1 : zi ((s : Nat) : Int) + (1 : Int32) = zi ((s + 1 : Nat) : Int) := zi_add _ 1
    have ub := yUn_b (s := s) w.2.1 b.1 (Nat.le_refl _)
    have sb := ySm_b (s := s) w.2.2 (by decide) b.1 (Nat.le_refl _)
    have pb := yCo_b hw (want := want) s
    have px : yPc s b.1 = yPc s 10 := (yPc_x hs 10 w.1).symm
    have pl : yPc s 10 ≤ 10 := yPc_le 10
    rw [eX12_cover_5, h3, yShl (by omega), if_neg (show ¬ zi ((2 ^ b.1 : Nat) : Int) ≤ zi ((s : Nat) : Int) by rw [zi_le (by omega) (by omega)]; omega), inner s _ _ _ hs, eX12_cover_6, h3, if_pos (Int32.le_refl _), eX12_cover_9, px, yCo]
    generalize yCo b want s = p at pb ⊢
    obtain ⟨p1, p2⟩ := p
    have pb1 : -1 ≤ p1 ∧ p1 < (s : Int) := pb.1
    have pb2 : 0 ≤ p2 ∧ p2 ≤ 990 := pb.2
    show _ = zX 0 (zCd zT d) zc_X12_cover 5 [some (.ref 130), some (.int (zi (want : Int))), some (.int (zi l2)), some (.int (zi (if yUn b 0 s b.1 &&& want = want ∧ (p1 = -1 ∨ ySm b 1 s b.1 < p2 ∨ ySm b 1 s b.1 = p2 ∧ yPc s 10 < yPc p1.toNat 10) then ((s : Int), ySm b 1 s b.1) else (p1, p2)).1)), some (.int (zi (if yUn b 0 s b.1 &&& want = want ∧ (p1 = -1 ∨ ySm b 1 s b.1 < p2 ∨ ySm b 1 s b.1 = p2 ∧ yPc s 10 < yPc p1.toNat 10) then ((s : Int), ySm b 1 s b.1) else (p1, p2)).2)), some (.int (zi (yCoN (if yUn b 0 s b.1 &&& want = want ∧ (p1 = -1 ∨ ySm b 1 s b.1 < p2 ∨ ySm b 1 s b.1 = p2 ∧ yPc s 10 < yPc p1.toNat 10) then ((s : Int), ySm b 1 s b.1) else (p1, p2)).1 : Nat))), some (.int (zi ((s + 1 : Nat) : Int))), none, none, none, none] [] (zm L I J r)
    have d1 : zi p1 = (-1 : Int32) ↔ p1 = -1 := zi_m1 (by omega)
    have d2 : zi p2 < zi (ySm b 1 s b.1) ↔ p2 < ySm b 1 s b.1 := zi_lt (by omega) (by omega)
    have d3 : zi (ySm b 1 s b.1) = zi p2 ↔ ySm b 1 s b.1 = p2 := zi_eq (by omega) (by omega)
    have cn : yCoN (s : Int) = yPc s 10 := by
      unfold yCoN
      rw [if_neg (by omega), Int.toNat_natCast]
    have no : ∀ z : Int32, zX 0 (zCd zT d) zc_X12_cover 11 [some (.ref 130), some (.int (zi (want : Int))), some (.int (zi l2)), some (.int (zi p1)), some (.int (zi p2)), some (.int (zi (yCoN p1 : Nat))), some (.int (zi ((s : Nat) : Int))), some (.int (zi (yUn b 0 s b.1 : Nat))), some (.int (zi (ySm b 1 s b.1))), some (.int (zi (yPc s 10 : Nat))), some (.int z)] [] (zm L I J r) = zX 0 (zCd zT d) zc_X12_cover 5 [some (.ref 130), some (.int (zi (want : Int))), some (.int (zi l2)), some (.int (zi p1)), some (.int (zi p2)), some (.int (zi (yCoN p1 : Nat))), some (.int (zi ((s + 1 : Nat) : Int))), none, none, none, none] [] (zm L I J r) := by
      intro z
      rw [eX12_cover_11, k1]
    have yes : ∀ z : Int32, zX 0 (zCd zT d) zc_X12_cover 10 [some (.ref 130), some (.int (zi (want : Int))), some (.int (zi l2)), some (.int (zi p1)), some (.int (zi p2)), some (.int (zi (yCoN p1 : Nat))), some (.int (zi ((s : Nat) : Int))), some (.int (zi (yUn b 0 s b.1 : Nat))), some (.int (zi (ySm b 1 s b.1))), some (.int (zi (yPc s 10 : Nat))), some (.int z)] [] (zm L I J r) = zX 0 (zCd zT d) zc_X12_cover 5 [some (.ref 130), some (.int (zi (want : Int))), some (.int (zi l2)), some (.int (zi ((s : Nat) : Int))), some (.int (zi (ySm b 1 s b.1))), some (.int (zi (yCoN (s : Int) : Nat))), some (.int (zi ((s + 1 : Nat) : Int))), none, none, none, none] [] (zm L I J r) := by
      intro z
      rw [eX12_cover_10, eX12_cover_11, k1, cn]
    by_cases hu : yUn b 0 s b.1 &&& want = want
    · rw [if_pos ((ySub (by omega)).mpr hu)]
      by_cases q1 : p1 = -1
      · rw [if_pos (d1.mpr q1), if_pos (⟨hu, Or.inl q1⟩ : yUn b 0 s b.1 &&& want = want ∧ (p1 = -1 ∨ ySm b 1 s b.1 < p2 ∨ ySm b 1 s b.1 = p2 ∧ yPc s 10 < yPc p1.toNat 10))]
        exact yes _
      · rw [if_neg (fun w => q1 (d1.mp w))]
        have pn : yCoN p1 = yPc p1.toNat 10 := by
          unfold yCoN
          rw [if_neg q1]
        have pc1 : yPc p1.toNat 10 ≤ 10 := yPc_le 10
        by_cases q2 : p2 < ySm b 1 s b.1
        · rw [if_pos (d2.mpr q2), if_neg (fun w => by rcases w.2 with w | w | w; exact q1 w; omega; omega : ¬ (yUn b 0 s b.1 &&& want = want ∧ (p1 = -1 ∨ ySm b 1 s b.1 < p2 ∨ ySm b 1 s b.1 = p2 ∧ yPc s 10 < yPc p1.toNat 10)))]
          exact no _
        · rw [if_neg (fun w => q2 (d2.mp w))]
          by_cases q3 : ySm b 1 s b.1 = p2
          · rw [if_pos (d3.mpr q3)]
            by_cases q4 : yPc s 10 < yPc p1.toNat 10
            · rw [if_pos (show zi ((yPc s 10 : Nat) : Int) < zi ((yCoN p1 : Nat) : Int) by rw [pn, zi_lt (by omega) (by omega)]; omega), if_pos (⟨hu, Or.inr (Or.inr ⟨q3, q4⟩)⟩ : yUn b 0 s b.1 &&& want = want ∧ (p1 = -1 ∨ ySm b 1 s b.1 < p2 ∨ ySm b 1 s b.1 = p2 ∧ yPc s 10 < yPc p1.toNat 10))]
              exact yes _
            · rw [if_neg (show ¬ zi ((yPc s 10 : Nat) : Int) < zi ((yCoN p1 : Nat) : Int) by rw [pn, zi_lt (by omega) (by omega)]; omega), if_neg (fun w => by rcases w.2 with w | w | w; exact q1 w; omega; exact q4 w.2 : ¬ (yUn b 0 s b.1 &&& want = want ∧ (p1 = -1 ∨ ySm b 1 s b.1 < p2 ∨ ySm b 1 s b.1 = p2 ∧ yPc s 10 < yPc p1.toNat 10)))]
              exact no _
          · rw [if_neg (fun w => q3 (d3.mp w)), if_pos (⟨hu, Or.inr (Or.inl (by omega))⟩ : yUn b 0 s b.1 &&& want = want ∧ (p1 = -1 ∨ ySm b 1 s b.1 < p2 ∨ ySm b 1 s b.1 = p2 ∧ yPc s 10 < yPc p1.toNat 10))]
            exact yes _
    · rw [if_neg (fun w => hu ((ySub (by omega)).mp w)), if_neg (fun w => hu w.1 : ¬ (yUn b 0 s b.1 &&& want = want ∧ (p1 = -1 ∨ ySm b 1 s b.1 < p2 ∨ ySm b 1 s b.1 = p2 ∧ yPc s 10 < yPc p1.toNat 10)))]
      exact no _)
  have z0 : zX 0 (zCd zT d) zc_X12_cover 5 [some (.ref 130), some (.int (zi (want : Int))), some (.int (zi l2)), some (.int (-1)), some (.int 0), some (.int 0), some (.int 0), none, none, none, none] [] (zm L I J r) = _ := c1
  rw [eX12_cover_4, z0, eX12_cover_5, h3, yShl (by omega), if_pos (Int32.le_refl _)]
end
