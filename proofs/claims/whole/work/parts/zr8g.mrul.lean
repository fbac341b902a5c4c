/-! TEXT of THE CONTROLLER: the model reads a TEST -/
def mRw (st : Nat) (I I' : Nat → Nat → Int32) : Prop := ∀ o k, ¬ (o = 130 ∧ 6 ≤ k ∧ k ≤ 12 ∧ k ≠ 8) → ¬ (o = 130 ∧ k = 14) → ¬ (o = 132 ∧ 118 + 2 * st ≤ k) → I' o k = I o k
theorem mRw_tr {st st' : Nat} {I I1 I2 : Nat → Nat → Int32} (hs : st ≤ st') (h : mRw st I I1) (g : mRw st' I1 I2) : mRw st I I2 := fun o k a b c => (g o k a b (by omega)).trans (h o k a b c)
theorem mRw_rf {st : Nat} {I : Nat → Nat → Int32} : mRw st I I := fun _ _ _ _ _ => rfl
theorem mRw_t {st : Nat} {I I' : Nat → Nat → Int32} (h : mFt I I') : mRw st I I' := fun o k a _ _ => h o k a
def mBk (I : Nat → Nat → Int32) (bk : Nat) : Prop := (if (if I 131 0 ≤ 0 then (0 : Int32) else 1) = 0 then (0 : Int32) else I 131 61 + 1) = zi (bk : Int)
theorem mBk_fr {I I' : Nat → Nat → Int32} {bk : Nat} (h0 : I' 131 0 = I 131 0) (h1 : I' 131 61 = I 131 61) (g : mBk I bk) : mBk I' bk := by
  unfold mBk
  rw [h0, h1]
  exact g
theorem mBk_t {I I' : Nat → Nat → Int32} {bk : Nat} (h : mFt I I') (g : mBk I bk) : mBk I' bk := mBk_fr (h 131 0 (by omega)) (h 131 61 (by omega)) g
theorem mBk_r {st : Nat} {I I' : Nat → Nat → Int32} {bk : Nat} (h : mRw st I I') (g : mBk I bk) : mBk I' bk := mBk_fr (h 131 0 (by omega) (by omega) (by omega)) (h 131 61 (by omega) (by omega) (by omega)) g
def mFn (B : Nat → Nat) (n bk L : Nat) (J : Nat → Nat → Int64) (r dep : Nat) (run : (Nat → Nat → Int32) → Option zR) (F : yTkS → yHld) : Prop := ∀ (I : Nat → Nat → Int32) (s : yTkS) (st : Nat), mAt B n I s → mBk I bk → I 130 13 = zi (dep : Int) → I 130 14 = zi (st : Int) → 2 * st ≤ s.2 → ∃ (I' : Nat → Nat → Int32) (st' : Nat), run I = some (none, zm L I' J r) ∧ mAt B n I' (F s).1 ∧ I' 130 14 = zi (st' : Int) ∧ st ≤ st' ∧ 2 * st' + s.2 ≤ 2 * st + (F s).1.2 ∧ ((F s).1.1 = 0 → mE (I' 132) st st' (F s).2) ∧ mRw st I I'
section
variable {d L r : Nat} {I : Nat → Nat → Int32} {J : Nat → Nat → Int64}
variable {B : Nat → Nat} {n bk : Nat}
theorem mAt_n {s : yTkS} (h : mAt B n I s) : s.2 ≤ n := by
  by_cases q : s.1 = 0
  · exact (h.2.1 q).1
  · exact (h.2.2 q).2.1
theorem mAt_0 {s : yTkS} (h : mAt B n I s) (q : s.1 = 0) : I 130 11 = 0 := (h.2.1 q).2.2.1
theorem mEmit (hd : 1 ≤ d) {st : Nat} (hs : st ≤ 249) (h : I 130 14 = zi (st : Int)) (a b : Int32) {s : yTkS} (ha : mAt B n I s) : ∃ I', zCd zT d 264 [.ref 130, .int a, .int b] (zm L I J r) = some (none, (zm L I' J r)) ∧ mAt B n I' s ∧ I' 130 14 = zi ((st + 1 : Nat) : Int) ∧ I' 132 (118 + 2 * st) = a ∧ I' 132 (119 + 2 * st) = b ∧ mRw st I I' ∧ ∀ k, k < 118 + 2 * st → I' 132 k = I 132 k := by
  have k1 : (118 : Int32) + (2 : Int32) * zi (st : Int) = zi ((118 + 2 * st : Nat) : Int) := by
    rw [show (2 : Int32) = zi 2 from rfl, show (118 : Int32) = zi 118 from rfl, zi_mul, zi_add]
    exact congrArg zi (by omega)
  have k2 : zi ((118 + 2 * st : Nat) : Int) + (1 : Int32) = zi ((119 + 2 * st : Nat) : Int) := by
    rw [yZ1]
    exact congrArg zi (by omega)
  rw [sX12_emit hd, h, k1, k2, zin_t (by omega) (by omega), zgd_t, zin_t (by omega) (by omega), zgd_t, zi_cl (by omega), zi_cl (by omega), Int.toNat_natCast, Int.toNat_natCast, yZ1]
  refine ⟨_, rfl, mAt_fr (fun k _ _ => by rw [zu_n (by omega), zu_n (by omega), zu_n (by omega)]) (by rw [zu_o (by decide), zu_o (by decide), zu_o (by decide)]) ha, zu_y ⟨rfl, rfl⟩, ?_, ?_, fun o k x y z => ?_, fun k hk => ?_⟩
  · rw [zu_n (by omega), zu_n (by omega), zu_y ⟨rfl, rfl⟩]
  · rw [zu_n (by omega), zu_y ⟨rfl, rfl⟩]
  · rw [zu_n (by omega), zu_n (by omega), zu_n (by omega)]
  · rw [zu_n (by omega), zu_n (by omega), zu_n (by omega)]
/-- emits if nothing is wrong -/
theorem mEmIf {st : Nat} (hd : 1 ≤ d) (hs : st ≤ 249) (h : I 130 14 = zi (st : Int)) (a b : Int32) {s : yTkS} (ha : mAt B n I s) {K : zM → Option zR} : ∃ (I' : Nat → Nat → Int32) (st' : Nat), (if I 130 11 = 0 then zbV (zCd zT d 264 [.ref 130, .int a, .int b] (zm L I J r)) K else K (zm L I J r)) = K (zm L I' J r) ∧ mAt B n I' s ∧ I' 130 14 = zi (st' : Int) ∧ st ≤ st' ∧ st' ≤ st + 1 ∧ (s.1 = 0 → st' = st + 1 ∧ I' 132 (118 + 2 * st) = a ∧ I' 132 (119 + 2 * st) = b) ∧ mRw st I I' ∧ ∀ k, k < 118 + 2 * st → I' 132 k = I 132 k := by
  by_cases q : I 130 11 = 0
  · obtain ⟨I', c1, c2, c3, c4, c5, c6, c7⟩ := mEmit (d := d) (L := L) (J := J) (r := r) hd hs h a b ha
    rw [if_pos q, c1, zbV_s]
    exact ⟨I', st + 1, rfl, c2, c3, by omega, Nat.le_refl _, fun _ => ⟨rfl, c4, c5⟩, c6, c7⟩
  · rw [if_neg q]
    exact ⟨I, st, rfl, ha, h, Nat.le_refl _, by omega, fun z => absurd (mAt_0 ha z) q, mRw_rf, fun _ _ => rfl⟩
theorem mFrx (hd : 10 ≤ d) (hn : n ≤ 400) (hB : ∀ k, k < n → B k < 256) (hbk : 1 ≤ bk ∧ bk ≤ 6) (l1 : Int32) {s : yTkS} {st : Nat} (ha : mAt B n I s) (hb : mBk I bk) (h14 : I 130 14 = zi (st : Int)) (h2 : 2 * st ≤ s.2) : ∃ (I' : Nat → Nat → Int32) (st' : Nat), zX 2 (zCd zT d) zc_X12_readFact 12 [some (.ref 130), some (.int l1), none] [] (zm L I J r) = some (none, zm L I' J r) ∧ mAt B n I' (yFrx B n bk s).1 ∧ I' 130 14 = zi (st' : Int) ∧ st ≤ st' ∧ 2 * st' + s.2 ≤ 2 * st + (yFrx B n bk s).1.2 ∧ ((yFrx B n bk s).1.1 = 0 → mE (I' 132) st st' (yFrx B n bk s).2) ∧ mRw st I I' := by
  have sn := mAt_n ha
  obtain ⟨I1, c1, c2, c3, c4⟩ := mNeeds (d := d) (L := L) (J := J) (r := r) (by omega) hn hB ha (k := 13) (by decide)
  have c1' : zCd zT d 255 [.ref 130, .int 13] (zm L I J r) = _ := c1
  have hb1 := mBk_t c3 hb
  have s2n := mAt_n c2
  have g1 := yNd_ge (B := B) (k := 13) sn
  obtain ⟨I2, v, d1, d2, d3, d4, d5⟩ := mReads (d := d) (L := L) (J := J) (r := r) (by omega) hn hB c2 (a1 := 0) (a2 := zi ((bk : Int) - 1)) (lo := 0) (hi := (bk : Int) - 1) (fun _ => ⟨rfl, rfl⟩) (by decide) (by omega) true
  have d1' : zCd zT d 256 [.ref 130, .int 0, .int (zi ((bk : Int) - 1)), .int 0] (zm L I1 J r) = _ := d1
  have g2 := yRdN_ge (B := B) (n := n) (s := yNd B n s 13) (lo := 0) (hi := (bk : Int) - 1) (room := true) s2n
  have s3n := mAt_n d2
  have e14 : I2 130 14 = zi (st : Int) := by rw [d3 130 14 (by omega), c3 130 14 (by omega)]; exact h14
  have hb2 : (if (if I1 131 0 ≤ 0 then (0 : Int32) else 1) = 0 then (0 : Int32) else I1 131 61 + 1) = zi (bk : Int) := hb1
  have fr := mFt_tr c3 d3
  have e1 : (yFrx B n bk s).1 = (yRdN B n (yNd B n s 13) 0 ((bk : Int) - 1) true).1 := rfl
  rw [e1]
  rw [eX12_readFact_12, c1', zbV_s, eX12_readFact_13, sX12_blocks (by omega), hb2, zbI_s, eX12_readFact_14, yZm1, d1', zbI_s, eX12_readFact_15]
  rcases yRdN_c (B := B) (n := n) (s := yNd B n s 13) (lo := 0) (hi := (bk : Int) - 1) (room := true) with c | c
  · rw [if_neg (fun z => d4.mp z c.1), eX12_readFact_16]
    exact ⟨I2, st, rfl, d2, e14, Nat.le_refl _, by omega, fun z => absurd z c.2, mRw_t fr⟩
  · obtain ⟨b, hbe⟩ := yNat c.2.2.2.2.1
    have hb1 := c.1
    have hb6 := c.2.2.2.2.2.1
    have s13 := yNd_s (B := B) (n := n) (s := s) (k := 13) (by decide) (fun _ => sn) c.2.1
    have ea : yNd B n s 13 = yAdv B n s := by
      unfold yNd
      rw [if_pos (yZb.mpr ⟨s13.1, s13.2.1⟩)]
    have p2 := yAdv_g2 (B := B) s13.1 sn (by rw [s13.2.1]; decide)
    rw [← ea] at p2
    have st249 : st ≤ 249 := by omega
    obtain ⟨I3, f1, f2, f3, f4, f5, f6, f7⟩ := mEmit (d := d) (L := L) (J := J) (r := r) (by omega) st249 e14 13 v d2
    have vb : v = zi (b : Int) := by rw [d5 c.1, hbe]
    rw [if_pos (d4.mpr c.1), f1, zbV_s, eX12_readFact_16]
    refine ⟨I3, st + 1, rfl, f2, f3, by omega, by omega, fun _ => ?_, mRw_tr (Nat.le_refl _) (mRw_t fr) f6⟩
    rw [hbe] at hb1 hb6
    have he : (yFrx B n bk s).2 = fun i => i.testBit b := by
      funext i
      show (if (yRdN B n (yNd B n s 13) 0 ((bk : Int) - 1) true).2 = -1 then false else i.testBit (yRdN B n (yNd B n s 13) 0 ((bk : Int) - 1) true).2.toNat) = _
      rw [hbe, if_neg hb1, Int.toNat_natCast]
    rw [he]
    refine mE_0 fun i stk => ?_
    rw [f4, f5, vb]
    exact yOp13 (by omega)
end
