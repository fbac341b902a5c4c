/-! TEXT of THE CONTROLLER: the model reads it -/
theorem yLpo_f {B : Nat → Nat} {n k : Nat} {op : Bool → Bool → Bool} {F : yTkS → yHld} {z : yHld} (h : z.1.1 ≠ 0) : ∀ f, yLpo B n k op F f z = z
  | 0 => rfl
  | f + 1 => by rw [yLpo, if_neg (show ¬ yIsK B n z.1 k = true by rw [yIsK_f h]; decide)]
theorem yFac_f {B : Nat → Nat} {n bk q : Nat} {s : yTkS} (h : s.1 ≠ 0) : (yFac B n bk q s).1 = s := by
  rw [yFac_o (yIsK_f h) (yIsK_f h), yFrx_f h]
theorem yTes_f {B : Nat → Nat} {n : Nat} {F : yTkS → yHld} {s : yTkS} (hF : (F s).1 = s) (h : s.1 ≠ 0) : (yTes B n F s).1 = s := by
  have a : yPar B n F s = F s := yLpo_f (by rw [hF]; exact h) 400
  have b : yTes B n F s = yPar B n F s := yLpo_f (z := yPar B n F s) (by rw [a, hF]; exact h) 400
  rw [b, a, hF]
theorem yRt_f {B : Nat → Nat} {n bk : Nat} {s : yTkS} {u : yRl} (h : (yRu1 B n s u).1 ≠ 0) : (yRt B n bk s u).1 = yRu1 B n s u := by
  have a : (yRq B n bk s u).1 = yRu1 B n s u := by
    unfold yRq
    rw [yNd_f h, yRdN_f h]
  unfold yRt
  rw [a, yNd_f h]
  exact yTes_f (yFac_f h) h
def mRu (I : Nat → Nat → Int32) (u : yRl) (st : Nat) : Prop := I 132 81 = zi (u.1 : Int) ∧ ∀ k, k < u.1 → I 132 (82 + k) = zi (u.2.1 k : Int) ∧ ∃ fr m : Nat, I 132 (94 + k) = zi (fr : Int) ∧ I 132 (106 + k) = zi ((fr + m : Nat) : Int) ∧ fr + m ≤ st ∧ ∀ s, s < 64 → zPl (I 132) s fr m [] = some [u.2.2 k s]
def mQw (I I' : Nat → Nat → Int32) : Prop := ∀ o k, ¬ (o = 130 ∧ 6 ≤ k ∧ k ≤ 12 ∧ k ≠ 8) → ¬ (o = 130 ∧ k = 14) → ¬ (o = 132 ∧ 81 ≤ k) → I' o k = I o k
theorem mQw_tr {I I1 I2 : Nat → Nat → Int32} (h : mQw I I1) (g : mQw I1 I2) : mQw I I2 := fun o k a b c => (g o k a b c).trans (h o k a b c)
theorem mQw_rf {I : Nat → Nat → Int32} : mQw I I := fun _ _ _ _ _ => rfl
theorem mQw_t {I I' : Nat → Nat → Int32} (h : mFt I I') : mQw I I' := fun o k a _ _ => h o k a
theorem mQw_r {st : Nat} {I I' : Nat → Nat → Int32} (h : mRw st I I') : mQw I I' := fun o k a b c => h o k a b (by omega)
section
variable {d L r : Nat} {I : Nat → Nat → Int32} {J : Nat → Nat → Int64}
variable {B : Nat → Nat} {n bk : Nat}
theorem mRul (hd : 40 ≤ d) (hn : n ≤ 400) (hB : ∀ k, k < n → B k < 256) (hbk : 1 ≤ bk ∧ bk ≤ 6) {x : yRuX} {st : Nat} (ha : mAt B n I x.1) (hu : x.1.1 = 0 → mRu I x.2 st) (hb : mBk I bk) (h13 : I 130 13 = 0) (h14 : I 130 14 = zi (st : Int)) (h2 : 2 * st ≤ x.1.2) (hu2 : x.2.1 ≤ 12) : ∃ (I' : Nat → Nat → Int32) (st' : Nat), zCd zT d 268 [.ref 130] (zm L I J r) = some (none, (zm L I' J r)) ∧ mAt B n I' (yRl1 B n bk x).1 ∧ I' 130 14 = zi (st' : Int) ∧ 2 * st' ≤ (yRl1 B n bk x).1.2 ∧ ((yRl1 B n bk x).1.1 = 0 → mRu I' (yRl1 B n bk x).2 st') ∧ mQw I I' ∧ (x.1.1 ≠ 0 → ¬ I' 130 11 = 0) := by
  obtain ⟨e, rfl⟩ : ∃ e, d = e + 1 := ⟨d - 1, by omega⟩
  have sn := mAt_n ha
  have is : zCd zT e 253 [.ref 130, .int 8] (zm L I J r) = some (some (.int (zb1 (yIsK B n x.1 8))), (zm L I J r)) := mIsK (by omega) ha (k := 8) (by decide)
  rw [qX12_readRule, eX12_readRule_0, is, zbI_s, eX12_readRule_1, yRl1_1, yRl1_2]
  -- the lost ones
  have lost : ∀ I1 : Nat → Nat → Int32, mAt B n I1 (yRu1 B n x.1 x.2) → (¬ I1 130 11 = 0) → (yRu1 B n x.1 x.2).1 ≠ 0 → mFt I I1 → x.1.2 ≤ (yRu1 B n x.1 x.2).2 → ∀ l1, ∃ (I' : Nat → Nat → Int32) (st' : Nat), zX 2 (zCd zT e) zc_X12_readRule 3 [some (.ref 130), some (.int l1), none, none] [] (zm L I1 J r) = some (none, (zm L I' J r)) ∧ mAt B n I' (yNd B n (yRl0 B n bk x).1 16) ∧ I' 130 14 = zi (st' : Int) ∧ 2 * st' ≤ (yNd B n (yRl0 B n bk x).1 16).2 ∧ ((yNd B n (yRl0 B n bk x).1 16).1 = 0 → mRu I' (yRl0 B n bk x).2 st') ∧ mQw I I' ∧ (x.1.1 ≠ 0 → ¬ I' 130 11 = 0) := by
    intro I1 a1 a2 a3 a4 a5 l1
    have e1 : (yRl0 B n bk x).1 = yRu1 B n x.1 x.2 := yRt_f a3
    rw [e1, yNd_f a3, eX12_readRule_3, if_neg a2]
    exact ⟨I1, st, rfl, a1, (a4 130 14 (by omega)).trans h14, by omega, fun z => absurd z a3, mQw_t a4, fun _ => a2⟩
  have fin4 : ∀ I1 : Nat → Nat → Int32, mAt B n I1 (yRu1 B n x.1 x.2) → (¬ I1 130 11 = 0) → (yRu1 B n x.1 x.2).1 ≠ 0 → mFt I I1 → x.1.2 ≤ (yRu1 B n x.1 x.2).2 → ∃ (I' : Nat → Nat → Int32) (st' : Nat), zX 2 (zCd zT e) zc_X12_readRule 2 [some (.ref 130), none, none, none] [] (zm L I1 J r) = some (none, (zm L I' J r)) ∧ mAt B n I' (yNd B n (yRl0 B n bk x).1 16) ∧ I' 130 14 = zi (st' : Int) ∧ 2 * st' ≤ (yNd B n (yRl0 B n bk x).1 16).2 ∧ ((yNd B n (yRl0 B n bk x).1 16).1 = 0 → mRu I' (yRl0 B n bk x).2 st') ∧ mQw I I' ∧ (x.1.1 ≠ 0 → ¬ I' 130 11 = 0) := by
    intro I1 a1 a2 a3 a4 a5
    rw [eX12_readRule_2]
    by_cases z : I1 132 81 = (12 : Int32)
    · obtain ⟨I2, c1, c2, c3, c4⟩ := mFails (d := e) (L := L) (J := J) (r := r) (by omega) a1 (f := 4) (by decide)
      have c1' : zCd zT e 252 [.ref 130, .int 4] (zm L I1 J r) = _ := c1
      rw [yFa_f a3] at c2
      rw [if_pos z, c1', zbV_s]
      exact lost I2 c2 c4 a3 (mFt_tr a4 c3) a5 _
    · rw [if_neg z]
      exact lost I1 a1 a2 a3 a4 a5 _
  cases g : yIsK B n x.1 8
  · have ge := yFa_ge (B := B) (f := 2) sn
    have e1 : yRu1 B n x.1 x.2 = yFa B n x.1 2 := by
      unfold yRu1
      rw [g, if_neg (by decide)]
    obtain ⟨I1, c1, c2, c3, c4⟩ := mFails (d := e) (L := L) (J := J) (r := r) (by omega) ha (f := 2) (by decide)
    have c1' : zCd zT e 252 [.ref 130, .int 2] (zm L I J r) = _ := c1
    rw [if_pos (show zb1 false = 0 by decide), c1', zbV_s]
    exact fin4 I1 (by rw [e1]; exact c2) c4 (by rw [e1]; exact yFa_n (by decide)) c3 (by rw [e1]; exact ge)
  · have gg := yZb.mp g
    have hu1 := hu gg.1
    obtain ⟨u1, u2⟩ := hu1
    have i12 : zi (x.2.1 : Int) = (12 : Int32) ↔ x.2.1 = 12 := yEq (b := 12) (by omega) (by decide)
    rw [if_neg (show ¬ zb1 true = 0 by decide)]
    by_cases q : 12 ≤ x.2.1
    · have ge := yFa_ge (B := B) (f := 4) sn
      have e1 : yRu1 B n x.1 x.2 = yFa B n x.1 4 := by
        unfold yRu1
        rw [g, if_pos rfl, if_pos q]
      obtain ⟨I1, c1, c2, c3, c4⟩ := mFails (d := e) (L := L) (J := J) (r := r) (by omega) ha (f := 4) (by decide)
      have c1' : zCd zT e 252 [.ref 130, .int 4] (zm L I J r) = _ := c1
      rw [eX12_readRule_2, u1, if_pos (i12.mpr (by omega)), c1', zbV_s]
      exact lost I1 (by rw [e1]; exact c2) c4 (by rw [e1]; exact yFa_n (by decide)) c3 (by rw [e1]; exact ge) _
    · have e1 : yRu1 B n x.1 x.2 = x.1 := by
        unfold yRu1
        rw [g, if_pos rfl, if_neg q]
      have e2 : yNd B n (yRu1 B n x.1 x.2) 8 = yAdv B n x.1 := by
        rw [e1]
        unfold yNd
        rw [g, if_pos rfl]
      have p2 := yAdv_g2 (B := B) gg.1 sn (by rw [gg.2]; decide)
      obtain ⟨I2, c1, c2, c3, c4⟩ := mNextA (d := e) (L := L) (J := J) (r := r) (by omega) hn hB ha gg.1
      have hb2 : (if (if I2 131 0 ≤ 0 then (0 : Int32) else 1) = 0 then (0 : Int32) else I2 131 61 + 1) = zi (bk : Int) := mBk_t c3 hb
      obtain ⟨I3, v, d1, d2, d3, d4, d5⟩ := mReads (d := e) (L := L) (J := J) (r := r) (by omega) hn hB c2 (a1 := 0) (a2 := zi ((bk : Int) - 1)) (lo := 0) (hi := (bk : Int) - 1) (fun _ => ⟨rfl, rfl⟩) (by decide) (by omega) true
      have d1' : zCd zT e 256 [.ref 130, .int 0, .int (zi ((bk : Int) - 1)), .int 0] (zm L I2 J r) = _ := d1
      have eq : yRdN B n (yAdv B n x.1) 0 ((bk : Int) - 1) true = yRq B n bk x.1 x.2 := by
        unfold yRq
        rw [e2]
      rw [eq] at d2 d4 d5
      have s2n := mAt_n c2
      have ge3 := yRdN_ge (B := B) (n := n) (s := yAdv B n x.1) (lo := 0) (hi := (bk : Int) - 1) (room := true) s2n
      rw [eq] at ge3
      have s3n := mAt_n d2
      obtain ⟨I4, f1, f2, f3, f4⟩ := mNeeds (d := e) (L := L) (J := J) (r := r) (by omega) hn hB d2 (k := 9) (by decide)
      have f1' : zCd zT e 255 [.ref 130, .int 9] (zm L I3 J r) = _ := f1
      have ge4 := yNd_ge (B := B) (n := n) (s := (yRq B n bk x.1 x.2).1) (k := 9) s3n
      have fr4 : mFt I I4 := mFt_tr c3 (mFt_tr d3 f3)
      have hst : ∀ s : yTkS, s.2 ≤ n → (yFac B n bk 8 s).1.1 = 0 → s.2 < (yFac B n bk 8 s).1.2 := fun s a b => yFac_st 8 a b
      have hp : mFn B n bk L J r (8 - 8) (fun I => zCd zT (e - 1) 266 [.ref 130] (zm L I J r)) (yPar B n (yFac B n bk 8)) := mPar (d := e - 1) (by omega) hn hB (mFac hn hB hbk 8 (e - 1 - 1) (by omega) (by omega)) hst
      have ht := mTes (d := e) (by omega) hn hB hp (yPar_st (yFac_m 8) hst)
      have i14 : I4 130 14 = zi (st : Int) := (fr4 130 14 (by omega)).trans h14
      obtain ⟨I5, st5, g1, g2, g3, g4, g5, g6, g7⟩ := ht I4 (yNd B n (yRq B n bk x.1 x.2).1 9) st f2 (mBk_t fr4 hb) ((fr4 130 13 (by omega)).trans h13) i14 (by omega)
      have g1' : zCd zT e 265 [.ref 130] (zm L I4 J r) = some (none, (zm L I5 J r)) := g1
      have g2' : mAt B n I5 (yRt B n bk x.1 x.2).1 := g2
      have g5' : 2 * st5 + (yNd B n (yRq B n bk x.1 x.2).1 9).2 ≤ 2 * st + (yRt B n bk x.1 x.2).1.2 := g5
      have g6' : (yRt B n bk x.1 x.2).1.1 = 0 → mE (I5 132) st st5 (yRt B n bk x.1 x.2).2 := g6
      have s5n := mAt_n g2'
      obtain ⟨I6, k1, k2, k3, k4⟩ := mNeeds (d := e) (L := L) (J := J) (r := r) (by omega) hn hB g2' (k := 16) (by decide)
      have k1' : zCd zT e 255 [.ref 130, .int 16] (zm L I5 J r) = _ := k1
      have ge6 := yNd_ge (B := B) (n := n) (s := (yRt B n bk x.1 x.2).1) (k := 16) s5n
      have i614 : I6 130 14 = zi (st5 : Int) := (k3 130 14 (by omega)).trans g3
      have el : (yRl0 B n bk x).1 = (yRt B n bk x.1 x.2).1 := rfl
      have low : ∀ k, k < 118 + 2 * st → I6 132 k = I 132 k := fun k hk => by rw [k3 132 k (by omega), g7 132 k (by omega) (by omega) (by omega), fr4 132 k (by omega)]
      have fr6 : mQw I I6 := mQw_tr (mQw_t fr4) (mQw_tr (mQw_r g7) (mQw_t k3))
      rw [eX12_readRule_2, u1, if_neg (fun z => q (by have := i12.mp z; omega)), eX12_readRule_3, if_pos (mAt_0 ha gg.1), eX12_readRule_4, c1, zbV_s, eX12_readRule_5, sX12_blocks (by omega), hb2, zbI_s, eX12_readRule_6, yZm1, d1', zbI_s, eX12_readRule_7, f1', zbV_s, eX12_readRule_8, i14, g1', zbV_s, eX12_readRule_9, k1', zbV_s, eX12_readRule_10, el]
      by_cases w : I6 130 11 = 0
      · have b82 : (82 : Int32) + zi (x.2.1 : Int) = zi ((82 + x.2.1 : Nat) : Int) := (zi_add 82 _).trans (congrArg zi (by omega))
        have b94 : (94 : Int32) + zi (x.2.1 : Int) = zi ((94 + x.2.1 : Nat) : Int) := (zi_add 94 _).trans (congrArg zi (by omega))
        have b106 : (106 : Int32) + zi (x.2.1 : Int) = zi ((106 + x.2.1 : Nat) : Int) := (zi_add 106 _).trans (congrArg zi (by omega))
        have l81 : I6 132 81 = zi (x.2.1 : Int) := (low 81 (by omega)).trans u1
        rw [if_pos w, eX12_readRule_11, b82, b94, b106, zin_t (by omega) (by omega), zgd_t, zin_t (by omega) (by omega), zgd_t, zin_t (by omega) (by omega), zgd_t, zi_cl (by omega), zi_cl (by omega), zi_cl (by omega), Int.toNat_natCast, Int.toNat_natCast, Int.toNat_natCast, zu_n (show ¬ ((132 : Nat) = 132 ∧ 81 = 106 + x.2.1) by omega), zu_n (show ¬ ((132 : Nat) = 132 ∧ 81 = 94 + x.2.1) by omega), zu_n (show ¬ ((132 : Nat) = 132 ∧ 81 = 82 + x.2.1) by omega), l81, yZ1, i614]
        have up : ∀ k, 118 ≤ k → zu (zu (zu (zu I6 132 (82 + x.2.1) v) 132 (94 + x.2.1) (zi (st : Int))) 132 (106 + x.2.1) (zi (st5 : Int))) 132 81 (zi ((x.2.1 + 1 : Nat) : Int)) 132 k = I6 132 k := fun k hk => by rw [zu_n (by omega), zu_n (by omega), zu_n (by omega), zu_n (by omega)]
        refine ⟨_, st5, rfl, mAt_fr (fun k _ _ => by rw [zu_n (by omega), zu_n (by omega), zu_n (by omega), zu_n (by omega)]) (by rw [zu_o (by decide), zu_o (by decide), zu_o (by decide), zu_o (by decide)]) k2, ?_, by omega, fun z => ?_, mQw_tr fr6 (fun o k a b c => by rw [zu_n (by omega), zu_n (by omega), zu_n (by omega), zu_n (by omega)]), fun z => absurd gg.1 z⟩
        · rw [zu_n (by omega), zu_n (by omega), zu_n (by omega), zu_n (by omega)]
          exact i614
        · have z2 := (yNd_m (B := B) (n := n) (s := (yRt B n bk x.1 x.2).1) (k := 16) z).1
          have sd := yRt_s z2
          have e3 : (yRl0 B n bk x).2 = yAdR x.2 (yRq B n bk x.1 x.2).2.toNat (yRt B n bk x.1 x.2).2 := if_pos z2
          have tk := sd.2.2.2.2.1
          have vb : v = zi (((yRq B n bk x.1 x.2).2.toNat : Nat) : Int) := by
            rw [d5 tk]
            exact congrArg zi (by have := sd.2.2.2.2.2.1; omega)
          rw [e3]
          refine ⟨zu_y ⟨rfl, rfl⟩, fun k hk => ?_⟩
          have hk' : k < x.2.1 + 1 := hk
          show _ = zi (((if k = x.2.1 then (yRq B n bk x.1 x.2).2.toNat else x.2.2.1 k : Nat)) : Int) ∧ ∃ fr m : Nat, _ ∧ _ ∧ _ ∧ ∀ s, s < 64 → _ = some [if k = x.2.1 then (yRt B n bk x.1 x.2).2 s else x.2.2.2 k s]
          by_cases y : k = x.2.1
          · rw [y, if_pos rfl, zu_n (by omega), zu_n (by omega), zu_n (by omega), zu_y ⟨rfl, rfl⟩]
            refine ⟨vb, st, st5 - st, ?_, ?_, by omega, fun s hs => ?_⟩
            · rw [zu_n (by omega), zu_n (by omega), zu_y ⟨rfl, rfl⟩]
            · rw [zu_n (by omega), zu_y ⟨rfl, rfl⟩, show st + (st5 - st) = st5 by omega]
            · rw [if_pos rfl, zPl_c (g' := I5 132) (st5 - st) st [] (fun k a b => by rw [up k (by omega), k3 132 k (by omega)])]
              exact g6' z2 s hs []
          · obtain ⟨x1, fr, m, x2, x3, x4, x5⟩ := u2 k (by omega)
            rw [if_neg y, zu_n (by omega), zu_n (by omega), zu_n (by omega), zu_n (by omega), low (82 + k) (by omega)]
            refine ⟨x1, fr, m, ?_, ?_, by omega, fun s hs => ?_⟩
            · rw [zu_n (by omega), zu_n (by omega), zu_n (by omega), zu_n (by omega), low (94 + k) (by omega)]
              exact x2
            · rw [zu_n (by omega), zu_n (by omega), zu_n (by omega), zu_n (by omega), low (106 + k) (by omega)]
              exact x3
            · rw [if_neg y, zPl_c (g' := I 132) m fr [] (fun k a b => by rw [up k (by omega), low k (by omega)])]
              exact x5 s hs
      · rw [if_neg w]
        exact ⟨I6, st5, rfl, k2, i614, by omega, fun z => absurd (mAt_0 k2 z) w, fr6, fun z => absurd gg.1 z⟩
theorem mRlsL (hd : 40 ≤ d) (hn : n ≤ 400) (hB : ∀ k, k < n → B k < 256) (hbk : 1 ≤ bk ∧ bk ≤ 6) (l2 l3 : Int32) : ∀ (f : Nat) (I : Nat → Nat → Int32) (x : yRuX) (st : Nat), (x.1.1 = 0 → 12 < f + x.2.1) → mAt B n I x.1 → (x.1.1 = 0 → mRu I x.2 st) → mBk I bk → I 130 13 = 0 → I 130 14 = zi (st : Int) → 2 * st ≤ x.1.2 → x.2.1 ≤ 12 → ∃ (I' : Nat → Nat → Int32) (st' : Nat), zX 0 (zCd zT d) zc_X12_text 11 [some (.ref 130), some (.int 1), some (.int l2), some (.int l3)] [] (zm L I J r) = zX 0 (zCd zT d) zc_X12_text 15 [some (.ref 130), some (.int 1), some (.int l2), some (.int l3)] [] (zm L I' J r) ∧ mAt B n I' (yRls B n bk f x).1 ∧ st' ≤ 200 ∧ ((yRls B n bk f x).1.1 = 0 → mRu I' (yRls B n bk f x).2 st') ∧ mQw I I' ∧ ((yRls B n bk f x).1.1 ≠ 0 → ¬ I' 130 11 = 0) := by
  intro f
  induction f with
  | zero =>
    intro I x st hf ha hu hb h13 h14 h2 hu2
    have sn := mAt_n ha
    have nf : x.1.1 ≠ 0 := fun z => by
      have := hf z
      omega
    obtain ⟨b1, b2, b3⟩ := ha.2.2 nf
    rw [yRls]
    rcases b3 with ⟨b4, b5⟩ | ⟨b4, b5, b6, b7⟩
    · have n11 : ¬ I 130 11 = 0 := by rw [b4]; exact yNe0 (by omega) nf
      rw [eX12_text_11, if_neg n11]
      exact ⟨I, st, rfl, ha, by omega, fun z => absurd z nf, mQw_rf, fun _ => n11⟩
    · obtain ⟨I1, st1, c1, c2, c3, c4, c5, c6, c7⟩ := mRul (d := d) (L := L) (J := J) (r := r) hd hn hB hbk ha hu hb h13 h14 h2 hu2
      have ru : yRu1 B n x.1 x.2 = x.1 := by
        unfold yRu1
        rw [yIsK_f nf, if_neg (by decide), yFa_f nf]
      have e1 : (yRl1 B n bk x).1 = x.1 := by
        have e0 : (yRl0 B n bk x).1 = x.1 := (yRt_f (by rw [ru]; exact nf)).trans ru
        rw [yRl1_1, e0, yNd_f nf]
      rw [e1] at c2 c4
      rw [eX12_text_11, if_pos b5, b6, if_neg (show ¬ (20 : Int32) = 19 by decide), if_neg (show ¬ (1 : Int32) = 0 by decide), eX12_text_13, c1, zbV_s, eX12_text_14, eX12_text_11, if_neg (c7 nf)]
      exact ⟨I1, st1, rfl, c2, by omega, fun z => absurd z nf, c6, fun _ => c7 nf⟩
  | succ f ih =>
    intro I x st hf ha hu hb h13 h14 h2 hu2
    have sn := mAt_n ha
    by_cases nf : x.1.1 = 0
    · obtain ⟨a1, a2, a3, a4, a5, a6, a7⟩ := ha.2.1 nf
      have kb := yK_b (B := B) (n := n) (p := x.1.2)
      have i19 : zi (yK B n x.1.2 : Int) = (19 : Int32) ↔ yK B n x.1.2 = 19 := yEq (b := 19) (by omega) (by decide)
      rw [eX12_text_11, if_pos a3, a6, yRls]
      by_cases q : yK B n x.1.2 = 19
      · rw [if_pos (i19.mpr q), if_neg (fun z => z.2 q)]
        exact ⟨I, st, rfl, ha, by omega, hu, mQw_rf, fun z => absurd nf z⟩
      · obtain ⟨I1, st1, c1, c2, c3, c4, c5, c6, c7⟩ := mRul (d := d) (L := L) (J := J) (r := r) hd hn hB hbk ha hu hb h13 h14 h2 hu2
        have hl : (yRl1 B n bk x).2.1 ≤ 12 := by
          rw [yRl1_2]
          exact yRl0_u hu2
        have hf1 : (yRl1 B n bk x).1.1 = 0 → 12 < f + (yRl1 B n bk x).2.1 := fun z => by
          rw [yRl1_1] at z
          have z2 : (yRt B n bk x.1 x.2).1.1 = 0 := (yNd_m (B := B) (n := n) (s := (yRl0 B n bk x).1) (k := 16) z).1
          have e3 : (yRl0 B n bk x).2 = yAdR x.2 (yRq B n bk x.1 x.2).2.toNat (yRt B n bk x.1 x.2).2 := if_pos z2
          rw [yRl1_2, e3]
          have := hf nf
          show 12 < f + (x.2.1 + 1)
          omega
        obtain ⟨I2, st2, e1, e2, e3, e4, e5, e6⟩ := ih I1 (yRl1 B n bk x) st1 hf1 c2 c5 (mBk_fr (c6 131 0 (by omega) (by omega) (by omega)) (c6 131 61 (by omega) (by omega) (by omega)) hb) ((c6 130 13 (by omega) (by omega) (by omega)).trans h13) c3 c4 hl
        rw [if_neg (fun z => q (i19.mp z)), if_neg (show ¬ (1 : Int32) = 0 by decide), eX12_text_13, c1, zbV_s, eX12_text_14, if_pos ⟨nf, q⟩]
        exact ⟨I2, st2, e1, e2, e3, e4, mQw_tr c6 e5, e6⟩
    · obtain ⟨b1, b2, b3⟩ := ha.2.2 nf
      rw [yRls, if_neg (fun z => nf z.1)]
      rcases b3 with ⟨b4, b5⟩ | ⟨b4, b5, b6, b7⟩
      · have n11 : ¬ I 130 11 = 0 := by rw [b4]; exact yNe0 (by omega) nf
        rw [eX12_text_11, if_neg n11]
        exact ⟨I, st, rfl, ha, by omega, fun z => absurd z nf, mQw_rf, fun _ => n11⟩
      · obtain ⟨I1, st1, c1, c2, c3, c4, c5, c6, c7⟩ := mRul (d := d) (L := L) (J := J) (r := r) hd hn hB hbk ha hu hb h13 h14 h2 hu2
        have ru : yRu1 B n x.1 x.2 = x.1 := by
          unfold yRu1
          rw [yIsK_f nf, if_neg (by decide), yFa_f nf]
        have e1 : (yRl1 B n bk x).1 = x.1 := by
          have e0 : (yRl0 B n bk x).1 = x.1 := (yRt_f (by rw [ru]; exact nf)).trans ru
          rw [yRl1_1, e0, yNd_f nf]
        rw [e1] at c2 c4
        rw [eX12_text_11, if_pos b5, b6, if_neg (show ¬ (20 : Int32) = 19 by decide), if_neg (show ¬ (1 : Int32) = 0 by decide), eX12_text_13, c1, zbV_s, eX12_text_14, eX12_text_11, if_neg (c7 nf)]
        exact ⟨I1, st1, rfl, c2, by omega, fun z => absurd z nf, c6, fun _ => c7 nf⟩
end
