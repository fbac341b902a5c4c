/-! FEED -/
def yBy (v : Int32) (j : Nat) : Nat := (zus v (zi ((24 - 8 * j : Nat) : Int)) &&& 255).toBitVec.toNat
theorem yBy_c {v : Int32} {j : Nat} : zus v (zi ((24 - 8 * j : Nat) : Int)) &&& (255 : Int32) = zi ((yBy v j : Nat) : Int) ∧ yBy v j < 256 := by
  have h1 : yBy v j < 256 := by
    unfold yBy
    rw [Int32.toBitVec_and, BitVec.toNat_and]
    have : (zus v (zi ((24 - 8 * j : Nat) : Int))).toBitVec.toNat &&& (255 : Int32).toBitVec.toNat ≤ (255 : Int32).toBitVec.toNat := Nat.and_le_right
    have h2 : (255 : Int32).toBitVec.toNat = 255 := rfl
    omega
  exact ⟨yBi (by omega) rfl, h1⟩
theorem yBy_m {v : Int32} {s : Nat} (hs : s ≤ 24) : (v >>> (zi (s : Int) &&& 31)) &&& (255 : Int32) = zus v (zi (s : Int)) &&& (255 : Int32) := by
  have hm : ∀ k : Fin 32, (BitVec.ofNat 32 k.1).smod 32 = BitVec.ofNat 32 k.1 := by decide +kernel
  have h1 : (BitVec.ofNat 32 s).smod 32 = BitVec.ofNat 32 s := hm ⟨s, by omega⟩
  have m255 : (255 : Int32).toBitVec = BitVec.ofNat 32 255 := by decide
  have hb : ∀ i, (255 : Nat).testBit i = decide (i < 8) := fun i => Nat.testBit_two_pow_sub_one 8 i
  have hn : (zus v (zi (s : Int))).toBitVec.toNat = v.toBitVec.toNat >>> s := by
    have e1 : (zi (s : Int)).toUInt32 &&& Int32.toUInt32 31 = (zi (s : Int)).toUInt32 := congrArg Int32.toUInt32 (y31 (n := s) (by omega))
    unfold zus
    rw [e1]
    show (v.toUInt32 >>> (zi (s : Int)).toUInt32).toNat = _
    rw [UInt32.toNat_shiftRight]
    show v.toBitVec.toNat >>> ((zi (s : Int)).toBitVec.toNat % 32) = _
    rw [yBn (by omega), Nat.mod_eq_of_lt (by omega)]
  refine Int32.toBitVec_inj.mp (BitVec.eq_of_getLsbD_eq fun i hi => ?_)
  rw [y31 (by omega), Int32.toBitVec_and, Int32.toBitVec_and, Int32.toBitVec_shiftRight, yBv, h1, m255, BitVec.getLsbD_and, BitVec.getLsbD_and, BitVec.getLsbD_ofNat, hb]
  by_cases w : i < 8
  · have e2 : (zus v (zi (s : Int))).toBitVec.getLsbD i = v.toBitVec.getLsbD (s + i) := by
      show (zus v (zi (s : Int))).toBitVec.toNat.testBit i = v.toBitVec.toNat.testBit (s + i)
      rw [hn, Nat.testBit_shiftRight]
    have e3 : (BitVec.sshiftRight v.toBitVec (BitVec.ofNat 32 s).toNat).getLsbD i = v.toBitVec.getLsbD (s + i) := by
      rw [BitVec.getLsbD_sshiftRight, BitVec.toNat_ofNat, Nat.mod_eq_of_lt (show s < 2 ^ 32 by omega), decide_eq_false (show ¬ 32 ≤ i by omega), Bool.not_false, Bool.true_and, if_pos (by omega)]
    have e4 : (v.toBitVec.sshiftRight' (BitVec.ofNat 32 s)).getLsbD i = v.toBitVec.getLsbD (s + i) := e3
    rw [e2]
    show ((v.toBitVec.sshiftRight' (BitVec.ofNat 32 s)).getLsbD i && _) = _
    rw [e4]
  · rw [decide_eq_false w, Bool.and_false, Bool.and_false, Bool.and_false]
section
variable {d L r : Nat} {I : Nat → Nat → Int32} {J : Nat → Nat → Int64}
theorem cFour (hd : 1 ≤ d) {v : Int32} {T : Nat} (hT : T + 4 ≤ 400) (h4 : I 17 4 = zi (T : Int)) : ∃ I', zCd zT d 78 [.ref 17, .int v] (zm L I J r) = some (none, (zm L I' J r)) ∧ I' 17 4 = zi ((T + 4 : Nat) : Int) ∧ (∀ k, k < T → I' 18 k = I 18 k) ∧ (∀ j, j < 4 → I' 18 (T + j) = zi ((yBy v j : Nat) : Int)) ∧ (∀ o, o ≠ 17 → o ≠ 18 → I' o = I o) ∧ ∀ k, k ≠ 4 → I' 17 k = I 17 k := by
  obtain ⟨e, rfl⟩ : ∃ e, d = e + 1 := ⟨d - 1, by omega⟩
  obtain ⟨m, c1, c2⟩ := zForI (n := 4) (M := Nat → Nat → Int32) (G := fun j m => zX 2 (zCd zT e) zc_X8_addFour 1 [some (.ref 17), some (.int v), some (.int (zi (24 - 8 * ((j : Nat) : Int))))] [] (zm L m J r)) (P := fun j m => m 17 4 = zi ((T + j : Nat) : Int) ∧ (∀ k, k < T → m 18 k = I 18 k) ∧ (∀ i, i < j → m 18 (T + i) = zi ((yBy v i : Nat) : Int)) ∧ (∀ o, o ≠ 17 → o ≠ 18 → m o = I o) ∧ ∀ k, k ≠ 4 → m 17 k = I 17 k) (fun j m hj hm => by
    have k1 : zi (24 - 8 * ((j : Nat) : Int)) + (-8 : Int32) = zi (24 - 8 * ((j + 1 : Nat) : Int)) := by
      rw [show (-8 : Int32) = zi (-8) from rfl, zi_add]
      exact congrArg zi (by omega)
    have k2 : zi (24 - 8 * ((j : Nat) : Int)) = zi ((24 - 8 * j : Nat) : Int) := congrArg zi (by omega)
    have k3 : zi ((T + j : Nat) : Int) + (1 : Int32) = zi ((T + (j + 1) : Nat) : Int) := (zi_add _ 1).trans rfl
    have by1 := (yBy_c (v := v) (j := j)).1
    rw [eX8_addFour_1, if_neg (show ¬ zi (24 - 8 * ((j : Nat) : Int)) < (0 : Int32) by rw [show (0 : Int32) = zi 0 from rfl, zi_lt (by omega) (by decide)]; omega), hm.1, if_neg (show ¬ zi ((T + j : Nat) : Int) < (0 : Int32) by rw [show (0 : Int32) = zi 0 from rfl, zi_lt (by omega) (by decide)]; omega), if_neg (show ¬ (400 : Int32) ≤ zi ((T + j : Nat) : Int) by rw [show (400 : Int32) = zi 400 from rfl, zi_le (by decide) (by omega)]; omega), zin_t (by omega) (by omega), zgd_t, zi_cl (by omega), Int.toNat_natCast, eX8_addFour_2, k1, k2, by1, k3]
    refine ⟨_, rfl, zu_y ⟨rfl, rfl⟩, fun k hk => ?_, fun i hi => ?_, fun o a b => by rw [zu_o a, zu_o b]; exact hm.2.2.2.1 o a b, fun k hk => ?_⟩
    · rw [zu_n (by omega), zu_n (by omega)]
      exact hm.2.1 k hk
    · rw [zu_n (by omega)]
      by_cases w : i = j
      · rw [zu_y ⟨rfl, by omega⟩, w]
      · rw [zu_n (by omega)]
        exact hm.2.2.1 i (by omega)
    · rw [zu_n (by omega), zu_n (by omega)]
      exact hm.2.2.2.2 k hk) I ⟨h4, fun _ _ => rfl, fun i hi => absurd hi (Nat.not_lt_zero i), fun _ _ _ => rfl, fun _ _ => rfl⟩
  have z0 : zX 2 (zCd zT e) zc_X8_addFour 1 [some (.ref 17), some (.int v), some (.int 24)] [] (zm L I J r) = _ := c1
  refine ⟨m, ?_, c2⟩
  rw [qX8_addFour, eX8_addFour_0, z0, eX8_addFour_1, if_pos (show zi (24 - 8 * ((4 : Nat) : Int)) < (0 : Int32) by decide), eX8_addFour_3]
def yWrd (a b c e f : Int32) (q : Nat) : Int32 := if q = 0 then a else if q = 1 then b else if q = 2 then c else if q = 3 then e else f
theorem cFeed (hd : 2 ≤ d) {v0 v1 v2 v3 v4 : Int32} {T : Nat} (hT : T + 20 ≤ 400) (h4 : I 17 4 = zi (T : Int)) : ∃ I', zCd zT d 138 [.ref 16, .int v0, .int v1, .int v2, .int v3, .int v4] (zm L I J r) = some (some (.int (zi ((T + 20 : Nat) : Int))), (zm L I' J r)) ∧ I' 17 4 = zi ((T + 20 : Nat) : Int) ∧ (∀ k, k < T → I' 18 k = I 18 k) ∧ (∀ q j, q < 5 → j < 4 → I' 18 (T + (4 * q + j)) = zi ((yBy (yWrd v0 v1 v2 v3 v4 q) j : Nat) : Int)) ∧ (∀ o, o ≠ 17 → o ≠ 18 → I' o = I o) ∧ ∀ k, k ≠ 4 → I' 17 k = I 17 k := by
  obtain ⟨e, rfl⟩ : ∃ e, d = e + 1 := ⟨d - 1, by omega⟩
  obtain ⟨I1, a1, a2, a3, a4, a5, a6⟩ := cFour (d := e) (L := L) (J := J) (r := r) (v := v0) (T := T) (by omega) (by omega) h4
  obtain ⟨I2, b1, b2, b3, b4, b5, b6⟩ := cFour (d := e) (L := L) (J := J) (r := r) (v := v1) (T := T + 4) (by omega) (by omega) a2
  obtain ⟨I3, c1, c2, c3, c4, c5, c6⟩ := cFour (d := e) (L := L) (J := J) (r := r) (v := v2) (T := T + 4 + 4) (by omega) (by omega) b2
  obtain ⟨I4, d1, d2, d3, d4, d5, d6⟩ := cFour (d := e) (L := L) (J := J) (r := r) (v := v3) (T := T + 4 + 4 + 4) (by omega) (by omega) c2
  obtain ⟨I5, e1, e2, e3, e4, e5, e6⟩ := cFour (d := e) (L := L) (J := J) (r := r) (v := v4) (T := T + 4 + 4 + 4 + 4) (by omega) (by omega) d2
  have hR : zCd zT e 77 [.ref 17, .int 20] (zm L I J r) = some (some (.int 1), (zm L I J r)) := by
    rw [sX8_hasRoom (by omega), h4, show zi (T : Int) + (20 : Int32) = zi ((T + 20 : Nat) : Int) from zi_add _ 20, if_neg (show ¬ (400 : Int32) < zi ((T + 20 : Nat) : Int) by rw [show (400 : Int32) = zi 400 from rfl, zi_lt (by decide) (by omega)]; omega)]
  have hH : zCd zT e 76 [.ref 17] (zm L I5 J r) = some (some (.int (zi ((T + 20 : Nat) : Int))), (zm L I5 J r)) := by
    rw [sX8_held (by omega), e2]
  refine ⟨I5, ?_, e2, fun k hk => ?_, fun q j hq hj => ?_, fun o x1 x2 => ?_, fun k hk => ?_⟩
  · rw [qX11_feed, eX11_feed_0, hR, zbI_s, eX11_feed_1, if_neg (by decide), eX11_feed_2, a1, zbV_s, eX11_feed_3, b1, zbV_s, eX11_feed_4, c1, zbV_s, eX11_feed_5, d1, zbV_s, eX11_feed_6, e1, zbV_s, eX11_feed_7, hH, zbI_s, eX11_feed_8]
  · rw [e3 k (by omega), d3 k (by omega), c3 k (by omega), b3 k (by omega), a3 k hk]
  · obtain rfl | rfl | rfl | rfl | rfl : q = 0 ∨ q = 1 ∨ q = 2 ∨ q = 3 ∨ q = 4 := by omega
    · rw [e3 _ (by omega), d3 _ (by omega), c3 _ (by omega), b3 _ (by omega), show T + (4 * 0 + j) = T + j by omega]
      exact a4 j hj
    · rw [e3 _ (by omega), d3 _ (by omega), c3 _ (by omega), show T + (4 * 1 + j) = T + 4 + j by omega]
      exact b4 j hj
    · rw [e3 _ (by omega), d3 _ (by omega), show T + (4 * 2 + j) = T + 4 + 4 + j by omega]
      exact c4 j hj
    · rw [e3 _ (by omega), show T + (4 * 3 + j) = T + 4 + 4 + 4 + j by omega]
      exact d4 j hj
    · rw [show T + (4 * 4 + j) = T + 4 + 4 + 4 + 4 + j by omega]
      exact e4 j hj
  · rw [e5 o x1 x2, d5 o x1 x2, c5 o x1 x2, b5 o x1 x2, a5 o x1 x2]
  · rw [e6 k hk, d6 k hk, c6 k hk, b6 k hk, a6 k hk]
theorem mFeed (hd : 1 ≤ d) {v0 v1 v2 v3 v4 : Int32} {T : Nat} (hT : T + 20 ≤ 400) (h5 : I 130 5 = zi (T : Int)) : ∃ I', zCd zT d 246 [.ref 130, .int v0, .int v1, .int v2, .int v3, .int v4] (zm L I J r) = some (some (.int (zi ((T + 20 : Nat) : Int))), (zm L I' J r)) ∧ I' 130 5 = zi ((T + 20 : Nat) : Int) ∧ (∀ k, k < T → I' 134 k = I 134 k) ∧ (∀ i, i < 20 → I' 134 (T + i) = zi ((yBy (yWrd v0 v1 v2 v3 v4 (i / 4)) (i % 4) : Nat) : Int)) ∧ (∀ o, o ≠ 130 → o ≠ 134 → I' o = I o) ∧ ∀ k, k ≠ 0 → k ≠ 5 → I' 130 k = I 130 k := by
  obtain ⟨e, rfl⟩ : ∃ e, d = e + 1 := ⟨d - 1, by omega⟩
  obtain ⟨m, c1, c2⟩ := zForI (n := 20) (M := Nat → Nat → Int32) (G := fun i m => zX 0 (zCd zT e) zc_X12_feed 2 [some (.ref 130), some (.int v0), some (.int v1), some (.int v2), some (.int v3), some (.int v4), some (.int (zi ((i : Nat) : Int))), none] [] (zm L m J r)) (P := fun i m => m 130 5 = zi ((T + i : Nat) : Int) ∧ (∀ k, k < T → m 134 k = I 134 k) ∧ (∀ k, k < i → m 134 (T + k) = zi ((yBy (yWrd v0 v1 v2 v3 v4 (k / 4)) (k % 4) : Nat) : Int)) ∧ (∀ o, o ≠ 130 → o ≠ 134 → m o = I o) ∧ ∀ k, k ≠ 0 → k ≠ 5 → m 130 k = I 130 k) (fun i m hi hm => by
    have k1 : zi ((i : Nat) : Int) + (1 : Int32) = zi ((i + 1 : Nat) : Int) := zi_add _ 1
    have k3 : zi ((T + i : Nat) : Int) + (1 : Int32) = zi ((T + (i + 1) : Nat) : Int) := (zi_add _ 1).trans rfl
    have d1 : zi ((i : Nat) : Int) / (4 : Int32) = zi ((i / 4 : Nat) : Int) := (zi_div (y := 4) (by omega) (by decide)).trans rfl
    have d2 : zi ((i / 4 : Nat) : Int) * (4 : Int32) = zi ((i / 4 * 4 : Nat) : Int) := (zi_mul _ 4).trans rfl
    have d3 : zi ((i : Nat) : Int) - zi ((i / 4 * 4 : Nat) : Int) = zi ((i % 4 : Nat) : Int) := (zi_sub _ _).trans (congrArg zi (by omega))
    have d4 : (24 : Int32) - (8 : Int32) * zi ((i % 4 : Nat) : Int) = zi ((24 - 8 * (i % 4) : Nat) : Int) := by
      rw [show (8 : Int32) = zi 8 from rfl, show (24 : Int32) = zi 24 from rfl, zi_mul, zi_sub]
      exact congrArg zi (by omega)
    have go : zX 0 (zCd zT e) zc_X12_feed 2 [some (.ref 130), some (.int v0), some (.int v1), some (.int v2), some (.int v3), some (.int v4), some (.int (zi ((i : Nat) : Int))), none] [] (zm L m J r) = zX 0 (zCd zT e) zc_X12_feed 7 [some (.ref 130), some (.int v0), some (.int v1), some (.int v2), some (.int v3), some (.int v4), some (.int (zi ((i : Nat) : Int))), none] [.int (yWrd v0 v1 v2 v3 v4 (i / 4))] (zm L m J r) := by
      have le : ∀ n : Nat, n < 100 → (zi (n : Int) ≤ zi ((i : Nat) : Int) ↔ n ≤ i) := fun n hn => (zi_le (by omega) (by omega)).trans (by omega)
      have l4 := le 4 (by decide)
      have l8 := le 8 (by decide)
      have l12 := le 12 (by decide)
      have l16 := le 16 (by decide)
      have l20 := le 20 (by decide)
      rw [eX12_feed_2, if_neg (show ¬ (20 : Int32) ≤ zi ((i : Nat) : Int) from fun w => by have := l20.mp w; omega)]
      unfold yWrd
      by_cases q4 : 4 ≤ i
      · rw [if_pos (show (4 : Int32) ≤ zi ((i : Nat) : Int) from l4.mpr q4), eX12_feed_3, if_neg (show ¬ i / 4 = 0 by omega)]
        by_cases q8 : 8 ≤ i
        · rw [if_pos (show (8 : Int32) ≤ zi ((i : Nat) : Int) from l8.mpr q8), eX12_feed_4, if_neg (show ¬ i / 4 = 1 by omega)]
          by_cases q12 : 12 ≤ i
          · rw [if_pos (show (12 : Int32) ≤ zi ((i : Nat) : Int) from l12.mpr q12), eX12_feed_5, if_neg (show ¬ i / 4 = 2 by omega)]
            by_cases q16 : 16 ≤ i
            · rw [if_pos (show (16 : Int32) ≤ zi ((i : Nat) : Int) from l16.mpr q16), eX12_feed_6, if_neg (show ¬ i / 4 = 3 by omega)]
            · rw [if_neg (show ¬ (16 : Int32) ≤ zi ((i : Nat) : Int) from fun w => q16 (l16.mp w)), if_pos (show i / 4 = 3 by omega)]
          · rw [if_neg (show ¬ (12 : Int32) ≤ zi ((i : Nat) : Int) from fun w => q12 (l12.mp w)), if_pos (show i / 4 = 2 by omega)]
        · rw [if_neg (show ¬ (8 : Int32) ≤ zi ((i : Nat) : Int) from fun w => q8 (l8.mp w)), if_pos (show i / 4 = 1 by omega)]
      · rw [if_neg (show ¬ (4 : Int32) ≤ zi ((i : Nat) : Int) from fun w => q4 (l4.mp w)), if_pos (show i / 4 = 0 by omega)]
    rw [go, eX12_feed_7, hm.1, zin_t (by omega) (by omega), zgd_t, zi_cl (by omega), Int.toNat_natCast, d1, d2, d3, d4, yBy_m (by omega), (yBy_c (j := i % 4)).1, k1, k3]
    refine ⟨_, rfl, zu_y ⟨rfl, rfl⟩, fun k hk => ?_, fun k hk => ?_, fun o a b => by rw [zu_o a, zu_o b]; exact hm.2.2.2.1 o a b, fun k h0 hk => ?_⟩
    · rw [zu_n (by omega), zu_n (by omega)]
      exact hm.2.1 k hk
    · rw [zu_n (by omega)]
      by_cases w : k = i
      · rw [zu_y ⟨rfl, by omega⟩, w]
      · rw [zu_n (by omega)]
        exact hm.2.2.1 k (by omega)
    · rw [zu_n (by omega), zu_n (by omega)]
      exact hm.2.2.2.2 k h0 hk) (zu I 130 0 0) ⟨by rw [zu_n (by decide)]; exact h5, fun _ _ => by rw [zu_n (by omega)], fun i hi => absurd hi (Nat.not_lt_zero i), fun o a _ => zu_o a, fun k h0 _ => zu_n (by omega)⟩
  have z0 : zX 0 (zCd zT e) zc_X12_feed 2 [some (.ref 130), some (.int v0), some (.int v1), some (.int v2), some (.int v3), some (.int v4), some (.int 0), none] [] (zm L (zu I 130 0 0) J r) = _ := c1
  refine ⟨m, ?_, c2⟩
  rw [qX12_feed, eX12_feed_0, h5, show zi (T : Int) + (20 : Int32) = zi ((T + 20 : Nat) : Int) from zi_add _ 20, if_pos (show zi ((T + 20 : Nat) : Int) ≤ (400 : Int32) by rw [show (400 : Int32) = zi 400 from rfl, zi_le (by omega) (by decide)]; omega), eX12_feed_1, z0, eX12_feed_2, if_pos (show (20 : Int32) ≤ zi ((20 : Nat) : Int) by decide), eX12_feed_8, c2.1]
end
/-- what touches nothing but THE TAPE -/
theorem zV_tp {c : Nat} {I I' : Nat → Nat → Int32} {J : Nat → Nat → Int64} {y : zFd} {z0 z1 : Bool × zFd} (h : ∀ o, o ≠ 17 → o ≠ 18 → o ≠ 130 → o ≠ 134 → I' o = I o) (h25 : I' 130 25 = I 130 25) (ht : zVt I') (hv : zV c I J y z0 z1) : zV (c + 1) I' J y z0 z1 := by
  obtain ⟨a1, a2, a3, a4, a5, a6, a7, a8, a9, a10⟩ := hv
  have i131 := h 131 (by decide) (by decide) (by decide) (by decide)
  have vm : ∀ D O j o z, D ≤ 60 → (56 ≤ o ∧ o ≤ 115) → zVm c D O I J j o z → zVm (c + 1) D O I' J j o z := by
    intro D O j o z hD ho hz
    have e : ∀ p, 31 ≤ p → p ≤ 55 → I' (p + D) = I (p + D) := fun p _ _ => h _ (by omega) (by omega) (by omega) (by omega)
    refine ⟨by rw [h o (by omega) (by omega) (by omega) (by omega)]; exact hz.1, by rw [h 133 (by omega) (by omega) (by omega) (by omega)]; exact hz.2.1, fun p hp => by rw [e _ (by omega) (by omega)]; exact hz.2.2.1 p hp, fun w => ?_⟩
    obtain ⟨x1, x2, x3⟩ := hz.2.2.2 w
    exact ⟨cDay_fr e (fun _ _ _ => rfl) x1, mDay_fr x3 (fun k _ => by rw [i131]) x2, wDay_le (Nat.le_succ c) x3⟩
  refine ⟨cDay_fr (fun o _ _ => h _ (by omega) (by omega) (by omega) (by omega)) (fun _ _ _ => rfl) a1, mDay_fr a3 (fun k _ => by rw [i131]) a2, wDay_le (Nat.le_succ c) a3, vm _ _ _ _ _ (by decide) (by decide) a4, vm _ _ _ _ _ (by decide) (by decide) a5, fun i hi => ?_, ht, fun k hk => by rw [h 119 (by decide) (by decide) (by decide) (by decide)]; exact a8 k hk, h25.trans a9, ?_⟩
  · rw [h (108 + 2 * i) (by omega) (by omega) (by omega) (by omega), h 145 (by decide) (by decide) (by decide) (by decide), h 146 (by decide) (by decide) (by decide) (by decide)]
    exact a6 i hi
  · unfold zCa
    rw [h 120 (by decide) (by decide) (by decide) (by decide)]
    exact a10
theorem oFeed (a b c e f : Int32) : zOk 138 246 [.int a, .int b, .int c, .int e, .int f] := by
  intro L cc r I J y z0 z1 hc hr hv
  obtain ⟨⟨T, hT, t1, t2, t3⟩, t4, t5⟩ := hv.2.2.2.2.2.2.1
  by_cases q : T + 20 ≤ 400
  · obtain ⟨I1, c1, c2, c3, c4, c5, c6⟩ := cFeed (d := 60) (L := L) (J := J) (r := r) (v0 := a) (v1 := b) (v2 := c) (v3 := e) (v4 := f) (by decide) q t1
    obtain ⟨I2, m1, m2, m3, m4, m5, m6⟩ := mFeed (d := 60) (L := L) (J := J) (r := r) (I := I1) (v0 := a) (v1 := b) (v2 := c) (v3 := e) (v4 := f) (T := T) (by decide) q (by rw [c5 130 (by decide) (by decide)]; exact t2)
    refine ⟨_, I1, J, r, I2, J, r, y, z0, z1, c1, m1, hr, zV_tp (fun o x1 x2 x3 x4 => (m5 o x3 x4).trans (c5 o x1 x2)) (by rw [m6 25 (by decide) (by decide), c5 130 (by decide) (by decide)]) ⟨⟨T + 20, q, ?_, m2, fun k hk => ?_⟩, ?_, ?_⟩ hv⟩
    · rw [m5 17 (by decide) (by decide)]
      exact c2
    · by_cases w : k < T
      · obtain ⟨bb, h1, h2, h3⟩ := t3 k w
        exact ⟨bb, h1, by rw [m5 18 (by decide) (by decide), c3 k w]; exact h2, by rw [m3 k w, c5 134 (by decide) (by decide)]; exact h3⟩
      · obtain ⟨i, rfl⟩ : ∃ i, k = T + i := ⟨k - T, by omega⟩
        refine ⟨yBy (yWrd a b c e f (i / 4)) (i % 4), yBy_c.2, ?_, m4 i (by omega)⟩
        have := c4 (i / 4) (i % 4) (by omega) (by omega)
        rw [show 4 * (i / 4) + i % 4 = i by omega] at this
        rw [m5 18 (by decide) (by decide)]
        exact this
    · rw [m5 17 (by decide) (by decide), c6 11 (by decide), m6 15 (by decide) (by decide), c5 130 (by decide) (by decide)]
      exact t4
    · rw [m5 17 (by decide) (by decide), c6 12 (by decide), m6 16 (by decide) (by decide), c5 130 (by decide) (by decide)]
      exact t5
  · refine zGo_0 hr hv (.int (-4)) ?_ ?_
    · rw [qX11_feed, eX11_feed_0, sX8_hasRoom (by omega), t1, show zi (T : Int) + (20 : Int32) = zi ((T + 20 : Nat) : Int) from zi_add _ 20, if_pos (show (400 : Int32) < zi ((T + 20 : Nat) : Int) by rw [show (400 : Int32) = zi 400 from rfl, zi_lt (by decide) (by omega)]; omega), zbI_s, eX11_feed_1, if_pos rfl]
    · rw [qX12_feed, eX12_feed_0, t2, show zi (T : Int) + (20 : Int32) = zi ((T + 20 : Nat) : Int) from zi_add _ 20, if_neg (show ¬ zi ((T + 20 : Nat) : Int) ≤ (400 : Int32) by rw [show (400 : Int32) = zi 400 from rfl, zi_le (by omega) (by decide)]; omega)]
      rfl
