/-! TRAINS: who rides; the model's packing -/
def yRd (b : yTb) (h : Int) : Nat → Nat
  | 0 => 0
  | k + 1 => if h ≤ b.2 k 1 then yRd b h k ||| 2 ^ k else yRd b h k
theorem yRd_b {b : yTb} {h : Int} : ∀ k, yRd b h k < 2 ^ k ∧ ∀ j, (yRd b h k).testBit j = true ↔ j < k ∧ h ≤ b.2 j 1 := by
  intro k
  induction k with
  | zero => exact ⟨Nat.two_pow_pos 0, fun j => ⟨fun w => (by rw [yRd, Nat.zero_testBit] at w; exact absurd w (by decide)), fun w => absurd w.1 (Nat.not_lt_zero j)⟩⟩
  | succ k ih =>
    have hp : 2 ^ k < 2 ^ (k + 1) := Nat.pow_lt_pow_right (by decide) (Nat.lt_succ_self k)
    rw [yRd]
    by_cases q : h ≤ b.2 k 1
    · rw [if_pos q]
      refine ⟨Nat.or_lt_two_pow (Nat.lt_trans ih.1 hp) hp, fun j => ?_⟩
      rw [Nat.testBit_or, Bool.or_eq_true, ih.2 j, yB2, decide_eq_true_iff]
      constructor
      · rintro (w | w)
        · exact ⟨by omega, w.2⟩
        · rw [w]
          exact ⟨Nat.lt_succ_self k, q⟩
      · intro w
        by_cases e : j = k
        · exact Or.inr e
        · exact Or.inl ⟨by omega, w.2⟩
    · rw [if_neg q]
      refine ⟨Nat.lt_trans ih.1 hp, fun j => ?_⟩
      rw [ih.2 j]
      constructor
      · exact fun w => ⟨by omega, w.2⟩
      · intro w
        by_cases e : j = k
        · rw [e] at w
          exact absurd w.2 q
        · exact ⟨by omega, w.2⟩
theorem yShr1 {s k : Nat} (hs : s < 2147483648) (hk : k < 32) : ((zi (s : Int) >>> (zi (k : Int) &&& 31)) &&& (1 : Int32) = 1) ↔ s.testBit k = true := by
  have hle : s >>> k ≤ s := Nat.shiftRight_le s k
  have h2 : s >>> k &&& 1 = s >>> k % 2 := Nat.and_one_is_mod _
  rw [yShr hs hk, show (1 : Int32) = zi ((1 : Nat) : Int) from rfl, yAnd (by omega) (by decide), h2, zi_eq (by omega) (by decide)]
  have h3 : s.testBit k = (s >>> k).testBit 0 := by rw [Nat.testBit_shiftRight, Nat.add_zero]
  rw [h3, Nat.testBit_zero, decide_eq_true_iff]
  omega
theorem yZz {I : Nat → Nat → Int32} {o k : Nat} {v w : Int32} : zu (zu I o k v) o k w = zu I o k w := by
  funext a j
  rw [zu_ap, zu_ap, zu_ap]
  by_cases q : a = o ∧ j = k
  · rw [if_pos q, if_pos q]
  · rw [if_neg q, if_neg q, if_neg q]
section
variable {d L r : Nat} {I : Nat → Nat → Int32} {J : Nat → Nat → Int64}
variable {b : yTb} {q h x : Int}
theorem mRiders (hb : mTb 4 (I 131) b) (hn : b.1 ≤ 10) (hx : ∀ k, k < b.1 → 50 ≤ b.2 k 1 ∧ b.2 k 1 ≤ 220) (bh : 50 ≤ h ∧ h ≤ 220) : zX 0 (zCd zT d) zc_X12_trains 4 [some (.ref 130), some (.int (zi q)), some (.int (zi h)), some (.int (zi x)), none, none, none, none] [] (zm L I J r) = zX 0 (zCd zT d) zc_X12_trains 8 [some (.ref 130), some (.int (zi q)), some (.int (zi h)), some (.int (zi x)), some (.int (zi ((yRd b h b.1 : Nat) : Int))), some (.int (zi ((b.1 : Nat) : Int))), none, none] [] (zm L I J r) := by
  have h3 : I 131 712 = zi b.1 := hb.1
  have g1 : ∀ k, k < b.1 → I 131 (723 + k) = zi (b.2 k 1) := fun k hk => hb.2 k 1 hk (by decide)
  have a1 : ∀ k : Nat, (723 : Int32) + zi (k : Int) = zi ((723 + k : Nat) : Int) := fun k => zi_add 723 _
  have loop := zFor (n := b.1) (G := fun k => zX 0 (zCd zT d) zc_X12_trains 5 [some (.ref 130), some (.int (zi q)), some (.int (zi h)), some (.int (zi x)), some (.int (zi ((yRd b h k : Nat) : Int))), some (.int (zi ((k : Nat) : Int))), none, none] [] (zm L I J r)) (fun k hk => by
    have k1 : zi ((k : Nat) : Int) + (1 : Int32) = zi ((k + 1 : Nat) : Int) := zi_add _ 1
    have rb := (yRd_b (b := b) (h := h) k).1
    have p1 : 2 ^ k ≤ 2 ^ 10 := Nat.pow_le_pow_right (by decide) (by omega)
    have w := hx k hk
    have d1 : zi (b.2 k 1) < zi h ↔ b.2 k 1 < h := zi_lt (by omega) (by omega)
    rw [eX12_trains_5, h3, if_neg (show ¬ zi (b.1 : Int) ≤ zi ((k : Nat) : Int) by rw [zi_le (by omega) (by omega)]; omega), a1, zin_t (by omega) (by omega), zgd_t, zi_cl (by omega), Int.toNat_natCast, g1 k hk, yRd]
    by_cases q1 : h ≤ b.2 k 1
    · rw [if_neg (fun w => by have := d1.mp w; omega), yShl (by omega), eX12_trains_7, yOr (by omega) (by omega), k1, if_pos q1]
    · rw [if_pos (d1.mpr (by omega)), eX12_trains_6, eX12_trains_7, show (0 : Int32) = zi ((0 : Nat) : Int) from rfl, yOr (by omega) (by decide), Nat.or_zero, k1, if_neg q1])
  have z0 : zX 0 (zCd zT d) zc_X12_trains 5 [some (.ref 130), some (.int (zi q)), some (.int (zi h)), some (.int (zi x)), some (.int 0), some (.int 0), none, none] [] (zm L I J r) = _ := loop
  rw [eX12_trains_4, z0, eX12_trains_5, h3, if_pos (Int32.le_refl _)]
theorem mPack (hd : 1 ≤ d) (bq : 1 ≤ q ∧ q ≤ 40) (hb : mTb 4 (I 131) b) (hn : b.1 ≤ 10) (hx : ∀ k, k < b.1 → 1 ≤ b.2 k 0 ∧ b.2 k 0 ≤ 8) {l4 l5 : Int32} : ∃ I', zX 0 (zCd zT d) zc_X12_trains 8 [some (.ref 130), some (.int (zi q)), some (.int (zi h)), some (.int (zi x)), some (.int l4), some (.int l5), none, none] [] (zm L I J r) = zX 0 (zCd zT d) zc_X12_trains 18 [some (.ref 130), some (.int (zi q)), some (.int (zi h)), some (.int (zi x)), some (.int l4), some (.int (zi ((2 ^ b.1 : Nat) : Int))), none, none] [] (zm L I' J r) ∧ (∀ o, o ≠ 143 → o ≠ 144 → I' o = I o) ∧ ∀ t, t < 2 ^ b.1 → I' 143 t = zi (ySm b 0 t b.1) ∧ I' 144 t = zi (yF (fun c => ySm b 0 c b.1) q t) := by
  have hp : 2 ^ b.1 ≤ 2 ^ 10 := Nat.pow_le_pow_right (by decide) hn
  obtain ⟨I', c1, c2⟩ := zForI (n := 2 ^ b.1) (M := Nat → Nat → Int32) (G := fun s m => zX 0 (zCd zT d) zc_X12_trains 9 [some (.ref 130), some (.int (zi q)), some (.int (zi h)), some (.int (zi x)), some (.int l4), some (.int (zi ((s : Nat) : Int))), none, none] [] (zm L m J r)) (P := fun s m => (∀ o, o ≠ 143 → o ≠ 144 → m o = I o) ∧ ∀ t, t < s → m 143 t = zi (ySm b 0 t b.1) ∧ m 144 t = zi (yF (fun c => ySm b 0 c b.1) q t)) (fun s m hs hm => by
    have k1 : zi ((s : Nat) : Int) + (1 : Int32) = zi ((s + 1 : Nat) : Int) := zi_add _ 1
    have m131 := hm.1 131 (by decide) (by decide)
    have h3 : m 131 712 = zi b.1 := by rw [m131]; exact hb.1
    have g0 : ∀ k, k < b.1 → m 131 (713 + k) = zi (b.2 k 0) := fun k hk => by rw [m131]; exact hb.2 k 0 hk (by decide)
    have a0 : ∀ k : Nat, (713 : Int32) + zi (k : Int) = zi ((713 + k : Nat) : Int) := fun k => zi_add 713 _
    have inner := zFor (n := b.1) (G := fun k => zX 0 (zCd zT d) zc_X12_trains 10 [some (.ref 130), some (.int (zi q)), some (.int (zi h)), some (.int (zi x)), some (.int l4), some (.int (zi ((s : Nat) : Int))), some (.int (zi ((k : Nat) : Int))), none] [] (zm L (zu m 143 s (zi (ySm b 0 s k))) J r)) (fun k hk => by
      have j1 : zi ((k : Nat) : Int) + (1 : Int32) = zi ((k + 1 : Nat) : Int) := zi_add _ 1
      rw [eX12_trains_10, zu_o (show 131 ≠ 143 by decide), h3, if_neg (show ¬ zi (b.1 : Int) ≤ zi ((k : Nat) : Int) by rw [zi_le (by omega) (by omega)]; omega), zin_t (by omega) (by omega), zgd_t, ySm]
      by_cases q1 : s.testBit k = true
      · rw [if_pos ((yShr1 (by omega) (by omega)).mpr q1), a0, zin_t (by omega) (by omega), zgd_t, zi_cl (by omega), zi_cl (by omega), Int.toNat_natCast, Int.toNat_natCast, g0 k hk, zu_y ⟨rfl, rfl⟩, eX12_trains_12, zin_t (by omega) (by omega), zgd_t, zi_cl (by omega), Int.toNat_natCast, yZz, zi_add, j1, if_pos q1]
      · rw [if_neg (fun w => q1 ((yShr1 (by omega) (by omega)).mp w)), zi_cl (by omega), Int.toNat_natCast, zu_y ⟨rfl, rfl⟩, eX12_trains_11, eX12_trains_12, zin_t (by omega) (by omega), zgd_t, zi_cl (by omega), Int.toNat_natCast, yZz, show (0 : Int32) = zi 0 from rfl, zi_add, Int.add_zero, j1, if_neg q1])
    have z0 : zX 0 (zCd zT d) zc_X12_trains 10 [some (.ref 130), some (.int (zi q)), some (.int (zi h)), some (.int (zi x)), some (.int l4), some (.int (zi ((s : Nat) : Int))), some (.int 0), none] [] (zm L (zu m 143 s 0) J r) = _ := inner
    have n143 : ∀ t, t ≤ s → zu m 143 s (zi (ySm b 0 s b.1)) 143 t = zi (ySm b 0 t b.1) := by
      intro t ht
      by_cases e : t = s
      · rw [e, zu_y ⟨rfl, rfl⟩]
      · rw [zu_n (by omega), (hm.2 t (by omega)).1]
    have n144 : ∀ t, t < s → zu m 143 s (zi (ySm b 0 s b.1)) 144 t = zi (yF (fun c => ySm b 0 c b.1) q t) := by
      intro t ht
      rw [zu_n (by omega), (hm.2 t ht).2]
    have mf := mFirst (d := d) (L := L) (J := J) (r := r) (I := zu m 143 s (zi (ySm b 0 s b.1))) (W := fun c => ySm b 0 c b.1) (f := yF (fun c => ySm b 0 c b.1) q) (q := q) (s := s) hd bq (by omega) (fun t ht => by
      have h2 := ySm_r hn hx t
      exact ⟨n143 t ht, h2.1, by show ySm b 0 t b.1 ≤ 1000; omega⟩) (fun t ht => by
      have h2 := yF_b (W := fun c => ySm b 0 c b.1) (q := q) t t (Nat.le_refl t)
      exact ⟨n144 t ht, h2.1, by omega⟩)
    rw [eX12_trains_9, h3, yShl (by omega), if_neg (show ¬ zi ((2 ^ b.1 : Nat) : Int) ≤ zi ((s : Nat) : Int) by rw [zi_le (by omega) (by omega)]; omega), zin_t (by omega) (by omega), zgd_t, zi_cl (by omega), Int.toNat_natCast, z0, eX12_trains_10, zu_o (show 131 ≠ 143 by decide), h3, if_pos (Int32.le_refl _), eX12_trains_13, mf, zbI_s, eX12_trains_14]
    have fin : ∀ (y : Int32) (v : Int32), v = zi (yF (fun c => ySm b 0 c b.1) q s) → ∃ m', zX 0 (zCd zT d) zc_X12_trains 17 [some (.ref 130), some (.int (zi q)), some (.int (zi h)), some (.int (zi x)), some (.int l4), some (.int (zi ((s : Nat) : Int))), some (.int y), none] [.int v, .int (zi ((s : Nat) : Int)), .ref 144] (zm L (zu m 143 s (zi (ySm b 0 s b.1))) J r) = zX 0 (zCd zT d) zc_X12_trains 9 [some (.ref 130), some (.int (zi q)), some (.int (zi h)), some (.int (zi x)), some (.int l4), some (.int (zi ((s + 1 : Nat) : Int))), none, none] [] (zm L m' J r) ∧ (∀ o, o ≠ 143 → o ≠ 144 → m' o = I o) ∧ ∀ t, t < s + 1 → m' 143 t = zi (ySm b 0 t b.1) ∧ m' 144 t = zi (yF (fun c => ySm b 0 c b.1) q t) := by
      intro y v hv
      rw [eX12_trains_17, zin_t (by omega) (by omega), zgd_t, zi_cl (by omega), Int.toNat_natCast, k1, hv]
      refine ⟨_, rfl, fun o h1 h2 => by rw [zu_o h2, zu_o h1, hm.1 o h1 h2], fun t ht => ?_⟩
      rw [zu_n (show ¬ (143 = 144 ∧ t = s) by omega)]
      refine ⟨n143 t (by omega), ?_⟩
      by_cases e : t = s
      · rw [e, zu_y ⟨rfl, rfl⟩]
      · rw [zu_n (by omega), n144 t (by omega)]
    have ev : yF (fun c => ySm b 0 c b.1) q s = yFv (fun c => ySm b 0 c b.1) (yF (fun c => ySm b 0 c b.1) q) q s := yF_e
    unfold yFv at ev
    by_cases s0 : s = 0
    · rw [if_pos (show zi ((s : Nat) : Int) = (0 : Int32) by rw [s0]; rfl)]
      refine fin _ _ ?_
      rw [ev, if_pos s0]
      rfl
    · rw [if_neg (show ¬ zi ((s : Nat) : Int) = (0 : Int32) by rw [show (0 : Int32) = zi 0 from rfl, zi_eq (by omega) (by decide)]; omega), eX12_trains_15]
      rw [if_neg s0] at ev
      rcases yFb_p (W := fun c => ySm b 0 c b.1) (f := yF (fun c => ySm b 0 c b.1) q) (q := q) (s := s) with ⟨e1, _⟩ | ⟨p, e1, e2, _⟩
      · rw [e1] at ev ⊢
        rw [if_pos (show zi (-1) = (-1 : Int32) from rfl)]
        refine fin _ _ ?_
        rw [ev, if_pos rfl]
        rfl
      · have pn := yCd_n e2
        have fb := yF_b (W := fun c => ySm b 0 c b.1) (q := q) (s ^^^ p) (s ^^^ p) (Nat.le_refl _)
        rw [e1, if_neg (by omega), Int.toNat_natCast] at ev
        rw [e1, if_neg (show ¬ zi (p : Int) = (-1 : Int32) by rw [zi_m1 (by omega)]; omega), eX12_trains_16, yXor (by omega) (by omega), zin_t (by omega) (by omega), zgd_t, zi_cl (by omega), Int.toNat_natCast, n144 _ (by omega)]
        refine fin _ _ ?_
        rw [ev]
        exact zi_add 1 _) I ⟨fun _ _ _ => rfl, fun t ht => absurd ht (Nat.not_lt_zero t)⟩
  have z0 : zX 0 (zCd zT d) zc_X12_trains 9 [some (.ref 130), some (.int (zi q)), some (.int (zi h)), some (.int (zi x)), some (.int l4), some (.int 0), none, none] [] (zm L I J r) = _ := c1
  refine ⟨I', ?_, c2.1, c2.2⟩
  have h3 : I' 131 712 = zi b.1 := by rw [c2.1 131 (by decide) (by decide)]; exact hb.1
  rw [eX12_trains_8, z0, eX12_trains_9, h3, yShl (by omega), if_pos (Int32.le_refl _)]
end
