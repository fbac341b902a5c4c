/-! the model's RUN -/
/-- the model's TRACK, as a RUN asks it -/
def mTk (I : Nat → Nat → Int32) (n : Nat) (h ch : Nat → Int) (cp : Int → Int) (dg : Nat → Bool) : Prop :=
  n ≤ 60 ∧ I 131 0 = zi n ∧ (∀ p, p < n → I 131 (1 + p) = zi (h p) ∧ 0 ≤ h p ∧ h p ≤ 99) ∧
  (I 131 67 ≤ 2 ∧ ∀ p, p < n → (if (0 : Int32) < I 131 67 ∧ ¬ zi p < I 131 68 ∧ ¬ I 131 70 ≤ zi p then (0 : Int) else if (1 : Int32) < I 131 67 ∧ ¬ zi p < I 131 69 ∧ ¬ I 131 71 ≤ zi p then 1 else -1) = ch p) ∧
  (∀ c : Nat, c < 2 → (∃ p, p < n ∧ ch p = (c : Int)) → (if 0 ≤ (if I 130 25 = 0 then I 131 (72 + c) else I 131 (72 + c) - I 131 (881 + c) / 1000) then (if I 130 25 = 0 then I 131 (72 + c) else I 131 (72 + c) - I 131 (881 + c) / 1000) else 0) = zi (cp c) ∧ 0 ≤ cp c ∧ cp c ≤ 999) ∧
  I 131 74 ≤ 2 ∧ ∀ p, p < n → (dg p = true ↔ ((0 : Int32) < I 131 74 ∧ ¬ zi p ≤ I 131 75 ∧ ¬ I 131 77 < zi p) ∨ ((1 : Int32) < I 131 74 ∧ ¬ zi p ≤ I 131 76 ∧ ¬ I 131 78 < zi p))
/-- what the model's RUN holds -/
def mRd (n : Nat) (I : Nat → Nat → Int32) : zS → Prop
  | (_, at1, pa, ti, tu, tp, _, _, _, fs, ft) => (I 130 20 = zi at1 ∧ I 130 21 = zi pa ∧ I 130 24 = zi ti ∧ I 130 23 = zi tu ∧ I 130 22 = zi tp) ∧ (0 ≤ pa ∧ pa ≤ 999 ∧ 0 ≤ tp ∧ tp ≤ 999) ∧ ∀ p, p < n → I 135 p = zi (fs p) ∧ -1 ≤ fs p ∧ fs p ≤ 999 ∧ (¬ fs p = -1 → I 136 p = zi (ft p))
def mFr (I I' : Nat → Nat → Int32) : Prop := ∀ o k, o ≠ 135 → o ≠ 136 → ¬ (o = 130 ∧ 19 ≤ k ∧ k ≤ 24) → I' o k = I o k
theorem mFr_rf {I : Nat → Nat → Int32} : mFr I I := fun _ _ _ _ _ => rfl
theorem mFr_tr {I I1 I2 : Nat → Nat → Int32} (h : mFr I I1) (g : mFr I1 I2) : mFr I I2 := fun o k a b c => (g o k a b c).trans (h o k a b c)
theorem mFr_u {I I1 : Nat → Nat → Int32} {k : Nat} {v : Int32} (h : mFr I I1) (h1 : 19 ≤ k) (h2 : k ≤ 24) : mFr I (zu I1 130 k v) := by
  intro o j a b c
  rw [zu_ap, if_neg (fun q => c ⟨q.1, by omega, by omega⟩)]
  exact h o j a b c
theorem mFr_v {I I1 : Nat → Nat → Int32} {k : Nat} {v : Int32} (h : mFr I I1) : mFr I (zu I1 135 k v) := by
  intro o j a b c
  rw [zu_ap, if_neg (fun q => a q.1)]
  exact h o j a b c
theorem mFr_w {I I1 : Nat → Nat → Int32} {k : Nat} {v : Int32} (h : mFr I I1) : mFr I (zu I1 136 k v) := by
  intro o j a b c
  rw [zu_ap, if_neg (fun q => b q.1)]
  exact h o j a b c
theorem mTk_fr {I I' : Nat → Nat → Int32} {n : Nat} {h ch : Nat → Int} {cp : Int → Int} {dg : Nat → Bool} (hf : mFr I I') (hT : mTk I n h ch cp dg) : mTk I' n h ch cp dg := by
  have e1 : ∀ k, I' 131 k = I 131 k := fun k => hf 131 k (by decide) (by decide) (fun q => by cases q.1)
  have e2 : I' 130 25 = I 130 25 := hf 130 25 (by decide) (by decide) (fun q => by have := q.2.2; omega)
  unfold mTk
  simp only [e1, e2]
  exact hT
theorem mTk_ch {I : Nat → Nat → Int32} {n : Nat} {h ch : Nat → Int} {cp : Int → Int} {dg : Nat → Bool} (hT : mTk I n h ch cp dg) {p : Nat} (hp : p < n) : ch p = -1 ∨ ch p = 0 ∨ ch p = 1 := by
  rw [← hT.2.2.2.1.2 p hp]
  split
  · exact Or.inr (Or.inl rfl)
  · split
    · exact Or.inr (Or.inr rfl)
    · exact Or.inl rfl
section
variable {d L r : Nat} {I : Nat → Nat → Int32} {J : Nat → Nat → Int64} {n : Nat} {h ch : Nat → Int} {cp : Int → Int} {dg : Nat → Bool}
theorem mChain (hd : 1 ≤ d) (hT : mTk I n h ch cp dg) {p : Nat} (hp : p < n) : zCd zT d 271 [.ref 130, .int (zi p)] (zm L I J r) = some (some (.int (zi (ch p))), zm L I J r) := by
  obtain ⟨e, rfl⟩ : ∃ e, d = e + 1 := ⟨d - 1, by omega⟩
  obtain ⟨h2, hc⟩ := hT.2.2.2.1
  rw [qX12_chainOf, eX12_chainOf_0]
  have z2 : ∀ l2 : Int32, I 131 67 ≤ l2 → zX 0 (zCd zT e) zc_X12_chainOf 1 [some (.ref 130), some (.int (zi p)), some (.int l2)] [] (zm L I J r) = some (some (.int (-1)), zm L I J r) := by
    intro l2 hl
    rw [eX12_chainOf_1, if_pos hl, eX12_chainOf_3]
  have z1 : zX 0 (zCd zT e) zc_X12_chainOf 1 [some (.ref 130), some (.int (zi p)), some (.int 1)] [] (zm L I J r) = some (some (.int (zi (if (1 : Int32) < I 131 67 ∧ ¬ zi p < I 131 69 ∧ ¬ I 131 71 ≤ zi p then 1 else -1))), zm L I J r) := by
    by_cases a : I 131 67 ≤ 1
    · rw [z2 _ a, if_neg (fun q => Int32.not_lt.mpr a q.1)]
      rfl
    · rw [eX12_chainOf_1, if_neg a, show zin ((68 : Int32) + 1) 2649 = true from by decide, zgd_t, show zin ((70 : Int32) + 1) 2649 = true from by decide, zgd_t, show ((68 : Int32) + 1).toNatClampNeg = 69 from by decide, show ((70 : Int32) + 1).toNatClampNeg = 71 from by decide, eX12_chainOf_2, z2 _ (show I 131 67 ≤ 1 + 1 from h2)]
      by_cases b : zi p < I 131 69
      · rw [if_pos b, if_neg (fun q => q.2.1 b)]
        rfl
      · rw [if_neg b]
        by_cases c : I 131 71 ≤ zi p
        · rw [if_pos c, if_neg (fun q => q.2.2 c)]
          rfl
        · rw [if_neg c, if_pos ⟨Int32.not_le.mp a, b, c⟩]
          rfl
  rw [← hc p hp]
  by_cases a : I 131 67 ≤ 0
  · rw [z2 _ a, if_neg (fun q => Int32.not_lt.mpr a q.1), if_neg (fun q => Int32.not_lt.mpr a (Int32.lt_trans (by decide) q.1))]
    rfl
  · rw [eX12_chainOf_1, if_neg a, show zin ((68 : Int32) + 0) 2649 = true from by decide, zgd_t, show zin ((70 : Int32) + 0) 2649 = true from by decide, zgd_t, show ((68 : Int32) + 0).toNatClampNeg = 68 from by decide, show ((70 : Int32) + 0).toNatClampNeg = 70 from by decide, eX12_chainOf_2, show (0 : Int32) + 1 = 1 from rfl, z1]
    by_cases b : zi p < I 131 68
    · rw [if_pos b, if_neg (fun q => q.2.1 b : ¬ ((0 : Int32) < I 131 67 ∧ ¬ zi p < I 131 68 ∧ ¬ I 131 70 ≤ zi p))]
    · rw [if_neg b]
      by_cases c : I 131 70 ≤ zi p
      · rw [if_pos c, if_neg (fun q => q.2.2 c : ¬ ((0 : Int32) < I 131 67 ∧ ¬ zi p < I 131 68 ∧ ¬ I 131 70 ≤ zi p))]
      · rw [if_neg c, if_pos (⟨Int32.not_le.mp a, b, c⟩ : ((0 : Int32) < I 131 67 ∧ ¬ zi p < I 131 68 ∧ ¬ I 131 70 ≤ zi p))]
        rfl
theorem mDog (hd : 1 ≤ d) (hT : mTk I n h ch cp dg) {p : Nat} (hp : p < n) : zCd zT d 273 [.ref 130, .int (zi p)] (zm L I J r) = some (some (.int (zb1 (dg p))), zm L I J r) := by
  obtain ⟨e, rfl⟩ : ∃ e, d = e + 1 := ⟨d - 1, by omega⟩
  obtain ⟨h2, hc⟩ := hT.2.2.2.2.2
  have hg := hc p hp
  rw [qX12_isDogged, eX12_isDogged_0]
  have hfin : ∀ (l2 l3 : Int32), I 131 74 ≤ l3 → (l2 = 0 ∨ l2 = 1) → zX 3 (zCd zT e) zc_X12_isDogged 1 [some (.ref 130), some (.int (zi p)), some (.int l2), some (.int l3)] [] (zm L I J r) = some (some (.int l2), zm L I J r) := by
    intro l2 l3 hl h01
    rw [eX12_isDogged_1, if_pos hl, eX12_isDogged_5]
    rcases h01 with rfl | rfl <;> rfl
  have hb : ∀ b : Bool, zX 3 (zCd zT e) zc_X12_isDogged 1 [some (.ref 130), some (.int (zi p)), some (.int (zb1 b)), some (.int 1)] [] (zm L I J r) = some (some (.int (zb1 (b || decide ((1 : Int32) < I 131 74 ∧ ¬ zi p ≤ I 131 76 ∧ ¬ I 131 78 < zi p)))), zm L I J r) := by
    intro b
    by_cases a : I 131 74 ≤ 1
    · rw [hfin _ _ a (by cases b; exact Or.inl rfl; exact Or.inr rfl), decide_eq_false (fun q => Int32.not_lt.mpr a q.1), Bool.or_false]
    · rw [eX12_isDogged_1, if_neg a, show zin ((75 : Int32) + 1) 2649 = true from by decide, zgd_t, show zin ((77 : Int32) + 1) 2649 = true from by decide, zgd_t, show ((75 : Int32) + 1).toNatClampNeg = 76 from by decide, show ((77 : Int32) + 1).toNatClampNeg = 78 from by decide, eX12_isDogged_3, eX12_isDogged_2, eX12_isDogged_4, eX12_isDogged_4, hfin 0 _ (show I 131 74 ≤ 1 + 1 from h2) (Or.inl rfl), hfin 1 _ (show I 131 74 ≤ 1 + 1 from h2) (Or.inr rfl)]
      cases b
      · rw [if_pos (show zb1 false = 0 from rfl)]
        by_cases q1 : zi p ≤ I 131 76
        · rw [if_pos q1, decide_eq_false (fun q => q.2.1 q1)]
          rfl
        · rw [if_neg q1]
          by_cases q2 : I 131 78 < zi p
          · rw [if_pos q2, decide_eq_false (fun q => q.2.2 q2)]
            rfl
          · rw [if_neg q2, decide_eq_true ⟨Int32.not_le.mp a, q1, q2⟩]
            rfl
      · rw [if_neg (show ¬ zb1 true = 0 by decide)]
        rfl
  have hfx : zb1 (dg p) = zb1 (decide ((0 : Int32) < I 131 74 ∧ ¬ zi p ≤ I 131 75 ∧ ¬ I 131 77 < zi p) || decide ((1 : Int32) < I 131 74 ∧ ¬ zi p ≤ I 131 76 ∧ ¬ I 131 78 < zi p)) := by
    congr 1
    rw [Bool.eq_iff_iff, hg, Bool.or_eq_true, decide_eq_true_iff, decide_eq_true_iff]
  rw [hfx]
  by_cases a : I 131 74 ≤ 0
  · rw [hfin _ _ a (Or.inl rfl), decide_eq_false (fun q => Int32.not_lt.mpr a q.1), decide_eq_false (fun q => Int32.not_lt.mpr a (Int32.lt_trans (by decide) q.1))]
    rfl
  · rw [eX12_isDogged_1, if_neg a, if_pos rfl, show zin ((75 : Int32) + 0) 2649 = true from by decide, zgd_t, show zin ((77 : Int32) + 0) 2649 = true from by decide, zgd_t, show ((75 : Int32) + 0).toNatClampNeg = 75 from by decide, show ((77 : Int32) + 0).toNatClampNeg = 77 from by decide, eX12_isDogged_3, eX12_isDogged_2, eX12_isDogged_4, eX12_isDogged_4, show (0 : Int32) + 1 = 1 from rfl]
    have h0 : zX 3 (zCd zT e) zc_X12_isDogged 1 [some (.ref 130), some (.int (zi p)), some (.int 0), some (.int 1)] [] (zm L I J r) = _ := hb false
    have h1 : zX 3 (zCd zT e) zc_X12_isDogged 1 [some (.ref 130), some (.int (zi p)), some (.int 1), some (.int 1)] [] (zm L I J r) = _ := hb true
    rw [h0, h1]
    by_cases q1 : zi p ≤ I 131 75
    · rw [if_pos q1, decide_eq_false (fun q => q.2.1 q1 : ¬ ((0 : Int32) < I 131 74 ∧ ¬ zi p ≤ I 131 75 ∧ ¬ I 131 77 < zi p))]
    · rw [if_neg q1]
      by_cases q2 : I 131 77 < zi p
      · rw [if_pos q2, decide_eq_false (fun q => q.2.2 q2 : ¬ ((0 : Int32) < I 131 74 ∧ ¬ zi p ≤ I 131 75 ∧ ¬ I 131 77 < zi p))]
      · rw [if_neg q2, decide_eq_true (⟨Int32.not_le.mp a, q1, q2⟩ : ((0 : Int32) < I 131 74 ∧ ¬ zi p ≤ I 131 75 ∧ ¬ I 131 77 < zi p))]
theorem mPull (hd : 1 ≤ d) (hT : mTk I n h ch cp dg) {c : Int} (hc : c = 0 ∨ c = 1) (hx : ∃ p, p < n ∧ ch p = c) : zCd zT d 272 [.ref 130, .int (zi c)] (zm L I J r) = some (some (.int (zi (cp c))), zm L I J r) := by
  rw [sX12_pullOf hd]
  have key : ∀ k : Nat, k < 2 → c = k → zgd (zin ((72 : Int32) + zi c) 2649) (if (I 130 25) = 0 then if 0 ≤ ((I 131 (((72 : Int32) + zi c)).toNatClampNeg) - (0 : Int32)) then some (some (Value.int ((I 131 (((72 : Int32) + zi c)).toNatClampNeg) - (0 : Int32))), (zm L I J r)) else (some (some (.int (0 : Int32)), (zm L I J r))) else (zgd (zin ((881 : Int32) + zi c) 2649) (if 0 ≤ ((I 131 (((72 : Int32) + zi c)).toNatClampNeg) - ((I 131 (((881 : Int32) + zi c)).toNatClampNeg) / (1000 : Int32))) then some (some (.int ((I 131 (((72 : Int32) + zi c)).toNatClampNeg) - ((I 131 (((881 : Int32) + zi c)).toNatClampNeg) / (1000 : Int32)))), (zm L I J r)) else (some (some (.int (0 : Int32)), (zm L I J r)))))) = some (some (.int (zi (cp c))), zm L I J r) := by
    intro k hk hck
    have hp := (hT.2.2.2.2.1 k hk (hck ▸ hx)).1
    rw [show (72 : Int32) + zi c = zi ((72 + k : Nat) : Int) by rw [zi_lit, zi_add, hck]; rfl, show (881 : Int32) + zi c = zi ((881 + k : Nat) : Int) by rw [zi_lit, zi_add, hck]; rfl, zi_cl (by omega), zi_cl (by omega), Int.toNat_natCast, Int.toNat_natCast, zin_t (by omega) (by omega), zin_t (by omega) (by omega), zgd_t, zgd_t, hck, ← hp]
    have z0 : ∀ x : Int32, x - 0 = x := Int32.sub_zero
    rw [z0]
    by_cases q : I 130 25 = 0
    · simp only [q, if_true]
      split <;> rfl
    · simp only [q, if_false]
      split <;> rfl
  rcases hc with q | q
  · exact key 0 (by decide) q
  · exact key 1 (by decide) q
theorem mSpeed (hd : 1 ≤ d) (hT : mTk I n h ch cp dg) {at1 to : Nat} {pa loss : Int} (hl : 0 ≤ loss ∧ loss ≤ 1000000) (h20 : I 130 20 = zi at1) (h21 : I 130 21 = zi pa) (hpa : 0 ≤ pa ∧ pa ≤ 999) (ha : at1 < n) (ht : to < n) : zCd zT d 275 [.ref 130, .int (zi to), .int (zi loss)] (zm L I J r) = some (some (.int (zi (if 999 < pa + 10 * (h at1 - h to) - loss then 999 else pa + 10 * (h at1 - h to) - loss))), zm L I J r) := by
  have h60 := hT.1
  have b1 := hT.2.2.1 at1 ha
  have b2 := hT.2.2.1 to ht
  rw [sX12_speedAt hd, h20, h21, show (1 : Int32) + zi at1 = zi ((1 + at1 : Nat) : Int) by rw [zi_lit, zi_add]; rfl, show (1 : Int32) + zi to = zi ((1 + to : Nat) : Int) by rw [zi_lit, zi_add]; rfl, zi_cl (by omega), zi_cl (by omega), Int.toNat_natCast, Int.toNat_natCast, zin_t (by omega) (by omega), zin_t (by omega) (by omega), zgd_t, zgd_t, b1.1, b2.1]
  rw [show ((zi pa + (10 : Int32) * (zi (h at1) - zi (h to))) - zi loss) = zi (pa + 10 * (h at1 - h to) - loss) by rw [zi_lit, zi_sub, zi_mul, zi_add, zi_sub]]
  simp (disch := omega) only [zi_lit, zi_le]
  by_cases q : pa + 10 * (h at1 - h to) - loss ≤ 999
  · rw [if_pos q, if_neg (by omega)]
  · rw [if_neg q, if_pos (by omega)]
theorem mComes (hd : 1 ≤ d) (h60 : n ≤ 60) {fo : Bool} {at1 : Nat} {pa ti tu tp : Int} {td pul : Bool} {sl : Int} {fs ft : Nat → Int} (hs : mRd n I (fo, at1, pa, ti, tu, tp, td, pul, sl, fs, ft)) {to : Nat} {v : Int} (hv : 0 ≤ v ∧ v ≤ 999) (hto : to < n) (pul2 : Bool) :
    ∃ I', zCd zT d 274 [.ref 130, .int (zi to), .int (zi v)] (zm L I J r) = some (none, zm L I' J r) ∧ mRd n I' (zArr to v (ti + (1 + 40 / (4 + v))) pul2 (fo, at1, pa, ti, tu, tp, td, pul, sl, fs, ft)) ∧ mFr I I' := by
  obtain ⟨⟨h20, h21, h24, h23, h22⟩, ⟨g1, g2, g3, g4⟩, hfs⟩ := hs
  rw [sX12_comes hd, zi_cl (by omega), Int.toNat_natCast, zin_t (by omega) (by omega), h22, h24]
  simp only [zgd_t]
  have ht : zi ti + ((1 : Int32) + (40 : Int32) / ((4 : Int32) + zi v)) = zi (ti + (1 + 40 / (4 + v))) := by
    simp (disch := omega) only [zi_lit, zi_add, zi_div]
  have hne : decide (((4 : Int32) + zi v) ≠ 0) = true := by
    rw [decide_eq_true_iff]
    simp (disch := omega) only [zi_lit, zi_add, ne_eq, zi_eq]
    omega
  rw [ht, hne]
  simp only [zgd_t]
  have hle : zi v ≤ zi tp ↔ v ≤ tp := zi_le (by omega) (by omega)
  have hf1 := hfs to hto
  have hm1 : I 135 to = -1 ↔ fs to = -1 := by
    rw [hf1.1, show (-1 : Int32) = zi (-1) from rfl]
    exact zi_eq (by omega) (by omega)
  have key : ∀ tp2 : Int, tp2 = (if tp < v then v else tp) → ∃ I', (if (zu (zu (zu (zu I 130 20 (zi to)) 130 21 (zi v)) 130 22 (zi tp2)) 130 24 (zi (ti + (1 + 40 / (4 + v)))) 135 to) = (-1 : Int32) then some ((none : Option Value), zm L (zu (zu (zu (zu (zu (zu I 130 20 (zi to)) 130 21 (zi v)) 130 22 (zi tp2)) 130 24 (zi (ti + (1 + 40 / (4 + v))))) 135 to (zi v)) 136 to (zi (ti + (1 + 40 / (4 + v))))) J r) else some (none, zm L (zu (zu (zu (zu I 130 20 (zi to)) 130 21 (zi v)) 130 22 (zi tp2)) 130 24 (zi (ti + (1 + 40 / (4 + v))))) J r)) = some (none, zm L I' J r) ∧ mRd n I' (zArr to v (ti + (1 + 40 / (4 + v))) pul2 (fo, at1, pa, ti, tu, tp, td, pul, sl, fs, ft)) ∧ mFr I I' := by
    intro tp2 htp
    have hb : 0 ≤ tp2 ∧ tp2 ≤ 999 := by
      rw [htp]
      split <;> omega
    have fr4 : mFr I (zu (zu (zu (zu I 130 20 (zi to)) 130 21 (zi v)) 130 22 (zi tp2)) 130 24 (zi (ti + (1 + 40 / (4 + v))))) := mFr_u (mFr_u (mFr_u (mFr_u mFr_rf (by decide) (by decide)) (by decide) (by decide)) (by decide) (by decide)) (by decide) (by decide)
    have e5 : zu (zu (zu (zu I 130 20 (zi to)) 130 21 (zi v)) 130 22 (zi tp2)) 130 24 (zi (ti + (1 + 40 / (4 + v)))) 135 to = I 135 to := by simp [zu_ap]
    rw [e5]
    by_cases q : fs to = -1
    · rw [if_pos (hm1.mpr q)]
      refine ⟨_, rfl, ?_, mFr_w (mFr_v fr4)⟩
      unfold zArr mRd
      simp only [zu_ap]
      refine ⟨⟨by simp, by simp, by simp, by simpa using h23, by simpa using congrArg zi htp⟩, ⟨hv.1, hv.2, by rw [← htp]; exact hb.1, by rw [← htp]; exact hb.2⟩, ?_⟩
      intro p hp
      have hfp := hfs p hp
      by_cases hpt : p = to
      · subst hpt
        simp [q]
        omega
      · simp [hpt]
        exact hfp
    · rw [if_neg (fun w => q (hm1.mp w))]
      refine ⟨_, rfl, ?_, fr4⟩
      unfold zArr mRd
      simp only [zu_ap]
      refine ⟨⟨by simp, by simp, by simp, by simpa using h23, by simpa using congrArg zi htp⟩, ⟨hv.1, hv.2, by rw [← htp]; exact hb.1, by rw [← htp]; exact hb.2⟩, ?_⟩
      intro p hp
      have hfp := hfs p hp
      simp [q]
      exact hfp
  by_cases hvt : v ≤ tp
  · rw [if_pos (hle.mpr hvt)]
    exact key tp (by rw [if_neg (by omega)])
  · rw [if_neg (fun w => hvt (hle.mp w))]
    exact key v (by rw [if_pos (by omega)])
end
