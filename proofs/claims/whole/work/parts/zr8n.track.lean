/-! TEXT of a TRACK: the class and the model answer the same -/
theorem yTrF_s {B : Nat → Nat} {n : Nat} (h : (yTrF B n).1 = 0) : (yTrk B n).1.1 = 0 ∧ 2 ≤ (yTrk B n).2.1.n := by
  unfold yTrF at h
  by_cases q : (yTrk B n).1.1 = 0 ∧ (yTrk B n).2.1.n < 2
  · rw [if_pos q] at h
    exact absurd h (yFa_n (by decide))
  · rw [if_neg q] at h
    exact ⟨h, by omega⟩
def yNewD (t : zDy) (y : zFd) : zFd := (t, yUn0, fun q => if q = 0 ∨ q = 1 ∨ q = 5 ∨ q = 6 then (0, fun _ _ => 0) else y.2.2.1 q, fun _ => 0)
theorem wNewD {t : zDy} {y : zFd} {c : Nat} (hn : wNt t) (hp : wDp t) (h2 : 2 ≤ t.n) (hw : wDay c y) : wDay (c + 1) (yNewD t y) := by
  obtain ⟨w1, w2, w3, w4, w5, w6, w7, w8⟩ := hn
  refine ⟨⟨Or.inr ⟨h2, w1⟩, w2, w3, w4, w5, w6, w7, w8, hp.1, hp.2⟩, ⟨Nat.zero_le _, fun k hk => absurd hk (Nat.not_lt_zero k)⟩, fun q hq => ?_, fun k _ => ⟨Int.le_refl _, show (0 : Int) ≤ _ by omega⟩, fun z => ?_⟩
  · show wTb t.n t.m (c + 1) q (if q = 0 ∨ q = 1 ∨ q = 5 ∨ q = 6 then (0, fun _ _ => 0) else y.2.2.1 q)
    by_cases z : q = 0 ∨ q = 1 ∨ q = 5 ∨ q = 6
    · rw [if_pos z]
      exact ⟨Nat.zero_le _, fun k f hk => absurd hk (Nat.not_lt_zero k)⟩
    · rw [if_neg z]
      have h := wTb_le (Nat.le_succ c) (hw.2.2.1 q hq)
      obtain rfl | rfl | rfl | rfl : q = 2 ∨ q = 3 ∨ q = 4 ∨ q = 7 := by omega
      · exact h
      · exact h
      · exact h
      · exact h
  · have : t.n = 0 := z
    omega
theorem oTxT {L c r n T : Nat} {I : Nat → Nat → Int32} {J : Nat → Nat → Int64} {y : zFd} {z0 z1 : Bool × zFd} (hr : zRr r) (hv : zV c I J y z0 z1) (hT : n ≤ T ∧ T ≤ 400) (t1 : I 17 4 = zi (T : Int)) (t2 : I 130 5 = zi (T : Int)) {B : Nat → Nat} (hB : ∀ k, k < n → B k < 256) (hb : ∀ k, k < n → I 18 k = zi (B k : Int)) (ht : ∀ k, k < n → I 134 k = zi (B k : Int)) : zGo 139 269 [.int (zi ((0 : Nat) : Int)), .int (zi (n : Int))] L c r I J := by
  have hn : n ≤ 400 := by omega
  obtain ⟨I1, c1, c2, c3, c4⟩ := cTFrn (d := 60) (L := L) (J := J) (r := r) (by decide) hn hB hb (a := 0) (by decide) hT t1 (fun z => absurd z (by decide))
  obtain ⟨I2, J2, d1, d2, d3, d4, d5, d6⟩ := cTrkR (d := 59) (L := L) (J := J) (r := r) (by decide) hn hB c2
  have k12 : zX 0 (zCd zT (60 - 1)) zc_X11_text 8 [some (.ref 16), some (.int (zi ((0 : Nat) : Int))), some (.int (zi (n : Int)))] [] (zm L I1 J r) = zX 0 (zCd zT 59) zc_X11_text 12 [some (.ref 16), some (.int (zi ((0 : Nat) : Int))), some (.int (zi (n : Int)))] [] (zm L I2 J2 r) := by
    rw [eX11_text_8, if_pos (show zi ((0 : Nat) : Int) = (0 : Int32) from rfl), d1, zbV_s, eX11_text_9]
  have fr2 : ∀ o, 31 ≤ o → I2 o = I o := fun o a => by
    have : I2 o = I1 o := funext fun k => d6.1 o k (by omega) (by omega) (by omega)
    rw [this, c4 o (by omega) (by omega) (by omega) (by omega)]
  have fj2 : ∀ o, 31 ≤ o → J2 o = J o := fun o a => d6.2 o (by omega) (by omega)
  have i174 : I2 17 4 = I1 17 4 := d6.1 17 4 (by omega) (by decide) (by decide)
  by_cases hs : (yTrF B n).1 = 0
  · obtain ⟨y1, y2⟩ := yTrF_s hs
    have dp := d5 y1
    have wt := wNewD (y := y) d4 dp y2 hv.2.2.1
    obtain ⟨V, hV⟩ : ∃ V, V = zu I2 17 4 0 := ⟨_, rfl⟩
    have vo : ∀ o, o ≠ 17 → V o = I2 o := fun o a => by rw [hV, zu_o a]
    have vx : cDat V J2 (yTrk B n).2 := by
      unfold cDat
      rw [vo 24 (by decide), vo 25 (by decide), vo 26 (by decide), vo 27 (by decide), vo 22 (by decide)]
      exact d3
    have e16 := (cTEnd (d := 59) (L := L) (J := J2) (r := r) (by decide) (zi ((0 : Nat) : Int)) (zi (n : Int)) d2).2 hs
    obtain ⟨IC, JC, f1, f2, ⟨f3, f4, f5⟩, f6, f7, f8, f9, f10⟩ := cTellT (d := 59) (L := L) (r := r) (by decide) vx d4
    have run : zCd zT 60 139 (.ref 16 :: [.int (zi ((0 : Nat) : Int)), .int (zi (n : Int))]) (zm L I J r) = some (some (.int (zi ((yTrk B n).2.1.n : Int))), zm L IC JC r) := by
      refine (show _ = _ from c1).trans ?_
      rw [k12, e16, eX11_text_16, if_pos (show zi ((0 : Nat) : Int) = (0 : Int32) from rfl), ← hV, f1, zbI_s, eX11_text_17, eX11_text_19]
    have frC : ∀ o k, 31 ≤ o → ¬ (32 ≤ o ∧ o ≤ 35) → o ≠ 37 → ¬ ((o = 39 ∨ o = 41 ∨ o = 49 ∨ o = 51) ∧ k = 3) → o ≠ 55 → o ≠ 120 → IC o k = I o k := fun o k a b c d e f => by rw [f9 o k b c d e f, vo o (by omega), fr2 o a]
    have hi : ∀ o, 121 ≤ o → IC o = I o := fun o a => funext fun k => frC o k (by omega) (by omega) (by omega) (by omega) (by omega) (by omega)
    have jC : ∀ o, 31 ≤ o → o ≠ 32 → o ≠ 36 → o ≠ 38 → JC o = J o := fun o a b c d => by rw [f10 o b c d, fj2 o a]
    have v17 : IC 17 = V 17 := funext fun k => f9 17 k (by omega) (by decide) (by omega) (by decide) (by decide)
    obtain ⟨a1, a2, a3, a6, a7, a8, a9, a10⟩ := d2.2.1 hs
    have c174 : IC 17 4 = 0 := by rw [v17, hV, zu_y ⟨rfl, rfl⟩]
    have c1711 : IC 17 11 = 0 := by rw [v17, hV, zu_n (by decide), a9]
    have c1712 : IC 17 12 = -1 := by rw [v17, hV, zu_n (by decide), a10]
    obtain ⟨I3, m1, m2, m3, ⟨m4, m5, m6, m7, m8⟩, m9, m10⟩ := mFrn (d := 60) (L := L) (J := JC) (r := r) (I := IC) (by decide) hn hB (fun k hk => by rw [hi 134 (by decide)]; exact ht k hk) (a := 0) (T := T) (by decide) hT (by rw [hi 130 (by decide)]; exact t2) (fun z => absurd z (by decide))
    have mx : mDat I3 (yTn, false, false) := by
      refine ⟨?_, fun p hp => absurd hp (Nat.not_lt_zero p), ?_, fun p hp => absurd hp (Nat.not_lt_zero p), ?_, fun p hp => absurd hp (Nat.not_lt_zero p), ?_, fun p hp => absurd hp (Nat.not_lt_zero p), ?_, ?_, m7, m8⟩
      · rw [m3 0 (by decide), if_neg (by decide)]
        rfl
      · rw [m3 61 (by decide), if_neg (by decide)]
        rfl
      · rw [m3 67 (by decide), if_neg (by decide)]
        rfl
      · rw [m3 74 (by decide), if_neg (by decide)]
        rfl
      · rw [m3 79 (by decide), if_pos rfl]
        rfl
      · rw [m3 80 (by decide), if_neg (by decide)]
        rfl
    obtain ⟨I4, n1, n2, n3, n4, n5⟩ := mTrkR (d := 59) (L := L) (J := JC) (r := r) (by decide) hn hB (zi (n : Int)) (zi ((618 : Nat) : Int)) m2 mx
    obtain ⟨p1, p2⟩ := n3 hs
    have p11 := (n2.2.1 hs).2.2.1
    obtain ⟨I5, q1, q2, ⟨q3, q4, q5, q6, q7, q8⟩, q9, q10, q11, q12, q13⟩ := mEndT (d := 59) (L := L) (J := JC) (r := r) (zi (n : Int)) (zi ((618 : Nat) : Int)) p11
    have run2 : zCd zT 60 269 (.ref 130 :: [.int (zi ((0 : Nat) : Int)), .int (zi (n : Int))]) (zm L IC JC r) = some (some (.int (zi ((yTrk B n).2.1.n : Int))), zm L I5 JC r) := by
      have n1' : zX 0 (zCd zT (60 - 1)) zc_X12_text 11 [some (.ref 130), some (.int (zi ((0 : Nat) : Int))), some (.int (zi (n : Int))), some (.int (zi ((618 : Nat) : Int)))] [] (zm L I3 JC r) = _ := n1
      refine (show _ = _ from m1).trans ?_
      rw [n1', q1, p1.1]
    have fr5 : ∀ o, o ≠ 130 → o ≠ 131 → o ≠ 132 → I5 o = IC o := fun o a b c => by
      have : I4 o = I3 o := funext fun k => n4 o k (by omega) (by omega) (by omega)
      rw [q13 o a b, this, m9 o a c]
    have e131 : I4 131 = I 131 := by
      have : I4 131 = I3 131 := funext fun k => n4 131 k (by omega) (by omega) (by omega)
      rw [this, m9 131 (by decide) (by decide), hi 131 (by decide)]
    refine ⟨_, IC, JC, r, I5, JC, r, yNewD (yTrk B n).2.1 y, z0, z1, run, run2, hr, zV_new (fun o k a b => ?_) ?_ ?_ ?_ ?_ (fun k hk => ?_) (fun o a => jC o (by omega) (by omega) (by omega) (by omega)) ?_ ⟨⟨0, Nat.zero_le _, ?_, ?_, fun k hk => absurd hk (Nat.not_lt_zero k)⟩, ?_, ?_⟩ ?_ ?_ wt ?_ hv⟩
    · rw [fr5 o (by omega) (by omega) (by omega), frC o k (by omega) (by omega) (by omega) (by omega) (by omega) (by omega)]
    · rw [fr5 119 (by decide) (by decide) (by decide)]
      exact funext fun k => frC 119 k (by omega) (by omega) (by omega) (by omega) (by omega) (by omega)
    · rw [fr5 133 (by decide) (by decide) (by decide), hi 133 (by decide)]
    · rw [fr5 145 (by decide) (by decide) (by decide), hi 145 (by decide)]
    · rw [fr5 146 (by decide) (by decide) (by decide), hi 146 (by decide)]
    · rw [q9 k (by omega) (by omega) (by omega) (by omega) (by omega) (by omega) (by omega), e131]
    · rw [q12 25 (by decide) (by decide), n4 130 25 (by omega) (by omega) (by omega), m10 25 (by decide) (by decide) (by decide), hi 130 (by decide)]
    · rw [fr5 17 (by decide) (by decide) (by decide)]
      exact c174
    · rw [q12 5 (by decide) (by decide), n4 130 5 (by omega) (by omega) (by omega), m4]
      rfl
    · rw [fr5 17 (by decide) (by decide) (by decide), c1711, q10]
    · rw [fr5 17 (by decide) (by decide) (by decide), c1712, q11]
    · have fC : ∀ o, 31 ≤ o → o ≤ 55 → I5 o = IC o := fun o a b => fr5 o (by omega) (by omega) (by omega)
      refine ⟨cTr_fr (D := 0) (fun o a b => fC o (by omega) (by omega)) (fun o a b => rfl) f2, ⟨?_, fun b hb => ?_, fun b s hb hs => ?_⟩, fun q hq => ?_, fun k hk => ?_⟩
      · show I5 37 2 = _
        rw [fC 37 (by decide) (by decide), f4]
        rfl
      · show (zus (I5 37 1) (zi (b : Int)) &&& 1 = 0 ↔ _)
        have hz : zus (0 : Int32) (zi (b : Int)) &&& 1 = 0 ↔ (0 : Nat).testBit b = false := yZusB (s := 0) (by decide) (by omega)
        rw [fC 37 (by decide) (by decide), f3, hz, Nat.zero_testBit]
        exact ⟨fun _ ⟨k, z, _⟩ => absurd z (Nat.not_lt_zero k), fun _ => rfl⟩
      · show (lg_cmp (zul (JC 38 b) (zi (s : Int)) &&& 1) 0 = 0 ↔ _)
        rw [f5 b hb, yL64a hs, yL64_0]
        exact ⟨fun _ ⟨k, z, _⟩ => absurd z (Nat.not_lt_zero k), fun _ => rfl⟩
      · show cTb (39 + 2 * q + 0) q I5 (if q = 0 ∨ q = 1 ∨ q = 5 ∨ q = 6 then (0, fun _ _ => 0) else y.2.2.1 q)
        obtain ⟨g0, g1, g3, g4⟩ := hv.1.2.2.1 q hq
        have g0' : I (39 + 2 * q) 0 = zi (zMs q) := g0
        have g1' : I (39 + 2 * q) 1 = zi (zWd q) := g1
        by_cases z : q = 0 ∨ q = 1 ∨ q = 5 ∨ q = 6
        · rw [if_pos z]
          refine ⟨?_, ?_, ?_, fun k f hk => absurd hk (Nat.not_lt_zero k)⟩
          · rw [Nat.add_zero, fC (39 + 2 * q) (by omega) (by omega), frC (39 + 2 * q) 0 (by omega) (by omega) (by omega) (by omega) (by omega) (by omega)]
            exact g0'
          · rw [Nat.add_zero, fC (39 + 2 * q) (by omega) (by omega), frC (39 + 2 * q) 1 (by omega) (by omega) (by omega) (by omega) (by omega) (by omega)]
            exact g1'
          · rw [Nat.add_zero, fC (39 + 2 * q) (by omega) (by omega), f6 q z]
            rfl
        · rw [if_neg z]
          exact cTb_fr (by rw [Nat.add_zero, fC (39 + 2 * q) (by omega) (by omega)]; exact funext fun k => frC (39 + 2 * q) k (by omega) (by omega) (by omega) (by omega) (by omega) (by omega)) (by rw [Nat.add_zero, fC (39 + 2 * q + 1) (by omega) (by omega)]; exact funext fun k => frC (39 + 2 * q + 1) k (by omega) (by omega) (by omega) (by omega) (by omega) (by omega)) (hv.1.2.2.1 q hq)
      · show I5 55 k = zi 0
        rw [fC 55 (by decide) (by decide), f7 k hk]
        rfl
    · obtain ⟨s1, s2, s3, s4, s5, s6, s7, s8, s9, s10, _⟩ := p1
      obtain ⟨w1, w2, w3, w4, w5, w6, w7, w8⟩ := d4
      refine ⟨⟨?_, fun p hp => ?_, ?_, fun i hi => ?_, ?_, fun c hc => ?_, ?_, fun c hc => ?_, ?_, ?_⟩, ⟨?_, fun k hk => absurd hk (Nat.not_lt_zero k)⟩, fun q hq => ?_, fun k hk => ?_⟩
      · show I5 131 0 = _
        rw [q2 0 (by decide)]
        exact s1
      · have hp' : p < (yTrk B n).2.1.n := hp
        rw [Nat.zero_add, q2 (1 + p) (by omega)]
        exact s2 p hp
      · rw [Nat.zero_add, q2 61 (by decide)]
        exact s3
      · have hi' : i < (yTrk B n).2.1.m := hi
        rw [Nat.zero_add, q2 (62 + i) (by omega)]
        exact s4 i hi
      · rw [Nat.zero_add, q2 67 (by decide)]
        exact s5
      · have hc' : c < (yTrk B n).2.1.nc := hc
        rw [Nat.zero_add, Nat.zero_add, Nat.zero_add, q2 (68 + c) (by omega), q2 (70 + c) (by omega), q2 (72 + c) (by omega)]
        exact s6 c hc
      · rw [Nat.zero_add, q2 74 (by decide)]
        exact s7
      · have hc' : c < (yTrk B n).2.1.nd := hc
        rw [Nat.zero_add, Nat.zero_add, q2 (75 + c) (by omega), q2 (77 + c) (by omega)]
        exact s8 c hc
      · rw [Nat.zero_add, q2 79 (by decide)]
        exact s9
      · rw [Nat.zero_add, q2 80 (by decide)]
        exact s10
      · show I5 131 (0 + 81) = _
        rw [Nat.zero_add, q2 81 (by decide), n4 132 81 (by omega) (by omega) (by omega), m3 81 (by decide), if_neg (by decide)]
        rfl
      · show mTb q (fun k => I5 131 (0 + k)) (if q = 0 ∨ q = 1 ∨ q = 5 ∨ q = 6 then (0, fun _ _ => 0) else y.2.2.1 q)
        by_cases z : q = 0 ∨ q = 1 ∨ q = 5 ∨ q = 6
        · rw [if_pos z]
          refine ⟨?_, fun k f hk => absurd hk (Nat.not_lt_zero k)⟩
          show I5 131 (0 + zBs q) = _
          rw [Nat.zero_add]
          rcases z with rfl | rfl | rfl | rfl
          · exact q3
          · exact q4
          · exact q5
          · exact q6
        · rw [if_neg z]
          refine mTb_fr hq (hv.2.2.1.2.2.1 q hq) (fun k a b => ?_) (hv.2.1.2.2.1 q hq)
          try dsimp only
          rw [Nat.zero_add]
          obtain rfl | rfl | rfl | rfl : q = 2 ∨ q = 3 ∨ q = 4 ∨ q = 7 := by omega
          · have a' : 674 ≤ k := a
            have b' : k < 674 + 21 := b
            rw [q9 k (by omega) (by omega) (by omega) (by omega) (by omega) (by omega) (by omega), e131]
          · have a' : 695 ≤ k := a
            have b' : k < 695 + 17 := b
            rw [q9 k (by omega) (by omega) (by omega) (by omega) (by omega) (by omega) (by omega), e131]
          · have a' : 712 ≤ k := a
            have b' : k < 712 + 21 := b
            rw [q9 k (by omega) (by omega) (by omega) (by omega) (by omega) (by omega) (by omega), e131]
          · have a' : 856 ≤ k := a
            have b' : k < 856 + 25 := b
            rw [q9 k (by omega) (by omega) (by omega) (by omega) (by omega) (by omega) (by omega), e131]
      · show I5 131 (0 + (881 + k)) = zi 0
        obtain rfl | rfl : k = 0 ∨ k = 1 := by omega
        · exact q7
        · exact q8
    · intro l hl
      rw [fr5 120 (by decide) (by decide) (by decide)]
      exact Or.inl (f8 l hl)
  · have e16 := (cTEnd (d := 59) (L := L) (J := J2) (r := r) (by decide) (zi ((0 : Nat) : Int)) (zi (n : Int)) d2).1 hs
    obtain ⟨V, hV⟩ : ∃ V, V = zu I2 17 4 0 := ⟨_, rfl⟩
    have vo : ∀ o, o ≠ 17 → V o = I2 o := fun o a => by rw [hV, zu_o a]
    have run : zCd zT 60 139 (.ref 16 :: [.int (zi ((0 : Nat) : Int)), .int (zi (n : Int))]) (zm L I J r) = some (some (.int (zi (-10 - ((yTrF B n).1 : Int)))), zm L V J2 r) := by
      refine (show _ = _ from c1).trans ?_
      rw [k12, e16, hV]
    obtain ⟨b1, b2, b3, b4, b5⟩ := d2.2.2 hs
    have hi : ∀ o, 31 ≤ o → V o = I o := fun o a => by rw [vo o (by omega), fr2 o a]
    obtain ⟨I3, m1, m2, m3, ⟨m4, m5, m6, m7, m8⟩, m9, m10⟩ := mFrn (d := 60) (L := L) (J := J2) (r := r) (I := V) (by decide) hn hB (fun k hk => by rw [hi 134 (by decide)]; exact ht k hk) (a := 0) (T := T) (by decide) hT (by rw [hi 130 (by decide)]; exact t2) (fun z => absurd z (by decide))
    have mx : mDat I3 (yTn, false, false) := by
      refine ⟨?_, fun p hp => absurd hp (Nat.not_lt_zero p), ?_, fun p hp => absurd hp (Nat.not_lt_zero p), ?_, fun p hp => absurd hp (Nat.not_lt_zero p), ?_, fun p hp => absurd hp (Nat.not_lt_zero p), ?_, ?_, m7, m8⟩
      · rw [m3 0 (by decide), if_neg (by decide)]
        rfl
      · rw [m3 61 (by decide), if_neg (by decide)]
        rfl
      · rw [m3 67 (by decide), if_neg (by decide)]
        rfl
      · rw [m3 74 (by decide), if_neg (by decide)]
        rfl
      · rw [m3 79 (by decide), if_pos rfl]
        rfl
      · rw [m3 80 (by decide), if_neg (by decide)]
        rfl
    obtain ⟨I4, n1, n2, n3, n4, n5⟩ := mTrkR (d := 59) (L := L) (J := J2) (r := r) (by decide) hn hB (zi (n : Int)) (zi ((618 : Nat) : Int)) m2 mx
    have q1 := mEndF (d := 59) (L := L) (J := J2) (r := r) 0 (zi (n : Int)) (zi ((618 : Nat) : Int)) n2 hs (n5 hs)
    obtain ⟨I5, hI5⟩ : ∃ I5, I5 = zu (zu I4 130 15 (zi ((yTrF B n).1 : Int))) 130 16 (zi ((yTrF B n).2 : Int)) := ⟨_, rfl⟩
    rw [← hI5] at q1
    have run2 : zCd zT 60 269 (.ref 130 :: [.int (zi ((0 : Nat) : Int)), .int (zi (n : Int))]) (zm L V J2 r) = some (some (.int (zi (-10 - ((yTrF B n).1 : Int)))), zm L I5 J2 r) := by
      have n1' : zX 0 (zCd zT (60 - 1)) zc_X12_text 11 [some (.ref 130), some (.int (zi ((0 : Nat) : Int))), some (.int (zi (n : Int))), some (.int (zi ((618 : Nat) : Int)))] [] (zm L I3 J2 r) = _ := n1
      refine (show _ = _ from m1).trans ?_
      rw [n1', q1]
    have fr5 : ∀ o, o ≠ 130 → o ≠ 132 → I5 o = V o := fun o a c => by
      have : I4 o = I3 o := funext fun k => n4 o k (by omega) (by omega) (by omega)
      rw [hI5, zu_o a, zu_o a, this, m9 o a c]
    refine ⟨_, V, J2, r, I5, J2, r, y, z0, z1, run, run2, hr, zV_no (fun o a b c => by rw [fr5 o b c, hi o a]) fj2 ?_ ⟨⟨0, Nat.zero_le _, ?_, ?_, fun k hk => absurd hk (Nat.not_lt_zero k)⟩, ?_, ?_⟩ hv⟩
    · rw [hI5, zu_n (by decide), zu_n (by decide), n4 130 25 (by omega) (by omega) (by omega), m10 25 (by decide) (by decide) (by decide), hi 130 (by decide)]
    · rw [fr5 17 (by decide) (by decide), hV, zu_y ⟨rfl, rfl⟩]
      rfl
    · rw [hI5, zu_n (by decide), zu_n (by decide), n4 130 5 (by omega) (by omega) (by omega), m4]
      rfl
    · rw [fr5 17 (by decide) (by decide), hV, zu_n (by decide), b3, hI5, zu_n (by decide), zu_y ⟨rfl, rfl⟩]
    · rw [fr5 17 (by decide) (by decide), hV, zu_n (by decide), b4, hI5, zu_y ⟨rfl, rfl⟩]
