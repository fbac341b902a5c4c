/-! TEXT of THE CONTROLLER: the class and the model answer the same -/
theorem oTxR {L c r n T : Nat} {I : Nat → Nat → Int32} {J : Nat → Nat → Int64} {y : zFd} {z0 z1 : Bool × zFd} (hr : zRr r) (hv : zV c I J y z0 z1) (hy : y.1.n ≠ 0) (hT : n ≤ T ∧ T ≤ 400) (t1 : I 17 4 = zi (T : Int)) (t2 : I 130 5 = zi (T : Int)) {B : Nat → Nat} (hB : ∀ k, k < n → B k < 256) (hb : ∀ k, k < n → I 18 k = zi (B k : Int)) (ht : ∀ k, k < n → I 134 k = zi (B k : Int)) : zGo 139 269 [.int (zi ((1 : Nat) : Int)), .int (zi (n : Int))] L c r I J := by
  have hn : n ≤ 400 := by omega
  have hw := hv.2.2.1
  have wn : y.1.n ≤ 60 := by
    have := hw.1.1
    omega
  have wm : y.1.m ≤ 5 := hw.1.2.2.1
  have e325 : I 32 5 = zi (y.1.n : Int) := hv.1.1.1
  have e326 : I 32 6 = zi (y.1.m : Int) := hv.1.1.2.2.1
  have e0 : I 131 0 = zi (y.1.n : Int) := hv.2.1.1.1
  have e61 : I 131 61 = zi (y.1.m : Int) := hv.2.1.1.2.2.1
  have n0 : ¬ I 32 5 = 0 := by
    rw [e325]
    exact yNe0 (by omega) hy
  have n1 : ¬ I 131 0 ≤ 0 := by
    rw [e0, show (0 : Int32) = zi ((0 : Nat) : Int) from rfl, yLe (by omega) (by omega)]
    omega
  have hbk : 1 ≤ y.1.m + 1 ∧ y.1.m + 1 ≤ 6 := by omega
  obtain ⟨I1, c1, c2, c3, c4⟩ := cTFrn (d := 60) (L := L) (J := J) (r := r) (by decide) hn hB hb (a := 1) (by decide) hT t1 (fun _ => n0)
  obtain ⟨I2, J2, d1, d2, d3, d4, d5⟩ := cCtl (d := 59) (L := L) (J := J) (r := r) (by decide) hn hB hbk c2
  have k12 : zX 0 (zCd zT (60 - 1)) zc_X11_text 8 [some (.ref 16), some (.int (zi ((1 : Nat) : Int))), some (.int (zi (n : Int)))] [] (zm L I1 J r) = zX 0 (zCd zT 59) zc_X11_text 12 [some (.ref 16), some (.int (zi ((1 : Nat) : Int))), some (.int (zi (n : Int)))] [] (zm L I2 J2 r) := by
    rw [eX11_text_8, if_neg (show ¬ zi ((1 : Nat) : Int) = (0 : Int32) by decide), eX11_text_10, sX9_blocks (by decide) (by decide), zbI_s, c4 32 (by decide) (by decide) (by decide) (by decide), if_neg n0, e326, yZ1, eX11_text_11, d1, zbV_s]
  have fr2 : ∀ o, 31 ≤ o → I2 o = I o := fun o a => by
    have : I2 o = I1 o := funext fun k => d4 o k (by omega) (by omega) (by omega)
    rw [this, c4 o (by omega) (by omega) (by omega) (by omega)]
  have fj2 : ∀ o, 31 ≤ o → J2 o = J o := fun o a => d5 o (by omega)
  obtain ⟨V, hV⟩ : ∃ V, V = zu I2 17 4 0 := ⟨_, rfl⟩
  have vo : ∀ o, o ≠ 17 → V o = I2 o := fun o a => by rw [hV, zu_o a]
  have hiV : ∀ o, 31 ≤ o → V o = I o := fun o a => by rw [vo o (by omega), fr2 o a]
  by_cases hs : (yCtl B n (y.1.m + 1)).1.1 = 0
  · have e16 := (cTEnd (d := 59) (L := L) (J := J2) (r := r) (by decide) (zi ((1 : Nat) : Int)) (zi (n : Int)) d2).2 hs
    obtain ⟨u1, ⟨R, hR, u2, u3⟩, u4⟩ := d3
    obtain ⟨IC, hIC⟩ : ∃ IC, IC = zu (zu V 37 1 (V 29 1)) 37 2 (V 29 2) := ⟨_, rfl⟩
    obtain ⟨JC, hJC⟩ : ∃ JC, JC = zcJ J2 30 0 38 0 6 := ⟨_, rfl⟩
    have run : zCd zT 60 139 (.ref 16 :: [.int (zi ((1 : Nat) : Int)), .int (zi (n : Int))]) (zm L I J r) = some (some (.int (zi ((yCtl B n (y.1.m + 1)).2.1 : Int))), zm L IC JC r) := by
      refine (show _ = _ from c1).trans ?_
      rw [k12, e16, ← hV, eX11_text_16, if_neg (show ¬ zi ((1 : Nat) : Int) = (0 : Int32) by decide), eX11_text_18, sX11_tellRules (by decide), zbI_s, eX11_text_19, ← hIC, ← hJC, vo 29 (by decide), u1]
    have fC : ∀ o, 31 ≤ o → o ≠ 37 → IC o = I o := fun o a b => by rw [hIC, zu_o b, zu_o b, hiV o a]
    have jC : ∀ o, 31 ≤ o → o ≠ 38 → JC o = J o := fun o a b => by rw [hJC, zcJ_o b, fj2 o a]
    have c17 : ∀ k, IC 17 k = V 17 k := fun k => by rw [hIC, zu_o (by decide), zu_o (by decide)]
    obtain ⟨a1, a2, a3, a6, a7, a8, a9, a10⟩ := d2.2.1 hs
    obtain ⟨I3, m1, m2, m3, ⟨m4, m5, m6, m7, m8⟩, m9, m10⟩ := mFrn (d := 60) (L := L) (J := JC) (r := r) (I := IC) (by decide) hn hB (fun k hk => by rw [fC 134 (by decide) (by decide)]; exact ht k hk) (a := 1) (T := T) (by decide) hT (by rw [fC 130 (by decide) (by decide)]; exact t2) (fun _ => by rw [fC 131 (by decide) (by decide)]; exact n1)
    have mb : mBk I3 (y.1.m + 1) := by
      unfold mBk
      rw [m9 131 (by decide) (by decide), fC 131 (by decide) (by decide), if_neg n1, if_neg (show ¬ (1 : Int32) = 0 by decide), e61, yZ1]
    have mu : mRu I3 yUn0 0 := ⟨by rw [m3 81 (by decide), if_neg (by decide)]; rfl, fun k hk => absurd hk (Nat.not_lt_zero k)⟩
    obtain ⟨I4, st, n2, n3, n4, n5, n6, n7⟩ := mRlsL (d := 59) (L := L) (J := JC) (r := r) (bk := y.1.m + 1) (by decide) hn hB hbk (zi (n : Int)) (zi ((618 : Nat) : Int)) 13 I3 (yTo B n 0, yUn0) 0 (fun _ => show 12 < 13 + 0 by decide) m2 (fun _ => mu) mb m5 m6 (Nat.zero_le _) (Nat.zero_le _)
    have pe : yRls B n (y.1.m + 1) 13 (yTo B n 0, yUn0) = yCtl B n (y.1.m + 1) := rfl
    rw [pe] at n3 n5 n7
    obtain ⟨p1, p2⟩ := n5 hs
    have p11 := (n3.2.1 hs).2.2.1
    obtain ⟨I5, q1, q2, q3, q4, q5, q6, q7⟩ := mEndR (d := 59) (L := L) (J := JC) (r := r) (zi (n : Int)) (zi ((618 : Nat) : Int)) p11
    have run2 : zCd zT 60 269 (.ref 130 :: [.int (zi ((1 : Nat) : Int)), .int (zi (n : Int))]) (zm L IC JC r) = some (some (.int (zi ((yCtl B n (y.1.m + 1)).2.1 : Int))), zm L I5 JC r) := by
      have n2' : zX 0 (zCd zT (60 - 1)) zc_X12_text 11 [some (.ref 130), some (.int (zi ((1 : Nat) : Int))), some (.int (zi (n : Int))), some (.int (zi ((618 : Nat) : Int)))] [] (zm L I3 JC r) = _ := n2
      refine (show _ = _ from m1).trans ?_
      rw [n2', eX12_text_15, if_neg (show ¬ (1 : Int32) = 0 by decide), q1, p1]
    have fr5 : ∀ o, o ≠ 130 → o ≠ 131 → o ≠ 132 → I5 o = IC o := fun o a b c => by
      have : I4 o = I3 o := funext fun k => n6 o k (by omega) (by omega) (by omega)
      rw [q7 o a b, this, m9 o a c]
    have e131 : I4 131 = I 131 := by
      have : I4 131 = I3 131 := funext fun k => n6 131 k (by omega) (by omega) (by omega)
      rw [this, m9 131 (by decide) (by decide), fC 131 (by decide) (by decide)]
    have cw := yCtl_w (B := B) (n := n) (bk := y.1.m + 1)
    have wl := wDay_le (Nat.le_succ c) hw
    have low : ∀ o, 31 ≤ o → o ≤ 55 → o ≠ 37 → I5 o = I o := fun o a b c => by rw [fr5 o (by omega) (by omega) (by omega), fC o a c]
    refine ⟨_, IC, JC, r, I5, JC, r, (y.1, (yCtl B n (y.1.m + 1)).2, y.2.2), z0, z1, run, run2, hr, zV_new (fun o k a b => ?_) ?_ ?_ ?_ ?_ (fun k hk => ?_) (fun o a => jC o (by omega) (by omega)) ?_ ⟨⟨0, Nat.zero_le _, ?_, ?_, fun k hk => absurd hk (Nat.not_lt_zero k)⟩, ?_, ?_⟩ ?_ ?_ ?_ ?_ hv⟩
    · rw [fr5 o (by omega) (by omega) (by omega), fC o (by omega) (by omega)]
    · rw [fr5 119 (by decide) (by decide) (by decide), fC 119 (by decide) (by decide)]
    · rw [fr5 133 (by decide) (by decide) (by decide), fC 133 (by decide) (by decide)]
    · rw [fr5 145 (by decide) (by decide) (by decide), fC 145 (by decide) (by decide)]
    · rw [fr5 146 (by decide) (by decide) (by decide), fC 146 (by decide) (by decide)]
    · rw [q3 k (by omega), e131]
    · rw [q6 25 (by decide) (by decide), n6 130 25 (by omega) (by omega) (by omega), m10 25 (by decide) (by decide) (by decide), fC 130 (by decide) (by decide)]
    · rw [fr5 17 (by decide) (by decide) (by decide), c17, hV, zu_y ⟨rfl, rfl⟩]
      rfl
    · rw [q6 5 (by decide) (by decide), n6 130 5 (by omega) (by omega) (by omega), m4]
      rfl
    · rw [fr5 17 (by decide) (by decide) (by decide), c17, hV, zu_n (by decide), a9, q4]
    · rw [fr5 17 (by decide) (by decide) (by decide), c17, hV, zu_n (by decide), a10, q5]
    · refine ⟨cTr_fr (D := 0) (fun o a b => low _ (by omega) (by omega) (by omega)) (fun o a b => jC _ (by omega) (by omega)) hv.1.1, ⟨?_, fun b hb => ?_, fun b s hb hs => ?_⟩, fun q hq => cTb_fr (low _ (by omega) (by omega) (by omega)) (low _ (by omega) (by omega) (by omega)) (hv.1.2.2.1 q hq), fun k hk => ?_⟩
      · show I5 37 2 = _
        rw [fr5 37 (by decide) (by decide) (by decide), hIC, zu_y ⟨rfl, rfl⟩, vo 29 (by decide)]
        exact u1
      · show (zus (I5 37 1) (zi (b : Int)) &&& 1 = 0 ↔ _)
        rw [fr5 37 (by decide) (by decide) (by decide), hIC, zu_n (by decide), zu_y ⟨rfl, rfl⟩, vo 29 (by decide), u2, yZusB (by omega) (by omega)]
        have h3 := u3 b hb
        constructor
        · intro w z
          rw [h3.mpr z] at w
          cases w
        · intro w
          exact Bool.eq_false_iff.mpr (fun z => w (h3.mp z))
      · show (lg_cmp (zul (JC 38 b) (zi (s : Int)) &&& 1) 0 = 0 ↔ _)
        rw [hJC, zcJ_y hb, yL64a hs]
        have h4 := u4 b s hb hs
        constructor
        · intro w z
          rw [h4.mpr z] at w
          cases w
        · intro w
          exact Bool.eq_false_iff.mpr (fun z => w (h4.mp z))
      · show I5 55 k = _
        rw [low 55 (by decide) (by decide) (by decide)]
        exact hv.1.2.2.2 k hk
    · refine ⟨mTr_fr hw.1 (fun k a => by rw [Nat.zero_add, q3 k (by omega), e131]) hv.2.1.1, ⟨?_, fun k hk => ?_⟩, fun q hq => mTb_fr hq (hw.2.2.1 q hq) (fun k a b => ?_) (hv.2.1.2.2.1 q hq), fun k hk => ?_⟩
      · show I5 131 (0 + 81) = _
        rw [Nat.zero_add, q2 81 (by decide) (by decide)]
        exact p1
      · obtain ⟨x1, fr, m, x2, x3, x4, x5⟩ := p2 k hk
        have hk' : k < 12 := Nat.lt_of_lt_of_le hk cw.1
        refine ⟨?_, fr, m, ?_, ?_, by omega, fun s hs => ?_⟩
        · show I5 131 (0 + (82 + k)) = _
          rw [Nat.zero_add, q2 (82 + k) (by omega) (by omega)]
          exact x1
        · show I5 131 (0 + (94 + k)) = _
          rw [Nat.zero_add, q2 (94 + k) (by omega) (by omega)]
          exact x2
        · show I5 131 (0 + (106 + k)) = _
          rw [Nat.zero_add, q2 (106 + k) (by omega) (by omega)]
          exact x3
        · rw [zPl_c (g' := I4 132) m fr [] (fun k a b => by rw [Nat.zero_add, q2 k (by omega) (by omega)])]
          exact x5 s hs
      · have hz := zBs_r hq
        rw [Nat.zero_add, q3 k (by omega), e131]
      · show I5 131 (0 + (881 + k)) = _
        rw [Nat.zero_add, q3 (881 + k) (by omega), e131]
        have := hv.2.1.2.2.2 k hk
        rw [Nat.zero_add] at this
        exact this
    · exact ⟨wl.1, ⟨cw.1, fun k hk => by have := cw.2 k hk; show (yCtl B n (y.1.m + 1)).2.2.1 k ≤ y.1.m; omega⟩, wl.2.2⟩
    · intro l hl
      rw [fr5 120 (by decide) (by decide) (by decide), fC 120 (by decide) (by decide)]
      exact hv.2.2.2.2.2.2.2.2.2 l hl
  · have e16 := (cTEnd (d := 59) (L := L) (J := J2) (r := r) (by decide) (zi ((1 : Nat) : Int)) (zi (n : Int)) d2).1 hs
    have run : zCd zT 60 139 (.ref 16 :: [.int (zi ((1 : Nat) : Int)), .int (zi (n : Int))]) (zm L I J r) = some (some (.int (zi (-10 - ((yCtl B n (y.1.m + 1)).1.1 : Int)))), zm L V J2 r) := by
      refine (show _ = _ from c1).trans ?_
      rw [k12, e16, hV]
    obtain ⟨b1, b2, b3, b4, b5⟩ := d2.2.2 hs
    obtain ⟨I3, m1, m2, m3, ⟨m4, m5, m6, m7, m8⟩, m9, m10⟩ := mFrn (d := 60) (L := L) (J := J2) (r := r) (I := V) (by decide) hn hB (fun k hk => by rw [hiV 134 (by decide)]; exact ht k hk) (a := 1) (T := T) (by decide) hT (by rw [hiV 130 (by decide)]; exact t2) (fun _ => by rw [hiV 131 (by decide)]; exact n1)
    have mb : mBk I3 (y.1.m + 1) := by
      unfold mBk
      rw [m9 131 (by decide) (by decide), hiV 131 (by decide), if_neg n1, if_neg (show ¬ (1 : Int32) = 0 by decide), e61, yZ1]
    have mu : mRu I3 yUn0 0 := ⟨by rw [m3 81 (by decide), if_neg (by decide)]; rfl, fun k hk => absurd hk (Nat.not_lt_zero k)⟩
    obtain ⟨I4, st, n2, n3, n4, n5, n6, n7⟩ := mRlsL (d := 59) (L := L) (J := J2) (r := r) (bk := y.1.m + 1) (by decide) hn hB hbk (zi (n : Int)) (zi ((618 : Nat) : Int)) 13 I3 (yTo B n 0, yUn0) 0 (fun _ => show 12 < 13 + 0 by decide) m2 (fun _ => mu) mb m5 m6 (Nat.zero_le _) (Nat.zero_le _)
    have pe : yRls B n (y.1.m + 1) 13 (yTo B n 0, yUn0) = yCtl B n (y.1.m + 1) := rfl
    rw [pe] at n3 n5 n7
    have q1 := mEndF (d := 59) (L := L) (J := J2) (r := r) 1 (zi (n : Int)) (zi ((618 : Nat) : Int)) n3 hs (n7 hs)
    obtain ⟨I5, hI5⟩ : ∃ I5, I5 = zu (zu I4 130 15 (zi ((yCtl B n (y.1.m + 1)).1.1 : Int))) 130 16 (zi ((yCtl B n (y.1.m + 1)).1.2 : Int)) := ⟨_, rfl⟩
    rw [← hI5] at q1
    have run2 : zCd zT 60 269 (.ref 130 :: [.int (zi ((1 : Nat) : Int)), .int (zi (n : Int))]) (zm L V J2 r) = some (some (.int (zi (-10 - ((yCtl B n (y.1.m + 1)).1.1 : Int)))), zm L I5 J2 r) := by
      have n2' : zX 0 (zCd zT (60 - 1)) zc_X12_text 11 [some (.ref 130), some (.int (zi ((1 : Nat) : Int))), some (.int (zi (n : Int))), some (.int (zi ((618 : Nat) : Int)))] [] (zm L I3 J2 r) = _ := n2
      refine (show _ = _ from m1).trans ?_
      rw [n2', eX12_text_15, if_neg (show ¬ (1 : Int32) = 0 by decide), q1]
    have fr5 : ∀ o, o ≠ 130 → o ≠ 132 → I5 o = V o := fun o a c => by
      have : I4 o = I3 o := funext fun k => n6 o k (by omega) (by omega) (by omega)
      rw [hI5, zu_o a, zu_o a, this, m9 o a c]
    refine ⟨_, V, J2, r, I5, J2, r, y, z0, z1, run, run2, hr, zV_no (fun o a b c => by rw [fr5 o b c, hiV o a]) fj2 ?_ ⟨⟨0, Nat.zero_le _, ?_, ?_, fun k hk => absurd hk (Nat.not_lt_zero k)⟩, ?_, ?_⟩ hv⟩
    · rw [hI5, zu_n (by decide), zu_n (by decide), n6 130 25 (by omega) (by omega) (by omega), m10 25 (by decide) (by decide) (by decide), hiV 130 (by decide)]
    · rw [fr5 17 (by decide) (by decide), hV, zu_y ⟨rfl, rfl⟩]
      rfl
    · rw [hI5, zu_n (by decide), zu_n (by decide), n6 130 5 (by omega) (by omega) (by omega), m4]
      rfl
    · rw [fr5 17 (by decide) (by decide), hV, zu_n (by decide), b3, hI5, zu_n (by decide), zu_y ⟨rfl, rfl⟩]
    · rw [fr5 17 (by decide) (by decide), hV, zu_n (by decide), b4, hI5, zu_y ⟨rfl, rfl⟩]
