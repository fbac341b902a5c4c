/-! TEXT of THE CONTROLLER: the class reads it -/
def yRu1 (B : Nat → Nat) (n : Nat) (s : yTkS) (u : yRl) : yTkS := if yIsK B n s 8 = true then (if 12 ≤ u.1 then yFa B n s 4 else s) else yFa B n s 2
def yRq (B : Nat → Nat) (n bk : Nat) (s : yTkS) (u : yRl) : yTkS × Int := yRdN B n (yNd B n (yRu1 B n s u) 8) 0 ((bk : Int) - 1) true
def yRt (B : Nat → Nat) (n bk : Nat) (s : yTkS) (u : yRl) : yHld := yTes B n (yFac B n bk 8) (yNd B n (yRq B n bk s u).1 9)
def yAdR (u : yRl) (b : Nat) (h : Nat → Bool) : yRl := (u.1 + 1, fun k => if k = u.1 then b else u.2.1 k, fun k i => if k = u.1 then h i else u.2.2 k i)
abbrev yRuX : Type := yTkS × yRl
def yRl0 (B : Nat → Nat) (n bk : Nat) (x : yRuX) : yRuX := ((yRt B n bk x.1 x.2).1, if (yRt B n bk x.1 x.2).1.1 = 0 then yAdR x.2 (yRq B n bk x.1 x.2).2.toNat (yRt B n bk x.1 x.2).2 else x.2)
def yRl1 (B : Nat → Nat) (n bk : Nat) (x : yRuX) : yRuX := (yNd B n (yRl0 B n bk x).1 16, (yRl0 B n bk x).2)
def yRls (B : Nat → Nat) (n bk : Nat) : Nat → yRuX → yRuX
  | 0, x => x
  | f + 1, x => if x.1.1 = 0 ∧ yK B n x.1.2 ≠ 19 then yRls B n bk f (yRl1 B n bk x) else x
def yUn0 : yRl := (0, fun _ => 0, fun _ _ => false)
def yCtl (B : Nat → Nat) (n bk : Nat) : yRuX := yRls B n bk 13 (yTo B n 0, yUn0)
theorem yRl1_1 {B : Nat → Nat} {n bk : Nat} {x : yRuX} : (yRl1 B n bk x).1 = yNd B n (yRl0 B n bk x).1 16 := by simp only [yRl1]
theorem yRl1_2 {B : Nat → Nat} {n bk : Nat} {x : yRuX} : (yRl1 B n bk x).2 = (yRl0 B n bk x).2 := by simp only [yRl1]
theorem yLpo_m {B : Nat → Nat} {n k : Nat} {op : Bool → Bool → Bool} {F : yTkS → yHld} (hF : ∀ s, yMo n s (F s).1) : ∀ (f : Nat) (z : yHld), yMo n z.1 (yLpo B n k op F f z).1
  | 0, z => yMo_rf
  | f + 1, z => by
    rw [yLpo]
    by_cases g : yIsK B n z.1 k = true
    · rw [if_pos g]
      exact yMo_tr yAdv_m (yMo_tr (hF _) (yLpo_m hF f _))
    · rw [if_neg g]
      exact yMo_rf
theorem yPar_m {B : Nat → Nat} {n : Nat} {F : yTkS → yHld} (hF : ∀ s, yMo n s (F s).1) (s : yTkS) : yMo n s (yPar B n F s).1 := yMo_tr (hF s) (yLpo_m hF 400 (F s))
theorem yTes_m {B : Nat → Nat} {n : Nat} {F : yTkS → yHld} (hF : ∀ s, yMo n s (F s).1) (s : yTkS) : yMo n s (yTes B n F s).1 := yMo_tr (yPar_m hF s) (yLpo_m (yPar_m hF) 400 (yPar B n F s))
theorem yFac_m {B : Nat → Nat} {n bk : Nat} : ∀ (q : Nat) (s : yTkS), yMo n s (yFac B n bk q s).1 := by
  intro q
  induction q with
  | zero =>
    intro s
    rw [yFac]
    by_cases g : yIsK B n s 13 = true
    · rw [if_pos g]
      exact yMo_tr yAdv_m (yRdN_m (s := yAdv B n s) (lo := 0) (hi := (bk : Int) - 1) (room := true))
    rw [if_neg g]
    by_cases g1 : yIsK B n s 12 = true
    · rw [if_pos g1]
      exact yFa_m (f := 5) (by decide)
    rw [if_neg g1]
    by_cases g2 : yIsK B n s 17 = true
    · rw [if_pos g2]
      exact yFa_m (f := 5) (by decide)
    rw [if_neg g2]
    exact yFa_m (f := 2) (by decide)
  | succ q ih =>
    intro s
    rw [yFac]
    by_cases g : yIsK B n s 13 = true
    · rw [if_pos g]
      exact yMo_tr yAdv_m (yRdN_m (s := yAdv B n s) (lo := 0) (hi := (bk : Int) - 1) (room := true))
    rw [if_neg g]
    by_cases g1 : yIsK B n s 12 = true
    · rw [if_pos g1]
      exact yMo_tr yAdv_m (ih (yAdv B n s))
    rw [if_neg g1]
    by_cases g2 : yIsK B n s 17 = true
    · rw [if_pos g2]
      exact yMo_tr yAdv_m (yMo_tr (yTes_m ih (yAdv B n s)) (yNd_m (k := 18)))
    rw [if_neg g2]
    exact yFa_m (f := 2) (by decide)
/-- a rule is read whole -/
theorem yRt_s {B : Nat → Nat} {n bk : Nat} {s : yTkS} {u : yRl} (h : (yRt B n bk s u).1.1 = 0) : s.1 = 0 ∧ yK B n s.2 = 8 ∧ u.1 < 12 ∧ yRu1 B n s u = s ∧ (yRq B n bk s u).2 ≠ -1 ∧ 0 ≤ (yRq B n bk s u).2 ∧ (yRq B n bk s u).2 ≤ (bk : Int) - 1 ∧ ((s.1 = 0 → s.2 ≤ n) → s.2 < (yRt B n bk s u).1.2 ∧ (yRt B n bk s u).1.2 ≤ n) := by
  have a := yTes_m (B := B) (n := n) (yFac_m (bk := bk) 8) (yNd B n (yRq B n bk s u).1 9) h
  have b := yNd_m (B := B) (n := n) (s := (yRq B n bk s u).1) (k := 9) a.1
  have c := yRdN_0 (B := B) (n := n) (s := yNd B n (yRu1 B n s u) 8) (lo := 0) (hi := (bk : Int) - 1) (room := true) b.1
  have c1 := yRdN_m (B := B) (n := n) (s := yNd B n (yRu1 B n s u) 8) (lo := 0) (hi := (bk : Int) - 1) (room := true) b.1
  have e := yNd_m (B := B) (n := n) (s := yRu1 B n s u) (k := 8) c1.1
  have ue : yRu1 B n s u = s ∧ u.1 < 12 ∧ s.1 = 0 ∧ yK B n s.2 = 8 := by
    have e1 := e.1
    unfold yRu1 at e1 ⊢
    by_cases g : yIsK B n s 8 = true
    · rw [if_pos g] at e1 ⊢
      by_cases g2 : 12 ≤ u.1
      · rw [if_pos g2] at e1
        exact absurd e1 (yFa_n (by decide))
      · rw [if_neg g2]
        have := yZb.mp g
        exact ⟨rfl, by omega, this.1, this.2⟩
    · rw [if_neg g] at e1
      exact absurd e1 (yFa_n (by decide))
  refine ⟨ue.2.2.1, ue.2.2.2, ue.2.1, ue.1, c.1, c.2.2.2.1, c.2.2.2.2.1, fun hn => ?_⟩
  have s1 := yNd_s (B := B) (n := n) (s := yRu1 B n s u) (k := 8) (by decide) (by rw [ue.1]; exact hn) c1.1
  rw [ue.1] at s1
  have c2 := c1.2 (fun _ => by rw [ue.1]; exact s1.2.2.2)
  have b2 := b.2 (fun _ => c2.2)
  have a2 := a.2 (fun _ => b2.2)
  have e0 : (yNd B n (yRu1 B n s u) 8).2 = (yNd B n s 8).2 := by rw [ue.1]
  have lt1 := s1.2.2.1
  have c3 := c2.1
  rw [e0] at c3
  have c4 : (yNd B n s 8).2 ≤ (yRq B n bk s u).1.2 := c3
  have a4 : (yNd B n (yRq B n bk s u).1 9).2 ≤ (yRt B n bk s u).1.2 := a2.1
  have a5 : (yRt B n bk s u).1.2 ≤ n := a2.2
  omega
def cRu (I : Nat → Nat → Int32) (J : Nat → Nat → Int64) (u : yRl) : Prop := I 29 2 = zi (u.1 : Int) ∧ (∃ R : Nat, R < 64 ∧ I 29 1 = zi (R : Int) ∧ ∀ b, b < 6 → (R.testBit b = true ↔ ∃ k, k < u.1 ∧ u.2.1 k = b)) ∧ ∀ b i, b < 6 → i < 64 → (yLb64 (J 30 b) i = true ↔ ∃ k, k < u.1 ∧ u.2.1 k = b ∧ u.2.2 k i = true)
def cRw (I I' : Nat → Nat → Int32) (J J' : Nat → Nat → Int64) : Prop := (∀ o k, ¬ (o = 17 ∧ 7 ≤ k) → o ≠ 29 → I' o k = I o k) ∧ ∀ o, o ≠ 30 → J' o = J o
theorem cRw_tr {I I1 I2 : Nat → Nat → Int32} {J J1 J2 : Nat → Nat → Int64} (h : cRw I I1 J J1) (g : cRw I1 I2 J1 J2) : cRw I I2 J J2 := ⟨fun o k a b => (g.1 o k a b).trans (h.1 o k a b), fun o a => (g.2 o a).trans (h.2 o a)⟩
theorem cRw_rf {I : Nat → Nat → Int32} {J : Nat → Nat → Int64} : cRw I I J J := ⟨fun _ _ _ _ => rfl, fun _ _ => rfl⟩
theorem cRw_t {I I' : Nat → Nat → Int32} {J : Nat → Nat → Int64} (h : cFt I I') : cRw I I' J J := ⟨fun o k a _ => h o k a, fun _ _ => rfl⟩
theorem cRu_t {I I' : Nat → Nat → Int32} {J : Nat → Nat → Int64} {u : yRl} (h : cFt I I') (g : cRu I J u) : cRu I' J u := by
  unfold cRu
  rw [cFt_o h (o := 29) (by decide)]
  exact g
section
variable {d L r : Nat} {I : Nat → Nat → Int32} {J : Nat → Nat → Int64}
variable {B : Nat → Nat} {n bk : Nat}
theorem cAdR (hd : 1 ≤ d) {u : yRl} (h : cRu I J u) (hu : u.1 < 12) {b : Nat} (hb : b < 6) {w : Int64} {f : Nat → Bool} (hw : ∀ i, i < 64 → yLb64 w i = f i) : ∃ I' J', zCd zT d 44 [.ref 29, .int (zi (b : Int)), .long (w)] (zm L I J r) = some (none, zm L I' J' r) ∧ cRu I' J' (yAdR u b f) ∧ (∀ o, o ≠ 29 → I' o = I o) ∧ ∀ o, o ≠ 30 → J' o = J o := by
  obtain ⟨h1, ⟨R, hR, h2, h3⟩, h4⟩ := h
  have hp : 2 ^ b < 64 := by
    have : 2 ^ b < 2 ^ 6 := Nat.pow_lt_pow_right (by decide) hb
    omega
  have ex : ∀ c, (∃ k, k < u.1 + 1 ∧ (if k = u.1 then b else u.2.1 k) = c) ↔ (c = b ∨ ∃ k, k < u.1 ∧ u.2.1 k = c) := by
    intro c
    constructor
    · rintro ⟨k, k1, k2⟩
      by_cases q : k = u.1
      · rw [if_pos q] at k2
        exact Or.inl k2.symm
      · rw [if_neg q] at k2
        exact Or.inr ⟨k, by omega, k2⟩
    · rintro (q | ⟨k, k1, k2⟩)
      · exact ⟨u.1, by omega, by rw [if_pos rfl]; exact q.symm⟩
      · exact ⟨k, by omega, by rw [if_neg (by omega)]; exact k2⟩
  rw [sX5_add hd, if_neg (yGe0 (by omega)), if_neg (show ¬ (6 : Int32) ≤ zi (b : Int) by rw [show (6 : Int32) = zi ((6 : Nat) : Int) from rfl, yLe (by omega) (by omega)]; omega), zin_t (by omega) (by omega), zgd_t, zgd_t, zi_cl (by omega), Int.toNat_natCast, h1, h2, yShl (by omega), yOr (by omega) (by omega), yZ1]
  refine ⟨_, _, rfl, ⟨zu_y ⟨rfl, rfl⟩, ⟨R ||| 2 ^ b, Nat.or_lt_two_pow (n := 6) hR hp, ?_, fun c hc => ?_⟩, fun c i hc hi => ?_⟩, fun o a => by rw [zu_o a, zu_o a], fun o a => funext fun k => if_neg (fun q => a q.1)⟩
  · rw [zu_n (by decide), zu_y ⟨rfl, rfl⟩]
  · have e2 : (∃ k, k < (yAdR u b f).1 ∧ (yAdR u b f).2.1 k = c) ↔ (c = b ∨ ∃ k, k < u.1 ∧ u.2.1 k = c) := ex c
    rw [e2, Nat.testBit_or, yB2, ← h3 c hc]
    by_cases q : c = b
    · rw [decide_eq_true q, Bool.or_true]
      exact ⟨fun _ => Or.inl q, fun _ => rfl⟩
    · rw [decide_eq_false q, Bool.or_false]
      exact ⟨fun z => Or.inr z, fun z => z.resolve_left q⟩
  · have e2 : (∃ k, k < (yAdR u b f).1 ∧ (yAdR u b f).2.1 k = c ∧ (yAdR u b f).2.2 k i = true) ↔ ((c = b ∧ f i = true) ∨ ∃ k, k < u.1 ∧ u.2.1 k = c ∧ u.2.2 k i = true) := by
      constructor
      · rintro ⟨k, k1, k2, k3⟩
        have k1' : k < u.1 + 1 := k1
        have k2' : (if k = u.1 then b else u.2.1 k) = c := k2
        have k3' : (if k = u.1 then f i else u.2.2 k i) = true := k3
        by_cases q : k = u.1
        · rw [if_pos q] at k2' k3'
          exact Or.inl ⟨k2'.symm, k3'⟩
        · rw [if_neg q] at k2' k3'
          exact Or.inr ⟨k, by omega, k2', k3'⟩
      · rintro (⟨q1, q2⟩ | ⟨k, k1, k2, k3⟩)
        · refine ⟨u.1, Nat.lt_succ_self _, ?_, ?_⟩
          · show (if u.1 = u.1 then b else u.2.1 u.1) = c
            rw [if_pos rfl]
            exact q1.symm
          · show (if u.1 = u.1 then f i else u.2.2 u.1 i) = true
            rw [if_pos rfl]
            exact q2
        · refine ⟨k, Nat.lt_succ_of_lt k1, ?_, ?_⟩
          · show (if k = u.1 then b else u.2.1 k) = c
            rw [if_neg (by omega)]
            exact k2
          · show (if k = u.1 then f i else u.2.2 k i) = true
            rw [if_neg (by omega)]
            exact k3
    rw [e2, ← h4 c i hc hi]
    by_cases q : c = b
    · rw [q, show zuL J 30 b (J 30 b ||| w) 30 b = J 30 b ||| w from if_pos ⟨rfl, rfl⟩, yL64_or, hw i hi, Bool.or_eq_true]
      constructor
      · rintro (z | z)
        · exact Or.inr z
        · exact Or.inl ⟨rfl, z⟩
      · rintro (z | z)
        · exact Or.inr z.2
        · exact Or.inl z
    · rw [show zuL J 30 b (J 30 b ||| w) 30 c = J 30 c from if_neg (fun y => q y.2)]
      exact ⟨fun z => Or.inr z, fun z => z.resolve_left (fun y => q y.1)⟩
theorem cRul (hd : 36 ≤ d) (hn : n ≤ 400) (hB : ∀ k, k < n → B k < 256) (hbk : 1 ≤ bk ∧ bk ≤ 6) {x : yRuX} (ha : cAt B n I x.1) (hb : I 23 0 = zi (bk : Int)) (hu : cRu I J x.2) (hu2 : x.2.1 ≤ 12) : ∃ I' J', zCd zT d 36 [.ref 23, .ref 17, .ref 29] (zm L I J r) = some (none, zm L I' J' r) ∧ cAt B n I' (yRl0 B n bk x).1 ∧ cRu I' J' (yRl0 B n bk x).2 ∧ cRw I I' J J' := by
  obtain ⟨e, rfl⟩ : ∃ e, d = e + 1 := ⟨d - 1, by omega⟩
  have iw : zCd zT e 92 [.ref 17, .ref 1016] (zm L I J r) = some (some (.int (zb1 (yIsK B n x.1 8))), (zm L I J r)) := cWrd (by omega) hn hB ha (q := 8) (by decide)
  have st : ∃ I1, zX 2 (zCd zT e) zc_X4_readRule 0 [some (.ref 23), some (.ref 17), some (.ref 29), none, none, none] [] (zm L I J r) = zX 2 (zCd zT e) zc_X4_readRule 5 [some (.ref 23), some (.ref 17), some (.ref 29), none, none, none] [] (zm L I1 J r) ∧ cAt B n I1 (yRu1 B n x.1 x.2) ∧ cFt I I1 := by
    rw [eX4_readRule_0, iw, zbI_s, eX4_readRule_1]
    unfold yRu1
    cases g : yIsK B n x.1 8
    · obtain ⟨I1, c1, c2, c3⟩ := cFail (d := e) (L := L) (J := J) (r := r) (by omega) hn ha (f := 2) (by decide)
      have c1' : zCd zT e 93 [.ref 17, .int 2] (zm L I J r) = _ := c1
      rw [if_pos (show zb1 false = 0 by decide), c1', zbV_s, eX4_readRule_2, if_neg (by decide)]
      exact ⟨I1, rfl, c2, c3⟩
    · rw [if_neg (show ¬ zb1 true = 0 by decide), eX4_readRule_3, sX5_size (by omega) (by decide), zbI_s, hu.1, eX4_readRule_4, if_pos rfl]
      by_cases q : 12 ≤ x.2.1
      · obtain ⟨I1, c1, c2, c3⟩ := cFail (d := e) (L := L) (J := J) (r := r) (by omega) hn ha (f := 4) (by decide)
        have c1' : zCd zT e 93 [.ref 17, .int 4] (zm L I J r) = _ := c1
        rw [if_neg (show ¬ zi (x.2.1 : Int) < (12 : Int32) by rw [show (12 : Int32) = zi ((12 : Nat) : Int) from rfl, yLt (by omega) (by omega)]; omega), c1', zbV_s, if_pos q]
        exact ⟨I1, rfl, c2, c3⟩
      · rw [if_pos (show zi (x.2.1 : Int) < (12 : Int32) by rw [show (12 : Int32) = zi ((12 : Nat) : Int) from rfl, yLt (by omega) (by omega)]; omega), if_neg q]
        exact ⟨I, rfl, ha, cFt_rf⟩
  obtain ⟨I1, a1, a2, a3⟩ := st
  obtain ⟨I2, b1, b2, b3⟩ := cTkW (d := e) (L := L) (J := J) (r := r) (by omega) hn hB a2 (q := 8) (by decide)
  have b1' : zCd zT e 94 [.ref 17, .ref 1016] (zm L I1 J r) = _ := b1
  have h23 : I2 23 0 = zi (bk : Int) := by rw [b3 23 0 (by omega), a3 23 0 (by omega)]; exact hb
  obtain ⟨I3, c1, c2, c3⟩ := cTkN (d := e) (L := L) (J := J) (r := r) (by omega) hn b2 (lo := 0) (hi := (bk : Int) - 1) (by decide) (by omega) true
  have c1' : zCd zT e 96 [.ref 17, .int 0, .int (zi ((bk : Int) - 1)), .int 1] (zm L I2 J r) = _ := c1
  obtain ⟨I4, d1, d2, d3⟩ := cTkW (d := e) (L := L) (J := J) (r := r) (by omega) hn hB c2 (q := 9) (by decide)
  have d1' : zCd zT e 94 [.ref 17, .ref 1018] (zm L I3 J r) = _ := d1
  have ht : cFn B n bk L J r (fun I => zCd zT e 37 [.ref 23, .ref 17, .int (zi ((8 - 8 : Nat) : Int))] (zm L I J r)) (yTes B n (yFac B n bk 8)) := cTes (by omega) hn hB (cFac hn hB hbk 8 (e - 2) (by omega) (by omega))
  obtain ⟨I5, w, f1, f2, f3, f4⟩ := ht I4 _ d2 (by rw [d3 23 0 (by omega), c3 23 0 (by omega)]; exact h23)
  have f1' : zCd zT e 37 [.ref 23, .ref 17, .int 0] (zm L I4 J r) = some (some (.long w), zm L I5 J r) := f1
  have fr := cFt_tr a3 (cFt_tr b3 (cFt_tr c3 (cFt_tr d3 f4)))
  have f2' : cAt B n I5 (yRt B n bk x.1 x.2).1 := f2
  have hu5 := cRu_t fr hu
  rw [qX4_readRule, a1, eX4_readRule_5, b1', zbV_s, eX4_readRule_6, h23, yZm1, c1', zbI_s, eX4_readRule_7, d1', zbV_s, eX4_readRule_8, f1', zbL_s, eX4_readRule_9, cSnd (by omega) f2', zbI_s, eX4_readRule_10]
  unfold yRl0
  by_cases q : (yRt B n bk x.1 x.2).1.1 = 0
  · have sd := yRt_s q
    obtain ⟨b, hbe⟩ := yNat sd.2.2.2.2.2.1
    have hb6 := sd.2.2.2.2.2.2.1
    rw [hbe] at hb6
    have he : (yRdN B n (yNd B n (yRu1 B n x.1 x.2) 8) 0 ((bk : Int) - 1) true).2 = (b : Int) := hbe
    obtain ⟨I6, J6, g1, g2, g3, g4⟩ := cAdR (d := e) (L := L) (r := r) (by omega) hu5 sd.2.2.1 (b := b) (by omega) (w := w) f3
    rw [decide_eq_true q, if_neg (show ¬ zb1 true = 0 by decide), he, g1, zbV_s, eX4_readRule_11, if_pos q]
    have hbt : (yRq B n bk x.1 x.2).2.toNat = b := by rw [hbe, Int.toNat_natCast]
    rw [hbt]
    exact ⟨I6, J6, rfl, cAt_fr (fun o _ _ => g3 o (by omega)) f2', g2, cRw_tr (cRw_t fr) ⟨fun o k _ a => by rw [g3 o a], g4⟩⟩
  · rw [decide_eq_false q, if_pos (show zb1 false = 0 by decide), eX4_readRule_11, if_neg q]
    exact ⟨I5, J, rfl, f2', hu5, cRw_t fr⟩
theorem yRl0_u {B : Nat → Nat} {n bk : Nat} {x : yRuX} (h : x.2.1 ≤ 12) : (yRl0 B n bk x).2.1 ≤ 12 := by
  unfold yRl0
  by_cases q : (yRt B n bk x.1 x.2).1.1 = 0
  · have sd := yRt_s q
    show (if (yRt B n bk x.1 x.2).1.1 = 0 then yAdR x.2 (yRq B n bk x.1 x.2).2.toNat (yRt B n bk x.1 x.2).2 else x.2).1 ≤ 12
    rw [if_pos q]
    show x.2.1 + 1 ≤ 12
    omega
  · show (if (yRt B n bk x.1 x.2).1.1 = 0 then yAdR x.2 (yRq B n bk x.1 x.2).2.toNat (yRt B n bk x.1 x.2).2 else x.2).1 ≤ 12
    rw [if_neg q]
    exact h
theorem cRlsL (hd : 36 ≤ d) (hn : n ≤ 400) (hB : ∀ k, k < n → B k < 256) (hbk : 1 ≤ bk ∧ bk ≤ 6) (l2 : Int32) : ∀ (f : Nat) (I : Nat → Nat → Int32) (J : Nat → Nat → Int64) (x : yRuX), f ≤ 13 → cAt B n I x.1 → I 23 0 = zi (bk : Int) → cRu I J x.2 → x.2.1 ≤ 12 → ∃ I' J', zX 2 (zCd zT d) zc_X4_read 2 [some (.ref 23), some (.ref 17), some (.int l2), some (.ref 29), some (.int (zi ((13 - f : Nat) : Int)))] [] (zm L I J r) = some (none, zm L I' J' r) ∧ cAt B n I' (yRls B n bk f x).1 ∧ cRu I' J' (yRls B n bk f x).2 ∧ cRw I I' J J' := by
  intro f
  induction f with
  | zero =>
    intro I J x _ ha _ hu _
    rw [eX4_read_2, if_pos (show (12 : Int32) < zi ((13 - 0 : Nat) : Int) by decide), eX4_read_7]
    exact ⟨I, J, rfl, ha, hu, cRw_rf⟩
  | succ f ih =>
    intro I J x hf ha hb hu hu2
    rw [eX4_read_2, if_neg (show ¬ (12 : Int32) < zi ((13 - (f + 1) : Nat) : Int) by rw [show (12 : Int32) = zi ((12 : Nat) : Int) from rfl, yLt (by omega) (by omega)]; omega), cSnd (by omega) ha, zbI_s, eX4_read_3, yRls]
    by_cases q : x.1.1 = 0
    · rw [decide_eq_true q, if_neg (show ¬ zb1 true = 0 by decide), cTkEnd (by omega) ha, zbI_s, eX4_read_4]
      by_cases g : yK B n x.1.2 = 19
      · have e1 : yIsK B n x.1 19 = true := yZb.mpr ⟨q, g⟩
        rw [e1, if_neg (show ¬ zb1 true = 0 by decide), eX4_read_7, if_neg (fun z => z.2 g)]
        exact ⟨I, J, rfl, ha, hu, cRw_rf⟩
      · have e1 : yIsK B n x.1 19 = false := Bool.eq_false_iff.mpr (fun z => g (yZb.mp z).2)
        obtain ⟨I1, J1, c1, c2, c3, c4⟩ := cRul (d := d) (L := L) (r := r) hd hn hB hbk ha hb hu hu2
        obtain ⟨I2, d1, d2, d3⟩ := cTkS (d := d) (L := L) (J := J1) (r := r) (by omega) hn hB c2 (q := 16) (by decide)
        have d1' : zCd zT d 95 [.ref 17, .int 59] (zm L I1 J1 r) = _ := d1
        obtain ⟨I3, J3, e2, e3, e4, e5⟩ := ih I2 J1 (yRl1 B n bk x) (by omega) (by rw [yRl1_1]; exact d2) (by rw [d3 23 0 (by omega), c4.1 23 0 (by omega) (by decide)]; exact hb) (by rw [yRl1_2]; exact cRu_t d3 c3) (by rw [yRl1_2]; exact yRl0_u hu2)
        rw [e1, if_pos (show zb1 false = 0 by decide), c1, zbV_s, eX4_read_5, d1', zbV_s, eX4_read_6, yZ1, show 13 - (f + 1) + 1 = 13 - f by omega, if_pos ⟨q, g⟩]
        exact ⟨I3, J3, e2, e3, e4, cRw_tr c4 (cRw_tr (cRw_t d3) e5)⟩
    · rw [decide_eq_false q, if_pos (show zb1 false = 0 by decide), eX4_read_7, if_neg (fun z => q z.1)]
      exact ⟨I, J, rfl, ha, hu, cRw_rf⟩
/-- the class has read THE CONTROLLER -/
theorem cCtl (hd : 37 ≤ d) (hn : n ≤ 400) (hB : ∀ k, k < n → B k < 256) (hbk : 1 ≤ bk ∧ bk ≤ 6) (ha : cAt B n I (yTo B n 0)) : ∃ I' J', zCd zT d 35 [.ref 23, .ref 17, .int (zi (bk : Int)), .ref 29] (zm L I J r) = some (none, zm L I' J' r) ∧ cAt B n I' (yCtl B n bk).1 ∧ cRu I' J' (yCtl B n bk).2 ∧ (∀ o k, ¬ (o = 17 ∧ 7 ≤ k) → o ≠ 23 → o ≠ 29 → I' o k = I o k) ∧ ∀ o, o ≠ 30 → J' o = J o := by
  obtain ⟨e, rfl⟩ : ∃ e, d = e + 1 := ⟨d - 1, by omega⟩
  obtain ⟨f, rfl⟩ : ∃ f, e = f + 1 := ⟨e - 1, by omega⟩
  have wip := cFillJ (d := f) (L := L) (I := zu I 23 0 (zi (bk : Int))) (J := J) (r := r) (o := 30) (n := 6) (by omega) (by decide) rfl (by decide) 0
  have ho : 29 ∈ zRuls := by decide
  obtain ⟨I0, hI0⟩ : ∃ I0, I0 = zu (zu (zu I 23 0 (zi (bk : Int))) 29 1 0) 29 2 0 := ⟨_, rfl⟩
  have fr : ∀ o, o ≠ 23 → o ≠ 29 → I0 o = I o := fun o a b => by rw [hI0, zu_o b, zu_o b, zu_o a]
  have hu0 : cRu I0 (zfJ J 30 6 0) yUn0 := by
    refine ⟨?_, ⟨0, by decide, ?_, fun b hb => ?_⟩, fun b i hb hi => ?_⟩
    · rw [hI0, zu_y ⟨rfl, rfl⟩]
      rfl
    · rw [hI0, zu_n (by decide), zu_y ⟨rfl, rfl⟩]
      rfl
    · rw [Nat.zero_testBit]
      exact ⟨fun z => absurd z (by decide), fun ⟨k, z, _⟩ => absurd z (Nat.not_lt_zero k)⟩
    · rw [zfJ_i hb, yL64_0]
      exact ⟨fun z => absurd z (by decide), fun ⟨k, z, _⟩ => absurd z (Nat.not_lt_zero k)⟩
  have ha0 : cAt B n I0 (yTo B n 0) := cAt_fr (fun o _ _ => fr o (by omega) (by omega)) ha
  obtain ⟨I1, J1, c1, c2, c3, c4⟩ := cRlsL (d := f + 1) (L := L) (r := r) (B := B) (n := n) (by omega) hn hB hbk (zi (bk : Int)) 13 I0 (zfJ J 30 6 0) (yTo B n 0, yUn0) (by decide) ha0 (by rw [hI0, zu_n (by decide), zu_n (by decide), zu_y ⟨rfl, rfl⟩]) hu0 (show (0 : Nat) ≤ 12 by decide)
  have c1' : zX 2 (zCd zT (f + 1)) zc_X4_read 2 [some (.ref 23), some (.ref 17), some (.int (zi (bk : Int))), some (.ref 29), some (.int 0)] [] (zm L I0 (zfJ J 30 6 0) r) = _ := c1
  rw [qX4_read, eX4_read_0, qX5_wipe ho, eX5_wipe_0 ho, wip, zbV_s, eX5_wipe_1 ho, zbV_s, ← hI0, eX4_read_1, c1']
  refine ⟨I1, J1, rfl, c2, c3, fun o k a b c => ?_, fun o a => ?_⟩
  · rw [c4.1 o k a c, fr o b c]
  · rw [c4.2 o a, zfJ_o a]
end
