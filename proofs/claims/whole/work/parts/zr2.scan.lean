/-! TEXT: the class takes a text apart -/
theorem yL_i {c : Nat} (h : c < 256) : (if zi (c : Int) < (97 : Int32) then (0 : Int32) else if (122 : Int32) < zi (c : Int) then (0 : Int32) else 1) = zb1 (yIsL c) := by
  have key : ∀ c : Fin 256, (if zi ((c.1 : Nat) : Int) < (97 : Int32) then (0 : Int32) else if (122 : Int32) < zi ((c.1 : Nat) : Int) then (0 : Int32) else 1) = zb1 (yIsL c.1) := by decide +kernel
  exact key ⟨c, h⟩
theorem yD_i {c : Nat} (h : c < 256) : (if zi (c : Int) < (48 : Int32) then (0 : Int32) else if (57 : Int32) < zi (c : Int) then (0 : Int32) else 1) = zb1 (yIsD c) := by
  have key : ∀ c : Fin 256, (if zi ((c.1 : Nat) : Int) < (48 : Int32) then (0 : Int32) else if (57 : Int32) < zi ((c.1 : Nat) : Int) then (0 : Int32) else 1) = zb1 (yIsD c.1) := by decide +kernel
  exact key ⟨c, h⟩
theorem yB_i {c : Nat} (h : c < 256) : (if zi (c : Int) = (10 : Int32) then (1 : Int32) else if zi (c : Int) = (32 : Int32) then (1 : Int32) else 0) = zb1 (yIsB c) := by
  have key : ∀ c : Fin 256, (if zi ((c.1 : Nat) : Int) = (10 : Int32) then (1 : Int32) else if zi ((c.1 : Nat) : Int) = (32 : Int32) then (1 : Int32) else 0) = zb1 (yIsB c.1) := by decide +kernel
  exact key ⟨c, h⟩
theorem yZ1 (k : Nat) : zi (k : Int) + (1 : Int32) = zi ((k + 1 : Nat) : Int) := (zi_add _ 1).trans rfl
theorem yLe {a b : Nat} (ha : a < 2147483648) (hb : b < 2147483648) : zi (a : Int) ≤ zi (b : Int) ↔ a ≤ b := (zi_le (by omega) (by omega)).trans (by omega)
theorem yLt {a b : Nat} (ha : a < 2147483648) (hb : b < 2147483648) : zi (a : Int) < zi (b : Int) ↔ a < b := (zi_lt (by omega) (by omega)).trans (by omega)
theorem yEq {a b : Nat} (ha : a < 2147483648) (hb : b < 2147483648) : zi (a : Int) = zi (b : Int) ↔ a = b := (zi_eq (by omega) (by omega)).trans (by omega)
def cPu (I : Nat → Nat → Int32) (m : Nat) (a b c : Int32) : Nat → Nat → Int32 := zu (zu (zu (zu I 19 m a) 20 m b) 21 m c) 17 6 (zi ((m + 1 : Nat) : Int))
def yNbe (B : Nat → Nat) (n s : Nat) : Int := if yKs B n s = 19 ∨ yKs B n s = 20 then -1 else yEs B n s
section
variable {d L r : Nat} {I : Nat → Nat → Int32} {J : Nat → Nat → Int64}
variable {B : Nat → Nat} {n : Nat}
theorem cTkPut (hd : 1 ≤ d) {m : Nat} (hm : m ≤ 400) (h6 : I 17 6 = zi (m : Int)) (a b c e : Int32) : zCd zT d 85 [.ref 17, .int a, .int b, .int c, .int e] (zm L I J r) = some (some (.int e), (zm L (cPu I m a b c) J r)) := by
  rw [sX8_put hd, h6, if_neg (show ¬ zi (m : Int) < (0 : Int32) by rw [show (0 : Int32) = zi ((0 : Nat) : Int) from rfl, yLt (by omega) (by omega)]; omega), if_neg (show ¬ (401 : Int32) ≤ zi (m : Int) by rw [show (401 : Int32) = zi ((401 : Nat) : Int) from rfl, yLe (by omega) (by omega)]; omega), if_neg (show ¬ (401 : Int32) ≤ zi (m : Int) by rw [show (401 : Int32) = zi ((401 : Nat) : Int) from rfl, yLe (by omega) (by omega)]; omega), if_neg (show ¬ (401 : Int32) ≤ zi (m : Int) by rw [show (401 : Int32) = zi ((401 : Nat) : Int) from rfl, yLe (by omega) (by omega)]; omega), zin_t (by omega) (by omega), zgd_t, zgd_t, zgd_t, zi_cl (by omega), Int.toNat_natCast, yZ1]
  rfl
theorem cBy (hd : 1 ≤ d) {k : Nat} (hn : n ≤ 400) (hk : k < n) (hb : ∀ k, k < n → I 18 k = zi (B k : Int)) : zCd zT d 98 [.ref 17, .int (zi (k : Int))] (zm L I J r) = some (some (.int (zi (B k : Int))), (zm L I J r)) := by
  rw [sX8_byteAt hd, if_neg (show ¬ zi (k : Int) < (0 : Int32) by rw [show (0 : Int32) = zi ((0 : Nat) : Int) from rfl, yLt (by omega) (by omega)]; omega), if_pos (show zi (k : Int) < (400 : Int32) by rw [show (400 : Int32) = zi ((400 : Nat) : Int) from rfl, yLt (by omega) (by omega)]; omega), zin_t (by omega) (by omega), zgd_t, zi_cl (by omega), Int.toNat_natCast, hb k hk]
theorem cByX (hd : 1 ≤ d) {k : Nat} (hk : k ≤ 400) : ∃ x, zCd zT d 98 [.ref 17, .int (zi (k : Int))] (zm L I J r) = some (some (.int x), (zm L I J r)) := by
  rw [sX8_byteAt hd, if_neg (show ¬ zi (k : Int) < (0 : Int32) by rw [show (0 : Int32) = zi ((0 : Nat) : Int) from rfl, yLt (by omega) (by omega)]; omega)]
  by_cases q : zi (k : Int) < (400 : Int32)
  · have q2 : k < 400 := by
      rw [show (400 : Int32) = zi ((400 : Nat) : Int) from rfl, yLt (by omega) (by omega)] at q
      exact q
    rw [if_pos q, zin_t (by omega) (by omega), zgd_t]
    exact ⟨_, rfl⟩
  · rw [if_neg q]
    exact ⟨_, rfl⟩
theorem cSkip (hd : 2 ≤ d) (hn : n ≤ 400) (hB : ∀ k, k < n → B k < 256) (hb : ∀ k, k < n → I 18 k = zi (B k : Int)) (h5 : I 17 5 = zi (n : Int)) {p : Nat} (hp : p ≤ n) : zCd zT d 81 [.ref 17, .int (zi (p : Int))] (zm L I J r) = some (some (.int (zi (yS B n p : Int))), (zm L I J r)) := by
  obtain ⟨e, rfl⟩ : ∃ e, d = e + 1 := ⟨d - 1, by omega⟩
  obtain ⟨s1, s2, s3, s4⟩ := yS_p (B := B) hp
  have st : ∀ k, k < n → zX 0 (zCd zT e) zc_X8_skipBlanks 1 [some (.ref 17), some (.int (zi (p : Int))), some (.int (zi (k : Int)))] [] (zm L I J r) = if yIsB (B k) = true then zX 0 (zCd zT e) zc_X8_skipBlanks 1 [some (.ref 17), some (.int (zi (p : Int))), some (.int (zi ((k + 1 : Nat) : Int)))] [] (zm L I J r) else some (some (.int (zi (k : Int))), (zm L I J r)) := by
    intro k hk
    rw [eX8_skipBlanks_1, h5, if_neg (show ¬ zi (n : Int) ≤ zi (k : Int) by rw [yLe (by omega) (by omega)]; omega), cBy (by omega) hn hk hb, zbI_s, eX8_skipBlanks_2, sX8_isBlank (by omega), yB_i (hB k hk), zbI_s, eX8_skipBlanks_3, eX8_skipBlanks_4, yZ1]
    cases yIsB (B k)
    · rfl
    · rfl
  have c1 := zFor (n := yS B n p - p) (G := fun j => zX 0 (zCd zT e) zc_X8_skipBlanks 1 [some (.ref 17), some (.int (zi (p : Int))), some (.int (zi ((p + j : Nat) : Int)))] [] (zm L I J r)) (fun j hj => by
    rw [st (p + j) (by omega), if_pos (s3 (p + j) (by omega) (by omega))]
    rfl)
  rw [qX8_skipBlanks, eX8_skipBlanks_0]
  refine (show _ = _ from c1).trans ?_
  rw [show p + (yS B n p - p) = yS B n p by omega]
  by_cases w : yS B n p < n
  · rw [st _ w, s4 w]
    rfl
  · rw [eX8_skipBlanks_1, h5, if_pos (show zi (n : Int) ≤ zi (yS B n p : Int) by rw [yLe (by omega) (by omega)]; omega), eX8_skipBlanks_4]
theorem cScW (hd : 2 ≤ d) (hn : n ≤ 400) (hB : ∀ k, k < n → B k < 256) (hb : ∀ k, k < n → I 18 k = zi (B k : Int)) (h5 : I 17 5 = zi (n : Int)) {m s : Nat} (hs : s ≤ n) (hm : m ≤ 400) (h6 : I 17 6 = zi (m : Int)) : zCd zT d 83 [.ref 17, .int (zi (s : Int))] (zm L I J r) = some (some (.int (zi (yEl B n s : Int))), (zm L (cPu I m 1 (zi (s : Int)) (zi ((yEl B n s - s : Nat) : Int))) J r)) := by
  obtain ⟨e, rfl⟩ : ∃ e, d = e + 1 := ⟨d - 1, by omega⟩
  obtain ⟨s1, s2, s3, s4⟩ := ySp_p (P := fun k => yIsL (B k)) hs
  have ee : ySp (fun k => yIsL (B k)) n s = yEl B n s := rfl
  rw [ee] at s1 s2 s3 s4
  have fin : zX 0 (zCd zT e) zc_X8_scanWord 4 [some (.ref 17), some (.int (zi (s : Int))), some (.int (zi (yEl B n s : Int)))] [] (zm L I J r) = some (some (.int (zi (yEl B n s : Int))), (zm L (cPu I m 1 (zi (s : Int)) (zi ((yEl B n s - s : Nat) : Int))) J r)) := by
    rw [eX8_scanWord_4, cTkPut (by omega) hm h6, zbI_s, eX8_scanWord_5, zi_sub, show ((yEl B n s : Int) - (s : Int)) = ((yEl B n s - s : Nat) : Int) by omega]
  have st : ∀ k, k < n → zX 0 (zCd zT e) zc_X8_scanWord 1 [some (.ref 17), some (.int (zi (s : Int))), some (.int (zi (k : Int)))] [] (zm L I J r) = if yIsL (B k) = true then zX 0 (zCd zT e) zc_X8_scanWord 1 [some (.ref 17), some (.int (zi (s : Int))), some (.int (zi ((k + 1 : Nat) : Int)))] [] (zm L I J r) else zX 0 (zCd zT e) zc_X8_scanWord 4 [some (.ref 17), some (.int (zi (s : Int))), some (.int (zi (k : Int)))] [] (zm L I J r) := by
    intro k hk
    rw [eX8_scanWord_1, h5, if_neg (show ¬ zi (n : Int) ≤ zi (k : Int) by rw [yLe (by omega) (by omega)]; omega), cBy (by omega) hn hk hb, zbI_s, eX8_scanWord_2, sX8_isLetter (by omega), yL_i (hB k hk), zbI_s, eX8_scanWord_3, yZ1]
    cases yIsL (B k)
    · rfl
    · rfl
  have c1 := zFor (n := yEl B n s - s) (G := fun j => zX 0 (zCd zT e) zc_X8_scanWord 1 [some (.ref 17), some (.int (zi (s : Int))), some (.int (zi ((s + j : Nat) : Int)))] [] (zm L I J r)) (fun j hj => by
    rw [st (s + j) (by omega), if_pos (s3 (s + j) (by omega) (by omega))]
    rfl)
  rw [qX8_scanWord, eX8_scanWord_0]
  refine (show _ = _ from c1).trans ?_
  rw [show s + (yEl B n s - s) = yEl B n s by omega]
  by_cases w : yEl B n s < n
  · have s5 := s4 w
    rw [st _ w, if_neg (by rw [s5]; decide), fin]
  · rw [eX8_scanWord_1, h5, if_pos (show zi (n : Int) ≤ zi (yEl B n s : Int) by rw [yLe (by omega) (by omega)]; omega), fin]
theorem cScN (hd : 2 ≤ d) (hn : n ≤ 400) (hB : ∀ k, k < n → B k < 256) (hb : ∀ k, k < n → I 18 k = zi (B k : Int)) (h5 : I 17 5 = zi (n : Int)) {m s : Nat} (hs : s ≤ n) (hm : m ≤ 400) (h6 : I 17 6 = zi (m : Int)) : zCd zT d 84 [.ref 17, .int (zi (s : Int))] (zm L I J r) = if yEd B n s - s ≤ 3 then some (some (.int (zi (yEd B n s : Int))), (zm L (cPu I m 2 (zi (s : Int)) (zi (yVs B n s : Int))) J r)) else some (some (.int (zi (-1))), (zm L (cPu I m 4 (zi (s : Int)) 0) J r)) := by
  obtain ⟨e, rfl⟩ : ∃ e, d = e + 1 := ⟨d - 1, by omega⟩
  obtain ⟨s1, s2, s3, s4⟩ := ySp_p (P := fun k => yIsD (B k)) hs
  have ee : ySp (fun k => yIsD (B k)) n s = yEd B n s := rfl
  rw [ee] at s1 s2 s3 s4
  have st : ∀ j, s + j < n → (∀ i, i ≤ j → yIsD (B (s + i)) = true) → j < 3 → zX 0 (zCd zT e) zc_X8_scanNumber 1 [some (.ref 17), some (.int (zi (s : Int))), some (.int (zi ((s + j : Nat) : Int))), some (.int (zi (yNu B s j : Int)))] [] (zm L I J r) = zX 0 (zCd zT e) zc_X8_scanNumber 1 [some (.ref 17), some (.int (zi (s : Int))), some (.int (zi ((s + (j + 1) : Nat) : Int))), some (.int (zi (yNu B s (j + 1) : Int)))] [] (zm L I J r) := by
    intro j hk hdg h3
    have dg := of_decide_eq_true (show decide _ = true from hdg j (Nat.le_refl j))
    have k1 : ((10 : Int32) * zi (yNu B s j : Int) + zi (B (s + j) : Int)) - (48 : Int32) = zi (yNu B s (j + 1) : Int) := by
      rw [show (10 : Int32) = zi 10 from rfl, show (48 : Int32) = zi 48 from rfl, zi_mul, zi_add, zi_sub, yNu]
      exact congrArg zi (by omega)
    have k2 : ¬ zi ((s + j : Nat) : Int) - zi (s : Int) = (3 : Int32) := by
      rw [zi_sub, show (3 : Int32) = zi 3 from rfl, zi_eq (by omega) (by omega)]
      omega
    rw [eX8_scanNumber_1, h5, if_neg (show ¬ zi (n : Int) ≤ zi ((s + j : Nat) : Int) by rw [yLe (by omega) (by omega)]; omega), cBy (by omega) hn hk hb, zbI_s, eX8_scanNumber_2, sX8_isDigit (by omega), yD_i (hB _ hk), zbI_s, hdg j (Nat.le_refl j), eX8_scanNumber_3, if_neg (show ¬ zb1 true = 0 by decide), if_neg k2, eX8_scanNumber_5, cBy (by omega) hn hk hb, zbI_s, eX8_scanNumber_6, k1, yZ1]
    rfl
  rw [qX8_scanNumber, eX8_scanNumber_0]
  by_cases w : yEd B n s - s ≤ 3
  · rw [if_pos w]
    have fin : zX 0 (zCd zT e) zc_X8_scanNumber 7 [some (.ref 17), some (.int (zi (s : Int))), some (.int (zi (yEd B n s : Int))), some (.int (zi (yVs B n s : Int)))] [] (zm L I J r) = some (some (.int (zi (yEd B n s : Int))), (zm L (cPu I m 2 (zi (s : Int)) (zi (yVs B n s : Int))) J r)) := by
      rw [eX8_scanNumber_7, cTkPut (by omega) hm h6, zbI_s, eX8_scanNumber_8]
    have c1 := zFor (n := yEd B n s - s) (G := fun j => zX 0 (zCd zT e) zc_X8_scanNumber 1 [some (.ref 17), some (.int (zi (s : Int))), some (.int (zi ((s + j : Nat) : Int))), some (.int (zi (yNu B s j : Int)))] [] (zm L I J r)) (fun j hj => st j (by omega) (fun i hi => s3 (s + i) (by omega) (by omega)) (by omega))
    refine (show _ = _ from c1).trans ?_
    rw [show s + (yEd B n s - s) = yEd B n s by omega, show yNu B s (yEd B n s - s) = yVs B n s from rfl]
    by_cases g : yEd B n s < n
    · have s5 : yIsD (B (yEd B n s)) = false := s4 g
      rw [eX8_scanNumber_1, h5, if_neg (show ¬ zi (n : Int) ≤ zi (yEd B n s : Int) by rw [yLe (by omega) (by omega)]; omega), cBy (by omega) hn g hb, zbI_s, eX8_scanNumber_2, sX8_isDigit (by omega), yD_i (hB _ g), zbI_s, s5, eX8_scanNumber_3, if_pos (show zb1 false = 0 by decide), fin]
    · rw [eX8_scanNumber_1, h5, if_pos (show zi (n : Int) ≤ zi (yEd B n s : Int) by rw [yLe (by omega) (by omega)]; omega), fin]
  · rw [if_neg w]
    have c1 := zFor (n := 3) (G := fun j => zX 0 (zCd zT e) zc_X8_scanNumber 1 [some (.ref 17), some (.int (zi (s : Int))), some (.int (zi ((s + j : Nat) : Int))), some (.int (zi (yNu B s j : Int)))] [] (zm L I J r)) (fun j hj => st j (by omega) (fun i hi => s3 (s + i) (by omega) (by omega)) hj)
    refine (show _ = _ from c1).trans ?_
    have s5 : yIsD (B (s + 3)) = true := s3 (s + 3) (by omega) (by omega)
    have k2 : zi ((s + 3 : Nat) : Int) - zi (s : Int) = (3 : Int32) := by
      rw [zi_sub, show (3 : Int32) = zi 3 from rfl]
      exact congrArg zi (by omega)
    rw [eX8_scanNumber_1, h5, if_neg (show ¬ zi (n : Int) ≤ zi ((s + 3 : Nat) : Int) by rw [yLe (by omega) (by omega)]; omega), cBy (by omega) hn (by omega) hb, zbI_s, eX8_scanNumber_2, sX8_isDigit (by omega), yD_i (hB _ (by omega)), zbI_s, s5, eX8_scanNumber_3, if_neg (show ¬ zb1 true = 0 by decide), if_pos k2, cTkPut (by omega) hm h6, zbI_s, eX8_scanNumber_4]
    rfl
theorem cScan (hd : 3 ≤ d) (hn : n ≤ 400) (hB : ∀ k, k < n → B k < 256) (hb : ∀ k, k < n → I 18 k = zi (B k : Int)) (h5 : I 17 5 = zi (n : Int)) {m s : Nat} (hs : s ≤ n) (hm : m ≤ 400) (h6 : I 17 6 = zi (m : Int)) : zCd zT d 82 [.ref 17, .int (zi (s : Int))] (zm L I J r) = some (some (.int (zi (yNbe B n s))), (zm L (cPu I m (zi (yCk (yKs B n s) : Int)) (zi (s : Int)) (zi (yCv B n s : Int))) J r)) := by
  obtain ⟨e, rfl⟩ : ∃ e, d = e + 1 := ⟨d - 1, by omega⟩
  have kb := yKs_b (B := B) (n := n) (s := s)
  have ky := yKy_b (w := yWd B s (yEl B n s - s))
  obtain ⟨x, hx⟩ := cByX (d := e) (L := L) (I := I) (J := J) (r := r) (k := s) (by omega) (by omega)
  rw [qX8_scan, eX8_scan_0]
  by_cases w : n ≤ s
  · have w2 : s = n := by omega
    have k19 : yKs B n s = 19 := kb.2.mpr w
    rw [hx, zbI_s, eX8_scan_1, h5, if_neg (show ¬ zi (s : Int) < zi (n : Int) by rw [yLt (by omega) (by omega)]; omega), cTkPut (by omega) hm h6, zbI_s, eX8_scan_2]
    unfold yNbe yCv
    rw [if_pos w, k19, if_pos (Or.inl rfl), w2]
    rfl
  · rw [cBy (by omega) hn (by omega) hb, zbI_s, eX8_scan_1, h5, if_pos (show zi (s : Int) < zi (n : Int) by rw [yLt (by omega) (by omega)]; omega), eX8_scan_3, sX8_isLetter (by omega), yL_i (hB s (by omega)), zbI_s, eX8_scan_4]
    cases q1 : yIsL (B s)
    · rw [if_pos (show zb1 false = 0 by decide), eX8_scan_6, sX8_isDigit (by omega), yD_i (hB s (by omega)), zbI_s, eX8_scan_7]
      cases q2 : yIsD (B s)
      · rw [if_pos (show zb1 false = 0 by decide), eX8_scan_9]
        have b256 := hB s (by omega)
        have i59 : zi (B s : Int) = (59 : Int32) ↔ B s = 59 := yEq (b := 59) (by omega) (by omega)
        have i40 : zi (B s : Int) = (40 : Int32) ↔ B s = 40 := yEq (b := 40) (by omega) (by omega)
        have i41 : zi (B s : Int) = (41 : Int32) ↔ B s = 41 := yEq (b := 41) (by omega) (by omega)
        have hit : (B s = 59 ∨ B s = 40 ∨ B s = 41) → zX 0 (zCd zT e) zc_X8_scan 10 [some (.ref 17), some (.int (zi (s : Int))), some (.int (zi (B s : Int)))] [] (zm L I J r) = some (some (.int (zi (yNbe B n s))), (zm L (cPu I m (zi (yCk (yKs B n s) : Int)) (zi (s : Int)) (zi (yCv B n s : Int))) J r)) := by
          intro hh
          rw [eX8_scan_10, cTkPut (by omega) hm h6, zbI_s, eX8_scan_11, yZ1]
          have k3 : yKs B n s = 16 ∨ yKs B n s = 17 ∨ yKs B n s = 18 := by
            unfold yKs
            rw [if_neg w, q1, q2, if_neg (by decide), if_neg (by decide)]
            rcases hh with g | g | g
            · rw [if_pos g]; omega
            · rw [if_neg (by omega), if_pos g]; omega
            · rw [if_neg (by omega), if_neg (by omega), if_pos g]; omega
          have e3 : yEs B n s = s + 1 := by
            unfold yEs
            rw [if_neg w, q1, q2, if_neg (by decide), if_neg (by decide)]
          have c3 : yCv B n s = B s := by
            unfold yCv
            rw [if_neg w, q1, q2, if_neg (by decide), if_neg (by decide), if_pos hh]
          unfold yNbe
          rw [if_neg (by omega), e3, c3]
          rcases k3 with g | g | g
          · rw [g]; rfl
          · rw [g]; rfl
          · rw [g]; rfl
        by_cases g1 : B s = 59
        · rw [if_pos (i59.mpr g1), hit (Or.inl g1)]
        · rw [if_neg (fun z => g1 (i59.mp z))]
          by_cases g2 : B s = 40
          · rw [if_pos (i40.mpr g2), hit (Or.inr (Or.inl g2))]
          · rw [if_neg (fun z => g2 (i40.mp z))]
            by_cases g3 : B s = 41
            · rw [if_pos (i41.mpr g3), hit (Or.inr (Or.inr g3))]
            · rw [if_neg (fun z => g3 (i41.mp z)), eX8_scan_12, cTkPut (by omega) hm h6, zbI_s, eX8_scan_13]
              have k3 : yKs B n s = 20 := by
                unfold yKs
                rw [if_neg w, q1, q2, if_neg (by decide), if_neg (by decide), if_neg g1, if_neg g2, if_neg g3]
              have c3 : yCv B n s = 0 := by
                unfold yCv
                rw [if_neg w, q1, q2, if_neg (by decide), if_neg (by decide), if_neg (by omega)]
              unfold yNbe
              rw [k3, if_pos (Or.inr rfl), c3]
              rfl
      · rw [if_neg (show ¬ zb1 true = 0 by decide), cScN (by omega) hn hB hb h5 hs hm h6]
        by_cases g : yEd B n s - s ≤ 3
        · have k3 : yKs B n s = 15 := by
            unfold yKs
            rw [if_neg w, q1, q2, if_neg (by decide), if_pos rfl, if_pos g]
          have e3 : yEs B n s = yEd B n s := by
            unfold yEs
            rw [if_neg w, q1, q2, if_neg (by decide), if_pos rfl]
          have c3 : yCv B n s = yVs B n s := by
            unfold yCv
            rw [if_neg w, q1, q2, if_neg (by decide), if_pos rfl, if_pos g]
          rw [if_pos g, zbI_s, eX8_scan_8]
          unfold yNbe
          rw [k3, if_neg (by omega), e3, c3]
          rfl
        · have k3 : yKs B n s = 20 := by
            unfold yKs
            rw [if_neg w, q1, q2, if_neg (by decide), if_pos rfl, if_neg g]
          have c3 : yCv B n s = 0 := by
            unfold yCv
            rw [if_neg w, q1, q2, if_neg (by decide), if_pos rfl, if_neg g]
          rw [if_neg g, zbI_s, eX8_scan_8]
          unfold yNbe
          rw [k3, if_pos (Or.inr rfl), c3]
          rfl
    · rw [if_neg (show ¬ zb1 true = 0 by decide), cScW (by omega) hn hB hb h5 hs hm h6, zbI_s, eX8_scan_5]
      have k3 : yKs B n s = yKy (yWd B s (yEl B n s - s)) := by
        unfold yKs
        rw [if_neg w, q1, if_pos rfl]
      have e3 : yEs B n s = yEl B n s := by
        unfold yEs
        rw [if_neg w, q1, if_pos rfl]
      have c3 : yCv B n s = yEl B n s - s := by
        unfold yCv
        rw [if_neg w, q1, if_pos rfl]
      unfold yNbe
      rw [if_neg (by omega), e3, c3]
      have ck : yCk (yKs B n s) = 1 := by
        unfold yCk
        rw [if_neg (by omega), if_neg (by omega), if_neg (by omega), if_pos (by omega)]
      rw [ck]
      rfl
end
