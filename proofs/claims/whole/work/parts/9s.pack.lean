/-! TRAINS: the class's packing -/
def yLk (W : Nat → Int) (q : Int) (s : Nat) : Nat → Nat
  | 0 => s
  | k + 1 => yLk W q s k ^^^ (yFb W (yF W q) q (yLk W q s k)).toNat
def yTk (W : Nat → Int) (q : Int) (s k : Nat) : Nat := (yFb W (yF W q) q (yLk W q s k)).toNat
def yBt (b : yTb) (q : Int) (s v : Nat) : Bool := decide (v &&& s = v ∧ v &&& yLob s ≠ 0 ∧ ySm b 0 v b.1 ≤ q ∧ yF (fun c => ySm b 0 c b.1) q (s ^^^ v) = yF (fun c => ySm b 0 c b.1) q s - 1)
theorem yBt_i {b : yTb} {q : Int} {s v : Nat} : yBt b q s v = true ↔ v &&& s = v ∧ v &&& yLob s ≠ 0 ∧ ySm b 0 v b.1 ≤ q ∧ yF (fun c => ySm b 0 c b.1) q (s ^^^ v) = yF (fun c => ySm b 0 c b.1) q s - 1 := by
  unfold yBt
  rw [decide_eq_true_iff]
section
variable {b : yTb} {q : Int}
/-- the best part of what is left -/
theorem yBest (hb : b.1 ≤ 10) {s : Nat} (hf : yFit b q s) (h0 : s ≠ 0) : ∃ p : Nat, yFb (fun c => ySm b 0 c b.1) (yF (fun c => ySm b 0 c b.1) q) q s = (p : Int) ∧ yF (fun c => ySm b 0 c b.1) q s = 1 + yF (fun c => ySm b 0 c b.1) q (s ^^^ p) ∧ yCd (fun c => ySm b 0 c b.1) q s p ∧ ∀ c, yCd (fun c => ySm b 0 c b.1) q s c → yF (fun c => ySm b 0 c b.1) q (s ^^^ p) ≤ yF (fun c => ySm b 0 c b.1) q (s ^^^ c) ∧ (yF (fun c => ySm b 0 c b.1) q (s ^^^ c) = yF (fun c => ySm b 0 c b.1) q (s ^^^ p) → p ≤ c) := by
  have hc := (yF_f hb s s (Nat.le_refl s) hf).2 h0
  rcases yF_p (W := fun c => ySm b 0 c b.1) (q := q) h0 with ⟨_, _, no⟩ | h
  · exact absurd hc (no _)
  · exact h
theorem yF_z (hb : b.1 ≤ 10) {s : Nat} (hf : yFit b q s) : yF (fun c => ySm b 0 c b.1) q s = 0 ↔ s = 0 := by
  constructor
  · intro h
    by_cases h0 : s = 0
    · exact h0
    · obtain ⟨p, _, e, _⟩ := yBest hb hf h0
      have := (yF_b (W := fun c => ySm b 0 c b.1) (q := q) (s ^^^ p) (s ^^^ p) (Nat.le_refl _)).1
      omega
  · intro h
    rw [h, yF_0]
theorem yLk_p (hb : b.1 ≤ 10) {s : Nat} (hf : yFit b q s) : ∀ k : Nat, (k : Int) ≤ yF (fun c => ySm b 0 c b.1) q s → yLk (fun c => ySm b 0 c b.1) q s k &&& s = yLk (fun c => ySm b 0 c b.1) q s k ∧ yF (fun c => ySm b 0 c b.1) q (yLk (fun c => ySm b 0 c b.1) q s k) = yF (fun c => ySm b 0 c b.1) q s - (k : Int) := by
  intro k
  induction k with
  | zero => intro _; exact ⟨Nat.and_self s, (Int.sub_zero _).symm⟩
  | succ k ih =>
    intro h
    have h1 := ih (by omega)
    have hf1 := yFit_x hf h1.1
    have h0 : yLk (fun c => ySm b 0 c b.1) q s k ≠ 0 := fun w => by
      have := (yF_z hb hf1).mpr w
      omega
    obtain ⟨p, e1, e2, e3, _⟩ := yBest hb hf1 h0
    rw [yLk, e1, Int.toNat_natCast]
    refine ⟨(yPx h1.1 e3.1).1, ?_⟩
    omega
end
section
variable {d L r : Nat} {I : Nat → Nat → Int32} {J : Nat → Nat → Int64}
variable {b : yTb} {q : Int}
/-- what the packing holds for all parts of a set -/
def yPk (b : yTb) (q : Int) (R : Nat) (I : Nat → Nat → Int32) (n : Nat) : Prop := ∀ t, t ≤ n → t &&& R = t → I 126 t = zi (ySm b 0 t b.1) ∧ I 127 t = zi (yF (fun c => ySm b 0 c b.1) q t)
theorem ySm_r {b : yTb} (hb : b.1 ≤ 10) (hx : ∀ k, k < b.1 → 1 ≤ b.2 k 0 ∧ b.2 k 0 ≤ 8) (t : Nat) : 0 ≤ ySm b 0 t b.1 ∧ ySm b 0 t b.1 ≤ 80 := by
  have := ySm_b (b := b) (f := 0) (s := t) (B := 8) (fun k hk => by have := hx k hk; omega) (by decide) b.1 (Nat.le_refl _)
  omega
theorem cPack (hd : 3 ≤ d) (bq : 1 ≤ q ∧ q ≤ 40) (hb : cTb 47 4 I b) (hn : b.1 ≤ 10) (hx : ∀ k, k < b.1 → 1 ≤ b.2 k 0 ∧ b.2 k 0 ≤ 8) {R : Nat} (hf : yFit b q R) : ∃ I', zCd zT d 13 [.ref 125, .ref 47, .int (zi (R : Int)), .int (zi q)] (zm L I J r) = some (none, (zm L I' J r)) ∧ (∀ o, o ≠ 126 → o ≠ 127 → I' o = I o) ∧ yPk b q R I' R := by
  obtain ⟨e, rfl⟩ : ∃ e, d = e + 1 := ⟨d - 1, by omega⟩
  have hR : R < 1024 := by
    have : 2 ^ b.1 ≤ 2 ^ 10 := Nat.pow_le_pow_right (by decide) hn
    have := hf.1
    omega
  obtain ⟨I', c1, c2⟩ := zForI (n := R) (M := Nat → Nat → Int32) (G := fun i m => zX 2 (zCd zT e) zc_X2_pack 1 [some (.ref 125), some (.ref 47), some (.int (zi (R : Int))), some (.int (zi q)), some (.int (zi ((i + 1 : Nat) : Int))), none] [] (zm L m J r)) (P := fun i m => (∀ o, o ≠ 126 → o ≠ 127 → m o = I o) ∧ yPk b q R m i) (fun i m hi hm => by
    have k1 : zi ((i + 1 : Nat) : Int) + (1 : Int32) = zi ((i + 1 + 1 : Nat) : Int) := zi_add _ 1
    have k2 : zi ((i + 1 : Nat) : Int) - (1 : Int32) = zi ((i : Nat) : Int) := (zi_sub _ 1).trans (congrArg zi (by omega))
    have ha : (i + 1) &&& R ≤ i + 1 := Nat.and_le_left
    rw [eX2_pack_1, if_neg (show ¬ zi (R : Int) < zi ((i + 1 : Nat) : Int) by rw [zi_lt (by omega) (by omega)]; omega), if_neg (show ¬ (1024 : Int32) ≤ zi ((i + 1 : Nat) : Int) by rw [show (1024 : Int32) = zi 1024 from rfl, zi_le (by decide) (by omega)]; omega), yAnd (by omega) (by omega)]
    by_cases hp : (i + 1) &&& R = i + 1
    · have hfs := yFit_x hf hp
      have hj := yLob_j hn hfs.1 (Nat.succ_ne_zero i)
      have hl := yLob_f hj.1 (Nat.succ_ne_zero i)
      have sl := (ySm_l (b := b) hn hfs.1 (Nat.succ_ne_zero i)).2
      rw [show i + 1 - 1 = i from rfl] at sl hl
      have hin : ((i + 1) &&& i) &&& R = (i + 1) &&& i := by
        rw [← hl.2.2.2.2.2.1]
        exact (yPx hp hl.2.2.2.2.1).1
      have hle : (i + 1) &&& i ≤ i := Nat.and_le_right
      have h126 := (hm.2 _ hle hin).1
      have hbm : cTb 47 4 m b := cTb_fr (hm.1 47 (by decide) (by decide)) (hm.1 48 (by decide) (by decide)) hb
      have g : zCd zT e 68 [.ref 47, .int (zi ((yTz (i + 1) : Nat) : Int)), .int 0] (zm L m J r) = _ := cGetO (L := L) (J := J) (r := r) (q := 4) (k := ((yTz (i + 1) : Nat) : Int)) (f := 0) (by omega) rfl (by decide) hbm hn (by omega) (by decide)
      have bb := hx (yTz (i + 1)) hj.2
      have br := ySm_r hn hx (i + 1)
      rw [if_pos (show zi (((i + 1) &&& R : Nat) : Int) = zi ((i + 1 : Nat) : Int) by rw [hp]), cNt (by omega), zbI_s, yNt_p hj.1 (Nat.succ_ne_zero i), eX2_pack_2, k2, yAnd (by omega) (by omega), zin_t (by omega) (by omega), zgd_t, zi_cl (by omega), Int.toNat_natCast, g, zbI_s, h126, Int.toNat_natCast, show (0 : Int).toNat = 0 from rfl, eX2_pack_3, zin_t (by omega) (by omega), zgd_t, zi_cl (by omega), Int.toNat_natCast, zi_add, sl]
      have hm2 : ∀ t, t ≤ i → t &&& R = t → zu m 126 (i + 1) (zi (ySm b 0 (i + 1) b.1)) 126 t = zi (ySm b 0 t b.1) ∧ zu m 126 (i + 1) (zi (ySm b 0 (i + 1) b.1)) 127 t = zi (yF (fun c => ySm b 0 c b.1) q t) := by
        intro t ht hr
        rw [zu_n (by omega), zu_n (by omega)]
        exact hm.2 t ht hr
      have ln := cLn (d := e) (L := L) (J := J) (r := r) (I := zu m 126 (i + 1) (zi (ySm b 0 (i + 1) b.1))) (W := fun c => ySm b 0 c b.1) (f := yF (fun c => ySm b 0 c b.1) q) (q := q) (s := i + 1) (by omega) bq hj.1 (Nat.succ_ne_zero i) (fun t ht => by
        have h1 := (yXd ht).2
        have h2 := ySm_r hn hx t
        refine ⟨?_, h2.1, by show ySm b 0 t b.1 ≤ 1000; omega⟩
        by_cases w : t = i + 1
        · rw [w, zu_y ⟨rfl, rfl⟩]
        · exact (hm2 t (by omega) (yPx hp ht).2.1).1) (fun t ht hlt => by
        have h2 := yF_b (W := fun c => ySm b 0 c b.1) (q := q) t t (Nat.le_refl t)
        exact ⟨(hm2 t (by omega) (yPx hp ht).2.1).2, h2.1, by omega⟩)
      rw [yNed_e hn hfs (Nat.succ_ne_zero i)] at ln
      rw [ln, zbI_s, eX2_pack_4, zin_t (by omega) (by omega), zgd_t, zi_cl (by omega), Int.toNat_natCast, eX2_pack_5, k1]
      refine ⟨_, rfl, fun o h1 h2 => ?_, fun t ht hr => ?_⟩
      · rw [zu_o h2, zu_o h1]
        exact hm.1 o h1 h2
      · by_cases w : t = i + 1
        · rw [w, zu_n (by omega), zu_y ⟨rfl, rfl⟩, zu_y ⟨rfl, rfl⟩]
          exact ⟨rfl, rfl⟩
        · refine ⟨?_, ?_⟩
          · rw [zu_n (by omega)]
            exact (hm2 t (by omega) hr).1
          · rw [zu_n (by omega)]
            exact (hm2 t (by omega) hr).2
    · rw [if_neg (show ¬ zi (((i + 1) &&& R : Nat) : Int) = zi ((i + 1 : Nat) : Int) by rw [zi_eq (by omega) (by omega)]; omega), eX2_pack_5, k1]
      refine ⟨m, rfl, hm.1, fun t ht hr => ?_⟩
      by_cases w : t = i + 1
      · rw [w] at hr
        exact absurd hr hp
      · exact hm.2 t (by omega) hr) (zu (zu I 126 0 0) 127 0 0) (by
    refine ⟨fun o h1 h2 => by rw [zu_o h2, zu_o h1], fun t ht hr => ?_⟩
    rw [show t = 0 by omega, zu_n (by omega), zu_y ⟨rfl, rfl⟩, zu_y ⟨rfl, rfl⟩, ySm_0, yF_0]
    exact ⟨rfl, rfl⟩)
  have c1' : zX 2 (zCd zT e) zc_X2_pack 1 [some (.ref 125), some (.ref 47), some (.int (zi (R : Int))), some (.int (zi q)), some (.int 1), none] [] (zm L (zu (zu I 126 0 0) 127 0 0) J r) = _ := c1
  refine ⟨I', ?_, c2.1, c2.2⟩
  rw [qX2_pack, eX2_pack_0, c1', eX2_pack_1, if_pos (show zi (R : Int) < zi ((R + 1 : Nat) : Int) by rw [zi_lt (by omega) (by omega)]; omega), eX2_pack_6]
theorem cBestT (hd : 2 ≤ d) (bq : 1 ≤ q ∧ q ≤ 40) (hn : b.1 ≤ 10) (hx : ∀ k, k < b.1 → 1 ≤ b.2 k 0 ∧ b.2 k 0 ≤ 8) {R : Nat} (hf : yFit b q R) (hp : yPk b q R I R) {s : Nat} (hs : s &&& R = s) (h0 : s ≠ 0) : zCd zT d 17 [.ref 125, .int (zi (s : Int)), .int (zi q)] (zm L I J r) = some (some (.int (zi (yFb (fun c => ySm b 0 c b.1) (yF (fun c => ySm b 0 c b.1) q) q s))), (zm L I J r)) := by
  obtain ⟨e, rfl⟩ : ∃ e, d = e + 1 := ⟨d - 1, by omega⟩
  have hfs := yFit_x hf hs
  have hj := yLob_j hn hfs.1 h0
  have hl := yLob_f hj.1 h0
  obtain ⟨p, e1, e2, e3, e4⟩ := yBest hn hfs h0
  have hsR := (yXd hs).2
  have pn := yCd_n e3
  have big : ∀ c, c &&& s = c → c &&& yLob s ≠ 0 → yLob s ≤ c := by
    intro c hc hcl
    have := (yXd hc).2
    rw [hl.2.1] at hcl ⊢
    exact ((yBp (by omega) hl.1).2 ((yBp (by omega) hl.1).1.mp hcl)).2
  have loop := zForT (n := s - yLob s + 1) (G := fun j => zX 0 (zCd zT e) zc_X2_leastTrain 2 [some (.ref 125), some (.int (zi (s : Int))), some (.int (zi q)), some (.int (zi ((yLob s : Nat) : Int))), some (.int (zi ((yLob s + j : Nat) : Int))), none] [] (zm L I J r)) (E := fun j => some (some (.int (zi ((yLob s + j : Nat) : Int))), (zm L I J r))) (stop := fun j => yBt b q s (yLob s + j)) (fun j hlt => by
    try dsimp only
    generalize hv : yLob s + j = v
    have k1 : zi (v : Int) + (1 : Int32) = zi ((v + 1 : Nat) : Int) := zi_add _ 1
    have vle : v ≤ s := by omega
    have no : ∀ x : Int32, zX 0 (zCd zT e) zc_X2_leastTrain 5 [some (.ref 125), some (.int (zi (s : Int))), some (.int (zi q)), some (.int (zi ((yLob s : Nat) : Int))), some (.int (zi (v : Int))), some (.int x)] [] (zm L I J r) = zX 0 (zCd zT e) zc_X2_leastTrain 2 [some (.ref 125), some (.int (zi (s : Int))), some (.int (zi q)), some (.int (zi ((yLob s : Nat) : Int))), some (.int (zi ((yLob s + (j + 1) : Nat) : Int))), none] [] (zm L I J r) := by
      intro x
      rw [eX2_leastTrain_5, k1, ← hv, Nat.add_assoc]
    have a1 : v &&& s ≤ v := Nat.and_le_left
    have a2 : v &&& yLob s ≤ v := Nat.and_le_left
    rw [eX2_leastTrain_2, if_neg (show ¬ zi (s : Int) < zi (v : Int) by rw [zi_lt (by omega) (by omega)]; omega), if_neg (show ¬ (1024 : Int32) ≤ zi (v : Int) by rw [show (1024 : Int32) = zi 1024 from rfl, zi_le (by decide) (by omega)]; omega), yAnd (by omega) (by omega), yAnd (by omega) (by omega)]
    by_cases q1 : v &&& s = v
    · rw [if_pos (show zi ((v &&& s : Nat) : Int) = zi (v : Int) by rw [q1])]
      by_cases q2 : v &&& yLob s = 0
      · rw [if_pos (show zi ((v &&& yLob s : Nat) : Int) = (0 : Int32) by rw [q2]; rfl), eX2_leastTrain_3, eX2_leastTrain_4, if_pos rfl, no, if_neg (show ¬ yBt b q s v = true from fun w => (yBt_i.mp w).2.1 q2)]
      · have h1 := hp v (by omega) (yPx hs q1).2.1
        have h2 := hp s hsR hs
        have h3 := hp (s ^^^ v) (by have := yXd q1; omega) (yPx hs q1).1
        have b1 := ySm_r hn hx v
        have b2 := yF_b (W := fun c => ySm b 0 c b.1) (q := q) s s (Nat.le_refl _)
        have b3 := yF_b (W := fun c => ySm b 0 c b.1) (q := q) (s ^^^ v) (s ^^^ v) (Nat.le_refl _)
        have b4 := yXd q1
        have d1 : zi q < zi (ySm b 0 v b.1) ↔ q < ySm b 0 v b.1 := zi_lt (by omega) (by omega)
        have d2 : zi (yF (fun c => ySm b 0 c b.1) q s) - (1 : Int32) = zi (yF (fun c => ySm b 0 c b.1) q s - 1) := zi_sub _ 1
        have d3 : zi (yF (fun c => ySm b 0 c b.1) q (s ^^^ v)) = zi (yF (fun c => ySm b 0 c b.1) q s - 1) ↔ yF (fun c => ySm b 0 c b.1) q (s ^^^ v) = yF (fun c => ySm b 0 c b.1) q s - 1 := zi_eq (by omega) (by omega)
        rw [if_neg (show ¬ zi ((v &&& yLob s : Nat) : Int) = (0 : Int32) by rw [show (0 : Int32) = zi 0 from rfl, zi_eq (by omega) (by decide)]; omega), eX2_leastTrain_4, if_neg (by decide), zin_t (by omega) (by omega), zgd_t, zi_cl (by omega), Int.toNat_natCast, h1.1]
        by_cases q3 : ySm b 0 v b.1 ≤ q
        · rw [if_neg (fun w => by have := d1.mp w; omega), yAnN (by omega) (by omega), Nat.and_comm s v, q1, zin_t (by omega) (by omega), zgd_t, zin_t (by omega) (by omega), zgd_t, zi_cl (by omega), zi_cl (by omega), Int.toNat_natCast, Int.toNat_natCast, h3.2, h2.2, d2]
          by_cases q4 : yF (fun c => ySm b 0 c b.1) q (s ^^^ v) = yF (fun c => ySm b 0 c b.1) q s - 1
          · rw [if_pos (d3.mpr q4), if_pos (show yBt b q s v = true from yBt_i.mpr ⟨q1, q2, q3, q4⟩)]
          · rw [if_neg (fun w => q4 (d3.mp w)), no, if_neg (show ¬ yBt b q s v = true from fun w => q4 (yBt_i.mp w).2.2.2)]
        · rw [if_pos (d1.mpr (by omega)), no, if_neg (show ¬ yBt b q s v = true from fun w => q3 (yBt_i.mp w).2.2.1)]
    · rw [if_neg (show ¬ zi ((v &&& s : Nat) : Int) = zi (v : Int) by rw [zi_eq (by omega) (by omega)]; omega), eX2_leastTrain_3, eX2_leastTrain_4, if_pos rfl, no, if_neg (show ¬ yBt b q s v = true from fun w => q1 (yBt_i.mp w).1)])
  have lp := big p e3.1 e3.2.1
  have fs := zFs_u (stop := fun j => yBt b q s (yLob s + j)) (n := s - yLob s + 1) (k := p - yLob s) (by omega) (fun j hlt => by
    refine Bool.eq_false_iff.mpr fun w => ?_
    have w := yBt_i.mp w
    have := (e4 _ ⟨w.1, w.2.1, w.2.2.1⟩).2 (by have := w.2.2.2; omega)
    omega) (fun _ => by
    rw [show yLob s + (p - yLob s) = p by omega]
    exact yBt_i.mpr ⟨e3.1, e3.2.1, e3.2.2, by omega⟩)
  rw [fs, if_pos (by omega), show yLob s + (p - yLob s) = p by omega] at loop
  have loop' : zX 0 (zCd zT e) zc_X2_leastTrain 2 [some (.ref 125), some (.int (zi (s : Int))), some (.int (zi q)), some (.int (zi ((yLob s : Nat) : Int))), some (.int (zi ((yLob s : Nat) : Int))), none] [] (zm L I J r) = some (some (.int (zi (p : Int))), (zm L I J r)) := loop
  rw [qX2_leastTrain, eX2_leastTrain_0, cLo (by omega) hj.1, zbI_s, eX2_leastTrain_1, loop', e1]
end
