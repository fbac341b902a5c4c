/-! CROSS and CLEAR -/
def yOth (a b c : Int) : Bool := zbo a 0 999 || zbo b 1 999 || zbo c 0 99
def yCrV (t : zDy) (w p n bt a b c : Int) : Int := if zRf (zNp t p) (zbo w 1 20 || (zbo n 1 10 || (zbo bt 1 999 || yOth a b c))) t.n = 0 then (if yFs t w p.toNat = -1 then -1 else (yNC (zfTi (zRu t (zLss t w 0 0) 0 t.push).2 p.toNat) bt a b c n.toNat : Nat)) else zRf (zNp t p) (zbo w 1 20 || (zbo n 1 10 || (zbo bt 1 999 || yOth a b c))) t.n
def yClB (x : Int) (a b c : Int) (n : Nat) : Nat := zFs (fun j => decide (yNC x ((j + 1 : Nat) : Int) a b c n = 0)) 999
def yClV (t : zDy) (w p n a b c : Int) : Int := if zRf (zNp t p) (zbo w 1 20 || (zbo n 1 10 || yOth a b c)) t.n = 0 then (if yFs t w p.toNat = -1 then -1 else if yClB (zfTi (zRu t (zLss t w 0 0) 0 t.push).2 p.toNat) a b c n.toNat < 999 then (yClB (zfTi (zRu t (zLss t w 0 0) 0 t.push).2 p.toNat) a b c n.toNat + 1 : Nat) else -1) else zRf (zNp t p) (zbo w 1 20 || (zbo n 1 10 || yOth a b c)) t.n
theorem yBt_b {k : Nat} {bt : Int} (hk : k ≤ 10) (hb : 1 ≤ bt ∧ bt ≤ 999) : 0 ≤ (k : Int) * bt ∧ (k : Int) * bt ≤ 9990 := by
  refine ⟨Int.mul_nonneg (by omega) (by omega), ?_⟩
  have z : (k : Int) * bt ≤ 10 * bt := Int.mul_le_mul_of_nonneg_right (by omega) (by omega)
  omega
section
variable {d L r : Nat} {I : Nat → Nat → Int32} {J : Nat → Nat → Int64}
variable {t : zDy}
theorem cOth (hd : 2 ≤ d) {a b c : Int} (ba : -2147483648 ≤ a ∧ a < 2147483648) (bb : -2147483648 ≤ b ∧ b < 2147483648) (bc : -2147483648 ≤ c ∧ c < 2147483648) : zCd zT d 188 [.int (zi a), .int (zi b), .int (zi c)] (zm L I J r) = some (some (.int (zb1 (yOth a b c))), (zm L I J r)) := by
  obtain ⟨e, rfl⟩ : ∃ e, d = e + 1 := ⟨d - 1, by omega⟩
  unfold yOth
  cases h1 : zbo a 0 999 <;> cases h2 : zbo b 1 999 <;> cases h3 : zbo c 0 99
  all_goals simp (disch := omega) only [qX11_badOthers, eX11_badOthers_0, eX11_badOthers_1, eX11_badOthers_2, eX11_badOthers_3, eX11_badOthers_4, eX11_badOthers_5, eX11_badOthers_6, cOut, h1, h2, h3, if_true, if_false, zi_eq, yI1, zbI_s, zbL_s, zbV_s, zgd_t, zb1_t, zb1_f, zb1_01, zz_0, zz_1, zi_lit, zi_add, zi_sub, zi_mul, zi_neg, zi_z0, Bool.or_false, Bool.false_or, Bool.true_or, Bool.or_true]
theorem cNears (hd : 2 ≤ d) {x bt a b c : Int} {n : Nat} (hx : 0 ≤ x ∧ x ≤ 3300) (hn : n ≤ 10) (hbt : 1 ≤ bt ∧ bt ≤ 999) (ha : 0 ≤ a ∧ a ≤ 999) (hb : 1 ≤ b ∧ b ≤ 999) (hc : 0 ≤ c ∧ c ≤ 99) : zCd zT d 185 [.ref 16, .int (zi x), .int (zi (n : Int)), .int (zi bt), .int (zi a), .int (zi b), .int (zi c)] (zm L I J r) = some (some (.int (zi (yNC x bt a b c n : Nat))), (zm L I J r)) := by
  obtain ⟨e, rfl⟩ : ∃ e, d = e + 1 := ⟨d - 1, by omega⟩
  have c1 := zFor (n := n) (G := fun k => zX 0 (zCd zT e) zc_X11_nearOnes 1 [some (.ref 16), some (.int (zi x)), some (.int (zi (n : Int))), some (.int (zi bt)), some (.int (zi a)), some (.int (zi b)), some (.int (zi c)), some (.int (zi (yNC x bt a b c k : Nat))), some (.int (zi ((k : Nat) : Int)))] [] (zm L I J r)) (fun k hk => by
    have k1 : zi ((k : Nat) : Int) + (1 : Int32) = zi ((k + 1 : Nat) : Int) := zi_add _ 1
    have k2 : zi x + zi ((k : Nat) : Int) * zi bt = zi (x + k * bt) := by rw [zi_mul, zi_add]
    have q1 : zi ((yNC x bt a b c k : Nat) : Int) + (1 : Int32) = zi ((yNC x bt a b c k + 1 : Nat) : Int) := zi_add _ 1
    have w := yBt_b (show k ≤ 10 by omega) hbt
    rw [eX11_nearOnes_1, if_neg (show ¬ zi (n : Int) ≤ zi ((k : Nat) : Int) by rw [zi_le (by omega) (by omega)]; omega), k2, cNear (by omega) (by omega) ha hb hc, zbI_s, eX11_nearOnes_2, yNC]
    cases yNear (x + k * bt) a b c
    · rw [if_pos (show zb1 false = 0 by decide), if_neg (show ¬ false = true by decide), eX11_nearOnes_3, k1]
      rfl
    · rw [if_neg (show ¬ zb1 true = 0 by decide), if_pos rfl, eX11_nearOnes_3, k1, q1])
  have z0 : zX 0 (zCd zT e) zc_X11_nearOnes 1 [some (.ref 16), some (.int (zi x)), some (.int (zi (n : Int))), some (.int (zi bt)), some (.int (zi a)), some (.int (zi b)), some (.int (zi c)), some (.int 0), some (.int 0)] [] (zm L I J r) = _ := c1
  rw [qX11_nearOnes, eX11_nearOnes_0, z0, eX11_nearOnes_1, if_pos (Int32.le_refl _), eX11_nearOnes_4]
theorem mNears (hd : 2 ≤ d) {x bt a b c : Int} {p n : Nat} (hp : p < 60) (he : I 136 p = zi x) (hx : 0 ≤ x ∧ x ≤ 3300) (hn : n ≤ 10) (hbt : 1 ≤ bt ∧ bt ≤ 999) (ha : 0 ≤ a ∧ a ≤ 999) (hb : 1 ≤ b ∧ b ≤ 999) (hc : 0 ≤ c ∧ c ≤ 99) : zCd zT d 336 [.ref 130, .int (zi (p : Int)), .int (zi (n : Int)), .int (zi bt), .int (zi a), .int (zi b), .int (zi c)] (zm L I J r) = some (some (.int (zi (yNC x bt a b c n : Nat))), (zm L I J r)) := by
  obtain ⟨e, rfl⟩ : ∃ e, d = e + 1 := ⟨d - 1, by omega⟩
  have c1 := zFor (n := n) (G := fun k => zX 0 (zCd zT e) zc_X12_crosses 1 [some (.ref 130), some (.int (zi (p : Int))), some (.int (zi (n : Int))), some (.int (zi bt)), some (.int (zi a)), some (.int (zi b)), some (.int (zi c)), some (.int (zi (yNC x bt a b c k : Nat))), some (.int (zi ((k : Nat) : Int)))] [] (zm L I J r)) (fun k hk => by
    have k1 : zi ((k : Nat) : Int) + (1 : Int32) = zi ((k + 1 : Nat) : Int) := zi_add _ 1
    have k2 : zi ((k : Nat) : Int) * zi bt + zi x = zi (x + k * bt) := by rw [zi_mul, zi_add, Int.add_comm]
    have q1 : zi ((yNC x bt a b c k : Nat) : Int) + (1 : Int32) = zi ((yNC x bt a b c k + 1 : Nat) : Int) := zi_add _ 1
    have q0 : zi ((yNC x bt a b c k : Nat) : Int) + (0 : Int32) = zi ((yNC x bt a b c k : Nat) : Int) := Int32.add_zero _
    have w := yBt_b (show k ≤ 10 by omega) hbt
    rw [eX12_crosses_1, if_neg (show ¬ zi (n : Int) ≤ zi ((k : Nat) : Int) by rw [zi_le (by omega) (by omega)]; omega), zin_t (by omega) (by omega), zgd_t, zi_cl (by omega), Int.toNat_natCast, he, k2, mNear (by omega) (by omega) ha hb hc, zbI_s, eX12_crosses_2, yNC]
    cases yNear (x + k * bt) a b c
    · rw [if_pos (show zb1 false = 0 by decide), if_neg (show ¬ false = true by decide), eX12_crosses_3, eX12_crosses_4, k1, q0]
      rfl
    · rw [if_neg (show ¬ zb1 true = 0 by decide), if_pos rfl, eX12_crosses_4, k1, q1])
  have z0 : zX 0 (zCd zT e) zc_X12_crosses 1 [some (.ref 130), some (.int (zi (p : Int))), some (.int (zi (n : Int))), some (.int (zi bt)), some (.int (zi a)), some (.int (zi b)), some (.int (zi c)), some (.int 0), some (.int 0)] [] (zm L I J r) = _ := c1
  rw [qX12_crosses, eX12_crosses_0, z0, eX12_crosses_1, if_pos (Int32.le_refl _), eX12_crosses_5]
/-- what a RUN leaves at a POINT, in the model -/
theorem mAtP (hd : 8 ≤ d) (h : zTI I J t) (hn : 0 < t.n) {w : Int} (hw : 1 ≤ w ∧ w ≤ 20) {p : Nat} (hp : p < t.n) : ∃ I', zCd zT d 279 [.ref 130, .int (zi w), .int 0, .int 0] (zm L I J r) = some (none, (zm L I' J r)) ∧ zSm I I' ∧ I' 120 = I 120 ∧ (I' 135 p = -1 ↔ yFs t w p = -1) ∧ (¬ yFs t w p = -1 → I' 136 p = zi (zfTi (zRu t (zLss t w 0 0) 0 t.push).2 p)) := by
  obtain ⟨I1, c1, c2, c3, c4, _, c5⟩ := mOut (d := d) (L := L) (r := r) (by omega) h hn hw (wi := 0) (co := 0) (by decide) (by decide)
  refine ⟨I1, c1, c3, c4, ?_⟩
  unfold yFs
  generalize zRu t (zLss t w 0 0) 0 t.push = s at c5
  obtain ⟨en, fo, at1, pa, ti, tu, tp, td, pul, sl, fs, ft⟩ := s
  obtain ⟨a, b, c, e⟩ := c5.2.2 p hp
  refine ⟨?_, e⟩
  rw [a]
  exact zi_m1 (by omega)
/-- and in the class -/
theorem cAtP (hd : 8 ≤ d) (h : zTI I J t) (hn : 0 < t.n) {w : Int} (hw : 1 ≤ w ∧ w ≤ 20) {p : Nat} (hp : p < t.n) : ∃ I', zCd zT d 238 [.ref 16, .int (zi w), .int 0, .int 0] (zm L I J r) = some (none, (zm L I' J r)) ∧ zFr3 I I' ∧ zCd zT d 32 [.ref 116, .int (zi (p : Int))] (zm L I' J r) = some (some (.int (if yFs t w p = -1 then zi (-1) else zi (zfTi (zRu t (zLss t w 0 0) 0 t.push).2 p))), (zm L I' J r)) := by
  have hn60 := h.2.2.1.1
  obtain ⟨I1, c1, c2, c3, _⟩ := cPass (d := d) (L := L) (r := r) (by omega) h hn hw (wi := 0) (co := 0) (by decide) (by decide)
  exact ⟨I1, c1, c3, cFirT (by omega) c2 (by omega)⟩
end
