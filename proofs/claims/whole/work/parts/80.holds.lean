theorem zSm_5 {I I' : Nat → Nat → Int32} (h : ∀ o, o ≠ 116 → o ≠ 117 → o ≠ 118 → o ≠ 128 → o ≠ 129 → I' o = I o) : zSm I I' ∧ I' 120 = I 120 := by
  refine ⟨fun o k hp => ?_, h 120 (by decide) (by decide) (by decide) (by decide) (by decide)⟩
  rw [h o (fun w => by rw [w] at hp; cases hp) (fun w => by rw [w] at hp; cases hp) (fun w => by rw [w] at hp; cases hp) (fun w => by rw [w] at hp; cases hp) (fun w => by rw [w] at hp; cases hp)]
def yTiV (t : zDy) (w b : Int) : Int32 := if zRf (yNb t b) (zbo w 1 20) t.n = 0 then (if zIsO t w 0 0 = true then yTm t (zRu t (zLss t w 0 0) 0 t.push).2 b.toNat else -1) else zi (zRf (yNb t b) (zbo w 1 20) t.n)
/-! HOLDS -/
def yHs (T : Nat → Int32) (nb b : Nat) (s : (Nat → Int32) × Int32 × Int32) : (Nat → Int32) × Int32 × Int32 :=
  ((fun j => if j = b then (if b + 1 < nb ∧ s.2.1 + T b < s.1 (b + 1) then s.1 (b + 1) else s.2.1 + T b) else s.1 j), (if b + 1 < nb ∧ s.2.1 + T b < s.1 (b + 1) then s.1 (b + 1) else s.2.1 + T b), if b + 1 < nb ∧ s.2.1 + T b < s.1 (b + 1) then s.2.2 + 1 else s.2.2)
def yHi (T : Nat → Int32) (nb : Nat) (s : (Nat → Int32) × Int32 × Int32) : Nat → (Nat → Int32) × Int32 × Int32
  | 0 => s
  | b + 1 => yHs T nb b (yHi T nb s b)
def yHn (k : Nat) (beat which late : Int32) (l : Nat → Int32) : Int32 := if zi (k : Int) * beat + (if zi (k : Int) = which then late else 0) < l 0 then l 0 else zi (k : Int) * beat + (if zi (k : Int) = which then late else 0)
def yHo (T : Nat → Int32) (nb : Nat) (beat which late : Int32) : Nat → (Nat → Int32) × Int32
  | 0 => (fun _ => 0, 0)
  | k + 1 => ((yHi T nb ((yHo T nb beat which late k).1, yHn k beat which late (yHo T nb beat which late k).1, (yHo T nb beat which late k).2) nb).1, (yHi T nb ((yHo T nb beat which late k).1, yHn k beat which late (yHo T nb beat which late k).1, (yHo T nb beat which late k).2) nb).2.2)
section
variable {d L r : Nat} {I : Nat → Nat → Int32} {J : Nat → Nat → Int64}
variable {t : zDy}
theorem cTime (hd : 10 ≤ d) (h : zTI I J t) {w b : Int} (bw : -2147483648 ≤ w ∧ w < 2147483648) (bb : -2147483648 ≤ b ∧ b < 2147483648) : ∃ I', zCd zT d 152 [.ref 16, .int (zi w), .int (zi b)] (zm L I J r) = some (some (.int (yTiV t w b)), (zm L I' J r)) ∧ zSm I I' ∧ I' 120 = I 120 := by
  obtain ⟨e, rfl⟩ : ∃ e, d = e + 1 := ⟨d - 1, by omega⟩
  have hm := h.2.2.1.2.2.1
  rw [qX11_time, eX11_time_0, cNb (by omega) h bb, zbI_s, eX11_time_1, cBadW (by omega) bw, zbI_s, eX11_time_2, cRef (by omega) h, zbI_s, eX11_time_3]
  unfold yTiV
  by_cases q : zRf (yNb t b) (zbo w 1 20) t.n = 0
  · rw [if_pos (zRf_i.mpr q), if_pos q]
    obtain ⟨q1, q2, q3⟩ := zRf_0.mp q
    have gb : 0 ≤ b ∧ b ≤ (t.m : Int) := by
      unfold yNb at q1
      rw [decide_eq_true q3, Bool.true_and] at q1
      exact zbo_f q1
    obtain ⟨I', c1, c2, c3⟩ := cTT (d := e) (L := L) (r := r) (by omega) h q3 (zbo_f q2)
    have k1 : zCd zT e 225 [.int (zi b), .int 0, .int (((6 : Int32) - (1 : Int32)))] (zm L I' J r) = some (some (.int (zb1 false)), (zm L I' J r)) := by
      have := cOut (d := e) (L := L) (r := r) (I := I') (J := J) (lo := 0) (hi := 5) (by omega) bb (by decide) (by decide)
      have hz : zbo b 0 5 = false := decide_eq_false (by omega)
      rw [hz] at this
      exact this
    have ks := zSm_5 (fun o n6 n7 n8 n9 _ => c2 o n6 n7 n8 n9)
    refine ⟨I', ?_, ks⟩
    rw [eX11_time_4, c1, zbI_s, eX11_time_5, k1, zbI_s, eX11_time_6, if_pos (show zb1 false = 0 from rfl), eX11_time_7, eX11_time_8, zin_t (by omega) (by omega), zgd_t, zi_cl (by omega)]
    cases hz : zIsO t w 0 0
    · rfl
    · rw [if_neg (by decide), if_pos rfl, c3 hz b.toNat (by omega)]
  · rw [if_neg (fun x => q (zRf_i.mp x)), if_neg q]
    exact ⟨I, rfl, zSm_rf, rfl⟩
theorem mTime (hd : 10 ≤ d) (h : zTI I J t) {w b : Int} (bw : -2147483648 ≤ w ∧ w < 2147483648) (bb : -2147483648 ≤ b ∧ b < 2147483648) : ∃ I', zCd zT d 308 [.ref 130, .int (zi w), .int (zi b)] (zm L I J r) = some (some (.int (yTiV t w b)), (zm L I' J r)) ∧ zSm I I' ∧ I' 120 = I 120 := by
  obtain ⟨e, rfl⟩ : ∃ e, d = e + 1 := ⟨d - 1, by omega⟩
  have h0 := zTI_fr zSm_0 h
  have g0 : zu I 130 0 0 120 = I 120 := zu_o (by decide)
  have hs0 : zSm I (zu I 130 0 0) := zSm_0
  have hm := h.2.2.1.2.2.1
  have hn60 := h.2.2.1.1
  have e0 : zu I 130 0 0 131 0 = zi t.n := h0.2.1.1
  have e6 : zu I 130 0 0 131 61 = zi t.m := by have := h0.2.1.2.2.1; rwa [Nat.zero_add] at this
  rw [qX12_time, eX12_time_0, mTrack (by omega) h0, zbI_s, eX12_time_1]
  generalize zu I 130 0 0 = IA at h0 g0 hs0 e0 e6 ⊢
  unfold yTiV yNb
  have main : ∀ x : Bool, x = false → (0 < t.n → 0 ≤ b ∧ b ≤ (t.m : Int)) → ∃ I', zX 0 (zCd zT e) zc_X12_time 4 [some (.ref 130), some (.int (zi w)), some (.int (zi b))] [] (zm L IA J r) = some (some (.int (if zRf x (zbo w 1 20) t.n = 0 then (if zIsO t w 0 0 = true then yTm t (zRu t (zLss t w 0 0) 0 t.push).2 b.toNat else -1) else zi (zRf x (zbo w 1 20) t.n))), (zm L I' J r)) ∧ zSm I I' ∧ I' 120 = I 120 := by
    intro x hx hb
    subst hx
    rw [eX12_time_4, mWeight (by omega) bw, zbI_s, eX12_time_5]
    cases hwb : zbo w 1 20
    · rw [if_neg (show ¬ zb1 (!false) = 0 by decide), eX12_time_6, mTrack (by omega) h0, zbI_s, eX12_time_7]
      by_cases hn : 0 < t.n
      · have gb := hb hn
        have hz : zRf false false t.n = 0 := zRf_0.mpr ⟨rfl, rfl, hn⟩
        obtain ⟨I', c1, c2, c3, c4, c5, c6⟩ := mOut (d := e) (L := L) (r := r) (by omega) h0 hn (zbo_f hwb) (wi := 0) (co := 0) (by decide) (by decide)
        have c1' : zCd zT e 279 [.ref 130, .int (zi w), .int 0, .int 0] (zm L IA J r) = some (none, (zm L I' J r)) := c1
        rw [decide_eq_true hn, if_neg (show ¬ zb1 true = 0 by decide), eX12_time_8, c1', zbV_s, eX12_time_9, if_pos hz, eX12_time_11, eX12_time_12]
        refine ⟨I', ?_, zSm_tr hs0 c3, c4.trans g0⟩
        by_cases q : zIsO t w 0 0 = true
        · have al := zRu_all c2.2.2.1.2.2.2.2.2.2.2.2.2.1 (of_decide_eq_true q)
          have ebn : zi b = zi ((b.toNat : Nat) : Int) := congrArg zi (by omega)
          rw [if_pos (c5.mpr q), if_pos q, ebn, mTmO (by omega) c2 hn c6 al.2 (show b.toNat ≤ t.m by omega), zbI_s, eX12_time_10, eX12_time_12]
        · rw [if_neg (fun w => q (c5.mp w)), if_neg q]
      · have hz : zRf false false t.n = -5 := by
          unfold zRf
          rw [if_neg (by decide), if_neg (by decide), if_pos (by omega)]
        rw [decide_eq_false hn, if_pos (show zb1 false = 0 from rfl), hz]
        exact ⟨_, rfl, hs0, g0⟩
    · rw [if_pos (show zb1 (!true) = 0 from rfl)]
      exact ⟨_, rfl, hs0, g0⟩
  by_cases hn : 0 < t.n
  · have kb : zCd zT e 243 [.ref 130] (zm L IA J r) = some (some (.int (zi ((t.m + 1 : Nat) : Int))), (zm L IA J r)) := by
      rw [sX12_blocks (by omega), e0, e6]
      simp only [show ¬ zi (t.n : Int) ≤ 0 by rw [show (0 : Int32) = zi 0 from rfl, zi_le (by omega) (by decide)]; omega, if_false, z10I]
      exact congrArg (fun x => some (some (Value.int x), zm L IA J r)) (zi_add _ 1)
    have k2 : zi ((t.m + 1 : Nat) : Int) - (1 : Int32) = zi (t.m : Int) := (zi_sub _ 1).trans (congrArg zi (by omega))
    rw [decide_eq_true hn, if_neg (show ¬ zb1 true = 0 by decide), kb, zbI_s, eX12_time_2, k2, mWithin (by omega) bb, zbI_s, eX12_time_3, show (0 : Int64).toInt = 0 from rfl, y64 (by omega), Bool.true_and]
    cases hb0 : zbo b 0 (t.m : Int)
    · rw [if_neg (show ¬ zb1 (!false) = 0 by decide)]
      exact main false rfl (fun _ => zbo_f hb0)
    · rw [if_pos (show zb1 (!true) = 0 from rfl)]
      have hz : zRf true (zbo w 1 20) t.n = -2 := by
        unfold zRf
        rw [if_pos rfl]
      rw [hz]
      exact ⟨_, rfl, hs0, g0⟩
  · rw [decide_eq_false hn, if_pos (show zb1 false = 0 from rfl), Bool.false_and]
    exact main false rfl (fun w => absurd w hn)
end
theorem oTime (a b : Int32) : zOk 152 308 [.int a, .int b] := by
  obtain ⟨a, rfl, ba⟩ := zi_of a
  obtain ⟨b, rfl, bb⟩ := zi_of b
  exact zOk_k (V := fun y => .int (yTiV y.1 a b)) (fun L r c I J y h hD hW hcc hc => by
    obtain ⟨I', x1, x2, x3⟩ := cTime (d := 60) (L := L) (r := r) (by decide) h ba bb
    exact ⟨I', x1, x2, by unfold zCa; rw [x3]; exact hc⟩) (fun L r c I J y h hD hW hcc => mTime (by decide) h ba bb)
