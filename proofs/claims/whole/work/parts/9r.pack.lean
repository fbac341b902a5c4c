/-! TRAINS: the class -/
def yNg (W f : Nat → Int) (q : Int) (o lw v : Nat) (a : Int) : Int := if W (v ||| lw) ≤ q then (if f (o ^^^ v) + 1 < a then f (o ^^^ v) + 1 else a) else a
def yNed (W f : Nat → Int) (q : Int) (s : Nat) : Int := yNg W f q (s ^^^ yLob s) (yLob s) 0 (yDs (yNg W f q (s ^^^ yLob s) (yLob s)) (s ^^^ yLob s) (s ^^^ yLob s) (s ^^^ yLob s) 1024)
def yNR (W f : Nat → Int) (q : Int) (o lw : Nat) (S : Nat → Prop) (a : Int) : Prop := (a = 1024 ∨ ∃ u, u &&& o = u ∧ W (u ||| lw) ≤ q ∧ a = f (o ^^^ u) + 1) ∧ ∀ u, u &&& o = u → S u → W (u ||| lw) ≤ q → a ≤ f (o ^^^ u) + 1
theorem yNg_s {W f : Nat → Int} {q : Int} {o lw v : Nat} {a : Int} {S T : Nat → Prop} (hv : v &&& o = v) (hT : ∀ u, u &&& o = u → T u → u = v ∨ S u) (h : yNR W f q o lw S a) : yNR W f q o lw T (yNg W f q o lw v a) := by
  unfold yNg
  by_cases q1 : W (v ||| lw) ≤ q
  · rw [if_pos q1]
    by_cases q2 : f (o ^^^ v) + 1 < a
    · rw [if_pos q2]
      refine ⟨Or.inr ⟨v, hv, q1, rfl⟩, fun u hu ht hw => ?_⟩
      rcases hT u hu ht with w | w
      · rw [w]
        exact Int.le_refl _
      · have := h.2 u hu w hw
        omega
    · rw [if_neg q2]
      refine ⟨h.1, fun u hu ht hw => ?_⟩
      rcases hT u hu ht with w | w
      · rw [w]
        omega
      · exact h.2 u hu w hw
  · rw [if_neg q1]
    refine ⟨h.1, fun u hu ht hw => ?_⟩
    rcases hT u hu ht with w | w
    · rw [w] at hw
      exact absurd hw q1
    · exact h.2 u hu w hw
theorem yOl {u lw : Nat} : (u ||| lw) &&& lw = lw := by
  refine Nat.eq_of_testBit_eq fun i => ?_
  rw [Nat.testBit_and, Nat.testBit_or]
  cases u.testBit i <;> cases lw.testBit i <;> rfl
theorem yNed_e {b : yTb} {q : Int} (hb : b.1 ≤ 10) {s : Nat} (hf : yFit b q s) (h0 : s ≠ 0) : yNed (fun c => ySm b 0 c b.1) (yF (fun c => ySm b 0 c b.1) q) q s = yF (fun c => ySm b 0 c b.1) q s := by
  have hj := yLob_j hb hf.1 h0
  have hl := yLob_f hj.1 h0
  have hc := (yF_f hb s s (Nat.le_refl s) hf).2 h0
  have hb1 := (yF_f hb s s (Nat.le_refl s) hf).1
  have hp10 : yPc s 10 ≤ 10 := yPc_le 10
  rcases yF_p (W := fun c => ySm b 0 c b.1) (q := q) h0 with ⟨_, _, no⟩ | ⟨p, _, e, hp, hm⟩
  · exact absurd hc (no _)
  · have k1 := yDs_i (m := s ^^^ yLob s) (g := yNg (fun c => ySm b 0 c b.1) (yF (fun c => ySm b 0 c b.1) q) q (s ^^^ yLob s) (yLob s)) (Q := fun v (a : Int) => yNR (fun c => ySm b 0 c b.1) (yF (fun c => ySm b 0 c b.1) q) q (s ^^^ yLob s) (yLob s) (fun u => v < u) a) (fun v a v0 vs hq => yNg_s vs (fun u hu hlt => by
      by_cases w : u = v
      · exact Or.inl w
      · by_cases w2 : v < u
        · exact Or.inr w2
        · have := yDn v (s ^^^ yLob s) v u (Nat.le_refl v) vs hu (by omega)
          omega) hq) (s ^^^ yLob s) (s ^^^ yLob s) 1024 (Nat.le_refl _) (Nat.and_self _) ⟨Or.inl rfl, fun u hu hlt _ => by
        have := (yXd hu).2
        omega⟩
    have k2 : yNR (fun c => ySm b 0 c b.1) (yF (fun c => ySm b 0 c b.1) q) q (s ^^^ yLob s) (yLob s) (fun _ => True) (yNed (fun c => ySm b 0 c b.1) (yF (fun c => ySm b 0 c b.1) q) q s) := yNg_s (Nat.zero_and _) (fun u hu _ => by
      by_cases w : u = 0
      · exact Or.inl w
      · exact Or.inr (by omega)) k1
    have hlp : yLob s &&& p = yLob s := by
      have h1 : p < 1024 := by
        have := (yCd_n hp).2.1
        omega
      have h2 := hp.2.1
      rw [hl.2.1] at h2 ⊢
      exact ((yBp h1 hl.1).2 ((yBp h1 hl.1).1.mp h2)).1
    have hu := yLb2 hp.1 hlp
    have a1 := yLa hl.2.2.2.2.1 hu.1
    have k3 := k2.2 (p ^^^ yLob s) hu.1 trivial (by rw [hu.2]; exact hp.2.2)
    rw [a1.2, hu.2] at k3
    rcases k2.1 with w | ⟨u, w1, w2, w3⟩
    · omega
    · have a2 := yLa hl.2.2.2.2.1 w1
      have hcu : yCd (fun c => ySm b 0 c b.1) q s (u ||| yLob s) := ⟨a2.1, by rw [yOl, hl.2.1]; exact Nat.ne_of_gt (Nat.two_pow_pos _), w2⟩
      have := (hm _ hcu).1
      rw [a2.2] at w3
      omega
section
variable {d L r : Nat} {I : Nat → Nat → Int32} {J : Nat → Nat → Int64}
theorem cLn (hd : 2 ≤ d) {W f : Nat → Int} {q : Int} (bq : 1 ≤ q ∧ q ≤ 40) {s : Nat} (hs : s < 1024) (h0 : s ≠ 0) (hW : ∀ t, t &&& s = t → I 126 t = zi (W t) ∧ 0 ≤ W t ∧ W t ≤ 1000) (hf : ∀ t, t &&& s = t → t < s → I 127 t = zi (f t) ∧ 0 ≤ f t ∧ f t ≤ 3000) : zCd zT d 14 [.ref 125, .int (zi (s : Int)), .int (zi q)] (zm L I J r) = some (some (.int (zi (yNed W f q s))), (zm L I J r)) := by
  obtain ⟨e, rfl⟩ : ∃ e, d = e + 1 := ⟨d - 1, by omega⟩
  have hl := yLob_f hs h0
  have ho : s ^^^ yLob s ≤ s := by
    have := yXd hl.2.2.2.2.1
    omega
  have lw0 : 0 < yLob s := by
    rw [hl.2.1]
    exact Nat.two_pow_pos _
  have one : ∀ (v : Nat) (a : Int) (g : Nat), v &&& (s ^^^ yLob s) = v → g < 1024 → 0 ≤ a → a ≤ 3001 → zX 0 (zCd zT e) zc_X2_leastNeed 2 [some (.ref 125), some (.int (zi (s : Int))), some (.int (zi q)), some (.int (zi ((yLob s : Nat) : Int))), some (.int (zi ((s ^^^ yLob s : Nat) : Int))), some (.int (zi a)), some (.int (zi (v : Int))), some (.int (zi (g : Int)))] [] (zm L I J r) = zX 0 (zCd zT e) zc_X2_leastNeed 3 [some (.ref 125), some (.int (zi (s : Int))), some (.int (zi q)), some (.int (zi ((yLob s : Nat) : Int))), some (.int (zi ((s ^^^ yLob s : Nat) : Int))), some (.int (zi (yNg W f q (s ^^^ yLob s) (yLob s) v a))), some (.int (zi (v : Int))), some (.int (zi (g : Int)))] [] (zm L I J r) := by
    intro v a g hv hg a0 a1
    have l1 := yLa hl.2.2.2.2.1 hv
    have l2 := yXd l1.1
    have l3 : yLob s ≤ v ||| yLob s := Nat.right_le_or
    have l4 := yXd hv
    have w1 := hW _ l1.1
    have l5 := yPx (m := s) (Nat.and_self s) l1.1
    have w2 := hf _ l5.1 (by omega)
    rw [← l1.2] at w2
    rw [eX2_leastNeed_2, if_neg (show ¬ (1024 : Int32) ≤ zi (g : Int) by rw [show (1024 : Int32) = zi 1024 from rfl, zi_le (by decide) (by omega)]; omega), yOr (by omega) (by omega), zin_t (by omega) (by omega), zgd_t, zi_cl (by omega), Int.toNat_natCast, w1.1, yAnN (by omega) (by omega), Nat.and_comm (s ^^^ yLob s) v, hv, zin_t (by omega) (by omega), zgd_t, zi_cl (by omega), Int.toNat_natCast, w2.1]
    unfold yNg
    have d1 : zi q < zi (W (v ||| yLob s)) ↔ q < W (v ||| yLob s) := zi_lt (by omega) (by omega)
    have d2 : zi (f (s ^^^ yLob s ^^^ v)) + (1 : Int32) = zi (f (s ^^^ yLob s ^^^ v) + 1) := zi_add _ 1
    have d3 : zi (f (s ^^^ yLob s ^^^ v) + 1) < zi a ↔ f (s ^^^ yLob s ^^^ v) + 1 < a := zi_lt (by omega) (by omega)
    rw [d2]
    by_cases q1 : W (v ||| yLob s) ≤ q
    · rw [if_neg (fun w => by have := d1.mp w; omega), if_pos q1]
      by_cases q2 : f (s ^^^ yLob s ^^^ v) + 1 < a
      · rw [if_pos (d3.mpr q2), if_pos q2]
      · rw [if_neg (fun w => q2 (d3.mp w)), if_neg q2]
    · rw [if_pos (d1.mpr (by omega)), if_neg q1]
  have nb : ∀ (v : Nat) (a : Int), v &&& (s ^^^ yLob s) = v → 0 ≤ a → a ≤ 3001 → 0 ≤ yNg W f q (s ^^^ yLob s) (yLob s) v a ∧ yNg W f q (s ^^^ yLob s) (yLob s) v a ≤ 3001 := by
    intro v a hv a0 a1
    have l1 := yLa hl.2.2.2.2.1 hv
    have l2 := yXd l1.1
    have l3 : yLob s ≤ v ||| yLob s := Nat.right_le_or
    have l5 := yPx (m := s) (Nat.and_self s) l1.1
    have w2 := hf _ l5.1 (by omega)
    rw [← l1.2] at w2
    unfold yNg
    split
    · split <;> omega
    · omega
  have loop : ∀ (n v : Nat) (a : Int) (g : Nat), v ≤ n → v &&& (s ^^^ yLob s) = v → g + v ≤ 1023 → 0 ≤ a → a ≤ 3001 → zX 0 (zCd zT e) zc_X2_leastNeed 2 [some (.ref 125), some (.int (zi (s : Int))), some (.int (zi q)), some (.int (zi ((yLob s : Nat) : Int))), some (.int (zi ((s ^^^ yLob s : Nat) : Int))), some (.int (zi a)), some (.int (zi (v : Int))), some (.int (zi (g : Int)))] [] (zm L I J r) = some (some (.int (zi (yNg W f q (s ^^^ yLob s) (yLob s) 0 (yDs (yNg W f q (s ^^^ yLob s) (yLob s)) (s ^^^ yLob s) n v a)))), (zm L I J r)) := by
    intro n
    induction n with
    | zero =>
      intro v a g h1 hv hg a0 a1
      have hv0 : v = 0 := by omega
      subst hv0
      rw [one 0 a g hv (by omega) a0 a1, eX2_leastNeed_3, if_pos (show zi ((0 : Nat) : Int) = (0 : Int32) from rfl), eX2_leastNeed_5]
      rfl
    | succ n ih =>
      intro v a g h1 hv hg a0 a1
      have b1 := nb v a hv a0 a1
      rw [one v a g hv (by omega) a0 a1, eX2_leastNeed_3]
      by_cases q0 : v = 0
      · subst q0
        rw [if_pos (show zi ((0 : Nat) : Int) = (0 : Int32) from rfl), eX2_leastNeed_5, yDs_0]
      · have h3 : (v - 1) &&& (s ^^^ yLob s) ≤ v - 1 := Nat.and_le_left
        have k1 : zi (g : Int) + (1 : Int32) = zi ((g + 1 : Nat) : Int) := zi_add _ 1
        have k2 : zi (v : Int) - (1 : Int32) = zi ((v - 1 : Nat) : Int) := (zi_sub _ 1).trans (congrArg zi (by omega))
        have l4 := yXd hv
        rw [if_neg (show ¬ zi (v : Int) = (0 : Int32) by rw [show (0 : Int32) = zi 0 from rfl, zi_eq (by omega) (by decide)]; omega), eX2_leastNeed_4, k1, k2, yAnd (by omega) (by omega), ih _ _ _ (by omega) yAm (by omega) b1.1 b1.2, yDs, if_neg q0]
  rw [qX2_leastNeed, eX2_leastNeed_0, cLo (by omega) hs, zbI_s, eX2_leastNeed_1, yAnN (by omega) (by omega), Nat.and_comm s (yLob s), hl.2.2.2.2.1]
  exact loop (s ^^^ yLob s) (s ^^^ yLob s) 1024 0 (Nat.le_refl _) (Nat.and_self _) (by omega) (by decide) (by decide)
end
