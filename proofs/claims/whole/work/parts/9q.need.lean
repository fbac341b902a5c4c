/-! TRAINS: what a set needs -/
theorem ySm_0 {b : yTb} {f : Nat} : ∀ k, ySm b f 0 k = 0 := by
  intro k
  induction k with
  | zero => rfl
  | succ k ih => rw [ySm, Nat.zero_testBit, if_neg (by decide), ih]
theorem ySm_x {b : yTb} {f s t j n : Nat} (h : ∀ i, i < n → t.testBit i = (s.testBit i && !decide (i = j))) (hj : s.testBit j = true) : ∀ k, k ≤ n → ySm b f t k + (if j < k then b.2 j f else 0) = ySm b f s k := by
  intro k
  induction k with
  | zero => exact fun _ => rfl
  | succ k ih =>
    intro hk
    have h1 := ih (by omega)
    rw [ySm, ySm, h k (by omega)]
    by_cases q : k = j
    · subst q
      rw [if_neg (Nat.lt_irrefl k)] at h1
      rw [hj, decide_eq_true rfl, if_neg (by decide), if_pos (Nat.lt_succ_self k), if_pos rfl]
      omega
    · rw [decide_eq_false q, Bool.not_false, Bool.and_true]
      by_cases q2 : j < k
      · rw [if_pos q2] at h1
        rw [if_pos (show j < k + 1 by omega)]
        split <;> omega
      · rw [if_neg q2] at h1
        rw [if_neg (show ¬ j < k + 1 by omega)]
        split <;> omega
theorem ySm_m {b : yTb} {f s n : Nat} (h : ∀ k, k < n → 0 ≤ b.2 k f) {j : Nat} (hj : s.testBit j = true) : ∀ k, k ≤ n → (j < k → b.2 j f ≤ ySm b f s k) ∧ 0 ≤ ySm b f s k := by
  intro k
  induction k with
  | zero => exact fun _ => ⟨fun w => absurd w (by omega), Int.le_refl 0⟩
  | succ k ih =>
    intro hk
    have h1 := ih (by omega)
    have h2 := h k (by omega)
    rw [ySm]
    refine ⟨fun w => ?_, by split <;> omega⟩
    by_cases q : j = k
    · subst q
      rw [if_pos hj]
      omega
    · have := h1.1 (by omega)
      split <;> omega
/-- the least of the best parts, the fewest TRAINS -/
def yCd (W : Nat → Int) (q : Int) (s c : Nat) : Prop := c &&& s = c ∧ c &&& yLob s ≠ 0 ∧ W c ≤ q
def yFb (W f : Nat → Int) (q : Int) (s : Nat) : Int := yDs (fun v a => if v &&& yLob s ≠ 0 ∧ W v ≤ q ∧ (a = -1 ∨ f (s ^^^ v) ≤ f (s ^^^ a.toNat)) then ((v : Nat) : Int) else a) s s s (-1)
theorem yCd_n {W : Nat → Int} {q : Int} {s c : Nat} (h : yCd W q s c) : c ≠ 0 ∧ c ≤ s ∧ s ^^^ c < s := by
  have h1 : c ≠ 0 := fun w => h.2.1 (by rw [w, Nat.zero_and])
  have h2 := yXd h.1
  omega
theorem yFb_p {W f : Nat → Int} {q : Int} {s : Nat} : (yFb W f q s = -1 ∧ ∀ c, ¬ yCd W q s c) ∨ ∃ p : Nat, yFb W f q s = (p : Int) ∧ yCd W q s p ∧ ∀ c, yCd W q s c → f (s ^^^ p) ≤ f (s ^^^ c) ∧ (f (s ^^^ c) = f (s ^^^ p) → p ≤ c) := by
  have key := yDs_i (m := s) (g := fun v a => if v &&& yLob s ≠ 0 ∧ W v ≤ q ∧ (a = -1 ∨ f (s ^^^ v) ≤ f (s ^^^ a.toNat)) then ((v : Nat) : Int) else a) (Q := fun v (a : Int) => (a = -1 ∧ ∀ c, yCd W q s c → c ≤ v) ∨ ∃ p : Nat, a = (p : Int) ∧ yCd W q s p ∧ v < p ∧ ∀ c, yCd W q s c → v < c → f (s ^^^ p) ≤ f (s ^^^ c) ∧ (f (s ^^^ c) = f (s ^^^ p) → p ≤ c)) (fun v a v0 vs hq => by
    revert hq
    have w1 : (v - 1) &&& s ≤ v - 1 := Nat.and_le_left
    have w0 : (v - 1) &&& s < v := by omega
    have w2 : ∀ c, yCd W q s c → (v - 1) &&& s < c → v ≤ c := by
      intro c hc hlt
      by_cases w : c < v
      · have := yDn v s v c (Nat.le_refl v) vs hc.1 w
        omega
      · omega
    intro hq
    by_cases cv : v &&& yLob s ≠ 0 ∧ W v ≤ q ∧ (a = -1 ∨ f (s ^^^ v) ≤ f (s ^^^ a.toNat))
    · try dsimp only
      rw [if_pos cv]
      refine Or.inr ⟨v, rfl, ⟨vs, cv.1, cv.2.1⟩, w0, fun c hc hlt => ?_⟩
      have h1 := w2 c hc hlt
      by_cases e : c = v
      · rw [e]
        exact ⟨Int.le_refl _, fun _ => Nat.le_refl _⟩
      · refine ⟨?_, fun _ => h1⟩
        rcases hq with hq | ⟨p, rfl, hp, hvp, hm⟩
        · have := hq.2 c hc
          omega
        · rcases cv.2.2 with w | w
          · omega
          · rw [Int.toNat_natCast] at w
            have := (hm c hc (by omega)).1
            omega
    · try dsimp only
      rw [if_neg cv]
      rcases hq with ⟨ha, hq⟩ | ⟨p, ha, hp, hvp, hm⟩
      · refine Or.inl ⟨ha, fun c hc => ?_⟩
        by_cases e : c = v
        · exact absurd ⟨e ▸ hc.2.1, e ▸ hc.2.2, Or.inl ha⟩ cv
        · have h1 := hq c hc
          exact yDn v s v c (Nat.le_refl v) vs hc.1 (by omega)
      · refine Or.inr ⟨p, ha, hp, by omega, fun c hc hlt => ?_⟩
        have h1 := w2 c hc hlt
        by_cases e : c = v
        · subst e
          have h2 : ¬ f (s ^^^ c) ≤ f (s ^^^ p) := fun w => cv ⟨hc.2.1, hc.2.2, Or.inr (by rw [ha, Int.toNat_natCast]; exact w)⟩
          exact ⟨by omega, fun w => by omega⟩
        · exact hm c hc (by omega)) s s (-1) (Nat.le_refl s) (Nat.and_self s) (Or.inl ⟨rfl, fun c hc => (yCd_n hc).2.1⟩)
  rcases key with ⟨ha, hq⟩ | ⟨p, ha, hp, _, hm⟩
  · refine Or.inl ⟨ha, fun c hc => ?_⟩
    have := hq c hc
    have := (yCd_n hc).1
    omega
  · exact Or.inr ⟨p, ha, hp, fun c hc => hm c hc (by have := (yCd_n hc).1; omega)⟩
theorem yFb_c {W f g : Nat → Int} {q : Int} {s : Nat} (h : ∀ t, t < s → f t = g t) : yFb W f q s = yFb W g q s := by
  rcases yFb_p (W := W) (f := f) (q := q) (s := s) with ⟨a1, a2⟩ | ⟨p, a1, a2, a3⟩
  · rcases yFb_p (W := W) (f := g) (q := q) (s := s) with ⟨b1, b2⟩ | ⟨p', b1, b2, b3⟩
    · rw [a1, b1]
    · exact absurd b2 (a2 p')
  · rcases yFb_p (W := W) (f := g) (q := q) (s := s) with ⟨b1, b2⟩ | ⟨p', b1, b2, b3⟩
    · exact absurd a2 (b2 p)
    · have e1 := h _ (yCd_n a2).2.2
      have e2 := h _ (yCd_n b2).2.2
      have c1 := a3 p' b2
      have c2 := b3 p a2
      rw [e1, e2] at c1
      have c3 : p ≤ p' := c1.2 (by omega)
      have c4 : p' ≤ p := c2.2 (by omega)
      rw [a1, b1, show p = p' by omega]
def yFv (W f : Nat → Int) (q : Int) (s : Nat) : Int := if s = 0 then 0 else if yFb W f q s = -1 then 1000 else 1 + f (s ^^^ (yFb W f q s).toNat)
def yFt (W : Nat → Int) (q : Int) : Nat → Nat → Int
  | 0, _ => 0
  | n + 1, t => if t = n then yFv W (yFt W q n) q n else yFt W q n t
def yF (W : Nat → Int) (q : Int) (t : Nat) : Int := yFt W q (t + 1) t
theorem yFt_e {W : Nat → Int} {q : Int} : ∀ n t, t < n → yFt W q n t = yF W q t := by
  intro n
  induction n with
  | zero => intro t h; omega
  | succ n ih =>
    intro t h
    by_cases e : t = n
    · rw [e]
      rfl
    · rw [yFt, if_neg e]
      exact ih t (by omega)
theorem yFv_c {W f g : Nat → Int} {q : Int} {s : Nat} (h : ∀ t, t < s → f t = g t) : yFv W f q s = yFv W g q s := by
  unfold yFv
  rw [← yFb_c h]
  by_cases e : s = 0
  · rw [if_pos e, if_pos e]
  · rw [if_neg e, if_neg e]
    rcases yFb_p (W := W) (f := f) (q := q) (s := s) with ⟨a1, a2⟩ | ⟨p, a1, a2, a3⟩
    · rw [if_pos a1, if_pos a1]
    · rw [a1, if_neg (show ¬ (p : Int) = -1 by omega), if_neg (show ¬ (p : Int) = -1 by omega), Int.toNat_natCast, h _ (yCd_n a2).2.2]
theorem yF_e {W : Nat → Int} {q : Int} {s : Nat} : yF W q s = yFv W (yF W q) q s := by
  have h1 : yF W q s = yFv W (yFt W q s) q s := if_pos rfl
  rw [h1]
  exact yFv_c fun t ht => yFt_e s t ht
theorem yF_0 {W : Nat → Int} {q : Int} : yF W q 0 = 0 := by
  rw [yF_e]
  exact if_pos rfl
/-- what a set needs, by its best part -/
theorem yF_p {W : Nat → Int} {q : Int} {s : Nat} (h0 : s ≠ 0) : (yFb W (yF W q) q s = -1 ∧ yF W q s = 1000 ∧ ∀ c, ¬ yCd W q s c) ∨ ∃ p : Nat, yFb W (yF W q) q s = (p : Int) ∧ yF W q s = 1 + yF W q (s ^^^ p) ∧ yCd W q s p ∧ ∀ c, yCd W q s c → yF W q (s ^^^ p) ≤ yF W q (s ^^^ c) ∧ (yF W q (s ^^^ c) = yF W q (s ^^^ p) → p ≤ c) := by
  have e : yF W q s = _ := yF_e
  unfold yFv at e
  rw [if_neg h0] at e
  rcases yFb_p (W := W) (f := yF W q) (q := q) (s := s) with ⟨a1, a2⟩ | ⟨p, a1, a2, a3⟩
  · rw [if_pos a1] at e
    exact Or.inl ⟨a1, e, a2⟩
  · rw [a1, if_neg (show ¬ (p : Int) = -1 by omega), Int.toNat_natCast] at e
    exact Or.inr ⟨p, a1, e, a2, a3⟩
theorem yF_b {W : Nat → Int} {q : Int} : ∀ n s, s ≤ n → 0 ≤ yF W q s ∧ yF W q s ≤ 1000 + (s : Int) := by
  intro n
  induction n with
  | zero => intro s h; rw [show s = 0 by omega, yF_0]; decide
  | succ n ih =>
    intro s h
    by_cases h0 : s = 0
    · rw [h0, yF_0]
      decide
    · rcases yF_p (W := W) (q := q) h0 with ⟨_, e, _⟩ | ⟨p, _, e, hp, _⟩
      · omega
      · have h1 := yCd_n hp
        have h2 := ih (s ^^^ p) (by omega)
        omega
section
variable {b : yTb} {q : Int}
theorem yF_u (hb : b.1 ≤ 10) (hs : ∀ k, k < b.1 → 0 ≤ b.2 k 0) {j : Nat} (hj : j < b.1) (hq : q < b.2 j 0) : ∀ n s, s ≤ n → s.testBit j = true → 1000 ≤ yF (fun c => ySm b 0 c b.1) q s := by
  intro n
  induction n with
  | zero => intro s h1 h2; rw [show s = 0 by omega, Nat.zero_testBit] at h2; cases h2
  | succ n ih =>
    intro s h1 h2
    by_cases h0 : s = 0
    · rw [h0, Nat.zero_testBit] at h2
      cases h2
    · rcases yF_p (W := fun c => ySm b 0 c b.1) (q := q) h0 with ⟨_, e, _⟩ | ⟨p, _, e, hp, _⟩
      · omega
      · have h3 := yCd_n hp
        have h4 : p.testBit j = false := by
          cases hc : p.testBit j
          · rfl
          · have := (ySm_m (f := 0) hs hc b.1 (Nat.le_refl _)).1 hj
            have h5 : ySm b 0 p b.1 ≤ q := hp.2.2
            omega
        have := ih (s ^^^ p) (by omega) (by rw [Nat.testBit_xor, h2, h4]; rfl)
        omega
/-- all that ride there fit into a TRAIN -/
def yFit (b : yTb) (q : Int) (s : Nat) : Prop := s < 2 ^ b.1 ∧ ∀ k, k < b.1 → s.testBit k = true → b.2 k 0 ≤ q
theorem yFit_x {s c : Nat} (h : yFit b q s) (hc : c &&& s = c) : yFit b q c := by
  have h1 := yXd hc
  refine ⟨by have := h.1; omega, fun k hk hb => h.2 k hk ?_⟩
  have h2 : (c &&& s).testBit k = c.testBit k := by rw [hc]
  rw [Nat.testBit_and, hb, Bool.true_and] at h2
  exact h2
theorem yLob_j (hb : b.1 ≤ 10) {s : Nat} (h : s < 2 ^ b.1) (h0 : s ≠ 0) : s < 1024 ∧ yTz s < b.1 := by
  have hp : 2 ^ b.1 ≤ 2 ^ 10 := Nat.pow_le_pow_right (by decide) hb
  have hl := yLob_f (s := s) (by omega) h0
  refine ⟨by omega, ?_⟩
  by_cases w : yTz s < b.1
  · exact w
  · have h1 := hl.2.2.1
    rw [Nat.testBit_lt_two_pow (Nat.lt_of_lt_of_le h (Nat.pow_le_pow_right (by decide) (by omega)))] at h1
    cases h1
theorem ySm_l (hb : b.1 ≤ 10) {s : Nat} (h : s < 2 ^ b.1) (h0 : s ≠ 0) : ySm b 0 (yLob s) b.1 = b.2 (yTz s) 0 ∧ ySm b 0 (s &&& (s - 1)) b.1 + b.2 (yTz s) 0 = ySm b 0 s b.1 := by
  have hj := yLob_j hb h h0
  have hl := yLob_f hj.1 h0
  constructor
  · have := ySm_x (b := b) (f := 0) (s := yLob s) (t := 0) (j := yTz s) (n := b.1) (fun i _ => by
      rw [hl.2.1, yB2, Nat.zero_testBit]
      cases decide (i = yTz s) <;> rfl) (by rw [hl.2.1, yB2, decide_eq_true rfl]) b.1 (Nat.le_refl _)
    rw [ySm_0, if_pos hj.2] at this
    omega
  · have := ySm_x (b := b) (f := 0) (s := s) (t := s &&& (s - 1)) (j := yTz s) (n := b.1) (fun i _ => by
      rw [← hl.2.2.2.2.2.1, hl.2.1, Nat.testBit_xor, yB2]
      by_cases e : i = yTz s
      · rw [e, hl.2.2.1, decide_eq_true rfl]
        rfl
      · rw [decide_eq_false e, Bool.xor_false, Bool.not_false, Bool.and_true]) hl.2.2.1 b.1 (Nat.le_refl _)
    rw [if_pos hj.2] at this
    exact this
theorem yF_f (hb : b.1 ≤ 10) : ∀ n s, s ≤ n → yFit b q s → yF (fun c => ySm b 0 c b.1) q s ≤ (yPc s 10 : Int) ∧ (s ≠ 0 → yCd (fun c => ySm b 0 c b.1) q s (yLob s)) := by
  intro n
  induction n with
  | zero => intro s h _; rw [show s = 0 by omega, yF_0]; exact ⟨by decide, fun w => absurd rfl w⟩
  | succ n ih =>
    intro s h hf
    by_cases h0 : s = 0
    · rw [h0, yF_0]
      exact ⟨by decide, fun w => absurd rfl w⟩
    · have hj := yLob_j hb hf.1 h0
      have hl := yLob_f hj.1 h0
      have hc : yCd (fun c => ySm b 0 c b.1) q s (yLob s) := by
        refine ⟨hl.2.2.2.2.1, ?_, ?_⟩
        · rw [Nat.and_self, hl.2.1]
          exact Nat.ne_of_gt (Nat.two_pow_pos _)
        · show ySm b 0 (yLob s) b.1 ≤ q
          rw [(ySm_l hb hf.1 h0).1]
          exact hf.2 _ hj.2 hl.2.2.1
      refine ⟨?_, fun _ => hc⟩
      rcases yF_p (W := fun c => ySm b 0 c b.1) (q := q) h0 with ⟨_, e, no⟩ | ⟨p, _, e, hp, hm⟩
      · exact absurd hc (no _)
      · have h3 := (hm _ hc).1
        have h4 := (ih (s ^^^ yLob s) (by have := (yCd_n hc).2.2; omega) (yFit_x hf (yPx (m := s) (Nat.and_self s) hl.2.2.2.2.1).1)).1
        have h5 := hl.2.2.2.2.2.2
        omega
end
