/-! ROWS OF EVENTS: states met, in order; how many there can be -/
theorem yPig : ∀ (m n : Nat) (f : Nat → Nat), (∀ k, k < n → f k < m) → (∀ i j, i < n → j < n → f i = f j → i = j) → n ≤ m := by
  intro m
  induction m with
  | zero =>
    intro n f h _
    by_cases w : n = 0
    · omega
    · have := h 0 (by omega)
      omega
  | succ m ih =>
    intro n f h inj
    by_cases q : ∃ k, k < n ∧ f k = m
    · obtain ⟨k, hk, hf⟩ := q
      have := ih (n - 1) (fun i => f (if i < k then i else i + 1)) (fun i hi => by
        have h1 : (if i < k then i else i + 1) < n := by split <;> omega
        have h2 := h _ h1
        have h3 : f (if i < k then i else i + 1) ≠ m := fun w => by
          have := inj _ _ h1 hk (w.trans hf.symm)
          split at this <;> omega
        show f (if i < k then i else i + 1) < m
        omega) (fun i j hi hj he => by
        have h1 : (if i < k then i else i + 1) < n := by split <;> omega
        have h2 : (if j < k then j else j + 1) < n := by split <;> omega
        have := inj _ _ h1 h2 he
        split at this <;> split at this <;> omega)
      omega
    · have := ih n f (fun k hk => by
        have h1 := h k hk
        have h2 : f k ≠ m := fun w => q ⟨k, hk, w⟩
        omega) inj
      omega
/-- how many below n -/
def yCtb (f : Nat → Bool) : Nat → Nat
  | 0 => 0
  | k + 1 => yCtb f k + (if f k = true then 1 else 0)
theorem yCtb_m {f : Nat → Bool} {a : Nat} : ∀ b, a ≤ b → yCtb f a ≤ yCtb f b := by
  intro b
  induction b with
  | zero => intro h; rw [show a = 0 by omega]; exact Nat.le_refl _
  | succ b ih =>
    intro h
    by_cases e : a = b + 1
    · rw [e]
      exact Nat.le_refl _
    · have := ih (by omega)
      rw [yCtb]
      omega
theorem yCtb_i {f : Nat → Bool} {a b : Nat} (ha : f a = true) (hb : f b = true) (h : yCtb f a = yCtb f b) : a = b := by
  have one : ∀ a b, f a = true → a < b → yCtb f a < yCtb f b := by
    intro a b ha hab
    have h1 := yCtb_m (f := f) (a := a + 1) b hab
    rw [yCtb, if_pos ha] at h1
    omega
  by_cases w : a < b
  · have := one a b ha w
    omega
  · by_cases w2 : b < a
    · have := one b a hb w2
      omega
    · omega
/-- of how many a SENSOR is lied about -/
def yLc (l : Nat) : Nat := (if yLi l 0 = 0 then 0 else 1) + (if yLi l 1 = 0 then 0 else 1) + (if yLi l 2 = 0 then 0 else 1) + (if yLi l 3 = 0 then 0 else 1) + (if yLi l 4 = 0 then 0 else 1) + (if yLi l 5 = 0 then 0 else 1)
abbrev yBq : Type := Nat × (Nat → Nat) × (Nat → Nat) × (Nat → Int) × (Nat → Int)
def yMet (Q : yBq) (t l : Nat) : Bool := yAny (fun k => decide (Q.2.1 k = t ∧ Q.2.2.1 k = l)) Q.1
def yAdq (Q : yBq) (t l : Nat) (f v : Int) : yBq := if yMet Q t l = true then Q else (Q.1 + 1, (fun k => if k = Q.1 then t else Q.2.1 k), (fun k => if k = Q.1 then l else Q.2.2.1 k), (fun k => if k = Q.1 then f else Q.2.2.2.1 k), fun k => if k = Q.1 then v else Q.2.2.2.2 k)
theorem yMet_i {Q : yBq} {t l : Nat} : yMet Q t l = true ↔ ∃ k, k < Q.1 ∧ Q.2.1 k = t ∧ Q.2.2.1 k = l := by
  unfold yMet
  rw [yAny_i]
  constructor
  · rintro ⟨k, hk, h⟩
    exact ⟨k, hk, of_decide_eq_true h⟩
  · rintro ⟨k, hk, h⟩
    exact ⟨k, hk, decide_eq_true h⟩
/-- what holds of all that is met: p TRAINS, at most 3 lies, none twice -/
def yBw (p : Nat) (Q : yBq) : Prop := (∀ k, k < Q.1 → Q.2.1 k < 64 ∧ yPc (Q.2.1 k) 6 = p ∧ Q.2.2.1 k < 729 ∧ yLc (Q.2.2.1 k) ≤ 3 ∧ (-1 ≤ Q.2.2.2.1 k ∧ Q.2.2.2.1 k < (k : Int)) ∧ 0 ≤ Q.2.2.2.2 k + 1 ∧ Q.2.2.2.2 k ≤ 25 ∧ (Q.2.2.2.1 k = -1 ∨ 0 ≤ Q.2.2.2.2 k)) ∧ ∀ i j, i < Q.1 → j < Q.1 → Q.2.1 i = Q.2.1 j → Q.2.2.1 i = Q.2.2.1 j → i = j
theorem yT20 (p : Nat) : yCtb (fun t => decide (yPc t 6 = p)) 64 ≤ 20 := by
  by_cases h : p < 7
  · have key : ∀ p : Fin 7, yCtb (fun t => decide (yPc t 6 = p.1)) 64 ≤ 20 := by decide +kernel
    exact key ⟨p, h⟩
  · have h0 : ∀ n, yCtb (fun t => decide (yPc t 6 = p)) n = 0 := by
      intro n
      induction n with
      | zero => rfl
      | succ n ih =>
        have hp : yPc n 6 ≤ 6 := yPc_le 6
        rw [yCtb, ih, decide_eq_false (by omega), if_neg (by decide)]
    rw [h0]
    decide
theorem yL233 : yCtb (fun l => decide (yLc l ≤ 3)) 729 = 233 := by decide +kernel
theorem yBw_n {p : Nat} {Q : yBq} (h : yBw p Q) : Q.1 ≤ 4660 := by
  refine yPig 4660 Q.1 (fun k => yCtb (fun t => decide (yPc t 6 = p)) (Q.2.1 k) * 233 + yCtb (fun l => decide (yLc l ≤ 3)) (Q.2.2.1 k)) (fun k hk => ?_) (fun i j hi hj he => ?_)
  · have hk := h.1 k hk
    have a1 := yCtb_m (f := fun t => decide (yPc t 6 = p)) (a := Q.2.1 k + 1) 64 (by omega)
    have a2 := yCtb_m (f := fun l => decide (yLc l ≤ 3)) (a := Q.2.2.1 k + 1) 729 (by omega)
    rw [yCtb, if_pos (decide_eq_true hk.2.1)] at a1
    rw [yCtb, if_pos (decide_eq_true hk.2.2.2.1), yL233] at a2
    have := yT20 p
    show yCtb (fun t => decide (yPc t 6 = p)) (Q.2.1 k) * 233 + yCtb (fun l => decide (yLc l ≤ 3)) (Q.2.2.1 k) < 4660
    omega
  · have hi' := h.1 i hi
    have hj' := h.1 j hj
    have a2 := yCtb_m (f := fun l => decide (yLc l ≤ 3)) (a := Q.2.2.1 i + 1) 729 (by omega)
    have b2 := yCtb_m (f := fun l => decide (yLc l ≤ 3)) (a := Q.2.2.1 j + 1) 729 (by omega)
    rw [yCtb, if_pos (decide_eq_true hi'.2.2.2.1), yL233] at a2
    rw [yCtb, if_pos (decide_eq_true hj'.2.2.2.1), yL233] at b2
    have he : yCtb (fun t => decide (yPc t 6 = p)) (Q.2.1 i) * 233 + yCtb (fun l => decide (yLc l ≤ 3)) (Q.2.2.1 i) = yCtb (fun t => decide (yPc t 6 = p)) (Q.2.1 j) * 233 + yCtb (fun l => decide (yLc l ≤ 3)) (Q.2.2.1 j) := he
    refine h.2 i j hi hj (yCtb_i (f := fun t => decide (yPc t 6 = p)) (decide_eq_true hi'.2.1) (decide_eq_true hj'.2.1) (by omega)) (yCtb_i (f := fun l => decide (yLc l ≤ 3)) (decide_eq_true hi'.2.2.2.1) (decide_eq_true hj'.2.2.2.1) (by omega))
theorem yAdq_w {p : Nat} {Q : yBq} (h : yBw p Q) {t l : Nat} {f v : Int} (ht : t < 64) (hp : yPc t 6 = p) (hl : l < 729) (hc : yLc l ≤ 3) (hf : -1 ≤ f ∧ f < (Q.1 : Int)) (hv : 0 ≤ v + 1 ∧ v ≤ 25 ∧ (f = -1 ∨ 0 ≤ v)) : yBw p (yAdq Q t l f v) := by
  unfold yAdq
  by_cases q : yMet Q t l = true
  · rw [if_pos q]
    exact h
  · rw [if_neg q]
    refine ⟨fun k hk => ?_, fun i j hi hj e1 e2 => ?_⟩
    · have hk : k < Q.1 + 1 := hk
      show (if k = Q.1 then t else Q.2.1 k) < 64 ∧ yPc (if k = Q.1 then t else Q.2.1 k) 6 = p ∧ (if k = Q.1 then l else Q.2.2.1 k) < 729 ∧ yLc (if k = Q.1 then l else Q.2.2.1 k) ≤ 3 ∧ (-1 ≤ (if k = Q.1 then f else Q.2.2.2.1 k) ∧ (if k = Q.1 then f else Q.2.2.2.1 k) < (k : Int)) ∧ 0 ≤ (if k = Q.1 then v else Q.2.2.2.2 k) + 1 ∧ (if k = Q.1 then v else Q.2.2.2.2 k) ≤ 25 ∧ ((if k = Q.1 then f else Q.2.2.2.1 k) = -1 ∨ 0 ≤ (if k = Q.1 then v else Q.2.2.2.2 k))
      by_cases e : k = Q.1
      · simp only [if_pos e]
        exact ⟨ht, hp, hl, hc, by omega, hv.1, hv.2.1, hv.2.2⟩
      · simp only [if_neg e]
        exact h.1 k (by omega)
    · have hi : i < Q.1 + 1 := hi
      have hj : j < Q.1 + 1 := hj
      have e1 : (if i = Q.1 then t else Q.2.1 i) = (if j = Q.1 then t else Q.2.1 j) := e1
      have e2 : (if i = Q.1 then l else Q.2.2.1 i) = (if j = Q.1 then l else Q.2.2.1 j) := e2
      by_cases a : i = Q.1
      · by_cases b : j = Q.1
        · omega
        · rw [if_pos a, if_neg b] at e1 e2
          exact absurd (yMet_i.mpr ⟨j, by omega, e1.symm, e2.symm⟩) q
      · by_cases b : j = Q.1
        · rw [if_neg a, if_pos b] at e1 e2
          exact absurd (yMet_i.mpr ⟨i, by omega, e1, e2⟩) q
        · rw [if_neg a, if_neg b] at e1 e2
          exact h.2 i j (by omega) (by omega) e1 e2
/-- what was met stays -/
def ySub2 (Q Q' : yBq) : Prop := Q.1 ≤ Q'.1 ∧ ∀ k, k < Q.1 → Q'.2.1 k = Q.2.1 k ∧ Q'.2.2.1 k = Q.2.2.1 k ∧ Q'.2.2.2.1 k = Q.2.2.2.1 k ∧ Q'.2.2.2.2 k = Q.2.2.2.2 k
theorem ySub2_r {Q : yBq} : ySub2 Q Q := ⟨Nat.le_refl _, fun _ _ => ⟨rfl, rfl, rfl, rfl⟩⟩
theorem ySub2_t {Q Q1 Q2 : yBq} (h : ySub2 Q Q1) (g : ySub2 Q1 Q2) : ySub2 Q Q2 := by
  refine ⟨Nat.le_trans h.1 g.1, fun k hk => ?_⟩
  have a := h.2 k hk
  have b := g.2 k (by have := h.1; omega)
  exact ⟨b.1.trans a.1, b.2.1.trans a.2.1, b.2.2.1.trans a.2.2.1, b.2.2.2.trans a.2.2.2⟩
theorem yAdq_s {Q : yBq} {t l : Nat} {f v : Int} : ySub2 Q (yAdq Q t l f v) := by
  unfold yAdq
  by_cases q : yMet Q t l = true
  · rw [if_pos q]
    exact ySub2_r
  · rw [if_neg q]
    refine ⟨Nat.le_succ _, fun k hk => ?_⟩
    have e : k ≠ Q.1 := by omega
    exact ⟨if_neg e, if_neg e, if_neg e, if_neg e⟩
def yLvs (u : yRl) (nb t l k : Nat) (Q : yBq) : Nat → yBq
  | 0 => Q
  | b + 1 => if t.testBit b = true ∧ yMa u nb (ySw t l) b = true ∧ t.testBit (yNx nb b) = false then yAdq (yLvs u nb t l k Q b) (t - 2 ^ b + 2 ^ yNx nb b) l (k : Int) (b : Int) else yLvs u nb t l k Q b
def yLie (t l k e : Nat) (Q : yBq) : Nat → yBq
  | 0 => Q
  | b + 1 => if yLi l b = 0 then yAdq (yLie t l k e Q b) t (l + 3 ^ b * e) (k : Int) ((10 * e + b : Nat) : Int) else yLie t l k e Q b
def yExp (u : yRl) (nb lies k : Nat) (Q : yBq) : yBq := if yLc (Q.2.2.1 k) < lies then yLie (Q.2.1 k) (Q.2.2.1 k) k 2 (yLie (Q.2.1 k) (Q.2.2.1 k) k 1 (yLvs u nb (Q.2.1 k) (Q.2.2.1 k) k Q nb) nb) nb else yLvs u nb (Q.2.1 k) (Q.2.2.1 k) k Q nb
theorem yMv {t b x : Nat} (ht : t < 64) (hb : b < 6) (hx : x < 6) (h1 : t.testBit b = true) (h2 : t.testBit x = false) : t - 2 ^ b + 2 ^ x < 64 ∧ yPc (t - 2 ^ b + 2 ^ x) 6 = yPc t 6 ∧ (t ^^^ (t &&& 2 ^ b)) ||| 2 ^ x = t - 2 ^ b + 2 ^ x ∧ 2 ^ b ≤ t := by
  have key : ∀ t : Fin 64, ∀ b : Fin 6, ∀ x : Fin 6, t.1.testBit b.1 = true → t.1.testBit x.1 = false → t.1 - 2 ^ b.1 + 2 ^ x.1 < 64 ∧ yPc (t.1 - 2 ^ b.1 + 2 ^ x.1) 6 = yPc t.1 6 ∧ (t.1 ^^^ (t.1 &&& 2 ^ b.1)) ||| 2 ^ x.1 = t.1 - 2 ^ b.1 + 2 ^ x.1 ∧ 2 ^ b.1 ≤ t.1 := by decide +kernel
  exact key ⟨t, ht⟩ ⟨b, hb⟩ ⟨x, hx⟩ h1 h2
theorem yLl1 {l b : Nat} (hl : l < 729) (hb : b < 6) (h0 : yLi l b = 0) : l + 3 ^ b * 1 < 729 ∧ yLc (l + 3 ^ b * 1) = yLc l + 1 ∧ yFr (l + 3 ^ b * 1) = yFr l ||| 2 ^ b ∧ yFl (l + 3 ^ b * 1) = yFl l ∧ (∀ c, c < 6 → c ≠ b → yLi (l + 3 ^ b * 1) c = yLi l c) := by
  have key : ∀ l : Fin 729, ∀ b : Fin 6, yLi l.1 b.1 = 0 → l.1 + 3 ^ b.1 * 1 < 729 ∧ yLc (l.1 + 3 ^ b.1 * 1) = yLc l.1 + 1 ∧ yFr (l.1 + 3 ^ b.1 * 1) = yFr l.1 ||| 2 ^ b.1 ∧ yFl (l.1 + 3 ^ b.1 * 1) = yFl l.1 ∧ (∀ c : Fin 6, c.1 ≠ b.1 → yLi (l.1 + 3 ^ b.1 * 1) c.1 = yLi l.1 c.1) := by decide +kernel
  have := key ⟨l, hl⟩ ⟨b, hb⟩ h0
  exact ⟨this.1, this.2.1, this.2.2.1, this.2.2.2.1, fun c hc hn => this.2.2.2.2 ⟨c, hc⟩ hn⟩
theorem yLl2 {l b : Nat} (hl : l < 729) (hb : b < 6) (h0 : yLi l b = 0) : l + 3 ^ b * 2 < 729 ∧ yLc (l + 3 ^ b * 2) = yLc l + 1 ∧ yFr (l + 3 ^ b * 2) = yFr l ∧ yFl (l + 3 ^ b * 2) = yFl l ||| 2 ^ b ∧ (∀ c, c < 6 → c ≠ b → yLi (l + 3 ^ b * 2) c = yLi l c) := by
  have key : ∀ l : Fin 729, ∀ b : Fin 6, yLi l.1 b.1 = 0 → l.1 + 3 ^ b.1 * 2 < 729 ∧ yLc (l.1 + 3 ^ b.1 * 2) = yLc l.1 + 1 ∧ yFr (l.1 + 3 ^ b.1 * 2) = yFr l.1 ∧ yFl (l.1 + 3 ^ b.1 * 2) = yFl l.1 ||| 2 ^ b.1 ∧ (∀ c : Fin 6, c.1 ≠ b.1 → yLi (l.1 + 3 ^ b.1 * 2) c.1 = yLi l.1 c.1) := by decide +kernel
  have := key ⟨l, hl⟩ ⟨b, hb⟩ h0
  exact ⟨this.1, this.2.1, this.2.2.1, this.2.2.2.1, fun c hc hn => this.2.2.2.2 ⟨c, hc⟩ hn⟩
section
variable {u : yRl} {nb t l k p : Nat} {Q : yBq}
theorem yLvs_w (h : yBw p Q) (hk : k < Q.1) (hn : nb ≤ 6) (e1 : Q.2.1 k = t) (e2 : Q.2.2.1 k = l) : ∀ b, b ≤ nb → yBw p (yLvs u nb t l k Q b) ∧ ySub2 Q (yLvs u nb t l k Q b) := by
  intro b
  induction b with
  | zero => exact fun _ => ⟨h, ySub2_r⟩
  | succ b ih =>
    intro hb
    have h1 := ih (by omega)
    have hk' := h.1 k hk
    rw [e1, e2] at hk'
    rw [yLvs]
    by_cases q : t.testBit b = true ∧ yMa u nb (ySw t l) b = true ∧ t.testBit (yNx nb b) = false
    · rw [if_pos q]
      have nx := yNx_b (nb := nb) (b := b) (by omega)
      have mv := yMv hk'.1 (b := b) (x := yNx nb b) (by omega) (by omega) q.1 q.2.2
      have := h1.2.1
      exact ⟨yAdq_w h1.1 mv.1 (mv.2.1.trans hk'.2.1) hk'.2.2.1 hk'.2.2.2.1 (by omega) (by omega), ySub2_t h1.2 yAdq_s⟩
    · rw [if_neg q]
      exact h1
theorem yLie_w {e : Nat} (he : e = 1 ∨ e = 2) (h : yBw p Q) (hk : k < Q.1) (ht : t < 64) (hp : yPc t 6 = p) (hl : l < 729) (hc : yLc l < 3) : ∀ b, b ≤ 6 → yBw p (yLie t l k e Q b) ∧ ySub2 Q (yLie t l k e Q b) := by
  intro b
  induction b with
  | zero => exact fun _ => ⟨h, ySub2_r⟩
  | succ b ih =>
    intro hb
    have h1 := ih (by omega)
    have := h1.2.1
    rw [yLie]
    by_cases q : yLi l b = 0
    · rw [if_pos q]
      rcases he with rfl | rfl
      · have l1 := yLl1 hl (show b < 6 by omega) q
        exact ⟨yAdq_w h1.1 ht hp l1.1 (by omega) (by omega) (by omega), ySub2_t h1.2 yAdq_s⟩
      · have l1 := yLl2 hl (show b < 6 by omega) q
        exact ⟨yAdq_w h1.1 ht hp l1.1 (by omega) (by omega) (by omega), ySub2_t h1.2 yAdq_s⟩
    · rw [if_neg q]
      exact h1
theorem yExp_w {lies : Nat} (h : yBw p Q) (hk : k < Q.1) (hn : nb ≤ 6) (hl : lies ≤ 3) : yBw p (yExp u nb lies k Q) ∧ ySub2 Q (yExp u nb lies k Q) := by
  have hk' := h.1 k hk
  have h1 := yLvs_w (u := u) h hk hn rfl rfl nb (Nat.le_refl nb)
  unfold yExp
  by_cases q : yLc (Q.2.2.1 k) < lies
  · rw [if_pos q]
    have k1 := h1.2.1
    have h2 := yLie_w (e := 1) (Or.inl rfl) h1.1 (k := k) (by omega) hk'.1 hk'.2.1 hk'.2.2.1 (by omega) nb hn
    have k2 := h2.2.1
    have h3 := yLie_w (e := 2) (Or.inr rfl) h2.1 (k := k) (by omega) hk'.1 hk'.2.1 hk'.2.2.1 (by omega) nb hn
    exact ⟨h3.1, ySub2_t h1.2 (ySub2_t h2.2 h3.2)⟩
  · rw [if_neg q]
    exact h1
end
