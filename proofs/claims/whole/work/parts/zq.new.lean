/-! THE CONSTRUCTORS: references, what holds behind them -/
theorem znth_len {α : Type} : ∀ (l : List α) (k : Nat), l.length ≤ k → znth l k = none := by
  intro l
  induction l with
  | nil => intro k _; rfl
  | cons a l ih =>
    intro k h
    have hl : (a :: l).length = l.length + 1 := rfl
    match k, h with
    | 0, h => omega
    | k + 1, h => exact ih k (by omega)
theorem znth_all {p : List Nat → Bool} (h0 : p [] = true) : ∀ (T : List (List Nat)) (i : Nat), T.all p = true → p ((znth T i).getD []) = true := by
  intro T
  induction T with
  | nil => intro i _; exact h0
  | cons a T ih =>
    intro i h
    rw [List.all_cons, Bool.and_eq_true] at h
    match i with
    | 0 => exact h.1
    | i + 1 => exact ih i h.2
theorem zrG_43 {o k : Nat} (h : 43 ≤ k) : zrG 0 o k = 0 := by
  unfold zrG
  split
  · rfl
  · have h1 := znth_all (p := fun l => decide (l.length ≤ 42)) (by decide) zrT (o - 16) (by decide +kernel)
    have h2 := of_decide_eq_true h1
    unfold zax
    rw [znth_len _ _ (by omega)]
    rfl
def kGd (R : Nat → Nat → Nat) : Prop := ∀ o k, (o < 16 ∨ 148 ≤ o → R o k = zrG 0 o k) ∧ (43 ≤ k → R o k = 0)
theorem kGd_s {R : Nat → Nat → Nat} {q : Nat × Nat × Nat × Nat} (h : kGd R) (h1 : 16 ≤ q.2.1 ∧ q.2.1 < 148 ∧ q.2.2.1 < 43) : kGd (kRf R q) := by
  intro o k
  have g := h o k
  unfold kRf
  split
  · unfold zR0
    refine ⟨fun w => ?_, fun w => ?_⟩
    · rw [if_neg (by omega)]
      exact g.1 w
    · split
      · rfl
      · exact g.2 w
  · unfold zrU
    refine ⟨fun w => ?_, fun w => ?_⟩
    · rw [if_neg (fun x => by omega)]
      exact g.1 w
    · rw [if_neg (fun x => by omega)]
      exact g.2 w
theorem kGd_f : ∀ (l : List (Nat × Nat × Nat × Nat)) (R : Nat → Nat → Nat), (l.all fun q => decide (16 ≤ q.2.1 ∧ q.2.1 < 148 ∧ q.2.2.1 < 43)) = true → kGd R → kGd (l.foldl kRf R) := by
  intro l
  induction l with
  | nil => exact fun _ _ h => h
  | cons q l ih =>
    intro R h hg
    rw [List.all_cons, Bool.and_eq_true] at h
    exact ih _ h.2 (kGd_s hg (of_decide_eq_true h.1))
set_option maxRecDepth 1000000 in
theorem kR_f : kR = kRo.foldl kRf (zrG 0) := rfl
theorem kR_d : ∀ o : Fin 148, ∀ k : Fin 43, kR o.1 k.1 = zrG 0 o.1 k.1 := by decide +kernel
theorem kR_e : kR = zrG 0 := by
  have hg : kGd kR := by
    rw [kR_f]
    exact kGd_f _ _ (by decide +kernel) (fun o k => ⟨fun _ => rfl, zrG_43⟩)
  funext o k
  by_cases h1 : o < 148
  · by_cases h2 : k < 43
    · exact kR_d ⟨o, h1⟩ ⟨k, h2⟩
    · rw [(hg o k).2 (by omega), zrG_43 (by omega)]
  · exact (hg o k).1 (by omega)
/-- a new object: no TRACK -/
def yT0 : zDy := (0, (fun _ => 0), 0, (fun _ => 0), 0, (fun _ => 0), (fun _ => 0), (fun _ => 0), 0, (fun _ => 0), (fun _ => 0), 0, 0)
def yY0 : zFd := (yT0, (0, (fun _ => 0), fun _ _ => false), (fun _ => (0, fun _ _ => 0)), fun _ => 0)
set_option maxRecDepth 1000000 in
theorem kI131 {xs : Nat → Int32} (k : Nat) : kI xs 131 k = 0 := rfl
set_option maxRecDepth 1000000 in
theorem kI120 {xs : Nat → Int32} {l : Nat} (h : l < 2481) : kI xs 120 l = -2 := (show kI xs 120 l = zfI (kIf xs) 120 2481 (-2) 120 l from rfl).trans (zfI_i h)
set_option maxRecDepth 1000000 in
theorem kI1 {xs : Nat → Int32} (k : Nat) : kI xs 1 k = xs k := rfl
set_option maxRecDepth 1000000 in
theorem kTbl {xs : Nat → Int32} {q : Nat} (hq : q < 8) : (kI xs (39 + 2 * q) 0 = zi (zMs q) ∧ kI xs (39 + 2 * q) 1 = zi (zWd q) ∧ kI xs (39 + 2 * q) 3 = 0) ∧ (kI xs (39 + 2 * q + 26) 0 = zi (zMs q) ∧ kI xs (39 + 2 * q + 26) 1 = zi (zWd q)) ∧ kI xs (39 + 2 * q + 51) 0 = zi (zMs q) ∧ kI xs (39 + 2 * q + 51) 1 = zi (zWd q) := by
  obtain rfl | rfl | rfl | rfl | rfl | rfl | rfl | rfl : q = 0 ∨ q = 1 ∨ q = 2 ∨ q = 3 ∨ q = 4 ∨ q = 5 ∨ q = 6 ∨ q = 7 := by omega
  all_goals exact ⟨⟨rfl, rfl, rfl⟩, ⟨rfl, rfl⟩, rfl, rfl⟩
theorem yJ0 {p : Nat} (h : p < 64) : lg_cmp (zul 0 (zi (p : Int)) &&& 1) 0 = 0 := (yL64a h).mpr yL64_0
theorem yZ0 {b : Nat} (h : b < 32) : zus 0 (zi (b : Int)) &&& (1 : Int32) = 0 := by
  have := (yZusB (s := 0) (k := b) (by decide) h).mpr (Nat.zero_testBit b)
  exact this
set_option maxRecDepth 1000000 in
theorem kV0 (xs : Nat → Int32) : zV 0 (kI xs) (fun _ _ => 0) yY0 (false, yY0) (false, yY0) := by
  have tr : wTr yT0 := ⟨Or.inl rfl, fun p h => absurd h (Nat.not_lt_zero p), (by decide), fun p h => absurd h (Nat.not_lt_zero p), (by decide), fun p h => absurd h (Nat.not_lt_zero p), (by decide), fun p h => absurd h (Nat.not_lt_zero p), ⟨Int.le_refl 0, (by decide)⟩, Int.le_refl 0, (by decide)⟩
  have dg : ∀ p, yT0.dg p = false := fun p => rfl
  refine ⟨⟨⟨rfl, fun p h => absurd h (Nat.not_lt_zero p), rfl, fun p h => absurd h (Nat.not_lt_zero p), rfl, fun p h => absurd h (Nat.not_lt_zero p), rfl, fun p h => ?_, rfl, rfl⟩, ⟨rfl, fun b hb => ?_, fun b s hb hs => ?_⟩, fun q hq => ⟨(kTbl hq).1.1, (kTbl hq).1.2.1, (kTbl hq).1.2.2, fun k f hk => absurd hk (Nat.not_lt_zero k)⟩, fun c hc => ?_⟩, ⟨⟨rfl, fun p h => absurd h (Nat.not_lt_zero p), rfl, fun p h => absurd h (Nat.not_lt_zero p), rfl, fun p h => absurd h (Nat.not_lt_zero p), rfl, fun p h => absurd h (Nat.not_lt_zero p), rfl, rfl⟩, ⟨rfl, fun p h => absurd h (Nat.not_lt_zero p)⟩, fun q hq => ⟨kI131 _, fun k f hk => absurd hk (Nat.not_lt_zero k)⟩, fun c hc => kI131 _⟩, ⟨tr, ⟨Nat.zero_le _, fun k h => absurd h (Nat.not_lt_zero k)⟩, fun q hq => ⟨Nat.zero_le _, fun k f hk => absurd hk (Nat.not_lt_zero k)⟩, fun k hk => ⟨Int.le_refl 0, by show (0 : Int) ≤ 20000 * ((0 : Nat) : Int); decide⟩, fun _ => ⟨rfl, rfl, rfl, rfl⟩⟩, ⟨rfl, rfl, fun q hq => (kTbl hq).2.1, fun w => (by cases w)⟩, ⟨rfl, rfl, fun q hq => (kTbl hq).2.2, fun w => (by cases w)⟩, fun i hi => ?_, ⟨⟨0, by decide, rfl, rfl, fun k h => absurd h (Nat.not_lt_zero k)⟩, rfl, rfl⟩, fun c hc => ?_, rfl, fun l hl => Or.inl (kI120 hl)⟩
  · exact ⟨fun w => absurd (yJ0 (by omega)) w, fun w => by rw [show (yY0.1.dg p) = false from rfl] at w; cases w⟩
  · refine ⟨fun _ => ?_, fun _ => yZ0 (by omega)⟩
    rintro ⟨k, hk, _⟩
    exact absurd hk (Nat.not_lt_zero k)
  · refine ⟨fun _ => ?_, fun _ => yJ0 (by omega)⟩
    rintro ⟨k, hk, _⟩
    exact absurd hk (Nat.not_lt_zero k)
  · obtain rfl | rfl : c = 0 ∨ c = 1 := by omega
    · rfl
    · rfl
  · obtain rfl | rfl | rfl | rfl : i = 0 ∨ i = 1 ∨ i = 2 ∨ i = 3 := by omega
    all_goals exact ⟨rfl, rfl, -1, 0, rfl, rfl, by decide, by decide, by decide, by decide, fun k hk => absurd hk (by omega)⟩
  · obtain rfl | rfl : c = 0 ∨ c = 1 := by omega
    · rfl
    · rfl
theorem kStart (L : Nat) (xs : Nat → Int32) : zX 3 (zCd zT 60) zc_L_law 0 [some (.ref 1), none, none, none] [] (zM1 L xs) = zX 3 (zCd zT 60) zc_L_law 3 [some (.ref 1), some (.ref 16), some (.ref 130), some (.int (0 : Int32))] [] (zm L (kI xs) (fun _ _ => 0) 0) := by
  rw [kRun, kR_e]
  rfl
