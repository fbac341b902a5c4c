/-! COPIES of a DAY -/
theorem zcI_o {I : Nat → Nat → Int32} {a sp b dp n o : Nat} (h : o ≠ b) : zcI I a sp b dp n o = I o := funext fun _ => if_neg h
theorem zcI_y {I : Nat → Nat → Int32} {a b n j : Nat} (h : j < n) : zcI I a 0 b 0 n b j = I a j := (if_pos rfl).trans ((if_pos ⟨Nat.zero_le _, by omega⟩).trans (congrArg (I a) (by omega)))
theorem zcJ_o {J : Nat → Nat → Int64} {a sp b dp n o : Nat} (h : o ≠ b) : zcJ J a sp b dp n o = J o := funext fun _ => if_neg h
theorem zcJ_y {J : Nat → Nat → Int64} {a b n j : Nat} (h : j < n) : zcJ J a 0 b 0 n b j = J a j := (if_pos rfl).trans ((if_pos ⟨Nat.zero_le _, by omega⟩).trans (congrArg (J a) (by omega)))
theorem zuL_o {J : Nat → Nat → Int64} {o k o' : Nat} {v : Int64} (h : o' ≠ o) : zuL J o k v o' = J o' := funext fun _ => if_neg (fun w => h w.1)
theorem yMin3 {x y : Int32} {b M : Nat} (hx : x = zi b) (hy : y = zi M) (h : b ≤ M) (hM : M ≤ 100) : (if x < y then x else y) = x := by
  by_cases q : x < y
  · rw [if_pos q]
  · rw [if_neg q, hx, hy]
    rw [hx, hy, zi_lt (by omega) (by omega)] at q
    exact congrArg zi (by omega)
theorem cDay_cp {D0 D c : Nat} {I I' : Nat → Nat → Int32} {J J' : Nat → Nat → Int64} {y : zFd} (h : cDay D0 I J y) (hw : wDay c y) (f1 : ∀ k, 5 ≤ k → k ≤ 10 → I' (32 + D) k = I (32 + D0) k) (f2 : ∀ k, k < 60 → I' (33 + D) k = I (33 + D0) k) (f3 : ∀ k, k < 5 → I' (34 + D) k = I (34 + D0) k) (f4 : ∀ k, k < 2 → I' (35 + D) k = I (35 + D0) k) (f5 : ∀ k, k < 2 → J' (36 + D) k = J (36 + D0) k) (f6 : J' (32 + D) 4 = J (32 + D0) 4) (f7 : I' (37 + D) 1 = I (37 + D0) 1) (f8 : I' (37 + D) 2 = I (37 + D0) 2) (f9 : ∀ k, k < 6 → J' (38 + D) k = J (38 + D0) k) (f10 : ∀ q, q < 8 → I' (39 + 2 * q + D) 0 = zi (zMs q) ∧ I' (39 + 2 * q + D) 1 = zi (zWd q) ∧ I' (39 + 2 * q + D) 3 = I (39 + 2 * q + D0) 3 ∧ ∀ k, k < zMs q * zWd q → I' (39 + 2 * q + D + 1) k = I (39 + 2 * q + D0 + 1) k) (f11 : ∀ c, c < 2 → I' (55 + D) c = I (55 + D0) c) : cDay D I' J' y := by
  obtain ⟨⟨a1, a2, a3, a4, a5, a6, a7, a8, a9, a10⟩, ⟨b1, b2, b3⟩, ht, hs⟩ := h
  obtain ⟨w1, w2, w3, w4, w5, _⟩ := hw.1
  refine ⟨⟨by rw [f1 5 (by omega) (by omega)]; exact a1, fun p hp => by rw [f2 p (by omega)]; exact a2 p hp, by rw [f1 6 (by omega) (by omega)]; exact a3, fun i hi => by rw [f3 i (by omega)]; exact a4 i hi, by rw [f1 7 (by omega) (by omega)]; exact a5, fun c hc => by rw [f4 c (by omega), f5 c (by omega)]; exact a6 c hc, by rw [f1 8 (by omega) (by omega)]; exact a7, fun p hp => by rw [f6]; exact a8 p hp, by rw [f1 9 (by omega) (by omega)]; exact a9, by rw [f1 10 (by omega) (by omega)]; exact a10⟩, ⟨by rw [f8]; exact b1, fun b hb => by rw [f7]; exact b2 b hb, fun b s hb hs => by rw [f9 b hb]; exact b3 b s hb hs⟩, fun q hq => ?_, fun c hc => by rw [f11 c hc]; exact hs c hc⟩
  obtain ⟨t0, t1, t3, t4⟩ := ht q hq
  obtain ⟨g0, g1, g3, g4⟩ := f10 q hq
  have hb := (hw.2.2.1 q hq).1
  refine ⟨g0, g1, g3.trans t3, fun k f hk hf => ?_⟩
  have hlt : k * zWd q + f < zMs q * zWd q := by
    have : (k + 1) * zWd q ≤ zMs q * zWd q := Nat.mul_le_mul_right _ (by omega)
    rw [Nat.succ_mul] at this
    omega
  rw [g4 _ hlt]
  exact t4 k f hk hf
theorem mDay_sh {O : Nat} {I : Nat → Nat → Int32} {y : zFd} : mDay 0 (fun _ k => I 131 (O + k)) y ↔ mDay O I y := by
  unfold mDay mTr
  simp only [Nat.zero_add, Nat.add_zero]
theorem mDay_cp {O0 O c : Nat} {I I' : Nat → Nat → Int32} {y : zFd} (h : mDay O0 I y) (hw : wDay c y) (e : ∀ k, k < 883 → I' 131 (O + k) = I 131 (O0 + k)) : mDay O I' y := by
  rw [← mDay_sh] at h ⊢
  exact mDay_fr hw (fun k hk => by
    show I' 131 (O + (0 + k)) = I 131 (O0 + (0 + k))
    rw [Nat.zero_add]
    exact e k hk) h
section
variable {d L r : Nat} {I : Nat → Nat → Int32} {J : Nat → Nat → Int64}
theorem cCp_26_0 (hd : 2 ≤ d) {y : zFd} {c : Nat} (h : cDay 0 I J y) (hw : wDay c y) (hk : ∀ q, q < 8 → I (39 + 2 * q + 26) 0 = zi (zMs q) ∧ I (39 + 2 * q + 26) 1 = zi (zWd q)) : ∃ I' J', zCd zT d 2 [.ref 57, .ref 31] (zm L I J r) = some (none, zm L I' J' r) ∧ cDay 26 I' J' y ∧ (∀ o, ¬ (58 ≤ o ∧ o ≤ 81) → I' o = I o) ∧ (∀ o, o ≠ 58 → o ≠ 62 → o ≠ 64 → J' o = J o) ∧ ∀ q, q < 8 → I' (39 + 2 * q + 26) 0 = zi (zMs q) ∧ I' (39 + 2 * q + 26) 1 = zi (zWd q) := by
  have s := sX0_copyFrom_57_31 (d := d) hd (L := L) (I := I) (J := J) (r := r)
  have k00 : I 65 0 = zi (12 : Nat) := (hk 0 (by decide)).1
  have k01 : I 65 1 = zi (4 : Nat) := (hk 0 (by decide)).2
  have m0 : (if I 39 3 < I 65 0 then I 39 3 else I 65 0) = I 39 3 := yMin3 (h.2.2.1 0 (by decide)).2.2.1 k00 (hw.2.2.1 0 (by decide)).1 (by decide)
  have k10 : I 67 0 = zi (6 : Nat) := (hk 1 (by decide)).1
  have k11 : I 67 1 = zi (1 : Nat) := (hk 1 (by decide)).2
  have m1 : (if I 41 3 < I 67 0 then I 41 3 else I 67 0) = I 41 3 := yMin3 (h.2.2.1 1 (by decide)).2.2.1 k10 (hw.2.2.1 1 (by decide)).1 (by decide)
  have k20 : I 69 0 = zi (10 : Nat) := (hk 2 (by decide)).1
  have k21 : I 69 1 = zi (2 : Nat) := (hk 2 (by decide)).2
  have m2 : (if I 43 3 < I 69 0 then I 43 3 else I 69 0) = I 43 3 := yMin3 (h.2.2.1 2 (by decide)).2.2.1 k20 (hw.2.2.1 2 (by decide)).1 (by decide)
  have k30 : I 71 0 = zi (8 : Nat) := (hk 3 (by decide)).1
  have k31 : I 71 1 = zi (2 : Nat) := (hk 3 (by decide)).2
  have m3 : (if I 45 3 < I 71 0 then I 45 3 else I 71 0) = I 45 3 := yMin3 (h.2.2.1 3 (by decide)).2.2.1 k30 (hw.2.2.1 3 (by decide)).1 (by decide)
  have k40 : I 73 0 = zi (10 : Nat) := (hk 4 (by decide)).1
  have k41 : I 73 1 = zi (2 : Nat) := (hk 4 (by decide)).2
  have m4 : (if I 47 3 < I 73 0 then I 47 3 else I 73 0) = I 47 3 := yMin3 (h.2.2.1 4 (by decide)).2.2.1 k40 (hw.2.2.1 4 (by decide)).1 (by decide)
  have k50 : I 75 0 = zi (20 : Nat) := (hk 5 (by decide)).1
  have k51 : I 75 1 = zi (4 : Nat) := (hk 5 (by decide)).2
  have m5 : (if I 49 3 < I 75 0 then I 49 3 else I 75 0) = I 49 3 := yMin3 (h.2.2.1 5 (by decide)).2.2.1 k50 (hw.2.2.1 5 (by decide)).1 (by decide)
  have k60 : I 77 0 = zi (20 : Nat) := (hk 6 (by decide)).1
  have k61 : I 77 1 = zi (3 : Nat) := (hk 6 (by decide)).2
  have m6 : (if I 51 3 < I 77 0 then I 51 3 else I 77 0) = I 51 3 := yMin3 (h.2.2.1 6 (by decide)).2.2.1 k60 (hw.2.2.1 6 (by decide)).1 (by decide)
  have k70 : I 79 0 = zi (8 : Nat) := (hk 7 (by decide)).1
  have k71 : I 79 1 = zi (3 : Nat) := (hk 7 (by decide)).2
  have m7 : (if I 53 3 < I 79 0 then I 53 3 else I 79 0) = I 53 3 := yMin3 (h.2.2.1 7 (by decide)).2.2.1 k70 (hw.2.2.1 7 (by decide)).1 (by decide)
  refine ⟨_, _, s, cDay_cp (D0 := 0) (D := 26) h hw (fun k a b => ?_) (fun k a => ?_) (fun k a => ?_) (fun k a => ?_) (fun k a => ?_) ?_ ?_ ?_ (fun k a => ?_) (fun q hq => ?_) (fun k a => ?_), fun o ho => ?_, fun o a b c => ?_, fun q hq => ?_⟩
  · obtain rfl | rfl | rfl | rfl | rfl | rfl : k = 5 ∨ k = 6 ∨ k = 7 ∨ k = 8 ∨ k = 9 ∨ k = 10 := by omega
    all_goals simp (disch := omega) only [Nat.reduceAdd, Nat.reduceMul, zcI_o, zu_o, zu_n, zu_y, zcI_y, zcJ_o, zcJ_y, zuL_o, zuL_n, zuL_y]
  · simp (disch := omega) only [Nat.reduceAdd, Nat.reduceMul, zcI_o, zu_o, zu_n, zu_y, zcI_y, zcJ_o, zcJ_y, zuL_o, zuL_n, zuL_y]
  · simp (disch := omega) only [Nat.reduceAdd, Nat.reduceMul, zcI_o, zu_o, zu_n, zu_y, zcI_y, zcJ_o, zcJ_y, zuL_o, zuL_n, zuL_y]
  · simp (disch := omega) only [Nat.reduceAdd, Nat.reduceMul, zcI_o, zu_o, zu_n, zu_y, zcI_y, zcJ_o, zcJ_y, zuL_o, zuL_n, zuL_y]
  · simp (disch := omega) only [Nat.reduceAdd, Nat.reduceMul, zcI_o, zu_o, zu_n, zu_y, zcI_y, zcJ_o, zcJ_y, zuL_o, zuL_n, zuL_y]
  · simp (disch := omega) only [Nat.reduceAdd, Nat.reduceMul, zcI_o, zu_o, zu_n, zu_y, zcI_y, zcJ_o, zcJ_y, zuL_o, zuL_n, zuL_y]
  · simp (disch := omega) only [Nat.reduceAdd, Nat.reduceMul, zcI_o, zu_o, zu_n, zu_y, zcI_y, zcJ_o, zcJ_y, zuL_o, zuL_n, zuL_y]
  · simp (disch := omega) only [Nat.reduceAdd, Nat.reduceMul, zcI_o, zu_o, zu_n, zu_y, zcI_y, zcJ_o, zcJ_y, zuL_o, zuL_n, zuL_y]
  · simp (disch := omega) only [Nat.reduceAdd, Nat.reduceMul, zcI_o, zu_o, zu_n, zu_y, zcI_y, zcJ_o, zcJ_y, zuL_o, zuL_n, zuL_y]
  · obtain rfl | rfl | rfl | rfl | rfl | rfl | rfl | rfl : q = 0 ∨ q = 1 ∨ q = 2 ∨ q = 3 ∨ q = 4 ∨ q = 5 ∨ q = 6 ∨ q = 7 := by omega
    · refine ⟨?_, ?_, ?_, fun k a => ?_⟩
      · simp (disch := omega) only [Nat.reduceAdd, Nat.reduceMul, zcI_o, zu_o, zu_n, zu_y, zcI_y, zcJ_o, zcJ_y, zuL_o, zuL_n, zuL_y]
        exact k00
      · simp (disch := omega) only [Nat.reduceAdd, Nat.reduceMul, zcI_o, zu_o, zu_n, zu_y, zcI_y, zcJ_o, zcJ_y, zuL_o, zuL_n, zuL_y]
        exact k01
      · simp (disch := omega) only [Nat.reduceAdd, Nat.reduceMul, zcI_o, zu_o, zu_n, zu_y, zcI_y, zcJ_o, zcJ_y, zuL_o, zuL_n, zuL_y]
        exact m0
      · have a : k < 48 := a
        simp (disch := omega) only [Nat.reduceAdd, Nat.reduceMul, zcI_o, zu_o, zu_n, zu_y, zcI_y, zcJ_o, zcJ_y, zuL_o, zuL_n, zuL_y]
    · refine ⟨?_, ?_, ?_, fun k a => ?_⟩
      · simp (disch := omega) only [Nat.reduceAdd, Nat.reduceMul, zcI_o, zu_o, zu_n, zu_y, zcI_y, zcJ_o, zcJ_y, zuL_o, zuL_n, zuL_y]
        exact k10
      · simp (disch := omega) only [Nat.reduceAdd, Nat.reduceMul, zcI_o, zu_o, zu_n, zu_y, zcI_y, zcJ_o, zcJ_y, zuL_o, zuL_n, zuL_y]
        exact k11
      · simp (disch := omega) only [Nat.reduceAdd, Nat.reduceMul, zcI_o, zu_o, zu_n, zu_y, zcI_y, zcJ_o, zcJ_y, zuL_o, zuL_n, zuL_y]
        exact m1
      · have a : k < 6 := a
        simp (disch := omega) only [Nat.reduceAdd, Nat.reduceMul, zcI_o, zu_o, zu_n, zu_y, zcI_y, zcJ_o, zcJ_y, zuL_o, zuL_n, zuL_y]
    · refine ⟨?_, ?_, ?_, fun k a => ?_⟩
      · simp (disch := omega) only [Nat.reduceAdd, Nat.reduceMul, zcI_o, zu_o, zu_n, zu_y, zcI_y, zcJ_o, zcJ_y, zuL_o, zuL_n, zuL_y]
        exact k20
      · simp (disch := omega) only [Nat.reduceAdd, Nat.reduceMul, zcI_o, zu_o, zu_n, zu_y, zcI_y, zcJ_o, zcJ_y, zuL_o, zuL_n, zuL_y]
        exact k21
      · simp (disch := omega) only [Nat.reduceAdd, Nat.reduceMul, zcI_o, zu_o, zu_n, zu_y, zcI_y, zcJ_o, zcJ_y, zuL_o, zuL_n, zuL_y]
        exact m2
      · have a : k < 20 := a
        simp (disch := omega) only [Nat.reduceAdd, Nat.reduceMul, zcI_o, zu_o, zu_n, zu_y, zcI_y, zcJ_o, zcJ_y, zuL_o, zuL_n, zuL_y]
    · refine ⟨?_, ?_, ?_, fun k a => ?_⟩
      · simp (disch := omega) only [Nat.reduceAdd, Nat.reduceMul, zcI_o, zu_o, zu_n, zu_y, zcI_y, zcJ_o, zcJ_y, zuL_o, zuL_n, zuL_y]
        exact k30
      · simp (disch := omega) only [Nat.reduceAdd, Nat.reduceMul, zcI_o, zu_o, zu_n, zu_y, zcI_y, zcJ_o, zcJ_y, zuL_o, zuL_n, zuL_y]
        exact k31
      · simp (disch := omega) only [Nat.reduceAdd, Nat.reduceMul, zcI_o, zu_o, zu_n, zu_y, zcI_y, zcJ_o, zcJ_y, zuL_o, zuL_n, zuL_y]
        exact m3
      · have a : k < 16 := a
        simp (disch := omega) only [Nat.reduceAdd, Nat.reduceMul, zcI_o, zu_o, zu_n, zu_y, zcI_y, zcJ_o, zcJ_y, zuL_o, zuL_n, zuL_y]
    · refine ⟨?_, ?_, ?_, fun k a => ?_⟩
      · simp (disch := omega) only [Nat.reduceAdd, Nat.reduceMul, zcI_o, zu_o, zu_n, zu_y, zcI_y, zcJ_o, zcJ_y, zuL_o, zuL_n, zuL_y]
        exact k40
      · simp (disch := omega) only [Nat.reduceAdd, Nat.reduceMul, zcI_o, zu_o, zu_n, zu_y, zcI_y, zcJ_o, zcJ_y, zuL_o, zuL_n, zuL_y]
        exact k41
      · simp (disch := omega) only [Nat.reduceAdd, Nat.reduceMul, zcI_o, zu_o, zu_n, zu_y, zcI_y, zcJ_o, zcJ_y, zuL_o, zuL_n, zuL_y]
        exact m4
      · have a : k < 20 := a
        simp (disch := omega) only [Nat.reduceAdd, Nat.reduceMul, zcI_o, zu_o, zu_n, zu_y, zcI_y, zcJ_o, zcJ_y, zuL_o, zuL_n, zuL_y]
    · refine ⟨?_, ?_, ?_, fun k a => ?_⟩
      · simp (disch := omega) only [Nat.reduceAdd, Nat.reduceMul, zcI_o, zu_o, zu_n, zu_y, zcI_y, zcJ_o, zcJ_y, zuL_o, zuL_n, zuL_y]
        exact k50
      · simp (disch := omega) only [Nat.reduceAdd, Nat.reduceMul, zcI_o, zu_o, zu_n, zu_y, zcI_y, zcJ_o, zcJ_y, zuL_o, zuL_n, zuL_y]
        exact k51
      · simp (disch := omega) only [Nat.reduceAdd, Nat.reduceMul, zcI_o, zu_o, zu_n, zu_y, zcI_y, zcJ_o, zcJ_y, zuL_o, zuL_n, zuL_y]
        exact m5
      · have a : k < 80 := a
        simp (disch := omega) only [Nat.reduceAdd, Nat.reduceMul, zcI_o, zu_o, zu_n, zu_y, zcI_y, zcJ_o, zcJ_y, zuL_o, zuL_n, zuL_y]
    · refine ⟨?_, ?_, ?_, fun k a => ?_⟩
      · simp (disch := omega) only [Nat.reduceAdd, Nat.reduceMul, zcI_o, zu_o, zu_n, zu_y, zcI_y, zcJ_o, zcJ_y, zuL_o, zuL_n, zuL_y]
        exact k60
      · simp (disch := omega) only [Nat.reduceAdd, Nat.reduceMul, zcI_o, zu_o, zu_n, zu_y, zcI_y, zcJ_o, zcJ_y, zuL_o, zuL_n, zuL_y]
        exact k61
      · simp (disch := omega) only [Nat.reduceAdd, Nat.reduceMul, zcI_o, zu_o, zu_n, zu_y, zcI_y, zcJ_o, zcJ_y, zuL_o, zuL_n, zuL_y]
        exact m6
      · have a : k < 60 := a
        simp (disch := omega) only [Nat.reduceAdd, Nat.reduceMul, zcI_o, zu_o, zu_n, zu_y, zcI_y, zcJ_o, zcJ_y, zuL_o, zuL_n, zuL_y]
    · refine ⟨?_, ?_, ?_, fun k a => ?_⟩
      · simp (disch := omega) only [Nat.reduceAdd, Nat.reduceMul, zcI_o, zu_o, zu_n, zu_y, zcI_y, zcJ_o, zcJ_y, zuL_o, zuL_n, zuL_y]
        exact k70
      · simp (disch := omega) only [Nat.reduceAdd, Nat.reduceMul, zcI_o, zu_o, zu_n, zu_y, zcI_y, zcJ_o, zcJ_y, zuL_o, zuL_n, zuL_y]
        exact k71
      · simp (disch := omega) only [Nat.reduceAdd, Nat.reduceMul, zcI_o, zu_o, zu_n, zu_y, zcI_y, zcJ_o, zcJ_y, zuL_o, zuL_n, zuL_y]
        exact m7
      · have a : k < 24 := a
        simp (disch := omega) only [Nat.reduceAdd, Nat.reduceMul, zcI_o, zu_o, zu_n, zu_y, zcI_y, zcJ_o, zcJ_y, zuL_o, zuL_n, zuL_y]
  · simp (disch := omega) only [Nat.reduceAdd, Nat.reduceMul, zcI_o, zu_o, zu_n, zu_y, zcI_y, zcJ_o, zcJ_y, zuL_o, zuL_n, zuL_y]
  · simp (disch := omega) only [zcI_o, zu_o]
  · simp (disch := omega) only [zcJ_o, zuL_o]
  · obtain rfl | rfl | rfl | rfl | rfl | rfl | rfl | rfl : q = 0 ∨ q = 1 ∨ q = 2 ∨ q = 3 ∨ q = 4 ∨ q = 5 ∨ q = 6 ∨ q = 7 := by omega
    · refine ⟨?_, ?_⟩
      · simp (disch := omega) only [Nat.reduceAdd, Nat.reduceMul, zcI_o, zu_o, zu_n, zu_y, zcI_y, zcJ_o, zcJ_y, zuL_o, zuL_n, zuL_y]
        exact k00
      · simp (disch := omega) only [Nat.reduceAdd, Nat.reduceMul, zcI_o, zu_o, zu_n, zu_y, zcI_y, zcJ_o, zcJ_y, zuL_o, zuL_n, zuL_y]
        exact k01
    · refine ⟨?_, ?_⟩
      · simp (disch := omega) only [Nat.reduceAdd, Nat.reduceMul, zcI_o, zu_o, zu_n, zu_y, zcI_y, zcJ_o, zcJ_y, zuL_o, zuL_n, zuL_y]
        exact k10
      · simp (disch := omega) only [Nat.reduceAdd, Nat.reduceMul, zcI_o, zu_o, zu_n, zu_y, zcI_y, zcJ_o, zcJ_y, zuL_o, zuL_n, zuL_y]
        exact k11
    · refine ⟨?_, ?_⟩
      · simp (disch := omega) only [Nat.reduceAdd, Nat.reduceMul, zcI_o, zu_o, zu_n, zu_y, zcI_y, zcJ_o, zcJ_y, zuL_o, zuL_n, zuL_y]
        exact k20
      · simp (disch := omega) only [Nat.reduceAdd, Nat.reduceMul, zcI_o, zu_o, zu_n, zu_y, zcI_y, zcJ_o, zcJ_y, zuL_o, zuL_n, zuL_y]
        exact k21
    · refine ⟨?_, ?_⟩
      · simp (disch := omega) only [Nat.reduceAdd, Nat.reduceMul, zcI_o, zu_o, zu_n, zu_y, zcI_y, zcJ_o, zcJ_y, zuL_o, zuL_n, zuL_y]
        exact k30
      · simp (disch := omega) only [Nat.reduceAdd, Nat.reduceMul, zcI_o, zu_o, zu_n, zu_y, zcI_y, zcJ_o, zcJ_y, zuL_o, zuL_n, zuL_y]
        exact k31
    · refine ⟨?_, ?_⟩
      · simp (disch := omega) only [Nat.reduceAdd, Nat.reduceMul, zcI_o, zu_o, zu_n, zu_y, zcI_y, zcJ_o, zcJ_y, zuL_o, zuL_n, zuL_y]
        exact k40
      · simp (disch := omega) only [Nat.reduceAdd, Nat.reduceMul, zcI_o, zu_o, zu_n, zu_y, zcI_y, zcJ_o, zcJ_y, zuL_o, zuL_n, zuL_y]
        exact k41
    · refine ⟨?_, ?_⟩
      · simp (disch := omega) only [Nat.reduceAdd, Nat.reduceMul, zcI_o, zu_o, zu_n, zu_y, zcI_y, zcJ_o, zcJ_y, zuL_o, zuL_n, zuL_y]
        exact k50
      · simp (disch := omega) only [Nat.reduceAdd, Nat.reduceMul, zcI_o, zu_o, zu_n, zu_y, zcI_y, zcJ_o, zcJ_y, zuL_o, zuL_n, zuL_y]
        exact k51
    · refine ⟨?_, ?_⟩
      · simp (disch := omega) only [Nat.reduceAdd, Nat.reduceMul, zcI_o, zu_o, zu_n, zu_y, zcI_y, zcJ_o, zcJ_y, zuL_o, zuL_n, zuL_y]
        exact k60
      · simp (disch := omega) only [Nat.reduceAdd, Nat.reduceMul, zcI_o, zu_o, zu_n, zu_y, zcI_y, zcJ_o, zcJ_y, zuL_o, zuL_n, zuL_y]
        exact k61
    · refine ⟨?_, ?_⟩
      · simp (disch := omega) only [Nat.reduceAdd, Nat.reduceMul, zcI_o, zu_o, zu_n, zu_y, zcI_y, zcJ_o, zcJ_y, zuL_o, zuL_n, zuL_y]
        exact k70
      · simp (disch := omega) only [Nat.reduceAdd, Nat.reduceMul, zcI_o, zu_o, zu_n, zu_y, zcI_y, zcJ_o, zcJ_y, zuL_o, zuL_n, zuL_y]
        exact k71
theorem cCp_51_0 (hd : 2 ≤ d) {y : zFd} {c : Nat} (h : cDay 0 I J y) (hw : wDay c y) (hk : ∀ q, q < 8 → I (39 + 2 * q + 51) 0 = zi (zMs q) ∧ I (39 + 2 * q + 51) 1 = zi (zWd q)) : ∃ I' J', zCd zT d 2 [.ref 82, .ref 31] (zm L I J r) = some (none, zm L I' J' r) ∧ cDay 51 I' J' y ∧ (∀ o, ¬ (83 ≤ o ∧ o ≤ 106) → I' o = I o) ∧ (∀ o, o ≠ 83 → o ≠ 87 → o ≠ 89 → J' o = J o) ∧ ∀ q, q < 8 → I' (39 + 2 * q + 51) 0 = zi (zMs q) ∧ I' (39 + 2 * q + 51) 1 = zi (zWd q) := by
  have s := sX0_copyFrom_82_31 (d := d) hd (L := L) (I := I) (J := J) (r := r)
  have k00 : I 90 0 = zi (12 : Nat) := (hk 0 (by decide)).1
  have k01 : I 90 1 = zi (4 : Nat) := (hk 0 (by decide)).2
  have m0 : (if I 39 3 < I 90 0 then I 39 3 else I 90 0) = I 39 3 := yMin3 (h.2.2.1 0 (by decide)).2.2.1 k00 (hw.2.2.1 0 (by decide)).1 (by decide)
  have k10 : I 92 0 = zi (6 : Nat) := (hk 1 (by decide)).1
  have k11 : I 92 1 = zi (1 : Nat) := (hk 1 (by decide)).2
  have m1 : (if I 41 3 < I 92 0 then I 41 3 else I 92 0) = I 41 3 := yMin3 (h.2.2.1 1 (by decide)).2.2.1 k10 (hw.2.2.1 1 (by decide)).1 (by decide)
  have k20 : I 94 0 = zi (10 : Nat) := (hk 2 (by decide)).1
  have k21 : I 94 1 = zi (2 : Nat) := (hk 2 (by decide)).2
  have m2 : (if I 43 3 < I 94 0 then I 43 3 else I 94 0) = I 43 3 := yMin3 (h.2.2.1 2 (by decide)).2.2.1 k20 (hw.2.2.1 2 (by decide)).1 (by decide)
  have k30 : I 96 0 = zi (8 : Nat) := (hk 3 (by decide)).1
  have k31 : I 96 1 = zi (2 : Nat) := (hk 3 (by decide)).2
  have m3 : (if I 45 3 < I 96 0 then I 45 3 else I 96 0) = I 45 3 := yMin3 (h.2.2.1 3 (by decide)).2.2.1 k30 (hw.2.2.1 3 (by decide)).1 (by decide)
  have k40 : I 98 0 = zi (10 : Nat) := (hk 4 (by decide)).1
  have k41 : I 98 1 = zi (2 : Nat) := (hk 4 (by decide)).2
  have m4 : (if I 47 3 < I 98 0 then I 47 3 else I 98 0) = I 47 3 := yMin3 (h.2.2.1 4 (by decide)).2.2.1 k40 (hw.2.2.1 4 (by decide)).1 (by decide)
  have k50 : I 100 0 = zi (20 : Nat) := (hk 5 (by decide)).1
  have k51 : I 100 1 = zi (4 : Nat) := (hk 5 (by decide)).2
  have m5 : (if I 49 3 < I 100 0 then I 49 3 else I 100 0) = I 49 3 := yMin3 (h.2.2.1 5 (by decide)).2.2.1 k50 (hw.2.2.1 5 (by decide)).1 (by decide)
  have k60 : I 102 0 = zi (20 : Nat) := (hk 6 (by decide)).1
  have k61 : I 102 1 = zi (3 : Nat) := (hk 6 (by decide)).2
  have m6 : (if I 51 3 < I 102 0 then I 51 3 else I 102 0) = I 51 3 := yMin3 (h.2.2.1 6 (by decide)).2.2.1 k60 (hw.2.2.1 6 (by decide)).1 (by decide)
  have k70 : I 104 0 = zi (8 : Nat) := (hk 7 (by decide)).1
  have k71 : I 104 1 = zi (3 : Nat) := (hk 7 (by decide)).2
  have m7 : (if I 53 3 < I 104 0 then I 53 3 else I 104 0) = I 53 3 := yMin3 (h.2.2.1 7 (by decide)).2.2.1 k70 (hw.2.2.1 7 (by decide)).1 (by decide)
  refine ⟨_, _, s, cDay_cp (D0 := 0) (D := 51) h hw (fun k a b => ?_) (fun k a => ?_) (fun k a => ?_) (fun k a => ?_) (fun k a => ?_) ?_ ?_ ?_ (fun k a => ?_) (fun q hq => ?_) (fun k a => ?_), fun o ho => ?_, fun o a b c => ?_, fun q hq => ?_⟩
  · obtain rfl | rfl | rfl | rfl | rfl | rfl : k = 5 ∨ k = 6 ∨ k = 7 ∨ k = 8 ∨ k = 9 ∨ k = 10 := by omega
    all_goals simp (disch := omega) only [Nat.reduceAdd, Nat.reduceMul, zcI_o, zu_o, zu_n, zu_y, zcI_y, zcJ_o, zcJ_y, zuL_o, zuL_n, zuL_y]
  · simp (disch := omega) only [Nat.reduceAdd, Nat.reduceMul, zcI_o, zu_o, zu_n, zu_y, zcI_y, zcJ_o, zcJ_y, zuL_o, zuL_n, zuL_y]
  · simp (disch := omega) only [Nat.reduceAdd, Nat.reduceMul, zcI_o, zu_o, zu_n, zu_y, zcI_y, zcJ_o, zcJ_y, zuL_o, zuL_n, zuL_y]
  · simp (disch := omega) only [Nat.reduceAdd, Nat.reduceMul, zcI_o, zu_o, zu_n, zu_y, zcI_y, zcJ_o, zcJ_y, zuL_o, zuL_n, zuL_y]
  · simp (disch := omega) only [Nat.reduceAdd, Nat.reduceMul, zcI_o, zu_o, zu_n, zu_y, zcI_y, zcJ_o, zcJ_y, zuL_o, zuL_n, zuL_y]
  · simp (disch := omega) only [Nat.reduceAdd, Nat.reduceMul, zcI_o, zu_o, zu_n, zu_y, zcI_y, zcJ_o, zcJ_y, zuL_o, zuL_n, zuL_y]
  · simp (disch := omega) only [Nat.reduceAdd, Nat.reduceMul, zcI_o, zu_o, zu_n, zu_y, zcI_y, zcJ_o, zcJ_y, zuL_o, zuL_n, zuL_y]
  · simp (disch := omega) only [Nat.reduceAdd, Nat.reduceMul, zcI_o, zu_o, zu_n, zu_y, zcI_y, zcJ_o, zcJ_y, zuL_o, zuL_n, zuL_y]
  · simp (disch := omega) only [Nat.reduceAdd, Nat.reduceMul, zcI_o, zu_o, zu_n, zu_y, zcI_y, zcJ_o, zcJ_y, zuL_o, zuL_n, zuL_y]
  · obtain rfl | rfl | rfl | rfl | rfl | rfl | rfl | rfl : q = 0 ∨ q = 1 ∨ q = 2 ∨ q = 3 ∨ q = 4 ∨ q = 5 ∨ q = 6 ∨ q = 7 := by omega
    · refine ⟨?_, ?_, ?_, fun k a => ?_⟩
      · simp (disch := omega) only [Nat.reduceAdd, Nat.reduceMul, zcI_o, zu_o, zu_n, zu_y, zcI_y, zcJ_o, zcJ_y, zuL_o, zuL_n, zuL_y]
        exact k00
      · simp (disch := omega) only [Nat.reduceAdd, Nat.reduceMul, zcI_o, zu_o, zu_n, zu_y, zcI_y, zcJ_o, zcJ_y, zuL_o, zuL_n, zuL_y]
        exact k01
      · simp (disch := omega) only [Nat.reduceAdd, Nat.reduceMul, zcI_o, zu_o, zu_n, zu_y, zcI_y, zcJ_o, zcJ_y, zuL_o, zuL_n, zuL_y]
        exact m0
      · have a : k < 48 := a
        simp (disch := omega) only [Nat.reduceAdd, Nat.reduceMul, zcI_o, zu_o, zu_n, zu_y, zcI_y, zcJ_o, zcJ_y, zuL_o, zuL_n, zuL_y]
    · refine ⟨?_, ?_, ?_, fun k a => ?_⟩
      · simp (disch := omega) only [Nat.reduceAdd, Nat.reduceMul, zcI_o, zu_o, zu_n, zu_y, zcI_y, zcJ_o, zcJ_y, zuL_o, zuL_n, zuL_y]
        exact k10
      · simp (disch := omega) only [Nat.reduceAdd, Nat.reduceMul, zcI_o, zu_o, zu_n, zu_y, zcI_y, zcJ_o, zcJ_y, zuL_o, zuL_n, zuL_y]
        exact k11
      · simp (disch := omega) only [Nat.reduceAdd, Nat.reduceMul, zcI_o, zu_o, zu_n, zu_y, zcI_y, zcJ_o, zcJ_y, zuL_o, zuL_n, zuL_y]
        exact m1
      · have a : k < 6 := a
        simp (disch := omega) only [Nat.reduceAdd, Nat.reduceMul, zcI_o, zu_o, zu_n, zu_y, zcI_y, zcJ_o, zcJ_y, zuL_o, zuL_n, zuL_y]
    · refine ⟨?_, ?_, ?_, fun k a => ?_⟩
      · simp (disch := omega) only [Nat.reduceAdd, Nat.reduceMul, zcI_o, zu_o, zu_n, zu_y, zcI_y, zcJ_o, zcJ_y, zuL_o, zuL_n, zuL_y]
        exact k20
      · simp (disch := omega) only [Nat.reduceAdd, Nat.reduceMul, zcI_o, zu_o, zu_n, zu_y, zcI_y, zcJ_o, zcJ_y, zuL_o, zuL_n, zuL_y]
        exact k21
      · simp (disch := omega) only [Nat.reduceAdd, Nat.reduceMul, zcI_o, zu_o, zu_n, zu_y, zcI_y, zcJ_o, zcJ_y, zuL_o, zuL_n, zuL_y]
        exact m2
      · have a : k < 20 := a
        simp (disch := omega) only [Nat.reduceAdd, Nat.reduceMul, zcI_o, zu_o, zu_n, zu_y, zcI_y, zcJ_o, zcJ_y, zuL_o, zuL_n, zuL_y]
    · refine ⟨?_, ?_, ?_, fun k a => ?_⟩
      · simp (disch := omega) only [Nat.reduceAdd, Nat.reduceMul, zcI_o, zu_o, zu_n, zu_y, zcI_y, zcJ_o, zcJ_y, zuL_o, zuL_n, zuL_y]
        exact k30
      · simp (disch := omega) only [Nat.reduceAdd, Nat.reduceMul, zcI_o, zu_o, zu_n, zu_y, zcI_y, zcJ_o, zcJ_y, zuL_o, zuL_n, zuL_y]
        exact k31
      · simp (disch := omega) only [Nat.reduceAdd, Nat.reduceMul, zcI_o, zu_o, zu_n, zu_y, zcI_y, zcJ_o, zcJ_y, zuL_o, zuL_n, zuL_y]
        exact m3
      · have a : k < 16 := a
        simp (disch := omega) only [Nat.reduceAdd, Nat.reduceMul, zcI_o, zu_o, zu_n, zu_y, zcI_y, zcJ_o, zcJ_y, zuL_o, zuL_n, zuL_y]
    · refine ⟨?_, ?_, ?_, fun k a => ?_⟩
      · simp (disch := omega) only [Nat.reduceAdd, Nat.reduceMul, zcI_o, zu_o, zu_n, zu_y, zcI_y, zcJ_o, zcJ_y, zuL_o, zuL_n, zuL_y]
        exact k40
      · simp (disch := omega) only [Nat.reduceAdd, Nat.reduceMul, zcI_o, zu_o, zu_n, zu_y, zcI_y, zcJ_o, zcJ_y, zuL_o, zuL_n, zuL_y]
        exact k41
      · simp (disch := omega) only [Nat.reduceAdd, Nat.reduceMul, zcI_o, zu_o, zu_n, zu_y, zcI_y, zcJ_o, zcJ_y, zuL_o, zuL_n, zuL_y]
        exact m4
      · have a : k < 20 := a
        simp (disch := omega) only [Nat.reduceAdd, Nat.reduceMul, zcI_o, zu_o, zu_n, zu_y, zcI_y, zcJ_o, zcJ_y, zuL_o, zuL_n, zuL_y]
    · refine ⟨?_, ?_, ?_, fun k a => ?_⟩
      · simp (disch := omega) only [Nat.reduceAdd, Nat.reduceMul, zcI_o, zu_o, zu_n, zu_y, zcI_y, zcJ_o, zcJ_y, zuL_o, zuL_n, zuL_y]
        exact k50
      · simp (disch := omega) only [Nat.reduceAdd, Nat.reduceMul, zcI_o, zu_o, zu_n, zu_y, zcI_y, zcJ_o, zcJ_y, zuL_o, zuL_n, zuL_y]
        exact k51
      · simp (disch := omega) only [Nat.reduceAdd, Nat.reduceMul, zcI_o, zu_o, zu_n, zu_y, zcI_y, zcJ_o, zcJ_y, zuL_o, zuL_n, zuL_y]
        exact m5
      · have a : k < 80 := a
        simp (disch := omega) only [Nat.reduceAdd, Nat.reduceMul, zcI_o, zu_o, zu_n, zu_y, zcI_y, zcJ_o, zcJ_y, zuL_o, zuL_n, zuL_y]
    · refine ⟨?_, ?_, ?_, fun k a => ?_⟩
      · simp (disch := omega) only [Nat.reduceAdd, Nat.reduceMul, zcI_o, zu_o, zu_n, zu_y, zcI_y, zcJ_o, zcJ_y, zuL_o, zuL_n, zuL_y]
        exact k60
      · simp (disch := omega) only [Nat.reduceAdd, Nat.reduceMul, zcI_o, zu_o, zu_n, zu_y, zcI_y, zcJ_o, zcJ_y, zuL_o, zuL_n, zuL_y]
        exact k61
      · simp (disch := omega) only [Nat.reduceAdd, Nat.reduceMul, zcI_o, zu_o, zu_n, zu_y, zcI_y, zcJ_o, zcJ_y, zuL_o, zuL_n, zuL_y]
        exact m6
      · have a : k < 60 := a
        simp (disch := omega) only [Nat.reduceAdd, Nat.reduceMul, zcI_o, zu_o, zu_n, zu_y, zcI_y, zcJ_o, zcJ_y, zuL_o, zuL_n, zuL_y]
    · refine ⟨?_, ?_, ?_, fun k a => ?_⟩
      · simp (disch := omega) only [Nat.reduceAdd, Nat.reduceMul, zcI_o, zu_o, zu_n, zu_y, zcI_y, zcJ_o, zcJ_y, zuL_o, zuL_n, zuL_y]
        exact k70
      · simp (disch := omega) only [Nat.reduceAdd, Nat.reduceMul, zcI_o, zu_o, zu_n, zu_y, zcI_y, zcJ_o, zcJ_y, zuL_o, zuL_n, zuL_y]
        exact k71
      · simp (disch := omega) only [Nat.reduceAdd, Nat.reduceMul, zcI_o, zu_o, zu_n, zu_y, zcI_y, zcJ_o, zcJ_y, zuL_o, zuL_n, zuL_y]
        exact m7
      · have a : k < 24 := a
        simp (disch := omega) only [Nat.reduceAdd, Nat.reduceMul, zcI_o, zu_o, zu_n, zu_y, zcI_y, zcJ_o, zcJ_y, zuL_o, zuL_n, zuL_y]
  · simp (disch := omega) only [Nat.reduceAdd, Nat.reduceMul, zcI_o, zu_o, zu_n, zu_y, zcI_y, zcJ_o, zcJ_y, zuL_o, zuL_n, zuL_y]
  · simp (disch := omega) only [zcI_o, zu_o]
  · simp (disch := omega) only [zcJ_o, zuL_o]
  · obtain rfl | rfl | rfl | rfl | rfl | rfl | rfl | rfl : q = 0 ∨ q = 1 ∨ q = 2 ∨ q = 3 ∨ q = 4 ∨ q = 5 ∨ q = 6 ∨ q = 7 := by omega
    · refine ⟨?_, ?_⟩
      · simp (disch := omega) only [Nat.reduceAdd, Nat.reduceMul, zcI_o, zu_o, zu_n, zu_y, zcI_y, zcJ_o, zcJ_y, zuL_o, zuL_n, zuL_y]
        exact k00
      · simp (disch := omega) only [Nat.reduceAdd, Nat.reduceMul, zcI_o, zu_o, zu_n, zu_y, zcI_y, zcJ_o, zcJ_y, zuL_o, zuL_n, zuL_y]
        exact k01
    · refine ⟨?_, ?_⟩
      · simp (disch := omega) only [Nat.reduceAdd, Nat.reduceMul, zcI_o, zu_o, zu_n, zu_y, zcI_y, zcJ_o, zcJ_y, zuL_o, zuL_n, zuL_y]
        exact k10
      · simp (disch := omega) only [Nat.reduceAdd, Nat.reduceMul, zcI_o, zu_o, zu_n, zu_y, zcI_y, zcJ_o, zcJ_y, zuL_o, zuL_n, zuL_y]
        exact k11
    · refine ⟨?_, ?_⟩
      · simp (disch := omega) only [Nat.reduceAdd, Nat.reduceMul, zcI_o, zu_o, zu_n, zu_y, zcI_y, zcJ_o, zcJ_y, zuL_o, zuL_n, zuL_y]
        exact k20
      · simp (disch := omega) only [Nat.reduceAdd, Nat.reduceMul, zcI_o, zu_o, zu_n, zu_y, zcI_y, zcJ_o, zcJ_y, zuL_o, zuL_n, zuL_y]
        exact k21
    · refine ⟨?_, ?_⟩
      · simp (disch := omega) only [Nat.reduceAdd, Nat.reduceMul, zcI_o, zu_o, zu_n, zu_y, zcI_y, zcJ_o, zcJ_y, zuL_o, zuL_n, zuL_y]
        exact k30
      · simp (disch := omega) only [Nat.reduceAdd, Nat.reduceMul, zcI_o, zu_o, zu_n, zu_y, zcI_y, zcJ_o, zcJ_y, zuL_o, zuL_n, zuL_y]
        exact k31
    · refine ⟨?_, ?_⟩
      · simp (disch := omega) only [Nat.reduceAdd, Nat.reduceMul, zcI_o, zu_o, zu_n, zu_y, zcI_y, zcJ_o, zcJ_y, zuL_o, zuL_n, zuL_y]
        exact k40
      · simp (disch := omega) only [Nat.reduceAdd, Nat.reduceMul, zcI_o, zu_o, zu_n, zu_y, zcI_y, zcJ_o, zcJ_y, zuL_o, zuL_n, zuL_y]
        exact k41
    · refine ⟨?_, ?_⟩
      · simp (disch := omega) only [Nat.reduceAdd, Nat.reduceMul, zcI_o, zu_o, zu_n, zu_y, zcI_y, zcJ_o, zcJ_y, zuL_o, zuL_n, zuL_y]
        exact k50
      · simp (disch := omega) only [Nat.reduceAdd, Nat.reduceMul, zcI_o, zu_o, zu_n, zu_y, zcI_y, zcJ_o, zcJ_y, zuL_o, zuL_n, zuL_y]
        exact k51
    · refine ⟨?_, ?_⟩
      · simp (disch := omega) only [Nat.reduceAdd, Nat.reduceMul, zcI_o, zu_o, zu_n, zu_y, zcI_y, zcJ_o, zcJ_y, zuL_o, zuL_n, zuL_y]
        exact k60
      · simp (disch := omega) only [Nat.reduceAdd, Nat.reduceMul, zcI_o, zu_o, zu_n, zu_y, zcI_y, zcJ_o, zcJ_y, zuL_o, zuL_n, zuL_y]
        exact k61
    · refine ⟨?_, ?_⟩
      · simp (disch := omega) only [Nat.reduceAdd, Nat.reduceMul, zcI_o, zu_o, zu_n, zu_y, zcI_y, zcJ_o, zcJ_y, zuL_o, zuL_n, zuL_y]
        exact k70
      · simp (disch := omega) only [Nat.reduceAdd, Nat.reduceMul, zcI_o, zu_o, zu_n, zu_y, zcI_y, zcJ_o, zcJ_y, zuL_o, zuL_n, zuL_y]
        exact k71
theorem cCp_0_26 (hd : 2 ≤ d) {y : zFd} {c : Nat} (h : cDay 26 I J y) (hw : wDay c y) (hk : ∀ q, q < 8 → I (39 + 2 * q + 0) 0 = zi (zMs q) ∧ I (39 + 2 * q + 0) 1 = zi (zWd q)) : ∃ I' J', zCd zT d 2 [.ref 31, .ref 57] (zm L I J r) = some (none, zm L I' J' r) ∧ cDay 0 I' J' y ∧ (∀ o, ¬ (32 ≤ o ∧ o ≤ 55) → I' o = I o) ∧ (∀ o, o ≠ 32 → o ≠ 36 → o ≠ 38 → J' o = J o) ∧ ∀ q, q < 8 → I' (39 + 2 * q + 0) 0 = zi (zMs q) ∧ I' (39 + 2 * q + 0) 1 = zi (zWd q) := by
  have s := sX0_copyFrom_31_57 (d := d) hd (L := L) (I := I) (J := J) (r := r)
  have k00 : I 39 0 = zi (12 : Nat) := (hk 0 (by decide)).1
  have k01 : I 39 1 = zi (4 : Nat) := (hk 0 (by decide)).2
  have m0 : (if I 65 3 < I 39 0 then I 65 3 else I 39 0) = I 65 3 := yMin3 (h.2.2.1 0 (by decide)).2.2.1 k00 (hw.2.2.1 0 (by decide)).1 (by decide)
  have k10 : I 41 0 = zi (6 : Nat) := (hk 1 (by decide)).1
  have k11 : I 41 1 = zi (1 : Nat) := (hk 1 (by decide)).2
  have m1 : (if I 67 3 < I 41 0 then I 67 3 else I 41 0) = I 67 3 := yMin3 (h.2.2.1 1 (by decide)).2.2.1 k10 (hw.2.2.1 1 (by decide)).1 (by decide)
  have k20 : I 43 0 = zi (10 : Nat) := (hk 2 (by decide)).1
  have k21 : I 43 1 = zi (2 : Nat) := (hk 2 (by decide)).2
  have m2 : (if I 69 3 < I 43 0 then I 69 3 else I 43 0) = I 69 3 := yMin3 (h.2.2.1 2 (by decide)).2.2.1 k20 (hw.2.2.1 2 (by decide)).1 (by decide)
  have k30 : I 45 0 = zi (8 : Nat) := (hk 3 (by decide)).1
  have k31 : I 45 1 = zi (2 : Nat) := (hk 3 (by decide)).2
  have m3 : (if I 71 3 < I 45 0 then I 71 3 else I 45 0) = I 71 3 := yMin3 (h.2.2.1 3 (by decide)).2.2.1 k30 (hw.2.2.1 3 (by decide)).1 (by decide)
  have k40 : I 47 0 = zi (10 : Nat) := (hk 4 (by decide)).1
  have k41 : I 47 1 = zi (2 : Nat) := (hk 4 (by decide)).2
  have m4 : (if I 73 3 < I 47 0 then I 73 3 else I 47 0) = I 73 3 := yMin3 (h.2.2.1 4 (by decide)).2.2.1 k40 (hw.2.2.1 4 (by decide)).1 (by decide)
  have k50 : I 49 0 = zi (20 : Nat) := (hk 5 (by decide)).1
  have k51 : I 49 1 = zi (4 : Nat) := (hk 5 (by decide)).2
  have m5 : (if I 75 3 < I 49 0 then I 75 3 else I 49 0) = I 75 3 := yMin3 (h.2.2.1 5 (by decide)).2.2.1 k50 (hw.2.2.1 5 (by decide)).1 (by decide)
  have k60 : I 51 0 = zi (20 : Nat) := (hk 6 (by decide)).1
  have k61 : I 51 1 = zi (3 : Nat) := (hk 6 (by decide)).2
  have m6 : (if I 77 3 < I 51 0 then I 77 3 else I 51 0) = I 77 3 := yMin3 (h.2.2.1 6 (by decide)).2.2.1 k60 (hw.2.2.1 6 (by decide)).1 (by decide)
  have k70 : I 53 0 = zi (8 : Nat) := (hk 7 (by decide)).1
  have k71 : I 53 1 = zi (3 : Nat) := (hk 7 (by decide)).2
  have m7 : (if I 79 3 < I 53 0 then I 79 3 else I 53 0) = I 79 3 := yMin3 (h.2.2.1 7 (by decide)).2.2.1 k70 (hw.2.2.1 7 (by decide)).1 (by decide)
  refine ⟨_, _, s, cDay_cp (D0 := 26) (D := 0) h hw (fun k a b => ?_) (fun k a => ?_) (fun k a => ?_) (fun k a => ?_) (fun k a => ?_) ?_ ?_ ?_ (fun k a => ?_) (fun q hq => ?_) (fun k a => ?_), fun o ho => ?_, fun o a b c => ?_, fun q hq => ?_⟩
  · obtain rfl | rfl | rfl | rfl | rfl | rfl : k = 5 ∨ k = 6 ∨ k = 7 ∨ k = 8 ∨ k = 9 ∨ k = 10 := by omega
    all_goals simp (disch := omega) only [Nat.reduceAdd, Nat.reduceMul, zcI_o, zu_o, zu_n, zu_y, zcI_y, zcJ_o, zcJ_y, zuL_o, zuL_n, zuL_y]
  · simp (disch := omega) only [Nat.reduceAdd, Nat.reduceMul, zcI_o, zu_o, zu_n, zu_y, zcI_y, zcJ_o, zcJ_y, zuL_o, zuL_n, zuL_y]
  · simp (disch := omega) only [Nat.reduceAdd, Nat.reduceMul, zcI_o, zu_o, zu_n, zu_y, zcI_y, zcJ_o, zcJ_y, zuL_o, zuL_n, zuL_y]
  · simp (disch := omega) only [Nat.reduceAdd, Nat.reduceMul, zcI_o, zu_o, zu_n, zu_y, zcI_y, zcJ_o, zcJ_y, zuL_o, zuL_n, zuL_y]
  · simp (disch := omega) only [Nat.reduceAdd, Nat.reduceMul, zcI_o, zu_o, zu_n, zu_y, zcI_y, zcJ_o, zcJ_y, zuL_o, zuL_n, zuL_y]
  · simp (disch := omega) only [Nat.reduceAdd, Nat.reduceMul, zcI_o, zu_o, zu_n, zu_y, zcI_y, zcJ_o, zcJ_y, zuL_o, zuL_n, zuL_y]
  · simp (disch := omega) only [Nat.reduceAdd, Nat.reduceMul, zcI_o, zu_o, zu_n, zu_y, zcI_y, zcJ_o, zcJ_y, zuL_o, zuL_n, zuL_y]
  · simp (disch := omega) only [Nat.reduceAdd, Nat.reduceMul, zcI_o, zu_o, zu_n, zu_y, zcI_y, zcJ_o, zcJ_y, zuL_o, zuL_n, zuL_y]
  · simp (disch := omega) only [Nat.reduceAdd, Nat.reduceMul, zcI_o, zu_o, zu_n, zu_y, zcI_y, zcJ_o, zcJ_y, zuL_o, zuL_n, zuL_y]
  · obtain rfl | rfl | rfl | rfl | rfl | rfl | rfl | rfl : q = 0 ∨ q = 1 ∨ q = 2 ∨ q = 3 ∨ q = 4 ∨ q = 5 ∨ q = 6 ∨ q = 7 := by omega
    · refine ⟨?_, ?_, ?_, fun k a => ?_⟩
      · simp (disch := omega) only [Nat.reduceAdd, Nat.reduceMul, zcI_o, zu_o, zu_n, zu_y, zcI_y, zcJ_o, zcJ_y, zuL_o, zuL_n, zuL_y]
        exact k00
      · simp (disch := omega) only [Nat.reduceAdd, Nat.reduceMul, zcI_o, zu_o, zu_n, zu_y, zcI_y, zcJ_o, zcJ_y, zuL_o, zuL_n, zuL_y]
        exact k01
      · simp (disch := omega) only [Nat.reduceAdd, Nat.reduceMul, zcI_o, zu_o, zu_n, zu_y, zcI_y, zcJ_o, zcJ_y, zuL_o, zuL_n, zuL_y]
        exact m0
      · have a : k < 48 := a
        simp (disch := omega) only [Nat.reduceAdd, Nat.reduceMul, zcI_o, zu_o, zu_n, zu_y, zcI_y, zcJ_o, zcJ_y, zuL_o, zuL_n, zuL_y]
    · refine ⟨?_, ?_, ?_, fun k a => ?_⟩
      · simp (disch := omega) only [Nat.reduceAdd, Nat.reduceMul, zcI_o, zu_o, zu_n, zu_y, zcI_y, zcJ_o, zcJ_y, zuL_o, zuL_n, zuL_y]
        exact k10
      · simp (disch := omega) only [Nat.reduceAdd, Nat.reduceMul, zcI_o, zu_o, zu_n, zu_y, zcI_y, zcJ_o, zcJ_y, zuL_o, zuL_n, zuL_y]
        exact k11
      · simp (disch := omega) only [Nat.reduceAdd, Nat.reduceMul, zcI_o, zu_o, zu_n, zu_y, zcI_y, zcJ_o, zcJ_y, zuL_o, zuL_n, zuL_y]
        exact m1
      · have a : k < 6 := a
        simp (disch := omega) only [Nat.reduceAdd, Nat.reduceMul, zcI_o, zu_o, zu_n, zu_y, zcI_y, zcJ_o, zcJ_y, zuL_o, zuL_n, zuL_y]
    · refine ⟨?_, ?_, ?_, fun k a => ?_⟩
      · simp (disch := omega) only [Nat.reduceAdd, Nat.reduceMul, zcI_o, zu_o, zu_n, zu_y, zcI_y, zcJ_o, zcJ_y, zuL_o, zuL_n, zuL_y]
        exact k20
      · simp (disch := omega) only [Nat.reduceAdd, Nat.reduceMul, zcI_o, zu_o, zu_n, zu_y, zcI_y, zcJ_o, zcJ_y, zuL_o, zuL_n, zuL_y]
        exact k21
      · simp (disch := omega) only [Nat.reduceAdd, Nat.reduceMul, zcI_o, zu_o, zu_n, zu_y, zcI_y, zcJ_o, zcJ_y, zuL_o, zuL_n, zuL_y]
        exact m2
      · have a : k < 20 := a
        simp (disch := omega) only [Nat.reduceAdd, Nat.reduceMul, zcI_o, zu_o, zu_n, zu_y, zcI_y, zcJ_o, zcJ_y, zuL_o, zuL_n, zuL_y]
    · refine ⟨?_, ?_, ?_, fun k a => ?_⟩
      · simp (disch := omega) only [Nat.reduceAdd, Nat.reduceMul, zcI_o, zu_o, zu_n, zu_y, zcI_y, zcJ_o, zcJ_y, zuL_o, zuL_n, zuL_y]
        exact k30
      · simp (disch := omega) only [Nat.reduceAdd, Nat.reduceMul, zcI_o, zu_o, zu_n, zu_y, zcI_y, zcJ_o, zcJ_y, zuL_o, zuL_n, zuL_y]
        exact k31
      · simp (disch := omega) only [Nat.reduceAdd, Nat.reduceMul, zcI_o, zu_o, zu_n, zu_y, zcI_y, zcJ_o, zcJ_y, zuL_o, zuL_n, zuL_y]
        exact m3
      · have a : k < 16 := a
        simp (disch := omega) only [Nat.reduceAdd, Nat.reduceMul, zcI_o, zu_o, zu_n, zu_y, zcI_y, zcJ_o, zcJ_y, zuL_o, zuL_n, zuL_y]
    · refine ⟨?_, ?_, ?_, fun k a => ?_⟩
      · simp (disch := omega) only [Nat.reduceAdd, Nat.reduceMul, zcI_o, zu_o, zu_n, zu_y, zcI_y, zcJ_o, zcJ_y, zuL_o, zuL_n, zuL_y]
        exact k40
      · simp (disch := omega) only [Nat.reduceAdd, Nat.reduceMul, zcI_o, zu_o, zu_n, zu_y, zcI_y, zcJ_o, zcJ_y, zuL_o, zuL_n, zuL_y]
        exact k41
      · simp (disch := omega) only [Nat.reduceAdd, Nat.reduceMul, zcI_o, zu_o, zu_n, zu_y, zcI_y, zcJ_o, zcJ_y, zuL_o, zuL_n, zuL_y]
        exact m4
      · have a : k < 20 := a
        simp (disch := omega) only [Nat.reduceAdd, Nat.reduceMul, zcI_o, zu_o, zu_n, zu_y, zcI_y, zcJ_o, zcJ_y, zuL_o, zuL_n, zuL_y]
    · refine ⟨?_, ?_, ?_, fun k a => ?_⟩
      · simp (disch := omega) only [Nat.reduceAdd, Nat.reduceMul, zcI_o, zu_o, zu_n, zu_y, zcI_y, zcJ_o, zcJ_y, zuL_o, zuL_n, zuL_y]
        exact k50
      · simp (disch := omega) only [Nat.reduceAdd, Nat.reduceMul, zcI_o, zu_o, zu_n, zu_y, zcI_y, zcJ_o, zcJ_y, zuL_o, zuL_n, zuL_y]
        exact k51
      · simp (disch := omega) only [Nat.reduceAdd, Nat.reduceMul, zcI_o, zu_o, zu_n, zu_y, zcI_y, zcJ_o, zcJ_y, zuL_o, zuL_n, zuL_y]
        exact m5
      · have a : k < 80 := a
        simp (disch := omega) only [Nat.reduceAdd, Nat.reduceMul, zcI_o, zu_o, zu_n, zu_y, zcI_y, zcJ_o, zcJ_y, zuL_o, zuL_n, zuL_y]
    · refine ⟨?_, ?_, ?_, fun k a => ?_⟩
      · simp (disch := omega) only [Nat.reduceAdd, Nat.reduceMul, zcI_o, zu_o, zu_n, zu_y, zcI_y, zcJ_o, zcJ_y, zuL_o, zuL_n, zuL_y]
        exact k60
      · simp (disch := omega) only [Nat.reduceAdd, Nat.reduceMul, zcI_o, zu_o, zu_n, zu_y, zcI_y, zcJ_o, zcJ_y, zuL_o, zuL_n, zuL_y]
        exact k61
      · simp (disch := omega) only [Nat.reduceAdd, Nat.reduceMul, zcI_o, zu_o, zu_n, zu_y, zcI_y, zcJ_o, zcJ_y, zuL_o, zuL_n, zuL_y]
        exact m6
      · have a : k < 60 := a
        simp (disch := omega) only [Nat.reduceAdd, Nat.reduceMul, zcI_o, zu_o, zu_n, zu_y, zcI_y, zcJ_o, zcJ_y, zuL_o, zuL_n, zuL_y]
    · refine ⟨?_, ?_, ?_, fun k a => ?_⟩
      · simp (disch := omega) only [Nat.reduceAdd, Nat.reduceMul, zcI_o, zu_o, zu_n, zu_y, zcI_y, zcJ_o, zcJ_y, zuL_o, zuL_n, zuL_y]
        exact k70
      · simp (disch := omega) only [Nat.reduceAdd, Nat.reduceMul, zcI_o, zu_o, zu_n, zu_y, zcI_y, zcJ_o, zcJ_y, zuL_o, zuL_n, zuL_y]
        exact k71
      · simp (disch := omega) only [Nat.reduceAdd, Nat.reduceMul, zcI_o, zu_o, zu_n, zu_y, zcI_y, zcJ_o, zcJ_y, zuL_o, zuL_n, zuL_y]
        exact m7
      · have a : k < 24 := a
        simp (disch := omega) only [Nat.reduceAdd, Nat.reduceMul, zcI_o, zu_o, zu_n, zu_y, zcI_y, zcJ_o, zcJ_y, zuL_o, zuL_n, zuL_y]
  · simp (disch := omega) only [Nat.reduceAdd, Nat.reduceMul, zcI_o, zu_o, zu_n, zu_y, zcI_y, zcJ_o, zcJ_y, zuL_o, zuL_n, zuL_y]
  · simp (disch := omega) only [zcI_o, zu_o]
  · simp (disch := omega) only [zcJ_o, zuL_o]
  · obtain rfl | rfl | rfl | rfl | rfl | rfl | rfl | rfl : q = 0 ∨ q = 1 ∨ q = 2 ∨ q = 3 ∨ q = 4 ∨ q = 5 ∨ q = 6 ∨ q = 7 := by omega
    · refine ⟨?_, ?_⟩
      · simp (disch := omega) only [Nat.reduceAdd, Nat.reduceMul, zcI_o, zu_o, zu_n, zu_y, zcI_y, zcJ_o, zcJ_y, zuL_o, zuL_n, zuL_y]
        exact k00
      · simp (disch := omega) only [Nat.reduceAdd, Nat.reduceMul, zcI_o, zu_o, zu_n, zu_y, zcI_y, zcJ_o, zcJ_y, zuL_o, zuL_n, zuL_y]
        exact k01
    · refine ⟨?_, ?_⟩
      · simp (disch := omega) only [Nat.reduceAdd, Nat.reduceMul, zcI_o, zu_o, zu_n, zu_y, zcI_y, zcJ_o, zcJ_y, zuL_o, zuL_n, zuL_y]
        exact k10
      · simp (disch := omega) only [Nat.reduceAdd, Nat.reduceMul, zcI_o, zu_o, zu_n, zu_y, zcI_y, zcJ_o, zcJ_y, zuL_o, zuL_n, zuL_y]
        exact k11
    · refine ⟨?_, ?_⟩
      · simp (disch := omega) only [Nat.reduceAdd, Nat.reduceMul, zcI_o, zu_o, zu_n, zu_y, zcI_y, zcJ_o, zcJ_y, zuL_o, zuL_n, zuL_y]
        exact k20
      · simp (disch := omega) only [Nat.reduceAdd, Nat.reduceMul, zcI_o, zu_o, zu_n, zu_y, zcI_y, zcJ_o, zcJ_y, zuL_o, zuL_n, zuL_y]
        exact k21
    · refine ⟨?_, ?_⟩
      · simp (disch := omega) only [Nat.reduceAdd, Nat.reduceMul, zcI_o, zu_o, zu_n, zu_y, zcI_y, zcJ_o, zcJ_y, zuL_o, zuL_n, zuL_y]
        exact k30
      · simp (disch := omega) only [Nat.reduceAdd, Nat.reduceMul, zcI_o, zu_o, zu_n, zu_y, zcI_y, zcJ_o, zcJ_y, zuL_o, zuL_n, zuL_y]
        exact k31
    · refine ⟨?_, ?_⟩
      · simp (disch := omega) only [Nat.reduceAdd, Nat.reduceMul, zcI_o, zu_o, zu_n, zu_y, zcI_y, zcJ_o, zcJ_y, zuL_o, zuL_n, zuL_y]
        exact k40
      · simp (disch := omega) only [Nat.reduceAdd, Nat.reduceMul, zcI_o, zu_o, zu_n, zu_y, zcI_y, zcJ_o, zcJ_y, zuL_o, zuL_n, zuL_y]
        exact k41
    · refine ⟨?_, ?_⟩
      · simp (disch := omega) only [Nat.reduceAdd, Nat.reduceMul, zcI_o, zu_o, zu_n, zu_y, zcI_y, zcJ_o, zcJ_y, zuL_o, zuL_n, zuL_y]
        exact k50
      · simp (disch := omega) only [Nat.reduceAdd, Nat.reduceMul, zcI_o, zu_o, zu_n, zu_y, zcI_y, zcJ_o, zcJ_y, zuL_o, zuL_n, zuL_y]
        exact k51
    · refine ⟨?_, ?_⟩
      · simp (disch := omega) only [Nat.reduceAdd, Nat.reduceMul, zcI_o, zu_o, zu_n, zu_y, zcI_y, zcJ_o, zcJ_y, zuL_o, zuL_n, zuL_y]
        exact k60
      · simp (disch := omega) only [Nat.reduceAdd, Nat.reduceMul, zcI_o, zu_o, zu_n, zu_y, zcI_y, zcJ_o, zcJ_y, zuL_o, zuL_n, zuL_y]
        exact k61
    · refine ⟨?_, ?_⟩
      · simp (disch := omega) only [Nat.reduceAdd, Nat.reduceMul, zcI_o, zu_o, zu_n, zu_y, zcI_y, zcJ_o, zcJ_y, zuL_o, zuL_n, zuL_y]
        exact k70
      · simp (disch := omega) only [Nat.reduceAdd, Nat.reduceMul, zcI_o, zu_o, zu_n, zu_y, zcI_y, zcJ_o, zcJ_y, zuL_o, zuL_n, zuL_y]
        exact k71
theorem cCp_0_51 (hd : 2 ≤ d) {y : zFd} {c : Nat} (h : cDay 51 I J y) (hw : wDay c y) (hk : ∀ q, q < 8 → I (39 + 2 * q + 0) 0 = zi (zMs q) ∧ I (39 + 2 * q + 0) 1 = zi (zWd q)) : ∃ I' J', zCd zT d 2 [.ref 31, .ref 82] (zm L I J r) = some (none, zm L I' J' r) ∧ cDay 0 I' J' y ∧ (∀ o, ¬ (32 ≤ o ∧ o ≤ 55) → I' o = I o) ∧ (∀ o, o ≠ 32 → o ≠ 36 → o ≠ 38 → J' o = J o) ∧ ∀ q, q < 8 → I' (39 + 2 * q + 0) 0 = zi (zMs q) ∧ I' (39 + 2 * q + 0) 1 = zi (zWd q) := by
  have s := sX0_copyFrom_31_82 (d := d) hd (L := L) (I := I) (J := J) (r := r)
  have k00 : I 39 0 = zi (12 : Nat) := (hk 0 (by decide)).1
  have k01 : I 39 1 = zi (4 : Nat) := (hk 0 (by decide)).2
  have m0 : (if I 90 3 < I 39 0 then I 90 3 else I 39 0) = I 90 3 := yMin3 (h.2.2.1 0 (by decide)).2.2.1 k00 (hw.2.2.1 0 (by decide)).1 (by decide)
  have k10 : I 41 0 = zi (6 : Nat) := (hk 1 (by decide)).1
  have k11 : I 41 1 = zi (1 : Nat) := (hk 1 (by decide)).2
  have m1 : (if I 92 3 < I 41 0 then I 92 3 else I 41 0) = I 92 3 := yMin3 (h.2.2.1 1 (by decide)).2.2.1 k10 (hw.2.2.1 1 (by decide)).1 (by decide)
  have k20 : I 43 0 = zi (10 : Nat) := (hk 2 (by decide)).1
  have k21 : I 43 1 = zi (2 : Nat) := (hk 2 (by decide)).2
  have m2 : (if I 94 3 < I 43 0 then I 94 3 else I 43 0) = I 94 3 := yMin3 (h.2.2.1 2 (by decide)).2.2.1 k20 (hw.2.2.1 2 (by decide)).1 (by decide)
  have k30 : I 45 0 = zi (8 : Nat) := (hk 3 (by decide)).1
  have k31 : I 45 1 = zi (2 : Nat) := (hk 3 (by decide)).2
  have m3 : (if I 96 3 < I 45 0 then I 96 3 else I 45 0) = I 96 3 := yMin3 (h.2.2.1 3 (by decide)).2.2.1 k30 (hw.2.2.1 3 (by decide)).1 (by decide)
  have k40 : I 47 0 = zi (10 : Nat) := (hk 4 (by decide)).1
  have k41 : I 47 1 = zi (2 : Nat) := (hk 4 (by decide)).2
  have m4 : (if I 98 3 < I 47 0 then I 98 3 else I 47 0) = I 98 3 := yMin3 (h.2.2.1 4 (by decide)).2.2.1 k40 (hw.2.2.1 4 (by decide)).1 (by decide)
  have k50 : I 49 0 = zi (20 : Nat) := (hk 5 (by decide)).1
  have k51 : I 49 1 = zi (4 : Nat) := (hk 5 (by decide)).2
  have m5 : (if I 100 3 < I 49 0 then I 100 3 else I 49 0) = I 100 3 := yMin3 (h.2.2.1 5 (by decide)).2.2.1 k50 (hw.2.2.1 5 (by decide)).1 (by decide)
  have k60 : I 51 0 = zi (20 : Nat) := (hk 6 (by decide)).1
  have k61 : I 51 1 = zi (3 : Nat) := (hk 6 (by decide)).2
  have m6 : (if I 102 3 < I 51 0 then I 102 3 else I 51 0) = I 102 3 := yMin3 (h.2.2.1 6 (by decide)).2.2.1 k60 (hw.2.2.1 6 (by decide)).1 (by decide)
  have k70 : I 53 0 = zi (8 : Nat) := (hk 7 (by decide)).1
  have k71 : I 53 1 = zi (3 : Nat) := (hk 7 (by decide)).2
  have m7 : (if I 104 3 < I 53 0 then I 104 3 else I 53 0) = I 104 3 := yMin3 (h.2.2.1 7 (by decide)).2.2.1 k70 (hw.2.2.1 7 (by decide)).1 (by decide)
  refine ⟨_, _, s, cDay_cp (D0 := 51) (D := 0) h hw (fun k a b => ?_) (fun k a => ?_) (fun k a => ?_) (fun k a => ?_) (fun k a => ?_) ?_ ?_ ?_ (fun k a => ?_) (fun q hq => ?_) (fun k a => ?_), fun o ho => ?_, fun o a b c => ?_, fun q hq => ?_⟩
  · obtain rfl | rfl | rfl | rfl | rfl | rfl : k = 5 ∨ k = 6 ∨ k = 7 ∨ k = 8 ∨ k = 9 ∨ k = 10 := by omega
    all_goals simp (disch := omega) only [Nat.reduceAdd, Nat.reduceMul, zcI_o, zu_o, zu_n, zu_y, zcI_y, zcJ_o, zcJ_y, zuL_o, zuL_n, zuL_y]
  · simp (disch := omega) only [Nat.reduceAdd, Nat.reduceMul, zcI_o, zu_o, zu_n, zu_y, zcI_y, zcJ_o, zcJ_y, zuL_o, zuL_n, zuL_y]
  · simp (disch := omega) only [Nat.reduceAdd, Nat.reduceMul, zcI_o, zu_o, zu_n, zu_y, zcI_y, zcJ_o, zcJ_y, zuL_o, zuL_n, zuL_y]
  · simp (disch := omega) only [Nat.reduceAdd, Nat.reduceMul, zcI_o, zu_o, zu_n, zu_y, zcI_y, zcJ_o, zcJ_y, zuL_o, zuL_n, zuL_y]
  · simp (disch := omega) only [Nat.reduceAdd, Nat.reduceMul, zcI_o, zu_o, zu_n, zu_y, zcI_y, zcJ_o, zcJ_y, zuL_o, zuL_n, zuL_y]
  · simp (disch := omega) only [Nat.reduceAdd, Nat.reduceMul, zcI_o, zu_o, zu_n, zu_y, zcI_y, zcJ_o, zcJ_y, zuL_o, zuL_n, zuL_y]
  · simp (disch := omega) only [Nat.reduceAdd, Nat.reduceMul, zcI_o, zu_o, zu_n, zu_y, zcI_y, zcJ_o, zcJ_y, zuL_o, zuL_n, zuL_y]
  · simp (disch := omega) only [Nat.reduceAdd, Nat.reduceMul, zcI_o, zu_o, zu_n, zu_y, zcI_y, zcJ_o, zcJ_y, zuL_o, zuL_n, zuL_y]
  · simp (disch := omega) only [Nat.reduceAdd, Nat.reduceMul, zcI_o, zu_o, zu_n, zu_y, zcI_y, zcJ_o, zcJ_y, zuL_o, zuL_n, zuL_y]
  · obtain rfl | rfl | rfl | rfl | rfl | rfl | rfl | rfl : q = 0 ∨ q = 1 ∨ q = 2 ∨ q = 3 ∨ q = 4 ∨ q = 5 ∨ q = 6 ∨ q = 7 := by omega
    · refine ⟨?_, ?_, ?_, fun k a => ?_⟩
      · simp (disch := omega) only [Nat.reduceAdd, Nat.reduceMul, zcI_o, zu_o, zu_n, zu_y, zcI_y, zcJ_o, zcJ_y, zuL_o, zuL_n, zuL_y]
        exact k00
      · simp (disch := omega) only [Nat.reduceAdd, Nat.reduceMul, zcI_o, zu_o, zu_n, zu_y, zcI_y, zcJ_o, zcJ_y, zuL_o, zuL_n, zuL_y]
        exact k01
      · simp (disch := omega) only [Nat.reduceAdd, Nat.reduceMul, zcI_o, zu_o, zu_n, zu_y, zcI_y, zcJ_o, zcJ_y, zuL_o, zuL_n, zuL_y]
        exact m0
      · have a : k < 48 := a
        simp (disch := omega) only [Nat.reduceAdd, Nat.reduceMul, zcI_o, zu_o, zu_n, zu_y, zcI_y, zcJ_o, zcJ_y, zuL_o, zuL_n, zuL_y]
    · refine ⟨?_, ?_, ?_, fun k a => ?_⟩
      · simp (disch := omega) only [Nat.reduceAdd, Nat.reduceMul, zcI_o, zu_o, zu_n, zu_y, zcI_y, zcJ_o, zcJ_y, zuL_o, zuL_n, zuL_y]
        exact k10
      · simp (disch := omega) only [Nat.reduceAdd, Nat.reduceMul, zcI_o, zu_o, zu_n, zu_y, zcI_y, zcJ_o, zcJ_y, zuL_o, zuL_n, zuL_y]
        exact k11
      · simp (disch := omega) only [Nat.reduceAdd, Nat.reduceMul, zcI_o, zu_o, zu_n, zu_y, zcI_y, zcJ_o, zcJ_y, zuL_o, zuL_n, zuL_y]
        exact m1
      · have a : k < 6 := a
        simp (disch := omega) only [Nat.reduceAdd, Nat.reduceMul, zcI_o, zu_o, zu_n, zu_y, zcI_y, zcJ_o, zcJ_y, zuL_o, zuL_n, zuL_y]
    · refine ⟨?_, ?_, ?_, fun k a => ?_⟩
      · simp (disch := omega) only [Nat.reduceAdd, Nat.reduceMul, zcI_o, zu_o, zu_n, zu_y, zcI_y, zcJ_o, zcJ_y, zuL_o, zuL_n, zuL_y]
        exact k20
      · simp (disch := omega) only [Nat.reduceAdd, Nat.reduceMul, zcI_o, zu_o, zu_n, zu_y, zcI_y, zcJ_o, zcJ_y, zuL_o, zuL_n, zuL_y]
        exact k21
      · simp (disch := omega) only [Nat.reduceAdd, Nat.reduceMul, zcI_o, zu_o, zu_n, zu_y, zcI_y, zcJ_o, zcJ_y, zuL_o, zuL_n, zuL_y]
        exact m2
      · have a : k < 20 := a
        simp (disch := omega) only [Nat.reduceAdd, Nat.reduceMul, zcI_o, zu_o, zu_n, zu_y, zcI_y, zcJ_o, zcJ_y, zuL_o, zuL_n, zuL_y]
    · refine ⟨?_, ?_, ?_, fun k a => ?_⟩
      · simp (disch := omega) only [Nat.reduceAdd, Nat.reduceMul, zcI_o, zu_o, zu_n, zu_y, zcI_y, zcJ_o, zcJ_y, zuL_o, zuL_n, zuL_y]
        exact k30
      · simp (disch := omega) only [Nat.reduceAdd, Nat.reduceMul, zcI_o, zu_o, zu_n, zu_y, zcI_y, zcJ_o, zcJ_y, zuL_o, zuL_n, zuL_y]
        exact k31
      · simp (disch := omega) only [Nat.reduceAdd, Nat.reduceMul, zcI_o, zu_o, zu_n, zu_y, zcI_y, zcJ_o, zcJ_y, zuL_o, zuL_n, zuL_y]
        exact m3
      · have a : k < 16 := a
        simp (disch := omega) only [Nat.reduceAdd, Nat.reduceMul, zcI_o, zu_o, zu_n, zu_y, zcI_y, zcJ_o, zcJ_y, zuL_o, zuL_n, zuL_y]
    · refine ⟨?_, ?_, ?_, fun k a => ?_⟩
      · simp (disch := omega) only [Nat.reduceAdd, Nat.reduceMul, zcI_o, zu_o, zu_n, zu_y, zcI_y, zcJ_o, zcJ_y, zuL_o, zuL_n, zuL_y]
        exact k40
      · simp (disch := omega) only [Nat.reduceAdd, Nat.reduceMul, zcI_o, zu_o, zu_n, zu_y, zcI_y, zcJ_o, zcJ_y, zuL_o, zuL_n, zuL_y]
        exact k41
      · simp (disch := omega) only [Nat.reduceAdd, Nat.reduceMul, zcI_o, zu_o, zu_n, zu_y, zcI_y, zcJ_o, zcJ_y, zuL_o, zuL_n, zuL_y]
        exact m4
      · have a : k < 20 := a
        simp (disch := omega) only [Nat.reduceAdd, Nat.reduceMul, zcI_o, zu_o, zu_n, zu_y, zcI_y, zcJ_o, zcJ_y, zuL_o, zuL_n, zuL_y]
    · refine ⟨?_, ?_, ?_, fun k a => ?_⟩
      · simp (disch := omega) only [Nat.reduceAdd, Nat.reduceMul, zcI_o, zu_o, zu_n, zu_y, zcI_y, zcJ_o, zcJ_y, zuL_o, zuL_n, zuL_y]
        exact k50
      · simp (disch := omega) only [Nat.reduceAdd, Nat.reduceMul, zcI_o, zu_o, zu_n, zu_y, zcI_y, zcJ_o, zcJ_y, zuL_o, zuL_n, zuL_y]
        exact k51
      · simp (disch := omega) only [Nat.reduceAdd, Nat.reduceMul, zcI_o, zu_o, zu_n, zu_y, zcI_y, zcJ_o, zcJ_y, zuL_o, zuL_n, zuL_y]
        exact m5
      · have a : k < 80 := a
        simp (disch := omega) only [Nat.reduceAdd, Nat.reduceMul, zcI_o, zu_o, zu_n, zu_y, zcI_y, zcJ_o, zcJ_y, zuL_o, zuL_n, zuL_y]
    · refine ⟨?_, ?_, ?_, fun k a => ?_⟩
      · simp (disch := omega) only [Nat.reduceAdd, Nat.reduceMul, zcI_o, zu_o, zu_n, zu_y, zcI_y, zcJ_o, zcJ_y, zuL_o, zuL_n, zuL_y]
        exact k60
      · simp (disch := omega) only [Nat.reduceAdd, Nat.reduceMul, zcI_o, zu_o, zu_n, zu_y, zcI_y, zcJ_o, zcJ_y, zuL_o, zuL_n, zuL_y]
        exact k61
      · simp (disch := omega) only [Nat.reduceAdd, Nat.reduceMul, zcI_o, zu_o, zu_n, zu_y, zcI_y, zcJ_o, zcJ_y, zuL_o, zuL_n, zuL_y]
        exact m6
      · have a : k < 60 := a
        simp (disch := omega) only [Nat.reduceAdd, Nat.reduceMul, zcI_o, zu_o, zu_n, zu_y, zcI_y, zcJ_o, zcJ_y, zuL_o, zuL_n, zuL_y]
    · refine ⟨?_, ?_, ?_, fun k a => ?_⟩
      · simp (disch := omega) only [Nat.reduceAdd, Nat.reduceMul, zcI_o, zu_o, zu_n, zu_y, zcI_y, zcJ_o, zcJ_y, zuL_o, zuL_n, zuL_y]
        exact k70
      · simp (disch := omega) only [Nat.reduceAdd, Nat.reduceMul, zcI_o, zu_o, zu_n, zu_y, zcI_y, zcJ_o, zcJ_y, zuL_o, zuL_n, zuL_y]
        exact k71
      · simp (disch := omega) only [Nat.reduceAdd, Nat.reduceMul, zcI_o, zu_o, zu_n, zu_y, zcI_y, zcJ_o, zcJ_y, zuL_o, zuL_n, zuL_y]
        exact m7
      · have a : k < 24 := a
        simp (disch := omega) only [Nat.reduceAdd, Nat.reduceMul, zcI_o, zu_o, zu_n, zu_y, zcI_y, zcJ_o, zcJ_y, zuL_o, zuL_n, zuL_y]
  · simp (disch := omega) only [Nat.reduceAdd, Nat.reduceMul, zcI_o, zu_o, zu_n, zu_y, zcI_y, zcJ_o, zcJ_y, zuL_o, zuL_n, zuL_y]
  · simp (disch := omega) only [zcI_o, zu_o]
  · simp (disch := omega) only [zcJ_o, zuL_o]
  · obtain rfl | rfl | rfl | rfl | rfl | rfl | rfl | rfl : q = 0 ∨ q = 1 ∨ q = 2 ∨ q = 3 ∨ q = 4 ∨ q = 5 ∨ q = 6 ∨ q = 7 := by omega
    · refine ⟨?_, ?_⟩
      · simp (disch := omega) only [Nat.reduceAdd, Nat.reduceMul, zcI_o, zu_o, zu_n, zu_y, zcI_y, zcJ_o, zcJ_y, zuL_o, zuL_n, zuL_y]
        exact k00
      · simp (disch := omega) only [Nat.reduceAdd, Nat.reduceMul, zcI_o, zu_o, zu_n, zu_y, zcI_y, zcJ_o, zcJ_y, zuL_o, zuL_n, zuL_y]
        exact k01
    · refine ⟨?_, ?_⟩
      · simp (disch := omega) only [Nat.reduceAdd, Nat.reduceMul, zcI_o, zu_o, zu_n, zu_y, zcI_y, zcJ_o, zcJ_y, zuL_o, zuL_n, zuL_y]
        exact k10
      · simp (disch := omega) only [Nat.reduceAdd, Nat.reduceMul, zcI_o, zu_o, zu_n, zu_y, zcI_y, zcJ_o, zcJ_y, zuL_o, zuL_n, zuL_y]
        exact k11
    · refine ⟨?_, ?_⟩
      · simp (disch := omega) only [Nat.reduceAdd, Nat.reduceMul, zcI_o, zu_o, zu_n, zu_y, zcI_y, zcJ_o, zcJ_y, zuL_o, zuL_n, zuL_y]
        exact k20
      · simp (disch := omega) only [Nat.reduceAdd, Nat.reduceMul, zcI_o, zu_o, zu_n, zu_y, zcI_y, zcJ_o, zcJ_y, zuL_o, zuL_n, zuL_y]
        exact k21
    · refine ⟨?_, ?_⟩
      · simp (disch := omega) only [Nat.reduceAdd, Nat.reduceMul, zcI_o, zu_o, zu_n, zu_y, zcI_y, zcJ_o, zcJ_y, zuL_o, zuL_n, zuL_y]
        exact k30
      · simp (disch := omega) only [Nat.reduceAdd, Nat.reduceMul, zcI_o, zu_o, zu_n, zu_y, zcI_y, zcJ_o, zcJ_y, zuL_o, zuL_n, zuL_y]
        exact k31
    · refine ⟨?_, ?_⟩
      · simp (disch := omega) only [Nat.reduceAdd, Nat.reduceMul, zcI_o, zu_o, zu_n, zu_y, zcI_y, zcJ_o, zcJ_y, zuL_o, zuL_n, zuL_y]
        exact k40
      · simp (disch := omega) only [Nat.reduceAdd, Nat.reduceMul, zcI_o, zu_o, zu_n, zu_y, zcI_y, zcJ_o, zcJ_y, zuL_o, zuL_n, zuL_y]
        exact k41
    · refine ⟨?_, ?_⟩
      · simp (disch := omega) only [Nat.reduceAdd, Nat.reduceMul, zcI_o, zu_o, zu_n, zu_y, zcI_y, zcJ_o, zcJ_y, zuL_o, zuL_n, zuL_y]
        exact k50
      · simp (disch := omega) only [Nat.reduceAdd, Nat.reduceMul, zcI_o, zu_o, zu_n, zu_y, zcI_y, zcJ_o, zcJ_y, zuL_o, zuL_n, zuL_y]
        exact k51
    · refine ⟨?_, ?_⟩
      · simp (disch := omega) only [Nat.reduceAdd, Nat.reduceMul, zcI_o, zu_o, zu_n, zu_y, zcI_y, zcJ_o, zcJ_y, zuL_o, zuL_n, zuL_y]
        exact k60
      · simp (disch := omega) only [Nat.reduceAdd, Nat.reduceMul, zcI_o, zu_o, zu_n, zu_y, zcI_y, zcJ_o, zcJ_y, zuL_o, zuL_n, zuL_y]
        exact k61
    · refine ⟨?_, ?_⟩
      · simp (disch := omega) only [Nat.reduceAdd, Nat.reduceMul, zcI_o, zu_o, zu_n, zu_y, zcI_y, zcJ_o, zcJ_y, zuL_o, zuL_n, zuL_y]
        exact k70
      · simp (disch := omega) only [Nat.reduceAdd, Nat.reduceMul, zcI_o, zu_o, zu_n, zu_y, zcI_y, zcJ_o, zcJ_y, zuL_o, zuL_n, zuL_y]
        exact k71
end
