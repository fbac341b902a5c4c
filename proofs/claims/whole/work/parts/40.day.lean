/-! a day, pure; how the class holds it (from object 31 + D) and how the model does (from place O of all) -/
abbrev zDy : Type := Nat × (Nat → Int) × Nat × (Nat → Int) × Nat × (Nat → Int) × (Nat → Int) × (Nat → Int) × Nat × (Nat → Int) × (Nat → Int) × Int × Int
def zDy.n (t : zDy) : Nat := t.1
def zDy.h (t : zDy) : Nat → Int := t.2.1
def zDy.m (t : zDy) : Nat := t.2.2.1
def zDy.sp (t : zDy) : Nat → Int := t.2.2.2.1
def zDy.nc (t : zDy) : Nat := t.2.2.2.2.1
def zDy.cf (t : zDy) : Nat → Int := t.2.2.2.2.2.1
def zDy.ct (t : zDy) : Nat → Int := t.2.2.2.2.2.2.1
def zDy.cv (t : zDy) : Nat → Int := t.2.2.2.2.2.2.2.1
def zDy.nd (t : zDy) : Nat := t.2.2.2.2.2.2.2.2.1
def zDy.df (t : zDy) : Nat → Int := t.2.2.2.2.2.2.2.2.2.1
def zDy.dt (t : zDy) : Nat → Int := t.2.2.2.2.2.2.2.2.2.2.1
def zDy.drag (t : zDy) : Int := t.2.2.2.2.2.2.2.2.2.2.2.1
def zDy.push (t : zDy) : Int := t.2.2.2.2.2.2.2.2.2.2.2.2
def zDy.ch (t : zDy) (p : Nat) : Int := if 0 < t.nc ∧ t.cf 0 ≤ p ∧ (p : Int) < t.ct 0 then 0 else if 1 < t.nc ∧ t.cf 1 ≤ p ∧ (p : Int) < t.ct 1 then 1 else -1
def zDy.dg (t : zDy) (p : Nat) : Bool := decide ((0 < t.nd ∧ t.df 0 < p ∧ (p : Int) ≤ t.dt 0) ∨ (1 < t.nd ∧ t.df 1 < p ∧ (p : Int) ≤ t.dt 1))
def zDy.cp (t : zDy) (sl : Int → Int) (c : Int) : Int := if 0 < t.cv c.toNat - sl c then t.cv c.toNat - sl c else 0
def wTr (t : zDy) : Prop :=
  (t.n = 0 ∨ 2 ≤ t.n ∧ t.n ≤ 60) ∧ (∀ p, p < t.n → 0 ≤ t.h p ∧ t.h p ≤ 99) ∧ t.m ≤ 5 ∧ (∀ i, i < t.m → 1 ≤ t.sp i ∧ t.sp i < t.n ∧ (0 < i → t.sp (i - 1) < t.sp i)) ∧ t.nc ≤ 2 ∧ (∀ c, c < t.nc → 0 ≤ t.cf c ∧ t.cf c < t.ct c ∧ t.ct c < t.n ∧ 0 ≤ t.cv c ∧ t.cv c ≤ 999) ∧ t.nd ≤ 2 ∧ (∀ c, c < t.nd → 0 ≤ t.df c ∧ t.df c < t.dt c ∧ t.dt c < t.n) ∧ (0 ≤ t.drag ∧ t.drag ≤ 50) ∧ 0 ≤ t.push ∧ t.push ≤ 999
def cTr (D : Nat) (I : Nat → Nat → Int32) (J : Nat → Nat → Int64) (t : zDy) : Prop :=
  I (32 + D) 5 = zi t.n ∧ (∀ p, p < t.n → I (33 + D) p = zi (t.h p)) ∧ I (32 + D) 6 = zi t.m ∧ (∀ i, i < t.m → I (34 + D) i = zi (t.sp i)) ∧ I (32 + D) 7 = zi t.nc ∧ (∀ c, c < t.nc → I (35 + D) c = zi (t.cv c) ∧ ∀ p : Nat, p < 60 → (¬ lg_cmp (zul (J (36 + D) c) (zi p) &&& 1) 0 = 0 ↔ t.cf c ≤ p ∧ (p : Int) < t.ct c)) ∧ I (32 + D) 8 = zi t.nd ∧ (∀ p : Nat, p < 60 → (¬ lg_cmp (zul (J (32 + D) 4) (zi p) &&& 1) 0 = 0 ↔ t.dg p = true)) ∧ I (32 + D) 9 = zi t.drag ∧ I (32 + D) 10 = zi t.push
def mTr (O : Nat) (I : Nat → Nat → Int32) (t : zDy) : Prop :=
  I 131 O = zi t.n ∧ (∀ p, p < t.n → I 131 (O + (1 + p)) = zi (t.h p)) ∧ I 131 (O + 61) = zi t.m ∧ (∀ i, i < t.m → I 131 (O + (62 + i)) = zi (t.sp i)) ∧ I 131 (O + 67) = zi t.nc ∧ (∀ c, c < t.nc → I 131 (O + (68 + c)) = zi (t.cf c) ∧ I 131 (O + (70 + c)) = zi (t.ct c) ∧ I 131 (O + (72 + c)) = zi (t.cv c)) ∧ I 131 (O + 74) = zi t.nd ∧ (∀ c, c < t.nd → I 131 (O + (75 + c)) = zi (t.df c) ∧ I 131 (O + (77 + c)) = zi (t.dt c)) ∧ I 131 (O + 79) = zi t.drag ∧ I 131 (O + 80) = zi t.push
theorem zDy.ch_c {t : zDy} {p c : Nat} (hc : c < 2) (hx : t.ch p = c) : c < t.nc := by
  unfold zDy.ch at hx
  split at hx
  · omega
  · split at hx <;> omega
theorem zTk_of {I : Nat → Nat → Int32} {J : Nat → Nat → Int64} {t : zDy} {sl : Int → Int} (hc : cTr 0 I J t) (hw : wTr t) (hs : ∀ c : Nat, c < 2 → I 119 c = zi (sl c) ∧ 0 ≤ sl c ∧ sl c ≤ 1000000) : zTk I J t.n t.h t.ch (t.cp sl) t.dg := by
  obtain ⟨c1, c2, c3, c4, c5, c6, c7, c8, c9, c10⟩ := hc
  obtain ⟨w1, w2, w3, w4, w5, w6, w7, w8, w9, w10⟩ := hw
  refine ⟨by omega, c1, fun p hp => ⟨c2 p hp, w2 p hp⟩, ?_, ?_, ?_⟩
  · intro p hp
    have e7 : I 32 7 = zi t.nc := c5
    have g0 : (0 : Int32) < I 32 7 ↔ 0 < t.nc := by
      rw [e7]
      simp (disch := omega) only [zi_lit, zi_lt]
      omega
    have g1 : (1 : Int32) < I 32 7 ↔ 1 < t.nc := by
      rw [e7]
      simp (disch := omega) only [zi_lit, zi_lt]
      omega
    have k0 : ((0 : Int32) < I 32 7 ∧ ¬ lg_cmp (zul (J 36 0) (zi p) &&& 1) 0 = 0) ↔ (0 < t.nc ∧ t.cf 0 ≤ p ∧ (p : Int) < t.ct 0) := by
      rw [g0]
      constructor
      · intro q
        exact ⟨q.1, ((c6 0 q.1).2 p (by omega)).mp q.2⟩
      · intro q
        exact ⟨q.1, ((c6 0 q.1).2 p (by omega)).mpr q.2⟩
    have k1 : ((1 : Int32) < I 32 7 ∧ ¬ lg_cmp (zul (J 36 1) (zi p) &&& 1) 0 = 0) ↔ (1 < t.nc ∧ t.cf 1 ≤ p ∧ (p : Int) < t.ct 1) := by
      rw [g1]
      constructor
      · intro q
        exact ⟨q.1, ((c6 1 q.1).2 p (by omega)).mp q.2⟩
      · intro q
        exact ⟨q.1, ((c6 1 q.1).2 p (by omega)).mpr q.2⟩
    unfold zDy.ch
    simp only [k0, k1]
  · intro c hc2 ⟨p, hp, hx⟩
    have hcn := zDy.ch_c hc2 hx
    have e := (c6 c hcn).1
    obtain ⟨s1, s2, s3⟩ := hs c hc2
    have b := w6 c hcn
    have e35 : I 35 c = zi (t.cv c) := e
    unfold zDy.cp
    rw [e35, s1, zi_sub, Int.toNat_natCast]
    simp (disch := omega) only [zi_lit, zi_lt]
    refine ⟨by split <;> rfl, by split <;> omega, by split <;> omega⟩
  · intro p hp
    exact (c8 p (by omega)).symm
theorem mTk_of {I : Nat → Nat → Int32} {t : zDy} {sl : Int → Int} (hm : mTr 0 I t) (hw : wTr t) (hs : ∀ c : Nat, c < 2 → 0 ≤ sl c ∧ sl c ≤ 1000000 ∧ (if I 130 25 = 0 then sl c = 0 else I 131 (881 + c) / 1000 = zi (sl c))) : mTk I t.n t.h t.ch (t.cp sl) t.dg := by
  obtain ⟨m1, m2, m3, m4, m5, m6, m7, m8, m9, m10⟩ := hm
  obtain ⟨w1, w2, w3, w4, w5, w6, w7, w8, w9, w10⟩ := hw
  have e67 : I 131 67 = zi t.nc := m5
  have e74 : I 131 74 = zi t.nd := m7
  have hm2 : ∀ p, p < t.n → I 131 (1 + p) = zi (t.h p) := fun p hp => by
    have := m2 p hp
    rwa [Nat.zero_add] at this
  refine ⟨by omega, m1, fun p hp => ⟨hm2 p hp, w2 p hp⟩, ⟨?_, ?_⟩, ?_, ?_, ?_⟩
  · rw [e67]
    simp (disch := omega) only [zi_lit, zi_le]
    omega
  · intro p hp
    have g0 : (0 : Int32) < I 131 67 ↔ 0 < t.nc := by
      rw [e67]
      simp (disch := omega) only [zi_lit, zi_lt]
      omega
    have g1 : (1 : Int32) < I 131 67 ↔ 1 < t.nc := by
      rw [e67]
      simp (disch := omega) only [zi_lit, zi_lt]
      omega
    have k : ∀ c : Nat, c < t.nc → ∀ x y : Int32, I 131 (0 + (68 + c)) = x → I 131 (0 + (70 + c)) = y → ((¬ zi p < x ∧ ¬ y ≤ zi p) ↔ (t.cf c ≤ p ∧ (p : Int) < t.ct c)) := by
      intro c hc x y hx hy
      have b := w6 c hc
      rw [← hx, ← hy, (m6 c hc).1, (m6 c hc).2.1]
      simp (disch := omega) only [zi_lt, zi_le]
      omega
    have k0 : ((0 : Int32) < I 131 67 ∧ ¬ zi p < I 131 68 ∧ ¬ I 131 70 ≤ zi p) ↔ (0 < t.nc ∧ t.cf 0 ≤ p ∧ (p : Int) < t.ct 0) := by
      rw [g0]
      exact ⟨fun q => ⟨q.1, (k 0 q.1 _ _ rfl rfl).mp q.2⟩, fun q => ⟨q.1, (k 0 q.1 _ _ rfl rfl).mpr q.2⟩⟩
    have k1 : ((1 : Int32) < I 131 67 ∧ ¬ zi p < I 131 69 ∧ ¬ I 131 71 ≤ zi p) ↔ (1 < t.nc ∧ t.cf 1 ≤ p ∧ (p : Int) < t.ct 1) := by
      rw [g1]
      exact ⟨fun q => ⟨q.1, (k 1 q.1 _ _ rfl rfl).mp q.2⟩, fun q => ⟨q.1, (k 1 q.1 _ _ rfl rfl).mpr q.2⟩⟩
    unfold zDy.ch
    simp only [k0, k1]
  · intro c hc2 ⟨p, hp, hx⟩
    have hcn := zDy.ch_c hc2 hx
    have b := w6 c hcn
    obtain ⟨s1, s2, s3⟩ := hs c hc2
    have e72 : I 131 (72 + c) = zi (t.cv c) := by
      have := (m6 c hcn).2.2
      rwa [Nat.zero_add] at this
    have hv : (if I 130 25 = 0 then I 131 (72 + c) else I 131 (72 + c) - I 131 (881 + c) / 1000) = zi (t.cv c - sl c) := by
      by_cases q : I 130 25 = 0
      · rw [if_pos q] at s3
        rw [if_pos q, s3, e72, Int.sub_zero]
      · rw [if_neg q] at s3
        rw [if_neg q, s3, e72, zi_sub]
    rw [hv]
    unfold zDy.cp
    rw [Int.toNat_natCast]
    simp (disch := omega) only [zi_lit, zi_le]
    by_cases q : 0 < t.cv c - sl c
    · rw [if_pos (by omega), if_pos q]
      exact ⟨rfl, by omega, by omega⟩
    · rw [if_neg q]
      refine ⟨?_, by omega, by omega⟩
      split
      · rw [show t.cv c - sl c = 0 by omega]
      · rfl
  · rw [e74]
    simp (disch := omega) only [zi_lit, zi_le]
    omega
  · intro p hp
    have g0 : (0 : Int32) < I 131 74 ↔ 0 < t.nd := by
      rw [e74]
      simp (disch := omega) only [zi_lit, zi_lt]
      omega
    have g1 : (1 : Int32) < I 131 74 ↔ 1 < t.nd := by
      rw [e74]
      simp (disch := omega) only [zi_lit, zi_lt]
      omega
    have k : ∀ c : Nat, c < t.nd → ∀ x y : Int32, I 131 (0 + (75 + c)) = x → I 131 (0 + (77 + c)) = y → ((¬ zi p ≤ x ∧ ¬ y < zi p) ↔ (t.df c < p ∧ (p : Int) ≤ t.dt c)) := by
      intro c hc x y hx hy
      have b := w8 c hc
      rw [← hx, ← hy, (m8 c hc).1, (m8 c hc).2]
      simp (disch := omega) only [zi_lt, zi_le]
      omega
    have k0 : ((0 : Int32) < I 131 74 ∧ ¬ zi p ≤ I 131 75 ∧ ¬ I 131 77 < zi p) ↔ (0 < t.nd ∧ t.df 0 < p ∧ (p : Int) ≤ t.dt 0) := by
      rw [g0]
      exact ⟨fun q => ⟨q.1, (k 0 q.1 _ _ rfl rfl).mp q.2⟩, fun q => ⟨q.1, (k 0 q.1 _ _ rfl rfl).mpr q.2⟩⟩
    have k1 : ((1 : Int32) < I 131 74 ∧ ¬ zi p ≤ I 131 76 ∧ ¬ I 131 78 < zi p) ↔ (1 < t.nd ∧ t.df 1 < p ∧ (p : Int) ≤ t.dt 1) := by
      rw [g1]
      exact ⟨fun q => ⟨q.1, (k 1 q.1 _ _ rfl rfl).mp q.2⟩, fun q => ⟨q.1, (k 1 q.1 _ _ rfl rfl).mpr q.2⟩⟩
    unfold zDy.dg
    rw [decide_eq_true_iff, k0, k1]
