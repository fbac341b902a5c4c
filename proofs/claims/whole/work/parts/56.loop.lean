/-! loops -/
theorem zFor {β : Type} {G : Nat → β} {n : Nat} (h : ∀ i, i < n → G i = G (i + 1)) : G 0 = G n := by
  induction n with
  | zero => rfl
  | succ n ih => rw [ih (fun i hi => h i (by omega)), h n (by omega)]
theorem zForM {β M : Type} {G : Nat → M → β} {P : M → Prop} : ∀ {n : Nat}, (∀ i m, i < n → P m → ∃ m', G i m = G (i + 1) m' ∧ P m') → ∀ m, P m → ∃ m', G 0 m = G n m' ∧ P m' := by
  intro n
  induction n with
  | zero => intro _ m hm; exact ⟨m, rfl, hm⟩
  | succ n ih =>
    intro h m hm
    obtain ⟨m1, a, b⟩ := ih (fun i m hi => h i m (by omega)) m hm
    obtain ⟨m2, c, e⟩ := h n m1 (by omega) b
    exact ⟨m2, a.trans c, e⟩
/-- the first place below n that stops, else n -/
def zFsA (stop : Nat → Bool) : Nat → Nat → Nat
  | 0, i => i
  | k + 1, i => if stop i = true then i else zFsA stop k (i + 1)
def zFs (stop : Nat → Bool) (n : Nat) : Nat := zFsA stop n 0
theorem zFsA_c {stop stop' : Nat → Bool} : ∀ (k i : Nat), (∀ j, i ≤ j → j < i + k → stop j = stop' j) → zFsA stop k i = zFsA stop' k i := by
  intro k
  induction k with
  | zero => intro i _; rfl
  | succ k ih =>
    intro i h
    rw [zFsA, zFsA, h i (by omega) (by omega), ih (i + 1) (fun j a b => h j (by omega) (by omega))]
theorem zFs_c {stop stop' : Nat → Bool} {n : Nat} (h : ∀ j, j < n → stop j = stop' j) : zFs stop n = zFs stop' n := zFsA_c n 0 (fun j _ b => h j (by omega))
theorem zFsA_b {stop : Nat → Bool} : ∀ (k i : Nat), i ≤ zFsA stop k i ∧ zFsA stop k i ≤ i + k := by
  intro k
  induction k with
  | zero => intro i; exact ⟨Nat.le_refl i, Nat.le_refl i⟩
  | succ k ih =>
    intro i
    have := ih (i + 1)
    rw [zFsA]
    split <;> omega
theorem zFs_le {stop : Nat → Bool} {n : Nat} : zFs stop n ≤ n := by
  have := (zFsA_b (stop := stop) n 0).2
  unfold zFs
  omega
theorem zFsA_s {stop : Nat → Bool} : ∀ (k i : Nat), zFsA stop k i < i + k → stop (zFsA stop k i) = true := by
  intro k
  induction k with
  | zero => intro i h; exact absurd h (by rw [zFsA]; omega)
  | succ k ih =>
    intro i h
    rw [zFsA] at h ⊢
    by_cases q : stop i = true
    · rw [if_pos q]
      exact q
    · rw [if_neg q] at h ⊢
      exact ih (i + 1) (by omega)
theorem zFs_s {stop : Nat → Bool} {n : Nat} (h : zFs stop n < n) : stop (zFs stop n) = true := zFsA_s n 0 (by unfold zFs at h; omega)
theorem zFsA_n {stop : Nat → Bool} : ∀ (k i j : Nat), i ≤ j → j < zFsA stop k i → stop j = false := by
  intro k
  induction k with
  | zero => intro i j h1 h2; rw [zFsA] at h2; omega
  | succ k ih =>
    intro i j h1 h2
    rw [zFsA] at h2
    by_cases q : stop i = true
    · rw [if_pos q] at h2
      omega
    · rw [if_neg q] at h2
      by_cases e : j = i
      · rw [e]
        exact Bool.eq_false_iff.mpr q
      · exact ih (i + 1) j (by omega) h2
theorem zFs_n {stop : Nat → Bool} {n j : Nat} (h : j < zFs stop n) : stop j = false := zFsA_n n 0 j (Nat.zero_le j) h
theorem zFs_u {stop : Nat → Bool} {n k : Nat} (hk : k ≤ n) (h1 : ∀ j, j < k → stop j = false) (h2 : k < n → stop k = true) : zFs stop n = k := by
  have a := zFs_le (stop := stop) (n := n)
  by_cases q : zFs stop n < k
  · have := zFs_s (stop := stop) (n := n) (by omega)
    rw [h1 _ q] at this
    cases this
  · by_cases q2 : k < zFs stop n
    · have := zFs_n (stop := stop) (n := n) q2
      rw [h2 (by omega)] at this
      cases this
    · omega
/-- a loop that may end early -/
theorem zForE {β M : Type} {G E : Nat → M → β} {P : M → Prop} {stop : Nat → Bool} : ∀ {k i : Nat}, (∀ j m, i ≤ j → j < i + k → P m → ∃ m', P m' ∧ G j m = if stop j = true then E j m' else G (j + 1) m') → ∀ m, P m → ∃ m', P m' ∧ G i m = if zFsA stop k i < i + k then E (zFsA stop k i) m' else G (i + k) m' := by
  intro k
  induction k with
  | zero => intro i _ m hm; exact ⟨m, hm, by rw [if_neg (by rw [zFsA]; omega)]; rfl⟩
  | succ k ih =>
    intro i h m hm
    obtain ⟨m1, a, b⟩ := h i m (Nat.le_refl i) (by omega) hm
    rw [b]
    by_cases q : stop i = true
    · exact ⟨m1, a, by rw [zFsA, if_pos q, if_pos q, if_pos (by omega)]⟩
    · obtain ⟨m2, c, e⟩ := ih (i := i + 1) (fun j m x1 x2 => h j m (by omega) (by omega)) m1 a
      refine ⟨m2, c, ?_⟩
      rw [if_neg q, e, zFsA, if_neg q, show i + 1 + k = i + (k + 1) by omega]
theorem zForS {β M : Type} {G E : Nat → M → β} {P : M → Prop} {stop : Nat → Bool} {n : Nat} (h : ∀ j m, j < n → P m → ∃ m', P m' ∧ G j m = if stop j = true then E j m' else G (j + 1) m') (m : M) (hm : P m) : ∃ m', P m' ∧ G 0 m = if zFs stop n < n then E (zFs stop n) m' else G n m' := by
  have := zForE (G := G) (E := E) (P := P) (stop := stop) (k := n) (i := 0) (fun j m _ x => h j m (by omega)) m hm
  rw [Nat.zero_add] at this
  exact this
theorem zForT {β : Type} {G E : Nat → β} {stop : Nat → Bool} {n : Nat} (h : ∀ j, j < n → G j = if stop j = true then E j else G (j + 1)) : G 0 = if zFs stop n < n then E (zFs stop n) else G n := by
  obtain ⟨_, _, a⟩ := zForS (M := Unit) (G := fun i _ => G i) (E := fun i _ => E i) (P := fun _ => True) (stop := stop) (n := n) (fun j _ hj _ => ⟨(), trivial, h j hj⟩) () trivial
  exact a
/-! TICKS of a RUN, kept -/
section
variable {d L r : Nat} {I : Nat → Nat → Int32} {J : Nat → Nat → Int64}
variable {t : zDy}
theorem zRu_e {l v : Int} {f : Nat} : (zRu t l f v).1 = 0 ∨ (zRu t l f v).1 = 1 ∨ (zRu t l f v).1 = 2 := by
  unfold zRu
  generalize zS0 f v = s
  generalize 300 = k
  induction k generalizing s with
  | zero =>
    show (if t.n ≤ s.2.1 + 1 then (0 : Int) else 1) = 0 ∨ (if t.n ≤ s.2.1 + 1 then (0 : Int) else 1) = 1 ∨ (if t.n ≤ s.2.1 + 1 then (0 : Int) else 1) = 2
    split <;> omega
  | succ k ih =>
    by_cases q : t.n ≤ s.2.1 + 1
    · rw [show zRn t.n t.h t.ch (t.cp fun _ => 0) t.dg l (k + 1) s = (0, s) from if_pos q]
      exact Or.inl rfl
    · by_cases q3 : (zStp t.h t.ch (t.cp fun _ => 0) t.dg l s).1 = 3
      · rw [show zRn t.n t.h t.ch (t.cp fun _ => 0) t.dg l (k + 1) s = zRn t.n t.h t.ch (t.cp fun _ => 0) t.dg l k (zStp t.h t.ch (t.cp fun _ => 0) t.dg l s).2 from (if_neg q).trans (if_pos q3)]
        exact ih _
      · rw [show zRn t.n t.h t.ch (t.cp fun _ => 0) t.dg l (k + 1) s = zStp t.h t.ch (t.cp fun _ => 0) t.dg l s from (if_neg q).trans (if_neg q3)]
        rcases zStp_1 (h := t.h) (ch := t.ch) (cp := t.cp fun _ => 0) (dg := t.dg) (loss := l) (s := s) with w | w | w
        · exact Or.inr (Or.inl w)
        · exact Or.inr (Or.inr w)
        · exact absurd w q3
theorem zi_e0 {x : Int} (h : x = 0 ∨ x = 1 ∨ x = 2) : zi x = 0 ↔ x = 0 := by
  rcases h with rfl | rfl | rfl <;> decide
/-- TICKS grow by 1 to 11 a STEP -/
theorem zRn_t {n : Nat} {h ch : Nat → Int} {cp : Int → Int} {dg : Nat → Bool} {loss : Int} (hcp : ∀ c, 0 ≤ cp c) : ∀ (k : Nat) (s : zS), 0 ≤ s.2.2.2.1 → s.2.2.2.1 ≤ (zRn n h ch cp dg loss k s).2.2.2.2.1 ∧ (zRn n h ch cp dg loss k s).2.2.2.2.1 ≤ s.2.2.2.1 + 11 * k := by
  intro k
  induction k with
  | zero => intro s h0; exact ⟨Int.le_refl _, by show s.2.2.2.1 ≤ s.2.2.2.1 + 11 * ((0 : Nat) : Int); omega⟩
  | succ k ih =>
    intro s h0
    have st : s.2.2.2.1 ≤ (zStp h ch cp dg loss s).2.2.2.2.1 ∧ (zStp h ch cp dg loss s).2.2.2.2.1 ≤ s.2.2.2.1 + 11 := by
      obtain ⟨fo, at1, pa, ti, tu, tp, td, pul, sl, fs, ft⟩ := s
      by_cases q : fo = false ∧ dg at1 = true
      · rw [zStp_a q]
        show ti ≤ ti ∧ ti ≤ ti + 11
        omega
      · by_cases q2 : fo = false ∧ (at1 = 0 ∨ ¬ ch at1 = -1)
        · rw [zStp_b q q2]
          show ti ≤ ti ∧ ti ≤ ti + 11
          omega
        · rw [zStp_c q q2]
          split
          · show ti ≤ ti ∧ ti ≤ ti + 11
            omega
          · rename_i w
            show ti ≤ ti + (1 + 40 / (4 + _)) ∧ ti + (1 + 40 / (4 + _)) ≤ ti + 11
            generalize zNxt h ch cp loss fo at1 pa = x at w
            have e1 : 0 ≤ 40 / (4 + (if 999 < x then 999 else x)) := Int.ediv_nonneg (by omega) (by split <;> omega)
            have e2 : 40 / (4 + (if 999 < x then 999 else x)) ≤ 10 := by
              refine Int.ediv_le_of_le_mul (by split <;> omega) ?_
              split <;> omega
            omega
    by_cases q : n ≤ s.2.1 + 1
    · rw [show zRn n h ch cp dg loss (k + 1) s = (0, s) from if_pos q]
      exact ⟨Int.le_refl _, by show s.2.2.2.1 ≤ s.2.2.2.1 + 11 * ((k + 1 : Nat) : Int); omega⟩
    · by_cases q3 : (zStp h ch cp dg loss s).1 = 3
      · rw [show zRn n h ch cp dg loss (k + 1) s = zRn n h ch cp dg loss k (zStp h ch cp dg loss s).2 from (if_neg q).trans (if_pos q3)]
        have := ih (zStp h ch cp dg loss s).2 (by omega)
        omega
      · rw [show zRn n h ch cp dg loss (k + 1) s = zStp h ch cp dg loss s from (if_neg q).trans (if_neg q3)]
        omega
theorem zOT_b {l : Int} : -1 ≤ zOT t l ∧ zOT t l ≤ 3300 ∧ (zOT t l = -1 ↔ ¬ (zRu t l 0 t.push).1 = 0) := by
  have hcp : ∀ c, 0 ≤ (t.cp fun _ => 0) c := by
    intro c
    unfold zDy.cp
    split <;> omega
  have h := zRn_t (n := t.n) (h := t.h) (ch := t.ch) (dg := t.dg) (loss := l) hcp 300 (zS0 0 t.push) (by show (0 : Int) ≤ 0; decide)
  have e : zTel 1 (zRu t l 0 t.push) = (zRu t l 0 t.push).2.2.2.2.1 := by
    generalize zRu t l 0 t.push = p
    obtain ⟨a, b, c, e, f, g⟩ := p
    rfl
  have h1 : (0 : Int) ≤ (zRu t l 0 t.push).2.2.2.2.1 ∧ (zRu t l 0 t.push).2.2.2.2.1 ≤ 0 + 11 * ((300 : Nat) : Int) := h
  unfold zOT
  rw [e]
  split
  · exact ⟨by omega, by omega, ⟨fun q => by omega, fun q => by omega⟩⟩
  · exact ⟨by omega, by omega, ⟨fun _ => by assumption, fun _ => rfl⟩⟩
theorem cTio (hd : 7 ≤ d) (h : zTI I J t) (hc : zCa I t) (hn : 0 < t.n) {l : Int} (hl : 0 ≤ l ∧ l ≤ 1000000) : ∃ I', zCd zT d 20 [.ref 116, .ref 32, .int (zi l)] (zm L I J r) = some (some (.int (zi (zOT t l))), zm L I' J r) ∧ zSm I I' ∧ zCa I' t := by
  obtain ⟨e, rfl⟩ : ∃ e, d = e + 1 := ⟨d - 1, by omega⟩
  have hpu : I 32 10 = zi t.push := h.1.2.2.2.2.2.2.2.2.2
  have bpu := h.2.2.1.2.2.2.2.2.2.2.2.2
  have e0 : zi l < 0 ↔ l < 0 := zi_lt (y := 0) (by omega) (by decide)
  have e1 : (2481 : Int32) ≤ zi l ↔ 2481 ≤ l := zi_le (x := 2481) (by decide) (by omega)
  have run : ∀ k : Int32, (k = 0 ∨ k = 1 ∧ l < 2481) → ∃ I', zX 0 (zCd zT e) zc_X3_ticksIfOut 3 [some (.ref 116), some (.ref 32), some (.int (zi l)), some (.int k), none] [] (zm L I J r) = some (some (.int (zi (zOT t l))), zm L I' J r) ∧ zSm I I' ∧ zCa I' t := by
    intro k hk
    obtain ⟨I', c1, c2, c3, c4⟩ := cGo (d := e) (L := L) (r := r) (by omega) hl (zTI_c h) hn bpu
    have c1' : zCd zT e 22 [.ref 116, .ref 32, .int (zi l), .int (0 : Int32), .int (zi t.push)] (zm L I J r) = some (none, zm L I' J r) := c1
    have c4' : I' 116 4 = zi (zRu t l 0 t.push).1 := c4
    have e4 := zi_e0 (zRu_e (t := t) (l := l) (v := t.push) (f := 0))
    rw [eX3_ticksIfOut_3, sX9_push (by omega), zbI_s, eX3_ticksIfOut_4, hpu, c1', zbV_s, eX3_ticksIfOut_5, sX3_isOut (by omega), zbI_s, eX3_ticksIfOut_6, c4']
    have ct : zTel 1 (zRu t l 0 t.push) = (zRu t l 0 t.push).2.2.2.2.1 ∧ I' 116 5 = zi (zTel 1 (zRu t l 0 t.push)) := by
      have c2' : zRd (0 = 0) I' (zRu t l 0 t.push).2 := c2
      generalize zRu t l 0 t.push = p at c2'
      obtain ⟨en, fo, at1, pa, ti, tu, tp, td, pul, sl, fs, ft⟩ := p
      exact ⟨rfl, c2'.1.2.2.2.1⟩
    have fin : ∀ v : Int32, v = zi (zOT t l) → ∃ I'', zX 0 (zCd zT e) zc_X3_ticksIfOut 8 [some (.ref 116), some (.ref 32), some (.int (zi l)), some (.int k), none] [.int v] (zm L I' J r) = some (some (.int (zi (zOT t l))), zm L I'' J r) ∧ zSm I I'' ∧ zCa I'' t := by
      intro v hv
      rw [eX3_ticksIfOut_8]
      rcases hk with rfl | ⟨rfl, hk⟩
      · rw [if_pos rfl, eX3_ticksIfOut_9, hv]
        exact ⟨I', rfl, zSm_3 c3, zCa_3 c3 hc⟩
      · rw [if_neg (by decide), zin_t (by omega) (by omega), zgd_t, zi_cl (by omega), eX3_ticksIfOut_9, hv]
        refine ⟨_, rfl, fun o j hp => ?_, fun j hj => ?_⟩
        · rw [zu_ap, if_neg (fun q => by rw [q.1] at hp; cases hp)]
          exact zSm_3 c3 o j hp
        · by_cases q : j = l.toNat
          · right
            rw [zu_ap, if_pos ⟨rfl, q⟩, q, Int.toNat_of_nonneg hl.1]
          · rw [zu_ap, if_neg (fun w => q w.2)]
            exact zCa_3 c3 hc j hj
    by_cases q : (zRu t l 0 t.push).1 = 0
    · rw [if_pos (e4.mpr q), if_neg (by decide)]
      refine fin _ ?_
      rw [ct.2]
      unfold zOT
      rw [if_pos q]
    · rw [if_neg (fun w => q (e4.mp w)), if_pos rfl, eX3_ticksIfOut_7]
      refine fin _ ?_
      unfold zOT
      rw [if_neg q]
      rfl
  rw [qX3_ticksIfOut, eX3_ticksIfOut_0, if_neg (show ¬ zi l < 0 by rw [e0]; omega)]
  by_cases q : 2481 ≤ l
  · rw [if_pos (e1.mpr q), eX3_ticksIfOut_1, eX3_ticksIfOut_2, if_pos rfl]
    exact run 0 (Or.inl rfl)
  · rw [if_neg (fun w => q (e1.mp w)), eX3_ticksIfOut_2, if_neg (by decide), zin_t (by omega) (by omega), zgd_t, zgd_t, zi_cl (by omega)]
    have hc1 := hc l.toNat (by omega)
    rw [Int.toNat_of_nonneg hl.1] at hc1
    have b := zOT_b (t := t) (l := l)
    by_cases q2 : I 120 l.toNat = -2
    · rw [if_pos q2]
      exact run 1 (Or.inr ⟨rfl, by omega⟩)
    · rw [if_neg q2, hc1.resolve_left q2]
      exact ⟨I, rfl, zSm_rf, hc⟩
theorem cIsOut (hd : 8 ≤ d) (h : zTI I J t) (hc : zCa I t) (hn : 0 < t.n) {w wi co : Int} (h1 : 1 ≤ w ∧ w ≤ 20) (h2 : 0 ≤ wi ∧ wi ≤ 99) (h3 : 0 ≤ co ∧ co ≤ 99) : ∃ I', zCd zT d 239 [.ref 16, .int (zi w), .int (zi wi), .int (zi co)] (zm L I J r) = some (some (.int (zb1 (decide ((zRu t (zLss t w wi co) 0 t.push).1 = 0)))), zm L I' J r) ∧ zSm I I' ∧ zCa I' t := by
  obtain ⟨e, rfl⟩ : ∃ e, d = e + 1 := ⟨d - 1, by omega⟩
  have hw := h.2.2.1
  have hl := zLss_b hw h1.1 h2 h3
  have hdr : I 32 9 = zi t.drag := h.1.2.2.2.2.2.2.2.2.1
  have bdr := hw.2.2.2.2.2.2.2.2.1
  have hL : (((10 : Int32) * zi t.drag + (2 : Int32) * zi wi) + zi co) / zi w = zi (zLss t w wi co) := by
    unfold zLss
    simp (disch := omega) only [zi_lit, zi_mul, zi_add, zi_div]
  obtain ⟨I', c1, c2, c3⟩ := cTio (d := e) (L := L) (r := r) (by omega) h hc hn hl
  have b := zOT_b (t := t) (l := zLss t w wi co)
  rw [qX11_isOut, eX11_isOut_0, sX11_lossIn (by omega), hdr, if_pos (show (1 : Int32) ≤ zi w by simp (disch := omega) only [zi_lit, zi_le]; omega), show decide (zi w ≠ 0) = true by
    rw [decide_eq_true_iff]
    simp (disch := omega) only [zi_lit, ne_eq, zi_eq]
    omega, zgd_t, zbI_s, eX11_isOut_1, hL, c1, zbI_s, eX11_isOut_2]
  refine ⟨I', ?_, c2, c3⟩
  have e1 : zi (zOT t (zLss t w wi co)) = -1 ↔ zOT t (zLss t w wi co) = -1 := by
    rw [show (-1 : Int32) = zi (-1) from rfl]
    exact zi_eq (by omega) (by omega)
  by_cases q : (zRu t (zLss t w wi co) 0 t.push).1 = 0
  · rw [decide_eq_true q, if_neg (fun w => (b.2.2.mp (e1.mp w)) q), eX11_isOut_4]
    rfl
  · rw [decide_eq_false q, if_pos (e1.mpr (b.2.2.mpr q)), eX11_isOut_3, eX11_isOut_4]
    rfl
end
