/-! whether TICKS FIT; PAIRS -/
def yFT (t : zDy) (l due off : Int) : Bool := decide (¬ zOT t l = -1 ∧ due - off ≤ zOT t l ∧ zOT t l ≤ due + off)
def yAl (P : Nat → Bool) (n : Nat) : Bool := decide (¬ zFs (fun k => !P k) n < n)
theorem cTb_sm {o q : Nat} {I I' : Nat → Nat → Int32} {b : yTb} (ho : 31 ≤ o ∧ o ≤ 114) (hs : zSm I I') (h : cTb o q I b) : cTb o q I' b := cTb_fr (zSm_o hs (by omega)) (zSm_o hs (by omega)) h
theorem mTb_sm {q : Nat} {I I' : Nat → Nat → Int32} {b : yTb} (hs : zSm I I') (h : mTb q (I 131) b) : mTb q (I' 131) b := by
  have e : I' 131 = I 131 := funext fun k => hs 131 k rfl
  rw [e]
  exact h
section
variable {d L r : Nat} {I : Nat → Nat → Int32} {J : Nat → Nat → Int64}
variable {t : zDy}
theorem cGetO (hd : 2 ≤ d) {o q : Nat} (ho : o = 39 + 2 * q) (hq : q < 8) {b : yTb} (h : cTb o q I b) (hb : b.1 ≤ zMs q) {k f : Int} (hk : 0 ≤ k ∧ k < b.1) (hf : 0 ≤ f ∧ f < zWd q) : zCd zT d 68 [.ref o, .int (zi k), .int (zi f)] (zm L I J r) = some (some (.int (zi (b.2 k.toNat f.toNat))), (zm L I J r)) := by
  subst ho
  exact cGet hd hq h hb hk hf
theorem cTF (hd : 8 ≤ d) (h : zTI I J t) (hc : zCa I t) (hn : 0 < t.n) {l due off : Int} (hl : 0 ≤ l ∧ l ≤ 1000000) (h1 : 1 ≤ due ∧ due ≤ 99999) (h2 : 0 ≤ off ∧ off ≤ 99) : ∃ I', zCd zT d 163 [.ref 16, .int (zi l), .int (zi due), .int (zi off)] (zm L I J r) = some (some (.int (zb1 (yFT t l due off))), (zm L I' J r)) ∧ zSm I I' ∧ zCa I' t := by
  obtain ⟨e, rfl⟩ : ∃ e, d = e + 1 := ⟨d - 1, by omega⟩
  obtain ⟨I', c1, c2, c3⟩ := cTio (d := e) (L := L) (r := r) (by omega) h hc hn hl
  have b := zOT_b (t := t) (l := l)
  refine ⟨I', ?_, c2, c3⟩
  rw [qX11_ticksFit, eX11_ticksFit_0, c1, zbI_s, eX11_ticksFit_1, eX11_ticksFit_2, eX11_ticksFit_3, eX11_ticksFit_3]
  unfold yFT
  generalize zOT t l = x at b
  have e1 : zi x = -1 ↔ x = -1 := zi_m1 (by omega)
  have e2 : zi x - zi due = zi (x - due) := zi_sub _ _
  have e3 : (0 : Int32) - zi (x - due) = zi (0 - (x - due)) := zi_sub 0 _
  have e4 : (0 : Int32) ≤ zi (x - due) ↔ 0 ≤ x - due := zi_le (x := 0) (by decide) (by omega)
  rw [e2, e3]
  simp only [e1, e4]
  by_cases q : x = -1
  · rw [if_pos q, decide_eq_false (fun w => w.1 q)]
    rfl
  · rw [if_neg q]
    by_cases q2 : 0 ≤ x - due
    · rw [if_pos q2]
      by_cases q3 : off < x - due
      · rw [if_pos ((zi_lt (by omega) (by omega)).mpr q3), decide_eq_false (by omega)]
        rfl
      · rw [if_neg (fun w => q3 ((zi_lt (by omega) (by omega)).mp w)), decide_eq_true (by omega)]
        rfl
    · rw [if_neg q2]
      by_cases q3 : off < 0 - (x - due)
      · rw [if_pos ((zi_lt (by omega) (by omega)).mpr q3), decide_eq_false (by omega)]
        rfl
      · rw [if_neg (fun w => q3 ((zi_lt (by omega) (by omega)).mp w)), decide_eq_true (by omega)]
        rfl
/-- the model's RUN by a LOSS -/
theorem mRuns (hd : 7 ≤ d) (h : zTI I J t) (hn : 0 < t.n) {l : Int} (hl : 0 ≤ l ∧ l ≤ 1000000) : ∃ I', zCd zT d 276 [.ref 130, .int (zi l)] (zm L I J r) = some (none, (zm L I' J r)) ∧ zTI I' J t ∧ zSm I I' ∧ I' 120 = I 120 ∧ (I' 130 19 = 0 ↔ ¬ zOT t l = -1) ∧ (I' 130 19 = 0 → I' 130 24 = zi (zOT t l)) := by
  obtain ⟨f, rfl⟩ : ∃ f, d = f + 1 := ⟨d - 1, by omega⟩
  have hpu : I 131 80 = zi t.push := h.2.1.2.2.2.2.2.2.2.2.2
  have bpu := h.2.2.1.2.2.2.2.2.2.2.2.2
  obtain ⟨I', c1, c2, c3, c4⟩ := mGo (d := f) (L := L) (r := r) (J := J) (by omega) hl (zTI_m h) hn bpu
  have c1' : zCd zT f 277 [.ref 130, .int 0, .int (zi t.push), .int (zi l)] (zm L I J r) = some (none, (zm L I' J r)) := c1
  have c4' : I' 130 19 = zi (zRu t l 0 t.push).1 := c4
  have e1 : I' 130 19 = 0 ↔ ¬ zOT t l = -1 := by
    rw [c4', zi_e0 zRu_e, (zOT_b (t := t) (l := l)).2.2]
    exact Iff.symm Decidable.not_not
  refine ⟨I', by rw [qX12_runs, eX12_runs_0, hpu, c1', zbV_s, eX12_runs_1], zTI_fr (zSm_m c3) h, zSm_m c3, funext fun k => c3 120 k (by decide) (by decide) (fun q => by cases q.1), e1, fun q => ?_⟩
  rw [c4', zi_e0 zRu_e] at q
  have c2' : mRd t.n I' (zRu t l 0 t.push).2 := c2
  unfold zOT
  rw [if_pos q]
  generalize zRu t l 0 t.push = p at c2'
  obtain ⟨en, fo, at1, pa, ti, tu, tp, td, pul, sl, fs, ft⟩ := p
  exact c2'.1.2.2.1
end
def yPF (t : zDy) (b : yTb) (drag worn : Int) (k : Nat) : Bool := yFT t (10 * (drag + (if worn = b.2 k 0 + 1 then 10 else 0)) / b.2 k 1) (b.2 k 2) (b.2 k 3)
theorem yLs_b {x w : Int} (hx : 0 ≤ x ∧ x ≤ 1000) (hw : 1 ≤ w) : 0 ≤ 10 * x / w ∧ 10 * x / w ≤ 1000000 := ⟨Int.ediv_nonneg (by omega) (by omega), Int.le_trans (Int.ediv_le_self _ (by omega)) (by omega)⟩
section
variable {d L r : Nat} {I : Nat → Nat → Int32} {J : Nat → Nat → Int64}
variable {t : zDy}
theorem cLossBy (hd : 1 ≤ d) {x w : Int} (hx : 0 ≤ x ∧ x ≤ 1000) (hw : 1 ≤ w ∧ w ≤ 20) : zCd zT d 237 [.int (zi x), .int (zi w)] (zm L I J r) = some (some (.int (zi (10 * x / w))), (zm L I J r)) := by
  rw [sX11_lossBy hd, if_pos (show (1 : Int32) ≤ zi w by simp (disch := omega) only [zi_lit, zi_le]; omega), show decide (zi w ≠ 0) = true by
    rw [decide_eq_true_iff]
    simp (disch := omega) only [zi_lit, ne_eq, zi_eq]
    omega, zgd_t]
  have : (10 : Int32) * zi x / zi w = zi (10 * x / w) := by simp (disch := omega) only [zi_lit, zi_mul, zi_div]
  rw [this]
theorem cPairFits (hd : 9 ≤ d) (h : zTI I J t) (hc : zCa I t) (hn : 0 < t.n) {b : yTb} {m c : Nat} (hb : cTb 39 0 I b) (hw : wTb t.n m c 0 b) {drag worn : Int} (h1 : 0 ≤ drag ∧ drag ≤ 50) (h2 : 0 ≤ worn ∧ worn ≤ 4) : ∃ I', zCd zT d 162 [.ref 16, .int (zi drag), .int (zi worn)] (zm L I J r) = some (some (.int (zb1 (yAl (yPF t b drag worn) b.1))), (zm L I' J r)) ∧ (zTI I' J t ∧ zSm I I' ∧ zCa I' t) := by
  obtain ⟨e, rfl⟩ : ∃ e, d = e + 1 := ⟨d - 1, by omega⟩
  have hm : b.1 ≤ 12 := hw.1
  obtain ⟨I1, hp, c1⟩ := zForS (n := b.1) (stop := fun k => !yPF t b drag worn k) (G := fun k I1 => zX 3 (zCd zT e) zc_X11_pairFits 1 [some (.ref 16), some (.int (zi drag)), some (.int (zi worn)), some (.ref 39), some (.int (zi ((k : Nat) : Int))), none, none] [] (zm L I1 J r)) (E := fun k I1 => some (some (.int 0), (zm L I1 J r))) (P := fun I1 => zTI I1 J t ∧ zSm I I1 ∧ zCa I1 t) (fun k I1 hk hP => by
    have hb1 := cTb_sm (by decide) hP.2.1 hb
    have w0 : 0 ≤ b.2 k 0 ∧ b.2 k 0 ≤ 3 := hw.2 k 0 hk (by decide)
    have w1 : 1 ≤ b.2 k 1 ∧ b.2 k 1 ≤ 20 := hw.2 k 1 hk (by decide)
    have w2 : 1 ≤ b.2 k 2 ∧ b.2 k 2 ≤ 99999 := hw.2 k 2 hk (by decide)
    have w3 : 0 ≤ b.2 k 3 ∧ b.2 k 3 ≤ 99 := hw.2 k 3 hk (by decide)
    have g : ∀ f : Nat, f < 4 → zCd zT e 68 [.ref 39, .int (zi (k : Int)), .int (zi (f : Int))] (zm L I1 J r) = _ := fun f hf => cGetO (by omega) (o := 39) (q := 0) rfl (by decide) hb1 hw.1 (by omega) (show 0 ≤ (f : Int) ∧ (f : Int) < 4 by omega)
    have g0 : zCd zT e 68 [.ref 39, .int (zi (k : Int)), .int 0] (zm L I1 J r) = some (some (.int (zi (b.2 k 0))), (zm L I1 J r)) := g 0 (by decide)
    have g1 : zCd zT e 68 [.ref 39, .int (zi (k : Int)), .int 1] (zm L I1 J r) = some (some (.int (zi (b.2 k 1))), (zm L I1 J r)) := g 1 (by decide)
    have g2 : zCd zT e 68 [.ref 39, .int (zi (k : Int)), .int 2] (zm L I1 J r) = some (some (.int (zi (b.2 k 2))), (zm L I1 J r)) := g 2 (by decide)
    have g3 : zCd zT e 68 [.ref 39, .int (zi (k : Int)), .int 3] (zm L I1 J r) = some (some (.int (zi (b.2 k 3))), (zm L I1 J r)) := g 3 (by decide)
    have k0 : zi (b.2 k 0) + (1 : Int32) = zi (b.2 k 0 + 1) := zi_add _ 1
    have k1 : zi drag + (10 : Int32) = zi (drag + 10) := zi_add _ 10
    have k2 : zi ((k : Nat) : Int) + (1 : Int32) = zi ((k + 1 : Nat) : Int) := zi_add _ 1
    have e0 : zi (b.2 k 0 + 1) = zi worn ↔ worn = b.2 k 0 + 1 := (zi_eq (by omega) (by omega)).trans eq_comm
    have hx : 0 ≤ drag + (if worn = b.2 k 0 + 1 then 10 else 0) ∧ drag + (if worn = b.2 k 0 + 1 then 10 else 0) ≤ 1000 := by split <;> omega
    have hL := yLs_b hx w1.1
    obtain ⟨I2, t1, t2, t3⟩ := cTF (d := e) (L := L) (r := r) (by omega) hP.1 hP.2.2 hn hL w2 w3
    refine ⟨I2, ⟨zTI_fr t2 hP.1, zSm_tr hP.2.1 t2, t3⟩, ?_⟩
    have key : zX 3 (zCd zT e) zc_X11_pairFits 3 [some (.ref 16), some (.int (zi drag)), some (.int (zi worn)), some (.ref 39), some (.int (zi ((k : Nat) : Int))), none, none] [.int (zi (b.2 k 0))] (zm L I1 J r) = if (!yPF t b drag worn k) = true then some (some (.int 0), (zm L I2 J r)) else zX 3 (zCd zT e) zc_X11_pairFits 1 [some (.ref 16), some (.int (zi drag)), some (.int (zi worn)), some (.ref 39), some (.int (zi ((k + 1 : Nat) : Int))), none, none] [] (zm L I2 J r) := by
      have tail : ∀ (x : Int) (l5 : Int32), x = drag + (if worn = b.2 k 0 + 1 then 10 else 0) → zX 3 (zCd zT e) zc_X11_pairFits 7 [some (.ref 16), some (.int (zi drag)), some (.int (zi worn)), some (.ref 39), some (.int (zi ((k : Nat) : Int))), some (.int l5), none] [.int (zi x)] (zm L I1 J r) = if (!yPF t b drag worn k) = true then some (some (.int 0), (zm L I2 J r)) else zX 3 (zCd zT e) zc_X11_pairFits 1 [some (.ref 16), some (.int (zi drag)), some (.int (zi worn)), some (.ref 39), some (.int (zi ((k + 1 : Nat) : Int))), none, none] [] (zm L I2 J r) := by
        intro x l5 hxe
        rw [hxe, eX11_pairFits_7, g1, zbI_s, eX11_pairFits_8, cLossBy (by omega) hx w1, zbI_s, eX11_pairFits_9, g2, zbI_s, eX11_pairFits_10, g3, zbI_s, eX11_pairFits_11, t1, zbI_s, eX11_pairFits_12, eX11_pairFits_13, k2]
        unfold yPF
        cases yFT t (10 * (drag + (if worn = b.2 k 0 + 1 then 10 else 0)) / b.2 k 1) (b.2 k 2) (b.2 k 3)
        · rfl
        · rfl
      rw [eX11_pairFits_3, k0]
      simp only [e0]
      by_cases q : worn = b.2 k 0 + 1
      · rw [if_pos q, eX11_pairFits_5, if_neg (by decide), k1]
        exact tail _ 1 (by rw [if_pos q])
      · rw [if_neg q, eX11_pairFits_4, eX11_pairFits_5, if_pos rfl, eX11_pairFits_6]
        exact tail _ 0 (by rw [if_neg q]; omega)
    rw [← key, eX11_pairFits_1, cTSize (by omega) (by decide) hb1, zbI_s, eX11_pairFits_2, if_neg (show ¬ zi (b.1 : Int) ≤ zi ((k : Nat) : Int) by rw [zi_le (by omega) (by omega)]; omega), g0, zbI_s]) I ⟨h, zSm_rf, hc⟩
  have z0 : zX 3 (zCd zT e) zc_X11_pairFits 1 [some (.ref 16), some (.int (zi drag)), some (.int (zi worn)), some (.ref 39), some (.int 0), none, none] [] (zm L I J r) = _ := c1
  refine ⟨I1, ?_, hp⟩
  rw [qX11_pairFits, eX11_pairFits_0, z0]
  unfold yAl
  by_cases q : zFs (fun k => !yPF t b drag worn k) b.1 < b.1
  · rw [if_pos q, decide_eq_false (fun w => w q)]
    rfl
  · rw [if_neg q, decide_eq_true q, eX11_pairFits_1, cTSize (by omega) (by decide) (cTb_sm (by decide) hp.2.1 hb), zbI_s, eX11_pairFits_2, if_pos (Int32.le_refl _), eX11_pairFits_14]
    rfl
end
