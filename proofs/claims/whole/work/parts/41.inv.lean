/-! what stays between two questions, as far as the TRACK goes -/
def zPs (o k : Nat) : Bool := (decide (31 ≤ o) && decide (o ≤ 115)) || o == 131 || o == 119 || o == 18 || o == 133 || o == 134 || o == 145 || o == 146 || o == 147 || (o == 17 && (k == 4 || k == 11 || k == 12)) || (o == 130 && (k == 5 || k == 15 || k == 16 || k == 25))
/-- what stays is the same -/
def zSm (I I' : Nat → Nat → Int32) : Prop := ∀ o k, zPs o k = true → I' o k = I o k
theorem zSm_rf {I : Nat → Nat → Int32} : zSm I I := fun _ _ _ => rfl
theorem zSm_tr {I I1 I2 : Nat → Nat → Int32} (h : zSm I I1) (g : zSm I1 I2) : zSm I I2 := fun o k a => (g o k a).trans (h o k a)
theorem zSm_3 {I I' : Nat → Nat → Int32} (h : zFr3 I I') : zSm I I' := by
  intro o k hp
  have h1 : o ≠ 116 := fun q => by rw [q] at hp; cases hp
  have h2 : o ≠ 117 := fun q => by rw [q] at hp; cases hp
  have h3 : o ≠ 118 := fun q => by rw [q] at hp; cases hp
  rw [h o h1 h2 h3]
theorem zSm_m {I I' : Nat → Nat → Int32} (h : mFr I I') : zSm I I' := by
  intro o k hp
  have h1 : o ≠ 135 := fun q => by rw [q] at hp; cases hp
  have h2 : o ≠ 136 := fun q => by rw [q] at hp; cases hp
  refine h o k h1 h2 (fun q => ?_)
  obtain ⟨q1, q2, q3⟩ := q
  rw [q1] at hp
  have hk : k = 19 ∨ k = 20 ∨ k = 21 ∨ k = 22 ∨ k = 23 ∨ k = 24 := by omega
  rcases hk with q | q | q | q | q | q <;> (rw [q] at hp; cases hp)
def zTI (I : Nat → Nat → Int32) (J : Nat → Nat → Int64) (t : zDy) : Prop := cTr 0 I J t ∧ mTr 0 I t ∧ wTr t ∧ (∀ c : Nat, c < 2 → I 119 c = 0) ∧ I 130 25 = 0
theorem zTI_fr {I I' : Nat → Nat → Int32} {J : Nat → Nat → Int64} {t : zDy} (hs : zSm I I') (h : zTI I J t) : zTI I' J t := by
  have e32 : ∀ k, I' (32 + 0) k = I (32 + 0) k := fun k => hs _ k rfl
  have e33 : ∀ k, I' (33 + 0) k = I (33 + 0) k := fun k => hs _ k rfl
  have e34 : ∀ k, I' (34 + 0) k = I (34 + 0) k := fun k => hs _ k rfl
  have e35 : ∀ k, I' (35 + 0) k = I (35 + 0) k := fun k => hs _ k rfl
  have e131 : ∀ k, I' 131 k = I 131 k := fun k => hs _ k rfl
  have e119 : ∀ k, I' 119 k = I 119 k := fun k => hs _ k rfl
  have e130 : I' 130 25 = I 130 25 := hs _ _ rfl
  unfold zTI cTr mTr at *
  simp only [e32, e33, e34, e35, e131, e119, e130]
  exact h
def zLss (t : zDy) (w wi co : Int) : Int := (10 * t.drag + 2 * wi + co) / w
/-- a RUN from a POINT -/
def zRu (t : zDy) (loss : Int) (from1 : Nat) (v : Int) : Int × zS := zRn t.n t.h t.ch (t.cp fun _ => 0) t.dg loss 300 (zS0 from1 v)
theorem zLss_b {t : zDy} (hw : wTr t) {w wi co : Int} (h1 : 1 ≤ w) (h2 : 0 ≤ wi ∧ wi ≤ 99) (h3 : 0 ≤ co ∧ co ≤ 99) : 0 ≤ zLss t w wi co ∧ zLss t w wi co ≤ 1000000 := by
  obtain ⟨w1, w2, w3, w4, w5, w6, w7, w8, w9, w10⟩ := hw
  unfold zLss
  constructor
  · exact Int.ediv_nonneg (by omega) (by omega)
  · exact Int.le_trans (Int.ediv_le_self _ (by omega)) (by omega)
section
variable {d L r : Nat} {I : Nat → Nat → Int32} {J : Nat → Nat → Int64} {t : zDy}
theorem zTI_c (h : zTI I J t) : zTk I J t.n t.h t.ch (t.cp fun _ => 0) t.dg := zTk_of h.1 h.2.2.1 (fun c hc => ⟨h.2.2.2.1 c hc, by decide, by decide⟩)
theorem zTI_m (h : zTI I J t) : mTk I t.n t.h t.ch (t.cp fun _ => 0) t.dg := mTk_of h.2.1 h.2.2.1 (fun c hc => ⟨by decide, by decide, by rw [if_pos h.2.2.2.2]⟩)
theorem cPass (hd : 7 ≤ d) (h : zTI I J t) (hn : 0 < t.n) {w wi co : Int} (h1 : 1 ≤ w ∧ w ≤ 20) (h2 : 0 ≤ wi ∧ wi ≤ 99) (h3 : 0 ≤ co ∧ co ≤ 99) :
    ∃ I', zCd zT d 238 [.ref 16, .int (zi w), .int (zi wi), .int (zi co)] (zm L I J r) = some (none, zm L I' J r) ∧ zRd (0 = 0) I' (zRu t (zLss t w wi co) 0 t.push).2 ∧ zFr3 I I' ∧ I' 116 4 = zi (zRu t (zLss t w wi co) 0 t.push).1 := by
  obtain ⟨e, rfl⟩ : ∃ e, d = e + 1 := ⟨d - 1, by omega⟩
  have hw := h.2.2.1
  have hl := zLss_b hw h1.1 h2 h3
  have ht := zTI_c h
  have hdr : I 32 9 = zi t.drag := h.1.2.2.2.2.2.2.2.2.1
  have hpu : I 32 10 = zi t.push := h.1.2.2.2.2.2.2.2.2.2
  have bdr := hw.2.2.2.2.2.2.2.2.1
  have bpu := hw.2.2.2.2.2.2.2.2.2
  rw [qX11_passBy, eX11_passBy_0, sX11_lossIn (by omega), hdr, if_pos (show (1 : Int32) ≤ zi w by simp (disch := omega) only [zi_lit, zi_le]; omega), show decide (zi w ≠ 0) = true by
    rw [decide_eq_true_iff]
    simp (disch := omega) only [zi_lit, ne_eq, zi_eq]
    omega, zgd_t, zbI_s, eX11_passBy_1, sX9_push (by omega), zbI_s, eX11_passBy_2, hpu]
  have hL : (((10 : Int32) * zi t.drag + (2 : Int32) * zi wi) + zi co) / zi w = zi (zLss t w wi co) := by
    unfold zLss
    simp (disch := omega) only [zi_lit, zi_mul, zi_add, zi_div]
  rw [hL]
  obtain ⟨I', c1, c2, c3, c4⟩ := cGo (d := e) (L := L) (r := r) (by omega) hl ht hn bpu
  have c1' : zCd zT e 22 [.ref 116, .ref 32, .int (zi (zLss t w wi co)), .int 0, .int (zi t.push)] (zm L I J r) = some (none, zm L I' J r) := c1
  rw [c1', zbV_s, eX11_passBy_3]
  exact ⟨I', rfl, c2, c3, c4⟩
theorem mPass (hd : 8 ≤ d) (h : zTI I J t) (hn : 0 < t.n) {w wi co : Int} (h1 : 1 ≤ w ∧ w ≤ 20) (h2 : 0 ≤ wi ∧ wi ≤ 99) (h3 : 0 ≤ co ∧ co ≤ 99) :
    ∃ I', zCd zT d 279 [.ref 130, .int (zi w), .int (zi wi), .int (zi co)] (zm L I J r) = some (none, zm L I' J r) ∧ mRd t.n I' (zRu t (zLss t w wi co) 0 t.push).2 ∧ mFr I I' ∧ I' 130 19 = zi (zRu t (zLss t w wi co) 0 t.push).1 := by
  obtain ⟨e, rfl⟩ : ∃ e, d = e + 1 := ⟨d - 1, by omega⟩
  obtain ⟨f, rfl⟩ : ∃ f, e = f + 1 := ⟨e - 1, by omega⟩
  have hw := h.2.2.1
  have hl := zLss_b hw h1.1 h2 h3
  have ht := zTI_m h
  have hdr : I 131 79 = zi t.drag := h.2.1.2.2.2.2.2.2.2.2.1
  have hpu : I 131 80 = zi t.push := h.2.1.2.2.2.2.2.2.2.2.2
  have bdr := hw.2.2.2.2.2.2.2.2.1
  have bpu := hw.2.2.2.2.2.2.2.2.2
  rw [qX12_runsBy, eX12_runsBy_0, hdr, sX12_lossOf (by omega), show decide (zi w ≠ 0) = true by
    rw [decide_eq_true_iff]
    simp (disch := omega) only [zi_lit, ne_eq, zi_eq]
    omega, zgd_t, zbI_s, eX12_runsBy_1]
  have hL : (((10 : Int32) * zi t.drag + (2 : Int32) * zi wi) + zi co) / zi w = zi (zLss t w wi co) := by
    unfold zLss
    simp (disch := omega) only [zi_lit, zi_mul, zi_add, zi_div]
  rw [hL, qX12_runs, eX12_runs_0, hpu]
  obtain ⟨I', c1, c2, c3, c4⟩ := mGo (d := f) (L := L) (r := r) (J := J) (by omega) hl ht hn bpu
  have c1' : zCd zT f 277 [.ref 130, .int 0, .int (zi t.push), .int (zi (zLss t w wi co))] (zm L I J r) = some (none, zm L I' J r) := c1
  rw [c1', zbV_s, eX12_runs_1, zbV_s, eX12_runsBy_2]
  exact ⟨I', rfl, c2, c3, c4⟩
end
