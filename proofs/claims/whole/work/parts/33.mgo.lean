section
variable {d L r : Nat} {I : Nat → Nat → Int32} {J : Nat → Nat → Int64} {n : Nat} {h ch : Nat → Int} {cp : Int → Int} {dg : Nat → Bool}
theorem zRn_end {loss : Int} {s : zS} (hq : n ≤ s.2.1 + 1) (k : Nat) : zRn n h ch cp dg loss k s = (0, s) := by
  cases k with
  | zero => exact congrArg (·, s) (if_pos hq)
  | succ k => exact if_pos hq
/-- what is left when k of its steps are -/
def mGl (n : Nat) (h ch : Nat → Int) (cp : Int → Int) (dg : Nat → Bool) (loss : Int) (k : Nat) (I0 : Nat → Nat → Int32) (s : zS) (R : Option zR) (L : Nat) (J : Nat → Nat → Int64) (r : Nat) : Prop :=
  ∃ I', R = some (none, zm L I' J r) ∧ mRd n I' (zRn n h ch cp dg loss k s).2 ∧ mFr I0 I' ∧ I' 130 19 = zi (zRn n h ch cp dg loss k s).1
theorem mRd_19 {s : zS} {v : Int32} (hs : mRd n I s) : mRd n (zu I 130 19 v) s := by
  obtain ⟨fo, at1, pa, ti, tu, tp, td, pul, sl, fs, ft⟩ := s
  obtain ⟨⟨h20, h21, h24, h23, h22⟩, hb, hfs⟩ := hs
  unfold mRd
  simp only [zu_ap]
  exact ⟨⟨by simpa using h20, by simpa using h21, by simpa using h24, by simpa using h23, by simpa using h22⟩, hb, by simpa using hfs⟩
theorem mRd_t {fo : Bool} {at1 : Nat} {pa ti tu tp : Int} {td pul : Bool} {sl : Int} {fs ft : Nat → Int} {sl2 : Int} {pul2 : Bool} {w : Int32} (hs : mRd n I (fo, at1, pa, ti, tu, tp, td, pul, sl, fs, ft)) : mRd n (zu (zu I 130 23 (I 130 23 + 1)) 130 19 w) (zTrn sl2 pul2 (fo, at1, pa, ti, tu, tp, td, pul, sl, fs, ft)) := by
  obtain ⟨⟨h20, h21, h24, h23, h22⟩, hb, hfs⟩ := hs
  unfold mRd zTrn
  simp only [zu_ap]
  have e : I 130 23 + 1 = zi (tu + 1) := by rw [h23, zi_lit, zi_add]
  exact ⟨⟨by simpa using h20, by simpa using h21, by simpa using h24, by simpa using e, by simpa using h22⟩, hb, by simpa using hfs⟩
theorem mLoop (hd : 3 ≤ d) {loss : Int} (hl : 0 ≤ loss ∧ loss ≤ 1000000) {l1 l2 : Int32} : ∀ (k : Nat), k ≤ 300 → ∀ (I : Nat → Nat → Int32) (s : zS), mTk I n h ch cp dg → mRd n I s → s.2.1 + 1 < n →
    mGl n h ch cp dg loss k I s (zX 2 (zCd zT d) zc_X12_runsFrom 4 [some (.ref 130), some (.int l1), some (.int l2), some (.int (zi loss)), some (.int (zi ((n : Int) - 1))), some (.int (zb1 s.1)), some (.int (zb1 s.2.2.2.2.2.2.1)), some (.int (zi (300 - (k : Int)))), none, none, none] [] (zm L I J r)) L J r := by
  intro k
  induction k with
  | zero =>
    intro _ I s hT hs ha
    obtain ⟨fo, at1, pa, ti, tu, tp, td, pul, sl, fs, ft⟩ := s
    have ha2 : at1 + 1 < n := ha
    refine ⟨zu I 130 19 1, ?_, mRd_19 hs, mFr_u mFr_rf (by decide) (by decide), ?_⟩
    · rw [eX12_runsFrom_4, if_pos (show (300 : Int32) ≤ zi (300 - ((0 : Nat) : Int)) by decide), eX12_runsFrom_21]
    · show zu I 130 19 1 130 19 = zi (if n ≤ at1 + 1 then 0 else 1)
      rw [if_neg (by omega)]
      simp [zu_ap]
      rfl
  | succ k ih =>
    intro hk I s hT hs ha
    have h60 := hT.1
    obtain ⟨fo, at1, pa, ti, tu, tp, td, pul, sl, fs, ft⟩ := s
    have hs0 := hs
    obtain ⟨⟨h20, h21, h24, h23, h22⟩, ⟨g1, g2, g3, g4⟩, hfs⟩ := hs
    have ha2 : at1 + 1 < n := ha
    have ha1 : at1 < n := by omega
    have hch := mTk_ch hT ha1
    have hcm : zi (ch at1) = -1 ↔ ch at1 = -1 := by
      rcases hch with q | q | q <;> rw [q] <;> decide
    have hl7 : zi (300 - ((k + 1 : Nat) : Int)) + 1 = zi (300 - (k : Int)) := by
      rw [zi_lit, zi_add]
      show zi (300 - ((k + 1 : Nat) : Int) + 1) = zi (300 - (k : Int))
      exact congrArg zi (by omega)
    have hrn : ¬ n ≤ at1 + 1 := by omega
    show mGl n h ch cp dg loss (k + 1) I (fo, at1, pa, ti, tu, tp, td, pul, sl, fs, ft) (zX 2 (zCd zT d) zc_X12_runsFrom 4 [some (.ref 130), some (.int l1), some (.int l2), some (.int (zi loss)), some (.int (zi ((n : Int) - 1))), some (.int (zb1 fo)), some (.int (zb1 td)), some (.int (zi (300 - ((k + 1 : Nat) : Int)))), none, none, none] [] (zm L I J r)) L J r
    have hr3 : (zStp h ch cp dg loss (fo, at1, pa, ti, tu, tp, td, pul, sl, fs, ft)).1 = 3 → zRn n h ch cp dg loss (k + 1) (fo, at1, pa, ti, tu, tp, td, pul, sl, fs, ft) = zRn n h ch cp dg loss k (zStp h ch cp dg loss (fo, at1, pa, ti, tu, tp, td, pul, sl, fs, ft)).2 := fun q => (if_neg hrn).trans (if_pos q)
    have hrn3 : ¬ (zStp h ch cp dg loss (fo, at1, pa, ti, tu, tp, td, pul, sl, fs, ft)).1 = 3 → zRn n h ch cp dg loss (k + 1) (fo, at1, pa, ti, tu, tp, td, pul, sl, fs, ft) = zStp h ch cp dg loss (fo, at1, pa, ti, tu, tp, td, pul, sl, fs, ft) := fun q => (if_neg hrn).trans (if_neg q)
    -- it turns
    have hB : ∀ (l8 l9 l10 : Int32) (sl2 : Int) (pul2 : Bool), zStp h ch cp dg loss (fo, at1, pa, ti, tu, tp, td, pul, sl, fs, ft) = ((if td = true then 1 else 3), zTrn sl2 pul2 (fo, at1, pa, ti, tu, tp, td, pul, sl, fs, ft)) → mGl n h ch cp dg loss (k + 1) I (fo, at1, pa, ti, tu, tp, td, pul, sl, fs, ft) (zX 2 (zCd zT d) zc_X12_runsFrom 16 [some (.ref 130), some (.int l1), some (.int l2), some (.int (zi loss)), some (.int (zi ((n : Int) - 1))), some (.int (zb1 fo)), some (.int (zb1 td)), some (.int (zi (300 - ((k + 1 : Nat) : Int)))), some (.int l8), some (.int l9), some (.int l10)] [] (zm L I J r)) L J r := by
      intro l8 l9 l10 sl2 pul2 hst
      have h18 : zX 2 (zCd zT d) zc_X12_runsFrom 16 [some (.ref 130), some (.int l1), some (.int l2), some (.int (zi loss)), some (.int (zi ((n : Int) - 1))), some (.int (zb1 fo)), some (.int (zb1 td)), some (.int (zi (300 - ((k + 1 : Nat) : Int)))), some (.int l8), some (.int l9), some (.int l10)] [] (zm L I J r) = zX 2 (zCd zT d) zc_X12_runsFrom 18 [some (.ref 130), some (.int l1), some (.int l2), some (.int (zi loss)), some (.int (zi ((n : Int) - 1))), some (.int (zb1 fo)), some (.int (zb1 td)), some (.int (zi (300 - ((k + 1 : Nat) : Int)))), some (.int l8), some (.int l9), some (.int l10)] [.int (zb1 (!fo))] (zm L I J r) := by
        rw [eX12_runsFrom_16]
        cases fo
        · rw [if_pos (show zb1 false = 0 from rfl)]
          rfl
        · rw [if_neg (show ¬ zb1 true = 0 by decide), eX12_runsFrom_17]
          rfl
      rw [h18, eX12_runsFrom_18]
      have fr2 : ∀ w : Int32, mFr I (zu (zu I 130 23 (I 130 23 + 1)) 130 19 w) := fun w => mFr_u (mFr_u mFr_rf (by decide) (by decide)) (by decide) (by decide)
      cases td
      · rw [if_pos (show zb1 false = 0 from rfl), eX12_runsFrom_19, eX12_runsFrom_20, hl7]
        unfold mGl
        rw [hr3 (by rw [hst]; rfl), hst]
        obtain ⟨I', e1, e2, e3, e4⟩ := ih (by omega) _ (zTrn sl2 pul2 (fo, at1, pa, ti, tu, tp, false, pul, sl, fs, ft)) (mTk_fr (fr2 1) hT) (mRd_t hs0) ha2
        exact ⟨I', e1, e2, mFr_tr (fr2 1) e3, e4⟩
      · rw [if_neg (show ¬ zb1 true = 0 by decide)]
        unfold mGl
        rw [hrn3 (by rw [hst]; show ¬ (1 : Int) = 3; decide), hst]
        exact ⟨_, rfl, mRd_t hs0, fr2 1, by simp [zu_ap]; rfl⟩
    -- it comes
    have hC : ∀ (l8 : Int32) (to : Nat) (v : Int) (pul2 : Bool), to < n → 0 ≤ v ∧ v ≤ 999 → zStp h ch cp dg loss (fo, at1, pa, ti, tu, tp, td, pul, sl, fs, ft) = (3, zArr to v (ti + (1 + 40 / (4 + v))) pul2 (fo, at1, pa, ti, tu, tp, td, pul, sl, fs, ft)) → mGl n h ch cp dg loss (k + 1) I (fo, at1, pa, ti, tu, tp, td, pul, sl, fs, ft) (zX 2 (zCd zT d) zc_X12_runsFrom 14 [some (.ref 130), some (.int l1), some (.int l2), some (.int (zi loss)), some (.int (zi ((n : Int) - 1))), some (.int (zb1 fo)), some (.int (zb1 td)), some (.int (zi (300 - ((k + 1 : Nat) : Int)))), some (.int l8), some (.int (zi to)), none] [.int (zi v)] (zm L I J r)) L J r := by
      intro l8 to v pul2 hto hv hst
      obtain ⟨I1, c1, c2, c3⟩ := mComes (d := d) (L := L) (r := r) (J := J) (by omega) h60 hs0 hv hto pul2
      have c20 : I1 130 20 = zi to := c2.1.1
      rw [eX12_runsFrom_14, if_neg (show ¬ zi v < 0 by simp (disch := omega) only [zi_lit, zi_lt]; omega), c1, zbV_s, eX12_runsFrom_15, c20]
      simp (disch := omega) only [zi_eq]
      unfold mGl
      rw [hr3 (by rw [hst]), hst]
      by_cases hlast : (to : Int) = (n : Int) - 1
      · rw [if_pos hlast, zRn_end (show n ≤ to + 1 by omega)]
        exact ⟨_, rfl, mRd_19 c2, mFr_u c3 (by decide) (by decide), by simp [zu_ap]; rfl⟩
      · rw [if_neg hlast, eX12_runsFrom_20, hl7]
        have fr : mFr I (zu I1 130 19 0) := mFr_u c3 (by decide) (by decide)
        obtain ⟨I', e1, e2, e3, e4⟩ := ih (by omega) _ (zArr to v (ti + (1 + 40 / (4 + v))) pul2 (fo, at1, pa, ti, tu, tp, td, pul, sl, fs, ft)) (mTk_fr fr hT) (mRd_19 c2) (show to + 1 < n by omega)
        exact ⟨I', e1, e2, mFr_tr fr e3, e4⟩
    rw [eX12_runsFrom_4, if_neg (show ¬ (300 : Int32) ≤ zi (300 - ((k + 1 : Nat) : Int)) by simp (disch := omega) only [zi_lit, zi_le]; omega)]
    have hF : ∀ (l8 : Int32) (to : Nat), to = (if fo = true then at1 + 1 else at1 - 1) → ¬ (fo = false ∧ dg at1 = true) → ¬ (fo = false ∧ (at1 = 0 ∨ ¬ ch at1 = -1)) → -2000000 ≤ zNxt h ch cp loss fo at1 pa → zNxt h ch cp loss fo at1 pa ≤ 2000000 → mGl n h ch cp dg loss (k + 1) I (fo, at1, pa, ti, tu, tp, td, pul, sl, fs, ft) (zX 2 (zCd zT d) zc_X12_runsFrom 14 [some (.ref 130), some (.int l1), some (.int l2), some (.int (zi loss)), some (.int (zi ((n : Int) - 1))), some (.int (zb1 fo)), some (.int (zb1 td)), some (.int (zi (300 - ((k + 1 : Nat) : Int)))), some (.int l8), some (.int (zi to)), none] [.int (zi (if 999 < zNxt h ch cp loss fo at1 pa then 999 else zNxt h ch cp loss fo at1 pa))] (zm L I J r)) L J r := by
      intro l8 to hto qa qb n1 n2
      have hton : to < n := by
        rw [hto]
        split <;> omega
      by_cases hn : zNxt h ch cp loss fo at1 pa < 0
      · rw [if_neg (show ¬ 999 < zNxt h ch cp loss fo at1 pa by omega), eX12_runsFrom_14, if_pos (show zi (zNxt h ch cp loss fo at1 pa) < 0 by simp (disch := omega) only [zi_lit, zi_lt]; omega)]
        exact hB _ _ _ _ _ ((zStp_c qa qb).trans (if_pos hn))
      · refine hC l8 to _ (pul || !decide (ch at1 = -1)) hton (by split <;> omega) ?_
        rw [hto]
        exact (zStp_c qa qb).trans (if_neg hn)
    have bh1 := (hT.2.2.1 at1 ha1).2
    have h6 : ¬ (fo = false ∧ dg at1 = true) → mGl n h ch cp dg loss (k + 1) I (fo, at1, pa, ti, tu, tp, td, pul, sl, fs, ft) (zX 2 (zCd zT d) zc_X12_runsFrom 6 [some (.ref 130), some (.int l1), some (.int l2), some (.int (zi loss)), some (.int (zi ((n : Int) - 1))), some (.int (zb1 fo)), some (.int (zb1 td)), some (.int (zi (300 - ((k + 1 : Nat) : Int)))), none, none, none] [] (zm L I J r)) L J r := by
      intro qa
      rw [eX12_runsFrom_6, h20, mChain (by omega) hT ha1, zbI_s, eX12_runsFrom_7]
      have hto2 : ∀ to : Nat, to < n → 0 ≤ h to ∧ h to ≤ 99 := fun to ht => (hT.2.2.1 to ht).2
      -- by its SPEED
      have hS : ∀ to : Nat, to = (if fo = true then at1 + 1 else at1 - 1) → ch at1 = -1 → ¬ (fo = false ∧ at1 = 0) → mGl n h ch cp dg loss (k + 1) I (fo, at1, pa, ti, tu, tp, td, pul, sl, fs, ft) (zX 2 (zCd zT d) zc_X12_runsFrom 13 [some (.ref 130), some (.int l1), some (.int l2), some (.int (zi loss)), some (.int (zi ((n : Int) - 1))), some (.int (zb1 fo)), some (.int (zb1 td)), some (.int (zi (300 - ((k + 1 : Nat) : Int)))), some (.int (zi (ch at1))), some (.int (zi to)), none] [] (zm L I J r)) L J r := by
        intro to hto hc hz
        have hton : to < n := by
          rw [hto]
          split <;> omega
        have bh2 := hto2 to hton
        have hx : zNxt h ch cp loss fo at1 pa = pa + 10 * (h at1 - h to) - loss := by unfold zNxt; rw [if_pos hc, hto]
        rw [eX12_runsFrom_13, mSpeed (by omega) hT hl h20 h21 ⟨g1, g2⟩ ha1 hton, zbI_s, ← hx]
        exact hF _ to hto qa (fun q => q.2.elim (fun w => hz ⟨q.1, w⟩) (fun w => w hc)) (by omega) (by omega)
      cases hfo : fo
      · subst hfo
        rw [if_pos (show zb1 false = 0 from rfl), eX12_runsFrom_8, eX12_runsFrom_9, if_pos (show zb1 false = 0 from rfl), eX12_runsFrom_11, if_pos (show zb1 false = 0 from rfl), h20]
        have hT12 : ∀ l9 : Int32, (at1 = 0 ∨ ¬ ch at1 = -1) → mGl n h ch cp dg loss (k + 1) I (false, at1, pa, ti, tu, tp, td, pul, sl, fs, ft) (zX 2 (zCd zT d) zc_X12_runsFrom 12 [some (.ref 130), some (.int l1), some (.int l2), some (.int (zi loss)), some (.int (zi ((n : Int) - 1))), some (.int (zb1 false)), some (.int (zb1 td)), some (.int (zi (300 - ((k + 1 : Nat) : Int)))), some (.int (zi (ch at1))), some (.int l9), none] [] (zm L I J r)) L J r := by
          intro l9 qb
          rw [eX12_runsFrom_12, eX12_runsFrom_14, if_pos (show (-1 : Int32) < 0 by decide)]
          exact hB _ _ _ _ _ (zStp_b qa ⟨rfl, qb⟩)
        by_cases hc : ch at1 = -1
        · rw [if_pos (hcm.mpr hc)]
          by_cases hz : at1 = 0
          · rw [if_pos (show zi at1 = 0 by rw [hz]; rfl)]
            exact hT12 _ (Or.inl hz)
          · rw [if_neg (show ¬ zi at1 = 0 by simp (disch := omega) only [zi_lit, zi_eq]; omega)]
            have ht : zi at1 - 1 = zi ((at1 - 1 : Nat) : Int) := by
              rw [zi_lit, zi_sub]
              show zi ((at1 : Int) - 1) = zi ((at1 - 1 : Nat) : Int)
              exact congrArg zi (by omega)
            rw [ht]
            exact hS (at1 - 1) rfl hc (fun q => hz q.2)
        · rw [if_neg (fun q => hc (hcm.mp q))]
          exact hT12 _ (Or.inr hc)
      · subst hfo
        have ht : zi at1 + 1 = zi ((at1 + 1 : Nat) : Int) := by
          rw [zi_lit, zi_add]
          rfl
        rw [if_neg (show ¬ zb1 true = 0 by decide), h20, ht, eX12_runsFrom_9, if_neg (show ¬ zb1 true = 0 by decide)]
        by_cases hc : ch at1 = -1
        · rw [if_pos (hcm.mpr hc), eX12_runsFrom_11, if_neg (show ¬ zb1 true = 0 by decide)]
          exact hS (at1 + 1) rfl hc (fun q => by cases q.1)
        · have hc2 : ch at1 = 0 ∨ ch at1 = 1 := by omega
          have hcp : 0 ≤ cp (ch at1) ∧ cp (ch at1) ≤ 999 := by
            rcases hc2 with q | q <;> rw [q]
            · exact (hT.2.2.2.2.1 0 (by decide) ⟨at1, ha1, q⟩).2
            · exact (hT.2.2.2.2.1 1 (by decide) ⟨at1, ha1, q⟩).2
          have hx : zNxt h ch cp loss true at1 pa = cp (ch at1) := by unfold zNxt; rw [if_neg hc]
          rw [if_neg (fun q => hc (hcm.mp q)), mPull (by omega) hT hc2 ⟨at1, ha1, rfl⟩, zbI_s, eX12_runsFrom_10]
          have hv : cp (ch at1) = (if 999 < zNxt h ch cp loss true at1 pa then 999 else zNxt h ch cp loss true at1 pa) := by
            rw [hx, if_neg (by omega)]
          have hg := hF (zi (ch at1)) (at1 + 1) rfl qa (fun q => by cases q.1) (by omega) (by omega)
          rw [← hv] at hg
          exact hg
    cases hfo : fo
    · subst hfo
      rw [if_pos (show zb1 false = 0 from rfl), h20, mDog (by omega) hT ha1, zbI_s, eX12_runsFrom_5]
      cases hdg : dg at1
      · rw [if_pos (show zb1 false = 0 from rfl)]
        exact h6 (fun q => by rw [hdg] at q; cases q.2)
      · rw [if_neg (show ¬ zb1 true = 0 by decide)]
        have hst := zStp_a (h := h) (ch := ch) (cp := cp) (loss := loss) (pa := pa) (ti := ti) (tu := tu) (tp := tp) (td := td) (pul := pul) (sl := sl) (fs := fs) (ft := ft) (⟨rfl, hdg⟩ : false = false ∧ dg at1 = true)
        unfold mGl
        rw [hrn3 (by rw [hst]; show ¬ (2 : Int) = 3; decide), hst]
        exact ⟨_, rfl, mRd_19 hs0, mFr_u mFr_rf (by decide) (by decide), by simp [zu_ap]; rfl⟩
    · subst hfo
      rw [if_neg (show ¬ zb1 true = 0 by decide)]
      exact h6 (fun q => by cases q.1)
end
