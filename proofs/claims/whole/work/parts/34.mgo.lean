section
variable {d L r : Nat} {I : Nat → Nat → Int32} {J : Nat → Nat → Int64} {n : Nat} {h ch : Nat → Int} {cp : Int → Int} {dg : Nat → Bool}
theorem mClear (h60 : n ≤ 60) {l1 l2 l3 : Int32} : ∀ (m i : Nat), i + m = n → ∀ I : Nat → Nat → Int32, ∃ I', zX 2 (zCd zT d) zc_X12_runsFrom 1 [some (.ref 130), some (.int l1), some (.int l2), some (.int l3), some (.int (zi ((n : Int) - 1))), some (.int (zi i)), none, none, none, none, none] [] (zm L I J r) = zX 2 (zCd zT d) zc_X12_runsFrom 2 [some (.ref 130), some (.int l1), some (.int l2), some (.int l3), some (.int (zi ((n : Int) - 1))), some (.int (zi n)), none, none, none, none, none] [] (zm L I' J r) ∧ mFr I I' ∧ (∀ p, p < i → I' 135 p = I 135 p) ∧ ∀ p, i ≤ p → p < n → I' 135 p = -1 := by
  intro m
  induction m with
  | zero =>
    intro i hi I
    obtain rfl : i = n := by omega
    refine ⟨I, ?_, mFr_rf, fun _ _ => rfl, fun p a b => by omega⟩
    rw [eX12_runsFrom_1, if_pos (show zi ((i : Int) - 1) < zi i by simp (disch := omega) only [zi_lt]; omega)]
  | succ m ih =>
    intro i hi I
    obtain ⟨I', e1, e2, e3, e4⟩ := ih (i + 1) (by omega) (zu I 135 i (-1))
    refine ⟨I', ?_, mFr_tr (mFr_v mFr_rf) e2, ?_, ?_⟩
    · rw [eX12_runsFrom_1, if_neg (show ¬ zi ((n : Int) - 1) < zi i by simp (disch := omega) only [zi_lt]; omega), zin_t (by omega) (by omega), zgd_t, zi_cl (by omega), Int.toNat_natCast, show zi (i : Int) + 1 = zi ((i + 1 : Nat) : Int) by rw [zi_lit, zi_add]; rfl]
      exact e1
    · intro p hp
      rw [e3 p (by omega), zu_ap, if_neg (by omega)]
    · intro p h1 h2
      by_cases q : p = i
      · rw [e3 p (by omega), zu_ap, if_pos ⟨rfl, q⟩]
      · exact e4 p (by omega) h2
theorem mGo (hd : 5 ≤ d) {loss : Int} (hl : 0 ≤ loss ∧ loss ≤ 1000000) (hT : mTk I n h ch cp dg) {from1 : Nat} (hf : from1 < n) {v : Int} (hv : 0 ≤ v ∧ v ≤ 999) :
    ∃ I', zCd zT d 277 [.ref 130, .int (zi from1), .int (zi v), .int (zi loss)] (zm L I J r) = some (none, zm L I' J r) ∧ mRd n I' (zRn n h ch cp dg loss 300 (zS0 from1 v)).2 ∧ mFr I I' ∧ I' 130 19 = zi (zRn n h ch cp dg loss 300 (zS0 from1 v)).1 := by
  obtain ⟨e, rfl⟩ : ∃ e, d = e + 1 := ⟨d - 1, by omega⟩
  have h60 := hT.1
  have hn : zi (n : Int) - 1 = zi ((n : Int) - 1) := by
    rw [zi_lit, zi_sub]
  obtain ⟨I1, c1, c2, c3, c4⟩ := mClear (d := e) (L := L) (r := r) (J := J) (n := n) (l1 := zi from1) (l2 := zi v) (l3 := zi loss) h60 n 0 (by omega) I
  rw [qX12_runsFrom, eX12_runsFrom_0, hT.2.1, hn]
  have c1' : zX 2 (zCd zT e) zc_X12_runsFrom 1 [some (.ref 130), some (.int (zi from1)), some (.int (zi v)), some (.int (zi loss)), some (.int (zi ((n : Int) - 1))), some (.int 0), none, none, none, none, none] [] (zm L I J r) = _ := c1
  rw [c1', eX12_runsFrom_2, zin_t (by omega) (by omega), zgd_t, zgd_t, zi_cl (by omega), Int.toNat_natCast]
  simp (disch := omega) only [zi_eq]
  have fr : mFr I (zu (zu (zu (zu (zu (zu (zu (zu I1 130 20 (zi from1)) 130 21 (zi v)) 130 22 (zi v)) 130 23 0) 130 24 0) 135 from1 (zi v)) 136 from1 0) 130 19 0) := mFr_u (mFr_w (mFr_v (mFr_u (mFr_u (mFr_u (mFr_u (mFr_u c2 (by decide) (by decide)) (by decide) (by decide)) (by decide) (by decide)) (by decide) (by decide)) (by decide) (by decide)))) (by decide) (by decide)
  have rd : mRd n (zu (zu (zu (zu (zu (zu (zu (zu I1 130 20 (zi from1)) 130 21 (zi v)) 130 22 (zi v)) 130 23 0) 130 24 0) 135 from1 (zi v)) 136 from1 0) 130 19 0) (zS0 from1 v) := by
    unfold zS0 zArr mRd
    simp only [zu_ap]
    have htp : (if (0 : Int) < v then v else 0) = v := by split <;> omega
    refine ⟨⟨by simp, by simp, by simp; rfl, by simp; rfl, by simp [htp]⟩, ⟨hv.1, hv.2, by rw [htp]; exact hv.1, by rw [htp]; exact hv.2⟩, ?_⟩
    intro p hp
    have hp4 := c4 p (by omega) hp
    by_cases q : p = from1
    · subst q
      simp
      exact ⟨by omega, by omega, fun _ => rfl⟩
    · simp [q]
      exact hp4
  by_cases hq : (from1 : Int) = (n : Int) - 1
  · rw [if_pos hq, zRn_end (show n ≤ from1 + 1 by omega)]
    exact ⟨_, rfl, rd, fr, by simp [zu_ap]; rfl⟩
  · rw [if_neg hq, eX12_runsFrom_3]
    obtain ⟨I', e1, e2, e3, e4⟩ := mLoop (d := e) (L := L) (r := r) (J := J) (l1 := zi from1) (l2 := zi v) (by omega) hl 300 (Nat.le_refl _) _ (zS0 from1 v) (mTk_fr fr hT) rd (show from1 + 1 < n by omega)
    exact ⟨I', e1, e2, mFr_tr fr e3, e4⟩
end
