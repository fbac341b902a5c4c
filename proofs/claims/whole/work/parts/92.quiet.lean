/-! QUIET -/
def yQcF (b : yTb) (k : Nat) : Int := if yCt b 0 (b.2 k 0) b.1 ≤ 1 then -1 else yQc (fun j => b.2 j 0) (fun j => b.2 j 2) k b.1
def yQmF (b : yTb) (k : Nat) : Int := yQm (fun j => b.2 j 0) (fun j => b.2 j 2) k b.1
theorem yQF_eq {b : yTb} : yMx (yQcF b) b.1 = yMx (yQmF b) b.1 := by
  refine yQ_eq (tr := fun j => b.2 j 0) (hr := fun j => b.2 j 2) (C := yQcF b) (fun k hk h => ?_) (fun k hk h => ?_)
  · unfold yQcF
    rw [if_pos ((yCt_2 hk).mpr h)]
  · unfold yQcF
    rw [if_neg (fun w => (yCt_2 hk).mp w h)]
section
variable {d L r : Nat} {I : Nat → Nat → Int32} {J : Nat → Nat → Int64}
theorem yQ_b {b : yTb} {n m c : Nat} (hw : wTb n m c 5 b) (hm : m ≤ 20) {k : Nat} (hk : k < b.1) : (-9999 ≤ yQc (fun j => b.2 j 0) (fun j => b.2 j 2) k b.1 ∧ yQc (fun j => b.2 j 0) (fun j => b.2 j 2) k b.1 ≤ 9999) ∧ (-9999 ≤ yQm (fun j => b.2 j 0) (fun j => b.2 j 2) k b.1 ∧ yQm (fun j => b.2 j 0) (fun j => b.2 j 2) k b.1 ≤ 9999) := by
  have wk := yW5 hw hm hk
  have key : ∀ i, i < b.1 → -9999 ≤ (fun j => b.2 j 2 - b.2 k 2) i ∧ (fun j => b.2 j 2 - b.2 k 2) i ≤ 9999 := by
    intro i hi
    have wi := yW5 hw hm hi
    show -9999 ≤ b.2 i 2 - b.2 k 2 ∧ b.2 i 2 - b.2 k 2 ≤ 9999
    omega
  exact ⟨yMn_b (B := 9999) (by decide) key _ (Nat.le_refl _), yMn_b (B := 9999) (by decide) key _ (Nat.le_refl _)⟩
theorem yMx_b {f : Nat → Int} {n : Nat} (h : ∀ k, k < n → f k ≤ 9999) : ∀ k, k ≤ n → -1 ≤ yMx f k ∧ yMx f k ≤ 9999 := fun k hk => ⟨(yMx_s k).1, yMx_le (by decide) k fun j hj => h j (by omega)⟩
theorem cQuiet (hd : 5 ≤ d) {b : yTb} {n m c : Nat} (hb : cTb 49 5 I b) (hw : wTb n m c 5 b) (hm : m ≤ 20) : zCd zT d 193 [.ref 16] (zm L I J r) = some (some (.int (zi (yMx (yQcF b) b.1))), (zm L I J r)) := by
  obtain ⟨e, rfl⟩ : ∃ e, d = e + 1 := ⟨d - 1, by omega⟩
  have hb20 : b.1 ≤ 20 := hw.1
  have hsz : zCd zT e 64 [.ref 49] (zm L I J r) = some (some (.int (zi (b.1 : Int))), (zm L I J r)) := cTSize (b := b) (by omega) (by decide) hb
  have g0 : ∀ j, j < b.1 → zCd zT e 68 [.ref 49, .int (zi ((j : Nat) : Int)), .int 0] (zm L I J r) = some (some (.int (zi (b.2 j 0))), (zm L I J r)) := fun j hj => cGetO (q := 5) (by omega) rfl (by decide) hb hw.1 (k := (j : Int)) (f := ((0 : Nat) : Int)) (by omega) (by decide)
  have bC : ∀ k, k < b.1 → yQcF b k ≤ 9999 := by
    intro k hk
    have := (yQ_b hw hm hk).1
    unfold yQcF
    split <;> omega
  have c1 := zFor (n := b.1) (G := fun k => zX 0 (zCd zT e) zc_X11_quiet 1 [some (.ref 16), some (.ref 49), some (.int (zi (yMx (yQcF b) k))), some (.int (zi ((k : Nat) : Int)))] [] (zm L I J r)) (fun k hk => by
    have k1 : zi ((k : Nat) : Int) + (1 : Int32) = zi ((k + 1 : Nat) : Int) := zi_add _ 1
    have wk := yW5 hw hm hk
    have hx := yMx_b bC k (by omega)
    have hct := yCt_le (b := b) (f := 0) (x := b.2 k 0) b.1
    have ct : zCd zT e 72 [.ref 49, .int 0, .int (zi (b.2 k 0))] (zm L I J r) = _ := cCt (L := L) (J := J) (r := r) (f := 0) (by omega) hb hw hm (by decide) (x := b.2 k 0) (by omega)
    have hb2 := (yQ_b hw hm hk).1
    have l1 : zi ((yCt b 0 (b.2 k 0) b.1 : Nat) : Int) ≤ (1 : Int32) ↔ yCt b 0 (b.2 k 0) b.1 ≤ 1 := by
      rw [show (1 : Int32) = zi 1 from rfl, zi_le (by omega) (by decide)]
      omega
    rw [eX11_quiet_1, hsz, zbI_s, eX11_quiet_2, if_neg (show ¬ zi (b.1 : Int) ≤ zi ((k : Nat) : Int) by rw [zi_le (by omega) (by omega)]; omega), g0 k hk, zbI_s, eX11_quiet_3, ct, zbI_s, eX11_quiet_4, yMx]
    unfold yQcF
    unfold yQcF at hx
    by_cases q : yCt b 0 (b.2 k 0) b.1 ≤ 1
    · rw [if_pos (l1.mpr q), if_pos q, eX11_quiet_6, k1, if_neg (by omega)]
    · rw [if_neg (fun w => q (l1.mp w)), if_neg q, cNext (by omega) hb hw hm hk, zbI_s, eX11_quiet_5, eX11_quiet_6, k1]
      by_cases q2 : yMx (fun k => if yCt b 0 (b.2 k 0) b.1 ≤ 1 then -1 else yQc (fun j => b.2 j 0) (fun j => b.2 j 2) k b.1) k < yQc (fun j => b.2 j 0) (fun j => b.2 j 2) k b.1
      · rw [if_pos q2, if_pos (by rw [zi_lt (by omega) (by omega)]; exact q2)]
      · rw [if_neg q2, if_neg (by rw [zi_lt (by omega) (by omega)]; exact q2)])
  have z0 : zX 0 (zCd zT e) zc_X11_quiet 1 [some (.ref 16), some (.ref 49), some (.int (-1)), some (.int 0)] [] (zm L I J r) = _ := c1
  rw [qX11_quiet, eX11_quiet_0, z0, eX11_quiet_1, hsz, zbI_s, eX11_quiet_2, if_pos (Int32.le_refl _), eX11_quiet_7]
theorem mQuiet (hd : 2 ≤ d) {b : yTb} {n m c : Nat} (hb : mTb 5 (I 131) b) (hw : wTb n m c 5 b) (hm : m ≤ 20) : zX 0 (zCd zT d) zc_X12_quiet 1 [some (.ref 130), some (.int (-1)), some (.int 0), none] [] (zm L I J r) = some (some (.int (zi (yMx (yQmF b) b.1))), (zm L I J r)) := by
  have hb20 : b.1 ≤ 20 := hw.1
  have h3 : I 131 733 = zi b.1 := hb.1
  have bC : ∀ k, k < b.1 → yQmF b k ≤ 9999 := fun k hk => (yQ_b hw hm hk).2.2
  have c1 := zFor (n := b.1) (G := fun k => zX 0 (zCd zT d) zc_X12_quiet 1 [some (.ref 130), some (.int (zi (yMx (yQmF b) k))), some (.int (zi ((k : Nat) : Int))), none] [] (zm L I J r)) (fun k hk => by
    have k1 : zi ((k : Nat) : Int) + (1 : Int32) = zi ((k + 1 : Nat) : Int) := zi_add _ 1
    have hx := yMx_b bC k (by omega)
    have hb2 := (yQ_b hw hm hk).2
    rw [eX12_quiet_1, h3, if_neg (show ¬ zi (b.1 : Int) ≤ zi ((k : Nat) : Int) by rw [zi_le (by omega) (by omega)]; omega), mNext (by omega) hb hw hm hk, zbI_s, eX12_quiet_2, yMx]
    have hq : yQmF b k = yQm (fun j => b.2 j 0) (fun j => b.2 j 2) k b.1 := rfl
    rw [hq]
    by_cases q2 : yMx (yQmF b) k < yQm (fun j => b.2 j 0) (fun j => b.2 j 2) k b.1
    · rw [if_pos q2, if_neg (by rw [zi_le (by omega) (by omega)]; omega), eX12_quiet_4, k1]
    · rw [if_neg q2, if_pos (by rw [zi_le (by omega) (by omega)]; omega), eX12_quiet_3, eX12_quiet_4, k1])
  have z0 : zX 0 (zCd zT d) zc_X12_quiet 1 [some (.ref 130), some (.int (-1)), some (.int 0), none] [] (zm L I J r) = _ := c1
  rw [z0, eX12_quiet_1, h3, if_pos (Int32.le_refl _), eX12_quiet_5]
end
theorem oQuiet : zOk 193 345 [] := by
  intro L c r I J y z0 z1 hc hr hv
  have hT := zV_TI hv
  have hb : cTb 49 5 I (y.2.2.1 5) := hv.1.2.2.1 5 (by decide)
  have hw := hv.2.2.1.2.2.1 5 (by decide)
  have hm5 : y.1.m ≤ 5 := hT.2.2.1.2.2.1
  refine zGo_0 hr hv (.int (zi (yMx (yQmF (y.2.2.1 5)) (y.2.2.1 5).1))) ?_ ?_
  · rw [← yQF_eq]
    exact cQuiet (by decide) hb hw (by omega)
  · rw [qX12_quiet, eX12_quiet_0]
    exact mQuiet (d := 59) (by decide) (mTb_sm zSm_0 (zV_mt hv (q := 5) (by decide))) hw (by omega)
