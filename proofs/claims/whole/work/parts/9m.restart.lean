/-! RESTART: the loops -/
def yRs (t : zDy) (l : Int) (p v : Nat) : Bool := decide ((zRu t l p (v : Int)).1 = 0)
theorem yRs_d {t : zDy} {l : Int} {p v δ : Nat} (h : (δ : Int) < ySl (zRu t l p (v : Int)).2) : yRs t l p (v + δ) = yRs t l p v := by
  have hcp : ∀ c, 0 ≤ (t.cp fun _ => 0) c := by
    intro c
    unfold zDy.cp
    split <;> omega
  have := yRn_r (n := t.n) (h := t.h) (ch := t.ch) (cp := t.cp fun _ => 0) (dg := t.dg) (loss := l) (δ := (δ : Int)) hcp (by omega) 300 (zS0 p (v : Int)) (zS0 p ((v + δ : Nat) : Int)) ⟨rfl, rfl, rfl, rfl, by rw [if_neg (by decide)]; omega⟩ h
  unfold yRs zRu
  rw [this]
def yRsV (t : zDy) (l : Int) (p : Nat) : Int := if zFs (yRs t l p) 1000 < 1000 then (zFs (yRs t l p) 1000 : Nat) else -1
section
variable {d L r : Nat} {I : Nat → Nat → Int32} {J : Nat → Nat → Int64}
variable {t : zDy}
theorem cRsL (hd : 6 ≤ d) (h : zTI I J t) {w l : Int} {p : Nat} {x : Int32} (hp : p < t.n) (hl : 0 ≤ l ∧ l ≤ 1000000) : ∀ (f v : Nat) (I1 : Nat → Nat → Int32), 1000 - v ≤ f → v ≤ 2000 → zFr3 I I1 → (∀ u, u < v → yRs t l p u = false) → ∃ I2, zX 0 (zCd zT d) zc_X11_restart 6 [some (.ref 16), some (.int (zi w)), some (.int (zi (p : Int))), some (.int x), some (.int (zi l)), some (.int (zi (v : Int)))] [] (zm L I1 J r) = some (some (.int (zi (yRsV t l p))), (zm L I2 J r)) ∧ zFr3 I I2 := by
  have done : ∀ (v : Nat) (I1 : Nat → Nat → Int32), 1000 ≤ v → v ≤ 2000 → (∀ u, u < v → yRs t l p u = false) → zX 0 (zCd zT d) zc_X11_restart 6 [some (.ref 16), some (.int (zi w)), some (.int (zi (p : Int))), some (.int x), some (.int (zi l)), some (.int (zi (v : Int)))] [] (zm L I1 J r) = some (some (.int (zi (yRsV t l p))), (zm L I1 J r)) := by
    intro v I1 h1 h2 hu
    have e : zFs (yRs t l p) 1000 = 1000 := zFs_u (Nat.le_refl _) (fun j hj => hu j (by omega)) (fun w => by omega)
    rw [eX11_restart_6, if_pos (show (999 : Int32) < zi (v : Int) by rw [show (999 : Int32) = zi 999 from rfl, zi_lt (by decide) (by omega)]; omega), eX11_restart_11]
    unfold yRsV
    rw [e, if_neg (by decide)]
    rfl
  intro f
  induction f with
  | zero =>
    intro v I1 hf hv hk hu
    exact ⟨I1, done v I1 (by omega) hv hu, hk⟩
  | succ f ih =>
    intro v I1 hf hv hk hu
    by_cases q : 1000 ≤ v
    · exact ⟨I1, done v I1 q hv hu, hk⟩
    · have hT1 := zTI_fr (zSm_3 hk) h
      obtain ⟨I2, c1, c2, c3, c4⟩ := cGo (d := d) (L := L) (r := r) (by omega) hl (zTI_c hT1) hp (v := (v : Int)) (by omega)
      have c1 : zCd zT d 22 [.ref 116, .ref 32, .int (zi l), .int (zi (p : Int)), .int (zi (v : Int))] (zm L I1 J r) = some (none, (zm L I2 J r)) := c1
      have hk2 : zFr3 I I2 := fun o a1 a2 a3 => (c3 o a1 a2 a3).trans (hk o a1 a2 a3)
      have e4 : I2 116 4 = (0 : Int32) ↔ (zRu t l p (v : Int)).1 = 0 := by
        rw [c4]
        exact zi_e0 zRu_e
      have sl : I2 116 11 = zi (ySl (zRu t l p (v : Int)).2) ∧ 1 ≤ ySl (zRu t l p (v : Int)).2 ∧ ySl (zRu t l p (v : Int)).2 ≤ 1000 := by
        have c2 : zRd (p = 0) I2 (zRu t l p (v : Int)).2 := c2
        generalize (zRu t l p (v : Int)).2 = s at c2
        obtain ⟨fo, at1, pa, ti, tu, tp, td, pul, sl, fs, ft⟩ := s
        exact ⟨c2.1.2.2.2.2.2.2.2.2, c2.2.1.2.2.2.2.1, c2.2.1.2.2.2.2.2⟩
      rw [eX11_restart_6, if_neg (show ¬ (999 : Int32) < zi (v : Int) by rw [show (999 : Int32) = zi 999 from rfl, zi_lt (by decide) (by omega)]; omega), c1, zbV_s, eX11_restart_7, sX3_isOut (by omega), zbI_s, eX11_restart_8]
      by_cases o : (zRu t l p (v : Int)).1 = 0
      · rw [if_pos (e4.mpr o), if_neg (show ¬ (1 : Int32) = 0 by decide)]
        have e : zFs (yRs t l p) 1000 = v := zFs_u (by omega) hu (fun _ => decide_eq_true o)
        refine ⟨I2, ?_, hk2⟩
        unfold yRsV
        rw [e, if_pos (by omega)]
      · have of : yRs t l p v = false := decide_eq_false o
        obtain ⟨m, hm⟩ : ∃ m : Nat, ySl (zRu t l p (v : Int)).2 = m := ⟨(ySl (zRu t l p (v : Int)).2).toNat, by omega⟩
        have k1 : zi (v : Int) + (if (1 : Int32) < zi (m : Int) then zi (m : Int) else 1) = zi ((v + m : Nat) : Int) := by
          by_cases q2 : m = 1
          · subst q2
            rw [if_neg (by decide)]
            exact zi_add _ 1
          · rw [if_pos (show (1 : Int32) < zi (m : Int) by rw [show (1 : Int32) = zi 1 from rfl, zi_lt (by decide) (by omega)]; omega)]
            exact zi_add _ _
        rw [if_neg (fun w => o (e4.mp w)), if_pos rfl, eX11_restart_9, sX3_slack (by omega), zbI_s, eX11_restart_10, sl.1, hm, k1]
        refine ih (v + m) I2 (by omega) (by omega) hk2 (fun u hu2 => ?_)
        by_cases q3 : u < v
        · exact hu u q3
        · rw [show u = v + (u - v) by omega, yRs_d (by rw [hm]; omega)]
          exact of
end
