/-! THE LAW: its loop -/
def kJs : List Nat := [4, 7, 10, 13, 16, 19, 22, 25, 32, 35, 38, 41, 44, 47, 50, 53, 56, 59, 62, 65, 68, 71, 74, 77, 80, 83, 86, 89, 92, 95, 98, 101, 104, 107, 110, 113, 116, 119, 122, 129, 132, 135, 138, 141, 144, 147, 150, 153, 156, 159, 162, 165, 168]
theorem k63 (v : Int32) : ∃ k : Nat, k < 64 ∧ v &&& (63 : Int32) = zi (k : Int) := by
  have h1 : (v &&& (63 : Int32)).toBitVec.toNat < 64 := by
    rw [Int32.toBitVec_and, BitVec.toNat_and]
    have h2 : v.toBitVec.toNat &&& (63 : Int32).toBitVec.toNat ≤ (63 : Int32).toBitVec.toNat := Nat.and_le_right
    have h3 : (63 : Int32).toBitVec.toNat = 63 := rfl
    omega
  exact ⟨_, h1, yBi (by omega) rfl⟩
section
variable {L c r i : Nat} {I : Nat → Nat → Int32} {J : Nat → Nat → Int64} {y : zFd} {z0 z1 : Bool × zFd}
theorem kDisp (hL : L ≤ 4096) (hi : i + 8 ≤ L) (hc : c < 512) (hr : zRr r) (hv : zV c I J y z0 z1) : ∀ k : Nat, k < 64 → kNext (ztb (k : Int) 0 kJs 171) i L c I J r := by
  intro k hk
  match k, hk with
  | 0, _ => exact kOp0 hL hi hc hr hv
  | 1, _ => exact kOp1 hL hi hc hr hv
  | 2, _ => exact kOp2 hL hi hc hr hv
  | 3, _ => exact kOp3 hL hi hc hr hv
  | 4, _ => exact kOp4 hL hi hc hr hv
  | 5, _ => exact kOp5 hL hi hc hr hv
  | 6, _ => exact kOp6 hL hi hc hr hv
  | 7, _ => exact kOp7 hL hi hc hr hv
  | 8, _ => exact kOp8 hL hi hc hr hv
  | 9, _ => exact kOp9 hL hi hc hr hv
  | 10, _ => exact kOp10 hL hi hc hr hv
  | 11, _ => exact kOp11 hL hi hc hr hv
  | 12, _ => exact kOp12 hL hi hc hr hv
  | 13, _ => exact kOp13 hL hi hc hr hv
  | 14, _ => exact kOp14 hL hi hc hr hv
  | 15, _ => exact kOp15 hL hi hc hr hv
  | 16, _ => exact kOp16 hL hi hc hr hv
  | 17, _ => exact kOp17 hL hi hc hr hv
  | 18, _ => exact kOp18 hL hi hc hr hv
  | 19, _ => exact kOp19 hL hi hc hr hv
  | 20, _ => exact kOp20 hL hi hc hr hv
  | 21, _ => exact kOp21 hL hi hc hr hv
  | 22, _ => exact kOp22 hL hi hc hr hv
  | 23, _ => exact kOp23 hL hi hc hr hv
  | 24, _ => exact kOp24 hL hi hc hr hv
  | 25, _ => exact kOp25 hL hi hc hr hv
  | 26, _ => exact kOp26 hL hi hc hr hv
  | 27, _ => exact kOp27 hL hi hc hr hv
  | 28, _ => exact kOp28 hL hi hc hr hv
  | 29, _ => exact kOp29 hL hi hc hr hv
  | 30, _ => exact kOp30 hL hi hc hr hv
  | 31, _ => exact kOp31 hL hi hc hr hv
  | 32, _ => exact kOp32 hL hi hc hr hv
  | 33, _ => exact kOp33 hL hi hc hr hv
  | 34, _ => exact kOp34 hL hi hc hr hv
  | 35, _ => exact kOp35 hL hi hc hr hv
  | 36, _ => exact kOp36 hL hi hc hr hv
  | 37, _ => exact kOp37 hL hi hc hr hv
  | 38, _ => exact kOp38 hL hi hc hr hv
  | 39, _ => exact kOp39 hL hi hc hr hv
  | 40, _ => exact kOp40 hL hi hc hr hv
  | 41, _ => exact kOp41 hL hi hc hr hv
  | 42, _ => exact kOp42 hL hi hc hr hv
  | 43, _ => exact kOp43 hL hi hc hr hv
  | 44, _ => exact kOp44 hL hi hc hr hv
  | 45, _ => exact kOp45 hL hi hc hr hv
  | 46, _ => exact kOp46 hL hi hc hr hv
  | 47, _ => exact kOp47 hL hi hc hr hv
  | 48, _ => exact kOp48 hL hi hc hr hv
  | 49, _ => exact kOp49 hL hi hc hr hv
  | 50, _ => exact kOp50 hL hi hc hr hv
  | 51, _ => exact kOp51 hL hi hc hr hv
  | 52, _ => exact kOp52 hL hi hc hr hv
  | k + 53, hk =>
    have e : ztb ((k + 53 : Nat) : Int) 0 kJs 171 = 171 := by
      unfold ztb
      rw [if_neg (by omega), show (((k + 53 : Nat) : Int) - 0).toNat = k + 53 by omega, znth_len kJs (k + 53) (by show 53 ≤ k + 53; omega)]
      rfl
    rw [e]
    exact ⟨I, J, r, y, z0, z1, rfl, hr, zV_fr (Nat.le_succ c) zKp_rf hv.2.2.2.2.2.2.2.2.2 hv, rfl⟩
end
theorem kLoop {L : Nat} (hL : L ≤ 4096) : ∀ (n c r : Nat) (I : Nat → Nat → Int32) (J : Nat → Nat → Int64) (y : zFd) (z0 z1 : Bool × zFd), L ≤ 8 * (c + n) + 7 → c ≤ 512 → zRr r → zV c I J y z0 z1 → ∃ (I2 : Nat → Nat → Int32) (J2 : Nat → Nat → Int64) (r2 : Nat), zX 3 (zCd zT 60) zc_L_law 3 [some (.ref 1), some (.ref 16), some (.ref 130), some (.int (zi ((8 * c : Nat) : Int)))] [] (zm L I J r) = some (some (.int 1), zm L I2 J2 r2) := by
  intro n
  induction n with
  | zero =>
    intro c r I J y z0 z1 h hc hr hv
    have e : Int32.ofNat (zln (zm L I J r) 1) = zi (L : Int) := zi_nI L
    refine ⟨I, J, r, ?_⟩
    rw [kb_3, show (zkk (zm L I J r) 1 == 1) = true from rfl, zgd_t, e, show zi (L : Int) - (8 : Int32) = zi ((L : Int) - 8) from zi_sub _ 8, if_pos (show zi ((L : Int) - 8) < zi ((8 * c : Nat) : Int) by rw [zi_lt (by omega) (by omega)]; omega), kb_172]
    rfl
  | succ n ih =>
    intro c r I J y z0 z1 h hc hr hv
    have e : Int32.ofNat (zln (zm L I J r) 1) = zi (L : Int) := zi_nI L
    by_cases q : 8 * c + 8 ≤ L
    · obtain ⟨k, hk, ek⟩ := k63 (I 1 (8 * c))
      obtain ⟨I2, J2, r2, y2, x0, x1, h1, h2, h3, h4⟩ := kDisp hL q (by omega) hr hv k hk
      obtain ⟨I3, J3, r3, g⟩ := ih (c + 1) r2 I2 J2 y2 x0 x1 (by omega) (by omega) h2 h3
      refine ⟨I3, J3, r3, ?_⟩
      have k8 : zi ((8 * c : Nat) : Int) + (8 : Int32) = zi ((8 * (c + 1) : Nat) : Int) := (zi_add _ 8).trans (congrArg zi (by omega))
      rw [kb_3, show (zkk (zm L I J r) 1 == 1) = true from rfl, zgd_t, e, show zi (L : Int) - (8 : Int32) = zi ((L : Int) - 8) from zi_sub _ 8, if_neg (show ¬ zi ((L : Int) - 8) < zi ((8 * c : Nat) : Int) by rw [zi_lt (by omega) (by omega)]; omega), kok (y := ((8 * c : Nat) : Int)) (n := 8 * c) hL (by omega) rfl rfl, zgd_t, kgi, zi_cl (by omega), Int.toNat_natCast, ek, zi_val (by omega)]
      refine (show _ = _ from h1).trans ?_
      rw [kb_171, k8]
      exact g
    · refine ⟨I, J, r, ?_⟩
      rw [kb_3, show (zkk (zm L I J r) 1 == 1) = true from rfl, zgd_t, e, show zi (L : Int) - (8 : Int32) = zi ((L : Int) - 8) from zi_sub _ 8, if_pos (show zi ((L : Int) - 8) < zi ((8 * c : Nat) : Int) by rw [zi_lt (by omega) (by omega)]; omega), kb_172]
      rfl
theorem kLaw (L : Nat) (xs : Nat → Int32) (hL : L ≤ 4096) : ∃ M : zM, zX 3 (zCd zT 60) zc_L_law 0 [some (.ref 1), none, none, none] [] (zM1 L xs) = some (some (.int 1), M) ∧ znx M ≤ 148 ∧ zsz M ≤ 214328 := by
  obtain ⟨I2, J2, r2, g⟩ := kLoop hL 512 0 0 (kI xs) (fun _ _ => 0) yY0 (false, yY0) (false, yY0) (by omega) (by decide) (Or.inl rfl) (kV0 xs)
  refine ⟨zm L I2 J2 r2, ?_, Nat.le_refl _, Nat.le_refl _⟩
  rw [kStart]
  exact g
