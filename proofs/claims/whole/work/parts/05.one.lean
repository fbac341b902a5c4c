/-- a step does nothing more, goes on, jumps, or answers: whatever comes behind it -/
def zon (P : zM → Prop) (F : zJ → zC → Option zR) : Prop := (∀ j kk, F j kk = none) ∨ (∃ ls' st' M', P M' ∧ ∀ j kk, F j kk = kk ls' st' M') ∨ (∃ b ls' st' M', P M' ∧ ∀ j kk, F j kk = j b ls' st' M') ∨ (∃ r : zR, P r.2 ∧ ∀ j kk, F j kk = some r)
theorem zon_n {P : zM → Prop} : zon P (fun _ _ => none) := Or.inl fun _ _ => rfl
theorem zon_k {P : zM → Prop} {ls : zLs} {st : List Value} {M : zM} (h : P M) : zon P (fun _ kk => kk ls st M) := Or.inr (Or.inl ⟨ls, st, M, h, fun _ _ => rfl⟩)
theorem zon_j {P : zM → Prop} {b : Nat} {ls : zLs} {st : List Value} {M : zM} (h : P M) : zon P (fun j _ => j b ls st M) := Or.inr (Or.inr (Or.inl ⟨b, ls, st, M, h, fun _ _ => rfl⟩))
theorem zon_r {P : zM → Prop} {r : zR} (h : P r.2) : zon P (fun _ _ => some r) := Or.inr (Or.inr (Or.inr ⟨r, h, fun _ _ => rfl⟩))
theorem zon_gd {P : zM → Prop} {b : Bool} {F : zJ → zC → Option zR} (h : b = true → zon P F) : zon P (fun j kk => zgd b (F j kk)) := by
  cases b
  · exact zon_n
  · exact h rfl
theorem zon_if {P : zM → Prop} {c : Prop} {_ : Decidable c} {F G : zJ → zC → Option zR} (h : zon P F) (g : zon P G) : zon P (fun j kk => if c then F j kk else G j kk) := by
  by_cases hc : c
  · simp only [hc, if_true]; exact h
  · simp only [hc, if_false]; exact g
theorem zon_cmp {P : zM → Prop} {c : Jvm.ClassFile.Cond} {x y : Int32} {F G : zJ → zC → Option zR} (h : zon P F) (g : zon P G) : zon P (fun j kk => zcmp c x y (F j kk) (G j kk)) := by
  cases c
  · exact zon_if h g
  · exact zon_if g h
  · exact zon_if h g
  · exact zon_if h g
  · exact zon_if h g
  · exact zon_if h g
theorem zon_I1 {P : zM → Prop} {st : List Value} {F : zJ → zC → Int32 → List Value → Option zR} (h : ∀ x st, zon P (fun j kk => F j kk x st)) : zon P (fun j kk => zI1 st (F j kk)) := by
  unfold zI1; split
  · exact h _ _
  · exact zon_n
theorem zon_I2 {P : zM → Prop} {st : List Value} {F : zJ → zC → Int32 → Int32 → List Value → Option zR} (h : ∀ x y st, zon P (fun j kk => F j kk x y st)) : zon P (fun j kk => zI2 st (F j kk)) := by
  unfold zI2; split
  · exact h _ _ _
  · exact zon_n
theorem zon_L1 {P : zM → Prop} {st : List Value} {F : zJ → zC → Int64 → List Value → Option zR} (h : ∀ x st, zon P (fun j kk => F j kk x st)) : zon P (fun j kk => zL1 st (F j kk)) := by
  unfold zL1; split
  · exact h _ _
  · exact zon_n
theorem zon_L2 {P : zM → Prop} {st : List Value} {F : zJ → zC → Int64 → Int64 → List Value → Option zR} (h : ∀ x y st, zon P (fun j kk => F j kk x y st)) : zon P (fun j kk => zL2 st (F j kk)) := by
  unfold zL2; split
  · exact h _ _ _
  · exact zon_n
theorem zon_LI {P : zM → Prop} {st : List Value} {F : zJ → zC → Int64 → Int32 → List Value → Option zR} (h : ∀ x y st, zon P (fun j kk => F j kk x y st)) : zon P (fun j kk => zLI st (F j kk)) := by
  unfold zLI; split
  · exact h _ _ _
  · exact zon_n
theorem zon_A1 {P : zM → Prop} {st : List Value} {F : zJ → zC → Nat → List Value → Option zR} (h : ∀ x st, zon P (fun j kk => F j kk x st)) : zon P (fun j kk => zA1 st (F j kk)) := by
  unfold zA1; split
  · exact h _ _
  · exact zon_n
theorem zon_AI {P : zM → Prop} {st : List Value} {F : zJ → zC → Nat → Int32 → List Value → Option zR} (h : ∀ x y st, zon P (fun j kk => F j kk x y st)) : zon P (fun j kk => zAI st (F j kk)) := by
  unfold zAI; split
  · exact h _ _ _
  · exact zon_n
theorem zon_AII {P : zM → Prop} {st : List Value} {F : zJ → zC → Nat → Int32 → Int32 → List Value → Option zR} (h : ∀ a x y st, zon P (fun j kk => F j kk a x y st)) : zon P (fun j kk => zAII st (F j kk)) := by
  unfold zAII; split
  · exact h _ _ _ _
  · exact zon_n
theorem zon_AIL {P : zM → Prop} {st : List Value} {F : zJ → zC → Nat → Int32 → Int64 → List Value → Option zR} (h : ∀ a x y st, zon P (fun j kk => F j kk a x y st)) : zon P (fun j kk => zAIL st (F j kk)) := by
  unfold zAIL; split
  · exact h _ _ _ _
  · exact zon_n
theorem zon_AIA {P : zM → Prop} {st : List Value} {F : zJ → zC → Nat → Int32 → Nat → List Value → Option zR} (h : ∀ a x y st, zon P (fun j kk => F j kk a x y st)) : zon P (fun j kk => zAIA st (F j kk)) := by
  unfold zAIA; split
  · exact h _ _ _ _
  · exact zon_n
theorem zon_lI {P : zM → Prop} {ls : zLs} {i : Nat} {F : zJ → zC → Int32 → Option zR} (h : ∀ x, zon P (fun j kk => F j kk x)) : zon P (fun j kk => zlI ls i (F j kk)) := by
  unfold zlI; split
  · exact h _
  · exact zon_n
theorem zon_lL {P : zM → Prop} {ls : zLs} {i : Nat} {F : zJ → zC → Int64 → Option zR} (h : ∀ x, zon P (fun j kk => F j kk x)) : zon P (fun j kk => zlL ls i (F j kk)) := by
  unfold zlL; split
  · exact h _
  · exact zon_n
theorem zon_lA {P : zM → Prop} {ls : zLs} {i : Nat} {F : zJ → zC → Nat → Option zR} (h : ∀ x, zon P (fun j kk => F j kk x)) : zon P (fun j kk => zlA ls i (F j kk)) := by
  unfold zlA; split
  · exact h _
  · exact zon_n
theorem zon_s1 {P : zM → Prop} {ls : zLs} {i : Nat} {v : Value} {F : zJ → zC → zLs → Option zR} (h : ∀ x, zon P (fun j kk => F j kk x)) : zon P (fun j kk => zs1 ls i v (F j kk)) := by
  unfold zs1; exact zon_if (h _) zon_n
theorem zon_s2 {P : zM → Prop} {ls : zLs} {i : Nat} {v : Value} {F : zJ → zC → zLs → Option zR} (h : ∀ x, zon P (fun j kk => F j kk x)) : zon P (fun j kk => zs2 ls i v (F j kk)) := by
  unfold zs2; exact zon_if (h _) zon_n
theorem zon_rk {P : zM → Prop} {q : Nat} {r : Option zR} {ls : zLs} {st : List Value} (h : ∀ x, r = some x → P x.2) : zon P (fun _ kk => zrk q r ls st kk) := by
  unfold zrk; split
  · unfold zbI; split
    · exact zon_k (h _ rfl)
    · exact zon_n
  · unfold zbL; split
    · exact zon_k (h _ rfl)
    · exact zon_n
  · unfold zbV; split
    · exact zon_k (h _ rfl)
    · exact zon_n
theorem zon_pop {P : zM → Prop} {F : zJ → zC → List Value → List Value → Option zR} (h : ∀ as st, zon P (fun j kk => F j kk as st)) : ∀ (n : Nat) (acc st : List Value), zon P (fun j kk => zpop n acc st (F j kk))
  | 0, acc, st => by simp only [zpop]; exact h _ _
  | n + 1, acc, [] => by simp only [zpop]; exact zon_n
  | n + 1, acc, v :: st => by simp only [zpop]; exact zon_pop h n _ _
theorem zle_rf {M : zM} : zle M M := ⟨Nat.le_refl _, Nat.le_refl _, rfl, rfl⟩
theorem zle_tr {M N K : zM} (h : zle M N) (g : zle N K) : zle M K := ⟨Nat.le_trans h.1 g.1, Nat.le_trans h.2.1 g.2.1, g.2.2.1.trans h.2.2.1, g.2.2.2.trans h.2.2.2⟩
theorem zle_pi {M : zM} {o k : Nat} {v : Int32} (h : o ≠ 1) : zle M (zpi M o k v) := ⟨Nat.le_refl _, Nat.le_refl _, rfl, by funext j; simp [zgi, zpi, Ne.symm h]⟩
theorem zle_pl {M : zM} {o k : Nat} {v : Int64} : zle M (zpl M o k v) := ⟨Nat.le_refl _, Nat.le_refl _, rfl, rfl⟩
theorem zle_pr {M : zM} {o k : Nat} {v : Nat} : zle M (zpr M o k v) := ⟨Nat.le_refl _, Nat.le_refl _, rfl, rfl⟩
theorem zle_nw {M : zM} {n : Nat} (h : 16 ≤ znx M) : zle M (znw M n) := ⟨Nat.le_succ _, Nat.le_add_right _ _, rfl, by
  funext j
  have h1 : ¬ (1 = M.1) := fun e => by
    have h2 : 16 ≤ M.1 := h
    omega
  simp [zgi, znw, h1]⟩
theorem zle_ci {M : zM} {a sp b dp n : Nat} (h : 16 ≤ b) : zle M (zci M a sp b dp n) := ⟨Nat.le_refl _, Nat.le_refl _, rfl, by
  funext j
  have h1 : ¬ (1 = b) := by omega
  simp [zgi, zci, h1]⟩
theorem zle_cl {M : zM} {a sp b dp n : Nat} : zle M (zcl M a sp b dp n) := ⟨Nat.le_refl _, Nat.le_refl _, rfl, rfl⟩
theorem zkk_ge {M : zM} {o c : Nat} (h : zkk M o = c + 10) : 16 ≤ o := by
  rcases Nat.lt_or_ge o 16 with g | g
  · simp only [zkk, g, if_true] at h
    split at h
    · omega
    · split at h <;> omega
  · exact g
theorem zkk_b {M : zM} {o c : Nat} {b : Bool} (h : (zkk M o == c + 10 && b) = true) : o ≠ 1 := by
  rw [Bool.and_eq_true, beq_iff_eq] at h
  have := zkk_ge h.1
  omega
theorem zkk_c {M : zM} {o c : Nat} (h : (zkk M o == c + 10) = true) : o ≠ 1 := by
  rw [beq_iff_eq] at h
  have := zkk_ge h
  omega
theorem zow_1 {M : zM} {o c : Nat} {i : Int32} (h : zow M o c i = true) : o ≠ 1 := by
  simp only [zow, Bool.and_eq_true, decide_eq_true_eq] at h
  omega
theorem zon_pf {M : zM} {k ty c : Nat} {st : List Value} {ls : zLs} : zon (zle M) (fun _ kk => zpf M k ty (c + 10) st (fun st M => kk ls st M)) := by
  unfold zpf; split <;> split <;> first
    | exact zon_gd fun h => zon_k (zle_pi (zkk_c h))
    | exact zon_gd fun h => zon_k (zle_pi (zkk_b h))
    | exact zon_gd fun h => zon_k zle_pl
    | exact zon_gd fun h => zon_k zle_pr
    | exact zon_n
theorem zon_cp {M : zM} {a : Nat} {sp : Int32} {b : Nat} {dp n : Int32} {ls : zLs} {st : List Value} : zon (zle M) (fun _ kk => zcp M a sp b dp n (fun M => kk ls st M)) := by
  unfold zcp; exact zon_gd fun h => zon_if (zon_k (zle_ci (by simp only [Bool.and_eq_true, decide_eq_true_eq] at h; exact h.2.1))) (zon_k zle_cl)
theorem zon_mth {k : Nat} {ls : zLs} {st : List Value} {M : zM} : zon (zle M) (fun _ kk => zmth k ls st M kk) := by
  unfold zmth
  split
  · exact zon_I2 fun _ _ _ => zon_gd fun _ => zon_k zle_rf
  · exact zon_I2 fun _ _ _ => zon_gd fun _ => zon_k zle_rf
  · exact zon_I1 fun _ _ => zon_gd fun _ => zon_k zle_rf
  · exact zon_L2 fun _ _ _ => zon_gd fun _ => zon_k zle_rf
  · exact zon_L2 fun _ _ _ => zon_gd fun _ => zon_k zle_rf
set_option maxHeartbeats 4000000 in
theorem zone_all {rt : Nat} {call : zF} (hc : ∀ j as M r, call j as M = some r → zle M r.2) (I : Instr) (ax : List Nat) (v : Value) (ls : zLs) (st : List Value) (M : zM) : zon (zle M) (fun j kk => zst rt call j kk I ax v ls st M) := by
  cases I <;> simp only [zst] <;> first
    | exact zon_n
    | exact zon_k zle_rf
    | exact zon_j zle_rf
    | exact zon_lI fun _ => zon_k zle_rf
    | exact zon_lL fun _ => zon_k zle_rf
    | exact zon_lA fun _ => zon_k zle_rf
    | exact zon_I1 fun _ _ => zon_s1 fun _ => zon_k zle_rf
    | exact zon_L1 fun _ _ => zon_s2 fun _ => zon_k zle_rf
    | exact zon_A1 fun _ _ => zon_s1 fun _ => zon_k zle_rf
    | exact zon_A1 fun _ _ => zon_k zle_rf
    | exact zon_I2 fun _ _ _ => zon_k zle_rf
    | exact zon_I2 fun _ _ _ => zon_gd fun _ => zon_k zle_rf
    | exact zon_I1 fun _ _ => zon_k zle_rf
    | exact zon_L2 fun _ _ _ => zon_k zle_rf
    | exact zon_LI fun _ _ _ => zon_k zle_rf
    | exact zon_L1 fun _ _ => zon_k zle_rf
    | exact zon_A1 fun _ _ => zon_if (zon_gd fun _ => zon_k zle_rf) (zon_gd fun _ => zon_k zle_rf)
    | exact zon_pf
    | exact zon_AI fun _ _ _ => zon_gd fun _ => zon_k zle_rf
    | exact zon_AII fun _ _ _ _ => zon_gd fun h => zon_k (zle_pi (zow_1 h))
    | exact zon_AII fun _ _ _ _ => zon_gd fun h => zon_k (zle_pi (zow_1 (Bool.and_eq_true_iff.mp h).1))
    | exact zon_AIL fun _ _ _ _ => zon_gd fun _ => zon_k zle_pl
    | exact zon_AIA fun _ _ _ _ => zon_gd fun _ => zon_k zle_pr
    | exact zon_A1 fun _ _ => zon_gd fun _ => zon_k zle_rf
    | exact zon_I1 fun _ _ => zon_gd fun h => zon_k (zle_nw (by simp only [Bool.and_eq_true, decide_eq_true_eq] at h; exact h.2.2.1))
    | exact zon_gd fun h => zon_k (zle_nw (by simp only [Bool.and_eq_true, decide_eq_true_eq] at h; exact h.2.1))
    | exact zon_pop (fun _ _ => zon_gd fun _ => zon_rk fun _ h => hc _ _ _ _ h) _ _ _
    | exact zon_pop (fun _ _ => zon_gd fun _ => zon_if (by split <;> first | exact zon_k zle_rf | exact zon_n) (zon_rk fun _ h => hc _ _ _ _ h)) _ _ _
    | exact zon_I2 fun _ _ _ => zon_cmp (zon_j zle_rf) (zon_k zle_rf)
    | exact zon_I1 fun _ _ => zon_cmp (zon_j zle_rf) (zon_k zle_rf)
    | exact zon_I1 fun _ _ => zon_j zle_rf
    | (refine zon_lI fun _ => ?_; split <;> first | exact zon_s1 fun _ => zon_k zle_rf | exact zon_n)
    | (split <;> first | exact zon_k zle_rf | exact zon_n)
    | (refine zon_if ?_ (zon_if zon_mth (zon_pop (fun _ _ => zon_gd fun _ => zon_rk fun _ h => hc _ _ _ _ h) _ _ _)); split <;> first | exact zon_gd fun _ => zon_cp | exact zon_n)
    | (split <;> first | exact zon_if (zon_r zle_rf) zon_n | exact zon_n)
    | (split <;> first | (unfold zrt; split <;> first | exact zon_r zle_rf | exact zon_gd fun _ => zon_r zle_rf | exact zon_n) | exact zon_n)
