/-! what a method answers: an int, or a long -/
def zan (rt : Nat) (r : zR) : Prop := (rt = 0 → ∃ x, r.1 = some (.int x)) ∧ (rt = 1 → ∃ x, r.1 = some (.long x))
def zov (rt : Nat) (F : zJ → zC → Option zR) : Prop := (∀ j kk, F j kk = none) ∨ (∃ ls' st' M', ∀ j kk, F j kk = kk ls' st' M') ∨ (∃ b ls' st' M', ∀ j kk, F j kk = j b ls' st' M') ∨ (∃ r : zR, zan rt r ∧ ∀ j kk, F j kk = some r)
theorem zov_n {rt : Nat} : zov rt (fun _ _ => none) := Or.inl fun _ _ => rfl
theorem zov_k {rt : Nat} {ls : zLs} {st : List Value} {M : zM} : zov rt (fun _ kk => kk ls st M) := Or.inr (Or.inl ⟨ls, st, M, fun _ _ => rfl⟩)
theorem zov_j {rt b : Nat} {ls : zLs} {st : List Value} {M : zM} : zov rt (fun j _ => j b ls st M) := Or.inr (Or.inr (Or.inl ⟨b, ls, st, M, fun _ _ => rfl⟩))
theorem zov_r {rt : Nat} {r : zR} (h : zan rt r) : zov rt (fun _ _ => some r) := Or.inr (Or.inr (Or.inr ⟨r, h, fun _ _ => rfl⟩))
theorem zov_gd {rt : Nat} {b : Bool} {F : zJ → zC → Option zR} (h : b = true → zov rt F) : zov rt (fun j kk => zgd b (F j kk)) := by
  cases b
  · exact zov_n
  · exact h rfl
theorem zov_if {rt : Nat} {c : Prop} {_ : Decidable c} {F G : zJ → zC → Option zR} (h : zov rt F) (g : zov rt G) : zov rt (fun j kk => if c then F j kk else G j kk) := by
  by_cases hc : c
  · simp only [hc, if_true]; exact h
  · simp only [hc, if_false]; exact g
theorem zov_cmp {rt : Nat} {c : Jvm.ClassFile.Cond} {x y : Int32} {F G : zJ → zC → Option zR} (h : zov rt F) (g : zov rt G) : zov rt (fun j kk => zcmp c x y (F j kk) (G j kk)) := by
  cases c
  · exact zov_if h g
  · exact zov_if g h
  · exact zov_if h g
  · exact zov_if h g
  · exact zov_if h g
  · exact zov_if h g
theorem zov_I1 {rt : Nat} {st : List Value} {F : zJ → zC → Int32 → List Value → Option zR} (h : ∀ x st, zov rt (fun j kk => F j kk x st)) : zov rt (fun j kk => zI1 st (F j kk)) := by
  unfold zI1; split
  · exact h _ _
  · exact zov_n
theorem zov_I2 {rt : Nat} {st : List Value} {F : zJ → zC → Int32 → Int32 → List Value → Option zR} (h : ∀ x y st, zov rt (fun j kk => F j kk x y st)) : zov rt (fun j kk => zI2 st (F j kk)) := by
  unfold zI2; split
  · exact h _ _ _
  · exact zov_n
theorem zov_L1 {rt : Nat} {st : List Value} {F : zJ → zC → Int64 → List Value → Option zR} (h : ∀ x st, zov rt (fun j kk => F j kk x st)) : zov rt (fun j kk => zL1 st (F j kk)) := by
  unfold zL1; split
  · exact h _ _
  · exact zov_n
theorem zov_L2 {rt : Nat} {st : List Value} {F : zJ → zC → Int64 → Int64 → List Value → Option zR} (h : ∀ x y st, zov rt (fun j kk => F j kk x y st)) : zov rt (fun j kk => zL2 st (F j kk)) := by
  unfold zL2; split
  · exact h _ _ _
  · exact zov_n
theorem zov_LI {rt : Nat} {st : List Value} {F : zJ → zC → Int64 → Int32 → List Value → Option zR} (h : ∀ x y st, zov rt (fun j kk => F j kk x y st)) : zov rt (fun j kk => zLI st (F j kk)) := by
  unfold zLI; split
  · exact h _ _ _
  · exact zov_n
theorem zov_A1 {rt : Nat} {st : List Value} {F : zJ → zC → Nat → List Value → Option zR} (h : ∀ x st, zov rt (fun j kk => F j kk x st)) : zov rt (fun j kk => zA1 st (F j kk)) := by
  unfold zA1; split
  · exact h _ _
  · exact zov_n
theorem zov_AI {rt : Nat} {st : List Value} {F : zJ → zC → Nat → Int32 → List Value → Option zR} (h : ∀ x y st, zov rt (fun j kk => F j kk x y st)) : zov rt (fun j kk => zAI st (F j kk)) := by
  unfold zAI; split
  · exact h _ _ _
  · exact zov_n
theorem zov_AII {rt : Nat} {st : List Value} {F : zJ → zC → Nat → Int32 → Int32 → List Value → Option zR} (h : ∀ a x y st, zov rt (fun j kk => F j kk a x y st)) : zov rt (fun j kk => zAII st (F j kk)) := by
  unfold zAII; split
  · exact h _ _ _ _
  · exact zov_n
theorem zov_AIL {rt : Nat} {st : List Value} {F : zJ → zC → Nat → Int32 → Int64 → List Value → Option zR} (h : ∀ a x y st, zov rt (fun j kk => F j kk a x y st)) : zov rt (fun j kk => zAIL st (F j kk)) := by
  unfold zAIL; split
  · exact h _ _ _ _
  · exact zov_n
theorem zov_AIA {rt : Nat} {st : List Value} {F : zJ → zC → Nat → Int32 → Nat → List Value → Option zR} (h : ∀ a x y st, zov rt (fun j kk => F j kk a x y st)) : zov rt (fun j kk => zAIA st (F j kk)) := by
  unfold zAIA; split
  · exact h _ _ _ _
  · exact zov_n
theorem zov_lI {rt : Nat} {ls : zLs} {i : Nat} {F : zJ → zC → Int32 → Option zR} (h : ∀ x, zov rt (fun j kk => F j kk x)) : zov rt (fun j kk => zlI ls i (F j kk)) := by
  unfold zlI; split
  · exact h _
  · exact zov_n
theorem zov_lL {rt : Nat} {ls : zLs} {i : Nat} {F : zJ → zC → Int64 → Option zR} (h : ∀ x, zov rt (fun j kk => F j kk x)) : zov rt (fun j kk => zlL ls i (F j kk)) := by
  unfold zlL; split
  · exact h _
  · exact zov_n
theorem zov_lA {rt : Nat} {ls : zLs} {i : Nat} {F : zJ → zC → Nat → Option zR} (h : ∀ x, zov rt (fun j kk => F j kk x)) : zov rt (fun j kk => zlA ls i (F j kk)) := by
  unfold zlA; split
  · exact h _
  · exact zov_n
theorem zov_s1 {rt : Nat} {ls : zLs} {i : Nat} {v : Value} {F : zJ → zC → zLs → Option zR} (h : ∀ x, zov rt (fun j kk => F j kk x)) : zov rt (fun j kk => zs1 ls i v (F j kk)) := by
  unfold zs1; exact zov_if (h _) zov_n
theorem zov_s2 {rt : Nat} {ls : zLs} {i : Nat} {v : Value} {F : zJ → zC → zLs → Option zR} (h : ∀ x, zov rt (fun j kk => F j kk x)) : zov rt (fun j kk => zs2 ls i v (F j kk)) := by
  unfold zs2; exact zov_if (h _) zov_n
theorem zov_rk {rt q : Nat} {r : Option zR} {ls : zLs} {st : List Value} : zov rt (fun _ kk => zrk q r ls st kk) := by
  unfold zrk; split
  · unfold zbI; split
    · exact zov_k
    · exact zov_n
  · unfold zbL; split
    · exact zov_k
    · exact zov_n
  · unfold zbV; split
    · exact zov_k
    · exact zov_n
theorem zov_pop {rt : Nat} {F : zJ → zC → List Value → List Value → Option zR} (h : ∀ as st, zov rt (fun j kk => F j kk as st)) : ∀ (n : Nat) (acc st : List Value), zov rt (fun j kk => zpop n acc st (F j kk))
  | 0, acc, st => by simp only [zpop]; exact h _ _
  | n + 1, acc, [] => by simp only [zpop]; exact zov_n
  | n + 1, acc, v :: st => by simp only [zpop]; exact zov_pop h n _ _
theorem zov_pf {rt : Nat} {M : zM} {k ty c : Nat} {st : List Value} {ls : zLs} : zov rt (fun _ kk => zpf M k ty c st (fun st M => kk ls st M)) := by
  unfold zpf; split <;> split <;> first
    | exact zov_gd fun h => zov_k
    | exact zov_n
theorem zov_cp {rt : Nat} {M : zM} {a : Nat} {sp : Int32} {b : Nat} {dp n : Int32} {ls : zLs} {st : List Value} : zov rt (fun _ kk => zcp M a sp b dp n (fun M => kk ls st M)) := by
  unfold zcp; exact zov_gd fun h => zov_if zov_k zov_k
theorem zov_mth {rt k : Nat} {ls : zLs} {st : List Value} {M : zM} : zov rt (fun _ kk => zmth k ls st M kk) := by
  unfold zmth
  split
  · exact zov_I2 fun _ _ _ => zov_gd fun _ => zov_k
  · exact zov_I2 fun _ _ _ => zov_gd fun _ => zov_k
  · exact zov_I1 fun _ _ => zov_gd fun _ => zov_k
  · exact zov_L2 fun _ _ _ => zov_gd fun _ => zov_k
  · exact zov_L2 fun _ _ _ => zov_gd fun _ => zov_k
theorem zan_i {rt : Nat} {x : Int32} {M : zM} (h : rt ≠ 1) : zan rt (some (.int x), M) := ⟨fun _ => ⟨x, rfl⟩, fun w => absurd w h⟩
theorem zan_l {rt : Nat} {x : Int64} {M : zM} (h : rt = 1) : zan rt (some (.long x), M) := ⟨fun w => by omega, fun _ => ⟨x, rfl⟩⟩
theorem zan_n {rt : Nat} {M : zM} (h : rt = 2) : zan rt (none, M) := ⟨fun w => by omega, fun w => by omega⟩
theorem zov_c {rt : Nat} {c : Prop} {_ : Decidable c} {r : zR} (h : c → zan rt r) : zov rt (fun _ _ => if c then some r else none) := by
  by_cases hc : c
  · simp only [hc, if_true]; exact zov_r (h hc)
  · simp only [hc, if_false]; exact zov_n
set_option maxHeartbeats 4000000 in
theorem zovall {rt : Nat} {call : zF} (I : Instr) (ax : List Nat) (v : Value) (ls : zLs) (st : List Value) (M : zM) : zov rt (fun j kk => zst rt call j kk I ax v ls st M) := by
  cases I <;> simp only [zst] <;> first
    | exact zov_n
    | exact zov_k
    | exact zov_j
    | exact zov_lI fun _ => zov_k
    | exact zov_lL fun _ => zov_k
    | exact zov_lA fun _ => zov_k
    | exact zov_I1 fun _ _ => zov_s1 fun _ => zov_k
    | exact zov_L1 fun _ _ => zov_s2 fun _ => zov_k
    | exact zov_A1 fun _ _ => zov_s1 fun _ => zov_k
    | exact zov_A1 fun _ _ => zov_k
    | exact zov_I2 fun _ _ _ => zov_k
    | exact zov_I2 fun _ _ _ => zov_gd fun _ => zov_k
    | exact zov_I1 fun _ _ => zov_k
    | exact zov_L2 fun _ _ _ => zov_k
    | exact zov_LI fun _ _ _ => zov_k
    | exact zov_L1 fun _ _ => zov_k
    | exact zov_A1 fun _ _ => zov_if (zov_gd fun _ => zov_k) (zov_gd fun _ => zov_k)
    | exact zov_pf
    | exact zov_AI fun _ _ _ => zov_gd fun _ => zov_k
    | exact zov_AII fun _ _ _ _ => zov_gd fun h => zov_k
    | exact zov_AIL fun _ _ _ _ => zov_gd fun _ => zov_k
    | exact zov_AIA fun _ _ _ _ => zov_gd fun _ => zov_k
    | exact zov_A1 fun _ _ => zov_gd fun _ => zov_k
    | exact zov_I1 fun _ _ => zov_gd fun h => zov_k
    | exact zov_gd fun h => zov_k
    | exact zov_pop (fun _ _ => zov_gd fun _ => zov_rk) _ _ _
    | exact zov_pop (fun _ _ => zov_gd fun _ => zov_if (by split <;> first | exact zov_k | exact zov_n) zov_rk) _ _ _
    | exact zov_I2 fun _ _ _ => zov_cmp zov_j zov_k
    | exact zov_I1 fun _ _ => zov_cmp zov_j zov_k
    | exact zov_I1 fun _ _ => zov_j
    | (refine zov_lI fun _ => ?_; split <;> first | exact zov_s1 fun _ => zov_k | exact zov_n)
    | (split <;> first | exact zov_k | exact zov_n)
    | (refine zov_if ?_ (zov_if zov_mth (zov_pop (fun _ _ => zov_gd fun _ => zov_rk) _ _ _)); split <;> first | exact zov_gd fun _ => zov_cp | exact zov_n)
    | (split <;> first | exact zov_c zan_l | exact zov_c zan_n | exact zov_n)
    | (split <;> first | (unfold zrt; split <;> first | exact zov_r (zan_i (by decide)) | exact zov_gd fun _ => zov_r (zan_i (by decide)) | exact zov_n) | exact zov_n)
theorem zrb_ty {rt : Nat} {call : zF} {j : zJ} (h : ∀ k ls st M r, j k ls st M = some r → zan rt r) : ∀ (b : List zE) (ls : zLs) (st : List Value) (M : zM) (r : zR), zrb rt call j b ls st M = some r → zan rt r
  | [], _, _, _, _, g => by simp [zrb] at g
  | e :: es, ls, st, M, r, g => by
    simp only [zrb] at g
    rcases zovall (rt := rt) (call := call) e.2.2.1 e.2.2.2.1 e.2.2.2.2 ls st M with q | ⟨ls', st', M', q⟩ | ⟨b, ls', st', M', q⟩ | ⟨r', p, q⟩
    · dsimp only at q; rw [q] at g; cases g
    · dsimp only at q; rw [q] at g; exact zrb_ty h es _ _ _ _ g
    · dsimp only at q; rw [q] at g; exact h _ _ _ _ _ g
    · dsimp only at q; rw [q] at g; cases g; exact p
theorem zrn_ty {rt : Nat} {call : zF} {cd : List (List zE)} : ∀ (n k : Nat) (ls : zLs) (st : List Value) (M : zM) (r : zR), zrn rt call cd n k ls st M = some r → zan rt r
  | 0, _, _, _, _, _, g => by simp [zrn] at g
  | n + 1, k, ls, st, M, r, g => by
    rw [zrn] at g
    cases hb : znth cd k with
    | none => rw [hb] at g; cases g
    | some b =>
      rw [hb] at g
      exact zrb_ty (fun k ls st M r h => zrn_ty n k ls st M r h) b ls st M r g
theorem zX_ty {rt d : Nat} {cd : List (List zE)} {k : Nat} {ls : zLs} {st : List Value} {M : zM} {r : zR} (h : zX rt (zCd zT d) cd k ls st M = some r) : zan rt r := by
  obtain ⟨n, hn⟩ := (zX_iff (zCd_mem d)).mp h
  exact zrn_ty _ _ _ _ _ _ hn
theorem zCd_ty {d j : Nat} {t : zMt} {as : List Value} {M : zM} {r : zR} (ht : zT j = some t) (h : zCd zT (d + 1) j as M = some r) : zan (zmRt t) r := by
  rw [zCd_eq ht] at h
  exact zX_ty (zgd_s h).2
