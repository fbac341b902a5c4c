section
variable {rt : Nat} {call : zF} (hc : ∀ j as M r, call j as M = some r → zle M r.2)
theorem zone_e (hc : ∀ j as M r, call j as M = some r → zle M r.2) (I : Instr) (ax : List Nat) (v : Value) (ls : zLs) (st : List Value) (M : zM) : (∀ j kk, zst rt call j kk I ax v ls st M = none) ∨ (∃ ls' st' M', zle M M' ∧ ∀ j kk, zst rt call j kk I ax v ls st M = kk ls' st' M') ∨ (∃ b ls' st' M', zle M M' ∧ ∀ j kk, zst rt call j kk I ax v ls st M = j b ls' st' M') ∨ (∃ r : zR, zle M r.2 ∧ ∀ j kk, zst rt call j kk I ax v ls st M = some r) := zone_all hc I ax v ls st M
theorem zrb_mono (hc : ∀ j as M r, call j as M = some r → zle M r.2) {j1 j2 : zJ} (h : ∀ k ls st M r, j1 k ls st M = some r → j2 k ls st M = some r) : ∀ (b : List zE) (ls : zLs) (st : List Value) (M : zM) (r : zR), zrb rt call j1 b ls st M = some r → zrb rt call j2 b ls st M = some r
  | [], _, _, _, _, g => by simp [zrb] at g
  | e :: es, ls, st, M, r, g => by
    simp only [zrb] at g ⊢
    rcases zone_e (rt := rt) hc e.2.2.1 e.2.2.2.1 e.2.2.2.2 ls st M with q | ⟨ls', st', M', -, q⟩ | ⟨b, ls', st', M', -, q⟩ | ⟨r', -, q⟩
    · rw [q] at g; cases g
    · rw [q] at g ⊢; exact zrb_mono hc h es _ _ _ _ g
    · rw [q] at g ⊢; exact h _ _ _ _ _ g
    · rw [q] at g ⊢; exact g
theorem zrn_step (hc : ∀ j as M r, call j as M = some r → zle M r.2) {cd : List (List zE)} : ∀ (n k : Nat) (ls : zLs) (st : List Value) (M : zM) (r : zR), zrn rt call cd n k ls st M = some r → zrn rt call cd (n + 1) k ls st M = some r
  | 0, _, _, _, _, _, g => by simp [zrn] at g
  | n + 1, k, ls, st, M, r, g => by
    rw [zrn] at g ⊢
    cases hb : znth cd k with
    | none => rw [hb] at g; exact g
    | some b =>
      rw [hb] at g
      exact zrb_mono hc (fun k ls st M r h => zrn_step hc n k ls st M r h) b ls st M r g
theorem zrn_le (hc : ∀ j as M r, call j as M = some r → zle M r.2) {cd : List (List zE)} {n m k : Nat} {ls : zLs} {st : List Value} {M : zM} {r : zR} (h : n ≤ m) (g : zrn rt call cd n k ls st M = some r) : zrn rt call cd m k ls st M = some r := by
  induction h with
  | refl => exact g
  | step _ ih => exact zrn_step hc _ _ _ _ _ _ ih
theorem zX_iff (hc : ∀ j as M r, call j as M = some r → zle M r.2) {cd : List (List zE)} {k : Nat} {ls : zLs} {st : List Value} {M : zM} {r : zR} : zX rt call cd k ls st M = some r ↔ ∃ n, zrn rt call cd n k ls st M = some r := by
  unfold zX zlm
  by_cases h : ∃ r, ∃ n, zrn rt call cd n k ls st M = some r
  · rw [dif_pos h]
    obtain ⟨n, hn⟩ := h.choose_spec
    constructor
    · intro e; exact ⟨n, by rw [hn]; exact e⟩
    · rintro ⟨m, hm⟩
      have h1 := zrn_le hc (Nat.le_max_left n m) hn
      have h2 := zrn_le hc (Nat.le_max_right n m) hm
      rw [h1] at h2
      exact h2
  · rw [dif_neg h]
    constructor
    · intro e; cases e
    · intro e; exact absurd ⟨r, e⟩ h
theorem zrb_lim (hc : ∀ j as M r, call j as M = some r → zle M r.2) {cd : List (List zE)} : ∀ (b : List zE) (ls : zLs) (st : List Value) (M : zM) (r : zR), zrb rt call (zX rt call cd) b ls st M = some r ↔ ∃ n, zrb rt call (zrn rt call cd n) b ls st M = some r
  | [], _, _, _, _ => by simp [zrb]
  | e :: es, ls, st, M, r => by
    simp only [zrb]
    rcases zone_e (rt := rt) hc e.2.2.1 e.2.2.2.1 e.2.2.2.2 ls st M with q | ⟨ls', st', M', -, q⟩ | ⟨b, ls', st', M', -, q⟩ | ⟨r', -, q⟩
    · simp only [q]; simp
    · simp only [q]; exact zrb_lim hc es _ _ _ _
    · simp only [q]; exact zX_iff hc
    · simp only [q]; simp
theorem zX_at (hc : ∀ j as M r, call j as M = some r → zle M r.2) {cd : List (List zE)} {k : Nat} {b : List zE} (hb : znth cd k = some b) (ls : zLs) (st : List Value) (M : zM) : zX rt call cd k ls st M = zrb rt call (zX rt call cd) b ls st M := by
  apply Option.ext
  intro r
  rw [zX_iff hc, zrb_lim hc]
  constructor
  · rintro ⟨n, hn⟩
    cases n with
    | zero => simp [zrn] at hn
    | succ n => rw [zrn, hb] at hn; exact ⟨n, hn⟩
  · rintro ⟨n, hn⟩
    exact ⟨n + 1, by rw [zrn, hb]; exact hn⟩
theorem zrb_le (hc : ∀ j as M r, call j as M = some r → zle M r.2) {j : zJ} (h : ∀ k ls st M r, j k ls st M = some r → zle M r.2) : ∀ (b : List zE) (ls : zLs) (st : List Value) (M : zM) (r : zR), zrb rt call j b ls st M = some r → zle M r.2
  | [], _, _, _, _, g => by simp [zrb] at g
  | e :: es, ls, st, M, r, g => by
    simp only [zrb] at g
    rcases zone_e (rt := rt) hc e.2.2.1 e.2.2.2.1 e.2.2.2.2 ls st M with q | ⟨ls', st', M', p, q⟩ | ⟨b, ls', st', M', p, q⟩ | ⟨r', p, q⟩
    · rw [q] at g; cases g
    · rw [q] at g; exact zle_tr p (zrb_le hc h es _ _ _ _ g)
    · rw [q] at g; exact zle_tr p (h _ _ _ _ _ g)
    · rw [q] at g; cases g; exact p
theorem zrn_mem (hc : ∀ j as M r, call j as M = some r → zle M r.2) {cd : List (List zE)} : ∀ (n k : Nat) (ls : zLs) (st : List Value) (M : zM) (r : zR), zrn rt call cd n k ls st M = some r → zle M r.2
  | 0, _, _, _, _, _, g => by simp [zrn] at g
  | n + 1, k, ls, st, M, r, g => by
    rw [zrn] at g
    cases hb : znth cd k with
    | none => rw [hb] at g; cases g
    | some b =>
      rw [hb] at g
      exact zrb_le hc (fun k ls st M r h => zrn_mem hc n k ls st M r h) b ls st M r g
theorem zX_mem (hc : ∀ j as M r, call j as M = some r → zle M r.2) {cd : List (List zE)} {k : Nat} {ls : zLs} {st : List Value} {M : zM} {r : zR} (h : zX rt call cd k ls st M = some r) : zle M r.2 := by
  obtain ⟨n, hn⟩ := (zX_iff hc).mp h
  exact zrn_mem hc _ _ _ _ _ _ hn
end
