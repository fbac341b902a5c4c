/-! THE SMALL MACHINE IS SOUND: one instruction -/
theorem zgd_s {b : Bool} {x : Option zR} {r : zR} (h : zgd b x = some r) : b = true ∧ x = some r := by
  cases b
  · cases h
  · exact ⟨rfl, h⟩
theorem zI1_s {st : List Value} {k : Int32 → List Value → Option zR} {r : zR} (h : zI1 st k = some r) : ∃ x st', st = .int x :: st' ∧ k x st' = some r := by
  unfold zI1 at h; split at h
  · exact ⟨_, _, rfl, h⟩
  · cases h
theorem zI2_s {st : List Value} {k : Int32 → Int32 → List Value → Option zR} {r : zR} (h : zI2 st k = some r) : ∃ x y st', st = .int y :: .int x :: st' ∧ k x y st' = some r := by
  unfold zI2 at h; split at h
  · exact ⟨_, _, _, rfl, h⟩
  · cases h
theorem zL1_s {st : List Value} {k : Int64 → List Value → Option zR} {r : zR} (h : zL1 st k = some r) : ∃ x st', st = .long x :: st' ∧ k x st' = some r := by
  unfold zL1 at h; split at h
  · exact ⟨_, _, rfl, h⟩
  · cases h
theorem zL2_s {st : List Value} {k : Int64 → Int64 → List Value → Option zR} {r : zR} (h : zL2 st k = some r) : ∃ x y st', st = .long y :: .long x :: st' ∧ k x y st' = some r := by
  unfold zL2 at h; split at h
  · exact ⟨_, _, _, rfl, h⟩
  · cases h
theorem zLI_s {st : List Value} {k : Int64 → Int32 → List Value → Option zR} {r : zR} (h : zLI st k = some r) : ∃ x y st', st = .int y :: .long x :: st' ∧ k x y st' = some r := by
  unfold zLI at h; split at h
  · exact ⟨_, _, _, rfl, h⟩
  · cases h
theorem zA1_s {st : List Value} {k : Nat → List Value → Option zR} {r : zR} (h : zA1 st k = some r) : ∃ x st', st = .ref x :: st' ∧ k x st' = some r := by
  unfold zA1 at h; split at h
  · exact ⟨_, _, rfl, h⟩
  · cases h
theorem zAI_s {st : List Value} {k : Nat → Int32 → List Value → Option zR} {r : zR} (h : zAI st k = some r) : ∃ a i st', st = .int i :: .ref a :: st' ∧ k a i st' = some r := by
  unfold zAI at h; split at h
  · exact ⟨_, _, _, rfl, h⟩
  · cases h
theorem zAII_s {st : List Value} {k : Nat → Int32 → Int32 → List Value → Option zR} {r : zR} (h : zAII st k = some r) : ∃ a i x st', st = .int x :: .int i :: .ref a :: st' ∧ k a i x st' = some r := by
  unfold zAII at h; split at h
  · exact ⟨_, _, _, _, rfl, h⟩
  · cases h
theorem zAIL_s {st : List Value} {k : Nat → Int32 → Int64 → List Value → Option zR} {r : zR} (h : zAIL st k = some r) : ∃ a i x st', st = .long x :: .int i :: .ref a :: st' ∧ k a i x st' = some r := by
  unfold zAIL at h; split at h
  · exact ⟨_, _, _, _, rfl, h⟩
  · cases h
theorem zAIA_s {st : List Value} {k : Nat → Int32 → Nat → List Value → Option zR} {r : zR} (h : zAIA st k = some r) : ∃ a i x st', st = .ref x :: .int i :: .ref a :: st' ∧ k a i x st' = some r := by
  unfold zAIA at h; split at h
  · exact ⟨_, _, _, _, rfl, h⟩
  · cases h
theorem zlI_s {ls : zLs} {i : Nat} {k : Int32 → Option zR} {r : zR} (h : zlI ls i k = some r) : ∃ x, znth ls i = some (some (.int x)) ∧ k x = some r := by
  unfold zlI at h; split at h
  · exact ⟨_, by assumption, h⟩
  · cases h
theorem zlL_s {ls : zLs} {i : Nat} {k : Int64 → Option zR} {r : zR} (h : zlL ls i k = some r) : ∃ x, znth ls i = some (some (.long x)) ∧ k x = some r := by
  unfold zlL at h; split at h
  · exact ⟨_, by assumption, h⟩
  · cases h
theorem zlA_s {ls : zLs} {i : Nat} {k : Nat → Option zR} {r : zR} (h : zlA ls i k = some r) : ∃ x, znth ls i = some (some (.ref x)) ∧ k x = some r := by
  unfold zlA at h; split at h
  · exact ⟨_, by assumption, h⟩
  · cases h
theorem zs1_s {ls : zLs} {i : Nat} {v : Value} {k : zLs → Option zR} {r : zR} (h : zs1 ls i v k = some r) : zfr ls i = true ∧ i < ls.length ∧ k (zset ls i (some v)) = some r := by
  unfold zs1 at h; split at h
  · rename_i g
    rw [Bool.and_eq_true, decide_eq_true_eq] at g
    exact ⟨g.1, g.2, h⟩
  · cases h
theorem zs2_s {ls : zLs} {i : Nat} {v : Value} {k : zLs → Option zR} {r : zR} (h : zs2 ls i v k = some r) : zfr ls i = true ∧ i + 1 < ls.length ∧ k (zset (zset ls i (some v)) (i + 1) none) = some r := by
  unfold zs2 at h; split at h
  · rename_i g
    rw [Bool.and_eq_true, decide_eq_true_eq] at g
    exact ⟨g.1, g.2, h⟩
  · cases h
section
variable {p : Program} {l : Launch} {e : Env} {R : Room} {s : State} {m : MethodId} {args : Array Value} {below : List Frame} {meth : Method} {c : Code} {Q : State → Prop} {cc : ByteArray} {G : zG} {M0 : zM} {r : zR} {nL : Nat} {own nm : String} {d pc : Nat} {kk : zC}
theorem zs_iload_n (X : zCx G p R s m args meth c cc nL own nm d) (hkk : zCo G M0 r p l e R s m args below meth c Q nL kk (pc + 1)) {k : Fin 4} {i : Nat} (hdg : decode cc pc = .ok (.iload_n k, 1)) (hi : (k : Nat) = i) : zCo G M0 r p l e R s m args below meth c Q nL (fun ls st M => zlI ls i (fun x => kk ls (.int x :: st) M)) pc := by
  intro ls st M H locs L h0 hn hM hR
  obtain ⟨x, h1, h⟩ := zlI_s h0
  exact lv_iload_n X.1 X.2.1 hdg hi (hR.2.2.2.2 _ _ h1) (hkk _ _ _ _ _ _ h hn hM hR)
theorem zs_iload (X : zCx G p R s m args meth c cc nL own nm d) (hkk : zCo G M0 r p l e R s m args below meth c Q nL kk (pc + 2)) {i : Nat} (hdg : decode cc pc = .ok (.iload i, 2)) : zCo G M0 r p l e R s m args below meth c Q nL (fun ls st M => zlI ls i (fun x => kk ls (.int x :: st) M)) pc := by
  intro ls st M H locs L h0 hn hM hR
  obtain ⟨x, h1, h⟩ := zlI_s h0
  exact lv_iload X.1 X.2.1 hdg (hR.2.2.2.2 _ _ h1) (hkk _ _ _ _ _ _ h hn hM hR)
theorem zs_lload_n (X : zCx G p R s m args meth c cc nL own nm d) (hkk : zCo G M0 r p l e R s m args below meth c Q nL kk (pc + 1)) {k : Fin 4} {i : Nat} (hdg : decode cc pc = .ok (.lload_n k, 1)) (hi : (k : Nat) = i) : zCo G M0 r p l e R s m args below meth c Q nL (fun ls st M => zlL ls i (fun x => kk ls (.long x :: st) M)) pc := by
  intro ls st M H locs L h0 hn hM hR
  obtain ⟨x, h1, h⟩ := zlL_s h0
  exact lv_lload_n X.1 X.2.1 hdg hi (hR.2.2.2.2 _ _ h1) (hkk _ _ _ _ _ _ h hn hM hR)
theorem zs_lload (X : zCx G p R s m args meth c cc nL own nm d) (hkk : zCo G M0 r p l e R s m args below meth c Q nL kk (pc + 2)) {i : Nat} (hdg : decode cc pc = .ok (.lload i, 2)) : zCo G M0 r p l e R s m args below meth c Q nL (fun ls st M => zlL ls i (fun x => kk ls (.long x :: st) M)) pc := by
  intro ls st M H locs L h0 hn hM hR
  obtain ⟨x, h1, h⟩ := zlL_s h0
  exact lv_lload X.1 X.2.1 hdg (hR.2.2.2.2 _ _ h1) (hkk _ _ _ _ _ _ h hn hM hR)
theorem zs_aload_n (X : zCx G p R s m args meth c cc nL own nm d) (hkk : zCo G M0 r p l e R s m args below meth c Q nL kk (pc + 1)) {k : Fin 4} {i : Nat} (hdg : decode cc pc = .ok (.aload_n k, 1)) (hi : (k : Nat) = i) : zCo G M0 r p l e R s m args below meth c Q nL (fun ls st M => zlA ls i (fun x => kk ls (.ref x :: st) M)) pc := by
  intro ls st M H locs L h0 hn hM hR
  obtain ⟨x, h1, h⟩ := zlA_s h0
  exact lv_aload_n X.1 X.2.1 hdg hi (hR.2.2.2.2 _ _ h1) (hkk _ _ _ _ _ _ h hn hM hR)
theorem zs_aload (X : zCx G p R s m args meth c cc nL own nm d) (hkk : zCo G M0 r p l e R s m args below meth c Q nL kk (pc + 2)) {i : Nat} (hdg : decode cc pc = .ok (.aload i, 2)) : zCo G M0 r p l e R s m args below meth c Q nL (fun ls st M => zlA ls i (fun x => kk ls (.ref x :: st) M)) pc := by
  intro ls st M H locs L h0 hn hM hR
  obtain ⟨x, h1, h⟩ := zlA_s h0
  exact lv_aload X.1 X.2.1 hdg (hR.2.2.2.2 _ _ h1) (hkk _ _ _ _ _ _ h hn hM hR)
theorem zs_istore_n (X : zCx G p R s m args meth c cc nL own nm d) (hkk : zCo G M0 r p l e R s m args below meth c Q nL kk (pc + 1)) {k : Fin 4} {i : Nat} (hdg : decode cc pc = .ok (.istore_n k, 1)) (hi : (k : Nat) = i) : zCo G M0 r p l e R s m args below meth c Q nL (fun ls st M => zI1 st (fun x st => zs1 ls i (.int x) (fun ls => kk ls st M))) pc := by
  intro ls st M H locs L h0 hn hM hR
  obtain ⟨x, st, rfl, h⟩ := zI1_s h0
  obtain ⟨h1, h2, h⟩ := zs1_s h
  exact lv_istore_n X.1 X.2.1 hdg hi (zLR_has hR.2.2) h2 rfl (fun L1 h3 => hkk _ _ _ _ _ _ h (by rw [zset_len]; exact hn) hM (zRl_ls hR (zLR_st1 (v := .int x) h1 h2 h3)))
theorem zs_istore (X : zCx G p R s m args meth c cc nL own nm d) (hkk : zCo G M0 r p l e R s m args below meth c Q nL kk (pc + 2)) {i : Nat} (hdg : decode cc pc = .ok (.istore i, 2)) : zCo G M0 r p l e R s m args below meth c Q nL (fun ls st M => zI1 st (fun x st => zs1 ls i (.int x) (fun ls => kk ls st M))) pc := by
  intro ls st M H locs L h0 hn hM hR
  obtain ⟨x, st, rfl, h⟩ := zI1_s h0
  obtain ⟨h1, h2, h⟩ := zs1_s h
  exact lv_istore X.1 X.2.1 hdg (zLR_has hR.2.2) h2 rfl (fun L1 h3 => hkk _ _ _ _ _ _ h (by rw [zset_len]; exact hn) hM (zRl_ls hR (zLR_st1 (v := .int x) h1 h2 h3)))
theorem zs_lstore_n (X : zCx G p R s m args meth c cc nL own nm d) (hkk : zCo G M0 r p l e R s m args below meth c Q nL kk (pc + 1)) {k : Fin 4} {i : Nat} (hdg : decode cc pc = .ok (.lstore_n k, 1)) (hi : (k : Nat) = i) : zCo G M0 r p l e R s m args below meth c Q nL (fun ls st M => zL1 st (fun x st => zs2 ls i (.long x) (fun ls => kk ls st M))) pc := by
  intro ls st M H locs L h0 hn hM hR
  obtain ⟨x, st, rfl, h⟩ := zL1_s h0
  obtain ⟨h1, h2, h⟩ := zs2_s h
  exact lv_lstore_n X.1 X.2.1 hdg hi (zLR_has hR.2.2) h2 rfl (fun L1 h3 => hkk _ _ _ _ _ _ h (by rw [zset_len, zset_len]; exact hn) hM (zRl_ls hR (zLR_st2 (v := .long x) h1 h2 h3)))
theorem zs_lstore (X : zCx G p R s m args meth c cc nL own nm d) (hkk : zCo G M0 r p l e R s m args below meth c Q nL kk (pc + 2)) {i : Nat} (hdg : decode cc pc = .ok (.lstore i, 2)) : zCo G M0 r p l e R s m args below meth c Q nL (fun ls st M => zL1 st (fun x st => zs2 ls i (.long x) (fun ls => kk ls st M))) pc := by
  intro ls st M H locs L h0 hn hM hR
  obtain ⟨x, st, rfl, h⟩ := zL1_s h0
  obtain ⟨h1, h2, h⟩ := zs2_s h
  exact lv_lstore X.1 X.2.1 hdg (zLR_has hR.2.2) h2 rfl (fun L1 h3 => hkk _ _ _ _ _ _ h (by rw [zset_len, zset_len]; exact hn) hM (zRl_ls hR (zLR_st2 (v := .long x) h1 h2 h3)))
theorem zs_astore_n (X : zCx G p R s m args meth c cc nL own nm d) (hkk : zCo G M0 r p l e R s m args below meth c Q nL kk (pc + 1)) {k : Fin 4} {i : Nat} (hdg : decode cc pc = .ok (.astore_n k, 1)) (hi : (k : Nat) = i) : zCo G M0 r p l e R s m args below meth c Q nL (fun ls st M => zA1 st (fun x st => zs1 ls i (.ref x) (fun ls => kk ls st M))) pc := by
  intro ls st M H locs L h0 hn hM hR
  obtain ⟨x, st, rfl, h⟩ := zA1_s h0
  obtain ⟨h1, h2, h⟩ := zs1_s h
  exact lv_astore_n X.1 X.2.1 hdg hi (zLR_has hR.2.2) h2 rfl (fun L1 h3 => hkk _ _ _ _ _ _ h (by rw [zset_len]; exact hn) hM (zRl_ls hR (zLR_st1 (v := .ref x) h1 h2 h3)))
theorem zs_astore (X : zCx G p R s m args meth c cc nL own nm d) (hkk : zCo G M0 r p l e R s m args below meth c Q nL kk (pc + 2)) {i : Nat} (hdg : decode cc pc = .ok (.astore i, 2)) : zCo G M0 r p l e R s m args below meth c Q nL (fun ls st M => zA1 st (fun x st => zs1 ls i (.ref x) (fun ls => kk ls st M))) pc := by
  intro ls st M H locs L h0 hn hM hR
  obtain ⟨x, st, rfl, h⟩ := zA1_s h0
  obtain ⟨h1, h2, h⟩ := zs1_s h
  exact lv_astore X.1 X.2.1 hdg (zLR_has hR.2.2) h2 rfl (fun L1 h3 => hkk _ _ _ _ _ _ h (by rw [zset_len]; exact hn) hM (zRl_ls hR (zLR_st1 (v := .ref x) h1 h2 h3)))
theorem zs_iinc (X : zCx G p R s m args meth c cc nL own nm d) (hkk : zCo G M0 r p l e R s m args below meth c Q nL kk (pc + 3)) {i : Nat} {n : Int} {w : Int32} (hdg : decode cc pc = .ok (.iinc i n, 3)) (hw : Int32.ofInt n = w) : zCo G M0 r p l e R s m args below meth c Q nL (fun ls st M => zlI ls i (fun x => zs1 ls i (.int (x + w)) (fun ls => kk ls st M))) pc := by
  intro ls st M H locs L h0 hn hM hR
  obtain ⟨x, h0, h⟩ := zlI_s h0
  obtain ⟨h1, h2, h⟩ := zs1_s h
  obtain ⟨k, hk⟩ := List.getElem?_of_mem (zll_in (G := G) h0)
  exact lv_iinc X.1 X.2.1 hdg (zLR_has hR.2.2) hk (by rw [hw]) h2 rfl (fun L1 h3 => hkk _ _ _ _ _ _ h (by rw [zset_len]; exact hn) hM (zRl_ls hR (zLR_st1 (v := .int (x + w)) h1 h2 h3)))
theorem zs_iconst (X : zCx G p R s m args meth c cc nL own nm d) (hkk : zCo G M0 r p l e R s m args below meth c Q nL kk (pc + 1)) {v : Int32} {n : Int} (hdg : decode cc pc = .ok (.iconst n, 1)) (hv : Int32.ofInt n = v) : zCo G M0 r p l e R s m args below meth c Q nL (fun ls st M => kk ls (.int v :: st) M) pc := by
  intro ls st M H locs L h0 hn hM hR
  exact lv_iconst X.1 X.2.1 hdg hv (hkk _ _ _ _ _ _ h0 hn hM hR)
theorem zs_bipush (X : zCx G p R s m args meth c cc nL own nm d) (hkk : zCo G M0 r p l e R s m args below meth c Q nL kk (pc + 2)) {v : Int32} {n : Int} (hdg : decode cc pc = .ok (.bipush n, 2)) (hv : (Int8.ofInt n).toInt32 = v) : zCo G M0 r p l e R s m args below meth c Q nL (fun ls st M => kk ls (.int v :: st) M) pc := by
  intro ls st M H locs L h0 hn hM hR
  exact lv_bipush X.1 X.2.1 hdg hv (hkk _ _ _ _ _ _ h0 hn hM hR)
theorem zs_sipush (X : zCx G p R s m args meth c cc nL own nm d) (hkk : zCo G M0 r p l e R s m args below meth c Q nL kk (pc + 3)) {v : Int32} {n : Int} (hdg : decode cc pc = .ok (.sipush n, 3)) (hv : (Int16.ofInt n).toInt32 = v) : zCo G M0 r p l e R s m args below meth c Q nL (fun ls st M => kk ls (.int v :: st) M) pc := by
  intro ls st M H locs L h0 hn hM hR
  exact lv_sipush X.1 X.2.1 hdg hv (hkk _ _ _ _ _ _ h0 hn hM hR)
theorem zs_lconst (X : zCx G p R s m args meth c cc nL own nm d) (hkk : zCo G M0 r p l e R s m args below meth c Q nL kk (pc + 1)) {v : Int64} {n : Fin 2} (hdg : decode cc pc = .ok (.lconst n, 1)) (hv : Int64.ofNat (n : Nat) = v) : zCo G M0 r p l e R s m args below meth c Q nL (fun ls st M => kk ls (.long v :: st) M) pc := by
  intro ls st M H locs L h0 hn hM hR
  exact lv_lconst X.1 X.2.1 hdg hv (hkk _ _ _ _ _ _ h0 hn hM hR)
theorem zs_ldc (X : zCx G p R s m args meth c cc nL own nm d) (hkk : zCo G M0 r p l e R s m args below meth c Q nL kk (pc + 2)) {v : Int32} {ix w : Nat} (hdg : decode cc pc = .ok (.ldc ix, 2)) (hw : zw w = some (.constant own ix v)) : zCo G M0 r p l e R s m args below meth c Q nL (fun ls st M => kk ls (.int v :: st) M) pc := by
  intro ls st M H locs L h0 hn hM hR
  exact lv_ldc X.1 X.2.1 X.2.2.2.1 (X.2.2.2.2.1 _ (zw_in hw)) hdg (hkk _ _ _ _ _ _ h0 hn hM hR)
theorem zs_ldcw (X : zCx G p R s m args meth c cc nL own nm d) (hkk : zCo G M0 r p l e R s m args below meth c Q nL kk (pc + 3)) {v : Int32} {ix w : Nat} (hdg : decode cc pc = .ok (.ldc_w ix, 3)) (hw : zw w = some (.constant own ix v)) : zCo G M0 r p l e R s m args below meth c Q nL (fun ls st M => kk ls (.int v :: st) M) pc := by
  intro ls st M H locs L h0 hn hM hR
  exact lv_ldcw X.1 X.2.1 X.2.2.2.1 (X.2.2.2.2.1 _ (zw_in hw)) hdg (hkk _ _ _ _ _ _ h0 hn hM hR)
theorem zs_ldc2 (X : zCx G p R s m args meth c cc nL own nm d) (hkk : zCo G M0 r p l e R s m args below meth c Q nL kk (pc + 3)) {v : Int64} {ix w : Nat} (hdg : decode cc pc = .ok (.ldc2_w ix, 3)) (hw : zw w = some (.constantLong own ix v)) : zCo G M0 r p l e R s m args below meth c Q nL (fun ls st M => kk ls (.long v :: st) M) pc := by
  intro ls st M H locs L h0 hn hM hR
  exact lv_ldc2 X.1 X.2.1 X.2.2.2.1 (X.2.2.2.2.1 _ (zw_in hw)) hdg (hkk _ _ _ _ _ _ h0 hn hM hR)
theorem zs_ldcS (X : zCx G p R s m args meth c cc nL own nm d) (hkk : zCo G M0 r p l e R s m args below meth c Q nL kk (pc + 2)) {ix o : Nat} {q : String × Nat × String × Nat} (hdg : decode cc pc = .ok (.ldc ix, 2)) (hq : q ∈ zstq) (h1 : q.1 = own) (h2 : q.2.1 = ix) (h3 : o = 1000 + 2 * q.2.2.2) : zCo G M0 r p l e R s m args below meth c Q nL (fun ls st M => kk ls (.ref o :: st) M) pc := by
  intro ls st M H locs L h0 hn hM hR
  subst h1; subst h2; subst h3
  have hz := X.2.2.2.2.2.2.1.2.2.2.2.2.1 q hq
  have e : zad G (1000 + 2 * q.2.2.2) = gA G (1000 + 2 * q.2.2.2) := by unfold zad; rw [if_neg (by omega)]
  refine va_ldcS X.1 X.2.1 X.2.2.2.1 hz hdg ?_
  rw [← e]
  exact hkk _ _ _ _ _ _ h0 hn hM hR
theorem zs_getsI (X : zCx G p R s m args meth c cc nL own nm d) (hkk : zCo G M0 r p l e R s m args below meth c Q nL kk (pc + 3)) {ix w : Nat} (hdg : decode cc pc = .ok (.getstatic ix, 3)) (hw : zw w = some (.fieldLink own ix "java/lang/String" "COMPACT_STRINGS" "Z")) : zCo G M0 r p l e R s m args below meth c Q nL (fun ls st M => kk ls (.int 1 :: st) M) pc := by
  intro ls st M H locs L h0 hn hM hR
  exact va_gets X.1 X.2.1 X.2.2.2.2.2.2.1.2.2.1 hR.2.1 X.2.2.2.1 (X.2.2.2.2.1 _ (zw_in hw)) (fun _ h0 => h0) hdg (hkk _ _ _ _ _ _ h0 hn hM hR)
theorem zs_gets2 (X : zCx G p R s m args meth c cc nL own nm d) (hkk : zCo G M0 r p l e R s m args below meth c Q nL kk (pc + 3)) {ix w : Nat} (hdg : decode cc pc = .ok (.getstatic ix, 3)) (hw : zw w = some (.fieldLink own ix "CoasterDay$Rules" "SHOWING_FREE" "[J")) : zCo G M0 r p l e R s m args below meth c Q nL (fun ls st M => kk ls (.ref 2 :: st) M) pc := by
  intro ls st M H locs L h0 hn hM hR
  exact va_gets X.1 X.2.1 X.2.2.2.2.2.2.1.2.1.1 hR.2.1 X.2.2.2.1 (X.2.2.2.2.1 _ (zw_in hw)) (fun _ h0 => h0) hdg (hkk _ _ _ _ _ _ h0 hn hM hR)
theorem zs_gets3 (X : zCx G p R s m args meth c cc nL own nm d) (hkk : zCo G M0 r p l e R s m args below meth c Q nL kk (pc + 3)) {ix w : Nat} {fl : UInt32} (hdg : decode cc pc = .ok (.getstatic ix, 3)) (hw : zw w = some (.fieldLink own ix "jdk/internal/util/Preconditions" "SIOOBE_FORMATTER" "Ljava/util/function/BiFunction;")) : zCo G M0 r p l e R s m args below meth c Q nL (fun ls st M => kk ls (.float fl :: st) M) pc := by
  intro ls st M H locs L h0 hn hM hR
  exact va_gets X.1 X.2.1 X.2.2.2.2.2.2.1.2.2.2.1 hR.2.1 X.2.2.2.1 (X.2.2.2.2.1 _ (zw_in hw)) (fun _ h0 => h0) hdg (hkk _ _ _ _ _ _ h0 hn hM hR)
theorem zs_iadd (X : zCx G p R s m args meth c cc nL own nm d) (hkk : zCo G M0 r p l e R s m args below meth c Q nL kk (pc + 1)) (hdg : decode cc pc = .ok (.iadd, 1)) : zCo G M0 r p l e R s m args below meth c Q nL (fun ls st M => zI2 st (fun x y st => kk ls (.int (x + y) :: st) M)) pc := by
  intro ls st M H locs L h0 hn hM hR
  obtain ⟨x, y, st, rfl, h⟩ := zI2_s h0
  exact lv_iadd X.1 X.2.1 hdg (hkk _ _ _ _ _ _ h hn hM hR)
theorem zs_isub (X : zCx G p R s m args meth c cc nL own nm d) (hkk : zCo G M0 r p l e R s m args below meth c Q nL kk (pc + 1)) (hdg : decode cc pc = .ok (.isub, 1)) : zCo G M0 r p l e R s m args below meth c Q nL (fun ls st M => zI2 st (fun x y st => kk ls (.int (x - y) :: st) M)) pc := by
  intro ls st M H locs L h0 hn hM hR
  obtain ⟨x, y, st, rfl, h⟩ := zI2_s h0
  exact lv_isub X.1 X.2.1 hdg (hkk _ _ _ _ _ _ h hn hM hR)
theorem zs_imul (X : zCx G p R s m args meth c cc nL own nm d) (hkk : zCo G M0 r p l e R s m args below meth c Q nL kk (pc + 1)) (hdg : decode cc pc = .ok (.imul, 1)) : zCo G M0 r p l e R s m args below meth c Q nL (fun ls st M => zI2 st (fun x y st => kk ls (.int (x * y) :: st) M)) pc := by
  intro ls st M H locs L h0 hn hM hR
  obtain ⟨x, y, st, rfl, h⟩ := zI2_s h0
  exact lv_imul X.1 X.2.1 hdg (hkk _ _ _ _ _ _ h hn hM hR)
theorem zs_iand (X : zCx G p R s m args meth c cc nL own nm d) (hkk : zCo G M0 r p l e R s m args below meth c Q nL kk (pc + 1)) (hdg : decode cc pc = .ok (.iand, 1)) : zCo G M0 r p l e R s m args below meth c Q nL (fun ls st M => zI2 st (fun x y st => kk ls (.int (x &&& y) :: st) M)) pc := by
  intro ls st M H locs L h0 hn hM hR
  obtain ⟨x, y, st, rfl, h⟩ := zI2_s h0
  exact lv_iand X.1 X.2.1 hdg (hkk _ _ _ _ _ _ h hn hM hR)
theorem zs_ior (X : zCx G p R s m args meth c cc nL own nm d) (hkk : zCo G M0 r p l e R s m args below meth c Q nL kk (pc + 1)) (hdg : decode cc pc = .ok (.ior, 1)) : zCo G M0 r p l e R s m args below meth c Q nL (fun ls st M => zI2 st (fun x y st => kk ls (.int (x ||| y) :: st) M)) pc := by
  intro ls st M H locs L h0 hn hM hR
  obtain ⟨x, y, st, rfl, h⟩ := zI2_s h0
  exact lv_ior X.1 X.2.1 hdg (hkk _ _ _ _ _ _ h hn hM hR)
theorem zs_ixor (X : zCx G p R s m args meth c cc nL own nm d) (hkk : zCo G M0 r p l e R s m args below meth c Q nL kk (pc + 1)) (hdg : decode cc pc = .ok (.ixor, 1)) : zCo G M0 r p l e R s m args below meth c Q nL (fun ls st M => zI2 st (fun x y st => kk ls (.int (x ^^^ y) :: st) M)) pc := by
  intro ls st M H locs L h0 hn hM hR
  obtain ⟨x, y, st, rfl, h⟩ := zI2_s h0
  exact lv_ixor X.1 X.2.1 hdg (hkk _ _ _ _ _ _ h hn hM hR)
theorem zs_ishl (X : zCx G p R s m args meth c cc nL own nm d) (hkk : zCo G M0 r p l e R s m args below meth c Q nL kk (pc + 1)) (hdg : decode cc pc = .ok (.ishl, 1)) : zCo G M0 r p l e R s m args below meth c Q nL (fun ls st M => zI2 st (fun x y st => kk ls (.int (x <<< (y &&& 31)) :: st) M)) pc := by
  intro ls st M H locs L h0 hn hM hR
  obtain ⟨x, y, st, rfl, h⟩ := zI2_s h0
  exact lv_ishl X.1 X.2.1 hdg (hkk _ _ _ _ _ _ h hn hM hR)
theorem zs_ishr (X : zCx G p R s m args meth c cc nL own nm d) (hkk : zCo G M0 r p l e R s m args below meth c Q nL kk (pc + 1)) (hdg : decode cc pc = .ok (.ishr, 1)) : zCo G M0 r p l e R s m args below meth c Q nL (fun ls st M => zI2 st (fun x y st => kk ls (.int (x >>> (y &&& 31)) :: st) M)) pc := by
  intro ls st M H locs L h0 hn hM hR
  obtain ⟨x, y, st, rfl, h⟩ := zI2_s h0
  exact lv_ishr X.1 X.2.1 hdg (hkk _ _ _ _ _ _ h hn hM hR)
theorem zs_iushr (X : zCx G p R s m args meth c cc nL own nm d) (hkk : zCo G M0 r p l e R s m args below meth c Q nL kk (pc + 1)) (hdg : decode cc pc = .ok (.iushr, 1)) : zCo G M0 r p l e R s m args below meth c Q nL (fun ls st M => zI2 st (fun x y st => kk ls (.int (zus x y) :: st) M)) pc := by
  intro ls st M H locs L h0 hn hM hR
  obtain ⟨x, y, st, rfl, h⟩ := zI2_s h0
  exact lv_iushr X.1 X.2.1 hdg rfl (hkk _ _ _ _ _ _ h hn hM hR)
theorem zs_idiv (X : zCx G p R s m args meth c cc nL own nm d) (hkk : zCo G M0 r p l e R s m args below meth c Q nL kk (pc + 1)) (hdg : decode cc pc = .ok (.idiv, 1)) : zCo G M0 r p l e R s m args below meth c Q nL (fun ls st M => zI2 st (fun x y st => zgd (decide (y ≠ 0)) (kk ls (.int (x / y) :: st) M))) pc := by
  intro ls st M H locs L h0 hn hM hR
  obtain ⟨x, y, st, rfl, h⟩ := zI2_s h0
  obtain ⟨h1, h⟩ := zgd_s h
  exact lv_idiv X.1 X.2.1 hdg (of_decide_eq_true h1) (hkk _ _ _ _ _ _ h hn hM hR)
theorem zs_irem (X : zCx G p R s m args meth c cc nL own nm d) (hkk : zCo G M0 r p l e R s m args below meth c Q nL kk (pc + 1)) (hdg : decode cc pc = .ok (.irem, 1)) : zCo G M0 r p l e R s m args below meth c Q nL (fun ls st M => zI2 st (fun x y st => zgd (decide (y ≠ 0)) (kk ls (.int (x - x / y * y) :: st) M))) pc := by
  intro ls st M H locs L h0 hn hM hR
  obtain ⟨x, y, st, rfl, h⟩ := zI2_s h0
  obtain ⟨h1, h⟩ := zgd_s h
  exact lv_irem X.1 X.2.1 hdg (of_decide_eq_true h1) (hkk _ _ _ _ _ _ h hn hM hR)
theorem zs_ineg (X : zCx G p R s m args meth c cc nL own nm d) (hkk : zCo G M0 r p l e R s m args below meth c Q nL kk (pc + 1)) (hdg : decode cc pc = .ok (.ineg, 1)) : zCo G M0 r p l e R s m args below meth c Q nL (fun ls st M => zI1 st (fun x st => kk ls (.int (-x) :: st) M)) pc := by
  intro ls st M H locs L h0 hn hM hR
  obtain ⟨x, st, rfl, h⟩ := zI1_s h0
  exact lv_ineg X.1 X.2.1 hdg (hkk _ _ _ _ _ _ h hn hM hR)
theorem zs_land (X : zCx G p R s m args meth c cc nL own nm d) (hkk : zCo G M0 r p l e R s m args below meth c Q nL kk (pc + 1)) (hdg : decode cc pc = .ok (.land, 1)) : zCo G M0 r p l e R s m args below meth c Q nL (fun ls st M => zL2 st (fun x y st => kk ls (.long (x &&& y) :: st) M)) pc := by
  intro ls st M H locs L h0 hn hM hR
  obtain ⟨x, y, st, rfl, h⟩ := zL2_s h0
  exact lv_land X.1 X.2.1 hdg (hkk _ _ _ _ _ _ h hn hM hR)
theorem zs_lor (X : zCx G p R s m args meth c cc nL own nm d) (hkk : zCo G M0 r p l e R s m args below meth c Q nL kk (pc + 1)) (hdg : decode cc pc = .ok (.lor, 1)) : zCo G M0 r p l e R s m args below meth c Q nL (fun ls st M => zL2 st (fun x y st => kk ls (.long (x ||| y) :: st) M)) pc := by
  intro ls st M H locs L h0 hn hM hR
  obtain ⟨x, y, st, rfl, h⟩ := zL2_s h0
  exact lv_lor X.1 X.2.1 hdg (hkk _ _ _ _ _ _ h hn hM hR)
theorem zs_lxor (X : zCx G p R s m args meth c cc nL own nm d) (hkk : zCo G M0 r p l e R s m args below meth c Q nL kk (pc + 1)) (hdg : decode cc pc = .ok (.lxor, 1)) : zCo G M0 r p l e R s m args below meth c Q nL (fun ls st M => zL2 st (fun x y st => kk ls (.long (x ^^^ y) :: st) M)) pc := by
  intro ls st M H locs L h0 hn hM hR
  obtain ⟨x, y, st, rfl, h⟩ := zL2_s h0
  exact lv_lxor X.1 X.2.1 hdg (hkk _ _ _ _ _ _ h hn hM hR)
theorem zs_lshl (X : zCx G p R s m args meth c cc nL own nm d) (hkk : zCo G M0 r p l e R s m args below meth c Q nL kk (pc + 1)) (hdg : decode cc pc = .ok (.lshl, 1)) : zCo G M0 r p l e R s m args below meth c Q nL (fun ls st M => zLI st (fun x y st => kk ls (.long (x <<< (y.toInt64 &&& 63)) :: st) M)) pc := by
  intro ls st M H locs L h0 hn hM hR
  obtain ⟨x, y, st, rfl, h⟩ := zLI_s h0
  exact lv_lshl X.1 X.2.1 hdg rfl (hkk _ _ _ _ _ _ h hn hM hR)
theorem zs_lushr (X : zCx G p R s m args meth c cc nL own nm d) (hkk : zCo G M0 r p l e R s m args below meth c Q nL kk (pc + 1)) (hdg : decode cc pc = .ok (.lushr, 1)) : zCo G M0 r p l e R s m args below meth c Q nL (fun ls st M => zLI st (fun x y st => kk ls (.long (zul x y) :: st) M)) pc := by
  intro ls st M H locs L h0 hn hM hR
  obtain ⟨x, y, st, rfl, h⟩ := zLI_s h0
  exact lv_lushr X.1 X.2.1 hdg rfl (hkk _ _ _ _ _ _ h hn hM hR)
theorem zs_lcmp (X : zCx G p R s m args meth c cc nL own nm d) (hkk : zCo G M0 r p l e R s m args below meth c Q nL kk (pc + 1)) (hdg : decode cc pc = .ok (.lcmp, 1)) : zCo G M0 r p l e R s m args below meth c Q nL (fun ls st M => zL2 st (fun x y st => kk ls (.int (lg_cmp x y) :: st) M)) pc := by
  intro ls st M H locs L h0 hn hM hR
  obtain ⟨x, y, st, rfl, h⟩ := zL2_s h0
  exact W.lcmp X.1 X.2.1 hdg (hkk _ _ _ _ _ _ h hn hM hR)
theorem zs_i2l (X : zCx G p R s m args meth c cc nL own nm d) (hkk : zCo G M0 r p l e R s m args below meth c Q nL kk (pc + 1)) (hdg : decode cc pc = .ok (.i2l, 1)) : zCo G M0 r p l e R s m args below meth c Q nL (fun ls st M => zI1 st (fun x st => kk ls (.long x.toInt64 :: st) M)) pc := by
  intro ls st M H locs L h0 hn hM hR
  obtain ⟨x, st, rfl, h⟩ := zI1_s h0
  exact lv_i2l X.1 X.2.1 hdg rfl (hkk _ _ _ _ _ _ h hn hM hR)
theorem zs_l2i (X : zCx G p R s m args meth c cc nL own nm d) (hkk : zCo G M0 r p l e R s m args below meth c Q nL kk (pc + 1)) (hdg : decode cc pc = .ok (.l2i, 1)) : zCo G M0 r p l e R s m args below meth c Q nL (fun ls st M => zL1 st (fun x st => kk ls (.int x.toInt32 :: st) M)) pc := by
  intro ls st M H locs L h0 hn hM hR
  obtain ⟨x, st, rfl, h⟩ := zL1_s h0
  exact lv_l2i X.1 X.2.1 hdg rfl (hkk _ _ _ _ _ _ h hn hM hR)
theorem zs_i2b (X : zCx G p R s m args meth c cc nL own nm d) (hkk : zCo G M0 r p l e R s m args below meth c Q nL kk (pc + 1)) (hdg : decode cc pc = .ok (.i2b, 1)) : zCo G M0 r p l e R s m args below meth c Q nL (fun ls st M => zI1 st (fun x st => kk ls (.int x.toInt8.toInt32 :: st) M)) pc := by
  intro ls st M H locs L h0 hn hM hR
  obtain ⟨x, st, rfl, h⟩ := zI1_s h0
  exact lv_i2b X.1 X.2.1 hdg rfl (hkk _ _ _ _ _ _ h hn hM hR)
theorem zs_i2s (X : zCx G p R s m args meth c cc nL own nm d) (hkk : zCo G M0 r p l e R s m args below meth c Q nL kk (pc + 1)) (hdg : decode cc pc = .ok (.i2s, 1)) : zCo G M0 r p l e R s m args below meth c Q nL (fun ls st M => zI1 st (fun x st => kk ls (.int x.toInt16.toInt32 :: st) M)) pc := by
  intro ls st M H locs L h0 hn hM hR
  obtain ⟨x, st, rfl, h⟩ := zI1_s h0
  exact lv_i2s X.1 X.2.1 hdg rfl (hkk _ _ _ _ _ _ h hn hM hR)
theorem zs_i2c (X : zCx G p R s m args meth c cc nL own nm d) (hkk : zCo G M0 r p l e R s m args below meth c Q nL kk (pc + 1)) (hdg : decode cc pc = .ok (.i2c, 1)) : zCo G M0 r p l e R s m args below meth c Q nL (fun ls st M => zI1 st (fun x st => kk ls (.int (x.toUInt32 % 65536).toInt32 :: st) M)) pc := by
  intro ls st M H locs L h0 hn hM hR
  obtain ⟨x, st, rfl, h⟩ := zI1_s h0
  exact lv_i2c X.1 X.2.1 hdg rfl (hkk _ _ _ _ _ _ h hn hM hR)
theorem zs_dup (X : zCx G p R s m args meth c cc nL own nm d) (hkk : zCo G M0 r p l e R s m args below meth c Q nL kk (pc + 1)) (hdg : decode cc pc = .ok (.dup, 1)) : zCo G M0 r p l e R s m args below meth c Q nL (fun ls st M => match st with
    | .int x :: st => kk ls (.int x :: .int x :: st) M
    | .ref x :: st => kk ls (.ref x :: .ref x :: st) M
    | _ => none) pc := by
  intro ls st M H locs L h0 hn hM hR
  dsimp only at h0
  split at h0
  · exact lv_dup X.1 X.2.1 hdg rfl (hkk _ _ _ _ _ _ h0 hn hM hR)
  · exact lv_dup X.1 X.2.1 hdg rfl (hkk _ _ _ _ _ _ h0 hn hM hR)
  · cases h0
theorem zs_dup2 (X : zCx G p R s m args meth c cc nL own nm d) (hkk : zCo G M0 r p l e R s m args below meth c Q nL kk (pc + 1)) (hdg : decode cc pc = .ok (.dup2, 1)) : zCo G M0 r p l e R s m args below meth c Q nL (fun ls st M => match st with
    | .int i :: .ref a :: st => kk ls (.int i :: .ref a :: .int i :: .ref a :: st) M
    | _ => none) pc := by
  intro ls st M H locs L h0 hn hM hR
  dsimp only at h0
  split at h0
  · exact lv_dup2_11 X.1 X.2.1 hdg rfl rfl (hkk _ _ _ _ _ _ h0 hn hM hR)
  · cases h0
theorem zs_pop (X : zCx G p R s m args meth c cc nL own nm d) (hkk : zCo G M0 r p l e R s m args below meth c Q nL kk (pc + 1)) (hdg : decode cc pc = .ok (.pop, 1)) : zCo G M0 r p l e R s m args below meth c Q nL (fun ls st M => match st with
    | .int _ :: st => kk ls st M
    | _ => none) pc := by
  intro ls st M H locs L h0 hn hM hR
  dsimp only at h0
  split at h0
  · exact lv_pop X.1 X.2.1 hdg rfl (hkk _ _ _ _ _ _ h0 hn hM hR)
  · cases h0
theorem zs_pop2 (X : zCx G p R s m args meth c cc nL own nm d) (hkk : zCo G M0 r p l e R s m args below meth c Q nL kk (pc + 1)) (hdg : decode cc pc = .ok (.pop2, 1)) : zCo G M0 r p l e R s m args below meth c Q nL (fun ls st M => match st with
    | .long _ :: st => kk ls st M
    | _ => none) pc := by
  intro ls st M H locs L h0 hn hM hR
  dsimp only at h0
  split at h0
  · exact lv_pop2_2 X.1 X.2.1 hdg rfl (hkk _ _ _ _ _ _ h0 hn hM hR)
  · cases h0
theorem zs_goto (X : zCx G p R s m args meth c cc nL own nm d)  {jmp : zJ} {k tgt : Nat} {is : List Nat} {off : Int} (hj : zCo G M0 r p l e R s m args below meth c Q nL (jmp k) tgt) (hdg : decode cc pc = .ok (.goto off, 3)) (ht : (pc : Int) + off = (tgt : Int)) : zCo G M0 r p l e R s m args below meth c Q nL (fun ls st M => jmp k (zkil is ls) st M) pc := by
  intro ls st M H locs L h0 hn hM hR
  exact lv_goto X.1 X.2.1 hdg ht (hj _ _ _ _ _ _ h0 (by rw [zkil_len]; exact hn) hM (zRl_kil hR))
theorem zs_nop {jmp : zJ} {k : Nat} {is : List Nat} (hj : zCo G M0 r p l e R s m args below meth c Q nL (jmp k) pc) : zCo G M0 r p l e R s m args below meth c Q nL (fun ls st M => jmp k (zkil is ls) st M) pc := fun ls st M H locs L h hn hM hR => hj _ _ _ _ _ _ h (by rw [zkil_len]; exact hn) hM (zRl_kil hR)
theorem zcmp_s {c : Jvm.ClassFile.Cond} {x y : Int32} {a b : Option zR} {r : zR} (h : zcmp c x y a b = some r) : (match c with | .eq => (x = y → a = some r) ∧ (¬ x = y → b = some r) | .ne => (¬ x = y → a = some r) ∧ (x = y → b = some r) | .lt => (x < y → a = some r) ∧ (¬ x < y → b = some r) | .ge => (y ≤ x → a = some r) ∧ (¬ y ≤ x → b = some r) | .gt => (y < x → a = some r) ∧ (¬ y < x → b = some r) | .le => (x ≤ y → a = some r) ∧ (¬ x ≤ y → b = some r)) := by
  cases c <;> simp only [zcmp] at h ⊢ <;> refine ⟨fun q => ?_, fun q => ?_⟩ <;> first | rwa [if_pos q] at h | rwa [if_neg q] at h
theorem zs_if_icmp (X : zCx G p R s m args meth c cc nL own nm d) (hkk : zCo G M0 r p l e R s m args below meth c Q nL kk (pc + 3)) {jmp : zJ} {k tgt : Nat} {is : List Nat} {off : Int} {cd : Jvm.ClassFile.Cond} (hj : zCo G M0 r p l e R s m args below meth c Q nL (jmp k) tgt) (hdg : decode cc pc = .ok (.if_icmp cd off, 3)) (ht : (pc : Int) + off = (tgt : Int)) : zCo G M0 r p l e R s m args below meth c Q nL (fun ls st M => zI2 st (fun x y st => zcmp cd x y (jmp k (zkil is ls) st M) (kk ls st M))) pc := by
  intro ls st M H locs L h0 hn hM hR
  obtain ⟨x, y, st, rfl, h⟩ := zI2_s h0
  have hc := zcmp_s h
  cases cd
  · exact lv_icmp_eq X.1 X.2.1 hdg ht (fun q => hj _ _ _ _ _ _ (hc.1 q) (by rw [zkil_len]; exact hn) hM (zRl_kil hR)) (fun q => hkk _ _ _ _ _ _ (hc.2 q) hn hM hR)
  · exact lv_icmp_ne X.1 X.2.1 hdg ht (fun q => hj _ _ _ _ _ _ (hc.1 q) (by rw [zkil_len]; exact hn) hM (zRl_kil hR)) (fun q => hkk _ _ _ _ _ _ (hc.2 q) hn hM hR)
  · exact lv_icmp_lt X.1 X.2.1 hdg ht (fun q => hj _ _ _ _ _ _ (hc.1 q) (by rw [zkil_len]; exact hn) hM (zRl_kil hR)) (fun q => hkk _ _ _ _ _ _ (hc.2 q) hn hM hR)
  · exact lv_icmp_ge X.1 X.2.1 hdg ht (fun q => hj _ _ _ _ _ _ (hc.1 q) (by rw [zkil_len]; exact hn) hM (zRl_kil hR)) (fun q => hkk _ _ _ _ _ _ (hc.2 q) hn hM hR)
  · exact lv_icmp_gt X.1 X.2.1 hdg ht (fun q => hj _ _ _ _ _ _ (hc.1 q) (by rw [zkil_len]; exact hn) hM (zRl_kil hR)) (fun q => hkk _ _ _ _ _ _ (hc.2 q) hn hM hR)
  · exact lv_icmp_le X.1 X.2.1 hdg ht (fun q => hj _ _ _ _ _ _ (hc.1 q) (by rw [zkil_len]; exact hn) hM (zRl_kil hR)) (fun q => hkk _ _ _ _ _ _ (hc.2 q) hn hM hR)
theorem zs_ifCond (X : zCx G p R s m args meth c cc nL own nm d) (hkk : zCo G M0 r p l e R s m args below meth c Q nL kk (pc + 3)) {jmp : zJ} {k tgt : Nat} {is : List Nat} {off : Int} {cd : Jvm.ClassFile.Cond} (hj : zCo G M0 r p l e R s m args below meth c Q nL (jmp k) tgt) (hdg : decode cc pc = .ok (.ifCond cd off, 3)) (ht : (pc : Int) + off = (tgt : Int)) : zCo G M0 r p l e R s m args below meth c Q nL (fun ls st M => zI1 st (fun x st => zcmp cd x 0 (jmp k (zkil is ls) st M) (kk ls st M))) pc := by
  intro ls st M H locs L h0 hn hM hR
  obtain ⟨x, st, rfl, h⟩ := zI1_s h0
  have hc := zcmp_s h
  cases cd
  · exact lv_if_eq X.1 X.2.1 hdg ht (fun q => hj _ _ _ _ _ _ (hc.1 q) (by rw [zkil_len]; exact hn) hM (zRl_kil hR)) (fun q => hkk _ _ _ _ _ _ (hc.2 q) hn hM hR)
  · exact lv_if_ne X.1 X.2.1 hdg ht (fun q => hj _ _ _ _ _ _ (hc.1 q) (by rw [zkil_len]; exact hn) hM (zRl_kil hR)) (fun q => hkk _ _ _ _ _ _ (hc.2 q) hn hM hR)
  · exact lv_if_lt X.1 X.2.1 hdg ht (fun q => hj _ _ _ _ _ _ (hc.1 q) (by rw [zkil_len]; exact hn) hM (zRl_kil hR)) (fun q => hkk _ _ _ _ _ _ (hc.2 q) hn hM hR)
  · exact lv_if_ge X.1 X.2.1 hdg ht (fun q => hj _ _ _ _ _ _ (hc.1 q) (by rw [zkil_len]; exact hn) hM (zRl_kil hR)) (fun q => hkk _ _ _ _ _ _ (hc.2 q) hn hM hR)
  · exact lv_if_gt X.1 X.2.1 hdg ht (fun q => hj _ _ _ _ _ _ (hc.1 q) (by rw [zkil_len]; exact hn) hM (zRl_kil hR)) (fun q => hkk _ _ _ _ _ _ (hc.2 q) hn hM hR)
  · exact lv_if_le X.1 X.2.1 hdg ht (fun q => hj _ _ _ _ _ _ (hc.1 q) (by rw [zkil_len]; exact hn) hM (zRl_kil hR)) (fun q => hkk _ _ _ _ _ _ (hc.2 q) hn hM hR)
theorem zs_ifnull (X : zCx G p R s m args meth c cc nL own nm d) (hkk : zCo G M0 r p l e R s m args below meth c Q nL kk (pc + 3)) {off : Int} (hdg : decode cc pc = .ok (.ifnull off, 3)) : zCo G M0 r p l e R s m args below meth c Q nL (fun ls st M => zA1 st (fun _ st => kk ls st M)) pc := by
  intro ls st M H locs L h0 hn hM hR
  obtain ⟨x, st, rfl, h⟩ := zA1_s h0
  exact lv_ifnull X.1 X.2.1 hdg (hkk _ _ _ _ _ _ h hn hM hR)
end
