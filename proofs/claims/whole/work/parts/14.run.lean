/-! THE SMALL MACHINE IS SOUND: a method's blocks, a method, all methods -/
def zchn : List zE → Bool
  | [] => true
  | [_] => true
  | e :: e' :: es => decide (e'.1 = e.1 + e.2.1) && zchn (e' :: es)
def zmok (T : Nat → Option zMt) (own nm : String) (cc : ByteArray) (cd : List (List zE)) : Bool := decide (zpc cd 0 = 0) && cd.all (fun b => zchn b && b.all (zck T own nm cc cd))
section
variable {T : Nat → Option zMt} {p : Program} {l : Launch} {e : Env} {R : Room} {s : State} {m : MethodId} {args : Array Value} {below : List Frame} {meth : Method} {c : Code} {Q : State → Prop} {cc : ByteArray} {G : zG} {M0 : zM} {r : zR} {nL : Nat} {own nm : String} {d rt : Nat}
theorem zblk (X : zCx G p R s m args meth c cc nL own nm d) (hmt : ∀ j t, T j = some t → zmk0 t) (hcall : zCall T l G d) (hF : zFn G M0 r p l e R s m args below meth c Q cc rt) (hroom : znx r.2 - znx M0 ≤ R.cells ∧ zsz r.2 - zsz M0 ≤ R.slots) {cd : List (List zE)} {jmp : zJ} (hj : ∀ k, zCo G M0 r p l e R s m args below meth c Q nL (jmp k) (zpc cd k)) (hjm : ∀ k ls st M r', jmp k ls st M = some r' → zle M r'.2) : ∀ (es : List zE) (pc0 : Nat), (∀ e es', es = e :: es' → e.1 = pc0) → zchn es = true → es.all (zck T own nm cc cd) = true → zCo G M0 r p l e R s m args below meth c Q nL (zrb rt (zCd T d) jmp es) pc0
  | [], _, _, _, _ => zCo_none (fun _ _ _ => rfl)
  | e1 :: es, pc0, h1, h2, h3 => by
    rw [List.all_cons, Bool.and_eq_true] at h3
    have hp := h1 _ _ rfl
    subst hp
    refine zstep X hmt hcall hF hroom hj h3.1 (zblk X hmt hcall hF hroom hj hjm es (e1.1 + e1.2.1) ?_ ?_ h3.2) (fun ls st M h => zrb_le (zCd_mem d) hjm es ls st M r h)
    · intro e2 es' he
      subst he
      unfold zchn at h2
      rw [Bool.and_eq_true, decide_eq_true_eq] at h2
      exact h2.1
    · cases es with
      | nil => rfl
      | cons e2 es =>
        unfold zchn at h2
        rw [Bool.and_eq_true] at h2
        exact h2.2
theorem zrun (X : zCx G p R s m args meth c cc nL own nm d) (hmt : ∀ j t, T j = some t → zmk0 t) (hcall : zCall T l G d) (hF : zFn G M0 r p l e R s m args below meth c Q cc rt) (hroom : znx r.2 - znx M0 ≤ R.cells ∧ zsz r.2 - zsz M0 ≤ R.slots) {cd : List (List zE)} (hck : cd.all (fun b => zchn b && b.all (zck T own nm cc cd)) = true) : ∀ (n k : Nat), zCo G M0 r p l e R s m args below meth c Q nL (zrn rt (zCd T d) cd n k) (zpc cd k)
  | 0, _ => zCo_none (fun _ _ _ => rfl)
  | n + 1, k => by
    cases hb : znth cd k with
    | none => exact zCo_none (fun ls st M => by rw [zrn, hb])
    | some b =>
      have hmem : b ∈ cd := by
        rw [znth_get] at hb
        exact List.mem_of_getElem? hb
      have hc := List.all_eq_true.mp hck b hmem
      rw [Bool.and_eq_true] at hc
      have h := zblk X hmt hcall hF hroom (cd := cd) (jmp := zrn rt (zCd T d) cd n) (fun k => zrun X hmt hcall hF hroom hck n k) (fun k ls st M r' h => zrn_mem (zCd_mem d) n k ls st M r' h) b (zpc cd k) (fun e es' he => by unfold zpc; rw [hb, he]) hc.1 hc.2
      intro ls st M H locs L h0
      rw [zrn, hb] at h0
      exact h ls st M H locs L h0
end
theorem zpad_len : ∀ (n : Nat) (l : zLs), (zpad n l).length = n
  | 0, _ => rfl
  | n + 1, [] => by simp [zpad, zpad_len n]
  | n + 1, a :: l => by simp [zpad, zpad_len n]
theorem zpad_get : ∀ (n : Nat) (l : zLs) (i : Nat) (v : Value), znth (zpad n l) i = some (some v) → znth l i = some (some v)
  | 0, _, _, _, h => by simp [zpad, znth] at h
  | n + 1, [], 0, _, h => by simp [zpad, znth] at h
  | n + 1, [], i + 1, v, h => by
    have h1 := zpad_get n [] i v (by simpa [zpad, znth] using h)
    simp [znth] at h1
  | n + 1, a :: l, 0, v, h => by simpa [zpad, znth] using h
  | n + 1, a :: l, i + 1, v, h => by
    have h1 := zpad_get n l i v (by simpa [zpad, znth] using h)
    simpa [znth] using h1
theorem zfl_len {G : zG} : ∀ (as : List Value), (lg_sl (as.map (zv G))).length = (zfl as).length
  | [] => rfl
  | v :: as => by
    have ih := zfl_len (G := G) as
    unfold lg_sl at ih ⊢
    rw [List.map_cons, List.flatMap_cons, List.length_append, ih, zv_cat]
    cases v <;> simp [zfl, Value.category] <;> omega
theorem zfl_args {G : zG} : ∀ (as : List Value) (k i : Nat) (v : Value), znth (zfl as) i = some (some v) → (k + i, zv G v) ∈ lv_args k (as.map (zv G))
  | [], _, _, _, h => by simp [zfl, znth] at h
  | w :: as, k, i, v, h => by
    rw [List.map_cons, lv_args, zv_cat]
    by_cases hc : w.category = 2
    · rw [if_pos hc]
      have e1 : zfl (w :: as) = some w :: none :: zfl as := by cases w <;> first | rfl | (simp [Value.category] at hc)
      rw [e1] at h
      match i, h with
      | 0, h =>
        have h1 : w = v := by simpa [znth] using h
        subst h1
        exact List.mem_cons_self
      | 1, h => simp [znth] at h
      | i + 2, h =>
        have h1 := zfl_args (G := G) as (k + 2) i v (by simpa [znth] using h)
        rw [show k + (i + 2) = k + 2 + i by omega]
        exact List.mem_cons_of_mem _ h1
    · rw [if_neg hc]
      have e1 : zfl (w :: as) = some w :: zfl as := by cases w <;> first | rfl | (exact absurd rfl hc)
      rw [e1] at h
      match i, h with
      | 0, h =>
        have h1 : w = v := by simpa [znth] using h
        subst h1
        exact List.mem_cons_self
      | i + 1, h =>
        have h1 := zfl_args (G := G) as (k + 1) i v (by simpa [znth] using h)
        rw [show k + (i + 1) = k + 1 + i by omega]
        exact List.mem_cons_of_mem _ h1
theorem zLR_entry {G : zG} {as : List Value} {n : Nat} (h : (zfl as).length ≤ n) : zLR G (zpad n (zfl as)) ((lg_sl (as.map (zv G)) ++ List.replicate (n - (lg_sl (as.map (zv G))).length) Slot.unset).toArray) := by
  have h1 := lv_entry (as.map (zv G)) (n := n) (by rw [zfl_len]; exact h)
  refine ⟨by rw [h1.1, zpad_len], h1.2.1, fun i v hi => ?_⟩
  have h2 := zfl_args (G := G) as 0 i v (zpad_get n _ i v hi)
  rw [Nat.zero_add] at h2
  exact h1.2.2 _ h2
theorem zall {T : Nat → Option zMt} {l : Launch} {G : zG} (hT : ∀ j t, T j = some t → zmk0 t ∧ zmok T (zmY t).cls (zmY t).name (zmB t) (zmC t) = true) : ∀ d, zCall T l G d
  | 0 => fun j t as M r hj h => by cases h
  | d + 1 => fun j t as M r hj h => by
    have hmt : ∀ j t, T j = some t → zmk0 t := fun j t h => (hT j t h).1
    unfold zCd at h
    rw [hj] at h
    obtain ⟨hg, h⟩ := zgd_s h
    obtain ⟨n, hn⟩ := (zX_iff (zCd_mem d)).mp h
    have hmem : zle M r.2 := zX_mem (zCd_mem d) h
    obtain ⟨k1, k2, k3, k4, k5, k6, k7, k8, k9⟩ := (hT j t hj).1
    have hok := (hT j t hj).2
    unfold zmok at hok
    rw [Bool.and_eq_true, decide_eq_true_eq] at hok
    refine Met.ofW (cc := zmB t) (maxL := zmL t) (ret := zmT t) k4 rfl ?_
    intro p e s m args below meth c s₁ B hml hP
    obtain ⟨rfl, hH, hK, hE⟩ := hP
    have hts : ∀ w ∈ zws t, w.before (as.map (zv G)).toArray s = true := atoms_spec B.pre
    have X : zCx G p (zrm (d + 1) M r) s m (as.map (zv G)).toArray meth c (zmB t) (zmL t) (zmY t).cls (zmY t).name d := ⟨B.exec, B.bytes, hml, findClass_of_methodNamed B.named, fun w hw => hts w (List.mem_cons_of_mem _ hw), hK, hE, by rw [hH.2.1]; omega, (name_of_methodNamed B.named B.method).1, Nat.le_refl _, Nat.le_refl _⟩
    have hQ : ∀ (v : Option Value) (M' : zM) (H : Heap) (locs : List Loc), r = (v, M') → zHR G M' H → va_S (zA G) s.heap H locs → ∀ t : State, t.heap = H → zQc G r (as.map (zv G)).toArray s (.returned (v.map (zv G))) t := by
      intro v M' H locs hr hH' hS t ht
      subst hr
      exact ⟨rfl, by rw [ht]; exact hH', hS.F ht⟩
    have hF : zFn G M r p l e (zrm (d + 1) M r) s m (as.map (zv G)).toArray below meth c (MQ below (zQc G r) (as.map (zv G)).toArray s (znx r.2 - znx M) (zsz r.2 - zsz M) (zA G)) (zmB t) (zmRt t) := by
      refine ⟨fun x M' H locs L pc hr _ hH' hS hty hdg => ?_, fun x M' H locs L pc hr _ hH' hS hrt hdg => ?_, fun M' H locs L pc hr _ hH' hS hrt hdg => ?_⟩
      · obtain ⟨ty, g1, g2⟩ := hty
        have e1 : r.2 = M' := by rw [hr]
        rw [e1]
        exact W.zret B.exec B.bytes (B.returns.trans (k1.trans g1)) g2 (fun t ht _ => hQ (some (.int x)) M' H locs hr hH' hS t ht) hS.2.2 hdg B.notSynchronized
      · have e1 : r.2 = M' := by rw [hr]
        rw [e1]
        exact W.lret B.exec B.bytes (B.returns.trans (k1.trans (by rw [hrt]; rfl))) (fun t ht _ => hQ (some (.long x)) M' H locs hr hH' hS t ht) hS.2.2 hdg B.notSynchronized
      · have e1 : r.2 = M' := by rw [hr]
        rw [e1]
        exact W.vret B.exec B.bytes (B.returns.trans (k1.trans (by rw [hrt]; rfl))) (fun t ht _ => hQ none M' H locs hr hH' hS t ht) hS.2.2 hdg B.notSynchronized
    have hlen : (zfl as).length ≤ zmL t := by
      unfold zrc at hg
      rw [Bool.and_eq_true, decide_eq_true_eq] at hg
      exact hg.1
    rw [lg_entry_eq]
    have hrun := zrun X hmt (zall hT d) hF ⟨Nat.le_refl _, Nat.le_refl _⟩ hok.2 n 0 (zpad (zmL t) (zfl as)) [] M s.heap [] _ hn (zpad_len _ _) zle_rf ⟨hH, va_S.rf, zLR_entry hlen⟩
    rw [Nat.sub_self, Nat.sub_self, hok.1] at hrun
    exact hrun
