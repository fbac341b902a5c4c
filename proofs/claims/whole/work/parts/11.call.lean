/-! THE SMALL MACHINE IS SOUND: new cells, calls -/
theorem zft_le : ∀ (ci : Nat) (q : vw_C), vwCl[ci]? = some q → ∀ k, k < q.2.2 → zft ci k ≤ 3 := zcl_all (by decide +kernel) (by decide +kernel) (by decide +kernel) (by decide +kernel) (by decide +kernel) (by decide +kernel) (by decide +kernel) (by decide +kernel) (by decide +kernel) (by decide +kernel) (by decide +kernel) (by decide +kernel) (by decide +kernel)
theorem zHR_new {G : zG} {M : zM} {H H1 : Heap} {kd n : Nat} (h : zHR G M H) (hk : znth zkl (znx M - 16) = some (kd, n)) (hz : H1.size = H.size + 1) (hq : ∀ q : Nat, q < H.size → H1[q]? = H[q]?) (hat : zat G (znw M n) H1 (znx M)) : zHR G (znw M n) H1 := by
  obtain ⟨⟨a1, a2, a3, a4, a5⟩, b, cc⟩ := h
  have hlt : znx M - 16 < zkl.length := by
    rw [znth_get] at hk
    exact (List.getElem?_eq_some_iff.mp hk).1
  have e1 : znx (znw M n) = znx M + 1 := rfl
  have e2 : zsz (znw M n) = zsz M + n := rfl
  have hlen := zkl_len
  refine ⟨⟨by omega, by omega, ?_, a4, ?_⟩, by rw [hz, e1]; omega, fun o h1 h2 => ?_⟩
  · rw [e2, e1, show znx M + 1 - 16 = (znx M - 16) + 1 by omega, zps, hk, a3]
    rfl
  · rw [← a5]
    funext j
    have h1 : ¬ (1 = M.1) := fun q => by
      have h2 : 16 ≤ M.1 := a1
      omega
    simp [zgi, znw, h1]
  · by_cases ho : o = znx M
    · subst ho
      exact hat
    · have hol : o < znx M := by omega
      refine zat_same (cc o h1 hol) (hq _ (by rw [zad_in h1 (by omega)]; omega)) ?_ ?_ ?_
      · funext j; simp [zgi, znw]; intro q; exact absurd q ho
      · funext j; simp [zgl, znw]; intro q; exact absurd q ho
      · funext j; simp [zgr, znw]; intro q; exact absurd q ho
theorem znw0 {M : zM} {n j : Nat} : zgi (znw M n) (znx M) j = 0 ∧ zgl (znw M n) (znx M) j = 0 ∧ zgr (znw M n) (znx M) j = 0 := by
  refine ⟨?_, ?_, ?_⟩ <;> simp [zgi, zgl, zgr, znw, znx]
theorem zpop_s : ∀ {n : Nat} {acc st : List Value} {k : List Value → List Value → Option zR} {r : zR}, zpop n acc st k = some r → ∃ as st', st = as.reverse ++ st' ∧ as.length = n ∧ k (as ++ acc) st' = some r
  | 0, acc, st, k, r, h => ⟨[], st, rfl, rfl, h⟩
  | n + 1, acc, [], k, r, h => by cases h
  | n + 1, acc, v :: st, k, r, h => by
    obtain ⟨as, st', h1, h2, h3⟩ := zpop_s (n := n) (acc := v :: acc) (st := st) (show zpop n (v :: acc) st k = some r from h)
    exact ⟨as ++ [v], st', by rw [h1]; simp, by simp [h2], by simpa using h3⟩
theorem zrk_s {q : Nat} {x : Option zR} {ls : zLs} {st : List Value} {kk : zC} {r : zR} (h : zrk q x ls st kk = some r) : ∃ r1, x = some r1 ∧ kk ls (r1.1.toList ++ st) r1.2 = some r := by
  unfold zrk at h
  split at h
  · unfold zbI at h
    split at h
    · exact ⟨_, rfl, h⟩
    · cases h
  · unfold zbL at h
    split at h
    · exact ⟨_, rfl, h⟩
    · cases h
  · unfold zbV at h
    split at h
    · exact ⟨_, rfl, h⟩
    · cases h
theorem zwd_sum {G : zG} : ∀ st : List Value, ((st.map (zv G)).map fun v => v.category).sum = zwd st
  | [] => rfl
  | v :: st => by
    have := zwd_sum (G := G) st
    simp only [List.map_cons, List.sum_cons, zwd, zv_cat]
    rw [this]
def zmRt (t : zMt) : Nat := t.1.1
def zmL (t : zMt) : Nat := t.1.2.1
def zmV (t : zMt) : Nat := t.1.2.2.1
def zmC (t : zMt) : List (List zE) := t.1.2.2.2
def zmY (t : zMt) : MethodName := t.2.1
def zmB (t : zMt) : ByteArray := t.2.2.1
def zmT (t : zMt) : Option FieldType := t.2.2.2.1
def zmW (t : zMt) (i : Nat) : Nat := zax t.2.2.2.2 i
/-- the receiver is of the method's class -/
def zrc (t : zMt) (as : List Value) (M : zM) : Bool := decide ((zfl as).length ≤ zmL t) && match zmV t with
  | 0 => true
  | r + 1 => match as with
    | .ref o :: _ => zkk M o == (if r = 99 then 7 else r + 10)
    | _ => false
/-- calls, so deep at most -/
noncomputable def zCd (T : Nat → Option zMt) : Nat → zF
  | 0 => fun _ _ _ => none
  | d + 1 => fun j as M => match T j with
    | none => none
    | some t => zgd (zrc t as M) (zX (zmRt t) (zCd T d) (zmC t) 0 (zpad (zmL t) (zfl as)) [] M)
theorem zCd_mem {T : Nat → Option zMt} : ∀ (d j : Nat) (as : List Value) (M : zM) (r : zR), zCd T d j as M = some r → zle M r.2
  | 0, _, _, _, _, h => by cases h
  | d + 1, j, as, M, r, h => by
    unfold zCd at h
    split at h
    · cases h
    · exact zX_mem (zCd_mem d) (zgd_s h).2
/-- a method's words -/
def zmk0 (t : zMt) : Prop := zmT t = zrf (zmRt t) ∧ zmL t ≤ 60 ∧ ((zmY t).cls ≠ "java/lang/invoke/MethodHandle" ∧ (zmY t).cls ≠ "java/lang/invoke/VarHandle") ∧ plainName (zmY t).cls = true ∧ (parseMethodDescriptor (zmY t).desc).map (fun d => d.parameters.length) = some (zmW t 0) ∧ zw (zmW t 1) = some (.code (zmY t) (zmB t) (zmL t) (zmT t)) ∧
  zw (zmW t 2) = some (if zmV t = 0 then .static (zmY t) else .instanceMethod (zmY t)) ∧ (zmV t = 0 ∨ ((zmY t).cls = zcn (zmV t - 1) ∧ ((zmY t).name = "<init>" ∨ zw (zmW t 3) = some (.selects (zmY t).cls (zmY t) (zmY t))))) ∧ zw (zmW t 4) = some (.initialized (zmY t).cls)
def zws (t : zMt) : List Cond := .code (zmY t) (zmB t) (zmL t) (zmT t) :: lw_good
def zrm (d : Nat) (M : zM) (r : zR) : Room := { frames := d, cells := znx r.2 - znx M, slots := zsz r.2 - zsz M, locals := 100 * d }
def zPc (G : zG) (as : List Value) (M : zM) : Array Value → State → Prop := fun v U => v = (as.map (zv G)).toArray ∧ zHR G M U.heap ∧ zK G U ∧ zEn G U U.heap
def zQc (G : zG) (r : zR) : Array Value → State → Outcome → State → Prop := fun _ st oc t => oc = .returned (r.1.map (zv G)) ∧ zHR G r.2 t.heap ∧ va_F (zA G) st t
def zCall (T : Nat → Option zMt) (l : Launch) (G : zG) (d : Nat) : Prop := ∀ (j : Nat) (t : zMt) (as : List Value) (M : zM) (r : zR), T j = some t → zCd T d j as M = some r → Met l (zmY t) (zws t) (zrm d M r) (zPc G as M) (zQc G r) (znx r.2 - znx M) (zsz r.2 - zsz M) (zA G)
theorem zgood {w : Cond} (h : zgw w = true) : (w.onTables && w.keeps) = true ∨ ∃ ty, w = .arrayClass ty := by
  unfold zgw at h
  rw [Bool.or_eq_true] at h
  rcases h with h | h
  · exact Or.inl h
  · split at h
    · exact Or.inr ⟨_, rfl⟩
    · cases h
theorem zgoodin {t : zMt} (h : zw (zmW t 1) = some (.code (zmY t) (zmB t) (zmL t) (zmT t))) : GoodIn lw_good (zws t) := by
  intro w hw
  rcases List.mem_cons.mp hw with rfl | hw
  · exact ⟨zw_in h, zgood rfl⟩
  · exact ⟨hw, zgood (List.mem_filter.mp hw).2⟩
theorem zbw_eq {w : Cond} {u U : State} (hv : u.vm = U.vm) (hb : zbw w = true) (h : w.before #[] u = true) : w.before #[] U = true := by
  unfold zbw at hb
  split at hb
  · exact va_Nw.same rfl hv h
  · exact va_AO.moved (by rw [hv]; exact Vm.Alike.refl _) h
  · cases hb
theorem zbw_warm {w : Cond} {u U : State} (hW : u.WarmedH U.vm) (hb : zbw w = true) (h : w.before #[] u = true) : w.before #[] U = true := by
  unfold zbw at hb
  split at hb
  · exact va_Nw.warmM hW h
  · exact va_AO.moved hW.alike h
  · cases hb
/-- what is old stays as it is -/
theorem zEn_eq {G : zG} {u U : State} {H : Heap} (hv : u.vm = U.vm) (h : zEn G u H) : zEn G U H := by
  have hal : u.vm.Alike U.vm := by rw [hv]; exact Vm.Alike.refl _
  exact ⟨⟨h.1.1, h.1.2.1, va_X.moved hal h.1.2.2⟩, ⟨va_Z.moved hal h.2.1.1, va_T.moved hal h.2.1.2⟩, va_Z.moved hal h.2.2.1, va_Z.moved hal h.2.2.2.1, vk_S.moved hal h.2.2.2.2.1, fun q hq => vk_R.same hv.symm (h.2.2.2.2.2.1 q hq), fun w hw hb => zbw_eq hv hb (h.2.2.2.2.2.2 w hw hb)⟩
theorem zEn_warm {G : zG} {u U : State} {H : Heap} (hW : u.WarmedH U.vm) (h : zEn G u H) : zEn G U H := by
  have hal : u.vm.Alike U.vm := hW.alike
  exact ⟨⟨h.1.1, h.1.2.1, va_X.moved hal h.1.2.2⟩, ⟨va_Z.moved hal h.2.1.1, va_T.moved hal h.2.1.2⟩, va_Z.moved hal h.2.2.1, va_Z.moved hal h.2.2.2.1, vk_S.moved hal h.2.2.2.2.1, fun q hq => vk_R.warm hW (h.2.2.2.2.2.1 q hq), fun w hw hb => zbw_warm hW hb (h.2.2.2.2.2.2 w hw hb)⟩
theorem zEn_kept {G : zG} {U : State} {H H1 : Heap} (hH : gA G 1 < H.size) (hq : ∀ a : Nat, a < H.size → ¬ zA G a → H1[a]? = H[a]?) (h : zEn G U H) : zEn G U H1 :=
  ⟨⟨h.1.1, h.1.2.1, va_X.kept h.1.2.2 (hq _ hH (fun z => by have h1 := h.1.1; have z1 : gB G ≤ gA G 1 := z; omega))⟩, ⟨va_Z.kept h.2.1.1 hq, va_T.kept h.2.1.2 hq⟩, va_Z.kept h.2.2.1 hq, va_Z.kept h.2.2.2.1 hq, vk_S.kept h.2.2.2.2.1 hq, h.2.2.2.2.2⟩
theorem zPc_blind {G : zG} {as : List Value} {M : zM} : FrameBlind (zPc G as M) := fun a U g mk h => ⟨h.1, h.2.1, va_K.moved (u := U) (U := U.calling g mk a) (Vm.Alike.refl U.vm) h.2.2.1, zEn_eq (u := U) (U := U.calling g mk a) rfl h.2.2.2⟩
section
variable {T : Nat → Option zMt} {p : Program} {l : Launch} {e : Env} {R : Room} {s : State} {m : MethodId} {args : Array Value} {below : List Frame} {meth : Method} {c : Code} {Q : State → Prop} {cc : ByteArray} {G : zG} {M0 : zM} {r : zR} {nL : Nat} {own nm : String} {d pc : Nat} {kk : zC}
theorem zs_new (X : zCx G p R s m args meth c cc nL own nm d) (hkk : zCo G M0 r p l e R s m args below meth c Q nL kk (pc + 3)) (hkm : ∀ ls st M, kk ls st M = some r → zle M r.2) (hroom : znx r.2 - znx M0 ≤ R.cells ∧ zsz r.2 - zsz M0 ≤ R.slots) {ix ci w1 w2 w3 : Nat} {q : vw_C} (hdg : decode cc pc = .ok (.new ix, 3)) (hc : vwCl[ci]? = some q) (hw1 : zw w1 = some (.classLink own ix q.1)) (hw2 : zw w2 = some (.instantiable q.1 q.2.2)) (hw3 : zw w3 = some (.initialized q.1)) : zCo G M0 r p l e R s m args below meth c Q nL (fun ls st M => zgd (decide (znth zkl (znx M - 16) = some (ci + 10, q.2.2)) && (decide (16 ≤ znx M) && decide (znx M < 1000))) (kk ls (.ref (znx M) :: st) (znw M q.2.2))) pc := by
  intro ls st M H locs L h0 hn hM hR
  obtain ⟨hg, h⟩ := zgd_s h0
  simp only [Bool.and_eq_true, decide_eq_true_eq] at hg
  obtain ⟨g0, g1, g2⟩ := hg
  have hle := hkm _ _ _ h
  have hx1 : znx (znw M q.2.2) = znx M + 1 := rfl
  have hx2 : zsz (znw M q.2.2) = zsz M + q.2.2 := rfl
  have c1 : znx (znw M q.2.2) - znx M0 = znx M - znx M0 + 1 := by have := hM.1; omega
  have c2 : zsz (znw M q.2.2) - zsz M0 = zsz M - zsz M0 + q.2.2 := by have := hM.2.1; omega
  have hts := X.2.2.2.2.1
  have hKn := X.2.2.2.2.2.1.1 ci _ hc
  have hsz := hR.1.2.1
  refine W.newcK X.1 X.2.1 X.2.2.2.1 (hts _ (zw_in hw1)) (hts _ (zw_in hw2)) (hts _ (zw_in hw3)) rfl hdg (by have h1 := hle.1; have := hroom.1; omega) (by have h1 := hle.2.1; have := hroom.2; omega) hKn.2.1 rfl fun H1 kC hkC e1 z1 o1 => ?_
  have hsA : zad G (znx M) = H.size := by rw [zad_in g1 g2, hsz]
  have hat : zat G (znw M q.2.2) H1 (znx M) := by
    unfold zat
    have hkd : zkd (znx M) = (ci + 10, q.2.2) := by unfold zkd; rw [g0]; rfl
    rw [hkd, if_pos (by simp), hsA]
    show t_OB H.size (gC G (ci + 10 - 10)) q.2.2 (gI G (ci + 10 - 10)) H1 _
    rw [show ci + 10 - 10 = ci by omega]
    refine (u_born (zTyp ci) hts (zUws ci q hc) hKn hkC e1 (zTyp_ok ci q hc)).to fun k hk => ?_
    have hf := zft_ok ci q hc k hk
    have hf3 := zft_le ci q hc k hk
    obtain ⟨y1, y2, y3⟩ := znw0 (M := M) (n := q.2.2) (j := k)
    show _ = zfv G (znw M q.2.2) (znx M) (ci + 10 - 10) k
    rw [show ci + 10 - 10 = ci by omega]
    unfold zfv
    rw [y1, y2, y3]
    unfold zfk at hf
    split at hf <;> first | omega | (rename_i hty; rw [hty, hf]; rfl)
  have hko := hkk _ _ (znw M q.2.2) H1 locs L h hn (zle_tr hM (zle_nw g1)) ⟨zHR_new hR.1 g0 z1 o1 hat, ⟨Nat.le_trans hR.2.1.1 (by omega), fun x h1 h2 => (o1 x (Nat.lt_of_lt_of_le h1 hR.2.1.1)).trans (hR.2.1.2.1 x h1 h2), hR.2.1.2.2⟩, hR.2.2⟩
  rw [c1, c2] at hko
  have e3 : List.map (zv G) (.ref (znx M) :: st) = .ref H.size :: List.map (zv G) st := by rw [← hsA]; rfl
  rw [e3] at hko
  exact hko
theorem zs_newarray (X : zCx G p R s m args meth c cc nL own nm d) (hkk : zCo G M0 r p l e R s m args below meth c Q nL kk (pc + 2)) (hkm : ∀ ls st M, kk ls st M = some r → zle M r.2) (hroom : znx r.2 - znx M0 ≤ R.cells ∧ zsz r.2 - zsz M0 ≤ R.slots) {at1 : ArrayType} {kd w : Nat} (hdg : decode cc pc = .ok (.newarray at1, 2)) (hty : newarray.typeOf at1 = zty kd) (hkd : kd = 1 ∨ kd = 2 ∨ kd = 3) (hw : zw w = some (.arrayClass (zty kd))) : zCo G M0 r p l e R s m args below meth c Q nL (fun ls st M => zI1 st (fun n st => zgd (decide (znth zkl (znx M - 16) = some (kd, n.toNatClampNeg)) && (decide (0 ≤ n) && (decide (16 ≤ znx M) && decide (znx M < 1000)))) (kk ls (.ref (znx M) :: st) (znw M n.toNatClampNeg)))) pc := by
  intro ls st M H locs L h0 hn hM hR
  obtain ⟨n, st, rfl, ha⟩ := zI1_s h0
  obtain ⟨hg, h⟩ := zgd_s ha
  simp only [Bool.and_eq_true, decide_eq_true_eq] at hg
  obtain ⟨g0, gn, g1, g2⟩ := hg
  have hle := hkm _ _ _ h
  have hx1 : znx (znw M n.toNatClampNeg) = znx M + 1 := rfl
  have hx2 : zsz (znw M n.toNatClampNeg) = zsz M + n.toNatClampNeg := rfl
  have c1 : znx (znw M n.toNatClampNeg) - znx M0 = znx M - znx M0 + 1 := by have := hM.1; omega
  have c2 : zsz (znw M n.toNatClampNeg) - zsz M0 = zsz M - zsz M0 + n.toNatClampNeg := by have := hM.2.1; omega
  have hts := X.2.2.2.2.1
  have hsz := hR.1.2.1
  have hkd0 : zkd (znx M) = (kd, n.toNatClampNeg) := by unfold zkd; rw [g0]; rfl
  have hn4 : n.toNatClampNeg ≤ 46656 := by
    have h1 : znx M - 16 < zkl.length := by rw [znth_get] at g0; exact (List.getElem?_eq_some_iff.mp g0).1
    have h2 := (zkl_ok _ h1).1
    rw [g0] at h2
    exact h2
  have hbt : componentBytes (zty kd) ≤ 8 := by rcases hkd with rfl | rfl | rfl <;> decide
  refine va_newaK X.1 X.2.1 (by rw [hty]; exact hts _ (zw_in hw)) rfl hdg rfl (Int32.not_lt.mpr gn) rfl (by rw [hty]; have := Nat.mul_le_mul hn4 hbt; omega) (by have h1 := hle.1; have := hroom.1; omega) (by have h1 := hle.2.1; have := hroom.2; omega) rfl fun H1 cA e1 z1 o1 hAr hNm => ?_
  have hsA : zad G (znx M) = H.size := by rw [zad_in g1 g2, hsz]
  have hcA : cA = gR G kd := by
    have hRA := (zK_arr X.2.2.2.2.2.1 (k := kd) (by omega) (by omega)).2
    rw [hty] at hNm
    rcases hkd with rfl | rfl | rfl <;> exact Option.some.inj (hNm.symm.trans hRA)
  have hat : zat G (znw M n.toNatClampNeg) H1 (znx M) := by
    refine (show zat G (znw M n.toNatClampNeg) H1 (znx M) from ?_)
    unfold zat
    rw [hkd0, if_neg (by dsimp only; omega), hsA, e1, hcA]
    refine congrArg some (congrArg _ ?_)
    funext j
    obtain ⟨y1, y2, y3⟩ := znw0 (M := M) (n := n.toNatClampNeg) (j := j)
    rw [hty]
    unfold zav
    rw [y1, y2, y3]
    rcases hkd with rfl | rfl | rfl <;> rfl
  have hko := hkk _ _ (znw M n.toNatClampNeg) H1 locs L h hn (zle_tr hM (zle_nw g1)) ⟨zHR_new hR.1 g0 z1 o1 hat, ⟨Nat.le_trans hR.2.1.1 (by omega), fun x h1 h2 => (o1 x (Nat.lt_of_lt_of_le h1 hR.2.1.1)).trans (hR.2.1.2.1 x h1 h2), hR.2.1.2.2⟩, hR.2.2⟩
  rw [c1, c2] at hko
  have e3 : List.map (zv G) (.ref (znx M) :: st) = .ref H.size :: List.map (zv G) st := by rw [← hsA]; rfl
  rw [e3] at hko
  exact hko
theorem zs_anewarray (X : zCx G p R s m args meth c cc nL own nm d) (hkk : zCo G M0 r p l e R s m args below meth c Q nL kk (pc + 3)) (hkm : ∀ ls st M, kk ls st M = some r → zle M r.2) (hroom : znx r.2 - znx M0 ≤ R.cells ∧ zsz r.2 - zsz M0 ≤ R.slots) {ix kd w w2 : Nat} {C : String} (hdg : decode cc pc = .ok (.anewarray ix, 3)) (hC : zty kd = .object C) (hkd : kd = 4 ∨ kd = 5) (hw : zw w = some (.classLink own ix C)) (hw2 : zw w2 = some (.arrayOver (.object C))) : zCo G M0 r p l e R s m args below meth c Q nL (fun ls st M => zI1 st (fun n st => zgd (decide (znth zkl (znx M - 16) = some (kd, n.toNatClampNeg)) && (decide (0 ≤ n) && (decide (16 ≤ znx M) && decide (znx M < 1000)))) (kk ls (.ref (znx M) :: st) (znw M n.toNatClampNeg)))) pc := by
  intro ls st M H locs L h0 hn hM hR
  obtain ⟨n, st, rfl, ha⟩ := zI1_s h0
  obtain ⟨hg, h⟩ := zgd_s ha
  simp only [Bool.and_eq_true, decide_eq_true_eq] at hg
  obtain ⟨g0, gn, g1, g2⟩ := hg
  have hle := hkm _ _ _ h
  have hx1 : znx (znw M n.toNatClampNeg) = znx M + 1 := rfl
  have hx2 : zsz (znw M n.toNatClampNeg) = zsz M + n.toNatClampNeg := rfl
  have c1 : znx (znw M n.toNatClampNeg) - znx M0 = znx M - znx M0 + 1 := by have := hM.1; omega
  have c2 : zsz (znw M n.toNatClampNeg) - zsz M0 = zsz M - zsz M0 + n.toNatClampNeg := by have := hM.2.1; omega
  have hts := X.2.2.2.2.1
  have hsz := hR.1.2.1
  have hkd0 : zkd (znx M) = (kd, n.toNatClampNeg) := by unfold zkd; rw [g0]; rfl
  have hn4 : n.toNatClampNeg ≤ 46656 := by
    have h1 : znx M - 16 < zkl.length := by rw [znth_get] at g0; exact (List.getElem?_eq_some_iff.mp g0).1
    have h2 := (zkl_ok _ h1).1
    rw [g0] at h2
    exact h2
  refine W.anew X.1 X.2.1 X.2.2.2.1 (hts _ (zw_in hw)) (va_AO.use (X.2.2.2.2.2.2.1.2.2.2.2.2.2 _ (zw_tb hw2) rfl)) rfl hdg rfl (Int32.not_lt.mpr gn) (by omega) (by have h1 := hle.1; have := hroom.1; omega) (by have h1 := hle.2.1; have := hroom.2; omega) fun cA kA comp f1 f2 f3 f4 => ?_
  generalize hH1 : H.push ({ cls := cA, slots := Array.replicate n.toNatClampNeg .null, vm := .none } : Cell) = H1
  have z1 : H1.size = H.size + 1 := by rw [← hH1, Array.size_push]
  have e1 : H1[H.size]? = some (arrV cA n.toNatClampNeg (fun _ => .null)) := by rw [← hH1, Array.getElem?_push_size, ← arrV_new]
  have o1 : ∀ q : Nat, q < H.size → H1[q]? = H[q]? := fun q hq => by rw [← hH1, Array.getElem?_push, if_neg (Nat.ne_of_lt hq)]
  have hsA : zad G (znx M) = H.size := by rw [zad_in g1 g2, hsz]
  have hcA : cA = gR G kd := by
    have hRA := (zK_arr X.2.2.2.2.2.1 (k := kd) (by omega) (by omega)).2
    rw [hC] at hRA
    obtain ⟨_, _, _, _, _, hf⟩ := hRA
    exact Option.some.inj (f1.symm.trans hf)
  have hat : zat G (znw M n.toNatClampNeg) H1 (znx M) := by
    unfold zat
    rw [hkd0, if_neg (by dsimp only; omega), hsA, e1, hcA]
    refine congrArg some (congrArg _ ?_)
    funext j
    obtain ⟨y1, y2, y3⟩ := znw0 (M := M) (n := n.toNatClampNeg) (j := j)
    unfold zav
    rw [y3]
    rcases hkd with rfl | rfl <;> rfl
  have hko := hkk _ _ (znw M n.toNatClampNeg) H1 locs L h hn (zle_tr hM (zle_nw g1)) ⟨zHR_new hR.1 g0 z1 o1 hat, ⟨Nat.le_trans hR.2.1.1 (by omega), fun x h1 h2 => (o1 x (Nat.lt_of_lt_of_le h1 hR.2.1.1)).trans (hR.2.1.2.1 x h1 h2), hR.2.1.2.2⟩, hR.2.2⟩
  rw [c1, c2] at hko
  have e3 : List.map (zv G) (.ref (znx M) :: st) = .ref H.size :: List.map (zv G) st := by rw [← hsA]; rfl
  rw [e3] at hko
  exact hko
/-- behind a call -/
theorem zback {M : zM} {r1 : zR} {H : Heap} {locs : List Loc} {ls : zLs} {L : Array Slot} {st0 rest : List Value} {a : Array Value} (hM : zle M0 M) (hR : zRl G M s H locs ls L) (hle : zle M r1.2)
    (hr : va_Run p l e R s m args below meth c H locs (znx M - znx M0) (zsz M - zsz M0) (znx r1.2 - znx M) (zsz r1.2 - zsz M) (F0 m pc L st0) rest (zQc G r1 a) (zA G))
    (kk : ∀ (H1 : Heap) (locs1 : List Loc), zRl G r1.2 s H1 locs1 ls L → W p l e R s m args below meth c H1 locs1 (znx r1.2 - znx M0) (zsz r1.2 - zsz M0) Q (F0 m (pc + 3) L ((r1.1.map (zv G)).toList ++ rest))) : W p l e R s m args below meth c H locs (znx M - znx M0) (zsz M - zsz M0) Q (F0 m pc L st0) := by
  intro T hT X
  obtain ⟨v, st₀, t, T', Lx, h0, X', hL, e1, e2, ⟨hv, hH, hz, hk⟩, st⟩ := hr T hT X
  cases hv
  rw [h0] at hz hk
  have c1 : znx M - znx M0 + (znx r1.2 - znx M) = znx r1.2 - znx M0 := by have := hM.1; have := hle.1; omega
  have c2 : zsz M - zsz M0 + (zsz r1.2 - zsz M) = zsz r1.2 - zsz M0 := by have := hM.2.1; have := hle.2.1; omega
  rw [c1, c2] at X'
  obtain ⟨t2, a1, b1⟩ := kk T'.heap (locs ++ Lx) ⟨by rw [e1]; exact hH, ⟨Nat.le_trans hR.2.1.1 (by rw [e1]; exact hz), fun q h1 h2 => by rw [e1, hk q (Nat.lt_of_lt_of_le h1 hR.2.1.1) h2]; exact hR.2.1.2.1 q h1 h2, fun q hq => by
      rcases List.mem_append.mp hq with h | h
      · exact hR.2.1.2.2 q h
      · exact hL q h⟩, hR.2.2⟩ T' rfl X'
  exact ⟨t2, st t2 a1, b1⟩
theorem zret_st {r1 : zR} {st : List Value} : (r1.1.map (zv G)).toList ++ st.map (zv G) = (r1.1.toList ++ st).map (zv G) := by
  rcases r1 with ⟨_ | v, M⟩ <;> rfl
theorem zpre (X : zCx G p R s m args meth c cc nL own nm d) {M : zM} {H : Heap} {locs : List Loc} {ls : zLs} {L : Array Slot} {as : List Value} (hR : zRl G M s H locs ls L) (U : State) (hU : U.heap = H) (hW : s.WarmedH U.vm) : zPc G as M (as.map (zv G)).toArray U :=
  ⟨rfl, by rw [hU]; exact hR.1, va_K.moved hW.alike X.2.2.2.2.2.1, by
    rw [hU]
    refine zEn_warm hW (zEn_kept ?_ hR.2.1.2.1 X.2.2.2.2.2.2.1)
    have h1 := X.2.2.2.2.2.2.1.1.1
    have h2 := X.2.2.2.2.2.2.2.1
    omega⟩
theorem zrecv (X : zCx G p R s m args meth c cc nL own nm d) {M : zM} {H : Heap} {locs : List Loc} {ls : zLs} {L : Array Slot} {o k : Nat} (hR : zRl G M s H locs ls L) (hk : k = 99 ∨ ∃ q, vwCl[k]? = some q) (ho : (zkk M o == (if k = 99 then 7 else k + 10)) = true) : ∃ cell : Cell, H[zad G o]? = some cell ∧ cell.vm.isStatics = false ∧ s.vm.findClass (zcn k) = some cell.cls := by
  by_cases h99 : k = 99
  · subst h99
    rw [if_pos rfl] at ho
    rcases zkk_in ho (by decide) with ⟨-, ⟨-, g⟩ | ⟨-, g⟩⟩ | ⟨g1, g2, g3, g4⟩ | ⟨h1, h2, ⟨g, -⟩ | ⟨-, g⟩⟩
    · omega
    · omega
    · obtain ⟨-, h5 | ⟨h5, -⟩⟩ := zkd_ok hR.1 g1 g3 <;> omega
    · obtain ⟨i1, -, i3⟩ := zbl_at h1 h2
      have hoo := i3 g
      generalize (o - 1000) / 2 = i at i1 hoo
      subst hoo
      rw [zad_out (Or.inr (by omega))]
      obtain ⟨cell, v1, v2, v3, -⟩ := (X.2.2.2.2.2.2.1.2.2.2.2.1.1 i i1).1.kept hR.2.1.2.1
      exact ⟨cell, v1, v2, v3⟩
    · omega
  · rw [if_neg h99] at ho
    obtain ⟨q, hq⟩ : ∃ q, vwCl[k]? = some q := by
      rcases hk with hk | hk
      · exact absurd hk h99
      · exact hk
    obtain ⟨cell, v1, v2, v3, -⟩ := zobj hR.1 hq ho
    have hcls := (X.2.2.2.2.2.1.1 k q hq).2
    refine ⟨cell, v1, by rw [v3]; rfl, ?_⟩
    unfold zcn
    rw [if_neg h99, hq, v2]
    exact hcls.1
theorem zCd_s {j : Nat} {t : zMt} {as : List Value} {M : zM} {r1 : zR} (hj : T j = some t) (h : zCd T d j as M = some r1) : zrc t as M = true := by
  cases d with
  | zero => cases h
  | succ d =>
    unfold zCd at h
    rw [hj] at h
    exact (zgd_s h).1
theorem zlk_or (X : zCx G p R s m args meth c cc nL own nm d) {ix w : Nat} {y : MethodName} (h : zw w = some (.methodLink own ix y) ∨ ∃ host, zw w = some (.methodLinkNest own ix y host)) : (Cond.methodLink own ix y).before args s = true ∨ ∃ host, (Cond.methodLinkNest own ix y host).before args s = true := by
  rcases h with h | ⟨host, h⟩
  · exact Or.inl (X.2.2.2.2.1 _ (zw_in h))
  · exact Or.inr ⟨host, va_Nw.use rfl (X.2.2.2.2.2.2.1.2.2.2.2.2.2 _ (zw_tb h) rfl)⟩
theorem zs_invokestatic (X : zCx G p R s m args meth c cc nL own nm d) (hkk : zCo G M0 r p l e R s m args below meth c Q nL kk (pc + 3)) (hkm : ∀ ls st M, kk ls st M = some r → zle M r.2) (hroom : znx r.2 - znx M0 ≤ R.cells ∧ zsz r.2 - zsz M0 ≤ R.slots) (hcall : zCall T l G d) {ix j n q w : Nat} {t : zMt} (hj : T j = some t) (hmt : zmk0 t) (hdg : decode cc pc = .ok (.invokestatic ix, 3)) (hlk : zw w = some (.methodLink own ix (zmY t)) ∨ ∃ host, zw w = some (.methodLinkNest own ix (zmY t) host)) (hv : zmV t = 0) (hnn : n = zmW t 0) : zCo G M0 r p l e R s m args below meth c Q nL (fun ls st M => zpop n [] st (fun as st => zgd (decide (zwd st ≤ 8)) (zrk q (zCd T d j as M) ls st kk))) pc := by
  intro ls st M H locs L h0 hn hM hR
  obtain ⟨as, st, rfl, hlen, ha⟩ := zpop_s h0
  rw [List.append_nil] at ha
  obtain ⟨hg, hb⟩ := zgd_s ha
  obtain ⟨r1, h1, h⟩ := zrk_s hb
  have hwd : zwd st ≤ 8 := of_decide_eq_true hg
  have hle := hkm _ _ _ h
  have hle1 := zCd_mem d j as M r1 h1
  have hts := X.2.2.2.2.1
  obtain ⟨k1, k2, k3, k4, k5, k6, k7, k8, k9⟩ := hmt
  have hMet := hcall j t as M r1 hj h1
  have hnp : ∀ sig, parseMethodDescriptor (zmY t).desc = some sig → zmW t 0 = sig.parameters.length := fun sig hs => by
    rw [hs] at k5
    exact (Option.some.inj k5).symm
  have hB1 : (zrm d M r1).frames + 1 ≤ R.frames ∧ 8 + (zmL t + 11) + (zrm d M r1).locals ≤ R.locals := by
    have h8 := X.2.2.2.2.2.2.2.2.2
    show d + 1 ≤ R.frames ∧ 8 + (zmL t + 11) + 100 * d ≤ R.locals
    omega
  have hcode : (Cond.code (zmY t) (zmB t) (zmL t) (zmT t)) ∈ zws t := List.mem_cons_self
  have hroom2 : znx M - znx M0 + (znx r1.2 - znx M) ≤ R.cells ∧ zsz M - zsz M0 + (zsz r1.2 - zsz M) ≤ R.slots := by
    have a1 := hroom.1
    have a2 := hroom.2
    have a3 := hle.1
    have a4 := hle.2.1
    have a5 := hle1.1
    have a6 := hle1.2.1
    have a7 := hM.1
    have a8 := hM.2.1
    omega
  have hsize : L.size = nL := hR.2.2.1.trans hn
  have hrest : 2 * (F0 m pc L (List.map (zv G) (as.reverse ++ st))).monitorRoom + ((st.map (zv G)).map fun v => v.category).sum ≤ 8 := lv_room (by rw [zwd_sum]; exact hwd)
  rw [if_pos hv] at k7
  have hst : (Cond.static (zmY t)).before args s = true := hts _ (zw_in k7)
  refine zback hM hR hle1 (st0 := List.map (zv G) (as.reverse ++ st)) (rest := st.map (zv G)) (a := (as.map (zv G)).toArray) ?_ fun H1 locs1 hR1 => ?_
  · rcases zlk_or X hlk with hl | ⟨host, hl⟩
    · exact va_runS (As := as.map (zv G)) ⟨X.1, X.2.1, X.2.2.1, X.2.2.2.1, hts⟩ hMet ⟨⟨rfl, rfl, hB1.1, hB1.2, pay_in hts (zgoodin k6), hcode, hts _ (zw_in k6), hts _ (zw_in k9), k3, hnp, hl⟩, hst⟩ ⟨zPc_blind, fun U hU hW => zpre X hR U hU hW⟩ rfl (by rw [List.length_map, hlen, hnn]) hsize (by show List.map (zv G) _ = _; rw [List.map_append, List.map_reverse]) hrest hdg hroom2
    · exact va_runSN (As := as.map (zv G)) ⟨X.1, X.2.1, X.2.2.1, X.2.2.2.1, hts⟩ hMet ⟨⟨⟨rfl, rfl, hB1.1, hB1.2, pay_in hts (zgoodin k6), hcode⟩, hts _ (zw_in k6), hts _ (zw_in k9), k3, hnp, hl⟩, hst, trivial⟩ ⟨zPc_blind, fun U hU hW => zpre X hR U hU hW⟩ rfl (by rw [List.length_map, hlen, hnn]) hsize (by show List.map (zv G) _ = _; rw [List.map_append, List.map_reverse]) hrest hdg hroom2
  · rw [zret_st]
    exact hkk _ _ _ _ _ _ h hn (zle_tr hM hle1) hR1
theorem zs_invokevirtual (X : zCx G p R s m args meth c cc nL own nm d) (hkk : zCo G M0 r p l e R s m args below meth c Q nL kk (pc + 3)) (hkm : ∀ ls st M, kk ls st M = some r → zle M r.2) (hroom : znx r.2 - znx M0 ≤ R.cells ∧ zsz r.2 - zsz M0 ≤ R.slots) (hcall : zCall T l G d) {ix j n q w : Nat} {t : zMt} (hj : T j = some t) (hmt : zmk0 t) (hdg : decode cc pc = .ok (.invokevirtual ix, 3)) (hlk : zw w = some (.methodLink own ix (zmY t)) ∨ ∃ host, zw w = some (.methodLinkNest own ix (zmY t) host)) (hv : ¬ zmV t = 0) (hvk : zmV t - 1 = 99 ∨ ∃ q, vwCl[zmV t - 1]? = some q) (hni : (zmY t).name ≠ "<init>") (hnn : n = zmW t 0 + 1) : zCo G M0 r p l e R s m args below meth c Q nL (fun ls st M => zpop n [] st (fun as st => zgd (decide (zwd st ≤ 8)) (zrk q (zCd T d j as M) ls st kk))) pc := by
  intro ls st M H locs L h0 hn hM hR
  obtain ⟨as, st, rfl, hlen, ha⟩ := zpop_s h0
  rw [List.append_nil] at ha
  obtain ⟨hg, hb⟩ := zgd_s ha
  obtain ⟨r1, h1, h⟩ := zrk_s hb
  have hwd : zwd st ≤ 8 := of_decide_eq_true hg
  have hle := hkm _ _ _ h
  have hle1 := zCd_mem d j as M r1 h1
  have hts := X.2.2.2.2.1
  obtain ⟨k1, k2, k3, k4, k5, k6, k7, k8, k9⟩ := hmt
  have hMet := hcall j t as M r1 hj h1
  have hnp : ∀ sig, parseMethodDescriptor (zmY t).desc = some sig → zmW t 0 = sig.parameters.length := fun sig hs => by
    rw [hs] at k5
    exact (Option.some.inj k5).symm
  have hB1 : (zrm d M r1).frames + 1 ≤ R.frames ∧ 8 + (zmL t + 11) + (zrm d M r1).locals ≤ R.locals := by
    have h8 := X.2.2.2.2.2.2.2.2.2
    show d + 1 ≤ R.frames ∧ 8 + (zmL t + 11) + 100 * d ≤ R.locals
    omega
  have hcode : (Cond.code (zmY t) (zmB t) (zmL t) (zmT t)) ∈ zws t := List.mem_cons_self
  have hroom2 : znx M - znx M0 + (znx r1.2 - znx M) ≤ R.cells ∧ zsz M - zsz M0 + (zsz r1.2 - zsz M) ≤ R.slots := by
    have a1 := hroom.1
    have a2 := hroom.2
    have a3 := hle.1
    have a4 := hle.2.1
    have a5 := hle1.1
    have a6 := hle1.2.1
    have a7 := hM.1
    have a8 := hM.2.1
    omega
  have hsize : L.size = nL := hR.2.2.1.trans hn
  have hrest : 2 * (F0 m pc L (List.map (zv G) (as.reverse ++ st))).monitorRoom + ((st.map (zv G)).map fun v => v.category).sum ≤ 8 := lv_room (by rw [zwd_sum]; exact hwd)
  have hrc := zCd_s hj h1
  unfold zrc at hrc
  rw [Bool.and_eq_true] at hrc
  have hrc := hrc.2
  obtain ⟨rv, hrv⟩ : ∃ rv, zmV t = rv + 1 := ⟨zmV t - 1, by omega⟩
  rw [hrv] at hrc
  rw [hrv, Nat.add_sub_cancel] at hvk
  obtain ⟨b, as', rfl, hbk⟩ : ∃ b as', as = .ref b :: as' ∧ (zkk M b == (if rv = 99 then 7 else rv + 10)) = true := by
    dsimp only at hrc
    split at hrc
    · exact ⟨_, _, rfl, hrc⟩
    · cases hrc
  rw [if_neg (by omega)] at k7
  have hin : (Cond.instanceMethod (zmY t)).before args s = true := hts _ (zw_in k7)
  have k8 := k8.resolve_left hv
  rw [hrv, Nat.add_sub_cancel] at k8
  have hcell := zrecv X hR hvk hbk
  rw [← k8.1] at hcell
  have hlen2 : as'.length = zmW t 0 := by
    have : (Value.ref b :: as').length = n := hlen
    simp at this
    omega
  have hstk : List.map (zv G) ((Value.ref b :: as').reverse ++ st) = (as'.map (zv G)).reverse ++ .ref (zad G b) :: st.map (zv G) := by
    simp [zv]
  have hsel : (Cond.selects (zmY t).cls (zmY t) (zmY t)).before args s = true := hts _ (zw_in (k8.2.resolve_left hni))
  refine zback hM hR hle1 (st0 := List.map (zv G) ((Value.ref b :: as').reverse ++ st)) (rest := st.map (zv G)) (a := ((Value.ref b :: as').map (zv G)).toArray) ?_ fun H1 locs1 hR1 => ?_
  · rcases zlk_or X hlk with hl | ⟨host, hl⟩
    · exact va_runV (As := as'.map (zv G)) ⟨X.1, X.2.1, X.2.2.1, X.2.2.2.1, hts⟩ hMet ⟨⟨rfl, rfl, hB1.1, hB1.2, pay_in hts (zgoodin k6), hcode, hts _ (zw_in k6), hts _ (zw_in k9), k3, hnp, hl⟩, hin, hsel⟩ ⟨zPc_blind, hcell, fun U hU hW => zpre X hR U hU hW⟩ rfl (by rw [List.length_map, hlen2]) hsize hstk hrest hdg hroom2
    · exact va_runVN (As := as'.map (zv G)) ⟨X.1, X.2.1, X.2.2.1, X.2.2.2.1, hts⟩ hMet ⟨⟨⟨rfl, rfl, hB1.1, hB1.2, pay_in hts (zgoodin k6), hcode⟩, hts _ (zw_in k6), hts _ (zw_in k9), k3, hnp, hl⟩, hin, hsel⟩ ⟨zPc_blind, hcell, fun U hU hW => zpre X hR U hU hW⟩ rfl (by rw [List.length_map, hlen2]) hsize hstk hrest hdg hroom2
  · rw [zret_st]
    exact hkk _ _ _ _ _ _ h hn (zle_tr hM hle1) hR1
theorem zs_invokespecial (X : zCx G p R s m args meth c cc nL own nm d) (hkk : zCo G M0 r p l e R s m args below meth c Q nL kk (pc + 3)) (hkm : ∀ ls st M, kk ls st M = some r → zle M r.2) (hroom : znx r.2 - znx M0 ≤ R.cells ∧ zsz r.2 - zsz M0 ≤ R.slots) (hcall : zCall T l G d) {ix j n q w : Nat} {t : zMt} (hj : T j = some t) (hmt : zmk0 t) (hdg : decode cc pc = .ok (.invokespecial ix, 3)) (hlk : zw w = some (.methodLink own ix (zmY t)) ∨ ∃ host, zw w = some (.methodLinkNest own ix (zmY t) host)) (hv : ¬ zmV t = 0) (hvk : zmV t - 1 = 99 ∨ ∃ q, vwCl[zmV t - 1]? = some q) (hni : (zmY t).name = "<init>") (hrt : zmT t = none) (hnn : n = zmW t 0 + 1) : zCo G M0 r p l e R s m args below meth c Q nL (fun ls st M => zpop n [] st (fun as st => zgd (decide (zwd st ≤ 8)) (zrk q (zCd T d j as M) ls st kk))) pc := by
  intro ls st M H locs L h0 hn hM hR
  obtain ⟨as, st, rfl, hlen, ha⟩ := zpop_s h0
  rw [List.append_nil] at ha
  obtain ⟨hg, hb⟩ := zgd_s ha
  obtain ⟨r1, h1, h⟩ := zrk_s hb
  have hwd : zwd st ≤ 8 := of_decide_eq_true hg
  have hle := hkm _ _ _ h
  have hle1 := zCd_mem d j as M r1 h1
  have hts := X.2.2.2.2.1
  obtain ⟨k1, k2, k3, k4, k5, k6, k7, k8, k9⟩ := hmt
  have hMet := hcall j t as M r1 hj h1
  have hnp : ∀ sig, parseMethodDescriptor (zmY t).desc = some sig → zmW t 0 = sig.parameters.length := fun sig hs => by
    rw [hs] at k5
    exact (Option.some.inj k5).symm
  have hB1 : (zrm d M r1).frames + 1 ≤ R.frames ∧ 8 + (zmL t + 11) + (zrm d M r1).locals ≤ R.locals := by
    have h8 := X.2.2.2.2.2.2.2.2.2
    show d + 1 ≤ R.frames ∧ 8 + (zmL t + 11) + 100 * d ≤ R.locals
    omega
  have hcode : (Cond.code (zmY t) (zmB t) (zmL t) none) ∈ zws t := by rw [← hrt]; exact List.mem_cons_self
  have k6n : zw (zmW t 1) = some (.code (zmY t) (zmB t) (zmL t) none) := by rw [← hrt]; exact k6
  have hroom2 : znx M - znx M0 + (znx r1.2 - znx M) ≤ R.cells ∧ zsz M - zsz M0 + (zsz r1.2 - zsz M) ≤ R.slots := by
    have a1 := hroom.1
    have a2 := hroom.2
    have a3 := hle.1
    have a4 := hle.2.1
    have a5 := hle1.1
    have a6 := hle1.2.1
    have a7 := hM.1
    have a8 := hM.2.1
    omega
  have hsize : L.size = nL := hR.2.2.1.trans hn
  have hrest : 2 * (F0 m pc L (List.map (zv G) (as.reverse ++ st))).monitorRoom + ((st.map (zv G)).map fun v => v.category).sum ≤ 8 := lv_room (by rw [zwd_sum]; exact hwd)
  have hrc := zCd_s hj h1
  unfold zrc at hrc
  rw [Bool.and_eq_true] at hrc
  have hrc := hrc.2
  obtain ⟨rv, hrv⟩ : ∃ rv, zmV t = rv + 1 := ⟨zmV t - 1, by omega⟩
  rw [hrv] at hrc
  rw [hrv, Nat.add_sub_cancel] at hvk
  obtain ⟨b, as', rfl, hbk⟩ : ∃ b as', as = .ref b :: as' ∧ (zkk M b == (if rv = 99 then 7 else rv + 10)) = true := by
    dsimp only at hrc
    split at hrc
    · exact ⟨_, _, rfl, hrc⟩
    · cases hrc
  rw [if_neg (by omega)] at k7
  have hin : (Cond.instanceMethod (zmY t)).before args s = true := hts _ (zw_in k7)
  have k8 := k8.resolve_left hv
  rw [hrv, Nat.add_sub_cancel] at k8
  have hcell := zrecv X hR hvk hbk
  rw [← k8.1] at hcell
  have hlen2 : as'.length = zmW t 0 := by
    have : (Value.ref b :: as').length = n := hlen
    simp at this
    omega
  have hstk : List.map (zv G) ((Value.ref b :: as').reverse ++ st) = (as'.map (zv G)).reverse ++ .ref (zad G b) :: st.map (zv G) := by
    simp [zv]
  refine zback hM hR hle1 (st0 := List.map (zv G) ((Value.ref b :: as').reverse ++ st)) (rest := st.map (zv G)) (a := ((Value.ref b :: as').map (zv G)).toArray) ?_ fun H1 locs1 hR1 => ?_
  · rcases zlk_or X hlk with hl | ⟨host, hl⟩
    · exact va_runI (As := as'.map (zv G)) ⟨X.1, X.2.1, X.2.2.1, X.2.2.2.1, hts⟩ hMet ⟨⟨rfl, rfl, hB1.1, hB1.2, pay_in hts (zgoodin k6), hcode, hts _ (zw_in k6n), hts _ (zw_in k9), k3, hnp, hl⟩, hni, hin⟩ ⟨zPc_blind, fun U hU hW => zpre X hR U hU hW⟩ rfl (by rw [List.length_map, hlen2]) hsize hstk hrest hdg hroom2
    · exact va_runIN (As := as'.map (zv G)) ⟨X.1, X.2.1, X.2.2.1, X.2.2.2.1, hts⟩ hMet ⟨⟨⟨rfl, rfl, hB1.1, hB1.2, pay_in hts (zgoodin k6), hcode⟩, hts _ (zw_in k6n), hts _ (zw_in k9), k3, hnp, hl⟩, hni, hin⟩ ⟨zPc_blind, fun U hU hW => zpre X hR U hU hW⟩ rfl (by rw [List.length_map, hlen2]) hsize hstk hrest hdg hroom2
  · rw [zret_st]
    exact hkk _ _ _ _ _ _ h hn (zle_tr hM hle1) hR1
end
