/-! THE SMALL MACHINE IS SOUND: switches, copies, ends; a method's blocks are looked through -/
def zpc (cd : List (List zE)) (k : Nat) : Nat := match znth cd k with
  | some (e :: _) => e.1
  | _ => 0
theorem zlk_off (pc : Nat) (tg : Nat → Nat) {d : Nat} {dflt : Int} (hd : (pc : Int) + dflt = (tg d : Int)) (x : Int) : ∀ (ps : List (Int × Int)) (js : List Nat), ps.length = js.length → (ps.zip js).all (fun q => decide ((pc : Int) + q.1.2 = (tg q.2 : Int))) = true → (pc : Int) + Op.lookupswitch.offset ps dflt x = (tg (zlk x ((ps.map (fun q => q.1)).zip js) d) : Int)
  | [], [], _, _ => hd
  | [], _ :: _, h, _ => by simp at h
  | _ :: _, [], h, _ => by simp at h
  | (a, o) :: ps, j :: js, h, g => by
    rw [List.zip_cons_cons, List.all_cons, Bool.and_eq_true, decide_eq_true_eq] at g
    have ih := zlk_off pc tg hd x ps js (by simpa using h) g.2
    rw [Op.lookupswitch.offset_cons, List.map_cons, List.zip_cons_cons]
    show _ = ((tg (if x = a then j else zlk x _ d) : Nat) : Int)
    by_cases hx : a = x
    · rw [if_pos hx, if_pos hx.symm]; exact g.1
    · rw [if_neg hx, if_neg (fun q => hx q.symm)]; exact ih
theorem zrt_s {rt : Nat} {x : Int32} {M : zM} {r : zR} (h : zrt rt x M = some r) : r = (some (.int x), M) ∧ ∃ ty, zrf rt = some ty ∧ narrow ty (.int x) = .int x := by
  unfold zrt at h
  split at h
  · cases h; exact ⟨rfl, .int, rfl, rfl⟩
  · obtain ⟨g, h⟩ := zgd_s h
    cases h
    have hx : x = 0 ∨ x = 1 := by simpa [z01] using g
    exact ⟨rfl, .boolean, rfl, by rcases hx with rfl | rfl <;> rfl⟩
  · obtain ⟨g, h⟩ := zgd_s h
    cases h
    refine ⟨rfl, .char, rfl, ?_⟩
    have h1 := pk_nc x
    rw [of_decide_eq_true g] at h1
    exact h1
  · obtain ⟨g, h⟩ := zgd_s h
    cases h
    refine ⟨rfl, .byte, rfl, ?_⟩
    show Value.int _ = _
    rw [of_decide_eq_true g]
  · cases h
section
variable {T : Nat → Option zMt} {p : Program} {l : Launch} {e : Env} {R : Room} {s : State} {m : MethodId} {args : Array Value} {below : List Frame} {meth : Method} {c : Code} {Q : State → Prop} {cc : ByteArray} {G : zG} {M0 : zM} {r : zR} {nL : Nat} {own nm : String} {d pc rt : Nat} {kk : zC}
theorem zs_tableswitch (X : zCx G p R s m args meth c cc nL own nm d) {jmp : zJ} {tg : Nat → Nat} {dflt lo hi : Int} {offs : Array Int} {len dd : Nat} {js : List Nat} (hj : ∀ k, zCo G M0 r p l e R s m args below meth c Q nL (jmp k) (tg k)) (hdg : decode cc pc = .ok (.tableswitch dflt lo hi offs, len)) (hd : (pc : Int) + dflt = (tg dd : Int)) (hlen : js.length = offs.size) (hlh : (js.length : Int) = hi - lo + 1) (hall : (offs.toList.zip js).all (fun q => decide ((pc : Int) + q.1 = (tg q.2 : Int))) = true) : zCo G M0 r p l e R s m args below meth c Q nL (fun ls st M => zI1 st (fun x st => jmp (ztb x.toInt lo js dd) ls st M)) pc := by
  intro ls st M H locs L h0 hn hM hR
  obtain ⟨x, st, rfl, h⟩ := zI1_s h0
  by_cases h1 : x.toInt < lo
  · have e1 : ztb x.toInt lo js dd = dd := by unfold ztb; rw [if_pos h1]
    rw [e1] at h
    exact lv_tableOut X.1 X.2.1 hdg (Or.inl h1) hd (hj _ _ _ _ _ _ _ h hn hM hR)
  · by_cases h2 : hi < x.toInt
    · have e1 : ztb x.toInt lo js dd = dd := by
        unfold ztb
        rw [if_neg h1, znth_get, List.getElem?_eq_none (by omega)]
        rfl
      rw [e1] at h
      exact lv_tableOut X.1 X.2.1 hdg (Or.inr h2) hd (hj _ _ _ _ _ _ _ h hn hM hR)
    · have hi1 : (x.toInt - lo).toNat < js.length := by omega
      have hi2 : (x.toInt - lo).toNat < offs.size := by omega
      have e1 : ztb x.toInt lo js dd = js[(x.toInt - lo).toNat] := by
        unfold ztb
        rw [if_neg h1, znth_get, List.getElem?_eq_getElem hi1]
        rfl
      rw [e1] at h
      have ht : (pc : Int) + offs[(x.toInt - lo).toNat] = (tg js[(x.toInt - lo).toNat] : Int) := by
        have hmem : (offs[(x.toInt - lo).toNat], js[(x.toInt - lo).toNat]) ∈ offs.toList.zip js := by
          refine List.mem_of_getElem? (i := (x.toInt - lo).toNat) ?_
          rw [List.getElem?_eq_getElem (by simp; omega)]
          simp
        exact of_decide_eq_true (List.all_eq_true.mp hall _ hmem)
      exact lv_tableIn X.1 X.2.1 hdg h1 h2 (Array.getElem?_eq_getElem hi2) ht (hj _ _ _ _ _ _ _ h hn hM hR)
theorem zs_lookupswitch (X : zCx G p R s m args meth c cc nL own nm d) {jmp : zJ} {tg : Nat → Nat} {dflt : Int} {ps : Array (Int × Int)} {len dd : Nat} {js : List Nat} (hj : ∀ k, zCo G M0 r p l e R s m args below meth c Q nL (jmp k) (tg k)) (hdg : decode cc pc = .ok (.lookupswitch dflt ps, len)) (hd : (pc : Int) + dflt = (tg dd : Int)) (hs : (ps.toList.zip (ps.toList.drop 1)).all (fun (a, next) => a.1 < next.1) = true) (hlen : ps.toList.length = js.length) (hall : (ps.toList.zip js).all (fun q => decide ((pc : Int) + q.1.2 = (tg q.2 : Int))) = true) : zCo G M0 r p l e R s m args below meth c Q nL (fun ls st M => zI1 st (fun x st => jmp (zlk x.toInt ((ps.toList.map (fun p => p.1)).zip js) dd) ls st M)) pc := by
  intro ls st M H locs L h0 hn hM hR
  obtain ⟨x, st, rfl, h⟩ := zI1_s h0
  exact lv_lookup X.1 X.2.1 hdg hs rfl (zlk_off pc tg hd x.toInt ps.toList js hlen hall) (hj _ _ _ _ _ _ _ h hn hM hR)
theorem zs_objInit (X : zCx G p R s m args meth c cc nL own nm d) (hkk : zCo G M0 r p l e R s m args below meth c Q nL kk (pc + 3)) {ix n q w : Nat} {y : Nat → List Value → zM → Option zR} (hdg : decode cc pc = .ok (.invokespecial ix, 3)) (hw : zw w = some (.methodLink own ix Lib.objectInit)) (hn1 : n = 1) : zCo G M0 r p l e R s m args below meth c Q nL (fun ls st M => zpop n [] st (fun as st => zgd (decide (zwd st ≤ 8)) (if (1 : Nat) = 1 then (match as with | [.ref _] => kk ls st M | _ => none) else zrk q (y 0 as M) ls st kk))) pc := by
  intro ls st M H locs L h0 hn hM hR
  subst hn1
  obtain ⟨as, st, rfl, hlen, ha⟩ := zpop_s h0
  rw [List.append_nil] at ha
  obtain ⟨hg, hb⟩ := zgd_s ha
  rw [if_pos rfl] at hb
  split at hb
  · rename_i b
    have hwd : zwd st ≤ 8 := of_decide_eq_true hg
    have hts := X.2.2.2.2.1
    have h8 := X.2.2.2.2.2.2.2.2.2
    refine W.objInit X.1 X.2.1 X.2.2.2.1 (hts _ (zw_in hw)) (hts _ (zw_in (a := 1028) (w := .instanceMethod Lib.objectInit) (by decide +kernel))) (hts _ (zw_in (a := 1029) (w := .code Lib.objectInit ⟨#[0xb1]⟩ 1 none) (by decide +kernel))) rfl (a := zad G b) (rest := st.map (zv G)) ?_ rfl hdg (by omega) ?_ (hkk _ _ _ _ _ _ hb hn hM hR)
    · show L.size = _
      rw [hR.2.2.1, hn, X.2.2.1]
    · have h9 : 2 * (F0 m pc L (List.map (zv G) ([Value.ref b].reverse ++ st))).monitorRoom + ((st.map (zv G)).map fun v => v.category).sum ≤ 8 := lv_room (by rw [zwd_sum]; exact hwd)
      show 2 * (F0 m pc L (List.map (zv G) ([Value.ref b].reverse ++ st))).monitorRoom + ((st.map (zv G)).map fun v => v.category).sum + 12 ≤ R.locals
      omega
  · cases hb
theorem zcp_s {M : zM} {a b : Nat} {sp dp n : Int32} {k : zM → Option zR} {r : zR} (h : zcp M a sp b dp n k = some r) : 16 ≤ a ∧ 16 ≤ b ∧ 0 ≤ sp ∧ 0 ≤ dp ∧ 0 ≤ n ∧ sp.toNatClampNeg + n.toNatClampNeg ≤ zln M a ∧ dp.toNatClampNeg + n.toNatClampNeg ≤ zln M b ∧ zkk M a = zkk M b ∧ ((zkk M a = 1 ∧ k (zci M a sp.toNatClampNeg b dp.toNatClampNeg n.toNatClampNeg) = some r) ∨ (zkk M a = 2 ∧ k (zcl M a sp.toNatClampNeg b dp.toNatClampNeg n.toNatClampNeg) = some r)) := by
  obtain ⟨g, h⟩ := zgd_s h
  simp only [Bool.and_eq_true, decide_eq_true_eq, Bool.or_eq_true, beq_iff_eq] at g
  obtain ⟨g1, g2, g3, g4, g5, g6, g7, g8, g9⟩ := g
  refine ⟨g1, g2, g3, g4, g5, g6, g7, g8, ?_⟩
  by_cases h1 : zkk M a = 1
  · rw [if_pos h1] at h; exact Or.inl ⟨h1, h⟩
  · rw [if_neg h1] at h; exact Or.inr ⟨by omega, h⟩
theorem z_nn {z : Int32} (hz : 0 ≤ z) : z.toInt = (z.toNatClampNeg : Int) := by
  have hz0 : (0 : Int) ≤ z.toInt := by simpa using Int32.le_iff_toInt_le.mp hz
  show z.toInt = ((z.toInt.toNat : Nat) : Int)
  omega
theorem zav_ci {M : zM} {a b sp dp n : Nat} : (fun j => Value.int (va_cpy (zgi M a) (zgi M b) sp dp n j)) = zav G (zci M a sp b dp n) b 1 := by
  funext j
  simp [zav, zgi, zci]
  rfl
theorem zav_cl {M : zM} {a b sp dp n : Nat} : (fun j => Value.long (va_cpy (zgl M a) (zgl M b) sp dp n j)) = zav G (zcl M a sp b dp n) b 2 := by
  funext j
  simp [zav, zgl, zcl]
  rfl
/-- a copy: the target becomes that cell -/
theorem zcopy (X : zCx G p R s m args meth c cc nL own nm d) {ix w a b k : Nat} {α : Type} {mk : α → Value} {f g : Nat → α} {sp dp n : Int32} {M M1 : zM} {H : Heap} {locs : List Loc} {ls : zLs} {L : Array Slot} {st : List Value} {cells slots : Nat} (hdg : decode cc pc = .ok (.invokestatic ix, 3)) (hw : zw w = some (.methodLink own ix arraycopyName)) (hn : ls.length = nL) (hwd : zwd st ≤ 8) (hR : zRl G M s H locs ls L)
    (ha1 : 16 ≤ a) (ha2 : a < znx M) (ha3 : (zkd a).1 = k) (hb1 : 16 ≤ b) (hb2 : b < znx M) (hb3 : (zkd b).1 = k) (hk : k = 1 ∨ k = 2) (hfa : zav G M a k = fun j => mk (f j)) (hfb : zav G M b k = fun j => mk (g j)) (hfit : ∀ x, fits (zty k) (mk x) = true) (hnr : ∀ x, (mk x).isRef = false)
    (h1 : 0 ≤ sp) (h2 : 0 ≤ dp) (h3 : 0 ≤ n) (h4 : sp.toNatClampNeg + n.toNatClampNeg ≤ (zkd a).2) (h5 : dp.toNatClampNeg + n.toNatClampNeg ≤ (zkd b).2) (hs : zsm b M M1) (hM1 : (fun j => mk (va_cpy f g sp.toNatClampNeg dp.toNatClampNeg n.toNatClampNeg j)) = zav G M1 b k)
    (kk : ∀ (H1 : Heap) (locs1 : List Loc), zRl G M1 s H1 locs1 ls L → W p l e R s m args below meth c H1 locs1 cells slots Q (F0 m (pc + 3) L (st.map (zv G)))) : W p l e R s m args below meth c H locs cells slots Q (F0 m pc L (.int n :: .int dp :: .ref (zad G b) :: .int sp :: .ref (zad G a) :: st.map (zv G))) := by
  have hts := X.2.2.2.2.1
  have h8 := X.2.2.2.2.2.2.2.2.2
  obtain ⟨hc0, hk1, hk5⟩ := zarr hR.1 ha1 ha2 ha3 (by omega)
  obtain ⟨hc1, -, -⟩ := zarr hR.1 hb1 hb2 hb3 (by omega)
  obtain ⟨-, k0, hk0, cm0, hkk0⟩ := (zK_arr X.2.2.2.2.2.1 hk1 hk5).1 (zkd a).2 (zav G M a k)
  obtain ⟨-, k1, hk1', cm1, hkk1⟩ := (zK_arr X.2.2.2.2.2.1 hk1 hk5).1 (zkd b).2 (zav G M b k)
  intro T0 hT X0
  obtain ⟨vm', X', step⟩ := X0.arraycopy X.1 X.2.2.2.1 (hts _ (zw_in hw)) (hts _ (zw_in (a := 4014) (w := .native arraycopyName) (by decide +kernel))) (hts _ (zw_in (a := 4013) (w := .static arraycopyName) (by decide +kernel))) (hts _ (zw_in (a := 1020) (w := .initialized "java/lang/System") (by decide +kernel))) (src := zad G a) (dst := zad G b) (cs := arrV (gR G k) (zkd a).2 (zav G M a k)) (cd := arrV (gR G k) (zkd b).2 (zav G M b k)) (srcPos := sp) (destPos := dp) (n := n) (by rw [hT]; exact hc0) (by rw [hT]; exact hc1)
    (fun _ h => by cases h) (fun _ h => by cases h) (fun h => by cases h) (fun h => by cases h) hk0 hk1' hkk0 hkk1 (by rcases hk with rfl | rfl <;> rfl) (Int32.not_lt.mpr h1) (Int32.not_lt.mpr h2) (Int32.not_lt.mpr h3)
    (by rw [z_nn h1, z_nn h3, arrV_size]; omega)
    (by rw [z_nn h2, z_nn h3, arrV_size]; omega)
    (fun vm₁ _ i hi => by
      have ez : (arrV (gR G k) (zkd a).2 (zav G M a k)).slots.getD (sp.toNatClampNeg + i) .null = mk (f (sp.toNatClampNeg + i)) := by
        rw [Array.getD_eq_getD_getElem?, arrV_read _ _ (by omega), hfa]
        rfl
      refine ⟨?_, ?_⟩
      · rw [ez]
        exact hfit _
      · rw [ez]
        have hr := hnr (f (sp.toNatClampNeg + i))
        revert hr
        cases mk (f (sp.toNatClampNeg + i)) <;> intro hr <;> first | trivial | cases hr)
    (g := F0 m pc L (.int n :: .int dp :: .ref (zad G b) :: .int sp :: .ref (zad G a) :: st.map (zv G))) rfl (by show L.size = _; rw [hR.2.2.1, hn, X.2.2.1]) (rest := st.map (zv G)) rfl (by rw [X.2.1]; exact hdg) (by omega) (by
      have h9 : 2 * (F0 m pc L (st.map (zv G))).monitorRoom + ((st.map (zv G)).map fun v => v.category).sum ≤ 8 := lv_room (by rw [zwd_sum]; exact hwd)
      have h10 : nativeFrameWords "java/lang/System" "arraycopy" 5 = 7 := by decide
      rw [h10]
      show 2 * (F0 m pc L (st.map (zv G))).monitorRoom + _ + _ ≤ _
      omega)
  have e1 : copied (arrV (gR G k) (zkd a).2 (zav G M a k)) (arrV (gR G k) (zkd b).2 (zav G M b k)) sp dp n = arrV (gR G k) (zkd b).2 (zav G M1 b k) := by
    rw [hfa, hfb, ← hM1]
    exact va_copied mk _ _ f g h4
  rw [e1] at X' step
  have hl : zad G b < H.size := (Array.getElem?_eq_some_iff.mp hc1).1
  have hheap : ((T0.setVm vm').setCell (zad G b) (arrV (gR G k) (zkd b).2 (zav G M1 b k))).heap = H.setIfInBounds (zad G b) (arrV (gR G k) (zkd b).2 (zav G M1 b k)) := by rw [← hT]; rfl
  have oq : ∀ q : Nat, q ≠ zad G b → (H.setIfInBounds (zad G b) (arrV (gR G k) (zkd b).2 (zav G M1 b k)))[q]? = H[q]? := fun q hq => by simp [Array.getElem?_setIfInBounds, Ne.symm hq]
  have hat : zat G M1 (H.setIfInBounds (zad G b) (arrV (gR G k) (zkd b).2 (zav G M1 b k))) b := zat_arr hR.1 hb1 hb2 hb3 (by omega) rfl (by simp [Array.getElem?_setIfInBounds, hl])
  obtain ⟨t, a1, b1⟩ := kk _ _ ⟨zHR_upd hR.1 hb1 hb2 hs (by simp) oq hat, ⟨by simp; exact hR.2.1.1, fun q g1 g2 => by
      rw [oq q (fun ez => g2 (by rw [ez]; exact zA_new hb1 (zHR_o hR.1 hb2)))]
      exact hR.2.1.2.1 q g1 g2, fun q hq => by
      rcases List.mem_append.mp hq with h | h
      · exact hR.2.1.2.2 q h
      · obtain ⟨z, -, hz⟩ := List.mem_map.mp h
        rw [← hz]
        exact zA_new hb1 (zHR_o hR.1 hb2)⟩, hR.2.2⟩ _ hheap X'
  exact ⟨t, step t a1, b1⟩
theorem zs_arraycopy (X : zCx G p R s m args meth c cc nL own nm d) (hkk : zCo G M0 r p l e R s m args below meth c Q nL kk (pc + 3)) {ix w : Nat} (hdg : decode cc pc = .ok (.invokestatic ix, 3)) (hw : zw w = some (.methodLink own ix arraycopyName)) : zCo G M0 r p l e R s m args below meth c Q nL (fun ls st M => match st with
      | .int n :: .int dp :: .ref b :: .int sp :: .ref a :: st => zgd (decide (zwd st ≤ 8)) (zcp M a sp b dp n (fun M => kk ls st M))
      | _ => none) pc := by
  intro ls st M H locs L h0 hn hM hR
  dsimp only at h0
  split at h0
  · rename_i n dp b sp a st
    obtain ⟨hg, hb⟩ := zgd_s h0
    obtain ⟨g1, g2, g3, g4, g5, g6, g7, g8, g9⟩ := zcp_s hb
    have key : ∀ {o k : Nat}, zkk M o = k → 16 ≤ o → (k = 1 ∨ k = 2) → o < 1000 ∧ o < znx M ∧ (zkd o).1 = k := by
      intro o k hk h16 h12
      rcases zkk_in (M := M) (o := o) (k := k) (beq_iff_eq.mpr hk) (by omega) with ⟨g, -⟩ | ⟨-, y1, y2, y3⟩ | ⟨-, -, ⟨-, g⟩ | ⟨-, g⟩⟩
      · omega
      · exact ⟨y1, y2, y3⟩
      · omega
      · omega
    rcases g9 with ⟨hk, h⟩ | ⟨hk, h⟩
    · obtain ⟨a1, a2, a3⟩ := key hk g1 (Or.inl rfl)
      obtain ⟨b1, b2, b3⟩ := key (g8.symm.trans hk) g2 (Or.inl rfl)
      rw [zln_in g1 a1] at g6
      rw [zln_in g2 b1] at g7
      refine zcopy X (mk := fun x => Value.int x) (f := zgi M a) (g := zgi M b) hdg hw hn (of_decide_eq_true hg) hR g1 a2 a3 g2 b2 b3 (Or.inl rfl) rfl rfl (fun _ => rfl) (fun _ => rfl) g3 g4 g5 g6 g7 (zsm_ci (a := a) (sp := sp.toNatClampNeg) (dp := dp.toNatClampNeg) (n := n.toNatClampNeg)) zav_ci fun H1 locs1 hR1 => ?_
      exact hkk _ _ (zci M a sp.toNatClampNeg b dp.toNatClampNeg n.toNatClampNeg) _ _ _ h hn (zle_tr hM (zsm_le zsm_ci g2)) hR1
    · obtain ⟨a1, a2, a3⟩ := key hk g1 (Or.inr rfl)
      obtain ⟨b1, b2, b3⟩ := key (g8.symm.trans hk) g2 (Or.inr rfl)
      rw [zln_in g1 a1] at g6
      rw [zln_in g2 b1] at g7
      refine zcopy X (mk := fun x => Value.long x) (f := zgl M a) (g := zgl M b) hdg hw hn (of_decide_eq_true hg) hR g1 a2 a3 g2 b2 b3 (Or.inr rfl) rfl rfl (fun _ => rfl) (fun _ => rfl) g3 g4 g5 g6 g7 (zsm_cl (a := a) (sp := sp.toNatClampNeg) (dp := dp.toNatClampNeg) (n := n.toNatClampNeg)) zav_cl fun H1 locs1 hR1 => ?_
      exact hkk _ _ (zcl M a sp.toNatClampNeg b dp.toNatClampNeg n.toNatClampNeg) _ _ _ h hn (zle_tr hM (zsm_le zsm_cl g2)) hR1
  · cases h0
theorem zs_math (X : zCx G p R s m args meth c cc nL own nm d) (hkk : zCo G M0 r p l e R s m args below meth c Q nL kk (pc + 3)) (hkm : ∀ ls st M, kk ls st M = some r → zle M r.2) (hroom : znx r.2 - znx M0 ≤ R.cells ∧ zsz r.2 - zsz M0 ≤ R.slots) {ix w k : Nat} {y : MethodName} (hdg : decode cc pc = .ok (.invokestatic ix, 3)) (hw : zw w = some (.methodLink own ix y)) (hk : (k = 0 ∧ y = Lib.Math.max.name) ∨ (k = 1 ∧ y = Lib.Math.min.name) ∨ (k = 2 ∧ y = Lib.Math.abs.name) ∨ (k = 3 ∧ y = Lib.MathLoose.max_long.x) ∨ (k = 4 ∧ y = Lib.MathLoose.min_long.x)) : zCo G M0 r p l e R s m args below meth c Q nL (fun ls st M => zmth k ls st M kk) pc := by
  intro ls st M H locs L h0 hn hM hR
  have hts := X.2.2.2.2.1
  have h8 := X.2.2.2.2.2.2.2.2.2
  rcases hk with ⟨rfl, rfl⟩ | ⟨rfl, rfl⟩ | ⟨rfl, rfl⟩ | ⟨rfl, rfl⟩ | ⟨rfl, rfl⟩
  · obtain ⟨x, y, st, rfl, ha⟩ := zI2_s h0
    obtain ⟨hg, h⟩ := zgd_s ha
    have hle := hkm _ _ _ h
    have hwd : zwd st ≤ 8 := of_decide_eq_true hg
    have h9 := zwd_sum (G := G) st
    refine va_mmax X.1 X.2.1 (by rw [X.2.2.1, hR.2.2.1, hn]) X.2.2.2.1 (hts _ (zw_in hw)) (hts _ (zw_in (a := 1174) (by decide +kernel))) (hts _ (zw_in (a := 1009) (by decide +kernel))) (hts _ (zw_in (a := 1175) (by decide +kernel))) (by omega) (by omega) ?_ ?_ hdg (hkk _ _ _ _ _ _ h hn hM hR)
    · have a1 := hle.1; have a2 := hroom.1; omega
    · have a1 := hle.2.1; have a2 := hroom.2; omega
  · obtain ⟨x, y, st, rfl, ha⟩ := zI2_s h0
    obtain ⟨hg, h⟩ := zgd_s ha
    have hle := hkm _ _ _ h
    have hwd : zwd st ≤ 8 := of_decide_eq_true hg
    have h9 := zwd_sum (G := G) st
    refine va_mmin X.1 X.2.1 (by rw [X.2.2.1, hR.2.2.1, hn]) X.2.2.2.1 (hts _ (zw_in hw)) (hts _ (zw_in (a := 2192) (by decide +kernel))) (hts _ (zw_in (a := 1009) (by decide +kernel))) (hts _ (zw_in (a := 2193) (by decide +kernel))) (by omega) (by omega) ?_ ?_ hdg (hkk _ _ _ _ _ _ h hn hM hR)
    · have a1 := hle.1; have a2 := hroom.1; omega
    · have a1 := hle.2.1; have a2 := hroom.2; omega
  · obtain ⟨x, st, rfl, ha⟩ := zI1_s h0
    obtain ⟨hg, h⟩ := zgd_s ha
    have hle := hkm _ _ _ h
    have hwd : zwd st ≤ 8 := of_decide_eq_true hg
    have h9 := zwd_sum (G := G) st
    refine va_mabs X.1 X.2.1 (by rw [X.2.2.1, hR.2.2.1, hn]) X.2.2.2.1 (hts _ (zw_in hw)) (hts _ (zw_in (a := 5125) (by decide +kernel))) (hts _ (zw_in (a := 1009) (by decide +kernel))) (hts _ (zw_in (a := 5126) (by decide +kernel))) (by omega) (by omega) ?_ ?_ hdg (hkk _ _ _ _ _ _ h hn hM hR)
    · have a1 := hle.1; have a2 := hroom.1; omega
    · have a1 := hle.2.1; have a2 := hroom.2; omega
  · obtain ⟨x, y, st, rfl, ha⟩ := zL2_s h0
    obtain ⟨hg, h⟩ := zgd_s ha
    have hle := hkm _ _ _ h
    have hwd : zwd st ≤ 8 := of_decide_eq_true hg
    have h9 := zwd_sum (G := G) st
    refine va_mmax_long X.1 X.2.1 (by rw [X.2.2.1, hR.2.2.1, hn]) X.2.2.2.1 (hts _ (zw_in hw)) (hts _ (zw_in (a := 6217) (by decide +kernel))) (hts _ (zw_in (a := 1009) (by decide +kernel))) (hts _ (zw_in (a := 6218) (by decide +kernel))) (by omega) (by omega) ?_ ?_ hdg (hkk _ _ _ _ _ _ h hn hM hR)
    · have a1 := hle.1; have a2 := hroom.1; omega
    · have a1 := hle.2.1; have a2 := hroom.2; omega
  · obtain ⟨x, y, st, rfl, ha⟩ := zL2_s h0
    obtain ⟨hg, h⟩ := zgd_s ha
    have hle := hkm _ _ _ h
    have hwd : zwd st ≤ 8 := of_decide_eq_true hg
    have h9 := zwd_sum (G := G) st
    refine va_mmin_long X.1 X.2.1 (by rw [X.2.2.1, hR.2.2.1, hn]) X.2.2.2.1 (hts _ (zw_in hw)) (hts _ (zw_in (a := 6214) (by decide +kernel))) (hts _ (zw_in (a := 1009) (by decide +kernel))) (hts _ (zw_in (a := 6215) (by decide +kernel))) (by omega) (by omega) ?_ ?_ hdg (hkk _ _ _ _ _ _ h hn hM hR)
    · have a1 := hle.1; have a2 := hroom.1; omega
    · have a1 := hle.2.1; have a2 := hroom.2; omega
/-- what is wanted at a method's ends -/
def zFn (G : zG) (M0 : zM) (r : zR) (p : Program) (l : Launch) (e : Env) (R : Room) (s : State) (m : MethodId) (args : Array Value) (below : List Frame) (meth : Method) (c : Code) (Q : State → Prop) (cc : ByteArray) (rt : Nat) : Prop :=
  (∀ (x : Int32) (M : zM) (H : Heap) (locs : List Loc) (L : Array Slot) (pc : Nat), r = (some (.int x), M) → zle M0 M → zHR G M H → va_S (zA G) s.heap H locs → (∃ ty, zrf rt = some ty ∧ narrow ty (.int x) = .int x) → decode cc pc = .ok (.ireturn, 1) → W p l e R s m args below meth c H locs (znx M - znx M0) (zsz M - zsz M0) Q (F0 m pc L [.int x])) ∧
  (∀ (x : Int64) (M : zM) (H : Heap) (locs : List Loc) (L : Array Slot) (pc : Nat), r = (some (.long x), M) → zle M0 M → zHR G M H → va_S (zA G) s.heap H locs → rt = 1 → decode cc pc = .ok (.lreturn, 1) → W p l e R s m args below meth c H locs (znx M - znx M0) (zsz M - zsz M0) Q (F0 m pc L [.long x])) ∧
  (∀ (M : zM) (H : Heap) (locs : List Loc) (L : Array Slot) (pc : Nat), r = (none, M) → zle M0 M → zHR G M H → va_S (zA G) s.heap H locs → rt = 2 → decode cc pc = .ok (.return_, 1) → W p l e R s m args below meth c H locs (znx M - znx M0) (zsz M - zsz M0) Q (F0 m pc L []))
theorem zs_ireturn (X : zCx G p R s m args meth c cc nL own nm d) (hF : zFn G M0 r p l e R s m args below meth c Q cc rt) (hdg : decode cc pc = .ok (.ireturn, 1)) : zCo G M0 r p l e R s m args below meth c Q nL (fun ls st M => match st with
    | [.int x] => zrt rt x M
    | _ => none) pc := by
  intro ls st M H locs L h0 hn hM hR
  dsimp only at h0
  split at h0
  · obtain ⟨h1, h2⟩ := zrt_s h0
    exact hF.1 _ M H locs L pc h1 hM hR.1 hR.2.1 h2 hdg
  · cases h0
theorem zs_lreturn (X : zCx G p R s m args meth c cc nL own nm d) (hF : zFn G M0 r p l e R s m args below meth c Q cc rt) (hdg : decode cc pc = .ok (.lreturn, 1)) : zCo G M0 r p l e R s m args below meth c Q nL (fun ls st M => match st with
    | [.long x] => if rt = 1 then some (some (.long x), M) else none
    | _ => none) pc := by
  intro ls st M H locs L h0 hn hM hR
  dsimp only at h0
  split at h0
  · split at h0
    · cases h0
      exact hF.2.1 _ M H locs L pc rfl hM hR.1 hR.2.1 (by assumption) hdg
    · cases h0
  · cases h0
theorem zs_return (X : zCx G p R s m args meth c cc nL own nm d) (hF : zFn G M0 r p l e R s m args below meth c Q cc rt) (hdg : decode cc pc = .ok (.return_, 1)) : zCo G M0 r p l e R s m args below meth c Q nL (fun ls st M => match st with
    | [] => if rt = 2 then some (none, M) else none
    | _ => none) pc := by
  intro ls st M H locs L h0 hn hM hR
  dsimp only at h0
  split at h0
  · split at h0
    · cases h0
      exact hF.2.2 M H locs L pc rfl hM hR.1 hR.2.1 (by assumption) hdg
    · cases h0
  · cases h0
end
