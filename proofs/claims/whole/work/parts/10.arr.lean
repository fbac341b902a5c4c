/-! THE SMALL MACHINE IS SOUND: arrays, new cells -/
theorem zok_s {M : zM} {o c : Nat} {i : Int32} (h : zok M o c i = true) : (zkk M o == c) = true ∧ vp_in i (zln M o) := by
  unfold zok at h
  rw [Bool.and_eq_true, Bool.and_eq_true, decide_eq_true_eq, decide_eq_true_eq] at h
  refine ⟨h.1, fun g => ?_⟩
  rcases g with g | g
  · exact absurd h.2.1 (Int32.not_le.mpr g)
  · omega
theorem zow_s {M : zM} {o c : Nat} {i : Int32} (h : zow M o c i = true) (hc : c ≠ 0) (hc6 : c < 6) : 16 ≤ o ∧ o < 1000 ∧ o < znx M ∧ (zkd o).1 = c ∧ vp_in i (zkd o).2 := by
  unfold zow at h
  rw [Bool.and_eq_true, decide_eq_true_eq] at h
  obtain ⟨h1, h2⟩ := zok_s h.2
  rcases zkk_in h1 hc with ⟨g, -⟩ | ⟨g1, g2, g3, g4⟩ | ⟨-, -, ⟨-, g⟩ | ⟨-, g⟩⟩
  · omega
  · refine ⟨g1, g2, g3, g4, ?_⟩
    unfold zln at h2
    rw [if_neg (by omega), if_pos g2] at h2
    exact h2
  · omega
  · omega
theorem zln_in {M : zM} {o : Nat} (h : 16 ≤ o) (h2 : o < 1000) : zln M o = (zkd o).2 := by unfold zln; rw [if_neg (by omega), if_pos h2]
theorem zad_out {G : zG} {o : Nat} (h : o < 16 ∨ 1000 ≤ o) : zad G o = gA G o := by unfold zad; rw [if_neg (by omega)]
theorem zav_pi {G : zG} {M : zM} {o k j : Nat} {v : Int32} (hk : k = 1 ∨ k = 3) : updV (zav G M o k) j (.int v) = zav G (zpi M o j v) o k := by
  funext i
  unfold updV zav
  by_cases h : i = j
  · subst h
    rcases hk with rfl | rfl <;> simp [zgi, zpi]
  · rcases hk with rfl | rfl <;> simp [zgi, zpi, h]
theorem zav_pl {G : zG} {M : zM} {o j : Nat} {v : Int64} : updV (zav G M o 2) j (.long v) = zav G (zpl M o j v) o 2 := by
  funext i
  unfold updV zav
  by_cases h : i = j
  · subst h
    simp [zgl, zpl]
  · simp [zgl, zpl, h]
theorem zav_pr {G : zG} {M : zM} {o k j v : Nat} (hk : k = 4 ∨ k = 5) (hv : v ≠ 0) : updV (zav G M o k) j (.ref (zad G v)) = zav G (zpr M o j v) o k := by
  funext i
  unfold updV zav
  by_cases h : i = j
  · subst h
    rcases hk with rfl | rfl <;> simp [zgr, zpr, zrv, hv]
  · rcases hk with rfl | rfl <;> simp [zgr, zpr, h]
theorem zav_i {G : zG} {M : zM} {o k : Nat} (hk : k = 1 ∨ k = 3) (j : Nat) : zav G M o k j = .int (zgi M o j) := by rcases hk with rfl | rfl <;> rfl
theorem zav_q {G : zG} {M : zM} {o k : Nat} (hk : k = 4 ∨ k = 5) (j : Nat) : zav G M o k j = zrv G (zgr M o j) := by rcases hk with rfl | rfl <;> rfl
/-- the longs of the static array, the bytes of the text constants -/
theorem zbl_at {o : Nat} (h1 : 1000 ≤ o) (h2 : o < 1000 + 2 * zstr.length) : (o - 1000) / 2 < zstr.length ∧ (¬ o % 2 = 0 → o = 1000 + 2 * ((o - 1000) / 2) + 1) ∧ (o % 2 = 0 → o = 1000 + 2 * ((o - 1000) / 2)) := by omega
theorem zbl_get {i : Nat} {q : Nat} (hq : q = 1000 + 2 * i + 1 ∨ q = 1000 + 2 * i) : zbl q = zstr.getD i [] := by
  unfold zbl
  rw [show (q - 1000) / 2 = i by omega, znth_get, List.getD_eq_getElem?_getD]
theorem zstl_get {i : Nat} (hi : i < zstr.length) : (zstr.map List.length).getD i 0 = (zstr.getD i []).length := by
  rw [List.getD_eq_getElem?_getD, List.getD_eq_getElem?_getD, List.getElem?_map, List.getElem?_eq_getElem hi]
  rfl
section
variable {p : Program} {l : Launch} {e : Env} {R : Room} {s : State} {m : MethodId} {args : Array Value} {below : List Frame} {meth : Method} {c : Code} {Q : State → Prop} {cc : ByteArray} {G : zG} {M0 : zM} {r : zR} {nL : Nat} {own nm : String} {d pc : Nat} {kk : zC}
theorem zX1 (X : zCx G p R s m args meth c cc nL own nm d) {H : Heap} {locs : List Loc} (hS : va_S (zA G) s.heap H locs) : va_X (gA G 1) (gL G) (gX G) s s.heap ∧ gA G 1 < s.heap.size ∧ ¬ zA G (gA G 1) := by
  have h := X.2.2.2.2.2.2.1.1
  have h2 := X.2.2.2.2.2.2.2.1
  exact ⟨h.2.2, by omega, fun q => by have : gB G ≤ gA G 1 := q; omega⟩
/-- a text's bytes -/
theorem zXs (X : zCx G p R s m args meth c cc nL own nm d) {i : Nat} (hi : i < zstr.length) : va_T .byte (gA G (1000 + 2 * i + 1)) (zstr.getD i []).length (fun j => .int ((zstr.getD i []).getD j 0)) (zA G) s s.heap := by
  have h := (X.2.2.2.2.2.2.1.2.2.2.2.1.1 i hi).2.2.2
  rw [zstl_get hi] at h
  exact h
theorem zs_getfieldS (X : zCx G p R s m args meth c cc nL own nm d) (hkk : zCo G M0 r p l e R s m args below meth c Q nL kk (pc + 3)) {ix k w : Nat} {q : String × String} (hdg : decode cc pc = .ok (.getfield ix, 3)) (hq : (k = 0 ∧ q = ("value", "[B")) ∨ (k = 1 ∧ q = ("coder", "B"))) (hw : zw w = some (.fieldLink own ix "java/lang/String" q.1 q.2)) : zCo G M0 r p l e R s m args below meth c Q nL (fun ls st M => zA1 st (fun o st => zgd (zkk M o == 7) (kk ls (zgt o k :: st) M))) pc := by
  intro ls st M H locs L h0 hn hM hR
  obtain ⟨o, st, rfl, ha⟩ := zA1_s h0
  obtain ⟨hg, h⟩ := zgd_s ha
  rcases zkk_in hg (by decide) with ⟨-, ⟨-, g⟩ | ⟨-, g⟩⟩ | ⟨g1, g2, g3, g4⟩ | ⟨h1, h2, ⟨g, -⟩ | ⟨-, g⟩⟩
  · omega
  · omega
  · obtain ⟨-, h5 | ⟨h5, -⟩⟩ := zkd_ok hR.1 g1 g3 <;> omega
  · obtain ⟨i1, -, i3⟩ := zbl_at h1 h2
    have ho := i3 g
    generalize (o - 1000) / 2 = i at i1 ho
    subst ho
    have hs := X.2.2.2.2.2.2.1.2.2.2.2.1.1 i i1
    have ez : zad G (1000 + 2 * i) = gA G (1000 + 2 * i) := zad_out (Or.inr (by omega))
    rcases hq with ⟨rfl, rfl⟩ | ⟨rfl, rfl⟩
    · refine va_getX (i := i) (N := zstr.length) (v := fun i => .ref (gA G (1000 + 2 * i + 1))) (ad := fun i => zad G (1000 + 2 * i)) X.1 X.2.1 (o := "java/lang/String") (n := "value") (d := "[B") ?_ i1 hR.2.1 X.2.2.2.1 (X.2.2.2.2.1 _ (zw_in hw)) (fun _ h => h) hdg ?_
      · intro j hj
        dsimp only
        rw [zad_out (G := G) (o := 1000 + 2 * j) (Or.inr (by omega))]
        exact (X.2.2.2.2.2.2.1.2.2.2.2.1.1 j hj).2.2.1
      · rw [← zad_out (G := G) (o := 1000 + 2 * i + 1) (Or.inr (by omega))]
        exact hkk _ _ _ _ _ _ h hn hM hR
    · refine va_getX (i := i) (N := zstr.length) (v := fun i => .int 0) (ad := fun i => zad G (1000 + 2 * i)) X.1 X.2.1 (o := "java/lang/String") (n := "coder") (d := "B") ?_ i1 hR.2.1 X.2.2.2.1 (X.2.2.2.2.1 _ (zw_in hw)) (fun _ h => h) hdg ?_
      · intro j hj
        dsimp only
        rw [zad_out (G := G) (o := 1000 + 2 * j) (Or.inr (by omega))]
        exact (X.2.2.2.2.2.2.1.2.2.2.2.1.1 j hj).2.1
      · exact hkk _ _ _ _ _ _ h hn hM hR
  · omega
theorem zs_iaload (X : zCx G p R s m args meth c cc nL own nm d) (hkk : zCo G M0 r p l e R s m args below meth c Q nL kk (pc + 1)) (hdg : decode cc pc = .ok (.iaload, 1)) : zCo G M0 r p l e R s m args below meth c Q nL (fun ls st M => zAI st (fun a i st => zgd (zok M a 1 i) (kk ls (.int (zgi M a i.toNatClampNeg) :: st) M))) pc := by
  intro ls st M H locs L h0 hn hM hR
  obtain ⟨a, i, st, rfl, ha⟩ := zAI_s h0
  obtain ⟨hg, h⟩ := zgd_s ha
  obtain ⟨hk, hin⟩ := zok_s hg
  rcases zkk_in hk (by decide) with ⟨-, ⟨rfl, g⟩ | ⟨-, g⟩⟩ | ⟨g1, g2, g3, g4⟩ | ⟨-, -, ⟨-, g⟩ | ⟨-, g⟩⟩
  · obtain ⟨x1, x2, x3⟩ := zX1 X hR.2.1
    have ez : zad G 1 = gA G 1 := zad_out (Or.inl (by decide))
    have e2 : zln M 1 = gL G := hR.1.1.2.2.2.1
    rw [e2] at hin
    have hk := hkk _ _ _ _ _ _ h hn hM hR
    rw [hR.1.1.2.2.2.2] at hk
    show W p l e R s m args below meth c H locs _ _ Q (F0 m pc L (.int i :: .ref (zad G 1) :: _))
    rw [ez]
    exact va_sld X.1 X.2.1 x1 x2 x3 hR.2.1 hin hdg hk
  · omega
  · obtain ⟨hc, -⟩ := zarr hR.1 g1 g3 g4 (by decide)
    rw [zln_in g1 g2] at hin
    have hlt : i.toNatClampNeg < (zkd a).2 := Nat.not_le.mp fun q => hin (Or.inr q)
    exact W.iald (v := .int (zgi M a i.toNatClampNeg)) X.1 X.2.1 hc ((zK_arr X.2.2.2.2.2.1 (k := 1) (by decide) (by decide)).1 _ _) (fun q => by cases q) (by rw [arrV_size]; exact hin) (by rw [arrV_read _ _ hlt]; rfl) rfl rfl hdg (hkk _ _ _ _ _ _ h hn hM hR)
  · omega
  · omega
theorem zs_laload (X : zCx G p R s m args meth c cc nL own nm d) (hkk : zCo G M0 r p l e R s m args below meth c Q nL kk (pc + 1)) (hdg : decode cc pc = .ok (.laload, 1)) : zCo G M0 r p l e R s m args below meth c Q nL (fun ls st M => zAI st (fun a i st => zgd (zok M a 2 i) (kk ls (.long (zgL M a i.toNatClampNeg) :: st) M))) pc := by
  intro ls st M H locs L h0 hn hM hR
  obtain ⟨a, i, st, rfl, ha⟩ := zAI_s h0
  obtain ⟨hg, h⟩ := zgd_s ha
  obtain ⟨hk, hin⟩ := zok_s hg
  rcases zkk_in hk (by decide) with ⟨-, ⟨-, g⟩ | ⟨rfl, g⟩⟩ | ⟨g1, g2, g3, g4⟩ | ⟨-, -, ⟨-, g⟩ | ⟨-, g⟩⟩
  · omega
  · have ez : zad G 2 = gA G 2 := zad_out (Or.inl (by decide))
    show W p l e R s m args below meth c H locs _ _ Q (F0 m pc L (.int i :: .ref (zad G 2) :: _))
    rw [ez]
    exact va_tl X.1 X.2.1 X.2.2.2.2.2.2.1.2.1.2 hR.2.1 (v := .long (zsf i.toNatClampNeg)) hin rfl hdg (hkk _ _ _ _ _ _ h hn hM hR)
  · obtain ⟨hc, -⟩ := zarr hR.1 g1 g3 g4 (by decide)
    rw [zln_in g1 g2] at hin
    have hlt : i.toNatClampNeg < (zkd a).2 := Nat.not_le.mp fun q => hin (Or.inr q)
    have e : zgL M a i.toNatClampNeg = zgl M a i.toNatClampNeg := by unfold zgL; rw [if_neg (by omega)]
    rw [e] at h
    exact W.lald (v := .long (zgl M a i.toNatClampNeg)) X.1 X.2.1 hc ((zK_arr X.2.2.2.2.2.1 (k := 2) (by decide) (by decide)).1 _ _) (fun q => by cases q) (by rw [arrV_size]; exact hin) (by rw [arrV_read _ _ hlt]; rfl) rfl rfl hdg (hkk _ _ _ _ _ _ h hn hM hR)
  · omega
  · omega
theorem zs_baload (X : zCx G p R s m args meth c cc nL own nm d) (hkk : zCo G M0 r p l e R s m args below meth c Q nL kk (pc + 1)) {k : Nat} (hdg : decode cc pc = .ok (.baload, 1)) (hk3 : k = 3 ∨ k = 6) : zCo G M0 r p l e R s m args below meth c Q nL (fun ls st M => zAI st (fun a i st => zgd (zok M a k i) (kk ls (.int (zgb M a i.toNatClampNeg) :: st) M))) pc := by
  intro ls st M H locs L h0 hn hM hR
  obtain ⟨a, i, st, rfl, ha⟩ := zAI_s h0
  obtain ⟨hg, h⟩ := zgd_s ha
  obtain ⟨hk, hin⟩ := zok_s hg
  rcases zkk_in hk (by omega) with ⟨-, ⟨-, g⟩ | ⟨-, g⟩⟩ | ⟨g1, g2, g3, g4⟩ | ⟨h1, h2, ⟨-, g⟩ | ⟨g, -⟩⟩
  · omega
  · omega
  · rcases hk3 with rfl | rfl
    · obtain ⟨hc, -⟩ := zarr hR.1 g1 g3 g4 (by decide)
      rw [zln_in g1 g2] at hin
      have hlt : i.toNatClampNeg < (zkd a).2 := Nat.not_le.mp fun q => hin (Or.inr q)
      have e : zgb M a i.toNatClampNeg = zgi M a i.toNatClampNeg := by unfold zgb; rw [if_pos g2]
      rw [e] at h
      exact W.zald (v := .int (zgi M a i.toNatClampNeg)) X.1 X.2.1 hc ((zK_arr X.2.2.2.2.2.1 (k := 3) (by decide) (by decide)).1 _ _) (fun q => by cases q) (by rw [arrV_size]; exact hin) (by rw [arrV_read _ _ hlt]; rfl) rfl rfl hdg (hkk _ _ _ _ _ _ h hn hM hR)
    · obtain ⟨-, h5 | ⟨h5, -⟩⟩ := zkd_ok hR.1 g1 g3 <;> omega
  · omega
  · obtain ⟨i1, i2, -⟩ := zbl_at h1 h2
    have ho := i2 g
    generalize (a - 1000) / 2 = q at i1 ho
    subst ho
    have ez : zad G (1000 + 2 * q + 1) = gA G (1000 + 2 * q + 1) := zad_out (Or.inr (by omega))
    have e2 : zln M (1000 + 2 * q + 1) = (zstr.getD q []).length := by unfold zln; rw [if_neg (by omega), if_neg (by omega), zbl_get (Or.inl rfl)]
    have e3 : zgb M (1000 + 2 * q + 1) i.toNatClampNeg = (zstr.getD q []).getD i.toNatClampNeg 0 := by unfold zgb zby; rw [if_neg (by omega), zbl_get (Or.inl rfl), znth_get]; simp [List.getD_eq_getElem?_getD]
    rw [e2] at hin
    rw [e3] at h
    show W p l e R s m args below meth c H locs _ _ Q (F0 m pc L (.int i :: .ref (zad G (1000 + 2 * q + 1)) :: _))
    rw [ez]
    exact va_tb X.1 X.2.1 (zXs X i1) hR.2.1 (v := .int ((zstr.getD q []).getD i.toNatClampNeg 0)) hin rfl hdg (hkk _ _ _ _ _ _ h hn hM hR)
theorem zs_aaload (X : zCx G p R s m args meth c cc nL own nm d) (hkk : zCo G M0 r p l e R s m args below meth c Q nL kk (pc + 1)) {k : Nat} (hdg : decode cc pc = .ok (.aaload, 1)) (hk4 : k = 4 ∨ k = 5) : zCo G M0 r p l e R s m args below meth c Q nL (fun ls st M => zAI st (fun a i st => zgd (decide (16 ≤ zgr M a i.toNatClampNeg) && zow M a k i) (kk ls (.ref (zgr M a i.toNatClampNeg) :: st) M))) pc := by
  intro ls st M H locs L h0 hn hM hR
  obtain ⟨a, i, st, rfl, ha⟩ := zAI_s h0
  obtain ⟨hg, h⟩ := zgd_s ha
  rw [Bool.and_eq_true, decide_eq_true_eq] at hg
  obtain ⟨g1, g2, g3, g4, hin⟩ := zow_s hg.2 (by omega) (by omega)
  obtain ⟨hc, -⟩ := zarr hR.1 g1 g3 g4 (by omega)
  have hlt : i.toNatClampNeg < (zkd a).2 := Nat.not_le.mp fun q => hin (Or.inr q)
  have e : zav G M a k i.toNatClampNeg = .ref (zad G (zgr M a i.toNatClampNeg)) := by
    rw [zav_q hk4]
    unfold zrv
    rw [if_neg (by omega)]
  have hko := hkk _ _ _ _ _ _ h hn hM hR
  exact W.aald (v := .ref (zad G (zgr M a i.toNatClampNeg))) (ty := zty k) X.1 X.2.1 hc ((zK_arr X.2.2.2.2.2.1 (k := k) (by omega) (by omega)).1 _ _) (by rcases hk4 with rfl | rfl <;> rfl) (fun q => by cases q) (by rw [arrV_size]; exact hin) (by rw [arrV_read _ _ hlt, e]) rfl rfl hdg hko
theorem zat_arr {M : zM} {H H1 : Heap} {o k : Nat} {f : Nat → Value} (h : zHR G M H) (h1 : 16 ≤ o) (h3 : o < znx M) (h4 : (zkd o).1 = k) (hk : k < 10) {M1 : zM} (hf : f = zav G M1 o k) (he : H1[zad G o]? = some (arrV (gR G k) (zkd o).2 f)) : zat G M1 H1 o := by
  unfold zat
  rw [if_neg (by omega), h4, ← hf]
  exact he
theorem zs_iastore (X : zCx G p R s m args meth c cc nL own nm d) (hkk : zCo G M0 r p l e R s m args below meth c Q nL kk (pc + 1)) (hdg : decode cc pc = .ok (.iastore, 1)) : zCo G M0 r p l e R s m args below meth c Q nL (fun ls st M => zAII st (fun a i x st => zgd (zow M a 1 i) (kk ls st (zpi M a i.toNatClampNeg x)))) pc := by
  intro ls st M H locs L h0 hn hM hR
  obtain ⟨a, i, x, st, rfl, ha⟩ := zAII_s h0
  obtain ⟨hg, h⟩ := zgd_s ha
  obtain ⟨g1, g2, g3, g4, hin⟩ := zow_s hg (by decide) (by decide)
  obtain ⟨hc, -⟩ := zarr hR.1 g1 g3 g4 (by decide)
  refine W.iast X.1 X.2.1 hc ((zK_arr X.2.2.2.2.2.1 (k := 1) (by decide) (by decide)).1 _ _) (fun q => by cases q) (by rw [arrV_size]; exact hin) rfl rfl hdg fun H1 e1 e2 e3 => ?_
  rw [arrV_store] at e1
  exact hkk _ _ (zpi M a i.toNatClampNeg x) _ _ _ h hn (zle_tr hM (zsm_le zsm_pi g1)) (zRl_upd hR g1 g3 zsm_pi e2 e3 (zat_arr hR.1 g1 g3 g4 (by decide) (zav_pi (Or.inl rfl)) e1))
theorem zs_bastore (X : zCx G p R s m args meth c cc nL own nm d) (hkk : zCo G M0 r p l e R s m args below meth c Q nL kk (pc + 1)) (hdg : decode cc pc = .ok (.bastore, 1)) : zCo G M0 r p l e R s m args below meth c Q nL (fun ls st M => zAII st (fun a i x st => zgd (zow M a 3 i && z01 x) (kk ls st (zpi M a i.toNatClampNeg x)))) pc := by
  intro ls st M H locs L h0 hn hM hR
  obtain ⟨a, i, x, st, rfl, ha⟩ := zAII_s h0
  obtain ⟨hg, h⟩ := zgd_s ha
  rw [Bool.and_eq_true] at hg
  obtain ⟨g1, g2, g3, g4, hin⟩ := zow_s hg.1 (by decide) (by decide)
  have hx : x = 0 ∨ x = 1 := by simpa [z01] using hg.2
  have hnr : narrow .boolean (.int x) = .int x := by rcases hx with rfl | rfl <;> rfl
  obtain ⟨hc, -⟩ := zarr hR.1 g1 g3 g4 (by decide)
  refine W.zast X.1 X.2.1 hc ((zK_arr X.2.2.2.2.2.1 (k := 3) (by decide) (by decide)).1 _ _) (fun q => by cases q) (by rw [arrV_size]; exact hin) rfl rfl hdg fun H1 e1 e2 e3 => ?_
  rw [hnr, arrV_store] at e1
  exact hkk _ _ (zpi M a i.toNatClampNeg x) _ _ _ h hn (zle_tr hM (zsm_le zsm_pi g1)) (zRl_upd hR g1 g3 zsm_pi e2 e3 (zat_arr hR.1 g1 g3 g4 (by decide) (zav_pi (Or.inr rfl)) e1))
theorem zs_lastore (X : zCx G p R s m args meth c cc nL own nm d) (hkk : zCo G M0 r p l e R s m args below meth c Q nL kk (pc + 1)) (hdg : decode cc pc = .ok (.lastore, 1)) : zCo G M0 r p l e R s m args below meth c Q nL (fun ls st M => zAIL st (fun a i x st => zgd (zow M a 2 i) (kk ls st (zpl M a i.toNatClampNeg x)))) pc := by
  intro ls st M H locs L h0 hn hM hR
  obtain ⟨a, i, x, st, rfl, ha⟩ := zAIL_s h0
  obtain ⟨hg, h⟩ := zgd_s ha
  obtain ⟨g1, g2, g3, g4, hin⟩ := zow_s hg (by decide) (by decide)
  obtain ⟨hc, -⟩ := zarr hR.1 g1 g3 g4 (by decide)
  refine W.last X.1 X.2.1 hc ((zK_arr X.2.2.2.2.2.1 (k := 2) (by decide) (by decide)).1 _ _) (fun q => by cases q) (by rw [arrV_size]; exact hin) rfl rfl hdg fun H1 e1 e2 e3 => ?_
  rw [arrV_store] at e1
  exact hkk _ _ (zpl M a i.toNatClampNeg x) _ _ _ h hn (zle_tr hM (zsm_le zsm_pl g1)) (zRl_upd hR g1 g3 zsm_pl e2 e3 (zat_arr hR.1 g1 g3 g4 (by decide) zav_pl e1))
theorem zs_aastore (X : zCx G p R s m args meth c cc nL own nm d) (hkk : zCo G M0 r p l e R s m args below meth c Q nL kk (pc + 1)) {k ci : Nat} (hdg : decode cc pc = .ok (.aastore, 1)) (hk4 : (k = 4 ∧ ci = 0) ∨ (k = 5 ∧ ci = 1)) : zCo G M0 r p l e R s m args below meth c Q nL (fun ls st M => zAIA st (fun a i x st => zgd (zow M a k i && (zkk M x == ci + 10)) (kk ls st (zpr M a i.toNatClampNeg x)))) pc := by
  intro ls st M H locs L h0 hn hM hR
  obtain ⟨a, i, x, st, rfl, ha⟩ := zAIA_s h0
  obtain ⟨hg, h⟩ := zgd_s ha
  rw [Bool.and_eq_true] at hg
  obtain ⟨g1, g2, g3, g4, hin⟩ := zow_s hg.1 (by omega) (by omega)
  obtain ⟨y1, y2, y3, y4⟩ := zkk_10 hg.2 (by omega)
  obtain ⟨hc, -⟩ := zarr hR.1 g1 g3 g4 (by omega)
  have hlt : i.toNatClampNeg < (zkd a).2 := Nat.not_le.mp fun q => hin (Or.inr q)
  have h0 : ¬ i < 0 := fun q => hin (Or.inl q)
  obtain ⟨q, hq, hnm⟩ : ∃ q : vw_C, vwCl[ci]? = some q ∧ zty k = .object q.1 := by
    rcases hk4 with ⟨rfl, rfl⟩ | ⟨rfl, rfl⟩
    · exact ⟨_, rfl, rfl⟩
    · exact ⟨_, rfl, rfl⟩
  obtain ⟨cellV, v1, v2, v3, -⟩ := zobj hR.1 hq hg.2
  have hcls := (X.2.2.2.2.2.1.1 ci q hq).2
  have hRA := (zK_arr X.2.2.2.2.2.1 (k := k) (by omega) (by omega)).2
  rw [hnm] at hRA
  obtain ⟨kA, comp, k1, k2, k3, -⟩ := hRA
  have hcomp : comp = gC G ci := Option.some.inj (k3.symm.trans hcls.1)
  subst hcomp
  obtain ⟨kC, hkC, -⟩ := hcls.2
  refine W.aast X.1 X.2.1 hc (fun q h => by cases h) (fun h => by cases h) k1 k2 rfl hkC ⟨h0, by rw [arrV_size]; exact hlt⟩ v1 (fun q h => by rw [v3] at h; cases h) (by rw [v2]; exact hkC) (by rw [v2]; exact va_assign hcls) rfl rfl hdg fun H1 e1 e2 e3 => ?_
  rw [arrV_store] at e1
  exact hkk _ _ (zpr M a i.toNatClampNeg x) _ _ _ h hn (zle_tr hM (zsm_le zsm_pr g1)) (zRl_upd hR g1 g3 zsm_pr e2 e3 (zat_arr hR.1 g1 g3 g4 (by omega) (zav_pr (by omega) (by omega)) e1))
theorem zs_alen (X : zCx G p R s m args meth c cc nL own nm d) (hkk : zCo G M0 r p l e R s m args below meth c Q nL kk (pc + 1)) {k : Nat} (hdg : decode cc pc = .ok (.arraylength, 1)) (hk0 : 1 ≤ k) (hk7 : k ≤ 6) : zCo G M0 r p l e R s m args below meth c Q nL (fun ls st M => zA1 st (fun a st => zgd (zkk M a == k) (kk ls (.int (Int32.ofNat (zln M a)) :: st) M))) pc := by
  intro ls st M H locs L h0 hn hM hR
  obtain ⟨a, st, rfl, ha⟩ := zA1_s h0
  obtain ⟨hg, h⟩ := zgd_s ha
  have hko := hkk _ _ _ _ _ _ h hn hM hR
  rcases zkk_in hg (by omega) with ⟨-, ⟨rfl, g⟩ | ⟨rfl, g⟩⟩ | ⟨g1, g2, g3, g4⟩ | ⟨h1, h2, ⟨-, g⟩ | ⟨g, -⟩⟩
  · obtain ⟨x1, x2, x3⟩ := zX1 X hR.2.1
    have ez : zad G 1 = gA G 1 := zad_out (Or.inl (by decide))
    have e2 : zln M 1 = gL G := hR.1.1.2.2.2.1
    rw [e2] at hko
    show W p l e R s m args below meth c H locs _ _ Q (F0 m pc L (.ref (zad G 1) :: _))
    rw [ez]
    exact va_slen X.1 X.2.1 x1 x2 x3 hR.2.1 hdg hko
  · have ez : zad G 2 = gA G 2 := zad_out (Or.inl (by decide))
    show W p l e R s m args below meth c H locs _ _ Q (F0 m pc L (.ref (zad G 2) :: _))
    rw [ez]
    exact va_tlen X.1 X.2.1 X.2.2.2.2.2.2.1.2.1.2 hR.2.1 rfl hdg hko
  · obtain ⟨hc, hk1, hk5⟩ : H[zad G a]? = some (arrV (gR G k) (zkd a).2 (zav G M a k)) ∧ 1 ≤ k ∧ k ≤ 5 := zarr hR.1 g1 g3 g4 (by omega)
    rw [zln_in g1 g2] at hko
    exact W.alen (n := Int32.ofNat (zkd a).2) X.1 X.2.1 hc ((zK_arr X.2.2.2.2.2.1 hk1 hk5).1 _ _) (by rw [arrV_size] <;> rfl) rfl rfl hdg hko
  · omega
  · obtain ⟨i1, i2, -⟩ := zbl_at h1 h2
    have ho := i2 g
    generalize (a - 1000) / 2 = q at i1 ho
    subst ho
    have ez : zad G (1000 + 2 * q + 1) = gA G (1000 + 2 * q + 1) := zad_out (Or.inr (by omega))
    have e2 : zln M (1000 + 2 * q + 1) = (zstr.getD q []).length := by unfold zln; rw [if_neg (by omega), if_neg (by omega), zbl_get (Or.inl rfl)]
    rw [e2] at hko
    show W p l e R s m args below meth c H locs _ _ Q (F0 m pc L (.ref (zad G (1000 + 2 * q + 1)) :: _))
    rw [ez]
    exact va_tlen X.1 X.2.1 (zXs X i1) hR.2.1 rfl hdg hko
end
