/-! THE SMALL MACHINE IS SOUND: the heap -/
theorem zcl_all {P : Nat → vw_C → Prop} (h0 : P 0 (RX0, TX0, 12)) (h1 : P 1 (RX1, TX1, 3)) (h2 : P 2 (RX2, TX2, 2)) (h3 : P 3 (RX3, TX3, 15)) (h4 : P 4 (RX4, TX4, 1)) (h5 : P 5 (RX5, TX5, 3)) (h6 : P 6 (RX6, TX6, 9)) (h7 : P 7 (RX7, TX7, 4)) (h8 : P 8 (RX8, TX8, 13)) (h9 : P 9 (RX9, TX9, 11)) (h10 : P 10 (RX10, TX10, 2)) (h11 : P 11 (RX11, TX11, 13)) (h12 : P 12 (RX12, TX12, 42)) : ∀ (ci : Nat) (q : vw_C), vwCl[ci]? = some q → P ci q := by
  intro ci q h
  match ci, h with
  | 0, h => cases h; exact h0
  | 1, h => cases h; exact h1
  | 2, h => cases h; exact h2
  | 3, h => cases h; exact h3
  | 4, h => cases h; exact h4
  | 5, h => cases h; exact h5
  | 6, h => cases h; exact h6
  | 7, h => cases h; exact h7
  | 8, h => cases h; exact h8
  | 9, h => cases h; exact h9
  | 10, h => cases h; exact h10
  | 11, h => cases h; exact h11
  | 12, h => cases h; exact h12
  | n + 13, h => simp [vwCl] at h
def zTyp (ci : Nat) : Nat → FieldType := match ci with
  | 0 => tyX0
  | 1 => tyX1
  | 2 => tyX2
  | 3 => tyX3
  | 4 => tyX4
  | 5 => tyX5
  | 6 => tyX6
  | 7 => tyX7
  | 8 => tyX8
  | 9 => tyX9
  | 10 => tyX10
  | 11 => tyX11
  | _ => tyX12
theorem zTyp_ok : ∀ (ci : Nat) (q : vw_C), vwCl[ci]? = some q → ∀ k, k < q.2.2 → parseFieldDescriptor (q.2.1 k).2.2.1 = some (zTyp ci k) := zcl_all tyX0_ok tyX1_ok tyX2_ok tyX3_ok tyX4_ok tyX5_ok tyX6_ok tyX7_ok tyX8_ok tyX9_ok tyX10_ok tyX11_ok tyX12_ok
theorem zNm_ok : ∀ (ci : Nat) (q : vw_C), vwCl[ci]? = some q → ∀ a, a < q.2.2 → ∀ b, b < q.2.2 → a ≠ b → (q.2.1 a).2.1 ≠ (q.2.1 b).2.1 := zcl_all nmX0 nmX1 nmX2 nmX3 nmX4 nmX5 nmX6 nmX7 nmX8 nmX9 nmX10 nmX11 nmX12
theorem zUws0 : ∀ w ∈ u_ws RX0 TX0 12, w ∈ lw_tbl := by decide +kernel
theorem zUws1 : ∀ w ∈ u_ws RX1 TX1 3, w ∈ lw_tbl := by decide +kernel
theorem zUws2 : ∀ w ∈ u_ws RX2 TX2 2, w ∈ lw_tbl := by decide +kernel
theorem zUws3 : ∀ w ∈ u_ws RX3 TX3 15, w ∈ lw_tbl := by decide +kernel
theorem zUws4 : ∀ w ∈ u_ws RX4 TX4 1, w ∈ lw_tbl := by decide +kernel
theorem zUws5 : ∀ w ∈ u_ws RX5 TX5 3, w ∈ lw_tbl := by decide +kernel
theorem zUws6 : ∀ w ∈ u_ws RX6 TX6 9, w ∈ lw_tbl := by decide +kernel
theorem zUws7 : ∀ w ∈ u_ws RX7 TX7 4, w ∈ lw_tbl := by decide +kernel
theorem zUws8 : ∀ w ∈ u_ws RX8 TX8 13, w ∈ lw_tbl := by decide +kernel
theorem zUws9 : ∀ w ∈ u_ws RX9 TX9 11, w ∈ lw_tbl := by decide +kernel
theorem zUws10 : ∀ w ∈ u_ws RX10 TX10 2, w ∈ lw_tbl := by decide +kernel
theorem zUws11 : ∀ w ∈ u_ws RX11 TX11 13, w ∈ lw_tbl := by decide +kernel
theorem zUws12 : ∀ w ∈ u_ws RX12 TX12 42, w ∈ lw_tbl := by decide +kernel
theorem zUws_tb : ∀ (ci : Nat) (q : vw_C), vwCl[ci]? = some q → ∀ w ∈ u_ws q.1 q.2.1 q.2.2, w ∈ lw_tbl := zcl_all zUws0 zUws1 zUws2 zUws3 zUws4 zUws5 zUws6 zUws7 zUws8 zUws9 zUws10 zUws11 zUws12
theorem zUws (ci : Nat) (q : vw_C) (h : vwCl[ci]? = some q) : ∀ w ∈ u_ws q.1 q.2.1 q.2.2, w ∈ lw_good := fun w hw => by
  refine List.mem_filter.mpr ⟨zUws_tb ci q h w hw, ?_⟩
  obtain ⟨k, -, rfl⟩ := List.mem_map.mp hw
  unfold u_lay
  split <;> rfl
def zfk (t : FieldType) : Nat := match t with
  | .int => 0
  | .long => 1
  | .object _ => 2
  | .array _ => 2
  | .boolean => 3
  | _ => 9
theorem zft_ok : ∀ (ci : Nat) (q : vw_C), vwCl[ci]? = some q → ∀ k, k < q.2.2 → zft ci k = zfk (zTyp ci k) := zcl_all (by decide +kernel) (by decide +kernel) (by decide +kernel) (by decide +kernel) (by decide +kernel) (by decide +kernel) (by decide +kernel) (by decide +kernel) (by decide +kernel) (by decide +kernel) (by decide +kernel) (by decide +kernel) (by decide +kernel)
theorem zkl_ok : ∀ i, i < zkl.length → ((znth zkl i).getD (0, 0)).2 ≤ 46656 ∧ ((1 ≤ ((znth zkl i).getD (0, 0)).1 ∧ ((znth zkl i).getD (0, 0)).1 ≤ 5) ∨ (10 ≤ ((znth zkl i).getD (0, 0)).1 ∧ (vwCl[((znth zkl i).getD (0, 0)).1 - 10]?).map (fun q => q.2.2) = some ((znth zkl i).getD (0, 0)).2)) := by decide +kernel
theorem zkl_len : zkl.length = 132 := by decide +kernel
theorem zad_in {G : zG} {o : Nat} (h : 16 ≤ o) (h2 : o < 1000) : zad G o = gB G + (o - 16) := by unfold zad; rw [if_pos ⟨h, h2⟩]
theorem zHR_o {G : zG} {M : zM} {H : Heap} (h : zHR G M H) {o : Nat} (h1 : o < znx M) : o < 1000 := by
  have := h.1.2.1
  rw [zkl_len] at this
  omega
/-- what the kind of an object says -/
theorem zkk_in {M : zM} {o k : Nat} (h : (zkk M o == k) = true) (hk : k ≠ 0) : (o < 16 ∧ ((o = 1 ∧ k = 1) ∨ (o = 2 ∧ k = 2))) ∨ (16 ≤ o ∧ o < 1000 ∧ o < znx M ∧ (zkd o).1 = k) ∨ (1000 ≤ o ∧ o < 1000 + 2 * zstr.length ∧ ((o % 2 = 0 ∧ k = 7) ∨ (¬ o % 2 = 0 ∧ k = 6))) := by
  have h := beq_iff_eq.mp h
  unfold zkk at h
  split at h
  · split at h
    · exact Or.inl ⟨by assumption, Or.inl ⟨by assumption, h.symm⟩⟩
    · split at h
      · exact Or.inl ⟨by assumption, Or.inr ⟨by assumption, h.symm⟩⟩
      · exact absurd h.symm hk
  · split at h
    · split at h
      · exact Or.inr (Or.inl ⟨by omega, by assumption, by assumption, h⟩)
      · exact absurd h.symm hk
    · split at h
      · split at h
        · exact Or.inr (Or.inr ⟨by omega, by assumption, Or.inl ⟨by assumption, h.symm⟩⟩)
        · exact Or.inr (Or.inr ⟨by omega, by assumption, Or.inr ⟨by assumption, h.symm⟩⟩)
      · exact absurd h.symm hk
theorem zkk_10 {M : zM} {o k : Nat} (h : (zkk M o == k) = true) (hk : 8 ≤ k) : 16 ≤ o ∧ o < 1000 ∧ o < znx M ∧ (zkd o).1 = k := by
  rcases zkk_in h (by omega) with ⟨-, ⟨-, g⟩ | ⟨-, g⟩⟩ | g | ⟨-, -, ⟨-, g⟩ | ⟨-, g⟩⟩
  · omega
  · omega
  · exact g
  · omega
  · omega
theorem zkd_ok {G : zG} {M : zM} {H : Heap} (h : zHR G M H) {o : Nat} (h0 : 16 ≤ o) (h1 : o < znx M) : (zkd o).2 ≤ 46656 ∧ ((1 ≤ (zkd o).1 ∧ (zkd o).1 ≤ 5) ∨ (10 ≤ (zkd o).1 ∧ (vwCl[(zkd o).1 - 10]?).map (fun q => q.2.2) = some (zkd o).2)) := zkl_ok (o - 16) (by have := h.1.2.1; omega)
/-- an object of a class -/
theorem zobj {G : zG} {M : zM} {H : Heap} (h : zHR G M H) {o ci : Nat} {q : vw_C} (hc : vwCl[ci]? = some q) (hk : (zkk M o == ci + 10) = true) : t_OB (zad G o) (gC G ci) q.2.2 (gI G ci) H (zfv G M o ci) := by
  obtain ⟨h1, h2, h3, h4⟩ := zkk_10 hk (by omega)
  have hz := h.2.2 o h1 h3
  unfold zat at hz
  rw [if_pos (by omega), h4] at hz
  obtain ⟨-, h5 | ⟨-, h5⟩⟩ := zkd_ok h h1 h3
  · omega
  · rw [h4, show ci + 10 - 10 = ci by omega, hc] at h5
    rw [show ci + 10 - 10 = ci by omega] at hz
    rw [show (zkd o).2 = q.2.2 from (Option.some.inj h5).symm] at hz
    exact hz
/-- an array of ours -/
theorem zarr {G : zG} {M : zM} {H : Heap} (h : zHR G M H) {o k : Nat} (h1 : 16 ≤ o) (h3 : o < znx M) (h4 : (zkd o).1 = k) (hk : k < 10) : H[zad G o]? = some (arrV (gR G k) (zkd o).2 (zav G M o k)) ∧ 1 ≤ k ∧ k ≤ 5 := by
  have hz := h.2.2 o h1 h3
  unfold zat at hz
  rw [if_neg (by omega), h4] at hz
  obtain ⟨-, h5 | ⟨h5, -⟩⟩ := zkd_ok h h1 h3
  · exact ⟨hz, by omega, by omega⟩
  · omega
theorem zK_arr {G : zG} {U : State} (h : zK G U) {k : Nat} (h1 : 1 ≤ k) (h2 : k ≤ 5) : ArrOfT U (gR G k) (zty k) ∧ va_RA U (gR G k) (zty k) := by
  rcases (show k = 1 ∨ k = 2 ∨ k = 3 ∨ k = 4 ∨ k = 5 by omega) with rfl | rfl | rfl | rfl | rfl
  · exact h.2 0 _ rfl
  · exact h.2 1 _ rfl
  · exact h.2 2 _ rfl
  · exact h.2 3 _ rfl
  · exact h.2 4 _ rfl
/-- memories that differ at one object alone -/
def zsm (o : Nat) (M M1 : zM) : Prop := znx M1 = znx M ∧ zsz M1 = zsz M ∧ zsl M1 = zsl M ∧ ∀ o', o' ≠ o → zgi M1 o' = zgi M o' ∧ zgl M1 o' = zgl M o' ∧ zgr M1 o' = zgr M o'
theorem zsm_pi {M : zM} {o k : Nat} {v : Int32} : zsm o M (zpi M o k v) := ⟨rfl, rfl, rfl, fun o' h => ⟨by funext j; simp [zgi, zpi, h], rfl, rfl⟩⟩
theorem zsm_pl {M : zM} {o k : Nat} {v : Int64} : zsm o M (zpl M o k v) := ⟨rfl, rfl, rfl, fun o' h => ⟨rfl, by funext j; simp [zgl, zpl, h], rfl⟩⟩
theorem zsm_pr {M : zM} {o k v : Nat} : zsm o M (zpr M o k v) := ⟨rfl, rfl, rfl, fun o' h => ⟨rfl, rfl, by funext j; simp [zgr, zpr, h]⟩⟩
theorem zsm_ci {M : zM} {a sp b dp n : Nat} : zsm b M (zci M a sp b dp n) := ⟨rfl, rfl, rfl, fun o' h => ⟨by funext j; simp [zgi, zci, h], rfl, rfl⟩⟩
theorem zsm_cl {M : zM} {a sp b dp n : Nat} : zsm b M (zcl M a sp b dp n) := ⟨rfl, rfl, rfl, fun o' h => ⟨rfl, by funext j; simp [zgl, zcl, h], rfl⟩⟩
theorem zsm_le {M M1 : zM} {o : Nat} (h : zsm o M M1) (ho : 16 ≤ o) : zle M M1 := ⟨by rw [h.1]; exact Nat.le_refl _, by rw [h.2.1]; exact Nat.le_refl _, h.2.2.1, (h.2.2.2 1 (by omega)).1⟩
theorem zat_same {G : zG} {M M1 : zM} {H H1 : Heap} {o : Nat} (h : zat G M H o) (hh : H1[zad G o]? = H[zad G o]?) (h1 : zgi M1 o = zgi M o) (h2 : zgl M1 o = zgl M o) (h3 : zgr M1 o = zgr M o) : zat G M1 H1 o := by
  unfold zat at h ⊢
  split
  · rename_i g
    rw [if_pos g] at h
    refine (h.kept hh).to fun k _ => ?_
    unfold zfv
    rw [h1, h2, h3]
  · rename_i g
    rw [if_neg g] at h
    rw [hh, h]
    have : zav G M o (zkd o).1 = zav G M1 o (zkd o).1 := by
      funext j
      unfold zav
      rw [h1, h2, h3]
    rw [this]
theorem zad_ne {G : zG} {o o' : Nat} (h1 : 16 ≤ o) (h2 : o < 1000) (h3 : 16 ≤ o') (h4 : o' < 1000) (h : o' ≠ o) : zad G o' ≠ zad G o := by
  rw [zad_in h1 h2, zad_in h3 h4]
  omega
theorem zHR_upd {G : zG} {M M1 : zM} {H H1 : Heap} {o : Nat} (h : zHR G M H) (ho : 16 ≤ o) (ho2 : o < znx M) (hs : zsm o M M1) (hz : H1.size = H.size) (hq : ∀ q : Nat, q ≠ zad G o → H1[q]? = H[q]?) (hat : zat G M1 H1 o) : zHR G M1 H1 := by
  obtain ⟨⟨a1, a2, a3, a4, a5⟩, b, cc⟩ := h
  obtain ⟨e1, e2, e3, e4⟩ := hs
  have hlt : ∀ q, q < znx M → q < 1000 := fun q hq => by rw [zkl_len] at a2; omega
  refine ⟨⟨by rw [e1]; exact a1, by rw [e1]; exact a2, by rw [e1, e2]; exact a3, by rw [e3]; exact a4, by rw [(e4 1 (by omega)).1]; exact a5⟩, by rw [hz, e1]; exact b, fun o' h1 h2 => ?_⟩
  rw [e1] at h2
  by_cases hoo : o' = o
  · subst hoo
    exact hat
  · obtain ⟨g1, g2, g3⟩ := e4 o' hoo
    exact zat_same (cc o' h1 h2) (hq _ (zad_ne ho (hlt _ ho2) h1 (hlt _ h2) hoo)) g1 g2 g3
theorem zA_new {G : zG} {o : Nat} (h : 16 ≤ o) (h2 : o < 1000) : zA G (zad G o) := by
  show gB G ≤ zad G o
  rw [zad_in h h2]
  omega
theorem zRl_upd {G : zG} {M M1 : zM} {s : State} {H H1 : Heap} {locs : List Loc} {ls : zLs} {L : Array Slot} {o k : Nat} (h : zRl G M s H locs ls L) (ho : 16 ≤ o) (ho2 : o < znx M) (hs : zsm o M M1) (hz : H1.size = H.size) (hq : ∀ q : Nat, q ≠ zad G o → H1[q]? = H[q]?) (hat : zat G M1 H1 o) : zRl G M1 s H1 (locs ++ [⟨zad G o, k⟩]) ls L :=
  ⟨zHR_upd h.1 ho ho2 hs hz hq hat, h.2.1.put hz hq (zA_new ho (zHR_o h.1 ho2)), h.2.2⟩
section
variable {p : Program} {l : Launch} {e : Env} {R : Room} {s : State} {m : MethodId} {args : Array Value} {below : List Frame} {meth : Method} {c : Code} {Q : State → Prop} {cc : ByteArray} {G : zG} {M0 : zM} {r : zR} {nL : Nat} {own nm : String} {d pc : Nat} {kk : zC}
theorem zfv_gf {M : zM} {o ci k : Nat} (h : zrg (zft ci k) (zgr M o k) = true) : zfv G M o ci k = zv G (zgf M o k (zft ci k)) := by
  unfold zfv zgf
  split
  · rename_i g; rw [g]; rfl
  · rename_i g
    rw [g] at h ⊢
    have h2 : 16 ≤ zgr M o k := of_decide_eq_true h
    show zrv G _ = .ref (zad G _)
    unfold zrv
    rw [if_neg (by omega)]
  · rename_i g1 g2
    split
    · rename_i g; exact absurd g g1
    · rename_i g; exact absurd g g2
    · rfl
theorem zs_getfield (X : zCx G p R s m args meth c cc nL own nm d) (hkk : zCo G M0 r p l e R s m args below meth c Q nL kk (pc + 3)) {ix ci k ty w : Nat} {q : vw_C} (hdg : decode cc pc = .ok (.getfield ix, 3)) (hc : vwCl[ci]? = some q) (hk : k < q.2.2) (hty : ty = zft ci k) (hw : zw w = some (.fieldLink own ix (q.2.1 k).1 (q.2.1 k).2.1 (q.2.1 k).2.2.1)) : zCo G M0 r p l e R s m args below meth c Q nL (fun ls st M => zA1 st (fun o st => zgd (zrg ty (zgr M o k) && (zkk M o == ci + 10)) (kk ls (zgf M o k ty :: st) M))) pc := by
  intro ls st M H locs L h0 hn hM hR
  subst hty
  obtain ⟨o, st, rfl, h⟩ := zA1_s h0
  obtain ⟨hg, h⟩ := zgd_s h
  rw [Bool.and_eq_true] at hg
  have hob := zobj hR.1 hc hg.2
  have hP : va_P (gC G, gI G) vwCl [(zad G o, .inr (ci, (List.range q.2.2).map (zfv G M o ci)))] H := by
    intro j x hx
    have hj : j = 0 := by
      have := (List.getElem?_eq_some_iff.mp hx).1
      simp at this
      omega
    subst hj
    cases hx
    refine ⟨q, hc, hob.to fun j hj => ?_⟩
    unfold vp_V
    simp [List.getD_eq_getElem?_getD, hj]
  refine va_get (C := q.1) (T := q.2.1) (N := q.2.2) X.1 X.2.1 X.2.2.2.2.1 (zUws ci q hc) X.2.2.2.1 X.2.2.2.2.2.1 hP 0 rfl hc k hk (X.2.2.2.2.1 _ (zw_in hw)) (fun _ h => h) (v := zfv G M o ci k) (by simp [hk]) hdg ?_
  rw [zfv_gf hg.1]
  exact hkk _ _ _ _ _ _ h hn hM hR
theorem zfv_pi {M : zM} {o ci k j : Nat} {v : Int32} (hk : zft ci k = 0 ∨ zft ci k = 3) : zfv G (zpi M o k v) o ci j = if j = k then .int v else zfv G M o ci j := by
  by_cases hj : j = k
  · subst hj
    rw [if_pos rfl]
    unfold zfv
    rcases hk with hk | hk <;> rw [hk] <;> simp [zgi, zpi]
  · rw [if_neg hj]
    unfold zfv
    simp [zgi, zpi, zgl, zgr, hj]
theorem zfv_pl {M : zM} {o ci k j : Nat} {v : Int64} (hk : zft ci k = 1) : zfv G (zpl M o k v) o ci j = if j = k then .long v else zfv G M o ci j := by
  by_cases hj : j = k
  · subst hj
    rw [if_pos rfl]
    unfold zfv
    rw [hk]
    simp [zgl, zpl]
  · rw [if_neg hj]
    unfold zfv
    simp [zgi, zpl, zgl, zgr, hj]
theorem zfv_pr {M : zM} {o ci k j v : Nat} (hk : zft ci k = 2) (hv : v ≠ 0) : zfv G (zpr M o k v) o ci j = if j = k then .ref (zad G v) else zfv G M o ci j := by
  by_cases hj : j = k
  · subst hj
    rw [if_pos rfl]
    unfold zfv
    rw [hk]
    simp [zgr, zpr, zrv, hv]
  · rw [if_neg hj]
    unfold zfv
    simp [zgi, zpr, zgl, zgr, hj]
/-- a field is written -/
theorem zput (X : zCx G p R s m args meth c cc nL own nm d) {ix ci k w o : Nat} {q : vw_C} {v : Value} {M M1 : zM} {H : Heap} {locs : List Loc} {ls : zLs} {L : Array Slot} {st : List Value} {cells slots : Nat} (hdg : decode cc pc = .ok (.putfield ix, 3)) (hc : vwCl[ci]? = some q) (hk : k < q.2.2) (hw : zw w = some (.fieldLink own ix (q.2.1 k).1 (q.2.1 k).2.1 (q.2.1 k).2.2.1))
    (hf : (q.2.1 k).2.2.2 = false ∨ ((q.2.1 k).2.2.2 = true ∧ nm = "<init>" ∧ (q.2.1 k).1 = own)) (hR : zRl G M s H locs ls L) (ho : (zkk M o == ci + 10) = true) (hs : zsm o M M1) (hv : ∀ j, zfv G M1 o ci j = if j = k then v else zfv G M o ci j) (hnr : narrow (zTyp ci k) v = v) (hfit : fits (zTyp ci k) v = true)
    (kk : ∀ (H1 : Heap) (locs1 : List Loc), zRl G M1 s H1 locs1 ls L → W p l e R s m args below meth c H1 locs1 cells slots Q (F0 m (pc + 3) L st)) : W p l e R s m args below meth c H locs cells slots Q (F0 m pc L (v :: .ref (zad G o) :: st)) := by
  have hts := X.2.2.2.2.1
  have hK := X.2.2.2.2.2.1
  have hin := zUws ci q hc
  have hap := va_apart (C := q.1) (T := q.2.1) (N := q.2.2) (own := own) hts hin (zTyp ci) (zTyp_ok ci q hc) (zNm_ok ci q hc) hK hc
  obtain ⟨g1, g2, g3, g4⟩ := zkk_10 ho (by omega)
  obtain ⟨cell, q1, q2, q3, q4⟩ := zobj hR.1 hc ho
  obtain ⟨hS, hfc, kC, hkC, hkind⟩ := hK.1 ci _ hc
  obtain ⟨cf, kf, fi, f, hi, hsl⟩ := hS k hk
  have hst := (u_facts hfc hkC (u_lays hts hin hk) hi).1
  have hlink := hts _ (zw_in hw)
  have hfin : ∀ H' : Heap, H'[zad G o]? = some (cell.setSlot f.slot v) → H'.size = H.size → (∀ q, q ≠ zad G o → H'[q]? = H[q]?) → W p l e R s m args below meth c H' (locs ++ [⟨zad G o, f.slot⟩]) cells slots Q (F0 m (pc + 3) L st) := by
    intro H' e1 e2 e3
    refine kk H' _ (zRl_upd hR g1 g3 hs e2 e3 ?_)
    unfold zat
    rw [if_pos (by omega), g4, show ci + 10 - 10 = ci by omega]
    obtain ⟨-, h5 | ⟨-, h5⟩⟩ := zkd_ok hR.1 g1 g3
    · omega
    · rw [g4, show ci + 10 - 10 = ci by omega, hc] at h5
      rw [show (zkd o).2 = q.2.2 from (Option.some.inj h5).symm]
      rw [hsl] at e1
      exact t_OB.to (V := updV (zfv G M o ci) k v) ⟨_, e1, q2, q3, t_set q4 hap hk v⟩ (fun j _ => by rw [hv j]; rfl)
  rcases hf with hf | ⟨hf, hin2, hdecl⟩
  · have hlay := hts _ (hin _ (u_in_lay hk))
    unfold u_lay at hlay
    rw [if_neg (by rw [hf]; decide)] at hlay
    have h6 := u_store hfc hkC hkind hlay hi (zTyp_ok ci q hc k hk) hnr hfit
    exact W.putK X.1 X.2.1 (f := f) ⟨X.2.2.2.1, hlink, ⟨_, _, _, hi⟩, hst⟩ (by rw [q2]; exact h6) q1 q3 (by rw [hsl]; exact k2_hasslot (q4 k hk)) rfl rfl hdg hfin
  · have hlay := hts _ (hin _ (u_in_lay hk))
    unfold u_lay at hlay
    rw [if_pos hf] at hlay
    have hcf : m.cls = cf := by
      obtain ⟨_, _, c', _, _, _, -, -, hf', -, -, -, hown2, -⟩ := Cond.laysFinal_spec hlay
      have e1 : c' = cf := by have := hi.symm.trans hf'; simp at this; exact this.1.symm
      rw [hdecl] at hown2
      rw [← e1]; exact Option.some.inj (X.2.2.2.1.symm.trans hown2)
    have h6 := u_fits hfc hkC hkind (Or.inr hlay) hi (zTyp_ok ci q hc k hk) hnr hfit
    exact W.putFinK X.1 X.2.1 X.2.2.2.1 hlink hi hst hcf (X.2.2.2.2.2.2.2.2.1.trans hin2) (by rw [q2]; exact h6) q1 q3 (by rw [hsl]; exact k2_hasslot (q4 k hk)) rfl rfl hdg hfin
theorem zs_putfield (X : zCx G p R s m args meth c cc nL own nm d) (hkk : zCo G M0 r p l e R s m args below meth c Q nL kk (pc + 3)) {ix ci k ty w : Nat} {q : vw_C} (hdg : decode cc pc = .ok (.putfield ix, 3)) (hc : vwCl[ci]? = some q) (hk : k < q.2.2) (hty : ty = zft ci k) (hty3 : ty ≤ 3) (hw : zw w = some (.fieldLink own ix (q.2.1 k).1 (q.2.1 k).2.1 (q.2.1 k).2.2.1)) (hf : (q.2.1 k).2.2.2 = false ∨ ((q.2.1 k).2.2.2 = true ∧ nm = "<init>" ∧ (q.2.1 k).1 = own)) : zCo G M0 r p l e R s m args below meth c Q nL (fun ls st M => zpf M k ty (ci + 10) st (fun st M => kk ls st M)) pc := by
  intro ls st M H locs L h0 hn hM hR
  have hft := zft_ok ci q hc k hk
  rw [← hty] at hft
  unfold zpf at h0
  dsimp only at h0
  split at h0
  · split at h0
    · rename_i x o st
      obtain ⟨hg, h⟩ := zgd_s h0
      obtain ⟨g1, g2, g3, g4⟩ := zkk_10 hg (by omega)
      have e : zTyp ci k = .int := by
        unfold zfk at hft
        split at hft <;> first | rfl | omega | assumption
      refine zput X (v := .int x) (M1 := zpi M o k x) hdg hc hk hw hf hR hg zsm_pi (fun j => zfv_pi (Or.inl hty.symm)) (by rw [e]; rfl) (by rw [e]; rfl) fun H1 locs1 hR1 => ?_
      exact hkk _ _ (zpi M o k x) _ _ _ h hn (zle_tr hM (zsm_le zsm_pi g1)) hR1
    · cases h0
  · split at h0
    · rename_i x o st
      obtain ⟨hg, h⟩ := zgd_s h0
      obtain ⟨g1, g2, g3, g4⟩ := zkk_10 hg (by omega)
      have e : zTyp ci k = .long := by
        unfold zfk at hft
        split at hft <;> first | rfl | omega | assumption
      refine zput X (v := .long x) (M1 := zpl M o k x) hdg hc hk hw hf hR hg zsm_pl (fun j => zfv_pl hty.symm) (by rw [e]; rfl) (by rw [e]; rfl) fun H1 locs1 hR1 => ?_
      exact hkk _ _ (zpl M o k x) _ _ _ h hn (zle_tr hM (zsm_le zsm_pl g1)) hR1
    · cases h0
  · split at h0
    · rename_i x o st
      obtain ⟨hg, h⟩ := zgd_s h0
      simp only [Bool.and_eq_true, decide_eq_true_eq] at hg
      obtain ⟨g1, g2, g3, g4⟩ := zkk_10 hg.1 (by omega)
      have e : (∃ C, zTyp ci k = .object C) ∨ ∃ t, zTyp ci k = .array t := by
        unfold zfk at hft
        split at hft <;> first | omega | exact Or.inl ⟨_, by assumption⟩ | exact Or.inr ⟨_, by assumption⟩
      refine zput X (v := .ref (zad G x)) (M1 := zpr M o k x) hdg hc hk hw hf hR hg.1 zsm_pr (fun j => zfv_pr hty.symm (by have h16 : (16 : Nat) ≤ x := hg.2.1; omega)) (by rcases e with ⟨C, e⟩ | ⟨t, e⟩ <;> rw [e] <;> rfl) (by rcases e with ⟨C, e⟩ | ⟨t, e⟩ <;> rw [e] <;> rfl) fun H1 locs1 hR1 => ?_
      exact hkk _ _ (zpr M o k x) _ _ _ h hn (zle_tr hM (zsm_le zsm_pr g1)) hR1
    · cases h0
  · rename_i n0 n1 n2
    split at h0
    · rename_i x o st
      obtain ⟨hg, h⟩ := zgd_s h0
      rw [Bool.and_eq_true] at hg
      obtain ⟨g1, g2, g3, g4⟩ := zkk_10 hg.1 (by omega)
      have hx : x = 0 ∨ x = 1 := by simpa [z01] using hg.2
      have h3 : ty = 3 := by
        rcases (show ty = 0 ∨ ty = 1 ∨ ty = 2 ∨ ty = 3 by omega) with g | g | g | g
        · exact absurd g n0
        · exact absurd g n1
        · exact absurd g n2
        · exact g
      have e : zTyp ci k = .boolean := by
        unfold zfk at hft
        split at hft <;> first | rfl | omega | assumption
      refine zput X (v := .int x) (M1 := zpi M o k x) hdg hc hk hw hf hR hg.1 zsm_pi (fun j => zfv_pi (Or.inr (hty.symm.trans h3))) (by rw [e]; rcases hx with rfl | rfl <;> rfl) (by rw [e]; rcases hx with rfl | rfl <;> rfl) fun H1 locs1 hR1 => ?_
      exact hkk _ _ (zpi M o k x) _ _ _ h hn (zle_tr hM (zsm_le zsm_pi g1)) hR1
    · cases h0
end
