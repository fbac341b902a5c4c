/-! Arrays.fill -/
def yFlI : List Nat := [55, 119, 120, 129]
def yFlJ : List Nat := [28, 30, 38, 109, 111, 113, 115, 122]
theorem qJ7_fill_d0a16 {d : Nat} {o : Nat} (ho : o ∈ yFlJ) {L : Nat} {I : Nat → Nat → Int32} {J : Nat → Nat → Int64} {r : Nat} (a1 : Int64) : zCd zT (d + 1) 377 [.ref o, .long a1] (zm L I J r) = zX 2 (zCd zT d) zc_J7_fill_d0a16 0 [some (.ref o), some (.long a1), none, none, none] [] (zm L I J r) := by
  simp only [yFlJ, List.mem_cons, List.not_mem_nil, or_false] at ho
  rcases ho with rfl | rfl | rfl | rfl | rfl | rfl | rfl | rfl <;> exact zCd_eq (t := zt_J7_fill_d0a16) rfl
theorem eJ7_fill_d0a16_0 {d : Nat} {o : Nat} (ho : o ∈ yFlJ) {L : Nat} {I : Nat → Nat → Int32} {J : Nat → Nat → Int64} {r : Nat} (l1 : Int64) : zX 2 (zCd zT d) zc_J7_fill_d0a16 0 [some (.ref o), some (.long l1), none, none, none] [] (zm L I J r) = zX 2 (zCd zT d) zc_J7_fill_d0a16 1 [some (.ref o), some (.long l1), none, some (.int (0 : Int32)), some (.int (Int32.ofNat (zln (zm L I J r) o)))] [] (zm L I J r) := by
  simp only [yFlJ, List.mem_cons, List.not_mem_nil, or_false] at ho
  rcases ho with rfl | rfl | rfl | rfl | rfl | rfl | rfl | rfl <;> exact zX_at (zCd_mem d) (b := zc_J7_fill_d0a16_0) rfl _ _ _
theorem eJ7_fill_d0a16_1 {d : Nat} {o : Nat} (ho : o ∈ yFlJ) {L : Nat} {I : Nat → Nat → Int32} {J : Nat → Nat → Int64} {r : Nat} (l1 : Int64) (l3 : Int32) (l4 : Int32) : zX 2 (zCd zT d) zc_J7_fill_d0a16 1 [some (.ref o), some (.long l1), none, some (.int l3), some (.int l4)] [] (zm L I J r) = if l4 ≤ l3 then zX 2 (zCd zT d) zc_J7_fill_d0a16 2 [some (.ref o), some (.long l1), none, some (.int l3), some (.int l4)] [] (zm L I J r) else (zgd (zin l3 (zln (zm L I J r) o)) (zX 2 (zCd zT d) zc_J7_fill_d0a16 1 [some (.ref o), some (.long l1), none, some (.int (l3 + (1 : Int32))), some (.int l4)] [] (zm L I (zuL J o (l3).toNatClampNeg l1) r))) := by
  simp only [yFlJ, List.mem_cons, List.not_mem_nil, or_false] at ho
  rcases ho with rfl | rfl | rfl | rfl | rfl | rfl | rfl | rfl <;> exact zX_at (zCd_mem d) (b := zc_J7_fill_d0a16_1) rfl _ _ _
theorem eJ7_fill_d0a16_2 {d : Nat} {o : Nat} (ho : o ∈ yFlJ) {L : Nat} {I : Nat → Nat → Int32} {J : Nat → Nat → Int64} {r : Nat} (l1 : Int64) (l3 : Int32) (l4 : Int32) : zX 2 (zCd zT d) zc_J7_fill_d0a16 2 [some (.ref o), some (.long l1), none, some (.int l3), some (.int l4)] [] (zm L I J r) = some (none, (zm L I J r)) := by
  simp only [yFlJ, List.mem_cons, List.not_mem_nil, or_false] at ho
  rcases ho with rfl | rfl | rfl | rfl | rfl | rfl | rfl | rfl <;> exact zX_at (zCd_mem d) (b := zc_J7_fill_d0a16_2) rfl _ _ _
theorem qJ7_fill_53178 {d : Nat} {o : Nat} (ho : o ∈ yFlI) {L : Nat} {I : Nat → Nat → Int32} {J : Nat → Nat → Int64} {r : Nat} (a1 : Int32) : zCd zT (d + 1) 378 [.ref o, .int a1] (zm L I J r) = zX 2 (zCd zT d) zc_J7_fill_53178 0 [some (.ref o), some (.int a1), none, none] [] (zm L I J r) := by
  simp only [yFlI, List.mem_cons, List.not_mem_nil, or_false] at ho
  rcases ho with rfl | rfl | rfl | rfl <;> exact zCd_eq (t := zt_J7_fill_53178) rfl
theorem eJ7_fill_53178_0 {d : Nat} {o : Nat} (ho : o ∈ yFlI) {L : Nat} {I : Nat → Nat → Int32} {J : Nat → Nat → Int64} {r : Nat} (l1 : Int32) : zX 2 (zCd zT d) zc_J7_fill_53178 0 [some (.ref o), some (.int l1), none, none] [] (zm L I J r) = zX 2 (zCd zT d) zc_J7_fill_53178 1 [some (.ref o), some (.int l1), some (.int (0 : Int32)), some (.int (Int32.ofNat (zln (zm L I J r) o)))] [] (zm L I J r) := by
  simp only [yFlI, List.mem_cons, List.not_mem_nil, or_false] at ho
  rcases ho with rfl | rfl | rfl | rfl <;> exact zX_at (zCd_mem d) (b := zc_J7_fill_53178_0) rfl _ _ _
theorem eJ7_fill_53178_1 {d : Nat} {o : Nat} (ho : o ∈ yFlI) {L : Nat} {I : Nat → Nat → Int32} {J : Nat → Nat → Int64} {r : Nat} (l1 : Int32) (l2 : Int32) (l3 : Int32) : zX 2 (zCd zT d) zc_J7_fill_53178 1 [some (.ref o), some (.int l1), some (.int l2), some (.int l3)] [] (zm L I J r) = if l3 ≤ l2 then zX 2 (zCd zT d) zc_J7_fill_53178 2 [some (.ref o), some (.int l1), some (.int l2), some (.int l3)] [] (zm L I J r) else (zgd (zin l2 (zln (zm L I J r) o)) (zX 2 (zCd zT d) zc_J7_fill_53178 1 [some (.ref o), some (.int l1), some (.int (l2 + (1 : Int32))), some (.int l3)] [] (zm L (zu I o (l2).toNatClampNeg l1) J r))) := by
  simp only [yFlI, List.mem_cons, List.not_mem_nil, or_false] at ho
  rcases ho with rfl | rfl | rfl | rfl <;> exact zX_at (zCd_mem d) (b := zc_J7_fill_53178_1) rfl _ _ _
theorem eJ7_fill_53178_2 {d : Nat} {o : Nat} (ho : o ∈ yFlI) {L : Nat} {I : Nat → Nat → Int32} {J : Nat → Nat → Int64} {r : Nat} (l1 : Int32) (l2 : Int32) (l3 : Int32) : zX 2 (zCd zT d) zc_J7_fill_53178 2 [some (.ref o), some (.int l1), some (.int l2), some (.int l3)] [] (zm L I J r) = some (none, (zm L I J r)) := by
  simp only [yFlI, List.mem_cons, List.not_mem_nil, or_false] at ho
  rcases ho with rfl | rfl | rfl | rfl <;> exact zX_at (zCd_mem d) (b := zc_J7_fill_53178_2) rfl _ _ _
def zfI (I : Nat → Nat → Int32) (o n : Nat) (v : Int32) : Nat → Nat → Int32 := fun a j => if a = o ∧ j < n then v else I a j
def zfJ (J : Nat → Nat → Int64) (o n : Nat) (v : Int64) : Nat → Nat → Int64 := fun a j => if a = o ∧ j < n then v else J a j
theorem zfI_o {I : Nat → Nat → Int32} {o n a : Nat} {v : Int32} (h : a ≠ o) : zfI I o n v a = I a := funext fun _ => if_neg (fun w => h w.1)
theorem zfJ_o {J : Nat → Nat → Int64} {o n a : Nat} {v : Int64} (h : a ≠ o) : zfJ J o n v a = J a := funext fun _ => if_neg (fun w => h w.1)
theorem zfI_i {I : Nat → Nat → Int32} {o n j : Nat} {v : Int32} (h : j < n) : zfI I o n v o j = v := if_pos ⟨rfl, h⟩
theorem zfJ_i {J : Nat → Nat → Int64} {o n j : Nat} {v : Int64} (h : j < n) : zfJ J o n v o j = v := if_pos ⟨rfl, h⟩
theorem zfI_s {I : Nat → Nat → Int32} {o i : Nat} {v : Int32} : zu (zfI I o i v) o i v = zfI I o (i + 1) v := by
  funext a j
  unfold zu zfI
  by_cases h : a = o
  · by_cases h2 : j = i
    · rw [if_pos ⟨h, h2⟩, if_pos ⟨h, by omega⟩]
    · rw [if_neg (fun w => h2 w.2)]
      by_cases h3 : j < i
      · rw [if_pos ⟨h, h3⟩, if_pos ⟨h, by omega⟩]
      · rw [if_neg (fun w => h3 w.2), if_neg (by omega)]
  · rw [if_neg (fun w => h w.1), if_neg (fun w => h w.1), if_neg (fun w => h w.1)]
theorem zfJ_s {J : Nat → Nat → Int64} {o i : Nat} {v : Int64} : zuL (zfJ J o i v) o i v = zfJ J o (i + 1) v := by
  funext a j
  unfold zuL zfJ
  by_cases h : a = o
  · by_cases h2 : j = i
    · rw [if_pos ⟨h, h2⟩, if_pos ⟨h, by omega⟩]
    · rw [if_neg (fun w => h2 w.2)]
      by_cases h3 : j < i
      · rw [if_pos ⟨h, h3⟩, if_pos ⟨h, by omega⟩]
      · rw [if_neg (fun w => h3 w.2), if_neg (by omega)]
  · rw [if_neg (fun w => h w.1), if_neg (fun w => h w.1), if_neg (fun w => h w.1)]
theorem zfI_0 {I : Nat → Nat → Int32} {o : Nat} {v : Int32} : zfI I o 0 v = I := by
  funext a j
  exact if_neg (by omega)
theorem zfJ_0 {J : Nat → Nat → Int64} {o : Nat} {v : Int64} : zfJ J o 0 v = J := by
  funext a j
  exact if_neg (by omega)
section
variable {d L r : Nat} {I : Nat → Nat → Int32} {J : Nat → Nat → Int64}
theorem cFillI (hd : 1 ≤ d) {o n : Nat} (ho : o ∈ yFlI) (hn : zln (zm L I J r) o = n) (h2 : n < 2147483648) (v : Int32) : zCd zT d 378 [.ref o, .int v] (zm L I J r) = some (none, (zm L (zfI I o n v) J r)) := by
  obtain ⟨e, rfl⟩ : ∃ e, d = e + 1 := ⟨d - 1, by omega⟩
  have hl : ∀ I', zln (zm L I' J r) o = n := fun _ => hn
  have en : Int32.ofNat n = zi (n : Int) := (Int32.ofInt_eq_ofNat (n := n)).symm
  have c1 := zFor (n := n) (G := fun i => zX 2 (zCd zT e) zc_J7_fill_53178 1 [some (.ref o), some (.int v), some (.int (zi (i : Int))), some (.int (zi (n : Int)))] [] (zm L (zfI I o i v) J r)) (fun i hi => by
    have k2 : zi ((i : Nat) : Int) + (1 : Int32) = zi ((i + 1 : Nat) : Int) := zi_add _ 1
    rw [eJ7_fill_53178_1 ho, if_neg (show ¬ zi (n : Int) ≤ zi ((i : Nat) : Int) by rw [zi_le (by omega) (by omega)]; omega), hl, zin_t (by omega) (by omega), zgd_t, zi_cl (by omega), Int.toNat_natCast, zfI_s, k2])
  have z0 : zX 2 (zCd zT e) zc_J7_fill_53178 1 [some (.ref o), some (.int v), some (.int 0), some (.int (zi (n : Int)))] [] (zm L (zfI I o 0 v) J r) = _ := c1
  rw [zfI_0] at z0
  rw [qJ7_fill_53178 ho, eJ7_fill_53178_0 ho, hn, en, z0, eJ7_fill_53178_1 ho, if_pos (Int32.le_refl _), eJ7_fill_53178_2 ho]
theorem cFillJ (hd : 1 ≤ d) {o n : Nat} (ho : o ∈ yFlJ) (hn : zln (zm L I J r) o = n) (h2 : n < 2147483648) (v : Int64) : zCd zT d 377 [.ref o, .long v] (zm L I J r) = some (none, (zm L I (zfJ J o n v) r)) := by
  obtain ⟨e, rfl⟩ : ∃ e, d = e + 1 := ⟨d - 1, by omega⟩
  have hl : ∀ J', zln (zm L I J' r) o = n := fun _ => hn
  have en : Int32.ofNat n = zi (n : Int) := (Int32.ofInt_eq_ofNat (n := n)).symm
  have c1 := zFor (n := n) (G := fun i => zX 2 (zCd zT e) zc_J7_fill_d0a16 1 [some (.ref o), some (.long v), none, some (.int (zi (i : Int))), some (.int (zi (n : Int)))] [] (zm L I (zfJ J o i v) r)) (fun i hi => by
    have k2 : zi ((i : Nat) : Int) + (1 : Int32) = zi ((i + 1 : Nat) : Int) := zi_add _ 1
    rw [eJ7_fill_d0a16_1 ho, if_neg (show ¬ zi (n : Int) ≤ zi ((i : Nat) : Int) by rw [zi_le (by omega) (by omega)]; omega), hl, zin_t (by omega) (by omega), zgd_t, zi_cl (by omega), Int.toNat_natCast, zfJ_s, k2])
  have z0 : zX 2 (zCd zT e) zc_J7_fill_d0a16 1 [some (.ref o), some (.long v), none, some (.int 0), some (.int (zi (n : Int)))] [] (zm L I (zfJ J o 0 v) r) = _ := c1
  rw [zfJ_0] at z0
  rw [qJ7_fill_d0a16 ho, eJ7_fill_d0a16_0 ho, hn, en, z0, eJ7_fill_d0a16_1 ho, if_pos (Int32.le_refl _), eJ7_fill_d0a16_2 ho]
end
