/-! THE CLAIM OUT OF THE SMALL MACHINE: what stands at the law's entry -/
def zFL : List Cond := flatC (Jvm.Cond.and given_1 narrow_1)
def zstm (i : Nat) : Term := match znth zstq i with
  | some q => .string q.1 q.2.1
  | none => .string "" 0
def zstv (i : Nat) : Term := .field (zstm i) "java/lang/String" "value" "[B"
theorem zsc1 : (List.range zstr.length).all (fun i => decide (Cond.exactly (zstm i) "java/lang/String" ∈ zFL) && (decide (Cond.eq (.field (zstm i) "java/lang/String" "coder" "B") (.int 0) ∈ zFL) && (decide (Cond.arrayOf (zstv i) .byte ∈ zFL) && decide (Cond.eq (.length (zstv i)) (.int (Int32.ofNat ((zstr.map List.length).getD i 0))) ∈ zFL)))) = true := by decide +kernel
theorem zsc2 : (List.range zstr.length).all (fun i => (List.range ((zstr.map List.length).getD i 0)).all (fun j => decide (Cond.eq (.elem (zstv i) (.int (Int32.ofNat j))) (.int ((zstr.getD i []).getD j 0)) ∈ zFL))) = true := by decide +kernel
theorem zsc3 : (List.range zstr.length).all (fun i => (List.range zstr.length).all (fun j => decide (i = j) || (decide (Cond.not (Cond.eq (zstm i) (zstm j)) ∈ zFL) || decide (Cond.not (Cond.eq (zstm j) (zstm i)) ∈ zFL)))) = true := by decide +kernel
theorem zsc4 : (List.range zstr.length).all (fun i => decide ((zstr.map List.length).getD i 0 < 2 ^ 31)) = true := by decide +kernel
theorem zsc5 : (List.range 6).all (fun j => decide (Cond.eq (.elem (.static "CoasterDay$Rules" "SHOWING_FREE" "[J") (.int (Int32.ofNat j))) (.long (zsf j)) ∈ zFL)) = true := by decide +kernel
theorem zsc6 : zstq.all (fun q => decide (q.2.2.2 < zstr.length) && (decide (zstm q.2.2.2 = .string q.1 q.2.1) && decide (Cond.stringRef q.1 q.2.1 q.2.2.1 ∈ lw_tbl))) = true := by decide +kernel
theorem zca : ∀ (c : Nat) (q : vw_C), vwCl[c]? = some q → (Cond.instantiable q.1 q.2.2) ∈ lw_tbl := zcl_all (zw_tb (a := 1158) (by decide +kernel)) (zw_tb (a := 1239) (by decide +kernel)) (zw_tb (a := 2104) (by decide +kernel)) (zw_tb (a := 2015) (by decide +kernel)) (zw_tb (a := 1091) (by decide +kernel)) (zw_tb (a := 1142) (by decide +kernel)) (zw_tb (a := 2070) (by decide +kernel)) (zw_tb (a := 1168) (by decide +kernel)) (zw_tb (a := 1031) (by decide +kernel)) (zw_tb (a := 1101) (by decide +kernel)) (zw_tb (a := 1078) (by decide +kernel)) (zw_tb (a := 1023) (by decide +kernel)) (zw_tb (a := 7009) (by decide +kernel))
def zM0 (L : Nat) (xs : Nat → Int32) : zM := (16, 0, L, (fun o k => if o = 1 then xs k else 0), (fun _ _ => 0), fun _ _ => 0)
theorem z_arr {s : State} {cA : ClassId} {kA : Class} {comp : ClassId} {ty : FieldType} (h1 : s.vm.classes[cA]? = some kA) (h2 : kA.kind = .array comp ty) : ArrOfT s cA ty := fun n z => ⟨(fun k h => by cases h), kA, h1, comp, h2⟩
theorem z_start {s : State} {b L : Nat} {xs : Nat → Int32} (hts : ∀ w ∈ lw_tbl, w.before #[Value.ref b] s = true) (hX : va_X b L xs s s.heap) (hbl : b < s.heap.size) (hL : L < 2 ^ 31) (hgv : (Jvm.Cond.and given_1 narrow_1).before #[Value.ref b] s = true) : ∃ G : zG, gB G = s.heap.size ∧ gL G = L ∧ gX G = xs ∧ gA G 1 = b ∧ zK G s ∧ zEn G s s.heap := by
  have hs : ∀ c ∈ zFL, c.before #[Value.ref b] s = true := flat_of_before _ hgv
  have hA : ∀ a : Nat, a < s.heap.size → ¬ (fun q : Nat => s.heap.size ≤ q) a := fun a h => Nat.not_le.mpr h
  obtain ⟨f, hf⟩ : ∃ f : Nat → ClassId × (Nat → Nat), ∀ c q, vwCl[c]? = some q → u_Kn s q.1 q.2.1 q.2.2 (f c).1 (f c).2 := by
    have h0 : ∀ c : Nat, ∃ y : ClassId × (Nat → Nat), ∀ q, vwCl[c]? = some q → u_Kn s q.1 q.2.1 q.2.2 y.1 y.2 := by
      intro c
      cases hc : vwCl[c]? with
      | none => exact ⟨(0, fun _ => 0), fun q h => by cases h⟩
      | some q =>
        obtain ⟨cC, iS, h⟩ := u_known (C := q.1) (T := q.2.1) (N := q.2.2) hts (zUws_tb c q hc) (hts _ (zca c q hc))
        exact ⟨(cC, iS), fun q' h' => by cases h'; exact h⟩
    exact Classical.axiomOfChoice h0
  have hpr : ∀ ty : FieldType, (∀ C, ty ≠ .object C) → Cond.arrayClass ty ∈ lw_tbl → ∃ cA, ArrOfT s cA ty ∧ va_RA s cA ty := by
    intro ty hno hm
    obtain ⟨cA, kA, comp, h1, h2, h3⟩ := Cond.arrayClass_spec (hts _ hm)
    refine ⟨cA, z_arr h2 h3, ?_⟩
    cases ty <;> first | exact h1 | exact absurd rfl (hno _)
  have hob : ∀ C : String, Cond.arrayOver (.object C) ∈ lw_tbl → ∃ cA, ArrOfT s cA (.object C) ∧ va_RA s cA (.object C) := by
    intro C hm
    obtain ⟨comp, cA, kA, h1, h2, h3, h4, h5⟩ := Cond.arrayOver_spec (hts _ hm)
    exact ⟨cA, z_arr h3 h4, kA, comp, h3, h4, h1, h5⟩
  obtain ⟨a1, hr1⟩ := hpr .int (fun _ h => by cases h) (zw_tb (a := 1076) (by decide +kernel))
  obtain ⟨a2, hr2⟩ := hpr .long (fun _ h => by cases h) (zw_tb (a := 1140) (by decide +kernel))
  obtain ⟨a3, hr3⟩ := hpr .boolean (fun _ h => by cases h) (zw_tb (a := 7142) (by decide +kernel))
  obtain ⟨a4, hr4⟩ := hob "CoasterDay$Day" (zw_tb (a := 1236) (by decide +kernel))
  obtain ⟨a5, hr5⟩ := hob "CoasterDay$NumberRow" (zw_tb (a := 1238) (by decide +kernel))
  have hsf := fun j hj => va_eqtl (hs _ (of_decide_eq_true (List.all_eq_true.mp zsc5 j (List.mem_range.mpr hj))))
  obtain ⟨t2, ht2, hT2⟩ := va_Tof (tm := .static "CoasterDay$Rules" "SHOWING_FREE" "[J") (ty := .long) (N := 6) (f := fun j => .long (zsf j)) (A := fun q : Nat => s.heap.size ≤ q) (by decide) (hs _ (by decide +kernel)) (va_eqt (hs _ (by decide +kernel))) (fun j hj => hsf j hj) hA
  have hZ2 := va_Zref (C := "CoasterDay$Rules") (n := "SHOWING_FREE") (d := "[J") (A := fun q : Nat => s.heap.size ≤ q) (hts _ (zw_tb (a := 3220) (by decide +kernel))) (hts _ (zw_tb (a := 1006) (by decide +kernel))) ht2 hA
  have hZc := va_Zof (C := "java/lang/String") (n := "COMPACT_STRINGS") (d := "Z") (v := .int 1) (A := fun q : Nat => s.heap.size ≤ q) (hts _ (zw_tb (a := 3029) (by decide +kernel))) (hts _ (zw_tb (a := 1016) (by decide +kernel))) (va_eqt (hs _ (by decide +kernel))) hA
  obtain ⟨n3, hZ3⟩ : ∃ n3 : Option Nat, va_Z "jdk/internal/util/Preconditions" "SIOOBE_FORMATTER" "Ljava/util/function/BiFunction;" (va_rf n3) (fun q : Nat => s.heap.size ≤ q) s s.heap := by
    rcases va_Zqof (C := "jdk/internal/util/Preconditions") (n := "SIOOBE_FORMATTER") (d := "Ljava/util/function/BiFunction;") (A := fun q : Nat => s.heap.size ≤ q) (hts _ (zw_tb (a := 3045) (by decide +kernel))) (hts _ (zw_tb (a := 1018) (by decide +kernel))) (hs _ (by decide +kernel)) hA with h | ⟨t, h⟩
    · exact ⟨none, h⟩
    · exact ⟨some t, h⟩
  have c1 := fun i (hi : i < zstr.length) => List.all_eq_true.mp zsc1 i (List.mem_range.mpr hi)
  simp only [Bool.and_eq_true, decide_eq_true_eq] at c1
  obtain ⟨adK, adV, hSt, htm⟩ := vk_Sof (s := s) (args := #[Value.ref b]) (N := zstr.length) (tm := zstm) (len := zstr.map List.length) (byt := zstr) (A := fun q : Nat => s.heap.size ≤ q) (fun i hi => of_decide_eq_true (List.all_eq_true.mp zsc4 i (List.mem_range.mpr hi))) (fun i hi => hs _ (c1 i hi).1) (fun i hi => hs _ (c1 i hi).2.1) (fun i hi => hs _ (c1 i hi).2.2.1) (fun i hi => hs _ (c1 i hi).2.2.2)
    (fun i hi j hj => hs _ (of_decide_eq_true (List.all_eq_true.mp (List.all_eq_true.mp zsc2 i (List.mem_range.mpr hi)) j (List.mem_range.mpr hj))))
    (fun i j hi hj hij => by
      have h := List.all_eq_true.mp (List.all_eq_true.mp zsc3 i (List.mem_range.mpr hi)) j (List.mem_range.mpr hj)
      simp only [Bool.or_eq_true, decide_eq_true_eq] at h
      rcases h with h | h | h
      · exact absurd h hij
      · exact Or.inl (hs _ h)
      · exact Or.inr (hs _ h)) hA
  let ga : Nat → Nat := fun o => if o = 1 then b else if o = 2 then t2 else if o % 2 = 0 then adK ((o - 1000) / 2) else adV ((o - 1000) / 2)
  have gK : (fun i => ga (1000 + 2 * i)) = adK := by
    funext i
    show (if 1000 + 2 * i = 1 then b else if 1000 + 2 * i = 2 then t2 else if (1000 + 2 * i) % 2 = 0 then adK ((1000 + 2 * i - 1000) / 2) else _) = _
    rw [if_neg (by omega), if_neg (by omega), if_pos (by omega), show (1000 + 2 * i - 1000) / 2 = i by omega]
  have gV : (fun i => ga (1000 + 2 * i + 1)) = adV := by
    funext i
    show (if 1000 + 2 * i + 1 = 1 then b else if 1000 + 2 * i + 1 = 2 then t2 else if (1000 + 2 * i + 1) % 2 = 0 then _ else adV ((1000 + 2 * i + 1 - 1000) / 2)) = _
    rw [if_neg (by omega), if_neg (by omega), if_neg (by omega), show (1000 + 2 * i + 1 - 1000) / 2 = i by omega]
  refine ⟨(s.heap.size, ga, fun c => (f c).1, fun c => (f c).2, fun k => if k = 1 then a1 else if k = 2 then a2 else if k = 3 then a3 else if k = 4 then a4 else a5, L, xs, n3), rfl, rfl, rfl, rfl, ⟨hf, ?_⟩, ⟨hbl, hL, hX⟩, ⟨hZ2, hT2⟩, hZc, hZ3, ?_, ?_, ?_⟩
  · intro k q hq
    match k, hq with
    | 0, hq => cases hq; exact hr1
    | 1, hq => cases hq; exact hr2
    | 2, hq => cases hq; exact hr3
    | 3, hq => cases hq; exact hr4
    | 4, hq => cases hq; exact hr5
    | k + 5, hq => simp at hq
  · show vk_S zstr.length (zstr.map List.length) zstr (fun i => ga (1000 + 2 * i)) (fun i => ga (1000 + 2 * i + 1)) _ s s.heap
    rw [gK, gV]
    exact hSt
  · intro q hq
    have h := List.all_eq_true.mp zsc6 q hq
    simp only [Bool.and_eq_true, decide_eq_true_eq] at h
    show vk_R q.1 q.2.1 q.2.2.1 (ga (1000 + 2 * q.2.2.2)) s
    have e1 : ga (1000 + 2 * q.2.2.2) = adK q.2.2.2 := congrFun gK q.2.2.2
    rw [e1]
    refine vk_R.of (hts _ h.2.2) ?_
    have h1 := htm q.2.2.2 h.1
    rw [h.2.1] at h1
    exact h1
  · intro w hw hb
    have h := hts w hw
    unfold zbw at hb
    split at hb
    · exact va_Nw.of rfl h
    · exact va_AO.of h
    · cases hb
/-- what is left: the law, run by the small machine, answers 1 -/
def zLawRuns (L : Nat) (xs : Nat → Int32) : Prop := ∃ M : zM, zX 3 (zCd zT 60) zc_L_law 0 [some (.ref 1), none, none, none] [] (zM0 L xs) = some (some (.int 1), M) ∧ znx M ≤ 148 ∧ zsz M ≤ 214328
