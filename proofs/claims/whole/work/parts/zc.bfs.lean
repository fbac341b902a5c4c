/-! ROWS OF EVENTS: the class meets a state -/
theorem yEn_i {t t' l l' : Nat} (ht : t < 64) (ht' : t' < 64) (hl : l < 729) (hl' : l' < 729) (h : yEn t l = yEn t' l') : t = t' ∧ l = l' := by
  have a := yEn_b (l := l) ht
  have b := yEn_b (l := l') ht'
  have key : ∀ l : Fin 729, yBset (fun c => (yFr l.1).testBit c) 6 = yFr l.1 ∧ (if (yFr l.1).testBit 0 then 1 else if (yFl l.1).testBit 0 then 2 else 0) + 3 * (if (yFr l.1).testBit 1 then 1 else if (yFl l.1).testBit 1 then 2 else 0) + 9 * (if (yFr l.1).testBit 2 then 1 else if (yFl l.1).testBit 2 then 2 else 0) + 27 * (if (yFr l.1).testBit 3 then 1 else if (yFl l.1).testBit 3 then 2 else 0) + 81 * (if (yFr l.1).testBit 4 then 1 else if (yFl l.1).testBit 4 then 2 else 0) + 243 * (if (yFr l.1).testBit 5 then 1 else if (yFl l.1).testBit 5 then 2 else 0) = l.1 := by decide +kernel
  unfold yEn at h
  have k1 := (key ⟨l, hl⟩).2
  have k2 := (key ⟨l', hl'⟩).2
  have e1 : yFr l = yFr l' := by omega
  have e2 : yFl l = yFl l' := by omega
  dsimp only at k1 k2
  rw [e1, e2] at k1
  exact ⟨by omega, k1.symm.trans k2⟩
theorem yO2 {n i : Nat} (h : n.testBit i = false) : n ||| 2 ^ i = n + 2 ^ i := by
  have h1 : 2 ^ i &&& (n ||| 2 ^ i) = 2 ^ i := by
    refine Nat.eq_of_testBit_eq fun j => ?_
    rw [Nat.testBit_and, Nat.testBit_or]
    cases (2 ^ i).testBit j <;> cases n.testBit j <;> rfl
  have h2 : (n ||| 2 ^ i) ^^^ 2 ^ i = n := by
    refine Nat.eq_of_testBit_eq fun j => ?_
    rw [Nat.testBit_xor, Nat.testBit_or, yB2]
    by_cases e : j = i
    · rw [e, h, decide_eq_true rfl]
      rfl
    · rw [decide_eq_false e, Bool.or_false, Bool.xor_false]
  have := yXs (n ||| 2 ^ i) (n ||| 2 ^ i) (2 ^ i) (Nat.le_refl _) h1
  rw [h2] at this
  exact this.symm
theorem yX2 {n i : Nat} (h : n.testBit i = true) : n ^^^ (n &&& 2 ^ i) = n - 2 ^ i ∧ 2 ^ i ≤ n ∧ (n - 2 ^ i).testBit i = false ∧ ∀ j, j ≠ i → (n - 2 ^ i).testBit j = n.testBit j := by
  have h1 : n &&& 2 ^ i = 2 ^ i := by
    refine Nat.eq_of_testBit_eq fun j => ?_
    rw [Nat.testBit_and, yB2]
    by_cases e : j = i
    · rw [e, h, decide_eq_true rfl]
      rfl
    · rw [decide_eq_false e, Bool.and_false]
  have h2 : 2 ^ i &&& n = 2 ^ i := by rw [Nat.and_comm, h1]
  have h3 := yXd h2
  rw [h1, h3.1]
  refine ⟨rfl, h3.2, ?_, fun j hj => ?_⟩
  · rw [← h3.1, Nat.testBit_xor, h, yB2, decide_eq_true rfl]
    rfl
  · rw [← h3.1, Nat.testBit_xor, yB2, decide_eq_false hj, Bool.xor_false]
def cQ (I : Nat → Nat → Int32) (J : Nat → Nat → Int64) (Q : yBq) : Prop := I 121 3 = zi (Q.1 : Int) ∧ (∀ k, k < Q.1 → I 123 k = zi ((yEn (Q.2.1 k) (Q.2.2.1 k) : Nat) : Int) ∧ I 124 k = zi (if Q.2.2.2.1 k = -1 then -1 else Q.2.2.2.1 k * 32 + Q.2.2.2.2 k)) ∧ ∀ t l, t < 64 → l < 729 → yLb64 (J 122 (yEn t l / 64)) (yEn t l % 64) = yMet Q t l
def cQf (I I' : Nat → Nat → Int32) (J J' : Nat → Nat → Int64) : Prop := (∀ o, o ≠ 121 → o ≠ 123 → o ≠ 124 → I' o = I o) ∧ (∀ k, k ≠ 3 → I' 121 k = I 121 k) ∧ ∀ o, o ≠ 122 → J' o = J o
theorem cQf_r {I : Nat → Nat → Int32} {J : Nat → Nat → Int64} : cQf I I J J := ⟨fun _ _ _ _ => rfl, fun _ _ => rfl, fun _ _ => rfl⟩
theorem cQf_t {I I1 I2 : Nat → Nat → Int32} {J J1 J2 : Nat → Nat → Int64} (h : cQf I I1 J J1) (g : cQf I1 I2 J1 J2) : cQf I I2 J J2 := ⟨fun o a b c => (g.1 o a b c).trans (h.1 o a b c), fun k a => (g.2.1 k a).trans (h.2.1 k a), fun o a => (g.2.2 o a).trans (h.2.2 o a)⟩
section
variable {d L r : Nat} {I : Nat → Nat → Int32} {J : Nat → Nat → Int64}
variable {p : Nat} {Q : yBq}
theorem cMeet (hd : 1 ≤ d) (h : cQ I J Q) (hq : yBw p Q) {t l : Nat} (ht : t < 64) (hl : l < 729) {f v v' : Int} (hw : yBw p (yAdq Q t l f v)) (hf : -1 ≤ f ∧ f ≤ 4660) (hv : 0 ≤ v' ∧ v' ≤ 25) (he : f = -1 ∨ v' = v) : ∃ I' J', zCd zT d 54 [.ref 121, .int (zi ((yEn t l : Nat) : Int)), .int (zi f), .int (zi v')] (zm L I J r) = some (none, zm L I' J' r) ∧ cQ I' J' (yAdq Q t l f v) ∧ cQf I I' J J' := by
  have hn := yBw_n hq
  have hn2 := yBw_n hw
  have eb := yEn_b (l := l) ht
  have h3 : I 121 3 = zi (Q.1 : Int) := h.1
  have z6 : zus (zi ((yEn t l : Nat) : Int)) (6 : Int32) = zi ((yEn t l / 64 : Nat) : Int) := by
    rw [show (6 : Int32) = zi ((6 : Nat) : Int) from rfl, yZus (by omega) (by decide), Nat.shiftRight_eq_div_pow]
  have z63 : zi ((yEn t l : Nat) : Int) &&& (63 : Int32) = zi ((yEn t l % 64 : Nat) : Int) := by
    rw [show (63 : Int32) = zi ((63 : Nat) : Int) from rfl, yAnd (by omega) (by decide), show yEn t l &&& 63 = yEn t l % 64 from Nat.and_two_pow_sub_one_eq_mod _ 6]
  have hm := h.2.2 t l ht hl
  have hlt : yEn t l % 64 < 64 := Nat.mod_lt _ (by decide)
  unfold yAdq at hn2 ⊢
  rw [sX6_meet hd, z6, z63, if_neg (show ¬ (4096 : Int32) ≤ zi ((yEn t l / 64 : Nat) : Int) by rw [show (4096 : Int32) = zi 4096 from rfl, zi_le (by decide) (by omega)]; omega), h3]
  by_cases q1 : 4660 ≤ Q.1
  · have qm : yMet Q t l = true := by
      cases w : yMet Q t l
      · rw [w, if_neg (by decide)] at hn2
        have hn2 : Q.1 + 1 ≤ 4660 := hn2
        omega
      · rfl
    rw [if_pos (show (4660 : Int32) ≤ zi (Q.1 : Int) by rw [show (4660 : Int32) = zi 4660 from rfl, zi_le (by decide) (by omega)]; omega), if_pos qm]
    exact ⟨I, J, rfl, h, cQf_r⟩
  · rw [if_neg (show ¬ (4660 : Int32) ≤ zi (Q.1 : Int) by rw [show (4660 : Int32) = zi 4660 from rfl, zi_le (by decide) (by omega)]; omega), zin_t (by omega) (by omega), zgd_t, zi_cl (by omega), Int.toNat_natCast]
    cases w : yMet Q t l
    · rw [w] at hm
      have hb : ∀ t' l', t' < 64 → l' < 729 → yLb64 (if yEn t' l' / 64 = yEn t l / 64 then J 122 (yEn t l / 64) ||| ((1 : Int64) <<< ((zi ((yEn t l % 64 : Nat) : Int)).toInt64 &&& 63)) else J 122 (yEn t' l' / 64)) (yEn t' l' % 64) = (yMet Q t' l' || decide (t' = t ∧ l' = l)) := by
        intro t' l' ht' hl'
        have hm' := h.2.2 t' l' ht' hl'
        by_cases e : yEn t' l' / 64 = yEn t l / 64
        · rw [if_pos e, yL64c hlt, ← e, hm']
          congr 1
          by_cases e2 : yEn t' l' % 64 = yEn t l % 64
          · have := yEn_i ht' ht hl' hl (by omega)
            rw [decide_eq_true e2, decide_eq_true this]
          · rw [decide_eq_false e2, decide_eq_false (fun x => e2 (by rw [x.1, x.2]))]
        · rw [if_neg e, hm', decide_eq_false (fun x => e (by rw [x.1, x.2])), Bool.or_false]
      have met : ∀ t' l', yMet (Q.1 + 1, (fun k => if k = Q.1 then t else Q.2.1 k), (fun k => if k = Q.1 then l else Q.2.2.1 k), (fun k => if k = Q.1 then f else Q.2.2.2.1 k), fun k => if k = Q.1 then v else Q.2.2.2.2 k) t' l' = (yMet Q t' l' || decide (t' = t ∧ l' = l)) := by
        intro t' l'
        rw [Bool.eq_iff_iff, Bool.or_eq_true, yMet_i, yMet_i, decide_eq_true_iff]
        constructor
        · rintro ⟨k, hk, x1, x2⟩
          have hk : k < Q.1 + 1 := hk
          have x1 : (if k = Q.1 then t else Q.2.1 k) = t' := x1
          have x2 : (if k = Q.1 then l else Q.2.2.1 k) = l' := x2
          by_cases e : k = Q.1
          · rw [if_pos e] at x1 x2
            exact Or.inr ⟨x1.symm, x2.symm⟩
          · rw [if_neg e] at x1 x2
            exact Or.inl ⟨k, by omega, x1, x2⟩
        · rintro (⟨k, hk, x1, x2⟩ | ⟨x1, x2⟩)
          · refine ⟨k, Nat.lt_succ_of_lt hk, ?_, ?_⟩
            · show (if k = Q.1 then t else Q.2.1 k) = t'
              rw [if_neg (by omega)]
              exact x1
            · show (if k = Q.1 then l else Q.2.2.1 k) = l'
              rw [if_neg (by omega)]
              exact x2
          · refine ⟨Q.1, Nat.lt_succ_self _, ?_, ?_⟩
            · show (if Q.1 = Q.1 then t else Q.2.1 Q.1) = t'
              rw [if_pos rfl]
              exact x1.symm
            · show (if Q.1 = Q.1 then l else Q.2.2.1 Q.1) = l'
              rw [if_pos rfl]
              exact x2.symm
      have k1 : zi (Q.1 : Int) + (1 : Int32) = zi ((Q.1 + 1 : Nat) : Int) := zi_add _ 1
      have fin : ∀ g : Int32, g = zi (if f = -1 then -1 else f * 32 + v) → cQ (zu (zu (zu I 123 Q.1 (zi ((yEn t l : Nat) : Int))) 124 Q.1 g) 121 3 (zi ((Q.1 + 1 : Nat) : Int))) (zuL J 122 (yEn t l / 64) (J 122 (yEn t l / 64) ||| ((1 : Int64) <<< ((zi ((yEn t l % 64 : Nat) : Int)).toInt64 &&& 63)))) (Q.1 + 1, (fun k => if k = Q.1 then t else Q.2.1 k), (fun k => if k = Q.1 then l else Q.2.2.1 k), (fun k => if k = Q.1 then f else Q.2.2.2.1 k), fun k => if k = Q.1 then v else Q.2.2.2.2 k) := by
        intro g hg
        refine ⟨zu_y ⟨rfl, rfl⟩, fun k hk => ?_, fun t' l' ht' hl' => ?_⟩
        · have hk : k < Q.1 + 1 := hk
          show zu (zu (zu I 123 Q.1 (zi ((yEn t l : Nat) : Int))) 124 Q.1 g) 121 3 (zi ((Q.1 + 1 : Nat) : Int)) 123 k = zi ((yEn (if k = Q.1 then t else Q.2.1 k) (if k = Q.1 then l else Q.2.2.1 k) : Nat) : Int) ∧ zu (zu (zu I 123 Q.1 (zi ((yEn t l : Nat) : Int))) 124 Q.1 g) 121 3 (zi ((Q.1 + 1 : Nat) : Int)) 124 k = zi (if (if k = Q.1 then f else Q.2.2.2.1 k) = -1 then -1 else (if k = Q.1 then f else Q.2.2.2.1 k) * 32 + (if k = Q.1 then v else Q.2.2.2.2 k))
          by_cases e : k = Q.1
          · simp only [if_pos e]
            refine ⟨?_, ?_⟩
            · rw [zu_n (by omega), zu_n (by omega), zu_y ⟨rfl, e⟩]
            · rw [zu_n (by omega), zu_y ⟨rfl, e⟩]
              exact hg
          · simp only [if_neg e]
            refine ⟨?_, ?_⟩
            · rw [zu_n (by omega), zu_n (by omega), zu_n (by omega)]
              exact (h.2.1 k (by omega)).1
            · rw [zu_n (by omega), zu_n (by omega), zu_n (by omega)]
              exact (h.2.1 k (by omega)).2
        · rw [met, ← hb t' l' ht' hl', zuL_ap]
          simp only [true_and]
      have frm : ∀ g : Int32, cQf I (zu (zu (zu I 123 Q.1 (zi ((yEn t l : Nat) : Int))) 124 Q.1 g) 121 3 (zi ((Q.1 + 1 : Nat) : Int))) J (zuL J 122 (yEn t l / 64) (J 122 (yEn t l / 64) ||| ((1 : Int64) <<< ((zi ((yEn t l % 64 : Nat) : Int)).toInt64 &&& 63)))) := by
        intro g
        refine ⟨fun o a b c => by rw [zu_o a, zu_o c, zu_o b], fun k hk => ?_, fun o ho => ?_⟩
        · rw [zu_n (by omega), zu_n (by omega), zu_n (by omega)]
        · funext j
          rw [zuL_ap, if_neg (fun x => ho x.1)]
      rw [if_pos ((yL64b hlt).mpr hm), zgd_t, zgd_t, zin_t (by omega) (by omega), zgd_t, zgd_t, zi_cl (by omega), Int.toNat_natCast, k1, if_neg (show ¬ false = true by decide)]
      by_cases q2 : f = -1
      · rw [if_pos (show zi f = (-1 : Int32) by rw [q2]; rfl)]
        exact ⟨_, _, rfl, fin _ (by rw [if_pos q2]; rfl), frm _⟩
      · have e3 : zi f * (32 : Int32) + zi v' = zi (f * 32 + v') := by
          rw [show (32 : Int32) = zi 32 from rfl, zi_mul, zi_add]
        rw [if_neg (show ¬ zi f = (-1 : Int32) by rw [zi_m1 (by omega)]; exact q2), e3]
        exact ⟨_, _, rfl, fin _ (by rw [if_neg q2, he.resolve_left q2]), frm _⟩
    · rw [w] at hm
      rw [if_neg (fun x => by have := (yL64b hlt).mp x; rw [hm] at this; cases this), if_pos rfl]
      exact ⟨I, J, rfl, h, cQf_r⟩
end
