/-! ROWS OF EVENTS: the model meets a state -/
def mQ (I : Nat → Nat → Int32) (Q : yBq) : Prop := I 130 33 = zi (Q.1 : Int) ∧ (∀ k, k < Q.1 → I 139 k = zi ((Q.2.1 k + 64 * Q.2.2.1 k : Nat) : Int) ∧ I 140 k = zi (Q.2.2.2.1 k) ∧ I 141 k = zi (Q.2.2.2.2 k)) ∧ ∀ t l, t < 64 → l < 729 → I 138 (t + 64 * l) = zb1 (yMet Q t l)
def mQf (I I' : Nat → Nat → Int32) : Prop := (∀ o, o ≠ 130 → o ≠ 137 → o ≠ 138 → o ≠ 139 → o ≠ 140 → o ≠ 141 → I' o = I o) ∧ ∀ k, k ≠ 33 → I' 130 k = I 130 k
theorem mQf_r {I : Nat → Nat → Int32} : mQf I I := ⟨fun _ _ _ _ _ _ _ => rfl, fun _ _ => rfl⟩
theorem mQf_t {I I1 I2 : Nat → Nat → Int32} (h : mQf I I1) (g : mQf I1 I2) : mQf I I2 := ⟨fun o a b c d e f => (g.1 o a b c d e f).trans (h.1 o a b c d e f), fun k a => (g.2 k a).trans (h.2 k a)⟩
theorem mQ_7 {I I' : Nat → Nat → Int32} {Q : yBq} (f : ∀ o, o ≠ 137 → I' o = I o) (h : mQ I Q) : mQ I' Q := by
  unfold mQ at *
  rw [f 130 (by decide), f 139 (by decide), f 140 (by decide), f 141 (by decide), f 138 (by decide)]
  exact h
theorem mQf_7 {I I' : Nat → Nat → Int32} (f : ∀ o, o ≠ 137 → I' o = I o) : mQf I I' := ⟨fun o _ a _ _ _ _ => f o a, fun k _ => by rw [f 130 (by decide)]⟩
section
variable {d L r : Nat} {I : Nat → Nat → Int32} {J : Nat → Nat → Int64}
variable {p : Nat} {Q : yBq} {u : yRl} {nb k t l : Nat}
theorem mMeet (hd : 1 ≤ d) (h : mQ I Q) (hq : yBw p Q) {t l : Nat} (ht : t < 64) (hl : l < 729) {f v : Int} : ∃ I', zCd zT d 300 [.ref 130, .int (zi ((t + 64 * l : Nat) : Int)), .int (zi f), .int (zi v)] (zm L I J r) = some (none, (zm L I' J r)) ∧ mQ I' (yAdq Q t l f v) ∧ mQf I I' := by
  have hn := yBw_n hq
  have hm := h.2.2 t l ht hl
  have h33 : I 130 33 = zi (Q.1 : Int) := h.1
  have k1 : zi (Q.1 : Int) + (1 : Int32) = zi ((Q.1 + 1 : Nat) : Int) := zi_add _ 1
  obtain ⟨e, rfl⟩ : ∃ e, d = e + 1 := ⟨d - 1, by omega⟩
  unfold yAdq
  rw [qX12_adds, eX12_adds_0, zin_t (by omega) (by omega), zgd_t, zi_cl (by omega), Int.toNat_natCast, hm]
  cases w : yMet Q t l
  · rw [if_pos (show zb1 false = 0 from rfl), eX12_adds_1, zin_t (by omega) (by omega), Bool.true_and, zgd_t, h33, zin_t (by omega) (by omega), zgd_t, zgd_t, zgd_t, zi_cl (by omega), zi_cl (by omega), Int.toNat_natCast, Int.toNat_natCast, k1, if_neg (show ¬ false = true by decide)]
    refine ⟨_, rfl, ⟨zu_y ⟨rfl, rfl⟩, fun k hk => ?_, fun t' l' ht' hl' => ?_⟩, fun o x1 x2 x3 x4 x5 x6 => ?_, fun k hk => ?_⟩
    · have hk : k < Q.1 + 1 := hk
      show zu (zu (zu (zu (zu I 138 (t + 64 * l) 1) 139 Q.1 (zi ((t + 64 * l : Nat) : Int))) 140 Q.1 (zi f)) 141 Q.1 (zi v)) 130 33 (zi ((Q.1 + 1 : Nat) : Int)) 139 k = zi (((if k = Q.1 then t else Q.2.1 k) + 64 * (if k = Q.1 then l else Q.2.2.1 k) : Nat) : Int) ∧ zu (zu (zu (zu (zu I 138 (t + 64 * l) 1) 139 Q.1 (zi ((t + 64 * l : Nat) : Int))) 140 Q.1 (zi f)) 141 Q.1 (zi v)) 130 33 (zi ((Q.1 + 1 : Nat) : Int)) 140 k = zi (if k = Q.1 then f else Q.2.2.2.1 k) ∧ zu (zu (zu (zu (zu I 138 (t + 64 * l) 1) 139 Q.1 (zi ((t + 64 * l : Nat) : Int))) 140 Q.1 (zi f)) 141 Q.1 (zi v)) 130 33 (zi ((Q.1 + 1 : Nat) : Int)) 141 k = zi (if k = Q.1 then v else Q.2.2.2.2 k)
      by_cases e : k = Q.1
      · simp only [if_pos e]
        refine ⟨?_, ?_, ?_⟩
        · rw [zu_n (by omega), zu_n (by omega), zu_n (by omega), zu_y ⟨rfl, e⟩]
        · rw [zu_n (by omega), zu_n (by omega), zu_y ⟨rfl, e⟩]
        · rw [zu_n (by omega), zu_y ⟨rfl, e⟩]
      · simp only [if_neg e]
        have hk' := h.2.1 k (by omega)
        refine ⟨?_, ?_, ?_⟩
        · rw [zu_n (by omega), zu_n (by omega), zu_n (by omega), zu_n (by omega), zu_n (by omega)]
          exact hk'.1
        · rw [zu_n (by omega), zu_n (by omega), zu_n (by omega), zu_n (by omega), zu_n (by omega)]
          exact hk'.2.1
        · rw [zu_n (by omega), zu_n (by omega), zu_n (by omega), zu_n (by omega), zu_n (by omega)]
          exact hk'.2.2
    · rw [zu_n (by omega), zu_n (by omega), zu_n (by omega), zu_n (by omega), zu_ap, h.2.2 t' l' ht' hl']
      have met : yMet (Q.1 + 1, (fun k => if k = Q.1 then t else Q.2.1 k), (fun k => if k = Q.1 then l else Q.2.2.1 k), (fun k => if k = Q.1 then f else Q.2.2.2.1 k), fun k => if k = Q.1 then v else Q.2.2.2.2 k) t' l' = (yMet Q t' l' || decide (t' = t ∧ l' = l)) := by
        rw [Bool.eq_iff_iff, Bool.or_eq_true, yMet_i, yMet_i, decide_eq_true_iff]
        constructor
        · rintro ⟨k, hk, x1, x2⟩
          have hk : k < Q.1 + 1 := hk
          have x1 : (if k = Q.1 then t else Q.2.1 k) = t' := x1
          have x2 : (if k = Q.1 then l else Q.2.2.1 k) = l' := x2
          by_cases e : k = Q.1
          · rw [if_pos e] at x1 x2
            exact Or.inr ⟨x1.symm, x2.symm⟩
          · rw [if_neg e] at x1 x2
            exact Or.inl ⟨k, by omega, x1, x2⟩
        · rintro (⟨k, hk, x1, x2⟩ | ⟨x1, x2⟩)
          · refine ⟨k, Nat.lt_succ_of_lt hk, ?_, ?_⟩
            · show (if k = Q.1 then t else Q.2.1 k) = t'
              rw [if_neg (by omega)]
              exact x1
            · show (if k = Q.1 then l else Q.2.2.1 k) = l'
              rw [if_neg (by omega)]
              exact x2
          · refine ⟨Q.1, Nat.lt_succ_self _, ?_, ?_⟩
            · show (if Q.1 = Q.1 then t else Q.2.1 Q.1) = t'
              rw [if_pos rfl]
              exact x1.symm
            · show (if Q.1 = Q.1 then l else Q.2.2.1 Q.1) = l'
              rw [if_pos rfl]
              exact x2.symm
      rw [met]
      by_cases e : t' = t ∧ l' = l
      · rw [if_pos ⟨rfl, by rw [e.1, e.2]⟩, decide_eq_true e, Bool.or_true]
        rfl
      · rw [if_neg (fun x => e (by have := x.2; omega)), decide_eq_false e, Bool.or_false]
    · rw [zu_o x1, zu_o x6, zu_o x5, zu_o x4, zu_o x3]
    · rw [zu_n (by omega), zu_n (by omega), zu_n (by omega), zu_n (by omega), zu_n (by omega)]
  · rw [if_neg (show ¬ zb1 true = 0 by decide), if_pos rfl]
    exact ⟨I, rfl, h, mQf_r⟩
end
