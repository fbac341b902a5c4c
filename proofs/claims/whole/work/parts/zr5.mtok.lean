/-! TEXT: the model's checks -/
section
variable {d L r : Nat} {I : Nat → Nat → Int32} {J : Nat → Nat → Int64}
variable {B : Nat → Nat} {n : Nat}
theorem mNx_at (hx : mTx B n I) {p : Nat} (hp : p ≤ n) (h11 : I 130 11 = 0) {I' : Nat → Nat → Int32} (h : mNx B n p I I') : mAt B n I' (yTo B n p) ∧ mFt I I' ∧ I' 130 11 = 0 := by
  obtain ⟨a6, a7, a9, a10, ao⟩ := h
  have fr : mFt I I' := fun o k w => ao o k (by omega)
  have z11 : I' 130 11 = 0 := by rw [ao 130 11 (by omega), h11]
  refine ⟨⟨mTx_fr fr hx, fun q => ?_, fun q => ?_⟩, fr, z11⟩
  · unfold yTo at q ⊢
    by_cases w : yK B n p = 20
    · rw [if_pos w] at q
      cases q
    · rw [if_neg w]
      exact ⟨hp, w, z11, a6, a7, a9, a10⟩
  · unfold yTo at q ⊢
    by_cases w : yK B n p = 20
    · rw [if_pos w]
      have sb := yS_p (B := B) hp
      exact ⟨show 1 ≤ 5 by decide, sb.2.1, Or.inr ⟨rfl, z11, by rw [a9, w]; rfl, a6⟩⟩
    · rw [if_neg w] at q
      exact absurd rfl q
theorem mNextA (hd : 7 ≤ d) (hn : n ≤ 400) (hB : ∀ k, k < n → B k < 256) {s : yTkS} (h : mAt B n I s) (hs : s.1 = 0) : ∃ I', zCd zT d 251 [.ref 130] (zm L I J r) = some (none, (zm L I' J r)) ∧ mAt B n I' (yAdv B n s) ∧ mFt I I' ∧ I' 130 11 = 0 := by
  obtain ⟨a1, a2, a3, a4, a5, a6, a7⟩ := h.2.1 hs
  have pb := (yEb_b (B := B) a1).1
  obtain ⟨I', c1, c2⟩ := mNext0 (d := d) (L := L) (J := J) (r := r) hd hn hB h.1 pb a5
  have c3 := mNx_at h.1 pb a3 c2
  refine ⟨I', c1, ?_, c3.2.1, c3.2.2⟩
  unfold yAdv
  rw [if_pos hs]
  exact c3.1
theorem yZb {s : yTkS} {k : Nat} : yIsK B n s k = true ↔ s.1 = 0 ∧ yK B n s.2 = k := decide_eq_true_iff
theorem mIsK (hd : 1 ≤ d) {s : yTkS} (h : mAt B n I s) {k : Nat} (hk : k < 20) : zCd zT d 253 [.ref 130, .int (zi (k : Int))] (zm L I J r) = some (some (.int (zb1 (yIsK B n s k))), (zm L I J r)) := by
  rw [sX12_is hd]
  unfold yIsK
  by_cases hs : s.1 = 0
  · obtain ⟨a1, a2, a3, a4, a5, a6, a7⟩ := h.2.1 hs
    have kb := yK_b (B := B) (n := n) (p := s.2)
    rw [if_pos a3, a6]
    by_cases w : yK B n s.2 = k
    · rw [if_pos (show zi (yK B n s.2 : Int) = zi (k : Int) by rw [w]), decide_eq_true ⟨hs, w⟩]
      rfl
    · rw [if_neg (show ¬ zi (yK B n s.2 : Int) = zi (k : Int) by rw [yEq (by omega) (by omega)]; exact w), decide_eq_false (fun c => w c.2)]
      rfl
  · obtain ⟨b1, b2, b3⟩ := h.2.2 hs
    rw [decide_eq_false (fun c => hs c.1)]
    rcases b3 with ⟨b4, b5⟩ | ⟨b4, b5, b6, b7⟩
    · rw [if_neg (show ¬ I 130 11 = 0 by rw [b4, show (0 : Int32) = zi ((0 : Nat) : Int) from rfl, yEq (by omega) (by omega)]; exact hs)]
      rfl
    · rw [if_pos b5, b6, if_neg (show ¬ (20 : Int32) = zi (k : Int) by rw [show (20 : Int32) = zi ((20 : Nat) : Int) from rfl, yEq (by omega) (by omega)]; omega)]
      rfl
theorem mFails (hd : 1 ≤ d) {s : yTkS} (h : mAt B n I s) {f : Nat} (hf : 1 ≤ f ∧ f ≤ 5) : ∃ I', zCd zT d 252 [.ref 130, .int (zi (f : Int))] (zm L I J r) = some (none, (zm L I' J r)) ∧ mAt B n I' (yFa B n s f) ∧ mFt I I' ∧ ¬ I' 130 11 = 0 := by
  rw [sX12_fails hd]
  unfold yFa
  by_cases hs : s.1 = 0
  · obtain ⟨a1, a2, a3, a4, a5, a6, a7⟩ := h.2.1 hs
    have kb := yK_b (B := B) (n := n) (p := s.2)
    have sb := yS_p (B := B) a1
    have fr : mFt I (zu (zu I 130 11 (zi (f : Int))) 130 12 (I 130 6)) := fun o k w => by rw [zu_n (by omega), zu_n (by omega)]
    rw [if_pos a3, a6, if_neg (show ¬ zi (yK B n s.2 : Int) = (20 : Int32) by rw [show (20 : Int32) = zi ((20 : Nat) : Int) from rfl, yEq (by omega) (by omega)]; exact a2), if_pos hs]
    refine ⟨_, rfl, ⟨mTx_fr fr h.1, fun q => ?_, fun _ => ⟨hf.2, sb.2.1, Or.inl ⟨?_, ?_⟩⟩⟩, fr, ?_⟩
    · have : f = 0 := q
      omega
    · rw [zu_n (by decide), zu_y ⟨rfl, rfl⟩]
    · rw [zu_y ⟨rfl, rfl⟩, a4]
    · rw [zu_n (by decide), zu_y ⟨rfl, rfl⟩, show (0 : Int32) = zi ((0 : Nat) : Int) from rfl, yEq (by omega) (by omega)]
      omega
  · obtain ⟨b1, b2, b3⟩ := h.2.2 hs
    rw [if_neg hs]
    rcases b3 with ⟨b4, b5⟩ | ⟨b4, b5, b6, b7⟩
    · have n11 : ¬ I 130 11 = 0 := by
        rw [b4, show (0 : Int32) = zi ((0 : Nat) : Int) from rfl, yEq (by omega) (by omega)]
        exact hs
      rw [if_neg n11]
      exact ⟨I, rfl, h, mFt_rf, n11⟩
    · have fr : mFt I (zu (zu I 130 11 1) 130 12 (I 130 6)) := fun o k w => by rw [zu_n (by omega), zu_n (by omega)]
      rw [if_pos b5, if_pos b6]
      refine ⟨_, rfl, ⟨mTx_fr fr h.1, fun q => absurd q hs, fun _ => ⟨b1, b2, Or.inl ⟨?_, ?_⟩⟩⟩, fr, ?_⟩
      · rw [zu_n (by decide), zu_y ⟨rfl, rfl⟩, b4]
        rfl
      · rw [zu_y ⟨rfl, rfl⟩, b7]
      · rw [zu_n (by decide), zu_y ⟨rfl, rfl⟩]
        decide
theorem mEats (hd : 8 ≤ d) (hn : n ≤ 400) (hB : ∀ k, k < n → B k < 256) {s : yTkS} (h : mAt B n I s) {k : Nat} (hk : k < 20) : (yIsK B n s k = false → zCd zT d 254 [.ref 130, .int (zi (k : Int))] (zm L I J r) = some (some (.int 0), (zm L I J r))) ∧ (yIsK B n s k = true → ∃ I', zCd zT d 254 [.ref 130, .int (zi (k : Int))] (zm L I J r) = some (some (.int 1), (zm L I' J r)) ∧ mAt B n I' (yAdv B n s) ∧ mFt I I' ∧ I' 130 11 = 0) := by
  obtain ⟨e, rfl⟩ : ∃ e, d = e + 1 := ⟨d - 1, by omega⟩
  rw [qX12_eats, eX12_eats_0, mIsK (by omega) h hk, zbI_s, eX12_eats_1]
  constructor
  · intro g
    rw [g, if_pos (show zb1 false = 0 by decide)]
  · intro g
    obtain ⟨I', c1, c2, c3, c4⟩ := mNextA (d := e) (L := L) (J := J) (r := r) (by omega) hn hB h (yZb.mp g).1
    rw [g, if_neg (show ¬ zb1 true = 0 by decide), eX12_eats_2, c1, zbV_s, eX12_eats_3]
    exact ⟨I', rfl, c2, c3, c4⟩
theorem mNeeds (hd : 9 ≤ d) (hn : n ≤ 400) (hB : ∀ k, k < n → B k < 256) {s : yTkS} (h : mAt B n I s) {k : Nat} (hk : k < 20) : ∃ I', zCd zT d 255 [.ref 130, .int (zi (k : Int))] (zm L I J r) = some (none, (zm L I' J r)) ∧ mAt B n I' (yNd B n s k) ∧ mFt I I' ∧ (I' 130 11 = 0 ↔ yIsK B n s k = true) := by
  obtain ⟨e, rfl⟩ : ∃ e, d = e + 1 := ⟨d - 1, by omega⟩
  have me := mEats (d := e) (L := L) (J := J) (r := r) (by omega) hn hB h hk
  rw [qX12_needs, eX12_needs_0]
  unfold yNd
  cases g : yIsK B n s k
  · obtain ⟨I', c1, c2, c3, c4⟩ := mFails (d := e) (L := L) (J := J) (r := r) (by omega) h (f := 2) (by omega)
    have c1' : zCd zT e 252 [.ref 130, .int 2] (zm L I J r) = some (none, (zm L I' J r)) := c1
    rw [me.1 g, zbI_s, eX12_needs_1, if_pos rfl, c1', zbV_s, eX12_needs_2, if_neg (by decide)]
    exact ⟨I', rfl, c2, c3, ⟨fun w => absurd w c4, fun w => by cases w⟩⟩
  · obtain ⟨I', c1, c2, c3, c4⟩ := me.2 g
    rw [c1, zbI_s, eX12_needs_1, if_neg (by decide), eX12_needs_2, if_pos rfl]
    exact ⟨I', rfl, c2, c3, ⟨fun _ => rfl, fun _ => c4⟩⟩
theorem mReads (hd : 8 ≤ d) (hn : n ≤ 400) (hB : ∀ k, k < n → B k < 256) {s : yTkS} (h : mAt B n I s) {a1 a2 : Int32} {lo hi : Int} (hl : s.1 = 0 → a1 = zi lo ∧ a2 = zi hi) (b1 : -100000 ≤ lo ∧ lo ≤ 100000) (b2 : -100000 ≤ hi ∧ hi ≤ 100000) (room : Bool) : ∃ I' x, zCd zT d 256 [.ref 130, .int a1, .int a2, .int (zb1 (!room))] (zm L I J r) = some (some (.int x), (zm L I' J r)) ∧ mAt B n I' (yRdN B n s lo hi room).1 ∧ mFt I I' ∧ (I' 130 11 = 0 ↔ (yRdN B n s lo hi room).2 ≠ -1) ∧ ((yRdN B n s lo hi room).2 ≠ -1 → x = zi (yRdN B n s lo hi room).2) := by
  obtain ⟨e, rfl⟩ : ∃ e, d = e + 1 := ⟨d - 1, by omega⟩
  have lost : ∀ I', (¬ I' 130 11 = 0) → zX 0 (zCd zT e) zc_X12_reads 7 [some (.ref 130), some (.int a1), some (.int a2), some (.int (zb1 (!room))), none] [] (zm L I' J r) = some (some (.int (I' 130 10)), (zm L I' J r)) := by
    intro I' g
    rw [eX12_reads_7, if_neg g, eX12_reads_8]
  rw [qX12_reads, eX12_reads_0, show (15 : Int32) = zi ((15 : Nat) : Int) from rfl, mIsK (by omega) h (by decide), zbI_s, eX12_reads_1]
  unfold yRdN
  cases g : yIsK B n s 15
  · obtain ⟨I', c1, c2, c3, c4⟩ := mFails (d := e) (L := L) (J := J) (r := r) (by omega) h (f := 2) (by omega)
    have c1' : zCd zT e 252 [.ref 130, .int 2] (zm L I J r) = some (none, (zm L I' J r)) := c1
    rw [if_pos (show zb1 false = 0 by decide), c1', zbV_s, eX12_reads_2, lost I' c4, if_neg (by decide)]
    exact ⟨I', _, rfl, c2, c3, ⟨fun w => absurd w c4, fun w => absurd rfl w⟩, fun w => absurd rfl w⟩
  · have g2 := yZb.mp g
    obtain ⟨e1, e2⟩ := hl g2.1
    obtain ⟨x1, x2, x3, x4, x5, x6, x7⟩ := h.2.1 g2.1
    have sb := yS_p (B := B) x1
    have vb : yVl B n s.2 ≤ 999 := (yVs_b (B := B) sb.2.1 g2.2).1
    have hlo : (zi lo).toInt64.toInt = lo := by rw [Int32.toInt_toInt64, zi_val (by omega)]
    have hhi : (zi hi).toInt64.toInt = hi := by rw [Int32.toInt_toInt64, zi_val (by omega)]
    rw [if_neg (show ¬ zb1 true = 0 by decide), eX12_reads_3, x7 g2.2, e1, e2, mWithin (by omega) (by omega), zbI_s, eX12_reads_4, hlo, hhi, if_pos rfl]
    rw [e1, e2] at lost
    by_cases w : lo ≤ (yVl B n s.2 : Int) ∧ (yVl B n s.2 : Int) ≤ hi
    · rw [show zbo (yVl B n s.2 : Int) lo hi = false from decide_eq_false (by omega), if_neg (show ¬ zb1 (!false) = 0 by decide), eX12_reads_6, if_pos w]
      cases room
      · obtain ⟨I', c1, c2, c3, c4⟩ := mFails (d := e) (L := L) (J := J) (r := r) (by omega) h (f := 5) (by omega)
        have c1' : zCd zT e 252 [.ref 130, .int 5] (zm L I J r) = some (none, (zm L I' J r)) := c1
        rw [if_neg (show ¬ zb1 (!false) = 0 by decide), c1', zbV_s, lost I' c4, if_neg (by decide)]
        exact ⟨I', _, rfl, c2, c3, ⟨fun w => absurd w c4, fun w => absurd rfl w⟩, fun w => absurd rfl w⟩
      · obtain ⟨I', c1, c2, c3, c4⟩ := mNextA (d := e) (L := L) (J := J) (r := r) (by omega) hn hB h g2.1
        rw [if_pos (show zb1 (!true) = 0 by decide), eX12_reads_7, if_pos x3, x7 g2.2, c1, zbV_s, eX12_reads_8, if_pos rfl]
        exact ⟨I', _, rfl, c2, c3, ⟨fun _ => show (yVl B n s.2 : Int) ≠ -1 by omega, fun _ => c4⟩, fun _ => rfl⟩
    · obtain ⟨I', c1, c2, c3, c4⟩ := mFails (d := e) (L := L) (J := J) (r := r) (by omega) h (f := 3) (by omega)
      have c1' : zCd zT e 252 [.ref 130, .int 3] (zm L I J r) = some (none, (zm L I' J r)) := c1
      rw [show zbo (yVl B n s.2 : Int) lo hi = true from decide_eq_true (by omega), if_pos (show zb1 (!true) = 0 by decide), c1', zbV_s, eX12_reads_5, lost I' c4, if_neg w]
      exact ⟨I', _, rfl, c2, c3, ⟨fun w => absurd w c4, fun w => absurd rfl w⟩, fun w => absurd rfl w⟩
end
