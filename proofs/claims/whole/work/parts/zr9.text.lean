/-! TEXT: the class and the model answer the same -/
theorem oText (a b : Int32) : zOk 139 269 [.int a, .int b] := by
  obtain ⟨a, rfl, ba⟩ := zi_of a
  obtain ⟨b, rfl, bb⟩ := zi_of b
  intro L c r I J y z0 z1 hc hr hv
  obtain ⟨⟨T, hT, t1, t2, t3⟩, t4, t5⟩ := hv.2.2.2.2.2.2.1
  have k1 : zCd zT 59 225 [.int (zi a), .int 0, .int 1] (zm L I J r) = some (some (.int (zb1 (zbo a 0 1))), (zm L I J r)) := cOut (lo := 0) (hi := 1) (by omega) ba (by decide) (by decide)
  have k2 : zCd zT 59 225 [.int (zi b), .int 0, .int (zi (T : Int))] (zm L I J r) = some (some (.int (zb1 (zbo b 0 (T : Int)))), (zm L I J r)) := cOut (lo := 0) (hi := (T : Int)) (by omega) bb (by decide) (by omega)
  have wi1 : zCd zT 59 240 [.long ((zi a).toInt64), .long (0), .long (1)] (zm L (zu I 130 0 0) J r) = some (some (.int (zb1 (!zbo a (0 : Int64).toInt (1 : Int64).toInt))), (zm L (zu I 130 0 0) J r)) := mWithin (by omega) ba
  have wi2 : zCd zT 59 240 [.long ((zi b).toInt64), .long (0), .long ((zi (T : Int)).toInt64)] (zm L (zu I 130 0 0) J r) = some (some (.int (zb1 (!zbo b (0 : Int64).toInt (zi (T : Int)).toInt64.toInt))), (zm L (zu I 130 0 0) J r)) := mWithin (by omega) bb
  have hTT : (zi (T : Int)).toInt64.toInt = T := by rw [Int32.toInt_toInt64, zi_val (by omega)]
  have z64 : (0 : Int64).toInt = 0 := rfl
  have o64 : (1 : Int64).toInt = 1 := rfl
  rw [z64, o64] at wi1
  rw [z64, hTT] at wi2
  have m5 : zu I 130 0 0 130 5 = zi (T : Int) := by rw [zu_n (by decide), t2]
  cases h0 : zbo a 0 1
  · have g := zbo_f h0
    cases h1 : zbo b 0 (T : Int)
    · have g1 := zbo_f h1
      obtain ⟨n, rfl⟩ := yNat g1.1
      have hnT : n ≤ T ∧ T ≤ 400 := ⟨by omega, hT⟩
      have hB : ∀ k, k < n → (I 18 k).toNatClampNeg < 256 ∧ I 18 k = zi ((I 18 k).toNatClampNeg : Int) ∧ I 134 k = zi ((I 18 k).toNatClampNeg : Int) := fun k hk => by
        obtain ⟨v, x1, x2, x3⟩ := t3 k (by omega)
        have : (I 18 k).toNatClampNeg = v := by rw [x2, zi_cl (by omega), Int.toNat_natCast]
        rw [this]
        exact ⟨x1, x2, x3⟩
      obtain rfl | rfl : a = 0 ∨ a = 1 := by omega
      · exact oTxT (B := fun k => (I 18 k).toNatClampNeg) hr hv hnT t1 t2 (fun k hk => (hB k hk).1) (fun k hk => (hB k hk).2.1) (fun k hk => (hB k hk).2.2)
      · by_cases hy : y.1.n = 0
        · have e325 : I 32 5 = 0 := (show I 32 5 = zi (y.1.n : Int) from hv.1.1.1).trans (by rw [hy]; rfl)
          have e0 : zu I 130 0 0 131 0 = 0 := by
            rw [zu_o (by decide)]
            exact (show I 131 0 = zi (y.1.n : Int) from hv.2.1.1.1).trans (by rw [hy]; rfl)
          refine zGo_0 hr hv (.int (-5)) ?_ ?_
          · rw [qX11_text, eX11_text_0, k1, zbI_s, eX11_text_1, h0, if_pos (show zb1 false = 0 by decide), eX11_text_2, sX8_held (by decide), zbI_s, t1, eX11_text_3, k2, zbI_s, eX11_text_4, h1, if_pos (show zb1 false = 0 by decide), eX11_text_5, if_pos (show zi 1 = (1 : Int32) from rfl), sX11_noTrack (by decide), zbI_s, e325, if_pos (show (0 : Int32) = 0 from rfl), eX11_text_6, if_neg (show ¬ (1 : Int32) = 0 by decide)]
          · rw [qX12_text, eX12_text_0, wi1, zbI_s, eX12_text_1, h0, if_neg (show ¬ zb1 (!false) = 0 by decide), eX12_text_2, m5, wi2, zbI_s, eX12_text_3, h1, if_neg (show ¬ zb1 (!false) = 0 by decide), eX12_text_4, if_pos (show zi 1 = (1 : Int32) from rfl), sX12_isTrack (by decide), zbI_s, e0, if_pos (show (0 : Int32) ≤ 0 by decide), eX12_text_5, if_pos (show (0 : Int32) = 0 from rfl)]
            rfl
        · exact oTxR (B := fun k => (I 18 k).toNatClampNeg) hr hv hy hnT t1 t2 (fun k hk => (hB k hk).1) (fun k hk => (hB k hk).2.1) (fun k hk => (hB k hk).2.2)
    · refine zGo_0 hr hv (.int (-3)) ?_ ?_
      · rw [qX11_text, eX11_text_0, k1, zbI_s, eX11_text_1, h0, if_pos (show zb1 false = 0 by decide), eX11_text_2, sX8_held (by decide), zbI_s, t1, eX11_text_3, k2, zbI_s, eX11_text_4, h1, if_neg (show ¬ zb1 true = 0 by decide)]
      · rw [qX12_text, eX12_text_0, wi1, zbI_s, eX12_text_1, h0, if_neg (show ¬ zb1 (!false) = 0 by decide), eX12_text_2, m5, wi2, zbI_s, eX12_text_3, h1, if_pos (show zb1 (!true) = 0 by decide)]
        rfl
  · refine zGo_0 hr hv (.int (-2)) ?_ ?_
    · rw [qX11_text, eX11_text_0, k1, zbI_s, eX11_text_1, h0, if_neg (show ¬ zb1 true = 0 by decide)]
    · rw [qX12_text, eX12_text_0, wi1, zbI_s, eX12_text_1, h0, if_pos (show zb1 (!true) = 0 by decide)]
      rfl
