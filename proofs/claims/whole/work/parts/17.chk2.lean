set_option maxRecDepth 100000 in
theorem zh_X11_led : zmk0 zt_X11_led ∧ zmok zT (zmY zt_X11_led).cls (zmY zt_X11_led).name (zmB zt_X11_led) (zmC zt_X11_led) = true := ⟨⟨rfl, Nat.le_of_ble_eq_true rfl, ⟨by decide +kernel, by decide +kernel⟩, by decide +kernel, by decide +kernel, rfl, rfl, by decide +kernel, rfl⟩, by decide +kernel⟩
set_option maxRecDepth 100000 in
theorem zh_X11_ledTo : zmk0 zt_X11_ledTo ∧ zmok zT (zmY zt_X11_ledTo).cls (zmY zt_X11_ledTo).name (zmB zt_X11_ledTo) (zmC zt_X11_ledTo) = true := ⟨⟨rfl, Nat.le_of_ble_eq_true rfl, ⟨by decide +kernel, by decide +kernel⟩, by decide +kernel, by decide +kernel, rfl, rfl, by decide +kernel, rfl⟩, by decide +kernel⟩
set_option maxRecDepth 100000 in
theorem zh_X11_leads : zmk0 zt_X11_leads ∧ zmok zT (zmY zt_X11_leads).cls (zmY zt_X11_leads).name (zmB zt_X11_leads) (zmC zt_X11_leads) = true := ⟨⟨rfl, Nat.le_of_ble_eq_true rfl, ⟨by decide +kernel, by decide +kernel⟩, by decide +kernel, by decide +kernel, rfl, rfl, by decide +kernel, rfl⟩, by decide +kernel⟩
set_option maxRecDepth 100000 in
theorem zh_X11_quiet : zmk0 zt_X11_quiet ∧ zmok zT (zmY zt_X11_quiet).cls (zmY zt_X11_quiet).name (zmB zt_X11_quiet) (zmC zt_X11_quiet) = true := ⟨⟨rfl, Nat.le_of_ble_eq_true rfl, ⟨by decide +kernel, by decide +kernel⟩, by decide +kernel, by decide +kernel, rfl, rfl, by decide +kernel, rfl⟩, by decide +kernel⟩
set_option maxRecDepth 100000 in
theorem zh_X11_hoursToNext : zmk0 zt_X11_hoursToNext ∧ zmok zT (zmY zt_X11_hoursToNext).cls (zmY zt_X11_hoursToNext).name (zmB zt_X11_hoursToNext) (zmC zt_X11_hoursToNext) = true := ⟨⟨rfl, Nat.le_of_ble_eq_true rfl, ⟨by decide +kernel, by decide +kernel⟩, by decide +kernel, by decide +kernel, rfl, rfl, by decide +kernel, rfl⟩, by decide +kernel⟩
set_option maxRecDepth 100000 in
theorem zh_X11_grow : zmk0 zt_X11_grow ∧ zmok zT (zmY zt_X11_grow).cls (zmY zt_X11_grow).name (zmB zt_X11_grow) (zmC zt_X11_grow) = true := ⟨⟨rfl, Nat.le_of_ble_eq_true rfl, ⟨by decide +kernel, by decide +kernel⟩, by decide +kernel, by decide +kernel, rfl, rfl, by decide +kernel, rfl⟩, by decide +kernel⟩
set_option maxRecDepth 100000 in
theorem zh_X11_growths : zmk0 zt_X11_growths ∧ zmok zT (zmY zt_X11_growths).cls (zmY zt_X11_growths).name (zmB zt_X11_growths) (zmC zt_X11_growths) = true := ⟨⟨rfl, Nat.le_of_ble_eq_true rfl, ⟨by decide +kernel, by decide +kernel⟩, by decide +kernel, by decide +kernel, rfl, rfl, by decide +kernel, rfl⟩, by decide +kernel⟩
set_option maxRecDepth 100000 in
theorem zh_X11_growthFits : zmk0 zt_X11_growthFits ∧ zmok zT (zmY zt_X11_growthFits).cls (zmY zt_X11_growthFits).name (zmB zt_X11_growthFits) (zmC zt_X11_growthFits) = true := ⟨⟨rfl, Nat.le_of_ble_eq_true rfl, ⟨by decide +kernel, by decide +kernel⟩, by decide +kernel, by decide +kernel, rfl, rfl, by decide +kernel, rfl⟩, by decide +kernel⟩
set_option maxRecDepth 100000 in
theorem zh_X11_grownLoss : zmk0 zt_X11_grownLoss ∧ zmok zT (zmY zt_X11_grownLoss).cls (zmY zt_X11_grownLoss).name (zmB zt_X11_grownLoss) (zmC zt_X11_grownLoss) = true := ⟨⟨rfl, Nat.le_of_ble_eq_true rfl, ⟨by decide +kernel, by decide +kernel⟩, by decide +kernel, by decide +kernel, rfl, rfl, by decide +kernel, rfl⟩, by decide +kernel⟩
set_option maxRecDepth 100000 in
theorem zh_X11_foretold : zmk0 zt_X11_foretold ∧ zmok zT (zmY zt_X11_foretold).cls (zmY zt_X11_foretold).name (zmB zt_X11_foretold) (zmC zt_X11_foretold) = true := ⟨⟨rfl, Nat.le_of_ble_eq_true rfl, ⟨by decide +kernel, by decide +kernel⟩, by decide +kernel, by decide +kernel, rfl, rfl, by decide +kernel, rfl⟩, by decide +kernel⟩
set_option maxRecDepth 100000 in
theorem zh_X11_grownTicks : zmk0 zt_X11_grownTicks ∧ zmok zT (zmY zt_X11_grownTicks).cls (zmY zt_X11_grownTicks).name (zmB zt_X11_grownTicks) (zmC zt_X11_grownTicks) = true := ⟨⟨rfl, Nat.le_of_ble_eq_true rfl, ⟨by decide +kernel, by decide +kernel⟩, by decide +kernel, by decide +kernel, rfl, rfl, by decide +kernel, rfl⟩, by decide +kernel⟩
set_option maxRecDepth 100000 in
theorem zh_X11_operator : zmk0 zt_X11_operator ∧ zmok zT (zmY zt_X11_operator).cls (zmY zt_X11_operator).name (zmB zt_X11_operator) (zmC zt_X11_operator) = true := ⟨⟨rfl, Nat.le_of_ble_eq_true rfl, ⟨by decide +kernel, by decide +kernel⟩, by decide +kernel, by decide +kernel, rfl, rfl, by decide +kernel, rfl⟩, by decide +kernel⟩
set_option maxRecDepth 100000 in
theorem zh_X11_crew : zmk0 zt_X11_crew ∧ zmok zT (zmY zt_X11_crew).cls (zmY zt_X11_crew).name (zmB zt_X11_crew) (zmC zt_X11_crew) = true := ⟨⟨rfl, Nat.le_of_ble_eq_true rfl, ⟨by decide +kernel, by decide +kernel⟩, by decide +kernel, by decide +kernel, rfl, rfl, by decide +kernel, rfl⟩, by decide +kernel⟩
set_option maxRecDepth 100000 in
theorem zh_X11_smallestCrew : zmk0 zt_X11_smallestCrew ∧ zmok zT (zmY zt_X11_smallestCrew).cls (zmY zt_X11_smallestCrew).name (zmB zt_X11_smallestCrew) (zmC zt_X11_smallestCrew) = true := ⟨⟨rfl, Nat.le_of_ble_eq_true rfl, ⟨by decide +kernel, by decide +kernel⟩, by decide +kernel, by decide +kernel, rfl, rfl, by decide +kernel, rfl⟩, by decide +kernel⟩
set_option maxRecDepth 100000 in
theorem zh_X11_onDuty : zmk0 zt_X11_onDuty ∧ zmok zT (zmY zt_X11_onDuty).cls (zmY zt_X11_onDuty).name (zmB zt_X11_onDuty) (zmC zt_X11_onDuty) = true := ⟨⟨rfl, Nat.le_of_ble_eq_true rfl, ⟨by decide +kernel, by decide +kernel⟩, by decide +kernel, by decide +kernel, rfl, rfl, by decide +kernel, rfl⟩, by decide +kernel⟩
set_option maxRecDepth 100000 in
theorem zh_X11_hasAllKeys : zmk0 zt_X11_hasAllKeys ∧ zmok zT (zmY zt_X11_hasAllKeys).cls (zmY zt_X11_hasAllKeys).name (zmB zt_X11_hasAllKeys) (zmC zt_X11_hasAllKeys) = true := ⟨⟨rfl, Nat.le_of_ble_eq_true rfl, ⟨by decide +kernel, by decide +kernel⟩, by decide +kernel, by decide +kernel, rfl, rfl, by decide +kernel, rfl⟩, by decide +kernel⟩
set_option maxRecDepth 100000 in
theorem zh_X11_bare : zmk0 zt_X11_bare ∧ zmok zT (zmY zt_X11_bare).cls (zmY zt_X11_bare).name (zmB zt_X11_bare) (zmC zt_X11_bare) = true := ⟨⟨rfl, Nat.le_of_ble_eq_true rfl, ⟨by decide +kernel, by decide +kernel⟩, by decide +kernel, by decide +kernel, rfl, rfl, by decide +kernel, rfl⟩, by decide +kernel⟩
set_option maxRecDepth 100000 in
theorem zh_X11_lift : zmk0 zt_X11_lift ∧ zmok zT (zmY zt_X11_lift).cls (zmY zt_X11_lift).name (zmB zt_X11_lift) (zmC zt_X11_lift) = true := ⟨⟨rfl, Nat.le_of_ble_eq_true rfl, ⟨by decide +kernel, by decide +kernel⟩, by decide +kernel, by decide +kernel, rfl, rfl, by decide +kernel, rfl⟩, by decide +kernel⟩
set_option maxRecDepth 100000 in
theorem zh_X11_slips : zmk0 zt_X11_slips ∧ zmok zT (zmY zt_X11_slips).cls (zmY zt_X11_slips).name (zmB zt_X11_slips) (zmC zt_X11_slips) = true := ⟨⟨rfl, Nat.le_of_ble_eq_true rfl, ⟨by decide +kernel, by decide +kernel⟩, by decide +kernel, by decide +kernel, rfl, rfl, by decide +kernel, rfl⟩, by decide +kernel⟩
set_option maxRecDepth 100000 in
theorem zh_X11_stretched : zmk0 zt_X11_stretched ∧ zmok zT (zmY zt_X11_stretched).cls (zmY zt_X11_stretched).name (zmB zt_X11_stretched) (zmC zt_X11_stretched) = true := ⟨⟨rfl, Nat.le_of_ble_eq_true rfl, ⟨by decide +kernel, by decide +kernel⟩, by decide +kernel, by decide +kernel, rfl, rfl, by decide +kernel, rfl⟩, by decide +kernel⟩
set_option maxRecDepth 100000 in
theorem zh_X11_riders : zmk0 zt_X11_riders ∧ zmok zT (zmY zt_X11_riders).cls (zmY zt_X11_riders).name (zmB zt_X11_riders) (zmC zt_X11_riders) = true := ⟨⟨rfl, Nat.le_of_ble_eq_true rfl, ⟨by decide +kernel, by decide +kernel⟩, by decide +kernel, by decide +kernel, rfl, rfl, by decide +kernel, rfl⟩, by decide +kernel⟩
set_option maxRecDepth 100000 in
theorem zh_X11_store : zmk0 zt_X11_store ∧ zmok zT (zmY zt_X11_store).cls (zmY zt_X11_store).name (zmB zt_X11_store) (zmC zt_X11_store) = true := ⟨⟨rfl, Nat.le_of_ble_eq_true rfl, ⟨by decide +kernel, by decide +kernel⟩, by decide +kernel, by decide +kernel, rfl, rfl, by decide +kernel, rfl⟩, by decide +kernel⟩
set_option maxRecDepth 100000 in
theorem zh_X11_write : zmk0 zt_X11_write ∧ zmok zT (zmY zt_X11_write).cls (zmY zt_X11_write).name (zmB zt_X11_write) (zmC zt_X11_write) = true := ⟨⟨rfl, Nat.le_of_ble_eq_true rfl, ⟨by decide +kernel, by decide +kernel⟩, by decide +kernel, by decide +kernel, rfl, rfl, by decide +kernel, rfl⟩, by decide +kernel⟩
set_option maxRecDepth 100000 in
theorem zh_X11_storm : zmk0 zt_X11_storm ∧ zmok zT (zmY zt_X11_storm).cls (zmY zt_X11_storm).name (zmB zt_X11_storm) (zmC zt_X11_storm) = true := ⟨⟨rfl, Nat.le_of_ble_eq_true rfl, ⟨by decide +kernel, by decide +kernel⟩, by decide +kernel, by decide +kernel, rfl, rfl, by decide +kernel, rfl⟩, by decide +kernel⟩
set_option maxRecDepth 100000 in
theorem zh_X11_keep : zmk0 zt_X11_keep ∧ zmok zT (zmY zt_X11_keep).cls (zmY zt_X11_keep).name (zmB zt_X11_keep) (zmC zt_X11_keep) = true := ⟨⟨rfl, Nat.le_of_ble_eq_true rfl, ⟨by decide +kernel, by decide +kernel⟩, by decide +kernel, by decide +kernel, rfl, rfl, by decide +kernel, rfl⟩, by decide +kernel⟩
set_option maxRecDepth 100000 in
theorem zh_X11_image : zmk0 zt_X11_image ∧ zmok zT (zmY zt_X11_image).cls (zmY zt_X11_image).name (zmB zt_X11_image) (zmC zt_X11_image) = true := ⟨⟨rfl, Nat.le_of_ble_eq_true rfl, ⟨by decide +kernel, by decide +kernel⟩, by decide +kernel, by decide +kernel, rfl, rfl, by decide +kernel, rfl⟩, by decide +kernel⟩
set_option maxRecDepth 100000 in
theorem zh_X11_restore : zmk0 zt_X11_restore ∧ zmok zT (zmY zt_X11_restore).cls (zmY zt_X11_restore).name (zmB zt_X11_restore) (zmC zt_X11_restore) = true := ⟨⟨rfl, Nat.le_of_ble_eq_true rfl, ⟨by decide +kernel, by decide +kernel⟩, by decide +kernel, by decide +kernel, rfl, rfl, by decide +kernel, rfl⟩, by decide +kernel⟩
set_option maxRecDepth 100000 in
theorem zh_X11_count : zmk0 zt_X11_count ∧ zmok zT (zmY zt_X11_count).cls (zmY zt_X11_count).name (zmB zt_X11_count) (zmC zt_X11_count) = true := ⟨⟨rfl, Nat.le_of_ble_eq_true rfl, ⟨by decide +kernel, by decide +kernel⟩, by decide +kernel, by decide +kernel, rfl, rfl, by decide +kernel, rfl⟩, by decide +kernel⟩
set_option maxRecDepth 100000 in
theorem zh_X11_noTrack : zmk0 zt_X11_noTrack ∧ zmok zT (zmY zt_X11_noTrack).cls (zmY zt_X11_noTrack).name (zmB zt_X11_noTrack) (zmC zt_X11_noTrack) = true := ⟨⟨rfl, Nat.le_of_ble_eq_true rfl, ⟨by decide +kernel, by decide +kernel⟩, by decide +kernel, by decide +kernel, rfl, rfl, by decide +kernel, rfl⟩, by decide +kernel⟩
set_option maxRecDepth 100000 in
theorem zh_X11_refusal : zmk0 zt_X11_refusal ∧ zmok zT (zmY zt_X11_refusal).cls (zmY zt_X11_refusal).name (zmB zt_X11_refusal) (zmC zt_X11_refusal) = true := ⟨⟨rfl, Nat.le_of_ble_eq_true rfl, ⟨by decide +kernel, by decide +kernel⟩, by decide +kernel, by decide +kernel, rfl, rfl, by decide +kernel, rfl⟩, by decide +kernel⟩
set_option maxRecDepth 100000 in
theorem zh_X11_noSuchPoint : zmk0 zt_X11_noSuchPoint ∧ zmok zT (zmY zt_X11_noSuchPoint).cls (zmY zt_X11_noSuchPoint).name (zmB zt_X11_noSuchPoint) (zmC zt_X11_noSuchPoint) = true := ⟨⟨rfl, Nat.le_of_ble_eq_true rfl, ⟨by decide +kernel, by decide +kernel⟩, by decide +kernel, by decide +kernel, rfl, rfl, by decide +kernel, rfl⟩, by decide +kernel⟩
set_option maxRecDepth 100000 in
theorem zh_X11_noSuchBlock : zmk0 zt_X11_noSuchBlock ∧ zmok zT (zmY zt_X11_noSuchBlock).cls (zmY zt_X11_noSuchBlock).name (zmB zt_X11_noSuchBlock) (zmC zt_X11_noSuchBlock) = true := ⟨⟨rfl, Nat.le_of_ble_eq_true rfl, ⟨by decide +kernel, by decide +kernel⟩, by decide +kernel, by decide +kernel, rfl, rfl, by decide +kernel, rfl⟩, by decide +kernel⟩
set_option maxRecDepth 100000 in
theorem zh_X11_badBlockBits : zmk0 zt_X11_badBlockBits ∧ zmok zT (zmY zt_X11_badBlockBits).cls (zmY zt_X11_badBlockBits).name (zmB zt_X11_badBlockBits) (zmC zt_X11_badBlockBits) = true := ⟨⟨rfl, Nat.le_of_ble_eq_true rfl, ⟨by decide +kernel, by decide +kernel⟩, by decide +kernel, by decide +kernel, rfl, rfl, by decide +kernel, rfl⟩, by decide +kernel⟩
set_option maxRecDepth 100000 in
theorem zh_X11_noSuchChain : zmk0 zt_X11_noSuchChain ∧ zmok zT (zmY zt_X11_noSuchChain).cls (zmY zt_X11_noSuchChain).name (zmB zt_X11_noSuchChain) (zmC zt_X11_noSuchChain) = true := ⟨⟨rfl, Nat.le_of_ble_eq_true rfl, ⟨by decide +kernel, by decide +kernel⟩, by decide +kernel, by decide +kernel, rfl, rfl, by decide +kernel, rfl⟩, by decide +kernel⟩
set_option maxRecDepth 100000 in
theorem zh_X11_noSuchRow : zmk0 zt_X11_noSuchRow ∧ zmok zT (zmY zt_X11_noSuchRow).cls (zmY zt_X11_noSuchRow).name (zmB zt_X11_noSuchRow) (zmC zt_X11_noSuchRow) = true := ⟨⟨rfl, Nat.le_of_ble_eq_true rfl, ⟨by decide +kernel, by decide +kernel⟩, by decide +kernel, by decide +kernel, rfl, rfl, by decide +kernel, rfl⟩, by decide +kernel⟩
set_option maxRecDepth 100000 in
theorem zh_X11_outside : zmk0 zt_X11_outside ∧ zmok zT (zmY zt_X11_outside).cls (zmY zt_X11_outside).name (zmB zt_X11_outside) (zmC zt_X11_outside) = true := ⟨⟨rfl, Nat.le_of_ble_eq_true rfl, ⟨by decide +kernel, by decide +kernel⟩, by decide +kernel, by decide +kernel, rfl, rfl, by decide +kernel, rfl⟩, by decide +kernel⟩
set_option maxRecDepth 100000 in
theorem zh_X11_badWeight : zmk0 zt_X11_badWeight ∧ zmok zT (zmY zt_X11_badWeight).cls (zmY zt_X11_badWeight).name (zmB zt_X11_badWeight) (zmC zt_X11_badWeight) = true := ⟨⟨rfl, Nat.le_of_ble_eq_true rfl, ⟨by decide +kernel, by decide +kernel⟩, by decide +kernel, by decide +kernel, rfl, rfl, by decide +kernel, rfl⟩, by decide +kernel⟩
set_option maxRecDepth 100000 in
theorem zh_X11_badSeat : zmk0 zt_X11_badSeat ∧ zmok zT (zmY zt_X11_badSeat).cls (zmY zt_X11_badSeat).name (zmB zt_X11_badSeat) (zmC zt_X11_badSeat) = true := ⟨⟨rfl, Nat.le_of_ble_eq_true rfl, ⟨by decide +kernel, by decide +kernel⟩, by decide +kernel, by decide +kernel, rfl, rfl, by decide +kernel, rfl⟩, by decide +kernel⟩
set_option maxRecDepth 100000 in
theorem zh_X11_badSeats : zmk0 zt_X11_badSeats ∧ zmok zT (zmY zt_X11_badSeats).cls (zmY zt_X11_badSeats).name (zmB zt_X11_badSeats) (zmC zt_X11_badSeats) = true := ⟨⟨rfl, Nat.le_of_ble_eq_true rfl, ⟨by decide +kernel, by decide +kernel⟩, by decide +kernel, by decide +kernel, rfl, rfl, by decide +kernel, rfl⟩, by decide +kernel⟩
set_option maxRecDepth 100000 in
theorem zh_X11_badTrainCount : zmk0 zt_X11_badTrainCount ∧ zmok zT (zmY zt_X11_badTrainCount).cls (zmY zt_X11_badTrainCount).name (zmB zt_X11_badTrainCount) (zmC zt_X11_badTrainCount) = true := ⟨⟨rfl, Nat.le_of_ble_eq_true rfl, ⟨by decide +kernel, by decide +kernel⟩, by decide +kernel, by decide +kernel, rfl, rfl, by decide +kernel, rfl⟩, by decide +kernel⟩
set_option maxRecDepth 100000 in
theorem zh_X11_badBeat : zmk0 zt_X11_badBeat ∧ zmok zT (zmY zt_X11_badBeat).cls (zmY zt_X11_badBeat).name (zmB zt_X11_badBeat) (zmC zt_X11_badBeat) = true := ⟨⟨rfl, Nat.le_of_ble_eq_true rfl, ⟨by decide +kernel, by decide +kernel⟩, by decide +kernel, by decide +kernel, rfl, rfl, by decide +kernel, rfl⟩, by decide +kernel⟩
set_option maxRecDepth 100000 in
theorem zh_X11_badLoggedTrain : zmk0 zt_X11_badLoggedTrain ∧ zmok zT (zmY zt_X11_badLoggedTrain).cls (zmY zt_X11_badLoggedTrain).name (zmB zt_X11_badLoggedTrain) (zmC zt_X11_badLoggedTrain) = true := ⟨⟨rfl, Nat.le_of_ble_eq_true rfl, ⟨by decide +kernel, by decide +kernel⟩, by decide +kernel, by decide +kernel, rfl, rfl, by decide +kernel, rfl⟩, by decide +kernel⟩
set_option maxRecDepth 100000 in
theorem zh_X11_badTicks : zmk0 zt_X11_badTicks ∧ zmok zT (zmY zt_X11_badTicks).cls (zmY zt_X11_badTicks).name (zmB zt_X11_badTicks) (zmC zt_X11_badTicks) = true := ⟨⟨rfl, Nat.le_of_ble_eq_true rfl, ⟨by decide +kernel, by decide +kernel⟩, by decide +kernel, by decide +kernel, rfl, rfl, by decide +kernel, rfl⟩, by decide +kernel⟩
set_option maxRecDepth 100000 in
theorem zh_X11_badHeight : zmk0 zt_X11_badHeight ∧ zmok zT (zmY zt_X11_badHeight).cls (zmY zt_X11_badHeight).name (zmB zt_X11_badHeight) (zmC zt_X11_badHeight) = true := ⟨⟨rfl, Nat.le_of_ble_eq_true rfl, ⟨by decide +kernel, by decide +kernel⟩, by decide +kernel, by decide +kernel, rfl, rfl, by decide +kernel, rfl⟩, by decide +kernel⟩
set_option maxRecDepth 100000 in
theorem zh_X11_badHour : zmk0 zt_X11_badHour ∧ zmok zT (zmY zt_X11_badHour).cls (zmY zt_X11_badHour).name (zmB zt_X11_badHour) (zmC zt_X11_badHour) = true := ⟨⟨rfl, Nat.le_of_ble_eq_true rfl, ⟨by decide +kernel, by decide +kernel⟩, by decide +kernel, by decide +kernel, rfl, rfl, by decide +kernel, rfl⟩, by decide +kernel⟩
set_option maxRecDepth 100000 in
theorem zh_X11_badDayHours : zmk0 zt_X11_badDayHours ∧ zmok zT (zmY zt_X11_badDayHours).cls (zmY zt_X11_badDayHours).name (zmB zt_X11_badDayHours) (zmC zt_X11_badDayHours) = true := ⟨⟨rfl, Nat.le_of_ble_eq_true rfl, ⟨by decide +kernel, by decide +kernel⟩, by decide +kernel, by decide +kernel, rfl, rfl, by decide +kernel, rfl⟩, by decide +kernel⟩
set_option maxRecDepth 100000 in
theorem zh_X11_lossIn : zmk0 zt_X11_lossIn ∧ zmok zT (zmY zt_X11_lossIn).cls (zmY zt_X11_lossIn).name (zmB zt_X11_lossIn) (zmC zt_X11_lossIn) = true := ⟨⟨rfl, Nat.le_of_ble_eq_true rfl, ⟨by decide +kernel, by decide +kernel⟩, by decide +kernel, by decide +kernel, rfl, rfl, by decide +kernel, rfl⟩, by decide +kernel⟩
set_option maxRecDepth 100000 in
theorem zh_X11_lossBy : zmk0 zt_X11_lossBy ∧ zmok zT (zmY zt_X11_lossBy).cls (zmY zt_X11_lossBy).name (zmB zt_X11_lossBy) (zmC zt_X11_lossBy) = true := ⟨⟨rfl, Nat.le_of_ble_eq_true rfl, ⟨by decide +kernel, by decide +kernel⟩, by decide +kernel, by decide +kernel, rfl, rfl, by decide +kernel, rfl⟩, by decide +kernel⟩
set_option maxRecDepth 100000 in
theorem zh_X11_passBy : zmk0 zt_X11_passBy ∧ zmok zT (zmY zt_X11_passBy).cls (zmY zt_X11_passBy).name (zmB zt_X11_passBy) (zmC zt_X11_passBy) = true := ⟨⟨rfl, Nat.le_of_ble_eq_true rfl, ⟨by decide +kernel, by decide +kernel⟩, by decide +kernel, by decide +kernel, rfl, rfl, by decide +kernel, rfl⟩, by decide +kernel⟩
set_option maxRecDepth 100000 in
theorem zh_X11_isOut : zmk0 zt_X11_isOut ∧ zmok zT (zmY zt_X11_isOut).cls (zmY zt_X11_isOut).name (zmB zt_X11_isOut) (zmC zt_X11_isOut) = true := ⟨⟨rfl, Nat.le_of_ble_eq_true rfl, ⟨by decide +kernel, by decide +kernel⟩, by decide +kernel, by decide +kernel, rfl, rfl, by decide +kernel, rfl⟩, by decide +kernel⟩
set_option maxRecDepth 100000 in
theorem zh_X12_within : zmk0 zt_X12_within ∧ zmok zT (zmY zt_X12_within).cls (zmY zt_X12_within).name (zmB zt_X12_within) (zmC zt_X12_within) = true := ⟨⟨rfl, Nat.le_of_ble_eq_true rfl, ⟨by decide +kernel, by decide +kernel⟩, by decide +kernel, by decide +kernel, rfl, rfl, by decide +kernel, rfl⟩, by decide +kernel⟩
set_option maxRecDepth 100000 in
theorem zh_X12_init : zmk0 zt_X12_init ∧ zmok zT (zmY zt_X12_init).cls (zmY zt_X12_init).name (zmB zt_X12_init) (zmC zt_X12_init) = true := ⟨⟨rfl, Nat.le_of_ble_eq_true rfl, ⟨by decide +kernel, by decide +kernel⟩, by decide +kernel, by decide +kernel, rfl, rfl, by decide +kernel, rfl⟩, by decide +kernel⟩
set_option maxRecDepth 100000 in
theorem zh_X12_isTrack : zmk0 zt_X12_isTrack ∧ zmok zT (zmY zt_X12_isTrack).cls (zmY zt_X12_isTrack).name (zmB zt_X12_isTrack) (zmC zt_X12_isTrack) = true := ⟨⟨rfl, Nat.le_of_ble_eq_true rfl, ⟨by decide +kernel, by decide +kernel⟩, by decide +kernel, by decide +kernel, rfl, rfl, by decide +kernel, rfl⟩, by decide +kernel⟩
set_option maxRecDepth 100000 in
theorem zh_X12_blocks : zmk0 zt_X12_blocks ∧ zmok zT (zmY zt_X12_blocks).cls (zmY zt_X12_blocks).name (zmB zt_X12_blocks) (zmC zt_X12_blocks) = true := ⟨⟨rfl, Nat.le_of_ble_eq_true rfl, ⟨by decide +kernel, by decide +kernel⟩, by decide +kernel, by decide +kernel, rfl, rfl, by decide +kernel, rfl⟩, by decide +kernel⟩
set_option maxRecDepth 100000 in
theorem zh_X12_startOf : zmk0 zt_X12_startOf ∧ zmok zT (zmY zt_X12_startOf).cls (zmY zt_X12_startOf).name (zmB zt_X12_startOf) (zmC zt_X12_startOf) = true := ⟨⟨rfl, Nat.le_of_ble_eq_true rfl, ⟨by decide +kernel, by decide +kernel⟩, by decide +kernel, by decide +kernel, rfl, rfl, by decide +kernel, rfl⟩, by decide +kernel⟩
set_option maxRecDepth 100000 in
theorem zh_X12_endOf : zmk0 zt_X12_endOf ∧ zmok zT (zmY zt_X12_endOf).cls (zmY zt_X12_endOf).name (zmB zt_X12_endOf) (zmC zt_X12_endOf) = true := ⟨⟨rfl, Nat.le_of_ble_eq_true rfl, ⟨by decide +kernel, by decide +kernel⟩, by decide +kernel, by decide +kernel, rfl, rfl, by decide +kernel, rfl⟩, by decide +kernel⟩
set_option maxRecDepth 100000 in
theorem zh_X12_feed : zmk0 zt_X12_feed ∧ zmok zT (zmY zt_X12_feed).cls (zmY zt_X12_feed).name (zmB zt_X12_feed) (zmC zt_X12_feed) = true := ⟨⟨rfl, Nat.le_of_ble_eq_true rfl, ⟨by decide +kernel, by decide +kernel⟩, by decide +kernel, by decide +kernel, rfl, rfl, by decide +kernel, rfl⟩, by decide +kernel⟩
set_option maxRecDepth 100000 in
theorem zh_X12_see : zmk0 zt_X12_see ∧ zmok zT (zmY zt_X12_see).cls (zmY zt_X12_see).name (zmB zt_X12_see) (zmC zt_X12_see) = true := ⟨⟨rfl, Nat.le_of_ble_eq_true rfl, ⟨by decide +kernel, by decide +kernel⟩, by decide +kernel, by decide +kernel, rfl, rfl, by decide +kernel, rfl⟩, by decide +kernel⟩
set_option maxRecDepth 100000 in
theorem zh_X12_isSmall : zmk0 zt_X12_isSmall ∧ zmok zT (zmY zt_X12_isSmall).cls (zmY zt_X12_isSmall).name (zmB zt_X12_isSmall) (zmC zt_X12_isSmall) = true := ⟨⟨rfl, Nat.le_of_ble_eq_true rfl, ⟨by decide +kernel, by decide +kernel⟩, by decide +kernel, by decide +kernel, rfl, rfl, by decide +kernel, rfl⟩, by decide +kernel⟩
set_option maxRecDepth 100000 in
theorem zh_X12_isDigit : zmk0 zt_X12_isDigit ∧ zmok zT (zmY zt_X12_isDigit).cls (zmY zt_X12_isDigit).name (zmB zt_X12_isDigit) (zmC zt_X12_isDigit) = true := ⟨⟨rfl, Nat.le_of_ble_eq_true rfl, ⟨by decide +kernel, by decide +kernel⟩, by decide +kernel, by decide +kernel, rfl, rfl, by decide +kernel, rfl⟩, by decide +kernel⟩
set_option maxRecDepth 100000 in
theorem zh_X12_keyAt : zmk0 zt_X12_keyAt ∧ zmok zT (zmY zt_X12_keyAt).cls (zmY zt_X12_keyAt).name (zmB zt_X12_keyAt) (zmC zt_X12_keyAt) = true := ⟨⟨rfl, Nat.le_of_ble_eq_true rfl, ⟨by decide +kernel, by decide +kernel⟩, by decide +kernel, by decide +kernel, rfl, rfl, by decide +kernel, rfl⟩, by decide +kernel⟩
set_option maxRecDepth 100000 in
theorem zh_X12_next : zmk0 zt_X12_next ∧ zmok zT (zmY zt_X12_next).cls (zmY zt_X12_next).name (zmB zt_X12_next) (zmC zt_X12_next) = true := ⟨⟨rfl, Nat.le_of_ble_eq_true rfl, ⟨by decide +kernel, by decide +kernel⟩, by decide +kernel, by decide +kernel, rfl, rfl, by decide +kernel, rfl⟩, by decide +kernel⟩
set_option maxRecDepth 100000 in
theorem zh_X12_fails : zmk0 zt_X12_fails ∧ zmok zT (zmY zt_X12_fails).cls (zmY zt_X12_fails).name (zmB zt_X12_fails) (zmC zt_X12_fails) = true := ⟨⟨rfl, Nat.le_of_ble_eq_true rfl, ⟨by decide +kernel, by decide +kernel⟩, by decide +kernel, by decide +kernel, rfl, rfl, by decide +kernel, rfl⟩, by decide +kernel⟩
set_option maxRecDepth 100000 in
theorem zh_X12_is : zmk0 zt_X12_is ∧ zmok zT (zmY zt_X12_is).cls (zmY zt_X12_is).name (zmB zt_X12_is) (zmC zt_X12_is) = true := ⟨⟨rfl, Nat.le_of_ble_eq_true rfl, ⟨by decide +kernel, by decide +kernel⟩, by decide +kernel, by decide +kernel, rfl, rfl, by decide +kernel, rfl⟩, by decide +kernel⟩
set_option maxRecDepth 100000 in
theorem zh_X12_eats : zmk0 zt_X12_eats ∧ zmok zT (zmY zt_X12_eats).cls (zmY zt_X12_eats).name (zmB zt_X12_eats) (zmC zt_X12_eats) = true := ⟨⟨rfl, Nat.le_of_ble_eq_true rfl, ⟨by decide +kernel, by decide +kernel⟩, by decide +kernel, by decide +kernel, rfl, rfl, by decide +kernel, rfl⟩, by decide +kernel⟩
set_option maxRecDepth 100000 in
theorem zh_X12_needs : zmk0 zt_X12_needs ∧ zmok zT (zmY zt_X12_needs).cls (zmY zt_X12_needs).name (zmB zt_X12_needs) (zmC zt_X12_needs) = true := ⟨⟨rfl, Nat.le_of_ble_eq_true rfl, ⟨by decide +kernel, by decide +kernel⟩, by decide +kernel, by decide +kernel, rfl, rfl, by decide +kernel, rfl⟩, by decide +kernel⟩
set_option maxRecDepth 100000 in
theorem zh_X12_reads : zmk0 zt_X12_reads ∧ zmok zT (zmY zt_X12_reads).cls (zmY zt_X12_reads).name (zmB zt_X12_reads) (zmC zt_X12_reads) = true := ⟨⟨rfl, Nat.le_of_ble_eq_true rfl, ⟨by decide +kernel, by decide +kernel⟩, by decide +kernel, by decide +kernel, rfl, rfl, by decide +kernel, rfl⟩, by decide +kernel⟩
set_option maxRecDepth 100000 in
theorem zh_X12_readHigh : zmk0 zt_X12_readHigh ∧ zmok zT (zmY zt_X12_readHigh).cls (zmY zt_X12_readHigh).name (zmB zt_X12_readHigh) (zmC zt_X12_readHigh) = true := ⟨⟨rfl, Nat.le_of_ble_eq_true rfl, ⟨by decide +kernel, by decide +kernel⟩, by decide +kernel, by decide +kernel, rfl, rfl, by decide +kernel, rfl⟩, by decide +kernel⟩
set_option maxRecDepth 100000 in
theorem zh_X12_readMark : zmk0 zt_X12_readMark ∧ zmok zT (zmY zt_X12_readMark).cls (zmY zt_X12_readMark).name (zmB zt_X12_readMark) (zmC zt_X12_readMark) = true := ⟨⟨rfl, Nat.le_of_ble_eq_true rfl, ⟨by decide +kernel, by decide +kernel⟩, by decide +kernel, by decide +kernel, rfl, rfl, by decide +kernel, rfl⟩, by decide +kernel⟩
set_option maxRecDepth 100000 in
theorem zh_X12_readSpan : zmk0 zt_X12_readSpan ∧ zmok zT (zmY zt_X12_readSpan).cls (zmY zt_X12_readSpan).name (zmB zt_X12_readSpan) (zmC zt_X12_readSpan) = true := ⟨⟨rfl, Nat.le_of_ble_eq_true rfl, ⟨by decide +kernel, by decide +kernel⟩, by decide +kernel, by decide +kernel, rfl, rfl, by decide +kernel, rfl⟩, by decide +kernel⟩
set_option maxRecDepth 100000 in
theorem zh_X12_readChain : zmk0 zt_X12_readChain ∧ zmok zT (zmY zt_X12_readChain).cls (zmY zt_X12_readChain).name (zmB zt_X12_readChain) (zmC zt_X12_readChain) = true := ⟨⟨rfl, Nat.le_of_ble_eq_true rfl, ⟨by decide +kernel, by decide +kernel⟩, by decide +kernel, by decide +kernel, rfl, rfl, by decide +kernel, rfl⟩, by decide +kernel⟩
set_option maxRecDepth 100000 in
theorem zh_X12_readDrag : zmk0 zt_X12_readDrag ∧ zmok zT (zmY zt_X12_readDrag).cls (zmY zt_X12_readDrag).name (zmB zt_X12_readDrag) (zmC zt_X12_readDrag) = true := ⟨⟨rfl, Nat.le_of_ble_eq_true rfl, ⟨by decide +kernel, by decide +kernel⟩, by decide +kernel, by decide +kernel, rfl, rfl, by decide +kernel, rfl⟩, by decide +kernel⟩
set_option maxRecDepth 100000 in
theorem zh_X12_readPush : zmk0 zt_X12_readPush ∧ zmok zT (zmY zt_X12_readPush).cls (zmY zt_X12_readPush).name (zmB zt_X12_readPush) (zmC zt_X12_readPush) = true := ⟨⟨rfl, Nat.le_of_ble_eq_true rfl, ⟨by decide +kernel, by decide +kernel⟩, by decide +kernel, by decide +kernel, rfl, rfl, by decide +kernel, rfl⟩, by decide +kernel⟩
set_option maxRecDepth 100000 in
theorem zh_X12_readTrackLine : zmk0 zt_X12_readTrackLine ∧ zmok zT (zmY zt_X12_readTrackLine).cls (zmY zt_X12_readTrackLine).name (zmB zt_X12_readTrackLine) (zmC zt_X12_readTrackLine) = true := ⟨⟨rfl, Nat.le_of_ble_eq_true rfl, ⟨by decide +kernel, by decide +kernel⟩, by decide +kernel, by decide +kernel, rfl, rfl, by decide +kernel, rfl⟩, by decide +kernel⟩
set_option maxRecDepth 100000 in
theorem zh_X12_emit : zmk0 zt_X12_emit ∧ zmok zT (zmY zt_X12_emit).cls (zmY zt_X12_emit).name (zmB zt_X12_emit) (zmC zt_X12_emit) = true := ⟨⟨rfl, Nat.le_of_ble_eq_true rfl, ⟨by decide +kernel, by decide +kernel⟩, by decide +kernel, by decide +kernel, rfl, rfl, by decide +kernel, rfl⟩, by decide +kernel⟩
set_option maxRecDepth 100000 in
theorem zh_X12_readTest : zmk0 zt_X12_readTest ∧ zmok zT (zmY zt_X12_readTest).cls (zmY zt_X12_readTest).name (zmB zt_X12_readTest) (zmC zt_X12_readTest) = true := ⟨⟨rfl, Nat.le_of_ble_eq_true rfl, ⟨by decide +kernel, by decide +kernel⟩, by decide +kernel, by decide +kernel, rfl, rfl, by decide +kernel, rfl⟩, by decide +kernel⟩
set_option maxRecDepth 100000 in
theorem zh_X12_readPart : zmk0 zt_X12_readPart ∧ zmok zT (zmY zt_X12_readPart).cls (zmY zt_X12_readPart).name (zmB zt_X12_readPart) (zmC zt_X12_readPart) = true := ⟨⟨rfl, Nat.le_of_ble_eq_true rfl, ⟨by decide +kernel, by decide +kernel⟩, by decide +kernel, by decide +kernel, rfl, rfl, by decide +kernel, rfl⟩, by decide +kernel⟩
set_option maxRecDepth 100000 in
theorem zh_X12_readFact : zmk0 zt_X12_readFact ∧ zmok zT (zmY zt_X12_readFact).cls (zmY zt_X12_readFact).name (zmB zt_X12_readFact) (zmC zt_X12_readFact) = true := ⟨⟨rfl, Nat.le_of_ble_eq_true rfl, ⟨by decide +kernel, by decide +kernel⟩, by decide +kernel, by decide +kernel, rfl, rfl, by decide +kernel, rfl⟩, by decide +kernel⟩
set_option maxRecDepth 100000 in
theorem zh_X12_readRule : zmk0 zt_X12_readRule ∧ zmok zT (zmY zt_X12_readRule).cls (zmY zt_X12_readRule).name (zmB zt_X12_readRule) (zmC zt_X12_readRule) = true := ⟨⟨rfl, Nat.le_of_ble_eq_true rfl, ⟨by decide +kernel, by decide +kernel⟩, by decide +kernel, by decide +kernel, rfl, rfl, by decide +kernel, rfl⟩, by decide +kernel⟩
set_option maxRecDepth 100000 in
theorem zh_X12_text : zmk0 zt_X12_text ∧ zmok zT (zmY zt_X12_text).cls (zmY zt_X12_text).name (zmB zt_X12_text) (zmC zt_X12_text) = true := ⟨⟨rfl, Nat.le_of_ble_eq_true rfl, ⟨by decide +kernel, by decide +kernel⟩, by decide +kernel, by decide +kernel, rfl, rfl, by decide +kernel, rfl⟩, by decide +kernel⟩
set_option maxRecDepth 100000 in
theorem zh_X12_fault : zmk0 zt_X12_fault ∧ zmok zT (zmY zt_X12_fault).cls (zmY zt_X12_fault).name (zmB zt_X12_fault) (zmC zt_X12_fault) = true := ⟨⟨rfl, Nat.le_of_ble_eq_true rfl, ⟨by decide +kernel, by decide +kernel⟩, by decide +kernel, by decide +kernel, rfl, rfl, by decide +kernel, rfl⟩, by decide +kernel⟩
set_option maxRecDepth 100000 in
theorem zh_X12_chainOf : zmk0 zt_X12_chainOf ∧ zmok zT (zmY zt_X12_chainOf).cls (zmY zt_X12_chainOf).name (zmB zt_X12_chainOf) (zmC zt_X12_chainOf) = true := ⟨⟨rfl, Nat.le_of_ble_eq_true rfl, ⟨by decide +kernel, by decide +kernel⟩, by decide +kernel, by decide +kernel, rfl, rfl, by decide +kernel, rfl⟩, by decide +kernel⟩
set_option maxRecDepth 100000 in
theorem zh_X12_pullOf : zmk0 zt_X12_pullOf ∧ zmok zT (zmY zt_X12_pullOf).cls (zmY zt_X12_pullOf).name (zmB zt_X12_pullOf) (zmC zt_X12_pullOf) = true := ⟨⟨rfl, Nat.le_of_ble_eq_true rfl, ⟨by decide +kernel, by decide +kernel⟩, by decide +kernel, by decide +kernel, rfl, rfl, by decide +kernel, rfl⟩, by decide +kernel⟩
set_option maxRecDepth 100000 in
theorem zh_X12_isDogged : zmk0 zt_X12_isDogged ∧ zmok zT (zmY zt_X12_isDogged).cls (zmY zt_X12_isDogged).name (zmB zt_X12_isDogged) (zmC zt_X12_isDogged) = true := ⟨⟨rfl, Nat.le_of_ble_eq_true rfl, ⟨by decide +kernel, by decide +kernel⟩, by decide +kernel, by decide +kernel, rfl, rfl, by decide +kernel, rfl⟩, by decide +kernel⟩
set_option maxRecDepth 100000 in
theorem zh_X12_comes : zmk0 zt_X12_comes ∧ zmok zT (zmY zt_X12_comes).cls (zmY zt_X12_comes).name (zmB zt_X12_comes) (zmC zt_X12_comes) = true := ⟨⟨rfl, Nat.le_of_ble_eq_true rfl, ⟨by decide +kernel, by decide +kernel⟩, by decide +kernel, by decide +kernel, rfl, rfl, by decide +kernel, rfl⟩, by decide +kernel⟩
set_option maxRecDepth 100000 in
theorem zh_X12_speedAt : zmk0 zt_X12_speedAt ∧ zmok zT (zmY zt_X12_speedAt).cls (zmY zt_X12_speedAt).name (zmB zt_X12_speedAt) (zmC zt_X12_speedAt) = true := ⟨⟨rfl, Nat.le_of_ble_eq_true rfl, ⟨by decide +kernel, by decide +kernel⟩, by decide +kernel, by decide +kernel, rfl, rfl, by decide +kernel, rfl⟩, by decide +kernel⟩
set_option maxRecDepth 100000 in
theorem zh_X12_runs : zmk0 zt_X12_runs ∧ zmok zT (zmY zt_X12_runs).cls (zmY zt_X12_runs).name (zmB zt_X12_runs) (zmC zt_X12_runs) = true := ⟨⟨rfl, Nat.le_of_ble_eq_true rfl, ⟨by decide +kernel, by decide +kernel⟩, by decide +kernel, by decide +kernel, rfl, rfl, by decide +kernel, rfl⟩, by decide +kernel⟩
set_option maxRecDepth 100000 in
theorem zh_X12_runsFrom : zmk0 zt_X12_runsFrom ∧ zmok zT (zmY zt_X12_runsFrom).cls (zmY zt_X12_runsFrom).name (zmB zt_X12_runsFrom) (zmC zt_X12_runsFrom) = true := ⟨⟨rfl, Nat.le_of_ble_eq_true rfl, ⟨by decide +kernel, by decide +kernel⟩, by decide +kernel, by decide +kernel, rfl, rfl, by decide +kernel, rfl⟩, by decide +kernel⟩
set_option maxRecDepth 100000 in
theorem zh_X12_lossOf : zmk0 zt_X12_lossOf ∧ zmok zT (zmY zt_X12_lossOf).cls (zmY zt_X12_lossOf).name (zmB zt_X12_lossOf) (zmC zt_X12_lossOf) = true := ⟨⟨rfl, Nat.le_of_ble_eq_true rfl, ⟨by decide +kernel, by decide +kernel⟩, by decide +kernel, by decide +kernel, rfl, rfl, by decide +kernel, rfl⟩, by decide +kernel⟩
set_option maxRecDepth 100000 in
theorem zh_X12_runsBy : zmk0 zt_X12_runsBy ∧ zmok zT (zmY zt_X12_runsBy).cls (zmY zt_X12_runsBy).name (zmB zt_X12_runsBy) (zmC zt_X12_runsBy) = true := ⟨⟨rfl, Nat.le_of_ble_eq_true rfl, ⟨by decide +kernel, by decide +kernel⟩, by decide +kernel, by decide +kernel, rfl, rfl, by decide +kernel, rfl⟩, by decide +kernel⟩
set_option maxRecDepth 100000 in
theorem zh_X12_isWeight : zmk0 zt_X12_isWeight ∧ zmok zT (zmY zt_X12_isWeight).cls (zmY zt_X12_isWeight).name (zmB zt_X12_isWeight) (zmC zt_X12_isWeight) = true := ⟨⟨rfl, Nat.le_of_ble_eq_true rfl, ⟨by decide +kernel, by decide +kernel⟩, by decide +kernel, by decide +kernel, rfl, rfl, by decide +kernel, rfl⟩, by decide +kernel⟩
set_option maxRecDepth 100000 in
theorem zh_X12_isAir : zmk0 zt_X12_isAir ∧ zmok zT (zmY zt_X12_isAir).cls (zmY zt_X12_isAir).name (zmB zt_X12_isAir) (zmC zt_X12_isAir) = true := ⟨⟨rfl, Nat.le_of_ble_eq_true rfl, ⟨by decide +kernel, by decide +kernel⟩, by decide +kernel, by decide +kernel, rfl, rfl, by decide +kernel, rfl⟩, by decide +kernel⟩
set_option maxRecDepth 100000 in
theorem zh_X12_run : zmk0 zt_X12_run ∧ zmok zT (zmY zt_X12_run).cls (zmY zt_X12_run).name (zmB zt_X12_run) (zmC zt_X12_run) = true := ⟨⟨rfl, Nat.le_of_ble_eq_true rfl, ⟨by decide +kernel, by decide +kernel⟩, by decide +kernel, by decide +kernel, rfl, rfl, by decide +kernel, rfl⟩, by decide +kernel⟩
set_option maxRecDepth 100000 in
theorem zh_X12_isPoint : zmk0 zt_X12_isPoint ∧ zmok zT (zmY zt_X12_isPoint).cls (zmY zt_X12_isPoint).name (zmB zt_X12_isPoint) (zmC zt_X12_isPoint) = true := ⟨⟨rfl, Nat.le_of_ble_eq_true rfl, ⟨by decide +kernel, by decide +kernel⟩, by decide +kernel, by decide +kernel, rfl, rfl, by decide +kernel, rfl⟩, by decide +kernel⟩
set_option maxRecDepth 100000 in
theorem zh_X12_speed : zmk0 zt_X12_speed ∧ zmok zT (zmY zt_X12_speed).cls (zmY zt_X12_speed).name (zmB zt_X12_speed) (zmC zt_X12_speed) = true := ⟨⟨rfl, Nat.le_of_ble_eq_true rfl, ⟨by decide +kernel, by decide +kernel⟩, by decide +kernel, by decide +kernel, rfl, rfl, by decide +kernel, rfl⟩, by decide +kernel⟩
