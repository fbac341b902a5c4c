set_option maxRecDepth 100000 in
theorem zh_X12_blockOf : zmk0 zt_X12_blockOf ∧ zmok zT (zmY zt_X12_blockOf).cls (zmY zt_X12_blockOf).name (zmB zt_X12_blockOf) (zmC zt_X12_blockOf) = true := ⟨⟨rfl, Nat.le_of_ble_eq_true rfl, ⟨by decide +kernel, by decide +kernel⟩, by decide +kernel, by decide +kernel, rfl, rfl, by decide +kernel, rfl⟩, by decide +kernel⟩
set_option maxRecDepth 100000 in
theorem zh_X12_point : zmk0 zt_X12_point ∧ zmok zT (zmY zt_X12_point).cls (zmY zt_X12_point).name (zmB zt_X12_point) (zmC zt_X12_point) = true := ⟨⟨rfl, Nat.le_of_ble_eq_true rfl, ⟨by decide +kernel, by decide +kernel⟩, by decide +kernel, by decide +kernel, rfl, rfl, by decide +kernel, rfl⟩, by decide +kernel⟩
set_option maxRecDepth 100000 in
theorem zh_X12_feltAt : zmk0 zt_X12_feltAt ∧ zmok zT (zmY zt_X12_feltAt).cls (zmY zt_X12_feltAt).name (zmB zt_X12_feltAt) (zmC zt_X12_feltAt) = true := ⟨⟨rfl, Nat.le_of_ble_eq_true rfl, ⟨by decide +kernel, by decide +kernel⟩, by decide +kernel, by decide +kernel, rfl, rfl, by decide +kernel, rfl⟩, by decide +kernel⟩
set_option maxRecDepth 100000 in
theorem zh_X12_felt : zmk0 zt_X12_felt ∧ zmok zT (zmY zt_X12_felt).cls (zmY zt_X12_felt).name (zmB zt_X12_felt) (zmC zt_X12_felt) = true := ⟨⟨rfl, Nat.le_of_ble_eq_true rfl, ⟨by decide +kernel, by decide +kernel⟩, by decide +kernel, by decide +kernel, rfl, rfl, by decide +kernel, rfl⟩, by decide +kernel⟩
set_option maxRecDepth 100000 in
theorem zh_X12_feels : zmk0 zt_X12_feels ∧ zmok zT (zmY zt_X12_feels).cls (zmY zt_X12_feels).name (zmB zt_X12_feels) (zmC zt_X12_feels) = true := ⟨⟨rfl, Nat.le_of_ble_eq_true rfl, ⟨by decide +kernel, by decide +kernel⟩, by decide +kernel, by decide +kernel, rfl, rfl, by decide +kernel, rfl⟩, by decide +kernel⟩
set_option maxRecDepth 100000 in
theorem zh_X12_odds : zmk0 zt_X12_odds ∧ zmok zT (zmY zt_X12_odds).cls (zmY zt_X12_odds).name (zmB zt_X12_odds) (zmC zt_X12_odds) = true := ⟨⟨rfl, Nat.le_of_ble_eq_true rfl, ⟨by decide +kernel, by decide +kernel⟩, by decide +kernel, by decide +kernel, rfl, rfl, by decide +kernel, rfl⟩, by decide +kernel⟩
set_option maxRecDepth 100000 in
theorem zh_X12_power : zmk0 zt_X12_power ∧ zmok zT (zmY zt_X12_power).cls (zmY zt_X12_power).name (zmB zt_X12_power) (zmC zt_X12_power) = true := ⟨⟨rfl, Nat.le_of_ble_eq_true rfl, ⟨by decide +kernel, by decide +kernel⟩, by decide +kernel, by decide +kernel, rfl, rfl, by decide +kernel, rfl⟩, by decide +kernel⟩
set_option maxRecDepth 100000 in
theorem zh_X12_lieOf : zmk0 zt_X12_lieOf ∧ zmok zT (zmY zt_X12_lieOf).cls (zmY zt_X12_lieOf).name (zmB zt_X12_lieOf) (zmC zt_X12_lieOf) = true := ⟨⟨rfl, Nat.le_of_ble_eq_true rfl, ⟨by decide +kernel, by decide +kernel⟩, by decide +kernel, by decide +kernel, rfl, rfl, by decide +kernel, rfl⟩, by decide +kernel⟩
set_option maxRecDepth 100000 in
theorem zh_X12_shows : zmk0 zt_X12_shows ∧ zmok zT (zmY zt_X12_shows).cls (zmY zt_X12_shows).name (zmB zt_X12_shows) (zmC zt_X12_shows) = true := ⟨⟨rfl, Nat.le_of_ble_eq_true rfl, ⟨by decide +kernel, by decide +kernel⟩, by decide +kernel, by decide +kernel, rfl, rfl, by decide +kernel, rfl⟩, by decide +kernel⟩
set_option maxRecDepth 100000 in
theorem zh_X12_isHeld : zmk0 zt_X12_isHeld ∧ zmok zT (zmY zt_X12_isHeld).cls (zmY zt_X12_isHeld).name (zmB zt_X12_isHeld) (zmC zt_X12_isHeld) = true := ⟨⟨rfl, Nat.le_of_ble_eq_true rfl, ⟨by decide +kernel, by decide +kernel⟩, by decide +kernel, by decide +kernel, rfl, rfl, by decide +kernel, rfl⟩, by decide +kernel⟩
set_option maxRecDepth 100000 in
theorem zh_X12_behindOf : zmk0 zt_X12_behindOf ∧ zmok zT (zmY zt_X12_behindOf).cls (zmY zt_X12_behindOf).name (zmB zt_X12_behindOf) (zmC zt_X12_behindOf) = true := ⟨⟨rfl, Nat.le_of_ble_eq_true rfl, ⟨by decide +kernel, by decide +kernel⟩, by decide +kernel, by decide +kernel, rfl, rfl, by decide +kernel, rfl⟩, by decide +kernel⟩
set_option maxRecDepth 100000 in
theorem zh_X12_may : zmk0 zt_X12_may ∧ zmok zT (zmY zt_X12_may).cls (zmY zt_X12_may).name (zmB zt_X12_may) (zmC zt_X12_may) = true := ⟨⟨rfl, Nat.le_of_ble_eq_true rfl, ⟨by decide +kernel, by decide +kernel⟩, by decide +kernel, by decide +kernel, rfl, rfl, by decide +kernel, rfl⟩, by decide +kernel⟩
set_option maxRecDepth 100000 in
theorem zh_X12_isIn : zmk0 zt_X12_isIn ∧ zmok zT (zmY zt_X12_isIn).cls (zmY zt_X12_isIn).name (zmB zt_X12_isIn) (zmC zt_X12_isIn) = true := ⟨⟨rfl, Nat.le_of_ble_eq_true rfl, ⟨by decide +kernel, by decide +kernel⟩, by decide +kernel, by decide +kernel, rfl, rfl, by decide +kernel, rfl⟩, by decide +kernel⟩
set_option maxRecDepth 100000 in
theorem zh_X12_isStopped : zmk0 zt_X12_isStopped ∧ zmok zT (zmY zt_X12_isStopped).cls (zmY zt_X12_isStopped).name (zmB zt_X12_isStopped) (zmC zt_X12_isStopped) = true := ⟨⟨rfl, Nat.le_of_ble_eq_true rfl, ⟨by decide +kernel, by decide +kernel⟩, by decide +kernel, by decide +kernel, rfl, rfl, by decide +kernel, rfl⟩, by decide +kernel⟩
set_option maxRecDepth 100000 in
theorem zh_X12_liesOf : zmk0 zt_X12_liesOf ∧ zmok zT (zmY zt_X12_liesOf).cls (zmY zt_X12_liesOf).name (zmB zt_X12_liesOf) (zmC zt_X12_liesOf) = true := ⟨⟨rfl, Nat.le_of_ble_eq_true rfl, ⟨by decide +kernel, by decide +kernel⟩, by decide +kernel, by decide +kernel, rfl, rfl, by decide +kernel, rfl⟩, by decide +kernel⟩
set_option maxRecDepth 100000 in
theorem zh_X12_adds : zmk0 zt_X12_adds ∧ zmok zT (zmY zt_X12_adds).cls (zmY zt_X12_adds).name (zmB zt_X12_adds) (zmC zt_X12_adds) = true := ⟨⟨rfl, Nat.le_of_ble_eq_true rfl, ⟨by decide +kernel, by decide +kernel⟩, by decide +kernel, by decide +kernel, rfl, rfl, by decide +kernel, rfl⟩, by decide +kernel⟩
set_option maxRecDepth 100000 in
theorem zh_X12_opens : zmk0 zt_X12_opens ∧ zmok zT (zmY zt_X12_opens).cls (zmY zt_X12_opens).name (zmB zt_X12_opens) (zmC zt_X12_opens) = true := ⟨⟨rfl, Nat.le_of_ble_eq_true rfl, ⟨by decide +kernel, by decide +kernel⟩, by decide +kernel, by decide +kernel, rfl, rfl, by decide +kernel, rfl⟩, by decide +kernel⟩
set_option maxRecDepth 100000 in
theorem zh_X12_looks : zmk0 zt_X12_looks ∧ zmok zT (zmY zt_X12_looks).cls (zmY zt_X12_looks).name (zmB zt_X12_looks) (zmC zt_X12_looks) = true := ⟨⟨rfl, Nat.le_of_ble_eq_true rfl, ⟨by decide +kernel, by decide +kernel⟩, by decide +kernel, by decide +kernel, rfl, rfl, by decide +kernel, rfl⟩, by decide +kernel⟩
set_option maxRecDepth 100000 in
theorem zh_X12_far : zmk0 zt_X12_far ∧ zmok zT (zmY zt_X12_far).cls (zmY zt_X12_far).name (zmB zt_X12_far) (zmC zt_X12_far) = true := ⟨⟨rfl, Nat.le_of_ble_eq_true rfl, ⟨by decide +kernel, by decide +kernel⟩, by decide +kernel, by decide +kernel, rfl, rfl, by decide +kernel, rfl⟩, by decide +kernel⟩
set_option maxRecDepth 100000 in
theorem zh_X12_isTrains : zmk0 zt_X12_isTrains ∧ zmok zT (zmY zt_X12_isTrains).cls (zmY zt_X12_isTrains).name (zmB zt_X12_isTrains) (zmC zt_X12_isTrains) = true := ⟨⟨rfl, Nat.le_of_ble_eq_true rfl, ⟨by decide +kernel, by decide +kernel⟩, by decide +kernel, by decide +kernel, rfl, rfl, by decide +kernel, rfl⟩, by decide +kernel⟩
set_option maxRecDepth 100000 in
theorem zh_X12_row : zmk0 zt_X12_row ∧ zmok zT (zmY zt_X12_row).cls (zmY zt_X12_row).name (zmB zt_X12_row) (zmC zt_X12_row) = true := ⟨⟨rfl, Nat.le_of_ble_eq_true rfl, ⟨by decide +kernel, by decide +kernel⟩, by decide +kernel, by decide +kernel, rfl, rfl, by decide +kernel, rfl⟩, by decide +kernel⟩
set_option maxRecDepth 100000 in
theorem zh_X12_leaves : zmk0 zt_X12_leaves ∧ zmok zT (zmY zt_X12_leaves).cls (zmY zt_X12_leaves).name (zmB zt_X12_leaves) (zmC zt_X12_leaves) = true := ⟨⟨rfl, Nat.le_of_ble_eq_true rfl, ⟨by decide +kernel, by decide +kernel⟩, by decide +kernel, by decide +kernel, rfl, rfl, by decide +kernel, rfl⟩, by decide +kernel⟩
set_option maxRecDepth 100000 in
theorem zh_X12_timeOf : zmk0 zt_X12_timeOf ∧ zmok zT (zmY zt_X12_timeOf).cls (zmY zt_X12_timeOf).name (zmB zt_X12_timeOf) (zmC zt_X12_timeOf) = true := ⟨⟨rfl, Nat.le_of_ble_eq_true rfl, ⟨by decide +kernel, by decide +kernel⟩, by decide +kernel, by decide +kernel, rfl, rfl, by decide +kernel, rfl⟩, by decide +kernel⟩
set_option maxRecDepth 100000 in
theorem zh_X12_time : zmk0 zt_X12_time ∧ zmok zT (zmY zt_X12_time).cls (zmY zt_X12_time).name (zmB zt_X12_time) (zmC zt_X12_time) = true := ⟨⟨rfl, Nat.le_of_ble_eq_true rfl, ⟨by decide +kernel, by decide +kernel⟩, by decide +kernel, by decide +kernel, rfl, rfl, by decide +kernel, rfl⟩, by decide +kernel⟩
set_option maxRecDepth 100000 in
theorem zh_X12_holdsOf : zmk0 zt_X12_holdsOf ∧ zmok zT (zmY zt_X12_holdsOf).cls (zmY zt_X12_holdsOf).name (zmB zt_X12_holdsOf) (zmC zt_X12_holdsOf) = true := ⟨⟨rfl, Nat.le_of_ble_eq_true rfl, ⟨by decide +kernel, by decide +kernel⟩, by decide +kernel, by decide +kernel, rfl, rfl, by decide +kernel, rfl⟩, by decide +kernel⟩
set_option maxRecDepth 100000 in
theorem zh_X12_holds : zmk0 zt_X12_holds ∧ zmok zT (zmY zt_X12_holds).cls (zmY zt_X12_holds).name (zmB zt_X12_holds) (zmC zt_X12_holds) = true := ⟨⟨rfl, Nat.le_of_ble_eq_true rfl, ⟨by decide +kernel, by decide +kernel⟩, by decide +kernel, by decide +kernel, rfl, rfl, by decide +kernel, rfl⟩, by decide +kernel⟩
set_option maxRecDepth 100000 in
theorem zh_X12_beat : zmk0 zt_X12_beat ∧ zmok zT (zmY zt_X12_beat).cls (zmY zt_X12_beat).name (zmB zt_X12_beat) (zmC zt_X12_beat) = true := ⟨⟨rfl, Nat.le_of_ble_eq_true rfl, ⟨by decide +kernel, by decide +kernel⟩, by decide +kernel, by decide +kernel, rfl, rfl, by decide +kernel, rfl⟩, by decide +kernel⟩
set_option maxRecDepth 100000 in
theorem zh_X12_leastBeat : zmk0 zt_X12_leastBeat ∧ zmok zT (zmY zt_X12_leastBeat).cls (zmY zt_X12_leastBeat).name (zmB zt_X12_leastBeat) (zmC zt_X12_leastBeat) = true := ⟨⟨rfl, Nat.le_of_ble_eq_true rfl, ⟨by decide +kernel, by decide +kernel⟩, by decide +kernel, by decide +kernel, rfl, rfl, by decide +kernel, rfl⟩, by decide +kernel⟩
set_option maxRecDepth 100000 in
theorem zh_X12_log : zmk0 zt_X12_log ∧ zmok zT (zmY zt_X12_log).cls (zmY zt_X12_log).name (zmB zt_X12_log) (zmC zt_X12_log) = true := ⟨⟨rfl, Nat.le_of_ble_eq_true rfl, ⟨by decide +kernel, by decide +kernel⟩, by decide +kernel, by decide +kernel, rfl, rfl, by decide +kernel, rfl⟩, by decide +kernel⟩
set_option maxRecDepth 100000 in
theorem zh_X12_isFit : zmk0 zt_X12_isFit ∧ zmok zT (zmY zt_X12_isFit).cls (zmY zt_X12_isFit).name (zmB zt_X12_isFit) (zmC zt_X12_isFit) = true := ⟨⟨rfl, Nat.le_of_ble_eq_true rfl, ⟨by decide +kernel, by decide +kernel⟩, by decide +kernel, by decide +kernel, rfl, rfl, by decide +kernel, rfl⟩, by decide +kernel⟩
set_option maxRecDepth 100000 in
theorem zh_X12_fits : zmk0 zt_X12_fits ∧ zmok zT (zmY zt_X12_fits).cls (zmY zt_X12_fits).name (zmB zt_X12_fits) (zmC zt_X12_fits) = true := ⟨⟨rfl, Nat.le_of_ble_eq_true rfl, ⟨by decide +kernel, by decide +kernel⟩, by decide +kernel, by decide +kernel, rfl, rfl, by decide +kernel, rfl⟩, by decide +kernel⟩
set_option maxRecDepth 100000 in
theorem zh_X12_worn : zmk0 zt_X12_worn ∧ zmok zT (zmY zt_X12_worn).cls (zmY zt_X12_worn).name (zmB zt_X12_worn) (zmC zt_X12_worn) = true := ⟨⟨rfl, Nat.le_of_ble_eq_true rfl, ⟨by decide +kernel, by decide +kernel⟩, by decide +kernel, by decide +kernel, rfl, rfl, by decide +kernel, rfl⟩, by decide +kernel⟩
set_option maxRecDepth 100000 in
theorem zh_X12_stair : zmk0 zt_X12_stair ∧ zmok zT (zmY zt_X12_stair).cls (zmY zt_X12_stair).name (zmB zt_X12_stair) (zmC zt_X12_stair) = true := ⟨⟨rfl, Nat.le_of_ble_eq_true rfl, ⟨by decide +kernel, by decide +kernel⟩, by decide +kernel, by decide +kernel, rfl, rfl, by decide +kernel, rfl⟩, by decide +kernel⟩
set_option maxRecDepth 100000 in
theorem zh_X12_walkTo : zmk0 zt_X12_walkTo ∧ zmok zT (zmY zt_X12_walkTo).cls (zmY zt_X12_walkTo).name (zmB zt_X12_walkTo) (zmC zt_X12_walkTo) = true := ⟨⟨rfl, Nat.le_of_ble_eq_true rfl, ⟨by decide +kernel, by decide +kernel⟩, by decide +kernel, by decide +kernel, rfl, rfl, by decide +kernel, rfl⟩, by decide +kernel⟩
set_option maxRecDepth 100000 in
theorem zh_X12_walkOf : zmk0 zt_X12_walkOf ∧ zmok zT (zmY zt_X12_walkOf).cls (zmY zt_X12_walkOf).name (zmB zt_X12_walkOf) (zmC zt_X12_walkOf) = true := ⟨⟨rfl, Nat.le_of_ble_eq_true rfl, ⟨by decide +kernel, by decide +kernel⟩, by decide +kernel, by decide +kernel, rfl, rfl, by decide +kernel, rfl⟩, by decide +kernel⟩
set_option maxRecDepth 100000 in
theorem zh_X12_walk : zmk0 zt_X12_walk ∧ zmok zT (zmY zt_X12_walk).cls (zmY zt_X12_walk).name (zmB zt_X12_walk) (zmC zt_X12_walk) = true := ⟨⟨rfl, Nat.le_of_ble_eq_true rfl, ⟨by decide +kernel, by decide +kernel⟩, by decide +kernel, by decide +kernel, rfl, rfl, by decide +kernel, rfl⟩, by decide +kernel⟩
set_option maxRecDepth 100000 in
theorem zh_X12_worstBy : zmk0 zt_X12_worstBy ∧ zmok zT (zmY zt_X12_worstBy).cls (zmY zt_X12_worstBy).name (zmB zt_X12_worstBy) (zmC zt_X12_worstBy) = true := ⟨⟨rfl, Nat.le_of_ble_eq_true rfl, ⟨by decide +kernel, by decide +kernel⟩, by decide +kernel, by decide +kernel, rfl, rfl, by decide +kernel, rfl⟩, by decide +kernel⟩
set_option maxRecDepth 100000 in
theorem zh_X12_worst : zmk0 zt_X12_worst ∧ zmok zT (zmY zt_X12_worst).cls (zmY zt_X12_worst).name (zmB zt_X12_worst) (zmC zt_X12_worst) = true := ⟨⟨rfl, Nat.le_of_ble_eq_true rfl, ⟨by decide +kernel, by decide +kernel⟩, by decide +kernel, by decide +kernel, rfl, rfl, by decide +kernel, rfl⟩, by decide +kernel⟩
set_option maxRecDepth 100000 in
theorem zh_X12_test : zmk0 zt_X12_test ∧ zmok zT (zmY zt_X12_test).cls (zmY zt_X12_test).name (zmB zt_X12_test) (zmC zt_X12_test) = true := ⟨⟨rfl, Nat.le_of_ble_eq_true rfl, ⟨by decide +kernel, by decide +kernel⟩, by decide +kernel, by decide +kernel, rfl, rfl, by decide +kernel, rfl⟩, by decide +kernel⟩
set_option maxRecDepth 100000 in
theorem zh_X12_cover : zmk0 zt_X12_cover ∧ zmok zT (zmY zt_X12_cover).cls (zmY zt_X12_cover).name (zmB zt_X12_cover) (zmC zt_X12_cover) = true := ⟨⟨rfl, Nat.le_of_ble_eq_true rfl, ⟨by decide +kernel, by decide +kernel⟩, by decide +kernel, by decide +kernel, rfl, rfl, by decide +kernel, rfl⟩, by decide +kernel⟩
set_option maxRecDepth 100000 in
theorem zh_X12_part : zmk0 zt_X12_part ∧ zmok zT (zmY zt_X12_part).cls (zmY zt_X12_part).name (zmB zt_X12_part) (zmC zt_X12_part) = true := ⟨⟨rfl, Nat.le_of_ble_eq_true rfl, ⟨by decide +kernel, by decide +kernel⟩, by decide +kernel, by decide +kernel, rfl, rfl, by decide +kernel, rfl⟩, by decide +kernel⟩
set_option maxRecDepth 100000 in
theorem zh_X12_age : zmk0 zt_X12_age ∧ zmok zT (zmY zt_X12_age).cls (zmY zt_X12_age).name (zmB zt_X12_age) (zmC zt_X12_age) = true := ⟨⟨rfl, Nat.le_of_ble_eq_true rfl, ⟨by decide +kernel, by decide +kernel⟩, by decide +kernel, by decide +kernel, rfl, rfl, by decide +kernel, rfl⟩, by decide +kernel⟩
set_option maxRecDepth 100000 in
theorem zh_X12_daysOf : zmk0 zt_X12_daysOf ∧ zmok zT (zmY zt_X12_daysOf).cls (zmY zt_X12_daysOf).name (zmB zt_X12_daysOf) (zmC zt_X12_daysOf) = true := ⟨⟨rfl, Nat.le_of_ble_eq_true rfl, ⟨by decide +kernel, by decide +kernel⟩, by decide +kernel, by decide +kernel, rfl, rfl, by decide +kernel, rfl⟩, by decide +kernel⟩
set_option maxRecDepth 100000 in
theorem zh_X12_days : zmk0 zt_X12_days ∧ zmok zT (zmY zt_X12_days).cls (zmY zt_X12_days).name (zmB zt_X12_days) (zmC zt_X12_days) = true := ⟨⟨rfl, Nat.le_of_ble_eq_true rfl, ⟨by decide +kernel, by decide +kernel⟩, by decide +kernel, by decide +kernel, rfl, rfl, by decide +kernel, rfl⟩, by decide +kernel⟩
set_option maxRecDepth 100000 in
theorem zh_X12_first : zmk0 zt_X12_first ∧ zmok zT (zmY zt_X12_first).cls (zmY zt_X12_first).name (zmB zt_X12_first) (zmC zt_X12_first) = true := ⟨⟨rfl, Nat.le_of_ble_eq_true rfl, ⟨by decide +kernel, by decide +kernel⟩, by decide +kernel, by decide +kernel, rfl, rfl, by decide +kernel, rfl⟩, by decide +kernel⟩
set_option maxRecDepth 100000 in
theorem zh_X12_restart : zmk0 zt_X12_restart ∧ zmok zT (zmY zt_X12_restart).cls (zmY zt_X12_restart).name (zmB zt_X12_restart) (zmC zt_X12_restart) = true := ⟨⟨rfl, Nat.le_of_ble_eq_true rfl, ⟨by decide +kernel, by decide +kernel⟩, by decide +kernel, by decide +kernel, rfl, rfl, by decide +kernel, rfl⟩, by decide +kernel⟩
set_option maxRecDepth 100000 in
theorem zh_X12_valley : zmk0 zt_X12_valley ∧ zmok zT (zmY zt_X12_valley).cls (zmY zt_X12_valley).name (zmB zt_X12_valley) (zmC zt_X12_valley) = true := ⟨⟨rfl, Nat.le_of_ble_eq_true rfl, ⟨by decide +kernel, by decide +kernel⟩, by decide +kernel, by decide +kernel, rfl, rfl, by decide +kernel, rfl⟩, by decide +kernel⟩
set_option maxRecDepth 100000 in
theorem zh_X12_group : zmk0 zt_X12_group ∧ zmok zT (zmY zt_X12_group).cls (zmY zt_X12_group).name (zmB zt_X12_group) (zmC zt_X12_group) = true := ⟨⟨rfl, Nat.le_of_ble_eq_true rfl, ⟨by decide +kernel, by decide +kernel⟩, by decide +kernel, by decide +kernel, rfl, rfl, by decide +kernel, rfl⟩, by decide +kernel⟩
set_option maxRecDepth 100000 in
theorem zh_X12_firstTrain : zmk0 zt_X12_firstTrain ∧ zmok zT (zmY zt_X12_firstTrain).cls (zmY zt_X12_firstTrain).name (zmB zt_X12_firstTrain) (zmC zt_X12_firstTrain) = true := ⟨⟨rfl, Nat.le_of_ble_eq_true rfl, ⟨by decide +kernel, by decide +kernel⟩, by decide +kernel, by decide +kernel, rfl, rfl, by decide +kernel, rfl⟩, by decide +kernel⟩
set_option maxRecDepth 100000 in
theorem zh_X12_trains : zmk0 zt_X12_trains ∧ zmok zT (zmY zt_X12_trains).cls (zmY zt_X12_trains).name (zmB zt_X12_trains) (zmC zt_X12_trains) = true := ⟨⟨rfl, Nat.le_of_ble_eq_true rfl, ⟨by decide +kernel, by decide +kernel⟩, by decide +kernel, by decide +kernel, rfl, rfl, by decide +kernel, rfl⟩, by decide +kernel⟩
set_option maxRecDepth 100000 in
theorem zh_X12_isNear : zmk0 zt_X12_isNear ∧ zmok zT (zmY zt_X12_isNear).cls (zmY zt_X12_isNear).name (zmB zt_X12_isNear) (zmC zt_X12_isNear) = true := ⟨⟨rfl, Nat.le_of_ble_eq_true rfl, ⟨by decide +kernel, by decide +kernel⟩, by decide +kernel, by decide +kernel, rfl, rfl, by decide +kernel, rfl⟩, by decide +kernel⟩
set_option maxRecDepth 100000 in
theorem zh_X12_crosses : zmk0 zt_X12_crosses ∧ zmok zT (zmY zt_X12_crosses).cls (zmY zt_X12_crosses).name (zmB zt_X12_crosses) (zmC zt_X12_crosses) = true := ⟨⟨rfl, Nat.le_of_ble_eq_true rfl, ⟨by decide +kernel, by decide +kernel⟩, by decide +kernel, by decide +kernel, rfl, rfl, by decide +kernel, rfl⟩, by decide +kernel⟩
set_option maxRecDepth 100000 in
theorem zh_X12_cross : zmk0 zt_X12_cross ∧ zmok zT (zmY zt_X12_cross).cls (zmY zt_X12_cross).name (zmB zt_X12_cross) (zmC zt_X12_cross) = true := ⟨⟨rfl, Nat.le_of_ble_eq_true rfl, ⟨by decide +kernel, by decide +kernel⟩, by decide +kernel, by decide +kernel, rfl, rfl, by decide +kernel, rfl⟩, by decide +kernel⟩
set_option maxRecDepth 100000 in
theorem zh_X12_clear : zmk0 zt_X12_clear ∧ zmok zT (zmY zt_X12_clear).cls (zmY zt_X12_clear).name (zmB zt_X12_clear) (zmC zt_X12_clear) = true := ⟨⟨rfl, Nat.le_of_ble_eq_true rfl, ⟨by decide +kernel, by decide +kernel⟩, by decide +kernel, by decide +kernel, rfl, rfl, by decide +kernel, rfl⟩, by decide +kernel⟩
set_option maxRecDepth 100000 in
theorem zh_X12_stay : zmk0 zt_X12_stay ∧ zmok zT (zmY zt_X12_stay).cls (zmY zt_X12_stay).name (zmB zt_X12_stay) (zmC zt_X12_stay) = true := ⟨⟨rfl, Nat.le_of_ble_eq_true rfl, ⟨by decide +kernel, by decide +kernel⟩, by decide +kernel, by decide +kernel, rfl, rfl, by decide +kernel, rfl⟩, by decide +kernel⟩
set_option maxRecDepth 100000 in
theorem zh_X12_isMost : zmk0 zt_X12_isMost ∧ zmok zT (zmY zt_X12_isMost).cls (zmY zt_X12_isMost).name (zmB zt_X12_isMost) (zmC zt_X12_isMost) = true := ⟨⟨rfl, Nat.le_of_ble_eq_true rfl, ⟨by decide +kernel, by decide +kernel⟩, by decide +kernel, by decide +kernel, rfl, rfl, by decide +kernel, rfl⟩, by decide +kernel⟩
set_option maxRecDepth 100000 in
theorem zh_X12_ledTo : zmk0 zt_X12_ledTo ∧ zmok zT (zmY zt_X12_ledTo).cls (zmY zt_X12_ledTo).name (zmB zt_X12_ledTo) (zmC zt_X12_ledTo) = true := ⟨⟨rfl, Nat.le_of_ble_eq_true rfl, ⟨by decide +kernel, by decide +kernel⟩, by decide +kernel, by decide +kernel, rfl, rfl, by decide +kernel, rfl⟩, by decide +kernel⟩
set_option maxRecDepth 100000 in
theorem zh_X12_led : zmk0 zt_X12_led ∧ zmok zT (zmY zt_X12_led).cls (zmY zt_X12_led).name (zmB zt_X12_led) (zmC zt_X12_led) = true := ⟨⟨rfl, Nat.le_of_ble_eq_true rfl, ⟨by decide +kernel, by decide +kernel⟩, by decide +kernel, by decide +kernel, rfl, rfl, by decide +kernel, rfl⟩, by decide +kernel⟩
set_option maxRecDepth 100000 in
theorem zh_X12_leads : zmk0 zt_X12_leads ∧ zmok zT (zmY zt_X12_leads).cls (zmY zt_X12_leads).name (zmB zt_X12_leads) (zmC zt_X12_leads) = true := ⟨⟨rfl, Nat.le_of_ble_eq_true rfl, ⟨by decide +kernel, by decide +kernel⟩, by decide +kernel, by decide +kernel, rfl, rfl, by decide +kernel, rfl⟩, by decide +kernel⟩
set_option maxRecDepth 100000 in
theorem zh_X12_nextOf : zmk0 zt_X12_nextOf ∧ zmok zT (zmY zt_X12_nextOf).cls (zmY zt_X12_nextOf).name (zmB zt_X12_nextOf) (zmC zt_X12_nextOf) = true := ⟨⟨rfl, Nat.le_of_ble_eq_true rfl, ⟨by decide +kernel, by decide +kernel⟩, by decide +kernel, by decide +kernel, rfl, rfl, by decide +kernel, rfl⟩, by decide +kernel⟩
set_option maxRecDepth 100000 in
theorem zh_X12_quiet : zmk0 zt_X12_quiet ∧ zmok zT (zmY zt_X12_quiet).cls (zmY zt_X12_quiet).name (zmB zt_X12_quiet) (zmC zt_X12_quiet) = true := ⟨⟨rfl, Nat.le_of_ble_eq_true rfl, ⟨by decide +kernel, by decide +kernel⟩, by decide +kernel, by decide +kernel, rfl, rfl, by decide +kernel, rfl⟩, by decide +kernel⟩
set_option maxRecDepth 100000 in
theorem zh_X12_grow : zmk0 zt_X12_grow ∧ zmok zT (zmY zt_X12_grow).cls (zmY zt_X12_grow).name (zmB zt_X12_grow) (zmC zt_X12_grow) = true := ⟨⟨rfl, Nat.le_of_ble_eq_true rfl, ⟨by decide +kernel, by decide +kernel⟩, by decide +kernel, by decide +kernel, rfl, rfl, by decide +kernel, rfl⟩, by decide +kernel⟩
set_option maxRecDepth 100000 in
theorem zh_X12_runsOn : zmk0 zt_X12_runsOn ∧ zmok zT (zmY zt_X12_runsOn).cls (zmY zt_X12_runsOn).name (zmB zt_X12_runsOn) (zmC zt_X12_runsOn) = true := ⟨⟨rfl, Nat.le_of_ble_eq_true rfl, ⟨by decide +kernel, by decide +kernel⟩, by decide +kernel, by decide +kernel, rfl, rfl, by decide +kernel, rfl⟩, by decide +kernel⟩
set_option maxRecDepth 100000 in
theorem zh_X12_grows : zmk0 zt_X12_grows ∧ zmok zT (zmY zt_X12_grows).cls (zmY zt_X12_grows).name (zmB zt_X12_grows) (zmC zt_X12_grows) = true := ⟨⟨rfl, Nat.le_of_ble_eq_true rfl, ⟨by decide +kernel, by decide +kernel⟩, by decide +kernel, by decide +kernel, rfl, rfl, by decide +kernel, rfl⟩, by decide +kernel⟩
set_option maxRecDepth 100000 in
theorem zh_X12_growths : zmk0 zt_X12_growths ∧ zmok zT (zmY zt_X12_growths).cls (zmY zt_X12_growths).name (zmB zt_X12_growths) (zmC zt_X12_growths) = true := ⟨⟨rfl, Nat.le_of_ble_eq_true rfl, ⟨by decide +kernel, by decide +kernel⟩, by decide +kernel, by decide +kernel, rfl, rfl, by decide +kernel, rfl⟩, by decide +kernel⟩
set_option maxRecDepth 100000 in
theorem zh_X12_foretold : zmk0 zt_X12_foretold ∧ zmok zT (zmY zt_X12_foretold).cls (zmY zt_X12_foretold).name (zmB zt_X12_foretold) (zmC zt_X12_foretold) = true := ⟨⟨rfl, Nat.le_of_ble_eq_true rfl, ⟨by decide +kernel, by decide +kernel⟩, by decide +kernel, by decide +kernel, rfl, rfl, by decide +kernel, rfl⟩, by decide +kernel⟩
set_option maxRecDepth 100000 in
theorem zh_X12_operator : zmk0 zt_X12_operator ∧ zmok zT (zmY zt_X12_operator).cls (zmY zt_X12_operator).name (zmB zt_X12_operator) (zmC zt_X12_operator) = true := ⟨⟨rfl, Nat.le_of_ble_eq_true rfl, ⟨by decide +kernel, by decide +kernel⟩, by decide +kernel, by decide +kernel, rfl, rfl, by decide +kernel, rfl⟩, by decide +kernel⟩
set_option maxRecDepth 100000 in
theorem zh_X12_crewAt : zmk0 zt_X12_crewAt ∧ zmok zT (zmY zt_X12_crewAt).cls (zmY zt_X12_crewAt).name (zmB zt_X12_crewAt) (zmC zt_X12_crewAt) = true := ⟨⟨rfl, Nat.le_of_ble_eq_true rfl, ⟨by decide +kernel, by decide +kernel⟩, by decide +kernel, by decide +kernel, rfl, rfl, by decide +kernel, rfl⟩, by decide +kernel⟩
set_option maxRecDepth 100000 in
theorem zh_X12_count1 : zmk0 zt_X12_count1 ∧ zmok zT (zmY zt_X12_count1).cls (zmY zt_X12_count1).name (zmB zt_X12_count1) (zmC zt_X12_count1) = true := ⟨⟨rfl, Nat.le_of_ble_eq_true rfl, ⟨by decide +kernel, by decide +kernel⟩, by decide +kernel, by decide +kernel, rfl, rfl, by decide +kernel, rfl⟩, by decide +kernel⟩
set_option maxRecDepth 100000 in
theorem zh_X12_crew : zmk0 zt_X12_crew ∧ zmok zT (zmY zt_X12_crew).cls (zmY zt_X12_crew).name (zmB zt_X12_crew) (zmC zt_X12_crew) = true := ⟨⟨rfl, Nat.le_of_ble_eq_true rfl, ⟨by decide +kernel, by decide +kernel⟩, by decide +kernel, by decide +kernel, rfl, rfl, by decide +kernel, rfl⟩, by decide +kernel⟩
set_option maxRecDepth 100000 in
theorem zh_X12_bare : zmk0 zt_X12_bare ∧ zmok zT (zmY zt_X12_bare).cls (zmY zt_X12_bare).name (zmB zt_X12_bare) (zmC zt_X12_bare) = true := ⟨⟨rfl, Nat.le_of_ble_eq_true rfl, ⟨by decide +kernel, by decide +kernel⟩, by decide +kernel, by decide +kernel, rfl, rfl, by decide +kernel, rfl⟩, by decide +kernel⟩
set_option maxRecDepth 100000 in
theorem zh_X12_lift : zmk0 zt_X12_lift ∧ zmok zT (zmY zt_X12_lift).cls (zmY zt_X12_lift).name (zmB zt_X12_lift) (zmC zt_X12_lift) = true := ⟨⟨rfl, Nat.le_of_ble_eq_true rfl, ⟨by decide +kernel, by decide +kernel⟩, by decide +kernel, by decide +kernel, rfl, rfl, by decide +kernel, rfl⟩, by decide +kernel⟩
set_option maxRecDepth 100000 in
theorem zh_X12_slips : zmk0 zt_X12_slips ∧ zmok zT (zmY zt_X12_slips).cls (zmY zt_X12_slips).name (zmB zt_X12_slips) (zmC zt_X12_slips) = true := ⟨⟨rfl, Nat.le_of_ble_eq_true rfl, ⟨by decide +kernel, by decide +kernel⟩, by decide +kernel, by decide +kernel, rfl, rfl, by decide +kernel, rfl⟩, by decide +kernel⟩
set_option maxRecDepth 100000 in
theorem zh_X12_stretched : zmk0 zt_X12_stretched ∧ zmok zT (zmY zt_X12_stretched).cls (zmY zt_X12_stretched).name (zmB zt_X12_stretched) (zmC zt_X12_stretched) = true := ⟨⟨rfl, Nat.le_of_ble_eq_true rfl, ⟨by decide +kernel, by decide +kernel⟩, by decide +kernel, by decide +kernel, rfl, rfl, by decide +kernel, rfl⟩, by decide +kernel⟩
set_option maxRecDepth 100000 in
theorem zh_X12_riders : zmk0 zt_X12_riders ∧ zmok zT (zmY zt_X12_riders).cls (zmY zt_X12_riders).name (zmB zt_X12_riders) (zmC zt_X12_riders) = true := ⟨⟨rfl, Nat.le_of_ble_eq_true rfl, ⟨by decide +kernel, by decide +kernel⟩, by decide +kernel, by decide +kernel, rfl, rfl, by decide +kernel, rfl⟩, by decide +kernel⟩
set_option maxRecDepth 100000 in
theorem zh_X12_cut : zmk0 zt_X12_cut ∧ zmok zT (zmY zt_X12_cut).cls (zmY zt_X12_cut).name (zmB zt_X12_cut) (zmC zt_X12_cut) = true := ⟨⟨rfl, Nat.le_of_ble_eq_true rfl, ⟨by decide +kernel, by decide +kernel⟩, by decide +kernel, by decide +kernel, rfl, rfl, by decide +kernel, rfl⟩, by decide +kernel⟩
set_option maxRecDepth 100000 in
theorem zh_X12_store : zmk0 zt_X12_store ∧ zmok zT (zmY zt_X12_store).cls (zmY zt_X12_store).name (zmB zt_X12_store) (zmC zt_X12_store) = true := ⟨⟨rfl, Nat.le_of_ble_eq_true rfl, ⟨by decide +kernel, by decide +kernel⟩, by decide +kernel, by decide +kernel, rfl, rfl, by decide +kernel, rfl⟩, by decide +kernel⟩
set_option maxRecDepth 100000 in
theorem zh_X12_write : zmk0 zt_X12_write ∧ zmok zT (zmY zt_X12_write).cls (zmY zt_X12_write).name (zmB zt_X12_write) (zmC zt_X12_write) = true := ⟨⟨rfl, Nat.le_of_ble_eq_true rfl, ⟨by decide +kernel, by decide +kernel⟩, by decide +kernel, by decide +kernel, rfl, rfl, by decide +kernel, rfl⟩, by decide +kernel⟩
set_option maxRecDepth 100000 in
theorem zh_X12_storm : zmk0 zt_X12_storm ∧ zmok zT (zmY zt_X12_storm).cls (zmY zt_X12_storm).name (zmB zt_X12_storm) (zmC zt_X12_storm) = true := ⟨⟨rfl, Nat.le_of_ble_eq_true rfl, ⟨by decide +kernel, by decide +kernel⟩, by decide +kernel, by decide +kernel, rfl, rfl, by decide +kernel, rfl⟩, by decide +kernel⟩
set_option maxRecDepth 100000 in
theorem zh_X12_keep : zmk0 zt_X12_keep ∧ zmok zT (zmY zt_X12_keep).cls (zmY zt_X12_keep).name (zmB zt_X12_keep) (zmC zt_X12_keep) = true := ⟨⟨rfl, Nat.le_of_ble_eq_true rfl, ⟨by decide +kernel, by decide +kernel⟩, by decide +kernel, by decide +kernel, rfl, rfl, by decide +kernel, rfl⟩, by decide +kernel⟩
set_option maxRecDepth 100000 in
theorem zh_X12_image : zmk0 zt_X12_image ∧ zmok zT (zmY zt_X12_image).cls (zmY zt_X12_image).name (zmB zt_X12_image) (zmC zt_X12_image) = true := ⟨⟨rfl, Nat.le_of_ble_eq_true rfl, ⟨by decide +kernel, by decide +kernel⟩, by decide +kernel, by decide +kernel, rfl, rfl, by decide +kernel, rfl⟩, by decide +kernel⟩
set_option maxRecDepth 100000 in
theorem zh_X12_restore : zmk0 zt_X12_restore ∧ zmok zT (zmY zt_X12_restore).cls (zmY zt_X12_restore).name (zmB zt_X12_restore) (zmC zt_X12_restore) = true := ⟨⟨rfl, Nat.le_of_ble_eq_true rfl, ⟨by decide +kernel, by decide +kernel⟩, by decide +kernel, by decide +kernel, rfl, rfl, by decide +kernel, rfl⟩, by decide +kernel⟩
set_option maxRecDepth 100000 in
theorem zh_X12_count : zmk0 zt_X12_count ∧ zmok zT (zmY zt_X12_count).cls (zmY zt_X12_count).name (zmB zt_X12_count) (zmC zt_X12_count) = true := ⟨⟨rfl, Nat.le_of_ble_eq_true rfl, ⟨by decide +kernel, by decide +kernel⟩, by decide +kernel, by decide +kernel, rfl, rfl, by decide +kernel, rfl⟩, by decide +kernel⟩
set_option maxRecDepth 100000 in
theorem zh_J6_lowestOneBit_0f7a4 : zmk0 zt_J6_lowestOneBit_0f7a4 ∧ zmok zT (zmY zt_J6_lowestOneBit_0f7a4).cls (zmY zt_J6_lowestOneBit_0f7a4).name (zmB zt_J6_lowestOneBit_0f7a4) (zmC zt_J6_lowestOneBit_0f7a4) = true := ⟨⟨rfl, Nat.le_of_ble_eq_true rfl, ⟨by decide +kernel, by decide +kernel⟩, by decide +kernel, by decide +kernel, rfl, rfl, by decide +kernel, rfl⟩, by decide +kernel⟩
set_option maxRecDepth 100000 in
theorem zh_J6_numberOfTrailingZeros_0f7a4 : zmk0 zt_J6_numberOfTrailingZeros_0f7a4 ∧ zmok zT (zmY zt_J6_numberOfTrailingZeros_0f7a4).cls (zmY zt_J6_numberOfTrailingZeros_0f7a4).name (zmB zt_J6_numberOfTrailingZeros_0f7a4) (zmC zt_J6_numberOfTrailingZeros_0f7a4) = true := ⟨⟨rfl, Nat.le_of_ble_eq_true rfl, ⟨by decide +kernel, by decide +kernel⟩, by decide +kernel, by decide +kernel, rfl, rfl, by decide +kernel, rfl⟩, by decide +kernel⟩
set_option maxRecDepth 100000 in
theorem zh_J6_bitCount_0f7a4 : zmk0 zt_J6_bitCount_0f7a4 ∧ zmok zT (zmY zt_J6_bitCount_0f7a4).cls (zmY zt_J6_bitCount_0f7a4).name (zmB zt_J6_bitCount_0f7a4) (zmC zt_J6_bitCount_0f7a4) = true := ⟨⟨rfl, Nat.le_of_ble_eq_true rfl, ⟨by decide +kernel, by decide +kernel⟩, by decide +kernel, by decide +kernel, rfl, rfl, by decide +kernel, rfl⟩, by decide +kernel⟩
set_option maxRecDepth 100000 in
theorem zh_J0_length_8abf5 : zmk0 zt_J0_length_8abf5 ∧ zmok zT (zmY zt_J0_length_8abf5).cls (zmY zt_J0_length_8abf5).name (zmB zt_J0_length_8abf5) (zmC zt_J0_length_8abf5) = true := ⟨⟨rfl, Nat.le_of_ble_eq_true rfl, ⟨by decide +kernel, by decide +kernel⟩, by decide +kernel, by decide +kernel, rfl, rfl, by decide +kernel, rfl⟩, by decide +kernel⟩
set_option maxRecDepth 100000 in
theorem zh_J0_charAt_5068e : zmk0 zt_J0_charAt_5068e ∧ zmok zT (zmY zt_J0_charAt_5068e).cls (zmY zt_J0_charAt_5068e).name (zmB zt_J0_charAt_5068e) (zmC zt_J0_charAt_5068e) = true := ⟨⟨rfl, Nat.le_of_ble_eq_true rfl, ⟨by decide +kernel, by decide +kernel⟩, by decide +kernel, by decide +kernel, rfl, rfl, by decide +kernel, rfl⟩, by decide +kernel⟩
set_option maxRecDepth 100000 in
theorem zh_J0_coder_7d493 : zmk0 zt_J0_coder_7d493 ∧ zmok zT (zmY zt_J0_coder_7d493).cls (zmY zt_J0_coder_7d493).name (zmB zt_J0_coder_7d493) (zmC zt_J0_coder_7d493) = true := ⟨⟨rfl, Nat.le_of_ble_eq_true rfl, ⟨by decide +kernel, by decide +kernel⟩, by decide +kernel, by decide +kernel, rfl, rfl, by decide +kernel, rfl⟩, by decide +kernel⟩
set_option maxRecDepth 100000 in
theorem zh_J0_isLatin1_aae02 : zmk0 zt_J0_isLatin1_aae02 ∧ zmok zT (zmY zt_J0_isLatin1_aae02).cls (zmY zt_J0_isLatin1_aae02).name (zmB zt_J0_isLatin1_aae02) (zmC zt_J0_isLatin1_aae02) = true := ⟨⟨rfl, Nat.le_of_ble_eq_true rfl, ⟨by decide +kernel, by decide +kernel⟩, by decide +kernel, by decide +kernel, rfl, rfl, by decide +kernel, rfl⟩, by decide +kernel⟩
set_option maxRecDepth 100000 in
theorem zh_J0_checkIndex_df160 : zmk0 zt_J0_checkIndex_df160 ∧ zmok zT (zmY zt_J0_checkIndex_df160).cls (zmY zt_J0_checkIndex_df160).name (zmB zt_J0_checkIndex_df160) (zmC zt_J0_checkIndex_df160) = true := ⟨⟨rfl, Nat.le_of_ble_eq_true rfl, ⟨by decide +kernel, by decide +kernel⟩, by decide +kernel, by decide +kernel, rfl, rfl, by decide +kernel, rfl⟩, by decide +kernel⟩
set_option maxRecDepth 100000 in
theorem zh_J1_charAt_3b067 : zmk0 zt_J1_charAt_3b067 ∧ zmok zT (zmY zt_J1_charAt_3b067).cls (zmY zt_J1_charAt_3b067).name (zmB zt_J1_charAt_3b067) (zmC zt_J1_charAt_3b067) = true := ⟨⟨rfl, Nat.le_of_ble_eq_true rfl, ⟨by decide +kernel, by decide +kernel⟩, by decide +kernel, by decide +kernel, rfl, rfl, by decide +kernel, rfl⟩, by decide +kernel⟩
set_option maxRecDepth 100000 in
theorem zh_J7_fill_d0a16 : zmk0 zt_J7_fill_d0a16 ∧ zmok zT (zmY zt_J7_fill_d0a16).cls (zmY zt_J7_fill_d0a16).name (zmB zt_J7_fill_d0a16) (zmC zt_J7_fill_d0a16) = true := ⟨⟨rfl, Nat.le_of_ble_eq_true rfl, ⟨by decide +kernel, by decide +kernel⟩, by decide +kernel, by decide +kernel, rfl, rfl, by decide +kernel, rfl⟩, by decide +kernel⟩
set_option maxRecDepth 100000 in
theorem zh_J7_fill_53178 : zmk0 zt_J7_fill_53178 ∧ zmok zT (zmY zt_J7_fill_53178).cls (zmY zt_J7_fill_53178).name (zmB zt_J7_fill_53178) (zmC zt_J7_fill_53178) = true := ⟨⟨rfl, Nat.le_of_ble_eq_true rfl, ⟨by decide +kernel, by decide +kernel⟩, by decide +kernel, by decide +kernel, rfl, rfl, by decide +kernel, rfl⟩, by decide +kernel⟩
set_option maxRecDepth 100000 in
theorem zh_J3_checkIndex_8e157 : zmk0 zt_J3_checkIndex_8e157 ∧ zmok zT (zmY zt_J3_checkIndex_8e157).cls (zmY zt_J3_checkIndex_8e157).name (zmB zt_J3_checkIndex_8e157) (zmC zt_J3_checkIndex_8e157) = true := ⟨⟨rfl, Nat.le_of_ble_eq_true rfl, ⟨by decide +kernel, by decide +kernel⟩, by decide +kernel, by decide +kernel, rfl, rfl, by decide +kernel, rfl⟩, by decide +kernel⟩
