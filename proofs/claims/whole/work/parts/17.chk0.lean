set_option maxRecDepth 100000 in
theorem zh_X0_init : zmk0 zt_X0_init ∧ zmok zT (zmY zt_X0_init).cls (zmY zt_X0_init).name (zmB zt_X0_init) (zmC zt_X0_init) = true := ⟨⟨rfl, Nat.le_of_ble_eq_true rfl, ⟨by decide +kernel, by decide +kernel⟩, by decide +kernel, by decide +kernel, rfl, rfl, by decide +kernel, rfl⟩, by decide +kernel⟩
set_option maxRecDepth 100000 in
theorem zh_X0_tellTrack : zmk0 zt_X0_tellTrack ∧ zmok zT (zmY zt_X0_tellTrack).cls (zmY zt_X0_tellTrack).name (zmB zt_X0_tellTrack) (zmC zt_X0_tellTrack) = true := ⟨⟨rfl, Nat.le_of_ble_eq_true rfl, ⟨by decide +kernel, by decide +kernel⟩, by decide +kernel, by decide +kernel, rfl, rfl, by decide +kernel, rfl⟩, by decide +kernel⟩
set_option maxRecDepth 100000 in
theorem zh_X0_copyFrom : zmk0 zt_X0_copyFrom ∧ zmok zT (zmY zt_X0_copyFrom).cls (zmY zt_X0_copyFrom).name (zmB zt_X0_copyFrom) (zmC zt_X0_copyFrom) = true := ⟨⟨rfl, Nat.le_of_ble_eq_true rfl, ⟨by decide +kernel, by decide +kernel⟩, by decide +kernel, by decide +kernel, rfl, rfl, by decide +kernel, rfl⟩, by decide +kernel⟩
set_option maxRecDepth 100000 in
theorem zh_X0_stretch : zmk0 zt_X0_stretch ∧ zmok zT (zmY zt_X0_stretch).cls (zmY zt_X0_stretch).name (zmB zt_X0_stretch) (zmC zt_X0_stretch) = true := ⟨⟨rfl, Nat.le_of_ble_eq_true rfl, ⟨by decide +kernel, by decide +kernel⟩, by decide +kernel, by decide +kernel, rfl, rfl, by decide +kernel, rfl⟩, by decide +kernel⟩
set_option maxRecDepth 100000 in
theorem zh_X0_addStretch : zmk0 zt_X0_addStretch ∧ zmok zT (zmY zt_X0_addStretch).cls (zmY zt_X0_addStretch).name (zmB zt_X0_addStretch) (zmC zt_X0_addStretch) = true := ⟨⟨rfl, Nat.le_of_ble_eq_true rfl, ⟨by decide +kernel, by decide +kernel⟩, by decide +kernel, by decide +kernel, rfl, rfl, by decide +kernel, rfl⟩, by decide +kernel⟩
set_option maxRecDepth 100000 in
theorem zh_X1_init : zmk0 zt_X1_init ∧ zmok zT (zmY zt_X1_init).cls (zmY zt_X1_init).name (zmB zt_X1_init) (zmC zt_X1_init) = true := ⟨⟨rfl, Nat.le_of_ble_eq_true rfl, ⟨by decide +kernel, by decide +kernel⟩, by decide +kernel, by decide +kernel, rfl, rfl, by decide +kernel, rfl⟩, by decide +kernel⟩
set_option maxRecDepth 100000 in
theorem zh_X1_isMissing : zmk0 zt_X1_isMissing ∧ zmok zT (zmY zt_X1_isMissing).cls (zmY zt_X1_isMissing).name (zmB zt_X1_isMissing) (zmC zt_X1_isMissing) = true := ⟨⟨rfl, Nat.le_of_ble_eq_true rfl, ⟨by decide +kernel, by decide +kernel⟩, by decide +kernel, by decide +kernel, rfl, rfl, by decide +kernel, rfl⟩, by decide +kernel⟩
set_option maxRecDepth 100000 in
theorem zh_X1_size : zmk0 zt_X1_size ∧ zmok zT (zmY zt_X1_size).cls (zmY zt_X1_size).name (zmB zt_X1_size) (zmC zt_X1_size) = true := ⟨⟨rfl, Nat.le_of_ble_eq_true rfl, ⟨by decide +kernel, by decide +kernel⟩, by decide +kernel, by decide +kernel, rfl, rfl, by decide +kernel, rfl⟩, by decide +kernel⟩
set_option maxRecDepth 100000 in
theorem zh_X1_make : zmk0 zt_X1_make ∧ zmok zT (zmY zt_X1_make).cls (zmY zt_X1_make).name (zmB zt_X1_make) (zmC zt_X1_make) = true := ⟨⟨rfl, Nat.le_of_ble_eq_true rfl, ⟨by decide +kernel, by decide +kernel⟩, by decide +kernel, by decide +kernel, rfl, rfl, by decide +kernel, rfl⟩, by decide +kernel⟩
set_option maxRecDepth 100000 in
theorem zh_X1_get : zmk0 zt_X1_get ∧ zmok zT (zmY zt_X1_get).cls (zmY zt_X1_get).name (zmB zt_X1_get) (zmC zt_X1_get) = true := ⟨⟨rfl, Nat.le_of_ble_eq_true rfl, ⟨by decide +kernel, by decide +kernel⟩, by decide +kernel, by decide +kernel, rfl, rfl, by decide +kernel, rfl⟩, by decide +kernel⟩
set_option maxRecDepth 100000 in
theorem zh_X1_put : zmk0 zt_X1_put ∧ zmok zT (zmY zt_X1_put).cls (zmY zt_X1_put).name (zmB zt_X1_put) (zmC zt_X1_put) = true := ⟨⟨rfl, Nat.le_of_ble_eq_true rfl, ⟨by decide +kernel, by decide +kernel⟩, by decide +kernel, by decide +kernel, rfl, rfl, by decide +kernel, rfl⟩, by decide +kernel⟩
set_option maxRecDepth 100000 in
theorem zh_X1_cut : zmk0 zt_X1_cut ∧ zmok zT (zmY zt_X1_cut).cls (zmY zt_X1_cut).name (zmB zt_X1_cut) (zmC zt_X1_cut) = true := ⟨⟨rfl, Nat.le_of_ble_eq_true rfl, ⟨by decide +kernel, by decide +kernel⟩, by decide +kernel, by decide +kernel, rfl, rfl, by decide +kernel, rfl⟩, by decide +kernel⟩
set_option maxRecDepth 100000 in
theorem zh_X2_init : zmk0 zt_X2_init ∧ zmok zT (zmY zt_X2_init).cls (zmY zt_X2_init).name (zmB zt_X2_init) (zmC zt_X2_init) = true := ⟨⟨rfl, Nat.le_of_ble_eq_true rfl, ⟨by decide +kernel, by decide +kernel⟩, by decide +kernel, by decide +kernel, rfl, rfl, by decide +kernel, rfl⟩, by decide +kernel⟩
set_option maxRecDepth 100000 in
theorem zh_X2_pack : zmk0 zt_X2_pack ∧ zmok zT (zmY zt_X2_pack).cls (zmY zt_X2_pack).name (zmB zt_X2_pack) (zmC zt_X2_pack) = true := ⟨⟨rfl, Nat.le_of_ble_eq_true rfl, ⟨by decide +kernel, by decide +kernel⟩, by decide +kernel, by decide +kernel, rfl, rfl, by decide +kernel, rfl⟩, by decide +kernel⟩
set_option maxRecDepth 100000 in
theorem zh_X2_leastNeed : zmk0 zt_X2_leastNeed ∧ zmok zT (zmY zt_X2_leastNeed).cls (zmY zt_X2_leastNeed).name (zmB zt_X2_leastNeed) (zmC zt_X2_leastNeed) = true := ⟨⟨rfl, Nat.le_of_ble_eq_true rfl, ⟨by decide +kernel, by decide +kernel⟩, by decide +kernel, by decide +kernel, rfl, rfl, by decide +kernel, rfl⟩, by decide +kernel⟩
set_option maxRecDepth 100000 in
theorem zh_X2_fewest : zmk0 zt_X2_fewest ∧ zmok zT (zmY zt_X2_fewest).cls (zmY zt_X2_fewest).name (zmB zt_X2_fewest) (zmC zt_X2_fewest) = true := ⟨⟨rfl, Nat.le_of_ble_eq_true rfl, ⟨by decide +kernel, by decide +kernel⟩, by decide +kernel, by decide +kernel, rfl, rfl, by decide +kernel, rfl⟩, by decide +kernel⟩
set_option maxRecDepth 100000 in
theorem zh_X2_trainAt : zmk0 zt_X2_trainAt ∧ zmok zT (zmY zt_X2_trainAt).cls (zmY zt_X2_trainAt).name (zmB zt_X2_trainAt) (zmC zt_X2_trainAt) = true := ⟨⟨rfl, Nat.le_of_ble_eq_true rfl, ⟨by decide +kernel, by decide +kernel⟩, by decide +kernel, by decide +kernel, rfl, rfl, by decide +kernel, rfl⟩, by decide +kernel⟩
set_option maxRecDepth 100000 in
theorem zh_X2_leastTrain : zmk0 zt_X2_leastTrain ∧ zmok zT (zmY zt_X2_leastTrain).cls (zmY zt_X2_leastTrain).name (zmB zt_X2_leastTrain) (zmC zt_X2_leastTrain) = true := ⟨⟨rfl, Nat.le_of_ble_eq_true rfl, ⟨by decide +kernel, by decide +kernel⟩, by decide +kernel, by decide +kernel, rfl, rfl, by decide +kernel, rfl⟩, by decide +kernel⟩
set_option maxRecDepth 100000 in
theorem zh_X3_init : zmk0 zt_X3_init ∧ zmok zT (zmY zt_X3_init).cls (zmY zt_X3_init).name (zmB zt_X3_init) (zmC zt_X3_init) = true := ⟨⟨rfl, Nat.le_of_ble_eq_true rfl, ⟨by decide +kernel, by decide +kernel⟩, by decide +kernel, by decide +kernel, rfl, rfl, by decide +kernel, rfl⟩, by decide +kernel⟩
set_option maxRecDepth 100000 in
theorem zh_X3_forget : zmk0 zt_X3_forget ∧ zmok zT (zmY zt_X3_forget).cls (zmY zt_X3_forget).name (zmB zt_X3_forget) (zmC zt_X3_forget) = true := ⟨⟨rfl, Nat.le_of_ble_eq_true rfl, ⟨by decide +kernel, by decide +kernel⟩, by decide +kernel, by decide +kernel, rfl, rfl, by decide +kernel, rfl⟩, by decide +kernel⟩
set_option maxRecDepth 100000 in
theorem zh_X3_ticksIfOut : zmk0 zt_X3_ticksIfOut ∧ zmok zT (zmY zt_X3_ticksIfOut).cls (zmY zt_X3_ticksIfOut).name (zmB zt_X3_ticksIfOut) (zmC zt_X3_ticksIfOut) = true := ⟨⟨rfl, Nat.le_of_ble_eq_true rfl, ⟨by decide +kernel, by decide +kernel⟩, by decide +kernel, by decide +kernel, rfl, rfl, by decide +kernel, rfl⟩, by decide +kernel⟩
set_option maxRecDepth 100000 in
theorem zh_X3_goSlipping : zmk0 zt_X3_goSlipping ∧ zmok zT (zmY zt_X3_goSlipping).cls (zmY zt_X3_goSlipping).name (zmB zt_X3_goSlipping) (zmC zt_X3_goSlipping) = true := ⟨⟨rfl, Nat.le_of_ble_eq_true rfl, ⟨by decide +kernel, by decide +kernel⟩, by decide +kernel, by decide +kernel, rfl, rfl, by decide +kernel, rfl⟩, by decide +kernel⟩
set_option maxRecDepth 100000 in
theorem zh_X3_go : zmk0 zt_X3_go ∧ zmok zT (zmY zt_X3_go).cls (zmY zt_X3_go).name (zmB zt_X3_go) (zmC zt_X3_go) = true := ⟨⟨rfl, Nat.le_of_ble_eq_true rfl, ⟨by decide +kernel, by decide +kernel⟩, by decide +kernel, by decide +kernel, rfl, rfl, by decide +kernel, rfl⟩, by decide +kernel⟩
set_option maxRecDepth 100000 in
theorem zh_X3_step : zmk0 zt_X3_step ∧ zmok zT (zmY zt_X3_step).cls (zmY zt_X3_step).name (zmB zt_X3_step) (zmC zt_X3_step) = true := ⟨⟨rfl, Nat.le_of_ble_eq_true rfl, ⟨by decide +kernel, by decide +kernel⟩, by decide +kernel, by decide +kernel, rfl, rfl, by decide +kernel, rfl⟩, by decide +kernel⟩
set_option maxRecDepth 100000 in
theorem zh_X3_ticksAt : zmk0 zt_X3_ticksAt ∧ zmok zT (zmY zt_X3_ticksAt).cls (zmY zt_X3_ticksAt).name (zmB zt_X3_ticksAt) (zmC zt_X3_ticksAt) = true := ⟨⟨rfl, Nat.le_of_ble_eq_true rfl, ⟨by decide +kernel, by decide +kernel⟩, by decide +kernel, by decide +kernel, rfl, rfl, by decide +kernel, rfl⟩, by decide +kernel⟩
set_option maxRecDepth 100000 in
theorem zh_X3_pulledPace : zmk0 zt_X3_pulledPace ∧ zmok zT (zmY zt_X3_pulledPace).cls (zmY zt_X3_pulledPace).name (zmB zt_X3_pulledPace) (zmC zt_X3_pulledPace) = true := ⟨⟨rfl, Nat.le_of_ble_eq_true rfl, ⟨by decide +kernel, by decide +kernel⟩, by decide +kernel, by decide +kernel, rfl, rfl, by decide +kernel, rfl⟩, by decide +kernel⟩
set_option maxRecDepth 100000 in
theorem zh_X3_turn : zmk0 zt_X3_turn ∧ zmok zT (zmY zt_X3_turn).cls (zmY zt_X3_turn).name (zmB zt_X3_turn) (zmC zt_X3_turn) = true := ⟨⟨rfl, Nat.le_of_ble_eq_true rfl, ⟨by decide +kernel, by decide +kernel⟩, by decide +kernel, by decide +kernel, rfl, rfl, by decide +kernel, rfl⟩, by decide +kernel⟩
set_option maxRecDepth 100000 in
theorem zh_X3_arrive : zmk0 zt_X3_arrive ∧ zmok zT (zmY zt_X3_arrive).cls (zmY zt_X3_arrive).name (zmB zt_X3_arrive) (zmC zt_X3_arrive) = true := ⟨⟨rfl, Nat.le_of_ble_eq_true rfl, ⟨by decide +kernel, by decide +kernel⟩, by decide +kernel, by decide +kernel, rfl, rfl, by decide +kernel, rfl⟩, by decide +kernel⟩
set_option maxRecDepth 100000 in
theorem zh_X3_isOut : zmk0 zt_X3_isOut ∧ zmok zT (zmY zt_X3_isOut).cls (zmY zt_X3_isOut).name (zmB zt_X3_isOut) (zmC zt_X3_isOut) = true := ⟨⟨rfl, Nat.le_of_ble_eq_true rfl, ⟨by decide +kernel, by decide +kernel⟩, by decide +kernel, by decide +kernel, rfl, rfl, by decide +kernel, rfl⟩, by decide +kernel⟩
set_option maxRecDepth 100000 in
theorem zh_X3_slack : zmk0 zt_X3_slack ∧ zmok zT (zmY zt_X3_slack).cls (zmY zt_X3_slack).name (zmB zt_X3_slack) (zmC zt_X3_slack) = true := ⟨⟨rfl, Nat.le_of_ble_eq_true rfl, ⟨by decide +kernel, by decide +kernel⟩, by decide +kernel, by decide +kernel, rfl, rfl, by decide +kernel, rfl⟩, by decide +kernel⟩
set_option maxRecDepth 100000 in
theorem zh_X3_tell : zmk0 zt_X3_tell ∧ zmok zT (zmY zt_X3_tell).cls (zmY zt_X3_tell).name (zmB zt_X3_tell) (zmC zt_X3_tell) = true := ⟨⟨rfl, Nat.le_of_ble_eq_true rfl, ⟨by decide +kernel, by decide +kernel⟩, by decide +kernel, by decide +kernel, rfl, rfl, by decide +kernel, rfl⟩, by decide +kernel⟩
set_option maxRecDepth 100000 in
theorem zh_X3_firstPaceAt : zmk0 zt_X3_firstPaceAt ∧ zmok zT (zmY zt_X3_firstPaceAt).cls (zmY zt_X3_firstPaceAt).name (zmB zt_X3_firstPaceAt) (zmC zt_X3_firstPaceAt) = true := ⟨⟨rfl, Nat.le_of_ble_eq_true rfl, ⟨by decide +kernel, by decide +kernel⟩, by decide +kernel, by decide +kernel, rfl, rfl, by decide +kernel, rfl⟩, by decide +kernel⟩
set_option maxRecDepth 100000 in
theorem zh_X3_firstTicksAt : zmk0 zt_X3_firstTicksAt ∧ zmok zT (zmY zt_X3_firstTicksAt).cls (zmY zt_X3_firstTicksAt).name (zmB zt_X3_firstTicksAt) (zmC zt_X3_firstTicksAt) = true := ⟨⟨rfl, Nat.le_of_ble_eq_true rfl, ⟨by decide +kernel, by decide +kernel⟩, by decide +kernel, by decide +kernel, rfl, rfl, by decide +kernel, rfl⟩, by decide +kernel⟩
set_option maxRecDepth 100000 in
theorem zh_X3_hasReached : zmk0 zt_X3_hasReached ∧ zmok zT (zmY zt_X3_hasReached).cls (zmY zt_X3_hasReached).name (zmB zt_X3_hasReached) (zmC zt_X3_hasReached) = true := ⟨⟨rfl, Nat.le_of_ble_eq_true rfl, ⟨by decide +kernel, by decide +kernel⟩, by decide +kernel, by decide +kernel, rfl, rfl, by decide +kernel, rfl⟩, by decide +kernel⟩
set_option maxRecDepth 100000 in
theorem zh_X4_init : zmk0 zt_X4_init ∧ zmok zT (zmY zt_X4_init).cls (zmY zt_X4_init).name (zmB zt_X4_init) (zmC zt_X4_init) = true := ⟨⟨rfl, Nat.le_of_ble_eq_true rfl, ⟨by decide +kernel, by decide +kernel⟩, by decide +kernel, by decide +kernel, rfl, rfl, by decide +kernel, rfl⟩, by decide +kernel⟩
set_option maxRecDepth 100000 in
theorem zh_X4_read : zmk0 zt_X4_read ∧ zmok zT (zmY zt_X4_read).cls (zmY zt_X4_read).name (zmB zt_X4_read) (zmC zt_X4_read) = true := ⟨⟨rfl, Nat.le_of_ble_eq_true rfl, ⟨by decide +kernel, by decide +kernel⟩, by decide +kernel, by decide +kernel, rfl, rfl, by decide +kernel, rfl⟩, by decide +kernel⟩
set_option maxRecDepth 100000 in
theorem zh_X4_readRule : zmk0 zt_X4_readRule ∧ zmok zT (zmY zt_X4_readRule).cls (zmY zt_X4_readRule).name (zmB zt_X4_readRule) (zmC zt_X4_readRule) = true := ⟨⟨rfl, Nat.le_of_ble_eq_true rfl, ⟨by decide +kernel, by decide +kernel⟩, by decide +kernel, by decide +kernel, rfl, rfl, by decide +kernel, rfl⟩, by decide +kernel⟩
set_option maxRecDepth 100000 in
theorem zh_X4_readTest : zmk0 zt_X4_readTest ∧ zmok zT (zmY zt_X4_readTest).cls (zmY zt_X4_readTest).name (zmB zt_X4_readTest) (zmC zt_X4_readTest) = true := ⟨⟨rfl, Nat.le_of_ble_eq_true rfl, ⟨by decide +kernel, by decide +kernel⟩, by decide +kernel, by decide +kernel, rfl, rfl, by decide +kernel, rfl⟩, by decide +kernel⟩
set_option maxRecDepth 100000 in
theorem zh_X4_readPart : zmk0 zt_X4_readPart ∧ zmok zT (zmY zt_X4_readPart).cls (zmY zt_X4_readPart).name (zmB zt_X4_readPart) (zmC zt_X4_readPart) = true := ⟨⟨rfl, Nat.le_of_ble_eq_true rfl, ⟨by decide +kernel, by decide +kernel⟩, by decide +kernel, by decide +kernel, rfl, rfl, by decide +kernel, rfl⟩, by decide +kernel⟩
set_option maxRecDepth 100000 in
theorem zh_X4_readFact : zmk0 zt_X4_readFact ∧ zmok zT (zmY zt_X4_readFact).cls (zmY zt_X4_readFact).name (zmB zt_X4_readFact) (zmC zt_X4_readFact) = true := ⟨⟨rfl, Nat.le_of_ble_eq_true rfl, ⟨by decide +kernel, by decide +kernel⟩, by decide +kernel, by decide +kernel, rfl, rfl, by decide +kernel, rfl⟩, by decide +kernel⟩
set_option maxRecDepth 100000 in
theorem zh_X5_init : zmk0 zt_X5_init ∧ zmok zT (zmY zt_X5_init).cls (zmY zt_X5_init).name (zmB zt_X5_init) (zmC zt_X5_init) = true := ⟨⟨rfl, Nat.le_of_ble_eq_true rfl, ⟨by decide +kernel, by decide +kernel⟩, by decide +kernel, by decide +kernel, rfl, rfl, by decide +kernel, rfl⟩, by decide +kernel⟩
set_option maxRecDepth 100000 in
theorem zh_X5_showingFree : zmk0 zt_X5_showingFree ∧ zmok zT (zmY zt_X5_showingFree).cls (zmY zt_X5_showingFree).name (zmB zt_X5_showingFree) (zmC zt_X5_showingFree) = true := ⟨⟨rfl, Nat.le_of_ble_eq_true rfl, ⟨by decide +kernel, by decide +kernel⟩, by decide +kernel, by decide +kernel, rfl, rfl, by decide +kernel, rfl⟩, by decide +kernel⟩
set_option maxRecDepth 100000 in
theorem zh_X5_wipe : zmk0 zt_X5_wipe ∧ zmok zT (zmY zt_X5_wipe).cls (zmY zt_X5_wipe).name (zmB zt_X5_wipe) (zmC zt_X5_wipe) = true := ⟨⟨rfl, Nat.le_of_ble_eq_true rfl, ⟨by decide +kernel, by decide +kernel⟩, by decide +kernel, by decide +kernel, rfl, rfl, by decide +kernel, rfl⟩, by decide +kernel⟩
set_option maxRecDepth 100000 in
theorem zh_X5_copyFrom : zmk0 zt_X5_copyFrom ∧ zmok zT (zmY zt_X5_copyFrom).cls (zmY zt_X5_copyFrom).name (zmB zt_X5_copyFrom) (zmC zt_X5_copyFrom) = true := ⟨⟨rfl, Nat.le_of_ble_eq_true rfl, ⟨by decide +kernel, by decide +kernel⟩, by decide +kernel, by decide +kernel, rfl, rfl, by decide +kernel, rfl⟩, by decide +kernel⟩
set_option maxRecDepth 100000 in
theorem zh_X5_add : zmk0 zt_X5_add ∧ zmok zT (zmY zt_X5_add).cls (zmY zt_X5_add).name (zmB zt_X5_add) (zmC zt_X5_add) = true := ⟨⟨rfl, Nat.le_of_ble_eq_true rfl, ⟨by decide +kernel, by decide +kernel⟩, by decide +kernel, by decide +kernel, rfl, rfl, by decide +kernel, rfl⟩, by decide +kernel⟩
set_option maxRecDepth 100000 in
theorem zh_X5_size : zmk0 zt_X5_size ∧ zmok zT (zmY zt_X5_size).cls (zmY zt_X5_size).name (zmB zt_X5_size) (zmC zt_X5_size) = true := ⟨⟨rfl, Nat.le_of_ble_eq_true rfl, ⟨by decide +kernel, by decide +kernel⟩, by decide +kernel, by decide +kernel, rfl, rfl, by decide +kernel, rfl⟩, by decide +kernel⟩
set_option maxRecDepth 100000 in
theorem zh_X5_allow : zmk0 zt_X5_allow ∧ zmok zT (zmY zt_X5_allow).cls (zmY zt_X5_allow).name (zmB zt_X5_allow) (zmC zt_X5_allow) = true := ⟨⟨rfl, Nat.le_of_ble_eq_true rfl, ⟨by decide +kernel, by decide +kernel⟩, by decide +kernel, by decide +kernel, rfl, rfl, by decide +kernel, rfl⟩, by decide +kernel⟩
set_option maxRecDepth 100000 in
theorem zh_X6_init : zmk0 zt_X6_init ∧ zmok zT (zmY zt_X6_init).cls (zmY zt_X6_init).name (zmB zt_X6_init) (zmC zt_X6_init) = true := ⟨⟨rfl, Nat.le_of_ble_eq_true rfl, ⟨by decide +kernel, by decide +kernel⟩, by decide +kernel, by decide +kernel, rfl, rfl, by decide +kernel, rfl⟩, by decide +kernel⟩
set_option maxRecDepth 100000 in
theorem zh_X6_prepare : zmk0 zt_X6_prepare ∧ zmok zT (zmY zt_X6_prepare).cls (zmY zt_X6_prepare).name (zmB zt_X6_prepare) (zmC zt_X6_prepare) = true := ⟨⟨rfl, Nat.le_of_ble_eq_true rfl, ⟨by decide +kernel, by decide +kernel⟩, by decide +kernel, by decide +kernel, rfl, rfl, by decide +kernel, rfl⟩, by decide +kernel⟩
set_option maxRecDepth 100000 in
theorem zh_X6_find : zmk0 zt_X6_find ∧ zmok zT (zmY zt_X6_find).cls (zmY zt_X6_find).name (zmB zt_X6_find) (zmC zt_X6_find) = true := ⟨⟨rfl, Nat.le_of_ble_eq_true rfl, ⟨by decide +kernel, by decide +kernel⟩, by decide +kernel, by decide +kernel, rfl, rfl, by decide +kernel, rfl⟩, by decide +kernel⟩
set_option maxRecDepth 100000 in
theorem zh_X6_crashesNext : zmk0 zt_X6_crashesNext ∧ zmok zT (zmY zt_X6_crashesNext).cls (zmY zt_X6_crashesNext).name (zmB zt_X6_crashesNext) (zmC zt_X6_crashesNext) = true := ⟨⟨rfl, Nat.le_of_ble_eq_true rfl, ⟨by decide +kernel, by decide +kernel⟩, by decide +kernel, by decide +kernel, rfl, rfl, by decide +kernel, rfl⟩, by decide +kernel⟩
set_option maxRecDepth 100000 in
theorem zh_X6_stands : zmk0 zt_X6_stands ∧ zmok zT (zmY zt_X6_stands).cls (zmY zt_X6_stands).name (zmB zt_X6_stands) (zmC zt_X6_stands) = true := ⟨⟨rfl, Nat.le_of_ble_eq_true rfl, ⟨by decide +kernel, by decide +kernel⟩, by decide +kernel, by decide +kernel, rfl, rfl, by decide +kernel, rfl⟩, by decide +kernel⟩
set_option maxRecDepth 100000 in
theorem zh_X6_meetLeaving : zmk0 zt_X6_meetLeaving ∧ zmok zT (zmY zt_X6_meetLeaving).cls (zmY zt_X6_meetLeaving).name (zmB zt_X6_meetLeaving) (zmC zt_X6_meetLeaving) = true := ⟨⟨rfl, Nat.le_of_ble_eq_true rfl, ⟨by decide +kernel, by decide +kernel⟩, by decide +kernel, by decide +kernel, rfl, rfl, by decide +kernel, rfl⟩, by decide +kernel⟩
set_option maxRecDepth 100000 in
theorem zh_X6_meetLies : zmk0 zt_X6_meetLies ∧ zmok zT (zmY zt_X6_meetLies).cls (zmY zt_X6_meetLies).name (zmB zt_X6_meetLies) (zmC zt_X6_meetLies) = true := ⟨⟨rfl, Nat.le_of_ble_eq_true rfl, ⟨by decide +kernel, by decide +kernel⟩, by decide +kernel, by decide +kernel, rfl, rfl, by decide +kernel, rfl⟩, by decide +kernel⟩
set_option maxRecDepth 100000 in
theorem zh_X6_meet : zmk0 zt_X6_meet ∧ zmok zT (zmY zt_X6_meet).cls (zmY zt_X6_meet).name (zmB zt_X6_meet) (zmC zt_X6_meet) = true := ⟨⟨rfl, Nat.le_of_ble_eq_true rfl, ⟨by decide +kernel, by decide +kernel⟩, by decide +kernel, by decide +kernel, rfl, rfl, by decide +kernel, rfl⟩, by decide +kernel⟩
set_option maxRecDepth 100000 in
theorem zh_X6_mayLeave : zmk0 zt_X6_mayLeave ∧ zmok zT (zmY zt_X6_mayLeave).cls (zmY zt_X6_mayLeave).name (zmB zt_X6_mayLeave) (zmC zt_X6_mayLeave) = true := ⟨⟨rfl, Nat.le_of_ble_eq_true rfl, ⟨by decide +kernel, by decide +kernel⟩, by decide +kernel, by decide +kernel, rfl, rfl, by decide +kernel, rfl⟩, by decide +kernel⟩
set_option maxRecDepth 100000 in
theorem zh_X6_isIn : zmk0 zt_X6_isIn ∧ zmok zT (zmY zt_X6_isIn).cls (zmY zt_X6_isIn).name (zmB zt_X6_isIn) (zmC zt_X6_isIn) = true := ⟨⟨rfl, Nat.le_of_ble_eq_true rfl, ⟨by decide +kernel, by decide +kernel⟩, by decide +kernel, by decide +kernel, rfl, rfl, by decide +kernel, rfl⟩, by decide +kernel⟩
set_option maxRecDepth 100000 in
theorem zh_X6_nextTo : zmk0 zt_X6_nextTo ∧ zmok zT (zmY zt_X6_nextTo).cls (zmY zt_X6_nextTo).name (zmB zt_X6_nextTo) (zmC zt_X6_nextTo) = true := ⟨⟨rfl, Nat.le_of_ble_eq_true rfl, ⟨by decide +kernel, by decide +kernel⟩, by decide +kernel, by decide +kernel, rfl, rfl, by decide +kernel, rfl⟩, by decide +kernel⟩
set_option maxRecDepth 100000 in
theorem zh_X6_rowLength : zmk0 zt_X6_rowLength ∧ zmok zT (zmY zt_X6_rowLength).cls (zmY zt_X6_rowLength).name (zmB zt_X6_rowLength) (zmC zt_X6_rowLength) = true := ⟨⟨rfl, Nat.le_of_ble_eq_true rfl, ⟨by decide +kernel, by decide +kernel⟩, by decide +kernel, by decide +kernel, rfl, rfl, by decide +kernel, rfl⟩, by decide +kernel⟩
set_option maxRecDepth 100000 in
theorem zh_X6_event : zmk0 zt_X6_event ∧ zmok zT (zmY zt_X6_event).cls (zmY zt_X6_event).name (zmB zt_X6_event) (zmC zt_X6_event) = true := ⟨⟨rfl, Nat.le_of_ble_eq_true rfl, ⟨by decide +kernel, by decide +kernel⟩, by decide +kernel, by decide +kernel, rfl, rfl, by decide +kernel, rfl⟩, by decide +kernel⟩
set_option maxRecDepth 100000 in
theorem zh_X6_originOf : zmk0 zt_X6_originOf ∧ zmok zT (zmY zt_X6_originOf).cls (zmY zt_X6_originOf).name (zmB zt_X6_originOf) (zmC zt_X6_originOf) = true := ⟨⟨rfl, Nat.le_of_ble_eq_true rfl, ⟨by decide +kernel, by decide +kernel⟩, by decide +kernel, by decide +kernel, rfl, rfl, by decide +kernel, rfl⟩, by decide +kernel⟩
set_option maxRecDepth 100000 in
theorem zh_X7_init : zmk0 zt_X7_init ∧ zmok zT (zmY zt_X7_init).cls (zmY zt_X7_init).name (zmB zt_X7_init) (zmC zt_X7_init) = true := ⟨⟨rfl, Nat.le_of_ble_eq_true rfl, ⟨by decide +kernel, by decide +kernel⟩, by decide +kernel, by decide +kernel, rfl, rfl, by decide +kernel, rfl⟩, by decide +kernel⟩
set_option maxRecDepth 100000 in
theorem zh_X7_copyFrom : zmk0 zt_X7_copyFrom ∧ zmok zT (zmY zt_X7_copyFrom).cls (zmY zt_X7_copyFrom).name (zmB zt_X7_copyFrom) (zmC zt_X7_copyFrom) = true := ⟨⟨rfl, Nat.le_of_ble_eq_true rfl, ⟨by decide +kernel, by decide +kernel⟩, by decide +kernel, by decide +kernel, rfl, rfl, by decide +kernel, rfl⟩, by decide +kernel⟩
set_option maxRecDepth 100000 in
theorem zh_X7_wipe : zmk0 zt_X7_wipe ∧ zmok zT (zmY zt_X7_wipe).cls (zmY zt_X7_wipe).name (zmB zt_X7_wipe) (zmC zt_X7_wipe) = true := ⟨⟨rfl, Nat.le_of_ble_eq_true rfl, ⟨by decide +kernel, by decide +kernel⟩, by decide +kernel, by decide +kernel, rfl, rfl, by decide +kernel, rfl⟩, by decide +kernel⟩
set_option maxRecDepth 100000 in
theorem zh_X7_size : zmk0 zt_X7_size ∧ zmok zT (zmY zt_X7_size).cls (zmY zt_X7_size).name (zmB zt_X7_size) (zmC zt_X7_size) = true := ⟨⟨rfl, Nat.le_of_ble_eq_true rfl, ⟨by decide +kernel, by decide +kernel⟩, by decide +kernel, by decide +kernel, rfl, rfl, by decide +kernel, rfl⟩, by decide +kernel⟩
set_option maxRecDepth 100000 in
theorem zh_X7_isFull : zmk0 zt_X7_isFull ∧ zmok zT (zmY zt_X7_isFull).cls (zmY zt_X7_isFull).name (zmB zt_X7_isFull) (zmC zt_X7_isFull) = true := ⟨⟨rfl, Nat.le_of_ble_eq_true rfl, ⟨by decide +kernel, by decide +kernel⟩, by decide +kernel, by decide +kernel, rfl, rfl, by decide +kernel, rfl⟩, by decide +kernel⟩
set_option maxRecDepth 100000 in
theorem zh_X7_add : zmk0 zt_X7_add ∧ zmok zT (zmY zt_X7_add).cls (zmY zt_X7_add).name (zmB zt_X7_add) (zmC zt_X7_add) = true := ⟨⟨rfl, Nat.le_of_ble_eq_true rfl, ⟨by decide +kernel, by decide +kernel⟩, by decide +kernel, by decide +kernel, rfl, rfl, by decide +kernel, rfl⟩, by decide +kernel⟩
set_option maxRecDepth 100000 in
theorem zh_X7_addOr : zmk0 zt_X7_addOr ∧ zmok zT (zmY zt_X7_addOr).cls (zmY zt_X7_addOr).name (zmB zt_X7_addOr) (zmC zt_X7_addOr) = true := ⟨⟨rfl, Nat.le_of_ble_eq_true rfl, ⟨by decide +kernel, by decide +kernel⟩, by decide +kernel, by decide +kernel, rfl, rfl, by decide +kernel, rfl⟩, by decide +kernel⟩
set_option maxRecDepth 100000 in
theorem zh_X7_get : zmk0 zt_X7_get ∧ zmok zT (zmY zt_X7_get).cls (zmY zt_X7_get).name (zmB zt_X7_get) (zmC zt_X7_get) = true := ⟨⟨rfl, Nat.le_of_ble_eq_true rfl, ⟨by decide +kernel, by decide +kernel⟩, by decide +kernel, by decide +kernel, rfl, rfl, by decide +kernel, rfl⟩, by decide +kernel⟩
set_option maxRecDepth 100000 in
theorem zh_X7_set : zmk0 zt_X7_set ∧ zmok zT (zmY zt_X7_set).cls (zmY zt_X7_set).name (zmB zt_X7_set) (zmC zt_X7_set) = true := ⟨⟨rfl, Nat.le_of_ble_eq_true rfl, ⟨by decide +kernel, by decide +kernel⟩, by decide +kernel, by decide +kernel, rfl, rfl, by decide +kernel, rfl⟩, by decide +kernel⟩
set_option maxRecDepth 100000 in
theorem zh_X7_hasCell : zmk0 zt_X7_hasCell ∧ zmok zT (zmY zt_X7_hasCell).cls (zmY zt_X7_hasCell).name (zmB zt_X7_hasCell) (zmC zt_X7_hasCell) = true := ⟨⟨rfl, Nat.le_of_ble_eq_true rfl, ⟨by decide +kernel, by decide +kernel⟩, by decide +kernel, by decide +kernel, rfl, rfl, by decide +kernel, rfl⟩, by decide +kernel⟩
set_option maxRecDepth 100000 in
theorem zh_X7_find : zmk0 zt_X7_find ∧ zmok zT (zmY zt_X7_find).cls (zmY zt_X7_find).name (zmB zt_X7_find) (zmC zt_X7_find) = true := ⟨⟨rfl, Nat.le_of_ble_eq_true rfl, ⟨by decide +kernel, by decide +kernel⟩, by decide +kernel, by decide +kernel, rfl, rfl, by decide +kernel, rfl⟩, by decide +kernel⟩
set_option maxRecDepth 100000 in
theorem zh_X7_countOf : zmk0 zt_X7_countOf ∧ zmok zT (zmY zt_X7_countOf).cls (zmY zt_X7_countOf).name (zmB zt_X7_countOf) (zmC zt_X7_countOf) = true := ⟨⟨rfl, Nat.le_of_ble_eq_true rfl, ⟨by decide +kernel, by decide +kernel⟩, by decide +kernel, by decide +kernel, rfl, rfl, by decide +kernel, rfl⟩, by decide +kernel⟩
set_option maxRecDepth 100000 in
theorem zh_X7_union : zmk0 zt_X7_union ∧ zmok zT (zmY zt_X7_union).cls (zmY zt_X7_union).name (zmB zt_X7_union) (zmC zt_X7_union) = true := ⟨⟨rfl, Nat.le_of_ble_eq_true rfl, ⟨by decide +kernel, by decide +kernel⟩, by decide +kernel, by decide +kernel, rfl, rfl, by decide +kernel, rfl⟩, by decide +kernel⟩
set_option maxRecDepth 100000 in
theorem zh_X7_sum : zmk0 zt_X7_sum ∧ zmok zT (zmY zt_X7_sum).cls (zmY zt_X7_sum).name (zmB zt_X7_sum) (zmC zt_X7_sum) = true := ⟨⟨rfl, Nat.le_of_ble_eq_true rfl, ⟨by decide +kernel, by decide +kernel⟩, by decide +kernel, by decide +kernel, rfl, rfl, by decide +kernel, rfl⟩, by decide +kernel⟩
set_option maxRecDepth 100000 in
theorem zh_X8_init : zmk0 zt_X8_init ∧ zmok zT (zmY zt_X8_init).cls (zmY zt_X8_init).name (zmB zt_X8_init) (zmC zt_X8_init) = true := ⟨⟨rfl, Nat.le_of_ble_eq_true rfl, ⟨by decide +kernel, by decide +kernel⟩, by decide +kernel, by decide +kernel, rfl, rfl, by decide +kernel, rfl⟩, by decide +kernel⟩
set_option maxRecDepth 100000 in
theorem zh_X8_held : zmk0 zt_X8_held ∧ zmok zT (zmY zt_X8_held).cls (zmY zt_X8_held).name (zmB zt_X8_held) (zmC zt_X8_held) = true := ⟨⟨rfl, Nat.le_of_ble_eq_true rfl, ⟨by decide +kernel, by decide +kernel⟩, by decide +kernel, by decide +kernel, rfl, rfl, by decide +kernel, rfl⟩, by decide +kernel⟩
set_option maxRecDepth 100000 in
theorem zh_X8_hasRoom : zmk0 zt_X8_hasRoom ∧ zmok zT (zmY zt_X8_hasRoom).cls (zmY zt_X8_hasRoom).name (zmB zt_X8_hasRoom) (zmC zt_X8_hasRoom) = true := ⟨⟨rfl, Nat.le_of_ble_eq_true rfl, ⟨by decide +kernel, by decide +kernel⟩, by decide +kernel, by decide +kernel, rfl, rfl, by decide +kernel, rfl⟩, by decide +kernel⟩
set_option maxRecDepth 100000 in
theorem zh_X8_addFour : zmk0 zt_X8_addFour ∧ zmok zT (zmY zt_X8_addFour).cls (zmY zt_X8_addFour).name (zmB zt_X8_addFour) (zmC zt_X8_addFour) = true := ⟨⟨rfl, Nat.le_of_ble_eq_true rfl, ⟨by decide +kernel, by decide +kernel⟩, by decide +kernel, by decide +kernel, rfl, rfl, by decide +kernel, rfl⟩, by decide +kernel⟩
set_option maxRecDepth 100000 in
theorem zh_X8_empty : zmk0 zt_X8_empty ∧ zmok zT (zmY zt_X8_empty).cls (zmY zt_X8_empty).name (zmB zt_X8_empty) (zmC zt_X8_empty) = true := ⟨⟨rfl, Nat.le_of_ble_eq_true rfl, ⟨by decide +kernel, by decide +kernel⟩, by decide +kernel, by decide +kernel, rfl, rfl, by decide +kernel, rfl⟩, by decide +kernel⟩
set_option maxRecDepth 100000 in
theorem zh_X8_begin : zmk0 zt_X8_begin ∧ zmok zT (zmY zt_X8_begin).cls (zmY zt_X8_begin).name (zmB zt_X8_begin) (zmC zt_X8_begin) = true := ⟨⟨rfl, Nat.le_of_ble_eq_true rfl, ⟨by decide +kernel, by decide +kernel⟩, by decide +kernel, by decide +kernel, rfl, rfl, by decide +kernel, rfl⟩, by decide +kernel⟩
set_option maxRecDepth 100000 in
theorem zh_X8_skipBlanks : zmk0 zt_X8_skipBlanks ∧ zmok zT (zmY zt_X8_skipBlanks).cls (zmY zt_X8_skipBlanks).name (zmB zt_X8_skipBlanks) (zmC zt_X8_skipBlanks) = true := ⟨⟨rfl, Nat.le_of_ble_eq_true rfl, ⟨by decide +kernel, by decide +kernel⟩, by decide +kernel, by decide +kernel, rfl, rfl, by decide +kernel, rfl⟩, by decide +kernel⟩
set_option maxRecDepth 100000 in
theorem zh_X8_scan : zmk0 zt_X8_scan ∧ zmok zT (zmY zt_X8_scan).cls (zmY zt_X8_scan).name (zmB zt_X8_scan) (zmC zt_X8_scan) = true := ⟨⟨rfl, Nat.le_of_ble_eq_true rfl, ⟨by decide +kernel, by decide +kernel⟩, by decide +kernel, by decide +kernel, rfl, rfl, by decide +kernel, rfl⟩, by decide +kernel⟩
set_option maxRecDepth 100000 in
theorem zh_X8_scanWord : zmk0 zt_X8_scanWord ∧ zmok zT (zmY zt_X8_scanWord).cls (zmY zt_X8_scanWord).name (zmB zt_X8_scanWord) (zmC zt_X8_scanWord) = true := ⟨⟨rfl, Nat.le_of_ble_eq_true rfl, ⟨by decide +kernel, by decide +kernel⟩, by decide +kernel, by decide +kernel, rfl, rfl, by decide +kernel, rfl⟩, by decide +kernel⟩
set_option maxRecDepth 100000 in
theorem zh_X8_scanNumber : zmk0 zt_X8_scanNumber ∧ zmok zT (zmY zt_X8_scanNumber).cls (zmY zt_X8_scanNumber).name (zmB zt_X8_scanNumber) (zmC zt_X8_scanNumber) = true := ⟨⟨rfl, Nat.le_of_ble_eq_true rfl, ⟨by decide +kernel, by decide +kernel⟩, by decide +kernel, by decide +kernel, rfl, rfl, by decide +kernel, rfl⟩, by decide +kernel⟩
set_option maxRecDepth 100000 in
theorem zh_X8_put : zmk0 zt_X8_put ∧ zmok zT (zmY zt_X8_put).cls (zmY zt_X8_put).name (zmB zt_X8_put) (zmC zt_X8_put) = true := ⟨⟨rfl, Nat.le_of_ble_eq_true rfl, ⟨by decide +kernel, by decide +kernel⟩, by decide +kernel, by decide +kernel, rfl, rfl, by decide +kernel, rfl⟩, by decide +kernel⟩
set_option maxRecDepth 100000 in
theorem zh_X8_faultKind : zmk0 zt_X8_faultKind ∧ zmok zT (zmY zt_X8_faultKind).cls (zmY zt_X8_faultKind).name (zmB zt_X8_faultKind) (zmC zt_X8_faultKind) = true := ⟨⟨rfl, Nat.le_of_ble_eq_true rfl, ⟨by decide +kernel, by decide +kernel⟩, by decide +kernel, by decide +kernel, rfl, rfl, by decide +kernel, rfl⟩, by decide +kernel⟩
set_option maxRecDepth 100000 in
theorem zh_X8_faultPlace : zmk0 zt_X8_faultPlace ∧ zmok zT (zmY zt_X8_faultPlace).cls (zmY zt_X8_faultPlace).name (zmB zt_X8_faultPlace) (zmC zt_X8_faultPlace) = true := ⟨⟨rfl, Nat.le_of_ble_eq_true rfl, ⟨by decide +kernel, by decide +kernel⟩, by decide +kernel, by decide +kernel, rfl, rfl, by decide +kernel, rfl⟩, by decide +kernel⟩
set_option maxRecDepth 100000 in
theorem zh_X8_isSound : zmk0 zt_X8_isSound ∧ zmok zT (zmY zt_X8_isSound).cls (zmY zt_X8_isSound).name (zmB zt_X8_isSound) (zmC zt_X8_isSound) = true := ⟨⟨rfl, Nat.le_of_ble_eq_true rfl, ⟨by decide +kernel, by decide +kernel⟩, by decide +kernel, by decide +kernel, rfl, rfl, by decide +kernel, rfl⟩, by decide +kernel⟩
set_option maxRecDepth 100000 in
theorem zh_X8_isAtEnd : zmk0 zt_X8_isAtEnd ∧ zmok zT (zmY zt_X8_isAtEnd).cls (zmY zt_X8_isAtEnd).name (zmB zt_X8_isAtEnd) (zmC zt_X8_isAtEnd) = true := ⟨⟨rfl, Nat.le_of_ble_eq_true rfl, ⟨by decide +kernel, by decide +kernel⟩, by decide +kernel, by decide +kernel, rfl, rfl, by decide +kernel, rfl⟩, by decide +kernel⟩
set_option maxRecDepth 100000 in
theorem zh_X8_isNumber : zmk0 zt_X8_isNumber ∧ zmok zT (zmY zt_X8_isNumber).cls (zmY zt_X8_isNumber).name (zmB zt_X8_isNumber) (zmC zt_X8_isNumber) = true := ⟨⟨rfl, Nat.le_of_ble_eq_true rfl, ⟨by decide +kernel, by decide +kernel⟩, by decide +kernel, by decide +kernel, rfl, rfl, by decide +kernel, rfl⟩, by decide +kernel⟩
set_option maxRecDepth 100000 in
theorem zh_X8_isSign : zmk0 zt_X8_isSign ∧ zmok zT (zmY zt_X8_isSign).cls (zmY zt_X8_isSign).name (zmB zt_X8_isSign) (zmC zt_X8_isSign) = true := ⟨⟨rfl, Nat.le_of_ble_eq_true rfl, ⟨by decide +kernel, by decide +kernel⟩, by decide +kernel, by decide +kernel, rfl, rfl, by decide +kernel, rfl⟩, by decide +kernel⟩
set_option maxRecDepth 100000 in
theorem zh_X8_isWord : zmk0 zt_X8_isWord ∧ zmok zT (zmY zt_X8_isWord).cls (zmY zt_X8_isWord).name (zmB zt_X8_isWord) (zmC zt_X8_isWord) = true := ⟨⟨rfl, Nat.le_of_ble_eq_true rfl, ⟨by decide +kernel, by decide +kernel⟩, by decide +kernel, by decide +kernel, rfl, rfl, by decide +kernel, rfl⟩, by decide +kernel⟩
set_option maxRecDepth 100000 in
theorem zh_X8_fail : zmk0 zt_X8_fail ∧ zmok zT (zmY zt_X8_fail).cls (zmY zt_X8_fail).name (zmB zt_X8_fail) (zmC zt_X8_fail) = true := ⟨⟨rfl, Nat.le_of_ble_eq_true rfl, ⟨by decide +kernel, by decide +kernel⟩, by decide +kernel, by decide +kernel, rfl, rfl, by decide +kernel, rfl⟩, by decide +kernel⟩
set_option maxRecDepth 100000 in
theorem zh_X8_takeWord : zmk0 zt_X8_takeWord ∧ zmok zT (zmY zt_X8_takeWord).cls (zmY zt_X8_takeWord).name (zmB zt_X8_takeWord) (zmC zt_X8_takeWord) = true := ⟨⟨rfl, Nat.le_of_ble_eq_true rfl, ⟨by decide +kernel, by decide +kernel⟩, by decide +kernel, by decide +kernel, rfl, rfl, by decide +kernel, rfl⟩, by decide +kernel⟩
