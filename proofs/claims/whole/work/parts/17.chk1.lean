set_option maxRecDepth 100000 in
theorem zh_X8_takeSign : zmk0 zt_X8_takeSign ∧ zmok zT (zmY zt_X8_takeSign).cls (zmY zt_X8_takeSign).name (zmB zt_X8_takeSign) (zmC zt_X8_takeSign) = true := ⟨⟨rfl, Nat.le_of_ble_eq_true rfl, ⟨by decide +kernel, by decide +kernel⟩, by decide +kernel, by decide +kernel, rfl, rfl, by decide +kernel, rfl⟩, by decide +kernel⟩
set_option maxRecDepth 100000 in
theorem zh_X8_takeNumber : zmk0 zt_X8_takeNumber ∧ zmok zT (zmY zt_X8_takeNumber).cls (zmY zt_X8_takeNumber).name (zmB zt_X8_takeNumber) (zmC zt_X8_takeNumber) = true := ⟨⟨rfl, Nat.le_of_ble_eq_true rfl, ⟨by decide +kernel, by decide +kernel⟩, by decide +kernel, by decide +kernel, rfl, rfl, by decide +kernel, rfl⟩, by decide +kernel⟩
set_option maxRecDepth 100000 in
theorem zh_X8_advance : zmk0 zt_X8_advance ∧ zmok zT (zmY zt_X8_advance).cls (zmY zt_X8_advance).name (zmB zt_X8_advance) (zmC zt_X8_advance) = true := ⟨⟨rfl, Nat.le_of_ble_eq_true rfl, ⟨by decide +kernel, by decide +kernel⟩, by decide +kernel, by decide +kernel, rfl, rfl, by decide +kernel, rfl⟩, by decide +kernel⟩
set_option maxRecDepth 100000 in
theorem zh_X8_byteAt : zmk0 zt_X8_byteAt ∧ zmok zT (zmY zt_X8_byteAt).cls (zmY zt_X8_byteAt).name (zmB zt_X8_byteAt) (zmC zt_X8_byteAt) = true := ⟨⟨rfl, Nat.le_of_ble_eq_true rfl, ⟨by decide +kernel, by decide +kernel⟩, by decide +kernel, by decide +kernel, rfl, rfl, by decide +kernel, rfl⟩, by decide +kernel⟩
set_option maxRecDepth 100000 in
theorem zh_X8_isBlank : zmk0 zt_X8_isBlank ∧ zmok zT (zmY zt_X8_isBlank).cls (zmY zt_X8_isBlank).name (zmB zt_X8_isBlank) (zmC zt_X8_isBlank) = true := ⟨⟨rfl, Nat.le_of_ble_eq_true rfl, ⟨by decide +kernel, by decide +kernel⟩, by decide +kernel, by decide +kernel, rfl, rfl, by decide +kernel, rfl⟩, by decide +kernel⟩
set_option maxRecDepth 100000 in
theorem zh_X8_isLetter : zmk0 zt_X8_isLetter ∧ zmok zT (zmY zt_X8_isLetter).cls (zmY zt_X8_isLetter).name (zmB zt_X8_isLetter) (zmC zt_X8_isLetter) = true := ⟨⟨rfl, Nat.le_of_ble_eq_true rfl, ⟨by decide +kernel, by decide +kernel⟩, by decide +kernel, by decide +kernel, rfl, rfl, by decide +kernel, rfl⟩, by decide +kernel⟩
set_option maxRecDepth 100000 in
theorem zh_X8_isDigit : zmk0 zt_X8_isDigit ∧ zmok zT (zmY zt_X8_isDigit).cls (zmY zt_X8_isDigit).name (zmB zt_X8_isDigit) (zmC zt_X8_isDigit) = true := ⟨⟨rfl, Nat.le_of_ble_eq_true rfl, ⟨by decide +kernel, by decide +kernel⟩, by decide +kernel, by decide +kernel, rfl, rfl, by decide +kernel, rfl⟩, by decide +kernel⟩
set_option maxRecDepth 100000 in
theorem zh_X9_init : zmk0 zt_X9_init ∧ zmok zT (zmY zt_X9_init).cls (zmY zt_X9_init).name (zmB zt_X9_init) (zmC zt_X9_init) = true := ⟨⟨rfl, Nat.le_of_ble_eq_true rfl, ⟨by decide +kernel, by decide +kernel⟩, by decide +kernel, by decide +kernel, rfl, rfl, by decide +kernel, rfl⟩, by decide +kernel⟩
set_option maxRecDepth 100000 in
theorem zh_X9_wipe : zmk0 zt_X9_wipe ∧ zmok zT (zmY zt_X9_wipe).cls (zmY zt_X9_wipe).name (zmB zt_X9_wipe) (zmC zt_X9_wipe) = true := ⟨⟨rfl, Nat.le_of_ble_eq_true rfl, ⟨by decide +kernel, by decide +kernel⟩, by decide +kernel, by decide +kernel, rfl, rfl, by decide +kernel, rfl⟩, by decide +kernel⟩
set_option maxRecDepth 100000 in
theorem zh_X9_copyFrom : zmk0 zt_X9_copyFrom ∧ zmok zT (zmY zt_X9_copyFrom).cls (zmY zt_X9_copyFrom).name (zmB zt_X9_copyFrom) (zmC zt_X9_copyFrom) = true := ⟨⟨rfl, Nat.le_of_ble_eq_true rfl, ⟨by decide +kernel, by decide +kernel⟩, by decide +kernel, by decide +kernel, rfl, rfl, by decide +kernel, rfl⟩, by decide +kernel⟩
set_option maxRecDepth 100000 in
theorem zh_X9_addPoint : zmk0 zt_X9_addPoint ∧ zmok zT (zmY zt_X9_addPoint).cls (zmY zt_X9_addPoint).name (zmB zt_X9_addPoint) (zmC zt_X9_addPoint) = true := ⟨⟨rfl, Nat.le_of_ble_eq_true rfl, ⟨by decide +kernel, by decide +kernel⟩, by decide +kernel, by decide +kernel, rfl, rfl, by decide +kernel, rfl⟩, by decide +kernel⟩
set_option maxRecDepth 100000 in
theorem zh_X9_addSplit : zmk0 zt_X9_addSplit ∧ zmok zT (zmY zt_X9_addSplit).cls (zmY zt_X9_addSplit).name (zmB zt_X9_addSplit) (zmC zt_X9_addSplit) = true := ⟨⟨rfl, Nat.le_of_ble_eq_true rfl, ⟨by decide +kernel, by decide +kernel⟩, by decide +kernel, by decide +kernel, rfl, rfl, by decide +kernel, rfl⟩, by decide +kernel⟩
set_option maxRecDepth 100000 in
theorem zh_X9_addChain : zmk0 zt_X9_addChain ∧ zmok zT (zmY zt_X9_addChain).cls (zmY zt_X9_addChain).name (zmB zt_X9_addChain) (zmC zt_X9_addChain) = true := ⟨⟨rfl, Nat.le_of_ble_eq_true rfl, ⟨by decide +kernel, by decide +kernel⟩, by decide +kernel, by decide +kernel, rfl, rfl, by decide +kernel, rfl⟩, by decide +kernel⟩
set_option maxRecDepth 100000 in
theorem zh_X9_addDog : zmk0 zt_X9_addDog ∧ zmok zT (zmY zt_X9_addDog).cls (zmY zt_X9_addDog).name (zmB zt_X9_addDog) (zmC zt_X9_addDog) = true := ⟨⟨rfl, Nat.le_of_ble_eq_true rfl, ⟨by decide +kernel, by decide +kernel⟩, by decide +kernel, by decide +kernel, rfl, rfl, by decide +kernel, rfl⟩, by decide +kernel⟩
set_option maxRecDepth 100000 in
theorem zh_X9_pointBits : zmk0 zt_X9_pointBits ∧ zmok zT (zmY zt_X9_pointBits).cls (zmY zt_X9_pointBits).name (zmB zt_X9_pointBits) (zmC zt_X9_pointBits) = true := ⟨⟨rfl, Nat.le_of_ble_eq_true rfl, ⟨by decide +kernel, by decide +kernel⟩, by decide +kernel, by decide +kernel, rfl, rfl, by decide +kernel, rfl⟩, by decide +kernel⟩
set_option maxRecDepth 100000 in
theorem zh_X9_setDrag : zmk0 zt_X9_setDrag ∧ zmok zT (zmY zt_X9_setDrag).cls (zmY zt_X9_setDrag).name (zmB zt_X9_setDrag) (zmC zt_X9_setDrag) = true := ⟨⟨rfl, Nat.le_of_ble_eq_true rfl, ⟨by decide +kernel, by decide +kernel⟩, by decide +kernel, by decide +kernel, rfl, rfl, by decide +kernel, rfl⟩, by decide +kernel⟩
set_option maxRecDepth 100000 in
theorem zh_X9_setPush : zmk0 zt_X9_setPush ∧ zmok zT (zmY zt_X9_setPush).cls (zmY zt_X9_setPush).name (zmB zt_X9_setPush) (zmC zt_X9_setPush) = true := ⟨⟨rfl, Nat.le_of_ble_eq_true rfl, ⟨by decide +kernel, by decide +kernel⟩, by decide +kernel, by decide +kernel, rfl, rfl, by decide +kernel, rfl⟩, by decide +kernel⟩
set_option maxRecDepth 100000 in
theorem zh_X9_points : zmk0 zt_X9_points ∧ zmok zT (zmY zt_X9_points).cls (zmY zt_X9_points).name (zmB zt_X9_points) (zmC zt_X9_points) = true := ⟨⟨rfl, Nat.le_of_ble_eq_true rfl, ⟨by decide +kernel, by decide +kernel⟩, by decide +kernel, by decide +kernel, rfl, rfl, by decide +kernel, rfl⟩, by decide +kernel⟩
set_option maxRecDepth 100000 in
theorem zh_X9_blocks : zmk0 zt_X9_blocks ∧ zmok zT (zmY zt_X9_blocks).cls (zmY zt_X9_blocks).name (zmB zt_X9_blocks) (zmC zt_X9_blocks) = true := ⟨⟨rfl, Nat.le_of_ble_eq_true rfl, ⟨by decide +kernel, by decide +kernel⟩, by decide +kernel, by decide +kernel, rfl, rfl, by decide +kernel, rfl⟩, by decide +kernel⟩
set_option maxRecDepth 100000 in
theorem zh_X9_blockBits : zmk0 zt_X9_blockBits ∧ zmok zT (zmY zt_X9_blockBits).cls (zmY zt_X9_blockBits).name (zmB zt_X9_blockBits) (zmC zt_X9_blockBits) = true := ⟨⟨rfl, Nat.le_of_ble_eq_true rfl, ⟨by decide +kernel, by decide +kernel⟩, by decide +kernel, by decide +kernel, rfl, rfl, by decide +kernel, rfl⟩, by decide +kernel⟩
set_option maxRecDepth 100000 in
theorem zh_X9_chains : zmk0 zt_X9_chains ∧ zmok zT (zmY zt_X9_chains).cls (zmY zt_X9_chains).name (zmB zt_X9_chains) (zmC zt_X9_chains) = true := ⟨⟨rfl, Nat.le_of_ble_eq_true rfl, ⟨by decide +kernel, by decide +kernel⟩, by decide +kernel, by decide +kernel, rfl, rfl, by decide +kernel, rfl⟩, by decide +kernel⟩
set_option maxRecDepth 100000 in
theorem zh_X9_dogs : zmk0 zt_X9_dogs ∧ zmok zT (zmY zt_X9_dogs).cls (zmY zt_X9_dogs).name (zmB zt_X9_dogs) (zmC zt_X9_dogs) = true := ⟨⟨rfl, Nat.le_of_ble_eq_true rfl, ⟨by decide +kernel, by decide +kernel⟩, by decide +kernel, by decide +kernel, rfl, rfl, by decide +kernel, rfl⟩, by decide +kernel⟩
set_option maxRecDepth 100000 in
theorem zh_X9_drag : zmk0 zt_X9_drag ∧ zmok zT (zmY zt_X9_drag).cls (zmY zt_X9_drag).name (zmB zt_X9_drag) (zmC zt_X9_drag) = true := ⟨⟨rfl, Nat.le_of_ble_eq_true rfl, ⟨by decide +kernel, by decide +kernel⟩, by decide +kernel, by decide +kernel, rfl, rfl, by decide +kernel, rfl⟩, by decide +kernel⟩
set_option maxRecDepth 100000 in
theorem zh_X9_push : zmk0 zt_X9_push ∧ zmok zT (zmY zt_X9_push).cls (zmY zt_X9_push).name (zmB zt_X9_push) (zmC zt_X9_push) = true := ⟨⟨rfl, Nat.le_of_ble_eq_true rfl, ⟨by decide +kernel, by decide +kernel⟩, by decide +kernel, by decide +kernel, rfl, rfl, by decide +kernel, rfl⟩, by decide +kernel⟩
set_option maxRecDepth 100000 in
theorem zh_X9_height : zmk0 zt_X9_height ∧ zmok zT (zmY zt_X9_height).cls (zmY zt_X9_height).name (zmB zt_X9_height) (zmC zt_X9_height) = true := ⟨⟨rfl, Nat.le_of_ble_eq_true rfl, ⟨by decide +kernel, by decide +kernel⟩, by decide +kernel, by decide +kernel, rfl, rfl, by decide +kernel, rfl⟩, by decide +kernel⟩
set_option maxRecDepth 100000 in
theorem zh_X9_chainAt : zmk0 zt_X9_chainAt ∧ zmok zT (zmY zt_X9_chainAt).cls (zmY zt_X9_chainAt).name (zmB zt_X9_chainAt) (zmC zt_X9_chainAt) = true := ⟨⟨rfl, Nat.le_of_ble_eq_true rfl, ⟨by decide +kernel, by decide +kernel⟩, by decide +kernel, by decide +kernel, rfl, rfl, by decide +kernel, rfl⟩, by decide +kernel⟩
set_option maxRecDepth 100000 in
theorem zh_X9_chainPace : zmk0 zt_X9_chainPace ∧ zmok zT (zmY zt_X9_chainPace).cls (zmY zt_X9_chainPace).name (zmB zt_X9_chainPace) (zmC zt_X9_chainPace) = true := ⟨⟨rfl, Nat.le_of_ble_eq_true rfl, ⟨by decide +kernel, by decide +kernel⟩, by decide +kernel, by decide +kernel, rfl, rfl, by decide +kernel, rfl⟩, by decide +kernel⟩
set_option maxRecDepth 100000 in
theorem zh_X9_hasDogAt : zmk0 zt_X9_hasDogAt ∧ zmok zT (zmY zt_X9_hasDogAt).cls (zmY zt_X9_hasDogAt).name (zmB zt_X9_hasDogAt) (zmC zt_X9_hasDogAt) = true := ⟨⟨rfl, Nat.le_of_ble_eq_true rfl, ⟨by decide +kernel, by decide +kernel⟩, by decide +kernel, by decide +kernel, rfl, rfl, by decide +kernel, rfl⟩, by decide +kernel⟩
set_option maxRecDepth 100000 in
theorem zh_X9_lastSplit : zmk0 zt_X9_lastSplit ∧ zmok zT (zmY zt_X9_lastSplit).cls (zmY zt_X9_lastSplit).name (zmB zt_X9_lastSplit) (zmC zt_X9_lastSplit) = true := ⟨⟨rfl, Nat.le_of_ble_eq_true rfl, ⟨by decide +kernel, by decide +kernel⟩, by decide +kernel, by decide +kernel, rfl, rfl, by decide +kernel, rfl⟩, by decide +kernel⟩
set_option maxRecDepth 100000 in
theorem zh_X9_blockStart : zmk0 zt_X9_blockStart ∧ zmok zT (zmY zt_X9_blockStart).cls (zmY zt_X9_blockStart).name (zmB zt_X9_blockStart) (zmC zt_X9_blockStart) = true := ⟨⟨rfl, Nat.le_of_ble_eq_true rfl, ⟨by decide +kernel, by decide +kernel⟩, by decide +kernel, by decide +kernel, rfl, rfl, by decide +kernel, rfl⟩, by decide +kernel⟩
set_option maxRecDepth 100000 in
theorem zh_X9_blockEnd : zmk0 zt_X9_blockEnd ∧ zmok zT (zmY zt_X9_blockEnd).cls (zmY zt_X9_blockEnd).name (zmB zt_X9_blockEnd) (zmC zt_X9_blockEnd) = true := ⟨⟨rfl, Nat.le_of_ble_eq_true rfl, ⟨by decide +kernel, by decide +kernel⟩, by decide +kernel, by decide +kernel, rfl, rfl, by decide +kernel, rfl⟩, by decide +kernel⟩
set_option maxRecDepth 100000 in
theorem zh_X9_blockOf : zmk0 zt_X9_blockOf ∧ zmok zT (zmY zt_X9_blockOf).cls (zmY zt_X9_blockOf).name (zmB zt_X9_blockOf) (zmC zt_X9_blockOf) = true := ⟨⟨rfl, Nat.le_of_ble_eq_true rfl, ⟨by decide +kernel, by decide +kernel⟩, by decide +kernel, by decide +kernel, rfl, rfl, by decide +kernel, rfl⟩, by decide +kernel⟩
set_option maxRecDepth 100000 in
theorem zh_X9_walkBetween : zmk0 zt_X9_walkBetween ∧ zmok zT (zmY zt_X9_walkBetween).cls (zmY zt_X9_walkBetween).name (zmB zt_X9_walkBetween) (zmC zt_X9_walkBetween) = true := ⟨⟨rfl, Nat.le_of_ble_eq_true rfl, ⟨by decide +kernel, by decide +kernel⟩, by decide +kernel, by decide +kernel, rfl, rfl, by decide +kernel, rfl⟩, by decide +kernel⟩
set_option maxRecDepth 100000 in
theorem zh_X10_init : zmk0 zt_X10_init ∧ zmok zT (zmY zt_X10_init).cls (zmY zt_X10_init).name (zmB zt_X10_init) (zmC zt_X10_init) = true := ⟨⟨rfl, Nat.le_of_ble_eq_true rfl, ⟨by decide +kernel, by decide +kernel⟩, by decide +kernel, by decide +kernel, rfl, rfl, by decide +kernel, rfl⟩, by decide +kernel⟩
set_option maxRecDepth 100000 in
theorem zh_X10_read : zmk0 zt_X10_read ∧ zmok zT (zmY zt_X10_read).cls (zmY zt_X10_read).name (zmB zt_X10_read) (zmC zt_X10_read) = true := ⟨⟨rfl, Nat.le_of_ble_eq_true rfl, ⟨by decide +kernel, by decide +kernel⟩, by decide +kernel, by decide +kernel, rfl, rfl, by decide +kernel, rfl⟩, by decide +kernel⟩
set_option maxRecDepth 100000 in
theorem zh_X10_readLine : zmk0 zt_X10_readLine ∧ zmok zT (zmY zt_X10_readLine).cls (zmY zt_X10_readLine).name (zmB zt_X10_readLine) (zmC zt_X10_readLine) = true := ⟨⟨rfl, Nat.le_of_ble_eq_true rfl, ⟨by decide +kernel, by decide +kernel⟩, by decide +kernel, by decide +kernel, rfl, rfl, by decide +kernel, rfl⟩, by decide +kernel⟩
set_option maxRecDepth 100000 in
theorem zh_X10_readHeights : zmk0 zt_X10_readHeights ∧ zmok zT (zmY zt_X10_readHeights).cls (zmY zt_X10_readHeights).name (zmB zt_X10_readHeights) (zmC zt_X10_readHeights) = true := ⟨⟨rfl, Nat.le_of_ble_eq_true rfl, ⟨by decide +kernel, by decide +kernel⟩, by decide +kernel, by decide +kernel, rfl, rfl, by decide +kernel, rfl⟩, by decide +kernel⟩
set_option maxRecDepth 100000 in
theorem zh_X10_readBlock : zmk0 zt_X10_readBlock ∧ zmok zT (zmY zt_X10_readBlock).cls (zmY zt_X10_readBlock).name (zmB zt_X10_readBlock) (zmC zt_X10_readBlock) = true := ⟨⟨rfl, Nat.le_of_ble_eq_true rfl, ⟨by decide +kernel, by decide +kernel⟩, by decide +kernel, by decide +kernel, rfl, rfl, by decide +kernel, rfl⟩, by decide +kernel⟩
set_option maxRecDepth 100000 in
theorem zh_X10_readChain : zmk0 zt_X10_readChain ∧ zmok zT (zmY zt_X10_readChain).cls (zmY zt_X10_readChain).name (zmB zt_X10_readChain) (zmC zt_X10_readChain) = true := ⟨⟨rfl, Nat.le_of_ble_eq_true rfl, ⟨by decide +kernel, by decide +kernel⟩, by decide +kernel, by decide +kernel, rfl, rfl, by decide +kernel, rfl⟩, by decide +kernel⟩
set_option maxRecDepth 100000 in
theorem zh_X10_readDog : zmk0 zt_X10_readDog ∧ zmok zT (zmY zt_X10_readDog).cls (zmY zt_X10_readDog).name (zmB zt_X10_readDog) (zmC zt_X10_readDog) = true := ⟨⟨rfl, Nat.le_of_ble_eq_true rfl, ⟨by decide +kernel, by decide +kernel⟩, by decide +kernel, by decide +kernel, rfl, rfl, by decide +kernel, rfl⟩, by decide +kernel⟩
set_option maxRecDepth 100000 in
theorem zh_X10_readDrag : zmk0 zt_X10_readDrag ∧ zmok zT (zmY zt_X10_readDrag).cls (zmY zt_X10_readDrag).name (zmB zt_X10_readDrag) (zmC zt_X10_readDrag) = true := ⟨⟨rfl, Nat.le_of_ble_eq_true rfl, ⟨by decide +kernel, by decide +kernel⟩, by decide +kernel, by decide +kernel, rfl, rfl, by decide +kernel, rfl⟩, by decide +kernel⟩
set_option maxRecDepth 100000 in
theorem zh_X10_readPush : zmk0 zt_X10_readPush ∧ zmok zT (zmY zt_X10_readPush).cls (zmY zt_X10_readPush).name (zmB zt_X10_readPush) (zmC zt_X10_readPush) = true := ⟨⟨rfl, Nat.le_of_ble_eq_true rfl, ⟨by decide +kernel, by decide +kernel⟩, by decide +kernel, by decide +kernel, rfl, rfl, by decide +kernel, rfl⟩, by decide +kernel⟩
set_option maxRecDepth 100000 in
theorem zh_X11_init : zmk0 zt_X11_init ∧ zmok zT (zmY zt_X11_init).cls (zmY zt_X11_init).name (zmB zt_X11_init) (zmC zt_X11_init) = true := ⟨⟨rfl, Nat.le_of_ble_eq_true rfl, ⟨by decide +kernel, by decide +kernel⟩, by decide +kernel, by decide +kernel, rfl, rfl, by decide +kernel, rfl⟩, by decide +kernel⟩
set_option maxRecDepth 100000 in
theorem zh_X11_feed : zmk0 zt_X11_feed ∧ zmok zT (zmY zt_X11_feed).cls (zmY zt_X11_feed).name (zmB zt_X11_feed) (zmC zt_X11_feed) = true := ⟨⟨rfl, Nat.le_of_ble_eq_true rfl, ⟨by decide +kernel, by decide +kernel⟩, by decide +kernel, by decide +kernel, rfl, rfl, by decide +kernel, rfl⟩, by decide +kernel⟩
set_option maxRecDepth 100000 in
theorem zh_X11_text : zmk0 zt_X11_text ∧ zmok zT (zmY zt_X11_text).cls (zmY zt_X11_text).name (zmB zt_X11_text) (zmC zt_X11_text) = true := ⟨⟨rfl, Nat.le_of_ble_eq_true rfl, ⟨by decide +kernel, by decide +kernel⟩, by decide +kernel, by decide +kernel, rfl, rfl, by decide +kernel, rfl⟩, by decide +kernel⟩
set_option maxRecDepth 100000 in
theorem zh_X11_tellTrack : zmk0 zt_X11_tellTrack ∧ zmok zT (zmY zt_X11_tellTrack).cls (zmY zt_X11_tellTrack).name (zmB zt_X11_tellTrack) (zmC zt_X11_tellTrack) = true := ⟨⟨rfl, Nat.le_of_ble_eq_true rfl, ⟨by decide +kernel, by decide +kernel⟩, by decide +kernel, by decide +kernel, rfl, rfl, by decide +kernel, rfl⟩, by decide +kernel⟩
set_option maxRecDepth 100000 in
theorem zh_X11_tellRules : zmk0 zt_X11_tellRules ∧ zmok zT (zmY zt_X11_tellRules).cls (zmY zt_X11_tellRules).name (zmB zt_X11_tellRules) (zmC zt_X11_tellRules) = true := ⟨⟨rfl, Nat.le_of_ble_eq_true rfl, ⟨by decide +kernel, by decide +kernel⟩, by decide +kernel, by decide +kernel, rfl, rfl, by decide +kernel, rfl⟩, by decide +kernel⟩
set_option maxRecDepth 100000 in
theorem zh_X11_fault : zmk0 zt_X11_fault ∧ zmok zT (zmY zt_X11_fault).cls (zmY zt_X11_fault).name (zmB zt_X11_fault) (zmC zt_X11_fault) = true := ⟨⟨rfl, Nat.le_of_ble_eq_true rfl, ⟨by decide +kernel, by decide +kernel⟩, by decide +kernel, by decide +kernel, rfl, rfl, by decide +kernel, rfl⟩, by decide +kernel⟩
set_option maxRecDepth 100000 in
theorem zh_X11_run : zmk0 zt_X11_run ∧ zmok zT (zmY zt_X11_run).cls (zmY zt_X11_run).name (zmB zt_X11_run) (zmC zt_X11_run) = true := ⟨⟨rfl, Nat.le_of_ble_eq_true rfl, ⟨by decide +kernel, by decide +kernel⟩, by decide +kernel, by decide +kernel, rfl, rfl, by decide +kernel, rfl⟩, by decide +kernel⟩
set_option maxRecDepth 100000 in
theorem zh_X11_speed : zmk0 zt_X11_speed ∧ zmok zT (zmY zt_X11_speed).cls (zmY zt_X11_speed).name (zmB zt_X11_speed) (zmC zt_X11_speed) = true := ⟨⟨rfl, Nat.le_of_ble_eq_true rfl, ⟨by decide +kernel, by decide +kernel⟩, by decide +kernel, by decide +kernel, rfl, rfl, by decide +kernel, rfl⟩, by decide +kernel⟩
set_option maxRecDepth 100000 in
theorem zh_X11_point : zmk0 zt_X11_point ∧ zmok zT (zmY zt_X11_point).cls (zmY zt_X11_point).name (zmB zt_X11_point) (zmC zt_X11_point) = true := ⟨⟨rfl, Nat.le_of_ble_eq_true rfl, ⟨by decide +kernel, by decide +kernel⟩, by decide +kernel, by decide +kernel, rfl, rfl, by decide +kernel, rfl⟩, by decide +kernel⟩
set_option maxRecDepth 100000 in
theorem zh_X11_felt : zmk0 zt_X11_felt ∧ zmok zT (zmY zt_X11_felt).cls (zmY zt_X11_felt).name (zmB zt_X11_felt) (zmC zt_X11_felt) = true := ⟨⟨rfl, Nat.le_of_ble_eq_true rfl, ⟨by decide +kernel, by decide +kernel⟩, by decide +kernel, by decide +kernel, rfl, rfl, by decide +kernel, rfl⟩, by decide +kernel⟩
set_option maxRecDepth 100000 in
theorem zh_X11_feels : zmk0 zt_X11_feels ∧ zmok zT (zmY zt_X11_feels).cls (zmY zt_X11_feels).name (zmB zt_X11_feels) (zmC zt_X11_feels) = true := ⟨⟨rfl, Nat.le_of_ble_eq_true rfl, ⟨by decide +kernel, by decide +kernel⟩, by decide +kernel, by decide +kernel, rfl, rfl, by decide +kernel, rfl⟩, by decide +kernel⟩
set_option maxRecDepth 100000 in
theorem zh_X11_feltNow : zmk0 zt_X11_feltNow ∧ zmok zT (zmY zt_X11_feltNow).cls (zmY zt_X11_feltNow).name (zmB zt_X11_feltNow) (zmC zt_X11_feltNow) = true := ⟨⟨rfl, Nat.le_of_ble_eq_true rfl, ⟨by decide +kernel, by decide +kernel⟩, by decide +kernel, by decide +kernel, rfl, rfl, by decide +kernel, rfl⟩, by decide +kernel⟩
set_option maxRecDepth 100000 in
theorem zh_X11_odds : zmk0 zt_X11_odds ∧ zmok zT (zmY zt_X11_odds).cls (zmY zt_X11_odds).name (zmB zt_X11_odds) (zmC zt_X11_odds) = true := ⟨⟨rfl, Nat.le_of_ble_eq_true rfl, ⟨by decide +kernel, by decide +kernel⟩, by decide +kernel, by decide +kernel, rfl, rfl, by decide +kernel, rfl⟩, by decide +kernel⟩
set_option maxRecDepth 100000 in
theorem zh_X11_row : zmk0 zt_X11_row ∧ zmok zT (zmY zt_X11_row).cls (zmY zt_X11_row).name (zmB zt_X11_row) (zmC zt_X11_row) = true := ⟨⟨rfl, Nat.le_of_ble_eq_true rfl, ⟨by decide +kernel, by decide +kernel⟩, by decide +kernel, by decide +kernel, rfl, rfl, by decide +kernel, rfl⟩, by decide +kernel⟩
set_option maxRecDepth 100000 in
theorem zh_X11_leaves : zmk0 zt_X11_leaves ∧ zmok zT (zmY zt_X11_leaves).cls (zmY zt_X11_leaves).name (zmB zt_X11_leaves) (zmC zt_X11_leaves) = true := ⟨⟨rfl, Nat.le_of_ble_eq_true rfl, ⟨by decide +kernel, by decide +kernel⟩, by decide +kernel, by decide +kernel, rfl, rfl, by decide +kernel, rfl⟩, by decide +kernel⟩
set_option maxRecDepth 100000 in
theorem zh_X11_time : zmk0 zt_X11_time ∧ zmok zT (zmY zt_X11_time).cls (zmY zt_X11_time).name (zmB zt_X11_time) (zmC zt_X11_time) = true := ⟨⟨rfl, Nat.le_of_ble_eq_true rfl, ⟨by decide +kernel, by decide +kernel⟩, by decide +kernel, by decide +kernel, rfl, rfl, by decide +kernel, rfl⟩, by decide +kernel⟩
set_option maxRecDepth 100000 in
theorem zh_X11_takeTimes : zmk0 zt_X11_takeTimes ∧ zmok zT (zmY zt_X11_takeTimes).cls (zmY zt_X11_takeTimes).name (zmB zt_X11_takeTimes) (zmC zt_X11_takeTimes) = true := ⟨⟨rfl, Nat.le_of_ble_eq_true rfl, ⟨by decide +kernel, by decide +kernel⟩, by decide +kernel, by decide +kernel, rfl, rfl, by decide +kernel, rfl⟩, by decide +kernel⟩
set_option maxRecDepth 100000 in
theorem zh_X11_holds : zmk0 zt_X11_holds ∧ zmok zT (zmY zt_X11_holds).cls (zmY zt_X11_holds).name (zmB zt_X11_holds) (zmC zt_X11_holds) = true := ⟨⟨rfl, Nat.le_of_ble_eq_true rfl, ⟨by decide +kernel, by decide +kernel⟩, by decide +kernel, by decide +kernel, rfl, rfl, by decide +kernel, rfl⟩, by decide +kernel⟩
set_option maxRecDepth 100000 in
theorem zh_X11_holdsNow : zmk0 zt_X11_holdsNow ∧ zmok zT (zmY zt_X11_holdsNow).cls (zmY zt_X11_holdsNow).name (zmB zt_X11_holdsNow) (zmC zt_X11_holdsNow) = true := ⟨⟨rfl, Nat.le_of_ble_eq_true rfl, ⟨by decide +kernel, by decide +kernel⟩, by decide +kernel, by decide +kernel, rfl, rfl, by decide +kernel, rfl⟩, by decide +kernel⟩
set_option maxRecDepth 100000 in
theorem zh_X11_beat : zmk0 zt_X11_beat ∧ zmok zT (zmY zt_X11_beat).cls (zmY zt_X11_beat).name (zmB zt_X11_beat) (zmC zt_X11_beat) = true := ⟨⟨rfl, Nat.le_of_ble_eq_true rfl, ⟨by decide +kernel, by decide +kernel⟩, by decide +kernel, by decide +kernel, rfl, rfl, by decide +kernel, rfl⟩, by decide +kernel⟩
set_option maxRecDepth 100000 in
theorem zh_X11_badBeatQuestion : zmk0 zt_X11_badBeatQuestion ∧ zmok zT (zmY zt_X11_badBeatQuestion).cls (zmY zt_X11_badBeatQuestion).name (zmB zt_X11_badBeatQuestion) (zmC zt_X11_badBeatQuestion) = true := ⟨⟨rfl, Nat.le_of_ble_eq_true rfl, ⟨by decide +kernel, by decide +kernel⟩, by decide +kernel, by decide +kernel, rfl, rfl, by decide +kernel, rfl⟩, by decide +kernel⟩
set_option maxRecDepth 100000 in
theorem zh_X11_leastBeat : zmk0 zt_X11_leastBeat ∧ zmok zT (zmY zt_X11_leastBeat).cls (zmY zt_X11_leastBeat).name (zmB zt_X11_leastBeat) (zmC zt_X11_leastBeat) = true := ⟨⟨rfl, Nat.le_of_ble_eq_true rfl, ⟨by decide +kernel, by decide +kernel⟩, by decide +kernel, by decide +kernel, rfl, rfl, by decide +kernel, rfl⟩, by decide +kernel⟩
set_option maxRecDepth 100000 in
theorem zh_X11_isBeatEnough : zmk0 zt_X11_isBeatEnough ∧ zmok zT (zmY zt_X11_isBeatEnough).cls (zmY zt_X11_isBeatEnough).name (zmB zt_X11_isBeatEnough) (zmC zt_X11_isBeatEnough) = true := ⟨⟨rfl, Nat.le_of_ble_eq_true rfl, ⟨by decide +kernel, by decide +kernel⟩, by decide +kernel, by decide +kernel, rfl, rfl, by decide +kernel, rfl⟩, by decide +kernel⟩
set_option maxRecDepth 100000 in
theorem zh_X11_log : zmk0 zt_X11_log ∧ zmok zT (zmY zt_X11_log).cls (zmY zt_X11_log).name (zmB zt_X11_log) (zmC zt_X11_log) = true := ⟨⟨rfl, Nat.le_of_ble_eq_true rfl, ⟨by decide +kernel, by decide +kernel⟩, by decide +kernel, by decide +kernel, rfl, rfl, by decide +kernel, rfl⟩, by decide +kernel⟩
set_option maxRecDepth 100000 in
theorem zh_X11_fits : zmk0 zt_X11_fits ∧ zmok zT (zmY zt_X11_fits).cls (zmY zt_X11_fits).name (zmB zt_X11_fits) (zmC zt_X11_fits) = true := ⟨⟨rfl, Nat.le_of_ble_eq_true rfl, ⟨by decide +kernel, by decide +kernel⟩, by decide +kernel, by decide +kernel, rfl, rfl, by decide +kernel, rfl⟩, by decide +kernel⟩
set_option maxRecDepth 100000 in
theorem zh_X11_pairFits : zmk0 zt_X11_pairFits ∧ zmok zT (zmY zt_X11_pairFits).cls (zmY zt_X11_pairFits).name (zmB zt_X11_pairFits) (zmC zt_X11_pairFits) = true := ⟨⟨rfl, Nat.le_of_ble_eq_true rfl, ⟨by decide +kernel, by decide +kernel⟩, by decide +kernel, by decide +kernel, rfl, rfl, by decide +kernel, rfl⟩, by decide +kernel⟩
set_option maxRecDepth 100000 in
theorem zh_X11_ticksFit : zmk0 zt_X11_ticksFit ∧ zmok zT (zmY zt_X11_ticksFit).cls (zmY zt_X11_ticksFit).name (zmB zt_X11_ticksFit) (zmC zt_X11_ticksFit) = true := ⟨⟨rfl, Nat.le_of_ble_eq_true rfl, ⟨by decide +kernel, by decide +kernel⟩, by decide +kernel, by decide +kernel, rfl, rfl, by decide +kernel, rfl⟩, by decide +kernel⟩
set_option maxRecDepth 100000 in
theorem zh_X11_worn : zmk0 zt_X11_worn ∧ zmok zT (zmY zt_X11_worn).cls (zmY zt_X11_worn).name (zmB zt_X11_worn) (zmC zt_X11_worn) = true := ⟨⟨rfl, Nat.le_of_ble_eq_true rfl, ⟨by decide +kernel, by decide +kernel⟩, by decide +kernel, by decide +kernel, rfl, rfl, by decide +kernel, rfl⟩, by decide +kernel⟩
set_option maxRecDepth 100000 in
theorem zh_X11_stair : zmk0 zt_X11_stair ∧ zmok zT (zmY zt_X11_stair).cls (zmY zt_X11_stair).name (zmB zt_X11_stair) (zmC zt_X11_stair) = true := ⟨⟨rfl, Nat.le_of_ble_eq_true rfl, ⟨by decide +kernel, by decide +kernel⟩, by decide +kernel, by decide +kernel, rfl, rfl, by decide +kernel, rfl⟩, by decide +kernel⟩
set_option maxRecDepth 100000 in
theorem zh_X11_walk : zmk0 zt_X11_walk ∧ zmok zT (zmY zt_X11_walk).cls (zmY zt_X11_walk).name (zmB zt_X11_walk) (zmC zt_X11_walk) = true := ⟨⟨rfl, Nat.le_of_ble_eq_true rfl, ⟨by decide +kernel, by decide +kernel⟩, by decide +kernel, by decide +kernel, rfl, rfl, by decide +kernel, rfl⟩, by decide +kernel⟩
set_option maxRecDepth 100000 in
theorem zh_X11_leastWalk : zmk0 zt_X11_leastWalk ∧ zmok zT (zmY zt_X11_leastWalk).cls (zmY zt_X11_leastWalk).name (zmB zt_X11_leastWalk) (zmC zt_X11_leastWalk) = true := ⟨⟨rfl, Nat.le_of_ble_eq_true rfl, ⟨by decide +kernel, by decide +kernel⟩, by decide +kernel, by decide +kernel, rfl, rfl, by decide +kernel, rfl⟩, by decide +kernel⟩
set_option maxRecDepth 100000 in
theorem zh_X11_nearestStair : zmk0 zt_X11_nearestStair ∧ zmok zT (zmY zt_X11_nearestStair).cls (zmY zt_X11_nearestStair).name (zmB zt_X11_nearestStair) (zmC zt_X11_nearestStair) = true := ⟨⟨rfl, Nat.le_of_ble_eq_true rfl, ⟨by decide +kernel, by decide +kernel⟩, by decide +kernel, by decide +kernel, rfl, rfl, by decide +kernel, rfl⟩, by decide +kernel⟩
set_option maxRecDepth 100000 in
theorem zh_X11_worst : zmk0 zt_X11_worst ∧ zmok zT (zmY zt_X11_worst).cls (zmY zt_X11_worst).name (zmB zt_X11_worst) (zmC zt_X11_worst) = true := ⟨⟨rfl, Nat.le_of_ble_eq_true rfl, ⟨by decide +kernel, by decide +kernel⟩, by decide +kernel, by decide +kernel, rfl, rfl, by decide +kernel, rfl⟩, by decide +kernel⟩
set_option maxRecDepth 100000 in
theorem zh_X11_greatestWalk : zmk0 zt_X11_greatestWalk ∧ zmok zT (zmY zt_X11_greatestWalk).cls (zmY zt_X11_greatestWalk).name (zmB zt_X11_greatestWalk) (zmC zt_X11_greatestWalk) = true := ⟨⟨rfl, Nat.le_of_ble_eq_true rfl, ⟨by decide +kernel, by decide +kernel⟩, by decide +kernel, by decide +kernel, rfl, rfl, by decide +kernel, rfl⟩, by decide +kernel⟩
set_option maxRecDepth 100000 in
theorem zh_X11_bestStair : zmk0 zt_X11_bestStair ∧ zmok zT (zmY zt_X11_bestStair).cls (zmY zt_X11_bestStair).name (zmB zt_X11_bestStair) (zmC zt_X11_bestStair) = true := ⟨⟨rfl, Nat.le_of_ble_eq_true rfl, ⟨by decide +kernel, by decide +kernel⟩, by decide +kernel, by decide +kernel, rfl, rfl, by decide +kernel, rfl⟩, by decide +kernel⟩
set_option maxRecDepth 100000 in
theorem zh_X11_test : zmk0 zt_X11_test ∧ zmok zT (zmY zt_X11_test).cls (zmY zt_X11_test).name (zmB zt_X11_test) (zmC zt_X11_test) = true := ⟨⟨rfl, Nat.le_of_ble_eq_true rfl, ⟨by decide +kernel, by decide +kernel⟩, by decide +kernel, by decide +kernel, rfl, rfl, by decide +kernel, rfl⟩, by decide +kernel⟩
set_option maxRecDepth 100000 in
theorem zh_X11_cover : zmk0 zt_X11_cover ∧ zmok zT (zmY zt_X11_cover).cls (zmY zt_X11_cover).name (zmB zt_X11_cover) (zmC zt_X11_cover) = true := ⟨⟨rfl, Nat.le_of_ble_eq_true rfl, ⟨by decide +kernel, by decide +kernel⟩, by decide +kernel, by decide +kernel, rfl, rfl, by decide +kernel, rfl⟩, by decide +kernel⟩
set_option maxRecDepth 100000 in
theorem zh_X11_cheapestCover : zmk0 zt_X11_cheapestCover ∧ zmok zT (zmY zt_X11_cheapestCover).cls (zmY zt_X11_cheapestCover).name (zmB zt_X11_cheapestCover) (zmC zt_X11_cheapestCover) = true := ⟨⟨rfl, Nat.le_of_ble_eq_true rfl, ⟨by decide +kernel, by decide +kernel⟩, by decide +kernel, by decide +kernel, rfl, rfl, by decide +kernel, rfl⟩, by decide +kernel⟩
set_option maxRecDepth 100000 in
theorem zh_X11_part : zmk0 zt_X11_part ∧ zmok zT (zmY zt_X11_part).cls (zmY zt_X11_part).name (zmB zt_X11_part) (zmC zt_X11_part) = true := ⟨⟨rfl, Nat.le_of_ble_eq_true rfl, ⟨by decide +kernel, by decide +kernel⟩, by decide +kernel, by decide +kernel, rfl, rfl, by decide +kernel, rfl⟩, by decide +kernel⟩
set_option maxRecDepth 100000 in
theorem zh_X11_age : zmk0 zt_X11_age ∧ zmok zT (zmY zt_X11_age).cls (zmY zt_X11_age).name (zmB zt_X11_age) (zmC zt_X11_age) = true := ⟨⟨rfl, Nat.le_of_ble_eq_true rfl, ⟨by decide +kernel, by decide +kernel⟩, by decide +kernel, by decide +kernel, rfl, rfl, by decide +kernel, rfl⟩, by decide +kernel⟩
set_option maxRecDepth 100000 in
theorem zh_X11_days : zmk0 zt_X11_days ∧ zmok zT (zmY zt_X11_days).cls (zmY zt_X11_days).name (zmB zt_X11_days) (zmC zt_X11_days) = true := ⟨⟨rfl, Nat.le_of_ble_eq_true rfl, ⟨by decide +kernel, by decide +kernel⟩, by decide +kernel, by decide +kernel, rfl, rfl, by decide +kernel, rfl⟩, by decide +kernel⟩
set_option maxRecDepth 100000 in
theorem zh_X11_daysLeft : zmk0 zt_X11_daysLeft ∧ zmok zT (zmY zt_X11_daysLeft).cls (zmY zt_X11_daysLeft).name (zmB zt_X11_daysLeft) (zmC zt_X11_daysLeft) = true := ⟨⟨rfl, Nat.le_of_ble_eq_true rfl, ⟨by decide +kernel, by decide +kernel⟩, by decide +kernel, by decide +kernel, rfl, rfl, by decide +kernel, rfl⟩, by decide +kernel⟩
set_option maxRecDepth 100000 in
theorem zh_X11_first : zmk0 zt_X11_first ∧ zmok zT (zmY zt_X11_first).cls (zmY zt_X11_first).name (zmB zt_X11_first) (zmC zt_X11_first) = true := ⟨⟨rfl, Nat.le_of_ble_eq_true rfl, ⟨by decide +kernel, by decide +kernel⟩, by decide +kernel, by decide +kernel, rfl, rfl, by decide +kernel, rfl⟩, by decide +kernel⟩
set_option maxRecDepth 100000 in
theorem zh_X11_restart : zmk0 zt_X11_restart ∧ zmok zT (zmY zt_X11_restart).cls (zmY zt_X11_restart).name (zmB zt_X11_restart) (zmC zt_X11_restart) = true := ⟨⟨rfl, Nat.le_of_ble_eq_true rfl, ⟨by decide +kernel, by decide +kernel⟩, by decide +kernel, by decide +kernel, rfl, rfl, by decide +kernel, rfl⟩, by decide +kernel⟩
set_option maxRecDepth 100000 in
theorem zh_X11_valley : zmk0 zt_X11_valley ∧ zmok zT (zmY zt_X11_valley).cls (zmY zt_X11_valley).name (zmB zt_X11_valley) (zmC zt_X11_valley) = true := ⟨⟨rfl, Nat.le_of_ble_eq_true rfl, ⟨by decide +kernel, by decide +kernel⟩, by decide +kernel, by decide +kernel, rfl, rfl, by decide +kernel, rfl⟩, by decide +kernel⟩
set_option maxRecDepth 100000 in
theorem zh_X11_group : zmk0 zt_X11_group ∧ zmok zT (zmY zt_X11_group).cls (zmY zt_X11_group).name (zmB zt_X11_group) (zmC zt_X11_group) = true := ⟨⟨rfl, Nat.le_of_ble_eq_true rfl, ⟨by decide +kernel, by decide +kernel⟩, by decide +kernel, by decide +kernel, rfl, rfl, by decide +kernel, rfl⟩, by decide +kernel⟩
set_option maxRecDepth 100000 in
theorem zh_X11_trains : zmk0 zt_X11_trains ∧ zmok zT (zmY zt_X11_trains).cls (zmY zt_X11_trains).name (zmB zt_X11_trains) (zmC zt_X11_trains) = true := ⟨⟨rfl, Nat.le_of_ble_eq_true rfl, ⟨by decide +kernel, by decide +kernel⟩, by decide +kernel, by decide +kernel, rfl, rfl, by decide +kernel, rfl⟩, by decide +kernel⟩
set_option maxRecDepth 100000 in
theorem zh_X11_cross : zmk0 zt_X11_cross ∧ zmok zT (zmY zt_X11_cross).cls (zmY zt_X11_cross).name (zmB zt_X11_cross) (zmC zt_X11_cross) = true := ⟨⟨rfl, Nat.le_of_ble_eq_true rfl, ⟨by decide +kernel, by decide +kernel⟩, by decide +kernel, by decide +kernel, rfl, rfl, by decide +kernel, rfl⟩, by decide +kernel⟩
set_option maxRecDepth 100000 in
theorem zh_X11_nearOnes : zmk0 zt_X11_nearOnes ∧ zmok zT (zmY zt_X11_nearOnes).cls (zmY zt_X11_nearOnes).name (zmB zt_X11_nearOnes) (zmC zt_X11_nearOnes) = true := ⟨⟨rfl, Nat.le_of_ble_eq_true rfl, ⟨by decide +kernel, by decide +kernel⟩, by decide +kernel, by decide +kernel, rfl, rfl, by decide +kernel, rfl⟩, by decide +kernel⟩
set_option maxRecDepth 100000 in
theorem zh_X11_isNear : zmk0 zt_X11_isNear ∧ zmok zT (zmY zt_X11_isNear).cls (zmY zt_X11_isNear).name (zmB zt_X11_isNear) (zmC zt_X11_isNear) = true := ⟨⟨rfl, Nat.le_of_ble_eq_true rfl, ⟨by decide +kernel, by decide +kernel⟩, by decide +kernel, by decide +kernel, rfl, rfl, by decide +kernel, rfl⟩, by decide +kernel⟩
set_option maxRecDepth 100000 in
theorem zh_X11_clear : zmk0 zt_X11_clear ∧ zmok zT (zmY zt_X11_clear).cls (zmY zt_X11_clear).name (zmB zt_X11_clear) (zmC zt_X11_clear) = true := ⟨⟨rfl, Nat.le_of_ble_eq_true rfl, ⟨by decide +kernel, by decide +kernel⟩, by decide +kernel, by decide +kernel, rfl, rfl, by decide +kernel, rfl⟩, by decide +kernel⟩
set_option maxRecDepth 100000 in
theorem zh_X11_badOthers : zmk0 zt_X11_badOthers ∧ zmok zT (zmY zt_X11_badOthers).cls (zmY zt_X11_badOthers).name (zmB zt_X11_badOthers) (zmC zt_X11_badOthers) = true := ⟨⟨rfl, Nat.le_of_ble_eq_true rfl, ⟨by decide +kernel, by decide +kernel⟩, by decide +kernel, by decide +kernel, rfl, rfl, by decide +kernel, rfl⟩, by decide +kernel⟩
set_option maxRecDepth 100000 in
theorem zh_X11_stay : zmk0 zt_X11_stay ∧ zmok zT (zmY zt_X11_stay).cls (zmY zt_X11_stay).name (zmB zt_X11_stay) (zmC zt_X11_stay) = true := ⟨⟨rfl, Nat.le_of_ble_eq_true rfl, ⟨by decide +kernel, by decide +kernel⟩, by decide +kernel, by decide +kernel, rfl, rfl, by decide +kernel, rfl⟩, by decide +kernel⟩
