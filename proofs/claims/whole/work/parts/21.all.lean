set_option maxRecDepth 100000 in
set_option maxHeartbeats 4000000 in
theorem fch_X0_init : fchk fd_X0_init = true := by decide +kernel
set_option maxRecDepth 100000 in
theorem fg_X0_init : fMg fd_X0_init ∧ fHok fd_X0_init := ⟨fMg_of (own := RX0) fch_X0_init rfl rfl fek_X0, fHok_0 rfl⟩
set_option maxRecDepth 100000 in
set_option maxHeartbeats 4000000 in
theorem fch_X0_unreadyConcerts : fchk fd_X0_unreadyConcerts = true := by decide +kernel
set_option maxRecDepth 100000 in
theorem fg_X0_unreadyConcerts : fMg fd_X0_unreadyConcerts ∧ fHok fd_X0_unreadyConcerts := ⟨fMg_of (own := RX0) fch_X0_unreadyConcerts rfl rfl fek_X0, fHok_0 rfl⟩
set_option maxRecDepth 100000 in
set_option maxHeartbeats 4000000 in
theorem fch_X0_isReady : fchk fd_X0_isReady = true := by decide +kernel
set_option maxRecDepth 100000 in
theorem fg_X0_isReady : fMg fd_X0_isReady ∧ fHok fd_X0_isReady := ⟨fMg_of (own := RX0) fch_X0_isReady rfl rfl fek_X0, fHok_0 rfl⟩
set_option maxRecDepth 100000 in
set_option maxHeartbeats 4000000 in
theorem fch_X0_concertAt : fchk fd_X0_concertAt = true := by decide +kernel
set_option maxRecDepth 100000 in
theorem fg_X0_concertAt : fMg fd_X0_concertAt ∧ fHok fd_X0_concertAt := ⟨fMg_of (own := RX0) fch_X0_concertAt rfl rfl fek_X0, fHok_0 rfl⟩
set_option maxRecDepth 100000 in
set_option maxHeartbeats 4000000 in
theorem fch_X0_blame : fchk fd_X0_blame = true := by decide +kernel
set_option maxRecDepth 100000 in
theorem fg_X0_blame : fMg fd_X0_blame ∧ fHok fd_X0_blame := ⟨fMg_of (own := RX0) fch_X0_blame rfl rfl fek_X0, fHok_0 rfl⟩
set_option maxRecDepth 100000 in
set_option maxHeartbeats 4000000 in
theorem fch_X0_isFree : fchk fd_X0_isFree = true := by decide +kernel
set_option maxRecDepth 100000 in
theorem fg_X0_isFree : fMg fd_X0_isFree ∧ fHok fd_X0_isFree := ⟨fMg_of (own := RX0) fch_X0_isFree rfl rfl fek_X0, fHok_0 rfl⟩
set_option maxRecDepth 100000 in
set_option maxHeartbeats 4000000 in
theorem fch_X0_freeTunings : fchk fd_X0_freeTunings = true := by decide +kernel
set_option maxRecDepth 100000 in
theorem fg_X0_freeTunings : fMg fd_X0_freeTunings ∧ fHok fd_X0_freeTunings := ⟨fMg_of (own := RX0) fch_X0_freeTunings rfl rfl fek_X0, fHok_0 rfl⟩
set_option maxRecDepth 100000 in
set_option maxHeartbeats 4000000 in
theorem fch_X0_debt : fchk fd_X0_debt = true := by decide +kernel
set_option maxRecDepth 100000 in
theorem fg_X0_debt : fMg fd_X0_debt ∧ fHok fd_X0_debt := ⟨fMg_of (own := RX0) fch_X0_debt rfl rfl fek_X0, fHok_0 rfl⟩
set_option maxRecDepth 100000 in
set_option maxHeartbeats 4000000 in
theorem fch_X0_debtBy : fchk fd_X0_debtBy = true := by decide +kernel
set_option maxRecDepth 100000 in
theorem fg_X0_debtBy : fMg fd_X0_debtBy ∧ fHok fd_X0_debtBy := ⟨fMg_of (own := RX0) fch_X0_debtBy rfl rfl fek_X0, fHok_0 rfl⟩
set_option maxRecDepth 100000 in
set_option maxHeartbeats 4000000 in
theorem fch_X1_init : fchk fd_X1_init = true := by decide +kernel
set_option maxRecDepth 100000 in
theorem fg_X1_init : fMg fd_X1_init ∧ fHok fd_X1_init := ⟨fMg_of (own := RX1) fch_X1_init rfl rfl fek_X1, fHok_0 rfl⟩
set_option maxRecDepth 100000 in
set_option maxHeartbeats 4000000 in
theorem fch_X1_keepLeast : fchk fd_X1_keepLeast = true := by decide +kernel
set_option maxRecDepth 100000 in
theorem fg_X1_keepLeast : fMg fd_X1_keepLeast ∧ fHok fd_X1_keepLeast := ⟨fMg_of (own := RX1) fch_X1_keepLeast rfl rfl fek_X1, fHok_0 rfl⟩
set_option maxRecDepth 100000 in
set_option maxHeartbeats 4000000 in
theorem fch_X1_clearFalls : fchk fd_X1_clearFalls = true := by decide +kernel
set_option maxRecDepth 100000 in
theorem fg_X1_clearFalls : fMg fd_X1_clearFalls ∧ fHok fd_X1_clearFalls := ⟨fMg_of (own := RX1) fch_X1_clearFalls rfl rfl fek_X1, fHok_0 rfl⟩
set_option maxRecDepth 100000 in
set_option maxHeartbeats 4000000 in
theorem fch_X1_addPairs : fchk fd_X1_addPairs = true := by decide +kernel
set_option maxRecDepth 100000 in
theorem fg_X1_addPairs : fMg fd_X1_addPairs ∧ fHok fd_X1_addPairs := ⟨fMg_of (own := RX1) fch_X1_addPairs rfl rfl fek_X1, fHok_0 rfl⟩
set_option maxRecDepth 100000 in
set_option maxHeartbeats 4000000 in
theorem fch_X1_addPair : fchk fd_X1_addPair = true := by decide +kernel
set_option maxRecDepth 100000 in
theorem fg_X1_addPair : fMg fd_X1_addPair ∧ fHok fd_X1_addPair := ⟨fMg_of (own := RX1) fch_X1_addPair rfl rfl fek_X1, fHok_0 rfl⟩
set_option maxRecDepth 100000 in
set_option maxHeartbeats 4000000 in
theorem fch_X1_mostSlipping : fchk fd_X1_mostSlipping = true := by decide +kernel
set_option maxRecDepth 100000 in
theorem fg_X1_mostSlipping : fMg fd_X1_mostSlipping ∧ fHok fd_X1_mostSlipping := ⟨fMg_of (own := RX1) fch_X1_mostSlipping rfl rfl fek_X1, fHok_0 rfl⟩
set_option maxRecDepth 100000 in
set_option maxHeartbeats 4000000 in
theorem fch_X1_isFaster : fchk fd_X1_isFaster = true := by decide +kernel
set_option maxRecDepth 100000 in
theorem fg_X1_isFaster : fMg fd_X1_isFaster ∧ fHok fd_X1_isFaster := ⟨fMg_of (own := RX1) fch_X1_isFaster rfl rfl fek_X1, fHok_0 rfl⟩
set_option maxRecDepth 100000 in
set_option maxHeartbeats 4000000 in
theorem fch_X1_weighStoves : fchk fd_X1_weighStoves = true := by decide +kernel
set_option maxRecDepth 100000 in
theorem fg_X1_weighStoves : fMg fd_X1_weighStoves ∧ fHok fd_X1_weighStoves := ⟨fMg_of (own := RX1) fch_X1_weighStoves rfl rfl fek_X1, fHok_0 rfl⟩
set_option maxRecDepth 100000 in
set_option maxHeartbeats 4000000 in
theorem fch_X1_sumFallsOf : fchk fd_X1_sumFallsOf = true := by decide +kernel
set_option maxRecDepth 100000 in
theorem fg_X1_sumFallsOf : fMg fd_X1_sumFallsOf ∧ fHok fd_X1_sumFallsOf := ⟨fMg_of (own := RX1) fch_X1_sumFallsOf rfl rfl fek_X1, fHok_0 rfl⟩
set_option maxRecDepth 100000 in
set_option maxHeartbeats 4000000 in
theorem fch_X1_sumOf : fchk fd_X1_sumOf = true := by decide +kernel
set_option maxRecDepth 100000 in
theorem fg_X1_sumOf : fMg fd_X1_sumOf ∧ fHok fd_X1_sumOf := ⟨fMg_of (own := RX1) fch_X1_sumOf rfl rfl fek_X1, fHok_0 rfl⟩
set_option maxRecDepth 100000 in
set_option maxHeartbeats 4000000 in
theorem fch_X1_weighLean : fchk fd_X1_weighLean = true := by decide +kernel
set_option maxRecDepth 100000 in
theorem fg_X1_weighLean : fMg fd_X1_weighLean ∧ fHok fd_X1_weighLean := ⟨fMg_of (own := RX1) fch_X1_weighLean rfl rfl fek_X1, fHok_0 rfl⟩
set_option maxRecDepth 100000 in
set_option maxHeartbeats 4000000 in
theorem fch_X1_worstBatch : fchk fd_X1_worstBatch = true := by decide +kernel
set_option maxRecDepth 100000 in
theorem fg_X1_worstBatch : fMg fd_X1_worstBatch ∧ fHok fd_X1_worstBatch := ⟨fMg_of (own := RX1) fch_X1_worstBatch rfl rfl fek_X1, fHok_0 rfl⟩
set_option maxRecDepth 100000 in
set_option maxHeartbeats 4000000 in
theorem fch_X1_isCracked : fchk fd_X1_isCracked = true := by decide +kernel
set_option maxRecDepth 100000 in
theorem fg_X1_isCracked : fMg fd_X1_isCracked ∧ fHok fd_X1_isCracked := ⟨fMg_of (own := RX1) fch_X1_isCracked rfl rfl fek_X1, fHok_0 rfl⟩
set_option maxRecDepth 100000 in
set_option maxHeartbeats 4000000 in
theorem fch_X1_putInOrder : fchk fd_X1_putInOrder = true := by decide +kernel
set_option maxRecDepth 100000 in
theorem fg_X1_putInOrder : fMg fd_X1_putInOrder ∧ fHok fd_X1_putInOrder := ⟨fMg_of (own := RX1) fch_X1_putInOrder rfl rfl fek_X1, fHok_0 rfl⟩
set_option maxRecDepth 100000 in
set_option maxHeartbeats 4000000 in
theorem fch_X1_isCrack : fchk fd_X1_isCrack = true := by decide +kernel
set_option maxRecDepth 100000 in
theorem fg_X1_isCrack : fMg fd_X1_isCrack ∧ fHok fd_X1_isCrack := ⟨fMg_of (own := RX1) fch_X1_isCrack rfl rfl fek_X1, fHok_0 rfl⟩
set_option maxRecDepth 100000 in
set_option maxHeartbeats 4000000 in
theorem fch_X2_init : fchk fd_X2_init = true := by decide +kernel
set_option maxRecDepth 100000 in
theorem fg_X2_init : fMg fd_X2_init ∧ fHok fd_X2_init := ⟨fMg_of (own := RX2) fch_X2_init rfl rfl fek_X2, fHok_0 rfl⟩
set_option maxRecDepth 100000 in
set_option maxHeartbeats 4000000 in
theorem fch_X2_clear : fchk fd_X2_clear = true := by decide +kernel
set_option maxRecDepth 100000 in
theorem fg_X2_clear : fMg fd_X2_clear ∧ fHok fd_X2_clear := ⟨fMg_of (own := RX2) fch_X2_clear rfl rfl fek_X2, fHok_0 rfl⟩
set_option maxRecDepth 100000 in
set_option maxHeartbeats 4000000 in
theorem fch_X2_copyFrom : fchk fd_X2_copyFrom = true := by decide +kernel
set_option maxRecDepth 100000 in
theorem fg_X2_copyFrom : fMg fd_X2_copyFrom ∧ fHok fd_X2_copyFrom := ⟨fMg_of (own := RX2) fch_X2_copyFrom rfl rfl fek_X2, fHok_0 rfl⟩
set_option maxRecDepth 100000 in
set_option maxHeartbeats 4000000 in
theorem fch_X2_addPiano : fchk fd_X2_addPiano = true := by decide +kernel
set_option maxRecDepth 100000 in
theorem fg_X2_addPiano : fMg fd_X2_addPiano ∧ fHok fd_X2_addPiano := ⟨fMg_of (own := RX2) fch_X2_addPiano rfl rfl fek_X2, fHok_0 rfl⟩
set_option maxRecDepth 100000 in
set_option maxHeartbeats 4000000 in
theorem fch_X2_tell : fchk fd_X2_tell = true := by decide +kernel
set_option maxRecDepth 100000 in
theorem fg_X2_tell : fMg fd_X2_tell ∧ fHok fd_X2_tell := ⟨fMg_of (own := RX2) fch_X2_tell rfl rfl fek_X2, fHok_0 rfl⟩
set_option maxRecDepth 100000 in
set_option maxHeartbeats 4000000 in
theorem fch_X2_fact : fchk fd_X2_fact = true := by decide +kernel
set_option maxRecDepth 100000 in
theorem fg_X2_fact : fMg fd_X2_fact ∧ fHok fd_X2_fact := ⟨fMg_of (own := RX2) fch_X2_fact rfl rfl fek_X2, fHok_0 rfl⟩
set_option maxRecDepth 100000 in
set_option maxHeartbeats 4000000 in
theorem fch_X2_hasPiano : fchk fd_X2_hasPiano = true := by decide +kernel
set_option maxRecDepth 100000 in
theorem fg_X2_hasPiano : fMg fd_X2_hasPiano ∧ fHok fd_X2_hasPiano := ⟨fMg_of (own := RX2) fch_X2_hasPiano rfl rfl fek_X2, fHok_0 rfl⟩
set_option maxRecDepth 100000 in
set_option maxHeartbeats 4000000 in
theorem fch_X2_hasTuner : fchk fd_X2_hasTuner = true := by decide +kernel
set_option maxRecDepth 100000 in
theorem fg_X2_hasTuner : fMg fd_X2_hasTuner ∧ fHok fd_X2_hasTuner := ⟨fMg_of (own := RX2) fch_X2_hasTuner rfl rfl fek_X2, fHok_0 rfl⟩
set_option maxRecDepth 100000 in
set_option maxHeartbeats 4000000 in
theorem fch_X2_isHall : fchk fd_X2_isHall = true := by decide +kernel
set_option maxRecDepth 100000 in
theorem fg_X2_isHall : fMg fd_X2_isHall ∧ fHok fd_X2_isHall := ⟨fMg_of (own := RX2) fch_X2_isHall rfl rfl fek_X2, fHok_0 rfl⟩
set_option maxRecDepth 100000 in
set_option maxHeartbeats 4000000 in
theorem fch_X2_isShut : fchk fd_X2_isShut = true := by decide +kernel
set_option maxRecDepth 100000 in
theorem fg_X2_isShut : fMg fd_X2_isShut ∧ fHok fd_X2_isShut := ⟨fMg_of (own := RX2) fch_X2_isShut rfl rfl fek_X2, fHok_0 rfl⟩
set_option maxRecDepth 100000 in
set_option maxHeartbeats 4000000 in
theorem fch_X2_tunerX : fchk fd_X2_tunerX = true := by decide +kernel
set_option maxRecDepth 100000 in
theorem fg_X2_tunerX : fMg fd_X2_tunerX ∧ fHok fd_X2_tunerX := ⟨fMg_of (own := RX2) fch_X2_tunerX rfl rfl fek_X2, fHok_0 rfl⟩
set_option maxRecDepth 100000 in
set_option maxHeartbeats 4000000 in
theorem fch_X2_tunerY : fchk fd_X2_tunerY = true := by decide +kernel
set_option maxRecDepth 100000 in
theorem fg_X2_tunerY : fMg fd_X2_tunerY ∧ fHok fd_X2_tunerY := ⟨fMg_of (own := RX2) fch_X2_tunerY rfl rfl fek_X2, fHok_0 rfl⟩
set_option maxRecDepth 100000 in
set_option maxHeartbeats 4000000 in
theorem fch_X2_forkOf : fchk fd_X2_forkOf = true := by decide +kernel
set_option maxRecDepth 100000 in
theorem fg_X2_forkOf : fMg fd_X2_forkOf ∧ fHok fd_X2_forkOf := ⟨fMg_of (own := RX2) fch_X2_forkOf rfl rfl fek_X2, fHok_0 rfl⟩
set_option maxRecDepth 100000 in
set_option maxHeartbeats 4000000 in
theorem fch_X2_pianoNamed : fchk fd_X2_pianoNamed = true := by decide +kernel
set_option maxRecDepth 100000 in
theorem fg_X2_pianoNamed : fMg fd_X2_pianoNamed ∧ fHok fd_X2_pianoNamed := ⟨fMg_of (own := RX2) fch_X2_pianoNamed rfl rfl fek_X2, fHok_0 rfl⟩
set_option maxRecDepth 100000 in
set_option maxHeartbeats 4000000 in
theorem fch_X2_tunerNamed : fchk fd_X2_tunerNamed = true := by decide +kernel
set_option maxRecDepth 100000 in
theorem fg_X2_tunerNamed : fMg fd_X2_tunerNamed ∧ fHok fd_X2_tunerNamed := ⟨fMg_of (own := RX2) fch_X2_tunerNamed rfl rfl fek_X2, fHok_0 rfl⟩
set_option maxRecDepth 100000 in
set_option maxHeartbeats 4000000 in
theorem fch_X2_pupilNamed : fchk fd_X2_pupilNamed = true := by decide +kernel
set_option maxRecDepth 100000 in
theorem fg_X2_pupilNamed : fMg fd_X2_pupilNamed ∧ fHok fd_X2_pupilNamed := ⟨fMg_of (own := RX2) fch_X2_pupilNamed rfl rfl fek_X2, fHok_0 rfl⟩
set_option maxRecDepth 100000 in
set_option maxHeartbeats 4000000 in
theorem fch_X2_isNameTold : fchk fd_X2_isNameTold = true := by decide +kernel
set_option maxRecDepth 100000 in
theorem fg_X2_isNameTold : fMg fd_X2_isNameTold ∧ fHok fd_X2_isNameTold := ⟨fMg_of (own := RX2) fch_X2_isNameTold rfl rfl fek_X2, fHok_0 rfl⟩
set_option maxRecDepth 100000 in
set_option maxHeartbeats 4000000 in
theorem fch_X2_placeOf : fchk fd_X2_placeOf = true := by decide +kernel
set_option maxRecDepth 100000 in
theorem fg_X2_placeOf : fMg fd_X2_placeOf ∧ fHok fd_X2_placeOf := ⟨fMg_of (own := RX2) fch_X2_placeOf rfl rfl fek_X2, fHok_0 rfl⟩
set_option maxRecDepth 100000 in
set_option maxHeartbeats 4000000 in
theorem fch_X2_feeOf : fchk fd_X2_feeOf = true := by decide +kernel
set_option maxRecDepth 100000 in
theorem fg_X2_feeOf : fMg fd_X2_feeOf ∧ fHok fd_X2_feeOf := ⟨fMg_of (own := RX2) fch_X2_feeOf rfl rfl fek_X2, fHok_0 rfl⟩
set_option maxRecDepth 100000 in
set_option maxHeartbeats 4000000 in
theorem fch_X2_hasTable : fchk fd_X2_hasTable = true := by decide +kernel
set_option maxRecDepth 100000 in
theorem fg_X2_hasTable : fMg fd_X2_hasTable ∧ fHok fd_X2_hasTable := ⟨fMg_of (own := RX2) fch_X2_hasTable rfl rfl fek_X2, fHok_0 rfl⟩
set_option maxRecDepth 100000 in
set_option maxHeartbeats 4000000 in
theorem fch_X2_beatsOf : fchk fd_X2_beatsOf = true := by decide +kernel
set_option maxRecDepth 100000 in
theorem fg_X2_beatsOf : fMg fd_X2_beatsOf ∧ fHok fd_X2_beatsOf := ⟨fMg_of (own := RX2) fch_X2_beatsOf rfl rfl fek_X2, fHok_0 rfl⟩
set_option maxRecDepth 100000 in
set_option maxHeartbeats 4000000 in
theorem fch_X2_wildest : fchk fd_X2_wildest = true := by decide +kernel
set_option maxRecDepth 100000 in
theorem fg_X2_wildest : fMg fd_X2_wildest ∧ fHok fd_X2_wildest := ⟨fMg_of (own := RX2) fch_X2_wildest rfl rfl fek_X2, fHok_0 rfl⟩
set_option maxRecDepth 100000 in
set_option maxHeartbeats 4000000 in
theorem fch_X3_init : fchk fd_X3_init = true := by decide +kernel
set_option maxRecDepth 100000 in
theorem fg_X3_init : fMg fd_X3_init ∧ fHok fd_X3_init := ⟨fMg_of (own := RX3) fch_X3_init rfl rfl fek_X3, fHok_0 rfl⟩
set_option maxRecDepth 100000 in
set_option maxHeartbeats 4000000 in
theorem fch_X3_readAll : fchk fd_X3_readAll = true := by decide +kernel
set_option maxRecDepth 100000 in
theorem fg_X3_readAll : fMg fd_X3_readAll ∧ fHok fd_X3_readAll := ⟨fMg_of (own := RX3) fch_X3_readAll rfl rfl fek_X3, fHok_0 rfl⟩
set_option maxRecDepth 100000 in
set_option maxHeartbeats 4000000 in
theorem fch_X3_readRuleLine : fchk fd_X3_readRuleLine = true := by decide +kernel
set_option maxRecDepth 100000 in
theorem fg_X3_readRuleLine : fMg fd_X3_readRuleLine ∧ fHok fd_X3_readRuleLine := ⟨fMg_of (own := RX3) fch_X3_readRuleLine rfl rfl fek_X3, fHok_0 rfl⟩
set_option maxRecDepth 100000 in
set_option maxHeartbeats 4000000 in
theorem fch_X3_readNameLine : fchk fd_X3_readNameLine = true := by decide +kernel
set_option maxRecDepth 100000 in
theorem fg_X3_readNameLine : fMg fd_X3_readNameLine ∧ fHok fd_X3_readNameLine := ⟨fMg_of (own := RX3) fch_X3_readNameLine rfl rfl fek_X3, fHok_0 rfl⟩
set_option maxRecDepth 100000 in
set_option maxHeartbeats 4000000 in
theorem fch_X3_readTable : fchk fd_X3_readTable = true := by decide +kernel
set_option maxRecDepth 100000 in
theorem fg_X3_readTable : fMg fd_X3_readTable ∧ fHok fd_X3_readTable := ⟨fMg_of (own := RX3) fch_X3_readTable rfl rfl fek_X3, fHok_0 rfl⟩
set_option maxRecDepth 100000 in
set_option maxHeartbeats 4000000 in
theorem fch_X3_readDamp : fchk fd_X3_readDamp = true := by decide +kernel
set_option maxRecDepth 100000 in
theorem fg_X3_readDamp : fMg fd_X3_readDamp ∧ fHok fd_X3_readDamp := ⟨fMg_of (own := RX3) fch_X3_readDamp rfl rfl fek_X3, fHok_0 rfl⟩
set_option maxRecDepth 100000 in
set_option maxHeartbeats 4000000 in
theorem fch_X3_readTerm : fchk fd_X3_readTerm = true := by decide +kernel
set_option maxRecDepth 100000 in
theorem fg_X3_readTerm : fMg fd_X3_readTerm ∧ fHok fd_X3_readTerm := ⟨fMg_of (own := RX3) fch_X3_readTerm rfl rfl fek_X3, fHok_0 rfl⟩
set_option maxRecDepth 100000 in
set_option maxHeartbeats 4000000 in
theorem fch_X3_readFee : fchk fd_X3_readFee = true := by decide +kernel
set_option maxRecDepth 100000 in
theorem fg_X3_readFee : fMg fd_X3_readFee ∧ fHok fd_X3_readFee := ⟨fMg_of (own := RX3) fch_X3_readFee rfl rfl fek_X3, fHok_0 rfl⟩
set_option maxRecDepth 100000 in
set_option maxHeartbeats 4000000 in
theorem fch_X3_readRule : fchk fd_X3_readRule = true := by decide +kernel
set_option maxRecDepth 100000 in
theorem fg_X3_readRule : fMg fd_X3_readRule ∧ fHok fd_X3_readRule := ⟨fMg_of (own := RX3) fch_X3_readRule rfl rfl fek_X3, fHok_0 rfl⟩
set_option maxRecDepth 100000 in
set_option maxHeartbeats 4000000 in
theorem fch_X3_readDay : fchk fd_X3_readDay = true := by decide +kernel
set_option maxRecDepth 100000 in
theorem fg_X3_readDay : fMg fd_X3_readDay ∧ fHok fd_X3_readDay := ⟨fMg_of (own := RX3) fch_X3_readDay rfl rfl fek_X3, fHok_0 rfl⟩
set_option maxRecDepth 100000 in
set_option maxHeartbeats 4000000 in
theorem fch_X3_mustHaveRoom : fchk fd_X3_mustHaveRoom = true := by decide +kernel
set_option maxRecDepth 100000 in
theorem fg_X3_mustHaveRoom : fMg fd_X3_mustHaveRoom ∧ fHok fd_X3_mustHaveRoom := ⟨fMg_of (own := RX3) fch_X3_mustHaveRoom rfl rfl fek_X3, fHok_0 rfl⟩
set_option maxRecDepth 100000 in
set_option maxHeartbeats 4000000 in
theorem fch_X3_takeNewName : fchk fd_X3_takeNewName = true := by decide +kernel
set_option maxRecDepth 100000 in
theorem fg_X3_takeNewName : fMg fd_X3_takeNewName ∧ fHok fd_X3_takeNewName := ⟨fMg_of (own := RX3) fch_X3_takeNewName rfl rfl fek_X3, fHok_0 rfl⟩
set_option maxRecDepth 100000 in
set_option maxHeartbeats 4000000 in
theorem fch_X3_readPiano : fchk fd_X3_readPiano = true := by decide +kernel
set_option maxRecDepth 100000 in
theorem fg_X3_readPiano : fMg fd_X3_readPiano ∧ fHok fd_X3_readPiano := ⟨fMg_of (own := RX3) fch_X3_readPiano rfl rfl fek_X3, fHok_0 rfl⟩
set_option maxRecDepth 100000 in
set_option maxHeartbeats 4000000 in
theorem fch_X3_readMore : fchk fd_X3_readMore = true := by decide +kernel
set_option maxRecDepth 100000 in
theorem fg_X3_readMore : fMg fd_X3_readMore ∧ fHok fd_X3_readMore := ⟨fMg_of (own := RX3) fch_X3_readMore rfl rfl fek_X3, fHok_0 rfl⟩
set_option maxRecDepth 100000 in
set_option maxHeartbeats 4000000 in
theorem fch_X3_withTold : fchk fd_X3_withTold = true := by decide +kernel
set_option maxRecDepth 100000 in
theorem fg_X3_withTold : fMg fd_X3_withTold ∧ fHok fd_X3_withTold := ⟨fMg_of (own := RX3) fch_X3_withTold rfl rfl fek_X3, fHok_0 rfl⟩
set_option maxRecDepth 100000 in
set_option maxHeartbeats 4000000 in
theorem fch_X3_readTuner : fchk fd_X3_readTuner = true := by decide +kernel
set_option maxRecDepth 100000 in
theorem fg_X3_readTuner : fMg fd_X3_readTuner ∧ fHok fd_X3_readTuner := ⟨fMg_of (own := RX3) fch_X3_readTuner rfl rfl fek_X3, fHok_0 rfl⟩
set_option maxRecDepth 100000 in
set_option maxHeartbeats 4000000 in
theorem fch_X3_readTeach : fchk fd_X3_readTeach = true := by decide +kernel
set_option maxRecDepth 100000 in
theorem fg_X3_readTeach : fMg fd_X3_readTeach ∧ fHok fd_X3_readTeach := ⟨fMg_of (own := RX3) fch_X3_readTeach rfl rfl fek_X3, fHok_0 rfl⟩
set_option maxRecDepth 100000 in
set_option maxHeartbeats 4000000 in
theorem fch_X4_init : fchk fd_X4_init = true := by decide +kernel
set_option maxRecDepth 100000 in
theorem fg_X4_init : fMg fd_X4_init ∧ fHok fd_X4_init := ⟨fMg_of (own := RX4) fch_X4_init rfl rfl fek_X4, fHok_0 rfl⟩
set_option maxRecDepth 100000 in
set_option maxHeartbeats 4000000 in
theorem fch_X4_share : fchk fd_X4_share = true := by decide +kernel
set_option maxRecDepth 100000 in
theorem fg_X4_share : fMg fd_X4_share ∧ fHok fd_X4_share := ⟨fMg_of (own := RX4) fch_X4_share rfl rfl fek_X4, fHok_0 rfl⟩
set_option maxRecDepth 100000 in
set_option maxHeartbeats 4000000 in
theorem fch_X4_sumWith : fchk fd_X4_sumWith = true := by decide +kernel
set_option maxRecDepth 100000 in
theorem fg_X4_sumWith : fMg fd_X4_sumWith ∧ fHok fd_X4_sumWith := ⟨fMg_of (own := RX4) fch_X4_sumWith rfl rfl fek_X4, fHok_0 rfl⟩
set_option maxRecDepth 100000 in
set_option maxHeartbeats 4000000 in
theorem fch_X4_greatest : fchk fd_X4_greatest = true := by decide +kernel
set_option maxRecDepth 100000 in
theorem fg_X4_greatest : fMg fd_X4_greatest ∧ fHok fd_X4_greatest := ⟨fMg_of (own := RX4) fch_X4_greatest rfl rfl fek_X4, fHok_0 rfl⟩
set_option maxRecDepth 100000 in
set_option maxHeartbeats 4000000 in
theorem fch_X4_pickTuners : fchk fd_X4_pickTuners = true := by decide +kernel
set_option maxRecDepth 100000 in
theorem fg_X4_pickTuners : fMg fd_X4_pickTuners ∧ fHok fd_X4_pickTuners := ⟨fMg_of (own := RX4) fch_X4_pickTuners rfl rfl fek_X4, fHok_0 rfl⟩
set_option maxRecDepth 100000 in
set_option maxHeartbeats 4000000 in
theorem fch_X4_firstGreatest : fchk fd_X4_firstGreatest = true := by decide +kernel
set_option maxRecDepth 100000 in
theorem fg_X4_firstGreatest : fMg fd_X4_firstGreatest ∧ fHok fd_X4_firstGreatest := ⟨fMg_of (own := RX4) fch_X4_firstGreatest rfl rfl fek_X4, fHok_0 rfl⟩
set_option maxRecDepth 100000 in
set_option maxHeartbeats 4000000 in
theorem fch_X5_init : fchk fd_X5_init = true := by decide +kernel
set_option maxRecDepth 100000 in
theorem fg_X5_init : fMg fd_X5_init ∧ fHok fd_X5_init := ⟨fMg_of (own := RX5) fch_X5_init rfl rfl fek_X5, fHok_0 rfl⟩
set_option maxRecDepth 100000 in
set_option maxHeartbeats 4000000 in
theorem fch_X5_readAll : fchk fd_X5_readAll = true := by decide +kernel
set_option maxRecDepth 100000 in
theorem fg_X5_readAll : fMg fd_X5_readAll ∧ fHok fd_X5_readAll := ⟨fMg_of (own := RX5) fch_X5_readAll rfl rfl fek_X5, fHok_0 rfl⟩
set_option maxRecDepth 100000 in
set_option maxHeartbeats 4000000 in
theorem fch_X5_readLine : fchk fd_X5_readLine = true := by decide +kernel
set_option maxRecDepth 100000 in
theorem fg_X5_readLine : fMg fd_X5_readLine ∧ fHok fd_X5_readLine := ⟨fMg_of (own := RX5) fch_X5_readLine rfl rfl fek_X5, fHok_0 rfl⟩
set_option maxRecDepth 100000 in
set_option maxHeartbeats 4000000 in
theorem fch_X5_takePiano : fchk fd_X5_takePiano = true := by decide +kernel
set_option maxRecDepth 100000 in
theorem fg_X5_takePiano : fMg fd_X5_takePiano ∧ fHok fd_X5_takePiano := ⟨fMg_of (own := RX5) fch_X5_takePiano rfl rfl fek_X5, fHok_0 rfl⟩
set_option maxRecDepth 100000 in
set_option maxHeartbeats 4000000 in
theorem fch_X5_takeTuner : fchk fd_X5_takeTuner = true := by decide +kernel
set_option maxRecDepth 100000 in
theorem fg_X5_takeTuner : fMg fd_X5_takeTuner ∧ fHok fd_X5_takeTuner := ⟨fMg_of (own := RX5) fch_X5_takeTuner rfl rfl fek_X5, fHok_0 rfl⟩
set_option maxRecDepth 100000 in
set_option maxHeartbeats 4000000 in
theorem fch_X5_readWhen : fchk fd_X5_readWhen = true := by decide +kernel
set_option maxRecDepth 100000 in
theorem fg_X5_readWhen : fMg fd_X5_readWhen ∧ fHok fd_X5_readWhen := ⟨fMg_of (own := RX5) fch_X5_readWhen rfl rfl fek_X5, fHok_0 rfl⟩
set_option maxRecDepth 100000 in
set_option maxHeartbeats 4000000 in
theorem fch_X5_readNote : fchk fd_X5_readNote = true := by decide +kernel
set_option maxRecDepth 100000 in
theorem fg_X5_readNote : fMg fd_X5_readNote ∧ fHok fd_X5_readNote := ⟨fMg_of (own := RX5) fch_X5_readNote rfl rfl fek_X5, fHok_0 rfl⟩
set_option maxRecDepth 100000 in
set_option maxHeartbeats 4000000 in
theorem fch_X6_init : fchk fd_X6_init = true := by decide +kernel
set_option maxRecDepth 100000 in
theorem fg_X6_init : fMg fd_X6_init ∧ fHok fd_X6_init := ⟨fMg_of (own := RX6) fch_X6_init rfl rfl fek_X6, fHok_0 rfl⟩
set_option maxRecDepth 100000 in
set_option maxHeartbeats 4000000 in
theorem fch_X6_copyFrom : fchk fd_X6_copyFrom = true := by decide +kernel
set_option maxRecDepth 100000 in
theorem fg_X6_copyFrom : fMg fd_X6_copyFrom ∧ fHok fd_X6_copyFrom := ⟨fMg_of (own := RX6) fch_X6_copyFrom rfl rfl fek_X6, fHok_0 rfl⟩
set_option maxRecDepth 100000 in
set_option maxHeartbeats 4000000 in
theorem fch_X6_begin : fchk fd_X6_begin = true := by decide +kernel
set_option maxRecDepth 100000 in
theorem fg_X6_begin : fMg fd_X6_begin ∧ fHok fd_X6_begin := ⟨fMg_of (own := RX6) fch_X6_begin rfl rfl fek_X6, fHok_0 rfl⟩
set_option maxRecDepth 100000 in
set_option maxHeartbeats 4000000 in
theorem fch_X6_isTold : fchk fd_X6_isTold = true := by decide +kernel
set_option maxRecDepth 100000 in
theorem fg_X6_isTold : fMg fd_X6_isTold ∧ fHok fd_X6_isTold := ⟨fMg_of (own := RX6) fch_X6_isTold rfl rfl fek_X6, fHok_0 rfl⟩
set_option maxRecDepth 100000 in
set_option maxHeartbeats 4000000 in
theorem fch_X6_leftOf : fchk fd_X6_leftOf = true := by decide +kernel
set_option maxRecDepth 100000 in
theorem fg_X6_leftOf : fMg fd_X6_leftOf ∧ fHok fd_X6_leftOf := ⟨fMg_of (own := RX6) fch_X6_leftOf rfl rfl fek_X6, fHok_0 rfl⟩
set_option maxRecDepth 100000 in
set_option maxHeartbeats 4000000 in
theorem fch_X6_isKnown : fchk fd_X6_isKnown = true := by decide +kernel
set_option maxRecDepth 100000 in
theorem fg_X6_isKnown : fMg fd_X6_isKnown ∧ fHok fd_X6_isKnown := ⟨fMg_of (own := RX6) fch_X6_isKnown rfl rfl fek_X6, fHok_0 rfl⟩
set_option maxRecDepth 100000 in
set_option maxHeartbeats 4000000 in
theorem fch_X6_isOf : fchk fd_X6_isOf = true := by decide +kernel
set_option maxRecDepth 100000 in
theorem fg_X6_isOf : fMg fd_X6_isOf ∧ fHok fd_X6_isOf := ⟨fMg_of (own := RX6) fch_X6_isOf rfl rfl fek_X6, fHok_0 rfl⟩
set_option maxRecDepth 100000 in
set_option maxHeartbeats 4000000 in
theorem fch_X6_latest : fchk fd_X6_latest = true := by decide +kernel
set_option maxRecDepth 100000 in
theorem fg_X6_latest : fMg fd_X6_latest ∧ fHok fd_X6_latest := ⟨fMg_of (own := RX6) fch_X6_latest rfl rfl fek_X6, fHok_0 rfl⟩
set_option maxRecDepth 100000 in
set_option maxHeartbeats 4000000 in
theorem fch_X6_hasWithin : fchk fd_X6_hasWithin = true := by decide +kernel
set_option maxRecDepth 100000 in
theorem fg_X6_hasWithin : fMg fd_X6_hasWithin ∧ fHok fd_X6_hasWithin := ⟨fMg_of (own := RX6) fch_X6_hasWithin rfl rfl fek_X6, fHok_0 rfl⟩
set_option maxRecDepth 100000 in
set_option maxHeartbeats 4000000 in
theorem fch_X6_concertsTold : fchk fd_X6_concertsTold = true := by decide +kernel
set_option maxRecDepth 100000 in
theorem fg_X6_concertsTold : fMg fd_X6_concertsTold ∧ fHok fd_X6_concertsTold := ⟨fMg_of (own := RX6) fch_X6_concertsTold rfl rfl fek_X6, fHok_0 rfl⟩
set_option maxRecDepth 100000 in
set_option maxHeartbeats 4000000 in
theorem fch_X7_init : fchk fd_X7_init = true := by decide +kernel
set_option maxRecDepth 100000 in
theorem fg_X7_init : fMg fd_X7_init ∧ fHok fd_X7_init := ⟨fMg_of (own := RX7) fch_X7_init rfl rfl fek_X7, fHok_0 rfl⟩
set_option maxRecDepth 100000 in
set_option maxHeartbeats 4000000 in
theorem fch_X7_weightOf : fchk fd_X7_weightOf = true := by decide +kernel
set_option maxRecDepth 100000 in
theorem fg_X7_weightOf : fMg fd_X7_weightOf ∧ fHok fd_X7_weightOf := ⟨fMg_of (own := RX7) fch_X7_weightOf rfl rfl fek_X7, fHok_0 rfl⟩
set_option maxRecDepth 100000 in
set_option maxHeartbeats 4000000 in
theorem fch_X7_place : fchk fd_X7_place = true := by decide +kernel
set_option maxRecDepth 100000 in
theorem fg_X7_place : fMg fd_X7_place ∧ fHok fd_X7_place := ⟨fMg_of (own := RX7) fch_X7_place rfl rfl fek_X7, fHok_0 rfl⟩
set_option maxRecDepth 100000 in
set_option maxHeartbeats 4000000 in
theorem fch_X7_weigh : fchk fd_X7_weigh = true := by decide +kernel
set_option maxRecDepth 100000 in
theorem fg_X7_weigh : fMg fd_X7_weigh ∧ fHok fd_X7_weigh := ⟨fMg_of (own := RX7) fch_X7_weigh rfl rfl fek_X7, fHok_0 rfl⟩
set_option maxRecDepth 100000 in
set_option maxHeartbeats 4000000 in
theorem fch_X7_liveWith : fchk fd_X7_liveWith = true := by decide +kernel
set_option maxRecDepth 100000 in
theorem fg_X7_liveWith : fMg fd_X7_liveWith ∧ fHok fd_X7_liveWith := ⟨fMg_of (own := RX7) fch_X7_liveWith rfl rfl fek_X7, fHok_0 rfl⟩
set_option maxRecDepth 100000 in
set_option maxHeartbeats 4000000 in
theorem fch_X7_sortPianos : fchk fd_X7_sortPianos = true := by decide +kernel
set_option maxRecDepth 100000 in
theorem fg_X7_sortPianos : fMg fd_X7_sortPianos ∧ fHok fd_X7_sortPianos := ⟨fMg_of (own := RX7) fch_X7_sortPianos rfl rfl fek_X7, fHok_0 rfl⟩
set_option maxRecDepth 100000 in
set_option maxHeartbeats 4000000 in
theorem fch_X7_minutes : fchk fd_X7_minutes = true := by decide +kernel
set_option maxRecDepth 100000 in
theorem fg_X7_minutes : fMg fd_X7_minutes ∧ fHok fd_X7_minutes := ⟨fMg_of (own := RX7) fch_X7_minutes rfl rfl fek_X7, fHok_0 rfl⟩
set_option maxRecDepth 100000 in
set_option maxHeartbeats 4000000 in
theorem fch_X7_doneAt : fchk fd_X7_doneAt = true := by decide +kernel
set_option maxRecDepth 100000 in
theorem fg_X7_doneAt : fMg fd_X7_doneAt ∧ fHok fd_X7_doneAt := ⟨fMg_of (own := RX7) fch_X7_doneAt rfl rfl fek_X7, fHok_0 rfl⟩
set_option maxRecDepth 100000 in
set_option maxHeartbeats 4000000 in
theorem fch_X7_fillHomes : fchk fd_X7_fillHomes = true := by decide +kernel
set_option maxRecDepth 100000 in
theorem fg_X7_fillHomes : fMg fd_X7_fillHomes ∧ fHok fd_X7_fillHomes := ⟨fMg_of (own := RX7) fch_X7_fillHomes rfl rfl fek_X7, fHok_0 rfl⟩
set_option maxRecDepth 100000 in
set_option maxHeartbeats 4000000 in
theorem fch_X7_soonestDone : fchk fd_X7_soonestDone = true := by decide +kernel
set_option maxRecDepth 100000 in
theorem fg_X7_soonestDone : fMg fd_X7_soonestDone ∧ fHok fd_X7_soonestDone := ⟨fMg_of (own := RX7) fch_X7_soonestDone rfl rfl fek_X7, fHok_0 rfl⟩
set_option maxRecDepth 100000 in
set_option maxHeartbeats 4000000 in
theorem fch_X7_best : fchk fd_X7_best = true := by decide +kernel
set_option maxRecDepth 100000 in
theorem fg_X7_best : fMg fd_X7_best ∧ fHok fd_X7_best := ⟨fMg_of (own := RX7) fch_X7_best rfl rfl fek_X7, fHok_0 rfl⟩
set_option maxRecDepth 100000 in
set_option maxHeartbeats 4000000 in
theorem fch_X7_fillLatest : fchk fd_X7_fillLatest = true := by decide +kernel
set_option maxRecDepth 100000 in
theorem fg_X7_fillLatest : fMg fd_X7_fillLatest ∧ fHok fd_X7_fillLatest := ⟨fMg_of (own := RX7) fch_X7_fillLatest rfl rfl fek_X7, fHok_0 rfl⟩
set_option maxRecDepth 100000 in
set_option maxHeartbeats 4000000 in
theorem fch_X7_latestDone : fchk fd_X7_latestDone = true := by decide +kernel
set_option maxRecDepth 100000 in
theorem fg_X7_latestDone : fMg fd_X7_latestDone ∧ fHok fd_X7_latestDone := ⟨fMg_of (own := RX7) fch_X7_latestDone rfl rfl fek_X7, fHok_0 rfl⟩
set_option maxRecDepth 100000 in
set_option maxHeartbeats 4000000 in
theorem fch_X7_pickOrder : fchk fd_X7_pickOrder = true := by decide +kernel
set_option maxRecDepth 100000 in
theorem fg_X7_pickOrder : fMg fd_X7_pickOrder ∧ fHok fd_X7_pickOrder := ⟨fMg_of (own := RX7) fch_X7_pickOrder rfl rfl fek_X7, fHok_0 rfl⟩
set_option maxRecDepth 100000 in
set_option maxHeartbeats 4000000 in
theorem fch_X7_firstNext : fchk fd_X7_firstNext = true := by decide +kernel
set_option maxRecDepth 100000 in
theorem fg_X7_firstNext : fMg fd_X7_firstNext ∧ fHok fd_X7_firstNext := ⟨fMg_of (own := RX7) fch_X7_firstNext rfl rfl fek_X7, fHok_0 rfl⟩
set_option maxRecDepth 100000 in
set_option maxHeartbeats 4000000 in
theorem fch_X7_canGoOn : fchk fd_X7_canGoOn = true := by decide +kernel
set_option maxRecDepth 100000 in
theorem fg_X7_canGoOn : fMg fd_X7_canGoOn ∧ fHok fd_X7_canGoOn := ⟨fMg_of (own := RX7) fch_X7_canGoOn rfl rfl fek_X7, fHok_0 rfl⟩
set_option maxRecDepth 100000 in
set_option maxHeartbeats 4000000 in
theorem fch_X7_walkAsTold : fchk fd_X7_walkAsTold = true := by decide +kernel
set_option maxRecDepth 100000 in
theorem fg_X7_walkAsTold : fMg fd_X7_walkAsTold ∧ fHok fd_X7_walkAsTold := ⟨fMg_of (own := RX7) fch_X7_walkAsTold rfl rfl fek_X7, fHok_0 rfl⟩
set_option maxRecDepth 100000 in
set_option maxHeartbeats 4000000 in
theorem fch_X7_bestOfTwo : fchk fd_X7_bestOfTwo = true := by decide +kernel
set_option maxRecDepth 100000 in
theorem fg_X7_bestOfTwo : fMg fd_X7_bestOfTwo ∧ fHok fd_X7_bestOfTwo := ⟨fMg_of (own := RX7) fch_X7_bestOfTwo rfl rfl fek_X7, fHok_0 rfl⟩
set_option maxRecDepth 100000 in
set_option maxHeartbeats 4000000 in
theorem fch_X7_fillOtherBest : fchk fd_X7_fillOtherBest = true := by decide +kernel
set_option maxRecDepth 100000 in
theorem fg_X7_fillOtherBest : fMg fd_X7_fillOtherBest ∧ fHok fd_X7_fillOtherBest := ⟨fMg_of (own := RX7) fch_X7_fillOtherBest rfl rfl fek_X7, fHok_0 rfl⟩
set_option maxRecDepth 100000 in
set_option maxHeartbeats 4000000 in
theorem fch_X7_fewestTuners : fchk fd_X7_fewestTuners = true := by decide +kernel
set_option maxRecDepth 100000 in
theorem fg_X7_fewestTuners : fMg fd_X7_fewestTuners ∧ fHok fd_X7_fewestTuners := ⟨fMg_of (own := RX7) fch_X7_fewestTuners rfl rfl fek_X7, fHok_0 rfl⟩
set_option maxRecDepth 100000 in
set_option maxHeartbeats 4000000 in
theorem fch_X7_countWays : fchk fd_X7_countWays = true := by decide +kernel
set_option maxRecDepth 100000 in
theorem fg_X7_countWays : fMg fd_X7_countWays ∧ fHok fd_X7_countWays := ⟨fMg_of (own := RX7) fch_X7_countWays rfl rfl fek_X7, fHok_0 rfl⟩
set_option maxRecDepth 100000 in
set_option maxHeartbeats 4000000 in
theorem fch_X7_hasAll : fchk fd_X7_hasAll = true := by decide +kernel
set_option maxRecDepth 100000 in
theorem fg_X7_hasAll : fMg fd_X7_hasAll ∧ fHok fd_X7_hasAll := ⟨fMg_of (own := RX7) fch_X7_hasAll rfl rfl fek_X7, fHok_0 rfl⟩
set_option maxRecDepth 100000 in
set_option maxHeartbeats 4000000 in
theorem fch_X8_init : fchk fd_X8_init = true := by decide +kernel
set_option maxRecDepth 100000 in
theorem fg_X8_init : fMg fd_X8_init ∧ fHok fd_X8_init := ⟨fMg_of (own := RX8) fch_X8_init rfl rfl fek_X8, fHok_0 rfl⟩
set_option maxRecDepth 100000 in
set_option maxHeartbeats 4000000 in
theorem fch_X8_look : fchk fd_X8_look = true := by decide +kernel
set_option maxRecDepth 100000 in
theorem fg_X8_look : fMg fd_X8_look ∧ fHok fd_X8_look := ⟨fMg_of (own := RX8) fch_X8_look rfl rfl fek_X8, fHok_0 rfl⟩
set_option maxRecDepth 100000 in
set_option maxHeartbeats 4000000 in
theorem fch_X8_sumSlipTimes : fchk fd_X8_sumSlipTimes = true := by decide +kernel
set_option maxRecDepth 100000 in
theorem fg_X8_sumSlipTimes : fMg fd_X8_sumSlipTimes ∧ fHok fd_X8_sumSlipTimes := ⟨fMg_of (own := RX8) fch_X8_sumSlipTimes rfl rfl fek_X8, fHok_0 rfl⟩
set_option maxRecDepth 100000 in
set_option maxHeartbeats 4000000 in
theorem fch_X8_sumStoveFall : fchk fd_X8_sumStoveFall = true := by decide +kernel
set_option maxRecDepth 100000 in
theorem fg_X8_sumStoveFall : fMg fd_X8_sumStoveFall ∧ fHok fd_X8_sumStoveFall := ⟨fMg_of (own := RX8) fch_X8_sumStoveFall rfl rfl fek_X8, fHok_0 rfl⟩
set_option maxRecDepth 100000 in
set_option maxHeartbeats 4000000 in
theorem fch_X8_wasTuned : fchk fd_X8_wasTuned = true := by decide +kernel
set_option maxRecDepth 100000 in
theorem fg_X8_wasTuned : fMg fd_X8_wasTuned ∧ fHok fd_X8_wasTuned := ⟨fMg_of (own := RX8) fch_X8_wasTuned rfl rfl fek_X8, fHok_0 rfl⟩
set_option maxRecDepth 100000 in
set_option maxHeartbeats 4000000 in
theorem fch_X8_tunedOn : fchk fd_X8_tunedOn = true := by decide +kernel
set_option maxRecDepth 100000 in
theorem fg_X8_tunedOn : fMg fd_X8_tunedOn ∧ fHok fd_X8_tunedOn := ⟨fMg_of (own := RX8) fch_X8_tunedOn rfl rfl fek_X8, fHok_0 rfl⟩
set_option maxRecDepth 100000 in
set_option maxHeartbeats 4000000 in
theorem fch_X8_leftAt : fchk fd_X8_leftAt = true := by decide +kernel
set_option maxRecDepth 100000 in
theorem fg_X8_leftAt : fMg fd_X8_leftAt ∧ fHok fd_X8_leftAt := ⟨fMg_of (own := RX8) fch_X8_leftAt rfl rfl fek_X8, fHok_0 rfl⟩
set_option maxRecDepth 100000 in
set_option maxHeartbeats 4000000 in
theorem fch_X8_ear : fchk fd_X8_ear = true := by decide +kernel
set_option maxRecDepth 100000 in
theorem fg_X8_ear : fMg fd_X8_ear ∧ fHok fd_X8_ear := ⟨fMg_of (own := RX8) fch_X8_ear rfl rfl fek_X8, fHok_0 rfl⟩
set_option maxRecDepth 100000 in
set_option maxHeartbeats 4000000 in
theorem fch_X8_offsetAt : fchk fd_X8_offsetAt = true := by decide +kernel
set_option maxRecDepth 100000 in
theorem fg_X8_offsetAt : fMg fd_X8_offsetAt ∧ fHok fd_X8_offsetAt := ⟨fMg_of (own := RX8) fch_X8_offsetAt rfl rfl fek_X8, fHok_0 rfl⟩
set_option maxRecDepth 100000 in
set_option maxHeartbeats 4000000 in
theorem fch_X8_offsetUndamped : fchk fd_X8_offsetUndamped = true := by decide +kernel
set_option maxRecDepth 100000 in
theorem fg_X8_offsetUndamped : fMg fd_X8_offsetUndamped ∧ fHok fd_X8_offsetUndamped := ⟨fMg_of (own := RX8) fch_X8_offsetUndamped rfl rfl fek_X8, fHok_0 rfl⟩
set_option maxRecDepth 100000 in
set_option maxHeartbeats 4000000 in
theorem fch_X8_dampFrom : fchk fd_X8_dampFrom = true := by decide +kernel
set_option maxRecDepth 100000 in
theorem fg_X8_dampFrom : fMg fd_X8_dampFrom ∧ fHok fd_X8_dampFrom := ⟨fMg_of (own := RX8) fch_X8_dampFrom rfl rfl fek_X8, fHok_0 rfl⟩
set_option maxRecDepth 100000 in
set_option maxHeartbeats 4000000 in
theorem fch_X8_greatestAt : fchk fd_X8_greatestAt = true := by decide +kernel
set_option maxRecDepth 100000 in
theorem fg_X8_greatestAt : fMg fd_X8_greatestAt ∧ fHok fd_X8_greatestAt := ⟨fMg_of (own := RX8) fch_X8_greatestAt rfl rfl fek_X8, fHok_0 rfl⟩
set_option maxRecDepth 100000 in
set_option maxHeartbeats 4000000 in
theorem fch_X8_greatestUndamped : fchk fd_X8_greatestUndamped = true := by decide +kernel
set_option maxRecDepth 100000 in
theorem fg_X8_greatestUndamped : fMg fd_X8_greatestUndamped ∧ fHok fd_X8_greatestUndamped := ⟨fMg_of (own := RX8) fch_X8_greatestUndamped rfl rfl fek_X8, fHok_0 rfl⟩
set_option maxRecDepth 100000 in
set_option maxHeartbeats 4000000 in
theorem fch_X8_isBeyond : fchk fd_X8_isBeyond = true := by decide +kernel
set_option maxRecDepth 100000 in
theorem fg_X8_isBeyond : fMg fd_X8_isBeyond ∧ fHok fd_X8_isBeyond := ⟨fMg_of (own := RX8) fch_X8_isBeyond rfl rfl fek_X8, fHok_0 rfl⟩
set_option maxRecDepth 100000 in
set_option maxHeartbeats 4000000 in
theorem fch_X8_firstBeyond : fchk fd_X8_firstBeyond = true := by decide +kernel
set_option maxRecDepth 100000 in
theorem fg_X8_firstBeyond : fMg fd_X8_firstBeyond ∧ fHok fd_X8_firstBeyond := ⟨fMg_of (own := RX8) fch_X8_firstBeyond rfl rfl fek_X8, fHok_0 rfl⟩
set_option maxRecDepth 100000 in
set_option maxHeartbeats 4000000 in
theorem fch_X8_tuningsFrom : fchk fd_X8_tuningsFrom = true := by decide +kernel
set_option maxRecDepth 100000 in
theorem fg_X8_tuningsFrom : fMg fd_X8_tuningsFrom ∧ fHok fd_X8_tuningsFrom := ⟨fMg_of (own := RX8) fch_X8_tuningsFrom rfl rfl fek_X8, fHok_0 rfl⟩
set_option maxRecDepth 100000 in
set_option maxHeartbeats 4000000 in
theorem fch_X9_init : fchk fd_X9_init = true := by decide +kernel
set_option maxRecDepth 100000 in
theorem fg_X9_init : fMg fd_X9_init ∧ fHok fd_X9_init := ⟨fMg_of (own := RX9) fch_X9_init rfl rfl fek_X9, fHok_0 rfl⟩
set_option maxRecDepth 100000 in
set_option maxHeartbeats 4000000 in
theorem fch_X9_pack : fchk fd_X9_pack = true := by decide +kernel
set_option maxRecDepth 100000 in
theorem fg_X9_pack : fMg fd_X9_pack ∧ fHok fd_X9_pack := ⟨fMg_of (own := RX9) fch_X9_pack rfl rfl fek_X9, fHok_0 rfl⟩
set_option maxRecDepth 100000 in
set_option maxHeartbeats 4000000 in
theorem fch_X9_countParts : fchk fd_X9_countParts = true := by decide +kernel
set_option maxRecDepth 100000 in
theorem fg_X9_countParts : fMg fd_X9_countParts ∧ fHok fd_X9_countParts := ⟨fMg_of (own := RX9) fch_X9_countParts rfl rfl fek_X9, fHok_0 rfl⟩
set_option maxRecDepth 100000 in
set_option maxHeartbeats 4000000 in
theorem fch_X9_tryCounts : fchk fd_X9_tryCounts = true := by decide +kernel
set_option maxRecDepth 100000 in
theorem fg_X9_tryCounts : fMg fd_X9_tryCounts ∧ fHok fd_X9_tryCounts := ⟨fMg_of (own := RX9) fch_X9_tryCounts rfl rfl fek_X9, fHok_0 rfl⟩
set_option maxRecDepth 100000 in
set_option maxHeartbeats 4000000 in
theorem fch_X9_partOf : fchk fd_X9_partOf = true := by decide +kernel
set_option maxRecDepth 100000 in
theorem fg_X9_partOf : fMg fd_X9_partOf ∧ fHok fd_X9_partOf := ⟨fMg_of (own := RX9) fch_X9_partOf rfl rfl fek_X9, fHok_0 rfl⟩
set_option maxRecDepth 100000 in
set_option maxHeartbeats 4000000 in
theorem fch_X10_init : fchk fd_X10_init = true := by decide +kernel
set_option maxRecDepth 100000 in
theorem fg_X10_init : fMg fd_X10_init ∧ fHok fd_X10_init := ⟨fMg_of (own := RX10) fch_X10_init rfl rfl fek_X10, fHok_0 rfl⟩
set_option maxRecDepth 100000 in
set_option maxHeartbeats 4000000 in
theorem fch_X10_withLetter : fchk fd_X10_withLetter = true := by decide +kernel
set_option maxRecDepth 100000 in
theorem fg_X10_withLetter : fMg fd_X10_withLetter ∧ fHok fd_X10_withLetter := ⟨fMg_of (own := RX10) fch_X10_withLetter rfl rfl fek_X10, fHok_0 rfl⟩
set_option maxRecDepth 100000 in
set_option maxHeartbeats 4000000 in
theorem fch_X10_hasRoom : fchk fd_X10_hasRoom = true := by decide +kernel
set_option maxRecDepth 100000 in
theorem fg_X10_hasRoom : fMg fd_X10_hasRoom ∧ fHok fd_X10_hasRoom := ⟨fMg_of (own := RX10) fch_X10_hasRoom rfl rfl fek_X10, fHok_0 rfl⟩
set_option maxRecDepth 100000 in
set_option maxHeartbeats 4000000 in
theorem fch_X10_add : fchk fd_X10_add = true := by decide +kernel
set_option maxRecDepth 100000 in
theorem fg_X10_add : fMg fd_X10_add ∧ fHok fd_X10_add := ⟨fMg_of (own := RX10) fch_X10_add rfl rfl fek_X10, fHok_0 rfl⟩
set_option maxRecDepth 100000 in
set_option maxHeartbeats 4000000 in
theorem fch_X10_isCut : fchk fd_X10_isCut = true := by decide +kernel
set_option maxRecDepth 100000 in
theorem fg_X10_isCut : fMg fd_X10_isCut ∧ fHok fd_X10_isCut := ⟨fMg_of (own := RX10) fch_X10_isCut rfl rfl fek_X10, fHok_0 rfl⟩
set_option maxRecDepth 100000 in
set_option maxHeartbeats 4000000 in
theorem fch_X10_empty : fchk fd_X10_empty = true := by decide +kernel
set_option maxRecDepth 100000 in
theorem fg_X10_empty : fMg fd_X10_empty ∧ fHok fd_X10_empty := ⟨fMg_of (own := RX10) fch_X10_empty rfl rfl fek_X10, fHok_0 rfl⟩
set_option maxRecDepth 100000 in
set_option maxHeartbeats 4000000 in
theorem fch_X10_movePianos : fchk fd_X10_movePianos = true := by decide +kernel
set_option maxRecDepth 100000 in
theorem fg_X10_movePianos : fMg fd_X10_movePianos ∧ fHok fd_X10_movePianos := ⟨fMg_of (own := RX10) fch_X10_movePianos rfl rfl fek_X10, fHok_0 rfl⟩
set_option maxRecDepth 100000 in
set_option maxHeartbeats 4000000 in
theorem fch_X10_begin : fchk fd_X10_begin = true := by decide +kernel
set_option maxRecDepth 100000 in
theorem fg_X10_begin : fMg fd_X10_begin ∧ fHok fd_X10_begin := ⟨fMg_of (own := RX10) fch_X10_begin rfl rfl fek_X10, fHok_0 rfl⟩
set_option maxRecDepth 100000 in
set_option maxHeartbeats 4000000 in
theorem fch_X10_take : fchk fd_X10_take = true := by decide +kernel
set_option maxRecDepth 100000 in
theorem fg_X10_take : fMg fd_X10_take ∧ fHok fd_X10_take := ⟨fMg_of (own := RX10) fch_X10_take rfl rfl fek_X10, fHok_0 rfl⟩
set_option maxRecDepth 100000 in
set_option maxHeartbeats 4000000 in
theorem fch_X10_takeRun : fchk fd_X10_takeRun = true := by decide +kernel
set_option maxRecDepth 100000 in
theorem fg_X10_takeRun : fMg fd_X10_takeRun ∧ fHok fd_X10_takeRun := ⟨fMg_of (own := RX10) fch_X10_takeRun rfl rfl fek_X10, fHok_0 rfl⟩
set_option maxRecDepth 100000 in
set_option maxHeartbeats 4000000 in
theorem fch_X10_isBlank : fchk fd_X10_isBlank = true := by decide +kernel
set_option maxRecDepth 100000 in
theorem fg_X10_isBlank : fMg fd_X10_isBlank ∧ fHok fd_X10_isBlank := ⟨fMg_of (own := RX10) fch_X10_isBlank rfl rfl fek_X10, fHok_0 rfl⟩
set_option maxRecDepth 100000 in
set_option maxHeartbeats 4000000 in
theorem fch_X10_isLetter : fchk fd_X10_isLetter = true := by decide +kernel
set_option maxRecDepth 100000 in
theorem fg_X10_isLetter : fMg fd_X10_isLetter ∧ fHok fd_X10_isLetter := ⟨fMg_of (own := RX10) fch_X10_isLetter rfl rfl fek_X10, fHok_0 rfl⟩
set_option maxRecDepth 100000 in
set_option maxHeartbeats 4000000 in
theorem fch_X10_isDigit : fchk fd_X10_isDigit = true := by decide +kernel
set_option maxRecDepth 100000 in
theorem fg_X10_isDigit : fMg fd_X10_isDigit ∧ fHok fd_X10_isDigit := ⟨fMg_of (own := RX10) fch_X10_isDigit rfl rfl fek_X10, fHok_0 rfl⟩
set_option maxRecDepth 100000 in
set_option maxHeartbeats 4000000 in
theorem fch_X10_takeNumber : fchk fd_X10_takeNumber = true := by decide +kernel
set_option maxRecDepth 100000 in
theorem fg_X10_takeNumber : fMg fd_X10_takeNumber ∧ fHok fd_X10_takeNumber := ⟨fMg_of (own := RX10) fch_X10_takeNumber rfl rfl fek_X10, fHok_0 rfl⟩
set_option maxRecDepth 100000 in
set_option maxHeartbeats 4000000 in
theorem fch_X10_takeSigned : fchk fd_X10_takeSigned = true := by decide +kernel
set_option maxRecDepth 100000 in
theorem fg_X10_takeSigned : fMg fd_X10_takeSigned ∧ fHok fd_X10_takeSigned := ⟨fMg_of (own := RX10) fch_X10_takeSigned rfl rfl fek_X10, fHok_0 rfl⟩
set_option maxRecDepth 100000 in
set_option maxHeartbeats 4000000 in
theorem fch_X10_numberHere : fchk fd_X10_numberHere = true := by decide +kernel
set_option maxRecDepth 100000 in
theorem fg_X10_numberHere : fMg fd_X10_numberHere ∧ fHok fd_X10_numberHere := ⟨fMg_of (own := RX10) fch_X10_numberHere rfl rfl fek_X10, fHok_0 rfl⟩
set_option maxRecDepth 100000 in
set_option maxHeartbeats 4000000 in
theorem fch_X10_keywordHere : fchk fd_X10_keywordHere = true := by decide +kernel
set_option maxRecDepth 100000 in
theorem fg_X10_keywordHere : fMg fd_X10_keywordHere ∧ fHok fd_X10_keywordHere := ⟨fMg_of (own := RX10) fch_X10_keywordHere rfl rfl fek_X10, fHok_0 rfl⟩
set_option maxRecDepth 100000 in
set_option maxHeartbeats 4000000 in
theorem fch_X10_takeKind : fchk fd_X10_takeKind = true := by decide +kernel
set_option maxRecDepth 100000 in
theorem fg_X10_takeKind : fMg fd_X10_takeKind ∧ fHok fd_X10_takeKind := ⟨fMg_of (own := RX10) fch_X10_takeKind rfl rfl fek_X10, fHok_0 rfl⟩
set_option maxRecDepth 100000 in
set_option maxHeartbeats 4000000 in
theorem fch_X10_takeName : fchk fd_X10_takeName = true := by decide +kernel
set_option maxRecDepth 100000 in
theorem fg_X10_takeName : fMg fd_X10_takeName ∧ fHok fd_X10_takeName := ⟨fMg_of (own := RX10) fch_X10_takeName rfl rfl fek_X10, fHok_0 rfl⟩
set_option maxRecDepth 100000 in
set_option maxHeartbeats 4000000 in
theorem fch_X10_fail : fchk fd_X10_fail = true := by decide +kernel
set_option maxRecDepth 100000 in
theorem fg_X10_fail : fMg fd_X10_fail ∧ fHok fd_X10_fail := ⟨fMg_of (own := RX10) fch_X10_fail rfl rfl fek_X10, fHok_0 rfl⟩
set_option maxRecDepth 100000 in
set_option maxHeartbeats 4000000 in
theorem fch_X11_init : fchk fd_X11_init = true := by decide +kernel
set_option maxRecDepth 100000 in
theorem fg_X11_init : fMg fd_X11_init ∧ fHok fd_X11_init := ⟨fMg_of (own := RX11) fch_X11_init rfl rfl fek_X11, fHok_0 rfl⟩
set_option maxRecDepth 100000 in
set_option maxHeartbeats 4000000 in
theorem fch_X11_feed : fchk fd_X11_feed = true := by decide +kernel
set_option maxRecDepth 100000 in
theorem fg_X11_feed : fMg fd_X11_feed ∧ fHok fd_X11_feed := ⟨fMg_of (own := RX11) fch_X11_feed rfl rfl fek_X11, fHok_0 rfl⟩
set_option maxRecDepth 100000 in
set_option maxHeartbeats 4000000 in
theorem fch_X11_end : fchk fd_X11_end = true := by decide +kernel
set_option maxRecDepth 100000 in
theorem fg_X11_end : fMg fd_X11_end ∧ fHok fd_X11_end := ⟨fMg_of (own := RX11) fch_X11_end rfl rfl fek_X11, fHok_0 rfl⟩
set_option maxRecDepth 100000 in
set_option maxHeartbeats 4000000 in
theorem fch_X11_house : fchk fd_X11_house = true := by decide +kernel
set_option maxRecDepth 100000 in
theorem fg_X11_house : fMg fd_X11_house ∧ fHok fd_X11_house := ⟨fMg_of (own := RX11) fch_X11_house rfl rfl fek_X11, fHok_1 rfl (by decide) ((fmj_3 130 rfl rfl))⟩
set_option maxRecDepth 100000 in
set_option maxHeartbeats 4000000 in
theorem fch_X11_records : fchk fd_X11_records = true := by decide +kernel
set_option maxRecDepth 100000 in
theorem fg_X11_records : fMg fd_X11_records ∧ fHok fd_X11_records := ⟨fMg_of (own := RX11) fch_X11_records rfl rfl fek_X11, fHok_1 rfl (by decide) ((fmj_3 130 rfl rfl))⟩
set_option maxRecDepth 100000 in
set_option maxHeartbeats 4000000 in
theorem fch_X11_fault : fchk fd_X11_fault = true := by decide +kernel
set_option maxRecDepth 100000 in
theorem fg_X11_fault : fMg fd_X11_fault ∧ fHok fd_X11_fault := ⟨fMg_of (own := RX11) fch_X11_fault rfl rfl fek_X11, fHok_0 rfl⟩
set_option maxRecDepth 100000 in
set_option maxHeartbeats 4000000 in
theorem fch_X11_piano : fchk fd_X11_piano = true := by decide +kernel
set_option maxRecDepth 100000 in
theorem fg_X11_piano : fMg fd_X11_piano ∧ fHok fd_X11_piano := ⟨fMg_of (own := RX11) fch_X11_piano rfl rfl fek_X11, fHok_0 rfl⟩
set_option maxRecDepth 100000 in
set_option maxHeartbeats 4000000 in
theorem fch_X11_week : fchk fd_X11_week = true := by decide +kernel
set_option maxRecDepth 100000 in
theorem fg_X11_week : fMg fd_X11_week ∧ fHok fd_X11_week := ⟨fMg_of (own := RX11) fch_X11_week rfl rfl fek_X11, fHok_0 rfl⟩
set_option maxRecDepth 100000 in
set_option maxHeartbeats 4000000 in
theorem fch_X11_beats : fchk fd_X11_beats = true := by decide +kernel
set_option maxRecDepth 100000 in
theorem fg_X11_beats : fMg fd_X11_beats ∧ fHok fd_X11_beats := ⟨fMg_of (own := RX11) fch_X11_beats rfl rfl fek_X11, fHok_0 rfl⟩
set_option maxRecDepth 100000 in
set_option maxHeartbeats 4000000 in
theorem fch_X11_wolf : fchk fd_X11_wolf = true := by decide +kernel
set_option maxRecDepth 100000 in
theorem fg_X11_wolf : fMg fd_X11_wolf ∧ fHok fd_X11_wolf := ⟨fMg_of (own := RX11) fch_X11_wolf rfl rfl fek_X11, fHok_0 rfl⟩
set_option maxRecDepth 100000 in
set_option maxHeartbeats 4000000 in
theorem fch_X11_offset : fchk fd_X11_offset = true := by decide +kernel
set_option maxRecDepth 100000 in
theorem fg_X11_offset : fMg fd_X11_offset ∧ fHok fd_X11_offset := ⟨fMg_of (own := RX11) fch_X11_offset rfl rfl fek_X11, fHok_0 rfl⟩
set_option maxRecDepth 100000 in
set_option maxHeartbeats 4000000 in
theorem fch_X11_off : fchk fd_X11_off = true := by decide +kernel
set_option maxRecDepth 100000 in
theorem fg_X11_off : fMg fd_X11_off ∧ fHok fd_X11_off := ⟨fMg_of (own := RX11) fch_X11_off rfl rfl fek_X11, fHok_0 rfl⟩
set_option maxRecDepth 100000 in
set_option maxHeartbeats 4000000 in
theorem fch_X11_due : fchk fd_X11_due = true := by decide +kernel
set_option maxRecDepth 100000 in
theorem fg_X11_due : fMg fd_X11_due ∧ fHok fd_X11_due := ⟨fMg_of (own := RX11) fch_X11_due rfl rfl fek_X11, fHok_0 rfl⟩
set_option maxRecDepth 100000 in
set_option maxHeartbeats 4000000 in
theorem fch_X11_slips : fchk fd_X11_slips = true := by decide +kernel
set_option maxRecDepth 100000 in
theorem fg_X11_slips : fMg fd_X11_slips ∧ fHok fd_X11_slips := ⟨fMg_of (own := RX11) fch_X11_slips rfl rfl fek_X11, fHok_0 rfl⟩
set_option maxRecDepth 100000 in
set_option maxHeartbeats 4000000 in
theorem fch_X11_slipped : fchk fd_X11_slipped = true := by decide +kernel
set_option maxRecDepth 100000 in
theorem fg_X11_slipped : fMg fd_X11_slipped ∧ fHok fd_X11_slipped := ⟨fMg_of (own := RX11) fch_X11_slipped rfl rfl fek_X11, fHok_0 rfl⟩
set_option maxRecDepth 100000 in
set_option maxHeartbeats 4000000 in
theorem fch_X11_stove : fchk fd_X11_stove = true := by decide +kernel
set_option maxRecDepth 100000 in
theorem fg_X11_stove : fMg fd_X11_stove ∧ fHok fd_X11_stove := ⟨fMg_of (own := RX11) fch_X11_stove rfl rfl fek_X11, fHok_0 rfl⟩
set_option maxRecDepth 100000 in
set_option maxHeartbeats 4000000 in
theorem fch_X11_lean : fchk fd_X11_lean = true := by decide +kernel
set_option maxRecDepth 100000 in
theorem fg_X11_lean : fMg fd_X11_lean ∧ fHok fd_X11_lean := ⟨fMg_of (own := RX11) fch_X11_lean rfl rfl fek_X11, fHok_0 rfl⟩
set_option maxRecDepth 100000 in
set_option maxHeartbeats 4000000 in
theorem fch_X11_batch : fchk fd_X11_batch = true := by decide +kernel
set_option maxRecDepth 100000 in
theorem fg_X11_batch : fMg fd_X11_batch ∧ fHok fd_X11_batch := ⟨fMg_of (own := RX11) fch_X11_batch rfl rfl fek_X11, fHok_0 rfl⟩
set_option maxRecDepth 100000 in
set_option maxHeartbeats 4000000 in
theorem fch_X11_cracked : fchk fd_X11_cracked = true := by decide +kernel
set_option maxRecDepth 100000 in
theorem fg_X11_cracked : fMg fd_X11_cracked ∧ fHok fd_X11_cracked := ⟨fMg_of (own := RX11) fch_X11_cracked rfl rfl fek_X11, fHok_0 rfl⟩
set_option maxRecDepth 100000 in
set_option maxHeartbeats 4000000 in
theorem fch_X11_weight : fchk fd_X11_weight = true := by decide +kernel
set_option maxRecDepth 100000 in
theorem fg_X11_weight : fMg fd_X11_weight ∧ fHok fd_X11_weight := ⟨fMg_of (own := RX11) fch_X11_weight rfl rfl fek_X11, fHok_0 rfl⟩
set_option maxRecDepth 100000 in
set_option maxHeartbeats 4000000 in
theorem fch_X11_round : fchk fd_X11_round = true := by decide +kernel
set_option maxRecDepth 100000 in
theorem fg_X11_round : fMg fd_X11_round ∧ fHok fd_X11_round := ⟨fMg_of (own := RX11) fch_X11_round rfl rfl fek_X11, fHok_0 rfl⟩
set_option maxRecDepth 100000 in
set_option maxHeartbeats 4000000 in
theorem fch_X11_roundAt : fchk fd_X11_roundAt = true := by decide +kernel
set_option maxRecDepth 100000 in
theorem fg_X11_roundAt : fMg fd_X11_roundAt ∧ fHok fd_X11_roundAt := ⟨fMg_of (own := RX11) fch_X11_roundAt rfl rfl fek_X11, fHok_0 rfl⟩
set_option maxRecDepth 100000 in
set_option maxHeartbeats 4000000 in
theorem fch_X11_home : fchk fd_X11_home = true := by decide +kernel
set_option maxRecDepth 100000 in
theorem fg_X11_home : fMg fd_X11_home ∧ fHok fd_X11_home := ⟨fMg_of (own := RX11) fch_X11_home rfl rfl fek_X11, fHok_0 rfl⟩
set_option maxRecDepth 100000 in
set_option maxHeartbeats 4000000 in
theorem fch_X11_walked : fchk fd_X11_walked = true := by decide +kernel
set_option maxRecDepth 100000 in
theorem fg_X11_walked : fMg fd_X11_walked ∧ fHok fd_X11_walked := ⟨fMg_of (own := RX11) fch_X11_walked rfl rfl fek_X11, fHok_0 rfl⟩
set_option maxRecDepth 100000 in
set_option maxHeartbeats 4000000 in
theorem fch_X11_two : fchk fd_X11_two = true := by decide +kernel
set_option maxRecDepth 100000 in
theorem fg_X11_two : fMg fd_X11_two ∧ fHok fd_X11_two := ⟨fMg_of (own := RX11) fch_X11_two rfl rfl fek_X11, fHok_0 rfl⟩
set_option maxRecDepth 100000 in
set_option maxHeartbeats 4000000 in
theorem fch_X11_festival : fchk fd_X11_festival = true := by decide +kernel
set_option maxRecDepth 100000 in
theorem fg_X11_festival : fMg fd_X11_festival ∧ fHok fd_X11_festival := ⟨fMg_of (own := RX11) fch_X11_festival rfl rfl fek_X11, fHok_0 rfl⟩
set_option maxRecDepth 100000 in
set_option maxHeartbeats 4000000 in
theorem fch_X11_unready : fchk fd_X11_unready = true := by decide +kernel
set_option maxRecDepth 100000 in
theorem fg_X11_unready : fMg fd_X11_unready ∧ fHok fd_X11_unready := ⟨fMg_of (own := RX11) fch_X11_unready rfl rfl fek_X11, fHok_0 rfl⟩
set_option maxRecDepth 100000 in
set_option maxHeartbeats 4000000 in
theorem fch_X11_whose : fchk fd_X11_whose = true := by decide +kernel
set_option maxRecDepth 100000 in
theorem fg_X11_whose : fMg fd_X11_whose ∧ fHok fd_X11_whose := ⟨fMg_of (own := RX11) fch_X11_whose rfl rfl fek_X11, fHok_0 rfl⟩
set_option maxRecDepth 100000 in
set_option maxHeartbeats 4000000 in
theorem fch_X11_fee : fchk fd_X11_fee = true := by decide +kernel
set_option maxRecDepth 100000 in
theorem fg_X11_fee : fMg fd_X11_fee ∧ fHok fd_X11_fee := ⟨fMg_of (own := RX11) fch_X11_fee rfl rfl fek_X11, fHok_0 rfl⟩
set_option maxRecDepth 100000 in
set_option maxHeartbeats 4000000 in
theorem fch_X11_owed : fchk fd_X11_owed = true := by decide +kernel
set_option maxRecDepth 100000 in
theorem fg_X11_owed : fMg fd_X11_owed ∧ fHok fd_X11_owed := ⟨fMg_of (own := RX11) fch_X11_owed rfl rfl fek_X11, fHok_0 rfl⟩
set_option maxRecDepth 100000 in
set_option maxHeartbeats 4000000 in
theorem fch_X11_free : fchk fd_X11_free = true := by decide +kernel
set_option maxRecDepth 100000 in
theorem fg_X11_free : fMg fd_X11_free ∧ fHok fd_X11_free := ⟨fMg_of (own := RX11) fch_X11_free rfl rfl fek_X11, fHok_0 rfl⟩
set_option maxRecDepth 100000 in
set_option maxHeartbeats 4000000 in
theorem fch_X11_tunings : fchk fd_X11_tunings = true := by decide +kernel
set_option maxRecDepth 100000 in
theorem fg_X11_tunings : fMg fd_X11_tunings ∧ fHok fd_X11_tunings := ⟨fMg_of (own := RX11) fch_X11_tunings rfl rfl fek_X11, fHok_0 rfl⟩
set_option maxRecDepth 100000 in
set_option maxHeartbeats 4000000 in
theorem fch_X11_past : fchk fd_X11_past = true := by decide +kernel
set_option maxRecDepth 100000 in
theorem fg_X11_past : fMg fd_X11_past ∧ fHok fd_X11_past := ⟨fMg_of (own := RX11) fch_X11_past rfl rfl fek_X11, fHok_0 rfl⟩
set_option maxRecDepth 100000 in
set_option maxHeartbeats 4000000 in
theorem fch_X11_bag : fchk fd_X11_bag = true := by decide +kernel
set_option maxRecDepth 100000 in
theorem fg_X11_bag : fMg fd_X11_bag ∧ fHok fd_X11_bag := ⟨fMg_of (own := RX11) fch_X11_bag rfl rfl fek_X11, fHok_0 rfl⟩
set_option maxRecDepth 100000 in
set_option maxHeartbeats 4000000 in
theorem fch_X11_chance : fchk fd_X11_chance = true := by decide +kernel
set_option maxRecDepth 100000 in
theorem fg_X11_chance : fMg fd_X11_chance ∧ fHok fd_X11_chance := ⟨fMg_of (own := RX11) fch_X11_chance rfl rfl fek_X11, fHok_0 rfl⟩
set_option maxRecDepth 100000 in
set_option maxHeartbeats 4000000 in
theorem fch_X11_pupils : fchk fd_X11_pupils = true := by decide +kernel
set_option maxRecDepth 100000 in
theorem fg_X11_pupils : fMg fd_X11_pupils ∧ fHok fd_X11_pupils := ⟨fMg_of (own := RX11) fch_X11_pupils rfl rfl fek_X11, fHok_0 rfl⟩
set_option maxRecDepth 100000 in
set_option maxHeartbeats 4000000 in
theorem fch_X11_pupilOf : fchk fd_X11_pupilOf = true := by decide +kernel
set_option maxRecDepth 100000 in
theorem fg_X11_pupilOf : fMg fd_X11_pupilOf ∧ fHok fd_X11_pupilOf := ⟨fMg_of (own := RX11) fch_X11_pupilOf rfl rfl fek_X11, fHok_0 rfl⟩
set_option maxRecDepth 100000 in
set_option maxHeartbeats 4000000 in
theorem fch_X11_image : fchk fd_X11_image = true := by decide +kernel
set_option maxRecDepth 100000 in
theorem fg_X11_image : fMg fd_X11_image ∧ fHok fd_X11_image := ⟨fMg_of (own := RX11) fch_X11_image rfl rfl fek_X11, fHok_0 rfl⟩
set_option maxRecDepth 100000 in
set_option maxHeartbeats 4000000 in
theorem fch_X11_restore : fchk fd_X11_restore = true := by decide +kernel
set_option maxRecDepth 100000 in
theorem fg_X11_restore : fMg fd_X11_restore ∧ fHok fd_X11_restore := ⟨fMg_of (own := RX11) fch_X11_restore rfl rfl fek_X11, fHok_0 rfl⟩
set_option maxRecDepth 100000 in
set_option maxHeartbeats 4000000 in
theorem fch_X11_count : fchk fd_X11_count = true := by decide +kernel
set_option maxRecDepth 100000 in
theorem fg_X11_count : fMg fd_X11_count ∧ fHok fd_X11_count := ⟨fMg_of (own := RX11) fch_X11_count rfl rfl fek_X11, fHok_0 rfl⟩
set_option maxRecDepth 100000 in
set_option maxHeartbeats 4000000 in
theorem fch_X11_isAsked : fchk fd_X11_isAsked = true := by decide +kernel
set_option maxRecDepth 100000 in
theorem fg_X11_isAsked : fMg fd_X11_isAsked ∧ fHok fd_X11_isAsked := ⟨fMg_of (own := RX11) fch_X11_isAsked rfl rfl fek_X11, fHok_0 rfl⟩
set_option maxRecDepth 100000 in
set_option maxHeartbeats 4000000 in
theorem fch_X11_isKnowing : fchk fd_X11_isKnowing = true := by decide +kernel
set_option maxRecDepth 100000 in
theorem fg_X11_isKnowing : fMg fd_X11_isKnowing ∧ fHok fd_X11_isKnowing := ⟨fMg_of (own := RX11) fch_X11_isKnowing rfl rfl fek_X11, fHok_0 rfl⟩
set_option maxRecDepth 100000 in
set_option maxHeartbeats 4000000 in
theorem fch_X11_isWithin : fchk fd_X11_isWithin = true := by decide +kernel
set_option maxRecDepth 100000 in
theorem fg_X11_isWithin : fMg fd_X11_isWithin ∧ fHok fd_X11_isWithin := ⟨fMg_of (own := RX11) fch_X11_isWithin rfl rfl fek_X11, fHok_0 rfl⟩
set_option maxRecDepth 100000 in
set_option maxHeartbeats 4000000 in
theorem fch_X11_weekOf : fchk fd_X11_weekOf = true := by decide +kernel
set_option maxRecDepth 100000 in
theorem fg_X11_weekOf : fMg fd_X11_weekOf ∧ fHok fd_X11_weekOf := ⟨fMg_of (own := RX11) fch_X11_weekOf rfl rfl fek_X11, fHok_0 rfl⟩
set_option maxRecDepth 100000 in
set_option maxHeartbeats 4000000 in
theorem fch_X12_thrown : fchk fd_X12_thrown = true := by decide +kernel
set_option maxRecDepth 100000 in
theorem fg_X12_thrown : fMg fd_X12_thrown ∧ fHok fd_X12_thrown := ⟨fMg_of (own := RX12) fch_X12_thrown rfl rfl fek_X12, fHok_0 rfl⟩
set_option maxRecDepth 100000 in
set_option maxHeartbeats 4000000 in
theorem fch_X12_throwsIf : fchk fd_X12_throwsIf = true := by decide +kernel
set_option maxRecDepth 100000 in
theorem fg_X12_throwsIf : fMg fd_X12_throwsIf ∧ fHok fd_X12_throwsIf := ⟨fMg_of (own := RX12) fch_X12_throwsIf rfl rfl fek_X12, fHok_0 rfl⟩
set_option maxRecDepth 100000 in
set_option maxHeartbeats 4000000 in
theorem fch_X12_feed : fchk fd_X12_feed = true := by decide +kernel
set_option maxRecDepth 100000 in
theorem fg_X12_feed : fMg fd_X12_feed ∧ fHok fd_X12_feed := ⟨fMg_of (own := RX12) fch_X12_feed rfl rfl fek_X12, fHok_0 rfl⟩
set_option maxRecDepth 100000 in
set_option maxHeartbeats 4000000 in
theorem fch_X12_four : fchk fd_X12_four = true := by decide +kernel
set_option maxRecDepth 100000 in
theorem fg_X12_four : fMg fd_X12_four ∧ fHok fd_X12_four := ⟨fMg_of (own := RX12) fch_X12_four rfl rfl fek_X12, fHok_0 rfl⟩
set_option maxRecDepth 100000 in
set_option maxHeartbeats 4000000 in
theorem fch_X12_end : fchk fd_X12_end = true := by decide +kernel
set_option maxRecDepth 100000 in
theorem fg_X12_end : fMg fd_X12_end ∧ fHok fd_X12_end := ⟨fMg_of (own := RX12) fch_X12_end rfl rfl fek_X12, fHok_0 rfl⟩
set_option maxRecDepth 100000 in
set_option maxHeartbeats 4000000 in
theorem fch_X12_taken : fchk fd_X12_taken = true := by decide +kernel
set_option maxRecDepth 100000 in
theorem fg_X12_taken : fMg fd_X12_taken ∧ fHok fd_X12_taken := ⟨fMg_of (own := RX12) fch_X12_taken rfl rfl fek_X12, fHok_0 rfl⟩
set_option maxRecDepth 100000 in
set_option maxHeartbeats 4000000 in
theorem fch_X12_isIn : fchk fd_X12_isIn = true := by decide +kernel
set_option maxRecDepth 100000 in
theorem fg_X12_isIn : fMg fd_X12_isIn ∧ fHok fd_X12_isIn := ⟨fMg_of (own := RX12) fch_X12_isIn rfl rfl fek_X12, fHok_0 rfl⟩
set_option maxRecDepth 100000 in
set_option maxHeartbeats 4000000 in
theorem fch_X12_plain : fchk fd_X12_plain = true := by decide +kernel
set_option maxRecDepth 100000 in
theorem fg_X12_plain : fMg fd_X12_plain ∧ fHok fd_X12_plain := ⟨fMg_of (own := RX12) fch_X12_plain rfl rfl fek_X12, fHok_0 rfl⟩
set_option maxRecDepth 100000 in
set_option maxHeartbeats 4000000 in
theorem fch_X12_octet : fchk fd_X12_octet = true := by decide +kernel
set_option maxRecDepth 100000 in
theorem fg_X12_octet : fMg fd_X12_octet ∧ fHok fd_X12_octet := ⟨fMg_of (own := RX12) fch_X12_octet rfl rfl fek_X12, fHok_0 rfl⟩
set_option maxRecDepth 100000 in
set_option maxHeartbeats 4000000 in
theorem fch_X12_init : fchk fd_X12_init = true := by decide +kernel
set_option maxRecDepth 100000 in
theorem fg_X12_init : fMg fd_X12_init ∧ fHok fd_X12_init := ⟨fMg_of (own := RX12) fch_X12_init rfl rfl fek_X12, fHok_0 rfl⟩
set_option maxRecDepth 100000 in
set_option maxHeartbeats 4000000 in
theorem fch_X12_begin : fchk fd_X12_begin = true := by decide +kernel
set_option maxRecDepth 100000 in
theorem fg_X12_begin : fMg fd_X12_begin ∧ fHok fd_X12_begin := ⟨fMg_of (own := RX12) fch_X12_begin rfl rfl fek_X12, fHok_0 rfl⟩
set_option maxRecDepth 100000 in
set_option maxHeartbeats 4000000 in
theorem fch_X12_peek : fchk fd_X12_peek = true := by decide +kernel
set_option maxRecDepth 100000 in
theorem fg_X12_peek : fMg fd_X12_peek ∧ fHok fd_X12_peek := ⟨fMg_of (own := RX12) fch_X12_peek rfl rfl fek_X12, fHok_0 rfl⟩
set_option maxRecDepth 100000 in
set_option maxHeartbeats 4000000 in
theorem fch_X12_isSmall : fchk fd_X12_isSmall = true := by decide +kernel
set_option maxRecDepth 100000 in
theorem fg_X12_isSmall : fMg fd_X12_isSmall ∧ fHok fd_X12_isSmall := ⟨fMg_of (own := RX12) fch_X12_isSmall rfl rfl fek_X12, fHok_0 rfl⟩
set_option maxRecDepth 100000 in
set_option maxHeartbeats 4000000 in
theorem fch_X12_isDigit : fchk fd_X12_isDigit = true := by decide +kernel
set_option maxRecDepth 100000 in
theorem fg_X12_isDigit : fMg fd_X12_isDigit ∧ fHok fd_X12_isDigit := ⟨fMg_of (own := RX12) fch_X12_isDigit rfl rfl fek_X12, fHok_0 rfl⟩
set_option maxRecDepth 100000 in
set_option maxHeartbeats 4000000 in
theorem fch_X12_next : fchk fd_X12_next = true := by decide +kernel
set_option maxRecDepth 100000 in
theorem fg_X12_next : fMg fd_X12_next ∧ fHok fd_X12_next := ⟨fMg_of (own := RX12) fch_X12_next rfl rfl fek_X12, fHok_0 rfl⟩
set_option maxRecDepth 100000 in
set_option maxHeartbeats 4000000 in
theorem fch_X12_bad : fchk fd_X12_bad = true := by decide +kernel
set_option maxRecDepth 100000 in
theorem fg_X12_bad : fMg fd_X12_bad ∧ fHok fd_X12_bad := ⟨fMg_of (own := RX12) fch_X12_bad rfl rfl fek_X12, fHok_0 rfl⟩
set_option maxRecDepth 100000 in
set_option maxHeartbeats 4000000 in
theorem fch_X12_isWord : fchk fd_X12_isWord = true := by decide +kernel
set_option maxRecDepth 100000 in
theorem fg_X12_isWord : fMg fd_X12_isWord ∧ fHok fd_X12_isWord := ⟨fMg_of (own := RX12) fch_X12_isWord rfl rfl fek_X12, fHok_0 rfl⟩
set_option maxRecDepth 100000 in
set_option maxHeartbeats 4000000 in
theorem fch_X12_isSign : fchk fd_X12_isSign = true := by decide +kernel
set_option maxRecDepth 100000 in
theorem fg_X12_isSign : fMg fd_X12_isSign ∧ fHok fd_X12_isSign := ⟨fMg_of (own := RX12) fch_X12_isSign rfl rfl fek_X12, fHok_0 rfl⟩
set_option maxRecDepth 100000 in
set_option maxHeartbeats 4000000 in
theorem fch_X12_sign : fchk fd_X12_sign = true := by decide +kernel
set_option maxRecDepth 100000 in
theorem fg_X12_sign : fMg fd_X12_sign ∧ fHok fd_X12_sign := ⟨fMg_of (own := RX12) fch_X12_sign rfl rfl fek_X12, fHok_0 rfl⟩
set_option maxRecDepth 100000 in
set_option maxHeartbeats 4000000 in
theorem fch_X12_isName : fchk fd_X12_isName = true := by decide +kernel
set_option maxRecDepth 100000 in
theorem fg_X12_isName : fMg fd_X12_isName ∧ fHok fd_X12_isName := ⟨fMg_of (own := RX12) fch_X12_isName rfl rfl fek_X12, fHok_0 rfl⟩
set_option maxRecDepth 100000 in
set_option maxHeartbeats 4000000 in
theorem fch_X12_find : fchk fd_X12_find = true := by decide +kernel
set_option maxRecDepth 100000 in
theorem fg_X12_find : fMg fd_X12_find ∧ fHok fd_X12_find := ⟨fMg_of (own := RX12) fch_X12_find rfl rfl fek_X12, fHok_0 rfl⟩
set_option maxRecDepth 100000 in
set_option maxHeartbeats 4000000 in
theorem fch_X12_takes : fchk fd_X12_takes = true := by decide +kernel
set_option maxRecDepth 100000 in
theorem fg_X12_takes : fMg fd_X12_takes ∧ fHok fd_X12_takes := ⟨fMg_of (own := RX12) fch_X12_takes rfl rfl fek_X12, fHok_0 rfl⟩
set_option maxRecDepth 100000 in
set_option maxHeartbeats 4000000 in
theorem fch_X12_takesSigned : fchk fd_X12_takesSigned = true := by decide +kernel
set_option maxRecDepth 100000 in
theorem fg_X12_takesSigned : fMg fd_X12_takesSigned ∧ fHok fd_X12_takesSigned := ⟨fMg_of (own := RX12) fch_X12_takesSigned rfl rfl fek_X12, fHok_0 rfl⟩
set_option maxRecDepth 100000 in
set_option maxHeartbeats 4000000 in
theorem fch_X12_takesName : fchk fd_X12_takesName = true := by decide +kernel
set_option maxRecDepth 100000 in
theorem fg_X12_takesName : fMg fd_X12_takesName ∧ fHok fd_X12_takesName := ⟨fMg_of (own := RX12) fch_X12_takesName rfl rfl fek_X12, fHok_0 rfl⟩
set_option maxRecDepth 100000 in
set_option maxHeartbeats 4000000 in
theorem fch_X12_kind : fchk fd_X12_kind = true := by decide +kernel
set_option maxRecDepth 100000 in
theorem fg_X12_kind : fMg fd_X12_kind ∧ fHok fd_X12_kind := ⟨fMg_of (own := RX12) fch_X12_kind rfl rfl fek_X12, fHok_0 rfl⟩
set_option maxRecDepth 100000 in
set_option maxHeartbeats 4000000 in
theorem fch_X12_once : fchk fd_X12_once = true := by decide +kernel
set_option maxRecDepth 100000 in
theorem fg_X12_once : fMg fd_X12_once ∧ fHok fd_X12_once := ⟨fMg_of (own := RX12) fch_X12_once rfl rfl fek_X12, fHok_0 rfl⟩
set_option maxRecDepth 100000 in
set_option maxHeartbeats 4000000 in
theorem fch_X12_oneNumber : fchk fd_X12_oneNumber = true := by decide +kernel
set_option maxRecDepth 100000 in
theorem fg_X12_oneNumber : fMg fd_X12_oneNumber ∧ fHok fd_X12_oneNumber := ⟨fMg_of (own := RX12) fch_X12_oneNumber rfl rfl fek_X12, fHok_0 rfl⟩
set_option maxRecDepth 100000 in
set_option maxHeartbeats 4000000 in
theorem fch_X12_span : fchk fd_X12_span = true := by decide +kernel
set_option maxRecDepth 100000 in
theorem fg_X12_span : fMg fd_X12_span ∧ fHok fd_X12_span := ⟨fMg_of (own := RX12) fch_X12_span rfl rfl fek_X12, fHok_0 rfl⟩
set_option maxRecDepth 100000 in
set_option maxHeartbeats 4000000 in
theorem fch_X12_readHouse : fchk fd_X12_readHouse = true := by decide +kernel
set_option maxRecDepth 100000 in
theorem fg_X12_readHouse : fMg fd_X12_readHouse ∧ fHok fd_X12_readHouse := ⟨fMg_of (own := RX12) fch_X12_readHouse rfl rfl fek_X12, fHok_0 rfl⟩
set_option maxRecDepth 100000 in
set_option maxHeartbeats 4000000 in
theorem fch_X12_line : fchk fd_X12_line = true := by decide +kernel
set_option maxRecDepth 100000 in
theorem fg_X12_line : fMg fd_X12_line ∧ fHok fd_X12_line := ⟨fMg_of (own := RX12) fch_X12_line rfl rfl fek_X12, fHok_0 rfl⟩
set_option maxRecDepth 100000 in
set_option maxHeartbeats 4000000 in
theorem fch_X12_table : fchk fd_X12_table = true := by decide +kernel
set_option maxRecDepth 100000 in
theorem fg_X12_table : fMg fd_X12_table ∧ fHok fd_X12_table := ⟨fMg_of (own := RX12) fch_X12_table rfl rfl fek_X12, fHok_0 rfl⟩
set_option maxRecDepth 100000 in
set_option maxHeartbeats 4000000 in
theorem fch_X12_weeks : fchk fd_X12_weeks = true := by decide +kernel
set_option maxRecDepth 100000 in
theorem fg_X12_weeks : fMg fd_X12_weeks ∧ fHok fd_X12_weeks := ⟨fMg_of (own := RX12) fch_X12_weeks rfl rfl fek_X12, fHok_0 rfl⟩
set_option maxRecDepth 100000 in
set_option maxHeartbeats 4000000 in
theorem fch_X12_readFee : fchk fd_X12_readFee = true := by decide +kernel
set_option maxRecDepth 100000 in
theorem fg_X12_readFee : fMg fd_X12_readFee ∧ fHok fd_X12_readFee := ⟨fMg_of (own := RX12) fch_X12_readFee rfl rfl fek_X12, fHok_0 rfl⟩
set_option maxRecDepth 100000 in
set_option maxHeartbeats 4000000 in
theorem fch_X12_fresh : fchk fd_X12_fresh = true := by decide +kernel
set_option maxRecDepth 100000 in
theorem fg_X12_fresh : fMg fd_X12_fresh ∧ fHok fd_X12_fresh := ⟨fMg_of (own := RX12) fch_X12_fresh rfl rfl fek_X12, fHok_0 rfl⟩
set_option maxRecDepth 100000 in
set_option maxHeartbeats 4000000 in
theorem fch_X12_readPiano : fchk fd_X12_readPiano = true := by decide +kernel
set_option maxRecDepth 100000 in
theorem fg_X12_readPiano : fMg fd_X12_readPiano ∧ fHok fd_X12_readPiano := ⟨fMg_of (own := RX12) fch_X12_readPiano rfl rfl fek_X12, fHok_0 rfl⟩
set_option maxRecDepth 100000 in
set_option maxHeartbeats 4000000 in
theorem fch_X12_more : fchk fd_X12_more = true := by decide +kernel
set_option maxRecDepth 100000 in
theorem fg_X12_more : fMg fd_X12_more ∧ fHok fd_X12_more := ⟨fMg_of (own := RX12) fch_X12_more rfl rfl fek_X12, fHok_0 rfl⟩
set_option maxRecDepth 100000 in
set_option maxHeartbeats 4000000 in
theorem fch_X12_tuner : fchk fd_X12_tuner = true := by decide +kernel
set_option maxRecDepth 100000 in
theorem fg_X12_tuner : fMg fd_X12_tuner ∧ fHok fd_X12_tuner := ⟨fMg_of (own := RX12) fch_X12_tuner rfl rfl fek_X12, fHok_0 rfl⟩
set_option maxRecDepth 100000 in
set_option maxHeartbeats 4000000 in
theorem fch_X12_pupil : fchk fd_X12_pupil = true := by decide +kernel
set_option maxRecDepth 100000 in
theorem fg_X12_pupil : fMg fd_X12_pupil ∧ fHok fd_X12_pupil := ⟨fMg_of (own := RX12) fch_X12_pupil rfl rfl fek_X12, fHok_0 rfl⟩
set_option maxRecDepth 100000 in
set_option maxHeartbeats 4000000 in
theorem fch_X12_teach : fchk fd_X12_teach = true := by decide +kernel
set_option maxRecDepth 100000 in
theorem fg_X12_teach : fMg fd_X12_teach ∧ fHok fd_X12_teach := ⟨fMg_of (own := RX12) fch_X12_teach rfl rfl fek_X12, fHok_0 rfl⟩
set_option maxRecDepth 100000 in
set_option maxHeartbeats 4000000 in
theorem fch_X12_house : fchk fd_X12_house = true := by decide +kernel
set_option maxRecDepth 100000 in
theorem fg_X12_house : fMg fd_X12_house ∧ fHok fd_X12_house := ⟨fMg_of (own := RX12) fch_X12_house rfl rfl fek_X12, fHok_0 rfl⟩
set_option maxRecDepth 100000 in
set_option maxHeartbeats 4000000 in
theorem fch_X12_readRecords : fchk fd_X12_readRecords = true := by decide +kernel
set_option maxRecDepth 100000 in
theorem fg_X12_readRecords : fMg fd_X12_readRecords ∧ fHok fd_X12_readRecords := ⟨fMg_of (own := RX12) fch_X12_readRecords rfl rfl fek_X12, fHok_0 rfl⟩
set_option maxRecDepth 100000 in
set_option maxHeartbeats 4000000 in
theorem fch_X12_record : fchk fd_X12_record = true := by decide +kernel
set_option maxRecDepth 100000 in
theorem fg_X12_record : fMg fd_X12_record ∧ fHok fd_X12_record := ⟨fMg_of (own := RX12) fch_X12_record rfl rfl fek_X12, fHok_0 rfl⟩
set_option maxRecDepth 100000 in
set_option maxHeartbeats 4000000 in
theorem fch_X12_when : fchk fd_X12_when = true := by decide +kernel
set_option maxRecDepth 100000 in
theorem fg_X12_when : fMg fd_X12_when ∧ fHok fd_X12_when := ⟨fMg_of (own := RX12) fch_X12_when rfl rfl fek_X12, fHok_0 rfl⟩
set_option maxRecDepth 100000 in
set_option maxHeartbeats 4000000 in
theorem fch_X12_notes : fchk fd_X12_notes = true := by decide +kernel
set_option maxRecDepth 100000 in
theorem fg_X12_notes : fMg fd_X12_notes ∧ fHok fd_X12_notes := ⟨fMg_of (own := RX12) fch_X12_notes rfl rfl fek_X12, fHok_0 rfl⟩
set_option maxRecDepth 100000 in
set_option maxHeartbeats 4000000 in
theorem fch_X12_records : fchk fd_X12_records = true := by decide +kernel
set_option maxRecDepth 100000 in
theorem fg_X12_records : fMg fd_X12_records ∧ fHok fd_X12_records := ⟨fMg_of (own := RX12) fch_X12_records rfl rfl fek_X12, fHok_0 rfl⟩
set_option maxRecDepth 100000 in
set_option maxHeartbeats 4000000 in
theorem fch_X12_fault : fchk fd_X12_fault = true := by decide +kernel
set_option maxRecDepth 100000 in
theorem fg_X12_fault : fMg fd_X12_fault ∧ fHok fd_X12_fault := ⟨fMg_of (own := RX12) fch_X12_fault rfl rfl fek_X12, fHok_0 rfl⟩
set_option maxRecDepth 100000 in
set_option maxHeartbeats 4000000 in
theorem fch_X12_isPiano : fchk fd_X12_isPiano = true := by decide +kernel
set_option maxRecDepth 100000 in
theorem fg_X12_isPiano : fMg fd_X12_isPiano ∧ fHok fd_X12_isPiano := ⟨fMg_of (own := RX12) fch_X12_isPiano rfl rfl fek_X12, fHok_0 rfl⟩
set_option maxRecDepth 100000 in
set_option maxHeartbeats 4000000 in
theorem fch_X12_isTuner : fchk fd_X12_isTuner = true := by decide +kernel
set_option maxRecDepth 100000 in
theorem fg_X12_isTuner : fMg fd_X12_isTuner ∧ fHok fd_X12_isTuner := ⟨fMg_of (own := RX12) fch_X12_isTuner rfl rfl fek_X12, fHok_0 rfl⟩
set_option maxRecDepth 100000 in
set_option maxHeartbeats 4000000 in
theorem fch_X12_isDay : fchk fd_X12_isDay = true := by decide +kernel
set_option maxRecDepth 100000 in
theorem fg_X12_isDay : fMg fd_X12_isDay ∧ fHok fd_X12_isDay := ⟨fMg_of (own := RX12) fch_X12_isDay rfl rfl fek_X12, fHok_0 rfl⟩
set_option maxRecDepth 100000 in
set_option maxHeartbeats 4000000 in
theorem fch_X12_isKnown : fchk fd_X12_isKnown = true := by decide +kernel
set_option maxRecDepth 100000 in
theorem fg_X12_isKnown : fMg fd_X12_isKnown ∧ fHok fd_X12_isKnown := ⟨fMg_of (own := RX12) fch_X12_isKnown rfl rfl fek_X12, fHok_0 rfl⟩
set_option maxRecDepth 100000 in
set_option maxHeartbeats 4000000 in
theorem fch_X12_of : fchk fd_X12_of = true := by decide +kernel
set_option maxRecDepth 100000 in
theorem fg_X12_of : fMg fd_X12_of ∧ fHok fd_X12_of := ⟨fMg_of (own := RX12) fch_X12_of rfl rfl fek_X12, fHok_0 rfl⟩
set_option maxRecDepth 100000 in
set_option maxHeartbeats 4000000 in
theorem fch_X12_piano : fchk fd_X12_piano = true := by decide +kernel
set_option maxRecDepth 100000 in
theorem fg_X12_piano : fMg fd_X12_piano ∧ fHok fd_X12_piano := ⟨fMg_of (own := RX12) fch_X12_piano rfl rfl fek_X12, fHok_0 rfl⟩
set_option maxRecDepth 100000 in
set_option maxHeartbeats 4000000 in
theorem fch_X12_week : fchk fd_X12_week = true := by decide +kernel
set_option maxRecDepth 100000 in
theorem fg_X12_week : fMg fd_X12_week ∧ fHok fd_X12_week := ⟨fMg_of (own := RX12) fch_X12_week rfl rfl fek_X12, fHok_0 rfl⟩
set_option maxRecDepth 100000 in
set_option maxHeartbeats 4000000 in
theorem fch_X12_pitch : fchk fd_X12_pitch = true := by decide +kernel
set_option maxRecDepth 100000 in
theorem fg_X12_pitch : fMg fd_X12_pitch ∧ fHok fd_X12_pitch := ⟨fMg_of (own := RX12) fch_X12_pitch rfl rfl fek_X12, fHok_0 rfl⟩
set_option maxRecDepth 100000 in
set_option maxHeartbeats 4000000 in
theorem fch_X12_beatsOf : fchk fd_X12_beatsOf = true := by decide +kernel
set_option maxRecDepth 100000 in
theorem fg_X12_beatsOf : fMg fd_X12_beatsOf ∧ fHok fd_X12_beatsOf := ⟨fMg_of (own := RX12) fch_X12_beatsOf rfl rfl fek_X12, fHok_0 rfl⟩
set_option maxRecDepth 100000 in
set_option maxHeartbeats 4000000 in
theorem fch_X12_beats : fchk fd_X12_beats = true := by decide +kernel
set_option maxRecDepth 100000 in
theorem fg_X12_beats : fMg fd_X12_beats ∧ fHok fd_X12_beats := ⟨fMg_of (own := RX12) fch_X12_beats rfl rfl fek_X12, fHok_0 rfl⟩
set_option maxRecDepth 100000 in
set_option maxHeartbeats 4000000 in
theorem fch_X12_wolf : fchk fd_X12_wolf = true := by decide +kernel
set_option maxRecDepth 100000 in
theorem fg_X12_wolf : fMg fd_X12_wolf ∧ fHok fd_X12_wolf := ⟨fMg_of (own := RX12) fch_X12_wolf rfl rfl fek_X12, fHok_0 rfl⟩
set_option maxRecDepth 100000 in
set_option maxHeartbeats 4000000 in
theorem fch_X12_isOf : fchk fd_X12_isOf = true := by decide +kernel
set_option maxRecDepth 100000 in
theorem fg_X12_isOf : fMg fd_X12_isOf ∧ fHok fd_X12_isOf := ⟨fMg_of (own := RX12) fch_X12_isOf rfl rfl fek_X12, fHok_0 rfl⟩
set_option maxRecDepth 100000 in
set_option maxHeartbeats 4000000 in
theorem fch_X12_latest : fchk fd_X12_latest = true := by decide +kernel
set_option maxRecDepth 100000 in
theorem fg_X12_latest : fMg fd_X12_latest ∧ fHok fd_X12_latest := ⟨fMg_of (own := RX12) fch_X12_latest rfl rfl fek_X12, fHok_0 rfl⟩
set_option maxRecDepth 100000 in
set_option maxHeartbeats 4000000 in
theorem fch_X12_course : fchk fd_X12_course = true := by decide +kernel
set_option maxRecDepth 100000 in
theorem fg_X12_course : fMg fd_X12_course ∧ fHok fd_X12_course := ⟨fMg_of (own := RX12) fch_X12_course rfl rfl fek_X12, fHok_0 rfl⟩
set_option maxRecDepth 100000 in
set_option maxHeartbeats 4000000 in
theorem fch_X12_tune : fchk fd_X12_tune = true := by decide +kernel
set_option maxRecDepth 100000 in
theorem fg_X12_tune : fMg fd_X12_tune ∧ fHok fd_X12_tune := ⟨fMg_of (own := RX12) fch_X12_tune rfl rfl fek_X12, fHok_0 rfl⟩
set_option maxRecDepth 100000 in
set_option maxHeartbeats 4000000 in
theorem fch_X12_pass : fchk fd_X12_pass = true := by decide +kernel
set_option maxRecDepth 100000 in
theorem fg_X12_pass : fMg fd_X12_pass ∧ fHok fd_X12_pass := ⟨fMg_of (own := RX12) fch_X12_pass rfl rfl fek_X12, fHok_0 rfl⟩
set_option maxRecDepth 100000 in
set_option maxHeartbeats 4000000 in
theorem fch_X12_passTo : fchk fd_X12_passTo = true := by decide +kernel
set_option maxRecDepth 100000 in
theorem fg_X12_passTo : fMg fd_X12_passTo ∧ fHok fd_X12_passTo := ⟨fMg_of (own := RX12) fch_X12_passTo rfl rfl fek_X12, fHok_0 rfl⟩
set_option maxRecDepth 100000 in
set_option maxHeartbeats 4000000 in
theorem fch_X12_offsetOf : fchk fd_X12_offsetOf = true := by decide +kernel
set_option maxRecDepth 100000 in
theorem fg_X12_offsetOf : fMg fd_X12_offsetOf ∧ fHok fd_X12_offsetOf := ⟨fMg_of (own := RX12) fch_X12_offsetOf rfl rfl fek_X12, fHok_0 rfl⟩
set_option maxRecDepth 100000 in
set_option maxHeartbeats 4000000 in
theorem fch_X12_offOf : fchk fd_X12_offOf = true := by decide +kernel
set_option maxRecDepth 100000 in
theorem fg_X12_offOf : fMg fd_X12_offOf ∧ fHok fd_X12_offOf := ⟨fMg_of (own := RX12) fch_X12_offOf rfl rfl fek_X12, fHok_0 rfl⟩
set_option maxRecDepth 100000 in
set_option maxHeartbeats 4000000 in
theorem fch_X12_offset : fchk fd_X12_offset = true := by decide +kernel
set_option maxRecDepth 100000 in
theorem fg_X12_offset : fMg fd_X12_offset ∧ fHok fd_X12_offset := ⟨fMg_of (own := RX12) fch_X12_offset rfl rfl fek_X12, fHok_0 rfl⟩
set_option maxRecDepth 100000 in
set_option maxHeartbeats 4000000 in
theorem fch_X12_off : fchk fd_X12_off = true := by decide +kernel
set_option maxRecDepth 100000 in
theorem fg_X12_off : fMg fd_X12_off ∧ fHok fd_X12_off := ⟨fMg_of (own := RX12) fch_X12_off rfl rfl fek_X12, fHok_0 rfl⟩
set_option maxRecDepth 100000 in
set_option maxHeartbeats 4000000 in
theorem fch_X12_isBeyond : fchk fd_X12_isBeyond = true := by decide +kernel
set_option maxRecDepth 100000 in
theorem fg_X12_isBeyond : fMg fd_X12_isBeyond ∧ fHok fd_X12_isBeyond := ⟨fMg_of (own := RX12) fch_X12_isBeyond rfl rfl fek_X12, fHok_0 rfl⟩
set_option maxRecDepth 100000 in
set_option maxHeartbeats 4000000 in
theorem fch_X12_due : fchk fd_X12_due = true := by decide +kernel
set_option maxRecDepth 100000 in
theorem fg_X12_due : fMg fd_X12_due ∧ fHok fd_X12_due := ⟨fMg_of (own := RX12) fch_X12_due rfl rfl fek_X12, fHok_0 rfl⟩
set_option maxRecDepth 100000 in
set_option maxHeartbeats 4000000 in
theorem fch_X12_tuningsOf : fchk fd_X12_tuningsOf = true := by decide +kernel
set_option maxRecDepth 100000 in
theorem fg_X12_tuningsOf : fMg fd_X12_tuningsOf ∧ fHok fd_X12_tuningsOf := ⟨fMg_of (own := RX12) fch_X12_tuningsOf rfl rfl fek_X12, fHok_0 rfl⟩
set_option maxRecDepth 100000 in
set_option maxHeartbeats 4000000 in
theorem fch_X12_tunings : fchk fd_X12_tunings = true := by decide +kernel
set_option maxRecDepth 100000 in
theorem fg_X12_tunings : fMg fd_X12_tunings ∧ fHok fd_X12_tunings := ⟨fMg_of (own := RX12) fch_X12_tunings rfl rfl fek_X12, fHok_0 rfl⟩
set_option maxRecDepth 100000 in
set_option maxHeartbeats 4000000 in
theorem fch_X12_past : fchk fd_X12_past = true := by decide +kernel
set_option maxRecDepth 100000 in
theorem fg_X12_past : fMg fd_X12_past ∧ fHok fd_X12_past := ⟨fMg_of (own := RX12) fch_X12_past rfl rfl fek_X12, fHok_0 rfl⟩
set_option maxRecDepth 100000 in
set_option maxHeartbeats 4000000 in
theorem fch_X12_pairs : fchk fd_X12_pairs = true := by decide +kernel
set_option maxRecDepth 100000 in
theorem fg_X12_pairs : fMg fd_X12_pairs ∧ fHok fd_X12_pairs := ⟨fMg_of (own := RX12) fch_X12_pairs rfl rfl fek_X12, fHok_0 rfl⟩
set_option maxRecDepth 100000 in
set_option maxHeartbeats 4000000 in
theorem fch_X12_noPairs : fchk fd_X12_noPairs = true := by decide +kernel
set_option maxRecDepth 100000 in
theorem fg_X12_noPairs : fMg fd_X12_noPairs ∧ fHok fd_X12_noPairs := ⟨fMg_of (own := RX12) fch_X12_noPairs rfl rfl fek_X12, fHok_0 rfl⟩
set_option maxRecDepth 100000 in
set_option maxHeartbeats 4000000 in
theorem fch_X12_common : fchk fd_X12_common = true := by decide +kernel
set_option maxRecDepth 100000 in
theorem fg_X12_common : fMg fd_X12_common ∧ fHok fd_X12_common := ⟨fMg_of (own := RX12) fch_X12_common rfl rfl fek_X12, fHok_0 rfl⟩
set_option maxRecDepth 100000 in
set_option maxHeartbeats 4000000 in
theorem fch_X12_slips : fchk fd_X12_slips = true := by decide +kernel
set_option maxRecDepth 100000 in
theorem fg_X12_slips : fMg fd_X12_slips ∧ fHok fd_X12_slips := ⟨fMg_of (own := RX12) fch_X12_slips rfl rfl fek_X12, fHok_0 rfl⟩
set_option maxRecDepth 100000 in
set_option maxHeartbeats 4000000 in
theorem fch_X12_slipped : fchk fd_X12_slipped = true := by decide +kernel
set_option maxRecDepth 100000 in
theorem fg_X12_slipped : fMg fd_X12_slipped ∧ fHok fd_X12_slipped := ⟨fMg_of (own := RX12) fch_X12_slipped rfl rfl fek_X12, fHok_0 rfl⟩
set_option maxRecDepth 100000 in
set_option maxHeartbeats 4000000 in
theorem fch_X12_stove : fchk fd_X12_stove = true := by decide +kernel
set_option maxRecDepth 100000 in
theorem fg_X12_stove : fMg fd_X12_stove ∧ fHok fd_X12_stove := ⟨fMg_of (own := RX12) fch_X12_stove rfl rfl fek_X12, fHok_0 rfl⟩
set_option maxRecDepth 100000 in
set_option maxHeartbeats 4000000 in
theorem fch_X12_lean : fchk fd_X12_lean = true := by decide +kernel
set_option maxRecDepth 100000 in
theorem fg_X12_lean : fMg fd_X12_lean ∧ fHok fd_X12_lean := ⟨fMg_of (own := RX12) fch_X12_lean rfl rfl fek_X12, fHok_0 rfl⟩
set_option maxRecDepth 100000 in
set_option maxHeartbeats 4000000 in
theorem fch_X12_batch : fchk fd_X12_batch = true := by decide +kernel
set_option maxRecDepth 100000 in
theorem fg_X12_batch : fMg fd_X12_batch ∧ fHok fd_X12_batch := ⟨fMg_of (own := RX12) fch_X12_batch rfl rfl fek_X12, fHok_0 rfl⟩
set_option maxRecDepth 100000 in
set_option maxHeartbeats 4000000 in
theorem fch_X12_cracked : fchk fd_X12_cracked = true := by decide +kernel
set_option maxRecDepth 100000 in
theorem fg_X12_cracked : fMg fd_X12_cracked ∧ fHok fd_X12_cracked := ⟨fMg_of (own := RX12) fch_X12_cracked rfl rfl fek_X12, fHok_0 rfl⟩
set_option maxRecDepth 100000 in
set_option maxHeartbeats 4000000 in
theorem fch_X12_cracks : fchk fd_X12_cracks = true := by decide +kernel
set_option maxRecDepth 100000 in
theorem fg_X12_cracks : fMg fd_X12_cracks ∧ fHok fd_X12_cracks := ⟨fMg_of (own := RX12) fch_X12_cracks rfl rfl fek_X12, fHok_0 rfl⟩
set_option maxRecDepth 100000 in
set_option maxHeartbeats 4000000 in
theorem fch_X12_isTunedIn : fchk fd_X12_isTunedIn = true := by decide +kernel
set_option maxRecDepth 100000 in
theorem fg_X12_isTunedIn : fMg fd_X12_isTunedIn ∧ fHok fd_X12_isTunedIn := ⟨fMg_of (own := RX12) fch_X12_isTunedIn rfl rfl fek_X12, fHok_0 rfl⟩
set_option maxRecDepth 100000 in
set_option maxHeartbeats 4000000 in
theorem fch_X12_weightOf : fchk fd_X12_weightOf = true := by decide +kernel
set_option maxRecDepth 100000 in
theorem fg_X12_weightOf : fMg fd_X12_weightOf ∧ fHok fd_X12_weightOf := ⟨fMg_of (own := RX12) fch_X12_weightOf rfl rfl fek_X12, fHok_0 rfl⟩
set_option maxRecDepth 100000 in
set_option maxHeartbeats 4000000 in
theorem fch_X12_weight : fchk fd_X12_weight = true := by decide +kernel
set_option maxRecDepth 100000 in
theorem fg_X12_weight : fMg fd_X12_weight ∧ fHok fd_X12_weight := ⟨fMg_of (own := RX12) fch_X12_weight rfl rfl fek_X12, fHok_0 rfl⟩
set_option maxRecDepth 100000 in
set_option maxHeartbeats 4000000 in
theorem fch_X12_tells : fchk fd_X12_tells = true := by decide +kernel
set_option maxRecDepth 100000 in
theorem fg_X12_tells : fMg fd_X12_tells ∧ fHok fd_X12_tells := ⟨fMg_of (own := RX12) fch_X12_tells rfl rfl fek_X12, fHok_0 rfl⟩
set_option maxRecDepth 100000 in
set_option maxHeartbeats 4000000 in
theorem fch_X12_live : fchk fd_X12_live = true := by decide +kernel
set_option maxRecDepth 100000 in
theorem fg_X12_live : fMg fd_X12_live ∧ fHok fd_X12_live := ⟨fMg_of (own := RX12) fch_X12_live rfl rfl fek_X12, fHok_0 rfl⟩
set_option maxRecDepth 100000 in
set_option maxHeartbeats 4000000 in
theorem fch_X12_way : fchk fd_X12_way = true := by decide +kernel
set_option maxRecDepth 100000 in
theorem fg_X12_way : fMg fd_X12_way ∧ fHok fd_X12_way := ⟨fMg_of (own := RX12) fch_X12_way rfl rfl fek_X12, fHok_0 rfl⟩
set_option maxRecDepth 100000 in
set_option maxHeartbeats 4000000 in
theorem fch_X12_done : fchk fd_X12_done = true := by decide +kernel
set_option maxRecDepth 100000 in
theorem fg_X12_done : fMg fd_X12_done ∧ fHok fd_X12_done := ⟨fMg_of (own := RX12) fch_X12_done rfl rfl fek_X12, fHok_0 rfl⟩
set_option maxRecDepth 100000 in
set_option maxHeartbeats 4000000 in
theorem fch_X12_orders : fchk fd_X12_orders = true := by decide +kernel
set_option maxRecDepth 100000 in
theorem fg_X12_orders : fMg fd_X12_orders ∧ fHok fd_X12_orders := ⟨fMg_of (own := RX12) fch_X12_orders rfl rfl fek_X12, fHok_0 rfl⟩
set_option maxRecDepth 100000 in
set_option maxHeartbeats 4000000 in
theorem fch_X12_consider : fchk fd_X12_consider = true := by decide +kernel
set_option maxRecDepth 100000 in
theorem fg_X12_consider : fMg fd_X12_consider ∧ fHok fd_X12_consider := ⟨fMg_of (own := RX12) fch_X12_consider rfl rfl fek_X12, fHok_0 rfl⟩
set_option maxRecDepth 100000 in
set_option maxHeartbeats 4000000 in
theorem fch_X12_round : fchk fd_X12_round = true := by decide +kernel
set_option maxRecDepth 100000 in
theorem fg_X12_round : fMg fd_X12_round ∧ fHok fd_X12_round := ⟨fMg_of (own := RX12) fch_X12_round rfl rfl fek_X12, fHok_0 rfl⟩
set_option maxRecDepth 100000 in
set_option maxHeartbeats 4000000 in
theorem fch_X12_roundAt : fchk fd_X12_roundAt = true := by decide +kernel
set_option maxRecDepth 100000 in
theorem fg_X12_roundAt : fMg fd_X12_roundAt ∧ fHok fd_X12_roundAt := ⟨fMg_of (own := RX12) fch_X12_roundAt rfl rfl fek_X12, fHok_0 rfl⟩
set_option maxRecDepth 100000 in
set_option maxHeartbeats 4000000 in
theorem fch_X12_home : fchk fd_X12_home = true := by decide +kernel
set_option maxRecDepth 100000 in
theorem fg_X12_home : fMg fd_X12_home ∧ fHok fd_X12_home := ⟨fMg_of (own := RX12) fch_X12_home rfl rfl fek_X12, fHok_0 rfl⟩
set_option maxRecDepth 100000 in
set_option maxHeartbeats 4000000 in
theorem fch_X12_walked : fchk fd_X12_walked = true := by decide +kernel
set_option maxRecDepth 100000 in
theorem fg_X12_walked : fMg fd_X12_walked ∧ fHok fd_X12_walked := ⟨fMg_of (own := RX12) fch_X12_walked rfl rfl fek_X12, fHok_0 rfl⟩
set_option maxRecDepth 100000 in
set_option maxHeartbeats 4000000 in
theorem fch_X12_sets : fchk fd_X12_sets = true := by decide +kernel
set_option maxRecDepth 100000 in
theorem fg_X12_sets : fMg fd_X12_sets ∧ fHok fd_X12_sets := ⟨fMg_of (own := RX12) fch_X12_sets rfl rfl fek_X12, fHok_0 rfl⟩
set_option maxRecDepth 100000 in
set_option maxHeartbeats 4000000 in
theorem fch_X12_sumOf : fchk fd_X12_sumOf = true := by decide +kernel
set_option maxRecDepth 100000 in
theorem fg_X12_sumOf : fMg fd_X12_sumOf ∧ fHok fd_X12_sumOf := ⟨fMg_of (own := RX12) fch_X12_sumOf rfl rfl fek_X12, fHok_0 rfl⟩
set_option maxRecDepth 100000 in
set_option maxHeartbeats 4000000 in
theorem fch_X12_two : fchk fd_X12_two = true := by decide +kernel
set_option maxRecDepth 100000 in
theorem fg_X12_two : fMg fd_X12_two ∧ fHok fd_X12_two := ⟨fMg_of (own := RX12) fch_X12_two rfl rfl fek_X12, fHok_0 rfl⟩
set_option maxRecDepth 100000 in
set_option maxHeartbeats 4000000 in
theorem fch_X12_bits : fchk fd_X12_bits = true := by decide +kernel
set_option maxRecDepth 100000 in
theorem fg_X12_bits : fMg fd_X12_bits ∧ fHok fd_X12_bits := ⟨fMg_of (own := RX12) fch_X12_bits rfl rfl fek_X12, fHok_0 rfl⟩
set_option maxRecDepth 100000 in
set_option maxHeartbeats 4000000 in
theorem fch_X12_festival : fchk fd_X12_festival = true := by decide +kernel
set_option maxRecDepth 100000 in
theorem fg_X12_festival : fMg fd_X12_festival ∧ fHok fd_X12_festival := ⟨fMg_of (own := RX12) fch_X12_festival rfl rfl fek_X12, fHok_0 rfl⟩
set_option maxRecDepth 100000 in
set_option maxHeartbeats 4000000 in
theorem fch_X12_unready : fchk fd_X12_unready = true := by decide +kernel
set_option maxRecDepth 100000 in
theorem fg_X12_unready : fMg fd_X12_unready ∧ fHok fd_X12_unready := ⟨fMg_of (own := RX12) fch_X12_unready rfl rfl fek_X12, fHok_0 rfl⟩
set_option maxRecDepth 100000 in
set_option maxHeartbeats 4000000 in
theorem fch_X12_whose : fchk fd_X12_whose = true := by decide +kernel
set_option maxRecDepth 100000 in
theorem fg_X12_whose : fMg fd_X12_whose ∧ fHok fd_X12_whose := ⟨fMg_of (own := RX12) fch_X12_whose rfl rfl fek_X12, fHok_0 rfl⟩
set_option maxRecDepth 100000 in
set_option maxHeartbeats 4000000 in
theorem fch_X12_blame : fchk fd_X12_blame = true := by decide +kernel
set_option maxRecDepth 100000 in
theorem fg_X12_blame : fMg fd_X12_blame ∧ fHok fd_X12_blame := ⟨fMg_of (own := RX12) fch_X12_blame rfl rfl fek_X12, fHok_0 rfl⟩
set_option maxRecDepth 100000 in
set_option maxHeartbeats 4000000 in
theorem fch_X12_feeOf : fchk fd_X12_feeOf = true := by decide +kernel
set_option maxRecDepth 100000 in
theorem fg_X12_feeOf : fMg fd_X12_feeOf ∧ fHok fd_X12_feeOf := ⟨fMg_of (own := RX12) fch_X12_feeOf rfl rfl fek_X12, fHok_0 rfl⟩
set_option maxRecDepth 100000 in
set_option maxHeartbeats 4000000 in
theorem fch_X12_fee : fchk fd_X12_fee = true := by decide +kernel
set_option maxRecDepth 100000 in
theorem fg_X12_fee : fMg fd_X12_fee ∧ fHok fd_X12_fee := ⟨fMg_of (own := RX12) fch_X12_fee rfl rfl fek_X12, fHok_0 rfl⟩
set_option maxRecDepth 100000 in
set_option maxHeartbeats 4000000 in
theorem fch_X12_isFree : fchk fd_X12_isFree = true := by decide +kernel
set_option maxRecDepth 100000 in
theorem fg_X12_isFree : fMg fd_X12_isFree ∧ fHok fd_X12_isFree := ⟨fMg_of (own := RX12) fch_X12_isFree rfl rfl fek_X12, fHok_0 rfl⟩
set_option maxRecDepth 100000 in
set_option maxHeartbeats 4000000 in
theorem fch_X12_owed : fchk fd_X12_owed = true := by decide +kernel
set_option maxRecDepth 100000 in
theorem fg_X12_owed : fMg fd_X12_owed ∧ fHok fd_X12_owed := ⟨fMg_of (own := RX12) fch_X12_owed rfl rfl fek_X12, fHok_0 rfl⟩
set_option maxRecDepth 100000 in
set_option maxHeartbeats 4000000 in
theorem fch_X12_free : fchk fd_X12_free = true := by decide +kernel
set_option maxRecDepth 100000 in
theorem fg_X12_free : fMg fd_X12_free ∧ fHok fd_X12_free := ⟨fMg_of (own := RX12) fch_X12_free rfl rfl fek_X12, fHok_0 rfl⟩
set_option maxRecDepth 100000 in
set_option maxHeartbeats 4000000 in
theorem fch_X12_part : fchk fd_X12_part = true := by decide +kernel
set_option maxRecDepth 100000 in
theorem fg_X12_part : fMg fd_X12_part ∧ fHok fd_X12_part := ⟨fMg_of (own := RX12) fch_X12_part rfl rfl fek_X12, fHok_0 rfl⟩
set_option maxRecDepth 100000 in
set_option maxHeartbeats 4000000 in
theorem fch_X12_bag : fchk fd_X12_bag = true := by decide +kernel
set_option maxRecDepth 100000 in
theorem fg_X12_bag : fMg fd_X12_bag ∧ fHok fd_X12_bag := ⟨fMg_of (own := RX12) fch_X12_bag rfl rfl fek_X12, fHok_0 rfl⟩
set_option maxRecDepth 100000 in
set_option maxHeartbeats 4000000 in
theorem fch_X12_chance : fchk fd_X12_chance = true := by decide +kernel
set_option maxRecDepth 100000 in
theorem fg_X12_chance : fMg fd_X12_chance ∧ fHok fd_X12_chance := ⟨fMg_of (own := RX12) fch_X12_chance rfl rfl fek_X12, fHok_0 rfl⟩
set_option maxRecDepth 100000 in
set_option maxHeartbeats 4000000 in
theorem fch_X12_pupils : fchk fd_X12_pupils = true := by decide +kernel
set_option maxRecDepth 100000 in
theorem fg_X12_pupils : fMg fd_X12_pupils ∧ fHok fd_X12_pupils := ⟨fMg_of (own := RX12) fch_X12_pupils rfl rfl fek_X12, fHok_0 rfl⟩
set_option maxRecDepth 100000 in
set_option maxHeartbeats 4000000 in
theorem fch_X12_pupilOf : fchk fd_X12_pupilOf = true := by decide +kernel
set_option maxRecDepth 100000 in
theorem fg_X12_pupilOf : fMg fd_X12_pupilOf ∧ fHok fd_X12_pupilOf := ⟨fMg_of (own := RX12) fch_X12_pupilOf rfl rfl fek_X12, fHok_0 rfl⟩
set_option maxRecDepth 100000 in
set_option maxHeartbeats 4000000 in
theorem fch_X12_image : fchk fd_X12_image = true := by decide +kernel
set_option maxRecDepth 100000 in
theorem fg_X12_image : fMg fd_X12_image ∧ fHok fd_X12_image := ⟨fMg_of (own := RX12) fch_X12_image rfl rfl fek_X12, fHok_0 rfl⟩
set_option maxRecDepth 100000 in
set_option maxHeartbeats 4000000 in
theorem fch_X12_restore : fchk fd_X12_restore = true := by decide +kernel
set_option maxRecDepth 100000 in
theorem fg_X12_restore : fMg fd_X12_restore ∧ fHok fd_X12_restore := ⟨fMg_of (own := RX12) fch_X12_restore rfl rfl fek_X12, fHok_0 rfl⟩
set_option maxRecDepth 100000 in
set_option maxHeartbeats 4000000 in
theorem fch_X12_count : fchk fd_X12_count = true := by decide +kernel
set_option maxRecDepth 100000 in
theorem fg_X12_count : fMg fd_X12_count ∧ fHok fd_X12_count := ⟨fMg_of (own := RX12) fch_X12_count rfl rfl fek_X12, fHok_0 rfl⟩
set_option maxRecDepth 100000 in
set_option maxHeartbeats 4000000 in
theorem fch_J6_bitCount_0f7a4 : fchk fd_J6_bitCount_0f7a4 = true := by decide +kernel
set_option maxRecDepth 100000 in
theorem fg_J6_bitCount_0f7a4 : fMg fd_J6_bitCount_0f7a4 ∧ fHok fd_J6_bitCount_0f7a4 := ⟨fMg_of (own := RJ6) fch_J6_bitCount_0f7a4 rfl rfl fek_J6, fHok_0 rfl⟩
set_option maxRecDepth 100000 in
set_option maxHeartbeats 4000000 in
theorem fch_J9_abs_0f7a4 : fchk fd_J9_abs_0f7a4 = true := by decide +kernel
set_option maxRecDepth 100000 in
theorem fg_J9_abs_0f7a4 : fMg fd_J9_abs_0f7a4 ∧ fHok fd_J9_abs_0f7a4 := ⟨fMg_of (own := RJ9) fch_J9_abs_0f7a4 rfl rfl fek_J9, fHok_0 rfl⟩
set_option maxRecDepth 100000 in
set_option maxHeartbeats 4000000 in
theorem fch_J9_abs_067f4 : fchk fd_J9_abs_067f4 = true := by decide +kernel
set_option maxRecDepth 100000 in
theorem fg_J9_abs_067f4 : fMg fd_J9_abs_067f4 ∧ fHok fd_J9_abs_067f4 := ⟨fMg_of (own := RJ9) fch_J9_abs_067f4 rfl rfl fek_J9, fHok_0 rfl⟩
set_option maxRecDepth 100000 in
set_option maxHeartbeats 4000000 in
theorem fch_J9_max_7cf53 : fchk fd_J9_max_7cf53 = true := by decide +kernel
set_option maxRecDepth 100000 in
theorem fg_J9_max_7cf53 : fMg fd_J9_max_7cf53 ∧ fHok fd_J9_max_7cf53 := ⟨fMg_of (own := RJ9) fch_J9_max_7cf53 rfl rfl fek_J9, fHok_0 rfl⟩
set_option maxRecDepth 100000 in
set_option maxHeartbeats 4000000 in
theorem fch_J9_min_7cf53 : fchk fd_J9_min_7cf53 = true := by decide +kernel
set_option maxRecDepth 100000 in
theorem fg_J9_min_7cf53 : fMg fd_J9_min_7cf53 ∧ fHok fd_J9_min_7cf53 := ⟨fMg_of (own := RJ9) fch_J9_min_7cf53 rfl rfl fek_J9, fHok_0 rfl⟩
set_option maxRecDepth 100000 in
set_option maxHeartbeats 4000000 in
theorem fch_J7_fill_53178 : fchk fd_J7_fill_53178 = true := by decide +kernel
set_option maxRecDepth 100000 in
theorem fg_J7_fill_53178 : fMg fd_J7_fill_53178 ∧ fHok fd_J7_fill_53178 := ⟨fMg_of (own := RJ7) fch_J7_fill_53178 rfl rfl fek_J7, fHok_0 rfl⟩
set_option maxRecDepth 100000 in
set_option maxHeartbeats 4000000 in
theorem fch_L_piano : fchk fd_L_piano = true := by decide +kernel
set_option maxRecDepth 100000 in
theorem fg_L_piano : fMg fd_L_piano ∧ fHok fd_L_piano := ⟨fMg_of (own := RL) fch_L_piano rfl rfl fek_L, fHok_1 rfl (by decide) ((fmj_6 192 rfl rfl))⟩
set_option maxRecDepth 100000 in
set_option maxHeartbeats 4000000 in
theorem fch_L_offset : fchk fd_L_offset = true := by decide +kernel
set_option maxRecDepth 100000 in
theorem fg_L_offset : fMg fd_L_offset ∧ fHok fd_L_offset := ⟨fMg_of (own := RL) fch_L_offset rfl rfl fek_L, fHok_1 rfl (by decide) ((fmj_6 192 rfl rfl))⟩
set_option maxRecDepth 100000 in
set_option maxHeartbeats 4000000 in
theorem fch_L_slipped : fchk fd_L_slipped = true := by decide +kernel
set_option maxRecDepth 100000 in
theorem fg_L_slipped : fMg fd_L_slipped ∧ fHok fd_L_slipped := ⟨fMg_of (own := RL) fch_L_slipped rfl rfl fek_L, fHok_1 rfl (by decide) ((fmj_6 192 rfl rfl))⟩
set_option maxRecDepth 100000 in
set_option maxHeartbeats 4000000 in
theorem fch_L_stove : fchk fd_L_stove = true := by decide +kernel
set_option maxRecDepth 100000 in
theorem fg_L_stove : fMg fd_L_stove ∧ fHok fd_L_stove := ⟨fMg_of (own := RL) fch_L_stove rfl rfl fek_L, fHok_1 rfl (by decide) ((fmj_6 192 rfl rfl))⟩
set_option maxRecDepth 100000 in
set_option maxHeartbeats 4000000 in
theorem fch_L_lean : fchk fd_L_lean = true := by decide +kernel
set_option maxRecDepth 100000 in
theorem fg_L_lean : fMg fd_L_lean ∧ fHok fd_L_lean := ⟨fMg_of (own := RL) fch_L_lean rfl rfl fek_L, fHok_1 rfl (by decide) ((fmj_6 192 rfl rfl))⟩
set_option maxRecDepth 100000 in
set_option maxHeartbeats 4000000 in
theorem fch_L_owed : fchk fd_L_owed = true := by decide +kernel
set_option maxRecDepth 100000 in
theorem fg_L_owed : fMg fd_L_owed ∧ fHok fd_L_owed := ⟨fMg_of (own := RL) fch_L_owed rfl rfl fek_L, fHok_1 rfl (by decide) ((fmj_6 192 rfl rfl))⟩
set_option maxRecDepth 100000 in
set_option maxHeartbeats 4000000 in
theorem fch_L_law : fchk fd_L_law = true := by decide +kernel
set_option maxRecDepth 100000 in
theorem fg_L_law : fMg fd_L_law ∧ fHok fd_L_law := ⟨fMg_of (own := RL) fch_L_law rfl rfl fek_L, fHok_0 rfl⟩
theorem fg_no : fMg fmeth_dummy ∧ fHok fmeth_dummy := ⟨⟨fun pc i np tg h => by simp [fmeth_dummy, flk2] at h, fun x q h => by simp [fmeth_dummy, flk1] at h⟩, fHok_0 rfl⟩
theorem fpt_c {b : Bool} {x y : fD} (hx : fMg x ∧ fHok x) (hy : fMg y ∧ fHok y) : fMg (bif b then x else y) ∧ fHok (bif b then x else y) := by
  cases b
  · exact hy
  · exact hx
set_option maxRecDepth 100000 in
theorem fg_all : ∀ k, fMg (fmth k) ∧ fHok (fmth k) := fun k => (fpt_c (fpt_c (fpt_c (fpt_c (fpt_c (fpt_c (fpt_c (fpt_c (fpt_c fg_X0_init fg_no) (fpt_c fg_X0_unreadyConcerts fg_no)) (fpt_c (fpt_c fg_X0_isReady fg_no) (fpt_c (fpt_c fg_X0_concertAt fg_no) (fpt_c fg_X0_blame fg_no)))) (fpt_c (fpt_c (fpt_c fg_X0_isFree fg_no) (fpt_c fg_X0_freeTunings fg_no)) (fpt_c (fpt_c fg_X0_debt fg_no) (fpt_c (fpt_c fg_X0_debtBy fg_no) (fpt_c fg_X1_init fg_no))))) (fpt_c (fpt_c (fpt_c (fpt_c fg_X1_keepLeast fg_no) (fpt_c fg_X1_clearFalls fg_no)) (fpt_c (fpt_c fg_X1_addPairs fg_no) (fpt_c (fpt_c fg_X1_addPair fg_no) (fpt_c fg_X1_mostSlipping fg_no)))) (fpt_c (fpt_c (fpt_c fg_X1_isFaster fg_no) (fpt_c fg_X1_weighStoves fg_no)) (fpt_c (fpt_c fg_X1_sumFallsOf fg_no) (fpt_c (fpt_c fg_X1_sumOf fg_no) (fpt_c fg_X1_weighLean fg_no)))))) (fpt_c (fpt_c (fpt_c (fpt_c (fpt_c fg_X1_worstBatch fg_no) (fpt_c fg_X1_isCracked fg_no)) (fpt_c (fpt_c fg_X1_putInOrder fg_no) (fpt_c (fpt_c fg_X1_isCrack fg_no) (fpt_c fg_X2_init fg_no)))) (fpt_c (fpt_c (fpt_c fg_X2_clear fg_no) (fpt_c fg_X2_copyFrom fg_no)) (fpt_c (fpt_c fg_X2_addPiano fg_no) (fpt_c (fpt_c fg_X2_tell fg_no) (fpt_c fg_X2_fact fg_no))))) (fpt_c (fpt_c (fpt_c (fpt_c fg_X2_hasPiano fg_no) (fpt_c fg_X2_hasTuner fg_no)) (fpt_c (fpt_c fg_X2_isHall fg_no) (fpt_c (fpt_c fg_X2_isShut fg_no) (fpt_c fg_X2_tunerX fg_no)))) (fpt_c (fpt_c (fpt_c fg_X2_tunerY fg_no) (fpt_c fg_X2_forkOf fg_no)) (fpt_c (fpt_c fg_X2_pianoNamed fg_no) (fpt_c (fpt_c fg_X2_tunerNamed fg_no) (fpt_c fg_X2_pupilNamed fg_no))))))) (fpt_c (fpt_c (fpt_c (fpt_c (fpt_c (fpt_c fg_X2_isNameTold fg_no) (fpt_c fg_X2_placeOf fg_no)) (fpt_c (fpt_c fg_X2_feeOf fg_no) (fpt_c (fpt_c fg_X2_hasTable fg_no) (fpt_c fg_X2_beatsOf fg_no)))) (fpt_c (fpt_c (fpt_c fg_X2_wildest fg_no) (fpt_c fg_X3_init fg_no)) (fpt_c (fpt_c fg_X3_readAll fg_no) (fpt_c (fpt_c fg_X3_readRuleLine fg_no) (fpt_c fg_X3_readNameLine fg_no))))) (fpt_c (fpt_c (fpt_c (fpt_c fg_X3_readTable fg_no) (fpt_c fg_X3_readDamp fg_no)) (fpt_c (fpt_c fg_X3_readTerm fg_no) (fpt_c (fpt_c fg_X3_readFee fg_no) (fpt_c fg_X3_readRule fg_no)))) (fpt_c (fpt_c (fpt_c fg_X3_readDay fg_no) (fpt_c fg_X3_mustHaveRoom fg_no)) (fpt_c (fpt_c fg_X3_takeNewName fg_no) (fpt_c (fpt_c fg_X3_readPiano fg_no) (fpt_c fg_X3_readMore fg_no)))))) (fpt_c (fpt_c (fpt_c (fpt_c (fpt_c fg_X3_withTold fg_no) (fpt_c fg_X3_readTuner fg_no)) (fpt_c (fpt_c fg_X3_readTeach fg_no) (fpt_c (fpt_c fg_X4_init fg_no) (fpt_c fg_X4_share fg_no)))) (fpt_c (fpt_c (fpt_c fg_X4_sumWith fg_no) (fpt_c fg_X4_greatest fg_no)) (fpt_c (fpt_c fg_X4_pickTuners fg_no) (fpt_c (fpt_c fg_X4_firstGreatest fg_no) (fpt_c fg_X5_init fg_no))))) (fpt_c (fpt_c (fpt_c (fpt_c fg_X5_readAll fg_no) (fpt_c fg_X5_readLine fg_no)) (fpt_c (fpt_c fg_X5_takePiano fg_no) (fpt_c (fpt_c fg_X5_takeTuner fg_no) (fpt_c fg_X5_readWhen fg_no)))) (fpt_c (fpt_c (fpt_c fg_X5_readNote fg_no) (fpt_c fg_X6_init fg_no)) (fpt_c (fpt_c fg_X6_copyFrom fg_no) (fpt_c (fpt_c fg_X6_begin fg_no) (fpt_c fg_X6_isTold fg_no)))))))) (fpt_c (fpt_c (fpt_c (fpt_c (fpt_c (fpt_c (fpt_c fg_X6_leftOf fg_no) (fpt_c fg_X6_isKnown fg_no)) (fpt_c (fpt_c fg_X6_isOf fg_no) (fpt_c (fpt_c fg_X6_latest fg_no) (fpt_c fg_X6_hasWithin fg_no)))) (fpt_c (fpt_c (fpt_c fg_X6_concertsTold fg_no) (fpt_c fg_X7_init fg_no)) (fpt_c (fpt_c fg_X7_weightOf fg_no) (fpt_c (fpt_c fg_X7_place fg_no) (fpt_c fg_X7_weigh fg_no))))) (fpt_c (fpt_c (fpt_c (fpt_c fg_X7_liveWith fg_no) (fpt_c fg_X7_sortPianos fg_no)) (fpt_c (fpt_c fg_X7_minutes fg_no) (fpt_c (fpt_c fg_X7_doneAt fg_no) (fpt_c fg_X7_fillHomes fg_no)))) (fpt_c (fpt_c (fpt_c fg_X7_soonestDone fg_no) (fpt_c fg_X7_best fg_no)) (fpt_c (fpt_c fg_X7_fillLatest fg_no) (fpt_c (fpt_c fg_X7_latestDone fg_no) (fpt_c fg_X7_pickOrder fg_no)))))) (fpt_c (fpt_c (fpt_c (fpt_c (fpt_c fg_X7_firstNext fg_no) (fpt_c fg_X7_canGoOn fg_no)) (fpt_c (fpt_c fg_X7_walkAsTold fg_no) (fpt_c (fpt_c fg_X7_bestOfTwo fg_no) (fpt_c fg_X7_fillOtherBest fg_no)))) (fpt_c (fpt_c (fpt_c fg_X7_fewestTuners fg_no) (fpt_c fg_X7_countWays fg_no)) (fpt_c (fpt_c fg_X7_hasAll fg_no) (fpt_c (fpt_c fg_X8_init fg_no) (fpt_c fg_X8_look fg_no))))) (fpt_c (fpt_c (fpt_c (fpt_c fg_X8_sumSlipTimes fg_no) (fpt_c fg_X8_sumStoveFall fg_no)) (fpt_c (fpt_c fg_X8_wasTuned fg_no) (fpt_c (fpt_c fg_X8_tunedOn fg_no) (fpt_c fg_X8_leftAt fg_no)))) (fpt_c (fpt_c (fpt_c fg_X8_ear fg_no) (fpt_c fg_X8_offsetAt fg_no)) (fpt_c (fpt_c fg_X8_offsetUndamped fg_no) (fpt_c (fpt_c fg_X8_dampFrom fg_no) (fpt_c fg_X8_greatestAt fg_no))))))) (fpt_c (fpt_c (fpt_c (fpt_c (fpt_c (fpt_c fg_X8_greatestUndamped fg_no) (fpt_c fg_X8_isBeyond fg_no)) (fpt_c (fpt_c fg_X8_firstBeyond fg_no) (fpt_c (fpt_c fg_X8_tuningsFrom fg_no) (fpt_c fg_X9_init fg_no)))) (fpt_c (fpt_c (fpt_c fg_X9_pack fg_no) (fpt_c fg_X9_countParts fg_no)) (fpt_c (fpt_c fg_X9_tryCounts fg_no) (fpt_c (fpt_c fg_X9_partOf fg_no) (fpt_c fg_X10_init fg_no))))) (fpt_c (fpt_c (fpt_c (fpt_c fg_X10_withLetter fg_no) (fpt_c fg_X10_hasRoom fg_no)) (fpt_c (fpt_c fg_X10_add fg_no) (fpt_c (fpt_c fg_X10_isCut fg_no) (fpt_c fg_X10_empty fg_no)))) (fpt_c (fpt_c (fpt_c fg_X10_movePianos fg_no) (fpt_c fg_X10_begin fg_no)) (fpt_c (fpt_c fg_X10_take fg_no) (fpt_c (fpt_c fg_X10_takeRun fg_no) (fpt_c fg_X10_isBlank fg_no)))))) (fpt_c (fpt_c (fpt_c (fpt_c (fpt_c fg_X10_isLetter fg_no) (fpt_c fg_X10_isDigit fg_no)) (fpt_c (fpt_c fg_X10_takeNumber fg_no) (fpt_c (fpt_c fg_X10_takeSigned fg_no) (fpt_c fg_X10_numberHere fg_no)))) (fpt_c (fpt_c (fpt_c fg_X10_keywordHere fg_no) (fpt_c fg_X10_takeKind fg_no)) (fpt_c (fpt_c fg_X10_takeName fg_no) (fpt_c (fpt_c fg_X10_fail fg_no) (fpt_c fg_X11_init fg_no))))) (fpt_c (fpt_c (fpt_c (fpt_c fg_X11_feed fg_no) (fpt_c fg_X11_end fg_no)) (fpt_c (fpt_c fg_X11_house fg_no) (fpt_c (fpt_c fg_X11_records fg_no) (fpt_c fg_X11_fault fg_no)))) (fpt_c (fpt_c (fpt_c fg_X11_piano fg_no) (fpt_c (fpt_c fg_X11_week fg_no) (fpt_c fg_X11_beats fg_no))) (fpt_c (fpt_c fg_X11_wolf fg_no) (fpt_c (fpt_c fg_X11_offset fg_no) (fpt_c fg_X11_off fg_no))))))))) (fpt_c (fpt_c (fpt_c (fpt_c (fpt_c (fpt_c (fpt_c (fpt_c fg_X11_due fg_no) (fpt_c fg_X11_slips fg_no)) (fpt_c (fpt_c fg_X11_slipped fg_no) (fpt_c (fpt_c fg_X11_stove fg_no) (fpt_c fg_X11_lean fg_no)))) (fpt_c (fpt_c (fpt_c fg_X11_batch fg_no) (fpt_c fg_X11_cracked fg_no)) (fpt_c (fpt_c fg_X11_weight fg_no) (fpt_c (fpt_c fg_X11_round fg_no) (fpt_c fg_X11_roundAt fg_no))))) (fpt_c (fpt_c (fpt_c (fpt_c fg_X11_home fg_no) (fpt_c fg_X11_walked fg_no)) (fpt_c (fpt_c fg_X11_two fg_no) (fpt_c (fpt_c fg_X11_festival fg_no) (fpt_c fg_X11_unready fg_no)))) (fpt_c (fpt_c (fpt_c fg_X11_whose fg_no) (fpt_c fg_X11_fee fg_no)) (fpt_c (fpt_c fg_X11_owed fg_no) (fpt_c (fpt_c fg_X11_free fg_no) (fpt_c fg_X11_tunings fg_no)))))) (fpt_c (fpt_c (fpt_c (fpt_c (fpt_c fg_X11_past fg_no) (fpt_c fg_X11_bag fg_no)) (fpt_c (fpt_c fg_X11_chance fg_no) (fpt_c (fpt_c fg_X11_pupils fg_no) (fpt_c fg_X11_pupilOf fg_no)))) (fpt_c (fpt_c (fpt_c fg_X11_image fg_no) (fpt_c fg_X11_restore fg_no)) (fpt_c (fpt_c fg_X11_count fg_no) (fpt_c (fpt_c fg_X11_isAsked fg_no) (fpt_c fg_X11_isKnowing fg_no))))) (fpt_c (fpt_c (fpt_c (fpt_c fg_X11_isWithin fg_no) (fpt_c fg_X11_weekOf fg_no)) (fpt_c (fpt_c fg_X12_thrown fg_no) (fpt_c (fpt_c fg_X12_throwsIf fg_no) (fpt_c fg_X12_feed fg_no)))) (fpt_c (fpt_c (fpt_c fg_X12_four fg_no) (fpt_c fg_X12_end fg_no)) (fpt_c (fpt_c fg_X12_taken fg_no) (fpt_c (fpt_c fg_X12_isIn fg_no) (fpt_c fg_X12_plain fg_no))))))) (fpt_c (fpt_c (fpt_c (fpt_c (fpt_c (fpt_c fg_X12_octet fg_no) (fpt_c fg_X12_init fg_no)) (fpt_c (fpt_c fg_X12_begin fg_no) (fpt_c (fpt_c fg_X12_peek fg_no) (fpt_c fg_X12_isSmall fg_no)))) (fpt_c (fpt_c (fpt_c fg_X12_isDigit fg_no) (fpt_c fg_X12_next fg_no)) (fpt_c (fpt_c fg_X12_bad fg_no) (fpt_c (fpt_c fg_X12_isWord fg_no) (fpt_c fg_X12_isSign fg_no))))) (fpt_c (fpt_c (fpt_c (fpt_c fg_X12_sign fg_no) (fpt_c fg_X12_isName fg_no)) (fpt_c (fpt_c fg_X12_find fg_no) (fpt_c (fpt_c fg_X12_takes fg_no) (fpt_c fg_X12_takesSigned fg_no)))) (fpt_c (fpt_c (fpt_c fg_X12_takesName fg_no) (fpt_c fg_X12_kind fg_no)) (fpt_c (fpt_c fg_X12_once fg_no) (fpt_c (fpt_c fg_X12_oneNumber fg_no) (fpt_c fg_X12_span fg_no)))))) (fpt_c (fpt_c (fpt_c (fpt_c (fpt_c fg_X12_readHouse fg_no) (fpt_c fg_X12_line fg_no)) (fpt_c (fpt_c fg_X12_table fg_no) (fpt_c (fpt_c fg_X12_weeks fg_no) (fpt_c fg_X12_readFee fg_no)))) (fpt_c (fpt_c (fpt_c fg_X12_fresh fg_no) (fpt_c fg_X12_readPiano fg_no)) (fpt_c (fpt_c fg_X12_more fg_no) (fpt_c (fpt_c fg_X12_tuner fg_no) (fpt_c fg_X12_pupil fg_no))))) (fpt_c (fpt_c (fpt_c (fpt_c fg_X12_teach fg_no) (fpt_c fg_X12_house fg_no)) (fpt_c (fpt_c fg_X12_readRecords fg_no) (fpt_c (fpt_c fg_X12_record fg_no) (fpt_c fg_X12_when fg_no)))) (fpt_c (fpt_c (fpt_c fg_X12_notes fg_no) (fpt_c fg_X12_records fg_no)) (fpt_c (fpt_c fg_X12_fault fg_no) (fpt_c (fpt_c fg_X12_isPiano fg_no) (fpt_c fg_X12_isTuner fg_no)))))))) (fpt_c (fpt_c (fpt_c (fpt_c (fpt_c (fpt_c (fpt_c fg_X12_isDay fg_no) (fpt_c fg_X12_isKnown fg_no)) (fpt_c (fpt_c fg_X12_of fg_no) (fpt_c (fpt_c fg_X12_piano fg_no) (fpt_c fg_X12_week fg_no)))) (fpt_c (fpt_c (fpt_c fg_X12_pitch fg_no) (fpt_c fg_X12_beatsOf fg_no)) (fpt_c (fpt_c fg_X12_beats fg_no) (fpt_c (fpt_c fg_X12_wolf fg_no) (fpt_c fg_X12_isOf fg_no))))) (fpt_c (fpt_c (fpt_c (fpt_c fg_X12_latest fg_no) (fpt_c fg_X12_course fg_no)) (fpt_c (fpt_c fg_X12_tune fg_no) (fpt_c (fpt_c fg_X12_pass fg_no) (fpt_c fg_X12_passTo fg_no)))) (fpt_c (fpt_c (fpt_c fg_X12_offsetOf fg_no) (fpt_c fg_X12_offOf fg_no)) (fpt_c (fpt_c fg_X12_offset fg_no) (fpt_c (fpt_c fg_X12_off fg_no) (fpt_c fg_X12_isBeyond fg_no)))))) (fpt_c (fpt_c (fpt_c (fpt_c (fpt_c fg_X12_due fg_no) (fpt_c fg_X12_tuningsOf fg_no)) (fpt_c (fpt_c fg_X12_tunings fg_no) (fpt_c (fpt_c fg_X12_past fg_no) (fpt_c fg_X12_pairs fg_no)))) (fpt_c (fpt_c (fpt_c fg_X12_noPairs fg_no) (fpt_c fg_X12_common fg_no)) (fpt_c (fpt_c fg_X12_slips fg_no) (fpt_c (fpt_c fg_X12_slipped fg_no) (fpt_c fg_X12_stove fg_no))))) (fpt_c (fpt_c (fpt_c (fpt_c fg_X12_lean fg_no) (fpt_c fg_X12_batch fg_no)) (fpt_c (fpt_c fg_X12_cracked fg_no) (fpt_c (fpt_c fg_X12_cracks fg_no) (fpt_c fg_X12_isTunedIn fg_no)))) (fpt_c (fpt_c (fpt_c fg_X12_weightOf fg_no) (fpt_c fg_X12_weight fg_no)) (fpt_c (fpt_c fg_X12_tells fg_no) (fpt_c (fpt_c fg_X12_live fg_no) (fpt_c fg_X12_way fg_no))))))) (fpt_c (fpt_c (fpt_c (fpt_c (fpt_c (fpt_c fg_X12_done fg_no) (fpt_c fg_X12_orders fg_no)) (fpt_c (fpt_c fg_X12_consider fg_no) (fpt_c (fpt_c fg_X12_round fg_no) (fpt_c fg_X12_roundAt fg_no)))) (fpt_c (fpt_c (fpt_c fg_X12_home fg_no) (fpt_c fg_X12_walked fg_no)) (fpt_c (fpt_c fg_X12_sets fg_no) (fpt_c (fpt_c fg_X12_sumOf fg_no) (fpt_c fg_X12_two fg_no))))) (fpt_c (fpt_c (fpt_c (fpt_c fg_X12_bits fg_no) (fpt_c fg_X12_festival fg_no)) (fpt_c (fpt_c fg_X12_unready fg_no) (fpt_c (fpt_c fg_X12_whose fg_no) (fpt_c fg_X12_blame fg_no)))) (fpt_c (fpt_c (fpt_c fg_X12_feeOf fg_no) (fpt_c fg_X12_fee fg_no)) (fpt_c (fpt_c fg_X12_isFree fg_no) (fpt_c (fpt_c fg_X12_owed fg_no) (fpt_c fg_X12_free fg_no)))))) (fpt_c (fpt_c (fpt_c (fpt_c (fpt_c fg_X12_part fg_no) (fpt_c fg_X12_bag fg_no)) (fpt_c (fpt_c fg_X12_chance fg_no) (fpt_c (fpt_c fg_X12_pupils fg_no) (fpt_c fg_X12_pupilOf fg_no)))) (fpt_c (fpt_c (fpt_c fg_X12_image fg_no) (fpt_c fg_X12_restore fg_no)) (fpt_c (fpt_c fg_X12_count fg_no) (fpt_c (fpt_c fg_J6_bitCount_0f7a4 fg_no) (fpt_c fg_J9_abs_0f7a4 fg_no))))) (fpt_c (fpt_c (fpt_c (fpt_c fg_J9_abs_067f4 fg_no) (fpt_c fg_J9_max_7cf53 fg_no)) (fpt_c (fpt_c fg_J9_min_7cf53 fg_no) (fpt_c (fpt_c fg_J7_fill_53178 fg_no) (fpt_c fg_L_piano fg_no)))) (fpt_c (fpt_c (fpt_c fg_L_offset fg_no) (fpt_c (fpt_c fg_L_slipped fg_no) (fpt_c fg_L_stove fg_no))) (fpt_c (fpt_c fg_L_lean fg_no) (fpt_c (fpt_c fg_L_owed fg_no) (fpt_c fg_L_law fg_no))))))))))
