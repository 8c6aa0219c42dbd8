set_option maxRecDepth 100000 in
set_option maxHeartbeats 4000000 in
theorem fch_X0_init : fchk fd_X0_init = true := by decide +kernel
set_option maxRecDepth 100000 in
theorem fg_X0_init : fMg fd_X0_init ∧ fHok fd_X0_init := ⟨fMg_of (own := RX0) fch_X0_init rfl rfl fek_X0, fHok_0 rfl⟩
set_option maxRecDepth 100000 in
set_option maxHeartbeats 4000000 in
theorem fch_X0_unreadyConcerts : fchk fd_X0_unreadyConcerts = true := by decide +kernel
set_option maxRecDepth 100000 in
theorem fg_X0_unreadyConcerts : fMg fd_X0_unreadyConcerts ∧ fHok fd_X0_unreadyConcerts := ⟨fMg_of (own := RX0) fch_X0_unreadyConcerts rfl rfl fek_X0, fHok_0 rfl⟩
set_option maxRecDepth 100000 in
set_option maxHeartbeats 4000000 in
theorem fch_X0_isReady : fchk fd_X0_isReady = true := by decide +kernel
set_option maxRecDepth 100000 in
theorem fg_X0_isReady : fMg fd_X0_isReady ∧ fHok fd_X0_isReady := ⟨fMg_of (own := RX0) fch_X0_isReady rfl rfl fek_X0, fHok_0 rfl⟩
set_option maxRecDepth 100000 in
set_option maxHeartbeats 4000000 in
theorem fch_X0_concertAt : fchk fd_X0_concertAt = true := by decide +kernel
set_option maxRecDepth 100000 in
theorem fg_X0_concertAt : fMg fd_X0_concertAt ∧ fHok fd_X0_concertAt := ⟨fMg_of (own := RX0) fch_X0_concertAt rfl rfl fek_X0, fHok_0 rfl⟩
set_option maxRecDepth 100000 in
set_option maxHeartbeats 4000000 in
theorem fch_X0_blame : fchk fd_X0_blame = true := by decide +kernel
set_option maxRecDepth 100000 in
theorem fg_X0_blame : fMg fd_X0_blame ∧ fHok fd_X0_blame := ⟨fMg_of (own := RX0) fch_X0_blame rfl rfl fek_X0, fHok_0 rfl⟩
set_option maxRecDepth 100000 in
set_option maxHeartbeats 4000000 in
theorem fch_X0_isFree : fchk fd_X0_isFree = true := by decide +kernel
set_option maxRecDepth 100000 in
theorem fg_X0_isFree : fMg fd_X0_isFree ∧ fHok fd_X0_isFree := ⟨fMg_of (own := RX0) fch_X0_isFree rfl rfl fek_X0, fHok_0 rfl⟩
set_option maxRecDepth 100000 in
set_option maxHeartbeats 4000000 in
theorem fch_X0_freeTunings : fchk fd_X0_freeTunings = true := by decide +kernel
set_option maxRecDepth 100000 in
theorem fg_X0_freeTunings : fMg fd_X0_freeTunings ∧ fHok fd_X0_freeTunings := ⟨fMg_of (own := RX0) fch_X0_freeTunings rfl rfl fek_X0, fHok_0 rfl⟩
set_option maxRecDepth 100000 in
set_option maxHeartbeats 4000000 in
theorem fch_X0_debt : fchk fd_X0_debt = true := by decide +kernel
set_option maxRecDepth 100000 in
theorem fg_X0_debt : fMg fd_X0_debt ∧ fHok fd_X0_debt := ⟨fMg_of (own := RX0) fch_X0_debt rfl rfl fek_X0, fHok_0 rfl⟩
set_option maxRecDepth 100000 in
set_option maxHeartbeats 4000000 in
theorem fch_X0_debtBy : fchk fd_X0_debtBy = true := by decide +kernel
set_option maxRecDepth 100000 in
theorem fg_X0_debtBy : fMg fd_X0_debtBy ∧ fHok fd_X0_debtBy := ⟨fMg_of (own := RX0) fch_X0_debtBy rfl rfl fek_X0, fHok_0 rfl⟩
set_option maxRecDepth 100000 in
set_option maxHeartbeats 4000000 in
theorem fch_X1_init : fchk fd_X1_init = true := by decide +kernel
set_option maxRecDepth 100000 in
theorem fg_X1_init : fMg fd_X1_init ∧ fHok fd_X1_init := ⟨fMg_of (own := RX1) fch_X1_init rfl rfl fek_X1, fHok_0 rfl⟩
set_option maxRecDepth 100000 in
set_option maxHeartbeats 4000000 in
theorem fch_X1_keepLeast : fchk fd_X1_keepLeast = true := by decide +kernel
set_option maxRecDepth 100000 in
theorem fg_X1_keepLeast : fMg fd_X1_keepLeast ∧ fHok fd_X1_keepLeast := ⟨fMg_of (own := RX1) fch_X1_keepLeast rfl rfl fek_X1, fHok_0 rfl⟩
set_option maxRecDepth 100000 in
set_option maxHeartbeats 4000000 in
theorem fch_X1_clearFalls : fchk fd_X1_clearFalls = true := by decide +kernel
set_option maxRecDepth 100000 in
theorem fg_X1_clearFalls : fMg fd_X1_clearFalls ∧ fHok fd_X1_clearFalls := ⟨fMg_of (own := RX1) fch_X1_clearFalls rfl rfl fek_X1, fHok_0 rfl⟩
set_option maxRecDepth 100000 in
set_option maxHeartbeats 4000000 in
theorem fch_X1_addPairs : fchk fd_X1_addPairs = true := by decide +kernel
set_option maxRecDepth 100000 in
theorem fg_X1_addPairs : fMg fd_X1_addPairs ∧ fHok fd_X1_addPairs := ⟨fMg_of (own := RX1) fch_X1_addPairs rfl rfl fek_X1, fHok_0 rfl⟩
set_option maxRecDepth 100000 in
set_option maxHeartbeats 4000000 in
theorem fch_X1_addPair : fchk fd_X1_addPair = true := by decide +kernel
set_option maxRecDepth 100000 in
theorem fg_X1_addPair : fMg fd_X1_addPair ∧ fHok fd_X1_addPair := ⟨fMg_of (own := RX1) fch_X1_addPair rfl rfl fek_X1, fHok_0 rfl⟩
set_option maxRecDepth 100000 in
set_option maxHeartbeats 4000000 in
theorem fch_X1_mostSlipping : fchk fd_X1_mostSlipping = true := by decide +kernel
set_option maxRecDepth 100000 in
theorem fg_X1_mostSlipping : fMg fd_X1_mostSlipping ∧ fHok fd_X1_mostSlipping := ⟨fMg_of (own := RX1) fch_X1_mostSlipping rfl rfl fek_X1, fHok_0 rfl⟩
set_option maxRecDepth 100000 in
set_option maxHeartbeats 4000000 in
theorem fch_X1_isFaster : fchk fd_X1_isFaster = true := by decide +kernel
set_option maxRecDepth 100000 in
theorem fg_X1_isFaster : fMg fd_X1_isFaster ∧ fHok fd_X1_isFaster := ⟨fMg_of (own := RX1) fch_X1_isFaster rfl rfl fek_X1, fHok_0 rfl⟩
set_option maxRecDepth 100000 in
set_option maxHeartbeats 4000000 in
theorem fch_X1_weighStoves : fchk fd_X1_weighStoves = true := by decide +kernel
set_option maxRecDepth 100000 in
theorem fg_X1_weighStoves : fMg fd_X1_weighStoves ∧ fHok fd_X1_weighStoves := ⟨fMg_of (own := RX1) fch_X1_weighStoves rfl rfl fek_X1, fHok_0 rfl⟩
set_option maxRecDepth 100000 in
set_option maxHeartbeats 4000000 in
theorem fch_X1_sumFallsOf : fchk fd_X1_sumFallsOf = true := by decide +kernel
set_option maxRecDepth 100000 in
theorem fg_X1_sumFallsOf : fMg fd_X1_sumFallsOf ∧ fHok fd_X1_sumFallsOf := ⟨fMg_of (own := RX1) fch_X1_sumFallsOf rfl rfl fek_X1, fHok_0 rfl⟩
set_option maxRecDepth 100000 in
set_option maxHeartbeats 4000000 in
theorem fch_X1_sumOf : fchk fd_X1_sumOf = true := by decide +kernel
set_option maxRecDepth 100000 in
theorem fg_X1_sumOf : fMg fd_X1_sumOf ∧ fHok fd_X1_sumOf := ⟨fMg_of (own := RX1) fch_X1_sumOf rfl rfl fek_X1, fHok_0 rfl⟩
set_option maxRecDepth 100000 in
set_option maxHeartbeats 4000000 in
theorem fch_X1_weighLean : fchk fd_X1_weighLean = true := by decide +kernel
set_option maxRecDepth 100000 in
theorem fg_X1_weighLean : fMg fd_X1_weighLean ∧ fHok fd_X1_weighLean := ⟨fMg_of (own := RX1) fch_X1_weighLean rfl rfl fek_X1, fHok_0 rfl⟩
set_option maxRecDepth 100000 in
set_option maxHeartbeats 4000000 in
theorem fch_X1_worstBatch : fchk fd_X1_worstBatch = true := by decide +kernel
set_option maxRecDepth 100000 in
theorem fg_X1_worstBatch : fMg fd_X1_worstBatch ∧ fHok fd_X1_worstBatch := ⟨fMg_of (own := RX1) fch_X1_worstBatch rfl rfl fek_X1, fHok_0 rfl⟩
set_option maxRecDepth 100000 in
set_option maxHeartbeats 4000000 in
theorem fch_X1_isCracked : fchk fd_X1_isCracked = true := by decide +kernel
set_option maxRecDepth 100000 in
theorem fg_X1_isCracked : fMg fd_X1_isCracked ∧ fHok fd_X1_isCracked := ⟨fMg_of (own := RX1) fch_X1_isCracked rfl rfl fek_X1, fHok_0 rfl⟩
set_option maxRecDepth 100000 in
set_option maxHeartbeats 4000000 in
theorem fch_X1_putInOrder : fchk fd_X1_putInOrder = true := by decide +kernel
set_option maxRecDepth 100000 in
theorem fg_X1_putInOrder : fMg fd_X1_putInOrder ∧ fHok fd_X1_putInOrder := ⟨fMg_of (own := RX1) fch_X1_putInOrder rfl rfl fek_X1, fHok_0 rfl⟩
set_option maxRecDepth 100000 in
set_option maxHeartbeats 4000000 in
theorem fch_X1_isCrack : fchk fd_X1_isCrack = true := by decide +kernel
set_option maxRecDepth 100000 in
theorem fg_X1_isCrack : fMg fd_X1_isCrack ∧ fHok fd_X1_isCrack := ⟨fMg_of (own := RX1) fch_X1_isCrack rfl rfl fek_X1, fHok_0 rfl⟩
set_option maxRecDepth 100000 in
set_option maxHeartbeats 4000000 in
theorem fch_X2_init : fchk fd_X2_init = true := by decide +kernel
set_option maxRecDepth 100000 in
theorem fg_X2_init : fMg fd_X2_init ∧ fHok fd_X2_init := ⟨fMg_of (own := RX2) fch_X2_init rfl rfl fek_X2, fHok_0 rfl⟩
set_option maxRecDepth 100000 in
set_option maxHeartbeats 4000000 in
theorem fch_X2_clear : fchk fd_X2_clear = true := by decide +kernel
set_option maxRecDepth 100000 in
theorem fg_X2_clear : fMg fd_X2_clear ∧ fHok fd_X2_clear := ⟨fMg_of (own := RX2) fch_X2_clear rfl rfl fek_X2, fHok_0 rfl⟩
set_option maxRecDepth 100000 in
set_option maxHeartbeats 4000000 in
theorem fch_X2_copyFrom : fchk fd_X2_copyFrom = true := by decide +kernel
set_option maxRecDepth 100000 in
theorem fg_X2_copyFrom : fMg fd_X2_copyFrom ∧ fHok fd_X2_copyFrom := ⟨fMg_of (own := RX2) fch_X2_copyFrom rfl rfl fek_X2, fHok_0 rfl⟩
set_option maxRecDepth 100000 in
set_option maxHeartbeats 4000000 in
theorem fch_X2_addPiano : fchk fd_X2_addPiano = true := by decide +kernel
set_option maxRecDepth 100000 in
theorem fg_X2_addPiano : fMg fd_X2_addPiano ∧ fHok fd_X2_addPiano := ⟨fMg_of (own := RX2) fch_X2_addPiano rfl rfl fek_X2, fHok_0 rfl⟩
set_option maxRecDepth 100000 in
set_option maxHeartbeats 4000000 in
theorem fch_X2_tell : fchk fd_X2_tell = true := by decide +kernel
set_option maxRecDepth 100000 in
theorem fg_X2_tell : fMg fd_X2_tell ∧ fHok fd_X2_tell := ⟨fMg_of (own := RX2) fch_X2_tell rfl rfl fek_X2, fHok_0 rfl⟩
set_option maxRecDepth 100000 in
set_option maxHeartbeats 4000000 in
theorem fch_X2_fact : fchk fd_X2_fact = true := by decide +kernel
set_option maxRecDepth 100000 in
theorem fg_X2_fact : fMg fd_X2_fact ∧ fHok fd_X2_fact := ⟨fMg_of (own := RX2) fch_X2_fact rfl rfl fek_X2, fHok_0 rfl⟩
set_option maxRecDepth 100000 in
set_option maxHeartbeats 4000000 in
theorem fch_X2_hasPiano : fchk fd_X2_hasPiano = true := by decide +kernel
set_option maxRecDepth 100000 in
theorem fg_X2_hasPiano : fMg fd_X2_hasPiano ∧ fHok fd_X2_hasPiano := ⟨fMg_of (own := RX2) fch_X2_hasPiano rfl rfl fek_X2, fHok_0 rfl⟩
set_option maxRecDepth 100000 in
set_option maxHeartbeats 4000000 in
theorem fch_X2_hasTuner : fchk fd_X2_hasTuner = true := by decide +kernel
set_option maxRecDepth 100000 in
theorem fg_X2_hasTuner : fMg fd_X2_hasTuner ∧ fHok fd_X2_hasTuner := ⟨fMg_of (own := RX2) fch_X2_hasTuner rfl rfl fek_X2, fHok_0 rfl⟩
set_option maxRecDepth 100000 in
set_option maxHeartbeats 4000000 in
theorem fch_X2_isHall : fchk fd_X2_isHall = true := by decide +kernel
set_option maxRecDepth 100000 in
theorem fg_X2_isHall : fMg fd_X2_isHall ∧ fHok fd_X2_isHall := ⟨fMg_of (own := RX2) fch_X2_isHall rfl rfl fek_X2, fHok_0 rfl⟩
set_option maxRecDepth 100000 in
set_option maxHeartbeats 4000000 in
theorem fch_X2_isShut : fchk fd_X2_isShut = true := by decide +kernel
set_option maxRecDepth 100000 in
theorem fg_X2_isShut : fMg fd_X2_isShut ∧ fHok fd_X2_isShut := ⟨fMg_of (own := RX2) fch_X2_isShut rfl rfl fek_X2, fHok_0 rfl⟩
set_option maxRecDepth 100000 in
set_option maxHeartbeats 4000000 in
theorem fch_X2_tunerX : fchk fd_X2_tunerX = true := by decide +kernel
set_option maxRecDepth 100000 in
theorem fg_X2_tunerX : fMg fd_X2_tunerX ∧ fHok fd_X2_tunerX := ⟨fMg_of (own := RX2) fch_X2_tunerX rfl rfl fek_X2, fHok_0 rfl⟩
set_option maxRecDepth 100000 in
set_option maxHeartbeats 4000000 in
theorem fch_X2_tunerY : fchk fd_X2_tunerY = true := by decide +kernel
set_option maxRecDepth 100000 in
theorem fg_X2_tunerY : fMg fd_X2_tunerY ∧ fHok fd_X2_tunerY := ⟨fMg_of (own := RX2) fch_X2_tunerY rfl rfl fek_X2, fHok_0 rfl⟩
set_option maxRecDepth 100000 in
set_option maxHeartbeats 4000000 in
theorem fch_X2_forkOf : fchk fd_X2_forkOf = true := by decide +kernel
set_option maxRecDepth 100000 in
theorem fg_X2_forkOf : fMg fd_X2_forkOf ∧ fHok fd_X2_forkOf := ⟨fMg_of (own := RX2) fch_X2_forkOf rfl rfl fek_X2, fHok_0 rfl⟩
set_option maxRecDepth 100000 in
set_option maxHeartbeats 4000000 in
theorem fch_X2_pianoNamed : fchk fd_X2_pianoNamed = true := by decide +kernel
set_option maxRecDepth 100000 in
theorem fg_X2_pianoNamed : fMg fd_X2_pianoNamed ∧ fHok fd_X2_pianoNamed := ⟨fMg_of (own := RX2) fch_X2_pianoNamed rfl rfl fek_X2, fHok_0 rfl⟩
set_option maxRecDepth 100000 in
set_option maxHeartbeats 4000000 in
theorem fch_X2_tunerNamed : fchk fd_X2_tunerNamed = true := by decide +kernel
set_option maxRecDepth 100000 in
theorem fg_X2_tunerNamed : fMg fd_X2_tunerNamed ∧ fHok fd_X2_tunerNamed := ⟨fMg_of (own := RX2) fch_X2_tunerNamed rfl rfl fek_X2, fHok_0 rfl⟩
set_option maxRecDepth 100000 in
set_option maxHeartbeats 4000000 in
theorem fch_X2_pupilNamed : fchk fd_X2_pupilNamed = true := by decide +kernel
set_option maxRecDepth 100000 in
theorem fg_X2_pupilNamed : fMg fd_X2_pupilNamed ∧ fHok fd_X2_pupilNamed := ⟨fMg_of (own := RX2) fch_X2_pupilNamed rfl rfl fek_X2, fHok_0 rfl⟩
set_option maxRecDepth 100000 in
set_option maxHeartbeats 4000000 in
theorem fch_X2_isNameTold : fchk fd_X2_isNameTold = true := by decide +kernel
set_option maxRecDepth 100000 in
theorem fg_X2_isNameTold : fMg fd_X2_isNameTold ∧ fHok fd_X2_isNameTold := ⟨fMg_of (own := RX2) fch_X2_isNameTold rfl rfl fek_X2, fHok_0 rfl⟩
set_option maxRecDepth 100000 in
set_option maxHeartbeats 4000000 in
theorem fch_X2_placeOf : fchk fd_X2_placeOf = true := by decide +kernel
set_option maxRecDepth 100000 in
theorem fg_X2_placeOf : fMg fd_X2_placeOf ∧ fHok fd_X2_placeOf := ⟨fMg_of (own := RX2) fch_X2_placeOf rfl rfl fek_X2, fHok_0 rfl⟩
set_option maxRecDepth 100000 in
set_option maxHeartbeats 4000000 in
theorem fch_X2_feeOf : fchk fd_X2_feeOf = true := by decide +kernel
set_option maxRecDepth 100000 in
theorem fg_X2_feeOf : fMg fd_X2_feeOf ∧ fHok fd_X2_feeOf := ⟨fMg_of (own := RX2) fch_X2_feeOf rfl rfl fek_X2, fHok_0 rfl⟩
set_option maxRecDepth 100000 in
set_option maxHeartbeats 4000000 in
theorem fch_X2_hasTable : fchk fd_X2_hasTable = true := by decide +kernel
set_option maxRecDepth 100000 in
theorem fg_X2_hasTable : fMg fd_X2_hasTable ∧ fHok fd_X2_hasTable := ⟨fMg_of (own := RX2) fch_X2_hasTable rfl rfl fek_X2, fHok_0 rfl⟩
set_option maxRecDepth 100000 in
set_option maxHeartbeats 4000000 in
theorem fch_X2_beatsOf : fchk fd_X2_beatsOf = true := by decide +kernel
set_option maxRecDepth 100000 in
theorem fg_X2_beatsOf : fMg fd_X2_beatsOf ∧ fHok fd_X2_beatsOf := ⟨fMg_of (own := RX2) fch_X2_beatsOf rfl rfl fek_X2, fHok_0 rfl⟩
set_option maxRecDepth 100000 in
set_option maxHeartbeats 4000000 in
theorem fch_X2_wildest : fchk fd_X2_wildest = true := by decide +kernel
set_option maxRecDepth 100000 in
theorem fg_X2_wildest : fMg fd_X2_wildest ∧ fHok fd_X2_wildest := ⟨fMg_of (own := RX2) fch_X2_wildest rfl rfl fek_X2, fHok_0 rfl⟩
set_option maxRecDepth 100000 in
set_option maxHeartbeats 4000000 in
theorem fch_X3_init : fchk fd_X3_init = true := by decide +kernel
set_option maxRecDepth 100000 in
theorem fg_X3_init : fMg fd_X3_init ∧ fHok fd_X3_init := ⟨fMg_of (own := RX3) fch_X3_init rfl rfl fek_X3, fHok_0 rfl⟩
set_option maxRecDepth 100000 in
set_option maxHeartbeats 4000000 in
theorem fch_X3_readAll : fchk fd_X3_readAll = true := by decide +kernel
set_option maxRecDepth 100000 in
theorem fg_X3_readAll : fMg fd_X3_readAll ∧ fHok fd_X3_readAll := ⟨fMg_of (own := RX3) fch_X3_readAll rfl rfl fek_X3, fHok_0 rfl⟩
set_option maxRecDepth 100000 in
set_option maxHeartbeats 4000000 in
theorem fch_X3_readRuleLine : fchk fd_X3_readRuleLine = true := by decide +kernel
set_option maxRecDepth 100000 in
theorem fg_X3_readRuleLine : fMg fd_X3_readRuleLine ∧ fHok fd_X3_readRuleLine := ⟨fMg_of (own := RX3) fch_X3_readRuleLine rfl rfl fek_X3, fHok_0 rfl⟩
set_option maxRecDepth 100000 in
set_option maxHeartbeats 4000000 in
theorem fch_X3_readNameLine : fchk fd_X3_readNameLine = true := by decide +kernel
set_option maxRecDepth 100000 in
theorem fg_X3_readNameLine : fMg fd_X3_readNameLine ∧ fHok fd_X3_readNameLine := ⟨fMg_of (own := RX3) fch_X3_readNameLine rfl rfl fek_X3, fHok_0 rfl⟩
set_option maxRecDepth 100000 in
set_option maxHeartbeats 4000000 in
theorem fch_X3_readTable : fchk fd_X3_readTable = true := by decide +kernel
set_option maxRecDepth 100000 in
theorem fg_X3_readTable : fMg fd_X3_readTable ∧ fHok fd_X3_readTable := ⟨fMg_of (own := RX3) fch_X3_readTable rfl rfl fek_X3, fHok_0 rfl⟩
set_option maxRecDepth 100000 in
set_option maxHeartbeats 4000000 in
theorem fch_X3_readDamp : fchk fd_X3_readDamp = true := by decide +kernel
set_option maxRecDepth 100000 in
theorem fg_X3_readDamp : fMg fd_X3_readDamp ∧ fHok fd_X3_readDamp := ⟨fMg_of (own := RX3) fch_X3_readDamp rfl rfl fek_X3, fHok_0 rfl⟩
set_option maxRecDepth 100000 in
set_option maxHeartbeats 4000000 in
theorem fch_X3_readTerm : fchk fd_X3_readTerm = true := by decide +kernel
set_option maxRecDepth 100000 in
theorem fg_X3_readTerm : fMg fd_X3_readTerm ∧ fHok fd_X3_readTerm := ⟨fMg_of (own := RX3) fch_X3_readTerm rfl rfl fek_X3, fHok_0 rfl⟩
set_option maxRecDepth 100000 in
set_option maxHeartbeats 4000000 in
theorem fch_X3_readFee : fchk fd_X3_readFee = true := by decide +kernel
set_option maxRecDepth 100000 in
theorem fg_X3_readFee : fMg fd_X3_readFee ∧ fHok fd_X3_readFee := ⟨fMg_of (own := RX3) fch_X3_readFee rfl rfl fek_X3, fHok_0 rfl⟩
set_option maxRecDepth 100000 in
set_option maxHeartbeats 4000000 in
theorem fch_X3_readRule : fchk fd_X3_readRule = true := by decide +kernel
set_option maxRecDepth 100000 in
theorem fg_X3_readRule : fMg fd_X3_readRule ∧ fHok fd_X3_readRule := ⟨fMg_of (own := RX3) fch_X3_readRule rfl rfl fek_X3, fHok_0 rfl⟩
set_option maxRecDepth 100000 in
set_option maxHeartbeats 4000000 in
theorem fch_X3_readDay : fchk fd_X3_readDay = true := by decide +kernel
set_option maxRecDepth 100000 in
theorem fg_X3_readDay : fMg fd_X3_readDay ∧ fHok fd_X3_readDay := ⟨fMg_of (own := RX3) fch_X3_readDay rfl rfl fek_X3, fHok_0 rfl⟩
set_option maxRecDepth 100000 in
set_option maxHeartbeats 4000000 in
theorem fch_X3_mustHaveRoom : fchk fd_X3_mustHaveRoom = true := by decide +kernel
set_option maxRecDepth 100000 in
theorem fg_X3_mustHaveRoom : fMg fd_X3_mustHaveRoom ∧ fHok fd_X3_mustHaveRoom := ⟨fMg_of (own := RX3) fch_X3_mustHaveRoom rfl rfl fek_X3, fHok_0 rfl⟩
set_option maxRecDepth 100000 in
set_option maxHeartbeats 4000000 in
theorem fch_X3_takeNewName : fchk fd_X3_takeNewName = true := by decide +kernel
set_option maxRecDepth 100000 in
theorem fg_X3_takeNewName : fMg fd_X3_takeNewName ∧ fHok fd_X3_takeNewName := ⟨fMg_of (own := RX3) fch_X3_takeNewName rfl rfl fek_X3, fHok_0 rfl⟩
set_option maxRecDepth 100000 in
set_option maxHeartbeats 4000000 in
theorem fch_X3_readPiano : fchk fd_X3_readPiano = true := by decide +kernel
set_option maxRecDepth 100000 in
theorem fg_X3_readPiano : fMg fd_X3_readPiano ∧ fHok fd_X3_readPiano := ⟨fMg_of (own := RX3) fch_X3_readPiano rfl rfl fek_X3, fHok_0 rfl⟩
set_option maxRecDepth 100000 in
set_option maxHeartbeats 4000000 in
theorem fch_X3_readMore : fchk fd_X3_readMore = true := by decide +kernel
set_option maxRecDepth 100000 in
theorem fg_X3_readMore : fMg fd_X3_readMore ∧ fHok fd_X3_readMore := ⟨fMg_of (own := RX3) fch_X3_readMore rfl rfl fek_X3, fHok_0 rfl⟩
set_option maxRecDepth 100000 in
set_option maxHeartbeats 4000000 in
theorem fch_X3_withTold : fchk fd_X3_withTold = true := by decide +kernel
set_option maxRecDepth 100000 in
theorem fg_X3_withTold : fMg fd_X3_withTold ∧ fHok fd_X3_withTold := ⟨fMg_of (own := RX3) fch_X3_withTold rfl rfl fek_X3, fHok_0 rfl⟩
set_option maxRecDepth 100000 in
set_option maxHeartbeats 4000000 in
theorem fch_X3_readTuner : fchk fd_X3_readTuner = true := by decide +kernel
set_option maxRecDepth 100000 in
theorem fg_X3_readTuner : fMg fd_X3_readTuner ∧ fHok fd_X3_readTuner := ⟨fMg_of (own := RX3) fch_X3_readTuner rfl rfl fek_X3, fHok_0 rfl⟩
set_option maxRecDepth 100000 in
set_option maxHeartbeats 4000000 in
theorem fch_X3_readTeach : fchk fd_X3_readTeach = true := by decide +kernel
set_option maxRecDepth 100000 in
theorem fg_X3_readTeach : fMg fd_X3_readTeach ∧ fHok fd_X3_readTeach := ⟨fMg_of (own := RX3) fch_X3_readTeach rfl rfl fek_X3, fHok_0 rfl⟩
set_option maxRecDepth 100000 in
set_option maxHeartbeats 4000000 in
theorem fch_X4_init : fchk fd_X4_init = true := by decide +kernel
set_option maxRecDepth 100000 in
theorem fg_X4_init : fMg fd_X4_init ∧ fHok fd_X4_init := ⟨fMg_of (own := RX4) fch_X4_init rfl rfl fek_X4, fHok_0 rfl⟩
set_option maxRecDepth 100000 in
set_option maxHeartbeats 4000000 in
theorem fch_X4_share : fchk fd_X4_share = true := by decide +kernel
set_option maxRecDepth 100000 in
theorem fg_X4_share : fMg fd_X4_share ∧ fHok fd_X4_share := ⟨fMg_of (own := RX4) fch_X4_share rfl rfl fek_X4, fHok_0 rfl⟩
set_option maxRecDepth 100000 in
set_option maxHeartbeats 4000000 in
theorem fch_X4_sumWith : fchk fd_X4_sumWith = true := by decide +kernel
set_option maxRecDepth 100000 in
theorem fg_X4_sumWith : fMg fd_X4_sumWith ∧ fHok fd_X4_sumWith := ⟨fMg_of (own := RX4) fch_X4_sumWith rfl rfl fek_X4, fHok_0 rfl⟩
set_option maxRecDepth 100000 in
set_option maxHeartbeats 4000000 in
theorem fch_X4_greatest : fchk fd_X4_greatest = true := by decide +kernel
set_option maxRecDepth 100000 in
theorem fg_X4_greatest : fMg fd_X4_greatest ∧ fHok fd_X4_greatest := ⟨fMg_of (own := RX4) fch_X4_greatest rfl rfl fek_X4, fHok_0 rfl⟩
set_option maxRecDepth 100000 in
set_option maxHeartbeats 4000000 in
theorem fch_X4_pickTuners : fchk fd_X4_pickTuners = true := by decide +kernel
set_option maxRecDepth 100000 in
theorem fg_X4_pickTuners : fMg fd_X4_pickTuners ∧ fHok fd_X4_pickTuners := ⟨fMg_of (own := RX4) fch_X4_pickTuners rfl rfl fek_X4, fHok_0 rfl⟩
set_option maxRecDepth 100000 in
set_option maxHeartbeats 4000000 in
theorem fch_X4_firstGreatest : fchk fd_X4_firstGreatest = true := by decide +kernel
set_option maxRecDepth 100000 in
theorem fg_X4_firstGreatest : fMg fd_X4_firstGreatest ∧ fHok fd_X4_firstGreatest := ⟨fMg_of (own := RX4) fch_X4_firstGreatest rfl rfl fek_X4, fHok_0 rfl⟩
set_option maxRecDepth 100000 in
set_option maxHeartbeats 4000000 in
theorem fch_X5_init : fchk fd_X5_init = true := by decide +kernel
set_option maxRecDepth 100000 in
theorem fg_X5_init : fMg fd_X5_init ∧ fHok fd_X5_init := ⟨fMg_of (own := RX5) fch_X5_init rfl rfl fek_X5, fHok_0 rfl⟩
set_option maxRecDepth 100000 in
set_option maxHeartbeats 4000000 in
theorem fch_X5_readAll : fchk fd_X5_readAll = true := by decide +kernel
set_option maxRecDepth 100000 in
theorem fg_X5_readAll : fMg fd_X5_readAll ∧ fHok fd_X5_readAll := ⟨fMg_of (own := RX5) fch_X5_readAll rfl rfl fek_X5, fHok_0 rfl⟩
set_option maxRecDepth 100000 in
set_option maxHeartbeats 4000000 in
theorem fch_X5_readLine : fchk fd_X5_readLine = true := by decide +kernel
set_option maxRecDepth 100000 in
theorem fg_X5_readLine : fMg fd_X5_readLine ∧ fHok fd_X5_readLine := ⟨fMg_of (own := RX5) fch_X5_readLine rfl rfl fek_X5, fHok_0 rfl⟩
set_option maxRecDepth 100000 in
set_option maxHeartbeats 4000000 in
theorem fch_X5_takePiano : fchk fd_X5_takePiano = true := by decide +kernel
set_option maxRecDepth 100000 in
theorem fg_X5_takePiano : fMg fd_X5_takePiano ∧ fHok fd_X5_takePiano := ⟨fMg_of (own := RX5) fch_X5_takePiano rfl rfl fek_X5, fHok_0 rfl⟩
set_option maxRecDepth 100000 in
set_option maxHeartbeats 4000000 in
theorem fch_X5_takeTuner : fchk fd_X5_takeTuner = true := by decide +kernel
set_option maxRecDepth 100000 in
theorem fg_X5_takeTuner : fMg fd_X5_takeTuner ∧ fHok fd_X5_takeTuner := ⟨fMg_of (own := RX5) fch_X5_takeTuner rfl rfl fek_X5, fHok_0 rfl⟩
set_option maxRecDepth 100000 in
set_option maxHeartbeats 4000000 in
theorem fch_X5_readWhen : fchk fd_X5_readWhen = true := by decide +kernel
set_option maxRecDepth 100000 in
theorem fg_X5_readWhen : fMg fd_X5_readWhen ∧ fHok fd_X5_readWhen := ⟨fMg_of (own := RX5) fch_X5_readWhen rfl rfl fek_X5, fHok_0 rfl⟩
set_option maxRecDepth 100000 in
set_option maxHeartbeats 4000000 in
theorem fch_X5_readNote : fchk fd_X5_readNote = true := by decide +kernel
set_option maxRecDepth 100000 in
theorem fg_X5_readNote : fMg fd_X5_readNote ∧ fHok fd_X5_readNote := ⟨fMg_of (own := RX5) fch_X5_readNote rfl rfl fek_X5, fHok_0 rfl⟩
set_option maxRecDepth 100000 in
set_option maxHeartbeats 4000000 in
theorem fch_X6_init : fchk fd_X6_init = true := by decide +kernel
set_option maxRecDepth 100000 in
theorem fg_X6_init : fMg fd_X6_init ∧ fHok fd_X6_init := ⟨fMg_of (own := RX6) fch_X6_init rfl rfl fek_X6, fHok_0 rfl⟩
set_option maxRecDepth 100000 in
set_option maxHeartbeats 4000000 in
theorem fch_X6_copyFrom : fchk fd_X6_copyFrom = true := by decide +kernel
set_option maxRecDepth 100000 in
theorem fg_X6_copyFrom : fMg fd_X6_copyFrom ∧ fHok fd_X6_copyFrom := ⟨fMg_of (own := RX6) fch_X6_copyFrom rfl rfl fek_X6, fHok_0 rfl⟩
set_option maxRecDepth 100000 in
set_option maxHeartbeats 4000000 in
theorem fch_X6_begin : fchk fd_X6_begin = true := by decide +kernel
set_option maxRecDepth 100000 in
theorem fg_X6_begin : fMg fd_X6_begin ∧ fHok fd_X6_begin := ⟨fMg_of (own := RX6) fch_X6_begin rfl rfl fek_X6, fHok_0 rfl⟩
set_option maxRecDepth 100000 in
set_option maxHeartbeats 4000000 in
theorem fch_X6_isTold : fchk fd_X6_isTold = true := by decide +kernel
set_option maxRecDepth 100000 in
theorem fg_X6_isTold : fMg fd_X6_isTold ∧ fHok fd_X6_isTold := ⟨fMg_of (own := RX6) fch_X6_isTold rfl rfl fek_X6, fHok_0 rfl⟩
set_option maxRecDepth 100000 in
set_option maxHeartbeats 4000000 in
theorem fch_X6_leftOf : fchk fd_X6_leftOf = true := by decide +kernel
set_option maxRecDepth 100000 in
theorem fg_X6_leftOf : fMg fd_X6_leftOf ∧ fHok fd_X6_leftOf := ⟨fMg_of (own := RX6) fch_X6_leftOf rfl rfl fek_X6, fHok_0 rfl⟩
set_option maxRecDepth 100000 in
set_option maxHeartbeats 4000000 in
theorem fch_X6_isKnown : fchk fd_X6_isKnown = true := by decide +kernel
set_option maxRecDepth 100000 in
theorem fg_X6_isKnown : fMg fd_X6_isKnown ∧ fHok fd_X6_isKnown := ⟨fMg_of (own := RX6) fch_X6_isKnown rfl rfl fek_X6, fHok_0 rfl⟩
set_option maxRecDepth 100000 in
set_option maxHeartbeats 4000000 in
theorem fch_X6_isOf : fchk fd_X6_isOf = true := by decide +kernel
set_option maxRecDepth 100000 in
theorem fg_X6_isOf : fMg fd_X6_isOf ∧ fHok fd_X6_isOf := ⟨fMg_of (own := RX6) fch_X6_isOf rfl rfl fek_X6, fHok_0 rfl⟩
