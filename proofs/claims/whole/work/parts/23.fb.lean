set_option maxRecDepth 100000 in
set_option maxHeartbeats 4000000 in
theorem fch_X6_latest : fchk fd_X6_latest = true := by decide +kernel
set_option maxRecDepth 100000 in
theorem fg_X6_latest : fMg fd_X6_latest ∧ fHok fd_X6_latest := ⟨fMg_of (own := RX6) fch_X6_latest rfl rfl fek_X6, fHok_0 rfl⟩
set_option maxRecDepth 100000 in
set_option maxHeartbeats 4000000 in
theorem fch_X6_hasWithin : fchk fd_X6_hasWithin = true := by decide +kernel
set_option maxRecDepth 100000 in
theorem fg_X6_hasWithin : fMg fd_X6_hasWithin ∧ fHok fd_X6_hasWithin := ⟨fMg_of (own := RX6) fch_X6_hasWithin rfl rfl fek_X6, fHok_0 rfl⟩
set_option maxRecDepth 100000 in
set_option maxHeartbeats 4000000 in
theorem fch_X6_concertsTold : fchk fd_X6_concertsTold = true := by decide +kernel
set_option maxRecDepth 100000 in
theorem fg_X6_concertsTold : fMg fd_X6_concertsTold ∧ fHok fd_X6_concertsTold := ⟨fMg_of (own := RX6) fch_X6_concertsTold rfl rfl fek_X6, fHok_0 rfl⟩
set_option maxRecDepth 100000 in
set_option maxHeartbeats 4000000 in
theorem fch_X7_init : fchk fd_X7_init = true := by decide +kernel
set_option maxRecDepth 100000 in
theorem fg_X7_init : fMg fd_X7_init ∧ fHok fd_X7_init := ⟨fMg_of (own := RX7) fch_X7_init rfl rfl fek_X7, fHok_0 rfl⟩
set_option maxRecDepth 100000 in
set_option maxHeartbeats 4000000 in
theorem fch_X7_weightOf : fchk fd_X7_weightOf = true := by decide +kernel
set_option maxRecDepth 100000 in
theorem fg_X7_weightOf : fMg fd_X7_weightOf ∧ fHok fd_X7_weightOf := ⟨fMg_of (own := RX7) fch_X7_weightOf rfl rfl fek_X7, fHok_0 rfl⟩
set_option maxRecDepth 100000 in
set_option maxHeartbeats 4000000 in
theorem fch_X7_place : fchk fd_X7_place = true := by decide +kernel
set_option maxRecDepth 100000 in
theorem fg_X7_place : fMg fd_X7_place ∧ fHok fd_X7_place := ⟨fMg_of (own := RX7) fch_X7_place rfl rfl fek_X7, fHok_0 rfl⟩
set_option maxRecDepth 100000 in
set_option maxHeartbeats 4000000 in
theorem fch_X7_weigh : fchk fd_X7_weigh = true := by decide +kernel
set_option maxRecDepth 100000 in
theorem fg_X7_weigh : fMg fd_X7_weigh ∧ fHok fd_X7_weigh := ⟨fMg_of (own := RX7) fch_X7_weigh rfl rfl fek_X7, fHok_0 rfl⟩
set_option maxRecDepth 100000 in
set_option maxHeartbeats 4000000 in
theorem fch_X7_liveWith : fchk fd_X7_liveWith = true := by decide +kernel
set_option maxRecDepth 100000 in
theorem fg_X7_liveWith : fMg fd_X7_liveWith ∧ fHok fd_X7_liveWith := ⟨fMg_of (own := RX7) fch_X7_liveWith rfl rfl fek_X7, fHok_0 rfl⟩
set_option maxRecDepth 100000 in
set_option maxHeartbeats 4000000 in
theorem fch_X7_sortPianos : fchk fd_X7_sortPianos = true := by decide +kernel
set_option maxRecDepth 100000 in
theorem fg_X7_sortPianos : fMg fd_X7_sortPianos ∧ fHok fd_X7_sortPianos := ⟨fMg_of (own := RX7) fch_X7_sortPianos rfl rfl fek_X7, fHok_0 rfl⟩
set_option maxRecDepth 100000 in
set_option maxHeartbeats 4000000 in
theorem fch_X7_minutes : fchk fd_X7_minutes = true := by decide +kernel
set_option maxRecDepth 100000 in
theorem fg_X7_minutes : fMg fd_X7_minutes ∧ fHok fd_X7_minutes := ⟨fMg_of (own := RX7) fch_X7_minutes rfl rfl fek_X7, fHok_0 rfl⟩
set_option maxRecDepth 100000 in
set_option maxHeartbeats 4000000 in
theorem fch_X7_doneAt : fchk fd_X7_doneAt = true := by decide +kernel
set_option maxRecDepth 100000 in
theorem fg_X7_doneAt : fMg fd_X7_doneAt ∧ fHok fd_X7_doneAt := ⟨fMg_of (own := RX7) fch_X7_doneAt rfl rfl fek_X7, fHok_0 rfl⟩
set_option maxRecDepth 100000 in
set_option maxHeartbeats 4000000 in
theorem fch_X7_fillHomes : fchk fd_X7_fillHomes = true := by decide +kernel
set_option maxRecDepth 100000 in
theorem fg_X7_fillHomes : fMg fd_X7_fillHomes ∧ fHok fd_X7_fillHomes := ⟨fMg_of (own := RX7) fch_X7_fillHomes rfl rfl fek_X7, fHok_0 rfl⟩
set_option maxRecDepth 100000 in
set_option maxHeartbeats 4000000 in
theorem fch_X7_soonestDone : fchk fd_X7_soonestDone = true := by decide +kernel
set_option maxRecDepth 100000 in
theorem fg_X7_soonestDone : fMg fd_X7_soonestDone ∧ fHok fd_X7_soonestDone := ⟨fMg_of (own := RX7) fch_X7_soonestDone rfl rfl fek_X7, fHok_0 rfl⟩
set_option maxRecDepth 100000 in
set_option maxHeartbeats 4000000 in
theorem fch_X7_best : fchk fd_X7_best = true := by decide +kernel
set_option maxRecDepth 100000 in
theorem fg_X7_best : fMg fd_X7_best ∧ fHok fd_X7_best := ⟨fMg_of (own := RX7) fch_X7_best rfl rfl fek_X7, fHok_0 rfl⟩
set_option maxRecDepth 100000 in
set_option maxHeartbeats 4000000 in
theorem fch_X7_fillLatest : fchk fd_X7_fillLatest = true := by decide +kernel
set_option maxRecDepth 100000 in
theorem fg_X7_fillLatest : fMg fd_X7_fillLatest ∧ fHok fd_X7_fillLatest := ⟨fMg_of (own := RX7) fch_X7_fillLatest rfl rfl fek_X7, fHok_0 rfl⟩
set_option maxRecDepth 100000 in
set_option maxHeartbeats 4000000 in
theorem fch_X7_latestDone : fchk fd_X7_latestDone = true := by decide +kernel
set_option maxRecDepth 100000 in
theorem fg_X7_latestDone : fMg fd_X7_latestDone ∧ fHok fd_X7_latestDone := ⟨fMg_of (own := RX7) fch_X7_latestDone rfl rfl fek_X7, fHok_0 rfl⟩
set_option maxRecDepth 100000 in
set_option maxHeartbeats 4000000 in
theorem fch_X7_pickOrder : fchk fd_X7_pickOrder = true := by decide +kernel
set_option maxRecDepth 100000 in
theorem fg_X7_pickOrder : fMg fd_X7_pickOrder ∧ fHok fd_X7_pickOrder := ⟨fMg_of (own := RX7) fch_X7_pickOrder rfl rfl fek_X7, fHok_0 rfl⟩
set_option maxRecDepth 100000 in
set_option maxHeartbeats 4000000 in
theorem fch_X7_firstNext : fchk fd_X7_firstNext = true := by decide +kernel
set_option maxRecDepth 100000 in
theorem fg_X7_firstNext : fMg fd_X7_firstNext ∧ fHok fd_X7_firstNext := ⟨fMg_of (own := RX7) fch_X7_firstNext rfl rfl fek_X7, fHok_0 rfl⟩
set_option maxRecDepth 100000 in
set_option maxHeartbeats 4000000 in
theorem fch_X7_canGoOn : fchk fd_X7_canGoOn = true := by decide +kernel
set_option maxRecDepth 100000 in
theorem fg_X7_canGoOn : fMg fd_X7_canGoOn ∧ fHok fd_X7_canGoOn := ⟨fMg_of (own := RX7) fch_X7_canGoOn rfl rfl fek_X7, fHok_0 rfl⟩
set_option maxRecDepth 100000 in
set_option maxHeartbeats 4000000 in
theorem fch_X7_walkAsTold : fchk fd_X7_walkAsTold = true := by decide +kernel
set_option maxRecDepth 100000 in
theorem fg_X7_walkAsTold : fMg fd_X7_walkAsTold ∧ fHok fd_X7_walkAsTold := ⟨fMg_of (own := RX7) fch_X7_walkAsTold rfl rfl fek_X7, fHok_0 rfl⟩
set_option maxRecDepth 100000 in
set_option maxHeartbeats 4000000 in
theorem fch_X7_bestOfTwo : fchk fd_X7_bestOfTwo = true := by decide +kernel
set_option maxRecDepth 100000 in
theorem fg_X7_bestOfTwo : fMg fd_X7_bestOfTwo ∧ fHok fd_X7_bestOfTwo := ⟨fMg_of (own := RX7) fch_X7_bestOfTwo rfl rfl fek_X7, fHok_0 rfl⟩
set_option maxRecDepth 100000 in
set_option maxHeartbeats 4000000 in
theorem fch_X7_fillOtherBest : fchk fd_X7_fillOtherBest = true := by decide +kernel
set_option maxRecDepth 100000 in
theorem fg_X7_fillOtherBest : fMg fd_X7_fillOtherBest ∧ fHok fd_X7_fillOtherBest := ⟨fMg_of (own := RX7) fch_X7_fillOtherBest rfl rfl fek_X7, fHok_0 rfl⟩
set_option maxRecDepth 100000 in
set_option maxHeartbeats 4000000 in
theorem fch_X7_fewestTuners : fchk fd_X7_fewestTuners = true := by decide +kernel
set_option maxRecDepth 100000 in
theorem fg_X7_fewestTuners : fMg fd_X7_fewestTuners ∧ fHok fd_X7_fewestTuners := ⟨fMg_of (own := RX7) fch_X7_fewestTuners rfl rfl fek_X7, fHok_0 rfl⟩
set_option maxRecDepth 100000 in
set_option maxHeartbeats 4000000 in
theorem fch_X7_countWays : fchk fd_X7_countWays = true := by decide +kernel
set_option maxRecDepth 100000 in
theorem fg_X7_countWays : fMg fd_X7_countWays ∧ fHok fd_X7_countWays := ⟨fMg_of (own := RX7) fch_X7_countWays rfl rfl fek_X7, fHok_0 rfl⟩
set_option maxRecDepth 100000 in
set_option maxHeartbeats 4000000 in
theorem fch_X7_hasAll : fchk fd_X7_hasAll = true := by decide +kernel
set_option maxRecDepth 100000 in
theorem fg_X7_hasAll : fMg fd_X7_hasAll ∧ fHok fd_X7_hasAll := ⟨fMg_of (own := RX7) fch_X7_hasAll rfl rfl fek_X7, fHok_0 rfl⟩
set_option maxRecDepth 100000 in
set_option maxHeartbeats 4000000 in
theorem fch_X8_init : fchk fd_X8_init = true := by decide +kernel
set_option maxRecDepth 100000 in
theorem fg_X8_init : fMg fd_X8_init ∧ fHok fd_X8_init := ⟨fMg_of (own := RX8) fch_X8_init rfl rfl fek_X8, fHok_0 rfl⟩
set_option maxRecDepth 100000 in
set_option maxHeartbeats 4000000 in
theorem fch_X8_look : fchk fd_X8_look = true := by decide +kernel
set_option maxRecDepth 100000 in
theorem fg_X8_look : fMg fd_X8_look ∧ fHok fd_X8_look := ⟨fMg_of (own := RX8) fch_X8_look rfl rfl fek_X8, fHok_0 rfl⟩
set_option maxRecDepth 100000 in
set_option maxHeartbeats 4000000 in
theorem fch_X8_sumSlipTimes : fchk fd_X8_sumSlipTimes = true := by decide +kernel
set_option maxRecDepth 100000 in
theorem fg_X8_sumSlipTimes : fMg fd_X8_sumSlipTimes ∧ fHok fd_X8_sumSlipTimes := ⟨fMg_of (own := RX8) fch_X8_sumSlipTimes rfl rfl fek_X8, fHok_0 rfl⟩
set_option maxRecDepth 100000 in
set_option maxHeartbeats 4000000 in
theorem fch_X8_sumStoveFall : fchk fd_X8_sumStoveFall = true := by decide +kernel
set_option maxRecDepth 100000 in
theorem fg_X8_sumStoveFall : fMg fd_X8_sumStoveFall ∧ fHok fd_X8_sumStoveFall := ⟨fMg_of (own := RX8) fch_X8_sumStoveFall rfl rfl fek_X8, fHok_0 rfl⟩
set_option maxRecDepth 100000 in
set_option maxHeartbeats 4000000 in
theorem fch_X8_wasTuned : fchk fd_X8_wasTuned = true := by decide +kernel
set_option maxRecDepth 100000 in
theorem fg_X8_wasTuned : fMg fd_X8_wasTuned ∧ fHok fd_X8_wasTuned := ⟨fMg_of (own := RX8) fch_X8_wasTuned rfl rfl fek_X8, fHok_0 rfl⟩
set_option maxRecDepth 100000 in
set_option maxHeartbeats 4000000 in
theorem fch_X8_tunedOn : fchk fd_X8_tunedOn = true := by decide +kernel
set_option maxRecDepth 100000 in
theorem fg_X8_tunedOn : fMg fd_X8_tunedOn ∧ fHok fd_X8_tunedOn := ⟨fMg_of (own := RX8) fch_X8_tunedOn rfl rfl fek_X8, fHok_0 rfl⟩
set_option maxRecDepth 100000 in
set_option maxHeartbeats 4000000 in
theorem fch_X8_leftAt : fchk fd_X8_leftAt = true := by decide +kernel
set_option maxRecDepth 100000 in
theorem fg_X8_leftAt : fMg fd_X8_leftAt ∧ fHok fd_X8_leftAt := ⟨fMg_of (own := RX8) fch_X8_leftAt rfl rfl fek_X8, fHok_0 rfl⟩
set_option maxRecDepth 100000 in
set_option maxHeartbeats 4000000 in
theorem fch_X8_ear : fchk fd_X8_ear = true := by decide +kernel
set_option maxRecDepth 100000 in
theorem fg_X8_ear : fMg fd_X8_ear ∧ fHok fd_X8_ear := ⟨fMg_of (own := RX8) fch_X8_ear rfl rfl fek_X8, fHok_0 rfl⟩
set_option maxRecDepth 100000 in
set_option maxHeartbeats 4000000 in
theorem fch_X8_offsetAt : fchk fd_X8_offsetAt = true := by decide +kernel
set_option maxRecDepth 100000 in
theorem fg_X8_offsetAt : fMg fd_X8_offsetAt ∧ fHok fd_X8_offsetAt := ⟨fMg_of (own := RX8) fch_X8_offsetAt rfl rfl fek_X8, fHok_0 rfl⟩
set_option maxRecDepth 100000 in
set_option maxHeartbeats 4000000 in
theorem fch_X8_offsetUndamped : fchk fd_X8_offsetUndamped = true := by decide +kernel
set_option maxRecDepth 100000 in
theorem fg_X8_offsetUndamped : fMg fd_X8_offsetUndamped ∧ fHok fd_X8_offsetUndamped := ⟨fMg_of (own := RX8) fch_X8_offsetUndamped rfl rfl fek_X8, fHok_0 rfl⟩
set_option maxRecDepth 100000 in
set_option maxHeartbeats 4000000 in
theorem fch_X8_dampFrom : fchk fd_X8_dampFrom = true := by decide +kernel
set_option maxRecDepth 100000 in
theorem fg_X8_dampFrom : fMg fd_X8_dampFrom ∧ fHok fd_X8_dampFrom := ⟨fMg_of (own := RX8) fch_X8_dampFrom rfl rfl fek_X8, fHok_0 rfl⟩
set_option maxRecDepth 100000 in
set_option maxHeartbeats 4000000 in
theorem fch_X8_greatestAt : fchk fd_X8_greatestAt = true := by decide +kernel
set_option maxRecDepth 100000 in
theorem fg_X8_greatestAt : fMg fd_X8_greatestAt ∧ fHok fd_X8_greatestAt := ⟨fMg_of (own := RX8) fch_X8_greatestAt rfl rfl fek_X8, fHok_0 rfl⟩
set_option maxRecDepth 100000 in
set_option maxHeartbeats 4000000 in
theorem fch_X8_greatestUndamped : fchk fd_X8_greatestUndamped = true := by decide +kernel
set_option maxRecDepth 100000 in
theorem fg_X8_greatestUndamped : fMg fd_X8_greatestUndamped ∧ fHok fd_X8_greatestUndamped := ⟨fMg_of (own := RX8) fch_X8_greatestUndamped rfl rfl fek_X8, fHok_0 rfl⟩
set_option maxRecDepth 100000 in
set_option maxHeartbeats 4000000 in
theorem fch_X8_isBeyond : fchk fd_X8_isBeyond = true := by decide +kernel
set_option maxRecDepth 100000 in
theorem fg_X8_isBeyond : fMg fd_X8_isBeyond ∧ fHok fd_X8_isBeyond := ⟨fMg_of (own := RX8) fch_X8_isBeyond rfl rfl fek_X8, fHok_0 rfl⟩
set_option maxRecDepth 100000 in
set_option maxHeartbeats 4000000 in
theorem fch_X8_firstBeyond : fchk fd_X8_firstBeyond = true := by decide +kernel
set_option maxRecDepth 100000 in
theorem fg_X8_firstBeyond : fMg fd_X8_firstBeyond ∧ fHok fd_X8_firstBeyond := ⟨fMg_of (own := RX8) fch_X8_firstBeyond rfl rfl fek_X8, fHok_0 rfl⟩
set_option maxRecDepth 100000 in
set_option maxHeartbeats 4000000 in
theorem fch_X8_tuningsFrom : fchk fd_X8_tuningsFrom = true := by decide +kernel
set_option maxRecDepth 100000 in
theorem fg_X8_tuningsFrom : fMg fd_X8_tuningsFrom ∧ fHok fd_X8_tuningsFrom := ⟨fMg_of (own := RX8) fch_X8_tuningsFrom rfl rfl fek_X8, fHok_0 rfl⟩
set_option maxRecDepth 100000 in
set_option maxHeartbeats 4000000 in
theorem fch_X9_init : fchk fd_X9_init = true := by decide +kernel
set_option maxRecDepth 100000 in
theorem fg_X9_init : fMg fd_X9_init ∧ fHok fd_X9_init := ⟨fMg_of (own := RX9) fch_X9_init rfl rfl fek_X9, fHok_0 rfl⟩
set_option maxRecDepth 100000 in
set_option maxHeartbeats 4000000 in
theorem fch_X9_pack : fchk fd_X9_pack = true := by decide +kernel
set_option maxRecDepth 100000 in
theorem fg_X9_pack : fMg fd_X9_pack ∧ fHok fd_X9_pack := ⟨fMg_of (own := RX9) fch_X9_pack rfl rfl fek_X9, fHok_0 rfl⟩
set_option maxRecDepth 100000 in
set_option maxHeartbeats 4000000 in
theorem fch_X9_mostOf : fchk fd_X9_mostOf = true := by decide +kernel
set_option maxRecDepth 100000 in
theorem fg_X9_mostOf : fMg fd_X9_mostOf ∧ fHok fd_X9_mostOf := ⟨fMg_of (own := RX9) fch_X9_mostOf rfl rfl fek_X9, fHok_0 rfl⟩
set_option maxRecDepth 100000 in
set_option maxHeartbeats 4000000 in
theorem fch_X9_tryRest : fchk fd_X9_tryRest = true := by decide +kernel
set_option maxRecDepth 100000 in
theorem fg_X9_tryRest : fMg fd_X9_tryRest ∧ fHok fd_X9_tryRest := ⟨fMg_of (own := RX9) fch_X9_tryRest rfl rfl fek_X9, fHok_0 rfl⟩
set_option maxRecDepth 100000 in
set_option maxHeartbeats 4000000 in
theorem fch_X9_countParts : fchk fd_X9_countParts = true := by decide +kernel
set_option maxRecDepth 100000 in
theorem fg_X9_countParts : fMg fd_X9_countParts ∧ fHok fd_X9_countParts := ⟨fMg_of (own := RX9) fch_X9_countParts rfl rfl fek_X9, fHok_0 rfl⟩
set_option maxRecDepth 100000 in
set_option maxHeartbeats 4000000 in
theorem fch_X9_chanceWith : fchk fd_X9_chanceWith = true := by decide +kernel
set_option maxRecDepth 100000 in
theorem fg_X9_chanceWith : fMg fd_X9_chanceWith ∧ fHok fd_X9_chanceWith := ⟨fMg_of (own := RX9) fch_X9_chanceWith rfl rfl fek_X9, fHok_0 rfl⟩
set_option maxRecDepth 100000 in
set_option maxHeartbeats 4000000 in
theorem fch_X10_init : fchk fd_X10_init = true := by decide +kernel
set_option maxRecDepth 100000 in
theorem fg_X10_init : fMg fd_X10_init ∧ fHok fd_X10_init := ⟨fMg_of (own := RX10) fch_X10_init rfl rfl fek_X10, fHok_0 rfl⟩
set_option maxRecDepth 100000 in
set_option maxHeartbeats 4000000 in
theorem fch_X10_withLetter : fchk fd_X10_withLetter = true := by decide +kernel
set_option maxRecDepth 100000 in
theorem fg_X10_withLetter : fMg fd_X10_withLetter ∧ fHok fd_X10_withLetter := ⟨fMg_of (own := RX10) fch_X10_withLetter rfl rfl fek_X10, fHok_0 rfl⟩
set_option maxRecDepth 100000 in
set_option maxHeartbeats 4000000 in
theorem fch_X10_hasRoom : fchk fd_X10_hasRoom = true := by decide +kernel
set_option maxRecDepth 100000 in
theorem fg_X10_hasRoom : fMg fd_X10_hasRoom ∧ fHok fd_X10_hasRoom := ⟨fMg_of (own := RX10) fch_X10_hasRoom rfl rfl fek_X10, fHok_0 rfl⟩
set_option maxRecDepth 100000 in
set_option maxHeartbeats 4000000 in
theorem fch_X10_add : fchk fd_X10_add = true := by decide +kernel
set_option maxRecDepth 100000 in
theorem fg_X10_add : fMg fd_X10_add ∧ fHok fd_X10_add := ⟨fMg_of (own := RX10) fch_X10_add rfl rfl fek_X10, fHok_0 rfl⟩
set_option maxRecDepth 100000 in
set_option maxHeartbeats 4000000 in
theorem fch_X10_isCut : fchk fd_X10_isCut = true := by decide +kernel
set_option maxRecDepth 100000 in
theorem fg_X10_isCut : fMg fd_X10_isCut ∧ fHok fd_X10_isCut := ⟨fMg_of (own := RX10) fch_X10_isCut rfl rfl fek_X10, fHok_0 rfl⟩
set_option maxRecDepth 100000 in
set_option maxHeartbeats 4000000 in
theorem fch_X10_empty : fchk fd_X10_empty = true := by decide +kernel
set_option maxRecDepth 100000 in
theorem fg_X10_empty : fMg fd_X10_empty ∧ fHok fd_X10_empty := ⟨fMg_of (own := RX10) fch_X10_empty rfl rfl fek_X10, fHok_0 rfl⟩
set_option maxRecDepth 100000 in
set_option maxHeartbeats 4000000 in
theorem fch_X10_movePianos : fchk fd_X10_movePianos = true := by decide +kernel
set_option maxRecDepth 100000 in
theorem fg_X10_movePianos : fMg fd_X10_movePianos ∧ fHok fd_X10_movePianos := ⟨fMg_of (own := RX10) fch_X10_movePianos rfl rfl fek_X10, fHok_0 rfl⟩
set_option maxRecDepth 100000 in
set_option maxHeartbeats 4000000 in
theorem fch_X10_begin : fchk fd_X10_begin = true := by decide +kernel
set_option maxRecDepth 100000 in
theorem fg_X10_begin : fMg fd_X10_begin ∧ fHok fd_X10_begin := ⟨fMg_of (own := RX10) fch_X10_begin rfl rfl fek_X10, fHok_0 rfl⟩
set_option maxRecDepth 100000 in
set_option maxHeartbeats 4000000 in
theorem fch_X10_take : fchk fd_X10_take = true := by decide +kernel
set_option maxRecDepth 100000 in
theorem fg_X10_take : fMg fd_X10_take ∧ fHok fd_X10_take := ⟨fMg_of (own := RX10) fch_X10_take rfl rfl fek_X10, fHok_0 rfl⟩
set_option maxRecDepth 100000 in
set_option maxHeartbeats 4000000 in
theorem fch_X10_takeRun : fchk fd_X10_takeRun = true := by decide +kernel
set_option maxRecDepth 100000 in
theorem fg_X10_takeRun : fMg fd_X10_takeRun ∧ fHok fd_X10_takeRun := ⟨fMg_of (own := RX10) fch_X10_takeRun rfl rfl fek_X10, fHok_0 rfl⟩
set_option maxRecDepth 100000 in
set_option maxHeartbeats 4000000 in
theorem fch_X10_isBlank : fchk fd_X10_isBlank = true := by decide +kernel
set_option maxRecDepth 100000 in
theorem fg_X10_isBlank : fMg fd_X10_isBlank ∧ fHok fd_X10_isBlank := ⟨fMg_of (own := RX10) fch_X10_isBlank rfl rfl fek_X10, fHok_0 rfl⟩
set_option maxRecDepth 100000 in
set_option maxHeartbeats 4000000 in
theorem fch_X10_isLetter : fchk fd_X10_isLetter = true := by decide +kernel
set_option maxRecDepth 100000 in
theorem fg_X10_isLetter : fMg fd_X10_isLetter ∧ fHok fd_X10_isLetter := ⟨fMg_of (own := RX10) fch_X10_isLetter rfl rfl fek_X10, fHok_0 rfl⟩
set_option maxRecDepth 100000 in
set_option maxHeartbeats 4000000 in
theorem fch_X10_isDigit : fchk fd_X10_isDigit = true := by decide +kernel
set_option maxRecDepth 100000 in
theorem fg_X10_isDigit : fMg fd_X10_isDigit ∧ fHok fd_X10_isDigit := ⟨fMg_of (own := RX10) fch_X10_isDigit rfl rfl fek_X10, fHok_0 rfl⟩
set_option maxRecDepth 100000 in
set_option maxHeartbeats 4000000 in
theorem fch_X10_takeNumber : fchk fd_X10_takeNumber = true := by decide +kernel
set_option maxRecDepth 100000 in
theorem fg_X10_takeNumber : fMg fd_X10_takeNumber ∧ fHok fd_X10_takeNumber := ⟨fMg_of (own := RX10) fch_X10_takeNumber rfl rfl fek_X10, fHok_0 rfl⟩
set_option maxRecDepth 100000 in
set_option maxHeartbeats 4000000 in
theorem fch_X10_takeSigned : fchk fd_X10_takeSigned = true := by decide +kernel
set_option maxRecDepth 100000 in
theorem fg_X10_takeSigned : fMg fd_X10_takeSigned ∧ fHok fd_X10_takeSigned := ⟨fMg_of (own := RX10) fch_X10_takeSigned rfl rfl fek_X10, fHok_0 rfl⟩
set_option maxRecDepth 100000 in
set_option maxHeartbeats 4000000 in
theorem fch_X10_numberHere : fchk fd_X10_numberHere = true := by decide +kernel
set_option maxRecDepth 100000 in
theorem fg_X10_numberHere : fMg fd_X10_numberHere ∧ fHok fd_X10_numberHere := ⟨fMg_of (own := RX10) fch_X10_numberHere rfl rfl fek_X10, fHok_0 rfl⟩
set_option maxRecDepth 100000 in
set_option maxHeartbeats 4000000 in
theorem fch_X10_keywordHere : fchk fd_X10_keywordHere = true := by decide +kernel
set_option maxRecDepth 100000 in
theorem fg_X10_keywordHere : fMg fd_X10_keywordHere ∧ fHok fd_X10_keywordHere := ⟨fMg_of (own := RX10) fch_X10_keywordHere rfl rfl fek_X10, fHok_0 rfl⟩
set_option maxRecDepth 100000 in
set_option maxHeartbeats 4000000 in
theorem fch_X10_takeKind : fchk fd_X10_takeKind = true := by decide +kernel
set_option maxRecDepth 100000 in
theorem fg_X10_takeKind : fMg fd_X10_takeKind ∧ fHok fd_X10_takeKind := ⟨fMg_of (own := RX10) fch_X10_takeKind rfl rfl fek_X10, fHok_0 rfl⟩
set_option maxRecDepth 100000 in
set_option maxHeartbeats 4000000 in
theorem fch_X10_takeName : fchk fd_X10_takeName = true := by decide +kernel
set_option maxRecDepth 100000 in
theorem fg_X10_takeName : fMg fd_X10_takeName ∧ fHok fd_X10_takeName := ⟨fMg_of (own := RX10) fch_X10_takeName rfl rfl fek_X10, fHok_0 rfl⟩
set_option maxRecDepth 100000 in
set_option maxHeartbeats 4000000 in
theorem fch_X10_fail : fchk fd_X10_fail = true := by decide +kernel
set_option maxRecDepth 100000 in
theorem fg_X10_fail : fMg fd_X10_fail ∧ fHok fd_X10_fail := ⟨fMg_of (own := RX10) fch_X10_fail rfl rfl fek_X10, fHok_0 rfl⟩
set_option maxRecDepth 100000 in
set_option maxHeartbeats 4000000 in
theorem fch_X11_init : fchk fd_X11_init = true := by decide +kernel
set_option maxRecDepth 100000 in
theorem fg_X11_init : fMg fd_X11_init ∧ fHok fd_X11_init := ⟨fMg_of (own := RX11) fch_X11_init rfl rfl fek_X11, fHok_0 rfl⟩
set_option maxRecDepth 100000 in
set_option maxHeartbeats 4000000 in
theorem fch_X11_feed : fchk fd_X11_feed = true := by decide +kernel
set_option maxRecDepth 100000 in
theorem fg_X11_feed : fMg fd_X11_feed ∧ fHok fd_X11_feed := ⟨fMg_of (own := RX11) fch_X11_feed rfl rfl fek_X11, fHok_0 rfl⟩
set_option maxRecDepth 100000 in
set_option maxHeartbeats 4000000 in
theorem fch_X11_end : fchk fd_X11_end = true := by decide +kernel
set_option maxRecDepth 100000 in
theorem fg_X11_end : fMg fd_X11_end ∧ fHok fd_X11_end := ⟨fMg_of (own := RX11) fch_X11_end rfl rfl fek_X11, fHok_0 rfl⟩
set_option maxRecDepth 100000 in
set_option maxHeartbeats 4000000 in
theorem fch_X11_house : fchk fd_X11_house = true := by decide +kernel
set_option maxRecDepth 100000 in
theorem fg_X11_house : fMg fd_X11_house ∧ fHok fd_X11_house := ⟨fMg_of (own := RX11) fch_X11_house rfl rfl fek_X11, fHok_1 rfl (by decide) ((fmj_3 130 rfl rfl))⟩
set_option maxRecDepth 100000 in
set_option maxHeartbeats 4000000 in
theorem fch_X11_records : fchk fd_X11_records = true := by decide +kernel
set_option maxRecDepth 100000 in
theorem fg_X11_records : fMg fd_X11_records ∧ fHok fd_X11_records := ⟨fMg_of (own := RX11) fch_X11_records rfl rfl fek_X11, fHok_1 rfl (by decide) ((fmj_3 130 rfl rfl))⟩
set_option maxRecDepth 100000 in
set_option maxHeartbeats 4000000 in
theorem fch_X11_fault : fchk fd_X11_fault = true := by decide +kernel
set_option maxRecDepth 100000 in
theorem fg_X11_fault : fMg fd_X11_fault ∧ fHok fd_X11_fault := ⟨fMg_of (own := RX11) fch_X11_fault rfl rfl fek_X11, fHok_0 rfl⟩
set_option maxRecDepth 100000 in
set_option maxHeartbeats 4000000 in
theorem fch_X11_piano : fchk fd_X11_piano = true := by decide +kernel
set_option maxRecDepth 100000 in
theorem fg_X11_piano : fMg fd_X11_piano ∧ fHok fd_X11_piano := ⟨fMg_of (own := RX11) fch_X11_piano rfl rfl fek_X11, fHok_0 rfl⟩
set_option maxRecDepth 100000 in
set_option maxHeartbeats 4000000 in
theorem fch_X11_week : fchk fd_X11_week = true := by decide +kernel
set_option maxRecDepth 100000 in
theorem fg_X11_week : fMg fd_X11_week ∧ fHok fd_X11_week := ⟨fMg_of (own := RX11) fch_X11_week rfl rfl fek_X11, fHok_0 rfl⟩
set_option maxRecDepth 100000 in
set_option maxHeartbeats 4000000 in
theorem fch_X11_beats : fchk fd_X11_beats = true := by decide +kernel
set_option maxRecDepth 100000 in
theorem fg_X11_beats : fMg fd_X11_beats ∧ fHok fd_X11_beats := ⟨fMg_of (own := RX11) fch_X11_beats rfl rfl fek_X11, fHok_0 rfl⟩
set_option maxRecDepth 100000 in
set_option maxHeartbeats 4000000 in
theorem fch_X11_wolf : fchk fd_X11_wolf = true := by decide +kernel
set_option maxRecDepth 100000 in
theorem fg_X11_wolf : fMg fd_X11_wolf ∧ fHok fd_X11_wolf := ⟨fMg_of (own := RX11) fch_X11_wolf rfl rfl fek_X11, fHok_0 rfl⟩
set_option maxRecDepth 100000 in
set_option maxHeartbeats 4000000 in
theorem fch_X11_offset : fchk fd_X11_offset = true := by decide +kernel
set_option maxRecDepth 100000 in
theorem fg_X11_offset : fMg fd_X11_offset ∧ fHok fd_X11_offset := ⟨fMg_of (own := RX11) fch_X11_offset rfl rfl fek_X11, fHok_0 rfl⟩
set_option maxRecDepth 100000 in
set_option maxHeartbeats 4000000 in
theorem fch_X11_off : fchk fd_X11_off = true := by decide +kernel
set_option maxRecDepth 100000 in
theorem fg_X11_off : fMg fd_X11_off ∧ fHok fd_X11_off := ⟨fMg_of (own := RX11) fch_X11_off rfl rfl fek_X11, fHok_0 rfl⟩
set_option maxRecDepth 100000 in
set_option maxHeartbeats 4000000 in
theorem fch_X11_due : fchk fd_X11_due = true := by decide +kernel
set_option maxRecDepth 100000 in
theorem fg_X11_due : fMg fd_X11_due ∧ fHok fd_X11_due := ⟨fMg_of (own := RX11) fch_X11_due rfl rfl fek_X11, fHok_0 rfl⟩
set_option maxRecDepth 100000 in
set_option maxHeartbeats 4000000 in
theorem fch_X11_slips : fchk fd_X11_slips = true := by decide +kernel
set_option maxRecDepth 100000 in
theorem fg_X11_slips : fMg fd_X11_slips ∧ fHok fd_X11_slips := ⟨fMg_of (own := RX11) fch_X11_slips rfl rfl fek_X11, fHok_0 rfl⟩
