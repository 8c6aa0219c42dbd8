set_option maxRecDepth 100000 in
theorem fin_0 : Cond.initialized "TunerRounds$Books" ∈ fTb := (fmj_1 15 rfl rfl)
set_option maxRecDepth 100000 in
theorem fmo_X0_init : fMok fd_X0_init := ⟨(fmj_2 170 rfl rfl), fin_0, by decide +kernel, ⟨by decide +kernel, by decide +kernel⟩, by decide +kernel⟩
set_option maxRecDepth 100000 in
theorem fmo_X0_unreadyConcerts : fMok fd_X0_unreadyConcerts := ⟨(fmj_6 40 rfl rfl), fin_0, by decide +kernel, ⟨by decide +kernel, by decide +kernel⟩, by decide +kernel⟩
set_option maxRecDepth 100000 in
theorem fmo_X0_isReady : fMok fd_X0_isReady := ⟨(fmj_6 45 rfl rfl), fin_0, by decide +kernel, ⟨by decide +kernel, by decide +kernel⟩, by decide +kernel⟩
set_option maxRecDepth 100000 in
theorem fmo_X0_concertAt : fMok fd_X0_concertAt := ⟨(fmj_6 60 rfl rfl), fin_0, by decide +kernel, ⟨by decide +kernel, by decide +kernel⟩, by decide +kernel⟩
set_option maxRecDepth 100000 in
theorem fmo_X0_blame : fMok fd_X0_blame := ⟨(fmj_6 64 rfl rfl), fin_0, by decide +kernel, ⟨by decide +kernel, by decide +kernel⟩, by decide +kernel⟩
set_option maxRecDepth 100000 in
theorem fmo_X0_isFree : fMok fd_X0_isFree := ⟨(fmj_6 94 rfl rfl), fin_0, by decide +kernel, ⟨by decide +kernel, by decide +kernel⟩, by decide +kernel⟩
set_option maxRecDepth 100000 in
theorem fmo_X0_freeTunings : fMok fd_X0_freeTunings := ⟨(fmj_6 90 rfl rfl), fin_0, by decide +kernel, ⟨by decide +kernel, by decide +kernel⟩, by decide +kernel⟩
set_option maxRecDepth 100000 in
theorem fmo_X0_debt : fMok fd_X0_debt := ⟨(fmj_7 33 rfl rfl), fin_0, by decide +kernel, ⟨by decide +kernel, by decide +kernel⟩, by decide +kernel⟩
set_option maxRecDepth 100000 in
theorem fmo_X0_debtBy : fMok fd_X0_debtBy := ⟨(fmj_7 38 rfl rfl), fin_0, by decide +kernel, ⟨by decide +kernel, by decide +kernel⟩, by decide +kernel⟩
set_option maxRecDepth 100000 in
theorem fin_1 : Cond.initialized "TunerRounds$Findings" ∈ fTb := (fmj_1 14 rfl rfl)
set_option maxRecDepth 100000 in
theorem fmo_X1_init : fMok fd_X1_init := ⟨(fmj_2 126 rfl rfl), fin_1, by decide +kernel, ⟨by decide +kernel, by decide +kernel⟩, by decide +kernel⟩
set_option maxRecDepth 100000 in
theorem fmo_X1_keepLeast : fMok fd_X1_keepLeast := ⟨(fmj_5 85 rfl rfl), fin_1, by decide +kernel, ⟨by decide +kernel, by decide +kernel⟩, by decide +kernel⟩
set_option maxRecDepth 100000 in
theorem fmo_X1_clearFalls : fMok fd_X1_clearFalls := ⟨(fmj_5 64 rfl rfl), fin_1, by decide +kernel, ⟨by decide +kernel, by decide +kernel⟩, by decide +kernel⟩
set_option maxRecDepth 100000 in
theorem fmo_X1_addPairs : fMok fd_X1_addPairs := ⟨(fmj_5 69 rfl rfl), fin_1, by decide +kernel, ⟨by decide +kernel, by decide +kernel⟩, by decide +kernel⟩
set_option maxRecDepth 100000 in
theorem fmo_X1_addPair : fMok fd_X1_addPair := ⟨(fmj_5 75 rfl rfl), fin_1, by decide +kernel, ⟨by decide +kernel, by decide +kernel⟩, by decide +kernel⟩
set_option maxRecDepth 100000 in
theorem fmo_X1_mostSlipping : fMok fd_X1_mostSlipping := ⟨(fmj_5 60 rfl rfl), fin_1, by decide +kernel, ⟨by decide +kernel, by decide +kernel⟩, by decide +kernel⟩
set_option maxRecDepth 100000 in
theorem fmo_X1_isFaster : fMok fd_X1_isFaster := ⟨(fmj_5 81 rfl rfl), fin_1, by decide +kernel, ⟨by decide +kernel, by decide +kernel⟩, by decide +kernel⟩
set_option maxRecDepth 100000 in
theorem fmo_X1_weighStoves : fMok fd_X1_weighStoves := ⟨(fmj_7 4 rfl rfl), fin_1, by decide +kernel, ⟨by decide +kernel, by decide +kernel⟩, by decide +kernel⟩
set_option maxRecDepth 100000 in
theorem fmo_X1_sumFallsOf : fMok fd_X1_sumFallsOf := ⟨(fmj_7 8 rfl rfl), fin_1, by decide +kernel, ⟨by decide +kernel, by decide +kernel⟩, by decide +kernel⟩
set_option maxRecDepth 100000 in
theorem fmo_X1_sumOf : fMok fd_X1_sumOf := ⟨(fmj_7 11 rfl rfl), fin_1, by decide +kernel, ⟨by decide +kernel, by decide +kernel⟩, by decide +kernel⟩
set_option maxRecDepth 100000 in
theorem fmo_X1_weighLean : fMok fd_X1_weighLean := ⟨(fmj_7 22 rfl rfl), fin_1, by decide +kernel, ⟨by decide +kernel, by decide +kernel⟩, by decide +kernel⟩
set_option maxRecDepth 100000 in
theorem fmo_X1_worstBatch : fMok fd_X1_worstBatch := ⟨(fmj_5 96 rfl rfl), fin_1, by decide +kernel, ⟨by decide +kernel, by decide +kernel⟩, by decide +kernel⟩
set_option maxRecDepth 100000 in
theorem fmo_X1_isCracked : fMok fd_X1_isCracked := ⟨(fmj_5 109 rfl rfl), fin_1, by decide +kernel, ⟨by decide +kernel, by decide +kernel⟩, by decide +kernel⟩
set_option maxRecDepth 100000 in
theorem fmo_X1_putInOrder : fMok fd_X1_putInOrder := ⟨(fmj_5 113 rfl rfl), fin_1, by decide +kernel, ⟨by decide +kernel, by decide +kernel⟩, by decide +kernel⟩
set_option maxRecDepth 100000 in
theorem fmo_X1_isCrack : fMok fd_X1_isCrack := ⟨(fmj_5 117 rfl rfl), fin_1, by decide +kernel, ⟨by decide +kernel, by decide +kernel⟩, by decide +kernel⟩
set_option maxRecDepth 100000 in
theorem fin_2 : Cond.initialized "TunerRounds$House" ∈ fTb := (fmj_1 7 rfl rfl)
set_option maxRecDepth 100000 in
theorem fmo_X2_init : fMok fd_X2_init := ⟨(fmj_1 139 rfl rfl), fin_2, by decide +kernel, ⟨by decide +kernel, by decide +kernel⟩, by decide +kernel⟩
set_option maxRecDepth 100000 in
theorem fmo_X2_clear : fMok fd_X2_clear := ⟨(fmj_1 144 rfl rfl), fin_2, by decide +kernel, ⟨by decide +kernel, by decide +kernel⟩, by decide +kernel⟩
set_option maxRecDepth 100000 in
theorem fmo_X2_copyFrom : fMok fd_X2_copyFrom := ⟨(fmj_4 107 rfl rfl), fin_2, by decide +kernel, ⟨by decide +kernel, by decide +kernel⟩, by decide +kernel⟩
set_option maxRecDepth 100000 in
theorem fmo_X2_addPiano : fMok fd_X2_addPiano := ⟨(fmj_4 80 rfl rfl), fin_2, by decide +kernel, ⟨by decide +kernel, by decide +kernel⟩, by decide +kernel⟩
set_option maxRecDepth 100000 in
theorem fmo_X2_tell : fMok fd_X2_tell := ⟨(fmj_4 84 rfl rfl), fin_2, by decide +kernel, ⟨by decide +kernel, by decide +kernel⟩, by decide +kernel⟩
set_option maxRecDepth 100000 in
theorem fmo_X2_fact : fMok fd_X2_fact := ⟨(fmj_4 145 rfl rfl), fin_2, by decide +kernel, ⟨by decide +kernel, by decide +kernel⟩, by decide +kernel⟩
set_option maxRecDepth 100000 in
theorem fmo_X2_hasPiano : fMok fd_X2_hasPiano := ⟨(fmj_4 141 rfl rfl), fin_2, by decide +kernel, ⟨by decide +kernel, by decide +kernel⟩, by decide +kernel⟩
set_option maxRecDepth 100000 in
theorem fmo_X2_hasTuner : fMok fd_X2_hasTuner := ⟨(fmj_5 144 rfl rfl), fin_2, by decide +kernel, ⟨by decide +kernel, by decide +kernel⟩, by decide +kernel⟩
set_option maxRecDepth 100000 in
theorem fmo_X2_isHall : fMok fd_X2_isHall := ⟨(fmj_4 137 rfl rfl), fin_2, by decide +kernel, ⟨by decide +kernel, by decide +kernel⟩, by decide +kernel⟩
set_option maxRecDepth 100000 in
theorem fmo_X2_isShut : fMok fd_X2_isShut := ⟨(fmj_5 162 rfl rfl), fin_2, by decide +kernel, ⟨by decide +kernel, by decide +kernel⟩, by decide +kernel⟩
set_option maxRecDepth 100000 in
theorem fmo_X2_tunerX : fMok fd_X2_tunerX := ⟨(fmj_5 180 rfl rfl), fin_2, by decide +kernel, ⟨by decide +kernel, by decide +kernel⟩, by decide +kernel⟩
set_option maxRecDepth 100000 in
theorem fmo_X2_tunerY : fMok fd_X2_tunerY := ⟨(fmj_5 184 rfl rfl), fin_2, by decide +kernel, ⟨by decide +kernel, by decide +kernel⟩, by decide +kernel⟩
set_option maxRecDepth 100000 in
theorem fmo_X2_forkOf : fMok fd_X2_forkOf := ⟨(fmj_5 0 rfl rfl), fin_2, by decide +kernel, ⟨by decide +kernel, by decide +kernel⟩, by decide +kernel⟩
set_option maxRecDepth 100000 in
theorem fmo_X2_pianoNamed : fMok fd_X2_pianoNamed := ⟨(fmj_4 61 rfl rfl), fin_2, by decide +kernel, ⟨by decide +kernel, by decide +kernel⟩, by decide +kernel⟩
set_option maxRecDepth 100000 in
theorem fmo_X2_tunerNamed : fMok fd_X2_tunerNamed := ⟨(fmj_4 68 rfl rfl), fin_2, by decide +kernel, ⟨by decide +kernel, by decide +kernel⟩, by decide +kernel⟩
set_option maxRecDepth 100000 in
theorem fmo_X2_pupilNamed : fMok fd_X2_pupilNamed := ⟨(fmj_4 72 rfl rfl), fin_2, by decide +kernel, ⟨by decide +kernel, by decide +kernel⟩, by decide +kernel⟩
set_option maxRecDepth 100000 in
theorem fmo_X2_isNameTold : fMok fd_X2_isNameTold := ⟨(fmj_4 57 rfl rfl), fin_2, by decide +kernel, ⟨by decide +kernel, by decide +kernel⟩, by decide +kernel⟩
set_option maxRecDepth 100000 in
theorem fmo_X2_placeOf : fMok fd_X2_placeOf := ⟨(fmj_4 64 rfl rfl), fin_2, by decide +kernel, ⟨by decide +kernel, by decide +kernel⟩, by decide +kernel⟩
set_option maxRecDepth 100000 in
theorem fmo_X2_feeOf : fMok fd_X2_feeOf := ⟨(fmj_6 82 rfl rfl), fin_2, by decide +kernel, ⟨by decide +kernel, by decide +kernel⟩, by decide +kernel⟩
set_option maxRecDepth 100000 in
theorem fmo_X2_hasTable : fMok fd_X2_hasTable := ⟨(fmj_4 188 rfl rfl), fin_2, by decide +kernel, ⟨by decide +kernel, by decide +kernel⟩, by decide +kernel⟩
set_option maxRecDepth 100000 in
theorem fmo_X2_beatsOf : fMok fd_X2_beatsOf := ⟨(fmj_4 192 rfl rfl), fin_2, by decide +kernel, ⟨by decide +kernel, by decide +kernel⟩, by decide +kernel⟩
set_option maxRecDepth 100000 in
theorem fmo_X2_wildest : fMok fd_X2_wildest := ⟨(fmj_4 207 rfl rfl), fin_2, by decide +kernel, ⟨by decide +kernel, by decide +kernel⟩, by decide +kernel⟩
set_option maxRecDepth 100000 in
theorem fin_3 : Cond.initialized "TunerRounds$HouseText" ∈ fTb := (fmj_1 11 rfl rfl)
set_option maxRecDepth 100000 in
theorem fmo_X3_init : fMok fd_X3_init := ⟨(fmj_2 63 rfl rfl), fin_3, by decide +kernel, ⟨by decide +kernel, by decide +kernel⟩, by decide +kernel⟩
set_option maxRecDepth 100000 in
theorem fmo_X3_readAll : fMok fd_X3_readAll := ⟨(fmj_3 134 rfl rfl), fin_3, by decide +kernel, ⟨by decide +kernel, by decide +kernel⟩, by decide +kernel⟩
set_option maxRecDepth 100000 in
theorem fmo_X3_readRuleLine : fMok fd_X3_readRuleLine := ⟨(fmj_3 164 rfl rfl), fin_3, by decide +kernel, ⟨by decide +kernel, by decide +kernel⟩, by decide +kernel⟩
set_option maxRecDepth 100000 in
theorem fmo_X3_readNameLine : fMok fd_X3_readNameLine := ⟨(fmj_4 45 rfl rfl), fin_3, by decide +kernel, ⟨by decide +kernel, by decide +kernel⟩, by decide +kernel⟩
set_option maxRecDepth 100000 in
theorem fmo_X3_readTable : fMok fd_X3_readTable := ⟨(fmj_3 168 rfl rfl), fin_3, by decide +kernel, ⟨by decide +kernel, by decide +kernel⟩, by decide +kernel⟩
set_option maxRecDepth 100000 in
theorem fmo_X3_readDamp : fMok fd_X3_readDamp := ⟨(fmj_4 16 rfl rfl), fin_3, by decide +kernel, ⟨by decide +kernel, by decide +kernel⟩, by decide +kernel⟩
set_option maxRecDepth 100000 in
theorem fmo_X3_readTerm : fMok fd_X3_readTerm := ⟨(fmj_4 20 rfl rfl), fin_3, by decide +kernel, ⟨by decide +kernel, by decide +kernel⟩, by decide +kernel⟩
set_option maxRecDepth 100000 in
theorem fmo_X3_readFee : fMok fd_X3_readFee := ⟨(fmj_4 24 rfl rfl), fin_3, by decide +kernel, ⟨by decide +kernel, by decide +kernel⟩, by decide +kernel⟩
set_option maxRecDepth 100000 in
theorem fmo_X3_readRule : fMok fd_X3_readRule := ⟨(fmj_4 37 rfl rfl), fin_3, by decide +kernel, ⟨by decide +kernel, by decide +kernel⟩, by decide +kernel⟩
set_option maxRecDepth 100000 in
theorem fmo_X3_readDay : fMok fd_X3_readDay := ⟨(fmj_4 41 rfl rfl), fin_3, by decide +kernel, ⟨by decide +kernel, by decide +kernel⟩, by decide +kernel⟩
set_option maxRecDepth 100000 in
theorem fmo_X3_mustHaveRoom : fMok fd_X3_mustHaveRoom := ⟨(fmj_4 28 rfl rfl), fin_3, by decide +kernel, ⟨by decide +kernel, by decide +kernel⟩, by decide +kernel⟩
set_option maxRecDepth 100000 in
theorem fmo_X3_takeNewName : fMok fd_X3_takeNewName := ⟨(fmj_4 49 rfl rfl), fin_3, by decide +kernel, ⟨by decide +kernel, by decide +kernel⟩, by decide +kernel⟩
set_option maxRecDepth 100000 in
theorem fmo_X3_readPiano : fMok fd_X3_readPiano := ⟨(fmj_4 76 rfl rfl), fin_3, by decide +kernel, ⟨by decide +kernel, by decide +kernel⟩, by decide +kernel⟩
set_option maxRecDepth 100000 in
theorem fmo_X3_readMore : fMok fd_X3_readMore := ⟨(fmj_4 89 rfl rfl), fin_3, by decide +kernel, ⟨by decide +kernel, by decide +kernel⟩, by decide +kernel⟩
set_option maxRecDepth 100000 in
theorem fmo_X3_withTold : fMok fd_X3_withTold := ⟨(fmj_3 172 rfl rfl), fin_3, by decide +kernel, ⟨by decide +kernel, by decide +kernel⟩, by decide +kernel⟩
set_option maxRecDepth 100000 in
theorem fmo_X3_readTuner : fMok fd_X3_readTuner := ⟨(fmj_4 93 rfl rfl), fin_3, by decide +kernel, ⟨by decide +kernel, by decide +kernel⟩, by decide +kernel⟩
set_option maxRecDepth 100000 in
theorem fmo_X3_readTeach : fMok fd_X3_readTeach := ⟨(fmj_4 101 rfl rfl), fin_3, by decide +kernel, ⟨by decide +kernel, by decide +kernel⟩, by decide +kernel⟩
set_option maxRecDepth 100000 in
theorem fin_4 : Cond.initialized "TunerRounds$Lessons" ∈ fTb := (fmj_1 18 rfl rfl)
set_option maxRecDepth 100000 in
theorem fmo_X4_init : fMok fd_X4_init := ⟨(fmj_3 41 rfl rfl), fin_4, by decide +kernel, ⟨by decide +kernel, by decide +kernel⟩, by decide +kernel⟩
set_option maxRecDepth 100000 in
theorem fmo_X4_share : fMok fd_X4_share := ⟨(fmj_6 149 rfl rfl), fin_4, by decide +kernel, ⟨by decide +kernel, by decide +kernel⟩, by decide +kernel⟩
set_option maxRecDepth 100000 in
theorem fmo_X4_sumWith : fMok fd_X4_sumWith := ⟨(fmj_6 158 rfl rfl), fin_4, by decide +kernel, ⟨by decide +kernel, by decide +kernel⟩, by decide +kernel⟩
set_option maxRecDepth 100000 in
theorem fmo_X4_greatest : fMok fd_X4_greatest := ⟨(fmj_6 154 rfl rfl), fin_4, by decide +kernel, ⟨by decide +kernel, by decide +kernel⟩, by decide +kernel⟩
set_option maxRecDepth 100000 in
theorem fmo_X4_pickTuners : fMok fd_X4_pickTuners := ⟨(fmj_6 163 rfl rfl), fin_4, by decide +kernel, ⟨by decide +kernel, by decide +kernel⟩, by decide +kernel⟩
set_option maxRecDepth 100000 in
theorem fmo_X4_firstGreatest : fMok fd_X4_firstGreatest := ⟨(fmj_6 167 rfl rfl), fin_4, by decide +kernel, ⟨by decide +kernel, by decide +kernel⟩, by decide +kernel⟩
set_option maxRecDepth 100000 in
theorem fin_5 : Cond.initialized "TunerRounds$RecordText" ∈ fTb := (fmj_1 12 rfl rfl)
set_option maxRecDepth 100000 in
theorem fmo_X5_init : fMok fd_X5_init := ⟨(fmj_2 82 rfl rfl), fin_5, by decide +kernel, ⟨by decide +kernel, by decide +kernel⟩, by decide +kernel⟩
set_option maxRecDepth 100000 in
theorem fmo_X5_readAll : fMok fd_X5_readAll := ⟨(fmj_4 119 rfl rfl), fin_5, by decide +kernel, ⟨by decide +kernel, by decide +kernel⟩, by decide +kernel⟩
set_option maxRecDepth 100000 in
theorem fmo_X5_readLine : fMok fd_X5_readLine := ⟨(fmj_4 127 rfl rfl), fin_5, by decide +kernel, ⟨by decide +kernel, by decide +kernel⟩, by decide +kernel⟩
set_option maxRecDepth 100000 in
theorem fmo_X5_takePiano : fMok fd_X5_takePiano := ⟨(fmj_4 131 rfl rfl), fin_5, by decide +kernel, ⟨by decide +kernel, by decide +kernel⟩, by decide +kernel⟩
set_option maxRecDepth 100000 in
theorem fmo_X5_takeTuner : fMok fd_X5_takeTuner := ⟨(fmj_4 153 rfl rfl), fin_5, by decide +kernel, ⟨by decide +kernel, by decide +kernel⟩, by decide +kernel⟩
set_option maxRecDepth 100000 in
theorem fmo_X5_readWhen : fMok fd_X5_readWhen := ⟨(fmj_4 159 rfl rfl), fin_5, by decide +kernel, ⟨by decide +kernel, by decide +kernel⟩, by decide +kernel⟩
set_option maxRecDepth 100000 in
theorem fmo_X5_readNote : fMok fd_X5_readNote := ⟨(fmj_4 163 rfl rfl), fin_5, by decide +kernel, ⟨by decide +kernel, by decide +kernel⟩, by decide +kernel⟩
set_option maxRecDepth 100000 in
theorem fin_6 : Cond.initialized "TunerRounds$Records" ∈ fTb := (fmj_1 10 rfl rfl)
set_option maxRecDepth 100000 in
theorem fmo_X6_init : fMok fd_X6_init := ⟨(fmj_2 6 rfl rfl), fin_6, by decide +kernel, ⟨by decide +kernel, by decide +kernel⟩, by decide +kernel⟩
set_option maxRecDepth 100000 in
theorem fmo_X6_copyFrom : fMok fd_X6_copyFrom := ⟨(fmj_6 179 rfl rfl), fin_6, by decide +kernel, ⟨by decide +kernel, by decide +kernel⟩, by decide +kernel⟩
set_option maxRecDepth 100000 in
theorem fmo_X6_begin : fMok fd_X6_begin := ⟨(fmj_4 149 rfl rfl), fin_6, by decide +kernel, ⟨by decide +kernel, by decide +kernel⟩, by decide +kernel⟩
set_option maxRecDepth 100000 in
theorem fmo_X6_isTold : fMok fd_X6_isTold := ⟨(fmj_4 168 rfl rfl), fin_6, by decide +kernel, ⟨by decide +kernel, by decide +kernel⟩, by decide +kernel⟩
set_option maxRecDepth 100000 in
theorem fmo_X6_leftOf : fMok fd_X6_leftOf := ⟨(fmj_4 236 rfl rfl), fin_6, by decide +kernel, ⟨by decide +kernel, by decide +kernel⟩, by decide +kernel⟩
set_option maxRecDepth 100000 in
theorem fmo_X6_isKnown : fMok fd_X6_isKnown := ⟨(fmj_5 101 rfl rfl), fin_6, by decide +kernel, ⟨by decide +kernel, by decide +kernel⟩, by decide +kernel⟩
set_option maxRecDepth 100000 in
theorem fmo_X6_isOf : fMok fd_X6_isOf := ⟨(fmj_4 232 rfl rfl), fin_6, by decide +kernel, ⟨by decide +kernel, by decide +kernel⟩, by decide +kernel⟩
set_option maxRecDepth 100000 in
theorem fmo_X6_latest : fMok fd_X6_latest := ⟨(fmj_4 228 rfl rfl), fin_6, by decide +kernel, ⟨by decide +kernel, by decide +kernel⟩, by decide +kernel⟩
set_option maxRecDepth 100000 in
theorem fmo_X6_hasWithin : fMok fd_X6_hasWithin := ⟨(fmj_5 130 rfl rfl), fin_6, by decide +kernel, ⟨by decide +kernel, by decide +kernel⟩, by decide +kernel⟩
set_option maxRecDepth 100000 in
theorem fmo_X6_concertsTold : fMok fd_X6_concertsTold := ⟨(fmj_6 192 rfl rfl), fin_6, by decide +kernel, ⟨by decide +kernel, by decide +kernel⟩, by decide +kernel⟩
set_option maxRecDepth 100000 in
theorem fin_7 : Cond.initialized "TunerRounds$Rounds" ∈ fTb := (fmj_1 16 rfl rfl)
set_option maxRecDepth 100000 in
theorem fmo_X7_init : fMok fd_X7_init := ⟨(fmj_2 186 rfl rfl), fin_7, by decide +kernel, ⟨by decide +kernel, by decide +kernel⟩, by decide +kernel⟩
set_option maxRecDepth 100000 in
theorem fmo_X7_weightOf : fMok fd_X7_weightOf := ⟨(fmj_5 125 rfl rfl), fin_7, by decide +kernel, ⟨by decide +kernel, by decide +kernel⟩, by decide +kernel⟩
set_option maxRecDepth 100000 in
theorem fmo_X7_place : fMok fd_X7_place := ⟨(fmj_5 156 rfl rfl), fin_7, by decide +kernel, ⟨by decide +kernel, by decide +kernel⟩, by decide +kernel⟩
set_option maxRecDepth 100000 in
theorem fmo_X7_weigh : fMok fd_X7_weigh := ⟨(fmj_5 167 rfl rfl), fin_7, by decide +kernel, ⟨by decide +kernel, by decide +kernel⟩, by decide +kernel⟩
set_option maxRecDepth 100000 in
theorem fmo_X7_liveWith : fMok fd_X7_liveWith := ⟨(fmj_5 176 rfl rfl), fin_7, by decide +kernel, ⟨by decide +kernel, by decide +kernel⟩, by decide +kernel⟩
set_option maxRecDepth 100000 in
theorem fmo_X7_sortPianos : fMok fd_X7_sortPianos := ⟨(fmj_5 152 rfl rfl), fin_7, by decide +kernel, ⟨by decide +kernel, by decide +kernel⟩, by decide +kernel⟩
set_option maxRecDepth 100000 in
theorem fmo_X7_minutes : fMok fd_X7_minutes := ⟨(fmj_5 193 rfl rfl), fin_7, by decide +kernel, ⟨by decide +kernel, by decide +kernel⟩, by decide +kernel⟩
set_option maxRecDepth 100000 in
theorem fmo_X7_doneAt : fMok fd_X7_doneAt := ⟨(fmj_5 198 rfl rfl), fin_7, by decide +kernel, ⟨by decide +kernel, by decide +kernel⟩, by decide +kernel⟩
set_option maxRecDepth 100000 in
theorem fmo_X7_fillHomes : fMok fd_X7_fillHomes := ⟨(fmj_5 172 rfl rfl), fin_7, by decide +kernel, ⟨by decide +kernel, by decide +kernel⟩, by decide +kernel⟩
set_option maxRecDepth 100000 in
theorem fmo_X7_soonestDone : fMok fd_X7_soonestDone := ⟨(fmj_5 189 rfl rfl), fin_7, by decide +kernel, ⟨by decide +kernel, by decide +kernel⟩, by decide +kernel⟩
set_option maxRecDepth 100000 in
theorem fmo_X7_best : fMok fd_X7_best := ⟨(fmj_5 148 rfl rfl), fin_7, by decide +kernel, ⟨by decide +kernel, by decide +kernel⟩, by decide +kernel⟩
set_option maxRecDepth 100000 in
theorem fmo_X7_fillLatest : fMok fd_X7_fillLatest := ⟨(fmj_5 204 rfl rfl), fin_7, by decide +kernel, ⟨by decide +kernel, by decide +kernel⟩, by decide +kernel⟩
set_option maxRecDepth 100000 in
theorem fmo_X7_latestDone : fMok fd_X7_latestDone := ⟨(fmj_5 208 rfl rfl), fin_7, by decide +kernel, ⟨by decide +kernel, by decide +kernel⟩, by decide +kernel⟩
set_option maxRecDepth 100000 in
theorem fmo_X7_pickOrder : fMok fd_X7_pickOrder := ⟨(fmj_5 213 rfl rfl), fin_7, by decide +kernel, ⟨by decide +kernel, by decide +kernel⟩, by decide +kernel⟩
set_option maxRecDepth 100000 in
theorem fmo_X7_firstNext : fMok fd_X7_firstNext := ⟨(fmj_5 217 rfl rfl), fin_7, by decide +kernel, ⟨by decide +kernel, by decide +kernel⟩, by decide +kernel⟩
set_option maxRecDepth 100000 in
theorem fmo_X7_canGoOn : fMok fd_X7_canGoOn := ⟨(fmj_5 221 rfl rfl), fin_7, by decide +kernel, ⟨by decide +kernel, by decide +kernel⟩, by decide +kernel⟩
set_option maxRecDepth 100000 in
theorem fmo_X7_walkAsTold : fMok fd_X7_walkAsTold := ⟨(fmj_5 237 rfl rfl), fin_7, by decide +kernel, ⟨by decide +kernel, by decide +kernel⟩, by decide +kernel⟩
set_option maxRecDepth 100000 in
theorem fmo_X7_bestOfTwo : fMok fd_X7_bestOfTwo := ⟨(fmj_6 5 rfl rfl), fin_7, by decide +kernel, ⟨by decide +kernel, by decide +kernel⟩, by decide +kernel⟩
set_option maxRecDepth 100000 in
theorem fmo_X7_fillOtherBest : fMok fd_X7_fillOtherBest := ⟨(fmj_6 9 rfl rfl), fin_7, by decide +kernel, ⟨by decide +kernel, by decide +kernel⟩, by decide +kernel⟩
set_option maxRecDepth 100000 in
theorem fmo_X7_fewestTuners : fMok fd_X7_fewestTuners := ⟨(fmj_6 17 rfl rfl), fin_7, by decide +kernel, ⟨by decide +kernel, by decide +kernel⟩, by decide +kernel⟩
set_option maxRecDepth 100000 in
theorem fmo_X7_countWays : fMok fd_X7_countWays := ⟨(fmj_6 21 rfl rfl), fin_7, by decide +kernel, ⟨by decide +kernel, by decide +kernel⟩, by decide +kernel⟩
set_option maxRecDepth 100000 in
theorem fmo_X7_hasAll : fMok fd_X7_hasAll := ⟨(fmj_6 31 rfl rfl), fin_7, by decide +kernel, ⟨by decide +kernel, by decide +kernel⟩, by decide +kernel⟩
set_option maxRecDepth 100000 in
theorem fin_8 : Cond.initialized "TunerRounds$Standing" ∈ fTb := (fmj_1 13 rfl rfl)
set_option maxRecDepth 100000 in
theorem fmo_X8_init : fMok fd_X8_init := ⟨(fmj_2 98 rfl rfl), fin_8, by decide +kernel, ⟨by decide +kernel, by decide +kernel⟩, by decide +kernel⟩
set_option maxRecDepth 100000 in
theorem fmo_X8_look : fMok fd_X8_look := ⟨(fmj_4 224 rfl rfl), fin_8, by decide +kernel, ⟨by decide +kernel, by decide +kernel⟩, by decide +kernel⟩
set_option maxRecDepth 100000 in
theorem fmo_X8_sumSlipTimes : fMok fd_X8_sumSlipTimes := ⟨(fmj_5 4 rfl rfl), fin_8, by decide +kernel, ⟨by decide +kernel, by decide +kernel⟩, by decide +kernel⟩
set_option maxRecDepth 100000 in
theorem fmo_X8_sumStoveFall : fMok fd_X8_sumStoveFall := ⟨(fmj_5 11 rfl rfl), fin_8, by decide +kernel, ⟨by decide +kernel, by decide +kernel⟩, by decide +kernel⟩
set_option maxRecDepth 100000 in
theorem fmo_X8_wasTuned : fMok fd_X8_wasTuned := ⟨(fmj_5 19 rfl rfl), fin_8, by decide +kernel, ⟨by decide +kernel, by decide +kernel⟩, by decide +kernel⟩
set_option maxRecDepth 100000 in
theorem fmo_X8_tunedOn : fMok fd_X8_tunedOn := ⟨(fmj_6 51 rfl rfl), fin_8, by decide +kernel, ⟨by decide +kernel, by decide +kernel⟩, by decide +kernel⟩
set_option maxRecDepth 100000 in
theorem fmo_X8_leftAt : fMok fd_X8_leftAt := ⟨(fmj_6 68 rfl rfl), fin_8, by decide +kernel, ⟨by decide +kernel, by decide +kernel⟩, by decide +kernel⟩
set_option maxRecDepth 100000 in
theorem fmo_X8_ear : fMok fd_X8_ear := ⟨(fmj_5 52 rfl rfl), fin_8, by decide +kernel, ⟨by decide +kernel, by decide +kernel⟩, by decide +kernel⟩
set_option maxRecDepth 100000 in
theorem fmo_X8_offsetAt : fMok fd_X8_offsetAt := ⟨(fmj_6 226 rfl rfl), fin_8, by decide +kernel, ⟨by decide +kernel, by decide +kernel⟩, by decide +kernel⟩
set_option maxRecDepth 100000 in
theorem fmo_X8_offsetUndamped : fMok fd_X8_offsetUndamped := ⟨(fmj_5 31 rfl rfl), fin_8, by decide +kernel, ⟨by decide +kernel, by decide +kernel⟩, by decide +kernel⟩
set_option maxRecDepth 100000 in
theorem fmo_X8_dampFrom : fMok fd_X8_dampFrom := ⟨(fmj_5 27 rfl rfl), fin_8, by decide +kernel, ⟨by decide +kernel, by decide +kernel⟩, by decide +kernel⟩
set_option maxRecDepth 100000 in
theorem fmo_X8_greatestAt : fMok fd_X8_greatestAt := ⟨(fmj_5 23 rfl rfl), fin_8, by decide +kernel, ⟨by decide +kernel, by decide +kernel⟩, by decide +kernel⟩
set_option maxRecDepth 100000 in
theorem fmo_X8_greatestUndamped : fMok fd_X8_greatestUndamped := ⟨(fmj_6 74 rfl rfl), fin_8, by decide +kernel, ⟨by decide +kernel, by decide +kernel⟩, by decide +kernel⟩
set_option maxRecDepth 100000 in
theorem fmo_X8_isBeyond : fMok fd_X8_isBeyond := ⟨(fmj_5 47 rfl rfl), fin_8, by decide +kernel, ⟨by decide +kernel, by decide +kernel⟩, by decide +kernel⟩
set_option maxRecDepth 100000 in
theorem fmo_X8_firstBeyond : fMok fd_X8_firstBeyond := ⟨(fmj_5 43 rfl rfl), fin_8, by decide +kernel, ⟨by decide +kernel, by decide +kernel⟩, by decide +kernel⟩
set_option maxRecDepth 100000 in
theorem fmo_X8_tuningsFrom : fMok fd_X8_tuningsFrom := ⟨(fmj_6 103 rfl rfl), fin_8, by decide +kernel, ⟨by decide +kernel, by decide +kernel⟩, by decide +kernel⟩
set_option maxRecDepth 100000 in
theorem fin_9 : Cond.initialized "TunerRounds$StringBag" ∈ fTb := (fmj_1 17 rfl rfl)
set_option maxRecDepth 100000 in
theorem fmo_X9_init : fMok fd_X9_init := ⟨(fmj_3 14 rfl rfl), fin_9, by decide +kernel, ⟨by decide +kernel, by decide +kernel⟩, by decide +kernel⟩
set_option maxRecDepth 100000 in
theorem fmo_X9_pack : fMok fd_X9_pack := ⟨(fmj_6 117 rfl rfl), fin_9, by decide +kernel, ⟨by decide +kernel, by decide +kernel⟩, by decide +kernel⟩
set_option maxRecDepth 100000 in
theorem fmo_X9_mostOf : fMok fd_X9_mostOf := ⟨(fmj_6 126 rfl rfl), fin_9, by decide +kernel, ⟨by decide +kernel, by decide +kernel⟩, by decide +kernel⟩
set_option maxRecDepth 100000 in
theorem fmo_X9_tryRest : fMok fd_X9_tryRest := ⟨(fmj_6 137 rfl rfl), fin_9, by decide +kernel, ⟨by decide +kernel, by decide +kernel⟩, by decide +kernel⟩
set_option maxRecDepth 100000 in
theorem fmo_X9_countParts : fMok fd_X9_countParts := ⟨(fmj_6 121 rfl rfl), fin_9, by decide +kernel, ⟨by decide +kernel, by decide +kernel⟩, by decide +kernel⟩
set_option maxRecDepth 100000 in
theorem fmo_X9_chanceWith : fMok fd_X9_chanceWith := ⟨(fmj_6 132 rfl rfl), fin_9, by decide +kernel, ⟨by decide +kernel, by decide +kernel⟩, by decide +kernel⟩
set_option maxRecDepth 100000 in
theorem fin_10 : Cond.initialized "TunerRounds$Tape" ∈ fTb := (fmj_1 2 rfl rfl)
set_option maxRecDepth 100000 in
theorem fmo_X10_init : fMok fd_X10_init := ⟨(fmj_1 39 rfl rfl), fin_10, by decide +kernel, ⟨by decide +kernel, by decide +kernel⟩, by decide +kernel⟩
set_option maxRecDepth 100000 in
theorem fmo_X10_withLetter : fMok fd_X10_withLetter := ⟨(fmj_1 92 rfl rfl), fin_10, by decide +kernel, ⟨by decide +kernel, by decide +kernel⟩, by decide +kernel⟩
set_option maxRecDepth 100000 in
theorem fmo_X10_hasRoom : fMok fd_X10_hasRoom := ⟨(fmj_3 113 rfl rfl), fin_10, by decide +kernel, ⟨by decide +kernel, by decide +kernel⟩, by decide +kernel⟩
set_option maxRecDepth 100000 in
theorem fmo_X10_add : fMok fd_X10_add := ⟨(fmj_3 117 rfl rfl), fin_10, by decide +kernel, ⟨by decide +kernel, by decide +kernel⟩, by decide +kernel⟩
set_option maxRecDepth 100000 in
theorem fmo_X10_isCut : fMok fd_X10_isCut := ⟨(fmj_3 125 rfl rfl), fin_10, by decide +kernel, ⟨by decide +kernel, by decide +kernel⟩, by decide +kernel⟩
set_option maxRecDepth 100000 in
theorem fmo_X10_empty : fMok fd_X10_empty := ⟨(fmj_4 111 rfl rfl), fin_10, by decide +kernel, ⟨by decide +kernel, by decide +kernel⟩, by decide +kernel⟩
set_option maxRecDepth 100000 in
theorem fmo_X10_movePianos : fMok fd_X10_movePianos := ⟨(fmj_5 140 rfl rfl), fin_10, by decide +kernel, ⟨by decide +kernel, by decide +kernel⟩, by decide +kernel⟩
set_option maxRecDepth 100000 in
theorem fmo_X10_begin : fMok fd_X10_begin := ⟨(fmj_3 139 rfl rfl), fin_10, by decide +kernel, ⟨by decide +kernel, by decide +kernel⟩, by decide +kernel⟩
set_option maxRecDepth 100000 in
theorem fmo_X10_take : fMok fd_X10_take := ⟨(fmj_3 143 rfl rfl), fin_10, by decide +kernel, ⟨by decide +kernel, by decide +kernel⟩, by decide +kernel⟩
set_option maxRecDepth 100000 in
theorem fmo_X10_takeRun : fMok fd_X10_takeRun := ⟨(fmj_3 156 rfl rfl), fin_10, by decide +kernel, ⟨by decide +kernel, by decide +kernel⟩, by decide +kernel⟩
set_option maxRecDepth 100000 in
theorem fmo_X10_isBlank : fMok fd_X10_isBlank := ⟨(fmj_3 146 rfl rfl), fin_10, by decide +kernel, ⟨by decide +kernel, by decide +kernel⟩, by decide +kernel⟩
set_option maxRecDepth 100000 in
theorem fmo_X10_isLetter : fMok fd_X10_isLetter := ⟨(fmj_3 149 rfl rfl), fin_10, by decide +kernel, ⟨by decide +kernel, by decide +kernel⟩, by decide +kernel⟩
set_option maxRecDepth 100000 in
theorem fmo_X10_isDigit : fMok fd_X10_isDigit := ⟨(fmj_3 152 rfl rfl), fin_10, by decide +kernel, ⟨by decide +kernel, by decide +kernel⟩, by decide +kernel⟩
set_option maxRecDepth 100000 in
theorem fmo_X10_takeNumber : fMok fd_X10_takeNumber := ⟨(fmj_4 3 rfl rfl), fin_10, by decide +kernel, ⟨by decide +kernel, by decide +kernel⟩, by decide +kernel⟩
set_option maxRecDepth 100000 in
theorem fmo_X10_takeSigned : fMok fd_X10_takeSigned := ⟨(fmj_4 97 rfl rfl), fin_10, by decide +kernel, ⟨by decide +kernel, by decide +kernel⟩, by decide +kernel⟩
set_option maxRecDepth 100000 in
theorem fmo_X10_numberHere : fMok fd_X10_numberHere := ⟨(fmj_4 8 rfl rfl), fin_10, by decide +kernel, ⟨by decide +kernel, by decide +kernel⟩, by decide +kernel⟩
set_option maxRecDepth 100000 in
theorem fmo_X10_keywordHere : fMok fd_X10_keywordHere := ⟨(fmj_3 160 rfl rfl), fin_10, by decide +kernel, ⟨by decide +kernel, by decide +kernel⟩, by decide +kernel⟩
set_option maxRecDepth 100000 in
theorem fmo_X10_takeKind : fMok fd_X10_takeKind := ⟨(fmj_4 32 rfl rfl), fin_10, by decide +kernel, ⟨by decide +kernel, by decide +kernel⟩, by decide +kernel⟩
set_option maxRecDepth 100000 in
theorem fmo_X10_takeName : fMok fd_X10_takeName := ⟨(fmj_4 53 rfl rfl), fin_10, by decide +kernel, ⟨by decide +kernel, by decide +kernel⟩, by decide +kernel⟩
set_option maxRecDepth 100000 in
theorem fmo_X10_fail : fMok fd_X10_fail := ⟨(fmj_3 176 rfl rfl), fin_10, by decide +kernel, ⟨by decide +kernel, by decide +kernel⟩, by decide +kernel⟩
set_option maxRecDepth 100000 in
theorem fin_11 : Cond.initialized "TunerRounds" ∈ fTb := (fmj_1 1 rfl rfl)
set_option maxRecDepth 100000 in
theorem fmo_X11_init : fMok fd_X11_init := ⟨(fmj_1 31 rfl rfl), fin_11, by decide +kernel, ⟨by decide +kernel, by decide +kernel⟩, by decide +kernel⟩
set_option maxRecDepth 100000 in
theorem fmo_X11_feed : fMok fd_X11_feed := ⟨(fmj_3 109 rfl rfl), fin_11, by decide +kernel, ⟨by decide +kernel, by decide +kernel⟩, by decide +kernel⟩
set_option maxRecDepth 100000 in
theorem fmo_X11_end : fMok fd_X11_end := ⟨(fmj_3 121 rfl rfl), fin_11, by decide +kernel, ⟨by decide +kernel, by decide +kernel⟩, by decide +kernel⟩
set_option maxRecDepth 100000 in
theorem fmo_X11_house : fMok fd_X11_house := ⟨(fmj_3 129 rfl rfl), fin_11, by decide +kernel, ⟨by decide +kernel, by decide +kernel⟩, by decide +kernel⟩
set_option maxRecDepth 100000 in
theorem fmo_X11_records : fMok fd_X11_records := ⟨(fmj_4 115 rfl rfl), fin_11, by decide +kernel, ⟨by decide +kernel, by decide +kernel⟩, by decide +kernel⟩
set_option maxRecDepth 100000 in
theorem fmo_X11_fault : fMok fd_X11_fault := ⟨(fmj_4 173 rfl rfl), fin_11, by decide +kernel, ⟨by decide +kernel, by decide +kernel⟩, by decide +kernel⟩
set_option maxRecDepth 100000 in
theorem fmo_X11_piano : fMok fd_X11_piano := ⟨(fmj_6 200 rfl rfl), fin_11, by decide +kernel, ⟨by decide +kernel, by decide +kernel⟩, by decide +kernel⟩
set_option maxRecDepth 100000 in
theorem fmo_X11_week : fMok fd_X11_week := ⟨(fmj_4 177 rfl rfl), fin_11, by decide +kernel, ⟨by decide +kernel, by decide +kernel⟩, by decide +kernel⟩
set_option maxRecDepth 100000 in
theorem fmo_X11_beats : fMok fd_X11_beats := ⟨(fmj_4 184 rfl rfl), fin_11, by decide +kernel, ⟨by decide +kernel, by decide +kernel⟩, by decide +kernel⟩
set_option maxRecDepth 100000 in
theorem fmo_X11_wolf : fMok fd_X11_wolf := ⟨(fmj_4 203 rfl rfl), fin_11, by decide +kernel, ⟨by decide +kernel, by decide +kernel⟩, by decide +kernel⟩
set_option maxRecDepth 100000 in
theorem fmo_X11_offset : fMok fd_X11_offset := ⟨(fmj_6 222 rfl rfl), fin_11, by decide +kernel, ⟨by decide +kernel, by decide +kernel⟩, by decide +kernel⟩
set_option maxRecDepth 100000 in
theorem fmo_X11_off : fMok fd_X11_off := ⟨(fmj_4 212 rfl rfl), fin_11, by decide +kernel, ⟨by decide +kernel, by decide +kernel⟩, by decide +kernel⟩
set_option maxRecDepth 100000 in
theorem fmo_X11_due : fMok fd_X11_due := ⟨(fmj_5 39 rfl rfl), fin_11, by decide +kernel, ⟨by decide +kernel, by decide +kernel⟩, by decide +kernel⟩
set_option maxRecDepth 100000 in
theorem fmo_X11_slips : fMok fd_X11_slips := ⟨(fmj_5 56 rfl rfl), fin_11, by decide +kernel, ⟨by decide +kernel, by decide +kernel⟩, by decide +kernel⟩
set_option maxRecDepth 100000 in
theorem fmo_X11_slipped : fMok fd_X11_slipped := ⟨(fmj_6 233 rfl rfl), fin_11, by decide +kernel, ⟨by decide +kernel, by decide +kernel⟩, by decide +kernel⟩
set_option maxRecDepth 100000 in
theorem fmo_X11_stove : fMok fd_X11_stove := ⟨(fmj_7 0 rfl rfl), fin_11, by decide +kernel, ⟨by decide +kernel, by decide +kernel⟩, by decide +kernel⟩
set_option maxRecDepth 100000 in
theorem fmo_X11_lean : fMok fd_X11_lean := ⟨(fmj_7 18 rfl rfl), fin_11, by decide +kernel, ⟨by decide +kernel, by decide +kernel⟩, by decide +kernel⟩
set_option maxRecDepth 100000 in
theorem fmo_X11_batch : fMok fd_X11_batch := ⟨(fmj_5 92 rfl rfl), fin_11, by decide +kernel, ⟨by decide +kernel, by decide +kernel⟩, by decide +kernel⟩
set_option maxRecDepth 100000 in
theorem fmo_X11_cracked : fMok fd_X11_cracked := ⟨(fmj_5 105 rfl rfl), fin_11, by decide +kernel, ⟨by decide +kernel, by decide +kernel⟩, by decide +kernel⟩
set_option maxRecDepth 100000 in
theorem fmo_X11_weight : fMok fd_X11_weight := ⟨(fmj_5 121 rfl rfl), fin_11, by decide +kernel, ⟨by decide +kernel, by decide +kernel⟩, by decide +kernel⟩
set_option maxRecDepth 100000 in
theorem fmo_X11_round : fMok fd_X11_round := ⟨(fmj_5 136 rfl rfl), fin_11, by decide +kernel, ⟨by decide +kernel, by decide +kernel⟩, by decide +kernel⟩
set_option maxRecDepth 100000 in
theorem fmo_X11_roundAt : fMok fd_X11_roundAt := ⟨(fmj_5 225 rfl rfl), fin_11, by decide +kernel, ⟨by decide +kernel, by decide +kernel⟩, by decide +kernel⟩
set_option maxRecDepth 100000 in
theorem fmo_X11_home : fMok fd_X11_home := ⟨(fmj_5 229 rfl rfl), fin_11, by decide +kernel, ⟨by decide +kernel, by decide +kernel⟩, by decide +kernel⟩
set_option maxRecDepth 100000 in
theorem fmo_X11_walked : fMok fd_X11_walked := ⟨(fmj_5 233 rfl rfl), fin_11, by decide +kernel, ⟨by decide +kernel, by decide +kernel⟩, by decide +kernel⟩
set_option maxRecDepth 100000 in
theorem fmo_X11_two : fMok fd_X11_two := ⟨(fmj_6 1 rfl rfl), fin_11, by decide +kernel, ⟨by decide +kernel, by decide +kernel⟩, by decide +kernel⟩
set_option maxRecDepth 100000 in
theorem fmo_X11_festival : fMok fd_X11_festival := ⟨(fmj_6 13 rfl rfl), fin_11, by decide +kernel, ⟨by decide +kernel, by decide +kernel⟩, by decide +kernel⟩
set_option maxRecDepth 100000 in
theorem fmo_X11_unready : fMok fd_X11_unready := ⟨(fmj_6 35 rfl rfl), fin_11, by decide +kernel, ⟨by decide +kernel, by decide +kernel⟩, by decide +kernel⟩
set_option maxRecDepth 100000 in
theorem fmo_X11_whose : fMok fd_X11_whose := ⟨(fmj_6 56 rfl rfl), fin_11, by decide +kernel, ⟨by decide +kernel, by decide +kernel⟩, by decide +kernel⟩
set_option maxRecDepth 100000 in
theorem fmo_X11_fee : fMok fd_X11_fee := ⟨(fmj_6 78 rfl rfl), fin_11, by decide +kernel, ⟨by decide +kernel, by decide +kernel⟩, by decide +kernel⟩
set_option maxRecDepth 100000 in
theorem fmo_X11_owed : fMok fd_X11_owed := ⟨(fmj_7 29 rfl rfl), fin_11, by decide +kernel, ⟨by decide +kernel, by decide +kernel⟩, by decide +kernel⟩
set_option maxRecDepth 100000 in
theorem fmo_X11_free : fMok fd_X11_free := ⟨(fmj_6 86 rfl rfl), fin_11, by decide +kernel, ⟨by decide +kernel, by decide +kernel⟩, by decide +kernel⟩
set_option maxRecDepth 100000 in
theorem fmo_X11_tunings : fMok fd_X11_tunings := ⟨(fmj_6 99 rfl rfl), fin_11, by decide +kernel, ⟨by decide +kernel, by decide +kernel⟩, by decide +kernel⟩
set_option maxRecDepth 100000 in
theorem fmo_X11_past : fMok fd_X11_past := ⟨(fmj_6 108 rfl rfl), fin_11, by decide +kernel, ⟨by decide +kernel, by decide +kernel⟩, by decide +kernel⟩
set_option maxRecDepth 100000 in
theorem fmo_X11_bag : fMok fd_X11_bag := ⟨(fmj_6 113 rfl rfl), fin_11, by decide +kernel, ⟨by decide +kernel, by decide +kernel⟩, by decide +kernel⟩
set_option maxRecDepth 100000 in
theorem fmo_X11_chance : fMok fd_X11_chance := ⟨(fmj_6 141 rfl rfl), fin_11, by decide +kernel, ⟨by decide +kernel, by decide +kernel⟩, by decide +kernel⟩
set_option maxRecDepth 100000 in
theorem fmo_X11_pupils : fMok fd_X11_pupils := ⟨(fmj_6 145 rfl rfl), fin_11, by decide +kernel, ⟨by decide +kernel, by decide +kernel⟩, by decide +kernel⟩
set_option maxRecDepth 100000 in
theorem fmo_X11_pupilOf : fMok fd_X11_pupilOf := ⟨(fmj_6 171 rfl rfl), fin_11, by decide +kernel, ⟨by decide +kernel, by decide +kernel⟩, by decide +kernel⟩
set_option maxRecDepth 100000 in
theorem fmo_X11_image : fMok fd_X11_image := ⟨(fmj_6 175 rfl rfl), fin_11, by decide +kernel, ⟨by decide +kernel, by decide +kernel⟩, by decide +kernel⟩
set_option maxRecDepth 100000 in
theorem fmo_X11_restore : fMok fd_X11_restore := ⟨(fmj_6 184 rfl rfl), fin_11, by decide +kernel, ⟨by decide +kernel, by decide +kernel⟩, by decide +kernel⟩
set_option maxRecDepth 100000 in
theorem fmo_X11_count : fMok fd_X11_count := ⟨(fmj_6 188 rfl rfl), fin_11, by decide +kernel, ⟨by decide +kernel, by decide +kernel⟩, by decide +kernel⟩
set_option maxRecDepth 100000 in
theorem fmo_X11_isAsked : fMok fd_X11_isAsked := ⟨(fmj_4 216 rfl rfl), fin_11, by decide +kernel, ⟨by decide +kernel, by decide +kernel⟩, by decide +kernel⟩
set_option maxRecDepth 100000 in
theorem fmo_X11_isKnowing : fMok fd_X11_isKnowing := ⟨(fmj_4 220 rfl rfl), fin_11, by decide +kernel, ⟨by decide +kernel, by decide +kernel⟩, by decide +kernel⟩
set_option maxRecDepth 100000 in
theorem fmo_X11_isWithin : fMok fd_X11_isWithin := ⟨(fmj_4 180 rfl rfl), fin_11, by decide +kernel, ⟨by decide +kernel, by decide +kernel⟩, by decide +kernel⟩
set_option maxRecDepth 100000 in
theorem fmo_X11_weekOf : fMok fd_X11_weekOf := ⟨(fmj_5 15 rfl rfl), fin_11, by decide +kernel, ⟨by decide +kernel, by decide +kernel⟩, by decide +kernel⟩
set_option maxRecDepth 100000 in
theorem fin_12 : Cond.initialized "TunerRoundsModel" ∈ fTb := (fmj_1 19 rfl rfl)
set_option maxRecDepth 100000 in
theorem fmo_X12_thrown : fMok fd_X12_thrown := ⟨(fmj_7 43 rfl rfl), fin_12, by decide +kernel, ⟨by decide +kernel, by decide +kernel⟩, by decide +kernel⟩
set_option maxRecDepth 100000 in
theorem fmo_X12_throwsIf : fMok fd_X12_throwsIf := ⟨(fmj_8 214 rfl rfl), fin_12, by decide +kernel, ⟨by decide +kernel, by decide +kernel⟩, by decide +kernel⟩
set_option maxRecDepth 100000 in
theorem fmo_X12_feed : fMok fd_X12_feed := ⟨(fmj_7 47 rfl rfl), fin_12, by decide +kernel, ⟨by decide +kernel, by decide +kernel⟩, by decide +kernel⟩
set_option maxRecDepth 100000 in
theorem fmo_X12_four : fMok fd_X12_four := ⟨(fmj_7 52 rfl rfl), fin_12, by decide +kernel, ⟨by decide +kernel, by decide +kernel⟩, by decide +kernel⟩
set_option maxRecDepth 100000 in
theorem fmo_X12_end : fMok fd_X12_end := ⟨(fmj_7 56 rfl rfl), fin_12, by decide +kernel, ⟨by decide +kernel, by decide +kernel⟩, by decide +kernel⟩
set_option maxRecDepth 100000 in
theorem fmo_X12_taken : fMok fd_X12_taken := ⟨(fmj_8 64 rfl rfl), fin_12, by decide +kernel, ⟨by decide +kernel, by decide +kernel⟩, by decide +kernel⟩
set_option maxRecDepth 100000 in
theorem fmo_X12_isIn : fMok fd_X12_isIn := ⟨(fmj_8 106 rfl rfl), fin_12, by decide +kernel, ⟨by decide +kernel, by decide +kernel⟩, by decide +kernel⟩
set_option maxRecDepth 100000 in
theorem fmo_X12_plain : fMok fd_X12_plain := ⟨(fmj_8 237 rfl rfl), fin_12, by decide +kernel, ⟨by decide +kernel, by decide +kernel⟩, by decide +kernel⟩
set_option maxRecDepth 100000 in
theorem fmo_X12_octet : fMok fd_X12_octet := ⟨(fmj_9 138 rfl rfl), fin_12, by decide +kernel, ⟨by decide +kernel, by decide +kernel⟩, by decide +kernel⟩
set_option maxRecDepth 100000 in
theorem fmo_X12_init : fMok fd_X12_init := ⟨(fmj_7 60 rfl rfl), fin_12, by decide +kernel, ⟨by decide +kernel, by decide +kernel⟩, by decide +kernel⟩
set_option maxRecDepth 100000 in
theorem fmo_X12_begin : fMok fd_X12_begin := ⟨(fmj_7 96 rfl rfl), fin_12, by decide +kernel, ⟨by decide +kernel, by decide +kernel⟩, by decide +kernel⟩
set_option maxRecDepth 100000 in
theorem fmo_X12_peek : fMok fd_X12_peek := ⟨(fmj_8 72 rfl rfl), fin_12, by decide +kernel, ⟨by decide +kernel, by decide +kernel⟩, by decide +kernel⟩
set_option maxRecDepth 100000 in
theorem fmo_X12_isSmall : fMok fd_X12_isSmall := ⟨(fmj_8 75 rfl rfl), fin_12, by decide +kernel, ⟨by decide +kernel, by decide +kernel⟩, by decide +kernel⟩
set_option maxRecDepth 100000 in
theorem fmo_X12_isDigit : fMok fd_X12_isDigit := ⟨(fmj_8 78 rfl rfl), fin_12, by decide +kernel, ⟨by decide +kernel, by decide +kernel⟩, by decide +kernel⟩
set_option maxRecDepth 100000 in
theorem fmo_X12_next : fMok fd_X12_next := ⟨(fmj_8 68 rfl rfl), fin_12, by decide +kernel, ⟨by decide +kernel, by decide +kernel⟩, by decide +kernel⟩
set_option maxRecDepth 100000 in
theorem fmo_X12_bad : fMok fd_X12_bad := ⟨(fmj_8 102 rfl rfl), fin_12, by decide +kernel, ⟨by decide +kernel, by decide +kernel⟩, by decide +kernel⟩
set_option maxRecDepth 100000 in
theorem fmo_X12_isWord : fMok fd_X12_isWord := ⟨(fmj_8 90 rfl rfl), fin_12, by decide +kernel, ⟨by decide +kernel, by decide +kernel⟩, by decide +kernel⟩
set_option maxRecDepth 100000 in
theorem fmo_X12_isSign : fMok fd_X12_isSign := ⟨(fmj_8 162 rfl rfl), fin_12, by decide +kernel, ⟨by decide +kernel, by decide +kernel⟩, by decide +kernel⟩
set_option maxRecDepth 100000 in
theorem fmo_X12_sign : fMok fd_X12_sign := ⟨(fmj_8 178 rfl rfl), fin_12, by decide +kernel, ⟨by decide +kernel, by decide +kernel⟩, by decide +kernel⟩
set_option maxRecDepth 100000 in
theorem fmo_X12_isName : fMok fd_X12_isName := ⟨(fmj_8 142 rfl rfl), fin_12, by decide +kernel, ⟨by decide +kernel, by decide +kernel⟩, by decide +kernel⟩
set_option maxRecDepth 100000 in
theorem fmo_X12_find : fMok fd_X12_find := ⟨(fmj_8 146 rfl rfl), fin_12, by decide +kernel, ⟨by decide +kernel, by decide +kernel⟩, by decide +kernel⟩
set_option maxRecDepth 100000 in
theorem fmo_X12_takes : fMok fd_X12_takes := ⟨(fmj_8 114 rfl rfl), fin_12, by decide +kernel, ⟨by decide +kernel, by decide +kernel⟩, by decide +kernel⟩
set_option maxRecDepth 100000 in
theorem fmo_X12_takesSigned : fMok fd_X12_takesSigned := ⟨(fmj_8 158 rfl rfl), fin_12, by decide +kernel, ⟨by decide +kernel, by decide +kernel⟩, by decide +kernel⟩
set_option maxRecDepth 100000 in
theorem fmo_X12_takesName : fMok fd_X12_takesName := ⟨(fmj_8 174 rfl rfl), fin_12, by decide +kernel, ⟨by decide +kernel, by decide +kernel⟩, by decide +kernel⟩
set_option maxRecDepth 100000 in
theorem fmo_X12_kind : fMok fd_X12_kind := ⟨(fmj_8 122 rfl rfl), fin_12, by decide +kernel, ⟨by decide +kernel, by decide +kernel⟩, by decide +kernel⟩
set_option maxRecDepth 100000 in
theorem fmo_X12_once : fMok fd_X12_once := ⟨(fmj_8 98 rfl rfl), fin_12, by decide +kernel, ⟨by decide +kernel, by decide +kernel⟩, by decide +kernel⟩
set_option maxRecDepth 100000 in
theorem fmo_X12_oneNumber : fMok fd_X12_oneNumber := ⟨(fmj_8 126 rfl rfl), fin_12, by decide +kernel, ⟨by decide +kernel, by decide +kernel⟩, by decide +kernel⟩
set_option maxRecDepth 100000 in
theorem fmo_X12_span : fMok fd_X12_span := ⟨(fmj_8 130 rfl rfl), fin_12, by decide +kernel, ⟨by decide +kernel, by decide +kernel⟩, by decide +kernel⟩
set_option maxRecDepth 100000 in
theorem fmo_X12_readHouse : fMok fd_X12_readHouse := ⟨(fmj_8 82 rfl rfl), fin_12, by decide +kernel, ⟨by decide +kernel, by decide +kernel⟩, by decide +kernel⟩
set_option maxRecDepth 100000 in
theorem fmo_X12_line : fMok fd_X12_line := ⟨(fmj_8 86 rfl rfl), fin_12, by decide +kernel, ⟨by decide +kernel, by decide +kernel⟩, by decide +kernel⟩
set_option maxRecDepth 100000 in
theorem fmo_X12_table : fMok fd_X12_table := ⟨(fmj_8 94 rfl rfl), fin_12, by decide +kernel, ⟨by decide +kernel, by decide +kernel⟩, by decide +kernel⟩
set_option maxRecDepth 100000 in
theorem fmo_X12_weeks : fMok fd_X12_weeks := ⟨(fmj_8 110 rfl rfl), fin_12, by decide +kernel, ⟨by decide +kernel, by decide +kernel⟩, by decide +kernel⟩
set_option maxRecDepth 100000 in
theorem fmo_X12_readFee : fMok fd_X12_readFee := ⟨(fmj_8 118 rfl rfl), fin_12, by decide +kernel, ⟨by decide +kernel, by decide +kernel⟩, by decide +kernel⟩
set_option maxRecDepth 100000 in
theorem fmo_X12_fresh : fMok fd_X12_fresh := ⟨(fmj_8 138 rfl rfl), fin_12, by decide +kernel, ⟨by decide +kernel, by decide +kernel⟩, by decide +kernel⟩
set_option maxRecDepth 100000 in
theorem fmo_X12_readPiano : fMok fd_X12_readPiano := ⟨(fmj_8 134 rfl rfl), fin_12, by decide +kernel, ⟨by decide +kernel, by decide +kernel⟩, by decide +kernel⟩
set_option maxRecDepth 100000 in
theorem fmo_X12_more : fMok fd_X12_more := ⟨(fmj_8 150 rfl rfl), fin_12, by decide +kernel, ⟨by decide +kernel, by decide +kernel⟩, by decide +kernel⟩
set_option maxRecDepth 100000 in
theorem fmo_X12_tuner : fMok fd_X12_tuner := ⟨(fmj_8 154 rfl rfl), fin_12, by decide +kernel, ⟨by decide +kernel, by decide +kernel⟩, by decide +kernel⟩
set_option maxRecDepth 100000 in
theorem fmo_X12_pupil : fMok fd_X12_pupil := ⟨(fmj_8 166 rfl rfl), fin_12, by decide +kernel, ⟨by decide +kernel, by decide +kernel⟩, by decide +kernel⟩
set_option maxRecDepth 100000 in
theorem fmo_X12_teach : fMok fd_X12_teach := ⟨(fmj_8 170 rfl rfl), fin_12, by decide +kernel, ⟨by decide +kernel, by decide +kernel⟩, by decide +kernel⟩
set_option maxRecDepth 100000 in
theorem fmo_X12_house : fMok fd_X12_house := ⟨(fmj_8 60 rfl rfl), fin_12, by decide +kernel, ⟨by decide +kernel, by decide +kernel⟩, by decide +kernel⟩
set_option maxRecDepth 100000 in
theorem fmo_X12_readRecords : fMok fd_X12_readRecords := ⟨(fmj_8 186 rfl rfl), fin_12, by decide +kernel, ⟨by decide +kernel, by decide +kernel⟩, by decide +kernel⟩
set_option maxRecDepth 100000 in
theorem fmo_X12_record : fMok fd_X12_record := ⟨(fmj_8 190 rfl rfl), fin_12, by decide +kernel, ⟨by decide +kernel, by decide +kernel⟩, by decide +kernel⟩
set_option maxRecDepth 100000 in
theorem fmo_X12_when : fMok fd_X12_when := ⟨(fmj_8 194 rfl rfl), fin_12, by decide +kernel, ⟨by decide +kernel, by decide +kernel⟩, by decide +kernel⟩
set_option maxRecDepth 100000 in
theorem fmo_X12_notes : fMok fd_X12_notes := ⟨(fmj_8 198 rfl rfl), fin_12, by decide +kernel, ⟨by decide +kernel, by decide +kernel⟩, by decide +kernel⟩
set_option maxRecDepth 100000 in
theorem fmo_X12_records : fMok fd_X12_records := ⟨(fmj_8 182 rfl rfl), fin_12, by decide +kernel, ⟨by decide +kernel, by decide +kernel⟩, by decide +kernel⟩
set_option maxRecDepth 100000 in
theorem fmo_X12_fault : fMok fd_X12_fault := ⟨(fmj_8 202 rfl rfl), fin_12, by decide +kernel, ⟨by decide +kernel, by decide +kernel⟩, by decide +kernel⟩
set_option maxRecDepth 100000 in
theorem fmo_X12_isPiano : fMok fd_X12_isPiano := ⟨(fmj_8 210 rfl rfl), fin_12, by decide +kernel, ⟨by decide +kernel, by decide +kernel⟩, by decide +kernel⟩
set_option maxRecDepth 100000 in
theorem fmo_X12_isTuner : fMok fd_X12_isTuner := ⟨(fmj_9 98 rfl rfl), fin_12, by decide +kernel, ⟨by decide +kernel, by decide +kernel⟩, by decide +kernel⟩
set_option maxRecDepth 100000 in
theorem fmo_X12_isDay : fMok fd_X12_isDay := ⟨(fmj_9 8 rfl rfl), fin_12, by decide +kernel, ⟨by decide +kernel, by decide +kernel⟩, by decide +kernel⟩
set_option maxRecDepth 100000 in
theorem fmo_X12_isKnown : fMok fd_X12_isKnown := ⟨(fmj_9 11 rfl rfl), fin_12, by decide +kernel, ⟨by decide +kernel, by decide +kernel⟩, by decide +kernel⟩
set_option maxRecDepth 100000 in
theorem fmo_X12_of : fMok fd_X12_of := ⟨(fmj_8 218 rfl rfl), fin_12, by decide +kernel, ⟨by decide +kernel, by decide +kernel⟩, by decide +kernel⟩
set_option maxRecDepth 100000 in
theorem fmo_X12_piano : fMok fd_X12_piano := ⟨(fmj_8 206 rfl rfl), fin_12, by decide +kernel, ⟨by decide +kernel, by decide +kernel⟩, by decide +kernel⟩
set_option maxRecDepth 100000 in
theorem fmo_X12_week : fMok fd_X12_week := ⟨(fmj_8 222 rfl rfl), fin_12, by decide +kernel, ⟨by decide +kernel, by decide +kernel⟩, by decide +kernel⟩
set_option maxRecDepth 100000 in
theorem fmo_X12_pitch : fMok fd_X12_pitch := ⟨(fmj_8 234 rfl rfl), fin_12, by decide +kernel, ⟨by decide +kernel, by decide +kernel⟩, by decide +kernel⟩
set_option maxRecDepth 100000 in
theorem fmo_X12_beatsOf : fMok fd_X12_beatsOf := ⟨(fmj_8 230 rfl rfl), fin_12, by decide +kernel, ⟨by decide +kernel, by decide +kernel⟩, by decide +kernel⟩
set_option maxRecDepth 100000 in
theorem fmo_X12_beats : fMok fd_X12_beats := ⟨(fmj_8 226 rfl rfl), fin_12, by decide +kernel, ⟨by decide +kernel, by decide +kernel⟩, by decide +kernel⟩
set_option maxRecDepth 100000 in
theorem fmo_X12_wolf : fMok fd_X12_wolf := ⟨(fmj_9 1 rfl rfl), fin_12, by decide +kernel, ⟨by decide +kernel, by decide +kernel⟩, by decide +kernel⟩
set_option maxRecDepth 100000 in
theorem fmo_X12_isOf : fMok fd_X12_isOf := ⟨(fmj_9 19 rfl rfl), fin_12, by decide +kernel, ⟨by decide +kernel, by decide +kernel⟩, by decide +kernel⟩
set_option maxRecDepth 100000 in
theorem fmo_X12_latest : fMok fd_X12_latest := ⟨(fmj_9 23 rfl rfl), fin_12, by decide +kernel, ⟨by decide +kernel, by decide +kernel⟩, by decide +kernel⟩
set_option maxRecDepth 100000 in
theorem fmo_X12_course : fMok fd_X12_course := ⟨(fmj_9 15 rfl rfl), fin_12, by decide +kernel, ⟨by decide +kernel, by decide +kernel⟩, by decide +kernel⟩
set_option maxRecDepth 100000 in
theorem fmo_X12_tune : fMok fd_X12_tune := ⟨(fmj_9 27 rfl rfl), fin_12, by decide +kernel, ⟨by decide +kernel, by decide +kernel⟩, by decide +kernel⟩
set_option maxRecDepth 100000 in
theorem fmo_X12_pass : fMok fd_X12_pass := ⟨(fmj_9 35 rfl rfl), fin_12, by decide +kernel, ⟨by decide +kernel, by decide +kernel⟩, by decide +kernel⟩
set_option maxRecDepth 100000 in
theorem fmo_X12_passTo : fMok fd_X12_passTo := ⟨(fmj_9 31 rfl rfl), fin_12, by decide +kernel, ⟨by decide +kernel, by decide +kernel⟩, by decide +kernel⟩
set_option maxRecDepth 100000 in
theorem fmo_X12_offsetOf : fMok fd_X12_offsetOf := ⟨(fmj_9 39 rfl rfl), fin_12, by decide +kernel, ⟨by decide +kernel, by decide +kernel⟩, by decide +kernel⟩
set_option maxRecDepth 100000 in
theorem fmo_X12_offOf : fMok fd_X12_offOf := ⟨(fmj_9 47 rfl rfl), fin_12, by decide +kernel, ⟨by decide +kernel, by decide +kernel⟩, by decide +kernel⟩
set_option maxRecDepth 100000 in
theorem fmo_X12_offset : fMok fd_X12_offset := ⟨(fmj_9 5 rfl rfl), fin_12, by decide +kernel, ⟨by decide +kernel, by decide +kernel⟩, by decide +kernel⟩
set_option maxRecDepth 100000 in
theorem fmo_X12_off : fMok fd_X12_off := ⟨(fmj_9 43 rfl rfl), fin_12, by decide +kernel, ⟨by decide +kernel, by decide +kernel⟩, by decide +kernel⟩
set_option maxRecDepth 100000 in
theorem fmo_X12_isBeyond : fMok fd_X12_isBeyond := ⟨(fmj_9 126 rfl rfl), fin_12, by decide +kernel, ⟨by decide +kernel, by decide +kernel⟩, by decide +kernel⟩
set_option maxRecDepth 100000 in
theorem fmo_X12_due : fMok fd_X12_due := ⟨(fmj_9 51 rfl rfl), fin_12, by decide +kernel, ⟨by decide +kernel, by decide +kernel⟩, by decide +kernel⟩
set_option maxRecDepth 100000 in
theorem fmo_X12_tuningsOf : fMok fd_X12_tuningsOf := ⟨(fmj_9 59 rfl rfl), fin_12, by decide +kernel, ⟨by decide +kernel, by decide +kernel⟩, by decide +kernel⟩
set_option maxRecDepth 100000 in
theorem fmo_X12_tunings : fMok fd_X12_tunings := ⟨(fmj_9 55 rfl rfl), fin_12, by decide +kernel, ⟨by decide +kernel, by decide +kernel⟩, by decide +kernel⟩
set_option maxRecDepth 100000 in
theorem fmo_X12_past : fMok fd_X12_past := ⟨(fmj_9 63 rfl rfl), fin_12, by decide +kernel, ⟨by decide +kernel, by decide +kernel⟩, by decide +kernel⟩
set_option maxRecDepth 100000 in
theorem fmo_X12_pairs : fMok fd_X12_pairs := ⟨(fmj_9 79 rfl rfl), fin_12, by decide +kernel, ⟨by decide +kernel, by decide +kernel⟩, by decide +kernel⟩
set_option maxRecDepth 100000 in
theorem fmo_X12_noPairs : fMok fd_X12_noPairs := ⟨(fmj_9 75 rfl rfl), fin_12, by decide +kernel, ⟨by decide +kernel, by decide +kernel⟩, by decide +kernel⟩
set_option maxRecDepth 100000 in
theorem fmo_X12_common : fMok fd_X12_common := ⟨(fmj_9 82 rfl rfl), fin_12, by decide +kernel, ⟨by decide +kernel, by decide +kernel⟩, by decide +kernel⟩
set_option maxRecDepth 100000 in
theorem fmo_X12_slips : fMok fd_X12_slips := ⟨(fmj_9 71 rfl rfl), fin_12, by decide +kernel, ⟨by decide +kernel, by decide +kernel⟩, by decide +kernel⟩
set_option maxRecDepth 100000 in
theorem fmo_X12_slipped : fMok fd_X12_slipped := ⟨(fmj_9 86 rfl rfl), fin_12, by decide +kernel, ⟨by decide +kernel, by decide +kernel⟩, by decide +kernel⟩
set_option maxRecDepth 100000 in
theorem fmo_X12_stove : fMok fd_X12_stove := ⟨(fmj_9 90 rfl rfl), fin_12, by decide +kernel, ⟨by decide +kernel, by decide +kernel⟩, by decide +kernel⟩
set_option maxRecDepth 100000 in
theorem fmo_X12_lean : fMok fd_X12_lean := ⟨(fmj_9 94 rfl rfl), fin_12, by decide +kernel, ⟨by decide +kernel, by decide +kernel⟩, by decide +kernel⟩
set_option maxRecDepth 100000 in
theorem fmo_X12_batch : fMok fd_X12_batch := ⟨(fmj_9 102 rfl rfl), fin_12, by decide +kernel, ⟨by decide +kernel, by decide +kernel⟩, by decide +kernel⟩
set_option maxRecDepth 100000 in
theorem fmo_X12_cracked : fMok fd_X12_cracked := ⟨(fmj_9 106 rfl rfl), fin_12, by decide +kernel, ⟨by decide +kernel, by decide +kernel⟩, by decide +kernel⟩
set_option maxRecDepth 100000 in
theorem fmo_X12_cracks : fMok fd_X12_cracks := ⟨(fmj_9 110 rfl rfl), fin_12, by decide +kernel, ⟨by decide +kernel, by decide +kernel⟩, by decide +kernel⟩
set_option maxRecDepth 100000 in
theorem fmo_X12_isTunedIn : fMok fd_X12_isTunedIn := ⟨(fmj_9 122 rfl rfl), fin_12, by decide +kernel, ⟨by decide +kernel, by decide +kernel⟩, by decide +kernel⟩
set_option maxRecDepth 100000 in
theorem fmo_X12_weightOf : fMok fd_X12_weightOf := ⟨(fmj_9 118 rfl rfl), fin_12, by decide +kernel, ⟨by decide +kernel, by decide +kernel⟩, by decide +kernel⟩
set_option maxRecDepth 100000 in
theorem fmo_X12_weight : fMok fd_X12_weight := ⟨(fmj_9 114 rfl rfl), fin_12, by decide +kernel, ⟨by decide +kernel, by decide +kernel⟩, by decide +kernel⟩
set_option maxRecDepth 100000 in
theorem fmo_X12_tells : fMok fd_X12_tells := ⟨(fmj_9 134 rfl rfl), fin_12, by decide +kernel, ⟨by decide +kernel, by decide +kernel⟩, by decide +kernel⟩
set_option maxRecDepth 100000 in
theorem fmo_X12_live : fMok fd_X12_live := ⟨(fmj_9 142 rfl rfl), fin_12, by decide +kernel, ⟨by decide +kernel, by decide +kernel⟩, by decide +kernel⟩
set_option maxRecDepth 100000 in
theorem fmo_X12_way : fMok fd_X12_way := ⟨(fmj_9 154 rfl rfl), fin_12, by decide +kernel, ⟨by decide +kernel, by decide +kernel⟩, by decide +kernel⟩
set_option maxRecDepth 100000 in
theorem fmo_X12_done : fMok fd_X12_done := ⟨(fmj_9 158 rfl rfl), fin_12, by decide +kernel, ⟨by decide +kernel, by decide +kernel⟩, by decide +kernel⟩
set_option maxRecDepth 100000 in
theorem fmo_X12_orders : fMok fd_X12_orders := ⟨(fmj_9 146 rfl rfl), fin_12, by decide +kernel, ⟨by decide +kernel, by decide +kernel⟩, by decide +kernel⟩
set_option maxRecDepth 100000 in
theorem fmo_X12_consider : fMok fd_X12_consider := ⟨(fmj_9 150 rfl rfl), fin_12, by decide +kernel, ⟨by decide +kernel, by decide +kernel⟩, by decide +kernel⟩
set_option maxRecDepth 100000 in
theorem fmo_X12_round : fMok fd_X12_round := ⟨(fmj_9 130 rfl rfl), fin_12, by decide +kernel, ⟨by decide +kernel, by decide +kernel⟩, by decide +kernel⟩
set_option maxRecDepth 100000 in
theorem fmo_X12_roundAt : fMok fd_X12_roundAt := ⟨(fmj_9 163 rfl rfl), fin_12, by decide +kernel, ⟨by decide +kernel, by decide +kernel⟩, by decide +kernel⟩
set_option maxRecDepth 100000 in
theorem fmo_X12_home : fMok fd_X12_home := ⟨(fmj_9 167 rfl rfl), fin_12, by decide +kernel, ⟨by decide +kernel, by decide +kernel⟩, by decide +kernel⟩
set_option maxRecDepth 100000 in
theorem fmo_X12_walked : fMok fd_X12_walked := ⟨(fmj_9 171 rfl rfl), fin_12, by decide +kernel, ⟨by decide +kernel, by decide +kernel⟩, by decide +kernel⟩
set_option maxRecDepth 100000 in
theorem fmo_X12_sets : fMok fd_X12_sets := ⟨(fmj_9 179 rfl rfl), fin_12, by decide +kernel, ⟨by decide +kernel, by decide +kernel⟩, by decide +kernel⟩
set_option maxRecDepth 100000 in
theorem fmo_X12_sumOf : fMok fd_X12_sumOf := ⟨(fmj_9 183 rfl rfl), fin_12, by decide +kernel, ⟨by decide +kernel, by decide +kernel⟩, by decide +kernel⟩
set_option maxRecDepth 100000 in
theorem fmo_X12_two : fMok fd_X12_two := ⟨(fmj_9 175 rfl rfl), fin_12, by decide +kernel, ⟨by decide +kernel, by decide +kernel⟩, by decide +kernel⟩
set_option maxRecDepth 100000 in
theorem fmo_X12_bits : fMok fd_X12_bits := ⟨(fmj_9 190 rfl rfl), fin_12, by decide +kernel, ⟨by decide +kernel, by decide +kernel⟩, by decide +kernel⟩
set_option maxRecDepth 100000 in
theorem fmo_X12_festival : fMok fd_X12_festival := ⟨(fmj_9 187 rfl rfl), fin_12, by decide +kernel, ⟨by decide +kernel, by decide +kernel⟩, by decide +kernel⟩
set_option maxRecDepth 100000 in
theorem fmo_X12_unready : fMok fd_X12_unready := ⟨(fmj_9 194 rfl rfl), fin_12, by decide +kernel, ⟨by decide +kernel, by decide +kernel⟩, by decide +kernel⟩
set_option maxRecDepth 100000 in
theorem fmo_X12_whose : fMok fd_X12_whose := ⟨(fmj_9 198 rfl rfl), fin_12, by decide +kernel, ⟨by decide +kernel, by decide +kernel⟩, by decide +kernel⟩
set_option maxRecDepth 100000 in
theorem fmo_X12_blame : fMok fd_X12_blame := ⟨(fmj_9 202 rfl rfl), fin_12, by decide +kernel, ⟨by decide +kernel, by decide +kernel⟩, by decide +kernel⟩
set_option maxRecDepth 100000 in
theorem fmo_X12_feeOf : fMok fd_X12_feeOf := ⟨(fmj_9 67 rfl rfl), fin_12, by decide +kernel, ⟨by decide +kernel, by decide +kernel⟩, by decide +kernel⟩
set_option maxRecDepth 100000 in
theorem fmo_X12_fee : fMok fd_X12_fee := ⟨(fmj_9 206 rfl rfl), fin_12, by decide +kernel, ⟨by decide +kernel, by decide +kernel⟩, by decide +kernel⟩
set_option maxRecDepth 100000 in
theorem fmo_X12_isFree : fMok fd_X12_isFree := ⟨(fmj_9 214 rfl rfl), fin_12, by decide +kernel, ⟨by decide +kernel, by decide +kernel⟩, by decide +kernel⟩
set_option maxRecDepth 100000 in
theorem fmo_X12_owed : fMok fd_X12_owed := ⟨(fmj_9 210 rfl rfl), fin_12, by decide +kernel, ⟨by decide +kernel, by decide +kernel⟩, by decide +kernel⟩
set_option maxRecDepth 100000 in
theorem fmo_X12_free : fMok fd_X12_free := ⟨(fmj_9 218 rfl rfl), fin_12, by decide +kernel, ⟨by decide +kernel, by decide +kernel⟩, by decide +kernel⟩
set_option maxRecDepth 100000 in
theorem fmo_X12_part : fMok fd_X12_part := ⟨(fmj_9 228 rfl rfl), fin_12, by decide +kernel, ⟨by decide +kernel, by decide +kernel⟩, by decide +kernel⟩
set_option maxRecDepth 100000 in
theorem fmo_X12_bag : fMok fd_X12_bag := ⟨(fmj_9 222 rfl rfl), fin_12, by decide +kernel, ⟨by decide +kernel, by decide +kernel⟩, by decide +kernel⟩
set_option maxRecDepth 100000 in
theorem fmo_X12_chance : fMok fd_X12_chance := ⟨(fmj_9 233 rfl rfl), fin_12, by decide +kernel, ⟨by decide +kernel, by decide +kernel⟩, by decide +kernel⟩
set_option maxRecDepth 100000 in
theorem fmo_X12_pupils : fMok fd_X12_pupils := ⟨(fmj_9 237 rfl rfl), fin_12, by decide +kernel, ⟨by decide +kernel, by decide +kernel⟩, by decide +kernel⟩
set_option maxRecDepth 100000 in
theorem fmo_X12_pupilOf : fMok fd_X12_pupilOf := ⟨(fmj_10 1 rfl rfl), fin_12, by decide +kernel, ⟨by decide +kernel, by decide +kernel⟩, by decide +kernel⟩
set_option maxRecDepth 100000 in
theorem fmo_X12_image : fMok fd_X12_image := ⟨(fmj_10 5 rfl rfl), fin_12, by decide +kernel, ⟨by decide +kernel, by decide +kernel⟩, by decide +kernel⟩
set_option maxRecDepth 100000 in
theorem fmo_X12_restore : fMok fd_X12_restore := ⟨(fmj_10 9 rfl rfl), fin_12, by decide +kernel, ⟨by decide +kernel, by decide +kernel⟩, by decide +kernel⟩
set_option maxRecDepth 100000 in
theorem fmo_X12_count : fMok fd_X12_count := ⟨(fmj_10 13 rfl rfl), fin_12, by decide +kernel, ⟨by decide +kernel, by decide +kernel⟩, by decide +kernel⟩
set_option maxRecDepth 100000 in
theorem fin_13 : Cond.initialized "java/lang/Integer" ∈ fTb := (fmj_1 26 rfl rfl)
set_option maxRecDepth 100000 in
theorem fmo_J6_bitCount_0f7a4 : fMok fd_J6_bitCount_0f7a4 := ⟨(fmj_6 24 rfl rfl), fin_13, by decide +kernel, ⟨by decide +kernel, by decide +kernel⟩, by decide +kernel⟩
set_option maxRecDepth 100000 in
theorem fin_14 : Cond.initialized "java/lang/Math" ∈ fTb := (fmj_1 24 rfl rfl)
set_option maxRecDepth 100000 in
theorem fmo_J9_abs_0f7a4 : fMok fd_J9_abs_0f7a4 := ⟨(fmj_4 199 rfl rfl), fin_14, by decide +kernel, ⟨by decide +kernel, by decide +kernel⟩, by decide +kernel⟩
set_option maxRecDepth 100000 in
theorem fmo_J9_abs_067f4 : fMok fd_J9_abs_067f4 := ⟨(fmj_5 88 rfl rfl), fin_14, by decide +kernel, ⟨by decide +kernel, by decide +kernel⟩, by decide +kernel⟩
set_option maxRecDepth 100000 in
theorem fmo_J9_max_7cf53 : fMok fd_J9_max_7cf53 := ⟨(fmj_5 34 rfl rfl), fin_14, by decide +kernel, ⟨by decide +kernel, by decide +kernel⟩, by decide +kernel⟩
set_option maxRecDepth 100000 in
theorem fmo_J9_min_7cf53 : fMok fd_J9_min_7cf53 := ⟨(fmj_4 12 rfl rfl), fin_14, by decide +kernel, ⟨by decide +kernel, by decide +kernel⟩, by decide +kernel⟩
set_option maxRecDepth 100000 in
theorem fin_15 : Cond.initialized "java/util/Arrays" ∈ fTb := (fmj_1 8 rfl rfl)
set_option maxRecDepth 100000 in
theorem fmo_J7_fill_53178 : fMok fd_J7_fill_53178 := ⟨(fmj_1 147 rfl rfl), fin_15, by decide +kernel, ⟨by decide +kernel, by decide +kernel⟩, by decide +kernel⟩
set_option maxRecDepth 100000 in
theorem fin_16 : Cond.initialized "TunerRoundsLaw" ∈ fTb := (fmj_1 0 rfl rfl)
set_option maxRecDepth 100000 in
theorem fmo_L_piano : fMok fd_L_piano := ⟨(fmj_6 195 rfl rfl), fin_16, by decide +kernel, ⟨by decide +kernel, by decide +kernel⟩, by decide +kernel⟩
set_option maxRecDepth 100000 in
theorem fmo_L_offset : fMok fd_L_offset := ⟨(fmj_6 218 rfl rfl), fin_16, by decide +kernel, ⟨by decide +kernel, by decide +kernel⟩, by decide +kernel⟩
set_option maxRecDepth 100000 in
theorem fmo_L_slipped : fMok fd_L_slipped := ⟨(fmj_6 229 rfl rfl), fin_16, by decide +kernel, ⟨by decide +kernel, by decide +kernel⟩, by decide +kernel⟩
set_option maxRecDepth 100000 in
theorem fmo_L_stove : fMok fd_L_stove := ⟨(fmj_6 236 rfl rfl), fin_16, by decide +kernel, ⟨by decide +kernel, by decide +kernel⟩, by decide +kernel⟩
set_option maxRecDepth 100000 in
theorem fmo_L_lean : fMok fd_L_lean := ⟨(fmj_7 14 rfl rfl), fin_16, by decide +kernel, ⟨by decide +kernel, by decide +kernel⟩, by decide +kernel⟩
set_option maxRecDepth 100000 in
theorem fmo_L_owed : fMok fd_L_owed := ⟨(fmj_7 25 rfl rfl), fin_16, by decide +kernel, ⟨by decide +kernel, by decide +kernel⟩, by decide +kernel⟩
