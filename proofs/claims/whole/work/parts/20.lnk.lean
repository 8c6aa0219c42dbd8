set_option maxRecDepth 100000 in
theorem fe_X0_3 : fLok RX0 3 (4, 0, 0, 0, 0) := ⟨(fmj_2 171 rfl rfl), (fmj_1 33 rfl rfl), (fmj_1 34 rfl rfl)⟩
set_option maxRecDepth 100000 in
theorem fe_X0_9 : fLok RX0 9 (0, 0, 0, 2, 0) := ⟨RX0, TX0, 3, fcl_0, by decide, (fmj_2 172 rfl rfl), rfl, tyX0 0, tyX0_ok 0 (by decide), Or.inl ⟨_, rfl⟩⟩
set_option maxRecDepth 100000 in
theorem fe_X0_15 : fLok RX0 15 (0, 0, 1, 2, 0) := ⟨RX0, TX0, 3, fcl_0, by decide, (fmj_2 173 rfl rfl), rfl, tyX0 1, tyX0_ok 1 (by decide), Or.inl ⟨_, rfl⟩⟩
set_option maxRecDepth 100000 in
theorem fe_X0_19 : fLok RX0 19 (0, 0, 2, 2, 0) := ⟨RX0, TX0, 3, fcl_0, by decide, (fmj_2 174 rfl rfl), rfl, tyX0 2, tyX0_ok 2 (by decide), Or.inl ⟨_, rfl⟩⟩
set_option maxRecDepth 100000 in
theorem fe_X0_23 : fLok RX0 23 (0, 6, 8, 0, 0) := ⟨RX6, TX6, 9, fcl_6, by decide, (fmj_2 35 rfl rfl), rfl, tyX6 8, tyX6_ok 8 (by decide), rfl⟩
set_option maxRecDepth 100000 in
theorem fe_X0_29 : fLok RX0 29 (1, 82, 4, 6, 0) := ⟨(show fMok fd_X6_isOf from fmo_X6_isOf), (show fPar fd_X6_isOf 4 by unfold fPar; decide +kernel), (fmj_6 41 rfl rfl), (fmj_4 230 rfl rfl), RX6, TX6, 9, rfl, (fmj_4 231 rfl rfl)⟩
set_option maxRecDepth 100000 in
theorem fe_X0_33 : fLok RX0 33 (1, 2, 2, 0, 0) := ⟨(show fMok fd_X0_isReady from fmo_X0_isReady), (show fPar fd_X0_isReady 2 by unfold fPar; decide +kernel), (fmj_6 42 rfl rfl), (fmj_6 44 rfl rfl), RX0, TX0, 3, rfl, (fmj_0 50 rfl rfl)⟩
set_option maxRecDepth 100000 in
theorem fe_X0_37 : fLok RX0 37 (0, 6, 2, 2, 0) := ⟨RX6, TX6, 9, fcl_6, by decide, (fmj_2 16 rfl rfl), rfl, tyX6 2, tyX6_ok 2 (by decide), Or.inr ⟨_, rfl⟩⟩
set_option maxRecDepth 100000 in
theorem fe_X0_41 : fLok RX0 41 (0, 6, 1, 2, 0) := ⟨RX6, TX6, 9, fcl_6, by decide, (fmj_2 12 rfl rfl), rfl, tyX6 1, tyX6_ok 1 (by decide), Or.inr ⟨_, rfl⟩⟩
set_option maxRecDepth 100000 in
theorem fe_X0_44 : fLok RX0 44 (1, 109, 3, 8, 0) := ⟨(show fMok fd_X8_look from fmo_X8_look), (show fPar fd_X8_look 3 by unfold fPar; decide +kernel), (fmj_6 46 rfl rfl), (fmj_4 222 rfl rfl), RX8, TX8, 7, rfl, (fmj_4 223 rfl rfl)⟩
set_option maxRecDepth 100000 in
theorem fe_X0_50 : fLok RX0 50 (1, 112, 0, 8, 0) := ⟨(show fMok fd_X8_wasTuned from fmo_X8_wasTuned), (show fPar fd_X8_wasTuned 0 by unfold fPar; decide +kernel), (fmj_6 47 rfl rfl), (fmj_5 17 rfl rfl), RX8, TX8, 7, rfl, (fmj_5 18 rfl rfl)⟩
set_option maxRecDepth 100000 in
theorem fe_X0_54 : fLok RX0 54 (1, 113, 0, 8, 0) := ⟨(show fMok fd_X8_tunedOn from fmo_X8_tunedOn), (show fPar fd_X8_tunedOn 0 by unfold fPar; decide +kernel), (fmj_6 48 rfl rfl), (fmj_6 49 rfl rfl), RX8, TX8, 7, rfl, (fmj_6 50 rfl rfl)⟩
set_option maxRecDepth 100000 in
theorem fe_X0_58 : fLok RX0 58 (1, 121, 2, 8, 0) := ⟨(show fMok fd_X8_isBeyond from fmo_X8_isBeyond), (show fPar fd_X8_isBeyond 2 by unfold fPar; decide +kernel), (fmj_6 52 rfl rfl), (fmj_5 45 rfl rfl), RX8, TX8, 7, rfl, (fmj_5 46 rfl rfl)⟩
set_option maxRecDepth 100000 in
theorem fe_X0_61 : fLok RX0 61 (1, 114, 1, 8, 0) := ⟨(show fMok fd_X8_leftAt from fmo_X8_leftAt), (show fPar fd_X8_leftAt 1 by unfold fPar; decide +kernel), (fmj_6 65 rfl rfl), (fmj_6 66 rfl rfl), RX8, TX8, 7, rfl, (fmj_6 67 rfl rfl)⟩
set_option maxRecDepth 100000 in
theorem fe_X0_65 : fLok RX0 65 (2, 311, 1, 0, 0) := ⟨(show fMok fd_J9_abs_0f7a4 from fmo_J9_abs_0f7a4), (show fPar fd_J9_abs_0f7a4 1 by unfold fPar; decide +kernel), (fmj_6 69 rfl rfl), (fmj_4 198 rfl rfl)⟩
set_option maxRecDepth 100000 in
theorem fe_X0_70 : fLok RX0 70 (1, 115, 0, 8, 0) := ⟨(show fMok fd_X8_ear from fmo_X8_ear), (show fPar fd_X8_ear 0 by unfold fPar; decide +kernel), (fmj_6 70 rfl rfl), (fmj_5 50 rfl rfl), RX8, TX8, 7, rfl, (fmj_5 51 rfl rfl)⟩
set_option maxRecDepth 100000 in
theorem fe_X0_73 : fLok RX0 73 (1, 120, 1, 8, 0) := ⟨(show fMok fd_X8_greatestUndamped from fmo_X8_greatestUndamped), (show fPar fd_X8_greatestUndamped 1 by unfold fPar; decide +kernel), (fmj_6 71 rfl rfl), (fmj_6 72 rfl rfl), RX8, TX8, 7, rfl, (fmj_6 73 rfl rfl)⟩
set_option maxRecDepth 100000 in
theorem fe_X0_76 : fLok RX0 76 (0, 2, 3, 2, 0) := ⟨RX2, TX2, 18, fcl_2, by decide, (fmj_1 163 rfl rfl), rfl, tyX2 3, tyX2_ok 3 (by decide), Or.inr ⟨_, rfl⟩⟩
set_option maxRecDepth 100000 in
theorem fe_X0_81 : fLok RX0 81 (1, 84, 5, 6, 0) := ⟨(show fMok fd_X6_hasWithin from fmo_X6_hasWithin), (show fPar fd_X6_hasWithin 5 by unfold fPar; decide +kernel), (fmj_6 95 rfl rfl), (fmj_5 128 rfl rfl), RX6, TX6, 9, rfl, (fmj_5 129 rfl rfl)⟩
set_option maxRecDepth 100000 in
theorem fe_X0_85 : fLok RX0 85 (1, 5, 2, 0, 0) := ⟨(show fMok fd_X0_isFree from fmo_X0_isFree), (show fPar fd_X0_isFree 2 by unfold fPar; decide +kernel), (fmj_6 91 rfl rfl), (fmj_6 93 rfl rfl), RX0, TX0, 3, rfl, (fmj_0 51 rfl rfl)⟩
set_option maxRecDepth 100000 in
theorem fe_X0_88 : fLok RX0 88 (1, 81, 2, 6, 0) := ⟨(show fMok fd_X6_isKnown from fmo_X6_isKnown), (show fPar fd_X6_isKnown 2 by unfold fPar; decide +kernel), (fmj_7 34 rfl rfl), (fmj_5 99 rfl rfl), RX6, TX6, 9, rfl, (fmj_5 100 rfl rfl)⟩
set_option maxRecDepth 100000 in
theorem fe_X0_91 : fLok RX0 91 (1, 8, 2, 0, 0) := ⟨(show fMok fd_X0_debtBy from fmo_X0_debtBy), (show fPar fd_X0_debtBy 2 by unfold fPar; decide +kernel), (fmj_7 35 rfl rfl), (fmj_7 37 rfl rfl), RX0, TX0, 3, rfl, (fmj_0 61 rfl rfl)⟩
set_option maxRecDepth 100000 in
theorem fe_X0_95 : fLok RX0 95 (0, 6, 0, 2, 0) := ⟨RX6, TX6, 9, fcl_6, by decide, (fmj_2 9 rfl rfl), rfl, tyX6 0, tyX6_ok 0 (by decide), Or.inr ⟨_, rfl⟩⟩
set_option maxRecDepth 100000 in
theorem fe_X0_98 : fLok RX0 98 (1, 42, 2, 2, 0) := ⟨(show fMok fd_X2_feeOf from fmo_X2_feeOf), (show fPar fd_X2_feeOf 2 by unfold fPar; decide +kernel), (fmj_7 39 rfl rfl), (fmj_6 80 rfl rfl), RX2, TX2, 18, rfl, (fmj_6 81 rfl rfl)⟩
set_option maxRecDepth 100000 in
theorem fe_X0_101 : fLok RX0 101 (0, 6, 4, 2, 0) := ⟨RX6, TX6, 9, fcl_6, by decide, (fmj_2 25 rfl rfl), rfl, tyX6 4, tyX6_ok 4 (by decide), Or.inr ⟨_, rfl⟩⟩
set_option maxRecDepth 100000 in
theorem fek_X0 : ∀ q ∈ fk_X0, fLok RX0 q.1 q.2 := List.forall_mem_cons.mpr ⟨fe_X0_3, List.forall_mem_cons.mpr ⟨fe_X0_9, List.forall_mem_cons.mpr ⟨fe_X0_15, List.forall_mem_cons.mpr ⟨fe_X0_19, List.forall_mem_cons.mpr ⟨fe_X0_23, List.forall_mem_cons.mpr ⟨fe_X0_29, List.forall_mem_cons.mpr ⟨fe_X0_33, List.forall_mem_cons.mpr ⟨fe_X0_37, List.forall_mem_cons.mpr ⟨fe_X0_41, List.forall_mem_cons.mpr ⟨fe_X0_44, List.forall_mem_cons.mpr ⟨fe_X0_50, List.forall_mem_cons.mpr ⟨fe_X0_54, List.forall_mem_cons.mpr ⟨fe_X0_58, List.forall_mem_cons.mpr ⟨fe_X0_61, List.forall_mem_cons.mpr ⟨fe_X0_65, List.forall_mem_cons.mpr ⟨fe_X0_70, List.forall_mem_cons.mpr ⟨fe_X0_73, List.forall_mem_cons.mpr ⟨fe_X0_76, List.forall_mem_cons.mpr ⟨fe_X0_81, List.forall_mem_cons.mpr ⟨fe_X0_85, List.forall_mem_cons.mpr ⟨fe_X0_88, List.forall_mem_cons.mpr ⟨fe_X0_91, List.forall_mem_cons.mpr ⟨fe_X0_95, List.forall_mem_cons.mpr ⟨fe_X0_98, List.forall_mem_cons.mpr ⟨fe_X0_101, fun _ h => absurd h List.not_mem_nil⟩⟩⟩⟩⟩⟩⟩⟩⟩⟩⟩⟩⟩⟩⟩⟩⟩⟩⟩⟩⟩⟩⟩⟩⟩
set_option maxRecDepth 100000 in
theorem fe_X1_3 : fLok RX1 3 (4, 0, 0, 0, 0) := ⟨(fmj_2 127 rfl rfl), (fmj_1 33 rfl rfl), (fmj_1 34 rfl rfl)⟩
set_option maxRecDepth 100000 in
theorem fe_X1_9 : fLok RX1 9 (0, 1, 2, 2, 0) := ⟨RX1, TX1, 11, fcl_1, by decide, (fmj_2 130 rfl rfl), rfl, tyX1 2, tyX1_ok 2 (by decide), Or.inr ⟨_, rfl⟩⟩
set_option maxRecDepth 100000 in
theorem fe_X1_15 : fLok RX1 15 (0, 1, 3, 2, 0) := ⟨RX1, TX1, 11, fcl_1, by decide, (fmj_2 131 rfl rfl), rfl, tyX1 3, tyX1_ok 3 (by decide), Or.inr ⟨_, rfl⟩⟩
set_option maxRecDepth 100000 in
theorem fe_X1_18 : fLok RX1 18 (0, 1, 4, 2, 0) := ⟨RX1, TX1, 11, fcl_1, by decide, (fmj_2 132 rfl rfl), rfl, tyX1 4, tyX1_ok 4 (by decide), Or.inr ⟨_, rfl⟩⟩
set_option maxRecDepth 100000 in
theorem fe_X1_21 : fLok RX1 21 (0, 1, 5, 2, 0) := ⟨RX1, TX1, 11, fcl_1, by decide, (fmj_2 133 rfl rfl), rfl, tyX1 5, tyX1_ok 5 (by decide), Or.inr ⟨_, rfl⟩⟩
set_option maxRecDepth 100000 in
theorem fe_X1_26 : fLok RX1 26 (0, 1, 6, 2, 0) := ⟨RX1, TX1, 11, fcl_1, by decide, (fmj_2 134 rfl rfl), rfl, tyX1 6, tyX1_ok 6 (by decide), Or.inr ⟨_, rfl⟩⟩
set_option maxRecDepth 100000 in
theorem fe_X1_29 : fLok RX1 29 (0, 1, 0, 2, 0) := ⟨RX1, TX1, 11, fcl_1, by decide, (fmj_2 128 rfl rfl), rfl, tyX1 0, tyX1_ok 0 (by decide), Or.inl ⟨_, rfl⟩⟩
set_option maxRecDepth 100000 in
theorem fe_X1_33 : fLok RX1 33 (0, 1, 1, 2, 0) := ⟨RX1, TX1, 11, fcl_1, by decide, (fmj_2 129 rfl rfl), rfl, tyX1 1, tyX1_ok 1 (by decide), Or.inl ⟨_, rfl⟩⟩
set_option maxRecDepth 100000 in
theorem fe_X1_37 : fLok RX1 37 (2, 312, 1, 0, 0) := ⟨(show fMok fd_J9_abs_067f4 from fmo_J9_abs_067f4), (show fPar fd_J9_abs_067f4 1 by unfold fPar; decide +kernel), (fmj_5 86 rfl rfl), (fmj_5 87 rfl rfl)⟩
set_option maxRecDepth 100000 in
theorem fe_X1_43 : fLok RX1 43 (0, 1, 9, 1, 0) := ⟨RX1, TX1, 11, fcl_1, by decide, (fmj_2 139 rfl rfl), rfl, tyX1 9, tyX1_ok 9 (by decide), rfl⟩
set_option maxRecDepth 100000 in
theorem fe_X1_47 : fLok RX1 47 (0, 1, 10, 1, 0) := ⟨RX1, TX1, 11, fcl_1, by decide, (fmj_2 141 rfl rfl), rfl, tyX1 10, tyX1_ok 10 (by decide), rfl⟩
set_option maxRecDepth 100000 in
theorem fe_X1_50 : fLok RX1 50 (2, 315, 2, 0, 0) := ⟨(show fMok fd_J7_fill_53178 from fmo_J7_fill_53178), (show fPar fd_J7_fill_53178 2 by unfold fPar; decide +kernel), (fmj_5 65 rfl rfl), (fmj_1 146 rfl rfl)⟩
set_option maxRecDepth 100000 in
theorem fe_X1_56 : fLok RX1 56 (0, 6, 8, 0, 0) := ⟨RX6, TX6, 9, fcl_6, by decide, (fmj_2 38 rfl rfl), rfl, tyX6 8, tyX6_ok 8 (by decide), rfl⟩
set_option maxRecDepth 100000 in
theorem fe_X1_60 : fLok RX1 60 (1, 82, 4, 6, 0) := ⟨(show fMok fd_X6_isOf from fmo_X6_isOf), (show fPar fd_X6_isOf 4 by unfold fPar; decide +kernel), (fmj_5 70 rfl rfl), (fmj_4 230 rfl rfl), RX6, TX6, 9, rfl, (fmj_4 231 rfl rfl)⟩
set_option maxRecDepth 100000 in
theorem fe_X1_64 : fLok RX1 64 (0, 6, 2, 2, 0) := ⟨RX6, TX6, 9, fcl_6, by decide, (fmj_2 17 rfl rfl), rfl, tyX6 2, tyX6_ok 2 (by decide), Or.inr ⟨_, rfl⟩⟩
set_option maxRecDepth 100000 in
theorem fe_X1_67 : fLok RX1 67 (1, 83, 4, 6, 0) := ⟨(show fMok fd_X6_latest from fmo_X6_latest), (show fPar fd_X6_latest 4 by unfold fPar; decide +kernel), (fmj_5 71 rfl rfl), (fmj_4 226 rfl rfl), RX6, TX6, 9, rfl, (fmj_4 227 rfl rfl)⟩
set_option maxRecDepth 100000 in
theorem fe_X1_71 : fLok RX1 71 (1, 13, 2, 1, 0) := ⟨(show fMok fd_X1_addPair from fmo_X1_addPair), (show fPar fd_X1_addPair 2 by unfold fPar; decide +kernel), (fmj_5 72 rfl rfl), (fmj_5 74 rfl rfl), RX1, TX1, 11, rfl, (fmj_0 29 rfl rfl)⟩
set_option maxRecDepth 100000 in
theorem fe_X1_75 : fLok RX1 75 (1, 79, 2, 6, 0) := ⟨(show fMok fd_X6_isTold from fmo_X6_isTold), (show fPar fd_X6_isTold 2 by unfold fPar; decide +kernel), (fmj_5 76 rfl rfl), (fmj_4 166 rfl rfl), RX6, TX6, 9, rfl, (fmj_4 167 rfl rfl)⟩
set_option maxRecDepth 100000 in
theorem fe_X1_79 : fLok RX1 79 (1, 80, 2, 6, 0) := ⟨(show fMok fd_X6_leftOf from fmo_X6_leftOf), (show fPar fd_X6_leftOf 2 by unfold fPar; decide +kernel), (fmj_5 77 rfl rfl), (fmj_4 234 rfl rfl), RX6, TX6, 9, rfl, (fmj_4 235 rfl rfl)⟩
set_option maxRecDepth 100000 in
theorem fe_X1_83 : fLok RX1 83 (1, 11, 0, 1, 0) := ⟨(show fMok fd_X1_clearFalls from fmo_X1_clearFalls), (show fPar fd_X1_clearFalls 0 by unfold fPar; decide +kernel), (fmj_5 61 rfl rfl), (fmj_5 63 rfl rfl), RX1, TX1, 11, rfl, (fmj_0 27 rfl rfl)⟩
set_option maxRecDepth 100000 in
theorem fe_X1_86 : fLok RX1 86 (1, 12, 2, 1, 0) := ⟨(show fMok fd_X1_addPairs from fmo_X1_addPairs), (show fPar fd_X1_addPairs 2 by unfold fPar; decide +kernel), (fmj_5 66 rfl rfl), (fmj_5 68 rfl rfl), RX1, TX1, 11, rfl, (fmj_0 28 rfl rfl)⟩
set_option maxRecDepth 100000 in
theorem fe_X1_89 : fLok RX1 89 (1, 15, 2, 1, 0) := ⟨(show fMok fd_X1_isFaster from fmo_X1_isFaster), (show fPar fd_X1_isFaster 2 by unfold fPar; decide +kernel), (fmj_5 78 rfl rfl), (fmj_5 80 rfl rfl), RX1, TX1, 11, rfl, (fmj_0 30 rfl rfl)⟩
set_option maxRecDepth 100000 in
theorem fe_X1_92 : fLok RX1 92 (1, 10, 2, 1, 0) := ⟨(show fMok fd_X1_keepLeast from fmo_X1_keepLeast), (show fPar fd_X1_keepLeast 2 by unfold fPar; decide +kernel), (fmj_5 82 rfl rfl), (fmj_5 84 rfl rfl), RX1, TX1, 11, rfl, (fmj_0 31 rfl rfl)⟩
set_option maxRecDepth 100000 in
theorem fe_X1_96 : fLok RX1 96 (0, 1, 7, 0, 0) := ⟨RX1, TX1, 11, fcl_1, by decide, (fmj_2 135 rfl rfl), rfl, tyX1 7, tyX1_ok 7 (by decide), rfl⟩
set_option maxRecDepth 100000 in
theorem fe_X1_99 : fLok RX1 99 (0, 1, 8, 0, 0) := ⟨RX1, TX1, 11, fcl_1, by decide, (fmj_2 137 rfl rfl), rfl, tyX1 8, tyX1_ok 8 (by decide), rfl⟩
set_option maxRecDepth 100000 in
theorem fe_X1_102 : fLok RX1 102 (1, 17, 2, 1, 0) := ⟨(show fMok fd_X1_sumFallsOf from fmo_X1_sumFallsOf), (show fPar fd_X1_sumFallsOf 2 by unfold fPar; decide +kernel), (fmj_7 5 rfl rfl), (fmj_7 7 rfl rfl), RX1, TX1, 11, rfl, (fmj_0 60 rfl rfl)⟩
set_option maxRecDepth 100000 in
theorem fe_X1_105 : fLok RX1 105 (2, 18, 1, 1, 0) := ⟨(show fMok fd_X1_sumOf from fmo_X1_sumOf), (show fPar fd_X1_sumOf 1 by unfold fPar; decide +kernel), (fmj_7 9 rfl rfl), (fmj_7 10 rfl rfl)⟩
set_option maxRecDepth 100000 in
theorem fe_X1_109 : fLok RX1 109 (0, 2, 13, 0, 0) := ⟨RX2, TX2, 18, fcl_2, by decide, (fmj_1 187 rfl rfl), rfl, tyX2 13, tyX2_ok 13 (by decide), rfl⟩
set_option maxRecDepth 100000 in
theorem fe_X1_113 : fLok RX1 113 (1, 29, 2, 2, 0) := ⟨(show fMok fd_X2_fact from fmo_X2_fact), (show fPar fd_X2_fact 2 by unfold fPar; decide +kernel), (fmj_5 97 rfl rfl), (fmj_4 143 rfl rfl), RX2, TX2, 18, rfl, (fmj_4 144 rfl rfl)⟩
set_option maxRecDepth 100000 in
theorem fe_X1_116 : fLok RX1 116 (0, 6, 0, 2, 0) := ⟨RX6, TX6, 9, fcl_6, by decide, (fmj_2 10 rfl rfl), rfl, tyX6 0, tyX6_ok 0 (by decide), Or.inr ⟨_, rfl⟩⟩
set_option maxRecDepth 100000 in
theorem fe_X1_119 : fLok RX1 119 (0, 6, 4, 2, 0) := ⟨RX6, TX6, 9, fcl_6, by decide, (fmj_2 26 rfl rfl), rfl, tyX6 4, tyX6_ok 4 (by decide), Or.inr ⟨_, rfl⟩⟩
set_option maxRecDepth 100000 in
theorem fe_X1_122 : fLok RX1 122 (1, 81, 2, 6, 0) := ⟨(show fMok fd_X6_isKnown from fmo_X6_isKnown), (show fPar fd_X6_isKnown 2 by unfold fPar; decide +kernel), (fmj_5 98 rfl rfl), (fmj_5 99 rfl rfl), RX6, TX6, 9, rfl, (fmj_5 100 rfl rfl)⟩
set_option maxRecDepth 100000 in
theorem fe_X1_125 : fLok RX1 125 (0, 6, 1, 2, 0) := ⟨RX6, TX6, 9, fcl_6, by decide, (fmj_2 13 rfl rfl), rfl, tyX6 1, tyX6_ok 1 (by decide), Or.inr ⟨_, rfl⟩⟩
set_option maxRecDepth 100000 in
theorem fe_X1_128 : fLok RX1 128 (1, 22, 2, 1, 0) := ⟨(show fMok fd_X1_putInOrder from fmo_X1_putInOrder), (show fPar fd_X1_putInOrder 2 by unfold fPar; decide +kernel), (fmj_5 110 rfl rfl), (fmj_5 112 rfl rfl), RX1, TX1, 11, rfl, (fmj_0 32 rfl rfl)⟩
set_option maxRecDepth 100000 in
theorem fe_X1_131 : fLok RX1 131 (1, 23, 2, 1, 0) := ⟨(show fMok fd_X1_isCrack from fmo_X1_isCrack), (show fPar fd_X1_isCrack 2 by unfold fPar; decide +kernel), (fmj_5 114 rfl rfl), (fmj_5 116 rfl rfl), RX1, TX1, 11, rfl, (fmj_0 33 rfl rfl)⟩
set_option maxRecDepth 100000 in
theorem fek_X1 : ∀ q ∈ fk_X1, fLok RX1 q.1 q.2 := List.forall_mem_cons.mpr ⟨fe_X1_3, List.forall_mem_cons.mpr ⟨fe_X1_9, List.forall_mem_cons.mpr ⟨fe_X1_15, List.forall_mem_cons.mpr ⟨fe_X1_18, List.forall_mem_cons.mpr ⟨fe_X1_21, List.forall_mem_cons.mpr ⟨fe_X1_26, List.forall_mem_cons.mpr ⟨fe_X1_29, List.forall_mem_cons.mpr ⟨fe_X1_33, List.forall_mem_cons.mpr ⟨fe_X1_37, List.forall_mem_cons.mpr ⟨fe_X1_43, List.forall_mem_cons.mpr ⟨fe_X1_47, List.forall_mem_cons.mpr ⟨fe_X1_50, List.forall_mem_cons.mpr ⟨fe_X1_56, List.forall_mem_cons.mpr ⟨fe_X1_60, List.forall_mem_cons.mpr ⟨fe_X1_64, List.forall_mem_cons.mpr ⟨fe_X1_67, List.forall_mem_cons.mpr ⟨fe_X1_71, List.forall_mem_cons.mpr ⟨fe_X1_75, List.forall_mem_cons.mpr ⟨fe_X1_79, List.forall_mem_cons.mpr ⟨fe_X1_83, List.forall_mem_cons.mpr ⟨fe_X1_86, List.forall_mem_cons.mpr ⟨fe_X1_89, List.forall_mem_cons.mpr ⟨fe_X1_92, List.forall_mem_cons.mpr ⟨fe_X1_96, List.forall_mem_cons.mpr ⟨fe_X1_99, List.forall_mem_cons.mpr ⟨fe_X1_102, List.forall_mem_cons.mpr ⟨fe_X1_105, List.forall_mem_cons.mpr ⟨fe_X1_109, List.forall_mem_cons.mpr ⟨fe_X1_113, List.forall_mem_cons.mpr ⟨fe_X1_116, List.forall_mem_cons.mpr ⟨fe_X1_119, List.forall_mem_cons.mpr ⟨fe_X1_122, List.forall_mem_cons.mpr ⟨fe_X1_125, List.forall_mem_cons.mpr ⟨fe_X1_128, List.forall_mem_cons.mpr ⟨fe_X1_131, fun _ h => absurd h List.not_mem_nil⟩⟩⟩⟩⟩⟩⟩⟩⟩⟩⟩⟩⟩⟩⟩⟩⟩⟩⟩⟩⟩⟩⟩⟩⟩⟩⟩⟩⟩⟩⟩⟩⟩⟩⟩
set_option maxRecDepth 100000 in
theorem fe_X2_3 : fLok RX2 3 (4, 0, 0, 0, 0) := ⟨(fmj_1 140 rfl rfl), (fmj_1 33 rfl rfl), (fmj_1 34 rfl rfl)⟩
set_option maxRecDepth 100000 in
theorem fe_X2_9 : fLok RX2 9 (0, 2, 0, 2, 0) := ⟨RX2, TX2, 18, fcl_2, by decide, (fmj_1 153 rfl rfl), rfl, tyX2 0, tyX2_ok 0 (by decide), Or.inr ⟨_, rfl⟩⟩
set_option maxRecDepth 100000 in
theorem fe_X2_15 : fLok RX2 15 (0, 2, 1, 2, 0) := ⟨RX2, TX2, 18, fcl_2, by decide, (fmj_1 155 rfl rfl), rfl, tyX2 1, tyX2_ok 1 (by decide), Or.inr ⟨_, rfl⟩⟩
set_option maxRecDepth 100000 in
theorem fe_X2_18 : fLok RX2 18 (0, 2, 2, 2, 0) := ⟨RX2, TX2, 18, fcl_2, by decide, (fmj_1 159 rfl rfl), rfl, tyX2 2, tyX2_ok 2 (by decide), Or.inr ⟨_, rfl⟩⟩
set_option maxRecDepth 100000 in
theorem fe_X2_21 : fLok RX2 21 (0, 2, 3, 2, 0) := ⟨RX2, TX2, 18, fcl_2, by decide, (fmj_1 162 rfl rfl), rfl, tyX2 3, tyX2_ok 3 (by decide), Or.inr ⟨_, rfl⟩⟩
set_option maxRecDepth 100000 in
theorem fe_X2_24 : fLok RX2 24 (0, 2, 4, 2, 0) := ⟨RX2, TX2, 18, fcl_2, by decide, (fmj_1 166 rfl rfl), rfl, tyX2 4, tyX2_ok 4 (by decide), Or.inr ⟨_, rfl⟩⟩
set_option maxRecDepth 100000 in
theorem fe_X2_27 : fLok RX2 27 (0, 2, 5, 2, 0) := ⟨RX2, TX2, 18, fcl_2, by decide, (fmj_1 168 rfl rfl), rfl, tyX2 5, tyX2_ok 5 (by decide), Or.inr ⟨_, rfl⟩⟩
set_option maxRecDepth 100000 in
theorem fe_X2_30 : fLok RX2 30 (0, 2, 6, 2, 0) := ⟨RX2, TX2, 18, fcl_2, by decide, (fmj_1 169 rfl rfl), rfl, tyX2 6, tyX2_ok 6 (by decide), Or.inr ⟨_, rfl⟩⟩
set_option maxRecDepth 100000 in
theorem fe_X2_33 : fLok RX2 33 (0, 2, 7, 2, 0) := ⟨RX2, TX2, 18, fcl_2, by decide, (fmj_1 172 rfl rfl), rfl, tyX2 7, tyX2_ok 7 (by decide), Or.inr ⟨_, rfl⟩⟩
set_option maxRecDepth 100000 in
theorem fe_X2_36 : fLok RX2 36 (0, 2, 8, 2, 0) := ⟨RX2, TX2, 18, fcl_2, by decide, (fmj_1 175 rfl rfl), rfl, tyX2 8, tyX2_ok 8 (by decide), Or.inr ⟨_, rfl⟩⟩
set_option maxRecDepth 100000 in
theorem fe_X2_39 : fLok RX2 39 (0, 2, 9, 2, 0) := ⟨RX2, TX2, 18, fcl_2, by decide, (fmj_1 177 rfl rfl), rfl, tyX2 9, tyX2_ok 9 (by decide), Or.inr ⟨_, rfl⟩⟩
set_option maxRecDepth 100000 in
theorem fe_X2_42 : fLok RX2 42 (0, 2, 10, 2, 0) := ⟨RX2, TX2, 18, fcl_2, by decide, (fmj_1 180 rfl rfl), rfl, tyX2 10, tyX2_ok 10 (by decide), Or.inr ⟨_, rfl⟩⟩
set_option maxRecDepth 100000 in
theorem fe_X2_46 : fLok RX2 46 (0, 2, 11, 2, 0) := ⟨RX2, TX2, 18, fcl_2, by decide, (fmj_1 181 rfl rfl), rfl, tyX2 11, tyX2_ok 11 (by decide), Or.inr ⟨_, rfl⟩⟩
set_option maxRecDepth 100000 in
theorem fe_X2_49 : fLok RX2 49 (0, 2, 12, 2, 0) := ⟨RX2, TX2, 18, fcl_2, by decide, (fmj_1 183 rfl rfl), rfl, tyX2 12, tyX2_ok 12 (by decide), Or.inr ⟨_, rfl⟩⟩
set_option maxRecDepth 100000 in
theorem fe_X2_52 : fLok RX2 52 (1, 25, 0, 2, 0) := ⟨(show fMok fd_X2_clear from fmo_X2_clear), (show fPar fd_X2_clear 0 by unfold fPar; decide +kernel), (fmj_1 141 rfl rfl), (fmj_1 142 rfl rfl), RX2, TX2, 18, rfl, (fmj_1 143 rfl rfl)⟩
set_option maxRecDepth 100000 in
theorem fe_X2_55 : fLok RX2 55 (2, 315, 2, 0, 0) := ⟨(show fMok fd_J7_fill_53178 from fmo_J7_fill_53178), (show fPar fd_J7_fill_53178 2 by unfold fPar; decide +kernel), (fmj_1 145 rfl rfl), (fmj_1 146 rfl rfl)⟩
set_option maxRecDepth 100000 in
theorem fe_X2_61 : fLok RX2 61 (9, 1001, 0, 0, 0) := ⟨by decide, (fmj_1 148 rfl rfl)⟩
set_option maxRecDepth 100000 in
theorem fe_X2_64 : fLok RX2 64 (10, 0, 0, 0, 0) := ⟨(fmj_1 150 rfl rfl), (fmj_1 152 rfl rfl), (fmj_1 151 rfl rfl), (fmj_1 9 rfl rfl)⟩
set_option maxRecDepth 100000 in
theorem fe_X2_70 : fLok RX2 70 (0, 2, 13, 0, 0) := ⟨RX2, TX2, 18, fcl_2, by decide, (fmj_1 185 rfl rfl), rfl, tyX2 13, tyX2_ok 13 (by decide), rfl⟩
set_option maxRecDepth 100000 in
theorem fe_X2_74 : fLok RX2 74 (0, 2, 14, 0, 0) := ⟨RX2, TX2, 18, fcl_2, by decide, (fmj_1 190 rfl rfl), rfl, tyX2 14, tyX2_ok 14 (by decide), rfl⟩
set_option maxRecDepth 100000 in
theorem fe_X2_77 : fLok RX2 77 (0, 2, 15, 0, 0) := ⟨RX2, TX2, 18, fcl_2, by decide, (fmj_1 195 rfl rfl), rfl, tyX2 15, tyX2_ok 15 (by decide), rfl⟩
set_option maxRecDepth 100000 in
theorem fe_X2_80 : fLok RX2 80 (0, 2, 16, 0, 0) := ⟨RX2, TX2, 18, fcl_2, by decide, (fmj_1 198 rfl rfl), rfl, tyX2 16, tyX2_ok 16 (by decide), rfl⟩
set_option maxRecDepth 100000 in
theorem fe_X2_83 : fLok RX2 83 (0, 2, 17, 0, 0) := ⟨RX2, TX2, 18, fcl_2, by decide, (fmj_1 201 rfl rfl), rfl, tyX2 17, tyX2_ok 17 (by decide), rfl⟩
set_option maxRecDepth 100000 in
theorem fe_X2_86 : fLok RX2 86 (1, 28, 3, 2, 0) := ⟨(show fMok fd_X2_tell from fmo_X2_tell), (show fPar fd_X2_tell 3 by unfold fPar; decide +kernel), (fmj_4 81 rfl rfl), (fmj_4 82 rfl rfl), RX2, TX2, 18, rfl, (fmj_4 83 rfl rfl)⟩
set_option maxRecDepth 100000 in
theorem fe_X2_90 : fLok RX2 90 (1, 30, 1, 2, 0) := ⟨(show fMok fd_X2_hasPiano from fmo_X2_hasPiano), (show fPar fd_X2_hasPiano 1 by unfold fPar; decide +kernel), (fmj_4 138 rfl rfl), (fmj_4 139 rfl rfl), RX2, TX2, 18, rfl, (fmj_4 140 rfl rfl)⟩
set_option maxRecDepth 100000 in
theorem fe_X2_94 : fLok RX2 94 (1, 29, 2, 2, 0) := ⟨(show fMok fd_X2_fact from fmo_X2_fact), (show fPar fd_X2_fact 2 by unfold fPar; decide +kernel), (fmj_4 142 rfl rfl), (fmj_4 143 rfl rfl), RX2, TX2, 18, rfl, (fmj_4 144 rfl rfl)⟩
set_option maxRecDepth 100000 in
theorem fe_X2_98 : fLok RX2 98 (15, 193, 1, 11, 0) := ⟨(show fMok fd_X11_weekOf from fmo_X11_weekOf), (show fPar fd_X11_weekOf 1 by unfold fPar; decide +kernel), by decide +kernel, Or.inr ⟨by decide +kernel, rfl⟩, (fmj_5 14 rfl rfl)⟩
set_option maxRecDepth 100000 in
theorem fe_X2_102 : fLok RX2 102 (2, 41, 3, 2, 0) := ⟨(show fMok fd_X2_placeOf from fmo_X2_placeOf), (show fPar fd_X2_placeOf 3 by unfold fPar; decide +kernel), (fmj_4 62 rfl rfl), (fmj_4 63 rfl rfl)⟩
set_option maxRecDepth 100000 in
theorem fe_X2_106 : fLok RX2 106 (1, 37, 1, 2, 0) := ⟨(show fMok fd_X2_pianoNamed from fmo_X2_pianoNamed), (show fPar fd_X2_pianoNamed 1 by unfold fPar; decide +kernel), (fmj_4 58 rfl rfl), (fmj_4 59 rfl rfl), RX2, TX2, 18, rfl, (fmj_4 60 rfl rfl)⟩
set_option maxRecDepth 100000 in
theorem fe_X2_110 : fLok RX2 110 (1, 38, 1, 2, 0) := ⟨(show fMok fd_X2_tunerNamed from fmo_X2_tunerNamed), (show fPar fd_X2_tunerNamed 1 by unfold fPar; decide +kernel), (fmj_4 65 rfl rfl), (fmj_4 66 rfl rfl), RX2, TX2, 18, rfl, (fmj_4 67 rfl rfl)⟩
set_option maxRecDepth 100000 in
theorem fe_X2_113 : fLok RX2 113 (1, 39, 1, 2, 0) := ⟨(show fMok fd_X2_pupilNamed from fmo_X2_pupilNamed), (show fPar fd_X2_pupilNamed 1 by unfold fPar; decide +kernel), (fmj_4 69 rfl rfl), (fmj_4 70 rfl rfl), RX2, TX2, 18, rfl, (fmj_4 71 rfl rfl)⟩
set_option maxRecDepth 100000 in
theorem fe_X2_116 : fLok RX2 116 (9, 1002, 0, 0, 0) := ⟨by decide, (fmj_4 193 rfl rfl)⟩
set_option maxRecDepth 100000 in
theorem fe_X2_119 : fLok RX2 119 (9, 1003, 0, 0, 0) := ⟨by decide, (fmj_4 195 rfl rfl)⟩
set_option maxRecDepth 100000 in
theorem fe_X2_122 : fLok RX2 122 (2, 311, 1, 0, 0) := ⟨(show fMok fd_J9_abs_0f7a4 from fmo_J9_abs_0f7a4), (show fPar fd_J9_abs_0f7a4 1 by unfold fPar; decide +kernel), (fmj_4 197 rfl rfl), (fmj_4 198 rfl rfl)⟩
set_option maxRecDepth 100000 in
theorem fe_X2_127 : fLok RX2 127 (1, 44, 2, 2, 0) := ⟨(show fMok fd_X2_beatsOf from fmo_X2_beatsOf), (show fPar fd_X2_beatsOf 2 by unfold fPar; decide +kernel), (fmj_4 208 rfl rfl), (fmj_4 190 rfl rfl), RX2, TX2, 18, rfl, (fmj_4 191 rfl rfl)⟩
set_option maxRecDepth 100000 in
theorem fek_X2 : ∀ q ∈ fk_X2, fLok RX2 q.1 q.2 := List.forall_mem_cons.mpr ⟨fe_X2_3, List.forall_mem_cons.mpr ⟨fe_X2_9, List.forall_mem_cons.mpr ⟨fe_X2_15, List.forall_mem_cons.mpr ⟨fe_X2_18, List.forall_mem_cons.mpr ⟨fe_X2_21, List.forall_mem_cons.mpr ⟨fe_X2_24, List.forall_mem_cons.mpr ⟨fe_X2_27, List.forall_mem_cons.mpr ⟨fe_X2_30, List.forall_mem_cons.mpr ⟨fe_X2_33, List.forall_mem_cons.mpr ⟨fe_X2_36, List.forall_mem_cons.mpr ⟨fe_X2_39, List.forall_mem_cons.mpr ⟨fe_X2_42, List.forall_mem_cons.mpr ⟨fe_X2_46, List.forall_mem_cons.mpr ⟨fe_X2_49, List.forall_mem_cons.mpr ⟨fe_X2_52, List.forall_mem_cons.mpr ⟨fe_X2_55, List.forall_mem_cons.mpr ⟨fe_X2_61, List.forall_mem_cons.mpr ⟨fe_X2_64, List.forall_mem_cons.mpr ⟨fe_X2_70, List.forall_mem_cons.mpr ⟨fe_X2_74, List.forall_mem_cons.mpr ⟨fe_X2_77, List.forall_mem_cons.mpr ⟨fe_X2_80, List.forall_mem_cons.mpr ⟨fe_X2_83, List.forall_mem_cons.mpr ⟨fe_X2_86, List.forall_mem_cons.mpr ⟨fe_X2_90, List.forall_mem_cons.mpr ⟨fe_X2_94, List.forall_mem_cons.mpr ⟨fe_X2_98, List.forall_mem_cons.mpr ⟨fe_X2_102, List.forall_mem_cons.mpr ⟨fe_X2_106, List.forall_mem_cons.mpr ⟨fe_X2_110, List.forall_mem_cons.mpr ⟨fe_X2_113, List.forall_mem_cons.mpr ⟨fe_X2_116, List.forall_mem_cons.mpr ⟨fe_X2_119, List.forall_mem_cons.mpr ⟨fe_X2_122, List.forall_mem_cons.mpr ⟨fe_X2_127, fun _ h => absurd h List.not_mem_nil⟩⟩⟩⟩⟩⟩⟩⟩⟩⟩⟩⟩⟩⟩⟩⟩⟩⟩⟩⟩⟩⟩⟩⟩⟩⟩⟩⟩⟩⟩⟩⟩⟩⟩⟩
set_option maxRecDepth 100000 in
theorem fe_X3_3 : fLok RX3 3 (4, 0, 0, 0, 0) := ⟨(fmj_2 64 rfl rfl), (fmj_1 33 rfl rfl), (fmj_1 34 rfl rfl)⟩
set_option maxRecDepth 100000 in
theorem fe_X3_9 : fLok RX3 9 (0, 3, 0, 2, 0) := ⟨RX3, TX3, 3, fcl_3, by decide, (fmj_2 67 rfl rfl), rfl, tyX3 0, tyX3_ok 0 (by decide), Or.inl ⟨_, rfl⟩⟩
set_option maxRecDepth 100000 in
theorem fe_X3_15 : fLok RX3 15 (5, 2, 18, 4, 0) := ⟨⟨RX2, TX2, fcl_2, (fmj_2 65 rfl rfl), (fmj_1 136 rfl rfl), (fmj_1 7 rfl rfl), tyX2, fty_2⟩, fun _ => (fmj_2 65 rfl rfl), fun h => absurd h (by decide)⟩
set_option maxRecDepth 100000 in
theorem fe_X3_17 : fLok RX3 17 (3, 24, 0, 2, 0) := ⟨(show fMok fd_X2_init from fmo_X2_init), (show fPar fd_X2_init 0 by unfold fPar; decide +kernel), (fmj_2 66 rfl rfl), (fmj_1 138 rfl rfl), by decide +kernel, by decide +kernel, by decide +kernel⟩
set_option maxRecDepth 100000 in
theorem fe_X3_18 : fLok RX3 18 (0, 3, 1, 2, 0) := ⟨RX3, TX3, 3, fcl_3, by decide, (fmj_2 68 rfl rfl), rfl, tyX3 1, tyX3_ok 1 (by decide), Or.inl ⟨_, rfl⟩⟩
set_option maxRecDepth 100000 in
theorem fe_X3_22 : fLok RX3 22 (1, 25, 0, 2, 0) := ⟨(show fMok fd_X2_clear from fmo_X2_clear), (show fPar fd_X2_clear 0 by unfold fPar; decide +kernel), (fmj_3 135 rfl rfl), (fmj_1 142 rfl rfl), RX2, TX2, 18, rfl, (fmj_1 143 rfl rfl)⟩
set_option maxRecDepth 100000 in
theorem fe_X3_25 : fLok RX3 25 (0, 3, 2, 0, 0) := ⟨RX3, TX3, 3, fcl_3, by decide, (fmj_2 70 rfl rfl), rfl, tyX3 2, tyX3_ok 2 (by decide), rfl⟩
set_option maxRecDepth 100000 in
theorem fe_X3_29 : fLok RX3 29 (1, 137, 1, 10, 0) := ⟨(show fMok fd_X10_begin from fmo_X10_begin), (show fPar fd_X10_begin 1 by unfold fPar; decide +kernel), (fmj_3 136 rfl rfl), (fmj_3 137 rfl rfl), RX10, TX10, 11, rfl, (fmj_3 138 rfl rfl)⟩
set_option maxRecDepth 100000 in
theorem fe_X3_35 : fLok RX3 35 (1, 138, 0, 10, 0) := ⟨(show fMok fd_X10_take from fmo_X10_take), (show fPar fd_X10_take 0 by unfold fPar; decide +kernel), (fmj_3 140 rfl rfl), (fmj_3 141 rfl rfl), RX10, TX10, 11, rfl, (fmj_3 142 rfl rfl)⟩
set_option maxRecDepth 100000 in
theorem fe_X3_38 : fLok RX3 38 (0, 10, 6, 0, 0) := ⟨RX10, TX10, 11, fcl_10, by decide, (fmj_1 102 rfl rfl), rfl, tyX10 6, tyX10_ok 6 (by decide), rfl⟩
set_option maxRecDepth 100000 in
theorem fe_X3_41 : fLok RX3 41 (1, 146, 0, 10, 0) := ⟨(show fMok fd_X10_keywordHere from fmo_X10_keywordHere), (show fPar fd_X10_keywordHere 0 by unfold fPar; decide +kernel), (fmj_3 157 rfl rfl), (fmj_3 158 rfl rfl), RX10, TX10, 11, rfl, (fmj_3 159 rfl rfl)⟩
set_option maxRecDepth 100000 in
theorem fe_X3_45 : fLok RX3 45 (1, 48, 1, 3, 0) := ⟨(show fMok fd_X3_readRuleLine from fmo_X3_readRuleLine), (show fPar fd_X3_readRuleLine 1 by unfold fPar; decide +kernel), (fmj_3 161 rfl rfl), (fmj_3 163 rfl rfl), RX3, TX3, 3, rfl, (fmj_0 1 rfl rfl)⟩
set_option maxRecDepth 100000 in
theorem fe_X3_48 : fLok RX3 48 (1, 49, 1, 3, 0) := ⟨(show fMok fd_X3_readNameLine from fmo_X3_readNameLine), (show fPar fd_X3_readNameLine 1 by unfold fPar; decide +kernel), (fmj_4 42 rfl rfl), (fmj_4 44 rfl rfl), RX3, TX3, 3, rfl, (fmj_0 11 rfl rfl)⟩
set_option maxRecDepth 100000 in
theorem fe_X3_51 : fLok RX3 51 (1, 149, 1, 10, 0) := ⟨(show fMok fd_X10_fail from fmo_X10_fail), (show fPar fd_X10_fail 1 by unfold fPar; decide +kernel), (fmj_3 173 rfl rfl), (fmj_3 174 rfl rfl), RX10, TX10, 11, rfl, (fmj_3 175 rfl rfl)⟩
set_option maxRecDepth 100000 in
theorem fe_X3_54 : fLok RX3 54 (0, 2, 17, 0, 0) := ⟨RX2, TX2, 18, fcl_2, by decide, (fmj_1 202 rfl rfl), rfl, tyX2 17, tyX2_ok 17 (by decide), rfl⟩
set_option maxRecDepth 100000 in
theorem fe_X3_57 : fLok RX3 57 (1, 50, 0, 3, 0) := ⟨(show fMok fd_X3_readTable from fmo_X3_readTable), (show fPar fd_X3_readTable 0 by unfold fPar; decide +kernel), (fmj_3 165 rfl rfl), (fmj_3 167 rfl rfl), RX3, TX3, 3, rfl, (fmj_0 2 rfl rfl)⟩
set_option maxRecDepth 100000 in
theorem fe_X3_60 : fLok RX3 60 (1, 51, 0, 3, 0) := ⟨(show fMok fd_X3_readDamp from fmo_X3_readDamp), (show fPar fd_X3_readDamp 0 by unfold fPar; decide +kernel), (fmj_4 13 rfl rfl), (fmj_4 15 rfl rfl), RX3, TX3, 3, rfl, (fmj_0 5 rfl rfl)⟩
set_option maxRecDepth 100000 in
theorem fe_X3_63 : fLok RX3 63 (1, 52, 0, 3, 0) := ⟨(show fMok fd_X3_readTerm from fmo_X3_readTerm), (show fPar fd_X3_readTerm 0 by unfold fPar; decide +kernel), (fmj_4 17 rfl rfl), (fmj_4 19 rfl rfl), RX3, TX3, 3, rfl, (fmj_0 6 rfl rfl)⟩
set_option maxRecDepth 100000 in
theorem fe_X3_66 : fLok RX3 66 (1, 53, 0, 3, 0) := ⟨(show fMok fd_X3_readFee from fmo_X3_readFee), (show fPar fd_X3_readFee 0 by unfold fPar; decide +kernel), (fmj_4 21 rfl rfl), (fmj_4 23 rfl rfl), RX3, TX3, 3, rfl, (fmj_0 7 rfl rfl)⟩
set_option maxRecDepth 100000 in
theorem fe_X3_69 : fLok RX3 69 (1, 54, 4, 3, 0) := ⟨(show fMok fd_X3_readRule from fmo_X3_readRule), (show fPar fd_X3_readRule 4 by unfold fPar; decide +kernel), (fmj_4 34 rfl rfl), (fmj_4 36 rfl rfl), RX3, TX3, 3, rfl, (fmj_0 9 rfl rfl)⟩
set_option maxRecDepth 100000 in
theorem fe_X3_73 : fLok RX3 73 (1, 55, 0, 3, 0) := ⟨(show fMok fd_X3_readDay from fmo_X3_readDay), (show fPar fd_X3_readDay 0 by unfold fPar; decide +kernel), (fmj_4 38 rfl rfl), (fmj_4 40 rfl rfl), RX3, TX3, 3, rfl, (fmj_0 10 rfl rfl)⟩
set_option maxRecDepth 100000 in
theorem fe_X3_76 : fLok RX3 76 (0, 2, 13, 0, 0) := ⟨RX2, TX2, 18, fcl_2, by decide, (fmj_1 186 rfl rfl), rfl, tyX2 13, tyX2_ok 13 (by decide), rfl⟩
set_option maxRecDepth 100000 in
theorem fe_X3_79 : fLok RX3 79 (1, 56, 2, 3, 0) := ⟨(show fMok fd_X3_mustHaveRoom from fmo_X3_mustHaveRoom), (show fPar fd_X3_mustHaveRoom 2 by unfold fPar; decide +kernel), (fmj_4 25 rfl rfl), (fmj_4 27 rfl rfl), RX3, TX3, 3, rfl, (fmj_0 8 rfl rfl)⟩
set_option maxRecDepth 100000 in
theorem fe_X3_83 : fLok RX3 83 (1, 57, 0, 3, 0) := ⟨(show fMok fd_X3_takeNewName from fmo_X3_takeNewName), (show fPar fd_X3_takeNewName 0 by unfold fPar; decide +kernel), (fmj_4 46 rfl rfl), (fmj_4 48 rfl rfl), RX3, TX3, 3, rfl, (fmj_0 12 rfl rfl)⟩
set_option maxRecDepth 100000 in
theorem fe_X3_87 : fLok RX3 87 (1, 58, 1, 3, 0) := ⟨(show fMok fd_X3_readPiano from fmo_X3_readPiano), (show fPar fd_X3_readPiano 1 by unfold fPar; decide +kernel), (fmj_4 73 rfl rfl), (fmj_4 75 rfl rfl), RX3, TX3, 3, rfl, (fmj_0 13 rfl rfl)⟩
set_option maxRecDepth 100000 in
theorem fe_X3_91 : fLok RX3 91 (1, 59, 1, 3, 0) := ⟨(show fMok fd_X3_readMore from fmo_X3_readMore), (show fPar fd_X3_readMore 1 by unfold fPar; decide +kernel), (fmj_4 86 rfl rfl), (fmj_4 88 rfl rfl), RX3, TX3, 3, rfl, (fmj_0 14 rfl rfl)⟩
set_option maxRecDepth 100000 in
theorem fe_X3_94 : fLok RX3 94 (0, 2, 14, 0, 0) := ⟨RX2, TX2, 18, fcl_2, by decide, (fmj_1 191 rfl rfl), rfl, tyX2 14, tyX2_ok 14 (by decide), rfl⟩
set_option maxRecDepth 100000 in
theorem fe_X3_97 : fLok RX3 97 (1, 61, 1, 3, 0) := ⟨(show fMok fd_X3_readTuner from fmo_X3_readTuner), (show fPar fd_X3_readTuner 1 by unfold fPar; decide +kernel), (fmj_4 90 rfl rfl), (fmj_4 92 rfl rfl), RX3, TX3, 3, rfl, (fmj_0 15 rfl rfl)⟩
set_option maxRecDepth 100000 in
theorem fe_X3_100 : fLok RX3 100 (0, 2, 15, 0, 0) := ⟨RX2, TX2, 18, fcl_2, by decide, (fmj_1 196 rfl rfl), rfl, tyX2 15, tyX2_ok 15 (by decide), rfl⟩
set_option maxRecDepth 100000 in
theorem fe_X3_103 : fLok RX3 103 (0, 2, 12, 2, 0) := ⟨RX2, TX2, 18, fcl_2, by decide, (fmj_1 184 rfl rfl), rfl, tyX2 12, tyX2_ok 12 (by decide), Or.inr ⟨_, rfl⟩⟩
set_option maxRecDepth 100000 in
theorem fe_X3_107 : fLok RX3 107 (1, 62, 0, 3, 0) := ⟨(show fMok fd_X3_readTeach from fmo_X3_readTeach), (show fPar fd_X3_readTeach 0 by unfold fPar; decide +kernel), (fmj_4 98 rfl rfl), (fmj_4 100 rfl rfl), RX3, TX3, 3, rfl, (fmj_0 16 rfl rfl)⟩
set_option maxRecDepth 100000 in
theorem fe_X3_110 : fLok RX3 110 (1, 60, 2, 3, 0) := ⟨(show fMok fd_X3_withTold from fmo_X3_withTold), (show fPar fd_X3_withTold 2 by unfold fPar; decide +kernel), (fmj_3 169 rfl rfl), (fmj_3 171 rfl rfl), RX3, TX3, 3, rfl, (fmj_0 3 rfl rfl)⟩
set_option maxRecDepth 100000 in
theorem fe_X3_114 : fLok RX3 114 (7, 0, 0, 0, 99999) := ⟨99999, by decide +kernel, (fmj_3 239 rfl rfl)⟩
set_option maxRecDepth 100000 in
theorem fe_X3_115 : fLok RX3 115 (1, 143, 2, 10, 0) := ⟨(show fMok fd_X10_takeNumber from fmo_X10_takeNumber), (show fPar fd_X10_takeNumber 2 by unfold fPar; decide +kernel), (fmj_4 0 rfl rfl), (fmj_4 1 rfl rfl), RX10, TX10, 11, rfl, (fmj_4 2 rfl rfl)⟩
set_option maxRecDepth 100000 in
theorem fe_X3_118 : fLok RX3 118 (2, 314, 2, 0, 0) := ⟨(show fMok fd_J9_min_7cf53 from fmo_J9_min_7cf53), (show fPar fd_J9_min_7cf53 2 by unfold fPar; decide +kernel), (fmj_4 10 rfl rfl), (fmj_4 11 rfl rfl)⟩
set_option maxRecDepth 100000 in
theorem fe_X3_123 : fLok RX3 123 (0, 2, 0, 2, 0) := ⟨RX2, TX2, 18, fcl_2, by decide, (fmj_1 154 rfl rfl), rfl, tyX2 0, tyX2_ok 0 (by decide), Or.inr ⟨_, rfl⟩⟩
set_option maxRecDepth 100000 in
theorem fe_X3_127 : fLok RX3 127 (0, 2, 1, 2, 0) := ⟨RX2, TX2, 18, fcl_2, by decide, (fmj_1 156 rfl rfl), rfl, tyX2 1, tyX2_ok 1 (by decide), Or.inr ⟨_, rfl⟩⟩
set_option maxRecDepth 100000 in
theorem fe_X3_130 : fLok RX3 130 (0, 2, 2, 2, 0) := ⟨RX2, TX2, 18, fcl_2, by decide, (fmj_1 160 rfl rfl), rfl, tyX2 2, tyX2_ok 2 (by decide), Or.inr ⟨_, rfl⟩⟩
set_option maxRecDepth 100000 in
theorem fe_X3_133 : fLok RX3 133 (0, 2, 16, 0, 0) := ⟨RX2, TX2, 18, fcl_2, by decide, (fmj_1 199 rfl rfl), rfl, tyX2 16, tyX2_ok 16 (by decide), rfl⟩
set_option maxRecDepth 100000 in
theorem fe_X3_136 : fLok RX3 136 (0, 2, 4, 2, 0) := ⟨RX2, TX2, 18, fcl_2, by decide, (fmj_1 167 rfl rfl), rfl, tyX2 4, tyX2_ok 4 (by decide), Or.inr ⟨_, rfl⟩⟩
set_option maxRecDepth 100000 in
theorem fe_X3_139 : fLok RX3 139 (1, 147, 0, 10, 0) := ⟨(show fMok fd_X10_takeKind from fmo_X10_takeKind), (show fPar fd_X10_takeKind 0 by unfold fPar; decide +kernel), (fmj_4 29 rfl rfl), (fmj_4 30 rfl rfl), RX10, TX10, 11, rfl, (fmj_4 31 rfl rfl)⟩
set_option maxRecDepth 100000 in
theorem fe_X3_142 : fLok RX3 142 (0, 2, 3, 2, 0) := ⟨RX2, TX2, 18, fcl_2, by decide, (fmj_1 165 rfl rfl), rfl, tyX2 3, tyX2_ok 3 (by decide), Or.inr ⟨_, rfl⟩⟩
set_option maxRecDepth 100000 in
theorem fe_X3_145 : fLok RX3 145 (1, 148, 0, 10, 0) := ⟨(show fMok fd_X10_takeName from fmo_X10_takeName), (show fPar fd_X10_takeName 0 by unfold fPar; decide +kernel), (fmj_4 50 rfl rfl), (fmj_4 51 rfl rfl), RX10, TX10, 11, rfl, (fmj_4 52 rfl rfl)⟩
set_option maxRecDepth 100000 in
theorem fe_X3_148 : fLok RX3 148 (1, 40, 1, 2, 0) := ⟨(show fMok fd_X2_isNameTold from fmo_X2_isNameTold), (show fPar fd_X2_isNameTold 1 by unfold fPar; decide +kernel), (fmj_4 54 rfl rfl), (fmj_4 55 rfl rfl), RX2, TX2, 18, rfl, (fmj_4 56 rfl rfl)⟩
set_option maxRecDepth 100000 in
theorem fe_X3_152 : fLok RX3 152 (1, 27, 1, 2, 0) := ⟨(show fMok fd_X2_addPiano from fmo_X2_addPiano), (show fPar fd_X2_addPiano 1 by unfold fPar; decide +kernel), (fmj_4 77 rfl rfl), (fmj_4 78 rfl rfl), RX2, TX2, 18, rfl, (fmj_4 79 rfl rfl)⟩
set_option maxRecDepth 100000 in
theorem fe_X3_156 : fLok RX3 156 (1, 28, 3, 2, 0) := ⟨(show fMok fd_X2_tell from fmo_X2_tell), (show fPar fd_X2_tell 3 by unfold fPar; decide +kernel), (fmj_4 85 rfl rfl), (fmj_4 82 rfl rfl), RX2, TX2, 18, rfl, (fmj_4 83 rfl rfl)⟩
set_option maxRecDepth 100000 in
theorem fe_X3_160 : fLok RX3 160 (0, 2, 6, 2, 0) := ⟨RX2, TX2, 18, fcl_2, by decide, (fmj_1 171 rfl rfl), rfl, tyX2 6, tyX2_ok 6 (by decide), Or.inr ⟨_, rfl⟩⟩
set_option maxRecDepth 100000 in
theorem fe_X3_163 : fLok RX3 163 (0, 2, 7, 2, 0) := ⟨RX2, TX2, 18, fcl_2, by decide, (fmj_1 174 rfl rfl), rfl, tyX2 7, tyX2_ok 7 (by decide), Or.inr ⟨_, rfl⟩⟩
set_option maxRecDepth 100000 in
theorem fe_X3_166 : fLok RX3 166 (0, 2, 11, 2, 0) := ⟨RX2, TX2, 18, fcl_2, by decide, (fmj_1 182 rfl rfl), rfl, tyX2 11, tyX2_ok 11 (by decide), Or.inr ⟨_, rfl⟩⟩
set_option maxRecDepth 100000 in
theorem fe_X3_169 : fLok RX3 169 (0, 2, 8, 2, 0) := ⟨RX2, TX2, 18, fcl_2, by decide, (fmj_1 176 rfl rfl), rfl, tyX2 8, tyX2_ok 8 (by decide), Or.inr ⟨_, rfl⟩⟩
set_option maxRecDepth 100000 in
theorem fe_X3_172 : fLok RX3 172 (1, 144, 1, 10, 0) := ⟨(show fMok fd_X10_takeSigned from fmo_X10_takeSigned), (show fPar fd_X10_takeSigned 1 by unfold fPar; decide +kernel), (fmj_4 94 rfl rfl), (fmj_4 95 rfl rfl), RX10, TX10, 11, rfl, (fmj_4 96 rfl rfl)⟩
set_option maxRecDepth 100000 in
theorem fe_X3_176 : fLok RX3 176 (1, 38, 1, 2, 0) := ⟨(show fMok fd_X2_tunerNamed from fmo_X2_tunerNamed), (show fPar fd_X2_tunerNamed 1 by unfold fPar; decide +kernel), (fmj_4 102 rfl rfl), (fmj_4 66 rfl rfl), RX2, TX2, 18, rfl, (fmj_4 67 rfl rfl)⟩
set_option maxRecDepth 100000 in
theorem fe_X3_179 : fLok RX3 179 (1, 39, 1, 2, 0) := ⟨(show fMok fd_X2_pupilNamed from fmo_X2_pupilNamed), (show fPar fd_X2_pupilNamed 1 by unfold fPar; decide +kernel), (fmj_4 103 rfl rfl), (fmj_4 70 rfl rfl), RX2, TX2, 18, rfl, (fmj_4 71 rfl rfl)⟩
set_option maxRecDepth 100000 in
theorem fe_X3_182 : fLok RX3 182 (0, 2, 9, 2, 0) := ⟨RX2, TX2, 18, fcl_2, by decide, (fmj_1 179 rfl rfl), rfl, tyX2 9, tyX2_ok 9 (by decide), Or.inr ⟨_, rfl⟩⟩
set_option maxRecDepth 100000 in
theorem fek_X3 : ∀ q ∈ fk_X3, fLok RX3 q.1 q.2 := List.forall_mem_cons.mpr ⟨fe_X3_3, List.forall_mem_cons.mpr ⟨fe_X3_9, List.forall_mem_cons.mpr ⟨fe_X3_15, List.forall_mem_cons.mpr ⟨fe_X3_17, List.forall_mem_cons.mpr ⟨fe_X3_18, List.forall_mem_cons.mpr ⟨fe_X3_22, List.forall_mem_cons.mpr ⟨fe_X3_25, List.forall_mem_cons.mpr ⟨fe_X3_29, List.forall_mem_cons.mpr ⟨fe_X3_35, List.forall_mem_cons.mpr ⟨fe_X3_38, List.forall_mem_cons.mpr ⟨fe_X3_41, List.forall_mem_cons.mpr ⟨fe_X3_45, List.forall_mem_cons.mpr ⟨fe_X3_48, List.forall_mem_cons.mpr ⟨fe_X3_51, List.forall_mem_cons.mpr ⟨fe_X3_54, List.forall_mem_cons.mpr ⟨fe_X3_57, List.forall_mem_cons.mpr ⟨fe_X3_60, List.forall_mem_cons.mpr ⟨fe_X3_63, List.forall_mem_cons.mpr ⟨fe_X3_66, List.forall_mem_cons.mpr ⟨fe_X3_69, List.forall_mem_cons.mpr ⟨fe_X3_73, List.forall_mem_cons.mpr ⟨fe_X3_76, List.forall_mem_cons.mpr ⟨fe_X3_79, List.forall_mem_cons.mpr ⟨fe_X3_83, List.forall_mem_cons.mpr ⟨fe_X3_87, List.forall_mem_cons.mpr ⟨fe_X3_91, List.forall_mem_cons.mpr ⟨fe_X3_94, List.forall_mem_cons.mpr ⟨fe_X3_97, List.forall_mem_cons.mpr ⟨fe_X3_100, List.forall_mem_cons.mpr ⟨fe_X3_103, List.forall_mem_cons.mpr ⟨fe_X3_107, List.forall_mem_cons.mpr ⟨fe_X3_110, List.forall_mem_cons.mpr ⟨fe_X3_114, List.forall_mem_cons.mpr ⟨fe_X3_115, List.forall_mem_cons.mpr ⟨fe_X3_118, List.forall_mem_cons.mpr ⟨fe_X3_123, List.forall_mem_cons.mpr ⟨fe_X3_127, List.forall_mem_cons.mpr ⟨fe_X3_130, List.forall_mem_cons.mpr ⟨fe_X3_133, List.forall_mem_cons.mpr ⟨fe_X3_136, List.forall_mem_cons.mpr ⟨fe_X3_139, List.forall_mem_cons.mpr ⟨fe_X3_142, List.forall_mem_cons.mpr ⟨fe_X3_145, List.forall_mem_cons.mpr ⟨fe_X3_148, List.forall_mem_cons.mpr ⟨fe_X3_152, List.forall_mem_cons.mpr ⟨fe_X3_156, List.forall_mem_cons.mpr ⟨fe_X3_160, List.forall_mem_cons.mpr ⟨fe_X3_163, List.forall_mem_cons.mpr ⟨fe_X3_166, List.forall_mem_cons.mpr ⟨fe_X3_169, List.forall_mem_cons.mpr ⟨fe_X3_172, List.forall_mem_cons.mpr ⟨fe_X3_176, List.forall_mem_cons.mpr ⟨fe_X3_179, List.forall_mem_cons.mpr ⟨fe_X3_182, fun _ h => absurd h List.not_mem_nil⟩⟩⟩⟩⟩⟩⟩⟩⟩⟩⟩⟩⟩⟩⟩⟩⟩⟩⟩⟩⟩⟩⟩⟩⟩⟩⟩⟩⟩⟩⟩⟩⟩⟩⟩⟩⟩⟩⟩⟩⟩⟩⟩⟩⟩⟩⟩⟩⟩⟩⟩⟩⟩⟩
set_option maxRecDepth 100000 in
theorem fe_X4_1 : fLok RX4 1 (4, 0, 0, 0, 0) := ⟨(fmj_3 42 rfl rfl), (fmj_1 33 rfl rfl), (fmj_1 34 rfl rfl)⟩
set_option maxRecDepth 100000 in
theorem fe_X4_11 : fLok RX4 11 (0, 4, 1, 2, 0) := ⟨RX4, TX4, 4, fcl_4, by decide, (fmj_3 44 rfl rfl), rfl, tyX4 1, tyX4_ok 1 (by decide), Or.inr ⟨_, rfl⟩⟩
set_option maxRecDepth 100000 in
theorem fe_X4_15 : fLok RX4 15 (0, 4, 2, 2, 0) := ⟨RX4, TX4, 4, fcl_4, by decide, (fmj_3 45 rfl rfl), rfl, tyX4 2, tyX4_ok 2 (by decide), Or.inr ⟨_, rfl⟩⟩
set_option maxRecDepth 100000 in
theorem fe_X4_18 : fLok RX4 18 (0, 4, 0, 2, 0) := ⟨RX4, TX4, 4, fcl_4, by decide, (fmj_3 43 rfl rfl), rfl, tyX4 0, tyX4_ok 0 (by decide), Or.inl ⟨_, rfl⟩⟩
set_option maxRecDepth 100000 in
theorem fe_X4_22 : fLok RX4 22 (0, 2, 15, 0, 0) := ⟨RX2, TX2, 18, fcl_2, by decide, (fmj_1 194 rfl rfl), rfl, tyX2 15, tyX2_ok 15 (by decide), rfl⟩
set_option maxRecDepth 100000 in
theorem fe_X4_26 : fLok RX4 26 (0, 2, 14, 0, 0) := ⟨RX2, TX2, 18, fcl_2, by decide, (fmj_1 189 rfl rfl), rfl, tyX2 14, tyX2_ok 14 (by decide), rfl⟩
set_option maxRecDepth 100000 in
theorem fe_X4_29 : fLok RX4 29 (2, 314, 2, 0, 0) := ⟨(show fMok fd_J9_min_7cf53 from fmo_J9_min_7cf53), (show fPar fd_J9_min_7cf53 2 by unfold fPar; decide +kernel), (fmj_6 150 rfl rfl), (fmj_4 11 rfl rfl)⟩
set_option maxRecDepth 100000 in
theorem fe_X4_35 : fLok RX4 35 (0, 4, 3, 0, 0) := ⟨RX4, TX4, 4, fcl_4, by decide, (fmj_3 47 rfl rfl), rfl, tyX4 3, tyX4_ok 3 (by decide), rfl⟩
set_option maxRecDepth 100000 in
theorem fe_X4_38 : fLok RX4 38 (1, 66, 2, 4, 0) := ⟨(show fMok fd_X4_greatest from fmo_X4_greatest), (show fPar fd_X4_greatest 2 by unfold fPar; decide +kernel), (fmj_6 151 rfl rfl), (fmj_6 153 rfl rfl), RX4, TX4, 4, rfl, (fmj_0 56 rfl rfl)⟩
set_option maxRecDepth 100000 in
theorem fe_X4_41 : fLok RX4 41 (1, 67, 0, 4, 0) := ⟨(show fMok fd_X4_pickTuners from fmo_X4_pickTuners), (show fPar fd_X4_pickTuners 0 by unfold fPar; decide +kernel), (fmj_6 160 rfl rfl), (fmj_6 162 rfl rfl), RX4, TX4, 4, rfl, (fmj_0 58 rfl rfl)⟩
set_option maxRecDepth 100000 in
theorem fe_X4_44 : fLok RX4 44 (0, 2, 9, 2, 0) := ⟨RX2, TX2, 18, fcl_2, by decide, (fmj_1 178 rfl rfl), rfl, tyX2 9, tyX2_ok 9 (by decide), Or.inr ⟨_, rfl⟩⟩
set_option maxRecDepth 100000 in
theorem fe_X4_47 : fLok RX4 47 (1, 65, 3, 4, 0) := ⟨(show fMok fd_X4_sumWith from fmo_X4_sumWith), (show fPar fd_X4_sumWith 3 by unfold fPar; decide +kernel), (fmj_6 155 rfl rfl), (fmj_6 157 rfl rfl), RX4, TX4, 4, rfl, (fmj_0 57 rfl rfl)⟩
set_option maxRecDepth 100000 in
theorem fe_X4_51 : fLok RX4 51 (2, 313, 2, 0, 0) := ⟨(show fMok fd_J9_max_7cf53 from fmo_J9_max_7cf53), (show fPar fd_J9_max_7cf53 2 by unfold fPar; decide +kernel), (fmj_6 159 rfl rfl), (fmj_5 33 rfl rfl)⟩
set_option maxRecDepth 100000 in
theorem fe_X4_54 : fLok RX4 54 (1, 68, 2, 4, 0) := ⟨(show fMok fd_X4_firstGreatest from fmo_X4_firstGreatest), (show fPar fd_X4_firstGreatest 2 by unfold fPar; decide +kernel), (fmj_6 164 rfl rfl), (fmj_6 166 rfl rfl), RX4, TX4, 4, rfl, (fmj_0 59 rfl rfl)⟩
set_option maxRecDepth 100000 in
theorem fek_X4 : ∀ q ∈ fk_X4, fLok RX4 q.1 q.2 := List.forall_mem_cons.mpr ⟨fe_X4_1, List.forall_mem_cons.mpr ⟨fe_X4_11, List.forall_mem_cons.mpr ⟨fe_X4_15, List.forall_mem_cons.mpr ⟨fe_X4_18, List.forall_mem_cons.mpr ⟨fe_X4_22, List.forall_mem_cons.mpr ⟨fe_X4_26, List.forall_mem_cons.mpr ⟨fe_X4_29, List.forall_mem_cons.mpr ⟨fe_X4_35, List.forall_mem_cons.mpr ⟨fe_X4_38, List.forall_mem_cons.mpr ⟨fe_X4_41, List.forall_mem_cons.mpr ⟨fe_X4_44, List.forall_mem_cons.mpr ⟨fe_X4_47, List.forall_mem_cons.mpr ⟨fe_X4_51, List.forall_mem_cons.mpr ⟨fe_X4_54, fun _ h => absurd h List.not_mem_nil⟩⟩⟩⟩⟩⟩⟩⟩⟩⟩⟩⟩⟩⟩
set_option maxRecDepth 100000 in
theorem fe_X5_3 : fLok RX5 3 (4, 0, 0, 0, 0) := ⟨(fmj_2 83 rfl rfl), (fmj_1 33 rfl rfl), (fmj_1 34 rfl rfl)⟩
set_option maxRecDepth 100000 in
theorem fe_X5_9 : fLok RX5 9 (0, 5, 0, 2, 0) := ⟨RX5, TX5, 3, fcl_5, by decide, (fmj_2 84 rfl rfl), rfl, tyX5 0, tyX5_ok 0 (by decide), Or.inl ⟨_, rfl⟩⟩
set_option maxRecDepth 100000 in
theorem fe_X5_15 : fLok RX5 15 (0, 5, 1, 2, 0) := ⟨RX5, TX5, 3, fcl_5, by decide, (fmj_2 85 rfl rfl), rfl, tyX5 1, tyX5_ok 1 (by decide), Or.inl ⟨_, rfl⟩⟩
set_option maxRecDepth 100000 in
theorem fe_X5_19 : fLok RX5 19 (0, 5, 2, 2, 0) := ⟨RX5, TX5, 3, fcl_5, by decide, (fmj_2 86 rfl rfl), rfl, tyX5 2, tyX5_ok 2 (by decide), Or.inl ⟨_, rfl⟩⟩
set_option maxRecDepth 100000 in
theorem fe_X5_23 : fLok RX5 23 (1, 137, 1, 10, 0) := ⟨(show fMok fd_X10_begin from fmo_X10_begin), (show fPar fd_X10_begin 1 by unfold fPar; decide +kernel), (fmj_4 120 rfl rfl), (fmj_3 137 rfl rfl), RX10, TX10, 11, rfl, (fmj_3 138 rfl rfl)⟩
set_option maxRecDepth 100000 in
theorem fe_X5_29 : fLok RX5 29 (0, 6, 8, 0, 0) := ⟨RX6, TX6, 9, fcl_6, by decide, (fmj_2 36 rfl rfl), rfl, tyX6 8, tyX6_ok 8 (by decide), rfl⟩
set_option maxRecDepth 100000 in
theorem fe_X5_35 : fLok RX5 35 (1, 138, 0, 10, 0) := ⟨(show fMok fd_X10_take from fmo_X10_take), (show fPar fd_X10_take 0 by unfold fPar; decide +kernel), (fmj_4 121 rfl rfl), (fmj_3 141 rfl rfl), RX10, TX10, 11, rfl, (fmj_3 142 rfl rfl)⟩
set_option maxRecDepth 100000 in
theorem fe_X5_38 : fLok RX5 38 (0, 10, 6, 0, 0) := ⟨RX10, TX10, 11, fcl_10, by decide, (fmj_1 101 rfl rfl), rfl, tyX10 6, tyX10_ok 6 (by decide), rfl⟩
set_option maxRecDepth 100000 in
theorem fe_X5_41 : fLok RX5 41 (1, 146, 0, 10, 0) := ⟨(show fMok fd_X10_keywordHere from fmo_X10_keywordHere), (show fPar fd_X10_keywordHere 0 by unfold fPar; decide +kernel), (fmj_4 122 rfl rfl), (fmj_3 158 rfl rfl), RX10, TX10, 11, rfl, (fmj_3 159 rfl rfl)⟩
set_option maxRecDepth 100000 in
theorem fe_X5_45 : fLok RX5 45 (1, 149, 1, 10, 0) := ⟨(show fMok fd_X10_fail from fmo_X10_fail), (show fPar fd_X10_fail 1 by unfold fPar; decide +kernel), (fmj_4 123 rfl rfl), (fmj_3 174 rfl rfl), RX10, TX10, 11, rfl, (fmj_3 175 rfl rfl)⟩
set_option maxRecDepth 100000 in
theorem fe_X5_48 : fLok RX5 48 (1, 71, 2, 5, 0) := ⟨(show fMok fd_X5_readLine from fmo_X5_readLine), (show fPar fd_X5_readLine 2 by unfold fPar; decide +kernel), (fmj_4 124 rfl rfl), (fmj_4 126 rfl rfl), RX5, TX5, 3, rfl, (fmj_0 17 rfl rfl)⟩
set_option maxRecDepth 100000 in
theorem fe_X5_52 : fLok RX5 52 (1, 72, 1, 5, 0) := ⟨(show fMok fd_X5_takePiano from fmo_X5_takePiano), (show fPar fd_X5_takePiano 1 by unfold fPar; decide +kernel), (fmj_4 128 rfl rfl), (fmj_4 130 rfl rfl), RX5, TX5, 3, rfl, (fmj_0 18 rfl rfl)⟩
set_option maxRecDepth 100000 in
theorem fe_X5_56 : fLok RX5 56 (1, 78, 3, 6, 0) := ⟨(show fMok fd_X6_begin from fmo_X6_begin), (show fPar fd_X6_begin 3 by unfold fPar; decide +kernel), (fmj_4 146 rfl rfl), (fmj_4 147 rfl rfl), RX6, TX6, 9, rfl, (fmj_4 148 rfl rfl)⟩
set_option maxRecDepth 100000 in
theorem fe_X5_59 : fLok RX5 59 (0, 6, 4, 2, 0) := ⟨RX6, TX6, 9, fcl_6, by decide, (fmj_2 23 rfl rfl), rfl, tyX6 4, tyX6_ok 4 (by decide), Or.inr ⟨_, rfl⟩⟩
set_option maxRecDepth 100000 in
theorem fe_X5_63 : fLok RX5 63 (1, 73, 0, 5, 0) := ⟨(show fMok fd_X5_takeTuner from fmo_X5_takeTuner), (show fPar fd_X5_takeTuner 0 by unfold fPar; decide +kernel), (fmj_4 150 rfl rfl), (fmj_4 152 rfl rfl), RX5, TX5, 3, rfl, (fmj_0 19 rfl rfl)⟩
set_option maxRecDepth 100000 in
theorem fe_X5_66 : fLok RX5 66 (1, 143, 2, 10, 0) := ⟨(show fMok fd_X10_takeNumber from fmo_X10_takeNumber), (show fPar fd_X10_takeNumber 2 by unfold fPar; decide +kernel), (fmj_4 155 rfl rfl), (fmj_4 1 rfl rfl), RX10, TX10, 11, rfl, (fmj_4 2 rfl rfl)⟩
set_option maxRecDepth 100000 in
theorem fe_X5_70 : fLok RX5 70 (0, 6, 5, 2, 0) := ⟨RX6, TX6, 9, fcl_6, by decide, (fmj_2 29 rfl rfl), rfl, tyX6 5, tyX6_ok 5 (by decide), Or.inr ⟨_, rfl⟩⟩
set_option maxRecDepth 100000 in
theorem fe_X5_73 : fLok RX5 73 (1, 74, 2, 5, 0) := ⟨(show fMok fd_X5_readWhen from fmo_X5_readWhen), (show fPar fd_X5_readWhen 2 by unfold fPar; decide +kernel), (fmj_4 156 rfl rfl), (fmj_4 158 rfl rfl), RX5, TX5, 3, rfl, (fmj_0 20 rfl rfl)⟩
set_option maxRecDepth 100000 in
theorem fe_X5_77 : fLok RX5 77 (1, 75, 1, 5, 0) := ⟨(show fMok fd_X5_readNote from fmo_X5_readNote), (show fPar fd_X5_readNote 1 by unfold fPar; decide +kernel), (fmj_4 160 rfl rfl), (fmj_4 162 rfl rfl), RX5, TX5, 3, rfl, (fmj_0 21 rfl rfl)⟩
set_option maxRecDepth 100000 in
theorem fe_X5_80 : fLok RX5 80 (1, 148, 0, 10, 0) := ⟨(show fMok fd_X10_takeName from fmo_X10_takeName), (show fPar fd_X10_takeName 0 by unfold fPar; decide +kernel), (fmj_4 132 rfl rfl), (fmj_4 51 rfl rfl), RX10, TX10, 11, rfl, (fmj_4 52 rfl rfl)⟩
set_option maxRecDepth 100000 in
theorem fe_X5_84 : fLok RX5 84 (1, 37, 1, 2, 0) := ⟨(show fMok fd_X2_pianoNamed from fmo_X2_pianoNamed), (show fPar fd_X2_pianoNamed 1 by unfold fPar; decide +kernel), (fmj_4 133 rfl rfl), (fmj_4 59 rfl rfl), RX2, TX2, 18, rfl, (fmj_4 60 rfl rfl)⟩
set_option maxRecDepth 100000 in
theorem fe_X5_90 : fLok RX5 90 (1, 32, 1, 2, 0) := ⟨(show fMok fd_X2_isHall from fmo_X2_isHall), (show fPar fd_X2_isHall 1 by unfold fPar; decide +kernel), (fmj_4 134 rfl rfl), (fmj_4 135 rfl rfl), RX2, TX2, 18, rfl, (fmj_4 136 rfl rfl)⟩
set_option maxRecDepth 100000 in
theorem fe_X5_94 : fLok RX5 94 (1, 38, 1, 2, 0) := ⟨(show fMok fd_X2_tunerNamed from fmo_X2_tunerNamed), (show fPar fd_X2_tunerNamed 1 by unfold fPar; decide +kernel), (fmj_4 154 rfl rfl), (fmj_4 66 rfl rfl), RX2, TX2, 18, rfl, (fmj_4 67 rfl rfl)⟩
set_option maxRecDepth 100000 in
theorem fe_X5_97 : fLok RX5 97 (0, 6, 2, 2, 0) := ⟨RX6, TX6, 9, fcl_6, by decide, (fmj_2 18 rfl rfl), rfl, tyX6 2, tyX6_ok 2 (by decide), Or.inr ⟨_, rfl⟩⟩
set_option maxRecDepth 100000 in
theorem fe_X5_100 : fLok RX5 100 (0, 6, 3, 2, 0) := ⟨RX6, TX6, 9, fcl_6, by decide, (fmj_2 20 rfl rfl), rfl, tyX6 3, tyX6_ok 3 (by decide), Or.inr ⟨_, rfl⟩⟩
set_option maxRecDepth 100000 in
theorem fe_X5_103 : fLok RX5 103 (1, 145, 2, 10, 0) := ⟨(show fMok fd_X10_numberHere from fmo_X10_numberHere), (show fPar fd_X10_numberHere 2 by unfold fPar; decide +kernel), (fmj_4 164 rfl rfl), (fmj_4 6 rfl rfl), RX10, TX10, 11, rfl, (fmj_4 7 rfl rfl)⟩
set_option maxRecDepth 100000 in
theorem fe_X5_106 : fLok RX5 106 (1, 79, 2, 6, 0) := ⟨(show fMok fd_X6_isTold from fmo_X6_isTold), (show fPar fd_X6_isTold 2 by unfold fPar; decide +kernel), (fmj_4 165 rfl rfl), (fmj_4 166 rfl rfl), RX6, TX6, 9, rfl, (fmj_4 167 rfl rfl)⟩
set_option maxRecDepth 100000 in
theorem fe_X5_110 : fLok RX5 110 (0, 6, 6, 2, 0) := ⟨RX6, TX6, 9, fcl_6, by decide, (fmj_2 31 rfl rfl), rfl, tyX6 6, tyX6_ok 6 (by decide), Or.inr ⟨_, rfl⟩⟩
set_option maxRecDepth 100000 in
theorem fe_X5_113 : fLok RX5 113 (0, 6, 7, 2, 0) := ⟨RX6, TX6, 9, fcl_6, by decide, (fmj_2 33 rfl rfl), rfl, tyX6 7, tyX6_ok 7 (by decide), Or.inr ⟨_, rfl⟩⟩
set_option maxRecDepth 100000 in
theorem fe_X5_116 : fLok RX5 116 (1, 144, 1, 10, 0) := ⟨(show fMok fd_X10_takeSigned from fmo_X10_takeSigned), (show fPar fd_X10_takeSigned 1 by unfold fPar; decide +kernel), (fmj_4 169 rfl rfl), (fmj_4 95 rfl rfl), RX10, TX10, 11, rfl, (fmj_4 96 rfl rfl)⟩
set_option maxRecDepth 100000 in
theorem fek_X5 : ∀ q ∈ fk_X5, fLok RX5 q.1 q.2 := List.forall_mem_cons.mpr ⟨fe_X5_3, List.forall_mem_cons.mpr ⟨fe_X5_9, List.forall_mem_cons.mpr ⟨fe_X5_15, List.forall_mem_cons.mpr ⟨fe_X5_19, List.forall_mem_cons.mpr ⟨fe_X5_23, List.forall_mem_cons.mpr ⟨fe_X5_29, List.forall_mem_cons.mpr ⟨fe_X5_35, List.forall_mem_cons.mpr ⟨fe_X5_38, List.forall_mem_cons.mpr ⟨fe_X5_41, List.forall_mem_cons.mpr ⟨fe_X5_45, List.forall_mem_cons.mpr ⟨fe_X5_48, List.forall_mem_cons.mpr ⟨fe_X5_52, List.forall_mem_cons.mpr ⟨fe_X5_56, List.forall_mem_cons.mpr ⟨fe_X5_59, List.forall_mem_cons.mpr ⟨fe_X5_63, List.forall_mem_cons.mpr ⟨fe_X5_66, List.forall_mem_cons.mpr ⟨fe_X5_70, List.forall_mem_cons.mpr ⟨fe_X5_73, List.forall_mem_cons.mpr ⟨fe_X5_77, List.forall_mem_cons.mpr ⟨fe_X5_80, List.forall_mem_cons.mpr ⟨fe_X5_84, List.forall_mem_cons.mpr ⟨fe_X5_90, List.forall_mem_cons.mpr ⟨fe_X5_94, List.forall_mem_cons.mpr ⟨fe_X5_97, List.forall_mem_cons.mpr ⟨fe_X5_100, List.forall_mem_cons.mpr ⟨fe_X5_103, List.forall_mem_cons.mpr ⟨fe_X5_106, List.forall_mem_cons.mpr ⟨fe_X5_110, List.forall_mem_cons.mpr ⟨fe_X5_113, List.forall_mem_cons.mpr ⟨fe_X5_116, fun _ h => absurd h List.not_mem_nil⟩⟩⟩⟩⟩⟩⟩⟩⟩⟩⟩⟩⟩⟩⟩⟩⟩⟩⟩⟩⟩⟩⟩⟩⟩⟩⟩⟩⟩⟩
set_option maxRecDepth 100000 in
theorem fe_X6_3 : fLok RX6 3 (4, 0, 0, 0, 0) := ⟨(fmj_2 7 rfl rfl), (fmj_1 33 rfl rfl), (fmj_1 34 rfl rfl)⟩
set_option maxRecDepth 100000 in
theorem fe_X6_11 : fLok RX6 11 (0, 6, 0, 2, 0) := ⟨RX6, TX6, 9, fcl_6, by decide, (fmj_2 8 rfl rfl), rfl, tyX6 0, tyX6_ok 0 (by decide), Or.inr ⟨_, rfl⟩⟩
set_option maxRecDepth 100000 in
theorem fe_X6_15 : fLok RX6 15 (0, 6, 1, 2, 0) := ⟨RX6, TX6, 9, fcl_6, by decide, (fmj_2 11 rfl rfl), rfl, tyX6 1, tyX6_ok 1 (by decide), Or.inr ⟨_, rfl⟩⟩
set_option maxRecDepth 100000 in
theorem fe_X6_18 : fLok RX6 18 (0, 6, 2, 2, 0) := ⟨RX6, TX6, 9, fcl_6, by decide, (fmj_2 14 rfl rfl), rfl, tyX6 2, tyX6_ok 2 (by decide), Or.inr ⟨_, rfl⟩⟩
set_option maxRecDepth 100000 in
theorem fe_X6_21 : fLok RX6 21 (0, 6, 3, 2, 0) := ⟨RX6, TX6, 9, fcl_6, by decide, (fmj_2 19 rfl rfl), rfl, tyX6 3, tyX6_ok 3 (by decide), Or.inr ⟨_, rfl⟩⟩
set_option maxRecDepth 100000 in
theorem fe_X6_24 : fLok RX6 24 (0, 6, 4, 2, 0) := ⟨RX6, TX6, 9, fcl_6, by decide, (fmj_2 21 rfl rfl), rfl, tyX6 4, tyX6_ok 4 (by decide), Or.inr ⟨_, rfl⟩⟩
set_option maxRecDepth 100000 in
theorem fe_X6_27 : fLok RX6 27 (0, 6, 5, 2, 0) := ⟨RX6, TX6, 9, fcl_6, by decide, (fmj_2 27 rfl rfl), rfl, tyX6 5, tyX6_ok 5 (by decide), Or.inr ⟨_, rfl⟩⟩
set_option maxRecDepth 100000 in
theorem fe_X6_30 : fLok RX6 30 (0, 6, 6, 2, 0) := ⟨RX6, TX6, 9, fcl_6, by decide, (fmj_2 30 rfl rfl), rfl, tyX6 6, tyX6_ok 6 (by decide), Or.inr ⟨_, rfl⟩⟩
set_option maxRecDepth 100000 in
theorem fe_X6_33 : fLok RX6 33 (0, 6, 7, 2, 0) := ⟨RX6, TX6, 9, fcl_6, by decide, (fmj_2 32 rfl rfl), rfl, tyX6 7, tyX6_ok 7 (by decide), Or.inr ⟨_, rfl⟩⟩
set_option maxRecDepth 100000 in
theorem fe_X6_36 : fLok RX6 36 (0, 6, 8, 0, 0) := ⟨RX6, TX6, 9, fcl_6, by decide, (fmj_2 34 rfl rfl), rfl, tyX6 8, tyX6_ok 8 (by decide), rfl⟩
set_option maxRecDepth 100000 in
theorem fe_X6_40 : fLok RX6 40 (10, 0, 0, 0, 0) := ⟨(fmj_6 180 rfl rfl), (fmj_1 152 rfl rfl), (fmj_1 151 rfl rfl), (fmj_1 9 rfl rfl)⟩
set_option maxRecDepth 100000 in
theorem fe_X6_46 : fLok RX6 46 (1, 82, 4, 6, 0) := ⟨(show fMok fd_X6_isOf from fmo_X6_isOf), (show fPar fd_X6_isOf 4 by unfold fPar; decide +kernel), (fmj_4 229 rfl rfl), (fmj_4 230 rfl rfl), RX6, TX6, 9, rfl, (fmj_4 231 rfl rfl)⟩
set_option maxRecDepth 100000 in
theorem fek_X6 : ∀ q ∈ fk_X6, fLok RX6 q.1 q.2 := List.forall_mem_cons.mpr ⟨fe_X6_3, List.forall_mem_cons.mpr ⟨fe_X6_11, List.forall_mem_cons.mpr ⟨fe_X6_15, List.forall_mem_cons.mpr ⟨fe_X6_18, List.forall_mem_cons.mpr ⟨fe_X6_21, List.forall_mem_cons.mpr ⟨fe_X6_24, List.forall_mem_cons.mpr ⟨fe_X6_27, List.forall_mem_cons.mpr ⟨fe_X6_30, List.forall_mem_cons.mpr ⟨fe_X6_33, List.forall_mem_cons.mpr ⟨fe_X6_36, List.forall_mem_cons.mpr ⟨fe_X6_40, List.forall_mem_cons.mpr ⟨fe_X6_46, fun _ h => absurd h List.not_mem_nil⟩⟩⟩⟩⟩⟩⟩⟩⟩⟩⟩⟩
set_option maxRecDepth 100000 in
theorem fe_X7_5 : fLok RX7 5 (4, 0, 0, 0, 0) := ⟨(fmj_2 187 rfl rfl), (fmj_1 33 rfl rfl), (fmj_1 34 rfl rfl)⟩
set_option maxRecDepth 100000 in
theorem fe_X7_11 : fLok RX7 11 (0, 7, 3, 2, 0) := ⟨RX7, TX7, 19, fcl_7, by decide, (fmj_2 191 rfl rfl), rfl, tyX7 3, tyX7_ok 3 (by decide), Or.inr ⟨_, rfl⟩⟩
set_option maxRecDepth 100000 in
theorem fe_X7_15 : fLok RX7 15 (0, 7, 4, 2, 0) := ⟨RX7, TX7, 19, fcl_7, by decide, (fmj_2 193 rfl rfl), rfl, tyX7 4, tyX7_ok 4 (by decide), Or.inr ⟨_, rfl⟩⟩
set_option maxRecDepth 100000 in
theorem fe_X7_18 : fLok RX7 18 (0, 7, 5, 2, 0) := ⟨RX7, TX7, 19, fcl_7, by decide, (fmj_2 194 rfl rfl), rfl, tyX7 5, tyX7_ok 5 (by decide), Or.inr ⟨_, rfl⟩⟩
set_option maxRecDepth 100000 in
theorem fe_X7_21 : fLok RX7 21 (0, 7, 6, 2, 0) := ⟨RX7, TX7, 19, fcl_7, by decide, (fmj_2 195 rfl rfl), rfl, tyX7 6, tyX7_ok 6 (by decide), Or.inr ⟨_, rfl⟩⟩
set_option maxRecDepth 100000 in
theorem fe_X7_24 : fLok RX7 24 (0, 7, 7, 2, 0) := ⟨RX7, TX7, 19, fcl_7, by decide, (fmj_2 196 rfl rfl), rfl, tyX7 7, tyX7_ok 7 (by decide), Or.inr ⟨_, rfl⟩⟩
set_option maxRecDepth 100000 in
theorem fe_X7_27 : fLok RX7 27 (0, 7, 8, 2, 0) := ⟨RX7, TX7, 19, fcl_7, by decide, (fmj_2 197 rfl rfl), rfl, tyX7 8, tyX7_ok 8 (by decide), Or.inr ⟨_, rfl⟩⟩
set_option maxRecDepth 100000 in
theorem fe_X7_30 : fLok RX7 30 (0, 7, 9, 2, 0) := ⟨RX7, TX7, 19, fcl_7, by decide, (fmj_2 198 rfl rfl), rfl, tyX7 9, tyX7_ok 9 (by decide), Or.inr ⟨_, rfl⟩⟩
set_option maxRecDepth 100000 in
theorem fe_X7_33 : fLok RX7 33 (0, 7, 10, 2, 0) := ⟨RX7, TX7, 19, fcl_7, by decide, (fmj_2 199 rfl rfl), rfl, tyX7 10, tyX7_ok 10 (by decide), Or.inr ⟨_, rfl⟩⟩
set_option maxRecDepth 100000 in
theorem fe_X7_36 : fLok RX7 36 (0, 7, 11, 2, 0) := ⟨RX7, TX7, 19, fcl_7, by decide, (fmj_2 200 rfl rfl), rfl, tyX7 11, tyX7_ok 11 (by decide), Or.inr ⟨_, rfl⟩⟩
set_option maxRecDepth 100000 in
theorem fe_X7_39 : fLok RX7 39 (0, 7, 12, 2, 0) := ⟨RX7, TX7, 19, fcl_7, by decide, (fmj_2 201 rfl rfl), rfl, tyX7 12, tyX7_ok 12 (by decide), Or.inr ⟨_, rfl⟩⟩
set_option maxRecDepth 100000 in
theorem fe_X7_44 : fLok RX7 44 (0, 7, 13, 2, 0) := ⟨RX7, TX7, 19, fcl_7, by decide, (fmj_2 202 rfl rfl), rfl, tyX7 13, tyX7_ok 13 (by decide), Or.inr ⟨_, rfl⟩⟩
set_option maxRecDepth 100000 in
theorem fe_X7_48 : fLok RX7 48 (0, 7, 14, 2, 0) := ⟨RX7, TX7, 19, fcl_7, by decide, (fmj_2 203 rfl rfl), rfl, tyX7 14, tyX7_ok 14 (by decide), Or.inr ⟨_, rfl⟩⟩
set_option maxRecDepth 100000 in
theorem fe_X7_51 : fLok RX7 51 (0, 7, 0, 2, 0) := ⟨RX7, TX7, 19, fcl_7, by decide, (fmj_2 188 rfl rfl), rfl, tyX7 0, tyX7_ok 0 (by decide), Or.inl ⟨_, rfl⟩⟩
set_option maxRecDepth 100000 in
theorem fe_X7_55 : fLok RX7 55 (0, 7, 1, 2, 0) := ⟨RX7, TX7, 19, fcl_7, by decide, (fmj_2 189 rfl rfl), rfl, tyX7 1, tyX7_ok 1 (by decide), Or.inl ⟨_, rfl⟩⟩
set_option maxRecDepth 100000 in
theorem fe_X7_59 : fLok RX7 59 (0, 7, 2, 2, 0) := ⟨RX7, TX7, 19, fcl_7, by decide, (fmj_2 190 rfl rfl), rfl, tyX7 2, tyX7_ok 2 (by decide), Or.inl ⟨_, rfl⟩⟩
set_option maxRecDepth 100000 in
theorem fe_X7_63 : fLok RX7 63 (0, 7, 15, 0, 0) := ⟨RX7, TX7, 19, fcl_7, by decide, (fmj_2 205 rfl rfl), rfl, tyX7 15, tyX7_ok 15 (by decide), rfl⟩
set_option maxRecDepth 100000 in
theorem fe_X7_67 : fLok RX7 67 (0, 7, 16, 0, 0) := ⟨RX7, TX7, 19, fcl_7, by decide, (fmj_2 207 rfl rfl), rfl, tyX7 16, tyX7_ok 16 (by decide), rfl⟩
set_option maxRecDepth 100000 in
theorem fe_X7_70 : fLok RX7 70 (1, 32, 1, 2, 0) := ⟨(show fMok fd_X2_isHall from fmo_X2_isHall), (show fPar fd_X2_isHall 1 by unfold fPar; decide +kernel), (fmj_5 126 rfl rfl), (fmj_4 135 rfl rfl), RX2, TX2, 18, rfl, (fmj_4 136 rfl rfl)⟩
set_option maxRecDepth 100000 in
theorem fe_X7_76 : fLok RX7 76 (1, 84, 5, 6, 0) := ⟨(show fMok fd_X6_hasWithin from fmo_X6_hasWithin), (show fPar fd_X6_hasWithin 5 by unfold fPar; decide +kernel), (fmj_5 127 rfl rfl), (fmj_5 128 rfl rfl), RX6, TX6, 9, rfl, (fmj_5 129 rfl rfl)⟩
set_option maxRecDepth 100000 in
theorem fe_X7_80 : fLok RX7 80 (1, 109, 3, 8, 0) := ⟨(show fMok fd_X8_look from fmo_X8_look), (show fPar fd_X8_look 3 by unfold fPar; decide +kernel), (fmj_5 131 rfl rfl), (fmj_4 222 rfl rfl), RX8, TX8, 7, rfl, (fmj_4 223 rfl rfl)⟩
set_option maxRecDepth 100000 in
theorem fe_X7_86 : fLok RX7 86 (1, 121, 2, 8, 0) := ⟨(show fMok fd_X8_isBeyond from fmo_X8_isBeyond), (show fPar fd_X8_isBeyond 2 by unfold fPar; decide +kernel), (fmj_5 132 rfl rfl), (fmj_5 45 rfl rfl), RX8, TX8, 7, rfl, (fmj_5 46 rfl rfl)⟩
set_option maxRecDepth 100000 in
theorem fe_X7_90 : fLok RX7 90 (0, 7, 17, 0, 0) := ⟨RX7, TX7, 19, fcl_7, by decide, (fmj_2 209 rfl rfl), rfl, tyX7 17, tyX7_ok 17 (by decide), rfl⟩
set_option maxRecDepth 100000 in
theorem fe_X7_93 : fLok RX7 93 (0, 7, 18, 0, 0) := ⟨RX7, TX7, 19, fcl_7, by decide, (fmj_2 210 rfl rfl), rfl, tyX7 18, tyX7_ok 18 (by decide), rfl⟩
set_option maxRecDepth 100000 in
theorem fe_X7_96 : fLok RX7 96 (1, 83, 4, 6, 0) := ⟨(show fMok fd_X6_latest from fmo_X6_latest), (show fPar fd_X6_latest 4 by unfold fPar; decide +kernel), (fmj_5 157 rfl rfl), (fmj_4 226 rfl rfl), RX6, TX6, 9, rfl, (fmj_4 227 rfl rfl)⟩
set_option maxRecDepth 100000 in
theorem fe_X7_100 : fLok RX7 100 (1, 29, 2, 2, 0) := ⟨(show fMok fd_X2_fact from fmo_X2_fact), (show fPar fd_X2_fact 2 by unfold fPar; decide +kernel), (fmj_5 158 rfl rfl), (fmj_4 143 rfl rfl), RX2, TX2, 18, rfl, (fmj_4 144 rfl rfl)⟩
set_option maxRecDepth 100000 in
theorem fe_X7_104 : fLok RX7 104 (0, 6, 4, 2, 0) := ⟨RX6, TX6, 9, fcl_6, by decide, (fmj_2 24 rfl rfl), rfl, tyX6 4, tyX6_ok 4 (by decide), Or.inr ⟨_, rfl⟩⟩
set_option maxRecDepth 100000 in
theorem fe_X7_107 : fLok RX7 107 (0, 6, 5, 2, 0) := ⟨RX6, TX6, 9, fcl_6, by decide, (fmj_2 28 rfl rfl), rfl, tyX6 5, tyX6_ok 5 (by decide), Or.inr ⟨_, rfl⟩⟩
set_option maxRecDepth 100000 in
theorem fe_X7_110 : fLok RX7 110 (1, 33, 2, 2, 0) := ⟨(show fMok fd_X2_isShut from fmo_X2_isShut), (show fPar fd_X2_isShut 2 by unfold fPar; decide +kernel), (fmj_5 159 rfl rfl), (fmj_5 160 rfl rfl), RX2, TX2, 18, rfl, (fmj_5 161 rfl rfl)⟩
set_option maxRecDepth 100000 in
theorem fe_X7_113 : fLok RX7 113 (1, 87, 2, 7, 0) := ⟨(show fMok fd_X7_weightOf from fmo_X7_weightOf), (show fPar fd_X7_weightOf 2 by unfold fPar; decide +kernel), (fmj_5 168 rfl rfl), (fmj_5 123 rfl rfl), RX7, TX7, 19, rfl, (fmj_5 124 rfl rfl)⟩
set_option maxRecDepth 100000 in
theorem fe_X7_116 : fLok RX7 116 (1, 34, 1, 2, 0) := ⟨(show fMok fd_X2_tunerX from fmo_X2_tunerX), (show fPar fd_X2_tunerX 1 by unfold fPar; decide +kernel), (fmj_5 177 rfl rfl), (fmj_5 178 rfl rfl), RX2, TX2, 18, rfl, (fmj_5 179 rfl rfl)⟩
set_option maxRecDepth 100000 in
theorem fe_X7_120 : fLok RX7 120 (1, 35, 1, 2, 0) := ⟨(show fMok fd_X2_tunerY from fmo_X2_tunerY), (show fPar fd_X2_tunerY 1 by unfold fPar; decide +kernel), (fmj_5 181 rfl rfl), (fmj_5 182 rfl rfl), RX2, TX2, 18, rfl, (fmj_5 183 rfl rfl)⟩
set_option maxRecDepth 100000 in
theorem fe_X7_123 : fLok RX7 123 (2, 311, 1, 0, 0) := ⟨(show fMok fd_J9_abs_0f7a4 from fmo_J9_abs_0f7a4), (show fPar fd_J9_abs_0f7a4 1 by unfold fPar; decide +kernel), (fmj_5 194 rfl rfl), (fmj_4 198 rfl rfl)⟩
set_option maxRecDepth 100000 in
theorem fe_X7_128 : fLok RX7 128 (0, 2, 3, 2, 0) := ⟨RX2, TX2, 18, fcl_2, by decide, (fmj_1 164 rfl rfl), rfl, tyX2 3, tyX2_ok 3 (by decide), Or.inr ⟨_, rfl⟩⟩
set_option maxRecDepth 100000 in
theorem fe_X7_131 : fLok RX7 131 (2, 313, 2, 0, 0) := ⟨(show fMok fd_J9_max_7cf53 from fmo_J9_max_7cf53), (show fPar fd_J9_max_7cf53 2 by unfold fPar; decide +kernel), (fmj_5 199 rfl rfl), (fmj_5 33 rfl rfl)⟩
set_option maxRecDepth 100000 in
theorem fe_X7_134 : fLok RX7 134 (7, 0, 0, 0, 1000000) := ⟨1000000, by decide +kernel, (fmj_5 185 rfl rfl)⟩
set_option maxRecDepth 100000 in
theorem fe_X7_135 : fLok RX7 135 (1, 90, 1, 7, 0) := ⟨(show fMok fd_X7_liveWith from fmo_X7_liveWith), (show fPar fd_X7_liveWith 1 by unfold fPar; decide +kernel), (fmj_5 173 rfl rfl), (fmj_5 175 rfl rfl), RX7, TX7, 19, rfl, (fmj_0 38 rfl rfl)⟩
set_option maxRecDepth 100000 in
theorem fe_X7_139 : fLok RX7 139 (1, 95, 2, 7, 0) := ⟨(show fMok fd_X7_soonestDone from fmo_X7_soonestDone), (show fPar fd_X7_soonestDone 2 by unfold fPar; decide +kernel), (fmj_5 186 rfl rfl), (fmj_5 188 rfl rfl), RX7, TX7, 19, rfl, (fmj_0 39 rfl rfl)⟩
set_option maxRecDepth 100000 in
theorem fe_X7_142 : fLok RX7 142 (1, 92, 2, 7, 0) := ⟨(show fMok fd_X7_minutes from fmo_X7_minutes), (show fPar fd_X7_minutes 2 by unfold fPar; decide +kernel), (fmj_5 190 rfl rfl), (fmj_5 192 rfl rfl), RX7, TX7, 19, rfl, (fmj_0 40 rfl rfl)⟩
set_option maxRecDepth 100000 in
theorem fe_X7_145 : fLok RX7 145 (2, 314, 2, 0, 0) := ⟨(show fMok fd_J9_min_7cf53 from fmo_J9_min_7cf53), (show fPar fd_J9_min_7cf53 2 by unfold fPar; decide +kernel), (fmj_5 200 rfl rfl), (fmj_4 11 rfl rfl)⟩
set_option maxRecDepth 100000 in
theorem fe_X7_148 : fLok RX7 148 (1, 93, 2, 7, 0) := ⟨(show fMok fd_X7_doneAt from fmo_X7_doneAt), (show fPar fd_X7_doneAt 2 by unfold fPar; decide +kernel), (fmj_5 195 rfl rfl), (fmj_5 197 rfl rfl), RX7, TX7, 19, rfl, (fmj_0 41 rfl rfl)⟩
set_option maxRecDepth 100000 in
theorem fe_X7_151 : fLok RX7 151 (1, 91, 1, 7, 0) := ⟨(show fMok fd_X7_sortPianos from fmo_X7_sortPianos), (show fPar fd_X7_sortPianos 1 by unfold fPar; decide +kernel), (fmj_5 149 rfl rfl), (fmj_5 151 rfl rfl), RX7, TX7, 19, rfl, (fmj_0 34 rfl rfl)⟩
set_option maxRecDepth 100000 in
theorem fe_X7_154 : fLok RX7 154 (1, 88, 2, 7, 0) := ⟨(show fMok fd_X7_place from fmo_X7_place), (show fPar fd_X7_place 2 by unfold fPar; decide +kernel), (fmj_5 153 rfl rfl), (fmj_5 155 rfl rfl), RX7, TX7, 19, rfl, (fmj_0 35 rfl rfl)⟩
set_option maxRecDepth 100000 in
theorem fe_X7_158 : fLok RX7 158 (1, 89, 1, 7, 0) := ⟨(show fMok fd_X7_weigh from fmo_X7_weigh), (show fPar fd_X7_weigh 1 by unfold fPar; decide +kernel), (fmj_5 164 rfl rfl), (fmj_5 166 rfl rfl), RX7, TX7, 19, rfl, (fmj_0 36 rfl rfl)⟩
set_option maxRecDepth 100000 in
theorem fe_X7_161 : fLok RX7 161 (1, 94, 1, 7, 0) := ⟨(show fMok fd_X7_fillHomes from fmo_X7_fillHomes), (show fPar fd_X7_fillHomes 1 by unfold fPar; decide +kernel), (fmj_5 169 rfl rfl), (fmj_5 171 rfl rfl), RX7, TX7, 19, rfl, (fmj_0 37 rfl rfl)⟩
set_option maxRecDepth 100000 in
theorem fe_X7_164 : fLok RX7 164 (1, 97, 1, 7, 0) := ⟨(show fMok fd_X7_fillLatest from fmo_X7_fillLatest), (show fPar fd_X7_fillLatest 1 by unfold fPar; decide +kernel), (fmj_5 201 rfl rfl), (fmj_5 203 rfl rfl), RX7, TX7, 19, rfl, (fmj_0 42 rfl rfl)⟩
set_option maxRecDepth 100000 in
theorem fe_X7_167 : fLok RX7 167 (1, 99, 1, 7, 0) := ⟨(show fMok fd_X7_pickOrder from fmo_X7_pickOrder), (show fPar fd_X7_pickOrder 1 by unfold fPar; decide +kernel), (fmj_5 210 rfl rfl), (fmj_5 212 rfl rfl), RX7, TX7, 19, rfl, (fmj_0 44 rfl rfl)⟩
set_option maxRecDepth 100000 in
theorem fe_X7_170 : fLok RX7 170 (1, 98, 2, 7, 0) := ⟨(show fMok fd_X7_latestDone from fmo_X7_latestDone), (show fPar fd_X7_latestDone 2 by unfold fPar; decide +kernel), (fmj_5 205 rfl rfl), (fmj_5 207 rfl rfl), RX7, TX7, 19, rfl, (fmj_0 43 rfl rfl)⟩
set_option maxRecDepth 100000 in
theorem fe_X7_173 : fLok RX7 173 (7, 0, 0, 0, (-1000000)) := ⟨(-1000000), by decide +kernel, (fmj_5 209 rfl rfl)⟩
set_option maxRecDepth 100000 in
theorem fe_X7_174 : fLok RX7 174 (1, 100, 4, 7, 0) := ⟨(show fMok fd_X7_firstNext from fmo_X7_firstNext), (show fPar fd_X7_firstNext 4 by unfold fPar; decide +kernel), (fmj_5 214 rfl rfl), (fmj_5 216 rfl rfl), RX7, TX7, 19, rfl, (fmj_0 45 rfl rfl)⟩
set_option maxRecDepth 100000 in
theorem fe_X7_177 : fLok RX7 177 (1, 101, 4, 7, 0) := ⟨(show fMok fd_X7_canGoOn from fmo_X7_canGoOn), (show fPar fd_X7_canGoOn 4 by unfold fPar; decide +kernel), (fmj_5 218 rfl rfl), (fmj_5 220 rfl rfl), RX7, TX7, 19, rfl, (fmj_0 46 rfl rfl)⟩
set_option maxRecDepth 100000 in
theorem fe_X7_181 : fLok RX7 181 (1, 104, 0, 7, 0) := ⟨(show fMok fd_X7_fillOtherBest from fmo_X7_fillOtherBest), (show fPar fd_X7_fillOtherBest 0 by unfold fPar; decide +kernel), (fmj_6 6 rfl rfl), (fmj_6 8 rfl rfl), RX7, TX7, 19, rfl, (fmj_0 47 rfl rfl)⟩
set_option maxRecDepth 100000 in
theorem fe_X7_184 : fLok RX7 184 (0, 2, 14, 0, 0) := ⟨RX2, TX2, 18, fcl_2, by decide, (fmj_1 192 rfl rfl), rfl, tyX2 14, tyX2_ok 14 (by decide), rfl⟩
set_option maxRecDepth 100000 in
theorem fe_X7_187 : fLok RX7 187 (1, 106, 1, 7, 0) := ⟨(show fMok fd_X7_countWays from fmo_X7_countWays), (show fPar fd_X7_countWays 1 by unfold fPar; decide +kernel), (fmj_6 18 rfl rfl), (fmj_6 20 rfl rfl), RX7, TX7, 19, rfl, (fmj_0 48 rfl rfl)⟩
set_option maxRecDepth 100000 in
theorem fe_X7_190 : fLok RX7 190 (2, 310, 1, 0, 0) := ⟨(show fMok fd_J6_bitCount_0f7a4 from fmo_J6_bitCount_0f7a4), (show fPar fd_J6_bitCount_0f7a4 1 by unfold fPar; decide +kernel), (fmj_6 22 rfl rfl), (fmj_6 23 rfl rfl)⟩
set_option maxRecDepth 100000 in
theorem fe_X7_195 : fLok RX7 195 (1, 107, 1, 7, 0) := ⟨(show fMok fd_X7_hasAll from fmo_X7_hasAll), (show fPar fd_X7_hasAll 1 by unfold fPar; decide +kernel), (fmj_6 28 rfl rfl), (fmj_6 30 rfl rfl), RX7, TX7, 19, rfl, (fmj_0 49 rfl rfl)⟩
set_option maxRecDepth 100000 in
theorem fek_X7 : ∀ q ∈ fk_X7, fLok RX7 q.1 q.2 := List.forall_mem_cons.mpr ⟨fe_X7_5, List.forall_mem_cons.mpr ⟨fe_X7_11, List.forall_mem_cons.mpr ⟨fe_X7_15, List.forall_mem_cons.mpr ⟨fe_X7_18, List.forall_mem_cons.mpr ⟨fe_X7_21, List.forall_mem_cons.mpr ⟨fe_X7_24, List.forall_mem_cons.mpr ⟨fe_X7_27, List.forall_mem_cons.mpr ⟨fe_X7_30, List.forall_mem_cons.mpr ⟨fe_X7_33, List.forall_mem_cons.mpr ⟨fe_X7_36, List.forall_mem_cons.mpr ⟨fe_X7_39, List.forall_mem_cons.mpr ⟨fe_X7_44, List.forall_mem_cons.mpr ⟨fe_X7_48, List.forall_mem_cons.mpr ⟨fe_X7_51, List.forall_mem_cons.mpr ⟨fe_X7_55, List.forall_mem_cons.mpr ⟨fe_X7_59, List.forall_mem_cons.mpr ⟨fe_X7_63, List.forall_mem_cons.mpr ⟨fe_X7_67, List.forall_mem_cons.mpr ⟨fe_X7_70, List.forall_mem_cons.mpr ⟨fe_X7_76, List.forall_mem_cons.mpr ⟨fe_X7_80, List.forall_mem_cons.mpr ⟨fe_X7_86, List.forall_mem_cons.mpr ⟨fe_X7_90, List.forall_mem_cons.mpr ⟨fe_X7_93, List.forall_mem_cons.mpr ⟨fe_X7_96, List.forall_mem_cons.mpr ⟨fe_X7_100, List.forall_mem_cons.mpr ⟨fe_X7_104, List.forall_mem_cons.mpr ⟨fe_X7_107, List.forall_mem_cons.mpr ⟨fe_X7_110, List.forall_mem_cons.mpr ⟨fe_X7_113, List.forall_mem_cons.mpr ⟨fe_X7_116, List.forall_mem_cons.mpr ⟨fe_X7_120, List.forall_mem_cons.mpr ⟨fe_X7_123, List.forall_mem_cons.mpr ⟨fe_X7_128, List.forall_mem_cons.mpr ⟨fe_X7_131, List.forall_mem_cons.mpr ⟨fe_X7_134, List.forall_mem_cons.mpr ⟨fe_X7_135, List.forall_mem_cons.mpr ⟨fe_X7_139, List.forall_mem_cons.mpr ⟨fe_X7_142, List.forall_mem_cons.mpr ⟨fe_X7_145, List.forall_mem_cons.mpr ⟨fe_X7_148, List.forall_mem_cons.mpr ⟨fe_X7_151, List.forall_mem_cons.mpr ⟨fe_X7_154, List.forall_mem_cons.mpr ⟨fe_X7_158, List.forall_mem_cons.mpr ⟨fe_X7_161, List.forall_mem_cons.mpr ⟨fe_X7_164, List.forall_mem_cons.mpr ⟨fe_X7_167, List.forall_mem_cons.mpr ⟨fe_X7_170, List.forall_mem_cons.mpr ⟨fe_X7_173, List.forall_mem_cons.mpr ⟨fe_X7_174, List.forall_mem_cons.mpr ⟨fe_X7_177, List.forall_mem_cons.mpr ⟨fe_X7_181, List.forall_mem_cons.mpr ⟨fe_X7_184, List.forall_mem_cons.mpr ⟨fe_X7_187, List.forall_mem_cons.mpr ⟨fe_X7_190, List.forall_mem_cons.mpr ⟨fe_X7_195, fun _ h => absurd h List.not_mem_nil⟩⟩⟩⟩⟩⟩⟩⟩⟩⟩⟩⟩⟩⟩⟩⟩⟩⟩⟩⟩⟩⟩⟩⟩⟩⟩⟩⟩⟩⟩⟩⟩⟩⟩⟩⟩⟩⟩⟩⟩⟩⟩⟩⟩⟩⟩⟩⟩⟩⟩⟩⟩⟩⟩⟩⟩
set_option maxRecDepth 100000 in
theorem fe_X8_3 : fLok RX8 3 (4, 0, 0, 0, 0) := ⟨(fmj_2 99 rfl rfl), (fmj_1 33 rfl rfl), (fmj_1 34 rfl rfl)⟩
set_option maxRecDepth 100000 in
theorem fe_X8_9 : fLok RX8 9 (0, 8, 2, 2, 0) := ⟨RX8, TX8, 7, fcl_8, by decide, (fmj_2 102 rfl rfl), rfl, tyX8 2, tyX8_ok 2 (by decide), Or.inr ⟨_, rfl⟩⟩
set_option maxRecDepth 100000 in
theorem fe_X8_15 : fLok RX8 15 (0, 8, 3, 2, 0) := ⟨RX8, TX8, 7, fcl_8, by decide, (fmj_2 103 rfl rfl), rfl, tyX8 3, tyX8_ok 3 (by decide), Or.inr ⟨_, rfl⟩⟩
set_option maxRecDepth 100000 in
theorem fe_X8_18 : fLok RX8 18 (0, 8, 4, 2, 0) := ⟨RX8, TX8, 7, fcl_8, by decide, (fmj_2 104 rfl rfl), rfl, tyX8 4, tyX8_ok 4 (by decide), Or.inr ⟨_, rfl⟩⟩
set_option maxRecDepth 100000 in
theorem fe_X8_21 : fLok RX8 21 (0, 8, 0, 2, 0) := ⟨RX8, TX8, 7, fcl_8, by decide, (fmj_2 100 rfl rfl), rfl, tyX8 0, tyX8_ok 0 (by decide), Or.inl ⟨_, rfl⟩⟩
set_option maxRecDepth 100000 in
theorem fe_X8_25 : fLok RX8 25 (0, 8, 1, 2, 0) := ⟨RX8, TX8, 7, fcl_8, by decide, (fmj_2 101 rfl rfl), rfl, tyX8 1, tyX8_ok 1 (by decide), Or.inl ⟨_, rfl⟩⟩
set_option maxRecDepth 100000 in
theorem fe_X8_29 : fLok RX8 29 (0, 8, 5, 0, 0) := ⟨RX8, TX8, 7, fcl_8, by decide, (fmj_2 105 rfl rfl), rfl, tyX8 5, tyX8_ok 5 (by decide), rfl⟩
set_option maxRecDepth 100000 in
theorem fe_X8_35 : fLok RX8 35 (1, 83, 4, 6, 0) := ⟨(show fMok fd_X6_latest from fmo_X6_latest), (show fPar fd_X6_latest 4 by unfold fPar; decide +kernel), (fmj_4 225 rfl rfl), (fmj_4 226 rfl rfl), RX6, TX6, 9, rfl, (fmj_4 227 rfl rfl)⟩
set_option maxRecDepth 100000 in
theorem fe_X8_39 : fLok RX8 39 (0, 6, 2, 2, 0) := ⟨RX6, TX6, 9, fcl_6, by decide, (fmj_2 15 rfl rfl), rfl, tyX6 2, tyX6_ok 2 (by decide), Or.inr ⟨_, rfl⟩⟩
set_option maxRecDepth 100000 in
theorem fe_X8_42 : fLok RX8 42 (0, 8, 6, 0, 0) := ⟨RX8, TX8, 7, fcl_8, by decide, (fmj_2 106 rfl rfl), rfl, tyX8 6, tyX8_ok 6 (by decide), rfl⟩
set_option maxRecDepth 100000 in
theorem fe_X8_45 : fLok RX8 45 (1, 80, 2, 6, 0) := ⟨(show fMok fd_X6_leftOf from fmo_X6_leftOf), (show fPar fd_X6_leftOf 2 by unfold fPar; decide +kernel), (fmj_4 233 rfl rfl), (fmj_4 234 rfl rfl), RX6, TX6, 9, rfl, (fmj_4 235 rfl rfl)⟩
set_option maxRecDepth 100000 in
theorem fe_X8_49 : fLok RX8 49 (0, 6, 4, 2, 0) := ⟨RX6, TX6, 9, fcl_6, by decide, (fmj_2 22 rfl rfl), rfl, tyX6 4, tyX6_ok 4 (by decide), Or.inr ⟨_, rfl⟩⟩
set_option maxRecDepth 100000 in
theorem fe_X8_52 : fLok RX8 52 (1, 36, 1, 2, 0) := ⟨(show fMok fd_X2_forkOf from fmo_X2_forkOf), (show fPar fd_X2_forkOf 1 by unfold fPar; decide +kernel), (fmj_4 237 rfl rfl), (fmj_4 238 rfl rfl), RX2, TX2, 18, rfl, (fmj_4 239 rfl rfl)⟩
set_option maxRecDepth 100000 in
theorem fe_X8_58 : fLok RX8 58 (1, 110, 2, 8, 0) := ⟨(show fMok fd_X8_sumSlipTimes from fmo_X8_sumSlipTimes), (show fPar fd_X8_sumSlipTimes 2 by unfold fPar; decide +kernel), (fmj_5 1 rfl rfl), (fmj_5 3 rfl rfl), RX8, TX8, 7, rfl, (fmj_0 23 rfl rfl)⟩
set_option maxRecDepth 100000 in
theorem fe_X8_62 : fLok RX8 62 (1, 111, 0, 8, 0) := ⟨(show fMok fd_X8_sumStoveFall from fmo_X8_sumStoveFall), (show fPar fd_X8_sumStoveFall 0 by unfold fPar; decide +kernel), (fmj_5 8 rfl rfl), (fmj_5 10 rfl rfl), RX8, TX8, 7, rfl, (fmj_0 24 rfl rfl)⟩
set_option maxRecDepth 100000 in
theorem fe_X8_65 : fLok RX8 65 (2, 315, 2, 0, 0) := ⟨(show fMok fd_J7_fill_53178 from fmo_J7_fill_53178), (show fPar fd_J7_fill_53178 2 by unfold fPar; decide +kernel), (fmj_5 5 rfl rfl), (fmj_1 146 rfl rfl)⟩
set_option maxRecDepth 100000 in
theorem fe_X8_71 : fLok RX8 71 (0, 6, 8, 0, 0) := ⟨RX6, TX6, 9, fcl_6, by decide, (fmj_2 37 rfl rfl), rfl, tyX6 8, tyX6_ok 8 (by decide), rfl⟩
set_option maxRecDepth 100000 in
theorem fe_X8_74 : fLok RX8 74 (1, 82, 4, 6, 0) := ⟨(show fMok fd_X6_isOf from fmo_X6_isOf), (show fPar fd_X6_isOf 4 by unfold fPar; decide +kernel), (fmj_5 6 rfl rfl), (fmj_4 230 rfl rfl), RX6, TX6, 9, rfl, (fmj_4 231 rfl rfl)⟩
set_option maxRecDepth 100000 in
theorem fe_X8_78 : fLok RX8 78 (2, 314, 2, 0, 0) := ⟨(show fMok fd_J9_min_7cf53 from fmo_J9_min_7cf53), (show fPar fd_J9_min_7cf53 2 by unfold fPar; decide +kernel), (fmj_5 7 rfl rfl), (fmj_4 11 rfl rfl)⟩
set_option maxRecDepth 100000 in
theorem fe_X8_83 : fLok RX8 83 (1, 29, 2, 2, 0) := ⟨(show fMok fd_X2_fact from fmo_X2_fact), (show fPar fd_X2_fact 2 by unfold fPar; decide +kernel), (fmj_5 12 rfl rfl), (fmj_4 143 rfl rfl), RX2, TX2, 18, rfl, (fmj_4 144 rfl rfl)⟩
set_option maxRecDepth 100000 in
theorem fe_X8_86 : fLok RX8 86 (15, 193, 1, 11, 0) := ⟨(show fMok fd_X11_weekOf from fmo_X11_weekOf), (show fPar fd_X11_weekOf 1 by unfold fPar; decide +kernel), by decide +kernel, Or.inl ⟨by decide +kernel, rfl⟩, (fmj_5 14 rfl rfl)⟩
set_option maxRecDepth 100000 in
theorem fe_X8_89 : fLok RX8 89 (1, 117, 3, 8, 0) := ⟨(show fMok fd_X8_offsetUndamped from fmo_X8_offsetUndamped), (show fPar fd_X8_offsetUndamped 3 by unfold fPar; decide +kernel), (fmj_5 28 rfl rfl), (fmj_5 30 rfl rfl), RX8, TX8, 7, rfl, (fmj_0 26 rfl rfl)⟩
set_option maxRecDepth 100000 in
theorem fe_X8_93 : fLok RX8 93 (1, 118, 1, 8, 0) := ⟨(show fMok fd_X8_dampFrom from fmo_X8_dampFrom), (show fPar fd_X8_dampFrom 1 by unfold fPar; decide +kernel), (fmj_5 24 rfl rfl), (fmj_5 26 rfl rfl), RX8, TX8, 7, rfl, (fmj_0 25 rfl rfl)⟩
set_option maxRecDepth 100000 in
theorem fe_X8_96 : fLok RX8 96 (0, 2, 6, 2, 0) := ⟨RX2, TX2, 18, fcl_2, by decide, (fmj_1 170 rfl rfl), rfl, tyX2 6, tyX2_ok 6 (by decide), Or.inr ⟨_, rfl⟩⟩
set_option maxRecDepth 100000 in
theorem fe_X8_99 : fLok RX8 99 (2, 313, 2, 0, 0) := ⟨(show fMok fd_J9_max_7cf53 from fmo_J9_max_7cf53), (show fPar fd_J9_max_7cf53 2 by unfold fPar; decide +kernel), (fmj_5 32 rfl rfl), (fmj_5 33 rfl rfl)⟩
set_option maxRecDepth 100000 in
theorem fe_X8_102 : fLok RX8 102 (0, 2, 1, 2, 0) := ⟨RX2, TX2, 18, fcl_2, by decide, (fmj_1 158 rfl rfl), rfl, tyX2 1, tyX2_ok 1 (by decide), Or.inr ⟨_, rfl⟩⟩
set_option maxRecDepth 100000 in
theorem fe_X8_105 : fLok RX8 105 (2, 311, 1, 0, 0) := ⟨(show fMok fd_J9_abs_0f7a4 from fmo_J9_abs_0f7a4), (show fPar fd_J9_abs_0f7a4 1 by unfold fPar; decide +kernel), (fmj_5 35 rfl rfl), (fmj_4 198 rfl rfl)⟩
set_option maxRecDepth 100000 in
theorem fe_X8_108 : fLok RX8 108 (1, 119, 2, 8, 0) := ⟨(show fMok fd_X8_greatestAt from fmo_X8_greatestAt), (show fPar fd_X8_greatestAt 2 by unfold fPar; decide +kernel), (fmj_5 48 rfl rfl), (fmj_5 21 rfl rfl), RX8, TX8, 7, rfl, (fmj_5 22 rfl rfl)⟩
set_option maxRecDepth 100000 in
theorem fe_X8_111 : fLok RX8 111 (1, 115, 0, 8, 0) := ⟨(show fMok fd_X8_ear from fmo_X8_ear), (show fPar fd_X8_ear 0 by unfold fPar; decide +kernel), (fmj_5 49 rfl rfl), (fmj_5 50 rfl rfl), RX8, TX8, 7, rfl, (fmj_5 51 rfl rfl)⟩
set_option maxRecDepth 100000 in
theorem fe_X8_115 : fLok RX8 115 (1, 121, 2, 8, 0) := ⟨(show fMok fd_X8_isBeyond from fmo_X8_isBeyond), (show fPar fd_X8_isBeyond 2 by unfold fPar; decide +kernel), (fmj_5 44 rfl rfl), (fmj_5 45 rfl rfl), RX8, TX8, 7, rfl, (fmj_5 46 rfl rfl)⟩
set_option maxRecDepth 100000 in
theorem fe_X8_119 : fLok RX8 119 (1, 109, 3, 8, 0) := ⟨(show fMok fd_X8_look from fmo_X8_look), (show fPar fd_X8_look 3 by unfold fPar; decide +kernel), (fmj_6 104 rfl rfl), (fmj_4 222 rfl rfl), RX8, TX8, 7, rfl, (fmj_4 223 rfl rfl)⟩
set_option maxRecDepth 100000 in
theorem fek_X8 : ∀ q ∈ fk_X8, fLok RX8 q.1 q.2 := List.forall_mem_cons.mpr ⟨fe_X8_3, List.forall_mem_cons.mpr ⟨fe_X8_9, List.forall_mem_cons.mpr ⟨fe_X8_15, List.forall_mem_cons.mpr ⟨fe_X8_18, List.forall_mem_cons.mpr ⟨fe_X8_21, List.forall_mem_cons.mpr ⟨fe_X8_25, List.forall_mem_cons.mpr ⟨fe_X8_29, List.forall_mem_cons.mpr ⟨fe_X8_35, List.forall_mem_cons.mpr ⟨fe_X8_39, List.forall_mem_cons.mpr ⟨fe_X8_42, List.forall_mem_cons.mpr ⟨fe_X8_45, List.forall_mem_cons.mpr ⟨fe_X8_49, List.forall_mem_cons.mpr ⟨fe_X8_52, List.forall_mem_cons.mpr ⟨fe_X8_58, List.forall_mem_cons.mpr ⟨fe_X8_62, List.forall_mem_cons.mpr ⟨fe_X8_65, List.forall_mem_cons.mpr ⟨fe_X8_71, List.forall_mem_cons.mpr ⟨fe_X8_74, List.forall_mem_cons.mpr ⟨fe_X8_78, List.forall_mem_cons.mpr ⟨fe_X8_83, List.forall_mem_cons.mpr ⟨fe_X8_86, List.forall_mem_cons.mpr ⟨fe_X8_89, List.forall_mem_cons.mpr ⟨fe_X8_93, List.forall_mem_cons.mpr ⟨fe_X8_96, List.forall_mem_cons.mpr ⟨fe_X8_99, List.forall_mem_cons.mpr ⟨fe_X8_102, List.forall_mem_cons.mpr ⟨fe_X8_105, List.forall_mem_cons.mpr ⟨fe_X8_108, List.forall_mem_cons.mpr ⟨fe_X8_111, List.forall_mem_cons.mpr ⟨fe_X8_115, List.forall_mem_cons.mpr ⟨fe_X8_119, fun _ h => absurd h List.not_mem_nil⟩⟩⟩⟩⟩⟩⟩⟩⟩⟩⟩⟩⟩⟩⟩⟩⟩⟩⟩⟩⟩⟩⟩⟩⟩⟩⟩⟩⟩⟩⟩
set_option maxRecDepth 100000 in
theorem fe_X9_5 : fLok RX9 5 (4, 0, 0, 0, 0) := ⟨(fmj_3 15 rfl rfl), (fmj_1 33 rfl rfl), (fmj_1 34 rfl rfl)⟩
set_option maxRecDepth 100000 in
theorem fe_X9_11 : fLok RX9 11 (0, 9, 1, 2, 0) := ⟨RX9, TX9, 6, fcl_9, by decide, (fmj_3 17 rfl rfl), rfl, tyX9 1, tyX9_ok 1 (by decide), Or.inr ⟨_, rfl⟩⟩
set_option maxRecDepth 100000 in
theorem fe_X9_15 : fLok RX9 15 (0, 9, 2, 2, 0) := ⟨RX9, TX9, 6, fcl_9, by decide, (fmj_3 19 rfl rfl), rfl, tyX9 2, tyX9_ok 2 (by decide), Or.inr ⟨_, rfl⟩⟩
set_option maxRecDepth 100000 in
theorem fe_X9_19 : fLok RX9 19 (0, 9, 0, 2, 0) := ⟨RX9, TX9, 6, fcl_9, by decide, (fmj_3 16 rfl rfl), rfl, tyX9 0, tyX9_ok 0 (by decide), Or.inl ⟨_, rfl⟩⟩
set_option maxRecDepth 100000 in
theorem fe_X9_23 : fLok RX9 23 (0, 9, 3, 0, 0) := ⟨RX9, TX9, 6, fcl_9, by decide, (fmj_3 20 rfl rfl), rfl, tyX9 3, tyX9_ok 3 (by decide), rfl⟩
set_option maxRecDepth 100000 in
theorem fe_X9_27 : fLok RX9 27 (1, 128, 1, 9, 0) := ⟨(show fMok fd_X9_countParts from fmo_X9_countParts), (show fPar fd_X9_countParts 1 by unfold fPar; decide +kernel), (fmj_6 118 rfl rfl), (fmj_6 120 rfl rfl), RX9, TX9, 6, rfl, (fmj_0 52 rfl rfl)⟩
set_option maxRecDepth 100000 in
theorem fe_X9_31 : fLok RX9 31 (0, 9, 4, 0, 0) := ⟨RX9, TX9, 6, fcl_9, by decide, (fmj_3 21 rfl rfl), rfl, tyX9 4, tyX9_ok 4 (by decide), rfl⟩
set_option maxRecDepth 100000 in
theorem fe_X9_34 : fLok RX9 34 (8, 0, 0, 0, (-1)) := ⟨(-1), by decide +kernel, (fmj_6 122 rfl rfl)⟩
set_option maxRecDepth 100000 in
theorem fe_X9_36 : fLok RX9 36 (0, 9, 5, 1, 0) := ⟨RX9, TX9, 6, fcl_9, by decide, (fmj_3 22 rfl rfl), rfl, tyX9 5, tyX9_ok 5 (by decide), rfl⟩
set_option maxRecDepth 100000 in
theorem fe_X9_40 : fLok RX9 40 (1, 126, 1, 9, 0) := ⟨(show fMok fd_X9_mostOf from fmo_X9_mostOf), (show fPar fd_X9_mostOf 1 by unfold fPar; decide +kernel), (fmj_6 123 rfl rfl), (fmj_6 125 rfl rfl), RX9, TX9, 6, rfl, (fmj_0 53 rfl rfl)⟩
set_option maxRecDepth 100000 in
theorem fe_X9_44 : fLok RX9 44 (8, 0, 0, 0, 1000000000000000) := ⟨1000000000000000, by decide +kernel, (fmj_6 128 rfl rfl)⟩
set_option maxRecDepth 100000 in
theorem fe_X9_46 : fLok RX9 46 (1, 129, 3, 9, 0) := ⟨(show fMok fd_X9_chanceWith from fmo_X9_chanceWith), (show fPar fd_X9_chanceWith 3 by unfold fPar; decide +kernel), (fmj_6 129 rfl rfl), (fmj_6 131 rfl rfl), RX9, TX9, 6, rfl, (fmj_0 54 rfl rfl)⟩
set_option maxRecDepth 100000 in
theorem fe_X9_50 : fLok RX9 50 (1, 127, 3, 9, 0) := ⟨(show fMok fd_X9_tryRest from fmo_X9_tryRest), (show fPar fd_X9_tryRest 3 by unfold fPar; decide +kernel), (fmj_6 134 rfl rfl), (fmj_6 136 rfl rfl), RX9, TX9, 6, rfl, (fmj_0 55 rfl rfl)⟩
set_option maxRecDepth 100000 in
theorem fe_X9_54 : fLok RX9 54 (2, 314, 2, 0, 0) := ⟨(show fMok fd_J9_min_7cf53 from fmo_J9_min_7cf53), (show fPar fd_J9_min_7cf53 2 by unfold fPar; decide +kernel), (fmj_6 127 rfl rfl), (fmj_4 11 rfl rfl)⟩
set_option maxRecDepth 100000 in
theorem fe_X9_60 : fLok RX9 60 (0, 2, 7, 2, 0) := ⟨RX2, TX2, 18, fcl_2, by decide, (fmj_1 173 rfl rfl), rfl, tyX2 7, tyX2_ok 7 (by decide), Or.inr ⟨_, rfl⟩⟩
set_option maxRecDepth 100000 in
theorem fe_X9_65 : fLok RX9 65 (8, 0, 0, 0, 20) := ⟨20, by decide +kernel, (fmj_6 133 rfl rfl)⟩
set_option maxRecDepth 100000 in
theorem fek_X9 : ∀ q ∈ fk_X9, fLok RX9 q.1 q.2 := List.forall_mem_cons.mpr ⟨fe_X9_5, List.forall_mem_cons.mpr ⟨fe_X9_11, List.forall_mem_cons.mpr ⟨fe_X9_15, List.forall_mem_cons.mpr ⟨fe_X9_19, List.forall_mem_cons.mpr ⟨fe_X9_23, List.forall_mem_cons.mpr ⟨fe_X9_27, List.forall_mem_cons.mpr ⟨fe_X9_31, List.forall_mem_cons.mpr ⟨fe_X9_34, List.forall_mem_cons.mpr ⟨fe_X9_36, List.forall_mem_cons.mpr ⟨fe_X9_40, List.forall_mem_cons.mpr ⟨fe_X9_44, List.forall_mem_cons.mpr ⟨fe_X9_46, List.forall_mem_cons.mpr ⟨fe_X9_50, List.forall_mem_cons.mpr ⟨fe_X9_54, List.forall_mem_cons.mpr ⟨fe_X9_60, List.forall_mem_cons.mpr ⟨fe_X9_65, fun _ h => absurd h List.not_mem_nil⟩⟩⟩⟩⟩⟩⟩⟩⟩⟩⟩⟩⟩⟩⟩⟩
set_option maxRecDepth 100000 in
theorem fe_X10_3 : fLok RX10 3 (4, 0, 0, 0, 0) := ⟨(fmj_1 40 rfl rfl), (fmj_1 33 rfl rfl), (fmj_1 34 rfl rfl)⟩
set_option maxRecDepth 100000 in
theorem fe_X10_11 : fLok RX10 11 (0, 10, 0, 2, 0) := ⟨RX10, TX10, 11, fcl_10, by decide, (fmj_1 94 rfl rfl), rfl, tyX10 0, tyX10_ok 0 (by decide), Or.inr ⟨_, rfl⟩⟩
set_option maxRecDepth 100000 in
theorem fe_X10_15 : fLok RX10 15 (0, 10, 1, 2, 0) := ⟨RX10, TX10, 11, fcl_10, by decide, (fmj_1 95 rfl rfl), rfl, tyX10 1, tyX10_ok 1 (by decide), Or.inr ⟨_, rfl⟩⟩
set_option maxRecDepth 100000 in
theorem fe_X10_19 : fLok RX10 19 (14, 1004, 0, 0, 0) := ⟨rfl, rfl, rfl⟩
set_option maxRecDepth 100000 in
theorem fe_X10_21 : fLok RX10 21 (12, 0, 0, 0, 0) := ⟨rfl, (fmj_1 42 rfl rfl)⟩
set_option maxRecDepth 100000 in
theorem fe_X10_27 : fLok RX10 27 (13, 0, 0, 0, 0) := ⟨rfl, (fmj_1 52 rfl rfl)⟩
set_option maxRecDepth 100000 in
theorem fe_X10_31 : fLok RX10 31 (2, 131, 2, 10, 0) := ⟨(show fMok fd_X10_withLetter from fmo_X10_withLetter), (show fPar fd_X10_withLetter 2 by unfold fPar; decide +kernel), (fmj_1 90 rfl rfl), (fmj_1 91 rfl rfl)⟩
set_option maxRecDepth 100000 in
theorem fe_X10_35 : fLok RX10 35 (8, 0, 0, 0, 32) := ⟨32, by decide +kernel, (fmj_1 93 rfl rfl)⟩
set_option maxRecDepth 100000 in
theorem fe_X10_37 : fLok RX10 37 (0, 10, 2, 0, 0) := ⟨RX10, TX10, 11, fcl_10, by decide, (fmj_1 97 rfl rfl), rfl, tyX10 2, tyX10_ok 2 (by decide), rfl⟩
set_option maxRecDepth 100000 in
theorem fe_X10_40 : fLok RX10 40 (0, 10, 3, 0, 0) := ⟨RX10, TX10, 11, fcl_10, by decide, (fmj_1 98 rfl rfl), rfl, tyX10 3, tyX10_ok 3 (by decide), rfl⟩
set_option maxRecDepth 100000 in
theorem fe_X10_43 : fLok RX10 43 (0, 10, 4, 0, 0) := ⟨RX10, TX10, 11, fcl_10, by decide, (fmj_1 99 rfl rfl), rfl, tyX10 4, tyX10_ok 4 (by decide), rfl⟩
set_option maxRecDepth 100000 in
theorem fe_X10_46 : fLok RX10 46 (0, 10, 5, 0, 0) := ⟨RX10, TX10, 11, fcl_10, by decide, (fmj_1 100 rfl rfl), rfl, tyX10 5, tyX10_ok 5 (by decide), rfl⟩
set_option maxRecDepth 100000 in
theorem fe_X10_49 : fLok RX10 49 (0, 10, 9, 0, 0) := ⟨RX10, TX10, 11, fcl_10, by decide, (fmj_1 107 rfl rfl), rfl, tyX10 9, tyX10_ok 9 (by decide), rfl⟩
set_option maxRecDepth 100000 in
theorem fe_X10_52 : fLok RX10 52 (0, 10, 10, 0, 0) := ⟨RX10, TX10, 11, fcl_10, by decide, (fmj_1 109 rfl rfl), rfl, tyX10 10, tyX10_ok 10 (by decide), rfl⟩
set_option maxRecDepth 100000 in
theorem fe_X10_55 : fLok RX10 55 (2, 140, 1, 10, 0) := ⟨(show fMok fd_X10_isBlank from fmo_X10_isBlank), (show fPar fd_X10_isBlank 1 by unfold fPar; decide +kernel), (fmj_3 144 rfl rfl), (fmj_3 145 rfl rfl)⟩
set_option maxRecDepth 100000 in
theorem fe_X10_59 : fLok RX10 59 (0, 10, 6, 0, 0) := ⟨RX10, TX10, 11, fcl_10, by decide, (fmj_1 103 rfl rfl), rfl, tyX10 6, tyX10_ok 6 (by decide), rfl⟩
set_option maxRecDepth 100000 in
theorem fe_X10_62 : fLok RX10 62 (2, 141, 1, 10, 0) := ⟨(show fMok fd_X10_isLetter from fmo_X10_isLetter), (show fPar fd_X10_isLetter 1 by unfold fPar; decide +kernel), (fmj_3 147 rfl rfl), (fmj_3 148 rfl rfl)⟩
set_option maxRecDepth 100000 in
theorem fe_X10_65 : fLok RX10 65 (2, 142, 1, 10, 0) := ⟨(show fMok fd_X10_isDigit from fmo_X10_isDigit), (show fPar fd_X10_isDigit 1 by unfold fPar; decide +kernel), (fmj_3 150 rfl rfl), (fmj_3 151 rfl rfl)⟩
set_option maxRecDepth 100000 in
theorem fe_X10_68 : fLok RX10 68 (1, 139, 0, 10, 0) := ⟨(show fMok fd_X10_takeRun from fmo_X10_takeRun), (show fPar fd_X10_takeRun 0 by unfold fPar; decide +kernel), (fmj_3 153 rfl rfl), (fmj_3 155 rfl rfl), RX10, TX10, 11, rfl, (fmj_0 0 rfl rfl)⟩
set_option maxRecDepth 100000 in
theorem fe_X10_71 : fLok RX10 71 (0, 10, 8, 1, 0) := ⟨RX10, TX10, 11, fcl_10, by decide, (fmj_1 105 rfl rfl), rfl, tyX10 8, tyX10_ok 8 (by decide), rfl⟩
set_option maxRecDepth 100000 in
theorem fe_X10_75 : fLok RX10 75 (0, 10, 7, 0, 0) := ⟨RX10, TX10, 11, fcl_10, by decide, (fmj_1 104 rfl rfl), rfl, tyX10 7, tyX10_ok 7 (by decide), rfl⟩
set_option maxRecDepth 100000 in
theorem fe_X10_78 : fLok RX10 78 (1, 138, 0, 10, 0) := ⟨(show fMok fd_X10_take from fmo_X10_take), (show fPar fd_X10_take 0 by unfold fPar; decide +kernel), (fmj_4 4 rfl rfl), (fmj_3 141 rfl rfl), RX10, TX10, 11, rfl, (fmj_3 142 rfl rfl)⟩
set_option maxRecDepth 100000 in
theorem fe_X10_81 : fLok RX10 81 (1, 145, 2, 10, 0) := ⟨(show fMok fd_X10_numberHere from fmo_X10_numberHere), (show fPar fd_X10_numberHere 2 by unfold fPar; decide +kernel), (fmj_4 5 rfl rfl), (fmj_4 6 rfl rfl), RX10, TX10, 11, rfl, (fmj_4 7 rfl rfl)⟩
set_option maxRecDepth 100000 in
theorem fe_X10_85 : fLok RX10 85 (1, 149, 1, 10, 0) := ⟨(show fMok fd_X10_fail from fmo_X10_fail), (show fPar fd_X10_fail 1 by unfold fPar; decide +kernel), (fmj_4 9 rfl rfl), (fmj_3 174 rfl rfl), RX10, TX10, 11, rfl, (fmj_3 175 rfl rfl)⟩
set_option maxRecDepth 100000 in
theorem fe_X10_89 : fLok RX10 89 (1, 146, 0, 10, 0) := ⟨(show fMok fd_X10_keywordHere from fmo_X10_keywordHere), (show fPar fd_X10_keywordHere 0 by unfold fPar; decide +kernel), (fmj_4 33 rfl rfl), (fmj_3 158 rfl rfl), RX10, TX10, 11, rfl, (fmj_3 159 rfl rfl)⟩
set_option maxRecDepth 100000 in
theorem fe_X10_92 : fLok RX10 92 (6, 1, 94, 0, 0) := ⟨(fmj_3 177 rfl rfl), (fmj_1 23 rfl rfl), by decide +kernel, by decide +kernel, by decide +kernel⟩
set_option maxRecDepth 100000 in
theorem fek_X10 : ∀ q ∈ fk_X10, fLok RX10 q.1 q.2 := List.forall_mem_cons.mpr ⟨fe_X10_3, List.forall_mem_cons.mpr ⟨fe_X10_11, List.forall_mem_cons.mpr ⟨fe_X10_15, List.forall_mem_cons.mpr ⟨fe_X10_19, List.forall_mem_cons.mpr ⟨fe_X10_21, List.forall_mem_cons.mpr ⟨fe_X10_27, List.forall_mem_cons.mpr ⟨fe_X10_31, List.forall_mem_cons.mpr ⟨fe_X10_35, List.forall_mem_cons.mpr ⟨fe_X10_37, List.forall_mem_cons.mpr ⟨fe_X10_40, List.forall_mem_cons.mpr ⟨fe_X10_43, List.forall_mem_cons.mpr ⟨fe_X10_46, List.forall_mem_cons.mpr ⟨fe_X10_49, List.forall_mem_cons.mpr ⟨fe_X10_52, List.forall_mem_cons.mpr ⟨fe_X10_55, List.forall_mem_cons.mpr ⟨fe_X10_59, List.forall_mem_cons.mpr ⟨fe_X10_62, List.forall_mem_cons.mpr ⟨fe_X10_65, List.forall_mem_cons.mpr ⟨fe_X10_68, List.forall_mem_cons.mpr ⟨fe_X10_71, List.forall_mem_cons.mpr ⟨fe_X10_75, List.forall_mem_cons.mpr ⟨fe_X10_78, List.forall_mem_cons.mpr ⟨fe_X10_81, List.forall_mem_cons.mpr ⟨fe_X10_85, List.forall_mem_cons.mpr ⟨fe_X10_89, List.forall_mem_cons.mpr ⟨fe_X10_92, fun _ h => absurd h List.not_mem_nil⟩⟩⟩⟩⟩⟩⟩⟩⟩⟩⟩⟩⟩⟩⟩⟩⟩⟩⟩⟩⟩⟩⟩⟩⟩⟩
set_option maxRecDepth 100000 in
theorem fe_X11_1 : fLok RX11 1 (4, 0, 0, 0, 0) := ⟨(fmj_1 32 rfl rfl), (fmj_1 33 rfl rfl), (fmj_1 34 rfl rfl)⟩
set_option maxRecDepth 100000 in
theorem fe_X11_7 : fLok RX11 7 (5, 10, 11, 0, 0) := ⟨⟨RX10, TX10, fcl_10, (fmj_1 35 rfl rfl), (fmj_1 36 rfl rfl), (fmj_1 2 rfl rfl), tyX10, fty_10⟩, fun h => absurd h (by decide), fun h => absurd h (by decide)⟩
set_option maxRecDepth 100000 in
theorem fe_X11_9 : fLok RX11 9 (3, 130, 0, 10, 0) := ⟨(show fMok fd_X10_init from fmo_X10_init), (show fPar fd_X10_init 0 by unfold fPar; decide +kernel), (fmj_1 37 rfl rfl), (fmj_1 38 rfl rfl), by decide +kernel, by decide +kernel, by decide +kernel⟩
set_option maxRecDepth 100000 in
theorem fe_X11_10 : fLok RX11 10 (0, 11, 0, 2, 0) := ⟨RX11, TX11, 15, fcl_11, by decide, (fmj_3 60 rfl rfl), rfl, tyX11 0, tyX11_ok 0 (by decide), Or.inl ⟨_, rfl⟩⟩
set_option maxRecDepth 100000 in
theorem fe_X11_16 : fLok RX11 16 (5, 2, 18, 4, 0) := ⟨⟨RX2, TX2, fcl_2, (fmj_1 135 rfl rfl), (fmj_1 136 rfl rfl), (fmj_1 7 rfl rfl), tyX2, fty_2⟩, fun _ => (fmj_1 135 rfl rfl), fun h => absurd h (by decide)⟩
set_option maxRecDepth 100000 in
theorem fe_X11_18 : fLok RX11 18 (3, 24, 0, 2, 0) := ⟨(show fMok fd_X2_init from fmo_X2_init), (show fPar fd_X2_init 0 by unfold fPar; decide +kernel), (fmj_1 137 rfl rfl), (fmj_1 138 rfl rfl), by decide +kernel, by decide +kernel, by decide +kernel⟩
set_option maxRecDepth 100000 in
theorem fe_X11_19 : fLok RX11 19 (0, 11, 1, 2, 0) := ⟨RX11, TX11, 15, fcl_11, by decide, (fmj_3 61 rfl rfl), rfl, tyX11 1, tyX11_ok 1 (by decide), Or.inl ⟨_, rfl⟩⟩
set_option maxRecDepth 100000 in
theorem fe_X11_23 : fLok RX11 23 (5, 6, 9, 5, 0) := ⟨⟨RX6, TX6, fcl_6, (fmj_2 2 rfl rfl), (fmj_2 3 rfl rfl), (fmj_1 10 rfl rfl), tyX6, fty_6⟩, fun h => absurd h (by decide), fun _ => (fmj_2 2 rfl rfl)⟩
set_option maxRecDepth 100000 in
theorem fe_X11_25 : fLok RX11 25 (16, 76, 0, 6, 0) := ⟨(show fMok fd_X6_init from fmo_X6_init), (show fPar fd_X6_init 0 by unfold fPar; decide +kernel), by decide +kernel, by decide +kernel, rfl, (fmj_2 5 rfl rfl), by decide +kernel, by decide +kernel⟩
set_option maxRecDepth 100000 in
theorem fe_X11_26 : fLok RX11 26 (0, 11, 2, 2, 0) := ⟨RX11, TX11, 15, fcl_11, by decide, (fmj_3 62 rfl rfl), rfl, tyX11 2, tyX11_ok 2 (by decide), Or.inl ⟨_, rfl⟩⟩
set_option maxRecDepth 100000 in
theorem fe_X11_30 : fLok RX11 30 (5, 3, 3, 0, 0) := ⟨⟨RX3, TX3, fcl_3, (fmj_2 59 rfl rfl), (fmj_2 60 rfl rfl), (fmj_1 11 rfl rfl), tyX3, fty_3⟩, fun h => absurd h (by decide), fun h => absurd h (by decide)⟩
set_option maxRecDepth 100000 in
theorem fe_X11_32 : fLok RX11 32 (3, 46, 1, 3, 0) := ⟨(show fMok fd_X3_init from fmo_X3_init), (show fPar fd_X3_init 1 by unfold fPar; decide +kernel), (fmj_2 61 rfl rfl), (fmj_2 62 rfl rfl), by decide +kernel, by decide +kernel, by decide +kernel⟩
set_option maxRecDepth 100000 in
theorem fe_X11_35 : fLok RX11 35 (0, 11, 3, 2, 0) := ⟨RX11, TX11, 15, fcl_11, by decide, (fmj_3 63 rfl rfl), rfl, tyX11 3, tyX11_ok 3 (by decide), Or.inl ⟨_, rfl⟩⟩
set_option maxRecDepth 100000 in
theorem fe_X11_39 : fLok RX11 39 (5, 5, 3, 0, 0) := ⟨⟨RX5, TX5, fcl_5, (fmj_2 78 rfl rfl), (fmj_2 79 rfl rfl), (fmj_1 12 rfl rfl), tyX5, fty_5⟩, fun h => absurd h (by decide), fun h => absurd h (by decide)⟩
set_option maxRecDepth 100000 in
theorem fe_X11_41 : fLok RX11 41 (3, 69, 3, 5, 0) := ⟨(show fMok fd_X5_init from fmo_X5_init), (show fPar fd_X5_init 3 by unfold fPar; decide +kernel), (fmj_2 80 rfl rfl), (fmj_2 81 rfl rfl), by decide +kernel, by decide +kernel, by decide +kernel⟩
set_option maxRecDepth 100000 in
theorem fe_X11_44 : fLok RX11 44 (0, 11, 4, 2, 0) := ⟨RX11, TX11, 15, fcl_11, by decide, (fmj_3 64 rfl rfl), rfl, tyX11 4, tyX11_ok 4 (by decide), Or.inl ⟨_, rfl⟩⟩
set_option maxRecDepth 100000 in
theorem fe_X11_48 : fLok RX11 48 (5, 8, 7, 0, 0) := ⟨⟨RX8, TX8, fcl_8, (fmj_2 94 rfl rfl), (fmj_2 95 rfl rfl), (fmj_1 13 rfl rfl), tyX8, fty_8⟩, fun h => absurd h (by decide), fun h => absurd h (by decide)⟩
set_option maxRecDepth 100000 in
theorem fe_X11_50 : fLok RX11 50 (3, 108, 2, 8, 0) := ⟨(show fMok fd_X8_init from fmo_X8_init), (show fPar fd_X8_init 2 by unfold fPar; decide +kernel), (fmj_2 96 rfl rfl), (fmj_2 97 rfl rfl), by decide +kernel, by decide +kernel, by decide +kernel⟩
set_option maxRecDepth 100000 in
theorem fe_X11_53 : fLok RX11 53 (0, 11, 5, 2, 0) := ⟨RX11, TX11, 15, fcl_11, by decide, (fmj_3 65 rfl rfl), rfl, tyX11 5, tyX11_ok 5 (by decide), Or.inl ⟨_, rfl⟩⟩
set_option maxRecDepth 100000 in
theorem fe_X11_57 : fLok RX11 57 (5, 1, 11, 0, 0) := ⟨⟨RX1, TX1, fcl_1, (fmj_2 122 rfl rfl), (fmj_2 123 rfl rfl), (fmj_1 14 rfl rfl), tyX1, fty_1⟩, fun h => absurd h (by decide), fun h => absurd h (by decide)⟩
set_option maxRecDepth 100000 in
theorem fe_X11_59 : fLok RX11 59 (3, 9, 2, 1, 0) := ⟨(show fMok fd_X1_init from fmo_X1_init), (show fPar fd_X1_init 2 by unfold fPar; decide +kernel), (fmj_2 124 rfl rfl), (fmj_2 125 rfl rfl), by decide +kernel, by decide +kernel, by decide +kernel⟩
set_option maxRecDepth 100000 in
theorem fe_X11_60 : fLok RX11 60 (0, 11, 6, 2, 0) := ⟨RX11, TX11, 15, fcl_11, by decide, (fmj_3 66 rfl rfl), rfl, tyX11 6, tyX11_ok 6 (by decide), Or.inl ⟨_, rfl⟩⟩
set_option maxRecDepth 100000 in
theorem fe_X11_64 : fLok RX11 64 (5, 0, 3, 0, 0) := ⟨⟨RX0, TX0, fcl_0, (fmj_2 166 rfl rfl), (fmj_2 167 rfl rfl), (fmj_1 15 rfl rfl), tyX0, fty_0⟩, fun h => absurd h (by decide), fun h => absurd h (by decide)⟩
set_option maxRecDepth 100000 in
theorem fe_X11_66 : fLok RX11 66 (3, 0, 3, 0, 0) := ⟨(show fMok fd_X0_init from fmo_X0_init), (show fPar fd_X0_init 3 by unfold fPar; decide +kernel), (fmj_2 168 rfl rfl), (fmj_2 169 rfl rfl), by decide +kernel, by decide +kernel, by decide +kernel⟩
set_option maxRecDepth 100000 in
theorem fe_X11_69 : fLok RX11 69 (0, 11, 7, 2, 0) := ⟨RX11, TX11, 15, fcl_11, by decide, (fmj_3 67 rfl rfl), rfl, tyX11 7, tyX11_ok 7 (by decide), Or.inl ⟨_, rfl⟩⟩
set_option maxRecDepth 100000 in
theorem fe_X11_73 : fLok RX11 73 (5, 7, 19, 0, 0) := ⟨⟨RX7, TX7, fcl_7, (fmj_2 182 rfl rfl), (fmj_2 183 rfl rfl), (fmj_1 16 rfl rfl), tyX7, fty_7⟩, fun h => absurd h (by decide), fun h => absurd h (by decide)⟩
set_option maxRecDepth 100000 in
theorem fe_X11_75 : fLok RX11 75 (3, 86, 3, 7, 0) := ⟨(show fMok fd_X7_init from fmo_X7_init), (show fPar fd_X7_init 3 by unfold fPar; decide +kernel), (fmj_2 184 rfl rfl), (fmj_2 185 rfl rfl), by decide +kernel, by decide +kernel, by decide +kernel⟩
set_option maxRecDepth 100000 in
theorem fe_X11_76 : fLok RX11 76 (0, 11, 8, 2, 0) := ⟨RX11, TX11, 15, fcl_11, by decide, (fmj_3 68 rfl rfl), rfl, tyX11 8, tyX11_ok 8 (by decide), Or.inl ⟨_, rfl⟩⟩
set_option maxRecDepth 100000 in
theorem fe_X11_80 : fLok RX11 80 (5, 9, 6, 0, 0) := ⟨⟨RX9, TX9, fcl_9, (fmj_3 10 rfl rfl), (fmj_3 11 rfl rfl), (fmj_1 17 rfl rfl), tyX9, fty_9⟩, fun h => absurd h (by decide), fun h => absurd h (by decide)⟩
set_option maxRecDepth 100000 in
theorem fe_X11_82 : fLok RX11 82 (3, 124, 1, 9, 0) := ⟨(show fMok fd_X9_init from fmo_X9_init), (show fPar fd_X9_init 1 by unfold fPar; decide +kernel), (fmj_3 12 rfl rfl), (fmj_3 13 rfl rfl), by decide +kernel, by decide +kernel, by decide +kernel⟩
set_option maxRecDepth 100000 in
theorem fe_X11_85 : fLok RX11 85 (0, 11, 9, 2, 0) := ⟨RX11, TX11, 15, fcl_11, by decide, (fmj_3 69 rfl rfl), rfl, tyX11 9, tyX11_ok 9 (by decide), Or.inl ⟨_, rfl⟩⟩
set_option maxRecDepth 100000 in
theorem fe_X11_89 : fLok RX11 89 (5, 4, 4, 0, 0) := ⟨⟨RX4, TX4, fcl_4, (fmj_3 37 rfl rfl), (fmj_3 38 rfl rfl), (fmj_1 18 rfl rfl), tyX4, fty_4⟩, fun h => absurd h (by decide), fun h => absurd h (by decide)⟩
set_option maxRecDepth 100000 in
theorem fe_X11_91 : fLok RX11 91 (3, 63, 1, 4, 0) := ⟨(show fMok fd_X4_init from fmo_X4_init), (show fPar fd_X4_init 1 by unfold fPar; decide +kernel), (fmj_3 39 rfl rfl), (fmj_3 40 rfl rfl), by decide +kernel, by decide +kernel, by decide +kernel⟩
set_option maxRecDepth 100000 in
theorem fe_X11_92 : fLok RX11 92 (0, 11, 10, 2, 0) := ⟨RX11, TX11, 15, fcl_11, by decide, (fmj_3 70 rfl rfl), rfl, tyX11 10, tyX11_ok 10 (by decide), Or.inl ⟨_, rfl⟩⟩
set_option maxRecDepth 100000 in
theorem fe_X11_96 : fLok RX11 96 (0, 11, 11, 2, 0) := ⟨RX11, TX11, 15, fcl_11, by decide, (fmj_3 71 rfl rfl), rfl, tyX11 11, tyX11_ok 11 (by decide), Or.inr ⟨_, rfl⟩⟩
set_option maxRecDepth 100000 in
theorem fe_X11_100 : fLok RX11 100 (0, 11, 12, 2, 0) := ⟨RX11, TX11, 15, fcl_11, by decide, (fmj_3 72 rfl rfl), rfl, tyX11 12, tyX11_ok 12 (by decide), Or.inr ⟨_, rfl⟩⟩
set_option maxRecDepth 100000 in
theorem fe_X11_104 : fLok RX11 104 (0, 11, 13, 2, 0) := ⟨RX11, TX11, 15, fcl_11, by decide, (fmj_3 73 rfl rfl), rfl, tyX11 13, tyX11_ok 13 (by decide), Or.inr ⟨_, rfl⟩⟩
set_option maxRecDepth 100000 in
theorem fe_X11_108 : fLok RX11 108 (0, 11, 14, 0, 0) := ⟨RX11, TX11, 15, fcl_11, by decide, (fmj_3 74 rfl rfl), rfl, tyX11 14, tyX11_ok 14 (by decide), rfl⟩
set_option maxRecDepth 100000 in
theorem fe_X11_112 : fLok RX11 112 (1, 132, 1, 10, 0) := ⟨(show fMok fd_X10_hasRoom from fmo_X10_hasRoom), (show fPar fd_X10_hasRoom 1 by unfold fPar; decide +kernel), (fmj_3 110 rfl rfl), (fmj_3 111 rfl rfl), RX10, TX10, 11, rfl, (fmj_3 112 rfl rfl)⟩
set_option maxRecDepth 100000 in
theorem fe_X11_116 : fLok RX11 116 (1, 133, 1, 10, 0) := ⟨(show fMok fd_X10_add from fmo_X10_add), (show fPar fd_X10_add 1 by unfold fPar; decide +kernel), (fmj_3 114 rfl rfl), (fmj_3 115 rfl rfl), RX10, TX10, 11, rfl, (fmj_3 116 rfl rfl)⟩
set_option maxRecDepth 100000 in
theorem fe_X11_120 : fLok RX11 120 (0, 10, 2, 0, 0) := ⟨RX10, TX10, 11, fcl_10, by decide, (fmj_1 96 rfl rfl), rfl, tyX10 2, tyX10_ok 2 (by decide), rfl⟩
set_option maxRecDepth 100000 in
theorem fe_X11_123 : fLok RX11 123 (1, 134, 1, 10, 0) := ⟨(show fMok fd_X10_isCut from fmo_X10_isCut), (show fPar fd_X10_isCut 1 by unfold fPar; decide +kernel), (fmj_3 122 rfl rfl), (fmj_3 123 rfl rfl), RX10, TX10, 11, rfl, (fmj_3 124 rfl rfl)⟩
set_option maxRecDepth 100000 in
theorem fe_X11_126 : fLok RX11 126 (1, 47, 0, 3, 0) := ⟨(show fMok fd_X3_readAll from fmo_X3_readAll), (show fPar fd_X3_readAll 0 by unfold fPar; decide +kernel), (fmj_3 131 rfl rfl), (fmj_3 132 rfl rfl), RX3, TX3, 3, rfl, (fmj_3 133 rfl rfl)⟩
set_option maxRecDepth 100000 in
theorem fe_X11_129 : fLok RX11 129 (0, 3, 1, 2, 0) := ⟨RX3, TX3, 3, fcl_3, by decide, (fmj_2 69 rfl rfl), rfl, tyX3 1, tyX3_ok 1 (by decide), Or.inl ⟨_, rfl⟩⟩
set_option maxRecDepth 100000 in
theorem fe_X11_132 : fLok RX11 132 (1, 26, 1, 2, 0) := ⟨(show fMok fd_X2_copyFrom from fmo_X2_copyFrom), (show fPar fd_X2_copyFrom 1 by unfold fPar; decide +kernel), (fmj_4 104 rfl rfl), (fmj_4 105 rfl rfl), RX2, TX2, 18, rfl, (fmj_4 106 rfl rfl)⟩
set_option maxRecDepth 100000 in
theorem fe_X11_135 : fLok RX11 135 (0, 6, 8, 0, 0) := ⟨RX6, TX6, 9, fcl_6, by decide, (fmj_2 39 rfl rfl), rfl, tyX6 8, tyX6_ok 8 (by decide), rfl⟩
set_option maxRecDepth 100000 in
theorem fe_X11_140 : fLok RX11 140 (1, 135, 0, 10, 0) := ⟨(show fMok fd_X10_empty from fmo_X10_empty), (show fPar fd_X10_empty 0 by unfold fPar; decide +kernel), (fmj_4 108 rfl rfl), (fmj_4 109 rfl rfl), RX10, TX10, 11, rfl, (fmj_4 110 rfl rfl)⟩
set_option maxRecDepth 100000 in
theorem fe_X11_143 : fLok RX11 143 (0, 10, 9, 0, 0) := ⟨RX10, TX10, 11, fcl_10, by decide, (fmj_1 106 rfl rfl), rfl, tyX10 9, tyX10_ok 9 (by decide), rfl⟩
set_option maxRecDepth 100000 in
theorem fe_X11_144 : fLok RX11 144 (0, 2, 17, 0, 0) := ⟨RX2, TX2, 18, fcl_2, by decide, (fmj_1 203 rfl rfl), rfl, tyX2 17, tyX2_ok 17 (by decide), rfl⟩
set_option maxRecDepth 100000 in
theorem fe_X11_147 : fLok RX11 147 (0, 10, 10, 0, 0) := ⟨RX10, TX10, 11, fcl_10, by decide, (fmj_1 108 rfl rfl), rfl, tyX10 10, tyX10_ok 10 (by decide), rfl⟩
set_option maxRecDepth 100000 in
theorem fe_X11_150 : fLok RX11 150 (1, 70, 0, 5, 0) := ⟨(show fMok fd_X5_readAll from fmo_X5_readAll), (show fPar fd_X5_readAll 0 by unfold fPar; decide +kernel), (fmj_4 116 rfl rfl), (fmj_4 117 rfl rfl), RX5, TX5, 3, rfl, (fmj_4 118 rfl rfl)⟩
set_option maxRecDepth 100000 in
theorem fe_X11_153 : fLok RX11 153 (1, 30, 1, 2, 0) := ⟨(show fMok fd_X2_hasPiano from fmo_X2_hasPiano), (show fPar fd_X2_hasPiano 1 by unfold fPar; decide +kernel), (fmj_4 217 rfl rfl), (fmj_4 139 rfl rfl), RX2, TX2, 18, rfl, (fmj_4 140 rfl rfl)⟩
set_option maxRecDepth 100000 in
theorem fe_X11_156 : fLok RX11 156 (2, 192, 2, 11, 0) := ⟨(show fMok fd_X11_isWithin from fmo_X11_isWithin), (show fPar fd_X11_isWithin 2 by unfold fPar; decide +kernel), (fmj_4 178 rfl rfl), (fmj_4 179 rfl rfl)⟩
set_option maxRecDepth 100000 in
theorem fe_X11_160 : fLok RX11 160 (6, 0, 162, 0, 0) := ⟨(fmj_6 201 rfl rfl), (fmj_1 25 rfl rfl), by decide +kernel, by decide +kernel, by decide +kernel⟩
set_option maxRecDepth 100000 in
theorem fe_X11_163 : fLok RX11 163 (1, 29, 2, 2, 0) := ⟨(show fMok fd_X2_fact from fmo_X2_fact), (show fPar fd_X2_fact 2 by unfold fPar; decide +kernel), (fmj_6 109 rfl rfl), (fmj_4 143 rfl rfl), RX2, TX2, 18, rfl, (fmj_4 144 rfl rfl)⟩
set_option maxRecDepth 100000 in
theorem fe_X11_167 : fLok RX11 167 (0, 2, 1, 2, 0) := ⟨RX2, TX2, 18, fcl_2, by decide, (fmj_1 157 rfl rfl), rfl, tyX2 1, tyX2_ok 1 (by decide), Or.inr ⟨_, rfl⟩⟩
set_option maxRecDepth 100000 in
theorem fe_X11_170 : fLok RX11 170 (0, 2, 2, 2, 0) := ⟨RX2, TX2, 18, fcl_2, by decide, (fmj_1 161 rfl rfl), rfl, tyX2 2, tyX2_ok 2 (by decide), Or.inr ⟨_, rfl⟩⟩
set_option maxRecDepth 100000 in
theorem fe_X11_173 : fLok RX11 173 (1, 43, 0, 2, 0) := ⟨(show fMok fd_X2_hasTable from fmo_X2_hasTable), (show fPar fd_X2_hasTable 0 by unfold fPar; decide +kernel), (fmj_4 185 rfl rfl), (fmj_4 186 rfl rfl), RX2, TX2, 18, rfl, (fmj_4 187 rfl rfl)⟩
set_option maxRecDepth 100000 in
theorem fe_X11_177 : fLok RX11 177 (1, 44, 2, 2, 0) := ⟨(show fMok fd_X2_beatsOf from fmo_X2_beatsOf), (show fPar fd_X2_beatsOf 2 by unfold fPar; decide +kernel), (fmj_4 189 rfl rfl), (fmj_4 190 rfl rfl), RX2, TX2, 18, rfl, (fmj_4 191 rfl rfl)⟩
set_option maxRecDepth 100000 in
theorem fe_X11_180 : fLok RX11 180 (1, 45, 1, 2, 0) := ⟨(show fMok fd_X2_wildest from fmo_X2_wildest), (show fPar fd_X2_wildest 1 by unfold fPar; decide +kernel), (fmj_4 204 rfl rfl), (fmj_4 205 rfl rfl), RX2, TX2, 18, rfl, (fmj_4 206 rfl rfl)⟩
set_option maxRecDepth 100000 in
theorem fe_X11_184 : fLok RX11 184 (1, 190, 3, 11, 0) := ⟨(show fMok fd_X11_isAsked from fmo_X11_isAsked), (show fPar fd_X11_isAsked 3 by unfold fPar; decide +kernel), (fmj_4 213 rfl rfl), (fmj_4 215 rfl rfl), RX11, TX11, 15, rfl, (fmj_0 22 rfl rfl)⟩
set_option maxRecDepth 100000 in
theorem fe_X11_188 : fLok RX11 188 (1, 109, 3, 8, 0) := ⟨(show fMok fd_X8_look from fmo_X8_look), (show fPar fd_X8_look 3 by unfold fPar; decide +kernel), (fmj_4 221 rfl rfl), (fmj_4 222 rfl rfl), RX8, TX8, 7, rfl, (fmj_4 223 rfl rfl)⟩
set_option maxRecDepth 100000 in
theorem fe_X11_192 : fLok RX11 192 (1, 112, 0, 8, 0) := ⟨(show fMok fd_X8_wasTuned from fmo_X8_wasTuned), (show fPar fd_X8_wasTuned 0 by unfold fPar; decide +kernel), (fmj_5 16 rfl rfl), (fmj_5 17 rfl rfl), RX8, TX8, 7, rfl, (fmj_5 18 rfl rfl)⟩
set_option maxRecDepth 100000 in
theorem fe_X11_195 : fLok RX11 195 (1, 116, 3, 8, 0) := ⟨(show fMok fd_X8_offsetAt from fmo_X8_offsetAt), (show fPar fd_X8_offsetAt 3 by unfold fPar; decide +kernel), (fmj_6 223 rfl rfl), (fmj_6 224 rfl rfl), RX8, TX8, 7, rfl, (fmj_6 225 rfl rfl)⟩
set_option maxRecDepth 100000 in
theorem fe_X11_199 : fLok RX11 199 (1, 119, 2, 8, 0) := ⟨(show fMok fd_X8_greatestAt from fmo_X8_greatestAt), (show fPar fd_X8_greatestAt 2 by unfold fPar; decide +kernel), (fmj_5 20 rfl rfl), (fmj_5 21 rfl rfl), RX8, TX8, 7, rfl, (fmj_5 22 rfl rfl)⟩
set_option maxRecDepth 100000 in
theorem fe_X11_202 : fLok RX11 202 (1, 122, 2, 8, 0) := ⟨(show fMok fd_X8_firstBeyond from fmo_X8_firstBeyond), (show fPar fd_X8_firstBeyond 2 by unfold fPar; decide +kernel), (fmj_5 40 rfl rfl), (fmj_5 41 rfl rfl), RX8, TX8, 7, rfl, (fmj_5 42 rfl rfl)⟩
set_option maxRecDepth 100000 in
theorem fe_X11_205 : fLok RX11 205 (2, 191, 1, 11, 0) := ⟨(show fMok fd_X11_isKnowing from fmo_X11_isKnowing), (show fPar fd_X11_isKnowing 1 by unfold fPar; decide +kernel), (fmj_4 218 rfl rfl), (fmj_4 219 rfl rfl)⟩
set_option maxRecDepth 100000 in
theorem fe_X11_208 : fLok RX11 208 (1, 14, 2, 1, 0) := ⟨(show fMok fd_X1_mostSlipping from fmo_X1_mostSlipping), (show fPar fd_X1_mostSlipping 2 by unfold fPar; decide +kernel), (fmj_5 57 rfl rfl), (fmj_5 58 rfl rfl), RX1, TX1, 11, rfl, (fmj_5 59 rfl rfl)⟩
set_option maxRecDepth 100000 in
theorem fe_X11_211 : fLok RX11 211 (0, 1, 8, 0, 0) := ⟨RX1, TX1, 11, fcl_1, by decide, (fmj_2 138 rfl rfl), rfl, tyX1 8, tyX1_ok 8 (by decide), rfl⟩
set_option maxRecDepth 100000 in
theorem fe_X11_214 : fLok RX11 214 (0, 1, 7, 0, 0) := ⟨RX1, TX1, 11, fcl_1, by decide, (fmj_2 136 rfl rfl), rfl, tyX1 7, tyX1_ok 7 (by decide), rfl⟩
set_option maxRecDepth 100000 in
theorem fe_X11_217 : fLok RX11 217 (1, 16, 1, 1, 0) := ⟨(show fMok fd_X1_weighStoves from fmo_X1_weighStoves), (show fPar fd_X1_weighStoves 1 by unfold fPar; decide +kernel), (fmj_7 1 rfl rfl), (fmj_7 2 rfl rfl), RX1, TX1, 11, rfl, (fmj_7 3 rfl rfl)⟩
set_option maxRecDepth 100000 in
theorem fe_X11_220 : fLok RX11 220 (0, 1, 9, 1, 0) := ⟨RX1, TX1, 11, fcl_1, by decide, (fmj_2 140 rfl rfl), rfl, tyX1 9, tyX1_ok 9 (by decide), rfl⟩
set_option maxRecDepth 100000 in
theorem fe_X11_224 : fLok RX11 224 (0, 1, 10, 1, 0) := ⟨RX1, TX1, 11, fcl_1, by decide, (fmj_2 142 rfl rfl), rfl, tyX1 10, tyX1_ok 10 (by decide), rfl⟩
set_option maxRecDepth 100000 in
theorem fe_X11_227 : fLok RX11 227 (1, 31, 1, 2, 0) := ⟨(show fMok fd_X2_hasTuner from fmo_X2_hasTuner), (show fPar fd_X2_hasTuner 1 by unfold fPar; decide +kernel), (fmj_5 141 rfl rfl), (fmj_5 142 rfl rfl), RX2, TX2, 18, rfl, (fmj_5 143 rfl rfl)⟩
set_option maxRecDepth 100000 in
theorem fe_X11_230 : fLok RX11 230 (1, 19, 3, 1, 0) := ⟨(show fMok fd_X1_weighLean from fmo_X1_weighLean), (show fPar fd_X1_weighLean 3 by unfold fPar; decide +kernel), (fmj_7 19 rfl rfl), (fmj_7 20 rfl rfl), RX1, TX1, 11, rfl, (fmj_7 21 rfl rfl)⟩
set_option maxRecDepth 100000 in
theorem fe_X11_233 : fLok RX11 233 (1, 20, 1, 1, 0) := ⟨(show fMok fd_X1_worstBatch from fmo_X1_worstBatch), (show fPar fd_X1_worstBatch 1 by unfold fPar; decide +kernel), (fmj_5 93 rfl rfl), (fmj_5 94 rfl rfl), RX1, TX1, 11, rfl, (fmj_5 95 rfl rfl)⟩
set_option maxRecDepth 100000 in
theorem fe_X11_236 : fLok RX11 236 (1, 21, 2, 1, 0) := ⟨(show fMok fd_X1_isCracked from fmo_X1_isCracked), (show fPar fd_X1_isCracked 2 by unfold fPar; decide +kernel), (fmj_5 106 rfl rfl), (fmj_5 107 rfl rfl), RX1, TX1, 11, rfl, (fmj_5 108 rfl rfl)⟩
set_option maxRecDepth 100000 in
theorem fe_X11_239 : fLok RX11 239 (1, 87, 2, 7, 0) := ⟨(show fMok fd_X7_weightOf from fmo_X7_weightOf), (show fPar fd_X7_weightOf 2 by unfold fPar; decide +kernel), (fmj_5 122 rfl rfl), (fmj_5 123 rfl rfl), RX7, TX7, 19, rfl, (fmj_5 124 rfl rfl)⟩
set_option maxRecDepth 100000 in
theorem fe_X11_242 : fLok RX11 242 (0, 7, 3, 2, 0) := ⟨RX7, TX7, 19, fcl_7, by decide, (fmj_2 192 rfl rfl), rfl, tyX7 3, tyX7_ok 3 (by decide), Or.inr ⟨_, rfl⟩⟩
set_option maxRecDepth 100000 in
theorem fe_X11_245 : fLok RX11 245 (0, 2, 13, 0, 0) := ⟨RX2, TX2, 18, fcl_2, by decide, (fmj_1 188 rfl rfl), rfl, tyX2 13, tyX2_ok 13 (by decide), rfl⟩
set_option maxRecDepth 100000 in
theorem fe_X11_247 : fLok RX11 247 (1, 136, 2, 10, 0) := ⟨(show fMok fd_X10_movePianos from fmo_X10_movePianos), (show fPar fd_X10_movePianos 2 by unfold fPar; decide +kernel), (fmj_5 137 rfl rfl), (fmj_5 138 rfl rfl), RX10, TX10, 11, rfl, (fmj_5 139 rfl rfl)⟩
set_option maxRecDepth 100000 in
theorem fe_X11_251 : fLok RX11 251 (1, 96, 3, 7, 0) := ⟨(show fMok fd_X7_best from fmo_X7_best), (show fPar fd_X7_best 3 by unfold fPar; decide +kernel), (fmj_5 145 rfl rfl), (fmj_5 146 rfl rfl), RX7, TX7, 19, rfl, (fmj_5 147 rfl rfl)⟩
set_option maxRecDepth 100000 in
theorem fe_X11_254 : fLok RX11 254 (0, 7, 15, 0, 0) := ⟨RX7, TX7, 19, fcl_7, by decide, (fmj_2 206 rfl rfl), rfl, tyX7 15, tyX7_ok 15 (by decide), rfl⟩
set_option maxRecDepth 100000 in
theorem fe_X11_257 : fLok RX11 257 (0, 7, 14, 2, 0) := ⟨RX7, TX7, 19, fcl_7, by decide, (fmj_2 204 rfl rfl), rfl, tyX7 14, tyX7_ok 14 (by decide), Or.inr ⟨_, rfl⟩⟩
set_option maxRecDepth 100000 in
theorem fe_X11_260 : fLok RX11 260 (0, 7, 16, 0, 0) := ⟨RX7, TX7, 19, fcl_7, by decide, (fmj_2 208 rfl rfl), rfl, tyX7 16, tyX7_ok 16 (by decide), rfl⟩
set_option maxRecDepth 100000 in
theorem fe_X11_263 : fLok RX11 263 (1, 102, 3, 7, 0) := ⟨(show fMok fd_X7_walkAsTold from fmo_X7_walkAsTold), (show fPar fd_X7_walkAsTold 3 by unfold fPar; decide +kernel), (fmj_5 234 rfl rfl), (fmj_5 235 rfl rfl), RX7, TX7, 19, rfl, (fmj_5 236 rfl rfl)⟩
set_option maxRecDepth 100000 in
theorem fe_X11_266 : fLok RX11 266 (1, 103, 4, 7, 0) := ⟨(show fMok fd_X7_bestOfTwo from fmo_X7_bestOfTwo), (show fPar fd_X7_bestOfTwo 4 by unfold fPar; decide +kernel), (fmj_6 2 rfl rfl), (fmj_6 3 rfl rfl), RX7, TX7, 19, rfl, (fmj_6 4 rfl rfl)⟩
set_option maxRecDepth 100000 in
theorem fe_X11_270 : fLok RX11 270 (1, 105, 2, 7, 0) := ⟨(show fMok fd_X7_fewestTuners from fmo_X7_fewestTuners), (show fPar fd_X7_fewestTuners 2 by unfold fPar; decide +kernel), (fmj_6 14 rfl rfl), (fmj_6 15 rfl rfl), RX7, TX7, 19, rfl, (fmj_6 16 rfl rfl)⟩
set_option maxRecDepth 100000 in
theorem fe_X11_273 : fLok RX11 273 (1, 32, 1, 2, 0) := ⟨(show fMok fd_X2_isHall from fmo_X2_isHall), (show fPar fd_X2_isHall 1 by unfold fPar; decide +kernel), (fmj_6 36 rfl rfl), (fmj_4 135 rfl rfl), RX2, TX2, 18, rfl, (fmj_4 136 rfl rfl)⟩
set_option maxRecDepth 100000 in
theorem fe_X11_276 : fLok RX11 276 (1, 1, 2, 0, 0) := ⟨(show fMok fd_X0_unreadyConcerts from fmo_X0_unreadyConcerts), (show fPar fd_X0_unreadyConcerts 2 by unfold fPar; decide +kernel), (fmj_6 37 rfl rfl), (fmj_6 38 rfl rfl), RX0, TX0, 3, rfl, (fmj_6 39 rfl rfl)⟩
set_option maxRecDepth 100000 in
theorem fe_X11_279 : fLok RX11 279 (1, 3, 3, 0, 0) := ⟨(show fMok fd_X0_concertAt from fmo_X0_concertAt), (show fPar fd_X0_concertAt 3 by unfold fPar; decide +kernel), (fmj_6 57 rfl rfl), (fmj_6 58 rfl rfl), RX0, TX0, 3, rfl, (fmj_6 59 rfl rfl)⟩
set_option maxRecDepth 100000 in
theorem fe_X11_282 : fLok RX11 282 (1, 4, 2, 0, 0) := ⟨(show fMok fd_X0_blame from fmo_X0_blame), (show fPar fd_X0_blame 2 by unfold fPar; decide +kernel), (fmj_6 61 rfl rfl), (fmj_6 62 rfl rfl), RX0, TX0, 3, rfl, (fmj_6 63 rfl rfl)⟩
set_option maxRecDepth 100000 in
theorem fe_X11_285 : fLok RX11 285 (1, 42, 2, 2, 0) := ⟨(show fMok fd_X2_feeOf from fmo_X2_feeOf), (show fPar fd_X2_feeOf 2 by unfold fPar; decide +kernel), (fmj_6 79 rfl rfl), (fmj_6 80 rfl rfl), RX2, TX2, 18, rfl, (fmj_6 81 rfl rfl)⟩
set_option maxRecDepth 100000 in
theorem fe_X11_288 : fLok RX11 288 (1, 7, 3, 0, 0) := ⟨(show fMok fd_X0_debt from fmo_X0_debt), (show fPar fd_X0_debt 3 by unfold fPar; decide +kernel), (fmj_7 30 rfl rfl), (fmj_7 31 rfl rfl), RX0, TX0, 3, rfl, (fmj_7 32 rfl rfl)⟩
set_option maxRecDepth 100000 in
theorem fe_X11_291 : fLok RX11 291 (1, 6, 3, 0, 0) := ⟨(show fMok fd_X0_freeTunings from fmo_X0_freeTunings), (show fPar fd_X0_freeTunings 3 by unfold fPar; decide +kernel), (fmj_6 87 rfl rfl), (fmj_6 88 rfl rfl), RX0, TX0, 3, rfl, (fmj_6 89 rfl rfl)⟩
set_option maxRecDepth 100000 in
theorem fe_X11_294 : fLok RX11 294 (1, 123, 3, 8, 0) := ⟨(show fMok fd_X8_tuningsFrom from fmo_X8_tuningsFrom), (show fPar fd_X8_tuningsFrom 3 by unfold fPar; decide +kernel), (fmj_6 100 rfl rfl), (fmj_6 101 rfl rfl), RX8, TX8, 7, rfl, (fmj_6 102 rfl rfl)⟩
set_option maxRecDepth 100000 in
theorem fe_X11_297 : fLok RX11 297 (0, 9, 1, 2, 0) := ⟨RX9, TX9, 6, fcl_9, by decide, (fmj_3 18 rfl rfl), rfl, tyX9 1, tyX9_ok 1 (by decide), Or.inr ⟨_, rfl⟩⟩
set_option maxRecDepth 100000 in
theorem fe_X11_298 : fLok RX11 298 (1, 125, 2, 9, 0) := ⟨(show fMok fd_X9_pack from fmo_X9_pack), (show fPar fd_X9_pack 2 by unfold fPar; decide +kernel), (fmj_6 114 rfl rfl), (fmj_6 115 rfl rfl), RX9, TX9, 6, rfl, (fmj_6 116 rfl rfl)⟩
set_option maxRecDepth 100000 in
theorem fe_X11_301 : fLok RX11 301 (0, 9, 5, 1, 0) := ⟨RX9, TX9, 6, fcl_9, by decide, (fmj_3 23 rfl rfl), rfl, tyX9 5, tyX9_ok 5 (by decide), rfl⟩
set_option maxRecDepth 100000 in
theorem fe_X11_304 : fLok RX11 304 (0, 2, 15, 0, 0) := ⟨RX2, TX2, 18, fcl_2, by decide, (fmj_1 197 rfl rfl), rfl, tyX2 15, tyX2_ok 15 (by decide), rfl⟩
set_option maxRecDepth 100000 in
theorem fe_X11_307 : fLok RX11 307 (0, 2, 14, 0, 0) := ⟨RX2, TX2, 18, fcl_2, by decide, (fmj_1 193 rfl rfl), rfl, tyX2 14, tyX2_ok 14 (by decide), rfl⟩
set_option maxRecDepth 100000 in
theorem fe_X11_310 : fLok RX11 310 (1, 64, 0, 4, 0) := ⟨(show fMok fd_X4_share from fmo_X4_share), (show fPar fd_X4_share 0 by unfold fPar; decide +kernel), (fmj_6 146 rfl rfl), (fmj_6 147 rfl rfl), RX4, TX4, 4, rfl, (fmj_6 148 rfl rfl)⟩
set_option maxRecDepth 100000 in
theorem fe_X11_313 : fLok RX11 313 (0, 4, 3, 0, 0) := ⟨RX4, TX4, 4, fcl_4, by decide, (fmj_3 48 rfl rfl), rfl, tyX4 3, tyX4_ok 3 (by decide), rfl⟩
set_option maxRecDepth 100000 in
theorem fe_X11_316 : fLok RX11 316 (0, 4, 2, 2, 0) := ⟨RX4, TX4, 4, fcl_4, by decide, (fmj_3 46 rfl rfl), rfl, tyX4 2, tyX4_ok 2 (by decide), Or.inr ⟨_, rfl⟩⟩
set_option maxRecDepth 100000 in
theorem fe_X11_319 : fLok RX11 319 (1, 77, 1, 6, 0) := ⟨(show fMok fd_X6_copyFrom from fmo_X6_copyFrom), (show fPar fd_X6_copyFrom 1 by unfold fPar; decide +kernel), (fmj_6 176 rfl rfl), (fmj_6 177 rfl rfl), RX6, TX6, 9, rfl, (fmj_6 178 rfl rfl)⟩
set_option maxRecDepth 100000 in
theorem fe_X11_322 : fLok RX11 322 (1, 85, 0, 6, 0) := ⟨(show fMok fd_X6_concertsTold from fmo_X6_concertsTold), (show fPar fd_X6_concertsTold 0 by unfold fPar; decide +kernel), (fmj_6 189 rfl rfl), (fmj_6 190 rfl rfl), RX6, TX6, 9, rfl, (fmj_6 191 rfl rfl)⟩
set_option maxRecDepth 100000 in
theorem fe_X11_325 : fLok RX11 325 (0, 2, 16, 0, 0) := ⟨RX2, TX2, 18, fcl_2, by decide, (fmj_1 200 rfl rfl), rfl, tyX2 16, tyX2_ok 16 (by decide), rfl⟩
set_option maxRecDepth 100000 in
theorem fek_X11 : ∀ q ∈ fk_X11, fLok RX11 q.1 q.2 := List.forall_mem_cons.mpr ⟨fe_X11_1, List.forall_mem_cons.mpr ⟨fe_X11_7, List.forall_mem_cons.mpr ⟨fe_X11_9, List.forall_mem_cons.mpr ⟨fe_X11_10, List.forall_mem_cons.mpr ⟨fe_X11_16, List.forall_mem_cons.mpr ⟨fe_X11_18, List.forall_mem_cons.mpr ⟨fe_X11_19, List.forall_mem_cons.mpr ⟨fe_X11_23, List.forall_mem_cons.mpr ⟨fe_X11_25, List.forall_mem_cons.mpr ⟨fe_X11_26, List.forall_mem_cons.mpr ⟨fe_X11_30, List.forall_mem_cons.mpr ⟨fe_X11_32, List.forall_mem_cons.mpr ⟨fe_X11_35, List.forall_mem_cons.mpr ⟨fe_X11_39, List.forall_mem_cons.mpr ⟨fe_X11_41, List.forall_mem_cons.mpr ⟨fe_X11_44, List.forall_mem_cons.mpr ⟨fe_X11_48, List.forall_mem_cons.mpr ⟨fe_X11_50, List.forall_mem_cons.mpr ⟨fe_X11_53, List.forall_mem_cons.mpr ⟨fe_X11_57, List.forall_mem_cons.mpr ⟨fe_X11_59, List.forall_mem_cons.mpr ⟨fe_X11_60, List.forall_mem_cons.mpr ⟨fe_X11_64, List.forall_mem_cons.mpr ⟨fe_X11_66, List.forall_mem_cons.mpr ⟨fe_X11_69, List.forall_mem_cons.mpr ⟨fe_X11_73, List.forall_mem_cons.mpr ⟨fe_X11_75, List.forall_mem_cons.mpr ⟨fe_X11_76, List.forall_mem_cons.mpr ⟨fe_X11_80, List.forall_mem_cons.mpr ⟨fe_X11_82, List.forall_mem_cons.mpr ⟨fe_X11_85, List.forall_mem_cons.mpr ⟨fe_X11_89, List.forall_mem_cons.mpr ⟨fe_X11_91, List.forall_mem_cons.mpr ⟨fe_X11_92, List.forall_mem_cons.mpr ⟨fe_X11_96, List.forall_mem_cons.mpr ⟨fe_X11_100, List.forall_mem_cons.mpr ⟨fe_X11_104, List.forall_mem_cons.mpr ⟨fe_X11_108, List.forall_mem_cons.mpr ⟨fe_X11_112, List.forall_mem_cons.mpr ⟨fe_X11_116, List.forall_mem_cons.mpr ⟨fe_X11_120, List.forall_mem_cons.mpr ⟨fe_X11_123, List.forall_mem_cons.mpr ⟨fe_X11_126, List.forall_mem_cons.mpr ⟨fe_X11_129, List.forall_mem_cons.mpr ⟨fe_X11_132, List.forall_mem_cons.mpr ⟨fe_X11_135, List.forall_mem_cons.mpr ⟨fe_X11_140, List.forall_mem_cons.mpr ⟨fe_X11_143, List.forall_mem_cons.mpr ⟨fe_X11_144, List.forall_mem_cons.mpr ⟨fe_X11_147, List.forall_mem_cons.mpr ⟨fe_X11_150, List.forall_mem_cons.mpr ⟨fe_X11_153, List.forall_mem_cons.mpr ⟨fe_X11_156, List.forall_mem_cons.mpr ⟨fe_X11_160, List.forall_mem_cons.mpr ⟨fe_X11_163, List.forall_mem_cons.mpr ⟨fe_X11_167, List.forall_mem_cons.mpr ⟨fe_X11_170, List.forall_mem_cons.mpr ⟨fe_X11_173, List.forall_mem_cons.mpr ⟨fe_X11_177, List.forall_mem_cons.mpr ⟨fe_X11_180, List.forall_mem_cons.mpr ⟨fe_X11_184, List.forall_mem_cons.mpr ⟨fe_X11_188, List.forall_mem_cons.mpr ⟨fe_X11_192, List.forall_mem_cons.mpr ⟨fe_X11_195, List.forall_mem_cons.mpr ⟨fe_X11_199, List.forall_mem_cons.mpr ⟨fe_X11_202, List.forall_mem_cons.mpr ⟨fe_X11_205, List.forall_mem_cons.mpr ⟨fe_X11_208, List.forall_mem_cons.mpr ⟨fe_X11_211, List.forall_mem_cons.mpr ⟨fe_X11_214, List.forall_mem_cons.mpr ⟨fe_X11_217, List.forall_mem_cons.mpr ⟨fe_X11_220, List.forall_mem_cons.mpr ⟨fe_X11_224, List.forall_mem_cons.mpr ⟨fe_X11_227, List.forall_mem_cons.mpr ⟨fe_X11_230, List.forall_mem_cons.mpr ⟨fe_X11_233, List.forall_mem_cons.mpr ⟨fe_X11_236, List.forall_mem_cons.mpr ⟨fe_X11_239, List.forall_mem_cons.mpr ⟨fe_X11_242, List.forall_mem_cons.mpr ⟨fe_X11_245, List.forall_mem_cons.mpr ⟨fe_X11_247, List.forall_mem_cons.mpr ⟨fe_X11_251, List.forall_mem_cons.mpr ⟨fe_X11_254, List.forall_mem_cons.mpr ⟨fe_X11_257, List.forall_mem_cons.mpr ⟨fe_X11_260, List.forall_mem_cons.mpr ⟨fe_X11_263, List.forall_mem_cons.mpr ⟨fe_X11_266, List.forall_mem_cons.mpr ⟨fe_X11_270, List.forall_mem_cons.mpr ⟨fe_X11_273, List.forall_mem_cons.mpr ⟨fe_X11_276, List.forall_mem_cons.mpr ⟨fe_X11_279, List.forall_mem_cons.mpr ⟨fe_X11_282, List.forall_mem_cons.mpr ⟨fe_X11_285, List.forall_mem_cons.mpr ⟨fe_X11_288, List.forall_mem_cons.mpr ⟨fe_X11_291, List.forall_mem_cons.mpr ⟨fe_X11_294, List.forall_mem_cons.mpr ⟨fe_X11_297, List.forall_mem_cons.mpr ⟨fe_X11_298, List.forall_mem_cons.mpr ⟨fe_X11_301, List.forall_mem_cons.mpr ⟨fe_X11_304, List.forall_mem_cons.mpr ⟨fe_X11_307, List.forall_mem_cons.mpr ⟨fe_X11_310, List.forall_mem_cons.mpr ⟨fe_X11_313, List.forall_mem_cons.mpr ⟨fe_X11_316, List.forall_mem_cons.mpr ⟨fe_X11_319, List.forall_mem_cons.mpr ⟨fe_X11_322, List.forall_mem_cons.mpr ⟨fe_X11_325, fun _ h => absurd h List.not_mem_nil⟩⟩⟩⟩⟩⟩⟩⟩⟩⟩⟩⟩⟩⟩⟩⟩⟩⟩⟩⟩⟩⟩⟩⟩⟩⟩⟩⟩⟩⟩⟩⟩⟩⟩⟩⟩⟩⟩⟩⟩⟩⟩⟩⟩⟩⟩⟩⟩⟩⟩⟩⟩⟩⟩⟩⟩⟩⟩⟩⟩⟩⟩⟩⟩⟩⟩⟩⟩⟩⟩⟩⟩⟩⟩⟩⟩⟩⟩⟩⟩⟩⟩⟩⟩⟩⟩⟩⟩⟩⟩⟩⟩⟩⟩⟩⟩⟩⟩⟩⟩⟩⟩⟩⟩⟩⟩⟩
set_option maxRecDepth 100000 in
theorem fe_X12_1 : fLok RX12 1 (0, 12, 0, 0, 0) := ⟨RX12, TX12, 66, fcl_12, by decide, (fmj_7 97 rfl rfl), rfl, tyX12 0, tyX12_ok 0 (by decide), rfl⟩
set_option maxRecDepth 100000 in
theorem fe_X12_7 : fLok RX12 7 (0, 12, 2, 0, 0) := ⟨RX12, TX12, 66, fcl_12, by decide, (fmj_7 99 rfl rfl), rfl, tyX12 2, tyX12_ok 2 (by decide), rfl⟩
set_option maxRecDepth 100000 in
theorem fe_X12_10 : fLok RX12 10 (1, 197, 1, 12, 0) := ⟨(show fMok fd_X12_four from fmo_X12_four), (show fPar fd_X12_four 1 by unfold fPar; decide +kernel), (fmj_7 48 rfl rfl), (fmj_7 50 rfl rfl), RX12, TX12, 66, rfl, (fmj_0 62 rfl rfl)⟩
set_option maxRecDepth 100000 in
theorem fe_X12_14 : fLok RX12 14 (0, 12, 1, 2, 0) := ⟨RX12, TX12, 66, fcl_12, by decide, (fmj_7 98 rfl rfl), rfl, tyX12 1, tyX12_ok 1 (by decide), Or.inr ⟨_, rfl⟩⟩
set_option maxRecDepth 100000 in
theorem fe_X12_18 : fLok RX12 18 (0, 12, 3, 0, 0) := ⟨RX12, TX12, 66, fcl_12, by decide, (fmj_7 100 rfl rfl), rfl, tyX12 3, tyX12_ok 3 (by decide), rfl⟩
set_option maxRecDepth 100000 in
theorem fe_X12_21 : fLok RX12 21 (0, 12, 4, 0, 0) := ⟨RX12, TX12, 66, fcl_12, by decide, (fmj_7 101 rfl rfl), rfl, tyX12 4, tyX12_ok 4 (by decide), rfl⟩
set_option maxRecDepth 100000 in
theorem fe_X12_24 : fLok RX12 24 (0, 12, 5, 0, 0) := ⟨RX12, TX12, 66, fcl_12, by decide, (fmj_7 102 rfl rfl), rfl, tyX12 5, tyX12_ok 5 (by decide), rfl⟩
set_option maxRecDepth 100000 in
theorem fe_X12_27 : fLok RX12 27 (4, 0, 0, 0, 0) := ⟨(fmj_7 61 rfl rfl), (fmj_1 33 rfl rfl), (fmj_1 34 rfl rfl)⟩
set_option maxRecDepth 100000 in
theorem fe_X12_33 : fLok RX12 33 (0, 12, 6, 2, 0) := ⟨RX12, TX12, 66, fcl_12, by decide, (fmj_7 103 rfl rfl), rfl, tyX12 6, tyX12_ok 6 (by decide), Or.inr ⟨_, rfl⟩⟩
set_option maxRecDepth 100000 in
theorem fe_X12_37 : fLok RX12 37 (0, 12, 7, 2, 0) := ⟨RX12, TX12, 66, fcl_12, by decide, (fmj_7 104 rfl rfl), rfl, tyX12 7, tyX12_ok 7 (by decide), Or.inr ⟨_, rfl⟩⟩
set_option maxRecDepth 100000 in
theorem fe_X12_40 : fLok RX12 40 (0, 12, 8, 2, 0) := ⟨RX12, TX12, 66, fcl_12, by decide, (fmj_7 105 rfl rfl), rfl, tyX12 8, tyX12_ok 8 (by decide), Or.inr ⟨_, rfl⟩⟩
set_option maxRecDepth 100000 in
theorem fe_X12_44 : fLok RX12 44 (0, 12, 9, 2, 0) := ⟨RX12, TX12, 66, fcl_12, by decide, (fmj_7 106 rfl rfl), rfl, tyX12 9, tyX12_ok 9 (by decide), Or.inr ⟨_, rfl⟩⟩
set_option maxRecDepth 100000 in
theorem fe_X12_47 : fLok RX12 47 (0, 12, 22, 2, 0) := ⟨RX12, TX12, 66, fcl_12, by decide, (fmj_7 119 rfl rfl), rfl, tyX12 22, tyX12_ok 22 (by decide), Or.inr ⟨_, rfl⟩⟩
set_option maxRecDepth 100000 in
theorem fe_X12_51 : fLok RX12 51 (0, 12, 23, 2, 0) := ⟨RX12, TX12, 66, fcl_12, by decide, (fmj_7 120 rfl rfl), rfl, tyX12 23, tyX12_ok 23 (by decide), Or.inr ⟨_, rfl⟩⟩
set_option maxRecDepth 100000 in
theorem fe_X12_54 : fLok RX12 54 (0, 12, 29, 2, 0) := ⟨RX12, TX12, 66, fcl_12, by decide, (fmj_7 126 rfl rfl), rfl, tyX12 29, tyX12_ok 29 (by decide), Or.inr ⟨_, rfl⟩⟩
set_option maxRecDepth 100000 in
theorem fe_X12_57 : fLok RX12 57 (0, 12, 30, 2, 0) := ⟨RX12, TX12, 66, fcl_12, by decide, (fmj_7 127 rfl rfl), rfl, tyX12 30, tyX12_ok 30 (by decide), Or.inr ⟨_, rfl⟩⟩
set_option maxRecDepth 100000 in
theorem fe_X12_60 : fLok RX12 60 (0, 12, 33, 2, 0) := ⟨RX12, TX12, 66, fcl_12, by decide, (fmj_7 130 rfl rfl), rfl, tyX12 33, tyX12_ok 33 (by decide), Or.inr ⟨_, rfl⟩⟩
set_option maxRecDepth 100000 in
theorem fe_X12_63 : fLok RX12 63 (0, 12, 34, 2, 0) := ⟨RX12, TX12, 66, fcl_12, by decide, (fmj_7 131 rfl rfl), rfl, tyX12 34, tyX12_ok 34 (by decide), Or.inr ⟨_, rfl⟩⟩
set_option maxRecDepth 100000 in
theorem fe_X12_66 : fLok RX12 66 (0, 12, 35, 2, 0) := ⟨RX12, TX12, 66, fcl_12, by decide, (fmj_7 132 rfl rfl), rfl, tyX12 35, tyX12_ok 35 (by decide), Or.inr ⟨_, rfl⟩⟩
set_option maxRecDepth 100000 in
theorem fe_X12_69 : fLok RX12 69 (0, 12, 36, 2, 0) := ⟨RX12, TX12, 66, fcl_12, by decide, (fmj_7 133 rfl rfl), rfl, tyX12 36, tyX12_ok 36 (by decide), Or.inr ⟨_, rfl⟩⟩
set_option maxRecDepth 100000 in
theorem fe_X12_72 : fLok RX12 72 (0, 12, 37, 2, 0) := ⟨RX12, TX12, 66, fcl_12, by decide, (fmj_7 134 rfl rfl), rfl, tyX12 37, tyX12_ok 37 (by decide), Or.inr ⟨_, rfl⟩⟩
set_option maxRecDepth 100000 in
theorem fe_X12_75 : fLok RX12 75 (0, 12, 38, 2, 0) := ⟨RX12, TX12, 66, fcl_12, by decide, (fmj_7 135 rfl rfl), rfl, tyX12 38, tyX12_ok 38 (by decide), Or.inr ⟨_, rfl⟩⟩
set_option maxRecDepth 100000 in
theorem fe_X12_78 : fLok RX12 78 (0, 12, 42, 2, 0) := ⟨RX12, TX12, 66, fcl_12, by decide, (fmj_7 139 rfl rfl), rfl, tyX12 42, tyX12_ok 42 (by decide), Or.inr ⟨_, rfl⟩⟩
set_option maxRecDepth 100000 in
theorem fe_X12_81 : fLok RX12 81 (0, 12, 43, 2, 0) := ⟨RX12, TX12, 66, fcl_12, by decide, (fmj_7 140 rfl rfl), rfl, tyX12 43, tyX12_ok 43 (by decide), Or.inr ⟨_, rfl⟩⟩
set_option maxRecDepth 100000 in
theorem fe_X12_84 : fLok RX12 84 (0, 12, 44, 2, 0) := ⟨RX12, TX12, 66, fcl_12, by decide, (fmj_7 141 rfl rfl), rfl, tyX12 44, tyX12_ok 44 (by decide), Or.inr ⟨_, rfl⟩⟩
set_option maxRecDepth 100000 in
theorem fe_X12_87 : fLok RX12 87 (0, 12, 45, 2, 0) := ⟨RX12, TX12, 66, fcl_12, by decide, (fmj_7 142 rfl rfl), rfl, tyX12 45, tyX12_ok 45 (by decide), Or.inr ⟨_, rfl⟩⟩
set_option maxRecDepth 100000 in
theorem fe_X12_90 : fLok RX12 90 (0, 12, 49, 0, 0) := ⟨RX12, TX12, 66, fcl_12, by decide, (fmj_7 146 rfl rfl), rfl, tyX12 49, tyX12_ok 49 (by decide), rfl⟩
set_option maxRecDepth 100000 in
theorem fe_X12_93 : fLok RX12 93 (0, 12, 50, 2, 0) := ⟨RX12, TX12, 66, fcl_12, by decide, (fmj_7 147 rfl rfl), rfl, tyX12 50, tyX12_ok 50 (by decide), Or.inr ⟨_, rfl⟩⟩
set_option maxRecDepth 100000 in
theorem fe_X12_96 : fLok RX12 96 (0, 12, 52, 2, 0) := ⟨RX12, TX12, 66, fcl_12, by decide, (fmj_7 149 rfl rfl), rfl, tyX12 52, tyX12_ok 52 (by decide), Or.inr ⟨_, rfl⟩⟩
set_option maxRecDepth 100000 in
theorem fe_X12_99 : fLok RX12 99 (0, 12, 53, 2, 0) := ⟨RX12, TX12, 66, fcl_12, by decide, (fmj_7 150 rfl rfl), rfl, tyX12 53, tyX12_ok 53 (by decide), Or.inr ⟨_, rfl⟩⟩
set_option maxRecDepth 100000 in
theorem fe_X12_102 : fLok RX12 102 (7, 0, 0, 0, 32768) := ⟨32768, by decide +kernel, (fmj_7 62 rfl rfl)⟩
set_option maxRecDepth 100000 in
theorem fe_X12_103 : fLok RX12 103 (0, 12, 54, 2, 0) := ⟨RX12, TX12, 66, fcl_12, by decide, (fmj_7 151 rfl rfl), rfl, tyX12 54, tyX12_ok 54 (by decide), Or.inr ⟨_, rfl⟩⟩
set_option maxRecDepth 100000 in
theorem fe_X12_106 : fLok RX12 106 (0, 12, 55, 2, 0) := ⟨RX12, TX12, 66, fcl_12, by decide, (fmj_7 152 rfl rfl), rfl, tyX12 55, tyX12_ok 55 (by decide), Or.inr ⟨_, rfl⟩⟩
set_option maxRecDepth 100000 in
theorem fe_X12_109 : fLok RX12 109 (0, 12, 56, 2, 0) := ⟨RX12, TX12, 66, fcl_12, by decide, (fmj_7 153 rfl rfl), rfl, tyX12 56, tyX12_ok 56 (by decide), Or.inr ⟨_, rfl⟩⟩
set_option maxRecDepth 100000 in
theorem fe_X12_112 : fLok RX12 112 (0, 12, 58, 2, 0) := ⟨RX12, TX12, 66, fcl_12, by decide, (fmj_7 155 rfl rfl), rfl, tyX12 58, tyX12_ok 58 (by decide), Or.inr ⟨_, rfl⟩⟩
set_option maxRecDepth 100000 in
theorem fe_X12_115 : fLok RX12 115 (0, 12, 59, 2, 0) := ⟨RX12, TX12, 66, fcl_12, by decide, (fmj_7 156 rfl rfl), rfl, tyX12 59, tyX12_ok 59 (by decide), Or.inr ⟨_, rfl⟩⟩
set_option maxRecDepth 100000 in
theorem fe_X12_118 : fLok RX12 118 (0, 12, 61, 2, 0) := ⟨RX12, TX12, 66, fcl_12, by decide, (fmj_7 158 rfl rfl), rfl, tyX12 61, tyX12_ok 61 (by decide), Or.inr ⟨_, rfl⟩⟩
set_option maxRecDepth 100000 in
theorem fe_X12_121 : fLok RX12 121 (0, 12, 62, 2, 0) := ⟨RX12, TX12, 66, fcl_12, by decide, (fmj_7 159 rfl rfl), rfl, tyX12 62, tyX12_ok 62 (by decide), Or.inr ⟨_, rfl⟩⟩
set_option maxRecDepth 100000 in
theorem fe_X12_124 : fLok RX12 124 (0, 12, 63, 2, 0) := ⟨RX12, TX12, 66, fcl_12, by decide, (fmj_7 160 rfl rfl), rfl, tyX12 63, tyX12_ok 63 (by decide), Or.inr ⟨_, rfl⟩⟩
set_option maxRecDepth 100000 in
theorem fe_X12_127 : fLok RX12 127 (0, 12, 64, 2, 0) := ⟨RX12, TX12, 66, fcl_12, by decide, (fmj_7 161 rfl rfl), rfl, tyX12 64, tyX12_ok 64 (by decide), Or.inr ⟨_, rfl⟩⟩
set_option maxRecDepth 100000 in
theorem fe_X12_130 : fLok RX12 130 (0, 12, 65, 2, 0) := ⟨RX12, TX12, 66, fcl_12, by decide, (fmj_7 162 rfl rfl), rfl, tyX12 65, tyX12_ok 65 (by decide), Or.inr ⟨_, rfl⟩⟩
set_option maxRecDepth 100000 in
theorem fe_X12_133 : fLok RX12 133 (8, 0, 0, 0, 499850046565) := ⟨499850046565, by decide +kernel, (fmj_7 63 rfl rfl)⟩
set_option maxRecDepth 100000 in
theorem fe_X12_135 : fLok RX12 135 (8, 0, 0, 0, 1684106608) := ⟨1684106608, by decide +kernel, (fmj_7 64 rfl rfl)⟩
set_option maxRecDepth 100000 in
theorem fe_X12_137 : fLok RX12 137 (8, 0, 0, 0, 1952805485) := ⟨1952805485, by decide +kernel, (fmj_7 65 rfl rfl)⟩
set_option maxRecDepth 100000 in
theorem fe_X12_139 : fLok RX12 139 (8, 0, 0, 0, 6710629) := ⟨6710629, by decide +kernel, (fmj_7 66 rfl rfl)⟩
set_option maxRecDepth 100000 in
theorem fe_X12_141 : fLok RX12 141 (8, 0, 0, 0, 1937076837) := ⟨1937076837, by decide +kernel, (fmj_7 67 rfl rfl)⟩
set_option maxRecDepth 100000 in
theorem fe_X12_143 : fLok RX12 143 (8, 0, 0, 0, 1667328869) := ⟨1667328869, by decide +kernel, (fmj_7 68 rfl rfl)⟩
set_option maxRecDepth 100000 in
theorem fe_X12_145 : fLok RX12 145 (8, 0, 0, 0, 2002873451) := ⟨2002873451, by decide +kernel, (fmj_7 69 rfl rfl)⟩
set_option maxRecDepth 100000 in
theorem fe_X12_147 : fLok RX12 147 (8, 0, 0, 0, 2003792491) := ⟨2003792491, by decide +kernel, (fmj_7 70 rfl rfl)⟩
set_option maxRecDepth 100000 in
theorem fe_X12_149 : fLok RX12 149 (8, 0, 0, 0, 6578553) := ⟨6578553, by decide +kernel, (fmj_7 71 rfl rfl)⟩
set_option maxRecDepth 100000 in
theorem fe_X12_151 : fLok RX12 151 (8, 0, 0, 0, 482804330095) := ⟨482804330095, by decide +kernel, (fmj_7 72 rfl rfl)⟩
set_option maxRecDepth 100000 in
theorem fe_X12_153 : fLok RX12 153 (8, 0, 0, 0, 500186375538) := ⟨500186375538, by decide +kernel, (fmj_7 73 rfl rfl)⟩
set_option maxRecDepth 100000 in
theorem fe_X12_155 : fLok RX12 155 (8, 0, 0, 0, 1718579819) := ⟨1718579819, by decide +kernel, (fmj_7 74 rfl rfl)⟩
set_option maxRecDepth 100000 in
theorem fe_X12_157 : fLok RX12 157 (8, 0, 0, 0, 483006638444) := ⟨483006638444, by decide +kernel, (fmj_7 75 rfl rfl)⟩
set_option maxRecDepth 100000 in
theorem fe_X12_159 : fLok RX12 159 (8, 0, 0, 0, 499917087592) := ⟨499917087592, by decide +kernel, (fmj_7 76 rfl rfl)⟩
set_option maxRecDepth 100000 in
theorem fe_X12_161 : fLok RX12 161 (8, 0, 0, 0, 1752132965) := ⟨1752132965, by decide +kernel, (fmj_7 77 rfl rfl)⟩
set_option maxRecDepth 100000 in
theorem fe_X12_163 : fLok RX12 163 (8, 0, 0, 0, 126870791090028) := ⟨126870791090028, by decide +kernel, (fmj_7 78 rfl rfl)⟩
set_option maxRecDepth 100000 in
theorem fe_X12_165 : fLok RX12 165 (8, 0, 0, 0, 1751215212) := ⟨1751215212, by decide +kernel, (fmj_7 79 rfl rfl)⟩
set_option maxRecDepth 100000 in
theorem fe_X12_167 : fLok RX12 167 (8, 0, 0, 0, 495874700901) := ⟨495874700901, by decide +kernel, (fmj_7 80 rfl rfl)⟩
set_option maxRecDepth 100000 in
theorem fe_X12_169 : fLok RX12 169 (8, 0, 0, 0, 1936484720) := ⟨1936484720, by decide +kernel, (fmj_7 81 rfl rfl)⟩
set_option maxRecDepth 100000 in
theorem fe_X12_171 : fLok RX12 171 (8, 0, 0, 0, 440005650796) := ⟨440005650796, by decide +kernel, (fmj_7 82 rfl rfl)⟩
set_option maxRecDepth 100000 in
theorem fe_X12_173 : fLok RX12 173 (8, 0, 0, 0, 1869636974) := ⟨1869636974, by decide +kernel, (fmj_7 83 rfl rfl)⟩
set_option maxRecDepth 100000 in
theorem fe_X12_175 : fLok RX12 175 (8, 0, 0, 0, 500186375524) := ⟨500186375524, by decide +kernel, (fmj_7 84 rfl rfl)⟩
set_option maxRecDepth 100000 in
theorem fe_X12_177 : fLok RX12 177 (8, 0, 0, 0, 439956631140) := ⟨439956631140, by decide +kernel, (fmj_7 85 rfl rfl)⟩
set_option maxRecDepth 100000 in
theorem fe_X12_179 : fLok RX12 179 (8, 0, 0, 0, 422826699621) := ⟨422826699621, by decide +kernel, (fmj_7 86 rfl rfl)⟩
set_option maxRecDepth 100000 in
theorem fe_X12_181 : fLok RX12 181 (8, 0, 0, 0, 1885432164) := ⟨1885432164, by decide +kernel, (fmj_7 87 rfl rfl)⟩
set_option maxRecDepth 100000 in
theorem fe_X12_183 : fLok RX12 183 (8, 0, 0, 0, 6386789) := ⟨6386789, by decide +kernel, (fmj_7 88 rfl rfl)⟩
set_option maxRecDepth 100000 in
theorem fe_X12_185 : fLok RX12 185 (8, 0, 0, 0, 27988542599033460) := ⟨27988542599033460, by decide +kernel, (fmj_7 89 rfl rfl)⟩
set_option maxRecDepth 100000 in
theorem fe_X12_187 : fLok RX12 187 (8, 0, 0, 0, 470021465444) := ⟨470021465444, by decide +kernel, (fmj_7 90 rfl rfl)⟩
set_option maxRecDepth 100000 in
theorem fe_X12_189 : fLok RX12 189 (8, 0, 0, 0, 28526) := ⟨28526, by decide +kernel, (fmj_7 91 rfl rfl)⟩
set_option maxRecDepth 100000 in
theorem fe_X12_191 : fLok RX12 191 (8, 0, 0, 0, 461414299502) := ⟨461414299502, by decide +kernel, (fmj_7 92 rfl rfl)⟩
set_option maxRecDepth 100000 in
theorem fe_X12_193 : fLok RX12 193 (1, 204, 1, 12, 0) := ⟨(show fMok fd_X12_begin from fmo_X12_begin), (show fPar fd_X12_begin 1 by unfold fPar; decide +kernel), (fmj_7 93 rfl rfl), (fmj_7 95 rfl rfl), RX12, TX12, 66, rfl, (fmj_0 63 rfl rfl)⟩
set_option maxRecDepth 100000 in
theorem fe_X12_196 : fLok RX12 196 (1, 205, 0, 12, 0) := ⟨(show fMok fd_X12_peek from fmo_X12_peek), (show fPar fd_X12_peek 0 by unfold fPar; decide +kernel), (fmj_8 69 rfl rfl), (fmj_8 71 rfl rfl), RX12, TX12, 66, rfl, (fmj_0 66 rfl rfl)⟩
set_option maxRecDepth 100000 in
theorem fe_X12_200 : fLok RX12 200 (0, 12, 12, 0, 0) := ⟨RX12, TX12, 66, fcl_12, by decide, (fmj_7 109 rfl rfl), rfl, tyX12 12, tyX12_ok 12 (by decide), rfl⟩
set_option maxRecDepth 100000 in
theorem fe_X12_203 : fLok RX12 203 (0, 12, 13, 0, 0) := ⟨RX12, TX12, 66, fcl_12, by decide, (fmj_7 110 rfl rfl), rfl, tyX12 13, tyX12_ok 13 (by decide), rfl⟩
set_option maxRecDepth 100000 in
theorem fe_X12_206 : fLok RX12 206 (0, 12, 11, 0, 0) := ⟨RX12, TX12, 66, fcl_12, by decide, (fmj_7 108 rfl rfl), rfl, tyX12 11, tyX12_ok 11 (by decide), rfl⟩
set_option maxRecDepth 100000 in
theorem fe_X12_209 : fLok RX12 209 (2, 206, 1, 12, 0) := ⟨(show fMok fd_X12_isSmall from fmo_X12_isSmall), (show fPar fd_X12_isSmall 1 by unfold fPar; decide +kernel), (fmj_8 73 rfl rfl), (fmj_8 74 rfl rfl)⟩
set_option maxRecDepth 100000 in
theorem fe_X12_213 : fLok RX12 213 (2, 207, 1, 12, 0) := ⟨(show fMok fd_X12_isDigit from fmo_X12_isDigit), (show fPar fd_X12_isDigit 1 by unfold fPar; decide +kernel), (fmj_8 76 rfl rfl), (fmj_8 77 rfl rfl)⟩
set_option maxRecDepth 100000 in
theorem fe_X12_216 : fLok RX12 216 (0, 12, 14, 0, 0) := ⟨RX12, TX12, 66, fcl_12, by decide, (fmj_7 111 rfl rfl), rfl, tyX12 14, tyX12_ok 14 (by decide), rfl⟩
set_option maxRecDepth 100000 in
theorem fe_X12_219 : fLok RX12 219 (0, 12, 17, 1, 0) := ⟨RX12, TX12, 66, fcl_12, by decide, (fmj_7 114 rfl rfl), rfl, tyX12 17, tyX12_ok 17 (by decide), rfl⟩
set_option maxRecDepth 100000 in
theorem fe_X12_223 : fLok RX12 223 (0, 12, 15, 0, 0) := ⟨RX12, TX12, 66, fcl_12, by decide, (fmj_7 112 rfl rfl), rfl, tyX12 15, tyX12_ok 15 (by decide), rfl⟩
set_option maxRecDepth 100000 in
theorem fe_X12_226 : fLok RX12 226 (0, 12, 16, 0, 0) := ⟨RX12, TX12, 66, fcl_12, by decide, (fmj_7 113 rfl rfl), rfl, tyX12 16, tyX12_ok 16 (by decide), rfl⟩
set_option maxRecDepth 100000 in
theorem fe_X12_229 : fLok RX12 229 (1, 211, 1, 12, 0) := ⟨(show fMok fd_X12_isSign from fmo_X12_isSign), (show fPar fd_X12_isSign 1 by unfold fPar; decide +kernel), (fmj_8 159 rfl rfl), (fmj_8 161 rfl rfl), RX12, TX12, 66, rfl, (fmj_0 86 rfl rfl)⟩
set_option maxRecDepth 100000 in
theorem fe_X12_232 : fLok RX12 232 (1, 209, 1, 12, 0) := ⟨(show fMok fd_X12_bad from fmo_X12_bad), (show fPar fd_X12_bad 1 by unfold fPar; decide +kernel), (fmj_8 99 rfl rfl), (fmj_8 101 rfl rfl), RX12, TX12, 66, rfl, (fmj_0 72 rfl rfl)⟩
set_option maxRecDepth 100000 in
theorem fe_X12_235 : fLok RX12 235 (1, 208, 0, 12, 0) := ⟨(show fMok fd_X12_next from fmo_X12_next), (show fPar fd_X12_next 0 by unfold fPar; decide +kernel), (fmj_8 65 rfl rfl), (fmj_8 67 rfl rfl), RX12, TX12, 66, rfl, (fmj_0 65 rfl rfl)⟩
set_option maxRecDepth 100000 in
theorem fe_X12_238 : fLok RX12 238 (2, 200, 3, 12, 0) := ⟨(show fMok fd_X12_isIn from fmo_X12_isIn), (show fPar fd_X12_isIn 3 by unfold fPar; decide +kernel), (fmj_8 104 rfl rfl), (fmj_8 105 rfl rfl)⟩
set_option maxRecDepth 100000 in
theorem fe_X12_242 : fLok RX12 242 (0, 12, 18, 0, 0) := ⟨RX12, TX12, 66, fcl_12, by decide, (fmj_7 115 rfl rfl), rfl, tyX12 18, tyX12_ok 18 (by decide), rfl⟩
set_option maxRecDepth 100000 in
theorem fe_X12_245 : fLok RX12 245 (1, 215, 2, 12, 0) := ⟨(show fMok fd_X12_takes from fmo_X12_takes), (show fPar fd_X12_takes 2 by unfold fPar; decide +kernel), (fmj_8 111 rfl rfl), (fmj_8 113 rfl rfl), RX12, TX12, 66, rfl, (fmj_0 74 rfl rfl)⟩
set_option maxRecDepth 100000 in
theorem fe_X12_249 : fLok RX12 249 (1, 213, 0, 12, 0) := ⟨(show fMok fd_X12_isName from fmo_X12_isName), (show fPar fd_X12_isName 0 by unfold fPar; decide +kernel), (fmj_8 139 rfl rfl), (fmj_8 141 rfl rfl), RX12, TX12, 66, rfl, (fmj_0 81 rfl rfl)⟩
set_option maxRecDepth 100000 in
theorem fe_X12_253 : fLok RX12 253 (1, 214, 2, 12, 0) := ⟨(show fMok fd_X12_find from fmo_X12_find), (show fPar fd_X12_find 2 by unfold fPar; decide +kernel), (fmj_8 143 rfl rfl), (fmj_8 145 rfl rfl), RX12, TX12, 66, rfl, (fmj_0 82 rfl rfl)⟩
set_option maxRecDepth 100000 in
theorem fe_X12_257 : fLok RX12 257 (1, 210, 1, 12, 0) := ⟨(show fMok fd_X12_isWord from fmo_X12_isWord), (show fPar fd_X12_isWord 1 by unfold fPar; decide +kernel), (fmj_8 87 rfl rfl), (fmj_8 89 rfl rfl), RX12, TX12, 66, rfl, (fmj_0 69 rfl rfl)⟩
set_option maxRecDepth 100000 in
theorem fe_X12_261 : fLok RX12 261 (0, 12, 19, 0, 0) := ⟨RX12, TX12, 66, fcl_12, by decide, (fmj_7 116 rfl rfl), rfl, tyX12 19, tyX12_ok 19 (by decide), rfl⟩
set_option maxRecDepth 100000 in
theorem fe_X12_264 : fLok RX12 264 (1, 219, 1, 12, 0) := ⟨(show fMok fd_X12_once from fmo_X12_once), (show fPar fd_X12_once 1 by unfold fPar; decide +kernel), (fmj_8 95 rfl rfl), (fmj_8 97 rfl rfl), RX12, TX12, 66, rfl, (fmj_0 71 rfl rfl)⟩
set_option maxRecDepth 100000 in
theorem fe_X12_267 : fLok RX12 267 (1, 223, 0, 12, 0) := ⟨(show fMok fd_X12_line from fmo_X12_line), (show fPar fd_X12_line 0 by unfold fPar; decide +kernel), (fmj_8 83 rfl rfl), (fmj_8 85 rfl rfl), RX12, TX12, 66, rfl, (fmj_0 68 rfl rfl)⟩
set_option maxRecDepth 100000 in
theorem fe_X12_270 : fLok RX12 270 (1, 212, 1, 12, 0) := ⟨(show fMok fd_X12_sign from fmo_X12_sign), (show fPar fd_X12_sign 1 by unfold fPar; decide +kernel), (fmj_8 175 rfl rfl), (fmj_8 177 rfl rfl), RX12, TX12, 66, rfl, (fmj_0 90 rfl rfl)⟩
set_option maxRecDepth 100000 in
theorem fe_X12_273 : fLok RX12 273 (0, 12, 20, 0, 0) := ⟨RX12, TX12, 66, fcl_12, by decide, (fmj_7 117 rfl rfl), rfl, tyX12 20, tyX12_ok 20 (by decide), rfl⟩
set_option maxRecDepth 100000 in
theorem fe_X12_276 : fLok RX12 276 (1, 224, 0, 12, 0) := ⟨(show fMok fd_X12_table from fmo_X12_table), (show fPar fd_X12_table 0 by unfold fPar; decide +kernel), (fmj_8 91 rfl rfl), (fmj_8 93 rfl rfl), RX12, TX12, 66, rfl, (fmj_0 70 rfl rfl)⟩
set_option maxRecDepth 100000 in
theorem fe_X12_279 : fLok RX12 279 (1, 225, 1, 12, 0) := ⟨(show fMok fd_X12_weeks from fmo_X12_weeks), (show fPar fd_X12_weeks 1 by unfold fPar; decide +kernel), (fmj_8 107 rfl rfl), (fmj_8 109 rfl rfl), RX12, TX12, 66, rfl, (fmj_0 73 rfl rfl)⟩
set_option maxRecDepth 100000 in
theorem fe_X12_283 : fLok RX12 283 (1, 226, 0, 12, 0) := ⟨(show fMok fd_X12_readFee from fmo_X12_readFee), (show fPar fd_X12_readFee 0 by unfold fPar; decide +kernel), (fmj_8 115 rfl rfl), (fmj_8 117 rfl rfl), RX12, TX12, 66, rfl, (fmj_0 75 rfl rfl)⟩
set_option maxRecDepth 100000 in
theorem fe_X12_286 : fLok RX12 286 (1, 220, 4, 12, 0) := ⟨(show fMok fd_X12_oneNumber from fmo_X12_oneNumber), (show fPar fd_X12_oneNumber 4 by unfold fPar; decide +kernel), (fmj_8 123 rfl rfl), (fmj_8 125 rfl rfl), RX12, TX12, 66, rfl, (fmj_0 77 rfl rfl)⟩
set_option maxRecDepth 100000 in
theorem fe_X12_290 : fLok RX12 290 (1, 221, 1, 12, 0) := ⟨(show fMok fd_X12_span from fmo_X12_span), (show fPar fd_X12_span 1 by unfold fPar; decide +kernel), (fmj_8 127 rfl rfl), (fmj_8 129 rfl rfl), RX12, TX12, 66, rfl, (fmj_0 78 rfl rfl)⟩
set_option maxRecDepth 100000 in
theorem fe_X12_292 : fLok RX12 292 (1, 228, 0, 12, 0) := ⟨(show fMok fd_X12_readPiano from fmo_X12_readPiano), (show fPar fd_X12_readPiano 0 by unfold fPar; decide +kernel), (fmj_8 131 rfl rfl), (fmj_8 133 rfl rfl), RX12, TX12, 66, rfl, (fmj_0 79 rfl rfl)⟩
set_option maxRecDepth 100000 in
theorem fe_X12_295 : fLok RX12 295 (1, 230, 0, 12, 0) := ⟨(show fMok fd_X12_tuner from fmo_X12_tuner), (show fPar fd_X12_tuner 0 by unfold fPar; decide +kernel), (fmj_8 151 rfl rfl), (fmj_8 153 rfl rfl), RX12, TX12, 66, rfl, (fmj_0 84 rfl rfl)⟩
set_option maxRecDepth 100000 in
theorem fe_X12_298 : fLok RX12 298 (1, 231, 0, 12, 0) := ⟨(show fMok fd_X12_pupil from fmo_X12_pupil), (show fPar fd_X12_pupil 0 by unfold fPar; decide +kernel), (fmj_8 163 rfl rfl), (fmj_8 165 rfl rfl), RX12, TX12, 66, rfl, (fmj_0 87 rfl rfl)⟩
set_option maxRecDepth 100000 in
theorem fe_X12_301 : fLok RX12 301 (1, 232, 0, 12, 0) := ⟨(show fMok fd_X12_teach from fmo_X12_teach), (show fPar fd_X12_teach 0 by unfold fPar; decide +kernel), (fmj_8 167 rfl rfl), (fmj_8 169 rfl rfl), RX12, TX12, 66, rfl, (fmj_0 88 rfl rfl)⟩
set_option maxRecDepth 100000 in
theorem fe_X12_304 : fLok RX12 304 (7, 0, 0, 0, 99999) := ⟨99999, by decide +kernel, (fmj_8 103 rfl rfl)⟩
set_option maxRecDepth 100000 in
theorem fe_X12_305 : fLok RX12 305 (1, 218, 0, 12, 0) := ⟨(show fMok fd_X12_kind from fmo_X12_kind), (show fPar fd_X12_kind 0 by unfold fPar; decide +kernel), (fmj_8 119 rfl rfl), (fmj_8 121 rfl rfl), RX12, TX12, 66, rfl, (fmj_0 76 rfl rfl)⟩
set_option maxRecDepth 100000 in
theorem fe_X12_308 : fLok RX12 308 (1, 227, 0, 12, 0) := ⟨(show fMok fd_X12_fresh from fmo_X12_fresh), (show fPar fd_X12_fresh 0 by unfold fPar; decide +kernel), (fmj_8 135 rfl rfl), (fmj_8 137 rfl rfl), RX12, TX12, 66, rfl, (fmj_0 80 rfl rfl)⟩
set_option maxRecDepth 100000 in
theorem fe_X12_311 : fLok RX12 311 (1, 229, 1, 12, 0) := ⟨(show fMok fd_X12_more from fmo_X12_more), (show fPar fd_X12_more 1 by unfold fPar; decide +kernel), (fmj_8 147 rfl rfl), (fmj_8 149 rfl rfl), RX12, TX12, 66, rfl, (fmj_0 83 rfl rfl)⟩
set_option maxRecDepth 100000 in
theorem fe_X12_314 : fLok RX12 314 (1, 216, 1, 12, 0) := ⟨(show fMok fd_X12_takesSigned from fmo_X12_takesSigned), (show fPar fd_X12_takesSigned 1 by unfold fPar; decide +kernel), (fmj_8 155 rfl rfl), (fmj_8 157 rfl rfl), RX12, TX12, 66, rfl, (fmj_0 85 rfl rfl)⟩
set_option maxRecDepth 100000 in
theorem fe_X12_317 : fLok RX12 317 (1, 217, 2, 12, 0) := ⟨(show fMok fd_X12_takesName from fmo_X12_takesName), (show fPar fd_X12_takesName 2 by unfold fPar; decide +kernel), (fmj_8 171 rfl rfl), (fmj_8 173 rfl rfl), RX12, TX12, 66, rfl, (fmj_0 89 rfl rfl)⟩
set_option maxRecDepth 100000 in
theorem fe_X12_320 : fLok RX12 320 (1, 199, 1, 12, 0) := ⟨(show fMok fd_X12_taken from fmo_X12_taken), (show fPar fd_X12_taken 1 by unfold fPar; decide +kernel), (fmj_8 61 rfl rfl), (fmj_8 63 rfl rfl), RX12, TX12, 66, rfl, (fmj_0 64 rfl rfl)⟩
set_option maxRecDepth 100000 in
theorem fe_X12_323 : fLok RX12 323 (1, 222, 0, 12, 0) := ⟨(show fMok fd_X12_readHouse from fmo_X12_readHouse), (show fPar fd_X12_readHouse 0 by unfold fPar; decide +kernel), (fmj_8 79 rfl rfl), (fmj_8 81 rfl rfl), RX12, TX12, 66, rfl, (fmj_0 67 rfl rfl)⟩
set_option maxRecDepth 100000 in
theorem fe_X12_326 : fLok RX12 326 (0, 12, 10, 0, 0) := ⟨RX12, TX12, 66, fcl_12, by decide, (fmj_7 107 rfl rfl), rfl, tyX12 10, tyX12_ok 10 (by decide), rfl⟩
set_option maxRecDepth 100000 in
theorem fe_X12_329 : fLok RX12 329 (0, 12, 21, 0, 0) := ⟨RX12, TX12, 66, fcl_12, by decide, (fmj_7 118 rfl rfl), rfl, tyX12 21, tyX12_ok 21 (by decide), rfl⟩
set_option maxRecDepth 100000 in
theorem fe_X12_332 : fLok RX12 332 (1, 235, 2, 12, 0) := ⟨(show fMok fd_X12_record from fmo_X12_record), (show fPar fd_X12_record 2 by unfold fPar; decide +kernel), (fmj_8 187 rfl rfl), (fmj_8 189 rfl rfl), RX12, TX12, 66, rfl, (fmj_0 92 rfl rfl)⟩
set_option maxRecDepth 100000 in
theorem fe_X12_335 : fLok RX12 335 (1, 236, 2, 12, 0) := ⟨(show fMok fd_X12_when from fmo_X12_when), (show fPar fd_X12_when 2 by unfold fPar; decide +kernel), (fmj_8 191 rfl rfl), (fmj_8 193 rfl rfl), RX12, TX12, 66, rfl, (fmj_0 93 rfl rfl)⟩
set_option maxRecDepth 100000 in
theorem fe_X12_338 : fLok RX12 338 (1, 237, 2, 12, 0) := ⟨(show fMok fd_X12_notes from fmo_X12_notes), (show fPar fd_X12_notes 2 by unfold fPar; decide +kernel), (fmj_8 195 rfl rfl), (fmj_8 197 rfl rfl), RX12, TX12, 66, rfl, (fmj_0 94 rfl rfl)⟩
set_option maxRecDepth 100000 in
theorem fe_X12_341 : fLok RX12 341 (1, 234, 0, 12, 0) := ⟨(show fMok fd_X12_readRecords from fmo_X12_readRecords), (show fPar fd_X12_readRecords 0 by unfold fPar; decide +kernel), (fmj_8 183 rfl rfl), (fmj_8 185 rfl rfl), RX12, TX12, 66, rfl, (fmj_0 91 rfl rfl)⟩
set_option maxRecDepth 100000 in
theorem fe_X12_344 : fLok RX12 344 (1, 240, 1, 12, 0) := ⟨(show fMok fd_X12_isPiano from fmo_X12_isPiano), (show fPar fd_X12_isPiano 1 by unfold fPar; decide +kernel), (fmj_8 207 rfl rfl), (fmj_8 209 rfl rfl), RX12, TX12, 66, rfl, (fmj_0 95 rfl rfl)⟩
set_option maxRecDepth 100000 in
theorem fe_X12_347 : fLok RX12 347 (1, 195, 1, 12, 0) := ⟨(show fMok fd_X12_throwsIf from fmo_X12_throwsIf), (show fPar fd_X12_throwsIf 1 by unfold fPar; decide +kernel), (fmj_8 211 rfl rfl), (fmj_8 213 rfl rfl), RX12, TX12, 66, rfl, (fmj_0 96 rfl rfl)⟩
set_option maxRecDepth 100000 in
theorem fe_X12_350 : fLok RX12 350 (1, 244, 2, 12, 0) := ⟨(show fMok fd_X12_of from fmo_X12_of), (show fPar fd_X12_of 2 by unfold fPar; decide +kernel), (fmj_8 215 rfl rfl), (fmj_8 217 rfl rfl), RX12, TX12, 66, rfl, (fmj_0 97 rfl rfl)⟩
set_option maxRecDepth 100000 in
theorem fe_X12_353 : fLok RX12 353 (1, 247, 1, 12, 0) := ⟨(show fMok fd_X12_pitch from fmo_X12_pitch), (show fPar fd_X12_pitch 1 by unfold fPar; decide +kernel), (fmj_8 231 rfl rfl), (fmj_8 233 rfl rfl), RX12, TX12, 66, rfl, (fmj_0 99 rfl rfl)⟩
set_option maxRecDepth 100000 in
theorem fe_X12_357 : fLok RX12 357 (2, 201, 1, 12, 0) := ⟨(show fMok fd_X12_plain from fmo_X12_plain), (show fPar fd_X12_plain 1 by unfold fPar; decide +kernel), (fmj_8 235 rfl rfl), (fmj_8 236 rfl rfl)⟩
set_option maxRecDepth 100000 in
theorem fe_X12_360 : fLok RX12 360 (1, 248, 2, 12, 0) := ⟨(show fMok fd_X12_beatsOf from fmo_X12_beatsOf), (show fPar fd_X12_beatsOf 2 by unfold fPar; decide +kernel), (fmj_8 227 rfl rfl), (fmj_8 229 rfl rfl), RX12, TX12, 66, rfl, (fmj_0 98 rfl rfl)⟩
set_option maxRecDepth 100000 in
theorem fe_X12_363 : fLok RX12 363 (1, 251, 5, 12, 0) := ⟨(show fMok fd_X12_isOf from fmo_X12_isOf), (show fPar fd_X12_isOf 5 by unfold fPar; decide +kernel), (fmj_9 16 rfl rfl), (fmj_9 18 rfl rfl), RX12, TX12, 66, rfl, (fmj_0 101 rfl rfl)⟩
set_option maxRecDepth 100000 in
theorem fe_X12_367 : fLok RX12 367 (0, 12, 27, 0, 0) := ⟨RX12, TX12, 66, fcl_12, by decide, (fmj_7 124 rfl rfl), rfl, tyX12 27, tyX12_ok 27 (by decide), rfl⟩
set_option maxRecDepth 100000 in
theorem fe_X12_370 : fLok RX12 370 (1, 252, 4, 12, 0) := ⟨(show fMok fd_X12_latest from fmo_X12_latest), (show fPar fd_X12_latest 4 by unfold fPar; decide +kernel), (fmj_9 20 rfl rfl), (fmj_9 22 rfl rfl), RX12, TX12, 66, rfl, (fmj_0 102 rfl rfl)⟩
set_option maxRecDepth 100000 in
theorem fe_X12_374 : fLok RX12 374 (1, 254, 1, 12, 0) := ⟨(show fMok fd_X12_tune from fmo_X12_tune), (show fPar fd_X12_tune 1 by unfold fPar; decide +kernel), (fmj_9 24 rfl rfl), (fmj_9 26 rfl rfl), RX12, TX12, 66, rfl, (fmj_0 103 rfl rfl)⟩
set_option maxRecDepth 100000 in
theorem fe_X12_377 : fLok RX12 377 (0, 12, 24, 0, 0) := ⟨RX12, TX12, 66, fcl_12, by decide, (fmj_7 121 rfl rfl), rfl, tyX12 24, tyX12_ok 24 (by decide), rfl⟩
set_option maxRecDepth 100000 in
theorem fe_X12_380 : fLok RX12 380 (0, 12, 25, 0, 0) := ⟨RX12, TX12, 66, fcl_12, by decide, (fmj_7 122 rfl rfl), rfl, tyX12 25, tyX12_ok 25 (by decide), rfl⟩
set_option maxRecDepth 100000 in
theorem fe_X12_383 : fLok RX12 383 (0, 12, 26, 0, 0) := ⟨RX12, TX12, 66, fcl_12, by decide, (fmj_7 123 rfl rfl), rfl, tyX12 26, tyX12_ok 26 (by decide), rfl⟩
set_option maxRecDepth 100000 in
theorem fe_X12_386 : fLok RX12 386 (0, 12, 28, 0, 0) := ⟨RX12, TX12, 66, fcl_12, by decide, (fmj_7 125 rfl rfl), rfl, tyX12 28, tyX12_ok 28 (by decide), rfl⟩
set_option maxRecDepth 100000 in
theorem fe_X12_389 : fLok RX12 389 (1, 255, 1, 12, 0) := ⟨(show fMok fd_X12_pass from fmo_X12_pass), (show fPar fd_X12_pass 1 by unfold fPar; decide +kernel), (fmj_9 32 rfl rfl), (fmj_9 34 rfl rfl), RX12, TX12, 66, rfl, (fmj_0 105 rfl rfl)⟩
set_option maxRecDepth 100000 in
theorem fe_X12_392 : fLok RX12 392 (1, 257, 3, 12, 0) := ⟨(show fMok fd_X12_offsetOf from fmo_X12_offsetOf), (show fPar fd_X12_offsetOf 3 by unfold fPar; decide +kernel), (fmj_9 36 rfl rfl), (fmj_9 38 rfl rfl), RX12, TX12, 66, rfl, (fmj_0 106 rfl rfl)⟩
set_option maxRecDepth 100000 in
theorem fe_X12_396 : fLok RX12 396 (2, 242, 1, 12, 0) := ⟨(show fMok fd_X12_isDay from fmo_X12_isDay), (show fPar fd_X12_isDay 1 by unfold fPar; decide +kernel), (fmj_9 6 rfl rfl), (fmj_9 7 rfl rfl)⟩
set_option maxRecDepth 100000 in
theorem fe_X12_399 : fLok RX12 399 (2, 243, 1, 12, 0) := ⟨(show fMok fd_X12_isKnown from fmo_X12_isKnown), (show fPar fd_X12_isKnown 1 by unfold fPar; decide +kernel), (fmj_9 9 rfl rfl), (fmj_9 10 rfl rfl)⟩
set_option maxRecDepth 100000 in
theorem fe_X12_402 : fLok RX12 402 (1, 253, 3, 12, 0) := ⟨(show fMok fd_X12_course from fmo_X12_course), (show fPar fd_X12_course 3 by unfold fPar; decide +kernel), (fmj_9 12 rfl rfl), (fmj_9 14 rfl rfl), RX12, TX12, 66, rfl, (fmj_0 100 rfl rfl)⟩
set_option maxRecDepth 100000 in
theorem fe_X12_405 : fLok RX12 405 (1, 256, 1, 12, 0) := ⟨(show fMok fd_X12_passTo from fmo_X12_passTo), (show fPar fd_X12_passTo 1 by unfold fPar; decide +kernel), (fmj_9 28 rfl rfl), (fmj_9 30 rfl rfl), RX12, TX12, 66, rfl, (fmj_0 104 rfl rfl)⟩
set_option maxRecDepth 100000 in
theorem fe_X12_408 : fLok RX12 408 (1, 258, 2, 12, 0) := ⟨(show fMok fd_X12_offOf from fmo_X12_offOf), (show fPar fd_X12_offOf 2 by unfold fPar; decide +kernel), (fmj_9 44 rfl rfl), (fmj_9 46 rfl rfl), RX12, TX12, 66, rfl, (fmj_0 107 rfl rfl)⟩
set_option maxRecDepth 100000 in
theorem fe_X12_411 : fLok RX12 411 (1, 263, 3, 12, 0) := ⟨(show fMok fd_X12_tuningsOf from fmo_X12_tuningsOf), (show fPar fd_X12_tuningsOf 3 by unfold fPar; decide +kernel), (fmj_9 56 rfl rfl), (fmj_9 58 rfl rfl), RX12, TX12, 66, rfl, (fmj_0 108 rfl rfl)⟩
set_option maxRecDepth 100000 in
theorem fe_X12_414 : fLok RX12 414 (1, 297, 2, 12, 0) := ⟨(show fMok fd_X12_feeOf from fmo_X12_feeOf), (show fPar fd_X12_feeOf 2 by unfold fPar; decide +kernel), (fmj_9 64 rfl rfl), (fmj_9 66 rfl rfl), RX12, TX12, 66, rfl, (fmj_0 109 rfl rfl)⟩
set_option maxRecDepth 100000 in
theorem fe_X12_417 : fLok RX12 417 (1, 267, 0, 12, 0) := ⟨(show fMok fd_X12_noPairs from fmo_X12_noPairs), (show fPar fd_X12_noPairs 0 by unfold fPar; decide +kernel), (fmj_9 72 rfl rfl), (fmj_9 74 rfl rfl), RX12, TX12, 66, rfl, (fmj_0 110 rfl rfl)⟩
set_option maxRecDepth 100000 in
theorem fe_X12_420 : fLok RX12 420 (1, 266, 3, 12, 0) := ⟨(show fMok fd_X12_pairs from fmo_X12_pairs), (show fPar fd_X12_pairs 3 by unfold fPar; decide +kernel), (fmj_9 76 rfl rfl), (fmj_9 78 rfl rfl), RX12, TX12, 66, rfl, (fmj_0 111 rfl rfl)⟩
set_option maxRecDepth 100000 in
theorem fe_X12_424 : fLok RX12 424 (2, 268, 2, 12, 0) := ⟨(show fMok fd_X12_common from fmo_X12_common), (show fPar fd_X12_common 2 by unfold fPar; decide +kernel), (fmj_9 80 rfl rfl), (fmj_9 81 rfl rfl)⟩
set_option maxRecDepth 100000 in
theorem fe_X12_428 : fLok RX12 428 (0, 12, 31, 0, 0) := ⟨RX12, TX12, 66, fcl_12, by decide, (fmj_7 128 rfl rfl), rfl, tyX12 31, tyX12_ok 31 (by decide), rfl⟩
set_option maxRecDepth 100000 in
theorem fe_X12_431 : fLok RX12 431 (0, 12, 32, 0, 0) := ⟨RX12, TX12, 66, fcl_12, by decide, (fmj_7 129 rfl rfl), rfl, tyX12 32, tyX12_ok 32 (by decide), rfl⟩
set_option maxRecDepth 100000 in
theorem fe_X12_434 : fLok RX12 434 (1, 241, 1, 12, 0) := ⟨(show fMok fd_X12_isTuner from fmo_X12_isTuner), (show fPar fd_X12_isTuner 1 by unfold fPar; decide +kernel), (fmj_9 95 rfl rfl), (fmj_9 97 rfl rfl), RX12, TX12, 66, rfl, (fmj_0 112 rfl rfl)⟩
set_option maxRecDepth 100000 in
theorem fe_X12_437 : fLok RX12 437 (1, 275, 2, 12, 0) := ⟨(show fMok fd_X12_cracks from fmo_X12_cracks), (show fPar fd_X12_cracks 2 by unfold fPar; decide +kernel), (fmj_9 107 rfl rfl), (fmj_9 109 rfl rfl), RX12, TX12, 66, rfl, (fmj_0 113 rfl rfl)⟩
set_option maxRecDepth 100000 in
theorem fe_X12_440 : fLok RX12 440 (1, 276, 4, 12, 0) := ⟨(show fMok fd_X12_isTunedIn from fmo_X12_isTunedIn), (show fPar fd_X12_isTunedIn 4 by unfold fPar; decide +kernel), (fmj_9 119 rfl rfl), (fmj_9 121 rfl rfl), RX12, TX12, 66, rfl, (fmj_0 115 rfl rfl)⟩
set_option maxRecDepth 100000 in
theorem fe_X12_443 : fLok RX12 443 (1, 261, 3, 12, 0) := ⟨(show fMok fd_X12_isBeyond from fmo_X12_isBeyond), (show fPar fd_X12_isBeyond 3 by unfold fPar; decide +kernel), (fmj_9 123 rfl rfl), (fmj_9 125 rfl rfl), RX12, TX12, 66, rfl, (fmj_0 116 rfl rfl)⟩
set_option maxRecDepth 100000 in
theorem fe_X12_446 : fLok RX12 446 (1, 277, 2, 12, 0) := ⟨(show fMok fd_X12_weightOf from fmo_X12_weightOf), (show fPar fd_X12_weightOf 2 by unfold fPar; decide +kernel), (fmj_9 115 rfl rfl), (fmj_9 117 rfl rfl), RX12, TX12, 66, rfl, (fmj_0 114 rfl rfl)⟩
set_option maxRecDepth 100000 in
theorem fe_X12_449 : fLok RX12 449 (0, 12, 39, 0, 0) := ⟨RX12, TX12, 66, fcl_12, by decide, (fmj_7 136 rfl rfl), rfl, tyX12 39, tyX12_ok 39 (by decide), rfl⟩
set_option maxRecDepth 100000 in
theorem fe_X12_452 : fLok RX12 452 (1, 202, 1, 12, 0) := ⟨(show fMok fd_X12_octet from fmo_X12_octet), (show fPar fd_X12_octet 1 by unfold fPar; decide +kernel), (fmj_9 135 rfl rfl), (fmj_9 137 rfl rfl), RX12, TX12, 66, rfl, (fmj_0 118 rfl rfl)⟩
set_option maxRecDepth 100000 in
theorem fe_X12_455 : fLok RX12 455 (0, 12, 40, 0, 0) := ⟨RX12, TX12, 66, fcl_12, by decide, (fmj_7 137 rfl rfl), rfl, tyX12 40, tyX12_ok 40 (by decide), rfl⟩
set_option maxRecDepth 100000 in
theorem fe_X12_458 : fLok RX12 458 (0, 12, 41, 0, 0) := ⟨RX12, TX12, 66, fcl_12, by decide, (fmj_7 138 rfl rfl), rfl, tyX12 41, tyX12_ok 41 (by decide), rfl⟩
set_option maxRecDepth 100000 in
theorem fe_X12_461 : fLok RX12 461 (1, 281, 2, 12, 0) := ⟨(show fMok fd_X12_way from fmo_X12_way), (show fPar fd_X12_way 2 by unfold fPar; decide +kernel), (fmj_9 151 rfl rfl), (fmj_9 153 rfl rfl), RX12, TX12, 66, rfl, (fmj_0 122 rfl rfl)⟩
set_option maxRecDepth 100000 in
theorem fe_X12_464 : fLok RX12 464 (7, 0, 0, 0, 1000000) := ⟨1000000, by decide +kernel, (fmj_9 159 rfl rfl)⟩
set_option maxRecDepth 100000 in
theorem fe_X12_465 : fLok RX12 465 (0, 12, 47, 0, 0) := ⟨RX12, TX12, 66, fcl_12, by decide, (fmj_7 144 rfl rfl), rfl, tyX12 47, tyX12_ok 47 (by decide), rfl⟩
set_option maxRecDepth 100000 in
theorem fe_X12_468 : fLok RX12 468 (1, 284, 2, 12, 0) := ⟨(show fMok fd_X12_consider from fmo_X12_consider), (show fPar fd_X12_consider 2 by unfold fPar; decide +kernel), (fmj_9 147 rfl rfl), (fmj_9 149 rfl rfl), RX12, TX12, 66, rfl, (fmj_0 121 rfl rfl)⟩
set_option maxRecDepth 100000 in
theorem fe_X12_472 : fLok RX12 472 (1, 282, 3, 12, 0) := ⟨(show fMok fd_X12_done from fmo_X12_done), (show fPar fd_X12_done 3 by unfold fPar; decide +kernel), (fmj_9 155 rfl rfl), (fmj_9 157 rfl rfl), RX12, TX12, 66, rfl, (fmj_0 123 rfl rfl)⟩
set_option maxRecDepth 100000 in
theorem fe_X12_475 : fLok RX12 475 (0, 12, 48, 0, 0) := ⟨RX12, TX12, 66, fcl_12, by decide, (fmj_7 145 rfl rfl), rfl, tyX12 48, tyX12_ok 48 (by decide), rfl⟩
set_option maxRecDepth 100000 in
theorem fe_X12_478 : fLok RX12 478 (0, 12, 46, 0, 0) := ⟨RX12, TX12, 66, fcl_12, by decide, (fmj_7 143 rfl rfl), rfl, tyX12 46, tyX12_ok 46 (by decide), rfl⟩
set_option maxRecDepth 100000 in
theorem fe_X12_481 : fLok RX12 481 (1, 279, 2, 12, 0) := ⟨(show fMok fd_X12_tells from fmo_X12_tells), (show fPar fd_X12_tells 2 by unfold fPar; decide +kernel), (fmj_9 131 rfl rfl), (fmj_9 133 rfl rfl), RX12, TX12, 66, rfl, (fmj_0 117 rfl rfl)⟩
set_option maxRecDepth 100000 in
theorem fe_X12_485 : fLok RX12 485 (1, 280, 1, 12, 0) := ⟨(show fMok fd_X12_live from fmo_X12_live), (show fPar fd_X12_live 1 by unfold fPar; decide +kernel), (fmj_9 139 rfl rfl), (fmj_9 141 rfl rfl), RX12, TX12, 66, rfl, (fmj_0 119 rfl rfl)⟩
set_option maxRecDepth 100000 in
theorem fe_X12_488 : fLok RX12 488 (1, 283, 0, 12, 0) := ⟨(show fMok fd_X12_orders from fmo_X12_orders), (show fPar fd_X12_orders 0 by unfold fPar; decide +kernel), (fmj_9 143 rfl rfl), (fmj_9 145 rfl rfl), RX12, TX12, 66, rfl, (fmj_0 120 rfl rfl)⟩
set_option maxRecDepth 100000 in
theorem fe_X12_491 : fLok RX12 491 (0, 12, 51, 0, 0) := ⟨RX12, TX12, 66, fcl_12, by decide, (fmj_7 148 rfl rfl), rfl, tyX12 51, tyX12_ok 51 (by decide), rfl⟩
set_option maxRecDepth 100000 in
theorem fe_X12_494 : fLok RX12 494 (1, 289, 1, 12, 0) := ⟨(show fMok fd_X12_sets from fmo_X12_sets), (show fPar fd_X12_sets 1 by unfold fPar; decide +kernel), (fmj_9 176 rfl rfl), (fmj_9 178 rfl rfl), RX12, TX12, 66, rfl, (fmj_0 124 rfl rfl)⟩
set_option maxRecDepth 100000 in
theorem fe_X12_497 : fLok RX12 497 (1, 290, 1, 12, 0) := ⟨(show fMok fd_X12_sumOf from fmo_X12_sumOf), (show fPar fd_X12_sumOf 1 by unfold fPar; decide +kernel), (fmj_9 180 rfl rfl), (fmj_9 182 rfl rfl), RX12, TX12, 66, rfl, (fmj_0 125 rfl rfl)⟩
set_option maxRecDepth 100000 in
theorem fe_X12_500 : fLok RX12 500 (2, 292, 1, 12, 0) := ⟨(show fMok fd_X12_bits from fmo_X12_bits), (show fPar fd_X12_bits 1 by unfold fPar; decide +kernel), (fmj_9 188 rfl rfl), (fmj_9 189 rfl rfl)⟩
set_option maxRecDepth 100000 in
theorem fe_X12_503 : fLok RX12 503 (1, 296, 3, 12, 0) := ⟨(show fMok fd_X12_blame from fmo_X12_blame), (show fPar fd_X12_blame 3 by unfold fPar; decide +kernel), (fmj_9 199 rfl rfl), (fmj_9 201 rfl rfl), RX12, TX12, 66, rfl, (fmj_0 126 rfl rfl)⟩
set_option maxRecDepth 100000 in
theorem fe_X12_506 : fLok RX12 506 (1, 299, 2, 12, 0) := ⟨(show fMok fd_X12_isFree from fmo_X12_isFree), (show fPar fd_X12_isFree 2 by unfold fPar; decide +kernel), (fmj_9 211 rfl rfl), (fmj_9 213 rfl rfl), RX12, TX12, 66, rfl, (fmj_0 127 rfl rfl)⟩
set_option maxRecDepth 100000 in
theorem fe_X12_509 : fLok RX12 509 (8, 0, 0, 0, 2) := ⟨2, by decide +kernel, (fmj_9 229 rfl rfl)⟩
set_option maxRecDepth 100000 in
theorem fe_X12_511 : fLok RX12 511 (8, 0, 0, 0, 20) := ⟨20, by decide +kernel, (fmj_9 223 rfl rfl)⟩
set_option maxRecDepth 100000 in
theorem fe_X12_513 : fLok RX12 513 (8, 0, 0, 0, (-1)) := ⟨(-1), by decide +kernel, (fmj_9 224 rfl rfl)⟩
set_option maxRecDepth 100000 in
theorem fe_X12_515 : fLok RX12 515 (0, 12, 57, 1, 0) := ⟨RX12, TX12, 66, fcl_12, by decide, (fmj_7 154 rfl rfl), rfl, tyX12 57, tyX12_ok 57 (by decide), rfl⟩
set_option maxRecDepth 100000 in
theorem fe_X12_518 : fLok RX12 518 (8, 0, 0, 0, 1000000000000000) := ⟨1000000000000000, by decide +kernel, (fmj_9 225 rfl rfl)⟩
set_option maxRecDepth 100000 in
theorem fe_X12_520 : fLok RX12 520 (2, 302, 3, 12, 0) := ⟨(show fMok fd_X12_part from fmo_X12_part), (show fPar fd_X12_part 3 by unfold fPar; decide +kernel), (fmj_9 226 rfl rfl), (fmj_9 227 rfl rfl)⟩
set_option maxRecDepth 100000 in
theorem fe_X12_524 : fLok RX12 524 (0, 12, 60, 0, 0) := ⟨RX12, TX12, 66, fcl_12, by decide, (fmj_7 157 rfl rfl), rfl, tyX12 60, tyX12_ok 60 (by decide), rfl⟩
set_option maxRecDepth 100000 in
theorem fek_X12 : ∀ q ∈ fk_X12, fLok RX12 q.1 q.2 := List.forall_mem_cons.mpr ⟨fe_X12_1, List.forall_mem_cons.mpr ⟨fe_X12_7, List.forall_mem_cons.mpr ⟨fe_X12_10, List.forall_mem_cons.mpr ⟨fe_X12_14, List.forall_mem_cons.mpr ⟨fe_X12_18, List.forall_mem_cons.mpr ⟨fe_X12_21, List.forall_mem_cons.mpr ⟨fe_X12_24, List.forall_mem_cons.mpr ⟨fe_X12_27, List.forall_mem_cons.mpr ⟨fe_X12_33, List.forall_mem_cons.mpr ⟨fe_X12_37, List.forall_mem_cons.mpr ⟨fe_X12_40, List.forall_mem_cons.mpr ⟨fe_X12_44, List.forall_mem_cons.mpr ⟨fe_X12_47, List.forall_mem_cons.mpr ⟨fe_X12_51, List.forall_mem_cons.mpr ⟨fe_X12_54, List.forall_mem_cons.mpr ⟨fe_X12_57, List.forall_mem_cons.mpr ⟨fe_X12_60, List.forall_mem_cons.mpr ⟨fe_X12_63, List.forall_mem_cons.mpr ⟨fe_X12_66, List.forall_mem_cons.mpr ⟨fe_X12_69, List.forall_mem_cons.mpr ⟨fe_X12_72, List.forall_mem_cons.mpr ⟨fe_X12_75, List.forall_mem_cons.mpr ⟨fe_X12_78, List.forall_mem_cons.mpr ⟨fe_X12_81, List.forall_mem_cons.mpr ⟨fe_X12_84, List.forall_mem_cons.mpr ⟨fe_X12_87, List.forall_mem_cons.mpr ⟨fe_X12_90, List.forall_mem_cons.mpr ⟨fe_X12_93, List.forall_mem_cons.mpr ⟨fe_X12_96, List.forall_mem_cons.mpr ⟨fe_X12_99, List.forall_mem_cons.mpr ⟨fe_X12_102, List.forall_mem_cons.mpr ⟨fe_X12_103, List.forall_mem_cons.mpr ⟨fe_X12_106, List.forall_mem_cons.mpr ⟨fe_X12_109, List.forall_mem_cons.mpr ⟨fe_X12_112, List.forall_mem_cons.mpr ⟨fe_X12_115, List.forall_mem_cons.mpr ⟨fe_X12_118, List.forall_mem_cons.mpr ⟨fe_X12_121, List.forall_mem_cons.mpr ⟨fe_X12_124, List.forall_mem_cons.mpr ⟨fe_X12_127, List.forall_mem_cons.mpr ⟨fe_X12_130, List.forall_mem_cons.mpr ⟨fe_X12_133, List.forall_mem_cons.mpr ⟨fe_X12_135, List.forall_mem_cons.mpr ⟨fe_X12_137, List.forall_mem_cons.mpr ⟨fe_X12_139, List.forall_mem_cons.mpr ⟨fe_X12_141, List.forall_mem_cons.mpr ⟨fe_X12_143, List.forall_mem_cons.mpr ⟨fe_X12_145, List.forall_mem_cons.mpr ⟨fe_X12_147, List.forall_mem_cons.mpr ⟨fe_X12_149, List.forall_mem_cons.mpr ⟨fe_X12_151, List.forall_mem_cons.mpr ⟨fe_X12_153, List.forall_mem_cons.mpr ⟨fe_X12_155, List.forall_mem_cons.mpr ⟨fe_X12_157, List.forall_mem_cons.mpr ⟨fe_X12_159, List.forall_mem_cons.mpr ⟨fe_X12_161, List.forall_mem_cons.mpr ⟨fe_X12_163, List.forall_mem_cons.mpr ⟨fe_X12_165, List.forall_mem_cons.mpr ⟨fe_X12_167, List.forall_mem_cons.mpr ⟨fe_X12_169, List.forall_mem_cons.mpr ⟨fe_X12_171, List.forall_mem_cons.mpr ⟨fe_X12_173, List.forall_mem_cons.mpr ⟨fe_X12_175, List.forall_mem_cons.mpr ⟨fe_X12_177, List.forall_mem_cons.mpr ⟨fe_X12_179, List.forall_mem_cons.mpr ⟨fe_X12_181, List.forall_mem_cons.mpr ⟨fe_X12_183, List.forall_mem_cons.mpr ⟨fe_X12_185, List.forall_mem_cons.mpr ⟨fe_X12_187, List.forall_mem_cons.mpr ⟨fe_X12_189, List.forall_mem_cons.mpr ⟨fe_X12_191, List.forall_mem_cons.mpr ⟨fe_X12_193, List.forall_mem_cons.mpr ⟨fe_X12_196, List.forall_mem_cons.mpr ⟨fe_X12_200, List.forall_mem_cons.mpr ⟨fe_X12_203, List.forall_mem_cons.mpr ⟨fe_X12_206, List.forall_mem_cons.mpr ⟨fe_X12_209, List.forall_mem_cons.mpr ⟨fe_X12_213, List.forall_mem_cons.mpr ⟨fe_X12_216, List.forall_mem_cons.mpr ⟨fe_X12_219, List.forall_mem_cons.mpr ⟨fe_X12_223, List.forall_mem_cons.mpr ⟨fe_X12_226, List.forall_mem_cons.mpr ⟨fe_X12_229, List.forall_mem_cons.mpr ⟨fe_X12_232, List.forall_mem_cons.mpr ⟨fe_X12_235, List.forall_mem_cons.mpr ⟨fe_X12_238, List.forall_mem_cons.mpr ⟨fe_X12_242, List.forall_mem_cons.mpr ⟨fe_X12_245, List.forall_mem_cons.mpr ⟨fe_X12_249, List.forall_mem_cons.mpr ⟨fe_X12_253, List.forall_mem_cons.mpr ⟨fe_X12_257, List.forall_mem_cons.mpr ⟨fe_X12_261, List.forall_mem_cons.mpr ⟨fe_X12_264, List.forall_mem_cons.mpr ⟨fe_X12_267, List.forall_mem_cons.mpr ⟨fe_X12_270, List.forall_mem_cons.mpr ⟨fe_X12_273, List.forall_mem_cons.mpr ⟨fe_X12_276, List.forall_mem_cons.mpr ⟨fe_X12_279, List.forall_mem_cons.mpr ⟨fe_X12_283, List.forall_mem_cons.mpr ⟨fe_X12_286, List.forall_mem_cons.mpr ⟨fe_X12_290, List.forall_mem_cons.mpr ⟨fe_X12_292, List.forall_mem_cons.mpr ⟨fe_X12_295, List.forall_mem_cons.mpr ⟨fe_X12_298, List.forall_mem_cons.mpr ⟨fe_X12_301, List.forall_mem_cons.mpr ⟨fe_X12_304, List.forall_mem_cons.mpr ⟨fe_X12_305, List.forall_mem_cons.mpr ⟨fe_X12_308, List.forall_mem_cons.mpr ⟨fe_X12_311, List.forall_mem_cons.mpr ⟨fe_X12_314, List.forall_mem_cons.mpr ⟨fe_X12_317, List.forall_mem_cons.mpr ⟨fe_X12_320, List.forall_mem_cons.mpr ⟨fe_X12_323, List.forall_mem_cons.mpr ⟨fe_X12_326, List.forall_mem_cons.mpr ⟨fe_X12_329, List.forall_mem_cons.mpr ⟨fe_X12_332, List.forall_mem_cons.mpr ⟨fe_X12_335, List.forall_mem_cons.mpr ⟨fe_X12_338, List.forall_mem_cons.mpr ⟨fe_X12_341, List.forall_mem_cons.mpr ⟨fe_X12_344, List.forall_mem_cons.mpr ⟨fe_X12_347, List.forall_mem_cons.mpr ⟨fe_X12_350, List.forall_mem_cons.mpr ⟨fe_X12_353, List.forall_mem_cons.mpr ⟨fe_X12_357, List.forall_mem_cons.mpr ⟨fe_X12_360, List.forall_mem_cons.mpr ⟨fe_X12_363, List.forall_mem_cons.mpr ⟨fe_X12_367, List.forall_mem_cons.mpr ⟨fe_X12_370, List.forall_mem_cons.mpr ⟨fe_X12_374, List.forall_mem_cons.mpr ⟨fe_X12_377, List.forall_mem_cons.mpr ⟨fe_X12_380, List.forall_mem_cons.mpr ⟨fe_X12_383, List.forall_mem_cons.mpr ⟨fe_X12_386, List.forall_mem_cons.mpr ⟨fe_X12_389, List.forall_mem_cons.mpr ⟨fe_X12_392, List.forall_mem_cons.mpr ⟨fe_X12_396, List.forall_mem_cons.mpr ⟨fe_X12_399, List.forall_mem_cons.mpr ⟨fe_X12_402, List.forall_mem_cons.mpr ⟨fe_X12_405, List.forall_mem_cons.mpr ⟨fe_X12_408, List.forall_mem_cons.mpr ⟨fe_X12_411, List.forall_mem_cons.mpr ⟨fe_X12_414, List.forall_mem_cons.mpr ⟨fe_X12_417, List.forall_mem_cons.mpr ⟨fe_X12_420, List.forall_mem_cons.mpr ⟨fe_X12_424, List.forall_mem_cons.mpr ⟨fe_X12_428, List.forall_mem_cons.mpr ⟨fe_X12_431, List.forall_mem_cons.mpr ⟨fe_X12_434, List.forall_mem_cons.mpr ⟨fe_X12_437, List.forall_mem_cons.mpr ⟨fe_X12_440, List.forall_mem_cons.mpr ⟨fe_X12_443, List.forall_mem_cons.mpr ⟨fe_X12_446, List.forall_mem_cons.mpr ⟨fe_X12_449, List.forall_mem_cons.mpr ⟨fe_X12_452, List.forall_mem_cons.mpr ⟨fe_X12_455, List.forall_mem_cons.mpr ⟨fe_X12_458, List.forall_mem_cons.mpr ⟨fe_X12_461, List.forall_mem_cons.mpr ⟨fe_X12_464, List.forall_mem_cons.mpr ⟨fe_X12_465, List.forall_mem_cons.mpr ⟨fe_X12_468, List.forall_mem_cons.mpr ⟨fe_X12_472, List.forall_mem_cons.mpr ⟨fe_X12_475, List.forall_mem_cons.mpr ⟨fe_X12_478, List.forall_mem_cons.mpr ⟨fe_X12_481, List.forall_mem_cons.mpr ⟨fe_X12_485, List.forall_mem_cons.mpr ⟨fe_X12_488, List.forall_mem_cons.mpr ⟨fe_X12_491, List.forall_mem_cons.mpr ⟨fe_X12_494, List.forall_mem_cons.mpr ⟨fe_X12_497, List.forall_mem_cons.mpr ⟨fe_X12_500, List.forall_mem_cons.mpr ⟨fe_X12_503, List.forall_mem_cons.mpr ⟨fe_X12_506, List.forall_mem_cons.mpr ⟨fe_X12_509, List.forall_mem_cons.mpr ⟨fe_X12_511, List.forall_mem_cons.mpr ⟨fe_X12_513, List.forall_mem_cons.mpr ⟨fe_X12_515, List.forall_mem_cons.mpr ⟨fe_X12_518, List.forall_mem_cons.mpr ⟨fe_X12_520, List.forall_mem_cons.mpr ⟨fe_X12_524, fun _ h => absurd h List.not_mem_nil⟩⟩⟩⟩⟩⟩⟩⟩⟩⟩⟩⟩⟩⟩⟩⟩⟩⟩⟩⟩⟩⟩⟩⟩⟩⟩⟩⟩⟩⟩⟩⟩⟩⟩⟩⟩⟩⟩⟩⟩⟩⟩⟩⟩⟩⟩⟩⟩⟩⟩⟩⟩⟩⟩⟩⟩⟩⟩⟩⟩⟩⟩⟩⟩⟩⟩⟩⟩⟩⟩⟩⟩⟩⟩⟩⟩⟩⟩⟩⟩⟩⟩⟩⟩⟩⟩⟩⟩⟩⟩⟩⟩⟩⟩⟩⟩⟩⟩⟩⟩⟩⟩⟩⟩⟩⟩⟩⟩⟩⟩⟩⟩⟩⟩⟩⟩⟩⟩⟩⟩⟩⟩⟩⟩⟩⟩⟩⟩⟩⟩⟩⟩⟩⟩⟩⟩⟩⟩⟩⟩⟩⟩⟩⟩⟩⟩⟩⟩⟩⟩⟩⟩⟩⟩⟩⟩⟩⟩⟩⟩⟩⟩⟩⟩⟩⟩⟩⟩⟩⟩⟩⟩⟩⟩⟩⟩⟩⟩⟩
set_option maxRecDepth 100000 in
theorem fe_J6_265 : fLok RJ6 265 (7, 0, 0, 0, 1431655765) := ⟨1431655765, by decide +kernel, (fmj_6 25 rfl rfl)⟩
set_option maxRecDepth 100000 in
theorem fe_J6_266 : fLok RJ6 266 (7, 0, 0, 0, 858993459) := ⟨858993459, by decide +kernel, (fmj_6 26 rfl rfl)⟩
set_option maxRecDepth 100000 in
theorem fe_J6_267 : fLok RJ6 267 (7, 0, 0, 0, 252645135) := ⟨252645135, by decide +kernel, (fmj_6 27 rfl rfl)⟩
set_option maxRecDepth 100000 in
theorem fek_J6 : ∀ q ∈ fk_J6, fLok RJ6 q.1 q.2 := List.forall_mem_cons.mpr ⟨fe_J6_265, List.forall_mem_cons.mpr ⟨fe_J6_266, List.forall_mem_cons.mpr ⟨fe_J6_267, fun _ h => absurd h List.not_mem_nil⟩⟩⟩
set_option maxRecDepth 100000 in
theorem fek_J9 : ∀ q ∈ fk_J9, fLok RJ9 q.1 q.2 := fun _ h => absurd h List.not_mem_nil
set_option maxRecDepth 100000 in
theorem fek_J7 : ∀ q ∈ fk_J7, fLok RJ7 q.1 q.2 := fun _ h => absurd h List.not_mem_nil
set_option maxRecDepth 100000 in
theorem fe_L_7 : fLok RL 7 (1, 156, 2, 11, 0) := ⟨(show fMok fd_X11_piano from fmo_X11_piano), (show fPar fd_X11_piano 2 by unfold fPar; decide +kernel), (fmj_6 197 rfl rfl), (fmj_6 198 rfl rfl), RX11, TX11, 15, rfl, (fmj_6 199 rfl rfl)⟩
set_option maxRecDepth 100000 in
theorem fe_L_8 : fLok RL 8 (5, 11, 15, 0, 0) := ⟨⟨RX11, TX11, fcl_11, (fmj_1 27 rfl rfl), (fmj_1 28 rfl rfl), (fmj_1 1 rfl rfl), tyX11, fty_11⟩, fun h => absurd h (by decide), fun h => absurd h (by decide)⟩
set_option maxRecDepth 100000 in
theorem fe_L_15 : fLok RL 15 (1, 160, 4, 11, 0) := ⟨(show fMok fd_X11_offset from fmo_X11_offset), (show fPar fd_X11_offset 4 by unfold fPar; decide +kernel), (fmj_6 219 rfl rfl), (fmj_6 220 rfl rfl), RX11, TX11, 15, rfl, (fmj_6 221 rfl rfl)⟩
set_option maxRecDepth 100000 in
theorem fe_L_19 : fLok RL 19 (1, 164, 1, 11, 0) := ⟨(show fMok fd_X11_slipped from fmo_X11_slipped), (show fPar fd_X11_slipped 1 by unfold fPar; decide +kernel), (fmj_6 230 rfl rfl), (fmj_6 231 rfl rfl), RX11, TX11, 15, rfl, (fmj_6 232 rfl rfl)⟩
set_option maxRecDepth 100000 in
theorem fe_L_23 : fLok RL 23 (1, 165, 2, 11, 0) := ⟨(show fMok fd_X11_stove from fmo_X11_stove), (show fPar fd_X11_stove 2 by unfold fPar; decide +kernel), (fmj_6 237 rfl rfl), (fmj_6 238 rfl rfl), RX11, TX11, 15, rfl, (fmj_6 239 rfl rfl)⟩
set_option maxRecDepth 100000 in
theorem fe_L_27 : fLok RL 27 (1, 166, 4, 11, 0) := ⟨(show fMok fd_X11_lean from fmo_X11_lean), (show fPar fd_X11_lean 4 by unfold fPar; decide +kernel), (fmj_7 15 rfl rfl), (fmj_7 16 rfl rfl), RX11, TX11, 15, rfl, (fmj_7 17 rfl rfl)⟩
set_option maxRecDepth 100000 in
theorem fe_L_30 : fLok RL 30 (1, 179, 3, 11, 0) := ⟨(show fMok fd_X11_owed from fmo_X11_owed), (show fPar fd_X11_owed 3 by unfold fPar; decide +kernel), (fmj_7 26 rfl rfl), (fmj_7 27 rfl rfl), RX11, TX11, 15, rfl, (fmj_7 28 rfl rfl)⟩
set_option maxRecDepth 100000 in
theorem fe_L_34 : fLok RL 34 (3, 150, 0, 11, 0) := ⟨(show fMok fd_X11_init from fmo_X11_init), (show fPar fd_X11_init 0 by unfold fPar; decide +kernel), (fmj_1 29 rfl rfl), (fmj_1 30 rfl rfl), by decide +kernel, by decide +kernel, by decide +kernel⟩
set_option maxRecDepth 100000 in
theorem fe_L_35 : fLok RL 35 (5, 12, 66, 0, 0) := ⟨⟨RX12, TX12, fcl_12, (fmj_7 57 rfl rfl), (fmj_7 51 rfl rfl), (fmj_1 19 rfl rfl), tyX12, fty_12⟩, fun h => absurd h (by decide), fun h => absurd h (by decide)⟩
set_option maxRecDepth 100000 in
theorem fe_L_37 : fLok RL 37 (3, 203, 0, 12, 0) := ⟨(show fMok fd_X12_init from fmo_X12_init), (show fPar fd_X12_init 0 by unfold fPar; decide +kernel), (fmj_7 58 rfl rfl), (fmj_7 59 rfl rfl), by decide +kernel, by decide +kernel, by decide +kernel⟩
set_option maxRecDepth 100000 in
theorem fe_L_38 : fLok RL 38 (1, 151, 5, 11, 0) := ⟨(show fMok fd_X11_feed from fmo_X11_feed), (show fPar fd_X11_feed 5 by unfold fPar; decide +kernel), (fmj_3 106 rfl rfl), (fmj_3 107 rfl rfl), RX11, TX11, 15, rfl, (fmj_3 108 rfl rfl)⟩
set_option maxRecDepth 100000 in
theorem fe_L_42 : fLok RL 42 (1, 196, 5, 12, 0) := ⟨(show fMok fd_X12_feed from fmo_X12_feed), (show fPar fd_X12_feed 5 by unfold fPar; decide +kernel), (fmj_7 44 rfl rfl), (fmj_7 45 rfl rfl), RX12, TX12, 66, rfl, (fmj_7 46 rfl rfl)⟩
set_option maxRecDepth 100000 in
theorem fe_L_43 : fLok RL 43 (1, 152, 1, 11, 0) := ⟨(show fMok fd_X11_end from fmo_X11_end), (show fPar fd_X11_end 1 by unfold fPar; decide +kernel), (fmj_3 118 rfl rfl), (fmj_3 119 rfl rfl), RX11, TX11, 15, rfl, (fmj_3 120 rfl rfl)⟩
set_option maxRecDepth 100000 in
theorem fe_L_47 : fLok RL 47 (1, 198, 1, 12, 0) := ⟨(show fMok fd_X12_end from fmo_X12_end), (show fPar fd_X12_end 1 by unfold fPar; decide +kernel), (fmj_7 53 rfl rfl), (fmj_7 54 rfl rfl), RX12, TX12, 66, rfl, (fmj_7 55 rfl rfl)⟩
set_option maxRecDepth 100000 in
theorem fe_L_48 : fLok RL 48 (1, 153, 0, 11, 0) := ⟨(show fMok fd_X11_house from fmo_X11_house), (show fPar fd_X11_house 0 by unfold fPar; decide +kernel), (fmj_3 126 rfl rfl), (fmj_3 127 rfl rfl), RX11, TX11, 15, rfl, (fmj_3 128 rfl rfl)⟩
set_option maxRecDepth 100000 in
theorem fe_L_52 : fLok RL 52 (1, 233, 0, 12, 0) := ⟨(show fMok fd_X12_house from fmo_X12_house), (show fPar fd_X12_house 0 by unfold fPar; decide +kernel), (fmj_8 57 rfl rfl), (fmj_8 58 rfl rfl), RX12, TX12, 66, rfl, (fmj_8 59 rfl rfl)⟩
set_option maxRecDepth 100000 in
theorem fe_L_53 : fLok RL 53 (1, 154, 0, 11, 0) := ⟨(show fMok fd_X11_records from fmo_X11_records), (show fPar fd_X11_records 0 by unfold fPar; decide +kernel), (fmj_4 112 rfl rfl), (fmj_4 113 rfl rfl), RX11, TX11, 15, rfl, (fmj_4 114 rfl rfl)⟩
set_option maxRecDepth 100000 in
theorem fe_L_56 : fLok RL 56 (1, 238, 0, 12, 0) := ⟨(show fMok fd_X12_records from fmo_X12_records), (show fPar fd_X12_records 0 by unfold fPar; decide +kernel), (fmj_8 179 rfl rfl), (fmj_8 180 rfl rfl), RX12, TX12, 66, rfl, (fmj_8 181 rfl rfl)⟩
set_option maxRecDepth 100000 in
theorem fe_L_57 : fLok RL 57 (1, 155, 0, 11, 0) := ⟨(show fMok fd_X11_fault from fmo_X11_fault), (show fPar fd_X11_fault 0 by unfold fPar; decide +kernel), (fmj_4 170 rfl rfl), (fmj_4 171 rfl rfl), RX11, TX11, 15, rfl, (fmj_4 172 rfl rfl)⟩
set_option maxRecDepth 100000 in
theorem fe_L_60 : fLok RL 60 (1, 239, 0, 12, 0) := ⟨(show fMok fd_X12_fault from fmo_X12_fault), (show fPar fd_X12_fault 0 by unfold fPar; decide +kernel), (fmj_8 199 rfl rfl), (fmj_8 200 rfl rfl), RX12, TX12, 66, rfl, (fmj_8 201 rfl rfl)⟩
set_option maxRecDepth 100000 in
theorem fe_L_61 : fLok RL 61 (2, 316, 4, 0, 0) := ⟨(show fMok fd_L_piano from fmo_L_piano), (show fPar fd_L_piano 4 by unfold fPar; decide +kernel), (fmj_6 193 rfl rfl), (fmj_6 194 rfl rfl)⟩
set_option maxRecDepth 100000 in
theorem fe_L_66 : fLok RL 66 (1, 245, 2, 12, 0) := ⟨(show fMok fd_X12_piano from fmo_X12_piano), (show fPar fd_X12_piano 2 by unfold fPar; decide +kernel), (fmj_8 203 rfl rfl), (fmj_8 204 rfl rfl), RX12, TX12, 66, rfl, (fmj_8 205 rfl rfl)⟩
set_option maxRecDepth 100000 in
theorem fe_L_67 : fLok RL 67 (1, 194, 0, 12, 0) := ⟨(show fMok fd_X12_thrown from fmo_X12_thrown), (show fPar fd_X12_thrown 0 by unfold fPar; decide +kernel), (fmj_7 40 rfl rfl), (fmj_7 41 rfl rfl), RX12, TX12, 66, rfl, (fmj_7 42 rfl rfl)⟩
set_option maxRecDepth 100000 in
theorem fe_L_70 : fLok RL 70 (1, 157, 2, 11, 0) := ⟨(show fMok fd_X11_week from fmo_X11_week), (show fPar fd_X11_week 2 by unfold fPar; decide +kernel), (fmj_4 174 rfl rfl), (fmj_4 175 rfl rfl), RX11, TX11, 15, rfl, (fmj_4 176 rfl rfl)⟩
set_option maxRecDepth 100000 in
theorem fe_L_73 : fLok RL 73 (1, 246, 2, 12, 0) := ⟨(show fMok fd_X12_week from fmo_X12_week), (show fPar fd_X12_week 2 by unfold fPar; decide +kernel), (fmj_8 219 rfl rfl), (fmj_8 220 rfl rfl), RX12, TX12, 66, rfl, (fmj_8 221 rfl rfl)⟩
set_option maxRecDepth 100000 in
theorem fe_L_74 : fLok RL 74 (1, 158, 2, 11, 0) := ⟨(show fMok fd_X11_beats from fmo_X11_beats), (show fPar fd_X11_beats 2 by unfold fPar; decide +kernel), (fmj_4 181 rfl rfl), (fmj_4 182 rfl rfl), RX11, TX11, 15, rfl, (fmj_4 183 rfl rfl)⟩
set_option maxRecDepth 100000 in
theorem fe_L_77 : fLok RL 77 (1, 249, 2, 12, 0) := ⟨(show fMok fd_X12_beats from fmo_X12_beats), (show fPar fd_X12_beats 2 by unfold fPar; decide +kernel), (fmj_8 223 rfl rfl), (fmj_8 224 rfl rfl), RX12, TX12, 66, rfl, (fmj_8 225 rfl rfl)⟩
set_option maxRecDepth 100000 in
theorem fe_L_78 : fLok RL 78 (1, 159, 1, 11, 0) := ⟨(show fMok fd_X11_wolf from fmo_X11_wolf), (show fPar fd_X11_wolf 1 by unfold fPar; decide +kernel), (fmj_4 200 rfl rfl), (fmj_4 201 rfl rfl), RX11, TX11, 15, rfl, (fmj_4 202 rfl rfl)⟩
set_option maxRecDepth 100000 in
theorem fe_L_81 : fLok RL 81 (1, 250, 1, 12, 0) := ⟨(show fMok fd_X12_wolf from fmo_X12_wolf), (show fPar fd_X12_wolf 1 by unfold fPar; decide +kernel), (fmj_8 238 rfl rfl), (fmj_8 239 rfl rfl), RX12, TX12, 66, rfl, (fmj_9 0 rfl rfl)⟩
set_option maxRecDepth 100000 in
theorem fe_L_82 : fLok RL 82 (2, 317, 6, 0, 0) := ⟨(show fMok fd_L_offset from fmo_L_offset), (show fPar fd_L_offset 6 by unfold fPar; decide +kernel), (fmj_6 216 rfl rfl), (fmj_6 217 rfl rfl)⟩
set_option maxRecDepth 100000 in
theorem fe_L_85 : fLok RL 85 (1, 259, 4, 12, 0) := ⟨(show fMok fd_X12_offset from fmo_X12_offset), (show fPar fd_X12_offset 4 by unfold fPar; decide +kernel), (fmj_9 2 rfl rfl), (fmj_9 3 rfl rfl), RX12, TX12, 66, rfl, (fmj_9 4 rfl rfl)⟩
set_option maxRecDepth 100000 in
theorem fe_L_86 : fLok RL 86 (1, 161, 3, 11, 0) := ⟨(show fMok fd_X11_off from fmo_X11_off), (show fPar fd_X11_off 3 by unfold fPar; decide +kernel), (fmj_4 209 rfl rfl), (fmj_4 210 rfl rfl), RX11, TX11, 15, rfl, (fmj_4 211 rfl rfl)⟩
set_option maxRecDepth 100000 in
theorem fe_L_89 : fLok RL 89 (1, 260, 3, 12, 0) := ⟨(show fMok fd_X12_off from fmo_X12_off), (show fPar fd_X12_off 3 by unfold fPar; decide +kernel), (fmj_9 40 rfl rfl), (fmj_9 41 rfl rfl), RX12, TX12, 66, rfl, (fmj_9 42 rfl rfl)⟩
set_option maxRecDepth 100000 in
theorem fe_L_90 : fLok RL 90 (1, 162, 4, 11, 0) := ⟨(show fMok fd_X11_due from fmo_X11_due), (show fPar fd_X11_due 4 by unfold fPar; decide +kernel), (fmj_5 36 rfl rfl), (fmj_5 37 rfl rfl), RX11, TX11, 15, rfl, (fmj_5 38 rfl rfl)⟩
set_option maxRecDepth 100000 in
theorem fe_L_93 : fLok RL 93 (1, 262, 4, 12, 0) := ⟨(show fMok fd_X12_due from fmo_X12_due), (show fPar fd_X12_due 4 by unfold fPar; decide +kernel), (fmj_9 48 rfl rfl), (fmj_9 49 rfl rfl), RX12, TX12, 66, rfl, (fmj_9 50 rfl rfl)⟩
set_option maxRecDepth 100000 in
theorem fe_L_94 : fLok RL 94 (1, 163, 2, 11, 0) := ⟨(show fMok fd_X11_slips from fmo_X11_slips), (show fPar fd_X11_slips 2 by unfold fPar; decide +kernel), (fmj_5 53 rfl rfl), (fmj_5 54 rfl rfl), RX11, TX11, 15, rfl, (fmj_5 55 rfl rfl)⟩
set_option maxRecDepth 100000 in
theorem fe_L_97 : fLok RL 97 (1, 269, 2, 12, 0) := ⟨(show fMok fd_X12_slips from fmo_X12_slips), (show fPar fd_X12_slips 2 by unfold fPar; decide +kernel), (fmj_9 68 rfl rfl), (fmj_9 69 rfl rfl), RX12, TX12, 66, rfl, (fmj_9 70 rfl rfl)⟩
set_option maxRecDepth 100000 in
theorem fe_L_98 : fLok RL 98 (2, 318, 3, 0, 0) := ⟨(show fMok fd_L_slipped from fmo_L_slipped), (show fPar fd_L_slipped 3 by unfold fPar; decide +kernel), (fmj_6 227 rfl rfl), (fmj_6 228 rfl rfl)⟩
set_option maxRecDepth 100000 in
theorem fe_L_101 : fLok RL 101 (1, 270, 1, 12, 0) := ⟨(show fMok fd_X12_slipped from fmo_X12_slipped), (show fPar fd_X12_slipped 1 by unfold fPar; decide +kernel), (fmj_9 83 rfl rfl), (fmj_9 84 rfl rfl), RX12, TX12, 66, rfl, (fmj_9 85 rfl rfl)⟩
set_option maxRecDepth 100000 in
theorem fe_L_102 : fLok RL 102 (2, 319, 4, 0, 0) := ⟨(show fMok fd_L_stove from fmo_L_stove), (show fPar fd_L_stove 4 by unfold fPar; decide +kernel), (fmj_6 234 rfl rfl), (fmj_6 235 rfl rfl)⟩
set_option maxRecDepth 100000 in
theorem fe_L_104 : fLok RL 104 (1, 271, 2, 12, 0) := ⟨(show fMok fd_X12_stove from fmo_X12_stove), (show fPar fd_X12_stove 2 by unfold fPar; decide +kernel), (fmj_9 87 rfl rfl), (fmj_9 88 rfl rfl), RX12, TX12, 66, rfl, (fmj_9 89 rfl rfl)⟩
set_option maxRecDepth 100000 in
theorem fe_L_105 : fLok RL 105 (2, 320, 6, 0, 0) := ⟨(show fMok fd_L_lean from fmo_L_lean), (show fPar fd_L_lean 6 by unfold fPar; decide +kernel), (fmj_7 12 rfl rfl), (fmj_7 13 rfl rfl)⟩
set_option maxRecDepth 100000 in
theorem fe_L_107 : fLok RL 107 (1, 272, 4, 12, 0) := ⟨(show fMok fd_X12_lean from fmo_X12_lean), (show fPar fd_X12_lean 4 by unfold fPar; decide +kernel), (fmj_9 91 rfl rfl), (fmj_9 92 rfl rfl), RX12, TX12, 66, rfl, (fmj_9 93 rfl rfl)⟩
set_option maxRecDepth 100000 in
theorem fe_L_108 : fLok RL 108 (1, 167, 1, 11, 0) := ⟨(show fMok fd_X11_batch from fmo_X11_batch), (show fPar fd_X11_batch 1 by unfold fPar; decide +kernel), (fmj_5 89 rfl rfl), (fmj_5 90 rfl rfl), RX11, TX11, 15, rfl, (fmj_5 91 rfl rfl)⟩
set_option maxRecDepth 100000 in
theorem fe_L_111 : fLok RL 111 (1, 273, 1, 12, 0) := ⟨(show fMok fd_X12_batch from fmo_X12_batch), (show fPar fd_X12_batch 1 by unfold fPar; decide +kernel), (fmj_9 99 rfl rfl), (fmj_9 100 rfl rfl), RX12, TX12, 66, rfl, (fmj_9 101 rfl rfl)⟩
set_option maxRecDepth 100000 in
theorem fe_L_112 : fLok RL 112 (1, 168, 2, 11, 0) := ⟨(show fMok fd_X11_cracked from fmo_X11_cracked), (show fPar fd_X11_cracked 2 by unfold fPar; decide +kernel), (fmj_5 102 rfl rfl), (fmj_5 103 rfl rfl), RX11, TX11, 15, rfl, (fmj_5 104 rfl rfl)⟩
set_option maxRecDepth 100000 in
theorem fe_L_115 : fLok RL 115 (1, 274, 2, 12, 0) := ⟨(show fMok fd_X12_cracked from fmo_X12_cracked), (show fPar fd_X12_cracked 2 by unfold fPar; decide +kernel), (fmj_9 103 rfl rfl), (fmj_9 104 rfl rfl), RX12, TX12, 66, rfl, (fmj_9 105 rfl rfl)⟩
set_option maxRecDepth 100000 in
theorem fe_L_116 : fLok RL 116 (1, 169, 2, 11, 0) := ⟨(show fMok fd_X11_weight from fmo_X11_weight), (show fPar fd_X11_weight 2 by unfold fPar; decide +kernel), (fmj_5 118 rfl rfl), (fmj_5 119 rfl rfl), RX11, TX11, 15, rfl, (fmj_5 120 rfl rfl)⟩
set_option maxRecDepth 100000 in
theorem fe_L_119 : fLok RL 119 (1, 278, 2, 12, 0) := ⟨(show fMok fd_X12_weight from fmo_X12_weight), (show fPar fd_X12_weight 2 by unfold fPar; decide +kernel), (fmj_9 111 rfl rfl), (fmj_9 112 rfl rfl), RX12, TX12, 66, rfl, (fmj_9 113 rfl rfl)⟩
set_option maxRecDepth 100000 in
theorem fe_L_120 : fLok RL 120 (1, 170, 2, 11, 0) := ⟨(show fMok fd_X11_round from fmo_X11_round), (show fPar fd_X11_round 2 by unfold fPar; decide +kernel), (fmj_5 133 rfl rfl), (fmj_5 134 rfl rfl), RX11, TX11, 15, rfl, (fmj_5 135 rfl rfl)⟩
set_option maxRecDepth 100000 in
theorem fe_L_123 : fLok RL 123 (1, 285, 2, 12, 0) := ⟨(show fMok fd_X12_round from fmo_X12_round), (show fPar fd_X12_round 2 by unfold fPar; decide +kernel), (fmj_9 127 rfl rfl), (fmj_9 128 rfl rfl), RX12, TX12, 66, rfl, (fmj_9 129 rfl rfl)⟩
set_option maxRecDepth 100000 in
theorem fe_L_124 : fLok RL 124 (1, 171, 1, 11, 0) := ⟨(show fMok fd_X11_roundAt from fmo_X11_roundAt), (show fPar fd_X11_roundAt 1 by unfold fPar; decide +kernel), (fmj_5 222 rfl rfl), (fmj_5 223 rfl rfl), RX11, TX11, 15, rfl, (fmj_5 224 rfl rfl)⟩
set_option maxRecDepth 100000 in
theorem fe_L_127 : fLok RL 127 (1, 286, 1, 12, 0) := ⟨(show fMok fd_X12_roundAt from fmo_X12_roundAt), (show fPar fd_X12_roundAt 1 by unfold fPar; decide +kernel), (fmj_9 160 rfl rfl), (fmj_9 161 rfl rfl), RX12, TX12, 66, rfl, (fmj_9 162 rfl rfl)⟩
set_option maxRecDepth 100000 in
theorem fe_L_128 : fLok RL 128 (1, 172, 0, 11, 0) := ⟨(show fMok fd_X11_home from fmo_X11_home), (show fPar fd_X11_home 0 by unfold fPar; decide +kernel), (fmj_5 226 rfl rfl), (fmj_5 227 rfl rfl), RX11, TX11, 15, rfl, (fmj_5 228 rfl rfl)⟩
set_option maxRecDepth 100000 in
theorem fe_L_131 : fLok RL 131 (1, 287, 0, 12, 0) := ⟨(show fMok fd_X12_home from fmo_X12_home), (show fPar fd_X12_home 0 by unfold fPar; decide +kernel), (fmj_9 164 rfl rfl), (fmj_9 165 rfl rfl), RX12, TX12, 66, rfl, (fmj_9 166 rfl rfl)⟩
set_option maxRecDepth 100000 in
theorem fe_L_132 : fLok RL 132 (1, 173, 2, 11, 0) := ⟨(show fMok fd_X11_walked from fmo_X11_walked), (show fPar fd_X11_walked 2 by unfold fPar; decide +kernel), (fmj_5 230 rfl rfl), (fmj_5 231 rfl rfl), RX11, TX11, 15, rfl, (fmj_5 232 rfl rfl)⟩
set_option maxRecDepth 100000 in
theorem fe_L_135 : fLok RL 135 (1, 288, 2, 12, 0) := ⟨(show fMok fd_X12_walked from fmo_X12_walked), (show fPar fd_X12_walked 2 by unfold fPar; decide +kernel), (fmj_9 168 rfl rfl), (fmj_9 169 rfl rfl), RX12, TX12, 66, rfl, (fmj_9 170 rfl rfl)⟩
set_option maxRecDepth 100000 in
theorem fe_L_136 : fLok RL 136 (1, 174, 3, 11, 0) := ⟨(show fMok fd_X11_two from fmo_X11_two), (show fPar fd_X11_two 3 by unfold fPar; decide +kernel), (fmj_5 238 rfl rfl), (fmj_5 239 rfl rfl), RX11, TX11, 15, rfl, (fmj_6 0 rfl rfl)⟩
set_option maxRecDepth 100000 in
theorem fe_L_139 : fLok RL 139 (1, 291, 3, 12, 0) := ⟨(show fMok fd_X12_two from fmo_X12_two), (show fPar fd_X12_two 3 by unfold fPar; decide +kernel), (fmj_9 172 rfl rfl), (fmj_9 173 rfl rfl), RX12, TX12, 66, rfl, (fmj_9 174 rfl rfl)⟩
set_option maxRecDepth 100000 in
theorem fe_L_140 : fLok RL 140 (1, 175, 1, 11, 0) := ⟨(show fMok fd_X11_festival from fmo_X11_festival), (show fPar fd_X11_festival 1 by unfold fPar; decide +kernel), (fmj_6 10 rfl rfl), (fmj_6 11 rfl rfl), RX11, TX11, 15, rfl, (fmj_6 12 rfl rfl)⟩
set_option maxRecDepth 100000 in
theorem fe_L_143 : fLok RL 143 (1, 293, 1, 12, 0) := ⟨(show fMok fd_X12_festival from fmo_X12_festival), (show fPar fd_X12_festival 1 by unfold fPar; decide +kernel), (fmj_9 184 rfl rfl), (fmj_9 185 rfl rfl), RX12, TX12, 66, rfl, (fmj_9 186 rfl rfl)⟩
set_option maxRecDepth 100000 in
theorem fe_L_144 : fLok RL 144 (1, 176, 2, 11, 0) := ⟨(show fMok fd_X11_unready from fmo_X11_unready), (show fPar fd_X11_unready 2 by unfold fPar; decide +kernel), (fmj_6 32 rfl rfl), (fmj_6 33 rfl rfl), RX11, TX11, 15, rfl, (fmj_6 34 rfl rfl)⟩
set_option maxRecDepth 100000 in
theorem fe_L_147 : fLok RL 147 (1, 294, 2, 12, 0) := ⟨(show fMok fd_X12_unready from fmo_X12_unready), (show fPar fd_X12_unready 2 by unfold fPar; decide +kernel), (fmj_9 191 rfl rfl), (fmj_9 192 rfl rfl), RX12, TX12, 66, rfl, (fmj_9 193 rfl rfl)⟩
set_option maxRecDepth 100000 in
theorem fe_L_148 : fLok RL 148 (1, 177, 3, 11, 0) := ⟨(show fMok fd_X11_whose from fmo_X11_whose), (show fPar fd_X11_whose 3 by unfold fPar; decide +kernel), (fmj_6 53 rfl rfl), (fmj_6 54 rfl rfl), RX11, TX11, 15, rfl, (fmj_6 55 rfl rfl)⟩
set_option maxRecDepth 100000 in
theorem fe_L_151 : fLok RL 151 (1, 295, 3, 12, 0) := ⟨(show fMok fd_X12_whose from fmo_X12_whose), (show fPar fd_X12_whose 3 by unfold fPar; decide +kernel), (fmj_9 195 rfl rfl), (fmj_9 196 rfl rfl), RX12, TX12, 66, rfl, (fmj_9 197 rfl rfl)⟩
set_option maxRecDepth 100000 in
theorem fe_L_152 : fLok RL 152 (1, 178, 2, 11, 0) := ⟨(show fMok fd_X11_fee from fmo_X11_fee), (show fPar fd_X11_fee 2 by unfold fPar; decide +kernel), (fmj_6 75 rfl rfl), (fmj_6 76 rfl rfl), RX11, TX11, 15, rfl, (fmj_6 77 rfl rfl)⟩
set_option maxRecDepth 100000 in
theorem fe_L_155 : fLok RL 155 (1, 298, 2, 12, 0) := ⟨(show fMok fd_X12_fee from fmo_X12_fee), (show fPar fd_X12_fee 2 by unfold fPar; decide +kernel), (fmj_9 203 rfl rfl), (fmj_9 204 rfl rfl), RX12, TX12, 66, rfl, (fmj_9 205 rfl rfl)⟩
set_option maxRecDepth 100000 in
theorem fe_L_156 : fLok RL 156 (2, 321, 5, 0, 0) := ⟨(show fMok fd_L_owed from fmo_L_owed), (show fPar fd_L_owed 5 by unfold fPar; decide +kernel), (fmj_7 23 rfl rfl), (fmj_7 24 rfl rfl)⟩
set_option maxRecDepth 100000 in
theorem fe_L_159 : fLok RL 159 (1, 300, 3, 12, 0) := ⟨(show fMok fd_X12_owed from fmo_X12_owed), (show fPar fd_X12_owed 3 by unfold fPar; decide +kernel), (fmj_9 207 rfl rfl), (fmj_9 208 rfl rfl), RX12, TX12, 66, rfl, (fmj_9 209 rfl rfl)⟩
set_option maxRecDepth 100000 in
theorem fe_L_160 : fLok RL 160 (1, 180, 3, 11, 0) := ⟨(show fMok fd_X11_free from fmo_X11_free), (show fPar fd_X11_free 3 by unfold fPar; decide +kernel), (fmj_6 83 rfl rfl), (fmj_6 84 rfl rfl), RX11, TX11, 15, rfl, (fmj_6 85 rfl rfl)⟩
set_option maxRecDepth 100000 in
theorem fe_L_163 : fLok RL 163 (1, 301, 3, 12, 0) := ⟨(show fMok fd_X12_free from fmo_X12_free), (show fPar fd_X12_free 3 by unfold fPar; decide +kernel), (fmj_9 215 rfl rfl), (fmj_9 216 rfl rfl), RX12, TX12, 66, rfl, (fmj_9 217 rfl rfl)⟩
set_option maxRecDepth 100000 in
theorem fe_L_164 : fLok RL 164 (1, 181, 3, 11, 0) := ⟨(show fMok fd_X11_tunings from fmo_X11_tunings), (show fPar fd_X11_tunings 3 by unfold fPar; decide +kernel), (fmj_6 96 rfl rfl), (fmj_6 97 rfl rfl), RX11, TX11, 15, rfl, (fmj_6 98 rfl rfl)⟩
set_option maxRecDepth 100000 in
theorem fe_L_167 : fLok RL 167 (1, 264, 3, 12, 0) := ⟨(show fMok fd_X12_tunings from fmo_X12_tunings), (show fPar fd_X12_tunings 3 by unfold fPar; decide +kernel), (fmj_9 52 rfl rfl), (fmj_9 53 rfl rfl), RX12, TX12, 66, rfl, (fmj_9 54 rfl rfl)⟩
set_option maxRecDepth 100000 in
theorem fe_L_168 : fLok RL 168 (1, 182, 3, 11, 0) := ⟨(show fMok fd_X11_past from fmo_X11_past), (show fPar fd_X11_past 3 by unfold fPar; decide +kernel), (fmj_6 105 rfl rfl), (fmj_6 106 rfl rfl), RX11, TX11, 15, rfl, (fmj_6 107 rfl rfl)⟩
set_option maxRecDepth 100000 in
theorem fe_L_171 : fLok RL 171 (1, 265, 3, 12, 0) := ⟨(show fMok fd_X12_past from fmo_X12_past), (show fPar fd_X12_past 3 by unfold fPar; decide +kernel), (fmj_9 60 rfl rfl), (fmj_9 61 rfl rfl), RX12, TX12, 66, rfl, (fmj_9 62 rfl rfl)⟩
set_option maxRecDepth 100000 in
theorem fe_L_172 : fLok RL 172 (1, 183, 1, 11, 0) := ⟨(show fMok fd_X11_bag from fmo_X11_bag), (show fPar fd_X11_bag 1 by unfold fPar; decide +kernel), (fmj_6 110 rfl rfl), (fmj_6 111 rfl rfl), RX11, TX11, 15, rfl, (fmj_6 112 rfl rfl)⟩
set_option maxRecDepth 100000 in
theorem fe_L_175 : fLok RL 175 (1, 303, 1, 12, 0) := ⟨(show fMok fd_X12_bag from fmo_X12_bag), (show fPar fd_X12_bag 1 by unfold fPar; decide +kernel), (fmj_9 219 rfl rfl), (fmj_9 220 rfl rfl), RX12, TX12, 66, rfl, (fmj_9 221 rfl rfl)⟩
set_option maxRecDepth 100000 in
theorem fe_L_176 : fLok RL 176 (1, 184, 0, 11, 0) := ⟨(show fMok fd_X11_chance from fmo_X11_chance), (show fPar fd_X11_chance 0 by unfold fPar; decide +kernel), (fmj_6 138 rfl rfl), (fmj_6 139 rfl rfl), RX11, TX11, 15, rfl, (fmj_6 140 rfl rfl)⟩
set_option maxRecDepth 100000 in
theorem fe_L_180 : fLok RL 180 (1, 304, 0, 12, 0) := ⟨(show fMok fd_X12_chance from fmo_X12_chance), (show fPar fd_X12_chance 0 by unfold fPar; decide +kernel), (fmj_9 230 rfl rfl), (fmj_9 231 rfl rfl), RX12, TX12, 66, rfl, (fmj_9 232 rfl rfl)⟩
set_option maxRecDepth 100000 in
theorem fe_L_181 : fLok RL 181 (1, 185, 0, 11, 0) := ⟨(show fMok fd_X11_pupils from fmo_X11_pupils), (show fPar fd_X11_pupils 0 by unfold fPar; decide +kernel), (fmj_6 142 rfl rfl), (fmj_6 143 rfl rfl), RX11, TX11, 15, rfl, (fmj_6 144 rfl rfl)⟩
set_option maxRecDepth 100000 in
theorem fe_L_184 : fLok RL 184 (1, 305, 0, 12, 0) := ⟨(show fMok fd_X12_pupils from fmo_X12_pupils), (show fPar fd_X12_pupils 0 by unfold fPar; decide +kernel), (fmj_9 234 rfl rfl), (fmj_9 235 rfl rfl), RX12, TX12, 66, rfl, (fmj_9 236 rfl rfl)⟩
set_option maxRecDepth 100000 in
theorem fe_L_185 : fLok RL 185 (1, 186, 1, 11, 0) := ⟨(show fMok fd_X11_pupilOf from fmo_X11_pupilOf), (show fPar fd_X11_pupilOf 1 by unfold fPar; decide +kernel), (fmj_6 168 rfl rfl), (fmj_6 169 rfl rfl), RX11, TX11, 15, rfl, (fmj_6 170 rfl rfl)⟩
set_option maxRecDepth 100000 in
theorem fe_L_188 : fLok RL 188 (1, 306, 1, 12, 0) := ⟨(show fMok fd_X12_pupilOf from fmo_X12_pupilOf), (show fPar fd_X12_pupilOf 1 by unfold fPar; decide +kernel), (fmj_9 238 rfl rfl), (fmj_9 239 rfl rfl), RX12, TX12, 66, rfl, (fmj_10 0 rfl rfl)⟩
set_option maxRecDepth 100000 in
theorem fe_L_189 : fLok RL 189 (1, 187, 1, 11, 0) := ⟨(show fMok fd_X11_image from fmo_X11_image), (show fPar fd_X11_image 1 by unfold fPar; decide +kernel), (fmj_6 172 rfl rfl), (fmj_6 173 rfl rfl), RX11, TX11, 15, rfl, (fmj_6 174 rfl rfl)⟩
set_option maxRecDepth 100000 in
theorem fe_L_192 : fLok RL 192 (1, 307, 1, 12, 0) := ⟨(show fMok fd_X12_image from fmo_X12_image), (show fPar fd_X12_image 1 by unfold fPar; decide +kernel), (fmj_10 2 rfl rfl), (fmj_10 3 rfl rfl), RX12, TX12, 66, rfl, (fmj_10 4 rfl rfl)⟩
set_option maxRecDepth 100000 in
theorem fe_L_193 : fLok RL 193 (1, 188, 1, 11, 0) := ⟨(show fMok fd_X11_restore from fmo_X11_restore), (show fPar fd_X11_restore 1 by unfold fPar; decide +kernel), (fmj_6 181 rfl rfl), (fmj_6 182 rfl rfl), RX11, TX11, 15, rfl, (fmj_6 183 rfl rfl)⟩
set_option maxRecDepth 100000 in
theorem fe_L_196 : fLok RL 196 (1, 308, 1, 12, 0) := ⟨(show fMok fd_X12_restore from fmo_X12_restore), (show fPar fd_X12_restore 1 by unfold fPar; decide +kernel), (fmj_10 6 rfl rfl), (fmj_10 7 rfl rfl), RX12, TX12, 66, rfl, (fmj_10 8 rfl rfl)⟩
set_option maxRecDepth 100000 in
theorem fe_L_197 : fLok RL 197 (1, 189, 1, 11, 0) := ⟨(show fMok fd_X11_count from fmo_X11_count), (show fPar fd_X11_count 1 by unfold fPar; decide +kernel), (fmj_6 185 rfl rfl), (fmj_6 186 rfl rfl), RX11, TX11, 15, rfl, (fmj_6 187 rfl rfl)⟩
set_option maxRecDepth 100000 in
theorem fe_L_200 : fLok RL 200 (1, 309, 1, 12, 0) := ⟨(show fMok fd_X12_count from fmo_X12_count), (show fPar fd_X12_count 1 by unfold fPar; decide +kernel), (fmj_10 10 rfl rfl), (fmj_10 11 rfl rfl), RX12, TX12, 66, rfl, (fmj_10 12 rfl rfl)⟩
set_option maxRecDepth 100000 in
theorem fek_L : ∀ q ∈ fk_L, fLok RL q.1 q.2 := List.forall_mem_cons.mpr ⟨fe_L_7, List.forall_mem_cons.mpr ⟨fe_L_8, List.forall_mem_cons.mpr ⟨fe_L_15, List.forall_mem_cons.mpr ⟨fe_L_19, List.forall_mem_cons.mpr ⟨fe_L_23, List.forall_mem_cons.mpr ⟨fe_L_27, List.forall_mem_cons.mpr ⟨fe_L_30, List.forall_mem_cons.mpr ⟨fe_L_34, List.forall_mem_cons.mpr ⟨fe_L_35, List.forall_mem_cons.mpr ⟨fe_L_37, List.forall_mem_cons.mpr ⟨fe_L_38, List.forall_mem_cons.mpr ⟨fe_L_42, List.forall_mem_cons.mpr ⟨fe_L_43, List.forall_mem_cons.mpr ⟨fe_L_47, List.forall_mem_cons.mpr ⟨fe_L_48, List.forall_mem_cons.mpr ⟨fe_L_52, List.forall_mem_cons.mpr ⟨fe_L_53, List.forall_mem_cons.mpr ⟨fe_L_56, List.forall_mem_cons.mpr ⟨fe_L_57, List.forall_mem_cons.mpr ⟨fe_L_60, List.forall_mem_cons.mpr ⟨fe_L_61, List.forall_mem_cons.mpr ⟨fe_L_66, List.forall_mem_cons.mpr ⟨fe_L_67, List.forall_mem_cons.mpr ⟨fe_L_70, List.forall_mem_cons.mpr ⟨fe_L_73, List.forall_mem_cons.mpr ⟨fe_L_74, List.forall_mem_cons.mpr ⟨fe_L_77, List.forall_mem_cons.mpr ⟨fe_L_78, List.forall_mem_cons.mpr ⟨fe_L_81, List.forall_mem_cons.mpr ⟨fe_L_82, List.forall_mem_cons.mpr ⟨fe_L_85, List.forall_mem_cons.mpr ⟨fe_L_86, List.forall_mem_cons.mpr ⟨fe_L_89, List.forall_mem_cons.mpr ⟨fe_L_90, List.forall_mem_cons.mpr ⟨fe_L_93, List.forall_mem_cons.mpr ⟨fe_L_94, List.forall_mem_cons.mpr ⟨fe_L_97, List.forall_mem_cons.mpr ⟨fe_L_98, List.forall_mem_cons.mpr ⟨fe_L_101, List.forall_mem_cons.mpr ⟨fe_L_102, List.forall_mem_cons.mpr ⟨fe_L_104, List.forall_mem_cons.mpr ⟨fe_L_105, List.forall_mem_cons.mpr ⟨fe_L_107, List.forall_mem_cons.mpr ⟨fe_L_108, List.forall_mem_cons.mpr ⟨fe_L_111, List.forall_mem_cons.mpr ⟨fe_L_112, List.forall_mem_cons.mpr ⟨fe_L_115, List.forall_mem_cons.mpr ⟨fe_L_116, List.forall_mem_cons.mpr ⟨fe_L_119, List.forall_mem_cons.mpr ⟨fe_L_120, List.forall_mem_cons.mpr ⟨fe_L_123, List.forall_mem_cons.mpr ⟨fe_L_124, List.forall_mem_cons.mpr ⟨fe_L_127, List.forall_mem_cons.mpr ⟨fe_L_128, List.forall_mem_cons.mpr ⟨fe_L_131, List.forall_mem_cons.mpr ⟨fe_L_132, List.forall_mem_cons.mpr ⟨fe_L_135, List.forall_mem_cons.mpr ⟨fe_L_136, List.forall_mem_cons.mpr ⟨fe_L_139, List.forall_mem_cons.mpr ⟨fe_L_140, List.forall_mem_cons.mpr ⟨fe_L_143, List.forall_mem_cons.mpr ⟨fe_L_144, List.forall_mem_cons.mpr ⟨fe_L_147, List.forall_mem_cons.mpr ⟨fe_L_148, List.forall_mem_cons.mpr ⟨fe_L_151, List.forall_mem_cons.mpr ⟨fe_L_152, List.forall_mem_cons.mpr ⟨fe_L_155, List.forall_mem_cons.mpr ⟨fe_L_156, List.forall_mem_cons.mpr ⟨fe_L_159, List.forall_mem_cons.mpr ⟨fe_L_160, List.forall_mem_cons.mpr ⟨fe_L_163, List.forall_mem_cons.mpr ⟨fe_L_164, List.forall_mem_cons.mpr ⟨fe_L_167, List.forall_mem_cons.mpr ⟨fe_L_168, List.forall_mem_cons.mpr ⟨fe_L_171, List.forall_mem_cons.mpr ⟨fe_L_172, List.forall_mem_cons.mpr ⟨fe_L_175, List.forall_mem_cons.mpr ⟨fe_L_176, List.forall_mem_cons.mpr ⟨fe_L_180, List.forall_mem_cons.mpr ⟨fe_L_181, List.forall_mem_cons.mpr ⟨fe_L_184, List.forall_mem_cons.mpr ⟨fe_L_185, List.forall_mem_cons.mpr ⟨fe_L_188, List.forall_mem_cons.mpr ⟨fe_L_189, List.forall_mem_cons.mpr ⟨fe_L_192, List.forall_mem_cons.mpr ⟨fe_L_193, List.forall_mem_cons.mpr ⟨fe_L_196, List.forall_mem_cons.mpr ⟨fe_L_197, List.forall_mem_cons.mpr ⟨fe_L_200, fun _ h => absurd h List.not_mem_nil⟩⟩⟩⟩⟩⟩⟩⟩⟩⟩⟩⟩⟩⟩⟩⟩⟩⟩⟩⟩⟩⟩⟩⟩⟩⟩⟩⟩⟩⟩⟩⟩⟩⟩⟩⟩⟩⟩⟩⟩⟩⟩⟩⟩⟩⟩⟩⟩⟩⟩⟩⟩⟩⟩⟩⟩⟩⟩⟩⟩⟩⟩⟩⟩⟩⟩⟩⟩⟩⟩⟩⟩⟩⟩⟩⟩⟩⟩⟩⟩⟩⟩⟩⟩⟩⟩⟩⟩⟩
