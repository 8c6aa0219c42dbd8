set_option maxRecDepth 100000 in
set_option maxHeartbeats 4000000 in
theorem fch_X12_isKnown : fchk fd_X12_isKnown = true := by decide +kernel
set_option maxRecDepth 100000 in
theorem fg_X12_isKnown : fMg fd_X12_isKnown ∧ fHok fd_X12_isKnown := ⟨fMg_of (own := RX12) fch_X12_isKnown rfl rfl fek_X12, fHok_0 rfl⟩
set_option maxRecDepth 100000 in
set_option maxHeartbeats 4000000 in
theorem fch_X12_of : fchk fd_X12_of = true := by decide +kernel
set_option maxRecDepth 100000 in
theorem fg_X12_of : fMg fd_X12_of ∧ fHok fd_X12_of := ⟨fMg_of (own := RX12) fch_X12_of rfl rfl fek_X12, fHok_0 rfl⟩
set_option maxRecDepth 100000 in
set_option maxHeartbeats 4000000 in
theorem fch_X12_piano : fchk fd_X12_piano = true := by decide +kernel
set_option maxRecDepth 100000 in
theorem fg_X12_piano : fMg fd_X12_piano ∧ fHok fd_X12_piano := ⟨fMg_of (own := RX12) fch_X12_piano rfl rfl fek_X12, fHok_0 rfl⟩
set_option maxRecDepth 100000 in
set_option maxHeartbeats 4000000 in
theorem fch_X12_week : fchk fd_X12_week = true := by decide +kernel
set_option maxRecDepth 100000 in
theorem fg_X12_week : fMg fd_X12_week ∧ fHok fd_X12_week := ⟨fMg_of (own := RX12) fch_X12_week rfl rfl fek_X12, fHok_0 rfl⟩
set_option maxRecDepth 100000 in
set_option maxHeartbeats 4000000 in
theorem fch_X12_pitch : fchk fd_X12_pitch = true := by decide +kernel
set_option maxRecDepth 100000 in
theorem fg_X12_pitch : fMg fd_X12_pitch ∧ fHok fd_X12_pitch := ⟨fMg_of (own := RX12) fch_X12_pitch rfl rfl fek_X12, fHok_0 rfl⟩
set_option maxRecDepth 100000 in
set_option maxHeartbeats 4000000 in
theorem fch_X12_beatsOf : fchk fd_X12_beatsOf = true := by decide +kernel
set_option maxRecDepth 100000 in
theorem fg_X12_beatsOf : fMg fd_X12_beatsOf ∧ fHok fd_X12_beatsOf := ⟨fMg_of (own := RX12) fch_X12_beatsOf rfl rfl fek_X12, fHok_0 rfl⟩
set_option maxRecDepth 100000 in
set_option maxHeartbeats 4000000 in
theorem fch_X12_beats : fchk fd_X12_beats = true := by decide +kernel
set_option maxRecDepth 100000 in
theorem fg_X12_beats : fMg fd_X12_beats ∧ fHok fd_X12_beats := ⟨fMg_of (own := RX12) fch_X12_beats rfl rfl fek_X12, fHok_0 rfl⟩
set_option maxRecDepth 100000 in
set_option maxHeartbeats 4000000 in
theorem fch_X12_wolf : fchk fd_X12_wolf = true := by decide +kernel
set_option maxRecDepth 100000 in
theorem fg_X12_wolf : fMg fd_X12_wolf ∧ fHok fd_X12_wolf := ⟨fMg_of (own := RX12) fch_X12_wolf rfl rfl fek_X12, fHok_0 rfl⟩
set_option maxRecDepth 100000 in
set_option maxHeartbeats 4000000 in
theorem fch_X12_isOf : fchk fd_X12_isOf = true := by decide +kernel
set_option maxRecDepth 100000 in
theorem fg_X12_isOf : fMg fd_X12_isOf ∧ fHok fd_X12_isOf := ⟨fMg_of (own := RX12) fch_X12_isOf rfl rfl fek_X12, fHok_0 rfl⟩
set_option maxRecDepth 100000 in
set_option maxHeartbeats 4000000 in
theorem fch_X12_latest : fchk fd_X12_latest = true := by decide +kernel
set_option maxRecDepth 100000 in
theorem fg_X12_latest : fMg fd_X12_latest ∧ fHok fd_X12_latest := ⟨fMg_of (own := RX12) fch_X12_latest rfl rfl fek_X12, fHok_0 rfl⟩
set_option maxRecDepth 100000 in
set_option maxHeartbeats 4000000 in
theorem fch_X12_course : fchk fd_X12_course = true := by decide +kernel
set_option maxRecDepth 100000 in
theorem fg_X12_course : fMg fd_X12_course ∧ fHok fd_X12_course := ⟨fMg_of (own := RX12) fch_X12_course rfl rfl fek_X12, fHok_0 rfl⟩
set_option maxRecDepth 100000 in
set_option maxHeartbeats 4000000 in
theorem fch_X12_tune : fchk fd_X12_tune = true := by decide +kernel
set_option maxRecDepth 100000 in
theorem fg_X12_tune : fMg fd_X12_tune ∧ fHok fd_X12_tune := ⟨fMg_of (own := RX12) fch_X12_tune rfl rfl fek_X12, fHok_0 rfl⟩
set_option maxRecDepth 100000 in
set_option maxHeartbeats 4000000 in
theorem fch_X12_pass : fchk fd_X12_pass = true := by decide +kernel
set_option maxRecDepth 100000 in
theorem fg_X12_pass : fMg fd_X12_pass ∧ fHok fd_X12_pass := ⟨fMg_of (own := RX12) fch_X12_pass rfl rfl fek_X12, fHok_0 rfl⟩
set_option maxRecDepth 100000 in
set_option maxHeartbeats 4000000 in
theorem fch_X12_passTo : fchk fd_X12_passTo = true := by decide +kernel
set_option maxRecDepth 100000 in
theorem fg_X12_passTo : fMg fd_X12_passTo ∧ fHok fd_X12_passTo := ⟨fMg_of (own := RX12) fch_X12_passTo rfl rfl fek_X12, fHok_0 rfl⟩
set_option maxRecDepth 100000 in
set_option maxHeartbeats 4000000 in
theorem fch_X12_offsetOf : fchk fd_X12_offsetOf = true := by decide +kernel
set_option maxRecDepth 100000 in
theorem fg_X12_offsetOf : fMg fd_X12_offsetOf ∧ fHok fd_X12_offsetOf := ⟨fMg_of (own := RX12) fch_X12_offsetOf rfl rfl fek_X12, fHok_0 rfl⟩
set_option maxRecDepth 100000 in
set_option maxHeartbeats 4000000 in
theorem fch_X12_offOf : fchk fd_X12_offOf = true := by decide +kernel
set_option maxRecDepth 100000 in
theorem fg_X12_offOf : fMg fd_X12_offOf ∧ fHok fd_X12_offOf := ⟨fMg_of (own := RX12) fch_X12_offOf rfl rfl fek_X12, fHok_0 rfl⟩
set_option maxRecDepth 100000 in
set_option maxHeartbeats 4000000 in
theorem fch_X12_offset : fchk fd_X12_offset = true := by decide +kernel
set_option maxRecDepth 100000 in
theorem fg_X12_offset : fMg fd_X12_offset ∧ fHok fd_X12_offset := ⟨fMg_of (own := RX12) fch_X12_offset rfl rfl fek_X12, fHok_0 rfl⟩
set_option maxRecDepth 100000 in
set_option maxHeartbeats 4000000 in
theorem fch_X12_off : fchk fd_X12_off = true := by decide +kernel
set_option maxRecDepth 100000 in
theorem fg_X12_off : fMg fd_X12_off ∧ fHok fd_X12_off := ⟨fMg_of (own := RX12) fch_X12_off rfl rfl fek_X12, fHok_0 rfl⟩
set_option maxRecDepth 100000 in
set_option maxHeartbeats 4000000 in
theorem fch_X12_isBeyond : fchk fd_X12_isBeyond = true := by decide +kernel
set_option maxRecDepth 100000 in
theorem fg_X12_isBeyond : fMg fd_X12_isBeyond ∧ fHok fd_X12_isBeyond := ⟨fMg_of (own := RX12) fch_X12_isBeyond rfl rfl fek_X12, fHok_0 rfl⟩
set_option maxRecDepth 100000 in
set_option maxHeartbeats 4000000 in
theorem fch_X12_due : fchk fd_X12_due = true := by decide +kernel
set_option maxRecDepth 100000 in
theorem fg_X12_due : fMg fd_X12_due ∧ fHok fd_X12_due := ⟨fMg_of (own := RX12) fch_X12_due rfl rfl fek_X12, fHok_0 rfl⟩
set_option maxRecDepth 100000 in
set_option maxHeartbeats 4000000 in
theorem fch_X12_tuningsOf : fchk fd_X12_tuningsOf = true := by decide +kernel
set_option maxRecDepth 100000 in
theorem fg_X12_tuningsOf : fMg fd_X12_tuningsOf ∧ fHok fd_X12_tuningsOf := ⟨fMg_of (own := RX12) fch_X12_tuningsOf rfl rfl fek_X12, fHok_0 rfl⟩
set_option maxRecDepth 100000 in
set_option maxHeartbeats 4000000 in
theorem fch_X12_tunings : fchk fd_X12_tunings = true := by decide +kernel
set_option maxRecDepth 100000 in
theorem fg_X12_tunings : fMg fd_X12_tunings ∧ fHok fd_X12_tunings := ⟨fMg_of (own := RX12) fch_X12_tunings rfl rfl fek_X12, fHok_0 rfl⟩
set_option maxRecDepth 100000 in
set_option maxHeartbeats 4000000 in
theorem fch_X12_past : fchk fd_X12_past = true := by decide +kernel
set_option maxRecDepth 100000 in
theorem fg_X12_past : fMg fd_X12_past ∧ fHok fd_X12_past := ⟨fMg_of (own := RX12) fch_X12_past rfl rfl fek_X12, fHok_0 rfl⟩
set_option maxRecDepth 100000 in
set_option maxHeartbeats 4000000 in
theorem fch_X12_pairs : fchk fd_X12_pairs = true := by decide +kernel
set_option maxRecDepth 100000 in
theorem fg_X12_pairs : fMg fd_X12_pairs ∧ fHok fd_X12_pairs := ⟨fMg_of (own := RX12) fch_X12_pairs rfl rfl fek_X12, fHok_0 rfl⟩
set_option maxRecDepth 100000 in
set_option maxHeartbeats 4000000 in
theorem fch_X12_noPairs : fchk fd_X12_noPairs = true := by decide +kernel
set_option maxRecDepth 100000 in
theorem fg_X12_noPairs : fMg fd_X12_noPairs ∧ fHok fd_X12_noPairs := ⟨fMg_of (own := RX12) fch_X12_noPairs rfl rfl fek_X12, fHok_0 rfl⟩
set_option maxRecDepth 100000 in
set_option maxHeartbeats 4000000 in
theorem fch_X12_common : fchk fd_X12_common = true := by decide +kernel
set_option maxRecDepth 100000 in
theorem fg_X12_common : fMg fd_X12_common ∧ fHok fd_X12_common := ⟨fMg_of (own := RX12) fch_X12_common rfl rfl fek_X12, fHok_0 rfl⟩
set_option maxRecDepth 100000 in
set_option maxHeartbeats 4000000 in
theorem fch_X12_slips : fchk fd_X12_slips = true := by decide +kernel
set_option maxRecDepth 100000 in
theorem fg_X12_slips : fMg fd_X12_slips ∧ fHok fd_X12_slips := ⟨fMg_of (own := RX12) fch_X12_slips rfl rfl fek_X12, fHok_0 rfl⟩
set_option maxRecDepth 100000 in
set_option maxHeartbeats 4000000 in
theorem fch_X12_slipped : fchk fd_X12_slipped = true := by decide +kernel
set_option maxRecDepth 100000 in
theorem fg_X12_slipped : fMg fd_X12_slipped ∧ fHok fd_X12_slipped := ⟨fMg_of (own := RX12) fch_X12_slipped rfl rfl fek_X12, fHok_0 rfl⟩
set_option maxRecDepth 100000 in
set_option maxHeartbeats 4000000 in
theorem fch_X12_stove : fchk fd_X12_stove = true := by decide +kernel
set_option maxRecDepth 100000 in
theorem fg_X12_stove : fMg fd_X12_stove ∧ fHok fd_X12_stove := ⟨fMg_of (own := RX12) fch_X12_stove rfl rfl fek_X12, fHok_0 rfl⟩
set_option maxRecDepth 100000 in
set_option maxHeartbeats 4000000 in
theorem fch_X12_lean : fchk fd_X12_lean = true := by decide +kernel
set_option maxRecDepth 100000 in
theorem fg_X12_lean : fMg fd_X12_lean ∧ fHok fd_X12_lean := ⟨fMg_of (own := RX12) fch_X12_lean rfl rfl fek_X12, fHok_0 rfl⟩
set_option maxRecDepth 100000 in
set_option maxHeartbeats 4000000 in
theorem fch_X12_batch : fchk fd_X12_batch = true := by decide +kernel
set_option maxRecDepth 100000 in
theorem fg_X12_batch : fMg fd_X12_batch ∧ fHok fd_X12_batch := ⟨fMg_of (own := RX12) fch_X12_batch rfl rfl fek_X12, fHok_0 rfl⟩
set_option maxRecDepth 100000 in
set_option maxHeartbeats 4000000 in
theorem fch_X12_cracked : fchk fd_X12_cracked = true := by decide +kernel
set_option maxRecDepth 100000 in
theorem fg_X12_cracked : fMg fd_X12_cracked ∧ fHok fd_X12_cracked := ⟨fMg_of (own := RX12) fch_X12_cracked rfl rfl fek_X12, fHok_0 rfl⟩
set_option maxRecDepth 100000 in
set_option maxHeartbeats 4000000 in
theorem fch_X12_cracks : fchk fd_X12_cracks = true := by decide +kernel
set_option maxRecDepth 100000 in
theorem fg_X12_cracks : fMg fd_X12_cracks ∧ fHok fd_X12_cracks := ⟨fMg_of (own := RX12) fch_X12_cracks rfl rfl fek_X12, fHok_0 rfl⟩
set_option maxRecDepth 100000 in
set_option maxHeartbeats 4000000 in
theorem fch_X12_isTunedIn : fchk fd_X12_isTunedIn = true := by decide +kernel
set_option maxRecDepth 100000 in
theorem fg_X12_isTunedIn : fMg fd_X12_isTunedIn ∧ fHok fd_X12_isTunedIn := ⟨fMg_of (own := RX12) fch_X12_isTunedIn rfl rfl fek_X12, fHok_0 rfl⟩
set_option maxRecDepth 100000 in
set_option maxHeartbeats 4000000 in
theorem fch_X12_weightOf : fchk fd_X12_weightOf = true := by decide +kernel
set_option maxRecDepth 100000 in
theorem fg_X12_weightOf : fMg fd_X12_weightOf ∧ fHok fd_X12_weightOf := ⟨fMg_of (own := RX12) fch_X12_weightOf rfl rfl fek_X12, fHok_0 rfl⟩
set_option maxRecDepth 100000 in
set_option maxHeartbeats 4000000 in
theorem fch_X12_weight : fchk fd_X12_weight = true := by decide +kernel
set_option maxRecDepth 100000 in
theorem fg_X12_weight : fMg fd_X12_weight ∧ fHok fd_X12_weight := ⟨fMg_of (own := RX12) fch_X12_weight rfl rfl fek_X12, fHok_0 rfl⟩
set_option maxRecDepth 100000 in
set_option maxHeartbeats 4000000 in
theorem fch_X12_tells : fchk fd_X12_tells = true := by decide +kernel
set_option maxRecDepth 100000 in
theorem fg_X12_tells : fMg fd_X12_tells ∧ fHok fd_X12_tells := ⟨fMg_of (own := RX12) fch_X12_tells rfl rfl fek_X12, fHok_0 rfl⟩
set_option maxRecDepth 100000 in
set_option maxHeartbeats 4000000 in
theorem fch_X12_live : fchk fd_X12_live = true := by decide +kernel
set_option maxRecDepth 100000 in
theorem fg_X12_live : fMg fd_X12_live ∧ fHok fd_X12_live := ⟨fMg_of (own := RX12) fch_X12_live rfl rfl fek_X12, fHok_0 rfl⟩
set_option maxRecDepth 100000 in
set_option maxHeartbeats 4000000 in
theorem fch_X12_way : fchk fd_X12_way = true := by decide +kernel
set_option maxRecDepth 100000 in
theorem fg_X12_way : fMg fd_X12_way ∧ fHok fd_X12_way := ⟨fMg_of (own := RX12) fch_X12_way rfl rfl fek_X12, fHok_0 rfl⟩
set_option maxRecDepth 100000 in
set_option maxHeartbeats 4000000 in
theorem fch_X12_done : fchk fd_X12_done = true := by decide +kernel
set_option maxRecDepth 100000 in
theorem fg_X12_done : fMg fd_X12_done ∧ fHok fd_X12_done := ⟨fMg_of (own := RX12) fch_X12_done rfl rfl fek_X12, fHok_0 rfl⟩
set_option maxRecDepth 100000 in
set_option maxHeartbeats 4000000 in
theorem fch_X12_orders : fchk fd_X12_orders = true := by decide +kernel
set_option maxRecDepth 100000 in
theorem fg_X12_orders : fMg fd_X12_orders ∧ fHok fd_X12_orders := ⟨fMg_of (own := RX12) fch_X12_orders rfl rfl fek_X12, fHok_0 rfl⟩
set_option maxRecDepth 100000 in
set_option maxHeartbeats 4000000 in
theorem fch_X12_consider : fchk fd_X12_consider = true := by decide +kernel
set_option maxRecDepth 100000 in
theorem fg_X12_consider : fMg fd_X12_consider ∧ fHok fd_X12_consider := ⟨fMg_of (own := RX12) fch_X12_consider rfl rfl fek_X12, fHok_0 rfl⟩
set_option maxRecDepth 100000 in
set_option maxHeartbeats 4000000 in
theorem fch_X12_round : fchk fd_X12_round = true := by decide +kernel
set_option maxRecDepth 100000 in
theorem fg_X12_round : fMg fd_X12_round ∧ fHok fd_X12_round := ⟨fMg_of (own := RX12) fch_X12_round rfl rfl fek_X12, fHok_0 rfl⟩
set_option maxRecDepth 100000 in
set_option maxHeartbeats 4000000 in
theorem fch_X12_roundAt : fchk fd_X12_roundAt = true := by decide +kernel
set_option maxRecDepth 100000 in
theorem fg_X12_roundAt : fMg fd_X12_roundAt ∧ fHok fd_X12_roundAt := ⟨fMg_of (own := RX12) fch_X12_roundAt rfl rfl fek_X12, fHok_0 rfl⟩
set_option maxRecDepth 100000 in
set_option maxHeartbeats 4000000 in
theorem fch_X12_home : fchk fd_X12_home = true := by decide +kernel
set_option maxRecDepth 100000 in
theorem fg_X12_home : fMg fd_X12_home ∧ fHok fd_X12_home := ⟨fMg_of (own := RX12) fch_X12_home rfl rfl fek_X12, fHok_0 rfl⟩
set_option maxRecDepth 100000 in
set_option maxHeartbeats 4000000 in
theorem fch_X12_walked : fchk fd_X12_walked = true := by decide +kernel
set_option maxRecDepth 100000 in
theorem fg_X12_walked : fMg fd_X12_walked ∧ fHok fd_X12_walked := ⟨fMg_of (own := RX12) fch_X12_walked rfl rfl fek_X12, fHok_0 rfl⟩
set_option maxRecDepth 100000 in
set_option maxHeartbeats 4000000 in
theorem fch_X12_sets : fchk fd_X12_sets = true := by decide +kernel
set_option maxRecDepth 100000 in
theorem fg_X12_sets : fMg fd_X12_sets ∧ fHok fd_X12_sets := ⟨fMg_of (own := RX12) fch_X12_sets rfl rfl fek_X12, fHok_0 rfl⟩
set_option maxRecDepth 100000 in
set_option maxHeartbeats 4000000 in
theorem fch_X12_sumOf : fchk fd_X12_sumOf = true := by decide +kernel
set_option maxRecDepth 100000 in
theorem fg_X12_sumOf : fMg fd_X12_sumOf ∧ fHok fd_X12_sumOf := ⟨fMg_of (own := RX12) fch_X12_sumOf rfl rfl fek_X12, fHok_0 rfl⟩
set_option maxRecDepth 100000 in
set_option maxHeartbeats 4000000 in
theorem fch_X12_two : fchk fd_X12_two = true := by decide +kernel
set_option maxRecDepth 100000 in
theorem fg_X12_two : fMg fd_X12_two ∧ fHok fd_X12_two := ⟨fMg_of (own := RX12) fch_X12_two rfl rfl fek_X12, fHok_0 rfl⟩
set_option maxRecDepth 100000 in
set_option maxHeartbeats 4000000 in
theorem fch_X12_bits : fchk fd_X12_bits = true := by decide +kernel
set_option maxRecDepth 100000 in
theorem fg_X12_bits : fMg fd_X12_bits ∧ fHok fd_X12_bits := ⟨fMg_of (own := RX12) fch_X12_bits rfl rfl fek_X12, fHok_0 rfl⟩
set_option maxRecDepth 100000 in
set_option maxHeartbeats 4000000 in
theorem fch_X12_festival : fchk fd_X12_festival = true := by decide +kernel
set_option maxRecDepth 100000 in
theorem fg_X12_festival : fMg fd_X12_festival ∧ fHok fd_X12_festival := ⟨fMg_of (own := RX12) fch_X12_festival rfl rfl fek_X12, fHok_0 rfl⟩
set_option maxRecDepth 100000 in
set_option maxHeartbeats 4000000 in
theorem fch_X12_unready : fchk fd_X12_unready = true := by decide +kernel
set_option maxRecDepth 100000 in
theorem fg_X12_unready : fMg fd_X12_unready ∧ fHok fd_X12_unready := ⟨fMg_of (own := RX12) fch_X12_unready rfl rfl fek_X12, fHok_0 rfl⟩
set_option maxRecDepth 100000 in
set_option maxHeartbeats 4000000 in
theorem fch_X12_whose : fchk fd_X12_whose = true := by decide +kernel
set_option maxRecDepth 100000 in
theorem fg_X12_whose : fMg fd_X12_whose ∧ fHok fd_X12_whose := ⟨fMg_of (own := RX12) fch_X12_whose rfl rfl fek_X12, fHok_0 rfl⟩
set_option maxRecDepth 100000 in
set_option maxHeartbeats 4000000 in
theorem fch_X12_blame : fchk fd_X12_blame = true := by decide +kernel
set_option maxRecDepth 100000 in
theorem fg_X12_blame : fMg fd_X12_blame ∧ fHok fd_X12_blame := ⟨fMg_of (own := RX12) fch_X12_blame rfl rfl fek_X12, fHok_0 rfl⟩
set_option maxRecDepth 100000 in
set_option maxHeartbeats 4000000 in
theorem fch_X12_feeOf : fchk fd_X12_feeOf = true := by decide +kernel
set_option maxRecDepth 100000 in
theorem fg_X12_feeOf : fMg fd_X12_feeOf ∧ fHok fd_X12_feeOf := ⟨fMg_of (own := RX12) fch_X12_feeOf rfl rfl fek_X12, fHok_0 rfl⟩
set_option maxRecDepth 100000 in
set_option maxHeartbeats 4000000 in
theorem fch_X12_fee : fchk fd_X12_fee = true := by decide +kernel
set_option maxRecDepth 100000 in
theorem fg_X12_fee : fMg fd_X12_fee ∧ fHok fd_X12_fee := ⟨fMg_of (own := RX12) fch_X12_fee rfl rfl fek_X12, fHok_0 rfl⟩
set_option maxRecDepth 100000 in
set_option maxHeartbeats 4000000 in
theorem fch_X12_isFree : fchk fd_X12_isFree = true := by decide +kernel
set_option maxRecDepth 100000 in
theorem fg_X12_isFree : fMg fd_X12_isFree ∧ fHok fd_X12_isFree := ⟨fMg_of (own := RX12) fch_X12_isFree rfl rfl fek_X12, fHok_0 rfl⟩
set_option maxRecDepth 100000 in
set_option maxHeartbeats 4000000 in
theorem fch_X12_owed : fchk fd_X12_owed = true := by decide +kernel
set_option maxRecDepth 100000 in
theorem fg_X12_owed : fMg fd_X12_owed ∧ fHok fd_X12_owed := ⟨fMg_of (own := RX12) fch_X12_owed rfl rfl fek_X12, fHok_0 rfl⟩
set_option maxRecDepth 100000 in
set_option maxHeartbeats 4000000 in
theorem fch_X12_free : fchk fd_X12_free = true := by decide +kernel
set_option maxRecDepth 100000 in
theorem fg_X12_free : fMg fd_X12_free ∧ fHok fd_X12_free := ⟨fMg_of (own := RX12) fch_X12_free rfl rfl fek_X12, fHok_0 rfl⟩
set_option maxRecDepth 100000 in
set_option maxHeartbeats 4000000 in
theorem fch_X12_part : fchk fd_X12_part = true := by decide +kernel
set_option maxRecDepth 100000 in
theorem fg_X12_part : fMg fd_X12_part ∧ fHok fd_X12_part := ⟨fMg_of (own := RX12) fch_X12_part rfl rfl fek_X12, fHok_0 rfl⟩
set_option maxRecDepth 100000 in
set_option maxHeartbeats 4000000 in
theorem fch_X12_bag : fchk fd_X12_bag = true := by decide +kernel
set_option maxRecDepth 100000 in
theorem fg_X12_bag : fMg fd_X12_bag ∧ fHok fd_X12_bag := ⟨fMg_of (own := RX12) fch_X12_bag rfl rfl fek_X12, fHok_0 rfl⟩
set_option maxRecDepth 100000 in
set_option maxHeartbeats 4000000 in
theorem fch_X12_chance : fchk fd_X12_chance = true := by decide +kernel
set_option maxRecDepth 100000 in
theorem fg_X12_chance : fMg fd_X12_chance ∧ fHok fd_X12_chance := ⟨fMg_of (own := RX12) fch_X12_chance rfl rfl fek_X12, fHok_0 rfl⟩
set_option maxRecDepth 100000 in
set_option maxHeartbeats 4000000 in
theorem fch_X12_pupils : fchk fd_X12_pupils = true := by decide +kernel
set_option maxRecDepth 100000 in
theorem fg_X12_pupils : fMg fd_X12_pupils ∧ fHok fd_X12_pupils := ⟨fMg_of (own := RX12) fch_X12_pupils rfl rfl fek_X12, fHok_0 rfl⟩
set_option maxRecDepth 100000 in
set_option maxHeartbeats 4000000 in
theorem fch_X12_pupilOf : fchk fd_X12_pupilOf = true := by decide +kernel
set_option maxRecDepth 100000 in
theorem fg_X12_pupilOf : fMg fd_X12_pupilOf ∧ fHok fd_X12_pupilOf := ⟨fMg_of (own := RX12) fch_X12_pupilOf rfl rfl fek_X12, fHok_0 rfl⟩
set_option maxRecDepth 100000 in
set_option maxHeartbeats 4000000 in
theorem fch_X12_image : fchk fd_X12_image = true := by decide +kernel
set_option maxRecDepth 100000 in
theorem fg_X12_image : fMg fd_X12_image ∧ fHok fd_X12_image := ⟨fMg_of (own := RX12) fch_X12_image rfl rfl fek_X12, fHok_0 rfl⟩
set_option maxRecDepth 100000 in
set_option maxHeartbeats 4000000 in
theorem fch_X12_restore : fchk fd_X12_restore = true := by decide +kernel
set_option maxRecDepth 100000 in
theorem fg_X12_restore : fMg fd_X12_restore ∧ fHok fd_X12_restore := ⟨fMg_of (own := RX12) fch_X12_restore rfl rfl fek_X12, fHok_0 rfl⟩
set_option maxRecDepth 100000 in
set_option maxHeartbeats 4000000 in
theorem fch_X12_count : fchk fd_X12_count = true := by decide +kernel
set_option maxRecDepth 100000 in
theorem fg_X12_count : fMg fd_X12_count ∧ fHok fd_X12_count := ⟨fMg_of (own := RX12) fch_X12_count rfl rfl fek_X12, fHok_0 rfl⟩
set_option maxRecDepth 100000 in
set_option maxHeartbeats 4000000 in
theorem fch_J6_bitCount_0f7a4 : fchk fd_J6_bitCount_0f7a4 = true := by decide +kernel
set_option maxRecDepth 100000 in
theorem fg_J6_bitCount_0f7a4 : fMg fd_J6_bitCount_0f7a4 ∧ fHok fd_J6_bitCount_0f7a4 := ⟨fMg_of (own := RJ6) fch_J6_bitCount_0f7a4 rfl rfl fek_J6, fHok_0 rfl⟩
set_option maxRecDepth 100000 in
set_option maxHeartbeats 4000000 in
theorem fch_J9_abs_0f7a4 : fchk fd_J9_abs_0f7a4 = true := by decide +kernel
set_option maxRecDepth 100000 in
theorem fg_J9_abs_0f7a4 : fMg fd_J9_abs_0f7a4 ∧ fHok fd_J9_abs_0f7a4 := ⟨fMg_of (own := RJ9) fch_J9_abs_0f7a4 rfl rfl fek_J9, fHok_0 rfl⟩
set_option maxRecDepth 100000 in
set_option maxHeartbeats 4000000 in
theorem fch_J9_abs_067f4 : fchk fd_J9_abs_067f4 = true := by decide +kernel
set_option maxRecDepth 100000 in
theorem fg_J9_abs_067f4 : fMg fd_J9_abs_067f4 ∧ fHok fd_J9_abs_067f4 := ⟨fMg_of (own := RJ9) fch_J9_abs_067f4 rfl rfl fek_J9, fHok_0 rfl⟩
set_option maxRecDepth 100000 in
set_option maxHeartbeats 4000000 in
theorem fch_J9_max_7cf53 : fchk fd_J9_max_7cf53 = true := by decide +kernel
set_option maxRecDepth 100000 in
theorem fg_J9_max_7cf53 : fMg fd_J9_max_7cf53 ∧ fHok fd_J9_max_7cf53 := ⟨fMg_of (own := RJ9) fch_J9_max_7cf53 rfl rfl fek_J9, fHok_0 rfl⟩
set_option maxRecDepth 100000 in
set_option maxHeartbeats 4000000 in
theorem fch_J9_min_7cf53 : fchk fd_J9_min_7cf53 = true := by decide +kernel
set_option maxRecDepth 100000 in
theorem fg_J9_min_7cf53 : fMg fd_J9_min_7cf53 ∧ fHok fd_J9_min_7cf53 := ⟨fMg_of (own := RJ9) fch_J9_min_7cf53 rfl rfl fek_J9, fHok_0 rfl⟩
set_option maxRecDepth 100000 in
set_option maxHeartbeats 4000000 in
theorem fch_J7_fill_53178 : fchk fd_J7_fill_53178 = true := by decide +kernel
set_option maxRecDepth 100000 in
theorem fg_J7_fill_53178 : fMg fd_J7_fill_53178 ∧ fHok fd_J7_fill_53178 := ⟨fMg_of (own := RJ7) fch_J7_fill_53178 rfl rfl fek_J7, fHok_0 rfl⟩
set_option maxRecDepth 100000 in
set_option maxHeartbeats 4000000 in
theorem fch_L_piano : fchk fd_L_piano = true := by decide +kernel
set_option maxRecDepth 100000 in
theorem fg_L_piano : fMg fd_L_piano ∧ fHok fd_L_piano := ⟨fMg_of (own := RL) fch_L_piano rfl rfl fek_L, fHok_1 rfl (by decide) ((fmj_6 196 rfl rfl))⟩
set_option maxRecDepth 100000 in
set_option maxHeartbeats 4000000 in
theorem fch_L_offset : fchk fd_L_offset = true := by decide +kernel
set_option maxRecDepth 100000 in
theorem fg_L_offset : fMg fd_L_offset ∧ fHok fd_L_offset := ⟨fMg_of (own := RL) fch_L_offset rfl rfl fek_L, fHok_1 rfl (by decide) ((fmj_6 196 rfl rfl))⟩
set_option maxRecDepth 100000 in
set_option maxHeartbeats 4000000 in
theorem fch_L_slipped : fchk fd_L_slipped = true := by decide +kernel
set_option maxRecDepth 100000 in
theorem fg_L_slipped : fMg fd_L_slipped ∧ fHok fd_L_slipped := ⟨fMg_of (own := RL) fch_L_slipped rfl rfl fek_L, fHok_1 rfl (by decide) ((fmj_6 196 rfl rfl))⟩
set_option maxRecDepth 100000 in
set_option maxHeartbeats 4000000 in
theorem fch_L_stove : fchk fd_L_stove = true := by decide +kernel
set_option maxRecDepth 100000 in
theorem fg_L_stove : fMg fd_L_stove ∧ fHok fd_L_stove := ⟨fMg_of (own := RL) fch_L_stove rfl rfl fek_L, fHok_1 rfl (by decide) ((fmj_6 196 rfl rfl))⟩
set_option maxRecDepth 100000 in
set_option maxHeartbeats 4000000 in
theorem fch_L_lean : fchk fd_L_lean = true := by decide +kernel
set_option maxRecDepth 100000 in
theorem fg_L_lean : fMg fd_L_lean ∧ fHok fd_L_lean := ⟨fMg_of (own := RL) fch_L_lean rfl rfl fek_L, fHok_1 rfl (by decide) ((fmj_6 196 rfl rfl))⟩
set_option maxRecDepth 100000 in
set_option maxHeartbeats 4000000 in
theorem fch_L_owed : fchk fd_L_owed = true := by decide +kernel
set_option maxRecDepth 100000 in
theorem fg_L_owed : fMg fd_L_owed ∧ fHok fd_L_owed := ⟨fMg_of (own := RL) fch_L_owed rfl rfl fek_L, fHok_1 rfl (by decide) ((fmj_6 196 rfl rfl))⟩
