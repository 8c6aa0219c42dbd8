set_option maxRecDepth 100000 in
set_option maxHeartbeats 4000000 in
theorem fch_X12_isKnown : fchk fd_X12_isKnown = true := by decide +kernel
set_option maxRecDepth 100000 in
theorem fg_X12_isKnown : fMg fd_X12_isKnown ∧ fHok fd_X12_isKnown := ⟨fMg_of (own := RX12) fch_X12_isKnown rfl rfl fek_X12, fHok_0 rfl⟩
set_option maxRecDepth 100000 in
set_option maxHeartbeats 4000000 in
theorem fch_X12_of : fchk fd_X12_of = true := by decide +kernel
set_option maxRecDepth 100000 in
theorem fg_X12_of : fMg fd_X12_of ∧ fHok fd_X12_of := ⟨fMg_of (own := RX12) fch_X12_of rfl rfl fek_X12, fHok_0 rfl⟩
set_option maxRecDepth 100000 in
set_option maxHeartbeats 4000000 in
theorem fch_X12_piano : fchk fd_X12_piano = true := by decide +kernel
set_option maxRecDepth 100000 in
theorem fg_X12_piano : fMg fd_X12_piano ∧ fHok fd_X12_piano := ⟨fMg_of (own := RX12) fch_X12_piano rfl rfl fek_X12, fHok_0 rfl⟩
set_option maxRecDepth 100000 in
set_option maxHeartbeats 4000000 in
theorem fch_X12_week : fchk fd_X12_week = true := by decide +kernel
set_option maxRecDepth 100000 in
theorem fg_X12_week : fMg fd_X12_week ∧ fHok fd_X12_week := ⟨fMg_of (own := RX12) fch_X12_week rfl rfl fek_X12, fHok_0 rfl⟩
set_option maxRecDepth 100000 in
set_option maxHeartbeats 4000000 in
theorem fch_X12_pitch : fchk fd_X12_pitch = true := by decide +kernel
set_option maxRecDepth 100000 in
theorem fg_X12_pitch : fMg fd_X12_pitch ∧ fHok fd_X12_pitch := ⟨fMg_of (own := RX12) fch_X12_pitch rfl rfl fek_X12, fHok_0 rfl⟩
set_option maxRecDepth 100000 in
set_option maxHeartbeats 4000000 in
theorem fch_X12_beatsOf : fchk fd_X12_beatsOf = true := by decide +kernel
set_option maxRecDepth 100000 in
theorem fg_X12_beatsOf : fMg fd_X12_beatsOf ∧ fHok fd_X12_beatsOf := ⟨fMg_of (own := RX12) fch_X12_beatsOf rfl rfl fek_X12, fHok_0 rfl⟩
set_option maxRecDepth 100000 in
set_option maxHeartbeats 4000000 in
theorem fch_X12_beats : fchk fd_X12_beats = true := by decide +kernel
set_option maxRecDepth 100000 in
theorem fg_X12_beats : fMg fd_X12_beats ∧ fHok fd_X12_beats := ⟨fMg_of (own := RX12) fch_X12_beats rfl rfl fek_X12, fHok_0 rfl⟩
set_option maxRecDepth 100000 in
set_option maxHeartbeats 4000000 in
theorem fch_X12_wolf : fchk fd_X12_wolf = true := by decide +kernel
set_option maxRecDepth 100000 in
theorem fg_X12_wolf : fMg fd_X12_wolf ∧ fHok fd_X12_wolf := ⟨fMg_of (own := RX12) fch_X12_wolf rfl rfl fek_X12, fHok_0 rfl⟩
set_option maxRecDepth 100000 in
set_option maxHeartbeats 4000000 in
theorem fch_X12_isOf : fchk fd_X12_isOf = true := by decide +kernel
set_option maxRecDepth 100000 in
theorem fg_X12_isOf : fMg fd_X12_isOf ∧ fHok fd_X12_isOf := ⟨fMg_of (own := RX12) fch_X12_isOf rfl rfl fek_X12, fHok_0 rfl⟩
set_option maxRecDepth 100000 in
set_option maxHeartbeats 4000000 in
theorem fch_X12_latest : fchk fd_X12_latest = true := by decide +kernel
set_option maxRecDepth 100000 in
theorem fg_X12_latest : fMg fd_X12_latest ∧ fHok fd_X12_latest := ⟨fMg_of (own := RX12) fch_X12_latest rfl rfl fek_X12, fHok_0 rfl⟩
set_option maxRecDepth 100000 in
set_option maxHeartbeats 4000000 in
theorem fch_X12_course : fchk fd_X12_course = true := by decide +kernel
set_option maxRecDepth 100000 in
theorem fg_X12_course : fMg fd_X12_course ∧ fHok fd_X12_course := ⟨fMg_of (own := RX12) fch_X12_course rfl rfl fek_X12, fHok_0 rfl⟩
set_option maxRecDepth 100000 in
set_option maxHeartbeats 4000000 in
theorem fch_X12_tune : fchk fd_X12_tune = true := by decide +kernel
set_option maxRecDepth 100000 in
theorem fg_X12_tune : fMg fd_X12_tune ∧ fHok fd_X12_tune := ⟨fMg_of (own := RX12) fch_X12_tune rfl rfl fek_X12, fHok_0 rfl⟩
set_option maxRecDepth 100000 in
set_option maxHeartbeats 4000000 in
theorem fch_X12_pass : fchk fd_X12_pass = true := by decide +kernel
set_option maxRecDepth 100000 in
theorem fg_X12_pass : fMg fd_X12_pass ∧ fHok fd_X12_pass := ⟨fMg_of (own := RX12) fch_X12_pass rfl rfl fek_X12, fHok_0 rfl⟩
set_option maxRecDepth 100000 in
set_option maxHeartbeats 4000000 in
theorem fch_X12_passTo : fchk fd_X12_passTo = true := by decide +kernel
set_option maxRecDepth 100000 in
theorem fg_X12_passTo : fMg fd_X12_passTo ∧ fHok fd_X12_passTo := ⟨fMg_of (own := RX12) fch_X12_passTo rfl rfl fek_X12, fHok_0 rfl⟩
set_option maxRecDepth 100000 in
set_option maxHeartbeats 4000000 in
theorem fch_X12_offsetOf : fchk fd_X12_offsetOf = true := by decide +kernel
set_option maxRecDepth 100000 in
theorem fg_X12_offsetOf : fMg fd_X12_offsetOf ∧ fHok fd_X12_offsetOf := ⟨fMg_of (own := RX12) fch_X12_offsetOf rfl rfl fek_X12, fHok_0 rfl⟩
set_option maxRecDepth 100000 in
set_option maxHeartbeats 4000000 in
theorem fch_X12_offOf : fchk fd_X12_offOf = true := by decide +kernel
set_option maxRecDepth 100000 in
theorem fg_X12_offOf : fMg fd_X12_offOf ∧ fHok fd_X12_offOf := ⟨fMg_of (own := RX12) fch_X12_offOf rfl rfl fek_X12, fHok_0 rfl⟩
set_option maxRecDepth 100000 in
set_option maxHeartbeats 4000000 in
theorem fch_X12_offset : fchk fd_X12_offset = true := by decide +kernel
set_option maxRecDepth 100000 in
theorem fg_X12_offset : fMg fd_X12_offset ∧ fHok fd_X12_offset := ⟨fMg_of (own := RX12) fch_X12_offset rfl rfl fek_X12, fHok_0 rfl⟩
set_option maxRecDepth 100000 in
set_option maxHeartbeats 4000000 in
theorem fch_X12_off : fchk fd_X12_off = true := by decide +kernel
set_option maxRecDepth 100000 in
theorem fg_X12_off : fMg fd_X12_off ∧ fHok fd_X12_off := ⟨fMg_of (own := RX12) fch_X12_off rfl rfl fek_X12, fHok_0 rfl⟩
set_option maxRecDepth 100000 in
set_option maxHeartbeats 4000000 in
theorem fch_X12_isBeyond : fchk fd_X12_isBeyond = true := by decide +kernel
set_option maxRecDepth 100000 in
theorem fg_X12_isBeyond : fMg fd_X12_isBeyond ∧ fHok fd_X12_isBeyond := ⟨fMg_of (own := RX12) fch_X12_isBeyond rfl rfl fek_X12, fHok_0 rfl⟩
set_option maxRecDepth 100000 in
set_option maxHeartbeats 4000000 in
theorem fch_X12_due : fchk fd_X12_due = true := by decide +kernel
set_option maxRecDepth 100000 in
theorem fg_X12_due : fMg fd_X12_due ∧ fHok fd_X12_due := ⟨fMg_of (own := RX12) fch_X12_due rfl rfl fek_X12, fHok_0 rfl⟩
set_option maxRecDepth 100000 in
set_option maxHeartbeats 4000000 in
theorem fch_X12_tuningsOf : fchk fd_X12_tuningsOf = true := by decide +kernel
set_option maxRecDepth 100000 in
theorem fg_X12_tuningsOf : fMg fd_X12_tuningsOf ∧ fHok fd_X12_tuningsOf := ⟨fMg_of (own := RX12) fch_X12_tuningsOf rfl rfl fek_X12, fHok_0 rfl⟩
set_option maxRecDepth 100000 in
set_option maxHeartbeats 4000000 in
theorem fch_X12_tunings : fchk fd_X12_tunings = true := by decide +kernel
set_option maxRecDepth 100000 in
theorem fg_X12_tunings : fMg fd_X12_tunings ∧ fHok fd_X12_tunings := ⟨fMg_of (own := RX12) fch_X12_tunings rfl rfl fek_X12, fHok_0 rfl⟩
set_option maxRecDepth 100000 in
set_option maxHeartbeats 4000000 in
theorem fch_X12_past : fchk fd_X12_past = true := by decide +kernel
set_option maxRecDepth 100000 in
theorem fg_X12_past : fMg fd_X12_past ∧ fHok fd_X12_past := ⟨fMg_of (own := RX12) fch_X12_past rfl rfl fek_X12, fHok_0 rfl⟩
set_option maxRecDepth 100000 in
set_option maxHeartbeats 4000000 in
theorem fch_X12_pairs : fchk fd_X12_pairs = true := by decide +kernel
set_option maxRecDepth 100000 in
theorem fg_X12_pairs : fMg fd_X12_pairs ∧ fHok fd_X12_pairs := ⟨fMg_of (own := RX12) fch_X12_pairs rfl rfl fek_X12, fHok_0 rfl⟩
set_option maxRecDepth 100000 in
set_option maxHeartbeats 4000000 in
theorem fch_X12_noPairs : fchk fd_X12_noPairs = true := by decide +kernel
set_option maxRecDepth 100000 in
theorem fg_X12_noPairs : fMg fd_X12_noPairs ∧ fHok fd_X12_noPairs := ⟨fMg_of (own := RX12) fch_X12_noPairs rfl rfl fek_X12, fHok_0 rfl⟩
set_option maxRecDepth 100000 in
set_option maxHeartbeats 4000000 in
theorem fch_X12_common : fchk fd_X12_common = true := by decide +kernel
set_option maxRecDepth 100000 in
theorem fg_X12_common : fMg fd_X12_common ∧ fHok fd_X12_common := ⟨fMg_of (own := RX12) fch_X12_common rfl rfl fek_X12, fHok_0 rfl⟩
set_option maxRecDepth 100000 in
set_option maxHeartbeats 4000000 in
theorem fch_X12_slips : fchk fd_X12_slips = true := by decide +kernel
set_option maxRecDepth 100000 in
theorem fg_X12_slips : fMg fd_X12_slips ∧ fHok fd_X12_slips := ⟨fMg_of (own := RX12) fch_X12_slips rfl rfl fek_X12, fHok_0 rfl⟩
set_option maxRecDepth 100000 in
set_option maxHeartbeats 4000000 in
theorem fch_X12_slipped : fchk fd_X12_slipped = true := by decide +kernel
set_option maxRecDepth 100000 in
theorem fg_X12_slipped : fMg fd_X12_slipped ∧ fHok fd_X12_slipped := ⟨fMg_of (own := RX12) fch_X12_slipped rfl rfl fek_X12, fHok_0 rfl⟩
set_option maxRecDepth 100000 in
set_option maxHeartbeats 4000000 in
theorem fch_X12_stove : fchk fd_X12_stove = true := by decide +kernel
set_option maxRecDepth 100000 in
theorem fg_X12_stove : fMg fd_X12_stove ∧ fHok fd_X12_stove := ⟨fMg_of (own := RX12) fch_X12_stove rfl rfl fek_X12, fHok_0 rfl⟩
set_option maxRecDepth 100000 in
set_option maxHeartbeats 4000000 in
theorem fch_X12_lean : fchk fd_X12_lean = true := by decide +kernel
set_option maxRecDepth 100000 in
theorem fg_X12_lean : fMg fd_X12_lean ∧ fHok fd_X12_lean := ⟨fMg_of (own := RX12) fch_X12_lean rfl rfl fek_X12, fHok_0 rfl⟩
set_option maxRecDepth 100000 in
set_option maxHeartbeats 4000000 in
theorem fch_X12_batch : fchk fd_X12_batch = true := by decide +kernel
set_option maxRecDepth 100000 in
theorem fg_X12_batch : fMg fd_X12_batch ∧ fHok fd_X12_batch := ⟨fMg_of (own := RX12) fch_X12_batch rfl rfl fek_X12, fHok_0 rfl⟩
set_option maxRecDepth 100000 in
set_option maxHeartbeats 4000000 in
theorem fch_X12_cracked : fchk fd_X12_cracked = true := by decide +kernel
set_option maxRecDepth 100000 in
theorem fg_X12_cracked : fMg fd_X12_cracked ∧ fHok fd_X12_cracked := ⟨fMg_of (own := RX12) fch_X12_cracked rfl rfl fek_X12, fHok_0 rfl⟩
set_option maxRecDepth 100000 in
set_option maxHeartbeats 4000000 in
theorem fch_X12_cracks : fchk fd_X12_cracks = true := by decide +kernel
set_option maxRecDepth 100000 in
theorem fg_X12_cracks : fMg fd_X12_cracks ∧ fHok fd_X12_cracks := ⟨fMg_of (own := RX12) fch_X12_cracks rfl rfl fek_X12, fHok_0 rfl⟩
set_option maxRecDepth 100000 in
set_option maxHeartbeats 4000000 in
theorem fch_X12_isTunedIn : fchk fd_X12_isTunedIn = true := by decide +kernel
set_option maxRecDepth 100000 in
theorem fg_X12_isTunedIn : fMg fd_X12_isTunedIn ∧ fHok fd_X12_isTunedIn := ⟨fMg_of (own := RX12) fch_X12_isTunedIn rfl rfl fek_X12, fHok_0 rfl⟩
set_option maxRecDepth 100000 in
set_option maxHeartbeats 4000000 in
theorem fch_X12_weightOf : fchk fd_X12_weightOf = true := by decide +kernel
set_option maxRecDepth 100000 in
theorem fg_X12_weightOf : fMg fd_X12_weightOf ∧ fHok fd_X12_weightOf := ⟨fMg_of (own := RX12) fch_X12_weightOf rfl rfl fek_X12, fHok_0 rfl⟩
set_option maxRecDepth 100000 in
set_option maxHeartbeats 4000000 in
theorem fch_X12_weight : fchk fd_X12_weight = true := by decide +kernel
set_option maxRecDepth 100000 in
theorem fg_X12_weight : fMg fd_X12_weight ∧ fHok fd_X12_weight := ⟨fMg_of (own := RX12) fch_X12_weight rfl rfl fek_X12, fHok_0 rfl⟩
set_option maxRecDepth 100000 in
set_option maxHeartbeats 4000000 in
theorem fch_X12_tells : fchk fd_X12_tells = true := by decide +kernel
set_option maxRecDepth 100000 in
theorem fg_X12_tells : fMg fd_X12_tells ∧ fHok fd_X12_tells := ⟨fMg_of (own := RX12) fch_X12_tells rfl rfl fek_X12, fHok_0 rfl⟩
set_option maxRecDepth 100000 in
set_option maxHeartbeats 4000000 in
theorem fch_X12_live : fchk fd_X12_live = true := by decide +kernel
set_option maxRecDepth 100000 in
theorem fg_X12_live : fMg fd_X12_live ∧ fHok fd_X12_live := ⟨fMg_of (own := RX12) fch_X12_live rfl rfl fek_X12, fHok_0 rfl⟩
set_option maxRecDepth 100000 in
set_option maxHeartbeats 4000000 in
theorem fch_X12_way : fchk fd_X12_way = true := by decide +kernel
set_option maxRecDepth 100000 in
theorem fg_X12_way : fMg fd_X12_way ∧ fHok fd_X12_way := ⟨fMg_of (own := RX12) fch_X12_way rfl rfl fek_X12, fHok_0 rfl⟩
set_option maxRecDepth 100000 in
set_option maxHeartbeats 4000000 in
theorem fch_X12_done : fchk fd_X12_done = true := by decide +kernel
set_option maxRecDepth 100000 in
theorem fg_X12_done : fMg fd_X12_done ∧ fHok fd_X12_done := ⟨fMg_of (own := RX12) fch_X12_done rfl rfl fek_X12, fHok_0 rfl⟩
set_option maxRecDepth 100000 in
set_option maxHeartbeats 4000000 in
theorem fch_X12_orders : fchk fd_X12_orders = true := by decide +kernel
set_option maxRecDepth 100000 in
theorem fg_X12_orders : fMg fd_X12_orders ∧ fHok fd_X12_orders := ⟨fMg_of (own := RX12) fch_X12_orders rfl rfl fek_X12, fHok_0 rfl⟩
set_option maxRecDepth 100000 in
set_option maxHeartbeats 4000000 in
theorem fch_X12_consider : fchk fd_X12_consider = true := by decide +kernel
set_option maxRecDepth 100000 in
theorem fg_X12_consider : fMg fd_X12_consider ∧ fHok fd_X12_consider := ⟨fMg_of (own := RX12) fch_X12_consider rfl rfl fek_X12, fHok_0 rfl⟩
set_option maxRecDepth 100000 in
set_option maxHeartbeats 4000000 in
theorem fch_X12_round : fchk fd_X12_round = true := by decide +kernel
set_option maxRecDepth 100000 in
theorem fg_X12_round : fMg fd_X12_round ∧ fHok fd_X12_round := ⟨fMg_of (own := RX12) fch_X12_round rfl rfl fek_X12, fHok_0 rfl⟩
set_option maxRecDepth 100000 in
set_option maxHeartbeats 4000000 in
theorem fch_X12_roundAt : fchk fd_X12_roundAt = true := by decide +kernel
set_option maxRecDepth 100000 in
theorem fg_X12_roundAt : fMg fd_X12_roundAt ∧ fHok fd_X12_roundAt := ⟨fMg_of (own := RX12) fch_X12_roundAt rfl rfl fek_X12, fHok_0 rfl⟩
set_option maxRecDepth 100000 in
set_option maxHeartbeats 4000000 in
theorem fch_X12_home : fchk fd_X12_home = true := by decide +kernel
set_option maxRecDepth 100000 in
theorem fg_X12_home : fMg fd_X12_home ∧ fHok fd_X12_home := ⟨fMg_of (own := RX12) fch_X12_home rfl rfl fek_X12, fHok_0 rfl⟩
set_option maxRecDepth 100000 in
set_option maxHeartbeats 4000000 in
theorem fch_X12_walked : fchk fd_X12_walked = true := by decide +kernel
set_option maxRecDepth 100000 in
theorem fg_X12_walked : fMg fd_X12_walked ∧ fHok fd_X12_walked := ⟨fMg_of (own := RX12) fch_X12_walked rfl rfl fek_X12, fHok_0 rfl⟩
set_option maxRecDepth 100000 in
set_option maxHeartbeats 4000000 in
theorem fch_X12_sets : fchk fd_X12_sets = true := by decide +kernel
set_option maxRecDepth 100000 in
theorem fg_X12_sets : fMg fd_X12_sets ∧ fHok fd_X12_sets := ⟨fMg_of (own := RX12) fch_X12_sets rfl rfl fek_X12, fHok_0 rfl⟩
set_option maxRecDepth 100000 in
set_option maxHeartbeats 4000000 in
theorem fch_X12_sumOf : fchk fd_X12_sumOf = true := by decide +kernel
set_option maxRecDepth 100000 in
theorem fg_X12_sumOf : fMg fd_X12_sumOf ∧ fHok fd_X12_sumOf := ⟨fMg_of (own := RX12) fch_X12_sumOf rfl rfl fek_X12, fHok_0 rfl⟩
set_option maxRecDepth 100000 in
set_option maxHeartbeats 4000000 in
theorem fch_X12_two : fchk fd_X12_two = true := by decide +kernel
set_option maxRecDepth 100000 in
theorem fg_X12_two : fMg fd_X12_two ∧ fHok fd_X12_two := ⟨fMg_of (own := RX12) fch_X12_two rfl rfl fek_X12, fHok_0 rfl⟩
set_option maxRecDepth 100000 in
set_option maxHeartbeats 4000000 in
theorem fch_X12_bits : fchk fd_X12_bits = true := by decide +kernel
set_option maxRecDepth 100000 in
theorem fg_X12_bits : fMg fd_X12_bits ∧ fHok fd_X12_bits := ⟨fMg_of (own := RX12) fch_X12_bits rfl rfl fek_X12, fHok_0 rfl⟩
set_option maxRecDepth 100000 in
set_option maxHeartbeats 4000000 in
theorem fch_X12_festival : fchk fd_X12_festival = true := by decide +kernel
set_option maxRecDepth 100000 in
theorem fg_X12_festival : fMg fd_X12_festival ∧ fHok fd_X12_festival := ⟨fMg_of (own := RX12) fch_X12_festival rfl rfl fek_X12, fHok_0 rfl⟩
set_option maxRecDepth 100000 in
set_option maxHeartbeats 4000000 in
theorem fch_X12_unready : fchk fd_X12_unready = true := by decide +kernel
set_option maxRecDepth 100000 in
theorem fg_X12_unready : fMg fd_X12_unready ∧ fHok fd_X12_unready := ⟨fMg_of (own := RX12) fch_X12_unready rfl rfl fek_X12, fHok_0 rfl⟩
set_option maxRecDepth 100000 in
set_option maxHeartbeats 4000000 in
theorem fch_X12_whose : fchk fd_X12_whose = true := by decide +kernel
set_option maxRecDepth 100000 in
theorem fg_X12_whose : fMg fd_X12_whose ∧ fHok fd_X12_whose := ⟨fMg_of (own := RX12) fch_X12_whose rfl rfl fek_X12, fHok_0 rfl⟩
set_option maxRecDepth 100000 in
set_option maxHeartbeats 4000000 in
theorem fch_X12_blame : fchk fd_X12_blame = true := by decide +kernel
set_option maxRecDepth 100000 in
theorem fg_X12_blame : fMg fd_X12_blame ∧ fHok fd_X12_blame := ⟨fMg_of (own := RX12) fch_X12_blame rfl rfl fek_X12, fHok_0 rfl⟩
set_option maxRecDepth 100000 in
set_option maxHeartbeats 4000000 in
theorem fch_X12_feeOf : fchk fd_X12_feeOf = true := by decide +kernel
set_option maxRecDepth 100000 in
theorem fg_X12_feeOf : fMg fd_X12_feeOf ∧ fHok fd_X12_feeOf := ⟨fMg_of (own := RX12) fch_X12_feeOf rfl rfl fek_X12, fHok_0 rfl⟩
set_option maxRecDepth 100000 in
set_option maxHeartbeats 4000000 in
theorem fch_X12_fee : fchk fd_X12_fee = true := by decide +kernel
set_option maxRecDepth 100000 in
theorem fg_X12_fee : fMg fd_X12_fee ∧ fHok fd_X12_fee := ⟨fMg_of (own := RX12) fch_X12_fee rfl rfl fek_X12, fHok_0 rfl⟩
set_option maxRecDepth 100000 in
set_option maxHeartbeats 4000000 in
theorem fch_X12_isFree : fchk fd_X12_isFree = true := by decide +kernel
set_option maxRecDepth 100000 in
theorem fg_X12_isFree : fMg fd_X12_isFree ∧ fHok fd_X12_isFree := ⟨fMg_of (own := RX12) fch_X12_isFree rfl rfl fek_X12, fHok_0 rfl⟩
set_option maxRecDepth 100000 in
set_option maxHeartbeats 4000000 in
theorem fch_X12_owed : fchk fd_X12_owed = true := by decide +kernel
set_option maxRecDepth 100000 in
theorem fg_X12_owed : fMg fd_X12_owed ∧ fHok fd_X12_owed := ⟨fMg_of (own := RX12) fch_X12_owed rfl rfl fek_X12, fHok_0 rfl⟩
set_option maxRecDepth 100000 in
set_option maxHeartbeats 4000000 in
theorem fch_X12_free : fchk fd_X12_free = true := by decide +kernel
set_option maxRecDepth 100000 in
theorem fg_X12_free : fMg fd_X12_free ∧ fHok fd_X12_free := ⟨fMg_of (own := RX12) fch_X12_free rfl rfl fek_X12, fHok_0 rfl⟩
set_option maxRecDepth 100000 in
set_option maxHeartbeats 4000000 in
theorem fch_X12_part : fchk fd_X12_part = true := by decide +kernel
set_option maxRecDepth 100000 in
theorem fg_X12_part : fMg fd_X12_part ∧ fHok fd_X12_part := ⟨fMg_of (own := RX12) fch_X12_part rfl rfl fek_X12, fHok_0 rfl⟩
set_option maxRecDepth 100000 in
set_option maxHeartbeats 4000000 in
theorem fch_X12_bag : fchk fd_X12_bag = true := by decide +kernel
set_option maxRecDepth 100000 in
theorem fg_X12_bag : fMg fd_X12_bag ∧ fHok fd_X12_bag := ⟨fMg_of (own := RX12) fch_X12_bag rfl rfl fek_X12, fHok_0 rfl⟩
set_option maxRecDepth 100000 in
set_option maxHeartbeats 4000000 in
theorem fch_X12_chance : fchk fd_X12_chance = true := by decide +kernel
set_option maxRecDepth 100000 in
theorem fg_X12_chance : fMg fd_X12_chance ∧ fHok fd_X12_chance := ⟨fMg_of (own := RX12) fch_X12_chance rfl rfl fek_X12, fHok_0 rfl⟩
set_option maxRecDepth 100000 in
set_option maxHeartbeats 4000000 in
theorem fch_X12_pupils : fchk fd_X12_pupils = true := by decide +kernel
set_option maxRecDepth 100000 in
theorem fg_X12_pupils : fMg fd_X12_pupils ∧ fHok fd_X12_pupils := ⟨fMg_of (own := RX12) fch_X12_pupils rfl rfl fek_X12, fHok_0 rfl⟩
set_option maxRecDepth 100000 in
set_option maxHeartbeats 4000000 in
theorem fch_X12_pupilOf : fchk fd_X12_pupilOf = true := by decide +kernel
set_option maxRecDepth 100000 in
theorem fg_X12_pupilOf : fMg fd_X12_pupilOf ∧ fHok fd_X12_pupilOf := ⟨fMg_of (own := RX12) fch_X12_pupilOf rfl rfl fek_X12, fHok_0 rfl⟩
set_option maxRecDepth 100000 in
set_option maxHeartbeats 4000000 in
theorem fch_X12_image : fchk fd_X12_image = true := by decide +kernel
set_option maxRecDepth 100000 in
theorem fg_X12_image : fMg fd_X12_image ∧ fHok fd_X12_image := ⟨fMg_of (own := RX12) fch_X12_image rfl rfl fek_X12, fHok_0 rfl⟩
set_option maxRecDepth 100000 in
set_option maxHeartbeats 4000000 in
theorem fch_X12_restore : fchk fd_X12_restore = true := by decide +kernel
set_option maxRecDepth 100000 in
theorem fg_X12_restore : fMg fd_X12_restore ∧ fHok fd_X12_restore := ⟨fMg_of (own := RX12) fch_X12_restore rfl rfl fek_X12, fHok_0 rfl⟩
set_option maxRecDepth 100000 in
set_option maxHeartbeats 4000000 in
theorem fch_X12_count : fchk fd_X12_count = true := by decide +kernel
set_option maxRecDepth 100000 in
theorem fg_X12_count : fMg fd_X12_count ∧ fHok fd_X12_count := ⟨fMg_of (own := RX12) fch_X12_count rfl rfl fek_X12, fHok_0 rfl⟩
set_option maxRecDepth 100000 in
set_option maxHeartbeats 4000000 in
theorem fch_J6_bitCount_0f7a4 : fchk fd_J6_bitCount_0f7a4 = true := by decide +kernel
set_option maxRecDepth 100000 in
theorem fg_J6_bitCount_0f7a4 : fMg fd_J6_bitCount_0f7a4 ∧ fHok fd_J6_bitCount_0f7a4 := ⟨fMg_of (own := RJ6) fch_J6_bitCount_0f7a4 rfl rfl fek_J6, fHok_0 rfl⟩
set_option maxRecDepth 100000 in
set_option maxHeartbeats 4000000 in
theorem fch_J9_abs_0f7a4 : fchk fd_J9_abs_0f7a4 = true := by decide +kernel
set_option maxRecDepth 100000 in
theorem fg_J9_abs_0f7a4 : fMg fd_J9_abs_0f7a4 ∧ fHok fd_J9_abs_0f7a4 := ⟨fMg_of (own := RJ9) fch_J9_abs_0f7a4 rfl rfl fek_J9, fHok_0 rfl⟩
set_option maxRecDepth 100000 in
set_option maxHeartbeats 4000000 in
theorem fch_J9_abs_067f4 : fchk fd_J9_abs_067f4 = true := by decide +kernel
set_option maxRecDepth 100000 in
theorem fg_J9_abs_067f4 : fMg fd_J9_abs_067f4 ∧ fHok fd_J9_abs_067f4 := ⟨fMg_of (own := RJ9) fch_J9_abs_067f4 rfl rfl fek_J9, fHok_0 rfl⟩
set_option maxRecDepth 100000 in
set_option maxHeartbeats 4000000 in
theorem fch_J9_max_7cf53 : fchk fd_J9_max_7cf53 = true := by decide +kernel
set_option maxRecDepth 100000 in
theorem fg_J9_max_7cf53 : fMg fd_J9_max_7cf53 ∧ fHok fd_J9_max_7cf53 := ⟨fMg_of (own := RJ9) fch_J9_max_7cf53 rfl rfl fek_J9, fHok_0 rfl⟩
set_option maxRecDepth 100000 in
set_option maxHeartbeats 4000000 in
theorem fch_J9_min_7cf53 : fchk fd_J9_min_7cf53 = true := by decide +kernel
set_option maxRecDepth 100000 in
theorem fg_J9_min_7cf53 : fMg fd_J9_min_7cf53 ∧ fHok fd_J9_min_7cf53 := ⟨fMg_of (own := RJ9) fch_J9_min_7cf53 rfl rfl fek_J9, fHok_0 rfl⟩
set_option maxRecDepth 100000 in
set_option maxHeartbeats 4000000 in
theorem fch_J7_fill_53178 : fchk fd_J7_fill_53178 = true := by decide +kernel
set_option maxRecDepth 100000 in
theorem fg_J7_fill_53178 : fMg fd_J7_fill_53178 ∧ fHok fd_J7_fill_53178 := ⟨fMg_of (own := RJ7) fch_J7_fill_53178 rfl rfl fek_J7, fHok_0 rfl⟩
set_option maxRecDepth 100000 in
set_option maxHeartbeats 4000000 in
theorem fch_L_piano : fchk fd_L_piano = true := by decide +kernel
set_option maxRecDepth 100000 in
theorem fg_L_piano : fMg fd_L_piano ∧ fHok fd_L_piano := ⟨fMg_of (own := RL) fch_L_piano rfl rfl fek_L, fHok_1 rfl (by decide) ((fmj_6 192 rfl rfl))⟩
set_option maxRecDepth 100000 in
set_option maxHeartbeats 4000000 in
theorem fch_L_offset : fchk fd_L_offset = true := by decide +kernel
set_option maxRecDepth 100000 in
theorem fg_L_offset : fMg fd_L_offset ∧ fHok fd_L_offset := ⟨fMg_of (own := RL) fch_L_offset rfl rfl fek_L, fHok_1 rfl (by decide) ((fmj_6 192 rfl rfl))⟩
set_option maxRecDepth 100000 in
set_option maxHeartbeats 4000000 in
theorem fch_L_slipped : fchk fd_L_slipped = true := by decide +kernel
set_option maxRecDepth 100000 in
theorem fg_L_slipped : fMg fd_L_slipped ∧ fHok fd_L_slipped := ⟨fMg_of (own := RL) fch_L_slipped rfl rfl fek_L, fHok_1 rfl (by decide) ((fmj_6 192 rfl rfl))⟩
set_option maxRecDepth 100000 in
set_option maxHeartbeats 4000000 in
theorem fch_L_stove : fchk fd_L_stove = true := by decide +kernel
set_option maxRecDepth 100000 in
theorem fg_L_stove : fMg fd_L_stove ∧ fHok fd_L_stove := ⟨fMg_of (own := RL) fch_L_stove rfl rfl fek_L, fHok_1 rfl (by decide) ((fmj_6 192 rfl rfl))⟩
set_option maxRecDepth 100000 in
set_option maxHeartbeats 4000000 in
theorem fch_L_lean : fchk fd_L_lean = true := by decide +kernel
set_option maxRecDepth 100000 in
theorem fg_L_lean : fMg fd_L_lean ∧ fHok fd_L_lean := ⟨fMg_of (own := RL) fch_L_lean rfl rfl fek_L, fHok_1 rfl (by decide) ((fmj_6 192 rfl rfl))⟩
set_option maxRecDepth 100000 in
set_option maxHeartbeats 4000000 in
theorem fch_L_owed : fchk fd_L_owed = true := by decide +kernel
set_option maxRecDepth 100000 in
theorem fg_L_owed : fMg fd_L_owed ∧ fHok fd_L_owed := ⟨fMg_of (own := RL) fch_L_owed rfl rfl fek_L, fHok_1 rfl (by decide) ((fmj_6 192 rfl rfl))⟩
set_option maxRecDepth 100000 in
set_option maxHeartbeats 4000000 in
theorem fch_L_law : fchk fd_L_law = true := by decide +kernel
set_option maxRecDepth 100000 in
theorem fg_L_law : fMg fd_L_law ∧ fHok fd_L_law := ⟨fMg_of (own := RL) fch_L_law rfl rfl fek_L, fHok_0 rfl⟩
theorem fg_no : fMg fmeth_dummy ∧ fHok fmeth_dummy := ⟨⟨fun pc i np tg h => by simp [fmeth_dummy, flk2] at h, fun x q h => by simp [fmeth_dummy, flk1] at h⟩, fHok_0 rfl⟩
theorem fpt_c {b : Bool} {x y : fD} (hx : fMg x ∧ fHok x) (hy : fMg y ∧ fHok y) : fMg (bif b then x else y) ∧ fHok (bif b then x else y) := by
  cases b
  · exact hy
  · exact hx
set_option maxRecDepth 100000 in
theorem fg_all : ∀ k, fMg (fmth k) ∧ fHok (fmth k) := fun k => (fpt_c (fpt_c (fpt_c (fpt_c (fpt_c (fpt_c (fpt_c (fpt_c (fpt_c fg_X0_init fg_no) (fpt_c fg_X0_unreadyConcerts fg_no)) (fpt_c (fpt_c fg_X0_isReady fg_no) (fpt_c (fpt_c fg_X0_concertAt fg_no) (fpt_c fg_X0_blame fg_no)))) (fpt_c (fpt_c (fpt_c fg_X0_isFree fg_no) (fpt_c fg_X0_freeTunings fg_no)) (fpt_c (fpt_c fg_X0_debt fg_no) (fpt_c (fpt_c fg_X0_debtBy fg_no) (fpt_c fg_X1_init fg_no))))) (fpt_c (fpt_c (fpt_c (fpt_c fg_X1_keepLeast fg_no) (fpt_c fg_X1_clearFalls fg_no)) (fpt_c (fpt_c fg_X1_addPairs fg_no) (fpt_c (fpt_c fg_X1_addPair fg_no) (fpt_c fg_X1_mostSlipping fg_no)))) (fpt_c (fpt_c (fpt_c fg_X1_isFaster fg_no) (fpt_c fg_X1_weighStoves fg_no)) (fpt_c (fpt_c fg_X1_sumFallsOf fg_no) (fpt_c (fpt_c fg_X1_sumOf fg_no) (fpt_c fg_X1_weighLean fg_no)))))) (fpt_c (fpt_c (fpt_c (fpt_c (fpt_c fg_X1_worstBatch fg_no) (fpt_c fg_X1_isCracked fg_no)) (fpt_c (fpt_c fg_X1_putInOrder fg_no) (fpt_c (fpt_c fg_X1_isCrack fg_no) (fpt_c fg_X2_init fg_no)))) (fpt_c (fpt_c (fpt_c fg_X2_clear fg_no) (fpt_c fg_X2_copyFrom fg_no)) (fpt_c (fpt_c fg_X2_addPiano fg_no) (fpt_c (fpt_c fg_X2_tell fg_no) (fpt_c fg_X2_fact fg_no))))) (fpt_c (fpt_c (fpt_c (fpt_c fg_X2_hasPiano fg_no) (fpt_c fg_X2_hasTuner fg_no)) (fpt_c (fpt_c fg_X2_isHall fg_no) (fpt_c (fpt_c fg_X2_isShut fg_no) (fpt_c fg_X2_tunerX fg_no)))) (fpt_c (fpt_c (fpt_c fg_X2_tunerY fg_no) (fpt_c fg_X2_forkOf fg_no)) (fpt_c (fpt_c fg_X2_pianoNamed fg_no) (fpt_c (fpt_c fg_X2_tunerNamed fg_no) (fpt_c fg_X2_pupilNamed fg_no))))))) (fpt_c (fpt_c (fpt_c (fpt_c (fpt_c (fpt_c fg_X2_isNameTold fg_no) (fpt_c fg_X2_placeOf fg_no)) (fpt_c (fpt_c fg_X2_feeOf fg_no) (fpt_c (fpt_c fg_X2_hasTable fg_no) (fpt_c fg_X2_beatsOf fg_no)))) (fpt_c (fpt_c (fpt_c fg_X2_wildest fg_no) (fpt_c fg_X3_init fg_no)) (fpt_c (fpt_c fg_X3_readAll fg_no) (fpt_c (fpt_c fg_X3_readRuleLine fg_no) (fpt_c fg_X3_readNameLine fg_no))))) (fpt_c (fpt_c (fpt_c (fpt_c fg_X3_readTable fg_no) (fpt_c fg_X3_readDamp fg_no)) (fpt_c (fpt_c fg_X3_readTerm fg_no) (fpt_c (fpt_c fg_X3_readFee fg_no) (fpt_c fg_X3_readRule fg_no)))) (fpt_c (fpt_c (fpt_c fg_X3_readDay fg_no) (fpt_c fg_X3_mustHaveRoom fg_no)) (fpt_c (fpt_c fg_X3_takeNewName fg_no) (fpt_c (fpt_c fg_X3_readPiano fg_no) (fpt_c fg_X3_readMore fg_no)))))) (fpt_c (fpt_c (fpt_c (fpt_c (fpt_c fg_X3_withTold fg_no) (fpt_c fg_X3_readTuner fg_no)) (fpt_c (fpt_c fg_X3_readTeach fg_no) (fpt_c (fpt_c fg_X4_init fg_no) (fpt_c fg_X4_share fg_no)))) (fpt_c (fpt_c (fpt_c fg_X4_sumWith fg_no) (fpt_c fg_X4_greatest fg_no)) (fpt_c (fpt_c fg_X4_pickTuners fg_no) (fpt_c (fpt_c fg_X4_firstGreatest fg_no) (fpt_c fg_X5_init fg_no))))) (fpt_c (fpt_c (fpt_c (fpt_c fg_X5_readAll fg_no) (fpt_c fg_X5_readLine fg_no)) (fpt_c (fpt_c fg_X5_takePiano fg_no) (fpt_c (fpt_c fg_X5_takeTuner fg_no) (fpt_c fg_X5_readWhen fg_no)))) (fpt_c (fpt_c (fpt_c fg_X5_readNote fg_no) (fpt_c fg_X6_init fg_no)) (fpt_c (fpt_c fg_X6_copyFrom fg_no) (fpt_c (fpt_c fg_X6_begin fg_no) (fpt_c fg_X6_isTold fg_no)))))))) (fpt_c (fpt_c (fpt_c (fpt_c (fpt_c (fpt_c (fpt_c fg_X6_leftOf fg_no) (fpt_c fg_X6_isKnown fg_no)) (fpt_c (fpt_c fg_X6_isOf fg_no) (fpt_c (fpt_c fg_X6_latest fg_no) (fpt_c fg_X6_hasWithin fg_no)))) (fpt_c (fpt_c (fpt_c fg_X6_concertsTold fg_no) (fpt_c fg_X7_init fg_no)) (fpt_c (fpt_c fg_X7_weightOf fg_no) (fpt_c (fpt_c fg_X7_place fg_no) (fpt_c fg_X7_weigh fg_no))))) (fpt_c (fpt_c (fpt_c (fpt_c fg_X7_liveWith fg_no) (fpt_c fg_X7_sortPianos fg_no)) (fpt_c (fpt_c fg_X7_minutes fg_no) (fpt_c (fpt_c fg_X7_doneAt fg_no) (fpt_c fg_X7_fillHomes fg_no)))) (fpt_c (fpt_c (fpt_c fg_X7_soonestDone fg_no) (fpt_c fg_X7_best fg_no)) (fpt_c (fpt_c fg_X7_fillLatest fg_no) (fpt_c (fpt_c fg_X7_latestDone fg_no) (fpt_c fg_X7_pickOrder fg_no)))))) (fpt_c (fpt_c (fpt_c (fpt_c (fpt_c fg_X7_firstNext fg_no) (fpt_c fg_X7_canGoOn fg_no)) (fpt_c (fpt_c fg_X7_walkAsTold fg_no) (fpt_c (fpt_c fg_X7_bestOfTwo fg_no) (fpt_c fg_X7_fillOtherBest fg_no)))) (fpt_c (fpt_c (fpt_c fg_X7_fewestTuners fg_no) (fpt_c fg_X7_countWays fg_no)) (fpt_c (fpt_c fg_X7_hasAll fg_no) (fpt_c (fpt_c fg_X8_init fg_no) (fpt_c fg_X8_look fg_no))))) (fpt_c (fpt_c (fpt_c (fpt_c fg_X8_sumSlipTimes fg_no) (fpt_c fg_X8_sumStoveFall fg_no)) (fpt_c (fpt_c fg_X8_wasTuned fg_no) (fpt_c (fpt_c fg_X8_tunedOn fg_no) (fpt_c fg_X8_leftAt fg_no)))) (fpt_c (fpt_c (fpt_c fg_X8_ear fg_no) (fpt_c fg_X8_offsetAt fg_no)) (fpt_c (fpt_c fg_X8_offsetUndamped fg_no) (fpt_c (fpt_c fg_X8_dampFrom fg_no) (fpt_c fg_X8_greatestAt fg_no))))))) (fpt_c (fpt_c (fpt_c (fpt_c (fpt_c (fpt_c fg_X8_greatestUndamped fg_no) (fpt_c fg_X8_isBeyond fg_no)) (fpt_c (fpt_c fg_X8_firstBeyond fg_no) (fpt_c (fpt_c fg_X8_tuningsFrom fg_no) (fpt_c fg_X9_init fg_no)))) (fpt_c (fpt_c (fpt_c fg_X9_pack fg_no) (fpt_c fg_X9_countParts fg_no)) (fpt_c (fpt_c fg_X9_tryCounts fg_no) (fpt_c (fpt_c fg_X9_partOf fg_no) (fpt_c fg_X10_init fg_no))))) (fpt_c (fpt_c (fpt_c (fpt_c fg_X10_withLetter fg_no) (fpt_c fg_X10_hasRoom fg_no)) (fpt_c (fpt_c fg_X10_add fg_no) (fpt_c (fpt_c fg_X10_isCut fg_no) (fpt_c fg_X10_empty fg_no)))) (fpt_c (fpt_c (fpt_c fg_X10_movePianos fg_no) (fpt_c fg_X10_begin fg_no)) (fpt_c (fpt_c fg_X10_take fg_no) (fpt_c (fpt_c fg_X10_takeRun fg_no) (fpt_c fg_X10_isBlank fg_no)))))) (fpt_c (fpt_c (fpt_c (fpt_c (fpt_c fg_X10_isLetter fg_no) (fpt_c fg_X10_isDigit fg_no)) (fpt_c (fpt_c fg_X10_takeNumber fg_no) (fpt_c (fpt_c fg_X10_takeSigned fg_no) (fpt_c fg_X10_numberHere fg_no)))) (fpt_c (fpt_c (fpt_c fg_X10_keywordHere fg_no) (fpt_c fg_X10_takeKind fg_no)) (fpt_c (fpt_c fg_X10_takeName fg_no) (fpt_c (fpt_c fg_X10_fail fg_no) (fpt_c fg_X11_init fg_no))))) (fpt_c (fpt_c (fpt_c (fpt_c fg_X11_feed fg_no) (fpt_c fg_X11_end fg_no)) (fpt_c (fpt_c fg_X11_house fg_no) (fpt_c (fpt_c fg_X11_records fg_no) (fpt_c fg_X11_fault fg_no)))) (fpt_c (fpt_c (fpt_c fg_X11_piano fg_no) (fpt_c (fpt_c fg_X11_week fg_no) (fpt_c fg_X11_beats fg_no))) (fpt_c (fpt_c fg_X11_wolf fg_no) (fpt_c (fpt_c fg_X11_offset fg_no) (fpt_c fg_X11_off fg_no))))))))) (fpt_c (fpt_c (fpt_c (fpt_c (fpt_c (fpt_c (fpt_c (fpt_c fg_X11_due fg_no) (fpt_c fg_X11_slips fg_no)) (fpt_c (fpt_c fg_X11_slipped fg_no) (fpt_c (fpt_c fg_X11_stove fg_no) (fpt_c fg_X11_lean fg_no)))) (fpt_c (fpt_c (fpt_c fg_X11_batch fg_no) (fpt_c fg_X11_cracked fg_no)) (fpt_c (fpt_c fg_X11_weight fg_no) (fpt_c (fpt_c fg_X11_round fg_no) (fpt_c fg_X11_roundAt fg_no))))) (fpt_c (fpt_c (fpt_c (fpt_c fg_X11_home fg_no) (fpt_c fg_X11_walked fg_no)) (fpt_c (fpt_c fg_X11_two fg_no) (fpt_c (fpt_c fg_X11_festival fg_no) (fpt_c fg_X11_unready fg_no)))) (fpt_c (fpt_c (fpt_c fg_X11_whose fg_no) (fpt_c fg_X11_fee fg_no)) (fpt_c (fpt_c fg_X11_owed fg_no) (fpt_c (fpt_c fg_X11_free fg_no) (fpt_c fg_X11_tunings fg_no)))))) (fpt_c (fpt_c (fpt_c (fpt_c (fpt_c fg_X11_past fg_no) (fpt_c fg_X11_bag fg_no)) (fpt_c (fpt_c fg_X11_chance fg_no) (fpt_c (fpt_c fg_X11_pupils fg_no) (fpt_c fg_X11_pupilOf fg_no)))) (fpt_c (fpt_c (fpt_c fg_X11_image fg_no) (fpt_c fg_X11_restore fg_no)) (fpt_c (fpt_c fg_X11_count fg_no) (fpt_c (fpt_c fg_X11_isAsked fg_no) (fpt_c fg_X11_isKnowing fg_no))))) (fpt_c (fpt_c (fpt_c (fpt_c fg_X11_isWithin fg_no) (fpt_c fg_X11_weekOf fg_no)) (fpt_c (fpt_c fg_X12_thrown fg_no) (fpt_c (fpt_c fg_X12_throwsIf fg_no) (fpt_c fg_X12_feed fg_no)))) (fpt_c (fpt_c (fpt_c fg_X12_four fg_no) (fpt_c fg_X12_end fg_no)) (fpt_c (fpt_c fg_X12_taken fg_no) (fpt_c (fpt_c fg_X12_isIn fg_no) (fpt_c fg_X12_plain fg_no))))))) (fpt_c (fpt_c (fpt_c (fpt_c (fpt_c (fpt_c fg_X12_octet fg_no) (fpt_c fg_X12_init fg_no)) (fpt_c (fpt_c fg_X12_begin fg_no) (fpt_c (fpt_c fg_X12_peek fg_no) (fpt_c fg_X12_isSmall fg_no)))) (fpt_c (fpt_c (fpt_c fg_X12_isDigit fg_no) (fpt_c fg_X12_next fg_no)) (fpt_c (fpt_c fg_X12_bad fg_no) (fpt_c (fpt_c fg_X12_isWord fg_no) (fpt_c fg_X12_isSign fg_no))))) (fpt_c (fpt_c (fpt_c (fpt_c fg_X12_sign fg_no) (fpt_c fg_X12_isName fg_no)) (fpt_c (fpt_c fg_X12_find fg_no) (fpt_c (fpt_c fg_X12_takes fg_no) (fpt_c fg_X12_takesSigned fg_no)))) (fpt_c (fpt_c (fpt_c fg_X12_takesName fg_no) (fpt_c fg_X12_kind fg_no)) (fpt_c (fpt_c fg_X12_once fg_no) (fpt_c (fpt_c fg_X12_oneNumber fg_no) (fpt_c fg_X12_span fg_no)))))) (fpt_c (fpt_c (fpt_c (fpt_c (fpt_c fg_X12_readHouse fg_no) (fpt_c fg_X12_line fg_no)) (fpt_c (fpt_c fg_X12_table fg_no) (fpt_c (fpt_c fg_X12_weeks fg_no) (fpt_c fg_X12_readFee fg_no)))) (fpt_c (fpt_c (fpt_c fg_X12_fresh fg_no) (fpt_c fg_X12_readPiano fg_no)) (fpt_c (fpt_c fg_X12_more fg_no) (fpt_c (fpt_c fg_X12_tuner fg_no) (fpt_c fg_X12_pupil fg_no))))) (fpt_c (fpt_c (fpt_c (fpt_c fg_X12_teach fg_no) (fpt_c fg_X12_house fg_no)) (fpt_c (fpt_c fg_X12_readRecords fg_no) (fpt_c (fpt_c fg_X12_record fg_no) (fpt_c fg_X12_when fg_no)))) (fpt_c (fpt_c (fpt_c fg_X12_notes fg_no) (fpt_c fg_X12_records fg_no)) (fpt_c (fpt_c fg_X12_fault fg_no) (fpt_c (fpt_c fg_X12_isPiano fg_no) (fpt_c fg_X12_isTuner fg_no)))))))) (fpt_c (fpt_c (fpt_c (fpt_c (fpt_c (fpt_c (fpt_c fg_X12_isDay fg_no) (fpt_c fg_X12_isKnown fg_no)) (fpt_c (fpt_c fg_X12_of fg_no) (fpt_c (fpt_c fg_X12_piano fg_no) (fpt_c fg_X12_week fg_no)))) (fpt_c (fpt_c (fpt_c fg_X12_pitch fg_no) (fpt_c fg_X12_beatsOf fg_no)) (fpt_c (fpt_c fg_X12_beats fg_no) (fpt_c (fpt_c fg_X12_wolf fg_no) (fpt_c fg_X12_isOf fg_no))))) (fpt_c (fpt_c (fpt_c (fpt_c fg_X12_latest fg_no) (fpt_c fg_X12_course fg_no)) (fpt_c (fpt_c fg_X12_tune fg_no) (fpt_c (fpt_c fg_X12_pass fg_no) (fpt_c fg_X12_passTo fg_no)))) (fpt_c (fpt_c (fpt_c fg_X12_offsetOf fg_no) (fpt_c fg_X12_offOf fg_no)) (fpt_c (fpt_c fg_X12_offset fg_no) (fpt_c (fpt_c fg_X12_off fg_no) (fpt_c fg_X12_isBeyond fg_no)))))) (fpt_c (fpt_c (fpt_c (fpt_c (fpt_c fg_X12_due fg_no) (fpt_c fg_X12_tuningsOf fg_no)) (fpt_c (fpt_c fg_X12_tunings fg_no) (fpt_c (fpt_c fg_X12_past fg_no) (fpt_c fg_X12_pairs fg_no)))) (fpt_c (fpt_c (fpt_c fg_X12_noPairs fg_no) (fpt_c fg_X12_common fg_no)) (fpt_c (fpt_c fg_X12_slips fg_no) (fpt_c (fpt_c fg_X12_slipped fg_no) (fpt_c fg_X12_stove fg_no))))) (fpt_c (fpt_c (fpt_c (fpt_c fg_X12_lean fg_no) (fpt_c fg_X12_batch fg_no)) (fpt_c (fpt_c fg_X12_cracked fg_no) (fpt_c (fpt_c fg_X12_cracks fg_no) (fpt_c fg_X12_isTunedIn fg_no)))) (fpt_c (fpt_c (fpt_c fg_X12_weightOf fg_no) (fpt_c fg_X12_weight fg_no)) (fpt_c (fpt_c fg_X12_tells fg_no) (fpt_c (fpt_c fg_X12_live fg_no) (fpt_c fg_X12_way fg_no))))))) (fpt_c (fpt_c (fpt_c (fpt_c (fpt_c (fpt_c fg_X12_done fg_no) (fpt_c fg_X12_orders fg_no)) (fpt_c (fpt_c fg_X12_consider fg_no) (fpt_c (fpt_c fg_X12_round fg_no) (fpt_c fg_X12_roundAt fg_no)))) (fpt_c (fpt_c (fpt_c fg_X12_home fg_no) (fpt_c fg_X12_walked fg_no)) (fpt_c (fpt_c fg_X12_sets fg_no) (fpt_c (fpt_c fg_X12_sumOf fg_no) (fpt_c fg_X12_two fg_no))))) (fpt_c (fpt_c (fpt_c (fpt_c fg_X12_bits fg_no) (fpt_c fg_X12_festival fg_no)) (fpt_c (fpt_c fg_X12_unready fg_no) (fpt_c (fpt_c fg_X12_whose fg_no) (fpt_c fg_X12_blame fg_no)))) (fpt_c (fpt_c (fpt_c fg_X12_feeOf fg_no) (fpt_c fg_X12_fee fg_no)) (fpt_c (fpt_c fg_X12_isFree fg_no) (fpt_c (fpt_c fg_X12_owed fg_no) (fpt_c fg_X12_free fg_no)))))) (fpt_c (fpt_c (fpt_c (fpt_c (fpt_c fg_X12_part fg_no) (fpt_c fg_X12_bag fg_no)) (fpt_c (fpt_c fg_X12_chance fg_no) (fpt_c (fpt_c fg_X12_pupils fg_no) (fpt_c fg_X12_pupilOf fg_no)))) (fpt_c (fpt_c (fpt_c fg_X12_image fg_no) (fpt_c fg_X12_restore fg_no)) (fpt_c (fpt_c fg_X12_count fg_no) (fpt_c (fpt_c fg_J6_bitCount_0f7a4 fg_no) (fpt_c fg_J9_abs_0f7a4 fg_no))))) (fpt_c (fpt_c (fpt_c (fpt_c fg_J9_abs_067f4 fg_no) (fpt_c fg_J9_max_7cf53 fg_no)) (fpt_c (fpt_c fg_J9_min_7cf53 fg_no) (fpt_c (fpt_c fg_J7_fill_53178 fg_no) (fpt_c fg_L_piano fg_no)))) (fpt_c (fpt_c (fpt_c fg_L_offset fg_no) (fpt_c (fpt_c fg_L_slipped fg_no) (fpt_c fg_L_stove fg_no))) (fpt_c (fpt_c fg_L_lean fg_no) (fpt_c (fpt_c fg_L_owed fg_no) (fpt_c fg_L_law fg_no))))))))))
