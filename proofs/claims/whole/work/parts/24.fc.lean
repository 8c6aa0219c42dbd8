set_option maxRecDepth 100000 in
set_option maxHeartbeats 4000000 in
theorem fch_X11_slipped : fchk fd_X11_slipped = true := by decide +kernel
set_option maxRecDepth 100000 in
theorem fg_X11_slipped : fMg fd_X11_slipped ∧ fHok fd_X11_slipped := ⟨fMg_of (own := RX11) fch_X11_slipped rfl rfl fek_X11, fHok_0 rfl⟩
set_option maxRecDepth 100000 in
set_option maxHeartbeats 4000000 in
theorem fch_X11_stove : fchk fd_X11_stove = true := by decide +kernel
set_option maxRecDepth 100000 in
theorem fg_X11_stove : fMg fd_X11_stove ∧ fHok fd_X11_stove := ⟨fMg_of (own := RX11) fch_X11_stove rfl rfl fek_X11, fHok_0 rfl⟩
set_option maxRecDepth 100000 in
set_option maxHeartbeats 4000000 in
theorem fch_X11_lean : fchk fd_X11_lean = true := by decide +kernel
set_option maxRecDepth 100000 in
theorem fg_X11_lean : fMg fd_X11_lean ∧ fHok fd_X11_lean := ⟨fMg_of (own := RX11) fch_X11_lean rfl rfl fek_X11, fHok_0 rfl⟩
set_option maxRecDepth 100000 in
set_option maxHeartbeats 4000000 in
theorem fch_X11_batch : fchk fd_X11_batch = true := by decide +kernel
set_option maxRecDepth 100000 in
theorem fg_X11_batch : fMg fd_X11_batch ∧ fHok fd_X11_batch := ⟨fMg_of (own := RX11) fch_X11_batch rfl rfl fek_X11, fHok_0 rfl⟩
set_option maxRecDepth 100000 in
set_option maxHeartbeats 4000000 in
theorem fch_X11_cracked : fchk fd_X11_cracked = true := by decide +kernel
set_option maxRecDepth 100000 in
theorem fg_X11_cracked : fMg fd_X11_cracked ∧ fHok fd_X11_cracked := ⟨fMg_of (own := RX11) fch_X11_cracked rfl rfl fek_X11, fHok_0 rfl⟩
set_option maxRecDepth 100000 in
set_option maxHeartbeats 4000000 in
theorem fch_X11_weight : fchk fd_X11_weight = true := by decide +kernel
set_option maxRecDepth 100000 in
theorem fg_X11_weight : fMg fd_X11_weight ∧ fHok fd_X11_weight := ⟨fMg_of (own := RX11) fch_X11_weight rfl rfl fek_X11, fHok_0 rfl⟩
set_option maxRecDepth 100000 in
set_option maxHeartbeats 4000000 in
theorem fch_X11_round : fchk fd_X11_round = true := by decide +kernel
set_option maxRecDepth 100000 in
theorem fg_X11_round : fMg fd_X11_round ∧ fHok fd_X11_round := ⟨fMg_of (own := RX11) fch_X11_round rfl rfl fek_X11, fHok_0 rfl⟩
set_option maxRecDepth 100000 in
set_option maxHeartbeats 4000000 in
theorem fch_X11_roundAt : fchk fd_X11_roundAt = true := by decide +kernel
set_option maxRecDepth 100000 in
theorem fg_X11_roundAt : fMg fd_X11_roundAt ∧ fHok fd_X11_roundAt := ⟨fMg_of (own := RX11) fch_X11_roundAt rfl rfl fek_X11, fHok_0 rfl⟩
set_option maxRecDepth 100000 in
set_option maxHeartbeats 4000000 in
theorem fch_X11_home : fchk fd_X11_home = true := by decide +kernel
set_option maxRecDepth 100000 in
theorem fg_X11_home : fMg fd_X11_home ∧ fHok fd_X11_home := ⟨fMg_of (own := RX11) fch_X11_home rfl rfl fek_X11, fHok_0 rfl⟩
set_option maxRecDepth 100000 in
set_option maxHeartbeats 4000000 in
theorem fch_X11_walked : fchk fd_X11_walked = true := by decide +kernel
set_option maxRecDepth 100000 in
theorem fg_X11_walked : fMg fd_X11_walked ∧ fHok fd_X11_walked := ⟨fMg_of (own := RX11) fch_X11_walked rfl rfl fek_X11, fHok_0 rfl⟩
set_option maxRecDepth 100000 in
set_option maxHeartbeats 4000000 in
theorem fch_X11_two : fchk fd_X11_two = true := by decide +kernel
set_option maxRecDepth 100000 in
theorem fg_X11_two : fMg fd_X11_two ∧ fHok fd_X11_two := ⟨fMg_of (own := RX11) fch_X11_two rfl rfl fek_X11, fHok_0 rfl⟩
set_option maxRecDepth 100000 in
set_option maxHeartbeats 4000000 in
theorem fch_X11_festival : fchk fd_X11_festival = true := by decide +kernel
set_option maxRecDepth 100000 in
theorem fg_X11_festival : fMg fd_X11_festival ∧ fHok fd_X11_festival := ⟨fMg_of (own := RX11) fch_X11_festival rfl rfl fek_X11, fHok_0 rfl⟩
set_option maxRecDepth 100000 in
set_option maxHeartbeats 4000000 in
theorem fch_X11_unready : fchk fd_X11_unready = true := by decide +kernel
set_option maxRecDepth 100000 in
theorem fg_X11_unready : fMg fd_X11_unready ∧ fHok fd_X11_unready := ⟨fMg_of (own := RX11) fch_X11_unready rfl rfl fek_X11, fHok_0 rfl⟩
set_option maxRecDepth 100000 in
set_option maxHeartbeats 4000000 in
theorem fch_X11_whose : fchk fd_X11_whose = true := by decide +kernel
set_option maxRecDepth 100000 in
theorem fg_X11_whose : fMg fd_X11_whose ∧ fHok fd_X11_whose := ⟨fMg_of (own := RX11) fch_X11_whose rfl rfl fek_X11, fHok_0 rfl⟩
set_option maxRecDepth 100000 in
set_option maxHeartbeats 4000000 in
theorem fch_X11_fee : fchk fd_X11_fee = true := by decide +kernel
set_option maxRecDepth 100000 in
theorem fg_X11_fee : fMg fd_X11_fee ∧ fHok fd_X11_fee := ⟨fMg_of (own := RX11) fch_X11_fee rfl rfl fek_X11, fHok_0 rfl⟩
set_option maxRecDepth 100000 in
set_option maxHeartbeats 4000000 in
theorem fch_X11_owed : fchk fd_X11_owed = true := by decide +kernel
set_option maxRecDepth 100000 in
theorem fg_X11_owed : fMg fd_X11_owed ∧ fHok fd_X11_owed := ⟨fMg_of (own := RX11) fch_X11_owed rfl rfl fek_X11, fHok_0 rfl⟩
set_option maxRecDepth 100000 in
set_option maxHeartbeats 4000000 in
theorem fch_X11_free : fchk fd_X11_free = true := by decide +kernel
set_option maxRecDepth 100000 in
theorem fg_X11_free : fMg fd_X11_free ∧ fHok fd_X11_free := ⟨fMg_of (own := RX11) fch_X11_free rfl rfl fek_X11, fHok_0 rfl⟩
set_option maxRecDepth 100000 in
set_option maxHeartbeats 4000000 in
theorem fch_X11_tunings : fchk fd_X11_tunings = true := by decide +kernel
set_option maxRecDepth 100000 in
theorem fg_X11_tunings : fMg fd_X11_tunings ∧ fHok fd_X11_tunings := ⟨fMg_of (own := RX11) fch_X11_tunings rfl rfl fek_X11, fHok_0 rfl⟩
set_option maxRecDepth 100000 in
set_option maxHeartbeats 4000000 in
theorem fch_X11_past : fchk fd_X11_past = true := by decide +kernel
set_option maxRecDepth 100000 in
theorem fg_X11_past : fMg fd_X11_past ∧ fHok fd_X11_past := ⟨fMg_of (own := RX11) fch_X11_past rfl rfl fek_X11, fHok_0 rfl⟩
set_option maxRecDepth 100000 in
set_option maxHeartbeats 4000000 in
theorem fch_X11_bag : fchk fd_X11_bag = true := by decide +kernel
set_option maxRecDepth 100000 in
theorem fg_X11_bag : fMg fd_X11_bag ∧ fHok fd_X11_bag := ⟨fMg_of (own := RX11) fch_X11_bag rfl rfl fek_X11, fHok_0 rfl⟩
set_option maxRecDepth 100000 in
set_option maxHeartbeats 4000000 in
theorem fch_X11_chance : fchk fd_X11_chance = true := by decide +kernel
set_option maxRecDepth 100000 in
theorem fg_X11_chance : fMg fd_X11_chance ∧ fHok fd_X11_chance := ⟨fMg_of (own := RX11) fch_X11_chance rfl rfl fek_X11, fHok_0 rfl⟩
set_option maxRecDepth 100000 in
set_option maxHeartbeats 4000000 in
theorem fch_X11_pupils : fchk fd_X11_pupils = true := by decide +kernel
set_option maxRecDepth 100000 in
theorem fg_X11_pupils : fMg fd_X11_pupils ∧ fHok fd_X11_pupils := ⟨fMg_of (own := RX11) fch_X11_pupils rfl rfl fek_X11, fHok_0 rfl⟩
set_option maxRecDepth 100000 in
set_option maxHeartbeats 4000000 in
theorem fch_X11_pupilOf : fchk fd_X11_pupilOf = true := by decide +kernel
set_option maxRecDepth 100000 in
theorem fg_X11_pupilOf : fMg fd_X11_pupilOf ∧ fHok fd_X11_pupilOf := ⟨fMg_of (own := RX11) fch_X11_pupilOf rfl rfl fek_X11, fHok_0 rfl⟩
set_option maxRecDepth 100000 in
set_option maxHeartbeats 4000000 in
theorem fch_X11_image : fchk fd_X11_image = true := by decide +kernel
set_option maxRecDepth 100000 in
theorem fg_X11_image : fMg fd_X11_image ∧ fHok fd_X11_image := ⟨fMg_of (own := RX11) fch_X11_image rfl rfl fek_X11, fHok_0 rfl⟩
set_option maxRecDepth 100000 in
set_option maxHeartbeats 4000000 in
theorem fch_X11_restore : fchk fd_X11_restore = true := by decide +kernel
set_option maxRecDepth 100000 in
theorem fg_X11_restore : fMg fd_X11_restore ∧ fHok fd_X11_restore := ⟨fMg_of (own := RX11) fch_X11_restore rfl rfl fek_X11, fHok_0 rfl⟩
set_option maxRecDepth 100000 in
set_option maxHeartbeats 4000000 in
theorem fch_X11_count : fchk fd_X11_count = true := by decide +kernel
set_option maxRecDepth 100000 in
theorem fg_X11_count : fMg fd_X11_count ∧ fHok fd_X11_count := ⟨fMg_of (own := RX11) fch_X11_count rfl rfl fek_X11, fHok_0 rfl⟩
set_option maxRecDepth 100000 in
set_option maxHeartbeats 4000000 in
theorem fch_X11_isAsked : fchk fd_X11_isAsked = true := by decide +kernel
set_option maxRecDepth 100000 in
theorem fg_X11_isAsked : fMg fd_X11_isAsked ∧ fHok fd_X11_isAsked := ⟨fMg_of (own := RX11) fch_X11_isAsked rfl rfl fek_X11, fHok_0 rfl⟩
set_option maxRecDepth 100000 in
set_option maxHeartbeats 4000000 in
theorem fch_X11_isKnowing : fchk fd_X11_isKnowing = true := by decide +kernel
set_option maxRecDepth 100000 in
theorem fg_X11_isKnowing : fMg fd_X11_isKnowing ∧ fHok fd_X11_isKnowing := ⟨fMg_of (own := RX11) fch_X11_isKnowing rfl rfl fek_X11, fHok_0 rfl⟩
set_option maxRecDepth 100000 in
set_option maxHeartbeats 4000000 in
theorem fch_X11_isWithin : fchk fd_X11_isWithin = true := by decide +kernel
set_option maxRecDepth 100000 in
theorem fg_X11_isWithin : fMg fd_X11_isWithin ∧ fHok fd_X11_isWithin := ⟨fMg_of (own := RX11) fch_X11_isWithin rfl rfl fek_X11, fHok_0 rfl⟩
set_option maxRecDepth 100000 in
set_option maxHeartbeats 4000000 in
theorem fch_X11_weekOf : fchk fd_X11_weekOf = true := by decide +kernel
set_option maxRecDepth 100000 in
theorem fg_X11_weekOf : fMg fd_X11_weekOf ∧ fHok fd_X11_weekOf := ⟨fMg_of (own := RX11) fch_X11_weekOf rfl rfl fek_X11, fHok_0 rfl⟩
set_option maxRecDepth 100000 in
set_option maxHeartbeats 4000000 in
theorem fch_X12_thrown : fchk fd_X12_thrown = true := by decide +kernel
set_option maxRecDepth 100000 in
theorem fg_X12_thrown : fMg fd_X12_thrown ∧ fHok fd_X12_thrown := ⟨fMg_of (own := RX12) fch_X12_thrown rfl rfl fek_X12, fHok_0 rfl⟩
set_option maxRecDepth 100000 in
set_option maxHeartbeats 4000000 in
theorem fch_X12_throwsIf : fchk fd_X12_throwsIf = true := by decide +kernel
set_option maxRecDepth 100000 in
theorem fg_X12_throwsIf : fMg fd_X12_throwsIf ∧ fHok fd_X12_throwsIf := ⟨fMg_of (own := RX12) fch_X12_throwsIf rfl rfl fek_X12, fHok_0 rfl⟩
set_option maxRecDepth 100000 in
set_option maxHeartbeats 4000000 in
theorem fch_X12_feed : fchk fd_X12_feed = true := by decide +kernel
set_option maxRecDepth 100000 in
theorem fg_X12_feed : fMg fd_X12_feed ∧ fHok fd_X12_feed := ⟨fMg_of (own := RX12) fch_X12_feed rfl rfl fek_X12, fHok_0 rfl⟩
set_option maxRecDepth 100000 in
set_option maxHeartbeats 4000000 in
theorem fch_X12_four : fchk fd_X12_four = true := by decide +kernel
set_option maxRecDepth 100000 in
theorem fg_X12_four : fMg fd_X12_four ∧ fHok fd_X12_four := ⟨fMg_of (own := RX12) fch_X12_four rfl rfl fek_X12, fHok_0 rfl⟩
set_option maxRecDepth 100000 in
set_option maxHeartbeats 4000000 in
theorem fch_X12_end : fchk fd_X12_end = true := by decide +kernel
set_option maxRecDepth 100000 in
theorem fg_X12_end : fMg fd_X12_end ∧ fHok fd_X12_end := ⟨fMg_of (own := RX12) fch_X12_end rfl rfl fek_X12, fHok_0 rfl⟩
set_option maxRecDepth 100000 in
set_option maxHeartbeats 4000000 in
theorem fch_X12_taken : fchk fd_X12_taken = true := by decide +kernel
set_option maxRecDepth 100000 in
theorem fg_X12_taken : fMg fd_X12_taken ∧ fHok fd_X12_taken := ⟨fMg_of (own := RX12) fch_X12_taken rfl rfl fek_X12, fHok_0 rfl⟩
set_option maxRecDepth 100000 in
set_option maxHeartbeats 4000000 in
theorem fch_X12_isIn : fchk fd_X12_isIn = true := by decide +kernel
set_option maxRecDepth 100000 in
theorem fg_X12_isIn : fMg fd_X12_isIn ∧ fHok fd_X12_isIn := ⟨fMg_of (own := RX12) fch_X12_isIn rfl rfl fek_X12, fHok_0 rfl⟩
set_option maxRecDepth 100000 in
set_option maxHeartbeats 4000000 in
theorem fch_X12_plain : fchk fd_X12_plain = true := by decide +kernel
set_option maxRecDepth 100000 in
theorem fg_X12_plain : fMg fd_X12_plain ∧ fHok fd_X12_plain := ⟨fMg_of (own := RX12) fch_X12_plain rfl rfl fek_X12, fHok_0 rfl⟩
set_option maxRecDepth 100000 in
set_option maxHeartbeats 4000000 in
theorem fch_X12_octet : fchk fd_X12_octet = true := by decide +kernel
set_option maxRecDepth 100000 in
theorem fg_X12_octet : fMg fd_X12_octet ∧ fHok fd_X12_octet := ⟨fMg_of (own := RX12) fch_X12_octet rfl rfl fek_X12, fHok_0 rfl⟩
set_option maxRecDepth 100000 in
set_option maxHeartbeats 4000000 in
theorem fch_X12_init : fchk fd_X12_init = true := by decide +kernel
set_option maxRecDepth 100000 in
theorem fg_X12_init : fMg fd_X12_init ∧ fHok fd_X12_init := ⟨fMg_of (own := RX12) fch_X12_init rfl rfl fek_X12, fHok_0 rfl⟩
set_option maxRecDepth 100000 in
set_option maxHeartbeats 4000000 in
theorem fch_X12_begin : fchk fd_X12_begin = true := by decide +kernel
set_option maxRecDepth 100000 in
theorem fg_X12_begin : fMg fd_X12_begin ∧ fHok fd_X12_begin := ⟨fMg_of (own := RX12) fch_X12_begin rfl rfl fek_X12, fHok_0 rfl⟩
set_option maxRecDepth 100000 in
set_option maxHeartbeats 4000000 in
theorem fch_X12_peek : fchk fd_X12_peek = true := by decide +kernel
set_option maxRecDepth 100000 in
theorem fg_X12_peek : fMg fd_X12_peek ∧ fHok fd_X12_peek := ⟨fMg_of (own := RX12) fch_X12_peek rfl rfl fek_X12, fHok_0 rfl⟩
set_option maxRecDepth 100000 in
set_option maxHeartbeats 4000000 in
theorem fch_X12_isSmall : fchk fd_X12_isSmall = true := by decide +kernel
set_option maxRecDepth 100000 in
theorem fg_X12_isSmall : fMg fd_X12_isSmall ∧ fHok fd_X12_isSmall := ⟨fMg_of (own := RX12) fch_X12_isSmall rfl rfl fek_X12, fHok_0 rfl⟩
set_option maxRecDepth 100000 in
set_option maxHeartbeats 4000000 in
theorem fch_X12_isDigit : fchk fd_X12_isDigit = true := by decide +kernel
set_option maxRecDepth 100000 in
theorem fg_X12_isDigit : fMg fd_X12_isDigit ∧ fHok fd_X12_isDigit := ⟨fMg_of (own := RX12) fch_X12_isDigit rfl rfl fek_X12, fHok_0 rfl⟩
set_option maxRecDepth 100000 in
set_option maxHeartbeats 4000000 in
theorem fch_X12_next : fchk fd_X12_next = true := by decide +kernel
set_option maxRecDepth 100000 in
theorem fg_X12_next : fMg fd_X12_next ∧ fHok fd_X12_next := ⟨fMg_of (own := RX12) fch_X12_next rfl rfl fek_X12, fHok_0 rfl⟩
set_option maxRecDepth 100000 in
set_option maxHeartbeats 4000000 in
theorem fch_X12_bad : fchk fd_X12_bad = true := by decide +kernel
set_option maxRecDepth 100000 in
theorem fg_X12_bad : fMg fd_X12_bad ∧ fHok fd_X12_bad := ⟨fMg_of (own := RX12) fch_X12_bad rfl rfl fek_X12, fHok_0 rfl⟩
set_option maxRecDepth 100000 in
set_option maxHeartbeats 4000000 in
theorem fch_X12_isWord : fchk fd_X12_isWord = true := by decide +kernel
set_option maxRecDepth 100000 in
theorem fg_X12_isWord : fMg fd_X12_isWord ∧ fHok fd_X12_isWord := ⟨fMg_of (own := RX12) fch_X12_isWord rfl rfl fek_X12, fHok_0 rfl⟩
set_option maxRecDepth 100000 in
set_option maxHeartbeats 4000000 in
theorem fch_X12_isSign : fchk fd_X12_isSign = true := by decide +kernel
set_option maxRecDepth 100000 in
theorem fg_X12_isSign : fMg fd_X12_isSign ∧ fHok fd_X12_isSign := ⟨fMg_of (own := RX12) fch_X12_isSign rfl rfl fek_X12, fHok_0 rfl⟩
set_option maxRecDepth 100000 in
set_option maxHeartbeats 4000000 in
theorem fch_X12_sign : fchk fd_X12_sign = true := by decide +kernel
set_option maxRecDepth 100000 in
theorem fg_X12_sign : fMg fd_X12_sign ∧ fHok fd_X12_sign := ⟨fMg_of (own := RX12) fch_X12_sign rfl rfl fek_X12, fHok_0 rfl⟩
set_option maxRecDepth 100000 in
set_option maxHeartbeats 4000000 in
theorem fch_X12_isName : fchk fd_X12_isName = true := by decide +kernel
set_option maxRecDepth 100000 in
theorem fg_X12_isName : fMg fd_X12_isName ∧ fHok fd_X12_isName := ⟨fMg_of (own := RX12) fch_X12_isName rfl rfl fek_X12, fHok_0 rfl⟩
set_option maxRecDepth 100000 in
set_option maxHeartbeats 4000000 in
theorem fch_X12_find : fchk fd_X12_find = true := by decide +kernel
set_option maxRecDepth 100000 in
theorem fg_X12_find : fMg fd_X12_find ∧ fHok fd_X12_find := ⟨fMg_of (own := RX12) fch_X12_find rfl rfl fek_X12, fHok_0 rfl⟩
set_option maxRecDepth 100000 in
set_option maxHeartbeats 4000000 in
theorem fch_X12_takes : fchk fd_X12_takes = true := by decide +kernel
set_option maxRecDepth 100000 in
theorem fg_X12_takes : fMg fd_X12_takes ∧ fHok fd_X12_takes := ⟨fMg_of (own := RX12) fch_X12_takes rfl rfl fek_X12, fHok_0 rfl⟩
set_option maxRecDepth 100000 in
set_option maxHeartbeats 4000000 in
theorem fch_X12_takesSigned : fchk fd_X12_takesSigned = true := by decide +kernel
set_option maxRecDepth 100000 in
theorem fg_X12_takesSigned : fMg fd_X12_takesSigned ∧ fHok fd_X12_takesSigned := ⟨fMg_of (own := RX12) fch_X12_takesSigned rfl rfl fek_X12, fHok_0 rfl⟩
set_option maxRecDepth 100000 in
set_option maxHeartbeats 4000000 in
theorem fch_X12_takesName : fchk fd_X12_takesName = true := by decide +kernel
set_option maxRecDepth 100000 in
theorem fg_X12_takesName : fMg fd_X12_takesName ∧ fHok fd_X12_takesName := ⟨fMg_of (own := RX12) fch_X12_takesName rfl rfl fek_X12, fHok_0 rfl⟩
set_option maxRecDepth 100000 in
set_option maxHeartbeats 4000000 in
theorem fch_X12_kind : fchk fd_X12_kind = true := by decide +kernel
set_option maxRecDepth 100000 in
theorem fg_X12_kind : fMg fd_X12_kind ∧ fHok fd_X12_kind := ⟨fMg_of (own := RX12) fch_X12_kind rfl rfl fek_X12, fHok_0 rfl⟩
set_option maxRecDepth 100000 in
set_option maxHeartbeats 4000000 in
theorem fch_X12_once : fchk fd_X12_once = true := by decide +kernel
set_option maxRecDepth 100000 in
theorem fg_X12_once : fMg fd_X12_once ∧ fHok fd_X12_once := ⟨fMg_of (own := RX12) fch_X12_once rfl rfl fek_X12, fHok_0 rfl⟩
set_option maxRecDepth 100000 in
set_option maxHeartbeats 4000000 in
theorem fch_X12_oneNumber : fchk fd_X12_oneNumber = true := by decide +kernel
set_option maxRecDepth 100000 in
theorem fg_X12_oneNumber : fMg fd_X12_oneNumber ∧ fHok fd_X12_oneNumber := ⟨fMg_of (own := RX12) fch_X12_oneNumber rfl rfl fek_X12, fHok_0 rfl⟩
set_option maxRecDepth 100000 in
set_option maxHeartbeats 4000000 in
theorem fch_X12_span : fchk fd_X12_span = true := by decide +kernel
set_option maxRecDepth 100000 in
theorem fg_X12_span : fMg fd_X12_span ∧ fHok fd_X12_span := ⟨fMg_of (own := RX12) fch_X12_span rfl rfl fek_X12, fHok_0 rfl⟩
set_option maxRecDepth 100000 in
set_option maxHeartbeats 4000000 in
theorem fch_X12_readHouse : fchk fd_X12_readHouse = true := by decide +kernel
set_option maxRecDepth 100000 in
theorem fg_X12_readHouse : fMg fd_X12_readHouse ∧ fHok fd_X12_readHouse := ⟨fMg_of (own := RX12) fch_X12_readHouse rfl rfl fek_X12, fHok_0 rfl⟩
set_option maxRecDepth 100000 in
set_option maxHeartbeats 4000000 in
theorem fch_X12_line : fchk fd_X12_line = true := by decide +kernel
set_option maxRecDepth 100000 in
theorem fg_X12_line : fMg fd_X12_line ∧ fHok fd_X12_line := ⟨fMg_of (own := RX12) fch_X12_line rfl rfl fek_X12, fHok_0 rfl⟩
set_option maxRecDepth 100000 in
set_option maxHeartbeats 4000000 in
theorem fch_X12_table : fchk fd_X12_table = true := by decide +kernel
set_option maxRecDepth 100000 in
theorem fg_X12_table : fMg fd_X12_table ∧ fHok fd_X12_table := ⟨fMg_of (own := RX12) fch_X12_table rfl rfl fek_X12, fHok_0 rfl⟩
set_option maxRecDepth 100000 in
set_option maxHeartbeats 4000000 in
theorem fch_X12_weeks : fchk fd_X12_weeks = true := by decide +kernel
set_option maxRecDepth 100000 in
theorem fg_X12_weeks : fMg fd_X12_weeks ∧ fHok fd_X12_weeks := ⟨fMg_of (own := RX12) fch_X12_weeks rfl rfl fek_X12, fHok_0 rfl⟩
set_option maxRecDepth 100000 in
set_option maxHeartbeats 4000000 in
theorem fch_X12_readFee : fchk fd_X12_readFee = true := by decide +kernel
set_option maxRecDepth 100000 in
theorem fg_X12_readFee : fMg fd_X12_readFee ∧ fHok fd_X12_readFee := ⟨fMg_of (own := RX12) fch_X12_readFee rfl rfl fek_X12, fHok_0 rfl⟩
set_option maxRecDepth 100000 in
set_option maxHeartbeats 4000000 in
theorem fch_X12_fresh : fchk fd_X12_fresh = true := by decide +kernel
set_option maxRecDepth 100000 in
theorem fg_X12_fresh : fMg fd_X12_fresh ∧ fHok fd_X12_fresh := ⟨fMg_of (own := RX12) fch_X12_fresh rfl rfl fek_X12, fHok_0 rfl⟩
set_option maxRecDepth 100000 in
set_option maxHeartbeats 4000000 in
theorem fch_X12_readPiano : fchk fd_X12_readPiano = true := by decide +kernel
set_option maxRecDepth 100000 in
theorem fg_X12_readPiano : fMg fd_X12_readPiano ∧ fHok fd_X12_readPiano := ⟨fMg_of (own := RX12) fch_X12_readPiano rfl rfl fek_X12, fHok_0 rfl⟩
set_option maxRecDepth 100000 in
set_option maxHeartbeats 4000000 in
theorem fch_X12_more : fchk fd_X12_more = true := by decide +kernel
set_option maxRecDepth 100000 in
theorem fg_X12_more : fMg fd_X12_more ∧ fHok fd_X12_more := ⟨fMg_of (own := RX12) fch_X12_more rfl rfl fek_X12, fHok_0 rfl⟩
set_option maxRecDepth 100000 in
set_option maxHeartbeats 4000000 in
theorem fch_X12_tuner : fchk fd_X12_tuner = true := by decide +kernel
set_option maxRecDepth 100000 in
theorem fg_X12_tuner : fMg fd_X12_tuner ∧ fHok fd_X12_tuner := ⟨fMg_of (own := RX12) fch_X12_tuner rfl rfl fek_X12, fHok_0 rfl⟩
set_option maxRecDepth 100000 in
set_option maxHeartbeats 4000000 in
theorem fch_X12_pupil : fchk fd_X12_pupil = true := by decide +kernel
set_option maxRecDepth 100000 in
theorem fg_X12_pupil : fMg fd_X12_pupil ∧ fHok fd_X12_pupil := ⟨fMg_of (own := RX12) fch_X12_pupil rfl rfl fek_X12, fHok_0 rfl⟩
set_option maxRecDepth 100000 in
set_option maxHeartbeats 4000000 in
theorem fch_X12_teach : fchk fd_X12_teach = true := by decide +kernel
set_option maxRecDepth 100000 in
theorem fg_X12_teach : fMg fd_X12_teach ∧ fHok fd_X12_teach := ⟨fMg_of (own := RX12) fch_X12_teach rfl rfl fek_X12, fHok_0 rfl⟩
set_option maxRecDepth 100000 in
set_option maxHeartbeats 4000000 in
theorem fch_X12_house : fchk fd_X12_house = true := by decide +kernel
set_option maxRecDepth 100000 in
theorem fg_X12_house : fMg fd_X12_house ∧ fHok fd_X12_house := ⟨fMg_of (own := RX12) fch_X12_house rfl rfl fek_X12, fHok_0 rfl⟩
set_option maxRecDepth 100000 in
set_option maxHeartbeats 4000000 in
theorem fch_X12_readRecords : fchk fd_X12_readRecords = true := by decide +kernel
set_option maxRecDepth 100000 in
theorem fg_X12_readRecords : fMg fd_X12_readRecords ∧ fHok fd_X12_readRecords := ⟨fMg_of (own := RX12) fch_X12_readRecords rfl rfl fek_X12, fHok_0 rfl⟩
set_option maxRecDepth 100000 in
set_option maxHeartbeats 4000000 in
theorem fch_X12_record : fchk fd_X12_record = true := by decide +kernel
set_option maxRecDepth 100000 in
theorem fg_X12_record : fMg fd_X12_record ∧ fHok fd_X12_record := ⟨fMg_of (own := RX12) fch_X12_record rfl rfl fek_X12, fHok_0 rfl⟩
set_option maxRecDepth 100000 in
set_option maxHeartbeats 4000000 in
theorem fch_X12_when : fchk fd_X12_when = true := by decide +kernel
set_option maxRecDepth 100000 in
theorem fg_X12_when : fMg fd_X12_when ∧ fHok fd_X12_when := ⟨fMg_of (own := RX12) fch_X12_when rfl rfl fek_X12, fHok_0 rfl⟩
set_option maxRecDepth 100000 in
set_option maxHeartbeats 4000000 in
theorem fch_X12_notes : fchk fd_X12_notes = true := by decide +kernel
set_option maxRecDepth 100000 in
theorem fg_X12_notes : fMg fd_X12_notes ∧ fHok fd_X12_notes := ⟨fMg_of (own := RX12) fch_X12_notes rfl rfl fek_X12, fHok_0 rfl⟩
set_option maxRecDepth 100000 in
set_option maxHeartbeats 4000000 in
theorem fch_X12_records : fchk fd_X12_records = true := by decide +kernel
set_option maxRecDepth 100000 in
theorem fg_X12_records : fMg fd_X12_records ∧ fHok fd_X12_records := ⟨fMg_of (own := RX12) fch_X12_records rfl rfl fek_X12, fHok_0 rfl⟩
set_option maxRecDepth 100000 in
set_option maxHeartbeats 4000000 in
theorem fch_X12_fault : fchk fd_X12_fault = true := by decide +kernel
set_option maxRecDepth 100000 in
theorem fg_X12_fault : fMg fd_X12_fault ∧ fHok fd_X12_fault := ⟨fMg_of (own := RX12) fch_X12_fault rfl rfl fek_X12, fHok_0 rfl⟩
set_option maxRecDepth 100000 in
set_option maxHeartbeats 4000000 in
theorem fch_X12_isPiano : fchk fd_X12_isPiano = true := by decide +kernel
set_option maxRecDepth 100000 in
theorem fg_X12_isPiano : fMg fd_X12_isPiano ∧ fHok fd_X12_isPiano := ⟨fMg_of (own := RX12) fch_X12_isPiano rfl rfl fek_X12, fHok_0 rfl⟩
set_option maxRecDepth 100000 in
set_option maxHeartbeats 4000000 in
theorem fch_X12_isTuner : fchk fd_X12_isTuner = true := by decide +kernel
set_option maxRecDepth 100000 in
theorem fg_X12_isTuner : fMg fd_X12_isTuner ∧ fHok fd_X12_isTuner := ⟨fMg_of (own := RX12) fch_X12_isTuner rfl rfl fek_X12, fHok_0 rfl⟩
set_option maxRecDepth 100000 in
set_option maxHeartbeats 4000000 in
theorem fch_X12_isDay : fchk fd_X12_isDay = true := by decide +kernel
set_option maxRecDepth 100000 in
theorem fg_X12_isDay : fMg fd_X12_isDay ∧ fHok fd_X12_isDay := ⟨fMg_of (own := RX12) fch_X12_isDay rfl rfl fek_X12, fHok_0 rfl⟩
