/-! ===== piano, slipped, beats, wolf, fee, count (by hand) ===== -/
theorem k_piano {M : fM} (hI : Iv M) (a c : Int) : ∃ k M1 b M2, s_L_piano_0_155 M a c = some (k, M1) ∧ M1 1000 = M 1000 ∧ s_X12_piano M1 a c = some (b, M2) ∧ M2 122 0 = k ∧ (k = 0 → M2 155 0 = b) ∧ Iv M2 := by
  obtain ⟨D, hc, hw, hm, -⟩ := hI.2.2.2.1
  have hw := hw.1
  by_cases h : (0 ≤ a ∧ a < D 4 13) ∧ (0 ≤ c ∧ c < 10)
  · refine ⟨0, fup M 155 0 (D 10 (a * 10 + c).toNat), D 10 (a * 10 + c).toNat, fup (fup M 155 0 (D 10 (a * 10 + c).toNat)) 122 0 0, ?_, fup_ne (by decide), ?_, ?_, fun _ => ?_, ?_⟩
    · unfold s_L_piano_0_155 s_X11_piano
      rw [c_hasPiano, c_isWithin, CR_r hc 4 (by decide) (by decide), c_fact hc hw h.1.1 h.1.2 h.2.1 h.2.2]
      simp only [Option.bind_some, bit_if, bit_ifn]
      rw [if_pos h.1, if_pos h.2]
      rfl
    · have hm' : MRh (fup M 155 0 (D 10 (a * 10 + c).toNat)) 124 0 D := MRh_row (fup_ne (by decide)) hm
      have hm2 : MRh (fup (fup M 155 0 (D 10 (a * 10 + c).toNat)) 122 0 0) 124 0 D := MRh_row (fup_ne (by decide)) hm'
      unfold s_X12_piano s_X12_piano_j24 s_X12_piano_j19
      rw [m_isPiano hm' hw, m_isIn]
      simp only [Option.bind_some, bit_if, bit_ifn]
      rw [if_pos h.1, if_pos (by omega)]
      rw [show s_X12_throwsIf (fup M 155 0 (D 10 (a * 10 + c).toNat)) 0 = some (0, fup (fup M 155 0 (D 10 (a * 10 + c).toNat)) 122 0 0) from rfl]
      simp only [Option.bind_some, if_true]
      rw [m_of hm2 hw h.1.1 h.1.2 h.2.1 h.2.2]
      rfl
    · rw [fup_eq]; rfl
    · rw [fup_ne (by decide), fup_eq]; rfl
    · exact Iv_thrown (Iv_same (fs_up1 M 155 0 _) (by decide) hI)
  · refine ⟨1, M, 0, fup M 122 0 1, ?_, rfl, ?_, ?_, fun e => absurd e (by decide), Iv_thrown hI⟩
    · unfold s_L_piano_0_155 s_X11_piano
      rw [c_hasPiano, c_isWithin, CR_r hc 4 (by decide) (by decide)]
      simp only [Option.bind_some, bit_if, bit_ifn]
      by_cases h1 : 0 ≤ a ∧ a < D 4 13
      · rw [if_pos h1, if_neg (fun e => h ⟨h1, e⟩)]
        rfl
      · rw [if_neg h1]
        rfl
    · unfold s_X12_piano s_X12_piano_j19 s_X12_piano_j24
      rw [m_isPiano hm hw, m_isIn]
      simp only [Option.bind_some, bit_if, bit_ifn]
      by_cases h1 : 0 ≤ a ∧ a < D 4 13
      · rw [if_pos h1, if_neg (by omega)]
        rfl
      · rw [if_neg h1]
        rfl
    · rw [fup_eq]; rfl
theorem k_slipped {M : fM} (hI : Iv M) (a : Int) : ∃ k M1 b M2, s_L_slipped_0_155 M a = some (k, M1) ∧ M1 1000 = M 1000 ∧ s_X12_slipped M1 a = some (b, M2) ∧ M2 122 0 = k ∧ (k = 0 → M2 155 0 = b) ∧ Iv M2 := by
  obtain ⟨e1, e2⟩ := hI.2.2.1.2.1
  by_cases h : (0 ≤ a ∧ a < 2) ∧ ¬ M 47 8 = 0
  · refine ⟨0, fup M 155 0 (if a = 0 then M 47 7 else M 47 8), (if a = 0 then M 47 7 else M 47 8), fup (fup M 155 0 (if a = 0 then M 47 7 else M 47 8)) 122 0 0, ?_, fup_ne (by decide), ?_, ?_, fun _ => ?_, ?_⟩
    · unfold s_L_slipped_0_155 s_X11_slipped
      rw [c_isWithin]
      simp only [Option.bind_some, bit_if]
      rw [if_pos h.1, if_pos h.2]
      by_cases ha : a = 0
      · rw [if_neg (by omega), if_pos ha]; rfl
      · rw [if_pos ha, if_neg ha]; rfl
    · unfold s_X12_slipped s_X12_slipped_j22 s_X12_slipped_j17
      rw [fup_ne (by decide), m_isIn, if_neg (by rw [← e2]; exact h.2)]
      simp only [Option.bind_some, bit_ifn]
      rw [if_pos (by omega)]
      rw [show s_X12_throwsIf (fup M 155 0 (if a = 0 then M 47 7 else M 47 8)) 0 = some (0, fup (fup M 155 0 (if a = 0 then M 47 7 else M 47 8)) 122 0 0) from rfl]
      simp only [Option.bind_some, if_true]
      rw [show ∀ v, fup (fup M 155 0 v) 122 0 0 122 32 = M 122 32 from fun v => rfl, show ∀ v, fup (fup M 155 0 v) 122 0 0 122 31 = M 122 31 from fun v => rfl, ← e1, ← e2]
      by_cases ha : a = 0
      · rw [if_neg (by omega), if_pos ha]
      · rw [if_pos ha, if_neg ha]
    · rw [fup_eq]; rfl
    · rw [fup_ne (by decide), fup_eq]; rfl
    · exact Iv_thrown (Iv_same (fs_up1 M 155 0 _) (by decide) hI)
  · refine ⟨1, M, 0, fup M 122 0 1, ?_, rfl, ?_, ?_, fun e => absurd e (by decide), Iv_thrown hI⟩
    · unfold s_L_slipped_0_155 s_X11_slipped
      rw [c_isWithin]
      simp only [Option.bind_some, bit_if]
      by_cases h1 : 0 ≤ a ∧ a < 2
      · rw [if_pos h1, if_neg (fun e => h ⟨h1, e⟩)]
        rfl
      · rw [if_neg h1]
        rfl
    · unfold s_X12_slipped s_X12_slipped_j17 s_X12_slipped_j22
      rw [m_isIn, ← e2]
      simp only [Option.bind_some, bit_ifn]
      by_cases h2 : M 47 8 = 0
      · rw [if_pos h2]
        rfl
      · rw [if_neg h2, if_neg (by omega)]
        rfl
    · rw [fup_eq]; rfl
/-! beats -/
def absI (x : Int) : Int := if 0 ≤ x then x else -x
theorem c_abs (M : fM) {x : Int} (h1 : -2147483647 ≤ x) (h2 : x < 2147483648) : s_J9_abs M x = some (absI x) := by
  unfold s_J9_abs absI
  by_cases h : 0 ≤ x
  · rw [if_pos h, if_pos h]
  · rw [if_neg h, if_neg h, if_pos (by unfold fin; omega)]
theorem m_plain (M : fM) {x : Int} (h1 : -2147483647 ≤ x) (h2 : x < 2147483648) : s_X12_plain M x = some (absI x) := by
  unfold s_X12_plain absI
  by_cases h : 0 ≤ x
  · rw [if_pos h, if_pos h]
  · rw [if_neg h, if_neg h, if_pos (by unfold fin; omega)]
theorem st_steps {M : fM} (h : St M) : M 1002 0 = 7 ∧ M 1002 1 = 4 ∧ M 1002 2 = 3 ∧ M 1002 3 = 5 ∧ M 1003 0 = 3 ∧ M 1003 1 = 5 ∧ M 1003 2 = 6 ∧ M 1003 3 = 4 :=
  have g := h.2.2.1
  have k := h.2.2.2.1
  ⟨(g 0 (by decide)).trans (by decide), (g 1 (by decide)).trans (by decide), (g 2 (by decide)).trans (by decide), (g 3 (by decide)).trans (by decide), (k 0 (by decide)).trans (by decide), (k 1 (by decide)).trans (by decide), (k 2 (by decide)).trans (by decide), (k 3 (by decide)).trans (by decide)⟩
def tone (D : fM) (k : Int) : Int := if 12 ≤ k then 2 * D 5 (k - 12).toNat else D 5 k.toNat
def btsV (D : fM) (n s t : Int) : Int := absI (t * D 5 n.toNat - (t - 1) * tone D (n + s))
def bts (D : fM) (n c : Int) : Int := if c = 0 then btsV D n 7 3 else if c = 1 then btsV D n 4 5 else if c = 2 then btsV D n 3 6 else btsV D n 5 4
theorem tone_b {D : fM} (ht : ∀ j : Int, 0 ≤ j → j < 12 → 1000 ≤ D 5 j.toNat ∧ D 5 j.toNat ≤ 99999) {k : Int} (h1 : 0 ≤ k) (h2 : k < 24) : 1000 ≤ tone D k ∧ tone D k ≤ 199998 := by
  unfold tone
  split
  · have := ht (k - 12) (by omega) (by omega); omega
  · have := ht k h1 (by omega); omega
theorem m_pitch {M D : fM} (hm : MRh M 124 0 D) (h0 : 0 < D 5 0) (ht : ∀ j : Int, 0 ≤ j → j < 12 → 1000 ≤ D 5 j.toNat ∧ D 5 j.toNat ≤ 99999) {k : Int} (h1 : 0 ≤ k) (h2 : k < 24) : s_X12_pitch M k = some (tone D k) := by
  unfold s_X12_pitch tone
  by_cases h : 12 ≤ k
  · rw [if_pos h, if_pos h, mh_table hm h0 (k - 12) (by omega) (by omega) (by omega)]
    have := ht (k - 12) (by omega) (by omega)
    rw [if_pos (by unfold fin; omega)]
  · rw [if_neg h, if_neg h, mh_table hm h0 k (by omega) (by omega) (by omega)]
    rw [if_pos (by unfold fin; omega)]
theorem m_beatsOf {M D : fM} (hm : MRh M 124 0 D) (h0 : 0 < D 5 0) (ht : ∀ j : Int, 0 ≤ j → j < 12 → 1000 ≤ D 5 j.toNat ∧ D 5 j.toNat ≤ 99999) {n c : Int} (h1 : 0 ≤ n) (h2 : n < 12) (h3 : 0 ≤ c) (h4 : c < 4) : s_X12_beatsOf M n c = some (bts D n c) := by
  have e0 : tone D n = D 5 n.toNat := by unfold tone; rw [if_neg (by omega)]
  have b0 := ht n h1 h2
  unfold s_X12_beatsOf s_X12_beatsOf_j83 bts btsV
  rw [m_pitch hm h0 ht h1 (by omega), e0]
  simp only [Option.bind_some]
  obtain rfl | rfl | rfl | rfl : c = 0 ∨ c = 1 ∨ c = 2 ∨ c = 3 := by omega
  · have b1 := tone_b ht (k := n + 7) (by omega) (by omega)
    rw [if_neg (by omega), if_pos (by unfold fin; omega), m_pitch hm h0 ht (by omega) (by omega)]
    simp only [Option.bind_some]
    rw [if_pos (by unfold fin; omega), m_plain M (by omega) (by omega)]
    rfl
  · have b1 := tone_b ht (k := n + 4) (by omega) (by omega)
    rw [if_pos (by omega), if_neg (by omega), if_pos (by unfold fin; omega), m_pitch hm h0 ht (by omega) (by omega)]
    simp only [Option.bind_some]
    rw [if_pos (by unfold fin; omega), m_plain M (by omega) (by omega)]
    rfl
  · have b1 := tone_b ht (k := n + 3) (by omega) (by omega)
    rw [if_pos (by omega), if_pos (by omega), if_neg (by omega), if_pos (by unfold fin; omega), m_pitch hm h0 ht (by omega) (by omega)]
    simp only [Option.bind_some]
    rw [if_pos (by unfold fin; omega), m_plain M (by omega) (by omega)]
    rfl
  · have b1 := tone_b ht (k := n + 5) (by omega) (by omega)
    rw [if_pos (by omega), if_pos (by omega), if_pos (by omega), if_pos (by unfold fin; omega), m_pitch hm h0 ht (by omega) (by omega)]
    simp only [Option.bind_some]
    rw [if_pos (by unfold fin; omega), m_plain M (by omega) (by omega)]
    rfl
theorem c_beatsOf' {M D : fM} (hc : CR M 0 D) (ht : ∀ j : Int, 0 ≤ j → j < 12 → 1000 ≤ D 5 j.toNat ∧ D 5 j.toNat ≤ 99999) {n c s t : Int} (h1 : 0 ≤ n) (h2 : n < 12) (h3 : 0 ≤ c) (h4 : c < 4) (es : M 1002 c.toNat = s) (et : M 1003 c.toNat = t) (hs : 3 ≤ s ∧ s ≤ 7) (hv : -2147483647 ≤ t * D 5 n.toNat - (t - 1) * tone D (n + s) ∧ t * D 5 n.toNat - (t - 1) * tone D (n + s) < 2147483648) (g1 : fin (t * D 5 n.toNat)) (g2 : fin (t - 1)) (g3 : fin ((t - 1) * tone D (n + s))) : s_X2_beatsOf_4 M n c = some (btsV D n s t) := by
  unfold s_X2_beatsOf_4 s_X2_beatsOf_4_j34 btsV
  rw [es, et, CR_r hc 5 (by decide) (by decide), if_pos (by unfold fin; omega)]
  have g4 : fin (t * D 5 n.toNat - (t - 1) * tone D (n + s)) := ⟨by omega, by omega⟩
  by_cases h : 12 ≤ n + s
  · have e : tone D (n + s) = 2 * D 5 (n + s - 12).toNat := by unfold tone; rw [if_pos h]
    have := ht (n + s - 12) (by omega) (by omega)
    rw [if_pos h, if_pos (by unfold fin; omega), ← e, if_pos ⟨⟨h3, h4⟩, ⟨h1, h2⟩, g1, g2, g3, g4⟩, c_abs M hv.1 hv.2]
    rfl
  · have e : tone D (n + s) = D 5 (n + s).toNat := by unfold tone; rw [if_neg h]
    rw [if_neg h, if_pos (by omega), ← e, if_pos ⟨⟨h3, h4⟩, ⟨h1, h2⟩, g1, g2, g3, g4⟩, c_abs M hv.1 hv.2]
    rfl
theorem c_beatsOf {M D : fM} (hS : St M) (hc : CR M 0 D) (ht : ∀ j : Int, 0 ≤ j → j < 12 → 1000 ≤ D 5 j.toNat ∧ D 5 j.toNat ≤ 99999) {n c : Int} (h1 : 0 ≤ n) (h2 : n < 12) (h3 : 0 ≤ c) (h4 : c < 4) : s_X2_beatsOf_4 M n c = some (bts D n c) := by
  obtain ⟨a0, a1, a2, a3, b0, b1, b2, b3⟩ := st_steps hS
  have q0 := ht n h1 h2
  unfold bts
  obtain rfl | rfl | rfl | rfl : c = 0 ∨ c = 1 ∨ c = 2 ∨ c = 3 := by omega
  · have q1 := tone_b ht (k := n + 7) (by omega) (by omega)
    exact c_beatsOf' hc ht h1 h2 h3 h4 a0 b0 (by omega) (by omega) (by unfold fin; omega) (by unfold fin; omega) (by unfold fin; omega)
  · have q1 := tone_b ht (k := n + 4) (by omega) (by omega)
    exact c_beatsOf' hc ht h1 h2 h3 h4 a1 b1 (by omega) (by omega) (by unfold fin; omega) (by unfold fin; omega) (by unfold fin; omega)
  · have q1 := tone_b ht (k := n + 3) (by omega) (by omega)
    exact c_beatsOf' hc ht h1 h2 h3 h4 a2 b2 (by omega) (by omega) (by unfold fin; omega) (by unfold fin; omega) (by unfold fin; omega)
  · have q1 := tone_b ht (k := n + 5) (by omega) (by omega)
    exact c_beatsOf' hc ht h1 h2 h3 h4 a3 b3 (by omega) (by omega) (by unfold fin; omega) (by unfold fin; omega) (by unfold fin; omega)
theorem WFt_pos {D : fM} (h : WFt D) (h0 : 0 < D 5 0) : ∀ j : Int, 0 ≤ j → j < 12 → 1000 ≤ D 5 j.toNat ∧ D 5 j.toNat ≤ 99999 := by
  rcases h with h | h
  · omega
  · exact h
theorem c_hasTable {M D : fM} (hc : CR M 0 D) : s_X2_hasTable_4 M = some (bit (0 < D 5 0)) := by
  unfold s_X2_hasTable_4 bit
  rw [CR_r hc 5 (by decide) (by decide)]
  repeat' split
  all_goals first | rfl | (exfalso; omega)
theorem k_beats {M : fM} (hI : Iv M) (a b : Int) : ∃ v M2, s_X11_beats M a b = some v ∧ s_X12_beats M a b = some (v, M2) ∧ Iv M2 := by
  obtain ⟨D, hc, hw, hm, -⟩ := hI.2.2.2.1
  have hm' : MRh (fup M 122 0 0) 124 0 D := MRh_row (fup_ne (by decide)) hm
  refine ⟨if 0 ≤ a ∧ a < 12 then (if 0 ≤ b ∧ b < 4 then (if 0 < D 5 0 then bts D a b else -1) else -1) else -1, _, ?_, ?_, Iv_thrown hI (v := 0)⟩
  · unfold s_X11_beats
    rw [c_isWithin, c_isWithin, c_hasTable hc]
    simp only [Option.bind_some, bit_if, bit_ifn]
    by_cases h : 0 ≤ a ∧ a < 12
    · rw [if_pos h, if_pos h]
      by_cases h2 : 0 ≤ b ∧ b < 4
      · rw [if_pos h2, if_pos h2]
        by_cases h3 : 0 < D 5 0
        · rw [if_pos h3, if_pos h3, c_beatsOf hI.1 hc (WFt_pos hw.2.1 h3) h.1 h.2 h2.1 h2.2]
          rfl
        · rw [if_neg h3, if_neg h3]
      · rw [if_neg h2, if_neg h2]
    · rw [if_neg h, if_neg h]
  · unfold s_X12_beats
    rw [m_isIn, m_isIn, mh_flag hm]
    simp only [Option.bind_some, bit_if]
    by_cases h : 0 ≤ a ∧ a < 12
    · rw [if_pos h, if_pos (by omega)]
      by_cases h2 : 0 ≤ b ∧ b < 4
      · rw [if_pos h2, if_pos (by omega)]
        by_cases h3 : 0 < D 5 0
        · rw [show (if 0 < D 5 0 then (1 : Int) else 0) = 1 from if_pos h3, if_pos h3]
          rw [if_neg (by omega), m_beatsOf hm' h3 (WFt_pos hw.2.1 h3) h.1 h.2 h2.1 h2.2]
          rfl
        · rw [show (if 0 < D 5 0 then (1 : Int) else 0) = 0 from if_neg h3, if_neg h3]
          rw [if_pos (by omega)]
      · rw [if_neg h2, if_neg (by omega)]
    · rw [if_neg h, if_neg (by omega)]
def wolfF (D : fM) (c : Int) : Nat → Int
  | 0 => 0
  | i + 1 => if bts D (i + 1) c ≤ bts D (wolfF D c i) c then wolfF D c i else i + 1
theorem wolfF_s (D : fM) (c : Int) (i : Nat) : wolfF D c (i + 1) = if bts D (i + 1) c ≤ bts D (wolfF D c i) c then wolfF D c i else i + 1 := rfl
theorem wolfF_b (D : fM) (c : Int) : ∀ i : Nat, 0 ≤ wolfF D c i ∧ wolfF D c i ≤ i
  | 0 => by unfold wolfF; omega
  | i + 1 => by
    have := wolfF_b D c i
    unfold wolfF
    split <;> omega
theorem k_wolf {M : fM} (hI : Iv M) (a : Int) : ∃ v M2, s_X11_wolf M a = some v ∧ s_X12_wolf M a = some (v, M2) ∧ Iv M2 := by
  obtain ⟨D, hc, hw, hm, -⟩ := hI.2.2.2.1
  have hm' : MRh (fup M 122 0 0) 124 0 D := MRh_row (fup_ne (by decide)) hm
  refine ⟨if 0 ≤ a ∧ a < 4 then (if 0 < D 5 0 then wolfF D a 11 else -1) else -1, _, ?_, ?_, Iv_thrown hI (v := 0)⟩
  · unfold s_X11_wolf
    rw [c_isWithin, c_hasTable hc]
    simp only [Option.bind_some, bit_if, bit_ifn]
    by_cases h : 0 ≤ a ∧ a < 4
    · rw [if_pos h, if_pos h]
      by_cases h3 : 0 < D 5 0
      · rw [if_pos h3, if_pos h3]
        have key : s_X2_wildest_4_l4 M a (0, 1) = some (wolfF D a 11) := by
          unfold s_X2_wildest_4_l4
          refine fLp_for (fun i => (wolfF D a i, (i : Int) + 1)) 11 (fun i hi => ?_) ?_
          · have hb := wolfF_b D a i
            show s_X2_wildest_4_b4 M a (wolfF D a i) ((i : Int) + 1) = _
            unfold s_X2_wildest_4_b4
            rw [if_neg (by omega), c_beatsOf hI.1 hc (WFt_pos hw.2.1 h3) (by omega) (by omega) h.1 h.2, c_beatsOf hI.1 hc (WFt_pos hw.2.1 h3) (by omega) (by omega) h.1 h.2]
            simp only [Option.bind_some]
            have hf : fin ((i : Int) + 1 + 1) := by unfold fin; omega
            rw [if_pos hf, if_pos hf]
            show _ = some (Sum.inl (wolfF D a (i + 1), ((i + 1 : Nat) : Int) + 1))
            rw [wolfF_s]
            split <;> rfl
          · rfl
        unfold s_X2_wildest_4
        rw [key]
        rfl
      · rw [if_neg h3, if_neg h3]
    · rw [if_neg h, if_neg h]
  · unfold s_X12_wolf
    rw [m_isIn, mh_flag hm]
    simp only [Option.bind_some, bit_if]
    by_cases h : 0 ≤ a ∧ a < 4
    · rw [if_pos h, if_pos (by omega)]
      by_cases h3 : 0 < D 5 0
      · rw [show (if 0 < D 5 0 then (1 : Int) else 0) = 1 from if_pos h3, if_pos h3]
        rw [if_pos (by omega)]
        have key : s_X12_wolf_l29 (fup M 122 0 0) a (0, 1) = some (wolfF D a 11) := by
          unfold s_X12_wolf_l29
          refine fLp_for (fun i => (wolfF D a i, (i : Int) + 1)) 11 (fun i hi => ?_) ?_
          · have hb := wolfF_b D a i
            show s_X12_wolf_b29 (fup M 122 0 0) a (wolfF D a i) ((i : Int) + 1) = _
            unfold s_X12_wolf_b29
            rw [if_neg (by omega), m_beatsOf hm' h3 (WFt_pos hw.2.1 h3) (by omega) (by omega) h.1 h.2, m_beatsOf hm' h3 (WFt_pos hw.2.1 h3) (by omega) (by omega) h.1 h.2]
            simp only [Option.bind_some]
            have hf : fin ((i : Int) + 1 + 1) := by unfold fin; omega
            rw [if_pos hf, if_pos hf]
            show _ = some (Sum.inl (wolfF D a (i + 1), ((i + 1 : Nat) : Int) + 1))
            rw [wolfF_s]
            split <;> rfl
          · rfl
        rw [key]
        rfl
      · rw [show (if 0 < D 5 0 then (1 : Int) else 0) = 0 from if_neg h3, if_neg h3]
        rw [if_neg (by omega)]
    · rw [if_neg h, if_neg (by omega)]
