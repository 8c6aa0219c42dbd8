/-! ===== calls that only look (by hand) ===== -/
theorem CR_r {M D : fM} (h : CR M 0 D) (k : Nat) (h1 : 4 ≤ k) (h2 : k ≤ 26) : M k = D k := h k h1 h2
/-- the reference's numbers by place -/
theorem mh_flag {M D : fM} (h : MRh M 124 0 D) : M 124 0 = if 0 < D 5 0 then 1 else 0 := h.1 0 rfl
theorem mh_table {M D : fM} (h : MRh M 124 0 D) (h0 : 0 < D 5 0) {z : Int} (j : Int) (e : z = 1 + j) (h1 : 0 ≤ j) (h2 : j < 12) : M 124 z.toNat = D 5 j.toNat := h.2.1 h0 z j (by omega) h1 h2
theorem mh_damp {M D : fM} (h : MRh M 124 0 D) {z : Int} (w : Int) (e : z = 13 + w) (h1 : 0 ≤ w) (h2 : w < 52) : M 124 z.toNat = D 6 w.toNat := h.2.2.1 z w (by omega) h1 h2
theorem mh_term {M D : fM} (h : MRh M 124 0 D) {z : Int} (w : Int) (e : z = 65 + w) (h1 : 0 ≤ w) (h2 : w < 52) : M 124 z.toNat = D 7 w.toNat := h.2.2.2.1 z w (by omega) h1 h2
theorem mh_fees {M D : fM} (h : MRh M 124 0 D) : M 124 117 = D 4 16 := h.2.2.2.2.1 117 rfl
theorem mh_fee {M D : fM} (h : MRh M 124 0 D) {z : Int} (i c : Int) (e : z = 118 + 3 * i + c) (h1 : 0 ≤ i) (h2 : i < D 4 16) (h3 : 0 ≤ c) (h4 : c < 3) : M 124 z.toNat = D 9 (i * 3 + c).toNat := h.2.2.2.2.2.1 z i c (by omega) h1 h2 h3 h4
theorem mh_rule {M D : fM} (h : MRh M 124 0 D) : M 124 166 = D 8 0 ∧ M 124 167 = D 8 1 ∧ M 124 168 = D 8 2 ∧ M 124 169 = D 8 3 ∧ M 124 170 = D 8 4 ∧ M 124 171 = D 8 5 :=
  have g := h.2.2.2.2.2.2.1
  ⟨g 166 0 rfl (by decide) (by decide), g 167 1 rfl (by decide) (by decide), g 168 2 rfl (by decide) (by decide), g 169 3 rfl (by decide) (by decide), g 170 4 rfl (by decide) (by decide), g 171 5 rfl (by decide) (by decide)⟩
theorem mh_n {M D : fM} (h : MRh M 124 0 D) : M 124 172 = D 4 13 ∧ M 124 173 = D 4 14 ∧ M 124 174 = D 4 15 :=
  have g := h.2.2.2.2.2.2.2.1
  ⟨g 172 0 rfl (by decide) (by decide), g 173 1 rfl (by decide) (by decide), g 174 2 rfl (by decide) (by decide)⟩
theorem mh_fact {M D : fM} (h : MRh M 124 0 D) {z : Int} (p w : Int) (e : z = 175 + 10 * p + w) (h1 : 0 ≤ p) (h2 : p < D 4 13) (h3 : 0 ≤ w) (h4 : w < 10) : M 124 z.toNat = D 10 (p * 10 + w).toNat := h.2.2.2.2.2.2.2.2.1 z p w (by omega) h1 h2 h3 h4
theorem mh_slip {M D : fM} (h : MRh M 124 0 D) {z : Int} (p n : Int) (e : z = 335 + 12 * p + n) (h1 : 0 ≤ p) (h2 : p < D 4 13) (h3 : 0 ≤ n) (h4 : n < 12) : M 124 z.toNat = D 11 (p * 12 + n).toNat := h.2.2.2.2.2.2.2.2.2.1 z p n (by omega) h1 h2 h3 h4
theorem mh_frail {M D : fM} (h : MRh M 124 0 D) {z : Int} (p g : Int) (e : z = 527 + 4 * p + g) (h1 : 0 ≤ p) (h2 : p < D 4 13) (h3 : 0 ≤ g) (h4 : g < 4) : M 124 z.toNat = D 12 (p * 4 + g).toNat := h.2.2.2.2.2.2.2.2.2.2.1 z p g (by omega) h1 h2 h3 h4
theorem mh_tuner {M D : fM} (h : MRh M 124 0 D) {z : Int} (t c : Int) (e : z = 591 + 3 * t + c) (h1 : 0 ≤ t) (h2 : t < D 4 14) (h3 : 0 ≤ c) (h4 : c < 3) : M 124 z.toNat = D 13 (t * 3 + c).toNat := h.2.2.2.2.2.2.2.2.2.2.2.1 z t c (by omega) h1 h2 h3 h4
theorem mh_teach {M D : fM} (h : MRh M 124 0 D) {z : Int} (t u : Int) (e : z = 609 + 6 * t + u) (h1 : 0 ≤ t) (h2 : t < 6) (h3 : 0 ≤ u) (h4 : u < 6) : M 124 z.toNat = D 14 (t * 6 + u).toNat := h.2.2.2.2.2.2.2.2.2.2.2.2 z t u (by omega) h1 h2 h3 h4
theorem mr_kind {M D : fM} (h : MRr M 125 0 D) {z : Int} (i : Int) (e : z = 19 * i) (h1 : 0 ≤ i) (h2 : i < D 18 8) : M 125 z.toNat = D 19 i.toNat := h.1 z i (by omega) h1 h2
theorem mr_piano {M D : fM} (h : MRr M 125 0 D) {z : Int} (i : Int) (e : z = 19 * i + 1) (h1 : 0 ≤ i) (h2 : i < D 18 8) : M 125 z.toNat = D 20 i.toNat := h.2.1 z i (by omega) h1 h2
theorem mr_on {M D : fM} (h : MRr M 125 0 D) {z : Int} (i : Int) (e : z = 19 * i + 2) (h1 : 0 ≤ i) (h2 : i < D 18 8) : M 125 z.toNat = D 21 i.toNat := h.2.2.1 z i (by omega) h1 h2
theorem mr_known {M D : fM} (h : MRr M 125 0 D) {z : Int} (i : Int) (e : z = 19 * i + 3) (h1 : 0 ≤ i) (h2 : i < D 18 8) : M 125 z.toNat = D 22 i.toNat := h.2.2.2.1 z i (by omega) h1 h2
theorem mr_first {M D : fM} (h : MRr M 125 0 D) {z : Int} (i : Int) (e : z = 19 * i + 4) (h1 : 0 ≤ i) (h2 : i < D 18 8) (hk : D 19 i.toNat = 0 ∨ D 19 i.toNat = 2 ∨ D 19 i.toNat = 3 ∨ D 19 i.toNat = 6) : M 125 z.toNat = D 23 i.toNat := h.2.2.2.2.1 z i (by omega) h1 h2 hk
theorem mr_second {M D : fM} (h : MRr M 125 0 D) {z : Int} (i : Int) (e : z = 19 * i + 5) (h1 : 0 ≤ i) (h2 : i < D 18 8) (hk : D 19 i.toNat = 6) : M 125 z.toNat = D 24 i.toNat := h.2.2.2.2.2.1 z i (by omega) h1 h2 hk
theorem mr_told {M D : fM} (h : MRr M 125 0 D) {z : Int} (i : Int) (e : z = 19 * i + 6) (h1 : 0 ≤ i) (h2 : i < D 18 8) : M 125 z.toNat = D 25 i.toNat := h.2.2.2.2.2.2.1 z i (by omega) h1 h2
theorem mr_left {M D : fM} (h : MRr M 125 0 D) {z : Int} (i n : Int) (e : z = 19 * i + 7 + n) (h1 : 0 ≤ i) (h2 : i < D 18 8) (h3 : 0 ≤ n) (h4 : n < 12) : M 125 z.toNat = D 26 (i * 12 + n).toNat := h.2.2.2.2.2.2.2 z i n (by omega) h1 h2 h3 h4
/-! small methods of the reference and the class -/
theorem m_isDay (M : fM) (d : Int) : s_X12_isDay M d = some (bit (0 ≤ d ∧ d < 364)) := by
  unfold s_X12_isDay
  rw [m_isIn]
  simp only [Option.bind_some, bit_g]
  congr 1
  unfold bit
  repeat' split
  all_goals first | rfl | (exfalso; omega)
theorem m_isKnown (M : fM) (d : Int) : s_X12_isKnown M d = some (bit (-1 ≤ d ∧ d < 364)) := by
  unfold s_X12_isKnown
  rw [m_isIn]
  simp only [Option.bind_some, bit_g]
  congr 1
  unfold bit
  repeat' split
  all_goals first | rfl | (exfalso; omega)
theorem m_isPiano {M D : fM} (h : MRh M 124 0 D) (hw : WFn D) (p : Int) : s_X12_isPiano M p = some (bit (0 ≤ p ∧ p < D 4 13)) := by
  unfold s_X12_isPiano
  rw [(mh_n h).1, m_isIn, if_pos (by have := hw.1; unfold fin; omega)]
  simp only [Option.bind_some, bit_g]
  congr 1
  unfold bit
  repeat' split
  all_goals first | rfl | (exfalso; omega)
theorem m_isTuner {M D : fM} (h : MRh M 124 0 D) (hw : WFn D) (p : Int) : s_X12_isTuner M p = some (bit (0 ≤ p ∧ p < D 4 14)) := by
  unfold s_X12_isTuner
  rw [(mh_n h).2.1, m_isIn, if_pos (by have := hw.2.1; unfold fin; omega)]
  simp only [Option.bind_some, bit_g]
  congr 1
  unfold bit
  repeat' split
  all_goals first | rfl | (exfalso; omega)
theorem m_of {M D : fM} (h : MRh M 124 0 D) (hw : WFn D) {p w : Int} (h1 : 0 ≤ p) (h2 : p < D 4 13) (h3 : 0 ≤ w) (h4 : w < 10) : s_X12_of M p w = some (D 10 (p * 10 + w).toNat) := by
  unfold s_X12_of
  have := hw.1
  rw [if_pos (by unfold fin; omega), mh_fact h p w rfl h1 h2 h3 h4]
theorem c_fact {M D : fM} (h : CR M 0 D) (hw : WFn D) {p w : Int} (h1 : 0 ≤ p) (h2 : p < D 4 13) (h3 : 0 ≤ w) (h4 : w < 10) : s_X2_fact_4 M p w = some (D 10 (p * 10 + w).toNat) := by
  unfold s_X2_fact_4
  have := hw.1
  rw [if_pos (by unfold fin; omega), CR_r h 10 (by decide) (by decide)]
theorem m_throwsIf (M : fM) (c : Prop) [Decidable c] : s_X12_throwsIf M (bit c) = some (bit c, fup M 122 0 (bit c)) := by
  unfold s_X12_throwsIf
  by_cases h : c
  · have e : bit c = 1 := bit1.mpr h
    rw [e]; rfl
  · have e : bit c = 0 := bit0.mpr h
    rw [e]; rfl
theorem c_isAsked {M D : fM} (h : CR M 0 D) (p d k : Int) : s_X11_isAsked M p d k = some (bit ((0 ≤ p ∧ p < D 4 13) ∧ (0 ≤ d ∧ d < 364) ∧ (-1 ≤ k ∧ k < 364))) := by
  unfold s_X11_isAsked
  rw [c_hasPiano, c_isWithin, c_isKnowing, CR_r h 4 (by decide) (by decide)]
  simp only [Option.bind_some, bit_if]
  unfold bit
  repeat' split
  all_goals first | rfl | (exfalso; omega)
/-! ===== calls ===== -/
theorem k_fault {M : fM} (hI : Iv M) : ∃ v M2, s_X11_fault M = some v ∧ s_X12_fault M = some (v, M2) ∧ Iv M2 :=
  ⟨M 0 14, _, rfl, by unfold s_X12_fault; rw [← hI.2.2.1.1], Iv_thrown hI⟩
theorem k_home {M : fM} (hI : Iv M) : ∃ v M2, s_X11_home M = some v ∧ s_X12_home M = some (v, M2) ∧ Iv M2 :=
  ⟨M 54 16, _, rfl, by unfold s_X12_home; rw [← hI.2.2.1.2.2.2.1], Iv_thrown hI⟩
theorem k_chance {M : fM} (hI : Iv M) : ∃ v M2, s_X11_chance M = some v ∧ s_X12_chance M = some (v, M2) ∧ Iv M2 :=
  ⟨M 67 5, _, rfl, by unfold s_X12_chance; rw [← hI.2.2.1.2.2.2.2.1], Iv_thrown hI⟩
theorem k_roundAt {M : fM} (hI : Iv M) (a : Int) : ∃ v M2, s_X11_roundAt M a = some v ∧ s_X12_roundAt M a = some (v, M2) ∧ Iv M2 := by
  obtain ⟨e1, e2, e3, e4⟩ := hI.2.2.1.2.2.1
  refine ⟨if 0 ≤ a ∧ a < M 54 15 then M 66 a.toNat else -1, _, ?_, ?_, Iv_thrown hI (v := 0)⟩
  · unfold s_X11_roundAt
    rw [c_isWithin]
    simp only [Option.bind_some, bit_if]
    by_cases h : 0 ≤ a ∧ a < M 54 15
    · rw [if_pos h, if_pos h, if_pos (by omega)]
    · rw [if_neg h, if_neg h]
  · unfold s_X12_roundAt
    rw [m_isIn, ← e1, if_pos (by unfold fin; omega)]
    simp only [Option.bind_some, bit_if]
    by_cases h : 0 ≤ a ∧ a < M 54 15
    · rw [if_pos h, if_pos (by omega), if_pos (by omega), ← e4 a h.1 h.2]
    · rw [if_neg h, if_neg (by omega)]
theorem k_pupilOf {M : fM} (hI : Iv M) (a : Int) : ∃ v M2, s_X11_pupilOf M a = some v ∧ s_X12_pupilOf M a = some (v, M2) ∧ Iv M2 := by
  obtain ⟨e1, e2, e3, e4⟩ := hI.2.2.1.2.2.2.2.2
  refine ⟨if 0 ≤ a ∧ a < M 70 3 then M 72 a.toNat else -1, _, ?_, ?_, Iv_thrown hI (v := 0)⟩
  · unfold s_X11_pupilOf
    rw [c_isWithin]
    simp only [Option.bind_some, bit_if]
    by_cases h : 0 ≤ a ∧ a < M 70 3
    · rw [if_pos h, if_pos h, if_pos (by omega)]
    · rw [if_neg h, if_neg h]
  · unfold s_X12_pupilOf
    rw [m_isIn, ← e1, if_pos (by unfold fin; omega)]
    simp only [Option.bind_some, bit_if]
    by_cases h : 0 ≤ a ∧ a < M 70 3
    · rw [if_pos h, if_pos (by omega), if_pos (by omega), ← e4 a h.1 h.2]
    · rw [if_neg h, if_neg (by omega)]
theorem k_week {M : fM} (hI : Iv M) (a b : Int) : ∃ v M2, s_X11_week M a b = some v ∧ s_X12_week M a b = some (v, M2) ∧ Iv M2 := by
  obtain ⟨D, hc, hw, hm, -⟩ := hI.2.2.2.1
  refine ⟨if 0 ≤ a ∧ a < 52 then (if 0 ≤ b ∧ b < 2 then (if b = 0 then D 6 a.toNat else D 7 a.toNat) else -1) else -1, _, ?_, ?_, Iv_thrown hI (v := 0)⟩
  · unfold s_X11_week
    rw [c_isWithin, c_isWithin, CR_r hc 6 (by decide) (by decide), CR_r hc 7 (by decide) (by decide)]
    simp only [Option.bind_some, bit_if, bit_ifn]
    repeat' split
    all_goals first | rfl | (exfalso; omega)
  · unfold s_X12_week
    rw [m_isIn, m_isIn]
    simp only [Option.bind_some, bit_if]
    by_cases h : 0 ≤ a ∧ a < 52
    · rw [if_pos h, if_pos (by omega)]
      by_cases h2 : 0 ≤ b ∧ b < 2
      · rw [if_pos h2, if_pos (by omega)]
        rw [mh_damp hm a rfl h.1 h.2, mh_term hm a rfl h.1 h.2]
        by_cases h3 : b = 0
        · rw [if_neg (by omega), if_pos h3, if_pos (by unfold fin; omega)]
        · rw [if_pos h3, if_neg h3, if_pos (by unfold fin; omega)]
      · rw [if_neg h2, if_neg (by omega)]
    · rw [if_neg h, if_neg (by omega)]
theorem k_end {M : fM} (hI : Iv M) (a : Int) : ∃ v M1 M2, s_X11_end M a = some (v, M1) ∧ M1 1000 = M 1000 ∧ s_X12_end M1 a = some (v, M2) ∧ Iv M2 := by
  obtain ⟨e1, e2, e3, e4⟩ := hI.2.1
  unfold s_X11_end s_X10_isCut
  by_cases h : a < 0
  · rw [if_pos h]
    refine ⟨0, M, fup M 122 0 0, rfl, rfl, ?_, Iv_thrown hI⟩
    unfold s_X12_end
    rw [if_pos h]
  · rw [if_neg h]
    by_cases h2 : a ≤ M 1 2
    · rw [if_pos h2]
      refine ⟨1, fup M 1 2 a, fup (fup (fup M 1 2 a) 122 0 0) 122 2 a, rfl, fup_ne (by decide), ?_, ?_⟩
      · unfold s_X12_end
        rw [if_neg h, fup_ne (by decide), e1, if_pos h2]
      · have hs : fSame [(1, some 2), (122, some 0), (122, some 2)] M (fup (fup (fup M 1 2 a) 122 0 0) 122 2 a) := fs_up (fs_up (fs_up fs_refl (.inr (by decide))) (.inr (by decide))) (.inr (by decide))
        obtain ⟨a1, a2, a3, ⟨D, a4⟩, ⟨D0, a5⟩, ⟨D1, a6⟩⟩ := hI
        refine ⟨St_same hs (by decide) a1, ?_, Ou_same hs (by decide) a3, ⟨D, Cu_same hs (by decide) (by decide) a4⟩, ⟨D0, Kp_same hs (by decide) (by decide) a5⟩, ⟨D1, Kp_same hs (by decide) (by decide) a6⟩⟩
        refine ⟨?_, ?_, ?_, ?_⟩
        · simp [fup_eq, fup_ne, upd1]
        · simp [fup_eq, fup_ne, upd1]; omega
        · simp [fup_eq, fup_ne, e3]
        · simp only [fup_ne (show (2 : Nat) ≠ 122 by decide), fup_ne (show (2 : Nat) ≠ 1 by decide)]; exact e4
    · rw [if_neg h2]
      refine ⟨0, M, fup M 122 0 0, rfl, rfl, ?_, Iv_thrown hI⟩
      unfold s_X12_end
      rw [if_neg h, e1, if_neg h2]
