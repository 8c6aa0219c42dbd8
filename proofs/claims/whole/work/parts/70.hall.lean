/-! ===== weight, unready, whose (by hand) ===== -/
theorem latF_max (D : fM) (k p q kn : Int) : ∀ (n i : Nat), i < n → isK D i k p kn → D 21 (i : Int).toNat ≤ q → 0 ≤ latF D k p q kn n ∧ D 21 (i : Int).toNat ≤ D 21 (latF D k p q kn n).toNat
  | 0, i, h, _, _ => absurd h (by omega)
  | n + 1, i, h, h1, h2 => by
    rw [latF_s]
    have hb := latF_b D k p q kn n
    by_cases hi : i = n
    · subst hi
      by_cases hc : latF D k p q kn i < 0 ∨ D 21 (latF D k p q kn i).toNat ≤ D 21 (i : Int).toNat
      · rw [if_pos ⟨⟨h1, h2⟩, hc⟩]
        omega
      · rw [if_neg (fun e => hc e.2)]
        omega
    · have ih := latF_max D k p q kn n i (by omega) h1 h2
      split
      · rename_i hx
        rcases hx.2 with e | e <;> omega
      · exact ih
/-- a tuning on one of the last c days, by the latest -/
theorem any_lat {D : fM} (hw : WF D) (p q kn c : Int) (hc : 0 ≤ c) : anyD D 0 p (q - c) q kn = 1 ↔ (0 ≤ lat D 0 p q kn ∧ q - tdV D (lat D 0 p q kn) ≤ c) := by
  obtain ⟨hn, hn2⟩ := nR_c hw.1
  unfold anyD
  rw [(anyI_iff _ _).1]
  constructor
  · rintro ⟨i, hi, h1, h2, h3⟩
    have := latF_max D 0 p q kn (nR D) i hi h1 h3
    unfold tdV lat
    rw [if_pos this.1]
    exact ⟨this.1, by omega⟩
  · rintro ⟨h0, h1⟩
    rcases latF_b D 0 p q kn (nR D) with e | ⟨a1, a2, a3, a4⟩
    · unfold lat at h0; omega
    · unfold tdV at h1
      rw [if_pos h0] at h1
      refine ⟨(lat D 0 p q kn).toNat, by unfold lat; omega, ?_⟩
      rw [Int.toNat_of_nonneg h0]
      exact ⟨a3, by omega, a4⟩
abbrev byD (D : fM) (p q kn : Int) : Prop := byP D p q kn (tdV D (lat D 0 p q kn)) (lfV D (lat D 0 p q kn)) q 0
theorem c_beyond {M D : fM} (hc : CR M 0 D) (hw : WF D) {p : Int} (hp : 0 ≤ p) (hp2 : p < D 4 13) {q : Int} (hq : 0 ≤ q) (hq2 : q < 364) (kn : Int) : ∃ K, s_X8_look M p q kn = some ((), K) ∧ s_X8_isBeyond K q 0 = some (bit (byD D p q kn)) ∧ Lk K D p q kn (tdV D (lat D 0 p q kn)) (lfV D (lat D 0 p q kn)) ∧ fSame lkL M K := by
  obtain ⟨K, c1, c2, c3⟩ := c_look hc hw hp hp2 q kn
  have tb := tdV_b hw p q kn
  exact ⟨K, c1, c_isBeyond hw c2 hp hp2 (tb.2.2.2 hq) hq2 (by omega) (lfV_bn hw p q kn), c2, c3⟩
theorem m_isBeyond {N D : fM} (hm : MRh N 124 0 D) (hr : MRr N 125 0 D) (hn0 : N 122 10 = D 18 8) (hw : WF D) {p : Int} (hp : 0 ≤ p) (hp2 : p < D 4 13) {q : Int} (hq : 0 ≤ q) (hq2 : q < 364) (kn : Int) : ∃ N', s_X12_isBeyond N p q kn = some (bit (byD D p q kn), N') ∧ fSame coL N N' := by
  obtain ⟨N1, g1, g2, g3, g4⟩ := m_to hm hr hn0 hw hp hp2 hq hq2 kn
  have tb := tdV_b hw p q kn
  by_cases h0 : 0 ≤ lat D 0 p q kn
  · have ht := tb.2.2.1.mpr h0
    obtain ⟨N2, p1, p2, p3⟩ := (g4 h0).2
    refine ⟨N2, ?_, fs_trans g2 p3⟩
    unfold s_X12_isBeyond
    rw [g1, Option.bind_some, bit_ifn, if_pos h0]
    show (s_X12_passTo N1 q).bind _ = _
    rw [p1, Option.bind_some]
    show (s_X12_offOf N2 q 0).bind _ = _
    rw [m_offOf hw p2 hp hp2 ht (tb.2.2.2 hq) hq2 (by omega) (lfV_bn hw p q kn), Option.bind_some]
    show (s_X12_of N2 p 3).bind _ = _
    rw [m_of p2.1 hw.1 hp hp2 (by decide) (by decide), Option.bind_some]
    unfold bit byD byP
    by_cases h : grV (fun n => ofV D p q kn (tdV D (lat D 0 p q kn)) (lfV D (lat D 0 p q kn)) n q 0) 12 ≤ D 10 (p * 10 + 3).toNat
    · rw [if_pos h, if_neg (by omega)]
    · rw [if_neg h, if_pos (by omega)]
  · have ht : ¬ 0 ≤ tdV D (lat D 0 p q kn) := fun e => h0 (tb.2.2.1.mp e)
    refine ⟨N1, ?_, g2⟩
    unfold s_X12_isBeyond
    rw [g1, Option.bind_some, bit_ifn, if_neg h0, show bit (byD D p q kn) = 1 from bit1.mpr (.inl (by omega))]
theorem c_isHall {M D : fM} (hc : CR M 0 D) (hw : WFn D) (p : Int) : s_X2_isHall_4 M p = some (bit ((0 ≤ p ∧ p < D 4 13) ∧ D 10 (p * 10 + 0).toNat = 2)) := by
  unfold s_X2_isHall_4
  rw [c_hasPiano, CR_r hc 4 (by decide) (by decide), Option.bind_some, bit_if]
  by_cases h : 0 ≤ p ∧ p < D 4 13
  · rw [if_pos h, c_fact hc hw h.1 h.2 (by decide) (by decide), Option.bind_some]
    unfold bit
    by_cases h2 : D 10 (p * 10 + 0).toNat = 2
    · rw [if_neg (fun e => e h2), if_pos ⟨h, h2⟩]
    · rw [if_pos h2, if_neg (fun e => h2 e.2)]
  · rw [if_neg h]
    unfold bit
    rw [if_neg (fun e => h e.1)]
/-- only halls have concerts -/
theorem no_concert {D : fM} (hw : WF D) {p : Int} (h : ¬ D 10 (p * 10 + 0).toNat = 2) (a b kn : Int) : anyD D 5 p a b kn = 0 := by
  obtain ⟨hn, hn2⟩ := nR_c hw.1
  unfold anyD
  rw [anyI_0]
  rintro i hi ⟨h1, -, -⟩
  have := (hw.2.2.2.2.2.2.2.2.2 (i : Int) (by omega) (by omega)).2.2.2.2.2.2.2.2.2 h1.1
  rw [h1.2.1] at this
  exact h this
def wgV (D : fM) (p d : Int) : Int := if anyD D 5 p d (d + 1) d = 1 ∧ ¬ anyD D 0 p (d - 1) d d = 1 then 50 else if byD D p d d then 10 else 1
theorem wgV_n {D : fM} {p d : Int} (h : ¬ (anyD D 5 p d (d + 1) d = 1 ∧ ¬ anyD D 0 p (d - 1) d d = 1)) : wgV D p d = if byD D p d d then 10 else 1 := if_neg h
theorem wgV_50 {D : fM} {p d : Int} (h : anyD D 5 p d (d + 1) d = 1 ∧ ¬ anyD D 0 p (d - 1) d d = 1) : wgV D p d = 50 := if_pos h
theorem c_weightOf {M D : fM} (hc : CR M 0 D) (hw : WF D) {p : Int} (hp : 0 ≤ p) (hp2 : p < D 4 13) {d : Int} (hd : 0 ≤ d) (hd2 : d < 364) : ∃ K, s_X7_weightOf M p d = some (wgV D p d, K) ∧ fSame lkL M K := by
  obtain ⟨K, c1, c2, -, c3⟩ := c_beyond hc hw hp hp2 hd hd2 d
  have b5 := (anyI_iff (fun i => isK D i 5 p d ∧ d ≤ D 21 i.toNat ∧ D 21 i.toNat ≤ d + 1) (nR D)).2
  have b0 := (anyI_iff (fun i => isK D i 0 p d ∧ d - 1 ≤ D 21 i.toNat ∧ D 21 i.toNat ≤ d) (nR D)).2
  have j58 : s_X7_weightOf_j58 M p d = some (if byD D p d d then 10 else 1, K) := by
    unfold s_X7_weightOf_j58
    rw [c1, Option.bind_some]
    show (s_X8_isBeyond K d 0).bind _ = _
    rw [c2, Option.bind_some, bit_if]
    split <;> rfl
  have j33 : ∀ t0, (t0 = anyD D 5 p d (d + 1) d) → ∃ K, s_X7_weightOf_j33 M p d t0 = some (wgV D p d, K) ∧ fSame lkL M K := by
    intro t0 ht0
    unfold s_X7_weightOf_j33
    by_cases h5 : anyD D 5 p d (d + 1) d = 0
    · rw [if_pos (by rw [ht0]; exact h5), j58, wgV_n (fun e => by rw [h5] at e; exact absurd e.1 (by decide))]
      exact ⟨K, rfl, c3⟩
    · have h51 : anyD D 5 p d (d + 1) d = 1 := b5.resolve_left h5
      rw [if_neg (by rw [ht0]; exact h5), if_pos (by unfold fin; omega), c_hasWithin hc hw.1, Option.bind_some]
      by_cases h0 : anyD D 0 p (d - 1) d d = 0
      · rw [if_neg (fun e => e h0), wgV_50 ⟨h51, by rw [h0]; decide⟩]
        exact ⟨M, rfl, fs_refl⟩
      · rw [if_pos h0, j58, wgV_n (fun e => e.2 (b0.resolve_left h0))]
        exact ⟨K, rfl, c3⟩
  unfold s_X7_weightOf s_X7_weightOf_j32
  rw [c_isHall hc hw.1, Option.bind_some, bit_if]
  by_cases hh : (0 ≤ p ∧ p < D 4 13) ∧ D 10 (p * 10 + 0).toNat = 2
  · rw [if_pos hh, if_pos (by unfold fin; omega), c_hasWithin hc hw.1, Option.bind_some]
    by_cases h5 : anyD D 5 p d (d + 1) d = 0
    · rw [if_pos h5]
      exact j33 0 h5.symm
    · rw [if_neg h5]
      exact j33 1 (b5.resolve_left h5).symm
  · rw [if_neg hh]
    exact j33 0 (no_concert hw (fun e => hh ⟨⟨hp, hp2⟩, e⟩) _ _ _).symm
theorem m_weightOf {N D : fM} (hm : MRh N 124 0 D) (hr : MRr N 125 0 D) (hn0 : N 122 10 = D 18 8) (hw : WF D) {p : Int} (hp : 0 ≤ p) (hp2 : p < D 4 13) {d : Int} (hd : 0 ≤ d) (hd2 : d < 364) : ∃ K, s_X12_weightOf N p d = some (wgV D p d, K) ∧ fSame coL N K := by
  obtain ⟨hnn, hn2⟩ := nR_c hw.1
  obtain ⟨K, c1, c3⟩ := m_isBeyond hm hr hn0 hw hp hp2 hd hd2 d
  have b5 := (anyI_iff (fun i => isK D i 5 p d ∧ d ≤ D 21 i.toNat ∧ D 21 i.toNat ≤ d + 1) (nR D)).2
  have b0 := (anyI_iff (fun i => isK D i 0 p d ∧ d - 1 ≤ D 21 i.toNat ∧ D 21 i.toNat ≤ d) (nR D)).2
  have j81 : s_X12_weightOf_j81 N p d = some (if byD D p d d then 10 else 1, K) := by
    unfold s_X12_weightOf_j81
    rw [c1, Option.bind_some, bit_if]
    split <;> rfl
  have key : s_X12_weightOf_l5 N p d (0, 0) = some (anyD D 5 p d (d + 1) d) := by
    unfold s_X12_weightOf_l5
    refine fLp_for (fun i => (anyI (fun i => isK D i 5 p d ∧ d ≤ D 21 i.toNat ∧ D 21 i.toNat ≤ d + 1) i, (i : Int))) (nR D) (fun i hi => ?_) ?_
    · have hb := (anyI_iff (fun i => isK D i 5 p d ∧ d ≤ D 21 i.toNat ∧ D 21 i.toNat ≤ d + 1) i).2
      show s_X12_weightOf_b5 N p d (anyI (fun i => isK D i 5 p d ∧ d ≤ D 21 i.toNat ∧ D 21 i.toNat ≤ d + 1) i) (i : Int) = some (Sum.inl (anyI (fun i => isK D i 5 p d ∧ d ≤ D 21 i.toNat ∧ D 21 i.toNat ≤ d + 1) (i + 1), (i : Int) + 1))
      rw [anyI_s]
      unfold s_X12_weightOf_b5
      have hf : fin ((i : Int) + 1) := by unfold fin; omega
      rw [hn0, if_neg (by omega)]
      simp only [if_pos hf]
      by_cases ha : anyI (fun i => isK D i 5 p d ∧ d ≤ D 21 i.toNat ∧ D 21 i.toNat ≤ d + 1) i = 0
      · rw [if_neg (fun e => e ha), if_neg (show ¬ anyI (fun i => isK D i 5 p d ∧ d ≤ D 21 i.toNat ∧ D 21 i.toNat ≤ d + 1) i = 1 by rw [ha]; decide), if_pos (by unfold fin; omega), m_isOf hr hw.1 (by omega) (by omega), Option.bind_some, bit_if]
        by_cases x : isK D i 5 p d ∧ D 21 (i : Int).toNat ≤ d + 1
        · rw [if_pos x, if_pos (by unfold fin; omega), mr_on hr (i : Int) rfl (by omega) (by omega)]
          by_cases y : D 21 (i : Int).toNat < d
          · rw [if_pos y, show bit (isK D i 5 p d ∧ d ≤ D 21 (i : Int).toNat ∧ D 21 (i : Int).toNat ≤ d + 1) = 0 from bit0.mpr (fun e => by omega)]
          · rw [if_neg y, show bit (isK D i 5 p d ∧ d ≤ D 21 (i : Int).toNat ∧ D 21 (i : Int).toNat ≤ d + 1) = 1 from bit1.mpr ⟨x.1, by omega, x.2⟩]
        · rw [if_neg x, show bit (isK D i 5 p d ∧ d ≤ D 21 (i : Int).toNat ∧ D 21 (i : Int).toNat ≤ d + 1) = 0 from bit0.mpr (fun e => x ⟨e.1, e.2.2⟩)]
      · rw [if_pos ha, if_pos (show anyI (fun i => isK D i 5 p d ∧ d ≤ D 21 i.toNat ∧ D 21 i.toNat ≤ d + 1) i = 1 from hb.resolve_left ha)]
    · show s_X12_weightOf_b5 N p d _ ((nR D : Nat) : Int) = _
      unfold s_X12_weightOf_b5
      rw [hn0, if_pos (by omega)]
  unfold s_X12_weightOf
  rw [key, Option.bind_some]
  by_cases h5 : anyD D 5 p d (d + 1) d = 0
  · rw [if_pos h5, j81, wgV_n (fun e => by rw [h5] at e; exact absurd e.1 (by decide))]
    exact ⟨K, rfl, c3⟩
  · have h51 : anyD D 5 p d (d + 1) d = 1 := by
      rcases b5 with e | e
      · exact absurd e h5
      · exact e
    rw [if_neg h5, if_pos (by unfold fin; omega), m_isTunedIn hr hn0 hw.1, Option.bind_some]
    by_cases h0 : anyD D 0 p (d - 1) d d = 0
    · rw [if_neg (fun e => e h0), wgV_50 ⟨h51, by rw [h0]; decide⟩]
      exact ⟨N, rfl, fs_refl⟩
    · have h01 : anyD D 0 p (d - 1) d d = 1 := by
        rcases b0 with e | e
        · exact absurd e h0
        · exact e
      rw [if_pos h0, j81, wgV_n (fun e => e.2 h01)]
      exact ⟨K, rfl, c3⟩
theorem k_weight {M : fM} (hI : Iv M) (a d : Int) : ∃ v M1 M2, s_X11_weight M a d = some (v, M1) ∧ M1 1000 = M 1000 ∧ s_X12_weight M1 a d = some (v, M2) ∧ Iv M2 := by
  obtain ⟨D, hc, hw, hm, hnm, hr, hn0⟩ := hI.2.2.2.1
  by_cases h : (0 ≤ a ∧ a < D 4 13) ∧ (0 ≤ d ∧ d < 364)
  · obtain ⟨ha, hd⟩ := h
    obtain ⟨K, c1, c3⟩ := c_weightOf hc hw ha.1 ha.2 hd.1 hd.2
    have hm1 : MRh (fup K 122 0 0) 124 0 D := MRh_row (by rw [fup_ne (by decide), fs_row c3 124 (by decide)]) hm
    obtain ⟨N1, g1, g2⟩ := m_weightOf (N := fup K 122 0 0) hm1 (MRr_row (by rw [fup_ne (by decide), fs_row c3 125 (by decide)]) hr) (by rw [show fup K 122 0 0 122 10 = K 122 10 from rfl, fs_row c3 122 (by decide)]; exact hn0) hw ha.1 ha.2 hd.1 hd.2
    refine ⟨wgV D a d, K, N1, ?_, fs_row c3 1000 (by decide), ?_, Iv_same g2 (by decide) (Iv_thrown (Iv_same c3 (by decide) hI))⟩
    · unfold s_X11_weight
      rw [c_hasPiano, CR_r hc 4 (by decide) (by decide), Option.bind_some, bit_if, if_pos ha, c_isWithin, Option.bind_some, bit_ifn, if_pos hd, c1]
      rfl
    · unfold s_X12_weight
      rw [m_isPiano hm1 hw.1, m_isDay, Option.bind_some, bit_if, if_pos ha, Option.bind_some, bit_if, if_pos hd, g1]
      rfl
  · have hm1 : MRh (fup M 122 0 0) 124 0 D := MRh_row (fup_ne (by decide)) hm
    refine ⟨-1, M, fup M 122 0 0, ?_, rfl, ?_, Iv_thrown hI⟩
    · unfold s_X11_weight
      rw [c_hasPiano, CR_r hc 4 (by decide) (by decide), Option.bind_some, bit_if]
      by_cases x1 : 0 ≤ a ∧ a < D 4 13
      · rw [if_pos x1, c_isWithin, Option.bind_some, bit_ifn, if_neg (fun e => h ⟨x1, e⟩)]
      · rw [if_neg x1]
    · unfold s_X12_weight
      rw [m_isPiano hm1 hw.1, m_isDay, Option.bind_some, bit_if]
      by_cases x1 : 0 ≤ a ∧ a < D 4 13
      · rw [if_pos x1, Option.bind_some, bit_if, if_neg (fun e => h ⟨x1, e⟩)]
      · rw [if_neg x1]
/-! unready -/
abbrev rdP (D : fM) (p kn i : Int) : Prop := (0 ≤ lat D 0 p (D 21 i.toNat) kn ∧ D 21 i.toNat - tdV D (lat D 0 p (D 21 i.toNat) kn) ≤ 2) ∧ ¬ byD D p (D 21 i.toNat) kn
abbrev unP (D : fM) (p kn i : Int) : Prop := isK D i 5 p kn ∧ ¬ rdP D p kn i
theorem c_isReady {M D : fM} (hc : CR M 0 D) (hw : WF D) {i kn : Int} (h1 : 0 ≤ i) (h2 : i < D 18 8) : ∃ K, s_X0_isReady M i kn = some (bit (rdP D (D 20 i.toNat) kn i), K) ∧ fSame lkL M K := by
  have q := hw.2.2.2.2.2.2.2.2.2 i h1 h2
  have hn := hw.1.2.2.2.2
  obtain ⟨K, c1, c2, c4, c3⟩ := c_beyond hc hw q.2.1.1 q.2.1.2 q.2.2.1.1 (show D 21 i.toNat < 364 by omega) kn
  have tb := tdV_b hw (D 20 i.toNat) (D 21 i.toNat) kn
  refine ⟨K, ?_, c3⟩
  unfold s_X0_isReady
  rw [if_pos (by omega), CR_r hc 20 (by decide) (by decide), CR_r hc 21 (by decide) (by decide), c1, Option.bind_some, c_wasTuned, Option.bind_some, bit_if]
  show (if 0 ≤ K 43 6 then (s_X8_tunedOn K).bind (fun y43 => if fin (D 21 i.toNat - y43) then (if 2 < D 21 i.toNat - y43 then some (0, K) else (s_X8_isBeyond K (D 21 i.toNat) 0).bind (fun y57 => if ¬ y57 = 0 then some (0, K) else some (1, K))) else none) else some (0, K)) = _
  unfold s_X8_tunedOn
  rw [c4.2.2.1, Option.bind_some, c2, Option.bind_some, bit_ifn]
  unfold bit rdP
  by_cases x0 : 0 ≤ tdV D (lat D 0 (D 20 i.toNat) (D 21 i.toNat) kn)
  · rw [if_pos x0, if_pos (by unfold fin; omega)]
    by_cases x1 : 2 < D 21 i.toNat - tdV D (lat D 0 (D 20 i.toNat) (D 21 i.toNat) kn)
    · rw [if_pos x1, if_neg (fun e => absurd e.1.2 (by omega))]
    · rw [if_neg x1]
      by_cases x2 : byD D (D 20 i.toNat) (D 21 i.toNat) kn
      · rw [if_pos x2, if_neg (fun e => e.2 x2)]
      · rw [if_neg x2, if_pos ⟨⟨tb.2.2.1.mp x0, by omega⟩, x2⟩]
  · rw [if_neg x0, if_neg (fun e => x0 (tb.2.2.1.mpr e.1.1))]
theorem c_unready {D : fM} (hw : WF D) (p kn : Int) : ∀ (m : Nat) (i : Nat) (M : fM), CR M 0 D → nR D - i = m → i ≤ nR D → ∃ K, fLp (fun s : Int × Int × fM => s_X0_unreadyConcerts_b5 s.2.2 p kn s.1 s.2.1) (cntI (unP D p kn) i, (i : Int), M) = some (cntI (unP D p kn) (nR D), K) ∧ fSame lkL M K
  | 0, i, M, hc, hm, hi => by
    obtain ⟨hnn, hn2⟩ := nR_c hw.1
    have e : i = nR D := by omega
    refine ⟨M, ?_, fs_refl⟩
    rw [fLp_eq]
    show (s_X0_unreadyConcerts_b5 M p kn _ (i : Int)).bind _ = _
    unfold s_X0_unreadyConcerts_b5
    rw [CR_r hc 18 (by decide) (by decide), if_pos (by omega), e]
    rfl
  | m + 1, i, M, hc, hm, hi => by
    obtain ⟨hnn, hn2⟩ := nR_c hw.1
    have hb := cntI_b (unP D p kn) i
    rw [fLp_eq]
    show ∃ K, (s_X0_unreadyConcerts_b5 M p kn (cntI (unP D p kn) i) (i : Int)).bind _ = _ ∧ _
    unfold s_X0_unreadyConcerts_b5
    rw [CR_r hc 18 (by decide) (by decide), if_neg (by omega), c_isOf hc (by omega) (by omega), Option.bind_some, bit_if]
    have cs := cntI_s (unP D p kn) i
    by_cases x : isK D i 5 p kn
    · obtain ⟨K, r1, r2⟩ := c_isReady hc hw (i := (i : Int)) (kn := kn) (by omega) (by omega)
      rw [x.2.1] at r1
      have hcK : CR K 0 D := CR_same r2 (by decide) hc
      obtain ⟨K2, a1, a2⟩ := c_unready hw p kn m (i + 1) K hcK (by omega) (by omega)
      rw [if_pos x, r1, Option.bind_some, bit_ifn]
      refine ⟨K2, ?_, fs_trans r2 a2⟩
      by_cases y : rdP D p kn i
      · rw [if_neg (fun e => e.2 y)] at cs
        rw [cs] at a1
        rw [if_pos y, if_pos (by unfold fin; omega)]
        exact a1
      · rw [if_pos ⟨x, y⟩] at cs
        rw [cs] at a1
        rw [if_neg y, if_pos (by unfold fin; omega)]
        exact a1
    · obtain ⟨K2, a1, a2⟩ := c_unready hw p kn m (i + 1) M hc (by omega) (by omega)
      rw [if_neg (fun e => x e.1)] at cs
      rw [cs] at a1
      rw [if_neg x, if_pos (by unfold fin; omega)]
      exact ⟨K2, a1, a2⟩
theorem m_unready {D : fM} (hw : WF D) {p : Int} (hp : 0 ≤ p) (hp2 : p < D 4 13) (kn : Int) : ∀ (m : Nat) (i : Nat) (N : fM), MRh N 124 0 D → MRr N 125 0 D → N 122 10 = D 18 8 → nR D - i = m → i ≤ nR D → ∃ K, fLp (fun s : Int × Int × fM => s_X12_unready_b37 s.2.2 p kn s.1 s.2.1) (cntI (unP D p kn) i, (i : Int), N) = some (cntI (unP D p kn) (nR D), K) ∧ fSame coL N K
  | 0, i, N, hm, hr, hn0, hmm, hi => by
    obtain ⟨hnn, hn2⟩ := nR_c hw.1
    have e : i = nR D := by omega
    refine ⟨N, ?_, fs_refl⟩
    rw [fLp_eq]
    show (s_X12_unready_b37 N p kn _ (i : Int)).bind _ = _
    unfold s_X12_unready_b37
    rw [hn0, if_pos (by omega), e]
    rfl
  | m + 1, i, N, hm, hr, hn0, hmm, hi => by
    obtain ⟨hnn, hn2⟩ := nR_c hw.1
    have hb := cntI_b (unP D p kn) i
    have on := (hw.2.2.2.2.2.2.2.2.2 (i : Int) (by omega) (by omega)).2.2.1
    rw [fLp_eq]
    show ∃ K, (s_X12_unready_b37 N p kn (cntI (unP D p kn) i) (i : Int)).bind _ = _ ∧ _
    unfold s_X12_unready_b37
    rw [hn0, if_neg (by omega), m_isOf hr hw.1 (by omega) (by omega), Option.bind_some, bit_ifn, mr_on hr (i : Int) rfl (by omega) (by omega)]
    have cs := cntI_s (unP D p kn) i
    by_cases x : isK D i 5 p kn
    · have any := any_lat hw p (D 21 (i : Int).toNat) kn 2 (by omega)
      have anyb := (anyI_iff (fun j => isK D j 0 p kn ∧ D 21 (i : Int).toNat - 2 ≤ D 21 j.toNat ∧ D 21 j.toNat ≤ D 21 (i : Int).toNat) (nR D)).2
      rw [if_pos ⟨x, by omega⟩, if_pos (by unfold fin; omega), m_isTunedIn hr hn0 hw.1, Option.bind_some]
      by_cases y0 : anyD D 0 p (D 21 (i : Int).toNat - 2) (D 21 (i : Int).toNat) kn = 0
      · have nr : ¬ rdP D p kn i := fun e => by have := any.mpr e.1; omega
        obtain ⟨K2, a1, a2⟩ := m_unready hw hp hp2 kn m (i + 1) N hm hr hn0 (by omega) (by omega)
        rw [if_pos ⟨x, nr⟩] at cs
        rw [cs] at a1
        rw [if_pos y0, if_pos (by unfold fin; omega)]
        exact ⟨K2, a1, a2⟩
      · have y1 := any.mp (anyb.resolve_left y0)
        obtain ⟨K, r1, r2⟩ := m_isBeyond hm hr hn0 hw hp hp2 on.1 (show D 21 (i : Int).toNat < 364 by omega) kn
        obtain ⟨K2, a1, a2⟩ := m_unready hw hp hp2 kn m (i + 1) K (MRh_row (fs_row r2 124 (by decide)) hm) (MRr_row (fs_row r2 125 (by decide)) hr) (by rw [fs_at r2 122 10 (by decide)]; exact hn0) (by omega) (by omega)
        rw [if_neg y0, r1, Option.bind_some, bit_ifn]
        refine ⟨K2, ?_, fs_trans r2 a2⟩
        by_cases y : byD D p (D 21 (i : Int).toNat) kn
        · rw [if_pos ⟨x, fun e => e.2 y⟩] at cs
          rw [cs] at a1
          rw [if_pos y, if_pos (by unfold fin; omega)]
          exact a1
        · rw [if_neg (fun e => e.2 ⟨y1, y⟩)] at cs
          rw [cs] at a1
          rw [if_neg y, if_pos (by unfold fin; omega), Int.add_zero]
          exact a1
    · obtain ⟨K2, a1, a2⟩ := m_unready hw hp hp2 kn m (i + 1) N hm hr hn0 (by omega) (by omega)
      rw [if_neg (fun e => x e.1)] at cs
      rw [cs] at a1
      rw [if_neg (fun e => x e.1), if_pos (by unfold fin; omega)]
      exact ⟨K2, a1, a2⟩
theorem k_unready {M : fM} (hI : Iv M) (a kn : Int) : ∃ v M1 M2, s_X11_unready M a kn = some (v, M1) ∧ M1 1000 = M 1000 ∧ s_X12_unready M1 a kn = some (v, M2) ∧ Iv M2 := by
  obtain ⟨D, hc, hw, hm, hnm, hr, hn0⟩ := hI.2.2.2.1
  by_cases h : ((0 ≤ a ∧ a < D 4 13) ∧ D 10 (a * 10 + 0).toNat = 2) ∧ (-1 ≤ kn ∧ kn < 364)
  · obtain ⟨⟨ha, hh⟩, hk⟩ := h
    obtain ⟨K, c1, c3⟩ := c_unready hw a kn (nR D) 0 M hc (by omega) (by omega)
    have hm1 : MRh (fup K 122 0 0) 124 0 D := MRh_row (by rw [fup_ne (by decide), fs_row c3 124 (by decide)]) hm
    obtain ⟨N1, g1, g2⟩ := m_unready hw ha.1 ha.2 kn (nR D) 0 (fup K 122 0 0) hm1 (MRr_row (by rw [fup_ne (by decide), fs_row c3 125 (by decide)]) hr) (by rw [show fup K 122 0 0 122 10 = K 122 10 from rfl, fs_row c3 122 (by decide)]; exact hn0) (by omega) (by omega)
    refine ⟨cntI (unP D a kn) (nR D), K, N1, ?_, fs_row c3 1000 (by decide), ?_, Iv_same g2 (by decide) (Iv_thrown (Iv_same c3 (by decide) hI))⟩
    · unfold s_X11_unready s_X0_unreadyConcerts s_X0_unreadyConcerts_l5
      rw [c_isHall hc hw.1, Option.bind_some, bit_if, if_pos ⟨ha, hh⟩, c_isKnowing, Option.bind_some, bit_ifn, if_pos hk]
      show ((fLp _ (cntI (unP D a kn) 0, ((0 : Nat) : Int), M)).bind _).bind _ = _
      rw [c1]
      rfl
    · unfold s_X12_unready s_X12_unready_l37
      rw [m_isPiano hm1 hw.1, m_isKnown, Option.bind_some, bit_if, if_pos ha, Option.bind_some, bit_if, if_pos hk, m_of hm1 hw.1 ha.1 ha.2 (by decide) (by decide), Option.bind_some, if_pos hh]
      show (fLp _ (cntI (unP D a kn) 0, ((0 : Nat) : Int), fup K 122 0 0)).bind _ = _
      rw [g1]
      rfl
  · have hm1 : MRh (fup M 122 0 0) 124 0 D := MRh_row (fup_ne (by decide)) hm
    refine ⟨-1, M, fup M 122 0 0, ?_, rfl, ?_, Iv_thrown hI⟩
    · unfold s_X11_unready
      rw [c_isHall hc hw.1, Option.bind_some, bit_if]
      by_cases x1 : (0 ≤ a ∧ a < D 4 13) ∧ D 10 (a * 10 + 0).toNat = 2
      · rw [if_pos x1, c_isKnowing, Option.bind_some, bit_ifn, if_neg (fun e => h ⟨x1, e⟩)]
      · rw [if_neg x1]
    · unfold s_X12_unready
      rw [m_isPiano hm1 hw.1, m_isKnown, Option.bind_some, bit_if]
      by_cases x1 : 0 ≤ a ∧ a < D 4 13
      · rw [if_pos x1, Option.bind_some, bit_if]
        by_cases x3 : -1 ≤ kn ∧ kn < 364
        · rw [if_pos x3, m_of hm1 hw.1 x1.1 x1.2 (by decide) (by decide), Option.bind_some, if_neg (fun e => h ⟨⟨x1, e⟩, x3⟩)]
        · rw [if_neg x3]
      · rw [if_neg x1]
/-! whose -/
/-- the fault of a concert -/
abbrev lfB (D : fM) (p d kn : Int) : Prop := ∃ n : Nat, n < 12 ∧ D 10 (p * 10 + 3).toNat < absI (lfV D (lat D 0 p d kn) n)
theorem c_blameLoop {K D : fM} (hw : WF D) {p d kn t : Int} (hl : Lk K D p d kn t (lfV D (lat D 0 p d kn))) (hp : 0 ≤ p) (hp2 : p < D 4 13) (l3 : Int) : (lfB D p d kn → s_X0_blame_l71 K l3 0 = some (.inr (2, K))) ∧ (¬ lfB D p d kn → s_X0_blame_l71 K l3 0 = some (.inl ())) := by
  have bn := lfV_bn hw p d kn
  have step : ∀ n : Nat, n < 12 → s_X0_blame_b71 K l3 (n : Int) = if D 10 (p * 10 + 3).toNat < absI (lfV D (lat D 0 p d kn) n) then some (.inr (.inr (2, K))) else some (.inl ((n : Int) + 1)) := by
    intro n hn
    have := bn n hn
    unfold s_X0_blame_b71 s_X8_leftAt s_X8_ear
    rw [if_neg (by omega), if_pos (by omega), Int.toNat_natCast, hl.2.2.2.2.2 n hn, Option.bind_some, c_abs K (by omega) (by omega), Option.bind_some, hl.2.1, c_fact hl.1 hw.1 hp hp2 (by decide) (by decide), Option.bind_some, Option.bind_some]
    by_cases h : absI (lfV D (lat D 0 p d kn) n) ≤ D 10 (p * 10 + 3).toNat
    · rw [if_pos h, if_pos (by unfold fin; omega), if_neg (by omega)]
    · rw [if_neg h, if_pos (by omega)]
  unfold s_X0_blame_l71
  constructor
  · intro hx
    exact fLp_hit1 (b := fun s => s_X0_blame_b71 K l3 s) (fun n : Nat => (n : Int)) (fun n => D 10 (p * 10 + 3).toNat < absI (lfV D (lat D 0 p d kn) n)) 12 (.inr (2, K)) (fun n hn h => by show s_X0_blame_b71 K l3 (n : Int) = _; rw [step n hn, if_neg h]; rfl) (fun n hn h => by show s_X0_blame_b71 K l3 (n : Int) = _; rw [step n hn, if_pos h]) hx
  · intro hx
    exact fLp_for (b := fun s => s_X0_blame_b71 K l3 s) (fun n : Nat => (n : Int)) 12 (fun n hn => by show s_X0_blame_b71 K l3 (n : Int) = _; rw [step n hn, if_neg (fun e => hx ⟨n, hn, e⟩)]; rfl) rfl
theorem m_blameLoop {N D : fM} (hw : WF D) {p d kn : Int} (hm : MRh N 124 0 D) (hb : ∀ n : Nat, n < 12 → N 129 n = lfV D (lat D 0 p d kn) n) (hp : 0 ≤ p) (hp2 : p < D 4 13) : (lfB D p d kn → s_X12_blame_l39 N p d 0 = some (.inr (2, N))) ∧ (¬ lfB D p d kn → s_X12_blame_l39 N p d 0 = some (.inl ())) := by
  have bn := lfV_bn hw p d kn
  have step : ∀ n : Nat, n < 12 → s_X12_blame_b39 N p d (n : Int) = if D 10 (p * 10 + 3).toNat < absI (lfV D (lat D 0 p d kn) n) then some (.inr (.inr (2, N))) else some (.inl ((n : Int) + 1)) := by
    intro n hn
    have := bn n hn
    unfold s_X12_blame_b39
    rw [if_neg (by omega), if_pos (by omega), Int.toNat_natCast, hb n hn, m_plain N (by omega) (by omega), Option.bind_some, m_of hm hw.1 hp hp2 (by decide) (by decide), Option.bind_some]
    by_cases h : absI (lfV D (lat D 0 p d kn) n) ≤ D 10 (p * 10 + 3).toNat
    · rw [if_pos h, if_pos (by unfold fin; omega), if_neg (by omega)]
    · rw [if_neg h, if_pos (by omega)]
  unfold s_X12_blame_l39
  constructor
  · intro hx
    exact fLp_hit1 (b := fun s => s_X12_blame_b39 N p d s) (fun n : Nat => (n : Int)) (fun n => D 10 (p * 10 + 3).toNat < absI (lfV D (lat D 0 p d kn) n)) 12 (.inr (2, N)) (fun n hn h => by show s_X12_blame_b39 N p d (n : Int) = _; rw [step n hn, if_neg h]; rfl) (fun n hn h => by show s_X12_blame_b39 N p d (n : Int) = _; rw [step n hn, if_pos h]) hx
  · intro hx
    exact fLp_for (b := fun s => s_X12_blame_b39 N p d s) (fun n : Nat => (n : Int)) 12 (fun n hn => by show s_X12_blame_b39 N p d (n : Int) = _; rw [step n hn, if_neg (fun e => hx ⟨n, hn, e⟩)]; rfl) rfl
/-- whose fault, as a relation -/
def blR (D : fM) (p d kn v : Int) : Prop := (byD D p d kn ∨ v = 0) ∧ (byD D p d kn → ((0 ≤ lat D 0 p d kn ∧ d - tdV D (lat D 0 p d kn) ≤ 7) ∨ v = 1) ∧ ((0 ≤ lat D 0 p d kn ∧ d - tdV D (lat D 0 p d kn) ≤ 7) → (lfB D p d kn → v = 2) ∧ (¬ lfB D p d kn → v = if D 10 (p * 10 + 3).toNat < grV (fun n => udV D p d kn (tdV D (lat D 0 p d kn)) (lfV D (lat D 0 p d kn)) n d 0) 12 then 4 else 3)))
theorem blR_uniq {D : fM} {p d kn v w : Int} (h1 : blR D p d kn v) (h2 : blR D p d kn w) : v = w := by
  by_cases a : byD D p d kn
  · have x1 := h1.2 a
    have x2 := h2.2 a
    by_cases b : 0 ≤ lat D 0 p d kn ∧ d - tdV D (lat D 0 p d kn) ≤ 7
    · have y1 := x1.2 b
      have y2 := x2.2 b
      by_cases c : lfB D p d kn
      · rw [y1.1 c, y2.1 c]
      · rw [y1.2 c, y2.2 c]
    · rw [x1.1.resolve_left b, x2.1.resolve_left b]
  · rw [h1.1.resolve_left a, h2.1.resolve_left a]
theorem c_blame {M D : fM} (hc : CR M 0 D) (hw : WF D) {i kn : Int} (h1 : 0 ≤ i) (h2 : i < D 18 8) : ∃ v K, s_X0_blame M i kn = some (v, K) ∧ blR D (D 20 i.toNat) (D 21 i.toNat) kn v ∧ fSame lkL M K := by
  have q := hw.2.2.2.2.2.2.2.2.2 i h1 h2
  have hn := hw.1.2.2.2.2
  obtain ⟨K, c1, c2, c4, c3⟩ := c_beyond hc hw q.2.1.1 q.2.1.2 q.2.2.1.1 (show D 21 i.toNat < 364 by omega) kn
  have tb := tdV_b hw (D 20 i.toNat) (D 21 i.toNat) kn
  have hp := q.2.1
  have hd := q.2.2.1
  generalize hpp : D 20 i.toNat = p at *
  generalize hdd : D 21 i.toNat = d at *
  obtain ⟨L1, L2⟩ := c_blameLoop hw c4 hp.1 hp.2 d
  have head : s_X0_blame M i kn = if byD D p d kn then (if 0 ≤ tdV D (lat D 0 p d kn) then (if d - tdV D (lat D 0 p d kn) ≤ 7 then (s_X0_blame_l71 K d 0).bind (fun e71 => Sum.elim (fun x71 => (s_X8_greatestUndamped K d).bind fun y113 => (s_X8_ear K).bind fun y120 => if y120 < y113 then some (4, K) else some (3, K)) (fun v71 => some v71) e71) else some (1, K)) else some (1, K)) else some (0, K) := by
    unfold s_X0_blame
    rw [if_pos (by omega), CR_r hc 20 (by decide) (by decide), CR_r hc 21 (by decide) (by decide), hpp, hdd, c1, Option.bind_some]
    show (s_X8_isBeyond K d 0).bind _ = _
    rw [c2, Option.bind_some, bit_ifn]
    by_cases x : byD D p d kn
    · rw [if_pos x, if_pos x, c_wasTuned, Option.bind_some, bit_if]
      show (if 0 ≤ K 43 6 then (s_X8_tunedOn K).bind (fun y57 => if fin (d - y57) then (if d - y57 ≤ 7 then _ else some (1, K)) else none) else some (1, K)) = _
      unfold s_X8_tunedOn
      rw [c4.2.2.1, Option.bind_some]
      by_cases y : 0 ≤ tdV D (lat D 0 p d kn)
      · rw [if_pos y, if_pos y, if_pos (by unfold fin; omega)]
      · rw [if_neg y, if_neg y]
    · rw [if_neg x, if_neg x]
  rw [head]
  by_cases x : byD D p d kn
  · rw [if_pos x]
    by_cases y : 0 ≤ tdV D (lat D 0 p d kn)
    · rw [if_pos y]
      have yl := tb.2.2.1.mp y
      by_cases z : d - tdV D (lat D 0 p d kn) ≤ 7
      · rw [if_pos z]
        by_cases w : lfB D p d kn
        · rw [L1 w]
          exact ⟨2, K, rfl, ⟨.inl x, fun _ => ⟨.inl ⟨yl, z⟩, fun _ => ⟨fun _ => rfl, fun e => absurd w e⟩⟩⟩, c3⟩
        · rw [L2 w]
          show ∃ v K', (s_X8_greatestUndamped K d).bind _ = _ ∧ _
          unfold s_X8_ear
          rw [c_greatestU hw c4 hp.1 hp.2 y (tb.2.2.2 hd.1) (by omega) (lfV_bn hw p d kn), Option.bind_some, c4.2.1, c_fact c4.1 hw.1 hp.1 hp.2 (by decide) (by decide), Option.bind_some, Option.bind_some]
          refine ⟨if D 10 (p * 10 + 3).toNat < grV (fun n => udV D p d kn (tdV D (lat D 0 p d kn)) (lfV D (lat D 0 p d kn)) n d 0) 12 then 4 else 3, K, ?_, ⟨.inl x, fun _ => ⟨.inl ⟨yl, z⟩, fun _ => ⟨fun e => absurd e w, fun _ => rfl⟩⟩⟩, c3⟩
          split <;> rfl
      · rw [if_neg z]
        exact ⟨1, K, rfl, ⟨.inl x, fun _ => ⟨.inr rfl, fun e => absurd e.2 z⟩⟩, c3⟩
    · rw [if_neg y]
      exact ⟨1, K, rfl, ⟨.inl x, fun _ => ⟨.inr rfl, fun e => absurd (tb.2.2.1.mpr e.1) y⟩⟩, c3⟩
  · rw [if_neg x]
    exact ⟨0, K, rfl, ⟨.inr rfl, fun e => absurd e x⟩, c3⟩
