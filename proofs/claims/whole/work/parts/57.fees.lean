/-! ===== fee, count, free, owed (by hand) ===== -/
abbrev nF (D : fM) : Nat := (D 4 16).toNat
theorem nF_c {D : fM} (h : WFn D) : ((nF D : Nat) : Int) = D 4 16 ∧ nF D ≤ 16 := by
  have := h.2.2.2.1
  unfold nF
  omega
/-- the row of the fee -/
def feeR (D : fM) (k day : Int) : Nat → Int
  | 0 => -1
  | n + 1 => if (D 9 ((n : Int) * 3).toNat = k ∧ D 9 ((n : Int) * 3 + 2).toNat ≤ day) ∧ (feeR D k day n < 0 ∨ D 9 (feeR D k day n * 3 + 2).toNat ≤ D 9 ((n : Int) * 3 + 2).toNat) then n else feeR D k day n
theorem feeR_s (D : fM) (k day : Int) (n : Nat) : feeR D k day (n + 1) = if (D 9 ((n : Int) * 3).toNat = k ∧ D 9 ((n : Int) * 3 + 2).toNat ≤ day) ∧ (feeR D k day n < 0 ∨ D 9 (feeR D k day n * 3 + 2).toNat ≤ D 9 ((n : Int) * 3 + 2).toNat) then (n : Int) else feeR D k day n := rfl
theorem feeR_b (D : fM) (k day : Int) : ∀ n : Nat, feeR D k day n = -1 ∨ (0 ≤ feeR D k day n ∧ feeR D k day n < n)
  | 0 => .inl rfl
  | n + 1 => by
    have ih := feeR_b D k day n
    rw [feeR_s]
    split <;> omega
def feeV (D : fM) (p day : Int) : Int := if feeR D (D 10 (p * 10 + 0).toNat) day (nF D) < 0 then 0 else D 9 (feeR D (D 10 (p * 10 + 0).toNat) day (nF D) * 3 + 1).toNat
theorem feeV_b {D : fM} (hw : WF D) (p day : Int) : 0 ≤ feeV D p day ∧ feeV D p day ≤ 9999 := by
  obtain ⟨hn, hn2⟩ := nF_c hw.1
  have hb := feeR_b D (D 10 (p * 10 + 0).toNat) day (nF D)
  unfold feeV
  split
  · omega
  · have := (hw.2.2.2.2.1 (feeR D (D 10 (p * 10 + 0).toNat) day (nF D)) (by omega) (by omega)).2.1
    omega
theorem c_feeOf {M D : fM} (hc : CR M 0 D) (hw : WF D) {p day : Int} (h1 : 0 ≤ p) (h2 : p < D 4 13) : s_X2_feeOf_4 M p day = some (feeV D p day) := by
  obtain ⟨hn, hn2⟩ := nF_c hw.1
  generalize hk : D 10 (p * 10 + 0).toNat = k
  have key : s_X2_feeOf_4_l8 M p day (0, -1, 0) = some (feeV D p day) := by
    unfold s_X2_feeOf_4_l8
    refine fLp_for (fun i => ((if feeR D k day i < 0 then 0 else D 9 (feeR D k day i * 3 + 1).toNat), (if feeR D k day i < 0 then -1 else D 9 (feeR D k day i * 3 + 2).toNat), (i : Int))) (nF D) (fun i hi => ?_) ?_
    · have hb := feeR_b D k day i
      have hf := hw.2.2.2.2.1 (i : Int) (by omega) (by omega)
      show s_X2_feeOf_4_b8 M p day (if feeR D k day i < 0 then 0 else D 9 (feeR D k day i * 3 + 1).toNat) (if feeR D k day i < 0 then -1 else D 9 (feeR D k day i * 3 + 2).toNat) (i : Int) = some (Sum.inl ((if feeR D k day (i + 1) < 0 then 0 else D 9 (feeR D k day (i + 1) * 3 + 1).toNat), (if feeR D k day (i + 1) < 0 then -1 else D 9 (feeR D k day (i + 1) * 3 + 2).toNat), (i : Int) + 1))
      rw [feeR_s]
      unfold s_X2_feeOf_4_b8
      rw [CR_r hc 4 (by decide) (by decide), CR_r hc 9 (by decide) (by decide), if_neg (by omega), if_pos (by unfold fin; omega), c_fact hc hw.1 h1 h2 (by decide) (by decide), hk]
      simp only [Option.bind_some, if_pos (show fin ((i : Int) + 1) by unfold fin; omega)]
      by_cases a1 : D 9 ((i : Int) * 3).toNat = k
      · rw [if_neg (fun e => e a1)]
        by_cases a2 : day < D 9 ((i : Int) * 3 + 2).toNat
        · rw [if_pos a2, if_neg (show ¬ ((D 9 ((i : Int) * 3).toNat = k ∧ D 9 ((i : Int) * 3 + 2).toNat ≤ day) ∧ _) from fun e => absurd e.1.2 (by omega))]
        · rw [if_neg a2]
          by_cases a3 : feeR D k day i < 0
          · rw [if_pos a3, if_pos a3, if_neg (by omega), if_pos (show ((D 9 ((i : Int) * 3).toNat = k ∧ D 9 ((i : Int) * 3 + 2).toNat ≤ day) ∧ _) from ⟨⟨a1, by omega⟩, .inl a3⟩), if_neg (show ¬ ((i : Int) < 0) by omega), if_neg (show ¬ ((i : Int) < 0) by omega), if_pos (by unfold fin; omega)]
          · rw [if_neg a3, if_neg a3]
            by_cases a4 : D 9 ((i : Int) * 3 + 2).toNat < D 9 (feeR D k day i * 3 + 2).toNat
            · rw [if_pos a4, if_neg (show ¬ ((D 9 ((i : Int) * 3).toNat = k ∧ D 9 ((i : Int) * 3 + 2).toNat ≤ day) ∧ (feeR D k day i < 0 ∨ D 9 (feeR D k day i * 3 + 2).toNat ≤ D 9 ((i : Int) * 3 + 2).toNat)) from fun e => by rcases e.2 with e | e <;> omega), if_neg a3, if_neg a3]
            · rw [if_neg a4, if_pos (show ((D 9 ((i : Int) * 3).toNat = k ∧ D 9 ((i : Int) * 3 + 2).toNat ≤ day) ∧ (feeR D k day i < 0 ∨ D 9 (feeR D k day i * 3 + 2).toNat ≤ D 9 ((i : Int) * 3 + 2).toNat)) from ⟨⟨a1, by omega⟩, .inr (by omega)⟩), if_neg (show ¬ ((i : Int) < 0) by omega), if_neg (show ¬ ((i : Int) < 0) by omega), if_pos (by unfold fin; omega)]
      · rw [if_pos a1, if_neg (show ¬ ((D 9 ((i : Int) * 3).toNat = k ∧ D 9 ((i : Int) * 3 + 2).toNat ≤ day) ∧ _) from fun e => a1 e.1.1)]
    · show s_X2_feeOf_4_b8 M p day _ _ ((nF D : Nat) : Int) = _
      unfold s_X2_feeOf_4_b8 feeV
      rw [CR_r hc 4 (by decide) (by decide), if_pos (by omega), hk]
  unfold s_X2_feeOf_4
  rw [key]
  rfl
theorem m_feeOf {M D : fM} (hm : MRh M 124 0 D) (hw : WF D) {p day : Int} (h1 : 0 ≤ p) (h2 : p < D 4 13) : s_X12_feeOf M p day = some (feeV D p day) := by
  obtain ⟨hn, hn2⟩ := nF_c hw.1
  generalize hk : D 10 (p * 10 + 0).toNat = k
  have key : s_X12_feeOf_l5 M p day (-1, 0) = some (if feeR D k day (nF D) < 0 then -1 else 118 + 3 * feeR D k day (nF D)) := by
    unfold s_X12_feeOf_l5
    refine fLp_for (fun i => ((if feeR D k day i < 0 then -1 else 118 + 3 * feeR D k day i), (i : Int))) (nF D) (fun i hi => ?_) ?_
    · have hb := feeR_b D k day i
      have hf := hw.2.2.2.2.1 (i : Int) (by omega) (by omega)
      show s_X12_feeOf_b5 M p day (if feeR D k day i < 0 then -1 else 118 + 3 * feeR D k day i) (i : Int) = some (Sum.inl ((if feeR D k day (i + 1) < 0 then -1 else 118 + 3 * feeR D k day (i + 1)), (i : Int) + 1))
      rw [feeR_s]
      unfold s_X12_feeOf_b5
      have e0 : M 124 (118 + 3 * (i : Int)).toNat = D 9 ((i : Int) * 3).toNat := by
        rw [mh_fee hm (i : Int) 0 (by omega) (by omega) (by omega) (by decide) (by decide), Int.add_zero]
      have e2 : M 124 (118 + 3 * (i : Int) + 2).toNat = D 9 ((i : Int) * 3 + 2).toNat := mh_fee hm (i : Int) 2 (by omega) (by omega) (by omega) (by decide) (by decide)
      rw [mh_fees hm, e0, e2, if_neg (by omega), if_pos (by unfold fin; omega), m_of hm hw.1 h1 h2 (by decide) (by decide), hk]
      simp only [Option.bind_some, if_pos (show fin ((i : Int) + 1) by unfold fin; omega), if_pos (show fin (118 + 3 * (i : Int) + 2) ∧ (0 ≤ 118 + 3 * (i : Int) + 2 ∧ 118 + 3 * (i : Int) + 2 < 1290) by unfold fin; omega)]
      by_cases a1 : D 9 ((i : Int) * 3).toNat = k
      · rw [if_neg (fun e => e a1)]
        by_cases a2 : day < D 9 ((i : Int) * 3 + 2).toNat
        · rw [if_pos a2, if_neg (show ¬ ((D 9 ((i : Int) * 3).toNat = k ∧ D 9 ((i : Int) * 3 + 2).toNat ≤ day) ∧ _) from fun e => absurd e.1.2 (by omega))]
        · rw [if_neg a2]
          by_cases a3 : feeR D k day i < 0
          · rw [if_pos a3, if_pos (by omega), if_pos (show ((D 9 ((i : Int) * 3).toNat = k ∧ D 9 ((i : Int) * 3 + 2).toNat ≤ day) ∧ _) from ⟨⟨a1, by omega⟩, .inl a3⟩), if_neg (by omega)]
          · rw [if_neg a3, if_neg (by omega), if_pos (by unfold fin; omega), mh_fee hm (feeR D k day i) 2 (by omega) (by omega) (by omega) (by decide) (by decide)]
            by_cases a4 : D 9 ((i : Int) * 3 + 2).toNat < D 9 (feeR D k day i * 3 + 2).toNat
            · rw [if_pos a4, if_neg (show ¬ ((D 9 ((i : Int) * 3).toNat = k ∧ D 9 ((i : Int) * 3 + 2).toNat ≤ day) ∧ (feeR D k day i < 0 ∨ D 9 (feeR D k day i * 3 + 2).toNat ≤ D 9 ((i : Int) * 3 + 2).toNat)) from fun e => by rcases e.2 with e | e <;> omega), if_neg a3]
            · rw [if_neg a4, if_pos (show ((D 9 ((i : Int) * 3).toNat = k ∧ D 9 ((i : Int) * 3 + 2).toNat ≤ day) ∧ (feeR D k day i < 0 ∨ D 9 (feeR D k day i * 3 + 2).toNat ≤ D 9 ((i : Int) * 3 + 2).toNat)) from ⟨⟨a1, by omega⟩, .inr (by omega)⟩), if_neg (show ¬ ((i : Int) < 0) by omega)]
      · rw [if_pos a1, if_neg (show ¬ ((D 9 ((i : Int) * 3).toNat = k ∧ D 9 ((i : Int) * 3 + 2).toNat ≤ day) ∧ _) from fun e => a1 e.1.1)]
    · show s_X12_feeOf_b5 M p day _ ((nF D : Nat) : Int) = _
      unfold s_X12_feeOf_b5
      rw [mh_fees hm, if_pos (by omega)]
  have hb := feeR_b D k day (nF D)
  unfold s_X12_feeOf feeV
  rw [key, hk]
  simp only [Option.bind_some]
  by_cases a3 : feeR D k day (nF D) < 0
  · rw [if_pos a3, if_pos a3, if_neg (by omega)]
  · rw [if_neg a3, if_neg a3, if_pos (by omega), if_pos (by unfold fin; omega), mh_fee hm (feeR D k day (nF D)) 1 (by omega) (by omega) (by omega) (by decide) (by decide)]
theorem k_fee {M : fM} (hI : Iv M) (a b : Int) : ∃ v M2, s_X11_fee M a b = some v ∧ s_X12_fee M a b = some (v, M2) ∧ Iv M2 := by
  obtain ⟨D, hc, hw, hm, -⟩ := hI.2.2.2.1
  have hm' : MRh (fup M 122 0 0) 124 0 D := MRh_row (fup_ne (by decide)) hm
  refine ⟨if 0 ≤ a ∧ a < D 4 13 then (if 0 ≤ b ∧ b < 364 then feeV D a b else -1) else -1, _, ?_, ?_, Iv_thrown hI (v := 0)⟩
  · unfold s_X11_fee
    rw [c_hasPiano, c_isWithin, CR_r hc 4 (by decide) (by decide)]
    simp only [Option.bind_some, bit_if, bit_ifn]
    by_cases h : 0 ≤ a ∧ a < D 4 13
    · rw [if_pos h, if_pos h, c_feeOf hc hw h.1 h.2]
      simp only [Option.bind_some]
      split <;> rfl
    · rw [if_neg h, if_neg h]
  · unfold s_X12_fee
    rw [m_isPiano hm' hw.1, m_isDay]
    simp only [Option.bind_some, bit_if]
    by_cases h : 0 ≤ a ∧ a < D 4 13
    · rw [if_pos h, if_pos h, m_feeOf hm' hw h.1 h.2]
      simp only [Option.bind_some]
      split <;> rfl
    · rw [if_neg h, if_neg h]
/-! how many of the first n are such -/
def cntI (P : Int → Prop) [DecidablePred P] : Nat → Int
  | 0 => 0
  | n + 1 => if P (n : Int) then cntI P n + 1 else cntI P n
theorem cntI_s (P : Int → Prop) [DecidablePred P] (n : Nat) : cntI P (n + 1) = if P (n : Int) then cntI P n + 1 else cntI P n := rfl
theorem cntI_b (P : Int → Prop) [DecidablePred P] : ∀ n : Nat, 0 ≤ cntI P n ∧ cntI P n ≤ n
  | 0 => ⟨Int.le_refl _, Int.le_refl _⟩
  | n + 1 => by
    have := cntI_b P n
    rw [cntI_s]
    split <;> omega
theorem k_count {M : fM} (hI : Iv M) (a : Int) : ∃ v M2, s_X11_count M a = some v ∧ s_X12_count M a = some (v, M2) ∧ Iv M2 := by
  obtain ⟨D, hc, hw, hm, hn, hr, hn0⟩ := hI.2.2.2.1
  obtain ⟨t1, -⟩ := hI.2.1
  have hr' : MRr (fup M 122 0 0) 125 0 D := MRr_row (fup_ne (by decide)) hr
  obtain ⟨hnn, hn2⟩ := nR_c hw.1
  have k1 : s_X6_concertsTold_18 M = some (cntI (fun i => D 19 i.toNat = 5) (nR D)) := by
    have key : s_X6_concertsTold_18_l4 M (0, 0) = some (cntI (fun i => D 19 i.toNat = 5) (nR D)) := by
      unfold s_X6_concertsTold_18_l4
      refine fLp_for (fun i => (cntI (fun i => D 19 i.toNat = 5) i, (i : Int))) (nR D) (fun i hi => ?_) ?_
      · have hb := cntI_b (fun i => D 19 i.toNat = 5) i
        show s_X6_concertsTold_18_b4 M (cntI (fun i => D 19 i.toNat = 5) i) (i : Int) = some (Sum.inl (cntI (fun i => D 19 i.toNat = 5) (i + 1), (i : Int) + 1))
        rw [cntI_s]
        unfold s_X6_concertsTold_18_b4
        rw [CR_r hc 18 (by decide) (by decide), CR_r hc 19 (by decide) (by decide), if_neg (by omega), if_pos (by omega)]
        by_cases h : D 19 (i : Int).toNat = 5
        · rw [if_neg (fun e => e h), if_pos h, if_pos (by unfold fin; omega)]
        · rw [if_pos h, if_neg h, if_pos (by unfold fin; omega)]
      · show s_X6_concertsTold_18_b4 M _ ((nR D : Nat) : Int) = _
        unfold s_X6_concertsTold_18_b4
        rw [CR_r hc 18 (by decide) (by decide), if_pos (by omega)]
    unfold s_X6_concertsTold_18
    rw [key]
    rfl
  have k2 : s_X12_count_l9 (fup M 122 0 0) a (0, 0) = some (cntI (fun i => D 19 i.toNat = 5) (nR D)) := by
    unfold s_X12_count_l9
    refine fLp_for (fun i => (cntI (fun i => D 19 i.toNat = 5) i, (i : Int))) (nR D) (fun i hi => ?_) ?_
    · have hb := cntI_b (fun i => D 19 i.toNat = 5) i
      show s_X12_count_b9 (fup M 122 0 0) a (cntI (fun i => D 19 i.toNat = 5) i) (i : Int) = some (Sum.inl (cntI (fun i => D 19 i.toNat = 5) (i + 1), (i : Int) + 1))
      rw [cntI_s]
      unfold s_X12_count_b9
      rw [show fup M 122 0 0 122 10 = M 122 10 from rfl, hn0, if_neg (by omega), if_pos (by unfold fin; omega), mr_kind hr' (i : Int) rfl (by omega) (by omega)]
      by_cases h : D 19 (i : Int).toNat = 5
      · rw [if_neg (fun e => e h), if_pos h, if_pos (by unfold fin; omega)]
      · rw [if_pos h, if_neg h, if_pos (by unfold fin; omega), Int.add_zero]
    · show s_X12_count_b9 (fup M 122 0 0) a _ ((nR D : Nat) : Int) = _
      unfold s_X12_count_b9
      rw [show fup M 122 0 0 122 10 = M 122 10 from rfl, hn0, if_pos (by omega)]
  refine ⟨if a = 0 then D 4 13 else if a = 1 then D 4 14 else if a = 2 then D 4 15 else if a = 3 then D 18 8 else if a = 4 then M 1 2 else if a = 5 then cntI (fun i => D 19 i.toNat = 5) (nR D) else if a = 6 then D 4 16 else -1, _, ?_, ?_, Iv_thrown hI (v := 0)⟩
  · unfold s_X11_count
    rw [k1, CR_r hc 4 (by decide) (by decide), CR_r hc 18 (by decide) (by decide)]
    simp only [Option.bind_some]
    repeat' split
    all_goals rfl
  · unfold s_X12_count
    rw [k2, (mh_n hm).1, (mh_n hm).2.1, (mh_n hm).2.2, hn0, t1, mh_fees hm]
    simp only [Option.bind_some]
    repeat' split
    all_goals rfl
/-! free and owed -/
abbrev freeI (D : fM) (i kn : Int) : Int := if D 8 0 ≤ 0 then 0 else anyD D 0 (D 20 i.toNat) (D 21 i.toNat - D 8 0) (D 21 i.toNat - 1) kn
theorem freeI_b (D : fM) (i kn : Int) : b01 (freeI D i kn) := by
  unfold freeI
  split
  · exact .inl rfl
  · exact (anyI_iff _ _).2
theorem b01_id {x : Int} (h : b01 x) : (if x = 0 then some 0 else some 1) = some x := by
  rcases h with rfl | rfl <;> rfl
theorem c_isFree {M D : fM} (hc : CR M 0 D) (hw : WF D) {i kn : Int} (h1 : 0 ≤ i) (h2 : i < D 18 8) : s_X0_isFree M i kn = some (freeI D i kn) := by
  have hq := (hw.2.2.2.2.2.2.2.2.2 i h1 h2).2.2.1
  have hr := hw.2.2.2.1.1
  have hn := hw.1.2.2.2.2
  unfold s_X0_isFree freeI
  rw [CR_r hc 8 (by decide) (by decide), CR_r hc 20 (by decide) (by decide), CR_r hc 21 (by decide) (by decide), if_pos (by omega), c_hasWithin hc hw.1]
  simp only [Option.bind_some]
  by_cases h : D 8 0 ≤ 0
  · rw [if_pos h, if_pos h]
  · rw [if_neg h, if_neg h, if_pos (by unfold fin; omega), b01_id (anyI_iff _ _).2]
theorem m_isFree {M D : fM} (hm : MRh M 124 0 D) (hrr : MRr M 125 0 D) (hn0 : M 122 10 = D 18 8) (hw : WF D) {i kn : Int} (h1 : 0 ≤ i) (h2 : i < D 18 8) : s_X12_isFree M i kn = some (freeI D i kn) := by
  have hq := (hw.2.2.2.2.2.2.2.2.2 i h1 h2).2.2.1
  have hr := hw.2.2.2.1.1
  have hn := hw.1.2.2.2.2
  unfold s_X12_isFree freeI
  rw [(mh_rule hm).1, mr_piano hrr i rfl h1 h2, mr_on hrr i rfl h1 h2, if_pos (by unfold fin; omega), m_isTunedIn hrr hn0 hw.1]
  simp only [Option.bind_some]
  by_cases h : D 8 0 ≤ 0
  · rw [if_pos h, if_pos h]
  · rw [if_neg h, if_neg h, if_pos (by unfold fin; omega), b01_id (anyI_iff _ _).2]
abbrev freeP (D : fM) (p day kn i : Int) : Prop := isK D i 0 p kn ∧ D 21 i.toNat ≤ day ∧ freeI D i kn = 1
theorem k_free {M : fM} (hI : Iv M) (a b c : Int) : ∃ v M2, s_X11_free M a b c = some v ∧ s_X12_free M a b c = some (v, M2) ∧ Iv M2 := by
  obtain ⟨D, hc, hw, hm, hnm, hr, hn0⟩ := hI.2.2.2.1
  have hm' : MRh (fup M 122 0 0) 124 0 D := MRh_row (fup_ne (by decide)) hm
  have hr' : MRr (fup M 122 0 0) 125 0 D := MRr_row (fup_ne (by decide)) hr
  have hn0' : fup M 122 0 0 122 10 = D 18 8 := hn0
  obtain ⟨hnn, hn2⟩ := nR_c hw.1
  refine ⟨if (0 ≤ a ∧ a < D 4 13) ∧ (0 ≤ b ∧ b < 364) ∧ (-1 ≤ c ∧ c < 364) then cntI (freeP D a b c) (nR D) else -1, _, ?_, ?_, Iv_thrown hI (v := 0)⟩
  · have key : s_X0_freeTunings_l6 M a b c (0, 0) = some (cntI (freeP D a b c) (nR D)) := by
      unfold s_X0_freeTunings_l6
      refine fLp_for (fun i => (cntI (freeP D a b c) i, (i : Int))) (nR D) (fun i hi => ?_) ?_
      · have hb := cntI_b (freeP D a b c) i
        have hf := freeI_b D i c
        show s_X0_freeTunings_b6 M a b c (cntI (freeP D a b c) i) (i : Int) = some (Sum.inl (cntI (freeP D a b c) (i + 1), (i : Int) + 1))
        rw [cntI_s]
        unfold s_X0_freeTunings_b6
        rw [CR_r hc 18 (by decide) (by decide), CR_r hc 21 (by decide) (by decide), if_neg (by omega), c_isOf hc (by omega) (by omega), c_isFree hc hw (by omega) (by omega)]
        simp only [Option.bind_some, bit_if, if_pos (show (0 : Int) ≤ (i : Int) ∧ (i : Int) < 200 by omega), if_pos (show fin ((i : Int) + 1) by unfold fin; omega), if_pos (show fin (cntI (freeP D a b c) i + 1) ∧ fin ((i : Int) + 1) by unfold fin; omega)]
        by_cases x1 : isK D i 0 a c
        · rw [if_pos x1]
          by_cases x2 : b < D 21 (i : Int).toNat
          · rw [if_pos x2, if_neg (fun e => absurd e.2.1 (by omega))]
          · rw [if_neg x2]
            by_cases x3 : freeI D i c = 0
            · rw [if_pos x3, if_neg (fun e => absurd e.2.2 (by omega))]
            · rw [if_neg x3, if_pos ⟨x1, by omega, by omega⟩]
        · rw [if_neg x1, if_neg (fun e => x1 e.1)]
      · show s_X0_freeTunings_b6 M a b c _ ((nR D : Nat) : Int) = _
        unfold s_X0_freeTunings_b6
        rw [CR_r hc 18 (by decide) (by decide), if_pos (by omega)]
    unfold s_X11_free s_X0_freeTunings
    rw [c_isAsked hc, key]
    simp only [Option.bind_some, bit_if]
    split <;> rfl
  · have key : s_X12_free_l35 (fup M 122 0 0) a b c (0, 0) = some (cntI (freeP D a b c) (nR D)) := by
      unfold s_X12_free_l35
      refine fLp_for (fun i => (cntI (freeP D a b c) i, (i : Int))) (nR D) (fun i hi => ?_) ?_
      · have hb := cntI_b (freeP D a b c) i
        have hf := freeI_b D i c
        show s_X12_free_b35 (fup M 122 0 0) a b c (cntI (freeP D a b c) i) (i : Int) = some (Sum.inl (cntI (freeP D a b c) (i + 1), (i : Int) + 1))
        rw [cntI_s]
        unfold s_X12_free_b35
        rw [hn0', if_neg (by omega), m_isOf hr' hw.1 (by omega) (by omega), m_isFree hm' hr' hn0' hw (by omega) (by omega)]
        simp only [Option.bind_some, bit_if, Int.add_zero, if_pos (show fin (cntI (freeP D a b c) i) ∧ fin ((i : Int) + 1) by unfold fin; omega), if_pos (show fin (cntI (freeP D a b c) i + 1) ∧ fin ((i : Int) + 1) by unfold fin; omega)]
        by_cases x1 : isK D i 0 a c ∧ D 21 (i : Int).toNat ≤ b
        · rw [if_pos x1]
          by_cases x3 : freeI D i c = 0
          · rw [if_pos x3, if_neg (fun e => absurd e.2.2 (by omega))]
          · rw [if_neg x3, if_pos ⟨x1.1, x1.2, by omega⟩]
        · rw [if_neg x1, if_neg (fun e => x1 ⟨e.1, e.2.1⟩)]
      · show s_X12_free_b35 (fup M 122 0 0) a b c _ ((nR D : Nat) : Int) = _
        unfold s_X12_free_b35
        rw [hn0', if_pos (by omega)]
    unfold s_X12_free
    rw [m_isPiano hm' hw.1, m_isDay, m_isKnown, key]
    simp only [Option.bind_some, bit_if, bit_ifn]
    by_cases x1 : 0 ≤ a ∧ a < D 4 13
    · rw [if_pos x1]
      by_cases x2 : 0 ≤ b ∧ b < 364
      · rw [if_pos x2]
        by_cases x3 : -1 ≤ c ∧ c < 364
        · rw [if_pos x3, if_pos ⟨x1, x2, x3⟩]
        · rw [if_neg x3, if_neg (fun e => x3 e.2.2)]
      · rw [if_neg x2, if_neg (fun e => x2 e.2.1)]
    · rw [if_neg x1, if_neg (fun e => x1 e.1)]
/-- what record i adds to the debt -/
def debtI (D : fM) (p day kn i : Int) : Int := if D 20 i.toNat = p ∧ D 21 i.toNat ≤ day ∧ (kn = -1 ∨ D 22 i.toNat ≤ kn) then (if D 19 i.toNat = 0 then (if freeI D i kn = 0 then feeV D p (D 21 i.toNat) else 0) else if D 19 i.toNat = 3 then -(D 23 i.toNat) else if D 19 i.toNat = 4 then -(D 8 1) else 0) else 0
def debtF (D : fM) (p day kn : Int) : Nat → Int
  | 0 => 0
  | n + 1 => debtF D p day kn n + debtI D p day kn n
theorem debtI_b {D : fM} (hw : WF D) {p day kn i : Int} (h1 : 0 ≤ i) (h2 : i < D 18 8) : -9999 ≤ debtI D p day kn i ∧ debtI D p day kn i ≤ 9999 := by
  have hq := (hw.2.2.2.2.2.2.2.2.2 i h1 h2).2.2.2.2.2.2.2.1
  have hr := hw.2.2.2.1.2.1
  have hf := feeV_b hw p (D 21 i.toNat)
  unfold debtI
  repeat' split
  all_goals first | omega | (have := hq ‹_›; omega)
theorem debtF_b {D : fM} (hw : WF D) (p day kn : Int) : ∀ n : Nat, (n : Int) ≤ D 18 8 → -9999 * (n : Int) ≤ debtF D p day kn n ∧ debtF D p day kn n ≤ 9999 * (n : Int)
  | 0, _ => ⟨Int.le_refl _, Int.le_refl _⟩
  | n + 1, h => by
    have ih := debtF_b hw p day kn n (by omega)
    have := debtI_b hw (p := p) (day := day) (kn := kn) (i := (n : Int)) (by omega) (by omega)
    show -9999 * ((n + 1 : Nat) : Int) ≤ debtF D p day kn n + debtI D p day kn n ∧ debtF D p day kn n + debtI D p day kn n ≤ 9999 * ((n + 1 : Nat) : Int)
    omega
