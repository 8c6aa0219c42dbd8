/-! ===== class and reference side by side: tokens ===== -/
def StB (K N : fM) (b : Nat → Int) (L lim p : Nat) : Prop := PC K b L lim ∧ PM N b L lim ∧ K 1 4 = p ∧ CuM N b L lim p ∧ p ≤ L ∧ K 1 9 = 0 ∧ N 122 15 = 0
def StA (K N : fM) (b : Nat → Int) (L lim p : Nat) : Prop := PC K b L lim ∧ PM N b L lim ∧ CuC K b L lim p ∧ CuM N b L lim p ∧ p ≤ L ∧ K 1 9 = 0 ∧ N 122 15 = 0
def Ft (K N : fM) : Prop := K 1 9 = N 122 15 ∧ K 1 10 = N 122 16 ∧ (1 ≤ K 1 9 ∧ K 1 9 ≤ 4) ∧ (0 ≤ K 1 10 ∧ K 1 10 ≤ 1240)
abbrev gtL : List (Nat × Option Nat) := [(122, some 4), (122, some 11), (122, some 12), (122, some 13), (122, some 14), (122, some 17), (122, some 18)]
theorem CuC_fs {l : List (Nat × Option Nat)} {K K' : fM} {b : Nat → Int} {L lim p : Nat} (f : fSame l K K') (hn : fNo l [] [(1, 4), (1, 5), (1, 6), (1, 7), (1, 8)]) (h : CuC K b L lim p) : CuC K' b L lim p := by
  unfold CuC at h ⊢
  rw [fno_fld f hn 1 4 (by decide), fno_fld f hn 1 5 (by decide), fno_fld f hn 1 6 (by decide), fno_fld f hn 1 7 (by decide), fno_fld f hn 1 8 (by decide)]
  exact h
theorem CuM_fs {l : List (Nat × Option Nat)} {N N' : fM} {b : Nat → Int} {L lim p : Nat} (f : fSame l N N') (hn : fNo l [] [(122, 4), (122, 11), (122, 12), (122, 14), (122, 17)]) (h : CuM N b L lim p) : CuM N' b L lim p := by
  unfold CuM at h ⊢
  rw [fno_fld f hn 122 4 (by decide), fno_fld f hn 122 11 (by decide), fno_fld f hn 122 12 (by decide), fno_fld f hn 122 14 (by decide), fno_fld f hn 122 17 (by decide)]
  exact h
abbrev okCl (l : List (Nat × Option Nat)) : Prop := fNo l [2, 3] [(1, 2), (1, 3), (1, 4), (1, 5), (1, 6), (1, 7), (1, 8), (1, 9)]
abbrev okMl (l : List (Nat × Option Nat)) : Prop := fNo l [123, 127] [(122, 3), (122, 5), (122, 4), (122, 11), (122, 12), (122, 14), (122, 17), (122, 15)]
theorem StB_c {l : List (Nat × Option Nat)} {K K' N : fM} {b : Nat → Int} {L lim p : Nat} (f : fSame l K K') (hn : okCl l) (h : StB K N b L lim p) : StB K' N b L lim p := by
  obtain ⟨h1, h2, h3, h4, h5, h6, h7⟩ := h
  exact ⟨PC_fs f (fno_sub hn (by decide) (by decide)) h1, h2, by rw [fno_fld f hn 1 4 (by decide)]; exact h3, h4, h5, by rw [fno_fld f hn 1 9 (by decide)]; exact h6, h7⟩
theorem StB_m {l : List (Nat × Option Nat)} {K N N' : fM} {b : Nat → Int} {L lim p : Nat} (f : fSame l N N') (hn : okMl l) (h : StB K N b L lim p) : StB K N' b L lim p := by
  obtain ⟨h1, h2, h3, h4, h5, h6, h7⟩ := h
  exact ⟨h1, PM_fs f (fno_sub hn (by decide) (by decide)) h2, h3, CuM_fs f (fno_sub hn (by decide) (by decide)) h4, h5, h6, by rw [fno_fld f hn 122 15 (by decide)]; exact h7⟩
theorem StA_c {l : List (Nat × Option Nat)} {K K' N : fM} {b : Nat → Int} {L lim p : Nat} (f : fSame l K K') (hn : okCl l) (h : StA K N b L lim p) : StA K' N b L lim p := by
  obtain ⟨h1, h2, h3, h4, h5, h6, h7⟩ := h
  exact ⟨PC_fs f (fno_sub hn (by decide) (by decide)) h1, h2, CuC_fs f (fno_sub hn (by decide) (by decide)) h3, h4, h5, by rw [fno_fld f hn 1 9 (by decide)]; exact h6, h7⟩
theorem StA_m {l : List (Nat × Option Nat)} {K N N' : fM} {b : Nat → Int} {L lim p : Nat} (f : fSame l N N') (hn : okMl l) (h : StA K N b L lim p) : StA K N' b L lim p := by
  obtain ⟨h1, h2, h3, h4, h5, h6, h7⟩ := h
  exact ⟨h1, PM_fs f (fno_sub hn (by decide) (by decide)) h2, h3, CuM_fs f (fno_sub hn (by decide) (by decide)) h4, h5, h6, by rw [fno_fld f hn 122 15 (by decide)]; exact h7⟩
theorem StA_B {K N : fM} {b : Nat → Int} {L lim p : Nat} (h : StA K N b L lim p) : K 1 4 = tNx b L lim p := h.2.2.1.1
/-- the class takes the token that the reference has -/
theorem sim_take {K N : fM} {b : Nat → Int} {L lim p : Nat} (h : StB K N b L lim p) : ∃ K', s_X10_take K = some ((), K') ∧ fSame tkL K K' ∧ StA K' N b L lim p := by
  obtain ⟨h1, h2, h3, h4, h5, h6, h7⟩ := h
  obtain ⟨K', c1, c2, c3⟩ := c_take h1.1 h1.2.1 h1.2.2.1 h1.2.2.2.1 h3 h5
  exact ⟨K', c1, c2, PC_fs c2 (by decide) h1, h2, c3, h4, h5, by rw [fs_at c2 1 9 (by decide)]; exact h6, h7⟩
/-- the reference goes on -/
theorem sim_next {K N : fM} {b : Nat → Int} {L lim p : Nat} (h : StA K N b L lim p) : ∃ N', s_X12_next N = some ((), N') ∧ fSame nxL N N' ∧ StB K N' b L lim (tNx b L lim p) := by
  obtain ⟨h1, h2, h3, h4, h5, h6, h7⟩ := h
  have hle := tNx_le (b := b) (lim := lim) h5
  obtain ⟨N', c1, c2, c3⟩ := m_next h2.1 h4.1 hle.2
  exact ⟨N', c1, c2, h1, PM_fs c2 (by decide) h2, h3.1, c3, hle.2, h6, by rw [fs_at c2 122 15 (by decide)]; exact h7⟩
/-- both fail -/
theorem sim_fail {K N : fM} {b : Nat → Int} {L lim p : Nat} (h : StA K N b L lim p) (c : Int) (hc : 1 ≤ c ∧ c ≤ 4) : ∃ K' N', s_X10_fail K c = some (.inr (), K') ∧ s_X12_bad N c = some (0, N') ∧ Ft K' N' := by
  obtain ⟨h1, h2, h3, h4, h5, h6, h7⟩ := h
  have hs := tSt_le (b := b) (lim := lim) h5
  have hL := h1.2.2.1
  refine ⟨_, _, rfl, rfl, ?_, ?_, ?_, ?_⟩
  · rfl
  · show K 1 5 = N 122 12
    rw [h3.2.1, h4.2.1]
  · exact hc
  · show 0 ≤ K 1 5 ∧ K 1 5 ≤ 1240
    rw [h3.2.1]
    omega
theorem sim_num {K N : fM} {b : Nat → Int} {L lim p : Nat} (h : StB K N b L lim p) (lo hi : Int) : (∃ K' N', s_X10_takeNumber K lo hi = some (.inl (tV b L p), K') ∧ s_X12_takes N lo hi = some (1, N') ∧ StB K' N' b L lim (tNx b L lim p) ∧ N' 122 18 = tV b L p ∧ (lo ≤ tV b L p ∧ tV b L p ≤ hi) ∧ fSame tkL K K' ∧ fSame gtL N N' ∧ p < tNx b L lim p) ∨ (∃ K' N', s_X10_takeNumber K lo hi = some (.inr (), K') ∧ s_X12_takes N lo hi = some (0, N') ∧ Ft K' N') := by
  obtain ⟨K1, c1, c2, hA⟩ := sim_take h
  have hA0 := hA
  obtain ⟨h1, h2, h3, h4, h5, h6, h7⟩ := hA
  obtain ⟨-, kd3, -, -, -⟩ := kd_ne h4
  have etn : s_X10_takeNumber K lo hi = (s_X10_numberHere K1 lo hi).bind fun y7 => fel y7.1 (fun w7 => some (.inl w7, y7.2)) (some (.inr (), y7.2)) := by
    unfold s_X10_takeNumber
    rw [c1]
    rfl
  rw [etn]
  by_cases hk : tKd b L lim p = 3
  · have hv := tV_b hk
    have k7 : K1 1 7 = tV b L p := h3.2.2.2.2 hk
    have n14 : N 122 14 = tV b L p := (h4.2.2.2.2.2.1 hk).2
    have n11 : N 122 11 = 2 := (h4.2.2.2.2.2.1 hk).1
    have k6 : K1 1 6 = 3 := by rw [h3.2.2.1, hk]; rfl
    by_cases hr : lo ≤ tV b L p ∧ tV b L p ≤ hi
    · left
      have hcl : s_X10_numberHere K1 lo hi = some (.inl (tV b L p), K1) := by
        unfold s_X10_numberHere s_X10_numberHere_j13
        rw [if_pos k6, k7, if_neg (by omega), if_pos hr.2]
      have hA2 : StA K1 (fup N 122 18 (tV b L p)) b L lim p := StA_m (fs_up1 N 122 18 _) (by decide) hA0
      obtain ⟨N', m1, m2, m3⟩ := sim_next hA2
      refine ⟨K1, N', ?_, ?_, m3, ?_, hr, c2, fs_trans (fs_up fs_refl (.inr (by decide))) (fs_mono (by decide) m2), tNx_lt h5 (by omega)⟩
      · rw [hcl]
        rfl
      · unfold s_X12_takes
        rw [if_pos n11, n14, m_isIn, Option.bind_some, bit_ifn, if_pos hr, m1]
        rfl
      · rw [fs_at m2 122 18 (by decide)]
        rfl
    · right
      obtain ⟨K2, N2, f1, f2, f3⟩ := sim_fail hA0 2 (by decide)
      refine ⟨K2, N2, ?_, ?_, f3⟩
      · have hcl : s_X10_numberHere K1 lo hi = some (.inr (), K2) := by
          unfold s_X10_numberHere s_X10_numberHere_j13 s_X10_numberHere_j29
          rw [if_pos k6, k7, f1]
          by_cases g : tV b L p < lo
          · rw [if_pos g]
            rfl
          · rw [if_neg g, if_neg (by omega)]
            rfl
        rw [hcl]
        rfl
      · unfold s_X12_takes
        rw [if_pos n11, n14, m_isIn, Option.bind_some, bit_ifn, if_neg hr, f2]
        rfl
  · right
    have k6 : ¬ K1 1 6 = 3 := by rw [h3.2.2.1]; omega
    obtain ⟨K2, N2, f1, f2, f3⟩ := sim_fail hA0 1 (by decide)
    refine ⟨K2, N2, ?_, ?_, f3⟩
    · have hcl : s_X10_numberHere K1 lo hi = some (.inr (), K2) := by
        unfold s_X10_numberHere
        rw [if_neg k6, f1]
        rfl
      rw [hcl]
      rfl
    · unfold s_X12_takes
      rw [if_neg (fun e => hk (kd3.1 e)), f2]
      rfl
theorem kx_cases {b : Nat → Int} {L lim p : Nat} (k : Int) (hk : 0 ≤ k) (h : kx b L lim p = k) : tKd b L lim p = 2 := by
  unfold kx at h
  by_cases e : tKd b L lim p = 2
  · exact e
  · rw [if_neg e] at h; omega
theorem m_kind {N : fM} {b : Nat → Int} {L lim p : Nat} (hc : CuM N b L lim p) (hp : p ≤ L) : s_X12_kind N = some (if kx b L lim p = 14 then 0 else if kx b L lim p = 15 then 1 else if kx b L lim p = 16 then 2 else -1) := by
  unfold s_X12_kind
  rw [m_word hc hp 14 (by decide) _ (by decide +kernel), Option.bind_some, m_word hc hp 15 (by decide) _ (by decide +kernel), Option.bind_some, m_word hc hp 16 (by decide) _ (by decide +kernel), Option.bind_some, bit_if, bit_if, bit_if]
  by_cases h1 : kx b L lim p = 14
  · rw [if_pos (show kx b L lim p = ((14 : Nat) : Int) from h1), if_pos h1]
  · rw [if_neg (show ¬ kx b L lim p = ((14 : Nat) : Int) from h1), if_neg h1]
    by_cases h2 : kx b L lim p = 15
    · rw [if_pos (show kx b L lim p = ((15 : Nat) : Int) from h2), if_pos h2]
    · rw [if_neg (show ¬ kx b L lim p = ((15 : Nat) : Int) from h2), if_neg h2]
      by_cases h3 : kx b L lim p = 16
      · rw [if_pos (show kx b L lim p = ((16 : Nat) : Int) from h3), if_pos h3]
      · rw [if_neg (show ¬ kx b L lim p = ((16 : Nat) : Int) from h3), if_neg h3]
theorem sim_kind {K N : fM} {b : Nat → Int} {L lim p : Nat} (h : StB K N b L lim p) : (∃ k K' N', (0 ≤ k ∧ k ≤ 2) ∧ s_X10_takeKind K = some (.inl k, K') ∧ s_X12_kind N = some k ∧ s_X12_next N = some ((), N') ∧ StB K' N' b L lim (tNx b L lim p) ∧ fSame tkL K K' ∧ fSame nxL N N' ∧ p < tNx b L lim p) ∨ (∃ K' N', s_X10_takeKind K = some (.inr (), K') ∧ s_X12_kind N = some (-1) ∧ s_X12_bad N 1 = some (0, N') ∧ Ft K' N') := by
  obtain ⟨K1, c1, c2, hA⟩ := sim_take h
  have hA0 := hA
  obtain ⟨h1, h2, h3, h4, h5, h6, h7⟩ := hA
  have hkw := c_kw h1 h3 h5
  have hmk := m_kind h4 h5
  have hb := kwx_b (tW b L p)
  by_cases hk : 14 ≤ kx b L lim p ∧ kx b L lim p ≤ 16
  · left
    obtain ⟨N', m1, m2, m3⟩ := sim_next hA0
    have hk2 := kx_cases (kx b L lim p) (by omega) rfl
    refine ⟨kx b L lim p - 14, K1, N', by omega, ?_, ?_, m1, m3, c2, m2, tNx_lt h5 (by omega)⟩
    · unfold s_X10_takeKind
      rw [c1, Option.bind_some]
      show (s_X10_keywordHere K1).bind _ = _
      rw [hkw, Option.bind_some, if_neg (by omega), if_pos hk.2, if_pos (by unfold fin; omega)]
    · rw [hmk]
      by_cases g1 : kx b L lim p = 14
      · rw [if_pos g1, g1]; rfl
      · rw [if_neg g1]
        by_cases g2 : kx b L lim p = 15
        · rw [if_pos g2, g2]; rfl
        · rw [if_neg g2, if_pos (show kx b L lim p = 16 by omega), show kx b L lim p = 16 by omega]; rfl
  · right
    obtain ⟨K2, N2, f1, f2, f3⟩ := sim_fail hA0 1 (by decide)
    refine ⟨K2, N2, ?_, ?_, f2, f3⟩
    · unfold s_X10_takeKind s_X10_takeKind_j21
      rw [c1, Option.bind_some]
      show (s_X10_keywordHere K1).bind _ = _
      rw [hkw, Option.bind_some]
      show (if kx b L lim p < 14 then (s_X10_fail K1 1).bind _ else if kx b L lim p ≤ 16 then _ else (s_X10_fail K1 1).bind _) = _
      rw [f1]
      by_cases g : kx b L lim p < 14
      · rw [if_pos g]
        rfl
      · rw [if_neg g, if_neg (by omega)]
        rfl
    · rw [hmk, if_neg (by omega), if_neg (by omega), if_neg (by omega)]
/-- a name -/
theorem sim_name {K N : fM} {b : Nat → Int} {L lim p : Nat} (h : StB K N b L lim p) : (∃ K', s_X10_takeName K = some (.inl (enc5 (tW b L p)), K') ∧ s_X12_isName N = some 1 ∧ StA K' N b L lim p ∧ N 122 17 = enc8 (tW b L p) ∧ isW (tW b L p) ∧ fSame tkL K K' ∧ p < tNx b L lim p) ∨ (∃ K' N', s_X10_takeName K = some (.inr (), K') ∧ s_X12_isName N = some 0 ∧ s_X12_bad N 1 = some (0, N') ∧ Ft K' N') := by
  obtain ⟨K1, c1, c2, hA⟩ := sim_take h
  have hA0 := hA
  obtain ⟨h1, h2, h3, h4, h5, h6, h7⟩ := hA
  have hkw := c_kw h1 h3 h5
  have hmn := m_name h2 h4 h5
  by_cases hk : tKd b L lim p = 2 ∧ kx b L lim p = -1
  · left
    have k6 : K1 1 6 = 2 := by rw [h3.2.2.1, hk.1]; rfl
    refine ⟨K1, ?_, ?_, hA0, (h4.2.2.2.2.1 hk.1).2, (tW_ok h5 hk.1).1, c2, tNx_lt h5 (by omega)⟩
    · unfold s_X10_takeName
      rw [c1, Option.bind_some]
      show (if ¬ K1 1 6 = 2 then _ else (s_X10_keywordHere K1).bind fun y13 => if y13 = -1 then some (Sum.inl (K1 1 8), K1) else _) = _
      rw [if_neg (fun e => e k6), hkw, Option.bind_some, if_pos hk.2, h3.2.2.2.1 hk.1]
    · rw [hmn, bit1.2 hk]
  · right
    obtain ⟨K2, N2, f1, f2, f3⟩ := sim_fail hA0 1 (by decide)
    refine ⟨K2, N2, ?_, by rw [hmn, bit0.2 hk], f2, f3⟩
    have j20 : s_X10_takeName_j20 K1 = some (.inr (), K2) := by
      unfold s_X10_takeName_j20
      rw [f1]
      rfl
    unfold s_X10_takeName
    rw [c1, Option.bind_some]
    show (if ¬ K1 1 6 = 2 then s_X10_takeName_j20 K1 else (s_X10_keywordHere K1).bind fun y13 => if y13 = -1 then some (Sum.inl (K1 1 8), K1) else s_X10_takeName_j20 K1) = _
    by_cases g : tKd b L lim p = 2
    · rw [if_neg (fun e => e (by rw [h3.2.2.1, g]; rfl)), hkw, Option.bind_some, if_neg (fun e => hk ⟨g, e⟩), j20]
    · rw [if_pos (by rw [h3.2.2.1]; omega), j20]
/-- a number with a sign -/
theorem sim_signed {K N : fM} {b : Nat → Int} {L lim p : Nat} (h : StB K N b L lim p) (hi : Int) (hhi : 0 ≤ hi ∧ hi ≤ 1000000) : (∃ v p' K' N', s_X10_takeSigned K hi = some (.inl v, K') ∧ s_X12_takesSigned N hi = some (1, N') ∧ StB K' N' b L lim p' ∧ N' 122 18 = v ∧ (-hi ≤ v ∧ v ≤ hi) ∧ fSame tkL K K' ∧ fSame gtL N N' ∧ p < p') ∨ (∃ K' N', s_X10_takeSigned K hi = some (.inr (), K') ∧ s_X12_takesSigned N hi = some (0, N') ∧ Ft K' N') := by
  have hS0 := h
  obtain ⟨K1, c1, c2, hA⟩ := sim_take h
  have hA0 := hA
  obtain ⟨h1, h2, h3, h4, h5, h6, h7⟩ := hA
  obtain ⟨-, -, -, -, kd5⟩ := kd_ne h4
  by_cases hk : tKd b L lim p = 5
  · -- a minus: the number stands behind it
    have k6 : K1 1 6 = 5 := by rw [h3.2.2.1, hk]; rfl
    obtain ⟨n1, n2⟩ := kd5.2 hk
    obtain ⟨N1, m1, m2, m3⟩ := sim_next hA0
    have hlt := tNx_lt h5 (show 2 ≤ tKd b L lim p by omega)
    have hsg : s_X12_isSign N 45 = some 1 := by
      unfold s_X12_isSign
      rw [if_neg (fun e => e n1), if_neg (fun e => e n2)]
    have ecl : s_X10_takeSigned K hi = (s_X10_takeNumber K1 0 hi).bind fun y29 => fel y29.1 (fun w29 => if fin (-w29) then some (.inl (-w29), y29.2) else none) (some (.inr (), y29.2)) := by
      unfold s_X10_takeSigned
      rw [c1, Option.bind_some]
      show (if ¬ K1 1 6 = 5 then _ else s_X10_takeSigned_j17 K1 hi 1) = _
      rw [if_neg (fun e => e k6)]
      unfold s_X10_takeSigned_j17 s_X10_takeNumber s_X10_takeSigned_j26
      rw [if_neg (by decide)]
      cases s_X10_take K1 with
      | none => rfl
      | some y =>
        show ((s_X10_numberHere y.2 0 hi).bind fun y29 => fel y29.1 (fun w29 => if (1 : Int) = 0 then some (Sum.inl w29, y29.2) else if fin (-w29) then some (Sum.inl (-w29), y29.2) else none) (some (Sum.inr (), y29.2))) = ((s_X10_numberHere y.2 0 hi).bind fun y7 => fel y7.1 (fun w7 => some (Sum.inl w7, y7.2)) (some (Sum.inr (), y7.2))).bind fun y29 => fel y29.1 (fun w29 => if fin (-w29) then some (Sum.inl (-w29), y29.2) else none) (some (Sum.inr (), y29.2))
        cases s_X10_numberHere y.2 0 hi with
        | none => rfl
        | some z =>
          obtain ⟨z1, z2⟩ := z
          rcases z1 with w | u
          · show (if (1 : Int) = 0 then some ((Sum.inl w : Int ⊕ Unit), z2) else if fin (-w) then some ((Sum.inl (-w) : Int ⊕ Unit), z2) else none) = if fin (-w) then some ((Sum.inl (-w) : Int ⊕ Unit), z2) else none
            rw [if_neg (by decide)]
          · rfl
    have eml : s_X12_takesSigned N hi = (s_X12_takes N1 0 hi).bind fun y18 => if ¬ y18.1 = 0 then (if fin (-(y18.2 122 18)) then some (1, fup y18.2 122 18 (-(y18.2 122 18))) else none) else some (0, y18.2) := by
      unfold s_X12_takesSigned
      rw [hsg, Option.bind_some, if_neg (by decide), m1, Option.bind_some]
      unfold s_X12_takesSigned_j15
      cases s_X12_takes N1 0 hi with
      | none => rfl
      | some y =>
        show (if ¬ y.1 = 0 then (if (1 : Int) = 0 then _ else _) else _) = _
        rw [if_neg (show ¬ (1 : Int) = 0 by decide)]
        rfl
    rcases sim_num m3 0 hi with ⟨K2, N2, d1, d2, d3, d4, d5, d6, d7, d8⟩ | ⟨K2, N2, d1, d2, d3⟩
    · left
      refine ⟨-tV b L (tNx b L lim p), _, K2, fup N2 122 18 (-tV b L (tNx b L lim p)), ?_, ?_, StB_m (fs_up1 N2 122 18 _) (by decide) d3, rfl, by omega, fs_trans c2 d6, fs_up (fs_trans (fs_mono (by decide) m2) d7) (.inr (by decide)), Nat.lt_trans hlt d8⟩
      · rw [ecl, d1]
        show (if fin (-tV b L (tNx b L lim p)) then _ else _) = _
        rw [if_pos (by unfold fin; omega)]
      · rw [eml, d2]
        show (if fin (-(N2 122 18)) then some ((1 : Int), fup N2 122 18 (-(N2 122 18))) else none) = _
        rw [d4, if_pos (by unfold fin; omega)]
    · right
      refine ⟨K2, N2, ?_, ?_, d3⟩
      · rw [ecl, d1]
        rfl
      · rw [eml, d2]
        rfl
  · have k6 : ¬ K1 1 6 = 5 := by rw [h3.2.2.1]; omega
    have hsg : s_X12_isSign N 45 = some 0 := by
      unfold s_X12_isSign
      by_cases g : N 122 11 = 3
      · rw [if_neg (fun e => e g), if_pos (fun e => hk (kd5.1 ⟨g, e⟩))]
      · rw [if_pos g]
    have ecl : s_X10_takeSigned K hi = s_X10_takeNumber K 0 hi := by
      unfold s_X10_takeSigned s_X10_takeNumber
      rw [c1, Option.bind_some, Option.bind_some]
      show (if ¬ K1 1 6 = 5 then s_X10_takeSigned_j17 K1 hi 0 else _) = _
      rw [if_pos k6]
      unfold s_X10_takeSigned_j17 s_X10_takeSigned_j26
      rw [if_pos rfl]
      show ((s_X10_numberHere K1 0 hi).bind fun y29 => fel y29.1 (fun w29 => if (0 : Int) = 0 then some (Sum.inl w29, y29.2) else _) (some (Sum.inr (), y29.2))) = _
      cases s_X10_numberHere K1 0 hi with
      | none => rfl
      | some z =>
        obtain ⟨z1, z2⟩ := z
        rcases z1 with w | u
        · rfl
        · rfl
    have eml : s_X12_takesSigned N hi = (s_X12_takes N 0 hi).bind fun y18 => if ¬ y18.1 = 0 then some (1, fup y18.2 122 18 (y18.2 122 18)) else some (0, y18.2) := by
      unfold s_X12_takesSigned
      rw [hsg, Option.bind_some, if_pos rfl]
      unfold s_X12_takesSigned_j15
      cases s_X12_takes N 0 hi with
      | none => rfl
      | some y =>
        show (if ¬ y.1 = 0 then (if (0 : Int) = 0 then _ else _) else _) = _
        rw [if_pos (show (0 : Int) = 0 from rfl)]
        rfl
    rcases sim_num hS0 0 hi with ⟨K2, N2, d1, d2, d3, d4, d5, d6, d7, d8⟩ | ⟨K2, N2, d1, d2, d3⟩
    · left
      refine ⟨tV b L p, _, K2, fup N2 122 18 (tV b L p), ?_, ?_, StB_m (fs_up1 N2 122 18 _) (by decide) d3, rfl, by omega, d6, fs_up d7 (.inr (by decide)), d8⟩
      · rw [ecl, d1]
      · rw [eml, d2]
        show some ((1 : Int), fup N2 122 18 (N2 122 18)) = _
        rw [d4]
    · right
      refine ⟨K2, N2, by rw [ecl, d1], ?_, d3⟩
      rw [eml, d2]
      rfl
/-! names sought -/
def srch (f : Nat → Int) (x : Int) : Nat → Int
  | 0 => -1
  | n + 1 => if 0 ≤ srch f x n then srch f x n else if f n = x then (n : Int) else -1
theorem srch_r (f : Nat → Int) (x : Int) : ∀ n : Nat, srch f x n = -1 ∨ ∃ k : Nat, k < n ∧ srch f x n = (k : Int) ∧ f k = x ∧ ∀ j, j < k → f j ≠ x
  | 0 => .inl rfl
  | n + 1 => by
    unfold srch
    by_cases h : 0 ≤ srch f x n
    · rw [if_pos h]
      rcases srch_r f x n with e | ⟨k, e1, e2, e3⟩
      · exact .inl e
      · exact .inr ⟨k, by omega, e2, e3⟩
    · rw [if_neg h]
      by_cases e : f n = x
      · rw [if_pos e]
        refine .inr ⟨n, by omega, rfl, e, fun j hj hf => ?_⟩
        have : ∀ m, srch f x m < 0 → ∀ j, j < m → f j ≠ x := by
          intro m
          induction m with
          | zero => intro _ j hj; omega
          | succ m ih =>
            intro hm j hj hf
            unfold srch at hm
            by_cases g : 0 ≤ srch f x m
            · rw [if_pos g] at hm; omega
            · rw [if_neg g] at hm
              by_cases e2 : j = m
              · subst e2
                rw [if_pos hf] at hm
                omega
              · exact ih (by omega) j (by omega) hf
        exact this n (by omega) j hj hf
      · rw [if_neg e]; exact .inl rfl
theorem srch_n (f : Nat → Int) (x : Int) : ∀ n : Nat, srch f x n < 0 → ∀ j, j < n → f j ≠ x
  | 0, _, j, hj => by omega
  | n + 1, hm, j, hj => by
    unfold srch at hm
    by_cases g : 0 ≤ srch f x n
    · rw [if_pos g] at hm; omega
    · rw [if_neg g] at hm
      by_cases e2 : j = n
      · subst e2
        intro hf
        rw [if_pos hf] at hm
        omega
      · exact srch_n f x n (by omega) j (by omega)
theorem srch_b (f : Nat → Int) (x : Int) (n : Nat) : -1 ≤ srch f x n ∧ srch f x n < (n : Int) := by
  rcases srch_r f x n with e | ⟨k, e1, e2, -⟩ <;> omega
theorem srch_eq {f g : Nat → Int} {x y : Int} : ∀ n : Nat, (∀ i, i < n → (f i = x ↔ g i = y)) → srch f x n = srch g y n
  | 0, _ => rfl
  | n + 1, h => by
    unfold srch
    rw [srch_eq n (fun i hi => h i (by omega))]
    by_cases e : f n = x
    · rw [if_pos e, if_pos ((h n (by omega)).1 e)]
    · rw [if_neg e, if_neg (fun e2 => e ((h n (by omega)).2 e2))]
theorem fLp_srch {b : Int → Option (Int ⊕ (Unit ⊕ Int))} {f : Nat → Int} {x : Int} (n : Nat) (hs : ∀ i : Nat, i < n → f i ≠ x → b (i : Int) = some (.inl ((i + 1 : Nat) : Int))) (hh : ∀ i : Nat, i < n → f i = x → b (i : Int) = some (.inr (.inr (i : Int)))) (he : b (n : Int) = some (.inr (.inl ()))) : (fLp b 0).bind (fun e => Sum.elim (fun _ => some (-1)) (fun v => some v) e) = some (srch f x n) := by
  rcases srch_r f x n with e | ⟨k, e1, e2, e3, e4⟩
  · have hno := srch_n f x n (by omega)
    have := fLp_for (b := b) (fun i => (i : Int)) n (e := .inl ()) (fun i hi => hs i hi (hno i hi)) he
    rw [show fLp b 0 = some (.inl ()) from this, e]
    rfl
  · have := fLp_for (b := b) (fun i => (i : Int)) k (e := .inr (k : Int)) (fun i hi => hs i (by omega) (e4 i hi)) (hh k e1 e3)
    rw [show fLp b 0 = some (.inr (k : Int)) from this, e2]
    rfl
theorem wrel_eq {x y : Int} (h : wrel x y) {w : List Nat} (hw : isW w) : x = enc5 w ↔ y = enc8 w := by
  obtain ⟨w', h1, h2, h3⟩ := h
  rw [h2, h3]
  constructor
  · intro e
    rw [enc5_inj _ _ h1.2.2 hw.2.2 e]
  · intro e
    rw [enc8_inj _ _ h1.2.2 hw.2.2 e]
theorem c_pl39 {K : fM} {n : Nat} (hn : n ≤ 16) (x : Int) : s_X2_placeOf_39 K (n : Int) x = some (srch (K 39) x n) := by
  unfold s_X2_placeOf_39 s_X2_placeOf_39_l3
  refine fLp_srch n (fun i hi h => ?_) (fun i hi h => ?_) ?_
  · unfold s_X2_placeOf_39_b3
    rw [if_neg (by omega), if_pos (by omega), show (i : Int).toNat = i from rfl, if_pos h, if_pos (by unfold fin; omega)]
    rfl
  · unfold s_X2_placeOf_39_b3
    rw [if_neg (by omega), if_pos (by omega), show (i : Int).toNat = i from rfl, if_neg (fun e => e h)]
  · unfold s_X2_placeOf_39_b3
    rw [if_pos (Int.le_refl _)]
theorem c_pl40 {K : fM} {n : Nat} (hn : n ≤ 6) (x : Int) : s_X2_placeOf_40 K (n : Int) x = some (srch (K 40) x n) := by
  unfold s_X2_placeOf_40 s_X2_placeOf_40_l3
  refine fLp_srch n (fun i hi h => ?_) (fun i hi h => ?_) ?_
  · unfold s_X2_placeOf_40_b3
    rw [if_neg (by omega), if_pos (by omega), show (i : Int).toNat = i from rfl, if_pos h, if_pos (by unfold fin; omega)]
    rfl
  · unfold s_X2_placeOf_40_b3
    rw [if_neg (by omega), if_pos (by omega), show (i : Int).toNat = i from rfl, if_neg (fun e => e h)]
  · unfold s_X2_placeOf_40_b3
    rw [if_pos (Int.le_refl _)]
theorem c_pl41 {K : fM} {n : Nat} (hn : n ≤ 6) (x : Int) : s_X2_placeOf_41 K (n : Int) x = some (srch (K 41) x n) := by
  unfold s_X2_placeOf_41 s_X2_placeOf_41_l3
  refine fLp_srch n (fun i hi h => ?_) (fun i hi h => ?_) ?_
  · unfold s_X2_placeOf_41_b3
    rw [if_neg (by omega), if_pos (by omega), show (i : Int).toNat = i from rfl, if_pos h, if_pos (by unfold fin; omega)]
    rfl
  · unfold s_X2_placeOf_41_b3
    rw [if_neg (by omega), if_pos (by omega), show (i : Int).toNat = i from rfl, if_neg (fun e => e h)]
  · unfold s_X2_placeOf_41_b3
    rw [if_pos (Int.le_refl _)]
theorem c_pl15 {K : fM} {n : Nat} (hn : n ≤ 16) (x : Int) : s_X2_placeOf_15 K (n : Int) x = some (srch (K 15) x n) := by
  unfold s_X2_placeOf_15 s_X2_placeOf_15_l3
  refine fLp_srch n (fun i hi h => ?_) (fun i hi h => ?_) ?_
  · unfold s_X2_placeOf_15_b3
    rw [if_neg (by omega), if_pos (by omega), show (i : Int).toNat = i from rfl, if_pos h, if_pos (by unfold fin; omega)]
    rfl
  · unfold s_X2_placeOf_15_b3
    rw [if_neg (by omega), if_pos (by omega), show (i : Int).toNat = i from rfl, if_neg (fun e => e h)]
  · unfold s_X2_placeOf_15_b3
    rw [if_pos (Int.le_refl _)]
theorem c_pl16 {K : fM} {n : Nat} (hn : n ≤ 6) (x : Int) : s_X2_placeOf_16 K (n : Int) x = some (srch (K 16) x n) := by
  unfold s_X2_placeOf_16 s_X2_placeOf_16_l3
  refine fLp_srch n (fun i hi h => ?_) (fun i hi h => ?_) ?_
  · unfold s_X2_placeOf_16_b3
    rw [if_neg (by omega), if_pos (by omega), show (i : Int).toNat = i from rfl, if_pos h, if_pos (by unfold fin; omega)]
    rfl
  · unfold s_X2_placeOf_16_b3
    rw [if_neg (by omega), if_pos (by omega), show (i : Int).toNat = i from rfl, if_neg (fun e => e h)]
  · unfold s_X2_placeOf_16_b3
    rw [if_pos (Int.le_refl _)]
/-- the reference seeks: house h (0, 1), sort s (0, 1, 2) from o on -/
theorem m_find {N : fM} {h s o n : Nat} (hh : h ≤ 1) (hs : s ≤ 2) (ho : o = 28 * h + (if s = 0 then 0 else if s = 1 then 16 else 22)) (hn : N 124 (645 * h + 172 + s) = n) (hn2 : n ≤ if s = 0 then 16 else 6) : s_X12_find N (h : Int) (s : Int) = some (srch (fun i => N 126 (o + i)) (N 122 17) n) := by
  have hoo : o + n ≤ 56 := by
    have : s = 0 ∨ s = 1 ∨ s = 2 := by omega
    rcases this with e | e | e <;> subst e
    · rw [if_pos rfl] at ho hn2; omega
    · rw [if_neg (by decide), if_pos rfl] at ho
      rw [if_neg (by decide)] at hn2
      omega
    · rw [if_neg (by decide), if_neg (by decide)] at ho
      rw [if_neg (by decide)] at hn2
      omega
  have j24 : ∀ t1 : Int, 28 * (h : Int) + t1 = (o : Int) → s_X12_find_j24 N (h : Int) (s : Int) (28 * (h : Int)) t1 = some (srch (fun i => N 126 (o + i)) (N 122 17) n) := by
    intro t1 ht
    unfold s_X12_find_j24 s_X12_find_l29
    rw [ht, if_pos (by unfold fin; omega)]
    have g : fin (645 * (h : Int)) ∧ fin (645 * (h : Int) + 172) ∧ fin (645 * (h : Int) + 172 + (s : Int)) ∧ (0 ≤ 645 * (h : Int) + 172 + (s : Int) ∧ 645 * (h : Int) + 172 + (s : Int) < 1290) := by unfold fin; omega
    have gi : (645 * (h : Int) + 172 + (s : Int)).toNat = 645 * h + 172 + s := by omega
    refine fLp_srch (f := fun i => N 126 (o + i)) n (fun i hi hne => ?_) (fun i hi he => ?_) ?_
    · unfold s_X12_find_b29
      rw [if_pos g, gi, hn, if_neg (by omega), if_pos (by unfold fin; omega), show ((o : Int) + (i : Int)).toNat = o + i by omega, if_pos hne, if_pos (by unfold fin; omega)]
      rfl
    · unfold s_X12_find_b29
      rw [if_pos g, gi, hn, if_neg (by omega), if_pos (by unfold fin; omega), show ((o : Int) + (i : Int)).toNat = o + i by omega, if_neg (fun e => e he)]
    · unfold s_X12_find_b29
      rw [if_pos g, gi, hn, if_pos (Int.le_refl _)]
  unfold s_X12_find
  rw [if_pos (by unfold fin; omega)]
  have : s = 0 ∨ s = 1 ∨ s = 2 := by omega
  rcases this with e | e | e
  · subst e
    rw [if_pos rfl] at ho
    rw [if_neg (fun e => e rfl)]
    exact j24 0 (by omega)
  · subst e
    rw [if_neg (by decide), if_pos rfl] at ho
    rw [if_pos (by decide), if_neg (fun e => e rfl)]
    exact j24 16 (by omega)
  · subst e
    rw [if_neg (by decide), if_neg (by decide)] at ho
    rw [if_pos (by decide), if_pos (by decide)]
    exact j24 22 (by omega)
