/-! ===== what the reading of a table, of weeks, of a tuner leaves alone ===== -/
theorem lw_tab91 {N : fM} {i t0 : Int} (hi : 0 ≤ i) {r : (Int × fM) ⊕ (fM ⊕ (Int × fM))} (h : s_X12_table_j91 N i t0 = some r) : fLow N (Sum.elim (fun s => s.2) (Sum.elim (fun e => e) (fun v => v.2)) r) ∧ ∀ s, r = .inl s → 0 ≤ s.1 := by
  unfold s_X12_table_j91 at h
  by_cases c : ¬ t0 = 0
  · replace h := fps c h
    obtain ⟨-, h⟩ := fgd h
    obtain ⟨y, hy, h⟩ := fbd h
    obtain ⟨-, h⟩ := fgd h
    obtain rfl := Option.some.inj h
    refine ⟨lw_trans (lw_up lw_refl (by omega)) (lwr (s_X12_next_fr hy) (by decide)), fun s hs => ?_⟩
    obtain rfl := Sum.inl.inj hs
    show 0 ≤ i + 1
    omega
  · replace h := fng c h
    obtain ⟨y, hy, h⟩ := fbd h
    obtain ⟨-, h⟩ := fgd h
    obtain rfl := Option.some.inj h
    exact ⟨lwr (s_X12_bad_fr hy) (by decide), fun s hs => by cases hs⟩
theorem lw_tab12 {N : fM} {i : Int} (hi : 0 ≤ i) {r : (Int × fM) ⊕ (fM ⊕ (Int × fM))} (h : s_X12_table_b12 N i = some r) : fLow N (Sum.elim (fun s => s.2) (Sum.elim (fun e => e) (fun v => v.2)) r) ∧ ∀ s, r = .inl s → 0 ≤ s.1 := by
  unfold s_X12_table_b12 at h
  by_cases c : 12 ≤ i
  · replace h := fps c h
    obtain rfl := Option.some.inj h
    exact ⟨lw_refl, fun s hs => by cases hs⟩
  · replace h := fng c h
    by_cases c : N 122 11 = 2
    · replace h := fps c h
      obtain ⟨y42, -, h⟩ := fbd h
      by_cases c : y42 = 0
      · exact lw_tab91 hi (fps c h)
      · replace h := fng c h
        by_cases c : i = 0
        · exact lw_tab91 hi (fps c h)
        · replace h := fng c h
          obtain ⟨-, h⟩ := fgd h
          by_cases c : (N 122 14) ≤ (N 124 (645 + i).toNat)
          · exact lw_tab91 hi (fps c h)
          · replace h := fng c h
            obtain ⟨-, h⟩ := fgd h
            by_cases c : (2 * (N 124 646)) ≤ (N 122 14)
            · exact lw_tab91 hi (fps c h)
            · exact lw_tab91 hi (fng c h)
    · replace h := fng c h
      obtain ⟨y, hy, h⟩ := fbd h
      obtain ⟨-, h⟩ := fgd h
      obtain rfl := Option.some.inj h
      exact ⟨lwr (s_X12_bad_fr hy) (by decide), fun s hs => by cases hs⟩
theorem lw_table {N : fM} {y : Int × fM} (h : s_X12_table N = some y) : fLow N y.2 := by
  unfold s_X12_table at h
  obtain ⟨y2, h2, h⟩ := fbd h
  have l2 : fLow N y2.2 := lwr (s_X12_once_fr h2) (by decide)
  by_cases c : ¬ y2.1 = 0
  · replace h := fps c h
    obtain ⟨e12, h12, h⟩ := fbd h
    have l12 : fLow N (Sum.elim (fun e => e) (fun v => v.2) e12) := by
      unfold s_X12_table_l12 at h12
      refine fLp_inv (I := fun s : Int × fM => fLow N s.2 ∧ 0 ≤ s.1) (J := fun r : fM ⊕ (Int × fM) => fLow N (Sum.elim (fun e => e) (fun v => v.2) r)) h12 ⟨l2, Int.le_refl 0⟩ (fun s s1 hs hb => ?_) (fun s e hs hb => ?_)
      · obtain ⟨q1, q2⟩ := lw_tab12 hs.2 hb
        exact ⟨lw_trans hs.1 q1, q2 s1 rfl⟩
      · exact lw_trans hs.1 (lw_tab12 hs.2 hb).1
    cases e12 with
    | inl x =>
      obtain rfl := Option.some.inj h
      exact lw_up l12 (by decide)
    | inr v =>
      obtain rfl := Option.some.inj h
      exact l12
  · replace h := fng c h
    obtain rfl := Option.some.inj h
    exact l2
theorem lw_tun46 {N : fM} {k y i : Int} (hk : 0 ≤ k) (hi : 0 ≤ i) {r : (Int × fM) ⊕ (fM ⊕ (Int × fM))} (h : s_X12_tuner_b46 N k y i = some r) : fLow N (Sum.elim (fun s => s.2) (Sum.elim (fun e => e) (fun v => v.2)) r) ∧ ∀ s, r = .inl s → 0 ≤ s.1 := by
  unfold s_X12_tuner_b46 at h
  by_cases c : 2 ≤ i
  · replace h := fps c h
    obtain rfl := Option.some.inj h
    exact ⟨lw_refl, fun s hs => by cases hs⟩
  · replace h := fng c h
    obtain ⟨y56, h56, h⟩ := fbd h
    have l56 : fLow N y56.2 := lwr (s_X12_takes_fr h56) (by decide)
    by_cases c : ¬ y56.1 = 0
    · replace h := fps c h
      obtain ⟨-, h⟩ := fgd h
      obtain ⟨-, h⟩ := fgd h
      obtain rfl := Option.some.inj h
      refine ⟨lw_up l56 (by omega), fun s hs => ?_⟩
      obtain rfl := Sum.inl.inj hs
      show 0 ≤ i + 1
      omega
    · replace h := fng c h
      obtain rfl := Option.some.inj h
      exact ⟨l56, fun s hs => by cases hs⟩
theorem lw_tun132 {N : fM} {k y : Int} {r : Int × fM} (hk : 0 ≤ k) (h : s_X12_tuner_j132 N k y = some r) : fLow N r.2 := by
  unfold s_X12_tuner_j132 at h
  obtain ⟨-, h⟩ := fgd h
  obtain rfl := Option.some.inj h
  exact lw_up (lw_un lw_refl (by omega)) (by decide)
theorem lw_tuner {N : fM} {y : Int × fM} (h : s_X12_tuner N = some y) (hx : 0 ≤ N 124 818) : fLow N y.2 := by
  unfold s_X12_tuner at h
  by_cases c : ¬ (N 124 818) = 6
  · replace h := fps c h
    obtain ⟨y22, h22, h⟩ := fbd h
    have l22 : fLow N y22.2 := lwr (s_X12_next_fr h22) (by decide)
    obtain ⟨y26, h26, h⟩ := fbd h
    have l26 := lw_trans l22 (lwr (s_X12_fresh_fr h26) (by decide))
    by_cases c : ¬ y26.1 = 0
    · replace h := fps c h
      obtain ⟨y40, h40, h⟩ := fbd h
      have l40 := lw_trans l26 (lwr (s_X12_next_fr h40) (by decide))
      obtain ⟨e46, h46, h⟩ := fbd h
      have l46 : fLow N (Sum.elim (fun e => e) (fun v => v.2) e46) := by
        unfold s_X12_tuner_l46 at h46
        refine fLp_inv (I := fun s : Int × fM => fLow N s.2 ∧ 0 ≤ s.1) (J := fun r : fM ⊕ (Int × fM) => fLow N (Sum.elim (fun e => e) (fun v => v.2) r)) h46 ⟨l40, Int.le_refl 0⟩ (fun s s1 hs hb => ?_) (fun s e hs hb => ?_)
        · obtain ⟨q1, q2⟩ := lw_tun46 hx hs.2 hb
          exact ⟨lw_trans hs.1 q1, q2 s1 rfl⟩
        · exact lw_trans hs.1 (lw_tun46 hx hs.2 hb).1
      cases e46 with
      | inl x =>
        obtain ⟨y93, -, h⟩ := fbd h
        by_cases c : y93 = 0
        · exact lw_trans l46 (lw_tun132 hx (fps c h))
        · replace h := fng c h
          obtain ⟨y100, h100, h⟩ := fbd h
          obtain ⟨y106, h106, h⟩ := fbd h
          have l106 := lw_trans (lw_trans l46 (lwr (s_X12_next_fr h100) (by decide))) (lwr (s_X12_takesSigned_fr h106) (by decide))
          by_cases c : ¬ y106.1 = 0
          · replace h := fps c h
            obtain ⟨-, h⟩ := fgd h
            exact lw_trans (lw_up l106 (by omega)) (lw_tun132 hx h)
          · replace h := fng c h
            obtain rfl := Option.some.inj h
            exact l106
      | inr v =>
        obtain rfl := Option.some.inj h
        exact l46
    · replace h := fng c h
      obtain rfl := Option.some.inj h
      exact l26
  · replace h := fng c h
    obtain ⟨y17, h17, h⟩ := fbd h
    obtain ⟨-, h⟩ := fgd h
    obtain rfl := Option.some.inj h
    exact lwr (s_X12_bad_fr h17) (by decide)
