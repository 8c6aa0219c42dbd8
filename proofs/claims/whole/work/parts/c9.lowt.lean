/-! ===== what the reading of weeks, of a piano's facts leaves alone ===== -/
theorem takes_b {N : fM} {lo hi : Int} {y : Int × fM} (h : s_X12_takes N lo hi = some y) (hy : ¬ y.1 = 0) : lo ≤ y.2 122 18 ∧ y.2 122 18 ≤ hi := by
  unfold s_X12_takes at h
  by_cases c : N 122 11 = 2
  · replace h := fps c h
    rw [m_isIn, Option.bind_some, bit_ifn] at h
    by_cases g : lo ≤ N 122 14 ∧ N 122 14 ≤ hi
    · replace h := fps g h
      obtain ⟨y41, h41, h⟩ := fbd h
      obtain rfl := Option.some.inj h
      show lo ≤ y41.2 122 18 ∧ y41.2 122 18 ≤ hi
      rw [fs_at (s_X12_next_fr h41) 122 18 (by decide), fup_eq, upd1_at]
      exact g
    · replace h := fng g h
      obtain ⟨y28, h28, h⟩ := fbd h
      obtain ⟨-, h⟩ := fgd h
      obtain rfl := Option.some.inj h
      unfold s_X12_bad at h28
      obtain rfl := Option.some.inj h28
      exact absurd rfl hy
  · replace h := fng c h
    obtain ⟨y10, h10, h⟩ := fbd h
    obtain ⟨-, h⟩ := fgd h
    obtain rfl := Option.some.inj h
    unfold s_X12_bad at h10
    obtain rfl := Option.some.inj h10
    exact absurd rfl hy
theorem lw_w81 {N : fM} {l1 l3 l4 t1 t2 : Int} (h4 : 0 ≤ l4) (ht : 645 ≤ t1 + t2) {r : (Int × fM) ⊕ fM} (h : s_X12_weeks_j81 N l1 l3 l4 t1 t2 = some r) : fLow N (Sum.elim (fun s => s.2) (fun e => e) r) ∧ ∀ s, r = .inl s → 0 ≤ s.1 := by
  unfold s_X12_weeks_j81 at h
  obtain ⟨-, h⟩ := fgd h
  by_cases c : l1 = 0
  · replace h := fps c h
    obtain ⟨-, h⟩ := fgd h
    obtain rfl := Option.some.inj h
    refine ⟨lw_up lw_refl (by omega), fun s hs => ?_⟩
    obtain rfl := Sum.inl.inj hs
    show 0 ≤ l4 + 1
    omega
  · replace h := fng c h
    obtain ⟨-, h⟩ := fgd h
    obtain rfl := Option.some.inj h
    refine ⟨lw_up lw_refl (by omega), fun s hs => ?_⟩
    obtain rfl := Sum.inl.inj hs
    show 0 ≤ l4 + 1
    omega
theorem lw_w57 {N : fM} {l1 l3 l4 : Int} (h4 : 0 ≤ l4) {r : (Int × fM) ⊕ fM} (h : s_X12_weeks_b57 N l1 l3 l4 = some r) : fLow N (Sum.elim (fun s => s.2) (fun e => e) r) ∧ ∀ s, r = .inl s → 0 ≤ s.1 := by
  unfold s_X12_weeks_b57 at h
  by_cases c : l3 < l4
  · replace h := fps c h
    obtain rfl := Option.some.inj h
    exact ⟨lw_refl, fun s hs => by cases hs⟩
  · replace h := fng c h
    by_cases c : l1 = 0
    · exact lw_w81 h4 (by decide) (fps c h)
    · exact lw_w81 h4 (by decide) (fng c h)
theorem lw_w54 {N : fM} {l1 l2 l3 : Int} (h2 : 0 ≤ l2) {r : Int × fM} (h : s_X12_weeks_j54 N l1 l2 l3 = some r) : fLow N r.2 := by
  unfold s_X12_weeks_j54 at h
  obtain ⟨e57, h57, h⟩ := fbd h
  obtain rfl := Option.some.inj h
  unfold s_X12_weeks_l57 at h57
  refine fLp_inv (I := fun s : Int × fM => fLow N s.2 ∧ 0 ≤ s.1) (J := fun r : fM => fLow N r) h57 ⟨lw_refl, h2⟩ (fun s s1 hs hb => ?_) (fun s e hs hb => ?_)
  · obtain ⟨q1, q2⟩ := lw_w57 hs.2 hb
    exact ⟨lw_trans hs.1 q1, q2 s1 rfl⟩
  · exact lw_trans hs.1 (lw_w57 hs.2 hb).1
theorem lw_weeks {N : fM} {l1 : Int} {y : Int × fM} (h : s_X12_weeks N l1 = some y) : fLow N y.2 := by
  unfold s_X12_weeks at h
  obtain ⟨y1, h1, h⟩ := fbd h
  have k1 : fLow N y1.2 := lwr (s_X12_next_fr h1) (by decide)
  obtain ⟨y8, h8, h⟩ := fbd h
  have k8 := lw_trans k1 (lwr (s_X12_takes_fr h8) (by decide))
  by_cases c8 : ¬ y8.1 = 0
  · replace h := fps c8 h
    have b8 := (takes_b h8 c8).1
    obtain ⟨y25, h25, h⟩ := fbd h
    have k25 := lw_trans k8 (lwr (s_X12_takes_fr h25) (by decide))
    by_cases c : ¬ y25.1 = 0
    · replace h := fps c h
      by_cases c : l1 = 0
      · exact lw_trans k25 (lw_w54 b8 (fps c h))
      · replace h := fng c h
        obtain ⟨y46, h46, h⟩ := fbd h
        have k46 := lw_trans k25 (lwr (s_X12_takes_fr h46) (by decide))
        by_cases c : ¬ y46.1 = 0
        · exact lw_trans k46 (lw_w54 b8 (fps c h))
        · replace h := fng c h
          obtain rfl := Option.some.inj h
          exact k46
    · replace h := fng c h
      obtain rfl := Option.some.inj h
      exact k25
  · replace h := fng c8 h
    obtain rfl := Option.some.inj h
    exact k8
theorem lo_p155 {N : fM} {l1 l2 l5 l6 l7 t0 : Int} (h5 : 645 ≤ l5) (h6 : 0 ≤ l6) {r : (Int × fM) ⊕ (fM ⊕ (Int × fM))} (h : s_X12_readPiano_j155 N l1 l2 l5 l6 l7 t0 = some r) : fLow N (Sum.elim (fun s => s.2) (Sum.elim (fun e => e) (fun v => v.2)) r) ∧ ∀ s, r = .inl s → 0 ≤ s.1 := by
  unfold s_X12_readPiano_j155 at h
  obtain ⟨y, hy, h⟩ := fbd h
  have k : fLow N y.2 := lwr (s_X12_takes_fr hy) (by decide)
  by_cases c : ¬ y.1 = 0
  · replace h := fps c h
    obtain ⟨-, h⟩ := fgd h
    obtain rfl := Option.some.inj h
    refine ⟨lw_up k (by omega), fun s hs => ?_⟩
    obtain rfl := Sum.inl.inj hs
    show 0 ≤ l6 + 1
    omega
  · replace h := fng c h
    obtain rfl := Option.some.inj h
    exact ⟨k, fun s hs => by cases hs⟩
theorem lo_p104 {N : fM} {l1 l2 l5 l6 t0 : Int} (h5 : 645 ≤ l5) (h6 : 0 ≤ l6) {r : (Int × fM) ⊕ (fM ⊕ (Int × fM))} (h : s_X12_readPiano_j104 N l1 l2 l5 l6 t0 = some r) : fLow N (Sum.elim (fun s => s.2) (Sum.elim (fun e => e) (fun v => v.2)) r) ∧ ∀ s, r = .inl s → 0 ≤ s.1 := by
  unfold s_X12_readPiano_j104 at h
  by_cases c : 3 ≤ l6
  · replace h := fps c h
    by_cases c : ¬ l6 = 3
    · replace h := fps c h
      by_cases c : ¬ l6 = 4
      · replace h := fps c h
        by_cases c : ¬ l6 = 5
        · exact lo_p155 h5 h6 (fps c h)
        · exact lo_p155 h5 h6 (fng c h)
      · exact lo_p155 h5 h6 (fng c h)
    · exact lo_p155 h5 h6 (fng c h)
  · exact lo_p155 h5 h6 (fng c h)
theorem lo_p86 {N : fM} {l1 l2 l5 l6 : Int} (h5 : 645 ≤ l5) (h6 : 0 ≤ l6) {r : (Int × fM) ⊕ (fM ⊕ (Int × fM))} (h : s_X12_readPiano_b86 N l1 l2 l5 l6 = some r) : fLow N (Sum.elim (fun s => s.2) (Sum.elim (fun e => e) (fun v => v.2)) r) ∧ ∀ s, r = .inl s → 0 ≤ s.1 := by
  unfold s_X12_readPiano_b86 at h
  by_cases c : 7 ≤ l6
  · replace h := fps c h
    obtain rfl := Option.some.inj h
    exact ⟨lw_refl, fun s hs => by cases hs⟩
  · replace h := fng c h
    by_cases c : ¬ l6 = 3
    · exact lo_p104 h5 h6 (fps c h)
    · exact lo_p104 h5 h6 (fng c h)
theorem lo_pl86 {N : fM} {l1 l2 l5 l6 : Int} (h5 : 645 ≤ l5) (h6 : 0 ≤ l6) {r : fM ⊕ (Int × fM)} (h : s_X12_readPiano_l86 l1 l2 l5 (l6, N) = some r) : fLow N (Sum.elim (fun e => e) (fun v => v.2) r) := by
  unfold s_X12_readPiano_l86 at h
  refine fLp_inv (I := fun s : Int × fM => fLow N s.2 ∧ 0 ≤ s.1) (J := fun r : fM ⊕ (Int × fM) => fLow N (Sum.elim (fun e => e) (fun v => v.2) r)) h ⟨lw_refl, h6⟩ (fun s s1 hs hb => ?_) (fun s e hs hb => ?_)
  · obtain ⟨q1, q2⟩ := lo_p86 h5 hs.2 hb
    exact ⟨lw_trans hs.1 q1, q2 s1 rfl⟩
  · exact lw_trans hs.1 (lo_p86 h5 hs.2 hb).1
