/-! ===== what the reading of the rest of a piano's line leaves alone ===== -/
abbrev mrM (r : (Int × Int × Int × Int × fM) ⊕ (fM ⊕ (Int × fM))) : fM := Sum.elim (fun s => s.2.2.2.2) (Sum.elim (fun e => e) (fun v => v.2)) r
theorem lo_m304 {N : fM} {l1 l2 l3 l5 l6 l7 l8 t0 t1 : Int} {r : (Int × Int × Int × Int × fM) ⊕ (fM ⊕ (Int × fM))} (h : s_X12_more_j304 N l1 l2 l3 l5 l6 l7 l8 t0 t1 = some r) : fLow N (mrM r) := by
  unfold s_X12_more_j304 at h
  by_cases c : l7 = 0
  · replace h := fps c h
    obtain rfl := Option.some.inj h
    exact lw_refl
  · replace h := fng c h
    obtain rfl := Option.some.inj h
    exact lw_refl
theorem lo_m280 {N : fM} {l1 l2 l3 l4 l5 l6 l7 l8 t1 t2 : Int} (h8 : 0 ≤ l8) (ht : 645 ≤ t1 + t2) {r : (Int × Int × Int × Int × fM) ⊕ (fM ⊕ (Int × fM))} (h : s_X12_more_j280 N l1 l2 l3 l4 l5 l6 l7 l8 t1 t2 = some r) : fLow N (mrM r) := by
  unfold s_X12_more_j280 at h
  obtain ⟨-, h⟩ := fgd h
  by_cases c : l7 = 0
  · exact lw_trans (lw_up lw_refl (by omega)) (lo_m304 (fps c h))
  · exact lw_trans (lw_up lw_refl (by omega)) (lo_m304 (fng c h))
theorem lo_m242 {N : fM} {l1 l2 l3 l4 l5 l6 l7 l8 t1 t2 : Int} (h1 : 0 ≤ l1) (h8 : 0 ≤ l8) {r : (Int × Int × Int × Int × fM) ⊕ (fM ⊕ (Int × fM))} (h : s_X12_more_j242 N l1 l2 l3 l4 l5 l6 l7 l8 t1 t2 = some r) : fLow N (mrM r) := by
  unfold s_X12_more_j242 at h
  obtain ⟨y, hy, h⟩ := fbd h
  have k : fLow N y.2 := lwr (s_X12_takes_fr hy) (by decide)
  by_cases c : ¬ y.1 = 0
  · replace h := fps c h
    by_cases c : l7 = 0
    · obtain ⟨-, h⟩ := fgd (fps c h)
      exact lw_trans k (lo_m280 h8 (by omega) h)
    · obtain ⟨-, h⟩ := fgd (fng c h)
      exact lw_trans k (lo_m280 h8 (by omega) h)
  · replace h := fng c h
    obtain rfl := Option.some.inj h
    exact k
