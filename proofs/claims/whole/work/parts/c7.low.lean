/-! ===== what the reference's reading leaves alone: the house that stands ===== -/
def fLow (N N' : fM) : Prop := (∀ j, j < 645 → N' 124 j = N 124 j) ∧ (∀ j, j < 28 → N' 126 j = N 126 j)
theorem lw_refl {N : fM} : fLow N N := ⟨fun _ _ => rfl, fun _ _ => rfl⟩
theorem lw_trans {N N1 N2 : fM} (h : fLow N N1) (h' : fLow N1 N2) : fLow N N2 := ⟨fun j hj => (h'.1 j hj).trans (h.1 j hj), fun j hj => (h'.2 j hj).trans (h.2 j hj)⟩
theorem lwr {l : List (Nat × Option Nat)} {N N' : fM} (f : fSame l N N') (hn : ∀ y ∈ l, y.1 ≠ 124 ∧ y.1 ≠ 126) : fLow N N' := ⟨fun j _ => by rw [fs_row f 124 (fun y hy => (hn y hy).1)], fun j _ => by rw [fs_row f 126 (fun y hy => (hn y hy).2)]⟩
theorem lw_up {N N1 : fM} {i : Nat} {v : Int} (h : fLow N N1) (hi : 645 ≤ i) : fLow N (fup N1 124 i v) := ⟨fun j hj => by rw [fup_eq, upd1_ne (by omega), h.1 j hj], fun j hj => by rw [fup_ne (by decide), h.2 j hj]⟩
theorem lw_un {N N1 : fM} {i : Nat} {v : Int} (h : fLow N N1) (hi : 28 ≤ i) : fLow N (fup N1 126 i v) := ⟨fun j hj => by rw [fup_ne (by decide), h.1 j hj], fun j hj => by rw [fup_eq, upd1_ne (by omega), h.2 j hj]⟩
theorem lw_one {N : fM} {a lo hi x : Int} {y : Int × fM} (h : s_X12_oneNumber N a lo hi x = some y) (hx : 0 ≤ x) : fLow N y.2 := by
  unfold s_X12_oneNumber at h
  obtain ⟨y2, h2, h⟩ := fbd h
  have l2 : fLow N y2.2 := lwr (s_X12_once_fr h2) (by decide)
  by_cases c : y2.1 = 0
  · replace h := fps c h
    cases h
    exact l2
  · replace h := fng c h
    obtain ⟨y11, h11, h⟩ := fbd h
    have l11 := lw_trans l2 (lwr (s_X12_takes_fr h11) (by decide))
    by_cases c : ¬ y11.1 = 0
    · replace h := fps c h
      obtain ⟨g, h⟩ := fgd h
      cases h
      exact lw_up l11 (by omega)
    · replace h := fng c h
      cases h
      exact l11
theorem lw_span {N : fM} {x : Int} {y : Int × fM} (h : s_X12_span N x = some y) (hx : 0 ≤ x) : fLow N y.2 := by
  unfold s_X12_span at h
  obtain ⟨y5, h5, h⟩ := fbd h
  have l5 : fLow N y5.2 := lwr (s_X12_takes_fr h5) (by decide)
  by_cases c : ¬ y5.1 = 0
  · replace h := fps c h
    obtain ⟨-, h⟩ := fgd h
    obtain ⟨y25, h25, h⟩ := fbd h
    have l25 := lw_trans l5 (lwr (s_X12_takes_fr h25) (by decide))
    by_cases c : ¬ y25.1 = 0
    · replace h := fps c h
      obtain ⟨g, h⟩ := fgd h
      cases h
      exact lw_up (lw_up l25 (by omega)) (by omega)
    · replace h := fng c h
      cases h
      exact l25
  · replace h := fng c h
    cases h
    exact l5
theorem lw_fee {N : fM} {y : Int × fM} (h : s_X12_readFee N = some y) (hx : 0 ≤ N 124 762) : fLow N y.2 := by
  unfold s_X12_readFee at h
  by_cases c : ¬ (N 124 762) = 16
  · replace h := fps c h
    obtain ⟨y20, h20, h⟩ := fbd h
    have l20 : fLow N y20.2 := lwr (s_X12_next_fr h20) (by decide)
    have e20 : y20.2 124 = N 124 := fs_row (s_X12_next_fr h20) 124 (by decide)
    obtain ⟨y24, h24, h⟩ := fbd h
    by_cases c : 0 ≤ y24
    · replace h := fps c h
      obtain ⟨y39, h39, h⟩ := fbd h
      have l39 := lw_trans l20 (lwr (s_X12_next_fr h39) (by decide))
      have e39 : y39.2 124 = y20.2 124 := fs_row (s_X12_next_fr h39) 124 (by decide)
      obtain ⟨y47, h47, h⟩ := fbd h
      have l47 := lw_trans l39 (lwr (s_X12_takes_fr h47) (by decide))
      have e47 : y47.2 124 = y39.2 124 := fs_row (s_X12_takes_fr h47) 124 (by decide)
      by_cases c : ¬ y47.1 = 0
      · replace h := fps c h
        obtain ⟨y65, h65, h⟩ := fbd h
        have l65 := lw_trans l47 (lwr (s_X12_takes_fr h65) (by decide))
        have e65 : y65.2 124 = y47.2 124 := fs_row (s_X12_takes_fr h65) 124 (by decide)
        have e0 : y65.2 124 762 = N 124 762 := by rw [e65, e47, e39, e20]
        by_cases c : ¬ y65.1 = 0
        · replace h := fps c h
          obtain ⟨-, h⟩ := fgd h
          obtain ⟨-, h⟩ := fgd h
          obtain ⟨-, h⟩ := fgd h
          cases h
          exact lw_up (lw_up (lw_up (lw_up l65 (by omega)) (by omega)) (by omega)) (by omega)
        · replace h := fng c h
          cases h
          exact l65
      · replace h := fng c h
        cases h
        exact l47
    · replace h := fng c h
      obtain ⟨y34, h34, h⟩ := fbd h
      obtain ⟨-, h⟩ := fgd h
      cases h
      exact lw_trans l20 (lwr (s_X12_bad_fr h34) (by decide))
  · replace h := fng c h
    obtain ⟨y15, h15, h⟩ := fbd h
    obtain ⟨-, h⟩ := fgd h
    cases h
    exact lwr (s_X12_bad_fr h15) (by decide)
theorem lw_pupil {N : fM} {y : Int × fM} (h : s_X12_pupil N = some y) (hx : 0 ≤ N 124 819) : fLow N y.2 := by
  unfold s_X12_pupil at h
  by_cases c : ¬ (N 124 819) = 6
  · replace h := fps c h
    obtain ⟨y22, h22, h⟩ := fbd h
    have l22 : fLow N y22.2 := lwr (s_X12_next_fr h22) (by decide)
    obtain ⟨y26, h26, h⟩ := fbd h
    have l26 := lw_trans l22 (lwr (s_X12_fresh_fr h26) (by decide))
    by_cases c : ¬ y26.1 = 0
    · replace h := fps c h
      obtain ⟨-, h⟩ := fgd h
      obtain ⟨y60, h60, h⟩ := fbd h
      cases h
      exact lw_trans (lw_up (lw_un l26 (by omega)) (by decide)) (lwr (s_X12_next_fr h60) (by decide))
    · replace h := fng c h
      cases h
      exact l26
  · replace h := fng c h
    obtain ⟨y17, h17, h⟩ := fbd h
    obtain ⟨-, h⟩ := fgd h
    cases h
    exact lwr (s_X12_bad_fr h17) (by decide)
