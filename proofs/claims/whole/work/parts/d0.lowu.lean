/-! ===== what the reading of a teach line, of the end of a line leaves alone ===== -/
theorem takesName_b {N : fM} {l1 l2 : Int} {y : Int × fM} (h : s_X12_takesName N l1 l2 = some y) (hy : ¬ y.1 = 0) : 0 ≤ y.2 122 18 := by
  unfold s_X12_takesName at h
  obtain ⟨y1, h1, h⟩ := fbd h
  by_cases c : ¬ y1 = 0
  · replace h := fps c h
    obtain ⟨y17, h17, h⟩ := fbd h
    by_cases g : 0 ≤ y17
    · replace h := fps g h
      obtain ⟨y37, h37, h⟩ := fbd h
      obtain rfl := Option.some.inj h
      show 0 ≤ y37.2 122 18
      rw [fs_at (s_X12_next_fr h37) 122 18 (by decide), fup_eq, upd1_at]
      exact g
    · replace h := fng g h
      obtain ⟨y32, h32, h⟩ := fbd h
      obtain ⟨-, h⟩ := fgd h
      obtain rfl := Option.some.inj h
      unfold s_X12_bad at h32
      obtain rfl := Option.some.inj h32
      exact absurd rfl hy
  · replace h := fng c h
    obtain ⟨y9, h9, h⟩ := fbd h
    obtain ⟨-, h⟩ := fgd h
    obtain rfl := Option.some.inj h
    unfold s_X12_bad at h9
    obtain rfl := Option.some.inj h9
    exact absurd rfl hy
theorem lw_teach {N : fM} {y : Int × fM} (h : s_X12_teach N = some y) : fLow N y.2 := by
  unfold s_X12_teach at h
  obtain ⟨y1, h1, h⟩ := fbd h
  have k1 : fLow N y1.2 := lwr (s_X12_next_fr h1) (by decide)
  obtain ⟨y7, h7, h⟩ := fbd h
  have k7 := lw_trans k1 (lwr (s_X12_takesName_fr h7) (by decide))
  by_cases c7 : ¬ y7.1 = 0
  · replace h := fps c7 h
    have b7 := takesName_b h7 c7
    obtain ⟨y23, h23, h⟩ := fbd h
    have k23 := lw_trans k7 (lwr (s_X12_takesName_fr h23) (by decide))
    by_cases c23 : ¬ y23.1 = 0
    · replace h := fps c23 h
      have b23 := takesName_b h23 c23
      obtain ⟨y40, h40, h⟩ := fbd h
      have k40 := lw_trans k23 (lwr (s_X12_takes_fr h40) (by decide))
      by_cases c : ¬ y40.1 = 0
      · replace h := fps c h
        obtain ⟨-, h⟩ := fgd h
        obtain rfl := Option.some.inj h
        exact lw_up k40 (by omega)
      · replace h := fng c h
        obtain rfl := Option.some.inj h
        exact k40
    · replace h := fng c23 h
      obtain rfl := Option.some.inj h
      exact k23
  · replace h := fng c7 h
    obtain rfl := Option.some.inj h
    exact k7
theorem lw_sign {N : fM} {x : Int} {y : Int × fM} (h : s_X12_sign N x = some y) : fLow N y.2 := lwr (s_X12_sign_fr h) (by decide)
