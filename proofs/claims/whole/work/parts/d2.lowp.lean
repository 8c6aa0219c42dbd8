/-! ===== a number's token has a number that is not negative ===== -/
theorem pk17 (M : fM) (v : Int) : s_X12_peek (fup M 122 17 v) = s_X12_peek M := rfl
theorem nn_263 {N : fM} {l2 l3 : Int} {r : (Int × fM) ⊕ (Int × fM)} (h0 : 0 ≤ N 122 14) (h : s_X12_next_j263 N l2 l3 = some r) : 0 ≤ (Sum.elim (fun s => s.2) (fun s => s.2) r : fM) 122 14 := by
  unfold s_X12_next_j263 at h
  obtain ⟨-, h⟩ := fgd h
  obtain rfl := Option.some.inj h
  exact h0
theorem nn_236 {N : fM} {l2 l3 : Int} {r : (Int × fM) ⊕ (Int × fM)} (h0 : 0 ≤ N 122 14) (hc : ∀ c, s_X12_peek N = some c → 48 ≤ c) (h : s_X12_next_j236 N l2 l3 = some r) : 0 ≤ (Sum.elim (fun s => s.2) (fun s => s.2) r : fM) 122 14 := by
  unfold s_X12_next_j236 at h
  by_cases c : 5 ≤ N 122 13
  · exact nn_263 h0 (fps c h)
  · obtain ⟨-, h⟩ := fgd (fng c h)
    obtain ⟨y, hy, h⟩ := fbd h
    obtain ⟨-, h⟩ := fgd h
    have hq := hc y hy
    refine nn_263 ?_ h
    show 0 ≤ 10 * N 122 14 + y - 48
    omega
theorem nn_209 {N : fM} {l2 l3 : Int} {r : (Int × fM) ⊕ (Int × fM)} (h0 : 0 ≤ N 122 14) (hc : ∀ c, s_X12_peek N = some c → 48 ≤ c) (h : s_X12_next_j209 N l2 l3 = some r) : 0 ≤ (Sum.elim (fun s => s.2) (fun s => s.2) r : fM) 122 14 := by
  unfold s_X12_next_j209 at h
  by_cases c : 8 ≤ N 122 13
  · exact nn_236 h0 hc (fps c h)
  · obtain ⟨y, hy, h⟩ := fbd (fng c h)
    refine nn_236 ?_ ?_ h
    · exact h0
    · rw [pk17]
      exact hc
theorem nn_189 {N : fM} {l2 l3 : Int} {r : (Int × fM) ⊕ (Int × fM)} (h0 : 0 ≤ N 122 14) (hc : ∀ c, s_X12_peek N = some c → 48 ≤ c) (h : s_X12_next_j189 N l2 l3 = some r) : 0 ≤ (Sum.elim (fun s => s.2) (fun s => s.2) r : fM) 122 14 := by
  unfold s_X12_next_j189 s_X12_next_j208 at h
  by_cases c : l3 = 0
  · exact nn_209 h0 hc (fps c h)
  · obtain ⟨y, -, h⟩ := fbd (fng c h)
    obtain ⟨z, -, h⟩ := fbd h
    by_cases c : ¬ z = l2
    · exact nn_209 h0 hc (fps c h)
    · exact nn_209 h0 hc (fng c h)
theorem nn_169 {N : fM} {l2 l3 : Int} {r : (Int × fM) ⊕ (Int × fM)} (h0 : 0 ≤ N 122 14) (h : s_X12_next_b169 N l2 l3 = some r) : 0 ≤ (Sum.elim (fun s => s.2) (fun s => s.2) r : fM) 122 14 := by
  unfold s_X12_next_b169 at h
  obtain ⟨y, hy, h⟩ := fbd h
  rw [m_isLt, Option.bind_some] at h
  by_cases g : isLt y
  · rw [if_pos g] at h
    replace h := fps (show ¬ (1 : Int) = 0 by decide) h
    refine nn_189 h0 (fun c e => ?_) h
    rw [hy] at e
    obtain rfl := Option.some.inj e
    have := g.1
    omega
  · rw [if_neg g] at h
    replace h := fng (show ¬ ¬ (0 : Int) = 0 by decide) h
    obtain ⟨z, hz, h⟩ := fbd h
    rw [m_isDg, Option.bind_some] at h
    by_cases g2 : isDg z
    · rw [if_pos g2] at h
      replace h := fng (show ¬ (1 : Int) = 0 by decide) h
      refine nn_189 h0 (fun c e => ?_) h
      rw [hz] at e
      obtain rfl := Option.some.inj e
      exact g2.1
    · rw [if_neg g2] at h
      replace h := fps (show (0 : Int) = 0 from rfl) h
      obtain rfl := Option.some.inj h
      exact h0
theorem nn_l169 {N : fM} {l2 l3 : Int} {r : Int × fM} (h0 : 0 ≤ N 122 14) (h : s_X12_next_l169 l2 (l3, N) = some r) : 0 ≤ r.2 122 14 := by
  unfold s_X12_next_l169 at h
  exact fLp_inv (I := fun s : Int × fM => 0 ≤ s.2 122 14) (J := fun r : Int × fM => 0 ≤ r.2 122 14) h h0 (fun s s1 hs hb => nn_169 hs hb) (fun s e hs hb => nn_169 hs hb)
theorem nn_305 {N : fM} {l2 t1 t2 : Int} {y : Unit × fM} (h0 : 0 ≤ N 122 14) (h : s_X12_next_j305 N l2 t1 t2 = some y) : 0 ≤ y.2 122 14 := by
  unfold s_X12_next_j305 at h
  by_cases c : t1 ≤ t2
  · replace h := fps c h
    by_cases c : l2 = 0
    · obtain rfl := Option.some.inj (fps c h)
      exact h0
    · obtain rfl := Option.some.inj (fng c h)
      exact h0
  · obtain rfl := Option.some.inj (fng c h)
    exact h0
theorem nn_152 {N : fM} {l1 : Int} {y : Unit × fM} (h : s_X12_next_j152 N l1 = some y) : 0 ≤ y.2 122 14 := by
  unfold s_X12_next_j152 at h
  obtain ⟨z, -, h⟩ := fbd h
  obtain ⟨e, he, h⟩ := fbd h
  have q : 0 ≤ e.2 122 14 := nn_l169 (show (0 : Int) ≤ 0 from Int.le_refl 0) he
  by_cases c : e.1 = 0
  · obtain rfl := Option.some.inj (fps c h)
    exact q
  · replace h := fng c h
    by_cases c : z = 0
    · exact nn_305 q (fps c h)
    · exact nn_305 q (fng c h)
theorem nn_133 {N : fM} {l1 t1 : Int} {y : Unit × fM} (h : s_X12_next_j133 N l1 t1 = some y) (ht : ¬ t1 = 2) : ¬ y.2 122 11 = 2 := by
  unfold s_X12_next_j133 at h
  obtain ⟨-, h⟩ := fgd h
  obtain rfl := Option.some.inj h
  exact ht
theorem nn_80 {N : fM} {y : Unit × fM} (h : s_X12_next_j80 N = some y) (h2 : y.2 122 11 = 2) : 0 ≤ y.2 122 14 := by
  unfold s_X12_next_j80 s_X12_next_j128 at h
  obtain ⟨z, -, h⟩ := fbd h
  by_cases c : 0 ≤ z
  · replace h := fps c h
    obtain ⟨y1, -, h⟩ := fbd h
    by_cases c : ¬ y1 = 0
    · exact nn_152 (fps c h)
    · replace h := fng c h
      obtain ⟨y2, -, h⟩ := fbd h
      by_cases c : ¬ y2 = 0
      · exact nn_152 (fps c h)
      · replace h := fng c h
        by_cases c : z = 59
        · exact absurd h2 (nn_133 (fps c h) (by decide))
        · replace h := fng c h
          by_cases c : z = 45
          · exact absurd h2 (nn_133 (fps c h) (by decide))
          · replace h := fng c h
            by_cases c : ¬ z = 46
            · exact absurd h2 (nn_133 (fps c h) (by decide))
            · exact absurd h2 (nn_133 (fng c h) (by decide))
  · obtain rfl := Option.some.inj (fng c h)
    exact absurd h2 (show ¬ (0 : Int) = 2 by decide)
theorem next_nn {N : fM} {y : Unit × fM} (h : s_X12_next N = some y) (h2 : y.2 122 11 = 2) : 0 ≤ y.2 122 14 := by
  unfold s_X12_next at h
  obtain ⟨e, -, h⟩ := fbd h
  by_cases c : e 122 3 ≤ e 122 5
  · exact nn_80 (fps c h) h2
  · replace h := fng c h
    by_cases c : e 122 4 < e 122 5
    · exact nn_80 (fps c h) h2
    · obtain rfl := Option.some.inj (fng c h)
      exact absurd h2 (show ¬ (4 : Int) = 2 by decide)
/-! ===== the rest of a piano's line, a piano, a line ===== -/
theorem lo_m201 {N : fM} {l1 l2 l3 l4 l5 l6 l7 t0 : Int} (h1 : 0 ≤ l1) (h8 : 0 ≤ N 122 14) {r : (Int × Int × Int × Int × fM) ⊕ (fM ⊕ (Int × fM))} (h : s_X12_more_j201 N l1 l2 l3 l4 l5 l6 l7 t0 = some r) : fLow N (mrM r) := by
  unfold s_X12_more_j201 at h
  by_cases c : ¬ (fand (fshr t0 (N 122 14)) 1) = 1
  · replace h := fps c h
    obtain ⟨y, hy, h⟩ := fbd h
    have k : fLow N y.2 := lwr (s_X12_next_fr hy) (by decide)
    by_cases c : l7 = 0
    · exact lw_trans k (lo_m242 h1 h8 (fps c h))
    · exact lw_trans k (lo_m242 h1 h8 (fng c h))
  · replace h := fng c h
    obtain ⟨y, hy, h⟩ := fbd h
    obtain ⟨-, h⟩ := fgd h
    obtain rfl := Option.some.inj h
    exact lwr (s_X12_bad_fr hy) (by decide)
theorem lo_m180 {N : fM} {l1 l2 l3 l4 l5 l6 l7 t0 t1 : Int} (h1 : 0 ≤ l1) (h8 : 0 ≤ N 122 14) {r : (Int × Int × Int × Int × fM) ⊕ (fM ⊕ (Int × fM))} (h : s_X12_more_j180 N l1 l2 l3 l4 l5 l6 l7 t0 t1 = some r) : fLow N (mrM r) := by
  unfold s_X12_more_j180 at h
  by_cases c : t0 ≤ t1
  · replace h := fps c h
    by_cases c : l7 = 0
    · exact lo_m201 h1 h8 (fps c h)
    · exact lo_m201 h1 h8 (fng c h)
  · replace h := fng c h
    obtain ⟨y, hy, h⟩ := fbd h
    obtain ⟨-, h⟩ := fgd h
    obtain rfl := Option.some.inj h
    exact lwr (s_X12_bad_fr hy) (by decide)
theorem lo_m138 {N : fM} {l1 l2 l3 l4 l5 l6 : Int} (h1 : 0 ≤ l1) {r : (Int × Int × Int × Int × fM) ⊕ (fM ⊕ (Int × fM))} (h : s_X12_more_j138 N l1 l2 l3 l4 l5 l6 = some r) : fLow N (mrM r) := by
  unfold s_X12_more_j138 at h
  obtain ⟨w, -, h⟩ := fbd h
  obtain ⟨y, hy, h⟩ := fbd h
  have k : fLow N y.2 := lwr (s_X12_next_fr hy) (by decide)
  by_cases c : y.2 122 11 = 2
  · replace h := fps c h
    have h8 := next_nn hy c
    by_cases c : w = 0
    · exact lw_trans k (lo_m180 h1 h8 (fps c h))
    · exact lw_trans k (lo_m180 h1 h8 (fng c h))
  · replace h := fng c h
    obtain ⟨z, hz, h⟩ := fbd h
    obtain ⟨-, h⟩ := fgd h
    obtain rfl := Option.some.inj h
    exact lw_trans k (lwr (s_X12_bad_fr hz) (by decide))
theorem lo_m20 {N : fM} {l1 l2 l3 l4 l5 l6 : Int} (h1 : 0 ≤ l1) (h2 : 0 ≤ l2) {r : (Int × Int × Int × Int × fM) ⊕ (fM ⊕ (Int × fM))} (h : s_X12_more_b20 N l1 l2 l3 l4 l5 l6 = some r) : fLow N (mrM r) := by
  unfold s_X12_more_b20 at h
  by_cases c : l6 = 0
  · obtain rfl := Option.some.inj (fps c h)
    exact lw_refl
  · replace h := fng c h
    obtain ⟨y29, -, h⟩ := fbd h
    by_cases c : y29 = 0
    · replace h := fps c h
      obtain ⟨y83, -, h⟩ := fbd h
      by_cases c : y83 = 0
      · replace h := fps c h
        obtain ⟨y122, -, h⟩ := fbd h
        by_cases c : ¬ y122 = 0
        · exact lo_m138 h1 (fps c h)
        · replace h := fng c h
          obtain ⟨y132, -, h⟩ := fbd h
          by_cases c : y132 = 0
          · obtain rfl := Option.some.inj (fps c h)
            exact lw_refl
          · exact lo_m138 h1 (fng c h)
      · replace h := fng c h
        by_cases c : l3 = 0
        · replace h := fps c h
          obtain ⟨y102, h102, h⟩ := fbd h
          have k : fLow N y102.2 := lwr (s_X12_next_fr h102) (by decide)
          obtain ⟨-, h⟩ := fgd h
          obtain ⟨y110, h110, h⟩ := fbd h
          have k2 := lw_trans k (lw_span h110 (by omega))
          by_cases c : ¬ y110.1 = 0
          · obtain rfl := Option.some.inj (fps c h)
            exact k2
          · obtain rfl := Option.some.inj (fng c h)
            exact k2
        · replace h := fng c h
          obtain ⟨z, hz, h⟩ := fbd h
          obtain ⟨-, h⟩ := fgd h
          obtain rfl := Option.some.inj h
          exact lwr (s_X12_bad_fr hz) (by decide)
    · replace h := fng c h
      obtain ⟨-, h⟩ := fgd h
      by_cases c : ¬ (N 124 ((645 + l2) + 7).toNat) = 1
      · replace h := fps c h
        obtain ⟨-, h⟩ := fgd h
        obtain ⟨y73, h73, h⟩ := fbd h
        obtain rfl := Option.some.inj h
        exact lw_trans (lw_up lw_refl (by omega)) (lwr (s_X12_next_fr h73) (by decide))
      · replace h := fng c h
        obtain ⟨z, hz, h⟩ := fbd h
        obtain ⟨-, h⟩ := fgd h
        obtain rfl := Option.some.inj h
        exact lwr (s_X12_bad_fr hz) (by decide)
theorem lw_more {N : fM} {l1 : Int} {y : Int × fM} (h1 : 0 ≤ l1) (h : s_X12_more N l1 = some y) : fLow N y.2 := by
  unfold s_X12_more at h
  obtain ⟨-, h⟩ := fgd h
  obtain ⟨e20, h20, h⟩ := fbd h
  have l20 : fLow N (Sum.elim (fun e => e) (fun v => v.2) e20) := by
    unfold s_X12_more_l20 at h20
    refine fLp_inv (I := fun s : Int × Int × Int × Int × fM => fLow N s.2.2.2.2) (J := fun r : fM ⊕ (Int × fM) => fLow N (Sum.elim (fun e => e) (fun v => v.2) r)) h20 lw_refl (fun s s1 hs hb => ?_) (fun s e hs hb => ?_)
    · exact lw_trans hs (lo_m20 h1 (by omega) hb)
    · exact lw_trans hs (lo_m20 h1 (by omega) hb)
  cases e20 with
  | inl x =>
    obtain rfl := Option.some.inj h
    exact l20
  | inr v =>
    obtain rfl := Option.some.inj h
    exact l20
theorem lw_piano {N : fM} {y : Int × fM} (h : s_X12_readPiano N = some y) (hx : 0 ≤ N 124 817) : fLow N y.2 := by
  unfold s_X12_readPiano at h
  by_cases c : ¬ (N 124 817) = 16
  · replace h := fps c h
    obtain ⟨y22, h22, h⟩ := fbd h
    have l22 : fLow N y22.2 := lwr (s_X12_next_fr h22) (by decide)
    obtain ⟨y26, h26, h⟩ := fbd h
    have l26 := lw_trans l22 (lwr (s_X12_fresh_fr h26) (by decide))
    by_cases c : ¬ y26.1 = 0
    · replace h := fps c h
      obtain ⟨y40, h40, h⟩ := fbd h
      have l40 := lw_trans l26 (lwr (s_X12_next_fr h40) (by decide))
      obtain ⟨y44, -, h⟩ := fbd h
      by_cases c : 0 ≤ y44
      · replace h := fps c h
        obtain ⟨y61, h61, h⟩ := fbd h
        have l61 := lw_trans l40 (lwr (s_X12_next_fr h61) (by decide))
        obtain ⟨-, h⟩ := fgd h
        obtain ⟨e86, h86, h⟩ := fbd h
        have l86 := lw_trans (lw_up l61 (by omega)) (lo_pl86 (by omega) (by omega) h86)
        cases e86 with
        | inl x =>
          replace h := fsl h
          obtain ⟨-, h⟩ := fgd h
          obtain ⟨y205, h205, h⟩ := fbd h
          have l205 := lw_trans (lw_up (show fLow N x from l86) (by omega)) (lw_more hx h205)
          by_cases c : ¬ y205.1 = 0
          · replace h := fps c h
            obtain ⟨-, h⟩ := fgd h
            obtain rfl := Option.some.inj h
            exact lw_up (lw_un l205 (by omega)) (by decide)
          · obtain rfl := Option.some.inj (fng c h)
            exact l205
        | inr v =>
          obtain rfl := Option.some.inj h
          exact l86
      · replace h := fng c h
        obtain ⟨z, hz, h⟩ := fbd h
        obtain ⟨-, h⟩ := fgd h
        obtain rfl := Option.some.inj h
        exact lw_trans l40 (lwr (s_X12_bad_fr hz) (by decide))
    · obtain rfl := Option.some.inj (fng c h)
      exact l26
  · replace h := fng c h
    obtain ⟨z, hz, h⟩ := fbd h
    obtain ⟨-, h⟩ := fgd h
    obtain rfl := Option.some.inj h
    exact lwr (s_X12_bad_fr hz) (by decide)
theorem lw_b01 {x : Option (Int × fM)} {y : Int × fM} (h : (x.bind fun z => if b01 z.1 then some (z.1, z.2) else none) = some y) : x = some y := by
  obtain ⟨z, hz, h⟩ := fbd h
  obtain ⟨-, h⟩ := fgd h
  rw [hz, ← h]
theorem lw_line {N : fM} {y : Int × fM} (h : s_X12_line N = some y) (hf : 0 ≤ N 124 762) (hp : 0 ≤ N 124 817) (ht : 0 ≤ N 124 818) (hu : 0 ≤ N 124 819) : fLow N y.2 := by
  unfold s_X12_line at h
  obtain ⟨y4, -, h⟩ := fbd h
  by_cases c : y4 = 0
  case neg => exact lw_table (lw_b01 (fng c h))
  replace h := fps c h
  clear c
  obtain ⟨y19, -, h⟩ := fbd h
  by_cases c : y19 = 0
  case neg => exact lw_weeks (lw_b01 (fng c h))
  replace h := fps c h
  clear c
  obtain ⟨y35, -, h⟩ := fbd h
  by_cases c : y35 = 0
  case neg => exact lw_weeks (lw_b01 (fng c h))
  replace h := fps c h
  clear c
  obtain ⟨y51, -, h⟩ := fbd h
  by_cases c : y51 = 0
  case neg => exact lw_fee (lw_b01 (fng c h)) hf
  replace h := fps c h
  clear c
  obtain ⟨y66, -, h⟩ := fbd h
  by_cases c : y66 = 0
  case neg => exact lw_one (lw_b01 (fng c h)) (by decide)
  replace h := fps c h
  clear c
  obtain ⟨y88, -, h⟩ := fbd h
  by_cases c : y88 = 0
  case neg => exact lw_one (lw_b01 (fng c h)) (by decide)
  replace h := fps c h
  clear c
  obtain ⟨y111, -, h⟩ := fbd h
  by_cases c : y111 = 0
  case neg => exact lw_one (lw_b01 (fng c h)) (by decide)
  replace h := fps c h
  clear c
  obtain ⟨y133, -, h⟩ := fbd h
  by_cases c : y133 = 0
  case neg => exact lw_one (lw_b01 (fng c h)) (by decide)
  replace h := fps c h
  clear c
  obtain ⟨y156, -, h⟩ := fbd h
  by_cases c : y156 = 0
  case neg =>
    replace h := fng c h
    obtain ⟨y164, h164, h⟩ := fbd h
    have l164 : fLow N y164.2 := lwr (s_X12_once_fr h164) (by decide)
    by_cases c : y164.1 = 0
    · obtain rfl := Option.some.inj (fps c h)
      exact l164
    · replace h := fng c h
      obtain ⟨y174, h174, h⟩ := fbd h
      have l174 := lw_trans l164 (lw_span h174 (by decide))
      by_cases c : y174.1 = 0
      · obtain rfl := Option.some.inj (fps c h)
        exact l174
      · obtain rfl := Option.some.inj (fng c h)
        exact l174
  replace h := fps c h
  clear c
  obtain ⟨y190, -, h⟩ := fbd h
  by_cases c : y190 = 0
  case neg => exact lw_piano (lw_b01 (fng c h)) hp
  replace h := fps c h
  clear c
  obtain ⟨y205, -, h⟩ := fbd h
  by_cases c : y205 = 0
  case neg => exact lw_tuner (lw_b01 (fng c h)) ht
  replace h := fps c h
  clear c
  obtain ⟨y220, -, h⟩ := fbd h
  by_cases c : y220 = 0
  case neg => exact lw_pupil (lw_b01 (fng c h)) hu
  replace h := fps c h
  clear c
  obtain ⟨y235, -, h⟩ := fbd h
  by_cases c : y235 = 0
  case neg => exact lw_teach (lw_b01 (fng c h))
  replace h := fps c h
  obtain ⟨z, hz, h⟩ := fbd h
  obtain ⟨-, h⟩ := fgd h
  obtain rfl := Option.some.inj h
  exact lwr (s_X12_bad_fr hz) (by decide)
