/-! ===== all lines of a house, and what a fault leaves alone ===== -/
theorem HD_cnt {D N : fM} (h : HD D N) : 0 ≤ N 124 762 ∧ 0 ≤ N 124 817 ∧ 0 ≤ N 124 818 ∧ 0 ≤ N 124 819 := by
  obtain ⟨w, -, -, -, -, -, -, -, -, m, -, -⟩ := h
  unfold WFm at w
  have a : N 124 762 = D 4 16 := m.2.2.2.2.1 762 (by decide)
  have b : N 124 817 = D 4 13 := m.2.2.2.2.2.2.2.1 817 0 (by decide) (by decide) (by decide)
  have c : N 124 818 = D 4 14 := m.2.2.2.2.2.2.2.1 818 1 (by decide) (by decide) (by decide)
  have d : N 124 819 = D 4 15 := m.2.2.2.2.2.2.2.1 819 2 (by decide) (by decide) (by decide)
  rw [a, b, c, d]
  omega
theorem lines_low {b : Nat → Int} {L lim : Nat} : ∀ (d : Nat) (K N : fM) (p i : Nat), L - p < d → StB K N b L lim p → HD (dr K) N → Tb K N → K 28 17 = (i : Int) → N 122 20 = (i : Int) → 2 * i ≤ p → (∃ K' N' i', s_X3_readAll_l24 ((i : Int), K) = some (.inr (.inl (), K')) ∧ s_X12_readHouse_l0 N = some (.inl N') ∧ HD (dr K') N' ∧ K' 28 17 = ((i' : Nat) : Int) ∧ N' 122 20 = (i' : Int) ∧ i' ≤ 620 ∧ K' 1 9 = 0 ∧ N' 122 15 = 0) ∨ (∃ K' N', s_X3_readAll_l24 ((i : Int), K) = some (.inr (.inr (), K')) ∧ s_X12_readHouse_l0 N = some (.inr (0, N')) ∧ Ft K' N' ∧ fLow N N') := by
  intro d
  induction d with
  | zero =>
    intro K N p i hd
    exact absurd hd (Nat.not_lt_zero _)
  | succ d ih =>
    intro K N p i hd hB hH hT hKi hNi hi
    have hpL : p ≤ L := hB.2.2.2.2.1
    have hL : L ≤ 1240 := hB.1.2.2.1
    obtain ⟨K1, c1, fk1, hA1⟩ := sim_take hB
    have hH1 : HD (dr K1) N := HD_fs fk1 (by decide) (fs_refl (l := [])) (by decide) hH
    have hT1 : Tb K1 N := Tb_fs fk1 (by decide) (fs_refl (l := [])) (by decide) hT
    have hkw := c_kw hA1.1 hA1.2.2.1 hA1.2.2.2.2.1
    have k16 : K1 1 6 = tKd b L lim p := hA1.2.2.1.2.2.1
    have n0 := (kd_ne hA1.2.2.2.1).2.2.1
    have cb : s_X3_readAll_b24 K (i : Int) = if ¬ tKd b L lim p = 0 then (cLine K1 (kx b L lim p)).bind (fun y => fel y.1 (fun _ => s_X3_readAll_j76 y.2 (i : Int)) (some (.inr (.inr (.inr (), y.2))))) else some (.inr (.inr (.inl (), K1))) := by
      unfold s_X3_readAll_b24
      rw [if_neg (by omega), c1, Option.bind_some]
      show (if ¬ (K1 1 6) = 0 then (s_X10_keywordHere K1).bind _ else some (Sum.inr (Sum.inr (Sum.inl (), K1)))) = _
      rw [k16, hkw, Option.bind_some]
      unfold cLine
      by_cases g : 8 < kx b L lim p
      · rw [if_pos g, if_pos g]
        by_cases h0 : tKd b L lim p = 0
        · rw [if_neg (show ¬ ¬ ((tKd b L lim p : Nat) : Int) = 0 by omega), if_neg (show ¬ ¬ tKd b L lim p = 0 by omega)]
        · rw [if_pos (show ¬ ((tKd b L lim p : Nat) : Int) = 0 by omega), if_pos (show ¬ tKd b L lim p = 0 by omega)]
      · rw [if_neg g, if_neg g]
        by_cases h0 : tKd b L lim p = 0
        · rw [if_neg (show ¬ ¬ ((tKd b L lim p : Nat) : Int) = 0 by omega), if_neg (show ¬ ¬ tKd b L lim p = 0 by omega)]
        · rw [if_pos (show ¬ ((tKd b L lim p : Nat) : Int) = 0 by omega), if_pos (show ¬ tKd b L lim p = 0 by omega)]
    have mb : s_X12_readHouse_b0 N = if tKd b L lim p = 0 then some (.inr (.inl N)) else (s_X12_line N).bind (fun y8 => if ¬ y8.1 = 0 then (s_X12_sign y8.2 59).bind (fun y19 => if ¬ y19.1 = 0 then (if fin ((y19.2 122 20) + 1) then some (.inl (fup y19.2 122 20 ((y19.2 122 20) + 1))) else none) else some (.inr (.inr (0, y19.2)))) else some (.inr (.inr (0, y8.2)))) := by
      unfold s_X12_readHouse_b0
      by_cases g : tKd b L lim p = 0
      · rw [if_pos g, if_pos (n0.2 g)]
      · rw [if_neg g, if_neg (fun e => g (n0.1 e))]
    have stop : ∀ (K2 N2 : fM), s_X3_readAll_b24 K (i : Int) = some (.inr (.inr (.inr (), K2))) → s_X12_readHouse_b0 N = some (.inr (.inr (0, N2))) → Ft K2 N2 → fLow N N2 → (∃ K' N' i', s_X3_readAll_l24 ((i : Int), K) = some (.inr (.inl (), K')) ∧ s_X12_readHouse_l0 N = some (.inl N') ∧ HD (dr K') N' ∧ K' 28 17 = ((i' : Nat) : Int) ∧ N' 122 20 = (i' : Int) ∧ i' ≤ 620 ∧ K' 1 9 = 0 ∧ N' 122 15 = 0) ∨ (∃ K' N', s_X3_readAll_l24 ((i : Int), K) = some (.inr (.inr (), K')) ∧ s_X12_readHouse_l0 N = some (.inr (0, N')) ∧ Ft K' N' ∧ fLow N N') := by
      intro K2 N2 hc hm hF hlo
      refine .inr ⟨K2, N2, ?_, ?_, hF, hlo⟩
      · unfold s_X3_readAll_l24
        rw [fLp_eq]
        show (s_X3_readAll_b24 K (i : Int)).bind _ = _
        rw [hc]
        rfl
      · unfold s_X12_readHouse_l0
        rw [fLp_eq]
        show (s_X12_readHouse_b0 N).bind _ = _
        rw [hm]
        rfl
    by_cases g : tKd b L lim p = 0
    · rw [if_neg (fun e => e g)] at cb
      rw [if_pos g] at mb
      left
      refine ⟨K1, N, i, ?_, ?_, hH1, by rw [fs_at fk1 28 17 (by decide), hKi], hNi, by omega, hA1.2.2.2.2.2.1, hA1.2.2.2.2.2.2⟩
      · unfold s_X3_readAll_l24
        rw [fLp_eq]
        show (s_X3_readAll_b24 K (i : Int)).bind _ = _
        rw [cb]
        rfl
      · unfold s_X12_readHouse_l0
        rw [fLp_eq]
        show (s_X12_readHouse_b0 N).bind _ = _
        rw [mb]
        rfl
    · rw [if_pos g] at cb
      rw [if_neg g] at mb
      have hcn := HD_cnt hH1
      rcases ln_line hA1 hH1 hT1 with ⟨K2, N2, p2, c2, m2, hA2, le2, hH2, hT2, e17, e20⟩ | ⟨K2, N2, c2, m2, hF⟩
      · have hlo2 : fLow N N2 := lw_line m2 hcn.1 hcn.2.1 hcn.2.2.1 hcn.2.2.2
        rw [c2, Option.bind_some, fel_l] at cb
        rw [m2, Option.bind_some, if_pos (show ¬ (1 : Int) = 0 by decide)] at mb
        have k26 : K2 1 6 = tKd b L lim p2 := hA2.2.2.1.2.2.1
        have e17' : K2 28 17 = (i : Int) := by rw [e17, fs_at fk1 28 17 (by decide), hKi]
        have hpL2 : p2 ≤ L := hA2.2.2.2.2.1
        have cb2 : s_X3_readAll_b24 K (i : Int) = if tKd b L lim p2 = 4 then s_X3_readAll_j95 K2 (i : Int) else (s_X10_fail K2 1).bind fun y92 => fel y92.1 (fun w92 => s_X3_readAll_j95 y92.2 (i : Int)) (some (.inr (.inr (.inr (), y92.2)))) := by
          rw [cb]
          show s_X3_readAll_j76 K2 (i : Int) = _
          unfold s_X3_readAll_j76
          rw [k26]
          by_cases h0 : tKd b L lim p2 = 4
          · rw [if_pos (show ((tKd b L lim p2 : Nat) : Int) = 4 by omega), if_pos h0]
          · rw [if_neg (show ¬ ((tKd b L lim p2 : Nat) : Int) = 4 by omega), if_neg h0]
        have mb2 : s_X12_readHouse_b0 N = (s_X12_sign N2 59).bind (fun y19 => if ¬ y19.1 = 0 then (if fin ((y19.2 122 20) + 1) then some (.inl (fup y19.2 122 20 ((y19.2 122 20) + 1))) else none) else some (.inr (.inr (0, y19.2)))) := mb
        rw [m_sign hA2.2.2.2.1] at mb2
        by_cases g4 : tKd b L lim p2 = 4
        · rw [if_pos g4] at cb2 mb2
          obtain ⟨N3, m3, fn3, hB3⟩ := sim_next hA2
          have n320 : N3 122 20 = (i : Int) := by rw [fs_at fn3 122 20 (by decide), e20, hNi]
          have cb3 : s_X3_readAll_b24 K (i : Int) = some (.inl ((i : Int) + 1, fup K2 28 17 ((i : Int) + 1))) := by
            rw [cb2]
            unfold s_X3_readAll_j95
            rw [e17', if_pos (by unfold fin; omega)]
          have mb3 : s_X12_readHouse_b0 N = some (.inl (fup N3 122 20 ((i : Int) + 1))) := by
            rw [mb2, m3, Option.bind_some, Option.bind_some, if_pos (show ¬ (1 : Int) = 0 by decide)]
            obtain ⟨z, hz⟩ : ∃ z : Int, z = (i : Int) := ⟨_, rfl⟩
            rw [← hz] at n320 ⊢
            show (if fin ((N3 122 20) + 1) then some (Sum.inl (fup N3 122 20 ((N3 122 20) + 1))) else none) = _
            rw [n320, if_pos (by unfold fin; omega)]
          have hx1 : s_X3_readAll_l24 ((i : Int), K) = s_X3_readAll_l24 (((i + 1 : Nat) : Int), fup K2 28 17 ((i : Int) + 1)) := by
            unfold s_X3_readAll_l24
            exact fLp_stp (b := fun s : Int × fM => s_X3_readAll_b24 s.2 s.1) cb3
          have hx2 : s_X12_readHouse_l0 N = s_X12_readHouse_l0 (fup N3 122 20 ((i : Int) + 1)) := by
            unfold s_X12_readHouse_l0
            exact fLp_stp (b := fun s : fM => s_X12_readHouse_b0 s) mb3
          rw [hx1, hx2]
          have fK : fSame [(28, some 17)] K2 (fup K2 28 17 ((i : Int) + 1)) := fs_up fs_refl (.inr (by decide))
          have fN : fSame [(122, some 20)] N3 (fup N3 122 20 ((i : Int) + 1)) := fs_up fs_refl (.inr (by decide))
          have le3 : p2 ≤ tNx b L lim p2 := (tNx_le hpL2).1
          have hpL3 : tNx b L lim p2 ≤ L := hB3.2.2.2.2.1
          have hlo3 : fLow N (fup N3 122 20 ((i : Int) + 1)) := lw_trans hlo2 (lw_trans (lwr fn3 (by decide)) (lwr fN (by decide)))
          rcases ih _ _ (tNx b L lim p2) (i + 1) (by omega) (StB_m fN (by decide) (StB_c fK (by decide) hB3)) (HD_fs fK (by decide) fN (by decide) (HD_fs (fs_refl (l := [])) (by decide) fn3 (by decide) hH2)) (Tb_fs fK (by decide) fN (by decide) (Tb_fs (fs_refl (l := [])) (by decide) fn3 (by decide) hT2)) (by rw [fup_eq, upd1_at]; omega) (by rw [fup_eq, upd1_at]; omega) (by omega) with q | ⟨K', N', q1, q2, q3, q4⟩
          · exact .inl q
          · exact .inr ⟨K', N', q1, q2, q3, lw_trans hlo3 q4⟩
        · rw [if_neg g4] at cb2 mb2
          obtain ⟨Kf, Nf, q1, q2, q3⟩ := sim_fail hA2 1 (by decide)
          rw [q1, Option.bind_some, fel_r] at cb2
          rw [q2, Option.bind_some, if_pos (show b01 (0, Nf).1 from .inl rfl), Option.bind_some, if_neg (show ¬ ¬ (0 : Int) = 0 by decide)] at mb2
          exact stop Kf Nf cb2 mb2 q3 (lw_trans hlo2 (lwr (s_X12_bad_fr q2) (by decide)))
      · rw [c2, Option.bind_some, fel_r] at cb
        rw [m2, Option.bind_some, if_neg (show ¬ ¬ (0 : Int) = 0 by decide)] at mb
        exact stop K2 N2 cb mb hF (lw_line m2 hcn.1 hcn.2.1 hcn.2.2.1 hcn.2.2.2)
