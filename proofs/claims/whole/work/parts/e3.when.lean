/-! ===== records: the day, and the day on which it was known ===== -/
abbrev rwK : List (Nat × Option Nat) := [(1, some 4), (1, some 5), (1, some 6), (1, some 7), (1, some 8), (21, none), (22, none)]
def RWd (K N : fM) (n : Nat) : Prop := (0 ≤ K 21 n ∧ K 21 n ≤ 363) ∧ (0 ≤ K 22 n ∧ K 22 n ≤ 363) ∧ N 125 (19 * n + 2) = K 21 n ∧ N 125 (19 * n + 3) = K 22 n
theorem r_when {K N : fM} {b : Nat → Int} {L lim p n : Nat} (hB : StB K N b L lim p) (hn : n < 200) {kd t to : Int} (hto : to = 19 * (n : Int)) (ht : t = if kd = 5 then 1 else 0) : (∃ K' N' p', s_X5_readWhen K (n : Int) t = some (.inl (), K') ∧ s_X12_when N kd (to) = some (1, N') ∧ StA K' N' b L lim p' ∧ p ≤ p' ∧ RWd K' N' n ∧ fSame rwK K K' ∧ fSame raN N N' ∧ RK n K K' ∧ (∀ j, j ≠ 19 * n + 2 → j ≠ 19 * n + 3 → N' 125 j = N 125 j)) ∨ (∃ K' N', s_X5_readWhen K (n : Int) t = some (.inr (), K') ∧ s_X12_when N kd (to) = some (0, N') ∧ Ft K' N' ∧ RK n K K' ∧ RN n N N') := by
  have hbn : (0 ≤ (n : Int) ∧ (n : Int) < 200) := by omega
  have toN : ((n : Int)).toNat = n := rfl
  have e2 : (to + 2).toNat = 19 * n + 2 := by omega
  have e3 : (to + 3).toNat = 19 * n + 3 := by omega
  have hpL : p ≤ L := hB.2.2.2.2.1
  obtain ⟨K1, c1, fk1, hA1⟩ := sim_take hB
  have hkw := c_kw hA1.1 hA1.2.2.1 hA1.2.2.2.2.1
  have hon : s_X12_isWord N 28526 = some (bit (kx b L lim p = 28)) := m_word hA1.2.2.2.1 hA1.2.2.2.2.1 28 (by decide) 28526 (by decide +kernel)
  have cpre : s_X5_readWhen K (n : Int) t = if kx b L lim p = 28 then s_X5_readWhen_j27 K1 (n : Int) t else (s_X10_fail K1 1).bind fun y24 => fel y24.1 (fun w24 => s_X5_readWhen_j27 y24.2 (n : Int) t) (some (.inr (), y24.2)) := by
    unfold s_X5_readWhen
    rw [c1, Option.bind_some]
    show (s_X10_keywordHere K1).bind _ = _
    rw [hkw, Option.bind_some]
    try rfl
  have mpre : s_X12_when N kd (to) = if kx b L lim p = 28 then (s_X12_next N).bind (fun y17 => (s_X12_takes y17.2 0 363).bind fun y25 => if ¬ y25.1 = 0 then (if fin (to + 2) ∧ (0 ≤ (to + 2) ∧ (to + 2) < 3800) ∧ fin (to + 3) then (if ¬ kd = 5 then s_X12_when_j65 (fup y25.2 125 (to + 2).toNat (y25.2 122 18)) kd (to) (to + 3) (y25.2 122 18) else s_X12_when_j65 (fup y25.2 125 (to + 2).toNat (y25.2 122 18)) kd (to) (to + 3) 0) else none) else some (0, y25.2)) else (s_X12_bad N 1).bind fun y12 => if b01 y12.1 then some (y12.1, y12.2) else none := by
    unfold s_X12_when
    rw [hon, Option.bind_some, bit_ifn]
    try rfl
  by_cases g : kx b L lim p = 28
  · rw [if_pos g] at cpre mpre
    obtain ⟨N2, m2, fn2, hB2⟩ := sim_next hA1
    have hpL2 : tNx b L lim p ≤ L := hB2.2.2.2.2.1
    have le2 := (tNx_le (b := b) (lim := lim) hpL).1
    rw [m2, Option.bind_some] at mpre
    unfold s_X5_readWhen_j27 at cpre
    rcases sim_num hB2 0 363 with ⟨K3, N3, c3, m3, hB3, g3, r3, fk3, fn3, lt3⟩ | ⟨K3, N3, c3, m3, hF⟩
    · obtain ⟨v, hvd⟩ : ∃ v, v = tV b L (tNx b L lim p) := ⟨_, rfl⟩
      rw [← hvd] at c3 g3 r3
      obtain ⟨s, hs⟩ : ∃ s : Int, s = if kd = 5 then 0 else v := ⟨_, rfl⟩
      have hs0 : 0 ≤ s ∧ s ≤ 363 := by
        rw [hs]
        split <;> omega
      obtain ⟨K4, hK4⟩ : ∃ K4, K4 = fup (fup K3 21 n v) 22 n s := ⟨_, rfl⟩
      obtain ⟨N4, hN4⟩ : ∃ N4, N4 = fup (fup N3 125 (19 * n + 2) v) 125 (19 * n + 3) s := ⟨_, rfl⟩
      have fk4 : fSame [(21, none), (22, none)] K3 K4 := by rw [hK4]; exact fs_up (fs_up fs_refl (.inl (by decide))) (.inl (by decide))
      have fn4 : fSame [(125, none)] N3 N4 := by rw [hN4]; exact fs_up (fs_up fs_refl (.inl (by decide))) (.inl (by decide))
      have cp2 : s_X5_readWhen K (n : Int) t = s_X5_readWhen_j48 K3 (n : Int) v s := by
        rw [cpre, c3, Option.bind_some, fel_l]
        by_cases g5 : kd = 5
        · rw [if_neg (show ¬ t = 0 by rw [ht, if_pos g5]; decide), hs, if_pos g5]
        · rw [if_pos (show t = 0 by rw [ht, if_neg g5]), hs, if_neg g5]
      have mp2 : s_X12_when N kd (to) = (s_X12_isWord N4 461414299502).bind fun y70 => if ¬ y70 = 0 then (s_X12_next N4).bind (fun y79 => if ¬ kd = 5 then (if fin (to + 2) ∧ (0 ≤ (to + 2) ∧ (to + 2) < 3800) then s_X12_when_j100 y79.2 (to) (y79.2 125 (to + 2).toNat) else none) else s_X12_when_j100 y79.2 (to) 0) else some (1, N4) := by
        rw [mpre]
        show ((s_X12_takes N2 0 363).bind _) = _
        rw [m3, Option.bind_some, if_pos (show ¬ (1 : Int) = 0 by decide)]
        show (if fin (to + 2) ∧ (0 ≤ (to + 2) ∧ (to + 2) < 3800) ∧ fin (to + 3) then (if ¬ kd = 5 then s_X12_when_j65 (fup N3 125 (to + 2).toNat (N3 122 18)) kd (to) (to + 3) (N3 122 18) else s_X12_when_j65 (fup N3 125 (to + 2).toNat (N3 122 18)) kd (to) (to + 3) 0) else none) = _
        rw [g3, if_pos (by unfold fin; omega), e2]
        have hj : (if ¬ kd = 5 then s_X12_when_j65 (fup N3 125 (19 * n + 2) v) kd (to) (to + 3) v else s_X12_when_j65 (fup N3 125 (19 * n + 2) v) kd (to) (to + 3) 0) = s_X12_when_j65 (fup N3 125 (19 * n + 2) v) kd (to) (to + 3) s := by
          by_cases g5 : kd = 5
          · rw [if_neg (fun e => e g5), hs, if_pos g5]
          · rw [if_pos g5, hs, if_neg g5]
        rw [hj]
        unfold s_X12_when_j65
        rw [if_pos (by omega), e3, ← hN4, e2]
        try rfl
      have hB4 : StB K4 N4 b L lim (tNx b L lim (tNx b L lim p)) := StB_m fn4 (by decide) (StB_c fk4 (by decide) hB3)
      obtain ⟨K5, c5, fk5, hA5⟩ := sim_take hB4
      have hkw5 := c_kw hA5.1 hA5.2.2.1 hA5.2.2.2.2.1
      have hkn5 := m_word hA5.2.2.2.1 hA5.2.2.2.2.1 29 (by decide) 461414299502 (by decide +kernel)
      have cp3 : s_X5_readWhen K (n : Int) t = if ¬ kx b L lim (tNx b L lim (tNx b L lim p)) = 29 then some (.inl (), K5) else (s_X10_takeNumber K5 s 363).bind fun y107 => fel y107.1 (fun w107 => if (0 ≤ (n : Int) ∧ (n : Int) < 200) then (s_X10_take (fup y107.2 22 ((n : Int)).toNat w107)).bind (fun y115 => some (.inl (), y115.2)) else none) (some (.inr (), y107.2)) := by
        rw [cp2]
        unfold s_X5_readWhen_j48
        rw [if_pos hbn, toN, ← hK4, c5, Option.bind_some]
        show (s_X10_keywordHere K5).bind _ = _
        rw [hkw5, Option.bind_some]
        try rfl
      rw [hkn5, Option.bind_some, bit_ifn] at mp2
      have k21 : K5 21 n = v := by rw [fs_row fk5 21 (by decide), hK4, fup_ne (by decide), fup_eq, upd1_at]
      have k22 : K5 22 n = s := by rw [fs_row fk5 22 (by decide), hK4, fup_eq, upd1_at]
      have n2 : N4 125 (19 * n + 2) = v := by rw [hN4, fup_eq, upd1_ne (by omega), fup_eq, upd1_at]
      have n3 : N4 125 (19 * n + 3) = s := by rw [hN4, fup_eq, upd1_at]
      have nO : ∀ j, j ≠ 19 * n + 2 → j ≠ 19 * n + 3 → N4 125 j = N 125 j := fun j h2 h3 => by rw [hN4, fup_eq, upd1_ne h3, fup_eq, upd1_ne h2, fs_row fn3 125 (by decide), fs_row fn2 125 (by decide)]
      have fK5 : fSame rwK K K5 := fs_trans (fs_mono (by decide) fk1) (fs_trans (fs_mono (by decide) fk3) (fs_trans (fs_mono (by decide) fk4) (fs_mono (by decide) fk5)))
      have fN4 : fSame raN N N4 := fs_trans (fs_mono (by decide) fn2) (fs_trans (fs_mono (by decide) fn3) (fs_mono (by decide) fn4))
      have rK4 : RK n K3 K4 := by rw [hK4]; exact RK_up (RK_up RK_refl (by decide) (by decide)) (by decide) (by decide)
      have rK5 : RK n K K5 := RK_trans (RK_fs fk1 (by decide)) (RK_trans (RK_fs fk3 (by decide)) (RK_trans rK4 (RK_fs fk5 (by decide))))
      have rN4 : RN n N N4 := fun j hj => nO j (by omega) (by omega)
      have le3 : p ≤ tNx b L lim (tNx b L lim p) := by omega
      by_cases g9 : kx b L lim (tNx b L lim (tNx b L lim p)) = 29
      · rw [if_neg (fun e => e g9)] at cp3
        rw [if_pos (show kx b L lim (tNx b L lim (tNx b L lim p)) = ((29 : Nat) : Int) from g9)] at mp2
        obtain ⟨N6, m6, fn6, hB6⟩ := sim_next hA5
        rw [m6, Option.bind_some] at mp2
        have n62 : N6 125 (19 * n + 2) = v := by rw [fs_row fn6 125 (by decide), n2]
        have mp3 : s_X12_when N kd (to) = s_X12_when_j100 N6 (to) s := by
          rw [mp2]
          show (if ¬ kd = 5 then (if fin (to + 2) ∧ (0 ≤ (to + 2) ∧ (to + 2) < 3800) then s_X12_when_j100 N6 (to) (N6 125 (to + 2).toNat) else none) else s_X12_when_j100 N6 (to) 0) = _
          rw [e2, n62]
          by_cases g5 : kd = 5
          · rw [if_neg (fun e => e g5), hs, if_pos g5]
          · rw [if_pos g5, hs, if_neg g5, if_pos (by unfold fin; omega)]
        unfold s_X12_when_j100 at mp3
        rcases sim_num hB6 s 363 with ⟨K7, N7, c7, m7, hB7, g7, r7, fk7, fn7, lt7⟩ | ⟨K7, N7, c7, m7, hF⟩
        · left
          obtain ⟨u, hud⟩ : ∃ u, u = tV b L (tNx b L lim (tNx b L lim (tNx b L lim p))) := ⟨_, rfl⟩
          rw [← hud] at c7 g7 r7
          have fk8 : fSame [(22, none)] K7 (fup K7 22 n u) := fs_up fs_refl (.inl (by decide))
          have fn8 : fSame [(125, none)] N7 (fup N7 125 (19 * n + 3) u) := fs_up fs_refl (.inl (by decide))
          obtain ⟨K9, c9, fk9, hA9⟩ := sim_take (StB_m fn8 (by decide) (StB_c fk8 (by decide) hB7))
          have hpL5 : tNx b L lim (tNx b L lim p) ≤ L := hA5.2.2.2.2.1
          have le6 := (tNx_le (b := b) (lim := lim) hpL5).1
          refine ⟨K9, fup N7 125 (19 * n + 3) u, _, ?_, ?_, hA9, by omega, ⟨?_, ?_, ?_, ?_⟩, fs_trans fK5 (fs_trans (fs_mono (by decide) fk7) (fs_trans (fs_mono (by decide) fk8) (fs_mono (by decide) fk9))), fs_trans fN4 (fs_trans (fs_mono (by decide) fn6) (fs_trans (fs_mono (by decide) fn7) (fs_mono (by decide) fn8))), RK_trans rK5 (RK_trans (RK_up (RK_fs fk7 (by decide)) (by decide) (by decide)) (RK_fs fk9 (by decide))), fun j h2 h3 => by rw [fup_eq, upd1_ne h3, fs_row fn7 125 (by decide), fs_row fn6 125 (by decide), nO j h2 h3]⟩
          · rw [cp3, c7, Option.bind_some, fel_l, if_pos hbn, toN]
            show (s_X10_take (fup K7 22 n u)).bind _ = _
            rw [c9]
            rfl
          · rw [mp3, m7, Option.bind_some, if_pos (show ¬ (1 : Int) = 0 by decide), if_pos (by unfold fin; omega), e3]
            show some ((1 : Int), fup N7 125 (19 * n + 3) (N7 122 18)) = _
            rw [g7]
          · rw [fs_row fk9 21 (by decide), fup_ne (by decide), fs_row fk7 21 (by decide), k21]
            exact r3
          · rw [fs_row fk9 22 (by decide), fup_eq, upd1_at]
            omega
          · rw [fup_eq, upd1_ne (by omega), fs_row fn7 125 (by decide), n62, fs_row fk9 21 (by decide), fup_ne (by decide), fs_row fk7 21 (by decide), k21]
          · rw [fup_eq, upd1_at, fs_row fk9 22 (by decide), fup_eq, upd1_at]
        · right
          refine ⟨K7, N7, ?_, ?_, hF, RK_trans rK5 (RK_fs (s_X10_takeNumber_fr c7) (by decide)), RN_trans rN4 (RN_trans (RN_fs fn6 (by decide)) (RN_fs (s_X12_takes_fr m7) (by decide)))⟩
          · rw [cp3, c7]
            rfl
          · rw [mp3, m7]
            rfl
      · left
        rw [if_pos g9] at cp3
        rw [if_neg (show ¬ kx b L lim (tNx b L lim (tNx b L lim p)) = ((29 : Nat) : Int) from g9)] at mp2
        exact ⟨K5, N4, _, cp3, mp2, hA5, le3, ⟨by rw [k21]; exact r3, by rw [k22]; exact hs0, by rw [n2, k21], by rw [n3, k22]⟩, fK5, fN4, rK5, nO⟩
    · right
      refine ⟨K3, N3, ?_, ?_, hF, RK_trans (RK_fs fk1 (by decide)) (RK_fs (s_X10_takeNumber_fr c3) (by decide)), RN_trans (RN_fs fn2 (by decide)) (RN_fs (s_X12_takes_fr m3) (by decide))⟩
      · rw [cpre, c3]
        rfl
      · rw [mpre]
        show ((s_X12_takes N2 0 363).bind _) = _
        rw [m3]
        rfl
  · right
    rw [if_neg g] at cpre mpre
    obtain ⟨Kf, Nf, q1, q2, q3⟩ := sim_fail hA1 1 (by decide)
    refine ⟨Kf, Nf, ?_, ?_, q3, RK_trans (RK_fs fk1 (by decide)) (RK_fs (s_X10_fail_fr q1) (by decide)), RN_fs (s_X12_bad_fr q2) (by decide)⟩
    · rw [cpre, q1]
      rfl
    · rw [mpre, q2]
      rfl
