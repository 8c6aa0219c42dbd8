/-! ===== records: a line ===== -/
theorem l19x_eq (to : Int) (N : fM) : s_X12_notes_l19x to N = s_X12_notes_l19 to N := rfl
noncomputable def cTail (K : fM) (row kd : Int) : Option ((Unit ⊕ Unit) × fM) := if ¬ kd = 1 then s_X5_readLine_j168 K row kd else (s_X5_readNote K row).bind fun y165 => fel y165.1 (fun w165 => s_X5_readLine_j168 y165.2 row kd) (some (.inr (), y165.2))
noncomputable def rTail (N : fM) (kd to : Int) : Option (Int × fM) := if 1 < kd then some (1, N) else (s_X12_notes N kd to).bind fun y221 => if y221.1 = 0 then some (0, y221.2) else some (1, y221.2)
theorem j168_1 (K : fM) (row : Int) : s_X5_readLine_j168 K row 1 = s_X5_readLine_j182 K row 1 := by
  unfold s_X5_readLine_j168 s_X5_readLine_j177
  rw [if_neg (show ¬ (1 : Int) = 0 by decide), if_neg (show ¬ ¬ (1 : Int) = 1 by decide)]
theorem j182_0 (K : fM) (row : Int) : s_X5_readLine_j182 K row 0 = some (.inl (), K) := by
  unfold s_X5_readLine_j182 s_X5_readLine_l187
  rw [fLp_eq]
  show ((s_X5_readLine_b187 K row 0 0).bind _).bind _ = _
  unfold s_X5_readLine_b187
  rw [if_neg (show ¬ (12 : Int) < 0 by decide), if_pos (show (0 : Int) = 0 from rfl)]
  rfl
theorem j182_1 {K : fM} {row : Int} {e : fM ⊕ ((Unit ⊕ Unit) × fM)} (h : s_X5_readLine_l187 row 1 (((0 : Nat) : Int), K) = some e) : s_X5_readLine_j182 K row 1 = Sum.elim (fun x => some (.inl (), x)) (fun v => some v) e := by
  have h' : s_X5_readLine_l187 row 1 (0, K) = some e := h
  unfold s_X5_readLine_j182
  rw [h', Option.bind_some]
theorem nts_0 {N : fM} {to : Int} {e : fM ⊕ (Int × fM)} (h : s_X12_notes_l19 to N = some e) : s_X12_notes N 0 to = Sum.elim (fun x => some (1, x)) (fun v => some v) e := by
  unfold s_X12_notes
  rw [if_pos (show ¬ (0 : Int) = 1 by decide), h, Option.bind_some]
theorem r_tail {K N : fM} {b : Nat → Int} {L lim p n : Nat} (hA : StA K N b L lim p) (hn : n < 200) {kd row to : Int} (hrow : row = (n : Int)) (hto : to = 19 * (n : Int)) (hk : 0 ≤ kd ∧ kd ≤ 6) (hT : RT K N n 0) : (∃ K' N' p' a', cTail K row kd = some (.inl (), K') ∧ rTail N kd to = some (1, N') ∧ StA K' N' b L lim p' ∧ p ≤ p' ∧ a' < 4096 ∧ RT K' N' n a' ∧ fSame rtK K K' ∧ fSame raN N N' ∧ RK n K K' ∧ (∀ j, j < 19 * n + 6 ∨ 19 * n + 19 ≤ j → N' 125 j = N 125 j)) ∨ (∃ K' N', cTail K row kd = some (.inr (), K') ∧ rTail N kd to = some (0, N') ∧ Ft K' N' ∧ RK n K K' ∧ RN n N N') := by
  have hkc : kd = 0 ∨ kd = 1 ∨ 1 < kd := by omega
  rcases hkc with h | h | h
  · subst h
    have ce : cTail K row 0 = s_X5_readLine_j182 K row 1 := by
      unfold cTail s_X5_readLine_j168 s_X5_readLine_j177
      rw [if_pos (show ¬ (0 : Int) = 1 by decide), if_pos (show (0 : Int) = 0 from rfl)]
    have me : rTail N 0 to = (s_X12_notes N 0 to).bind fun y221 => if y221.1 = 0 then some (0, y221.2) else some (1, y221.2) := by
      unfold rTail
      rw [if_neg (show ¬ (1 : Int) < 0 by decide)]
    rcases r_notes hn hrow hto (L + 1) K N p 0 0 (by omega) hA (by decide) hT (Nat.zero_le _) with ⟨K', N', p', a', q1, q2, q3, q4, q5, q6, q7, q8, q9, q10⟩ | ⟨K', N', q1, q2, q3, q4, q5⟩
    · left
      refine ⟨K', N', p', a', ?_, ?_, q3, q4, q5, q6, q7, q8, q9, q10⟩
      · rw [ce, j182_1 q1]
        rfl
      · rw [me, nts_0 q2]
        rfl
    · right
      refine ⟨K', N', ?_, ?_, q3, q4, q5⟩
      · rw [ce, j182_1 q1]
        rfl
      · rw [me, nts_0 q2]
        rfl
  · subst h
    have ce : cTail K row 1 = (s_X5_readNote K row).bind fun y165 => fel y165.1 (fun w165 => s_X5_readLine_j182 y165.2 row 1) (some (.inr (), y165.2)) := by
      unfold cTail
      rw [if_neg (show ¬ ¬ (1 : Int) = 1 by decide)]
      simp only [j168_1]
    have me : rTail N 1 to = (s_X12_notes N 1 to).bind fun y221 => if y221.1 = 0 then some (0, y221.2) else some (1, y221.2) := by
      unfold rTail
      rw [if_neg (show ¬ (1 : Int) < 1 by decide)]
    by_cases g : tKd b L lim p = 3
    · have n11 : N 122 11 = 2 := (hA.2.2.2.1.2.2.2.2.2.1 g).1
      have me2 : ∀ e, s_X12_notes_l19 to N = some e → s_X12_notes N 1 to = Sum.elim (fun x => some (1, x)) (fun v => some v) e := fun e he => by
        unfold s_X12_notes
        rw [if_neg (show ¬ ¬ (1 : Int) = 1 by decide), if_pos n11, l19x_eq, he, Option.bind_some]
      rcases r_note hA g hn hrow hto (show 0 < 4096 by decide) hT with ⟨t, K1, N1, p1, t12, tb, c1, m1, hA1, lt1, hT1, fk1, fn1, rk1, nj1⟩ | ⟨K1, N1, c1, m1, hF, rk1, rn1⟩
      · have hx2 : s_X12_notes_l19 to N = s_X12_notes_l19 to N1 := by
          unfold s_X12_notes_l19
          exact fLp_stp (b := fun s : fM => s_X12_notes_b19 s to) m1
        have ce2 : cTail K row 1 = s_X5_readLine_j182 K1 row 1 := by
          rw [ce, c1, Option.bind_some, fel_l]
          try rfl
        rcases r_notes hn hrow hto (L + 1) K1 N1 p1 0 (0 ||| 2 ^ t) (by omega) hA1 (or12 (by decide) t12) hT1 (Nat.zero_le _) with ⟨K', N', p', a', q1, q2, q3, q4, q5, q6, q7, q8, q9, q10⟩ | ⟨K', N', q1, q2, q3, q4, q5⟩
        · left
          refine ⟨K', N', p', a', ?_, ?_, q3, by omega, q5, q6, fs_trans fk1 q7, fs_trans fn1 q8, RK_trans rk1 q9, fun j hj => by rw [q10 j hj, nj1 j hj]⟩
          · rw [ce2, j182_1 q1]
            rfl
          · rw [me, me2 _ (hx2.trans q2)]
            rfl
        · right
          refine ⟨K', N', ?_, ?_, q3, RK_trans rk1 q4, RN_trans (fun j hj => nj1 j (by omega)) q5⟩
          · rw [ce2, j182_1 q1]
            rfl
          · rw [me, me2 _ (hx2.trans q2)]
            rfl
      · right
        refine ⟨K1, N1, ?_, ?_, hF, rk1, rn1⟩
        · rw [ce, c1]
          rfl
        · have hl : s_X12_notes_l19 to N = some (.inr (0, N1)) := by
            unfold s_X12_notes_l19
            rw [fLp_eq]
            show (s_X12_notes_b19 N to).bind _ = _
            rw [m1]
            rfl
          rw [me, me2 _ hl]
          rfl
    · right
      have n11 : ¬ N 122 11 = 2 := fun e => g ((kd_ne hA.2.2.2.1).2.1.1 e)
      obtain ⟨Kf, Nf, q1, q2, q3⟩ := sim_fail hA 1 (by decide)
      refine ⟨Kf, Nf, ?_, ?_, q3, RK_fs (s_X10_fail_fr q1) (by decide), RN_fs (s_X12_bad_fr q2) (by decide)⟩
      · rw [ce, rn_fail (nh_not hA g q1)]
        rfl
      · rw [me]
        unfold s_X12_notes
        rw [if_neg (show ¬ ¬ (1 : Int) = 1 by decide), if_neg n11, q2]
        rfl
  · left
    refine ⟨K, N, p, 0, ?_, ?_, hA, Nat.le_refl p, by decide, hT, fs_refl, fs_refl, RK_refl, fun j _ => rfl⟩
    · unfold cTail s_X5_readLine_j168
      rw [if_pos (show ¬ kd = 1 by omega), if_neg (show ¬ kd = 0 by omega), if_pos (show ¬ kd = 1 by omega), j182_0]
    · unfold rTail
      rw [if_pos h]
/-- what a record has in class and reference -/
def RowR (K N : fM) (n : Nat) : Prop := ∃ kd x : Int, ∃ a : Nat, (0 ≤ kd ∧ kd ≤ 6) ∧ K 19 n = kd ∧ N 125 (19 * n) = kd ∧ (0 ≤ x ∧ x < K 4 13) ∧ K 20 n = x ∧ N 125 (19 * n + 1) = x ∧ (kd = 5 → K 10 (x * 10 + 0).toNat = 2) ∧ RA K N n kd ∧ RWd K N n ∧ a < 4096 ∧ RT K N n a
abbrev rlK : List (Nat × Option Nat) := [(1, some 4), (1, some 5), (1, some 6), (1, some 7), (1, some 8), (19, none), (20, none), (21, none), (22, none), (23, none), (24, none), (25, none), (26, none)]
theorem r_line {K N : fM} {b : Nat → Int} {L lim p n : Nat} (hA : StA K N b L lim p) (hH : HR K N) (hn : n < 200) {kd row to : Int} (hrow : row = (n : Int)) (hto : to = 19 * (n : Int)) (hk : 0 ≤ kd ∧ kd ≤ 6) : (∃ K' N' p', s_X5_readLine K row kd = some (.inl (), K') ∧ s_X12_record N kd to = some (1, N') ∧ StA K' N' b L lim p' ∧ p < p' ∧ RowR K' N' n ∧ fSame rlK K K' ∧ fSame raN N N' ∧ RK n K K' ∧ RN n N N') ∨ (∃ K' N', s_X5_readLine K row kd = some (.inr (), K') ∧ s_X12_record N kd to = some (0, N') ∧ Ft K' N' ∧ RK n K K' ∧ RN n N N') := by
  subst hrow
  subst hto
  have hpL : p ≤ L := hA.2.2.2.2.1
  obtain ⟨t, ht⟩ : ∃ t : Int, t = if kd = 5 then 1 else 0 := ⟨_, rfl⟩
  have c0 : s_X5_readLine K (n : Int) kd = (s_X5_takePiano K t).bind fun y11 => fel y11.1 (fun w11 => (s_X6_begin_18 y11.2 (n : Int) kd w11).bind fun y22 => cFst y22.2 (n : Int) kd) (some (.inr (), y11.2)) := by
    unfold s_X5_readLine
    by_cases g5 : kd = 5
    · rw [if_neg (fun e => e g5), ht, if_pos g5]
      rfl
    · rw [if_pos g5, ht, if_neg g5]
      rfl
  -- the reference: its row bare, its kind
  obtain ⟨N1, m1, fn1, rn1, z1⟩ := m_clearR N hn kd
  obtain ⟨N2, hN2⟩ : ∃ N2, N2 = fup N1 125 (19 * n) kd := ⟨_, rfl⟩
  have fn2 : fSame [(125, none)] N1 N2 := by rw [hN2]; exact fs_up fs_refl (.inl (by decide))
  have rn2 : RN n N N2 := by rw [hN2]; exact RN_up rn1 (by omega) (by omega)
  have hA2 : StA K N2 b L lim p := StA_m fn2 (by decide) (StA_m fn1 (by decide) hA)
  obtain ⟨N3, m3, fn3, hB3⟩ := sim_next hA2
  have mm0 : s_X12_record N kd (19 * (n : Int)) = rPiano N3 kd (19 * (n : Int)) := by
    unfold s_X12_record
    rw [m1, Option.bind_some, if_pos (by omega), show (19 * (n : Int)).toNat = 19 * n by omega, ← hN2, m3, Option.bind_some]
    rfl
  have hH3 : HR K N3 := HR_fs (fs_refl (l := [])) (by decide) fn3 (by decide) (HR_fs (fs_refl (l := [])) (by decide) fn2 (by decide) (HR_fs (fs_refl (l := [])) (by decide) fn1 (by decide) hH))
  have le3 := (tNx_le (b := b) (lim := lim) hpL).1
  have rn3 : RN n N N3 := RN_trans rn2 (RN_fs fn3 (by decide))
  rcases r_piano (n := n) (to := 19 * (n : Int)) hB3 hH3 ht with ⟨x, K4, c4, m4, hA4, x0, x1, xh, fk4, lt4⟩ | ⟨K4, N4, c4, m4, hF, rn4⟩
  · -- the piano
    obtain ⟨K5, c5, fk5, rk5, k19, k20, k25, k26⟩ := c_beginR K4 hn kd x
    obtain ⟨N5, hN5⟩ : ∃ N5, N5 = fup N3 125 (19 * n + 1) x := ⟨_, rfl⟩
    have fn5 : fSame [(125, none)] N3 N5 := by rw [hN5]; exact fs_up fs_refl (.inl (by decide))
    have rn5 : RN n N N5 := by rw [hN5]; exact RN_up rn3 (by omega) (by omega)
    have hA5 : StA K5 N5 b L lim (tNx b L lim p) := StA_m fn5 (by decide) (StA_c fk5 (by decide) hA4)
    obtain ⟨N6, m6, fn6, hB6⟩ := sim_next hA5
    have cc1 : s_X5_readLine K (n : Int) kd = cFst K5 (n : Int) kd := by
      rw [c0, c4, Option.bind_some, fel_l]
      show (s_X6_begin_18 K4 (n : Int) kd x).bind _ = _
      rw [c5, Option.bind_some]
      try rfl
    have mm1 : s_X12_record N kd (19 * (n : Int)) = rFst N6 kd (19 * (n : Int)) := by
      rw [mm0, m4]
      unfold s_X12_record_j86
      rw [if_pos (by unfold fin; omega), show (19 * (n : Int) + 1).toNat = 19 * n + 1 by omega, ← hN5, m6, Option.bind_some]
      rfl
    have fK5 : fSame rlK K K5 := fs_trans (fs_mono (by decide) fk4) (fs_mono (by decide) fk5)
    have fN6 : fSame raN N N6 := fs_trans (fs_mono (by decide) fn1) (fs_trans (fs_mono (by decide) fn2) (fs_trans (fs_mono (by decide) fn3) (fs_trans (fs_mono (by decide) fn5) (fs_mono (by decide) fn6))))
    have rK5 : RK n K K5 := RK_trans (RK_fs fk4 (by decide)) rk5
    have rN6 : RN n N N6 := RN_trans rn5 (RN_fs fn6 (by decide))
    have hH6 : HR K5 N6 := HR_fs fK5 (by decide) fN6 (by decide) hH
    have e6 : ∀ j, j ≠ 19 * n + 1 → N6 125 j = N2 125 j := fun j hj => by rw [fs_row fn6 125 (by decide), hN5, fup_eq, upd1_ne hj, fs_row fn3 125 (by decide)]
    have n0 : N6 125 (19 * n) = kd := by rw [e6 _ (by omega), hN2, fup_eq, upd1_at]
    have n1 : N6 125 (19 * n + 1) = x := by rw [fs_row fn6 125 (by decide), hN5, fup_eq, upd1_at]
    have nz : ∀ j, 2 ≤ j → j < 19 → N6 125 (19 * n + j) = 0 := fun j j0 j1 => by rw [e6 _ (by omega), hN2, fup_eq, upd1_ne (by omega), z1 j j1]
    rcases r_fst hB6 hH6 hn hk with ⟨K7, N7, p7, c7, m7, hB7, le7, hRA, fk7, fn7, rk7, nj7⟩ | ⟨K7, N7, c7, m7, hF, rk7, rn7⟩
    · -- when
      obtain ⟨t', ht'⟩ : ∃ t' : Int, t' = if kd = 5 then 1 else 0 := ⟨_, rfl⟩
      have cc2 : s_X5_readLine K (n : Int) kd = (s_X5_readWhen K7 (n : Int) t').bind fun y155 => fel y155.1 (fun w155 => cTail y155.2 (n : Int) kd) (some (.inr (), y155.2)) := by
        rw [cc1, c7]
        unfold s_X5_readLine_j143
        by_cases g5 : kd = 5
        · rw [if_neg (fun e => e g5), ht', if_pos g5]
          rfl
        · rw [if_pos g5, ht', if_neg g5]
          rfl
      have mm2 : s_X12_record N kd (19 * (n : Int)) = (s_X12_when N7 kd (19 * (n : Int))).bind fun y207 => if y207.1 = 0 then some (0, y207.2) else rTail y207.2 kd (19 * (n : Int)) := by
        rw [mm1, m7]
        rfl
      rcases r_when hB7 hn (to := 19 * (n : Int)) rfl ht' with ⟨K8, N8, p8, c8, m8, hA8, le8, hRW, fk8, fn8, rk8, nj8⟩ | ⟨K8, N8, c8, m8, hF, rk8, rn8⟩
      · have cc3 : s_X5_readLine K (n : Int) kd = cTail K8 (n : Int) kd := by
          rw [cc2, c8, Option.bind_some, fel_l]
          try rfl
        have mm3 : s_X12_record N kd (19 * (n : Int)) = rTail N8 kd (19 * (n : Int)) := by
          rw [mm2, m8, Option.bind_some, if_neg (show ¬ (1 : Int) = 0 by decide)]
          try rfl
        have hT8 : RT K8 N8 n 0 := by
          refine ⟨?_, ?_, fun j hj => ?_⟩
          · rw [fs_row fk8 25 (by decide), fs_row fk7 25 (by decide), k25]
            rfl
          · rw [nj8 _ (by omega) (by omega), nj7 _ (by omega) (by omega), nz 6 (by decide) (by decide)]
            rfl
          · rw [nj8 _ (by omega) (by omega), nj7 _ (by omega) (by omega), show 19 * n + 7 + j = 19 * n + (7 + j) by omega, nz (7 + j) (by omega) (by omega), fs_row fk8 26 (by decide), fs_row fk7 26 (by decide), k26 j hj]
            exact ⟨rfl, by decide, by decide⟩
        rcases r_tail hA8 hn (row := (n : Int)) (to := 19 * (n : Int)) rfl rfl hk hT8 with ⟨K9, N9, p9, a9, c9, m9, hA9, le9, a9b, hT9, fk9, fn9, rk9, nj9⟩ | ⟨K9, N9, c9, m9, hF, rk9, rn9⟩
        · left
          have fK9 : fSame rlK K K9 := fs_trans fK5 (fs_trans (fs_mono (by decide) fk7) (fs_trans (fs_mono (by decide) fk8) (fs_mono (by decide) fk9)))
          have fN9 : fSame raN N N9 := fs_trans fN6 (fs_trans fn7 (fs_trans fn8 fn9))
          have q0 : ∀ j, j ≠ 19 * n + 2 → j ≠ 19 * n + 3 → j ≠ 19 * n + 4 → j ≠ 19 * n + 5 → (j < 19 * n + 6 ∨ 19 * n + 19 ≤ j) → N9 125 j = N6 125 j := fun j a2 a3 a4 a5 a6 => by rw [nj9 j a6, nj8 j a2 a3, nj7 j a4 a5]
          refine ⟨K9, N9, p9, by rw [cc3, c9], by rw [mm3, m9], hA9, by omega, ⟨kd, x, a9, hk, ?_, ?_, ⟨x0, ?_⟩, ?_, ?_, fun g5 => ?_, ?_, ?_, a9b, hT9⟩, fK9, fN9, RK_trans rK5 (RK_trans rk7 (RK_trans rk8 rk9)), RN_trans rN6 (RN_trans (fun j hj => nj7 j (by omega) (by omega)) (RN_trans (fun j hj => nj8 j (by omega) (by omega)) (fun j hj => nj9 j (by omega))))⟩
          · rw [fs_row fk9 19 (by decide), fs_row fk8 19 (by decide), fs_row fk7 19 (by decide), k19]
          · rw [q0 _ (by omega) (by omega) (by omega) (by omega) (by omega), n0]
          · rw [fs_at fK9 4 13 (by decide)]
            exact x1
          · rw [fs_row fk9 20 (by decide), fs_row fk8 20 (by decide), fs_row fk7 20 (by decide), k20]
          · rw [q0 _ (by omega) (by omega) (by omega) (by omega) (by omega), n1]
          · rw [fs_row fK9 10 (by decide)]
            exact xh g5
          · unfold RA at hRA ⊢
            rw [nj9 _ (by omega), nj8 _ (by omega) (by omega), nj9 _ (by omega), nj8 _ (by omega) (by omega), fs_row fk9 23 (by decide), fs_row fk8 23 (by decide), fs_row fk9 24 (by decide), fs_row fk8 24 (by decide), fs_at fk9 4 14 (by decide), fs_at fk8 4 14 (by decide)]
            exact hRA
          · unfold RWd at hRW ⊢
            rw [nj9 _ (by omega), nj9 _ (by omega), fs_row fk9 21 (by decide), fs_row fk9 22 (by decide)]
            exact hRW
        · right
          exact ⟨K9, N9, by rw [cc3, c9], by rw [mm3, m9], hF, RK_trans rK5 (RK_trans rk7 (RK_trans rk8 rk9)), RN_trans rN6 (RN_trans (fun j hj => nj7 j (by omega) (by omega)) (RN_trans (fun j hj => nj8 j (by omega) (by omega)) rn9))⟩
      · right
        refine ⟨K8, N8, ?_, ?_, hF, RK_trans rK5 (RK_trans rk7 rk8), RN_trans rN6 (RN_trans (fun j hj => nj7 j (by omega) (by omega)) rn8)⟩
        · rw [cc2, c8]
          rfl
        · rw [mm2, m8]
          rfl
    · right
      exact ⟨K7, N7, by rw [cc1, c7], by rw [mm1, m7], hF, RK_trans rK5 rk7, RN_trans rN6 rn7⟩
  · right
    refine ⟨K4, N4, ?_, by rw [mm0, m4], hF, RK_fs (s_X5_takePiano_fr c4) (by decide), RN_trans rn3 rn4⟩
    rw [c0, c4]
    rfl
