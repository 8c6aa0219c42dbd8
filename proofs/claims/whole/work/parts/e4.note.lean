/-! ===== records: notes ===== -/
abbrev rtK : List (Nat × Option Nat) := [(1, some 4), (1, some 5), (1, some 6), (1, some 7), (1, some 8), (25, none), (26, none)]
def RT (K N : fM) (n a : Nat) : Prop := K 25 n = (a : Int) ∧ N 125 (19 * n + 6) = (a : Int) ∧ ∀ j, j < 12 → N 125 (19 * n + 7 + j) = K 26 (12 * n + j) ∧ -999 ≤ K 26 (12 * n + j) ∧ K 26 (12 * n + j) ≤ 999
theorem nh_ok {K N : fM} {b : Nat → Int} {L lim p : Nat} (hA : StA K N b L lim p) (hk : tKd b L lim p = 3) (hr : tV b L p ≤ 11) : s_X10_numberHere K 0 11 = some (.inl (tV b L p), K) := by
  have hv := tV_b hk
  have k7 : K 1 7 = tV b L p := hA.2.2.1.2.2.2.2 hk
  have k6 : K 1 6 = 3 := by rw [hA.2.2.1.2.2.1, hk]; rfl
  unfold s_X10_numberHere s_X10_numberHere_j13
  rw [if_pos k6, k7, if_neg (by omega), if_pos hr]
theorem nh_big {K K2 N : fM} {b : Nat → Int} {L lim p : Nat} (hA : StA K N b L lim p) (hk : tKd b L lim p = 3) (hr : ¬ tV b L p ≤ 11) (f1 : s_X10_fail K 2 = some (.inr (), K2)) : s_X10_numberHere K 0 11 = some (.inr (), K2) := by
  have hv := tV_b hk
  have k7 : K 1 7 = tV b L p := hA.2.2.1.2.2.2.2 hk
  have k6 : K 1 6 = 3 := by rw [hA.2.2.1.2.2.1, hk]; rfl
  unfold s_X10_numberHere s_X10_numberHere_j13 s_X10_numberHere_j29
  rw [if_pos k6, k7, f1, if_neg (by omega), if_neg hr]
  rfl
theorem nh_not {K K2 N : fM} {b : Nat → Int} {L lim p : Nat} (hA : StA K N b L lim p) (hk : ¬ tKd b L lim p = 3) (f1 : s_X10_fail K 1 = some (.inr (), K2)) : s_X10_numberHere K 0 11 = some (.inr (), K2) := by
  have k6 : ¬ K 1 6 = 3 := by rw [hA.2.2.1.2.2.1]; omega
  unfold s_X10_numberHere
  rw [if_neg k6, f1]
  rfl
theorem rn_fail {K K2 : fM} {row : Int} (h : s_X10_numberHere K 0 11 = some (.inr (), K2)) : s_X5_readNote K row = some (.inr (), K2) := by
  unfold s_X5_readNote
  rw [h]
  rfl
theorem r_note {K N : fM} {b : Nat → Int} {L lim p n a : Nat} (hA : StA K N b L lim p) (hk : tKd b L lim p = 3) (hn : n < 200) {row to : Int} (hrow : row = (n : Int)) (hto : to = 19 * (n : Int)) (ha : a < 4096) (hT : RT K N n a) : (∃ t K' N' p', t < 12 ∧ Nat.testBit a t = false ∧ s_X5_readNote K row = some (.inl (), K') ∧ s_X12_notes_b19 N to = some (.inl N') ∧ StA K' N' b L lim p' ∧ p < p' ∧ RT K' N' n (a ||| 2 ^ t) ∧ fSame rtK K K' ∧ fSame raN N N' ∧ RK n K K' ∧ (∀ j, j < 19 * n + 6 ∨ 19 * n + 19 ≤ j → N' 125 j = N 125 j)) ∨ (∃ K' N', s_X5_readNote K row = some (.inr (), K') ∧ s_X12_notes_b19 N to = some (.inr (.inr (0, N'))) ∧ Ft K' N' ∧ RK n K K' ∧ RN n N N') := by
  have hbr : 0 ≤ row ∧ row < 200 := by omega
  have rowN : row.toNat = n := by omega
  have e6 : (to + 6).toNat = 19 * n + 6 := by omega
  have g6 : fin (to + 6) ∧ (0 ≤ (to + 6) ∧ (to + 6) < 3800) := by unfold fin; omega
  have hv := tV_b hk
  have hpL : p ≤ L := hA.2.2.2.2.1
  have n11 : N 122 11 = 2 := (hA.2.2.2.1.2.2.2.2.2.1 hk).1
  have n14 : N 122 14 = tV b L p := (hA.2.2.2.1.2.2.2.2.2.1 hk).2
  obtain ⟨z, hz⟩ : ∃ z, z = tV b L p := ⟨_, rfl⟩
  rw [← hz] at n14 hv
  have mb : s_X12_notes_b19 N to = if z ≤ 11 then (if ¬ (fand (fshr (a : Int) z) 1) = 1 then (s_X12_next (fup N 125 (19 * n + 6) (fior (a : Int) (fshl 1 z)))).bind (fun y93 => (s_X12_takesSigned y93.2 999).bind fun y100 => if ¬ y100.1 = 0 then (if fin (to + 7) ∧ fin ((to + 7) + z) ∧ (0 ≤ ((to + 7) + z) ∧ ((to + 7) + z) < 3800) then some (.inl (fup y100.2 125 ((to + 7) + z).toNat (y100.2 122 18))) else none) else some (.inr (.inr (0, y100.2)))) else (s_X12_bad N 3).bind fun y66 => if b01 y66.1 then some (.inr (.inr (y66.1, y66.2))) else none) else (s_X12_bad N 2).bind fun y38 => if b01 y38.1 then some (.inr (.inr (y38.1, y38.2))) else none := by
    unfold s_X12_notes_b19
    rw [if_neg (fun e => e n11), n14, if_pos g6, if_pos g6, e6, hT.2.1]
  by_cases hr : z ≤ 11
  · obtain ⟨t, ht⟩ : ∃ t : Nat, (t : Int) = z := ⟨z.toNat, by omega⟩
    have ht12 : t < 12 := by omega
    have hbt : fand (fshr (a : Int) z) 1 = if Nat.testBit a t then 1 else 0 := by rw [← ht]; exact b_test (by omega) (by omega)
    have hbo : fior (a : Int) (fshl 1 z) = ((a ||| 2 ^ t : Nat) : Int) := by rw [← ht]; exact b_or (by omega) (by omega)
    have hnh : s_X10_numberHere K 0 11 = some (.inl z, K) := by rw [hz]; exact nh_ok hA hk (by omega)
    have hit : s_X6_isTold_18 K row z = some (if Nat.testBit a t then 1 else 0) := by
      unfold s_X6_isTold_18
      rw [if_pos hbr, rowN, hT.1, hbt]
      cases hb : Nat.testBit a t with
      | true => rfl
      | false => rfl
    have cpre : s_X5_readNote K row = if (if Nat.testBit a t then (1 : Int) else 0) = 0 then s_X5_readNote_j31 K row z else (s_X10_fail K 3).bind fun y28 => fel y28.1 (fun w28 => s_X5_readNote_j31 y28.2 row z) (some (.inr (), y28.2)) := by
      unfold s_X5_readNote
      rw [hnh]
      show (s_X6_isTold_18 K row z).bind _ = _
      rw [hit]
      rfl
    rw [if_pos hr, hbt, hbo] at mb
    cases hb : Nat.testBit a t with
    | true =>
      right
      obtain ⟨Kf, Nf, q1, q2, q3⟩ := sim_fail hA 3 (by decide)
      rw [hb, if_pos (show true = true from rfl)] at cpre mb
      rw [if_neg (show ¬ (1 : Int) = 0 by decide), q1] at cpre
      rw [if_neg (show ¬ ¬ (1 : Int) = 1 by decide), q2] at mb
      exact ⟨Kf, Nf, cpre, mb, q3, RK_fs (s_X10_fail_fr q1) (by decide), RN_fs (s_X12_bad_fr q2) (by decide)⟩
    | false =>
      obtain ⟨A2, hA2⟩ : ∃ A2 : Int, A2 = ((a ||| 2 ^ t : Nat) : Int) := ⟨_, rfl⟩
      rw [hb, if_neg (show ¬ false = true by decide)] at cpre mb
      rw [if_pos (show (0 : Int) = 0 from rfl)] at cpre
      rw [if_pos (show ¬ (0 : Int) = 1 by decide), ← hA2] at mb
      have fk1 : fSame [(25, none)] K (fup K 25 n A2) := fs_up fs_refl (.inl (by decide))
      have fn1 : fSame [(125, none)] N (fup N 125 (19 * n + 6) A2) := fs_up fs_refl (.inl (by decide))
      obtain ⟨N2, m2, fn2, hB2⟩ := sim_next (StA_m fn1 (by decide) (StA_c fk1 (by decide) hA))
      have ix : (row * 12 + z).toNat = 12 * n + t := by omega
      have iy : (to + 7 + z).toNat = 19 * n + 7 + t := by omega
      have cp2 : s_X5_readNote K row = (s_X10_takeSigned (fup K 25 n A2) 999).bind fun y66 => fel y66.1 (fun w66 => if (0 ≤ ((row * 12) + z) ∧ ((row * 12) + z) < 2400) then (s_X10_take (fup y66.2 26 ((row * 12) + z).toNat w66)).bind (fun y74 => some (.inl (), y74.2)) else none) (some (.inr (), y66.2)) := by
        rw [cpre]
        unfold s_X5_readNote_j31
        rw [if_pos (by unfold fin; omega), rowN, hT.1, hbo, ← hA2]
      have mp2 : s_X12_notes_b19 N to = (s_X12_takesSigned N2 999).bind fun y100 => if ¬ y100.1 = 0 then (if fin (to + 7) ∧ fin ((to + 7) + z) ∧ (0 ≤ ((to + 7) + z) ∧ ((to + 7) + z) < 3800) then some (.inl (fup y100.2 125 ((to + 7) + z).toNat (y100.2 122 18))) else none) else some (.inr (.inr (0, y100.2))) := by
        rw [mb, m2, Option.bind_some]
        try rfl
      have rN1 : RN n N (fup N 125 (19 * n + 6) A2) := RN_up RN_refl (by omega) (by omega)
      have rK1 : RK n K (fup K 25 n A2) := RK_up RK_refl (by decide) (by decide)
      have le1 := (tNx_le (b := b) (lim := lim) hpL).1
      rcases sim_signed hB2 999 (by decide) with ⟨v, p2, K3, N3, c3, m3, hB3, g3, r3, fk3, fn3, lt3⟩ | ⟨K3, N3, c3, m3, hF⟩
      · left
        have fk4 : fSame [(26, none)] K3 (fup K3 26 (12 * n + t) v) := fs_up fs_refl (.inl (by decide))
        have fn4 : fSame [(125, none)] N3 (fup N3 125 (19 * n + 7 + t) v) := fs_up fs_refl (.inl (by decide))
        obtain ⟨K5, c5, fk5, hA5⟩ := sim_take (StB_m fn4 (by decide) (StB_c fk4 (by decide) hB3))
        have n3 : ∀ j, j ≠ 19 * n + 6 → N3 125 j = N 125 j := fun j hj => by rw [fs_row fn3 125 (by decide), fs_row fn2 125 (by decide), fup_eq, upd1_ne hj]
        refine ⟨t, K5, fup N3 125 (19 * n + 7 + t) v, p2, ht12, hb, ?_, ?_, hA5, by omega, ⟨?_, ?_, fun j hj => ?_⟩, fs_trans (fs_mono (by decide) fk1) (fs_trans (fs_mono (by decide) fk3) (fs_trans (fs_mono (by decide) fk4) (fs_mono (by decide) fk5))), fs_trans (fs_mono (by decide) fn1) (fs_trans (fs_mono (by decide) fn2) (fs_trans (fs_mono (by decide) fn3) (fs_mono (by decide) fn4))), RK_trans rK1 (RK_trans (RK_up26 (RK_fs fk3 (by decide)) (by omega) (by omega)) (RK_fs fk5 (by decide))), fun j hj => ?_⟩
        · rw [cp2, c3, Option.bind_some, fel_l, if_pos (by omega), ix]
          show (s_X10_take (fup K3 26 (12 * n + t) v)).bind _ = _
          rw [c5]
          rfl
        · rw [mp2, m3, Option.bind_some, if_pos (show ¬ (1 : Int) = 0 by decide), if_pos (by unfold fin; omega), iy]
          show some (Sum.inl (fup N3 125 (19 * n + 7 + t) (N3 122 18))) = _
          rw [g3]
        · rw [fs_row fk5 25 (by decide), fup_ne (by decide), fs_row fk3 25 (by decide), fup_eq, upd1_at, hA2]
        · rw [fup_eq, upd1_ne (by omega), fs_row fn3 125 (by decide), fs_row fn2 125 (by decide), fup_eq, upd1_at, hA2]
        · rw [fup_eq, fs_row fk5 26 (by decide), fup_eq]
          by_cases e : j = t
          · subst e
            rw [upd1_at, upd1_at]
            exact ⟨rfl, by omega⟩
          · rw [upd1_ne (by omega), upd1_ne (by omega), n3 _ (by omega), fs_row fk3 26 (by decide), fup_ne (by decide)]
            exact hT.2.2 j hj
        · rw [fup_eq, upd1_ne (by omega), n3 j (by omega)]
      · right
        refine ⟨K3, N3, ?_, ?_, hF, RK_trans rK1 (RK_fs (s_X10_takeSigned_fr c3) (by decide)), RN_trans rN1 (RN_trans (RN_fs fn2 (by decide)) (RN_fs (s_X12_takesSigned_fr m3) (by decide)))⟩
        · rw [cp2, c3]
          rfl
        · rw [mp2, m3]
          rfl
  · right
    obtain ⟨Kf, Nf, q1, q2, q3⟩ := sim_fail hA 2 (by decide)
    rw [if_neg hr, q2] at mb
    exact ⟨Kf, Nf, rn_fail (nh_big hA hk (by omega) q1), mb, q3, RK_fs (s_X10_fail_fr q1) (by decide), RN_fs (s_X12_bad_fr q2) (by decide)⟩
theorem r_notes {b : Nat → Int} {L lim n : Nat} (hn : n < 200) {row to : Int} (hrow : row = (n : Int)) (hto : to = 19 * (n : Int)) : ∀ (d : Nat) (K N : fM) (p i a : Nat), L - p < d → StA K N b L lim p → a < 4096 → RT K N n a → i ≤ pcn a 12 → (∃ K' N' p' a', s_X5_readLine_l187 row 1 ((i : Int), K) = some (.inl K') ∧ s_X12_notes_l19 to N = some (.inl N') ∧ StA K' N' b L lim p' ∧ p ≤ p' ∧ a' < 4096 ∧ RT K' N' n a' ∧ fSame rtK K K' ∧ fSame raN N N' ∧ RK n K K' ∧ (∀ j, j < 19 * n + 6 ∨ 19 * n + 19 ≤ j → N' 125 j = N 125 j)) ∨ (∃ K' N', s_X5_readLine_l187 row 1 ((i : Int), K) = some (.inr (.inr (), K')) ∧ s_X12_notes_l19 to N = some (.inr (0, N')) ∧ Ft K' N' ∧ RK n K K' ∧ RN n N N') := by
  intro d
  induction d with
  | zero =>
    intro K N p i a hd
    exact absurd hd (Nat.not_lt_zero _)
  | succ d ih =>
    intro K N p i a hd hA ha hT hi
    have hp12 := pcn_le a 12
    have hpL : p ≤ L := hA.2.2.2.2.1
    have k6 : K 1 6 = tKd b L lim p := hA.2.2.1.2.2.1
    have i12 : ¬ (12 : Int) < (i : Int) := by omega
    by_cases g : tKd b L lim p = 3
    · have cb : s_X5_readLine_b187 K row 1 (i : Int) = (s_X5_readNote K row).bind fun y212 => fel y212.1 (fun w212 => if fin ((i : Int) + 1) then some (.inl (((i : Int) + 1), y212.2)) else none) (some (.inr (.inr (.inr (), y212.2)))) := by
        unfold s_X5_readLine_b187
        rw [if_neg i12, if_neg (show ¬ (1 : Int) = 0 by decide), if_neg (show ¬ ¬ K 1 6 = 3 by rw [k6, g]; decide)]
      have fi1 : fin ((i : Int) + 1) := by unfold fin; omega
      rcases r_note hA g hn hrow hto ha hT with ⟨t, K1, N1, p1, t12, tb, c1, m1, hA1, lt1, hT1, fk1, fn1, rk1, nj1⟩ | ⟨K1, N1, c1, m1, hF, rk1, rn1⟩
      · have cb2 : s_X5_readLine_b187 K row 1 (i : Int) = some (.inl ((i : Int) + 1, K1)) := by
          rw [cb, c1, Option.bind_some, fel_l, if_pos fi1]
        have hx1 : s_X5_readLine_l187 row 1 ((i : Int), K) = s_X5_readLine_l187 row 1 (((i + 1 : Nat) : Int), K1) := by
          unfold s_X5_readLine_l187
          exact fLp_stp (b := fun s : Int × fM => s_X5_readLine_b187 s.2 row 1 s.1) cb2
        have hx2 : s_X12_notes_l19 to N = s_X12_notes_l19 to N1 := by
          unfold s_X12_notes_l19
          exact fLp_stp (b := fun s : fM => s_X12_notes_b19 s to) m1
        have hpc : pcn (a ||| 2 ^ t) 12 = pcn a 12 + 1 := by rw [pcn_or tb 12, if_pos t12]
        have hpL1 : p1 ≤ L := hA1.2.2.2.2.1
        rw [hx1, hx2]
        rcases ih K1 N1 p1 (i + 1) (a ||| 2 ^ t) (by omega) hA1 (or12 ha t12) hT1 (by omega) with ⟨K', N', p', a', q1, q2, q3, q4, q5, q6, q7, q8, q9, q10⟩ | ⟨K', N', q1, q2, q3, q4, q5⟩
        · exact .inl ⟨K', N', p', a', q1, q2, q3, by omega, q5, q6, fs_trans fk1 q7, fs_trans fn1 q8, RK_trans rk1 q9, fun j hj => by rw [q10 j hj, nj1 j hj]⟩
        · exact .inr ⟨K', N', q1, q2, q3, RK_trans rk1 q4, RN_trans (fun j hj => nj1 j (by omega)) q5⟩
      · right
        refine ⟨K1, N1, ?_, ?_, hF, rk1, rn1⟩
        · unfold s_X5_readLine_l187
          rw [fLp_eq]
          show (s_X5_readLine_b187 K row 1 (i : Int)).bind _ = _
          rw [cb, c1]
          rfl
        · unfold s_X12_notes_l19
          rw [fLp_eq]
          show (s_X12_notes_b19 N to).bind _ = _
          rw [m1]
          rfl
    · left
      have n11 : ¬ N 122 11 = 2 := fun e => g ((kd_ne hA.2.2.2.1).2.1.1 e)
      refine ⟨K, N, p, a, ?_, ?_, hA, Nat.le_refl p, ha, hT, fs_refl, fs_refl, RK_refl, fun j _ => rfl⟩
      · unfold s_X5_readLine_l187
        rw [fLp_eq]
        show (s_X5_readLine_b187 K row 1 (i : Int)).bind _ = _
        unfold s_X5_readLine_b187
        rw [if_neg i12, if_neg (show ¬ (1 : Int) = 0 by decide), if_pos (show ¬ K 1 6 = 3 by rw [k6]; omega)]
        rfl
      · unfold s_X12_notes_l19
        rw [fLp_eq]
        show (s_X12_notes_b19 N to).bind _ = _
        unfold s_X12_notes_b19
        rw [if_pos n11]
        rfl
