/-! ===== lines of a house: weeks, fees, names ===== -/
theorem ln_damp {K N : fM} {b : Nat → Int} {L lim p : Nat} (hA : StA K N b L lim p) (hH : HD (dr K) N) (hT : Tb K N) (hk : kx b L lim p = 1) : LnO (s_X3_readDamp K) (s_X12_weeks N 1) K N b L lim p := by
  have h2 := kx_two hA.2.2.2.2.1 (show 1 < 30 by omega) hk
  obtain ⟨N0, m0, fn0, hB0⟩ := sim_next hA
  have mpre : s_X12_weeks N 1 = (s_X12_takes N0 0 51).bind fun y8 => if ¬ y8.1 = 0 then (s_X12_takes y8.2 (y8.2 122 18) 51).bind (fun y25 => if ¬ y25.1 = 0 then (if (1 : Int) = 0 then s_X12_weeks_j54 y25.2 1 (y8.2 122 18) (y25.2 122 18) else (s_X12_takes y25.2 0 40).bind fun y46 => if ¬ y46.1 = 0 then s_X12_weeks_j54 y46.2 1 (y8.2 122 18) (y25.2 122 18) else some (0, y46.2)) else some (0, y25.2)) else some (0, y8.2) := by
    unfold s_X12_weeks
    rw [m0]
    rfl
  rcases sim_num hB0 0 51 with ⟨K2, N2, c2, m2, hB2, g2, r2, fk2, fn2, lt2⟩ | ⟨K2, N2, c2, m2, hF⟩
  · obtain ⟨a, had⟩ : ∃ a, a = tV b L (tNx b L lim p) := ⟨_, rfl⟩
    rw [← had] at c2 g2 r2
    rcases sim_num hB2 a 51 with ⟨K3, N3, c3, m3, hB3, g3, r3, fk3, fn3, lt3⟩ | ⟨K3, N3, c3, m3, hF⟩
    · obtain ⟨c, hcd⟩ : ∃ c, c = tV b L (tNx b L lim (tNx b L lim p)) := ⟨_, rfl⟩
      rw [← hcd] at c3 g3 r3
      rcases sim_num hB3 0 40 with ⟨K4, N4, c4, m4, hB4, g4, r4, fk4, fn4, lt4⟩ | ⟨K4, N4, c4, m4, hF⟩
      · left
        obtain ⟨v, hvd⟩ : ∃ v, v = tV b L (tNx b L lim (tNx b L lim (tNx b L lim p))) := ⟨_, rfl⟩
        rw [← hvd] at c4 g4 r4
        obtain ⟨K5, c5, k5, o5⟩ := c_dampl (K := K4) (a := a) (c := c) v (by omega)
        obtain ⟨N5, m5, x5, y5, o6⟩ := m_weeks (N := N4) (a := a) (c := c) (d := 1) (base := 658) (by omega) (by omega) (v := v) (by rw [g4]; rfl)
        have fk5 : fSame [(30, none)] K4 K5 := fun r j hm => by rw [o5 r (fun e => hm (by rw [e]; exact .inl (by decide)))]
        have fn5 : fSame [(124, none)] N4 N5 := fun r j hm => by rw [o6 r (fun e => hm (by rw [e]; exact .inl (by decide)))]
        obtain ⟨K6, c6, fk6, hA6⟩ := sim_take (StB_m fn5 (by decide) (StB_c fk5 (by decide) hB4))
        have fK : fSame [(1, some 4), (1, some 5), (1, some 6), (1, some 7), (1, some 8), (30, none)] K K6 := fs_trans (fs_mono (by decide) fk2) (fs_trans (fs_mono (by decide) fk3) (fs_trans (fs_mono (by decide) fk4) (fs_trans (fs_mono (by decide) fk5) (fs_mono (by decide) fk6))))
        have fN : fSame [(122, some 4), (122, some 11), (122, some 12), (122, some 13), (122, some 14), (122, some 17), (122, some 18), (124, none)] N N5 := fs_trans (fs_mono (by decide) fn0) (fs_trans (fs_mono (by decide) fn2) (fs_trans (fs_mono (by decide) fn3) (fs_trans (fs_mono (by decide) fn4) (fs_mono (by decide) fn5))))
        have k4 : K4 30 = K 30 := by rw [fs_row fk4 30 (by decide), fs_row fk3 30 (by decide), fs_row fk2 30 (by decide)]
        have n4 : N4 124 = N 124 := by rw [fs_row fn4 124 (by decide), fs_row fn3 124 (by decide), fs_row fn2 124 (by decide), fs_row fn0 124 (by decide)]
        refine ⟨K6, N5, _, ?_, ?_, hA6, by omega, HD_damp hH (a := a) (c := c) (v := v) (by omega) (by omega) (fun w h1 h2 => by show K6 30 w.toNat = if a ≤ w ∧ w ≤ c then v else K 30 w.toNat; rw [fs_row fk6 30 (by decide), k5 w h1 h2, k4]) (fun w h1 h2 => by rw [x5 w h1 h2, n4]) (fs_row fK 29 (by decide)) (fs_row fK 31 (by decide)) (fs_row fK 32 (by decide)) (fs_row fK 33 (by decide)) (fs_row fK 34 (by decide)) (fs_row fK 35 (by decide)) (fs_row fK 36 (by decide)) (fs_row fK 37 (by decide)) (fs_row fK 38 (by decide)) (fs_row fK 39 (by decide)) (fs_row fK 40 (by decide)) (fs_row fK 41 (by decide)) (fs_at fK 28 13 (by decide)) (fs_at fK 28 14 (by decide)) (fs_at fK 28 15 (by decide)) (fs_at fK 28 16 (by decide)) (fs_row fN 126 (by decide)) (fun i hi => by rw [y5 i (by omega), n4]), Tb_fs fK (by decide) fN (by decide) hT, fs_at fK 28 17 (by decide), fs_at fN 122 20 (by decide)⟩
        · unfold s_X3_readDamp
          rw [c2]
          show ((s_X10_takeNumber K2 a 51).bind _) = _
          rw [c3]
          show ((s_X10_takeNumber K3 0 40).bind _) = _
          rw [c4]
          show ((s_X3_readDamp_l36 c v (a, K4)).bind _) = _
          rw [c5]
          show ((s_X10_take K5).bind _) = _
          rw [c6]
          rfl
        · rw [mpre, m2]
          show ((s_X12_takes N2 (N2 122 18) 51).bind _) = _
          rw [g2, m3]
          show ((s_X12_takes N3 0 40).bind _) = _
          rw [m4]
          show s_X12_weeks_j54 N4 1 (N2 122 18) (N3 122 18) = _
          unfold s_X12_weeks_j54
          rw [g2, g3, m5]
          rfl
      · right
        refine ⟨K4, N4, ?_, ?_, hF⟩
        · unfold s_X3_readDamp
          rw [c2]
          show ((s_X10_takeNumber K2 a 51).bind _) = _
          rw [c3]
          show ((s_X10_takeNumber K3 0 40).bind _) = _
          rw [c4]
          rfl
        · rw [mpre, m2]
          show ((s_X12_takes N2 (N2 122 18) 51).bind _) = _
          rw [g2, m3]
          show ((s_X12_takes N3 0 40).bind _) = _
          rw [m4]
          rfl
    · right
      refine ⟨K3, N3, ?_, ?_, hF⟩
      · unfold s_X3_readDamp
        rw [c2]
        show ((s_X10_takeNumber K2 a 51).bind _) = _
        rw [c3]
        rfl
      · rw [mpre, m2]
        show ((s_X12_takes N2 (N2 122 18) 51).bind _) = _
        rw [g2, m3]
        rfl
  · right
    refine ⟨K2, N2, ?_, ?_, hF⟩
    · unfold s_X3_readDamp
      rw [c2]
      rfl
    · rw [mpre, m2]
      rfl
theorem ln_term {K N : fM} {b : Nat → Int} {L lim p : Nat} (hA : StA K N b L lim p) (hH : HD (dr K) N) (hT : Tb K N) (hk : kx b L lim p = 2) : LnO (s_X3_readTerm K) (s_X12_weeks N 0) K N b L lim p := by
  have h2 := kx_two hA.2.2.2.2.1 (show 2 < 30 by omega) hk
  obtain ⟨N0, m0, fn0, hB0⟩ := sim_next hA
  have mpre : s_X12_weeks N 0 = (s_X12_takes N0 0 51).bind fun y8 => if ¬ y8.1 = 0 then (s_X12_takes y8.2 (y8.2 122 18) 51).bind (fun y25 => if ¬ y25.1 = 0 then (if (0 : Int) = 0 then s_X12_weeks_j54 y25.2 0 (y8.2 122 18) (y25.2 122 18) else (s_X12_takes y25.2 0 40).bind fun y46 => if ¬ y46.1 = 0 then s_X12_weeks_j54 y46.2 0 (y8.2 122 18) (y25.2 122 18) else some (0, y46.2)) else some (0, y25.2)) else some (0, y8.2) := by
    unfold s_X12_weeks
    rw [m0]
    rfl
  rcases sim_num hB0 0 51 with ⟨K2, N2, c2, m2, hB2, g2, r2, fk2, fn2, lt2⟩ | ⟨K2, N2, c2, m2, hF⟩
  · obtain ⟨a, had⟩ : ∃ a, a = tV b L (tNx b L lim p) := ⟨_, rfl⟩
    rw [← had] at c2 g2 r2
    rcases sim_num hB2 a 51 with ⟨K3, N3, c3, m3, hB3, g3, r3, fk3, fn3, lt3⟩ | ⟨K3, N3, c3, m3, hF⟩
    · obtain ⟨c, hcd⟩ : ∃ c, c = tV b L (tNx b L lim (tNx b L lim p)) := ⟨_, rfl⟩
      rw [← hcd] at c3 g3 r3
      left
      obtain ⟨K5, c5, k5, o5⟩ := c_terml (K := K3) (a := a) (c := c) (by omega)
      obtain ⟨N5, m5, x5, y5, o6⟩ := m_weeks (N := N3) (a := a) (c := c) (d := 0) (base := 710) (by omega) (by omega) (v := 1) (by rfl)
      have fk5 : fSame [(31, none)] K3 K5 := fun r j hm => by rw [o5 r (fun e => hm (by rw [e]; exact .inl (by decide)))]
      have fn5 : fSame [(124, none)] N3 N5 := fun r j hm => by rw [o6 r (fun e => hm (by rw [e]; exact .inl (by decide)))]
      obtain ⟨K6, c6, fk6, hA6⟩ := sim_take (StB_m fn5 (by decide) (StB_c fk5 (by decide) hB3))
      have fK : fSame [(1, some 4), (1, some 5), (1, some 6), (1, some 7), (1, some 8), (31, none)] K K6 := fs_trans (fs_mono (by decide) fk2) (fs_trans (fs_mono (by decide) fk3) (fs_trans (fs_mono (by decide) fk5) (fs_mono (by decide) fk6)))
      have fN : fSame [(122, some 4), (122, some 11), (122, some 12), (122, some 13), (122, some 14), (122, some 17), (122, some 18), (124, none)] N N5 := fs_trans (fs_mono (by decide) fn0) (fs_trans (fs_mono (by decide) fn2) (fs_trans (fs_mono (by decide) fn3) (fs_mono (by decide) fn5)))
      have k4 : K3 31 = K 31 := by rw [fs_row fk3 31 (by decide), fs_row fk2 31 (by decide)]
      have n4 : N3 124 = N 124 := by rw [fs_row fn3 124 (by decide), fs_row fn2 124 (by decide), fs_row fn0 124 (by decide)]
      refine ⟨K6, N5, _, ?_, ?_, hA6, by omega, HD_term hH (a := a) (c := c) (v := 1) (by omega) (by decide) (fun w h1 h2 => by show K6 31 w.toNat = if a ≤ w ∧ w ≤ c then 1 else K 31 w.toNat; rw [fs_row fk6 31 (by decide), k5 w h1 h2, k4]) (fun w h1 h2 => by rw [x5 w h1 h2, n4]) (fs_row fK 29 (by decide)) (fs_row fK 30 (by decide)) (fs_row fK 32 (by decide)) (fs_row fK 33 (by decide)) (fs_row fK 34 (by decide)) (fs_row fK 35 (by decide)) (fs_row fK 36 (by decide)) (fs_row fK 37 (by decide)) (fs_row fK 38 (by decide)) (fs_row fK 39 (by decide)) (fs_row fK 40 (by decide)) (fs_row fK 41 (by decide)) (fs_at fK 28 13 (by decide)) (fs_at fK 28 14 (by decide)) (fs_at fK 28 15 (by decide)) (fs_at fK 28 16 (by decide)) (fs_row fN 126 (by decide)) (fun i hi => by rw [y5 i (by omega), n4]), Tb_fs fK (by decide) fN (by decide) hT, fs_at fK 28 17 (by decide), fs_at fN 122 20 (by decide)⟩
      · unfold s_X3_readTerm
        rw [c2]
        show ((s_X10_takeNumber K2 a 51).bind _) = _
        rw [c3]
        show ((s_X3_readTerm_l24 c (a, K3)).bind _) = _
        rw [c5]
        show ((s_X10_take K5).bind _) = _
        rw [c6]
        rfl
      · rw [mpre, m2]
        show ((s_X12_takes N2 (N2 122 18) 51).bind _) = _
        rw [g2, m3]
        show s_X12_weeks_j54 N3 0 (N2 122 18) (N3 122 18) = _
        unfold s_X12_weeks_j54
        rw [g2, g3, m5]
        rfl
    · right
      refine ⟨K3, N3, ?_, ?_, hF⟩
      · unfold s_X3_readTerm
        rw [c2]
        show ((s_X10_takeNumber K2 a 51).bind _) = _
        rw [c3]
        rfl
      · rw [mpre, m2]
        show ((s_X12_takes N2 (N2 122 18) 51).bind _) = _
        rw [g2, m3]
        rfl
  · right
    refine ⟨K2, N2, ?_, ?_, hF⟩
    · unfold s_X3_readTerm
      rw [c2]
      rfl
    · rw [mpre, m2]
      rfl
theorem c_room {K K2 : fM} {n m : Int} (f1 : s_X10_fail K 4 = some (.inr (), K2)) : s_X3_mustHaveRoom K n m = if n < m then some (.inl (), K) else some (.inr (), K2) := by
  unfold s_X3_mustHaveRoom
  rw [f1]
  rfl
theorem ln_fee {K N : fM} {b : Nat → Int} {L lim p : Nat} (hA : StA K N b L lim p) (hH : HD (dr K) N) (hT : Tb K N) (hk : kx b L lim p = 3) : LnO (s_X3_readFee K) (s_X12_readFee N) K N b L lim p := by
  have h2 := kx_two hA.2.2.2.2.1 (show 3 < 30 by omega) hk
  have hH0 := hH
  obtain ⟨hWm, -, -, -, -, -, -, -, -, hm, -, -⟩ := hH
  have hc0 : (0 ≤ K 28 16 ∧ K 28 16 ≤ 16) := hWm.2.2.2
  have hn16 : N 124 762 = K 28 16 := hm.2.2.2.2.1 762 (by decide)
  obtain ⟨Kf, Nf, f1, f2, f3⟩ := sim_fail hA 4 (by decide)
  have hroom := c_room (n := K 28 16) (m := 16) f1
  by_cases hlt : K 28 16 < 16
  · rw [if_pos hlt] at hroom
    obtain ⟨k, hkd⟩ : ∃ k, k = K 28 16 := ⟨_, rfl⟩
    rw [← hkd] at hroom hc0 hn16 hlt
    obtain ⟨N0, m0, fn0, hB0⟩ := sim_next hA
    have cpre : s_X3_readFee K = (s_X10_takeKind K).bind fun y35 => fel y35.1 (fun w35 => (s_X10_takeNumber (fup y35.2 33 (k * 3).toNat w35) 0 9999).bind fun y57 => fel y57.1 (fun w57 => (s_X10_takeNumber (fup y57.2 33 (k * 3 + 1).toNat w57) 0 363).bind fun y79 => fel y79.1 (fun w79 => if (0 ≤ k * 3 + 2 ∧ k * 3 + 2 < 48) ∧ fin (y79.2 28 16 + 1) then (s_X10_take (fup (fup y79.2 33 (k * 3 + 2).toNat w79) 28 16 (y79.2 28 16 + 1))).bind (fun y100 => some (.inl (), y100.2)) else none) (some (.inr (), y79.2))) (some (.inr (), y57.2))) (some (.inr (), y35.2)) := by
      unfold s_X3_readFee
      rw [← hkd, hroom]
      show (if fin (K 28 16 * 3) then (s_X10_takeKind K).bind _ else none) = _
      rw [← hkd, if_pos (by unfold fin; omega)]
      cases s_X10_takeKind K with
      | none => rfl
      | some y =>
        obtain ⟨y1, y2⟩ := y
        rcases y1 with w | u
        · show (if (0 ≤ K 28 16 * 3 ∧ K 28 16 * 3 < 48) ∧ fin (K 28 16 * 3 + 1) then _ else none) = (s_X10_takeNumber (fup y2 33 (k * 3).toNat w) 0 9999).bind _
          rw [← hkd, if_pos (by unfold fin; omega)]
          show ((s_X10_takeNumber (fup y2 33 (K 28 16 * 3).toNat w) 0 9999).bind _) = _
          rw [← hkd]
          cases s_X10_takeNumber (fup y2 33 (k * 3).toNat w) 0 9999 with
          | none => rfl
          | some y =>
            obtain ⟨y1, y2⟩ := y
            rcases y1 with w | u
            · show (if (0 ≤ K 28 16 * 3 + 1 ∧ K 28 16 * 3 + 1 < 48) ∧ fin (K 28 16 * 3 + 2) then _ else none) = (s_X10_takeNumber (fup y2 33 (k * 3 + 1).toNat w) 0 363).bind _
              rw [← hkd, if_pos (by unfold fin; omega)]
              show ((s_X10_takeNumber (fup y2 33 (K 28 16 * 3 + 1).toNat w) 0 363).bind _) = _
              rw [← hkd]
              cases s_X10_takeNumber (fup y2 33 (k * 3 + 1).toNat w) 0 363 with
              | none => rfl
              | some y =>
                obtain ⟨y1, y2⟩ := y
                rcases y1 with w | u
                · show (if (0 ≤ K 28 16 * 3 + 2 ∧ K 28 16 * 3 + 2 < 48) ∧ fin (y2 28 16 + 1) then (s_X10_take (fup (fup y2 33 (K 28 16 * 3 + 2).toNat w) 28 16 (y2 28 16 + 1))).bind (fun y100 => some (Sum.inl (), y100.2)) else none) = _
                  rw [← hkd]
                  rfl
                · rfl
            · rfl
        · rfl
    have mpre : s_X12_readFee N = (s_X12_kind N0).bind fun y24 => if 0 ≤ y24 then (s_X12_next N0).bind (fun y39 => (s_X12_takes y39.2 0 9999).bind fun y47 => if ¬ y47.1 = 0 then (s_X12_takes y47.2 0 363).bind (fun y65 => if ¬ y65.1 = 0 then (if fin (3 * (y65.2 124 762)) ∧ fin (763 + (3 * (y65.2 124 762))) ∧ (0 ≤ (763 + (3 * (y65.2 124 762))) ∧ (763 + (3 * (y65.2 124 762))) < 1290) then (if fin ((763 + (3 * (y65.2 124 762))) + 1) ∧ (0 ≤ ((763 + (3 * (y65.2 124 762))) + 1) ∧ ((763 + (3 * (y65.2 124 762))) + 1) < 1290) ∧ fin ((763 + (3 * (y65.2 124 762))) + 2) ∧ (0 ≤ ((763 + (3 * (y65.2 124 762))) + 2) ∧ ((763 + (3 * (y65.2 124 762))) + 2) < 1290) then (if fin (((fup (fup (fup y65.2 124 (763 + (3 * (y65.2 124 762))).toNat y24) 124 ((763 + (3 * (y65.2 124 762))) + 1).toNat (y47.2 122 18)) 124 ((763 + (3 * (y65.2 124 762))) + 2).toNat (y65.2 122 18)) 124 762) + 1) then some (1, (fup (fup (fup (fup y65.2 124 (763 + (3 * (y65.2 124 762))).toNat y24) 124 ((763 + (3 * (y65.2 124 762))) + 1).toNat (y47.2 122 18)) 124 ((763 + (3 * (y65.2 124 762))) + 2).toNat (y65.2 122 18)) 124 762 (((fup (fup (fup y65.2 124 (763 + (3 * (y65.2 124 762))).toNat y24) 124 ((763 + (3 * (y65.2 124 762))) + 1).toNat (y47.2 122 18)) 124 ((763 + (3 * (y65.2 124 762))) + 2).toNat (y65.2 122 18)) 124 762) + 1))) else none) else none) else none) else some (0, y65.2)) else some (0, y47.2)) else (s_X12_bad N0 1).bind fun y34 => if b01 y34.1 then some (y34.1, y34.2) else none := by
      unfold s_X12_readFee
      rw [hn16, if_pos (show ¬ k = 16 by omega), m0]
      rfl
    rcases sim_kind hB0 with ⟨kd, K1, N1, hkd2, c1, mk1, mn1, hB1, fk1, fn1, lt1⟩ | ⟨K1, N1, c1, mk1, mb1, hF⟩
    · have hB1' : StB (fup K1 33 (k * 3).toNat kd) N1 b L lim _ := StB_c (l := [(33, none)]) (fs_up fs_refl (.inl (by decide))) (by decide) hB1
      rcases sim_num hB1' 0 9999 with ⟨K2, N2, c2, m2, hB2, g2, r2, fk2, fn2, lt2⟩ | ⟨K2, N2, c2, m2, hF⟩
      · obtain ⟨v, hvd⟩ : ∃ v, v = tV b L (tNx b L lim (tNx b L lim p)) := ⟨_, rfl⟩
        rw [← hvd] at c2 g2 r2
        have hB2' : StB (fup K2 33 (k * 3 + 1).toNat v) N2 b L lim _ := StB_c (l := [(33, none)]) (fs_up fs_refl (.inl (by decide))) (by decide) hB2
        rcases sim_num hB2' 0 363 with ⟨K3, N3, c3, m3, hB3, g3, r3, fk3, fn3, lt3⟩ | ⟨K3, N3, c3, m3, hF⟩
        · left
          obtain ⟨d, hdd⟩ : ∃ d, d = tV b L (tNx b L lim (tNx b L lim (tNx b L lim p))) := ⟨_, rfl⟩
          rw [← hdd] at c3 g3 r3
          have fk3a : fSame [(1, some 4), (1, some 5), (1, some 6), (1, some 7), (1, some 8), (33, none)] K K3 := fs_trans (fs_mono (by decide) fk1) (fs_trans (fs_up fs_refl (.inl (by decide))) (fs_trans (fs_mono (by decide) fk2) (fs_trans (fs_up fs_refl (.inl (by decide))) (fs_mono (by decide) fk3))))
          have k16 : K3 28 16 = k := by rw [fs_at fk3a 28 16 (by decide), hkd]
          have n3 : N3 124 = N 124 := by rw [fs_row fn3 124 (by decide), fs_row fn2 124 (by decide), fs_row fn1 124 (by decide), fs_row fn0 124 (by decide)]
          have n3k : N3 124 762 = k := by rw [n3, hn16]
          obtain ⟨K4, hK4⟩ : ∃ K4, K4 = fup (fup K3 33 (k * 3 + 2).toNat d) 28 16 (k + 1) := ⟨_, rfl⟩
          obtain ⟨N4, hN4⟩ : ∃ N4, N4 = fup (fup (fup (fup N3 124 (763 + 3 * k).toNat kd) 124 (763 + 3 * k + 1).toNat v) 124 (763 + 3 * k + 2).toNat d) 124 762 (k + 1) := ⟨_, rfl⟩
          have fk4 : fSame [(33, none), (28, some 16)] K3 K4 := by rw [hK4]; exact fs_up (fs_up fs_refl (.inl (by decide))) (.inr (by decide))
          have fn4 : fSame [(124, none)] N3 N4 := by rw [hN4]; exact fs_up (fs_up (fs_up (fs_up fs_refl (.inl (by decide))) (.inl (by decide))) (.inl (by decide))) (.inl (by decide))
          obtain ⟨K6, c6, fk6, hA6⟩ := sim_take (StB_m fn4 (by decide) (StB_c fk4 (by decide) hB3))
          have fK : fSame [(1, some 4), (1, some 5), (1, some 6), (1, some 7), (1, some 8), (33, none), (28, some 16)] K K6 := fs_trans (fs_mono (by decide) fk3a) (fs_trans (fs_mono (by decide) fk4) (fs_mono (by decide) fk6))
          have fN : fSame [(122, some 4), (122, some 11), (122, some 12), (122, some 13), (122, some 14), (122, some 17), (122, some 18), (124, none)] N N4 := fs_trans (fs_mono (by decide) fn0) (fs_trans (fs_mono (by decide) fn1) (fs_trans (fs_mono (by decide) fn2) (fs_trans (fs_mono (by decide) fn3) (fs_mono (by decide) fn4))))
          have k33 : K6 33 = upd1 (upd1 (upd1 (K 33) (k * 3).toNat kd) (k * 3 + 1).toNat v) (k * 3 + 2).toNat d := by rw [fs_row fk6 33 (by decide), hK4, fup_ne (by decide), fup_eq, fs_row fk3 33 (by decide), fup_eq, fs_row fk2 33 (by decide), fup_eq, fs_row fk1 33 (by decide)]
          have n124 : N4 124 = upd1 (upd1 (upd1 (upd1 (N 124) (763 + 3 * k).toNat kd) (763 + 3 * k + 1).toNat v) (763 + 3 * k + 2).toNat d) 762 (k + 1) := by rw [hN4, fup_eq, fup_eq, fup_eq, fup_eq, n3]
          refine ⟨K6, N4, _, ?_, ?_, hA6, by omega, ?_, Tb_fs fK (by decide) fN (by decide) hT, fs_at fK 28 17 (by decide), fs_at fN 122 20 (by decide)⟩
          · rw [cpre, c1]
            show ((s_X10_takeNumber (fup K1 33 (k * 3).toNat kd) 0 9999).bind _) = _
            rw [c2]
            show ((s_X10_takeNumber (fup K2 33 (k * 3 + 1).toNat v) 0 363).bind _) = _
            rw [c3]
            show (if (0 ≤ k * 3 + 2 ∧ k * 3 + 2 < 48) ∧ fin (K3 28 16 + 1) then (s_X10_take (fup (fup K3 33 (k * 3 + 2).toNat d) 28 16 (K3 28 16 + 1))).bind _ else none) = _
            rw [k16, if_pos (by unfold fin; omega), ← hK4, c6]
            rfl
          · rw [mpre, mk1, Option.bind_some, if_pos hkd2.1, mn1]
            show ((s_X12_takes N1 0 9999).bind _) = _
            rw [m2]
            show ((s_X12_takes N2 0 363).bind _) = _
            rw [m3]
            show (if fin (3 * (N3 124 762)) ∧ fin (763 + (3 * (N3 124 762))) ∧ (0 ≤ (763 + (3 * (N3 124 762))) ∧ (763 + (3 * (N3 124 762))) < 1290) then (if fin ((763 + (3 * (N3 124 762))) + 1) ∧ (0 ≤ ((763 + (3 * (N3 124 762))) + 1) ∧ ((763 + (3 * (N3 124 762))) + 1) < 1290) ∧ fin ((763 + (3 * (N3 124 762))) + 2) ∧ (0 ≤ ((763 + (3 * (N3 124 762))) + 2) ∧ ((763 + (3 * (N3 124 762))) + 2) < 1290) then (if fin (((fup (fup (fup N3 124 (763 + (3 * (N3 124 762))).toNat kd) 124 ((763 + (3 * (N3 124 762))) + 1).toNat (N2 122 18)) 124 ((763 + (3 * (N3 124 762))) + 2).toNat (N3 122 18)) 124 762) + 1) then some ((1 : Int), (fup (fup (fup (fup N3 124 (763 + (3 * (N3 124 762))).toNat kd) 124 ((763 + (3 * (N3 124 762))) + 1).toNat (N2 122 18)) 124 ((763 + (3 * (N3 124 762))) + 2).toNat (N3 122 18)) 124 762 (((fup (fup (fup N3 124 (763 + (3 * (N3 124 762))).toNat kd) 124 ((763 + (3 * (N3 124 762))) + 1).toNat (N2 122 18)) 124 ((763 + (3 * (N3 124 762))) + 2).toNat (N3 122 18)) 124 762) + 1))) else none) else none) else none) = _
            rw [g2, g3]
            have e762 : (fup (fup (fup N3 124 (763 + (3 * (N3 124 762))).toNat kd) 124 ((763 + (3 * (N3 124 762))) + 1).toNat v) 124 ((763 + (3 * (N3 124 762))) + 2).toNat d) 124 762 = k := by
              rw [fup_eq, upd1_ne (by omega), fup_eq, upd1_ne (by omega), fup_eq, upd1_ne (by omega), n3k]
            rw [e762, n3k, if_pos (by unfold fin; omega), if_pos (by unfold fin; omega), if_pos (by unfold fin; omega), ← hN4]
          · have hdr : dr K 4 16 = k := hkd.symm
            have hfee := HD_fee (D := dr K) (D' := dr K6) (N := N) (N' := N4) hH0 (k := kd) (v := v) (d := d) (by rw [hdr]; exact hlt) hkd2 r2 r3 (by rw [hdr]; exact k33) (by rw [hdr]; show K6 28 16 = k + 1; rw [fs_at fk6 28 16 (by decide), hK4]; rfl) (by rw [hdr, n124, upd1_ne (by omega), upd1_ne (by omega), upd1_ne (by omega), upd1_at]) (by rw [hdr, n124, upd1_ne (by omega), upd1_ne (by omega), upd1_at]) (by rw [hdr, n124, upd1_ne (by omega), upd1_at]) (by rw [hdr, n124, upd1_at])
            exact hfee (fs_row fK 29 (by decide)) (fs_row fK 30 (by decide)) (fs_row fK 31 (by decide)) (fs_row fK 32 (by decide)) (fs_row fK 34 (by decide)) (fs_row fK 35 (by decide)) (fs_row fK 36 (by decide)) (fs_row fK 37 (by decide)) (fs_row fK 38 (by decide)) (fs_row fK 39 (by decide)) (fs_row fK 40 (by decide)) (fs_row fK 41 (by decide)) (fs_at fK 28 13 (by decide)) (fs_at fK 28 14 (by decide)) (fs_at fK 28 15 (by decide)) (fs_row fN 126 (by decide)) (fun i hi => by rw [hdr] at hi; rw [n124, upd1_ne (by omega), upd1_ne (by omega), upd1_ne (by omega), upd1_ne (by omega)])
        · right
          refine ⟨K3, N3, ?_, ?_, hF⟩
          · rw [cpre, c1]
            show ((s_X10_takeNumber (fup K1 33 (k * 3).toNat kd) 0 9999).bind _) = _
            rw [c2]
            show ((s_X10_takeNumber (fup K2 33 (k * 3 + 1).toNat v) 0 363).bind _) = _
            rw [c3]
            rfl
          · rw [mpre, mk1, Option.bind_some, if_pos hkd2.1, mn1]
            show ((s_X12_takes N1 0 9999).bind _) = _
            rw [m2]
            show ((s_X12_takes N2 0 363).bind _) = _
            rw [m3]
            rfl
      · right
        refine ⟨K2, N2, ?_, ?_, hF⟩
        · rw [cpre, c1]
          show ((s_X10_takeNumber (fup K1 33 (k * 3).toNat kd) 0 9999).bind _) = _
          rw [c2]
          rfl
        · rw [mpre, mk1, Option.bind_some, if_pos hkd2.1, mn1]
          show ((s_X12_takes N1 0 9999).bind _) = _
          rw [m2]
          rfl
    · right
      refine ⟨K1, N1, ?_, ?_, hF⟩
      · rw [cpre, c1]
        rfl
      · rw [mpre, mk1, Option.bind_some, if_neg (by decide), mb1]
        rfl
  · rw [if_neg hlt] at hroom
    right
    refine ⟨Kf, Nf, ?_, ?_, f3⟩
    · unfold s_X3_readFee
      rw [hroom]
      rfl
    · unfold s_X12_readFee
      rw [hn16, if_neg (fun e => e (by omega)), f2]
      rfl
