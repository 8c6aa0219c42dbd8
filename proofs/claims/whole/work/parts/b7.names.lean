/-! ===== lines of a house: teach, pupils, tuners ===== -/
theorem HD_fs {l l' : List (Nat × Option Nat)} {K K' N N' : fM} (f : fSame l K K') (hn : fNo l [29, 30, 31, 32, 33, 34, 35, 36, 37, 38, 39, 40, 41] [(28, 13), (28, 14), (28, 15), (28, 16)]) (f' : fSame l' N N') (hn' : fNo l' [124, 126] []) (h : HD (dr K) N) : HD (dr K') N' :=
  HD_same h (fno_row f hn 29 (by decide)) (fno_row f hn 30 (by decide)) (fno_row f hn 31 (by decide)) (fno_row f hn 32 (by decide)) (fno_row f hn 33 (by decide)) (fno_row f hn 34 (by decide)) (fno_row f hn 35 (by decide)) (fno_row f hn 36 (by decide)) (fno_row f hn 37 (by decide)) (fno_row f hn 38 (by decide)) (fno_row f hn 39 (by decide)) (fno_row f hn 40 (by decide)) (fno_row f hn 41 (by decide)) (fno_fld f hn 28 13 (by decide)) (fno_fld f hn 28 14 (by decide)) (fno_fld f hn 28 15 (by decide)) (fno_fld f hn 28 16 (by decide)) (fno_row f' hn' 126 (by decide)) (fun i _ => by rw [fno_row f' hn' 124 (by decide)])
theorem fd_piano {K N : fM} (hH : HD (dr K) N) {w : List Nat} (hw : isW w) (h17 : N 122 17 = enc8 w) : ∃ v, s_X2_pianoNamed_28 K (enc5 w) = some v ∧ s_X12_find N 1 0 = some v ∧ -1 ≤ v ∧ v < K 28 13 := by
  obtain ⟨hWm, -, -, -, -, -, -, -, -, hm, hnm, -⟩ := hH
  have hc0 : (0 ≤ K 28 13 ∧ K 28 13 ≤ 16) := hWm.1
  obtain ⟨n, hn⟩ : ∃ n : Nat, K 28 13 = (n : Int) := ⟨(K 28 13).toNat, by omega⟩
  have hN : N 124 817 = (n : Int) := (hm.2.2.2.2.2.2.2.1 817 0 (by decide) (by decide) (by decide)).trans hn
  have hs : srch (K 39) (enc5 w) n = srch (fun i => N 126 (28 + i)) (N 122 17) n := by
    rw [h17]
    refine srch_eq n (fun i hi => ?_)
    have := hnm.1 (28 + (i : Int)) (i : Int) (by omega) (by omega) (by show (i : Int) < K 28 13; omega)
    rw [show (28 + (i : Int)).toNat = 28 + i by omega] at this
    exact wrel_eq this hw
  have hb := srch_b (K 39) (enc5 w) n
  refine ⟨srch (K 39) (enc5 w) n, ?_, ?_, hb.1, by omega⟩
  · unfold s_X2_pianoNamed_28
    rw [hn, c_pl39 (by omega)]
    rfl
  · rw [hs]
    exact m_find (h := 1) (s := 0) (o := 28) (n := n) (by decide) (by decide) (by decide) hN (by show n ≤ 16; omega)
theorem fd_tuner {K N : fM} (hH : HD (dr K) N) {w : List Nat} (hw : isW w) (h17 : N 122 17 = enc8 w) : ∃ v, s_X2_tunerNamed_28 K (enc5 w) = some v ∧ s_X12_find N 1 1 = some v ∧ -1 ≤ v ∧ v < K 28 14 := by
  obtain ⟨hWm, -, -, -, -, -, -, -, -, hm, hnm, -⟩ := hH
  have hc0 : (0 ≤ K 28 14 ∧ K 28 14 ≤ 6) := hWm.2.1
  obtain ⟨n, hn⟩ : ∃ n : Nat, K 28 14 = (n : Int) := ⟨(K 28 14).toNat, by omega⟩
  have hN : N 124 818 = (n : Int) := (hm.2.2.2.2.2.2.2.1 818 1 (by decide) (by decide) (by decide)).trans hn
  have hs : srch (K 40) (enc5 w) n = srch (fun i => N 126 (44 + i)) (N 122 17) n := by
    rw [h17]
    refine srch_eq n (fun i hi => ?_)
    have := hnm.2.1 (44 + (i : Int)) (i : Int) (by omega) (by omega) (by show (i : Int) < K 28 14; omega)
    rw [show (44 + (i : Int)).toNat = 44 + i by omega] at this
    exact wrel_eq this hw
  have hb := srch_b (K 40) (enc5 w) n
  refine ⟨srch (K 40) (enc5 w) n, ?_, ?_, hb.1, by omega⟩
  · unfold s_X2_tunerNamed_28
    rw [hn, c_pl40 (by omega)]
    rfl
  · rw [hs]
    exact m_find (h := 1) (s := 1) (o := 44) (n := n) (by decide) (by decide) (by decide) hN (by show n ≤ 6; omega)
theorem fd_pupil {K N : fM} (hH : HD (dr K) N) {w : List Nat} (hw : isW w) (h17 : N 122 17 = enc8 w) : ∃ v, s_X2_pupilNamed_28 K (enc5 w) = some v ∧ s_X12_find N 1 2 = some v ∧ -1 ≤ v ∧ v < K 28 15 := by
  obtain ⟨hWm, -, -, -, -, -, -, -, -, hm, hnm, -⟩ := hH
  have hc0 : (0 ≤ K 28 15 ∧ K 28 15 ≤ 6) := hWm.2.2.1
  obtain ⟨n, hn⟩ : ∃ n : Nat, K 28 15 = (n : Int) := ⟨(K 28 15).toNat, by omega⟩
  have hN : N 124 819 = (n : Int) := (hm.2.2.2.2.2.2.2.1 819 2 (by decide) (by decide) (by decide)).trans hn
  have hs : srch (K 41) (enc5 w) n = srch (fun i => N 126 (50 + i)) (N 122 17) n := by
    rw [h17]
    refine srch_eq n (fun i hi => ?_)
    have := hnm.2.2 (50 + (i : Int)) (i : Int) (by omega) (by omega) (by show (i : Int) < K 28 15; omega)
    rw [show (50 + (i : Int)).toNat = 50 + i by omega] at this
    exact wrel_eq this hw
  have hb := srch_b (K 41) (enc5 w) n
  refine ⟨srch (K 41) (enc5 w) n, ?_, ?_, hb.1, by omega⟩
  · unfold s_X2_pupilNamed_28
    rw [hn, c_pl41 (by omega)]
    rfl
  · rw [hs]
    exact m_find (h := 1) (s := 2) (o := 50) (n := n) (by decide) (by decide) (by decide) hN (by show n ≤ 6; omega)
theorem sim_new {K N : fM} {b : Nat → Int} {L lim p : Nat} (h : StB K N b L lim p) (hH : HD (dr K) N) : (∃ K', s_X3_takeNewName K = some (.inl (enc5 (tW b L p)), K') ∧ s_X12_fresh N = some (1, N) ∧ StA K' N b L lim p ∧ N 122 17 = enc8 (tW b L p) ∧ isW (tW b L p) ∧ fSame tkL K K' ∧ p < tNx b L lim p) ∨ (∃ K' N', s_X3_takeNewName K = some (.inr (), K') ∧ s_X12_fresh N = some (0, N') ∧ Ft K' N') := by
  rcases sim_name h with ⟨K1, c1, m1, hA1, g1, w1, f1, lt1⟩ | ⟨K1, N1, c1, m1, mb, hF⟩
  · have hH1 : HD (dr K1) N := HD_fs f1 (by decide) (fs_refl (l := [])) (by decide) hH
    obtain ⟨v0, a0, b0, -, -⟩ := fd_piano hH1 w1 g1
    obtain ⟨v1, a1, b1, -, -⟩ := fd_tuner hH1 w1 g1
    obtain ⟨v2, a2, b2, -, -⟩ := fd_pupil hH1 w1 g1
    obtain ⟨K2, N2, f2, f3, f4⟩ := sim_fail hA1 3 (by decide)
    have ct : s_X2_isNameTold_28 K1 (enc5 (tW b L p)) = some (if 0 ≤ v0 then 1 else if 0 ≤ v1 then 1 else if v2 < 0 then 0 else 1) := by
      unfold s_X2_isNameTold_28
      rw [a0, Option.bind_some, a1, Option.bind_some, a2, Option.bind_some]
      by_cases g0 : 0 ≤ v0
      · rw [if_pos g0, if_pos g0]
      · rw [if_neg g0, if_neg g0]
        by_cases g1 : 0 ≤ v1
        · rw [if_pos g1, if_pos g1]
        · rw [if_neg g1, if_neg g1]
          by_cases g2 : v2 < 0
          · rw [if_pos g2, if_pos g2]
          · rw [if_neg g2, if_neg g2]
    have j40 : s_X12_fresh_j40 N = some (0, N2) := by
      unfold s_X12_fresh_j40
      rw [f3]
      rfl
    have mt : s_X12_fresh N = if 0 ≤ v0 then some (0, N2) else if 0 ≤ v1 then some (0, N2) else if v2 < 0 then some (1, N) else some (0, N2) := by
      unfold s_X12_fresh
      rw [m1, Option.bind_some, if_pos (by decide), b0, Option.bind_some, b1, Option.bind_some, b2, Option.bind_some, j40]
    have cn : s_X3_takeNewName K = if (if 0 ≤ v0 then (1 : Int) else if 0 ≤ v1 then 1 else if v2 < 0 then 0 else 1) = 0 then some (.inl (enc5 (tW b L p)), K1) else some (.inr (), K2) := by
      unfold s_X3_takeNewName
      rw [c1]
      show ((s_X2_isNameTold_28 K1 (enc5 (tW b L p))).bind _) = _
      rw [ct, Option.bind_some]
      show (if (if 0 ≤ v0 then (1 : Int) else if 0 ≤ v1 then 1 else if v2 < 0 then 0 else 1) = 0 then some (Sum.inl (enc5 (tW b L p)), K1) else (s_X10_fail K1 3).bind _) = _
      rw [f2]
      rfl
    rw [mt, cn]
    by_cases g0 : 0 ≤ v0
    · right
      rw [if_pos g0, if_pos g0]
      exact ⟨K2, N2, rfl, rfl, f4⟩
    · rw [if_neg g0, if_neg g0]
      by_cases g2 : 0 ≤ v1
      · right
        rw [if_pos g2, if_pos g2]
        exact ⟨K2, N2, rfl, rfl, f4⟩
      · rw [if_neg g2, if_neg g2]
        by_cases g3 : v2 < 0
        · left
          rw [if_pos g3, if_pos g3]
          exact ⟨K1, rfl, rfl, hA1, g1, w1, f1, lt1⟩
        · right
          rw [if_neg g3, if_neg g3]
          exact ⟨K2, N2, rfl, rfl, f4⟩
  · right
    refine ⟨K1, N1, ?_, ?_, hF⟩
    · unfold s_X3_takeNewName
      rw [c1]
      rfl
    · unfold s_X12_fresh
      rw [m1, Option.bind_some, if_neg (by decide), mb]
      rfl
/-- a name that must stand already -/
theorem sim_old {K N : fM} {b : Nat → Int} {L lim p : Nat} (h : StB K N b L lim p) {nm : fM → Int → Option Int} {hs ss : Int} {B : Int} (hf : ∀ K', fSame tkL K K' → isW (tW b L p) → N 122 17 = enc8 (tW b L p) → ∃ v, nm K' (enc5 (tW b L p)) = some v ∧ s_X12_find N hs ss = some v ∧ -1 ≤ v ∧ v < B) : (∃ x v K' N', s_X10_takeName K = some (.inl x, K') ∧ nm K' x = some v ∧ 0 ≤ v ∧ v < B ∧ s_X12_takesName N hs ss = some (1, N') ∧ N' 122 18 = v ∧ StB K' N' b L lim (tNx b L lim p) ∧ fSame tkL K K' ∧ fSame gtL N N' ∧ p < tNx b L lim p) ∨ (∃ K' N', (s_X10_takeName K = some (.inr (), K') ∨ ∃ x v K1, s_X10_takeName K = some (.inl x, K1) ∧ nm K1 x = some v ∧ v < 0 ∧ s_X10_fail K1 3 = some (.inr (), K')) ∧ s_X12_takesName N hs ss = some (0, N') ∧ Ft K' N') := by
  rcases sim_name h with ⟨K1, c1, m1, hA1, g1, w1, f1, lt1⟩ | ⟨K1, N1, c1, m1, mb, hF⟩
  · obtain ⟨v, v1, v2, v3, v4⟩ := hf K1 f1 w1 g1
    have hA2 : StA K1 (fup N 122 18 v) b L lim p := StA_m (fs_up1 N 122 18 v) (by decide) hA1
    by_cases g : 0 ≤ v
    · left
      obtain ⟨N3, m3, fn3, hB3⟩ := sim_next hA2
      refine ⟨_, v, K1, N3, c1, v1, g, v4, ?_, ?_, hB3, f1, fs_trans (fs_up fs_refl (.inr (by decide))) (fs_mono (by decide) fn3), lt1⟩
      · unfold s_X12_takesName
        rw [m1, Option.bind_some, if_pos (by decide), v2, Option.bind_some, if_pos g, m3]
        rfl
      · rw [fs_at fn3 122 18 (by decide)]
        rfl
    · right
      obtain ⟨K3, N3, f3, f4, f5⟩ := sim_fail hA2 3 (by decide)
      refine ⟨K3, N3, .inr ⟨_, v, K1, c1, v1, by omega, f3⟩, ?_, f5⟩
      unfold s_X12_takesName
      rw [m1, Option.bind_some, if_pos (by decide), v2, Option.bind_some, if_neg g, f4]
      rfl
  · right
    refine ⟨K1, N1, .inl c1, ?_, hF⟩
    unfold s_X12_takesName
    rw [m1, Option.bind_some, if_neg (by decide), mb]
    rfl
theorem ln_teach {K N : fM} {b : Nat → Int} {L lim p : Nat} (hA : StA K N b L lim p) (hH : HD (dr K) N) (hT : Tb K N) (hk : kx b L lim p = 12) : LnO (s_X3_readTeach K) (s_X12_teach N) K N b L lim p := by
  have h2 := kx_two hA.2.2.2.2.1 (show 12 < 30 by omega) hk
  have hH0 := hH
  obtain ⟨hWm, -, -, -, -, -, -, -, -, -, -, -⟩ := hH
  have hc1 : (0 ≤ K 28 14 ∧ K 28 14 ≤ 6) := hWm.2.1
  have hc2 : (0 ≤ K 28 15 ∧ K 28 15 ≤ 6) := hWm.2.2.1
  obtain ⟨N0, m0, fn0, hB0⟩ := sim_next hA
  have mpre : s_X12_teach N = (s_X12_takesName N0 1 1).bind fun y7 => if ¬ y7.1 = 0 then (s_X12_takesName y7.2 1 2).bind (fun y23 => if ¬ y23.1 = 0 then (s_X12_takes y23.2 0 99).bind (fun y40 => if ¬ y40.1 = 0 then (if fin (6 * (y7.2 122 18)) ∧ fin (1254 + (6 * (y7.2 122 18))) ∧ fin ((1254 + (6 * (y7.2 122 18))) + (y23.2 122 18)) ∧ (0 ≤ ((1254 + (6 * (y7.2 122 18))) + (y23.2 122 18)) ∧ ((1254 + (6 * (y7.2 122 18))) + (y23.2 122 18)) < 1290) then some (1, (fup y40.2 124 ((1254 + (6 * (y7.2 122 18))) + (y23.2 122 18)).toNat (y40.2 122 18))) else none) else some (0, y40.2)) else some (0, y23.2)) else some (0, y7.2) := by
    unfold s_X12_teach
    rw [m0]
    rfl
  rcases sim_old hB0 (nm := s_X2_tunerNamed_28) (hs := 1) (ss := 1) (B := K 28 14) (fun K' f hw h17 => by
      have := fd_tuner (HD_fs f (by decide) fn0 (by decide) hH0) hw h17
      rw [fs_at f 28 14 (by decide)] at this
      exact this) with ⟨x1, t, K1, N1, c1, ct1, t0, t1, m1, g1, hB1, fk1, fn1, lt1⟩ | ⟨K1, N1, c1, m1, hF⟩
  · rcases sim_old hB1 (nm := s_X2_pupilNamed_28) (hs := 1) (ss := 2) (B := K 28 15) (fun K' f hw h17 => by
        have := fd_pupil (HD_fs (fs_trans (fs_mono (l' := [(1, some 4), (1, some 5), (1, some 6), (1, some 7), (1, some 8)]) (by decide) fk1) (fs_mono (by decide) f)) (by decide) (fs_trans (fs_mono (l' := [(122, some 4), (122, some 11), (122, some 12), (122, some 13), (122, some 14), (122, some 17), (122, some 18)]) (by decide) fn0) (fs_mono (by decide) fn1)) (by decide) hH0) hw h17
        rw [fs_at f 28 15 (by decide), fs_at fk1 28 15 (by decide)] at this
        exact this) with ⟨x2, u, K2, N2, c2, ct2, u0, u1, m2, g2, hB2, fk2, fn2, lt2⟩ | ⟨K2, N2, c2, m2, hF⟩
    · have cpre : s_X3_readTeach K = s_X3_readTeach_j54 K2 t u := by
        unfold s_X3_readTeach
        rw [c1]
        show ((s_X2_tunerNamed_28 K1 x1).bind _) = _
        rw [ct1, Option.bind_some, if_pos t0]
        show s_X3_readTeach_j27 K1 t = _
        unfold s_X3_readTeach_j27
        rw [c2]
        show ((s_X2_pupilNamed_28 K2 x2).bind _) = _
        rw [ct2, Option.bind_some, if_pos u0]
      rcases sim_num hB2 0 99 with ⟨K3, N3, c3, m3, hB3, g3, r3, fk3, fn3, lt3⟩ | ⟨K3, N3, c3, m3, hF⟩
      · left
        obtain ⟨v, hvd⟩ : ∃ v, v = tV b L (tNx b L lim (tNx b L lim (tNx b L lim p))) := ⟨_, rfl⟩
        rw [← hvd] at c3 g3 r3
        have fk4 : fSame [(38, none)] K3 (fup K3 38 (t * 6 + u).toNat v) := fs_up fs_refl (.inl (by decide))
        have fn4 : fSame [(124, none)] N3 (fup N3 124 (1254 + 6 * t + u).toNat v) := fs_up fs_refl (.inl (by decide))
        obtain ⟨K6, c6, fk6, hA6⟩ := sim_take (StB_m fn4 (by decide) (StB_c fk4 (by decide) hB3))
        have fK : fSame [(1, some 4), (1, some 5), (1, some 6), (1, some 7), (1, some 8), (38, none)] K K6 := fs_trans (fs_mono (by decide) fk1) (fs_trans (fs_mono (by decide) fk2) (fs_trans (fs_mono (by decide) fk3) (fs_trans (fs_mono (by decide) fk4) (fs_mono (by decide) fk6))))
        have fN : fSame [(122, some 4), (122, some 11), (122, some 12), (122, some 13), (122, some 14), (122, some 17), (122, some 18), (124, none)] N (fup N3 124 (1254 + 6 * t + u).toNat v) := fs_trans (fs_mono (by decide) fn0) (fs_trans (fs_mono (by decide) fn1) (fs_trans (fs_mono (by decide) fn2) (fs_trans (fs_mono (by decide) fn3) (fs_mono (by decide) fn4))))
        have k38 : K6 38 = upd1 (K 38) (t * 6 + u).toNat v := by rw [fs_row fk6 38 (by decide), fup_eq, fs_row fk3 38 (by decide), fs_row fk2 38 (by decide), fs_row fk1 38 (by decide)]
        have n3 : N3 124 = N 124 := by rw [fs_row fn3 124 (by decide), fs_row fn2 124 (by decide), fs_row fn1 124 (by decide), fs_row fn0 124 (by decide)]
        refine ⟨K6, fup N3 124 (1254 + 6 * t + u).toNat v, _, ?_, ?_, hA6, by omega, HD_teach hH0 (t := t) (u := u) (v := v) (by omega) (by omega) r3 k38 (by rw [fup_eq, upd1_at]) (fs_row fK 29 (by decide)) (fs_row fK 30 (by decide)) (fs_row fK 31 (by decide)) (fs_row fK 32 (by decide)) (fs_row fK 33 (by decide)) (fs_row fK 34 (by decide)) (fs_row fK 35 (by decide)) (fs_row fK 36 (by decide)) (fs_row fK 37 (by decide)) (fs_row fK 39 (by decide)) (fs_row fK 40 (by decide)) (fs_row fK 41 (by decide)) (fs_at fK 28 13 (by decide)) (fs_at fK 28 14 (by decide)) (fs_at fK 28 15 (by decide)) (fs_at fK 28 16 (by decide)) (fs_row fN 126 (by decide)) (fun i hi => by rw [fup_eq, upd1_ne (by omega), n3]), Tb_fs fK (by decide) fN (by decide) hT, fs_at fK 28 17 (by decide), fs_at fN 122 20 (by decide)⟩
        · rw [cpre]
          unfold s_X3_readTeach_j54
          rw [if_pos (by unfold fin; omega), c3]
          show (if (0 ≤ t * 6 + u ∧ t * 6 + u < 36) then (s_X10_take (fup K3 38 (t * 6 + u).toNat v)).bind _ else none) = _
          rw [if_pos (by omega), c6]
          rfl
        · rw [mpre, m1]
          show ((s_X12_takesName N1 1 2).bind _) = _
          rw [m2]
          show ((s_X12_takes N2 0 99).bind _) = _
          rw [m3]
          show (if fin (6 * (N1 122 18)) ∧ fin (1254 + (6 * (N1 122 18))) ∧ fin ((1254 + (6 * (N1 122 18))) + (N2 122 18)) ∧ (0 ≤ ((1254 + (6 * (N1 122 18))) + (N2 122 18)) ∧ ((1254 + (6 * (N1 122 18))) + (N2 122 18)) < 1290) then some ((1 : Int), (fup N3 124 ((1254 + (6 * (N1 122 18))) + (N2 122 18)).toNat (N3 122 18))) else none) = _
          rw [g1, g2, g3, if_pos (by unfold fin; omega)]
      · right
        refine ⟨K3, N3, ?_, ?_, hF⟩
        · rw [cpre]
          unfold s_X3_readTeach_j54
          rw [if_pos (by unfold fin; omega), c3]
          rfl
        · rw [mpre, m1]
          show ((s_X12_takesName N1 1 2).bind _) = _
          rw [m2]
          show ((s_X12_takes N2 0 99).bind _) = _
          rw [m3]
          rfl
    · right
      refine ⟨K2, N2, ?_, ?_, hF⟩
      · unfold s_X3_readTeach
        rw [c1]
        show ((s_X2_tunerNamed_28 K1 x1).bind _) = _
        rw [ct1, Option.bind_some, if_pos t0]
        show s_X3_readTeach_j27 K1 t = _
        unfold s_X3_readTeach_j27
        rcases c2 with c2 | ⟨x2, u, K3, c2, c3, u0, c4⟩
        · rw [c2]
          rfl
        · rw [c2]
          show ((s_X2_pupilNamed_28 K3 x2).bind _) = _
          rw [c3, Option.bind_some, if_neg (by omega)]
          show ((s_X10_fail K3 3).bind _) = _
          rw [c4]
          rfl
      · rw [mpre, m1]
        show ((s_X12_takesName N1 1 2).bind _) = _
        rw [m2]
        rfl
  · right
    refine ⟨K1, N1, ?_, ?_, hF⟩
    · unfold s_X3_readTeach
      rcases c1 with c1 | ⟨x1, t, K3, c1, c3, t0, c4⟩
      · rw [c1]
        rfl
      · rw [c1]
        show ((s_X2_tunerNamed_28 K3 x1).bind _) = _
        rw [c3, Option.bind_some, if_neg (by omega)]
        show ((s_X10_fail K3 3).bind _) = _
        rw [c4]
        rfl
    · rw [mpre, m1]
      rfl
noncomputable def cPupil (K : fM) : Option ((Unit ⊕ Unit) × fM) := (s_X3_mustHaveRoom K (K 28 15) 6).bind fun y103 => fel y103.1 (fun w103 => (s_X3_takeNewName y103.2).bind fun y121 => fel y121.1 (fun w121 => if (0 ≤ (y103.2 28 15) ∧ (y103.2 28 15) < 6) ∧ fin ((y121.2 28 15) + 1) then (s_X10_take (fup (fup y121.2 41 (y103.2 28 15).toNat w121) 28 15 ((y121.2 28 15) + 1))).bind (fun y142 => some (.inl (), y142.2)) else none) (some (.inr (), y121.2))) (some (.inr (), y103.2))
theorem ln_pupil {K N : fM} {b : Nat → Int} {L lim p : Nat} (hA : StA K N b L lim p) (hH : HD (dr K) N) (hT : Tb K N) (hk : kx b L lim p = 11) : LnO (cPupil K) (s_X12_pupil N) K N b L lim p := by
  have h2 := kx_two hA.2.2.2.2.1 (show 11 < 30 by omega) hk
  have hH0 := hH
  obtain ⟨hWm, -, -, -, -, -, -, -, -, hm, -, -⟩ := hH
  have hc0 : (0 ≤ K 28 15 ∧ K 28 15 ≤ 6) := hWm.2.2.1
  have hn15 : N 124 819 = K 28 15 := hm.2.2.2.2.2.2.2.1 819 2 (by decide) (by decide) (by decide)
  obtain ⟨Kf, Nf, f1, f2, f3⟩ := sim_fail hA 4 (by decide)
  have hroom := c_room (n := K 28 15) (m := 6) f1
  by_cases hlt : K 28 15 < 6
  · rw [if_pos hlt] at hroom
    obtain ⟨k, hkd⟩ : ∃ k, k = K 28 15 := ⟨_, rfl⟩
    rw [← hkd] at hroom hc0 hn15 hlt
    obtain ⟨N0, m0, fn0, hB0⟩ := sim_next hA
    have hH1 : HD (dr K) N0 := HD_fs (fs_refl (l := [])) (by decide) fn0 (by decide) hH0
    have cpre : cPupil K = (s_X3_takeNewName K).bind fun y121 => fel y121.1 (fun w121 => if (0 ≤ k ∧ k < 6) ∧ fin ((y121.2 28 15) + 1) then (s_X10_take (fup (fup y121.2 41 k.toNat w121) 28 15 ((y121.2 28 15) + 1))).bind (fun y142 => some (.inl (), y142.2)) else none) (some (.inr (), y121.2)) := by
      unfold cPupil
      rw [← hkd, hroom]
      show ((s_X3_takeNewName K).bind fun y121 => fel y121.1 (fun w121 => if (0 ≤ K 28 15 ∧ K 28 15 < 6) ∧ fin ((y121.2 28 15) + 1) then (s_X10_take (fup (fup y121.2 41 (K 28 15).toNat w121) 28 15 ((y121.2 28 15) + 1))).bind (fun y142 => some (Sum.inl (), y142.2)) else none) (some (Sum.inr (), y121.2))) = _
      rw [← hkd]
    rcases sim_new hB0 hH1 with ⟨K1, c1, m1, hA1, g1, w1, fk1, lt1⟩ | ⟨K1, N1, c1, m1, hF⟩
    · left
      obtain ⟨x, hxd⟩ : ∃ x, x = enc5 (tW b L (tNx b L lim p)) := ⟨_, rfl⟩
      obtain ⟨y, hyd⟩ : ∃ y, y = enc8 (tW b L (tNx b L lim p)) := ⟨_, rfl⟩
      rw [← hxd] at c1
      rw [← hyd] at g1
      have k15 : K1 28 15 = k := by rw [fs_at fk1 28 15 (by decide), hkd]
      have n0 : N0 124 = N 124 := fs_row fn0 124 (by decide)
      have n0k : N0 124 819 = k := by rw [n0, hn15]
      obtain ⟨K2, hK2⟩ : ∃ K2, K2 = fup (fup K1 41 k.toNat x) 28 15 (k + 1) := ⟨_, rfl⟩
      obtain ⟨N2, hN2⟩ : ∃ N2, N2 = fup (fup N0 126 (50 + k).toNat y) 124 819 (k + 1) := ⟨_, rfl⟩
      have fk2 : fSame [(41, none), (28, some 15)] K1 K2 := by rw [hK2]; exact fs_up (fs_up fs_refl (.inl (by decide))) (.inr (by decide))
      have fn2 : fSame [(124, none), (126, none)] N0 N2 := by rw [hN2]; exact fs_up (fs_up fs_refl (.inl (by decide))) (.inl (by decide))
      obtain ⟨N3, m3, fn3, hB3⟩ := sim_next (StA_m fn2 (by decide) (StA_c fk2 (by decide) hA1))
      obtain ⟨K6, c6, fk6, hA6⟩ := sim_take hB3
      have fK : fSame [(1, some 4), (1, some 5), (1, some 6), (1, some 7), (1, some 8), (41, none), (28, some 15)] K K6 := fs_trans (fs_mono (by decide) fk1) (fs_trans (fs_mono (by decide) fk2) (fs_mono (by decide) fk6))
      have fN : fSame [(122, some 4), (122, some 11), (122, some 12), (122, some 13), (122, some 14), (122, some 17), (122, some 18), (124, none), (126, none)] N N3 := fs_trans (fs_mono (by decide) fn0) (fs_trans (fs_mono (by decide) fn2) (fs_mono (by decide) fn3))
      have hdr : dr K 4 15 = k := hkd.symm
      refine ⟨K6, N3, _, ?_, ?_, hA6, by omega, HD_pupil hH0 (x := x) (y := y) (by rw [hdr]; exact hlt) ⟨_, w1, hxd, hyd⟩ (by rw [hdr]; show K6 41 = upd1 (K 41) k.toNat x; rw [fs_row fk6 41 (by decide), hK2, fup_ne (by decide), fup_eq, fs_row fk1 41 (by decide)]) (by rw [hdr]; show K6 28 15 = k + 1; rw [fs_at fk6 28 15 (by decide), hK2]; rfl) (by rw [hdr, fs_row fn3 124 (by decide), hN2, fup_eq, upd1_at]) (by rw [hdr, fs_row fn3 126 (by decide), hN2, fup_ne (by decide), fup_eq, fs_row fn0 126 (by decide)]) (fs_row fK 29 (by decide)) (fs_row fK 30 (by decide)) (fs_row fK 31 (by decide)) (fs_row fK 32 (by decide)) (fs_row fK 33 (by decide)) (fs_row fK 34 (by decide)) (fs_row fK 35 (by decide)) (fs_row fK 36 (by decide)) (fs_row fK 37 (by decide)) (fs_row fK 38 (by decide)) (fs_row fK 39 (by decide)) (fs_row fK 40 (by decide)) (fs_at fK 28 13 (by decide)) (fs_at fK 28 14 (by decide)) (fs_at fK 28 16 (by decide)) (fun i hi => by rw [fs_row fn3 124 (by decide), hN2, fup_eq, upd1_ne hi, fup_ne (by decide), n0]), Tb_fs fK (by decide) fN (by decide) hT, fs_at fK 28 17 (by decide), fs_at fN 122 20 (by decide)⟩
      · rw [cpre, c1]
        show (if (0 ≤ k ∧ k < 6) ∧ fin (K1 28 15 + 1) then (s_X10_take (fup (fup K1 41 k.toNat x) 28 15 (K1 28 15 + 1))).bind _ else none) = _
        rw [k15, if_pos (by unfold fin; omega), ← hK2, c6]
        rfl
      · unfold s_X12_pupil
        rw [hn15, if_pos (show ¬ k = 6 by omega), m0]
        show ((s_X12_fresh N0).bind _) = _
        rw [m1]
        show (if fin (50 + k) ∧ (0 ≤ 50 + k ∧ 50 + k < 56) ∧ fin (N0 124 819 + 1) then (s_X12_next (fup (fup N0 126 (50 + k).toNat (N0 122 17)) 124 819 (N0 124 819 + 1))).bind _ else none) = _
        rw [n0k, g1, if_pos (by unfold fin; omega), ← hN2, m3]
        rfl
    · right
      refine ⟨K1, N1, ?_, ?_, hF⟩
      · rw [cpre, c1]
        rfl
      · unfold s_X12_pupil
        rw [hn15, if_pos (show ¬ k = 6 by omega), m0]
        show ((s_X12_fresh N0).bind _) = _
        rw [m1]
        rfl
  · rw [if_neg hlt] at hroom
    right
    refine ⟨Kf, Nf, ?_, ?_, f3⟩
    · unfold cPupil
      rw [hroom]
      rfl
    · unfold s_X12_pupil
      rw [hn15, if_neg (fun e => e (by omega)), f2]
      rfl
