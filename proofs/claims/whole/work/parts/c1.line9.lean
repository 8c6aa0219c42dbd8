/-! ===== lines of a house: a piano ===== -/
theorem fill35 {k : Int} (hk : 0 ≤ k ∧ k < 16) : ∀ (j i : Nat), i + j = 12 → ∀ M : fM, ∃ M', s_X2_addPiano_28_l25 k ((i : Int), M) = some M' ∧ fSame [(35, none)] M M' ∧ (∀ q : Nat, (q : Int) < k * 12 + i → M' 35 q = M 35 q) ∧ (∀ n : Int, (i : Int) ≤ n → n < 12 → M' 35 (k * 12 + n).toNat = 1)
  | 0, i, hi, M => by
    have : i = 12 := by omega
    subst this
    refine ⟨M, ?_, fs_refl, fun q _ => rfl, fun n n0 n1 => by omega⟩
    unfold s_X2_addPiano_28_l25
    rw [fLp_eq]
    rfl
  | j + 1, i, hi, M => by
    have hst : s_X2_addPiano_28_b25 M k (i : Int) = some (.inl ((i : Int) + 1, fup M 35 (k * 12 + (i : Int)).toNat 1)) := by
      unfold s_X2_addPiano_28_b25
      rw [if_neg (by omega), if_pos (by unfold fin; omega)]
    have hx : s_X2_addPiano_28_l25 k ((i : Int), M) = s_X2_addPiano_28_l25 k (((i + 1 : Nat) : Int), fup M 35 (k * 12 + (i : Int)).toNat 1) := by
      unfold s_X2_addPiano_28_l25
      exact fLp_stp (b := fun s : Int × fM => s_X2_addPiano_28_b25 s.2 k s.1) hst
    obtain ⟨M', q1, q2, q3, q4⟩ := fill35 hk j (i + 1) (by omega) (fup M 35 (k * 12 + (i : Int)).toNat 1)
    refine ⟨M', hx.trans q1, fs_trans (fs_up fs_refl (.inl (by decide))) q2, fun q hq => ?_, fun n n0 n1 => ?_⟩
    · rw [q3 q (by omega), fup_eq, upd1_ne (by omega)]
    · by_cases e : n = (i : Int)
      · rw [q3 _ (by omega), fup_eq, e, upd1_at]
      · exact q4 n (by omega) n1
theorem fill36 {k : Int} (hk : 0 ≤ k ∧ k < 16) : ∀ (j i : Nat), i + j = 4 → ∀ M : fM, ∃ M', s_X2_addPiano_28_l54 k ((i : Int), M) = some M' ∧ fSame [(36, none)] M M' ∧ (∀ q : Nat, (q : Int) < k * 4 + i → M' 36 q = M 36 q) ∧ (∀ n : Int, (i : Int) ≤ n → n < 4 → M' 36 (k * 4 + n).toNat = 0)
  | 0, i, hi, M => by
    have : i = 4 := by omega
    subst this
    refine ⟨M, ?_, fs_refl, fun q _ => rfl, fun n n0 n1 => by omega⟩
    unfold s_X2_addPiano_28_l54
    rw [fLp_eq]
    rfl
  | j + 1, i, hi, M => by
    have hst : s_X2_addPiano_28_b54 M k (i : Int) = some (.inl ((i : Int) + 1, fup M 36 (k * 4 + (i : Int)).toNat 0)) := by
      unfold s_X2_addPiano_28_b54
      rw [if_neg (by omega), if_pos (by unfold fin; omega)]
    have hx : s_X2_addPiano_28_l54 k ((i : Int), M) = s_X2_addPiano_28_l54 k (((i + 1 : Nat) : Int), fup M 36 (k * 4 + (i : Int)).toNat 0) := by
      unfold s_X2_addPiano_28_l54
      exact fLp_stp (b := fun s : Int × fM => s_X2_addPiano_28_b54 s.2 k s.1) hst
    obtain ⟨M', q1, q2, q3, q4⟩ := fill36 hk j (i + 1) (by omega) (fup M 36 (k * 4 + (i : Int)).toNat 0)
    refine ⟨M', hx.trans q1, fs_trans (fs_up fs_refl (.inl (by decide))) q2, fun q hq => ?_, fun n n0 n1 => ?_⟩
    · rw [q3 q (by omega), fup_eq, upd1_ne (by omega)]
    · by_cases e : n = (i : Int)
      · rw [q3 _ (by omega), fup_eq, e, upd1_at]
      · exact q4 n (by omega) n1
theorem fup_self {M : fM} {r i : Nat} {v : Int} (h : M r i = v) : fup M r i v = M := by
  funext a j
  by_cases e : a = r
  · subst e
    rw [fup_eq]
    by_cases e2 : j = i
    · subst e2
      rw [upd1_at, h]
    · rw [upd1_ne e2]
  · rw [fup_ne e]
theorem c_addP {K : fM} {x k : Int} (hk0 : K 28 13 = k) (hk : 0 ≤ k ∧ k < 16) : ∃ K', s_X2_addPiano_28 K x = some (k, K') ∧ fSame [(34, none), (35, none), (36, none), (39, none), (28, some 13)] K K' ∧ K' 28 13 = k + 1 ∧ K' 39 = upd1 (K 39) k.toNat x ∧ (∀ i : Nat, (i : Int) < k * 10 → K' 34 i = K 34 i) ∧ (∀ i : Nat, (i : Int) < k * 12 → K' 35 i = K 35 i) ∧ (∀ i : Nat, (i : Int) < k * 4 → K' 36 i = K 36 i) ∧ K' 34 (k * 10 + 7).toNat = 0 ∧ K' 34 (k * 10 + 8).toNat = 0 ∧ K' 34 (k * 10 + 9).toNat = 1440 ∧ (∀ n : Int, 0 ≤ n → n < 12 → K' 35 (k * 12 + n).toNat = 1) ∧ (∀ g : Int, 0 ≤ g → g < 4 → K' 36 (k * 4 + g).toNat = 0) := by
  obtain ⟨M1, a1, a2, a3, a4⟩ := fill35 hk 12 0 rfl (fup (fup K 39 k.toNat x) 28 13 (k + 1))
  obtain ⟨M2, b1, b2, b3, b4⟩ := fill36 hk 4 0 rfl M1
  have a1' : s_X2_addPiano_28_l25 k (0, fup (fup K 39 k.toNat x) 28 13 (k + 1)) = some M1 := a1
  have b1' : s_X2_addPiano_28_l54 k (0, M1) = some M2 := b1
  have fK : fSame [(34, none), (35, none), (36, none), (39, none), (28, some 13)] K M2 := fs_trans (fs_up (fs_up fs_refl (.inl (by decide))) (.inr (by decide))) (fs_trans (fs_mono (by decide) a2) (fs_mono (by decide) b2))
  refine ⟨fup (fup (fup M2 34 (k * 10 + 7).toNat 0) 34 (k * 10 + 8).toNat 0) 34 (k * 10 + 9).toNat 1440, ?_, fs_up (fs_up (fs_up fK (.inl (by decide))) (.inl (by decide))) (.inl (by decide)), ?_, ?_, fun i hi => ?_, fun i hi => ?_, fun i hi => ?_, ?_, ?_, ?_, fun n n0 n1 => ?_, fun g g0 g1 => ?_⟩
  · unfold s_X2_addPiano_28
    rw [hk0, if_pos (by unfold fin; omega), a1', Option.bind_some, b1', Option.bind_some, c_tell hk (by decide), Option.bind_some, c_tell hk (by decide), Option.bind_some, c_tell hk (by decide)]
    rfl
  · rw [fup_ne (by decide), fup_ne (by decide), fup_ne (by decide), fs_at b2 28 13 (by decide), fs_at a2 28 13 (by decide), fup_eq, upd1_at]
  · rw [fup_ne (by decide), fup_ne (by decide), fup_ne (by decide), fs_row b2 39 (by decide), fs_row a2 39 (by decide), fup_ne (by decide), fup_eq]
  · rw [fup_eq, upd1_ne (by omega), fup_eq, upd1_ne (by omega), fup_eq, upd1_ne (by omega), fs_row b2 34 (by decide), fs_row a2 34 (by decide), fup_ne (by decide), fup_ne (by decide)]
  · rw [fup_ne (by decide), fup_ne (by decide), fup_ne (by decide), fs_row b2 35 (by decide), a3 i (by omega), fup_ne (by decide), fup_ne (by decide)]
  · rw [fup_ne (by decide), fup_ne (by decide), fup_ne (by decide), b3 i (by omega), fs_row a2 36 (by decide), fup_ne (by decide), fup_ne (by decide)]
  · rw [fup_eq, upd1_ne (by omega), fup_eq, upd1_ne (by omega), fup_eq, upd1_at]
  · rw [fup_eq, upd1_ne (by omega), fup_eq, upd1_at]
  · rw [fup_eq, upd1_at]
  · rw [fup_ne (by decide), fup_ne (by decide), fup_ne (by decide), fs_row b2 35 (by decide)]
    exact a4 n n0 n1
  · rw [fup_ne (by decide), fup_ne (by decide), fup_ne (by decide)]
    exact b4 g g0 g1
noncomputable def cPiano (K : fM) : Option ((Unit ⊕ Unit) × fM) := (s_X3_mustHaveRoom K (K 28 13) 16).bind fun y42 => fel y42.1 (fun w42 => (s_X3_takeNewName y42.2).bind fun y47 => fel y47.1 (fun w47 => (s_X3_readPiano y47.2 w47).bind fun y50 => fel y50.1 (fun w50 => if fin ((y50.2 28 13) - 1) then (s_X3_readMore y50.2 ((y50.2 28 13) - 1)).bind (fun y63 => fel y63.1 (fun w63 => some (.inl (), y63.2)) (some (.inr (), y63.2))) else none) (some (.inr (), y50.2))) (some (.inr (), y47.2))) (some (.inr (), y42.2))
theorem ln_piano {K N : fM} {b : Nat → Int} {L lim p : Nat} (hA : StA K N b L lim p) (hH : HD (dr K) N) (hT : Tb K N) (hk : kx b L lim p = 9) : LnO (cPiano K) (s_X12_readPiano N) K N b L lim p := by
  have h2 := kx_two hA.2.2.2.2.1 (show 9 < 30 by omega) hk
  have hH0 := hH
  obtain ⟨hWm, -, -, -, -, -, -, -, -, hm, -, hpri⟩ := hH
  have hc0 : (0 ≤ K 28 13 ∧ K 28 13 ≤ 16) := hWm.1
  have hn13 : N 124 817 = K 28 13 := hm.2.2.2.2.2.2.2.1 817 0 (by decide) (by decide) (by decide)
  obtain ⟨Kf, Nf, f1, f2, f3⟩ := sim_fail hA 4 (by decide)
  have hroom := c_room (n := K 28 13) (m := 16) f1
  by_cases hlt : K 28 13 < 16
  · rw [if_pos hlt] at hroom
    obtain ⟨k, hkd⟩ : ∃ k, k = K 28 13 := ⟨_, rfl⟩
    rw [← hkd] at hroom hc0 hn13 hlt
    have hk' : 0 ≤ k ∧ k < 16 := ⟨hc0.1, hlt⟩
    obtain ⟨pr12, pr4, pr7, pr8⟩ := hpri.1 k (by show K 28 13 ≤ k; omega) hlt
    obtain ⟨N0, m0, fn0, hB0⟩ := sim_next hA
    have hH1 : HD (dr K) N0 := HD_fs (fs_refl (l := [])) (by decide) fn0 (by decide) hH0
    have cpre : cPiano K = (s_X3_takeNewName K).bind fun y47 => fel y47.1 (fun w47 => (s_X3_readPiano y47.2 w47).bind fun y50 => fel y50.1 (fun w50 => if fin ((y50.2 28 13) - 1) then (s_X3_readMore y50.2 ((y50.2 28 13) - 1)).bind (fun y63 => fel y63.1 (fun w63 => some (.inl (), y63.2)) (some (.inr (), y63.2))) else none) (some (.inr (), y50.2))) (some (.inr (), y47.2)) := by
      unfold cPiano
      rw [← hkd, hroom, Option.bind_some, fel_l]
    have e1 : fin (10 * k) ∧ fin (820 + (10 * k)) ∧ (0 ≤ (820 + (10 * k)) ∧ (820 + (10 * k)) < 1290) := by unfold fin; omega
    have e2 : fin ((820 + (10 * k)) + 9) ∧ (0 ≤ ((820 + (10 * k)) + 9) ∧ ((820 + (10 * k)) + 9) < 1290) := by unfold fin; omega
    have mpre : s_X12_readPiano N = (s_X12_fresh N0).bind fun y26 => if ¬ y26.1 = 0 then (s_X12_next y26.2).bind (fun y40 => (s_X12_kind y40.2).bind fun y44 => if 0 ≤ y44 then (s_X12_next y40.2).bind (fun y61 => (s_X12_readPiano_l86 k (y26.2 122 17) (820 + (10 * k)) (1, (fup y61.2 124 (820 + (10 * k)).toNat y44))).bind fun e86 => Sum.elim (fun x86 => (s_X12_more (fup x86 124 ((820 + (10 * k)) + 9).toNat 1440) k).bind fun y205 => if ¬ y205.1 = 0 then (if fin (28 + k) ∧ (0 ≤ (28 + k) ∧ (28 + k) < 56) ∧ fin ((y205.2 124 817) + 1) then some (1, (fup (fup y205.2 126 (28 + k).toNat (y26.2 122 17)) 124 817 ((y205.2 124 817) + 1))) else none) else some (0, y205.2)) (fun v86 => some v86) e86) else (s_X12_bad y40.2 1).bind (fun y56 => if b01 y56.1 then some (y56.1, y56.2) else none)) else some (0, y26.2) := by
      unfold s_X12_readPiano
      rw [hn13, if_pos (show ¬ k = 16 by omega), m0, Option.bind_some]
      simp only [if_pos e1, if_pos e2]
    rcases sim_new hB0 hH1 with ⟨K1, c1, m1, hA1, g1, w1, fk1, lt1⟩ | ⟨K1, N1, c1, m1, hF⟩
    · obtain ⟨x, hxd⟩ : ∃ x, x = enc5 (tW b L (tNx b L lim p)) := ⟨_, rfl⟩
      obtain ⟨y, hyd⟩ : ∃ y, y = enc8 (tW b L (tNx b L lim p)) := ⟨_, rfl⟩
      rw [← hxd] at c1
      rw [← hyd] at g1
      have k13 : K1 28 13 = k := by rw [fs_at fk1 28 13 (by decide), hkd]
      obtain ⟨K2, cA, fkA, kA13, kA39, o34, o35, o36, z7, z8, z9, z35, z36⟩ := c_addP (x := x) k13 hk'
      obtain ⟨N1, m1n, fn1, hB1⟩ := sim_next (StA_c fkA (by decide) hA1)
      have crp : s_X3_readPiano K1 x = (s_X10_takeKind K2).bind fun y19 => fel y19.1 (fun w19 => (s_X2_tell_28 y19.2 k 0 w19).bind fun y22 => rP k 6 1 y22.2) (some (.inr (), y19.2)) := by
        unfold s_X3_readPiano
        rw [cA]
        rfl
      rcases sim_kind hB1 with ⟨kd, K3, N3, hkd3, c3, m3k, m3n, hB3, fk3, fn3, lt3⟩ | ⟨K3, N3, c3, m3k, m3b, hF⟩
      · obtain ⟨K4, hK4⟩ : ∃ K4, K4 = fup K3 34 (k * 10 + 0).toNat kd := ⟨_, rfl⟩
        obtain ⟨N4, hN4⟩ : ∃ N4, N4 = fup N3 124 (820 + 10 * k).toNat kd := ⟨_, rfl⟩
        have fk4 : fSame [(34, none)] K3 K4 := by rw [hK4]; exact fs_up fs_refl (.inl (by decide))
        have fn4 : fSame [(124, none)] N3 N4 := by rw [hN4]; exact fs_up fs_refl (.inl (by decide))
        have hB4 := StB_m fn4 (by decide) (StB_c fk4 (by decide) hB3)
        have n4 : N4 124 = upd1 (N 124) (820 + 10 * k).toNat kd := by rw [hN4, fup_eq, fs_row fn3 124 (by decide), fs_row fn1 124 (by decide), fs_row fn0 124 (by decide)]
        have k4 : K4 34 = upd1 (K2 34) (k * 10 + 0).toNat kd := by rw [hK4, fup_eq, fs_row fk3 34 (by decide)]
        have k4r : K4 35 = K2 35 := by rw [fs_row fk4 35 (by decide), fs_row fk3 35 (by decide)]
        have k4s : K4 36 = K2 36 := by rw [fs_row fk4 36 (by decide), fs_row fk3 36 (by decide)]
        have hP4 : PvI K N K4 N4 k x ((1 : Nat) : Int) := by
          refine ⟨fs_trans (fs_mono (by decide) fk1) (fs_trans (fs_mono (by decide) fkA) (fs_trans (fs_mono (by decide) fk3) (fs_mono (by decide) fk4))), fs_trans (fs_mono (by decide) fn0) (fs_trans (fs_mono (by decide) fn1) (fs_trans (fs_mono (by decide) fn3) (fs_mono (by decide) fn4))), fun i hi => ?_, fun i hi => ?_, fun i hi => ?_, fun i hi => ?_, ?_, ?_, fun w w0 w1 => ?_, fun n n0 n1 => ?_, fun g g0 g1 => ?_⟩
          · rw [n4, upd1_ne (by omega)]
          · rw [k4, upd1_ne (by omega), o34 i hi, fs_row fk1 34 (by decide)]
          · rw [k4r, o35 i hi, fs_row fk1 35 (by decide)]
          · rw [k4s, o36 i hi, fs_row fk1 36 (by decide)]
          · rw [fs_row fk4 39 (by decide), fs_row fk3 39 (by decide), kA39, fs_row fk1 39 (by decide)]
          · rw [fs_at fk4 28 13 (by decide), fs_at fk3 28 13 (by decide), kA13]
          · have : w = 0 := by omega
            subst this
            rw [n4, k4, upd1_at, show (820 + 10 * k + 0).toNat = (820 + 10 * k).toNat by omega, upd1_at]
            refine ⟨rfl, ?_⟩
            unfold fRng
            omega
          · rw [n4, upd1_ne (by omega), k4r, z35 n n0 n1, pr12 n n0 n1]
            decide
          · rw [n4, upd1_ne (by omega), k4s, z36 g g0 g1, pr4 g g0 g1]
            decide
        have mref : s_X12_readPiano N = (s_X12_readPiano_l86 k y (820 + (10 * k)) (1, N4)).bind fun e86 => Sum.elim (fun x86 => (s_X12_more (fup x86 124 ((820 + (10 * k)) + 9).toNat 1440) k).bind fun y205 => if ¬ y205.1 = 0 then (if fin (28 + k) ∧ (0 ≤ (28 + k) ∧ (28 + k) < 56) ∧ fin ((y205.2 124 817) + 1) then some (1, (fup (fup y205.2 126 (28 + k).toNat y) 124 817 ((y205.2 124 817) + 1))) else none) else some (0, y205.2)) (fun v86 => some v86) e86 := by
          rw [mpre, m1, Option.bind_some, if_pos (show ¬ (1 : Int) = 0 by decide), m1n, Option.bind_some, m3k, Option.bind_some, if_pos hkd3.1, m3n, Option.bind_some, hN4, ← g1]
        have cref : cPiano K = (rP k 6 1 K4).bind fun y50 => fel y50.1 (fun w50 => if fin ((y50.2 28 13) - 1) then (s_X3_readMore y50.2 ((y50.2 28 13) - 1)).bind (fun y63 => fel y63.1 (fun w63 => some (.inl (), y63.2)) (some (.inr (), y63.2))) else none) (some (.inr (), y50.2)) := by
          rw [cpre, c1, Option.bind_some, fel_l, crp, c3, Option.bind_some, fel_l, c_tell hk' (by decide), Option.bind_some, hK4]
        rcases facts_loop (y := y) hk' 6 1 rfl (by decide) K4 N4 _ hB4 hP4 with ⟨K5, N5, p5, c5, m5, hB5, hP5, le5, h789⟩ | ⟨K5, N5, c5, m5, hF⟩
        · have m5' : s_X12_readPiano_l86 k y (820 + 10 * k) (1, N4) = some (.inl N5) := m5
          have q7 := h789 7 (by decide) (by decide)
          have q8 := h789 8 (by decide) (by decide)
          have q9 := h789 9 (by decide) (by decide)
          have k7 : K5 34 (k * 10 + 7).toNat = 0 := by rw [q7.1, k4, upd1_ne (by omega), z7]
          have k8 : K5 34 (k * 10 + 8).toNat = 0 := by rw [q8.1, k4, upd1_ne (by omega), z8]
          have k9 : K5 34 (k * 10 + 9).toNat = 1440 := by rw [q9.1, k4, upd1_ne (by omega), z9]
          have n7 : N5 124 (820 + 10 * k + 7).toNat = 0 := by rw [q7.2, n4, upd1_ne (by omega), show (820 + 10 * k + 7).toNat = (827 + 10 * k).toNat by omega, pr7]
          have n8 : N5 124 (820 + 10 * k + 8).toNat = 0 := by rw [q8.2, n4, upd1_ne (by omega), show (820 + 10 * k + 8).toNat = (828 + 10 * k).toNat by omega, pr8]
          have hPa := pv_fact hk' hP5 (w := 7) (v := 0) (j' := 8) (by decide) (by unfold fRng; omega) (fun u u0 u1 => by omega)
          rw [fup_self k7, fup_self n7] at hPa
          have hPb := pv_fact hk' hPa (w := 8) (v := 0) (j' := 9) (by decide) (by unfold fRng; omega) (fun u u0 u1 => by omega)
          rw [fup_self k8, fup_self n8] at hPb
          have hPc := pv_fact hk' hPb (w := 9) (v := 1440) (j' := 10) (by decide) (by unfold fRng; omega) (fun u u0 u1 => by omega)
          rw [fup_self k9] at hPc
          obtain ⟨N6, hN6⟩ : ∃ N6, N6 = fup N5 124 (820 + 10 * k + 9).toNat 1440 := ⟨_, rfl⟩
          rw [← hN6] at hPc
          have fn6 : fSame [(124, none)] N5 N6 := by rw [hN6]; exact fs_up fs_refl (.inl (by decide))
          have k513 : K5 28 13 = k + 1 := hPc.2.2.2.2.2.2.2.1
          have cmo : cPiano K = (s_X3_readMore K5 k).bind (fun y63 => fel y63.1 (fun w63 => some (.inl (), y63.2)) (some (.inr (), y63.2))) := by
            rw [cref, c5, Option.bind_some, fel_l]
            show (if fin ((K5 28 13) - 1) then (s_X3_readMore K5 ((K5 28 13) - 1)).bind _ else none) = _
            rw [k513, show k + 1 - 1 = k by omega, if_pos (by unfold fin; omega)]
          have mmo : s_X12_readPiano N = (s_X12_more N6 k).bind fun y205 => if ¬ y205.1 = 0 then (if fin (28 + k) ∧ (0 ≤ (28 + k) ∧ (28 + k) < 56) ∧ fin ((y205.2 124 817) + 1) then some (1, (fup (fup y205.2 126 (28 + k).toNat y) 124 817 ((y205.2 124 817) + 1))) else none) else some (0, y205.2) := by
            rw [mref, m5', Option.bind_some, hN6]
            rfl
          have e3 : fin (10 * k) ∧ fin (175 + (10 * k)) := by unfold fin; omega
          rcases more_loop hk' (L + 1) K5 N6 p5 0 0 0 0 0 (by omega) (StB_m fn6 (by decide) hB5) hPc (by omega) (by decide) (by decide) (by decide) (by rw [k7]; exact ⟨fun e => absurd e (by decide), fun e => absurd e (by decide)⟩) (.inl rfl) ⟨fun e => absurd e (by decide), fun e => absurd e (by decide)⟩ with ⟨K6, N7, p6, c6, m6, hA6, hP6, le6⟩ | ⟨K6, N7, c6, m6, hF⟩
          · left
            have c6' : s_X3_readMore_l10 k (0, 0, 0, 0, K5) = some (.inr (.inl (), K6)) := c6
            have m6' : s_X12_more_l20 k (175 + (10 * k)) (0, 0, 0, 1, N6) = some (.inl N7) := m6
            obtain ⟨h1, h2', h3, h4, h5, h6, h7, h8, h9, h10, h11⟩ := hP6
            have R := fun w w0 w1 => (h9 w w0 w1).2
            obtain ⟨N8, hN8⟩ : ∃ N8, N8 = fup (fup N7 126 (28 + k).toNat y) 124 817 (k + 1) := ⟨_, rfl⟩
            have fn8 : fSame [(124, none), (126, none)] N7 N8 := by rw [hN8]; exact fs_up (fs_up fs_refl (.inl (by decide))) (.inl (by decide))
            have fN : fSame [(122, some 4), (122, some 11), (122, some 12), (122, some 13), (122, some 14), (122, some 17), (122, some 18), (124, none), (126, none)] N N8 := fs_trans (fs_mono (by decide) h2') (fs_mono (by decide) fn8)
            have n8' : N8 124 = upd1 (N7 124) 817 (k + 1) := by rw [hN8, fup_eq, fup_ne (by decide)]
            have n7k : N7 124 817 = k := by rw [h3 817 (by omega), hn13]
            have hdr : dr K 4 13 = k := hkd.symm
            refine ⟨K6, N8, p6, ?_, ?_, StA_m fn8 (by decide) hA6, by omega, HD_piano hH0 (x := x) (y := y) (by rw [hdr]; exact hlt) ⟨_, w1, hxd, hyd⟩ (fun w w0 w1 => ?_) (by rw [hdr]; exact ⟨(R 0 (by decide) (by decide)).1 rfl, (R 1 (by decide) (by decide)).2.1 rfl, (R 2 (by decide) (by decide)).2.2.1 rfl, (R 3 (by decide) (by decide)).2.2.2.1 rfl, (R 5 (by decide) (by decide)).2.2.2.2.1 rfl, (R 6 (by decide) (by decide)).2.2.2.2.2.1 rfl, (R 7 (by decide) (by decide)).2.2.2.2.2.2.1 rfl, (R 8 (by decide) (by decide)).2.2.2.2.2.2.2.1 rfl, (R 9 (by decide) (by decide)).2.2.2.2.2.2.2.2 rfl⟩) (fun n n0 n1 => ?_) (fun g g0 g1 => ?_) (fun i hi => by rw [hdr] at hi; exact h4 i hi) (fun i hi => by rw [hdr] at hi; exact h5 i hi) (fun i hi => by rw [hdr] at hi; exact h6 i hi) (by rw [hdr]; exact h7) (by rw [hdr]; exact h8) (by rw [hdr, n8', upd1_at]) (by rw [hdr, hN8, fup_ne (by decide), fup_eq, fs_row h2' 126 (by decide)]) (fs_row h1 29 (by decide)) (fs_row h1 30 (by decide)) (fs_row h1 31 (by decide)) (fs_row h1 32 (by decide)) (fs_row h1 33 (by decide)) (fs_row h1 37 (by decide)) (fs_row h1 38 (by decide)) (fs_row h1 40 (by decide)) (fs_row h1 41 (by decide)) (fs_at h1 28 14 (by decide)) (fs_at h1 28 15 (by decide)) (fs_at h1 28 16 (by decide)) (fun i hi => by rw [hdr] at hi; rw [n8', upd1_ne (by omega)]; exact h3 i (by omega)), Tb_fs h1 (by decide) fN (by decide) hT, fs_at h1 28 17 (by decide), fs_at fN 122 20 (by decide)⟩
            · rw [cmo]
              unfold s_X3_readMore
              rw [c6']
              rfl
            · rw [mmo]
              unfold s_X12_more
              rw [if_pos e3, m6', Option.bind_some]
              show (if ¬ (1 : Int) = 0 then (if fin (28 + k) ∧ (0 ≤ (28 + k) ∧ (28 + k) < 56) ∧ fin ((N7 124 817) + 1) then some ((1 : Int), (fup (fup N7 126 (28 + k).toNat y) 124 817 ((N7 124 817) + 1))) else none) else some (0, N7)) = _
              rw [if_pos (show ¬ (1 : Int) = 0 by decide), n7k, if_pos (by unfold fin; omega), ← hN8]
            · rw [hdr]
              show N8 124 _ = K6 34 _
              rw [n8', upd1_ne (by omega)]
              exact (h9 w w0 w1).1
            · rw [hdr]
              show N8 124 _ = K6 35 _ ∧ 0 ≤ K6 35 _ ∧ K6 35 _ ≤ 99
              rw [n8', upd1_ne (by omega)]
              exact h10 n n0 n1
            · rw [hdr]
              show N8 124 _ = K6 36 _ ∧ 0 ≤ K6 36 _ ∧ K6 36 _ ≤ 20
              rw [n8', upd1_ne (by omega)]
              exact h11 g g0 g1
          · right
            have c6' : s_X3_readMore_l10 k (0, 0, 0, 0, K5) = some (.inr (.inr (), K6)) := c6
            have m6' : s_X12_more_l20 k (175 + (10 * k)) (0, 0, 0, 1, N6) = some (.inr (0, N7)) := m6
            refine ⟨K6, N7, ?_, ?_, hF⟩
            · rw [cmo]
              unfold s_X3_readMore
              rw [c6']
              rfl
            · rw [mmo]
              unfold s_X12_more
              rw [if_pos e3, m6']
              rfl
        · right
          have m5' : s_X12_readPiano_l86 k y (820 + 10 * k) (1, N4) = some (.inr (0, N5)) := m5
          refine ⟨K5, N5, ?_, ?_, hF⟩
          · rw [cref, c5]
            rfl
          · rw [mref, m5']
            rfl
      · right
        refine ⟨K3, N3, ?_, ?_, hF⟩
        · rw [cpre, c1, Option.bind_some, fel_l, crp, c3]
          rfl
        · rw [mpre, m1, Option.bind_some, if_pos (show ¬ (1 : Int) = 0 by decide), m1n, Option.bind_some, m3k, Option.bind_some, if_neg (show ¬ (0 : Int) ≤ -1 by decide), m3b]
          rfl
    · right
      refine ⟨K1, N1, ?_, ?_, hF⟩
      · rw [cpre, c1]
        rfl
      · rw [mpre, m1]
        rfl
  · rw [if_neg hlt] at hroom
    right
    refine ⟨Kf, Nf, ?_, ?_, f3⟩
    · unfold cPiano
      rw [hroom]
      rfl
    · unfold s_X12_readPiano
      rw [hn13, if_neg (fun e => e (by omega)), f2]
      rfl
