/-! ===== lines of a house: tuners, the table ===== -/
theorem m_tun46 {N N2 : fM} {k y : Int} (hk : 0 ≤ k ∧ k < 6) (i : Int) (hi : 0 ≤ i ∧ i < 2) {r : Int} (m : s_X12_takes N 0 99 = some (r, N2)) : s_X12_tuner_b46 N k y i = if r = 0 then some (.inr (.inr (0, N2))) else some (.inl (i + 1, fup N2 124 (1236 + 3 * k + i).toNat (N2 122 18))) := by
  unfold s_X12_tuner_b46
  rw [if_neg (by omega), m, Option.bind_some]
  show (if ¬ r = 0 then (if fin (3 * k) ∧ fin (1236 + 3 * k) ∧ fin (1236 + 3 * k + i) ∧ (0 ≤ 1236 + 3 * k + i ∧ 1236 + 3 * k + i < 1290) then (if fin (i + 1) then _ else none) else none) else _) = _
  by_cases g : r = 0
  · rw [if_neg (fun e => e g), if_pos g]
  · rw [if_pos g, if_neg g, if_pos (by unfold fin; omega), if_pos (by unfold fin; omega)]
noncomputable def cTuner (K : fM) : Option ((Unit ⊕ Unit) × fM) := (s_X3_mustHaveRoom K (K 28 14) 6).bind fun y79 => fel y79.1 (fun w79 => (s_X3_takeNewName y79.2).bind fun y84 => fel y84.1 (fun w84 => (s_X3_readTuner y84.2 w84).bind fun y87 => fel y87.1 (fun w87 => some (.inl (), y87.2)) (some (.inr (), y87.2))) (some (.inr (), y84.2))) (some (.inr (), y79.2))
theorem ln_tuner {K N : fM} {b : Nat → Int} {L lim p : Nat} (hA : StA K N b L lim p) (hH : HD (dr K) N) (hT : Tb K N) (hk : kx b L lim p = 10) : LnO (cTuner K) (s_X12_tuner N) K N b L lim p := by
  have h2 := kx_two hA.2.2.2.2.1 (show 10 < 30 by omega) hk
  have hH0 := hH
  obtain ⟨hWm, -, -, -, -, -, -, -, -, hm, -, hpri⟩ := hH
  have hc0 : (0 ≤ K 28 14 ∧ K 28 14 ≤ 6) := hWm.2.1
  have hn14 : N 124 818 = K 28 14 := hm.2.2.2.2.2.2.2.1 818 1 (by decide) (by decide) (by decide)
  obtain ⟨Kf, Nf, f1, f2, f3⟩ := sim_fail hA 4 (by decide)
  have hroom := c_room (n := K 28 14) (m := 6) f1
  by_cases hlt : K 28 14 < 6
  · rw [if_pos hlt] at hroom
    obtain ⟨k, hkd⟩ : ∃ k, k = K 28 14 := ⟨_, rfl⟩
    rw [← hkd] at hroom hc0 hn14 hlt
    have hpri0 : N 124 (1238 + 3 * k).toNat = 0 := hpri.2 k (by show K 28 14 ≤ k; omega) hlt
    obtain ⟨N0, m0, fn0, hB0⟩ := sim_next hA
    have hH1 : HD (dr K) N0 := HD_fs (fs_refl (l := [])) (by decide) fn0 (by decide) hH0
    have cpre : cTuner K = (s_X3_takeNewName K).bind fun y84 => fel y84.1 (fun w84 => (s_X3_readTuner y84.2 w84).bind fun y87 => fel y87.1 (fun w87 => some (.inl (), y87.2)) (some (.inr (), y87.2))) (some (.inr (), y84.2)) := by
      unfold cTuner
      rw [← hkd, hroom]
      rfl
    have mpre : s_X12_tuner N = (s_X12_fresh N0).bind fun y26 => if ¬ y26.1 = 0 then (s_X12_next y26.2).bind (fun y40 => (s_X12_tuner_l46 k (y26.2 122 17) (0, y40.2)).bind fun e46 => Sum.elim (fun x46 => (s_X12_isWord x46 1718579819).bind fun y93 => if y93 = 0 then s_X12_tuner_j132 x46 k (y26.2 122 17) else (s_X12_next x46).bind fun y100 => (s_X12_takesSigned y100.2 99).bind fun y106 => if ¬ y106.1 = 0 then (if fin (3 * k) ∧ fin (1236 + (3 * k)) ∧ fin ((1236 + (3 * k)) + 2) ∧ (0 ≤ ((1236 + (3 * k)) + 2) ∧ ((1236 + (3 * k)) + 2) < 1290) then s_X12_tuner_j132 (fup y106.2 124 ((1236 + (3 * k)) + 2).toNat (y106.2 122 18)) k (y26.2 122 17) else none) else some (0, y106.2)) (fun v46 => some v46) e46) else some (0, y26.2) := by
      unfold s_X12_tuner
      rw [hn14, if_pos (show ¬ k = 6 by omega), m0]
      rfl
    rcases sim_new hB0 hH1 with ⟨K1, c1, m1, hA1, g1, w1, fk1, lt1⟩ | ⟨K1, N1, c1, m1, hF⟩
    · obtain ⟨x, hxd⟩ : ∃ x, x = enc5 (tW b L (tNx b L lim p)) := ⟨_, rfl⟩
      obtain ⟨y, hyd⟩ : ∃ y, y = enc8 (tW b L (tNx b L lim p)) := ⟨_, rfl⟩
      rw [← hxd] at c1
      rw [← hyd] at g1
      have k14 : K1 28 14 = k := by rw [fs_at fk1 28 14 (by decide), hkd]
      obtain ⟨K2, hK2⟩ : ∃ K2, K2 = fup (fup K1 40 k.toNat x) 28 14 (k + 1) := ⟨_, rfl⟩
      have fk2 : fSame [(40, none), (28, some 14)] K1 K2 := by rw [hK2]; exact fs_up (fs_up fs_refl (.inl (by decide))) (.inr (by decide))
      obtain ⟨N1, m1n, fn1, hB1⟩ := sim_next (StA_c fk2 (by decide) hA1)
      have ctun : s_X3_readTuner K1 x = (s_X10_takeNumber K2 0 99).bind fun y48 => fel y48.1 (fun w48 => (s_X10_takeNumber (fup y48.2 37 (k * 3).toNat w48) 0 99).bind fun y71 => fel y71.1 (fun w71 => (s_X10_take (fup (fup y71.2 37 (k * 3 + 1).toNat w71) 37 (k * 3 + 2).toNat 0)).bind fun y93 => (s_X10_keywordHere y93.2).bind fun y100 => if ¬ y100 = 13 then some (.inl (), y93.2) else (s_X10_takeSigned y93.2 99).bind fun y126 => fel y126.1 (fun w126 => (s_X10_take (fup y126.2 37 (k * 3 + 2).toNat w126)).bind fun y134 => some (.inl (), y134.2)) (some (.inr (), y126.2))) (some (.inr (), y71.2))) (some (.inr (), y48.2)) := by
        unfold s_X3_readTuner
        rw [k14]
        have e1 : (0 ≤ k ∧ k < 6) ∧ fin (k + 1) := by unfold fin; omega
        have e2 : fin (k * 3) := by unfold fin; omega
        have e3 : (0 ≤ k * 3 ∧ k * 3 < 18) ∧ fin (k * 3) ∧ fin (k * 3 + 1) := by unfold fin; omega
        have e4 : (0 ≤ k * 3 + 1 ∧ k * 3 + 1 < 18) ∧ fin (k * 3) ∧ fin (k * 3 + 2) ∧ (0 ≤ k * 3 + 2 ∧ k * 3 + 2 < 18) := by unfold fin; omega
        have e5 : fin (k * 3) ∧ fin (k * 3 + 2) := by unfold fin; omega
        have e6 : (0 ≤ k * 3 + 2 ∧ k * 3 + 2 < 18) := by omega
        rw [hK2]
        simp only [if_pos e1, if_pos e2, if_pos e3, if_pos e4, if_pos e5, if_pos e6]
      rcases sim_num hB1 0 99 with ⟨K3, N3, c3, m3, hB3, g3, r3, fk3, fn3, lt3⟩ | ⟨K3, N3, c3, m3, hF⟩
      · obtain ⟨a, had⟩ : ∃ a, a = tV b L (tNx b L lim (tNx b L lim p)) := ⟨_, rfl⟩
        rw [← had] at c3 g3 r3
        have s0 := m_tun46 (N := N1) (k := k) (y := y) ⟨hc0.1, hlt⟩ 0 (by decide) m3
        rw [if_neg (by decide), g3] at s0
        obtain ⟨N3', hN3'⟩ : ∃ N3', N3' = fup N3 124 (1236 + 3 * k + 0).toNat a := ⟨_, rfl⟩
        have fn3' : fSame [(124, none)] N3 N3' := by rw [hN3']; exact fs_up fs_refl (.inl (by decide))
        rw [← hN3'] at s0
        have hB3' : StB (fup K3 37 (k * 3).toNat a) N3' b L lim _ := StB_m fn3' (by decide) (StB_c (l := [(37, none)]) (fs_up fs_refl (.inl (by decide))) (by decide) hB3)
        rcases sim_num hB3' 0 99 with ⟨K4, N4, c4, m4, hB4, g4, r4, fk4, fn4, lt4⟩ | ⟨K4, N4, c4, m4, hF⟩
        · obtain ⟨c, hcd⟩ : ∃ c, c = tV b L (tNx b L lim (tNx b L lim (tNx b L lim p))) := ⟨_, rfl⟩
          rw [← hcd] at c4 g4 r4
          have s1 := m_tun46 (N := N3') (k := k) (y := y) ⟨hc0.1, hlt⟩ (0 + 1) (by decide) m4
          rw [if_neg (by decide), g4] at s1
          obtain ⟨N4', hN4'⟩ : ∃ N4', N4' = fup N4 124 (1236 + 3 * k + (0 + 1)).toNat c := ⟨_, rfl⟩
          rw [← hN4'] at s1
          have fn4' : fSame [(124, none)] N4 N4' := by rw [hN4']; exact fs_up fs_refl (.inl (by decide))
          have l46 : s_X12_tuner_l46 k y (0, N1) = some (.inl N4') := by
            unfold s_X12_tuner_l46
            rw [fLp_stp (b := fun s : Int × fM => s_X12_tuner_b46 s.2 k y s.1) (s := (0, N1)) s0, fLp_stp (b := fun s : Int × fM => s_X12_tuner_b46 s.2 k y s.1) (s := (0 + 1, N3')) s1, fLp_eq]
            rfl
          obtain ⟨K4', hK4'⟩ : ∃ K4', K4' = fup (fup K4 37 (k * 3 + 1).toNat c) 37 (k * 3 + 2).toNat 0 := ⟨_, rfl⟩
          have fk4' : fSame [(37, none)] K4 K4' := by rw [hK4']; exact fs_up (fs_up fs_refl (.inl (by decide))) (.inl (by decide))
          obtain ⟨K5, c5, fk5, hA5⟩ := sim_take (StB_m fn4' (by decide) (StB_c fk4' (by decide) hB4))
          have hkw := c_kw hA5.1 hA5.2.2.1 hA5.2.2.2.2.1
          have hmw := m_word hA5.2.2.2.1 hA5.2.2.2.2.1 13 (by decide) 1718579819 (by decide +kernel)
          generalize htp : tNx b L lim (tNx b L lim (tNx b L lim (tNx b L lim p))) = p5 at hA5 hkw hmw lt4
          have fK5 : fSame [(1, some 4), (1, some 5), (1, some 6), (1, some 7), (1, some 8), (37, none), (40, none), (28, some 14)] K K5 := fs_trans (fs_mono (by decide) fk1) (fs_trans (fs_mono (by decide) fk2) (fs_trans (fs_mono (by decide) fk3) (fs_trans (fs_up fs_refl (.inl (by decide))) (fs_trans (fs_mono (by decide) fk4) (fs_trans (fs_mono (by decide) fk4') (fs_mono (by decide) fk5))))))
          have fN4 : fSame [(122, some 4), (122, some 11), (122, some 12), (122, some 13), (122, some 14), (122, some 17), (122, some 18), (124, none)] N N4' := fs_trans (fs_mono (by decide) fn0) (fs_trans (fs_mono (by decide) fn1) (fs_trans (fs_mono (by decide) fn3) (fs_trans (fs_mono (by decide) fn3') (fs_trans (fs_mono (by decide) fn4) (fs_mono (by decide) fn4')))))
          have k37 : K5 37 = upd1 (upd1 (upd1 (K 37) (k * 3).toNat a) (k * 3 + 1).toNat c) (k * 3 + 2).toNat 0 := by rw [fs_row fk5 37 (by decide), hK4', fup_eq, fup_eq, fs_row fk4 37 (by decide), fup_eq, fs_row fk3 37 (by decide), fs_row fk2 37 (by decide), fs_row fk1 37 (by decide)]
          have k40 : K5 40 = upd1 (K 40) k.toNat x := by rw [fs_row fk5 40 (by decide), fs_row fk4' 40 (by decide), fs_row fk4 40 (by decide), fup_ne (by decide), fs_row fk3 40 (by decide), hK2, fup_ne (by decide), fup_eq, fs_row fk1 40 (by decide)]
          have k5c : K5 28 14 = k + 1 := by rw [fs_at fk5 28 14 (by decide), fs_at fk4' 28 14 (by decide), fs_at fk4 28 14 (by decide), fup_ne (by decide), fs_at fk3 28 14 (by decide), hK2]; rfl
          have n124 : N4' 124 = upd1 (upd1 (N 124) (1236 + 3 * k).toNat a) (1236 + 3 * k + 1).toNat c := by rw [hN4', fup_eq, fs_row fn4 124 (by decide), hN3', fup_eq, fs_row fn3 124 (by decide), fs_row fn1 124 (by decide), fs_row fn0 124 (by decide), show (1236 + 3 * k + 0).toNat = (1236 + 3 * k).toNat by omega, show (1236 + 3 * k + (0 + 1)).toNat = (1236 + 3 * k + 1).toNat by omega]
          have hdr : dr K 4 14 = k := hkd.symm
          -- what is left, once both have read all
          have fin1 : ∀ (K8 N7 : fM) (p8 : Nat) (f : Int), -99 ≤ f ∧ f ≤ 99 → fSame [(1, some 4), (1, some 5), (1, some 6), (1, some 7), (1, some 8), (37, none)] K5 K8 → K8 37 = upd1 (K5 37) (k * 3 + 2).toNat f → fSame [(122, some 4), (122, some 11), (122, some 12), (122, some 13), (122, some 14), (122, some 17), (122, some 18), (124, none)] N4' N7 → N7 124 = upd1 (N4' 124) (1236 + 3 * k + 2).toNat f → StA K8 N7 b L lim p8 → p5 ≤ p8 → cTuner K = some (.inl (), K8) → s_X12_tuner N = s_X12_tuner_j132 N7 k y → LnO (cTuner K) (s_X12_tuner N) K N b L lim p := by
            intro K8 N7 p8 f hf fk8 k8 fn7 n7 hA8 hp8 hcl hml
            left
            obtain ⟨N8, hN8⟩ : ∃ N8, N8 = fup (fup N7 126 (44 + k).toNat y) 124 818 (k + 1) := ⟨_, rfl⟩
            have fn8 : fSame [(124, none), (126, none)] N7 N8 := by rw [hN8]; exact fs_up (fs_up fs_refl (.inl (by decide))) (.inl (by decide))
            have fK : fSame [(1, some 4), (1, some 5), (1, some 6), (1, some 7), (1, some 8), (37, none), (40, none), (28, some 14)] K K8 := fs_trans fK5 (fs_mono (by decide) fk8)
            have fN : fSame [(122, some 4), (122, some 11), (122, some 12), (122, some 13), (122, some 14), (122, some 17), (122, some 18), (124, none), (126, none)] N N8 := fs_trans (fs_mono (by decide) fN4) (fs_trans (fs_mono (by decide) fn7) (fs_mono (by decide) fn8))
            have n8 : N8 124 = upd1 (upd1 (upd1 (upd1 (N 124) (1236 + 3 * k).toNat a) (1236 + 3 * k + 1).toNat c) (1236 + 3 * k + 2).toNat f) 818 (k + 1) := by rw [hN8, fup_eq, fup_ne (by decide), n7, n124]
            have n7k : N7 124 818 = k := by rw [n7, n124, upd1_ne (by omega), upd1_ne (by omega), upd1_ne (by omega), hn14]
            have k837 : K8 37 = upd1 (upd1 (upd1 (upd1 (K 37) (k * 3).toNat a) (k * 3 + 1).toNat c) (k * 3 + 2).toNat 0) (k * 3 + 2).toNat f := by rw [k8, k37]
            refine ⟨K8, N8, p8, hcl, ?_, StA_m fn8 (by decide) hA8, by omega, HD_tuner hH0 (x := x) (y := y) (a := a) (c := c) (f := f) (by rw [hdr]; exact hlt) ⟨_, w1, hxd, hyd⟩ r3 r4 hf (by rw [hdr]; show K8 37 _ = a; rw [k837, upd1_ne (by omega), upd1_ne (by omega), upd1_ne (by omega), upd1_at]) (by rw [hdr]; show K8 37 _ = c; rw [k837, upd1_ne (by omega), upd1_ne (by omega), upd1_at]) (by rw [hdr]; show K8 37 _ = f; rw [k837, upd1_at]) (fun i hi => by rw [hdr] at hi; show K8 37 i = K 37 i; rw [k837, upd1_ne (by omega), upd1_ne (by omega), upd1_ne (by omega), upd1_ne (by omega)]) (by rw [hdr]; show K8 40 = upd1 (K 40) k.toNat x; rw [fs_row fk8 40 (by decide), k40]) (by rw [hdr]; show K8 28 14 = k + 1; rw [fs_at fk8 28 14 (by decide), k5c]) (by rw [hdr, n8, upd1_ne (by omega), upd1_ne (by omega), upd1_ne (by omega), upd1_at]) (by rw [hdr, n8, upd1_ne (by omega), upd1_ne (by omega), upd1_at]) (by rw [hdr, n8, upd1_ne (by omega), upd1_at]) (by rw [hdr, n8, upd1_at]) (by rw [hdr, hN8, fup_ne (by decide), fup_eq, fs_row fn7 126 (by decide), fs_row fN4 126 (by decide)]) (fs_row fK 29 (by decide)) (fs_row fK 30 (by decide)) (fs_row fK 31 (by decide)) (fs_row fK 32 (by decide)) (fs_row fK 33 (by decide)) (fs_row fK 34 (by decide)) (fs_row fK 35 (by decide)) (fs_row fK 36 (by decide)) (fs_row fK 38 (by decide)) (fs_row fK 39 (by decide)) (fs_row fK 41 (by decide)) (fs_at fK 28 13 (by decide)) (fs_at fK 28 15 (by decide)) (fs_at fK 28 16 (by decide)) (fun i hi => by rw [hdr] at hi; rw [n8, upd1_ne (by omega), upd1_ne (by omega), upd1_ne (by omega), upd1_ne (by omega)]), Tb_fs fK (by decide) fN (by decide) hT, fs_at fK 28 17 (by decide), fs_at fN 122 20 (by decide)⟩
            rw [hml]
            unfold s_X12_tuner_j132
            rw [n7k, if_pos (by unfold fin; omega), ← hN8]
          have mfr : s_X12_tuner N = (s_X12_isWord N4' 1718579819).bind fun y93 => if y93 = 0 then s_X12_tuner_j132 N4' k y else (s_X12_next N4').bind fun y100 => (s_X12_takesSigned y100.2 99).bind fun y106 => if ¬ y106.1 = 0 then (if fin (3 * k) ∧ fin (1236 + (3 * k)) ∧ fin ((1236 + (3 * k)) + 2) ∧ (0 ≤ ((1236 + (3 * k)) + 2) ∧ ((1236 + (3 * k)) + 2) < 1290) then s_X12_tuner_j132 (fup y106.2 124 ((1236 + (3 * k)) + 2).toNat (y106.2 122 18)) k y else none) else some (0, y106.2) := by
            rw [mpre, m1]
            show ((s_X12_next N0).bind _) = _
            rw [m1n]
            show ((s_X12_tuner_l46 k (N0 122 17) (0, N1)).bind fun e46 => Sum.elim (fun x46 => (s_X12_isWord x46 1718579819).bind fun y93 => if y93 = 0 then s_X12_tuner_j132 x46 k (N0 122 17) else (s_X12_next x46).bind fun y100 => (s_X12_takesSigned y100.2 99).bind fun y106 => if ¬ y106.1 = 0 then (if fin (3 * k) ∧ fin (1236 + (3 * k)) ∧ fin ((1236 + (3 * k)) + 2) ∧ (0 ≤ ((1236 + (3 * k)) + 2) ∧ ((1236 + (3 * k)) + 2) < 1290) then s_X12_tuner_j132 (fup y106.2 124 ((1236 + (3 * k)) + 2).toNat (y106.2 122 18)) k (N0 122 17) else none) else some (0, y106.2)) (fun v46 => some v46) e46) = _
            rw [g1, l46]
            rfl
          have cfr : s_X3_readTuner K1 x = if ¬ kx b L lim p5 = 13 then some (.inl (), K5) else (s_X10_takeSigned K5 99).bind fun y126 => fel y126.1 (fun w126 => (s_X10_take (fup y126.2 37 (k * 3 + 2).toNat w126)).bind fun y134 => some (.inl (), y134.2)) (some (.inr (), y126.2)) := by
            rw [ctun, c3]
            show ((s_X10_takeNumber (fup K3 37 (k * 3).toNat a) 0 99).bind _) = _
            rw [c4]
            show ((s_X10_take (fup (fup K4 37 (k * 3 + 1).toNat c) 37 (k * 3 + 2).toNat 0)).bind _) = _
            rw [← hK4', c5]
            show ((s_X10_keywordHere K5).bind _) = _
            rw [hkw, Option.bind_some]
          rw [hmw, Option.bind_some, bit_if] at mfr
          by_cases hfk : kx b L lim p5 = 13
          · rw [if_neg (fun e => e hfk)] at cfr
            rw [if_pos (show kx b L lim p5 = ((13 : Nat) : Int) from hfk)] at mfr
            obtain ⟨N6, m6, fn6, hB6⟩ := sim_next hA5
            rw [m6, Option.bind_some] at mfr
            rcases sim_signed hB6 99 (by decide) with ⟨v, p7, K7, N7, c7, m7, hB7, g7, r7, fk7, fn7, lt7⟩ | ⟨K7, N7, c7, m7, hF⟩
            · obtain ⟨K8, c8, fk8, hA8⟩ := sim_take (StB_m (l := [(124, none)]) (N' := fup N7 124 (1236 + 3 * k + 2).toNat v) (fs_up fs_refl (.inl (by decide))) (by decide) (StB_c (l := [(37, none)]) (K' := fup K7 37 (k * 3 + 2).toNat v) (fs_up fs_refl (.inl (by decide))) (by decide) hB7))
              have hnx := tNx_le (b := b) (lim := lim) hA5.2.2.2.2.1
              refine fin1 K8 (fup N7 124 (1236 + 3 * k + 2).toNat v) p7 v (by omega) (fs_trans (fs_mono (by decide) fk7) (fs_trans (fs_up fs_refl (.inl (by decide))) (fs_mono (by decide) fk8))) (by rw [fs_row fk8 37 (by decide), fup_eq, fs_row fk7 37 (by decide)]) (fs_up (fs_trans (fs_mono (by decide) fn6) (fs_mono (by decide) fn7)) (.inl (by decide))) (by rw [fup_eq, fs_row fn7 124 (by decide), fs_row fn6 124 (by decide)]) hA8 (by omega) ?_ ?_
              · rw [cpre, c1]
                show ((s_X3_readTuner K1 x).bind _) = _
                rw [cfr, c7]
                show (((s_X10_take (fup K7 37 (k * 3 + 2).toNat v)).bind _).bind _) = _
                rw [c8]
                rfl
              · rw [mfr, m7]
                show (if fin (3 * k) ∧ fin (1236 + (3 * k)) ∧ fin ((1236 + (3 * k)) + 2) ∧ (0 ≤ ((1236 + (3 * k)) + 2) ∧ ((1236 + (3 * k)) + 2) < 1290) then s_X12_tuner_j132 (fup N7 124 ((1236 + (3 * k)) + 2).toNat (N7 122 18)) k y else none) = _
                rw [if_pos (by unfold fin; omega), g7]
            · right
              refine ⟨K7, N7, ?_, ?_, hF⟩
              · rw [cpre, c1]
                show ((s_X3_readTuner K1 x).bind _) = _
                rw [cfr, c7]
                rfl
              · rw [mfr, m7]
                rfl
          · rw [if_pos hfk] at cfr
            rw [if_neg (show ¬ kx b L lim p5 = ((13 : Nat) : Int) from hfk)] at mfr
            refine fin1 K5 N4' p5 0 (by decide) fs_refl ?_ fs_refl ?_ hA5 (Nat.le_refl _) ?_ mfr
            · rw [k37]
              funext i
              unfold upd1
              by_cases e : i = (k * 3 + 2).toNat
              · rw [if_pos e, if_pos e]
              · rw [if_neg e, if_neg e]
            · have hz : N4' 124 (1236 + 3 * k + 2).toNat = 0 := by rw [n124, upd1_ne (by omega), upd1_ne (by omega), show (1236 + 3 * k + 2).toNat = (1238 + 3 * k).toNat by omega, hpri0]
              funext i
              by_cases e : i = (1236 + 3 * k + 2).toNat
              · rw [e, upd1_at, hz]
              · rw [upd1_ne e]
            · rw [cpre, c1]
              show ((s_X3_readTuner K1 x).bind _) = _
              rw [cfr]
              rfl
        · right
          have s1 := m_tun46 (N := N3') (k := k) (y := y) ⟨hc0.1, hlt⟩ (0 + 1) (by decide) m4
          rw [if_pos rfl] at s1
          refine ⟨K4, N4, ?_, ?_, hF⟩
          · rw [cpre, c1]
            show ((s_X3_readTuner K1 x).bind _) = _
            rw [ctun, c3]
            show (((s_X10_takeNumber (fup K3 37 (k * 3).toNat a) 0 99).bind _).bind _) = _
            rw [c4]
            rfl
          · have l46 : s_X12_tuner_l46 k y (0, N1) = some (.inr (0, N4)) := by
              unfold s_X12_tuner_l46
              rw [fLp_stp (b := fun s : Int × fM => s_X12_tuner_b46 s.2 k y s.1) (s := (0, N1)) s0, fLp_eq]
              show (s_X12_tuner_b46 N3' k y (0 + 1)).bind _ = _
              rw [s1]
              rfl
            rw [mpre, m1]
            show ((s_X12_next N0).bind _) = _
            rw [m1n]
            show ((s_X12_tuner_l46 k (N0 122 17) (0, N1)).bind _) = _
            rw [g1, l46]
            rfl
      · right
        have s0 := m_tun46 (N := N1) (k := k) (y := y) ⟨hc0.1, hlt⟩ 0 (by decide) m3
        rw [if_pos rfl] at s0
        refine ⟨K3, N3, ?_, ?_, hF⟩
        · rw [cpre, c1]
          show ((s_X3_readTuner K1 x).bind _) = _
          rw [ctun, c3]
          rfl
        · have l46 : s_X12_tuner_l46 k y (0, N1) = some (.inr (0, N3)) := by
            unfold s_X12_tuner_l46
            rw [fLp_eq]
            show (s_X12_tuner_b46 N1 k y 0).bind _ = _
            rw [s0]
            rfl
          rw [mpre, m1]
          show ((s_X12_next N0).bind _) = _
          rw [m1n]
          show ((s_X12_tuner_l46 k (N0 122 17) (0, N1)).bind _) = _
          rw [g1, l46]
          rfl
    · right
      refine ⟨K1, N1, ?_, ?_, hF⟩
      · rw [cpre, c1]
        rfl
      · rw [mpre, m1]
        rfl
  · rw [if_neg hlt] at hroom
    right
    refine ⟨Kf, Nf, ?_, ?_, f3⟩
    · unfold cTuner
      rw [hroom]
      rfl
    · unfold s_X12_tuner
      rw [hn14, if_neg (fun e => e (by omega)), f2]
      rfl
theorem tab_step {K N : fM} {b : Nat → Int} {L lim p : Nat} (h : StB K N b L lim p) {k : Nat} (hk : k < 12) {lo hi : Int} (hc : ∀ v : Int, 0 ≤ v → ((lo ≤ v ∧ v ≤ hi) ↔ (1000 ≤ v ∧ v ≤ 99999) ∧ (k = 0 ∨ (N 124 (645 + k) < v ∧ v < 2 * N 124 646)))) (hb : k ≠ 0 → 0 ≤ N 124 646 ∧ N 124 646 ≤ 99999) : (∃ v K' N', s_X10_takeNumber K lo hi = some (.inl v, K') ∧ s_X12_table_b12 N (k : Int) = some (.inl ((k : Int) + 1, N')) ∧ StB K' N' b L lim (tNx b L lim p) ∧ N' 124 = upd1 (N 124) (646 + k) v ∧ (lo ≤ v ∧ v ≤ hi) ∧ (1000 ≤ v ∧ v ≤ 99999) ∧ fSame tkL K K' ∧ fSame [(122, some 4), (122, some 11), (122, some 12), (122, some 13), (122, some 14), (122, some 17), (122, some 18), (124, none)] N N' ∧ p < tNx b L lim p) ∨ (∃ K' N', s_X10_takeNumber K lo hi = some (.inr (), K') ∧ s_X12_table_b12 N (k : Int) = some (.inr (.inr (0, N'))) ∧ Ft K' N') := by
  obtain ⟨K1, c1, c2, hA⟩ := sim_take h
  have hA0 := hA
  obtain ⟨h1, h2, h3, h4, h5, h6, h7⟩ := hA
  obtain ⟨-, kd3, -, -, -⟩ := kd_ne h4
  have etn : s_X10_takeNumber K lo hi = (s_X10_numberHere K1 lo hi).bind fun y7 => fel y7.1 (fun w7 => some (.inl w7, y7.2)) (some (.inr (), y7.2)) := by
    unfold s_X10_takeNumber
    rw [c1]
    rfl
  rw [etn]
  have i12 : ¬ (12 : Int) ≤ (k : Int) := by omega
  by_cases hk3 : tKd b L lim p = 3
  · have hv := tV_b hk3
    have k7 : K1 1 7 = tV b L p := h3.2.2.2.2 hk3
    have n14 : N 122 14 = tV b L p := (h4.2.2.2.2.2.1 hk3).2
    have n11 : N 122 11 = 2 := (h4.2.2.2.2.2.1 hk3).1
    have k6 : K1 1 6 = 3 := by rw [h3.2.2.1, hk3]; rfl
    obtain ⟨v, hvd⟩ : ∃ v, v = tV b L p := ⟨_, rfl⟩
    rw [← hvd] at hv k7 n14
    have hcv := hc v hv.1
    have gi : (645 + (k : Int)).toNat = 645 + k := by omega
    have gi2 : (646 + (k : Int)).toNat = 646 + k := by omega
    have j91 : ∀ t0 : Int, s_X12_table_j91 N (k : Int) t0 = if t0 = 0 then (s_X12_bad N 2).bind (fun y98 => if b01 y98.1 then some (.inr (.inr (y98.1, y98.2))) else none) else (s_X12_next (fup N 124 (646 + k) v)).bind fun y117 => some (.inl ((k : Int) + 1, y117.2)) := by
      intro t0
      unfold s_X12_table_j91
      rw [gi2, n14, if_pos (show fin (646 + (k : Int)) ∧ (0 ≤ 646 + (k : Int) ∧ 646 + (k : Int) < 1290) by unfold fin; omega)]
      simp only [if_pos (show fin ((k : Int) + 1) by unfold fin; omega)]
      by_cases g : t0 = 0
      · rw [if_neg (fun e => e g), if_pos g]
      · rw [if_pos g, if_neg g]
    have ev : s_X12_table_b12 N (k : Int) = if (lo ≤ v ∧ v ≤ hi) then s_X12_table_j91 N (k : Int) 1 else s_X12_table_j91 N (k : Int) 0 := by
      unfold s_X12_table_b12 s_X12_table_j90 s_X12_table_j86
      rw [if_neg i12, if_pos n11, n14, m_isIn, Option.bind_some, bit_if]
      by_cases g1 : 1000 ≤ v ∧ v ≤ 99999
      · rw [if_pos g1]
        by_cases g2 : k = 0
        · rw [if_pos (show (k : Int) = 0 by omega), if_pos (hcv.2 ⟨g1, .inl g2⟩)]
        · have hb2 := hb g2
          rw [if_neg (show ¬ (k : Int) = 0 by omega), if_pos (show fin (645 + (k : Int)) ∧ (0 ≤ 645 + (k : Int) ∧ 645 + (k : Int) < 1290) by unfold fin; omega), gi, if_pos (show fin (2 * N 124 646) by unfold fin; omega)]
          by_cases g3 : v ≤ N 124 (645 + k)
          · rw [if_pos g3, if_neg (fun e => by have := (hcv.1 e).2; omega)]
          · rw [if_neg g3]
            by_cases g4 : 2 * N 124 646 ≤ v
            · rw [if_pos g4, if_neg (fun e => by have := (hcv.1 e).2; omega)]
            · rw [if_neg g4, if_pos (hcv.2 ⟨g1, .inr ⟨by omega, by omega⟩⟩)]
      · rw [if_neg g1, if_neg (fun e => g1 (hcv.1 e).1)]
    by_cases hr : lo ≤ v ∧ v ≤ hi
    · left
      have hcl : s_X10_numberHere K1 lo hi = some (.inl v, K1) := by
        unfold s_X10_numberHere s_X10_numberHere_j13
        rw [if_pos k6, k7, if_neg (by omega), if_pos hr.2]
      have fn1 : fSame [(124, none)] N (fup N 124 (646 + k) v) := fs_up fs_refl (.inl (by decide))
      obtain ⟨N', m1, m2, m3⟩ := sim_next (StA_m fn1 (by decide) hA0)
      refine ⟨v, K1, N', ?_, ?_, m3, by rw [fs_row m2 124 (by decide), fup_eq], hr, (hcv.1 hr).1, c2, fs_trans (fs_mono (by decide) fn1) (fs_mono (by decide) m2), tNx_lt h5 (by omega)⟩
      · rw [hcl]
        rfl
      · rw [ev, if_pos hr, j91, if_neg (by decide), m1]
        rfl
    · right
      obtain ⟨K2, N2, f1, f2, f3⟩ := sim_fail hA0 2 (by decide)
      refine ⟨K2, N2, ?_, ?_, f3⟩
      · have hcl : s_X10_numberHere K1 lo hi = some (.inr (), K2) := by
          unfold s_X10_numberHere s_X10_numberHere_j13 s_X10_numberHere_j29
          rw [if_pos k6, k7, f1]
          by_cases g : v < lo
          · rw [if_pos g]
            rfl
          · rw [if_neg g, if_neg (by omega)]
            rfl
        rw [hcl]
        rfl
      · rw [ev, if_neg hr, j91, if_pos rfl, f2]
        rfl
  · right
    have k6 : ¬ K1 1 6 = 3 := by rw [h3.2.2.1]; omega
    obtain ⟨K2, N2, f1, f2, f3⟩ := sim_fail hA0 1 (by decide)
    refine ⟨K2, N2, ?_, ?_, f3⟩
    · have hcl : s_X10_numberHere K1 lo hi = some (.inr (), K2) := by
        unfold s_X10_numberHere
        rw [if_neg k6, f1]
        rfl
      rw [hcl]
      rfl
    · unfold s_X12_table_b12
      rw [if_neg i12, if_neg (fun e => hk3 (kd3.1 e)), f2]
      rfl
theorem tab_loop {b : Nat → Int} {L lim : Nat} : ∀ (j k : Nat), k + j = 12 → 1 ≤ k → ∀ (K N : fM) (p : Nat) (tone most : Int), StB K N b L lim p → (∀ i, i < k → N 124 (646 + i) = K 29 i ∧ 1000 ≤ K 29 i ∧ K 29 i ≤ 99999) → tone = K 29 (k - 1) → most = (if 2 * K 29 0 - 1 < 99999 then 2 * K 29 0 - 1 else 99999) → (∃ K' N' p', s_X3_readTable_l49 most (tone, (k : Int), K) = some (.inl K') ∧ s_X12_table_l12 ((k : Int), N) = some (.inl N') ∧ StB K' N' b L lim p' ∧ (∀ i, i < 12 → N' 124 (646 + i) = K' 29 i ∧ 1000 ≤ K' 29 i ∧ K' 29 i ≤ 99999) ∧ (∀ i : Nat, ¬ (646 ≤ i ∧ i < 658) → N' 124 i = N 124 i) ∧ fSame [(1, some 4), (1, some 5), (1, some 6), (1, some 7), (1, some 8), (29, none)] K K' ∧ fSame [(122, some 4), (122, some 11), (122, some 12), (122, some 13), (122, some 14), (122, some 17), (122, some 18), (124, none)] N N' ∧ p ≤ p') ∨ (∃ K' N', s_X3_readTable_l49 most (tone, (k : Int), K) = some (.inr (.inr (), K')) ∧ s_X12_table_l12 ((k : Int), N) = some (.inr (0, N')) ∧ Ft K' N')
  | 0, k, hk, h1, K, N, p, tone, most, hB, hi, ht, hmo => by
    have : k = 12 := by omega
    subst this
    left
    refine ⟨K, N, p, ?_, ?_, hB, hi, fun i _ => rfl, fs_refl, fs_refl, Nat.le_refl _⟩
    · unfold s_X3_readTable_l49
      rw [fLp_eq]
      rfl
    · unfold s_X12_table_l12
      rw [fLp_eq]
      rfl
  | j + 1, k, hk, h1, K, N, p, tone, most, hB, hi, ht, hmo => by
    have i0 := hi 0 (by omega)
    have ik := hi (k - 1) (by omega)
    have e645 : N 124 (645 + k) = tone := by
      rw [show 645 + k = 646 + (k - 1) by omega, ik.1, ht]
    have e646 : N 124 646 = K 29 0 := i0.1
    have hto : 1000 ≤ tone ∧ tone ≤ 99999 := by rw [ht]; exact ik.2
    have cpre : ∀ y : (Int ⊕ Unit) × fM, s_X10_takeNumber K (tone + 1) most = some y → s_X3_readTable_b49 K tone most (k : Int) = fel y.1 (fun w63 => some (.inl (w63, ((k : Int) + 1), fup y.2 29 k w63))) (some (.inr (.inr (.inr (), y.2)))) := by
      intro y hy
      unfold s_X3_readTable_b49
      rw [if_neg (by omega), if_pos (by unfold fin; omega), hy, Option.bind_some]
      simp only [if_pos (show (0 ≤ (k : Int) ∧ (k : Int) < 12) ∧ fin ((k : Int) + 1) by unfold fin; omega)]
      rfl
    rcases tab_step hB (k := k) (by omega) (lo := tone + 1) (hi := most) (fun v hv => by
        rw [e645, e646, hmo]
        split <;> omega) (fun _ => by rw [e646]; omega) with ⟨v, K2, N2, c2, m2, hB2, n2, r2, rv, fk2, fn2, lt2⟩ | ⟨K2, N2, c2, m2, hF⟩
    · have hst := cpre _ c2
      have fk3 : fSame [(29, none)] K2 (fup K2 29 k v) := fs_up fs_refl (.inl (by decide))
      have k29 : K2 29 = K 29 := fs_row fk2 29 (by decide)
      have hx1 : s_X3_readTable_l49 most (tone, (k : Int), K) = s_X3_readTable_l49 most (v, ((k + 1 : Nat) : Int), fup K2 29 k v) := by
        unfold s_X3_readTable_l49
        exact fLp_stp (b := fun s : Int × Int × fM => s_X3_readTable_b49 s.2.2 s.1 most s.2.1) hst
      have hx2 : s_X12_table_l12 ((k : Int), N) = s_X12_table_l12 (((k + 1 : Nat) : Int), N2) := by
        unfold s_X12_table_l12
        exact fLp_stp (b := fun s : Int × fM => s_X12_table_b12 s.2 s.1) m2
      rw [hx1, hx2]
      have hnew : ∀ i, i < k + 1 → N2 124 (646 + i) = fup K2 29 k v 29 i ∧ 1000 ≤ fup K2 29 k v 29 i ∧ fup K2 29 k v 29 i ≤ 99999 := fun i hi2 => by
        rw [n2, fup_eq, k29]
        by_cases e : i = k
        · subst e
          rw [upd1_at, upd1_at]
          exact ⟨rfl, rv⟩
        · rw [upd1_ne (by omega), upd1_ne e]
          exact hi i (by omega)
      rcases tab_loop j (k + 1) (by omega) (by omega) (fup K2 29 k v) N2 _ v most (StB_c fk3 (by decide) hB2) hnew (by rw [Nat.add_sub_cancel, fup_eq, upd1_at]) (by rw [hmo, fup_eq, upd1_ne (by omega), k29]) with ⟨K', N', p', a1, a2, a3, a4, a5, a6, a7, a8⟩ | hF
      · left
        refine ⟨K', N', p', a1, a2, a3, a4, fun i hi2 => ?_, fs_trans (fs_mono (by decide) fk2) (fs_trans (fs_mono (by decide) fk3) a6), fs_trans fn2 a7, by omega⟩
        rw [a5 i hi2, n2, upd1_ne (by omega)]
      · exact .inr hF
    · right
      have hst := cpre _ c2
      refine ⟨K2, N2, ?_, ?_, hF⟩
      · unfold s_X3_readTable_l49
        rw [fLp_eq]
        show (s_X3_readTable_b49 K tone most (k : Int)).bind _ = _
        rw [hst]
        rfl
      · unfold s_X12_table_l12
        rw [fLp_eq]
        show (s_X12_table_b12 N (k : Int)).bind _ = _
        rw [m2]
        rfl
theorem ln_table {K N : fM} {b : Nat → Int} {L lim p : Nat} (hA : StA K N b L lim p) (hH : HD (dr K) N) (hT : Tb K N) (hk : kx b L lim p = 0) : LnO (s_X3_readTable K) (s_X12_table N) K N b L lim p := by
  have h2 := kx_two hA.2.2.2.2.1 (show 0 < 30 by omega) hk
  rcases sim_once hA hT (kw := 0) (bit := 0) (by decide) with ⟨a', N1, c1, m1, hB1, hT1, f1⟩ | ⟨K1, N1, c1, m1, hF⟩
  · have m1' : s_X12_once N 0 = some (1, N1) := m1
    have c1' : s_X3_withTold K (K 27 2) 0 = some (.inl a', K) := c1
    have mpre : s_X12_table N = (s_X12_table_l12 (0, N1)).bind fun e12 => Sum.elim (fun x12 => some (1, fup x12 124 645 1)) (fun v12 => some v12) e12 := by
      unfold s_X12_table
      rw [m1']
      rfl
    rcases tab_step hB1 (k := 0) (by decide) (lo := 1000) (hi := 99999) (fun v hv => ⟨fun e => ⟨e, .inl rfl⟩, fun e => e.1⟩) (fun e => absurd rfl e) with ⟨v, K2, N2, c2, m2, hB2, n2, r2, rv, fk2, fn2, lt2⟩ | ⟨K2, N2, c2, m2, hF⟩
    · have cpre : s_X3_readTable K = (s_X3_readTable_l49 (if 2 * v - 1 < 99999 then 2 * v - 1 else 99999) (v, 1, fup K2 29 0 v)).bind fun e49 => Sum.elim (fun x49 => (s_X10_take x49).bind fun y87 => some (.inl (), y87.2)) (fun v49 => some v49) e49 := by
        unfold s_X3_readTable
        rw [c1']
        show ((s_X10_takeNumber (fup K 27 2 a') 1000 99999).bind _) = _
        rw [c2]
        show (if fin (2 * v) ∧ fin (2 * v - 1) then (s_J9_min K2 99999 (2 * v - 1)).bind _ else none) = _
        rw [if_pos (by unfold fin; omega), c_min, Option.bind_some]
      have hx2 : s_X12_table_l12 (0, N1) = s_X12_table_l12 (((1 : Nat) : Int), N2) := by
        unfold s_X12_table_l12
        exact fLp_stp (b := fun s : Int × fM => s_X12_table_b12 s.2 s.1) m2
      rw [hx2] at mpre
      have fk3 : fSame [(29, none)] K2 (fup K2 29 0 v) := fs_up fs_refl (.inl (by decide))
      rcases tab_loop 11 1 (by decide) (by decide) (fup K2 29 0 v) N2 _ v (if 2 * v - 1 < 99999 then 2 * v - 1 else 99999) (StB_c fk3 (by decide) hB2) (fun i hi => by
          have : i = 0 := by omega
          subst this
          rw [n2, fup_eq, upd1_at, upd1_at]
          exact ⟨rfl, rv⟩) (by rw [fup_eq]; exact (upd1_at _ _ _).symm) (by rw [fup_eq, upd1_at]) with ⟨K4, N4, p', a1, a2, a3, a4, a5, a6, a7, a8⟩ | ⟨K4, N4, a1, a2, hF⟩
      · left
        have fn5 : fSame [(124, none)] N4 (fup N4 124 645 1) := fs_up fs_refl (.inl (by decide))
        obtain ⟨K6, c6, fk6, hA6⟩ := sim_take (StB_m fn5 (by decide) a3)
        have fK : fSame [(1, some 4), (1, some 5), (1, some 6), (1, some 7), (1, some 8), (27, some 2), (29, none)] K K6 := fs_trans (fs_up fs_refl (.inr (by decide))) (fs_trans (fs_mono (by decide) fk2) (fs_trans (fs_mono (by decide) fk3) (fs_trans (fs_mono (by decide) a6) (fs_mono (by decide) fk6))))
        have fN : fSame [(122, some 4), (122, some 11), (122, some 12), (122, some 13), (122, some 14), (122, some 17), (122, some 18), (122, some 19), (124, none)] N (fup N4 124 645 1) := fs_trans (fs_mono (by decide) f1) (fs_trans (fs_mono (by decide) fn2) (fs_trans (fs_mono (by decide) a7) (fs_mono (by decide) fn5)))
        have k29 : K6 29 = K4 29 := fs_row fk6 29 (by decide)
        have n1 : N1 124 = N 124 := fs_row f1 124 (by decide)
        refine ⟨K6, fup N4 124 645 1, p', ?_, ?_, hA6, by omega, HD_table hH (fun j h1 h2 => by show 1000 ≤ K6 29 j.toNat ∧ K6 29 j.toNat ≤ 99999; rw [k29]; exact (a4 j.toNat (by omega)).2) (by rw [fup_eq, upd1_at]) (fun j h1 h2 => by show fup N4 124 645 1 124 (646 + j).toNat = K6 29 j.toNat; rw [k29, fup_eq, upd1_ne (by omega), show (646 + j).toNat = 646 + j.toNat by omega]; exact (a4 j.toNat (by omega)).1) (fs_row fK 30 (by decide)) (fs_row fK 31 (by decide)) (fs_row fK 32 (by decide)) (fs_row fK 33 (by decide)) (fs_row fK 34 (by decide)) (fs_row fK 35 (by decide)) (fs_row fK 36 (by decide)) (fs_row fK 37 (by decide)) (fs_row fK 38 (by decide)) (fs_row fK 39 (by decide)) (fs_row fK 40 (by decide)) (fs_row fK 41 (by decide)) (fs_at fK 28 13 (by decide)) (fs_at fK 28 14 (by decide)) (fs_at fK 28 15 (by decide)) (fs_at fK 28 16 (by decide)) (fs_row fN 126 (by decide)) (fun i hi => by rw [fup_eq, upd1_ne (by omega), a5 i (by omega), n2, upd1_ne (by omega), n1]), Tb_fs (l := [(1, some 4), (1, some 5), (1, some 6), (1, some 7), (1, some 8), (29, none)]) (l' := [(122, some 4), (122, some 11), (122, some 12), (122, some 13), (122, some 14), (122, some 17), (122, some 18), (124, none)]) (fs_trans (fs_mono (by decide) fk2) (fs_trans (fs_mono (by decide) fk3) (fs_trans (fs_mono (by decide) a6) (fs_mono (by decide) fk6)))) (by decide) (fs_trans (fs_mono (by decide) fn2) (fs_trans (fs_mono (by decide) a7) (fs_mono (by decide) fn5))) (by decide) hT1, fs_at fK 28 17 (by decide), fs_at fN 122 20 (by decide)⟩
        · have a1' : s_X3_readTable_l49 (if 2 * v - 1 < 99999 then 2 * v - 1 else 99999) (v, 1, fup K2 29 0 v) = some (.inl K4) := a1
          rw [cpre, a1']
          show ((s_X10_take K4).bind _) = _
          rw [c6]
          rfl
        · rw [mpre, a2]
          rfl
      · right
        have a1' : s_X3_readTable_l49 (if 2 * v - 1 < 99999 then 2 * v - 1 else 99999) (v, 1, fup K2 29 0 v) = some (.inr (.inr (), K4)) := a1
        refine ⟨K4, N4, ?_, ?_, hF⟩
        · rw [cpre, a1']
          rfl
        · rw [mpre, a2]
          rfl
    · right
      refine ⟨K2, N2, ?_, ?_, hF⟩
      · unfold s_X3_readTable
        rw [c1']
        show ((s_X10_takeNumber (fup K 27 2 a') 1000 99999).bind _) = _
        rw [c2]
        rfl
      · have hx : s_X12_table_l12 (0, N1) = some (.inr (0, N2)) := by
          unfold s_X12_table_l12
          rw [fLp_eq]
          show (s_X12_table_b12 N1 ((0 : Nat) : Int)).bind _ = _
          rw [m2]
          rfl
        rw [mpre, hx]
        rfl
  · right
    have m1' : s_X12_once N 0 = some (0, N1) := m1
    have c1' : s_X3_withTold K (K 27 2) 0 = some (.inr (), K1) := c1
    refine ⟨K1, N1, ?_, ?_, hF⟩
    · unfold s_X3_readTable
      rw [c1']
      rfl
    · unfold s_X12_table
      rw [m1']
      rfl
