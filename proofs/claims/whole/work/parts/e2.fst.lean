/-! ===== records: what stands behind the piano ===== -/
def RA (K N : fM) (n : Nat) (kd : Int) : Prop := (kd = 0 ∨ kd = 2 ∨ kd = 3 ∨ kd = 6 → N 125 (19 * n + 4) = K 23 n) ∧ (kd = 6 → N 125 (19 * n + 5) = K 24 n) ∧ (kd = 0 → 0 ≤ K 23 n ∧ K 23 n < K 4 14) ∧ (kd = 3 → 1 ≤ K 23 n ∧ K 23 n ≤ 9999) ∧ (kd = 6 → (0 ≤ K 23 n ∧ K 23 n ≤ 99) ∧ (0 ≤ K 24 n ∧ K 24 n ≤ 99))
abbrev raK : List (Nat × Option Nat) := [(1, some 4), (1, some 5), (1, some 6), (1, some 7), (1, some 8), (23, none), (24, none)]
abbrev raN : List (Nat × Option Nat) := [(122, some 4), (122, some 11), (122, some 12), (122, some 13), (122, some 14), (122, some 17), (122, some 18), (125, none)]
/-- the class behind `begin` -/
noncomputable def cFst (K : fM) (n kd : Int) : Option ((Unit ⊕ Unit) × fM) := if ¬ kd = 0 then (if ¬ kd = 2 then (if ¬ kd = 3 then (if ¬ kd = 6 then s_X5_readLine_j143 K n kd else (s_X10_takeNumber K 0 99).bind fun y120 => fel y120.1 (fun w120 => if (0 ≤ n ∧ n < 200) then (s_X10_takeNumber (fup y120.2 23 (n).toNat w120) 0 99).bind (fun y139 => fel y139.1 (fun w139 => if (0 ≤ n ∧ n < 200) then s_X5_readLine_j143 (fup y139.2 24 (n).toNat w139) n kd else none) (some (.inr (), y139.2))) else none) (some (.inr (), y120.2))) else (s_X10_takeNumber K 1 9999).bind fun y92 => fel y92.1 (fun w92 => if (0 ≤ n ∧ n < 200) then s_X5_readLine_j143 (fup y92.2 23 (n).toNat w92) n kd else none) (some (.inr (), y92.2))) else (s_X10_takeNumber K 0 3).bind fun y64 => fel y64.1 (fun w64 => if (0 ≤ n ∧ n < 200) then s_X5_readLine_j143 (fup y64.2 23 (n).toNat w64) n kd else none) (some (.inr (), y64.2))) else (s_X5_takeTuner K).bind fun y38 => fel y38.1 (fun w38 => if (0 ≤ n ∧ n < 200) then s_X5_readLine_j143 (fup y38.2 23 (n).toNat w38) n kd else none) (some (.inr (), y38.2))
/-- the reference behind the piano's name -/
noncomputable def rFst (N : fM) (kd to : Int) : Option (Int × fM) := if ¬ kd = 0 then s_X12_record_j114 N kd to else (s_X12_takesName N 0 1).bind fun y106 => if ¬ y106.1 = 0 then s_X12_record_j114 y106.2 kd to else some (0, y106.2)
noncomputable def rWhen (N : fM) (kd to : Int) : Option (Int × fM) := (s_X12_when N kd to).bind fun y207 => if y207.1 = 0 then some (0, y207.2) else if 1 < kd then some (1, y207.2) else (s_X12_notes y207.2 kd to).bind fun y221 => if y221.1 = 0 then some (0, y221.2) else some (1, y221.2)
/-- fields 4 and 5 anew -/
def up45 (N : fM) (n : Nat) (v w : Int) : fM := fup (fup N 125 (19 * n + 4) v) 125 (19 * n + 5) w
theorem up45_fs (N : fM) (n : Nat) (v w : Int) : fSame [(125, none)] N (up45 N n v w) := fs_up (fs_up fs_refl (.inl (by decide))) (.inl (by decide))
theorem up45_ne {N : fM} {n j : Nat} {v w : Int} (h4 : j ≠ 19 * n + 4) (h5 : j ≠ 19 * n + 5) : up45 N n v w 125 j = N 125 j := by
  unfold up45
  rw [fup_eq, upd1_ne h5, fup_eq, upd1_ne h4]
theorem up45_4 {N : fM} {n : Nat} {v w : Int} : up45 N n v w 125 (19 * n + 4) = v := by
  unfold up45
  rw [fup_eq, upd1_ne (by omega), fup_eq, upd1_at]
theorem up45_5 {N : fM} {n : Nat} {v w : Int} : up45 N n v w 125 (19 * n + 5) = w := by
  unfold up45
  rw [fup_eq, upd1_at]
theorem j192_eq {N : fM} {n : Nat} (hn : n < 200) (kd : Int) : s_X12_record_j192 N kd (19 * (n : Int)) = rWhen (fup N 125 (19 * n + 5) (N 122 18)) kd (19 * (n : Int)) := by
  unfold s_X12_record_j192 rWhen
  rw [if_pos (by unfold fin; omega), show (19 * (n : Int) + 5).toNat = 19 * n + 5 by omega]
theorem j162_eq {N : fM} {n : Nat} (hn : n < 200) (kd : Int) (h6 : ¬ kd = 6) : s_X12_record_j162 N kd (19 * (n : Int)) = rWhen (up45 N n (N 122 18) (N 122 18)) kd (19 * (n : Int)) := by
  unfold s_X12_record_j162
  rw [if_pos (by unfold fin; omega), show (19 * (n : Int) + 4).toNat = 19 * n + 4 by omega, if_pos h6, j192_eq hn]
  rfl
theorem r_fst {K N : fM} {b : Nat → Int} {L lim p n : Nat} (hB : StB K N b L lim p) (hH : HR K N) (hn : n < 200) {kd : Int} (hk : 0 ≤ kd ∧ kd ≤ 6) : (∃ K' N' p', cFst K (n : Int) kd = s_X5_readLine_j143 K' (n : Int) kd ∧ rFst N kd (19 * (n : Int)) = rWhen N' kd (19 * (n : Int)) ∧ StB K' N' b L lim p' ∧ p ≤ p' ∧ RA K' N' n kd ∧ fSame raK K K' ∧ fSame raN N N' ∧ RK n K K' ∧ (∀ j, j ≠ 19 * n + 4 → j ≠ 19 * n + 5 → N' 125 j = N 125 j)) ∨ (∃ K' N', cFst K (n : Int) kd = some (.inr (), K') ∧ rFst N kd (19 * (n : Int)) = some (0, N') ∧ Ft K' N' ∧ RK n K K' ∧ RN n N N') := by
  have hbn : (0 ≤ (n : Int) ∧ (n : Int) < 200) := by omega
  have toN : ((n : Int)).toNat = n := rfl
  have hkc : kd = 0 ∨ kd = 2 ∨ kd = 3 ∨ kd = 6 ∨ (¬ kd = 0 ∧ ¬ kd = 2 ∧ ¬ kd = 3 ∧ ¬ kd = 6) := by omega
  rcases hkc with h | h | h | h | ⟨h0, h2, h3, h6⟩
  · -- tuned: a tuner
    subst h
    have hnm : ∀ K', fSame tkL K K' → isW (tW b L p) → N 122 17 = enc8 (tW b L p) → ∃ v, s_X2_tunerNamed_4 K' (enc5 (tW b L p)) = some v ∧ s_X12_find N 0 1 = some v ∧ -1 ≤ v ∧ v < K 4 14 := fun K' f hw h17 => by
      have := fd_tuner0 (HR_fs f (by decide) (fs_refl (l := [])) (by decide) hH) hw h17
      rw [fs_at f 4 14 (by decide)] at this
      exact this
    rcases sim_old hB (nm := s_X2_tunerNamed_4) (hs := 0) (ss := 1) (B := K 4 14) hnm with ⟨x1, v, K1, N1, c1, ct1, v0, v1, m1, g1, hB1, fk1, fn1, lt1⟩ | ⟨K1, N1, c1, m1, hF⟩
    · left
      have ctt : s_X5_takeTuner K = some (.inl v, K1) := by
        unfold s_X5_takeTuner
        rw [c1]
        show ((s_X2_tunerNamed_4 K1 x1).bind _) = _
        rw [ct1, Option.bind_some, if_pos v0]
      have fk2 : fSame [(23, none)] K1 (fup K1 23 n v) := fs_up fs_refl (.inl (by decide))
      refine ⟨fup K1 23 n v, up45 N1 n v v, _, ?_, ?_, StB_m (up45_fs N1 n v v) (by decide) (StB_c fk2 (by decide) hB1), by omega, ⟨fun _ => by rw [up45_4, fup_eq, upd1_at], fun e => absurd e (by decide), fun _ => by rw [fup_eq, upd1_at, fup_ne (by decide), fs_at fk1 4 14 (by decide)]; exact ⟨v0, v1⟩, fun e => absurd e (by decide), fun e => absurd e (by decide)⟩, fs_trans (fs_mono (by decide) fk1) (fs_mono (by decide) fk2), fs_trans (fs_mono (by decide) fn1) (fs_mono (by decide) (up45_fs N1 n v v)), RK_up (RK_fs fk1 (by decide)) (by decide) (by decide), fun j h4 h5 => by rw [up45_ne h4 h5, fs_row fn1 125 (by decide)]⟩
      · unfold cFst
        rw [if_neg (show ¬ ¬ (0 : Int) = 0 by decide), ctt, Option.bind_some, fel_l, if_pos hbn, toN]
      · unfold rFst
        rw [if_neg (show ¬ ¬ (0 : Int) = 0 by decide), m1, Option.bind_some, if_pos (show ¬ (1 : Int) = 0 by decide)]
        unfold s_X12_record_j114 s_X12_record_j128 s_X12_record_j144
        rw [if_pos (by decide), if_pos (by decide), if_pos (by decide), j162_eq hn 0 (by decide)]
        show rWhen (up45 N1 n (N1 122 18) (N1 122 18)) 0 (19 * (n : Int)) = _
        rw [g1]
    · right
      have ctt : s_X5_takeTuner K = some (.inr (), K1) := by
        unfold s_X5_takeTuner
        rcases c1 with c1 | ⟨x1, v, K3, c1, c3, v0, c4⟩
        · rw [c1]
          rfl
        · rw [c1]
          show ((s_X2_tunerNamed_4 K3 x1).bind _) = _
          rw [c3, Option.bind_some, if_neg (by omega)]
          show ((s_X10_fail K3 3).bind _) = _
          rw [c4]
          rfl
      refine ⟨K1, N1, ?_, ?_, hF, RK_fs (s_X5_takeTuner_fr ctt) (by decide), RN_fs (s_X12_takesName_fr m1) (by decide)⟩
      · unfold cFst
        rw [if_neg (show ¬ ¬ (0 : Int) = 0 by decide), ctt]
        rfl
      · unfold rFst
        rw [if_neg (show ¬ ¬ (0 : Int) = 0 by decide), m1]
        rfl
  · -- broke: a sort
    subst h
    rcases sim_num hB 0 3 with ⟨K1, N1, c1, m1, hB1, g1, r1, fk1, fn1, lt1⟩ | ⟨K1, N1, c1, m1, hF⟩
    · left
      obtain ⟨v, hvd⟩ : ∃ v, v = tV b L p := ⟨_, rfl⟩
      rw [← hvd] at c1 g1 r1
      have fk2 : fSame [(23, none)] K1 (fup K1 23 n v) := fs_up fs_refl (.inl (by decide))
      refine ⟨fup K1 23 n v, up45 N1 n v v, _, ?_, ?_, StB_m (up45_fs N1 n v v) (by decide) (StB_c fk2 (by decide) hB1), by omega, ⟨fun _ => by rw [up45_4, fup_eq, upd1_at], fun e => absurd e (by decide), fun e => absurd e (by decide), fun e => absurd e (by decide), fun e => absurd e (by decide)⟩, fs_trans (fs_mono (by decide) fk1) (fs_mono (by decide) fk2), fs_trans (fs_mono (by decide) fn1) (fs_mono (by decide) (up45_fs N1 n v v)), RK_up (RK_fs fk1 (by decide)) (by decide) (by decide), fun j h4 h5 => by rw [up45_ne h4 h5, fs_row fn1 125 (by decide)]⟩
      · unfold cFst
        rw [if_pos (show ¬ (2 : Int) = 0 by decide), if_neg (show ¬ ¬ (2 : Int) = 2 by decide), c1, Option.bind_some, fel_l, if_pos hbn, toN]
      · unfold rFst s_X12_record_j114
        rw [if_pos (show ¬ (2 : Int) = 0 by decide), if_neg (show ¬ ¬ (2 : Int) = 2 by decide), m1, Option.bind_some, if_neg (show ¬ (1 : Int) = 0 by decide)]
        unfold s_X12_record_j128 s_X12_record_j144
        rw [if_pos (by decide), if_pos (by decide), j162_eq hn 2 (by decide)]
        show rWhen (up45 N1 n (N1 122 18) (N1 122 18)) 2 (19 * (n : Int)) = _
        rw [g1]
    · right
      refine ⟨K1, N1, ?_, ?_, hF, RK_fs (s_X10_takeNumber_fr c1) (by decide), RN_fs (s_X12_takes_fr m1) (by decide)⟩
      · unfold cFst
        rw [if_pos (show ¬ (2 : Int) = 0 by decide), if_neg (show ¬ ¬ (2 : Int) = 2 by decide), c1]
        rfl
      · unfold rFst s_X12_record_j114
        rw [if_pos (show ¬ (2 : Int) = 0 by decide), if_neg (show ¬ ¬ (2 : Int) = 2 by decide), m1]
        rfl
  · -- paid: a sum
    subst h
    rcases sim_num hB 1 9999 with ⟨K1, N1, c1, m1, hB1, g1, r1, fk1, fn1, lt1⟩ | ⟨K1, N1, c1, m1, hF⟩
    · left
      obtain ⟨v, hvd⟩ : ∃ v, v = tV b L p := ⟨_, rfl⟩
      rw [← hvd] at c1 g1 r1
      have fk2 : fSame [(23, none)] K1 (fup K1 23 n v) := fs_up fs_refl (.inl (by decide))
      refine ⟨fup K1 23 n v, up45 N1 n v v, _, ?_, ?_, StB_m (up45_fs N1 n v v) (by decide) (StB_c fk2 (by decide) hB1), by omega, ⟨fun _ => by rw [up45_4, fup_eq, upd1_at], fun e => absurd e (by decide), fun e => absurd e (by decide), fun _ => by rw [fup_eq, upd1_at]; exact r1, fun e => absurd e (by decide)⟩, fs_trans (fs_mono (by decide) fk1) (fs_mono (by decide) fk2), fs_trans (fs_mono (by decide) fn1) (fs_mono (by decide) (up45_fs N1 n v v)), RK_up (RK_fs fk1 (by decide)) (by decide) (by decide), fun j h4 h5 => by rw [up45_ne h4 h5, fs_row fn1 125 (by decide)]⟩
      · unfold cFst
        rw [if_pos (show ¬ (3 : Int) = 0 by decide), if_pos (show ¬ (3 : Int) = 2 by decide), if_neg (show ¬ ¬ (3 : Int) = 3 by decide), c1, Option.bind_some, fel_l, if_pos hbn, toN]
      · unfold rFst s_X12_record_j114 s_X12_record_j128
        rw [if_pos (show ¬ (3 : Int) = 0 by decide), if_pos (show ¬ (3 : Int) = 2 by decide), if_neg (show ¬ ¬ (3 : Int) = 3 by decide), m1, Option.bind_some, if_neg (show ¬ (1 : Int) = 0 by decide)]
        unfold s_X12_record_j144
        rw [if_pos (by decide), j162_eq hn 3 (by decide)]
        show rWhen (up45 N1 n (N1 122 18) (N1 122 18)) 3 (19 * (n : Int)) = _
        rw [g1]
    · right
      refine ⟨K1, N1, ?_, ?_, hF, RK_fs (s_X10_takeNumber_fr c1) (by decide), RN_fs (s_X12_takes_fr m1) (by decide)⟩
      · unfold cFst
        rw [if_pos (show ¬ (3 : Int) = 0 by decide), if_pos (show ¬ (3 : Int) = 2 by decide), if_neg (show ¬ ¬ (3 : Int) = 3 by decide), c1]
        rfl
      · unfold rFst s_X12_record_j114 s_X12_record_j128
        rw [if_pos (show ¬ (3 : Int) = 0 by decide), if_pos (show ¬ (3 : Int) = 2 by decide), if_neg (show ¬ ¬ (3 : Int) = 3 by decide), m1]
        rfl
  · -- moved: two numbers
    subst h
    have cpre : cFst K (n : Int) 6 = (s_X10_takeNumber K 0 99).bind fun y120 => fel y120.1 (fun w120 => if (0 ≤ (n : Int) ∧ (n : Int) < 200) then (s_X10_takeNumber (fup y120.2 23 ((n : Int)).toNat w120) 0 99).bind (fun y139 => fel y139.1 (fun w139 => if (0 ≤ (n : Int) ∧ (n : Int) < 200) then s_X5_readLine_j143 (fup y139.2 24 ((n : Int)).toNat w139) (n : Int) 6 else none) (some (.inr (), y139.2))) else none) (some (.inr (), y120.2)) := by
      unfold cFst
      rw [if_pos (show ¬ (6 : Int) = 0 by decide), if_pos (show ¬ (6 : Int) = 2 by decide), if_pos (show ¬ (6 : Int) = 3 by decide), if_neg (show ¬ ¬ (6 : Int) = 6 by decide)]
    have mpre : rFst N 6 (19 * (n : Int)) = (s_X12_takes N 0 99).bind fun y154 => if ¬ y154.1 = 0 then s_X12_record_j162 y154.2 6 (19 * (n : Int)) else some (0, y154.2) := by
      unfold rFst s_X12_record_j114 s_X12_record_j128 s_X12_record_j144
      rw [if_pos (show ¬ (6 : Int) = 0 by decide), if_pos (show ¬ (6 : Int) = 2 by decide), if_pos (show ¬ (6 : Int) = 3 by decide), if_neg (show ¬ ¬ (6 : Int) = 6 by decide)]
    rcases sim_num hB 0 99 with ⟨K1, N1, c1, m1, hB1, g1, r1, fk1, fn1, lt1⟩ | ⟨K1, N1, c1, m1, hF⟩
    · obtain ⟨v, hvd⟩ : ∃ v, v = tV b L p := ⟨_, rfl⟩
      rw [← hvd] at c1 g1 r1
      have fk2 : fSame [(23, none)] K1 (fup K1 23 n v) := fs_up fs_refl (.inl (by decide))
      have fn2 : fSame [(125, none)] N1 (fup N1 125 (19 * n + 4) v) := fs_up fs_refl (.inl (by decide))
      have cp2 : cFst K (n : Int) 6 = (s_X10_takeNumber (fup K1 23 n v) 0 99).bind (fun y139 => fel y139.1 (fun w139 => if (0 ≤ (n : Int) ∧ (n : Int) < 200) then s_X5_readLine_j143 (fup y139.2 24 ((n : Int)).toNat w139) (n : Int) 6 else none) (some (.inr (), y139.2))) := by
        rw [cpre, c1, Option.bind_some, fel_l, if_pos hbn]
        rfl
      have mp2 : rFst N 6 (19 * (n : Int)) = (s_X12_takes (fup N1 125 (19 * n + 4) v) 0 99).bind fun y184 => if ¬ y184.1 = 0 then s_X12_record_j192 y184.2 6 (19 * (n : Int)) else some (0, y184.2) := by
        rw [mpre, m1, Option.bind_some, if_pos (show ¬ (1 : Int) = 0 by decide)]
        show s_X12_record_j162 N1 6 (19 * (n : Int)) = _
        unfold s_X12_record_j162
        rw [if_pos (by unfold fin; omega), show (19 * (n : Int) + 4).toNat = 19 * n + 4 by omega, if_neg (show ¬ ¬ (6 : Int) = 6 by decide), g1]
      rcases sim_num (StB_m fn2 (by decide) (StB_c fk2 (by decide) hB1)) 0 99 with ⟨K3, N3, c3, m3, hB3, g3, r3, fk3, fn3, lt3⟩ | ⟨K3, N3, c3, m3, hF⟩
      · left
        obtain ⟨w, hwd⟩ : ∃ w, w = tV b L (tNx b L lim p) := ⟨_, rfl⟩
        rw [← hwd] at c3 g3 r3
        have fk4 : fSame [(24, none)] K3 (fup K3 24 n w) := fs_up fs_refl (.inl (by decide))
        have fn4 : fSame [(125, none)] N3 (fup N3 125 (19 * n + 5) w) := fs_up fs_refl (.inl (by decide))
        have k23 : K3 23 n = v := by rw [fs_row fk3 23 (by decide), fup_eq, upd1_at]
        have n4 : N3 125 (19 * n + 4) = v := by rw [fs_row fn3 125 (by decide), fup_eq, upd1_at]
        refine ⟨fup K3 24 n w, fup N3 125 (19 * n + 5) w, _, ?_, ?_, StB_m fn4 (by decide) (StB_c fk4 (by decide) hB3), by omega, ⟨fun _ => by rw [fup_eq, upd1_ne (by omega), fup_ne (by decide), n4, k23], fun _ => by rw [fup_eq, upd1_at, fup_eq, upd1_at], fun e => absurd e (by decide), fun e => absurd e (by decide), fun _ => by rw [fup_ne (show (23 : Nat) ≠ 24 by decide), k23, fup_eq, upd1_at]; exact ⟨r1, r3⟩⟩, fs_trans (fs_mono (by decide) fk1) (fs_trans (fs_mono (by decide) fk2) (fs_trans (fs_mono (by decide) fk3) (fs_mono (by decide) fk4))), fs_trans (fs_mono (by decide) fn1) (fs_trans (fs_mono (by decide) fn2) (fs_trans (fs_mono (by decide) fn3) (fs_mono (by decide) fn4))), RK_up (RK_trans (RK_up (RK_fs fk1 (by decide)) (by decide) (by decide)) (RK_fs fk3 (by decide))) (by decide) (by decide), fun j h4 h5 => by rw [fup_eq, upd1_ne h5, fs_row fn3 125 (by decide), fup_eq, upd1_ne h4, fs_row fn1 125 (by decide)]⟩
        · rw [cp2, c3, Option.bind_some, fel_l, if_pos hbn]
          rfl
        · rw [mp2, m3, Option.bind_some, if_pos (show ¬ (1 : Int) = 0 by decide)]
          show s_X12_record_j192 N3 6 (19 * (n : Int)) = _
          rw [j192_eq hn, g3]
      · right
        refine ⟨K3, N3, ?_, ?_, hF, RK_trans (RK_up (RK_fs fk1 (by decide)) (by decide) (by decide)) (RK_fs (s_X10_takeNumber_fr c3) (by decide)), RN_trans (RN_up (RN_fs fn1 (by decide)) (by omega) (by omega)) (RN_fs (s_X12_takes_fr m3) (by decide))⟩
        · rw [cp2, c3]
          rfl
        · rw [mp2, m3]
          rfl
    · right
      refine ⟨K1, N1, ?_, ?_, hF, RK_fs (s_X10_takeNumber_fr c1) (by decide), RN_fs (s_X12_takes_fr m1) (by decide)⟩
      · rw [cpre, c1]
        rfl
      · rw [mpre, m1]
        rfl
  · -- nothing
    left
    obtain ⟨g, hg⟩ : ∃ g, g = N 122 18 := ⟨_, rfl⟩
    refine ⟨K, up45 N n g g, p, ?_, ?_, StB_m (up45_fs N n g g) (by decide) hB, Nat.le_refl p, ⟨fun e => absurd e (by omega), fun e => absurd e h6, fun e => absurd e h0, fun e => absurd e h3, fun e => absurd e h6⟩, fs_refl, fs_mono (by decide) (up45_fs N n g g), RK_refl, fun j h4 h5 => up45_ne h4 h5⟩
    · unfold cFst
      rw [if_pos h0, if_pos h2, if_pos h3, if_pos h6]
    · unfold rFst s_X12_record_j114 s_X12_record_j128 s_X12_record_j144
      rw [if_pos h0, if_pos h2, if_pos h3, if_pos h6, j162_eq hn kd h6, hg]
