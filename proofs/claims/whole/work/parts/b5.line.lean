/-! ===== lines of a house: rules, weeks, fees ===== -/
def dr (K : fM) : fM := fun k => K (k + 24)
/-- what was told once -/
def Tb (K N : fM) : Prop := ∃ a c : Nat, K 27 2 = a ∧ N 122 19 = c ∧ a < 512 ∧ c < 64 ∧ Nat.testBit a 0 = Nat.testBit c 0 ∧ Nat.testBit a 4 = Nat.testBit c 1 ∧ Nat.testBit a 5 = Nat.testBit c 2 ∧ Nat.testBit a 6 = Nat.testBit c 3 ∧ Nat.testBit a 7 = Nat.testBit c 4 ∧ Nat.testBit a 8 = Nat.testBit c 5
abbrev prK (kw bit : Nat) : Prop := (kw = 0 ∧ bit = 0) ∨ (kw = 4 ∧ bit = 1) ∨ (kw = 5 ∧ bit = 2) ∨ (kw = 6 ∧ bit = 3) ∨ (kw = 7 ∧ bit = 4) ∨ (kw = 8 ∧ bit = 5)
theorem c_told {K K2 : fM} {a one : Nat} (ha : a < 1073741824) (ho : one < 30) (f1 : s_X10_fail K 3 = some (.inr (), K2)) : s_X3_withTold K (a : Int) (one : Int) = if Nat.testBit a one = true then some (.inr (), K2) else some (.inl ((a ||| 2 ^ one : Nat) : Int), K) := by
  unfold s_X3_withTold
  rw [b_test (by omega) (by omega), b_or (by omega) (by omega), f1]
  cases hb : Nat.testBit a one with
  | true => rfl
  | false => rfl
abbrev onL : List (Nat × Option Nat) := [(122, some 4), (122, some 11), (122, some 12), (122, some 13), (122, some 14), (122, some 17), (122, some 19)]
theorem sim_once {K N : fM} {b : Nat → Int} {L lim p : Nat} (hA : StA K N b L lim p) (hT : Tb K N) {kw bit : Nat} (hp : prK kw bit) : (∃ (a' : Int) (N' : fM), s_X3_withTold K (K 27 2) (kw : Int) = some (.inl a', K) ∧ s_X12_once N (bit : Int) = some (1, N') ∧ StB (fup K 27 2 a') N' b L lim (tNx b L lim p) ∧ Tb (fup K 27 2 a') N' ∧ fSame onL N N') ∨ (∃ K' N', s_X3_withTold K (K 27 2) (kw : Int) = some (.inr (), K') ∧ s_X12_once N (bit : Int) = some (0, N') ∧ Ft K' N') := by
  obtain ⟨a, c, t1, t2, t3, t4, t5⟩ := hT
  have hkw : kw < 9 := by omega
  have hbit : bit < 6 := by omega
  obtain ⟨K2, N2, f1, f2, f3⟩ := sim_fail hA 3 (by decide)
  have hct := c_told (K := K) (a := a) (one := kw) (by omega) (by omega) f1
  have heq : Nat.testBit a kw = Nat.testBit c bit := by
    obtain ⟨e0, e4, e5, e6, e7, e8⟩ := t5
    rcases hp with ⟨rfl, rfl⟩ | ⟨rfl, rfl⟩ | ⟨rfl, rfl⟩ | ⟨rfl, rfl⟩ | ⟨rfl, rfl⟩ | ⟨rfl, rfl⟩ <;> assumption
  rw [t1, hct]
  unfold s_X12_once
  rw [t2, b_test (by omega) (by omega), b_or (by omega) (by omega), f2, ← heq]
  cases hb : Nat.testBit a kw with
  | true =>
    right
    exact ⟨K2, N2, rfl, rfl, f3⟩
  | false =>
    left
    have hA2 : StA K (fup N 122 19 ((c ||| 2 ^ bit : Nat) : Int)) b L lim p := StA_m (fs_up1 N 122 19 _) (by decide) hA
    obtain ⟨N', m1, m2, m3⟩ := sim_next hA2
    refine ⟨_, N', rfl, ?_, StB_c (fs_up1 K 27 2 _) (by decide) m3, ⟨a ||| 2 ^ kw, c ||| 2 ^ bit, rfl, ?_, ?_, ?_, ?_⟩, fs_trans (fs_up fs_refl (.inr (by decide))) (fs_mono (by decide) m2)⟩
    · rw [m1]
      rfl
    · rw [fs_at m2 122 19 (by decide)]
      rfl
    · exact or_lt (n := 9) t3 hkw
    · exact or_lt (n := 6) t4 hbit
    · obtain ⟨e0, e4, e5, e6, e7, e8⟩ := t5
      rw [tb_or, tb_or, tb_or, tb_or, tb_or, tb_or, tb_or, tb_or, tb_or, tb_or, tb_or, tb_or, e0, e4, e5, e6, e7, e8]
      rcases hp with ⟨rfl, rfl⟩ | ⟨rfl, rfl⟩ | ⟨rfl, rfl⟩ | ⟨rfl, rfl⟩ | ⟨rfl, rfl⟩ | ⟨rfl, rfl⟩ <;> simp
theorem Tb_fs {l l' : List (Nat × Option Nat)} {K K' N N' : fM} (f : fSame l K K') (hn : fNo l [] [(27, 2)]) (f' : fSame l' N N') (hn' : fNo l' [] [(122, 19)]) (h : Tb K N) : Tb K' N' := by
  unfold Tb at h ⊢
  rw [fno_fld f hn 27 2 (by decide), fno_fld f' hn' 122 19 (by decide)]
  exact h
theorem kw_len : ∀ k : Nat, k < 30 → 2 ≤ (kwW k).length := by decide +kernel
theorem kx_two {b : Nat → Int} {L lim p : Nat} (hp : p ≤ L) {k : Nat} (hk : k < 30) (h : kx b L lim p = (k : Int)) : p + 2 ≤ tNx b L lim p := by
  have h2 := kx_cases (k : Int) (by omega) h
  have hw := (tW_ok hp h2).2
  have hx : kwx (tW b L p) = (k : Int) := by
    unfold kx at h
    rw [if_pos h2] at h
    exact h
  rw [(kwx_iff hk).1 hx] at hw
  have := kw_len k hk
  omega
/-- a line: both read it, or both fail alike -/
def LnO (c : Option ((Unit ⊕ Unit) × fM)) (m : Option (Int × fM)) (K N : fM) (b : Nat → Int) (L lim p : Nat) : Prop :=
  (∃ K' N' p', c = some (.inl (), K') ∧ m = some (1, N') ∧ StA K' N' b L lim p' ∧ p + 2 ≤ p' ∧ HD (dr K') N' ∧ Tb K' N' ∧ K' 28 17 = K 28 17 ∧ N' 122 20 = N 122 20) ∨ (∃ K' N', c = some (.inr (), K') ∧ m = some (0, N') ∧ Ft K' N')
theorem ln_rule {K N : fM} {b : Nat → Int} {L lim p : Nat} (hA : StA K N b L lim p) (hH : HD (dr K) N) (hT : Tb K N) {kw bit j : Nat} (hp : prK kw bit) (hj : j < 4) {lo hi : Int} (hv : ∀ v, lo ≤ v → v ≤ hi → (j = 0 → 0 ≤ v ∧ v ≤ 99) ∧ (j = 1 → 0 ≤ v ∧ v ≤ 999) ∧ (j = 2 → 1 ≤ v ∧ v ≤ 20) ∧ (j = 3 → 10 ≤ v ∧ v ≤ 120)) (hk : kx b L lim p = (kw : Int)) {x : Int} (hx : x = 166 + (j : Int)) : LnO (s_X3_readRule K (kw : Int) (j : Int) lo hi) (s_X12_oneNumber N (bit : Int) lo hi x) K N b L lim p := by
  have h2 := kx_two hA.2.2.2.2.1 (show kw < 30 by omega) hk
  rcases sim_once hA hT hp with ⟨a', N1, c1, m1, hB1, hT1, f1⟩ | ⟨K1, N1, c1, m1, hF⟩
  · rcases sim_num hB1 lo hi with ⟨K2, N2, c2, m2, hB2, g2, r2, fk2, fn2, lt2⟩ | ⟨K2, N2, c2, m2, hF⟩
    · left
      obtain ⟨v, hvd⟩ : ∃ v, v = tV b L (tNx b L lim p) := ⟨_, rfl⟩
      rw [← hvd] at c2 g2 r2
      have hB3 : StB (fup K2 32 j v) (fup N2 124 (811 + j) v) b L lim (tNx b L lim (tNx b L lim p)) := StB_m (l := [(124, none)]) (fs_up fs_refl (.inl (by decide))) (by decide) (StB_c (l := [(32, none)]) (fs_up fs_refl (.inl (by decide))) (by decide) hB2)
      obtain ⟨K4, c4, fk4, hA4⟩ := sim_take hB3
      have fK : fSame [(1, some 4), (1, some 5), (1, some 6), (1, some 7), (1, some 8), (27, some 2), (32, none)] K K4 := fs_trans (fs_up (fs_trans (fs_up fs_refl (.inr (by decide))) (fs_mono (by decide) fk2)) (.inl (by decide))) (fs_mono (by decide) fk4)
      have fN : fSame [(122, some 4), (122, some 11), (122, some 12), (122, some 13), (122, some 14), (122, some 17), (122, some 18), (122, some 19), (124, none)] N (fup N2 124 (811 + j) v) := fs_up (fs_trans (fs_mono (by decide) f1) (fs_mono (by decide) fn2)) (.inl (by decide))
      have k32 : K4 32 = upd1 (K 32) j v := by rw [fs_row fk4 32 (by decide), fup_eq, fs_row fk2 32 (by decide), fup_ne (by decide)]
      have n124 : N2 124 = N 124 := by rw [fs_row fn2 124 (by decide), fs_row f1 124 (by decide)]
      refine ⟨K4, fup N2 124 (811 + j) v, _, ?_, ?_, hA4, by omega, HD_rule hH hj (hv v r2.1 r2.2) k32 (by rw [fup_eq, upd1_at]) (fs_row fK 29 (by decide)) (fs_row fK 30 (by decide)) (fs_row fK 31 (by decide)) (fs_row fK 33 (by decide)) (fs_row fK 34 (by decide)) (fs_row fK 35 (by decide)) (fs_row fK 36 (by decide)) (fs_row fK 37 (by decide)) (fs_row fK 38 (by decide)) (fs_row fK 39 (by decide)) (fs_row fK 40 (by decide)) (fs_row fK 41 (by decide)) (fs_at fK 28 13 (by decide)) (fs_at fK 28 14 (by decide)) (fs_at fK 28 15 (by decide)) (fs_at fK 28 16 (by decide)) (fs_row fN 126 (by decide)) (fun i hi => by rw [fup_eq, upd1_ne hi, n124]), Tb_fs (l := [(1, some 4), (1, some 5), (1, some 6), (1, some 7), (1, some 8), (32, none)]) (l' := [(122, some 4), (122, some 11), (122, some 12), (122, some 13), (122, some 14), (122, some 17), (122, some 18), (124, none)]) (fs_trans (fs_up (fs_mono (by decide) fk2) (.inl (by decide))) (fs_mono (by decide) fk4)) (by decide) (fs_up (fs_mono (by decide) fn2) (.inl (by decide))) (by decide) hT1, fs_at fK 28 17 (by decide), fs_at fN 122 20 (by decide)⟩
      · unfold s_X3_readRule
        rw [c1]
        show ((s_X10_takeNumber (fup K 27 2 a') lo hi).bind _) = _
        rw [c2]
        show (if 0 ≤ (j : Int) ∧ (j : Int) < 6 then _ else _) = _
        rw [if_pos (by omega)]
        show (s_X10_take (fup K2 32 j v)).bind _ = _
        rw [c4]
        rfl
      · unfold s_X12_oneNumber
        rw [m1]
        show ((s_X12_takes N1 lo hi).bind _) = _
        rw [m2]
        show (if fin (645 + x) ∧ (0 ≤ 645 + x ∧ 645 + x < 1290) then some ((1 : Int), fup N2 124 (645 + x).toNat (N2 122 18)) else none) = _
        rw [if_pos (by unfold fin; omega), show (645 + x).toNat = 811 + j by omega, g2]
    · right
      refine ⟨K2, N2, ?_, ?_, hF⟩
      · unfold s_X3_readRule
        rw [c1]
        show ((s_X10_takeNumber (fup K 27 2 a') lo hi).bind _) = _
        rw [c2]
        rfl
      · unfold s_X12_oneNumber
        rw [m1]
        show ((s_X12_takes N1 lo hi).bind _) = _
        rw [m2]
        rfl
  · right
    refine ⟨K1, N1, ?_, ?_, hF⟩
    · unfold s_X3_readRule
      rw [c1]
      rfl
    · unfold s_X12_oneNumber
      rw [m1]
      rfl
/-- two times of a day, with a write of the class's between them -/
theorem sim_span {K N : fM} {b : Nat → Int} {L lim p : Nat} (hB : StB K N b L lim p) {g : Int → fM → fM} {l : List (Nat × Option Nat)} (hl : okCl l) (hg : ∀ v Q, fSame l Q (g v Q)) {x : Int} (hx : 0 ≤ x ∧ x < 640) : (∃ v w K2 K4 N4 p', s_X10_takeNumber K 0 1440 = some (.inl v, K2) ∧ s_X10_takeNumber (g v K2) (v + 1) 1440 = some (.inl w, K4) ∧ s_X12_span N x = some (1, fup (fup N4 124 (645 + x).toNat v) 124 (645 + x + 1).toNat w) ∧ StB K4 N4 b L lim p' ∧ p < p' ∧ (0 ≤ v ∧ v < w ∧ w ≤ 1440) ∧ fSame tkL K K2 ∧ fSame tkL (g v K2) K4 ∧ fSame gtL N N4) ∨ (∃ K' N', (s_X10_takeNumber K 0 1440 = some (.inr (), K') ∨ ∃ v K2, s_X10_takeNumber K 0 1440 = some (.inl v, K2) ∧ (0 ≤ v ∧ v ≤ 1440) ∧ s_X10_takeNumber (g v K2) (v + 1) 1440 = some (.inr (), K')) ∧ s_X12_span N x = some (0, N') ∧ Ft K' N') := by
  rcases sim_num hB 0 1440 with ⟨K2, N2, c2, m2, hB2, g2, r2, fk2, fn2, lt2⟩ | ⟨K2, N2, c2, m2, hF⟩
  · obtain ⟨v, hvd⟩ : ∃ v, v = tV b L p := ⟨_, rfl⟩
    rw [← hvd] at c2 g2 r2
    have fvin : fin (v + 1) := by unfold fin; omega
    have mpre : s_X12_span N x = (s_X12_takes N2 (v + 1) 1440).bind fun y25 => if ¬ y25.1 = 0 then (if fin (645 + x) ∧ (0 ≤ 645 + x ∧ 645 + x < 1290) ∧ fin (645 + x + 1) ∧ (0 ≤ 645 + x + 1 ∧ 645 + x + 1 < 1290) then some ((1 : Int), fup (fup y25.2 124 (645 + x).toNat v) 124 (645 + x + 1).toNat (y25.2 122 18)) else none) else some ((0 : Int), y25.2) := by
      unfold s_X12_span
      rw [m2]
      show (if fin (N2 122 18 + 1) then (s_X12_takes N2 (N2 122 18 + 1) 1440).bind (fun y25 => if ¬ y25.1 = 0 then (if fin (645 + x) ∧ (0 ≤ 645 + x ∧ 645 + x < 1290) ∧ fin (645 + x + 1) ∧ (0 ≤ 645 + x + 1 ∧ 645 + x + 1 < 1290) then some ((1 : Int), fup (fup y25.2 124 (645 + x).toNat (N2 122 18)) 124 (645 + x + 1).toNat (y25.2 122 18)) else none) else some ((0 : Int), y25.2)) else none) = _
      rw [g2, if_pos fvin]
    rcases sim_num (StB_c (hg v K2) hl hB2) (v + 1) 1440 with ⟨K4, N4, c4, m4, hB4, g4, r4, fk4, fn4, lt4⟩ | ⟨K4, N4, c4, m4, hF⟩
    · left
      obtain ⟨w, hwd⟩ : ∃ w, w = tV b L (tNx b L lim p) := ⟨_, rfl⟩
      rw [← hwd] at c4 g4 r4
      refine ⟨v, w, K2, K4, N4, _, c2, c4, ?_, hB4, Nat.lt_trans lt2 lt4, by omega, fk2, fk4, fs_trans fn2 fn4⟩
      rw [mpre, m4]
      show (if fin (645 + x) ∧ (0 ≤ 645 + x ∧ 645 + x < 1290) ∧ fin (645 + x + 1) ∧ (0 ≤ 645 + x + 1 ∧ 645 + x + 1 < 1290) then some ((1 : Int), fup (fup N4 124 (645 + x).toNat v) 124 (645 + x + 1).toNat (N4 122 18)) else none) = _
      rw [if_pos (by unfold fin; omega), g4]
    · right
      refine ⟨K4, N4, .inr ⟨v, K2, c2, r2, c4⟩, ?_, hF⟩
      rw [mpre, m4]
      rfl
  · right
    refine ⟨K2, N2, .inl c2, ?_, hF⟩
    unfold s_X12_span
    rw [m2]
    rfl
noncomputable def rDay (N : fM) (x : Int) : Option (Int × fM) := (s_X12_once N 5).bind fun y164 => if y164.1 = 0 then some (0, y164.2) else (s_X12_span y164.2 x).bind fun y174 => if y174.1 = 0 then some (0, y174.2) else some (1, y174.2)
theorem ln_day {K N : fM} {b : Nat → Int} {L lim p : Nat} (hA : StA K N b L lim p) (hH : HD (dr K) N) (hT : Tb K N) (hk : kx b L lim p = 8) {x : Int} (hx : x = 170) : LnO (s_X3_readDay K) (rDay N x) K N b L lim p := by
  have h2 := kx_two hA.2.2.2.2.1 (show 8 < 30 by omega) hk
  rcases sim_once hA hT (kw := 8) (bit := 5) (by decide) with ⟨a', N1, c1, m1, hB1, hT1, f1⟩ | ⟨K1, N1, c1, m1, hF⟩
  · have m1' : s_X12_once N 5 = some (1, N1) := m1
    have c1' : s_X3_withTold K (K 27 2) 8 = some (.inl a', K) := c1
    rcases sim_span hB1 (g := fun v Q => fup Q 32 4 v) (l := [(32, none)]) (by decide) (fun v Q => fs_up fs_refl (.inl (by decide))) (x := x) (by omega) with ⟨v, w, K2, K4, N4, p', c2, c4, m4, hB4, lt4, hvw, fk2, fk4, fn4⟩ | ⟨K4, N4, c4, m4, hF⟩
    · left
      have x1 : (645 + x).toNat = 815 := by omega
      have x2 : (645 + x + 1).toNat = 816 := by omega
      rw [x1, x2] at m4
      have fvin : fin (v + 1) := by unfold fin; omega
      have hB5 : StB (fup K4 32 5 w) (fup (fup N4 124 815 v) 124 816 w) b L lim p' := StB_m (l := [(124, none)]) (fs_up (fs_up fs_refl (.inl (by decide))) (.inl (by decide))) (by decide) (StB_c (l := [(32, none)]) (fs_up fs_refl (.inl (by decide))) (by decide) hB4)
      obtain ⟨K6, c6, fk6, hA6⟩ := sim_take hB5
      have fK : fSame [(1, some 4), (1, some 5), (1, some 6), (1, some 7), (1, some 8), (27, some 2), (32, none)] K K6 := fs_trans (fs_up (fs_trans (fs_up (fs_trans (fs_up fs_refl (.inr (by decide))) (fs_mono (by decide) fk2)) (.inl (by decide))) (fs_mono (by decide) fk4)) (.inl (by decide))) (fs_mono (by decide) fk6)
      have fN : fSame [(122, some 4), (122, some 11), (122, some 12), (122, some 13), (122, some 14), (122, some 17), (122, some 18), (122, some 19), (124, none)] N (fup (fup N4 124 815 v) 124 816 w) := fs_up (fs_up (fs_trans (fs_mono (by decide) f1) (fs_mono (by decide) fn4)) (.inl (by decide))) (.inl (by decide))
      have k32 : K6 32 = upd1 (upd1 (K 32) 4 v) 5 w := by rw [fs_row fk6 32 (by decide), fup_eq, fs_row fk4 32 (by decide), fup_eq, fs_row fk2 32 (by decide), fup_ne (by decide)]
      have n124 : N4 124 = N 124 := by rw [fs_row fn4 124 (by decide), fs_row f1 124 (by decide)]
      refine ⟨K6, fup (fup N4 124 815 v) 124 816 w, p', ?_, ?_, hA6, by omega, HD_day hH (v := v) (w := w) (by omega) k32 (by rw [fup_eq, upd1_ne (by decide), fup_eq, upd1_at]) (by rw [fup_eq, upd1_at]) (fs_row fK 29 (by decide)) (fs_row fK 30 (by decide)) (fs_row fK 31 (by decide)) (fs_row fK 33 (by decide)) (fs_row fK 34 (by decide)) (fs_row fK 35 (by decide)) (fs_row fK 36 (by decide)) (fs_row fK 37 (by decide)) (fs_row fK 38 (by decide)) (fs_row fK 39 (by decide)) (fs_row fK 40 (by decide)) (fs_row fK 41 (by decide)) (fs_at fK 28 13 (by decide)) (fs_at fK 28 14 (by decide)) (fs_at fK 28 15 (by decide)) (fs_at fK 28 16 (by decide)) (fs_row fN 126 (by decide)) (fun i hi => by rw [fup_eq, upd1_ne (by omega), fup_eq, upd1_ne (by omega), n124]), Tb_fs (l := [(1, some 4), (1, some 5), (1, some 6), (1, some 7), (1, some 8), (32, none)]) (l' := [(122, some 4), (122, some 11), (122, some 12), (122, some 13), (122, some 14), (122, some 17), (122, some 18), (124, none)]) (fs_trans (fs_up (fs_trans (fs_up (fs_mono (by decide) fk2) (.inl (by decide))) (fs_mono (by decide) fk4)) (.inl (by decide))) (fs_mono (by decide) fk6)) (by decide) (fs_up (fs_up (fs_mono (by decide) fn4) (.inl (by decide))) (.inl (by decide))) (by decide) hT1, fs_at fK 28 17 (by decide), fs_at fN 122 20 (by decide)⟩
      · unfold s_X3_readDay
        rw [c1']
        show ((s_X10_takeNumber (fup K 27 2 a') 0 1440).bind _) = _
        rw [c2]
        show (if fin (v + 1) then (s_X10_takeNumber (fup K2 32 4 v) (v + 1) 1440).bind _ else _) = _
        rw [if_pos fvin, c4]
        show ((s_X10_take (fup K4 32 5 w)).bind _) = _
        rw [c6]
        rfl
      · unfold rDay
        rw [m1']
        show ((s_X12_span N1 x).bind _) = _
        rw [m4]
        rfl
    · right
      refine ⟨K4, N4, ?_, ?_, hF⟩
      · unfold s_X3_readDay
        rw [c1']
        show ((s_X10_takeNumber (fup K 27 2 a') 0 1440).bind _) = _
        rcases c4 with c4 | ⟨v, K2, c2, hv, c4⟩
        · rw [c4]
          rfl
        · rw [c2]
          show (if fin (v + 1) then (s_X10_takeNumber (fup K2 32 4 v) (v + 1) 1440).bind _ else _) = _
          rw [if_pos (by unfold fin; omega), c4]
          rfl
      · unfold rDay
        rw [m1']
        show ((s_X12_span N1 x).bind _) = _
        rw [m4]
        rfl
  · right
    have m1' : s_X12_once N 5 = some (0, N1) := m1
    have c1' : s_X3_withTold K (K 27 2) 8 = some (.inr (), K1) := c1
    refine ⟨K1, N1, ?_, ?_, hF⟩
    · unfold s_X3_readDay
      rw [c1']
      rfl
    · unfold rDay
      rw [m1']
      rfl
/-! weeks -/
theorem c_dampl {K : fM} {a c : Int} (v : Int) (ha : 0 ≤ a ∧ a ≤ c ∧ c ≤ 51) : ∃ K', s_X3_readDamp_l36 c v (a, K) = some K' ∧ (∀ w : Int, 0 ≤ w → w < 52 → K' 30 w.toNat = if a ≤ w ∧ w ≤ c then v else K 30 w.toNat) ∧ ∀ r, r ≠ 30 → K' r = K r := by
  unfold s_X3_readDamp_l36
  refine fLp_ex (P := fun i s => s.1 = a + (i : Int) ∧ (∀ w : Int, 0 ≤ w → w < 52 → s.2 30 w.toNat = if a ≤ w ∧ w < a + (i : Int) then v else K 30 w.toNat) ∧ ∀ r, r ≠ 30 → s.2 r = K r) (c - a + 1).toNat ⟨by simp, fun w h1 h2 => by rw [if_neg (by omega)], fun r _ => rfl⟩ (fun i s hi hp => ?_) (fun s hp => ?_)
  · obtain ⟨z, Q⟩ := s
    obtain ⟨q1, q2, q3⟩ := hp
    simp only at q1 q2 q3
    subst q1
    refine ⟨(a + (i : Int) + 1, fup Q 30 (a + (i : Int)).toNat v), ?_, ?_, fun w h1 h2 => ?_, fun r hr => ?_⟩
    · show s_X3_readDamp_b36 Q c v (a + (i : Int)) = _
      unfold s_X3_readDamp_b36
      rw [if_neg (by omega), if_pos (by unfold fin; omega)]
    · show a + (i : Int) + 1 = a + ((i + 1 : Nat) : Int)
      omega
    · show fup Q 30 (a + (i : Int)).toNat v 30 w.toNat = _
      rw [fup_eq]
      by_cases g : w = a + (i : Int)
      · rw [g, upd1_at, if_pos (by omega)]
      · rw [upd1_ne (by omega), q2 w h1 h2]
        by_cases g2 : a ≤ w ∧ w < a + (i : Int)
        · rw [if_pos g2, if_pos (by omega)]
        · rw [if_neg g2, if_neg (by omega)]
    · show fup Q 30 _ v r = _
      rw [fup_ne hr, q3 r hr]
  · obtain ⟨z, Q⟩ := s
    obtain ⟨q1, q2, q3⟩ := hp
    simp only at q1 q2 q3
    subst q1
    refine ⟨Q, ?_, fun w h1 h2 => ?_, q3⟩
    · show s_X3_readDamp_b36 Q c v (a + ((c - a + 1).toNat : Int)) = _
      unfold s_X3_readDamp_b36
      rw [if_pos (by omega)]
    · rw [q2 w h1 h2]
      by_cases g : a ≤ w ∧ w ≤ c
      · rw [if_pos g, if_pos (by omega)]
      · rw [if_neg g, if_neg (by omega)]
theorem c_terml {K : fM} {a c : Int} (ha : 0 ≤ a ∧ a ≤ c ∧ c ≤ 51) : ∃ K', s_X3_readTerm_l24 c (a, K) = some K' ∧ (∀ w : Int, 0 ≤ w → w < 52 → K' 31 w.toNat = if a ≤ w ∧ w ≤ c then 1 else K 31 w.toNat) ∧ ∀ r, r ≠ 31 → K' r = K r := by
  unfold s_X3_readTerm_l24
  refine fLp_ex (P := fun i s => s.1 = a + (i : Int) ∧ (∀ w : Int, 0 ≤ w → w < 52 → s.2 31 w.toNat = if a ≤ w ∧ w < a + (i : Int) then 1 else K 31 w.toNat) ∧ ∀ r, r ≠ 31 → s.2 r = K r) (c - a + 1).toNat ⟨by simp, fun w h1 h2 => by rw [if_neg (by omega)], fun r _ => rfl⟩ (fun i s hi hp => ?_) (fun s hp => ?_)
  · obtain ⟨z, Q⟩ := s
    obtain ⟨q1, q2, q3⟩ := hp
    simp only at q1 q2 q3
    subst q1
    refine ⟨(a + (i : Int) + 1, fup Q 31 (a + (i : Int)).toNat 1), ?_, ?_, fun w h1 h2 => ?_, fun r hr => ?_⟩
    · show s_X3_readTerm_b24 Q c (a + (i : Int)) = _
      unfold s_X3_readTerm_b24
      rw [if_neg (by omega), if_pos (by unfold fin; omega)]
    · show a + (i : Int) + 1 = a + ((i + 1 : Nat) : Int)
      omega
    · show fup Q 31 (a + (i : Int)).toNat 1 31 w.toNat = _
      rw [fup_eq]
      by_cases g : w = a + (i : Int)
      · rw [g, upd1_at, if_pos (by omega)]
      · rw [upd1_ne (by omega), q2 w h1 h2]
        by_cases g2 : a ≤ w ∧ w < a + (i : Int)
        · rw [if_pos g2, if_pos (by omega)]
        · rw [if_neg g2, if_neg (by omega)]
    · show fup Q 31 _ 1 r = _
      rw [fup_ne hr, q3 r hr]
  · obtain ⟨z, Q⟩ := s
    obtain ⟨q1, q2, q3⟩ := hp
    simp only at q1 q2 q3
    subst q1
    refine ⟨Q, ?_, fun w h1 h2 => ?_, q3⟩
    · show s_X3_readTerm_b24 Q c (a + ((c - a + 1).toNat : Int)) = _
      unfold s_X3_readTerm_b24
      rw [if_pos (by omega)]
    · rw [q2 w h1 h2]
      by_cases g : a ≤ w ∧ w ≤ c
      · rw [if_pos g, if_pos (by omega)]
      · rw [if_neg g, if_neg (by omega)]
theorem m_weeks {N : fM} {a c d base : Int} (ha : 0 ≤ a ∧ a ≤ c ∧ c ≤ 51) (hd : (d = 0 ∧ base = 710) ∨ (d = 1 ∧ base = 658)) {v : Int} (hv : v = if d = 0 then 1 else N 122 18) : ∃ N', s_X12_weeks_l57 d c (a, N) = some N' ∧ (∀ w : Int, 0 ≤ w → w < 52 → N' 124 (base + w).toNat = if a ≤ w ∧ w ≤ c then v else N 124 (base + w).toNat) ∧ (∀ i : Nat, ¬ (base ≤ i ∧ i < base + 52) → N' 124 i = N 124 i) ∧ ∀ r, r ≠ 124 → N' r = N r := by
  unfold s_X12_weeks_l57
  refine fLp_ex (P := fun i s => s.1 = a + (i : Int) ∧ (∀ w : Int, 0 ≤ w → w < 52 → s.2 124 (base + w).toNat = if a ≤ w ∧ w < a + (i : Int) then v else N 124 (base + w).toNat) ∧ (∀ i : Nat, ¬ (base ≤ i ∧ i < base + 52) → s.2 124 i = N 124 i) ∧ ∀ r, r ≠ 124 → s.2 r = N r) (c - a + 1).toNat ⟨by simp, fun w h1 h2 => by rw [if_neg (by omega)], fun i _ => rfl, fun r _ => rfl⟩ (fun i s hi hp => ?_) (fun s hp => ?_)
  · obtain ⟨z, Q⟩ := s
    obtain ⟨q1, q2, q3, q4⟩ := hp
    simp only at q1 q2 q3 q4
    subst q1
    have ev : s_X12_weeks_b57 Q d c (a + (i : Int)) = some (.inl (a + (i : Int) + 1, fup Q 124 (base + (a + (i : Int))).toNat v)) := by
      unfold s_X12_weeks_b57 s_X12_weeks_j81
      rw [if_neg (by omega)]
      rcases hd with ⟨rfl, rfl⟩ | ⟨rfl, rfl⟩
      · rw [if_pos (show (0 : Int) = 0 from rfl), if_pos (show fin (645 + 65) ∧ fin (645 + 65 + (a + (i : Int))) by unfold fin; omega), if_pos (show (0 : Int) = 0 from rfl), if_pos (by unfold fin; omega), hv]
        rfl
      · rw [if_neg (show ¬ (1 : Int) = 0 by decide), if_pos (show fin (645 + 13) ∧ fin (645 + 13 + (a + (i : Int))) by unfold fin; omega), if_neg (show ¬ (1 : Int) = 0 by decide), if_pos (by unfold fin; omega), hv, q4 122 (by decide)]
        rfl
    refine ⟨_, ev, ?_, fun w h1 h2 => ?_, fun j hj => ?_, fun r hr => ?_⟩
    · show a + (i : Int) + 1 = a + ((i + 1 : Nat) : Int)
      omega
    · show fup Q 124 (base + (a + (i : Int))).toNat v 124 (base + w).toNat = _
      rw [fup_eq]
      by_cases g : w = a + (i : Int)
      · rw [g, upd1_at, if_pos (by omega)]
      · rw [upd1_ne (by omega), q2 w h1 h2]
        by_cases g2 : a ≤ w ∧ w < a + (i : Int)
        · rw [if_pos g2, if_pos (by omega)]
        · rw [if_neg g2, if_neg (by omega)]
    · show fup Q 124 _ v 124 j = _
      rw [fup_eq, upd1_ne (by omega), q3 j hj]
    · show fup Q 124 _ v r = _
      rw [fup_ne hr, q4 r hr]
  · obtain ⟨z, Q⟩ := s
    obtain ⟨q1, q2, q3, q4⟩ := hp
    simp only at q1 q2 q3 q4
    subst q1
    refine ⟨Q, ?_, fun w h1 h2 => ?_, q3, q4⟩
    · show s_X12_weeks_b57 Q d c (a + ((c - a + 1).toNat : Int)) = _
      unfold s_X12_weeks_b57
      rw [if_pos (by omega)]
    · rw [q2 w h1 h2]
      by_cases g : a ≤ w ∧ w ≤ c
      · rw [if_pos g, if_pos (by omega)]
      · rw [if_neg g, if_neg (by omega)]
