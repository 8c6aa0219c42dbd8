/-! ===== lines of a house: pianos ===== -/
theorem sim_numA {K N : fM} {b : Nat → Int} {L lim p : Nat} (h : StB K N b L lim p) (lo hi : Int) : (∃ K', s_X10_takeNumber K lo hi = some (.inl (tV b L p), K') ∧ StA K' N b L lim p ∧ N 122 11 = 2 ∧ N 122 14 = tV b L p ∧ (lo ≤ tV b L p ∧ tV b L p ≤ hi) ∧ fSame tkL K K' ∧ p < tNx b L lim p) ∨ (∃ K' N', s_X10_takeNumber K lo hi = some (.inr (), K') ∧ ((¬ N 122 11 = 2 ∧ s_X12_bad N 1 = some (0, N')) ∨ (N 122 11 = 2 ∧ N 122 14 = tV b L p ∧ 0 ≤ tV b L p ∧ ¬ (lo ≤ tV b L p ∧ tV b L p ≤ hi) ∧ s_X12_bad N 2 = some (0, N'))) ∧ Ft K' N') := by
  obtain ⟨K1, c1, c2, hA⟩ := sim_take h
  have hA0 := hA
  obtain ⟨h1, h2, h3, h4, h5, h6, h7⟩ := hA
  obtain ⟨-, kd3, -, -, -⟩ := kd_ne h4
  have etn : s_X10_takeNumber K lo hi = (s_X10_numberHere K1 lo hi).bind fun y7 => fel y7.1 (fun w7 => some (.inl w7, y7.2)) (some (.inr (), y7.2)) := by
    unfold s_X10_takeNumber
    rw [c1]
    rfl
  rw [etn]
  by_cases hk : tKd b L lim p = 3
  · have hv := tV_b hk
    have k7 : K1 1 7 = tV b L p := h3.2.2.2.2 hk
    have n14 : N 122 14 = tV b L p := (h4.2.2.2.2.2.1 hk).2
    have n11 : N 122 11 = 2 := (h4.2.2.2.2.2.1 hk).1
    have k6 : K1 1 6 = 3 := by rw [h3.2.2.1, hk]; rfl
    by_cases hr : lo ≤ tV b L p ∧ tV b L p ≤ hi
    · left
      have hcl : s_X10_numberHere K1 lo hi = some (.inl (tV b L p), K1) := by
        unfold s_X10_numberHere s_X10_numberHere_j13
        rw [if_pos k6, k7, if_neg (by omega), if_pos hr.2]
      refine ⟨K1, ?_, hA0, n11, n14, hr, c2, tNx_lt h5 (by omega)⟩
      rw [hcl]
      rfl
    · right
      obtain ⟨K2, N2, f1, f2, f3⟩ := sim_fail hA0 2 (by decide)
      refine ⟨K2, N2, ?_, .inr ⟨n11, n14, hv.1, hr, f2⟩, f3⟩
      have hcl : s_X10_numberHere K1 lo hi = some (.inr (), K2) := by
        unfold s_X10_numberHere s_X10_numberHere_j13 s_X10_numberHere_j29
        rw [if_pos k6, k7, f1]
        by_cases g : tV b L p < lo
        · rw [if_pos g]
          rfl
        · rw [if_neg g, if_neg (by omega)]
          rfl
      rw [hcl]
      rfl
  · right
    have k6 : ¬ K1 1 6 = 3 := by rw [h3.2.2.1]; omega
    obtain ⟨K2, N2, f1, f2, f3⟩ := sim_fail hA0 1 (by decide)
    refine ⟨K2, N2, ?_, .inl ⟨fun e => hk (kd3.1 e), f2⟩, f3⟩
    have hcl : s_X10_numberHere K1 lo hi = some (.inr (), K2) := by
      unfold s_X10_numberHere
      rw [if_neg k6, f1]
      rfl
    rw [hcl]
    rfl
def fRng (w v : Int) : Prop := (w = 0 → 0 ≤ v ∧ v ≤ 2) ∧ (w = 1 → 0 ≤ v ∧ v ≤ 99) ∧ (w = 2 → 0 ≤ v ∧ v ≤ 99) ∧ (w = 3 → 1 ≤ v ∧ v ≤ 999) ∧ (w = 5 → 0 ≤ v ∧ v ≤ 9999) ∧ (w = 6 → 0 ≤ v ∧ v ≤ 9) ∧ (w = 7 → 0 ≤ v ∧ v ≤ 1) ∧ (w = 8 → 0 ≤ v ∧ v ≤ 1440) ∧ (w = 9 → 0 ≤ v ∧ v ≤ 1440)
/-- a piano in work: its first j facts, its strings -/
def PvI (K0 N0 K N : fM) (k x j : Int) : Prop :=
  fSame [(1, some 4), (1, some 5), (1, some 6), (1, some 7), (1, some 8), (34, none), (35, none), (36, none), (39, none), (28, some 13)] K0 K ∧ fSame [(122, some 4), (122, some 11), (122, some 12), (122, some 13), (122, some 14), (122, some 17), (122, some 18), (124, none)] N0 N ∧ (∀ i : Nat, ¬ ((820 + 10 * k ≤ i ∧ i < 820 + 10 * k + 10) ∨ (980 + 12 * k ≤ i ∧ i < 980 + 12 * k + 12) ∨ (1172 + 4 * k ≤ i ∧ i < 1172 + 4 * k + 4)) → N 124 i = N0 124 i) ∧ (∀ i : Nat, i < k * 10 → K 34 i = K0 34 i) ∧ (∀ i : Nat, i < k * 12 → K 35 i = K0 35 i) ∧ (∀ i : Nat, i < k * 4 → K 36 i = K0 36 i) ∧ K 39 = upd1 (K0 39) k.toNat x ∧ K 28 13 = k + 1 ∧
  (∀ w : Int, 0 ≤ w → w < j → N 124 (820 + 10 * k + w).toNat = K 34 (k * 10 + w).toNat ∧ fRng w (K 34 (k * 10 + w).toNat)) ∧
  (∀ n : Int, 0 ≤ n → n < 12 → N 124 (980 + 12 * k + n).toNat = K 35 (k * 12 + n).toNat ∧ 0 ≤ K 35 (k * 12 + n).toNat ∧ K 35 (k * 12 + n).toNat ≤ 99) ∧
  (∀ g : Int, 0 ≤ g → g < 4 → N 124 (1172 + 4 * k + g).toNat = K 36 (k * 4 + g).toNat ∧ 0 ≤ K 36 (k * 4 + g).toNat ∧ K 36 (k * 4 + g).toNat ≤ 20)
theorem pv_tok {K0 N0 K N K' N' : fM} {k x j : Int} (h : PvI K0 N0 K N k x j) (f : fSame tkL K K') (f' : fSame gtL N N') : PvI K0 N0 K' N' k x j := by
  obtain ⟨h1, h2, h3, h4, h5, h6, h7, h8, h9, h10, h11⟩ := h
  have e124 : N' 124 = N 124 := fs_row f' 124 (by decide)
  have e34 : K' 34 = K 34 := fs_row f 34 (by decide)
  have e35 : K' 35 = K 35 := fs_row f 35 (by decide)
  have e36 : K' 36 = K 36 := fs_row f 36 (by decide)
  refine ⟨fs_trans h1 (fs_mono (by decide) f), fs_trans h2 (fs_mono (by decide) f'), ?_, ?_, ?_, ?_, ?_, ?_, ?_, ?_, ?_⟩
  · rw [e124]; exact h3
  · rw [e34]; exact h4
  · rw [e35]; exact h5
  · rw [e36]; exact h6
  · rw [fs_row f 39 (by decide)]; exact h7
  · rw [fs_at f 28 13 (by decide)]; exact h8
  · rw [e124, e34]; exact h9
  · rw [e124, e35]; exact h10
  · rw [e124, e36]; exact h11
theorem pv_fact {K0 N0 K N : fM} {k x j j' w v : Int} (hk : 0 ≤ k ∧ k < 16) (h : PvI K0 N0 K N k x j) (hw : 0 ≤ w ∧ w < 10) (hv : fRng w v) (hj : ∀ u, 0 ≤ u → u < j' → u < 10 ∧ (u = w ∨ u < j)) : PvI K0 N0 (fup K 34 (k * 10 + w).toNat v) (fup N 124 (820 + 10 * k + w).toNat v) k x j' := by
  obtain ⟨h1, h2, h3, h4, h5, h6, h7, h8, h9, h10, h11⟩ := h
  refine ⟨fs_up h1 (.inl (by decide)), fs_up h2 (.inl (by decide)), fun i hi => ?_, fun i hi => ?_, ?_, ?_, ?_, ?_, fun u u0 uj => ?_, fun n n0 n1 => ?_, fun g g0 g1 => ?_⟩
  · rw [fup_eq, upd1_ne (by omega)]; exact h3 i hi
  · rw [fup_eq, upd1_ne (by omega)]; exact h4 i hi
  · rw [fup_ne (by decide)]; exact h5
  · rw [fup_ne (by decide)]; exact h6
  · rw [fup_ne (by decide)]; exact h7
  · rw [fup_ne (by decide)]; exact h8
  · obtain ⟨q1, q2⟩ := hj u u0 uj
    rw [fup_eq, fup_eq]
    by_cases e : u = w
    · subst e
      rw [upd1_at, upd1_at]
      exact ⟨rfl, hv⟩
    · rw [upd1_ne (by omega), upd1_ne (by omega)]
      exact h9 u u0 (by omega)
  · rw [fup_eq, upd1_ne (by omega), fup_ne (by decide)]; exact h10 n n0 n1
  · rw [fup_eq, upd1_ne (by omega), fup_ne (by decide)]; exact h11 g g0 g1
theorem pv_slip {K0 N0 K N : fM} {k x j n v : Int} (hk : 0 ≤ k ∧ k < 16) (hj : j ≤ 10) (h : PvI K0 N0 K N k x j) (hn : 0 ≤ n ∧ n < 12) (hv : 0 ≤ v ∧ v ≤ 99) : PvI K0 N0 (fup K 35 (k * 12 + n).toNat v) (fup N 124 (980 + 12 * k + n).toNat v) k x j := by
  obtain ⟨h1, h2, h3, h4, h5, h6, h7, h8, h9, h10, h11⟩ := h
  refine ⟨fs_up h1 (.inl (by decide)), fs_up h2 (.inl (by decide)), fun i hi => ?_, ?_, fun i hi => ?_, ?_, ?_, ?_, fun u u0 uj => ?_, fun m m0 m1 => ?_, fun g g0 g1 => ?_⟩
  · rw [fup_eq, upd1_ne (by omega)]; exact h3 i hi
  · rw [fup_ne (by decide)]; exact h4
  · rw [fup_eq, upd1_ne (by omega)]; exact h5 i hi
  · rw [fup_ne (by decide)]; exact h6
  · rw [fup_ne (by decide)]; exact h7
  · rw [fup_ne (by decide)]; exact h8
  · rw [fup_eq, upd1_ne (by omega), fup_ne (by decide)]; exact h9 u u0 uj
  · rw [fup_eq, fup_eq]
    by_cases e : m = n
    · subst e
      rw [upd1_at, upd1_at]
      exact ⟨rfl, hv⟩
    · rw [upd1_ne (by omega), upd1_ne (by omega)]
      exact h10 m m0 m1
  · rw [fup_eq, upd1_ne (by omega), fup_ne (by decide)]; exact h11 g g0 g1
theorem pv_frail {K0 N0 K N : fM} {k x j n v : Int} (hk : 0 ≤ k ∧ k < 16) (hj : j ≤ 10) (h : PvI K0 N0 K N k x j) (hn : 0 ≤ n ∧ n < 4) (hv : 0 ≤ v ∧ v ≤ 20) : PvI K0 N0 (fup K 36 (k * 4 + n).toNat v) (fup N 124 (1172 + 4 * k + n).toNat v) k x j := by
  obtain ⟨h1, h2, h3, h4, h5, h6, h7, h8, h9, h10, h11⟩ := h
  refine ⟨fs_up h1 (.inl (by decide)), fs_up h2 (.inl (by decide)), fun i hi => ?_, ?_, ?_, fun i hi => ?_, ?_, ?_, fun u u0 uj => ?_, fun m m0 m1 => ?_, fun g g0 g1 => ?_⟩
  · rw [fup_eq, upd1_ne (by omega)]; exact h3 i hi
  · rw [fup_ne (by decide)]; exact h4
  · rw [fup_ne (by decide)]; exact h5
  · rw [fup_eq, upd1_ne (by omega)]; exact h6 i hi
  · rw [fup_ne (by decide)]; exact h7
  · rw [fup_ne (by decide)]; exact h8
  · rw [fup_eq, upd1_ne (by omega), fup_ne (by decide)]; exact h9 u u0 uj
  · rw [fup_eq, upd1_ne (by omega), fup_ne (by decide)]; exact h10 m m0 m1
  · rw [fup_eq, fup_eq]
    by_cases e : g = n
    · subst e
      rw [upd1_at, upd1_at]
      exact ⟨rfl, hv⟩
    · rw [upd1_ne (by omega), upd1_ne (by omega)]
      exact h11 g g0 g1
theorem c_tell {K : fM} {k w v : Int} (hk : 0 ≤ k ∧ k < 16) (hw : 0 ≤ w ∧ w < 10) : s_X2_tell_28 K k w v = some ((), fup K 34 (k * 10 + w).toNat v) := by
  unfold s_X2_tell_28
  rw [if_pos (by unfold fin; omega)]
def fLo : Nat → Int
  | 3 => 1
  | _ => 0
def fHi : Nat → Int
  | 1 => 99
  | 2 => 99
  | 3 => 999
  | 4 => 200
  | 5 => 9999
  | _ => 9
/-- the facts from the i-th on -/
noncomputable def rP (k : Int) : Nat → Nat → fM → Option ((Unit ⊕ Unit) × fM)
  | 0, _, K => some (.inl (), K)
  | j + 1, i, K => (s_X10_takeNumber K (fLo i) (fHi i)).bind fun y => fel y.1 (fun w => (s_X2_tell_28 y.2 k (i : Int) w).bind fun z => rP k j (i + 1) z.2) (some (.inr (), y.2))
theorem m_b86 {N N2 : fM} {k y to r : Int} {i : Nat} (hi : 1 ≤ i ∧ i ≤ 6) (hto : 0 ≤ to ∧ to < 1200) (m : s_X12_takes N (fLo i) (fHi i) = some (r, N2)) : s_X12_readPiano_b86 N k y to (i : Int) = if r = 0 then some (.inr (.inr (0, N2))) else some (.inl ((i : Int) + 1, fup N2 124 (to + (i : Int)).toNat (N2 122 18))) := by
  have j155 : s_X12_readPiano_j155 N k y to (i : Int) (fLo i) (fHi i) = if r = 0 then some (.inr (.inr (0, N2))) else some (.inl ((i : Int) + 1, fup N2 124 (to + (i : Int)).toNat (N2 122 18))) := by
    unfold s_X12_readPiano_j155
    rw [m, Option.bind_some]
    show (if ¬ r = 0 then (if fin (to + (i : Int)) ∧ (0 ≤ to + (i : Int) ∧ to + (i : Int) < 1290) ∧ fin ((i : Int) + 1) then _ else none) else _) = _
    by_cases g : r = 0
    · rw [if_neg (fun e => e g), if_pos g]
    · rw [if_pos g, if_neg g, if_pos (by unfold fin; omega)]
  have : i = 1 ∨ i = 2 ∨ i = 3 ∨ i = 4 ∨ i = 5 ∨ i = 6 := by omega
  rcases this with rfl | rfl | rfl | rfl | rfl | rfl <;> exact j155
theorem facts_loop {b : Nat → Int} {L lim : Nat} {K0 N0 : fM} {k x y : Int} (hk : 0 ≤ k ∧ k < 16) : ∀ (j i : Nat), i + j = 7 → 1 ≤ i → ∀ (K N : fM) (p : Nat), StB K N b L lim p → PvI K0 N0 K N k x (i : Int) → (∃ K' N' p', rP k j i K = some (.inl (), K') ∧ s_X12_readPiano_l86 k y (820 + 10 * k) ((i : Int), N) = some (.inl N') ∧ StB K' N' b L lim p' ∧ PvI K0 N0 K' N' k x 7 ∧ p ≤ p' ∧ (∀ u : Int, 7 ≤ u → u < 10 → K' 34 (k * 10 + u).toNat = K 34 (k * 10 + u).toNat ∧ N' 124 (820 + 10 * k + u).toNat = N 124 (820 + 10 * k + u).toNat)) ∨ (∃ K' N', rP k j i K = some (.inr (), K') ∧ s_X12_readPiano_l86 k y (820 + 10 * k) ((i : Int), N) = some (.inr (0, N')) ∧ Ft K' N')
  | 0, i, hi, h1, K, N, p, hB, hP => by
    have : i = 7 := by omega
    subst this
    left
    refine ⟨K, N, p, rfl, ?_, hB, hP, Nat.le_refl _, fun u _ _ => ⟨rfl, rfl⟩⟩
    unfold s_X12_readPiano_l86
    rw [fLp_eq]
    rfl
  | j + 1, i, hi, h1, K, N, p, hB, hP => by
    rcases sim_num hB (fLo i) (fHi i) with ⟨K2, N2, c2, m2, hB2, g2, r2, fk2, fn2, lt2⟩ | ⟨K2, N2, c2, m2, hF⟩
    · obtain ⟨v, hvd⟩ : ∃ v, v = tV b L p := ⟨_, rfl⟩
      rw [← hvd] at c2 g2 r2
      have hst := m_b86 (k := k) (y := y) (to := 820 + 10 * k) (by omega : 1 ≤ i ∧ i ≤ 6) (by omega) m2
      rw [if_neg (by decide), g2] at hst
      have hrng : fRng (i : Int) v := by
        have : i = 1 ∨ i = 2 ∨ i = 3 ∨ i = 4 ∨ i = 5 ∨ i = 6 := by omega
        unfold fRng
        rcases this with rfl | rfl | rfl | rfl | rfl | rfl
        · have r2' : (0 : Int) ≤ v ∧ v ≤ 99 := r2
          omega
        · have r2' : (0 : Int) ≤ v ∧ v ≤ 99 := r2
          omega
        · have r2' : (1 : Int) ≤ v ∧ v ≤ 999 := r2
          omega
        · omega
        · have r2' : (0 : Int) ≤ v ∧ v ≤ 9999 := r2
          omega
        · have r2' : (0 : Int) ≤ v ∧ v ≤ 9 := r2
          omega
      have hP2 := pv_fact hk (pv_tok hP fk2 fn2) (w := (i : Int)) (v := v) (j' := ((i + 1 : Nat) : Int)) (by omega) hrng (fun u u0 u1 => by omega)
      have hB3 := StB_m (l := [(124, none)]) (N' := fup N2 124 (820 + 10 * k + (i : Int)).toNat v) (fs_up fs_refl (.inl (by decide))) (by decide) (StB_c (l := [(34, none)]) (K' := fup K2 34 (k * 10 + (i : Int)).toNat v) (fs_up fs_refl (.inl (by decide))) (by decide) hB2)
      have hx1 : rP k (j + 1) i K = rP k j (i + 1) (fup K2 34 (k * 10 + (i : Int)).toNat v) := by
        show ((s_X10_takeNumber K (fLo i) (fHi i)).bind _) = _
        rw [c2]
        show ((s_X2_tell_28 K2 k (i : Int) v).bind _) = _
        rw [c_tell hk (by omega)]
        rfl
      have hx2 : s_X12_readPiano_l86 k y (820 + 10 * k) ((i : Int), N) = s_X12_readPiano_l86 k y (820 + 10 * k) (((i + 1 : Nat) : Int), fup N2 124 (820 + 10 * k + (i : Int)).toNat v) := by
        unfold s_X12_readPiano_l86
        exact fLp_stp (b := fun s : Int × fM => s_X12_readPiano_b86 s.2 k y (820 + 10 * k) s.1) hst
      rw [hx1, hx2]
      rcases facts_loop hk j (i + 1) (by omega) (by omega) _ _ _ hB3 hP2 with ⟨K', N', p', a1, a2, a3, a4, a5, a6⟩ | hF
      · left
        refine ⟨K', N', p', a1, a2, a3, a4, by omega, fun u u0 u1 => ?_⟩
        obtain ⟨q1, q2⟩ := a6 u u0 u1
        rw [q1, q2, fup_eq, upd1_ne (by omega), fs_row fk2 34 (by decide), fup_eq, upd1_ne (by omega), fs_row fn2 124 (by decide)]
        exact ⟨rfl, rfl⟩
      · exact .inr hF
    · right
      have hst := m_b86 (k := k) (y := y) (to := 820 + 10 * k) (by omega : 1 ≤ i ∧ i ≤ 6) (by omega) m2
      rw [if_pos rfl] at hst
      refine ⟨K2, N2, ?_, ?_, hF⟩
      · show ((s_X10_takeNumber K (fLo i) (fHi i)).bind _) = _
        rw [c2]
        rfl
      · unfold s_X12_readPiano_l86
        rw [fLp_eq]
        show (s_X12_readPiano_b86 N k y (820 + 10 * k) (i : Int)).bind _ = _
        rw [hst]
        rfl
