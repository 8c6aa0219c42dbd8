/-! ===== records: all lines ===== -/
def LoK (n : Nat) (K K' : fM) : Prop := (∀ k j : Nat, 19 ≤ k → k ≤ 25 → j < n → K' k j = K k j) ∧ (∀ j : Nat, j < 12 * n → K' 26 j = K 26 j)
def LoN (n : Nat) (N N' : fM) : Prop := ∀ j : Nat, j < 19 * n → N' 125 j = N 125 j
theorem LoK_of {n m : Nat} {K K' : fM} (h : RK m K K') (hm : n ≤ m) : LoK n K K' := ⟨fun k j a b c => h.1 k j a b (by omega), fun j hj => h.2 j (by omega)⟩
theorem LoN_of {n m : Nat} {N N' : fM} (h : RN m N N') (hm : n ≤ m) : LoN n N N' := fun j hj => h j (by omega)
theorem LoK_trans {n : Nat} {K K1 K2 : fM} (h : LoK n K K1) (h' : LoK n K1 K2) : LoK n K K2 := ⟨fun k j a b c => (h'.1 k j a b c).trans (h.1 k j a b c), fun j a => (h'.2 j a).trans (h.2 j a)⟩
theorem LoN_trans {n : Nat} {N N1 N2 : fM} (h : LoN n N N1) (h' : LoN n N1 N2) : LoN n N N2 := fun j a => (h' j a).trans (h j a)
theorem LoK_le {n m : Nat} {K K' : fM} (h : LoK m K K') (hm : n ≤ m) : LoK n K K' := ⟨fun k j a b c => h.1 k j a b (by omega), fun j hj => h.2 j (by omega)⟩
theorem LoN_le {n m : Nat} {N N' : fM} (h : LoN m N N') (hm : n ≤ m) : LoN n N N' := fun j hj => h j (by omega)
theorem RowR_keep {K K' N N' : fM} {n q : Nat} (hq : q < n) (hk : LoK n K K') (hm : LoN n N N') (e13 : K' 4 13 = K 4 13) (e14 : K' 4 14 = K 4 14) (e10 : K' 10 = K 10) (h : RowR K N q) : RowR K' N' q := by
  obtain ⟨kd, x, a, h1, h2, h3, h4, h5, h6, h7, hA, hW, h8, hT⟩ := h
  have kk : ∀ k, 19 ≤ k → k ≤ 25 → K' k q = K k q := fun k a b => hk.1 k q a b hq
  have nn : ∀ j, j < 19 → N' 125 (19 * q + j) = N 125 (19 * q + j) := fun j hj => hm _ (by omega)
  have n0 : N' 125 (19 * q) = N 125 (19 * q) := hm _ (by omega)
  refine ⟨kd, x, a, h1, ?_, ?_, ?_, ?_, ?_, ?_, ?_, ?_, h8, ?_⟩
  · rw [kk 19 (by decide) (by decide)]; exact h2
  · rw [n0]; exact h3
  · rw [e13]; exact h4
  · rw [kk 20 (by decide) (by decide)]; exact h5
  · rw [nn 1 (by decide)]; exact h6
  · rw [e10]; exact h7
  · unfold RA at hA ⊢
    rw [nn 4 (by decide), nn 5 (by decide), kk 23 (by decide) (by decide), kk 24 (by decide) (by decide), e14]
    exact hA
  · unfold RWd at hW ⊢
    rw [nn 2 (by decide), nn 3 (by decide), kk 21 (by decide) (by decide), kk 22 (by decide) (by decide)]
    exact hW
  · refine ⟨?_, ?_, fun j hj => ?_⟩
    · rw [kk 25 (by decide) (by decide)]; exact hT.1
    · rw [nn 6 (by decide)]; exact hT.2.1
    · rw [hm (19 * q + 7 + j) (by omega), hk.2 (12 * q + j) (by omega)]
      exact hT.2.2 j hj
theorem m_recs_b0 {N : fM} {b : Nat → Int} {L lim p : Nat} (hc : CuM N b L lim p) (hp : p ≤ L) : s_X12_readRecords_b0 N = if tKd b L lim p = 0 then some (.inr (.inl N)) else s_X12_readRecords_j107 N (if 21 ≤ kx b L lim p ∧ kx b L lim p ≤ 27 then kx b L lim p - 21 else -1) := by
  have n0 := (kd_ne hc).2.2.1
  have w21 := m_word hc hp 21 (by decide) 500186375524 (by decide +kernel)
  have w22 := m_word hc hp 22 (by decide) 439956631140 (by decide +kernel)
  have w23 := m_word hc hp 23 (by decide) 422826699621 (by decide +kernel)
  have w24 := m_word hc hp 24 (by decide) 1885432164 (by decide +kernel)
  have w25 := m_word hc hp 25 (by decide) 6386789 (by decide +kernel)
  have w26 := m_word hc hp 26 (by decide) 27988542599033460 (by decide +kernel)
  have w27 := m_word hc hp 27 (by decide) 470021465444 (by decide +kernel)
  obtain ⟨x, hx⟩ : ∃ x, x = kx b L lim p := ⟨_, rfl⟩
  rw [← hx] at w21 w22 w23 w24 w25 w26 w27 ⊢
  unfold s_X12_readRecords_b0
  by_cases g : tKd b L lim p = 0
  · rw [if_pos g, if_pos (n0.2 g)]
  · rw [if_neg g, if_neg (fun e => g (n0.1 e)), w21, Option.bind_some, bit_if, w22, Option.bind_some, bit_if, w23, Option.bind_some, bit_if, w24, Option.bind_some, bit_if, w25, Option.bind_some, bit_if, w26, Option.bind_some, bit_if, w27, Option.bind_some, bit_if]
    by_cases e21 : x = 21
    · rw [if_pos (show x = ((21 : Nat) : Int) from e21), if_pos (by omega), e21]; rfl
    rw [if_neg (show ¬ x = ((21 : Nat) : Int) from e21)]
    by_cases e22 : x = 22
    · rw [if_pos (show x = ((22 : Nat) : Int) from e22), if_pos (by omega), e22]; rfl
    rw [if_neg (show ¬ x = ((22 : Nat) : Int) from e22)]
    by_cases e23 : x = 23
    · rw [if_pos (show x = ((23 : Nat) : Int) from e23), if_pos (by omega), e23]; rfl
    rw [if_neg (show ¬ x = ((23 : Nat) : Int) from e23)]
    by_cases e24 : x = 24
    · rw [if_pos (show x = ((24 : Nat) : Int) from e24), if_pos (by omega), e24]; rfl
    rw [if_neg (show ¬ x = ((24 : Nat) : Int) from e24)]
    by_cases e25 : x = 25
    · rw [if_pos (show x = ((25 : Nat) : Int) from e25), if_pos (by omega), e25]; rfl
    rw [if_neg (show ¬ x = ((25 : Nat) : Int) from e25)]
    by_cases e26 : x = 26
    · rw [if_pos (show x = ((26 : Nat) : Int) from e26), if_pos (by omega), e26]; rfl
    rw [if_neg (show ¬ x = ((26 : Nat) : Int) from e26)]
    by_cases e27 : x = 27
    · rw [if_pos (show x = ((27 : Nat) : Int) from e27), if_pos (by omega), e27]; rfl
    rw [if_neg (show ¬ x = ((27 : Nat) : Int) from e27), if_neg (by omega)]
abbrev rsN : List (Nat × Option Nat) := [(122, some 4), (122, some 11), (122, some 12), (122, some 13), (122, some 14), (122, some 17), (122, some 18), (122, some 21), (125, none)]
theorem recs_loop {b : Nat → Int} {L lim : Nat} : ∀ (d : Nat) (K N : fM) (p i n : Nat), L - p < d → StB K N b L lim p → HR K N → (∀ q, q < n → RowR K N q) → n ≤ 200 → N 122 21 = (n : Int) → 2 * i ≤ p → (∃ K' N' n', s_X5_readAll_l20 ((n : Int), (i : Int), K) = some (.inr (.inl ((n' : Nat) : Int), K')) ∧ s_X12_readRecords_l0 N = some (.inl N') ∧ n' ≤ 200 ∧ (∀ q, q < n' → RowR K' N' q) ∧ N' 122 21 = (n' : Int) ∧ K' 1 9 = 0 ∧ N' 122 15 = 0 ∧ fSame rlK K K' ∧ fSame rsN N N') ∨ (∃ K' N', s_X5_readAll_l20 ((n : Int), (i : Int), K) = some (.inr (.inr (), K')) ∧ s_X12_readRecords_l0 N = some (.inr (0, N')) ∧ Ft K' N' ∧ LoK n K K' ∧ LoN n N N') := by
  intro d
  induction d with
  | zero =>
    intro K N p i n hd
    exact absurd hd (Nat.not_lt_zero _)
  | succ d ih =>
    intro K N p i n hd hB hH hR hn2 hN hi
    have hpL : p ≤ L := hB.2.2.2.2.1
    have hL : L ≤ 1240 := hB.1.2.2.1
    obtain ⟨K1, c1, fk1, hA1⟩ := sim_take hB
    have hkw := c_kw hA1.1 hA1.2.2.1 hA1.2.2.2.2.1
    have k16 : K1 1 6 = tKd b L lim p := hA1.2.2.1.2.2.1
    have mb := m_recs_b0 hA1.2.2.2.1 hpL
    have cb : s_X5_readAll_b20 K (n : Int) (i : Int) = if ¬ tKd b L lim p = 0 then (if kx b L lim p < 21 then s_X5_readAll_j66 K1 (n : Int) (i : Int) (kx b L lim p) else if kx b L lim p ≤ 27 then s_X5_readAll_j74 K1 (n : Int) (i : Int) (kx b L lim p) else s_X5_readAll_j66 K1 (n : Int) (i : Int) (kx b L lim p)) else some (.inr (.inr (.inl (n : Int), K1))) := by
      unfold s_X5_readAll_b20
      rw [if_neg (by omega), c1, Option.bind_some]
      show (if ¬ (K1 1 6) = 0 then (s_X10_keywordHere K1).bind _ else some (Sum.inr (Sum.inr (Sum.inl (n : Int), K1)))) = _
      rw [k16, hkw, Option.bind_some]
      by_cases h0 : tKd b L lim p = 0
      · rw [if_neg (show ¬ ¬ ((tKd b L lim p : Nat) : Int) = 0 by omega), if_neg (show ¬ ¬ tKd b L lim p = 0 by omega)]
      · rw [if_pos (show ¬ ((tKd b L lim p : Nat) : Int) = 0 by omega), if_pos (show ¬ tKd b L lim p = 0 by omega)]
    have stop : ∀ (K2 N2 : fM), s_X5_readAll_b20 K (n : Int) (i : Int) = some (.inr (.inr (.inr (), K2))) → s_X12_readRecords_b0 N = some (.inr (.inr (0, N2))) → Ft K2 N2 → LoK n K K2 → LoN n N N2 → (∃ K' N' n', s_X5_readAll_l20 ((n : Int), (i : Int), K) = some (.inr (.inl ((n' : Nat) : Int), K')) ∧ s_X12_readRecords_l0 N = some (.inl N') ∧ n' ≤ 200 ∧ (∀ q, q < n' → RowR K' N' q) ∧ N' 122 21 = (n' : Int) ∧ K' 1 9 = 0 ∧ N' 122 15 = 0 ∧ fSame rlK K K' ∧ fSame rsN N N') ∨ (∃ K' N', s_X5_readAll_l20 ((n : Int), (i : Int), K) = some (.inr (.inr (), K')) ∧ s_X12_readRecords_l0 N = some (.inr (0, N')) ∧ Ft K' N' ∧ LoK n K K' ∧ LoN n N N') := by
      intro K2 N2 hc hm hF h1 h2
      refine .inr ⟨K2, N2, ?_, ?_, hF, h1, h2⟩
      · unfold s_X5_readAll_l20
        rw [fLp_eq]
        show (s_X5_readAll_b20 K (n : Int) (i : Int)).bind _ = _
        rw [hc]
        rfl
      · unfold s_X12_readRecords_l0
        rw [fLp_eq]
        show (s_X12_readRecords_b0 N).bind _ = _
        rw [hm]
        rfl
    by_cases g : tKd b L lim p = 0
    · rw [if_neg (fun e => e g)] at cb
      rw [if_pos g] at mb
      left
      refine ⟨K1, N, n, ?_, ?_, hn2, fun q hq => RowR_keep hq (LoK_of (RK_fs (n := n) fk1 (by decide)) (Nat.le_refl n)) (fun j _ => rfl) (fs_at fk1 4 13 (by decide)) (fs_at fk1 4 14 (by decide)) (fs_row fk1 10 (by decide)) (hR q hq), hN, hA1.2.2.2.2.2.1, hA1.2.2.2.2.2.2, fs_mono (by decide) fk1, fs_refl⟩
      · unfold s_X5_readAll_l20
        rw [fLp_eq]
        show (s_X5_readAll_b20 K (n : Int) (i : Int)).bind _ = _
        rw [cb]
        rfl
      · unfold s_X12_readRecords_l0
        rw [fLp_eq]
        show (s_X12_readRecords_b0 N).bind _ = _
        rw [mb]
        rfl
    · rw [if_pos g] at cb
      rw [if_neg g] at mb
      have lk1 : LoK n K K1 := LoK_of (RK_fs (n := n) fk1 (by decide)) (Nat.le_refl n)
      by_cases hkd : 21 ≤ kx b L lim p ∧ kx b L lim p ≤ 27
      · rw [if_neg (by omega), if_pos hkd.2] at cb
        rw [if_pos hkd] at mb
        obtain ⟨kd, hkdd⟩ : ∃ kd, kd = kx b L lim p - 21 := ⟨_, rfl⟩
        rw [← hkdd] at mb
        have h2p : p + 2 ≤ tNx b L lim p := by
          obtain ⟨k, hk⟩ : ∃ k : Nat, kx b L lim p = (k : Int) := ⟨(kx b L lim p).toNat, by omega⟩
          exact kx_two hpL (show k < 30 by omega) hk
        unfold s_X5_readAll_j74 at cb
        unfold s_X12_readRecords_j107 at mb
        rw [if_pos (show 0 ≤ kd by omega), hN] at mb
        by_cases h200 : n < 200
        · rw [if_pos (show (n : Int) < 200 by omega)] at cb
          rw [if_pos (show ¬ (n : Int) = 200 by omega), if_pos (show fin (19 * (n : Int)) by unfold fin; omega)] at mb
          unfold s_X5_readAll_j89 at cb
          rw [← hkdd, if_pos (show fin kd by unfold fin; omega)] at cb
          have hH1 : HR K1 N := HR_fs fk1 (by decide) (fs_refl (l := [])) (by decide) hH
          rcases r_line (n := n) (kd := kd) (row := (n : Int)) (to := 19 * (n : Int)) hA1 hH1 h200 rfl rfl (by omega) with ⟨K2, N2, p2, c2, m2, hA2, lt2, hRow, fk2, fn2, rk2, rn2⟩ | ⟨K2, N2, c2, m2, hF, rk2, rn2⟩
          · rw [c2, Option.bind_some, fel_l] at cb
            rw [m2, Option.bind_some, if_neg (show ¬ (1 : Int) = 0 by decide)] at mb
            have k26 : K2 1 6 = tKd b L lim p2 := hA2.2.2.1.2.2.1
            have hpL2 : p2 ≤ L := hA2.2.2.2.2.1
            have n21 : N2 122 21 = (n : Int) := by rw [fs_at fn2 122 21 (by decide), hN]
            have cb2 : s_X5_readAll_b20 K (n : Int) (i : Int) = if tKd b L lim p2 = 4 then (if fin ((n : Int) + 1) ∧ fin ((i : Int) + 1) then some (.inl (((n : Int) + 1), ((i : Int) + 1), K2)) else none) else (s_X10_fail K2 1).bind fun y114 => fel y114.1 (fun w114 => if fin ((n : Int) + 1) ∧ fin ((i : Int) + 1) then some (.inl (((n : Int) + 1), ((i : Int) + 1), y114.2)) else none) (some (.inr (.inr (.inr (), y114.2)))) := by
              have cb1 : s_X5_readAll_b20 K (n : Int) (i : Int) = if K2 1 6 = 4 then (if fin ((n : Int) + 1) ∧ fin ((i : Int) + 1) then some (.inl (((n : Int) + 1), ((i : Int) + 1), K2)) else none) else (s_X10_fail K2 1).bind fun y114 => fel y114.1 (fun w114 => if fin ((n : Int) + 1) ∧ fin ((i : Int) + 1) then some (.inl (((n : Int) + 1), ((i : Int) + 1), y114.2)) else none) (some (.inr (.inr (.inr (), y114.2)))) := cb
              rw [cb1, k26]
              by_cases h0 : tKd b L lim p2 = 4
              · rw [if_pos (show ((tKd b L lim p2 : Nat) : Int) = 4 by omega), if_pos h0]
              · rw [if_neg (show ¬ ((tKd b L lim p2 : Nat) : Int) = 4 by omega), if_neg h0]
            have mb2 : s_X12_readRecords_b0 N = (s_X12_sign N2 59).bind (fun y152 => if ¬ y152.1 = 0 then (if fin ((y152.2 122 21) + 1) then some (.inl (fup y152.2 122 21 ((y152.2 122 21) + 1))) else none) else some (.inr (.inr (0, y152.2)))) := mb
            rw [m_sign hA2.2.2.2.1] at mb2
            by_cases g4 : tKd b L lim p2 = 4
            · rw [if_pos g4] at cb2 mb2
              obtain ⟨N3, m3, fn3, hB3⟩ := sim_next hA2
              have n321 : N3 122 21 = (n : Int) := by rw [fs_at fn3 122 21 (by decide), n21]
              have cb3 : s_X5_readAll_b20 K (n : Int) (i : Int) = some (.inl ((n : Int) + 1, (i : Int) + 1, K2)) := by
                rw [cb2, if_pos (by unfold fin; omega)]
              have mb3 : s_X12_readRecords_b0 N = some (.inl (fup N3 122 21 ((n : Int) + 1))) := by
                rw [mb2, m3, Option.bind_some, Option.bind_some, if_pos (show ¬ (1 : Int) = 0 by decide)]
                obtain ⟨z, hz⟩ : ∃ z : Int, z = (n : Int) := ⟨_, rfl⟩
                rw [← hz] at n321 ⊢
                show (if fin ((N3 122 21) + 1) then some (Sum.inl (fup N3 122 21 ((N3 122 21) + 1))) else none) = _
                rw [n321, if_pos (by unfold fin; omega)]
              have hx1 : s_X5_readAll_l20 ((n : Int), (i : Int), K) = s_X5_readAll_l20 (((n + 1 : Nat) : Int), ((i + 1 : Nat) : Int), K2) := by
                unfold s_X5_readAll_l20
                exact fLp_stp (b := fun s : Int × Int × fM => s_X5_readAll_b20 s.2.2 s.1 s.2.1) cb3
              have hx2 : s_X12_readRecords_l0 N = s_X12_readRecords_l0 (fup N3 122 21 ((n : Int) + 1)) := by
                unfold s_X12_readRecords_l0
                exact fLp_stp (b := fun s : fM => s_X12_readRecords_b0 s) mb3
              rw [hx1, hx2]
              have fN : fSame [(122, some 21)] N3 (fup N3 122 21 ((n : Int) + 1)) := fs_up fs_refl (.inr (by decide))
              have fKK : fSame rlK K K2 := fs_trans (fs_mono (by decide) fk1) fk2
              have fNN : fSame rsN N (fup N3 122 21 ((n : Int) + 1)) := fs_trans (fs_mono (by decide) fn2) (fs_trans (fs_mono (by decide) fn3) (fs_mono (by decide) fN))
              have le3 : p2 < tNx b L lim p2 := tNx_lt hpL2 (show 2 ≤ tKd b L lim p2 by omega)
              have hpL3 : tNx b L lim p2 ≤ L := hB3.2.2.2.2.1
              have rkA : LoK n K K2 := LoK_trans lk1 (LoK_of rk2 (Nat.le_refl n))
              have rnA : LoN n N (fup N3 122 21 ((n : Int) + 1)) := LoN_trans (LoN_of rn2 (Nat.le_refl n)) (LoN_trans (LoN_of (RN_fs (n := n) fn3 (by decide)) (Nat.le_refl n)) (LoN_of (RN_fs (n := n) fN (by decide)) (Nat.le_refl n)))
              have rnB : LoN (n + 1) N2 (fup N3 122 21 ((n : Int) + 1)) := LoN_trans (LoN_of (RN_fs (n := n + 1) fn3 (by decide)) (Nat.le_refl _)) (LoN_of (RN_fs (n := n + 1) fN (by decide)) (Nat.le_refl _))
              have hR2 : ∀ q, q < n + 1 → RowR K2 (fup N3 122 21 ((n : Int) + 1)) q := fun q hq => by
                by_cases e : q = n
                · subst e
                  exact RowR_keep (n := q + 1) (by omega) ⟨fun _ _ _ _ _ => rfl, fun _ _ => rfl⟩ rnB rfl rfl rfl hRow
                · exact RowR_keep (n := n) (by omega) rkA rnA (fs_at fKK 4 13 (by decide)) (fs_at fKK 4 14 (by decide)) (fs_row fKK 10 (by decide)) (hR q (by omega))
              rcases ih K2 (fup N3 122 21 ((n : Int) + 1)) (tNx b L lim p2) (i + 1) (n + 1) (by omega) (StB_m fN (by decide) hB3) (HR_fs fKK (by decide) fNN (by decide) hH) hR2 (by omega) (by rw [fup_eq, upd1_at]; omega) (by omega) with ⟨K', N', n', q1, q2, q3, q4, q5, q6, q7, q8, q9⟩ | ⟨K', N', q1, q2, q3, q4, q5⟩
              · exact .inl ⟨K', N', n', q1, q2, q3, q4, q5, q6, q7, fs_trans fKK q8, fs_trans fNN q9⟩
              · exact .inr ⟨K', N', q1, q2, q3, LoK_trans rkA (LoK_le q4 (Nat.le_succ n)), LoN_trans rnA (LoN_le q5 (Nat.le_succ n))⟩
            · rw [if_neg g4] at cb2 mb2
              obtain ⟨Kf, Nf, q1, q2, q3⟩ := sim_fail hA2 1 (by decide)
              rw [q1, Option.bind_some, fel_r] at cb2
              rw [q2, Option.bind_some, if_pos (show b01 (0, Nf).1 from .inl rfl), Option.bind_some, if_neg (show ¬ ¬ (0 : Int) = 0 by decide)] at mb2
              exact stop Kf Nf cb2 mb2 q3 (LoK_trans lk1 (LoK_trans (LoK_of rk2 (Nat.le_refl n)) (LoK_of (RK_fs (n := n) (s_X10_fail_fr q1) (by decide)) (Nat.le_refl n)))) (LoN_trans (LoN_of rn2 (Nat.le_refl n)) (LoN_of (RN_fs (n := n) (s_X12_bad_fr q2) (by decide)) (Nat.le_refl n)))
          · rw [c2, Option.bind_some, fel_r] at cb
            rw [m2, Option.bind_some, if_pos (show (0 : Int) = 0 from rfl)] at mb
            exact stop K2 N2 cb mb hF (LoK_trans lk1 (LoK_of rk2 (Nat.le_refl n))) (LoN_of rn2 (Nat.le_refl n))
        · rw [if_neg (show ¬ (n : Int) < 200 by omega)] at cb
          rw [if_neg (show ¬ ¬ (n : Int) = 200 by omega)] at mb
          obtain ⟨Kf, Nf, q1, q2, q3⟩ := sim_fail hA1 4 (by decide)
          rw [q1, Option.bind_some, fel_r] at cb
          rw [q2, Option.bind_some, if_pos (show b01 (0, Nf).1 from .inl rfl)] at mb
          exact stop Kf Nf cb mb q3 (LoK_trans lk1 (LoK_of (RK_fs (n := n) (s_X10_fail_fr q1) (by decide)) (Nat.le_refl n))) (LoN_of (RN_fs (n := n) (s_X12_bad_fr q2) (by decide)) (Nat.le_refl n))
      · rw [if_neg hkd] at mb
        obtain ⟨Kf, Nf, q1, q2, q3⟩ := sim_fail hA1 1 (by decide)
        have j66 : s_X5_readAll_j66 K1 (n : Int) (i : Int) (kx b L lim p) = some (.inr (.inr (.inr (), Kf))) := by
          unfold s_X5_readAll_j66
          rw [q1, Option.bind_some, fel_r]
        have cb2 : s_X5_readAll_b20 K (n : Int) (i : Int) = some (.inr (.inr (.inr (), Kf))) := by
          rw [cb]
          by_cases h1 : kx b L lim p < 21
          · rw [if_pos h1, j66]
          · rw [if_neg h1, if_neg (by omega), j66]
        unfold s_X12_readRecords_j107 at mb
        rw [if_neg (show ¬ (0 : Int) ≤ -1 by decide), q2, Option.bind_some, if_pos (show b01 (0, Nf).1 from .inl rfl)] at mb
        exact stop Kf Nf cb2 mb q3 (LoK_trans lk1 (LoK_of (RK_fs (n := n) (s_X10_fail_fr q1) (by decide)) (Nat.le_refl n))) (LoN_of (RN_fs (n := n) (s_X12_bad_fr q2) (by decide)) (Nat.le_refl n))
