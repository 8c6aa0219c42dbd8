/-! ===== the start of a house ===== -/
theorem fill_loop {B : Int × fM → Option ((Int × fM) ⊕ fM)} {c o n : Nat} {g : Nat → Int} {M0 : fM} (hs : ∀ (i : Nat) (M : fM), i < n → (∀ j, ¬ (o ≤ j ∧ j < o + i) → M c j = M0 c j) → B ((i : Int), M) = some (.inl ((i : Int) + 1, fup M c (o + i) (g i)))) (he : ∀ M, B ((n : Int), M) = some (.inr M)) : ∃ M', fLp B (((0 : Nat) : Int), M0) = some M' ∧ fSame [(c, none)] M0 M' ∧ (∀ j, ¬ (o ≤ j ∧ j < o + n) → M' c j = M0 c j) ∧ (∀ i, i < n → M' c (o + i) = g i) := by
  have key : ∀ (k i : Nat) (M : fM), i + k = n → fSame [(c, none)] M0 M → (∀ j, ¬ (o ≤ j ∧ j < o + i) → M c j = M0 c j) → (∀ q, q < i → M c (o + q) = g q) → ∃ M', fLp B ((i : Int), M) = some M' ∧ fSame [(c, none)] M0 M' ∧ (∀ j, ¬ (o ≤ j ∧ j < o + n) → M' c j = M0 c j) ∧ (∀ i, i < n → M' c (o + i) = g i) := by
    intro k
    induction k with
    | zero =>
      intro i M hi f1 f2 f3
      have : i = n := by omega
      subst this
      refine ⟨M, ?_, f1, f2, f3⟩
      rw [fLp_eq, he]
      rfl
    | succ k ih =>
      intro i M hi f1 f2 f3
      have hst := hs i M (by omega) f2
      rw [fLp_stp hst]
      refine ih (i + 1) _ (by omega) (fs_up f1 (.inl List.mem_cons_self)) (fun j hj => ?_) (fun q hq => ?_)
      · rw [fup_eq, upd1_ne (by omega), f2 j (by omega)]
      · by_cases e : q = i
        · rw [e, fup_eq, upd1_at]
        · rw [fup_eq, upd1_ne (by omega), f3 q (by omega)]
  exact key n 0 M0 (by omega) fs_refl (fun j _ => rfl) (fun q hq => by omega)
theorem c_fill29 (M : fM) (v : Int) : ∃ M', s_J7_fill_29 M v = some ((), M') ∧ fSame [(29, none)] M M' ∧ (∀ j, j < 12 → M' 29 j = v) := by
  obtain ⟨M', h1, h2, -, h4⟩ := fill_loop (B := fun s => s_J7_fill_29_b5 s.2 v s.1 12) (c := 29) (o := 0) (n := 12) (g := fun _ => v) (M0 := M) (fun i M hi _ => by
    show s_J7_fill_29_b5 M v (i : Int) 12 = _
    unfold s_J7_fill_29_b5
    rw [if_neg (by omega), if_pos (by unfold fin; omega), show ((i : Int)).toNat = 0 + i by omega]) (fun M => by
    show s_J7_fill_29_b5 M v 12 12 = _
    unfold s_J7_fill_29_b5
    rw [if_pos (by omega)])
  refine ⟨M', ?_, h2, fun j hj => ?_⟩
  · unfold s_J7_fill_29 s_J7_fill_29_l5
    have h1' : fLp (fun s : Int × fM => s_J7_fill_29_b5 s.2 v s.1 12) (0, M) = some M' := h1
    rw [h1']
    rfl
  · have := h4 j hj
    rw [Nat.zero_add] at this
    exact this
theorem c_fill30 (M : fM) (v : Int) : ∃ M', s_J7_fill_30 M v = some ((), M') ∧ fSame [(30, none)] M M' ∧ (∀ j, j < 52 → M' 30 j = v) := by
  obtain ⟨M', h1, h2, -, h4⟩ := fill_loop (B := fun s => s_J7_fill_30_b5 s.2 v s.1 52) (c := 30) (o := 0) (n := 52) (g := fun _ => v) (M0 := M) (fun i M hi _ => by
    show s_J7_fill_30_b5 M v (i : Int) 52 = _
    unfold s_J7_fill_30_b5
    rw [if_neg (by omega), if_pos (by unfold fin; omega), show ((i : Int)).toNat = 0 + i by omega]) (fun M => by
    show s_J7_fill_30_b5 M v 52 52 = _
    unfold s_J7_fill_30_b5
    rw [if_pos (by omega)])
  refine ⟨M', ?_, h2, fun j hj => ?_⟩
  · unfold s_J7_fill_30 s_J7_fill_30_l5
    have h1' : fLp (fun s : Int × fM => s_J7_fill_30_b5 s.2 v s.1 52) (0, M) = some M' := h1
    rw [h1']
    rfl
  · have := h4 j hj
    rw [Nat.zero_add] at this
    exact this
theorem c_fill31 (M : fM) (v : Int) : ∃ M', s_J7_fill_31 M v = some ((), M') ∧ fSame [(31, none)] M M' ∧ (∀ j, j < 52 → M' 31 j = v) := by
  obtain ⟨M', h1, h2, -, h4⟩ := fill_loop (B := fun s => s_J7_fill_31_b5 s.2 v s.1 52) (c := 31) (o := 0) (n := 52) (g := fun _ => v) (M0 := M) (fun i M hi _ => by
    show s_J7_fill_31_b5 M v (i : Int) 52 = _
    unfold s_J7_fill_31_b5
    rw [if_neg (by omega), if_pos (by unfold fin; omega), show ((i : Int)).toNat = 0 + i by omega]) (fun M => by
    show s_J7_fill_31_b5 M v 52 52 = _
    unfold s_J7_fill_31_b5
    rw [if_pos (by omega)])
  refine ⟨M', ?_, h2, fun j hj => ?_⟩
  · unfold s_J7_fill_31 s_J7_fill_31_l5
    have h1' : fLp (fun s : Int × fM => s_J7_fill_31_b5 s.2 v s.1 52) (0, M) = some M' := h1
    rw [h1']
    rfl
  · have := h4 j hj
    rw [Nat.zero_add] at this
    exact this
theorem c_fill38 (M : fM) (v : Int) : ∃ M', s_J7_fill_38 M v = some ((), M') ∧ fSame [(38, none)] M M' ∧ (∀ j, j < 36 → M' 38 j = v) := by
  obtain ⟨M', h1, h2, -, h4⟩ := fill_loop (B := fun s => s_J7_fill_38_b5 s.2 v s.1 36) (c := 38) (o := 0) (n := 36) (g := fun _ => v) (M0 := M) (fun i M hi _ => by
    show s_J7_fill_38_b5 M v (i : Int) 36 = _
    unfold s_J7_fill_38_b5
    rw [if_neg (by omega), if_pos (by unfold fin; omega), show ((i : Int)).toNat = 0 + i by omega]) (fun M => by
    show s_J7_fill_38_b5 M v 36 36 = _
    unfold s_J7_fill_38_b5
    rw [if_pos (by omega)])
  refine ⟨M', ?_, h2, fun j hj => ?_⟩
  · unfold s_J7_fill_38 s_J7_fill_38_l5
    have h1' : fLp (fun s : Int × fM => s_J7_fill_38_b5 s.2 v s.1 36) (0, M) = some M' := h1
    rw [h1']
    rfl
  · have := h4 j hj
    rw [Nat.zero_add] at this
    exact this
theorem c_clear (M : fM) : ∃ K, s_X2_clear_28 M = some ((), K) ∧ (∀ j, j < 12 → K 29 j = 0) ∧ (∀ j, j < 52 → K 30 j = 20) ∧ (∀ j, j < 52 → K 31 j = 0) ∧ (∀ j, j < 36 → K 38 j = 0) ∧ (∀ j, j < 6 → K 32 j = M 1001 j) ∧ K 28 13 = 0 ∧ K 28 14 = 0 ∧ K 28 15 = 0 ∧ K 28 16 = 0 ∧ K 28 17 = 0 := by
  obtain ⟨M1, a1, a2, a3⟩ := c_fill29 M 0
  obtain ⟨M2, b1, b2, b3⟩ := c_fill30 M1 20
  obtain ⟨M3, c1, c2, c3⟩ := c_fill31 M2 0
  obtain ⟨M4, d1, d2, d3⟩ := c_fill38 M3 0
  refine ⟨_, by unfold s_X2_clear_28; rw [a1, Option.bind_some, b1, Option.bind_some, c1, Option.bind_some, d1, Option.bind_some], fun j hj => ?_, fun j hj => ?_, fun j hj => ?_, fun j hj => ?_, fun j hj => ?_, rfl, rfl, rfl, rfl, rfl⟩
  · rw [fup_ne (by decide), fup_ne (by decide), fup_ne (by decide), fup_ne (by decide), fup_ne (by decide), fcpy_row (by decide)]
    show M4 29 j = 0
    rw [fs_row d2 29 (by decide), fs_row c2 29 (by decide), fs_row b2 29 (by decide), a3 j hj]
  · rw [fup_ne (by decide), fup_ne (by decide), fup_ne (by decide), fup_ne (by decide), fup_ne (by decide), fcpy_row (by decide)]
    show M4 30 j = 20
    rw [fs_row d2 30 (by decide), fs_row c2 30 (by decide), b3 j hj]
  · rw [fup_ne (by decide), fup_ne (by decide), fup_ne (by decide), fup_ne (by decide), fup_ne (by decide), fcpy_row (by decide)]
    show M4 31 j = 0
    rw [fs_row d2 31 (by decide), c3 j hj]
  · rw [fup_ne (by decide), fup_ne (by decide), fup_ne (by decide), fup_ne (by decide), fup_ne (by decide), fcpy_row (by decide)]
    exact d3 j hj
  · rw [fup_ne (by decide), fup_ne (by decide), fup_ne (by decide), fup_ne (by decide), fup_ne (by decide), fcpy_at _ _ _ _ hj]
    show M4 1001 j = M 1001 j
    rw [fs_row d2 1001 (by decide), fs_row c2 1001 (by decide), fs_row b2 1001 (by decide), fs_row a2 1001 (by decide)]
theorem m_beg2 (N : fM) : ∃ N', s_X12_begin_l2 645 (0, N) = some N' ∧ fSame [(124, none)] N N' ∧ (∀ j, ¬ (645 ≤ j ∧ j < 645 + 645) → N' 124 j = N 124 j) ∧ (∀ i, i < 645 → N' 124 (645 + i) = 0) := by
  obtain ⟨N', h1, h2, h3, h4⟩ := fill_loop (B := fun s => s_X12_begin_b2 s.2 645 s.1) (c := 124) (o := 645) (n := 645) (g := fun _ => 0) (M0 := N) (fun i M hi _ => by
    show s_X12_begin_b2 M 645 (i : Int) = _
    unfold s_X12_begin_b2
    rw [if_neg (by omega), if_pos (by unfold fin; omega), show (645 + (i : Int)).toNat = 645 + i by omega]) (fun M => by
    show s_X12_begin_b2 M 645 645 = _
    unfold s_X12_begin_b2
    rw [if_pos (by omega)])
  refine ⟨N', ?_, h2, h3, h4⟩
  unfold s_X12_begin_l2
  exact h1
theorem m_beg26 (N : fM) : ∃ N', s_X12_begin_l26 645 (0, N) = some N' ∧ fSame [(124, none)] N N' ∧ (∀ j, ¬ (658 ≤ j ∧ j < 658 + 52) → N' 124 j = N 124 j) ∧ (∀ i, i < 52 → N' 124 (658 + i) = 20) := by
  obtain ⟨N', h1, h2, h3, h4⟩ := fill_loop (B := fun s => s_X12_begin_b26 s.2 645 s.1) (c := 124) (o := 658) (n := 52) (g := fun _ => 20) (M0 := N) (fun i M hi _ => by
    show s_X12_begin_b26 M 645 (i : Int) = _
    unfold s_X12_begin_b26
    rw [if_neg (by omega), if_pos (by unfold fin; omega), show (645 + 13 + (i : Int)).toNat = 658 + i by omega]) (fun M => by
    show s_X12_begin_b26 M 645 52 = _
    unfold s_X12_begin_b26
    rw [if_pos (by omega)])
  refine ⟨N', ?_, h2, h3, h4⟩
  unfold s_X12_begin_l26
  exact h1
theorem m_beg53 (N : fM) : ∃ N', s_X12_begin_l53 645 (0, N) = some N' ∧ fSame [(124, none)] N N' ∧ (∀ j, ¬ (980 ≤ j ∧ j < 980 + 192) → N' 124 j = N 124 j) ∧ (∀ i, i < 192 → N' 124 (980 + i) = 1) := by
  obtain ⟨N', h1, h2, h3, h4⟩ := fill_loop (B := fun s => s_X12_begin_b53 s.2 645 s.1) (c := 124) (o := 980) (n := 192) (g := fun _ => 1) (M0 := N) (fun i M hi _ => by
    show s_X12_begin_b53 M 645 (i : Int) = _
    unfold s_X12_begin_b53
    rw [if_neg (by omega), if_pos (by unfold fin; omega), show (645 + 335 + (i : Int)).toNat = 980 + i by omega]) (fun M => by
    show s_X12_begin_b53 M 645 192 = _
    unfold s_X12_begin_b53
    rw [if_pos (by omega)])
  refine ⟨N', ?_, h2, h3, h4⟩
  unfold s_X12_begin_l53
  exact h1
/-- the reference's house at the start -/
def bgv (z : Nat) : Int := if 658 ≤ z ∧ z < 710 then 20 else if 980 ≤ z ∧ z < 1172 then 1 else if z = 813 then 5 else if z = 814 then 60 else if z = 815 then 480 else if z = 816 then 1080 else 0
theorem m_begin (N : fM) : ∃ N', s_X12_begin N 645 = some ((), N') ∧ fSame [(124, none)] N N' ∧ (∀ j, j < 645 → N' 124 j = N 124 j) ∧ (∀ z, 645 ≤ z → z < 1290 → N' 124 z = bgv z) := by
  obtain ⟨N1, a1, a2, a3, a4⟩ := m_beg2 N
  obtain ⟨N2, b1, b2, b3, b4⟩ := m_beg26 N1
  obtain ⟨N3, c1, c2, c3, c4⟩ := m_beg53 N2
  refine ⟨fup (fup (fup (fup N3 124 813 5) 124 814 60) 124 815 480) 124 816 1080, ?_, fs_up (fs_up (fs_up (fs_up (fs_trans a2 (fs_trans b2 c2)) (.inl (by decide))) (.inl (by decide))) (.inl (by decide))) (.inl (by decide)), fun j hj => ?_, fun z z0 z1 => ?_⟩
  · unfold s_X12_begin
    rw [a1, Option.bind_some, b1, Option.bind_some, c1, Option.bind_some, if_pos (by unfold fin; omega), if_pos (by unfold fin; omega)]
    rfl
  · rw [fup_eq, upd1_ne (by omega), fup_eq, upd1_ne (by omega), fup_eq, upd1_ne (by omega), fup_eq, upd1_ne (by omega), c3 j (by omega), b3 j (by omega), a3 j (by omega)]
  · rw [fup_eq, fup_eq, fup_eq, fup_eq]
    unfold bgv
    by_cases e4 : z = 816
    · rw [e4, upd1_at]
      rfl
    · rw [upd1_ne e4]
      by_cases e3 : z = 815
      · rw [e3, upd1_at]
        rfl
      · rw [upd1_ne e3]
        by_cases e2 : z = 814
        · rw [e2, upd1_at]
          rfl
        · rw [upd1_ne e2]
          by_cases e1 : z = 813
          · rw [e1, upd1_at]
            rfl
          · rw [upd1_ne e1]
            by_cases g1 : 658 ≤ z ∧ z < 710
            · obtain ⟨i, hi⟩ : ∃ i, z = 658 + i := ⟨z - 658, by omega⟩
              rw [if_pos g1, c3 z (by omega), hi, b4 i (by omega)]
            · rw [if_neg g1]
              by_cases g2 : 980 ≤ z ∧ z < 1172
              · obtain ⟨i, hi⟩ : ∃ i, z = 980 + i := ⟨z - 980, by omega⟩
                rw [if_pos g2, hi, c4 i (by omega)]
              · obtain ⟨i, hi⟩ : ∃ i, z = 645 + i := ⟨z - 645, by omega⟩
                rw [if_neg g2, if_neg e1, if_neg e2, if_neg e3, if_neg e4, c3 z (by omega), b3 z (by omega), hi, a4 i (by omega)]
