/-! ===== the constructors: tape, houses ===== -/
theorem fs_clr {l : List (Nat × Option Nat)} {M M1 : fM} {k : Nat} (h : fSame l M M1) (hm : (k, none) ∈ l) : fSame l M (fclr M1 k) := fun a b hn => by
  unfold fclr
  rw [if_neg (fun e => hn (by rw [e]; exact .inl hm))]
  exact h a b hn
def ktx (j : Nat) : Int := (ftextB.getD j 0).toInt
def kst : Nat → Int × Nat
  | 0 => (0, 0)
  | i + 1 => if ktx i = 32 then (0, (kst i).2 + 1) else ((kst i).1 * 32 + ((ktx i - 97) + 1), (kst i).2)
theorem kst_chk : ∀ i, i < 162 → (kst i).2 < 30 ∧ (ktx i = 32 → (kst i).1 = kw5.getD (kst i).2 0) ∧ (¬ ktx i = 32 → fwl (fwl ((kst i).1 * 32) + ((ktx i - 97) + 1)) = (kst i).1 * 32 + ((ktx i - 97) + 1) ∧ 0 ≤ ktx i ∧ ktx i ≤ 127) := by decide +kernel
theorem kst_end : (kst 162).2 = 30 := by decide +kernel
noncomputable def kmem (M : fM) : Nat → fM
  | 0 => M
  | i + 1 => if ktx i = 32 then fup (kmem M i) 3 (kst i).2 (kst i).1 else kmem M i
theorem kmem_fs (M : fM) : ∀ i, fSame [(3, none)] M (kmem M i)
  | 0 => fs_refl
  | i + 1 => by
    have ih := kmem_fs M i
    show fSame [(3, none)] M (if ktx i = 32 then fup (kmem M i) 3 (kst i).2 (kst i).1 else kmem M i)
    split
    · exact fs_up ih (.inl (by decide))
    · exact ih
theorem kmem_v (M : fM) : ∀ i, i ≤ 162 → ∀ q, q < (kst i).2 → kmem M i 3 q = kw5.getD q 0
  | 0, _, q, hq => absurd hq (Nat.not_lt_zero q)
  | i + 1, hi, q, hq => by
    have ih := kmem_v M i (by omega)
    have hc := kst_chk i (by omega)
    show (if ktx i = 32 then fup (kmem M i) 3 (kst i).2 (kst i).1 else kmem M i) 3 q = kw5.getD q 0
    have hk : kst (i + 1) = if ktx i = 32 then (0, (kst i).2 + 1) else ((kst i).1 * 32 + ((ktx i - 97) + 1), (kst i).2) := rfl
    rw [hk] at hq
    by_cases e : ktx i = 32
    · rw [if_pos e] at hq ⊢
      have hq' : q < (kst i).2 + 1 := hq
      rw [fup_eq]
      by_cases g : q = (kst i).2
      · rw [g, upd1_at, hc.2.1 e]
      · rw [upd1_ne g]
        exact ih q (by omega)
    · rw [if_neg e] at hq ⊢
      exact ih q hq
theorem i_tape (M : fM) (ht : ∀ j, j < 162 → M 1004 j = ktx j) : ∃ K, s_X10_init_c2 M = some ((), K) ∧ fSame [(2, none), (3, none)] M K ∧ (∀ j, K 2 j = 0) ∧ (∀ j, j < 30 → K 3 j = kw5.getD j 0) := by
  obtain ⟨M0, hM0⟩ : ∃ M0, M0 = fclr (fclr M 2) 3 := ⟨_, rfl⟩
  have f0 : fSame [(2, none), (3, none)] M M0 := by rw [hM0]; exact fs_clr (fs_clr fs_refl (by decide)) (by decide)
  have hrun : s_X10_init_c2_l28 (0, 0, 0, M0) = some (kmem M0 162) := by
    unfold s_X10_init_c2_l28
    refine fLp_for (b := fun s : Int × Int × Int × fM => s_X10_init_c2_b28 s.2.2.2 s.1 s.2.1 s.2.2.1) (fun i => ((kst i).1, ((kst i).2 : Int), (i : Int), kmem M0 i)) 162 (fun i hi => ?_) ?_
    · show s_X10_init_c2_b28 (kmem M0 i) (kst i).1 ((kst i).2 : Int) (i : Int) = some (.inl ((kst (i + 1)).1, ((kst (i + 1)).2 : Int), ((i + 1 : Nat) : Int), kmem M0 (i + 1)))
      have hc := kst_chk i hi
      have hk : kst (i + 1) = if ktx i = 32 then (0, (kst i).2 + 1) else ((kst i).1 * 32 + ((ktx i - 97) + 1), (kst i).2) := rfl
      have hm : kmem M0 (i + 1) = if ktx i = 32 then fup (kmem M0 i) 3 (kst i).2 (kst i).1 else kmem M0 i := rfl
      have htx : kmem M0 i 1004 i = ktx i := by rw [fs_row (kmem_fs M0 i) 1004 (by decide), fs_row f0 1004 (by decide), ht i hi]
      have hi1 : ((i + 1 : Nat) : Int) = (i : Int) + 1 := by omega
      rw [hk, hm, hi1]
      obtain ⟨c, hcd⟩ : ∃ c, c = (kst i).1 := ⟨_, rfl⟩
      obtain ⟨k, hkd⟩ : ∃ k, k = (kst i).2 := ⟨_, rfl⟩
      rw [← hcd, ← hkd] at hc ⊢
      unfold s_X10_init_c2_b28
      rw [if_neg (by omega), if_neg (by omega), if_pos (by omega), show ((i : Int)).toNat = i from rfl, htx]
      by_cases e : ktx i = 32
      · rw [if_neg (fun h => h e), if_pos e, if_pos (by unfold fin; omega), if_pos e, show ((k : Int)).toNat = k from rfl]
        show some (Sum.inl (0, (k : Int) + 1, (i : Int) + 1, fup (kmem M0 i) 3 k c)) = some (Sum.inl (0, ((k + 1 : Nat) : Int), (i : Int) + 1, fup (kmem M0 i) 3 k c))
        rw [show ((k + 1 : Nat) : Int) = (k : Int) + 1 by omega]
      · have h3 := hc.2.2 e
        rw [if_pos e, if_neg e, if_neg e]
        unfold s_X10_withLetter_c4
        rw [if_pos (by unfold fin; omega), Option.bind_some, if_pos (by unfold fin; omega), h3.1]
    · show s_X10_init_c2_b28 (kmem M0 162) (kst 162).1 ((kst 162).2 : Int) (162 : Int) = _
      unfold s_X10_init_c2_b28
      rw [if_pos (by omega)]
  refine ⟨kmem M0 162, ?_, fs_trans f0 (fs_mono (by decide) (kmem_fs M0 162)), fun j => ?_, fun j hj => kmem_v M0 162 (Nat.le_refl _) j (by rw [kst_end]; exact hj)⟩
  · unfold s_X10_init_c2 s_X10_init_c2_j23
    rw [← hM0, hrun]
    rfl
  · rw [fs_row (kmem_fs M0 162) 2 (by decide), hM0]
    rfl
theorem i_fill5 (M : fM) (v : Int) : ∃ M', s_J7_fill_5_c18 M v = some ((), M') ∧ fSame [(5, none)] M M' ∧ (∀ j, j < 12 → M' 5 j = v) := by
  obtain ⟨M', h1, h2, -, h4⟩ := fill_loop (B := fun s => s_J7_fill_5_c18_b5 s.2 v s.1 12) (c := 5) (o := 0) (n := 12) (g := fun _ => v) (M0 := M) (fun i M hi _ => by
    show s_J7_fill_5_c18_b5 M v (i : Int) 12 = _
    unfold s_J7_fill_5_c18_b5
    rw [if_neg (by omega), if_pos (by unfold fin; omega), show ((i : Int)).toNat = 0 + i by omega]) (fun M => by
    show s_J7_fill_5_c18_b5 M v 12 12 = _
    unfold s_J7_fill_5_c18_b5
    rw [if_pos (by omega)])
  refine ⟨M', ?_, h2, fun j hj => ?_⟩
  · unfold s_J7_fill_5_c18 s_J7_fill_5_c18_l5
    have h1' : fLp (fun s : Int × fM => s_J7_fill_5_c18_b5 s.2 v s.1 12) (0, M) = some M' := h1
    rw [h1']
    rfl
  · have := h4 j hj
    rw [Nat.zero_add] at this
    exact this
theorem i_fill6 (M : fM) (v : Int) : ∃ M', s_J7_fill_6_c18 M v = some ((), M') ∧ fSame [(6, none)] M M' ∧ (∀ j, j < 52 → M' 6 j = v) := by
  obtain ⟨M', h1, h2, -, h4⟩ := fill_loop (B := fun s => s_J7_fill_6_c18_b5 s.2 v s.1 52) (c := 6) (o := 0) (n := 52) (g := fun _ => v) (M0 := M) (fun i M hi _ => by
    show s_J7_fill_6_c18_b5 M v (i : Int) 52 = _
    unfold s_J7_fill_6_c18_b5
    rw [if_neg (by omega), if_pos (by unfold fin; omega), show ((i : Int)).toNat = 0 + i by omega]) (fun M => by
    show s_J7_fill_6_c18_b5 M v 52 52 = _
    unfold s_J7_fill_6_c18_b5
    rw [if_pos (by omega)])
  refine ⟨M', ?_, h2, fun j hj => ?_⟩
  · unfold s_J7_fill_6_c18 s_J7_fill_6_c18_l5
    have h1' : fLp (fun s : Int × fM => s_J7_fill_6_c18_b5 s.2 v s.1 52) (0, M) = some M' := h1
    rw [h1']
    rfl
  · have := h4 j hj
    rw [Nat.zero_add] at this
    exact this
theorem i_fill7 (M : fM) (v : Int) : ∃ M', s_J7_fill_7_c18 M v = some ((), M') ∧ fSame [(7, none)] M M' ∧ (∀ j, j < 52 → M' 7 j = v) := by
  obtain ⟨M', h1, h2, -, h4⟩ := fill_loop (B := fun s => s_J7_fill_7_c18_b5 s.2 v s.1 52) (c := 7) (o := 0) (n := 52) (g := fun _ => v) (M0 := M) (fun i M hi _ => by
    show s_J7_fill_7_c18_b5 M v (i : Int) 52 = _
    unfold s_J7_fill_7_c18_b5
    rw [if_neg (by omega), if_pos (by unfold fin; omega), show ((i : Int)).toNat = 0 + i by omega]) (fun M => by
    show s_J7_fill_7_c18_b5 M v 52 52 = _
    unfold s_J7_fill_7_c18_b5
    rw [if_pos (by omega)])
  refine ⟨M', ?_, h2, fun j hj => ?_⟩
  · unfold s_J7_fill_7_c18 s_J7_fill_7_c18_l5
    have h1' : fLp (fun s : Int × fM => s_J7_fill_7_c18_b5 s.2 v s.1 52) (0, M) = some M' := h1
    rw [h1']
    rfl
  · have := h4 j hj
    rw [Nat.zero_add] at this
    exact this
theorem i_fill14 (M : fM) (v : Int) : ∃ M', s_J7_fill_14_c18 M v = some ((), M') ∧ fSame [(14, none)] M M' ∧ (∀ j, j < 36 → M' 14 j = v) := by
  obtain ⟨M', h1, h2, -, h4⟩ := fill_loop (B := fun s => s_J7_fill_14_c18_b5 s.2 v s.1 36) (c := 14) (o := 0) (n := 36) (g := fun _ => v) (M0 := M) (fun i M hi _ => by
    show s_J7_fill_14_c18_b5 M v (i : Int) 36 = _
    unfold s_J7_fill_14_c18_b5
    rw [if_neg (by omega), if_pos (by unfold fin; omega), show ((i : Int)).toNat = 0 + i by omega]) (fun M => by
    show s_J7_fill_14_c18_b5 M v 36 36 = _
    unfold s_J7_fill_14_c18_b5
    rw [if_pos (by omega)])
  refine ⟨M', ?_, h2, fun j hj => ?_⟩
  · unfold s_J7_fill_14_c18 s_J7_fill_14_c18_l5
    have h1' : fLp (fun s : Int × fM => s_J7_fill_14_c18_b5 s.2 v s.1 36) (0, M) = some M' := h1
    rw [h1']
    rfl
  · have := h4 j hj
    rw [Nat.zero_add] at this
    exact this
theorem i_house4 (M : fM) : ∃ K, s_X2_init_4_c5 M = some ((), K) ∧ fSame [(4, none), (5, none), (6, none), (7, none), (8, none), (9, none), (10, none), (11, none), (12, none), (13, none), (14, none), (15, none), (16, none), (17, none)] M K ∧ (∀ j, j < 12 → K 5 j = 0) ∧ (∀ j, j < 52 → K 6 j = 20) ∧ (∀ j, j < 52 → K 7 j = 0) ∧ (∀ j, j < 36 → K 14 j = 0) ∧ (∀ j, j < 6 → K 8 j = M 1001 j) ∧ K 4 13 = 0 ∧ K 4 14 = 0 ∧ K 4 15 = 0 ∧ K 4 16 = 0 := by
  obtain ⟨M0, hM0⟩ : ∃ M0, M0 = (fclr (fclr (fclr (fclr (fclr (fclr (fclr (fclr (fclr (fclr (fclr (fclr (fclr M 5) 6) 7) 8) 9) 10) 11) 12) 13) 14) 15) 16) 17) := ⟨_, rfl⟩
  have f0 : fSame [(4, none), (5, none), (6, none), (7, none), (8, none), (9, none), (10, none), (11, none), (12, none), (13, none), (14, none), (15, none), (16, none), (17, none)] M M0 := by
    rw [hM0]
    exact (fs_clr (fs_clr (fs_clr (fs_clr (fs_clr (fs_clr (fs_clr (fs_clr (fs_clr (fs_clr (fs_clr (fs_clr (fs_clr fs_refl (by decide)) (by decide)) (by decide)) (by decide)) (by decide)) (by decide)) (by decide)) (by decide)) (by decide)) (by decide)) (by decide)) (by decide)) (by decide))
  obtain ⟨M1, a1, a2, a3⟩ := i_fill5 M0 0
  obtain ⟨M2, b1, b2, b3⟩ := i_fill6 M1 20
  obtain ⟨M3, c1, c2, c3⟩ := i_fill7 M2 0
  obtain ⟨M4, d1, d2, d3⟩ := i_fill14 M3 0
  have g4 : fSame [(4, none), (5, none), (6, none), (7, none), (8, none), (9, none), (10, none), (11, none), (12, none), (13, none), (14, none), (15, none), (16, none), (17, none)] M M4 := fs_trans f0 (fs_trans (fs_mono (by decide) a2) (fs_trans (fs_mono (by decide) b2) (fs_trans (fs_mono (by decide) c2) (fs_mono (by decide) d2))))
  refine ⟨fup (fup (fup (fup (fup (fcpy M4 1001 0 8 0 6) 4 13 0) 4 14 0) 4 15 0) 4 16 0) 4 17 0, ?_, fs_up (fs_up (fs_up (fs_up (fs_up (fs_cpy g4 (by decide)) (.inl (by decide))) (.inl (by decide))) (.inl (by decide))) (.inl (by decide))) (.inl (by decide)), fun j hj => ?_, fun j hj => ?_, fun j hj => ?_, fun j hj => ?_, fun j hj => ?_, rfl, rfl, rfl, rfl⟩
  · unfold s_X2_init_4_c5 s_X2_init_4_c5_j28 s_X2_init_4_c5_j53 s_X2_init_4_c5_j78 s_X2_init_4_c5_j102 s_X2_clear_4_c18
    rw [← hM0, a1, Option.bind_some, b1, Option.bind_some, c1, Option.bind_some, d1, Option.bind_some]
    rfl
  · rw [fup_ne (by decide), fup_ne (by decide), fup_ne (by decide), fup_ne (by decide), fup_ne (by decide), fcpy_row (by decide)]
    show M4 5 j = 0
    rw [fs_row d2 5 (by decide), fs_row c2 5 (by decide), fs_row b2 5 (by decide), a3 j hj]
  · rw [fup_ne (by decide), fup_ne (by decide), fup_ne (by decide), fup_ne (by decide), fup_ne (by decide), fcpy_row (by decide)]
    show M4 6 j = 20
    rw [fs_row d2 6 (by decide), fs_row c2 6 (by decide), b3 j hj]
  · rw [fup_ne (by decide), fup_ne (by decide), fup_ne (by decide), fup_ne (by decide), fup_ne (by decide), fcpy_row (by decide)]
    show M4 7 j = 0
    rw [fs_row d2 7 (by decide), c3 j hj]
  · rw [fup_ne (by decide), fup_ne (by decide), fup_ne (by decide), fup_ne (by decide), fup_ne (by decide), fcpy_row (by decide)]
    exact d3 j hj
  · rw [fup_ne (by decide), fup_ne (by decide), fup_ne (by decide), fup_ne (by decide), fup_ne (by decide), fcpy_at _ _ _ _ hj]
    show M4 1001 j = M 1001 j
    rw [fs_row g4 1001 (by decide)]
theorem i_fill29 (M : fM) (v : Int) : ∃ M', s_J7_fill_29_c42 M v = some ((), M') ∧ fSame [(29, none)] M M' ∧ (∀ j, j < 12 → M' 29 j = v) := by
  obtain ⟨M', h1, h2, -, h4⟩ := fill_loop (B := fun s => s_J7_fill_29_c42_b5 s.2 v s.1 12) (c := 29) (o := 0) (n := 12) (g := fun _ => v) (M0 := M) (fun i M hi _ => by
    show s_J7_fill_29_c42_b5 M v (i : Int) 12 = _
    unfold s_J7_fill_29_c42_b5
    rw [if_neg (by omega), if_pos (by unfold fin; omega), show ((i : Int)).toNat = 0 + i by omega]) (fun M => by
    show s_J7_fill_29_c42_b5 M v 12 12 = _
    unfold s_J7_fill_29_c42_b5
    rw [if_pos (by omega)])
  refine ⟨M', ?_, h2, fun j hj => ?_⟩
  · unfold s_J7_fill_29_c42 s_J7_fill_29_c42_l5
    have h1' : fLp (fun s : Int × fM => s_J7_fill_29_c42_b5 s.2 v s.1 12) (0, M) = some M' := h1
    rw [h1']
    rfl
  · have := h4 j hj
    rw [Nat.zero_add] at this
    exact this
theorem i_fill30 (M : fM) (v : Int) : ∃ M', s_J7_fill_30_c42 M v = some ((), M') ∧ fSame [(30, none)] M M' ∧ (∀ j, j < 52 → M' 30 j = v) := by
  obtain ⟨M', h1, h2, -, h4⟩ := fill_loop (B := fun s => s_J7_fill_30_c42_b5 s.2 v s.1 52) (c := 30) (o := 0) (n := 52) (g := fun _ => v) (M0 := M) (fun i M hi _ => by
    show s_J7_fill_30_c42_b5 M v (i : Int) 52 = _
    unfold s_J7_fill_30_c42_b5
    rw [if_neg (by omega), if_pos (by unfold fin; omega), show ((i : Int)).toNat = 0 + i by omega]) (fun M => by
    show s_J7_fill_30_c42_b5 M v 52 52 = _
    unfold s_J7_fill_30_c42_b5
    rw [if_pos (by omega)])
  refine ⟨M', ?_, h2, fun j hj => ?_⟩
  · unfold s_J7_fill_30_c42 s_J7_fill_30_c42_l5
    have h1' : fLp (fun s : Int × fM => s_J7_fill_30_c42_b5 s.2 v s.1 52) (0, M) = some M' := h1
    rw [h1']
    rfl
  · have := h4 j hj
    rw [Nat.zero_add] at this
    exact this
theorem i_fill31 (M : fM) (v : Int) : ∃ M', s_J7_fill_31_c42 M v = some ((), M') ∧ fSame [(31, none)] M M' ∧ (∀ j, j < 52 → M' 31 j = v) := by
  obtain ⟨M', h1, h2, -, h4⟩ := fill_loop (B := fun s => s_J7_fill_31_c42_b5 s.2 v s.1 52) (c := 31) (o := 0) (n := 52) (g := fun _ => v) (M0 := M) (fun i M hi _ => by
    show s_J7_fill_31_c42_b5 M v (i : Int) 52 = _
    unfold s_J7_fill_31_c42_b5
    rw [if_neg (by omega), if_pos (by unfold fin; omega), show ((i : Int)).toNat = 0 + i by omega]) (fun M => by
    show s_J7_fill_31_c42_b5 M v 52 52 = _
    unfold s_J7_fill_31_c42_b5
    rw [if_pos (by omega)])
  refine ⟨M', ?_, h2, fun j hj => ?_⟩
  · unfold s_J7_fill_31_c42 s_J7_fill_31_c42_l5
    have h1' : fLp (fun s : Int × fM => s_J7_fill_31_c42_b5 s.2 v s.1 52) (0, M) = some M' := h1
    rw [h1']
    rfl
  · have := h4 j hj
    rw [Nat.zero_add] at this
    exact this
theorem i_fill38 (M : fM) (v : Int) : ∃ M', s_J7_fill_38_c42 M v = some ((), M') ∧ fSame [(38, none)] M M' ∧ (∀ j, j < 36 → M' 38 j = v) := by
  obtain ⟨M', h1, h2, -, h4⟩ := fill_loop (B := fun s => s_J7_fill_38_c42_b5 s.2 v s.1 36) (c := 38) (o := 0) (n := 36) (g := fun _ => v) (M0 := M) (fun i M hi _ => by
    show s_J7_fill_38_c42_b5 M v (i : Int) 36 = _
    unfold s_J7_fill_38_c42_b5
    rw [if_neg (by omega), if_pos (by unfold fin; omega), show ((i : Int)).toNat = 0 + i by omega]) (fun M => by
    show s_J7_fill_38_c42_b5 M v 36 36 = _
    unfold s_J7_fill_38_c42_b5
    rw [if_pos (by omega)])
  refine ⟨M', ?_, h2, fun j hj => ?_⟩
  · unfold s_J7_fill_38_c42 s_J7_fill_38_c42_l5
    have h1' : fLp (fun s : Int × fM => s_J7_fill_38_c42_b5 s.2 v s.1 36) (0, M) = some M' := h1
    rw [h1']
    rfl
  · have := h4 j hj
    rw [Nat.zero_add] at this
    exact this
theorem i_house28 (M : fM) : ∃ K, s_X2_init_28_c29 M = some ((), K) ∧ fSame [(28, none), (29, none), (30, none), (31, none), (32, none), (33, none), (34, none), (35, none), (36, none), (37, none), (38, none), (39, none), (40, none), (41, none)] M K ∧ (∀ j, j < 12 → K 29 j = 0) ∧ (∀ j, j < 52 → K 30 j = 20) ∧ (∀ j, j < 52 → K 31 j = 0) ∧ (∀ j, j < 36 → K 38 j = 0) ∧ (∀ j, j < 6 → K 32 j = M 1001 j) ∧ K 28 13 = 0 ∧ K 28 14 = 0 ∧ K 28 15 = 0 ∧ K 28 16 = 0 := by
  obtain ⟨M0, hM0⟩ : ∃ M0, M0 = (fclr (fclr (fclr (fclr (fclr (fclr (fclr (fclr (fclr (fclr (fclr (fclr (fclr M 29) 30) 31) 32) 33) 34) 35) 36) 37) 38) 39) 40) 41) := ⟨_, rfl⟩
  have f0 : fSame [(28, none), (29, none), (30, none), (31, none), (32, none), (33, none), (34, none), (35, none), (36, none), (37, none), (38, none), (39, none), (40, none), (41, none)] M M0 := by
    rw [hM0]
    exact (fs_clr (fs_clr (fs_clr (fs_clr (fs_clr (fs_clr (fs_clr (fs_clr (fs_clr (fs_clr (fs_clr (fs_clr (fs_clr fs_refl (by decide)) (by decide)) (by decide)) (by decide)) (by decide)) (by decide)) (by decide)) (by decide)) (by decide)) (by decide)) (by decide)) (by decide)) (by decide))
  obtain ⟨M1, a1, a2, a3⟩ := i_fill29 M0 0
  obtain ⟨M2, b1, b2, b3⟩ := i_fill30 M1 20
  obtain ⟨M3, c1, c2, c3⟩ := i_fill31 M2 0
  obtain ⟨M4, d1, d2, d3⟩ := i_fill38 M3 0
  have g4 : fSame [(28, none), (29, none), (30, none), (31, none), (32, none), (33, none), (34, none), (35, none), (36, none), (37, none), (38, none), (39, none), (40, none), (41, none)] M M4 := fs_trans f0 (fs_trans (fs_mono (by decide) a2) (fs_trans (fs_mono (by decide) b2) (fs_trans (fs_mono (by decide) c2) (fs_mono (by decide) d2))))
  refine ⟨fup (fup (fup (fup (fup (fcpy M4 1001 0 32 0 6) 28 13 0) 28 14 0) 28 15 0) 28 16 0) 28 17 0, ?_, fs_up (fs_up (fs_up (fs_up (fs_up (fs_cpy g4 (by decide)) (.inl (by decide))) (.inl (by decide))) (.inl (by decide))) (.inl (by decide))) (.inl (by decide)), fun j hj => ?_, fun j hj => ?_, fun j hj => ?_, fun j hj => ?_, fun j hj => ?_, rfl, rfl, rfl, rfl⟩
  · unfold s_X2_init_28_c29 s_X2_init_28_c29_j28 s_X2_init_28_c29_j53 s_X2_init_28_c29_j78 s_X2_init_28_c29_j102 s_X2_clear_28_c42
    rw [← hM0, a1, Option.bind_some, b1, Option.bind_some, c1, Option.bind_some, d1, Option.bind_some]
    rfl
  · rw [fup_ne (by decide), fup_ne (by decide), fup_ne (by decide), fup_ne (by decide), fup_ne (by decide), fcpy_row (by decide)]
    show M4 29 j = 0
    rw [fs_row d2 29 (by decide), fs_row c2 29 (by decide), fs_row b2 29 (by decide), a3 j hj]
  · rw [fup_ne (by decide), fup_ne (by decide), fup_ne (by decide), fup_ne (by decide), fup_ne (by decide), fcpy_row (by decide)]
    show M4 30 j = 20
    rw [fs_row d2 30 (by decide), fs_row c2 30 (by decide), b3 j hj]
  · rw [fup_ne (by decide), fup_ne (by decide), fup_ne (by decide), fup_ne (by decide), fup_ne (by decide), fcpy_row (by decide)]
    show M4 31 j = 0
    rw [fs_row d2 31 (by decide), c3 j hj]
  · rw [fup_ne (by decide), fup_ne (by decide), fup_ne (by decide), fup_ne (by decide), fup_ne (by decide), fcpy_row (by decide)]
    exact d3 j hj
  · rw [fup_ne (by decide), fup_ne (by decide), fup_ne (by decide), fup_ne (by decide), fup_ne (by decide), fcpy_at _ _ _ _ hj]
    show M4 1001 j = M 1001 j
    rw [fs_row g4 1001 (by decide)]
theorem i_fill77 (M : fM) (v : Int) : ∃ M', s_J7_fill_77_c90 M v = some ((), M') ∧ fSame [(77, none)] M M' ∧ (∀ j, j < 12 → M' 77 j = v) := by
  obtain ⟨M', h1, h2, -, h4⟩ := fill_loop (B := fun s => s_J7_fill_77_c90_b5 s.2 v s.1 12) (c := 77) (o := 0) (n := 12) (g := fun _ => v) (M0 := M) (fun i M hi _ => by
    show s_J7_fill_77_c90_b5 M v (i : Int) 12 = _
    unfold s_J7_fill_77_c90_b5
    rw [if_neg (by omega), if_pos (by unfold fin; omega), show ((i : Int)).toNat = 0 + i by omega]) (fun M => by
    show s_J7_fill_77_c90_b5 M v 12 12 = _
    unfold s_J7_fill_77_c90_b5
    rw [if_pos (by omega)])
  refine ⟨M', ?_, h2, fun j hj => ?_⟩
  · unfold s_J7_fill_77_c90 s_J7_fill_77_c90_l5
    have h1' : fLp (fun s : Int × fM => s_J7_fill_77_c90_b5 s.2 v s.1 12) (0, M) = some M' := h1
    rw [h1']
    rfl
  · have := h4 j hj
    rw [Nat.zero_add] at this
    exact this
theorem i_fill78 (M : fM) (v : Int) : ∃ M', s_J7_fill_78_c90 M v = some ((), M') ∧ fSame [(78, none)] M M' ∧ (∀ j, j < 52 → M' 78 j = v) := by
  obtain ⟨M', h1, h2, -, h4⟩ := fill_loop (B := fun s => s_J7_fill_78_c90_b5 s.2 v s.1 52) (c := 78) (o := 0) (n := 52) (g := fun _ => v) (M0 := M) (fun i M hi _ => by
    show s_J7_fill_78_c90_b5 M v (i : Int) 52 = _
    unfold s_J7_fill_78_c90_b5
    rw [if_neg (by omega), if_pos (by unfold fin; omega), show ((i : Int)).toNat = 0 + i by omega]) (fun M => by
    show s_J7_fill_78_c90_b5 M v 52 52 = _
    unfold s_J7_fill_78_c90_b5
    rw [if_pos (by omega)])
  refine ⟨M', ?_, h2, fun j hj => ?_⟩
  · unfold s_J7_fill_78_c90 s_J7_fill_78_c90_l5
    have h1' : fLp (fun s : Int × fM => s_J7_fill_78_c90_b5 s.2 v s.1 52) (0, M) = some M' := h1
    rw [h1']
    rfl
  · have := h4 j hj
    rw [Nat.zero_add] at this
    exact this
theorem i_fill79 (M : fM) (v : Int) : ∃ M', s_J7_fill_79_c90 M v = some ((), M') ∧ fSame [(79, none)] M M' ∧ (∀ j, j < 52 → M' 79 j = v) := by
  obtain ⟨M', h1, h2, -, h4⟩ := fill_loop (B := fun s => s_J7_fill_79_c90_b5 s.2 v s.1 52) (c := 79) (o := 0) (n := 52) (g := fun _ => v) (M0 := M) (fun i M hi _ => by
    show s_J7_fill_79_c90_b5 M v (i : Int) 52 = _
    unfold s_J7_fill_79_c90_b5
    rw [if_neg (by omega), if_pos (by unfold fin; omega), show ((i : Int)).toNat = 0 + i by omega]) (fun M => by
    show s_J7_fill_79_c90_b5 M v 52 52 = _
    unfold s_J7_fill_79_c90_b5
    rw [if_pos (by omega)])
  refine ⟨M', ?_, h2, fun j hj => ?_⟩
  · unfold s_J7_fill_79_c90 s_J7_fill_79_c90_l5
    have h1' : fLp (fun s : Int × fM => s_J7_fill_79_c90_b5 s.2 v s.1 52) (0, M) = some M' := h1
    rw [h1']
    rfl
  · have := h4 j hj
    rw [Nat.zero_add] at this
    exact this
theorem i_fill86 (M : fM) (v : Int) : ∃ M', s_J7_fill_86_c90 M v = some ((), M') ∧ fSame [(86, none)] M M' ∧ (∀ j, j < 36 → M' 86 j = v) := by
  obtain ⟨M', h1, h2, -, h4⟩ := fill_loop (B := fun s => s_J7_fill_86_c90_b5 s.2 v s.1 36) (c := 86) (o := 0) (n := 36) (g := fun _ => v) (M0 := M) (fun i M hi _ => by
    show s_J7_fill_86_c90_b5 M v (i : Int) 36 = _
    unfold s_J7_fill_86_c90_b5
    rw [if_neg (by omega), if_pos (by unfold fin; omega), show ((i : Int)).toNat = 0 + i by omega]) (fun M => by
    show s_J7_fill_86_c90_b5 M v 36 36 = _
    unfold s_J7_fill_86_c90_b5
    rw [if_pos (by omega)])
  refine ⟨M', ?_, h2, fun j hj => ?_⟩
  · unfold s_J7_fill_86_c90 s_J7_fill_86_c90_l5
    have h1' : fLp (fun s : Int × fM => s_J7_fill_86_c90_b5 s.2 v s.1 36) (0, M) = some M' := h1
    rw [h1']
    rfl
  · have := h4 j hj
    rw [Nat.zero_add] at this
    exact this
theorem i_house76 (M : fM) : ∃ K, s_X2_init_76_c77 M = some ((), K) ∧ fSame [(76, none), (77, none), (78, none), (79, none), (80, none), (81, none), (82, none), (83, none), (84, none), (85, none), (86, none), (87, none), (88, none), (89, none)] M K ∧ (∀ j, j < 12 → K 77 j = 0) ∧ (∀ j, j < 52 → K 78 j = 20) ∧ (∀ j, j < 52 → K 79 j = 0) ∧ (∀ j, j < 36 → K 86 j = 0) ∧ (∀ j, j < 6 → K 80 j = M 1001 j) ∧ K 76 13 = 0 ∧ K 76 14 = 0 ∧ K 76 15 = 0 ∧ K 76 16 = 0 := by
  obtain ⟨M0, hM0⟩ : ∃ M0, M0 = (fclr (fclr (fclr (fclr (fclr (fclr (fclr (fclr (fclr (fclr (fclr (fclr (fclr M 77) 78) 79) 80) 81) 82) 83) 84) 85) 86) 87) 88) 89) := ⟨_, rfl⟩
  have f0 : fSame [(76, none), (77, none), (78, none), (79, none), (80, none), (81, none), (82, none), (83, none), (84, none), (85, none), (86, none), (87, none), (88, none), (89, none)] M M0 := by
    rw [hM0]
    exact (fs_clr (fs_clr (fs_clr (fs_clr (fs_clr (fs_clr (fs_clr (fs_clr (fs_clr (fs_clr (fs_clr (fs_clr (fs_clr fs_refl (by decide)) (by decide)) (by decide)) (by decide)) (by decide)) (by decide)) (by decide)) (by decide)) (by decide)) (by decide)) (by decide)) (by decide)) (by decide))
  obtain ⟨M1, a1, a2, a3⟩ := i_fill77 M0 0
  obtain ⟨M2, b1, b2, b3⟩ := i_fill78 M1 20
  obtain ⟨M3, c1, c2, c3⟩ := i_fill79 M2 0
  obtain ⟨M4, d1, d2, d3⟩ := i_fill86 M3 0
  have g4 : fSame [(76, none), (77, none), (78, none), (79, none), (80, none), (81, none), (82, none), (83, none), (84, none), (85, none), (86, none), (87, none), (88, none), (89, none)] M M4 := fs_trans f0 (fs_trans (fs_mono (by decide) a2) (fs_trans (fs_mono (by decide) b2) (fs_trans (fs_mono (by decide) c2) (fs_mono (by decide) d2))))
  refine ⟨fup (fup (fup (fup (fup (fcpy M4 1001 0 80 0 6) 76 13 0) 76 14 0) 76 15 0) 76 16 0) 76 17 0, ?_, fs_up (fs_up (fs_up (fs_up (fs_up (fs_cpy g4 (by decide)) (.inl (by decide))) (.inl (by decide))) (.inl (by decide))) (.inl (by decide))) (.inl (by decide)), fun j hj => ?_, fun j hj => ?_, fun j hj => ?_, fun j hj => ?_, fun j hj => ?_, rfl, rfl, rfl, rfl⟩
  · unfold s_X2_init_76_c77 s_X2_init_76_c77_j28 s_X2_init_76_c77_j53 s_X2_init_76_c77_j78 s_X2_init_76_c77_j102 s_X2_clear_76_c90
    rw [← hM0, a1, Option.bind_some, b1, Option.bind_some, c1, Option.bind_some, d1, Option.bind_some]
    rfl
  · rw [fup_ne (by decide), fup_ne (by decide), fup_ne (by decide), fup_ne (by decide), fup_ne (by decide), fcpy_row (by decide)]
    show M4 77 j = 0
    rw [fs_row d2 77 (by decide), fs_row c2 77 (by decide), fs_row b2 77 (by decide), a3 j hj]
  · rw [fup_ne (by decide), fup_ne (by decide), fup_ne (by decide), fup_ne (by decide), fup_ne (by decide), fcpy_row (by decide)]
    show M4 78 j = 20
    rw [fs_row d2 78 (by decide), fs_row c2 78 (by decide), b3 j hj]
  · rw [fup_ne (by decide), fup_ne (by decide), fup_ne (by decide), fup_ne (by decide), fup_ne (by decide), fcpy_row (by decide)]
    show M4 79 j = 0
    rw [fs_row d2 79 (by decide), c3 j hj]
  · rw [fup_ne (by decide), fup_ne (by decide), fup_ne (by decide), fup_ne (by decide), fup_ne (by decide), fcpy_row (by decide)]
    exact d3 j hj
  · rw [fup_ne (by decide), fup_ne (by decide), fup_ne (by decide), fup_ne (by decide), fup_ne (by decide), fcpy_at _ _ _ _ hj]
    show M4 1001 j = M 1001 j
    rw [fs_row g4 1001 (by decide)]
theorem i_fill100 (M : fM) (v : Int) : ∃ M', s_J7_fill_100_c113 M v = some ((), M') ∧ fSame [(100, none)] M M' ∧ (∀ j, j < 12 → M' 100 j = v) := by
  obtain ⟨M', h1, h2, -, h4⟩ := fill_loop (B := fun s => s_J7_fill_100_c113_b5 s.2 v s.1 12) (c := 100) (o := 0) (n := 12) (g := fun _ => v) (M0 := M) (fun i M hi _ => by
    show s_J7_fill_100_c113_b5 M v (i : Int) 12 = _
    unfold s_J7_fill_100_c113_b5
    rw [if_neg (by omega), if_pos (by unfold fin; omega), show ((i : Int)).toNat = 0 + i by omega]) (fun M => by
    show s_J7_fill_100_c113_b5 M v 12 12 = _
    unfold s_J7_fill_100_c113_b5
    rw [if_pos (by omega)])
  refine ⟨M', ?_, h2, fun j hj => ?_⟩
  · unfold s_J7_fill_100_c113 s_J7_fill_100_c113_l5
    have h1' : fLp (fun s : Int × fM => s_J7_fill_100_c113_b5 s.2 v s.1 12) (0, M) = some M' := h1
    rw [h1']
    rfl
  · have := h4 j hj
    rw [Nat.zero_add] at this
    exact this
theorem i_fill101 (M : fM) (v : Int) : ∃ M', s_J7_fill_101_c113 M v = some ((), M') ∧ fSame [(101, none)] M M' ∧ (∀ j, j < 52 → M' 101 j = v) := by
  obtain ⟨M', h1, h2, -, h4⟩ := fill_loop (B := fun s => s_J7_fill_101_c113_b5 s.2 v s.1 52) (c := 101) (o := 0) (n := 52) (g := fun _ => v) (M0 := M) (fun i M hi _ => by
    show s_J7_fill_101_c113_b5 M v (i : Int) 52 = _
    unfold s_J7_fill_101_c113_b5
    rw [if_neg (by omega), if_pos (by unfold fin; omega), show ((i : Int)).toNat = 0 + i by omega]) (fun M => by
    show s_J7_fill_101_c113_b5 M v 52 52 = _
    unfold s_J7_fill_101_c113_b5
    rw [if_pos (by omega)])
  refine ⟨M', ?_, h2, fun j hj => ?_⟩
  · unfold s_J7_fill_101_c113 s_J7_fill_101_c113_l5
    have h1' : fLp (fun s : Int × fM => s_J7_fill_101_c113_b5 s.2 v s.1 52) (0, M) = some M' := h1
    rw [h1']
    rfl
  · have := h4 j hj
    rw [Nat.zero_add] at this
    exact this
theorem i_fill102 (M : fM) (v : Int) : ∃ M', s_J7_fill_102_c113 M v = some ((), M') ∧ fSame [(102, none)] M M' ∧ (∀ j, j < 52 → M' 102 j = v) := by
  obtain ⟨M', h1, h2, -, h4⟩ := fill_loop (B := fun s => s_J7_fill_102_c113_b5 s.2 v s.1 52) (c := 102) (o := 0) (n := 52) (g := fun _ => v) (M0 := M) (fun i M hi _ => by
    show s_J7_fill_102_c113_b5 M v (i : Int) 52 = _
    unfold s_J7_fill_102_c113_b5
    rw [if_neg (by omega), if_pos (by unfold fin; omega), show ((i : Int)).toNat = 0 + i by omega]) (fun M => by
    show s_J7_fill_102_c113_b5 M v 52 52 = _
    unfold s_J7_fill_102_c113_b5
    rw [if_pos (by omega)])
  refine ⟨M', ?_, h2, fun j hj => ?_⟩
  · unfold s_J7_fill_102_c113 s_J7_fill_102_c113_l5
    have h1' : fLp (fun s : Int × fM => s_J7_fill_102_c113_b5 s.2 v s.1 52) (0, M) = some M' := h1
    rw [h1']
    rfl
  · have := h4 j hj
    rw [Nat.zero_add] at this
    exact this
theorem i_fill109 (M : fM) (v : Int) : ∃ M', s_J7_fill_109_c113 M v = some ((), M') ∧ fSame [(109, none)] M M' ∧ (∀ j, j < 36 → M' 109 j = v) := by
  obtain ⟨M', h1, h2, -, h4⟩ := fill_loop (B := fun s => s_J7_fill_109_c113_b5 s.2 v s.1 36) (c := 109) (o := 0) (n := 36) (g := fun _ => v) (M0 := M) (fun i M hi _ => by
    show s_J7_fill_109_c113_b5 M v (i : Int) 36 = _
    unfold s_J7_fill_109_c113_b5
    rw [if_neg (by omega), if_pos (by unfold fin; omega), show ((i : Int)).toNat = 0 + i by omega]) (fun M => by
    show s_J7_fill_109_c113_b5 M v 36 36 = _
    unfold s_J7_fill_109_c113_b5
    rw [if_pos (by omega)])
  refine ⟨M', ?_, h2, fun j hj => ?_⟩
  · unfold s_J7_fill_109_c113 s_J7_fill_109_c113_l5
    have h1' : fLp (fun s : Int × fM => s_J7_fill_109_c113_b5 s.2 v s.1 36) (0, M) = some M' := h1
    rw [h1']
    rfl
  · have := h4 j hj
    rw [Nat.zero_add] at this
    exact this
theorem i_house99 (M : fM) : ∃ K, s_X2_init_99_c100 M = some ((), K) ∧ fSame [(99, none), (100, none), (101, none), (102, none), (103, none), (104, none), (105, none), (106, none), (107, none), (108, none), (109, none), (110, none), (111, none), (112, none)] M K ∧ (∀ j, j < 12 → K 100 j = 0) ∧ (∀ j, j < 52 → K 101 j = 20) ∧ (∀ j, j < 52 → K 102 j = 0) ∧ (∀ j, j < 36 → K 109 j = 0) ∧ (∀ j, j < 6 → K 103 j = M 1001 j) ∧ K 99 13 = 0 ∧ K 99 14 = 0 ∧ K 99 15 = 0 ∧ K 99 16 = 0 := by
  obtain ⟨M0, hM0⟩ : ∃ M0, M0 = (fclr (fclr (fclr (fclr (fclr (fclr (fclr (fclr (fclr (fclr (fclr (fclr (fclr M 100) 101) 102) 103) 104) 105) 106) 107) 108) 109) 110) 111) 112) := ⟨_, rfl⟩
  have f0 : fSame [(99, none), (100, none), (101, none), (102, none), (103, none), (104, none), (105, none), (106, none), (107, none), (108, none), (109, none), (110, none), (111, none), (112, none)] M M0 := by
    rw [hM0]
    exact (fs_clr (fs_clr (fs_clr (fs_clr (fs_clr (fs_clr (fs_clr (fs_clr (fs_clr (fs_clr (fs_clr (fs_clr (fs_clr fs_refl (by decide)) (by decide)) (by decide)) (by decide)) (by decide)) (by decide)) (by decide)) (by decide)) (by decide)) (by decide)) (by decide)) (by decide)) (by decide))
  obtain ⟨M1, a1, a2, a3⟩ := i_fill100 M0 0
  obtain ⟨M2, b1, b2, b3⟩ := i_fill101 M1 20
  obtain ⟨M3, c1, c2, c3⟩ := i_fill102 M2 0
  obtain ⟨M4, d1, d2, d3⟩ := i_fill109 M3 0
  have g4 : fSame [(99, none), (100, none), (101, none), (102, none), (103, none), (104, none), (105, none), (106, none), (107, none), (108, none), (109, none), (110, none), (111, none), (112, none)] M M4 := fs_trans f0 (fs_trans (fs_mono (by decide) a2) (fs_trans (fs_mono (by decide) b2) (fs_trans (fs_mono (by decide) c2) (fs_mono (by decide) d2))))
  refine ⟨fup (fup (fup (fup (fup (fcpy M4 1001 0 103 0 6) 99 13 0) 99 14 0) 99 15 0) 99 16 0) 99 17 0, ?_, fs_up (fs_up (fs_up (fs_up (fs_up (fs_cpy g4 (by decide)) (.inl (by decide))) (.inl (by decide))) (.inl (by decide))) (.inl (by decide))) (.inl (by decide)), fun j hj => ?_, fun j hj => ?_, fun j hj => ?_, fun j hj => ?_, fun j hj => ?_, rfl, rfl, rfl, rfl⟩
  · unfold s_X2_init_99_c100 s_X2_init_99_c100_j28 s_X2_init_99_c100_j53 s_X2_init_99_c100_j78 s_X2_init_99_c100_j102 s_X2_clear_99_c113
    rw [← hM0, a1, Option.bind_some, b1, Option.bind_some, c1, Option.bind_some, d1, Option.bind_some]
    rfl
  · rw [fup_ne (by decide), fup_ne (by decide), fup_ne (by decide), fup_ne (by decide), fup_ne (by decide), fcpy_row (by decide)]
    show M4 100 j = 0
    rw [fs_row d2 100 (by decide), fs_row c2 100 (by decide), fs_row b2 100 (by decide), a3 j hj]
  · rw [fup_ne (by decide), fup_ne (by decide), fup_ne (by decide), fup_ne (by decide), fup_ne (by decide), fcpy_row (by decide)]
    show M4 101 j = 20
    rw [fs_row d2 101 (by decide), fs_row c2 101 (by decide), b3 j hj]
  · rw [fup_ne (by decide), fup_ne (by decide), fup_ne (by decide), fup_ne (by decide), fup_ne (by decide), fcpy_row (by decide)]
    show M4 102 j = 0
    rw [fs_row d2 102 (by decide), c3 j hj]
  · rw [fup_ne (by decide), fup_ne (by decide), fup_ne (by decide), fup_ne (by decide), fup_ne (by decide), fcpy_row (by decide)]
    exact d3 j hj
  · rw [fup_ne (by decide), fup_ne (by decide), fup_ne (by decide), fup_ne (by decide), fup_ne (by decide), fcpy_at _ _ _ _ hj]
    show M4 1001 j = M 1001 j
    rw [fs_row g4 1001 (by decide)]
