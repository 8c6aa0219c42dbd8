/-! ===== the constructors: the class, the reference, the start ===== -/
abbrev inB : List (Nat × Option Nat) := [(0, some 14), (18, none), (19, none), (20, none), (21, none), (22, none), (23, none), (24, none), (25, none), (26, none), (27, none), (28, none), (29, none), (30, none), (31, none), (32, none), (33, none), (34, none), (35, none), (36, none), (37, none), (38, none), (39, none), (40, none), (41, none), (42, none), (43, none), (44, none), (45, none), (46, none), (47, none), (48, none), (49, none), (50, none), (51, none), (52, none), (53, none), (54, none), (55, none), (56, none), (57, none), (58, none), (59, none), (60, none), (61, none), (62, none), (63, none), (64, none), (65, none), (66, none), (67, none), (68, none), (69, none), (70, none), (71, none), (72, none), (73, none), (74, none), (75, none), (76, none), (77, none), (78, none), (79, none), (80, none), (81, none), (82, none), (83, none), (84, none), (85, none), (86, none), (87, none), (88, none), (89, none), (90, none), (91, none), (92, none), (93, none), (94, none), (95, none), (96, none), (97, none), (98, none), (99, none), (100, none), (101, none), (102, none), (103, none), (104, none), (105, none), (106, none), (107, none), (108, none), (109, none), (110, none), (111, none), (112, none), (113, none), (114, none), (115, none), (116, none), (117, none), (118, none), (119, none), (120, none), (121, none)]
abbrev inC : List (Nat × Option Nat) := [(0, some 14), (67, none), (68, none), (69, none), (70, none), (71, none), (72, none), (73, none), (74, none), (75, none), (76, none), (77, none), (78, none), (79, none), (80, none), (81, none), (82, none), (83, none), (84, none), (85, none), (86, none), (87, none), (88, none), (89, none), (90, none), (91, none), (92, none), (93, none), (94, none), (95, none), (96, none), (97, none), (98, none), (99, none), (100, none), (101, none), (102, none), (103, none), (104, none), (105, none), (106, none), (107, none), (108, none), (109, none), (110, none), (111, none), (112, none), (113, none), (114, none), (115, none), (116, none), (117, none), (118, none), (119, none), (120, none), (121, none)]
abbrev inZ : List Nat := [1, 18, 47, 67, 70, 75]
def Zs (M : fM) : Prop := ∀ r ∈ inZ, ∀ j, M r j = 0
theorem Zs_clr {M : fM} {k : Nat} (h : Zs M) : Zs (fclr M k) := fun r hr j => by
  unfold fclr
  split
  · rfl
  · exact h r hr j
theorem Zs_fs {l : List (Nat × Option Nat)} {M K : fM} (h : Zs M) (f : fSame l M K) (hn : ∀ x ∈ l, x.1 ∉ inZ) : Zs K := fun r hr j => by
  rw [fs_row f r (fun x hx e => hn x hx (by rw [e]; exact hr))]
  exact h r hr j
theorem i_class (M : fM) (hz : ∀ r, r < 122 → ∀ j, M r j = 0) (ht : ∀ j, j < 162 → M 1004 j = ktx j) : ∃ K, s_X11_init_c1 M = some ((), K) ∧ fSame ((1, none) :: (2, none) :: (3, none) :: [(4, none), (5, none), (6, none), (7, none), (8, none), (9, none), (10, none), (11, none), (12, none), (13, none), (14, none), (15, none), (16, none), (17, none)] ++ inB) M K ∧ Zs K ∧ (∀ j, K 2 j = 0) ∧ (∀ j, j < 30 → K 3 j = kw5.getD j 0) ∧ K 0 14 = 0 ∧ K 54 15 = 0 ∧ K 54 16 = -1 ∧ (∀ j, j < 12 → K 5 j = 0) ∧ (∀ j, j < 52 → K 6 j = 20) ∧ (∀ j, j < 52 → K 7 j = 0) ∧ (∀ j, j < 36 → K 14 j = 0) ∧ (∀ j, j < 6 → K 8 j = M 1001 j) ∧ K 4 13 = 0 ∧ K 4 14 = 0 ∧ K 4 15 = 0 ∧ K 4 16 = 0 := by
  have z0 : Zs M := fun r hr j => hz r (by have := (by decide : ∀ r ∈ inZ, r < 122) r hr; exact this) j
  obtain ⟨K1, e1, f1, t2, t3⟩ := i_tape (fclr M 1) (fun j hj => by show M 1004 j = ktx j; exact ht j hj)
  have z1 : Zs K1 := Zs_fs (Zs_clr z0) f1 (by decide)
  obtain ⟨K2, e2, f2, v5, v6, v7, v14, v8, c13, c14, c15, c16⟩ := i_house4 (fclr K1 4)
  have z2 : Zs K2 := Zs_fs (Zs_clr z1) f2 (by decide)
  obtain ⟨K3, hK3⟩ : ∃ K3, K3 = (fclr (fclr (fclr (fclr (fclr (fclr (fclr (fclr (fclr K2 18) 19) 20) 21) 22) 23) 24) 25) 26) := ⟨_, rfl⟩
  have e3 : s_X6_init_18_c19 (fclr K2 18) = some ((), K3) := by rw [hK3]; rfl
  have f3 : fSame inB K2 K3 := by rw [hK3]; exact (fs_clr (fs_clr (fs_clr (fs_clr (fs_clr (fs_clr (fs_clr (fs_clr (fs_clr fs_refl (by decide)) (by decide)) (by decide)) (by decide)) (by decide)) (by decide)) (by decide)) (by decide)) (by decide))
  have z3 : Zs K3 := by rw [hK3]; exact (Zs_clr (Zs_clr (Zs_clr (Zs_clr (Zs_clr (Zs_clr (Zs_clr (Zs_clr (Zs_clr z2)))))))))
  obtain ⟨K4, e4, f4, -⟩ := i_house28 (fclr (fclr K3 27) 28)
  have e4' : s_X3_init_1_c28 (fclr K3 27) = some ((), K4) := by
    unfold s_X3_init_1_c28
    rw [e4]
    rfl
  have z4 : Zs K4 := Zs_fs (Zs_clr (Zs_clr z3)) f4 (by decide)
  have g4 : fSame inB K2 K4 := fs_trans (fs_clr (fs_clr f3 (by decide)) (by decide)) (fs_mono (by decide) f4)
  obtain ⟨K5, hK5⟩ : ∃ K5, K5 = fup (fup (fclr (fclr (fclr (fclr (fclr (fclr (fclr (fclr (fclr (fclr (fclr (fclr (fclr (fclr (fclr (fclr (fclr (fclr (fclr (fclr (fclr (fclr (fclr (fclr (fclr K4 42) 43) 44) 45) 46) 47) 48) 49) 50) 51) 52) 53) 54) 55) 56) 57) 58) 59) 60) 61) 62) 63) 64) 65) 66) 54 15 0) 54 16 (-1) := ⟨_, rfl⟩
  have f5 : fSame inB K4 K5 := by rw [hK5]; exact fs_up (fs_up (fs_clr (fs_clr (fs_clr (fs_clr (fs_clr (fs_clr (fs_clr (fs_clr (fs_clr (fs_clr (fs_clr (fs_clr (fs_clr (fs_clr (fs_clr (fs_clr (fs_clr (fs_clr (fs_clr (fs_clr (fs_clr (fs_clr (fs_clr (fs_clr (fs_clr fs_refl (by decide)) (by decide)) (by decide)) (by decide)) (by decide)) (by decide)) (by decide)) (by decide)) (by decide)) (by decide)) (by decide)) (by decide)) (by decide)) (by decide)) (by decide)) (by decide)) (by decide)) (by decide)) (by decide)) (by decide)) (by decide)) (by decide)) (by decide)) (by decide)) (by decide)) (.inl (by decide))) (.inl (by decide))
  have z5 : Zs K5 := by
    rw [hK5]
    exact Zs_fs (Zs_fs (Zs_clr (Zs_clr (Zs_clr (Zs_clr (Zs_clr (Zs_clr (Zs_clr (Zs_clr (Zs_clr (Zs_clr (Zs_clr (Zs_clr (Zs_clr (Zs_clr (Zs_clr (Zs_clr (Zs_clr (Zs_clr (Zs_clr (Zs_clr (Zs_clr (Zs_clr (Zs_clr (Zs_clr (Zs_clr z4))))))))))))))))))))))))) (fs_up1 _ 54 15 0) (by decide)) (fs_up1 _ 54 16 (-1)) (by decide)
  obtain ⟨K6, hK6⟩ : ∃ K6, K6 = (fclr (fclr (fclr (fclr (fclr (fclr (fclr (fclr (fclr K5 67) 68) 69) 70) 71) 72) 73) 74) 75) := ⟨_, rfl⟩
  have f6 : fSame inC K5 K6 := by rw [hK6]; exact (fs_clr (fs_clr (fs_clr (fs_clr (fs_clr (fs_clr (fs_clr (fs_clr (fs_clr fs_refl (by decide)) (by decide)) (by decide)) (by decide)) (by decide)) (by decide)) (by decide)) (by decide)) (by decide))
  have z6 : Zs K6 := by rw [hK6]; exact (Zs_clr (Zs_clr (Zs_clr (Zs_clr (Zs_clr (Zs_clr (Zs_clr (Zs_clr (Zs_clr z5)))))))))
  obtain ⟨K7, e7, f7, -⟩ := i_house76 (fclr K6 76)
  have z7 : Zs K7 := Zs_fs (Zs_clr z6) f7 (by decide)
  have g7 : fSame inC K5 K7 := fs_trans (fs_clr f6 (by decide)) (fs_mono (by decide) f7)
  obtain ⟨K8, hK8⟩ : ∃ K8, K8 = (fclr (fclr (fclr (fclr (fclr (fclr (fclr (fclr (fclr K7 90) 91) 92) 93) 94) 95) 96) 97) 98) := ⟨_, rfl⟩
  have f8 : fSame inC K7 K8 := by rw [hK8]; exact (fs_clr (fs_clr (fs_clr (fs_clr (fs_clr (fs_clr (fs_clr (fs_clr (fs_clr fs_refl (by decide)) (by decide)) (by decide)) (by decide)) (by decide)) (by decide)) (by decide)) (by decide)) (by decide))
  have z8 : Zs K8 := by rw [hK8]; exact (Zs_clr (Zs_clr (Zs_clr (Zs_clr (Zs_clr (Zs_clr (Zs_clr (Zs_clr (Zs_clr z7)))))))))
  have e8 : s_X6_init_90_c91 (fclr K7 90) = some ((), K8) := by rw [hK8]; rfl
  obtain ⟨K9, e9, f9, -⟩ := i_house99 (fclr K8 99)
  have z9 : Zs K9 := Zs_fs (Zs_clr z8) f9 (by decide)
  have g9 : fSame inC K5 K9 := fs_trans g7 (fs_trans (fs_clr f8 (by decide)) (fs_mono (by decide) f9))
  obtain ⟨K10, hK10⟩ : ∃ K10, K10 = (fclr (fclr (fclr (fclr (fclr (fclr (fclr (fclr (fclr K9 113) 114) 115) 116) 117) 118) 119) 120) 121) := ⟨_, rfl⟩
  have f10 : fSame inC K9 K10 := by rw [hK10]; exact (fs_clr (fs_clr (fs_clr (fs_clr (fs_clr (fs_clr (fs_clr (fs_clr (fs_clr fs_refl (by decide)) (by decide)) (by decide)) (by decide)) (by decide)) (by decide)) (by decide)) (by decide)) (by decide))
  have z10 : Zs K10 := by rw [hK10]; exact (Zs_clr (Zs_clr (Zs_clr (Zs_clr (Zs_clr (Zs_clr (Zs_clr (Zs_clr (Zs_clr z9)))))))))
  have e10 : s_X6_init_113_c114 (fclr K9 113) = some ((), K10) := by rw [hK10]; rfl
  obtain ⟨K, hK⟩ : ∃ K, K = fup K10 0 14 0 := ⟨_, rfl⟩
  have f11 : fSame inC K5 K := by rw [hK]; exact fs_up (fs_trans g9 f10) (.inr (by decide))
  have fB : fSame inB K2 K := fs_trans g4 (fs_trans f5 (fs_mono (by decide) f11))
  have zK : Zs K := by rw [hK]; exact Zs_fs z10 (fs_up1 _ 0 14 0) (by decide)
  have a1 : ∀ r, r < 18 → r ≠ 0 → K r = K2 r := fun r hr h0 => fs_row fB r (fun x hx e => by
    have := (by decide : ∀ x ∈ inB, x.1 = 0 ∨ 18 ≤ x.1) x hx
    omega)
  refine ⟨K, ?_, ?_, zK, fun j => ?_, fun j hj => ?_, ?_, ?_, ?_, fun j hj => ?_, fun j hj => ?_, fun j hj => ?_, fun j hj => ?_, fun j hj => ?_, ?_, ?_, ?_, ?_⟩
  · unfold s_X11_init_c1
    rw [e1, Option.bind_some, e2, Option.bind_some, e3, Option.bind_some, e4', Option.bind_some]
    show s_X11_init_c1_j212 (fclr (fclr (fclr (fclr (fclr (fclr (fclr (fclr (fclr (fup (fup (fclr (fclr (fclr (fclr (fclr (fclr (fclr (fclr (fclr (fclr (fclr (fclr (fclr (fclr (fclr (fclr (fclr (fclr (fclr (fclr (fclr (fclr (fclr (fclr (fclr K4 42) 43) 44) 45) 46) 47) 48) 49) 50) 51) 52) 53) 54) 55) 56) 57) 58) 59) 60) 61) 62) 63) 64) 65) 66) 54 15 0) 54 16 (-1)) 67) 68) 69) 70) 71) 72) 73) 74) 75) = _
    have hk : (fclr (fclr (fclr (fclr (fclr (fclr (fclr (fclr (fclr (fup (fup (fclr (fclr (fclr (fclr (fclr (fclr (fclr (fclr (fclr (fclr (fclr (fclr (fclr (fclr (fclr (fclr (fclr (fclr (fclr (fclr (fclr (fclr (fclr (fclr (fclr K4 42) 43) 44) 45) 46) 47) 48) 49) 50) 51) 52) 53) 54) 55) 56) 57) 58) 59) 60) 61) 62) 63) 64) 65) 66) 54 15 0) 54 16 (-1)) 67) 68) 69) 70) 71) 72) 73) 74) 75) = K6 := by rw [hK6, hK5]
    rw [hk]
    unfold s_X11_init_c1_j212
    rw [e7, Option.bind_some, e8, Option.bind_some, e9, Option.bind_some, e10, Option.bind_some, hK]
  · exact fs_trans (fs_mono (l := ((1, none) :: (2, none) :: (3, none) :: [(4, none), (5, none), (6, none), (7, none), (8, none), (9, none), (10, none), (11, none), (12, none), (13, none), (14, none), (15, none), (16, none), (17, none)])) (fun x hx => List.mem_append_left _ hx) (fs_trans (fs_trans (fs_clr fs_refl (by decide)) (fs_mono (by decide) f1)) (fs_trans (fs_clr fs_refl (by decide)) (fs_mono (by decide) f2)))) (fs_mono (fun x hx => List.mem_append_right _ hx) fB)
  · rw [a1 2 (by decide) (by decide), fs_row f2 2 (by decide)]
    exact t2 j
  · rw [a1 3 (by decide) (by decide), fs_row f2 3 (by decide)]
    exact t3 j hj
  · rw [hK]
    rfl
  · rw [fs_row f11 54 (by decide), hK5]
    rfl
  · rw [fs_row f11 54 (by decide), hK5]
    rfl
  · rw [a1 5 (by decide) (by decide), v5 j hj]
  · rw [a1 6 (by decide) (by decide), v6 j hj]
  · rw [a1 7 (by decide) (by decide), v7 j hj]
  · rw [a1 14 (by decide) (by decide), v14 j hj]
  · rw [a1 8 (by decide) (by decide), v8 j hj]
    show K1 1001 j = M 1001 j
    rw [fs_row f1 1001 (by decide)]
    rfl
  · rw [a1 4 (by decide) (by decide), c13]
  · rw [a1 4 (by decide) (by decide), c14]
  · rw [a1 4 (by decide) (by decide), c15]
  · rw [a1 4 (by decide) (by decide), c16]
theorem i_b2 (N : fM) : ∃ N', s_X12_begin_c155_l2 0 (0, N) = some N' ∧ fSame [(124, none)] N N' ∧ (∀ j, ¬ (0 ≤ j ∧ j < 0 + 645) → N' 124 j = N 124 j) ∧ (∀ i, i < 645 → N' 124 (0 + i) = 0) := by
  obtain ⟨N', h1, h2, h3, h4⟩ := fill_loop (B := fun s => s_X12_begin_c155_b2 s.2 0 s.1) (c := 124) (o := 0) (n := 645) (g := fun _ => 0) (M0 := N) (fun i M hi _ => by
    show s_X12_begin_c155_b2 M 0 (i : Int) = _
    unfold s_X12_begin_c155_b2
    rw [if_neg (by omega), if_pos (by unfold fin; omega), show (0 + (i : Int)).toNat = 0 + i by omega]) (fun M => by
    show s_X12_begin_c155_b2 M 0 645 = _
    unfold s_X12_begin_c155_b2
    rw [if_pos (by omega)])
  refine ⟨N', ?_, h2, h3, h4⟩
  unfold s_X12_begin_c155_l2
  exact h1
theorem i_b26 (N : fM) : ∃ N', s_X12_begin_c155_l26 0 (0, N) = some N' ∧ fSame [(124, none)] N N' ∧ (∀ j, ¬ (13 ≤ j ∧ j < 13 + 52) → N' 124 j = N 124 j) ∧ (∀ i, i < 52 → N' 124 (13 + i) = 20) := by
  obtain ⟨N', h1, h2, h3, h4⟩ := fill_loop (B := fun s => s_X12_begin_c155_b26 s.2 0 s.1) (c := 124) (o := 13) (n := 52) (g := fun _ => 20) (M0 := N) (fun i M hi _ => by
    show s_X12_begin_c155_b26 M 0 (i : Int) = _
    unfold s_X12_begin_c155_b26
    rw [if_neg (by omega), if_pos (by unfold fin; omega), show (0 + 13 + (i : Int)).toNat = 13 + i by omega]) (fun M => by
    show s_X12_begin_c155_b26 M 0 52 = _
    unfold s_X12_begin_c155_b26
    rw [if_pos (by omega)])
  refine ⟨N', ?_, h2, h3, h4⟩
  unfold s_X12_begin_c155_l26
  exact h1
theorem i_b53 (N : fM) : ∃ N', s_X12_begin_c155_l53 0 (0, N) = some N' ∧ fSame [(124, none)] N N' ∧ (∀ j, ¬ (335 ≤ j ∧ j < 335 + 192) → N' 124 j = N 124 j) ∧ (∀ i, i < 192 → N' 124 (335 + i) = 1) := by
  obtain ⟨N', h1, h2, h3, h4⟩ := fill_loop (B := fun s => s_X12_begin_c155_b53 s.2 0 s.1) (c := 124) (o := 335) (n := 192) (g := fun _ => 1) (M0 := N) (fun i M hi _ => by
    show s_X12_begin_c155_b53 M 0 (i : Int) = _
    unfold s_X12_begin_c155_b53
    rw [if_neg (by omega), if_pos (by unfold fin; omega), show (0 + 335 + (i : Int)).toNat = 335 + i by omega]) (fun M => by
    show s_X12_begin_c155_b53 M 0 192 = _
    unfold s_X12_begin_c155_b53
    rw [if_pos (by omega)])
  refine ⟨N', ?_, h2, h3, h4⟩
  unfold s_X12_begin_c155_l53
  exact h1
theorem i_begin (N : fM) : ∃ N', s_X12_begin_c155 N 0 = some ((), N') ∧ fSame [(124, none)] N N' ∧ (∀ z, z < 645 → N' 124 z = bgv (645 + z)) := by
  obtain ⟨N1, a1, a2, a3, a4⟩ := i_b2 N
  obtain ⟨N2, b1, b2, b3, b4⟩ := i_b26 N1
  obtain ⟨N3, c1, c2, c3, c4⟩ := i_b53 N2
  refine ⟨fup (fup (fup (fup N3 124 168 5) 124 169 60) 124 170 480) 124 171 1080, ?_, fs_up (fs_up (fs_up (fs_up (fs_trans a2 (fs_trans b2 c2)) (.inl (by decide))) (.inl (by decide))) (.inl (by decide))) (.inl (by decide)), fun z z1 => ?_⟩
  · unfold s_X12_begin_c155 s_X12_begin_c155_j102 s_X12_begin_c155_j128
    rw [a1, Option.bind_some, b1, Option.bind_some, c1, Option.bind_some, if_pos (by unfold fin; omega), if_pos (by unfold fin; omega)]
    rfl
  · rw [fup_eq, fup_eq, fup_eq, fup_eq]
    unfold bgv
    by_cases e4 : z = 171
    · rw [e4, upd1_at]
      rfl
    · rw [upd1_ne e4]
      by_cases e3 : z = 170
      · rw [e3, upd1_at]
        rfl
      · rw [upd1_ne e3]
        by_cases e2 : z = 169
        · rw [e2, upd1_at]
          rfl
        · rw [upd1_ne e2]
          by_cases e1 : z = 168
          · rw [e1, upd1_at]
            rfl
          · rw [upd1_ne e1]
            by_cases g1 : 13 ≤ z ∧ z < 65
            · obtain ⟨i, hi⟩ : ∃ i, z = 13 + i := ⟨z - 13, by omega⟩
              rw [if_pos (by omega), c3 z (by omega), hi, b4 i (by omega)]
            · rw [if_neg (by omega)]
              by_cases g2 : 335 ≤ z ∧ z < 527
              · obtain ⟨i, hi⟩ : ∃ i, z = 335 + i := ⟨z - 335, by omega⟩
                rw [if_pos (by omega), hi, c4 i (by omega)]
              · rw [if_neg (by omega), if_neg (by omega), if_neg (by omega), if_neg (by omega), if_neg (by omega), c3 z (by omega), b3 z (by omega)]
                have := a4 z z1
                rw [Nat.zero_add] at this
                exact this
noncomputable def refE (M : fM) : fM := (fup (fup (fup (fup (fup (fup (fup (fup (fup (fup (fup (fup (fup (fup (fup (fup (fup (fup (fup (fup (fup (fup (fup (fup (fup (fup (fup (fup (fup (fup (fclr (fclr (fclr (fclr (fclr (fclr (fclr (fclr (fclr (fclr (fclr (fclr (fclr (fup (fclr (fclr (fclr (fclr (fclr (fclr (fclr (fclr (fclr (fclr (fclr (fclr (fclr (fclr (fclr (fclr (fclr (fclr (fclr M 123) 124) 125) 126) 127) 128) 129) 130) 131) 132) 133) 134) 135) 136) 137) 138) 139) 140) 141) 122 49 (-1)) 142) 143) 144) 145) 146) 147) 148) 149) 150) 151) 152) 153) 154) 127 0 499850046565) 127 1 1684106608) 127 2 1952805485) 127 3 6710629) 127 4 1937076837) 127 5 1667328869) 127 6 2002873451) 127 7 2003792491) 127 8 6578553) 127 9 482804330095) 127 10 500186375538) 127 11 1718579819) 127 12 483006638444) 127 13 499917087592) 127 14 1752132965) 127 15 126870791090028) 127 16 1751215212) 127 17 495874700901) 127 18 1936484720) 127 19 440005650796) 127 20 1869636974) 127 21 500186375524) 127 22 439956631140) 127 23 422826699621) 127 24 1885432164) 127 25 6386789) 127 26 27988542599033460) 127 27 470021465444) 127 28 28526) 127 29 461414299502)
theorem refE_row (M : fM) (r : Nat) (hr : ¬ (122 ≤ r ∧ r ≤ 154)) : refE M r = M r := by
  have hf : fSame [(122, none), (123, none), (124, none), (125, none), (126, none), (127, none), (128, none), (129, none), (130, none), (131, none), (132, none), (133, none), (134, none), (135, none), (136, none), (137, none), (138, none), (139, none), (140, none), (141, none), (142, none), (143, none), (144, none), (145, none), (146, none), (147, none), (148, none), (149, none), (150, none), (151, none), (152, none), (153, none), (154, none)] M (refE M) := by
    unfold refE
    exact (fs_up (fs_up (fs_up (fs_up (fs_up (fs_up (fs_up (fs_up (fs_up (fs_up (fs_up (fs_up (fs_up (fs_up (fs_up (fs_up (fs_up (fs_up (fs_up (fs_up (fs_up (fs_up (fs_up (fs_up (fs_up (fs_up (fs_up (fs_up (fs_up (fs_up (fs_clr (fs_clr (fs_clr (fs_clr (fs_clr (fs_clr (fs_clr (fs_clr (fs_clr (fs_clr (fs_clr (fs_clr (fs_clr (fs_up (fs_clr (fs_clr (fs_clr (fs_clr (fs_clr (fs_clr (fs_clr (fs_clr (fs_clr (fs_clr (fs_clr (fs_clr (fs_clr (fs_clr (fs_clr (fs_clr (fs_clr (fs_clr (fs_clr fs_refl (by decide)) (by decide)) (by decide)) (by decide)) (by decide)) (by decide)) (by decide)) (by decide)) (by decide)) (by decide)) (by decide)) (by decide)) (by decide)) (by decide)) (by decide)) (by decide)) (by decide)) (by decide)) (by decide)) (.inl (by decide))) (by decide)) (by decide)) (by decide)) (by decide)) (by decide)) (by decide)) (by decide)) (by decide)) (by decide)) (by decide)) (by decide)) (by decide)) (by decide)) (.inl (by decide))) (.inl (by decide))) (.inl (by decide))) (.inl (by decide))) (.inl (by decide))) (.inl (by decide))) (.inl (by decide))) (.inl (by decide))) (.inl (by decide))) (.inl (by decide))) (.inl (by decide))) (.inl (by decide))) (.inl (by decide))) (.inl (by decide))) (.inl (by decide))) (.inl (by decide))) (.inl (by decide))) (.inl (by decide))) (.inl (by decide))) (.inl (by decide))) (.inl (by decide))) (.inl (by decide))) (.inl (by decide))) (.inl (by decide))) (.inl (by decide))) (.inl (by decide))) (.inl (by decide))) (.inl (by decide))) (.inl (by decide))) (.inl (by decide)))
  exact fs_row hf r (fun x hx e => hr (by
    have := (by decide : ∀ x ∈ [(122, (none : Option Nat)), (123, (none : Option Nat)), (124, (none : Option Nat)), (125, (none : Option Nat)), (126, (none : Option Nat)), (127, (none : Option Nat)), (128, (none : Option Nat)), (129, (none : Option Nat)), (130, (none : Option Nat)), (131, (none : Option Nat)), (132, (none : Option Nat)), (133, (none : Option Nat)), (134, (none : Option Nat)), (135, (none : Option Nat)), (136, (none : Option Nat)), (137, (none : Option Nat)), (138, (none : Option Nat)), (139, (none : Option Nat)), (140, (none : Option Nat)), (141, (none : Option Nat)), (142, (none : Option Nat)), (143, (none : Option Nat)), (144, (none : Option Nat)), (145, (none : Option Nat)), (146, (none : Option Nat)), (147, (none : Option Nat)), (148, (none : Option Nat)), (149, (none : Option Nat)), (150, (none : Option Nat)), (151, (none : Option Nat)), (152, (none : Option Nat)), (153, (none : Option Nat)), (154, (none : Option Nat))], 122 ≤ x.1 ∧ x.1 ≤ 154) x hx
    omega))
theorem refE_kw (M : fM) : ∀ j, j < 30 → refE M 127 j = kw8.getD j 0 := by
  intro j hj
  have h : j = 0 ∨ j = 1 ∨ j = 2 ∨ j = 3 ∨ j = 4 ∨ j = 5 ∨ j = 6 ∨ j = 7 ∨ j = 8 ∨ j = 9 ∨ j = 10 ∨ j = 11 ∨ j = 12 ∨ j = 13 ∨ j = 14 ∨ j = 15 ∨ j = 16 ∨ j = 17 ∨ j = 18 ∨ j = 19 ∨ j = 20 ∨ j = 21 ∨ j = 22 ∨ j = 23 ∨ j = 24 ∨ j = 25 ∨ j = 26 ∨ j = 27 ∨ j = 28 ∨ j = 29 := by omega
  rcases h with rfl | rfl | rfl | rfl | rfl | rfl | rfl | rfl | rfl | rfl | rfl | rfl | rfl | rfl | rfl | rfl | rfl | rfl | rfl | rfl | rfl | rfl | rfl | rfl | rfl | rfl | rfl | rfl | rfl | rfl
  all_goals rfl
theorem i_ref (M : fM) : ∃ N, s_X12_init_c123 M = some ((), N) ∧ fSame [(124, none)] (refE M) N ∧ (∀ z, z < 645 → N 124 z = bgv (645 + z)) := by
  obtain ⟨N, h1, h2, h3⟩ := i_begin (refE M)
  refine ⟨N, ?_, h2, h3⟩
  show (s_X12_begin_c155 (refE M) 0).bind _ = _
  rw [h1]
  rfl
