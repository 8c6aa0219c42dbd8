/-! ===== the start, and the law ===== -/
theorem fclr_row0 {M : fM} {k a : Nat} (h : a ≠ k) : fclr M k a = M a := by
  funext j
  unfold fclr
  rw [if_neg h]
theorem i_start (X : Nat → Nat → Int) (hX : ∀ k j, -2147483648 ≤ X k j ∧ X k j < 2147483648) (x1 : ∀ j, j < 6 → X 1001 j = (fR1.getD j 0).toInt) (x2 : ∀ j, j < 4 → X 1002 j = (fR2.getD j 0).toInt) (x3 : ∀ j, j < 4 → X 1003 j = (fR3.getD j 0).toInt) (x4 : ∀ j, j < 162 → X 1004 j = (ftextB.getD j 0).toInt) : ∃ M1 M2, s_X11_init_c1 (fclr (fm00 X) 0) = some ((), M1) ∧ s_X12_init_c123 (fclr M1 122) = some ((), M2) ∧ Iv (fclr M2 155) := by
  obtain ⟨M1, c1, fMM, hZ, t2, t3, z014, z5415, z5416, v5, v6, v7, v14, v8, c13, c14, c15, c16⟩ := i_class (fclr (fm00 X) 0) (fun r hr j => by
    unfold fclr fm00
    by_cases h : r = 0
    · rw [if_pos h]
    · rw [if_neg h, if_neg (by omega)]) (fun j hj => x4 j hj)
  obtain ⟨M2, c2, fN, vb⟩ := i_ref (fclr M1 122)
  refine ⟨M1, M2, c1, c2, ?_⟩
  obtain ⟨F, hF⟩ : ∃ F, F = fclr M2 155 := ⟨_, rfl⟩
  rw [← hF]
  have rE : ∀ r, r ≠ 155 → r ≠ 124 → F r = refE (fclr M1 122) r := fun r h1 h2 => by
    rw [hF, fclr_row0 h1, fs_row fN r (fun x hx e => h2 (by have := List.mem_singleton.mp hx; rw [← e, this]))]
  have rC : ∀ r, r < 122 → F r = M1 r := fun r hr => by
    rw [rE r (by omega) (by omega), refE_row _ r (by omega), fclr_row0 (by omega)]
  have rX : ∀ r, 1000 ≤ r → F r = X r := fun r hr => by
    rw [rE r (by omega) (by omega), refE_row _ r (by omega), fclr_row0 (by omega), fs_row fMM r (fun x hx e => by
      have := (by decide +kernel : ∀ x ∈ ((1, none) :: (2, none) :: (3, none) :: [(4, none), (5, none), (6, none), (7, none), (8, none), (9, none), (10, none), (11, none), (12, none), (13, none), (14, none), (15, none), (16, none), (17, none)] ++ inB), x.1 < 122) x hx
      omega), fclr_row0 (by omega)]
    funext j
    unfold fm00
    rw [if_pos hr]
  have e122 : ∀ j, F 122 j = refE (fclr M1 122) 122 j := fun j => by rw [rE 122 (by decide) (by decide)]
  have z122_2 : F 122 2 = 0 := by rw [e122]; rfl
  have z122_10 : F 122 10 = 0 := by rw [e122]; rfl
  have z122_15 : F 122 15 = 0 := by rw [e122]; rfl
  have z122_31 : F 122 31 = 0 := by rw [e122]; rfl
  have z122_32 : F 122 32 = 0 := by rw [e122]; rfl
  have z122_49 : F 122 49 = -1 := by rw [e122]; rfl
  have z122_51 : F 122 51 = 0 := by rw [e122]; rfl
  have z122_57 : F 122 57 = 0 := by rw [e122]; rfl
  have z122_60 : F 122 60 = 0 := by rw [e122]; rfl
  have z123 : ∀ j, F 123 j = 0 := fun j => by rw [rE 123 (by decide) (by decide)]; rfl
  have z154 : ∀ j, F 154 j = 0 := fun j => by rw [rE 154 (by decide) (by decide)]; rfl
  have v124 : ∀ z, z < 645 → F 124 z = bgv (645 + z) := fun z hz => by rw [hF, fclr_row0 (by decide), vb z hz]
  have zz : ∀ r, r ∈ inZ → r < 122 → ∀ j, F r j = 0 := fun r h1 h2 j => by rw [rC r h2]; exact hZ r h1 j
  have z2 : ∀ j, F 2 j = 0 := fun j => by rw [rC 2 (by decide)]; exact t2 j
  have z1 := zz 1 (by decide) (by decide)
  have z18 := zz 18 (by decide) (by decide)
  have z47 := zz 47 (by decide) (by decide)
  have z67 := zz 67 (by decide) (by decide)
  have z70 := zz 70 (by decide) (by decide)
  have z75 := zz 75 (by decide) (by decide)
  have w14 : F 0 14 = 0 := by rw [rC 0 (by decide), z014]
  have w5415 : F 54 15 = 0 := by rw [rC 54 (by decide), z5415]
  have w5416 : F 54 16 = -1 := by rw [rC 54 (by decide), z5416]
  obtain ⟨K, hK⟩ : ∃ K : fM, K = fun k => F (k - 24) := ⟨_, rfl⟩
  obtain ⟨N, hN⟩ : ∃ N : fM, N = fun k j => if k = 124 then F 124 (j - 645) else F k j := ⟨_, rfl⟩
  have hdr : dr K = F := by
    funext k
    unfold dr
    rw [hK]
    show F (k + 24 - 24) = F k
    rw [Nat.add_sub_cancel]
  have kr : ∀ r, K (r + 24) = F r := fun r => by
    rw [hK]
    show F (r + 24 - 24) = F r
    rw [Nat.add_sub_cancel]
  have hHD : HD (dr K) N := HD_start (fun j hj => by rw [kr 5, rC 5 (by decide), v5 j hj]) (fun j hj => by rw [kr 6, rC 6 (by decide), v6 j hj]) (fun j hj => by rw [kr 7, rC 7 (by decide), v7 j hj]) (fun j hj => by rw [kr 14, rC 14 (by decide), v14 j hj]) (fun j hj => by
    rw [kr 8, rC 8 (by decide), v8 j hj]
    exact x1 j hj) (by rw [kr 4, rC 4 (by decide), c13]) (by rw [kr 4, rC 4 (by decide), c14]) (by rw [kr 4, rC 4 (by decide), c15]) (by rw [kr 4, rC 4 (by decide), c16]) (fun z h1 h2 => by
    rw [hN]
    show (if 124 = 124 then F 124 (z - 645) else F 124 z) = bgv z
    rw [if_pos rfl, v124 (z - 645) (by omega), show 645 + (z - 645) = z by omega])
  rw [hdr] at hHD
  obtain ⟨h1, h2, h3, h4, h5, h6, h7, h8, h9, hmh, -, -⟩ := hHD
  have q13 : F 4 13 = 0 := by rw [rC 4 (by decide), c13]
  have q14 : F 4 14 = 0 := by rw [rC 4 (by decide), c14]
  have q15 : F 4 15 = 0 := by rw [rC 4 (by decide), c15]
  have hwn : WFn F := ⟨h1.1, h1.2.1, h1.2.2.1, h1.2.2.2, by rw [z18 8]; decide⟩
  have hsz : F 18 8 = 0 := z18 8
  refine ⟨⟨fun j => ?_, fun j hj => ?_, fun j hj => ?_, fun j hj => ?_, fun j hj => ?_, fun j hj => ?_⟩, ⟨?_, ?_, ?_, fun j => ?_⟩, ⟨?_, ⟨?_, ?_⟩, ⟨?_, ?_, ?_, fun i i0 i1 => ?_⟩, ?_, ?_, ⟨?_, ?_, ?_, fun k k0 k1 => ?_⟩⟩, ⟨F, fun k _ _ => rfl, ⟨hwn, h2, h3, h4, h5, h6, h7, h8, h9, fun i i0 i1 => by omega⟩, ?_, ?_, ?_, ?_⟩, ⟨F, ?_, ?_, fun h => ?_⟩, ⟨F, ?_, ?_, fun h => ?_⟩⟩
  · rw [rX 1000 (by decide)]
    exact hX 1000 j
  · rw [rX 1001 (by decide)]
    exact x1 j hj
  · rw [rX 1002 (by decide)]
    exact x2 j hj
  · rw [rX 1003 (by decide)]
    exact x3 j hj
  · rw [rC 3 (by decide)]
    exact t3 j hj
  · rw [rE 127 (by decide) (by decide)]
    exact refE_kw _ j hj
  · rw [z122_2, z1 2]
  · rw [z1 2]
    decide
  · funext j
    rw [z123 j, z2 j]
  · rw [z2 j]
    decide
  · rw [w14, z122_15]
  · rw [z47 7, z122_31]
  · rw [z47 8, z122_32]
  · rw [w5415, z122_51]
  · rw [w5415]
    decide
  · rw [w5415]
    decide
  · rw [w5415] at i1
    omega
  · rw [w5416, z122_49]
  · rw [z67 5, z122_57]
  · rw [z70 3, z122_60]
  · rw [z70 3]
    decide
  · rw [z70 3]
    decide
  · rw [z70 3] at k1
    omega
  · exact MRh_move (M := N) (hc := 124) (ho := 645) hwn (fun w w0 w1 => by
      rw [hN]
      show F 124 (0 + w).toNat = (if 124 = 124 then F 124 ((645 + w).toNat - 645) else F 124 (645 + w).toNat)
      rw [if_pos rfl, show (645 + w).toNat - 645 = (0 + w).toNat by omega]) hmh
  · exact ⟨fun z p hz p0 p1 => by omega, fun z t hz t0 t1 => by omega, fun z u hz u0 u1 => by omega⟩
  · exact ⟨fun _ i _ _ _ => by omega, fun _ i _ _ _ => by omega, fun _ i _ _ _ => by omega, fun _ i _ _ _ => by omega, fun _ i _ _ _ => by omega, fun _ i _ _ _ => by omega, fun _ i _ _ _ => by omega, fun _ i n _ _ _ => by omega⟩
  · rw [z122_10, hsz]
  · rw [z75 0, z154 0]
  · rw [z75 0]
    exact .inl rfl
  · rw [z75 0] at h
    exact absurd h (by decide)
  · rw [z75 1, z154 1]
  · rw [z75 1]
    exact .inl rfl
  · rw [z75 1] at h
    exact absurd h (by decide)
theorem f_law : fLaw := law_of (I := fun _ => Iv) (fun L X _ hX x1 x2 x3 x4 => i_start X hX x1 x2 x3 x4) (fun L M i hL hI h0 h1 => law_step hI (by omega) h0 h1)
