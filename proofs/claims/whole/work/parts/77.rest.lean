/-! ===== image and restore, with any number ===== -/
theorem Eqv_back {M K : fM} {D : fM} {s : Nat} (hc : CR M s D) (hw : WFn D) (h1 : CpH M K (4 + s) 4) {K2 : fM} (h3 : CpR K K2 (18 + s) 18) (hK : ∀ k, 18 + s ≤ k → k ≤ 26 + s → K k = M k) (hK2 : ∀ k, 4 ≤ k → k ≤ 17 → K2 k = K k) : Eqv D K2 := by
  obtain ⟨⟨a13, a14, a15, a16, -⟩, b1, b2, b3, b4, b5, b6, b7, b8, b9, b10, b11, b12, b13⟩ := h1
  obtain ⟨r8, r1, r2⟩ := h3
  have hn := nR_c hw
  have rM : ∀ k, 4 ≤ k → k ≤ 26 → ∀ j, M (k + s) j = D k j := fun k h1 h2 j => congrFun (hc k h1 h2) j
  have sh : ∀ a : Nat, (4 + s + a) = (4 + a + s) := fun a => by omega
  have sr : ∀ a : Nat, (18 + s + a) = (18 + a + s) := fun a => by omega
  have c18 : K (18 + s) 8 = D 18 8 := by rw [hK (18 + s) (by omega) (by omega)]; exact rM 18 (by decide) (by decide) 8
  have row : ∀ k, 4 ≤ k → k ≤ 17 → ∀ j, K2 k j = K k j := fun k h1 h2 j => by rw [hK2 k h1 h2]
  refine ⟨⟨?_, ?_, ?_, ?_, ?_⟩, ?_, ?_, ?_, ?_, ?_, ?_, ?_, ?_, ?_, ⟨?_, ?_, ?_⟩, ?_, ?_⟩
  · exact (row 4 (by decide) (by decide) 13).trans (a13.trans (rM 4 (by decide) (by decide) 13))
  · exact (row 4 (by decide) (by decide) 14).trans (a14.trans (rM 4 (by decide) (by decide) 14))
  · exact (row 4 (by decide) (by decide) 15).trans (a15.trans (rM 4 (by decide) (by decide) 15))
  · exact (row 4 (by decide) (by decide) 16).trans (a16.trans (rM 4 (by decide) (by decide) 16))
  · exact r8.trans c18
  · intro j hj
    exact (row 5 (by decide) (by decide) j).trans ((by have q := b1 j hj; rw [sh 1] at q; exact q : K 5 j = M (4 + 1 + s) j).trans (rM 5 (by decide) (by decide) j))
  · intro j hj
    exact ⟨(row 6 (by decide) (by decide) j).trans ((by have q := b2 j hj; rw [sh 2] at q; exact q : K 6 j = M (4 + 2 + s) j).trans (rM 6 (by decide) (by decide) j)), (row 7 (by decide) (by decide) j).trans ((by have q := b3 j hj; rw [sh 3] at q; exact q : K 7 j = M (4 + 3 + s) j).trans (rM 7 (by decide) (by decide) j))⟩
  · intro j hj
    exact (row 8 (by decide) (by decide) j).trans ((by have q := b4 j hj; rw [sh 4] at q; exact q : K 8 j = M (4 + 4 + s) j).trans (rM 8 (by decide) (by decide) j))
  · intro j hj
    exact (row 9 (by decide) (by decide) j).trans ((by have q := b5 j hj; rw [sh 5] at q; exact q : K 9 j = M (4 + 5 + s) j).trans (rM 9 (by decide) (by decide) j))
  · intro j hj
    exact (row 10 (by decide) (by decide) j).trans ((by have q := b6 j hj; rw [sh 6] at q; exact q : K 10 j = M (4 + 6 + s) j).trans (rM 10 (by decide) (by decide) j))
  · intro j hj
    exact (row 11 (by decide) (by decide) j).trans ((by have q := b7 j hj; rw [sh 7] at q; exact q : K 11 j = M (4 + 7 + s) j).trans (rM 11 (by decide) (by decide) j))
  · intro j hj
    exact (row 12 (by decide) (by decide) j).trans ((by have q := b8 j hj; rw [sh 8] at q; exact q : K 12 j = M (4 + 8 + s) j).trans (rM 12 (by decide) (by decide) j))
  · intro j hj
    exact (row 13 (by decide) (by decide) j).trans ((by have q := b9 j hj; rw [sh 9] at q; exact q : K 13 j = M (4 + 9 + s) j).trans (rM 13 (by decide) (by decide) j))
  · intro j hj
    exact (row 14 (by decide) (by decide) j).trans ((by have q := b10 j hj; rw [sh 10] at q; exact q : K 14 j = M (4 + 10 + s) j).trans (rM 14 (by decide) (by decide) j))
  · intro j hj
    exact (row 15 (by decide) (by decide) j).trans ((by have q := b11 j hj; rw [sh 11] at q; exact q : K 15 j = M (4 + 11 + s) j).trans (rM 15 (by decide) (by decide) j))
  · intro j hj
    exact (row 16 (by decide) (by decide) j).trans ((by have q := b12 j hj; rw [sh 12] at q; exact q : K 16 j = M (4 + 12 + s) j).trans (rM 16 (by decide) (by decide) j))
  · intro j hj
    exact (row 17 (by decide) (by decide) j).trans ((by have q := b13 j hj; rw [sh 13] at q; exact q : K 17 j = M (4 + 13 + s) j).trans (rM 17 (by decide) (by decide) j))
  · intro j hj
    have hj2 : (j : Int) < K (18 + s) 8 := by rw [c18]; unfold nR at hj; omega
    have q := r1 j hj2
    exact ⟨(by have z := q.1; rw [sr 1] at z; exact z : K2 19 j = K (18 + 1 + s) j).trans ((congrFun (hK (18 + 1 + s) (by omega) (by omega)) j).trans (rM 19 (by decide) (by decide) j)), (by have z := q.2.1; rw [sr 2] at z; exact z : K2 20 j = K (18 + 2 + s) j).trans ((congrFun (hK (18 + 2 + s) (by omega) (by omega)) j).trans (rM 20 (by decide) (by decide) j)), (by have z := q.2.2.1; rw [sr 3] at z; exact z : K2 21 j = K (18 + 3 + s) j).trans ((congrFun (hK (18 + 3 + s) (by omega) (by omega)) j).trans (rM 21 (by decide) (by decide) j)), (by have z := q.2.2.2.1; rw [sr 4] at z; exact z : K2 22 j = K (18 + 4 + s) j).trans ((congrFun (hK (18 + 4 + s) (by omega) (by omega)) j).trans (rM 22 (by decide) (by decide) j)), (by have z := q.2.2.2.2.1; rw [sr 5] at z; exact z : K2 23 j = K (18 + 5 + s) j).trans ((congrFun (hK (18 + 5 + s) (by omega) (by omega)) j).trans (rM 23 (by decide) (by decide) j)), (by have z := q.2.2.2.2.2.1; rw [sr 6] at z; exact z : K2 24 j = K (18 + 6 + s) j).trans ((congrFun (hK (18 + 6 + s) (by omega) (by omega)) j).trans (rM 24 (by decide) (by decide) j)), (by have z := q.2.2.2.2.2.2; rw [sr 7] at z; exact z : K2 25 j = K (18 + 7 + s) j).trans ((congrFun (hK (18 + 7 + s) (by omega) (by omega)) j).trans (rM 25 (by decide) (by decide) j))⟩
  · intro j hj
    have hj2 : (j : Int) < K (18 + s) 8 * 12 := by rw [c18]; unfold nR at hj; omega
    exact (by have z := r2 j hj2; rw [sr 8] at z; exact z : K2 26 j = K (18 + 8 + s) j).trans ((congrFun (hK (18 + 8 + s) (by omega) (by omega)) j).trans (rM 26 (by decide) (by decide) j))
theorem Eqv_rows {D E F : fM} (h : ∀ r, 4 ≤ r → r ≤ 26 → F r = E r) (H : Eqv D E) : Eqv D F := by
  unfold Eqv at H ⊢
  rw [h 4 (by decide) (by decide), h 5 (by decide) (by decide), h 6 (by decide) (by decide), h 7 (by decide) (by decide), h 8 (by decide) (by decide), h 9 (by decide) (by decide), h 10 (by decide) (by decide), h 11 (by decide) (by decide), h 12 (by decide) (by decide), h 13 (by decide) (by decide), h 14 (by decide) (by decide), h 15 (by decide) (by decide), h 16 (by decide) (by decide), h 17 (by decide) (by decide), h 18 (by decide) (by decide), h 19 (by decide) (by decide), h 20 (by decide) (by decide), h 21 (by decide) (by decide), h 22 (by decide) (by decide), h 23 (by decide) (by decide), h 24 (by decide) (by decide), h 25 (by decide) (by decide), h 26 (by decide) (by decide)]
  exact H
theorem k_image {M : fM} (hI : Iv M) (x : Int) : ∃ v M1 M2, s_X11_imageA M x = some (v, M1) ∧ M1 1000 = M 1000 ∧ s_X12_image M1 x = some (v, M2) ∧ Iv M2 := by
  unfold s_X11_imageA
  by_cases h0 : x = 0
  · subst h0
    rw [if_pos rfl]
    obtain ⟨M1, M2, a, b, c, d⟩ := k_image0 hI
    exact ⟨1, M1, M2, a, b, c, d⟩
  · by_cases h1 : x = 1
    · subst h1
      rw [if_neg h0, if_pos rfl]
      obtain ⟨M1, M2, a, b, c, d⟩ := k_image1 hI
      exact ⟨1, M1, M2, a, b, c, d⟩
    · rw [if_neg h0, if_neg h1]
      refine ⟨0, M, fup M 122 0 0, ?_, rfl, ?_, Iv_thrown hI⟩
      · unfold s_X11_image
        rw [c_isWithin, Option.bind_some, bit_ifn, if_neg (by omega)]
        rfl
      · unfold s_X12_image
        rw [m_isIn, Option.bind_some, bit_ifn, if_neg (by omega)]
theorem k_restore0 {M : fM} (hI : Iv M) : ∃ v M1 M2, s_X11_restore_0 M = some (v, M1) ∧ M1 1000 = M 1000 ∧ s_X12_restore M1 (((0 : Nat)) : Int) = some (v, M2) ∧ Iv M2 := by
  have hI0 := hI
  obtain ⟨q1, q2, q3, q4, q5, q6⟩ := hI
  obtain ⟨D, p1, p2, p3⟩ := id q5
  by_cases hk : M 75 0 = 0
  · refine ⟨0, M, fup M 122 0 0, ?_, rfl, ?_, Iv_thrown hI0⟩
    · unfold s_X11_restore_0
      rw [c_isWithin, Option.bind_some, bit_if, if_pos (by decide), if_neg (by rw [hk]; decide)]
    · unfold s_X12_restore
      rw [m_isIn, Option.bind_some, bit_if, if_pos (by decide), if_pos (by decide), show (((0 : Nat)) : Int).toNat = 0 from rfl, if_neg (by rw [← p1, hk]; decide)]
  have hk1 : M 75 0 = 1 := p2.resolve_left hk
  obtain ⟨hc, hw, hm, hnm, hr, hn0⟩ := p3 hk1
  have hn200 := hw.1.2.2.2.2
  obtain ⟨K1, a1, a2⟩ := cpH_4_76 M
  have f1 : fSame s_X2_copyFrom_4_76_mods M K1 := s_X2_copyFrom_4_76_fr a1
  have e18 : K1 90 8 = D 18 8 := by rw [fs_row f1 90 (by decide)]; exact congrFun (hc 18 (by decide) (by decide)) 8
  obtain ⟨K2, b1, b2⟩ := cpR_18_90 (M := K1) (by omega) (by omega)
  have f2 : fSame s_X6_copyFrom_18_90_mods K1 K2 := s_X6_copyFrom_18_90_fr b1
  have hcl : s_X11_restore_0 M = some (1, K2) := by
    unfold s_X11_restore_0
    rw [c_isWithin, Option.bind_some, bit_if, if_pos (by decide), if_pos hk, a1, Option.bind_some]
    show (s_X6_copyFrom_18_90 K1).bind _ = _
    rw [b1]
    rfl
  have fA : fSame s_X11_restore_0_mods M K2 := s_X11_restore_0_fr hcl
  have eqv : Eqv D K2 := Eqv_back (s := 72) hc hw.1 a2 b2 (fun r h1 h2 => fs_row f1 r (fun x hx e => by have := (by decide : ∀ x ∈ s_X2_copyFrom_4_76_mods, ¬ (90 ≤ x.1 ∧ x.1 ≤ 98)) x hx; omega)) (fun r h1 h2 => fs_row f2 r (fun x hx e => by have := (by decide : ∀ x ∈ s_X6_copyFrom_18_90_mods, ¬ (4 ≤ x.1 ∧ x.1 ≤ 17)) x hx; omega))
  have e152 : K2 152 0 = D 18 8 := by rw [fs_row fA 152 (by decide)]; exact hn0
  obtain ⟨N, c1, c2, c3, c4, c5, c6⟩ := m_restore (N := K2) 0 (by decide) (by rw [fs_row fA 154 (by decide), ← p1, hk1]; decide) (by rw [e152]; omega) (by rw [e152]; omega)
  have fAll : fSame (s_X11_restore_0_mods ++ [(122, some 0), (122, some 10), (124, none), (125, none), (126, none)]) M N := fs_trans (fs_mono (fun x hx => List.mem_append_left _ hx) fA) (fs_mono (fun x hx => List.mem_append_right _ hx) c6)
  have wn := hw.1
  obtain ⟨D0, q5'⟩ := hI0.2.2.2.2.1
  obtain ⟨D1, q6'⟩ := hI0.2.2.2.2.2
  have eqv2 : Eqv D N := by
    refine Eqv_rows (fun r h1 h2 => fs_row c6 r (fun x hx e => ?_)) eqv
    have := (by decide : ∀ x ∈ [((122 : Nat), some 0), (122, some 10), (124, none), (125, none), (126, none)], ¬ (4 ≤ x.1 ∧ x.1 ≤ 26)) x hx
    omega
  refine ⟨1, K2, N, hcl, fs_row fA 1000 (by decide), c1, St_same fAll (by decide) q1, Tp_same fAll (by decide) q2, Ou_same fAll (by decide) q3, ⟨N, fun r h1 h2 => rfl, WF_eqv eqv2 hw, MRh_eqv eqv2 wn (MRh_move (M := M) (hc := 150) (ho := 645 * ((0 : Nat) : Int)) wn (fun w h1 h2 => ?_) hm), MRn_eqv eqv2 wn (MRn_move (M := M) (hc := 153) (ho := 28 * ((0 : Nat) : Int)) wn (fun w h1 h2 => ?_) hnm), MRr_eqv eqv2 wn (MRr_move (M := M) (hc := 151) (ho := 3800 * ((0 : Nat) : Int)) (fun w h1 h2 => ?_) hr), ?_⟩, ⟨D0, Kp_same fAll (by decide) (by decide) q5'⟩, ⟨D1, Kp_same fAll (by decide) (by decide) q6'⟩⟩
  · rw [show ((645 * ((0 : Nat) : Int)) + w).toNat = 645 * 0 + w.toNat by omega, show (0 + w).toNat = w.toNat by omega, c2 w.toNat (by omega), fs_row fA 150 (by decide)]
  · rw [show ((28 * ((0 : Nat) : Int)) + w).toNat = 28 * 0 + w.toNat by omega, show (0 + w).toNat = w.toNat by omega, c3 w.toNat (by omega), fs_row fA 153 (by decide)]
  · rw [show ((3800 * ((0 : Nat) : Int)) + w).toNat = 3800 * 0 + w.toNat by omega, show (0 + w).toNat = w.toNat by omega, c4 w.toNat (by rw [e152]; omega), fs_row fA 151 (by decide)]
  · rw [c5, e152]
    exact eqv2.1.2.2.2.2.symm
theorem k_restore1 {M : fM} (hI : Iv M) : ∃ v M1 M2, s_X11_restore_1 M = some (v, M1) ∧ M1 1000 = M 1000 ∧ s_X12_restore M1 (((1 : Nat)) : Int) = some (v, M2) ∧ Iv M2 := by
  have hI0 := hI
  obtain ⟨q1, q2, q3, q4, q5, q6⟩ := hI
  obtain ⟨D, p1, p2, p3⟩ := id q6
  by_cases hk : M 75 1 = 0
  · refine ⟨0, M, fup M 122 0 0, ?_, rfl, ?_, Iv_thrown hI0⟩
    · unfold s_X11_restore_1
      rw [c_isWithin, Option.bind_some, bit_if, if_pos (by decide), if_neg (by rw [hk]; decide)]
    · unfold s_X12_restore
      rw [m_isIn, Option.bind_some, bit_if, if_pos (by decide), if_pos (by decide), show (((1 : Nat)) : Int).toNat = 1 from rfl, if_neg (by rw [← p1, hk]; decide)]
  have hk1 : M 75 1 = 1 := p2.resolve_left hk
  obtain ⟨hc, hw, hm, hnm, hr, hn0⟩ := p3 hk1
  have hn200 := hw.1.2.2.2.2
  obtain ⟨K1, a1, a2⟩ := cpH_4_99 M
  have f1 : fSame s_X2_copyFrom_4_99_mods M K1 := s_X2_copyFrom_4_99_fr a1
  have e18 : K1 113 8 = D 18 8 := by rw [fs_row f1 113 (by decide)]; exact congrFun (hc 18 (by decide) (by decide)) 8
  obtain ⟨K2, b1, b2⟩ := cpR_18_113 (M := K1) (by omega) (by omega)
  have f2 : fSame s_X6_copyFrom_18_113_mods K1 K2 := s_X6_copyFrom_18_113_fr b1
  have hcl : s_X11_restore_1 M = some (1, K2) := by
    unfold s_X11_restore_1
    rw [c_isWithin, Option.bind_some, bit_if, if_pos (by decide), if_pos hk, a1, Option.bind_some]
    show (s_X6_copyFrom_18_113 K1).bind _ = _
    rw [b1]
    rfl
  have fA : fSame s_X11_restore_1_mods M K2 := s_X11_restore_1_fr hcl
  have eqv : Eqv D K2 := Eqv_back (s := 95) hc hw.1 a2 b2 (fun r h1 h2 => fs_row f1 r (fun x hx e => by have := (by decide : ∀ x ∈ s_X2_copyFrom_4_99_mods, ¬ (113 ≤ x.1 ∧ x.1 ≤ 121)) x hx; omega)) (fun r h1 h2 => fs_row f2 r (fun x hx e => by have := (by decide : ∀ x ∈ s_X6_copyFrom_18_113_mods, ¬ (4 ≤ x.1 ∧ x.1 ≤ 17)) x hx; omega))
  have e152 : K2 152 1 = D 18 8 := by rw [fs_row fA 152 (by decide)]; exact hn0
  obtain ⟨N, c1, c2, c3, c4, c5, c6⟩ := m_restore (N := K2) 1 (by decide) (by rw [fs_row fA 154 (by decide), ← p1, hk1]; decide) (by rw [e152]; omega) (by rw [e152]; omega)
  have fAll : fSame (s_X11_restore_1_mods ++ [(122, some 0), (122, some 10), (124, none), (125, none), (126, none)]) M N := fs_trans (fs_mono (fun x hx => List.mem_append_left _ hx) fA) (fs_mono (fun x hx => List.mem_append_right _ hx) c6)
  have wn := hw.1
  obtain ⟨D0, q5'⟩ := hI0.2.2.2.2.1
  obtain ⟨D1, q6'⟩ := hI0.2.2.2.2.2
  have eqv2 : Eqv D N := by
    refine Eqv_rows (fun r h1 h2 => fs_row c6 r (fun x hx e => ?_)) eqv
    have := (by decide : ∀ x ∈ [((122 : Nat), some 0), (122, some 10), (124, none), (125, none), (126, none)], ¬ (4 ≤ x.1 ∧ x.1 ≤ 26)) x hx
    omega
  refine ⟨1, K2, N, hcl, fs_row fA 1000 (by decide), c1, St_same fAll (by decide) q1, Tp_same fAll (by decide) q2, Ou_same fAll (by decide) q3, ⟨N, fun r h1 h2 => rfl, WF_eqv eqv2 hw, MRh_eqv eqv2 wn (MRh_move (M := M) (hc := 150) (ho := 645 * ((1 : Nat) : Int)) wn (fun w h1 h2 => ?_) hm), MRn_eqv eqv2 wn (MRn_move (M := M) (hc := 153) (ho := 28 * ((1 : Nat) : Int)) wn (fun w h1 h2 => ?_) hnm), MRr_eqv eqv2 wn (MRr_move (M := M) (hc := 151) (ho := 3800 * ((1 : Nat) : Int)) (fun w h1 h2 => ?_) hr), ?_⟩, ⟨D0, Kp_same fAll (by decide) (by decide) q5'⟩, ⟨D1, Kp_same fAll (by decide) (by decide) q6'⟩⟩
  · rw [show ((645 * ((1 : Nat) : Int)) + w).toNat = 645 * 1 + w.toNat by omega, show (0 + w).toNat = w.toNat by omega, c2 w.toNat (by omega), fs_row fA 150 (by decide)]
  · rw [show ((28 * ((1 : Nat) : Int)) + w).toNat = 28 * 1 + w.toNat by omega, show (0 + w).toNat = w.toNat by omega, c3 w.toNat (by omega), fs_row fA 153 (by decide)]
  · rw [show ((3800 * ((1 : Nat) : Int)) + w).toNat = 3800 * 1 + w.toNat by omega, show (0 + w).toNat = w.toNat by omega, c4 w.toNat (by rw [e152]; omega), fs_row fA 151 (by decide)]
  · rw [c5, e152]
    exact eqv2.1.2.2.2.2.symm
theorem k_restore {M : fM} (hI : Iv M) (x : Int) : ∃ v M1 M2, s_X11_restoreA M x = some (v, M1) ∧ M1 1000 = M 1000 ∧ s_X12_restore M1 x = some (v, M2) ∧ Iv M2 := by
  unfold s_X11_restoreA
  by_cases h0 : x = 0
  · subst h0
    rw [if_pos rfl]
    exact k_restore0 hI
  · by_cases h1 : x = 1
    · subst h1
      rw [if_neg h0, if_pos rfl]
      exact k_restore1 hI
    · rw [if_neg h0, if_neg h1]
      refine ⟨0, M, fup M 122 0 0, ?_, rfl, ?_, Iv_thrown hI⟩
      · unfold s_X11_restore
        rw [c_isWithin, Option.bind_some, bit_if, if_neg (by omega)]
        rfl
      · unfold s_X12_restore
        rw [m_isIn, Option.bind_some, bit_if, if_neg (by omega)]
