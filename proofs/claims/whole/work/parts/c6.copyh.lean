/-! ===== a house that was read whole ===== -/
theorem m_copyH (N : fM) : ∃ N', s_X12_house_l54 (0, N) = some N' ∧ fSame [(124, none)] N N' ∧ (∀ i, i < 645 → N' 124 i = N 124 (645 + i)) := by
  obtain ⟨N', h1, h2, -, h4⟩ := fill_loop (B := fun s => s_X12_house_b54 s.2 s.1) (c := 124) (o := 0) (n := 645) (g := fun i => N 124 (645 + i)) (M0 := N) (fun i M hi hM => by
    show s_X12_house_b54 M (i : Int) = _
    unfold s_X12_house_b54
    rw [if_neg (by omega), if_pos (by unfold fin; omega), show (645 + (i : Int)).toNat = 645 + i by omega, hM (645 + i) (by omega), show ((i : Int)).toNat = 0 + i by omega]) (fun M => by
    show s_X12_house_b54 M 645 = _
    unfold s_X12_house_b54
    rw [if_pos (by omega)])
  refine ⟨N', ?_, h2, fun i hi => ?_⟩
  · unfold s_X12_house_l54
    exact h1
  · have := h4 i hi
    rw [Nat.zero_add] at this
    exact this
theorem m_copyN (N : fM) : ∃ N', s_X12_house_l85 (0, N) = some N' ∧ fSame [(126, none)] N N' ∧ (∀ i, i < 28 → N' 126 i = N 126 (28 + i)) := by
  obtain ⟨N', h1, h2, -, h4⟩ := fill_loop (B := fun s => s_X12_house_b85 s.2 s.1) (c := 126) (o := 0) (n := 28) (g := fun i => N 126 (28 + i)) (M0 := N) (fun i M hi hM => by
    show s_X12_house_b85 M (i : Int) = _
    unfold s_X12_house_b85
    rw [if_neg (by omega), if_pos (by unfold fin; omega), show (28 + (i : Int)).toNat = 28 + i by omega, hM (28 + i) (by omega), show ((i : Int)).toNat = 0 + i by omega]) (fun M => by
    show s_X12_house_b85 M 28 = _
    unfold s_X12_house_b85
    rw [if_pos (by omega)])
  refine ⟨N', ?_, h2, fun i hi => ?_⟩
  · unfold s_X12_house_l85
    exact h1
  · have := h4 i hi
    rw [Nat.zero_add] at this
    exact this
theorem Ou_but {l : List (Nat × Option Nat)} {M M' : fM} (h : fSame l M M') (hn : fNo l [66, 142, 72, 148] [(47, 7), (122, 31), (47, 8), (122, 32), (54, 15), (122, 51), (54, 16), (122, 49), (67, 5), (122, 57), (70, 3), (122, 60)]) (e : M' 0 14 = M' 122 15) (H : Ou M) : Ou M' := by
  unfold Ou at H ⊢
  rw [fno_row h hn 66 (by decide), fno_row h hn 142 (by decide), fno_row h hn 72 (by decide), fno_row h hn 148 (by decide), fno_fld h hn 47 7 (by decide), fno_fld h hn 122 31 (by decide), fno_fld h hn 47 8 (by decide), fno_fld h hn 122 32 (by decide), fno_fld h hn 54 15 (by decide), fno_fld h hn 122 51 (by decide), fno_fld h hn 54 16 (by decide), fno_fld h hn 122 49 (by decide), fno_fld h hn 67 5 (by decide), fno_fld h hn 122 57 (by decide), fno_fld h hn 70 3 (by decide), fno_fld h hn 122 60 (by decide)]
  exact ⟨e, H.2⟩
/-- the draft, with no records -/
def hD (K : fM) : fM := fun k => if k = 18 then fun _ => 0 else dr K k
theorem WF_hD {K N : fM} (hH : HD (dr K) N) : WF (hD K) := by
  obtain ⟨h1, h2, h3, h4, h5, h6, h7, h8, h9, -, -, -⟩ := hH
  have z : hD K 18 8 = 0 := rfl
  exact ⟨⟨h1.1, h1.2.1, h1.2.2.1, h1.2.2.2, by rw [z]; decide⟩, h2, h3, h4, h5, h6, h7, h8, h9, fun i i0 i1 => by omega⟩
theorem k_house_ok {M K' : fM} (hI : Iv M) (hr : s_X3_readAll M = some (.inl (), K')) (h19 : K' 1 9 = 0) : ∃ v M1 M2, s_X11_house M = some (v, M1) ∧ M1 1000 = M 1000 ∧ s_X12_house M1 = some (v, M2) ∧ Iv M2 := by
  obtain ⟨q1, q2, q3, -, ⟨D0, q5⟩, ⟨D1, q6⟩⟩ := hI
  obtain ⟨L, hL⟩ : ∃ L : Nat, M 1 2 = (L : Int) := ⟨(M 1 2).toNat, by have := q2.2.1; omega⟩
  obtain ⟨Kc, cc, hcp⟩ := cpH_4_28 K'
  have fc : fSame s_X2_copyFrom_4_28_mods K' Kc := s_X2_copyFrom_4_28_fr cc
  obtain ⟨⟨u13, u14, u15, u16, u17⟩, v5, v6, v7, v8, v9, v10, v11, v12, v13, v14, v15, v16, v17⟩ := hcp
  obtain ⟨M1, hM1⟩ : ∃ M1, M1 = fup (fup (fup Kc 18 8 0) 1 2 0) 0 14 (Kc 1 9) := ⟨_, rfl⟩
  have e19 : Kc 1 9 = 0 := by rw [fs_row fc 1 (by decide), h19]
  have hcl : s_X11_house M = some (K' 28 17, M1) := by
    unfold s_X11_house
    rw [hr, Option.bind_some, fel_l, cc, Option.bind_some]
    unfold s_X11_house_j33 s_X10_empty
    rw [Option.bind_some, hM1]
    show (if ¬ (Kc 1 9) = 0 then (if fin ((-1) - (Kc 1 10)) then some ((-1) - (Kc 1 10), fup (fup (fup Kc 18 8 0) 1 2 0) 0 14 (Kc 1 9)) else none) else some (Kc 4 17, fup (fup (fup Kc 18 8 0) 1 2 0) 0 14 (Kc 1 9))) = _
    rw [if_neg (fun e => e e19), u17]
  have f1 : fSame s_X11_house_mods M M1 := s_X11_house_fr hcl
  obtain ⟨N0, m0, fN0, n02, -, hcase⟩ := sim_house (M := M) (N := M1) (b := M 2) (L := L) (by have := q2.2.1; omega) q2.2.2.2 rfl hL q1.2.2.2.2.1 q1.2.1 (by rw [fs_row f1 123 (by decide)]; exact q2.2.2.1) (by rw [fs_at f1 122 2 (by decide), q2.1, hL]) (fun j hj => by rw [fs_row f1 127 (by decide)]; exact q1.2.2.2.2.2 j hj)
  rcases hcase with ⟨K2, N', i', r1, r2, hH, e17, e20, hi, -, e15⟩ | ⟨K2, N', r1, -, -⟩
  · rw [hr] at r1
    have eK : K2 = K' := (Prod.mk.inj (Option.some.inj r1)).2.symm
    subst eK
    obtain ⟨Na, a1, a2, a3⟩ := m_copyH N'
    obtain ⟨Nb, b1, b2, b3⟩ := m_copyN Na
    obtain ⟨M2, hM2⟩ : ∃ M2, M2 = fup Nb 122 10 0 := ⟨_, rfl⟩
    have n122 : Nb 122 = N' 122 := by rw [fs_row b2 122 (by decide), fs_row a2 122 (by decide)]
    have hm2 : s_X12_house M1 = some (K2 28 17, M2) := by
      rw [m0, r2, Option.bind_some]
      unfold rHouse
      rw [if_pos (show ¬ (1 : Int) = 0 by decide)]
      show (s_X12_house_l54 (0, N')).bind _ = _
      rw [a1, Option.bind_some, b1, Option.bind_some, n122, e20, e17, hM2]
    have f2 : fSame s_X12_house_mods M1 M2 := s_X12_house_fr hm2
    have fAll : fSame (s_X11_house_mods ++ s_X12_house_mods) M M2 := fs_trans (fs_mono (fun x hx => List.mem_append_left _ hx) f1) (fs_mono (fun x hx => List.mem_append_right _ hx) f2)
    have hWF := WF_hD hH
    have er : ∀ r, 4 ≤ r → r ≤ 17 → M2 r = Kc r := by
      intro r r0 r1
      rw [fs_row f2 r (fun x hx e => by have := (by decide : ∀ x ∈ s_X12_house_mods, ¬ (4 ≤ x.1 ∧ x.1 ≤ 17)) x hx; omega), hM1, fup_ne (by omega), fup_ne (by omega), fup_ne (by omega)]
    have e18 : M2 18 8 = 0 := by
      rw [fs_row f2 18 (by decide), hM1]
      rfl
    have eq : Eqv (hD K2) M2 := by
      refine ⟨⟨?_, ?_, ?_, ?_, e18⟩, fun j hj => ?_, fun j hj => ⟨?_, ?_⟩, fun j hj => ?_, fun j hj => ?_, fun j hj => ?_, fun j hj => ?_, fun j hj => ?_, fun j hj => ?_, fun j hj => ?_, ⟨fun j hj => ?_, fun j hj => ?_, fun j hj => ?_⟩, fun j hj => absurd hj (Nat.not_lt_zero j), fun j hj => absurd hj (Nat.not_lt_zero j)⟩
      · rw [er 4 (by decide) (by decide)]; exact u13
      · rw [er 4 (by decide) (by decide)]; exact u14
      · rw [er 4 (by decide) (by decide)]; exact u15
      · rw [er 4 (by decide) (by decide)]; exact u16
      · rw [er 5 (by decide) (by decide)]; exact v5 j hj
      · rw [er 6 (by decide) (by decide)]; exact v6 j hj
      · rw [er 7 (by decide) (by decide)]; exact v7 j hj
      · rw [er 8 (by decide) (by decide)]; exact v8 j hj
      · rw [er 9 (by decide) (by decide)]; exact v9 j hj
      · rw [er 10 (by decide) (by decide)]; exact v10 j hj
      · rw [er 11 (by decide) (by decide)]; exact v11 j hj
      · rw [er 12 (by decide) (by decide)]; exact v12 j hj
      · rw [er 13 (by decide) (by decide)]; exact v13 j hj
      · rw [er 14 (by decide) (by decide)]; exact v14 j hj
      · rw [er 15 (by decide) (by decide)]; exact v15 j hj
      · rw [er 16 (by decide) (by decide)]; exact v16 j hj
      · rw [er 17 (by decide) (by decide)]; exact v17 j hj
    have hmh : MRh N' 124 645 (hD K2) := hH.2.2.2.2.2.2.2.2.2.1
    have hmn : MRn N' 126 28 (hD K2) := hH.2.2.2.2.2.2.2.2.2.2.1
    have hmr : MRr M2 125 0 (hD K2) := by
      have z : hD K2 18 8 = 0 := rfl
      exact ⟨fun _ i _ _ _ => by omega, fun _ i _ _ _ => by omega, fun _ i _ _ _ => by omega, fun _ i _ _ _ => by omega, fun _ i _ _ _ => by omega, fun _ i _ _ _ => by omega, fun _ i _ _ _ => by omega, fun _ i n _ _ _ => by omega⟩
    refine ⟨K2 28 17, M1, M2, hcl, fs_row f1 1000 (by decide), hm2, St_same fAll (by decide) q1, Tp_taken fAll (by decide) ?_ ?_ q2, Ou_but fAll (by decide) ?_ q3, ⟨M2, fun k _ _ => rfl, WF_eqv eq hWF, MRh_eqv eq hWF.1 (MRh_move (M := N') (hc := 124) (ho := 645) hWF.1 (fun w w0 w1 => ?_) hmh), MRn_eqv eq hWF.1 (MRn_move (M := N') (hc := 126) (ho := 28) hWF.1 (fun w w0 w1 => ?_) hmn), MRr_eqv eq hWF.1 hmr, ?_⟩, ⟨D0, Kp_same fAll (by decide) (by decide) q5⟩, ⟨D1, Kp_same fAll (by decide) (by decide) q6⟩⟩
    · rw [fs_row f2 1 (by decide), hM1]
      rfl
    · rw [hM2]
      have e2 : N' 122 2 = 0 := by
        have fr : fSame s_X12_readHouse_mods N0 N' := s_X12_readHouse_fr r2
        rw [fs_at fr 122 2 (by decide), n02]
      show Nb 122 2 = 0
      rw [n122, e2]
    · have x1 : M2 0 14 = 0 := by
        rw [fs_row f2 0 (by decide), hM1]
        exact e19
      have x2 : M2 122 15 = 0 := by
        rw [hM2]
        show Nb 122 15 = 0
        rw [n122, e15]
      rw [x1, x2]
    · rw [hM2, fup_ne (by decide), fs_row b2 124 (by decide), show (0 + w).toNat = w.toNat by omega, show (645 + w).toNat = 645 + w.toNat by omega, a3 w.toNat (by omega)]
    · rw [hM2, fup_ne (by decide), show (0 + w).toNat = w.toNat by omega, show (28 + w).toNat = 28 + w.toNat by omega, b3 w.toNat (by omega), fs_row a2 126 (by decide)]
    · rw [e18, hM2]
      rfl
  · rw [hr] at r1
    have e := (Prod.mk.inj (Option.some.inj r1)).1
    cases e
