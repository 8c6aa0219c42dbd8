/-! ===== a house that was not read whole; house ===== -/
theorem sim_houseL {M N : fM} {b : Nat → Int} {L : Nat} (hL : L ≤ 1240) (hb : ∀ j, -128 ≤ b j ∧ b j < 128) (k2 : M 2 = b) (k12 : M 1 2 = L) (k3 : ∀ j, j < 30 → M 3 j = kw5.getD j 0) (k1001 : ∀ j, j < 6 → M 1001 j = (fR1.getD j 0).toInt) (n123 : N 123 = b) (n2 : N 122 2 = L) (n127 : ∀ j, j < 30 → N 127 j = kw8.getD j 0) : ∃ N0, s_X12_house N = (s_X12_readHouse N0).bind rHouse ∧ fSame [(122, some 0), (122, some 2), (122, some 3), (122, some 4), (122, some 5), (122, some 11), (122, some 12), (122, some 13), (122, some 14), (122, some 15), (122, some 17), (122, some 19), (122, some 20), (124, none)] N N0 ∧ N0 122 2 = 0 ∧ (∀ j, j < 645 → N0 124 j = N 124 j) ∧ ((∃ K' N' i', s_X3_readAll M = some (.inl (), K') ∧ s_X12_readHouse N0 = some (1, N') ∧ HD (dr K') N' ∧ K' 28 17 = ((i' : Nat) : Int) ∧ N' 122 20 = (i' : Int) ∧ i' ≤ 620 ∧ K' 1 9 = 0 ∧ N' 122 15 = 0) ∨ (∃ K' N', s_X3_readAll M = some (.inr (), K') ∧ s_X12_readHouse N0 = some (0, N') ∧ Ft K' N' ∧ fLow N0 N')) := by
  obtain ⟨Ka, ca, a29, a30, a31, a38, a32, a13, a14, a15, a16, a17⟩ := c_clear M
  have fa : fSame s_X2_clear_28_mods M Ka := s_X2_clear_28_fr ca
  obtain ⟨K, hK⟩ : ∃ K, K = fup (fup (fup (fup (fup (fup Ka 27 2 0) 1 3 1200) 1 4 0) 1 5 0) 1 9 0) 1 10 0 := ⟨_, rfl⟩
  have fK : fSame [(27, some 2), (1, some 3), (1, some 4), (1, some 5), (1, some 9), (1, some 10)] Ka K := by
    rw [hK]
    exact fs_up (fs_up (fs_up (fs_up (fs_up (fs_up fs_refl (.inr (by decide))) (.inr (by decide))) (.inr (by decide))) (.inr (by decide))) (.inr (by decide))) (.inr (by decide))
  obtain ⟨Na, hNa⟩ : ∃ Na, Na = fup (fup (fup (fup (fup (fup (fup (fup N 122 0 0) 122 3 (N 122 2)) 122 2 0) 122 4 0) 122 5 1200) 122 15 0) 122 19 0) 122 20 0 := ⟨_, rfl⟩
  have fNa : fSame [(122, some 0), (122, some 3), (122, some 2), (122, some 4), (122, some 5), (122, some 15), (122, some 19), (122, some 20)] N Na := by
    rw [hNa]
    exact fs_up (fs_up (fs_up (fs_up (fs_up (fs_up (fs_up (fs_up fs_refl (.inr (by decide))) (.inr (by decide))) (.inr (by decide))) (.inr (by decide))) (.inr (by decide))) (.inr (by decide))) (.inr (by decide))) (.inr (by decide))
  obtain ⟨Nb, mb, fb, ob, vb⟩ := m_begin Na
  have nb : ∀ j, Nb 122 j = Na 122 j := fun j => by rw [fs_row fb 122 (by decide)]
  have hTp : TpM Nb b L 1200 := ⟨by rw [fs_row fb 123 (by decide), fs_row fNa 123 (by decide), n123], by rw [nb, hNa]; exact n2, hL, by rw [nb, hNa]; rfl, hb⟩
  obtain ⟨N0, mn, fn, hCu⟩ := m_next hTp (p := 0) (by rw [nb, hNa]; rfl) (Nat.zero_le _)
  have hPM : PM N0 b L 1200 := PM_fs fn (by decide) ⟨hTp, fun j hj => by rw [fs_row fb 127 (by decide), fs_row fNa 127 (by decide), n127 j hj]⟩
  have hPC : PC K b L 1200 := ⟨by rw [fs_row fK 2 (by decide), fs_row fa 2 (by decide), k2], by rw [fs_at fK 1 2 (by decide), fs_at fa 1 2 (by decide), k12], hL, by rw [hK]; rfl, fun j hj => by rw [fs_row fK 3 (by decide), fs_row fa 3 (by decide), k3 j hj]⟩
  have hB : StB K N0 b L 1200 0 := ⟨hPC, hPM, by rw [hK]; rfl, hCu, Nat.zero_le _, by rw [hK]; rfl, by rw [fs_at fn 122 15 (by decide), nb, hNa]; rfl⟩
  have hH : HD (dr K) N0 := HD_start (fun j hj => by rw [fs_row fK 29 (by decide), a29 j hj]) (fun j hj => by rw [fs_row fK 30 (by decide), a30 j hj]) (fun j hj => by rw [fs_row fK 31 (by decide), a31 j hj]) (fun j hj => by rw [fs_row fK 38 (by decide), a38 j hj]) (fun j hj => by rw [fs_row fK 32 (by decide), a32 j hj, k1001 j hj]) (by rw [fs_at fK 28 13 (by decide), a13]) (by rw [fs_at fK 28 14 (by decide), a14]) (by rw [fs_at fK 28 15 (by decide), a15]) (by rw [fs_at fK 28 16 (by decide), a16]) (fun z z0 z1 => by rw [fs_row fn 124 (by decide), vb z z0 z1])
  have hT : Tb K N0 := ⟨0, 0, by rw [hK]; rfl, by rw [fs_at fn 122 19 (by decide), nb, hNa]; rfl, by decide, by decide, rfl, rfl, rfl, rfl, rfl, rfl⟩
  have cR : s_X3_readAll M = (s_X3_readAll_l24 (0, K)).bind fun e24 => Sum.elim (fun x24 => some (.inl (), x24)) (fun v24 => some v24) e24 := by
    unfold s_X3_readAll
    rw [ca, Option.bind_some]
    unfold s_X10_begin
    rw [Option.bind_some, hK]
  refine ⟨N0, ?_, ?_, ?_, ?_, ?_⟩
  · unfold s_X12_house s_X12_taken
    rw [Option.bind_some]
    show (s_X12_begin (fup (fup (fup (fup (fup (fup (fup (fup N 122 0 0) 122 3 (N 122 2)) 122 2 0) 122 4 0) 122 5 1200) 122 15 0) 122 19 0) 122 20 0) 645).bind _ = _
    rw [← hNa, mb, Option.bind_some]
    show (s_X12_next Nb).bind _ = _
    rw [mn]
    rfl
  · exact fs_trans (fs_mono (by decide) fNa) (fs_trans (fs_mono (by decide) fb) (fs_mono (by decide) fn))
  · rw [fs_at fn 122 2 (by decide), nb, hNa]
    rfl
  · intro j hj
    rw [fs_row fn 124 (by decide), ob j hj, fs_row fNa 124 (by decide)]
  · rcases lines_low (L + 1) K N0 0 0 (by omega) hB hH hT (by rw [fs_at fK 28 17 (by decide), a17]; rfl) (by rw [fs_at fn 122 20 (by decide), nb, hNa]; rfl) (by decide) with ⟨K', N', i', q1, q2, q3⟩ | ⟨K', N', q1, q2, q3⟩
    · left
      have q1' : s_X3_readAll_l24 (0, K) = some (.inr (.inl (), K')) := q1
      refine ⟨K', N', i', ?_, ?_, q3⟩
      · rw [cR, q1']
        rfl
      · unfold s_X12_readHouse
        rw [q2]
        rfl
    · right
      have q1' : s_X3_readAll_l24 (0, K) = some (.inr (.inr (), K')) := q1
      refine ⟨K', N', ?_, ?_, q3⟩
      · rw [cR, q1']
        rfl
      · unfold s_X12_readHouse
        rw [q2]
        rfl
theorem MRh_low {N N' D : fM} (hw : WFn D) (h : ∀ j, j < 645 → N' 124 j = N 124 j) (H : MRh N 124 0 D) : MRh N' 124 0 D :=
  MRh_move (M := N) (hc := 124) (ho := 0) hw (fun w w0 w1 => h _ (by omega)) H
theorem MRn_low {N N' D : fM} (hw : WFn D) (h : ∀ j, j < 28 → N' 126 j = N 126 j) (H : MRn N 126 0 D) : MRn N' 126 0 D :=
  MRn_move (M := N) (hc := 126) (ho := 0) hw (fun w w0 w1 => h _ (by omega)) H
theorem k_house {M : fM} (hI : Iv M) : ∃ v M1 M2, s_X11_house M = some (v, M1) ∧ M1 1000 = M 1000 ∧ s_X12_house M1 = some (v, M2) ∧ Iv M2 := by
  have hI0 := hI
  obtain ⟨q1, q2, q3, ⟨D, q4⟩, ⟨D0, q5⟩, ⟨D1, q6⟩⟩ := hI
  obtain ⟨L, hL⟩ : ∃ L : Nat, M 1 2 = (L : Int) := ⟨(M 1 2).toNat, by have := q2.2.1; omega⟩
  have hL2 : L ≤ 1240 := by have := q2.2.1; omega
  obtain ⟨Nz, -, -, -, -, hfirst⟩ := sim_houseL (M := M) (N := M) (b := M 2) (L := L) hL2 q2.2.2.2 rfl hL q1.2.2.2.2.1 q1.2.1 q2.2.2.1 (by rw [q2.1, hL]) (fun j hj => q1.2.2.2.2.2 j hj)
  rcases hfirst with ⟨K', N', i', r1, -, -, -, -, -, r19, -⟩ | ⟨K', Nx, r1, -, -, -⟩
  · exact k_house_ok hI0 r1 r19
  · obtain ⟨M1, hM1⟩ : ∃ M1, M1 = fup (fup K' 1 2 0) 0 14 (K' 1 9) := ⟨_, rfl⟩
    have f0 : fSame s_X3_readAll_mods M K' := s_X3_readAll_fr r1
    have fu : fSame [(1, some 2), (0, some 14)] K' M1 := by
      rw [hM1]
      exact fs_up (fs_up fs_refl (.inr (by decide))) (.inr (by decide))
    have f1 : fSame (s_X3_readAll_mods ++ [(1, some 2), (0, some 14)]) M M1 := fs_trans (fs_mono (fun x hx => List.mem_append_left _ hx) f0) (fs_mono (fun x hx => List.mem_append_right _ hx) fu)
    obtain ⟨N0, m0, fN0, n02, lo0, hcase⟩ := sim_houseL (M := M) (N := M1) (b := M 2) (L := L) hL2 q2.2.2.2 rfl hL q1.2.2.2.2.1 q1.2.1 (by rw [fs_row f1 123 (by decide)]; exact q2.2.2.1) (by rw [fs_at f1 122 2 (by decide), q2.1, hL]) (fun j hj => by rw [fs_row f1 127 (by decide)]; exact q1.2.2.2.2.2 j hj)
    rcases hcase with ⟨K2, N', i', r2, -⟩ | ⟨K2, N', r2, r3, hF, hlo⟩
    · rw [r1] at r2
      have e := (Prod.mk.inj (Option.some.inj r2)).1
      cases e
    · rw [r1] at r2
      have eK : K' = K2 := (Prod.mk.inj (Option.some.inj r2)).2
      subst eK
      obtain ⟨e9, e10, b9, b10⟩ := hF
      have hcl : s_X11_house M = some (-1 - K' 1 10, M1) := by
        unfold s_X11_house
        rw [r1, Option.bind_some, fel_r]
        unfold s_X11_house_j32 s_X11_house_j33x s_X10_empty
        rw [Option.bind_some, hM1]
        show (if ¬ (K' 1 9) = 0 then (if fin ((-1) - (K' 1 10)) then some ((-1) - (K' 1 10), fup (fup K' 1 2 0) 0 14 (K' 1 9)) else none) else some (K' 4 17, fup (fup K' 1 2 0) 0 14 (K' 1 9))) = _
        rw [if_pos (by omega), if_pos (by unfold fin; omega)]
      have hm2 : s_X12_house M1 = some (-1 - K' 1 10, N') := by
        rw [m0, r3, Option.bind_some]
        unfold rHouse
        rw [if_neg (show ¬ ¬ (0 : Int) = 0 by decide)]
        show (if fin ((-1) - (N' 122 16)) then some ((-1) - (N' 122 16), N') else none) = _
        rw [← e10, if_pos (by unfold fin; omega)]
      have f2 : fSame s_X12_house_mods M1 N' := s_X12_house_fr hm2
      have fAll : fSame ((s_X3_readAll_mods ++ [(1, some 2), (0, some 14)]) ++ s_X12_house_mods) M N' := fs_trans (fs_mono (fun x hx => List.mem_append_left _ hx) f1) (fs_mono (fun x hx => List.mem_append_right _ hx) f2)
      have fr : fSame s_X12_readHouse_mods N0 N' := s_X12_readHouse_fr r3
      have e124 : ∀ j, j < 645 → N' 124 j = M 124 j := fun j hj => by rw [hlo.1 j hj, lo0 j hj, fs_row f1 124 (by decide)]
      have e126 : ∀ j, j < 28 → N' 126 j = M 126 j := fun j hj => by rw [hlo.2 j hj, fs_row fN0 126 (by decide), fs_row f1 126 (by decide)]
      obtain ⟨p1, p2, p3, p4, p5, p6⟩ := q4
      refine ⟨-1 - K' 1 10, M1, N', hcl, fs_row f1 1000 (by decide), hm2, St_same fAll (by decide) q1, Tp_taken fAll (by decide) ?_ ?_ q2, Ou_but fAll (by decide) ?_ q3, ⟨D, CR_same fAll (by decide) p1, p2, MRh_low p2.1 e124 p3, MRn_low p2.1 e126 p4, MRr_row ?_ p5, ?_⟩, ⟨D0, Kp_same fAll (by decide) (by decide) q5⟩, ⟨D1, Kp_same fAll (by decide) (by decide) q6⟩⟩
      · rw [fs_row f2 1 (by decide), hM1]
        rfl
      · rw [fs_at fr 122 2 (by decide), n02]
      · rw [fs_row f2 0 (by decide), hM1, ← e9]
        rfl
      · rw [fs_row fr 125 (by decide), fs_row fN0 125 (by decide), fs_row f1 125 (by decide)]
      · rw [fs_at fr 122 10 (by decide), fs_at fN0 122 10 (by decide), fs_at f1 122 10 (by decide)]
        exact p6
