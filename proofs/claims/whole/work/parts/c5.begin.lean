/-! ===== a house, from its start to the end of its text ===== -/
theorem bgv0 {z : Nat} (h1 : ¬ (658 ≤ z ∧ z < 710)) (h2 : ¬ (980 ≤ z ∧ z < 1172)) (h3 : ¬ (813 ≤ z ∧ z ≤ 816)) : bgv z = 0 := by
  unfold bgv
  rw [if_neg h1, if_neg h2, if_neg (by omega), if_neg (by omega), if_neg (by omega), if_neg (by omega)]
theorem HD_start {K N : fM} (h29 : ∀ j, j < 12 → K 29 j = 0) (h30 : ∀ j, j < 52 → K 30 j = 20) (h31 : ∀ j, j < 52 → K 31 j = 0) (h38 : ∀ j, j < 36 → K 38 j = 0) (h32 : ∀ j, j < 6 → K 32 j = (fR1.getD j 0).toInt) (c13 : K 28 13 = 0) (c14 : K 28 14 = 0) (c15 : K 28 15 = 0) (c16 : K 28 16 = 0) (hN : ∀ z, 645 ≤ z → z < 1290 → N 124 z = bgv z) : HD (dr K) N := by
  have d13 : dr K 4 13 = 0 := c13
  have d14 : dr K 4 14 = 0 := c14
  have d15 : dr K 4 15 = 0 := c15
  have d16 : dr K 4 16 = 0 := c16
  have d5 : dr K 5 0 = 0 := h29 0 (by decide)
  have r0 : K 32 0 = 0 := (h32 0 (by decide)).trans (by decide)
  have r1 : K 32 1 = 0 := (h32 1 (by decide)).trans (by decide)
  have r2 : K 32 2 = 5 := (h32 2 (by decide)).trans (by decide)
  have r3 : K 32 3 = 60 := (h32 3 (by decide)).trans (by decide)
  have r4 : K 32 4 = 480 := (h32 4 (by decide)).trans (by decide)
  have r5 : K 32 5 = 1080 := (h32 5 (by decide)).trans (by decide)
  have b0 : ∀ z : Nat, 645 ≤ z → z < 1290 → ¬ (658 ≤ z ∧ z < 710) → ¬ (980 ≤ z ∧ z < 1172) → ¬ (813 ≤ z ∧ z ≤ 816) → N 124 z = 0 := fun z z0 z1 e1 e2 e3 => (hN z z0 z1).trans (bgv0 e1 e2 e3)
  refine ⟨?_, .inl d5, fun w w0 w1 => ?_, ?_, fun i i0 i1 => by omega, fun p p0 p1 => by omega, fun p p0 p1 => by omega, fun t t0 t1 => by omega, fun t u t0 t1 u0 u1 => ?_, ⟨fun z hz => ?_, fun h => by omega, fun z w hz w0 w1 => ?_, fun z w hz w0 w1 => ?_, fun z hz => ?_, fun z i c hz i0 i1 => by omega, fun z j hz j0 j1 => ?_, fun z j hz j0 j1 => ?_, fun z p w hz p0 p1 => by omega, fun z p n hz p0 p1 => by omega, fun z p g hz p0 p1 => by omega, fun z t c hz t0 t1 => by omega, fun z t u hz t0 t1 u0 u1 => ?_⟩, ⟨fun z p hz p0 p1 => by omega, fun z t hz t0 t1 => by omega, fun z u hz u0 u1 => by omega⟩, ⟨fun p p0 p1 => ⟨fun n n0 n1 => ?_, fun g g0 g1 => ?_, ?_, ?_⟩, fun t t0 t1 => ?_⟩⟩
  · unfold WFm
    omega
  · show (0 ≤ K 30 w.toNat ∧ K 30 w.toNat ≤ 40) ∧ (0 ≤ K 31 w.toNat ∧ K 31 w.toNat ≤ 1)
    rw [h30 _ (by omega), h31 _ (by omega)]
    decide
  · show (0 ≤ K 32 0 ∧ K 32 0 ≤ 99) ∧ (0 ≤ K 32 1 ∧ K 32 1 ≤ 999) ∧ (1 ≤ K 32 2 ∧ K 32 2 ≤ 20) ∧ (10 ≤ K 32 3 ∧ K 32 3 ≤ 120) ∧ (0 ≤ K 32 4 ∧ K 32 4 < K 32 5 ∧ K 32 5 ≤ 1440)
    omega
  · show 0 ≤ K 38 (t * 6 + u).toNat ∧ K 38 (t * 6 + u).toNat ≤ 99
    rw [h38 _ (by omega)]
    decide
  · rw [b0 z.toNat (by omega) (by omega) (by omega) (by omega) (by omega), d5]
    rfl
  · show _ = K 30 w.toNat
    rw [h30 _ (by omega), hN z.toNat (by omega) (by omega)]
    unfold bgv
    rw [if_pos (by omega)]
  · show _ = K 31 w.toNat
    rw [h31 _ (by omega), b0 z.toNat (by omega) (by omega) (by omega) (by omega) (by omega)]
  · rw [d16, b0 z.toNat (by omega) (by omega) (by omega) (by omega) (by omega)]
  · have hj : j = 0 ∨ j = 1 ∨ j = 2 ∨ j = 3 ∨ j = 4 ∨ j = 5 := by omega
    rcases hj with rfl | rfl | rfl | rfl | rfl | rfl
    · subst hz
      exact (hN 811 (by decide) (by decide)).trans ((show bgv 811 = 0 from rfl).trans r0.symm)
    · subst hz
      exact (hN 812 (by decide) (by decide)).trans ((show bgv 812 = 0 from rfl).trans r1.symm)
    · subst hz
      exact (hN 813 (by decide) (by decide)).trans ((show bgv 813 = 5 from rfl).trans r2.symm)
    · subst hz
      exact (hN 814 (by decide) (by decide)).trans ((show bgv 814 = 60 from rfl).trans r3.symm)
    · subst hz
      exact (hN 815 (by decide) (by decide)).trans ((show bgv 815 = 480 from rfl).trans r4.symm)
    · subst hz
      exact (hN 816 (by decide) (by decide)).trans ((show bgv 816 = 1080 from rfl).trans r5.symm)
  · have hj : j = 0 ∨ j = 1 ∨ j = 2 := by omega
    have e := b0 z.toNat (by omega) (by omega) (by omega) (by omega) (by omega)
    rw [e]
    rcases hj with rfl | rfl | rfl
    · exact d13.symm
    · exact d14.symm
    · exact d15.symm
  · show _ = K 38 (t * 6 + u).toNat
    rw [h38 _ (by omega), b0 z.toNat (by omega) (by omega) (by omega) (by omega) (by omega)]
  · rw [hN _ (by omega) (by omega)]
    unfold bgv
    rw [if_neg (by omega), if_pos (by omega)]
  · exact b0 _ (by omega) (by omega) (by omega) (by omega) (by omega)
  · exact b0 _ (by omega) (by omega) (by omega) (by omega) (by omega)
  · exact b0 _ (by omega) (by omega) (by omega) (by omega) (by omega)
  · exact b0 _ (by omega) (by omega) (by omega) (by omega) (by omega)
noncomputable def rHouse (y39 : Int × fM) : Option (Int × fM) := if ¬ y39.1 = 0 then (s_X12_house_l54 (0, y39.2)).bind (fun e54 => (s_X12_house_l85 (0, e54)).bind fun e85 => some ((e85 122 20), (fup e85 122 10 0))) else if fin ((-1) - (y39.2 122 16)) then some (((-1) - (y39.2 122 16)), y39.2) else none
theorem sim_house {M N : fM} {b : Nat → Int} {L : Nat} (hL : L ≤ 1240) (hb : ∀ j, -128 ≤ b j ∧ b j < 128) (k2 : M 2 = b) (k12 : M 1 2 = L) (k3 : ∀ j, j < 30 → M 3 j = kw5.getD j 0) (k1001 : ∀ j, j < 6 → M 1001 j = (fR1.getD j 0).toInt) (n123 : N 123 = b) (n2 : N 122 2 = L) (n127 : ∀ j, j < 30 → N 127 j = kw8.getD j 0) : ∃ N0, s_X12_house N = (s_X12_readHouse N0).bind rHouse ∧ fSame [(122, some 0), (122, some 2), (122, some 3), (122, some 4), (122, some 5), (122, some 11), (122, some 12), (122, some 13), (122, some 14), (122, some 15), (122, some 17), (122, some 19), (122, some 20), (124, none)] N N0 ∧ N0 122 2 = 0 ∧ (∀ j, j < 645 → N0 124 j = N 124 j) ∧ ((∃ K' N' i', s_X3_readAll M = some (.inl (), K') ∧ s_X12_readHouse N0 = some (1, N') ∧ HD (dr K') N' ∧ K' 28 17 = ((i' : Nat) : Int) ∧ N' 122 20 = (i' : Int) ∧ i' ≤ 620 ∧ K' 1 9 = 0 ∧ N' 122 15 = 0) ∨ (∃ K' N', s_X3_readAll M = some (.inr (), K') ∧ s_X12_readHouse N0 = some (0, N') ∧ Ft K' N')) := by
  obtain ⟨Ka, ca, a29, a30, a31, a38, a32, a13, a14, a15, a16, a17⟩ := c_clear M
  have fa : fSame s_X2_clear_28_mods M Ka := s_X2_clear_28_fr ca
  obtain ⟨K, hK⟩ : ∃ K, K = fup (fup (fup (fup (fup (fup Ka 27 2 0) 1 3 1200) 1 4 0) 1 5 0) 1 9 0) 1 10 0 := ⟨_, rfl⟩
  have fK : fSame [(27, some 2), (1, some 3), (1, some 4), (1, some 5), (1, some 9), (1, some 10)] Ka K := by
    rw [hK]
    exact fs_up (fs_up (fs_up (fs_up (fs_up (fs_up fs_refl (.inr (by decide))) (.inr (by decide))) (.inr (by decide))) (.inr (by decide))) (.inr (by decide))) (.inr (by decide))
  obtain ⟨Na, hNa⟩ : ∃ Na, Na = fup (fup (fup (fup (fup (fup (fup (fup N 122 0 0) 122 3 (N 122 2)) 122 2 0) 122 4 0) 122 5 1200) 122 15 0) 122 19 0) 122 20 0 := ⟨_, rfl⟩
  have fNa : fSame [(122, some 0), (122, some 3), (122, some 2), (122, some 4), (122, some 5), (122, some 15), (122, some 19), (122, some 20)] N Na := by
    rw [hNa]
    exact fs_up (fs_up (fs_up (fs_up (fs_up (fs_up (fs_up (fs_up fs_refl (.inr (by decide))) (.inr (by decide))) (.inr (by decide))) (.inr (by decide))) (.inr (by decide))) (.inr (by decide))) (.inr (by decide))) (.inr (by decide))
  obtain ⟨Nb, mb, fb, ob, vb⟩ := m_begin Na
  have nb : ∀ j, Nb 122 j = Na 122 j := fun j => by rw [fs_row fb 122 (by decide)]
  have hTp : TpM Nb b L 1200 := ⟨by rw [fs_row fb 123 (by decide), fs_row fNa 123 (by decide), n123], by rw [nb, hNa]; exact n2, hL, by rw [nb, hNa]; rfl, hb⟩
  obtain ⟨N0, mn, fn, hCu⟩ := m_next hTp (p := 0) (by rw [nb, hNa]; rfl) (Nat.zero_le _)
  have hPM : PM N0 b L 1200 := PM_fs fn (by decide) ⟨hTp, fun j hj => by rw [fs_row fb 127 (by decide), fs_row fNa 127 (by decide), n127 j hj]⟩
  have hPC : PC K b L 1200 := ⟨by rw [fs_row fK 2 (by decide), fs_row fa 2 (by decide), k2], by rw [fs_at fK 1 2 (by decide), fs_at fa 1 2 (by decide), k12], hL, by rw [hK]; rfl, fun j hj => by rw [fs_row fK 3 (by decide), fs_row fa 3 (by decide), k3 j hj]⟩
  have hB : StB K N0 b L 1200 0 := ⟨hPC, hPM, by rw [hK]; rfl, hCu, Nat.zero_le _, by rw [hK]; rfl, by rw [fs_at fn 122 15 (by decide), nb, hNa]; rfl⟩
  have hH : HD (dr K) N0 := HD_start (fun j hj => by rw [fs_row fK 29 (by decide), a29 j hj]) (fun j hj => by rw [fs_row fK 30 (by decide), a30 j hj]) (fun j hj => by rw [fs_row fK 31 (by decide), a31 j hj]) (fun j hj => by rw [fs_row fK 38 (by decide), a38 j hj]) (fun j hj => by rw [fs_row fK 32 (by decide), a32 j hj, k1001 j hj]) (by rw [fs_at fK 28 13 (by decide), a13]) (by rw [fs_at fK 28 14 (by decide), a14]) (by rw [fs_at fK 28 15 (by decide), a15]) (by rw [fs_at fK 28 16 (by decide), a16]) (fun z z0 z1 => by rw [fs_row fn 124 (by decide), vb z z0 z1])
  have hT : Tb K N0 := ⟨0, 0, by rw [hK]; rfl, by rw [fs_at fn 122 19 (by decide), nb, hNa]; rfl, by decide, by decide, rfl, rfl, rfl, rfl, rfl, rfl⟩
  have cR : s_X3_readAll M = (s_X3_readAll_l24 (0, K)).bind fun e24 => Sum.elim (fun x24 => some (.inl (), x24)) (fun v24 => some v24) e24 := by
    unfold s_X3_readAll
    rw [ca, Option.bind_some]
    unfold s_X10_begin
    rw [Option.bind_some, hK]
  refine ⟨N0, ?_, ?_, ?_, ?_, ?_⟩
  · unfold s_X12_house s_X12_taken
    rw [Option.bind_some]
    show (s_X12_begin (fup (fup (fup (fup (fup (fup (fup (fup N 122 0 0) 122 3 (N 122 2)) 122 2 0) 122 4 0) 122 5 1200) 122 15 0) 122 19 0) 122 20 0) 645).bind _ = _
    rw [← hNa, mb, Option.bind_some]
    show (s_X12_next Nb).bind _ = _
    rw [mn]
    rfl
  · exact fs_trans (fs_mono (by decide) fNa) (fs_trans (fs_mono (by decide) fb) (fs_mono (by decide) fn))
  · rw [fs_at fn 122 2 (by decide), nb, hNa]
    rfl
  · intro j hj
    rw [fs_row fn 124 (by decide), ob j hj, fs_row fNa 124 (by decide)]
  · rcases lines_loop (L + 1) K N0 0 0 (by omega) hB hH hT (by rw [fs_at fK 28 17 (by decide), a17]; rfl) (by rw [fs_at fn 122 20 (by decide), nb, hNa]; rfl) (by decide) with ⟨K', N', i', q1, q2, q3⟩ | ⟨K', N', q1, q2, q3⟩
    · left
      have q1' : s_X3_readAll_l24 (0, K) = some (.inr (.inl (), K')) := q1
      refine ⟨K', N', i', ?_, ?_, q3⟩
      · rw [cR, q1']
        rfl
      · unfold s_X12_readHouse
        rw [q2]
        rfl
    · right
      have q1' : s_X3_readAll_l24 (0, K) = some (.inr (.inr (), K')) := q1
      refine ⟨K', N', ?_, ?_, q3⟩
      · rw [cR, q1']
        rfl
      · unfold s_X12_readHouse
        rw [q2]
        rfl
