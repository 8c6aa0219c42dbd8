/-! ===== records ===== -/
theorem HR_of {D N : fM} (hw : WFn D) (hh : MRh N 124 0 D) (hm : MRn N 126 0 D) : HR D N := by
  refine ⟨hw.1, hw.2.1, hh.2.2.2.2.2.2.2.1 172 0 (by decide) (by decide) (by decide), hh.2.2.2.2.2.2.2.1 173 1 (by decide) (by decide) (by decide), fun p hp => ?_, fun t ht => ?_, fun p p0 p1 => ?_⟩
  · have := hm.1 (0 + (p : Int)) (p : Int) rfl (by omega) hp
    rw [show (0 + (p : Int)).toNat = p by omega] at this
    exact this
  · have := hm.2.1 (0 + 16 + (t : Int)) (t : Int) rfl (by omega) ht
    rw [show (0 + 16 + (t : Int)).toNat = 16 + t by omega] at this
    exact this
  · have := hh.2.2.2.2.2.2.2.2.1 (0 + 175 + 10 * p + 0) p 0 rfl p0 p1 (by decide) (by decide)
    rw [show 0 + 175 + 10 * p + 0 = 175 + 10 * p by omega] at this
    exact this
theorem RowR_of {D N : fM} {n : Nat} (hq : WFq D) (hr : MRr N 125 0 D) (hn : D 18 8 = (n : Int)) : ∀ q, q < n → RowR D N q := by
  intro q hqn
  have tq : ((q : Int)).toNat = q := rfl
  have w := hq (q : Int) (by omega) (by omega)
  rw [tq] at w
  obtain ⟨w1, w2, w3, w4, w5, w6, w7, w8, w9, w10⟩ := w
  obtain ⟨r1, r2, r3, r4, r5, r6, r7, r8⟩ := hr
  have q0 : (0 : Int) ≤ (q : Int) := by omega
  have q1 : (q : Int) < D 18 8 := by omega
  have s0 : N 125 (19 * q) = D 19 q := by
    have := r1 (0 + 19 * (q : Int)) (q : Int) rfl q0 q1
    rw [tq, show (0 + 19 * (q : Int)).toNat = 19 * q by omega] at this
    exact this
  have s1 : N 125 (19 * q + 1) = D 20 q := by
    have := r2 (0 + 19 * (q : Int) + 1) (q : Int) rfl q0 q1
    rw [tq, show (0 + 19 * (q : Int) + 1).toNat = 19 * q + 1 by omega] at this
    exact this
  have s2 : N 125 (19 * q + 2) = D 21 q := by
    have := r3 (0 + 19 * (q : Int) + 2) (q : Int) rfl q0 q1
    rw [tq, show (0 + 19 * (q : Int) + 2).toNat = 19 * q + 2 by omega] at this
    exact this
  have s3 : N 125 (19 * q + 3) = D 22 q := by
    have := r4 (0 + 19 * (q : Int) + 3) (q : Int) rfl q0 q1
    rw [tq, show (0 + 19 * (q : Int) + 3).toNat = 19 * q + 3 by omega] at this
    exact this
  have s4 : D 19 q = 0 ∨ D 19 q = 2 ∨ D 19 q = 3 ∨ D 19 q = 6 → N 125 (19 * q + 4) = D 23 q := fun h => by
    have := r5 (0 + 19 * (q : Int) + 4) (q : Int) rfl q0 q1 h
    rw [tq, show (0 + 19 * (q : Int) + 4).toNat = 19 * q + 4 by omega] at this
    exact this
  have s5 : D 19 q = 6 → N 125 (19 * q + 5) = D 24 q := fun h => by
    have := r6 (0 + 19 * (q : Int) + 5) (q : Int) rfl q0 q1 h
    rw [tq, show (0 + 19 * (q : Int) + 5).toNat = 19 * q + 5 by omega] at this
    exact this
  have s6 : N 125 (19 * q + 6) = D 25 q := by
    have := r7 (0 + 19 * (q : Int) + 6) (q : Int) rfl q0 q1
    rw [tq, show (0 + 19 * (q : Int) + 6).toNat = 19 * q + 6 by omega] at this
    exact this
  refine ⟨D 19 q, D 20 q, (D 25 q).toNat, w1, rfl, s0, w2, rfl, s1, w10, ⟨s4, s5, w7, w8, w9⟩, ⟨w3, w4, s2, s3⟩, by omega, ⟨by omega, by rw [s6]; omega, fun j hj => ?_⟩⟩
  have i1 : ((q : Int) * 12 + (j : Int)).toNat = 12 * q + j := by omega
  have a1 := r8 (0 + 19 * (q : Int) + 7 + (j : Int)) (q : Int) (j : Int) rfl q0 q1 (by omega) (by omega)
  rw [i1, show (0 + 19 * (q : Int) + 7 + (j : Int)).toNat = 19 * q + 7 + j by omega] at a1
  have a2 := w6 (j : Int) (by omega) (by omega)
  rw [i1] at a2
  exact ⟨a1, a2⟩
theorem WFq_of {K N : fM} {n : Nat} (h : ∀ q, q < n → RowR K N q) (hn : K 18 8 = (n : Int)) : WFq K := by
  intro i i0 i1
  obtain ⟨q, rfl⟩ : ∃ q : Nat, i = (q : Int) := ⟨i.toNat, by omega⟩
  rw [show ((q : Int)).toNat = q from rfl]
  obtain ⟨kd, x, a, h1, h2, h3, h4, h5, h6, h7, hA, hW, h8, hT⟩ := h q (by omega)
  subst h2
  subst h5
  refine ⟨h1, h4, hW.1, hW.2.1, by rw [hT.1]; omega, fun j j0 j1 => ?_, hA.2.2.1, hA.2.2.2.1, hA.2.2.2.2, h7⟩
  obtain ⟨m, rfl⟩ : ∃ m : Nat, j = (m : Int) := ⟨j.toNat, by omega⟩
  rw [show ((q : Int) * 12 + (m : Int)).toNat = 12 * q + m by omega]
  exact (hT.2.2 m (by omega)).2
theorem MRr_of {K N : fM} {n : Nat} (h : ∀ q, q < n → RowR K N q) (hn : K 18 8 = (n : Int)) : MRr N 125 0 K := by
  have key : ∀ i : Int, 0 ≤ i → i < K 18 8 → ∃ q : Nat, i = (q : Int) ∧ RowR K N q := fun i i0 i1 => ⟨i.toNat, by omega, h _ (by omega)⟩
  refine ⟨fun z i hz i0 i1 => ?_, fun z i hz i0 i1 => ?_, fun z i hz i0 i1 => ?_, fun z i hz i0 i1 => ?_, fun z i hz i0 i1 hc => ?_, fun z i hz i0 i1 hc => ?_, fun z i hz i0 i1 => ?_, fun z i j hz i0 i1 j0 j1 => ?_⟩
  all_goals
    obtain ⟨q, rfl, kd, x, a, h1, h2, h3, h4, h5, h6, h7, hA, hW, h8, hT⟩ := key i i0 i1
    have tq : ((q : Int)).toNat = q := rfl
    rw [tq] at *
  · rw [show z.toNat = 19 * q by omega, h3, h2]
  · rw [show z.toNat = 19 * q + 1 by omega, h6, h5]
  · rw [show z.toNat = 19 * q + 2 by omega, hW.2.2.1]
  · rw [show z.toNat = 19 * q + 3 by omega, hW.2.2.2]
  · rw [show z.toNat = 19 * q + 4 by omega]
    rw [show ((q : Int)).toNat = q from rfl, h2] at hc
    exact hA.1 hc
  · rw [show z.toNat = 19 * q + 5 by omega]
    rw [show ((q : Int)).toNat = q from rfl, h2] at hc
    exact hA.2.1 hc
  · rw [show z.toNat = 19 * q + 6 by omega, hT.2.1, hT.1]
  · obtain ⟨m, rfl⟩ : ∃ m : Nat, j = (m : Int) := ⟨j.toNat, by omega⟩
    rw [show z.toNat = 19 * q + 7 + m by omega, show ((q : Int) * 12 + (m : Int)).toNat = 12 * q + m by omega]
    exact (hT.2.2 m (by omega)).1
noncomputable def rRecs (y30 : Int × fM) : Option (Int × fM) := if ¬ y30.1 = 0 then some ((y30.2 122 21), (fup y30.2 122 10 (y30.2 122 21))) else if fin ((-1) - (y30.2 122 16)) then some (((-1) - (y30.2 122 16)), y30.2) else none
theorem sim_recs {M N : fM} {b : Nat → Int} {L n : Nat} (hL : L ≤ 1240) (hb : ∀ j, -128 ≤ b j ∧ b j < 128) (k2 : M 2 = b) (k12 : M 1 2 = L) (k3 : ∀ j, j < 30 → M 3 j = kw5.getD j 0) (n123 : N 123 = b) (n2 : N 122 2 = L) (n127 : ∀ j, j < 30 → N 127 j = kw8.getD j 0) (hH : HR M N) (hR : ∀ q, q < n → RowR M N q) (hn : n ≤ 200) (m18 : M 18 8 = (n : Int)) (n10 : N 122 10 = (n : Int)) : ∃ N0, s_X12_records N = (s_X12_readRecords N0).bind rRecs ∧ fSame [(122, some 0), (122, some 2), (122, some 3), (122, some 4), (122, some 5), (122, some 11), (122, some 12), (122, some 13), (122, some 14), (122, some 15), (122, some 17), (122, some 21)] N N0 ∧ N0 122 2 = 0 ∧ ((∃ K' N' n', s_X5_readAll M = some (.inl ((n' : Nat) : Int), K') ∧ s_X12_readRecords N0 = some (1, N') ∧ n' ≤ 200 ∧ (∀ q, q < n' → RowR K' N' q) ∧ N' 122 21 = (n' : Int) ∧ K' 1 9 = 0 ∧ N' 122 15 = 0) ∨ (∃ K' N', s_X5_readAll M = some (.inr (), K') ∧ s_X12_readRecords N0 = some (0, N') ∧ Ft K' N' ∧ LoK n M K' ∧ LoN n N N')) := by
  obtain ⟨K, hK⟩ : ∃ K, K = fup (fup (fup (fup (fup M 1 3 700) 1 4 0) 1 5 0) 1 9 0) 1 10 0 := ⟨_, rfl⟩
  have fK : fSame [(1, some 3), (1, some 4), (1, some 5), (1, some 9), (1, some 10)] M K := by
    rw [hK]
    exact fs_up (fs_up (fs_up (fs_up (fs_up fs_refl (.inr (by decide))) (.inr (by decide))) (.inr (by decide))) (.inr (by decide))) (.inr (by decide))
  obtain ⟨Na, hNa⟩ : ∃ Na, Na = fup (fup (fup (fup (fup (fup (fup N 122 0 0) 122 3 (N 122 2)) 122 2 0) 122 4 0) 122 5 700) 122 15 0) 122 21 (N 122 10) := ⟨_, rfl⟩
  have fNa : fSame [(122, some 0), (122, some 3), (122, some 2), (122, some 4), (122, some 5), (122, some 15), (122, some 21)] N Na := by
    rw [hNa]
    exact fs_up (fs_up (fs_up (fs_up (fs_up (fs_up (fs_up fs_refl (.inr (by decide))) (.inr (by decide))) (.inr (by decide))) (.inr (by decide))) (.inr (by decide))) (.inr (by decide))) (.inr (by decide))
  have hTp : TpM Na b L 700 := ⟨by rw [fs_row fNa 123 (by decide), n123], by rw [hNa]; exact n2, hL, by rw [hNa]; rfl, hb⟩
  obtain ⟨N0, mn, fn, hCu⟩ := m_next hTp (p := 0) (by rw [hNa]; rfl) (Nat.zero_le _)
  have hPM : PM N0 b L 700 := PM_fs fn (by decide) ⟨hTp, fun j hj => by rw [fs_row fNa 127 (by decide), n127 j hj]⟩
  have hPC : PC K b L 700 := ⟨by rw [fs_row fK 2 (by decide), k2], by rw [fs_at fK 1 2 (by decide), k12], hL, by rw [hK]; rfl, fun j hj => by rw [fs_row fK 3 (by decide), k3 j hj]⟩
  have hB : StB K N0 b L 700 0 := ⟨hPC, hPM, by rw [hK]; rfl, hCu, Nat.zero_le _, by rw [hK]; rfl, by rw [fs_at fn 122 15 (by decide), hNa]; rfl⟩
  have fN0 : fSame [(122, some 0), (122, some 2), (122, some 3), (122, some 4), (122, some 5), (122, some 11), (122, some 12), (122, some 13), (122, some 14), (122, some 15), (122, some 17), (122, some 21)] N N0 := fs_trans (fs_mono (by decide) fNa) (fs_mono (by decide) fn)
  have lk0 : LoK n M K := LoK_of (RK_fs (n := n) fK (by decide)) (Nat.le_refl n)
  have ln0 : LoN n N N0 := LoN_of (RN_fs (n := n) fN0 (by decide)) (Nat.le_refl n)
  have hH0 : HR K N0 := HR_fs fK (by decide) fN0 (by decide) hH
  have hR0 : ∀ q, q < n → RowR K N0 q := fun q hq => RowR_keep hq lk0 ln0 (fs_at fK 4 13 (by decide)) (fs_at fK 4 14 (by decide)) (fs_row fK 10 (by decide)) (hR q hq)
  have n21 : N0 122 21 = (n : Int) := by
    rw [fs_at fn 122 21 (by decide), hNa]
    exact n10
  have cR : s_X5_readAll M = (s_X5_readAll_l20 ((n : Int), ((0 : Nat) : Int), K)).bind fun e20 => Sum.elim (fun x20 => some (.inl x20.1, x20.2)) (fun v20 => some v20) e20 := by
    unfold s_X5_readAll s_X10_begin
    rw [Option.bind_some]
    show (s_X5_readAll_l20 (M 18 8, 0, fup (fup (fup (fup (fup M 1 3 700) 1 4 0) 1 5 0) 1 9 0) 1 10 0)).bind _ = _
    rw [← hK, m18]
    rfl
  refine ⟨N0, ?_, fN0, ?_, ?_⟩
  · unfold s_X12_records s_X12_taken
    rw [Option.bind_some]
    show (s_X12_next (fup (fup (fup (fup (fup (fup (fup N 122 0 0) 122 3 (N 122 2)) 122 2 0) 122 4 0) 122 5 700) 122 15 0) 122 21 (N 122 10))).bind _ = _
    rw [← hNa, mn]
    rfl
  · rw [fs_at fn 122 2 (by decide), hNa]
    rfl
  · rcases recs_loop (L + 1) K N0 0 0 n (by omega) hB hH0 hR0 hn n21 (by decide) with ⟨K', N', n', q1, q2, q3, q4, q5, q6, q7, -, -⟩ | ⟨K', N', q1, q2, q3, q4, q5⟩
    · left
      refine ⟨K', N', n', ?_, ?_, q3, q4, q5, q6, q7⟩
      · rw [cR, q1]
        rfl
      · unfold s_X12_readRecords
        rw [q2]
        rfl
    · right
      refine ⟨K', N', ?_, ?_, q3, LoK_trans lk0 q4, LoN_trans ln0 q5⟩
      · rw [cR, q1]
        rfl
      · unfold s_X12_readRecords
        rw [q2]
        rfl
theorem MRh_D {D E M : fM} (H : MRh M 124 0 D) (r : ∀ k, 4 ≤ k → k ≤ 17 → E k = D k) : MRh M 124 0 E := by
  unfold MRh at H ⊢
  rw [r 4 (by decide) (by decide), r 5 (by decide) (by decide), r 6 (by decide) (by decide), r 7 (by decide) (by decide), r 8 (by decide) (by decide), r 9 (by decide) (by decide), r 10 (by decide) (by decide), r 11 (by decide) (by decide), r 12 (by decide) (by decide), r 13 (by decide) (by decide), r 14 (by decide) (by decide)]
  exact H
theorem MRn_D {D E M : fM} (H : MRn M 126 0 D) (r : ∀ k, 4 ≤ k → k ≤ 17 → E k = D k) : MRn M 126 0 E := by
  unfold MRn at H ⊢
  rw [r 4 (by decide) (by decide), r 15 (by decide) (by decide), r 16 (by decide) (by decide), r 17 (by decide) (by decide)]
  exact H
theorem WF_D {D E : fM} (h : WF D) (r : ∀ k, 4 ≤ k → k ≤ 17 → E k = D k) (h18 : 0 ≤ E 18 8 ∧ E 18 8 ≤ 200) (hq : WFq E) : WF E := by
  obtain ⟨h1, h2, h3, h4, h5, h6, h7, h8, h9, -⟩ := h
  have r4 := r 4 (by decide) (by decide)
  refine ⟨?_, ?_, ?_, ?_, ?_, ?_, ?_, ?_, ?_, hq⟩
  · refine ⟨?_, ?_, ?_, ?_, h18⟩
    · rw [r4]; exact h1.1
    · rw [r4]; exact h1.2.1
    · rw [r4]; exact h1.2.2.1
    · rw [r4]; exact h1.2.2.2.1
  · unfold WFt at h2 ⊢
    rw [r 5 (by decide) (by decide)]
    exact h2
  · unfold WFw at h3 ⊢
    rw [r 6 (by decide) (by decide), r 7 (by decide) (by decide)]
    exact h3
  · unfold WFr at h4 ⊢
    rw [r 8 (by decide) (by decide)]
    exact h4
  · unfold WFf at h5 ⊢
    rw [r4, r 9 (by decide) (by decide)]
    exact h5
  · unfold WFp at h6 ⊢
    rw [r4, r 10 (by decide) (by decide)]
    exact h6
  · unfold WFs at h7 ⊢
    rw [r4, r 11 (by decide) (by decide), r 12 (by decide) (by decide)]
    exact h7
  · unfold WFu at h8 ⊢
    rw [r4, r 13 (by decide) (by decide)]
    exact h8
  · unfold WFc at h9 ⊢
    rw [r 14 (by decide) (by decide)]
    exact h9
theorem k_records {M : fM} (hI : Iv M) : ∃ v M1 M2, s_X11_records M = some (v, M1) ∧ M1 1000 = M 1000 ∧ s_X12_records M1 = some (v, M2) ∧ Iv M2 := by
  obtain ⟨q1, q2, q3, ⟨D, q4⟩, ⟨D0, q5⟩, ⟨D1, q6⟩⟩ := hI
  obtain ⟨p1, p2, p3, p4, p5, p6⟩ := q4
  obtain ⟨L, hL⟩ : ∃ L : Nat, M 1 2 = (L : Int) := ⟨(M 1 2).toNat, by have := q2.2.1; omega⟩
  have hL2 : L ≤ 1240 := by have := q2.2.1; omega
  have hw := p2
  obtain ⟨w1, -, -, -, -, -, -, -, -, w10⟩ := hw
  obtain ⟨n, hn⟩ : ∃ n : Nat, D 18 8 = (n : Int) := ⟨(D 18 8).toNat, by have := w1.2.2.2.2; omega⟩
  have hn2 : n ≤ 200 := by have := w1.2.2.2.2; omega
  have eD : ∀ k, 4 ≤ k → k ≤ 26 → M k = D k := fun k a c => p1 k a c
  have m18 : M 18 8 = (n : Int) := by rw [eD 18 (by decide) (by decide), hn]
  have hHD : HR D M := HR_of w1 p3 p4
  have hHM : HR M M := by
    unfold HR at hHD ⊢
    rw [eD 4 (by decide) (by decide), eD 10 (by decide) (by decide), eD 15 (by decide) (by decide), eD 16 (by decide) (by decide)]
    exact hHD
  have loD : LoK n D M := ⟨fun k j a c _ => by rw [eD k (by omega) (by omega)], fun j _ => by rw [eD 26 (by decide) (by decide)]⟩
  have hRM : ∀ q, q < n → RowR M M q := fun q hq => RowR_keep hq loD (fun j _ => rfl) (by rw [eD 4 (by decide) (by decide)]) (by rw [eD 4 (by decide) (by decide)]) (eD 10 (by decide) (by decide)) (RowR_of w10 p5 hn q hq)
  obtain ⟨Nz, -, -, -, hfirst⟩ := sim_recs (M := M) (N := M) (b := M 2) (L := L) (n := n) hL2 q2.2.2.2 rfl hL q1.2.2.2.2.1 q2.2.2.1 (by rw [q2.1, hL]) (fun j hj => q1.2.2.2.2.2 j hj) hHM hRM hn2 m18 (by rw [p6, hn])
  -- the class's answer, and the reference behind it
  have again : ∀ (K' M1 : fM) (l : List (Nat × Option Nat)), fSame l M M1 → (∀ x ∈ l, ¬ (122 ≤ x.1 ∧ x.1 ≤ 127)) → ∃ N0, s_X12_records M1 = (s_X12_readRecords N0).bind rRecs ∧ fSame [(122, some 0), (122, some 2), (122, some 3), (122, some 4), (122, some 5), (122, some 11), (122, some 12), (122, some 13), (122, some 14), (122, some 15), (122, some 17), (122, some 21)] M1 N0 ∧ N0 122 2 = 0 ∧ ((∃ K' N' n', s_X5_readAll M = some (.inl ((n' : Nat) : Int), K') ∧ s_X12_readRecords N0 = some (1, N') ∧ n' ≤ 200 ∧ (∀ q, q < n' → RowR K' N' q) ∧ N' 122 21 = (n' : Int) ∧ K' 1 9 = 0 ∧ N' 122 15 = 0) ∨ (∃ K' N', s_X5_readAll M = some (.inr (), K') ∧ s_X12_readRecords N0 = some (0, N') ∧ Ft K' N' ∧ LoK n M K' ∧ LoN n M1 N')) := by
    intro K' M1 l f hl
    have row : ∀ k, 122 ≤ k → k ≤ 127 → M1 k = M k := fun k a c => fs_row f k (fun x hx e => hl x hx (by omega))
    refine sim_recs (M := M) (N := M1) (b := M 2) (L := L) (n := n) hL2 q2.2.2.2 rfl hL q1.2.2.2.2.1 ?_ ?_ (fun j hj => ?_) ?_ (fun q hq => ?_) hn2 m18 ?_
    · rw [row 123 (by decide) (by decide)]; exact q2.2.2.1
    · rw [row 122 (by decide) (by decide), q2.1, hL]
    · rw [row 127 (by decide) (by decide)]; exact q1.2.2.2.2.2 j hj
    · unfold HR at hHM ⊢
      rw [row 124 (by decide) (by decide), row 126 (by decide) (by decide)]
      exact hHM
    · exact RowR_keep hq ⟨fun _ _ _ _ _ => rfl, fun _ _ => rfl⟩ (fun j _ => by rw [row 125 (by decide) (by decide)]) rfl rfl rfl (hRM q hq)
    · rw [row 122 (by decide) (by decide), p6, hn]
  rcases hfirst with ⟨K', Nx, n', r1, -, hn', -, -, r19, -⟩ | ⟨K', Nx, r1, -, -, -, -⟩
  · -- read whole
    have f0 : fSame s_X5_readAll_mods M K' := s_X5_readAll_fr r1
    obtain ⟨M1, hM1⟩ : ∃ M1, M1 = fup (fup (fup K' 18 8 (n' : Int)) 1 2 0) 0 14 (K' 1 9) := ⟨_, rfl⟩
    have fu : fSame [(18, some 8), (1, some 2), (0, some 14)] K' M1 := by
      rw [hM1]
      exact fs_up (fs_up (fs_up fs_refl (.inr (by decide))) (.inr (by decide))) (.inr (by decide))
    have f1 : fSame (s_X5_readAll_mods ++ [(18, some 8), (1, some 2), (0, some 14)]) M M1 := fs_trans (fs_mono (fun x hx => List.mem_append_left _ hx) f0) (fs_mono (fun x hx => List.mem_append_right _ hx) fu)
    have hcl : s_X11_records M = some ((n' : Int), M1) := by
      obtain ⟨z, hz⟩ : ∃ z : Int, z = (n' : Int) := ⟨_, rfl⟩
      rw [← hz] at r1 hM1 ⊢
      unfold s_X11_records
      rw [r1, Option.bind_some, fel_l]
      unfold s_X11_records_j18 s_X10_empty
      rw [Option.bind_some, hM1]
      show (if ¬ (K' 1 9) = 0 then (if fin ((-1) - (K' 1 10)) then some ((-1) - (K' 1 10), fup (fup (fup K' 18 8 z) 1 2 0) 0 14 (K' 1 9)) else none) else some (z, fup (fup (fup K' 18 8 z) 1 2 0) 0 14 (K' 1 9))) = _
      rw [if_neg (fun e => e r19)]
    obtain ⟨N0, m0, fN0, n02, hcase⟩ := again K' M1 _ f1 (by decide)
    rcases hcase with ⟨K2, N', n2, r2, r3, hn3, hR3, e21, -, e15⟩ | ⟨K2, N', r2, -, -, -, -⟩
    · rw [r1] at r2
      have eK : K' = K2 := (Prod.mk.inj (Option.some.inj r2)).2
      have en : n' = n2 := by
        have := Sum.inl.inj (Prod.mk.inj (Option.some.inj r2)).1
        omega
      subst eK
      subst en
      obtain ⟨M2, hM2⟩ : ∃ M2, M2 = fup N' 122 10 (n' : Int) := ⟨_, rfl⟩
      have hm2 : s_X12_records M1 = some ((n' : Int), M2) := by
        rw [m0, r3, Option.bind_some]
        unfold rRecs
        rw [if_pos (show ¬ (1 : Int) = 0 by decide)]
        show some (N' 122 21, fup N' 122 10 (N' 122 21)) = _
        rw [e21, hM2]
      have f2 : fSame s_X12_records_mods M1 M2 := s_X12_records_fr hm2
      have fAll : fSame ((s_X5_readAll_mods ++ [(18, some 8), (1, some 2), (0, some 14)]) ++ s_X12_records_mods) M M2 := fs_trans (fs_mono (fun x hx => List.mem_append_left _ hx) f1) (fs_mono (fun x hx => List.mem_append_right _ hx) f2)
      have fr : fSame s_X12_readRecords_mods N0 N' := s_X12_readRecords_fr r3
      have rD : ∀ k, 4 ≤ k → k ≤ 17 → M2 k = D k := fun k a c => by
        rw [fs_row fAll k (fun x hx e => by have := (by decide : ∀ x ∈ ((s_X5_readAll_mods ++ [(18, some 8), (1, some 2), (0, some 14)]) ++ s_X12_records_mods), ¬ (4 ≤ x.1 ∧ x.1 ≤ 17)) x hx; omega), eD k a (by omega)]
      have rK : ∀ k, 19 ≤ k → k ≤ 26 → M2 k = K' k := fun k a c => by
        rw [fs_row f2 k (fun x hx e => by have := (by decide : ∀ x ∈ s_X12_records_mods, ¬ (19 ≤ x.1 ∧ x.1 ≤ 26)) x hx; omega), hM1, fup_ne (by omega), fup_ne (by omega), fup_ne (by omega)]
      have r18 : M2 18 8 = (n' : Int) := by
        rw [fs_row f2 18 (by decide), hM1]
        rfl
      have k4 : K' 4 = D 4 := by rw [fs_row f0 4 (by decide), eD 4 (by decide) (by decide)]
      have k10 : K' 10 = D 10 := by rw [fs_row f0 10 (by decide), eD 10 (by decide) (by decide)]
      have hRows : ∀ q, q < n' → RowR M2 M2 q := fun q hq => RowR_keep hq ⟨fun k j a c _ => by rw [rK k a (by omega)], fun j _ => by rw [rK 26 (by decide) (by decide)]⟩ (fun j _ => by rw [hM2, fup_ne (by decide)]) (by rw [rD 4 (by decide) (by decide), k4]) (by rw [rD 4 (by decide) (by decide), k4]) (by rw [rD 10 (by decide) (by decide), k10]) (hR3 q hq)
      have e124 : M2 124 = M 124 := fs_row fAll 124 (by decide)
      have e126 : M2 126 = M 126 := fs_row fAll 126 (by decide)
      refine ⟨(n' : Int), M1, M2, hcl, fs_row f1 1000 (by decide), hm2, St_same fAll (by decide) q1, Tp_taken fAll (by decide) ?_ ?_ q2, Ou_but fAll (by decide) ?_ q3, ⟨M2, fun k _ _ => rfl, WF_D p2 rD (by rw [r18]; omega) (WFq_of hRows r18), MRh_D (MRh_row e124 p3) rD, MRn_D (MRn_row e126 p4) rD, MRr_of hRows r18, ?_⟩, ⟨D0, Kp_same fAll (by decide) (by decide) q5⟩, ⟨D1, Kp_same fAll (by decide) (by decide) q6⟩⟩
      · rw [fs_row f2 1 (by decide), hM1]
        rfl
      · rw [hM2]
        show N' 122 2 = 0
        rw [fs_at fr 122 2 (by decide), n02]
      · have x1 : M2 0 14 = 0 := by
          rw [fs_row f2 0 (by decide), hM1]
          exact r19
        have x2 : M2 122 15 = 0 := by
          rw [hM2]
          exact e15
        rw [x1, x2]
      · rw [r18, hM2]
        rfl
    · rw [r1] at r2
      have e := (Prod.mk.inj (Option.some.inj r2)).1
      cases e
  · -- a fault
    have f0 : fSame s_X5_readAll_mods M K' := s_X5_readAll_fr r1
    obtain ⟨M1, hM1⟩ : ∃ M1, M1 = fup (fup K' 1 2 0) 0 14 (K' 1 9) := ⟨_, rfl⟩
    have fu : fSame [(1, some 2), (0, some 14)] K' M1 := by
      rw [hM1]
      exact fs_up (fs_up fs_refl (.inr (by decide))) (.inr (by decide))
    have f1 : fSame (s_X5_readAll_mods ++ [(1, some 2), (0, some 14)]) M M1 := fs_trans (fs_mono (fun x hx => List.mem_append_left _ hx) f0) (fs_mono (fun x hx => List.mem_append_right _ hx) fu)
    obtain ⟨N0, m0, fN0, n02, hcase⟩ := again K' M1 _ f1 (by decide)
    rcases hcase with ⟨K2, N', n2, r2, -⟩ | ⟨K2, N', r2, r3, hF, hlk, hln⟩
    · rw [r1] at r2
      have e := (Prod.mk.inj (Option.some.inj r2)).1
      cases e
    · rw [r1] at r2
      have eK : K' = K2 := (Prod.mk.inj (Option.some.inj r2)).2
      subst eK
      obtain ⟨e9, e10, b9, b10⟩ := hF
      have hcl : s_X11_records M = some (-1 - K' 1 10, M1) := by
        unfold s_X11_records
        rw [r1, Option.bind_some, fel_r]
        unfold s_X11_records_j18x s_X10_empty
        rw [Option.bind_some, hM1]
        show (if ¬ (K' 1 9) = 0 then (if fin ((-1) - (K' 1 10)) then some ((-1) - (K' 1 10), fup (fup K' 1 2 0) 0 14 (K' 1 9)) else none) else some (K' 18 8, fup (fup K' 1 2 0) 0 14 (K' 1 9))) = _
        rw [if_pos (by omega), if_pos (by unfold fin; omega)]
      have hm2 : s_X12_records M1 = some (-1 - K' 1 10, N') := by
        rw [m0, r3, Option.bind_some]
        unfold rRecs
        rw [if_neg (show ¬ ¬ (0 : Int) = 0 by decide)]
        show (if fin ((-1) - (N' 122 16)) then some ((-1) - (N' 122 16), N') else none) = _
        rw [← e10, if_pos (by unfold fin; omega)]
      have f2 : fSame s_X12_records_mods M1 N' := s_X12_records_fr hm2
      have fAll : fSame ((s_X5_readAll_mods ++ [(1, some 2), (0, some 14)]) ++ s_X12_records_mods) M N' := fs_trans (fs_mono (fun x hx => List.mem_append_left _ hx) f1) (fs_mono (fun x hx => List.mem_append_right _ hx) f2)
      have fr : fSame s_X12_readRecords_mods N0 N' := s_X12_readRecords_fr r3
      have rD : ∀ k, 4 ≤ k → k ≤ 17 → N' k = D k := fun k a c => by
        rw [fs_row fAll k (fun x hx e => by have := (by decide : ∀ x ∈ ((s_X5_readAll_mods ++ [(1, some 2), (0, some 14)]) ++ s_X12_records_mods), ¬ (4 ≤ x.1 ∧ x.1 ≤ 17)) x hx; omega), eD k a (by omega)]
      have rK : ∀ k, 19 ≤ k → k ≤ 26 → N' k = K' k := fun k a c => by
        rw [fs_row f2 k (fun x hx e => by have := (by decide : ∀ x ∈ s_X12_records_mods, ¬ (19 ≤ x.1 ∧ x.1 ≤ 26)) x hx; omega), hM1, fup_ne (by omega), fup_ne (by omega)]
      have r18 : N' 18 8 = (n : Int) := by rw [fs_at fAll 18 8 (by decide), m18]
      have hRows : ∀ q, q < n → RowR N' N' q := fun q hq => RowR_keep hq (K := M) (N := M) ⟨fun k j a c d => by rw [rK k a (by omega), hlk.1 k j a c d], fun j d => by rw [rK 26 (by decide) (by decide), hlk.2 j d]⟩ (fun j d => by rw [hln j d, fs_row f1 125 (by decide)]) (by rw [rD 4 (by decide) (by decide), eD 4 (by decide) (by decide)]) (by rw [rD 4 (by decide) (by decide), eD 4 (by decide) (by decide)]) (by rw [rD 10 (by decide) (by decide), eD 10 (by decide) (by decide)]) (hRM q hq)
      have e124 : N' 124 = M 124 := fs_row fAll 124 (by decide)
      have e126 : N' 126 = M 126 := fs_row fAll 126 (by decide)
      refine ⟨-1 - K' 1 10, M1, N', hcl, fs_row f1 1000 (by decide), hm2, St_same fAll (by decide) q1, Tp_taken fAll (by decide) ?_ ?_ q2, Ou_but fAll (by decide) ?_ q3, ⟨N', fun k _ _ => rfl, WF_D p2 rD (by rw [r18]; omega) (WFq_of hRows r18), MRh_D (MRh_row e124 p3) rD, MRn_D (MRn_row e126 p4) rD, MRr_of hRows r18, ?_⟩, ⟨D0, Kp_same fAll (by decide) (by decide) q5⟩, ⟨D1, Kp_same fAll (by decide) (by decide) q6⟩⟩
      · rw [fs_row f2 1 (by decide), hM1]
        rfl
      · rw [fs_at fr 122 2 (by decide), n02]
      · rw [fs_row f2 0 (by decide), hM1, ← e9]
        rfl
      · rw [r18, fs_at fr 122 10 (by decide), fs_at fN0 122 10 (by decide), fs_at f1 122 10 (by decide), p6, hn]
