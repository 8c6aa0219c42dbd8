/-! ===== whose (by hand) ===== -/
theorem m_blame {N D : fM} (hm : MRh N 124 0 D) (hr : MRr N 125 0 D) (hn0 : N 122 10 = D 18 8) (hw : WF D) {p : Int} (hp : 0 ≤ p) (hp2 : p < D 4 13) {d : Int} (hd : 0 ≤ d) (hd2 : d < 364) (kn : Int) : ∃ v K, s_X12_blame N p d kn = some (v, K) ∧ blR D p d kn v ∧ fSame coL N K := by
  obtain ⟨N1, a1, a2⟩ := m_isBeyond hm hr hn0 hw hp hp2 hd hd2 kn
  have hm1 : MRh N1 124 0 D := MRh_row (fs_row a2 124 (by decide)) hm
  have hr1 : MRr N1 125 0 D := MRr_row (fs_row a2 125 (by decide)) hr
  have hn1 : N1 122 10 = D 18 8 := by rw [fs_at a2 122 10 (by decide)]; exact hn0
  have tb := tdV_b hw p d kn
  unfold s_X12_blame
  rw [a1, Option.bind_some, bit_ifn]
  by_cases x : byD D p d kn
  · have any := any_lat hw p d kn 7 (by omega)
    have anyb := (anyI_iff (fun j => isK D j 0 p kn ∧ d - 7 ≤ D 21 j.toNat ∧ D 21 j.toNat ≤ d) (nR D)).2
    rw [if_pos x, if_pos (by unfold fin; omega)]
    show ∃ v K, (s_X12_isTunedIn N1 p (d - 7) d kn).bind _ = _ ∧ _
    rw [m_isTunedIn hr1 hn1 hw.1, Option.bind_some]
    by_cases y0 : anyD D 0 p (d - 7) d kn = 0
    · rw [if_neg (fun e => e y0)]
      exact ⟨1, N1, rfl, ⟨.inl x, fun _ => ⟨.inr rfl, fun e => by have := any.mpr e; omega⟩⟩, a2⟩
    · have yl := any.mp (anyb.resolve_left y0)
      have ht := tb.2.2.1.mpr yl.1
      obtain ⟨N2, b1, b2, b3, b4⟩ := m_course hm1 hr1 hn1 hw hp hp2 d kn
      have hco := b3 yl.1
      obtain ⟨L1, L2⟩ := m_blameLoop hw hco.1 hco.2.2.2.2.2.2.2.2.2 hp hp2
      rw [if_pos y0, b1, Option.bind_some]
      show ∃ v K, (s_X12_blame_l39 N2 p d 0).bind _ = _ ∧ _
      by_cases w : lfB D p d kn
      · rw [L1 w]
        exact ⟨2, N2, rfl, ⟨.inl x, fun _ => ⟨.inl yl, fun _ => ⟨fun _ => rfl, fun e => absurd w e⟩⟩⟩, fs_trans a2 b4⟩
      · obtain ⟨N3, c1, c2, c3⟩ := m_passTo hw hco hp hp2 ht (tb.2.2.2 hd) hd2
        have dm := dmV_b hw ht (show tdV D (lat D 0 p d kn) < 364 by omega) hd hd2
        have wk1 := (hw.2.2.1 (d / 7) (by omega) (by omega)).1
        have wk2 := (hw.2.2.1 (tdV D (lat D 0 p d kn) / 7) (by omega) (by omega)).1
        have ed : N3 124 (13 + d / 7).toNat = D 6 (d / 7).toNat := mh_damp c2.1 (d / 7) rfl (by omega) (by omega)
        have e28 : N3 122 28 = D 6 (tdV D (lat D 0 p d kn) / 7).toNat := c2.2.2.2.2.2.2.2.1
        have key : s_X12_blame_l105 N3 p d (dmV D (tdV D (lat D 0 p d kn)) d) (0, 0) = some (grV (fun n => udV D p d kn (tdV D (lat D 0 p d kn)) (lfV D (lat D 0 p d kn)) n d 0) 12) := by
          unfold s_X12_blame_l105
          refine fLp_for (fun i => (grV (fun n => udV D p d kn (tdV D (lat D 0 p d kn)) (lfV D (lat D 0 p d kn)) n d 0) i, (i : Int))) 12 (fun i hi => ?_) rfl
          have bb := (udV_b hw (q := d) (kn := kn) (more := 0) hp hp2 (n := (i : Int)) (by omega) (by omega) ht (tb.2.2.2 hd) hd2 (by omega) (lfV_bn hw p d kn i hi)).1
          show s_X12_blame_b105 N3 p d (grV (fun n => udV D p d kn (tdV D (lat D 0 p d kn)) (lfV D (lat D 0 p d kn)) n d 0) i) (dmV D (tdV D (lat D 0 p d kn)) d) (i : Int) = some (Sum.inl (grV (fun n => udV D p d kn (tdV D (lat D 0 p d kn)) (lfV D (lat D 0 p d kn)) n d 0) (i + 1), (i : Int) + 1))
          rw [grV_s]
          unfold s_X12_blame_b105
          have hf : fin ((i : Int) + 1) := by unfold fin; omega
          have es : ofV D p d kn (tdV D (lat D 0 p d kn)) (lfV D (lat D 0 p d kn)) i d 0 - dmV D (tdV D (lat D 0 p d kn)) d = udV D p d kn (tdV D (lat D 0 p d kn)) (lfV D (lat D 0 p d kn)) i d 0 := by unfold ofV; omega
          rw [if_neg (by omega), m_offsetOf hw c2 hp hp2 (by omega) (by omega) ht (tb.2.2.2 hd) hd2 (by omega) (lfV_bn hw p d kn i hi), Option.bind_some, es, if_pos (by unfold fin; omega), m_plain N3 (by omega) (by omega), Option.bind_some, if_pos hf, if_pos hf]
          by_cases h : absI (udV D p d kn (tdV D (lat D 0 p d kn)) (lfV D (lat D 0 p d kn)) i d 0) ≤ grV (fun n => udV D p d kn (tdV D (lat D 0 p d kn)) (lfV D (lat D 0 p d kn)) n d 0) i
          · rw [if_pos h, if_neg (by omega)]
          · rw [if_neg h, if_pos (by omega)]
        rw [L2 w]
        show ∃ v K, (s_X12_passTo N2 d).bind _ = _ ∧ _
        rw [c1, Option.bind_some]
        have ee : (5 * (N3 124 (13 + fdiv d 7).toNat - N3 122 28)) = dmV D (tdV D (lat D 0 p d kn)) d := by
          rw [fdiv7 hd (by omega), ed, e28]
          rfl
        have gg : fin (13 + fdiv d 7) ∧ (0 ≤ 13 + fdiv d 7 ∧ 13 + fdiv d 7 < 1290) ∧ fin (N3 124 (13 + fdiv d 7).toNat - N3 122 28) ∧ fin (5 * (N3 124 (13 + fdiv d 7).toNat - N3 122 28)) := by
          rw [fdiv7 hd (by omega), ed, e28]
          unfold fin
          omega
        show ∃ v K, (if fin (13 + fdiv d 7) ∧ (0 ≤ 13 + fdiv d 7 ∧ 13 + fdiv d 7 < 1290) ∧ fin (N3 124 (13 + fdiv d 7).toNat - N3 122 28) ∧ fin (5 * (N3 124 (13 + fdiv d 7).toNat - N3 122 28)) then (s_X12_blame_l105 N3 p d (5 * (N3 124 (13 + fdiv d 7).toNat - N3 122 28)) (0, 0)).bind (fun e105 => (s_X12_of N3 p 3).bind (fun y155 => if y155 < e105 then some (4, N3) else some (3, N3))) else none) = _ ∧ _
        rw [if_pos gg, ee, key, Option.bind_some, m_of c2.1 hw.1 hp hp2 (by decide) (by decide), Option.bind_some]
        refine ⟨if D 10 (p * 10 + 3).toNat < grV (fun n => udV D p d kn (tdV D (lat D 0 p d kn)) (lfV D (lat D 0 p d kn)) n d 0) 12 then 4 else 3, N3, ?_, ⟨.inl x, fun _ => ⟨.inl yl, fun _ => ⟨fun e => absurd e w, fun _ => rfl⟩⟩⟩, fs_trans a2 (fs_trans b4 (fs_mono (by decide) c3))⟩
        split <;> rfl
  · rw [if_neg x]
    exact ⟨0, N1, rfl, ⟨.inr rfl, fun e => absurd e x⟩, a2⟩
theorem k_whose {M : fM} (hI : Iv M) (a k kn : Int) (hk0 : fin k) : ∃ v M1 M2, s_X11_whose M a k kn = some (v, M1) ∧ M1 1000 = M 1000 ∧ s_X12_whose M1 a k kn = some (v, M2) ∧ Iv M2 := by
  obtain ⟨D, hc, hw, hm, hnm, hr, hn0⟩ := hI.2.2.2.1
  obtain ⟨hnn, hn2⟩ := nR_c hw.1
  by_cases h : ((0 ≤ a ∧ a < D 4 13) ∧ D 10 (a * 10 + 0).toNat = 2) ∧ (-1 ≤ kn ∧ kn < 364)
  · obtain ⟨⟨ha, hh⟩, hk⟩ := h
    generalize hC : cntI (fun i => isK D i 5 a kn) = C
    have Cs : ∀ i, C (i + 1) = if isK D i 5 a kn then C i + 1 else C i := fun i => by rw [← hC]; rfl
    have Cb : ∀ i : Nat, 0 ≤ C i ∧ C i ≤ i := fun i => by rw [← hC]; exact cntI_b _ i
    have C0 : C 0 = 0 := by rw [← hC]; rfl
    -- the class's search
    have cS : ∀ i : Nat, i < nR D → ¬ (isK D i 5 a kn ∧ C i = k) → s_X0_concertAt_b6 M a k kn (C i) (i : Int) = some (.inl (C (i + 1), (i : Int) + 1)) := by
      intro i hi hp
      have := Cb i
      unfold s_X0_concertAt_b6
      rw [CR_r hc 18 (by decide) (by decide), if_neg (by omega), c_isOf hc (by omega) (by omega), Option.bind_some, bit_if, Cs]
      by_cases x : isK D i 5 a kn
      · rw [if_pos x, if_pos x, if_pos (fun e => hp ⟨x, e⟩), if_pos (by unfold fin; omega)]
      · rw [if_neg x, if_neg x, if_pos (by unfold fin; omega)]
    -- the reference's
    have mS : 0 ≤ k → ∀ N : fM, MRr N 125 0 D → N 122 10 = D 18 8 → ∀ i : Nat, i < nR D → ¬ (isK D i 5 a kn ∧ C i = k) → s_X12_whose_b42 N a kn (k - C i) (i : Int) = some (.inl (k - C (i + 1), (i : Int) + 1, N)) := by
      intro hk1 N hrN hnN i hi hp
      have := Cb i
      have on := (hw.2.2.2.2.2.2.2.2.2 (i : Int) (by omega) (by omega)).2.2.1
      unfold s_X12_whose_b42
      rw [hnN, if_neg (by omega), m_isOf hrN hw.1 (by omega) (by omega), Option.bind_some, bit_ifn, Cs]
      by_cases x : isK D i 5 a kn
      · have hne : ¬ C i = k := fun e => hp ⟨x, e⟩
        rw [if_pos ⟨x, by omega⟩, if_pos x, if_pos (by omega), if_pos (by have := hk0; unfold fin at this ⊢; omega), show k - C i + -1 = k - (C i + 1) by omega]
      · rw [if_neg (fun e => x e.1), if_neg x, if_pos (by unfold fin; omega)]
    by_cases hx : ∃ i, i < nR D ∧ (isK D i 5 a kn ∧ C i = k)
    · obtain ⟨m, m1, m2, m3⟩ := first_of (nR D) hx
      have on := (hw.2.2.2.2.2.2.2.2.2 (m : Int) (by omega) (by omega)).2.2.1
      have hCm := Cb m
      have e1 : s_X0_concertAt M a k kn = some (m : Int) := by
        unfold s_X0_concertAt s_X0_concertAt_l6
        have := fLp_for (b := fun s : Int × Int => s_X0_concertAt_b6 M a k kn s.1 s.2) (fun i => (C i, (i : Int))) m (e := .inr (m : Int)) (fun i hi => cS i (by omega) (m3 i hi)) (by
          show s_X0_concertAt_b6 M a k kn (C m) (m : Int) = _
          unfold s_X0_concertAt_b6
          rw [CR_r hc 18 (by decide) (by decide), if_neg (by omega), c_isOf hc (by omega) (by omega), Option.bind_some, bit_if, if_pos m2.1, if_neg (fun e => e m2.2)])
        rw [C0] at this
        rw [show ((0 : Int), (0 : Int)) = ((0 : Int), ((0 : Nat) : Int)) from rfl, this]
        rfl
      obtain ⟨v, K, b1, b2, b3⟩ := c_blame hc hw (i := (m : Int)) (kn := kn) (by omega) (by omega)
      rw [m2.1.2.1] at b2
      have hm1 : MRh (fup K 122 0 0) 124 0 D := MRh_row (by rw [fup_ne (by decide), fs_row b3 124 (by decide)]) hm
      have hr1 : MRr (fup K 122 0 0) 125 0 D := MRr_row (by rw [fup_ne (by decide), fs_row b3 125 (by decide)]) hr
      have hn1 : fup K 122 0 0 122 10 = D 18 8 := by rw [show fup K 122 0 0 122 10 = K 122 10 from rfl, fs_row b3 122 (by decide)]; exact hn0
      obtain ⟨w, N1, d1, d2, d3⟩ := m_blame hm1 hr1 hn1 hw ha.1 ha.2 on.1 (show D 21 (m : Int).toNat < 364 by omega) kn
      have evw := blR_uniq b2 d2
      subst evw
      refine ⟨v, K, N1, ?_, fs_row b3 1000 (by decide), ?_, Iv_same d3 (by decide) (Iv_thrown (Iv_same b3 (by decide) hI))⟩
      · unfold s_X11_whose
        rw [c_isHall hc hw.1, Option.bind_some, bit_if, if_pos ⟨ha, hh⟩, c_isKnowing, Option.bind_some, bit_ifn, if_pos hk, e1, Option.bind_some, if_pos (by omega), b1]
        rfl
      · unfold s_X12_whose s_X12_whose_l42
        rw [m_isPiano hm1 hw.1, m_isKnown, Option.bind_some, bit_if, if_pos ha, Option.bind_some, bit_if, if_pos hk, m_of hm1 hw.1 ha.1 ha.2 (by decide) (by decide), Option.bind_some, if_neg (fun e => e hh), if_pos (by omega)]
        have := fLp_for (b := fun s : Int × Int × fM => s_X12_whose_b42 s.2.2 a kn s.1 s.2.1) (fun i => (k - C i, (i : Int), fup K 122 0 0)) m (e := .inr (v, N1)) (fun i hi => mS (by omega) _ hr1 hn1 i (by omega) (m3 i hi)) (by
          show s_X12_whose_b42 (fup K 122 0 0) a kn (k - C m) (m : Int) = _
          unfold s_X12_whose_b42
          rw [hn1, if_neg (by omega), m_isOf hr1 hw.1 (by omega) (by omega), Option.bind_some, bit_ifn, if_pos ⟨m2.1, by omega⟩, if_neg (by omega), if_pos (by unfold fin; omega), mr_on hr1 (m : Int) rfl (by omega) (by omega), d1]
          rfl)
        rw [C0, Int.sub_zero] at this
        rw [show (k, (0 : Int), fup K 122 0 0) = (k, ((0 : Nat) : Int), fup K 122 0 0) from rfl, this]
        rfl
    · have hx' : ∀ i, i < nR D → ¬ (isK D i 5 a kn ∧ C i = k) := fun i hi e => hx ⟨i, hi, e⟩
      have e1 : s_X0_concertAt M a k kn = some (-1) := by
        unfold s_X0_concertAt s_X0_concertAt_l6
        have := fLp_for (b := fun s : Int × Int => s_X0_concertAt_b6 M a k kn s.1 s.2) (fun i => (C i, (i : Int))) (nR D) (e := .inl ()) (fun i hi => cS i hi (hx' i hi)) (by
          show s_X0_concertAt_b6 M a k kn (C (nR D)) ((nR D : Nat) : Int) = _
          unfold s_X0_concertAt_b6
          rw [CR_r hc 18 (by decide) (by decide), if_pos (by omega)])
        rw [C0] at this
        rw [show ((0 : Int), (0 : Int)) = ((0 : Int), ((0 : Nat) : Int)) from rfl, this]
        rfl
      have hm1 : MRh (fup M 122 0 0) 124 0 D := MRh_row (fup_ne (by decide)) hm
      have hr1 : MRr (fup M 122 0 0) 125 0 D := MRr_row (fup_ne (by decide)) hr
      refine ⟨-1, M, fup M 122 0 0, ?_, rfl, ?_, Iv_thrown hI⟩
      · unfold s_X11_whose
        rw [c_isHall hc hw.1, Option.bind_some, bit_if, if_pos ⟨ha, hh⟩, c_isKnowing, Option.bind_some, bit_ifn, if_pos hk, e1, Option.bind_some, if_neg (by omega)]
      · unfold s_X12_whose s_X12_whose_l42
        rw [m_isPiano hm1 hw.1, m_isKnown, Option.bind_some, bit_if, if_pos ha, Option.bind_some, bit_if, if_pos hk, m_of hm1 hw.1 ha.1 ha.2 (by decide) (by decide), Option.bind_some, if_neg (fun e => e hh)]
        by_cases hkn : 0 ≤ k
        · rw [if_pos hkn]
          have := fLp_for (b := fun s : Int × Int × fM => s_X12_whose_b42 s.2.2 a kn s.1 s.2.1) (fun i => (k - C i, (i : Int), fup M 122 0 0)) (nR D) (e := .inl (fup M 122 0 0)) (fun i hi => mS hkn _ hr1 hn0 i hi (hx' i hi)) (by
            show s_X12_whose_b42 (fup M 122 0 0) a kn (k - C (nR D)) ((nR D : Nat) : Int) = _
            unfold s_X12_whose_b42
            rw [show fup M 122 0 0 122 10 = M 122 10 from rfl, hn0, if_pos (by omega)])
          rw [C0, Int.sub_zero] at this
          rw [show (k, (0 : Int), fup M 122 0 0) = (k, ((0 : Nat) : Int), fup M 122 0 0) from rfl, this]
          rfl
        · rw [if_neg hkn]
  · have hm1 : MRh (fup M 122 0 0) 124 0 D := MRh_row (fup_ne (by decide)) hm
    refine ⟨-1, M, fup M 122 0 0, ?_, rfl, ?_, Iv_thrown hI⟩
    · unfold s_X11_whose
      rw [c_isHall hc hw.1, Option.bind_some, bit_if]
      by_cases x1 : (0 ≤ a ∧ a < D 4 13) ∧ D 10 (a * 10 + 0).toNat = 2
      · rw [if_pos x1, c_isKnowing, Option.bind_some, bit_ifn, if_neg (fun e => h ⟨x1, e⟩)]
      · rw [if_neg x1]
    · unfold s_X12_whose
      rw [m_isPiano hm1 hw.1, m_isKnown, Option.bind_some, bit_if]
      by_cases x1 : 0 ≤ a ∧ a < D 4 13
      · rw [if_pos x1, Option.bind_some, bit_if]
        by_cases x3 : -1 ≤ kn ∧ kn < 364
        · rw [if_pos x3, m_of hm1 hw.1 x1.1 x1.2 (by decide) (by decide), Option.bind_some, if_pos (fun e => h ⟨⟨x1, e⟩, x3⟩)]
        · rw [if_neg x3]
      · rw [if_neg x1]
