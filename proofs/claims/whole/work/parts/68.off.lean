/-! ===== offset, off, due (by hand) ===== -/
theorem lat_c3 {D : fM} (hw : WF D) (p q kn : Int) : lat D 0 p q kn = -1 ∨ (0 ≤ lat D 0 p q kn ∧ lat D 0 p q kn < D 18 8 ∧ D 19 (lat D 0 p q kn).toNat = 0) := by
  rcases lat_c hw 0 p q kn with e | e
  · exact .inl e
  · exact .inr ⟨e.1, e.2.1, e.2.2.1⟩
theorem lfV_bn {D : fM} (hw : WF D) (p q kn : Int) : ∀ n : Nat, n < 12 → -1098 ≤ lfV D (lat D 0 p q kn) n ∧ lfV D (lat D 0 p q kn) n ≤ 1098 := fun n hn =>
  lfV_b hw (lat_c3 hw p q kn) (by omega) (by omega)
abbrev lkL : List (Nat × Option Nat) := [(43, some 5), (43, some 6), (44, none), (45, none), (46, none)]
abbrev coL : List (Nat × Option Nat) := [(122, some 24), (122, some 25), (122, some 26), (122, some 27), (122, some 28), (128, none), (129, none)]
theorem c_wasTuned {M : fM} : s_X8_wasTuned M = some (bit (0 ≤ M 43 6)) := by
  unfold s_X8_wasTuned bit
  split <;> split <;> first | rfl | (exfalso; omega)
/-- course and passing on to day, at once -/
theorem m_to {N D : fM} (hm : MRh N 124 0 D) (hr : MRr N 125 0 D) (hn0 : N 122 10 = D 18 8) (hw : WF D) {p : Int} (hp : 0 ≤ p) (hp2 : p < D 4 13) {q : Int} (hq : 0 ≤ q) (hq2 : q < 364) (kn : Int) : ∃ N1, s_X12_course N p q kn = some (bit (0 ≤ lat D 0 p q kn), N1) ∧ fSame coL N N1 ∧ Cp N1 D p q kn ∧ (0 ≤ lat D 0 p q kn → (∀ x, ∃ N2, s_X12_passTo (fup N1 122 0 x) q = some ((), N2) ∧ Co N2 D p q kn (tdV D (lat D 0 p q kn)) (lfV D (lat D 0 p q kn)) q ∧ fSame [(122, some 25), (122, some 26)] (fup N1 122 0 x) N2) ∧ ∃ N2, s_X12_passTo N1 q = some ((), N2) ∧ Co N2 D p q kn (tdV D (lat D 0 p q kn)) (lfV D (lat D 0 p q kn)) q ∧ fSame coL N1 N2) := by
  obtain ⟨N1, a1, a2, a3, a4⟩ := m_course hm hr hn0 hw hp hp2 q kn
  have tb := tdV_b hw p q kn
  refine ⟨N1, a1, a4, a2, fun h0 => ⟨fun x => ?_, ?_⟩⟩
  · obtain ⟨mh, mr, e10, e27, e24, e25, e26, e28, e128, e129⟩ := a3 h0
    have hco : Co (fup N1 122 0 x) D p q kn (tdV D (lat D 0 p q kn)) (lfV D (lat D 0 p q kn)) (tdV D (lat D 0 p q kn)) := ⟨MRh_row (fup_ne (by decide)) mh, MRr_row (fup_ne (by decide)) mr, e10, e27, e24, e25, e26, e28, fun y hy => by rw [fup_ne (by decide)]; exact e128 y hy, fun n hn => by rw [fup_ne (by decide)]; exact e129 n hn⟩
    exact m_passTo hw hco hp hp2 (tb.2.2.1.mpr h0) (tb.2.2.2 hq) hq2
  · obtain ⟨N2, b1, b2, b3⟩ := m_passTo hw (a3 h0) hp hp2 (tb.2.2.1.mpr h0) (tb.2.2.2 hq) hq2
    exact ⟨N2, b1, b2, fs_mono (by decide) b3⟩
theorem k_offset {M : fM} (hI : Iv M) (a n d kn : Int) : ∃ k M1 v M2, s_L_offset_0_155 M a n d kn = some (k, M1) ∧ M1 1000 = M 1000 ∧ s_X12_offset M1 a n d kn = some (v, M2) ∧ M2 122 0 = k ∧ (k = 0 → M2 155 0 = v) ∧ Iv M2 := by
  obtain ⟨D, hc, hw, hm, hnm, hr, hn0⟩ := hI.2.2.2.1
  by_cases h : ((0 ≤ a ∧ a < D 4 13) ∧ (0 ≤ d ∧ d < 364) ∧ (-1 ≤ kn ∧ kn < 364)) ∧ (0 ≤ n ∧ n < 12)
  · obtain ⟨⟨ha, hd, hk⟩, hn⟩ := h
    obtain ⟨K, c1, c2, c3⟩ := c_look hc hw ha.1 ha.2 d kn
    have tb := tdV_b hw a d kn
    have bn := lfV_b hw (L := lat D 0 a d kn) (n := n) (lat_c3 hw a d kn) hn.1 hn.2
    by_cases h0 : 0 ≤ lat D 0 a d kn
    · have ht := tb.2.2.1.mpr h0
      have bb := (udV_b hw (q := d) (kn := kn) (more := 0) (b := lfV D (lat D 0 a d kn)) ha.1 ha.2 hn.1 hn.2 ht (tb.2.2.2 hd.1) hd.2 (by omega) bn).1
      have dm := dmV_b hw ht (show tdV D (lat D 0 a d kn) < 364 by omega) hd.1 hd.2
      generalize hv : ofV D a d kn (tdV D (lat D 0 a d kn)) (lfV D (lat D 0 a d kn)) n d 0 = v
      have s1 : fSame [(43, some 5), (43, some 6), (44, none), (45, none), (46, none), (155, some 0)] M (fup K 155 0 v) := fs_up (fs_mono (by decide) c3) (.inr (by decide))
      obtain ⟨N1, g1, g2, g3, g4⟩ := m_to (N := fup (fup K 155 0 v) 122 0 1) (MRh_row (by rw [fup_ne (by decide), fs_row s1 124 (by decide)]) hm) (MRr_row (by rw [fup_ne (by decide), fs_row s1 125 (by decide)]) hr) (by rw [show fup (fup K 155 0 v) 122 0 1 122 10 = fup K 155 0 v 122 10 from rfl, fs_row s1 122 (by decide)]; exact hn0) hw ha.1 ha.2 hd.1 hd.2 kn
      obtain ⟨N2, p1, p2, p3⟩ := (g4 h0).1 0
      have s2 : fSame [(122, some 0), (122, some 24), (122, some 25), (122, some 26), (122, some 27), (122, some 28), (128, none), (129, none)] (fup K 155 0 v) N2 := fs_trans (fs_trans (fs_up fs_refl (.inr (by decide)) : fSame _ _ (fup (fup K 155 0 v) 122 0 1)) (fs_mono (by decide) g2)) (fs_trans (fs_up fs_refl (.inr (by decide)) : fSame _ _ (fup N1 122 0 0)) (fs_mono (by decide) p3))
      refine ⟨0, fup K 155 0 v, v, N2, ?_, fs_row s1 1000 (by decide), ?_, ?_, fun _ => ?_, Iv_same s2 (by decide) (Iv_same s1 (by decide) hI)⟩
      · unfold s_L_offset_0_155 s_X11_offset
        rw [c_isAsked hc, Option.bind_some, bit_if, if_pos ⟨ha, hd, hk⟩, c_isWithin, Option.bind_some, bit_ifn, if_pos hn, c1, Option.bind_some, c_wasTuned, Option.bind_some, bit_ifn]
        show ((if 0 ≤ K 43 6 then (s_X8_offsetAt K n d 0).bind (fun y64 => some (Sum.inl y64, K)) else some (Sum.inr (), K)).bind _) = _
        rw [c2.2.2.1, if_pos ht]
        unfold s_X8_offsetAt
        rw [c_undamped hw c2 ha.1 ha.2 hn.1 hn.2 ht (tb.2.2.2 hd.1) hd.2 (by omega) bn, Option.bind_some, c_damp hw c2 ht (by omega) hd.1 hd.2, Option.bind_some, if_pos (by unfold fin; omega), ← hv]
        rfl
      · unfold s_X12_offset
        have hm1 : MRh (fup (fup K 155 0 v) 122 0 1) 124 0 D := MRh_row (by rw [fup_ne (by decide), fs_row s1 124 (by decide)]) hm
        rw [m_isPiano hm1 hw.1, m_isIn, m_isDay, m_isKnown, Option.bind_some, bit_if, if_pos ha, Option.bind_some, bit_if, if_pos (by omega), Option.bind_some, bit_if, if_pos hd, Option.bind_some, bit_if, if_pos hk, g1, Option.bind_some, bit_ifn, if_pos h0]
        show (s_X12_passTo (fup N1 122 0 0) d).bind _ = _
        rw [p1, Option.bind_some]
        show (s_X12_offsetOf N2 n d 0).bind _ = _
        rw [m_offsetOf hw p2 ha.1 ha.2 hn.1 hn.2 ht (tb.2.2.2 hd.1) hd.2 (by omega) bn, hv]
        rfl
      · rw [fs_at p3 122 0 (by decide), fup_eq]; rfl
      · rw [fs_row s2 155 (by decide), fup_eq]; rfl
    · have ht : ¬ 0 ≤ tdV D (lat D 0 a d kn) := fun e => h0 (tb.2.2.1.mp e)
      obtain ⟨N1, g1, g2, g3, g4⟩ := m_to (N := fup K 122 0 1) (MRh_row (by rw [fup_ne (by decide), fs_row c3 124 (by decide)]) hm) (MRr_row (by rw [fup_ne (by decide), fs_row c3 125 (by decide)]) hr) (by rw [show fup K 122 0 1 122 10 = K 122 10 from rfl, fs_row c3 122 (by decide)]; exact hn0) hw ha.1 ha.2 hd.1 hd.2 kn
      refine ⟨1, K, 0, N1, ?_, fs_row c3 1000 (by decide), ?_, ?_, fun e => absurd e (by decide), Iv_same g2 (by decide) (Iv_thrown (Iv_same c3 (by decide) hI))⟩
      · unfold s_L_offset_0_155 s_X11_offset
        rw [c_isAsked hc, Option.bind_some, bit_if, if_pos ⟨ha, hd, hk⟩, c_isWithin, Option.bind_some, bit_ifn, if_pos hn, c1, Option.bind_some, c_wasTuned, Option.bind_some, bit_ifn]
        show ((if 0 ≤ K 43 6 then _ else some (Sum.inr (), K)).bind _) = _
        rw [c2.2.2.1, if_neg ht]
        rfl
      · unfold s_X12_offset
        have hm1 : MRh (fup K 122 0 1) 124 0 D := MRh_row (by rw [fup_ne (by decide), fs_row c3 124 (by decide)]) hm
        rw [m_isPiano hm1 hw.1, m_isIn, m_isDay, m_isKnown, Option.bind_some, bit_if, if_pos ha, Option.bind_some, bit_if, if_pos (by omega), Option.bind_some, bit_if, if_pos hd, Option.bind_some, bit_if, if_pos hk, g1, Option.bind_some, bit_ifn, if_neg h0]
      · rw [fs_at g2 122 0 (by decide), fup_eq]; rfl
  · refine ⟨1, M, 0, fup M 122 0 1, ?_, rfl, ?_, by rw [fup_eq]; rfl, fun e => absurd e (by decide), Iv_thrown hI⟩
    · unfold s_L_offset_0_155 s_X11_offset
      rw [c_isAsked hc, Option.bind_some, bit_if]
      by_cases x1 : (0 ≤ a ∧ a < D 4 13) ∧ (0 ≤ d ∧ d < 364) ∧ (-1 ≤ kn ∧ kn < 364)
      · rw [if_pos x1, c_isWithin, Option.bind_some, bit_ifn, if_neg (fun e => h ⟨x1, e⟩)]
        rfl
      · rw [if_neg x1]
        rfl
    · unfold s_X12_offset
      have hm1 : MRh (fup M 122 0 1) 124 0 D := MRh_row (fup_ne (by decide)) hm
      rw [m_isPiano hm1 hw.1, m_isIn, m_isDay, m_isKnown, Option.bind_some, bit_if]
      by_cases x1 : 0 ≤ a ∧ a < D 4 13
      · rw [if_pos x1, Option.bind_some, bit_if]
        by_cases x2 : 0 ≤ n ∧ n ≤ 11
        · rw [if_pos x2, Option.bind_some, bit_if]
          by_cases x3 : 0 ≤ d ∧ d < 364
          · rw [if_pos x3, Option.bind_some, bit_if, if_neg (fun e => h ⟨⟨x1, x3, e⟩, by omega⟩)]
          · rw [if_neg x3]
        · rw [if_neg x2]
      · rw [if_neg x1]
theorem k_off {M : fM} (hI : Iv M) (a d kn : Int) : ∃ v M1 M2, s_X11_off M a d kn = some (v, M1) ∧ M1 1000 = M 1000 ∧ s_X12_off M1 a d kn = some (v, M2) ∧ Iv M2 := by
  obtain ⟨D, hc, hw, hm, hnm, hr, hn0⟩ := hI.2.2.2.1
  by_cases h : (0 ≤ a ∧ a < D 4 13) ∧ (0 ≤ d ∧ d < 364) ∧ (-1 ≤ kn ∧ kn < 364)
  · obtain ⟨ha, hd, hk⟩ := h
    obtain ⟨K, c1, c2, c3⟩ := c_look hc hw ha.1 ha.2 d kn
    have tb := tdV_b hw a d kn
    have bn := lfV_bn hw a d kn
    have hm1 : MRh (fup K 122 0 0) 124 0 D := MRh_row (by rw [fup_ne (by decide), fs_row c3 124 (by decide)]) hm
    obtain ⟨N1, g1, g2, g3, g4⟩ := m_to (N := fup K 122 0 0) hm1 (MRr_row (by rw [fup_ne (by decide), fs_row c3 125 (by decide)]) hr) (by rw [show fup K 122 0 0 122 10 = K 122 10 from rfl, fs_row c3 122 (by decide)]; exact hn0) hw ha.1 ha.2 hd.1 hd.2 kn
    have hI1 : Iv N1 := Iv_same g2 (by decide) (Iv_thrown (Iv_same c3 (by decide) hI))
    by_cases h0 : 0 ≤ lat D 0 a d kn
    · have ht := tb.2.2.1.mpr h0
      obtain ⟨N2, p1, p2, p3⟩ := (g4 h0).2
      refine ⟨grV (fun n => ofV D a d kn (tdV D (lat D 0 a d kn)) (lfV D (lat D 0 a d kn)) n d 0) 12, K, N2, ?_, fs_row c3 1000 (by decide), ?_, Iv_same p3 (by decide) hI1⟩
      · unfold s_X11_off
        rw [c_isAsked hc, Option.bind_some, bit_ifn, if_pos ⟨ha, hd, hk⟩, c1, Option.bind_some, c_wasTuned, Option.bind_some, bit_if]
        show (if 0 ≤ K 43 6 then (s_X8_greatestAt K d 0).bind (fun y39 => some (y39, K)) else some (-1, K)) = _
        rw [c2.2.2.1, if_pos ht, c_greatest hw c2 ha.1 ha.2 ht (tb.2.2.2 hd.1) hd.2 (by omega) bn]
        rfl
      · unfold s_X12_off
        rw [m_isPiano hm1 hw.1, m_isDay, m_isKnown, Option.bind_some, bit_if, if_pos ha, Option.bind_some, bit_if, if_pos hd, Option.bind_some, bit_ifn, if_pos hk, g1, Option.bind_some, bit_ifn, if_pos h0]
        show (s_X12_passTo N1 d).bind _ = _
        rw [p1, Option.bind_some]
        show (s_X12_offOf N2 d 0).bind _ = _
        rw [m_offOf hw p2 ha.1 ha.2 ht (tb.2.2.2 hd.1) hd.2 (by omega) bn]
        rfl
    · have ht : ¬ 0 ≤ tdV D (lat D 0 a d kn) := fun e => h0 (tb.2.2.1.mp e)
      refine ⟨-1, K, N1, ?_, fs_row c3 1000 (by decide), ?_, hI1⟩
      · unfold s_X11_off
        rw [c_isAsked hc, Option.bind_some, bit_ifn, if_pos ⟨ha, hd, hk⟩, c1, Option.bind_some, c_wasTuned, Option.bind_some, bit_if]
        show (if 0 ≤ K 43 6 then _ else some (-1, K)) = _
        rw [c2.2.2.1, if_neg ht]
      · unfold s_X12_off
        rw [m_isPiano hm1 hw.1, m_isDay, m_isKnown, Option.bind_some, bit_if, if_pos ha, Option.bind_some, bit_if, if_pos hd, Option.bind_some, bit_ifn, if_pos hk, g1, Option.bind_some, bit_ifn, if_neg h0]
  · have hm1 : MRh (fup M 122 0 0) 124 0 D := MRh_row (fup_ne (by decide)) hm
    refine ⟨-2, M, fup M 122 0 0, ?_, rfl, ?_, Iv_thrown hI⟩
    · unfold s_X11_off
      rw [c_isAsked hc, Option.bind_some, bit_ifn, if_neg h]
    · unfold s_X12_off
      rw [m_isPiano hm1 hw.1, m_isDay, m_isKnown, Option.bind_some, bit_if]
      by_cases x1 : 0 ≤ a ∧ a < D 4 13
      · rw [if_pos x1, Option.bind_some, bit_if]
        by_cases x3 : 0 ≤ d ∧ d < 364
        · rw [if_pos x3, Option.bind_some, bit_ifn, if_neg (fun e => h ⟨x1, x3, e⟩)]
        · rw [if_neg x3]
      · rw [if_neg x1]
