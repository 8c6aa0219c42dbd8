/-! ===== round: class and reference ===== -/
theorem m_kept {N : fM} {L : Nat} (hL : L ≤ 9) (h46 : N 122 46 = (L : Int)) : ∃ e, s_X12_round_l50 (0, fup N 122 51 (N 122 46)) = some e ∧ (∀ j, j < L → e 142 j = N 141 j) ∧ ∀ a, a ≠ 142 → e a = fup N 122 51 (N 122 46) a := by
  unfold s_X12_round_l50
  refine fLp_ex (P := fun i q => q.1 = (i : Int) ∧ (∀ j, j < i → q.2 142 j = N 141 j) ∧ ∀ a, a ≠ 142 → q.2 a = fup N 122 51 (N 122 46) a) L ⟨rfl, fun j h => by omega, fun a _ => rfl⟩ (fun i q hi hp => ?_) (fun q hp => ?_)
  · obtain ⟨z, Q⟩ := q
    obtain ⟨q1, q2, q3⟩ := hp
    simp only at q1 q2 q3
    subst q1
    have k46 : Q 122 46 = (L : Int) := by rw [q3 122 (by decide)]; exact h46
    have k141 : Q 141 i = N 141 i := by rw [q3 141 (by decide), fup_ne (by decide)]
    refine ⟨((i : Int) + 1, fup Q 142 i (N 141 i)), ?_, by simp, fun j hj => ?_, fun a ha => ?_⟩
    · show s_X12_round_b50 Q (i : Int) = _
      unfold s_X12_round_b50
      rw [k46, if_neg (by omega), if_pos (by unfold fin; omega), show (i : Int).toNat = i from rfl, k141]
    · show fup Q 142 i _ 142 j = _
      rw [fup_eq]
      by_cases e2 : j = i
      · subst e2; rw [upd1_at]
      · rw [upd1_ne e2]; exact q2 j (by omega)
    · show fup Q 142 i _ a = _
      rw [fup_ne ha, q3 a ha]
  · obtain ⟨z, Q⟩ := q
    obtain ⟨q1, q2, q3⟩ := hp
    simp only at q1 q2 q3
    subst q1
    have k46 : Q 122 46 = (L : Int) := by rw [q3 122 (by decide)]; exact h46
    refine ⟨Q, ?_, q2, q3⟩
    show s_X12_round_b50 Q (L : Int) = _
    unfold s_X12_round_b50
    rw [k46, if_pos (Int.le_refl _)]
theorem k_round {M : fM} (hI : Iv M) (t d : Int) : ∃ v M1 M2, s_X11_round M t d = some (v, M1) ∧ M1 1000 = M 1000 ∧ s_X12_round M1 t d = some (v, M2) ∧ Iv M2 := by
  have hI0 := hI
  obtain ⟨q1, q2, q3, ⟨D, hc, hw, hm0, hnm, hr, hn0⟩, -, -⟩ := hI
  obtain ⟨n, hn⟩ : ∃ n : Nat, M 1 2 = (n : Int) := ⟨(M 1 2).toNat, by have := q2.2.1; omega⟩
  have r4 : M 4 = D 4 := CR_r hc 4 (by decide) (by decide)
  have hP := hw.1.1
  obtain ⟨K, hmv⟩ := c_move55 q2 hn (P := D 4 13) (by omega)
  by_cases hgood : ((n ≤ 9 ∧ okAll (D 4 13) (oct M) n) ∧ (0 ≤ d ∧ d < 364)) ∧ (0 ≤ t ∧ t < D 4 14)
  · obtain ⟨⟨⟨hn9, hall⟩, hd⟩, ht⟩ := hgood
    rcases hmv with ⟨a1, -, -, a4, a5⟩ | ⟨-, a2, -⟩
    · have hcK : CR K 0 D := fun k h1 h2 => by
        show K k = _
        rw [a5 k (by omega), fup_ne (by omega)]
        exact hc k h1 h2
      have hrr : ∀ i, i < n → 0 ≤ oct M i ∧ oct M i < D 4 13 := fun i hi => ⟨(oct_b q2 i).1, (hall i hi).1⟩
      obtain ⟨K7, v, c1, c2, c3, c4, c5⟩ := c_round hcK hw hd hn9 (b := oct M) (fun i hi => ⟨a4 i hi, hrr i hi⟩) ht
      have hcl : s_X11_round M t d = some (wl (fun i => wgV D (srt (oct M) (n - 1) i) d) v, K7) := by
        unfold s_X11_round
        rw [r4, a1, Option.bind_some]
        show (if (n : Int) < 0 then _ else (s_X2_hasTuner_4 K t).bind _) = _
        rw [if_neg (by omega), c_hasTuner, CR_r hcK 4 (by decide) (by decide), Option.bind_some, bit_if, if_pos ht]
        show (s_X11_isWithin K d 364).bind _ = _
        rw [c_isWithin, Option.bind_some, bit_ifn, if_pos hd]
        show (s_X7_best K (n : Int) t d).bind _ = _
        rw [c1]
        rfl
      have f1 : fSame s_X11_round_mods M K7 := s_X11_round_fr hcl
      have fb : fSame s_X7_best_mods K K7 := s_X7_best_fr c1
      have hsr : ∀ i, i < n → 0 ≤ srt (oct M) (n - 1) i ∧ srt (oct M) (n - 1) i < D 4 13 := fun i hi => srt_all (C := fun x => 0 ≤ x ∧ x < D 4 13) hrr (n - 1) (by omega) i hi
      have hS := to_ok hw hd hn9 hsr ht.1 ht.2
      obtain ⟨N, n1, n2, n3, n4, n5, n6, n7⟩ := tk_same q2 hm0 hr hn0 hn (fs_row f1 122 (by decide)) (fs_row f1 123 (by decide)) (fs_row f1 124 (by decide)) (fs_row f1 125 (by decide))
      obtain ⟨N1, t1, t2⟩ := (m_tells n4 n5 n6 hw n2 (fun i => by rw [n7]; exact oct_b q2 i) d 1).1 ⟨hn9, hd, by rw [n7]; exact hall⟩
      rw [if_neg (by decide), n7] at t2
      have ft : fSame s_X12_tells_mods N N1 := s_X12_tells_fr t1
      have hmN1 : MRh N1 124 0 D := MRh_row (fs_row ft 124 (by decide)) n4
      obtain ⟨N2, u1, u2, u3⟩ := m_home hmN1 hw t2 ht.1 ht.2
      have w50 : ∀ i, 0 ≤ (fun i => wgV D (srt (oct M) (n - 1) i) d) i ∧ (fun i => wgV D (srt (oct M) (n - 1) i) d) i ≤ 50 := fun i => by
        have := wgV_bd D (srt (oct M) (n - 1) i) d
        show 0 ≤ wgV D (srt (oct M) (n - 1) i) d ∧ wgV D (srt (oct M) (n - 1) i) d ≤ 50
        omega
      obtain ⟨N3, b, o1, o2, o3⟩ := m_orders hS u2 w50 (fun i hi => (u2.2.1.1 i hi).2.2.2.1)
      have hbv : b = v := Opt_eq o3 c2
      subst hbv
      have hlen := set_len o3.1.1 o3.1.2.1
      have hlen9 : b.length ≤ 9 := Nat.le_trans hlen hn9
      obtain ⟨e, k1, k2, k3⟩ := m_kept (N := N3) hlen9 o2.1
      have fo : fSame s_X12_orders_mods N2 N3 := s_X12_orders_fr o1
      have e47 : e 122 47 = wl (fun i => wgV D (srt (oct M) (n - 1) i) d) b := by rw [k3 122 (by decide)]; exact o2.2.1
      have e48 : e 122 48 = hm (Sc.to D d (srt (oct M) (n - 1)) n t) b := by rw [k3 122 (by decide)]; exact o2.2.2.1
      have hml : s_X12_round K7 t d = some (wl (fun i => wgV D (srt (oct M) (n - 1) i) d) b, fup e 122 49 (e 122 48)) := by
        unfold s_X12_round
        rw [n1, Option.bind_some]
        show (s_X12_isTuner N t).bind _ = _
        rw [m_isTuner n4 hw.1, Option.bind_some, bit_if, if_pos ht]
        show (s_X12_tells N d 1).bind _ = _
        rw [t1, Option.bind_some]
        show (if ¬ (1 : Int) = 0 then (s_X12_live N1 t).bind _ else _) = _
        rw [if_pos (by decide), u1, Option.bind_some]
        show (s_X12_orders N2).bind _ = _
        rw [o1, Option.bind_some]
        show (s_X12_round_l50 (0, fup N3 122 51 (N3 122 46))).bind _ = _
        rw [k1, Option.bind_some, e47]
      have f2 : fSame s_X12_round_mods K7 (fup e 122 49 (e 122 48)) := s_X12_round_fr hml
      have fAll : fSame (s_X11_round_mods ++ s_X12_round_mods) M (fup e 122 49 (e 122 48)) := fs_trans (fs_mono (fun x hx => List.mem_append_left _ hx) f1) (fs_mono (fun x hx => List.mem_append_right _ hx) f2)
      have z1 : K7 1 2 = 0 := by
        rw [fs_row fb 1 (by decide), a5 1 (by decide)]
        rfl
      have z2 : fup e 122 49 (e 122 48) 122 2 = 0 := by
        show e 122 2 = 0
        rw [k3 122 (by decide)]
        show N3 122 2 = 0
        rw [fs_at fo 122 2 (by decide), u3]
        show N1 122 2 = 0
        rw [fs_at ft 122 2 (by decide), n3]
      have hO : Ou (fup e 122 49 (e 122 48)) := by
        obtain ⟨p1, ⟨p2, p3⟩, -, -, p6, p7⟩ := q3
        have e5415 : fup e 122 49 (e 122 48) 54 15 = (b.length : Int) := by rw [fs_row f2 54 (by decide), c3]
        refine ⟨?_, ⟨?_, ?_⟩, ⟨?_, ?_, ?_, fun i hi0 hi => ?_⟩, ?_, ?_, ?_⟩
        · rw [fs_at fAll 0 14 (by decide), fs_at fAll 122 15 (by decide)]; exact p1
        · rw [fs_at fAll 47 7 (by decide), fs_at fAll 122 31 (by decide)]; exact p2
        · rw [fs_at fAll 47 8 (by decide), fs_at fAll 122 32 (by decide)]; exact p3
        · rw [e5415]
          show _ = e 122 51
          rw [k3 122 (by decide)]
          exact o2.1.symm
        · rw [e5415]; omega
        · rw [e5415]; omega
        · rw [e5415] at hi
          obtain ⟨j, rfl⟩ : ∃ j : Nat, i = (j : Int) := ⟨i.toNat, by omega⟩
          have hj : j < b.length := by omega
          show fup e 122 49 (e 122 48) 66 j = fup e 122 49 (e 122 48) 142 j
          rw [fs_row f2 66 (by decide), c5 j hj, fup_ne (by decide), k2 j hj]
          exact (o2.2.2.2 j hj).symm
        · rw [fs_row f2 54 (by decide), c4]
          show _ = e 122 48
          rw [e48]
        · rw [fs_at fAll 67 5 (by decide), fs_at fAll 122 57 (by decide)]; exact p6
        · rw [fs_at fAll 70 3 (by decide), fs_at fAll 122 60 (by decide), fs_row fAll 72 (by decide), fs_row fAll 148 (by decide)]; exact p7
      exact ⟨_, K7, _, hcl, fs_row f1 1000 (by decide), hml, Iv_mk hI0 fAll (by decide) (by decide) (Tp_taken fAll (by decide) (by rw [fs_row f2 1 (by decide), z1]) z2 q2) hO⟩
    · exact absurd ⟨hn9, hall⟩ a2
  · -- both refuse
    have hcl : s_X11_round M t d = some (-1, K) ∧ ∀ a, a ≠ 55 → K a = fup M 1 2 0 a := by
      unfold s_X11_round
      rw [r4]
      rcases hmv with ⟨a1, a2, a3, a4, a5⟩ | ⟨a1, a2, a5⟩
      · have k4 : K 4 = D 4 := by rw [a5 4 (by decide), fup_ne (by decide), r4]
        refine ⟨?_, a5⟩
        rw [a1, Option.bind_some]
        show (if (n : Int) < 0 then _ else (s_X2_hasTuner_4 K t).bind _) = _
        rw [if_neg (by omega), c_hasTuner, k4, Option.bind_some, bit_if]
        by_cases ht : 0 ≤ t ∧ t < D 4 14
        · rw [if_pos ht]
          show (s_X11_isWithin K d 364).bind _ = _
          rw [c_isWithin, Option.bind_some, bit_ifn, if_neg (fun e => hgood ⟨⟨⟨a2, a3⟩, e⟩, ht⟩)]
        · rw [if_neg ht]
      · refine ⟨?_, a5⟩
        rw [a1, Option.bind_some]
        show (if (-1 : Int) < 0 then _ else _) = _
        rw [if_pos (by decide)]
    obtain ⟨hcl, a5⟩ := hcl
    have fK : fSame [(1, some 2), (55, none)] M K := fun a j hm => by
      have ha : a ≠ 55 := fun e => hm (by rw [e]; exact .inl (by decide))
      rw [a5 a ha]
      unfold fup
      rw [if_neg (fun e => hm (by rw [e.1, e.2]; exact .inr (by decide)))]
    obtain ⟨N, n1, n2, n3, n4, n5, n6, n7⟩ := tk_same (M1 := K) q2 hm0 hr hn0 hn (fs_row fK 122 (by decide)) (fs_row fK 123 (by decide)) (fs_row fK 124 (by decide)) (fs_row fK 125 (by decide))
    have fN : fSame s_X12_taken_mods (fup K 122 0 0) N := s_X12_taken_fr n1
    have z1 : K 1 2 = 0 := by rw [a5 1 (by decide)]; rfl
    have fin0 : ∀ M2 : fM, fSame s_X12_tells_mods N M2 → s_X12_round K t d = some (-1, M2) → ∃ v M1 M2, s_X11_round M t d = some (v, M1) ∧ M1 1000 = M 1000 ∧ s_X12_round M1 t d = some (v, M2) ∧ Iv M2 := by
      intro M2 fT hml
      have fA : fSame ([(1, some 2), (55, none), (122, some 0)] ++ (s_X12_taken_mods ++ s_X12_tells_mods)) M M2 := by
        refine fs_trans (fs_up (fs_mono (fun x hx => ?_) fK) (.inr (List.mem_append_left _ (by decide)))) (fs_trans (fs_mono (fun x hx => List.mem_append_right _ (List.mem_append_left _ hx)) fN) (fs_mono (fun x hx => List.mem_append_right _ (List.mem_append_right _ hx)) fT))
        exact List.mem_append_left _ ((by decide : ∀ x ∈ ([(1, some 2), (55, none)] : List (Nat × Option Nat)), x ∈ ([(1, some 2), (55, none), (122, some 0)] : List (Nat × Option Nat))) x hx)
      have z3 : M2 1 2 = 0 := by
        rw [fs_row fT 1 (by decide), fs_row fN 1 (by decide), fup_ne (by decide), z1]
      have z4 : M2 122 2 = 0 := by rw [fs_at fT 122 2 (by decide), n3]
      exact ⟨-1, K, M2, hcl, fs_row fK 1000 (by decide), hml, Iv_mk hI0 fA (by decide) (by decide) (Tp_taken fA (by decide) z3 z4 q2) (Ou_same fA (by decide) q3)⟩
    by_cases ht : 0 ≤ t ∧ t < D 4 14
    · obtain ⟨N1, t1⟩ := (m_tells n4 n5 n6 hw n2 (fun i => by rw [n7]; exact oct_b q2 i) d 1).2 (by rw [n7]; exact fun e => hgood ⟨⟨⟨e.1, e.2.2⟩, e.2.1⟩, ht⟩)
      refine fin0 N1 (s_X12_tells_fr t1) ?_
      unfold s_X12_round
      rw [n1, Option.bind_some]
      show (s_X12_isTuner N t).bind _ = _
      rw [m_isTuner n4 hw.1, Option.bind_some, bit_if, if_pos ht]
      show (s_X12_tells N d 1).bind _ = _
      rw [t1, Option.bind_some]
      show (if ¬ (0 : Int) = 0 then _ else _) = _
      rw [if_neg (by decide)]
    · refine fin0 N fs_refl ?_
      unfold s_X12_round
      rw [n1, Option.bind_some]
      show (s_X12_isTuner N t).bind _ = _
      rw [m_isTuner n4 hw.1, Option.bind_some, bit_if, if_neg ht]
