/-! ===== two: class and reference ===== -/
theorem tk_same {M M1 D : fM} (hT : Tp M) (hm : MRh M 124 0 D) (hr : MRr M 125 0 D) (hn0 : M 122 10 = D 18 8) {n : Nat} (hn : M 1 2 = n) (e2 : M1 122 = M 122) (e3 : M1 123 = M 123) (e4 : M1 124 = M 124) (e5 : M1 125 = M 125) : ∃ N, s_X12_taken (fup M1 122 0 0) 1240 = some ((), N) ∧ N 122 3 = n ∧ N 122 2 = 0 ∧ MRh N 124 0 D ∧ MRr N 125 0 D ∧ N 122 10 = D 18 8 ∧ bys N = oct M := by
  obtain ⟨N, n1, n2, n3, n4⟩ := m_taken (fup M1 122 0 0) 1240
  have row : ∀ a, a ≠ 122 → N a = M1 a := fun a ha => by rw [fs_row n4 a (fun x hx e => by have := (by decide : ∀ x ∈ s_X12_taken_mods, x.1 = 122) x hx; omega), fup_ne ha]
  refine ⟨N, n1, ?_, n3, ?_, ?_, ?_, ?_⟩
  · rw [n2]
    show M1 122 2 = _
    rw [e2, hT.1, hn]
  · exact MRh_row (by rw [row 124 (by decide), e4]) hm
  · exact MRr_row (by rw [row 125 (by decide), e5]) hr
  · rw [fs_at n4 122 10 (by decide)]
    show M1 122 10 = _
    rw [e2, hn0]
  · funext i
    unfold bys oct
    rw [row 123 (by decide), e3, hT.2.2.1]
theorem PlC_row {K K' D : fM} {d : Int} {r : Nat → Int} {n : Nat} (h : PlC K D d r n) (e54 : K' 54 = K 54) (e56 : K' 56 = K 56) (e57 : K' 57 = K 57) (e58 : K' 58 = K 58) (e59 : K' 59 = K 59) : PlC K' D d r n := by
  unfold PlC at h ⊢
  rw [e54, e56, e57, e58, e59]
  exact h
theorem feas0 {S : Sc} (hS : S.ok) : Feas S 0 := by
  have E0 := E_bd hS
  refine ⟨[], isSet_nil.2 rfl, ?_⟩
  show S.D 8 4 + wy S 9 9 ≤ _
  rw [wy_99]
  omega
theorem k_two {M : fM} (hI : Iv M) (t u d : Int) : ∃ v M1 M2, s_X11_two M t u d = some (v, M1) ∧ M1 1000 = M 1000 ∧ s_X12_two M1 t u d = some (v, M2) ∧ Iv M2 := by
  have hI0 := hI
  obtain ⟨q1, q2, q3, ⟨D, hc, hw, hm, hnm, hr, hn0⟩, -, -⟩ := hI
  obtain ⟨n, hn⟩ : ∃ n : Nat, M 1 2 = (n : Int) := ⟨(M 1 2).toNat, by have := q2.2.1; omega⟩
  have r4 : M 4 = D 4 := CR_r hc 4 (by decide) (by decide)
  have hP := hw.1.1
  have fin1 : ∀ (v : Int) (M1 M2 : fM), s_X11_two M t u d = some (v, M1) → M1 1 2 = 0 → s_X12_two M1 t u d = some (v, M2) → M2 122 2 = 0 → ∃ v M1 M2, s_X11_two M t u d = some (v, M1) ∧ M1 1000 = M 1000 ∧ s_X12_two M1 t u d = some (v, M2) ∧ Iv M2 := by
    intro v M1 M2 h1 h2 h3 h4
    have f1 : fSame s_X11_two_mods M M1 := s_X11_two_fr h1
    have f2 : fSame s_X12_two_mods M1 M2 := s_X12_two_fr h3
    have fAll : fSame (s_X11_two_mods ++ s_X12_two_mods) M M2 := fs_trans (fs_mono (fun x hx => List.mem_append_left _ hx) f1) (fs_mono (fun x hx => List.mem_append_right _ hx) f2)
    exact ⟨v, M1, M2, h1, fs_row f1 1000 (by decide), h3, Iv_mk hI0 fAll (by decide) (by decide) (Tp_taken fAll (by decide) (by rw [fs_row f2 1 (by decide), h2]) h4 q2) (Ou_same fAll (by decide) q3)⟩
  obtain ⟨K, hmv⟩ := c_move55 q2 hn (P := D 4 13) (by omega)
  by_cases hgood : ((n ≤ 9 ∧ okAll (D 4 13) (oct M) n) ∧ (0 ≤ d ∧ d < 364)) ∧ (0 ≤ t ∧ t < D 4 14) ∧ (0 ≤ u ∧ u < D 4 14) ∧ t ≠ u
  · obtain ⟨⟨⟨hn9, hall⟩, hd⟩, ht, hu, hne⟩ := hgood
    rcases hmv with ⟨a1, -, -, a4, a5⟩ | ⟨-, a2, -⟩
    · have ht6 := hw.1.2.1
      obtain ⟨t', rfl⟩ : ∃ t' : Nat, t = (t' : Int) := ⟨t.toNat, by omega⟩
      obtain ⟨u', rfl⟩ : ∃ u' : Nat, u = (u' : Int) := ⟨u.toNat, by omega⟩
      have hcK : CR K 0 D := fun k h1 h2 => by
        show K k = _
        rw [a5 k (by omega), fup_ne (by omega)]
        exact hc k h1 h2
      have hrr : ∀ i, i < n → 0 ≤ oct M i ∧ oct M i < D 4 13 := fun i hi => ⟨(oct_b q2 i).1, (hall i hi).1⟩
      have w50 : ∀ i, 0 ≤ (fun i => wgV D (oct M i) d) i ∧ (fun i => wgV D (oct M i) d) i ≤ 50 := fun i => by
        have := wgV_bd D (oct M i) d
        show 0 ≤ wgV D (oct M i) d ∧ wgV D (oct M i) d ≤ 50
        omega
      have hSt := to_ok hw hd hn9 hrr ht.1 ht.2
      have hSu := to_ok hw hd hn9 hrr hu.1 hu.2
      obtain ⟨K1, b1, b2⟩ := c_place hcK hw hn9 (r := oct M) (fun i hi => ⟨a4 i hi, hrr i hi⟩) hd.1 hd.2
      have fb : fSame s_X7_place_mods K K1 := s_X7_place_fr b1
      have hcK1 : CR K1 0 D := CR_same fb (by decide) hcK
      obtain ⟨K2, d1, d2⟩ := c_weigh hcK1 hw hd hn9 (r := oct M) (fun i hi => ⟨by rw [fs_row fb 55 (by decide), a4 i hi], hrr i hi⟩) b2.2.1
      have fd : fSame s_X7_weigh_mods K1 K2 := s_X7_weigh_fr d1
      have hcK2 : CR K2 0 D := CR_same fd (by decide) hcK1
      have hpK2 : PlC K2 D d (oct M) n := PlC_row b2 (fs_row fd 54 (by decide)) (fs_row fd 56 (by decide)) (fs_row fd 57 (by decide)) (fs_row fd 58 (by decide)) (fs_row fd 59 (by decide))
      obtain ⟨K3, g1, g2, g3, g4⟩ := c_homes hcK2 hw hd hn9 hrr hpK2 hu.1 hu.2
      have fg : fSame s_X7_fillHomes_mods K2 K3 := s_X7_fillHomes_fr g1
      have h61 : ∀ m, m < 2 ^ n → K3 61 m = wtm (fun i => wgV D (oct M i) d) m n := fun m hm => by rw [fs_row fg 61 (by decide)]; exact d2 m hm
      obtain ⟨K4, o1, o2, o3⟩ := c_other (K := K3) hn9 g2.2.1.2.1 g2.2.1.2.2 (F := Feas (Sc.to D d (oct M) n u')) (fun m hm => (H_feas hSu g3 g4 hm).1) h61 (feas0 hSu)
      have hcK4 : CR K4 0 D := fun k h1 h2 => by
        show K4 k = _
        rw [o3 k (by omega)]
        exact g2.1 k h1 h2
      have hpK4 : PlC K4 D d (oct M) n := PlC_row g2.2.1 (o3 54 (by decide)) (o3 56 (by decide)) (o3 57 (by decide)) (o3 58 (by decide)) (o3 59 (by decide))
      obtain ⟨K5, i1, i2, i3, i4⟩ := c_homes hcK4 hw hd hn9 hrr hpK4 ht.1 ht.2
      have fi : fSame s_X7_fillHomes_mods K4 K5 := s_X7_fillHomes_fr i1
      obtain ⟨v, v1, v2⟩ := c_two (K := K5) hn9 i2.2.1.2.2 (F1 := Feas (Sc.to D d (oct M) n t')) (F2 := Feas (Sc.to D d (oct M) n u')) w50 (fun m hm => (H_feas hSt i3 i4 hm).1) (fun m hm => by rw [fs_row fi 61 (by decide), o3 61 (by decide)]; exact h61 m hm) (fun m hm => by rw [fs_row fi 64 (by decide)]; exact o2 m hm) (feas0 hSt) (feas0 hSu)
      have hcl : s_X11_two M (t' : Int) (u' : Int) d = some (v, K5) := by
        have hb : s_X7_bestOfTwo K (n : Int) (t' : Int) (u' : Int) d = some (v, K5) := by
          unfold s_X7_bestOfTwo
          rw [b1, Option.bind_some]
          show (s_X7_weigh K1 d).bind _ = _
          rw [d1, Option.bind_some]
          show (s_X7_fillHomes K2 (u' : Int)).bind _ = _
          rw [g1, Option.bind_some]
          show (s_X7_fillOtherBest K3).bind _ = _
          rw [o1, Option.bind_some]
          show (s_X7_fillHomes K4 (t' : Int)).bind _ = _
          rw [i1, Option.bind_some]
          show (s_X7_bestOfTwo_l33 K5 (0, 0)).bind _ = _
          rw [v1]
          rfl
        unfold s_X11_two
        rw [r4, a1, Option.bind_some]
        show (if (n : Int) < 0 then _ else (s_X2_hasTuner_4 K (t' : Int)).bind _) = _
        rw [if_neg (by omega), c_hasTuner, CR_r hcK 4 (by decide) (by decide), Option.bind_some, bit_if, if_pos ht]
        show (s_X2_hasTuner_4 K (u' : Int)).bind _ = _
        rw [c_hasTuner, CR_r hcK 4 (by decide) (by decide), Option.bind_some, bit_if, if_pos hu, if_neg hne]
        show (s_X11_isWithin K d 364).bind _ = _
        rw [c_isWithin, Option.bind_some, bit_ifn, if_pos hd]
        show (s_X7_bestOfTwo K (n : Int) (t' : Int) (u' : Int) d).bind _ = _
        rw [hb]
        rfl
      have f1 : fSame s_X11_two_mods M K5 := s_X11_two_fr hcl
      obtain ⟨N, n1, n2, n3, n4, n5, n6, n7⟩ := tk_same q2 hm hr hn0 hn (fs_row f1 122 (by decide)) (fs_row f1 123 (by decide)) (fs_row f1 124 (by decide)) (fs_row f1 125 (by decide))
      obtain ⟨N1, t1, t2⟩ := (m_tells n4 n5 n6 hw n2 (fun i => by rw [n7]; exact oct_b q2 i) d 0).1 ⟨hn9, hd, by rw [n7]; exact hall⟩
      rw [if_pos rfl, n7] at t2
      have ft : fSame s_X12_tells_mods N N1 := s_X12_tells_fr t1
      have hmN1 : MRh N1 124 0 D := MRh_row (fs_row ft 124 (by decide)) n4
      obtain ⟨N2, x1, x2, x3, x4⟩ := m_sets hmN1 hw hd hn9 hrr t2 (t := t') ht.2
      obtain ⟨N3, y1, y2, y3, y4⟩ := m_sets x2.1 hw hd hn9 hrr x2.2.1 (t := u') hu.2
      have fx : fSame s_X12_sets_mods N1 N2 := s_X12_sets_fr x1
      have fy : fSame s_X12_sets_mods N2 N3 := s_X12_sets_fr y1
      have h39 : N3 122 39 = n := y2.2.1.2
      obtain ⟨v', w1, w2⟩ := m_two (N := N3) hn9 h39 w50 (fun i hi => (y2.2.1.1 i hi).2.2.2.1) (F1 := Feas (Sc.to D d (oct M) n t')) (F2 := Feas (Sc.to D d (oct M) n u')) (a0 := t') (b0 := u') (by omega) (by omega) (fun m hm => by
          have p512 : 2 ^ n ≤ 2 ^ 9 := Nat.pow_le_pow_right (n := 2) (by decide) hn9
          rw [y4 (512 * t' + m) (by omega)]
          exact x3 m hm) y3 (feas0 hSt) (feas0 hSu)
      have hvv : v' = v := TwoV_eq w2 v2
      subst hvv
      refine fin1 v' K5 N3 hcl ?_ ?_ ?_
      · rw [fs_row fi 1 (by decide), o3 1 (by decide), fs_row fg 1 (by decide), fs_row fd 1 (by decide), fs_row fb 1 (by decide), a5 1 (by decide)]
        rfl
      · unfold s_X12_two
        rw [n1, Option.bind_some]
        show (s_X12_isTuner N (t' : Int)).bind _ = _
        rw [m_isTuner n4 hw.1, Option.bind_some, bit_if, if_pos ht]
        show (s_X12_isTuner N (u' : Int)).bind _ = _
        rw [m_isTuner n4 hw.1, Option.bind_some, bit_if, if_pos hu, if_neg hne]
        show (s_X12_tells N d 0).bind _ = _
        rw [t1, Option.bind_some]
        show (if ¬ (1 : Int) = 0 then (s_X12_sets N1 (t' : Int)).bind _ else _) = _
        rw [if_pos (by decide), x1, Option.bind_some]
        show (s_X12_sets N2 (u' : Int)).bind _ = _
        rw [y1, Option.bind_some]
        show (if fin (fshl 1 (N3 122 39) - 1) then (s_X12_two_l70 N3 (t' : Int) (u' : Int) (fshl 1 (N3 122 39) - 1) (0, 0)).bind _ else _) = _
        have p512 : 2 ^ n ≤ 2 ^ 9 := Nat.pow_le_pow_right (n := 2) (by decide) hn9
        have hfin : fin (((2 ^ n : Nat) : Int) - 1) := by
          have h1 : 2 ^ n ≤ 512 := p512
          generalize 2 ^ n = c at h1 ⊢
          unfold fin
          omega
        rw [h39, b_shl n (by omega), if_pos hfin, w1]
        rfl
      · rw [fs_at fy 122 2 (by decide), fs_at fx 122 2 (by decide), fs_at ft 122 2 (by decide), n3]
    · exact absurd ⟨hn9, hall⟩ a2
  · -- both refuse
    have hcl : s_X11_two M t u d = some (-1, K) ∧ ∀ a, a ≠ 55 → K a = fup M 1 2 0 a := by
      unfold s_X11_two
      rw [r4]
      rcases hmv with ⟨a1, a2, a3, a4, a5⟩ | ⟨a1, a2, a5⟩
      · have k4 : K 4 = D 4 := by rw [a5 4 (by decide), fup_ne (by decide), r4]
        refine ⟨?_, a5⟩
        rw [a1, Option.bind_some]
        show (if (n : Int) < 0 then _ else (s_X2_hasTuner_4 K t).bind _) = _
        rw [if_neg (by omega), c_hasTuner, k4, Option.bind_some, bit_if]
        by_cases ht : 0 ≤ t ∧ t < D 4 14
        · rw [if_pos ht]
          show (s_X2_hasTuner_4 K u).bind _ = _
          rw [c_hasTuner, k4, Option.bind_some, bit_if]
          by_cases hu : 0 ≤ u ∧ u < D 4 14
          · rw [if_pos hu]
            by_cases hne : t = u
            · rw [if_pos hne]
            · rw [if_neg hne]
              show (s_X11_isWithin K d 364).bind _ = _
              rw [c_isWithin, Option.bind_some, bit_ifn, if_neg (fun e => hgood ⟨⟨⟨a2, a3⟩, e⟩, ht, hu, hne⟩)]
          · rw [if_neg hu]
        · rw [if_neg ht]
      · refine ⟨?_, a5⟩
        rw [a1, Option.bind_some]
        show (if (-1 : Int) < 0 then _ else _) = _
        rw [if_pos (by decide)]
    obtain ⟨hcl, a5⟩ := hcl
    obtain ⟨N, n1, n2, n3, n4, n5, n6, n7⟩ := tk_same (M1 := K) q2 hm hr hn0 hn (by rw [a5 122 (by decide), fup_ne (by decide)]) (by rw [a5 123 (by decide), fup_ne (by decide)]) (by rw [a5 124 (by decide), fup_ne (by decide)]) (by rw [a5 125 (by decide), fup_ne (by decide)])
    have z1 : K 1 2 = 0 := by rw [a5 1 (by decide)]; rfl
    by_cases ht : 0 ≤ t ∧ t < D 4 14
    · by_cases hu : 0 ≤ u ∧ u < D 4 14
      · by_cases hne : t = u
        · refine fin1 (-1) K N hcl z1 ?_ n3
          unfold s_X12_two
          rw [n1, Option.bind_some]
          show (s_X12_isTuner N t).bind _ = _
          rw [m_isTuner n4 hw.1, Option.bind_some, bit_if, if_pos ht]
          show (s_X12_isTuner N u).bind _ = _
          rw [m_isTuner n4 hw.1, Option.bind_some, bit_if, if_pos hu, if_pos hne]
        · obtain ⟨N1, t1⟩ := (m_tells n4 n5 n6 hw n2 (fun i => by rw [n7]; exact oct_b q2 i) d 0).2 (by rw [n7]; exact fun e => hgood ⟨⟨⟨e.1, e.2.2⟩, e.2.1⟩, ht, hu, hne⟩)
          have ft : fSame s_X12_tells_mods N N1 := s_X12_tells_fr t1
          refine fin1 (-1) K N1 hcl z1 ?_ (by rw [fs_at ft 122 2 (by decide), n3])
          unfold s_X12_two
          rw [n1, Option.bind_some]
          show (s_X12_isTuner N t).bind _ = _
          rw [m_isTuner n4 hw.1, Option.bind_some, bit_if, if_pos ht]
          show (s_X12_isTuner N u).bind _ = _
          rw [m_isTuner n4 hw.1, Option.bind_some, bit_if, if_pos hu, if_neg hne]
          show (s_X12_tells N d 0).bind _ = _
          rw [t1, Option.bind_some]
          show (if ¬ (0 : Int) = 0 then _ else _) = _
          rw [if_neg (by decide)]
      · refine fin1 (-1) K N hcl z1 ?_ n3
        unfold s_X12_two
        rw [n1, Option.bind_some]
        show (s_X12_isTuner N t).bind _ = _
        rw [m_isTuner n4 hw.1, Option.bind_some, bit_if, if_pos ht]
        show (s_X12_isTuner N u).bind _ = _
        rw [m_isTuner n4 hw.1, Option.bind_some, bit_if, if_neg hu]
    · refine fin1 (-1) K N hcl z1 ?_ n3
      unfold s_X12_two
      rw [n1, Option.bind_some]
      show (s_X12_isTuner N t).bind _ = _
      rw [m_isTuner n4 hw.1, Option.bind_some, bit_if, if_neg ht]
