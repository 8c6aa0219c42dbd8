/-! ===== stove (by hand) ===== -/
theorem set2_set2 (M : fM) (a b : Nat) (r s r' s' : Nat → Int) : set2 (set2 M a r b s) a r' b s' = set2 M a r' b s' := by
  funext k
  unfold set2
  split
  · rfl
  · split <;> rfl
abbrev stA (D : fM) (w kn : Int) : Int := stvF D w kn (fun p => fallS D p kn) (nP D)
abbrev stB (D : fM) (w kn : Int) : Int := stvF D w kn (fun p => dayS D p kn) (nP D)
theorem fallS_b {D : fM} (hw : WF D) (p kn : Int) : (-4800000 ≤ fallS D p kn ∧ fallS D p kn ≤ 4800000) ∧ (0 ≤ dayS D p kn ∧ dayS D p kn ≤ 1200000) := by
  unfold fallS dayS
  rw [sum_swap (fun n => fallI D p kn n), sum_swap (fun n => dayI D p kn n)]
  have b1 := sumI_b (g := fun n => sumI (fallI D p kn n) (nR D)) (lo := -400000) (hi := 400000) 12 (fun n hn => (fallN_b hw p kn n hn).1)
  have b2 := sumI_b (g := fun n => sumI (dayI D p kn n) (nR D)) (lo := 0) (hi := 100000) 12 (fun n hn => (fallN_b hw p kn n hn).2)
  omega
theorem stA_b {D : fM} (hw : WF D) (w kn : Int) : (-100000000 ≤ stA D w kn ∧ stA D w kn ≤ 100000000) ∧ (0 ≤ stB D w kn ∧ stB D w kn ≤ 100000000) := by
  obtain ⟨hp1, hp2⟩ := nP_c hw.1
  have b1 := stvF_b (D := D) (w := w) (kn := kn) (f := fun q => fallS D q kn) (lo := -4800000) (hi := 4800000) (by omega) (by omega) (fun q => (fallS_b hw q kn).1) (nP D) hp2
  have b2 := stvF_b (D := D) (w := w) (kn := kn) (f := fun q => dayS D q kn) (lo := 0) (hi := 1200000) (by omega) (by omega) (fun q => (fallS_b hw q kn).2) (nP D) hp2
  unfold stA stB
  omega
theorem c_sum48 {K : fM} {F : Int → Int} (e : ∀ n : Nat, n < 12 → K 48 n = F n) (b : ∀ n : Nat, n < 12 → -100000000 ≤ F n ∧ F n ≤ 100000000) : s_X1_sumOf_48 K = some (sumI F 12) := by
  have key : s_X1_sumOf_48_l4 K (0, 0) = some (sumI F 12) := by
    unfold s_X1_sumOf_48_l4
    refine fLp_for (fun i => (sumI F i, (i : Int))) 12 (fun i hi => ?_) rfl
    have b1 := sumI_b (g := F) (lo := -100000000) (hi := 100000000) i (fun k hk => b k (by omega))
    have b2 := b i hi
    show s_X1_sumOf_48_b4 K (sumI F i) (i : Int) = some (Sum.inl (sumI F (i + 1), (i : Int) + 1))
    unfold s_X1_sumOf_48_b4
    rw [if_neg (by omega), Int.toNat_natCast, e i hi, if_pos (by unfold fin finl; omega), sumI_s]
  unfold s_X1_sumOf_48
  rw [key]
  rfl
theorem c_sum49 {K : fM} {F : Int → Int} (e : ∀ n : Nat, n < 12 → K 49 n = F n) (b : ∀ n : Nat, n < 12 → -100000000 ≤ F n ∧ F n ≤ 100000000) : s_X1_sumOf_49 K = some (sumI F 12) := by
  have key : s_X1_sumOf_49_l4 K (0, 0) = some (sumI F 12) := by
    unfold s_X1_sumOf_49_l4
    refine fLp_for (fun i => (sumI F i, (i : Int))) 12 (fun i hi => ?_) rfl
    have b1 := sumI_b (g := F) (lo := -100000000) (hi := 100000000) i (fun k hk => b k (by omega))
    have b2 := b i hi
    show s_X1_sumOf_49_b4 K (sumI F i) (i : Int) = some (Sum.inl (sumI F (i + 1), (i : Int) + 1))
    unfold s_X1_sumOf_49_b4
    rw [if_neg (by omega), Int.toNat_natCast, e i hi, if_pos (by unfold fin finl; omega), sumI_s]
  unfold s_X1_sumOf_49
  rw [key]
  rfl
/-- the class's sums for those with a stove, or without -/
theorem c_stoveSums {M D : fM} (hc : CR M 0 D) (hw : WF D) (w kn : Int) : ∃ K, s_X1_sumFallsOf M w kn = some ((), K) ∧ s_X1_sumOf_48 K = some (stA D w kn) ∧ s_X1_sumOf_49 K = some (stB D w kn) ∧ fSame [(48, none), (49, none)] M K := by
  obtain ⟨hp1, hp2⟩ := nP_c hw.1
  obtain ⟨K, k1, k2, k3, k4⟩ := c_sumFalls hc hw w kn
  refine ⟨K, k1, ?_, ?_, k4⟩
  · rw [c_sum48 (F := fun n => stvF D w kn (fun p => fallN D p kn n) (nP D)) k2 (fun n hn => by
      have := stvF_b (D := D) (w := w) (kn := kn) (f := fun q => fallN D q kn n) (lo := -400000) (hi := 400000) (by omega) (by omega) (fun q => (fallN_b hw q kn n hn).1) (nP D) hp2
      omega), stvF_sum D w kn (fun n p => fallN D p kn n) 12 (nP D)]
    unfold stA fallS
    congr 2
    funext p
    exact (sum_swap (fun n => fallI D p kn n) 12 (nR D)).symm
  · rw [c_sum49 (F := fun n => stvF D w kn (fun p => dayN D p kn n) (nP D)) k3 (fun n hn => by
      have := stvF_b (D := D) (w := w) (kn := kn) (f := fun q => dayN D q kn n) (lo := 0) (hi := 100000) (by omega) (by omega) (fun q => (fallN_b hw q kn n hn).2) (nP D) hp2
      omega), stvF_sum D w kn (fun n p => dayN D p kn n) 12 (nP D)]
    unfold stB dayS
    congr 2
    funext p
    exact (sum_swap (fun n => dayI D p kn n) 12 (nR D)).symm
/-- the reference's -/
theorem m_stoveSums {N D : fM} (hm : MRh N 124 0 D) (hr : MRr N 125 0 D) (hn0 : N 122 10 = D 18 8) (hw : WF D) (w kn : Int) (b : fM → Int → Option ((Int × fM) ⊕ fM)) (hbody : ∀ K p, b K p = if (K 124 172) ≤ p then some (.inr K) else (s_X12_of K p 7).bind fun y => if ¬ y = w then (if fin (p + 1) then some (.inl ((p + 1), K)) else none) else (s_X12_pairs K p kn 0).bind fun y2 => if fin (p + 1) then some (.inl ((p + 1), y2.2)) else none) : ∃ K, s_X12_noPairs N = some ((), set2 N 130 (zero12 (N 130)) 131 (zero12 (N 131))) ∧ fLp (fun s : Int × fM => b s.2 s.1) (0, set2 N 130 (zero12 (N 130)) 131 (zero12 (N 131))) = some K ∧ K 130 0 = stA D w kn ∧ K 131 0 = stB D w kn ∧ fSame [(130, none), (131, none)] N K := by
  obtain ⟨hp1, hp2⟩ := nP_c hw.1
  obtain ⟨N1, hN1⟩ : ∃ N1, N1 = set2 N 130 (zero12 (N 130)) 131 (zero12 (N 131)) := ⟨_, rfl⟩
  have z0 : N1 130 0 = 0 := by rw [hN1, set2_a]; rfl
  have z1 : N1 131 0 = 0 := by rw [hN1, set2_b (by decide)]; rfl
  have key := fLp_for (b := fun s : Int × fM => b s.2 s.1) (fun p => ((p : Int), set2 N1 130 (upd1 (N1 130) 0 (stvF D w kn (fun p => fallS D p kn) p)) 131 (upd1 (N1 131) 0 (stvF D w kn (fun p => dayS D p kn) p)))) (nP D) (e := set2 N1 130 (upd1 (N1 130) 0 (stA D w kn)) 131 (upd1 (N1 131) 0 (stB D w kn))) (fun p hp => ?_) ?_
  · refine ⟨set2 N1 130 (upd1 (N1 130) 0 (stA D w kn)) 131 (upd1 (N1 131) 0 (stB D w kn)), m_noPairs N, ?_, ?_, ?_, ?_⟩
    · rw [← hN1]
      rw [show stvF D w kn (fun p => fallS D p kn) 0 = N1 130 0 from z0.symm, show stvF D w kn (fun p => dayS D p kn) 0 = N1 131 0 from z1.symm, upd1_id, upd1_id, set2_id] at key
      exact key
    · rw [set2_a, upd1_at]
    · rw [set2_b (by decide), upd1_at]
    · rw [hN1]
      exact fs_set2 (fs_set2 fs_refl (by decide) (by decide)) (by decide) (by decide)
  · generalize hK : set2 N1 130 (upd1 (N1 130) 0 (stvF D w kn (fun p => fallS D p kn) p)) 131 (upd1 (N1 131) 0 (stvF D w kn (fun p => dayS D p kn) p)) = K
    have hmK : MRh K 124 0 D := MRh_row (by rw [← hK, set2_ne (by decide) (by decide), hN1, set2_ne (by decide) (by decide)]) hm
    have hrK : MRr K 125 0 D := MRr_row (by rw [← hK, set2_ne (by decide) (by decide), hN1, set2_ne (by decide) (by decide)]) hr
    have hnK : K 122 10 = D 18 8 := by rw [← hK, set2_ne (by decide) (by decide), hN1, set2_ne (by decide) (by decide), hn0]
    have e130 : K 130 = upd1 (N1 130) 0 (stvF D w kn (fun p => fallS D p kn) p) := by rw [← hK, set2_a]
    have e131 : K 131 = upd1 (N1 131) 0 (stvF D w kn (fun p => dayS D p kn) p) := by rw [← hK, set2_b (by decide)]
    have b1 := stvF_b (D := D) (w := w) (kn := kn) (f := fun q => fallS D q kn) (lo := -4800000) (hi := 4800000) (by omega) (by omega) (fun q => (fallS_b hw q kn).1) p (by omega)
    have b2 := stvF_b (D := D) (w := w) (kn := kn) (f := fun q => dayS D q kn) (lo := 0) (hi := 1200000) (by omega) (by omega) (fun q => (fallS_b hw q kn).2) p (by omega)
    show b K (p : Int) = some (Sum.inl ((p : Int) + 1, set2 N1 130 (upd1 (N1 130) 0 (stvF D w kn (fun p => fallS D p kn) p + (if stvP D w p then fallS D p kn else 0))) 131 (upd1 (N1 131) 0 (stvF D w kn (fun p => dayS D p kn) p + (if stvP D w p then dayS D p kn else 0)))))
    rw [hbody, (mh_n hmK).1, if_neg (by omega), m_of hmK hw.1 (by omega) (by omega) (by decide) (by decide), Option.bind_some]
    by_cases x : stvP D w p
    · rw [if_neg (fun e => e x), if_pos x, if_pos x, m_pairs0 hrK hnK hw p kn (by rw [e130, e131, upd1_at, upd1_at]; omega), Option.bind_some, if_pos (by unfold fin; omega), e130, e131, upd1_at, upd1_at, upd1_upd1, upd1_upd1]
      rw [← hK, set2_set2]
    · rw [if_pos x, if_neg x, if_neg x, if_pos (by unfold fin; omega), Int.add_zero, Int.add_zero, hK]
  · generalize hK : set2 N1 130 (upd1 (N1 130) 0 (stA D w kn)) 131 (upd1 (N1 131) 0 (stB D w kn)) = K
    have hmK : MRh K 124 0 D := MRh_row (by rw [← hK, set2_ne (by decide) (by decide), hN1, set2_ne (by decide) (by decide)]) hm
    show b K ((nP D : Nat) : Int) = _
    rw [hbody, (mh_n hmK).1, if_pos (by omega)]
set_option maxRecDepth 100000 in
theorem k_stove {M : fM} (hI : Iv M) (a c : Int) : ∃ k M1 v M2, s_L_stove_0_155 M a c = some (k, M1) ∧ M1 1000 = M 1000 ∧ s_X12_stove M1 a c = some (v, M2) ∧ M2 122 0 = k ∧ (k = 0 → M2 155 0 = v) ∧ Iv M2 := by
  obtain ⟨D, hc, hw, hm, hnm, hr, hn0⟩ := hI.2.2.2.1
  by_cases h : (-1 ≤ a ∧ a < 364) ∧ (0 ≤ c ∧ c < 2)
  · obtain ⟨K1, p1, p2, p3, p4⟩ := c_stoveSums hc hw 1 a
    have hc1 : CR K1 0 D := CR_same p4 (by decide) hc
    obtain ⟨K2, q1, q2, q3, q4⟩ := c_stoveSums hc1 hw 0 a
    have s2 : fSame [(48, none), (49, none)] M K2 := fs_trans p4 q4
    have bw := stA_b hw 1 a
    have bb := stA_b hw 0 a
    generalize hA1 : stA D 1 a = A1 at *
    generalize hB1 : stB D 1 a = B1 at *
    generalize hA0 : stA D 0 a = A0 at *
    generalize hB0 : stB D 0 a = B0 at *
    -- the reference on any memory with these rows
    have mm : ∀ N : fM, MRh N 124 0 D → MRr N 125 0 D → N 122 10 = D 18 8 → ∃ E F, s_X12_noPairs N = some ((), set2 N 130 (zero12 (N 130)) 131 (zero12 (N 131))) ∧ s_X12_stove_l29 a c (0, set2 N 130 (zero12 (N 130)) 131 (zero12 (N 131))) = some E ∧ s_X12_noPairs E = some ((), set2 E 130 (zero12 (E 130)) 131 (zero12 (E 131))) ∧ s_X12_stove_l87 a c (E 130 0) (E 131 0) (0, set2 E 130 (zero12 (E 130)) 131 (zero12 (E 131))) = some F ∧ E 130 0 = A1 ∧ E 131 0 = B1 ∧ F 130 0 = A0 ∧ F 131 0 = B0 ∧ fSame [(130, none), (131, none)] N F := by
      intro N hmN hrN hnN
      obtain ⟨E, e1, e2, e3, e4, e5⟩ := m_stoveSums hmN hrN hnN hw 1 a (fun K p => s_X12_stove_b29 K a c p) (fun K p => rfl)
      obtain ⟨F, f1, f2, f3, f4, f5⟩ := m_stoveSums (MRh_row (fs_row e5 124 (by decide)) hmN) (MRr_row (fs_row e5 125 (by decide)) hrN) (by rw [fs_row e5 122 (by decide)]; exact hnN) hw 0 a (fun K p => s_X12_stove_b87 K a c (E 130 0) (E 131 0) p) (fun K p => rfl)
      exact ⟨E, F, e1, e2, f1, f2, e3.trans hA1, e4.trans hB1, f3.trans hA0, f4.trans hB0, fs_trans e5 f5⟩
    by_cases hx : B1 = 0 ∨ B0 = 0
    · obtain ⟨E, F, g1, g2, g3, g4, g5, g6, g7, g8, g9⟩ := mm (fup K2 122 0 1) (MRh_row (by rw [fup_ne (by decide), fs_row s2 124 (by decide)]) hm) (MRr_row (by rw [fup_ne (by decide), fs_row s2 125 (by decide)]) hr) (by rw [show fup K2 122 0 1 122 10 = K2 122 10 from rfl, fs_row s2 122 (by decide)]; exact hn0)
      refine ⟨1, K2, 0, F, ?_, fs_row s2 1000 (by decide), ?_, ?_, fun e => absurd e (by decide), Iv_same g9 (by decide) (Iv_thrown (Iv_same s2 (by decide) hI))⟩
      · unfold s_L_stove_0_155 s_X11_stove s_X1_weighStoves
        rw [c_isKnowing, c_isWithin, Option.bind_some, bit_if, if_pos h.1, Option.bind_some, bit_if, if_pos h.2, p1, Option.bind_some, p2, Option.bind_some, p3, Option.bind_some, q1, Option.bind_some, q2, Option.bind_some, q3, Option.bind_some]
        by_cases hb1 : B1 = 0
        · rw [if_pos hb1]; rfl
        · rw [if_neg hb1, if_neg (by omega)]; rfl
      · unfold s_X12_stove
        rw [m_isKnown, m_isIn, Option.bind_some, bit_if, if_pos h.1, Option.bind_some, bit_ifn, if_pos (by omega), g1, Option.bind_some, g2, Option.bind_some, g3, Option.bind_some, g4, Option.bind_some, g5, g6, g7, g8]
        by_cases hb1 : B1 = 0
        · rw [if_pos hb1]
        · rw [if_neg hb1, if_neg (by omega)]
      · rw [fs_row g9 122 (by decide), fup_eq]; rfl
    · have hb1 : ¬ B1 = 0 := fun e => hx (.inl e)
      have hb0 : ¬ B0 = 0 := fun e => hx (.inr e)
      have m1 := mul_bd (x := A1) (y := B0) (A := 100000000) (B := 100000000) (by omega) bw.1.1 bw.1.2 bb.2.1 bb.2.2
      have m2 := mul_bd (x := A0) (y := B1) (A := 100000000) (B := 100000000) (by omega) bb.1.1 bb.1.2 bw.2.1 bw.2.2
      have m3 := mul_bd (x := B1) (y := B0) (A := 100000000) (B := 100000000) (by omega) (by omega) bw.2.2 bb.2.1 bb.2.2
      have m4 : 0 < B1 * B0 := Int.mul_pos (by omega) (by omega)
      generalize hU : A1 * B0 = U at m1
      generalize hV : A0 * B1 = V at m2
      generalize hW : B1 * B0 = W at m3 m4
      have hg : 0 < Int.gcd (U - V) W := Int.gcd_pos_of_ne_zero_right (U - V) (by omega)
      obtain ⟨K3, hK3⟩ : ∃ K3, K3 = fup (fup K2 47 9 (Int.tdiv (U - V) (Int.gcd (U - V) W))) 47 10 (Int.tdiv W (Int.gcd (U - V) W)) := ⟨_, rfl⟩
      generalize hv : (if c = 0 then Int.tdiv (U - V) (Int.gcd (U - V) W) else Int.tdiv W (Int.gcd (U - V) W)) = v
      have s3 : fSame [(48, none), (49, none), (47, some 9), (47, some 10), (155, some 0)] M (fup K3 155 0 v) := by
        rw [hK3]
        exact fs_up (fs_up (fs_up (fs_mono (by decide) s2) (.inr (by decide))) (.inr (by decide))) (.inr (by decide))
      obtain ⟨E, F, g1, g2, g3, g4, g5, g6, g7, g8, g9⟩ := mm (fup (fup K3 155 0 v) 122 0 1) (MRh_row (by rw [fup_ne (by decide), fs_row s3 124 (by decide)]) hm) (MRr_row (by rw [fup_ne (by decide), fs_row s3 125 (by decide)]) hr) (by rw [show fup (fup K3 155 0 v) 122 0 1 122 10 = fup K3 155 0 v 122 10 from rfl, fs_row s3 122 (by decide)]; exact hn0)
      refine ⟨0, fup K3 155 0 v, v, fup F 122 0 0, ?_, fs_row s3 1000 (by decide), ?_, by rw [fup_eq]; rfl, fun _ => ?_, Iv_thrown (Iv_same g9 (by decide) (Iv_thrown (Iv_same s3 (by decide) hI)))⟩
      · unfold s_L_stove_0_155 s_X11_stove s_X1_weighStoves
        rw [c_isKnowing, c_isWithin, Option.bind_some, bit_if, if_pos h.1, Option.bind_some, bit_if, if_pos h.2, p1, Option.bind_some, p2, Option.bind_some, p3, Option.bind_some, q1, Option.bind_some, q2, Option.bind_some, q3, Option.bind_some, if_neg hb1, if_pos hb0, hU, hV, hW, if_pos (by unfold finl; omega), c_keepLeast _ (by omega) (by omega) (by omega) (by omega), Option.bind_some, Option.bind_some, ← hv]
        show ((if ¬ (1 : Int) = 0 then (if ¬ c = 0 then some (Sum.inl (Int.tdiv W (Int.gcd (U - V) W)), fup (fup K2 47 9 (Int.tdiv (U - V) (Int.gcd (U - V) W))) 47 10 (Int.tdiv W (Int.gcd (U - V) W))) else some (Sum.inl (Int.tdiv (U - V) (Int.gcd (U - V) W)), fup (fup K2 47 9 (Int.tdiv (U - V) (Int.gcd (U - V) W))) 47 10 (Int.tdiv W (Int.gcd (U - V) W)))) else some (Sum.inr (), fup (fup K2 47 9 (Int.tdiv (U - V) (Int.gcd (U - V) W))) 47 10 (Int.tdiv W (Int.gcd (U - V) W)))).bind _) = _
        rw [← hK3, if_pos (by decide)]
        by_cases he : c = 0
        · rw [if_neg (fun x => x he), if_pos he]; rfl
        · rw [if_pos he, if_neg he]; rfl
      · unfold s_X12_stove s_X12_stove_j192
        rw [m_isKnown, m_isIn, Option.bind_some, bit_if, if_pos h.1, Option.bind_some, bit_ifn, if_pos (by omega), g1, Option.bind_some, g2, Option.bind_some, g3, Option.bind_some, g4, Option.bind_some, g5, g6, g7, g8, if_neg hb1, if_pos hb0, hU, hV, hW, if_pos (by unfold finl; omega), if_pos (by unfold finl; omega), m_common _ (by omega) (by omega) (by omega) (by omega), Option.bind_some, Option.bind_some]
        have hgne : ((Int.gcd (U - V) W : Nat) : Int) ≠ 0 := by omega
        rw [if_pos hgne, if_pos hgne, fldv_eq (by omega) (by omega) (by omega), fldv_eq (by omega) (by omega) (by omega), ← hv]
        by_cases he : c = 0
        · rw [if_neg (fun x => x he), if_pos he]
        · rw [if_pos he, if_neg he]
      · rw [fup_ne (by decide), fs_row g9 155 (by decide), fup_ne (by decide), fup_eq]; rfl
  · refine ⟨1, M, 0, fup M 122 0 1, ?_, rfl, ?_, by rw [fup_eq]; rfl, fun e => absurd e (by decide), Iv_thrown hI⟩
    · unfold s_L_stove_0_155 s_X11_stove
      rw [c_isKnowing, c_isWithin, Option.bind_some, bit_if]
      by_cases x1 : -1 ≤ a ∧ a < 364
      · rw [if_pos x1, Option.bind_some, bit_if, if_neg (fun y => h ⟨x1, y⟩)]; rfl
      · rw [if_neg x1]; rfl
    · unfold s_X12_stove
      rw [m_isKnown, m_isIn, Option.bind_some, bit_if]
      by_cases x1 : -1 ≤ a ∧ a < 364
      · rw [if_pos x1, Option.bind_some, bit_ifn, if_neg (fun y => h ⟨x1, by omega⟩)]
      · rw [if_neg x1]
