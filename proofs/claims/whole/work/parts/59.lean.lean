/-! ===== lean, batch (by hand) ===== -/
theorem fand_1 (x : Int) : b01 (fand x 1) := by
  unfold fand
  have h : (Int32.ofInt x &&& Int32.ofInt 1).toInt = ((Int32.ofInt x).toBitVec &&& 1#32).toInt := rfl
  rw [h, BitVec.and_one_eq_setWidth_ofBool_getLsbD]
  cases (Int32.ofInt x).toBitVec.getLsbD 0
  · exact .inl rfl
  · exact .inr rfl
abbrev toldB (D : fM) (i n : Int) : Int := fand (fshr (D 25 i.toNat) n) 1
theorem c_isTold {M D : fM} (hc : CR M 0 D) {i n : Int} (h1 : 0 ≤ i) (h2 : i < 200) : s_X6_isTold_18 M i n = some (toldB D i n) := by
  unfold s_X6_isTold_18
  rw [CR_r hc 25 (by decide) (by decide), if_pos (by omega)]
  have := fand_1 (fshr (D 25 i.toNat) n)
  rcases this with e | e
  · rw [if_pos (by omega)]; exact congrArg some e.symm
  · rw [if_neg (by omega)]; exact congrArg some e.symm
theorem c_leftOf {M D : fM} (hc : CR M 0 D) {i n : Int} (h1 : 0 ≤ i) (h2 : i < 200) (h3 : 0 ≤ n) (h4 : n < 12) : s_X6_leftOf_18 M i n = some (D 26 (i * 12 + n).toNat) := by
  unfold s_X6_leftOf_18
  rw [CR_r hc 26 (by decide) (by decide), if_pos (by unfold fin; omega)]
abbrev leanP (D : fM) (t n kn i : Int) : Prop := D 19 i.toNat = 0 ∧ D 23 i.toNat = t ∧ (kn = -1 ∨ D 22 i.toNat ≤ kn) ∧ toldB D i n = 1
def leanS (D : fM) (t n kn : Int) : Nat → Int
  | 0 => 0
  | m + 1 => if leanP D t n kn m then leanS D t n kn m + D 26 ((m : Int) * 12 + n).toNat else leanS D t n kn m
theorem leanS_s (D : fM) (t n kn : Int) (m : Nat) : leanS D t n kn (m + 1) = if leanP D t n kn m then leanS D t n kn m + D 26 ((m : Int) * 12 + n).toNat else leanS D t n kn m := rfl
theorem leanS_b {D : fM} (hw : WF D) {n : Int} (hn : 0 ≤ n) (hn2 : n < 12) (t kn : Int) : ∀ m : Nat, (m : Int) ≤ D 18 8 → -999 * (m : Int) ≤ leanS D t n kn m ∧ leanS D t n kn m ≤ 999 * (m : Int)
  | 0, _ => ⟨Int.le_refl _, Int.le_refl _⟩
  | m + 1, h => by
    have ih := leanS_b hw hn hn2 t kn m (by omega)
    have := (hw.2.2.2.2.2.2.2.2.2 (m : Int) (by omega) (by omega)).2.2.2.2.2.1 n hn hn2
    rw [leanS_s]
    split <;> omega
theorem c_lean {M D : fM} (hc : CR M 0 D) (hw : WF D) {n : Int} (hn : 0 ≤ n) (hn2 : n < 12) (t kn : Int) : s_X1_weighLean_l9 M t n kn (0, 0, 0) = some (leanS D t n kn (nR D), cntI (leanP D t n kn) (nR D)) := by
  obtain ⟨hnn, hnn2⟩ := nR_c hw.1
  unfold s_X1_weighLean_l9
  refine fLp_for (fun i => (leanS D t n kn i, cntI (leanP D t n kn) i, (i : Int))) (nR D) (fun i hi => ?_) ?_
  · have hb := leanS_b hw hn hn2 t kn i (by omega)
    have hq := (hw.2.2.2.2.2.2.2.2.2 (i : Int) (by omega) (by omega)).2.2.2.2.2.1 n hn hn2
    have hcn := cntI_b (leanP D t n kn) i
    have ht : toldB D i n = 0 ∨ toldB D i n = 1 := fand_1 _
    show s_X1_weighLean_b9 M t n kn (leanS D t n kn i) (cntI (leanP D t n kn) i) (i : Int) = some (Sum.inl (leanS D t n kn (i + 1), cntI (leanP D t n kn) (i + 1), (i : Int) + 1))
    rw [leanS_s, cntI_s]
    unfold s_X1_weighLean_b9 s_X1_weighLean_j52 s_X1_weighLean_j53
    rw [CR_r hc 18 (by decide) (by decide), CR_r hc 19 (by decide) (by decide), CR_r hc 23 (by decide) (by decide), if_neg (by omega), c_isKnown hc (by omega) (by omega), c_isTold hc (by omega) (by omega), c_leftOf hc (by omega) (by omega) hn hn2]
    simp only [Option.bind_some, bit_if, if_true, if_pos (show (0 : Int) ≤ (i : Int) ∧ (i : Int) < 200 by omega), if_pos (show fin ((i : Int) + 1) by unfold fin; omega)]
    by_cases x1 : D 19 (i : Int).toNat = 0
    · rw [if_neg (fun e => e x1)]
      by_cases x2 : D 23 (i : Int).toNat = t
      · rw [if_neg (fun e => e x2), if_neg (by omega)]
        by_cases x3 : kn = -1 ∨ D 22 (i : Int).toNat ≤ kn
        · rw [if_pos x3]
          by_cases x4 : toldB D i n = 0
          · rw [if_pos x4, if_neg (show ¬ leanP D t n kn i from fun e => absurd e.2.2.2 (by omega)), if_neg (show ¬ leanP D t n kn i from fun e => absurd e.2.2.2 (by omega))]
          · rw [if_neg x4, if_pos (by unfold fin; omega), if_pos (show leanP D t n kn i from ⟨x1, x2, x3, by omega⟩), if_pos (show leanP D t n kn i from ⟨x1, x2, x3, by omega⟩)]
        · rw [if_neg x3, if_neg (show ¬ leanP D t n kn i from fun e => x3 e.2.2.1), if_neg (show ¬ leanP D t n kn i from fun e => x3 e.2.2.1)]
      · rw [if_pos x2, if_neg (show ¬ leanP D t n kn i from fun e => x2 e.2.1), if_neg (show ¬ leanP D t n kn i from fun e => x2 e.2.1)]
    · rw [if_pos x1, if_neg (show ¬ leanP D t n kn i from fun e => x1 e.1), if_neg (show ¬ leanP D t n kn i from fun e => x1 e.1)]
  · show s_X1_weighLean_b9 M t n kn _ _ ((nR D : Nat) : Int) = _
    unfold s_X1_weighLean_b9
    rw [CR_r hc 18 (by decide) (by decide), if_pos (by omega)]
theorem m_lean {M D : fM} (hr : MRr M 125 0 D) (hn0 : M 122 10 = D 18 8) (hw : WF D) {n : Int} (hn : 0 ≤ n) (hn2 : n < 12) (t kn w : Int) : s_X12_lean_l51 M t n kn w (0, 0, 0) = some (leanS D t n kn (nR D), cntI (leanP D t n kn) (nR D)) := by
  obtain ⟨hnn, hnn2⟩ := nR_c hw.1
  unfold s_X12_lean_l51
  refine fLp_for (fun i => (leanS D t n kn i, cntI (leanP D t n kn) i, (i : Int))) (nR D) (fun i hi => ?_) ?_
  · have hb := leanS_b hw hn hn2 t kn i (by omega)
    have hq := (hw.2.2.2.2.2.2.2.2.2 (i : Int) (by omega) (by omega)).2.2.2.2.2.1 n hn hn2
    have hcn := cntI_b (leanP D t n kn) i
    have ht : toldB D i n = 0 ∨ toldB D i n = 1 := fand_1 _
    show s_X12_lean_b51 M t n kn w (leanS D t n kn i) (cntI (leanP D t n kn) i) (i : Int) = some (Sum.inl (leanS D t n kn (i + 1), cntI (leanP D t n kn) (i + 1), (i : Int) + 1))
    rw [leanS_s, cntI_s]
    have k8 : ∀ (x : fM), s_X12_lean_j108 M t n kn w (leanS D t n kn i) (cntI (leanP D t n kn) i) (i : Int) (19 * (i : Int)) = if ¬ toldB D i n = 0 then some (Sum.inl (leanS D t n kn i + D 26 ((i : Int) * 12 + n).toNat, cntI (leanP D t n kn) i + 1, (i : Int) + 1)) else some (Sum.inl (leanS D t n kn i, cntI (leanP D t n kn) i, (i : Int) + 1)) := by
      intro _
      unfold s_X12_lean_j108
      rw [mr_told hr (i : Int) rfl (by omega) (by omega), mr_left hr (i : Int) n (by omega) (by omega) (by omega) hn hn2, if_pos (by unfold fin; omega), if_pos (show fin (19 * (i : Int) + 7) ∧ fin (19 * (i : Int) + 7 + n) ∧ (0 ≤ 19 * (i : Int) + 7 + n ∧ 19 * (i : Int) + 7 + n < 3800) ∧ fin (leanS D t n kn i + D 26 ((i : Int) * 12 + n).toNat) ∧ fin (cntI (leanP D t n kn) i + 1) by unfold fin; omega)]
      have hf : fin ((i : Int) + 1) := by unfold fin; omega
      rw [if_pos hf, if_pos hf]
    unfold s_X12_lean_b51
    rw [hn0, k8 M, if_neg (by omega), if_pos (by unfold fin; omega), mr_kind hr (i : Int) rfl (by omega) (by omega), mr_known hr (i : Int) rfl (by omega) (by omega)]
    simp only [if_pos (show fin ((i : Int) + 1) by unfold fin; omega), if_pos (show fin (19 * (i : Int) + 4) ∧ (0 ≤ 19 * (i : Int) + 4 ∧ 19 * (i : Int) + 4 < 3800) by unfold fin; omega), if_pos (show fin (19 * (i : Int) + 3) ∧ (0 ≤ 19 * (i : Int) + 3 ∧ 19 * (i : Int) + 3 < 3800) by unfold fin; omega)]
    by_cases x1 : D 19 (i : Int).toNat = 0
    · rw [if_neg (fun e => e x1), mr_first hr (i : Int) rfl (by omega) (by omega) (.inl x1)]
      by_cases x2 : D 23 (i : Int).toNat = t
      · rw [if_neg (fun e => e x2)]
        by_cases x3 : kn = -1 ∨ D 22 (i : Int).toNat ≤ kn
        · have e : ∀ (a b : Option ((Int × Int × Int) ⊕ (Int × Int))), (if kn = -1 then a else if kn < D 22 (i : Int).toNat then b else a) = a := by
            intro a b
            by_cases y : kn = -1
            · rw [if_pos y]
            · rw [if_neg y, if_neg (by omega)]
          rw [e]
          by_cases x4 : toldB D i n = 0
          · rw [if_neg (fun e => e x4), if_neg (show ¬ leanP D t n kn i from fun e => absurd e.2.2.2 (by omega)), if_neg (show ¬ leanP D t n kn i from fun e => absurd e.2.2.2 (by omega))]
          · rw [if_pos x4, if_pos (show leanP D t n kn i from ⟨x1, x2, x3, by omega⟩), if_pos (show leanP D t n kn i from ⟨x1, x2, x3, by omega⟩)]
        · rw [if_neg (by omega), if_pos (by omega), if_neg (show ¬ leanP D t n kn i from fun e => x3 e.2.2.1), if_neg (show ¬ leanP D t n kn i from fun e => x3 e.2.2.1)]
      · rw [if_pos x2, if_neg (show ¬ leanP D t n kn i from fun e => x2 e.2.1), if_neg (show ¬ leanP D t n kn i from fun e => x2 e.2.1)]
    · rw [if_pos x1, if_neg (show ¬ leanP D t n kn i from fun e => x1 e.1), if_neg (show ¬ leanP D t n kn i from fun e => x1 e.1)]
  · show s_X12_lean_b51 M t n kn w _ _ ((nR D : Nat) : Int) = _
    unfold s_X12_lean_b51
    rw [hn0, if_pos (by omega)]
theorem k_lean {M : fM} (hI : Iv M) (a b c e : Int) : ∃ k M1 v M2, s_L_lean_0_155 M a b c e = some (k, M1) ∧ M1 1000 = M 1000 ∧ s_X12_lean M1 a b c e = some (v, M2) ∧ M2 122 0 = k ∧ (k = 0 → M2 155 0 = v) ∧ Iv M2 := by
  obtain ⟨D, hc, hw, hm, hnm, hr, hn0⟩ := hI.2.2.2.1
  have hm' : ∀ x, MRh (fup M 122 0 x) 124 0 D := fun x => MRh_row (fup_ne (by decide)) hm
  have hr' : ∀ x, MRr (fup M 122 0 x) 125 0 D := fun x => MRr_row (fup_ne (by decide)) hr
  have hn' : ∀ x, fup M 122 0 x 122 10 = D 18 8 := fun x => hn0
  obtain ⟨hnn, hnn2⟩ := nR_c hw.1
  by_cases h : (0 ≤ a ∧ a < D 4 14) ∧ (0 ≤ b ∧ b < 12) ∧ (-1 ≤ c ∧ c < 364) ∧ (0 ≤ e ∧ e < 2)
  · have hb := leanS_b hw h.2.1.1 h.2.1.2 a c (nR D) (by omega)
    have hcn := cntI_b (leanP D a b c) (nR D)
    generalize hS : leanS D a b c (nR D) = S at hb
    generalize hN : cntI (leanP D a b c) (nR D) = N at hcn
    by_cases h0 : N = 0
    · refine ⟨1, M, 0, fup M 122 0 1, ?_, rfl, ?_, ?_, fun e => absurd e (by decide), Iv_thrown hI⟩
      · unfold s_L_lean_0_155 s_X11_lean s_X1_weighLean
        rw [c_hasTuner, c_isWithin, c_isWithin, c_isKnowing, CR_r hc 4 (by decide) (by decide), c_lean hc hw h.2.1.1 h.2.1.2, hS, hN]
        simp only [Option.bind_some, bit_if, bit_ifn]
        rw [if_pos h.1, if_pos h.2.1, if_pos h.2.2.1, if_pos h.2.2.2, if_neg (fun x => x h0)]
        rfl
      · unfold s_X12_lean
        rw [m_isTuner (hm' 1) hw.1, m_isIn, m_isIn, m_isKnown, m_lean (hr' 1) (hn' 1) hw h.2.1.1 h.2.1.2, hS, hN]
        simp only [Option.bind_some, bit_if, bit_ifn]
        rw [if_pos h.1, if_pos (by omega), if_pos h.2.2.1, if_pos (by omega), if_neg (fun x => x h0)]
      · rw [fup_eq]; rfl
    · have hg : 0 < Int.gcd S N := Int.gcd_pos_of_ne_zero_right S h0
      have hg2 : ((Int.gcd S N : Nat) : Int) ≤ N := Int.gcd_le_right S (by omega)
      have t1 := tdiv_b (x := S) (y := (Int.gcd S N : Nat)) (by omega)
      have t2 := tdiv_b (x := N) (y := (Int.gcd S N : Nat)) (by omega)
      generalize hv : (if e = 0 then Int.tdiv S (Int.gcd S N) else Int.tdiv N (Int.gcd S N)) = v
      generalize hK : fup (fup M 47 9 (Int.tdiv S (Int.gcd S N))) 47 10 (Int.tdiv N (Int.gcd S N)) = K
      have hIK : Iv (fup K 155 0 v) := by
        rw [← hK]
        exact Iv_same (fs_up (fs_up (fs_up fs_refl (.inr (by decide))) (.inr (by decide))) (.inr (by decide)) : fSame [(47, some 9), (47, some 10), (155, some 0)] M _) (by decide) hI
      have hKr : ∀ k, k ≠ 47 → K k = M k := by
        intro k hk
        rw [← hK, fup_ne hk, fup_ne hk]
      refine ⟨0, fup K 155 0 v, v, fup (fup (fup K 155 0 v) 122 0 1) 122 0 0, ?_, ?_, ?_, ?_, fun _ => ?_, Iv_thrown (Iv_thrown hIK)⟩
      · unfold s_L_lean_0_155 s_X11_lean s_X1_weighLean
        rw [c_hasTuner, c_isWithin, c_isWithin, c_isKnowing, CR_r hc 4 (by decide) (by decide), c_lean hc hw h.2.1.1 h.2.1.2, hS, hN]
        simp only [Option.bind_some, bit_if, bit_ifn]
        rw [if_pos h.1, if_pos h.2.1, if_pos h.2.2.1, if_pos h.2.2.2, if_pos h0, c_keepLeast M (by omega) (by omega) (by omega) (by omega), hK]
        simp only [Option.bind_some]
        have e9 : K 47 9 = Int.tdiv S (Int.gcd S N) := by rw [← hK]; rfl
        have e10 : K 47 10 = Int.tdiv N (Int.gcd S N) := by rw [← hK]; rfl
        rw [if_pos (show ¬ (1 : Int) = 0 by decide), e9, e10, if_pos (show fin (Int.tdiv N (Int.gcd S N)) by unfold fin; omega), if_pos (show fin (Int.tdiv S (Int.gcd S N)) by unfold fin; omega)]
        rw [← hv]
        by_cases he : e = 0
        · rw [if_neg (fun x => x he), if_pos he]; rfl
        · rw [if_pos he, if_neg he]; rfl
      · rw [fup_ne (by decide), hKr 1000 (by decide)]
      · have hm2 : MRh (fup (fup K 155 0 v) 122 0 1) 124 0 D := MRh_row (by rw [fup_ne (by decide), fup_ne (by decide), hKr 124 (by decide)]) hm
        have hr2 : MRr (fup (fup K 155 0 v) 122 0 1) 125 0 D := MRr_row (by rw [fup_ne (by decide), fup_ne (by decide), hKr 125 (by decide)]) hr
        have hn2 : fup (fup K 155 0 v) 122 0 1 122 10 = D 18 8 := by
          rw [show fup (fup K 155 0 v) 122 0 1 122 10 = K 122 10 from rfl, hKr 122 (by decide), hn0]
        unfold s_X12_lean s_X12_lean_j178
        rw [m_isTuner hm2 hw.1, m_isIn, m_isIn, m_isKnown, m_lean hr2 hn2 hw h.2.1.1 h.2.1.2, hS, hN]
        simp only [Option.bind_some, bit_if, bit_ifn]
        rw [if_pos h.1, if_pos (by omega), if_pos h.2.2.1, if_pos (by omega), if_pos h0, m_common _ (by omega) (by omega) (by omega) (by omega)]
        rw [Option.bind_some, Option.bind_some]
        have hgd : fin ((Int.gcd S N : Nat) : Int) ∧ ((Int.gcd S N : Nat) : Int) ≠ 0 := by unfold fin; omega
        rw [if_pos hgd, if_pos hgd, fdiv_eq (by omega) (by omega) (by omega), fdiv_eq (by omega) (by omega) (by omega), ← hv]
        by_cases he : e = 0
        · rw [if_neg (fun x => x he), if_pos he]
        · rw [if_pos he, if_neg he]
      · rw [fup_eq]; rfl
      · rw [fup_ne (by decide), fup_ne (by decide), fup_eq]; rfl
  · refine ⟨1, M, 0, fup M 122 0 1, ?_, rfl, ?_, ?_, fun e => absurd e (by decide), Iv_thrown hI⟩
    · unfold s_L_lean_0_155 s_X11_lean
      rw [c_hasTuner, c_isWithin, c_isWithin, c_isKnowing, CR_r hc 4 (by decide) (by decide)]
      simp only [Option.bind_some, bit_if, bit_ifn]
      by_cases x1 : 0 ≤ a ∧ a < D 4 14
      · rw [if_pos x1]
        by_cases x2 : 0 ≤ b ∧ b < 12
        · rw [if_pos x2]
          by_cases x3 : -1 ≤ c ∧ c < 364
          · rw [if_pos x3, if_neg (fun y => h ⟨x1, x2, x3, y⟩)]
            rfl
          · rw [if_neg x3]; rfl
        · rw [if_neg x2]; rfl
      · rw [if_neg x1]; rfl
    · unfold s_X12_lean
      rw [m_isTuner (hm' 1) hw.1, m_isIn, m_isIn, m_isKnown]
      simp only [Option.bind_some, bit_if, bit_ifn]
      by_cases x1 : 0 ≤ a ∧ a < D 4 14
      · rw [if_pos x1]
        by_cases x2 : 0 ≤ b ∧ b < 12
        · rw [if_pos (by omega)]
          by_cases x3 : -1 ≤ c ∧ c < 364
          · rw [if_pos x3, if_neg (fun y => h ⟨x1, x2, x3, by omega⟩)]
          · rw [if_neg x3]
        · rw [if_neg (by omega)]
      · rw [if_neg x1]
    · rw [fup_eq]; rfl
