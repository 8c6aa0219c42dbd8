/-! ===== owed, fills, common divisors (by hand) ===== -/
theorem c_debtBy {M D : fM} (hc : CR M 0 D) (hw : WF D) {p day kn i : Int} (h1 : 0 ≤ i) (h2 : i < D 18 8) (hx : D 20 i.toNat = p ∧ D 21 i.toNat ≤ day ∧ (kn = -1 ∨ D 22 i.toNat ≤ kn)) : s_X0_debtBy M i kn = some (debtI D p day kn i) := by
  have hq := hw.2.2.2.2.2.2.2.2.2 i h1 h2
  have hr := hw.2.2.2.1.2.1
  have hn := hw.1.2.2.2.2
  have hf := freeI_b D i kn
  unfold s_X0_debtBy debtI
  rw [if_pos hx]
  rw [CR_r hc 19 (by decide) (by decide), CR_r hc 20 (by decide) (by decide), CR_r hc 21 (by decide) (by decide), CR_r hc 23 (by decide) (by decide), CR_r hc 8 (by decide) (by decide), if_pos (by omega), c_isFree hc hw h1 h2, c_feeOf hc hw hq.2.1.1 hq.2.1.2, hx.1]
  simp only [Option.bind_some, if_pos (show (0 : Int) ≤ i ∧ i < 200 by omega)]
  by_cases k0 : D 19 i.toNat = 0
  · rw [if_pos k0, if_pos k0]
    split <;> rfl
  · rw [if_neg k0, if_neg k0]
    by_cases k1 : D 19 i.toNat = 1
    · rw [if_pos k1, if_neg (by omega), if_neg (by omega)]
    · rw [if_neg k1]
      by_cases k2 : D 19 i.toNat = 2
      · rw [if_pos k2, if_neg (by omega), if_neg (by omega)]
      · rw [if_neg k2]
        by_cases k3 : D 19 i.toNat = 3
        · have := hq.2.2.2.2.2.2.2.1 k3
          rw [if_pos k3, if_pos k3, if_pos (by unfold fin; omega)]
        · rw [if_neg k3, if_neg k3]
          by_cases k4 : D 19 i.toNat = 4
          · rw [if_pos k4, if_pos k4, if_pos (by unfold fin; omega)]
          · rw [if_neg k4, if_neg k4]
theorem c_debt {M D : fM} (hc : CR M 0 D) (hw : WF D) (p day kn : Int) : s_X0_debt M p day kn = some (debtF D p day kn (nR D)) := by
  obtain ⟨hnn, hn2⟩ := nR_c hw.1
  have key : s_X0_debt_l6 M p day kn (0, 0) = some (debtF D p day kn (nR D)) := by
    unfold s_X0_debt_l6
    refine fLp_for (fun i => (debtF D p day kn i, (i : Int))) (nR D) (fun i hi => ?_) ?_
    · have hb := debtF_b hw p day kn i (by omega)
      have hd := debtI_b hw (p := p) (day := day) (kn := kn) (i := (i : Int)) (by omega) (by omega)
      show s_X0_debt_b6 M p day kn (debtF D p day kn i) (i : Int) = some (Sum.inl (debtF D p day kn i + debtI D p day kn i, (i : Int) + 1))
      unfold s_X0_debt_b6
      rw [CR_r hc 18 (by decide) (by decide), CR_r hc 20 (by decide) (by decide), CR_r hc 21 (by decide) (by decide), if_neg (by omega), c_isKnown hc (by omega) (by omega)]
      simp only [Option.bind_some, bit_if, if_pos (show (0 : Int) ≤ (i : Int) ∧ (i : Int) < 200 by omega), if_pos (show fin ((i : Int) + 1) by unfold fin; omega)]
      by_cases x1 : D 20 (i : Int).toNat = p
      · rw [if_neg (fun e => e x1)]
        by_cases x2 : day < D 21 (i : Int).toNat
        · rw [if_pos x2]
          unfold debtI
          rw [if_neg (fun e => absurd e.2.1 (by omega)), Int.add_zero]
        · rw [if_neg x2]
          by_cases x3 : kn = -1 ∨ D 22 (i : Int).toNat ≤ kn
          · rw [if_pos x3, c_debtBy hc hw (by omega) (by omega) ⟨x1, Int.not_lt.mp x2, x3⟩]
            simp only [Option.bind_some]
            rw [if_pos (by unfold fin; omega)]
          · rw [if_neg x3]
            unfold debtI
            rw [if_neg (fun e => x3 e.2.2), Int.add_zero]
      · rw [if_pos x1]
        unfold debtI
        rw [if_neg (fun e => x1 e.1), Int.add_zero]
    · show s_X0_debt_b6 M p day kn _ ((nR D : Nat) : Int) = _
      unfold s_X0_debt_b6
      rw [CR_r hc 18 (by decide) (by decide), if_pos (by omega)]
  unfold s_X0_debt
  rw [key]
  rfl
theorem m_owed {M D : fM} (hm : MRh M 124 0 D) (hr : MRr M 125 0 D) (hn0 : M 122 10 = D 18 8) (hw : WF D) {p : Int} (day kn : Int) (hp : 0 ≤ p) (hp2 : p < D 4 13) : s_X12_owed_l42 M p day kn (0, 0) = some (debtF D p day kn (nR D)) := by
  obtain ⟨hnn, hn2⟩ := nR_c hw.1
  unfold s_X12_owed_l42
  refine fLp_for (fun i => (debtF D p day kn i, (i : Int))) (nR D) (fun i hi => ?_) ?_
  · have hb := debtF_b hw p day kn i (by omega)
    have hd := debtI_b hw (p := p) (day := day) (kn := kn) (i := (i : Int)) (by omega) (by omega)
    have hq := hw.2.2.2.2.2.2.2.2.2 (i : Int) (by omega) (by omega)
    have hcake := hw.2.2.2.1.2.1
    have hf := freeI_b D i kn
    have hfv := feeV_b hw p (D 21 (i : Int).toNat)
    show s_X12_owed_b42 M p day kn (debtF D p day kn i) (i : Int) = some (Sum.inl (debtF D p day kn i + debtI D p day kn i, (i : Int) + 1))
    unfold s_X12_owed_b42 s_X12_owed_j96 s_X12_owed_j97 s_X12_owed_j131
    rw [hn0, if_neg (by omega), m_isOf hr hw.1 (by omega) (by omega), m_isOf hr hw.1 (by omega) (by omega), m_isOf hr hw.1 (by omega) (by omega), m_isFree hm hr hn0 hw (by omega) (by omega), mr_on hr (i : Int) rfl (by omega) (by omega), m_feeOf hm hw hp hp2, (mh_rule hm).2.1]
    simp only [Option.bind_some, bit_if, Int.add_zero, Int.sub_zero]
    unfold debtI
    by_cases x : D 20 (i : Int).toNat = p ∧ D 21 (i : Int).toNat ≤ day ∧ (kn = -1 ∨ D 22 (i : Int).toNat ≤ kn)
    · rw [if_pos x]
      unfold debtI at hd
      rw [if_pos x] at hd
      by_cases k0 : D 19 (i : Int).toNat = 0
      · rw [if_pos (show isK D i 0 p kn ∧ D 21 (i : Int).toNat ≤ day from ⟨⟨k0, x.1, x.2.2⟩, x.2.1⟩), if_pos k0]
        rw [if_neg (show ¬ (isK D i 3 p kn ∧ D 21 (i : Int).toNat ≤ day) from fun e => by have := e.1.1; omega), if_neg (show ¬ (isK D i 4 p kn ∧ D 21 (i : Int).toNat ≤ day) from fun e => by have := e.1.1; omega)]
        by_cases x3 : freeI D i kn = 0
        · rw [if_neg (fun e => e x3), if_pos x3, if_pos (by unfold fin; omega), if_pos (by unfold fin; omega)]
          rw [if_neg (show ¬ (isK D i 3 p kn ∧ D 21 (i : Int).toNat ≤ day) from fun e => by have := e.1.1; omega), if_neg (show ¬ (isK D i 4 p kn ∧ D 21 (i : Int).toNat ≤ day) from fun e => by have := e.1.1; omega)]
          rw [if_pos (by unfold fin; omega), if_pos (by unfold fin; omega)]
        · rw [if_pos x3, if_neg x3, if_pos (by unfold fin; omega), if_pos (by unfold fin; omega), if_pos (by unfold fin; omega), Int.add_zero]
      · rw [if_neg (show ¬ (isK D i 0 p kn ∧ D 21 (i : Int).toNat ≤ day) from fun e => k0 e.1.1), if_neg k0, if_pos (by unfold fin; omega)]
        by_cases k3 : D 19 (i : Int).toNat = 3
        · have hp3 := hq.2.2.2.2.2.2.2.1 k3
          rw [if_pos (show isK D i 3 p kn ∧ D 21 (i : Int).toNat ≤ day from ⟨⟨k3, x.1, x.2.2⟩, x.2.1⟩), if_pos k3, mr_first hr (i : Int) rfl (by omega) (by omega) (.inr (.inr (.inl k3)))]
          rw [if_neg (show ¬ (isK D i 4 p kn ∧ D 21 (i : Int).toNat ≤ day) from fun e => by have := e.1.1; omega)]
          rw [if_pos (by unfold fin; omega), if_pos (by unfold fin; omega), if_pos (by unfold fin; omega)]
          rfl
        · rw [if_neg (show ¬ (isK D i 3 p kn ∧ D 21 (i : Int).toNat ≤ day) from fun e => k3 e.1.1), if_neg k3, if_pos (by unfold fin; omega)]
          by_cases k4 : D 19 (i : Int).toNat = 4
          · rw [if_pos (show isK D i 4 p kn ∧ D 21 (i : Int).toNat ≤ day from ⟨⟨k4, x.1, x.2.2⟩, x.2.1⟩), if_pos k4, if_pos (by unfold fin; omega)]
            rfl
          · rw [if_neg (show ¬ (isK D i 4 p kn ∧ D 21 (i : Int).toNat ≤ day) from fun e => k4 e.1.1), if_neg k4, if_pos (by unfold fin; omega), Int.add_zero]
    · rw [if_neg x, if_neg (show ¬ (isK D i 0 p kn ∧ D 21 (i : Int).toNat ≤ day) from fun e => x ⟨e.1.2.1, e.2, e.1.2.2⟩), if_neg (show ¬ (isK D i 3 p kn ∧ D 21 (i : Int).toNat ≤ day) from fun e => x ⟨e.1.2.1, e.2, e.1.2.2⟩), if_neg (show ¬ (isK D i 4 p kn ∧ D 21 (i : Int).toNat ≤ day) from fun e => x ⟨e.1.2.1, e.2, e.1.2.2⟩)]
      rw [if_pos (by unfold fin; omega), if_pos (by unfold fin; omega), if_pos (by unfold fin; omega), Int.add_zero]
  · show s_X12_owed_b42 M p day kn _ ((nR D : Nat) : Int) = _
    unfold s_X12_owed_b42
    rw [hn0, if_pos (by omega)]
theorem k_owed {M : fM} (hI : Iv M) (a b c : Int) : ∃ k M1 v M2, s_L_owed_0_155 M a b c = some (k, M1) ∧ M1 1000 = M 1000 ∧ s_X12_owed M1 a b c = some (v, M2) ∧ M2 122 0 = k ∧ (k = 0 → M2 155 0 = v) ∧ Iv M2 := by
  obtain ⟨D, hc, hw, hm, hnm, hr, hn0⟩ := hI.2.2.2.1
  by_cases h : (0 ≤ a ∧ a < D 4 13) ∧ (0 ≤ b ∧ b < 364) ∧ (-1 ≤ c ∧ c < 364)
  · generalize hv : debtF D a b c (nR D) = v
    refine ⟨0, fup M 155 0 v, v, fup (fup M 155 0 v) 122 0 0, ?_, fup_ne (by decide), ?_, ?_, fun _ => ?_, ?_⟩
    · unfold s_L_owed_0_155 s_X11_owed
      rw [c_isAsked hc, c_debt hc hw, hv]
      simp only [Option.bind_some, bit_ifn]
      rw [if_pos h]
      rfl
    · have hm' : MRh (fup M 155 0 v) 124 0 D := MRh_row (fup_ne (by decide)) hm
      have hm2 : MRh (fup (fup M 155 0 v) 122 0 0) 124 0 D := MRh_row (fup_ne (by decide)) hm'
      have hr2 : MRr (fup (fup M 155 0 v) 122 0 0) 125 0 D := MRr_row (fup_ne (by decide)) (MRr_row (fup_ne (by decide)) hr)
      have hn2 : fup (fup M 155 0 v) 122 0 0 122 10 = D 18 8 := hn0
      unfold s_X12_owed s_X12_owed_j28 s_X12_owed_j23
      rw [m_isPiano hm' hw.1, m_isDay, m_isKnown]
      simp only [Option.bind_some, bit_if, bit_ifn]
      rw [if_pos h.1, if_pos h.2.1, if_pos h.2.2]
      rw [show s_X12_throwsIf (fup M 155 0 v) 0 = some (0, fup (fup M 155 0 v) 122 0 0) from rfl]
      simp only [Option.bind_some, if_true]
      rw [m_owed hm2 hr2 hn2 hw b c h.1.1 h.1.2, hv]
      rfl
    · rw [fup_eq]; rfl
    · rw [fup_ne (by decide), fup_eq]; rfl
    · exact Iv_thrown (Iv_same (fs_up1 M 155 0 _) (by decide) hI)
  · refine ⟨1, M, 0, fup M 122 0 1, ?_, rfl, ?_, ?_, fun e => absurd e (by decide), Iv_thrown hI⟩
    · unfold s_L_owed_0_155 s_X11_owed
      rw [c_isAsked hc]
      simp only [Option.bind_some, bit_ifn]
      rw [if_neg h]
      rfl
    · unfold s_X12_owed s_X12_owed_j23 s_X12_owed_j28
      rw [m_isPiano hm hw.1, m_isDay, m_isKnown]
      simp only [Option.bind_some, bit_if, bit_ifn]
      by_cases x1 : 0 ≤ a ∧ a < D 4 13
      · rw [if_pos x1]
        by_cases x2 : 0 ≤ b ∧ b < 364
        · rw [if_pos x2, if_neg (fun e => h ⟨x1, x2, e⟩)]
          rfl
        · rw [if_neg x2]
          rfl
      · rw [if_neg x1]
        rfl
    · rw [fup_eq]; rfl
/-! fills -/
def ffill (M : fM) (c n : Nat) (v : Int) : fM := fun a j => if a = c ∧ j < n then v else M a j
theorem fill_gen {b : fM → Int → Int → Int → Option ((Int × fM) ⊕ fM)} (c n : Nat) (hn : n ≤ 1000000) (hb : ∀ M v i l, b M v i l = if l ≤ i then some (.inr M) else if (0 ≤ i ∧ i < n) ∧ fin (i + 1) then some (.inl (i + 1, fup M c i.toNat v)) else none) (M : fM) (v : Int) : fLp (fun s : Int × fM => b s.2 v s.1 n) (0, M) = some (ffill M c n v) := by
  have e0 : M = ffill M c 0 v := by
    funext a j
    unfold ffill
    rw [if_neg (by omega)]
  have key := fLp_for (b := fun s : Int × fM => b s.2 v s.1 n) (fun i => ((i : Int), ffill M c i v)) n (e := ffill M c n v) (fun i hi => ?_) ?_
  · rw [← e0] at key
    exact key
  · show b (ffill M c i v) v (i : Int) n = some (Sum.inl ((i : Int) + 1, ffill M c (i + 1) v))
    rw [hb, if_neg (by omega), if_pos (by unfold fin; omega)]
    congr 3
    funext a j
    unfold fup ffill
    rw [Int.toNat_natCast]
    by_cases h1 : a = c
    · by_cases h2 : j = i
      · rw [if_pos ⟨h1, h2⟩, if_pos ⟨h1, by omega⟩]
      · rw [if_neg (fun e => h2 e.2)]
        by_cases h3 : j < i
        · rw [if_pos ⟨h1, h3⟩, if_pos ⟨h1, by omega⟩]
        · rw [if_neg (fun e => h3 e.2), if_neg (by omega)]
    · rw [if_neg (fun e => h1 e.1), if_neg (fun e => h1 e.1), if_neg (fun e => h1 e.1)]
  · show b (ffill M c n v) v (n : Int) n = _
    rw [hb, if_pos (by omega)]
theorem fill_50 (M : fM) (v : Int) : s_J7_fill_50 M v = some ((), ffill M 50 10 v) := by
  unfold s_J7_fill_50 s_J7_fill_50_l5
  rw [show fLp (fun s : Int × fM => s_J7_fill_50_b5 s.2 v s.1 10) (0, M) = some (ffill M 50 10 v) from fill_gen (b := s_J7_fill_50_b5) 50 10 (by decide) (fun _ _ _ _ => rfl) M v]
  rfl
theorem fill_51 (M : fM) (v : Int) : s_J7_fill_51 M v = some ((), ffill M 51 10 v) := by
  unfold s_J7_fill_51 s_J7_fill_51_l5
  rw [show fLp (fun s : Int × fM => s_J7_fill_51_b5 s.2 v s.1 10) (0, M) = some (ffill M 51 10 v) from fill_gen (b := s_J7_fill_51_b5) 51 10 (by decide) (fun _ _ _ _ => rfl) M v]
  rfl
theorem fill_48 (M : fM) (v : Int) : s_J7_fill_48 M v = some ((), ffill M 48 12 v) := by
  unfold s_J7_fill_48 s_J7_fill_48_l5
  rw [show fLp (fun s : Int × fM => s_J7_fill_48_b5 s.2 v s.1 12) (0, M) = some (ffill M 48 12 v) from fill_gen (b := s_J7_fill_48_b5) 48 12 (by decide) (fun _ _ _ _ => rfl) M v]
  rfl
theorem fill_49 (M : fM) (v : Int) : s_J7_fill_49 M v = some ((), ffill M 49 12 v) := by
  unfold s_J7_fill_49 s_J7_fill_49_l5
  rw [show fLp (fun s : Int × fM => s_J7_fill_49_b5 s.2 v s.1 12) (0, M) = some (ffill M 49 12 v) from fill_gen (b := s_J7_fill_49_b5) 49 12 (by decide) (fun _ _ _ _ => rfl) M v]
  rfl
theorem fill_44 (M : fM) (v : Int) : s_J7_fill_44 M v = some ((), ffill M 44 364 v) := by
  unfold s_J7_fill_44 s_J7_fill_44_l5
  rw [show fLp (fun s : Int × fM => s_J7_fill_44_b5 s.2 v s.1 364) (0, M) = some (ffill M 44 364 v) from fill_gen (b := s_J7_fill_44_b5) 44 364 (by decide) (fun _ _ _ _ => rfl) M v]
  rfl
theorem fill_46 (M : fM) (v : Int) : s_J7_fill_46 M v = some ((), ffill M 46 12 v) := by
  unfold s_J7_fill_46 s_J7_fill_46_l5
  rw [show fLp (fun s : Int × fM => s_J7_fill_46_b5 s.2 v s.1 12) (0, M) = some (ffill M 46 12 v) from fill_gen (b := s_J7_fill_46_b5) 46 12 (by decide) (fun _ _ _ _ => rfl) M v]
  rfl
theorem fill_29 (M : fM) (v : Int) : s_J7_fill_29 M v = some ((), ffill M 29 12 v) := by
  unfold s_J7_fill_29 s_J7_fill_29_l5
  rw [show fLp (fun s : Int × fM => s_J7_fill_29_b5 s.2 v s.1 12) (0, M) = some (ffill M 29 12 v) from fill_gen (b := s_J7_fill_29_b5) 29 12 (by decide) (fun _ _ _ _ => rfl) M v]
  rfl
theorem fill_30 (M : fM) (v : Int) : s_J7_fill_30 M v = some ((), ffill M 30 52 v) := by
  unfold s_J7_fill_30 s_J7_fill_30_l5
  rw [show fLp (fun s : Int × fM => s_J7_fill_30_b5 s.2 v s.1 52) (0, M) = some (ffill M 30 52 v) from fill_gen (b := s_J7_fill_30_b5) 30 52 (by decide) (fun _ _ _ _ => rfl) M v]
  rfl
theorem fill_31 (M : fM) (v : Int) : s_J7_fill_31 M v = some ((), ffill M 31 52 v) := by
  unfold s_J7_fill_31 s_J7_fill_31_l5
  rw [show fLp (fun s : Int × fM => s_J7_fill_31_b5 s.2 v s.1 52) (0, M) = some (ffill M 31 52 v) from fill_gen (b := s_J7_fill_31_b5) 31 52 (by decide) (fun _ _ _ _ => rfl) M v]
  rfl
theorem fill_38 (M : fM) (v : Int) : s_J7_fill_38 M v = some ((), ffill M 38 36 v) := by
  unfold s_J7_fill_38 s_J7_fill_38_l5
  rw [show fLp (fun s : Int × fM => s_J7_fill_38_b5 s.2 v s.1 36) (0, M) = some (ffill M 38 36 v) from fill_gen (b := s_J7_fill_38_b5) 38 36 (by decide) (fun _ _ _ _ => rfl) M v]
  rfl
/-! common divisors -/
theorem ffill_at (M : fM) (c n : Nat) (v : Int) {j : Nat} (h : j < n) : ffill M c n v c j = v := by
  unfold ffill
  rw [if_pos ⟨rfl, h⟩]
theorem ffill_ne {M : fM} {c n a : Nat} {v : Int} (h : a ≠ c) : ffill M c n v a = M a := by
  funext j
  unfold ffill
  rw [if_neg (fun e => h e.1)]
theorem flrm_eq {x y : Int} (h1 : 0 ≤ x) (h2 : x < 9223372036854775808) (h3 : 0 < y) (h4 : y < 9223372036854775808) : flrm x y = x % y := by
  unfold flrm
  have e1 : Int.tdiv x y = x / y := Int.tdiv_eq_ediv_of_nonneg h1
  have b1 : 0 ≤ x / y := Int.ediv_nonneg h1 (Int.le_of_lt h3)
  have b2 : x / y * y ≤ x := Int.ediv_mul_le x (Int.ne_of_gt h3)
  have b3 : x / y ≤ x := Int.ediv_le_self y h1
  have b4 : 0 ≤ x / y * y := Int.mul_nonneg b1 (Int.le_of_lt h3)
  rw [e1, fwl_id (x := x / y) ⟨by omega, by omega⟩, fwl_id (x := x / y * y) ⟨by omega, by omega⟩, fwl_id ⟨by omega, by omega⟩]
  have := Int.mul_ediv_add_emod x y
  rw [Int.mul_comm] at this
  omega
theorem gcd_step (a b : Int) : Int.gcd b (a % b) = Int.gcd a b := by
  have h := Int.mul_ediv_add_emod a b
  have h2 := Int.gcd_mul_left_add_right b (a % b) (a / b)
  rw [h] at h2
  rw [Int.gcd_comm a b]
  exact h2.symm
theorem gcd_abs (a b : Int) : Int.gcd (absI a) b = Int.gcd a b := by
  unfold absI
  split
  · rfl
  · exact Int.neg_gcd
theorem gcd_z {a : Int} (h : 0 ≤ a) : ((Int.gcd a 0 : Nat) : Int) = a := by
  rw [Int.gcd_zero]
  omega
theorem m_euclid (M : fM) : ∀ (n : Nat) (a b : Int), 0 ≤ a → a < 9223372036854775808 → 0 ≤ b → b < 9223372036854775808 → b ≤ n → fLp (fun s : Int × Int => s_X12_common_b28 M s.1 s.2) (a, b) = some ((Int.gcd a b : Nat) : Int)
  | n, a, b, h1, h2, h3, h4, h5 => by
    rw [fLp_eq]
    show (s_X12_common_b28 M a b).bind _ = _
    unfold s_X12_common_b28
    by_cases h : b = 0
    · rw [if_pos h, h]
      exact congrArg some (gcd_z h1).symm
    · rw [if_neg h, if_pos h, flrm_eq h1 h2 (by omega) h4]
      have b1 := Int.emod_nonneg a h
      have b2 := Int.emod_lt_of_pos a (show 0 < b by omega)
      cases n with
      | zero => omega
      | succ n =>
        rw [← gcd_step a b]
        exact m_euclid M n b (a % b) h3 h4 b1 (by omega) (by omega)
theorem c_euclid (M : fM) (o u : Int) : ∀ (m : Nat) (a b i : Int), 0 ≤ a → a < 9223372036854775808 → 0 ≤ b → b < 9223372036854775808 → b < (2 : Int) ^ m → 0 ≤ i → i + 2 * m + 1 ≤ 200 → fLp (fun s : Int × Int × Int => s_X1_keepLeast_b12 M o u s.1 s.2.1 s.2.2) (a, b, i) = some ((Int.gcd a b : Nat) : Int)
  | 0, a, b, i, h1, h2, h3, h4, h5, h6, h7 => by
    have h : b = 0 := by
      rw [Int.pow_zero] at h5
      omega
    rw [fLp_eq]
    show (s_X1_keepLeast_b12 M o u a b i).bind _ = _
    unfold s_X1_keepLeast_b12
    rw [if_neg (by omega), if_pos h, h]
    exact congrArg some (gcd_z h1).symm
  | m + 1, a, b, i, h1, h2, h3, h4, h5, h6, h7 => by
    rw [Int.pow_succ] at h5
    rw [fLp_eq]
    show (s_X1_keepLeast_b12 M o u a b i).bind _ = _
    unfold s_X1_keepLeast_b12
    rw [if_neg (by omega)]
    by_cases h : b = 0
    · rw [if_pos h, h]
      exact congrArg some (gcd_z h1).symm
    · rw [if_neg h, if_pos (by unfold fin; omega), flrm_eq h1 h2 (by omega) h4]
      have b1 := Int.emod_nonneg a h
      have b2 := Int.emod_lt_of_pos a (show 0 < b by omega)
      rw [← gcd_step a b]
      generalize a % b = c at b1 b2 ⊢
      show fLp (fun s : Int × Int × Int => s_X1_keepLeast_b12 M o u s.1 s.2.1 s.2.2) (b, c, i + 1) = _
      rw [fLp_eq]
      show (s_X1_keepLeast_b12 M o u b c (i + 1)).bind _ = _
      unfold s_X1_keepLeast_b12
      rw [if_neg (by omega)]
      by_cases hc : c = 0
      · rw [if_pos hc, hc]
        exact congrArg some (gcd_z h3).symm
      · rw [if_neg hc, if_pos (by unfold fin; omega), flrm_eq h3 h4 (by omega) (by omega)]
        have c1 := Int.emod_nonneg b hc
        have c2 := Int.emod_lt_of_pos b (show 0 < c by omega)
        have c3 : b % c + c ≤ b := by
          have e := Int.mul_ediv_add_emod b c
          have q1 : 1 ≤ b / c := Int.le_ediv_of_mul_le (by omega) (by omega)
          have q2 : c * 1 ≤ c * (b / c) := Int.mul_le_mul_of_nonneg_left q1 (by omega)
          omega
        rw [← gcd_step b c]
        exact c_euclid M o u m c (b % c) (i + 1 + 1) b1 (by omega) c1 (by omega) (by omega) (by omega) (by omega)
theorem tdiv_b {x y : Int} (hy : 0 < y) : (0 ≤ x → 0 ≤ Int.tdiv x y ∧ Int.tdiv x y ≤ x) ∧ (x ≤ 0 → x ≤ Int.tdiv x y ∧ Int.tdiv x y ≤ 0) := by
  refine ⟨fun h => ?_, fun h => ?_⟩
  · rw [Int.tdiv_eq_ediv_of_nonneg h]
    exact ⟨Int.ediv_nonneg h (by omega), Int.ediv_le_self y h⟩
  · have e : Int.tdiv x y = -Int.tdiv (-x) y := by rw [Int.neg_tdiv, Int.neg_neg]
    have h' : 0 ≤ -x := by omega
    have := Int.ediv_nonneg h' (show 0 ≤ y by omega)
    have := Int.ediv_le_self y h'
    rw [e, Int.tdiv_eq_ediv_of_nonneg h']
    omega
theorem fldv_eq {x y : Int} (h1 : -9223372036854775808 ≤ x) (h2 : x < 9223372036854775808) (hy : 0 < y) : fldv x y = Int.tdiv x y := by
  unfold fldv
  have := tdiv_b (x := x) hy
  exact fwl_id ⟨by omega, by omega⟩
theorem fdiv_eq {x y : Int} (h1 : -2147483648 ≤ x) (h2 : x < 2147483648) (hy : 0 < y) : fdiv x y = Int.tdiv x y := by
  unfold fdiv
  have := tdiv_b (x := x) hy
  exact fw_id ⟨by omega, by omega⟩
theorem m_common (M : fM) {a b : Int} (h1 : -9223372036854775808 < a) (h2 : a < 9223372036854775808) (h3 : -9223372036854775808 < b) (h4 : b < 9223372036854775808) : s_X12_common M a b = some ((Int.gcd a b : Nat) : Int) := by
  have key : ∀ a b : Int, 0 ≤ a → a < 9223372036854775808 → 0 ≤ b → b < 9223372036854775808 → s_X12_common_j26 M a b = some ((Int.gcd a b : Nat) : Int) := by
    intro a b h1 h2 h3 h4
    unfold s_X12_common_j26 s_X12_common_l28
    rw [m_euclid M b.toNat a b h1 h2 h3 h4 (by omega)]
    rfl
  have k2 : ∀ a b : Int, 0 ≤ a → a < 9223372036854775808 → -9223372036854775808 < b → b < 9223372036854775808 → s_X12_common_j12 M b a = some ((Int.gcd a b : Nat) : Int) := by
    intro a b h1 h2 h3 h4
    unfold s_X12_common_j12
    by_cases h : 0 ≤ b
    · rw [if_pos h, key a b h1 h2 h h4]
    · rw [if_neg h, if_pos (by unfold finl; omega), key a (-b) h1 h2 (by omega) (by omega), Int.gcd_neg]
  unfold s_X12_common
  by_cases h : 0 ≤ a
  · rw [if_pos h, k2 a b h h2 h3 h4]
  · rw [if_neg h, if_pos (by unfold finl; omega), k2 (-a) b (by omega) (by omega) h3 h4, Int.neg_gcd]
theorem c_keepLeast (M : fM) {o u : Int} (h1 : -9223372036854775808 < o) (h2 : o < 9223372036854775808) (h3 : 0 < u) (h4 : u < 9223372036854775808) : s_X1_keepLeast M o u = some ((), fup (fup M 47 9 (Int.tdiv o (Int.gcd o u))) 47 10 (Int.tdiv u (Int.gcd o u))) := by
  have e1 : s_J9_absl M o = some (absI o) := by
    unfold s_J9_absl absI
    by_cases h : 0 ≤ o
    · rw [if_pos h, if_pos h]
    · rw [if_neg h, if_neg h, if_pos (by unfold finl; omega)]
  have hg : 0 < Int.gcd o u := Int.gcd_pos_of_ne_zero_right o (by omega)
  have hab : 0 ≤ absI o ∧ absI o < 9223372036854775808 := by
    unfold absI
    split <;> omega
  have e2 : s_X1_keepLeast_l12 M o u (absI o, u, 0) = some ((Int.gcd o u : Nat) : Int) := by
    unfold s_X1_keepLeast_l12
    rw [c_euclid M o u 63 (absI o) u 0 hab.1 hab.2 (by omega) h4 (by omega) (by omega) (by omega), gcd_abs]
  unfold s_X1_keepLeast s_X1_keepLeast_j48 s_X1_keepLeast_j64
  rw [e1]
  simp only [Option.bind_some]
  rw [e2]
  simp only [Option.bind_some]
  have hne : ¬ ((Int.gcd o u : Nat) : Int) = 0 := by omega
  rw [if_pos hne, if_pos hne, if_pos hne, if_pos hne, fldv_eq (by omega) h2 (by omega), fldv_eq (by omega) h4 (by omega)]
