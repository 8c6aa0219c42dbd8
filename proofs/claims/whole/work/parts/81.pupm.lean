/-! ===== pupils: the reference, the call ===== -/
theorem pow_bd : ∀ T : Nat, T ≤ 6 → ∀ i : Nat, i ≤ 6 → T ^ i ≤ 46656 := by decide +kernel
theorem us_bd {D : fM} (hb : ∀ t u, t < 6 → u < 6 → 0 ≤ tw D t u ∧ tw D t u ≤ 99) {T k : Nat} (h0 : 0 < T) (hT : T ≤ 6) (hk : k ≤ 6) (c : Nat) : ∀ i, i ≤ k → 0 ≤ us (tw D) T k c i ∧ us (tw D) T k c i ≤ 99 * i
  | 0, _ => ⟨Int.le_refl _, Int.le_refl _⟩
  | i + 1, hi => by
    have ih := us_bd hb h0 hT hk c i (by omega)
    have := hb (dig T c i) (k - 1 - i) (Nat.lt_of_lt_of_le (dig_lt h0 c i) hT) (by omega)
    show 0 ≤ us (tw D) T k c i + tw D (dig T c i) (k - 1 - i) ∧ us (tw D) T k c i + tw D (dig T c i) (k - 1 - i) ≤ _
    omega
theorem m_code {K0 D : fM} (hm : MRh K0 124 0 D) (hb : ∀ t u, t < 6 → u < 6 → 0 ≤ tw D t u ∧ tw D t u ≤ 99) {T k : Nat} (h0 : 0 < T) (hT : T ≤ 6) (hk : k ≤ 6) (hk0 : 0 < k) {c : Nat} (hcl : c < 46656) (x y : Int) : ∃ K', s_X12_pupils_l93 (T : Int) (k : Int) x y (c : Int) ((c : Int), 0, 0, (k : Int) - 1, K0) = some (((um T c k : Nat) : Int), us (tw D) T k c k, K') ∧ (∀ q, q < k → K' 149 q = ((dig T c (k - 1 - q) : Nat) : Int)) ∧ ∀ a, a ≠ 149 → K' a = K0 a := by
  unfold s_X12_pupils_l93
  have key : (∃ e, fLp (fun s : Int × Int × Int × Int × fM => s_X12_pupils_b93 s.2.2.2.2 (T : Int) (k : Int) x y (c : Int) s.1 s.2.1 s.2.2.1 s.2.2.2.1) ((c : Int), 0, 0, (k : Int) - 1, K0) = some e ∧ (e.1 = ((um T c k : Nat) : Int) ∧ e.2.1 = us (tw D) T k c k ∧ (∀ q, q < k → e.2.2 149 q = ((dig T c (k - 1 - q) : Nat) : Int)) ∧ ∀ a, a ≠ 149 → e.2.2 a = K0 a)) := by
    refine fLp_ex (b := fun s : Int × Int × Int × Int × fM => s_X12_pupils_b93 s.2.2.2.2 (T : Int) (k : Int) x y (c : Int) s.1 s.2.1 s.2.2.1 s.2.2.2.1) (P := fun i s => s.1 = ((c / T ^ i : Nat) : Int) ∧ s.2.1 = ((um T c i : Nat) : Int) ∧ s.2.2.1 = us (tw D) T k c i ∧ s.2.2.2.1 = (k : Int) - 1 - (i : Int) ∧ (∀ q, k ≤ q + i → q < k → s.2.2.2.2 149 q = ((dig T c (k - 1 - q) : Nat) : Int)) ∧ ∀ a, a ≠ 149 → s.2.2.2.2 a = K0 a) (Q := fun e => e.1 = ((um T c k : Nat) : Int) ∧ e.2.1 = us (tw D) T k c k ∧ (∀ q, q < k → e.2.2 149 q = ((dig T c (k - 1 - q) : Nat) : Int)) ∧ ∀ a, a ≠ 149 → e.2.2 a = K0 a) k (s := ((c : Int), 0, 0, (k : Int) - 1, K0)) ⟨by rw [Nat.pow_zero, Nat.div_one], rfl, rfl, by simp, fun q h1 h2 => by omega, fun a _ => rfl⟩ (fun i s hi hp => ?_) (fun s hp => ?_)
    · obtain ⟨l6, l7, l8, l9, K⟩ := s
      obtain ⟨p1, p2, p3, p4, p5, p6⟩ := hp
      simp only at p1 p2 p3 p4 p5 p6
      have p4' : l9 = ((k - 1 - i : Nat) : Int) := by omega
      subst p1; subst p2; subst p3; subst p4'
      have hdl : c / T ^ i < 2147483648 := Nat.lt_of_le_of_lt (Nat.div_le_self _ _) (by omega)
      have hrem : frem ((c / T ^ i : Nat) : Int) (T : Int) = ((dig T c i : Nat) : Int) := frem_nat hdl h0
      have hdiv : fdiv ((c / T ^ i : Nat) : Int) (T : Int) = ((c / T ^ (i + 1) : Nat) : Int) := by
        rw [fdiv_nat hdl h0, Nat.div_div_eq_div_mul, Nat.pow_succ]
      have hd := dig_lt h0 c i
      have hd6 : dig T c i < 6 := by omega
      have htn : ((k - 1 - i : Nat) : Int).toNat = k - 1 - i := by omega
      have hup : fup K 149 (k - 1 - i) ((dig T c i : Nat) : Int) 149 (k - 1 - i) = ((dig T c i : Nat) : Int) := by rw [fup_eq, upd1_at]
      have hmt : K 124 (609 + 6 * ((dig T c i : Nat) : Int) + ((k - 1 - i : Nat) : Int)).toNat = tw D (dig T c i) (k - 1 - i) := by
        rw [p6 124 (by decide), mh_teach hm ((dig T c i : Nat) : Int) ((k - 1 - i : Nat) : Int) rfl (by omega) (by omega) (by omega) (by omega)]
        unfold tw
        rw [show (((dig T c i : Nat) : Int) * 6 + ((k - 1 - i : Nat) : Int)).toNat = dig T c i * 6 + (k - 1 - i) by omega]
      have hub := us_bd hb h0 hT hk c i (by omega)
      have hwb := hb (dig T c i) (k - 1 - i) hd6 (by omega)
      refine ⟨(((c / T ^ (i + 1) : Nat) : Int), ((um T c (i + 1) : Nat) : Int), us (tw D) T k c (i + 1), ((k - 1 - i : Nat) : Int) + (-1), fup K 149 (k - 1 - i) ((dig T c i : Nat) : Int)), ?_, rfl, rfl, rfl, by simp only; omega, fun q h1 h2 => ?_, fun a ha => ?_⟩
      · show s_X12_pupils_b93 K (T : Int) (k : Int) x y (c : Int) ((c / T ^ i : Nat) : Int) ((um T c i : Nat) : Int) (us (tw D) T k c i) ((k - 1 - i : Nat) : Int) = _
        unfold s_X12_pupils_b93
        rw [if_neg (by omega), if_pos (by omega), htn, hrem, hup, hmt, if_pos (by unfold fin; omega), if_pos (by unfold fin; omega), hdiv, b_or9 _ (by have := um_lt h0 hT c i; omega) _ (by omega)]
        rfl
      · show fup K 149 (k - 1 - i) _ 149 q = _
        rw [fup_eq]
        unfold upd1
        by_cases e2 : q = k - 1 - i
        · subst e2
          rw [if_pos rfl, show k - 1 - (k - 1 - i) = i by omega]
        · rw [if_neg e2]
          exact p5 q (by omega) h2
      · show fup K 149 (k - 1 - i) _ a = _
        rw [fup_ne ha, p6 a ha]
    · obtain ⟨l6, l7, l8, l9, K⟩ := s
      obtain ⟨p1, p2, p3, p4, p5, p6⟩ := hp
      simp only at p1 p2 p3 p4 p5 p6
      refine ⟨(l7, l8, K), ?_, p2, p3, fun q hq => p5 q (by omega) hq, p6⟩
      show s_X12_pupils_b93 K (T : Int) (k : Int) x y (c : Int) l6 l7 l8 l9 = _
      unfold s_X12_pupils_b93
      rw [if_pos (by omega)]
  obtain ⟨e, e1, e2, e3, e4, e5⟩ := key
  obtain ⟨u1, u2, u3⟩ := e
  simp only at e2 e3 e4 e5
  subst e2
  subst e3
  exact ⟨u3, e1, e4, e5⟩
theorem m_keep {K0 : fM} {k : Nat} (hk : k ≤ 6) (a b c d : Int) : ∃ K', s_X12_pupils_l188 a (k : Int) b c d (0, K0) = some K' ∧ (∀ q, q < k → K' 148 q = K0 149 q) ∧ ∀ r, r ≠ 148 → K' r = K0 r := by
  unfold s_X12_pupils_l188
  refine fLp_ex (P := fun i s => s.1 = (i : Int) ∧ (∀ q, q < i → s.2 148 q = K0 149 q) ∧ ∀ r, r ≠ 148 → s.2 r = K0 r) k ⟨rfl, fun q h => by omega, fun r _ => rfl⟩ (fun i s hi hp => ?_) (fun s hp => ?_)
  · obtain ⟨l, K⟩ := s
    obtain ⟨p1, p2, p3⟩ := hp
    simp only at p1 p2 p3
    subst p1
    refine ⟨((i : Int) + 1, fup K 148 i (K0 149 i)), ?_, by simp, fun q hq => ?_, fun r hr => ?_⟩
    · show s_X12_pupils_b188 K a (k : Int) b c d (i : Int) = _
      unfold s_X12_pupils_b188
      rw [if_neg (by omega), if_pos (by unfold fin; omega), show (i : Int).toNat = i from rfl, p3 149 (by decide)]
    · show fup K 148 i _ 148 q = _
      rw [fup_eq]
      unfold upd1
      by_cases e2 : q = i
      · subst e2; rw [if_pos rfl]
      · rw [if_neg e2]; exact p2 q (by omega)
    · show fup K 148 i _ r = _
      rw [fup_ne hr, p3 r hr]
  · obtain ⟨l, K⟩ := s
    obtain ⟨p1, p2, p3⟩ := hp
    simp only at p1 p2 p3
    subst p1
    refine ⟨K, ?_, p2, p3⟩
    show s_X12_pupils_b188 K a (k : Int) b c d (k : Int) = _
    unfold s_X12_pupils_b188
    rw [if_pos (Int.le_refl _)]
theorem m_pupils {N D : fM} (hm : MRh N 124 0 D) (hw : WF D) {T k : Nat} (hT : D 4 14 = T) (hk : k ≤ T) (hk0 : 0 < k) : ∃ K, s_X12_pupils_j38 N (T : Int) (k : Int) = some (tbl (tw D) T k k 0, K) ∧ K 122 60 = k ∧ ∀ q, q < k → K 148 q = ((gg (tw D) T k q : Nat) : Int) := by
  have hT6 : T ≤ 6 := by have := hw.1.2.1; omega
  have hb := tw_bd hw
  have h0 : 0 < T := by omega
  have hpow : T ^ k ≤ 46656 := pow_bd T hT6 k (by omega)
  have l50 : s_X12_pupils_l50 N (T : Int) (k : Int) (1, 0) = some ((T ^ k : Nat) : Int) := by
    unfold s_X12_pupils_l50
    have := fLp_for (b := fun s : Int × Int => s_X12_pupils_b50 N (T : Int) (k : Int) s.1 s.2) (fun i => (((T ^ i : Nat) : Int), (i : Int))) k (e := ((T ^ k : Nat) : Int)) (fun i hi => ?_) ?_
    · rw [show ((1 : Int), (0 : Int)) = (((T ^ 0 : Nat) : Int), ((0 : Nat) : Int)) from by rw [Nat.pow_zero]; rfl]
      exact this
    · show s_X12_pupils_b50 N (T : Int) (k : Int) ((T ^ i : Nat) : Int) (i : Int) = some (.inl (((T ^ (i + 1) : Nat) : Int), ((i + 1 : Nat) : Int)))
      unfold s_X12_pupils_b50
      have hp := pow_bd T hT6 (i + 1) (by omega)
      have e : ((T ^ i : Nat) : Int) * (T : Int) = ((T ^ (i + 1) : Nat) : Int) := by rw [← Int.natCast_mul, Nat.pow_succ]
      rw [if_neg (by omega), e, if_pos (by unfold fin; omega)]
      rfl
    · show s_X12_pupils_b50 N (T : Int) (k : Int) ((T ^ k : Nat) : Int) (k : Int) = _
      unfold s_X12_pupils_b50
      rw [if_pos (Int.le_refl _)]
  obtain ⟨e, l72, r1, r2⟩ : ∃ e, s_X12_pupils_l72 (T : Int) (k : Int) ((T ^ k : Nat) : Int) (-1, 0, N) = some e ∧ (∀ a, a ≠ 148 → a ≠ 149 → e.2 a = N a) ∧ ((e.1 = -1 ∧ ∀ c', c' < T ^ k → ¬ dst T k c') ∨ ∃ c0, c0 < T ^ k ∧ dst T k c0 ∧ us (tw D) T k c0 k = e.1 ∧ (∀ q, q < k → e.2 148 q = ((dig T c0 (k - 1 - q) : Nat) : Int)) ∧ (∀ c', c' < T ^ k → dst T k c' → us (tw D) T k c' k ≤ us (tw D) T k c0 k) ∧ ∀ c', c' < c0 → dst T k c' → us (tw D) T k c' k < us (tw D) T k c0 k) := by
    unfold s_X12_pupils_l72
    refine fLp_ex (P := fun c s => s.2.1 = (c : Int) ∧ (∀ a, a ≠ 148 → a ≠ 149 → s.2.2 a = N a) ∧ ((s.1 = -1 ∧ ∀ c', c' < c → ¬ dst T k c') ∨ ∃ c0, c0 < c ∧ dst T k c0 ∧ us (tw D) T k c0 k = s.1 ∧ (∀ q, q < k → s.2.2 148 q = ((dig T c0 (k - 1 - q) : Nat) : Int)) ∧ (∀ c', c' < c → dst T k c' → us (tw D) T k c' k ≤ us (tw D) T k c0 k) ∧ ∀ c', c' < c0 → dst T k c' → us (tw D) T k c' k < us (tw D) T k c0 k)) (T ^ k) ⟨rfl, fun a _ _ => rfl, .inl ⟨rfl, fun c' h => by omega⟩⟩ (fun c s hi hp => ?_) (fun s hp => ?_)
    · obtain ⟨v, l, K⟩ := s
      obtain ⟨p1, p2, p3⟩ := hp
      simp only at p1 p2 p3
      subst p1
      obtain ⟨K1, a1, a2, a3⟩ := m_code (K0 := K) (D := D) (MRh_row (p2 124 (by decide) (by decide)) hm) hb h0 hT6 (by omega) hk0 (c := c) (by omega) ((T ^ k : Nat) : Int) v
      have hum := um_lt h0 hT6 c k
      have hbits := m_bits K1 (m := um T c k) (by omega)
      have hpc := um_pc h0 hT6 c k
      have hub := us_bd hb h0 hT6 (by omega) c k (Nat.le_refl _)
      have start : s_X12_pupils_b72 K (T : Int) (k : Int) ((T ^ k : Nat) : Int) v (c : Int) = if ¬ ((pc (um T c k) 9 : Nat) : Int) = (k : Int) then some (.inl (v, (c : Int) + 1, K1)) else if v < us (tw D) T k c k then (s_X12_pupils_l188 (T : Int) (k : Int) ((T ^ k : Nat) : Int) (us (tw D) T k c k) (c : Int) (0, K1)).bind fun e188 => some (.inl (us (tw D) T k c k, (c : Int) + 1, e188)) else some (.inl (v, (c : Int) + 1, K1)) := by
        unfold s_X12_pupils_b72
        rw [if_neg (by omega), if_pos (by unfold fin; omega), a1, Option.bind_some]
        show (s_X12_bits K1 ((um T c k : Nat) : Int)).bind _ = _
        rw [hbits, Option.bind_some]
        have hfin : fin ((c : Int) + 1) := by unfold fin; omega
        simp only [if_pos hfin]
      by_cases hd : dst T k c
      · have hpk : pc (um T c k) 9 = k := hpc.2.2 hd
        by_cases hv : v < us (tw D) T k c k
        · obtain ⟨K2, b1, b2, b3⟩ := m_keep (K0 := K1) (k := k) (by omega) (T : Int) ((T ^ k : Nat) : Int) (us (tw D) T k c k) (c : Int)
          refine ⟨(us (tw D) T k c k, (c : Int) + 1, K2), ?_, by simp, fun a h1 h2 => ?_, .inr ⟨c, by omega, hd, rfl, fun q hq => ?_, fun c' h1 h2 => ?_, fun c' h1 h2 => ?_⟩⟩
          · show s_X12_pupils_b72 K (T : Int) (k : Int) ((T ^ k : Nat) : Int) v (c : Int) = _
            rw [start, if_neg (by omega), if_pos hv, b1]
            rfl
          · show K2 a = _
            rw [b3 a h1, a3 a h2, p2 a h1 h2]
          · show K2 148 q = _
            rw [b2 q hq, a2 q hq]
          · by_cases e : c' = c
            · subst e; exact Int.le_refl _
            · rcases p3 with ⟨q1, q2⟩ | ⟨c0, q1, q2, q3, q4, q5, q6⟩
              · exact absurd h2 (q2 c' (by omega))
              · have := q5 c' (by omega) h2
                omega
          · rcases p3 with ⟨q1, q2⟩ | ⟨c0, q1, q2, q3, q4, q5, q6⟩
            · exact absurd h2 (q2 c' h1)
            · have := q5 c' h1 h2
              omega
        · refine ⟨(v, (c : Int) + 1, K1), ?_, by simp, fun a h1 h2 => ?_, ?_⟩
          · show s_X12_pupils_b72 K (T : Int) (k : Int) ((T ^ k : Nat) : Int) v (c : Int) = _
            rw [start, if_neg (by omega), if_neg hv]
          · show K1 a = _
            rw [a3 a h2, p2 a h1 h2]
          · rcases p3 with ⟨q1, q2⟩ | ⟨c0, q1, q2, q3, q4, q5, q6⟩
            · exfalso; omega
            · refine .inr ⟨c0, by omega, q2, q3, fun q hq => ?_, fun c' h1 h2 => ?_, q6⟩
              · show K1 148 q = _
                rw [a3 148 (by decide)]
                exact q4 q hq
              · by_cases e : c' = c
                · subst e; omega
                · exact q5 c' (by omega) h2
      · have hpk : ¬ pc (um T c k) 9 = k := fun h => hd (hpc.2.1 h)
        refine ⟨(v, (c : Int) + 1, K1), ?_, by simp, fun a h1 h2 => ?_, ?_⟩
        · show s_X12_pupils_b72 K (T : Int) (k : Int) ((T ^ k : Nat) : Int) v (c : Int) = _
          rw [start, if_pos (by omega)]
        · show K1 a = _
          rw [a3 a h2, p2 a h1 h2]
        · rcases p3 with ⟨q1, q2⟩ | ⟨c0, q1, q2, q3, q4, q5, q6⟩
          · refine .inl ⟨q1, fun c' h => ?_⟩
            by_cases e : c' = c
            · subst e; exact hd
            · exact q2 c' (by omega)
          · refine .inr ⟨c0, by omega, q2, q3, fun q hq => ?_, fun c' h1 h2 => ?_, q6⟩
            · show K1 148 q = _
              rw [a3 148 (by decide)]
              exact q4 q hq
            · by_cases e : c' = c
              · subst e; exact absurd h2 hd
              · exact q5 c' (by omega) h2
    · obtain ⟨v, l, K⟩ := s
      obtain ⟨p1, p2, p3⟩ := hp
      simp only at p1 p2 p3
      subst p1
      refine ⟨(v, K), ?_, p2, p3⟩
      show s_X12_pupils_b72 K (T : Int) (k : Int) ((T ^ k : Nat) : Int) v ((T ^ k : Nat) : Int) = _
      unfold s_X12_pupils_b72
      rw [if_pos (Int.le_refl _)]
  obtain ⟨-, -, g3, -⟩ := gm_lt hb hT6 hk k (Nat.le_refl _)
  have hg : ∀ j, j < k → gg (tw D) T k j < T := fun j hj => (g3 j hj).1
  have hcdst := cd_dst hb hT6 hk
  have hcdus := cd_us hb hT6 hk k (Nat.le_refl _)
  rw [Nat.sub_self] at hcdus
  have hcdl : ∀ i, i ≤ k → cd (tw D) T k i < T ^ i := by
    intro i
    induction i with
    | zero => intro _; rw [Nat.pow_zero]; exact Nat.zero_lt_one
    | succ i ih =>
      intro hi
      have h1 := ih (by omega)
      have h2 := hg i (by omega)
      show cd (tw D) T k i * T + gg (tw D) T k i < T ^ (i + 1)
      have : (cd (tw D) T k i + 1) * T ≤ T ^ i * T := Nat.mul_le_mul_right T h1
      rw [Nat.add_mul, Nat.one_mul] at this
      rw [Nat.pow_succ]
      omega
  have hcdk := hcdl k (Nat.le_refl _)
  obtain ⟨v, K⟩ := e
  simp only at r1 r2
  rcases r2 with ⟨-, q2⟩ | ⟨c0, q1, q2, q3, q4, q5, q6⟩
  · exact absurd hcdst (q2 _ hcdk)
  · have h1 := q5 _ hcdk hcdst
    have h2 : us (tw D) T k c0 k ≤ tbl (tw D) T k k 0 := us_le h0 k 0 q2 (fun s _ => Nat.zero_testBit _)
    have hgm : gm (tw D) T k 0 = 0 := rfl
    rw [hgm] at hcdus
    have h3 : us (tw D) T k c0 k = tbl (tw D) T k k 0 := by omega
    have h4 : cd (tw D) T k k ≤ c0 := by
      rcases cd_le hb hT6 hk h0 q2 h3 k (Nat.le_refl _) with h | ⟨h, -⟩ | ⟨h, -⟩
      · rw [Nat.sub_self, Nat.pow_zero, Nat.div_one] at h; omega
      · rw [Nat.sub_self, Nat.pow_zero, Nat.div_one] at h; omega
      · omega
    have h5 : c0 = cd (tw D) T k k := by
      by_cases e : c0 = cd (tw D) T k k
      · exact e
      · have := q6 _ (by omega : cd (tw D) T k k < c0) hcdst
        omega
    refine ⟨fup K 122 60 (k : Int), ?_, by rw [fup_eq, upd1_at], fun q hq => ?_⟩
    · unfold s_X12_pupils_j38
      rw [if_pos (by omega), l50, Option.bind_some, l72, Option.bind_some]
      show some (v, fup K 122 60 (k : Int)) = _
      rw [← q3, h3]
    · rw [fup_ne (by decide), q4 q hq, h5, cd_dig hg (by omega), show k - 1 - (k - 1 - q) = q by omega]
theorem k_pupils {M : fM} (hI : Iv M) : ∃ v M1 M2, s_X11_pupils M = some (v, M1) ∧ M1 1000 = M 1000 ∧ s_X12_pupils M1 = some (v, M2) ∧ Iv M2 := by
  have hI0 := hI
  obtain ⟨q1, q2, q3, ⟨D, hc, hw, hm, hnm, hr, hn0⟩, ⟨D0, q5⟩, ⟨D1, q6⟩⟩ := hI
  have hT0 := hw.1.2.1
  have hP0 := hw.1.2.2.1
  have r4 : M 4 = D 4 := CR_r hc 4 (by decide) (by decide)
  obtain ⟨T, hT⟩ : ∃ T : Nat, D 4 14 = (T : Int) := ⟨(D 4 14).toNat, by omega⟩
  obtain ⟨P, hP⟩ : ∃ P : Nat, D 4 15 = (P : Int) := ⟨(D 4 15).toNat, by omega⟩
  by_cases h0 : T = 0 ∨ P = 0
  · refine ⟨-1, M, fup M 122 0 0, ?_, rfl, ?_, Iv_thrown hI0⟩
    · unfold s_X11_pupils
      rw [r4, hT, hP]
      by_cases e : P = 0
      · rw [if_pos (by omega)]
      · rw [if_neg (by omega), if_neg (by omega)]
    · unfold s_X12_pupils s_X12_pupils_j38
      obtain ⟨n1, n2, n3⟩ := mh_n hm
      rw [n2, n3, hT, hP]
      by_cases e : (T : Int) ≤ (P : Int)
      · rw [if_pos e, if_neg (by omega)]
      · rw [if_neg e, if_neg (by omega)]
  · obtain ⟨k, hk⟩ : ∃ k : Nat, k = if T ≤ P then T else P := ⟨_, rfl⟩
    have hkT : k ≤ T := by rw [hk]; split <;> omega
    have hk0 : 0 < k := by rw [hk]; split <;> omega
    have hkP : k ≤ P := by rw [hk]; split <;> omega
    obtain ⟨K, a1, a2, a3⟩ := c_share hc hw hT hkT hk0 (by rw [hT, hP, hk]; split <;> split <;> omega)
    have hcl : s_X11_pupils M = some (tbl (tw D) T k k 0, K) := by
      unfold s_X11_pupils
      rw [r4, hT, hP, if_neg (by omega), if_pos (by omega), a1]
      rfl
    have fA : fSame s_X11_pupils_mods M K := s_X11_pupils_fr hcl
    have hm2 : MRh (fup K 122 0 0) 124 0 D := MRh_row (by rw [fup_ne (by decide)]; exact fs_row fA 124 (by decide)) hm
    obtain ⟨N, b1, b2, b3⟩ := m_pupils hm2 hw hT hkT hk0
    have hml : s_X12_pupils K = some (tbl (tw D) T k k 0, N) := by
      unfold s_X12_pupils
      obtain ⟨n1, n2, n3⟩ := mh_n hm
      rw [fs_row fA 124 (by decide), n2, n3, hT, hP]
      by_cases e : (T : Int) ≤ (P : Int)
      · rw [if_pos e]
        rw [if_pos (by omega)] at hk
        rw [hk] at b1 ⊢
        exact b1
      · rw [if_neg e]
        rw [if_neg (by omega)] at hk
        rw [hk] at b1 ⊢
        exact b1
    have fB : fSame s_X12_pupils_mods K N := s_X12_pupils_fr hml
    have fAll : fSame (s_X11_pupils_mods ++ s_X12_pupils_mods) M N := fs_trans (fs_mono (fun x hx => List.mem_append_left _ hx) fA) (fs_mono (fun x hx => List.mem_append_right _ hx) fB)
    refine ⟨_, K, N, hcl, fs_row fA 1000 (by decide), hml, St_same fAll (by decide) q1, Tp_same fAll (by decide) q2, ?_, ⟨D, Cu_same fAll (by decide) (by decide) ⟨hc, hw, hm, hnm, hr, hn0⟩⟩, ⟨D0, Kp_same fAll (by decide) (by decide) q5⟩, ⟨D1, Kp_same fAll (by decide) (by decide) q6⟩⟩
    obtain ⟨o1, o2, o3, o4, o5, o6⟩ := q3
    have e70 : N 70 3 = k := by rw [fs_row fB 70 (by decide)]; exact a2
    refine ⟨?_, ?_, ?_, ?_, ?_, ?_⟩
    · rw [fs_at fAll 0 14 (by decide), fs_at fAll 122 15 (by decide)]; exact o1
    · rw [fs_at fAll 47 7 (by decide), fs_at fAll 122 31 (by decide), fs_at fAll 47 8 (by decide), fs_at fAll 122 32 (by decide)]; exact o2
    · rw [fs_at fAll 54 15 (by decide), fs_at fAll 122 51 (by decide), fs_row fAll 66 (by decide), fs_row fAll 142 (by decide)]; exact o3
    · rw [fs_at fAll 54 16 (by decide), fs_at fAll 122 49 (by decide)]; exact o4
    · rw [fs_at fAll 67 5 (by decide), fs_at fAll 122 57 (by decide)]; exact o5
    · refine ⟨by rw [e70, b2], by omega, by omega, fun i h1 h2 => ?_⟩
      obtain ⟨q, hq⟩ : ∃ q : Nat, i = (q : Int) := ⟨i.toNat, by omega⟩
      subst hq
      rw [Int.toNat_natCast, b3 q (by omega), fs_row fB 72 (by decide), a3 q (by omega)]
