/-! ===== the class's table of sums ===== -/
theorem wgV_bd (D : fM) (p d : Int) : 1 ≤ wgV D p d ∧ wgV D p d ≤ 50 := by
  unfold wgV
  split
  · omega
  · split <;> omega
theorem or_add9 : ∀ i : Nat, i < 9 → ∀ m : Nat, m < 2 ^ i → m ||| 2 ^ i = m + 2 ^ i := by decide +kernel
theorem wtm_top {w : Nat → Int} {m n : Nat} (h : m < 2 ^ n) : wtm w m (n + 1) = wtm w m n := by
  show wtm w m n + (if Nat.testBit m n then w n else 0) = _
  rw [Nat.testBit_lt_two_pow h]
  simp
theorem wtm_new {w : Nat → Int} {m n : Nat} (h : m < 2 ^ n) (hn : n < 9) : wtm w (m + 2 ^ n) (n + 1) = wtm w m n + w n := by
  rw [← or_add9 n hn m h]
  show wtm w (m ||| 2 ^ n) n + (if Nat.testBit (m ||| 2 ^ n) n then w n else 0) = _
  rw [wtm_off (m := m) n (fun x hx => by rw [tb_or, decide_eq_false (by omega)]; simp), tb_or, decide_eq_true rfl]
  simp
theorem wtm_bd {w : Nat → Int} (hw : ∀ i, 0 ≤ w i ∧ w i ≤ 50) (m : Nat) : ∀ n : Nat, 0 ≤ wtm w m n ∧ wtm w m n ≤ 50 * (n : Int)
  | 0 => by show (0 : Int) ≤ 0 ∧ (0 : Int) ≤ 50 * ((0 : Nat) : Int); omega
  | n + 1 => by
    have ih := wtm_bd hw m n
    have := hw n
    show 0 ≤ wtm w m n + (if Nat.testBit m n then w n else 0) ∧ wtm w m n + (if Nat.testBit m n then w n else 0) ≤ 50 * ((n + 1 : Nat) : Int)
    split <;> omega
theorem c_weigh {K D : fM} (hc : CR K 0 D) (hw : WF D) {d : Int} (hd : 0 ≤ d ∧ d < 364) {r : Nat → Int} {n : Nat} (hn : n ≤ 9) (hr : ∀ i, i < n → K 55 i = r i ∧ 0 ≤ r i ∧ r i < D 4 13) (h17 : K 54 17 = n) : ∃ K', s_X7_weigh K d = some ((), K') ∧ ∀ m, m < 2 ^ n → K' 61 m = wtm (fun i => wgV D (r i) d) m n := by
  have w50 : ∀ i, 0 ≤ (fun i => wgV D (r i) d) i ∧ (fun i => wgV D (r i) d) i ≤ 50 := fun i => by
    have := wgV_bd D (r i) d
    show 0 ≤ wgV D (r i) d ∧ wgV D (r i) d ≤ 50
    omega
  obtain ⟨A, a1, a2, a3⟩ : ∃ e, s_X7_weigh_l2 d (0, K) = some e ∧ (∀ i, i < n → e 60 i = wgV D (r i) d) ∧ fSame (lkL ++ [(60, none)]) K e := by
    unfold s_X7_weigh_l2
    refine fLp_ex (P := fun i s => s.1 = (i : Int) ∧ (∀ j, j < i → s.2 60 j = wgV D (r j) d) ∧ fSame (lkL ++ [(60, none)]) K s.2) n ⟨rfl, fun j hj => by omega, fs_refl⟩ (fun i s hi hp => ?_) (fun s hp => ?_)
    · obtain ⟨l, Q⟩ := s
      obtain ⟨p1, p2, p3⟩ := hp
      simp only at p1 p2 p3
      subst p1
      obtain ⟨h55, hp1, hp2⟩ := hr i hi
      have hcQ : CR Q 0 D := CR_same p3 (by decide) hc
      have q55 : Q 55 i = r i := by rw [fs_row p3 55 (by decide), h55]
      have q17 : Q 54 17 = n := by rw [fs_at p3 54 17 (by decide), h17]
      obtain ⟨B, b1, b2⟩ := c_weightOf hcQ hw hp1 hp2 hd.1 hd.2
      refine ⟨((i : Int) + 1, fup B 60 i (wgV D (r i) d)), ?_, by simp, fun j hj => ?_, ?_⟩
      · show s_X7_weigh_b2 Q d (i : Int) = _
        unfold s_X7_weigh_b2
        rw [q17, if_neg (by omega), if_pos (by omega), show (i : Int).toNat = i from rfl, q55, b1, Option.bind_some, if_pos (by unfold fin; omega)]
      · show fup B 60 i _ 60 j = _
        rw [fup_eq, fs_row b2 60 (by decide)]
        unfold upd1
        by_cases e : j = i
        · subst e; rw [if_pos rfl]
        · rw [if_neg e]; exact p2 j (by omega)
      · exact fs_up (fs_trans p3 (fs_mono (fun x hx => List.mem_append_left _ hx) b2)) (.inl (by decide))
    · obtain ⟨l, Q⟩ := s
      obtain ⟨p1, p2, p3⟩ := hp
      simp only at p1 p2 p3
      subst p1
      refine ⟨Q, ?_, p2, p3⟩
      show s_X7_weigh_b2 Q d (n : Int) = _
      unfold s_X7_weigh_b2
      rw [fs_at p3 54 17 (by decide), h17, if_pos (Int.le_refl _)]
  have a54 : A 54 17 = n := by rw [fs_at a3 54 17 (by decide), h17]
  obtain ⟨B, b1, b2⟩ : ∃ e, s_X7_weigh_l42 (0, fup A 61 0 0) = some e ∧ ∀ m, m < 2 ^ n → e 61 m = wtm (fun i => wgV D (r i) d) m n := by
    unfold s_X7_weigh_l42
    refine fLp_ex (P := fun i s => s.1 = (i : Int) ∧ (∀ m, m < 2 ^ i → s.2 61 m = wtm (fun i => wgV D (r i) d) m i) ∧ ∀ a, a ≠ 61 → s.2 a = A a) n ⟨rfl, fun m hm => ?_, fun a ha => fup_ne ha⟩ (fun i s hi hp => ?_) (fun s hp => ?_)
    · have : m < 1 := hm
      have : m = 0 := by omega
      subst this
      show fup A 61 0 0 61 0 = _
      rw [fup_eq, upd1_at]
      rfl
    · obtain ⟨l, Q⟩ := s
      obtain ⟨p1, p2, p3⟩ := hp
      simp only at p1 p2 p3
      subst p1
      have q17 : Q 54 17 = n := by rw [p3 54 (by decide), a54]
      have p9 : 2 ^ i ≤ 2 ^ 8 := Nat.pow_le_pow_right (n := 2) (by decide) (show i ≤ 8 by omega)
      obtain ⟨B, b1, b2, b3, b4⟩ : ∃ e, s_X7_weigh_l52 (i : Int) (0, Q) = some e ∧ (∀ m, m < 2 ^ i → e 61 m = wtm (fun i => wgV D (r i) d) m i) ∧ (∀ m, m < 2 ^ i → e 61 (m + 2 ^ i) = wtm (fun i => wgV D (r i) d) m i + wgV D (r i) d) ∧ ∀ a, a ≠ 61 → e a = A a := by
        unfold s_X7_weigh_l52
        refine fLp_ex (P := fun j s => s.1 = (j : Int) ∧ (∀ m, m < 2 ^ i → s.2 61 m = wtm (fun i => wgV D (r i) d) m i) ∧ (∀ m, m < j → s.2 61 (m + 2 ^ i) = wtm (fun i => wgV D (r i) d) m i + wgV D (r i) d) ∧ ∀ a, a ≠ 61 → s.2 a = A a) (2 ^ i) ⟨rfl, p2, fun m hm => by omega, p3⟩ (fun j s hj hp => ?_) (fun s hp => ?_)
        · obtain ⟨l, B⟩ := s
          obtain ⟨q1, q2, q3, q4⟩ := hp
          simp only at q1 q2 q3 q4
          subst q1
          have hwt := wtm_bd w50 j i
          have hwi : 0 ≤ wgV D (r i) d ∧ wgV D (r i) d ≤ 50 := w50 i
          have e60 : B 60 i = wgV D (r i) d := by rw [q4 60 (by decide), a2 i hi]
          have hor : fior (j : Int) (fshl 1 (i : Int)) = ((j + 2 ^ i : Nat) : Int) := by rw [b_or9 j (by omega) i (by omega), or_add9 i (by omega) j hj]
          refine ⟨((j : Int) + 1, fup B 61 (j + 2 ^ i) (wtm (fun i => wgV D (r i) d) j i + wgV D (r i) d)), ?_, by simp, fun m hm => ?_, fun m hm => ?_, fun a ha => ?_⟩
          · show s_X7_weigh_b52 B (i : Int) (j : Int) = _
            unfold s_X7_weigh_b52
            rw [hor, b_shl i (by omega), show (j : Int).toNat = j from rfl, show (i : Int).toNat = i from rfl, show ((j + 2 ^ i : Nat) : Int).toNat = j + 2 ^ i from rfl, q2 j hj, e60, if_neg (by omega), if_pos (by unfold fin; omega), if_pos (by unfold fin; omega)]
          · show fup B 61 (j + 2 ^ i) _ 61 m = _
            rw [fup_eq, upd1_ne (by omega)]
            exact q2 m hm
          · show fup B 61 (j + 2 ^ i) _ 61 (m + 2 ^ i) = _
            rw [fup_eq]
            by_cases e : m = j
            · subst e; rw [upd1_at]
            · rw [upd1_ne (by omega)]; exact q3 m (by omega)
          · show fup B 61 (j + 2 ^ i) _ a = _
            rw [fup_ne ha, q4 a ha]
        · obtain ⟨l, B⟩ := s
          obtain ⟨q1, q2, q3, q4⟩ := hp
          simp only at q1 q2 q3 q4
          subst q1
          refine ⟨B, ?_, q2, q3, q4⟩
          show s_X7_weigh_b52 B (i : Int) ((2 ^ i : Nat) : Int) = _
          unfold s_X7_weigh_b52
          rw [b_shl i (by omega), if_pos (Int.le_refl _)]
      have psucc : 2 ^ (i + 1) = 2 ^ i + 2 ^ i := by rw [Nat.pow_succ]; omega
      refine ⟨((i : Int) + 1, B), ?_, by simp, fun m hm => ?_, b4⟩
      · show s_X7_weigh_b42 Q (i : Int) = _
        unfold s_X7_weigh_b42
        rw [q17, if_neg (by omega), b1, Option.bind_some, if_pos (by unfold fin; omega)]
      · show B 61 m = _
        by_cases h : m < 2 ^ i
        · rw [b2 m h, wtm_top h]
        · obtain ⟨m', rfl⟩ : ∃ m', m = m' + 2 ^ i := ⟨m - 2 ^ i, by omega⟩
          rw [b3 m' (by omega), wtm_new (by omega) (by omega)]
    · obtain ⟨l, Q⟩ := s
      obtain ⟨p1, p2, p3⟩ := hp
      simp only at p1 p2 p3
      subst p1
      refine ⟨Q, ?_, p2⟩
      show s_X7_weigh_b42 Q (n : Int) = _
      unfold s_X7_weigh_b42
      rw [p3 54 (by decide), a54, if_pos (Int.le_refl _)]
  refine ⟨B, ?_, b2⟩
  unfold s_X7_weigh
  rw [a1, Option.bind_some, b1]
  rfl
