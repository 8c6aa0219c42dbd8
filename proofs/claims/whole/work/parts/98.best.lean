/-! ===== round: the class ===== -/
theorem c_chosen {K : fM} {n : Nat} (hn : n ≤ 9) (h18 : K 54 18 = ((2 ^ n : Nat) : Int)) (h0 : K 63 0 < 1000000) : ∃ c : Nat, s_X7_best_l27 K (0, 1) = some (c : Int) ∧ c < 2 ^ n ∧ K 63 c < 1000000 ∧ ∀ m, m < 2 ^ n → K 63 m < 1000000 → K 61 m < K 61 c ∨ (K 61 m = K 61 c ∧ K 63 c ≤ K 63 m) := by
  have p512 : 2 ^ n ≤ 2 ^ 9 := Nat.pow_le_pow_right (n := 2) (by decide) hn
  have p1 : 1 ≤ 2 ^ n := Nat.one_le_two_pow
  have key : ∃ e, s_X7_best_l27 K (0, 1) = some e ∧ ∃ c : Nat, e = (c : Int) ∧ c < 2 ^ n ∧ K 63 c < 1000000 ∧ ∀ m, m < 2 ^ n → K 63 m < 1000000 → K 61 m < K 61 c ∨ (K 61 m = K 61 c ∧ K 63 c ≤ K 63 m) := by
    unfold s_X7_best_l27
    refine fLp_ex (P := fun i s => s.2 = ((i + 1 : Nat) : Int) ∧ ∃ c : Nat, s.1 = (c : Int) ∧ c < 2 ^ n ∧ K 63 c < 1000000 ∧ ∀ m, m < i + 1 → K 63 m < 1000000 → K 61 m < K 61 c ∨ (K 61 m = K 61 c ∧ K 63 c ≤ K 63 m)) (2 ^ n - 1) ⟨rfl, 0, rfl, by omega, h0, fun m hm _ => ?_⟩ (fun i s hi hp => ?_) (fun s hp => ?_)
    · have : m = 0 := by omega
      subst this
      exact .inr ⟨rfl, Int.le_refl _⟩
    · obtain ⟨l4, l5⟩ := s
      obtain ⟨q1, c, q2, q3, q4, q5⟩ := hp
      simp only at q1 q2
      subst q1 q2
      generalize hj : i + 1 = j at q5 ⊢
      have hjl : j < 2 ^ n := by omega
      have g1 : (0 ≤ (j : Int) ∧ (j : Int) < 512) := by omega
      have g2 : (0 ≤ (j : Int) ∧ (j : Int) < 512) ∧ (0 ≤ (c : Int) ∧ (c : Int) < 512) := by omega
      have hfi : fin ((j : Int) + 1) := by unfold fin; omega
      have gn : ¬ K 54 18 ≤ (j : Int) := by rw [h18]; omega
      -- the two ways on
      have keep : (K 63 j < 1000000 → K 61 j < K 61 c ∨ (K 61 j = K 61 c ∧ K 63 c ≤ K 63 j)) → ((j : Int) + 1 = ((j + 1 : Nat) : Int) ∧ ∃ c' : Nat, (c : Int) = (c' : Int) ∧ c' < 2 ^ n ∧ K 63 c' < 1000000 ∧ ∀ m, m < j + 1 → K 63 m < 1000000 → K 61 m < K 61 c' ∨ (K 61 m = K 61 c' ∧ K 63 c' ≤ K 63 m)) := fun h => ⟨by simp, c, rfl, q3, q4, fun m h1 h2 => by
        by_cases e : m = j
        · subst e; exact h h2
        · exact q5 m (by omega) h2⟩
      have tak : K 63 j < 1000000 → (K 61 c < K 61 j ∨ (K 61 c = K 61 j ∧ K 63 j ≤ K 63 c)) → ((j : Int) + 1 = ((j + 1 : Nat) : Int) ∧ ∃ c' : Nat, (j : Int) = (c' : Int) ∧ c' < 2 ^ n ∧ K 63 c' < 1000000 ∧ ∀ m, m < j + 1 → K 63 m < 1000000 → K 61 m < K 61 c' ∨ (K 61 m = K 61 c' ∧ K 63 c' ≤ K 63 m)) := fun hf h => ⟨by simp, j, rfl, hjl, hf, fun m h1 h2 => by
        by_cases e : m = j
        · subst e; exact .inr ⟨rfl, Int.le_refl _⟩
        · have := q5 m (by omega) h2
          omega⟩
      have ev : s_X7_best_b27 K (c : Int) (j : Int) = if 1000000 ≤ K 63 j then some (.inl ((c : Int), (j : Int) + 1)) else if K 61 c < K 61 j ∨ (K 61 j = K 61 c ∧ K 63 j < K 63 c) then some (.inl ((j : Int), (j : Int) + 1)) else some (.inl ((c : Int), (j : Int) + 1)) := by
        have e99 : ∀ l6 t0 : Int, s_X7_best_j99 K (c : Int) (j : Int) l6 t0 = if 1000000 ≤ K 63 j then some (.inl ((c : Int), (j : Int) + 1)) else if ¬ l6 = 0 then some (.inl ((j : Int), (j : Int) + 1)) else if t0 = 0 then some (.inl ((c : Int), (j : Int) + 1)) else some (.inl ((j : Int), (j : Int) + 1)) := by
          intro l6 t0
          unfold s_X7_best_j99
          rw [if_pos g1]
          simp only [if_pos hfi]
          rfl
        have e58 : ∀ t0 : Int, s_X7_best_j58 K (c : Int) (j : Int) t0 = if ¬ K 61 j = K 61 c then s_X7_best_j99 K (c : Int) (j : Int) t0 0 else if K 63 c ≤ K 63 j then s_X7_best_j99 K (c : Int) (j : Int) t0 0 else s_X7_best_j99 K (c : Int) (j : Int) t0 1 := by
          intro t0
          unfold s_X7_best_j58 s_X7_best_j98
          rw [if_pos g2]
          simp only [if_pos g2]
          rfl
        have z1 : ¬ ¬ (0 : Int) = 0 := fun h => h rfl
        have z2 : ¬ (1 : Int) = 0 := by decide
        unfold s_X7_best_b27
        rw [if_neg gn, if_pos g2, show (j : Int).toNat = j from rfl, show (c : Int).toNat = c from rfl]
        by_cases a : K 61 j ≤ K 61 c
        · rw [if_pos a, e58]
          by_cases b : K 61 j = K 61 c
          · rw [if_neg (show ¬ ¬ K 61 j = K 61 c from fun e => e b)]
            by_cases d : K 63 c ≤ K 63 j
            · rw [if_pos d, e99]
              by_cases f : 1000000 ≤ K 63 j
              · rw [if_pos f, if_pos f]
              · rw [if_neg f, if_neg f, if_neg z1, if_pos (show (0 : Int) = 0 from rfl), if_neg (show ¬ (K 61 c < K 61 j ∨ (K 61 j = K 61 c ∧ K 63 j < K 63 c)) by omega)]
            · rw [if_neg d, e99]
              by_cases f : 1000000 ≤ K 63 j
              · rw [if_pos f, if_pos f]
              · rw [if_neg f, if_neg f, if_neg z1, if_neg z2, if_pos (show K 61 c < K 61 j ∨ (K 61 j = K 61 c ∧ K 63 j < K 63 c) by omega)]
          · rw [if_pos (show ¬ K 61 j = K 61 c from b), e99]
            by_cases f : 1000000 ≤ K 63 j
            · rw [if_pos f, if_pos f]
            · rw [if_neg f, if_neg f, if_neg z1, if_pos (show (0 : Int) = 0 from rfl), if_neg (show ¬ (K 61 c < K 61 j ∨ (K 61 j = K 61 c ∧ K 63 j < K 63 c)) by omega)]
        · rw [if_neg a, e58, if_pos (show ¬ K 61 j = K 61 c by omega), e99]
          by_cases f : 1000000 ≤ K 63 j
          · rw [if_pos f, if_pos f]
          · rw [if_neg f, if_neg f, if_pos (show ¬ (1 : Int) = 0 from z2), if_pos (show K 61 c < K 61 j ∨ (K 61 j = K 61 c ∧ K 63 j < K 63 c) by omega)]
      by_cases f : 1000000 ≤ K 63 j
      · refine ⟨((c : Int), (j : Int) + 1), ?_, keep (fun h => by omega)⟩
        show s_X7_best_b27 K (c : Int) (j : Int) = _
        rw [ev, if_pos f]
      · by_cases d : K 61 c < K 61 j ∨ (K 61 j = K 61 c ∧ K 63 j < K 63 c)
        · refine ⟨((j : Int), (j : Int) + 1), ?_, tak (by omega) (by omega)⟩
          show s_X7_best_b27 K (c : Int) (j : Int) = _
          rw [ev, if_neg f, if_pos d]
        · refine ⟨((c : Int), (j : Int) + 1), ?_, keep (fun h => by omega)⟩
          show s_X7_best_b27 K (c : Int) (j : Int) = _
          rw [ev, if_neg f, if_neg d]
    · obtain ⟨l4, l5⟩ := s
      obtain ⟨q1, c, q2, q3, q4, q5⟩ := hp
      simp only at q1 q2
      subst q1 q2
      refine ⟨(c : Int), ?_, c, rfl, q3, q4, fun m hm => q5 m (by omega)⟩
      show s_X7_best_b27 K (c : Int) ((2 ^ n - 1 + 1 : Nat) : Int) = _
      unfold s_X7_best_b27
      rw [h18, if_pos (by omega)]
  obtain ⟨e, e1, c, e2, e3⟩ := key
  subst e2
  exact ⟨c, e1, e3⟩
theorem LQ_congr {S : Sc} {Hm : Int} {L L' : Nat → Nat → Int} {rest i : Nat} (h1 : L' rest i = L rest i) (h2 : ∀ j, Nat.testBit rest j = true → L' (mw rest j) j = L (mw rest j) j) (h : LQ S Hm L rest i) : LQ S Hm L' rest i := by
  have hb : ∀ j, Nat.testBit rest j = true → bg S L' rest j = bg S L rest j := fun j hj => by
    unfold bg
    rw [h2 j hj]
  unfold LQ at h ⊢
  rw [h1]
  refine ⟨h.1, fun e => ?_⟩
  obtain ⟨a, b, c⟩ := h.2 e
  refine ⟨?_, b, fun j hj ho => ?_⟩
  · rcases a with a | ⟨j, a1, a2, a3⟩
    · exact .inl a
    · exact .inr ⟨j, a1, by rw [hb j a1]; exact a2, by rw [hb j a1]; exact a3⟩
  · rw [hb j hj] at ho ⊢
    exact c j hj ho
theorem c_latest1 {K : fM} {S : Sc} (hS : S.ok) (hK : SC K S) {rest i : Nat} (hr : rest < 2 ^ S.n) (hi : i < S.n) (hlow : ∀ j, Nat.testBit rest j = true → -1000000 ≤ tab62 K (mw rest j) j ∧ tab62 K (mw rest j) j ≤ 1440) : ∃ v, s_X7_latestDone K (rest : Int) (i : Int) = some v ∧ (v = -1000000 ∨ ∃ j, Nat.testBit rest j = true ∧ opn S j ≤ bg S (tab62 K) rest j ∧ v = bg S (tab62 K) rest j - wy S i j) ∧ -1000000 ≤ v ∧ ∀ j, Nat.testBit rest j = true → opn S j ≤ bg S (tab62 K) rest j → bg S (tab62 K) rest j - wy S i j ≤ v := by
  have hn := hS.2.1
  have p512 : 2 ^ S.n ≤ 2 ^ 9 := Nat.pow_le_pow_right (n := 2) (by decide) hn
  have hr9 : rest < 512 := by omega
  have h17 : K 54 17 = (S.n : Int) := hK.2.1.2.1
  have hw3 := hS.1.2.2.2.1.2.2.2.1
  have h8 : K 8 = S.D 8 := CR_r hK.1 8 (by decide) (by decide)
  have key : ∃ e, s_X7_latestDone_l6 K (rest : Int) (i : Int) (-1000000, 0) = some e ∧ ((e = -1000000 ∨ ∃ j, Nat.testBit rest j = true ∧ opn S j ≤ bg S (tab62 K) rest j ∧ e = bg S (tab62 K) rest j - wy S i j) ∧ -1000000 ≤ e ∧ ∀ j, Nat.testBit rest j = true → opn S j ≤ bg S (tab62 K) rest j → bg S (tab62 K) rest j - wy S i j ≤ e) := by
    unfold s_X7_latestDone_l6
    refine fLp_ex (P := fun k s => s.2 = (k : Int) ∧ (s.1 = -1000000 ∨ ∃ j, Nat.testBit rest j = true ∧ opn S j ≤ bg S (tab62 K) rest j ∧ s.1 = bg S (tab62 K) rest j - wy S i j) ∧ -1000000 ≤ s.1 ∧ ∀ j, j < k → Nat.testBit rest j = true → opn S j ≤ bg S (tab62 K) rest j → bg S (tab62 K) rest j - wy S i j ≤ s.1) S.n ⟨rfl, .inl rfl, Int.le_refl _, fun j h => by omega⟩ (fun k s hk hp => ?_) (fun s hp => ?_)
    · obtain ⟨v, z⟩ := s
      obtain ⟨q1, q2, q3, q4⟩ := hp
      simp only at q1 q2 q3 q4
      subst q1
      have hfi : fin ((k : Int) + 1) := by unfold fin; omega
      cases hbit : Nat.testBit rest k with
      | false =>
        refine ⟨(v, (k : Int) + 1), ?_, by simp, q2, q3, fun j h1 h2 => q4 j ?_ h2⟩
        · show s_X7_latestDone_b6 K (rest : Int) (i : Int) v (k : Int) = _
          unfold s_X7_latestDone_b6
          rw [h17, if_neg (by omega), b_test9 rest hr9 k (by omega), hbit, if_pos (by decide), if_pos hfi]
        · have : j ≠ k := fun e => by rw [e, hbit] at h2; exact absurd h2 (by decide)
          omega
      | true =>
        obtain ⟨f1, f2, f3⟩ := mw_f9 rest hr9 k (by omega)
        have f3' := f3 hbit
        have lb := hlow k hbit
        have ob := opn_bd hS hk
        have hwb := wy_bd hS (.inl hi : S.at i) (.inl hk : S.at k)
        obtain ⟨-, -, q58, q59⟩ := hK.2.1.1 k hk
        have q58' : K 58 k = opn S k := q58
        have q59' : K 59 k = cls S k := q59
        have hrow : K 62 (((mw rest k : Nat) : Int) * 9 + (k : Int)).toNat = tab62 K (mw rest k) k := by
          unfold tab62
          rw [show (((mw rest k : Nat) : Int) * 9 + (k : Int)).toNat = mw rest k * 9 + k by omega]
        have hbg : (if tab62 K (mw rest k) k < cls S k then tab62 K (mw rest k) k else cls S k) - S.D 8 3 = bg S (tab62 K) rest k := rfl
        have ev : s_X7_latestDone_b6 K (rest : Int) (i : Int) v (k : Int) = if bg S (tab62 K) rest k < opn S k then some (.inl (v, (k : Int) + 1)) else some (.inl (if v < bg S (tab62 K) rest k - wy S i k then bg S (tab62 K) rest k - wy S i k else v, (k : Int) + 1)) := by
          unfold s_X7_latestDone_b6
          rw [h17, if_neg (by omega), b_test9 rest hr9 k (by omega), hbit, if_neg (by decide), f1, if_pos (by unfold fin; omega), show (k : Int).toNat = k from rfl, hrow, q59', q58', h8, c_min, Option.bind_some, hbg]
          have hb2 : -1000200 ≤ bg S (tab62 K) rest k ∧ bg S (tab62 K) rest k ≤ 1440 := by
            unfold bg
            split <;> omega
          rw [if_pos (by unfold fin; omega), if_pos hfi]
          by_cases ho : bg S (tab62 K) rest k < opn S k
          · rw [if_pos ho, if_pos ho]
          · rw [if_neg ho, if_neg ho, c_minutes hS hK (.inl hi) (.inl hk), Option.bind_some, if_pos (by unfold fin; omega), c_max, Option.bind_some, if_pos hfi]
        by_cases ho : bg S (tab62 K) rest k < opn S k
        · refine ⟨(v, (k : Int) + 1), ?_, by simp, q2, q3, fun j h1 h2 h3 => ?_⟩
          · show s_X7_latestDone_b6 K (rest : Int) (i : Int) v (k : Int) = _
            rw [ev, if_pos ho]
          · by_cases e : j = k
            · subst e; omega
            · exact q4 j (by omega) h2 h3
        · refine ⟨(if v < bg S (tab62 K) rest k - wy S i k then bg S (tab62 K) rest k - wy S i k else v, (k : Int) + 1), ?_, by simp, ?_, ?_, fun j h1 h2 h3 => ?_⟩
          · show s_X7_latestDone_b6 K (rest : Int) (i : Int) v (k : Int) = _
            rw [ev, if_neg ho]
          · show (if v < bg S (tab62 K) rest k - wy S i k then bg S (tab62 K) rest k - wy S i k else v) = -1000000 ∨ ∃ j, _ ∧ _ ∧ (if v < bg S (tab62 K) rest k - wy S i k then bg S (tab62 K) rest k - wy S i k else v) = _
            split
            · exact .inr ⟨k, hbit, by omega, rfl⟩
            · exact q2
          · show -1000000 ≤ (if v < bg S (tab62 K) rest k - wy S i k then bg S (tab62 K) rest k - wy S i k else v)
            split <;> omega
          · show _ ≤ (if v < bg S (tab62 K) rest k - wy S i k then bg S (tab62 K) rest k - wy S i k else v)
            by_cases e : j = k
            · subst e; split <;> omega
            · have := q4 j (by omega) h2 h3
              split <;> omega
    · obtain ⟨v, z⟩ := s
      obtain ⟨q1, q2, q3, q4⟩ := hp
      simp only at q1 q2 q3 q4
      subst q1
      refine ⟨v, ?_, q2, q3, fun j hj => q4 j (bit_lt hr hj) hj⟩
      show s_X7_latestDone_b6 K (rest : Int) (i : Int) v (S.n : Int) = _
      unfold s_X7_latestDone_b6
      rw [h17, if_pos (Int.le_refl _)]
  obtain ⟨v, k1, k2⟩ := key
  refine ⟨v, ?_, k2⟩
  unfold s_X7_latestDone
  rw [k1]
  rfl
theorem c_late {K : fM} {S : Sc} (hS : S.ok) (hK : SC K S) {Hm : Int} (h0 : 0 ≤ Hm) (h1 : Hm ≤ 1440) : ∃ K', s_X7_fillLatest K Hm = some ((), K') ∧ (∀ rest i, rest < 2 ^ S.n → i < S.n → Nat.testBit rest i = false → LQ S Hm (tab62 K') rest i) ∧ ∀ a, a ≠ 62 → K' a = K a := by
  have hn := hS.2.1
  have p512 : 2 ^ S.n ≤ 2 ^ 9 := Nat.pow_le_pow_right (n := 2) (by decide) hn
  have sml : ∀ m j, m < 2 ^ S.n → Nat.testBit m j = true → mw m j < m := fun m j hm hj => (mw_f9 m (by omega) j (by have := bit_lt hm hj; omega)).2.2 hj
  have key : ∃ e, s_X7_fillLatest_l2 Hm (0, K) = some e ∧ ((∀ rest i, rest < 2 ^ S.n → i < S.n → Nat.testBit rest i = false → LQ S Hm (tab62 e) rest i) ∧ ∀ a, a ≠ 62 → e a = K a) := by
    unfold s_X7_fillLatest_l2
    refine fLp_ex (P := fun m s => s.1 = (m : Int) ∧ (∀ rest i, rest < m → i < S.n → Nat.testBit rest i = false → LQ S Hm (tab62 s.2) rest i) ∧ ∀ a, a ≠ 62 → s.2 a = K a) (2 ^ S.n) ⟨rfl, fun rest i h => by omega, fun a _ => rfl⟩ (fun m s hm hp => ?_) (fun s hp => ?_)
    · obtain ⟨z, Q⟩ := s
      obtain ⟨q1, q2, q3⟩ := hp
      simp only at q1 q2 q3
      subst q1
      have hm9 : m < 512 := by omega
      obtain ⟨C, c1, c2, c3, c4⟩ : ∃ e, s_X7_fillLatest_l12 Hm (m : Int) (0, Q) = some e ∧ (∀ i, i < S.n → Nat.testBit m i = false → LQ S Hm (tab62 e) m i) ∧ (∀ x, x < m * 9 ∨ m * 9 + 9 ≤ x → e 62 x = Q 62 x) ∧ ∀ a, a ≠ 62 → e a = K a := by
        unfold s_X7_fillLatest_l12
        refine fLp_ex (P := fun k s => s.1 = (k : Int) ∧ (∀ i, i < k → Nat.testBit m i = false → LQ S Hm (tab62 s.2) m i) ∧ (∀ x, x < m * 9 ∨ m * 9 + 9 ≤ x → s.2 62 x = Q 62 x) ∧ ∀ a, a ≠ 62 → s.2 a = K a) S.n ⟨rfl, fun i h => by omega, fun x _ => rfl, q3⟩ (fun k s hk hp => ?_) (fun s hp => ?_)
        · obtain ⟨z, B⟩ := s
          obtain ⟨p1, p2, p3, p4⟩ := hp
          simp only at p1 p2 p3 p4
          subst p1
          have hB : SC B S := SC_rows hK (fun a h _ => p4 a h)
          have h17 : B 54 17 = (S.n : Int) := hB.2.1.2.1
          have hfi : fin ((k : Int) + 1) := by unfold fin; omega
          cases hbit : Nat.testBit m k with
          | true =>
            refine ⟨((k : Int) + 1, B), ?_, by simp, fun i h1 h2 => p2 i ?_ h2, p3, p4⟩
            · show s_X7_fillLatest_b12 B Hm (m : Int) (k : Int) = _
              unfold s_X7_fillLatest_b12
              rw [h17, if_neg (by omega), b_test9 m hm9 k (by omega), hbit, if_pos (by decide), if_pos hfi]
            · have : i ≠ k := fun e => by rw [e, hbit] at h2; exact absurd h2 (by decide)
              omega
          | false =>
            have hw9 := wy_bd hS (.inl hk : S.at k) (.inr rfl : S.at 9)
            have old : ∀ v j, Nat.testBit m j = true → tab62 (fup B 62 (m * 9 + k) v) (mw m j) j = tab62 B (mw m j) j := fun v j hj => by
              have := sml m j hm hj
              have := bit_lt hm hj
              unfold tab62
              rw [fup_eq, upd1_ne (by omega)]
            have fin2 : ∀ v, s_X7_fillLatest_b12 B Hm (m : Int) (k : Int) = some (.inl ((k : Int) + 1, fup B 62 (m * 9 + k) v)) → LQ S Hm (tab62 (fup B 62 (m * 9 + k) v)) m k → ∃ s', s_X7_fillLatest_b12 B Hm (m : Int) (k : Int) = some (.inl s') ∧ (s'.1 = ((k + 1 : Nat) : Int) ∧ (∀ i, i < k + 1 → Nat.testBit m i = false → LQ S Hm (tab62 s'.2) m i) ∧ (∀ x, x < m * 9 ∨ m * 9 + 9 ≤ x → s'.2 62 x = Q 62 x) ∧ ∀ a, a ≠ 62 → s'.2 a = K a) := by
              intro v hv hl
              refine ⟨_, hv, by simp, fun i h1 h2 => ?_, fun x hx => ?_, fun a ha => ?_⟩
              · by_cases e : i = k
                · subst e; exact hl
                · refine LQ_congr ?_ (old v) (p2 i (by omega) h2)
                  show fup B 62 (m * 9 + k) v 62 (m * 9 + i) = B 62 (m * 9 + i)
                  rw [fup_eq, upd1_ne (by omega)]
              · show fup B 62 (m * 9 + k) v 62 x = _
                rw [fup_eq, upd1_ne (by omega), p3 x hx]
              · show fup B 62 (m * 9 + k) v a = _
                rw [fup_ne ha, p4 a ha]
            have g : fin ((m : Int) * 9) ∧ fin ((m : Int) * 9 + (k : Int)) := by unfold fin; omega
            have gi : ((m : Int) * 9 + (k : Int)).toNat = m * 9 + k := by omega
            by_cases hm0 : m = 0
            · refine fin2 (Hm - wy S k 9) ?_ ⟨fun _ => ?_, fun e => absurd hm0 e⟩
              · unfold s_X7_fillLatest_b12
                rw [h17, if_neg (by omega), b_test9 m hm9 k (by omega), hbit, if_neg (by decide), if_pos g, if_neg (by omega), show (9 : Int) = ((9 : Nat) : Int) from rfl, c_minutes hS hB (.inl hk) (.inr rfl), Option.bind_some]
                rw [show ((9 : Nat) : Int) = 9 from rfl, if_pos (by unfold fin; omega), gi]
              · show fup B 62 (m * 9 + k) _ 62 (m * 9 + k) = _
                rw [fup_eq, upd1_at]
            · have lows : ∀ j, Nat.testBit m j = true → tab62 B (mw m j) j = tab62 Q (mw m j) j := fun j hj => by
                have := sml m j hm hj
                have := bit_lt hm hj
                unfold tab62
                exact p3 _ (.inl (by omega))
              obtain ⟨v, v1, v2, v3, v4⟩ := c_latest1 hS hB hm hk (fun j hj => by
                have hjn := bit_lt hm hj
                rw [lows j hj]
                exact L_bd hS h0 h1 (mw_lt hm hjn) hjn (q2 (mw m j) j (sml m j hm hj) hjn mw_no))
              have hbgc : ∀ j, Nat.testBit m j = true → bg S (tab62 (fup B 62 (m * 9 + k) v)) m j = bg S (tab62 B) m j := fun j hj => by
                unfold bg
                rw [old v j hj]
              have hat : tab62 (fup B 62 (m * 9 + k) v) m k = v := by
                show fup B 62 (m * 9 + k) _ 62 (m * 9 + k) = _
                rw [fup_eq, upd1_at]
              refine fin2 v ?_ ⟨fun e => absurd e hm0, fun _ => ?_⟩
              · unfold s_X7_fillLatest_b12
                rw [h17, if_neg (by omega), b_test9 m hm9 k (by omega), hbit, if_neg (by decide), if_pos g, if_pos (by omega), v1, Option.bind_some, if_pos (by unfold fin; omega), gi]
              · rw [hat]
                refine ⟨?_, v3, fun j hj ho => ?_⟩
                · rcases v2 with v2 | ⟨j, a1, a2, a3⟩
                  · exact .inl v2
                  · exact .inr ⟨j, a1, by rw [hbgc j a1]; exact a2, by rw [hbgc j a1]; exact a3⟩
                · rw [hbgc j hj] at ho ⊢
                  exact v4 j hj ho
        · obtain ⟨z, B⟩ := s
          obtain ⟨p1, p2, p3, p4⟩ := hp
          simp only at p1 p2 p3 p4
          subst p1
          have hB : SC B S := SC_rows hK (fun a h _ => p4 a h)
          have h17 : B 54 17 = (S.n : Int) := hB.2.1.2.1
          refine ⟨B, ?_, p2, p3, p4⟩
          show s_X7_fillLatest_b12 B Hm (m : Int) (S.n : Int) = _
          unfold s_X7_fillLatest_b12
          rw [h17, if_pos (Int.le_refl _)]
      have h18 : Q 54 18 = ((2 ^ S.n : Nat) : Int) := by rw [q3 54 (by decide)]; exact hK.2.1.2.2
      refine ⟨((m : Int) + 1, C), ?_, by simp, fun rest i h1 h2 h3 => ?_, c4⟩
      · show s_X7_fillLatest_b2 Q Hm (m : Int) = _
        unfold s_X7_fillLatest_b2
        rw [h18, if_neg (by omega), c1, Option.bind_some, if_pos (by unfold fin; omega)]
      · by_cases e : rest = m
        · subst e; exact c2 i h2 h3
        · have hr2 : rest < 2 ^ S.n := by omega
          refine LQ_congr ?_ (fun j hj => ?_) (q2 rest i (by omega) h2 h3)
          · show C 62 (rest * 9 + i) = Q 62 (rest * 9 + i)
            exact c3 _ (.inl (by omega))
          · have := sml rest j hr2 hj
            have := bit_lt hr2 hj
            show C 62 (mw rest j * 9 + j) = Q 62 (mw rest j * 9 + j)
            exact c3 _ (.inl (by omega))
    · obtain ⟨z, Q⟩ := s
      obtain ⟨q1, q2, q3⟩ := hp
      simp only at q1 q2 q3
      subst q1
      refine ⟨Q, ?_, q2, q3⟩
      show s_X7_fillLatest_b2 Q Hm ((2 ^ S.n : Nat) : Int) = _
      unfold s_X7_fillLatest_b2
      rw [q3 54 (by decide), hK.2.1.2.2, if_pos (Int.le_refl _)]
  obtain ⟨K', k1, k2⟩ := key
  refine ⟨K', ?_, k2⟩
  unfold s_X7_fillLatest
  rw [k1]
  rfl
def CanG (K : fM) (n V l : Nat) (t sum : Int) : Prop := ∃ rest, rest < 2 ^ n ∧ rest &&& V = 0 ∧ K 61 (V ||| rest) = sum ∧ t ≤ K 62 (rest * 9 + l)
theorem c_can {K : fM} {n : Nat} (hn : n ≤ 9) (h18 : K 54 18 = ((2 ^ n : Nat) : Int)) {V l : Nat} (hV : V < 2 ^ n) (hl : l < 9) (t sum : Int) : (CanG K n V l t sum → s_X7_canGoOn K (V : Int) (l : Int) t sum = some 1) ∧ (¬ CanG K n V l t sum → s_X7_canGoOn K (V : Int) (l : Int) t sum = some 0) := by
  have p512 : 2 ^ n ≤ 2 ^ 9 := Nat.pow_le_pow_right (n := 2) (by decide) hn
  have ev : ∀ rest : Nat, rest < 2 ^ n → s_X7_canGoOn_b3 K (V : Int) (l : Int) t sum (rest : Int) = if rest &&& V = 0 ∧ K 61 (V ||| rest) = sum ∧ t ≤ K 62 (rest * 9 + l) then some (.inr (.inr 1)) else some (.inl ((rest + 1 : Nat) : Int)) := by
    intro rest hr
    have hor : V ||| rest < 2 ^ n := Nat.or_lt_two_pow hV hr
    have hfi : fin ((rest : Int) + 1) := by unfold fin; omega
    unfold s_X7_canGoOn_b3
    rw [h18, if_neg (by omega), fand_nat (by omega) (by omega), fior_nat (by omega) (by omega), show ((V ||| rest : Nat) : Int).toNat = V ||| rest from rfl, show ((rest : Int) * 9 + (l : Int)).toNat = rest * 9 + l by omega, if_pos hfi]
    by_cases a : rest &&& V = 0
    · rw [if_neg (by omega), if_pos (by omega)]
      by_cases b : K 61 (V ||| rest) = sum
      · rw [if_neg (fun e => e b), if_pos (by unfold fin; omega)]
        by_cases c : t ≤ K 62 (rest * 9 + l)
        · rw [if_neg (by omega), if_pos ⟨a, b, c⟩]
        · rw [if_pos (by omega), if_neg (fun e => c e.2.2)]
          rfl
      · rw [if_pos b, if_neg (fun e => b e.2.1)]
        rfl
    · rw [if_pos (by omega), if_neg (fun e => a e.1)]
      rfl
  have ex : s_X7_canGoOn_b3 K (V : Int) (l : Int) t sum ((2 ^ n : Nat) : Int) = some (.inr (.inl ())) := by
    unfold s_X7_canGoOn_b3
    rw [h18, if_pos (Int.le_refl _)]
  unfold s_X7_canGoOn s_X7_canGoOn_l3
  constructor
  · rintro ⟨rest, h1, h2⟩
    have := fLp_hit1 (b := fun s : Int => s_X7_canGoOn_b3 K (V : Int) (l : Int) t sum s) (fun i => (i : Int)) (fun rest => rest &&& V = 0 ∧ K 61 (V ||| rest) = sum ∧ t ≤ K 62 (rest * 9 + l)) (2 ^ n) (.inr 1) (fun i hi h => by show s_X7_canGoOn_b3 K (V : Int) (l : Int) t sum (i : Int) = _; rw [ev i hi, if_neg h]) (fun i hi h => by show s_X7_canGoOn_b3 K (V : Int) (l : Int) t sum (i : Int) = _; rw [ev i hi, if_pos h]) ⟨rest, h1, h2⟩
    rw [show fLp (fun s : Int => s_X7_canGoOn_b3 K (V : Int) (l : Int) t sum s) 0 = some (.inr 1) from this]
    rfl
  · intro hno
    have := fLp_for (b := fun s : Int => s_X7_canGoOn_b3 K (V : Int) (l : Int) t sum s) (fun i => (i : Int)) (2 ^ n) (e := .inl ()) (fun i hi => by show s_X7_canGoOn_b3 K (V : Int) (l : Int) t sum (i : Int) = _; rw [ev i hi, if_neg (fun h => hno ⟨i, hi, h⟩)]) ex
    rw [show fLp (fun s : Int => s_X7_canGoOn_b3 K (V : Int) (l : Int) t sum s) 0 = some (.inl ()) from this]
    rfl
def NxC (K : fM) (S : Sc) (V l : Nat) (t sum : Int) (i : Nat) : Prop := Nat.testBit V i = false ∧ dn S i (t + wy S l i) < 1000000 ∧ CanG K S.n (V ||| 2 ^ i) i (dn S i (t + wy S l i)) sum
theorem c_nxt {K : fM} {S : Sc} (hS : S.ok) (hK : SC K S) {V l : Nat} (hV : V < 2 ^ S.n) (hl : S.at l) {t : Int} (ht : 0 ≤ t) (ht2 : t ≤ 1440) (sum : Int) {q : Nat} (hq : q < S.n) (h1 : NxC K S V l t sum q) (h2 : ∀ i, i < q → ¬ NxC K S V l t sum i) : s_X7_firstNext K (V : Int) (l : Int) t sum = some (q : Int) := by
  have hn := hS.2.1
  have p512 : 2 ^ S.n ≤ 2 ^ 9 := Nat.pow_le_pow_right (n := 2) (by decide) hn
  have h17 : K 54 17 = (S.n : Int) := hK.2.1.2.1
  have h18 : K 54 18 = ((2 ^ S.n : Nat) : Int) := hK.2.1.2.2
  have ev : ∀ i, i < S.n → (NxC K S V l t sum i → s_X7_firstNext_b3 K (V : Int) (l : Int) t sum (i : Int) = some (.inr (.inr (i : Int)))) ∧ (¬ NxC K S V l t sum i → s_X7_firstNext_b3 K (V : Int) (l : Int) t sum (i : Int) = some (.inl ((i + 1 : Nat) : Int))) := by
    intro i hi
    have hfi : fin ((i : Int) + 1) := by unfold fin; omega
    have hwb := wy_bd hS hl (.inl hi : S.at i)
    have hor : V ||| 2 ^ i < 2 ^ S.n := or_lt hV hi
    have cg := c_can (K := K) hn h18 hor (l := i) (by omega) (dn S i (t + wy S l i)) sum
    unfold s_X7_firstNext_b3
    rw [h17, if_neg (by omega), b_test9 V (by omega) i (by omega), if_pos hfi]
    cases hb : Nat.testBit V i with
    | true =>
      rw [if_pos (by decide)]
      exact ⟨fun h => absurd h.1 (by rw [hb]; decide), fun _ => rfl⟩
    | false =>
      rw [if_neg (by decide), c_minutes hS hK hl (.inl hi), Option.bind_some, if_pos (by unfold fin; omega), c_doneAt hS hK hi (by omega) (by omega), Option.bind_some]
      by_cases hd : 1000000 ≤ dn S i (t + wy S l i)
      · rw [if_pos hd]
        exact ⟨fun h => absurd h.2.1 (by omega), fun _ => rfl⟩
      · rw [if_neg hd, b_or9 V (by omega) i (by omega)]
        by_cases hc : CanG K S.n (V ||| 2 ^ i) i (dn S i (t + wy S l i)) sum
        · rw [cg.1 hc, Option.bind_some, if_neg (by decide)]
          exact ⟨fun _ => rfl, fun h => absurd ⟨hb, by omega, hc⟩ h⟩
        · rw [cg.2 hc, Option.bind_some, if_pos rfl]
          exact ⟨fun h => absurd h.2.2 hc, fun _ => rfl⟩
  unfold s_X7_firstNext s_X7_firstNext_l3
  have := fLp_for (b := fun s : Int => s_X7_firstNext_b3 K (V : Int) (l : Int) t sum s) (fun i => (i : Int)) q (e := .inr (q : Int)) (fun i hi => (ev i (by omega)).2 (h2 i hi)) ((ev q hq).1 h1)
  rw [show fLp (fun s : Int => s_X7_firstNext_b3 K (V : Int) (l : Int) t sum s) 0 = some (.inr (q : Int)) from this]
  rfl
