/-! ===== bits of small numbers ===== -/
theorem fLp_ex {σ ε : Type} {b : σ → Option (σ ⊕ ε)} {P : Nat → σ → Prop} {Q : ε → Prop} (n : Nat) {s : σ} (h0 : P 0 s) (hs : ∀ i s, i < n → P i s → ∃ s', b s = some (.inl s') ∧ P (i + 1) s') (he : ∀ s, P n s → ∃ e, b s = some (.inr e) ∧ Q e) : ∃ e, fLp b s = some e ∧ Q e := by
  induction n generalizing s P with
  | zero =>
    obtain ⟨e, h1, h2⟩ := he s h0
    exact ⟨e, by rw [fLp_eq, h1]; rfl, h2⟩
  | succ n ih =>
    obtain ⟨s1, h1, h2⟩ := hs 0 s (by omega) h0
    obtain ⟨e, h3, h4⟩ := ih (P := fun i s => P (i + 1) s) h2 (fun i s hi hp => hs (i + 1) s (by omega) hp) he
    exact ⟨e, by rw [fLp_eq, h1]; exact h3, h4⟩
theorem b_test9 : ∀ m : Nat, m < 512 → ∀ t : Nat, t < 9 → fand (fshr (m : Int) (t : Int)) 1 = if Nat.testBit m t then 1 else 0 := by decide +kernel
theorem b_or9 : ∀ m : Nat, m < 512 → ∀ t : Nat, t < 9 → fior (m : Int) (fshl 1 (t : Int)) = ((m ||| 2 ^ t : Nat) : Int) := by decide +kernel
theorem b_shl : ∀ t : Nat, t < 31 → fshl 1 (t : Int) = ((2 ^ t : Nat) : Int) := by decide +kernel
def pc (m : Nat) : Nat → Nat
  | 0 => 0
  | n + 1 => pc m n + if Nat.testBit m n then 1 else 0
theorem b_pc : ∀ m : Nat, m < 512 → ∀ t : Nat, t < 9 → pc (m ||| 2 ^ t) 9 = pc m 9 + if Nat.testBit m t then 0 else 1 := by decide +kernel
theorem b_and1 : ∀ m : Nat, m < 512 → 0 < m → fand (m : Int) ((m : Int) - 1) = ((m &&& (m - 1) : Nat) : Int) ∧ m &&& (m - 1) < m ∧ pc m 9 = pc (m &&& (m - 1)) 9 + 1 := by decide +kernel
theorem m_bits (M : fM) {m : Nat} (h : m < 512) : s_X12_bits M (m : Int) = some ((pc m 9 : Nat) : Int) := by
  unfold s_X12_bits s_X12_bits_l4
  have hp : ∀ x, pc x 9 ≤ 9 := by
    intro x
    have : ∀ n, pc x n ≤ n := by
      intro n
      induction n with
      | zero => exact Nat.le_refl _
      | succ n ih => unfold pc; split <;> omega
    exact this 9
  have : ∀ (n a x : Nat), x ≤ n → x < 512 → a + pc x 9 ≤ 9 → fLp (fun s : Int × Int => s_X12_bits_b4 M s.1 s.2) ((a : Int), (x : Int)) = some (((a + pc x 9 : Nat)) : Int) := by
    intro n
    induction n with
    | zero =>
      intro a x h1 h2 h3
      have : x = 0 := by omega
      subst this
      rw [fLp_eq]
      show (s_X12_bits_b4 M (a : Int) ((0 : Nat) : Int)).bind _ = _
      unfold s_X12_bits_b4
      rw [if_pos (show ((0 : Nat) : Int) = 0 from rfl)]
      rfl
    | succ n ih =>
      intro a x h1 h2 h3
      by_cases hx : x = 0
      · subst hx
        rw [fLp_eq]
        show (s_X12_bits_b4 M (a : Int) ((0 : Nat) : Int)).bind _ = _
        unfold s_X12_bits_b4
        rw [if_pos (show ((0 : Nat) : Int) = 0 from rfl)]
        rfl
      · obtain ⟨q1, q2, q3⟩ := b_and1 x h2 (by omega)
        rw [fLp_eq]
        show (s_X12_bits_b4 M (a : Int) (x : Int)).bind _ = _
        unfold s_X12_bits_b4
        rw [if_neg (by omega), if_pos (by unfold fin; omega), q1]
        have := ih (a + 1) (x &&& (x - 1)) (by omega) (by omega) (by omega)
        rw [show a + pc x 9 = a + 1 + pc (x &&& (x - 1)) 9 by omega, ← this]
        rfl
  have h2 := this m 0 m (Nat.le_refl _) h (by have := hp m; omega)
  rw [show ((0 : Nat) : Int) = 0 from rfl, Nat.zero_add] at h2
  rw [h2]
  rfl
theorem pc_full {m n : Nat} (h : ∀ t, t < n → Nat.testBit m t = true) : pc m n = n := by
  induction n with
  | zero => rfl
  | succ n ih =>
    unfold pc
    rw [ih (fun t ht => h t (by omega)), h n (by omega)]
    rfl
theorem pc_top {m n k : Nat} (h : m < 2 ^ n) : pc m (n + k) = pc m n := by
  induction k with
  | zero => rfl
  | succ k ih =>
    show pc m (n + k) + (if Nat.testBit m (n + k) then 1 else 0) = _
    rw [Nat.testBit_lt_two_pow (Nat.lt_of_lt_of_le h (Nat.pow_le_pow_right (by decide) (by omega)))]
    rw [ih]
    rfl
theorem pc_free {m n : Nat} (hn : n ≤ 9) (h : m < 2 ^ n) (hp : pc m 9 < n) : ∃ t, t < n ∧ Nat.testBit m t = false := by
  refine Classical.byContradiction fun hc => ?_
  have : pc m n = n := pc_full (fun t ht => by
    cases hb : Nat.testBit m t with
    | true => rfl
    | false => exact absurd ⟨t, ht, hb⟩ hc)
  have h9 := pc_top (k := 9 - n) h
  rw [show n + (9 - n) = 9 by omega] at h9
  omega
theorem tb_or (m t i : Nat) : Nat.testBit (m ||| 2 ^ t) i = (Nat.testBit m i || decide (t = i)) := by
  rw [Nat.testBit_or, Nat.testBit_two_pow]
theorem or_lt {m t n : Nat} (h : m < 2 ^ n) (ht : t < n) : m ||| 2 ^ t < 2 ^ n := Nat.or_lt_two_pow h (Nat.pow_lt_pow_right (by decide) ht)
/-- the first below n with P, else n -/
def fstt (P : Nat → Prop) [DecidablePred P] : Nat → Nat
  | 0 => 0
  | n + 1 => if fstt P n < n then fstt P n else if P n then n else n + 1
theorem fstt_ok (P : Nat → Prop) [DecidablePred P] : ∀ n, (∃ i, i < n ∧ P i) → fstt P n < n ∧ P (fstt P n) ∧ ∀ i, i < fstt P n → ¬ P i
  | 0, h => by obtain ⟨i, hi, _⟩ := h; omega
  | n + 1, h => by
    unfold fstt
    by_cases h2 : ∃ i, i < n ∧ P i
    · obtain ⟨a, b, c⟩ := fstt_ok P n h2
      rw [if_pos a]
      exact ⟨by omega, b, c⟩
    · have hnot : ∀ i, i < n → ¬ P i := fun i hi hp => h2 ⟨i, hi, hp⟩
      have hn : P n := by
        obtain ⟨i, hi, hp⟩ := h
        by_cases e : i = n
        · exact e ▸ hp
        · exact absurd hp (hnot i (by omega))
      have hf : ¬ fstt P n < n := by
        intro hlt
        have : ∀ k, fstt P k < k → P (fstt P k) := by
          intro k
          induction k with
          | zero => intro h; omega
          | succ k ih =>
            intro hk
            unfold fstt at hk ⊢
            by_cases h3 : fstt P k < k
            · rw [if_pos h3]; exact ih h3
            · rw [if_neg h3] at hk ⊢
              by_cases h4 : P k
              · rw [if_pos h4]; exact h4
              · rw [if_neg h4] at hk; omega
        exact hnot _ hlt (this n hlt)
      rw [if_neg hf, if_pos hn]
      exact ⟨by omega, hn, fun i hi => hnot i hi⟩
theorem fdiv_nat {a b : Nat} (h : a < 2147483648) (hb : 0 < b) : fdiv (a : Int) (b : Int) = ((a / b : Nat) : Int) := by
  rw [fdiv_eq (by omega) (by omega) (by omega)]
  rfl
theorem frem_nat {a b : Nat} (h : a < 2147483648) (hb : 0 < b) : frem (a : Int) (b : Int) = ((a % b : Nat) : Int) := by
  unfold frem
  have e : fw (Int.tdiv (a : Int) (b : Int)) = ((a / b : Nat) : Int) := fdiv_nat h hb
  have h1 := Nat.div_add_mod a b
  have h2 : a / b * b ≤ a := Nat.div_mul_le_self a b
  rw [e, fw_id (x := ((a / b : Nat) : Int) * (b : Int)) (by unfold fin; rw [← Int.natCast_mul]; omega), ← Int.natCast_mul]
  rw [fw_id (by unfold fin; omega)]
  rw [Nat.mul_comm] at h1
  omega
theorem c_bitc0 : ∀ m : Nat, m < 512 → s_J6_bitCount (fun _ _ => 0) ((m : Nat) : Int) = some ((pc m 9 : Nat) : Int) := by decide +kernel
theorem c_bitc (M : fM) {m : Nat} (h : m < 512) : s_J6_bitCount M ((m : Nat) : Int) = some ((pc m 9 : Nat) : Int) := (show s_J6_bitCount M ((m : Nat) : Int) = s_J6_bitCount (fun _ _ => 0) ((m : Nat) : Int) from rfl).trans (c_bitc0 m h)
