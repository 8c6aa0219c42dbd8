/-! ===== subsets; two tuners ===== -/
def sub (b m : Nat) : Prop := ∀ x, Nat.testBit b x = true → Nat.testBit m x = true
def dj (a b : Nat) : Prop := ∀ x, Nat.testBit a x = true → Nat.testBit b x = true → False
def df (s a : Nat) : Nat := s ^^^ (s &&& a)
theorem df_t (s a x : Nat) : Nat.testBit (df s a) x = (Nat.testBit s x && !Nat.testBit a x) := by
  unfold df
  rw [Nat.testBit_xor, Nat.testBit_and]
  cases Nat.testBit s x <;> cases Nat.testBit a x <;> rfl
theorem df_lt {s a n : Nat} (h : s < 2 ^ n) : df s a < 2 ^ n := Nat.xor_lt_two_pow h (Nat.lt_of_le_of_lt Nat.and_le_left h)
theorem sub_lt {b m n : Nat} (h : sub b m) (hm : m < 2 ^ n) : b < 2 ^ n := by
  apply Nat.lt_pow_two_of_testBit
  intro i hi
  cases hb : Nat.testBit b i with
  | false => rfl
  | true =>
    have := bit_lt hm (h i hb)
    omega
theorem sub_and {b m : Nat} (h : sub b m) : b &&& m = b := Nat.eq_of_testBit_eq (fun i => by
  rw [Nat.testBit_and]
  cases hb : Nat.testBit b i with
  | false => rfl
  | true => rw [h i hb]; rfl)
theorem and_sub (b m : Nat) : sub (b &&& m) m := fun x hx => by
  rw [Nat.testBit_and, Bool.and_eq_true] at hx
  exact hx.2
theorem sub_le {b m : Nat} (h : sub b m) : b ≤ m := by
  rw [← sub_and h]
  exact Nat.and_le_right
theorem sub_ne {b m : Nat} (h : sub b m) (hne : b ≠ m) : ∃ x, Nat.testBit m x = true ∧ sub b (mw m x) := by
  refine Classical.byContradiction fun hc => hne (Nat.eq_of_testBit_eq fun i => ?_)
  cases hb : Nat.testBit b i with
  | true => exact (h i hb).symm
  | false =>
    cases hm : Nat.testBit m i with
    | false => rfl
    | true =>
      refine absurd ⟨i, hm, fun x hx => ?_⟩ hc
      rw [mw_t, h x hx, decide_eq_false (fun e => by rw [e, hx] at hb; exact absurd hb (by decide))]
      rfl
theorem mw_sub (m x : Nat) : sub (mw m x) m := fun y hy => by
  rw [mw_t, Bool.and_eq_true] at hy
  exact hy.1
theorem sub_tr {a b c : Nat} (h1 : sub a b) (h2 : sub b c) : sub a c := fun x hx => h2 x (h1 x hx)
theorem sub_0 (m : Nat) : sub 0 m := fun x hx => by
  rw [Nat.zero_testBit] at hx
  exact absurd hx (by decide)
theorem fandn_nat {s a : Nat} (hs : s < 2147483648) : fand (s : Int) (fxor (a : Int) (-1)) = ((df s a : Nat) : Int) := by
  have hx : df s a < 2 ^ 31 := df_lt hs
  have e1 : Int32.ofInt (fxor (a : Int) (-1)) = Int32.ofInt (a : Int) ^^^ Int32.ofInt (-1) := by
    unfold fxor
    exact Int32.ofInt_toInt _
  unfold fand
  rw [e1]
  have : (Int32.ofInt (s : Int) &&& (Int32.ofInt (a : Int) ^^^ Int32.ofInt (-1))).toBitVec = BitVec.ofNat 32 (df s a) := by
    rw [Int32.toBitVec_and, Int32.toBitVec_xor, i32_bv, i32_bv, show (Int32.ofInt (-1)).toBitVec = BitVec.allOnes 32 from by decide]
    apply BitVec.eq_of_getLsbD_eq
    intro i hi
    rw [BitVec.getLsbD_and, BitVec.getLsbD_xor, BitVec.getLsbD_allOnes, BitVec.getLsbD_ofNat, BitVec.getLsbD_ofNat, BitVec.getLsbD_ofNat, df_t, decide_eq_true hi]
    cases Nat.testBit s i <;> cases Nat.testBit a i <;> rfl
  show (Int32.ofInt (s : Int) &&& (Int32.ofInt (a : Int) ^^^ Int32.ofInt (-1))).toBitVec.toInt = _
  rw [this]
  exact bv_nat hx
theorem sub_pred : ∀ (k b c r : Nat), b ≤ k → c < b → b &&& r = b → c &&& r = c → c ≤ (b - 1) &&& r
  | 0, b, c, r, hk, h, _, _ => by omega
  | k + 1, b, c, r, hk, h, hb, hc => by
    have hb2 : b / 2 &&& r / 2 = b / 2 := by rw [← Nat.and_div_two, hb]
    have hc2 : c / 2 &&& r / 2 = c / 2 := by rw [← Nat.and_div_two, hc]
    have e2 : ((b - 1) &&& r) / 2 = (b - 1) / 2 &&& r / 2 := Nat.and_div_two
    have e1 : ((b - 1) &&& r) % 2 = 1 ↔ (b - 1) % 2 = 1 ∧ r % 2 = 1 := Nat.and_mod_two_eq_one
    have c1 : (c &&& r) % 2 = 1 ↔ c % 2 = 1 ∧ r % 2 = 1 := Nat.and_mod_two_eq_one
    rw [hc] at c1
    generalize (b - 1) &&& r = x at e2 e1
    by_cases ho : b % 2 = 1
    · have e3 : (b - 1) / 2 = b / 2 := by omega
      rw [e3, hb2] at e2
      omega
    · have e3 : (b - 1) / 2 = b / 2 - 1 := by omega
      rw [e3] at e2
      have ih := sub_pred k (b / 2) (c / 2) (r / 2) (by omega) (by omega) hb2 hc2
      have ho2 : (b - 1) % 2 = 1 := by omega
      rw [← e2] at ih
      by_cases hc1 : c % 2 = 1
      · have := e1.2 ⟨ho2, (c1.1 hc1).2⟩
        omega
      · omega
/-- the next lower subset -/
theorem sub_next {b r : Nat} (hb : sub b r) (h0 : 0 < b) : sub ((b - 1) &&& r) r ∧ (b - 1) &&& r < b ∧ ∀ c, sub c r → c < b → c ≤ (b - 1) &&& r := by
  refine ⟨and_sub _ _, ?_, fun c hc h => sub_pred b b c r (Nat.le_refl _) h (sub_and hb) (sub_and hc)⟩
  have : (b - 1) &&& r ≤ b - 1 := Nat.and_le_left
  omega
def SubV (w : Nat → Int) (n : Nat) (F : Nat → Prop) (m : Nat) (v : Int) : Prop := (∃ b, sub b m ∧ F b ∧ v = wtm w b n) ∧ ∀ b, sub b m → F b → wtm w b n ≤ v
def TwoV (w : Nat → Int) (n : Nat) (F1 F2 : Nat → Prop) (v : Int) : Prop := (∃ a b, a < 2 ^ n ∧ b < 2 ^ n ∧ dj a b ∧ F1 a ∧ F2 b ∧ v = wtm w a n + wtm w b n) ∧ ∀ a b, a < 2 ^ n → b < 2 ^ n → dj a b → F1 a → F2 b → wtm w a n + wtm w b n ≤ v
theorem TwoV_eq {w : Nat → Int} {n : Nat} {F1 F2 : Nat → Prop} {v v' : Int} (h1 : TwoV w n F1 F2 v) (h2 : TwoV w n F1 F2 v') : v = v' := by
  obtain ⟨⟨a, b, x1, x2, x3, x4, x5, e⟩, l⟩ := h1
  obtain ⟨⟨a', b', y1, y2, y3, y4, y5, e'⟩, l'⟩ := h2
  have := l a' b' y1 y2 y3 y4 y5
  have := l' a b x1 x2 x3 x4 x5
  omega
theorem c_other {K : fM} {n : Nat} (hn : n ≤ 9) (h17 : K 54 17 = n) (h18 : K 54 18 = ((2 ^ n : Nat) : Int)) {F : Nat → Prop} {w : Nat → Int} (h63 : ∀ m, m < 2 ^ n → (1000000 ≤ K 63 m ↔ ¬ F m)) (h61 : ∀ m, m < 2 ^ n → K 61 m = wtm w m n) (F0 : F 0) : ∃ K', s_X7_fillOtherBest K = some ((), K') ∧ (∀ m, m < 2 ^ n → SubV w n F m (K' 64 m)) ∧ ∀ a, a ≠ 64 → K' a = K a := by
  have p512 : 2 ^ n ≤ 2 ^ 9 := Nat.pow_le_pow_right (n := 2) (by decide) hn
  have key : ∃ e, s_X7_fillOtherBest_l2 (0, K) = some e ∧ ((∀ m, m < 2 ^ n → SubV w n F m (e 64 m)) ∧ ∀ a, a ≠ 64 → e a = K a) := by
    unfold s_X7_fillOtherBest_l2
    refine fLp_ex (P := fun i s => s.1 = (i : Int) ∧ (∀ m, m < i → SubV w n F m (s.2 64 m)) ∧ ∀ a, a ≠ 64 → s.2 a = K a) (2 ^ n) ⟨rfl, fun m h => by omega, fun a _ => rfl⟩ (fun i s hi hp => ?_) (fun s hp => ?_)
    · obtain ⟨z, Q⟩ := s
      obtain ⟨q1, q2, q3⟩ := hp
      simp only at q1 q2 q3
      subst q1
      have hQ17 : Q 54 17 = n := by rw [q3 54 (by decide), h17]
      have hQ18 : Q 54 18 = ((2 ^ n : Nat) : Int) := by rw [q3 54 (by decide), h18]
      have hi9 : i < 512 := by omega
      have j31 : ∀ v0 : Int, (∃ b, sub b i ∧ F b ∧ v0 = wtm w b n) → (F i → v0 = wtm w i n) → ∃ v, s_X7_fillOtherBest_j31 Q (i : Int) v0 = some (.inl ((i : Int) + 1, fup Q 64 i v)) ∧ SubV w n F i v := by
        intro v0 hv0 hFi
        obtain ⟨v, e1, e2, e3, e4⟩ : ∃ e, s_X7_fillOtherBest_l34 Q (i : Int) (v0, 0) = some e ∧ (∃ b, sub b i ∧ F b ∧ e = wtm w b n) ∧ v0 ≤ e ∧ ∀ x, Nat.testBit i x = true → Q 64 (mw i x) ≤ e := by
          unfold s_X7_fillOtherBest_l34
          refine fLp_ex (P := fun j s => s.2 = (j : Int) ∧ (∃ b, sub b i ∧ F b ∧ s.1 = wtm w b n) ∧ v0 ≤ s.1 ∧ ∀ x, x < j → Nat.testBit i x = true → Q 64 (mw i x) ≤ s.1) n ⟨rfl, hv0, Int.le_refl _, fun x h => by omega⟩ (fun j s hj hp => ?_) (fun s hp => ?_)
          · obtain ⟨v, z⟩ := s
            obtain ⟨p1, p2, p3, p4⟩ := hp
            simp only at p1 p2 p3 p4
            subst p1
            have hfi : fin ((j : Int) + 1) := by unfold fin; omega
            cases hbit : Nat.testBit i j with
            | false =>
              refine ⟨(v, (j : Int) + 1), ?_, by simp, p2, p3, fun x h1 h2 => p4 x ?_ h2⟩
              · show s_X7_fillOtherBest_b34 Q (i : Int) v (j : Int) = _
                unfold s_X7_fillOtherBest_b34
                rw [hQ17, if_neg (by omega), b_test9 i hi9 j (by omega), hbit, if_pos (by decide), if_pos hfi]
              · have : x ≠ j := fun e => by rw [e, hbit] at h2; exact absurd h2 (by decide)
                omega
            | true =>
              obtain ⟨f1, f2, f3⟩ := mw_f9 i hi9 j (by omega)
              have f3' := f3 hbit
              obtain ⟨⟨b, g1, g2, g3⟩, g4⟩ := q2 (mw i j) f3'
              refine ⟨(if v < Q 64 (mw i j) then Q 64 (mw i j) else v, (j : Int) + 1), ?_, by simp, ?_, ?_, fun x h1 h2 => ?_⟩
              · show s_X7_fillOtherBest_b34 Q (i : Int) v (j : Int) = _
                unfold s_X7_fillOtherBest_b34
                rw [hQ17, if_neg (by omega), b_test9 i hi9 j (by omega), hbit, if_neg (by decide), f1, if_pos (by omega), show ((mw i j : Nat) : Int).toNat = mw i j from rfl, c_max, Option.bind_some, if_pos hfi]
              · show ∃ b, sub b i ∧ F b ∧ (if v < Q 64 (mw i j) then Q 64 (mw i j) else v) = wtm w b n
                split
                · exact ⟨b, sub_tr g1 (mw_sub i j), g2, g3⟩
                · exact p2
              · show v0 ≤ (if v < Q 64 (mw i j) then Q 64 (mw i j) else v)
                split <;> omega
              · show Q 64 (mw i x) ≤ (if v < Q 64 (mw i j) then Q 64 (mw i j) else v)
                by_cases e : x = j
                · subst e; split <;> omega
                · have := p4 x (by omega) h2
                  split <;> omega
          · obtain ⟨v, z⟩ := s
            obtain ⟨p1, p2, p3, p4⟩ := hp
            simp only at p1 p2 p3 p4
            subst p1
            refine ⟨v, ?_, p2, p3, fun x hx => p4 x (bit_lt hi hx) hx⟩
            show s_X7_fillOtherBest_b34 Q (i : Int) v (n : Int) = _
            unfold s_X7_fillOtherBest_b34
            rw [hQ17, if_pos (Int.le_refl _)]
        refine ⟨v, ?_, e2, fun b hb hF => ?_⟩
        · unfold s_X7_fillOtherBest_j31
          rw [e1, Option.bind_some, if_pos (by unfold fin; omega), show (i : Int).toNat = i from rfl]
        · by_cases e : b = i
          · subst e
            have := hFi hF
            omega
          · obtain ⟨x, h1, h2⟩ := sub_ne hb e
            have hx := bit_lt hi h1
            have f3' := (mw_f9 i hi9 x (by omega)).2.2 h1
            have := (q2 (mw i x) f3').2 b h2 hF
            have := e4 x h1
            omega
      have step : ∃ v, s_X7_fillOtherBest_b2 Q (i : Int) = some (.inl ((i : Int) + 1, fup Q 64 i v)) ∧ SubV w n F i v := by
        unfold s_X7_fillOtherBest_b2
        rw [hQ18, if_neg (by omega), if_pos (by omega), show (i : Int).toNat = i from rfl, q3 63 (by decide), q3 61 (by decide)]
        by_cases hf : 1000000 ≤ K 63 i
        · rw [if_pos hf]
          exact j31 0 ⟨0, sub_0 i, F0, (wtm_zero w n).symm⟩ (fun h => absurd h ((h63 i hi).1 hf))
        · rw [if_neg hf, if_pos (by omega)]
          have hF : F i := Classical.byContradiction fun h => hf ((h63 i hi).2 h)
          exact j31 (K 61 i) ⟨i, fun _ h => h, hF, h61 i hi⟩ (fun _ => h61 i hi)
      obtain ⟨v, e1, e2⟩ := step
      refine ⟨_, e1, by simp, fun m hm => ?_, fun a ha => ?_⟩
      · show SubV w n F m (fup Q 64 i v 64 m)
        rw [fup_eq]
        by_cases e : m = i
        · subst e; rw [upd1_at]; exact e2
        · rw [upd1_ne e]; exact q2 m (by omega)
      · show fup Q 64 i v a = _
        rw [fup_ne ha, q3 a ha]
    · obtain ⟨z, Q⟩ := s
      obtain ⟨q1, q2, q3⟩ := hp
      simp only at q1 q2 q3
      subst q1
      refine ⟨Q, ?_, q2, q3⟩
      show s_X7_fillOtherBest_b2 Q ((2 ^ n : Nat) : Int) = _
      unfold s_X7_fillOtherBest_b2
      rw [q3 54 (by decide), h18, if_pos (Int.le_refl _)]
  obtain ⟨K', k1, k2⟩ := key
  refine ⟨K', ?_, k2⟩
  unfold s_X7_fillOtherBest
  rw [k1]
  rfl
theorem co_t {a n : Nat} (h : a < 2 ^ n) (x : Nat) : Nat.testBit (2 ^ n - 1 - a) x = (decide (x < n) && !Nat.testBit a x) := by
  rw [show 2 ^ n - 1 - a = 2 ^ n - (a + 1) by omega]
  exact Nat.testBit_two_pow_sub_succ h x
theorem co_sub {a b n : Nat} (h : a < 2 ^ n) : sub b (2 ^ n - 1 - a) ↔ b < 2 ^ n ∧ dj a b := by
  constructor
  · intro hs
    refine ⟨sub_lt hs (by omega), fun x h1 h2 => ?_⟩
    have := hs x h2
    rw [co_t h, h1] at this
    simp at this
  · rintro ⟨h1, h2⟩ x hx
    rw [co_t h, decide_eq_true (bit_lt h1 hx)]
    cases hb : Nat.testBit a x with
    | false => rfl
    | true => exact absurd (h2 x hb hx) id
theorem c_two {K : fM} {n : Nat} (hn : n ≤ 9) (h18 : K 54 18 = ((2 ^ n : Nat) : Int)) {F1 F2 : Nat → Prop} {w : Nat → Int} (w50 : ∀ i, 0 ≤ w i ∧ w i ≤ 50) (h63 : ∀ m, m < 2 ^ n → (1000000 ≤ K 63 m ↔ ¬ F1 m)) (h61 : ∀ m, m < 2 ^ n → K 61 m = wtm w m n) (h64 : ∀ m, m < 2 ^ n → SubV w n F2 m (K 64 m)) (F10 : F1 0) (F20 : F2 0) : ∃ v, s_X7_bestOfTwo_l33 K (0, 0) = some v ∧ TwoV w n F1 F2 v := by
  have p512 : 2 ^ n ≤ 2 ^ 9 := Nat.pow_le_pow_right (n := 2) (by decide) hn
  have p1 : 1 ≤ 2 ^ n := Nat.one_le_two_pow
  unfold s_X7_bestOfTwo_l33
  refine fLp_ex (P := fun i s => s.2 = (i : Int) ∧ (∃ a b, a < 2 ^ n ∧ b < 2 ^ n ∧ dj a b ∧ F1 a ∧ F2 b ∧ s.1 = wtm w a n + wtm w b n) ∧ ∀ a b, a < i → b < 2 ^ n → dj a b → F1 a → F2 b → wtm w a n + wtm w b n ≤ s.1) (2 ^ n) ⟨rfl, ⟨0, 0, by omega, by omega, fun x h => by rw [Nat.zero_testBit] at h; exact absurd h (by decide), F10, F20, by rw [wtm_zero]; rfl⟩, fun a b h => by omega⟩ (fun i s hi hp => ?_) (fun s hp => ?_)
  · obtain ⟨v, z⟩ := s
    obtain ⟨q1, q2, q3⟩ := hp
    simp only at q1 q2 q3
    subst q1
    have hfi : fin ((i : Int) + 1) := by unfold fin; omega
    have hF := h63 i hi
    by_cases hf : 1000000 ≤ K 63 i
    · refine ⟨(v, (i : Int) + 1), ?_, by simp, q2, fun a b h1 h2 h3 h4 h5 => ?_⟩
      · show s_X7_bestOfTwo_b33 K v (i : Int) = _
        unfold s_X7_bestOfTwo_b33
        rw [h18, if_neg (by omega), if_pos (by omega), show (i : Int).toNat = i from rfl, if_pos hf, if_pos hfi]
      · have : a ≠ i := fun e => hF.1 hf (e ▸ h4)
        exact q3 a b (by omega) h2 h3 h4 h5
    · have hF1 : F1 i := Classical.byContradiction fun h => hf (hF.2 h)
      obtain ⟨⟨b0, g1, g2, g3⟩, g4⟩ := h64 (2 ^ n - 1 - i) (by omega)
      have hb0 := (co_sub hi).1 g1
      have wb := wtm_bd w50 b0 n
      have wa := wtm_bd w50 i n
      have gi : (((2 ^ n : Nat) : Int) - 1 - (i : Int)).toNat = 2 ^ n - 1 - i := by omega
      refine ⟨(if v < wtm w i n + K 64 (2 ^ n - 1 - i) then wtm w i n + K 64 (2 ^ n - 1 - i) else v, (i : Int) + 1), ?_, by simp, ?_, fun a b h1 h2 h3 h4 h5 => ?_⟩
      · show s_X7_bestOfTwo_b33 K v (i : Int) = _
        unfold s_X7_bestOfTwo_b33
        rw [h18, if_neg (by omega), if_pos (by omega), show (i : Int).toNat = i from rfl, if_neg hf, gi, h61 i hi, if_pos (by unfold fin; omega), c_max, Option.bind_some, if_pos hfi]
      · show ∃ a b, _ ∧ _ ∧ _ ∧ _ ∧ _ ∧ (if v < wtm w i n + K 64 (2 ^ n - 1 - i) then wtm w i n + K 64 (2 ^ n - 1 - i) else v) = _
        split
        · exact ⟨i, b0, hi, hb0.1, hb0.2, hF1, g2, by rw [g3]⟩
        · exact q2
      · show _ ≤ (if v < wtm w i n + K 64 (2 ^ n - 1 - i) then wtm w i n + K 64 (2 ^ n - 1 - i) else v)
        by_cases e : a = i
        · subst e
          have := g4 b ((co_sub hi).2 ⟨h2, h3⟩) h5
          split <;> omega
        · have := q3 a b (by omega) h2 h3 h4 h5
          split <;> omega
  · obtain ⟨v, z⟩ := s
    obtain ⟨q1, q2, q3⟩ := hp
    simp only at q1 q2 q3
    subst q1
    refine ⟨v, ?_, q2, q3⟩
    show s_X7_bestOfTwo_b33 K v ((2 ^ n : Nat) : Int) = _
    unfold s_X7_bestOfTwo_b33
    rw [h18, if_pos (Int.le_refl _)]
theorem m_sumOf {N : fM} {n : Nat} (hn : n ≤ 9) (h39 : N 122 39 = n) {w : Nat → Int} (w50 : ∀ i, 0 ≤ w i ∧ w i ≤ 50) (h136 : ∀ i, i < n → N 136 i = w i) {m : Nat} (hm : m < 512) : s_X12_sumOf N (m : Int) = some (wtm w m n) := by
  have key : s_X12_sumOf_l4 N (m : Int) (0, 0) = some (wtm w m n) := by
    unfold s_X12_sumOf_l4
    have := fLp_for (b := fun s : Int × Int => s_X12_sumOf_b4 N (m : Int) s.1 s.2) (fun i => (wtm w m i, (i : Int))) n (e := wtm w m n) (fun i hi => ?_) ?_
    · exact this
    · show s_X12_sumOf_b4 N (m : Int) (wtm w m i) (i : Int) = some (.inl (wtm w m i + (if Nat.testBit m i then w i else 0), ((i + 1 : Nat) : Int)))
      have hb := wtm_bd w50 m i
      have hwi := w50 i
      unfold s_X12_sumOf_b4
      rw [h39, if_neg (by omega), b_test9 m hm i (by omega), show (i : Int).toNat = i from rfl, h136 i hi]
      cases hbit : Nat.testBit m i with
      | false =>
        rw [if_pos (by decide), if_pos (by unfold fin; omega)]
        rfl
      | true =>
        rw [if_neg (by decide), if_pos (by unfold fin; omega)]
        rfl
    · show s_X12_sumOf_b4 N (m : Int) (wtm w m n) (n : Int) = _
      unfold s_X12_sumOf_b4
      rw [h39, if_pos (Int.le_refl _)]
  unfold s_X12_sumOf
  rw [key]
  rfl
theorem m_two {N : fM} {n : Nat} (hn : n ≤ 9) (h39 : N 122 39 = n) {w : Nat → Int} (w50 : ∀ i, 0 ≤ w i ∧ w i ≤ 50) (h136 : ∀ i, i < n → N 136 i = w i) {F1 F2 : Nat → Prop} {a0 b0 : Nat} (ha : a0 < 6) (hb : b0 < 6) (c1 : ∀ m, m < 2 ^ n → (F1 m → N 143 (512 * a0 + m) = 1) ∧ (¬ F1 m → N 143 (512 * a0 + m) = 0)) (c2 : ∀ m, m < 2 ^ n → (F2 m → N 143 (512 * b0 + m) = 1) ∧ (¬ F2 m → N 143 (512 * b0 + m) = 0)) (F10 : F1 0) (F20 : F2 0) : ∃ v, s_X12_two_l70 N (a0 : Int) (b0 : Int) (((2 ^ n : Nat) : Int) - 1) (0, 0) = some v ∧ TwoV w n F1 F2 v := by
  have p512 : 2 ^ n ≤ 2 ^ 9 := Nat.pow_le_pow_right (n := 2) (by decide) hn
  have p1 : 1 ≤ 2 ^ n := Nat.one_le_two_pow
  have hall : ((2 ^ n : Nat) : Int) - 1 = ((2 ^ n - 1 : Nat) : Int) := by omega
  unfold s_X12_two_l70
  refine fLp_ex (P := fun i s => s.2 = (i : Int) ∧ (∃ a b, a < 2 ^ n ∧ b < 2 ^ n ∧ dj a b ∧ F1 a ∧ F2 b ∧ s.1 = wtm w a n + wtm w b n) ∧ ∀ a b, a < i → b < 2 ^ n → dj a b → F1 a → F2 b → wtm w a n + wtm w b n ≤ s.1) (2 ^ n) ⟨rfl, ⟨0, 0, by omega, by omega, fun x h => by rw [Nat.zero_testBit] at h; exact absurd h (by decide), F10, F20, by rw [wtm_zero]; rfl⟩, fun a b h => by omega⟩ (fun i s hi hp => ?_) (fun s hp => ?_)
  · obtain ⟨v, z⟩ := s
    obtain ⟨q1, q2, q3⟩ := hp
    simp only at q1 q2 q3
    subst q1
    have hfi : fin ((i : Int) + 1) := by unfold fin; omega
    have gi : (512 * (a0 : Int) + (i : Int)).toNat = 512 * a0 + i := by omega
    have g : fin (512 * (a0 : Int)) ∧ fin (512 * (a0 : Int) + (i : Int)) ∧ (0 ≤ 512 * (a0 : Int) + (i : Int) ∧ 512 * (a0 : Int) + (i : Int) < 3072) := by unfold fin; omega
    have hrest : fand (((2 ^ n : Nat) : Int) - 1) (fxor (i : Int) (-1)) = ((2 ^ n - 1 - i : Nat) : Int) := by
      rw [hall, fandn_nat (by omega)]
      congr 1
      refine Nat.eq_of_testBit_eq fun x => ?_
      rw [df_t, co_t hi, Nat.testBit_two_pow_sub_one]
    by_cases hF : F1 i
    · have h143 := (c1 i hi).1 hF
      obtain ⟨rest, hrs⟩ : ∃ rest, rest = 2 ^ n - 1 - i := ⟨_, rfl⟩
      have hrl : rest < 2 ^ n := by omega
      rw [← hrs] at hrest
      have wi := wtm_bd w50 i n
      have inner : ∀ (k b : Nat) (v : Int), b ≤ k → sub b rest → (∃ a b, a < 2 ^ n ∧ b < 2 ^ n ∧ dj a b ∧ F1 a ∧ F2 b ∧ v = wtm w a n + wtm w b n) → (∀ c, sub c rest → b < c → F2 c → wtm w i n + wtm w c n ≤ v) → ∃ e, fLp (fun s : Int × Int => s_X12_two_b109 N (a0 : Int) (b0 : Int) (((2 ^ n : Nat) : Int) - 1) s.1 (i : Int) (rest : Int) s.2) (v, (b : Int)) = some e ∧ (∃ a b, a < 2 ^ n ∧ b < 2 ^ n ∧ dj a b ∧ F1 a ∧ F2 b ∧ e = wtm w a n + wtm w b n) ∧ v ≤ e ∧ ∀ c, sub c rest → F2 c → wtm w i n + wtm w c n ≤ e := by
        intro k
        induction k with
        | zero =>
          intro b v hk hb hatt hold
          have hb0 : b = 0 := by omega
          subst hb0
          have wb := wtm_bd w50 0 n
          have gb : (512 * (b0 : Int) + ((0 : Nat) : Int)).toNat = 512 * b0 + 0 := by omega
          have g2 : fin (512 * (b0 : Int)) ∧ fin (512 * (b0 : Int) + ((0 : Nat) : Int)) ∧ (0 ≤ 512 * (b0 : Int) + ((0 : Nat) : Int) ∧ 512 * (b0 : Int) + ((0 : Nat) : Int) < 3072) := by unfold fin; omega
          have h1 := (c2 0 (by omega)).1 F20
          have e1 : s_X12_two_b109 N (a0 : Int) (b0 : Int) (((2 ^ n : Nat) : Int) - 1) v (i : Int) (rest : Int) ((0 : Nat) : Int) = some (.inl (if wtm w i n + wtm w 0 n ≤ v then v else wtm w i n + wtm w 0 n, -1)) := by
            unfold s_X12_two_b109 s_X12_two_j163
            rw [if_neg (by omega), if_pos g2, gb, h1, if_neg (by decide), m_sumOf hn h39 w50 h136 (by omega), Option.bind_some, m_sumOf hn h39 w50 h136 (by omega), Option.bind_some, if_pos (by unfold fin; omega)]
            have hz : ¬ (¬ ((0 : Nat) : Int) = 0) := fun e => e rfl
            have hf : fin (wtm w i n + wtm w 0 n) := by unfold fin; omega
            by_cases hv : wtm w i n + wtm w 0 n ≤ v
            · simp only [if_pos hv]
              rw [if_neg hz]
            · simp only [if_neg hv, Option.bind_some, if_pos hf]
              rw [if_neg hz]
          have e2 : ∀ u : Int, s_X12_two_b109 N (a0 : Int) (b0 : Int) (((2 ^ n : Nat) : Int) - 1) u (i : Int) (rest : Int) (-1) = some (.inr u) := fun u => by
            unfold s_X12_two_b109
            rw [if_pos (by decide)]
          refine ⟨if wtm w i n + wtm w 0 n ≤ v then v else wtm w i n + wtm w 0 n, ?_, ?_, ?_, fun c hc hF2 => ?_⟩
          · rw [fLp_eq]
            show (s_X12_two_b109 N (a0 : Int) (b0 : Int) (((2 ^ n : Nat) : Int) - 1) v (i : Int) (rest : Int) ((0 : Nat) : Int)).bind _ = _
            rw [e1, Option.bind_some]
            show fLp _ _ = _
            rw [fLp_eq]
            show (s_X12_two_b109 N (a0 : Int) (b0 : Int) (((2 ^ n : Nat) : Int) - 1) _ (i : Int) (rest : Int) (-1)).bind _ = _
            rw [e2]
            rfl
          · split
            · exact hatt
            · exact ⟨i, 0, hi, by omega, fun x _ h => by rw [Nat.zero_testBit] at h; exact absurd h (by decide), hF, F20, rfl⟩
          · split <;> omega
          · by_cases e : c = 0
            · subst e; split <;> omega
            · have := hold c hc (by omega) hF2
              split <;> omega
        | succ k ih =>
          intro b v hk hb hatt hold
          by_cases hb0 : b ≤ k
          · exact ih b v hb0 hb hatt hold
          · have hbl := sub_lt hb hrl
            have wb := wtm_bd w50 b n
            obtain ⟨n1, n2, n3⟩ := sub_next hb (by omega)
            have gb : (512 * (b0 : Int) + (b : Int)).toNat = 512 * b0 + b := by omega
            have g2 : fin (512 * (b0 : Int)) ∧ fin (512 * (b0 : Int) + (b : Int)) ∧ (0 ≤ 512 * (b0 : Int) + (b : Int) ∧ 512 * (b0 : Int) + (b : Int) < 3072) := by unfold fin; omega
            have hnx : fand ((b : Int) - 1) (rest : Int) = (((b - 1) &&& rest : Nat) : Int) := by
              rw [show (b : Int) - 1 = ((b - 1 : Nat) : Int) by omega]
              exact fand_nat (by omega) (by omega)
            have hfb : fin ((b : Int) - 1) := by unfold fin; omega
            have go : ∃ v', s_X12_two_b109 N (a0 : Int) (b0 : Int) (((2 ^ n : Nat) : Int) - 1) v (i : Int) (rest : Int) (b : Int) = some (.inl (v', (((b - 1) &&& rest : Nat) : Int))) ∧ (∃ a b, a < 2 ^ n ∧ b < 2 ^ n ∧ dj a b ∧ F1 a ∧ F2 b ∧ v' = wtm w a n + wtm w b n) ∧ v ≤ v' ∧ (F2 b → wtm w i n + wtm w b n ≤ v') := by
              unfold s_X12_two_b109 s_X12_two_j163
              rw [if_neg (by omega), if_pos g2, gb, hnx, if_pos (show ¬ (b : Int) = 0 by omega), if_pos hfb]
              by_cases hF2 : F2 b
              · rw [(c2 b hbl).1 hF2, if_neg (by decide), m_sumOf hn h39 w50 h136 (by omega), Option.bind_some, m_sumOf hn h39 w50 h136 (by omega), Option.bind_some, if_pos (by unfold fin; omega)]
                by_cases hv : wtm w i n + wtm w b n ≤ v
                · rw [if_pos hv]
                  exact ⟨v, rfl, hatt, Int.le_refl _, fun _ => hv⟩
                · rw [if_neg hv, Option.bind_some, Option.bind_some, if_pos (show fin (wtm w i n + wtm w b n) by unfold fin; omega), if_pos (show ¬ (b : Int) = 0 by omega), if_pos hfb]
                  have hs2 := hb
                  rw [hrs] at hs2
                  have hdj := (co_sub hi).1 hs2
                  exact ⟨wtm w i n + wtm w b n, rfl, ⟨i, b, hi, hdj.1, hdj.2, hF, hF2, rfl⟩, by omega, fun _ => Int.le_refl _⟩
              · rw [(c2 b hbl).2 hF2, if_pos rfl]
                exact ⟨v, rfl, hatt, Int.le_refl _, fun h => absurd h hF2⟩
            obtain ⟨v', e1, e2, e3, e4⟩ := go
            obtain ⟨e, k1, k2, k3, k4⟩ := ih ((b - 1) &&& rest) v' (by omega) n1 e2 (fun c hc hlt hF2 => by
              by_cases e : c = b
              · subst e; exact e4 hF2
              · by_cases hcb : c < b
                · have := n3 c hc hcb
                  omega
                · have := hold c hc (by omega) hF2
                  omega)
            refine ⟨e, ?_, k2, by omega, k4⟩
            rw [fLp_eq]
            show (s_X12_two_b109 N (a0 : Int) (b0 : Int) (((2 ^ n : Nat) : Int) - 1) v (i : Int) (rest : Int) (b : Int)).bind _ = _
            rw [e1, Option.bind_some]
            exact k1
      obtain ⟨e, k1, k2, k3, k4⟩ := inner rest rest v (Nat.le_refl _) (fun _ h => h) q2 (fun c hc hlt _ => by have := sub_le hc; omega)
      refine ⟨(e, (i : Int) + 1), ?_, by simp, k2, fun a b h1 h2 h3 h4 h5 => ?_⟩
      · show s_X12_two_b70 N (a0 : Int) (b0 : Int) (((2 ^ n : Nat) : Int) - 1) v (i : Int) = _
        unfold s_X12_two_b70
        rw [if_neg (by omega), if_pos g, gi, h143, if_pos (by decide), hrest]
        unfold s_X12_two_l109
        rw [k1, Option.bind_some, if_pos hfi]
      · show _ ≤ e
        by_cases e0 : a = i
        · subst e0
          refine k4 b ?_ h5
          rw [hrs]
          exact (co_sub hi).2 ⟨h2, h3⟩
        · have := q3 a b (by omega) h2 h3 h4 h5
          omega
    · refine ⟨(v, (i : Int) + 1), ?_, by simp, q2, fun a b h1 h2 h3 h4 h5 => ?_⟩
      · show s_X12_two_b70 N (a0 : Int) (b0 : Int) (((2 ^ n : Nat) : Int) - 1) v (i : Int) = _
        unfold s_X12_two_b70
        rw [if_neg (by omega), if_pos g, gi, (c1 i hi).2 hF, if_neg (fun e => e rfl), if_pos hfi]
      · have : a ≠ i := fun e => hF (e ▸ h4)
        exact q3 a b (by omega) h2 h3 h4 h5
  · obtain ⟨v, z⟩ := s
    obtain ⟨q1, q2, q3⟩ := hp
    simp only at q1 q2 q3
    subst q1
    refine ⟨v, ?_, q2, q3⟩
    show s_X12_two_b70 N (a0 : Int) (b0 : Int) (((2 ^ n : Nat) : Int) - 1) v ((2 ^ n : Nat) : Int) = _
    unfold s_X12_two_b70
    rw [if_pos (by omega)]
