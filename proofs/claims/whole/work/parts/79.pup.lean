/-! ===== pupils: the table and the first best code ===== -/
def grt (v : Nat → Int) (f : Nat → Int) (m : Nat) : Nat → Int
  | 0 => 0
  | n + 1 => if Nat.testBit m n then grt v f m n else if grt v f m n < v n + f (m ||| 2 ^ n) then v n + f (m ||| 2 ^ n) else grt v f m n
def tbl (w : Nat → Nat → Int) (T k : Nat) : Nat → Nat → Int
  | 0 => fun _ => 0
  | r + 1 => fun m => grt (fun t => w t (k - 1 - r)) (tbl w T k r) m T
theorem grt_ge (v f : Nat → Int) (m : Nat) : ∀ n t, t < n → Nat.testBit m t = false → v t + f (m ||| 2 ^ t) ≤ grt v f m n
  | 0, t, h, _ => by omega
  | n + 1, t, h, hb => by
    unfold grt
    by_cases e : t = n
    · subst e
      rw [hb, if_neg (by decide)]
      split <;> omega
    · have := grt_ge v f m n t (by omega) hb
      split
      · exact this
      · split <;> omega
theorem grt_bd {v f : Nat → Int} {m : Nat} {B : Int} (hB : 0 ≤ B) (T : Nat) (h : ∀ t, t < T → Nat.testBit m t = false → 0 ≤ v t + f (m ||| 2 ^ t) ∧ v t + f (m ||| 2 ^ t) ≤ B) : ∀ n, n ≤ T → 0 ≤ grt v f m n ∧ grt v f m n ≤ B
  | 0, _ => ⟨Int.le_refl _, hB⟩
  | n + 1, hn => by
    have ih := grt_bd hB T h n (by omega)
    unfold grt
    cases hb : Nat.testBit m n with
    | true => rw [if_pos rfl]; exact ih
    | false =>
      have := h n (by omega) hb
      rw [if_neg (by decide)]
      split <;> omega
theorem grt_none {v f : Nat → Int} {m : Nat} : ∀ n, (∀ t, t < n → Nat.testBit m t = true) → grt v f m n = 0
  | 0, _ => rfl
  | n + 1, h => by
    unfold grt
    rw [if_pos (h n (by omega))]
    exact grt_none n (fun t ht => h t (by omega))
theorem grt_at {v f : Nat → Int} {m : Nat} : ∀ n, (∀ t, t < n → Nat.testBit m t = false → 0 ≤ v t + f (m ||| 2 ^ t)) → (∃ t, t < n ∧ Nat.testBit m t = false) → ∃ t, t < n ∧ Nat.testBit m t = false ∧ v t + f (m ||| 2 ^ t) = grt v f m n
  | 0, _, hx => by obtain ⟨t, h, _⟩ := hx; omega
  | n + 1, h, hx => by
    unfold grt
    cases hb : Nat.testBit m n with
    | true =>
      rw [if_pos rfl]
      have : ∃ t, t < n ∧ Nat.testBit m t = false := by
        obtain ⟨t, h1, h2⟩ := hx
        refine ⟨t, ?_, h2⟩
        have : t ≠ n := fun e => by rw [e, hb] at h2; exact absurd h2 (by decide)
        omega
      obtain ⟨t, a, b, c⟩ := grt_at n (fun t ht => h t (by omega)) this
      exact ⟨t, by omega, b, c⟩
    | false =>
      rw [if_neg (by decide)]
      by_cases hl : grt v f m n < v n + f (m ||| 2 ^ n)
      · rw [if_pos hl]
        exact ⟨n, by omega, hb, rfl⟩
      · rw [if_neg hl]
        by_cases hx2 : ∃ t, t < n ∧ Nat.testBit m t = false
        · obtain ⟨t, a, b, c⟩ := grt_at n (fun t ht => h t (by omega)) hx2
          exact ⟨t, by omega, b, c⟩
        · have h0 : grt v f m n = 0 := grt_none n (fun t ht => by
            cases hb2 : Nat.testBit m t with
            | true => rfl
            | false => exact absurd ⟨t, ht, hb2⟩ hx2)
          have := h n (by omega) hb
          exact ⟨n, by omega, hb, by omega⟩
section
variable (w : Nat → Nat → Int) (T k : Nat)
theorem tbl_bd (hw : ∀ t u, t < 6 → u < 6 → 0 ≤ w t u ∧ w t u ≤ 99) (hT : T ≤ 6) (hk : k ≤ T) : ∀ r m, r ≤ k → 0 ≤ tbl w T k r m ∧ tbl w T k r m ≤ 99 * r
  | 0, m, _ => ⟨Int.le_refl _, Int.le_refl _⟩
  | r + 1, m, hr => by
    unfold tbl
    refine grt_bd (by omega) T (fun t ht _ => ?_) T (Nat.le_refl _)
    have h1 := hw t (k - 1 - r) (by omega) (by omega)
    have h2 := tbl_bd hw hT hk r (m ||| 2 ^ t) (by omega)
    omega
/-- the picks -/
def gp (i m : Nat) : Nat := fstt (fun t => Nat.testBit m t = false ∧ w t i + tbl w T k (k - 1 - i) (m ||| 2 ^ t) = tbl w T k (k - i) m) T
def gm : Nat → Nat
  | 0 => 0
  | i + 1 => gm i ||| 2 ^ gp w T k i (gm i)
def gg (i : Nat) : Nat := gp w T k i (gm w T k i)
def dig (c s : Nat) : Nat := c / T ^ s % T
def um (c : Nat) : Nat → Nat
  | 0 => 0
  | s + 1 => um c s ||| 2 ^ dig T c s
def us (c : Nat) : Nat → Int
  | 0 => 0
  | s + 1 => us c s + w (dig T c s) (k - 1 - s)
def cd : Nat → Nat
  | 0 => 0
  | i + 1 => cd i * T + gg w T k i
def dst (c : Nat) : Prop := ∀ s, s < k → Nat.testBit (um T c s) (dig T c s) = false
variable {w T k}
theorem gm_lt (hw : ∀ t u, t < 6 → u < 6 → 0 ≤ w t u ∧ w t u ≤ 99) (hT : T ≤ 6) (hk : k ≤ T) : ∀ i, i ≤ k → gm w T k i < 2 ^ T ∧ pc (gm w T k i) 9 = i ∧ (∀ j, j < i → gg w T k j < T ∧ Nat.testBit (gm w T k j) (gg w T k j) = false ∧ w (gg w T k j) j + tbl w T k (k - 1 - j) (gm w T k (j + 1)) = tbl w T k (k - j) (gm w T k j) ∧ ∀ t, t < gg w T k j → Nat.testBit (gm w T k j) t = false → w t j + tbl w T k (k - 1 - j) (gm w T k j ||| 2 ^ t) ≠ tbl w T k (k - j) (gm w T k j)) ∧ ∀ x, Nat.testBit (gm w T k i) x = true ↔ ∃ j, j < i ∧ gg w T k j = x
  | 0, _ => by
    refine ⟨Nat.two_pow_pos T, (by decide : pc 0 9 = 0), fun j hj => by omega, fun x => ⟨fun h => ?_, fun ⟨j, hj, _⟩ => by omega⟩⟩
    exact absurd h (by rw [show gm w T k 0 = 0 from rfl, Nat.zero_testBit]; decide)
  | i + 1, hi => by
    obtain ⟨a1, a2, a3, a4⟩ := gm_lt hw hT hk i (by omega)
    obtain ⟨t, b1, b2, b3⟩ : ∃ t, t < T ∧ Nat.testBit (gm w T k i) t = false ∧ w t i + tbl w T k (k - 1 - i) (gm w T k i ||| 2 ^ t) = tbl w T k (k - i) (gm w T k i) := by
      have hfree := pc_free (n := T) (by omega) a1 (by omega)
      obtain ⟨t, c1, c2, c3⟩ := grt_at (v := fun t => w t (k - 1 - (k - 1 - i))) (f := tbl w T k (k - 1 - i)) (m := gm w T k i) T (fun t ht _ => by
        have h1 := hw t (k - 1 - (k - 1 - i)) (by omega) (by omega)
        have h2 := tbl_bd w T k hw hT hk (k - 1 - i) (gm w T k i ||| 2 ^ t) (by omega)
        show 0 ≤ w t (k - 1 - (k - 1 - i)) + _
        omega) hfree
      refine ⟨t, c1, c2, ?_⟩
      have e : tbl w T k (k - i) (gm w T k i) = grt (fun t => w t (k - 1 - (k - 1 - i))) (tbl w T k (k - 1 - i)) (gm w T k i) T := by
        conv => lhs; rw [show k - i = (k - 1 - i) + 1 by omega]
        rfl
      rw [e, ← c3]
      show _ = w t (k - 1 - (k - 1 - i)) + _
      rw [show k - 1 - (k - 1 - i) = i by omega]
    obtain ⟨d1, d2, d3⟩ := fstt_ok (fun t => Nat.testBit (gm w T k i) t = false ∧ w t i + tbl w T k (k - 1 - i) (gm w T k i ||| 2 ^ t) = tbl w T k (k - i) (gm w T k i)) T ⟨t, b1, b2, b3⟩
    have eg : gm w T k (i + 1) = gm w T k i ||| 2 ^ gg w T k i := rfl
    have h512 : gm w T k i < 512 := Nat.lt_of_lt_of_le a1 (Nat.pow_le_pow_right (by decide) (by omega : T ≤ 9))
    have dg : gg w T k i < T := d1
    refine ⟨by rw [eg]; exact or_lt a1 dg, ?_, fun j hj => ?_, fun x => ?_⟩
    · rw [eg, b_pc _ h512 _ (by omega), a2, show Nat.testBit (gm w T k i) (gg w T k i) = false from d2.1]
      rfl
    · by_cases e : j = i
      · subst e
        exact ⟨d1, d2.1, d2.2, fun t ht hb he => d3 t ht ⟨hb, he⟩⟩
      · exact a3 j (by omega)
    · rw [eg, tb_or]
      constructor
      · intro h
        rw [Bool.or_eq_true] at h
        rcases h with h | h
        · obtain ⟨j, h1, h2⟩ := (a4 x).1 h
          exact ⟨j, by omega, h2⟩
        · exact ⟨i, by omega, of_decide_eq_true h⟩
      · rintro ⟨j, h1, h2⟩
        rw [Bool.or_eq_true]
        by_cases e : j = i
        · subst e; exact .inr (decide_eq_true h2)
        · exact .inl ((a4 x).2 ⟨j, by omega, h2⟩)
theorem um_bits (c : Nat) : ∀ s x, Nat.testBit (um T c s) x = true ↔ ∃ q, q < s ∧ dig T c q = x
  | 0, x => ⟨fun h => absurd h (by rw [show um T c 0 = 0 from rfl, Nat.zero_testBit]; decide), fun ⟨q, h, _⟩ => by omega⟩
  | s + 1, x => by
    have ih := um_bits c s x
    show Nat.testBit (um T c s ||| 2 ^ dig T c s) x = true ↔ _
    rw [tb_or, Bool.or_eq_true]
    constructor
    · rintro (h | h)
      · obtain ⟨q, h1, h2⟩ := ih.1 h
        exact ⟨q, by omega, h2⟩
      · exact ⟨s, by omega, of_decide_eq_true h⟩
    · rintro ⟨q, h1, h2⟩
      by_cases e : q = s
      · subst e; exact .inr (decide_eq_true h2)
      · exact .inl (ih.2 ⟨q, by omega, h2⟩)
theorem dig_lt (hT : 0 < T) (c s : Nat) : dig T c s < T := Nat.mod_lt _ hT
theorem um_lt (hT : 0 < T) (h6 : T ≤ 6) (c : Nat) : ∀ s, um T c s < 64
  | 0 => (by decide : 0 < 64)
  | s + 1 => or_lt (n := 6) (um_lt hT h6 c s) (Nat.lt_of_lt_of_le (dig_lt hT c s) h6)
theorem um_pc (hT : 0 < T) (h6 : T ≤ 6) (c : Nat) : ∀ s, pc (um T c s) 9 ≤ s ∧ (pc (um T c s) 9 = s ↔ ∀ q, q < s → Nat.testBit (um T c q) (dig T c q) = false)
  | 0 => ⟨(by decide : pc 0 9 ≤ 0), fun _ q h => by omega, fun _ => (by decide : pc 0 9 = 0)⟩
  | s + 1 => by
    obtain ⟨h1, h2⟩ := um_pc hT h6 c s
    have hl := um_lt hT h6 c s
    have hd := dig_lt hT c s
    have e : pc (um T c (s + 1)) 9 = pc (um T c s) 9 + if Nat.testBit (um T c s) (dig T c s) then 0 else 1 := b_pc _ (by omega) _ (by omega)
    rw [e]
    cases hb : Nat.testBit (um T c s) (dig T c s) with
    | true =>
      rw [if_pos rfl]
      refine ⟨by omega, fun h => by omega, fun h => ?_⟩
      have := h s (by omega)
      rw [hb] at this
      exact absurd this (by decide)
    | false =>
      rw [if_neg (by decide)]
      refine ⟨by omega, fun h q hq => ?_, fun h => ?_⟩
      · by_cases e : q = s
        · subst e; exact hb
        · exact h2.1 (by omega) q (by omega)
      · have := h2.2 (fun q hq => h q (by omega))
        omega
theorem dig_ne {c r q : Nat} (hd : Nat.testBit (um T c r) (dig T c r) = false) (h : q < r) : dig T c r ≠ dig T c q := fun e => by
  have := (um_bits (T := T) c r (dig T c r)).2 ⟨q, h, e.symm⟩
  rw [hd] at this
  exact absurd this (by decide)
theorem us_le (hT : 0 < T) {c : Nat} : ∀ r m, (∀ s, s < r → Nat.testBit (um T c s) (dig T c s) = false) → (∀ s, s < r → Nat.testBit m (dig T c s) = false) → us w T k c r ≤ tbl w T k r m
  | 0, m, _, _ => Int.le_refl _
  | r + 1, m, h1, h2 => by
    have ih := us_le hT (c := c) r (m ||| 2 ^ dig T c r) (fun s hs => h1 s (by omega)) (fun s hs => by
      rw [tb_or, h2 s (by omega), decide_eq_false (dig_ne (h1 r (by omega)) hs)]
      rfl)
    have := grt_ge (fun t => w t (k - 1 - r)) (tbl w T k r) m T (dig T c r) (dig_lt hT c r) (h2 r (by omega))
    show us w T k c r + w (dig T c r) (k - 1 - r) ≤ grt (fun t => w t (k - 1 - r)) (tbl w T k r) m T
    have e : (fun t => w t (k - 1 - r)) (dig T c r) = w (dig T c r) (k - 1 - r) := rfl
    omega
theorem cd_div (hg : ∀ j, j < k → gg w T k j < T) : ∀ s i, s ≤ i → i ≤ k → cd w T k i / T ^ s = cd w T k (i - s)
  | 0, i, _, _ => by rw [Nat.pow_zero, Nat.div_one]; rfl
  | s + 1, i, h, h2 => by
    obtain ⟨i, rfl⟩ : ∃ i', i = i' + 1 := ⟨i - 1, by omega⟩
    have hlt := hg i (by omega)
    have e : cd w T k (i + 1) / T = cd w T k i := by
      show (cd w T k i * T + gg w T k i) / T = _
      rw [Nat.mul_comm, Nat.mul_add_div (by omega), Nat.div_eq_of_lt hlt, Nat.add_zero]
    rw [Nat.pow_succ, Nat.mul_comm, ← Nat.div_div_eq_div_mul, e, cd_div hg s i (by omega) (by omega), show i + 1 - (s + 1) = i - s by omega]
theorem cd_dig (hg : ∀ j, j < k → gg w T k j < T) {s : Nat} (hs : s < k) : dig T (cd w T k k) s = gg w T k (k - 1 - s) := by
  unfold dig
  rw [cd_div hg s k (by omega) (Nat.le_refl _), show k - s = (k - 1 - s) + 1 by omega]
  show (cd w T k (k - 1 - s) * T + gg w T k (k - 1 - s)) % T = _
  rw [Nat.mul_comm, Nat.mul_add_mod, Nat.mod_eq_of_lt (hg _ (by omega))]
theorem cd_dst (hw : ∀ t u, t < 6 → u < 6 → 0 ≤ w t u ∧ w t u ≤ 99) (hT : T ≤ 6) (hk : k ≤ T) : dst T k (cd w T k k) := by
  obtain ⟨-, -, h3, -⟩ := gm_lt hw hT hk k (Nat.le_refl _)
  have hg : ∀ j, j < k → gg w T k j < T := fun j hj => (h3 j hj).1
  intro s hs
  cases hb : Nat.testBit (um T (cd w T k k) s) (dig T (cd w T k k) s) with
  | false => rfl
  | true =>
    obtain ⟨q, hq, e⟩ := (um_bits _ _ _).1 hb
    rw [cd_dig hg (by omega), cd_dig hg (by omega)] at e
    have a := (h3 (k - 1 - q) (by omega)).2.1
    have b := ((gm_lt hw hT hk (k - 1 - q) (by omega)).2.2.2 (gg w T k (k - 1 - q))).2 ⟨k - 1 - s, by omega, e.symm⟩
    rw [a] at b
    exact absurd b (by decide)
theorem cd_us (hw : ∀ t u, t < 6 → u < 6 → 0 ≤ w t u ∧ w t u ≤ 99) (hT : T ≤ 6) (hk : k ≤ T) : ∀ s, s ≤ k → us w T k (cd w T k k) s = tbl w T k s (gm w T k (k - s))
  | 0, _ => rfl
  | s + 1, hs => by
    obtain ⟨-, -, h3, -⟩ := gm_lt hw hT hk k (Nat.le_refl _)
    have hg : ∀ j, j < k → gg w T k j < T := fun j hj => (h3 j hj).1
    have ih := cd_us hw hT hk s (by omega)
    have a := (h3 (k - 1 - s) (by omega)).2.2.1
    show us w T k (cd w T k k) s + w (dig T (cd w T k k) s) (k - 1 - s) = _
    rw [cd_dig hg (by omega), ih, show k - (s + 1) = k - 1 - s by omega]
    rw [show k - 1 - (k - 1 - s) = s by omega, show k - 1 - s + 1 = k - s by omega, show k - (k - 1 - s) = s + 1 by omega] at a
    omega
theorem cd_le (hw : ∀ t u, t < 6 → u < 6 → 0 ≤ w t u ∧ w t u ≤ 99) (hT : T ≤ 6) (hk : k ≤ T) (h0 : 0 < T) {c : Nat} (hd : dst T k c) (hu : us w T k c k = tbl w T k k 0) : ∀ i, i ≤ k → cd w T k i < c / T ^ (k - i) ∨ (cd w T k i = c / T ^ (k - i) ∧ us w T k c (k - i) = tbl w T k (k - i) (gm w T k i) ∧ ∀ s, s < k - i → Nat.testBit (gm w T k i) (dig T c s) = false) ∨ (i = 0 ∧ T ^ k ≤ c)
  | 0, _ => by
    by_cases hc : T ^ k ≤ c
    · exact .inr (.inr ⟨rfl, hc⟩)
    · refine .inr (.inl ⟨?_, hu, fun s _ => Nat.zero_testBit _⟩)
      rw [Nat.sub_zero, Nat.div_eq_of_lt (by omega)]
      rfl
  | i + 1, hi => by
    obtain ⟨-, -, h3, -⟩ := gm_lt hw hT hk k (Nat.le_refl _)
    have top : c / T ^ (k - (i + 1)) = c / T ^ (k - i) * T + dig T c (k - (i + 1)) := by
      unfold dig
      rw [show k - i = (k - (i + 1)) + 1 by omega, Nat.pow_succ, ← Nat.div_div_eq_div_mul]
      have := Nat.div_add_mod (c / T ^ (k - (i + 1))) T
      rw [Nat.mul_comm] at this
      omega
    have hgi := (h3 i (by omega)).1
    have hcd : cd w T k (i + 1) = cd w T k i * T + gg w T k i := rfl
    have big : cd w T k i < c / T ^ (k - i) → cd w T k (i + 1) < c / T ^ (k - (i + 1)) := by
      intro h
      rw [top, hcd]
      have : (cd w T k i + 1) * T ≤ c / T ^ (k - i) * T := Nat.mul_le_mul_right T h
      rw [Nat.add_mul, Nat.one_mul] at this
      omega
    rcases cd_le hw hT hk h0 hd hu i (by omega) with h | ⟨h, h4, h5⟩ | ⟨h, h4⟩
    · exact .inl (big h)
    · have hs : k - i = (k - (i + 1)) + 1 := by omega
      have hfr := h5 (k - (i + 1)) (by omega)
      have hlt := dig_lt h0 c (k - (i + 1))
      have u1 : us w T k c (k - i) = us w T k c (k - (i + 1)) + w (dig T c (k - (i + 1))) i := by
        conv => lhs; rw [hs]
        show us w T k c (k - (i + 1)) + w (dig T c (k - (i + 1))) (k - 1 - (k - (i + 1))) = _
        rw [show k - 1 - (k - (i + 1)) = i by omega]
      have avoid : ∀ s, s < k - (i + 1) → Nat.testBit (gm w T k i ||| 2 ^ dig T c (k - (i + 1))) (dig T c s) = false := fun s hs2 => by
        rw [tb_or, h5 s (by omega), decide_eq_false (dig_ne (hd (k - (i + 1)) (by omega)) hs2)]
        rfl
      have u2 := us_le (w := w) (k := k) h0 (c := c) (k - (i + 1)) (gm w T k i ||| 2 ^ dig T c (k - (i + 1))) (fun s hs2 => hd s (by omega)) avoid
      have u3 := grt_ge (fun t => w t (k - 1 - (k - (i + 1)))) (tbl w T k (k - (i + 1))) (gm w T k i) T (dig T c (k - (i + 1))) hlt hfr
      have u4 : tbl w T k (k - i) (gm w T k i) = grt (fun t => w t (k - 1 - (k - (i + 1)))) (tbl w T k (k - (i + 1))) (gm w T k i) T := by
        conv => lhs; rw [hs]
        rfl
      have u5 : w (dig T c (k - (i + 1))) (k - 1 - (k - (i + 1))) = w (dig T c (k - (i + 1))) i := by
        rw [show k - 1 - (k - (i + 1)) = i by omega]
      have eqv : w (dig T c (k - (i + 1))) i + tbl w T k (k - (i + 1)) (gm w T k i ||| 2 ^ dig T c (k - (i + 1))) = tbl w T k (k - i) (gm w T k i) := by omega
      have hge : gg w T k i ≤ dig T c (k - (i + 1)) := by
        refine Classical.byContradiction fun hc => ?_
        refine (h3 i (by omega)).2.2.2 (dig T c (k - (i + 1))) (by omega) hfr ?_
        rw [show k - 1 - i = k - (i + 1) by omega]
        exact eqv
      by_cases e : gg w T k i = dig T c (k - (i + 1))
      · refine .inr (.inl ⟨by rw [top, hcd, h, e], ?_, fun s hs2 => ?_⟩)
        · show _ = tbl w T k (k - (i + 1)) (gm w T k i ||| 2 ^ gg w T k i)
          rw [e]
          omega
        · show Nat.testBit (gm w T k i ||| 2 ^ gg w T k i) (dig T c s) = false
          rw [e]
          exact avoid s hs2
      · refine .inl ?_
        rw [top, hcd, h]
        omega
    · subst h
      refine .inl (big ?_)
      rw [Nat.sub_zero]
      show 0 < _
      exact Nat.div_pos h4 (Nat.pow_pos h0)
end
