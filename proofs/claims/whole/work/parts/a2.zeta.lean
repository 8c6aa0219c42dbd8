/-! ===== festival: how many choices cover a set ===== -/
noncomputable def ind (F : Nat → Prop) (m : Nat) : Int := @ite _ (F m) (Classical.propDecidable _) 1 0
theorem ind_1 {F : Nat → Prop} {m : Nat} (h : F m) : ind F m = 1 := @if_pos _ (Classical.propDecidable _) h _ _ _
theorem ind_0 {F : Nat → Prop} {m : Nat} (h : ¬ F m) : ind F m = 0 := @if_neg _ (Classical.propDecidable _) h _ _ _
theorem ind_b (F : Nat → Prop) (m : Nat) : 0 ≤ ind F m ∧ ind F m ≤ 1 := by
  by_cases h : F m
  · rw [ind_1 h]; decide
  · rw [ind_0 h]; decide
theorem ind_n {F : Nat → Prop} {m : Nat} : ind F m ≠ 0 ↔ F m := by
  by_cases h : F m
  · rw [ind_1 h]; exact ⟨fun _ => h, fun _ => by decide⟩
  · rw [ind_0 h]; exact ⟨fun e => absurd rfl e, fun e => absurd e h⟩
def zt : Nat → (Nat → Int) → Nat → Int
  | 0, f, x => f x
  | k + 1, f, x => zt k f x + if Nat.testBit x k then zt k f (mw x k) else 0
def hif (n : Nat) (f : Nat → Int) (y : Nat) : Int := f (y + 2 ^ n)
theorem bt_add {n x : Nat} (hn : n < 9) (hx : x < 2 ^ n) (k : Nat) : Nat.testBit (x + 2 ^ n) k = (Nat.testBit x k || decide (n = k)) := by
  rw [← or_add9 n hn x hx, tb_or]
theorem mw_add {n x k : Nat} (hn : n < 9) (hx : x < 2 ^ n) (hk : k < n) : mw (x + 2 ^ n) k = mw x k + 2 ^ n := Nat.eq_of_testBit_eq fun i => by
  rw [mw_t, bt_add hn hx, bt_add hn (mw_lt hx hk), mw_t]
  by_cases e : k = i
  · subst e
    rw [decide_eq_true rfl, decide_eq_false (show ¬ n = k by omega)]
    simp
  · rw [decide_eq_false e]
    simp
theorem mw_top {n x : Nat} (hn : n < 9) (hx : x < 2 ^ n) : mw (x + 2 ^ n) n = x := Nat.eq_of_testBit_eq fun i => by
  rw [mw_t, bt_add hn hx]
  by_cases e : n = i
  · subst e
    rw [decide_eq_true rfl, Nat.testBit_lt_two_pow hx]
    rfl
  · rw [decide_eq_false e]
    simp
theorem zt_low {n x : Nat} (hx : x < 2 ^ n) (f : Nat → Int) : zt (n + 1) f x = zt n f x := by
  show zt n f x + (if Nat.testBit x n then zt n f (mw x n) else 0) = _
  rw [Nat.testBit_lt_two_pow hx]
  simp
theorem zt_hi {n x : Nat} (hn : n < 9) (hx : x < 2 ^ n) (f : Nat → Int) : zt (n + 1) f (x + 2 ^ n) = zt n f (x + 2 ^ n) + zt n f x := by
  show zt n f (x + 2 ^ n) + (if Nat.testBit (x + 2 ^ n) n then zt n f (mw (x + 2 ^ n) n) else 0) = _
  rw [bt_add hn hx, decide_eq_true rfl, mw_top hn hx]
  simp
theorem zt_shift {n : Nat} (hn : n < 9) (f : Nat → Int) : ∀ k, k ≤ n → ∀ x, x < 2 ^ n → zt k f (x + 2 ^ n) = zt k (hif n f) x
  | 0, _, _, _ => rfl
  | k + 1, hk, x, hx => by
    show zt k f (x + 2 ^ n) + (if Nat.testBit (x + 2 ^ n) k then zt k f (mw (x + 2 ^ n) k) else 0) = zt k (hif n f) x + (if Nat.testBit x k then zt k (hif n f) (mw x k) else 0)
    rw [zt_shift hn f k (by omega) x hx, bt_add hn hx, decide_eq_false (show ¬ n = k by omega), Bool.or_false, mw_add hn hx (by omega), zt_shift hn f k (by omega) (mw x k) (mw_lt hx (by omega))]
theorem zt_congr {f g : Nat → Int} {B : Nat} (h : ∀ x, x < B → f x = g x) : ∀ k x, x < B → zt k f x = zt k g x
  | 0, x, hx => h x hx
  | k + 1, x, hx => by
    show zt k f x + (if Nat.testBit x k then zt k f (mw x k) else 0) = zt k g x + (if Nat.testBit x k then zt k g (mw x k) else 0)
    have := sub_le (mw_sub x k)
    rw [zt_congr h k x hx, zt_congr h k (mw x k) (by omega)]
theorem zt_add (f g : Nat → Int) : ∀ k x, zt k (fun y => f y + g y) x = zt k f x + zt k g x
  | 0, _ => rfl
  | k + 1, x => by
    show zt k (fun y => f y + g y) x + (if Nat.testBit x k then zt k (fun y => f y + g y) (mw x k) else 0) = (zt k f x + (if Nat.testBit x k then zt k f (mw x k) else 0)) + (zt k g x + (if Nat.testBit x k then zt k g (mw x k) else 0))
    rw [zt_add f g k x, zt_add f g k (mw x k)]
    split <;> omega
theorem zt_zero : ∀ k x, zt k (fun _ => 0) x = 0
  | 0, _ => rfl
  | k + 1, x => by
    show zt k (fun _ => 0) x + (if Nat.testBit x k then zt k (fun _ => 0) (mw x k) else 0) = 0
    rw [zt_zero k x, zt_zero k (mw x k)]
    simp
theorem zt_ge {h : Nat → Int} {B : Nat} (hh : ∀ x, x < B → 0 ≤ h x) : ∀ k x, x < B → h x ≤ zt k h x ∧ 0 ≤ zt k h x
  | 0, x, hx => ⟨Int.le_refl _, hh x hx⟩
  | k + 1, x, hx => by
    have a := zt_ge hh k x hx
    have := sub_le (mw_sub x k)
    have b := zt_ge hh k (mw x k) (by omega)
    show h x ≤ zt k h x + (if Nat.testBit x k then zt k h (mw x k) else 0) ∧ 0 ≤ zt k h x + (if Nat.testBit x k then zt k h (mw x k) else 0)
    split <;> omega
theorem zt_le {h : Nat → Int} (hh : ∀ x, 0 ≤ h x ∧ h x ≤ 1) : ∀ (k x : Nat), 0 ≤ zt k h x ∧ zt k h x ≤ ((2 ^ k : Nat) : Int)
  | 0, x => by
    have := hh x
    show 0 ≤ h x ∧ h x ≤ ((1 : Nat) : Int)
    omega
  | k + 1, x => by
    have a := zt_le hh k x
    have b := zt_le hh k (mw x k)
    have e : 2 ^ (k + 1) = 2 ^ k + 2 ^ k := by rw [Nat.pow_succ]; omega
    show 0 ≤ zt k h x + (if Nat.testBit x k then zt k h (mw x k) else 0) ∧ zt k h x + (if Nat.testBit x k then zt k h (mw x k) else 0) ≤ ((2 ^ (k + 1) : Nat) : Int)
    rw [e]
    split <;> omega
def dl0 (x : Nat) : Int := if x = 0 then 1 else 0
theorem zt_dl : ∀ n, n ≤ 9 → ∀ x, x < 2 ^ n → zt n dl0 x = 1
  | 0, _, x, hx => by
    have : x < 1 := hx
    have : x = 0 := by omega
    subst this
    rfl
  | n + 1, hn, x, hx => by
    have e : 2 ^ (n + 1) = 2 ^ n + 2 ^ n := by rw [Nat.pow_succ]; omega
    by_cases h : x < 2 ^ n
    · rw [zt_low h, zt_dl n (by omega) x h]
    · obtain ⟨y, rfl⟩ : ∃ y, x = y + 2 ^ n := ⟨x - 2 ^ n, by omega⟩
      have hy : y < 2 ^ n := by omega
      have hz : zt n (hif n dl0) y = 0 := by
        rw [zt_congr (g := fun _ => 0) (B := 2 ^ n) (fun z _ => by
          have : 1 ≤ 2 ^ n := Nat.one_le_two_pow
          show (if z + 2 ^ n = 0 then (1 : Int) else 0) = 0
          rw [if_neg (by omega)]) n y hy, zt_zero]
      rw [zt_hi (by omega) hy, zt_shift (by omega) dl0 n (Nat.le_refl _) y hy, hz, zt_dl n (by omega) y hy]
      rfl
/-- pairs with that union -/
def cv : Nat → (Nat → Int) → (Nat → Int) → Nat → Int
  | 0, f, g, _ => f 0 * g 0
  | n + 1, f, g, x => if x < 2 ^ n then cv n f g x else cv n f (hif n g) (x - 2 ^ n) + cv n (hif n f) g (x - 2 ^ n) + cv n (hif n f) (hif n g) (x - 2 ^ n)
theorem cv_hi {n y : Nat} (f g : Nat → Int) : cv (n + 1) f g (y + 2 ^ n) = cv n f (hif n g) y + cv n (hif n f) g y + cv n (hif n f) (hif n g) y := by
  show (if y + 2 ^ n < 2 ^ n then _ else _) = _
  rw [if_neg (by omega), Nat.add_sub_cancel]
theorem zt_cv : ∀ n, n ≤ 9 → ∀ (f g : Nat → Int) (x : Nat), x < 2 ^ n → zt n (cv n f g) x = zt n f x * zt n g x
  | 0, _, f, g, x, hx => by
    have : x < 1 := hx
    have : x = 0 := by omega
    subst this
    rfl
  | n + 1, hn, f, g, x, hx => by
    have e : 2 ^ (n + 1) = 2 ^ n + 2 ^ n := by rw [Nat.pow_succ]; omega
    have low : ∀ z, z < 2 ^ n → cv (n + 1) f g z = cv n f g z := fun z hz => if_pos hz
    by_cases h : x < 2 ^ n
    · rw [zt_low h, zt_low h, zt_low h, zt_congr low n x h, zt_cv n (by omega) f g x h]
    · obtain ⟨y, rfl⟩ : ∃ y, x = y + 2 ^ n := ⟨x - 2 ^ n, by omega⟩
      have hy : y < 2 ^ n := by omega
      have hs : zt n (hif n (cv (n + 1) f g)) y = zt n f y * zt n (hif n g) y + zt n (hif n f) y * zt n g y + zt n (hif n f) y * zt n (hif n g) y := by
        rw [zt_congr (f := hif n (cv (n + 1) f g)) (g := fun z => (cv n f (hif n g) z + cv n (hif n f) g z) + cv n (hif n f) (hif n g) z) (B := 2 ^ n) (fun z _ => cv_hi f g) n y hy, zt_add (fun z => cv n f (hif n g) z + cv n (hif n f) g z) (cv n (hif n f) (hif n g)), zt_add (cv n f (hif n g)) (cv n (hif n f) g), zt_cv n (by omega) f (hif n g) y hy, zt_cv n (by omega) (hif n f) g y hy, zt_cv n (by omega) (hif n f) (hif n g) y hy]
      rw [zt_hi (by omega) hy, zt_hi (by omega) hy, zt_hi (by omega) hy, zt_shift (by omega) _ n (Nat.le_refl _) y hy, zt_shift (by omega) f n (Nat.le_refl _) y hy, zt_shift (by omega) g n (Nat.le_refl _) y hy, hs, zt_congr low n y hy, zt_cv n (by omega) f g y hy, Int.add_mul, Int.mul_add, Int.mul_add]
      omega
theorem or_hi {n a b : Nat} (hn : n < 9) (ha : a < 2 ^ n) (hb : b < 2 ^ n) : a ||| (b + 2 ^ n) = (a ||| b) + 2 ^ n ∧ (a + 2 ^ n) ||| b = (a ||| b) + 2 ^ n ∧ (a + 2 ^ n) ||| (b + 2 ^ n) = (a ||| b) + 2 ^ n := by
  have hab : a ||| b < 2 ^ n := Nat.or_lt_two_pow ha hb
  refine ⟨Nat.eq_of_testBit_eq fun i => ?_, Nat.eq_of_testBit_eq fun i => ?_, Nat.eq_of_testBit_eq fun i => ?_⟩
  · rw [Nat.testBit_or, bt_add hn hb, bt_add hn hab, Nat.testBit_or, Bool.or_assoc]
  · rw [Nat.testBit_or, bt_add hn ha, bt_add hn hab, Nat.testBit_or]
    cases Nat.testBit a i <;> cases Nat.testBit b i <;> cases decide (n = i) <;> rfl
  · rw [Nat.testBit_or, bt_add hn ha, bt_add hn hb, bt_add hn hab, Nat.testBit_or]
    cases Nat.testBit a i <;> cases Nat.testBit b i <;> cases decide (n = i) <;> rfl
theorem or_le {a b u : Nat} (h : a ||| b = u) : a ≤ u ∧ b ≤ u := by
  subst h
  exact ⟨Nat.left_le_or, Nat.right_le_or⟩
theorem cv_pos : ∀ n, n ≤ 9 → ∀ (f g : Nat → Int), (∀ x, x < 2 ^ n → 0 ≤ f x) → (∀ x, x < 2 ^ n → 0 ≤ g x) → ∀ u, u < 2 ^ n → 0 ≤ cv n f g u ∧ (cv n f g u ≠ 0 ↔ ∃ a b, a ||| b = u ∧ f a ≠ 0 ∧ g b ≠ 0 ∧ a < 2 ^ n ∧ b < 2 ^ n)
  | 0, _, f, g, hf, hg, u, hu => by
    have : u < 1 := hu
    have : u = 0 := by omega
    subst this
    refine ⟨Int.mul_nonneg (hf 0 hu) (hg 0 hu), ?_⟩
    show f 0 * g 0 ≠ 0 ↔ _
    constructor
    · intro h
      exact ⟨0, 0, rfl, fun e => h (by rw [e, Int.zero_mul]), fun e => h (by rw [e, Int.mul_zero]), hu, hu⟩
    · rintro ⟨a, b, h1, h2, h3, h4, h5⟩
      have h4' : a < 1 := h4
      have h5' : b < 1 := h5
      have ea : a = 0 := by omega
      have eb : b = 0 := by omega
      subst ea eb
      exact Int.mul_ne_zero h2 h3
  | n + 1, hn, f, g, hf, hg, u, hu => by
    have e : 2 ^ (n + 1) = 2 ^ n + 2 ^ n := by rw [Nat.pow_succ]; omega
    have hf0 : ∀ x, x < 2 ^ n → 0 ≤ f x := fun x hx => hf x (by omega)
    have hg0 : ∀ x, x < 2 ^ n → 0 ≤ g x := fun x hx => hg x (by omega)
    have hf1 : ∀ x, x < 2 ^ n → 0 ≤ hif n f x := fun x hx => hf (x + 2 ^ n) (by omega)
    have hg1 : ∀ x, x < 2 ^ n → 0 ≤ hif n g x := fun x hx => hg (x + 2 ^ n) (by omega)
    by_cases h : u < 2 ^ n
    · have ih := cv_pos n (by omega) f g hf0 hg0 u h
      rw [show cv (n + 1) f g u = cv n f g u from if_pos h]
      refine ⟨ih.1, ih.2.trans ⟨?_, ?_⟩⟩
      · rintro ⟨a, b, h1, h2, h3, h4, h5⟩
        exact ⟨a, b, h1, h2, h3, by omega, by omega⟩
      · rintro ⟨a, b, h1, h2, h3, h4, h5⟩
        have := or_le h1
        exact ⟨a, b, h1, h2, h3, by omega, by omega⟩
    · obtain ⟨y, rfl⟩ : ∃ y, u = y + 2 ^ n := ⟨u - 2 ^ n, by omega⟩
      have hy : y < 2 ^ n := by omega
      have i1 := cv_pos n (by omega) f (hif n g) hf0 hg1 y hy
      have i2 := cv_pos n (by omega) (hif n f) g hf1 hg0 y hy
      have i3 := cv_pos n (by omega) (hif n f) (hif n g) hf1 hg1 y hy
      rw [cv_hi]
      refine ⟨by omega, ?_⟩
      constructor
      · intro hne
        by_cases z1 : cv n f (hif n g) y = 0
        · by_cases z2 : cv n (hif n f) g y = 0
          · obtain ⟨a, b, h1, h2, h3, h4, h5⟩ := i3.2.1 (by omega)
            exact ⟨a + 2 ^ n, b + 2 ^ n, by rw [(or_hi (by omega) h4 h5).2.2, h1], h2, h3, by omega, by omega⟩
          · obtain ⟨a, b, h1, h2, h3, h4, h5⟩ := i2.2.1 z2
            exact ⟨a + 2 ^ n, b, by rw [(or_hi (by omega) h4 h5).2.1, h1], h2, h3, by omega, by omega⟩
        · obtain ⟨a, b, h1, h2, h3, h4, h5⟩ := i1.2.1 z1
          exact ⟨a, b + 2 ^ n, by rw [(or_hi (by omega) h4 h5).1, h1], h2, h3, by omega, by omega⟩
      · rintro ⟨a, b, h1, h2, h3, h4, h5⟩
        by_cases ha : a < 2 ^ n
        · by_cases hb : b < 2 ^ n
          · have : a ||| b < 2 ^ n := Nat.or_lt_two_pow ha hb
            omega
          · obtain ⟨b', rfl⟩ : ∃ b', b = b' + 2 ^ n := ⟨b - 2 ^ n, by omega⟩
            rw [(or_hi (by omega) ha (by omega)).1] at h1
            have := i1.2.2 ⟨a, b', by omega, h2, h3, ha, by omega⟩
            omega
        · obtain ⟨a', rfl⟩ : ∃ a', a = a' + 2 ^ n := ⟨a - 2 ^ n, by omega⟩
          by_cases hb : b < 2 ^ n
          · rw [(or_hi (by omega) (by omega) hb).2.1] at h1
            have := i2.2.2 ⟨a', b, by omega, h2, h3, by omega, hb⟩
            omega
          · obtain ⟨b', rfl⟩ : ∃ b', b = b' + 2 ^ n := ⟨b - 2 ^ n, by omega⟩
            rw [(or_hi (by omega) (by omega) (by omega)).2.2] at h1
            have := i3.2.2 ⟨a', b', by omega, h2, h3, by omega, by omega⟩
            omega
/-! sums with signs -/
def lsm (g : Nat → Int) : Nat → Int
  | 0 => 0
  | k + 1 => lsm g k + g k
theorem lsm_congr {g g' : Nat → Int} : ∀ k, (∀ x, x < k → g x = g' x) → lsm g k = lsm g' k
  | 0, _ => rfl
  | k + 1, h => by
    show lsm g k + g k = lsm g' k + g' k
    rw [lsm_congr k (fun x hx => h x (by omega)), h k (by omega)]
theorem lsm_app (g : Nat → Int) (a : Nat) : ∀ b, lsm g (a + b) = lsm g a + lsm (fun x => g (x + a)) b
  | 0 => by show lsm g a = lsm g a + 0; omega
  | b + 1 => by
    show lsm g (a + b) + g (a + b) = lsm g a + (lsm (fun x => g (x + a)) b + g (b + a))
    rw [lsm_app g a b, Nat.add_comm a b]
    omega
theorem lsm_add (f g : Nat → Int) : ∀ k, lsm (fun x => f x + g x) k = lsm f k + lsm g k
  | 0 => rfl
  | k + 1 => by
    show lsm (fun x => f x + g x) k + (f k + g k) = (lsm f k + f k) + (lsm g k + g k)
    rw [lsm_add f g k]
    omega
theorem lsm_neg (f : Nat → Int) : ∀ k, lsm (fun x => -f x) k = -lsm f k
  | 0 => rfl
  | k + 1 => by
    show lsm (fun x => -f x) k + -f k = -(lsm f k + f k)
    rw [lsm_neg f k]
    omega
theorem pc_le (m : Nat) : ∀ n, pc m n ≤ n
  | 0 => Nat.le_refl _
  | n + 1 => by
    have := pc_le m n
    unfold pc
    split <;> omega
theorem pc_9 {m n : Nat} (hn : n ≤ 9) (h : m < 2 ^ n) : pc m 9 ≤ n := by
  have h9 := pc_top (k := 9 - n) h
  rw [show n + (9 - n) = 9 by omega] at h9
  rw [h9]
  exact pc_le m n
theorem pc_new {y n : Nat} (hn : n < 9) (h : y < 2 ^ n) : pc (y + 2 ^ n) 9 = pc y 9 + 1 := by
  have p512 : 2 ^ n ≤ 2 ^ 9 := Nat.pow_le_pow_right (n := 2) (by decide) (by omega)
  rw [← or_add9 n hn y h, b_pc y (by omega) n hn, Nat.testBit_lt_two_pow h]
  rfl
def sgn (n x : Nat) (v : Int) : Int := if (n - pc x 9) % 2 = 0 then v else -v
def mu (n : Nat) (f : Nat → Int) : Int := lsm (fun x => sgn n x (f x)) (2 ^ n)
theorem mu_succ {n : Nat} (hn : n < 9) (f : Nat → Int) : mu (n + 1) f = mu n (hif n f) - mu n f := by
  have e : 2 ^ (n + 1) = 2 ^ n + 2 ^ n := by rw [Nat.pow_succ]; omega
  unfold mu
  rw [e, lsm_app]
  have h1 : lsm (fun x => sgn (n + 1) x (f x)) (2 ^ n) = lsm (fun x => -sgn n x (f x)) (2 ^ n) := lsm_congr _ (fun x hx => by
    have := pc_9 (show n ≤ 9 by omega) hx
    unfold sgn
    by_cases h : (n - pc x 9) % 2 = 0
    · rw [if_pos h, if_neg (by omega)]
    · rw [if_neg h, if_pos (by omega)]
      omega)
  have h2 : lsm (fun x => (fun x => sgn (n + 1) x (f x)) (x + 2 ^ n)) (2 ^ n) = lsm (fun x => sgn n x (hif n f x)) (2 ^ n) := lsm_congr _ (fun x hx => by
    have := pc_9 (show n ≤ 9 by omega) hx
    have h3 := pc_new hn hx
    show sgn (n + 1) (x + 2 ^ n) (f (x + 2 ^ n)) = sgn n x (f (x + 2 ^ n))
    unfold sgn
    rw [h3, show n + 1 - (pc x 9 + 1) = n - pc x 9 by omega])
  rw [h1, h2, lsm_neg]
  omega
theorem mu_congr {n : Nat} {f g : Nat → Int} (h : ∀ x, x < 2 ^ n → f x = g x) : mu n f = mu n g := lsm_congr _ (fun x hx => by
  show sgn n x (f x) = sgn n x (g x)
  rw [h x hx])
theorem mu_add (n : Nat) (f g : Nat → Int) : mu n (fun x => f x + g x) = mu n f + mu n g := by
  unfold mu
  rw [← lsm_add]
  refine lsm_congr _ (fun x _ => ?_)
  show sgn n x (f x + g x) = sgn n x (f x) + sgn n x (g x)
  unfold sgn
  split <;> omega
theorem mu_zt : ∀ n, n ≤ 9 → ∀ h : Nat → Int, mu n (zt n h) = h (2 ^ n - 1)
  | 0, _, h => by
    show 0 + sgn 0 0 (h 0) = h 0
    rw [show sgn 0 0 (h 0) = h 0 from rfl]
    omega
  | n + 1, hn, h => by
    have e : 2 ^ (n + 1) = 2 ^ n + 2 ^ n := by rw [Nat.pow_succ]; omega
    have p1 : 1 ≤ 2 ^ n := Nat.one_le_two_pow
    rw [mu_succ (by omega), mu_congr (f := hif n (zt (n + 1) h)) (g := fun y => zt n (hif n h) y + zt n h y) (fun y hy => by
      show zt (n + 1) h (y + 2 ^ n) = _
      rw [zt_hi (by omega) hy, zt_shift (by omega) h n (Nat.le_refl _) y hy]), mu_add, mu_congr (f := zt (n + 1) h) (g := zt n h) (fun y hy => zt_low hy h)]
    have ih := mu_zt n (by omega) (hif n h)
    rw [ih]
    show h (2 ^ n - 1 + 2 ^ n) + _ - _ = _
    rw [show 2 ^ n - 1 + 2 ^ n = 2 ^ (n + 1) - 1 by omega]
    omega
/-! choices for a team -/
noncomputable def chs (n : Nat) (F : Nat → Nat → Prop) (team : Nat) : Nat → Nat → Int
  | 0 => dl0
  | k + 1 => if Nat.testBit team k then cv n (chs n F team k) (ind (F k)) else chs n F team k
noncomputable def prd (n : Nat) (F : Nat → Nat → Prop) (team x : Nat) : Nat → Int
  | 0 => 1
  | k + 1 => if Nat.testBit team k then prd n F team x k * zt n (ind (F k)) x else prd n F team x k
theorem zt_chs {n : Nat} (hn : n ≤ 9) (F : Nat → Nat → Prop) (team : Nat) {x : Nat} (hx : x < 2 ^ n) : ∀ k, zt n (chs n F team k) x = prd n F team x k
  | 0 => zt_dl n hn x hx
  | k + 1 => by
    have ih := zt_chs hn F team hx k
    unfold chs prd
    split
    · rw [zt_cv n hn _ _ x hx, ih]
    · exact ih
def Cvr (n : Nat) (F : Nat → Nat → Prop) (team k u : Nat) : Prop := ∃ A : Nat → Nat, (∀ t, t < k → Nat.testBit team t = true → F t (A t) ∧ A t < 2 ^ n) ∧ ∀ x, Nat.testBit u x = true ↔ ∃ t, t < k ∧ Nat.testBit team t = true ∧ Nat.testBit (A t) x = true
theorem chs_pos {n : Nat} (hn : n ≤ 9) (F : Nat → Nat → Prop) (team : Nat) : ∀ k u, u < 2 ^ n → 0 ≤ chs n F team k u ∧ (chs n F team k u ≠ 0 ↔ Cvr n F team k u)
  | 0, u, hu => by
    show 0 ≤ dl0 u ∧ (dl0 u ≠ 0 ↔ _)
    unfold dl0
    by_cases h : u = 0
    · rw [if_pos h]
      refine ⟨by decide, fun _ => ⟨fun _ => 0, fun t ht => by omega, fun x => ?_⟩, fun _ => by decide⟩
      rw [h, Nat.zero_testBit]
      exact ⟨fun e => absurd e (by decide), fun ⟨t, ht, _⟩ => by omega⟩
    · rw [if_neg h]
      refine ⟨by decide, fun e => absurd rfl e, fun ⟨A, _, h2⟩ => absurd (zero_bits fun x => ?_) h⟩
      cases hb : Nat.testBit u x with
      | false => rfl
      | true =>
        obtain ⟨t, ht, _⟩ := (h2 x).1 hb
        omega
  | k + 1, u, hu => by
    have ih := chs_pos hn F team k
    unfold chs
    cases hb : Nat.testBit team k with
    | true =>
      rw [if_pos rfl]
      have cp := cv_pos n hn (chs n F team k) (ind (F k)) (fun x hx => (ih x hx).1) (fun x _ => (ind_b (F k) x).1) u hu
      refine ⟨cp.1, cp.2.trans ⟨?_, ?_⟩⟩
      · rintro ⟨a, b, h1, h2, h3, h4, h5⟩
        obtain ⟨A, a1, a2⟩ := (ih a h4).2.1 h2
        refine ⟨fun t => if t = k then b else A t, fun t ht hbt => ?_, fun x => ?_⟩
        · by_cases e : t = k
          · subst e
            show F t (if t = t then b else A t) ∧ (if t = t then b else A t) < 2 ^ n
            rw [if_pos rfl]
            exact ⟨ind_n.1 h3, h5⟩
          · show F t (if t = k then b else A t) ∧ (if t = k then b else A t) < 2 ^ n
            rw [if_neg e]
            exact a1 t (by omega) hbt
        · rw [← h1, Nat.testBit_or, Bool.or_eq_true, a2 x]
          constructor
          · rintro (⟨t, t1, t2, t3⟩ | h)
            · refine ⟨t, by omega, t2, ?_⟩
              show Nat.testBit (if t = k then b else A t) x = true
              rw [if_neg (by omega)]
              exact t3
            · refine ⟨k, by omega, hb, ?_⟩
              show Nat.testBit (if k = k then b else A k) x = true
              rw [if_pos rfl]
              exact h
          · rintro ⟨t, t1, t2, t3⟩
            by_cases e : t = k
            · subst e
              have t3' : Nat.testBit (if t = t then b else A t) x = true := t3
              rw [if_pos rfl] at t3'
              exact .inr t3'
            · have t3' : Nat.testBit (if t = k then b else A t) x = true := t3
              rw [if_neg e] at t3'
              exact .inl ⟨t, by omega, t2, t3'⟩
      · rintro ⟨A, a1, a2⟩
        -- the union of the others
        obtain ⟨a, ha1, ha2⟩ : ∃ a, a < 2 ^ n ∧ ∀ x, Nat.testBit a x = true ↔ ∃ t, t < k ∧ Nat.testBit team t = true ∧ Nat.testBit (A t) x = true := by
          have : ∀ j, j ≤ k → ∃ a, a < 2 ^ n ∧ ∀ x, Nat.testBit a x = true ↔ ∃ t, t < j ∧ Nat.testBit team t = true ∧ Nat.testBit (A t) x = true := by
            intro j
            induction j with
            | zero =>
              intro _
              refine ⟨0, Nat.two_pow_pos n, fun x => ?_⟩
              rw [Nat.zero_testBit]
              exact ⟨fun e => absurd e (by decide), fun ⟨t, ht, _⟩ => by omega⟩
            | succ j ihj =>
              intro hj
              obtain ⟨a, e1, e2⟩ := ihj (by omega)
              cases hbj : Nat.testBit team j with
              | true =>
                refine ⟨a ||| A j, Nat.or_lt_two_pow e1 (a1 j (by omega) hbj).2, fun x => ?_⟩
                rw [Nat.testBit_or, Bool.or_eq_true, e2 x]
                constructor
                · rintro (⟨t, t1, t2⟩ | h)
                  · exact ⟨t, by omega, t2⟩
                  · exact ⟨j, by omega, hbj, h⟩
                · rintro ⟨t, t1, t2, t3⟩
                  by_cases e : t = j
                  · subst e; exact .inr t3
                  · exact .inl ⟨t, by omega, t2, t3⟩
              | false =>
                refine ⟨a, e1, fun x => ?_⟩
                rw [e2 x]
                constructor
                · rintro ⟨t, t1, t2⟩
                  exact ⟨t, by omega, t2⟩
                · rintro ⟨t, t1, t2, t3⟩
                  have : t ≠ j := fun e => by rw [e, hbj] at t2; exact absurd t2 (by decide)
                  exact ⟨t, by omega, t2, t3⟩
          exact this k (Nat.le_refl _)
        have hAk := a1 k (by omega) hb
        refine ⟨a, A k, Nat.eq_of_testBit_eq fun x => ?_, (ih a ha1).2.2 ⟨A, fun t ht hbt => a1 t (by omega) hbt, ha2⟩, ind_n.2 hAk.1, ha1, hAk.2⟩
        rw [Nat.testBit_or]
        cases hu2 : Nat.testBit u x with
        | true =>
          obtain ⟨t, t1, t2, t3⟩ := (a2 x).1 hu2
          by_cases e : t = k
          · subst e; rw [t3]; simp
          · rw [(ha2 x).2 ⟨t, by omega, t2, t3⟩]; rfl
        | false =>
          have n1 : Nat.testBit a x = false := by
            cases hh : Nat.testBit a x with
            | false => rfl
            | true =>
              obtain ⟨t, t1, t2, t3⟩ := (ha2 x).1 hh
              rw [(a2 x).2 ⟨t, by omega, t2, t3⟩] at hu2
              exact absurd hu2 (by decide)
          have n2 : Nat.testBit (A k) x = false := by
            cases hh : Nat.testBit (A k) x with
            | false => rfl
            | true =>
              rw [(a2 x).2 ⟨k, by omega, hb, hh⟩] at hu2
              exact absurd hu2 (by decide)
          rw [n1, n2]
          rfl
    | false =>
      rw [if_neg (by decide)]
      refine ⟨(ih u hu).1, (ih u hu).2.trans ⟨?_, ?_⟩⟩
      · rintro ⟨A, a1, a2⟩
        refine ⟨A, fun t ht hbt => ?_, fun x => ?_⟩
        · have : t ≠ k := fun e => by rw [e, hb] at hbt; exact absurd hbt (by decide)
          exact a1 t (by omega) hbt
        · rw [a2 x]
          constructor
          · rintro ⟨t, t1, t2⟩
            exact ⟨t, by omega, t2⟩
          · rintro ⟨t, t1, t2, t3⟩
            have : t ≠ k := fun e => by rw [e, hb] at t2; exact absurd t2 (by decide)
            exact ⟨t, by omega, t2, t3⟩
      · rintro ⟨A, a1, a2⟩
        refine ⟨A, fun t ht hbt => a1 t (by omega) hbt, fun x => ?_⟩
        rw [a2 x]
        constructor
        · rintro ⟨t, t1, t2, t3⟩
          have : t ≠ k := fun e => by rw [e, hb] at t2; exact absurd t2 (by decide)
          exact ⟨t, by omega, t2, t3⟩
        · rintro ⟨t, t1, t2⟩
          exact ⟨t, by omega, t2⟩
