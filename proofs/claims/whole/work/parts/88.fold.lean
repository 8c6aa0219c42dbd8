/-! ===== bags: numbers and folds ===== -/
def pa (q : Nat → Nat) : Nat → Nat → Nat
  | 0, c => if c = 0 then 1 else 0
  | j + 1, c => pa q j c * (20 - q j) + (if c = 0 then 0 else pa q j (c - 1) * q j)
def ps (q : Nat → Nat) (j : Nat) : Nat → Nat
  | 0 => pa q j 0
  | c + 1 => ps q j c + pa q j (c + 1)
theorem ps_succ (q : Nat → Nat) (j : Nat) : ∀ c, ps q (j + 1) c = ps q j c * (20 - q j) + (if c = 0 then 0 else ps q j (c - 1) * q j)
  | 0 => rfl
  | c + 1 => by
    have ih := ps_succ q j c
    show ps q (j + 1) c + pa q (j + 1) (c + 1) = (ps q j c + pa q j (c + 1)) * (20 - q j) + _
    rw [ih, if_neg (by omega : ¬ c + 1 = 0), Nat.add_sub_cancel, Nat.add_mul]
    show _ + (pa q j (c + 1) * (20 - q j) + (if c + 1 = 0 then 0 else pa q j (c + 1 - 1) * q j)) = _
    rw [if_neg (by omega : ¬ c + 1 = 0), Nat.add_sub_cancel]
    cases c with
    | zero =>
      rw [if_pos rfl]
      show _ + 0 + (_ + pa q j 0 * q j) = _ + pa q j 0 * q j
      omega
    | succ c =>
      rw [if_neg (by omega : ¬ c + 1 = 0), Nat.add_sub_cancel]
      show _ = _ + (ps q j c + pa q j (c + 1)) * q j
      rw [Nat.add_mul (ps q j c)]
      omega
theorem ps_le {q : Nat → Nat} (hq : ∀ i, q i ≤ 20) : ∀ j c, ps q j c ≤ 20 ^ j
  | 0, c => by
    have : ∀ c, ps q 0 c = 1 := by
      intro c
      induction c with
      | zero => rfl
      | succ c ih => show ps q 0 c + pa q 0 (c + 1) = 1; rw [ih]; rfl
    rw [this c]
    exact Nat.le_refl _
  | j + 1, c => by
    rw [ps_succ, Nat.pow_succ]
    have h1 := Nat.mul_le_mul_right (20 - q j) (ps_le hq j c)
    have h2 : (if c = 0 then 0 else ps q j (c - 1) * q j) ≤ 20 ^ j * q j := by
      split
      · exact Nat.zero_le _
      · exact Nat.mul_le_mul_right _ (ps_le hq j (c - 1))
    have h3 : 20 ^ j * (20 - q j) + 20 ^ j * q j = 20 ^ j * 20 := by
      rw [← Nat.mul_add, Nat.sub_add_cancel (hq j)]
    omega
theorem pa_ps (q : Nat → Nat) (j : Nat) : ∀ c, pa q j c ≤ ps q j c
  | 0 => Nat.le_refl _
  | c + 1 => Nat.le_add_left _ _
theorem pa_zero (q : Nat → Nat) : ∀ j c, j < c → pa q j c = 0
  | 0, c, h => by show (if c = 0 then 1 else 0) = 0; rw [if_neg (by omega)]
  | j + 1, c, h => by
    show pa q j c * (20 - q j) + (if c = 0 then 0 else pa q j (c - 1) * q j) = 0
    rw [pa_zero q j c (by omega), if_neg (by omega), pa_zero q j (c - 1) (by omega), Nat.zero_mul, Nat.zero_mul]
theorem ps_top (q : Nat → Nat) (j : Nat) : ∀ k, ps q j (j + k) = ps q j j
  | 0 => rfl
  | k + 1 => by
    show ps q j (j + k) + pa q j (j + k + 1) = _
    rw [ps_top q j k, pa_zero q j _ (by omega), Nat.add_zero]
def fo {σ : Type} (f : Nat → σ → σ) : Nat → σ → σ
  | 0, s => s
  | n + 1, s => f n (fo f n s)
theorem fo_congr {σ : Type} {f g : Nat → σ → σ} : ∀ (n : Nat) (s : σ), (∀ a, a < n → ∀ s, f a s = g a s) → fo f n s = fo g n s
  | 0, _, _ => rfl
  | n + 1, s, h => by
    show f n (fo f n s) = g n (fo g n s)
    rw [fo_congr n s (fun a ha => h a (by omega)), h n (by omega)]
theorem fo_add {σ : Type} (f : Nat → σ → σ) (a : Nat) : ∀ (b : Nat) (s : σ), fo f (a + b) s = fo (fun j => f (a + j)) b (fo f a s)
  | 0, _ => rfl
  | b + 1, s => by
    show f (a + b) (fo f (a + b) s) = f (a + b) _
    rw [fo_add f a b s]
theorem fo_mul {σ : Type} (f : Nat → σ → σ) : ∀ (m : Nat) (s : σ), fo f (9 * m) s = fo (fun i s => fo (fun j => f (9 * i + j)) 9 s) m s
  | 0, _ => rfl
  | m + 1, s => by
    rw [show 9 * (m + 1) = 9 * m + 9 by omega, fo_add, fo_mul f m s]
    rfl
theorem fo_stop {σ : Type} (f : Nat → σ → σ) (m : Nat) (s : σ) : ∀ k, (∀ a, m ≤ a → a < m + k → f a (fo f m s) = fo f m s) → fo f (m + k) s = fo f m s
  | 0, _ => rfl
  | k + 1, h => by
    show f (m + k) (fo f (m + k) s) = _
    rw [fo_stop f m s k (fun a h1 h2 => h a h1 (by omega)), h (m + k) (by omega) (by omega)]
theorem fo_ge {f : Nat → Int × Int → Int × Int} (h : ∀ a s, s.1 ≤ (f a s).1) : ∀ n s, s.1 ≤ (fo f n s).1
  | 0, _ => Int.le_refl _
  | n + 1, s => Int.le_trans (fo_ge h n s) (h n _)
theorem fo_mid {f : Nat → Int × Int → Int × Int} (h : ∀ a s, s.1 ≤ (f a s).1) {a n : Nat} (ha : a < n) (s : Int × Int) : (f a (fo f a s)).1 ≤ (fo f n s).1 := by
  obtain ⟨k, rfl⟩ : ∃ k, n = (a + 1) + k := ⟨n - (a + 1), by omega⟩
  rw [fo_add]
  exact fo_ge (fun b s => h (a + 1 + b) s) k _
section
variable (pt : Nat → Nat → Nat) (den : Nat)
def GG : Nat → Nat → Nat → Nat → Int × Int → Int × Int
  | 0, _, code, x, st => if st.1 < (x : Int) then ((x : Int), (code : Int)) else st
  | k + 1, L, code, x, st => fo (fun a st => if a ≤ L then GG k (L - a) (code * 10 + a) (x * pt (3 - k) a / den) st else st) 9 st
def FF (n : Nat) : Nat → Nat → Nat → Nat → Int × Int → Int × Int
  | 0, _, code, x, st => if st.1 < (x : Int) then ((x : Int), (code : Int)) else st
  | k + 1, L, code, x, st => fo (fun a st => FF n k (L - a) (code * 10 + a) (x * pt (3 - k) a / den) st) ((if n < L then n else L) + 1) st
def HH (L0 : Nat) : Nat → Nat → Nat → Nat → Int × Int → Int × Int
  | 0, s, code, x, st => if s ≤ L0 then (if st.1 < (x : Int) then ((x : Int), (code : Int)) else st) else st
  | k + 1, s, code, x, st => fo (fun a st => HH L0 k (s + a) (code * 10 + a) (x * pt (3 - k) a / den) st) 9 st
def Dom : Nat → Nat → Nat → Int → Prop
  | 0, _, x, b => (x : Int) ≤ b
  | k + 1, L, x, b => ∀ a, a < 9 → a ≤ L → Dom k (L - a) (x * pt (3 - k) a / den) b
variable {pt den}
theorem dom_le {b b' : Int} (h : b ≤ b') : ∀ k L x, Dom pt den k L x b → Dom pt den k L x b'
  | 0, _, _, hd => Int.le_trans hd h
  | k + 1, _, _, hd => fun a h1 h2 => dom_le h k _ _ (hd a h1 h2)
theorem dom_L {b : Int} : ∀ k L L' x, L' ≤ L → Dom pt den k L x b → Dom pt den k L' x b
  | 0, _, _, _, _, hd => hd
  | k + 1, L, L', _, hl, hd => fun a h1 h2 => dom_L k (L - a) (L' - a) _ (by omega) (hd a h1 (by omega))
theorem GG_id : ∀ k L code x (st : Int × Int), Dom pt den k L x st.1 → GG pt den k L code x st = st
  | 0, _, _, x, st, hd => by
    have : (x : Int) ≤ st.1 := hd
    unfold GG
    rw [if_neg (by omega)]
  | k + 1, L, code, x, st, hd => by
    unfold GG
    have := fo_stop (fun a st => if a ≤ L then GG pt den k (L - a) (code * 10 + a) (x * pt (3 - k) a / den) st else st) 0 st 9 (fun a _ h2 => by
      show (if a ≤ L then _ else _) = st
      by_cases h : a ≤ L
      · rw [if_pos h]
        exact GG_id k _ _ _ _ (hd a (by omega) h)
      · rw [if_neg h]
        rfl)
    exact this
theorem GG_ge : ∀ k L code x (st : Int × Int), st.1 ≤ (GG pt den k L code x st).1
  | 0, _, _, x, st => by
    unfold GG
    split
    · omega
    · exact Int.le_refl _
  | k + 1, L, code, x, st => by
    unfold GG
    refine fo_ge (fun a s => ?_) 9 st
    show s.1 ≤ (if a ≤ L then _ else s).1
    split
    · exact GG_ge k _ _ _ _
    · exact Int.le_refl _
theorem GG_dom : ∀ k L code x (st : Int × Int), Dom pt den k L x (GG pt den k L code x st).1
  | 0, _, _, x, st => by
    show (x : Int) ≤ (GG pt den 0 _ _ x st).1
    unfold GG
    split
    · exact Int.le_refl _
    · omega
  | k + 1, L, code, x, st => by
    intro a h1 h2
    have hd := GG_dom k (L - a) (code * 10 + a) (x * pt (3 - k) a / den) (fo (fun a st => if a ≤ L then GG pt den k (L - a) (code * 10 + a) (x * pt (3 - k) a / den) st else st) a st)
    refine dom_le ?_ k _ _ hd
    have := fo_mid (f := fun a st => if a ≤ L then GG pt den k (L - a) (code * 10 + a) (x * pt (3 - k) a / den) st else st) (fun a s => by
      show s.1 ≤ (if a ≤ L then _ else s).1
      split
      · exact GG_ge k _ _ _ _
      · exact Int.le_refl _) h1 st
    rw [if_pos h2] at this
    exact this
theorem FF_GG {n : Nat} (hn : n ≤ 8) (hpt : ∀ g a, n ≤ a → pt g a = pt g n) : ∀ k L code x (st : Int × Int), FF pt den n k L code x st = GG pt den k L code x st
  | 0, _, _, _, _ => rfl
  | k + 1, L, code, x, st => by
    unfold FF GG
    obtain ⟨m, hm⟩ : ∃ m, m = if n < L then n else L := ⟨_, rfl⟩
    rw [← hm]
    have e1 : fo (fun a st => FF pt den n k (L - a) (code * 10 + a) (x * pt (3 - k) a / den) st) (m + 1) st = fo (fun a st => if a ≤ L then GG pt den k (L - a) (code * 10 + a) (x * pt (3 - k) a / den) st else st) (m + 1) st := by
      refine fo_congr (m + 1) st (fun a ha s => ?_)
      show FF pt den n k (L - a) (code * 10 + a) (x * pt (3 - k) a / den) s = if a ≤ L then _ else _
      have : a ≤ L := by
        have : m ≤ L := by rw [hm]; split <;> omega
        omega
      rw [if_pos this]
      exact FF_GG hn hpt k _ _ _ _
    rw [e1]
    by_cases hL : n < L
    · rw [if_pos hL] at hm
      subst hm
      have := fo_stop (fun a st => if a ≤ L then GG pt den k (L - a) (code * 10 + a) (x * pt (3 - k) a / den) st else st) (m + 1) st (9 - (m + 1)) (fun a h1 h2 => by
        show (if a ≤ L then _ else _) = _
        by_cases h : a ≤ L
        · rw [if_pos h]
          refine GG_id k _ _ _ _ ?_
          rw [hpt _ a (by omega)]
          refine dom_L k (L - m) (L - a) _ (by omega) ?_
          show Dom pt den k (L - m) (x * pt (3 - k) m / den) (if m ≤ L then GG pt den k (L - m) (code * 10 + m) (x * pt (3 - k) m / den) _ else _).1
          rw [if_pos (by omega)]
          exact GG_dom k _ _ _ _
        · rw [if_neg h])
      rw [show m + 1 + (9 - (m + 1)) = 9 by omega] at this
      exact this.symm
    · rw [if_neg hL] at hm
      subst hm
      have := fo_stop (fun a st => if a ≤ m then GG pt den k (m - a) (code * 10 + a) (x * pt (3 - k) a / den) st else st) (m + 1) st (9 - (m + 1)) (fun a h1 h2 => by
        show (if a ≤ m then _ else _) = _
        rw [if_neg (by omega)])
      rw [show m + 1 + (9 - (m + 1)) = 9 by omega] at this
      exact this.symm
theorem HH_GG {L0 : Nat} : ∀ k s code x (st : Int × Int), HH pt den L0 k s code x st = if s ≤ L0 then GG pt den k (L0 - s) code x st else st
  | 0, _, _, _, _ => rfl
  | k + 1, s, code, x, st => by
    unfold HH GG
    by_cases h : s ≤ L0
    · rw [if_pos h]
      refine fo_congr 9 st (fun a ha t => ?_)
      show HH pt den L0 k (s + a) (code * 10 + a) (x * pt (3 - k) a / den) t = if a ≤ L0 - s then GG pt den k (L0 - s - a) (code * 10 + a) (x * pt (3 - k) a / den) t else t
      rw [HH_GG k, show L0 - (s + a) = L0 - s - a by omega]
      by_cases h2 : a ≤ L0 - s
      · rw [if_pos h2, if_pos (by omega)]
      · rw [if_neg h2, if_neg (by omega)]
    · rw [if_neg h]
      have := fo_stop (fun a st => HH pt den L0 k (s + a) (code * 10 + a) (x * pt (3 - k) a / den) st) 0 st 9 (fun a _ _ => by
        show HH pt den L0 k (s + a) (code * 10 + a) (x * pt (3 - k) a / den) st = st
        rw [HH_GG k, if_neg (by omega)])
      exact this
def frf (pt : Nat → Nat → Nat) (den L0 : Nat) (l : Nat) (st : Int × Int) : Int × Int := HH pt den L0 0 (l / 729 + l / 81 % 9 + l / 9 % 9 + l % 9) (1000 * (l / 729) + 100 * (l / 81 % 9) + 10 * (l / 9 % 9) + l % 9) (1000000000000000 * pt 0 (l / 729) / den * pt 1 (l / 81 % 9) / den * pt 2 (l / 9 % 9) / den * pt 3 (l % 9) / den) st
theorem frf_HH {L0 : Nat} (st : Int × Int) : fo (frf pt den L0) 6561 st = HH pt den L0 4 0 0 1000000000000000 st := by
  rw [show 6561 = 9 * (9 * (9 * 9)) from rfl, fo_mul, fo_mul, fo_mul]
  show _ = fo (fun a st => fo (fun b st => fo (fun c st => fo (fun e st => HH pt den L0 0 (0 + a + b + c + e) ((((0 * 10 + a) * 10 + b) * 10 + c) * 10 + e) (1000000000000000 * pt 0 a / den * pt 1 b / den * pt 2 c / den * pt 3 e / den) st) 9 st) 9 st) 9 st) 9 st
  refine fo_congr 9 st (fun a ha s => fo_congr 9 s (fun b hb s => fo_congr 9 s (fun c hc s => fo_congr 9 s (fun e he s => ?_))))
  show frf pt den L0 (9 * (9 * (9 * a + b) + c) + e) s = _
  unfold frf
  have e1 : (9 * (9 * (9 * a + b) + c) + e) / 729 = a := by omega
  have e2 : (9 * (9 * (9 * a + b) + c) + e) / 81 % 9 = b := by omega
  have e3 : (9 * (9 * (9 * a + b) + c) + e) / 9 % 9 = c := by omega
  have e4 : (9 * (9 * (9 * a + b) + c) + e) % 9 = e := by omega
  rw [e1, e2, e3, e4, show 1000 * a + 100 * b + 10 * c + e = (((0 * 10 + a) * 10 + b) * 10 + c) * 10 + e by omega, show a + b + c + e = 0 + a + b + c + e by omega]
end
