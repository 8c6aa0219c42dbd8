/-! ===== rounds: sequences, sets, soonest times ===== -/
def mw (m l : Nat) : Nat := if Nat.testBit m l then m ^^^ 2 ^ l else m
theorem mw_t (m l x : Nat) : Nat.testBit (mw m l) x = (Nat.testBit m x && !decide (l = x)) := by
  unfold mw
  by_cases h : Nat.testBit m l = true
  · rw [if_pos h, Nat.testBit_xor, Nat.testBit_two_pow]
    by_cases e : l = x
    · subst e; rw [h]; simp
    · rw [decide_eq_false e]; simp
  · rw [if_neg h]
    by_cases e : l = x
    · subst e
      have : Nat.testBit m l = false := by simpa using h
      rw [this]; rfl
    · rw [decide_eq_false e]; simp
theorem mw_f9 : ∀ m : Nat, m < 512 → ∀ l : Nat, l < 9 → fand (m : Int) (fxor (fshl 1 (l : Int)) (-1)) = ((mw m l : Nat) : Int) ∧ mw m l ≤ m ∧ (Nat.testBit m l = true → mw m l < m) := by decide +kernel
theorem mw_lt {m l n : Nat} (h : m < 2 ^ n) (hl : l < n) : mw m l < 2 ^ n := by
  unfold mw
  split
  · exact Nat.xor_lt_two_pow h (Nat.pow_lt_pow_right (by decide) hl)
  · exact h
theorem bit_lt {m n x : Nat} (h : m < 2 ^ n) (hx : Nat.testBit m x = true) : x < n := by
  refine Classical.byContradiction fun hc => ?_
  have := Nat.testBit_lt_two_pow (Nat.lt_of_lt_of_le h (Nat.pow_le_pow_right (by decide) (by omega : n ≤ x)))
  rw [this] at hx
  exact absurd hx (by decide)
theorem zero_bits {m : Nat} (h : ∀ x, Nat.testBit m x = false) : m = 0 := Nat.eq_of_testBit_eq (fun i => by rw [h i, Nat.zero_testBit])
theorem ex_bit {m n : Nat} (h : m < 2 ^ n) (h0 : m ≠ 0) : ∃ x, x < n ∧ Nat.testBit m x = true := by
  refine Classical.byContradiction fun hc => h0 (zero_bits fun x => ?_)
  cases hb : Nat.testBit m x with
  | false => rfl
  | true => exact absurd ⟨x, bit_lt h hb, hb⟩ hc
def IsSet (s : List Nat) (m : Nat) : Prop := s.Nodup ∧ ∀ x, x ∈ s ↔ Nat.testBit m x = true
theorem isSet_nil {m : Nat} : IsSet [] m ↔ m = 0 := by
  constructor
  · intro h
    refine zero_bits fun x => ?_
    cases hb : Nat.testBit m x with
    | false => rfl
    | true => exact absurd ((h.2 x).2 hb) (by simp)
  · intro h
    subst h
    exact ⟨List.nodup_nil, fun x => by rw [Nat.zero_testBit]; simp⟩
theorem isSet_cons {q m : Nat} {s : List Nat} : IsSet (q :: s) m ↔ Nat.testBit m q = true ∧ IsSet s (mw m q) := by
  constructor
  · rintro ⟨h1, h2⟩
    rw [List.nodup_cons] at h1
    refine ⟨(h2 q).1 List.mem_cons_self, h1.2, fun x => ?_⟩
    rw [mw_t, Bool.and_eq_true, ← h2 x, List.mem_cons]
    constructor
    · intro hx
      refine ⟨.inr hx, ?_⟩
      have : q ≠ x := fun e => h1.1 (e ▸ hx)
      rw [decide_eq_false this]; rfl
    · rintro ⟨hx | hx, h3⟩
      · subst hx
        rw [decide_eq_true rfl] at h3
        exact absurd h3 (by decide)
      · exact hx
  · rintro ⟨h0, h1, h2⟩
    have hq : q ∉ s := fun hx => by
      have := (h2 q).1 hx
      rw [mw_t, decide_eq_true rfl] at this
      simp at this
    refine ⟨List.nodup_cons.2 ⟨hq, h1⟩, fun x => ?_⟩
    rw [List.mem_cons, h2 x, mw_t, Bool.and_eq_true]
    by_cases e : x = q
    · subst e
      exact ⟨fun _ => h0, fun _ => .inl rfl⟩
    · rw [decide_eq_false (fun e2 => e e2.symm)]
      exact ⟨fun h => (h.resolve_left e).1, fun h => .inr ⟨h, rfl⟩⟩
theorem isSet_perm {s s' : List Nat} (h : s.Perm s') {m : Nat} : IsSet s m ↔ IsSet s' m := by
  unfold IsSet
  rw [h.nodup_iff]
  constructor
  · rintro ⟨a, b⟩; exact ⟨a, fun x => by rw [← b x]; exact h.mem_iff.symm⟩
  · rintro ⟨a, b⟩; exact ⟨a, fun x => by rw [← b x]; exact h.mem_iff⟩
theorem isSet_snoc {q m : Nat} {s : List Nat} : IsSet (s ++ [q]) m ↔ Nat.testBit m q = true ∧ IsSet s (mw m q) :=
  (isSet_perm (List.perm_append_singleton q s)).trans isSet_cons
/-! weights -/
def wl (w : Nat → Int) : List Nat → Int
  | [] => 0
  | q :: s => w q + wl w s
def wtm (w : Nat → Int) (m : Nat) : Nat → Int
  | 0 => 0
  | i + 1 => wtm w m i + if Nat.testBit m i then w i else 0
theorem wtm_off {w : Nat → Int} {m m' : Nat} : ∀ n, (∀ x, x < n → Nat.testBit m' x = Nat.testBit m x) → wtm w m' n = wtm w m n
  | 0, _ => rfl
  | n + 1, h => by
    show wtm w m' n + _ = wtm w m n + _
    rw [wtm_off n (fun x hx => h x (by omega)), h n (by omega)]
theorem wtm_mw {w : Nat → Int} {m q : Nat} (hq : Nat.testBit m q = true) : ∀ n, q < n → wtm w m n = w q + wtm w (mw m q) n
  | 0, h => by omega
  | n + 1, h => by
    show wtm w m n + (if Nat.testBit m n then w n else 0) = w q + (wtm w (mw m q) n + (if Nat.testBit (mw m q) n then w n else 0))
    by_cases e : q = n
    · subst e
      rw [wtm_off (m := m) (m' := mw m q) q (fun x hx => by rw [mw_t, decide_eq_false (by omega)]; simp), hq, mw_t, decide_eq_true rfl]
      simp
      omega
    · rw [wtm_mw hq n (by omega), mw_t, decide_eq_false e]
      simp only [Bool.not_false, Bool.and_true]
      omega
theorem wtm_zero (w : Nat → Int) : ∀ n, wtm w 0 n = 0
  | 0 => rfl
  | n + 1 => by
    show wtm w 0 n + _ = 0
    rw [wtm_zero w n, Nat.zero_testBit]
    rfl
theorem wl_wtm {w : Nat → Int} {n : Nat} : ∀ (s : List Nat) (m : Nat), m < 2 ^ n → IsSet s m → wl w s = wtm w m n
  | [], m, _, h => by rw [isSet_nil.1 h, wtm_zero]; rfl
  | q :: s, m, hm, h => by
    obtain ⟨h1, h2⟩ := isSet_cons.1 h
    have hq := bit_lt hm h1
    rw [wtm_mw h1 n hq, ← wl_wtm s (mw m q) (mw_lt hm hq) h2]
    rfl
theorem wl_app (w : Nat → Int) : ∀ s s', wl w (s ++ s') = wl w s + wl w s'
  | [], s' => by show wl w s' = 0 + _; omega
  | q :: s, s' => by
    show w q + wl w (s ++ s') = w q + wl w s + _
    rw [wl_app w s s']
    omega
/-- a minimum over those with c -/
def minF (c : Nat → Prop) [DecidablePred c] (v : Nat → Int) : Nat → Int
  | 0 => 1000000
  | i + 1 => if c i then (if v i < minF c v i then v i else minF c v i) else minF c v i
theorem minF_le1 (c : Nat → Prop) [DecidablePred c] (v : Nat → Int) : ∀ n, minF c v n ≤ 1000000
  | 0 => Int.le_refl _
  | n + 1 => by
    have := minF_le1 c v n
    unfold minF
    split
    · split <;> omega
    · exact this
theorem minF_le {c : Nat → Prop} [DecidablePred c] {v : Nat → Int} {i : Nat} (hc : c i) : ∀ n, i < n → minF c v n ≤ v i
  | 0, h => by omega
  | n + 1, h => by
    unfold minF
    by_cases e : i = n
    · subst e
      rw [if_pos hc]
      split <;> omega
    · have := minF_le (v := v) hc n (by omega)
      split
      · split <;> omega
      · exact this
theorem minF_at (c : Nat → Prop) [DecidablePred c] (v : Nat → Int) : ∀ n, minF c v n = 1000000 ∨ ∃ i, i < n ∧ c i ∧ minF c v n = v i
  | 0 => .inl rfl
  | n + 1 => by
    unfold minF
    by_cases hc : c n
    · rw [if_pos hc]
      by_cases h : v n < minF c v n
      · rw [if_pos h]; exact .inr ⟨n, by omega, hc, rfl⟩
      · rw [if_neg h]
        rcases minF_at c v n with e | ⟨i, a, b, e⟩
        · exact .inl e
        · exact .inr ⟨i, by omega, b, e⟩
    · rw [if_neg hc]
      rcases minF_at c v n with e | ⟨i, a, b, e⟩
      · exact .inl e
      · exact .inr ⟨i, by omega, b, e⟩
theorem minF_congr {c c' : Nat → Prop} [DecidablePred c] [DecidablePred c'] {v v' : Nat → Int} : ∀ n, (∀ i, i < n → (c i ↔ c' i) ∧ (c i → v i = v' i)) → minF c v n = minF c' v' n
  | 0, _ => rfl
  | n + 1, h => by
    unfold minF
    rw [minF_congr n (fun i hi => h i (by omega))]
    obtain ⟨h1, h2⟩ := h n (by omega)
    by_cases hc : c n
    · rw [if_pos hc, if_pos (h1.1 hc), h2 hc]
    · rw [if_neg hc, if_neg (fun e => hc (h1.2 e))]
/-! runs -/
def stp (S : Sc) (p : Nat × Int) (q : Nat) : Nat × Int := (q, dn S q (p.2 + wy S p.1 q))
def run (S : Sc) (p : Nat × Int) (s : List Nat) : Nat × Int := s.foldl (stp S) p
def p0 (S : Sc) : Nat × Int := (9, S.D 8 4)
def hmt (S : Sc) (p : Nat × Int) : Int := p.2 + wy S p.1 9
theorem run_nil (S : Sc) (p : Nat × Int) : run S p [] = p := rfl
theorem run_cons (S : Sc) (p : Nat × Int) (q : Nat) (s : List Nat) : run S p (q :: s) = run S (stp S p q) s := rfl
theorem run_snoc (S : Sc) (p : Nat × Int) (q : Nat) (s : List Nat) : run S p (s ++ [q]) = stp S (run S p s) q := by
  unfold run
  rw [List.foldl_append]
  rfl
theorem run_app (S : Sc) (p : Nat × Int) (s s' : List Nat) : run S p (s ++ s') = run S (run S p s) s' := by
  unfold run
  rw [List.foldl_append]
theorem dn_mono {S : Sc} (hS : S.ok) {q : Nat} (hq : q < S.n) {t t' : Int} (ht : 0 ≤ t) (h : t ≤ t') : dn S q t ≤ dn S q t' := by
  rcases dn_bd hS hq (show 0 ≤ t' by omega) with e | e
  · rw [e]
    rcases dn_bd hS hq ht with f | f <;> omega
  · have hne : dn S q t' ≠ 1000000 := by omega
    unfold dn at hne ⊢
    by_cases hs : pSh S.D S.d (S.r q)
    · rw [if_pos hs] at hne; exact absurd rfl hne
    · rw [if_neg hs] at hne ⊢
      rw [if_neg hs]
      by_cases h2 : (if t' < S.D 10 (S.r q * 10 + 8).toNat then S.D 10 (S.r q * 10 + 8).toNat else t') + S.D 8 3 ≤ S.D 10 (S.r q * 10 + 9).toNat
      · have h3 : (if t < S.D 10 (S.r q * 10 + 8).toNat then S.D 10 (S.r q * 10 + 8).toNat else t) ≤ (if t' < S.D 10 (S.r q * 10 + 8).toNat then S.D 10 (S.r q * 10 + 8).toNat else t') := by
          split <;> split <;> omega
        rw [if_pos h2, if_pos (by omega)]
        omega
      · rw [if_neg h2] at hne; exact absurd rfl hne
/-- late is late -/
theorem dn_late {S : Sc} (hS : S.ok) {q : Nat} (hq : q < S.n) {t : Int} (ht : 1440 ≤ t) : dn S q t = 1000000 := by
  rcases dn_bd hS hq (show 0 ≤ t by omega) with e | e
  · exact e
  · omega
def okP (S : Sc) (p : Nat × Int) : Prop := S.at p.1 ∧ (p.2 = 1000000 ∨ (0 ≤ p.2 ∧ p.2 ≤ 1440))
theorem okP_0 {S : Sc} (hS : S.ok) : okP S (p0 S) := by
  have := hS.1.2.2.2.1.2.2.2.2
  exact ⟨.inr rfl, .inr (by show 0 ≤ S.D 8 4 ∧ S.D 8 4 ≤ 1440; omega)⟩
theorem okP_s {S : Sc} (hS : S.ok) {p : Nat × Int} (hp : okP S p) {q : Nat} (hq : q < S.n) : okP S (stp S p q) := by
  refine ⟨.inl hq, ?_⟩
  have hw := wy_bd hS hp.1 (.inl hq)
  have h0 : 0 ≤ p.2 := by rcases hp.2 with e | e <;> omega
  rcases dn_bd hS hq (show 0 ≤ p.2 + wy S p.1 q by omega) with e | e
  · exact .inl e
  · exact .inr ⟨by show 0 ≤ dn S q _; omega, e.2⟩
theorem okP_r {S : Sc} (hS : S.ok) : ∀ (s : List Nat) (p : Nat × Int), okP S p → (∀ q ∈ s, q < S.n) → okP S (run S p s)
  | [], p, hp, _ => hp
  | q :: s, p, hp, h => okP_r hS s (stp S p q) (okP_s hS hp (h q List.mem_cons_self)) (fun x hx => h x (List.mem_cons_of_mem _ hx))
theorem wy_tri {S : Sc} (hS : S.ok) (a b c : Nat) : wy S a c ≤ wy S a b + wy S b c := by
  have hw := hS.1.2.2.2.1.2.2.1
  unfold wy
  rw [← Int.add_mul]
  refine Int.mul_le_mul_of_nonneg_right ?_ (by omega)
  unfold absI
  repeat' split
  all_goals omega
theorem E_bd {S : Sc} (hS : S.ok) : 0 ≤ S.D 8 4 ∧ S.D 8 4 < S.D 8 5 ∧ S.D 8 5 ≤ 1440 := hS.1.2.2.2.1.2.2.2.2
/-- who gets home later can get home now -/
theorem home_stp {S : Sc} (hS : S.ok) {p : Nat × Int} (hp : okP S p) {q : Nat} (hq : q < S.n) {E : Int} (hE : E ≤ 1440) (h : hmt S (stp S p q) ≤ E) : hmt S p ≤ E := by
  have hw := wy_bd hS hp.1 (.inl hq)
  have hw9 := wy_bd hS (.inl hq : S.at q) (.inr rfl : S.at 9)
  have h0 : 0 ≤ p.2 := by rcases hp.2 with e | e <;> omega
  have ht := wy_tri hS p.1 q 9
  unfold hmt at h ⊢
  have h' : dn S q (p.2 + wy S p.1 q) + wy S q 9 ≤ E := h
  rcases dn_bd hS hq (show 0 ≤ p.2 + wy S p.1 q by omega) with e | e <;> omega
theorem home_run {S : Sc} (hS : S.ok) {E : Int} (hE : E ≤ 1440) : ∀ (s : List Nat) (p : Nat × Int), okP S p → (∀ q ∈ s, q < S.n) → hmt S (run S p s) ≤ E → hmt S p ≤ E
  | [], _, _, _, h => h
  | q :: s, p, hp, hs, h => home_stp hS hp (hs q List.mem_cons_self) hE (home_run hS hE s (stp S p q) (okP_s hS hp (hs q List.mem_cons_self)) (fun x hx => hs x (List.mem_cons_of_mem _ hx)) h)
theorem run_mono {S : Sc} (hS : S.ok) : ∀ (s : List Nat) (l : Nat) (t t' : Int), S.at l → 0 ≤ t → t ≤ t' → (∀ q ∈ s, q < S.n) → (run S (l, t) s).1 = (run S (l, t') s).1 ∧ (run S (l, t) s).2 ≤ (run S (l, t') s).2
  | [], _, _, _, _, _, h, _ => ⟨rfl, h⟩
  | q :: s, l, t, t', hl, ht, h, hs => by
    have hq := hs q List.mem_cons_self
    have hw := wy_bd hS hl (.inl hq)
    have hd := dn_mono hS hq (t := t + wy S l q) (t' := t' + wy S l q) (by omega) (by omega)
    have h0 : 0 ≤ dn S q (t + wy S l q) := by rcases dn_bd hS hq (show 0 ≤ t + wy S l q by omega) with e | e <;> omega
    exact run_mono hS s q _ _ (.inl hq) h0 hd (fun x hx => hs x (List.mem_cons_of_mem _ hx))
/-! the table of soonest times -/
def tmin (S : Sc) (T : Nat → Nat → Int) (m l : Nat) : Int := if m = 0 then dn S l (S.D 8 4 + wy S 9 l) else minF (fun i => Nat.testBit m i = true ∧ T m i < 1000000) (fun i => dn S l (T m i + wy S i l)) S.n
def TEq (S : Sc) (T : Nat → Nat → Int) : Prop := ∀ m l, m < 2 ^ S.n → Nat.testBit m l = true → T m l = tmin S T (mw m l) l
theorem isSet_lt {s : List Nat} {m n : Nat} (h : IsSet s m) (hm : m < 2 ^ n) : ∀ q ∈ s, q < n := fun q hq => bit_lt hm ((h.2 q).1 hq)
theorem T_ok {S : Sc} (hS : S.ok) {T : Nat → Nat → Int} (hT : TEq S T) : ∀ k m, m < k → m < 2 ^ S.n → ∀ l, Nat.testBit m l = true → (T m l ≤ 1000000 ∧ 0 ≤ T m l) ∧ (T m l = 1000000 ∨ ∃ s, IsSet s m ∧ run S (p0 S) s = (l, T m l)) ∧ ∀ s, IsSet (s ++ [l]) m → T m l ≤ (run S (p0 S) (s ++ [l])).2
  | 0, m, h, _, _, _ => by omega
  | k + 1, m, hk, hm, l, hl => by
    have hn := hS.2.1
    have hln := bit_lt hm hl
    have hm9 : m < 512 := Nat.lt_of_lt_of_le hm (Nat.pow_le_pow_right (by decide) hn)
    have hmw := (mw_f9 m hm9 l (by omega)).2.2 hl
    have hmw2 := mw_lt hm hln
    have ih := T_ok hS hT k (mw m l) (by omega) hmw2
    have e := hT m l hm hl
    have E0 := E_bd hS
    have w9 := wy_bd hS (.inr rfl : S.at 9) (.inl hln : S.at l)
    rw [e]
    unfold tmin
    by_cases h0 : mw m l = 0
    · rw [if_pos h0]
      have hd := dn_bd hS hln (show 0 ≤ S.D 8 4 + wy S 9 l by omega)
      refine ⟨by rcases hd with f | f <;> omega, .inr ⟨[l], isSet_cons.2 ⟨hl, isSet_nil.2 h0⟩, rfl⟩, fun s hs => ?_⟩
      have hs0 : s = [] := by
        have := (isSet_snoc.1 hs).2
        rw [h0] at this
        cases s with
        | nil => rfl
        | cons a s => exact absurd ((this.2 a).1 List.mem_cons_self) (by rw [Nat.zero_testBit]; decide)
      subst hs0
      exact Int.le_refl _
    · rw [if_neg h0]
      refine ⟨⟨minF_le1 _ _ _, ?_⟩, ?_, fun s hs => ?_⟩
      · rcases minF_at (fun i => Nat.testBit (mw m l) i = true ∧ T (mw m l) i < 1000000) (fun i => dn S l (T (mw m l) i + wy S i l)) S.n with f | ⟨i, h1, h2, h3⟩
        · rw [f]; decide
        · rw [h3]
          obtain ⟨⟨b1, b2⟩, -, -⟩ := ih i h2.1
          have := wy_bd hS (.inl h1 : S.at i) (.inl hln : S.at l)
          show 0 ≤ dn S l _
          rcases dn_bd hS hln (show 0 ≤ T (mw m l) i + wy S i l by omega) with f | f <;> omega
      · rcases minF_at (fun i => Nat.testBit (mw m l) i = true ∧ T (mw m l) i < 1000000) (fun i => dn S l (T (mw m l) i + wy S i l)) S.n with f | ⟨i, h1, h2, h3⟩
        · exact .inl f
        · rw [h3]
          obtain ⟨-, b, -⟩ := ih i h2.1
          rcases b with b | ⟨s, b1, b2⟩
          · omega
          · refine .inr ⟨s ++ [l], isSet_snoc.2 ⟨hl, b1⟩, ?_⟩
            rw [run_snoc, b2]
            rfl
      · have hs2 := (isSet_snoc.1 hs).2
        -- the one before the last
        have hne : s ≠ [] := fun e2 => by subst e2; exact h0 (isSet_nil.1 hs2)
        obtain ⟨s', i, rfl⟩ : ∃ s' i, s = s' ++ [i] := ⟨s.dropLast, s.getLast hne, (List.dropLast_concat_getLast hne).symm⟩
        have hi : Nat.testBit (mw m l) i = true := (hs2.2 i).1 (by simp)
        have hin := bit_lt hmw2 hi
        obtain ⟨⟨b1, b2⟩, -, b3⟩ := ih i hi
        have hle := b3 s' hs2
        rw [run_snoc (s := s' ++ [i])]
        have hfst : (run S (p0 S) (s' ++ [i])).1 = i := by rw [run_snoc]; rfl
        have hwb := wy_bd hS (.inl hin : S.at i) (.inl hln : S.at l)
        show _ ≤ dn S l ((run S (p0 S) (s' ++ [i])).2 + wy S (run S (p0 S) (s' ++ [i])).1 l)
        rw [hfst]
        by_cases hT1 : T (mw m l) i < 1000000
        · have h1 := minF_le (c := fun i => Nat.testBit (mw m l) i = true ∧ T (mw m l) i < 1000000) (v := fun i => dn S l (T (mw m l) i + wy S i l)) (i := i) ⟨hi, hT1⟩ S.n hin
          have h2 := dn_mono hS hln (t := T (mw m l) i + wy S i l) (t' := (run S (p0 S) (s' ++ [i])).2 + wy S i l) (by omega) (by omega)
          exact Int.le_trans h1 h2
        · have h2 : dn S l ((run S (p0 S) (s' ++ [i])).2 + wy S i l) = 1000000 := dn_late hS hln (by omega)
          rw [h2]
          exact minF_le1 _ _ _
/-- a set that can be walked -/
def Feas (S : Sc) (m : Nat) : Prop := ∃ s, IsSet s m ∧ hmt S (run S (p0 S) s) ≤ S.D 8 5
/-- what the homes' table says -/
def HEq (S : Sc) (T : Nat → Nat → Int) (H : Nat → Int) : Prop := H 0 = S.D 8 4 ∧ ∀ m, m < 2 ^ S.n → m ≠ 0 → H m = if S.D 8 5 < minF (fun l => Nat.testBit m l = true) (fun l => T m l + wy S l 9) S.n then 1000000 else minF (fun l => Nat.testBit m l = true) (fun l => T m l + wy S l 9) S.n
theorem H_ok {S : Sc} (hS : S.ok) {T : Nat → Nat → Int} (hT : TEq S T) {H : Nat → Int} (hH : HEq S T H) {m : Nat} (hm : m < 2 ^ S.n) : (H m = 1000000 ∨ (H m ≤ S.D 8 5 ∧ ∃ s, IsSet s m ∧ hmt S (run S (p0 S) s) = H m)) ∧ ∀ s, IsSet s m → hmt S (run S (p0 S) s) ≤ S.D 8 5 → H m ≤ hmt S (run S (p0 S) s) := by
  have E0 := E_bd hS
  by_cases h0 : m = 0
  · subst h0
    rw [hH.1]
    have hh : hmt S (run S (p0 S) []) = S.D 8 4 := by
      show S.D 8 4 + wy S 9 9 = _
      rw [wy_99]; omega
    refine ⟨.inr ⟨by omega, [], isSet_nil.2 rfl, hh⟩, fun s hs _ => ?_⟩
    cases s with
    | nil => rw [hh]; exact Int.le_refl _
    | cons a s => exact absurd ((hs.2 a).1 List.mem_cons_self) (by rw [Nat.zero_testBit]; decide)
  · rw [hH.2 m hm h0]
    have tk := fun l hl => T_ok hS hT (m + 1) m (by omega) hm l hl
    constructor
    · by_cases hE : S.D 8 5 < minF (fun l => Nat.testBit m l = true) (fun l => T m l + wy S l 9) S.n
      · rw [if_pos hE]; exact .inl rfl
      · rw [if_neg hE]
        right
        refine ⟨by omega, ?_⟩
        rcases minF_at (fun l => Nat.testBit m l = true) (fun l => T m l + wy S l 9) S.n with e | ⟨l, h1, h2, h3⟩
        · omega
        · have hw := wy_bd hS (.inl h1 : S.at l) (.inr rfl : S.at 9)
          obtain ⟨⟨b1, b2⟩, b3, -⟩ := tk l h2
          have h3' : minF (fun l => Nat.testBit m l = true) (fun l => T m l + wy S l 9) S.n = T m l + wy S l 9 := h3
          rcases b3 with b | ⟨s, c1, c2⟩
          · omega
          · refine ⟨s, c1, ?_⟩
            rw [c2, h3']
            rfl
    · intro s hs hh
      have hne : s ≠ [] := fun e2 => by subst e2; exact h0 (isSet_nil.1 hs)
      obtain ⟨s', l, rfl⟩ : ∃ s' l, s = s' ++ [l] := ⟨s.dropLast, s.getLast hne, (List.dropLast_concat_getLast hne).symm⟩
      have hl : Nat.testBit m l = true := (hs.2 l).1 (by simp)
      have hln := bit_lt hm hl
      obtain ⟨-, -, b3⟩ := tk l hl
      have hle := b3 s' hs
      have hfst : (run S (p0 S) (s' ++ [l])).1 = l := by rw [run_snoc]; rfl
      have hmin := minF_le (c := fun l => Nat.testBit m l = true) (v := fun l => T m l + wy S l 9) (i := l) hl S.n hln
      have hmin' : minF (fun l => Nat.testBit m l = true) (fun l => T m l + wy S l 9) S.n ≤ T m l + wy S l 9 := hmin
      unfold hmt at hh ⊢
      rw [hfst] at hh ⊢
      rw [if_neg (by omega)]
      omega
theorem H_feas {S : Sc} (hS : S.ok) {T : Nat → Nat → Int} (hT : TEq S T) {H : Nat → Int} (hH : HEq S T H) {m : Nat} (hm : m < 2 ^ S.n) : (1000000 ≤ H m ↔ ¬ Feas S m) ∧ (Feas S m → H m ≤ 1440) := by
  have E0 := E_bd hS
  obtain ⟨a, b⟩ := H_ok hS hT hH hm
  refine ⟨⟨fun h hf => ?_, fun h => ?_⟩, fun hf => ?_⟩
  · obtain ⟨s, h1, h2⟩ := hf
    have := b s h1 h2
    omega
  · rcases a with e | ⟨e, s, h1, h2⟩
    · omega
    · exact absurd ⟨s, h1, by omega⟩ h
  · obtain ⟨s, h1, h2⟩ := hf
    have := b s h1 h2
    omega
