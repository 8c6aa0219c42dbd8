/-! ===== round: the order of sequences, the best of them ===== -/
def lxl : List Nat → List Nat → Prop
  | [], _ => True
  | _ :: _, [] => False
  | a :: s, b :: t => a < b ∨ (a = b ∧ lxl s t)
theorem lxl_refl : ∀ s, lxl s s
  | [] => trivial
  | _ :: s => .inr ⟨rfl, lxl_refl s⟩
theorem lxl_anti : ∀ s t, lxl s t → lxl t s → s = t
  | [], [], _, _ => rfl
  | [], _ :: _, _, h => False.elim h
  | _ :: _, [], h, _ => False.elim h
  | a :: s, b :: t, h1, h2 => by
    rcases h1 with h1 | ⟨h1, h3⟩
    · rcases h2 with h2 | ⟨h2, _⟩ <;> omega
    · subst h1
      rcases h2 with h2 | ⟨_, h4⟩
      · omega
      · rw [lxl_anti s t h3 h4]
theorem lxl_app : ∀ (x s t : List Nat), lxl x s → lxl x (s ++ t)
  | [], _, _, _ => trivial
  | _ :: _, [], _, h => False.elim h
  | a :: x, b :: s, t, h => by
    rcases h with h | ⟨h1, h2⟩
    · exact .inl h
    · exact .inr ⟨h1, lxl_app x s t h2⟩
theorem lxl_lt : ∀ (v : List Nat) {q q' : Nat} (t t' : List Nat), q < q' → lxl (v ++ q :: t) (v ++ q' :: t')
  | [], _, _, _, _, h => .inl h
  | _ :: v, _, _, t, t', h => .inr ⟨rfl, lxl_lt v t t' h⟩
/-- what was met before the i-th branch behind s -/
def Qp (s : List Nat) (i : Nat) (x : List Nat) : Prop := lxl x s ∨ ∃ q t, q < i ∧ x = s ++ q :: t
theorem lxl_snoc : ∀ (s : List Nat) (i : Nat) (x : List Nat), lxl x (s ++ [i]) → Qp s i x ∨ x = s ++ [i]
  | [], i, [], _ => .inl (.inl trivial)
  | [], i, a :: t, h => by
    rcases h with h | ⟨h1, h2⟩
    · exact .inl (.inr ⟨a, t, h, rfl⟩)
    · cases t with
      | nil => subst h1; exact .inr rfl
      | cons c t => exact False.elim h2
  | b :: s, i, [], _ => .inl (.inl trivial)
  | b :: s, i, a :: t, h => by
    rcases h with h | ⟨h1, h2⟩
    · exact .inl (.inl (.inl h))
    · subst h1
      rcases lxl_snoc s i t h2 with (h3 | ⟨q, t', h3, h4⟩) | h3
      · exact .inl (.inl (.inr ⟨rfl, h3⟩))
      · exact .inl (.inr ⟨q, t', h3, by rw [h4]; rfl⟩)
      · exact .inr (by rw [h3]; rfl)
theorem Qp_lxl {s : List Nat} {i : Nat} {x : List Nat} (h : Qp s i x) : lxl x (s ++ [i]) := by
  rcases h with h | ⟨q, t, h1, h2⟩
  · exact lxl_app x s [i] h
  · rw [h2]
    exact lxl_lt s t [] h1
def nth : List Nat → Nat → Nat
  | [], _ => 0
  | a :: _, 0 => a
  | _ :: s, j + 1 => nth s j
theorem nth_l : ∀ (s t : List Nat) (j : Nat), j < s.length → nth (s ++ t) j = nth s j
  | [], _, j, h => absurd h (Nat.not_lt_zero j)
  | _ :: _, _, 0, _ => rfl
  | _ :: s, t, j + 1, h => nth_l s t j (Nat.lt_of_succ_lt_succ h)
theorem nth_n : ∀ (s : List Nat) (i : Nat), nth (s ++ [i]) s.length = i
  | [], _ => rfl
  | _ :: s, i => nth_n s i
theorem nth_m : ∀ (s : List Nat) (j : Nat), j < s.length → nth s j ∈ s
  | [], j, h => absurd h (Nat.not_lt_zero j)
  | a :: _, 0, _ => List.mem_cons_self
  | a :: s, j + 1, h => List.mem_cons_of_mem _ (nth_m s j (Nat.lt_of_succ_lt_succ h))
/-- the set of a sequence -/
def mk : List Nat → Nat
  | [] => 0
  | q :: s => mk s ||| 2 ^ q
theorem mk_t : ∀ (s : List Nat) (x : Nat), Nat.testBit (mk s) x = true ↔ x ∈ s
  | [], x => by
    show Nat.testBit 0 x = true ↔ _
    rw [Nat.zero_testBit]
    simp
  | q :: s, x => by
    show Nat.testBit (mk s ||| 2 ^ q) x = true ↔ _
    rw [tb_or, Bool.or_eq_true, mk_t s x, decide_eq_true_iff, List.mem_cons]
    constructor
    · rintro (h | h)
      · exact .inr h
      · exact .inl h.symm
    · rintro (h | h)
      · exact .inr h.symm
      · exact .inl h
theorem mk_set {s : List Nat} (h : s.Nodup) : IsSet s (mk s) := ⟨h, fun x => (mk_t s x).symm⟩
theorem mk_lt {s : List Nat} {n : Nat} (h : ∀ q ∈ s, q < n) : mk s < 2 ^ n := by
  apply Nat.lt_pow_two_of_testBit
  intro i hi
  cases hb : Nat.testBit (mk s) i with
  | false => rfl
  | true =>
    have := h i ((mk_t s i).1 hb)
    omega
theorem set_mk {s : List Nat} {m : Nat} (h : IsSet s m) : m = mk s := Nat.eq_of_testBit_eq fun i => by
  cases hb : Nat.testBit m i with
  | true => exact ((mk_t s i).2 ((h.2 i).2 hb)).symm
  | false =>
    cases hb2 : Nat.testBit (mk s) i with
    | false => rfl
    | true => rw [(h.2 i).1 ((mk_t s i).1 hb2)] at hb; exact absurd hb (by decide)
theorem wl_len : ∀ s : List Nat, wl (fun _ => 1) s = (s.length : Int)
  | [] => rfl
  | q :: s => by
    show 1 + wl (fun _ => 1) s = ((s.length + 1 : Nat) : Int)
    rw [wl_len s]
    omega
theorem wtm_one (m : Nat) : ∀ n : Nat, wtm (fun _ => 1) m n ≤ (n : Int)
  | 0 => Int.le_refl _
  | n + 1 => by
    have := wtm_one m n
    show wtm (fun _ => 1) m n + (if Nat.testBit m n then 1 else 0) ≤ ((n + 1 : Nat) : Int)
    split <;> omega
theorem set_len {s : List Nat} {n : Nat} (h1 : s.Nodup) (h2 : ∀ q ∈ s, q < n) : s.length ≤ n := by
  have h := wl_wtm (w := fun _ => 1) s (mk s) (mk_lt h2) (mk_set h1)
  have := wtm_one (mk s) n
  rw [wl_len] at h
  omega
theorem wl_nn {w : Nat → Int} (hw : ∀ i, 1 ≤ w i) : ∀ s : List Nat, (s.length : Int) ≤ wl w s
  | [] => Int.le_refl _
  | q :: s => by
    have := wl_nn hw s
    have := hw q
    show ((s.length + 1 : Nat) : Int) ≤ w q + wl w s
    omega
def hm (S : Sc) (s : List Nat) : Int := hmt S (run S (p0 S) s)
/-- sequences that are home in time -/
def Gs (S : Sc) (s : List Nat) : Prop := s.Nodup ∧ (∀ q ∈ s, q < S.n) ∧ hm S s ≤ S.D 8 5
def bt (S : Sc) (w : Nat → Int) (b s : List Nat) : Prop := wl w s < wl w b ∨ (wl w s = wl w b ∧ (hm S b < hm S s ∨ (hm S b = hm S s ∧ lxl b s)))
def Opt (S : Sc) (w : Nat → Int) (b : List Nat) : Prop := Gs S b ∧ ∀ s, Gs S s → bt S w b s
theorem Opt_eq {S : Sc} {w : Nat → Int} {b b' : List Nat} (h1 : Opt S w b) (h2 : Opt S w b') : b = b' := by
  have a1 := h1.2 b' h2.1
  have a2 := h2.2 b h1.1
  rcases a1 with a1 | ⟨a1, a3⟩ <;> rcases a2 with a2 | ⟨a2, a4⟩
  · omega
  · omega
  · omega
  · rcases a3 with a3 | ⟨a3, a5⟩ <;> rcases a4 with a4 | ⟨a4, a6⟩
    · omega
    · omega
    · omega
    · exact lxl_anti b b' a5 a6
theorem Gs_pre {S : Sc} (hS : S.ok) {s t : List Nat} (h : Gs S (s ++ t)) : Gs S s := by
  obtain ⟨h1, h2, h3⟩ := h
  have E0 := E_bd hS
  have hs : ∀ q ∈ s, q < S.n := fun q hq => h2 q (List.mem_append_left _ hq)
  refine ⟨(List.nodup_append.1 h1).1, hs, ?_⟩
  unfold hm at h3 ⊢
  rw [run_app] at h3
  exact home_run hS (by omega) t _ (okP_r hS s _ (okP_0 hS) hs) (fun q hq => h2 q (List.mem_append_right _ hq)) h3
/-- the best of those met so far -/
def Bst (S : Sc) (w : Nat → Int) (P : List Nat → Prop) (b : List Nat) : Prop := Gs S b ∧ P b ∧ ∀ s, Gs S s → P s → bt S w b s
/-- the latest times -/
def opn (S : Sc) (j : Nat) : Int := S.D 10 (S.r j * 10 + 8).toNat
def cls (S : Sc) (j : Nat) : Int := if pSh S.D S.d (S.r j) then -1 else S.D 10 (S.r j * 10 + 9).toNat
theorem opn_bd {S : Sc} (hS : S.ok) {j : Nat} (hj : j < S.n) : (0 ≤ opn S j ∧ opn S j ≤ 1440) ∧ -1 ≤ cls S j ∧ cls S j ≤ 1440 := by
  obtain ⟨hw, hn, hr, hd, hx, hy⟩ := hS
  obtain ⟨o1, o2⟩ := op_bd hw (hr j hj).1 (hr j hj).2
  unfold opn cls
  refine ⟨o1, ?_⟩
  split <;> omega
theorem dn_le {S : Sc} (hS : S.ok) {j : Nat} (hj : j < S.n) {t X : Int} (ht : 0 ≤ t) (hX : X < 1000000) : dn S j t ≤ X ↔ t + S.D 8 3 ≤ cls S j ∧ t + S.D 8 3 ≤ X ∧ opn S j + S.D 8 3 ≤ cls S j ∧ opn S j + S.D 8 3 ≤ X := by
  have hb := opn_bd hS hj
  have hw3 := hS.1.2.2.2.1.2.2.2.1
  unfold opn cls at hb ⊢
  unfold dn
  by_cases h : pSh S.D S.d (S.r j)
  · rw [if_pos h] at hb ⊢
    rw [if_pos h]
    omega
  · rw [if_neg h] at hb ⊢
    rw [if_neg h]
    by_cases h1 : t < S.D 10 (S.r j * 10 + 8).toNat
    · rw [if_pos h1]
      by_cases h2 : S.D 10 (S.r j * 10 + 8).toNat + S.D 8 3 ≤ S.D 10 (S.r j * 10 + 9).toNat
      · rw [if_pos h2]; omega
      · rw [if_neg h2]; omega
    · rw [if_neg h1]
      by_cases h2 : t + S.D 8 3 ≤ S.D 10 (S.r j * 10 + 9).toNat
      · rw [if_pos h2]; omega
      · rw [if_neg h2]; omega
def bg (S : Sc) (L : Nat → Nat → Int) (rest j : Nat) : Int := (if L (mw rest j) j < cls S j then L (mw rest j) j else cls S j) - S.D 8 3
def LQ (S : Sc) (Hm : Int) (L : Nat → Nat → Int) (rest i : Nat) : Prop := (rest = 0 → L rest i = Hm - wy S i 9) ∧ (rest ≠ 0 → (L rest i = -1000000 ∨ ∃ j, Nat.testBit rest j = true ∧ opn S j ≤ bg S L rest j ∧ L rest i = bg S L rest j - wy S i j) ∧ -1000000 ≤ L rest i ∧ ∀ j, Nat.testBit rest j = true → opn S j ≤ bg S L rest j → bg S L rest j - wy S i j ≤ L rest i)
theorem mw_no {m l : Nat} : Nat.testBit (mw m l) l = false := by
  rw [mw_t, decide_eq_true rfl]
  simp
theorem L_bd {S : Sc} (hS : S.ok) {Hm : Int} (h0 : 0 ≤ Hm) (h1 : Hm ≤ 1440) {L : Nat → Nat → Int} {rest i : Nat} (hr : rest < 2 ^ S.n) (hi : i < S.n) (h : LQ S Hm L rest i) : -1000000 ≤ L rest i ∧ L rest i ≤ 1440 := by
  by_cases e : rest = 0
  · have := wy_bd hS (.inl hi : S.at i) (.inr rfl : S.at 9)
    rw [h.1 e]
    omega
  · obtain ⟨a, b, -⟩ := h.2 e
    refine ⟨b, ?_⟩
    rcases a with a | ⟨j, a1, a2, a3⟩
    · omega
    · have hj := bit_lt hr a1
      have := wy_bd hS (.inl hi : S.at i) (.inl hj : S.at j)
      have := opn_bd hS hj
      have hw3 := hS.1.2.2.2.1.2.2.2.1
      rw [a3]
      unfold bg
      split <;> omega
theorem L_ok {S : Sc} (hS : S.ok) {Hm : Int} (h0 : 0 ≤ Hm) (h1 : Hm ≤ 1440) {L : Nat → Nat → Int} (hL : ∀ rest i, rest < 2 ^ S.n → i < S.n → Nat.testBit rest i = false → LQ S Hm L rest i) : ∀ k rest, rest < k → rest < 2 ^ S.n → ∀ i, i < S.n → Nat.testBit rest i = false → ∀ t, 0 ≤ t → t ≤ 1440 → (t ≤ L rest i ↔ ∃ s, IsSet s rest ∧ hmt S (run S (i, t) s) ≤ Hm)
  | 0, rest, h, _, _, _, _, _, _, _ => by omega
  | k + 1, rest, hk, hr, i, hi, hri, t, ht, ht2 => by
    have hn := hS.2.1
    have q := hL rest i hr hi hri
    have hw3 := hS.1.2.2.2.1.2.2.2.1
    have p512 : 2 ^ S.n ≤ 2 ^ 9 := Nat.pow_le_pow_right (n := 2) (by decide) hn
    by_cases e : rest = 0
    · subst e
      rw [q.1 rfl]
      constructor
      · intro h
        refine ⟨[], isSet_nil.2 rfl, ?_⟩
        show t + wy S i 9 ≤ Hm
        omega
      · rintro ⟨s, hs, hh⟩
        cases s with
        | nil =>
          have hh' : t + wy S i 9 ≤ Hm := hh
          omega
        | cons a s => exact absurd ((hs.2 a).1 List.mem_cons_self) (by rw [Nat.zero_testBit]; decide)
    · obtain ⟨qa, qb, qc⟩ := q.2 e
      have sml : ∀ j, Nat.testBit rest j = true → mw rest j < rest := fun j hj => (mw_f9 rest (by omega) j (by have := bit_lt hr hj; omega)).2.2 hj
      -- what a first step to j gives
      have one : ∀ j, Nat.testBit rest j = true → ((opn S j ≤ bg S L rest j ∧ t + wy S i j ≤ bg S L rest j) ↔ ∃ s, IsSet s (mw rest j) ∧ hmt S (run S (j, dn S j (t + wy S i j)) s) ≤ Hm) := by
        intro j hj
        have hjn := bit_lt hr hj
        have hwb := wy_bd hS (.inl hi : S.at i) (.inl hjn : S.at j)
        have hmr := mw_lt hr hjn
        have ob := opn_bd hS hjn
        have lb := L_bd hS h0 h1 hmr hjn (hL (mw rest j) j hmr hjn mw_no)
        have key : (opn S j ≤ bg S L rest j ∧ t + wy S i j ≤ bg S L rest j) ↔ dn S j (t + wy S i j) ≤ L (mw rest j) j := by
          rw [dn_le hS hjn (show 0 ≤ t + wy S i j by omega) (by omega)]
          unfold bg
          split <;> omega
        have d0 : 0 ≤ dn S j (t + wy S i j) := by rcases dn_bd hS hjn (show 0 ≤ t + wy S i j by omega) with f | f <;> omega
        rw [key]
        constructor
        · intro h
          exact (L_ok hS h0 h1 hL k (mw rest j) (by have := sml j hj; omega) hmr j hjn mw_no (dn S j (t + wy S i j)) d0 (by omega)).1 h
        · rintro ⟨s, hs1, hs2⟩
          have hsn := isSet_lt hs1 hmr
          have hh := home_run hS h1 s (j, dn S j (t + wy S i j)) ⟨.inl hjn, by
            rcases dn_bd hS hjn (show 0 ≤ t + wy S i j by omega) with f | f
            · exact .inl f
            · exact .inr ⟨d0, f.2⟩⟩ hsn hs2
          have w9 := wy_bd hS (.inl hjn : S.at j) (.inr rfl : S.at 9)
          have hh' : dn S j (t + wy S i j) + wy S j 9 ≤ Hm := hh
          exact (L_ok hS h0 h1 hL k (mw rest j) (by have := sml j hj; omega) hmr j hjn mw_no (dn S j (t + wy S i j)) d0 (by omega)).2 ⟨s, hs1, hs2⟩
      constructor
      · intro h
        rcases qa with qa | ⟨j, a1, a2, a3⟩
        · omega
        · obtain ⟨s, s1, s2⟩ := (one j a1).1 ⟨a2, by omega⟩
          exact ⟨j :: s, isSet_cons.2 ⟨a1, s1⟩, s2⟩
      · rintro ⟨s, hs, hh⟩
        cases s with
        | nil => exact absurd (isSet_nil.1 hs) e
        | cons j s =>
          obtain ⟨c1, c2⟩ := isSet_cons.1 hs
          obtain ⟨o1, o2⟩ := (one j c1).2 ⟨s, c2, hh⟩
          have := qc j c1 o1
          omega
