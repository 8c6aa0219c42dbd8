/-! ===== look and course (by hand) ===== -/
/-- numbers a..b of row c set to v -/
def frng (M : fM) (c : Nat) (a b v : Int) : fM := fun k j => if k = c ∧ a ≤ (j : Int) ∧ (j : Int) ≤ b then v else M k j
theorem frng_ne {M : fM} {c k : Nat} {a b v : Int} (h : k ≠ c) : frng M c a b v k = M k := by
  funext j
  exact if_neg (fun e => h e.1)
theorem frng_at (M : fM) (c j : Nat) (a b v : Int) : frng M c a b v c j = if a ≤ (j : Int) ∧ (j : Int) ≤ b then v else M c j := by
  unfold frng
  by_cases h : a ≤ (j : Int) ∧ (j : Int) ≤ b
  · rw [if_pos ⟨rfl, h⟩, if_pos h]
  · rw [if_neg (fun e => h e.2), if_neg h]
theorem frng_0 (M : fM) (c : Nat) (a b v : Int) (h : b < a) : frng M c a b v = M := by
  funext k j
  exact if_neg (fun e => by omega)
theorem frng_s (M : fM) (c : Nat) (a b v : Int) (ha : 0 ≤ a) (h : a ≤ b + 1) : fup (frng M c a b v) c (b + 1).toNat v = frng M c a (b + 1) v := by
  funext k j
  unfold fup frng
  by_cases h1 : k = c
  · by_cases h2 : j = (b + 1).toNat
    · rw [if_pos ⟨h1, h2⟩, if_pos ⟨h1, by omega, by omega⟩]
    · rw [if_neg (fun e => h2 e.2)]
      by_cases h3 : a ≤ (j : Int) ∧ (j : Int) ≤ b
      · rw [if_pos ⟨h1, h3⟩, if_pos ⟨h1, h3.1, by omega⟩]
      · rw [if_neg (fun e => h3 e.2), if_neg (fun e => h3 ⟨e.2.1, by omega⟩)]
  · rw [if_neg (fun e => h1 e.1), if_neg (fun e => h1 e.1), if_neg (fun e => h1 e.1)]
theorem c_mark (M : fM) (l1 l2 l3 : Int) {a b : Int} (ha : 0 ≤ a) (hb : b < 364) : s_X8_sumSlipTimes_l85 l1 l2 l3 b (a, M) = some (frng M 44 a b 3) := by
  unfold s_X8_sumSlipTimes_l85
  have := fLp_for (b := fun s : Int × fM => s_X8_sumSlipTimes_b85 s.2 l1 l2 l3 b s.1) (fun i => (a + i, frng M 44 a (a + i - 1) 3)) (b + 1 - a).toNat (e := frng M 44 a b 3) (fun i hi => ?_) ?_
  · rw [frng_0 M 44 a (a + ((0 : Nat) : Int) - 1) 3 (by omega), show a + ((0 : Nat) : Int) = a by omega] at this
    exact this
  · show s_X8_sumSlipTimes_b85 (frng M 44 a (a + i - 1) 3) l1 l2 l3 b (a + i) = some (Sum.inl (a + ((i + 1 : Nat) : Int), frng M 44 a (a + ((i + 1 : Nat) : Int) - 1) 3))
    unfold s_X8_sumSlipTimes_b85
    have := frng_s M 44 a (a + i - 1) 3 ha (by omega)
    rw [show a + (i : Int) - 1 + 1 = a + i by omega] at this
    rw [if_neg (by omega), if_pos (by unfold fin; omega), this, show a + ((i + 1 : Nat) : Int) = a + i + 1 by omega, show a + (i : Int) + 1 - 1 = a + i by omega]
  · show s_X8_sumSlipTimes_b85 (frng M 44 a (a + ((b + 1 - a).toNat : Nat) - 1) 3) l1 l2 l3 b (a + ((b + 1 - a).toNat : Nat)) = _
    unfold s_X8_sumSlipTimes_b85
    rw [if_pos (by omega)]
    by_cases h : a ≤ b
    · rw [show a + (((b + 1 - a).toNat : Nat) : Int) - 1 = b by omega]
    · rw [frng_0 _ _ _ _ _ (by omega), frng_0 _ _ _ _ _ (by omega)]
/-- row c of M anew -/
def set1 (M : fM) (c : Nat) (r : Nat → Int) : fM := fun k => if k = c then r else M k
theorem set1_at (M : fM) (c : Nat) (r : Nat → Int) : set1 M c r c = r := if_pos rfl
theorem set1_ne {M : fM} {c k : Nat} {r : Nat → Int} (h : k ≠ c) : set1 M c r k = M k := if_neg h
theorem set1_up (M : fM) (c i : Nat) (r : Nat → Int) (v : Int) : fup (set1 M c r) c i v = set1 M c (upd1 r i v) := by
  funext k
  by_cases h : k = c
  · subst h
    rw [fup_eq, set1_at, set1_at]
  · rw [fup_ne h, set1_ne h, set1_ne h]
theorem set1_eq {M N : fM} {c : Nat} (h : ∀ k, k ≠ c → N k = M k) : N = set1 M c (N c) := by
  funext k
  by_cases e : k = c
  · subst e; rw [set1_at]
  · rw [set1_ne e, h k e]
theorem anyI_s (P : Int → Prop) [DecidablePred P] (n : Nat) : anyI P (n + 1) = if anyI P n = 1 then 1 else bit (P (n : Int)) := rfl
/-- the class's slip times, summed -/
theorem c_slipTimes {M D : fM} (hc : CR M 0 D) (hw : WF D) {p : Int} (h5 : M 43 5 = p) (q kn : Int) : ∃ M', s_X8_sumSlipTimes M q kn = some ((), M') ∧ (∀ x : Nat, x < 364 → M' 44 x = sT D p q kn x) ∧ ∀ k, k ≠ 44 → M' k = M k := by
  obtain ⟨hnn, hn2⟩ := nR_c hw.1
  -- the marks
  have mk : ∀ i : Nat, i ≤ nR D → ∃ Mi : fM, (∀ k, k ≠ 44 → Mi k = M k) ∧ (∀ x : Nat, x < 364 → Mi 44 x = if anyI (shkP D p q kn x) i = 1 then 3 else 1) ∧ ∀ r, fLp (fun s : Int × fM => s_X8_sumSlipTimes_b10 s.2 q kn s.1) ((i : Int), Mi) = some r → s_X8_sumSlipTimes_l10 q kn (0, ffill M 44 364 1) = some r := by
    intro i
    induction i with
    | zero =>
      intro _
      exact ⟨ffill M 44 364 1, fun k hk => ffill_ne hk, fun x hx => ffill_at _ _ _ _ hx, fun r hr => hr⟩
    | succ i ih =>
      intro hi
      obtain ⟨Mi, e1, e2, e3⟩ := ih (by omega)
      have hci : CR Mi 0 D := fun k h1 h2 => by rw [Nat.add_zero, e1 k (by omega)]; exact hc k h1 h2
      have h5i : Mi 43 5 = p := by rw [e1 43 (by decide)]; exact h5
      have on := (hw.2.2.2.2.2.2.2.2.2 (i : Int) (by omega) (by omega)).2.2.1
      by_cases hk : isK D i 6 p kn ∧ D 21 (i : Int).toNat ≤ q
      · refine ⟨frng Mi 44 (D 21 (i : Int).toNat + 1) (if D 21 (i : Int).toNat + 21 < 363 then D 21 (i : Int).toNat + 21 else 363) 3, fun k hk => by rw [frng_ne hk, e1 k hk], fun x hx => ?_, fun r hr => e3 r ?_⟩
        · rw [frng_at, e2 x hx, anyI_s]
          by_cases hs : D 21 (i : Int).toNat + 1 ≤ (x : Int) ∧ (x : Int) ≤ D 21 (i : Int).toNat + 21
          · have hb : bit (shkP D p q kn x i) = 1 := bit1.mpr ⟨hk, hs⟩
            rw [if_pos (by split <;> omega)]
            by_cases ha : anyI (shkP D p q kn x) i = 1
            · rw [if_pos ha, if_pos rfl]
            · rw [if_neg ha, if_pos hb]
          · have hb : bit (shkP D p q kn x i) = 0 := bit0.mpr (fun e => hs e.2)
            rw [if_neg (by split <;> omega)]
            by_cases ha : anyI (shkP D p q kn x) i = 1
            · rw [if_pos ha, if_pos ha, if_pos rfl]
            · rw [if_neg ha, if_neg ha, if_neg (by omega)]
        · rw [fLp_eq]
          show (s_X8_sumSlipTimes_b10 Mi q kn (i : Int)).bind _ = _
          unfold s_X8_sumSlipTimes_b10
          rw [CR_r hci 18 (by decide) (by decide), CR_r hci 21 (by decide) (by decide), h5i, if_neg (by omega), c_isOf hci (by omega) (by omega), Option.bind_some, bit_if, if_pos hk.1, if_pos (by omega), if_neg (by omega), if_pos (by unfold fin; omega), c_min, Option.bind_some, if_pos (by unfold fin; omega), c_mark Mi q kn i (by omega) (by split <;> omega), Option.bind_some, if_pos (by unfold fin; omega)]
          exact hr
      · refine ⟨Mi, e1, fun x hx => ?_, fun r hr => e3 r ?_⟩
        · have hb : bit (shkP D p q kn x i) = 0 := bit0.mpr (fun e => hk e.1)
          rw [e2 x hx, anyI_s]
          by_cases ha : anyI (shkP D p q kn x) i = 1
          · rw [if_pos ha, if_pos ha, if_pos rfl]
          · rw [if_neg ha, if_neg ha, if_neg (by omega)]
        · rw [fLp_eq]
          show (s_X8_sumSlipTimes_b10 Mi q kn (i : Int)).bind _ = _
          unfold s_X8_sumSlipTimes_b10
          rw [CR_r hci 18 (by decide) (by decide), CR_r hci 21 (by decide) (by decide), h5i, if_neg (by omega), c_isOf hci (by omega) (by omega), Option.bind_some, bit_if]
          by_cases hk1 : isK D i 6 p kn
          · rw [if_pos hk1, if_pos (by omega), if_pos (Int.not_le.mp (fun e => hk ⟨hk1, e⟩)), if_pos (by unfold fin; omega)]
            exact hr
          · rw [if_neg hk1, if_pos (by unfold fin; omega)]
            exact hr
  obtain ⟨Mt, t1, t2, t3⟩ := mk (nR D) (Nat.le_refl _)
  have hct : CR Mt 0 D := fun k h1 h2 => by rw [Nat.add_zero, t1 k (by omega)]; exact hc k h1 h2
  have t4 : s_X8_sumSlipTimes_l10 q kn (0, ffill M 44 364 1) = some Mt := by
    refine t3 _ ?_
    rw [fLp_eq]
    show (s_X8_sumSlipTimes_b10 Mt q kn ((nR D : Nat) : Int)).bind _ = _
    unfold s_X8_sumSlipTimes_b10
    rw [CR_r hct 18 (by decide) (by decide), if_pos (by omega)]
    rfl
  have t2' : ∀ x : Nat, x < 364 → Mt 44 x = tms D p q kn x := fun x hx => t2 x hx
  -- the sums
  have t5 : s_X8_sumSlipTimes_l114 (1, Mt) = some (set1 Mt 44 (fun j => if j ≤ 363 then sT D p q kn j else Mt 44 j)) := by
    unfold s_X8_sumSlipTimes_l114
    have := fLp_for (b := fun s : Int × fM => s_X8_sumSlipTimes_b114 s.2 s.1) (fun i => ((i : Int) + 1, set1 Mt 44 (fun j => if j ≤ i then sT D p q kn j else Mt 44 j))) 363 (e := set1 Mt 44 (fun j => if j ≤ 363 then sT D p q kn j else Mt 44 j)) (fun i hi => ?_) rfl
    · rw [show (set1 Mt 44 (fun j => if j ≤ 0 then sT D p q kn j else Mt 44 j)) = Mt from by
        funext k
        by_cases h : k = 44
        · subst h
          rw [set1_at]
          funext j
          by_cases hj : j ≤ 0
          · have : j = 0 := by omega
            subst this
            rw [if_pos (by omega), t2' 0 (by omega)]
            show sumI (tms D p q kn) (((0 : Nat) : Int) + 1).toNat = _
            rw [show (((0 : Nat) : Int) + 1).toNat = 0 + 1 by omega, sumI_s]
            show 0 + tms D p q kn ((0 : Nat) : Int) = _
            omega
          · rw [if_neg hj]
        · rw [set1_ne h]] at this
      exact this
    · have b1 := sT_b D p q kn (x := (i : Int)) (by omega) (by omega)
      have b2 := tms_b D p q kn ((i : Int) + 1)
      show s_X8_sumSlipTimes_b114 (set1 Mt 44 (fun j => if j ≤ i then sT D p q kn j else Mt 44 j)) ((i : Int) + 1) = some (Sum.inl ((i : Int) + 1 + 1, set1 Mt 44 (fun j => if j ≤ i + 1 then sT D p q kn j else Mt 44 j)))
      unfold s_X8_sumSlipTimes_b114
      rw [set1_at, show ((i : Int) + 1).toNat = i + 1 by omega, show ((i : Int) + 1 - 1).toNat = i by omega]
      have r1 : (if i + 1 ≤ i then sT D p q kn ((i + 1 : Nat) : Int) else Mt 44 (i + 1)) = tms D p q kn ((i : Int) + 1) := by
        rw [if_neg (by omega), t2' (i + 1) (by omega)]
        rfl
      have r2 : (if i ≤ i then sT D p q kn (i : Int) else Mt 44 i) = sT D p q kn i := if_pos (Nat.le_refl _)
      rw [r1, r2, if_neg (by omega), if_pos (by unfold fin; omega), if_pos (by unfold fin; omega), set1_up]
      congr 4
      funext j
      unfold upd1
      by_cases hj : j = i + 1
      · subst hj
        rw [if_pos rfl, if_pos (Nat.le_refl _), sT_s D p q kn ((i + 1 : Nat) : Int) (by omega), show (((i + 1 : Nat) : Int) - 1) = (i : Int) by omega]
        show tms D p q kn ((i : Int) + 1) + sT D p q kn i = sT D p q kn i + tms D p q kn ((i : Int) + 1)
        omega
      · rw [if_neg hj]
        show (if j ≤ i then sT D p q kn j else Mt 44 j) = _
        by_cases hj2 : j ≤ i
        · rw [if_pos hj2, if_pos (by omega)]
        · rw [if_neg hj2, if_neg (by omega)]
  refine ⟨set1 Mt 44 (fun j => if j ≤ 363 then sT D p q kn j else Mt 44 j), ?_, fun x hx => ?_, fun k hk => ?_⟩
  · unfold s_X8_sumSlipTimes
    rw [fill_44, Option.bind_some]
    show (s_X8_sumSlipTimes_l10 q kn (0, ffill M 44 364 1)).bind _ = _
    rw [t4, Option.bind_some, t5]
    rfl
  · rw [set1_at, if_pos (by omega)]
  · rw [set1_ne hk, t1 k hk]
theorem c_stoveFall {M D : fM} (hc : CR M 0 D) (hw : WF D) {p : Int} (h5 : M 43 5 = p) (hp : 0 ≤ p) (hp2 : p < D 4 13) : ∃ M', s_X8_sumStoveFall M = some ((), M') ∧ (∀ x : Nat, x < 364 → M' 45 x = sS D p x) ∧ ∀ k, k ≠ 45 → M' k = M k := by
  have hst := (hw.2.2.2.2.2.1 p hp hp2).2.2.2.2.2.2.1
  generalize hs : D 10 (p * 10 + 7).toNat = s at hst
  have key : s_X8_sumStoveFall_l20 (s * 2) (0, 0, M) = some (set1 M 45 (fun j => if j < 364 then sS D p j else M 45 j)) := by
    unfold s_X8_sumStoveFall_l20
    have := fLp_for (b := fun z : Int × Int × fM => s_X8_sumStoveFall_b20 z.2.2 (s * 2) z.1 z.2.1) (fun i => (sumI (stv D p) i, (i : Int), set1 M 45 (fun j => if j < i then sS D p j else M 45 j))) 364 (e := set1 M 45 (fun j => if j < 364 then sS D p j else M 45 j)) (fun i hi => ?_) rfl
    · rw [show (set1 M 45 (fun j => if j < 0 then sS D p j else M 45 j)) = M from by
        funext k
        by_cases h : k = 45
        · subst h
          rw [set1_at]
          funext j
          exact if_neg (by omega)
        · rw [set1_ne h]] at this
      exact this
    · have b1 := sum_mono (g := stv D p) (hi := 2) (fun x => stv_b D p x) 0 i (by omega)
      rw [show sumI (stv D p) 0 = 0 from rfl] at b1
      have b2 := stv_b D p i
      have r1 : sS D p i = sumI (stv D p) (i + 1) := by
        unfold sS
        rw [show ((i : Int) + 1).toNat = i + 1 by omega]
      have e1 : upd1 (fun j => if j < i then sS D p j else M 45 j) i (sumI (stv D p) (i + 1)) = fun j => if j < i + 1 then sS D p j else M 45 j := by
        funext j
        unfold upd1
        by_cases hj : j = i
        · subst hj
          rw [if_pos rfl, if_pos (by omega), r1]
        · rw [if_neg hj]
          show (if j < i then sS D p j else M 45 j) = _
          by_cases hj2 : j < i
          · rw [if_pos hj2, if_pos (by omega)]
          · rw [if_neg hj2, if_neg (by omega)]
      show s_X8_sumStoveFall_b20 (set1 M 45 (fun j => if j < i then sS D p j else M 45 j)) (s * 2) (sumI (stv D p) i) (i : Int) = some (Sum.inl (sumI (stv D p) (i + 1), (i : Int) + 1, set1 M 45 (fun j => if j < i + 1 then sS D p j else M 45 j)))
      rw [← e1, ← set1_up, sumI_s]
      unfold s_X8_sumStoveFall_b20 s_X8_sumStoveFall_j47
      rw [if_neg (by omega), c_weekOf _ (by omega) (by omega), Option.bind_some, Int.toNat_natCast]
      have sv : (i : Int) / 7 ≤ 8 ∨ 44 ≤ (i : Int) / 7 → stv D p i = s * 2 := by
        intro hwk
        unfold stv
        rw [hs]
        by_cases h1 : s = 1
        · rw [if_pos ⟨h1, hwk⟩]; omega
        · rw [if_neg (fun e => h1 e.1)]; omega
      by_cases w1 : (i : Int) / 7 ≤ 8
      · rw [if_pos w1, sv (.inl w1), if_pos (by unfold fin; omega)]
      · rw [if_neg w1]
        by_cases w2 : (i : Int) / 7 < 44
        · have : stv D p i = 0 := by unfold stv; exact if_neg (fun e => by omega)
          rw [if_pos w2, if_pos (by unfold fin; omega), this, Int.add_zero]
        · rw [if_neg w2, sv (.inr (by omega)), if_pos (by unfold fin; omega)]
  refine ⟨set1 M 45 (fun j => if j < 364 then sS D p j else M 45 j), ?_, fun x hx => ?_, fun k hk => ?_⟩
  · unfold s_X8_sumStoveFall
    rw [h5, c_fact hc hw.1 hp hp2 (by decide) (by decide), Option.bind_some, hs, if_pos (by unfold fin; omega), key]
    rfl
  · rw [set1_at, if_pos hx]
  · rw [set1_ne hk]
theorem lfV_b {D : fM} (hw : WF D) {L n : Int} (hL : L = -1 ∨ (0 ≤ L ∧ L < D 18 8 ∧ D 19 L.toNat = 0)) (hn : 0 ≤ n) (hn2 : n < 12) : -1098 ≤ lfV D L n ∧ lfV D L n ≤ 1098 := by
  unfold lfV
  split
  · rcases hL with e | ⟨h1, h2, h3⟩
    · omega
    · have q := hw.2.2.2.2.2.2.2.2.2 L h1 h2
      have a1 := q.2.2.2.2.2.1 n hn hn2
      have a2 := q.2.2.2.2.2.2.1 h3
      have a3 := (hw.2.2.2.2.2.2.2.1 (D 23 L.toNat) a2.1 a2.2).2.2
      omega
  · omega
theorem lat_c {D : fM} (hw : WF D) (k p q kn : Int) : lat D k p q kn = -1 ∨ (0 ≤ lat D k p q kn ∧ lat D k p q kn < D 18 8 ∧ D 19 (lat D k p q kn).toNat = k ∧ D 21 (lat D k p q kn).toNat ≤ q) := by
  obtain ⟨hn, hn2⟩ := nR_c hw.1
  have := latF_b D k p q kn (nR D)
  unfold lat
  rcases this with e | ⟨a, b, c, d⟩
  · exact .inl e
  · exact .inr ⟨a, by omega, c.1, d⟩
theorem tdV_b {D : fM} (hw : WF D) (p q kn : Int) : -1 ≤ tdV D (lat D 0 p q kn) ∧ tdV D (lat D 0 p q kn) ≤ 363 ∧ (0 ≤ tdV D (lat D 0 p q kn) ↔ 0 ≤ lat D 0 p q kn) ∧ (0 ≤ q → tdV D (lat D 0 p q kn) ≤ q) := by
  unfold tdV
  rcases lat_c hw 0 p q kn with e | ⟨h1, h2, h3, h4⟩
  · rw [if_neg (by omega)]
    omega
  · have := (hw.2.2.2.2.2.2.2.2.2 _ h1 h2).2.2.1
    rw [if_pos h1]
    omega
/-- looking at a piano -/
theorem c_look {M D : fM} (hc : CR M 0 D) (hw : WF D) {p : Int} (hp : 0 ≤ p) (hp2 : p < D 4 13) (q kn : Int) : ∃ M', s_X8_look M p q kn = some ((), M') ∧ Lk M' D p q kn (tdV D (lat D 0 p q kn)) (lfV D (lat D 0 p q kn)) ∧ fSame [(43, some 5), (43, some 6), (44, none), (45, none), (46, none)] M M' := by
  generalize hL : lat D 0 p q kn = L
  have hLc := lat_c hw 0 p q kn
  rw [hL] at hLc
  have hn200 := hw.1.2.2.2.2
  have hc1 : CR (fup M 43 5 p) 0 D := fun k h1 h2 => by rw [Nat.add_zero, fup_ne (by omega)]; exact hc k h1 h2
  -- what was left
  have key : ∀ N : fM, CR N 0 D → ∃ N', s_X8_look_l44 q kn L (0, N) = some N' ∧ (∀ n : Nat, n < 12 → N' 46 n = lfV D L n) ∧ ∀ k, k ≠ 46 → N' k = N k := by
    intro N hcN
    refine ⟨set1 N 46 (fun j => if j < 12 then lfV D L j else N 46 j), ?_, fun n hn => by rw [set1_at, if_pos hn], fun k hk => set1_ne hk⟩
    unfold s_X8_look_l44
    have := fLp_for (b := fun s : Int × fM => s_X8_look_b44 s.2 q kn L s.1) (fun i => ((i : Int), set1 N 46 (fun j => if j < i then lfV D L j else N 46 j))) 12 (e := set1 N 46 (fun j => if j < 12 then lfV D L j else N 46 j)) (fun i hi => ?_) rfl
    · rw [show (set1 N 46 (fun j => if j < 0 then lfV D L j else N 46 j)) = N from by
        funext k
        by_cases h : k = 46
        · subst h
          rw [set1_at]
          funext j
          exact if_neg (by omega)
        · rw [set1_ne h]] at this
      exact this
    · have e1 : upd1 (fun j => if j < i then lfV D L j else N 46 j) i (lfV D L i) = fun j => if j < i + 1 then lfV D L j else N 46 j := by
        funext j
        unfold upd1
        by_cases hj : j = i
        · subst hj
          rw [if_pos rfl, if_pos (by omega)]
        · rw [if_neg hj]
          show (if j < i then lfV D L j else N 46 j) = _
          by_cases hj2 : j < i
          · rw [if_pos hj2, if_pos (by omega)]
          · rw [if_neg hj2, if_neg (by omega)]
      show s_X8_look_b44 (set1 N 46 (fun j => if j < i then lfV D L j else N 46 j)) q kn L (i : Int) = some (Sum.inl ((i : Int) + 1, set1 N 46 (fun j => if j < i + 1 then lfV D L j else N 46 j)))
      rw [← e1, ← set1_up]
      have hcK : CR (set1 N 46 (fun j => if j < i then lfV D L j else N 46 j)) 0 D := fun k h1 h2 => by rw [set1_ne (by omega)]; exact hcN k h1 h2
      have lb := lfV_b hw (L := L) (n := (i : Int)) (by rcases hLc with e | e; · exact .inl e
                                                        · exact .inr ⟨e.1, e.2.1, e.2.2.1⟩) (by omega) (by omega)
      unfold s_X8_look_b44
      rw [if_neg (by omega), Int.toNat_natCast]
      by_cases h0 : 0 ≤ L
      · obtain ⟨h1, h2, h3, h4⟩ : 0 ≤ L ∧ L < D 18 8 ∧ D 19 L.toNat = 0 ∧ D 21 L.toNat ≤ q := by
          rcases hLc with e | e
          · omega
          · exact e
        have a2 := (hw.2.2.2.2.2.2.2.2.2 L h1 h2).2.2.2.2.2.2.1 h3
        have ht := hw.1.2.1
        have ef : s_X2_forkOf_4 (set1 N 46 (fun j => if j < i then lfV D L j else N 46 j)) (D 23 L.toNat) = some (D 13 (D 23 L.toNat * 3 + 2).toNat) := by
          unfold s_X2_forkOf_4
          rw [CR_r hcK 13 (by decide) (by decide), if_pos (by unfold fin; omega)]
        have el : D 26 (L * 12 + (i : Int)).toNat + D 13 (D 23 L.toNat * 3 + 2).toNat = lfV D L i := by unfold lfV; rw [if_pos h0]
        rw [if_pos h0, c_leftOf hcK h1 (by omega) (by omega) (by omega), Option.bind_some, if_pos (by omega), CR_r hcK 23 (by decide) (by decide), ef, Option.bind_some, el, if_pos (by unfold fin; omega)]
      · have el : lfV D L i = 0 := by unfold lfV; rw [if_neg h0]
        rw [if_neg h0, if_pos (by unfold fin; omega), el]
  -- all of it
  have all : ∀ t, t = tdV D L → ∃ M', s_X8_look_j38 (fup M 43 5 p) q kn L t = some ((), M') ∧ Lk M' D p q kn (tdV D L) (lfV D L) ∧ fSame [(43, some 5), (43, some 6), (44, none), (45, none), (46, none)] M M' := by
    intro t ht
    have hc2 : CR (fup (fup M 43 5 p) 43 6 t) 0 D := fun k h1 h2 => by rw [Nat.add_zero, fup_ne (by omega)]; exact hc1 k h1 h2
    obtain ⟨N1, p1, p2, p3⟩ := key _ hc2
    have hcn1 : CR N1 0 D := fun k h1 h2 => by rw [Nat.add_zero, p3 k (by omega)]; exact hc2 k h1 h2
    have n43 : N1 43 = fup (fup M 43 5 p) 43 6 t 43 := p3 43 (by decide)
    obtain ⟨N2, q1, q2, q3⟩ := c_slipTimes hcn1 hw (p := p) (by rw [n43]; rfl) q kn
    have hcn2 : CR N2 0 D := fun k h1 h2 => by rw [Nat.add_zero, q3 k (by omega)]; exact hcn1 k h1 h2
    obtain ⟨N3, r1, r2, r3⟩ := c_stoveFall hcn2 hw (p := p) (by rw [q3 43 (by decide), n43]; rfl) hp hp2
    refine ⟨N3, ?_, ⟨fun k h1 h2 => by rw [Nat.add_zero, r3 k (by omega)]; exact hcn2 k h1 h2, ?_, ?_, fun x hx => by rw [r3 44 (by decide)]; exact q2 x hx, r2, fun n hn => by rw [r3 46 (by decide), q3 46 (by decide)]; exact p2 n hn⟩, ?_⟩
    · unfold s_X8_look_j38
      rw [p1, Option.bind_some, q1, Option.bind_some]
      show (s_X8_sumStoveFall N2).bind _ = _
      rw [r1]
      rfl
    · rw [r3 43 (by decide), q3 43 (by decide), n43]; rfl
    · rw [r3 43 (by decide), q3 43 (by decide), n43, ← ht]; rfl
    · intro k j hnm
      have hk : k ≠ 44 ∧ k ≠ 45 ∧ k ≠ 46 := ⟨fun e => hnm (.inl (by rw [e]; decide)), fun e => hnm (.inl (by rw [e]; decide)), fun e => hnm (.inl (by rw [e]; decide))⟩
      rw [r3 k hk.2.1, q3 k hk.1, p3 k hk.2.2]
      unfold fup
      rw [if_neg (fun e => hnm (.inr (by rw [e.1, e.2]; decide))), if_neg (fun e => hnm (.inr (by rw [e.1, e.2]; decide)))]
  unfold s_X8_look
  rw [c_latest hc1 hw.1, hL, Option.bind_some]
  by_cases h0 : 0 ≤ L
  · rw [if_pos h0, if_pos (by rcases hLc with e | e <;> omega), CR_r hc 21 (by decide) (by decide)]
    exact all _ (by unfold tdV; rw [if_pos h0])
  · rw [if_neg h0]
    exact all _ (by unfold tdV; rw [if_neg h0])
