/-! ===== pairs of a tuning and a finding (by hand) ===== -/
abbrev pairT (D : fM) (p kn i : Int) : Int := lat D 0 p (D 21 i.toNat) kn
abbrev pairP (D : fM) (p kn i : Int) : Prop := isK D i 1 p kn ∧ 0 ≤ pairT D p kn i ∧ D 21 (pairT D p kn i).toNat < D 21 i.toNat
/-- what record i adds to note n's fall and days -/
def fallI (D : fM) (p kn n i : Int) : Int := if pairP D p kn i ∧ toldB D i n = 1 then D 26 (pairT D p kn i * 12 + n).toNat - D 26 (i * 12 + n).toNat else 0
def dayI (D : fM) (p kn n i : Int) : Int := if pairP D p kn i ∧ toldB D i n = 1 then D 21 i.toNat - D 21 (pairT D p kn i).toNat else 0
def sumI (g : Int → Int) : Nat → Int
  | 0 => 0
  | m + 1 => sumI g m + g m
theorem sumI_s (g : Int → Int) (m : Nat) : sumI g (m + 1) = sumI g m + g m := rfl
theorem sumI_b {g : Int → Int} {lo hi : Int} : ∀ m : Nat, (∀ i : Nat, i < m → lo ≤ g i ∧ g i ≤ hi) → lo * m ≤ sumI g m ∧ sumI g m ≤ hi * m
  | 0, _ => by
    show lo * ((0 : Nat) : Int) ≤ 0 ∧ 0 ≤ hi * ((0 : Nat) : Int)
    simp
  | m + 1, h => by
    have ih := sumI_b (g := g) (lo := lo) (hi := hi) m (fun i hi => h i (by omega))
    have := h m (by omega)
    rw [sumI_s]
    have e1 : lo * ((m + 1 : Nat) : Int) = lo * m + lo := by rw [Int.natCast_add, Int.mul_add]; simp
    have e2 : hi * ((m + 1 : Nat) : Int) = hi * m + hi := by rw [Int.natCast_add, Int.mul_add]; simp
    omega
theorem sumI_congr {g h : Int → Int} : ∀ m : Nat, (∀ i : Nat, i < m → g i = h i) → sumI g m = sumI h m
  | 0, _ => rfl
  | m + 1, e => by rw [sumI_s, sumI_s, sumI_congr m (fun i hi => e i (by omega)), e m (by omega)]
theorem sumI_add (g h : Int → Int) : ∀ m : Nat, sumI (fun i => g i + h i) m = sumI g m + sumI h m
  | 0 => rfl
  | m + 1 => by rw [sumI_s, sumI_s, sumI_s, sumI_add g h m]; omega
theorem pairT_b {D : fM} (hw : WF D) {p kn i : Int} (h : 0 ≤ pairT D p kn i) : pairT D p kn i < D 18 8 := by
  obtain ⟨hn, hn2⟩ := nR_c hw.1
  have := latF_b D 0 p (D 21 i.toNat) kn (nR D)
  unfold pairT lat at h ⊢
  omega
theorem fallI_b {D : fM} (hw : WF D) (p kn : Int) {n i : Int} (h1 : 0 ≤ i) (h2 : i < D 18 8) (h3 : 0 ≤ n) (h4 : n < 12) : (-1998 ≤ fallI D p kn n i ∧ fallI D p kn n i ≤ 1998) ∧ (0 ≤ dayI D p kn n i ∧ dayI D p kn n i ≤ 363) := by
  unfold fallI dayI
  split
  · rename_i h
    have ht := pairT_b hw h.1.2.1
    have qa := hw.2.2.2.2.2.2.2.2.2 i h1 h2
    have qb := hw.2.2.2.2.2.2.2.2.2 (pairT D p kn i) h.1.2.1 ht
    have a1 := qa.2.2.2.2.2.1 n h3 h4
    have a2 := qb.2.2.2.2.2.1 n h3 h4
    have a3 := qa.2.2.1
    have a4 := qb.2.2.1
    omega
  · omega
abbrev fallN (D : fM) (p kn n : Int) : Int := sumI (fallI D p kn n) (nR D)
abbrev dayN (D : fM) (p kn n : Int) : Int := sumI (dayI D p kn n) (nR D)
/-- two rows set anew -/
def set2 (M : fM) (a : Nat) (ra : Nat → Int) (b : Nat) (rb : Nat → Int) : fM := fun k => if k = a then ra else if k = b then rb else M k
theorem set2_a (M : fM) (a : Nat) (ra : Nat → Int) (b : Nat) (rb : Nat → Int) : set2 M a ra b rb a = ra := if_pos rfl
theorem set2_b {M : fM} {a : Nat} {ra : Nat → Int} {b : Nat} {rb : Nat → Int} (h : b ≠ a) : set2 M a ra b rb b = rb := (if_neg h).trans (if_pos rfl)
theorem set2_ne {M : fM} {a : Nat} {ra : Nat → Int} {b : Nat} {rb : Nat → Int} {k : Nat} (h1 : k ≠ a) (h2 : k ≠ b) : set2 M a ra b rb k = M k := (if_neg h1).trans (if_neg h2)
theorem set2_id (M : fM) (a b : Nat) : set2 M a (M a) b (M b) = M := by
  funext k
  unfold set2
  split
  · subst_vars; rfl
  · split
    · subst_vars; rfl
    · rfl
theorem set2_up {M : fM} {a b : Nat} {ra rb : Nat → Int} (h : a ≠ b) (i j : Nat) (v w : Int) : fup (fup (set2 M a ra b rb) a i v) b j w = set2 M a (upd1 ra i v) b (upd1 rb j w) := by
  funext k
  by_cases h1 : k = b
  · subst h1
    rw [fup_eq, fup_ne (Ne.symm h), set2_b (Ne.symm h), set2_b (Ne.symm h)]
  · rw [fup_ne h1]
    by_cases h2 : k = a
    · subst h2
      rw [fup_eq, set2_a, set2_a]
    · rw [fup_ne h2, set2_ne h2 h1, set2_ne h2 h1]
/-- the first j of a row with g added -/
def addR (t : Nat → Int) (g : Int → Int) (j : Nat) : Nat → Int := fun n => if n < j then t n + g n else t n
theorem addR_0 (t : Nat → Int) (g : Int → Int) : addR t g 0 = t := by
  funext n
  exact if_neg (by omega)
theorem addR_s (t : Nat → Int) (g : Int → Int) (j : Nat) : upd1 (addR t g j) j (addR t g j j + g j) = addR t g (j + 1) := by
  funext n
  unfold upd1 addR
  by_cases h : n = j
  · subst h
    rw [if_pos rfl, if_neg (by omega), if_pos (by omega)]
  · rw [if_neg h]
    by_cases h2 : n < j
    · rw [if_pos h2, if_pos (by omega)]
    · rw [if_neg h2, if_neg (by omega)]
theorem addR_z {t : Nat → Int} {g : Int → Int} {j : Nat} (h : g j = 0) : addR t g j = addR t g (j + 1) := by
  funext n
  unfold addR
  by_cases h1 : n = j
  · subst h1
    rw [if_neg (by omega), if_pos (by omega), h, Int.add_zero]
  · by_cases h2 : n < j
    · rw [if_pos h2, if_pos (by omega)]
    · rw [if_neg h2, if_neg (by omega)]
theorem addR_at {t : Nat → Int} {g : Int → Int} {j : Nat} : addR t g j j = t j := if_neg (by omega)
theorem addR_add (t : Nat → Int) (g h : Int → Int) (j : Nat) : addR (addR t g j) h j = addR t (fun n => g n + h n) j := by
  funext n
  unfold addR
  by_cases h1 : n < j
  · rw [if_pos h1, if_pos h1, if_pos h1]
    show t n + g n + h n = t n + (g n + h n)
    omega
  · rw [if_neg h1, if_neg h1, if_neg h1]
theorem addR_no {t : Nat → Int} {g : Int → Int} {j : Nat} (h : ∀ n : Nat, n < j → g n = 0) : addR t g j = t := by
  funext n
  unfold addR
  by_cases h1 : n < j
  · rw [if_pos h1, h n h1, Int.add_zero]
  · rw [if_neg h1]
theorem c_addPair {M D : fM} (hc : CR M 0 D) (hw : WF D) {p kn i : Int} (h1 : 0 ≤ i) (h2 : i < D 18 8) (hp : pairP D p kn i) (hb : ∀ n : Nat, n < 12 → -1000000000 ≤ M 48 n ∧ M 48 n ≤ 1000000000 ∧ -1000000000 ≤ M 49 n ∧ M 49 n ≤ 1000000000) : s_X1_addPair M (pairT D p kn i) i = some ((), set2 M 48 (addR (M 48) (fun n => fallI D p kn n i) 12) 49 (addR (M 49) (fun n => dayI D p kn n i) 12)) := by
  have ht := pairT_b hw hp.2.1
  have hn := hw.1.2.2.2.2
  have qa := hw.2.2.2.2.2.2.2.2.2 i h1 h2
  have qb := hw.2.2.2.2.2.2.2.2.2 (pairT D p kn i) hp.2.1 ht
  have key : s_X1_addPair_l2 (pairT D p kn i) i (0, M) = some (set2 M 48 (addR (M 48) (fun n => fallI D p kn n i) 12) 49 (addR (M 49) (fun n => dayI D p kn n i) 12)) := by
    unfold s_X1_addPair_l2
    have := fLp_for (b := fun s : Int × fM => s_X1_addPair_b2 s.2 (pairT D p kn i) i s.1) (fun j => ((j : Int), set2 M 48 (addR (M 48) (fun n => fallI D p kn n i) j) 49 (addR (M 49) (fun n => dayI D p kn n i) j))) 12 (e := set2 M 48 (addR (M 48) (fun n => fallI D p kn n i) 12) 49 (addR (M 49) (fun n => dayI D p kn n i) 12)) (fun j hj => ?_) rfl
    · rw [addR_0, addR_0, set2_id] at this
      exact this
    · generalize hK : set2 M 48 (addR (M 48) (fun n => fallI D p kn n i) j) 49 (addR (M 49) (fun n => dayI D p kn n i) j) = K
      have hcK : CR K 0 D := fun k a b => by rw [← hK, set2_ne (by omega) (by omega)]; exact hc k a b
      have e48 : K 48 = addR (M 48) (fun n => fallI D p kn n i) j := by rw [← hK, set2_a]
      have e49 : K 49 = addR (M 49) (fun n => dayI D p kn n i) j := by rw [← hK, set2_b (by decide)]
      have t1 : toldB D i j = 0 ∨ toldB D i j = 1 := fand_1 _
      have bj := hb j hj
      have fb := fallI_b hw p kn (n := (j : Int)) h1 h2 (by omega) (by omega)
      have a1 := qa.2.2.2.2.2.1 (j : Int) (by omega) (by omega)
      have a2 := qb.2.2.2.2.2.1 (j : Int) (by omega) (by omega)
      have a3 := qa.2.2.1
      have a4 := qb.2.2.1
      show s_X1_addPair_b2 K (pairT D p kn i) i (j : Int) = some (Sum.inl ((j : Int) + 1, set2 M 48 (addR (M 48) (fun n => fallI D p kn n i) (j + 1)) 49 (addR (M 49) (fun n => dayI D p kn n i) (j + 1))))
      unfold s_X1_addPair_b2
      rw [if_neg (by omega), c_isTold hcK h1 (by omega), c_leftOf hcK h1 (by omega) (by omega) (by omega), c_leftOf hcK hp.2.1 (by omega) (by omega) (by omega), CR_r hcK 21 (by decide) (by decide), Int.toNat_natCast, e48, e49]
      simp only [Option.bind_some]
      by_cases x : toldB D i j = 0
      · have z1 : fallI D p kn j i = 0 := by unfold fallI; exact if_neg (fun e => absurd e.2 (by omega))
        have z2 : dayI D p kn j i = 0 := by unfold dayI; exact if_neg (fun e => absurd e.2 (by omega))
        rw [if_pos x, if_pos (by unfold fin; omega), ← hK, addR_z (g := fun n => fallI D p kn n i) (j := j) z1, addR_z (g := fun n => dayI D p kn n i) (j := j) z2]
      · have z1 : D 26 (pairT D p kn i * 12 + (j : Int)).toNat - D 26 (i * 12 + (j : Int)).toNat = fallI D p kn j i := by unfold fallI; exact (if_pos ⟨hp, by omega⟩).symm
        have z2 : D 21 i.toNat - D 21 (pairT D p kn i).toNat = dayI D p kn j i := by unfold dayI; exact (if_pos ⟨hp, by omega⟩).symm
        rw [if_neg x, if_pos (by omega), z1, z2, addR_at, addR_at, if_pos (by unfold fin; omega), if_pos (by unfold fin; omega), ← hK, set2_up (by decide)]
        have s1 := addR_s (M 48) (fun n => fallI D p kn n i) j
        have s2 := addR_s (M 49) (fun n => dayI D p kn n i) j
        rw [addR_at] at s1 s2
        rw [← s1, ← s2]
  unfold s_X1_addPair
  rw [key]
  rfl
theorem sum_row_s (D : fM) (f : Int → Int → Int) (t : Nat → Int) (i : Nat) : addR (addR t (fun n => sumI (f n) i) 12) (fun n => f n i) 12 = addR t (fun n => sumI (f n) (i + 1)) 12 := addR_add t _ _ 12
theorem c_addPairs {M D : fM} (hc : CR M 0 D) (hw : WF D) (p kn : Int) (hb : ∀ n : Nat, n < 12 → -100000000 ≤ M 48 n ∧ M 48 n ≤ 100000000 ∧ -100000000 ≤ M 49 n ∧ M 49 n ≤ 100000000) : s_X1_addPairs M p kn = some ((), set2 M 48 (addR (M 48) (fallN D p kn) 12) 49 (addR (M 49) (dayN D p kn) 12)) := by
  obtain ⟨hnn, hn2⟩ := nR_c hw.1
  have key : s_X1_addPairs_l2 p kn (0, M) = some (set2 M 48 (addR (M 48) (fallN D p kn) 12) 49 (addR (M 49) (dayN D p kn) 12)) := by
    unfold s_X1_addPairs_l2
    have := fLp_for (b := fun s : Int × fM => s_X1_addPairs_b2 s.2 p kn s.1) (fun i => ((i : Int), set2 M 48 (addR (M 48) (fun n => sumI (fallI D p kn n) i) 12) 49 (addR (M 49) (fun n => sumI (dayI D p kn n) i) 12))) (nR D) (e := set2 M 48 (addR (M 48) (fallN D p kn) 12) 49 (addR (M 49) (dayN D p kn) 12)) (fun i hi => ?_) ?_
    · rw [addR_no (fun _ _ => rfl), addR_no (fun _ _ => rfl), set2_id] at this
      exact this
    · generalize hK : set2 M 48 (addR (M 48) (fun n => sumI (fallI D p kn n) i) 12) 49 (addR (M 49) (fun n => sumI (dayI D p kn n) i) 12) = K
      have hcK : CR K 0 D := fun k a b => by rw [← hK, set2_ne (by omega) (by omega)]; exact hc k a b
      have e48 : K 48 = addR (M 48) (fun n => sumI (fallI D p kn n) i) 12 := by rw [← hK, set2_a]
      have e49 : K 49 = addR (M 49) (fun n => sumI (dayI D p kn n) i) 12 := by rw [← hK, set2_b (by decide)]
      have bK : ∀ n : Nat, n < 12 → -1000000000 ≤ K 48 n ∧ K 48 n ≤ 1000000000 ∧ -1000000000 ≤ K 49 n ∧ K 49 n ≤ 1000000000 := by
        intro n hn
        have b0 := hb n hn
        have b1 := sumI_b (g := fallI D p kn n) (lo := -1998) (hi := 1998) i (fun k hk => (fallI_b hw p kn (n := (n : Int)) (i := (k : Int)) (by omega) (by omega) (by omega) (by omega)).1)
        have b2 := sumI_b (g := dayI D p kn n) (lo := 0) (hi := 363) i (fun k hk => (fallI_b hw p kn (n := (n : Int)) (i := (k : Int)) (by omega) (by omega) (by omega) (by omega)).2)
        rw [e48, e49]
        unfold addR
        rw [if_pos hn, if_pos hn]
        show -1000000000 ≤ M 48 n + sumI (fallI D p kn n) i ∧ M 48 n + sumI (fallI D p kn n) i ≤ 1000000000 ∧ -1000000000 ≤ M 49 n + sumI (dayI D p kn n) i ∧ M 49 n + sumI (dayI D p kn n) i ≤ 1000000000
        omega
      show s_X1_addPairs_b2 K p kn (i : Int) = some (Sum.inl ((i : Int) + 1, set2 M 48 (addR (M 48) (fun n => sumI (fallI D p kn n) (i + 1)) 12) 49 (addR (M 49) (fun n => sumI (dayI D p kn n) (i + 1)) 12)))
      have zz : ¬ pairP D p kn i → K = set2 M 48 (addR (M 48) (fun n => sumI (fallI D p kn n) (i + 1)) 12) 49 (addR (M 49) (fun n => sumI (dayI D p kn n) (i + 1)) 12) := by
        intro hnp
        rw [← hK, ← sum_row_s D (fun n => fallI D p kn n), ← sum_row_s D (fun n => dayI D p kn n), addR_no (t := addR (M 48) _ 12) (fun n hn => by show fallI D p kn n i = 0; unfold fallI; exact if_neg (fun e => hnp e.1)), addR_no (t := addR (M 49) _ 12) (fun n hn => by show dayI D p kn n i = 0; unfold dayI; exact if_neg (fun e => hnp e.1))]
      unfold s_X1_addPairs_b2
      rw [CR_r hcK 18 (by decide) (by decide), CR_r hcK 21 (by decide) (by decide), if_neg (by omega), c_isOf hcK (by omega) (by omega), c_latest hcK hw.1]
      simp only [Option.bind_some, bit_if, if_pos (show (0 : Int) ≤ (i : Int) ∧ (i : Int) < 200 by omega), if_pos (show fin ((i : Int) + 1) by unfold fin; omega)]
      by_cases x1 : isK D i 1 p kn
      · rw [if_pos x1]
        by_cases x2 : pairT D p kn i < 0
        · rw [if_pos x2, ← zz (fun e => absurd e.2.1 (by omega))]
        · have ht := pairT_b hw (p := p) (kn := kn) (i := (i : Int)) (by omega)
          have x2' : 0 ≤ lat D 0 p (D 21 (i : Int).toNat) kn := Int.not_lt.mp x2
          have ht' : lat D 0 p (D 21 (i : Int).toNat) kn < D 18 8 := ht
          rw [if_neg x2, if_pos (by omega)]
          by_cases x3 : D 21 (i : Int).toNat ≤ D 21 (pairT D p kn i).toNat
          · rw [if_pos x3, ← zz (fun e => absurd e.2.2 (by omega))]
          · rw [if_neg x3, c_addPair hcK hw (by omega) (by omega) ⟨x1, by omega, by omega⟩ bK]
            simp only [Option.bind_some]
            congr 3
            funext k
            rw [e48, e49, sum_row_s D (fun n => fallI D p kn n), sum_row_s D (fun n => dayI D p kn n), ← hK]
            unfold set2
            split
            · rfl
            · split <;> rfl
      · rw [if_neg x1, ← zz (fun e => x1 e.1)]
    · generalize hK : set2 M 48 (addR (M 48) (fallN D p kn) 12) 49 (addR (M 49) (dayN D p kn) 12) = K
      have hcK : CR K 0 D := fun k a b => by rw [← hK, set2_ne (by omega) (by omega)]; exact hc k a b
      show s_X1_addPairs_b2 K p kn ((nR D : Nat) : Int) = _
      unfold s_X1_addPairs_b2
      rw [CR_r hcK 18 (by decide) (by decide), if_pos (by omega)]
  unfold s_X1_addPairs
  rw [key]
  rfl
theorem c_clearFalls (M : fM) : s_X1_clearFalls M = some ((), set2 M 48 (ffill M 48 12 0 48) 49 (ffill M 49 12 0 49)) := by
  unfold s_X1_clearFalls
  rw [fill_48, Option.bind_some, fill_49, Option.bind_some]
  congr 2
  funext k
  unfold set2 ffill
  by_cases h1 : k = 48
  · subst h1
    funext j
    show (if (48 = 49 ∧ j < 12) then (0 : Int) else if (48 = 48 ∧ j < 12) then 0 else M 48 j) = _
    rfl
  · by_cases h2 : k = 49
    · subst h2
      rfl
    · funext j
      rw [if_neg h1, if_neg h2]
      show (if (k = 49 ∧ j < 12) then (0 : Int) else if (k = 48 ∧ j < 12) then 0 else M k j) = M k j
      rw [if_neg (fun e => h2 e.1), if_neg (fun e => h1 e.1)]
