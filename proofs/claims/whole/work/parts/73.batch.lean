/-! ===== batch (by hand) ===== -/
abbrev thP (D : fM) (b p : Int) : Prop := D 10 (p * 10 + 6).toNat = b
abbrev brP (D : fM) (kn b i : Int) : Prop := D 19 i.toNat = 2 ∧ (kn = -1 ∨ D 22 i.toNat ≤ kn) ∧ D 10 (D 20 i.toNat * 10 + 6).toNat = b
abbrev thV (D : fM) (b : Int) : Int := cntI (thP D b) (nP D)
abbrev brV (D : fM) (kn b : Int) : Int := cntI (brP D kn b) (nR D)
theorem cntI_or {P Q R : Int → Prop} [DecidablePred P] [DecidablePred Q] [DecidablePred R] : ∀ n : Nat, (∀ i : Nat, i < n → ((P i ↔ Q i ∨ R i) ∧ ¬ (Q i ∧ R i))) → cntI P n = cntI Q n + cntI R n
  | 0, _ => rfl
  | n + 1, h => by
    have ih := cntI_or (P := P) (Q := Q) (R := R) n (fun i hi => h i (by omega))
    obtain ⟨h1, h2⟩ := h n (by omega)
    rw [cntI_s, cntI_s, cntI_s, ih]
    by_cases q : Q n
    · rw [if_pos (h1.mpr (.inl q)), if_pos q, if_neg (fun r => h2 ⟨q, r⟩)]; omega
    · by_cases r : R n
      · rw [if_pos (h1.mpr (.inr r)), if_neg q, if_pos r]; omega
      · rw [if_neg (fun p => (h1.mp p).elim q r), if_neg q, if_neg r]
theorem cntI_congr {P Q : Int → Prop} [DecidablePred P] [DecidablePred Q] : ∀ n : Nat, (∀ i : Nat, i < n → (P i ↔ Q i)) → cntI P n = cntI Q n
  | 0, _ => rfl
  | n + 1, h => by
    rw [cntI_s, cntI_s, cntI_congr n (fun i hi => h i (by omega))]
    by_cases q : Q n
    · rw [if_pos q, if_pos ((h n (by omega)).mpr q)]
    · rw [if_neg q, if_neg (fun p => q ((h n (by omega)).mp p))]
theorem cntI_no {P : Int → Prop} [DecidablePred P] : ∀ n : Nat, (∀ i : Nat, i < n → ¬ P i) → cntI P n = 0
  | 0, _ => rfl
  | n + 1, h => by
    rw [cntI_s, if_neg (h n (by omega)), cntI_no n (fun i hi => h i (by omega))]
/-- counting into ten boxes -/
theorem box_s (r : Nat → Int) (key : Int → Int) (P : Int → Prop) [DecidablePred P] (i : Nat) (h1 : 0 ≤ key i) (h2 : key i < 10) (hp : P i) : upd1 (fun j : Nat => if j < 10 then cntI (fun k => P k ∧ key k = (j : Int)) i else r j) (key i).toNat ((fun j : Nat => if j < 10 then cntI (fun k => P k ∧ key k = ((j : Nat) : Int)) i else r j) (key i).toNat + 1) = fun j : Nat => if j < 10 then cntI (fun k => P k ∧ key k = (j : Int)) (i + 1) else r j := by
  funext j
  unfold upd1
  by_cases hj : j = (key i).toNat
  · subst hj
    rw [if_pos rfl]
    show (if (key i).toNat < 10 then cntI (fun k => P k ∧ key k = (((key i).toNat : Nat) : Int)) i else r (key i).toNat) + 1 = _
    rw [if_pos (by omega), if_pos (by omega), cntI_s, if_pos ⟨hp, by omega⟩]
  · rw [if_neg hj]
    show (if j < 10 then cntI (fun k => P k ∧ key k = (j : Int)) i else r j) = _
    by_cases h10 : j < 10
    · rw [if_pos h10, if_pos h10, cntI_s, if_neg (fun e => hj (by omega))]
    · rw [if_neg h10, if_neg h10]
theorem box_n (r : Nat → Int) (key : Int → Int) (P : Int → Prop) [DecidablePred P] (i : Nat) (hp : ¬ P i) : (fun j : Nat => if j < 10 then cntI (fun k => P k ∧ key k = (j : Int)) i else r j) = fun j : Nat => if j < 10 then cntI (fun k => P k ∧ key k = (j : Int)) (i + 1) else r j := by
  funext j
  by_cases h10 : j < 10
  · rw [if_pos h10, if_pos h10, cntI_s, if_neg (fun e => hp e.1)]
  · rw [if_neg h10, if_neg h10]
theorem set1_id (M : fM) (c : Nat) : set1 M c (M c) = M := by
  funext k
  unfold set1
  split
  · subst_vars; rfl
  · rfl
theorem c_batchRows {M D : fM} (hc : CR M 0 D) (hw : WF D) (kn : Int) : ∃ K, s_X1_worstBatch M kn = some (mostF (brV D kn) (thV D) 10, K) ∧ fSame [(50, none), (51, none)] M K := by
  obtain ⟨hp1, hp2⟩ := nP_c hw.1
  obtain ⟨hnn, hn2⟩ := nR_c hw.1
  have hn16 := hw.1.1
  have hn200 := hw.1.2.2.2.2
  obtain ⟨M0, hM0⟩ : ∃ M0, M0 = ffill (ffill M 50 10 0) 51 10 0 := ⟨_, rfl⟩
  have z50 : ∀ j, j < 10 → M0 50 j = 0 := fun j hj => by rw [hM0, ffill_ne (by decide), ffill_at _ _ _ _ hj]
  have z51 : ∀ j, j < 10 → M0 51 j = 0 := fun j hj => by rw [hM0, ffill_at _ _ _ _ hj]
  have o0 : ∀ k, k ≠ 50 → k ≠ 51 → M0 k = M k := fun k h1 h2 => by rw [hM0, ffill_ne h2, ffill_ne h1]
  have hc0 : CR M0 0 D := fun k a b => by rw [Nat.add_zero, o0 k (by omega) (by omega)]; exact hc k a b
  -- pianos
  have k18 : s_X1_worstBatch_l18 kn (0, M0) = some (set1 M0 51 (fun j : Nat => if j < 10 then cntI (fun k => True ∧ D 10 (k * 10 + 6).toNat = (j : Int)) (nP D) else M0 51 j)) := by
    unfold s_X1_worstBatch_l18
    have := fLp_for (b := fun s : Int × fM => s_X1_worstBatch_b18 s.2 kn s.1) (fun i => ((i : Int), set1 M0 51 (fun j : Nat => if j < 10 then cntI (fun k => True ∧ D 10 (k * 10 + 6).toNat = (j : Int)) i else M0 51 j))) (nP D) (e := set1 M0 51 (fun j : Nat => if j < 10 then cntI (fun k => True ∧ D 10 (k * 10 + 6).toNat = (j : Int)) (nP D) else M0 51 j)) (fun i hi => ?_) ?_
    · rw [show (fun j : Nat => if j < 10 then cntI (fun k => True ∧ D 10 (k * 10 + 6).toNat = (j : Int)) 0 else M0 51 j) = M0 51 from by
        funext j
        by_cases hj : j < 10
        · rw [if_pos hj, z51 j hj]; rfl
        · rw [if_neg hj], set1_id] at this
      exact this
    · have hbt := (hw.2.2.2.2.2.1 (i : Int) (by omega) (by omega)).2.2.2.2.2.1
      generalize hK : set1 M0 51 (fun j : Nat => if j < 10 then cntI (fun k => True ∧ D 10 (k * 10 + 6).toNat = (j : Int)) i else M0 51 j) = K
      have hcK : CR K 0 D := fun k a b => by rw [← hK, Nat.add_zero, set1_ne (by omega)]; exact hc0 k a b
      have e51 : K 51 = fun j : Nat => if j < 10 then cntI (fun k => True ∧ D 10 (k * 10 + 6).toNat = (j : Int)) i else M0 51 j := by rw [← hK, set1_at]
      have bs := box_s (M0 51) (fun k => D 10 (k * 10 + 6).toNat) (fun _ => True) i hbt.1 (by omega) trivial
      have cb := cntI_b (fun k => True ∧ D 10 (k * 10 + 6).toNat = (((D 10 ((i : Int) * 10 + 6).toNat).toNat : Nat) : Int)) i
      show s_X1_worstBatch_b18 K kn (i : Int) = some (Sum.inl ((i : Int) + 1, set1 M0 51 (fun j : Nat => if j < 10 then cntI (fun k => True ∧ D 10 (k * 10 + 6).toNat = (j : Int)) (i + 1) else M0 51 j)))
      unfold s_X1_worstBatch_b18
      rw [CR_r hcK 4 (by decide) (by decide), if_neg (by omega), c_fact hcK hw.1 (by omega) (by omega) (by decide) (by decide), Option.bind_some, ← bs, ← set1_up, hK, e51]
      have eb : (fun j : Nat => if j < 10 then cntI (fun k => True ∧ D 10 (k * 10 + 6).toNat = (j : Int)) i else M0 51 j) (D 10 ((i : Int) * 10 + 6).toNat).toNat = cntI (fun k => True ∧ D 10 (k * 10 + 6).toNat = (((D 10 ((i : Int) * 10 + 6).toNat).toNat : Nat) : Int)) i := if_pos (by omega)
      rw [if_pos (by rw [eb]; unfold fin; omega)]
    · generalize hK : set1 M0 51 (fun j : Nat => if j < 10 then cntI (fun k => True ∧ D 10 (k * 10 + 6).toNat = (j : Int)) (nP D) else M0 51 j) = K
      have hcK : CR K 0 D := fun k a b => by rw [← hK, Nat.add_zero, set1_ne (by omega)]; exact hc0 k a b
      show s_X1_worstBatch_b18 K kn ((nP D : Nat) : Int) = _
      unfold s_X1_worstBatch_b18
      rw [CR_r hcK 4 (by decide) (by decide), if_pos (by omega)]
  generalize hM1 : set1 M0 51 (fun j : Nat => if j < 10 then cntI (fun k => True ∧ D 10 (k * 10 + 6).toNat = (j : Int)) (nP D) else M0 51 j) = M1 at k18
  have hc1 : CR M1 0 D := fun k a b => by rw [← hM1, Nat.add_zero, set1_ne (by omega)]; exact hc0 k a b
  have z50' : ∀ j, j < 10 → M1 50 j = 0 := fun j hj => by rw [← hM1, set1_ne (by decide)]; exact z50 j hj
  -- records
  have k56 : s_X1_worstBatch_l56 kn (0, M1) = some (set1 M1 50 (fun j : Nat => if j < 10 then cntI (fun k => (D 19 k.toNat = 2 ∧ (kn = -1 ∨ D 22 k.toNat ≤ kn)) ∧ D 10 (D 20 k.toNat * 10 + 6).toNat = (j : Int)) (nR D) else M1 50 j)) := by
    unfold s_X1_worstBatch_l56
    have := fLp_for (b := fun s : Int × fM => s_X1_worstBatch_b56 s.2 kn s.1) (fun i => ((i : Int), set1 M1 50 (fun j : Nat => if j < 10 then cntI (fun k => (D 19 k.toNat = 2 ∧ (kn = -1 ∨ D 22 k.toNat ≤ kn)) ∧ D 10 (D 20 k.toNat * 10 + 6).toNat = (j : Int)) i else M1 50 j))) (nR D) (e := set1 M1 50 (fun j : Nat => if j < 10 then cntI (fun k => (D 19 k.toNat = 2 ∧ (kn = -1 ∨ D 22 k.toNat ≤ kn)) ∧ D 10 (D 20 k.toNat * 10 + 6).toNat = (j : Int)) (nR D) else M1 50 j)) (fun i hi => ?_) ?_
    · rw [show (fun j : Nat => if j < 10 then cntI (fun k => (D 19 k.toNat = 2 ∧ (kn = -1 ∨ D 22 k.toNat ≤ kn)) ∧ D 10 (D 20 k.toNat * 10 + 6).toNat = (j : Int)) 0 else M1 50 j) = M1 50 from by
        funext j
        by_cases hj : j < 10
        · rw [if_pos hj, z50' j hj]; rfl
        · rw [if_neg hj], set1_id] at this
      exact this
    · have q := hw.2.2.2.2.2.2.2.2.2 (i : Int) (by omega) (by omega)
      have hbt := (hw.2.2.2.2.2.1 (D 20 (i : Int).toNat) q.2.1.1 q.2.1.2).2.2.2.2.2.1
      generalize hK : set1 M1 50 (fun j : Nat => if j < 10 then cntI (fun k => (D 19 k.toNat = 2 ∧ (kn = -1 ∨ D 22 k.toNat ≤ kn)) ∧ D 10 (D 20 k.toNat * 10 + 6).toNat = (j : Int)) i else M1 50 j) = K
      have hcK : CR K 0 D := fun k a b => by rw [← hK, Nat.add_zero, set1_ne (by omega)]; exact hc1 k a b
      have e50 : K 50 = fun j : Nat => if j < 10 then cntI (fun k => (D 19 k.toNat = 2 ∧ (kn = -1 ∨ D 22 k.toNat ≤ kn)) ∧ D 10 (D 20 k.toNat * 10 + 6).toNat = (j : Int)) i else M1 50 j := by rw [← hK, set1_at]
      have cb := cntI_b (fun k => (D 19 k.toNat = 2 ∧ (kn = -1 ∨ D 22 k.toNat ≤ kn)) ∧ D 10 (D 20 k.toNat * 10 + 6).toNat = (((D 10 (D 20 (i : Int).toNat * 10 + 6).toNat).toNat : Nat) : Int)) i
      have bn := box_n (M1 50) (fun k => D 10 (D 20 k.toNat * 10 + 6).toNat) (fun k => D 19 k.toNat = 2 ∧ (kn = -1 ∨ D 22 k.toNat ≤ kn)) i
      show s_X1_worstBatch_b56 K kn (i : Int) = some (Sum.inl ((i : Int) + 1, set1 M1 50 (fun j : Nat => if j < 10 then cntI (fun k => (D 19 k.toNat = 2 ∧ (kn = -1 ∨ D 22 k.toNat ≤ kn)) ∧ D 10 (D 20 k.toNat * 10 + 6).toNat = (j : Int)) (i + 1) else M1 50 j)))
      unfold s_X1_worstBatch_b56
      rw [CR_r hcK 18 (by decide) (by decide), CR_r hcK 19 (by decide) (by decide), CR_r hcK 20 (by decide) (by decide), if_neg (by omega), if_pos (by omega), c_isKnown hcK (by omega) (by omega), Option.bind_some, bit_if]
      have hf : fin ((i : Int) + 1) := by unfold fin; omega
      by_cases x1 : D 19 (i : Int).toNat = 2
      · rw [if_neg (fun e => e x1)]
        by_cases x2 : kn = -1 ∨ D 22 (i : Int).toNat ≤ kn
        · have bs := box_s (M1 50) (fun k => D 10 (D 20 k.toNat * 10 + 6).toNat) (fun k => D 19 k.toNat = 2 ∧ (kn = -1 ∨ D 22 k.toNat ≤ kn)) i hbt.1 (by omega) ⟨x1, x2⟩
          have eb : (fun j : Nat => if j < 10 then cntI (fun k => (D 19 k.toNat = 2 ∧ (kn = -1 ∨ D 22 k.toNat ≤ kn)) ∧ D 10 (D 20 k.toNat * 10 + 6).toNat = (j : Int)) i else M1 50 j) (D 10 (D 20 (i : Int).toNat * 10 + 6).toNat).toNat = cntI (fun k => (D 19 k.toNat = 2 ∧ (kn = -1 ∨ D 22 k.toNat ≤ kn)) ∧ D 10 (D 20 k.toNat * 10 + 6).toNat = (((D 10 (D 20 (i : Int).toNat * 10 + 6).toNat).toNat : Nat) : Int)) i := if_pos (by omega)
          rw [if_pos x2, if_pos (by omega), c_fact hcK hw.1 q.2.1.1 q.2.1.2 (by decide) (by decide), Option.bind_some, ← bs, ← set1_up, hK, e50, if_pos (by rw [eb]; unfold fin; omega)]
        · rw [if_neg x2, if_pos hf, ← hK, bn (fun e => x2 e.2)]
      · rw [if_pos x1, if_pos hf, ← hK, bn (fun e => x1 e.1)]
    · generalize hK : set1 M1 50 (fun j : Nat => if j < 10 then cntI (fun k => (D 19 k.toNat = 2 ∧ (kn = -1 ∨ D 22 k.toNat ≤ kn)) ∧ D 10 (D 20 k.toNat * 10 + 6).toNat = (j : Int)) (nR D) else M1 50 j) = K
      have hcK : CR K 0 D := fun k a b => by rw [← hK, Nat.add_zero, set1_ne (by omega)]; exact hc1 k a b
      show s_X1_worstBatch_b56 K kn ((nR D : Nat) : Int) = _
      unfold s_X1_worstBatch_b56
      rw [CR_r hcK 18 (by decide) (by decide), if_pos (by omega)]
  generalize hM2 : set1 M1 50 (fun j : Nat => if j < 10 then cntI (fun k => (D 19 k.toNat = 2 ∧ (kn = -1 ∨ D 22 k.toNat ≤ kn)) ∧ D 10 (D 20 k.toNat * 10 + 6).toNat = (j : Int)) (nR D) else M1 50 j) = M2 at k56
  have eB : ∀ j : Nat, j < 10 → M2 50 j = brV D kn j := fun j hj => by
    rw [← hM2, set1_at, if_pos hj]
    exact cntI_congr _ (fun i hi => ⟨fun e => ⟨e.1.1, e.1.2, e.2⟩, fun e => ⟨⟨e.1, e.2.1⟩, e.2.2⟩⟩)
  have eT : ∀ j : Nat, j < 10 → M2 51 j = thV D j := fun j hj => by
    rw [← hM2, set1_ne (by decide), ← hM1, set1_at, if_pos hj]
    exact cntI_congr _ (fun i hi => ⟨fun e => e.2, fun e => ⟨trivial, e⟩⟩)
  -- the worst
  have k129 : s_X1_worstBatch_l129 M2 (-1, 0) = some (mostF (brV D kn) (thV D) 10) := by
    unfold s_X1_worstBatch_l129
    refine fLp_for (fun i => (mostF (brV D kn) (thV D) i, (i : Int))) 10 (fun i hi => ?_) rfl
    have hb := mostF_b (brV D kn) (thV D) i
    have gi := cntI_b (thP D i) (nP D)
    have fi := cntI_b (brP D kn i) (nR D)
    show s_X1_worstBatch_b129 M2 (mostF (brV D kn) (thV D) i) (i : Int) = some (Sum.inl (mostF (brV D kn) (thV D) (i + 1), (i : Int) + 1))
    rw [mostF_s]
    unfold s_X1_worstBatch_b129
    rw [if_neg (by omega), if_pos (by omega), Int.toNat_natCast, eB i hi, eT i hi]
    have hf : fin ((i : Int) + 1) := by unfold fin; omega
    simp only [if_pos hf]
    by_cases x1 : thV D i ≤ 0
    · rw [if_pos x1, if_neg (fun e => absurd e.1 (by omega))]
    · rw [if_neg x1]
      by_cases x2 : mostF (brV D kn) (thV D) i < 0
      · rw [if_pos x2, if_pos ⟨by omega, .inl x2⟩]
      · obtain ⟨m, hm⟩ : ∃ m : Nat, mostF (brV D kn) (thV D) i = (m : Int) := ⟨(mostF (brV D kn) (thV D) i).toNat, by omega⟩
        have hm2 : m < 10 := by omega
        have gm := cntI_b (thP D m) (nP D)
        have fm := cntI_b (brP D kn m) (nR D)
        rw [if_neg x2, hm, Int.toNat_natCast, eB m hm2, eT m hm2]
        have p1 := mul_bd (x := brV D kn i) (y := thV D m) (A := 1000) (B := 1000) (by omega) (by unfold brV; omega) (by unfold brV; omega) gm.1 (by unfold thV; omega)
        have p2 := mul_bd (x := brV D kn m) (y := thV D i) (A := 1000) (B := 1000) (by omega) (by unfold brV; omega) (by unfold brV; omega) gi.1 (by unfold thV; omega)
        rw [if_pos (by unfold fin; omega)]
        by_cases x3 : brV D kn i * thV D m ≤ brV D kn m * thV D i
        · rw [if_pos x3, if_neg (show ¬ (0 < thV D i ∧ ((m : Int) < 0 ∨ brV D kn m * thV D i < brV D kn i * thV D m)) from fun e => by rcases e.2 with e | e <;> omega)]
        · rw [if_neg x3, if_pos (show (0 < thV D i ∧ ((m : Int) < 0 ∨ brV D kn m * thV D i < brV D kn i * thV D m)) from ⟨by omega, .inr (by omega)⟩)]
  refine ⟨M2, ?_, ?_⟩
  · unfold s_X1_worstBatch
    rw [fill_50, Option.bind_some]
    show (s_J7_fill_51 (ffill M 50 10 0) 0).bind _ = _
    rw [fill_51, Option.bind_some]
    show (s_X1_worstBatch_l18 kn (0, ffill (ffill M 50 10 0) 51 10 0)).bind _ = _
    rw [← hM0, k18, Option.bind_some, k56, Option.bind_some, k129]
    rfl
  · intro k j hnm
    have h1 : k ≠ 50 := fun e => hnm (.inl (by rw [e]; decide))
    have h2 : k ≠ 51 := fun e => hnm (.inl (by rw [e]; decide))
    rw [← hM2, set1_ne h1, ← hM1, set1_ne h2, o0 k h1 h2]
/-- what broke at the pianos below x -/
theorem br_s {D : fM} (hw : WF D) (kn b : Int) (x : Nat) : cntI (fun i => brP D kn b i ∧ D 20 i.toNat < ((x + 1 : Nat) : Int)) (nR D) = cntI (fun i => brP D kn b i ∧ D 20 i.toNat < (x : Int)) (nR D) + (if thP D b x then cntI (fun i => isK D i 2 x kn) (nR D) else 0) := by
  by_cases h : thP D b x
  · rw [if_pos h]
    refine cntI_or _ (fun i hi => ⟨⟨fun e => ?_, fun e => ?_⟩, fun e => ?_⟩)
    · by_cases hx : D 20 (i : Int).toNat = (x : Int)
      · exact .inr ⟨e.1.1, hx, e.1.2.1⟩
      · exact .inl ⟨e.1, by omega⟩
    · rcases e with e | e
      · exact ⟨e.1, by omega⟩
      · exact ⟨⟨e.1, e.2.2, by rw [e.2.1]; exact h⟩, by omega⟩
    · have := e.2.2.1; omega
  · rw [if_neg h, Int.add_zero]
    refine cntI_congr _ (fun i hi => ⟨fun e => ⟨e.1, ?_⟩, fun e => ⟨e.1, by omega⟩⟩)
    by_cases hx : D 20 (i : Int).toNat = (x : Int)
    · exact absurd (by have := e.1.2.2; rw [hx] at this; exact this) h
    · omega
theorem m_batch {N D : fM} (hm : MRh N 124 0 D) (hr : MRr N 125 0 D) (hn0 : N 122 10 = D 18 8) (hw : WF D) (kn : Int) : s_X12_batch_l24 N kn (-1, 0, 1, 0) = some (mostF (brV D kn) (thV D) 10) := by
  obtain ⟨hp1, hp2⟩ := nP_c hw.1
  obtain ⟨hnn, hn2⟩ := nR_c hw.1
  -- the records of a piano
  have k75 : ∀ (l2 l3 l4 l5 l6 l8 : Int) (c : Int), 0 ≤ c → c ≤ 1000000 → s_X12_batch_l75 N kn l2 l3 l4 l5 l6 l8 (c, 0) = some (c + cntI (fun i => isK D i 2 l8 kn) (nR D)) := by
    intro l2 l3 l4 l5 l6 l8 c hc0 hc1
    unfold s_X12_batch_l75
    have := fLp_for (b := fun s : Int × Int => s_X12_batch_b75 N kn l2 l3 l4 l5 l6 s.1 l8 s.2) (fun i => (c + cntI (fun i => isK D i 2 l8 kn) i, (i : Int))) (nR D) (e := c + cntI (fun i => isK D i 2 l8 kn) (nR D)) (fun i hi => ?_) ?_
    · rw [show c + cntI (fun i => isK D i 2 l8 kn) 0 = c from Int.add_zero c] at this
      exact this
    · have hb := cntI_b (fun i => isK D i 2 l8 kn) i
      have on := (hw.2.2.2.2.2.2.2.2.2 (i : Int) (by omega) (by omega)).2.2.1
      show s_X12_batch_b75 N kn l2 l3 l4 l5 l6 (c + cntI (fun i => isK D i 2 l8 kn) i) l8 (i : Int) = some (Sum.inl (c + cntI (fun i => isK D i 2 l8 kn) (i + 1), (i : Int) + 1))
      unfold s_X12_batch_b75
      rw [hn0, if_neg (by omega), m_isOf hr hw.1 (by omega) (by omega), Option.bind_some, bit_if, cntI_s]
      by_cases x : isK D i 2 l8 kn
      · rw [if_pos ⟨x, by omega⟩, if_pos x, if_pos (by unfold fin; omega), Int.add_assoc]
      · rw [if_neg (fun e => x e.1), if_neg x, if_pos (by unfold fin; omega), Int.add_zero]
    · show s_X12_batch_b75 N kn l2 l3 l4 l5 l6 _ l8 ((nR D : Nat) : Int) = _
      unfold s_X12_batch_b75
      rw [hn0, if_pos (by omega)]
  -- a batch
  have k40 : ∀ (l2 l3 l4 : Int) (b : Int), s_X12_batch_l40 N kn l2 l3 l4 b (0, 0, 0) = some (thV D b, brV D kn b) := by
    intro l2 l3 l4 b
    have eend : cntI (fun i => brP D kn b i ∧ D 20 i.toNat < ((nP D : Nat) : Int)) (nR D) = brV D kn b := cntI_congr _ (fun i hi => ⟨fun e => e.1, fun e => ⟨e, by have := (hw.2.2.2.2.2.2.2.2.2 (i : Int) (by omega) (by omega)).2.1.2; omega⟩⟩)
    have e0 : cntI (fun i => brP D kn b i ∧ D 20 i.toNat < ((0 : Nat) : Int)) (nR D) = 0 := cntI_no _ (fun i hi e => by have := (hw.2.2.2.2.2.2.2.2.2 (i : Int) (by omega) (by omega)).2.1.1; omega)
    unfold s_X12_batch_l40
    have := fLp_for (b := fun s : Int × Int × Int => s_X12_batch_b40 N kn l2 l3 l4 b s.1 s.2.1 s.2.2) (fun x => (cntI (thP D b) x, cntI (fun i => brP D kn b i ∧ D 20 i.toNat < (x : Int)) (nR D), (x : Int))) (nP D) (e := (thV D b, brV D kn b)) (fun x hx => ?_) ?_
    · rw [e0] at this
      exact this
    · have hb := cntI_b (thP D b) x
      have hb2 := cntI_b (fun i => brP D kn b i ∧ D 20 i.toNat < (x : Int)) (nR D)
      have hb3 := cntI_b (fun i => isK D i 2 x kn) (nR D)
      show s_X12_batch_b40 N kn l2 l3 l4 b (cntI (thP D b) x) (cntI (fun i => brP D kn b i ∧ D 20 i.toNat < (x : Int)) (nR D)) (x : Int) = some (Sum.inl (cntI (thP D b) (x + 1), cntI (fun i => brP D kn b i ∧ D 20 i.toNat < ((x + 1 : Nat) : Int)) (nR D), (x : Int) + 1))
      rw [br_s hw, cntI_s (thP D b)]
      unfold s_X12_batch_b40
      rw [(mh_n hm).1, if_neg (by omega), m_of hm hw.1 (by omega) (by omega) (by decide) (by decide), Option.bind_some]
      by_cases h : thP D b x
      · rw [if_pos h, if_pos h, if_pos h, if_pos (by unfold fin; omega), k75 _ _ _ _ _ _ _ (by omega) (by omega), Option.bind_some, if_pos (by unfold fin; omega)]
      · rw [if_neg h, if_neg h, if_neg h, if_pos (by unfold fin; omega), Int.add_zero]
    · show s_X12_batch_b40 N kn l2 l3 l4 b (cntI (thP D b) (nP D)) (cntI (fun i => brP D kn b i ∧ D 20 i.toNat < ((nP D : Nat) : Int)) (nR D)) ((nP D : Nat) : Int) = _
      unfold s_X12_batch_b40
      rw [(mh_n hm).1, if_pos (by omega), eend]
  unfold s_X12_batch_l24
  refine fLp_for (fun i => (mostF (brV D kn) (thV D) i, (if mostF (brV D kn) (thV D) i < 0 then 0 else brV D kn (mostF (brV D kn) (thV D) i)), (if mostF (brV D kn) (thV D) i < 0 then 1 else thV D (mostF (brV D kn) (thV D) i)), (i : Int))) 10 (fun i hi => ?_) rfl
  have hb := mostF_b (brV D kn) (thV D) i
  have gi := cntI_b (thP D i) (nP D)
  have fi := cntI_b (brP D kn i) (nR D)
  have gm := cntI_b (thP D (mostF (brV D kn) (thV D) i)) (nP D)
  have fm := cntI_b (brP D kn (mostF (brV D kn) (thV D) i)) (nR D)
  show s_X12_batch_b24 N kn (mostF (brV D kn) (thV D) i) (if mostF (brV D kn) (thV D) i < 0 then 0 else brV D kn (mostF (brV D kn) (thV D) i)) (if mostF (brV D kn) (thV D) i < 0 then 1 else thV D (mostF (brV D kn) (thV D) i)) (i : Int) = some (Sum.inl (mostF (brV D kn) (thV D) (i + 1), (if mostF (brV D kn) (thV D) (i + 1) < 0 then 0 else brV D kn (mostF (brV D kn) (thV D) (i + 1))), (if mostF (brV D kn) (thV D) (i + 1) < 0 then 1 else thV D (mostF (brV D kn) (thV D) (i + 1))), (i : Int) + 1))
  rw [mostF_s]
  unfold s_X12_batch_b24
  rw [if_neg (by omega), k40, Option.bind_some]
  have hf : fin ((i : Int) + 1) := by unfold fin; omega
  show (if thV D i = 0 then _ else _) = _
  simp only [if_pos hf]
  generalize mostF (brV D kn) (thV D) i = m at hb gm fm ⊢
  by_cases x1 : thV D i = 0
  · rw [if_pos x1, if_neg (show ¬ (0 < thV D i ∧ (m < 0 ∨ brV D kn m * thV D i < brV D kn i * thV D m)) from fun e => absurd e.1 (by omega))]
  · rw [if_neg x1]
    by_cases x2 : m < 0
    · rw [if_pos x2, if_pos (show (0 < thV D i ∧ (m < 0 ∨ brV D kn m * thV D i < brV D kn i * thV D m)) from ⟨by unfold thV at x1 ⊢; omega, .inl x2⟩), if_neg (by omega), if_neg (by omega)]
    · rw [if_neg x2, if_neg x2, if_neg x2]
      have p1 := mul_bd (x := brV D kn i) (y := thV D m) (A := 1000) (B := 1000) (by omega) (by unfold brV; omega) (by unfold brV; omega) gm.1 (by unfold thV; omega)
      have p2 := mul_bd (x := brV D kn m) (y := thV D i) (A := 1000) (B := 1000) (by omega) (by unfold brV; omega) (by unfold brV; omega) gi.1 (by unfold thV; omega)
      rw [if_pos (by unfold fin; omega)]
      by_cases x3 : brV D kn m * thV D i < brV D kn i * thV D m
      · rw [if_pos x3, if_pos (show (0 < thV D i ∧ (m < 0 ∨ brV D kn m * thV D i < brV D kn i * thV D m)) from ⟨by unfold thV at x1 ⊢; omega, .inr x3⟩), if_neg (show ¬ ((i : Int) < 0) by omega), if_neg (show ¬ ((i : Int) < 0) by omega)]
      · rw [if_neg x3, if_neg (show ¬ (0 < thV D i ∧ (m < 0 ∨ brV D kn m * thV D i < brV D kn i * thV D m)) from fun e => by rcases e.2 with e | e <;> omega), if_neg x2, if_neg x2]
theorem k_batch {M : fM} (hI : Iv M) (kn : Int) : ∃ v M1 M2, s_X11_batch M kn = some (v, M1) ∧ M1 1000 = M 1000 ∧ s_X12_batch M1 kn = some (v, M2) ∧ Iv M2 := by
  obtain ⟨D, hc, hw, hm, hnm, hr, hn0⟩ := hI.2.2.2.1
  by_cases h : -1 ≤ kn ∧ kn < 364
  · obtain ⟨K, c1, c2⟩ := c_batchRows hc hw kn
    have hm1 : MRh (fup K 122 0 0) 124 0 D := MRh_row (by rw [fup_ne (by decide), fs_row c2 124 (by decide)]) hm
    have hr1 : MRr (fup K 122 0 0) 125 0 D := MRr_row (by rw [fup_ne (by decide), fs_row c2 125 (by decide)]) hr
    refine ⟨mostF (brV D kn) (thV D) 10, K, fup K 122 0 0, ?_, fs_row c2 1000 (by decide), ?_, Iv_thrown (Iv_same c2 (by decide) hI)⟩
    · unfold s_X11_batch
      rw [c_isKnowing, Option.bind_some, bit_if, if_pos h, c1]
      rfl
    · unfold s_X12_batch
      rw [m_isKnown, Option.bind_some, bit_ifn, if_pos h, m_batch hm1 hr1 (by rw [show fup K 122 0 0 122 10 = K 122 10 from rfl, fs_row c2 122 (by decide)]; exact hn0) hw]
      rfl
  · refine ⟨-1, M, fup M 122 0 0, ?_, rfl, ?_, Iv_thrown hI⟩
    · unfold s_X11_batch
      rw [c_isKnowing, Option.bind_some, bit_if, if_neg h]
    · unfold s_X12_batch
      rw [m_isKnown, Option.bind_some, bit_ifn, if_neg h]
