/-! ===== festival: the class ===== -/
theorem c_ways {K : fM} {n : Nat} (hn : n ≤ 9) (h17 : K 54 17 = n) (h18 : K 54 18 = ((2 ^ n : Nat) : Int)) {F : Nat → Prop} (h63 : ∀ m, m < 2 ^ n → (1000000 ≤ K 63 m ↔ ¬ F m)) {t : Nat} (ht : t < 6) : ∃ K', s_X7_countWays K (t : Int) = some ((), K') ∧ (∀ m, m < 2 ^ n → K' 65 (512 * t + m) = zt n (ind F) m) ∧ (∀ x, x < 512 * t ∨ 512 * t + 512 ≤ x → K' 65 x = K 65 x) ∧ ∀ a, a ≠ 65 → K' a = K a := by
  have p512 : 2 ^ n ≤ 2 ^ 9 := Nat.pow_le_pow_right (n := 2) (by decide) hn
  obtain ⟨A, a1, a2, a3, a4⟩ : ∃ e, s_X7_countWays_l8 ((t : Int) * 512) (0, K) = some e ∧ (∀ m, m < 2 ^ n → e 65 (512 * t + m) = ind F m) ∧ (∀ x, x < 512 * t ∨ 512 * t + 512 ≤ x → e 65 x = K 65 x) ∧ ∀ a, a ≠ 65 → e a = K a := by
    unfold s_X7_countWays_l8
    refine fLp_ex (P := fun i s => s.1 = (i : Int) ∧ (∀ m, m < i → s.2 65 (512 * t + m) = ind F m) ∧ (∀ x, x < 512 * t ∨ 512 * t + 512 ≤ x → s.2 65 x = K 65 x) ∧ ∀ a, a ≠ 65 → s.2 a = K a) (2 ^ n) ⟨rfl, fun m h => by omega, fun x _ => rfl, fun a _ => rfl⟩ (fun i s hi hp => ?_) (fun s hp => ?_)
    · obtain ⟨z, Q⟩ := s
      obtain ⟨q1, q2, q3, q4⟩ := hp
      simp only at q1 q2 q3 q4
      subst q1
      have gi : ((t : Int) * 512 + (i : Int)).toNat = 512 * t + i := by omega
      refine ⟨((i : Int) + 1, fup Q 65 (512 * t + i) (ind F i)), ?_, by simp, fun m hm => ?_, fun x hx => ?_, fun a ha => ?_⟩
      · show s_X7_countWays_b8 Q ((t : Int) * 512) (i : Int) = _
        unfold s_X7_countWays_b8
        rw [q4 54 (by decide), q4 63 (by decide), h18, if_neg (by omega), if_pos (by unfold fin; omega), show (i : Int).toNat = i from rfl, gi]
        by_cases hf : 1000000 ≤ K 63 i
        · rw [if_pos hf, if_pos (by unfold fin; omega), ind_0 ((h63 i hi).1 hf)]
        · rw [if_neg hf, if_pos (by unfold fin; omega), ind_1 (Classical.byContradiction fun h => hf ((h63 i hi).2 h))]
      · show fup Q 65 (512 * t + i) _ 65 (512 * t + m) = _
        rw [fup_eq]
        by_cases e : m = i
        · subst e; rw [upd1_at]
        · rw [upd1_ne (by omega)]; exact q2 m (by omega)
      · show fup Q 65 (512 * t + i) _ 65 x = _
        rw [fup_eq, upd1_ne (by omega), q3 x hx]
      · show fup Q 65 (512 * t + i) _ a = _
        rw [fup_ne ha, q4 a ha]
    · obtain ⟨z, Q⟩ := s
      obtain ⟨q1, q2, q3, q4⟩ := hp
      simp only at q1 q2 q3 q4
      subst q1
      refine ⟨Q, ?_, q2, q3, q4⟩
      show s_X7_countWays_b8 Q ((t : Int) * 512) ((2 ^ n : Nat) : Int) = _
      unfold s_X7_countWays_b8
      rw [q4 54 (by decide), h18, if_pos (Int.le_refl _)]
  obtain ⟨B, b1, b2, b3, b4⟩ : ∃ e, s_X7_countWays_l48 ((t : Int) * 512) (0, A) = some e ∧ (∀ m, m < 2 ^ n → e 65 (512 * t + m) = zt n (ind F) m) ∧ (∀ x, x < 512 * t ∨ 512 * t + 512 ≤ x → e 65 x = K 65 x) ∧ ∀ a, a ≠ 65 → e a = K a := by
    unfold s_X7_countWays_l48
    refine fLp_ex (P := fun i s => s.1 = (i : Int) ∧ (∀ m, m < 2 ^ n → s.2 65 (512 * t + m) = zt i (ind F) m) ∧ (∀ x, x < 512 * t ∨ 512 * t + 512 ≤ x → s.2 65 x = K 65 x) ∧ ∀ a, a ≠ 65 → s.2 a = K a) n ⟨rfl, a2, a3, a4⟩ (fun i s hi hp => ?_) (fun s hp => ?_)
    · obtain ⟨z, Q⟩ := s
      obtain ⟨q1, q2, q3, q4⟩ := hp
      simp only at q1 q2 q3 q4
      subst q1
      obtain ⟨C, c1, c2, c3, c4⟩ : ∃ e, s_X7_countWays_l59 ((t : Int) * 512) (i : Int) (0, Q) = some e ∧ (∀ m, m < 2 ^ n → e 65 (512 * t + m) = zt (i + 1) (ind F) m) ∧ (∀ x, x < 512 * t ∨ 512 * t + 512 ≤ x → e 65 x = K 65 x) ∧ ∀ a, a ≠ 65 → e a = K a := by
        unfold s_X7_countWays_l59
        refine fLp_ex (P := fun j s => s.1 = (j : Int) ∧ (∀ m, m < 2 ^ n → s.2 65 (512 * t + m) = if m < j then zt (i + 1) (ind F) m else zt i (ind F) m) ∧ (∀ x, x < 512 * t ∨ 512 * t + 512 ≤ x → s.2 65 x = K 65 x) ∧ ∀ a, a ≠ 65 → s.2 a = K a) (2 ^ n) ⟨rfl, fun m hm => by rw [if_neg (by omega)]; exact q2 m hm, q3, q4⟩ (fun j s hj hp => ?_) (fun s hp => ?_)
        · obtain ⟨z, C⟩ := s
          obtain ⟨p1, p2, p3, p4⟩ := hp
          simp only at p1 p2 p3 p4
          subst p1
          have hfi : fin ((j : Int) + 1) := by unfold fin; omega
          have hnx : zt (i + 1) (ind F) j = zt i (ind F) j + if Nat.testBit j i then zt i (ind F) (mw j i) else 0 := rfl
          cases hbit : Nat.testBit j i with
          | false =>
            rw [hbit, if_neg (by decide)] at hnx
            refine ⟨((j : Int) + 1, C), ?_, by simp, fun m hm => ?_, p3, p4⟩
            · show s_X7_countWays_b59 C ((t : Int) * 512) (i : Int) (j : Int) = _
              unfold s_X7_countWays_b59
              rw [p4 54 (by decide), h18, if_neg (by omega), b_test9 j (by omega) i (by omega), hbit, if_pos (by decide), if_pos hfi]
            · show C 65 (512 * t + m) = _
              rw [p2 m hm]
              by_cases e : m = j
              · subst e; rw [if_neg (by omega), if_pos (by omega), hnx]; omega
              · by_cases h : m < j
                · rw [if_pos h, if_pos (by omega)]
                · rw [if_neg h, if_neg (by omega)]
          | true =>
            rw [hbit, if_pos rfl] at hnx
            obtain ⟨f1, f2, f3⟩ := mw_f9 j (by omega) i (by omega)
            have f3' := f3 hbit
            have v1 : C 65 (512 * t + j) = zt i (ind F) j := by rw [p2 j hj, if_neg (by omega)]
            have v2 : C 65 (512 * t + mw j i) = zt i (ind F) (mw j i) := by
              rw [p2 (mw j i) (by omega), if_pos f3']
              show zt i (ind F) (mw j i) + (if Nat.testBit (mw j i) i then _ else 0) = _
              rw [mw_no, if_neg (by decide)]
              omega
            have gi : ((t : Int) * 512 + (j : Int)).toNat = 512 * t + j := by omega
            have gi2 : ((t : Int) * 512 + ((mw j i : Nat) : Int)).toNat = 512 * t + mw j i := by omega
            have z1 := zt_le (ind_b F) i j
            have z2 := zt_le (ind_b F) i (mw j i)
            have pi9 : 2 ^ i ≤ 2 ^ 9 := Nat.pow_le_pow_right (n := 2) (by decide) (by omega)
            refine ⟨((j : Int) + 1, fup C 65 (512 * t + j) (zt (i + 1) (ind F) j)), ?_, by simp, fun m hm => ?_, fun x hx => ?_, fun a ha => ?_⟩
            · show s_X7_countWays_b59 C ((t : Int) * 512) (i : Int) (j : Int) = _
              unfold s_X7_countWays_b59
              rw [p4 54 (by decide), h18, if_neg (by omega), b_test9 j (by omega) i (by omega), hbit, if_neg (by decide), f1, gi, gi2, v1, v2, if_pos (by unfold fin finl; omega), if_pos (by unfold fin; omega), hnx]
            · show fup C 65 (512 * t + j) _ 65 (512 * t + m) = _
              rw [fup_eq]
              by_cases e : m = j
              · subst e; rw [upd1_at, if_pos (by omega)]
              · rw [upd1_ne (by omega), p2 m hm]
                by_cases h : m < j
                · rw [if_pos h, if_pos (by omega)]
                · rw [if_neg h, if_neg (by omega)]
            · show fup C 65 (512 * t + j) _ 65 x = _
              rw [fup_eq, upd1_ne (by omega), p3 x hx]
            · show fup C 65 (512 * t + j) _ a = _
              rw [fup_ne ha, p4 a ha]
        · obtain ⟨z, C⟩ := s
          obtain ⟨p1, p2, p3, p4⟩ := hp
          simp only at p1 p2 p3 p4
          subst p1
          refine ⟨C, ?_, fun m hm => by rw [p2 m hm, if_pos hm], p3, p4⟩
          show s_X7_countWays_b59 C ((t : Int) * 512) (i : Int) ((2 ^ n : Nat) : Int) = _
          unfold s_X7_countWays_b59
          rw [p4 54 (by decide), h18, if_pos (Int.le_refl _)]
      refine ⟨((i : Int) + 1, C), ?_, by simp, c2, c3, c4⟩
      show s_X7_countWays_b48 Q ((t : Int) * 512) (i : Int) = _
      unfold s_X7_countWays_b48
      rw [q4 54 (by decide), h17, if_neg (by omega), c1, Option.bind_some, if_pos (by unfold fin; omega)]
    · obtain ⟨z, Q⟩ := s
      obtain ⟨q1, q2, q3, q4⟩ := hp
      simp only at q1 q2 q3 q4
      subst q1
      refine ⟨Q, ?_, q2, q3, q4⟩
      show s_X7_countWays_b48 Q ((t : Int) * 512) (n : Int) = _
      unfold s_X7_countWays_b48
      rw [q4 54 (by decide), h17, if_pos (Int.le_refl _)]
  refine ⟨B, ?_, b2, b3, b4⟩
  unfold s_X7_countWays
  rw [if_pos (by unfold fin; omega), a1, Option.bind_some, b1]
  rfl
theorem prd_bd {n : Nat} (hn : n ≤ 9) (F : Nat → Nat → Prop) (team x : Nat) : ∀ k : Nat, 0 ≤ prd n F team x k ∧ prd n F team x k ≤ ((512 ^ k : Nat) : Int)
  | 0 => by
    show (0 : Int) ≤ 1 ∧ (1 : Int) ≤ ((1 : Nat) : Int)
    omega
  | k + 1 => by
    have ih := prd_bd hn F team x k
    have z := zt_le (ind_b (F k)) n x
    have p512 : 2 ^ n ≤ 2 ^ 9 := Nat.pow_le_pow_right (n := 2) (by decide) hn
    have e : ((512 ^ (k + 1) : Nat) : Int) = ((512 ^ k : Nat) : Int) * 512 := by rw [Nat.pow_succ, Int.natCast_mul]; rfl
    rw [e]
    unfold prd
    split
    · exact ⟨Int.mul_nonneg ih.1 z.1, Int.mul_le_mul ih.2 (by omega) z.1 (by omega)⟩
    · omega
theorem fwl_add (A B : Int) : fwl (fwl A + B) = fwl (A + B) := Int.bmod_add_bmod
theorem c_hasAll {K : fM} {n T : Nat} (hn : n ≤ 9) (h17 : K 54 17 = n) (h18 : K 54 18 = ((2 ^ n : Nat) : Int)) (hT : K 4 14 = T) (hT6 : T ≤ 6) {F : Nat → Nat → Prop} (h65 : ∀ t m, t < T → m < 2 ^ n → K 65 (512 * t + m) = zt n (ind (F t)) m) {team : Nat} (hteam : team < 512) : (Cvr n F team T (2 ^ n - 1) → s_X7_hasAll K (team : Int) = some 1) ∧ (¬ Cvr n F team T (2 ^ n - 1) → s_X7_hasAll K (team : Int) = some 0) := by
  have p512 : 2 ^ n ≤ 2 ^ 9 := Nat.pow_le_pow_right (n := 2) (by decide) hn
  have p1 : 1 ≤ 2 ^ n := Nat.one_le_two_pow
  have pT : ∀ k, k ≤ 6 → 512 ^ k ≤ 512 ^ 6 := fun k hk => Nat.pow_le_pow_right (by decide) hk
  have inner : ∀ (c : Int) (x : Nat), x < 2 ^ n → s_X7_hasAll_l20 K (team : Int) c (x : Int) (1, 0) = some (prd n F team x T) := by
    intro c x hx
    unfold s_X7_hasAll_l20
    have := fLp_for (b := fun s : Int × Int => s_X7_hasAll_b20 K (team : Int) c (x : Int) s.1 s.2) (fun i => (prd n F team x i, (i : Int))) T (e := prd n F team x T) (fun i hi => ?_) ?_
    · exact this
    · show s_X7_hasAll_b20 K (team : Int) c (x : Int) (prd n F team x i) (i : Int) = some (.inl (prd n F team x (i + 1), ((i + 1 : Nat) : Int)))
      have hb := prd_bd hn F team x (i + 1)
      have hp := pT (i + 1) (by omega)
      have hnx : prd n F team x (i + 1) = if Nat.testBit team i then prd n F team x i * zt n (ind (F i)) x else prd n F team x i := rfl
      unfold s_X7_hasAll_b20
      rw [hT, if_neg (by omega), b_test9 team hteam i (by omega)]
      cases hbit : Nat.testBit team i with
      | false =>
        rw [hbit, if_neg (by decide)] at hnx
        rw [if_pos (by decide), if_pos (by unfold fin; omega), hnx]
        rfl
      | true =>
        rw [hbit, if_pos rfl] at hnx
        rw [if_neg (by decide), if_pos (by unfold fin; omega), show ((i : Int) * 512 + (x : Int)).toNat = 512 * i + x by omega, h65 i x hi hx, ← hnx, fwl_id (by unfold finl; omega)]
        rfl
    · show s_X7_hasAll_b20 K (team : Int) c (x : Int) (prd n F team x T) (T : Int) = _
      unfold s_X7_hasAll_b20
      rw [hT, if_pos (Int.le_refl _)]
  have outer : s_X7_hasAll_l5 K (team : Int) (0, 0) = some (fwl (mu n (fun x => prd n F team x T))) := by
    unfold s_X7_hasAll_l5
    have := fLp_for (b := fun s : Int × Int => s_X7_hasAll_b5 K (team : Int) s.1 s.2) (fun i => (fwl (lsm (fun x => sgn n x (prd n F team x T)) i), (i : Int))) (2 ^ n) (e := fwl (mu n (fun x => prd n F team x T))) (fun i hi => ?_) ?_
    · exact this
    · show s_X7_hasAll_b5 K (team : Int) (fwl (lsm (fun x => sgn n x (prd n F team x T)) i)) (i : Int) = some (.inl (fwl (lsm (fun x => sgn n x (prd n F team x T)) i + sgn n i (prd n F team i T)), ((i + 1 : Nat) : Int)))
      have hb := prd_bd hn F team i T
      have hp := pT T hT6
      have hpc := pc_9 hn hi
      unfold s_X7_hasAll_b5 s_X7_hasAll_j87
      rw [h18, if_neg (by omega), inner _ i hi, Option.bind_some, c_bitc K (by omega), Option.bind_some, h17, if_pos (by unfold fin; omega), show (n : Int) - ((pc i 9 : Nat) : Int) = ((n - pc i 9 : Nat) : Int) by omega, show (2 : Int) = ((2 : Nat) : Int) from rfl, frem_nat (by omega) (by decide), if_pos (show fin ((i : Int) + 1) by unfold fin; omega)]
      by_cases h : (n - pc i 9) % 2 = 0
      · rw [if_neg (show ¬ ¬ (((n - pc i 9) % 2 : Nat) : Int) = 0 by omega), if_neg (show ¬ (1 : Int) = 0 by decide), fwl_add, show sgn n i (prd n F team i T) = prd n F team i T from if_pos h, show (i : Int) + 1 = ((i + 1 : Nat) : Int) from rfl, if_pos (show fin ((i + 1 : Nat) : Int) by unfold fin; omega)]
      · rw [if_pos (show ¬ (((n - pc i 9) % 2 : Nat) : Int) = 0 by omega), if_pos (show (0 : Int) = 0 from rfl), fwl_id (x := -prd n F team i T) (by unfold finl; omega), fwl_add, show sgn n i (prd n F team i T) = -prd n F team i T from if_neg h, show (i : Int) + 1 = ((i + 1 : Nat) : Int) from rfl]
    · show s_X7_hasAll_b5 K (team : Int) _ ((2 ^ n : Nat) : Int) = _
      unfold s_X7_hasAll_b5
      rw [h18, if_pos (Int.le_refl _)]
      rfl
  have hmu : mu n (fun x => prd n F team x T) = chs n F team T (2 ^ n - 1) := by
    rw [← mu_zt n hn (chs n F team T)]
    exact mu_congr (fun x hx => (zt_chs hn F team hx T).symm)
  have hcp := chs_pos hn F team T
  have hlast : 2 ^ n - 1 < 2 ^ n := by omega
  have hge := zt_ge (h := chs n F team T) (B := 2 ^ n) (fun x hx => (hcp x hx).1) n (2 ^ n - 1) hlast
  rw [zt_chs hn F team hlast T] at hge
  have hb := prd_bd hn F team (2 ^ n - 1) T
  have hp := pT T hT6
  have hc0 := hcp (2 ^ n - 1) hlast
  have hfw : fwl (mu n (fun x => prd n F team x T)) = chs n F team T (2 ^ n - 1) := by
    rw [hmu]
    exact fwl_id (by unfold finl; omega)
  unfold s_X7_hasAll
  rw [outer, hfw, Option.bind_some]
  constructor
  · intro h
    rw [if_neg (hc0.2.2 h)]
  · intro h
    rw [if_pos (Classical.byContradiction fun e => h (hc0.2.1 e))]
noncomputable def pick (G : Nat → Prop) : Nat → Int
  | 0 => -1
  | k + 1 => @ite _ (G k ∧ (pick G k < 0 ∨ pc k 9 < pc (pick G k).toNat 9)) (Classical.propDecidable _) (k : Int) (pick G k)
theorem pick_y {G : Nat → Prop} {k : Nat} (h : G k ∧ (pick G k < 0 ∨ pc k 9 < pc (pick G k).toNat 9)) : pick G (k + 1) = (k : Int) := @if_pos _ (Classical.propDecidable _) h _ _ _
theorem pick_n {G : Nat → Prop} {k : Nat} (h : ¬ (G k ∧ (pick G k < 0 ∨ pc k 9 < pc (pick G k).toNat 9))) : pick G (k + 1) = pick G k := @if_neg _ (Classical.propDecidable _) h _ _ _
theorem pick_bd (G : Nat → Prop) : ∀ k : Nat, -1 ≤ pick G k ∧ pick G k < (k : Int)
  | 0 => by
    show (-1 : Int) ≤ -1 ∧ (-1 : Int) < ((0 : Nat) : Int)
    omega
  | k + 1 => by
    have ih := pick_bd G k
    by_cases h : G k ∧ (pick G k < 0 ∨ pc k 9 < pc (pick G k).toNat 9)
    · rw [pick_y h]; omega
    · rw [pick_n h]; omega
theorem c_fewest {K : fM} {n T : Nat} (hn : n ≤ 9) (h17 : K 54 17 = n) (h18 : K 54 18 = ((2 ^ n : Nat) : Int)) (hT : K 4 14 = T) (hT6 : T ≤ 6) {F : Nat → Nat → Prop} (h65 : ∀ t m, t < T → m < 2 ^ n → K 65 (512 * t + m) = zt n (ind (F t)) m) : s_X7_fewestTuners_l40 K (-1, 0) = some (pick (fun team => Cvr n F team T (2 ^ n - 1)) (2 ^ T)) := by
  have p64 : 2 ^ T ≤ 2 ^ 6 := Nat.pow_le_pow_right (n := 2) (by decide) hT6
  unfold s_X7_fewestTuners_l40
  have := fLp_for (b := fun s : Int × Int => s_X7_fewestTuners_b40 K s.1 s.2) (fun i => (pick (fun team => Cvr n F team T (2 ^ n - 1)) i, (i : Int))) (2 ^ T) (e := pick (fun team => Cvr n F team T (2 ^ n - 1)) (2 ^ T)) (fun i hi => ?_) ?_
  · exact this
  · show s_X7_fewestTuners_b40 K (pick (fun team => Cvr n F team T (2 ^ n - 1)) i) (i : Int) = some (.inl (pick (fun team => Cvr n F team T (2 ^ n - 1)) (i + 1), ((i + 1 : Nat) : Int)))
    have hb := pick_bd (fun team => Cvr n F team T (2 ^ n - 1)) i
    obtain ⟨h1, h2⟩ := c_hasAll (K := K) hn h17 h18 hT hT6 h65 (team := i) (by omega)
    have hfi : fin ((i : Int) + 1) := by unfold fin; omega
    have j70 : (pick (fun team => Cvr n F team T (2 ^ n - 1)) i < 0 ∨ pc i 9 < pc (pick (fun team => Cvr n F team T (2 ^ n - 1)) i).toNat 9) → s_X7_fewestTuners_j70 K (pick (fun team => Cvr n F team T (2 ^ n - 1)) i) (i : Int) = some (.inl (pick (fun team => Cvr n F team T (2 ^ n - 1)) (i + 1), ((i + 1 : Nat) : Int))) := by
      intro hc
      unfold s_X7_fewestTuners_j70 s_X7_fewestTuners_j75
      rw [if_neg (by decide)]
      by_cases hG : Cvr n F i T (2 ^ n - 1)
      · rw [h1 hG, Option.bind_some, if_neg (by decide), if_pos hfi, pick_y (G := (fun team => Cvr n F team T (2 ^ n - 1))) (k := i) ⟨hG, hc⟩]
        rfl
      · rw [h2 hG, Option.bind_some, if_pos rfl, if_pos hfi, pick_n (G := (fun team => Cvr n F team T (2 ^ n - 1))) (k := i) (fun e => hG e.1)]
        rfl
    unfold s_X7_fewestTuners_b40
    rw [hT, b_shl T (by omega), if_neg (by omega)]
    by_cases hneg : pick (fun team => Cvr n F team T (2 ^ n - 1)) i < 0
    · rw [if_pos hneg]
      exact j70 (.inl hneg)
    · rw [if_neg hneg, c_bitc K (by omega), Option.bind_some]
      have hpn : pick (fun team => Cvr n F team T (2 ^ n - 1)) i = (((pick (fun team => Cvr n F team T (2 ^ n - 1)) i).toNat : Nat) : Int) := by omega
      have hbc : s_J6_bitCount K (pick (fun team => Cvr n F team T (2 ^ n - 1)) i) = some ((pc (pick (fun team => Cvr n F team T (2 ^ n - 1)) i).toNat 9 : Nat) : Int) := by
        have := c_bitc K (m := (pick (fun team => Cvr n F team T (2 ^ n - 1)) i).toNat) (by omega)
        rw [← hpn] at this
        exact this
      rw [hbc, Option.bind_some]
      by_cases hle : pc (pick (fun team => Cvr n F team T (2 ^ n - 1)) i).toNat 9 ≤ pc i 9
      · rw [if_pos (by omega)]
        unfold s_X7_fewestTuners_j75
        rw [if_pos rfl, if_pos hfi, pick_n (G := (fun team => Cvr n F team T (2 ^ n - 1))) (k := i) (fun e => by rcases e.2 with e | e <;> omega)]
        rfl
      · rw [if_neg (by omega)]
        exact j70 (.inr (by omega))
  · show s_X7_fewestTuners_b40 K _ ((2 ^ T : Nat) : Int) = _
    unfold s_X7_fewestTuners_b40
    rw [hT, b_shl T (by omega), if_pos (Int.le_refl _)]
theorem c_fest {K D : fM} (hc : CR K 0 D) (hw : WF D) {d : Int} (hd : 0 ≤ d ∧ d < 364) {r : Nat → Int} {n : Nat} (hn : n ≤ 9) (hr : ∀ i, i < n → 0 ≤ r i ∧ r i < D 4 13) (hp : PlC K D d r n) {T : Nat} (hT : D 4 14 = T) : ∃ K', s_X7_fewestTuners_l8 (0, K) = some K' ∧ CR K' 0 D ∧ PlC K' D d r n ∧ K' 1 = K 1 ∧ ∀ t m, t < T → m < 2 ^ n → K' 65 (512 * t + m) = zt n (ind (Feas (Sc.to D d r n (t : Int)))) m := by
  have h6 := hw.1.2.1
  have p512 : 2 ^ n ≤ 2 ^ 9 := Nat.pow_le_pow_right (n := 2) (by decide) hn
  unfold s_X7_fewestTuners_l8
  refine fLp_ex (P := fun i s => s.1 = (i : Int) ∧ CR s.2 0 D ∧ PlC s.2 D d r n ∧ s.2 1 = K 1 ∧ ∀ t m, t < i → m < 2 ^ n → s.2 65 (512 * t + m) = zt n (ind (Feas (Sc.to D d r n (t : Int)))) m) T ⟨rfl, hc, hp, rfl, fun t m h => by omega⟩ (fun i s hi hp => ?_) (fun s hp => ?_)
  · obtain ⟨z, Q⟩ := s
    obtain ⟨q1, q2, q3, q4, q5⟩ := hp
    simp only at q1 q2 q3 q4 q5
    subst q1
    have hi2 : (i : Int) < D 4 14 := by omega
    obtain ⟨A, g1, g2, g3, g4⟩ := c_homes q2 hw hd hn hr q3 (t := (i : Int)) (by omega) hi2
    have hS := to_ok hw hd hn hr (t := (i : Int)) (by omega) hi2
    have fg : fSame s_X7_fillHomes_mods Q A := s_X7_fillHomes_fr g1
    obtain ⟨B, b1, b2, b3, b4⟩ := c_ways (K := A) hn g2.2.1.2.1 g2.2.1.2.2 (F := Feas (Sc.to D d r n (i : Int))) (fun m hm => (H_feas hS g3 g4 hm).1) (t := i) (by omega)
    refine ⟨((i : Int) + 1, B), ?_, by simp, fun k h1 h2 => ?_, PlC_row g2.2.1 (b4 54 (by decide)) (b4 56 (by decide)) (b4 57 (by decide)) (b4 58 (by decide)) (b4 59 (by decide)), ?_, fun t m ht hm => ?_⟩
    · show s_X7_fewestTuners_b8 Q (i : Int) = _
      unfold s_X7_fewestTuners_b8
      rw [CR_r q2 4 (by decide) (by decide), if_neg (by omega), g1, Option.bind_some]
      show (s_X7_countWays A (i : Int)).bind _ = _
      rw [b1, Option.bind_some, if_pos (by unfold fin; omega)]
    · show B k = _
      rw [b4 k (by omega)]
      exact g2.1 k h1 h2
    · show B 1 = _
      rw [b4 1 (by decide), fs_row fg 1 (by decide), q4]
    · show B 65 (512 * t + m) = _
      by_cases e : t = i
      · subst e; exact b2 m hm
      · rw [b3 _ (by omega), fs_row fg 65 (by decide)]
        exact q5 t m (by omega) hm
  · obtain ⟨z, Q⟩ := s
    obtain ⟨q1, q2, q3, q4, q5⟩ := hp
    simp only at q1 q2 q3 q4 q5
    subst q1
    refine ⟨Q, ?_, q2, q3, q4, q5⟩
    show s_X7_fewestTuners_b8 Q (T : Int) = _
    unfold s_X7_fewestTuners_b8
    rw [CR_r q2 4 (by decide) (by decide), hT, if_pos (Int.le_refl _)]
