/-! ===== the reference's table of sets ===== -/
def tab144 (N : fM) (m l : Nat) : Int := N 144 (9 * m + l)
theorem SM_rows {N N' : fM} {S : Sc} (hN : SM N S) (h : ∀ a, a ≠ 143 → a ≠ 144 → N' a = N a) : SM N' S := by
  obtain ⟨h1, ⟨h2, h3⟩, h4, h5⟩ := hN
  refine ⟨MRh_row (h 124 (by decide) (by decide)) h1, ⟨fun i hi => ?_, ?_⟩, ?_, ?_⟩
  · rw [h 133 (by decide) (by decide), h 134 (by decide) (by decide), h 135 (by decide) (by decide), h 136 (by decide) (by decide), h 137 (by decide) (by decide)]
    exact h2 i hi
  · rw [h 122 (by decide) (by decide)]; exact h3
  · rw [h 122 (by decide) (by decide)]; exact h4
  · rw [h 122 (by decide) (by decide)]; exact h5
theorem m_soon {Q : fM} {S : Sc} (hS : S.ok) (hQ : SM Q S) (t is : Int) {m b l : Nat} (hm : m < 512) (hb : b < 2 ^ S.n) (hbm : b < m) (hl : l < S.n) (hT : ∀ i, Nat.testBit b i = true → 0 ≤ tab144 Q b i ∧ tab144 Q b i ≤ 1000000) (h0 : Q 144 (9 * m + l) = if b = 0 then dn S l (S.D 8 4 + wy S 9 l) else 1000000) : ∃ e, s_X12_sets_l111 t (m : Int) is (l : Int) (b : Int) (0, Q) = some e ∧ e 144 (9 * m + l) = tmin S (tab144 Q) b l ∧ (∀ x, x ≠ 9 * m + l → e 144 x = Q 144 x) ∧ ∀ a, a ≠ 144 → e a = Q a := by
  have hn := hS.2.1
  have p512 : 2 ^ S.n ≤ 2 ^ 9 := Nat.pow_le_pow_right (n := 2) (by decide) hn
  have hb9 : b < 512 := by omega
  unfold s_X12_sets_l111
  refine fLp_ex (P := fun k s => s.1 = (k : Int) ∧ s.2 144 (9 * m + l) = (if b = 0 then dn S l (S.D 8 4 + wy S 9 l) else minF (fun i => Nat.testBit b i = true ∧ tab144 Q b i < 1000000) (fun i => dn S l (tab144 Q b i + wy S i l)) k) ∧ (∀ x, x ≠ 9 * m + l → s.2 144 x = Q 144 x) ∧ ∀ a, a ≠ 144 → s.2 a = Q a) S.n ⟨rfl, h0, fun x _ => rfl, fun a _ => rfl⟩ (fun k s hk hp => ?_) (fun s hp => ?_)
  · obtain ⟨z, B⟩ := s
    obtain ⟨q1, q2, q3, q4⟩ := hp
    simp only at q1 q2 q3 q4
    subst q1
    have hB : SM B S := SM_rows hQ (fun a _ h => q4 a h)
    have h39 : B 122 39 = (S.n : Int) := hB.2.1.2
    have hfi : fin ((k : Int) + 1) := by unfold fin; omega
    cases hbit : Nat.testBit b k with
    | false =>
      refine ⟨((k : Int) + 1, B), ?_, by simp, ?_, q3, q4⟩
      · show s_X12_sets_b111 B t (m : Int) is (l : Int) (b : Int) (k : Int) = _
        unfold s_X12_sets_b111
        rw [h39, if_neg (by omega), b_test9 b hb9 k (by omega), hbit, if_pos (by decide), if_pos hfi]
      · show B 144 (9 * m + l) = _
        rw [q2]
        by_cases hb0 : b = 0
        · rw [if_pos hb0, if_pos hb0]
        · rw [if_neg hb0, if_neg hb0]
          show _ = if Nat.testBit b k = true ∧ tab144 Q b k < 1000000 then _ else _
          rw [if_neg (fun e => by rw [hbit] at e; exact absurd e.1 (by decide))]
    | true =>
      have hb0 : b ≠ 0 := fun e => by rw [e, Nat.zero_testBit] at hbit; exact absurd hbit (by decide)
      rw [if_neg hb0] at q2
      have hTk := hT k hbit
      have hrow : B 144 (9 * (b : Int) + (k : Int)).toNat = tab144 Q b k := by
        rw [show (9 * (b : Int) + (k : Int)).toNat = 9 * b + k by omega, q3 _ (by omega)]
        rfl
      have hrow2 : B 144 (9 * (m : Int) + (l : Int)).toNat = minF (fun i => Nat.testBit b i = true ∧ tab144 Q b i < 1000000) (fun i => dn S l (tab144 Q b i + wy S i l)) k := by
        rw [show (9 * (m : Int) + (l : Int)).toNat = 9 * m + l by omega, q2]
      generalize hv : minF (fun i => Nat.testBit b i = true ∧ tab144 Q b i < 1000000) (fun i => dn S l (tab144 Q b i + wy S i l)) k = v at q2 hrow2
      have hnx : minF (fun i => Nat.testBit b i = true ∧ tab144 Q b i < 1000000) (fun i => dn S l (tab144 Q b i + wy S i l)) (k + 1) = if Nat.testBit b k = true ∧ tab144 Q b k < 1000000 then (if dn S l (tab144 Q b k + wy S k l) < v then dn S l (tab144 Q b k + wy S k l) else v) else v := by rw [← hv]; rfl
      have g1 : fin (9 * (b : Int)) ∧ fin (9 * (b : Int) + (k : Int)) ∧ (0 ≤ 9 * (b : Int) + (k : Int) ∧ 9 * (b : Int) + (k : Int) < 4608) := by unfold fin; omega
      have g2 : fin (9 * (m : Int)) ∧ fin (9 * (m : Int) + (l : Int)) ∧ (0 ≤ 9 * (m : Int) + (l : Int) ∧ 9 * (m : Int) + (l : Int) < 4608) := by unfold fin; omega
      by_cases ht : tab144 Q b k < 1000000
      · have hwb := wy_bd hS (.inl hk : S.at k) (.inl hl : S.at l)
        have hdone : s_X12_done B (l : Int) (k : Int) (tab144 Q b k) = some (dn S l (tab144 Q b k + wy S k l)) := by
          have := m_done hS hB hl (.inl hk : S.at k) (t := tab144 Q b k) (by omega) (by omega)
          rwa [show ix k = (k : Int) from if_pos (by omega)] at this
        refine ⟨((k : Int) + 1, fup B 144 (9 * m + l) (if dn S l (tab144 Q b k + wy S k l) < v then dn S l (tab144 Q b k + wy S k l) else v)), ?_, by simp, ?_, fun x hx => ?_, fun a ha => ?_⟩
        · show s_X12_sets_b111 B t (m : Int) is (l : Int) (b : Int) (k : Int) = _
          unfold s_X12_sets_b111
          rw [h39, if_neg (by omega), b_test9 b hb9 k (by omega), hbit, if_neg (by decide), if_pos g1, hrow, if_pos ht, if_pos g1, hdone, Option.bind_some, if_pos g2, hrow2, show (9 * (m : Int) + (l : Int)).toNat = 9 * m + l by omega]
          by_cases hv2 : dn S l (tab144 Q b k + wy S k l) < v
          · rw [if_neg (by omega), if_pos ⟨g2.2.2, hfi⟩, if_pos hv2]
          · rw [if_pos (by omega), if_pos ⟨g2.1, g2.2.1, g2.2.2, hfi⟩, if_neg hv2]
        · show fup B 144 (9 * m + l) _ 144 (9 * m + l) = _
          rw [fup_eq, upd1_at, if_neg hb0, hnx, if_pos (show Nat.testBit b k = true ∧ tab144 Q b k < 1000000 from ⟨hbit, ht⟩)]
        · show fup B 144 (9 * m + l) _ 144 x = _
          rw [fup_eq, upd1_ne hx, q3 x hx]
        · show fup B 144 (9 * m + l) _ a = _
          rw [fup_ne ha, q4 a ha]
      · refine ⟨((k : Int) + 1, B), ?_, by simp, ?_, q3, q4⟩
        · show s_X12_sets_b111 B t (m : Int) is (l : Int) (b : Int) (k : Int) = _
          unfold s_X12_sets_b111
          rw [h39, if_neg (by omega), b_test9 b hb9 k (by omega), hbit, if_neg (by decide), if_pos g1, hrow, if_neg ht, if_pos hfi]
        · show B 144 (9 * m + l) = _
          rw [q2, if_neg hb0, hnx, if_neg (fun e => ht e.2)]
  · obtain ⟨z, B⟩ := s
    obtain ⟨q1, q2, q3, q4⟩ := hp
    simp only at q1 q2 q3 q4
    subst q1
    have hB : SM B S := SM_rows hQ (fun a _ h => q4 a h)
    have h39 : B 122 39 = (S.n : Int) := hB.2.1.2
    refine ⟨B, ?_, ?_, q3, q4⟩
    · show s_X12_sets_b111 B t (m : Int) is (l : Int) (b : Int) (S.n : Int) = _
      unfold s_X12_sets_b111
      rw [h39, if_pos (Int.le_refl _)]
    · rw [q2]
      rfl
def canT (S : Sc) (T : Nat → Nat → Int) (m i : Nat) : Prop := m = 0 ∨ ∃ l, l < i ∧ Nat.testBit m l = true ∧ tmin S T (mw m l) l + wy S l 9 ≤ S.D 8 5
theorem m_set {Q : fM} {S : Sc} (hS : S.ok) (hQ : SM Q S) (t : Int) {m : Nat} (hm : m < 2 ^ S.n) (hT : ∀ b i, b < m → Nat.testBit b i = true → 0 ≤ tab144 Q b i ∧ tab144 Q b i ≤ 1000000) : ∃ e, s_X12_sets_l30 t (m : Int) (if m = 0 then 1 else 0, 0, Q) = some e ∧ ((e.1 = 1 ∧ canT S (tab144 Q) m S.n) ∨ (e.1 = 0 ∧ ¬ canT S (tab144 Q) m S.n)) ∧ (∀ l, Nat.testBit m l = true → e.2 144 (9 * m + l) = tmin S (tab144 Q) (mw m l) l) ∧ (∀ x, x < 9 * m ∨ 9 * m + 9 ≤ x → e.2 144 x = Q 144 x) ∧ ∀ a, a ≠ 144 → e.2 a = Q a := by
  have hn := hS.2.1
  have p512 : 2 ^ S.n ≤ 2 ^ 9 := Nat.pow_le_pow_right (n := 2) (by decide) hn
  have hm9 : m < 512 := by omega
  have E0 := E_bd hS
  unfold s_X12_sets_l30
  refine fLp_ex (P := fun j s => ((s.1 = 1 ∧ canT S (tab144 Q) m j) ∨ (s.1 = 0 ∧ ¬ canT S (tab144 Q) m j)) ∧ s.2.1 = (j : Int) ∧ (∀ l, l < j → Nat.testBit m l = true → s.2.2 144 (9 * m + l) = tmin S (tab144 Q) (mw m l) l) ∧ (∀ x, x < 9 * m ∨ 9 * m + 9 ≤ x → s.2.2 144 x = Q 144 x) ∧ ∀ a, a ≠ 144 → s.2.2 a = Q a) S.n ⟨?_, rfl, fun l h => by omega, fun x _ => rfl, fun a _ => rfl⟩ (fun j s hj hp => ?_) (fun s hp => ?_)
  · by_cases h0 : m = 0
    · exact .inl ⟨if_pos h0, .inl h0⟩
    · refine .inr ⟨if_neg h0, ?_⟩
      rintro (e | ⟨l, h1, -⟩)
      · exact h0 e
      · omega
  · obtain ⟨is, z, B⟩ := s
    obtain ⟨q1, q2, q3, q4, q5⟩ := hp
    simp only at q1 q2 q3 q4 q5
    subst q2
    have hB : SM B S := SM_rows hQ (fun a _ h => q5 a h)
    have h39 : B 122 39 = (S.n : Int) := hB.2.1.2
    have hfi : fin ((j : Int) + 1) := by unfold fin; omega
    have g : fin (9 * (m : Int)) ∧ fin (9 * (m : Int) + (j : Int)) ∧ (0 ≤ 9 * (m : Int) + (j : Int) ∧ 9 * (m : Int) + (j : Int) < 4608) := by unfold fin; omega
    have gi : (9 * (m : Int) + (j : Int)).toNat = 9 * m + j := by omega
    cases hbit : Nat.testBit m j with
    | false =>
      have hcan : canT S (tab144 Q) m (j + 1) ↔ canT S (tab144 Q) m j := by
        unfold canT
        constructor
        · rintro (e | ⟨l, h1, h2, h3⟩)
          · exact .inl e
          · have : l ≠ j := fun e => by rw [e, hbit] at h2; exact absurd h2 (by decide)
            exact .inr ⟨l, by omega, h2, h3⟩
        · rintro (e | ⟨l, h1, h2, h3⟩)
          · exact .inl e
          · exact .inr ⟨l, by omega, h2, h3⟩
      refine ⟨(is, (j : Int) + 1, fup B 144 (9 * m + j) 1000000), ?_, ?_, by simp, fun l h1 h2 => ?_, fun x hx => ?_, fun a ha => ?_⟩
      · show s_X12_sets_b30 B t (m : Int) is (j : Int) = _
        unfold s_X12_sets_b30
        rw [h39, if_neg (by omega), if_pos g, b_test9 m hm9 j (by omega), hbit, if_neg (by decide), if_pos hfi, gi]
      · show (is = 1 ∧ _) ∨ (is = 0 ∧ _)
        rw [hcan]
        exact q1
      · have : l ≠ j := fun e => by rw [e, hbit] at h2; exact absurd h2 (by decide)
        show fup B 144 (9 * m + j) _ 144 (9 * m + l) = _
        rw [fup_eq, upd1_ne (by omega)]
        exact q3 l (by omega) h2
      · show fup B 144 (9 * m + j) _ 144 x = _
        rw [fup_eq, upd1_ne (by omega), q4 x hx]
      · show fup B 144 (9 * m + j) _ a = _
        rw [fup_ne ha, q5 a ha]
    | true =>
      obtain ⟨f1, f2, f3⟩ := mw_f9 m hm9 j (by omega)
      have f3' := f3 hbit
      have w9 := wy_bd hS (.inr rfl : S.at 9) (.inl hj : S.at j)
      have w9' := wy_bd hS (.inl hj : S.at j) (.inr rfl : S.at 9)
      -- the heap when the inner loop begins
      obtain ⟨A, hA, hA0, hA1⟩ : ∃ A : fM, s_X12_sets_b30 B t (m : Int) is (j : Int) = s_X12_sets_j108 A t (m : Int) is (j : Int) ((mw m j : Nat) : Int) ∧ A 144 (9 * m + j) = (if mw m j = 0 then dn S j (S.D 8 4 + wy S 9 j) else 1000000) ∧ (∀ x, x ≠ 9 * m + j → A 144 x = B 144 x) ∧ ∀ a, a ≠ 144 → A a = B a := by
        by_cases h0 : mw m j = 0
        · refine ⟨fup (fup B 144 (9 * m + j) 1000000) 144 (9 * m + j) (dn S j (S.D 8 4 + wy S 9 j)), ?_, ?_, fun x hx => ?_, fun a ha => ?_⟩
          · have hB2 : SM (fup B 144 (9 * m + j) 1000000) S := SM_rows hB (fun a _ h => fup_ne h)
            have hdone : s_X12_done (fup B 144 (9 * m + j) 1000000) (j : Int) (-1) (S.D 8 4) = some (dn S j (S.D 8 4 + wy S 9 j)) := m_done hS hB2 hj (.inr rfl : S.at 9) (t := S.D 8 4) (by omega) (by omega)
            have h170 : B 124 170 = S.D 8 4 := (mh_rule hB.1).2.2.2.2.1
            unfold s_X12_sets_b30
            rw [h39, if_neg (by omega), if_pos g, b_test9 m hm9 j (by omega), hbit, if_pos (by decide), f1, if_neg (by rw [h0]; decide), if_pos ⟨g.1, g.2.1⟩, gi, h170, hdone, Option.bind_some, if_pos g.2.2]
          · rw [fup_eq, upd1_at, if_pos h0]
          · rw [fup_eq, upd1_ne hx, fup_eq, upd1_ne hx]
          · rw [fup_ne ha, fup_ne ha]
        · refine ⟨fup B 144 (9 * m + j) 1000000, ?_, ?_, fun x hx => ?_, fun a ha => ?_⟩
          · unfold s_X12_sets_b30
            rw [h39, if_neg (by omega), if_pos g, b_test9 m hm9 j (by omega), hbit, if_pos (by decide), f1, if_pos (by omega), gi]
          · rw [fup_eq, upd1_at, if_neg h0]
          · rw [fup_eq, upd1_ne hx]
          · rw [fup_ne ha]
      obtain ⟨hA1, hA2⟩ := hA1
      have hSA : SM A S := SM_rows hB (fun a _ h => hA2 a h)
      have htab : ∀ i, Nat.testBit (mw m j) i = true → tab144 A (mw m j) i = tab144 Q (mw m j) i := fun i hi => by
        have hi9 := bit_lt (mw_lt hm hj) hi
        unfold tab144
        rw [hA1 _ (by omega)]
        exact q4 _ (.inl (by omega))
      obtain ⟨C, c1, c2, c3, c4⟩ := m_soon hS hSA t is hm9 (mw_lt hm hj) f3' hj (fun i hi => by rw [htab i hi]; exact hT _ i f3' hi) hA0
      rw [tmin_congr htab] at c2
      have hSC : SM C S := SM_rows hSA (fun a _ h => c4 a h)
      have htb := tmin_bd hS (T := tab144 Q) (m := mw m j) hj (fun i hi => hT _ i f3' hi)
      have h171 : C 124 171 = S.D 8 5 := (mh_rule hSC.1).2.2.2.2.2
      have hway : s_X12_way C (j : Int) (-1) = some (wy S j 9) := by
        have := m_way hS hSC (.inl hj : S.at j) (.inr rfl : S.at 9)
        rwa [show ix j = (j : Int) from if_pos (by omega)] at this
      have hrowC : C 144 (9 * (m : Int) + (j : Int)).toNat = tmin S (tab144 Q) (mw m j) j := by rw [gi, c2]
      have hrows : ∀ l, l < j + 1 → Nat.testBit m l = true → C 144 (9 * m + l) = tmin S (tab144 Q) (mw m l) l := fun l h1 h2 => by
        by_cases e : l = j
        · subst e; exact c2
        · rw [c3 _ (by omega), hA1 _ (by omega)]
          exact q3 l (by omega) h2
      have hout : ∀ x, x < 9 * m ∨ 9 * m + 9 ≤ x → C 144 x = Q 144 x := fun x hx => by
        rw [c3 _ (by omega), hA1 _ (by omega), q4 x hx]
      have hoth : ∀ a, a ≠ 144 → C a = Q a := fun a ha => by rw [c4 a ha, hA2 a ha, q5 a ha]
      rcases q1 with ⟨i1, i2⟩ | ⟨i1, i2⟩
      · refine ⟨(1, (j : Int) + 1, C), ?_, .inl ⟨rfl, ?_⟩, by simp, hrows, hout, hoth⟩
        · show s_X12_sets_b30 B t (m : Int) is (j : Int) = _
          rw [hA]
          unfold s_X12_sets_j108
          rw [c1, Option.bind_some, if_pos (by omega), if_pos hfi]
        · rcases i2 with e | ⟨l, h1, h2⟩
          · exact .inl e
          · exact .inr ⟨l, by omega, h2⟩
      · have hev : s_X12_sets_b30 B t (m : Int) is (j : Int) = if S.D 8 5 < tmin S (tab144 Q) (mw m j) j + wy S j 9 then some (.inl (0, (j : Int) + 1, C)) else some (.inl (1, (j : Int) + 1, C)) := by
          rw [hA]
          unfold s_X12_sets_j108
          rw [c1, Option.bind_some, if_neg (fun e => e i1), if_pos g, hway, Option.bind_some, hrowC, h171, if_pos (by unfold fin; omega)]
          simp only [if_pos hfi]
        by_cases hd : S.D 8 5 < tmin S (tab144 Q) (mw m j) j + wy S j 9
        · refine ⟨(0, (j : Int) + 1, C), ?_, .inr ⟨rfl, ?_⟩, by simp, hrows, hout, hoth⟩
          · show s_X12_sets_b30 B t (m : Int) is (j : Int) = _
            rw [hev, if_pos hd]
          · rintro (e | ⟨l, h1, h2, h3⟩)
            · exact i2 (.inl e)
            · by_cases e : l = j
              · subst e; omega
              · exact i2 (.inr ⟨l, by omega, h2, h3⟩)
        · refine ⟨(1, (j : Int) + 1, C), ?_, .inl ⟨rfl, .inr ⟨j, by omega, hbit, by omega⟩⟩, by simp, hrows, hout, hoth⟩
          show s_X12_sets_b30 B t (m : Int) is (j : Int) = _
          rw [hev, if_neg hd]
  · obtain ⟨is, z, B⟩ := s
    obtain ⟨q1, q2, q3, q4, q5⟩ := hp
    simp only at q1 q2 q3 q4 q5
    subst q2
    have hB : SM B S := SM_rows hQ (fun a _ h => q5 a h)
    have h39 : B 122 39 = (S.n : Int) := hB.2.1.2
    refine ⟨(is, B), ?_, q1, fun l hl => q3 l (bit_lt hm hl) hl, q4, q5⟩
    show s_X12_sets_b30 B t (m : Int) is (S.n : Int) = _
    unfold s_X12_sets_b30
    rw [h39, if_pos (Int.le_refl _)]
theorem can_feas {S : Sc} (hS : S.ok) {T : Nat → Nat → Int} (hT : TEq S T) {m : Nat} (hm : m < 2 ^ S.n) : canT S T m S.n ↔ Feas S m := by
  have E0 := E_bd hS
  have tk := fun l hl => T_ok hS hT (m + 1) m (by omega) hm l hl
  constructor
  · rintro (h | ⟨l, h1, h2, h3⟩)
    · subst h
      refine ⟨[], isSet_nil.2 rfl, ?_⟩
      show S.D 8 4 + wy S 9 9 ≤ _
      rw [wy_99]; omega
    · rw [← hT m l hm h2] at h3
      have hw := wy_bd hS (.inl h1 : S.at l) (.inr rfl : S.at 9)
      obtain ⟨-, b3, -⟩ := tk l h2
      rcases b3 with b | ⟨s, c1, c2⟩
      · omega
      · refine ⟨s, c1, ?_⟩
        rw [c2]
        exact h3
  · rintro ⟨s, hs, hh⟩
    by_cases hne : s = []
    · subst hne
      exact .inl (isSet_nil.1 hs)
    · obtain ⟨s', l, rfl⟩ : ∃ s' l, s = s' ++ [l] := ⟨s.dropLast, s.getLast hne, (List.dropLast_concat_getLast hne).symm⟩
      have hl : Nat.testBit m l = true := (hs.2 l).1 (by simp)
      have hln := bit_lt hm hl
      obtain ⟨-, -, b3⟩ := tk l hl
      have hle := b3 s' hs
      have hfst : (run S (p0 S) (s' ++ [l])).1 = l := by rw [run_snoc]; rfl
      unfold hmt at hh
      rw [hfst] at hh
      refine .inr ⟨l, hln, hl, ?_⟩
      rw [← hT m l hm hl]
      omega
def CanR (N : fM) (t : Nat) (S : Sc) : Prop := ∀ m, m < 2 ^ S.n → (Feas S m → N 143 (512 * t + m) = 1) ∧ (¬ Feas S m → N 143 (512 * t + m) = 0)
theorem m_sets {N D : fM} (hmr : MRh N 124 0 D) (hw : WF D) {d : Int} (hd : 0 ≤ d ∧ d < 364) {r : Nat → Int} {n : Nat} (hn : n ≤ 9) (hr : ∀ i, i < n → 0 ≤ r i ∧ r i < D 4 13) (hp : PlM N D d r n) {t : Nat} (h2 : (t : Int) < D 4 14) : ∃ N', s_X12_sets N (t : Int) = some ((), N') ∧ SM N' (Sc.to D d r n t) ∧ CanR N' t (Sc.to D d r n t) ∧ ∀ x, x < 512 * t ∨ 512 * t + 512 ≤ x → N' 143 x = N 143 x := by
  obtain ⟨B, b1, b2, b3⟩ := m_home hmr hw hp (t := (t : Int)) (by omega) h2
  have hS := to_ok hw hd hn hr (t := (t : Int)) (by omega) h2
  have sn : (Sc.to D d r n t).n = n := rfl
  have hB143 : B 143 = N 143 := by rw [b3, fup_ne (by decide), fup_ne (by decide)]
  have ht6 := hw.1.2.1
  generalize Sc.to D d r n t = S at b2 hS sn
  subst sn
  have E0 := E_bd hS
  have p512 : 2 ^ S.n ≤ 2 ^ 9 := Nat.pow_le_pow_right (n := 2) (by decide) hn
  have key : ∃ e, s_X12_sets_l7 (t : Int) (0, B) = some e ∧ (SM e S ∧ CanR e t S ∧ ∀ x, x < 512 * t ∨ 512 * t + 512 ≤ x → e 143 x = N 143 x) := by
    unfold s_X12_sets_l7
    refine fLp_ex (P := fun i s => s.1 = (i : Int) ∧ SM s.2 S ∧ (∀ m l, m < i → Nat.testBit m l = true → tab144 s.2 m l = tmin S (tab144 s.2) (mw m l) l ∧ 0 ≤ tab144 s.2 m l ∧ tab144 s.2 m l ≤ 1000000) ∧ (∀ m, m < i → (s.2 143 (512 * t + m) = 1 ∧ canT S (tab144 s.2) m S.n) ∨ (s.2 143 (512 * t + m) = 0 ∧ ¬ canT S (tab144 s.2) m S.n)) ∧ ∀ x, x < 512 * t ∨ 512 * t + 512 ≤ x → s.2 143 x = N 143 x) (2 ^ S.n) ⟨rfl, b2, fun m l h => by omega, fun m h => by omega, fun x _ => by show B 143 x = _; rw [hB143]⟩ (fun i s hi hp => ?_) (fun s hp => ?_)
    · obtain ⟨z, Q⟩ := s
      obtain ⟨q1, q2, q3, q4, q5⟩ := hp
      simp only at q1 q2 q3 q4 q5
      subst q1
      obtain ⟨⟨is, C⟩, a1, a2, a3, a4, a5⟩ := m_set hS q2 (t : Int) hi (fun b j h1 h2 => (q3 b j h1 h2).2)
      simp only at a2 a3 a4 a5
      have h39 : Q 122 39 = (S.n : Int) := q2.2.1.2
      have hb01 : b01 is := by
        rcases a2 with ⟨e, -⟩ | ⟨e, -⟩
        · exact .inr e
        · exact .inl e
      have old : ∀ m l, m < i → Nat.testBit m l = true → tab144 (fup C 143 (512 * t + i) is) m l = tab144 Q m l := fun m l h1 h2 => by
        have := bit_lt (Nat.lt_trans h1 hi) h2
        unfold tab144
        rw [fup_ne (by decide)]
        exact a4 _ (.inl (by omega))
      have tm : ∀ m l, m < i + 1 → Nat.testBit m l = true → tmin S (tab144 (fup C 143 (512 * t + i) is)) (mw m l) l = tmin S (tab144 Q) (mw m l) l := fun m l h1 h2 => by
        have hln := bit_lt (show m < 2 ^ S.n by omega) h2
        have := (mw_f9 m (by omega) l (by omega)).2.2 h2
        exact tmin_congr (fun x hx => old _ x (by omega) hx)
      have cc : ∀ m, m < i + 1 → (canT S (tab144 (fup C 143 (512 * t + i) is)) m S.n ↔ canT S (tab144 Q) m S.n) := fun m h1 => by
        unfold canT
        constructor
        · rintro (e | ⟨l, e1, e2, e3⟩)
          · exact .inl e
          · exact .inr ⟨l, e1, e2, by rw [← tm m l h1 e2]; exact e3⟩
        · rintro (e | ⟨l, e1, e2, e3⟩)
          · exact .inl e
          · exact .inr ⟨l, e1, e2, by rw [tm m l h1 e2]; exact e3⟩
      refine ⟨((i : Int) + 1, fup C 143 (512 * t + i) is), ?_, by simp, SM_rows q2 (fun a h1 h2 => ?_), fun m l h1 h2 => ?_, fun m h1 => ?_, fun x hx => ?_⟩
      · show s_X12_sets_b7 Q (t : Int) (i : Int) = _
        have hj26 : s_X12_sets_j26 Q (t : Int) (i : Int) (if i = 0 then 1 else 0) = some (.inl ((i : Int) + 1, fup C 143 (512 * t + i) is)) := by
          unfold s_X12_sets_j26
          rw [a1, Option.bind_some]
          rw [if_pos (show fin (512 * (t : Int)) ∧ fin (512 * (t : Int) + (i : Int)) ∧ (0 ≤ 512 * (t : Int) + (i : Int) ∧ 512 * (t : Int) + (i : Int) < 3072) ∧ b01 ((is, C) : Int × fM).1 ∧ fin ((i : Int) + 1) from ⟨by unfold fin; omega, by unfold fin; omega, by omega, hb01, by unfold fin; omega⟩), show (512 * (t : Int) + (i : Int)).toNat = 512 * t + i by omega]
        unfold s_X12_sets_b7
        rw [h39, b_shl S.n (by omega), if_neg (by omega)]
        by_cases h0 : i = 0
        · rw [if_neg (by omega)]
          rw [if_pos h0] at hj26
          exact hj26
        · rw [if_pos (by omega)]
          rw [if_neg h0] at hj26
          exact hj26
      · show fup C 143 _ is a = _
        rw [fup_ne h1, a5 a h2]
      · show tab144 (fup C 143 (512 * t + i) is) m l = _ ∧ 0 ≤ tab144 (fup C 143 (512 * t + i) is) m l ∧ tab144 (fup C 143 (512 * t + i) is) m l ≤ 1000000
        rw [tm m l h1 h2]
        have hln := bit_lt (show m < 2 ^ S.n by omega) h2
        have hmw := (mw_f9 m (by omega) l (by omega)).2.2 h2
        by_cases e : m = i
        · subst e
          have e2 : tab144 (fup C 143 (512 * t + m) is) m l = tmin S (tab144 Q) (mw m l) l := by
            show fup C 143 _ is 144 (9 * m + l) = _
            rw [fup_ne (by decide), a3 l h2]
          rw [e2]
          exact ⟨rfl, tmin_bd hS hln (fun x hx => (q3 _ x hmw hx).2)⟩
        · rw [old m l (by omega) h2]
          exact q3 m l (by omega) h2
      · rw [cc m h1]
        show (fup C 143 (512 * t + i) is 143 (512 * t + m) = 1 ∧ _) ∨ (fup C 143 (512 * t + i) is 143 (512 * t + m) = 0 ∧ _)
        rw [fup_eq]
        by_cases e : m = i
        · subst e
          rw [upd1_at]
          exact a2
        · rw [upd1_ne (by omega), a5 143 (by decide)]
          exact q4 m (by omega)
      · show fup C 143 (512 * t + i) is 143 x = _
        rw [fup_eq, upd1_ne (by omega), a5 143 (by decide), q5 x hx]
    · obtain ⟨z, Q⟩ := s
      obtain ⟨q1, q2, q3, q4, q5⟩ := hp
      simp only at q1 q2 q3 q4 q5
      subst q1
      have h39 : Q 122 39 = (S.n : Int) := q2.2.1.2
      have hTE : TEq S (tab144 Q) := fun m l h1 h2 => (q3 m l h1 h2).1
      refine ⟨Q, ?_, q2, fun m hm => ?_, q5⟩
      · show s_X12_sets_b7 Q (t : Int) ((2 ^ S.n : Nat) : Int) = _
        unfold s_X12_sets_b7
        rw [h39, b_shl S.n (by omega), if_pos (Int.le_refl _)]
      · rcases q4 m hm with ⟨e1, e2⟩ | ⟨e1, e2⟩
        · exact ⟨fun _ => e1, fun h => absurd ((can_feas hS hTE hm).1 e2) h⟩
        · exact ⟨fun h => absurd ((can_feas hS hTE hm).2 h) e2, fun _ => e1⟩
  obtain ⟨N', k1, k2⟩ := key
  refine ⟨N', ?_, k2⟩
  unfold s_X12_sets
  rw [b1, Option.bind_some]
  show (s_X12_sets_l7 (t : Int) (0, B)).bind _ = _
  rw [k1]
  rfl
