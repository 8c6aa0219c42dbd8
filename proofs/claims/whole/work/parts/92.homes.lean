/-! ===== the class's tables of homes and weights ===== -/
def tab62 (K : fM) (m l : Nat) : Int := K 62 (m * 9 + l)
theorem tmin_bd {S : Sc} (hS : S.ok) {T : Nat → Nat → Int} {m l : Nat} (hl : l < S.n) (hT : ∀ i, Nat.testBit m i = true → 0 ≤ T m i ∧ T m i ≤ 1000000) : 0 ≤ tmin S T m l ∧ tmin S T m l ≤ 1000000 := by
  have E0 := E_bd hS
  have w9 := wy_bd hS (.inr rfl : S.at 9) (.inl hl : S.at l)
  unfold tmin
  split
  · rcases dn_bd hS hl (show 0 ≤ S.D 8 4 + wy S 9 l by omega) with f | f <;> omega
  · refine ⟨?_, minF_le1 _ _ _⟩
    rcases minF_at (fun i => Nat.testBit m i = true ∧ T m i < 1000000) (fun i => dn S l (T m i + wy S i l)) S.n with f | ⟨i, h1, h2, h3⟩
    · rw [f]; decide
    · rw [h3]
      have := hT i h2.1
      have := wy_bd hS (.inl h1 : S.at i) (.inl hl : S.at l)
      show 0 ≤ dn S l _
      rcases dn_bd hS hl (show 0 ≤ T m i + wy S i l by omega) with f | f <;> omega
theorem tmin_congr {S : Sc} {T T' : Nat → Nat → Int} {m l : Nat} (h : ∀ i, Nat.testBit m i = true → T m i = T' m i) : tmin S T m l = tmin S T' m l := by
  unfold tmin
  split
  · rfl
  · refine minF_congr S.n (fun i _ => ⟨⟨fun e => ⟨e.1, by rw [← h i e.1]; exact e.2⟩, fun e => ⟨e.1, by rw [h i e.1]; exact e.2⟩⟩, fun e => by show dn S l _ = dn S l _; rw [h i e.1]⟩)
theorem c_soon {K : fM} {S : Sc} (hS : S.ok) (hK : SC K S) {m l : Nat} (hm : m < 2 ^ S.n) (hl : l < S.n) (hT : ∀ i, Nat.testBit m i = true → 0 ≤ tab62 K m i ∧ tab62 K m i ≤ 1000000) : s_X7_soonestDone K (m : Int) (l : Int) = some (tmin S (tab62 K) m l) := by
  have hn := hS.2.1
  have E0 := E_bd hS
  have hm9 : m < 512 := Nat.lt_of_lt_of_le hm (Nat.pow_le_pow_right (by decide) hn)
  have w9 := wy_bd hS (.inr rfl : S.at 9) (.inl hl : S.at l)
  unfold s_X7_soonestDone tmin
  by_cases h0 : m = 0
  · rw [if_neg (by omega), if_pos h0, show (9 : Int) = ((9 : Nat) : Int) from rfl, c_minutes hS hK (.inr rfl) (.inl hl), Option.bind_some, CR_r hK.1 8 (by decide) (by decide), if_pos (by unfold fin; omega), c_doneAt hS hK hl (by omega) (by omega)]
    rfl
  · rw [if_pos (by omega), if_neg h0]
    have h17 : K 54 17 = (S.n : Int) := hK.2.1.2.1
    have key : s_X7_soonestDone_l33 K (m : Int) (l : Int) (1000000, 0) = some (minF (fun i => Nat.testBit m i = true ∧ tab62 K m i < 1000000) (fun i => dn S l (tab62 K m i + wy S i l)) S.n) := by
      unfold s_X7_soonestDone_l33
      have := fLp_for (b := fun s : Int × Int => s_X7_soonestDone_b33 K (m : Int) (l : Int) s.1 s.2) (fun i => (minF (fun i => Nat.testBit m i = true ∧ tab62 K m i < 1000000) (fun i => dn S l (tab62 K m i + wy S i l)) i, (i : Int))) S.n (e := minF (fun i => Nat.testBit m i = true ∧ tab62 K m i < 1000000) (fun i => dn S l (tab62 K m i + wy S i l)) S.n) (fun i hi => ?_) ?_
      · exact this
      · show s_X7_soonestDone_b33 K (m : Int) (l : Int) (minF (fun i => Nat.testBit m i = true ∧ tab62 K m i < 1000000) (fun i => dn S l (tab62 K m i + wy S i l)) i) (i : Int) = some (.inl (minF (fun i => Nat.testBit m i = true ∧ tab62 K m i < 1000000) (fun i => dn S l (tab62 K m i + wy S i l)) (i + 1), ((i + 1 : Nat) : Int)))
        generalize hv : minF (fun i => Nat.testBit m i = true ∧ tab62 K m i < 1000000) (fun i => dn S l (tab62 K m i + wy S i l)) i = v
        have hnx : minF (fun i => Nat.testBit m i = true ∧ tab62 K m i < 1000000) (fun i => dn S l (tab62 K m i + wy S i l)) (i + 1) = if Nat.testBit m i = true ∧ tab62 K m i < 1000000 then (if dn S l (tab62 K m i + wy S i l) < v then dn S l (tab62 K m i + wy S i l) else v) else v := by rw [← hv]; rfl
        rw [hnx]
        have hfi : fin ((i : Int) + 1) := by unfold fin; omega
        have hrow : K 62 ((m : Int) * 9 + (i : Int)).toNat = tab62 K m i := by
          unfold tab62
          rw [show ((m : Int) * 9 + (i : Int)).toNat = m * 9 + i by omega]
        unfold s_X7_soonestDone_b33
        rw [h17, if_neg (by omega), b_test9 m hm9 i (by omega), if_pos hfi, hrow]
        cases hb : Nat.testBit m i with
        | false =>
          rw [if_pos (by decide), if_neg (fun e => absurd e.1 (by decide))]
          rfl
        | true =>
          have hTi := hT i hb
          have hgd : fin ((m : Int) * 9) ∧ fin ((m : Int) * 9 + (i : Int)) ∧ (0 ≤ (m : Int) * 9 + (i : Int) ∧ (m : Int) * 9 + (i : Int) < 4608) := by unfold fin; omega
          rw [if_neg (by decide), if_pos hgd]
          by_cases ht : tab62 K m i < 1000000
          · have hwb := wy_bd hS (.inl hi : S.at i) (.inl hl : S.at l)
            rw [if_neg (by omega), if_pos hgd, if_pos (show true = true ∧ tab62 K m i < 1000000 from ⟨rfl, ht⟩), c_minutes hS hK (.inl hi) (.inl hl), Option.bind_some, if_pos (show fin (tab62 K m i + wy S i l) by unfold fin; omega), c_doneAt hS hK hl (by omega) (by omega), Option.bind_some, c_min, Option.bind_some, if_pos hfi]
            rfl
          · rw [if_pos (by omega), if_neg (fun e => ht e.2)]
            rfl
      · show s_X7_soonestDone_b33 K (m : Int) (l : Int) _ (S.n : Int) = _
        unfold s_X7_soonestDone_b33
        rw [h17, if_pos (Int.le_refl _)]
    rw [key]
    rfl
theorem SC_rows {K K' : fM} {S : Sc} (hK : SC K S) (h : ∀ a, a ≠ 62 → a ≠ 63 → K' a = K a) : SC K' S := by
  obtain ⟨h1, ⟨h2, h3, h4⟩, h5, h6⟩ := hK
  refine ⟨fun k a b => ?_, ⟨fun i hi => ?_, ?_, ?_⟩, ?_, ?_⟩
  · show K' k = _
    rw [h k (by omega) (by omega)]
    exact h1 k a b
  · rw [h 56 (by decide) (by decide), h 57 (by decide) (by decide), h 58 (by decide) (by decide), h 59 (by decide) (by decide)]
    exact h2 i hi
  · rw [h 54 (by decide) (by decide)]; exact h3
  · rw [h 54 (by decide) (by decide)]; exact h4
  · rw [h 56 (by decide) (by decide)]; exact h5
  · rw [h 57 (by decide) (by decide)]; exact h6
theorem c_homes {K D : fM} (hc : CR K 0 D) (hw : WF D) {d : Int} (hd : 0 ≤ d ∧ d < 364) {r : Nat → Int} {n : Nat} (hn : n ≤ 9) (hr : ∀ i, i < n → 0 ≤ r i ∧ r i < D 4 13) (hp : PlC K D d r n) {t : Int} (h1 : 0 ≤ t) (h2 : t < D 4 14) : ∃ K', s_X7_fillHomes K t = some ((), K') ∧ SC K' (Sc.to D d r n t) ∧ TEq (Sc.to D d r n t) (tab62 K') ∧ HEq (Sc.to D d r n t) (tab62 K') (K' 63) := by
  obtain ⟨B, b1, b2, -⟩ := c_home hc hw hn hp h1 h2
  have hS := to_ok hw hd hn hr h1 h2
  have sn : (Sc.to D d r n t).n = n := rfl
  generalize Sc.to D d r n t = S at b2 hS sn
  subst sn
  have E0 := E_bd hS
  have h8 : B 8 = S.D 8 := CR_r b2.1 8 (by decide) (by decide)
  have p512 : 2 ^ S.n ≤ 512 := Nat.pow_le_pow_right (n := 2) (by decide) hn
  generalize hA : fup B 63 0 (B 8 4) = A
  have hSA : SC A S := SC_rows b2 (fun a _ h => by rw [← hA, fup_ne h])
  have hA0 : A 63 0 = S.D 8 4 := by rw [← hA, fup_eq, upd1_at, h8]
  -- one mask
  have inner : ∀ (m : Nat) (K0 : fM), m < 2 ^ S.n → SC K0 S → (∀ m' i, m' < m → Nat.testBit m' i = true → 0 ≤ tab62 K0 m' i ∧ tab62 K0 m' i ≤ 1000000) → ∃ e, s_X7_fillHomes_l36 (m : Int) (1000000, 0, K0) = some e ∧ e.1 = minF (fun l => Nat.testBit m l = true) (fun l => tmin S (tab62 K0) (mw m l) l + wy S l 9) S.n ∧ (∀ l, Nat.testBit m l = true → tab62 e.2 m l = tmin S (tab62 K0) (mw m l) l) ∧ (∀ x, x < m * 9 ∨ m * 9 + 9 ≤ x → e.2 62 x = K0 62 x) ∧ ∀ a, a ≠ 62 → e.2 a = K0 a := by
    intro m K0 hm hK0 hT
    have hm9 : m < 512 := Nat.lt_of_lt_of_le hm p512
    unfold s_X7_fillHomes_l36
    refine fLp_ex (P := fun j s => s.1 = minF (fun l => Nat.testBit m l = true) (fun l => tmin S (tab62 K0) (mw m l) l + wy S l 9) j ∧ s.2.1 = (j : Int) ∧ (∀ l, l < j → Nat.testBit m l = true → tab62 s.2.2 m l = tmin S (tab62 K0) (mw m l) l) ∧ (∀ x, x < m * 9 ∨ m * 9 + 9 ≤ x → s.2.2 62 x = K0 62 x) ∧ ∀ a, a ≠ 62 → s.2.2 a = K0 a) S.n ⟨rfl, rfl, fun l h => by omega, fun x _ => rfl, fun a _ => rfl⟩ (fun j s hj hp => ?_) (fun s hp => ?_)
    · obtain ⟨v, l, K⟩ := s
      obtain ⟨q1, q2, q3, q4, q5⟩ := hp
      simp only at q1 q2 q3 q4 q5
      subst q2
      have hK : SC K S := SC_rows hK0 (fun a h _ => q5 a h)
      have h17 : K 54 17 = (S.n : Int) := hK.2.1.2.1
      have hnx : minF (fun l => Nat.testBit m l = true) (fun l => tmin S (tab62 K0) (mw m l) l + wy S l 9) (j + 1) = if Nat.testBit m j = true then (if tmin S (tab62 K0) (mw m j) j + wy S j 9 < v then tmin S (tab62 K0) (mw m j) j + wy S j 9 else v) else v := by rw [q1]; rfl
      have hfi : fin ((j : Int) + 1) := by unfold fin; omega
      cases hb : Nat.testBit m j with
      | false =>
        refine ⟨(v, (j : Int) + 1, K), ?_, ?_, by simp, fun l h1 h2 => ?_, q4, q5⟩
        · show s_X7_fillHomes_b36 K (m : Int) v (j : Int) = _
          unfold s_X7_fillHomes_b36
          rw [h17, if_neg (by omega), b_test9 m hm9 j (by omega), hb, if_pos (by decide), if_pos hfi]
        · show v = _
          rw [hnx, hb, if_neg (by decide)]
        · refine q3 l ?_ h2
          have : l ≠ j := fun e => by rw [e, hb] at h2; exact absurd h2 (by decide)
          omega
      | true =>
        obtain ⟨f1, f2, f3⟩ := mw_f9 m hm9 j (by omega)
        have f3' := f3 hb
        have hTj : ∀ i, Nat.testBit (mw m j) i = true → tab62 K (mw m j) i = tab62 K0 (mw m j) i := fun i hi => by
          have hi9 := bit_lt (mw_lt hm (by omega)) hi
          unfold tab62
          exact q4 _ (.inl (by omega))
        have hTb : ∀ i, Nat.testBit (mw m j) i = true → 0 ≤ tab62 K0 (mw m j) i ∧ tab62 K0 (mw m j) i ≤ 1000000 := fun i hi => hT (mw m j) i f3' hi
        have hsoon := c_soon hS hK (m := mw m j) (l := j) (mw_lt hm hj) hj (fun i hi => by rw [hTj i hi]; exact hTb i hi)
        rw [tmin_congr (T' := tab62 K0) hTj] at hsoon
        have htb := tmin_bd hS (T := tab62 K0) (m := mw m j) hj hTb
        have hw9 := wy_bd hS (.inl hj : S.at j) (.inr rfl : S.at 9)
        have hK2 : SC (fup K 62 (m * 9 + j) (tmin S (tab62 K0) (mw m j) j)) S := SC_rows hK (fun a h _ => fup_ne h)
        refine ⟨(if tmin S (tab62 K0) (mw m j) j + wy S j 9 < v then tmin S (tab62 K0) (mw m j) j + wy S j 9 else v, (j : Int) + 1, fup K 62 (m * 9 + j) (tmin S (tab62 K0) (mw m j) j)), ?_, ?_, by simp, fun l h1 h2 => ?_, fun x hx => ?_, fun a ha => ?_⟩
        · show s_X7_fillHomes_b36 K (m : Int) v (j : Int) = _
          unfold s_X7_fillHomes_b36
          rw [h17, if_neg (by omega), b_test9 m hm9 j (by omega), hb, if_neg (by decide), f1, hsoon, Option.bind_some, if_pos (by unfold fin; omega), show ((m : Int) * 9 + (j : Int)).toNat = m * 9 + j by omega, show (9 : Int) = ((9 : Nat) : Int) from rfl, c_minutes hS hK2 (.inl hj) (.inr rfl), Option.bind_some, if_pos (by unfold fin; omega), c_min, Option.bind_some, if_pos hfi]
        · show (if _ then _ else _) = _
          rw [hnx, hb, if_pos rfl]
        · show fup K 62 (m * 9 + j) _ 62 (m * 9 + l) = _
          rw [fup_eq]
          unfold upd1
          by_cases e : l = j
          · subst e; rw [if_pos rfl]
          · rw [if_neg (by omega)]
            exact q3 l (by omega) h2
        · show fup K 62 (m * 9 + j) _ 62 x = _
          rw [fup_eq, upd1_ne (by omega)]
          exact q4 x hx
        · show fup K 62 (m * 9 + j) _ a = _
          rw [fup_ne ha, q5 a ha]
    · obtain ⟨v, l, K⟩ := s
      obtain ⟨q1, q2, q3, q4, q5⟩ := hp
      simp only at q1 q2 q3 q4 q5
      subst q2
      have hK : SC K S := SC_rows hK0 (fun a h _ => q5 a h)
      have h17 : K 54 17 = (S.n : Int) := hK.2.1.2.1
      refine ⟨(v, K), ?_, q1, fun l hl => q3 l (bit_lt hm hl) hl, q4, q5⟩
      show s_X7_fillHomes_b36 K (m : Int) v (S.n : Int) = _
      unfold s_X7_fillHomes_b36
      rw [h17, if_pos (Int.le_refl _)]
  have p1 : 1 ≤ 2 ^ S.n := Nat.one_le_two_pow
  have key : ∃ e, s_X7_fillHomes_l22 (1, A) = some e ∧ (SC e S ∧ TEq S (tab62 e) ∧ HEq S (tab62 e) (e 63)) := by
    unfold s_X7_fillHomes_l22
    refine fLp_ex (P := fun i s => s.1 = (i : Int) + 1 ∧ SC s.2 S ∧ (∀ m l, m < i + 1 → Nat.testBit m l = true → tab62 s.2 m l = tmin S (tab62 s.2) (mw m l) l ∧ 0 ≤ tab62 s.2 m l ∧ tab62 s.2 m l ≤ 1000000) ∧ s.2 63 0 = S.D 8 4 ∧ ∀ m, m < i + 1 → m ≠ 0 → s.2 63 m = if S.D 8 5 < minF (fun l => Nat.testBit m l = true) (fun l => tab62 s.2 m l + wy S l 9) S.n then 1000000 else minF (fun l => Nat.testBit m l = true) (fun l => tab62 s.2 m l + wy S l 9) S.n) (2 ^ S.n - 1) ⟨rfl, hSA, fun m l h hb => ?_, hA0, fun m h h0 => by omega⟩ (fun i s hi hp => ?_) (fun s hp => ?_)
    · have : m = 0 := by omega
      subst this
      rw [Nat.zero_testBit] at hb
      exact absurd hb (by decide)
    · obtain ⟨l, K⟩ := s
      obtain ⟨q1, q2, q3, q4, q5⟩ := hp
      simp only at q1 q2 q3 q4 q5
      have q1' : l = ((i + 1 : Nat) : Int) := by omega
      subst q1'
      obtain ⟨⟨v, Q⟩, a1, a2, a3, a4, a5⟩ := inner (i + 1) K (by omega) q2 (fun m' j h1 h2 => (q3 m' j h1 h2).2)
      simp only at a2 a3 a4 a5
      have h18 : K 54 18 = ((2 ^ S.n : Nat) : Int) := q2.2.1.2.2
      have hQ8 : Q 8 = S.D 8 := by rw [a5 8 (by decide)]; exact CR_r q2.1 8 (by decide) (by decide)
      have old : ∀ (z : Int) (m j : Nat), m < i + 1 → j < 9 → tab62 (fup Q 63 (i + 1) z) m j = tab62 K m j := fun z m j hm hj => by
        unfold tab62
        rw [fup_ne (by decide)]
        exact a4 _ (.inl (by omega))
      have new : ∀ (z : Int) (j : Nat), tab62 (fup Q 63 (i + 1) z) (i + 1) j = tab62 Q (i + 1) j := fun z j => by
        unfold tab62
        rw [fup_ne (by decide)]
      obtain ⟨z, hz⟩ : ∃ z, z = if S.D 8 5 < v then 1000000 else v := ⟨_, rfl⟩
      have hi2 : i + 1 < 2 ^ S.n := by omega
      have hi512 : i + 1 < 512 := by omega
      have tnew : ∀ j, Nat.testBit (i + 1) j = true → tab62 (fup Q 63 (i + 1) z) (i + 1) j = tmin S (tab62 (fup Q 63 (i + 1) z)) (mw (i + 1) j) j ∧ tmin S (tab62 (fup Q 63 (i + 1) z)) (mw (i + 1) j) j = tmin S (tab62 K) (mw (i + 1) j) j := by
        intro j hj
        have hjn := bit_lt hi2 hj
        have hml := (mw_f9 (i + 1) hi512 j (by omega)).2.2 hj
        have e : tmin S (tab62 (fup Q 63 (i + 1) z)) (mw (i + 1) j) j = tmin S (tab62 K) (mw (i + 1) j) j := tmin_congr (fun x hx => old z _ x hml (by have := bit_lt (mw_lt hi2 hjn) hx; omega))
        rw [new, a3 j hj, e]
        exact ⟨rfl, rfl⟩
      refine ⟨(((i + 1 : Nat) : Int) + 1, fup Q 63 (i + 1) z), ?_, by simp, SC_rows q2 (fun a h1 h2 => ?_), fun m l hm hb => ?_, ?_, fun m hm h0 => ?_⟩
      · show s_X7_fillHomes_b22 K ((i + 1 : Nat) : Int) = _
        unfold s_X7_fillHomes_b22
        rw [h18, if_neg (by omega), a1, Option.bind_some]
        show (if Q 8 5 < v then _ else _) = _
        rw [hQ8, show ((i + 1 : Nat) : Int).toNat = i + 1 from rfl, if_pos (show (0 ≤ ((i + 1 : Nat) : Int) ∧ ((i + 1 : Nat) : Int) < 512) ∧ fin (((i + 1 : Nat) : Int) + 1) by unfold fin; omega)]
        by_cases hv : S.D 8 5 < v
        · rw [if_pos hv, hz, if_pos hv]
        · rw [if_neg hv, if_pos (show (0 ≤ ((i + 1 : Nat) : Int) ∧ ((i + 1 : Nat) : Int) < 512) ∧ fin (((i + 1 : Nat) : Int) + 1) by unfold fin; omega), hz, if_neg hv]
      · show fup Q 63 (i + 1) z a = _
        rw [fup_ne h2, a5 a h1]
      · show tab62 (fup Q 63 (i + 1) z) m l = _ ∧ 0 ≤ tab62 (fup Q 63 (i + 1) z) m l ∧ tab62 (fup Q 63 (i + 1) z) m l ≤ 1000000
        by_cases e : m = i + 1
        · subst e
          obtain ⟨t1, t2⟩ := tnew l hb
          have hln := bit_lt hi2 hb
          have hml := (mw_f9 (i + 1) hi512 l (by omega)).2.2 hb
          have bd := tmin_bd hS (T := tab62 K) (m := mw (i + 1) l) hln (fun x hx => (q3 _ x hml hx).2)
          refine ⟨t1, ?_⟩
          rw [t1, t2]
          exact bd
        · have hm2 : m < 2 ^ S.n := by omega
          have hln := bit_lt hm2 hb
          have hml := (mw_f9 m (by omega) l (by omega)).2.2 hb
          obtain ⟨c1, c2⟩ := q3 m l (by omega) hb
          rw [old z m l (by omega) (by omega)]
          refine ⟨?_, c2⟩
          rw [c1]
          exact (tmin_congr (fun x hx => old z _ x (by omega) (by have := bit_lt (mw_lt hm2 hln) hx; omega))).symm
      · show fup Q 63 (i + 1) z 63 0 = _
        rw [fup_eq, upd1_ne (by omega), a5 63 (by decide), q4]
      · show fup Q 63 (i + 1) z 63 m = _
        by_cases e : m = i + 1
        · subst e
          have e2 : minF (fun l => Nat.testBit (i + 1) l = true) (fun l => tab62 (fup Q 63 (i + 1) z) (i + 1) l + wy S l 9) S.n = v := by
            rw [a2]
            refine minF_congr S.n (fun l _ => ⟨Iff.rfl, fun hl => ?_⟩)
            show tab62 (fup Q 63 (i + 1) z) (i + 1) l + wy S l 9 = tmin S (tab62 K) (mw (i + 1) l) l + wy S l 9
            rw [(tnew l hl).1, (tnew l hl).2]
          show _ = if S.D 8 5 < minF (fun l => Nat.testBit (i + 1) l = true) (fun l => tab62 (fup Q 63 (i + 1) z) (i + 1) l + wy S l 9) S.n then 1000000 else minF (fun l => Nat.testBit (i + 1) l = true) (fun l => tab62 (fup Q 63 (i + 1) z) (i + 1) l + wy S l 9) S.n
          rw [e2, fup_eq, upd1_at, hz]
        · have e2 : minF (fun l => Nat.testBit m l = true) (fun l => tab62 (fup Q 63 (i + 1) z) m l + wy S l 9) S.n = minF (fun l => Nat.testBit m l = true) (fun l => tab62 K m l + wy S l 9) S.n := by
            refine minF_congr S.n (fun l hl => ⟨Iff.rfl, fun _ => ?_⟩)
            show tab62 (fup Q 63 (i + 1) z) m l + wy S l 9 = tab62 K m l + wy S l 9
            rw [old z m l (by omega) (by omega)]
          show _ = if S.D 8 5 < minF (fun l => Nat.testBit m l = true) (fun l => tab62 (fup Q 63 (i + 1) z) m l + wy S l 9) S.n then 1000000 else minF (fun l => Nat.testBit m l = true) (fun l => tab62 (fup Q 63 (i + 1) z) m l + wy S l 9) S.n
          rw [e2, fup_eq, upd1_ne e, a5 63 (by decide)]
          exact q5 m (by omega) h0
    · obtain ⟨l, K⟩ := s
      obtain ⟨q1, q2, q3, q4, q5⟩ := hp
      simp only at q1 q2 q3 q4 q5
      have h18 : K 54 18 = ((2 ^ S.n : Nat) : Int) := q2.2.1.2.2
      refine ⟨K, ?_, q2, fun m l hm hb => (q3 m l (by omega) hb).1, q4, fun m hm h0 => q5 m (by omega) h0⟩
      show s_X7_fillHomes_b22 K l = _
      unfold s_X7_fillHomes_b22
      rw [h18, if_pos (by omega)]
  obtain ⟨K', k1, k2⟩ := key
  refine ⟨K', ?_, k2⟩
  unfold s_X7_fillHomes
  rw [b1, Option.bind_some]
  show (s_X7_fillHomes_l22 (1, fup B 63 0 (B 8 4))).bind _ = _
  rw [hA, k1]
  rfl
