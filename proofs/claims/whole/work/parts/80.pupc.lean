/-! ===== pupils: class and reference ===== -/
def tw (D : fM) (t u : Nat) : Int := D 14 (t * 6 + u)
theorem tw_bd {D : fM} (hw : WF D) : ∀ t u, t < 6 → u < 6 → 0 ≤ tw D t u ∧ tw D t u ≤ 99 := by
  intro t u h1 h2
  have := hw.2.2.2.2.2.2.2.2.1 (t : Int) (u : Int) (by omega) (by omega) (by omega) (by omega)
  rw [show ((t : Int) * 6 + (u : Int)).toNat = t * 6 + u by omega] at this
  exact this
theorem c_sumWith {K D : fM} {j m t : Nat} {T : Nat} (hT : T ≤ 6) (h14 : K 14 = D 14) (hw : ∀ t u, t < 6 → u < 6 → 0 ≤ tw D t u ∧ tw D t u ≤ 99) (hj : j < 6) (hm : m < 2 ^ T) (ht : t < T) {x : Int} (hx : K 71 ((j + 1) * 64 + (m ||| 2 ^ t)) = x) (hx1 : 0 ≤ x) (hx2 : x ≤ 1000) : s_X4_sumWith K (j : Int) (m : Int) (t : Int) = some (tw D t j + x) := by
  have h64 : m < 2 ^ 6 := Nat.lt_of_lt_of_le hm (Nat.pow_le_pow_right (by decide) hT)
  have ho : m ||| 2 ^ t < 2 ^ 6 := or_lt h64 (by omega)
  have hb := hw t j (by omega) hj
  have h512 : m < 512 := Nat.lt_trans h64 (by decide)
  have ho2 : m ||| 2 ^ t < 64 := ho
  have e1 : ((t : Int) * 6 + (j : Int)).toNat = t * 6 + j := by omega
  have e2 : (((j : Int) + 1) * 64 + ((m ||| 2 ^ t : Nat) : Int)).toNat = (j + 1) * 64 + (m ||| 2 ^ t) := by omega
  unfold tw at hb ⊢
  unfold s_X4_sumWith
  rw [b_or9 m h512 t (by omega), e1, e2, h14, hx, if_pos (by unfold fin; omega), if_pos (by unfold fin; omega)]
theorem c_grtL {K D : fM} {j m T : Nat} {f : Nat → Int} (hT : T ≤ 6) (hTD : K 4 14 = T) (h14 : K 14 = D 14) (hw : ∀ t u, t < 6 → u < 6 → 0 ≤ tw D t u ∧ tw D t u ≤ 99) (hj : j < 6) (hm : m < 2 ^ T) (hf : ∀ m', m' < 2 ^ T → K 71 ((j + 1) * 64 + m') = f m' ∧ 0 ≤ f m' ∧ f m' ≤ 1000) : s_X4_greatest K (j : Int) (m : Int) = some (grt (fun t => tw D t j) f m T) := by
  unfold s_X4_greatest s_X4_greatest_l5
  have h512 : m < 512 := Nat.lt_trans (Nat.lt_of_lt_of_le hm (Nat.pow_le_pow_right (by decide) hT)) (by decide)
  have := fLp_for (b := fun s : Int × Int => s_X4_greatest_b5 K (j : Int) (m : Int) s.1 s.2) (fun i => (grt (fun t => tw D t j) f m i, (i : Int))) T (e := grt (fun t => tw D t j) f m T) (fun i hi => ?_) ?_
  · rw [show ((0 : Int), (0 : Int)) = (grt (fun t => tw D t j) f m 0, ((0 : Nat) : Int)) from rfl, this]
    rfl
  · show s_X4_greatest_b5 K (j : Int) (m : Int) (grt (fun t => tw D t j) f m i) (i : Int) = some (.inl (grt (fun t => tw D t j) f m (i + 1), ((i + 1 : Nat) : Int)))
    unfold s_X4_greatest_b5
    rw [hTD, if_neg (by omega), b_test9 m h512 i (by omega)]
    rw [show grt (fun t => tw D t j) f m (i + 1) = if Nat.testBit m i then grt (fun t => tw D t j) f m i else if grt (fun t => tw D t j) f m i < tw D i j + f (m ||| 2 ^ i) then tw D i j + f (m ||| 2 ^ i) else grt (fun t => tw D t j) f m i from rfl]
    cases hb : Nat.testBit m i with
    | true =>
      rw [if_pos (by decide), if_pos (by unfold fin; omega), if_pos rfl]
      rfl
    | false =>
      have hq := hf (m ||| 2 ^ i) (or_lt hm hi)
      rw [if_neg (by decide), c_sumWith hT h14 hw hj hm hi hq.1 hq.2.1 hq.2.2, Option.bind_some, c_max, Option.bind_some, if_pos (by unfold fin; omega), if_neg (by decide : ¬ (false = true))]
      rfl
  · show s_X4_greatest_b5 K (j : Int) (m : Int) (grt (fun t => tw D t j) f m T) (T : Int) = _
    unfold s_X4_greatest_b5
    rw [hTD, if_pos (by omega)]
theorem c_share {M D : fM} (hc : CR M 0 D) (hw : WF D) {T k : Nat} (hT : D 4 14 = T) (hk : k ≤ T) (hk0 : 0 < k) (hmin : (if D 4 14 < D 4 15 then D 4 14 else D 4 15) = k) : ∃ K, s_X4_share M = some (tbl (tw D) T k k 0, K) ∧ K 70 3 = k ∧ ∀ q, q < k → K 72 q = ((gg (tw D) T k q : Nat) : Int) := by
  have hT6 : T ≤ 6 := by have := hw.1.2.1; omega
  have hb := tw_bd hw
  have r4 : M 4 = D 4 := CR_r hc 4 (by decide) (by decide)
  have r14 : M 14 = D 14 := CR_r hc 14 (by decide) (by decide)
  have p64 : 2 ^ T ≤ 64 := Nat.pow_le_pow_right (n := 2) (by decide) hT6
  have tbd := tbl_bd (tw D) T k hb hT6 hk
  obtain ⟨g1, g2, g3, g4⟩ := gm_lt hb hT6 hk k (Nat.le_refl _)
  have hA : (fup M 70 3 (k : Int)) 70 3 = k := by rw [fup_eq, upd1_at]
  generalize hMA : fup M 70 3 (k : Int) = A at hA
  have a4 : A 4 = D 4 := by rw [← hMA, fup_ne (by decide), r4]
  have a14 : A 14 = D 14 := by rw [← hMA, fup_ne (by decide), r14]
  obtain ⟨B, b1, b2, b3⟩ : ∃ B, s_X4_share_l33 ((2 ^ T : Nat) : Int) (0, A) = some B ∧ (∀ m, m < 2 ^ T → B 71 (k * 64 + m) = 0) ∧ ∀ a, a ≠ 71 → B a = A a := by
    unfold s_X4_share_l33
    refine fLp_ex (P := fun i s => s.1 = (i : Int) ∧ (∀ m, m < i → s.2 71 (k * 64 + m) = 0) ∧ ∀ a, a ≠ 71 → s.2 a = A a) (2 ^ T) ⟨rfl, fun m hm => by omega, fun a _ => rfl⟩ (fun i s hi hp => ?_) (fun s hp => ?_)
    · obtain ⟨l, K⟩ := s
      obtain ⟨p1, p2, p3⟩ := hp
      simp only at p1 p2 p3
      subst p1
      refine ⟨((i : Int) + 1, fup K 71 (k * 64 + i) 0), ?_, by simp, fun m hm => ?_, fun a ha => ?_⟩
      · show s_X4_share_b33 K _ (i : Int) = _
        unfold s_X4_share_b33
        rw [p3 70 (by decide), hA, if_neg (by omega), if_pos (by unfold fin; omega), show ((k : Int) * 64 + (i : Int)).toNat = k * 64 + i by omega]
      · show fup K 71 (k * 64 + i) 0 71 (k * 64 + m) = 0
        rw [fup_eq]
        unfold upd1
        split
        · rfl
        · exact p2 m (by omega)
      · show fup K 71 (k * 64 + i) 0 a = _
        rw [fup_ne ha, p3 a ha]
    · obtain ⟨l, K⟩ := s
      obtain ⟨p1, p2, p3⟩ := hp
      simp only at p1 p2 p3
      subst p1
      refine ⟨K, ?_, p2, p3⟩
      show s_X4_share_b33 K _ ((2 ^ T : Nat) : Int) = _
      unfold s_X4_share_b33
      rw [if_pos (Int.le_refl _)]
  have lev : ∀ (j : Nat) (K : fM), j < k → K 4 = D 4 → K 14 = D 14 → (∀ m, m < 2 ^ T → K 71 ((j + 1) * 64 + m) = tbl (tw D) T k (k - 1 - j) m) → ∃ K', s_X4_share_l72 ((2 ^ T : Nat) : Int) (j : Int) (0, K) = some K' ∧ (∀ m, m < 2 ^ T → K' 71 (j * 64 + m) = tbl (tw D) T k (k - j) m) ∧ (∀ x, (j + 1) * 64 ≤ x → K' 71 x = K 71 x) ∧ ∀ a, a ≠ 71 → K' a = K a := by
    intro j K0 hj h4 h14 hrow
    unfold s_X4_share_l72
    refine fLp_ex (P := fun i s => s.1 = (i : Int) ∧ (∀ m, m < i → s.2 71 (j * 64 + m) = tbl (tw D) T k (k - j) m) ∧ (∀ x, (j + 1) * 64 ≤ x → s.2 71 x = K0 71 x) ∧ ∀ a, a ≠ 71 → s.2 a = K0 a) (2 ^ T) ⟨rfl, fun m hm => by omega, fun x _ => rfl, fun a _ => rfl⟩ (fun i s hi hp => ?_) (fun s hp => ?_)
    · obtain ⟨l, K⟩ := s
      obtain ⟨p1, p2, p3, p4⟩ := hp
      simp only at p1 p2 p3 p4
      subst p1
      have hg := c_grtL (K := K) (D := D) (j := j) (m := i) (T := T) (f := tbl (tw D) T k (k - 1 - j)) hT6 (by rw [p4 4 (by decide), h4, hT]) (by rw [p4 14 (by decide), h14]) hb (by omega) hi (fun m' hm' => by
        have := tbd (k - 1 - j) m' (by omega)
        refine ⟨?_, this.1, by omega⟩
        rw [p3 _ (by omega)]
        exact hrow m' hm')
      have e : grt (fun t => tw D t j) (tbl (tw D) T k (k - 1 - j)) i T = tbl (tw D) T k (k - j) i := by
        conv => rhs; rw [show k - j = (k - 1 - j) + 1 by omega]
        show _ = grt (fun t => tw D t (k - 1 - (k - 1 - j))) (tbl (tw D) T k (k - 1 - j)) i T
        rw [show k - 1 - (k - 1 - j) = j by omega]
      rw [e] at hg
      refine ⟨((i : Int) + 1, fup K 71 (j * 64 + i) (tbl (tw D) T k (k - j) i)), ?_, by simp, fun m hm => ?_, fun x hx => ?_, fun a ha => ?_⟩
      · show s_X4_share_b72 K _ (j : Int) (i : Int) = _
        unfold s_X4_share_b72
        rw [if_neg (by omega), if_pos (by unfold fin; omega), hg, Option.bind_some, if_pos (by unfold fin; omega), show ((j : Int) * 64 + (i : Int)).toNat = j * 64 + i by omega]
      · show fup K 71 (j * 64 + i) _ 71 (j * 64 + m) = _
        rw [fup_eq]
        unfold upd1
        by_cases e2 : m = i
        · subst e2
          rw [if_pos rfl]
        · rw [if_neg (by omega)]
          exact p2 m (by omega)
      · show fup K 71 (j * 64 + i) _ 71 x = _
        rw [fup_eq]
        unfold upd1
        rw [if_neg (by omega)]
        exact p3 x hx
      · show fup K 71 (j * 64 + i) _ a = _
        rw [fup_ne ha, p4 a ha]
    · obtain ⟨l, K⟩ := s
      obtain ⟨p1, p2, p3, p4⟩ := hp
      simp only at p1 p2 p3 p4
      subst p1
      refine ⟨K, ?_, p2, p3, p4⟩
      show s_X4_share_b72 K _ (j : Int) ((2 ^ T : Nat) : Int) = _
      unfold s_X4_share_b72
      rw [if_pos (Int.le_refl _)]
  obtain ⟨C, c1, c2, c3⟩ : ∃ C, s_X4_share_l66 ((2 ^ T : Nat) : Int) ((k : Int) - 1, B) = some C ∧ (∀ j, j ≤ k → ∀ m, m < 2 ^ T → C 71 (j * 64 + m) = tbl (tw D) T k (k - j) m) ∧ ∀ a, a ≠ 71 → C a = A a := by
    unfold s_X4_share_l66
    refine fLp_ex (P := fun i s => s.1 = (k : Int) - 1 - (i : Int) ∧ (∀ j, k ≤ j + i → j ≤ k → ∀ m, m < 2 ^ T → s.2 71 (j * 64 + m) = tbl (tw D) T k (k - j) m) ∧ ∀ a, a ≠ 71 → s.2 a = A a) k ⟨by simp, fun j h1 h2 m hm => ?_, b3⟩ (fun i s hi hp => ?_) (fun s hp => ?_)
    · have : j = k := by omega
      subst this
      rw [Nat.sub_self]
      exact b2 m hm
    · obtain ⟨l, K⟩ := s
      obtain ⟨p1, p2, p3⟩ := hp
      simp only at p1 p2 p3
      have p1' : l = ((k - 1 - i : Nat) : Int) := by omega
      subst p1'
      obtain ⟨K', q1, q2, q3, q4⟩ := lev (k - 1 - i) K (by omega) (by rw [p3 4 (by decide), a4]) (by rw [p3 14 (by decide), a14]) (fun m hm => by
        have := p2 (k - 1 - i + 1) (by omega) (by omega) m hm
        rw [show k - (k - 1 - i + 1) = k - 1 - (k - 1 - i) by omega] at this
        exact this)
      refine ⟨(((k - 1 - i : Nat) : Int) + (-1), K'), ?_, by simp only; omega, fun j h1 h2 m hm => ?_, fun a ha => ?_⟩
      · show s_X4_share_b66 K _ ((k - 1 - i : Nat) : Int) = _
        unfold s_X4_share_b66
        rw [if_neg (by omega), q1, Option.bind_some, if_pos (by unfold fin; omega)]
      · show K' 71 (j * 64 + m) = _
        by_cases e2 : j = k - 1 - i
        · subst e2
          exact q2 m hm
        · rw [q3 _ (by omega)]
          exact p2 j (by omega) h2 m hm
      · show K' a = _
        rw [q4 a ha, p3 a ha]
    · obtain ⟨l, K⟩ := s
      obtain ⟨p1, p2, p3⟩ := hp
      simp only at p1 p2 p3
      refine ⟨K, ?_, fun j hj => p2 j (by omega) hj, p3⟩
      show s_X4_share_b66 K _ l = _
      unfold s_X4_share_b66
      rw [if_pos (by omega)]
  have c4 : C 4 14 = T := by rw [c3 4 (by decide), a4, hT]
  obtain ⟨E, e1, e2, e3⟩ : ∃ E, s_X4_pickTuners_l4 (0, 0, C) = some E ∧ (∀ q, q < k → E 72 q = ((gg (tw D) T k q : Nat) : Int)) ∧ ∀ a, a ≠ 72 → E a = C a := by
    unfold s_X4_pickTuners_l4
    refine fLp_ex (P := fun i s => s.1 = ((gm (tw D) T k i : Nat) : Int) ∧ s.2.1 = (i : Int) ∧ (∀ q, q < i → s.2.2 72 q = ((gg (tw D) T k q : Nat) : Int)) ∧ ∀ a, a ≠ 72 → s.2.2 a = C a) k ⟨rfl, rfl, fun q hq => by omega, fun a _ => rfl⟩ (fun i s hi hp => ?_) (fun s hp => ?_)
    · obtain ⟨m, l, K⟩ := s
      obtain ⟨p1, p2, p3, p4⟩ := hp
      simp only at p1 p2 p3 p4
      subst p1
      subst p2
      obtain ⟨h1, h2, h3, h4⟩ := g3 i hi
      have hgl := (gm_lt hb hT6 hk i (by omega)).1
      have h512 : gm (tw D) T k i < 512 := by omega
      have k71 : K 71 = C 71 := p4 71 (by decide)
      have hfirst : s_X4_firstGreatest K (i : Int) ((gm (tw D) T k i : Nat) : Int) = some ((gg (tw D) T k i : Nat) : Int) := by
        unfold s_X4_firstGreatest s_X4_firstGreatest_l2
        have hsw : ∀ t, t < T → s_X4_sumWith K (i : Int) ((gm (tw D) T k i : Nat) : Int) (t : Int) = some (tw D t i + tbl (tw D) T k (k - 1 - i) (gm (tw D) T k i ||| 2 ^ t)) := fun t ht => by
          have := tbd (k - 1 - i) (gm (tw D) T k i ||| 2 ^ t) (by omega)
          refine c_sumWith hT6 (by rw [p4 14 (by decide), c3 14 (by decide), a14]) hb (by omega) hgl ht ?_ this.1 (by omega)
          rw [k71, c2 (i + 1) (by omega) _ (or_lt hgl ht), show k - (i + 1) = k - 1 - i by omega]
        have hrow : K 71 ((i : Int) * 64 + ((gm (tw D) T k i : Nat) : Int)).toNat = tbl (tw D) T k (k - i) (gm (tw D) T k i) := by
          rw [k71, show ((i : Int) * 64 + ((gm (tw D) T k i : Nat) : Int)).toNat = i * 64 + gm (tw D) T k i by omega]
          exact c2 i (by omega) _ hgl
        have hK4 : K 4 14 = T := by rw [p4 4 (by decide), c4]
        have := fLp_for (b := fun s : Int => s_X4_firstGreatest_b2 K (i : Int) ((gm (tw D) T k i : Nat) : Int) s) (fun t => (t : Int)) (gg (tw D) T k i) (e := .inr ((gg (tw D) T k i : Nat) : Int)) (fun t ht => ?_) ?_
        · rw [show ((0 : Nat) : Int) = 0 from rfl] at this
          rw [this]
          rfl
        · show s_X4_firstGreatest_b2 K (i : Int) ((gm (tw D) T k i : Nat) : Int) (t : Int) = some (.inl ((t + 1 : Nat) : Int))
          unfold s_X4_firstGreatest_b2
          rw [hK4, if_neg (by omega), b_test9 _ h512 t (by omega)]
          cases hbt : Nat.testBit (gm (tw D) T k i) t with
          | true =>
            rw [if_pos (by decide), if_pos (by unfold fin; omega)]
            rfl
          | false =>
            rw [if_neg (by decide), hsw t (by omega), Option.bind_some, if_pos (by unfold fin; omega), hrow, if_pos (h4 t ht hbt), if_pos (by unfold fin; omega)]
            rfl
        · show s_X4_firstGreatest_b2 K (i : Int) ((gm (tw D) T k i : Nat) : Int) ((gg (tw D) T k i : Nat) : Int) = _
          unfold s_X4_firstGreatest_b2
          rw [hK4, if_neg (by omega), b_test9 _ h512 _ (by omega), h2, if_neg (by decide), hsw _ h1, Option.bind_some, if_pos (by unfold fin; omega), hrow, if_neg (fun h => h h3)]
      refine ⟨(((gm (tw D) T k (i + 1) : Nat) : Int), (i : Int) + 1, fup K 72 i ((gg (tw D) T k i : Nat) : Int)), ?_, rfl, by simp, fun q hq => ?_, fun a ha => ?_⟩
      · show s_X4_pickTuners_b4 K ((gm (tw D) T k i : Nat) : Int) (i : Int) = _
        unfold s_X4_pickTuners_b4
        rw [p4 70 (by decide), c3 70 (by decide), hA, if_neg (by omega), hfirst, Option.bind_some, if_pos (by omega), if_pos (by unfold fin; omega), b_or9 _ h512 _ (by omega)]
        rfl
      · show fup K 72 i _ 72 q = _
        rw [fup_eq]
        unfold upd1
        by_cases e2 : q = i
        · subst e2
          rw [if_pos rfl]
        · rw [if_neg e2]
          exact p3 q (by omega)
      · show fup K 72 i _ a = _
        rw [fup_ne ha, p4 a ha]
    · obtain ⟨m, l, K⟩ := s
      obtain ⟨p1, p2, p3, p4⟩ := hp
      simp only at p1 p2 p3 p4
      subst p2
      refine ⟨K, ?_, p3, p4⟩
      show s_X4_pickTuners_b4 K m (k : Int) = _
      unfold s_X4_pickTuners_b4
      rw [p4 70 (by decide), c3 70 (by decide), hA, if_pos (Int.le_refl _)]
  refine ⟨E, ?_, ?_, e2⟩
  · unfold s_X4_share
    rw [r4, c_min, Option.bind_some, hmin, hT, b_shl T (by omega), hMA, b1, Option.bind_some, b3 70 (by decide), hA, if_pos (by unfold fin; omega), c1, Option.bind_some]
    unfold s_X4_pickTuners
    rw [e1]
    show some (E 71 0, E) = _
    rw [e3 71 (by decide)]
    have := c2 0 (by omega) 0 (Nat.two_pow_pos T)
    rw [Nat.sub_zero] at this
    rw [← this]
  · rw [e3 70 (by decide), c3 70 (by decide), hA]
