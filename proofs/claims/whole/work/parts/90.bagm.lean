/-! ===== bags: the reference, the call ===== -/
theorem m_sort9 {N D : fM} (hm : MRh N 124 0 D) (hw : WF D) {n g : Nat} (hn8 : n ≤ 8) (hn : N 122 3 = n) (hg : g < 4) {r : Nat → Int} (hr : ∀ i, i < n → 0 ≤ r i ∧ r i < D 4 13) (h133 : ∀ i, i < n → N 133 i = r i) (l1 l2 : Int) : ∃ K, s_X12_bag_b75 N l1 l2 (g : Int) = some (.inl ((g : Int) + 1, K)) ∧ (∀ c, c < 9 → K 146 (9 * g + c) = ((ptf D r n g c : Nat) : Int)) ∧ (∀ x, x < 9 * g ∨ 9 * g + 9 ≤ x → K 146 x = N 146 x) ∧ ∀ a, a ≠ 146 → a ≠ 147 → K a = N a := by
  have hq := qn_bd hw hr hg
  generalize hqd : (fun j => if j < n then qf D r g j else 0) = q at hq
  have hq2 : ∀ i, q i ≤ 20 := fun i => by rw [← hqd]; exact hq i
  obtain ⟨A, a1, a2, a4⟩ : ∃ e, s_X12_bag_l84 l1 l2 (g : Int) (0, N) = some e ∧ ((∀ c, c < 9 → e 147 c = ((pa q 0 c : Nat) : Int)) ∧ ∀ a, a ≠ 147 → e a = N a) := by
    unfold s_X12_bag_l84
    refine fLp_ex (P := fun i s => s.1 = (i : Int) ∧ (∀ c, c < i → s.2 147 c = ((pa q 0 c : Nat) : Int)) ∧ ∀ a, a ≠ 147 → s.2 a = N a) 9 ⟨rfl, fun c h => by omega, fun a _ => rfl⟩ (fun i s hi hp => ?_) (fun s hp => ?_)
    · obtain ⟨l, K⟩ := s
      obtain ⟨p1, p2, p4⟩ := hp
      simp only at p1 p2 p4
      subst p1
      refine ⟨((i : Int) + 1, fup K 147 i ((pa q 0 i : Nat) : Int)), ?_, by simp, fun c h => ?_, fun a ha => ?_⟩
      · show s_X12_bag_b84 K l1 l2 (g : Int) (i : Int) = _
        unfold s_X12_bag_b84
        have hpa : pa q 0 i = if i = 0 then 1 else 0 := rfl
        rw [if_neg (by omega), show (i : Int).toNat = i from rfl, hpa]
        by_cases h0 : i = 0
        · rw [if_neg (by omega), if_pos (by unfold fin; omega), if_pos h0]
          rfl
        · rw [if_pos (by omega), if_pos (by unfold fin; omega), if_neg h0]
          rfl
      · show fup K 147 i _ 147 c = _
        rw [fup_eq]
        unfold upd1
        by_cases e : c = i
        · subst e; rw [if_pos rfl]
        · rw [if_neg e]; exact p2 c (by omega)
      · show fup K 147 i _ a = _
        rw [fup_ne ha, p4 a ha]
    · obtain ⟨l, K⟩ := s
      obtain ⟨p1, p2, p4⟩ := hp
      simp only at p1 p2 p4
      subst p1
      refine ⟨K, ?_, p2, p4⟩
      show s_X12_bag_b84 K l1 l2 (g : Int) ((9 : Nat) : Int) = _
      unfold s_X12_bag_b84
      rw [if_pos (by omega)]
  have inner : ∀ (j : Nat) (K0 : fM), j < n → (∀ c, c < 9 → K0 147 c = ((pa q j c : Nat) : Int)) → ∃ e, s_X12_bag_l153 l1 l2 (g : Int) (j : Int) ((q j : Nat) : Int) (8, K0) = some e ∧ ((∀ c, c < 9 → e 147 c = ((pa q (j + 1) c : Nat) : Int)) ∧ ∀ a, a ≠ 147 → e a = K0 a) := by
    intro j K0 hj h0
    unfold s_X12_bag_l153
    refine fLp_ex (P := fun i s => s.1 = 8 - (i : Int) ∧ (∀ c, c < 9 → (8 < c + i → s.2 147 c = ((pa q (j + 1) c : Nat) : Int)) ∧ (c + i ≤ 8 → s.2 147 c = ((pa q j c : Nat) : Int))) ∧ ∀ a, a ≠ 147 → s.2 a = K0 a) 9 ⟨by simp, fun c hc => ⟨fun h => by omega, fun _ => h0 c hc⟩, fun a _ => rfl⟩ (fun i s hi hp => ?_) (fun s hp => ?_)
    · obtain ⟨l, K⟩ := s
      obtain ⟨p1, p2, p4⟩ := hp
      simp only at p1 p2 p4
      obtain ⟨c0, hc0⟩ : ∃ c0, c0 = 8 - i := ⟨_, rfl⟩
      have p1' : l = (c0 : Int) := by omega
      subst p1'
      have hval := (p2 c0 (by omega)).2 (by omega)
      obtain ⟨s1, s2, s3, s4⟩ := pa_step (q := q) hq2 (j := j) (c := c0) (by omega)
      have hq20 := hq2 j
      have hpaj : pa q (j + 1) c0 = pa q j c0 * (20 - q j) + (if c0 = 0 then 0 else pa q j (c0 - 1) * q j) := rfl
      refine ⟨((c0 : Int) + (-1), fup K 147 c0 ((pa q (j + 1) c0 : Nat) : Int)), ?_, by simp only; omega, fun c hc => ?_, fun a ha => ?_⟩
      · show s_X12_bag_b153 K l1 l2 (g : Int) (j : Int) ((q j : Nat) : Int) (c0 : Int) = _
        unfold s_X12_bag_b153
        rw [if_neg (by omega), show (c0 : Int).toNat = c0 from rfl, hval, s1, if_pos (by unfold fin finl; omega), hpaj]
        by_cases hz : c0 = 0
        · rw [if_neg (by omega), if_pos (by unfold fin finl; omega), if_pos hz, Nat.add_zero, Int.add_zero]
        · have hval2 := (p2 (c0 - 1) (by omega)).2 (by omega)
          rw [if_pos (by omega), show ((c0 : Int) - 1).toNat = c0 - 1 by omega, hval2, s2, if_pos (by unfold fin finl; omega), if_neg hz, ← Int.natCast_add]
      · show (_ → fup K 147 c0 _ 147 c = _) ∧ (_ → fup K 147 c0 _ 147 c = _)
        rw [fup_eq]
        unfold upd1
        by_cases e : c = c0
        · subst e
          rw [if_pos rfl]
          exact ⟨fun _ => rfl, fun h => by omega⟩
        · rw [if_neg e]
          exact ⟨fun h => (p2 c hc).1 (by omega), fun h => (p2 c hc).2 (by omega)⟩
      · show fup K 147 c0 _ a = _
        rw [fup_ne ha, p4 a ha]
    · obtain ⟨l, K⟩ := s
      obtain ⟨p1, p2, p4⟩ := hp
      simp only at p1 p2 p4
      refine ⟨K, ?_, fun c hc => (p2 c hc).1 (by omega), p4⟩
      show s_X12_bag_b153 K l1 l2 (g : Int) (j : Int) ((q j : Nat) : Int) l = _
      unfold s_X12_bag_b153
      rw [if_pos (by omega)]
  obtain ⟨B, b1, b2, b4⟩ : ∃ e, s_X12_bag_l117 l1 l2 (g : Int) (0, A) = some e ∧ ((∀ c, c < 9 → e 147 c = ((pa q n c : Nat) : Int)) ∧ ∀ a, a ≠ 147 → e a = N a) := by
    unfold s_X12_bag_l117
    refine fLp_ex (P := fun i s => s.1 = (i : Int) ∧ (∀ c, c < 9 → s.2 147 c = ((pa q i c : Nat) : Int)) ∧ ∀ a, a ≠ 147 → s.2 a = N a) n ⟨rfl, a2, a4⟩ (fun i s hi hp => ?_) (fun s hp => ?_)
    · obtain ⟨l, K⟩ := s
      obtain ⟨p1, p2, p4⟩ := hp
      simp only at p1 p2 p4
      subst p1
      obtain ⟨E, e1, e2, e4⟩ := inner i K hi p2
      have hqi : D 12 (r i * 4 + (g : Int)).toNat = ((q i : Nat) : Int) := by
        rw [(qf_bd hw hr hg hi).2, ← hqd]
        show _ = (((if i < n then qf D r g i else 0) : Nat) : Int)
        rw [if_pos hi]
      have hri := hr i hi
      have hP := hw.1.1
      refine ⟨((i : Int) + 1, E), ?_, by simp, e2, fun a ha => (e4 a ha).trans (p4 a ha)⟩
      show s_X12_bag_b117 K l1 l2 (g : Int) (i : Int) = _
      unfold s_X12_bag_b117
      rw [p4 122 (by decide), hn, if_neg (by omega), show (i : Int).toNat = i from rfl, p4 133 (by decide), h133 i hi, if_pos (by unfold fin; omega), p4 124 (by decide), mh_frail hm (r i) (g : Int) rfl hri.1 hri.2 (by omega) (by omega), hqi, e1, Option.bind_some, if_pos (by unfold fin; omega)]
    · obtain ⟨l, K⟩ := s
      obtain ⟨p1, p2, p4⟩ := hp
      simp only at p1 p2 p4
      subst p1
      refine ⟨K, ?_, p2, p4⟩
      show s_X12_bag_b117 K l1 l2 (g : Int) (n : Int) = _
      unfold s_X12_bag_b117
      rw [p4 122 (by decide), hn, if_pos (Int.le_refl _)]
  obtain ⟨C, c1, c2, c3, c4⟩ : ∃ e, s_X12_bag_l220 l1 l2 (g : Int) (0, 0, B) = some e ∧ ((∀ c, c < 9 → e 146 (9 * g + c) = ((ps q n c : Nat) : Int)) ∧ (∀ x, x < 9 * g ∨ 9 * g + 9 ≤ x → e 146 x = N 146 x) ∧ ∀ a, a ≠ 146 → a ≠ 147 → e a = N a) := by
    unfold s_X12_bag_l220
    refine fLp_ex (P := fun i s => s.1 = (((if i = 0 then 0 else ps q n (i - 1)) : Nat) : Int) ∧ s.2.1 = (i : Int) ∧ (∀ c, c < i → s.2.2 146 (9 * g + c) = ((ps q n c : Nat) : Int)) ∧ (∀ x, x < 9 * g ∨ 9 * g + 9 ≤ x → s.2.2 146 x = N 146 x) ∧ s.2.2 147 = B 147 ∧ ∀ a, a ≠ 146 → a ≠ 147 → s.2.2 a = N a) 9 ⟨rfl, rfl, fun c h => by omega, fun x _ => congrFun (b4 146 (by decide)) x, rfl, fun a _ h => b4 a h⟩ (fun i s hi hp => ?_) (fun s hp => ?_)
    · obtain ⟨acc, l, K⟩ := s
      obtain ⟨p0, p1, p2, p3, p5, p4⟩ := hp
      simp only at p0 p1 p2 p3 p5 p4
      subst p1
      have v2 : K 147 i = ((pa q n i : Nat) : Int) := by rw [p5, b2 i hi]
      have bb2 := pa_bd hq2 hn8 i
      have hsum : acc + ((pa q n i : Nat) : Int) = ((ps q n i : Nat) : Int) := by
        rw [p0]
        cases i with
        | zero => rw [if_pos rfl]; show _ = ((pa q n 0 : Nat) : Int); omega
        | succ i => rw [if_neg (by omega), Nat.add_sub_cancel]; show _ = ((ps q n i + pa q n (i + 1) : Nat) : Int); omega
      have bb1 := Nat.le_trans (ps_le hq2 n i) (pow20 hn8)
      refine ⟨(((ps q n i : Nat) : Int), (i : Int) + 1, fup K 146 (9 * g + i) ((ps q n i : Nat) : Int)), ?_, ?_, by simp, fun c hc => ?_, fun x h => ?_, ?_, fun a ha ha2 => ?_⟩
      · show s_X12_bag_b220 K l1 l2 (g : Int) acc (i : Int) = _
        unfold s_X12_bag_b220
        rw [if_neg (by omega), show (i : Int).toNat = i from rfl, v2, hsum, if_pos (by unfold fin finl; omega), if_pos (by unfold fin; omega), show (9 * (g : Int) + (i : Int)).toNat = 9 * g + i by omega]
      · show ((ps q n i : Nat) : Int) = (((if i + 1 = 0 then 0 else ps q n (i + 1 - 1)) : Nat) : Int)
        rw [if_neg (by omega), Nat.add_sub_cancel]
      · show fup K 146 (9 * g + i) _ 146 (9 * g + c) = _
        rw [fup_eq]
        unfold upd1
        by_cases e : c = i
        · subst e; rw [if_pos rfl]
        · rw [if_neg (by omega)]; exact p2 c (by omega)
      · show fup K 146 (9 * g + i) _ 146 x = _
        rw [fup_eq, upd1_ne (by omega)]
        exact p3 x h
      · show fup K 146 (9 * g + i) ((ps q n i : Nat) : Int) 147 = _
        rw [fup_ne (by decide), p5]
      · show fup K 146 (9 * g + i) _ a = _
        rw [fup_ne ha, p4 a ha ha2]
    · obtain ⟨acc, l, K⟩ := s
      obtain ⟨p0, p1, p2, p3, p5, p4⟩ := hp
      simp only at p0 p1 p2 p3 p5 p4
      subst p1
      refine ⟨K, ?_, p2, p3, p4⟩
      show s_X12_bag_b220 K l1 l2 (g : Int) acc ((9 : Nat) : Int) = _
      unfold s_X12_bag_b220
      rw [if_pos (by omega)]
  refine ⟨C, ?_, ?_, c3, c4⟩
  · unfold s_X12_bag_b75
    rw [if_neg (by omega), a1, Option.bind_some, b1, Option.bind_some, c1, Option.bind_some, if_pos (by unfold fin; omega)]
  · intro c hc
    rw [c2 c hc]
    unfold ptf
    rw [hqd]
theorem fup_fup (M : fM) (a i : Nat) (v w : Int) : fup (fup M a i v) a i w = fup M a i w := by
  funext k j
  unfold fup
  split <;> rfl
theorem dig9 {i : Nat} (h : i < 6561) : i / 729 < 9 ∧ i / 81 % 9 < 9 ∧ i / 9 % 9 < 9 ∧ i % 9 < 9 := by omega
theorem dig9r {i : Nat} (h : i < 6561) : fdiv (i : Int) 729 = ((i / 729 : Nat) : Int) ∧ fdiv (i : Int) 81 = ((i / 81 : Nat) : Int) ∧ fdiv (i : Int) 9 = ((i / 9 : Nat) : Int) ∧ frem ((i / 81 : Nat) : Int) 9 = ((i / 81 % 9 : Nat) : Int) ∧ frem ((i / 9 : Nat) : Int) 9 = ((i / 9 % 9 : Nat) : Int) ∧ frem (i : Int) 9 = ((i % 9 : Nat) : Int) :=
  ⟨fdiv_nat (b := 729) (by omega) (by decide), fdiv_nat (b := 81) (by omega) (by decide), fdiv_nat (b := 9) (by omega) (by decide), frem_nat (b := 9) (by omega) (by decide), frem_nat (b := 9) (by omega) (by decide), frem_nat (b := 9) (by omega) (by decide)⟩
theorem m_bagl {N D : fM} (hm : MRh N 124 0 D) (hw : WF D) {n : Nat} (hn8 : n ≤ 8) (hn : N 122 3 = n) {r : Nat → Int} (hr : ∀ i, i < n → 0 ≤ r i ∧ r i < D 4 13) (h133 : ∀ i, i < n → N 133 i = r i) {L : Nat} (hL : L ≤ 12) : ∃ K, ((s_X12_bag_l51 N (L : Int) (1, 0)).bind fun e51 => (s_X12_bag_l75 (L : Int) e51 (0, N)).bind fun e75 => (s_X12_bag_l279 (L : Int) e51 (0, 0, fup e75 122 57 (-1))).bind fun e279 => some (e279.1, e279.2)) = some ((GG (ptf D r n) (20 ^ n) 4 L 0 1000000000000000 (-1, 0)).2, K) ∧ K 122 57 = (GG (ptf D r n) (20 ^ n) 4 L 0 1000000000000000 (-1, 0)).1 ∧ K 122 2 = N 122 2 := by
  have hden := pow20 hn8
  have hden0 : 0 < 20 ^ n := Nat.pow_pos (by decide)
  have l51 : s_X12_bag_l51 N (L : Int) (1, 0) = some ((20 ^ n : Nat) : Int) := by
    unfold s_X12_bag_l51
    have := fLp_for (b := fun s : Int × Int => s_X12_bag_b51 N (L : Int) s.1 s.2) (fun i => (((20 ^ i : Nat) : Int), (i : Int))) n (e := ((20 ^ n : Nat) : Int)) (fun i hi => ?_) ?_
    · exact this
    · show s_X12_bag_b51 N (L : Int) ((20 ^ i : Nat) : Int) (i : Int) = some (.inl (((20 ^ (i + 1) : Nat) : Int), ((i + 1 : Nat) : Int)))
      have hp := pow20 (n := i + 1) (by omega)
      have hp0 := Int.natCast_nonneg (20 ^ (i + 1))
      have e : 20 * ((20 ^ i : Nat) : Int) = ((20 ^ (i + 1) : Nat) : Int) := by rw [Nat.pow_succ, Nat.mul_comm, Int.natCast_mul]; rfl
      unfold s_X12_bag_b51
      rw [hn, if_neg (by omega), e, if_pos (by unfold fin finl; omega)]
      rfl
    · show s_X12_bag_b51 N (L : Int) ((20 ^ n : Nat) : Int) (n : Int) = _
      unfold s_X12_bag_b51
      rw [hn, if_pos (Int.le_refl _)]
  obtain ⟨A, a1, a2, a3⟩ : ∃ e, s_X12_bag_l75 (L : Int) ((20 ^ n : Nat) : Int) (0, N) = some e ∧ ((∀ g a, g < 4 → a < 9 → e 146 (9 * g + a) = ((ptf D r n g a : Nat) : Int)) ∧ ∀ a, a ≠ 146 → a ≠ 147 → e a = N a) := by
    unfold s_X12_bag_l75
    refine fLp_ex (P := fun i s => s.1 = (i : Int) ∧ (∀ g a, g < i → a < 9 → s.2 146 (9 * g + a) = ((ptf D r n g a : Nat) : Int)) ∧ ∀ a, a ≠ 146 → a ≠ 147 → s.2 a = N a) 4 ⟨rfl, fun g a h => by omega, fun a _ _ => rfl⟩ (fun i s hi hp => ?_) (fun s hp => ?_)
    · obtain ⟨l, K⟩ := s
      obtain ⟨p1, p2, p3⟩ := hp
      simp only at p1 p2 p3
      subst p1
      obtain ⟨E, e1, e2, e3, e4⟩ := m_sort9 (N := K) (MRh_row (p3 124 (by decide) (by decide)) hm) hw hn8 (by rw [p3 122 (by decide) (by decide), hn]) hi hr (fun i hi => by rw [p3 133 (by decide) (by decide)]; exact h133 i hi) (L : Int) ((20 ^ n : Nat) : Int)
      refine ⟨((i : Int) + 1, E), e1, by simp, fun g a h1 h2 => ?_, fun a ha ha2 => (e4 a ha ha2).trans (p3 a ha ha2)⟩
      show E 146 (9 * g + a) = _
      by_cases e : g = i
      · subst e; exact e2 a h2
      · rw [e3 _ (by omega)]; exact p2 g a (by omega) h2
    · obtain ⟨l, K⟩ := s
      obtain ⟨p1, p2, p3⟩ := hp
      simp only at p1 p2 p3
      subst p1
      refine ⟨K, ?_, p2, p3⟩
      show s_X12_bag_b75 K (L : Int) ((20 ^ n : Nat) : Int) ((4 : Nat) : Int) = _
      unfold s_X12_bag_b75
      rw [if_pos (by decide)]
  have hle : ∀ g a, g < 4 → ptf D r n g a ≤ 20 ^ n := fun g a hg => ptf_le hw hr hg a
  obtain ⟨pt, hpt⟩ : ∃ pt, pt = ptf D r n := ⟨_, rfl⟩
  rw [← hpt] at a2 hle
  have l279 : s_X12_bag_l279 (L : Int) ((20 ^ n : Nat) : Int) (0, 0, fup A 122 57 (-1)) = some ((fo (frf pt (20 ^ n) L) 6561 (-1, 0)).2, fup A 122 57 (fo (frf pt (20 ^ n) L) 6561 (-1, 0)).1) := by
    unfold s_X12_bag_l279
    have := fLp_for (b := fun s : Int × Int × fM => s_X12_bag_b279 s.2.2 (L : Int) ((20 ^ n : Nat) : Int) s.1 s.2.1) (fun i => ((fo (frf pt (20 ^ n) L) i (-1, 0)).2, (i : Int), fup A 122 57 (fo (frf pt (20 ^ n) L) i (-1, 0)).1)) 6561 (e := ((fo (frf pt (20 ^ n) L) 6561 (-1, 0)).2, fup A 122 57 (fo (frf pt (20 ^ n) L) 6561 (-1, 0)).1)) (fun i hi => ?_) ?_
    · exact this
    · obtain ⟨st, hst⟩ : ∃ st, fo (frf pt (20 ^ n) L) i (-1, 0) = st := ⟨_, rfl⟩
      have hnx : fo (frf pt (20 ^ n) L) (i + 1) (-1, 0) = frf pt (20 ^ n) L i st := by rw [← hst]; rfl
      show s_X12_bag_b279 (fup A 122 57 (fo (frf pt (20 ^ n) L) i (-1, 0)).1) (L : Int) ((20 ^ n : Nat) : Int) (fo (frf pt (20 ^ n) L) i (-1, 0)).2 (i : Int) = some (.inl ((fo (frf pt (20 ^ n) L) (i + 1) (-1, 0)).2, ((i + 1 : Nat) : Int), fup A 122 57 (fo (frf pt (20 ^ n) L) (i + 1) (-1, 0)).1))
      rw [hst, hnx]
      have hfi : fin ((i : Int) + 1) := by unfold fin; omega
      have hlt : ¬ (6561 : Int) ≤ (i : Int) := by omega
      have hsucc : ((i + 1 : Nat) : Int) = (i : Int) + 1 := Int.natCast_succ i
      obtain ⟨g0, g1, g2, g3⟩ := dig9 hi
      obtain ⟨d0, d1, d2, r1, r2, r3⟩ := dig9r hi
      have h146 : fup A 122 57 st.1 146 = A 146 := fup_ne (by decide)
      unfold s_X12_bag_b279 frf HH
      rw [d0, d1, d2, r1, r2, r3, h146]
      clear d0 d1 d2 r1 r2 r3
      generalize i / 729 = a at g0
      generalize i / 81 % 9 = b at g1
      generalize i / 9 % 9 = c at g2
      generalize i % 9 = e at g3
      have row0 : A 146 ((a : Nat) : Int).toNat = ((pt 0 a : Nat) : Int) := by
        rw [← a2 0 a (by decide) g0, show ((a : Nat) : Int).toNat = 9 * 0 + a by omega]
      have row1 : A 146 (9 + ((b : Nat) : Int)).toNat = ((pt 1 b : Nat) : Int) := by
        rw [← a2 1 b (by decide) g1, show (9 + ((b : Nat) : Int)).toNat = 9 * 1 + b by omega]
      have row2 : A 146 (18 + ((c : Nat) : Int)).toNat = ((pt 2 c : Nat) : Int) := by
        rw [← a2 2 c (by decide) g2, show (18 + ((c : Nat) : Int)).toNat = 9 * 2 + c by omega]
      have row3 : A 146 (27 + ((e : Nat) : Int)).toNat = ((pt 3 e : Nat) : Int) := by
        rw [← a2 3 e (by decide) g3, show (27 + ((e : Nat) : Int)).toNat = 9 * 3 + e by omega]
      have v0 := V_le (x := 1000000000000000) (hle 0 a (by decide)) hden0
      have w0 := m_part (fup A 122 57 st.1) (x := 1000000000000000) (Nat.le_refl _) (hle 0 a (by decide)) hden0 hden
      have v1 := V_le (x := 1000000000000000 * pt 0 a / 20 ^ n) (hle 1 b (by decide)) hden0
      have w1 := m_part (fup A 122 57 st.1) (x := 1000000000000000 * pt 0 a / 20 ^ n) (by omega) (hle 1 b (by decide)) hden0 hden
      have v2 := V_le (x := 1000000000000000 * pt 0 a / 20 ^ n * pt 1 b / 20 ^ n) (hle 2 c (by decide)) hden0
      have w2 := m_part (fup A 122 57 st.1) (x := 1000000000000000 * pt 0 a / 20 ^ n * pt 1 b / 20 ^ n) (by omega) (hle 2 c (by decide)) hden0 hden
      have w3 := m_part (fup A 122 57 st.1) (x := 1000000000000000 * pt 0 a / 20 ^ n * pt 1 b / 20 ^ n * pt 2 c / 20 ^ n) (by omega) (hle 3 e (by decide)) hden0 hden
      have w0' : s_X12_part (fup A 122 57 st.1) 1000000000000000 ((pt 0 a : Nat) : Int) ((20 ^ n : Nat) : Int) = some ((1000000000000000 * pt 0 a / 20 ^ n : Nat) : Int) := w0
      have h57 : fup A 122 57 st.1 122 57 = st.1 := rfl
      rw [if_neg hlt, if_pos (show fin (((a : Nat) : Int) + ((b : Nat) : Int)) ∧ fin ((((a : Nat) : Int) + ((b : Nat) : Int)) + ((c : Nat) : Int)) ∧ fin (((((a : Nat) : Int) + ((b : Nat) : Int)) + ((c : Nat) : Int)) + ((e : Nat) : Int)) by unfold fin; omega)]
      by_cases hs : a + b + c + e ≤ L
      · rw [if_pos (show ((((a : Nat) : Int) + ((b : Nat) : Int)) + ((c : Nat) : Int)) + ((e : Nat) : Int) ≤ (L : Int) by omega), if_pos (show 0 ≤ ((a : Nat) : Int) ∧ ((a : Nat) : Int) < 36 by omega), row0, w0', Option.bind_some, if_pos (show fin (9 + ((b : Nat) : Int)) ∧ (0 ≤ 9 + ((b : Nat) : Int) ∧ 9 + ((b : Nat) : Int) < 36) by unfold fin; omega), row1, w1, Option.bind_some, if_pos (show fin (18 + ((c : Nat) : Int)) ∧ (0 ≤ 18 + ((c : Nat) : Int) ∧ 18 + ((c : Nat) : Int) < 36) by unfold fin; omega), row2, w2, Option.bind_some, if_pos (show fin (27 + ((e : Nat) : Int)) ∧ (0 ≤ 27 + ((e : Nat) : Int) ∧ 27 + ((e : Nat) : Int) < 36) by unfold fin; omega), row3, w3, Option.bind_some, h57, if_pos hs, if_pos hfi, if_pos (show fin (1000 * ((a : Nat) : Int)) ∧ fin (100 * ((b : Nat) : Int)) ∧ fin ((1000 * ((a : Nat) : Int)) + (100 * ((b : Nat) : Int))) ∧ fin (10 * ((c : Nat) : Int)) ∧ fin (((1000 * ((a : Nat) : Int)) + (100 * ((b : Nat) : Int))) + (10 * ((c : Nat) : Int))) ∧ fin ((((1000 * ((a : Nat) : Int)) + (100 * ((b : Nat) : Int))) + (10 * ((c : Nat) : Int))) + ((e : Nat) : Int)) by unfold fin; omega)]
        generalize 1000000000000000 * pt 0 a / 20 ^ n * pt 1 b / 20 ^ n * pt 2 c / 20 ^ n * pt 3 e / 20 ^ n = v
        by_cases hv : st.1 < ((v : Nat) : Int)
        · rw [if_pos hv, if_pos hv, fup_fup]
          have hcode : ((1000 * a + 100 * b + 10 * c + e : Nat) : Int) = 1000 * ((a : Nat) : Int) + 100 * ((b : Nat) : Int) + 10 * ((c : Nat) : Int) + ((e : Nat) : Int) := by omega
          rw [hcode, hsucc]
        · rw [if_neg hv, if_neg hv, hsucc, if_pos hfi]
      · rw [if_neg (show ¬ ((((a : Nat) : Int) + ((b : Nat) : Int)) + ((c : Nat) : Int)) + ((e : Nat) : Int) ≤ (L : Int) by omega), if_pos hfi, if_neg hs]
        rfl
    · show s_X12_bag_b279 _ (L : Int) ((20 ^ n : Nat) : Int) _ ((6561 : Nat) : Int) = _
      unfold s_X12_bag_b279
      rw [if_pos (by decide)]
  rw [frf_HH, HH_GG, if_pos (Nat.zero_le _), Nat.sub_zero, hpt] at l279
  refine ⟨fup A 122 57 (GG (ptf D r n) (20 ^ n) 4 L 0 1000000000000000 (-1, 0)).1, ?_, rfl, by show A 122 2 = N 122 2; rw [a3 122 (by decide) (by decide)]⟩
  rw [l51, Option.bind_some, a1, Option.bind_some, l279]
  rfl
theorem k_bag {M : fM} (hI : Iv M) (x : Int) : ∃ v M1 M2, s_X11_bag M x = some (v, M1) ∧ M1 1000 = M 1000 ∧ s_X12_bag M1 x = some (v, M2) ∧ Iv M2 := by
  have hI0 := hI
  obtain ⟨q1, q2, q3, ⟨D, hc, hw, hm, hnm, hr, hn0⟩, -, -⟩ := hI
  obtain ⟨n, hn⟩ : ∃ n : Nat, M 1 2 = (n : Int) := ⟨(M 1 2).toNat, by have := q2.2.1; omega⟩
  have r4 : M 4 = D 4 := CR_r hc 4 (by decide) (by decide)
  have hP := hw.1.1
  have fin1 : ∀ (v : Int) (M1 M2 : fM), s_X11_bag M x = some (v, M1) → M1 1 2 = 0 → s_X12_bag M1 x = some (v, M2) → M2 122 2 = 0 → (M1 67 5 = M2 122 57) → ∃ v M1 M2, s_X11_bag M x = some (v, M1) ∧ M1 1000 = M 1000 ∧ s_X12_bag M1 x = some (v, M2) ∧ Iv M2 := by
    intro v M1 M2 h1 h2 h3 h4 h5
    have f1 : fSame s_X11_bag_mods M M1 := s_X11_bag_fr h1
    have f2 : fSame s_X12_bag_mods M1 M2 := s_X12_bag_fr h3
    have fAll : fSame (s_X11_bag_mods ++ s_X12_bag_mods) M M2 := fs_trans (fs_mono (fun x hx => List.mem_append_left _ hx) f1) (fs_mono (fun x hx => List.mem_append_right _ hx) f2)
    refine ⟨v, M1, M2, h1, fs_row f1 1000 (by decide), h3, Iv_mk hI0 fAll (by decide) (by decide) (Tp_taken fAll (by decide) (by rw [fs_row f2 1 (by decide), h2]) h4 q2) ?_⟩
    obtain ⟨o1, o2, o3, o4, o5, o6⟩ := q3
    refine ⟨?_, ?_, ?_, ?_, ?_, ?_⟩
    · rw [fs_at fAll 0 14 (by decide), fs_at fAll 122 15 (by decide)]; exact o1
    · rw [fs_at fAll 47 7 (by decide), fs_at fAll 122 31 (by decide), fs_at fAll 47 8 (by decide), fs_at fAll 122 32 (by decide)]; exact o2
    · rw [fs_at fAll 54 15 (by decide), fs_at fAll 122 51 (by decide), fs_row fAll 66 (by decide), fs_row fAll 142 (by decide)]; exact o3
    · rw [fs_at fAll 54 16 (by decide), fs_at fAll 122 49 (by decide)]; exact o4
    · rw [fs_row f2 67 (by decide)]; exact h5
    · rw [fs_at fAll 70 3 (by decide), fs_at fAll 122 60 (by decide), fs_row fAll 72 (by decide), fs_row fAll 148 (by decide)]; exact o6
  obtain ⟨K, hmv⟩ := c_move68 q2 hn (P := D 4 13) (by omega)
  have same : ∀ (Q : fM), (∀ a, a ≠ 67 → a ≠ 68 → a ≠ 69 → Q a = fup M 1 2 0 a) → ∃ N, s_X12_taken (fup Q 122 0 0) 1240 = some ((), N) ∧ N 122 3 = n ∧ N 122 2 = 0 ∧ MRh N 124 0 D ∧ MRr N 125 0 D ∧ N 122 10 = D 18 8 ∧ (∀ i, bys N i = oct M i) ∧ N 122 57 = M 122 57 := by
    intro Q hQ
    obtain ⟨N, n1, n2, n3, n4⟩ := m_taken (fup Q 122 0 0) 1240
    have row : ∀ a, a ≠ 122 → N a = Q a := fun a ha => by rw [fs_row n4 a (fun x hx e => by have := (by decide : ∀ x ∈ s_X12_taken_mods, x.1 = 122) x hx; omega), fup_ne ha]
    refine ⟨N, n1, ?_, n3, ?_, ?_, ?_, ?_, ?_⟩
    · rw [n2]
      show Q 122 2 = _
      rw [hQ 122 (by decide) (by decide) (by decide), fup_ne (by decide), q2.1, hn]
    · exact MRh_row (by rw [row 124 (by decide), hQ 124 (by decide) (by decide) (by decide), fup_ne (by decide)]) hm
    · exact MRr_row (by rw [row 125 (by decide), hQ 125 (by decide) (by decide) (by decide), fup_ne (by decide)]) hr
    · rw [fs_at n4 122 10 (by decide)]
      show Q 122 10 = _
      rw [hQ 122 (by decide) (by decide) (by decide), fup_ne (by decide), hn0]
    · intro i
      unfold bys oct
      rw [row 123 (by decide), hQ 123 (by decide) (by decide) (by decide), fup_ne (by decide), q2.2.2.1]
    · rw [fs_at n4 122 57 (by decide)]
      show Q 122 57 = _
      rw [hQ 122 (by decide) (by decide) (by decide), fup_ne (by decide)]
  by_cases hgood : ((n ≤ 8 ∧ okAll (D 4 13) (oct M) n) ∧ 0 < n) ∧ (0 ≤ x ∧ x ≤ 12)
  · obtain ⟨⟨⟨hn8, hall⟩, hpos⟩, hx⟩ := hgood
    obtain ⟨L, rfl⟩ : ∃ L : Nat, x = (L : Int) := ⟨x.toNat, by omega⟩
    rcases hmv with ⟨a1, -, -, a4, a5⟩ | ⟨-, a2, -⟩
    · have hcK : CR K 0 D := fun k h1 h2 => by
        show K k = _
        rw [a5 k (by omega), fup_ne (by omega)]
        exact hc k h1 h2
      have hrr : ∀ i, i < n → 0 ≤ oct M i ∧ oct M i < D 4 13 := fun i hi => ⟨(oct_b q2 i).1, (hall i hi).1⟩
      obtain ⟨K1, b1, b2⟩ := c_pack hcK hw hn8 hrr a4 (L := L) (by omega)
      have fb : fSame s_X9_pack_mods K K1 := s_X9_pack_fr b1
      have hQ : ∀ a, a ≠ 67 → a ≠ 68 → a ≠ 69 → K1 a = fup M 1 2 0 a := fun a h1 h2 h3 => by
        rw [fs_row fb a (fun x hx e => by have := (by decide : ∀ x ∈ s_X9_pack_mods, x.1 = 67 ∨ x.1 = 69) x hx; omega), a5 a h2]
      obtain ⟨N, n1, n2, n3, n4, n5, n6, n7, n8⟩ := same K1 hQ
      have hb7 : bys N = oct M := funext n7
      obtain ⟨N1, t1, t2⟩ := (m_tells n4 n5 n6 hw n2 (fun i => by rw [n7]; exact oct_b q2 i) 0 0).1 ⟨by omega, by decide, by rw [hb7]; exact hall⟩
      rw [if_pos rfl, hb7] at t2
      have ft : fSame s_X12_tells_mods N N1 := s_X12_tells_fr t1
      have hmN1 : MRh N1 124 0 D := MRh_row (fs_row ft 124 (by decide)) n4
      have h3N1 : N1 122 3 = n := by rw [fs_at ft 122 3 (by decide), n2]
      obtain ⟨N2, u1, u2, u3⟩ := m_bagl hmN1 hw hn8 h3N1 hrr (fun i hi => (t2.1 i hi).1) (L := L) (by omega)
      have hcl : s_X11_bag M (L : Int) = some ((GG (ptf D (oct M) n) (20 ^ n) 4 L 0 1000000000000000 (-1, 0)).2, K1) := by
        unfold s_X11_bag
        rw [r4, a1, Option.bind_some]
        show (if (n : Int) < 1 then _ else (s_X11_isWithin K (L : Int) 13).bind _) = _
        rw [if_neg (by omega), c_isWithin, Option.bind_some, bit_ifn, if_pos (by omega)]
        show (s_X9_pack K (n : Int) (L : Int)).bind _ = _
        rw [b1]
        rfl
      have hml : s_X12_bag K1 (L : Int) = some ((GG (ptf D (oct M) n) (20 ^ n) 4 L 0 1000000000000000 (-1, 0)).2, N2) := by
        unfold s_X12_bag
        rw [n1, Option.bind_some]
        show (s_X12_isIn N (L : Int) 0 12).bind _ = _
        rw [m_isIn, Option.bind_some, bit_if, if_pos (by omega)]
        show (s_X12_isIn N (N 122 3) 1 8).bind _ = _
        rw [m_isIn, Option.bind_some, bit_if, n2, if_pos (by omega)]
        show (s_X12_tells N 0 0).bind _ = _
        rw [t1, Option.bind_some]
        show (if ¬ (1 : Int) = 0 then _ else _) = _
        rw [if_pos (by decide)]
        exact u1
      have f3 : N2 122 2 = 0 := by rw [u3, fs_at ft 122 2 (by decide), n3]
      exact fin1 _ K1 N2 hcl (by rw [hQ 1 (by decide) (by decide) (by decide)]; rfl) hml f3 (by rw [b2, u2])
    · exact absurd ⟨hn8, hall⟩ a2
  · have hcl : s_X11_bag M x = some (-1, K) ∧ ∀ a, a ≠ 68 → K a = fup M 1 2 0 a := by
      unfold s_X11_bag
      rw [r4]
      rcases hmv with ⟨a1, a2, a3, a4, a5⟩ | ⟨a1, a2, a5⟩
      · refine ⟨?_, a5⟩
        rw [a1, Option.bind_some]
        show (if (n : Int) < 1 then some (-1, K) else (s_X11_isWithin K x 13).bind _) = _
        by_cases h1 : (n : Int) < 1
        · rw [if_pos h1]
        · rw [if_neg h1, c_isWithin, Option.bind_some, bit_ifn, if_neg (fun e => hgood ⟨⟨⟨a2, a3⟩, by omega⟩, by omega⟩)]
      · refine ⟨?_, a5⟩
        rw [a1, Option.bind_some]
        show (if (-1 : Int) < 1 then _ else _) = _
        rw [if_pos (by decide)]
    obtain ⟨hcl, a5⟩ := hcl
    obtain ⟨N, n1, n2, n3, n4, n5, n6, n7, n8⟩ := same K (fun a _ h1 _ => a5 a h1)
    have hb7 : bys N = oct M := funext n7
    have z1 : K 1 2 = 0 := by rw [a5 1 (by decide)]; rfl
    have z5 : K 67 5 = M 122 57 := by rw [a5 67 (by decide), fup_ne (by decide)]; exact q3.2.2.2.2.1
    by_cases hx : 0 ≤ x ∧ x ≤ 12
    · by_cases hn1 : 1 ≤ (n : Int) ∧ (n : Int) ≤ 8
      · obtain ⟨N1, t1⟩ := (m_tells n4 n5 n6 hw n2 (fun i => by rw [n7]; exact oct_b q2 i) 0 0).2 (by rw [hb7]; exact fun e => hgood ⟨⟨⟨by omega, e.2.2⟩, by omega⟩, hx⟩)
        have ft : fSame s_X12_tells_mods N N1 := s_X12_tells_fr t1
        refine fin1 (-1) K N1 hcl z1 ?_ (by rw [fs_at ft 122 2 (by decide), n3]) (by rw [fs_at ft 122 57 (by decide), n8, z5])
        unfold s_X12_bag
        rw [n1, Option.bind_some]
        show (s_X12_isIn N x 0 12).bind _ = _
        rw [m_isIn, Option.bind_some, bit_if, if_pos hx]
        show (s_X12_isIn N (N 122 3) 1 8).bind _ = _
        rw [m_isIn, Option.bind_some, bit_if, n2, if_pos hn1]
        show (s_X12_tells N 0 0).bind _ = _
        rw [t1, Option.bind_some]
        show (if ¬ (0 : Int) = 0 then _ else _) = _
        rw [if_neg (by decide)]
      · refine fin1 (-1) K N hcl z1 ?_ n3 (by rw [n8, z5])
        unfold s_X12_bag
        rw [n1, Option.bind_some]
        show (s_X12_isIn N x 0 12).bind _ = _
        rw [m_isIn, Option.bind_some, bit_if, if_pos hx]
        show (s_X12_isIn N (N 122 3) 1 8).bind _ = _
        rw [m_isIn, Option.bind_some, bit_if, n2, if_neg hn1]
    · refine fin1 (-1) K N hcl z1 ?_ n3 (by rw [n8, z5])
      unfold s_X12_bag
      rw [n1, Option.bind_some]
      show (s_X12_isIn N x 0 12).bind _ = _
      rw [m_isIn, Option.bind_some, bit_if, if_neg hx]
