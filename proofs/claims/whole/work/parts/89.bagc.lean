/-! ===== bags: class ===== -/
def qf (D : fM) (r : Nat → Int) (g j : Nat) : Nat := (D 12 (r j * 4 + (g : Int)).toNat).toNat
/-- how often at most c of a sort break, of 20 ^ n -/
def ptf (D : fM) (r : Nat → Int) (n g c : Nat) : Nat := ps (fun j => if j < n then qf D r g j else 0) n c
theorem qf_bd {D : fM} (hw : WF D) {r : Nat → Int} {n g j : Nat} (hr : ∀ i, i < n → 0 ≤ r i ∧ r i < D 4 13) (hg : g < 4) (hj : j < n) : qf D r g j ≤ 20 ∧ D 12 (r j * 4 + (g : Int)).toNat = ((qf D r g j : Nat) : Int) := by
  have := (hw.2.2.2.2.2.2.1 (r j) (hr j hj).1 (hr j hj).2).2 (g : Int) (by omega) (by omega)
  unfold qf
  omega
theorem qn_bd {D : fM} (hw : WF D) {r : Nat → Int} {n g : Nat} (hr : ∀ i, i < n → 0 ≤ r i ∧ r i < D 4 13) (hg : g < 4) : ∀ j, (if j < n then qf D r g j else 0) ≤ 20 := by
  intro j
  split
  · rename_i h
    exact (qf_bd hw hr hg h).1
  · exact Nat.zero_le _
theorem ptf_le {D : fM} (hw : WF D) {r : Nat → Int} {n g : Nat} (hr : ∀ i, i < n → 0 ≤ r i ∧ r i < D 4 13) (hg : g < 4) (c : Nat) : ptf D r n g c ≤ 20 ^ n := ps_le (qn_bd hw hr hg) n c
theorem ptf_top (D : fM) (r : Nat → Int) (n g a : Nat) (h : n ≤ a) : ptf D r n g a = ptf D r n g n := by
  unfold ptf
  obtain ⟨k, rfl⟩ : ∃ k, a = n + k := ⟨a - n, by omega⟩
  exact ps_top _ n k
theorem pow20 {n : Nat} (h : n ≤ 8) : 20 ^ n ≤ 25600000000 := Nat.le_trans (Nat.pow_le_pow_right (by decide) h) (by decide)
theorem pa_bd {q : Nat → Nat} (hq : ∀ i, q i ≤ 20) {j : Nat} (hj : j ≤ 8) (c : Nat) : pa q j c ≤ 25600000000 := Nat.le_trans (pa_ps q j c) (Nat.le_trans (ps_le hq j c) (pow20 hj))
/-- one coefficient anew -/
theorem pa_step {q : Nat → Nat} (hq : ∀ i, q i ≤ 20) {j c : Nat} (hj : j < 8) : ((pa q j c : Nat) : Int) * (20 - ((q j : Nat) : Int)) = ((pa q j c * (20 - q j) : Nat) : Int) ∧ ((pa q j (c - 1) : Nat) : Int) * ((q j : Nat) : Int) = ((pa q j (c - 1) * q j : Nat) : Int) ∧ pa q j c * (20 - q j) ≤ 25600000000 * 20 ∧ pa q j (c - 1) * q j ≤ 25600000000 * 20 := by
  have h := hq j
  refine ⟨?_, (Int.natCast_mul _ _).symm, Nat.mul_le_mul (pa_bd hq (by omega) c) (by omega), Nat.mul_le_mul (pa_bd hq (by omega) (c - 1)) h⟩
  rw [show (20 : Int) - ((q j : Nat) : Int) = ((20 - q j : Nat) : Int) by omega]
  exact (Int.natCast_mul _ _).symm
theorem c_count {M D : fM} (hc : CR M 0 D) (hw : WF D) {n g : Nat} (hn8 : n ≤ 8) (hn : M 67 3 = n) (hg : g < 4) {r : Nat → Int} (hr : ∀ i, i < n → 0 ≤ r i ∧ r i < D 4 13) (h68 : ∀ i, i < n → M 68 i = r i) : ∃ K, s_X9_countParts M (g : Int) = some ((), K) ∧ (∀ c, c < 9 → K 69 (g * 9 + c) = ((ptf D r n g c : Nat) : Int)) ∧ (∀ x, x < g * 9 ∨ g * 9 + 9 ≤ x → K 69 x = M 69 x) ∧ ∀ a, a ≠ 69 → K a = M a := by
  have hq := qn_bd hw hr hg
  generalize hqd : (fun j => if j < n then qf D r g j else 0) = q at hq
  have hq2 : ∀ i, q i ≤ 20 := fun i => by rw [← hqd]; exact hq i
  have e9 : (g : Int) * 9 = ((g * 9 : Nat) : Int) := by omega
  obtain ⟨A, a1, a2, a3, a4⟩ : ∃ e, s_X9_countParts_l7 (g : Int) ((g * 9 : Nat) : Int) (0, M) = some e ∧ ((∀ c, c < 9 → e 69 (g * 9 + c) = ((pa q 0 c : Nat) : Int)) ∧ (∀ x, x < g * 9 ∨ g * 9 + 9 ≤ x → e 69 x = M 69 x) ∧ ∀ a, a ≠ 69 → e a = M a) := by
    unfold s_X9_countParts_l7
    refine fLp_ex (P := fun i s => s.1 = (i : Int) ∧ (∀ c, c < i → s.2 69 (g * 9 + c) = ((pa q 0 c : Nat) : Int)) ∧ (∀ x, x < g * 9 ∨ g * 9 + 9 ≤ x → s.2 69 x = M 69 x) ∧ ∀ a, a ≠ 69 → s.2 a = M a) 9 ⟨rfl, fun c h => by omega, fun x _ => rfl, fun a _ => rfl⟩ (fun i s hi hp => ?_) (fun s hp => ?_)
    · obtain ⟨l, K⟩ := s
      obtain ⟨p1, p2, p3, p4⟩ := hp
      simp only at p1 p2 p3 p4
      subst p1
      refine ⟨((i : Int) + 1, fup K 69 (g * 9 + i) ((pa q 0 i : Nat) : Int)), ?_, by simp, fun c h => ?_, fun x h => ?_, fun a ha => ?_⟩
      · show s_X9_countParts_b7 K (g : Int) ((g * 9 : Nat) : Int) (i : Int) = _
        unfold s_X9_countParts_b7
        rw [if_neg (by omega), if_pos (by unfold fin; omega), show (((g * 9 : Nat) : Int) + (i : Int)).toNat = g * 9 + i by omega]
        have hpa : pa q 0 i = if i = 0 then 1 else 0 := rfl
        rw [hpa]
        by_cases h0 : i = 0
        · rw [if_neg (by omega), if_pos (by unfold fin; omega), if_pos h0]
          rfl
        · rw [if_pos (by omega), if_pos (by unfold fin; omega), if_neg h0]
          rfl
      · show fup K 69 (g * 9 + i) _ 69 (g * 9 + c) = _
        rw [fup_eq]
        unfold upd1
        by_cases e : c = i
        · subst e; rw [if_pos rfl]
        · rw [if_neg (by omega)]; exact p2 c (by omega)
      · show fup K 69 (g * 9 + i) _ 69 x = _
        rw [fup_eq, upd1_ne (by omega)]
        exact p3 x h
      · show fup K 69 (g * 9 + i) _ a = _
        rw [fup_ne ha, p4 a ha]
    · obtain ⟨l, K⟩ := s
      obtain ⟨p1, p2, p3, p4⟩ := hp
      simp only at p1 p2 p3 p4
      subst p1
      refine ⟨K, ?_, p2, p3, p4⟩
      show s_X9_countParts_b7 K (g : Int) ((g * 9 : Nat) : Int) ((9 : Nat) : Int) = _
      unfold s_X9_countParts_b7
      rw [if_pos (by omega)]
  have inner : ∀ (j : Nat) (K0 : fM), j < n → (∀ c, c < 9 → K0 69 (g * 9 + c) = ((pa q j c : Nat) : Int)) → ∃ e, s_X9_countParts_l71 (g : Int) ((g * 9 : Nat) : Int) (j : Int) ((q j : Nat) : Int) ((j : Int) + 1, K0) = some e ∧ ((∀ c, c < 9 → e 69 (g * 9 + c) = ((pa q (j + 1) c : Nat) : Int)) ∧ (∀ x, x < g * 9 ∨ g * 9 + 9 ≤ x → e 69 x = K0 69 x) ∧ ∀ a, a ≠ 69 → e a = K0 a) := by
    intro j K0 hj h0
    unfold s_X9_countParts_l71
    refine fLp_ex (P := fun i s => s.1 = (j : Int) + 1 - (i : Int) ∧ (∀ c, c < 9 → (j + 1 < c + i → s.2 69 (g * 9 + c) = ((pa q (j + 1) c : Nat) : Int)) ∧ (c + i ≤ j + 1 → s.2 69 (g * 9 + c) = ((pa q j c : Nat) : Int))) ∧ (∀ x, x < g * 9 ∨ g * 9 + 9 ≤ x → s.2 69 x = K0 69 x) ∧ ∀ a, a ≠ 69 → s.2 a = K0 a) (j + 2) ⟨by simp, fun c hc => ⟨fun h => ?_, fun _ => h0 c hc⟩, fun x _ => rfl, fun a _ => rfl⟩ (fun i s hi hp => ?_) (fun s hp => ?_)
    · show K0 69 (g * 9 + c) = _
      rw [h0 c hc, pa_zero q j c (by omega), pa_zero q (j + 1) c (by omega)]
    · obtain ⟨l, K⟩ := s
      obtain ⟨p1, p2, p3, p4⟩ := hp
      simp only at p1 p2 p3 p4
      obtain ⟨c0, hc0⟩ : ∃ c0, c0 = j + 1 - i := ⟨_, rfl⟩
      have p1' : l = (c0 : Int) := by omega
      subst p1'
      have hval := (p2 c0 (by omega)).2 (by omega)
      obtain ⟨s1, s2, s3, s4⟩ := pa_step (q := q) hq2 (j := j) (c := c0) (by omega)
      have hq20 := hq2 j
      have hpb := pa_bd hq2 (j := j) (by omega) c0
      have jn : ∀ t0 : Nat, t0 * q j = (if c0 = 0 then 0 else pa q j (c0 - 1) * q j) → t0 * q j ≤ 25600000000 * 20 → s_X9_countParts_j96 K (g : Int) ((g * 9 : Nat) : Int) (j : Int) ((q j : Nat) : Int) (c0 : Int) (t0 : Int) = some (.inl ((c0 : Int) + (-1), fup K 69 (g * 9 + c0) ((pa q (j + 1) c0 : Nat) : Int))) := by
        intro t0 ht hb
        unfold s_X9_countParts_j96
        rw [show (((g * 9 : Nat) : Int) + (c0 : Int)).toNat = g * 9 + c0 by omega, hval, s1, (Int.natCast_mul t0 (q j)).symm, if_pos (by unfold fin finl; omega), if_pos (by unfold fin finl; omega), ← Int.natCast_add, ht]
        rfl
      refine ⟨((c0 : Int) + (-1), fup K 69 (g * 9 + c0) ((pa q (j + 1) c0 : Nat) : Int)), ?_, by simp only; omega, fun c hc => ?_, fun x h => ?_, fun a ha => ?_⟩
      · show s_X9_countParts_b71 K (g : Int) ((g * 9 : Nat) : Int) (j : Int) ((q j : Nat) : Int) (c0 : Int) = _
        unfold s_X9_countParts_b71
        rw [if_neg (by omega)]
        by_cases hz : c0 = 0
        · rw [if_neg (by omega)]
          exact jn 0 (by rw [if_pos hz, Nat.zero_mul]) (by rw [Nat.zero_mul]; exact Nat.zero_le _)
        · have hval2 := (p2 (c0 - 1) (by omega)).2 (by omega)
          rw [if_pos (by omega), if_pos (by unfold fin; omega), show (((g * 9 : Nat) : Int) + (c0 : Int) - 1).toNat = g * 9 + (c0 - 1) by omega, hval2]
          exact jn _ (by rw [if_neg hz]) s4
      · show (_ → fup K 69 (g * 9 + c0) _ 69 (g * 9 + c) = _) ∧ (_ → fup K 69 (g * 9 + c0) _ 69 (g * 9 + c) = _)
        rw [fup_eq]
        unfold upd1
        by_cases e : c = c0
        · subst e
          rw [if_pos rfl]
          exact ⟨fun _ => rfl, fun h => by omega⟩
        · rw [if_neg (by omega)]
          exact ⟨fun h => (p2 c hc).1 (by omega), fun h => (p2 c hc).2 (by omega)⟩
      · show fup K 69 (g * 9 + c0) _ 69 x = _
        rw [fup_eq, upd1_ne (by omega)]
        exact p3 x h
      · show fup K 69 (g * 9 + c0) _ a = _
        rw [fup_ne ha, p4 a ha]
    · obtain ⟨l, K⟩ := s
      obtain ⟨p1, p2, p3, p4⟩ := hp
      simp only at p1 p2 p3 p4
      refine ⟨K, ?_, fun c hc => (p2 c hc).1 (by omega), p3, p4⟩
      show s_X9_countParts_b71 K (g : Int) ((g * 9 : Nat) : Int) (j : Int) ((q j : Nat) : Int) l = _
      unfold s_X9_countParts_b71
      rw [if_pos (by omega)]
  obtain ⟨B, b1, b2, b3, b4⟩ : ∃ e, s_X9_countParts_l38 (g : Int) ((g * 9 : Nat) : Int) (0, A) = some e ∧ ((∀ c, c < 9 → e 69 (g * 9 + c) = ((pa q n c : Nat) : Int)) ∧ (∀ x, x < g * 9 ∨ g * 9 + 9 ≤ x → e 69 x = M 69 x) ∧ ∀ a, a ≠ 69 → e a = M a) := by
    unfold s_X9_countParts_l38
    refine fLp_ex (P := fun i s => s.1 = (i : Int) ∧ (∀ c, c < 9 → s.2 69 (g * 9 + c) = ((pa q i c : Nat) : Int)) ∧ (∀ x, x < g * 9 ∨ g * 9 + 9 ≤ x → s.2 69 x = M 69 x) ∧ ∀ a, a ≠ 69 → s.2 a = M a) n ⟨rfl, a2, a3, a4⟩ (fun i s hi hp => ?_) (fun s hp => ?_)
    · obtain ⟨l, K⟩ := s
      obtain ⟨p1, p2, p3, p4⟩ := hp
      simp only at p1 p2 p3 p4
      subst p1
      obtain ⟨E, e1, e2, e3, e4⟩ := inner i K hi p2
      have hqi : D 12 (r i * 4 + (g : Int)).toNat = ((q i : Nat) : Int) := by
        rw [(qf_bd hw hr hg hi).2, ← hqd]
        show _ = (((if i < n then qf D r g i else 0) : Nat) : Int)
        rw [if_pos hi]
      have hri := hr i hi
      have hP := hw.1.1
      refine ⟨((i : Int) + 1, E), ?_, by simp, e2, fun x h => (e3 x h).trans (p3 x h), fun a ha => (e4 a ha).trans (p4 a ha)⟩
      show s_X9_countParts_b38 K (g : Int) ((g * 9 : Nat) : Int) (i : Int) = _
      unfold s_X9_countParts_b38
      rw [p4 67 (by decide), hn, if_neg (by omega), show (i : Int).toNat = i from rfl, p4 68 (by decide), h68 i hi, if_pos (by unfold fin; omega), if_pos (by unfold fin; omega), p4 12 (by decide), CR_r hc 12 (by decide) (by decide), hqi, e1, Option.bind_some, if_pos (by unfold fin; omega)]
    · obtain ⟨l, K⟩ := s
      obtain ⟨p1, p2, p3, p4⟩ := hp
      simp only at p1 p2 p3 p4
      subst p1
      refine ⟨K, ?_, p2, p3, p4⟩
      show s_X9_countParts_b38 K (g : Int) ((g * 9 : Nat) : Int) (n : Int) = _
      unfold s_X9_countParts_b38
      rw [p4 67 (by decide), hn, if_pos (Int.le_refl _)]
  obtain ⟨C, c1, c2, c3, c4⟩ : ∃ e, s_X9_countParts_l144 ((g * 9 : Nat) : Int) (1, B) = some e ∧ ((∀ c, c < 9 → e 69 (g * 9 + c) = ((ps q n c : Nat) : Int)) ∧ (∀ x, x < g * 9 ∨ g * 9 + 9 ≤ x → e 69 x = M 69 x) ∧ ∀ a, a ≠ 69 → e a = M a) := by
    unfold s_X9_countParts_l144
    refine fLp_ex (P := fun i s => s.1 = (i : Int) + 1 ∧ (∀ c, c < 9 → (c ≤ i → s.2 69 (g * 9 + c) = ((ps q n c : Nat) : Int)) ∧ (i < c → s.2 69 (g * 9 + c) = ((pa q n c : Nat) : Int))) ∧ (∀ x, x < g * 9 ∨ g * 9 + 9 ≤ x → s.2 69 x = M 69 x) ∧ ∀ a, a ≠ 69 → s.2 a = M a) 8 ⟨rfl, fun c hc => ⟨fun h => ?_, fun h => b2 c hc⟩, b3, b4⟩ (fun i s hi hp => ?_) (fun s hp => ?_)
    · have : c = 0 := by omega
      subst this
      exact b2 0 (by omega)
    · obtain ⟨l, K⟩ := s
      obtain ⟨p1, p2, p3, p4⟩ := hp
      simp only at p1 p2 p3 p4
      have p1' : l = ((i + 1 : Nat) : Int) := by omega
      subst p1'
      have v1 := (p2 i (by omega)).1 (Nat.le_refl _)
      have v2 := (p2 (i + 1) (by omega)).2 (by omega)
      have bb1 := Nat.le_trans (ps_le hq2 n i) (pow20 hn8)
      have bb2 := pa_bd hq2 hn8 (i + 1)
      refine ⟨(((i + 1 : Nat) : Int) + 1, fup K 69 (g * 9 + (i + 1)) ((ps q n (i + 1) : Nat) : Int)), ?_, by simp, fun c hc => ?_, fun x h => ?_, fun a ha => ?_⟩
      · show s_X9_countParts_b144 K ((g * 9 : Nat) : Int) ((i + 1 : Nat) : Int) = _
        unfold s_X9_countParts_b144
        rw [if_neg (by omega), show (((g * 9 : Nat) : Int) + ((i + 1 : Nat) : Int)).toNat = g * 9 + (i + 1) by omega, show (((g * 9 : Nat) : Int) + ((i + 1 : Nat) : Int) - 1).toNat = g * 9 + i by omega, v1, v2, if_pos (by unfold fin finl; omega), if_pos (by unfold fin; omega), ← Int.natCast_add, Nat.add_comm (pa q n (i + 1))]
        rfl
      · show (_ → fup K 69 (g * 9 + (i + 1)) _ 69 (g * 9 + c) = _) ∧ (_ → fup K 69 (g * 9 + (i + 1)) _ 69 (g * 9 + c) = _)
        rw [fup_eq]
        unfold upd1
        by_cases e : c = i + 1
        · subst e
          rw [if_pos rfl]
          exact ⟨fun _ => rfl, fun h => by omega⟩
        · rw [if_neg (by omega)]
          exact ⟨fun h => (p2 c hc).1 (by omega), fun h => (p2 c hc).2 (by omega)⟩
      · show fup K 69 (g * 9 + (i + 1)) _ 69 x = _
        rw [fup_eq, upd1_ne (by omega)]
        exact p3 x h
      · show fup K 69 (g * 9 + (i + 1)) _ a = _
        rw [fup_ne ha, p4 a ha]
    · obtain ⟨l, K⟩ := s
      obtain ⟨p1, p2, p3, p4⟩ := hp
      simp only at p1 p2 p3 p4
      refine ⟨K, ?_, fun c hc => (p2 c hc).1 (by omega), p3, p4⟩
      show s_X9_countParts_b144 K ((g * 9 : Nat) : Int) l = _
      unfold s_X9_countParts_b144
      rw [if_pos (by omega)]
  refine ⟨C, ?_, ?_, c3, c4⟩
  · unfold s_X9_countParts
    rw [if_pos (by unfold fin; omega), e9, a1, Option.bind_some, b1, Option.bind_some, c1]
    rfl
  · intro c hc
    rw [c2 c hc]
    unfold ptf
    rw [hqd]
/-- best and its code in the class -/
def setB (K : fM) (st : Int × Int) : fM := fup (fup K 67 5 st.1) 67 4 st.2
theorem setB_id (K : fM) : setB K (K 67 5, K 67 4) = K := by
  funext a j
  unfold setB fup
  by_cases h : a = 67 ∧ j = 4
  · rw [if_pos h, h.1, h.2]
  · rw [if_neg h]
    by_cases h2 : a = 67 ∧ j = 5
    · rw [if_pos h2, h2.1, h2.2]
    · rw [if_neg h2]
theorem setB_5 (K : fM) (st : Int × Int) : setB K st 67 5 = st.1 := rfl
theorem setB_4 (K : fM) (st : Int × Int) : setB K st 67 4 = st.2 := rfl
theorem setB_3 (K : fM) (st : Int × Int) : setB K st 67 3 = K 67 3 := rfl
theorem setB_69 (K : fM) (st : Int × Int) : setB K st 69 = K 69 := by unfold setB; rw [fup_ne (by decide), fup_ne (by decide)]
theorem setB_setB (K : fM) (a b : Int × Int) : setB (setB K a) b = setB K b := by
  funext k j
  unfold setB fup
  by_cases h : k = 67 ∧ j = 4
  · rw [if_pos h, if_pos h]
  · rw [if_neg h, if_neg h]
    by_cases h2 : k = 67 ∧ j = 5
    · simp only [if_neg h, if_pos h2]
    · simp only [if_neg h, if_neg h2]
theorem V_le {x c den : Nat} (hc : c ≤ den) (hden : 0 < den) : x * c / den ≤ x := by
  have h1 : x * c ≤ x * den := Nat.mul_le_mul_left x hc
  have h2 := Nat.div_le_div_right (c := den) h1
  rw [Nat.mul_div_cancel _ hden] at h2
  exact h2
section
variable {pt : Nat → Nat → Nat} {n : Nat}
theorem c_mostOf {K : fM} (hn : K 67 3 = n) (L m : Nat) (hm : m = if n < L then n else L) : s_X9_mostOf K (L : Int) = some (m : Int) := by
  unfold s_X9_mostOf
  rw [c_min, Option.bind_some, hn, hm]
  by_cases h : n < L
  · rw [if_pos h, if_pos (by omega)]
  · rw [if_neg h, if_neg (by omega)]
theorem setB_two (K : fM) (st : Int × Int) (v w : Int) : fup (fup (setB K st) 67 5 v) 67 4 w = setB K (v, w) := by
  rw [← setB_setB K st (v, w)]
  rfl
theorem c_tryRest_l26 {K : fM} (hn : K 67 3 = n) (hn8 : n ≤ 8) (hrow : ∀ g a, g < 4 → a < 9 → K 69 (g * 9 + a) = ((pt g a : Nat) : Int)) (hle : ∀ g a, g < 4 → pt g a ≤ 20 ^ n) {L code c w : Nat} (l3 : Int) (hL : L ≤ 12) (hc : c ≤ L) (hc8 : c ≤ 8) (hcode : code ≤ 99) (hw : w ≤ 1000000000000000) : s_X9_tryRest_l26 (L : Int) (code : Int) l3 (c : Int) (w : Int) (0, K) = some (setB K (FF pt (20 ^ n) n 1 (L - c) ((code * 10 + c)) (w) (K 67 5, K 67 4))) := by
  obtain ⟨m, hm⟩ : ∃ m, m = if n < L - c then n else L - c := ⟨_, rfl⟩
  have hmL : m ≤ L - c ∧ m ≤ 8 := by rw [hm]; split <;> omega
  unfold s_X9_tryRest_l26
  have := fLp_for (b := fun s : Int × fM => s_X9_tryRest_b26 s.2 (L : Int) (code : Int) l3 (c : Int) (w : Int) s.1) (fun i => ((i : Int), setB K (fo (fun a st => FF pt (20 ^ n) n 0 (L - c - a) ((code * 10 + c) * 10 + a) (w * pt 3 a / 20 ^ n) st) i (K 67 5, K 67 4)))) (m + 1) (e := setB K (FF pt (20 ^ n) n 1 (L - c) ((code * 10 + c)) (w) (K 67 5, K 67 4))) (fun i hi => ?_) ?_
  · rw [show ((0 : Int), K) = (((0 : Nat) : Int), setB K (fo (fun a st => FF pt (20 ^ n) n 0 (L - c - a) ((code * 10 + c) * 10 + a) (w * pt 3 a / 20 ^ n) st) 0 (K 67 5, K 67 4))) from by rw [show fo (fun a st => FF pt (20 ^ n) n 0 (L - c - a) ((code * 10 + c) * 10 + a) (w * pt 3 a / 20 ^ n) st) 0 (K 67 5, K 67 4) = (K 67 5, K 67 4) from rfl, setB_id]; rfl]
    exact this
  · obtain ⟨st, hst⟩ : ∃ st, fo (fun a st => FF pt (20 ^ n) n 0 (L - c - a) ((code * 10 + c) * 10 + a) (w * pt 3 a / 20 ^ n) st) i (K 67 5, K 67 4) = st := ⟨_, rfl⟩
    have hnext : fo (fun a st => FF pt (20 ^ n) n 0 (L - c - a) ((code * 10 + c) * 10 + a) (w * pt 3 a / 20 ^ n) st) (i + 1) (K 67 5, K 67 4) = FF pt (20 ^ n) n 0 (L - c - i) ((code * 10 + c) * 10 + i) (w * pt 3 i / 20 ^ n) st := by rw [← hst]; rfl
    show s_X9_tryRest_b26 (setB K (fo (fun a st => FF pt (20 ^ n) n 0 (L - c - a) ((code * 10 + c) * 10 + a) (w * pt 3 a / 20 ^ n) st) i (K 67 5, K 67 4))) (L : Int) (code : Int) l3 (c : Int) (w : Int) (i : Int) = some (.inl (((i + 1 : Nat) : Int), setB K (fo (fun a st => FF pt (20 ^ n) n 0 (L - c - a) ((code * 10 + c) * 10 + a) (w * pt 3 a / 20 ^ n) st) (i + 1) (K 67 5, K 67 4))))
    rw [hst, hnext]
    have hV := V_le (x := w) (hle 3 i (by decide)) (Nat.pow_pos (n := n) (by decide : 0 < 20))
    have hmost := c_mostOf (K := setB K st) (setB_3 K st ▸ hn) (L - c) m hm
    have hcw := c_cw (M := setB K st) (setB_3 K st ▸ hn) hn8 (z := 3) (g := 3) (a := i) (x := w) rfl (by decide) (by omega) (by rw [setB_69]; exact hrow 3 i (by decide) (by omega)) (by omega) (hle 3 i (by decide))
    unfold s_X9_tryRest_b26
    rw [if_pos (by unfold fin; omega), show (L : Int) - (c : Int) = ((L - c : Nat) : Int) by omega, hmost, Option.bind_some, if_neg (by omega), hcw, Option.bind_some, setB_5]
    unfold FF
    by_cases h : ((w * pt 3 i / 20 ^ n : Nat) : Int) ≤ st.1
    · rw [if_pos h, if_pos (by unfold fin; omega), if_neg (by omega)]
      rfl
    · rw [if_neg h, if_pos (by unfold fin; omega), if_pos (by unfold fin; omega), if_pos (by omega), setB_two, show (code : Int) * 100 + (c : Int) * 10 + (i : Int) = (((code * 10 + c) * 10 + i : Nat) : Int) by omega]
      rfl
  · show s_X9_tryRest_b26 (setB K _) (L : Int) (code : Int) l3 (c : Int) (w : Int) ((m + 1 : Nat) : Int) = _
    have hmost : ∀ st, s_X9_mostOf (setB K st) ((L - c : Nat) : Int) = some (m : Int) := fun st => c_mostOf (K := setB K st) (setB_3 K st ▸ hn) (L - c) m hm
    unfold s_X9_tryRest_b26
    rw [if_pos (by unfold fin; omega), show (L : Int) - (c : Int) = ((L - c : Nat) : Int) by omega, hmost, Option.bind_some, if_pos (by omega), hm]
    rfl
theorem c_tryRest_l3 {K : fM} (hn : K 67 3 = n) (hn8 : n ≤ 8) (hrow : ∀ g a, g < 4 → a < 9 → K 69 (g * 9 + a) = ((pt g a : Nat) : Int)) (hle : ∀ g a, g < 4 → pt g a ≤ 20 ^ n) {L code x : Nat} (hL : L ≤ 12) (hcode : code ≤ 99) (hx : x ≤ 1000000000000000) : s_X9_tryRest_l3 (L : Int) (code : Int) (x : Int) (0, K) = some (setB K (FF pt (20 ^ n) n 2 (L) (code) (x) (K 67 5, K 67 4))) := by
  obtain ⟨m, hm⟩ : ∃ m, m = if n < L then n else L := ⟨_, rfl⟩
  have hmL : m ≤ L ∧ m ≤ 8 := by rw [hm]; split <;> omega
  unfold s_X9_tryRest_l3
  have := fLp_for (b := fun s : Int × fM => s_X9_tryRest_b3 s.2 (L : Int) (code : Int) (x : Int) s.1) (fun i => ((i : Int), setB K (fo (fun a st => FF pt (20 ^ n) n 1 (L - a) (code * 10 + a) (x * pt 2 a / 20 ^ n) st) i (K 67 5, K 67 4)))) (m + 1) (e := setB K (FF pt (20 ^ n) n 2 (L) (code) (x) (K 67 5, K 67 4))) (fun i hi => ?_) ?_
  · rw [show ((0 : Int), K) = (((0 : Nat) : Int), setB K (fo (fun a st => FF pt (20 ^ n) n 1 (L - a) (code * 10 + a) (x * pt 2 a / 20 ^ n) st) 0 (K 67 5, K 67 4))) from by rw [show fo (fun a st => FF pt (20 ^ n) n 1 (L - a) (code * 10 + a) (x * pt 2 a / 20 ^ n) st) 0 (K 67 5, K 67 4) = (K 67 5, K 67 4) from rfl, setB_id]; rfl]
    exact this
  · obtain ⟨st, hst⟩ : ∃ st, fo (fun a st => FF pt (20 ^ n) n 1 (L - a) (code * 10 + a) (x * pt 2 a / 20 ^ n) st) i (K 67 5, K 67 4) = st := ⟨_, rfl⟩
    have hnext : fo (fun a st => FF pt (20 ^ n) n 1 (L - a) (code * 10 + a) (x * pt 2 a / 20 ^ n) st) (i + 1) (K 67 5, K 67 4) = FF pt (20 ^ n) n 1 (L - i) (code * 10 + i) (x * pt 2 i / 20 ^ n) st := by rw [← hst]; rfl
    show s_X9_tryRest_b3 (setB K (fo (fun a st => FF pt (20 ^ n) n 1 (L - a) (code * 10 + a) (x * pt 2 a / 20 ^ n) st) i (K 67 5, K 67 4))) (L : Int) (code : Int) (x : Int) (i : Int) = some (.inl (((i + 1 : Nat) : Int), setB K (fo (fun a st => FF pt (20 ^ n) n 1 (L - a) (code * 10 + a) (x * pt 2 a / 20 ^ n) st) (i + 1) (K 67 5, K 67 4))))
    rw [hst, hnext]
    have hV := V_le (x := x) (hle 2 i (by decide)) (Nat.pow_pos (n := n) (by decide : 0 < 20))
    have hmost := c_mostOf (K := setB K st) (setB_3 K st ▸ hn) (L) m hm
    have hcw := c_cw (M := setB K st) (setB_3 K st ▸ hn) hn8 (z := 2) (g := 2) (a := i) (x := x) rfl (by decide) (by omega) (by rw [setB_69]; exact hrow 2 i (by decide) (by omega)) (by omega) (hle 2 i (by decide))
    have hsub := c_tryRest_l26 (pt := pt) (n := n) (K := setB K st) (setB_3 K st ▸ hn) hn8 (fun g a h1 h2 => by rw [setB_69]; exact hrow g a h1 h2) hle (L := L) (code := code) (c := i) (w := x * pt 2 i / 20 ^ n) (x : Int) hL (by omega) (by omega) hcode (by omega)
    rw [setB_setB] at hsub
    unfold s_X9_tryRest_b3
    rw [hmost, Option.bind_some, if_neg (by omega), hcw, Option.bind_some, hsub, Option.bind_some, if_pos (by unfold fin; omega)]
    rfl
  · show s_X9_tryRest_b3 (setB K _) (L : Int) (code : Int) (x : Int) ((m + 1 : Nat) : Int) = _
    have hmost : ∀ st, s_X9_mostOf (setB K st) ((L : Nat) : Int) = some (m : Int) := fun st => c_mostOf (K := setB K st) (setB_3 K st ▸ hn) (L) m hm
    unfold s_X9_tryRest_b3
    rw [hmost, Option.bind_some, if_pos (by omega), hm]
    rfl
theorem c_rest {K : fM} (hn : K 67 3 = n) (hn8 : n ≤ 8) (hrow : ∀ g a, g < 4 → a < 9 → K 69 (g * 9 + a) = ((pt g a : Nat) : Int)) (hle : ∀ g a, g < 4 → pt g a ≤ 20 ^ n) {L code x : Nat} (hL : L ≤ 12) (hcode : code ≤ 99) (hx : x ≤ 1000000000000000) : s_X9_tryRest K (L : Int) (code : Int) (x : Int) = some ((), setB K (FF pt (20 ^ n) n 2 L code x (K 67 5, K 67 4))) := by
  unfold s_X9_tryRest
  rw [c_tryRest_l3 hn hn8 hrow hle hL hcode hx]
  rfl
theorem c_pack_l60 {K : fM} (hn : K 67 3 = n) (hn8 : n ≤ 8) (hrow : ∀ g a, g < 4 → a < 9 → K 69 (g * 9 + a) = ((pt g a : Nat) : Int)) (hle : ∀ g a, g < 4 → pt g a ≤ 20 ^ n) {L c w : Nat} (hL : L ≤ 12) (hc : c ≤ L) (hc8 : c ≤ 8) (hw : w ≤ 1000000000000000) : s_X9_pack_l60 (L : Int) (c : Int) (w : Int) (0, K) = some (setB K (FF pt (20 ^ n) n 3 (L - c) (c) (w) (K 67 5, K 67 4))) := by
  obtain ⟨m, hm⟩ : ∃ m, m = if n < L - c then n else L - c := ⟨_, rfl⟩
  have hmL : m ≤ L - c ∧ m ≤ 8 := by rw [hm]; split <;> omega
  unfold s_X9_pack_l60
  have := fLp_for (b := fun s : Int × fM => s_X9_pack_b60 s.2 (L : Int) (c : Int) (w : Int) s.1) (fun i => ((i : Int), setB K (fo (fun a st => FF pt (20 ^ n) n 2 (L - c - a) (c * 10 + a) (w * pt 1 a / 20 ^ n) st) i (K 67 5, K 67 4)))) (m + 1) (e := setB K (FF pt (20 ^ n) n 3 (L - c) (c) (w) (K 67 5, K 67 4))) (fun i hi => ?_) ?_
  · rw [show ((0 : Int), K) = (((0 : Nat) : Int), setB K (fo (fun a st => FF pt (20 ^ n) n 2 (L - c - a) (c * 10 + a) (w * pt 1 a / 20 ^ n) st) 0 (K 67 5, K 67 4))) from by rw [show fo (fun a st => FF pt (20 ^ n) n 2 (L - c - a) (c * 10 + a) (w * pt 1 a / 20 ^ n) st) 0 (K 67 5, K 67 4) = (K 67 5, K 67 4) from rfl, setB_id]; rfl]
    exact this
  · obtain ⟨st, hst⟩ : ∃ st, fo (fun a st => FF pt (20 ^ n) n 2 (L - c - a) (c * 10 + a) (w * pt 1 a / 20 ^ n) st) i (K 67 5, K 67 4) = st := ⟨_, rfl⟩
    have hnext : fo (fun a st => FF pt (20 ^ n) n 2 (L - c - a) (c * 10 + a) (w * pt 1 a / 20 ^ n) st) (i + 1) (K 67 5, K 67 4) = FF pt (20 ^ n) n 2 (L - c - i) (c * 10 + i) (w * pt 1 i / 20 ^ n) st := by rw [← hst]; rfl
    show s_X9_pack_b60 (setB K (fo (fun a st => FF pt (20 ^ n) n 2 (L - c - a) (c * 10 + a) (w * pt 1 a / 20 ^ n) st) i (K 67 5, K 67 4))) (L : Int) (c : Int) (w : Int) (i : Int) = some (.inl (((i + 1 : Nat) : Int), setB K (fo (fun a st => FF pt (20 ^ n) n 2 (L - c - a) (c * 10 + a) (w * pt 1 a / 20 ^ n) st) (i + 1) (K 67 5, K 67 4))))
    rw [hst, hnext]
    have hV := V_le (x := w) (hle 1 i (by decide)) (Nat.pow_pos (n := n) (by decide : 0 < 20))
    have hmost := c_mostOf (K := setB K st) (setB_3 K st ▸ hn) (L - c) m hm
    have hcw := c_cw (M := setB K st) (setB_3 K st ▸ hn) hn8 (z := 1) (g := 1) (a := i) (x := w) rfl (by decide) (by omega) (by rw [setB_69]; exact hrow 1 i (by decide) (by omega)) (by omega) (hle 1 i (by decide))
    have hsub := c_rest (pt := pt) (n := n) (K := setB K st) (setB_3 K st ▸ hn) hn8 (fun g a h1 h2 => by rw [setB_69]; exact hrow g a h1 h2) hle (L := L - c - i) (code := c * 10 + i) (x := w * pt 1 i / 20 ^ n) (by omega) (by omega) (by omega)
    rw [setB_setB] at hsub
    unfold s_X9_pack_b60
    rw [if_pos (by unfold fin; omega), show (L : Int) - (c : Int) = ((L - c : Nat) : Int) by omega, hmost, Option.bind_some, if_neg (by omega), hcw, Option.bind_some, if_pos (by unfold fin; omega), show ((L - c : Nat) : Int) - (i : Int) = ((L - c - i : Nat) : Int) by omega, show (c : Int) * 10 + (i : Int) = ((c * 10 + i : Nat) : Int) by omega, hsub, Option.bind_some, if_pos (by unfold fin; omega)]
    rfl
  · show s_X9_pack_b60 (setB K _) (L : Int) (c : Int) (w : Int) ((m + 1 : Nat) : Int) = _
    have hmost : ∀ st, s_X9_mostOf (setB K st) ((L - c : Nat) : Int) = some (m : Int) := fun st => c_mostOf (K := setB K st) (setB_3 K st ▸ hn) (L - c) m hm
    unfold s_X9_pack_b60
    rw [if_pos (by unfold fin; omega), show (L : Int) - (c : Int) = ((L - c : Nat) : Int) by omega, hmost, Option.bind_some, if_pos (by omega), hm]
    rfl
theorem c_pack_l37 {K : fM} (hn : K 67 3 = n) (hn8 : n ≤ 8) (hrow : ∀ g a, g < 4 → a < 9 → K 69 (g * 9 + a) = ((pt g a : Nat) : Int)) (hle : ∀ g a, g < 4 → pt g a ≤ 20 ^ n) {L : Nat} (hL : L ≤ 12) : s_X9_pack_l37 (L : Int) (0, K) = some (setB K (FF pt (20 ^ n) n 4 (L) (0) (1000000000000000) (K 67 5, K 67 4))) := by
  obtain ⟨m, hm⟩ : ∃ m, m = if n < L then n else L := ⟨_, rfl⟩
  have hmL : m ≤ L ∧ m ≤ 8 := by rw [hm]; split <;> omega
  unfold s_X9_pack_l37
  have := fLp_for (b := fun s : Int × fM => s_X9_pack_b37 s.2 (L : Int) s.1) (fun i => ((i : Int), setB K (fo (fun a st => FF pt (20 ^ n) n 3 (L - a) (0 * 10 + a) (1000000000000000 * pt 0 a / 20 ^ n) st) i (K 67 5, K 67 4)))) (m + 1) (e := setB K (FF pt (20 ^ n) n 4 (L) (0) (1000000000000000) (K 67 5, K 67 4))) (fun i hi => ?_) ?_
  · rw [show ((0 : Int), K) = (((0 : Nat) : Int), setB K (fo (fun a st => FF pt (20 ^ n) n 3 (L - a) (0 * 10 + a) (1000000000000000 * pt 0 a / 20 ^ n) st) 0 (K 67 5, K 67 4))) from by rw [show fo (fun a st => FF pt (20 ^ n) n 3 (L - a) (0 * 10 + a) (1000000000000000 * pt 0 a / 20 ^ n) st) 0 (K 67 5, K 67 4) = (K 67 5, K 67 4) from rfl, setB_id]; rfl]
    exact this
  · obtain ⟨st, hst⟩ : ∃ st, fo (fun a st => FF pt (20 ^ n) n 3 (L - a) (0 * 10 + a) (1000000000000000 * pt 0 a / 20 ^ n) st) i (K 67 5, K 67 4) = st := ⟨_, rfl⟩
    have hnext : fo (fun a st => FF pt (20 ^ n) n 3 (L - a) (0 * 10 + a) (1000000000000000 * pt 0 a / 20 ^ n) st) (i + 1) (K 67 5, K 67 4) = FF pt (20 ^ n) n 3 (L - i) (0 * 10 + i) (1000000000000000 * pt 0 i / 20 ^ n) st := by rw [← hst]; rfl
    show s_X9_pack_b37 (setB K (fo (fun a st => FF pt (20 ^ n) n 3 (L - a) (0 * 10 + a) (1000000000000000 * pt 0 a / 20 ^ n) st) i (K 67 5, K 67 4))) (L : Int) (i : Int) = some (.inl (((i + 1 : Nat) : Int), setB K (fo (fun a st => FF pt (20 ^ n) n 3 (L - a) (0 * 10 + a) (1000000000000000 * pt 0 a / 20 ^ n) st) (i + 1) (K 67 5, K 67 4))))
    rw [hst, hnext]
    have hV := V_le (x := 1000000000000000) (hle 0 i (by decide)) (Nat.pow_pos (n := n) (by decide : 0 < 20))
    have hmost := c_mostOf (K := setB K st) (setB_3 K st ▸ hn) (L) m hm
    have hcw := c_cw (M := setB K st) (setB_3 K st ▸ hn) hn8 (z := 0) (g := 0) (a := i) (x := 1000000000000000) rfl (by decide) (by omega) (by rw [setB_69]; exact hrow 0 i (by decide) (by omega)) (by omega) (hle 0 i (by decide))
    have hsub := c_pack_l60 (pt := pt) (n := n) (K := setB K st) (setB_3 K st ▸ hn) hn8 (fun g a h1 h2 => by rw [setB_69]; exact hrow g a h1 h2) hle (L := L) (c := i) (w := 1000000000000000 * pt 0 i / 20 ^ n) hL (by omega) (by omega) (by omega)
    rw [setB_setB] at hsub
    have hcw' : s_X9_chanceWith (setB K st) 1000000000000000 0 (i : Int) = some ((1000000000000000 * pt 0 i / 20 ^ n : Nat) : Int) := hcw
    rw [Nat.zero_mul, Nat.zero_add]
    unfold s_X9_pack_b37
    rw [hmost, Option.bind_some, if_neg (by omega), hcw', Option.bind_some, hsub, Option.bind_some, if_pos (by unfold fin; omega)]
    rfl
  · show s_X9_pack_b37 (setB K _) (L : Int) ((m + 1 : Nat) : Int) = _
    have hmost : ∀ st, s_X9_mostOf (setB K st) ((L : Nat) : Int) = some (m : Int) := fun st => c_mostOf (K := setB K st) (setB_3 K st ▸ hn) (L) m hm
    unfold s_X9_pack_b37
    rw [hmost, Option.bind_some, if_pos (by omega), hm]
    rfl
end
theorem c_pack {M D : fM} (hc : CR M 0 D) (hw : WF D) {n : Nat} (hn8 : n ≤ 8) {r : Nat → Int} (hr : ∀ i, i < n → 0 ≤ r i ∧ r i < D 4 13) (h68 : ∀ i, i < n → M 68 i = r i) {L : Nat} (hL : L ≤ 12) : ∃ K, s_X9_pack M (n : Int) (L : Int) = some ((GG (ptf D r n) (20 ^ n) 4 L 0 1000000000000000 (-1, 0)).2, K) ∧ K 67 5 = (GG (ptf D r n) (20 ^ n) 4 L 0 1000000000000000 (-1, 0)).1 := by
  obtain ⟨A, a1, a2, a3⟩ : ∃ e, s_X9_pack_l7 (L : Int) (0, fup M 67 3 (n : Int)) = some e ∧ ((∀ g a, g < 4 → a < 9 → e 69 (g * 9 + a) = ((ptf D r n g a : Nat) : Int)) ∧ ∀ a, a ≠ 69 → e a = fup M 67 3 (n : Int) a) := by
    unfold s_X9_pack_l7
    refine fLp_ex (P := fun i s => s.1 = (i : Int) ∧ (∀ g a, g < i → a < 9 → s.2 69 (g * 9 + a) = ((ptf D r n g a : Nat) : Int)) ∧ ∀ a, a ≠ 69 → s.2 a = fup M 67 3 (n : Int) a) 4 ⟨rfl, fun g a h => by omega, fun a _ => rfl⟩ (fun i s hi hp => ?_) (fun s hp => ?_)
    · obtain ⟨l, K⟩ := s
      obtain ⟨p1, p2, p3⟩ := hp
      simp only at p1 p2 p3
      subst p1
      have hcK : CR K 0 D := fun k h1 h2 => by
        show K k = _
        rw [p3 k (by omega), fup_ne (by omega)]
        exact hc k h1 h2
      obtain ⟨E, e1, e2, e3, e4⟩ := c_count (M := K) hcK hw hn8 (by rw [p3 67 (by decide)]; rfl) hi hr (fun i hi => by rw [p3 68 (by decide), fup_ne (by decide)]; exact h68 i hi)
      refine ⟨((i : Int) + 1, E), ?_, by simp, fun g a h1 h2 => ?_, fun a ha => (e4 a ha).trans (p3 a ha)⟩
      · show s_X9_pack_b7 K (L : Int) (i : Int) = _
        unfold s_X9_pack_b7
        rw [if_neg (by omega), e1, Option.bind_some, if_pos (by unfold fin; omega)]
      · show E 69 (g * 9 + a) = _
        by_cases e : g = i
        · subst e; exact e2 a h2
        · rw [e3 _ (by omega)]; exact p2 g a (by omega) h2
    · obtain ⟨l, K⟩ := s
      obtain ⟨p1, p2, p3⟩ := hp
      simp only at p1 p2 p3
      subst p1
      refine ⟨K, ?_, p2, p3⟩
      show s_X9_pack_b7 K (L : Int) ((4 : Nat) : Int) = _
      unfold s_X9_pack_b7
      rw [if_pos (by decide)]
  have e : fup (fup A 67 4 0) 67 5 (-1) = setB A (-1, 0) := by
    funext a j
    unfold setB fup
    by_cases h : a = 67 ∧ j = 4
    · rw [if_neg (fun e => by omega), if_pos h, if_pos h]
    · rw [if_neg h, if_neg h]
  have h1 := c_pack_l37 (pt := ptf D r n) (n := n) (K := setB A (-1, 0)) (by rw [setB_3, a3 67 (by decide)]; rfl) hn8 (fun g a h1 h2 => by rw [setB_69]; exact a2 g a h1 h2) (fun g a hg => ptf_le hw hr hg a) (L := L) hL
  rw [setB_setB, FF_GG hn8 (fun g a h => ptf_top D r n g a h)] at h1
  refine ⟨_, ?_, setB_5 A _⟩
  unfold s_X9_pack
  rw [a1, Option.bind_some, e, h1]
  rfl
