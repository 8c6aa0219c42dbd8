/-! ===== records: which are meant, the latest, whether there is one; fee, count, free, owed (by hand) ===== -/
abbrev isK (D : fM) (i k p kn : Int) : Prop := D 19 i.toNat = k ∧ D 20 i.toNat = p ∧ (kn = -1 ∨ D 22 i.toNat ≤ kn)
abbrev nR (D : fM) : Nat := (D 18 8).toNat
theorem nR_c {D : fM} (h : WFn D) : ((nR D : Nat) : Int) = D 18 8 ∧ nR D ≤ 200 := by
  have := h.2.2.2.2
  unfold nR
  omega
theorem c_isOf {M D : fM} (hc : CR M 0 D) {i k p kn : Int} (h1 : 0 ≤ i) (h2 : i < 200) : s_X6_isOf_18 M i k p kn = some (bit (isK D i k p kn)) := by
  unfold s_X6_isOf_18 bit isK
  rw [CR_r hc 19 (by decide) (by decide), CR_r hc 20 (by decide) (by decide), CR_r hc 22 (by decide) (by decide)]
  simp only [if_pos (show 0 ≤ i ∧ i < 200 from ⟨h1, h2⟩)]
  repeat' split
  all_goals first | rfl | (exfalso; omega)
theorem c_isKnown {M D : fM} (hc : CR M 0 D) {i kn : Int} (h1 : 0 ≤ i) (h2 : i < 200) : s_X6_isKnown_18 M i kn = some (bit (kn = -1 ∨ D 22 i.toNat ≤ kn)) := by
  unfold s_X6_isKnown_18 bit
  rw [CR_r hc 22 (by decide) (by decide)]
  simp only [if_pos (show 0 ≤ i ∧ i < 200 from ⟨h1, h2⟩)]
  repeat' split
  all_goals first | rfl | (exfalso; omega)
theorem m_isOf {M D : fM} (hr : MRr M 125 0 D) (hw : WFn D) {i k p day kn : Int} (h1 : 0 ≤ i) (h2 : i < D 18 8) : s_X12_isOf M i k p day kn = some (bit (isK D i k p kn ∧ D 21 i.toNat ≤ day)) := by
  have := hw.2.2.2.2
  unfold s_X12_isOf bit isK
  rw [mr_kind hr i rfl h1 h2, mr_piano hr i rfl h1 h2, mr_on hr i rfl h1 h2, mr_known hr i rfl h1 h2]
  rw [if_pos (by unfold fin; omega), if_pos (show fin (19 * i + 1) ∧ (0 ≤ 19 * i + 1 ∧ 19 * i + 1 < 3800) by unfold fin; omega), if_pos (show fin (19 * i + 2) ∧ (0 ≤ 19 * i + 2 ∧ 19 * i + 2 < 3800) by unfold fin; omega), if_pos (show fin (19 * i + 3) ∧ (0 ≤ 19 * i + 3 ∧ 19 * i + 3 < 3800) by unfold fin; omega)]
  repeat' split
  all_goals first | rfl | (exfalso; omega)
/-! whether one of the first n is such -/
def anyI (P : Int → Prop) [DecidablePred P] : Nat → Int
  | 0 => 0
  | n + 1 => if anyI P n = 1 then 1 else bit (P (n : Int))
theorem anyI_iff (P : Int → Prop) [DecidablePred P] : ∀ n : Nat, (anyI P n = 1 ↔ ∃ i : Nat, i < n ∧ P i) ∧ b01 (anyI P n)
  | 0 => ⟨⟨fun h => absurd (show (0 : Int) = 1 from h) (by decide), fun ⟨i, h, _⟩ => absurd h (by omega)⟩, .inl rfl⟩
  | n + 1 => by
    have ih := anyI_iff P n
    show ((if anyI P n = 1 then 1 else bit (P (n : Int))) = 1 ↔ _) ∧ b01 (if anyI P n = 1 then 1 else bit (P (n : Int)))
    by_cases h : anyI P n = 1
    · rw [if_pos h]
      obtain ⟨i, hi, hp⟩ := ih.1.mp h
      exact ⟨⟨fun _ => ⟨i, by omega, hp⟩, fun _ => rfl⟩, .inr rfl⟩
    · rw [if_neg h, bit1]
      refine ⟨⟨fun hp => ⟨n, by omega, hp⟩, ?_⟩, bit_b⟩
      rintro ⟨i, hi, hp⟩
      by_cases e : i = n
      · subst e; exact hp
      · exact absurd (ih.1.mpr ⟨i, by omega, hp⟩) h
theorem anyI_0 (P : Int → Prop) [DecidablePred P] (n : Nat) : anyI P n = 0 ↔ ∀ i : Nat, i < n → ¬ P i := by
  have h := anyI_iff P n
  constructor
  · intro e i hi hp
    have := h.1.mpr ⟨i, hi, hp⟩
    omega
  · intro hn
    rcases h.2 with e | e
    · exact e
    · obtain ⟨i, hi, hp⟩ := h.1.mp e
      exact absurd hp (hn i hi)
theorem anyI_congr {P Q : Int → Prop} [DecidablePred P] [DecidablePred Q] (n : Nat) (h : ∀ i : Nat, i < n → (P i ↔ Q i)) : anyI P n = anyI Q n := by
  rcases (anyI_iff Q n).2 with e | e
  · rw [e, anyI_0]
    intro i hi hp
    exact (anyI_0 Q n).mp e i hi ((h i hi).mp hp)
  · rw [e, (anyI_iff P n).1]
    obtain ⟨i, hi, hp⟩ := (anyI_iff Q n).1.mp e
    exact ⟨i, hi, (h i hi).mpr hp⟩
theorem first_of {P : Nat → Prop} : ∀ (n : Nat), (∃ i, i < n ∧ P i) → ∃ m, m < n ∧ P m ∧ ∀ i, i < m → ¬ P i
  | 0, ⟨i, h, _⟩ => absurd h (by omega)
  | n + 1, h => by
    by_cases hn : ∃ i, i < n ∧ P i
    · obtain ⟨m, h1, h2, h3⟩ := first_of n hn
      exact ⟨m, by omega, h2, h3⟩
    · obtain ⟨i, h1, h2⟩ := h
      have e : i = n := by
        by_cases e : i = n
        · exact e
        · exact absurd ⟨i, by omega, h2⟩ hn
      subst e
      exact ⟨i, by omega, h2, fun j hj hp => hn ⟨j, hj, hp⟩⟩
theorem fLp_any {b : Int → Option (Int ⊕ (Unit ⊕ Int))} {P : Int → Prop} [DecidablePred P] (n : Nat) (hs : ∀ i : Nat, i < n → ¬ P i → b (i : Int) = some (.inl ((i : Int) + 1))) (hh : ∀ i : Nat, i < n → P i → b (i : Int) = some (.inr (.inr 1))) (he : b (n : Int) = some (.inr (.inl ()))) : (fLp b 0).bind (fun e => Sum.elim (fun _ => some 0) (fun v => some v) e) = some (anyI P n) := by
  rcases (anyI_iff P n).2 with e | e
  · have h0 := (anyI_0 P n).mp e
    rw [e, show (0 : Int) = ((0 : Nat) : Int) from rfl, fLp_for (fun i : Nat => (i : Int)) n (fun i hi => hs i hi (h0 i hi)) he]
    rfl
  · obtain ⟨m, h1, h2, h3⟩ := first_of (P := fun i : Nat => P (i : Int)) n ((anyI_iff P n).1.mp e)
    rw [e, show (0 : Int) = ((0 : Nat) : Int) from rfl, fLp_for (fun i : Nat => (i : Int)) m (fun i hi => hs i (by omega) (h3 i hi)) (hh m h1 h2)]
    rfl
/-- one of that kind on one of the days -/
abbrev anyD (D : fM) (k p a b kn : Int) : Int := anyI (fun i => isK D i k p kn ∧ a ≤ D 21 i.toNat ∧ D 21 i.toNat ≤ b) (nR D)
theorem c_hasWithin {M D : fM} (hc : CR M 0 D) (hw : WFn D) (k p a b kn : Int) : s_X6_hasWithin_18 M k p a b kn = some (anyD D k p a b kn) := by
  obtain ⟨hn, hn2⟩ := nR_c hw
  unfold s_X6_hasWithin_18 s_X6_hasWithin_18_l3
  refine fLp_any (nR D) (fun i hi hp => ?_) (fun i hi hp => ?_) ?_
  · unfold s_X6_hasWithin_18_b3
    rw [CR_r hc 18 (by decide) (by decide), CR_r hc 21 (by decide) (by decide), if_neg (by omega), c_isOf hc (by omega) (by omega)]
    simp only [Option.bind_some, bit_if, if_pos (show (0 : Int) ≤ (i : Int) ∧ (i : Int) < 200 by omega), if_pos (show fin ((i : Int) + 1) by unfold fin; omega)]
    by_cases h : isK D i k p kn
    · rw [if_pos h]
      by_cases h2 : D 21 (i : Int).toNat < a
      · rw [if_pos h2]
      · rw [if_neg h2, if_pos (by rw [Int.not_lt] at h2; exact Int.not_le.mp (fun e => hp ⟨h, h2, e⟩))]
    · rw [if_neg h]
  · unfold s_X6_hasWithin_18_b3
    rw [CR_r hc 18 (by decide) (by decide), CR_r hc 21 (by decide) (by decide), if_neg (by omega), c_isOf hc (by omega) (by omega)]
    simp only [Option.bind_some, bit_if, if_pos (show (0 : Int) ≤ (i : Int) ∧ (i : Int) < 200 by omega)]
    rw [if_pos hp.1, if_neg (by omega), if_neg (by omega)]
  · unfold s_X6_hasWithin_18_b3
    rw [CR_r hc 18 (by decide) (by decide), if_pos (by omega)]
theorem m_isTunedIn {M D : fM} (hr : MRr M 125 0 D) (hn0 : M 122 10 = D 18 8) (hw : WFn D) (p a b kn : Int) : s_X12_isTunedIn M p a b kn = some (anyD D 0 p a b kn) := by
  obtain ⟨hn, hn2⟩ := nR_c hw
  unfold s_X12_isTunedIn s_X12_isTunedIn_l3
  refine fLp_any (nR D) (fun i hi hp => ?_) (fun i hi hp => ?_) ?_
  · unfold s_X12_isTunedIn_b3
    rw [hn0, if_neg (by omega), m_isOf hr hw (by omega) (by omega), mr_on hr (i : Int) rfl (by omega) (by omega)]
    simp only [Option.bind_some, bit_if, if_pos (show fin ((i : Int) + 1) by unfold fin; omega)]
    by_cases h : isK D i 0 p kn ∧ D 21 (i : Int).toNat ≤ b
    · rw [if_pos h, if_pos (by unfold fin; omega), if_pos (Int.not_le.mp (fun e => hp ⟨h.1, e, h.2⟩))]
    · rw [if_neg h]
  · unfold s_X12_isTunedIn_b3
    rw [hn0, if_neg (by omega), m_isOf hr hw (by omega) (by omega), mr_on hr (i : Int) rfl (by omega) (by omega)]
    simp only [Option.bind_some, bit_if]
    rw [if_pos ⟨hp.1, hp.2.2⟩, if_pos (by unfold fin; omega), if_neg (by omega)]
  · unfold s_X12_isTunedIn_b3
    rw [hn0, if_pos (by omega)]
/-! the latest -/
def latF (D : fM) (k p day kn : Int) : Nat → Int
  | 0 => -1
  | n + 1 => if (isK D n k p kn ∧ D 21 (n : Int).toNat ≤ day) ∧ (latF D k p day kn n < 0 ∨ D 21 (latF D k p day kn n).toNat ≤ D 21 (n : Int).toNat) then n else latF D k p day kn n
theorem latF_s (D : fM) (k p day kn : Int) (n : Nat) : latF D k p day kn (n + 1) = if (isK D n k p kn ∧ D 21 (n : Int).toNat ≤ day) ∧ (latF D k p day kn n < 0 ∨ D 21 (latF D k p day kn n).toNat ≤ D 21 (n : Int).toNat) then (n : Int) else latF D k p day kn n := rfl
theorem latF_b (D : fM) (k p day kn : Int) : ∀ n : Nat, latF D k p day kn n = -1 ∨ (0 ≤ latF D k p day kn n ∧ latF D k p day kn n < n ∧ isK D (latF D k p day kn n) k p kn ∧ D 21 (latF D k p day kn n).toNat ≤ day)
  | 0 => .inl rfl
  | n + 1 => by
    have ih := latF_b D k p day kn n
    rw [latF_s]
    split
    · rename_i h
      exact .inr ⟨by omega, by omega, h.1.1, h.1.2⟩
    · rcases ih with e | ⟨a, b, c⟩
      · exact .inl e
      · exact .inr ⟨a, by omega, c⟩
abbrev lat (D : fM) (k p day kn : Int) : Int := latF D k p day kn (nR D)
theorem c_latest {M D : fM} (hc : CR M 0 D) (hw : WFn D) (k p day kn : Int) : s_X6_latest_18 M k p day kn = some (lat D k p day kn) := by
  obtain ⟨hn, hn2⟩ := nR_c hw
  have key : s_X6_latest_18_l6 M k p day kn (-1, 0) = some (lat D k p day kn) := by
    unfold s_X6_latest_18_l6
    refine fLp_for (fun i => (latF D k p day kn i, (i : Int))) (nR D) (fun i hi => ?_) ?_
    · have hb := latF_b D k p day kn i
      show s_X6_latest_18_b6 M k p day kn (latF D k p day kn i) (i : Int) = some (Sum.inl (latF D k p day kn (i + 1), (i : Int) + 1))
      rw [latF_s]
      unfold s_X6_latest_18_b6
      rw [CR_r hc 18 (by decide) (by decide), CR_r hc 21 (by decide) (by decide), if_neg (by omega), c_isOf hc (by omega) (by omega)]
      simp only [Option.bind_some, bit_if, if_pos (show (0 : Int) ≤ (i : Int) ∧ (i : Int) < 200 by omega), if_pos (show fin ((i : Int) + 1) by unfold fin; omega)]
      by_cases h : isK D i k p kn
      · rw [if_pos h]
        by_cases h2 : day < D 21 (i : Int).toNat
        · rw [if_pos h2, if_neg (fun e => absurd e.1.2 (by omega))]
        · rw [if_neg h2]
          by_cases h3 : latF D k p day kn i < 0
          · rw [if_pos h3, if_pos ⟨⟨h, by omega⟩, .inl h3⟩]
          · rw [if_neg h3, if_pos (by omega)]
            by_cases h4 : D 21 (i : Int).toNat < D 21 (latF D k p day kn i).toNat
            · rw [if_pos h4, if_neg (fun e => by rcases e.2 with e | e <;> omega)]
            · rw [if_neg h4, if_pos ⟨⟨h, by omega⟩, .inr (by omega)⟩]
      · rw [if_neg h, if_neg (fun e => h e.1.1)]
    · show s_X6_latest_18_b6 M k p day kn (latF D k p day kn (nR D)) ((nR D : Nat) : Int) = _
      unfold s_X6_latest_18_b6
      rw [CR_r hc 18 (by decide) (by decide), if_pos (by omega)]
  unfold s_X6_latest_18
  rw [key]
  rfl
theorem m_latest {M D : fM} (hr : MRr M 125 0 D) (hn0 : M 122 10 = D 18 8) (hw : WFn D) (k p day kn : Int) : s_X12_latest M k p day kn = some (lat D k p day kn) := by
  obtain ⟨hn, hn2⟩ := nR_c hw
  have key : s_X12_latest_l6 M k p day kn (-1, 0) = some (lat D k p day kn) := by
    unfold s_X12_latest_l6
    refine fLp_for (fun i => (latF D k p day kn i, (i : Int))) (nR D) (fun i hi => ?_) ?_
    · have hb := latF_b D k p day kn i
      show s_X12_latest_b6 M k p day kn (latF D k p day kn i) (i : Int) = some (Sum.inl (latF D k p day kn (i + 1), (i : Int) + 1))
      rw [latF_s]
      unfold s_X12_latest_b6
      rw [hn0, if_neg (by omega), m_isOf hr hw (by omega) (by omega)]
      simp only [Option.bind_some, bit_if, if_pos (show fin ((i : Int) + 1) by unfold fin; omega)]
      by_cases h : isK D i k p kn ∧ D 21 (i : Int).toNat ≤ day
      · rw [if_pos h]
        by_cases h3 : latF D k p day kn i < 0
        · rw [if_pos h3, if_pos ⟨h, .inl h3⟩]
        · rw [if_neg h3, if_pos (by unfold fin; omega), mr_on hr (i : Int) rfl (by omega) (by omega), mr_on hr (latF D k p day kn i) rfl (by omega) (by omega)]
          by_cases h4 : D 21 (i : Int).toNat < D 21 (latF D k p day kn i).toNat
          · rw [if_pos h4, if_neg (fun e => by rcases e.2 with e | e <;> omega)]
          · rw [if_neg h4, if_pos ⟨h, .inr (by omega)⟩]
      · rw [if_neg h, if_neg (fun e => h e.1)]
    · show s_X12_latest_b6 M k p day kn (latF D k p day kn (nR D)) ((nR D : Nat) : Int) = _
      unfold s_X12_latest_b6
      rw [hn0, if_pos (by omega)]
  unfold s_X12_latest
  rw [key]
  rfl
