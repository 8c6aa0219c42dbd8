/-! ===== pianos from the tape; their order ===== -/
def oct (M : fM) (i : Nat) : Int := fand (M 2 i) 255
def okI (P : Int) (b : Nat → Int) (i : Nat) : Prop := b i < P ∧ ∀ j, j < i → b j ≠ b i
def okAll (P : Int) (b : Nat → Int) (n : Nat) : Prop := ∀ i, i < n → okI P b i
theorem okAll_or (P : Int) (b : Nat → Int) (n : Nat) : okAll P b n ∨ ∃ i, i < n ∧ ¬ okI P b i ∧ ∀ j, j < i → okI P b j := by
  by_cases h : ∃ i, i < n ∧ ¬ okI P b i
  · obtain ⟨m, h1, h2, h3⟩ := first_of n h
    exact .inr ⟨m, h1, h2, fun j hj => Classical.byContradiction fun hc => h3 j hj hc⟩
  · exact .inl fun i hi => Classical.byContradiction fun hc => h ⟨i, hi, hc⟩
theorem oct_b {M : fM} (hT : Tp M) (i : Nat) : 0 ≤ oct M i ∧ oct M i < 256 := oct_bd _ (hT.2.2.2 i).1 (hT.2.2.2 i).2
def omask (b : Nat → Int) : Nat → Nat
  | 0 => 0
  | i + 1 => omask b i ||| 2 ^ (b i).toNat
theorem omask_t (b : Nat → Int) : ∀ i x, Nat.testBit (omask b i) x = true ↔ ∃ j, j < i ∧ (b j).toNat = x
  | 0, x => ⟨fun h => absurd h (by rw [show omask b 0 = 0 from rfl, Nat.zero_testBit]; decide), fun ⟨q, h, _⟩ => by omega⟩
  | i + 1, x => by
    have ih := omask_t b i x
    show Nat.testBit (omask b i ||| 2 ^ (b i).toNat) x = true ↔ _
    rw [tb_or, Bool.or_eq_true]
    constructor
    · rintro (h | h)
      · obtain ⟨q, h1, h2⟩ := ih.1 h
        exact ⟨q, by omega, h2⟩
      · exact ⟨i, by omega, of_decide_eq_true h⟩
    · rintro ⟨q, h1, h2⟩
      by_cases e : q = i
      · subst e; exact .inr (decide_eq_true h2)
      · exact .inl (ih.2 ⟨q, by omega, h2⟩)
theorem omask_lt {b : Nat → Int} : ∀ i, (∀ j, j < i → b j < 16) → omask b i < 2 ^ 16
  | 0, _ => by show 0 < _; decide
  | i + 1, h => or_lt (omask_lt i (fun j hj => h j (by omega))) (by have := h i (by omega); omega)
theorem c_move55 {M : fM} (hT : Tp M) {n : Nat} (hn : M 1 2 = n) {P : Int} (hP : P ≤ 16) : ∃ K, (s_X10_movePianos_55 M P = some ((n : Int), K) ∧ n ≤ 9 ∧ okAll P (oct M) n ∧ (∀ i, i < n → K 55 i = oct M i) ∧ ∀ a, a ≠ 55 → K a = fup M 1 2 0 a) ∨ (s_X10_movePianos_55 M P = some (-1, K) ∧ ¬ (n ≤ 9 ∧ okAll P (oct M) n) ∧ ∀ a, a ≠ 55 → K a = fup M 1 2 0 a) := by
  by_cases h9 : n ≤ 9
  · have step : ∀ (i : Nat) (K : fM), i < n → okI P (oct M) i → (∀ j, j < i → okI P (oct M) j) → (∀ a, a ≠ 55 → K a = fup M 1 2 0 a) → s_X10_movePianos_55_b24 K P (n : Int) ((omask (oct M) i : Nat) : Int) (i : Int) = some (.inl (((omask (oct M) (i + 1) : Nat) : Int), (i : Int) + 1, fup K 55 i (oct M i))) := by
      intro i K hi hok hb hK
      have hml := omask_lt (b := oct M) i (fun j hj => Int.lt_of_lt_of_le (hb j hj).1 hP)
      have hm2 : omask (oct M) i < 2147483648 := Nat.lt_trans hml (by decide)
      have ho := oct_b hT i
      unfold s_X10_movePianos_55_b24
      rw [if_neg (by omega), if_pos (by omega), hK 2 (by decide), fup_ne (by decide), show (i : Int).toNat = i from rfl, show fand (M 2 i) 255 = oct M i from rfl, if_neg (by have := hok.1; omega)]
      have hlt : oct M i < 16 := Int.lt_of_lt_of_le hok.1 hP
      have htn : oct M i = (((oct M i).toNat : Nat) : Int) := by omega
      have hbit : Nat.testBit (omask (oct M) i) (oct M i).toNat = false := by
        cases hb2 : Nat.testBit (omask (oct M) i) (oct M i).toNat with
        | false => rfl
        | true =>
          obtain ⟨j, h1, h2⟩ := (omask_t _ _ _).1 hb2
          have := oct_b hT j
          exact absurd (show oct M j = oct M i by omega) (hok.2 j h1)
      rw [htn, b_test hm2 (by omega), b_or hm2 (by omega), hbit, if_pos (by decide), if_pos (by unfold fin; omega)]
      rfl
    rcases okAll_or P (oct M) n with hall | ⟨i0, h1, h2, h3⟩
    · obtain ⟨e, e1, K, e2, e3, e4⟩ : ∃ e, s_X10_movePianos_55_l24 P (n : Int) (0, 0, fup M 1 2 0) = some e ∧ ∃ K, e = .inl K ∧ (∀ i, i < n → K 55 i = oct M i) ∧ ∀ a, a ≠ 55 → K a = fup M 1 2 0 a := by
        unfold s_X10_movePianos_55_l24
        refine fLp_ex (P := fun i s => s.1 = ((omask (oct M) i : Nat) : Int) ∧ s.2.1 = (i : Int) ∧ (∀ j, j < i → s.2.2 55 j = oct M j) ∧ ∀ a, a ≠ 55 → s.2.2 a = fup M 1 2 0 a) n ⟨rfl, rfl, fun j hj => by omega, fun a _ => rfl⟩ (fun i s hi hp => ?_) (fun s hp => ?_)
        · obtain ⟨m, l, K⟩ := s
          obtain ⟨p1, p2, p3, p4⟩ := hp
          simp only at p1 p2 p3 p4
          subst p1; subst p2
          refine ⟨_, step i K hi (hall i hi) (fun j hj => hall j (by omega)) p4, rfl, by simp, fun j hj => ?_, fun a ha => ?_⟩
          · show fup K 55 i (oct M i) 55 j = _
            rw [fup_eq]
            unfold upd1
            by_cases e : j = i
            · subst e; rw [if_pos rfl]
            · rw [if_neg e]; exact p3 j (by omega)
          · show fup K 55 i (oct M i) a = _
            rw [fup_ne ha, p4 a ha]
        · obtain ⟨m, l, K⟩ := s
          obtain ⟨p1, p2, p3, p4⟩ := hp
          simp only at p1 p2 p3 p4
          subst p2
          refine ⟨.inl K, ?_, K, rfl, p3, p4⟩
          show s_X10_movePianos_55_b24 K P (n : Int) m (n : Int) = _
          unfold s_X10_movePianos_55_b24
          rw [if_pos (Int.le_refl _)]
      subst e2
      refine ⟨K, .inl ⟨?_, h9, hall, e3, e4⟩⟩
      unfold s_X10_movePianos_55
      rw [hn, if_pos (by omega), e1]
      rfl
    · obtain ⟨e, e1, K, e2, e4⟩ : ∃ e, s_X10_movePianos_55_l24 P (n : Int) (0, 0, fup M 1 2 0) = some e ∧ ∃ K, e = .inr (-1, K) ∧ ∀ a, a ≠ 55 → K a = fup M 1 2 0 a := by
        unfold s_X10_movePianos_55_l24
        refine fLp_ex (P := fun i s => s.1 = ((omask (oct M) i : Nat) : Int) ∧ s.2.1 = (i : Int) ∧ ∀ a, a ≠ 55 → s.2.2 a = fup M 1 2 0 a) i0 ⟨rfl, rfl, fun a _ => rfl⟩ (fun i s hi hp => ?_) (fun s hp => ?_)
        · obtain ⟨m, l, K⟩ := s
          obtain ⟨p1, p2, p4⟩ := hp
          simp only at p1 p2 p4
          subst p1; subst p2
          refine ⟨_, step i K (by omega) (h3 i hi) (fun j hj => h3 j (by omega)) p4, rfl, by simp, fun a ha => ?_⟩
          show fup K 55 i (oct M i) a = _
          rw [fup_ne ha, p4 a ha]
        · obtain ⟨m, l, K⟩ := s
          obtain ⟨p1, p2, p4⟩ := hp
          simp only at p1 p2 p4
          subst p1; subst p2
          refine ⟨.inr (-1, K), ?_, K, rfl, p4⟩
          show s_X10_movePianos_55_b24 K P (n : Int) _ (i0 : Int) = _
          have hml := omask_lt (b := oct M) i0 (fun j hj => Int.lt_of_lt_of_le (h3 j hj).1 hP)
          have hm2 : omask (oct M) i0 < 2147483648 := Nat.lt_trans hml (by decide)
          have ho := oct_b hT i0
          unfold s_X10_movePianos_55_b24
          rw [if_neg (by omega), if_pos (by omega), p4 2 (by decide), fup_ne (by decide), show (i0 : Int).toNat = i0 from rfl, show fand (M 2 i0) 255 = oct M i0 from rfl]
          by_cases hb : P ≤ oct M i0
          · rw [if_pos hb]
          · rw [if_neg hb]
            have htn : oct M i0 = (((oct M i0).toNat : Nat) : Int) := by omega
            have hbit : Nat.testBit (omask (oct M) i0) (oct M i0).toNat = true := by
              refine (omask_t _ _ _).2 (Classical.byContradiction fun hc => h2 ⟨by omega, fun j hj he => hc ⟨j, hj, by rw [he]⟩⟩)
            rw [htn, b_test hm2 (by omega), hbit, if_neg (by decide)]
      subst e2
      refine ⟨K, .inr ⟨?_, fun hc => h2 (hc.2 i0 h1), e4⟩⟩
      unfold s_X10_movePianos_55
      rw [hn, if_pos (by omega), e1]
      rfl
  · refine ⟨fup M 1 2 0, .inr ⟨?_, fun hc => h9 hc.1, fun a _ => rfl⟩⟩
    unfold s_X10_movePianos_55
    rw [hn, if_neg (by omega)]
theorem c_move68 {M : fM} (hT : Tp M) {n : Nat} (hn : M 1 2 = n) {P : Int} (hP : P ≤ 16) : ∃ K, (s_X10_movePianos_68 M P = some ((n : Int), K) ∧ n ≤ 8 ∧ okAll P (oct M) n ∧ (∀ i, i < n → K 68 i = oct M i) ∧ ∀ a, a ≠ 68 → K a = fup M 1 2 0 a) ∨ (s_X10_movePianos_68 M P = some (-1, K) ∧ ¬ (n ≤ 8 ∧ okAll P (oct M) n) ∧ ∀ a, a ≠ 68 → K a = fup M 1 2 0 a) := by
  by_cases h9 : n ≤ 8
  · have step : ∀ (i : Nat) (K : fM), i < n → okI P (oct M) i → (∀ j, j < i → okI P (oct M) j) → (∀ a, a ≠ 68 → K a = fup M 1 2 0 a) → s_X10_movePianos_68_b24 K P (n : Int) ((omask (oct M) i : Nat) : Int) (i : Int) = some (.inl (((omask (oct M) (i + 1) : Nat) : Int), (i : Int) + 1, fup K 68 i (oct M i))) := by
      intro i K hi hok hb hK
      have hml := omask_lt (b := oct M) i (fun j hj => Int.lt_of_lt_of_le (hb j hj).1 hP)
      have hm2 : omask (oct M) i < 2147483648 := Nat.lt_trans hml (by decide)
      have ho := oct_b hT i
      unfold s_X10_movePianos_68_b24
      rw [if_neg (by omega), if_pos (by omega), hK 2 (by decide), fup_ne (by decide), show (i : Int).toNat = i from rfl, show fand (M 2 i) 255 = oct M i from rfl, if_neg (by have := hok.1; omega)]
      have hlt : oct M i < 16 := Int.lt_of_lt_of_le hok.1 hP
      have htn : oct M i = (((oct M i).toNat : Nat) : Int) := by omega
      have hbit : Nat.testBit (omask (oct M) i) (oct M i).toNat = false := by
        cases hb2 : Nat.testBit (omask (oct M) i) (oct M i).toNat with
        | false => rfl
        | true =>
          obtain ⟨j, h1, h2⟩ := (omask_t _ _ _).1 hb2
          have := oct_b hT j
          exact absurd (show oct M j = oct M i by omega) (hok.2 j h1)
      rw [htn, b_test hm2 (by omega), b_or hm2 (by omega), hbit, if_pos (by decide), if_pos (by unfold fin; omega)]
      rfl
    rcases okAll_or P (oct M) n with hall | ⟨i0, h1, h2, h3⟩
    · obtain ⟨e, e1, K, e2, e3, e4⟩ : ∃ e, s_X10_movePianos_68_l24 P (n : Int) (0, 0, fup M 1 2 0) = some e ∧ ∃ K, e = .inl K ∧ (∀ i, i < n → K 68 i = oct M i) ∧ ∀ a, a ≠ 68 → K a = fup M 1 2 0 a := by
        unfold s_X10_movePianos_68_l24
        refine fLp_ex (P := fun i s => s.1 = ((omask (oct M) i : Nat) : Int) ∧ s.2.1 = (i : Int) ∧ (∀ j, j < i → s.2.2 68 j = oct M j) ∧ ∀ a, a ≠ 68 → s.2.2 a = fup M 1 2 0 a) n ⟨rfl, rfl, fun j hj => by omega, fun a _ => rfl⟩ (fun i s hi hp => ?_) (fun s hp => ?_)
        · obtain ⟨m, l, K⟩ := s
          obtain ⟨p1, p2, p3, p4⟩ := hp
          simp only at p1 p2 p3 p4
          subst p1; subst p2
          refine ⟨_, step i K hi (hall i hi) (fun j hj => hall j (by omega)) p4, rfl, by simp, fun j hj => ?_, fun a ha => ?_⟩
          · show fup K 68 i (oct M i) 68 j = _
            rw [fup_eq]
            unfold upd1
            by_cases e : j = i
            · subst e; rw [if_pos rfl]
            · rw [if_neg e]; exact p3 j (by omega)
          · show fup K 68 i (oct M i) a = _
            rw [fup_ne ha, p4 a ha]
        · obtain ⟨m, l, K⟩ := s
          obtain ⟨p1, p2, p3, p4⟩ := hp
          simp only at p1 p2 p3 p4
          subst p2
          refine ⟨.inl K, ?_, K, rfl, p3, p4⟩
          show s_X10_movePianos_68_b24 K P (n : Int) m (n : Int) = _
          unfold s_X10_movePianos_68_b24
          rw [if_pos (Int.le_refl _)]
      subst e2
      refine ⟨K, .inl ⟨?_, h9, hall, e3, e4⟩⟩
      unfold s_X10_movePianos_68
      rw [hn, if_pos (by omega), e1]
      rfl
    · obtain ⟨e, e1, K, e2, e4⟩ : ∃ e, s_X10_movePianos_68_l24 P (n : Int) (0, 0, fup M 1 2 0) = some e ∧ ∃ K, e = .inr (-1, K) ∧ ∀ a, a ≠ 68 → K a = fup M 1 2 0 a := by
        unfold s_X10_movePianos_68_l24
        refine fLp_ex (P := fun i s => s.1 = ((omask (oct M) i : Nat) : Int) ∧ s.2.1 = (i : Int) ∧ ∀ a, a ≠ 68 → s.2.2 a = fup M 1 2 0 a) i0 ⟨rfl, rfl, fun a _ => rfl⟩ (fun i s hi hp => ?_) (fun s hp => ?_)
        · obtain ⟨m, l, K⟩ := s
          obtain ⟨p1, p2, p4⟩ := hp
          simp only at p1 p2 p4
          subst p1; subst p2
          refine ⟨_, step i K (by omega) (h3 i hi) (fun j hj => h3 j (by omega)) p4, rfl, by simp, fun a ha => ?_⟩
          show fup K 68 i (oct M i) a = _
          rw [fup_ne ha, p4 a ha]
        · obtain ⟨m, l, K⟩ := s
          obtain ⟨p1, p2, p4⟩ := hp
          simp only at p1 p2 p4
          subst p1; subst p2
          refine ⟨.inr (-1, K), ?_, K, rfl, p4⟩
          show s_X10_movePianos_68_b24 K P (n : Int) _ (i0 : Int) = _
          have hml := omask_lt (b := oct M) i0 (fun j hj => Int.lt_of_lt_of_le (h3 j hj).1 hP)
          have hm2 : omask (oct M) i0 < 2147483648 := Nat.lt_trans hml (by decide)
          have ho := oct_b hT i0
          unfold s_X10_movePianos_68_b24
          rw [if_neg (by omega), if_pos (by omega), p4 2 (by decide), fup_ne (by decide), show (i0 : Int).toNat = i0 from rfl, show fand (M 2 i0) 255 = oct M i0 from rfl]
          by_cases hb : P ≤ oct M i0
          · rw [if_pos hb]
          · rw [if_neg hb]
            have htn : oct M i0 = (((oct M i0).toNat : Nat) : Int) := by omega
            have hbit : Nat.testBit (omask (oct M) i0) (oct M i0).toNat = true := by
              refine (omask_t _ _ _).2 (Classical.byContradiction fun hc => h2 ⟨by omega, fun j hj he => hc ⟨j, hj, by rw [he]⟩⟩)
            rw [htn, b_test hm2 (by omega), hbit, if_neg (by decide)]
      subst e2
      refine ⟨K, .inr ⟨?_, fun hc => h2 (hc.2 i0 h1), e4⟩⟩
      unfold s_X10_movePianos_68
      rw [hn, if_pos (by omega), e1]
      rfl
  · refine ⟨fup M 1 2 0, .inr ⟨?_, fun hc => h9 hc.1, fun a _ => rfl⟩⟩
    unfold s_X10_movePianos_68
    rw [hn, if_neg (by omega)]
/-! insertion -/
noncomputable def gIn (k : Nat) (M : fM) (x l : Int) : Option ((Int × fM) ⊕ (Int × fM)) :=
  if l ≤ 0 then
    some (.inr (l, M))
  else
    if fin (l - 1) ∧ (0 ≤ (l - 1) ∧ (l - 1) < 9) then
      if (M k (l - 1).toNat) ≤ x then
        some (.inr (l, M))
      else
        if fin (l - 1) ∧ (0 ≤ (l - 1) ∧ (l - 1) < 9) ∧ (0 ≤ l ∧ l < 9) ∧ fin (l + (-1)) then
          some (.inl ((l + (-1)), (fup M k (l).toNat (M k (l - 1).toNat))))
        else none
    else none
def insr (x : Int) : Nat → (Nat → Int) → (Nat → Int)
  | 0, r => upd1 r 0 x
  | l + 1, r => if r l ≤ x then upd1 r (l + 1) x else insr x l (upd1 r (l + 1) (r l))
def srt (r : Nat → Int) : Nat → (Nat → Int)
  | 0 => r
  | i + 1 => insr (srt r i (i + 1)) (i + 1) (srt r i)
theorem insr_all {C : Int → Prop} {n : Nat} {x : Int} (hx : C x) : ∀ (l : Nat) (r : Nat → Int), l < n → (∀ i, i < n → C (r i)) → ∀ i, i < n → C (insr x l r i)
  | 0, r, hl, h, i, hi => by
    show C (upd1 r 0 x i)
    unfold upd1
    split
    · exact hx
    · exact h i hi
  | l + 1, r, hl, h, i, hi => by
    unfold insr
    split
    · unfold upd1
      split
      · exact hx
      · exact h i hi
    · refine insr_all hx l _ (by omega) (fun i hi => ?_) i hi
      unfold upd1
      split
      · exact h l (by omega)
      · exact h i hi
theorem srt_all {C : Int → Prop} {n : Nat} {r : Nat → Int} (h : ∀ i, i < n → C (r i)) : ∀ (m : Nat), m < n ∨ m = 0 → ∀ i, i < n → C (srt r m i)
  | 0, _, i, hi => h i hi
  | m + 1, hm, i, hi => by
    have ih := srt_all h m (by omega)
    exact insr_all (ih (m + 1) (by omega)) (m + 1) (srt r m) (by omega) ih i hi
theorem gIn_ok (k : Nat) (x : Int) : ∀ (l : Nat) (M : fM), l < 9 → ∃ (p : Nat) (K : fM), fLp (fun s : Int × fM => gIn k s.2 x s.1) ((l : Int), M) = some ((p : Int), K) ∧ p < 9 ∧ upd1 (K k) p x = insr x l (M k) ∧ ∀ a, a ≠ k → K a = M a
  | 0, M, _ => by
    refine ⟨0, M, ?_, by omega, rfl, fun a _ => rfl⟩
    rw [fLp_eq]
    show (gIn k M x ((0 : Nat) : Int)).bind _ = _
    unfold gIn
    rw [if_pos (by omega)]
    rfl
  | l + 1, M, hl => by
    rw [fLp_eq]
    show ∃ p K, (gIn k M x ((l + 1 : Nat) : Int)).bind _ = _ ∧ _
    unfold gIn
    rw [if_neg (by omega), if_pos (by unfold fin; omega), show (((l + 1 : Nat) : Int) - 1).toNat = l by omega, show ((l + 1 : Nat) : Int).toNat = l + 1 from rfl]
    by_cases h : M k l ≤ x
    · rw [if_pos h]
      refine ⟨l + 1, M, rfl, hl, ?_, fun a _ => rfl⟩
      unfold insr
      rw [if_pos h]
    · rw [if_neg h, if_pos (by unfold fin; omega)]
      obtain ⟨p, K, h1, h2, h3, h4⟩ := gIn_ok k x l (fup M k (l + 1) (M k l)) (by omega)
      refine ⟨p, K, ?_, h2, ?_, fun a ha => by rw [h4 a ha, fup_ne ha]⟩
      · rw [show ((l + 1 : Nat) : Int) + (-1) = (l : Int) by omega]
        exact h1
      · rw [h3, fup_eq]
        conv => rhs; unfold insr
        rw [if_neg h]
theorem c_sort {M : fM} {n : Nat} (hn : n ≤ 9) : ∃ K, s_X7_sortPianos M (n : Int) = some ((), K) ∧ K 55 = srt (M 55) (n - 1) ∧ ∀ a, a ≠ 55 → K a = M a := by
  have key : ∃ e, s_X7_sortPianos_l2 (n : Int) (1, M) = some e ∧ (e 55 = srt (M 55) (n - 1) ∧ ∀ a, a ≠ 55 → e a = M a) := by
    unfold s_X7_sortPianos_l2
    refine fLp_ex (P := fun i s => s.1 = (i : Int) + 1 ∧ s.2 55 = srt (M 55) i ∧ ∀ a, a ≠ 55 → s.2 a = M a) (n - 1) ⟨rfl, rfl, fun a _ => rfl⟩ (fun i s hi hp => ?_) (fun s hp => ?_)
    · obtain ⟨l, K⟩ := s
      obtain ⟨p1, p2, p3⟩ := hp
      simp only at p1 p2 p3
      have p1' : l = ((i + 1 : Nat) : Int) := by omega
      subst p1'
      obtain ⟨p, K2, q1, q2, q3, q4⟩ := gIn_ok 55 (K 55 (i + 1)) (i + 1) K (by omega)
      refine ⟨(((i + 1 : Nat) : Int) + 1, fup K2 55 p (K 55 (i + 1))), ?_, by simp, ?_, fun a ha => ?_⟩
      · show s_X7_sortPianos_b2 K (n : Int) ((i + 1 : Nat) : Int) = _
        unfold s_X7_sortPianos_b2
        rw [if_neg (by omega), if_pos (by omega), show ((i + 1 : Nat) : Int).toNat = i + 1 from rfl]
        rw [show s_X7_sortPianos_l17 (n : Int) ((i + 1 : Nat) : Int) (K 55 (i + 1)) (((i + 1 : Nat) : Int), K) = some ((p : Int), K2) from q1, Option.bind_some]
        rw [if_pos (show (0 ≤ (p : Int) ∧ (p : Int) < 9) ∧ fin (((i + 1 : Nat) : Int) + 1) by unfold fin; omega)]
        rfl
      · show fup K2 55 p (K 55 (i + 1)) 55 = _
        rw [fup_eq, q3, p2]
        rfl
      · show fup K2 55 p _ a = _
        rw [fup_ne ha, q4 a ha, p3 a ha]
    · obtain ⟨l, K⟩ := s
      obtain ⟨p1, p2, p3⟩ := hp
      simp only at p1 p2 p3
      refine ⟨K, ?_, p2, p3⟩
      show s_X7_sortPianos_b2 K (n : Int) l = _
      unfold s_X7_sortPianos_b2
      rw [if_pos (by omega)]
  obtain ⟨K, h1, h2, h3⟩ := key
  refine ⟨K, ?_, h2, h3⟩
  unfold s_X7_sortPianos
  rw [h1]
  rfl
theorem m_sort {M : fM} {n : Nat} (hn : n ≤ 9) (h3n : M 122 3 = n) (day l2 : Int) : ∃ K, s_X12_tells_l103 day l2 (1, M) = some K ∧ K 133 = (if l2 = 0 then M 133 else srt (M 133) (n - 1)) ∧ ∀ a, a ≠ 133 → K a = M a := by
  by_cases h0 : l2 = 0
  · refine ⟨M, ?_, by rw [if_pos h0], fun a _ => rfl⟩
    unfold s_X12_tells_l103
    rw [fLp_eq]
    show (s_X12_tells_b103 M day l2 1).bind _ = _
    unfold s_X12_tells_b103
    rw [if_pos h0, ite_self]
    rfl
  rw [if_neg h0]
  unfold s_X12_tells_l103
  refine fLp_ex (P := fun i s => s.1 = (i : Int) + 1 ∧ s.2 133 = srt (M 133) i ∧ ∀ a, a ≠ 133 → s.2 a = M a) (n - 1) ⟨rfl, rfl, fun a _ => rfl⟩ (fun i s hi hp => ?_) (fun s hp => ?_)
  · obtain ⟨l, K⟩ := s
    obtain ⟨p1, p2, p3⟩ := hp
    simp only at p1 p2 p3
    have p1' : l = ((i + 1 : Nat) : Int) := by omega
    subst p1'
    obtain ⟨p, K2, q1, q2, q3, q4⟩ := gIn_ok 133 (K 133 (i + 1)) (i + 1) K (by omega)
    refine ⟨(((i + 1 : Nat) : Int) + 1, fup K2 133 p (K 133 (i + 1))), ?_, by simp, ?_, fun a ha => ?_⟩
    · show s_X12_tells_b103 K day l2 ((i + 1 : Nat) : Int) = _
      unfold s_X12_tells_b103
      rw [p3 122 (by decide), h3n, if_neg (by omega), if_neg h0, if_pos (by omega), show ((i + 1 : Nat) : Int).toNat = i + 1 from rfl]
      rw [show s_X12_tells_l126 day l2 ((i + 1 : Nat) : Int) (K 133 (i + 1)) (((i + 1 : Nat) : Int), K) = some ((p : Int), K2) from q1, Option.bind_some]
      rw [if_pos (show (0 ≤ (p : Int) ∧ (p : Int) < 9) ∧ fin (((i + 1 : Nat) : Int) + 1) by unfold fin; omega)]
      rfl
    · show fup K2 133 p (K 133 (i + 1)) 133 = _
      rw [fup_eq, q3, p2]
      rfl
    · show fup K2 133 p _ a = _
      rw [fup_ne ha, q4 a ha, p3 a ha]
  · obtain ⟨l, K⟩ := s
    obtain ⟨p1, p2, p3⟩ := hp
    simp only at p1 p2 p3
    refine ⟨K, ?_, p2, p3⟩
    show s_X12_tells_b103 K day l2 l = _
    unfold s_X12_tells_b103
    rw [p3 122 (by decide), h3n, if_pos (by omega)]
