/-! ===== where the pianos stand ===== -/
theorem srt_congr {n : Nat} {r r' : Nat → Int} (h : ∀ i, i < n → r i = r' i) : ∀ m, m < n ∨ m = 0 → ∀ i, i < n → srt r m i = srt r' m i := by
  have ins : ∀ (l : Nat) (x : Int) (q q' : Nat → Int), l < n → (∀ i, i < n → q i = q' i) → ∀ i, i < n → insr x l q i = insr x l q' i := by
    intro l
    induction l with
    | zero =>
      intro x q q' _ hq i hi
      show upd1 q 0 x i = upd1 q' 0 x i
      unfold upd1
      split
      · rfl
      · exact hq i hi
    | succ l ih =>
      intro x q q' hl hq i hi
      unfold insr
      rw [hq l (by omega)]
      split
      · unfold upd1
        split
        · rfl
        · exact hq i hi
      · refine ih x _ _ (by omega) (fun i hi => ?_) i hi
        unfold upd1
        split
        · rfl
        · exact hq i hi
  intro m
  induction m with
  | zero => intro _ i hi; exact h i hi
  | succ m ih =>
    intro hm i hi
    have ih2 := ih (by omega)
    show insr (srt r m (m + 1)) (m + 1) (srt r m) i = insr (srt r' m (m + 1)) (m + 1) (srt r' m) i
    rw [ih2 (m + 1) (by omega)]
    exact ins (m + 1) _ _ _ (by omega) ih2 i hi
def pX (D : fM) (d p : Int) : Int := if 0 ≤ lat D 6 p d d then D 23 (lat D 6 p d d).toNat else D 10 (p * 10 + 1).toNat
def pY (D : fM) (d p : Int) : Int := if 0 ≤ lat D 6 p d d then D 24 (lat D 6 p d d).toNat else D 10 (p * 10 + 2).toNat
abbrev pSh (D : fM) (d p : Int) : Prop := D 10 (p * 10 + 0).toNat = 1 ∧ D 7 (d / 7).toNat = 1
theorem lat6 {D : fM} (hw : WF D) {p d kn : Int} (h : 0 ≤ lat D 6 p d kn) : lat D 6 p d kn < D 18 8 ∧ lat D 6 p d kn < 200 ∧ D 19 (lat D 6 p d kn).toNat = 6 := by
  obtain ⟨hn, hn2⟩ := nR_c hw.1
  rcases latF_b D 6 p d kn (nR D) with e | ⟨a, b, c, -⟩
  · have : lat D 6 p d kn = -1 := e
    omega
  · exact ⟨by show latF D 6 p d kn (nR D) < _; omega, by show latF D 6 p d kn (nR D) < _; omega, c.1⟩
theorem pXY_bd {D : fM} (hw : WF D) {p d : Int} (h1 : 0 ≤ p) (h2 : p < D 4 13) : (0 ≤ pX D d p ∧ pX D d p ≤ 99) ∧ 0 ≤ pY D d p ∧ pY D d p ≤ 99 := by
  unfold pX pY
  by_cases h : 0 ≤ lat D 6 p d d
  · rw [if_pos h, if_pos h]
    obtain ⟨a, b, c⟩ := lat6 hw h
    obtain ⟨-, -, -, -, -, -, -, -, q, -⟩ := hw.2.2.2.2.2.2.2.2.2 _ h a
    exact q c
  · rw [if_neg h, if_neg h]
    obtain ⟨-, a, b, -⟩ := hw.2.2.2.2.2.1 p h1 h2
    exact ⟨a, b⟩
theorem op_bd {D : fM} (hw : WF D) {p : Int} (h1 : 0 ≤ p) (h2 : p < D 4 13) : (0 ≤ D 10 (p * 10 + 8).toNat ∧ D 10 (p * 10 + 8).toNat ≤ 1440) ∧ (0 ≤ D 10 (p * 10 + 9).toNat ∧ D 10 (p * 10 + 9).toNat ≤ 1440) := by
  obtain ⟨-, -, -, -, -, -, -, a, b⟩ := hw.2.2.2.2.2.1 p h1 h2
  exact ⟨a, b⟩
theorem c_isShut {M D : fM} (hc : CR M 0 D) (hw : WF D) {p d : Int} (h1 : 0 ≤ p) (h2 : p < D 4 13) (hd : 0 ≤ d) (hd2 : d < 364) : s_X2_isShut_4 M p d = some (bit (pSh D d p)) := by
  unfold s_X2_isShut_4
  rw [c_fact hc hw.1 h1 h2 (by decide) (by decide), Option.bind_some, c_weekOf M hd (by omega), Option.bind_some, if_pos (show 0 ≤ d / 7 ∧ d / 7 < 52 by omega), CR_r hc 7 (by decide) (by decide)]
  by_cases a : D 10 (p * 10 + 0).toNat = 1
  · rw [if_neg (fun e => e a)]
    by_cases b : D 7 (d / 7).toNat = 1
    · rw [if_neg (fun e => e b), bit1.2 ⟨a, b⟩]
    · rw [if_pos b, bit0.2 (fun e => b e.2)]
  · rw [if_pos a, bit0.2 (fun e => a e.1)]
/-- the class's rows -/
def PlC (K D : fM) (d : Int) (r : Nat → Int) (n : Nat) : Prop := (∀ i, i < n → K 56 i = pX D d (r i) ∧ K 57 i = pY D d (r i) ∧ K 58 i = D 10 (r i * 10 + 8).toNat ∧ K 59 i = if pSh D d (r i) then -1 else D 10 (r i * 10 + 9).toNat) ∧ K 54 17 = n ∧ K 54 18 = ((2 ^ n : Nat) : Int)
theorem c_place {M D : fM} (hc : CR M 0 D) (hw : WF D) {n : Nat} (hn : n ≤ 9) {r : Nat → Int} (hr : ∀ i, i < n → M 55 i = r i ∧ 0 ≤ r i ∧ r i < D 4 13) {d : Int} (hd : 0 ≤ d) (hd2 : d < 364) : ∃ K, s_X7_place M (n : Int) d = some ((), K) ∧ PlC K D d r n := by
  have key : ∃ e, s_X7_place_l14 (n : Int) d (0, fup (fup M 54 17 (n : Int)) 54 18 ((2 ^ n : Nat) : Int)) = some e ∧ ((∀ i, i < n → e 56 i = pX D d (r i) ∧ e 57 i = pY D d (r i) ∧ e 58 i = D 10 (r i * 10 + 8).toNat ∧ e 59 i = if pSh D d (r i) then -1 else D 10 (r i * 10 + 9).toNat) ∧ ∀ a, a ≠ 56 → a ≠ 57 → a ≠ 58 → a ≠ 59 → e a = fup (fup M 54 17 (n : Int)) 54 18 ((2 ^ n : Nat) : Int) a) := by
    unfold s_X7_place_l14
    refine fLp_ex (P := fun i s => s.1 = (i : Int) ∧ (∀ j, j < i → s.2 56 j = pX D d (r j) ∧ s.2 57 j = pY D d (r j) ∧ s.2 58 j = D 10 (r j * 10 + 8).toNat ∧ s.2 59 j = if pSh D d (r j) then -1 else D 10 (r j * 10 + 9).toNat) ∧ ∀ a, a ≠ 56 → a ≠ 57 → a ≠ 58 → a ≠ 59 → s.2 a = fup (fup M 54 17 (n : Int)) 54 18 ((2 ^ n : Nat) : Int) a) n ⟨rfl, fun j hj => by omega, fun a _ _ _ _ => rfl⟩ (fun i s hi hp => ?_) (fun s hp => ?_)
    · obtain ⟨l, K⟩ := s
      obtain ⟨p1, p2, p3⟩ := hp
      simp only at p1 p2 p3
      subst p1
      obtain ⟨h55, hp1, hp2⟩ := hr i hi
      have hcK : CR K 0 D := fun k h1 h2 => by
        show K k = _
        rw [p3 k (by omega) (by omega) (by omega) (by omega), fup_ne (by omega), fup_ne (by omega)]
        exact hc k h1 h2
      have k55 : K 55 i = r i := by rw [p3 55 (by decide) (by decide) (by decide) (by decide), fup_ne (by decide), fup_ne (by decide), h55]
      have up : ∀ (Q : fM) (a b : Nat) (v : Int), a ≠ 4 → (27 ≤ a) → CR Q 0 D → CR (fup Q a b v) 0 D := fun Q a b v _ ha hq k h1 h2 => by
        show fup Q a b v k = _
        rw [fup_ne (by omega)]
        exact hq k h1 h2
      have s1 : s_X7_place_b14 K (n : Int) d (i : Int) = s_X7_place_j75 K (n : Int) d (i : Int) (r i) (lat D 6 (r i) d d) (i : Int) (pX D d (r i)) := by
        unfold s_X7_place_b14
        rw [if_neg (by omega), if_pos (by omega), show (i : Int).toNat = i from rfl, k55, c_latest hcK hw.1, Option.bind_some]
        unfold pX
        by_cases h : 0 ≤ lat D 6 (r i) d d
        · obtain ⟨a, b, c⟩ := lat6 hw h
          rw [if_pos h, if_pos h, if_pos (by omega), CR_r hcK 23 (by decide) (by decide)]
        · rw [if_neg h, if_neg h, c_fact hcK hw.1 hp1 hp2 (by decide) (by decide), Option.bind_some]
      have hcA := up K 56 i (pX D d (r i)) (by decide) (by decide) hcK
      have s2 : s_X7_place_j75 K (n : Int) d (i : Int) (r i) (lat D 6 (r i) d d) (i : Int) (pX D d (r i)) = s_X7_place_j109 (fup K 56 i (pX D d (r i))) (n : Int) d (i : Int) (r i) (i : Int) (pY D d (r i)) := by
        unfold s_X7_place_j75
        rw [if_pos (by omega), show (i : Int).toNat = i from rfl]
        unfold pY
        by_cases h : 0 ≤ lat D 6 (r i) d d
        · obtain ⟨a, b, c⟩ := lat6 hw h
          rw [if_pos h, if_pos h, if_pos (by omega), CR_r hcK 24 (by decide) (by decide)]
        · rw [if_neg h, if_neg h, c_fact hcA hw.1 hp1 hp2 (by decide) (by decide), Option.bind_some]
      generalize hA : fup K 56 i (pX D d (r i)) = A at hcA s2
      have hcB := up A 57 i (pY D d (r i)) (by decide) (by decide) hcA
      have hcC := up _ 58 i (D 10 (r i * 10 + 8).toNat) (by decide) (by decide) hcB
      have s3 : s_X7_place_j109 A (n : Int) d (i : Int) (r i) (i : Int) (pY D d (r i)) = some (.inl ((i : Int) + 1, fup (fup (fup A 57 i (pY D d (r i))) 58 i (D 10 (r i * 10 + 8).toNat)) 59 i (if pSh D d (r i) then -1 else D 10 (r i * 10 + 9).toNat))) := by
        unfold s_X7_place_j109
        rw [if_pos (by omega), show (i : Int).toNat = i from rfl, c_fact hcB hw.1 hp1 hp2 (by decide) (by decide), Option.bind_some, if_pos (by omega), c_isShut hcC hw hp1 hp2 hd hd2, Option.bind_some, bit_if]
        by_cases h : pSh D d (r i)
        · rw [if_pos h, if_pos (by unfold fin; omega), if_pos h]
        · rw [if_neg h, c_fact hcC hw.1 hp1 hp2 (by decide) (by decide), Option.bind_some, if_pos (by unfold fin; omega), if_neg h]
      refine ⟨_, (show s_X7_place_b14 K (n : Int) d (i : Int) = _ from s1.trans (s2.trans s3)), by simp, fun j hj => ?_, fun a h1 h2 h3 h4 => ?_⟩
      · have e56 : (fup (fup (fup A 57 i (pY D d (r i))) 58 i (D 10 (r i * 10 + 8).toNat)) 59 i (if pSh D d (r i) then -1 else D 10 (r i * 10 + 9).toNat)) 56 j = upd1 (K 56) i (pX D d (r i)) j := by rw [fup_ne (by decide), fup_ne (by decide), fup_ne (by decide), ← hA, fup_eq]
        have e57 : (fup (fup (fup A 57 i (pY D d (r i))) 58 i (D 10 (r i * 10 + 8).toNat)) 59 i (if pSh D d (r i) then -1 else D 10 (r i * 10 + 9).toNat)) 57 j = upd1 (K 57) i (pY D d (r i)) j := by rw [fup_ne (by decide), fup_ne (by decide), fup_eq, ← hA, fup_ne (by decide)]
        have e58 : (fup (fup (fup A 57 i (pY D d (r i))) 58 i (D 10 (r i * 10 + 8).toNat)) 59 i (if pSh D d (r i) then -1 else D 10 (r i * 10 + 9).toNat)) 58 j = upd1 (K 58) i (D 10 (r i * 10 + 8).toNat) j := by rw [fup_ne (by decide), fup_eq, fup_ne (by decide), ← hA, fup_ne (by decide)]
        have e59 : (fup (fup (fup A 57 i (pY D d (r i))) 58 i (D 10 (r i * 10 + 8).toNat)) 59 i (if pSh D d (r i) then -1 else D 10 (r i * 10 + 9).toNat)) 59 j = upd1 (K 59) i (if pSh D d (r i) then -1 else D 10 (r i * 10 + 9).toNat) j := by rw [fup_eq, fup_ne (by decide), fup_ne (by decide), ← hA, fup_ne (by decide)]
        by_cases e : j = i
        · subst e
          exact ⟨e56.trans (if_pos rfl), e57.trans (if_pos rfl), e58.trans (if_pos rfl), e59.trans (if_pos rfl)⟩
        · obtain ⟨q1, q2, q3, q4⟩ := p2 j (by omega)
          exact ⟨(e56.trans (if_neg e)).trans q1, (e57.trans (if_neg e)).trans q2, (e58.trans (if_neg e)).trans q3, (e59.trans (if_neg e)).trans q4⟩
      · show fup (fup (fup A 57 i _) 58 i _) 59 i _ a = _
        rw [fup_ne h4, fup_ne h3, fup_ne h2, ← hA, fup_ne h1, p3 a h1 h2 h3 h4]
    · obtain ⟨l, K⟩ := s
      obtain ⟨p1, p2, p3⟩ := hp
      simp only at p1 p2 p3
      subst p1
      refine ⟨K, ?_, p2, p3⟩
      show s_X7_place_b14 K (n : Int) d (n : Int) = _
      unfold s_X7_place_b14
      rw [if_pos (Int.le_refl _)]
  obtain ⟨K, h1, h2, h3⟩ := key
  refine ⟨K, ?_, h2, ?_, ?_⟩
  · unfold s_X7_place
    rw [b_shl n (by omega), h1]
    rfl
  · rw [h3 54 (by decide) (by decide) (by decide) (by decide)]
    rfl
  · rw [h3 54 (by decide) (by decide) (by decide) (by decide)]
    rfl
/-- the reference's rows -/
def PlM (N D : fM) (d : Int) (r : Nat → Int) (n : Nat) : Prop := (∀ i, i < n → N 133 i = r i ∧ N 134 i = pX D d (r i) ∧ N 135 i = pY D d (r i) ∧ N 136 i = wgV D (r i) d ∧ N 137 i = bit (pSh D d (r i))) ∧ N 122 39 = n
theorem m_placed {M D : fM} (hm : MRh M 124 0 D) (hr : MRr M 125 0 D) (hn0 : M 122 10 = D 18 8) (hw : WF D) {n : Nat} (hn : n ≤ 9) (h3n : M 122 3 = n) (h39 : M 122 39 = n) {r : Nat → Int} (hrr : ∀ i, i < n → M 133 i = r i ∧ 0 ≤ r i ∧ r i < D 4 13) {d : Int} (hd : 0 ≤ d) (hd2 : d < 364) : ∃ K, s_X12_tells_j182 M d = some (1, K) ∧ PlM K D d r n := by
  have key : ∃ e, s_X12_tells_l184 d (0, M) = some e ∧ ((∀ i, i < n → e 134 i = pX D d (r i) ∧ e 135 i = pY D d (r i) ∧ e 136 i = wgV D (r i) d ∧ e 137 i = bit (pSh D d (r i))) ∧ fSame (coL ++ [(134, none), (135, none), (136, none), (137, none)]) M e) := by
    unfold s_X12_tells_l184
    refine fLp_ex (P := fun i s => s.1 = (i : Int) ∧ (∀ j, j < i → s.2 134 j = pX D d (r j) ∧ s.2 135 j = pY D d (r j) ∧ s.2 136 j = wgV D (r j) d ∧ s.2 137 j = bit (pSh D d (r j))) ∧ fSame (coL ++ [(134, none), (135, none), (136, none), (137, none)]) M s.2) n ⟨rfl, fun j hj => by omega, fs_refl⟩ (fun i s hi hp => ?_) (fun s hp => ?_)
    · obtain ⟨l, K⟩ := s
      obtain ⟨p1, p2, p3⟩ := hp
      simp only at p1 p2 p3
      subst p1
      obtain ⟨h133, hp1, hp2⟩ := hrr i hi
      have hmK : MRh K 124 0 D := MRh_row (fs_row p3 124 (by decide)) hm
      have hrK : MRr K 125 0 D := MRr_row (fs_row p3 125 (by decide)) hr
      have k133 : K 133 i = r i := by rw [fs_row p3 133 (by decide), h133]
      have k3 : K 122 3 = n := by rw [fs_at p3 122 3 (by decide), h3n]
      have k10 : K 122 10 = D 18 8 := by rw [fs_at p3 122 10 (by decide), hn0]
      have s1 : s_X12_tells_b184 K d (i : Int) = s_X12_tells_j244 K d (i : Int) (r i) (lat D 6 (r i) d d) (i : Int) (pX D d (r i)) := by
        unfold s_X12_tells_b184
        rw [k3, if_neg (by omega), if_pos (by omega), show (i : Int).toNat = i from rfl, k133, m_latest hrK k10 hw.1, Option.bind_some]
        unfold pX
        by_cases h : 0 ≤ lat D 6 (r i) d d
        · obtain ⟨a, b, c⟩ := lat6 hw h
          rw [if_pos h, if_pos h, if_pos (by unfold fin; omega), mr_first hrK (lat D 6 (r i) d d) rfl h a (.inr (.inr (.inr c)))]
        · rw [if_neg h, if_neg h, m_of hmK hw.1 hp1 hp2 (by decide) (by decide), Option.bind_some]
      have s2 : s_X12_tells_j244 K d (i : Int) (r i) (lat D 6 (r i) d d) (i : Int) (pX D d (r i)) = s_X12_tells_j277 (fup K 134 i (pX D d (r i))) d (i : Int) (r i) (i : Int) (pY D d (r i)) := by
        unfold s_X12_tells_j244
        rw [if_pos (by omega), show (i : Int).toNat = i from rfl]
        unfold pY
        by_cases h : 0 ≤ lat D 6 (r i) d d
        · obtain ⟨a, b, c⟩ := lat6 hw h
          rw [if_pos h, if_pos h, if_pos (by unfold fin; omega), mr_second hrK (lat D 6 (r i) d d) rfl h a c]
        · rw [if_neg h, if_neg h, m_of (MRh_row (fup_ne (by decide)) hmK) hw.1 hp1 hp2 (by decide) (by decide), Option.bind_some]
      generalize hA : fup K 134 i (pX D d (r i)) = A at s2
      have s3 : s_X12_tells_j277 A d (i : Int) (r i) (i : Int) (pY D d (r i)) = s_X12_tells_j315 (fup A 135 i (pY D d (r i))) d (i : Int) (r i) (i : Int) (bit (pSh D d (r i))) := by
        have a124 : A 124 = K 124 := by rw [← hA, fup_ne (by decide)]
        unfold s_X12_tells_j277
        rw [if_pos (by omega), show (i : Int).toNat = i from rfl, m_of (MRh_row (M := K) (by rw [fup_ne (by decide), a124]) hmK) hw.1 hp1 hp2 (by decide) (by decide), Option.bind_some, fdiv7 hd (by omega), a124, if_pos (show fin (65 + d / 7) ∧ (0 ≤ 65 + d / 7 ∧ 65 + d / 7 < 1290) by unfold fin; omega), mh_term hmK (d / 7) rfl (by omega) (by omega)]
        by_cases a : D 10 (r i * 10 + 0).toNat = 1
        · rw [if_neg (fun e => e a)]
          by_cases b : D 7 (d / 7).toNat = 1
          · rw [if_neg (fun e => e b), bit1.2 ⟨a, b⟩]
          · rw [if_pos b, bit0.2 (fun e => b e.2)]
            rfl
        · rw [if_pos a, bit0.2 (fun e => a e.1)]
          rfl
      have e1 : ∀ a, a ≠ 137 → a ≠ 135 → a ≠ 134 → (fup (fup A 135 i (pY D d (r i))) 137 i (bit (pSh D d (r i)))) a = K a := fun a h1 h2 h3 => by rw [fup_ne h1, fup_ne h2, ← hA, fup_ne h3]
      obtain ⟨Q, w1, w2⟩ := m_weightOf (N := fup (fup A 135 i (pY D d (r i))) 137 i (bit (pSh D d (r i)))) (MRh_row (e1 124 (by decide) (by decide) (by decide)) hmK) (MRr_row (e1 125 (by decide) (by decide) (by decide)) hrK) (by rw [e1 122 (by decide) (by decide) (by decide), k10]) hw hp1 hp2 hd hd2
      have s4 : s_X12_tells_j315 (fup A 135 i (pY D d (r i))) d (i : Int) (r i) (i : Int) (bit (pSh D d (r i))) = some (.inl ((i : Int) + 1, fup Q 136 i (wgV D (r i) d))) := by
        unfold s_X12_tells_j315
        rw [if_pos ⟨by omega, bit_b⟩, show (i : Int).toNat = i from rfl, w1, Option.bind_some, if_pos (by unfold fin; omega)]
      refine ⟨_, (show s_X12_tells_b184 K d (i : Int) = _ from s1.trans (s2.trans (s3.trans s4))), by simp, fun j hj => ?_, ?_⟩
      · have e134 : fup Q 136 i (wgV D (r i) d) 134 j = upd1 (K 134) i (pX D d (r i)) j := by rw [fup_ne (by decide), fs_row w2 134 (by decide), fup_ne (by decide), fup_ne (by decide), ← hA, fup_eq]
        have e135 : fup Q 136 i (wgV D (r i) d) 135 j = upd1 (K 135) i (pY D d (r i)) j := by rw [fup_ne (by decide), fs_row w2 135 (by decide), fup_ne (by decide), fup_eq, ← hA, fup_ne (by decide)]
        have e136 : fup Q 136 i (wgV D (r i) d) 136 j = upd1 (K 136) i (wgV D (r i) d) j := by rw [fup_eq, fs_row w2 136 (by decide), e1 136 (by decide) (by decide) (by decide)]
        have e137 : fup Q 136 i (wgV D (r i) d) 137 j = upd1 (K 137) i (bit (pSh D d (r i))) j := by rw [fup_ne (by decide), fs_row w2 137 (by decide), fup_eq, fup_ne (by decide), ← hA, fup_ne (by decide)]
        by_cases e : j = i
        · subst e
          exact ⟨e134.trans (if_pos rfl), e135.trans (if_pos rfl), e136.trans (if_pos rfl), e137.trans (if_pos rfl)⟩
        · obtain ⟨q1, q2, q3, q4⟩ := p2 j (by omega)
          exact ⟨(e134.trans (if_neg e)).trans q1, (e135.trans (if_neg e)).trans q2, (e136.trans (if_neg e)).trans q3, (e137.trans (if_neg e)).trans q4⟩
      · refine fs_up (fs_trans p3 (fs_trans ?_ (fs_mono (fun x hx => List.mem_append_left _ hx) w2))) (.inl (by decide))
        rw [← hA]
        exact fs_up (fs_up (fs_up fs_refl (.inl (by decide))) (.inl (by decide))) (.inl (by decide))
    · obtain ⟨l, K⟩ := s
      obtain ⟨p1, p2, p3⟩ := hp
      simp only at p1 p2 p3
      subst p1
      refine ⟨K, ?_, p2, p3⟩
      show s_X12_tells_b184 K d (n : Int) = _
      unfold s_X12_tells_b184
      rw [fs_at p3 122 3 (by decide), h3n, if_pos (Int.le_refl _)]
  obtain ⟨K, h1, h2, h3⟩ := key
  refine ⟨K, ?_, fun i hi => ⟨by rw [fs_row h3 133 (by decide)]; exact (hrr i hi).1, h2 i hi⟩, by rw [fs_at h3 122 39 (by decide), h39]⟩
  unfold s_X12_tells_j182
  rw [h1]
  rfl
