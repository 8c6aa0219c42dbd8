/-! ===== image and restore, the calls ===== -/
theorem Eqv_of {M K : fM} {D : fM} {s : Nat} (hc : CR M 0 D) (hw : WFn D) (h1 : CpH M K 4 (4 + s)) (h2 : ∀ k, 5 ≤ k → k ≤ 17 → True) {K2 : fM} (h3 : CpR K K2 18 (18 + s)) (hK : ∀ k, 18 ≤ k → k ≤ 26 → K k = M k) (hK2 : ∀ k, 4 + s ≤ k → k ≤ 17 + s → K2 k = K k) : Eqv D (fun k => K2 (k + s)) := by
  obtain ⟨⟨a13, a14, a15, a16, -⟩, b1, b2, b3, b4, b5, b6, b7, b8, b9, b10, b11, b12, b13⟩ := h1
  obtain ⟨r8, r1, r2⟩ := h3
  have hn := nR_c hw
  have c18 : K 18 8 = D 18 8 := by rw [hK 18 (by decide) (by decide)]; exact congrFun (hc 18 (by decide) (by decide)) 8
  have row : ∀ k, 4 ≤ k → k ≤ 17 → ∀ j, K2 (k + s) j = K (k + s) j := fun k h1 h2 j => by rw [hK2 (k + s) (by omega) (by omega)]
  have rM : ∀ k, 4 ≤ k → k ≤ 26 → ∀ j, M k j = D k j := fun k h1 h2 j => congrFun (hc k h1 h2) j
  have sh : ∀ a : Nat, (4 + s + a) = (4 + a + s) := fun a => by omega
  have sr : ∀ a : Nat, (18 + s + a) = (18 + a + s) := fun a => by omega
  refine ⟨⟨?_, ?_, ?_, ?_, ?_⟩, ?_, ?_, ?_, ?_, ?_, ?_, ?_, ?_, ?_, ⟨?_, ?_, ?_⟩, ?_, ?_⟩
  · exact (row 4 (by decide) (by decide) 13).trans (a13.trans (rM 4 (by decide) (by decide) 13))
  · exact (row 4 (by decide) (by decide) 14).trans (a14.trans (rM 4 (by decide) (by decide) 14))
  · exact (row 4 (by decide) (by decide) 15).trans (a15.trans (rM 4 (by decide) (by decide) 15))
  · exact (row 4 (by decide) (by decide) 16).trans (a16.trans (rM 4 (by decide) (by decide) 16))
  · exact r8.trans c18
  · intro j hj
    exact (row 5 (by decide) (by decide) j).trans ((by rw [← sh 1]; exact b1 j hj : K (5 + s) j = M (4 + 1) j).trans (rM 5 (by decide) (by decide) j))
  · intro j hj
    exact ⟨(row 6 (by decide) (by decide) j).trans ((by rw [← sh 2]; exact b2 j hj : K (6 + s) j = M (4 + 2) j).trans (rM 6 (by decide) (by decide) j)), (row 7 (by decide) (by decide) j).trans ((by rw [← sh 3]; exact b3 j hj : K (7 + s) j = M (4 + 3) j).trans (rM 7 (by decide) (by decide) j))⟩
  · intro j hj
    exact (row 8 (by decide) (by decide) j).trans ((by rw [← sh 4]; exact b4 j hj : K (8 + s) j = M (4 + 4) j).trans (rM 8 (by decide) (by decide) j))
  · intro j hj
    exact (row 9 (by decide) (by decide) j).trans ((by rw [← sh 5]; exact b5 j hj : K (9 + s) j = M (4 + 5) j).trans (rM 9 (by decide) (by decide) j))
  · intro j hj
    exact (row 10 (by decide) (by decide) j).trans ((by rw [← sh 6]; exact b6 j hj : K (10 + s) j = M (4 + 6) j).trans (rM 10 (by decide) (by decide) j))
  · intro j hj
    exact (row 11 (by decide) (by decide) j).trans ((by rw [← sh 7]; exact b7 j hj : K (11 + s) j = M (4 + 7) j).trans (rM 11 (by decide) (by decide) j))
  · intro j hj
    exact (row 12 (by decide) (by decide) j).trans ((by rw [← sh 8]; exact b8 j hj : K (12 + s) j = M (4 + 8) j).trans (rM 12 (by decide) (by decide) j))
  · intro j hj
    exact (row 13 (by decide) (by decide) j).trans ((by rw [← sh 9]; exact b9 j hj : K (13 + s) j = M (4 + 9) j).trans (rM 13 (by decide) (by decide) j))
  · intro j hj
    exact (row 14 (by decide) (by decide) j).trans ((by rw [← sh 10]; exact b10 j hj : K (14 + s) j = M (4 + 10) j).trans (rM 14 (by decide) (by decide) j))
  · intro j hj
    exact (row 15 (by decide) (by decide) j).trans ((by rw [← sh 11]; exact b11 j hj : K (15 + s) j = M (4 + 11) j).trans (rM 15 (by decide) (by decide) j))
  · intro j hj
    exact (row 16 (by decide) (by decide) j).trans ((by rw [← sh 12]; exact b12 j hj : K (16 + s) j = M (4 + 12) j).trans (rM 16 (by decide) (by decide) j))
  · intro j hj
    exact (row 17 (by decide) (by decide) j).trans ((by rw [← sh 13]; exact b13 j hj : K (17 + s) j = M (4 + 13) j).trans (rM 17 (by decide) (by decide) j))
  · intro j hj
    have hj2 : (j : Int) < K 18 8 := by rw [c18]; unfold nR at hj; omega
    have q := r1 j hj2
    exact ⟨(by rw [← sr 1]; exact q.1 : K2 (19 + s) j = K (18 + 1) j).trans ((congrFun (hK 19 (by decide) (by decide)) j).trans (rM 19 (by decide) (by decide) j)), (by rw [← sr 2]; exact q.2.1 : K2 (20 + s) j = K (18 + 2) j).trans ((congrFun (hK 20 (by decide) (by decide)) j).trans (rM 20 (by decide) (by decide) j)), (by rw [← sr 3]; exact q.2.2.1 : K2 (21 + s) j = K (18 + 3) j).trans ((congrFun (hK 21 (by decide) (by decide)) j).trans (rM 21 (by decide) (by decide) j)), (by rw [← sr 4]; exact q.2.2.2.1 : K2 (22 + s) j = K (18 + 4) j).trans ((congrFun (hK 22 (by decide) (by decide)) j).trans (rM 22 (by decide) (by decide) j)), (by rw [← sr 5]; exact q.2.2.2.2.1 : K2 (23 + s) j = K (18 + 5) j).trans ((congrFun (hK 23 (by decide) (by decide)) j).trans (rM 23 (by decide) (by decide) j)), (by rw [← sr 6]; exact q.2.2.2.2.2.1 : K2 (24 + s) j = K (18 + 6) j).trans ((congrFun (hK 24 (by decide) (by decide)) j).trans (rM 24 (by decide) (by decide) j)), (by rw [← sr 7]; exact q.2.2.2.2.2.2 : K2 (25 + s) j = K (18 + 7) j).trans ((congrFun (hK 25 (by decide) (by decide)) j).trans (rM 25 (by decide) (by decide) j))⟩
  · intro j hj
    have hj2 : (j : Int) < K 18 8 * 12 := by rw [c18]; unfold nR at hj; omega
    exact (by rw [← sr 8]; exact r2 j hj2 : K2 (26 + s) j = K (18 + 8) j).trans ((congrFun (hK 26 (by decide) (by decide)) j).trans (rM 26 (by decide) (by decide) j))
/-- the reference's copies -/
theorem m_copy {b : fM → Int → Option ((Int × fM) ⊕ fM)} (src dst so dO n : Nat) (hne : src ≠ dst) (hn : n ≤ 1000000) (N : fM) (hb : ∀ (K : fM) (i : Nat), i < n → (∀ k, k ≠ dst → K k = N k) → b K (i : Int) = some (.inl ((i : Int) + 1, fup K dst (dO + i) (K src (so + i))))) (he : ∀ K : fM, (∀ k, k ≠ dst → K k = N k) → b K (n : Int) = some (.inr K)) : fLp (fun s : Int × fM => b s.2 s.1) (0, N) = some (fcpy N src so dst dO n) := by
  have := fLp_for (b := fun s : Int × fM => b s.2 s.1) (fun i => ((i : Int), fcpy N src so dst dO i)) n (e := fcpy N src so dst dO n) (fun i hi => ?_) ?_
  · rw [fcpy_0] at this
    exact this
  · show b (fcpy N src so dst dO i) (i : Int) = some (.inl ((i : Int) + 1, fcpy N src so dst dO (i + 1)))
    rw [hb _ i hi (fun k hk => fcpy_row hk), fcpy_row hne, fcpy_s]
  · exact he _ (fun k hk => fcpy_row hk)
theorem m_image {N : fM} (k : Nat) (hk : k < 2) (h1 : 0 ≤ N 122 10) (h2 : N 122 10 ≤ 200) : ∃ N', s_X12_image N (k : Int) = some (1, N') ∧ (∀ w : Nat, w < 645 → N' 150 (645 * k + w) = N 124 w) ∧ (∀ w : Nat, w < 28 → N' 153 (28 * k + w) = N 126 w) ∧ (∀ w : Nat, (w : Int) < 19 * N 122 10 → N' 151 (3800 * k + w) = N 125 w) ∧ N' 152 k = N 122 10 ∧ N' 154 k = 1 ∧ (∀ m : Nat, m < 2 → m ≠ k → N' 152 m = N 152 m ∧ N' 154 m = N 154 m ∧ (∀ w : Nat, w < 645 → N' 150 (645 * m + w) = N 150 (645 * m + w)) ∧ (∀ w : Nat, w < 28 → N' 153 (28 * m + w) = N 153 (28 * m + w)) ∧ (∀ w : Nat, w < 3800 → N' 151 (3800 * m + w) = N 151 (3800 * m + w))) ∧ fSame [(122, some 0), (150, none), (151, none), (152, none), (153, none), (154, none)] N N' := by
  obtain ⟨q, hq⟩ : ∃ q : Nat, N 122 10 = (q : Int) := ⟨(N 122 10).toNat, by omega⟩
  have c1 : s_X12_image_l18 (k : Int) (0, fup N 122 0 0) = some (fcpy (fup N 122 0 0) 124 0 150 (645 * k) 645) := by
    unfold s_X12_image_l18
    refine m_copy (b := fun K i => s_X12_image_b18 K (k : Int) i) 124 150 0 (645 * k) 645 (by decide) (by decide) _ (fun K i hi hK => ?_) (fun K hK => ?_)
    · show s_X12_image_b18 K (k : Int) (i : Int) = _
      unfold s_X12_image_b18
      rw [if_neg (by omega), if_pos (by unfold fin; omega), if_pos (by unfold fin; omega), show (645 * (k : Int) + (i : Int)).toNat = 645 * k + i by omega, show (i : Int).toNat = 0 + i by omega]
    · show s_X12_image_b18 K (k : Int) ((645 : Nat) : Int) = _
      unfold s_X12_image_b18
      rw [if_pos (by omega)]
  generalize hA : fcpy (fup N 122 0 0) 124 0 150 (645 * k) 645 = A at c1
  have c2 : s_X12_image_l51 (k : Int) (0, A) = some (fcpy A 126 0 153 (28 * k) 28) := by
    unfold s_X12_image_l51
    refine m_copy (b := fun K i => s_X12_image_b51 K (k : Int) i) 126 153 0 (28 * k) 28 (by decide) (by decide) _ (fun K i hi hK => ?_) (fun K hK => ?_)
    · show s_X12_image_b51 K (k : Int) (i : Int) = _
      unfold s_X12_image_b51
      rw [if_neg (by omega), if_pos (by unfold fin; omega), if_pos (by unfold fin; omega), show (28 * (k : Int) + (i : Int)).toNat = 28 * k + i by omega, show (i : Int).toNat = 0 + i by omega]
    · show s_X12_image_b51 K (k : Int) ((28 : Nat) : Int) = _
      unfold s_X12_image_b51
      rw [if_pos (by omega)]
  generalize hB : fcpy A 126 0 153 (28 * k) 28 = B at c2
  have b10 : B 122 10 = q := by rw [← hB, fcpy_row (by decide), ← hA, fcpy_row (by decide)]; exact hq
  have c3 : s_X12_image_l82 (k : Int) (0, B) = some (fcpy B 125 0 151 (3800 * k) (19 * q)) := by
    unfold s_X12_image_l82
    refine m_copy (b := fun K i => s_X12_image_b82 K (k : Int) i) 125 151 0 (3800 * k) (19 * q) (by decide) (by omega) _ (fun K i hi hK => ?_) (fun K hK => ?_)
    · show s_X12_image_b82 K (k : Int) (i : Int) = _
      unfold s_X12_image_b82
      rw [hK 122 (by decide), b10, if_pos (by unfold fin; omega), if_neg (by omega), if_pos (by unfold fin; omega), if_pos (by unfold fin; omega), show (3800 * (k : Int) + (i : Int)).toNat = 3800 * k + i by omega, show (i : Int).toNat = 0 + i by omega]
    · show s_X12_image_b82 K (k : Int) ((19 * q : Nat) : Int) = _
      unfold s_X12_image_b82
      rw [hK 122 (by decide), b10, if_pos (by unfold fin; omega), if_pos (by omega)]
  generalize hC : fcpy B 125 0 151 (3800 * k) (19 * q) = C at c3
  have rA : ∀ a, a ≠ 150 → A a = fup N 122 0 0 a := fun a ha => by rw [← hA, fcpy_row ha]
  have rB : ∀ a, a ≠ 153 → B a = A a := fun a ha => by rw [← hB, fcpy_row ha]
  have rC : ∀ a, a ≠ 151 → C a = B a := fun a ha => by rw [← hC, fcpy_row ha]
  have fR : ∀ a, a ≠ 152 → a ≠ 154 → fup (fup C 152 k (q : Int)) 154 k 1 a = C a := fun a h1 h2 => by rw [fup_ne h2, fup_ne h1]
  refine ⟨fup (fup C 152 k (q : Int)) 154 k 1, ?_, fun w hw => ?_, fun w hw => ?_, fun w hw => ?_, ?_, ?_, fun m hm hmk => ⟨?_, ?_, fun w hw => ?_, fun w hw => ?_, fun w hw => ?_⟩, ?_⟩
  · unfold s_X12_image
    rw [m_isIn, Option.bind_some, bit_ifn, if_pos (by omega), c1, Option.bind_some, c2, Option.bind_some, c3, Option.bind_some, if_pos (by omega), Int.toNat_natCast, rC 122 (by decide), b10]
  · rw [fR 150 (by decide) (by decide), rC 150 (by decide), rB 150 (by decide), ← hA, fcpy_to _ _ _ _ _ hw, fup_ne (by decide)]
  · rw [fR 153 (by decide) (by decide), rC 153 (by decide), ← hB, fcpy_to _ _ _ _ _ hw, rA 126 (by decide), fup_ne (by decide)]
  · rw [fR 151 (by decide) (by decide), ← hC, fcpy_to _ _ _ _ _ (by omega), rB 125 (by decide), rA 125 (by decide), fup_ne (by decide)]
  · rw [fup_ne (by decide), fup_eq, upd1_at, hq]
  · rw [fup_eq, upd1_at]
  · rw [fup_ne (by decide), fup_eq, upd1_ne hmk, rC 152 (by decide), rB 152 (by decide), rA 152 (by decide), fup_ne (by decide)]
  · rw [fup_eq, upd1_ne hmk, fup_ne (by decide), rC 154 (by decide), rB 154 (by decide), rA 154 (by decide), fup_ne (by decide)]
  · rw [fR 150 (by decide) (by decide), rC 150 (by decide), rB 150 (by decide), ← hA]
    unfold fcpy
    rw [if_neg (fun e => by omega), fup_ne (by decide)]
  · rw [fR 153 (by decide) (by decide), rC 153 (by decide), ← hB]
    unfold fcpy
    rw [if_neg (fun e => by omega), rA 153 (by decide), fup_ne (by decide)]
  · rw [fR 151 (by decide) (by decide), ← hC]
    unfold fcpy
    rw [if_neg (fun e => by omega), rB 151 (by decide), rA 151 (by decide), fup_ne (by decide)]
  · intro a j hnm
    have h150 : a ≠ 150 := fun e => hnm (.inl (by rw [e]; decide))
    have h151 : a ≠ 151 := fun e => hnm (.inl (by rw [e]; decide))
    have h152 : a ≠ 152 := fun e => hnm (.inl (by rw [e]; decide))
    have h153 : a ≠ 153 := fun e => hnm (.inl (by rw [e]; decide))
    have h154 : a ≠ 154 := fun e => hnm (.inl (by rw [e]; decide))
    rw [fR a h152 h154, rC a h151, rB a h153, rA a h150]
    unfold fup
    rw [if_neg (fun e => hnm (.inr (by rw [e.1, e.2]; decide)))]
theorem m_restore {N : fM} (k : Nat) (hk : k < 2) (h154 : ¬ N 154 k = 0) (h1 : 0 ≤ N 152 k) (h2 : N 152 k ≤ 200) : ∃ N', s_X12_restore N (k : Int) = some (1, N') ∧ (∀ w : Nat, w < 645 → N' 124 w = N 150 (645 * k + w)) ∧ (∀ w : Nat, w < 28 → N' 126 w = N 153 (28 * k + w)) ∧ (∀ w : Nat, (w : Int) < 19 * N 152 k → N' 125 w = N 151 (3800 * k + w)) ∧ N' 122 10 = N 152 k ∧ fSame [(122, some 0), (122, some 10), (124, none), (125, none), (126, none)] N N' := by
  obtain ⟨q, hq⟩ : ∃ q : Nat, N 152 k = (q : Int) := ⟨(N 152 k).toNat, by omega⟩
  have c1 : s_X12_restore_l27 (k : Int) (0, fup N 122 0 0) = some (fcpy (fup N 122 0 0) 150 (645 * k) 124 0 645) := by
    unfold s_X12_restore_l27
    refine m_copy (b := fun K i => s_X12_restore_b27 K (k : Int) i) 150 124 (645 * k) 0 645 (by decide) (by decide) _ (fun K i hi hK => ?_) (fun K hK => ?_)
    · show s_X12_restore_b27 K (k : Int) (i : Int) = _
      unfold s_X12_restore_b27
      rw [if_neg (by omega), if_pos (by unfold fin; omega), if_pos (by unfold fin; omega), show (645 * (k : Int) + (i : Int)).toNat = 645 * k + i by omega, show (i : Int).toNat = 0 + i by omega]
    · show s_X12_restore_b27 K (k : Int) ((645 : Nat) : Int) = _
      unfold s_X12_restore_b27
      rw [if_pos (by omega)]
  generalize hA : fcpy (fup N 122 0 0) 150 (645 * k) 124 0 645 = A at c1
  have c2 : s_X12_restore_l60 (k : Int) (0, A) = some (fcpy A 153 (28 * k) 126 0 28) := by
    unfold s_X12_restore_l60
    refine m_copy (b := fun K i => s_X12_restore_b60 K (k : Int) i) 153 126 (28 * k) 0 28 (by decide) (by decide) _ (fun K i hi hK => ?_) (fun K hK => ?_)
    · show s_X12_restore_b60 K (k : Int) (i : Int) = _
      unfold s_X12_restore_b60
      rw [if_neg (by omega), if_pos (by unfold fin; omega), if_pos (by unfold fin; omega), show (28 * (k : Int) + (i : Int)).toNat = 28 * k + i by omega, show (i : Int).toNat = 0 + i by omega]
    · show s_X12_restore_b60 K (k : Int) ((28 : Nat) : Int) = _
      unfold s_X12_restore_b60
      rw [if_pos (by omega)]
  generalize hB : fcpy A 153 (28 * k) 126 0 28 = B at c2
  have rA : ∀ a, a ≠ 124 → A a = fup N 122 0 0 a := fun a ha => by rw [← hA, fcpy_row ha]
  have rB : ∀ a, a ≠ 126 → B a = A a := fun a ha => by rw [← hB, fcpy_row ha]
  have b152 : B 152 k = q := by rw [rB 152 (by decide), rA 152 (by decide), fup_ne (by decide), hq]
  have c3 : s_X12_restore_l101 (k : Int) (0, fup B 122 10 (q : Int)) = some (fcpy (fup B 122 10 (q : Int)) 151 (3800 * k) 125 0 (19 * q)) := by
    unfold s_X12_restore_l101
    refine m_copy (b := fun K i => s_X12_restore_b101 K (k : Int) i) 151 125 (3800 * k) 0 (19 * q) (by decide) (by omega) _ (fun K i hi hK => ?_) (fun K hK => ?_)
    · show s_X12_restore_b101 K (k : Int) (i : Int) = _
      unfold s_X12_restore_b101
      rw [hK 122 (by decide), show fup B 122 10 (q : Int) 122 10 = (q : Int) from rfl, if_pos (by unfold fin; omega), if_neg (by omega), if_pos (by unfold fin; omega), if_pos (by unfold fin; omega), show (3800 * (k : Int) + (i : Int)).toNat = 3800 * k + i by omega, show (i : Int).toNat = 0 + i by omega]
    · show s_X12_restore_b101 K (k : Int) ((19 * q : Nat) : Int) = _
      unfold s_X12_restore_b101
      rw [hK 122 (by decide), show fup B 122 10 (q : Int) 122 10 = (q : Int) from rfl, if_pos (by unfold fin; omega), if_pos (by omega)]
  generalize hC : fcpy (fup B 122 10 (q : Int)) 151 (3800 * k) 125 0 (19 * q) = C at c3
  have rC : ∀ a, a ≠ 125 → C a = fup B 122 10 (q : Int) a := fun a ha => by rw [← hC, fcpy_row ha]
  refine ⟨C, ?_, fun w hw => ?_, fun w hw => ?_, fun w hw => ?_, ?_, ?_⟩
  · unfold s_X12_restore
    rw [m_isIn, Option.bind_some, bit_if, if_pos (by omega), if_pos (by omega), Int.toNat_natCast, if_pos h154, c1, Option.bind_some, c2, Option.bind_some, if_pos (by omega), b152, c3]
    rfl
  · rw [rC 124 (by decide), fup_ne (by decide), rB 124 (by decide), ← hA, fcpy_from _ _ _ _ _ hw, fup_ne (by decide)]
  · rw [rC 126 (by decide), fup_ne (by decide), ← hB, fcpy_from _ _ _ _ _ hw, rA 153 (by decide), fup_ne (by decide)]
  · rw [← hC, fcpy_from _ _ _ _ _ (by omega), fup_ne (by decide), rB 151 (by decide), rA 151 (by decide), fup_ne (by decide)]
  · rw [rC 122 (by decide), hq]; rfl
  · intro a j hnm
    have h124 : a ≠ 124 := fun e => hnm (.inl (by rw [e]; decide))
    have h125 : a ≠ 125 := fun e => hnm (.inl (by rw [e]; decide))
    have h126 : a ≠ 126 := fun e => hnm (.inl (by rw [e]; decide))
    rw [rC a h125]
    show fup B 122 10 (q : Int) a j = _
    unfold fup
    rw [if_neg (fun e => hnm (.inr (by rw [e.1, e.2]; decide))), rB a h126, rA a h124]
    unfold fup
    rw [if_neg (fun e => hnm (.inr (by rw [e.1, e.2]; decide)))]
theorem k_image0 {M : fM} (hI : Iv M) : ∃ M1 M2, s_X11_image_0 M = some (1, M1) ∧ M1 1000 = M 1000 ∧ s_X12_image M1 (((0 : Nat)) : Int) = some (1, M2) ∧ Iv M2 := by
  have hI0 := hI
  obtain ⟨q1, q2, q3, ⟨D, hc, hw, hm, hnm, hr, hn0⟩, q5, q6⟩ := hI
  have hn200 := hw.1.2.2.2.2
  obtain ⟨K1, a1, a2⟩ := cpH_76_4 M
  have f1 : fSame s_X2_copyFrom_76_4_mods M K1 := s_X2_copyFrom_76_4_fr a1
  have e18 : K1 18 8 = D 18 8 := by rw [fs_row f1 18 (by decide)]; exact congrFun (hc 18 (by decide) (by decide)) 8
  obtain ⟨K2, b1, b2⟩ := cpR_90_18 (M := K1) (by omega) (by omega)
  have f2 : fSame s_X6_copyFrom_90_18_mods K1 K2 := s_X6_copyFrom_90_18_fr b1
  have hcl : s_X11_image_0 M = some (1, fup K2 75 0 1) := by
    unfold s_X11_image_0
    rw [c_isWithin, Option.bind_some, bit_ifn, if_pos (by decide), a1, Option.bind_some]
    show (s_X6_copyFrom_90_18 K1).bind _ = _
    rw [b1]
    rfl
  have fA : fSame s_X11_image_0_mods M (fup K2 75 0 1) := s_X11_image_0_fr hcl
  have eqv : Eqv D (fun r => K2 (r + 72)) := Eqv_of (s := 72) hc hw.1 a2 (fun _ _ _ => trivial) b2 (fun r h1 h2 => fs_row f1 r (fun x hx e => by have := (by decide : ∀ x ∈ s_X2_copyFrom_76_4_mods, ¬ (18 ≤ x.1 ∧ x.1 ≤ 26)) x hx; omega)) (fun r h1 h2 => fs_row f2 r (fun x hx e => by have := (by decide : ∀ x ∈ s_X6_copyFrom_90_18_mods, ¬ (76 ≤ x.1 ∧ x.1 ≤ 89)) x hx; omega))
  have r122 : fup K2 75 0 1 122 = M 122 := fs_row fA 122 (by decide)
  obtain ⟨N, c1, c2, c3, c4, c5, c6, c7, c8⟩ := m_image (N := fup K2 75 0 1) 0 (by decide) (by rw [r122, hn0]; omega) (by rw [r122, hn0]; omega)
  have fAll : fSame (s_X11_image_0_mods ++ [(122, some 0), (150, none), (151, none), (152, none), (153, none), (154, none)]) M N := fs_trans (fs_mono (fun x hx => List.mem_append_left _ hx) fA) (fs_mono (fun x hx => List.mem_append_right _ hx) c8)
  refine ⟨_, N, hcl, fs_row fA 1000 (by decide), c1, St_same fAll (by decide) q1, Tp_same fAll (by decide) q2, Ou_same fAll (by decide) q3, ⟨D, Cu_same fAll (by decide) (by decide) ⟨hc, hw, hm, hnm, hr, hn0⟩⟩, ?_, ?_⟩
  · refine ⟨fun r => N (r + 72), by rw [c6, fs_row c8 75 (by decide), fup_eq, upd1_at], by rw [fs_row c8 75 (by decide), fup_eq, upd1_at]; exact .inr rfl, fun _ => ?_⟩
    have eqv2 : (fun r => N (r + 72)) = (fun r => if 4 ≤ r ∧ r ≤ 26 then K2 (r + 72) else N (r + 72)) := by
      funext r
      by_cases h : 4 ≤ r ∧ r ≤ 26
      · rw [if_pos h, fs_row c8 (r + 72) (fun x hx e => by have := (by decide : ∀ x ∈ [((122 : Nat), some 0), (150, none), (151, none), (152, none), (153, none), (154, none)], ¬ (76 ≤ x.1 ∧ x.1 ≤ 98)) x hx; omega), fup_ne (by omega)]
      · rw [if_neg h]
    have eqv3 : Eqv D (fun r => N (r + 72)) := by
      rw [eqv2]
      exact eqv
    have wn := hw.1
    refine ⟨fun r h1 h2 => rfl, WF_eqv eqv3 hw, MRh_eqv eqv3 wn (MRh_move (M := M) (hc := 124) (ho := 0) wn (fun w h1 h2 => ?_) hm), MRn_eqv eqv3 wn (MRn_move (M := M) (hc := 126) (ho := 0) wn (fun w h1 h2 => ?_) hnm), MRr_eqv eqv3 wn (MRr_move (M := M) (hc := 125) (ho := 0) (fun w h1 h2 => ?_) hr), ?_⟩
    · rw [show ((645 * ((0 : Nat) : Int)) + w).toNat = 645 * 0 + w.toNat by omega, c2 w.toNat (by omega), fs_row fA 124 (by decide), show (0 + w).toNat = w.toNat by omega]
    · rw [show ((28 * ((0 : Nat) : Int)) + w).toNat = 28 * 0 + w.toNat by omega, c3 w.toNat (by omega), fs_row fA 126 (by decide), show (0 + w).toNat = w.toNat by omega]
    · rw [show ((3800 * ((0 : Nat) : Int)) + w).toNat = 3800 * 0 + w.toNat by omega, c4 w.toNat (by rw [r122, hn0]; omega), fs_row fA 125 (by decide), show (0 + w).toNat = w.toNat by omega]
    · rw [c5, r122, hn0]
      exact eqv3.1.2.2.2.2.symm
  · obtain ⟨D9, p1, p2, p3⟩ := q6
    obtain ⟨o1, o2, o3, o4, o5⟩ := c7 1 (by decide) (by decide)
    have e75 : N 75 1 = M 75 1 := by rw [fs_row c8 75 (by decide), fup_eq, upd1_ne (by decide), fs_row f2 75 (by decide), fs_row f1 75 (by decide)]
    have e154 : N 154 1 = M 154 1 := by rw [o2, fs_row fA 154 (by decide)]
    refine ⟨D9, by rw [e75, e154]; exact p1, by rw [e75]; exact p2, fun hk => ?_⟩
    rw [e75] at hk
    obtain ⟨u1, u2, u3, u4, u5, u6⟩ := p3 hk
    have wn := u2.1
    have w200 := u2.1.2.2.2.2
    refine ⟨CR_same fAll (by decide) u1, u2, MRh_move (M := M) wn (fun w h1 h2 => ?_) u3, MRn_move (M := M) wn (fun w h1 h2 => ?_) u4, MRr_move (M := M) (fun w h1 h2 => ?_) u5, ?_⟩
    · rw [show ((645 * ((1 : Nat) : Int)) + w).toNat = 645 * 1 + w.toNat by omega, o3 w.toNat (by omega), fs_row fA 150 (by decide)]
    · rw [show ((28 * ((1 : Nat) : Int)) + w).toNat = 28 * 1 + w.toNat by omega, o4 w.toNat (by omega), fs_row fA 153 (by decide)]
    · rw [show ((3800 * ((1 : Nat) : Int)) + w).toNat = 3800 * 1 + w.toNat by omega, o5 w.toNat (by omega), fs_row fA 151 (by decide)]
    · rw [o1, fs_row fA 152 (by decide)]
      exact u6
theorem k_image1 {M : fM} (hI : Iv M) : ∃ M1 M2, s_X11_image_1 M = some (1, M1) ∧ M1 1000 = M 1000 ∧ s_X12_image M1 (((1 : Nat)) : Int) = some (1, M2) ∧ Iv M2 := by
  have hI0 := hI
  obtain ⟨q1, q2, q3, ⟨D, hc, hw, hm, hnm, hr, hn0⟩, q5, q6⟩ := hI
  have hn200 := hw.1.2.2.2.2
  obtain ⟨K1, a1, a2⟩ := cpH_99_4 M
  have f1 : fSame s_X2_copyFrom_99_4_mods M K1 := s_X2_copyFrom_99_4_fr a1
  have e18 : K1 18 8 = D 18 8 := by rw [fs_row f1 18 (by decide)]; exact congrFun (hc 18 (by decide) (by decide)) 8
  obtain ⟨K2, b1, b2⟩ := cpR_113_18 (M := K1) (by omega) (by omega)
  have f2 : fSame s_X6_copyFrom_113_18_mods K1 K2 := s_X6_copyFrom_113_18_fr b1
  have hcl : s_X11_image_1 M = some (1, fup K2 75 1 1) := by
    unfold s_X11_image_1
    rw [c_isWithin, Option.bind_some, bit_ifn, if_pos (by decide), a1, Option.bind_some]
    show (s_X6_copyFrom_113_18 K1).bind _ = _
    rw [b1]
    rfl
  have fA : fSame s_X11_image_1_mods M (fup K2 75 1 1) := s_X11_image_1_fr hcl
  have eqv : Eqv D (fun r => K2 (r + 95)) := Eqv_of (s := 95) hc hw.1 a2 (fun _ _ _ => trivial) b2 (fun r h1 h2 => fs_row f1 r (fun x hx e => by have := (by decide : ∀ x ∈ s_X2_copyFrom_99_4_mods, ¬ (18 ≤ x.1 ∧ x.1 ≤ 26)) x hx; omega)) (fun r h1 h2 => fs_row f2 r (fun x hx e => by have := (by decide : ∀ x ∈ s_X6_copyFrom_113_18_mods, ¬ (99 ≤ x.1 ∧ x.1 ≤ 112)) x hx; omega))
  have r122 : fup K2 75 1 1 122 = M 122 := fs_row fA 122 (by decide)
  obtain ⟨N, c1, c2, c3, c4, c5, c6, c7, c8⟩ := m_image (N := fup K2 75 1 1) 1 (by decide) (by rw [r122, hn0]; omega) (by rw [r122, hn0]; omega)
  have fAll : fSame (s_X11_image_1_mods ++ [(122, some 0), (150, none), (151, none), (152, none), (153, none), (154, none)]) M N := fs_trans (fs_mono (fun x hx => List.mem_append_left _ hx) fA) (fs_mono (fun x hx => List.mem_append_right _ hx) c8)
  refine ⟨_, N, hcl, fs_row fA 1000 (by decide), c1, St_same fAll (by decide) q1, Tp_same fAll (by decide) q2, Ou_same fAll (by decide) q3, ⟨D, Cu_same fAll (by decide) (by decide) ⟨hc, hw, hm, hnm, hr, hn0⟩⟩, ?_, ?_⟩
  · obtain ⟨D9, p1, p2, p3⟩ := q5
    obtain ⟨o1, o2, o3, o4, o5⟩ := c7 0 (by decide) (by decide)
    have e75 : N 75 0 = M 75 0 := by rw [fs_row c8 75 (by decide), fup_eq, upd1_ne (by decide), fs_row f2 75 (by decide), fs_row f1 75 (by decide)]
    have e154 : N 154 0 = M 154 0 := by rw [o2, fs_row fA 154 (by decide)]
    refine ⟨D9, by rw [e75, e154]; exact p1, by rw [e75]; exact p2, fun hk => ?_⟩
    rw [e75] at hk
    obtain ⟨u1, u2, u3, u4, u5, u6⟩ := p3 hk
    have wn := u2.1
    have w200 := u2.1.2.2.2.2
    refine ⟨CR_same fAll (by decide) u1, u2, MRh_move (M := M) wn (fun w h1 h2 => ?_) u3, MRn_move (M := M) wn (fun w h1 h2 => ?_) u4, MRr_move (M := M) (fun w h1 h2 => ?_) u5, ?_⟩
    · rw [show ((645 * ((0 : Nat) : Int)) + w).toNat = 645 * 0 + w.toNat by omega, o3 w.toNat (by omega), fs_row fA 150 (by decide)]
    · rw [show ((28 * ((0 : Nat) : Int)) + w).toNat = 28 * 0 + w.toNat by omega, o4 w.toNat (by omega), fs_row fA 153 (by decide)]
    · rw [show ((3800 * ((0 : Nat) : Int)) + w).toNat = 3800 * 0 + w.toNat by omega, o5 w.toNat (by omega), fs_row fA 151 (by decide)]
    · rw [o1, fs_row fA 152 (by decide)]
      exact u6
  · refine ⟨fun r => N (r + 95), by rw [c6, fs_row c8 75 (by decide), fup_eq, upd1_at], by rw [fs_row c8 75 (by decide), fup_eq, upd1_at]; exact .inr rfl, fun _ => ?_⟩
    have eqv2 : (fun r => N (r + 95)) = (fun r => if 4 ≤ r ∧ r ≤ 26 then K2 (r + 95) else N (r + 95)) := by
      funext r
      by_cases h : 4 ≤ r ∧ r ≤ 26
      · rw [if_pos h, fs_row c8 (r + 95) (fun x hx e => by have := (by decide : ∀ x ∈ [((122 : Nat), some 0), (150, none), (151, none), (152, none), (153, none), (154, none)], ¬ (99 ≤ x.1 ∧ x.1 ≤ 121)) x hx; omega), fup_ne (by omega)]
      · rw [if_neg h]
    have eqv3 : Eqv D (fun r => N (r + 95)) := by
      rw [eqv2]
      exact eqv
    have wn := hw.1
    refine ⟨fun r h1 h2 => rfl, WF_eqv eqv3 hw, MRh_eqv eqv3 wn (MRh_move (M := M) (hc := 124) (ho := 0) wn (fun w h1 h2 => ?_) hm), MRn_eqv eqv3 wn (MRn_move (M := M) (hc := 126) (ho := 0) wn (fun w h1 h2 => ?_) hnm), MRr_eqv eqv3 wn (MRr_move (M := M) (hc := 125) (ho := 0) (fun w h1 h2 => ?_) hr), ?_⟩
    · rw [show ((645 * ((1 : Nat) : Int)) + w).toNat = 645 * 1 + w.toNat by omega, c2 w.toNat (by omega), fs_row fA 124 (by decide), show (0 + w).toNat = w.toNat by omega]
    · rw [show ((28 * ((1 : Nat) : Int)) + w).toNat = 28 * 1 + w.toNat by omega, c3 w.toNat (by omega), fs_row fA 126 (by decide), show (0 + w).toNat = w.toNat by omega]
    · rw [show ((3800 * ((1 : Nat) : Int)) + w).toNat = 3800 * 1 + w.toNat by omega, c4 w.toNat (by rw [r122, hn0]; omega), fs_row fA 125 (by decide), show (0 + w).toNat = w.toNat by omega]
    · rw [c5, r122, hn0]
      exact eqv3.1.2.2.2.2.symm
