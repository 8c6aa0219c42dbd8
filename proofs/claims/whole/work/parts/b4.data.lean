/-! ===== a house in work: the class's draft and the reference's second half ===== -/
def WFm (D : fM) : Prop := (0 ≤ D 4 13 ∧ D 4 13 ≤ 16) ∧ (0 ≤ D 4 14 ∧ D 4 14 ≤ 6) ∧ (0 ≤ D 4 15 ∧ D 4 15 ≤ 6) ∧ (0 ≤ D 4 16 ∧ D 4 16 ≤ 16)
/-- what no line has told yet -/
def Pri (N D : fM) : Prop := (∀ p : Int, D 4 13 ≤ p → p < 16 → (∀ n : Int, 0 ≤ n → n < 12 → N 124 (980 + 12 * p + n).toNat = 1) ∧ (∀ g : Int, 0 ≤ g → g < 4 → N 124 (1172 + 4 * p + g).toNat = 0) ∧ N 124 (827 + 10 * p).toNat = 0 ∧ N 124 (828 + 10 * p).toNat = 0) ∧ (∀ t : Int, D 4 14 ≤ t → t < 6 → N 124 (1238 + 3 * t).toNat = 0)
def HD (D N : fM) : Prop := WFm D ∧ WFt D ∧ WFw D ∧ WFr D ∧ WFf D ∧ WFp D ∧ WFs D ∧ WFu D ∧ WFc D ∧ MRh N 124 645 D ∧ MRn N 126 28 D ∧ Pri N D
theorem HD_same {D D' N N' : fM} (h : HD D N)  (r5 : D' 5 = D 5) (r6 : D' 6 = D 6) (r7 : D' 7 = D 7) (r8 : D' 8 = D 8) (r9 : D' 9 = D 9) (r10 : D' 10 = D 10) (r11 : D' 11 = D 11) (r12 : D' 12 = D 12) (r13 : D' 13 = D 13) (r14 : D' 14 = D 14) (r15 : D' 15 = D 15) (r16 : D' 16 = D 16) (r17 : D' 17 = D 17) (c13 : D' 4 13 = D 4 13) (c14 : D' 4 14 = D 4 14) (c15 : D' 4 15 = D 4 15) (c16 : D' 4 16 = D 4 16) (n126 : N' 126 = N 126) (hN : ∀ i : Nat, ¬ (i < 0) → N' 124 i = N 124 i) : HD D' N' := by
  obtain ⟨hWFm, hWFt, hWFw, hWFr, hWFf, hWFp, hWFs, hWFu, hWFc, hm, hn, hp⟩ := h
  have hW0 := hWFm
  unfold WFm at hW0
  refine ⟨?_, ?_, ?_, ?_, ?_, ?_, ?_, ?_, ?_, ⟨?_, ?_, ?_, ?_, ?_, ?_, ?_, ?_, ?_, ?_, ?_, ?_, ?_⟩, ⟨?_, ?_, ?_⟩, ⟨?_, ?_⟩⟩
  · unfold WFm; rw [c13, c14, c15, c16]; exact hWFm
  · unfold WFt; rw [r5]; exact hWFt
  · unfold WFw; rw [r6, r7]; exact hWFw
  · unfold WFr; rw [r8]; exact hWFr
  · unfold WFf; rw [r9, c16]; exact hWFf
  · unfold WFp; rw [r10, c13]; exact hWFp
  · unfold WFs; rw [r11, r12, c13]; exact hWFs
  · unfold WFu; rw [r13, c14]; exact hWFu
  · unfold WFc; rw [r14]; exact hWFc
  · exact fun z e => by rw [hN z.toNat (by omega), r5]; exact hm.1 z e
  · exact fun h0 z j e h1 h2 => by rw [r5] at h0; rw [hN z.toNat (by omega), r5]; exact hm.2.1 h0 z j e h1 h2
  · exact fun z w e h1 h2 => by rw [hN z.toNat (by omega), r6]; exact hm.2.2.1 z w e h1 h2
  · exact fun z w e h1 h2 => by rw [hN z.toNat (by omega), r7]; exact hm.2.2.2.1 z w e h1 h2
  · exact fun z e => by rw [hN z.toNat (by omega), c16]; exact hm.2.2.2.2.1 z e
  · exact fun z i c e h1 h2 h3 h4 => by rw [c16] at h2; rw [hN z.toNat (by omega), r9]; exact hm.2.2.2.2.2.1 z i c e h1 h2 h3 h4
  · exact fun z j e h1 h2 => by rw [hN z.toNat (by omega), r8]; exact hm.2.2.2.2.2.2.1 z j e h1 h2
  · exact fun z j e h1 h2 => by
      have hj : j = 0 ∨ j = 1 ∨ j = 2 := by omega
      have := hm.2.2.2.2.2.2.2.1 z j e h1 h2
      rw [hN z.toNat (by omega)]
      rcases hj with rfl | rfl | rfl
      · exact this.trans c13.symm
      · exact this.trans c14.symm
      · exact this.trans c15.symm
  · exact fun z p w e h1 h2 h3 h4 => by rw [c13] at h2; rw [hN z.toNat (by omega), r10]; exact hm.2.2.2.2.2.2.2.2.1 z p w e h1 h2 h3 h4
  · exact fun z p n e h1 h2 h3 h4 => by rw [c13] at h2; rw [hN z.toNat (by omega), r11]; exact hm.2.2.2.2.2.2.2.2.2.1 z p n e h1 h2 h3 h4
  · exact fun z p g e h1 h2 h3 h4 => by rw [c13] at h2; rw [hN z.toNat (by omega), r12]; exact hm.2.2.2.2.2.2.2.2.2.2.1 z p g e h1 h2 h3 h4
  · exact fun z t c e h1 h2 h3 h4 => by rw [c14] at h2; rw [hN z.toNat (by omega), r13]; exact hm.2.2.2.2.2.2.2.2.2.2.2.1 z t c e h1 h2 h3 h4
  · exact fun z t u e h1 h2 h3 h4 => by rw [hN z.toNat (by omega), r14]; exact hm.2.2.2.2.2.2.2.2.2.2.2.2 z t u e h1 h2 h3 h4
  · exact fun z p e h1 h2 => by rw [c13] at h2; rw [r15, n126]; exact hn.1 z p e h1 h2
  · exact fun z t e h1 h2 => by rw [c14] at h2; rw [r16, n126]; exact hn.2.1 z t e h1 h2
  · exact fun z u e h1 h2 => by rw [c15] at h2; rw [r17, n126]; exact hn.2.2 z u e h1 h2
  · exact fun p h1 h2 => by
      rw [c13] at h1
      obtain ⟨q1, q2, q3, q4⟩ := hp.1 p h1 h2
      exact ⟨fun n h3 h4 => by rw [hN _ (by omega)]; exact q1 n h3 h4, fun g h3 h4 => by rw [hN _ (by omega)]; exact q2 g h3 h4, by rw [hN _ (by omega)]; exact q3, by rw [hN _ (by omega)]; exact q4⟩
  · exact fun t h1 h2 => by rw [c14] at h1; rw [hN _ (by omega)]; exact hp.2 t h1 h2
theorem HD_rule {D D' N N' : fM} (h : HD D N) {j : Nat} {v : Int} (hj : j < 4) (hv : (j = 0 → 0 ≤ v ∧ v ≤ 99) ∧ (j = 1 → 0 ≤ v ∧ v ≤ 999) ∧ (j = 2 → 1 ≤ v ∧ v ≤ 20) ∧ (j = 3 → 10 ≤ v ∧ v ≤ 120)) (r8 : D' 8 = upd1 (D 8) j v) (hNj : N' 124 (811 + j) = v) (r5 : D' 5 = D 5) (r6 : D' 6 = D 6) (r7 : D' 7 = D 7) (r9 : D' 9 = D 9) (r10 : D' 10 = D 10) (r11 : D' 11 = D 11) (r12 : D' 12 = D 12) (r13 : D' 13 = D 13) (r14 : D' 14 = D 14) (r15 : D' 15 = D 15) (r16 : D' 16 = D 16) (r17 : D' 17 = D 17) (c13 : D' 4 13 = D 4 13) (c14 : D' 4 14 = D 4 14) (c15 : D' 4 15 = D 4 15) (c16 : D' 4 16 = D 4 16) (n126 : N' 126 = N 126) (hN : ∀ i : Nat, ¬ (i = 811 + j) → N' 124 i = N 124 i) : HD D' N' := by
  obtain ⟨hWFm, hWFt, hWFw, hWFr, hWFf, hWFp, hWFs, hWFu, hWFc, hm, hn, hp⟩ := h
  have hW0 := hWFm
  unfold WFm at hW0
  refine ⟨?_, ?_, ?_, ?_, ?_, ?_, ?_, ?_, ?_, ⟨?_, ?_, ?_, ?_, ?_, ?_, ?_, ?_, ?_, ?_, ?_, ?_, ?_⟩, ⟨?_, ?_, ?_⟩, ⟨?_, ?_⟩⟩
  · unfold WFm; rw [c13, c14, c15, c16]; exact hWFm
  · unfold WFt; rw [r5]; exact hWFt
  · unfold WFw; rw [r6, r7]; exact hWFw
  · unfold WFr at hWFr ⊢
    rw [r8]
    unfold upd1
    have : j = 0 ∨ j = 1 ∨ j = 2 ∨ j = 3 := by omega
    rcases this with rfl | rfl | rfl | rfl <;> simp <;> omega
  · unfold WFf; rw [r9, c16]; exact hWFf
  · unfold WFp; rw [r10, c13]; exact hWFp
  · unfold WFs; rw [r11, r12, c13]; exact hWFs
  · unfold WFu; rw [r13, c14]; exact hWFu
  · unfold WFc; rw [r14]; exact hWFc
  · exact fun z e => by rw [hN z.toNat (by omega), r5]; exact hm.1 z e
  · exact fun h0 z j e h1 h2 => by rw [r5] at h0; rw [hN z.toNat (by omega), r5]; exact hm.2.1 h0 z j e h1 h2
  · exact fun z w e h1 h2 => by rw [hN z.toNat (by omega), r6]; exact hm.2.2.1 z w e h1 h2
  · exact fun z w e h1 h2 => by rw [hN z.toNat (by omega), r7]; exact hm.2.2.2.1 z w e h1 h2
  · exact fun z e => by rw [hN z.toNat (by omega), c16]; exact hm.2.2.2.2.1 z e
  · exact fun z i c e h1 h2 h3 h4 => by rw [c16] at h2; rw [hN z.toNat (by omega), r9]; exact hm.2.2.2.2.2.1 z i c e h1 h2 h3 h4
  · exact fun z i e h1 h2 => by
      rw [r8]
      by_cases g : i.toNat = j
      · rw [g, upd1_at, ← hNj]
        congr 1
        omega
      · rw [upd1_ne g, hN z.toNat (by omega)]
        exact hm.2.2.2.2.2.2.1 z i e h1 h2
  · exact fun z j e h1 h2 => by
      have hj : j = 0 ∨ j = 1 ∨ j = 2 := by omega
      have := hm.2.2.2.2.2.2.2.1 z j e h1 h2
      rw [hN z.toNat (by omega)]
      rcases hj with rfl | rfl | rfl
      · exact this.trans c13.symm
      · exact this.trans c14.symm
      · exact this.trans c15.symm
  · exact fun z p w e h1 h2 h3 h4 => by rw [c13] at h2; rw [hN z.toNat (by omega), r10]; exact hm.2.2.2.2.2.2.2.2.1 z p w e h1 h2 h3 h4
  · exact fun z p n e h1 h2 h3 h4 => by rw [c13] at h2; rw [hN z.toNat (by omega), r11]; exact hm.2.2.2.2.2.2.2.2.2.1 z p n e h1 h2 h3 h4
  · exact fun z p g e h1 h2 h3 h4 => by rw [c13] at h2; rw [hN z.toNat (by omega), r12]; exact hm.2.2.2.2.2.2.2.2.2.2.1 z p g e h1 h2 h3 h4
  · exact fun z t c e h1 h2 h3 h4 => by rw [c14] at h2; rw [hN z.toNat (by omega), r13]; exact hm.2.2.2.2.2.2.2.2.2.2.2.1 z t c e h1 h2 h3 h4
  · exact fun z t u e h1 h2 h3 h4 => by rw [hN z.toNat (by omega), r14]; exact hm.2.2.2.2.2.2.2.2.2.2.2.2 z t u e h1 h2 h3 h4
  · exact fun z p e h1 h2 => by rw [c13] at h2; rw [r15, n126]; exact hn.1 z p e h1 h2
  · exact fun z t e h1 h2 => by rw [c14] at h2; rw [r16, n126]; exact hn.2.1 z t e h1 h2
  · exact fun z u e h1 h2 => by rw [c15] at h2; rw [r17, n126]; exact hn.2.2 z u e h1 h2
  · exact fun p h1 h2 => by
      rw [c13] at h1
      obtain ⟨q1, q2, q3, q4⟩ := hp.1 p h1 h2
      exact ⟨fun n h3 h4 => by rw [hN _ (by omega)]; exact q1 n h3 h4, fun g h3 h4 => by rw [hN _ (by omega)]; exact q2 g h3 h4, by rw [hN _ (by omega)]; exact q3, by rw [hN _ (by omega)]; exact q4⟩
  · exact fun t h1 h2 => by rw [c14] at h1; rw [hN _ (by omega)]; exact hp.2 t h1 h2
theorem HD_day {D D' N N' : fM} (h : HD D N) {v w : Int} (hv : 0 ≤ v ∧ v < w ∧ w ≤ 1440) (r8 : D' 8 = upd1 (upd1 (D 8) 4 v) 5 w) (hN4 : N' 124 815 = v) (hN5 : N' 124 816 = w) (r5 : D' 5 = D 5) (r6 : D' 6 = D 6) (r7 : D' 7 = D 7) (r9 : D' 9 = D 9) (r10 : D' 10 = D 10) (r11 : D' 11 = D 11) (r12 : D' 12 = D 12) (r13 : D' 13 = D 13) (r14 : D' 14 = D 14) (r15 : D' 15 = D 15) (r16 : D' 16 = D 16) (r17 : D' 17 = D 17) (c13 : D' 4 13 = D 4 13) (c14 : D' 4 14 = D 4 14) (c15 : D' 4 15 = D 4 15) (c16 : D' 4 16 = D 4 16) (n126 : N' 126 = N 126) (hN : ∀ i : Nat, ¬ (i = 815 ∨ i = 816) → N' 124 i = N 124 i) : HD D' N' := by
  obtain ⟨hWFm, hWFt, hWFw, hWFr, hWFf, hWFp, hWFs, hWFu, hWFc, hm, hn, hp⟩ := h
  have hW0 := hWFm
  unfold WFm at hW0
  refine ⟨?_, ?_, ?_, ?_, ?_, ?_, ?_, ?_, ?_, ⟨?_, ?_, ?_, ?_, ?_, ?_, ?_, ?_, ?_, ?_, ?_, ?_, ?_⟩, ⟨?_, ?_, ?_⟩, ⟨?_, ?_⟩⟩
  · unfold WFm; rw [c13, c14, c15, c16]; exact hWFm
  · unfold WFt; rw [r5]; exact hWFt
  · unfold WFw; rw [r6, r7]; exact hWFw
  · unfold WFr at hWFr ⊢
    rw [r8]
    unfold upd1
    simp
    omega
  · unfold WFf; rw [r9, c16]; exact hWFf
  · unfold WFp; rw [r10, c13]; exact hWFp
  · unfold WFs; rw [r11, r12, c13]; exact hWFs
  · unfold WFu; rw [r13, c14]; exact hWFu
  · unfold WFc; rw [r14]; exact hWFc
  · exact fun z e => by rw [hN z.toNat (by omega), r5]; exact hm.1 z e
  · exact fun h0 z j e h1 h2 => by rw [r5] at h0; rw [hN z.toNat (by omega), r5]; exact hm.2.1 h0 z j e h1 h2
  · exact fun z w e h1 h2 => by rw [hN z.toNat (by omega), r6]; exact hm.2.2.1 z w e h1 h2
  · exact fun z w e h1 h2 => by rw [hN z.toNat (by omega), r7]; exact hm.2.2.2.1 z w e h1 h2
  · exact fun z e => by rw [hN z.toNat (by omega), c16]; exact hm.2.2.2.2.1 z e
  · exact fun z i c e h1 h2 h3 h4 => by rw [c16] at h2; rw [hN z.toNat (by omega), r9]; exact hm.2.2.2.2.2.1 z i c e h1 h2 h3 h4
  · exact fun z i e h1 h2 => by
      rw [r8]
      by_cases g5 : i.toNat = 5
      · rw [g5, upd1_at, ← hN5]
        congr 1
        omega
      · rw [upd1_ne g5]
        by_cases g : i.toNat = 4
        · rw [g, upd1_at, ← hN4]
          congr 1
          omega
        · rw [upd1_ne g, hN z.toNat (by omega)]
          exact hm.2.2.2.2.2.2.1 z i e h1 h2
  · exact fun z j e h1 h2 => by
      have hj : j = 0 ∨ j = 1 ∨ j = 2 := by omega
      have := hm.2.2.2.2.2.2.2.1 z j e h1 h2
      rw [hN z.toNat (by omega)]
      rcases hj with rfl | rfl | rfl
      · exact this.trans c13.symm
      · exact this.trans c14.symm
      · exact this.trans c15.symm
  · exact fun z p w e h1 h2 h3 h4 => by rw [c13] at h2; rw [hN z.toNat (by omega), r10]; exact hm.2.2.2.2.2.2.2.2.1 z p w e h1 h2 h3 h4
  · exact fun z p n e h1 h2 h3 h4 => by rw [c13] at h2; rw [hN z.toNat (by omega), r11]; exact hm.2.2.2.2.2.2.2.2.2.1 z p n e h1 h2 h3 h4
  · exact fun z p g e h1 h2 h3 h4 => by rw [c13] at h2; rw [hN z.toNat (by omega), r12]; exact hm.2.2.2.2.2.2.2.2.2.2.1 z p g e h1 h2 h3 h4
  · exact fun z t c e h1 h2 h3 h4 => by rw [c14] at h2; rw [hN z.toNat (by omega), r13]; exact hm.2.2.2.2.2.2.2.2.2.2.2.1 z t c e h1 h2 h3 h4
  · exact fun z t u e h1 h2 h3 h4 => by rw [hN z.toNat (by omega), r14]; exact hm.2.2.2.2.2.2.2.2.2.2.2.2 z t u e h1 h2 h3 h4
  · exact fun z p e h1 h2 => by rw [c13] at h2; rw [r15, n126]; exact hn.1 z p e h1 h2
  · exact fun z t e h1 h2 => by rw [c14] at h2; rw [r16, n126]; exact hn.2.1 z t e h1 h2
  · exact fun z u e h1 h2 => by rw [c15] at h2; rw [r17, n126]; exact hn.2.2 z u e h1 h2
  · exact fun p h1 h2 => by
      rw [c13] at h1
      obtain ⟨q1, q2, q3, q4⟩ := hp.1 p h1 h2
      exact ⟨fun n h3 h4 => by rw [hN _ (by omega)]; exact q1 n h3 h4, fun g h3 h4 => by rw [hN _ (by omega)]; exact q2 g h3 h4, by rw [hN _ (by omega)]; exact q3, by rw [hN _ (by omega)]; exact q4⟩
  · exact fun t h1 h2 => by rw [c14] at h1; rw [hN _ (by omega)]; exact hp.2 t h1 h2
theorem HD_damp {D D' N N' : fM} (h : HD D N) {a c v : Int} (ha : 0 ≤ a ∧ a ≤ c ∧ c ≤ 51) (hv : 0 ≤ v ∧ v ≤ 40) (rw1 : ∀ w : Int, 0 ≤ w → w < 52 → D' 6 w.toNat = if a ≤ w ∧ w ≤ c then v else D 6 w.toNat) (hNw : ∀ w : Int, 0 ≤ w → w < 52 → N' 124 (658 + w).toNat = if a ≤ w ∧ w ≤ c then v else N 124 (658 + w).toNat) (r5 : D' 5 = D 5) (r7 : D' 7 = D 7) (r8 : D' 8 = D 8) (r9 : D' 9 = D 9) (r10 : D' 10 = D 10) (r11 : D' 11 = D 11) (r12 : D' 12 = D 12) (r13 : D' 13 = D 13) (r14 : D' 14 = D 14) (r15 : D' 15 = D 15) (r16 : D' 16 = D 16) (r17 : D' 17 = D 17) (c13 : D' 4 13 = D 4 13) (c14 : D' 4 14 = D 4 14) (c15 : D' 4 15 = D 4 15) (c16 : D' 4 16 = D 4 16) (n126 : N' 126 = N 126) (hN : ∀ i : Nat, ¬ (658 ≤ i ∧ i < 658 + 52) → N' 124 i = N 124 i) : HD D' N' := by
  obtain ⟨hWFm, hWFt, hWFw, hWFr, hWFf, hWFp, hWFs, hWFu, hWFc, hm, hn, hp⟩ := h
  have hW0 := hWFm
  unfold WFm at hW0
  refine ⟨?_, ?_, ?_, ?_, ?_, ?_, ?_, ?_, ?_, ⟨?_, ?_, ?_, ?_, ?_, ?_, ?_, ?_, ?_, ?_, ?_, ?_, ?_⟩, ⟨?_, ?_, ?_⟩, ⟨?_, ?_⟩⟩
  · unfold WFm; rw [c13, c14, c15, c16]; exact hWFm
  · unfold WFt; rw [r5]; exact hWFt
  · intro w h1 h2
    have h3 := hWFw w h1 h2
    rw [rw1 w h1 h2, r7]
    by_cases g : a ≤ w ∧ w ≤ c
    · rw [if_pos g]; omega
    · rw [if_neg g]; exact h3
  · unfold WFr; rw [r8]; exact hWFr
  · unfold WFf; rw [r9, c16]; exact hWFf
  · unfold WFp; rw [r10, c13]; exact hWFp
  · unfold WFs; rw [r11, r12, c13]; exact hWFs
  · unfold WFu; rw [r13, c14]; exact hWFu
  · unfold WFc; rw [r14]; exact hWFc
  · exact fun z e => by rw [hN z.toNat (by omega), r5]; exact hm.1 z e
  · exact fun h0 z j e h1 h2 => by rw [r5] at h0; rw [hN z.toNat (by omega), r5]; exact hm.2.1 h0 z j e h1 h2
  · exact fun z w e h1 h2 => by
      have h3 := hNw w h1 h2
      rw [show z = 658 + w by omega, h3, rw1 w h1 h2]
      by_cases g : a ≤ w ∧ w ≤ c
      · rw [if_pos g, if_pos g]
      · rw [if_neg g, if_neg g]
        exact hm.2.2.1 (658 + w) w (by omega) h1 h2
  · exact fun z w e h1 h2 => by rw [hN z.toNat (by omega), r7]; exact hm.2.2.2.1 z w e h1 h2
  · exact fun z e => by rw [hN z.toNat (by omega), c16]; exact hm.2.2.2.2.1 z e
  · exact fun z i c e h1 h2 h3 h4 => by rw [c16] at h2; rw [hN z.toNat (by omega), r9]; exact hm.2.2.2.2.2.1 z i c e h1 h2 h3 h4
  · exact fun z j e h1 h2 => by rw [hN z.toNat (by omega), r8]; exact hm.2.2.2.2.2.2.1 z j e h1 h2
  · exact fun z j e h1 h2 => by
      have hj : j = 0 ∨ j = 1 ∨ j = 2 := by omega
      have := hm.2.2.2.2.2.2.2.1 z j e h1 h2
      rw [hN z.toNat (by omega)]
      rcases hj with rfl | rfl | rfl
      · exact this.trans c13.symm
      · exact this.trans c14.symm
      · exact this.trans c15.symm
  · exact fun z p w e h1 h2 h3 h4 => by rw [c13] at h2; rw [hN z.toNat (by omega), r10]; exact hm.2.2.2.2.2.2.2.2.1 z p w e h1 h2 h3 h4
  · exact fun z p n e h1 h2 h3 h4 => by rw [c13] at h2; rw [hN z.toNat (by omega), r11]; exact hm.2.2.2.2.2.2.2.2.2.1 z p n e h1 h2 h3 h4
  · exact fun z p g e h1 h2 h3 h4 => by rw [c13] at h2; rw [hN z.toNat (by omega), r12]; exact hm.2.2.2.2.2.2.2.2.2.2.1 z p g e h1 h2 h3 h4
  · exact fun z t c e h1 h2 h3 h4 => by rw [c14] at h2; rw [hN z.toNat (by omega), r13]; exact hm.2.2.2.2.2.2.2.2.2.2.2.1 z t c e h1 h2 h3 h4
  · exact fun z t u e h1 h2 h3 h4 => by rw [hN z.toNat (by omega), r14]; exact hm.2.2.2.2.2.2.2.2.2.2.2.2 z t u e h1 h2 h3 h4
  · exact fun z p e h1 h2 => by rw [c13] at h2; rw [r15, n126]; exact hn.1 z p e h1 h2
  · exact fun z t e h1 h2 => by rw [c14] at h2; rw [r16, n126]; exact hn.2.1 z t e h1 h2
  · exact fun z u e h1 h2 => by rw [c15] at h2; rw [r17, n126]; exact hn.2.2 z u e h1 h2
  · exact fun p h1 h2 => by
      rw [c13] at h1
      obtain ⟨q1, q2, q3, q4⟩ := hp.1 p h1 h2
      exact ⟨fun n h3 h4 => by rw [hN _ (by omega)]; exact q1 n h3 h4, fun g h3 h4 => by rw [hN _ (by omega)]; exact q2 g h3 h4, by rw [hN _ (by omega)]; exact q3, by rw [hN _ (by omega)]; exact q4⟩
  · exact fun t h1 h2 => by rw [c14] at h1; rw [hN _ (by omega)]; exact hp.2 t h1 h2
theorem HD_term {D D' N N' : fM} (h : HD D N) {a c v : Int} (ha : 0 ≤ a ∧ a ≤ c ∧ c ≤ 51) (hv : 0 ≤ v ∧ v ≤ 1) (rw1 : ∀ w : Int, 0 ≤ w → w < 52 → D' 7 w.toNat = if a ≤ w ∧ w ≤ c then v else D 7 w.toNat) (hNw : ∀ w : Int, 0 ≤ w → w < 52 → N' 124 (710 + w).toNat = if a ≤ w ∧ w ≤ c then v else N 124 (710 + w).toNat) (r5 : D' 5 = D 5) (r6 : D' 6 = D 6) (r8 : D' 8 = D 8) (r9 : D' 9 = D 9) (r10 : D' 10 = D 10) (r11 : D' 11 = D 11) (r12 : D' 12 = D 12) (r13 : D' 13 = D 13) (r14 : D' 14 = D 14) (r15 : D' 15 = D 15) (r16 : D' 16 = D 16) (r17 : D' 17 = D 17) (c13 : D' 4 13 = D 4 13) (c14 : D' 4 14 = D 4 14) (c15 : D' 4 15 = D 4 15) (c16 : D' 4 16 = D 4 16) (n126 : N' 126 = N 126) (hN : ∀ i : Nat, ¬ (710 ≤ i ∧ i < 710 + 52) → N' 124 i = N 124 i) : HD D' N' := by
  obtain ⟨hWFm, hWFt, hWFw, hWFr, hWFf, hWFp, hWFs, hWFu, hWFc, hm, hn, hp⟩ := h
  have hW0 := hWFm
  unfold WFm at hW0
  refine ⟨?_, ?_, ?_, ?_, ?_, ?_, ?_, ?_, ?_, ⟨?_, ?_, ?_, ?_, ?_, ?_, ?_, ?_, ?_, ?_, ?_, ?_, ?_⟩, ⟨?_, ?_, ?_⟩, ⟨?_, ?_⟩⟩
  · unfold WFm; rw [c13, c14, c15, c16]; exact hWFm
  · unfold WFt; rw [r5]; exact hWFt
  · intro w h1 h2
    have h3 := hWFw w h1 h2
    rw [rw1 w h1 h2, r6]
    by_cases g : a ≤ w ∧ w ≤ c
    · rw [if_pos g]; omega
    · rw [if_neg g]; exact h3
  · unfold WFr; rw [r8]; exact hWFr
  · unfold WFf; rw [r9, c16]; exact hWFf
  · unfold WFp; rw [r10, c13]; exact hWFp
  · unfold WFs; rw [r11, r12, c13]; exact hWFs
  · unfold WFu; rw [r13, c14]; exact hWFu
  · unfold WFc; rw [r14]; exact hWFc
  · exact fun z e => by rw [hN z.toNat (by omega), r5]; exact hm.1 z e
  · exact fun h0 z j e h1 h2 => by rw [r5] at h0; rw [hN z.toNat (by omega), r5]; exact hm.2.1 h0 z j e h1 h2
  · exact fun z w e h1 h2 => by rw [hN z.toNat (by omega), r6]; exact hm.2.2.1 z w e h1 h2
  · exact fun z w e h1 h2 => by
      have h3 := hNw w h1 h2
      rw [show z = 710 + w by omega, h3, rw1 w h1 h2]
      by_cases g : a ≤ w ∧ w ≤ c
      · rw [if_pos g, if_pos g]
      · rw [if_neg g, if_neg g]
        exact hm.2.2.2.1 (710 + w) w (by omega) h1 h2
  · exact fun z e => by rw [hN z.toNat (by omega), c16]; exact hm.2.2.2.2.1 z e
  · exact fun z i c e h1 h2 h3 h4 => by rw [c16] at h2; rw [hN z.toNat (by omega), r9]; exact hm.2.2.2.2.2.1 z i c e h1 h2 h3 h4
  · exact fun z j e h1 h2 => by rw [hN z.toNat (by omega), r8]; exact hm.2.2.2.2.2.2.1 z j e h1 h2
  · exact fun z j e h1 h2 => by
      have hj : j = 0 ∨ j = 1 ∨ j = 2 := by omega
      have := hm.2.2.2.2.2.2.2.1 z j e h1 h2
      rw [hN z.toNat (by omega)]
      rcases hj with rfl | rfl | rfl
      · exact this.trans c13.symm
      · exact this.trans c14.symm
      · exact this.trans c15.symm
  · exact fun z p w e h1 h2 h3 h4 => by rw [c13] at h2; rw [hN z.toNat (by omega), r10]; exact hm.2.2.2.2.2.2.2.2.1 z p w e h1 h2 h3 h4
  · exact fun z p n e h1 h2 h3 h4 => by rw [c13] at h2; rw [hN z.toNat (by omega), r11]; exact hm.2.2.2.2.2.2.2.2.2.1 z p n e h1 h2 h3 h4
  · exact fun z p g e h1 h2 h3 h4 => by rw [c13] at h2; rw [hN z.toNat (by omega), r12]; exact hm.2.2.2.2.2.2.2.2.2.2.1 z p g e h1 h2 h3 h4
  · exact fun z t c e h1 h2 h3 h4 => by rw [c14] at h2; rw [hN z.toNat (by omega), r13]; exact hm.2.2.2.2.2.2.2.2.2.2.2.1 z t c e h1 h2 h3 h4
  · exact fun z t u e h1 h2 h3 h4 => by rw [hN z.toNat (by omega), r14]; exact hm.2.2.2.2.2.2.2.2.2.2.2.2 z t u e h1 h2 h3 h4
  · exact fun z p e h1 h2 => by rw [c13] at h2; rw [r15, n126]; exact hn.1 z p e h1 h2
  · exact fun z t e h1 h2 => by rw [c14] at h2; rw [r16, n126]; exact hn.2.1 z t e h1 h2
  · exact fun z u e h1 h2 => by rw [c15] at h2; rw [r17, n126]; exact hn.2.2 z u e h1 h2
  · exact fun p h1 h2 => by
      rw [c13] at h1
      obtain ⟨q1, q2, q3, q4⟩ := hp.1 p h1 h2
      exact ⟨fun n h3 h4 => by rw [hN _ (by omega)]; exact q1 n h3 h4, fun g h3 h4 => by rw [hN _ (by omega)]; exact q2 g h3 h4, by rw [hN _ (by omega)]; exact q3, by rw [hN _ (by omega)]; exact q4⟩
  · exact fun t h1 h2 => by rw [c14] at h1; rw [hN _ (by omega)]; exact hp.2 t h1 h2
theorem HD_fee {D D' N N' : fM} (h : HD D N) {k v d : Int} (hc : D 4 16 < 16) (hk : 0 ≤ k ∧ k ≤ 2) (hv : 0 ≤ v ∧ v ≤ 9999) (hd : 0 ≤ d ∧ d ≤ 363) (r9 : D' 9 = upd1 (upd1 (upd1 (D 9) (D 4 16 * 3).toNat k) (D 4 16 * 3 + 1).toNat v) (D 4 16 * 3 + 2).toNat d) (c16 : D' 4 16 = D 4 16 + 1) (x0 : N' 124 (763 + 3 * D 4 16).toNat = k) (x1 : N' 124 (763 + 3 * D 4 16 + 1).toNat = v) (x2 : N' 124 (763 + 3 * D 4 16 + 2).toNat = d) (x3 : N' 124 762 = D 4 16 + 1) (r5 : D' 5 = D 5) (r6 : D' 6 = D 6) (r7 : D' 7 = D 7) (r8 : D' 8 = D 8) (r10 : D' 10 = D 10) (r11 : D' 11 = D 11) (r12 : D' 12 = D 12) (r13 : D' 13 = D 13) (r14 : D' 14 = D 14) (r15 : D' 15 = D 15) (r16 : D' 16 = D 16) (r17 : D' 17 = D 17) (c13 : D' 4 13 = D 4 13) (c14 : D' 4 14 = D 4 14) (c15 : D' 4 15 = D 4 15) (n126 : N' 126 = N 126) (hN : ∀ i : Nat, ¬ (i = 762 ∨ (763 + 3 * D 4 16 ≤ i ∧ i < 763 + 3 * D 4 16 + 3)) → N' 124 i = N 124 i) : HD D' N' := by
  obtain ⟨hWFm, hWFt, hWFw, hWFr, hWFf, hWFp, hWFs, hWFu, hWFc, hm, hn, hp⟩ := h
  have hW0 := hWFm
  unfold WFm at hW0
  refine ⟨?_, ?_, ?_, ?_, ?_, ?_, ?_, ?_, ?_, ⟨?_, ?_, ?_, ?_, ?_, ?_, ?_, ?_, ?_, ?_, ?_, ?_, ?_⟩, ⟨?_, ?_, ?_⟩, ⟨?_, ?_⟩⟩
  · unfold WFm; rw [c13, c14, c15, c16]; omega
  · unfold WFt; rw [r5]; exact hWFt
  · unfold WFw; rw [r6, r7]; exact hWFw
  · unfold WFr; rw [r8]; exact hWFr
  · intro i h1 h2
    rw [r9]
    by_cases g : i = D 4 16
    · subst g
      rw [upd1_ne (by omega), upd1_ne (by omega), upd1_at, upd1_ne (by omega), upd1_at, upd1_at]
      omega
    · rw [upd1_ne (by omega), upd1_ne (by omega), upd1_ne (by omega), upd1_ne (by omega), upd1_ne (by omega), upd1_ne (by omega), upd1_ne (by omega), upd1_ne (by omega), upd1_ne (by omega)]
      exact hWFf i h1 (by omega)
  · unfold WFp; rw [r10, c13]; exact hWFp
  · unfold WFs; rw [r11, r12, c13]; exact hWFs
  · unfold WFu; rw [r13, c14]; exact hWFu
  · unfold WFc; rw [r14]; exact hWFc
  · exact fun z e => by rw [hN z.toNat (by omega), r5]; exact hm.1 z e
  · exact fun h0 z j e h1 h2 => by rw [r5] at h0; rw [hN z.toNat (by omega), r5]; exact hm.2.1 h0 z j e h1 h2
  · exact fun z w e h1 h2 => by rw [hN z.toNat (by omega), r6]; exact hm.2.2.1 z w e h1 h2
  · exact fun z w e h1 h2 => by rw [hN z.toNat (by omega), r7]; exact hm.2.2.2.1 z w e h1 h2
  · exact fun z e => by rw [show z.toNat = 762 by omega, x3, c16]
  · exact fun z i c e h1 h2 h3 h4 => by
      rw [r9]
      by_cases g : i = D 4 16
      · subst g
        have hc3 : c = 0 ∨ c = 1 ∨ c = 2 := by omega
        rcases hc3 with rfl | rfl | rfl
        · rw [upd1_ne (by omega), upd1_ne (by omega), show (D 4 16 * 3 + 0).toNat = (D 4 16 * 3).toNat by omega, upd1_at, ← x0]
          congr 1
          omega
        · rw [upd1_ne (by omega), upd1_at, ← x1]
          congr 1
          omega
        · rw [upd1_at, ← x2]
          congr 1
          omega
      · rw [upd1_ne (by omega), upd1_ne (by omega), upd1_ne (by omega), hN z.toNat (by omega)]
        exact hm.2.2.2.2.2.1 z i c e h1 (by omega) h3 h4
  · exact fun z j e h1 h2 => by rw [hN z.toNat (by omega), r8]; exact hm.2.2.2.2.2.2.1 z j e h1 h2
  · exact fun z j e h1 h2 => by
      have hj : j = 0 ∨ j = 1 ∨ j = 2 := by omega
      have := hm.2.2.2.2.2.2.2.1 z j e h1 h2
      rw [hN z.toNat (by omega)]
      rcases hj with rfl | rfl | rfl
      · exact this.trans c13.symm
      · exact this.trans c14.symm
      · exact this.trans c15.symm
  · exact fun z p w e h1 h2 h3 h4 => by rw [c13] at h2; rw [hN z.toNat (by omega), r10]; exact hm.2.2.2.2.2.2.2.2.1 z p w e h1 h2 h3 h4
  · exact fun z p n e h1 h2 h3 h4 => by rw [c13] at h2; rw [hN z.toNat (by omega), r11]; exact hm.2.2.2.2.2.2.2.2.2.1 z p n e h1 h2 h3 h4
  · exact fun z p g e h1 h2 h3 h4 => by rw [c13] at h2; rw [hN z.toNat (by omega), r12]; exact hm.2.2.2.2.2.2.2.2.2.2.1 z p g e h1 h2 h3 h4
  · exact fun z t c e h1 h2 h3 h4 => by rw [c14] at h2; rw [hN z.toNat (by omega), r13]; exact hm.2.2.2.2.2.2.2.2.2.2.2.1 z t c e h1 h2 h3 h4
  · exact fun z t u e h1 h2 h3 h4 => by rw [hN z.toNat (by omega), r14]; exact hm.2.2.2.2.2.2.2.2.2.2.2.2 z t u e h1 h2 h3 h4
  · exact fun z p e h1 h2 => by rw [c13] at h2; rw [r15, n126]; exact hn.1 z p e h1 h2
  · exact fun z t e h1 h2 => by rw [c14] at h2; rw [r16, n126]; exact hn.2.1 z t e h1 h2
  · exact fun z u e h1 h2 => by rw [c15] at h2; rw [r17, n126]; exact hn.2.2 z u e h1 h2
  · exact fun p h1 h2 => by
      rw [c13] at h1
      obtain ⟨q1, q2, q3, q4⟩ := hp.1 p h1 h2
      exact ⟨fun n h3 h4 => by rw [hN _ (by omega)]; exact q1 n h3 h4, fun g h3 h4 => by rw [hN _ (by omega)]; exact q2 g h3 h4, by rw [hN _ (by omega)]; exact q3, by rw [hN _ (by omega)]; exact q4⟩
  · exact fun t h1 h2 => by rw [c14] at h1; rw [hN _ (by omega)]; exact hp.2 t h1 h2
theorem HD_teach {D D' N N' : fM} (h : HD D N) {t u v : Int} (ht : 0 ≤ t ∧ t < 6) (hu : 0 ≤ u ∧ u < 6) (hv : 0 ≤ v ∧ v ≤ 99) (r14 : D' 14 = upd1 (D 14) (t * 6 + u).toNat v) (x0 : N' 124 (1254 + 6 * t + u).toNat = v) (r5 : D' 5 = D 5) (r6 : D' 6 = D 6) (r7 : D' 7 = D 7) (r8 : D' 8 = D 8) (r9 : D' 9 = D 9) (r10 : D' 10 = D 10) (r11 : D' 11 = D 11) (r12 : D' 12 = D 12) (r13 : D' 13 = D 13) (r15 : D' 15 = D 15) (r16 : D' 16 = D 16) (r17 : D' 17 = D 17) (c13 : D' 4 13 = D 4 13) (c14 : D' 4 14 = D 4 14) (c15 : D' 4 15 = D 4 15) (c16 : D' 4 16 = D 4 16) (n126 : N' 126 = N 126) (hN : ∀ i : Nat, ¬ (i = 1254 + 6 * t + u) → N' 124 i = N 124 i) : HD D' N' := by
  obtain ⟨hWFm, hWFt, hWFw, hWFr, hWFf, hWFp, hWFs, hWFu, hWFc, hm, hn, hp⟩ := h
  have hW0 := hWFm
  unfold WFm at hW0
  refine ⟨?_, ?_, ?_, ?_, ?_, ?_, ?_, ?_, ?_, ⟨?_, ?_, ?_, ?_, ?_, ?_, ?_, ?_, ?_, ?_, ?_, ?_, ?_⟩, ⟨?_, ?_, ?_⟩, ⟨?_, ?_⟩⟩
  · unfold WFm; rw [c13, c14, c15, c16]; exact hWFm
  · unfold WFt; rw [r5]; exact hWFt
  · unfold WFw; rw [r6, r7]; exact hWFw
  · unfold WFr; rw [r8]; exact hWFr
  · unfold WFf; rw [r9, c16]; exact hWFf
  · unfold WFp; rw [r10, c13]; exact hWFp
  · unfold WFs; rw [r11, r12, c13]; exact hWFs
  · unfold WFu; rw [r13, c14]; exact hWFu
  · intro s q h1 h2 h3 h4
    rw [r14]
    by_cases g : s = t ∧ q = u
    · rw [g.1, g.2, upd1_at]; exact hv
    · rw [upd1_ne (by omega)]; exact hWFc s q h1 h2 h3 h4
  · exact fun z e => by rw [hN z.toNat (by omega), r5]; exact hm.1 z e
  · exact fun h0 z j e h1 h2 => by rw [r5] at h0; rw [hN z.toNat (by omega), r5]; exact hm.2.1 h0 z j e h1 h2
  · exact fun z w e h1 h2 => by rw [hN z.toNat (by omega), r6]; exact hm.2.2.1 z w e h1 h2
  · exact fun z w e h1 h2 => by rw [hN z.toNat (by omega), r7]; exact hm.2.2.2.1 z w e h1 h2
  · exact fun z e => by rw [hN z.toNat (by omega), c16]; exact hm.2.2.2.2.1 z e
  · exact fun z i c e h1 h2 h3 h4 => by rw [c16] at h2; rw [hN z.toNat (by omega), r9]; exact hm.2.2.2.2.2.1 z i c e h1 h2 h3 h4
  · exact fun z j e h1 h2 => by rw [hN z.toNat (by omega), r8]; exact hm.2.2.2.2.2.2.1 z j e h1 h2
  · exact fun z j e h1 h2 => by
      have hj : j = 0 ∨ j = 1 ∨ j = 2 := by omega
      have := hm.2.2.2.2.2.2.2.1 z j e h1 h2
      rw [hN z.toNat (by omega)]
      rcases hj with rfl | rfl | rfl
      · exact this.trans c13.symm
      · exact this.trans c14.symm
      · exact this.trans c15.symm
  · exact fun z p w e h1 h2 h3 h4 => by rw [c13] at h2; rw [hN z.toNat (by omega), r10]; exact hm.2.2.2.2.2.2.2.2.1 z p w e h1 h2 h3 h4
  · exact fun z p n e h1 h2 h3 h4 => by rw [c13] at h2; rw [hN z.toNat (by omega), r11]; exact hm.2.2.2.2.2.2.2.2.2.1 z p n e h1 h2 h3 h4
  · exact fun z p g e h1 h2 h3 h4 => by rw [c13] at h2; rw [hN z.toNat (by omega), r12]; exact hm.2.2.2.2.2.2.2.2.2.2.1 z p g e h1 h2 h3 h4
  · exact fun z t c e h1 h2 h3 h4 => by rw [c14] at h2; rw [hN z.toNat (by omega), r13]; exact hm.2.2.2.2.2.2.2.2.2.2.2.1 z t c e h1 h2 h3 h4
  · exact fun z s q e h1 h2 h3 h4 => by
      rw [r14]
      by_cases g : s = t ∧ q = u
      · rw [g.1, g.2, upd1_at, ← x0]
        congr 1
        omega
      · rw [upd1_ne (by omega), hN z.toNat (by omega)]
        exact hm.2.2.2.2.2.2.2.2.2.2.2.2 z s q e h1 h2 h3 h4
  · exact fun z p e h1 h2 => by rw [c13] at h2; rw [r15, n126]; exact hn.1 z p e h1 h2
  · exact fun z t e h1 h2 => by rw [c14] at h2; rw [r16, n126]; exact hn.2.1 z t e h1 h2
  · exact fun z u e h1 h2 => by rw [c15] at h2; rw [r17, n126]; exact hn.2.2 z u e h1 h2
  · exact fun p h1 h2 => by
      rw [c13] at h1
      obtain ⟨q1, q2, q3, q4⟩ := hp.1 p h1 h2
      exact ⟨fun n h3 h4 => by rw [hN _ (by omega)]; exact q1 n h3 h4, fun g h3 h4 => by rw [hN _ (by omega)]; exact q2 g h3 h4, by rw [hN _ (by omega)]; exact q3, by rw [hN _ (by omega)]; exact q4⟩
  · exact fun t h1 h2 => by rw [c14] at h1; rw [hN _ (by omega)]; exact hp.2 t h1 h2
theorem HD_pupil {D D' N N' : fM} (h : HD D N) {x y : Int} (hc : D 4 15 < 6) (hw : wrel x y) (r17 : D' 17 = upd1 (D 17) (D 4 15).toNat x) (c15 : D' 4 15 = D 4 15 + 1) (x3 : N' 124 819 = D 4 15 + 1) (n126 : N' 126 = upd1 (N 126) (50 + D 4 15).toNat y) (r5 : D' 5 = D 5) (r6 : D' 6 = D 6) (r7 : D' 7 = D 7) (r8 : D' 8 = D 8) (r9 : D' 9 = D 9) (r10 : D' 10 = D 10) (r11 : D' 11 = D 11) (r12 : D' 12 = D 12) (r13 : D' 13 = D 13) (r14 : D' 14 = D 14) (r15 : D' 15 = D 15) (r16 : D' 16 = D 16) (c13 : D' 4 13 = D 4 13) (c14 : D' 4 14 = D 4 14) (c16 : D' 4 16 = D 4 16) (hN : ∀ i : Nat, ¬ (i = 819) → N' 124 i = N 124 i) : HD D' N' := by
  obtain ⟨hWFm, hWFt, hWFw, hWFr, hWFf, hWFp, hWFs, hWFu, hWFc, hm, hn, hp⟩ := h
  have hW0 := hWFm
  unfold WFm at hW0
  refine ⟨?_, ?_, ?_, ?_, ?_, ?_, ?_, ?_, ?_, ⟨?_, ?_, ?_, ?_, ?_, ?_, ?_, ?_, ?_, ?_, ?_, ?_, ?_⟩, ⟨?_, ?_, ?_⟩, ⟨?_, ?_⟩⟩
  · unfold WFm; rw [c13, c14, c15, c16]; omega
  · unfold WFt; rw [r5]; exact hWFt
  · unfold WFw; rw [r6, r7]; exact hWFw
  · unfold WFr; rw [r8]; exact hWFr
  · unfold WFf; rw [r9, c16]; exact hWFf
  · unfold WFp; rw [r10, c13]; exact hWFp
  · unfold WFs; rw [r11, r12, c13]; exact hWFs
  · unfold WFu; rw [r13, c14]; exact hWFu
  · unfold WFc; rw [r14]; exact hWFc
  · exact fun z e => by rw [hN z.toNat (by omega), r5]; exact hm.1 z e
  · exact fun h0 z j e h1 h2 => by rw [r5] at h0; rw [hN z.toNat (by omega), r5]; exact hm.2.1 h0 z j e h1 h2
  · exact fun z w e h1 h2 => by rw [hN z.toNat (by omega), r6]; exact hm.2.2.1 z w e h1 h2
  · exact fun z w e h1 h2 => by rw [hN z.toNat (by omega), r7]; exact hm.2.2.2.1 z w e h1 h2
  · exact fun z e => by rw [hN z.toNat (by omega), c16]; exact hm.2.2.2.2.1 z e
  · exact fun z i c e h1 h2 h3 h4 => by rw [c16] at h2; rw [hN z.toNat (by omega), r9]; exact hm.2.2.2.2.2.1 z i c e h1 h2 h3 h4
  · exact fun z j e h1 h2 => by rw [hN z.toNat (by omega), r8]; exact hm.2.2.2.2.2.2.1 z j e h1 h2
  · exact fun z j e h1 h2 => by
      have hj : j = 0 ∨ j = 1 ∨ j = 2 := by omega
      rcases hj with rfl | rfl | rfl
      · rw [hN z.toNat (by omega)]; exact (hm.2.2.2.2.2.2.2.1 z 0 e h1 h2).trans c13.symm
      · rw [hN z.toNat (by omega)]; exact (hm.2.2.2.2.2.2.2.1 z 1 e h1 h2).trans c14.symm
      · rw [show z.toNat = 819 by omega, x3]; exact c15.symm
  · exact fun z p w e h1 h2 h3 h4 => by rw [c13] at h2; rw [hN z.toNat (by omega), r10]; exact hm.2.2.2.2.2.2.2.2.1 z p w e h1 h2 h3 h4
  · exact fun z p n e h1 h2 h3 h4 => by rw [c13] at h2; rw [hN z.toNat (by omega), r11]; exact hm.2.2.2.2.2.2.2.2.2.1 z p n e h1 h2 h3 h4
  · exact fun z p g e h1 h2 h3 h4 => by rw [c13] at h2; rw [hN z.toNat (by omega), r12]; exact hm.2.2.2.2.2.2.2.2.2.2.1 z p g e h1 h2 h3 h4
  · exact fun z t c e h1 h2 h3 h4 => by rw [c14] at h2; rw [hN z.toNat (by omega), r13]; exact hm.2.2.2.2.2.2.2.2.2.2.2.1 z t c e h1 h2 h3 h4
  · exact fun z t u e h1 h2 h3 h4 => by rw [hN z.toNat (by omega), r14]; exact hm.2.2.2.2.2.2.2.2.2.2.2.2 z t u e h1 h2 h3 h4
  · exact fun z p e h1 h2 => by rw [c13] at h2; rw [r15, n126, upd1_ne (by omega)]; exact hn.1 z p e h1 h2
  · exact fun z t e h1 h2 => by rw [c14] at h2; rw [r16, n126, upd1_ne (by omega)]; exact hn.2.1 z t e h1 h2
  · exact fun z u e h1 h2 => by
      rw [c15] at h2
      rw [r17, n126]
      by_cases g : u = D 4 15
      · rw [g, upd1_at, show z.toNat = (50 + D 4 15).toNat by omega, upd1_at]; exact hw
      · rw [upd1_ne (by omega), upd1_ne (by omega)]; exact hn.2.2 z u e h1 (by omega)
  · exact fun p h1 h2 => by
      rw [c13] at h1
      obtain ⟨q1, q2, q3, q4⟩ := hp.1 p h1 h2
      exact ⟨fun n h3 h4 => by rw [hN _ (by omega)]; exact q1 n h3 h4, fun g h3 h4 => by rw [hN _ (by omega)]; exact q2 g h3 h4, by rw [hN _ (by omega)]; exact q3, by rw [hN _ (by omega)]; exact q4⟩
  · exact fun t h1 h2 => by rw [c14] at h1; rw [hN _ (by omega)]; exact hp.2 t h1 h2
theorem HD_tuner {D D' N N' : fM} (h : HD D N) {x y a c f : Int} (hc : D 4 14 < 6) (hw : wrel x y) (ha : 0 ≤ a ∧ a ≤ 99) (hcc : 0 ≤ c ∧ c ≤ 99) (hf : -99 ≤ f ∧ f ≤ 99) (q0 : D' 13 (D 4 14 * 3).toNat = a) (q1 : D' 13 (D 4 14 * 3 + 1).toNat = c) (q2 : D' 13 (D 4 14 * 3 + 2).toNat = f) (qo : ∀ i : Nat, i < D 4 14 * 3 → D' 13 i = D 13 i) (r16 : D' 16 = upd1 (D 16) (D 4 14).toNat x) (c14 : D' 4 14 = D 4 14 + 1) (x0 : N' 124 (1236 + 3 * D 4 14).toNat = a) (x1 : N' 124 (1236 + 3 * D 4 14 + 1).toNat = c) (x2 : N' 124 (1236 + 3 * D 4 14 + 2).toNat = f) (x3 : N' 124 818 = D 4 14 + 1) (n126 : N' 126 = upd1 (N 126) (44 + D 4 14).toNat y) (r5 : D' 5 = D 5) (r6 : D' 6 = D 6) (r7 : D' 7 = D 7) (r8 : D' 8 = D 8) (r9 : D' 9 = D 9) (r10 : D' 10 = D 10) (r11 : D' 11 = D 11) (r12 : D' 12 = D 12) (r14 : D' 14 = D 14) (r15 : D' 15 = D 15) (r17 : D' 17 = D 17) (c13 : D' 4 13 = D 4 13) (c15 : D' 4 15 = D 4 15) (c16 : D' 4 16 = D 4 16) (hN : ∀ i : Nat, ¬ (i = 818 ∨ (1236 + 3 * D 4 14 ≤ i ∧ i < 1236 + 3 * D 4 14 + 3)) → N' 124 i = N 124 i) : HD D' N' := by
  obtain ⟨hWFm, hWFt, hWFw, hWFr, hWFf, hWFp, hWFs, hWFu, hWFc, hm, hn, hp⟩ := h
  have hW0 := hWFm
  unfold WFm at hW0
  refine ⟨?_, ?_, ?_, ?_, ?_, ?_, ?_, ?_, ?_, ⟨?_, ?_, ?_, ?_, ?_, ?_, ?_, ?_, ?_, ?_, ?_, ?_, ?_⟩, ⟨?_, ?_, ?_⟩, ⟨?_, ?_⟩⟩
  · unfold WFm; rw [c13, c14, c15, c16]; omega
  · unfold WFt; rw [r5]; exact hWFt
  · unfold WFw; rw [r6, r7]; exact hWFw
  · unfold WFr; rw [r8]; exact hWFr
  · unfold WFf; rw [r9, c16]; exact hWFf
  · unfold WFp; rw [r10, c13]; exact hWFp
  · unfold WFs; rw [r11, r12, c13]; exact hWFs
  · intro t h1 h2
    rw [c14] at h2
    by_cases g : t = D 4 14
    · subst g
      rw [q0, q1, q2]
      exact ⟨ha, hcc, hf⟩
    · rw [qo _ (by omega), qo _ (by omega), qo _ (by omega)]
      exact hWFu t h1 (by omega)
  · unfold WFc; rw [r14]; exact hWFc
  · exact fun z e => by rw [hN z.toNat (by omega), r5]; exact hm.1 z e
  · exact fun h0 z j e h1 h2 => by rw [r5] at h0; rw [hN z.toNat (by omega), r5]; exact hm.2.1 h0 z j e h1 h2
  · exact fun z w e h1 h2 => by rw [hN z.toNat (by omega), r6]; exact hm.2.2.1 z w e h1 h2
  · exact fun z w e h1 h2 => by rw [hN z.toNat (by omega), r7]; exact hm.2.2.2.1 z w e h1 h2
  · exact fun z e => by rw [hN z.toNat (by omega), c16]; exact hm.2.2.2.2.1 z e
  · exact fun z i c e h1 h2 h3 h4 => by rw [c16] at h2; rw [hN z.toNat (by omega), r9]; exact hm.2.2.2.2.2.1 z i c e h1 h2 h3 h4
  · exact fun z j e h1 h2 => by rw [hN z.toNat (by omega), r8]; exact hm.2.2.2.2.2.2.1 z j e h1 h2
  · exact fun z j e h1 h2 => by
      have hj : j = 0 ∨ j = 1 ∨ j = 2 := by omega
      rcases hj with rfl | rfl | rfl
      · rw [hN z.toNat (by omega)]; exact (hm.2.2.2.2.2.2.2.1 z 0 e h1 h2).trans c13.symm
      · rw [show z.toNat = 818 by omega, x3]; exact c14.symm
      · rw [hN z.toNat (by omega)]; exact (hm.2.2.2.2.2.2.2.1 z 2 e h1 h2).trans c15.symm
  · exact fun z p w e h1 h2 h3 h4 => by rw [c13] at h2; rw [hN z.toNat (by omega), r10]; exact hm.2.2.2.2.2.2.2.2.1 z p w e h1 h2 h3 h4
  · exact fun z p n e h1 h2 h3 h4 => by rw [c13] at h2; rw [hN z.toNat (by omega), r11]; exact hm.2.2.2.2.2.2.2.2.2.1 z p n e h1 h2 h3 h4
  · exact fun z p g e h1 h2 h3 h4 => by rw [c13] at h2; rw [hN z.toNat (by omega), r12]; exact hm.2.2.2.2.2.2.2.2.2.2.1 z p g e h1 h2 h3 h4
  · exact fun z t k e h1 h2 h3 h4 => by
      rw [c14] at h2
      by_cases g : t = D 4 14
      · subst g
        have hk3 : k = 0 ∨ k = 1 ∨ k = 2 := by omega
        rcases hk3 with rfl | rfl | rfl
        · rw [show (D 4 14 * 3 + 0).toNat = (D 4 14 * 3).toNat by omega, q0, ← x0]
          congr 1
          omega
        · rw [q1, ← x1]
          congr 1
          omega
        · rw [q2, ← x2]
          congr 1
          omega
      · rw [qo _ (by omega), hN z.toNat (by omega)]
        exact hm.2.2.2.2.2.2.2.2.2.2.2.1 z t k e h1 (by omega) h3 h4
  · exact fun z t u e h1 h2 h3 h4 => by rw [hN z.toNat (by omega), r14]; exact hm.2.2.2.2.2.2.2.2.2.2.2.2 z t u e h1 h2 h3 h4
  · exact fun z p e h1 h2 => by rw [c13] at h2; rw [r15, n126, upd1_ne (by omega)]; exact hn.1 z p e h1 h2
  · exact fun z t e h1 h2 => by
      rw [c14] at h2
      rw [r16, n126]
      by_cases g : t = D 4 14
      · rw [g, upd1_at, show z.toNat = (44 + D 4 14).toNat by omega, upd1_at]; exact hw
      · rw [upd1_ne (by omega), upd1_ne (by omega)]; exact hn.2.1 z t e h1 (by omega)
  · exact fun z u e h1 h2 => by rw [c15] at h2; rw [r17, n126, upd1_ne (by omega)]; exact hn.2.2 z u e h1 h2
  · exact fun p h1 h2 => by
      rw [c13] at h1
      obtain ⟨q1, q2, q3, q4⟩ := hp.1 p h1 h2
      exact ⟨fun n h3 h4 => by rw [hN _ (by omega)]; exact q1 n h3 h4, fun g h3 h4 => by rw [hN _ (by omega)]; exact q2 g h3 h4, by rw [hN _ (by omega)]; exact q3, by rw [hN _ (by omega)]; exact q4⟩
  · exact fun t h1 h2 => by rw [c14] at h1; rw [hN _ (by omega)]; exact hp.2 t (by omega) h2
theorem HD_table {D D' N N' : fM} (h : HD D N) (ht : ∀ j : Int, 0 ≤ j → j < 12 → 1000 ≤ D' 5 j.toNat ∧ D' 5 j.toNat ≤ 99999) (x0 : N' 124 645 = 1) (x1 : ∀ j : Int, 0 ≤ j → j < 12 → N' 124 (646 + j).toNat = D' 5 j.toNat) (r6 : D' 6 = D 6) (r7 : D' 7 = D 7) (r8 : D' 8 = D 8) (r9 : D' 9 = D 9) (r10 : D' 10 = D 10) (r11 : D' 11 = D 11) (r12 : D' 12 = D 12) (r13 : D' 13 = D 13) (r14 : D' 14 = D 14) (r15 : D' 15 = D 15) (r16 : D' 16 = D 16) (r17 : D' 17 = D 17) (c13 : D' 4 13 = D 4 13) (c14 : D' 4 14 = D 4 14) (c15 : D' 4 15 = D 4 15) (c16 : D' 4 16 = D 4 16) (n126 : N' 126 = N 126) (hN : ∀ i : Nat, ¬ (645 ≤ i ∧ i < 658) → N' 124 i = N 124 i) : HD D' N' := by
  obtain ⟨hWFm, hWFt, hWFw, hWFr, hWFf, hWFp, hWFs, hWFu, hWFc, hm, hn, hp⟩ := h
  have hW0 := hWFm
  unfold WFm at hW0
  refine ⟨?_, ?_, ?_, ?_, ?_, ?_, ?_, ?_, ?_, ⟨?_, ?_, ?_, ?_, ?_, ?_, ?_, ?_, ?_, ?_, ?_, ?_, ?_⟩, ⟨?_, ?_, ?_⟩, ⟨?_, ?_⟩⟩
  · unfold WFm; rw [c13, c14, c15, c16]; exact hWFm
  · exact .inr ht
  · unfold WFw; rw [r6, r7]; exact hWFw
  · unfold WFr; rw [r8]; exact hWFr
  · unfold WFf; rw [r9, c16]; exact hWFf
  · unfold WFp; rw [r10, c13]; exact hWFp
  · unfold WFs; rw [r11, r12, c13]; exact hWFs
  · unfold WFu; rw [r13, c14]; exact hWFu
  · unfold WFc; rw [r14]; exact hWFc
  · exact fun z e => by
      have := ht 0 (by decide) (by decide)
      rw [show z.toNat = 645 by omega, x0, if_pos (show 0 < D' 5 0 from by have h0 : 1000 ≤ D' 5 0 := this.1; omega)]
  · exact fun h0 z j e h1 h2 => by rw [show z = 646 + j by omega]; exact x1 j h1 h2
  · exact fun z w e h1 h2 => by rw [hN z.toNat (by omega), r6]; exact hm.2.2.1 z w e h1 h2
  · exact fun z w e h1 h2 => by rw [hN z.toNat (by omega), r7]; exact hm.2.2.2.1 z w e h1 h2
  · exact fun z e => by rw [hN z.toNat (by omega), c16]; exact hm.2.2.2.2.1 z e
  · exact fun z i c e h1 h2 h3 h4 => by rw [c16] at h2; rw [hN z.toNat (by omega), r9]; exact hm.2.2.2.2.2.1 z i c e h1 h2 h3 h4
  · exact fun z j e h1 h2 => by rw [hN z.toNat (by omega), r8]; exact hm.2.2.2.2.2.2.1 z j e h1 h2
  · exact fun z j e h1 h2 => by
      have hj : j = 0 ∨ j = 1 ∨ j = 2 := by omega
      have := hm.2.2.2.2.2.2.2.1 z j e h1 h2
      rw [hN z.toNat (by omega)]
      rcases hj with rfl | rfl | rfl
      · exact this.trans c13.symm
      · exact this.trans c14.symm
      · exact this.trans c15.symm
  · exact fun z p w e h1 h2 h3 h4 => by rw [c13] at h2; rw [hN z.toNat (by omega), r10]; exact hm.2.2.2.2.2.2.2.2.1 z p w e h1 h2 h3 h4
  · exact fun z p n e h1 h2 h3 h4 => by rw [c13] at h2; rw [hN z.toNat (by omega), r11]; exact hm.2.2.2.2.2.2.2.2.2.1 z p n e h1 h2 h3 h4
  · exact fun z p g e h1 h2 h3 h4 => by rw [c13] at h2; rw [hN z.toNat (by omega), r12]; exact hm.2.2.2.2.2.2.2.2.2.2.1 z p g e h1 h2 h3 h4
  · exact fun z t c e h1 h2 h3 h4 => by rw [c14] at h2; rw [hN z.toNat (by omega), r13]; exact hm.2.2.2.2.2.2.2.2.2.2.2.1 z t c e h1 h2 h3 h4
  · exact fun z t u e h1 h2 h3 h4 => by rw [hN z.toNat (by omega), r14]; exact hm.2.2.2.2.2.2.2.2.2.2.2.2 z t u e h1 h2 h3 h4
  · exact fun z p e h1 h2 => by rw [c13] at h2; rw [r15, n126]; exact hn.1 z p e h1 h2
  · exact fun z t e h1 h2 => by rw [c14] at h2; rw [r16, n126]; exact hn.2.1 z t e h1 h2
  · exact fun z u e h1 h2 => by rw [c15] at h2; rw [r17, n126]; exact hn.2.2 z u e h1 h2
  · exact fun p h1 h2 => by
      rw [c13] at h1
      obtain ⟨q1, q2, q3, q4⟩ := hp.1 p h1 h2
      exact ⟨fun n h3 h4 => by rw [hN _ (by omega)]; exact q1 n h3 h4, fun g h3 h4 => by rw [hN _ (by omega)]; exact q2 g h3 h4, by rw [hN _ (by omega)]; exact q3, by rw [hN _ (by omega)]; exact q4⟩
  · exact fun t h1 h2 => by rw [c14] at h1; rw [hN _ (by omega)]; exact hp.2 t h1 h2
theorem HD_piano {D D' N N' : fM} (h : HD D N) {x y : Int} (hc : D 4 13 < 16) (hw : wrel x y) (hf : ∀ w : Int, 0 ≤ w → w < 10 → N' 124 (820 + 10 * D 4 13 + w).toNat = D' 10 (D 4 13 * 10 + w).toNat) (hfw : (0 ≤ D' 10 (D 4 13 * 10 + 0).toNat ∧ D' 10 (D 4 13 * 10 + 0).toNat ≤ 2) ∧ (0 ≤ D' 10 (D 4 13 * 10 + 1).toNat ∧ D' 10 (D 4 13 * 10 + 1).toNat ≤ 99) ∧ (0 ≤ D' 10 (D 4 13 * 10 + 2).toNat ∧ D' 10 (D 4 13 * 10 + 2).toNat ≤ 99) ∧ (1 ≤ D' 10 (D 4 13 * 10 + 3).toNat ∧ D' 10 (D 4 13 * 10 + 3).toNat ≤ 999) ∧ (0 ≤ D' 10 (D 4 13 * 10 + 5).toNat ∧ D' 10 (D 4 13 * 10 + 5).toNat ≤ 9999) ∧ (0 ≤ D' 10 (D 4 13 * 10 + 6).toNat ∧ D' 10 (D 4 13 * 10 + 6).toNat ≤ 9) ∧ (0 ≤ D' 10 (D 4 13 * 10 + 7).toNat ∧ D' 10 (D 4 13 * 10 + 7).toNat ≤ 1) ∧ (0 ≤ D' 10 (D 4 13 * 10 + 8).toNat ∧ D' 10 (D 4 13 * 10 + 8).toNat ≤ 1440) ∧ (0 ≤ D' 10 (D 4 13 * 10 + 9).toNat ∧ D' 10 (D 4 13 * 10 + 9).toNat ≤ 1440)) (hs : ∀ n : Int, 0 ≤ n → n < 12 → N' 124 (980 + 12 * D 4 13 + n).toNat = D' 11 (D 4 13 * 12 + n).toNat ∧ 0 ≤ D' 11 (D 4 13 * 12 + n).toNat ∧ D' 11 (D 4 13 * 12 + n).toNat ≤ 99) (hg : ∀ g : Int, 0 ≤ g → g < 4 → N' 124 (1172 + 4 * D 4 13 + g).toNat = D' 12 (D 4 13 * 4 + g).toNat ∧ 0 ≤ D' 12 (D 4 13 * 4 + g).toNat ∧ D' 12 (D 4 13 * 4 + g).toNat ≤ 20) (o10 : ∀ i : Nat, i < D 4 13 * 10 → D' 10 i = D 10 i) (o11 : ∀ i : Nat, i < D 4 13 * 12 → D' 11 i = D 11 i) (o12 : ∀ i : Nat, i < D 4 13 * 4 → D' 12 i = D 12 i) (r15 : D' 15 = upd1 (D 15) (D 4 13).toNat x) (c13 : D' 4 13 = D 4 13 + 1) (x3 : N' 124 817 = D 4 13 + 1) (n126 : N' 126 = upd1 (N 126) (28 + D 4 13).toNat y) (r5 : D' 5 = D 5) (r6 : D' 6 = D 6) (r7 : D' 7 = D 7) (r8 : D' 8 = D 8) (r9 : D' 9 = D 9) (r13 : D' 13 = D 13) (r14 : D' 14 = D 14) (r16 : D' 16 = D 16) (r17 : D' 17 = D 17) (c14 : D' 4 14 = D 4 14) (c15 : D' 4 15 = D 4 15) (c16 : D' 4 16 = D 4 16) (hN : ∀ i : Nat, ¬ (i = 817 ∨ (820 + 10 * D 4 13 ≤ i ∧ i < 820 + 10 * D 4 13 + 10) ∨ (980 + 12 * D 4 13 ≤ i ∧ i < 980 + 12 * D 4 13 + 12) ∨ (1172 + 4 * D 4 13 ≤ i ∧ i < 1172 + 4 * D 4 13 + 4)) → N' 124 i = N 124 i) : HD D' N' := by
  obtain ⟨hWFm, hWFt, hWFw, hWFr, hWFf, hWFp, hWFs, hWFu, hWFc, hm, hn, hp⟩ := h
  have hW0 := hWFm
  unfold WFm at hW0
  refine ⟨?_, ?_, ?_, ?_, ?_, ?_, ?_, ?_, ?_, ⟨?_, ?_, ?_, ?_, ?_, ?_, ?_, ?_, ?_, ?_, ?_, ?_, ?_⟩, ⟨?_, ?_, ?_⟩, ⟨?_, ?_⟩⟩
  · unfold WFm; rw [c13, c14, c15, c16]; omega
  · unfold WFt; rw [r5]; exact hWFt
  · unfold WFw; rw [r6, r7]; exact hWFw
  · unfold WFr; rw [r8]; exact hWFr
  · unfold WFf; rw [r9, c16]; exact hWFf
  · intro p h1 h2
    rw [c13] at h2
    by_cases g : p = D 4 13
    · subst g
      exact hfw
    · rw [o10 _ (by omega), o10 _ (by omega), o10 _ (by omega), o10 _ (by omega), o10 _ (by omega), o10 _ (by omega), o10 _ (by omega), o10 _ (by omega), o10 _ (by omega)]
      exact hWFp p h1 (by omega)
  · intro p h1 h2
    rw [c13] at h2
    by_cases g : p = D 4 13
    · subst g
      exact ⟨fun n h3 h4 => (hs n h3 h4).2, fun k h3 h4 => (hg k h3 h4).2⟩
    · refine ⟨fun n h3 h4 => ?_, fun k h3 h4 => ?_⟩
      · rw [o11 _ (by omega)]; exact (hWFs p h1 (by omega)).1 n h3 h4
      · rw [o12 _ (by omega)]; exact (hWFs p h1 (by omega)).2 k h3 h4
  · unfold WFu; rw [r13, c14]; exact hWFu
  · unfold WFc; rw [r14]; exact hWFc
  · exact fun z e => by rw [hN z.toNat (by omega), r5]; exact hm.1 z e
  · exact fun h0 z j e h1 h2 => by rw [r5] at h0; rw [hN z.toNat (by omega), r5]; exact hm.2.1 h0 z j e h1 h2
  · exact fun z w e h1 h2 => by rw [hN z.toNat (by omega), r6]; exact hm.2.2.1 z w e h1 h2
  · exact fun z w e h1 h2 => by rw [hN z.toNat (by omega), r7]; exact hm.2.2.2.1 z w e h1 h2
  · exact fun z e => by rw [hN z.toNat (by omega), c16]; exact hm.2.2.2.2.1 z e
  · exact fun z i c e h1 h2 h3 h4 => by rw [c16] at h2; rw [hN z.toNat (by omega), r9]; exact hm.2.2.2.2.2.1 z i c e h1 h2 h3 h4
  · exact fun z j e h1 h2 => by rw [hN z.toNat (by omega), r8]; exact hm.2.2.2.2.2.2.1 z j e h1 h2
  · exact fun z j e h1 h2 => by
      have hj : j = 0 ∨ j = 1 ∨ j = 2 := by omega
      rcases hj with rfl | rfl | rfl
      · rw [show z.toNat = 817 by omega, x3]; exact c13.symm
      · rw [hN z.toNat (by omega)]; exact (hm.2.2.2.2.2.2.2.1 z 1 e h1 h2).trans c14.symm
      · rw [hN z.toNat (by omega)]; exact (hm.2.2.2.2.2.2.2.1 z 2 e h1 h2).trans c15.symm
  · exact fun z p w e h1 h2 h3 h4 => by
      rw [c13] at h2
      by_cases g : p = D 4 13
      · subst g
        rw [show z = 820 + 10 * D 4 13 + w by omega]
        exact hf w h3 h4
      · rw [o10 _ (by omega), hN z.toNat (by omega)]
        exact hm.2.2.2.2.2.2.2.2.1 z p w e h1 (by omega) h3 h4
  · exact fun z p n e h1 h2 h3 h4 => by
      rw [c13] at h2
      by_cases g : p = D 4 13
      · subst g
        rw [show z = 980 + 12 * D 4 13 + n by omega]
        exact (hs n h3 h4).1
      · rw [o11 _ (by omega), hN z.toNat (by omega)]
        exact hm.2.2.2.2.2.2.2.2.2.1 z p n e h1 (by omega) h3 h4
  · exact fun z p k e h1 h2 h3 h4 => by
      rw [c13] at h2
      by_cases g : p = D 4 13
      · subst g
        rw [show z = 1172 + 4 * D 4 13 + k by omega]
        exact (hg k h3 h4).1
      · rw [o12 _ (by omega), hN z.toNat (by omega)]
        exact hm.2.2.2.2.2.2.2.2.2.2.1 z p k e h1 (by omega) h3 h4
  · exact fun z t c e h1 h2 h3 h4 => by rw [c14] at h2; rw [hN z.toNat (by omega), r13]; exact hm.2.2.2.2.2.2.2.2.2.2.2.1 z t c e h1 h2 h3 h4
  · exact fun z t u e h1 h2 h3 h4 => by rw [hN z.toNat (by omega), r14]; exact hm.2.2.2.2.2.2.2.2.2.2.2.2 z t u e h1 h2 h3 h4
  · exact fun z p e h1 h2 => by
      rw [c13] at h2
      rw [r15, n126]
      by_cases g : p = D 4 13
      · rw [g, upd1_at, show z.toNat = (28 + D 4 13).toNat by omega, upd1_at]; exact hw
      · rw [upd1_ne (by omega), upd1_ne (by omega)]; exact hn.1 z p e h1 (by omega)
  · exact fun z t e h1 h2 => by rw [c14] at h2; rw [r16, n126, upd1_ne (by omega)]; exact hn.2.1 z t e h1 h2
  · exact fun z u e h1 h2 => by rw [c15] at h2; rw [r17, n126, upd1_ne (by omega)]; exact hn.2.2 z u e h1 h2
  · exact fun p h1 h2 => by
      rw [c13] at h1
      obtain ⟨q1, q2, q3, q4⟩ := hp.1 p (by omega) h2
      exact ⟨fun n h3 h4 => by rw [hN _ (by omega)]; exact q1 n h3 h4, fun g h3 h4 => by rw [hN _ (by omega)]; exact q2 g h3 h4, by rw [hN _ (by omega)]; exact q3, by rw [hN _ (by omega)]; exact q4⟩
  · exact fun t h1 h2 => by rw [c14] at h1; rw [hN _ (by omega)]; exact hp.2 t h1 h2
