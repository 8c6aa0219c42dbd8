/-! ===== houses that are the same as far as it matters (by hand) ===== -/
def Eqv (D E : fM) : Prop := (E 4 13 = D 4 13 ∧ E 4 14 = D 4 14 ∧ E 4 15 = D 4 15 ∧ E 4 16 = D 4 16 ∧ E 18 8 = D 18 8) ∧ (∀ j, j < 12 → E 5 j = D 5 j) ∧ (∀ j, j < 52 → E 6 j = D 6 j ∧ E 7 j = D 7 j) ∧ (∀ j, j < 6 → E 8 j = D 8 j) ∧ (∀ j, j < 48 → E 9 j = D 9 j) ∧ (∀ j, j < 160 → E 10 j = D 10 j) ∧ (∀ j, j < 192 → E 11 j = D 11 j) ∧ (∀ j, j < 64 → E 12 j = D 12 j) ∧ (∀ j, j < 18 → E 13 j = D 13 j) ∧ (∀ j, j < 36 → E 14 j = D 14 j) ∧ ((∀ j, j < 16 → E 15 j = D 15 j) ∧ (∀ j, j < 6 → E 16 j = D 16 j) ∧ (∀ j, j < 6 → E 17 j = D 17 j)) ∧ (∀ j, j < nR D → E 19 j = D 19 j ∧ E 20 j = D 20 j ∧ E 21 j = D 21 j ∧ E 22 j = D 22 j ∧ E 23 j = D 23 j ∧ E 24 j = D 24 j ∧ E 25 j = D 25 j) ∧ (∀ j, j < nR D * 12 → E 26 j = D 26 j)
theorem WF_eqv {D E : fM} (h : Eqv D E) (hw : WF D) : WF E := by
  obtain ⟨⟨e13, e14, e15, e16, e8⟩, t5, t6, t8, t9, t10, t11, t12, t13, t14, -, t19, t26⟩ := h
  obtain ⟨hnn, hn2⟩ := nR_c hw.1
  obtain ⟨w1, w2, w3, w4, w5, w6, w7, w8, w9, w10⟩ := hw
  have hn := w1
  unfold WFn at hn
  refine ⟨?_, ?_, ?_, ?_, ?_, ?_, ?_, ?_, ?_, ?_⟩
  · unfold WFn
    rw [e13, e14, e15, e16, e8]
    exact w1
  · rcases w2 with h | h
    · exact .inl (by rw [t5 0 (by decide)]; exact h)
    · refine .inr (fun j h1 h2 => ?_)
      rw [t5 j.toNat (by omega)]
      exact h j h1 h2
  · intro w h1 h2
    rw [(t6 w.toNat (by omega)).1, (t6 w.toNat (by omega)).2]
    exact w3 w h1 h2
  · unfold WFr
    rw [t8 0 (by decide), t8 1 (by decide), t8 2 (by decide), t8 3 (by decide), t8 4 (by decide), t8 5 (by decide)]
    exact w4
  · intro i h1 h2
    rw [e16] at h2
    rw [t9 _ (by omega), t9 _ (by omega), t9 _ (by omega)]
    exact w5 i h1 h2
  · intro p h1 h2
    rw [e13] at h2
    rw [t10 _ (by omega), t10 (p * 10 + 1).toNat (by omega), t10 (p * 10 + 2).toNat (by omega), t10 (p * 10 + 3).toNat (by omega), t10 (p * 10 + 5).toNat (by omega), t10 (p * 10 + 6).toNat (by omega), t10 (p * 10 + 7).toNat (by omega), t10 (p * 10 + 8).toNat (by omega), t10 (p * 10 + 9).toNat (by omega)]
    exact w6 p h1 h2
  · intro p h1 h2
    rw [e13] at h2
    refine ⟨fun n h3 h4 => ?_, fun g h3 h4 => ?_⟩
    · rw [t11 _ (by omega)]
      exact (w7 p h1 h2).1 n h3 h4
    · rw [t12 _ (by omega)]
      exact (w7 p h1 h2).2 g h3 h4
  · intro t h1 h2
    rw [e14] at h2
    rw [t13 _ (by omega), t13 (t * 3 + 1).toNat (by omega), t13 (t * 3 + 2).toNat (by omega)]
    exact w8 t h1 h2
  · intro t u h1 h2 h3 h4
    rw [t14 _ (by omega)]
    exact w9 t u h1 h2 h3 h4
  · intro i h1 h2
    rw [e8] at h2
    obtain ⟨a1, a2, a3, a4, a5, a6, a7⟩ := t19 i.toNat (by unfold nR; omega)
    have q := w10 i h1 h2
    rw [a1, a2, a3, a4, a5, a6, a7, e13, e14]
    refine ⟨q.1, q.2.1, q.2.2.1, q.2.2.2.1, q.2.2.2.2.1, fun n h3 h4 => ?_, q.2.2.2.2.2.2.1, q.2.2.2.2.2.2.2.1, q.2.2.2.2.2.2.2.2.1, fun h5 => ?_⟩
    · rw [t26 _ (by unfold nR; omega)]
      exact q.2.2.2.2.2.1 n h3 h4
    · rw [t10 _ (by omega)]
      exact q.2.2.2.2.2.2.2.2.2 h5
theorem MRh_eqv {D E M : fM} {hc : Nat} {ho : Int} (h : Eqv D E) (hw : WFn D) (H : MRh M hc ho D) : MRh M hc ho E := by
  obtain ⟨⟨e13, e14, e15, e16, e8⟩, t5, t6, t8, t9, t10, t11, t12, t13, t14, -, t19, t26⟩ := h
  obtain ⟨m1, m2, m3, m4, m5, m6, m7, m8, m9, m10, m11, m12, m13⟩ := H
  unfold WFn at hw
  refine ⟨?_, ?_, ?_, ?_, ?_, ?_, ?_, ?_, ?_, ?_, ?_, ?_, ?_⟩
  · intro z e
    rw [t5 0 (by decide)]; exact m1 z e
  · intro h0 z j e h1 h2
    rw [t5 0 (by decide)] at h0
    rw [t5 _ (by omega)]; exact m2 h0 z j e h1 h2
  · intro z w e h1 h2
    rw [(t6 _ (by omega)).1]; exact m3 z w e h1 h2
  · intro z w e h1 h2
    rw [(t6 _ (by omega)).2]; exact m4 z w e h1 h2
  · intro z e
    rw [e16]; exact m5 z e
  · intro z i c e h1 h2 h3 h4
    rw [e16] at h2
    rw [t9 _ (by omega)]; exact m6 z i c e h1 h2 h3 h4
  · intro z j e h1 h2
    rw [t8 _ (by omega)]; exact m7 z j e h1 h2
  · intro z j e h1 h2
    have := m8 z j e h1 h2
    obtain rfl | rfl | rfl : j = 0 ∨ j = 1 ∨ j = 2 := by omega
    · rw [this]; exact e13.symm
    · rw [this]; exact e14.symm
    · rw [this]; exact e15.symm
  · intro z p w e h1 h2 h3 h4
    rw [e13] at h2
    rw [t10 _ (by omega)]; exact m9 z p w e h1 h2 h3 h4
  · intro z p n e h1 h2 h3 h4
    rw [e13] at h2
    rw [t11 _ (by omega)]; exact m10 z p n e h1 h2 h3 h4
  · intro z p g e h1 h2 h3 h4
    rw [e13] at h2
    rw [t12 _ (by omega)]; exact m11 z p g e h1 h2 h3 h4
  · intro z t c e h1 h2 h3 h4
    rw [e14] at h2
    rw [t13 _ (by omega)]; exact m12 z t c e h1 h2 h3 h4
  · intro z t u e h1 h2 h3 h4
    rw [t14 _ (by omega)]; exact m13 z t u e h1 h2 h3 h4
theorem MRn_eqv {D E M : fM} {nc : Nat} {no : Int} (h : Eqv D E) (hw : WFn D) (H : MRn M nc no D) : MRn M nc no E := by
  obtain ⟨⟨e13, e14, e15, e16, e8⟩, -, -, -, -, -, -, -, -, -, ⟨t15, t16, t17⟩, -, -⟩ := h
  obtain ⟨m1, m2, m3⟩ := H
  unfold WFn at hw
  refine ⟨?_, ?_, ?_⟩
  · intro z p e h1 h2
    rw [e13] at h2
    rw [t15 _ (by omega)]; exact m1 z p e h1 h2
  · intro z p e h1 h2
    rw [e14] at h2
    rw [t16 _ (by omega)]; exact m2 z p e h1 h2
  · intro z p e h1 h2
    rw [e15] at h2
    rw [t17 _ (by omega)]; exact m3 z p e h1 h2
theorem MRr_eqv {D E M : fM} {rc : Nat} {ro : Int} (h : Eqv D E) (hw : WFn D) (H : MRr M rc ro D) : MRr M rc ro E := by
  obtain ⟨⟨e13, e14, e15, e16, e8⟩, -, -, -, -, -, -, -, -, -, -, t19, t26⟩ := h
  obtain ⟨m1, m2, m3, m4, m5, m6, m7, m8⟩ := H
  have hn := nR_c hw
  have hx : ∀ i : Int, 0 ≤ i → i < D 18 8 → i.toNat < nR D := fun i h1 h2 => by unfold nR; omega
  refine ⟨?_, ?_, ?_, ?_, ?_, ?_, ?_, ?_⟩
  · intro z i e h1 h2
    rw [e8] at h2
    rw [(t19 _ (hx i h1 h2)).1]; exact m1 z i e h1 h2
  · intro z i e h1 h2
    rw [e8] at h2
    rw [(t19 _ (hx i h1 h2)).2.1]; exact m2 z i e h1 h2
  · intro z i e h1 h2
    rw [e8] at h2
    rw [(t19 _ (hx i h1 h2)).2.2.1]; exact m3 z i e h1 h2
  · intro z i e h1 h2
    rw [e8] at h2
    rw [(t19 _ (hx i h1 h2)).2.2.2.1]; exact m4 z i e h1 h2
  · intro z i e h1 h2 hk
    rw [e8] at h2
    rw [(t19 _ (hx i h1 h2)).1] at hk
    rw [(t19 _ (hx i h1 h2)).2.2.2.2.1]; exact m5 z i e h1 h2 hk
  · intro z i e h1 h2 hk
    rw [e8] at h2
    rw [(t19 _ (hx i h1 h2)).1] at hk
    rw [(t19 _ (hx i h1 h2)).2.2.2.2.2.1]; exact m6 z i e h1 h2 hk
  · intro z i e h1 h2
    rw [e8] at h2
    rw [(t19 _ (hx i h1 h2)).2.2.2.2.2.2]; exact m7 z i e h1 h2
  · intro z i n e h1 h2 h3 h4
    rw [e8] at h2
    have := hx i h1 h2
    rw [t26 _ (by omega)]; exact m8 z i n e h1 h2 h3 h4
/-! the reference's rows elsewhere -/
theorem MRh_move {M N D : fM} {hc hd : Nat} {ho hp : Int} (hw : WFn D) (h : ∀ w : Int, 0 ≤ w → w < 645 → N hd (hp + w).toNat = M hc (ho + w).toNat) (H : MRh M hc ho D) : MRh N hd hp D := by
  obtain ⟨m1, m2, m3, m4, m5, m6, m7, m8, m9, m10, m11, m12, m13⟩ := H
  unfold WFn at hw
  have hz : ∀ z w : Int, z = hp + w → 0 ≤ w → w < 645 → N hd z.toNat = M hc (ho + w).toNat := fun z w e h1 h2 => by rw [e]; exact h w h1 h2
  refine ⟨?_, ?_, ?_, ?_, ?_, ?_, ?_, ?_, ?_, ?_, ?_, ?_, ?_⟩
  · intro z e
    rw [hz z 0 (by omega) (by omega) (by omega)]; exact m1 _ (by omega)
  · intro h0 z j e h1 h2
    rw [hz z (1 + j) (by omega) (by omega) (by omega)]; exact m2 h0 _ j (by omega) h1 h2
  · intro z w e h1 h2
    rw [hz z (13 + w) (by omega) (by omega) (by omega)]; exact m3 _ w (by omega) h1 h2
  · intro z w e h1 h2
    rw [hz z (65 + w) (by omega) (by omega) (by omega)]; exact m4 _ w (by omega) h1 h2
  · intro z e
    rw [hz z 117 (by omega) (by omega) (by omega)]; exact m5 _ (by omega)
  · intro z i c e h1 h2 h3 h4
    rw [hz z (118 + 3 * i + c) (by omega) (by omega) (by omega)]; exact m6 _ i c (by omega) h1 h2 h3 h4
  · intro z j e h1 h2
    rw [hz z (166 + j) (by omega) (by omega) (by omega)]; exact m7 _ j (by omega) h1 h2
  · intro z j e h1 h2
    rw [hz z (172 + j) (by omega) (by omega) (by omega)]; exact m8 _ j (by omega) h1 h2
  · intro z p w e h1 h2 h3 h4
    rw [hz z (175 + 10 * p + w) (by omega) (by omega) (by omega)]; exact m9 _ p w (by omega) h1 h2 h3 h4
  · intro z p n e h1 h2 h3 h4
    rw [hz z (335 + 12 * p + n) (by omega) (by omega) (by omega)]; exact m10 _ p n (by omega) h1 h2 h3 h4
  · intro z p g e h1 h2 h3 h4
    rw [hz z (527 + 4 * p + g) (by omega) (by omega) (by omega)]; exact m11 _ p g (by omega) h1 h2 h3 h4
  · intro z t c e h1 h2 h3 h4
    rw [hz z (591 + 3 * t + c) (by omega) (by omega) (by omega)]; exact m12 _ t c (by omega) h1 h2 h3 h4
  · intro z t u e h1 h2 h3 h4
    rw [hz z (609 + 6 * t + u) (by omega) (by omega) (by omega)]; exact m13 _ t u (by omega) h1 h2 h3 h4
theorem MRn_move {M N D : fM} {hc hd : Nat} {ho hp : Int} (hw : WFn D) (h : ∀ w : Int, 0 ≤ w → w < 28 → N hd (hp + w).toNat = M hc (ho + w).toNat) (H : MRn M hc ho D) : MRn N hd hp D := by
  obtain ⟨m1, m2, m3⟩ := H
  unfold WFn at hw
  have hz : ∀ z w : Int, z = hp + w → 0 ≤ w → w < 28 → N hd z.toNat = M hc (ho + w).toNat := fun z w e h1 h2 => by rw [e]; exact h w h1 h2
  refine ⟨?_, ?_, ?_⟩
  · intro z p e h1 h2
    rw [hz z p (by omega) (by omega) (by omega)]; exact m1 _ p (by omega) h1 h2
  · intro z p e h1 h2
    rw [hz z (16 + p) (by omega) (by omega) (by omega)]; exact m2 _ p (by omega) h1 h2
  · intro z p e h1 h2
    rw [hz z (22 + p) (by omega) (by omega) (by omega)]; exact m3 _ p (by omega) h1 h2
theorem MRr_move {M N D : fM} {hc hd : Nat} {ho hp : Int} (h : ∀ w : Int, 0 ≤ w → w < 19 * D 18 8 → N hd (hp + w).toNat = M hc (ho + w).toNat) (H : MRr M hc ho D) : MRr N hd hp D := by
  obtain ⟨m1, m2, m3, m4, m5, m6, m7, m8⟩ := H
  have hz : ∀ z w : Int, z = hp + w → 0 ≤ w → w < 19 * D 18 8 → N hd z.toNat = M hc (ho + w).toNat := fun z w e h1 h2 => by rw [e]; exact h w h1 h2
  refine ⟨?_, ?_, ?_, ?_, ?_, ?_, ?_, ?_⟩
  · intro z i e h1 h2
    rw [hz z (19 * i) (by omega) (by omega) (by omega)]; exact m1 _ i (by omega) h1 h2
  · intro z i e h1 h2
    rw [hz z (19 * i + 1) (by omega) (by omega) (by omega)]; exact m2 _ i (by omega) h1 h2
  · intro z i e h1 h2
    rw [hz z (19 * i + 2) (by omega) (by omega) (by omega)]; exact m3 _ i (by omega) h1 h2
  · intro z i e h1 h2
    rw [hz z (19 * i + 3) (by omega) (by omega) (by omega)]; exact m4 _ i (by omega) h1 h2
  · intro z i e h1 h2 hk
    rw [hz z (19 * i + 4) (by omega) (by omega) (by omega)]; exact m5 _ i (by omega) h1 h2 hk
  · intro z i e h1 h2 hk
    rw [hz z (19 * i + 5) (by omega) (by omega) (by omega)]; exact m6 _ i (by omega) h1 h2 hk
  · intro z i e h1 h2
    rw [hz z (19 * i + 6) (by omega) (by omega) (by omega)]; exact m7 _ i (by omega) h1 h2
  · intro z i n e h1 h2 h3 h4
    rw [hz z (19 * i + 7 + n) (by omega) (by omega) (by omega)]; exact m8 _ i n (by omega) h1 h2 h3 h4
theorem fcpy_row {M : fM} {k i q j n a : Nat} (h : a ≠ q) : fcpy M k i q j n a = M a := by
  funext b
  unfold fcpy
  rw [if_neg (fun e => h e.1)]
theorem fcpy_at (M : fM) (k q n : Nat) {b : Nat} (h : b < n) : fcpy M k 0 q 0 n q b = M k b := by
  unfold fcpy
  rw [if_pos ⟨rfl, by omega, by omega⟩]
  congr 1
  omega
theorem fcpy_to (M : fM) (k q j n : Nat) {w : Nat} (h : w < n) : fcpy M k 0 q j n q (j + w) = M k w := by
  unfold fcpy
  rw [if_pos ⟨rfl, by omega, by omega⟩]
  congr 1
  omega
theorem fcpy_from (M : fM) (k i q n : Nat) {w : Nat} (h : w < n) : fcpy M k i q 0 n q w = M k (i + w) := by
  unfold fcpy
  rw [if_pos ⟨rfl, by omega, by omega⟩]
  congr 1
theorem fcpy_0 (M : fM) (k i q j : Nat) : fcpy M k i q j 0 = M := by
  funext a b
  unfold fcpy
  exact if_neg (fun e => by omega)
theorem fcpy_s (M : fM) (k i q j n : Nat) : fup (fcpy M k i q j n) q (j + n) (M k (i + n)) = fcpy M k i q j (n + 1) := by
  funext a b
  unfold fup fcpy
  by_cases h1 : a = q
  · by_cases h2 : b = j + n
    · rw [if_pos ⟨h1, h2⟩, if_pos ⟨h1, by omega, by omega⟩]
      congr 1
      omega
    · rw [if_neg (fun e => h2 e.2)]
      by_cases h3 : j ≤ b ∧ b < j + n
      · rw [if_pos ⟨h1, h3⟩, if_pos ⟨h1, by omega, by omega⟩]
      · rw [if_neg (fun e => h3 e.2), if_neg (fun e => by omega)]
  · rw [if_neg (fun e => h1 e.1), if_neg (fun e => h1 e.1), if_neg (fun e => h1 e.1)]
