/-! ===== pairs, in the reference (by hand) ===== -/
theorem upd1_upd1 (t : Nat → Int) (i : Nat) (v w : Int) : upd1 (upd1 t i v) i w = upd1 t i w := by
  funext n
  unfold upd1
  split <;> rfl
theorem upd1_id (t : Nat → Int) (i : Nat) : upd1 t i (t i) = t := by
  funext n
  unfold upd1
  split
  · subst_vars; rfl
  · rfl
theorem m_pairStep {K D : fM} (hr : MRr K 125 0 D) (hw : WF D) {p kn ap i : Int} (h1 : 0 ≤ i) (h2 : i < D 18 8) (hp : pairP D p kn i) {j : Nat} (hj : j < 12) (q : Nat) (hq : q < 12) (hap : (ap = 0 ∧ q = 0) ∨ (¬ ap = 0 ∧ q = j)) (b1 : -4000000000000000000 ≤ K 130 q ∧ K 130 q ≤ 4000000000000000000) (b2 : -4000000000000000000 ≤ K 131 q ∧ K 131 q ≤ 4000000000000000000) : s_X12_pairs_b83 K p kn ap i (D 21 i.toNat) (pairT D p kn i) (j : Int) = some (Sum.inl ((j : Int) + 1, if toldB D i j = 0 then K else fup (fup K 130 q (K 130 q + fallI D p kn j i)) 131 q (K 131 q + dayI D p kn j i))) := by
  have ht := pairT_b hw hp.2.1
  have hn := hw.1.2.2.2.2
  have qa := hw.2.2.2.2.2.2.2.2.2 i h1 h2
  have qb := hw.2.2.2.2.2.2.2.2.2 (pairT D p kn i) hp.2.1 ht
  have t1 : toldB D i j = 0 ∨ toldB D i j = 1 := fand_1 _
  have fb := fallI_b hw p kn (n := (j : Int)) h1 h2 (by omega) (by omega)
  have a1 := qa.2.2.2.2.2.1 (j : Int) (by omega) (by omega)
  have a2 := qb.2.2.2.2.2.1 (j : Int) (by omega) (by omega)
  have a3 := qa.2.2.1
  have a4 := qb.2.2.1
  have l1 : K 125 (19 * pairT D p kn i + 7 + (j : Int)).toNat = D 26 (pairT D p kn i * 12 + (j : Int)).toNat := mr_left hr _ _ rfl hp.2.1 ht (by omega) (by omega)
  have l2 : K 125 (19 * i + 7 + (j : Int)).toNat = D 26 (i * 12 + (j : Int)).toNat := mr_left hr _ _ rfl h1 h2 (by omega) (by omega)
  have l3 : K 125 (19 * pairT D p kn i + 2).toNat = D 21 (pairT D p kn i).toNat := mr_on hr _ rfl hp.2.1 ht
  have l4 : K 125 (19 * i + 6).toNat = D 25 i.toNat := mr_told hr _ rfl h1 h2
  unfold s_X12_pairs_b83
  rw [if_neg (by omega), l4, if_pos (by unfold fin; omega)]
  by_cases x : toldB D i j = 0
  · rw [if_neg (fun e => e x), if_pos x, if_pos (by unfold fin; omega)]
  · have z1 : D 26 (pairT D p kn i * 12 + (j : Int)).toNat - D 26 (i * 12 + (j : Int)).toNat = fallI D p kn j i := by unfold fallI; exact (if_pos ⟨hp, by omega⟩).symm
    have z2 : D 21 i.toNat - D 21 (pairT D p kn i).toNat = dayI D p kn j i := by unfold dayI; exact (if_pos ⟨hp, by omega⟩).symm
    rw [if_pos x, if_neg x]
    have c180 : s_X12_pairs_j180 (fup K 130 q (K 130 q + fallI D p kn j i)) p kn ap i (D 21 i.toNat) (pairT D p kn i) (j : Int) (q : Int) = some (Sum.inl ((j : Int) + 1, fup (fup K 130 q (K 130 q + fallI D p kn j i)) 131 q (K 131 q + dayI D p kn j i))) := by
      unfold s_X12_pairs_j180
      rw [fup_ne (show (125 : Nat) ≠ 130 by decide), fup_ne (show (131 : Nat) ≠ 130 by decide), l3, z2, Int.toNat_natCast, if_pos (by unfold fin finl; omega), if_pos (by unfold fin; omega)]
    have c128 : s_X12_pairs_j128 K p kn ap i (D 21 i.toNat) (pairT D p kn i) (j : Int) (q : Int) = some (Sum.inl ((j : Int) + 1, fup (fup K 130 q (K 130 q + fallI D p kn j i)) 131 q (K 131 q + dayI D p kn j i))) := by
      unfold s_X12_pairs_j128
      rw [l1, l2, z1, Int.toNat_natCast, if_pos (by unfold fin; omega), if_pos (by unfold fin finl; omega)]
      rcases hap with ⟨e1, e2⟩ | ⟨e1, e2⟩
      · rw [if_pos e1]
        subst e2
        exact c180
      · rw [if_neg e1]
        subst e2
        exact c180
    rcases hap with ⟨e1, e2⟩ | ⟨e1, e2⟩
    · rw [if_pos e1]
      subst e2
      exact c128
    · rw [if_neg e1]
      subst e2
      exact c128
theorem m_pair1 {M D : fM} (hr : MRr M 125 0 D) (hw : WF D) {p kn i : Int} (h1 : 0 ≤ i) (h2 : i < D 18 8) (hp : pairP D p kn i) (hb : ∀ n : Nat, n < 12 → -1000000000 ≤ M 130 n ∧ M 130 n ≤ 1000000000 ∧ -1000000000 ≤ M 131 n ∧ M 131 n ≤ 1000000000) : s_X12_pairs_l83 p kn 1 i (D 21 i.toNat) (pairT D p kn i) (0, M) = some (set2 M 130 (addR (M 130) (fun n => fallI D p kn n i) 12) 131 (addR (M 131) (fun n => dayI D p kn n i) 12)) := by
  unfold s_X12_pairs_l83
  have := fLp_for (b := fun s : Int × fM => s_X12_pairs_b83 s.2 p kn 1 i (D 21 i.toNat) (pairT D p kn i) s.1) (fun j => ((j : Int), set2 M 130 (addR (M 130) (fun n => fallI D p kn n i) j) 131 (addR (M 131) (fun n => dayI D p kn n i) j))) 12 (e := set2 M 130 (addR (M 130) (fun n => fallI D p kn n i) 12) 131 (addR (M 131) (fun n => dayI D p kn n i) 12)) (fun j hj => ?_) rfl
  · rw [addR_0, addR_0, set2_id] at this
    exact this
  · generalize hK : set2 M 130 (addR (M 130) (fun n => fallI D p kn n i) j) 131 (addR (M 131) (fun n => dayI D p kn n i) j) = K
    have hrK : MRr K 125 0 D := MRr_row (by rw [← hK, set2_ne (by decide) (by decide)]) hr
    have e130 : K 130 = addR (M 130) (fun n => fallI D p kn n i) j := by rw [← hK, set2_a]
    have e131 : K 131 = addR (M 131) (fun n => dayI D p kn n i) j := by rw [← hK, set2_b (by decide)]
    have bj := hb j hj
    have s1 := addR_s (M 130) (fun n => fallI D p kn n i) j
    have s2 := addR_s (M 131) (fun n => dayI D p kn n i) j
    show s_X12_pairs_b83 K p kn 1 i (D 21 i.toNat) (pairT D p kn i) (j : Int) = some (Sum.inl ((j : Int) + 1, set2 M 130 (addR (M 130) (fun n => fallI D p kn n i) (j + 1)) 131 (addR (M 131) (fun n => dayI D p kn n i) (j + 1))))
    rw [m_pairStep hrK hw h1 h2 hp hj j hj (.inr ⟨by decide, rfl⟩) (by rw [e130, addR_at]; omega) (by rw [e131, addR_at]; omega)]
    by_cases x : toldB D i j = 0
    · have z1 : fallI D p kn j i = 0 := by unfold fallI; exact if_neg (fun e => absurd e.2 (by omega))
      have z2 : dayI D p kn j i = 0 := by unfold dayI; exact if_neg (fun e => absurd e.2 (by omega))
      rw [if_pos x, ← hK, addR_z (g := fun n => fallI D p kn n i) (j := j) z1, addR_z (g := fun n => dayI D p kn n i) (j := j) z2]
    · rw [if_neg x, e130, e131, ← hK, set2_up (by decide)]
      rw [← s1, ← s2]
theorem m_pair0 {M D : fM} (hr : MRr M 125 0 D) (hw : WF D) {p kn i : Int} (h1 : 0 ≤ i) (h2 : i < D 18 8) (hp : pairP D p kn i) (hb : -1000000000 ≤ M 130 0 ∧ M 130 0 ≤ 1000000000 ∧ -1000000000 ≤ M 131 0 ∧ M 131 0 ≤ 1000000000) : s_X12_pairs_l83 p kn 0 i (D 21 i.toNat) (pairT D p kn i) (0, M) = some (set2 M 130 (upd1 (M 130) 0 (M 130 0 + sumI (fun n => fallI D p kn n i) 12)) 131 (upd1 (M 131) 0 (M 131 0 + sumI (fun n => dayI D p kn n i) 12))) := by
  unfold s_X12_pairs_l83
  have := fLp_for (b := fun s : Int × fM => s_X12_pairs_b83 s.2 p kn 0 i (D 21 i.toNat) (pairT D p kn i) s.1) (fun j => ((j : Int), set2 M 130 (upd1 (M 130) 0 (M 130 0 + sumI (fun n => fallI D p kn n i) j)) 131 (upd1 (M 131) 0 (M 131 0 + sumI (fun n => dayI D p kn n i) j)))) 12 (e := set2 M 130 (upd1 (M 130) 0 (M 130 0 + sumI (fun n => fallI D p kn n i) 12)) 131 (upd1 (M 131) 0 (M 131 0 + sumI (fun n => dayI D p kn n i) 12))) (fun j hj => ?_) rfl
  · rw [show sumI (fun n => fallI D p kn n i) 0 = 0 from rfl, show sumI (fun n => dayI D p kn n i) 0 = 0 from rfl, Int.add_zero, Int.add_zero, upd1_id, upd1_id, set2_id] at this
    exact this
  · generalize hK : set2 M 130 (upd1 (M 130) 0 (M 130 0 + sumI (fun n => fallI D p kn n i) j)) 131 (upd1 (M 131) 0 (M 131 0 + sumI (fun n => dayI D p kn n i) j)) = K
    have hrK : MRr K 125 0 D := MRr_row (by rw [← hK, set2_ne (by decide) (by decide)]) hr
    have e130 : K 130 = upd1 (M 130) 0 (M 130 0 + sumI (fun n => fallI D p kn n i) j) := by rw [← hK, set2_a]
    have e131 : K 131 = upd1 (M 131) 0 (M 131 0 + sumI (fun n => dayI D p kn n i) j) := by rw [← hK, set2_b (by decide)]
    have b1 := sumI_b (g := fun n => fallI D p kn n i) (lo := -1998) (hi := 1998) j (fun k hk => (fallI_b hw p kn (n := (k : Int)) h1 h2 (by omega) (by omega)).1)
    have b2 := sumI_b (g := fun n => dayI D p kn n i) (lo := 0) (hi := 363) j (fun k hk => (fallI_b hw p kn (n := (k : Int)) h1 h2 (by omega) (by omega)).2)
    show s_X12_pairs_b83 K p kn 0 i (D 21 i.toNat) (pairT D p kn i) (j : Int) = some (Sum.inl ((j : Int) + 1, set2 M 130 (upd1 (M 130) 0 (M 130 0 + sumI (fun n => fallI D p kn n i) (j + 1))) 131 (upd1 (M 131) 0 (M 131 0 + sumI (fun n => dayI D p kn n i) (j + 1)))))
    rw [m_pairStep hrK hw h1 h2 hp hj 0 (by decide) (.inl ⟨rfl, rfl⟩) (by rw [e130, upd1_at]; omega) (by rw [e131, upd1_at]; omega), sumI_s, sumI_s]
    by_cases x : toldB D i j = 0
    · have z1 : fallI D p kn j i = 0 := by unfold fallI; exact if_neg (fun e => absurd e.2 (by omega))
      have z2 : dayI D p kn j i = 0 := by unfold dayI; exact if_neg (fun e => absurd e.2 (by omega))
      rw [if_pos x, ← hK, z1, z2, Int.add_zero, Int.add_zero]
    · rw [if_neg x, e130, e131, ← hK, set2_up (by decide), upd1_upd1, upd1_upd1, upd1_at, upd1_at, Int.add_assoc, Int.add_assoc]
theorem pair_lt {D : fM} (hw : WF D) {p kn i : Int} (h : 0 ≤ pairT D p kn i) : D 21 (pairT D p kn i).toNat ≤ D 21 i.toNat := by
  have := latF_b D 0 p (D 21 i.toNat) kn (nR D)
  unfold pairT lat at h ⊢
  rcases this with e | e
  · omega
  · exact e.2.2.2
theorem m_pairs {M D : fM} (hr : MRr M 125 0 D) (hn0 : M 122 10 = D 18 8) (hw : WF D) (p kn ap : Int) (hap : ap = 1 ∨ ap = 0) (R : Nat → Nat → Int) (S : Nat → Nat → Int) (R0 : R 0 = M 130) (S0 : S 0 = M 131)
    (hR : ∀ (i : Nat) (K : fM), i < nR D → MRr K 125 0 D → K 130 = R i → K 131 = S i → (pairP D p kn i → s_X12_pairs_l83 p kn ap i (D 21 (i : Int).toNat) (pairT D p kn i) (0, K) = some (set2 K 130 (R (i + 1)) 131 (S (i + 1)))) ∧ (¬ pairP D p kn i → R (i + 1) = R i ∧ S (i + 1) = S i)) : s_X12_pairs M p kn ap = some ((), set2 M 130 (R (nR D)) 131 (S (nR D))) := by
  obtain ⟨hnn, hn2⟩ := nR_c hw.1
  have key : s_X12_pairs_l3 p kn ap (0, M) = some (set2 M 130 (R (nR D)) 131 (S (nR D))) := by
    unfold s_X12_pairs_l3
    have := fLp_for (b := fun s : Int × fM => s_X12_pairs_b3 s.2 p kn ap s.1) (fun i => ((i : Int), set2 M 130 (R i) 131 (S i))) (nR D) (e := set2 M 130 (R (nR D)) 131 (S (nR D))) (fun i hi => ?_) ?_
    · rw [R0, S0, set2_id] at this
      exact this
    · generalize hK : set2 M 130 (R i) 131 (S i) = K
      have hrK : MRr K 125 0 D := MRr_row (by rw [← hK, set2_ne (by decide) (by decide)]) hr
      have hnK : K 122 10 = D 18 8 := by rw [← hK, set2_ne (by decide) (by decide), hn0]
      have e130 : K 130 = R i := by rw [← hK, set2_a]
      have e131 : K 131 = S i := by rw [← hK, set2_b (by decide)]
      obtain ⟨H1, H2⟩ := hR i K hi hrK e130 e131
      have a3 := (hw.2.2.2.2.2.2.2.2.2 (i : Int) (by omega) (by omega)).2.2.1
      have zz : ¬ pairP D p kn i → K = set2 M 130 (R (i + 1)) 131 (S (i + 1)) := by
        intro hnp
        rw [(H2 hnp).1, (H2 hnp).2, hK]
      show s_X12_pairs_b3 K p kn ap (i : Int) = some (Sum.inl ((i : Int) + 1, set2 M 130 (R (i + 1)) 131 (S (i + 1))))
      unfold s_X12_pairs_b3
      rw [hnK, if_neg (by omega), m_isOf hrK hw.1 (by omega) (by omega), mr_on hrK (i : Int) rfl (by omega) (by omega), m_latest hrK hnK hw.1]
      simp only [Option.bind_some, bit_ifn, if_pos (show fin ((i : Int) + 1) by unfold fin; omega), if_pos (show fin (19 * (i : Int)) ∧ fin (19 * (i : Int) + 2) ∧ (0 ≤ 19 * (i : Int) + 2 ∧ 19 * (i : Int) + 2 < 3800) by unfold fin; omega)]
      by_cases x1 : isK D i 1 p kn
      · rw [if_pos ⟨x1, by omega⟩]
        by_cases x2 : pairT D p kn i < 0
        · rw [if_pos x2, ← zz (fun e => absurd e.2.1 (by omega))]
        · have ht := pairT_b hw (p := p) (kn := kn) (i := (i : Int)) (by omega)
          have hle := pair_lt hw (p := p) (kn := kn) (i := (i : Int)) (by omega)
          have x2' : 0 ≤ lat D 0 p (D 21 (i : Int).toNat) kn := Int.not_lt.mp x2
          have ht' : lat D 0 p (D 21 (i : Int).toNat) kn < D 18 8 := ht
          rw [if_neg x2, if_pos (by unfold fin; omega), mr_on hrK (lat D 0 p (D 21 (i : Int).toNat) kn) rfl x2' ht']
          by_cases x3 : D 21 (pairT D p kn i).toNat = D 21 (i : Int).toNat
          · rw [if_neg (fun e => e x3), ← zz (fun e => absurd e.2.2 (by omega))]
          · have hP : pairP D p kn i := ⟨x1, x2', by omega⟩
            rw [if_pos x3, H1 hP, Option.bind_some]
            congr 3
            funext k
            rw [← hK]
            unfold set2
            split
            · rfl
            · split <;> rfl
      · rw [if_neg (fun e => x1 e.1), ← zz (fun e => x1 e.1)]
    · generalize hK : set2 M 130 (R (nR D)) 131 (S (nR D)) = K
      have hnK : K 122 10 = D 18 8 := by rw [← hK, set2_ne (by decide) (by decide), hn0]
      show s_X12_pairs_b3 K p kn ap ((nR D : Nat) : Int) = _
      unfold s_X12_pairs_b3
      rw [hnK, if_pos (by omega)]
  unfold s_X12_pairs
  rw [key]
  rfl
theorem m_pairs1 {M D : fM} (hr : MRr M 125 0 D) (hn0 : M 122 10 = D 18 8) (hw : WF D) (p kn : Int) (hb : ∀ n : Nat, n < 12 → M 130 n = 0 ∧ M 131 n = 0) : s_X12_pairs M p kn 1 = some ((), set2 M 130 (addR (M 130) (fallN D p kn) 12) 131 (addR (M 131) (dayN D p kn) 12)) := by
  obtain ⟨hnn, hn2⟩ := nR_c hw.1
  refine m_pairs hr hn0 hw p kn 1 (.inl rfl) (fun i => addR (M 130) (fun n => sumI (fallI D p kn n) i) 12) (fun i => addR (M 131) (fun n => sumI (dayI D p kn n) i) 12) (addR_no (fun _ _ => rfl)) (addR_no (fun _ _ => rfl)) (fun i K hi hrK e1 e2 => ⟨fun hP => ?_, fun hnp => ?_⟩)
  · rw [m_pair1 hrK hw (by omega) (by omega) hP ?_]
    · show _ = some (set2 K 130 (addR (M 130) (fun n => sumI (fallI D p kn n) (i + 1)) 12) 131 (addR (M 131) (fun n => sumI (dayI D p kn n) (i + 1)) 12))
      rw [e1, e2, sum_row_s D (fun n => fallI D p kn n), sum_row_s D (fun n => dayI D p kn n)]
    · intro n hn
      have b0 := hb n hn
      have b1 := sumI_b (g := fallI D p kn n) (lo := -1998) (hi := 1998) i (fun k hk => (fallI_b hw p kn (n := (n : Int)) (i := (k : Int)) (by omega) (by omega) (by omega) (by omega)).1)
      have b2 := sumI_b (g := dayI D p kn n) (lo := 0) (hi := 363) i (fun k hk => (fallI_b hw p kn (n := (n : Int)) (i := (k : Int)) (by omega) (by omega) (by omega) (by omega)).2)
      rw [e1, e2]
      unfold addR
      rw [if_pos hn, if_pos hn]
      show -1000000000 ≤ M 130 n + sumI (fallI D p kn n) i ∧ M 130 n + sumI (fallI D p kn n) i ≤ 1000000000 ∧ -1000000000 ≤ M 131 n + sumI (dayI D p kn n) i ∧ M 131 n + sumI (dayI D p kn n) i ≤ 1000000000
      omega
  · constructor
    · show addR (M 130) (fun n => sumI (fallI D p kn n) (i + 1)) 12 = addR (M 130) (fun n => sumI (fallI D p kn n) i) 12
      rw [← sum_row_s D (fun n => fallI D p kn n)]
      exact addR_no (fun n hn => by show fallI D p kn n i = 0; unfold fallI; exact if_neg (fun e => hnp e.1))
    · show addR (M 131) (fun n => sumI (dayI D p kn n) (i + 1)) 12 = addR (M 131) (fun n => sumI (dayI D p kn n) i) 12
      rw [← sum_row_s D (fun n => dayI D p kn n)]
      exact addR_no (fun n hn => by show dayI D p kn n i = 0; unfold dayI; exact if_neg (fun e => hnp e.1))
/-- all notes of all records of a piano -/
abbrev fallS (D : fM) (p kn : Int) : Int := sumI (fun i => sumI (fun n => fallI D p kn n i) 12) (nR D)
abbrev dayS (D : fM) (p kn : Int) : Int := sumI (fun i => sumI (fun n => dayI D p kn n i) 12) (nR D)
theorem m_pairs0 {M D : fM} (hr : MRr M 125 0 D) (hn0 : M 122 10 = D 18 8) (hw : WF D) (p kn : Int) (hb : -500000000 ≤ M 130 0 ∧ M 130 0 ≤ 500000000 ∧ -500000000 ≤ M 131 0 ∧ M 131 0 ≤ 500000000) : s_X12_pairs M p kn 0 = some ((), set2 M 130 (upd1 (M 130) 0 (M 130 0 + fallS D p kn)) 131 (upd1 (M 131) 0 (M 131 0 + dayS D p kn))) := by
  obtain ⟨hnn, hn2⟩ := nR_c hw.1
  refine m_pairs hr hn0 hw p kn 0 (.inr rfl) (fun i => upd1 (M 130) 0 (M 130 0 + sumI (fun i => sumI (fun n => fallI D p kn n i) 12) i)) (fun i => upd1 (M 131) 0 (M 131 0 + sumI (fun i => sumI (fun n => dayI D p kn n i) 12) i)) ?_ ?_ (fun i K hi hrK e1 e2 => ⟨fun hP => ?_, fun hnp => ?_⟩)
  · show upd1 (M 130) 0 (M 130 0 + 0) = M 130
    rw [Int.add_zero, upd1_id]
  · show upd1 (M 131) 0 (M 131 0 + 0) = M 131
    rw [Int.add_zero, upd1_id]
  · rw [m_pair0 hrK hw (by omega) (by omega) hP ?_]
    · show _ = some (set2 K 130 (upd1 (M 130) 0 (M 130 0 + sumI (fun i => sumI (fun n => fallI D p kn n i) 12) (i + 1))) 131 (upd1 (M 131) 0 (M 131 0 + sumI (fun i => sumI (fun n => dayI D p kn n i) 12) (i + 1))))
      rw [e1, e2, upd1_upd1, upd1_upd1, upd1_at, upd1_at, sumI_s (fun i => sumI (fun n => fallI D p kn n i) 12), sumI_s (fun i => sumI (fun n => dayI D p kn n i) 12), Int.add_assoc, Int.add_assoc]
    · have b1 := sumI_b (g := fun i => sumI (fun n => fallI D p kn n i) 12) (lo := -23976) (hi := 23976) i (fun k hk => by
        have := sumI_b (g := fun n => fallI D p kn n k) (lo := -1998) (hi := 1998) 12 (fun n hn => (fallI_b hw p kn (n := (n : Int)) (i := (k : Int)) (by omega) (by omega) (by omega) (by omega)).1)
        omega)
      have b2 := sumI_b (g := fun i => sumI (fun n => dayI D p kn n i) 12) (lo := 0) (hi := 4356) i (fun k hk => by
        have := sumI_b (g := fun n => dayI D p kn n k) (lo := 0) (hi := 363) 12 (fun n hn => (fallI_b hw p kn (n := (n : Int)) (i := (k : Int)) (by omega) (by omega) (by omega) (by omega)).2)
        omega)
      rw [e1, e2, upd1_at, upd1_at]
      omega
  · have z1 : sumI (fun n => fallI D p kn n i) 12 = 0 := by
      have := sumI_b (g := fun n => fallI D p kn n i) (lo := 0) (hi := 0) 12 (fun n hn => by
        have : fallI D p kn n i = 0 := by unfold fallI; exact if_neg (fun e => hnp e.1)
        omega)
      omega
    have z2 : sumI (fun n => dayI D p kn n i) 12 = 0 := by
      have := sumI_b (g := fun n => dayI D p kn n i) (lo := 0) (hi := 0) 12 (fun n hn => by
        have : dayI D p kn n i = 0 := by unfold dayI; exact if_neg (fun e => hnp e.1)
        omega)
      omega
    constructor
    · show upd1 (M 130) 0 (M 130 0 + sumI (fun i => sumI (fun n => fallI D p kn n i) 12) (i + 1)) = _
      rw [sumI_s (fun i => sumI (fun n => fallI D p kn n i) 12), z1, Int.add_zero]
    · show upd1 (M 131) 0 (M 131 0 + sumI (fun i => sumI (fun n => dayI D p kn n i) 12) (i + 1)) = _
      rw [sumI_s (fun i => sumI (fun n => dayI D p kn n i) 12), z2, Int.add_zero]
/-- the sums may be taken either way -/
theorem sum_swap (f : Int → Int → Int) : ∀ a b : Nat, sumI (fun i => sumI (fun n => f n i) a) b = sumI (fun n => sumI (f n) b) a
  | 0, b => by
    show sumI (fun _ => 0) b = 0
    induction b with
    | zero => rfl
    | succ b ih => rw [sumI_s, ih]; rfl
  | a + 1, b => by
    show sumI (fun i => sumI (fun n => f n i) a + f a i) b = sumI (fun n => sumI (f n) b) a + sumI (f a) b
    rw [sumI_add, sum_swap f a b]
def zero12 (t : Nat → Int) : Nat → Int := fun j => if j < 12 then 0 else t j
theorem m_noPairs (M : fM) : s_X12_noPairs M = some ((), set2 M 130 (zero12 (M 130)) 131 (zero12 (M 131))) := by
  have key : s_X12_noPairs_l2 (0, M) = some (set2 M 130 (zero12 (M 130)) 131 (zero12 (M 131))) := by
    unfold s_X12_noPairs_l2
    have := fLp_for (b := fun s : Int × fM => s_X12_noPairs_b2 s.2 s.1) (fun j => ((j : Int), set2 M 130 (fun n => if n < j then 0 else M 130 n) 131 (fun n => if n < j then 0 else M 131 n))) 12 (e := set2 M 130 (zero12 (M 130)) 131 (zero12 (M 131))) (fun j hj => ?_) rfl
    · rw [show (fun n => if n < 0 then (0 : Int) else M 130 n) = M 130 from funext (fun n => if_neg (by omega)), show (fun n => if n < 0 then (0 : Int) else M 131 n) = M 131 from funext (fun n => if_neg (by omega)), set2_id] at this
      exact this
    · show s_X12_noPairs_b2 (set2 M 130 (fun n => if n < j then 0 else M 130 n) 131 (fun n => if n < j then 0 else M 131 n)) (j : Int) = _
      unfold s_X12_noPairs_b2
      rw [if_neg (by omega), if_pos (by unfold fin; omega), set2_up (by decide), Int.toNat_natCast]
      have e : ∀ t : Nat → Int, upd1 (fun n => if n < j then 0 else t n) j 0 = fun n => if n < j + 1 then 0 else t n := by
        intro t
        funext n
        unfold upd1
        by_cases h : n = j
        · rw [if_pos h, if_pos (by omega)]
        · rw [if_neg h]
          show (if n < j then 0 else t n) = _
          by_cases h2 : n < j
          · rw [if_pos h2, if_pos (by omega)]
          · rw [if_neg h2, if_neg (by omega)]
      rw [e, e]
      rfl
  unfold s_X12_noPairs
  rw [key]
  rfl
