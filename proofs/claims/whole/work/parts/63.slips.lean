/-! ===== slips, stove (by hand) ===== -/
theorem mul_bd {x y A B : Int} (hA : 0 ≤ A) (h1 : -A ≤ x) (h2 : x ≤ A) (h3 : 0 ≤ y) (h4 : y ≤ B) : -(A * B) ≤ x * y ∧ x * y ≤ A * B := by
  have a1 : x * y ≤ A * y := Int.mul_le_mul_of_nonneg_right h2 h3
  have a2 : A * y ≤ A * B := Int.mul_le_mul_of_nonneg_left h4 hA
  have a3 : -A * y ≤ x * y := Int.mul_le_mul_of_nonneg_right h1 h3
  rw [Int.neg_mul] at a3
  omega
/-- Ou with other numbers of the slip -/
theorem Ou_slip {l : List (Nat × Option Nat)} {M M' : fM} (h : fSame l M M') (hn : fNo l [66, 142, 72, 148] [(0, 14), (122, 15), (54, 15), (122, 51), (54, 16), (122, 49), (67, 5), (122, 57), (70, 3), (122, 60)]) (hs : M' 47 7 = M' 122 31 ∧ M' 47 8 = M' 122 32) (H : Ou M) : Ou M' := by
  unfold Ou at H ⊢
  rw [fno_row h hn 66 (by decide), fno_row h hn 142 (by decide), fno_row h hn 72 (by decide), fno_row h hn 148 (by decide), fno_fld h hn 0 14 (by decide), fno_fld h hn 122 15 (by decide), fno_fld h hn 54 15 (by decide), fno_fld h hn 122 51 (by decide), fno_fld h hn 54 16 (by decide), fno_fld h hn 122 49 (by decide), fno_fld h hn 67 5 (by decide), fno_fld h hn 122 57 (by decide), fno_fld h hn 70 3 (by decide), fno_fld h hn 122 60 (by decide)]
  exact ⟨H.1, hs, H.2.2⟩
abbrev rest4 : List (Nat × Nat) := [(1, 2), (122, 2), (122, 10)]
/-- Iv with another Ou -/
theorem Iv_ou {l : List (Nat × Option Nat)} {M M' : fM} (h : fSame l M M') (hn : fNo l [1000, 1001, 1002, 1003, 3, 127, 2, 123, 124, 125, 126, 75, 150, 151, 152, 153, 154] [(1, 2), (122, 2), (122, 10)] ∧ ∀ x ∈ l, ¬ (4 ≤ x.1 ∧ x.1 ≤ 26) ∧ ¬ (76 ≤ x.1 ∧ x.1 ≤ 98) ∧ ¬ (99 ≤ x.1 ∧ x.1 ≤ 121)) (ho : Ou M → Ou M') (H : Iv M) : Iv M' := by
  obtain ⟨a1, a2, a3, ⟨D, a4⟩, ⟨D0, a5⟩, ⟨D1, a6⟩⟩ := H
  refine ⟨St_same h (fno_sub hn.1 (by decide) (by decide)) a1, Tp_same h (fno_sub hn.1 (by decide) (by decide)) a2, ho a3, ⟨D, Cu_same h (fno_sub hn.1 (by decide) (by decide)) (fun x hx => (hn.2 x hx).1) a4⟩, ⟨D0, Kp_same h (fno_sub hn.1 (by decide) (by decide)) (fun x hx e => (hn.2 x hx).2.1 (by omega)) a5⟩, ⟨D1, Kp_same h (fno_sub hn.1 (by decide) (by decide)) (fun x hx e => (hn.2 x hx).2.2 (by omega)) a6⟩⟩
theorem fs_set2 {l : List (Nat × Option Nat)} {M M1 : fM} {a b : Nat} {ra rb : Nat → Int} (h : fSame l M M1) (ha : (a, none) ∈ l) (hb : (b, none) ∈ l) : fSame l M (set2 M1 a ra b rb) := fun k j hn => by
  rw [set2_ne (fun e => hn (.inl (by rw [e]; exact ha))) (fun e => hn (.inl (by rw [e]; exact hb)))]
  exact h k j hn
def mostF (F G : Int → Int) : Nat → Int
  | 0 => -1
  | n + 1 => if 0 < G n ∧ (mostF F G n < 0 ∨ F (mostF F G n) * G n < F n * G (mostF F G n)) then n else mostF F G n
theorem mostF_s (F G : Int → Int) (n : Nat) : mostF F G (n + 1) = if 0 < G n ∧ (mostF F G n < 0 ∨ F (mostF F G n) * G n < F n * G (mostF F G n)) then (n : Int) else mostF F G n := rfl
theorem mostF_b (F G : Int → Int) : ∀ n : Nat, mostF F G n = -1 ∨ (0 ≤ mostF F G n ∧ mostF F G n < n ∧ 0 < G (mostF F G n))
  | 0 => .inl rfl
  | n + 1 => by
    have ih := mostF_b F G n
    rw [mostF_s]
    split
    · rename_i h
      exact .inr ⟨by omega, by omega, h.1⟩
    · rcases ih with e | ⟨a, b, c⟩
      · exact .inl e
      · exact .inr ⟨a, by omega, c⟩
theorem c_most {K : fM} {F G : Int → Int} (e1 : ∀ n : Nat, n < 12 → K 48 n = F n) (e2 : ∀ n : Nat, n < 12 → K 49 n = G n) (bF : ∀ n : Nat, n < 12 → -1000000 ≤ F n ∧ F n ≤ 1000000) (bG : ∀ n : Nat, n < 12 → 0 ≤ G n ∧ G n ≤ 1000000) : s_X1_mostSlipping_l15 K (-1, 0) = some (mostF F G 12) := by
  unfold s_X1_mostSlipping_l15
  refine fLp_for (fun i => (mostF F G i, (i : Int))) 12 (fun i hi => ?_) rfl
  have hb := mostF_b F G i
  have gi := bG i hi
  have fi := bF i hi
  show s_X1_mostSlipping_b15 K (mostF F G i) (i : Int) = some (Sum.inl (mostF F G (i + 1), (i : Int) + 1))
  rw [mostF_s]
  unfold s_X1_mostSlipping_b15 s_X1_isFaster
  rw [if_neg (by omega), if_pos (by omega), Int.toNat_natCast, e1 i hi, e2 i hi]
  simp only [if_pos (show fin ((i : Int) + 1) by unfold fin; omega)]
  by_cases x1 : G i ≤ 0
  · rw [if_pos x1, if_neg (fun e => absurd e.1 (by omega))]
  · rw [if_neg x1]
    by_cases x2 : mostF F G i < 0
    · rw [if_pos x2, if_pos ⟨by omega, .inl x2⟩]
    · obtain ⟨m, hm⟩ : ∃ m : Nat, mostF F G i = (m : Int) := ⟨(mostF F G i).toNat, by omega⟩
      have hm2 : m < 12 := by omega
      rw [if_neg x2, hm, Int.toNat_natCast, e1 m hm2, e2 m hm2]
      have p1 := mul_bd (x := F i) (y := G m) (A := 1000000) (B := 1000000) (by omega) fi.1 fi.2 (bG m hm2).1 (bG m hm2).2
      have p2 := mul_bd (x := F m) (y := G i) (A := 1000000) (B := 1000000) (by omega) (bF m hm2).1 (bF m hm2).2 gi.1 gi.2
      rw [if_pos (by unfold finl; omega), if_pos (by unfold finl; omega)]
      by_cases x3 : F i * G m ≤ F m * G i
      · rw [if_pos x3, if_neg (show ¬ (0 < G i ∧ ((m : Int) < 0 ∨ F m * G i < F i * G m)) from fun e => by rcases e.2 with e | e <;> omega)]
        rfl
      · rw [if_neg x3, if_pos (show (0 < G i ∧ ((m : Int) < 0 ∨ F m * G i < F i * G m)) from ⟨by omega, .inr (by omega)⟩)]
        rfl
theorem m_most {K : fM} {F G : Int → Int} (e1 : ∀ n : Nat, n < 12 → K 130 n = F n) (e2 : ∀ n : Nat, n < 12 → K 131 n = G n) (bF : ∀ n : Nat, n < 12 → -1000000 ≤ F n ∧ F n ≤ 1000000) (bG : ∀ n : Nat, n < 12 → 0 ≤ G n ∧ G n ≤ 1000000) : s_X12_slips_l39 K (-1, 0) = some (mostF F G 12) := by
  unfold s_X12_slips_l39
  refine fLp_for (fun i => (mostF F G i, (i : Int))) 12 (fun i hi => ?_) rfl
  have hb := mostF_b F G i
  have gi := bG i hi
  have fi := bF i hi
  show s_X12_slips_b39 K (mostF F G i) (i : Int) = some (Sum.inl (mostF F G (i + 1), (i : Int) + 1))
  rw [mostF_s]
  unfold s_X12_slips_b39
  rw [if_neg (by omega), if_pos (by omega), Int.toNat_natCast, e1 i hi, e2 i hi]
  simp only [if_pos (show fin ((i : Int) + 1) by unfold fin; omega)]
  by_cases x1 : G i ≤ 0
  · rw [if_pos x1, if_neg (fun e => absurd e.1 (by omega))]
  · rw [if_neg x1]
    by_cases x2 : mostF F G i < 0
    · rw [if_pos x2, if_pos ⟨by omega, .inl x2⟩]
    · obtain ⟨m, hm⟩ : ∃ m : Nat, mostF F G i = (m : Int) := ⟨(mostF F G i).toNat, by omega⟩
      have hm2 : m < 12 := by omega
      rw [if_neg x2, hm, Int.toNat_natCast, e1 m hm2, e2 m hm2]
      have p1 := mul_bd (x := F i) (y := G m) (A := 1000000) (B := 1000000) (by omega) fi.1 fi.2 (bG m hm2).1 (bG m hm2).2
      have p2 := mul_bd (x := F m) (y := G i) (A := 1000000) (B := 1000000) (by omega) (bF m hm2).1 (bF m hm2).2 gi.1 gi.2
      rw [if_pos (by unfold finl; omega)]
      by_cases x3 : F i * G m ≤ F m * G i
      · rw [if_pos x3, if_neg (show ¬ (0 < G i ∧ ((m : Int) < 0 ∨ F m * G i < F i * G m)) from fun e => by rcases e.2 with e | e <;> omega)]
      · rw [if_neg x3, if_pos (show (0 < G i ∧ ((m : Int) < 0 ∨ F m * G i < F i * G m)) from ⟨by omega, .inr (by omega)⟩)]
theorem fallN_b {D : fM} (hw : WF D) (p kn : Int) (n : Nat) (hn : n < 12) : (-400000 ≤ fallN D p kn n ∧ fallN D p kn n ≤ 400000) ∧ (0 ≤ dayN D p kn n ∧ dayN D p kn n ≤ 100000) := by
  obtain ⟨hnn, hn2⟩ := nR_c hw.1
  have b1 := sumI_b (g := fallI D p kn n) (lo := -1998) (hi := 1998) (nR D) (fun k hk => (fallI_b hw p kn (n := (n : Int)) (i := (k : Int)) (by omega) (by omega) (by omega) (by omega)).1)
  have b2 := sumI_b (g := dayI D p kn n) (lo := 0) (hi := 363) (nR D) (fun k hk => (fallI_b hw p kn (n := (n : Int)) (i := (k : Int)) (by omega) (by omega) (by omega) (by omega)).2)
  unfold fallN dayN
  omega
set_option maxRecDepth 100000 in
theorem k_slips {M : fM} (hI : Iv M) (a c : Int) : ∃ v M1 M2, s_X11_slips M a c = some (v, M1) ∧ M1 1000 = M 1000 ∧ s_X12_slips M1 a c = some (v, M2) ∧ Iv M2 := by
  obtain ⟨D, hc, hw, hm, hnm, hr, hn0⟩ := hI.2.2.2.1
  by_cases h : (0 ≤ a ∧ a < D 4 13) ∧ (-1 ≤ c ∧ c < 364)
  · -- the class
    generalize hF : fallN D a c = F
    generalize hG : dayN D a c = G
    have bF : ∀ n : Nat, n < 12 → -1000000 ≤ F n ∧ F n ≤ 1000000 := fun n hn => by have := (fallN_b hw a c n hn).1; rw [← hF]; omega
    have bG : ∀ n : Nat, n < 12 → 0 ≤ G n ∧ G n ≤ 1000000 := fun n hn => by have := (fallN_b hw a c n hn).2; rw [← hG]; omega
    obtain ⟨K1, hK1⟩ : ∃ K1, K1 = set2 M 48 (ffill M 48 12 0 48) 49 (ffill M 49 12 0 49) := ⟨_, rfl⟩
    have c1 : s_X1_clearFalls M = some ((), K1) := by rw [hK1]; exact c_clearFalls M
    have z48 : ∀ n : Nat, n < 12 → K1 48 n = 0 := fun n hn => by rw [hK1, set2_a, ffill_at _ _ _ _ hn]
    have z49 : ∀ n : Nat, n < 12 → K1 49 n = 0 := fun n hn => by rw [hK1, set2_b (by decide), ffill_at _ _ _ _ hn]
    have hc1 : CR K1 0 D := fun k x y => by rw [hK1, set2_ne (by omega) (by omega)]; exact hc k x y
    obtain ⟨K2, hK2⟩ : ∃ K2, K2 = set2 K1 48 (addR (K1 48) F 12) 49 (addR (K1 49) G 12) := ⟨_, rfl⟩
    have c2 : s_X1_addPairs K1 a c = some ((), K2) := by
      rw [hK2, ← hF, ← hG]
      exact c_addPairs hc1 hw a c (fun n hn => by rw [z48 n hn, z49 n hn]; omega)
    have e48 : ∀ n : Nat, n < 12 → K2 48 n = F n := fun n hn => by
      rw [hK2, set2_a]; unfold addR; rw [if_pos hn, z48 n hn, Int.zero_add]
    have e49 : ∀ n : Nat, n < 12 → K2 49 n = G n := fun n hn => by
      rw [hK2, set2_b (by decide)]; unfold addR; rw [if_pos hn, z49 n hn, Int.zero_add]
    have s2 : fSame [(48, none), (49, none)] M K2 := by rw [hK2, hK1]; exact fs_set2 (fs_set2 fs_refl (by decide) (by decide)) (by decide) (by decide)
    have c3 := c_most e48 e49 bF bG
    -- the reference on a memory with the same rows
    have mm : ∀ N : fM, MRr N 125 0 D → N 122 10 = D 18 8 → ∃ N2, s_X12_noPairs N = some ((), set2 N 130 (zero12 (N 130)) 131 (zero12 (N 131))) ∧ s_X12_pairs (set2 N 130 (zero12 (N 130)) 131 (zero12 (N 131))) a c 1 = some ((), N2) ∧ (∀ n : Nat, n < 12 → N2 130 n = F n) ∧ (∀ n : Nat, n < 12 → N2 131 n = G n) ∧ fSame [(130, none), (131, none)] N N2 := by
      intro N hrN hnN
      have hz0 : ∀ n : Nat, n < 12 → zero12 (N 130) n = 0 := fun n hn => if_pos hn
      have hz1 : ∀ n : Nat, n < 12 → zero12 (N 131) n = 0 := fun n hn => if_pos hn
      refine ⟨_, m_noPairs N, m_pairs1 (MRr_row (set2_ne (by decide) (by decide)) hrN) (by rw [set2_ne (by decide) (by decide)]; exact hnN) hw a c (fun n hn => by rw [set2_a, set2_b (by decide), hz0 n hn, hz1 n hn]; exact ⟨rfl, rfl⟩), fun n hn => ?_, fun n hn => ?_, fs_set2 (fs_set2 fs_refl (by decide) (by decide)) (by decide) (by decide)⟩
      · rw [set2_a, set2_a]; unfold addR; rw [if_pos hn, hz0 n hn, Int.zero_add, hF]
      · rw [set2_b (by decide), set2_b (by decide)]; unfold addR; rw [if_pos hn, hz1 n hn, Int.zero_add, hG]
    have hb := mostF_b F G 12
    by_cases hx : mostF F G 12 < 0
    · obtain ⟨N2, n1, n2, n3, n4, n5⟩ := mm (fup K2 122 0 0) (MRr_row (by rw [fup_ne (by decide), fs_row s2 125 (by decide)]) hr) (by rw [show fup K2 122 0 0 122 10 = K2 122 10 from rfl, fs_row s2 122 (by decide)]; exact hn0)
      have hmK : MRh (fup K2 122 0 0) 124 0 D := MRh_row (by rw [fup_ne (by decide), fs_row s2 124 (by decide)]) hm
      refine ⟨-1, K2, N2, ?_, fs_row s2 1000 (by decide), ?_, Iv_same n5 (by decide) (Iv_thrown (Iv_same s2 (by decide) hI))⟩
      · unfold s_X11_slips s_X1_mostSlipping
        rw [c_hasPiano, c_isKnowing, CR_r hc 4 (by decide) (by decide), Option.bind_some, bit_if, if_pos h.1, Option.bind_some, bit_ifn, if_pos h.2, c1, Option.bind_some, c2, Option.bind_some, c3, Option.bind_some, if_pos hx, show mostF F G 12 = -1 by omega]
        rfl
      · unfold s_X12_slips
        rw [m_isPiano hmK hw.1, m_isKnown, Option.bind_some, bit_if, if_pos h.1, Option.bind_some, bit_ifn, if_pos h.2, n1, Option.bind_some, n2, Option.bind_some, m_most n3 n4 bF bG, Option.bind_some, if_neg (by omega)]
    · obtain ⟨m, hmm⟩ : ∃ m : Nat, mostF F G 12 = (m : Int) := ⟨(mostF F G 12).toNat, by omega⟩
      have hm12 : m < 12 := by omega
      have hGm : 0 < G m := by rcases hb with e | e; · omega
                               · rw [← hmm]; exact e.2.2
      have q1 := bF m hm12
      have q2 := bG m hm12
      have hg : 0 < Int.gcd (F m) (G m) := Int.gcd_pos_of_ne_zero_right (F m) (by omega)
      have t1 := tdiv_b (x := F m) (y := (Int.gcd (F m) (G m) : Nat)) (by omega)
      have t2 := tdiv_b (x := G m) (y := (Int.gcd (F m) (G m) : Nat)) (by omega)
      generalize hA : Int.tdiv (F m) (Int.gcd (F m) (G m)) = A at t1
      generalize hB : Int.tdiv (G m) (Int.gcd (F m) (G m)) = B at t2
      obtain ⟨K3, hK3⟩ : ∃ K3, K3 = fup (fup (fup (fup K2 47 9 A) 47 10 B) 47 7 A) 47 8 B := ⟨_, rfl⟩
      have s3 : fSame [(48, none), (49, none), (47, some 9), (47, some 10), (47, some 7), (47, some 8)] M K3 := by
        rw [hK3]
        exact fs_up (fs_up (fs_up (fs_up (fs_mono (by decide) s2) (.inr (by decide))) (.inr (by decide))) (.inr (by decide))) (.inr (by decide))
      obtain ⟨N2, n1, n2, n3, n4, n5⟩ := mm (fup K3 122 0 0) (MRr_row (by rw [fup_ne (by decide), fs_row s3 125 (by decide)]) hr) (by rw [show fup K3 122 0 0 122 10 = K3 122 10 from rfl, fs_row s3 122 (by decide)]; exact hn0)
      have hmK : MRh (fup K3 122 0 0) 124 0 D := MRh_row (by rw [fup_ne (by decide), fs_row s3 124 (by decide)]) hm
      have s4 : fSame [(48, none), (49, none), (47, some 9), (47, some 10), (47, some 7), (47, some 8), (122, some 0), (130, none), (131, none), (122, some 31), (122, some 32)] M (fup (fup N2 122 31 A) 122 32 B) :=
        fs_up (fs_up (fs_trans (fs_up (fs_mono (l := [(48, none), (49, none), (47, some 9), (47, some 10), (47, some 7), (47, some 8)]) (by decide) s3) (.inr (by decide)) : fSame _ M (fup K3 122 0 0)) (fs_mono (by decide) n5)) (.inr (by decide))) (.inr (by decide))
      refine ⟨(m : Int), K3, fup (fup N2 122 31 A) 122 32 B, ?_, fs_row s3 1000 (by decide), ?_, ?_⟩
      · unfold s_X11_slips s_X1_mostSlipping
        rw [c_hasPiano, c_isKnowing, CR_r hc 4 (by decide) (by decide), Option.bind_some, bit_if, if_pos h.1, Option.bind_some, bit_ifn, if_pos h.2, c1, Option.bind_some, c2, Option.bind_some, c3, Option.bind_some, if_neg hx, hmm, if_pos (by omega)]
        show ((s_X1_keepLeast K2 (K2 48 (m : Int).toNat) (K2 49 (m : Int).toNat)).bind (fun y74 => if fin (y74.2 47 9) ∧ fin (y74.2 47 10) then some ((m : Int), fup (fup y74.2 47 7 (y74.2 47 9)) 47 8 (y74.2 47 10)) else none)).bind (fun y27 => some (y27.1, y27.2)) = _
        rw [Int.toNat_natCast, e48 m hm12, e49 m hm12, c_keepLeast K2 (by omega) (by omega) (by omega) (by omega), Option.bind_some, hA, hB]
        show (if fin A ∧ fin B then some ((m : Int), fup (fup (fup (fup K2 47 9 A) 47 10 B) 47 7 A) 47 8 B) else none).bind (fun y27 => some (y27.1, y27.2)) = _
        rw [if_pos (by unfold fin; omega), hK3]
        rfl
      · unfold s_X12_slips
        rw [m_isPiano hmK hw.1, m_isKnown, Option.bind_some, bit_if, if_pos h.1, Option.bind_some, bit_ifn, if_pos h.2, n1, Option.bind_some, n2, Option.bind_some, m_most n3 n4 bF bG, Option.bind_some, if_pos (by omega), hmm, if_pos (by omega)]
        show (s_X12_common N2 (N2 130 (m : Int).toNat) (N2 131 (m : Int).toNat)).bind (fun y121 => if (0 ≤ (m : Int) ∧ (m : Int) < 12) ∧ y121 ≠ 0 ∧ fin (fldv (N2 130 (m : Int).toNat) y121) ∧ fin (fldv (N2 131 (m : Int).toNat) y121) then some ((m : Int), fup (fup N2 122 31 (fldv (N2 130 (m : Int).toNat) y121)) 122 32 (fldv (N2 131 (m : Int).toNat) y121)) else none) = _
        rw [Int.toNat_natCast, n3 m hm12, n4 m hm12, m_common N2 (by omega) (by omega) (by omega) (by omega), Option.bind_some, fldv_eq (by omega) (by omega) (by omega), fldv_eq (by omega) (by omega) (by omega), hA, hB, if_pos (by unfold fin; omega)]
      · refine Iv_ou s4 (by decide) (fun ho => Ou_slip s4 (by decide) ?_ ho) hI
        have r1 : N2 47 = K3 47 := by rw [fs_row n5 47 (by decide), fup_ne (by decide)]
        have r2 : ∀ X Y : Int, fup (fup N2 122 31 X) 122 32 Y 122 31 = X := fun _ _ => rfl
        have r3 : ∀ X Y : Int, fup (fup N2 122 31 X) 122 32 Y 122 32 = Y := fun _ _ => rfl
        rw [r2, r3, fup_ne (by decide), fup_ne (by decide), r1, hK3]
        exact ⟨rfl, rfl⟩
  · have hm' : MRh (fup M 122 0 0) 124 0 D := MRh_row (fup_ne (by decide)) hm
    refine ⟨-2, M, fup M 122 0 0, ?_, rfl, ?_, Iv_thrown hI⟩
    · unfold s_X11_slips
      rw [c_hasPiano, c_isKnowing, CR_r hc 4 (by decide) (by decide), Option.bind_some, bit_if]
      by_cases x1 : 0 ≤ a ∧ a < D 4 13
      · rw [if_pos x1, Option.bind_some, bit_ifn, if_neg (fun y => h ⟨x1, y⟩)]
      · rw [if_neg x1]
    · unfold s_X12_slips
      rw [m_isPiano hm' hw.1, m_isKnown, Option.bind_some, bit_if]
      by_cases x1 : 0 ≤ a ∧ a < D 4 13
      · rw [if_pos x1, Option.bind_some, bit_ifn, if_neg (fun y => h ⟨x1, y⟩)]
      · rw [if_neg x1]
/-! stove -/
abbrev stvP (D : fM) (w p : Int) : Prop := D 10 (p * 10 + 7).toNat = w
def stvF (D : fM) (w kn : Int) (f : Int → Int) : Nat → Int
  | 0 => 0
  | p + 1 => stvF D w kn f p + (if stvP D w p then f p else 0)
abbrev nP (D : fM) : Nat := (D 4 13).toNat
theorem nP_c {D : fM} (h : WFn D) : ((nP D : Nat) : Int) = D 4 13 ∧ nP D ≤ 16 := by
  have := h.1
  unfold nP
  omega
theorem stvF_b {D : fM} {w kn : Int} {f : Int → Int} {lo hi : Int} (h0 : lo ≤ 0) (h1 : 0 ≤ hi) (hf : ∀ p, lo ≤ f p ∧ f p ≤ hi) : ∀ n : Nat, n ≤ 16 → lo * 16 ≤ stvF D w kn f n ∧ stvF D w kn f n ≤ hi * 16 := by
  have key : ∀ n : Nat, lo * (n : Int) ≤ stvF D w kn f n ∧ stvF D w kn f n ≤ hi * (n : Int) := by
    intro n
    induction n with
    | zero => show lo * ((0 : Nat) : Int) ≤ 0 ∧ 0 ≤ hi * ((0 : Nat) : Int); simp
    | succ n ih =>
      show lo * ((n + 1 : Nat) : Int) ≤ stvF D w kn f n + (if stvP D w n then f n else 0) ∧ stvF D w kn f n + (if stvP D w n then f n else 0) ≤ hi * ((n + 1 : Nat) : Int)
      have e1 : lo * ((n + 1 : Nat) : Int) = lo * n + lo := by rw [Int.natCast_add, Int.mul_add]; simp
      have e2 : hi * ((n + 1 : Nat) : Int) = hi * n + hi := by rw [Int.natCast_add, Int.mul_add]; simp
      have := hf n
      split <;> omega
  intro n hn
  have k := key n
  have a1 : lo * 16 ≤ lo * (n : Int) := Int.mul_le_mul_of_nonpos_left h0 (by omega)
  have a2 : hi * (n : Int) ≤ hi * 16 := Int.mul_le_mul_of_nonneg_left (by omega) h1
  omega
theorem stvF_sum (D : fM) (w kn : Int) (g : Int → Int → Int) (m : Nat) : ∀ n : Nat, sumI (fun k => stvF D w kn (g k) n) m = stvF D w kn (fun p => sumI (fun k => g k p) m) n
  | 0 => by
    show sumI (fun _ => 0) m = 0
    induction m with
    | zero => rfl
    | succ m ih => rw [sumI_s, ih]; rfl
  | n + 1 => by
    show sumI (fun k => stvF D w kn (g k) n + (if stvP D w n then g k n else 0)) m = stvF D w kn (fun p => sumI (fun k => g k p) m) n + (if stvP D w n then sumI (fun k => g k n) m else 0)
    rw [sumI_add, stvF_sum D w kn g m n]
    congr 1
    split
    · rfl
    · induction m with
      | zero => rfl
      | succ m ih => rw [sumI_s, ih]; rfl
theorem c_sumFalls {M D : fM} (hc : CR M 0 D) (hw : WF D) (w kn : Int) : ∃ K, s_X1_sumFallsOf M w kn = some ((), K) ∧ (∀ n : Nat, n < 12 → K 48 n = stvF D w kn (fun p => fallN D p kn n) (nP D)) ∧ (∀ n : Nat, n < 12 → K 49 n = stvF D w kn (fun p => dayN D p kn n) (nP D)) ∧ fSame [(48, none), (49, none)] M K := by
  obtain ⟨hp1, hp2⟩ := nP_c hw.1
  obtain ⟨K1, hK1⟩ : ∃ K1, K1 = set2 M 48 (ffill M 48 12 0 48) 49 (ffill M 49 12 0 49) := ⟨_, rfl⟩
  have c1 : s_X1_clearFalls M = some ((), K1) := by rw [hK1]; exact c_clearFalls M
  have z48 : ∀ n : Nat, n < 12 → K1 48 n = 0 := fun n hn => by rw [hK1, set2_a, ffill_at _ _ _ _ hn]
  have z49 : ∀ n : Nat, n < 12 → K1 49 n = 0 := fun n hn => by rw [hK1, set2_b (by decide), ffill_at _ _ _ _ hn]
  have hc1 : CR K1 0 D := fun k x y => by rw [hK1, set2_ne (by omega) (by omega)]; exact hc k x y
  have s1 : fSame [(48, none), (49, none)] M K1 := by rw [hK1]; exact fs_set2 fs_refl (by decide) (by decide)
  have key := fLp_for (b := fun s : Int × fM => s_X1_sumFallsOf_b6 s.2 w kn s.1) (fun p => ((p : Int), set2 K1 48 (addR (K1 48) (fun n => stvF D w kn (fun q => fallN D q kn n) p) 12) 49 (addR (K1 49) (fun n => stvF D w kn (fun q => dayN D q kn n) p) 12))) (nP D) (e := set2 K1 48 (addR (K1 48) (fun n => stvF D w kn (fun q => fallN D q kn n) (nP D)) 12) 49 (addR (K1 49) (fun n => stvF D w kn (fun q => dayN D q kn n) (nP D)) 12)) (fun p hp => ?_) ?_
  · rw [addR_no (fun _ _ => rfl), addR_no (fun _ _ => rfl), set2_id] at key
    refine ⟨set2 K1 48 (addR (K1 48) (fun n => stvF D w kn (fun q => fallN D q kn n) (nP D)) 12) 49 (addR (K1 49) (fun n => stvF D w kn (fun q => dayN D q kn n) (nP D)) 12), ?_, fun n hn => ?_, fun n hn => ?_, fs_set2 s1 (by decide) (by decide)⟩
    · unfold s_X1_sumFallsOf s_X1_sumFallsOf_l6
      rw [c1, Option.bind_some]
      show (fLp (fun s : Int × fM => s_X1_sumFallsOf_b6 s.2 w kn s.1) (0, K1)).bind _ = _
      rw [show ((0 : Int), K1) = (((0 : Nat) : Int), K1) from rfl, key]
      rfl
    · rw [set2_a]; unfold addR; rw [if_pos hn, z48 n hn, Int.zero_add]
    · rw [set2_b (by decide)]; unfold addR; rw [if_pos hn, z49 n hn, Int.zero_add]
  · generalize hK : set2 K1 48 (addR (K1 48) (fun n => stvF D w kn (fun q => fallN D q kn n) p) 12) 49 (addR (K1 49) (fun n => stvF D w kn (fun q => dayN D q kn n) p) 12) = K
    have hcK : CR K 0 D := fun k x y => by rw [← hK, set2_ne (by omega) (by omega)]; exact hc1 k x y
    have e48 : K 48 = addR (K1 48) (fun n => stvF D w kn (fun q => fallN D q kn n) p) 12 := by rw [← hK, set2_a]
    have e49 : K 49 = addR (K1 49) (fun n => stvF D w kn (fun q => dayN D q kn n) p) 12 := by rw [← hK, set2_b (by decide)]
    have bK : ∀ n : Nat, n < 12 → -100000000 ≤ K 48 n ∧ K 48 n ≤ 100000000 ∧ -100000000 ≤ K 49 n ∧ K 49 n ≤ 100000000 := by
      intro n hn
      have b1 := stvF_b (D := D) (w := w) (kn := kn) (f := fun q => fallN D q kn n) (lo := -400000) (hi := 400000) (by omega) (by omega) (fun q => (fallN_b hw q kn n hn).1) p (by omega)
      have b2 := stvF_b (D := D) (w := w) (kn := kn) (f := fun q => dayN D q kn n) (lo := 0) (hi := 100000) (by omega) (by omega) (fun q => (fallN_b hw q kn n hn).2) p (by omega)
      rw [e48, e49]
      unfold addR
      rw [if_pos hn, if_pos hn, z48 n hn, z49 n hn]
      show -100000000 ≤ 0 + stvF D w kn (fun q => fallN D q kn n) p ∧ 0 + stvF D w kn (fun q => fallN D q kn n) p ≤ 100000000 ∧ -100000000 ≤ 0 + stvF D w kn (fun q => dayN D q kn n) p ∧ 0 + stvF D w kn (fun q => dayN D q kn n) p ≤ 100000000
      omega
    show s_X1_sumFallsOf_b6 K w kn (p : Int) = some (Sum.inl ((p : Int) + 1, set2 K1 48 (addR (K1 48) (fun n => stvF D w kn (fun q => fallN D q kn n) (p + 1)) 12) 49 (addR (K1 49) (fun n => stvF D w kn (fun q => dayN D q kn n) (p + 1)) 12)))
    have a1 : ∀ f : Int → Int → Int, addR (K1 48) (fun n => stvF D w kn (fun q => f q n) (p + 1)) 12 = addR (addR (K1 48) (fun n => stvF D w kn (fun q => f q n) p) 12) (fun n => if stvP D w p then f p n else 0) 12 := fun f => (addR_add _ _ _ _).symm
    have a2 : ∀ f : Int → Int → Int, addR (K1 49) (fun n => stvF D w kn (fun q => f q n) (p + 1)) 12 = addR (addR (K1 49) (fun n => stvF D w kn (fun q => f q n) p) 12) (fun n => if stvP D w p then f p n else 0) 12 := fun f => (addR_add _ _ _ _).symm
    rw [a1 (fun q n => fallN D q kn n), a2 (fun q n => dayN D q kn n), ← e48, ← e49]
    unfold s_X1_sumFallsOf_b6
    rw [CR_r hcK 4 (by decide) (by decide), if_neg (by omega), c_fact hcK hw.1 (by omega) (by omega) (by decide) (by decide), Option.bind_some]
    by_cases x : stvP D w p
    · rw [if_neg (fun e => e x), c_addPairs hcK hw p kn bK, Option.bind_some, if_pos (by unfold fin; omega)]
      simp only [if_pos x]
      congr 3
      funext k
      rw [← hK]
      unfold set2
      split
      · rfl
      · split <;> rfl
    · rw [if_pos x, if_pos (by unfold fin; omega)]
      simp only [if_neg x]
      rw [addR_no (fun _ _ => rfl), addR_no (fun _ _ => rfl)]
      congr 3
      rw [← hK]
      funext k
      unfold set2
      split
      · subst_vars; rfl
      · split
        · subst_vars; rfl
        · rfl
  · generalize hK : set2 K1 48 (addR (K1 48) (fun n => stvF D w kn (fun q => fallN D q kn n) (nP D)) 12) 49 (addR (K1 49) (fun n => stvF D w kn (fun q => dayN D q kn n) (nP D)) 12) = K
    have hcK : CR K 0 D := fun k x y => by rw [← hK, set2_ne (by omega) (by omega)]; exact hc1 k x y
    show s_X1_sumFallsOf_b6 K w kn ((nP D : Nat) : Int) = _
    unfold s_X1_sumFallsOf_b6
    rw [CR_r hcK 4 (by decide) (by decide), if_pos (by omega)]
