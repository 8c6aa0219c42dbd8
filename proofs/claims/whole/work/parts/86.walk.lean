/-! ===== walked ===== -/
theorem Iv_mk {l : List (Nat × Option Nat)} {M N : fM} (hI : Iv M) (f : fSame l M N) (hn : fNo l [1000, 1001, 1002, 1003, 3, 127, 124, 125, 126, 75, 150, 151, 152, 153, 154] [(122, 10)]) (hr : ∀ x ∈ l, ¬ (4 ≤ x.1 ∧ x.1 ≤ 26) ∧ ¬ (76 ≤ x.1 ∧ x.1 ≤ 98) ∧ ¬ (99 ≤ x.1 ∧ x.1 ≤ 121)) (hT : Tp N) (hO : Ou N) : Iv N := by
  obtain ⟨a1, a2, a3, ⟨D, a4⟩, ⟨D0, a5⟩, ⟨D1, a6⟩⟩ := hI
  exact ⟨St_same f (fno_sub hn (by decide) (by decide)) a1, hT, hO, ⟨D, Cu_same f (fno_sub hn (by decide) (by decide)) (fun x hx => (hr x hx).1) a4⟩, ⟨D0, Kp_same f (fno_sub hn (by decide) (by decide)) (fun x hx e => (hr x hx).2.1 (by omega)) a5⟩, ⟨D1, Kp_same f (fno_sub hn (by decide) (by decide)) (fun x hx e => (hr x hx).2.2 (by omega)) a6⟩⟩
theorem Tp_taken {l : List (Nat × Option Nat)} {M N : fM} (f : fSame l M N) (hn : fNo l [2, 123] []) (h1 : N 1 2 = 0) (h2 : N 122 2 = 0) (H : Tp M) : Tp N := by
  obtain ⟨b1, b2, b3, b4⟩ := H
  refine ⟨by rw [h1, h2], by rw [h1]; decide, ?_, ?_⟩
  · rw [fno_row f hn 2 (by decide), fno_row f hn 123 (by decide)]; exact b3
  · rw [fno_row f hn 2 (by decide)]; exact b4
def homeX (D : fM) (t : Int) : Int := D 13 (t * 3).toNat
def homeY (D : fM) (t : Int) : Int := D 13 (t * 3 + 1).toNat
def Sc.to (D : fM) (d : Int) (r : Nat → Int) (n : Nat) (t : Int) : Sc := Sc.of D d r n (homeX D t) (homeY D t)
theorem home_bd {D : fM} (hw : WF D) {t : Int} (h1 : 0 ≤ t) (h2 : t < D 4 14) : (0 ≤ homeX D t ∧ homeX D t ≤ 99) ∧ 0 ≤ homeY D t ∧ homeY D t ≤ 99 := by
  obtain ⟨a, b, -⟩ := hw.2.2.2.2.2.2.2.1 t h1 h2
  exact ⟨a, b⟩
theorem to_ok {D : fM} (hw : WF D) {d : Int} (hd : 0 ≤ d ∧ d < 364) {r : Nat → Int} {n : Nat} (hn : n ≤ 9) (hr : ∀ i, i < n → 0 ≤ r i ∧ r i < D 4 13) {t : Int} (h1 : 0 ≤ t) (h2 : t < D 4 14) : (Sc.to D d r n t).ok :=
  ⟨hw, hn, hr, hd, (home_bd hw h1 h2).1, (home_bd hw h1 h2).2⟩
theorem c_home {K D : fM} (hc : CR K 0 D) (hw : WF D) {d : Int} {r : Nat → Int} {n : Nat} (hn : n ≤ 9) (hp : PlC K D d r n) {t : Int} (h1 : 0 ≤ t) (h2 : t < D 4 14) : ∃ K', s_X7_liveWith K t = some ((), K') ∧ SC K' (Sc.to D d r n t) ∧ (∀ a, a ≠ 56 → a ≠ 57 → K' a = K a) := by
  have h6 := hw.1.2.1
  refine ⟨fup (fup K 56 9 (homeX D t)) 57 9 (homeY D t), ?_, ⟨?_, ⟨fun i hi => ?_, ?_, ?_⟩, ?_, ?_⟩, ?_⟩
  · unfold s_X7_liveWith s_X2_tunerX_4
    rw [if_pos (by unfold fin; omega), Option.bind_some, CR_r hc 13 (by decide) (by decide)]
    unfold s_X2_tunerY_4
    rw [if_pos (by unfold fin; omega), Option.bind_some, fup_ne (by decide), CR_r hc 13 (by decide) (by decide)]
    rfl
  · intro k h1 h2
    show fup (fup K 56 9 _) 57 9 _ k = _
    rw [fup_ne (by omega), fup_ne (by omega)]
    exact hc k h1 h2
  · obtain ⟨q1, q2, q3, q4⟩ := hp.1 i hi
    have hi9 : i < 9 := Nat.lt_of_lt_of_le hi hn
    refine ⟨?_, ?_, ?_, ?_⟩
    · rw [fup_ne (by decide), fup_eq, upd1_ne (by omega)]; exact q1
    · rw [fup_eq, upd1_ne (by omega), fup_ne (by decide)]; exact q2
    · rw [fup_ne (by decide), fup_ne (by decide)]; exact q3
    · rw [fup_ne (by decide), fup_ne (by decide)]; exact q4
  · rw [fup_ne (by decide), fup_ne (by decide)]; exact hp.2.1
  · rw [fup_ne (by decide), fup_ne (by decide)]; exact hp.2.2
  · rw [fup_ne (by decide), fup_eq, upd1_at]; rfl
  · rw [fup_eq, upd1_at]; rfl
  · intro a h1 h2
    rw [fup_ne h2, fup_ne h1]
theorem m_home {N D : fM} (hm : MRh N 124 0 D) (hw : WF D) {d : Int} {r : Nat → Int} {n : Nat} (hp : PlM N D d r n) {t : Int} (h1 : 0 ≤ t) (h2 : t < D 4 14) : ∃ N', s_X12_live N t = some ((), N') ∧ SM N' (Sc.to D d r n t) ∧ N' = fup (fup N 122 40 (homeX D t)) 122 41 (homeY D t) := by
  have h6 := hw.1.2.1
  refine ⟨fup (fup N 122 40 (homeX D t)) 122 41 (homeY D t), ?_, ⟨?_, ⟨fun i hi => ?_, ?_⟩, ?_, ?_⟩, rfl⟩
  · unfold s_X12_live
    rw [if_pos (by unfold fin; omega), if_pos (by omega), mh_tuner hm t 0 (by omega) h1 h2 (by decide) (by decide), mh_tuner hm t 1 (by omega) h1 h2 (by decide) (by decide), Int.add_zero]
    rfl
  · exact MRh_row (by rw [fup_ne (by decide), fup_ne (by decide)]) hm
  · obtain ⟨q1, q2, q3, q4, q5⟩ := hp.1 i hi
    refine ⟨?_, ?_, ?_, ?_, ?_⟩
    · rw [fup_ne (by decide), fup_ne (by decide)]; exact q1
    · rw [fup_ne (by decide), fup_ne (by decide)]; exact q2
    · rw [fup_ne (by decide), fup_ne (by decide)]; exact q3
    · rw [fup_ne (by decide), fup_ne (by decide)]; exact q4
    · rw [fup_ne (by decide), fup_ne (by decide)]; exact q5
  · show fup (fup N 122 40 _) 122 41 _ 122 39 = _
    exact hp.2
  · rfl
  · rfl
def pv : Nat → Nat
  | 0 => 9
  | i + 1 => i
def tt (S : Sc) : Nat → Int
  | 0 => S.D 8 4
  | i + 1 => dn S i (tt S i + wy S (pv i) i)
theorem pv_at {S : Sc} {i : Nat} (hi : i ≤ S.n) : S.at (pv i) := by
  cases i with
  | zero => exact .inr rfl
  | succ i => exact .inl hi
theorem tt_bd {S : Sc} (hS : S.ok) : ∀ i, i ≤ S.n → (∀ j, j < i → tt S (j + 1) ≠ 1000000) → 0 ≤ tt S i ∧ tt S i ≤ 1440
  | 0, _, _ => by
    have := hS.1.2.2.2.1.2.2.2.2
    show 0 ≤ S.D 8 4 ∧ S.D 8 4 ≤ 1440
    omega
  | i + 1, hi, h => by
    have ih := tt_bd hS i (by omega) (fun j hj => h j (by omega))
    have hb := wy_bd hS (pv_at (i := i) (by omega)) (.inl (by omega : i < S.n))
    have hne := h i (by omega)
    have : dn S i (tt S i + wy S (pv i) i) = 1000000 ∨ _ := dn_bd hS (by omega) (by omega)
    rcases this with e | e
    · exact absurd e hne
    · show 0 ≤ dn S i (tt S i + wy S (pv i) i) ∧ dn S i (tt S i + wy S (pv i) i) ≤ 1440
      omega
theorem c_walk {K : fM} {S : Sc} (hS : S.ok) (hK : SC K S) : ((∀ j, j < S.n → tt S (j + 1) ≠ 1000000) → s_X7_walkAsTold_l29 K (S.n : Int) (S.D 8 4, 9, 0) = some (.inl (tt S S.n, ((pv S.n : Nat) : Int)))) ∧ ∀ i0, i0 < S.n → tt S (i0 + 1) = 1000000 → (∀ j, j < i0 → tt S (j + 1) ≠ 1000000) → s_X7_walkAsTold_l29 K (S.n : Int) (S.D 8 4, 9, 0) = some (.inr (-2 - (i0 : Int), K)) := by
  have hn := hS.2.1
  have step : ∀ i, i < S.n → (∀ j, j < i → tt S (j + 1) ≠ 1000000) → s_X7_walkAsTold_b29 K (S.n : Int) (tt S i) ((pv i : Nat) : Int) (i : Int) = if ¬ tt S (i + 1) = 1000000 then some (.inl (tt S (i + 1), (i : Int), (i : Int) + 1)) else some (.inr (.inr (-2 - (i : Int), K))) := by
    intro i hi h
    have hb := tt_bd hS i (by omega) h
    have hwb := wy_bd hS (pv_at (i := i) (by omega)) (.inl hi)
    unfold s_X7_walkAsTold_b29
    rw [if_neg (by omega), c_minutes hS hK (pv_at (by omega)) (.inl hi), Option.bind_some, if_pos (by unfold fin; omega), c_doneAt hS hK hi (by omega) (by omega), Option.bind_some, if_pos (show fin ((i : Int) + 1) by unfold fin; omega), if_pos (show fin (-2 - (i : Int)) by unfold fin; omega)]
    rfl
  unfold s_X7_walkAsTold_l29
  constructor
  · intro h
    have := fLp_for (b := fun s : Int × Int × Int => s_X7_walkAsTold_b29 K (S.n : Int) s.1 s.2.1 s.2.2) (fun i => (tt S i, ((pv i : Nat) : Int), (i : Int))) S.n (e := .inl (tt S S.n, ((pv S.n : Nat) : Int))) (fun i hi => ?_) ?_
    · exact this
    · show s_X7_walkAsTold_b29 K (S.n : Int) (tt S i) ((pv i : Nat) : Int) (i : Int) = some (.inl (tt S (i + 1), ((pv (i + 1) : Nat) : Int), ((i + 1 : Nat) : Int)))
      rw [step i hi (fun j hj => h j (by omega)), if_pos (h i hi)]
      rfl
    · show s_X7_walkAsTold_b29 K (S.n : Int) (tt S S.n) ((pv S.n : Nat) : Int) (S.n : Int) = _
      unfold s_X7_walkAsTold_b29
      rw [if_pos (Int.le_refl _)]
  · intro i0 h1 h2 h3
    have := fLp_for (b := fun s : Int × Int × Int => s_X7_walkAsTold_b29 K (S.n : Int) s.1 s.2.1 s.2.2) (fun i => (tt S i, ((pv i : Nat) : Int), (i : Int))) i0 (e := .inr (-2 - (i0 : Int), K)) (fun i hi => ?_) ?_
    · exact this
    · show s_X7_walkAsTold_b29 K (S.n : Int) (tt S i) ((pv i : Nat) : Int) (i : Int) = some (.inl (tt S (i + 1), ((pv (i + 1) : Nat) : Int), ((i + 1 : Nat) : Int)))
      rw [step i (by omega) (fun j hj => h3 j (by omega)), if_pos (h3 i hi)]
      rfl
    · show s_X7_walkAsTold_b29 K (S.n : Int) (tt S i0) ((pv i0 : Nat) : Int) (i0 : Int) = _
      rw [step i0 h1 h3, if_neg (fun e => e h2)]
theorem m_walk {N : fM} {S : Sc} (hS : S.ok) (hN : SM N S) : ((∀ j, j < S.n → tt S (j + 1) ≠ 1000000) → s_X12_walked_l48 N (S.D 8 4, 0) = some (.inl (tt S S.n))) ∧ ∀ i0, i0 < S.n → tt S (i0 + 1) = 1000000 → (∀ j, j < i0 → tt S (j + 1) ≠ 1000000) → s_X12_walked_l48 N (S.D 8 4, 0) = some (.inr (-2 - (i0 : Int), N)) := by
  have hn := hS.2.1
  have h39 : N 122 39 = (S.n : Int) := hN.2.1.2
  have step : ∀ i, i < S.n → (∀ j, j < i → tt S (j + 1) ≠ 1000000) → s_X12_walked_b48 N (tt S i) (i : Int) = if tt S (i + 1) < 1000000 then some (.inl (tt S (i + 1), (i : Int) + 1)) else some (.inr (.inr (-2 - (i : Int), N))) := by
    intro i hi h
    have hb := tt_bd hS i (by omega) h
    have hix : (i : Int) - 1 = ix (pv i) := by
      cases i with
      | zero => rfl
      | succ i =>
        show ((i + 1 : Nat) : Int) - 1 = ix i
        unfold ix
        rw [if_pos (by omega)]
        omega
    unfold s_X12_walked_b48
    rw [h39, if_neg (by omega), if_pos (by unfold fin; omega), hix, m_done hS hN hi (pv_at (by omega)) (by omega) (by omega), Option.bind_some, if_pos (show fin ((i : Int) + 1) by unfold fin; omega), if_pos (show fin (-2 - (i : Int)) by unfold fin; omega)]
    rfl
  have small : ∀ i, i < S.n → (∀ j, j < i + 1 → tt S (j + 1) ≠ 1000000) → tt S (i + 1) < 1000000 := fun i hi h => by
    have := tt_bd hS (i + 1) (by omega) h
    omega
  unfold s_X12_walked_l48
  constructor
  · intro h
    have := fLp_for (b := fun s : Int × Int => s_X12_walked_b48 N s.1 s.2) (fun i => (tt S i, (i : Int))) S.n (e := .inl (tt S S.n)) (fun i hi => ?_) ?_
    · exact this
    · show s_X12_walked_b48 N (tt S i) (i : Int) = some (.inl (tt S (i + 1), ((i + 1 : Nat) : Int)))
      rw [step i hi (fun j hj => h j (by omega)), if_pos (small i hi (fun j hj => h j (by omega)))]
      rfl
    · show s_X12_walked_b48 N (tt S S.n) (S.n : Int) = _
      unfold s_X12_walked_b48
      rw [h39, if_pos (Int.le_refl _)]
  · intro i0 h1 h2 h3
    have := fLp_for (b := fun s : Int × Int => s_X12_walked_b48 N s.1 s.2) (fun i => (tt S i, (i : Int))) i0 (e := .inr (-2 - (i0 : Int), N)) (fun i hi => ?_) ?_
    · exact this
    · show s_X12_walked_b48 N (tt S i) (i : Int) = some (.inl (tt S (i + 1), ((i + 1 : Nat) : Int)))
      rw [step i (by omega) (fun j hj => h3 j (by omega)), if_pos (small i (by omega) (fun j hj => h3 j (by omega)))]
      rfl
    · show s_X12_walked_b48 N (tt S i0) (i0 : Int) = _
      rw [step i0 h1 h3, if_neg (by omega)]
/-- the tape as the reference takes it -/
theorem m_taken (N : fM) (x : Int) : ∃ K, s_X12_taken N x = some ((), K) ∧ K 122 3 = N 122 2 ∧ K 122 2 = 0 ∧ fSame s_X12_taken_mods N K :=
  ⟨_, rfl, rfl, rfl, s_X12_taken_fr (r := ((), _)) rfl⟩
theorem k_walked {M : fM} (hI : Iv M) (t d : Int) : ∃ v M1 M2, s_X11_walked M t d = some (v, M1) ∧ M1 1000 = M 1000 ∧ s_X12_walked M1 t d = some (v, M2) ∧ Iv M2 := by
  have hI0 := hI
  obtain ⟨q1, q2, q3, ⟨D, hc, hw, hm, hnm, hr, hn0⟩, -, -⟩ := hI
  obtain ⟨n, hn⟩ : ∃ n : Nat, M 1 2 = (n : Int) := ⟨(M 1 2).toNat, by have := q2.2.1; omega⟩
  have r4 : M 4 = D 4 := CR_r hc 4 (by decide) (by decide)
  have hP := hw.1.1
  -- what is to be shown, once class and reference have answered
  have fin1 : ∀ (v : Int) (M1 M2 : fM), s_X11_walked M t d = some (v, M1) → M1 1 2 = 0 → s_X12_walked M1 t d = some (v, M2) → M2 122 2 = 0 → ∃ v M1 M2, s_X11_walked M t d = some (v, M1) ∧ M1 1000 = M 1000 ∧ s_X12_walked M1 t d = some (v, M2) ∧ Iv M2 := by
    intro v M1 M2 h1 h2 h3 h4
    have f1 : fSame s_X11_walked_mods M M1 := s_X11_walked_fr h1
    have f2 : fSame s_X12_walked_mods M1 M2 := s_X12_walked_fr h3
    have fAll : fSame (s_X11_walked_mods ++ s_X12_walked_mods) M M2 := fs_trans (fs_mono (fun x hx => List.mem_append_left _ hx) f1) (fs_mono (fun x hx => List.mem_append_right _ hx) f2)
    exact ⟨v, M1, M2, h1, fs_row f1 1000 (by decide), h3, Iv_mk hI0 fAll (by decide) (by decide) (Tp_taken fAll (by decide) (by rw [fs_row f2 1 (by decide), h2]) h4 q2) (Ou_same fAll (by decide) q3)⟩
  have hmv := c_move55 q2 hn (P := D 4 13) (by omega)
  obtain ⟨K, hmv⟩ := hmv
  have same : ∀ (Q : fM), (∀ a, a ≠ 55 → a ≠ 54 → a ≠ 56 → a ≠ 57 → a ≠ 58 → a ≠ 59 → Q a = fup M 1 2 0 a) → ∃ N, s_X12_taken (fup Q 122 0 0) 1240 = some ((), N) ∧ N 122 3 = n ∧ N 122 2 = 0 ∧ MRh N 124 0 D ∧ MRr N 125 0 D ∧ N 122 10 = D 18 8 ∧ (∀ i, bys N i = oct M i) := by
    intro Q hQ
    obtain ⟨N, n1, n2, n3, n4⟩ := m_taken (fup Q 122 0 0) 1240
    have row : ∀ a, a ≠ 122 → N a = Q a := fun a ha => by rw [fs_row n4 a (fun x hx e => by have := (by decide : ∀ x ∈ s_X12_taken_mods, x.1 = 122) x hx; omega), fup_ne ha]
    refine ⟨N, n1, ?_, n3, ?_, ?_, ?_, ?_⟩
    · rw [n2]
      show Q 122 2 = _
      rw [hQ 122 (by decide) (by decide) (by decide) (by decide) (by decide) (by decide), fup_ne (by decide), q2.1, hn]
    · exact MRh_row (by rw [row 124 (by decide), hQ 124 (by decide) (by decide) (by decide) (by decide) (by decide) (by decide), fup_ne (by decide)]) hm
    · exact MRr_row (by rw [row 125 (by decide), hQ 125 (by decide) (by decide) (by decide) (by decide) (by decide) (by decide), fup_ne (by decide)]) hr
    · rw [fs_at n4 122 10 (by decide)]
      show Q 122 10 = _
      rw [hQ 122 (by decide) (by decide) (by decide) (by decide) (by decide) (by decide), fup_ne (by decide), hn0]
    · intro i
      unfold bys oct
      rw [row 123 (by decide), hQ 123 (by decide) (by decide) (by decide) (by decide) (by decide) (by decide), fup_ne (by decide), q2.2.2.1]
  by_cases hgood : ((n ≤ 9 ∧ okAll (D 4 13) (oct M) n) ∧ (0 ≤ d ∧ d < 364)) ∧ (0 ≤ t ∧ t < D 4 14)
  · obtain ⟨⟨⟨hn9, hall⟩, hd⟩, ht⟩ := hgood
    rcases hmv with ⟨a1, -, -, a4, a5⟩ | ⟨-, a2, -⟩
    · have hcK : CR K 0 D := fun k h1 h2 => by
        show K k = _
        rw [a5 k (by omega), fup_ne (by omega)]
        exact hc k h1 h2
      have hrr : ∀ i, i < n → 0 ≤ oct M i ∧ oct M i < D 4 13 := fun i hi => ⟨(oct_b q2 i).1, (hall i hi).1⟩
      obtain ⟨K1, b1, b2⟩ := c_place hcK hw hn9 (r := oct M) (fun i hi => ⟨a4 i hi, hrr i hi⟩) hd.1 hd.2
      have fb : fSame s_X7_place_mods K K1 := s_X7_place_fr b1
      have hcK1 : CR K1 0 D := CR_same fb (by decide) hcK
      obtain ⟨K2, l1, l2, l3⟩ := c_home hcK1 hw hn9 b2 ht.1 ht.2
      have hS := to_ok hw hd hn9 hrr ht.1 ht.2
      generalize hSd : Sc.to D d (oct M) n t = S at l2 hS
      have sD : S.D = D := by rw [← hSd]; rfl
      have sn : S.n = n := by rw [← hSd]; rfl
      have k8 : K2 8 = D 8 := CR_r (show CR K2 0 D from by rw [← sD]; exact l2.1) 8 (by decide) (by decide)
      have hQ : ∀ a, a ≠ 55 → a ≠ 54 → a ≠ 56 → a ≠ 57 → a ≠ 58 → a ≠ 59 → K2 a = fup M 1 2 0 a := fun a h1 h2 h3 h4 h5 h6 => by
        rw [l3 a h3 h4, fs_row fb a (fun x hx e => by have := (by decide : ∀ x ∈ s_X7_place_mods, x.1 = 54 ∨ x.1 = 56 ∨ x.1 = 57 ∨ x.1 = 58 ∨ x.1 = 59) x hx; omega), a5 a h1]
      obtain ⟨N, n1, n2, n3, n4, n5, n6, n7⟩ := same K2 hQ
      have hb7 : bys N = oct M := funext n7
      obtain ⟨N1, t1, t2⟩ := (m_tells n4 n5 n6 hw n2 (fun i => by rw [n7]; exact oct_b q2 i) d 0).1 ⟨hn9, hd, by rw [hb7]; exact hall⟩
      rw [if_pos rfl, hb7] at t2
      have ft : fSame s_X12_tells_mods N N1 := s_X12_tells_fr t1
      have hmN1 : MRh N1 124 0 D := MRh_row (fs_row ft 124 (by decide)) n4
      obtain ⟨N2, u1, u2, u3⟩ := m_home hmN1 hw t2 ht.1 ht.2
      rw [hSd] at u2
      have z1 : K2 1 2 = 0 := by rw [hQ 1 (by decide) (by decide) (by decide) (by decide) (by decide) (by decide)]; rfl
      have z2 : N2 122 2 = 0 := by rw [u3]; show N1 122 2 = 0; rw [fs_at ft 122 2 (by decide), n3]
      have r170 : N2 124 170 = D 8 4 := by rw [(mh_rule u2.1).2.2.2.2.1, sD]
      have r171 : N2 124 171 = D 8 5 := by rw [(mh_rule u2.1).2.2.2.2.2, sD]
      have r39 : N2 122 39 = n := by rw [u2.2.1.2, sn]
      obtain ⟨cw1, cw2⟩ := c_walk hS l2
      obtain ⟨mw1, mw2⟩ := m_walk hS u2
      rw [sD, sn] at cw1 cw2 mw1 mw2
      have cl : s_X11_walked M t d = (s_X7_walkAsTold_l29 K2 (n : Int) (D 8 4, 9, 0)).bind fun e29 => Sum.elim (fun x29 => (s_X7_minutes K2 x29.2 9).bind fun y84 => if fin (x29.1 + y84) then (if D 8 5 < x29.1 + y84 then (if fin (-2 - (n : Int)) then some (-2 - (n : Int), K2) else none) else some (x29.1 + y84, K2)) else none) (fun v29 => some v29) e29 := by
        have hcl2 : s_X7_walkAsTold K (n : Int) t d = (s_X7_walkAsTold_l29 K2 (n : Int) (D 8 4, 9, 0)).bind fun e29 => Sum.elim (fun x29 => (s_X7_minutes K2 x29.2 9).bind fun y84 => if fin (x29.1 + y84) then (if D 8 5 < x29.1 + y84 then (if fin (-2 - (n : Int)) then some (-2 - (n : Int), K2) else none) else some (x29.1 + y84, K2)) else none) (fun v29 => some v29) e29 := by
          unfold s_X7_walkAsTold
          rw [b1, Option.bind_some]
          show (s_X7_liveWith K1 t).bind _ = _
          rw [l1, Option.bind_some]
          show ((s_X7_walkAsTold_l29 K2 (n : Int) (K2 8 4, 9, 0)).bind fun e29 => Sum.elim (fun x29 => (s_X7_minutes K2 x29.2 9).bind fun y84 => if fin (x29.1 + y84) then (if K2 8 5 < x29.1 + y84 then (if fin (-2 - (n : Int)) then some (-2 - (n : Int), K2) else none) else some (x29.1 + y84, K2)) else none) (fun v29 => some v29) e29) = _
          rw [k8]
        unfold s_X11_walked
        rw [r4, a1, Option.bind_some]
        show (if (n : Int) < 0 then _ else (s_X2_hasTuner_4 K t).bind _) = _
        rw [if_neg (by omega), c_hasTuner, CR_r hcK 4 (by decide) (by decide), Option.bind_some, bit_if, if_pos ht]
        show (s_X11_isWithin K d 364).bind _ = _
        rw [c_isWithin, Option.bind_some, bit_ifn, if_pos hd]
        show (s_X7_walkAsTold K (n : Int) t d).bind _ = _
        rw [hcl2]
        cases (s_X7_walkAsTold_l29 K2 (n : Int) (D 8 4, 9, 0)).bind fun e29 => Sum.elim (fun x29 => (s_X7_minutes K2 x29.2 9).bind fun y84 => if fin (x29.1 + y84) then (if D 8 5 < x29.1 + y84 then (if fin (-2 - (n : Int)) then some (-2 - (n : Int), K2) else none) else some (x29.1 + y84, K2)) else none) (fun v29 => some v29) e29 with
        | none => rfl
        | some x => rfl
      have ml : s_X12_walked K2 t d = (s_X12_walked_l48 N2 (D 8 4, 0)).bind fun e48 => Sum.elim (fun x48 => if ¬ (n : Int) = 0 then (if fin ((n : Int) - 1) then (s_X12_way N2 ((n : Int) - 1) (-1)).bind fun y108 => s_X12_walked_j111 N2 x48 y108 else none) else s_X12_walked_j111 N2 x48 0) (fun v48 => some v48) e48 := by
        unfold s_X12_walked
        rw [n1, Option.bind_some]
        show (s_X12_isTuner N t).bind _ = _
        rw [m_isTuner n4 hw.1, Option.bind_some, bit_if, if_pos ht]
        show (s_X12_tells N d 0).bind _ = _
        rw [t1, Option.bind_some]
        show (if ¬ (1 : Int) = 0 then (s_X12_live N1 t).bind _ else _) = _
        rw [if_pos (by decide), u1, Option.bind_some]
        show (s_X12_walked_l48 N2 (N2 124 170, 0)).bind _ = _
        rw [r170]
        show ((s_X12_walked_l48 N2 (D 8 4, 0)).bind fun e48 => Sum.elim (fun x48 => if ¬ (N2 122 39) = 0 then (if fin ((N2 122 39) - 1) then (s_X12_way N2 ((N2 122 39) - 1) (-1)).bind fun y108 => s_X12_walked_j111 N2 x48 y108 else none) else s_X12_walked_j111 N2 x48 0) (fun v48 => some v48) e48) = _
        rw [r39]
      by_cases hx : ∃ i, i < n ∧ tt S (i + 1) = 1000000
      · obtain ⟨i0, h1, h2, h3⟩ := first_of n hx
        refine fin1 (-2 - (i0 : Int)) K2 N2 ?_ z1 ?_ z2
        · rw [cl, cw2 i0 h1 h2 h3]
          rfl
        · rw [ml, mw2 i0 h1 h2 h3]
          rfl
      · have hno : ∀ j, j < n → tt S (j + 1) ≠ 1000000 := fun j hj e => hx ⟨j, hj, e⟩
        have hbt := tt_bd hS n (by omega) hno
        have hpa : S.at (pv n) := pv_at (by omega)
        have hbw := wy_bd hS hpa (.inr rfl)
        have j111 : ∀ y : Int, y = wy S (pv n) 9 → s_X12_walked_j111 N2 (tt S n) y = some (if D 8 5 < tt S n + wy S (pv n) 9 then -2 - (n : Int) else tt S n + wy S (pv n) 9, N2) := by
          intro y hy
          subst hy
          unfold s_X12_walked_j111
          rw [r171, r39, if_pos (by unfold fin; omega)]
          by_cases e : D 8 5 < tt S n + wy S (pv n) 9
          · rw [if_neg (by omega), if_pos (by unfold fin; omega), if_pos e]
          · rw [if_pos (by omega), if_neg e]
        refine fin1 (if D 8 5 < tt S n + wy S (pv n) 9 then -2 - (n : Int) else tt S n + wy S (pv n) 9) K2 N2 ?_ z1 ?_ z2
        · rw [cl, cw1 hno, Option.bind_some]
          show (s_X7_minutes K2 ((pv n : Nat) : Int) ((9 : Nat) : Int)).bind _ = _
          rw [c_minutes hS l2 hpa (.inr rfl), Option.bind_some]
          show (if fin (tt S n + wy S (pv n) 9) then _ else _) = _
          rw [if_pos (by unfold fin; omega)]
          by_cases e : D 8 5 < tt S n + wy S (pv n) 9
          · rw [if_pos e, if_pos (by unfold fin; omega), if_pos e]
          · rw [if_neg e, if_neg e]
        · rw [ml, mw1 hno, Option.bind_some]
          show (if ¬ (n : Int) = 0 then (if fin ((n : Int) - 1) then (s_X12_way N2 ((n : Int) - 1) (-1)).bind fun y108 => s_X12_walked_j111 N2 (tt S n) y108 else none) else s_X12_walked_j111 N2 (tt S n) 0) = _
          by_cases e0 : n = 0
          · subst e0
            rw [if_neg (by omega)]
            exact j111 0 (wy_99 S).symm
          · rw [if_pos (by omega), if_pos (by unfold fin; omega)]
            have hix : (n : Int) - 1 = ix (pv n) := by
              cases n with
              | zero => exact absurd rfl e0
              | succ i =>
                show ((i + 1 : Nat) : Int) - 1 = ix i
                unfold ix
                rw [if_pos (by omega)]
                omega
            rw [hix, show (-1 : Int) = ix 9 from rfl, m_way hS u2 hpa (.inr rfl), Option.bind_some]
            exact j111 _ rfl
    · exact absurd ⟨hn9, hall⟩ a2
  · -- both refuse
    have hcl : s_X11_walked M t d = some (-1, K) ∧ ∀ a, a ≠ 55 → K a = fup M 1 2 0 a := by
      unfold s_X11_walked
      rw [r4]
      rcases hmv with ⟨a1, a2, a3, a4, a5⟩ | ⟨a1, a2, a5⟩
      · have k4 : K 4 = D 4 := by rw [a5 4 (by decide), fup_ne (by decide), r4]
        refine ⟨?_, a5⟩
        rw [a1, Option.bind_some]
        show (if (n : Int) < 0 then _ else (s_X2_hasTuner_4 K t).bind _) = _
        rw [if_neg (by omega), c_hasTuner, k4, Option.bind_some, bit_if]
        by_cases ht : 0 ≤ t ∧ t < D 4 14
        · rw [if_pos ht]
          show (s_X11_isWithin K d 364).bind _ = _
          rw [c_isWithin, Option.bind_some, bit_ifn, if_neg (fun e => hgood ⟨⟨⟨a2, a3⟩, e⟩, ht⟩)]
        · rw [if_neg ht]
      · refine ⟨?_, a5⟩
        rw [a1, Option.bind_some]
        show (if (-1 : Int) < 0 then _ else _) = _
        rw [if_pos (by decide)]
    obtain ⟨hcl, a5⟩ := hcl
    obtain ⟨N, n1, n2, n3, n4, n5, n6, n7⟩ := same K (fun a h1 _ _ _ _ _ => a5 a h1)
    have hb7 : bys N = oct M := funext n7
    have z1 : K 1 2 = 0 := by rw [a5 1 (by decide)]; rfl
    by_cases ht : 0 ≤ t ∧ t < D 4 14
    · obtain ⟨N1, t1⟩ := (m_tells n4 n5 n6 hw n2 (fun i => by rw [n7]; exact oct_b q2 i) d 0).2 (by rw [hb7]; exact fun e => hgood ⟨⟨⟨e.1, e.2.2⟩, e.2.1⟩, ht⟩)
      have ft : fSame s_X12_tells_mods N N1 := s_X12_tells_fr t1
      refine fin1 (-1) K N1 hcl z1 ?_ (by rw [fs_at ft 122 2 (by decide), n3])
      unfold s_X12_walked
      rw [n1, Option.bind_some]
      show (s_X12_isTuner N t).bind _ = _
      rw [m_isTuner n4 hw.1, Option.bind_some, bit_if, if_pos ht]
      show (s_X12_tells N d 0).bind _ = _
      rw [t1, Option.bind_some]
      show (if ¬ (0 : Int) = 0 then _ else _) = _
      rw [if_neg (by decide)]
    · refine fin1 (-1) K N hcl z1 ?_ n3
      unfold s_X12_walked
      rw [n1, Option.bind_some]
      show (s_X12_isTuner N t).bind _ = _
      rw [m_isTuner n4 hw.1, Option.bind_some, bit_if, if_neg ht]
