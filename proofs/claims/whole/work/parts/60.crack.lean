/-! ===== cracked (by hand) ===== -/
theorem fLp_hit1 {σ ε : Type} {b : σ → Option (σ ⊕ ε)} (f : Nat → σ) (P : Nat → Prop) (n : Nat) (e1 : ε) (hs : ∀ i, i < n → ¬ P i → b (f i) = some (.inl (f (i + 1)))) (hh : ∀ i, i < n → P i → b (f i) = some (.inr e1)) (hx : ∃ i, i < n ∧ P i) : fLp b (f 0) = some e1 := by
  obtain ⟨m, h1, h2, h3⟩ := first_of n hx
  exact fLp_for f m (fun i hi => hs i (by omega) (h3 i hi)) (hh m h1 h2)
theorem upd1_at (t : Nat → Int) (i : Nat) (v : Int) : upd1 t i v i = v := if_pos rfl
theorem upd1_ne {t : Nat → Int} {i j : Nat} {v : Int} (h : j ≠ i) : upd1 t i v j = t j := if_neg h
/-- x put into the first k of a row -/
def insR (on : Int → Int) : (Nat → Int) → Nat → Int → Nat → Int
  | t, 0, x => upd1 t 0 x
  | t, k + 1, x => if on (t k) ≤ on x then upd1 t (k + 1) x else insR on (upd1 t (k + 1) (t k)) k x
theorem insR_ag (on : Int → Int) : ∀ (k : Nat) (t t' : Nat → Int) (x : Int), (∀ j, j < k → t j = t' j) → ∀ m, (∀ j, k < j → j ≤ m → t j = t' j) → ∀ j, j ≤ m ∨ j ≤ k → insR on t k x j = insR on t' k x j
  | 0, t, t', x, h, m, hm, j, hj => by
    show upd1 t 0 x j = upd1 t' 0 x j
    unfold upd1
    by_cases e : j = 0
    · rw [if_pos e, if_pos e]
    · rw [if_neg e, if_neg e]
      exact hm j (by omega) (by omega)
  | k + 1, t, t', x, h, m, hm, j, hj => by
    show (if on (t k) ≤ on x then upd1 t (k + 1) x else insR on (upd1 t (k + 1) (t k)) k x) j = (if on (t' k) ≤ on x then upd1 t' (k + 1) x else insR on (upd1 t' (k + 1) (t' k)) k x) j
    rw [h k (by omega)]
    split
    · unfold upd1
      by_cases e : j = k + 1
      · rw [if_pos e, if_pos e]
      · rw [if_neg e, if_neg e]
        by_cases e2 : j < k + 1
        · exact h j e2
        · exact hm j (by omega) (by omega)
    · refine insR_ag on k _ _ x (fun i hi => ?_) (max m (k + 1)) (fun i h1 h2 => ?_) j (by omega)
      · rw [upd1_ne (by omega), upd1_ne (by omega)]
        exact h i (by omega)
      · by_cases e : i = k + 1
        · rw [e, upd1_at, upd1_at]
        · rw [upd1_ne e, upd1_ne e]
          exact hm i (by omega) (by omega)
/-- what is in the row afterwards was there or is x -/
theorem insR_all (on : Int → Int) {P : Int → Prop} : ∀ (k : Nat) (t : Nat → Int) (x : Int), P x → (∀ j, j < k → P (t j)) → ∀ m, (∀ j, k < j → j ≤ m → P (t j)) → ∀ j, j ≤ m ∨ j ≤ k → P (insR on t k x j)
  | 0, t, x, hx, h, m, hm, j, hj => by
    show P (upd1 t 0 x j)
    unfold upd1
    split
    · exact hx
    · exact hm j (by omega) (by omega)
  | k + 1, t, x, hx, h, m, hm, j, hj => by
    show P ((if on (t k) ≤ on x then upd1 t (k + 1) x else insR on (upd1 t (k + 1) (t k)) k x) j)
    split
    · unfold upd1
      split
      · exact hx
      · by_cases e2 : j < k + 1
        · exact h j e2
        · exact hm j (by omega) (by omega)
    · refine insR_all on k _ x hx (fun i hi => ?_) (max m (k + 1)) (fun i h1 h2 => ?_) j (by omega)
      · rw [upd1_ne (by omega)]
        exact h i (by omega)
      · by_cases e : i = k + 1
        · rw [e, upd1_at]
          exact h k (by omega)
        · rw [upd1_ne e]
          exact hm i (by omega) (by omega)
abbrev onI (D : fM) (r : Int) : Int := D 21 r.toNat
/-- the class's insertion -/
theorem c_insert {D : fM} (hn : D 18 8 ≤ 200) : ∀ (k : Nat) (M : fM) (x : Int), M 21 = D 21 → k < 200 → 0 ≤ x → x < D 18 8 → (∀ j, j < k → 0 ≤ M 52 j ∧ M 52 j < D 18 8) → ∃ (M' : fM) (k' : Nat), fLp (fun s : Int × fM => s_X1_putInOrder_b2 s.2 x s.1) ((k : Int), M) = some (((k' : Nat) : Int), M') ∧ k' < 200 ∧ upd1 (M' 52) k' x = insR (onI D) (M 52) k x ∧ ∀ a, a ≠ 52 → M' a = M a
  | 0, M, x, h21, hk, hx, hx2, hj => by
    refine ⟨M, 0, ?_, by omega, rfl, fun _ _ => rfl⟩
    rw [fLp_eq]
    show (s_X1_putInOrder_b2 M x 0).bind _ = _
    unfold s_X1_putInOrder_b2
    rw [if_pos (by omega)]
    rfl
  | k + 1, M, x, h21, hk, hx, hx2, hj => by
    have e1 : (((k + 1 : Nat) : Int) - 1).toNat = k := by omega
    have e2 : ((k + 1 : Nat) : Int).toNat = k + 1 := by omega
    have e3 : ((k + 1 : Nat) : Int) + -1 = (k : Int) := by omega
    have b1 := hj k (by omega)
    by_cases h : onI D (M 52 k) ≤ onI D x
    · refine ⟨M, k + 1, ?_, by omega, ?_, fun _ _ => rfl⟩
      · rw [fLp_eq]
        show (s_X1_putInOrder_b2 M x ((k + 1 : Nat) : Int)).bind _ = _
        unfold s_X1_putInOrder_b2
        rw [e1, h21, if_neg (by omega), if_pos (by unfold fin; omega), if_pos h]
        rfl
      · show _ = if onI D (M 52 k) ≤ onI D x then _ else _
        rw [if_pos h]
    · obtain ⟨M', k', a1, a2, a3, a4⟩ := c_insert hn k (fup M 52 (k + 1) (M 52 k)) x (by rw [fup_ne (by decide), h21]) (by omega) hx hx2 (fun j hj' => by rw [fup_eq, upd1_ne (by omega)]; exact hj j (by omega))
      refine ⟨M', k', ?_, a2, ?_, fun a ha => by rw [a4 a ha, fup_ne ha]⟩
      · rw [fLp_eq]
        show (s_X1_putInOrder_b2 M x ((k + 1 : Nat) : Int)).bind _ = _
        unfold s_X1_putInOrder_b2
        rw [e1, e2, e3, h21, if_neg (by omega), if_pos (by unfold fin; omega), if_neg h, if_pos (by unfold fin; omega)]
        exact a1
      · rw [a3, fup_eq]
        show _ = if onI D (M 52 k) ≤ onI D x then _ else _
        rw [if_neg h]
set_option maxRecDepth 100000 in
theorem c_putInOrder {D : fM} (hn : D 18 8 ≤ 200) (k : Nat) (M : fM) (x : Int) (h21 : M 21 = D 21) (hk : k < 200) (hx : 0 ≤ x) (hx2 : x < D 18 8) (hj : ∀ j, j < k → 0 ≤ M 52 j ∧ M 52 j < D 18 8) : ∃ M', s_X1_putInOrder M x (k : Int) = some ((), M') ∧ M' 52 = insR (onI D) (M 52) k x ∧ ∀ a, a ≠ 52 → M' a = M a := by
  obtain ⟨M', k', a1, a2, a3, a4⟩ := c_insert hn k M x h21 hk hx hx2 hj
  refine ⟨fup M' 52 k' x, ?_, by rw [fup_eq]; exact a3, fun a ha => by rw [fup_ne ha, a4 a ha]⟩
  unfold s_X1_putInOrder s_X1_putInOrder_l2
  rw [a1]
  show (if (0 ≤ ((k' : Nat) : Int) ∧ ((k' : Nat) : Int) < 200) then some ((), fup M' 52 ((k' : Nat) : Int).toNat x) else none) = _
  rw [if_pos (by omega), Int.toNat_natCast]
/-- the reference's -/
theorem m_insert {D : fM} (hn : D 18 8 ≤ 200) (l1 l2 l3 : Int) : ∀ (k : Nat) (M : fM) (x : Int), MRr M 125 0 D → k < 200 → 0 ≤ x → x < D 18 8 → (∀ j, j < k → 0 ≤ M 132 j ∧ M 132 j < D 18 8) → ∃ (M' : fM) (k' : Nat), fLp (fun s : Int × fM => s_X12_cracked_b57 s.2 l1 l2 l3 x s.1) ((k : Int), M) = some (((k' : Nat) : Int), M') ∧ k' < 200 ∧ upd1 (M' 132) k' x = insR (onI D) (M 132) k x ∧ ∀ a, a ≠ 132 → M' a = M a
  | 0, M, x, h21, hk, hx, hx2, hj => by
    refine ⟨M, 0, ?_, by omega, rfl, fun _ _ => rfl⟩
    rw [fLp_eq]
    show (s_X12_cracked_b57 M l1 l2 l3 x 0).bind _ = _
    unfold s_X12_cracked_b57
    rw [if_pos (by omega)]
    rfl
  | k + 1, M, x, h21, hk, hx, hx2, hj => by
    have e1 : (((k + 1 : Nat) : Int) - 1).toNat = k := by omega
    have e2 : ((k + 1 : Nat) : Int).toNat = k + 1 := by omega
    have e3 : ((k + 1 : Nat) : Int) + -1 = (k : Int) := by omega
    have b1 := hj k (by omega)
    have q1 : M 125 (19 * M 132 k + 2).toNat = onI D (M 132 k) := mr_on h21 (M 132 k) rfl b1.1 b1.2
    have q2 : M 125 (19 * x + 2).toNat = onI D x := mr_on h21 x rfl hx hx2
    by_cases h : onI D (M 132 k) ≤ onI D x
    · refine ⟨M, k + 1, ?_, by omega, ?_, fun _ _ => rfl⟩
      · rw [fLp_eq]
        show (s_X12_cracked_b57 M l1 l2 l3 x ((k + 1 : Nat) : Int)).bind _ = _
        unfold s_X12_cracked_b57
        rw [e1, q1, q2, if_neg (by omega), if_pos (by unfold fin; omega), if_pos (by omega), if_pos h]
        rfl
      · show _ = if onI D (M 132 k) ≤ onI D x then _ else _
        rw [if_pos h]
    · obtain ⟨M', k', a1, a2, a3, a4⟩ := m_insert hn l1 l2 l3 k (fup M 132 (k + 1) (M 132 k)) x (MRr_row (fup_ne (by decide)) h21) (by omega) hx hx2 (fun j hj' => by rw [fup_eq, upd1_ne (by omega)]; exact hj j (by omega))
      refine ⟨M', k', ?_, a2, ?_, fun a ha => by rw [a4 a ha, fup_ne ha]⟩
      · rw [fLp_eq]
        show (s_X12_cracked_b57 M l1 l2 l3 x ((k + 1 : Nat) : Int)).bind _ = _
        unfold s_X12_cracked_b57
        rw [e1, e2, e3, q1, q2, if_neg (by omega), if_pos (by unfold fin; omega), if_pos (by omega), if_neg h, if_pos (by unfold fin; omega)]
        exact a1
      · rw [a3, fup_eq]
        show _ = if onI D (M 132 k) ≤ onI D x then _ else _
        rw [if_neg h]
/-- the findings of a piano in the order of their days: how many, and the row -/
def crF (D : fM) (p kn : Int) : Nat → Nat × (Nat → Int)
  | 0 => (0, fun _ => 0)
  | i + 1 => if isK D i 1 p kn then ((crF D p kn i).1 + 1, insR (onI D) (crF D p kn i).2 (crF D p kn i).1 i) else crF D p kn i
theorem crF_s (D : fM) (p kn : Int) (i : Nat) : crF D p kn (i + 1) = if isK D i 1 p kn then ((crF D p kn i).1 + 1, insR (onI D) (crF D p kn i).2 (crF D p kn i).1 i) else crF D p kn i := rfl
theorem crF_b (D : fM) (p kn : Int) : ∀ i : Nat, (crF D p kn i).1 ≤ i ∧ ∀ j, j < (crF D p kn i).1 → 0 ≤ (crF D p kn i).2 j ∧ (crF D p kn i).2 j < i
  | 0 => ⟨Nat.le_refl _, fun j hj => absurd hj (by show ¬ j < 0; omega)⟩
  | i + 1 => by
    obtain ⟨h1, h2⟩ := crF_b D p kn i
    rw [crF_s]
    split
    · refine ⟨by show (crF D p kn i).1 + 1 ≤ i + 1; omega, fun j hj => ?_⟩
      exact insR_all (onI D) (P := fun v => 0 ≤ v ∧ v < ((i + 1 : Nat) : Int)) (crF D p kn i).1 _ _ ⟨by omega, by omega⟩ (fun j hj => by have := h2 j hj; omega) 0 (fun j a b => by omega) j (.inr (by have : j < (crF D p kn i).1 + 1 := hj; omega))
    · exact ⟨by omega, fun j hj => by have := h2 j hj; omega⟩
/-- two findings: how many notes are in both, how many rose, how many fell -/
abbrev crB (D : fM) (a b n : Int) : Prop := toldB D a n = 1 ∧ toldB D b n = 1
abbrev crD (D : fM) (a b n : Int) : Int := D 26 (b * 12 + n).toNat - D 26 (a * 12 + n).toNat
abbrev crN (D : fM) (a b : Int) : Nat → Int := cntI (fun n => crB D a b n)
abbrev crU (D : fM) (a b : Int) : Nat → Int := cntI (fun n => crB D a b n ∧ 300 ≤ crD D a b n)
abbrev crL (D : fM) (a b : Int) : Nat → Int := cntI (fun n => crB D a b n ∧ crD D a b n ≤ -300)
abbrev crP (D : fM) (a b : Int) : Prop := onI D b - onI D a ≤ 30 ∧ 3 ≤ crN D a b 12 ∧ (crU D a b 12 = crN D a b 12 ∨ crL D a b 12 = crN D a b 12)
theorem crD_b {D : fM} (hw : WF D) {a b n : Int} (h1 : 0 ≤ a) (h2 : a < D 18 8) (h3 : 0 ≤ b) (h4 : b < D 18 8) (h5 : 0 ≤ n) (h6 : n < 12) : -1998 ≤ crD D a b n ∧ crD D a b n ≤ 1998 := by
  have := (hw.2.2.2.2.2.2.2.2.2 a h1 h2).2.2.2.2.2.1 n h5 h6
  have := (hw.2.2.2.2.2.2.2.2.2 b h3 h4).2.2.2.2.2.1 n h5 h6
  unfold crD
  omega
theorem c_isCrack {M D : fM} (hc : CR M 0 D) (hw : WF D) {a b : Int} (h1 : 0 ≤ a) (h2 : a < D 18 8) (h3 : 0 ≤ b) (h4 : b < D 18 8) : s_X1_isCrack M a b = some (bit (crP D a b)) := by
  have hn := hw.1.2.2.2.2
  have qa := (hw.2.2.2.2.2.2.2.2.2 a h1 h2).2.2.1
  have qb := (hw.2.2.2.2.2.2.2.2.2 b h3 h4).2.2.1
  have key : s_X1_isCrack_l37 M a b (0, 0, 0, 0) = some (crN D a b 12, crU D a b 12, crL D a b 12) := by
    unfold s_X1_isCrack_l37
    refine fLp_for (fun i => (crN D a b i, crU D a b i, crL D a b i, (i : Int))) 12 (fun i hi => ?_) rfl
    have b1 := cntI_b (fun n => crB D a b n) i
    have b2 := cntI_b (fun n => crB D a b n ∧ 300 ≤ crD D a b n) i
    have b3 := cntI_b (fun n => crB D a b n ∧ crD D a b n ≤ -300) i
    have b4 := crD_b hw h1 h2 h3 h4 (n := (i : Int)) (by omega) (by omega)
    have t1 : toldB D a i = 0 ∨ toldB D a i = 1 := fand_1 _
    have t2 : toldB D b i = 0 ∨ toldB D b i = 1 := fand_1 _
    show s_X1_isCrack_b37 M a b (crN D a b i) (crU D a b i) (crL D a b i) (i : Int) = some (Sum.inl (crN D a b (i + 1), crU D a b (i + 1), crL D a b (i + 1), (i : Int) + 1))
    unfold crN crU crL
    rw [cntI_s, cntI_s, cntI_s]
    unfold s_X1_isCrack_b37 s_X1_isCrack_j111
    rw [if_neg (by omega), c_isTold hc h1 (by omega), c_isTold hc h3 (by omega), c_leftOf hc h1 (by omega) (by omega) (by omega), c_leftOf hc h3 (by omega) (by omega) (by omega)]
    simp only [Option.bind_some, if_pos (show fin ((i : Int) + 1) by unfold fin; omega)]
    by_cases x1 : toldB D a i = 0
    · rw [if_pos x1, if_neg (fun e => absurd e.1 (by omega)), if_neg (fun e => absurd e.1.1 (by omega)), if_neg (fun e => absurd e.1.1 (by omega))]
    · rw [if_neg x1]
      by_cases x2 : toldB D b i = 0
      · rw [if_pos x2, if_neg (fun e => absurd e.2 (by omega)), if_neg (fun e => absurd e.1.2 (by omega)), if_neg (fun e => absurd e.1.2 (by omega))]
      · have hB : crB D a b i := ⟨by omega, by omega⟩
        rw [if_neg x2, if_pos (show fin (crD D a b i) ∧ fin (cntI (fun n => crB D a b n) i + 1) by unfold fin; omega), if_pos hB]
        by_cases y1 : 300 ≤ crD D a b i
        · rw [if_neg (show ¬ (crD D a b i < 300) by omega), if_pos (by unfold fin; omega), if_pos (show (-300 : Int) < crD D a b i by omega), if_pos (show crB D a b i ∧ 300 ≤ crD D a b i from ⟨hB, y1⟩), if_neg (show ¬ (crB D a b i ∧ crD D a b i ≤ -300) from fun e => absurd e.2 (by omega)), if_pos (by unfold fin; omega), Int.add_zero]
        · rw [if_pos (show (crD D a b i < 300) by omega), if_pos (by unfold fin; omega), if_neg (show ¬ (crB D a b i ∧ 300 ≤ crD D a b i) from fun e => y1 e.2), Int.add_zero, Int.add_zero]
          by_cases y2 : crD D a b i ≤ -300
          · rw [if_neg (show ¬ ((-300 : Int) < crD D a b i) by omega), if_pos (by unfold fin; omega), if_pos ⟨hB, y2⟩]
          · rw [if_pos (show ((-300 : Int) < crD D a b i) by omega), if_pos (by unfold fin; omega), if_neg (fun e => y2 e.2)]
  unfold s_X1_isCrack
  rw [CR_r hc 21 (by decide) (by decide), if_pos (by unfold fin; omega), key]
  simp only [Option.bind_some]
  unfold bit crP onI
  repeat' split
  all_goals first | rfl | (exfalso; omega)
theorem m_cracks {M D : fM} (hr : MRr M 125 0 D) (hw : WF D) {a b : Int} (h1 : 0 ≤ a) (h2 : a < D 18 8) (h3 : 0 ≤ b) (h4 : b < D 18 8) : s_X12_cracks M (19 * a) (19 * b) = some (bit (3 ≤ crN D a b 12 ∧ (crU D a b 12 = crN D a b 12 ∨ crL D a b 12 = crN D a b 12))) := by
  have hn := hw.1.2.2.2.2
  have key : s_X12_cracks_l11 M (19 * a) (19 * b) (0, 0, 0, 0) = some (crN D a b 12, crU D a b 12, crL D a b 12) := by
    unfold s_X12_cracks_l11
    refine fLp_for (fun i => (crN D a b i, crU D a b i, crL D a b i, (i : Int))) 12 (fun i hi => ?_) rfl
    have b1 := cntI_b (fun n => crB D a b n) i
    have b2 := cntI_b (fun n => crB D a b n ∧ 300 ≤ crD D a b n) i
    have b3 := cntI_b (fun n => crB D a b n ∧ crD D a b n ≤ -300) i
    have b4 := crD_b hw h1 h2 h3 h4 (n := (i : Int)) (by omega) (by omega)
    have t1 : toldB D a i = 0 ∨ toldB D a i = 1 := fand_1 _
    have t2 : toldB D b i = 0 ∨ toldB D b i = 1 := fand_1 _
    show s_X12_cracks_b11 M (19 * a) (19 * b) (crN D a b i) (crU D a b i) (crL D a b i) (i : Int) = some (Sum.inl (crN D a b (i + 1), crU D a b (i + 1), crL D a b (i + 1), (i : Int) + 1))
    unfold crN crU crL
    rw [cntI_s, cntI_s, cntI_s]
    unfold s_X12_cracks_b11 s_X12_cracks_j100
    rw [if_neg (by omega), mr_told hr a rfl h1 h2, mr_told hr b rfl h3 h4, mr_left hr a (i : Int) rfl h1 h2 (by omega) (by omega), mr_left hr b (i : Int) rfl h3 h4 (by omega) (by omega), if_pos (by unfold fin; omega), if_pos (show fin (19 * b + 6) ∧ (0 ≤ 19 * b + 6 ∧ 19 * b + 6 < 3800) by unfold fin; omega), if_pos (show fin (19 * b + 7) ∧ fin (19 * b + 7 + (i : Int)) ∧ (0 ≤ 19 * b + 7 + (i : Int) ∧ 19 * b + 7 + (i : Int) < 3800) ∧ fin (19 * a + 7) ∧ fin (19 * a + 7 + (i : Int)) ∧ (0 ≤ 19 * a + 7 + (i : Int) ∧ 19 * a + 7 + (i : Int) < 3800) ∧ fin (crD D a b i) by unfold fin; omega)]
    simp only [if_pos (show fin ((i : Int) + 1) by unfold fin; omega)]
    by_cases x1 : toldB D a i = 0
    · rw [if_pos x1, if_neg (fun e => absurd e.1 (by omega)), if_neg (fun e => absurd e.1.1 (by omega)), if_neg (fun e => absurd e.1.1 (by omega))]
    · rw [if_neg x1]
      by_cases x2 : toldB D b i = 0
      · rw [if_neg (fun e => e x2), if_neg (fun e => absurd e.2 (by omega)), if_neg (fun e => absurd e.1.2 (by omega)), if_neg (fun e => absurd e.1.2 (by omega))]
      · have hB : crB D a b i := ⟨by omega, by omega⟩
        rw [if_pos x2, if_pos (show fin (cntI (fun n => crB D a b n) i + 1) by unfold fin; omega), if_pos hB]
        by_cases y1 : 300 ≤ crD D a b i
        · rw [if_neg (show ¬ (crD D a b i < 300) by omega), if_pos (by unfold fin; omega), if_pos (show (-300 : Int) < crD D a b i by omega), if_pos (show crB D a b i ∧ 300 ≤ crD D a b i from ⟨hB, y1⟩), if_neg (show ¬ (crB D a b i ∧ crD D a b i ≤ -300) from fun e => absurd e.2 (by omega)), if_pos (by unfold fin; omega), Int.add_zero]
        · rw [if_pos (show (crD D a b i < 300) by omega), if_pos (by unfold fin; omega), if_neg (show ¬ (crB D a b i ∧ 300 ≤ crD D a b i) from fun e => y1 e.2), Int.add_zero, Int.add_zero]
          by_cases y2 : crD D a b i ≤ -300
          · rw [if_neg (show ¬ ((-300 : Int) < crD D a b i) by omega), if_pos (by unfold fin; omega), if_pos ⟨hB, y2⟩]
          · rw [if_pos (show ((-300 : Int) < crD D a b i) by omega), if_pos (by unfold fin; omega), if_neg (fun e => y2 e.2)]
  unfold s_X12_cracks
  rw [key]
  simp only [Option.bind_some]
  unfold bit
  repeat' split
  all_goals first | rfl | (exfalso; omega)
set_option maxRecDepth 100000 in
theorem k_cracked {M : fM} (hI : Iv M) (a c : Int) : ∃ v M1 M2, s_X11_cracked M a c = some (v, M1) ∧ M1 1000 = M 1000 ∧ s_X12_cracked M1 a c = some (v, M2) ∧ Iv M2 := by
  obtain ⟨D, hc, hw, hm, hnm, hr, hn0⟩ := hI.2.2.2.1
  obtain ⟨hnn, hnn2⟩ := nR_c hw.1
  have hn200 := hw.1.2.2.2.2.2
  by_cases h : (0 ≤ a ∧ a < D 4 13) ∧ (-1 ≤ c ∧ c < 364)
  · -- the class's row
    have q1 : ∀ i : Nat, i ≤ nR D → ∃ Mi : fM, (∀ k, k ≠ 52 → Mi k = M k) ∧ (∀ j, j < (crF D a c i).1 → Mi 52 j = (crF D a c i).2 j) ∧ ∀ r, fLp (fun s : Int × Int × fM => s_X1_isCracked_b5 s.2.2 a c s.1 s.2.1) (((crF D a c i).1 : Nat), (i : Int), Mi) = some r → s_X1_isCracked_l5 a c (0, 0, M) = some r := by
      intro i
      induction i with
      | zero =>
        intro _
        exact ⟨M, fun _ _ => rfl, fun j hj => absurd hj (by show ¬ j < 0; omega), fun r hr => hr⟩
      | succ i ih =>
        intro hi
        obtain ⟨Mi, e1, e2, e3⟩ := ih (by omega)
        obtain ⟨b1, b2⟩ := crF_b D a c i
        have hci : CR Mi 0 D := fun k h1 h2 => by rw [Nat.add_zero, e1 k (by omega)]; exact hc k h1 h2
        rw [crF_s]
        by_cases hk : isK D i 1 a c
        · rw [if_pos hk]
          obtain ⟨M', p1, p2, p3⟩ := c_putInOrder hn200 (crF D a c i).1 Mi (i : Int) (CR_r hci 21 (by decide) (by decide)) (by omega) (by omega) (by omega) (fun j hj => by rw [e2 j hj]; have := b2 j hj; omega)
          refine ⟨M', fun k hk => by rw [p3 k hk, e1 k hk], fun j hj => ?_, fun r hr => e3 r ?_⟩
          · rw [p2]
            exact insR_ag (onI D) _ _ _ _ e2 0 (fun j a b => by omega) j (.inr (by have : j < (crF D a c i).1 + 1 := hj; omega))
          · rw [fLp_eq]
            show (s_X1_isCracked_b5 Mi a c ((crF D a c i).1 : Nat) (i : Int)).bind _ = _
            unfold s_X1_isCracked_b5
            rw [CR_r hci 18 (by decide) (by decide), if_neg (by omega), c_isOf hci (by omega) (by omega), p1, Option.bind_some, bit_if, if_pos hk, Option.bind_some, if_pos (by unfold fin; omega)]
            exact hr
        · rw [if_neg hk]
          refine ⟨Mi, e1, e2, fun r hr => e3 r ?_⟩
          rw [fLp_eq]
          show (s_X1_isCracked_b5 Mi a c ((crF D a c i).1 : Nat) (i : Int)).bind _ = _
          unfold s_X1_isCracked_b5
          rw [CR_r hci 18 (by decide) (by decide), if_neg (by omega), c_isOf hci (by omega) (by omega)]
          simp only [Option.bind_some, bit_if]
          rw [if_neg hk, if_pos (by unfold fin; omega)]
          exact hr
    obtain ⟨Mc, c1, c2, c3⟩ := q1 (nR D) (Nat.le_refl _)
    have hcc : CR Mc 0 D := fun k h1 h2 => by rw [Nat.add_zero, c1 k (by omega)]; exact hc k h1 h2
    have c4 : s_X1_isCracked_l5 a c (0, 0, M) = some ((((crF D a c (nR D)).1 : Nat) : Int), Mc) := by
      refine c3 _ ?_
      rw [fLp_eq]
      show (s_X1_isCracked_b5 Mc a c ((crF D a c (nR D)).1 : Nat) ((nR D : Nat) : Int)).bind _ = _
      unfold s_X1_isCracked_b5
      rw [CR_r hcc 18 (by decide) (by decide), if_pos (by omega)]
      rfl
    obtain ⟨b1, b2⟩ := crF_b D a c (nR D)
    generalize hN : (crF D a c (nR D)).1 = N at *
    generalize hT : (crF D a c (nR D)).2 = T at *
    -- is there a crack
    have cB : ∀ j : Nat, j < N - 1 → s_X1_isCracked_b51 Mc (N : Int) ((j : Int) + 1) = if crP D (T j) (T (j + 1)) then some (.inr (.inr (1, Mc))) else some (.inl ((j : Int) + 1 + 1)) := by
      intro j hj
      have x1 := b2 j (by omega)
      have x2 := b2 (j + 1) (by omega)
      unfold s_X1_isCracked_b51
      rw [show ((j : Int) + 1 - 1).toNat = j by omega, show ((j : Int) + 1).toNat = j + 1 by omega, c2 j (by omega), c2 (j + 1) (by omega), if_neg (by omega), if_pos (by unfold fin; omega), c_isCrack hcc hw x1.1 (by omega) x2.1 (by omega)]
      simp only [Option.bind_some, bit_if]
      rw [if_pos (show fin ((j : Int) + 1 + 1) by unfold fin; omega)]
    have cE : s_X1_isCracked_b51 Mc (N : Int) (((N - 1 : Nat) : Int) + 1) = some (.inr (.inl ())) := by
      unfold s_X1_isCracked_b51
      rw [if_pos (by omega)]
    -- the reference's row
    have q2 : ∀ i : Nat, i ≤ nR D → ∃ Mi : fM, (∀ k, k ≠ 132 → Mi k = fup Mc 122 0 0 k) ∧ (∀ j, j < (crF D a c i).1 → Mi 132 j = (crF D a c i).2 j) ∧ ∀ r, fLp (fun s : Int × Int × fM => s_X12_cracked_b27 s.2.2 a c s.1 s.2.1) (((crF D a c i).1 : Nat), (i : Int), Mi) = some r → s_X12_cracked_l27 a c (0, 0, fup Mc 122 0 0) = some r := by
      intro i
      induction i with
      | zero =>
        intro _
        exact ⟨fup Mc 122 0 0, fun _ _ => rfl, fun j hj => absurd hj (by show ¬ j < 0; omega), fun r hr => hr⟩
      | succ i ih =>
        intro hi
        obtain ⟨Mi, e1, e2, e3⟩ := ih (by omega)
        obtain ⟨b1', b2'⟩ := crF_b D a c i
        have hri : MRr Mi 125 0 D := MRr_row (by rw [e1 125 (by decide), fup_ne (by decide), c1 125 (by decide)]) hr
        have hni : Mi 122 10 = D 18 8 := by rw [e1 122 (by decide), show fup Mc 122 0 0 122 10 = Mc 122 10 from rfl, c1 122 (by decide), hn0]
        rw [crF_s]
        by_cases hk : isK D i 1 a c
        · have hk2 : isK D i 1 a c ∧ D 21 (i : Int).toNat ≤ 364 := ⟨hk, by have := (hw.2.2.2.2.2.2.2.2.2 (i : Int) (by omega) (by omega)).2.2.1; omega⟩
          rw [if_pos hk]
          obtain ⟨M', k', p1, p2, p3, p4⟩ := m_insert hn200 a c ((crF D a c i).1 : Nat) (crF D a c i).1 Mi (i : Int) hri (by omega) (by omega) (by omega) (fun j hj => by rw [e2 j hj]; have := b2' j hj; omega)
          refine ⟨fup M' 132 k' (i : Int), fun k hk => by rw [fup_ne hk, p4 k hk, e1 k hk], fun j hj => ?_, fun r hr' => e3 r ?_⟩
          · rw [fup_eq, p3]
            exact insR_ag (onI D) _ _ _ _ e2 0 (fun j a b => by omega) j (.inr (by have : j < (crF D a c i).1 + 1 := hj; omega))
          · rw [fLp_eq]
            show (s_X12_cracked_b27 Mi a c ((crF D a c i).1 : Nat) (i : Int)).bind _ = _
            unfold s_X12_cracked_b27 s_X12_cracked_l57
            rw [hni, if_neg (by omega), m_isOf hri hw.1 (by omega) (by omega), p1]
            simp only [Option.bind_some, bit_ifn]
            rw [if_pos hk2, if_pos (by unfold fin; omega), Int.toNat_natCast]
            exact hr'
        · rw [if_neg hk]
          refine ⟨Mi, e1, e2, fun r hr' => e3 r ?_⟩
          rw [fLp_eq]
          show (s_X12_cracked_b27 Mi a c ((crF D a c i).1 : Nat) (i : Int)).bind _ = _
          unfold s_X12_cracked_b27
          rw [hni, if_neg (by omega), m_isOf hri hw.1 (by omega) (by omega)]
          simp only [Option.bind_some, bit_ifn]
          rw [if_neg (fun e => hk e.1), if_pos (by unfold fin; omega)]
          exact hr'
    obtain ⟨Mm, m1, m2, m3⟩ := q2 (nR D) (Nat.le_refl _)
    rw [hN, hT] at m2
    rw [hN] at m3
    have hrm : MRr Mm 125 0 D := MRr_row (by rw [m1 125 (by decide), fup_ne (by decide), c1 125 (by decide)]) hr
    have hnm0 : Mm 122 10 = D 18 8 := by rw [m1 122 (by decide), show fup Mc 122 0 0 122 10 = Mc 122 10 from rfl, c1 122 (by decide), hn0]
    have m4 : s_X12_cracked_l27 a c (0, 0, fup Mc 122 0 0) = some ((N : Int), Mm) := by
      refine m3 _ ?_
      rw [fLp_eq]
      show (s_X12_cracked_b27 Mm a c (N : Int) ((nR D : Nat) : Int)).bind _ = _
      unfold s_X12_cracked_b27
      rw [hnm0, if_pos (by omega)]
      rfl
    have mB : ∀ j : Nat, j < N - 1 → s_X12_cracked_b139 Mm (N : Int) ((j : Int) + 1) = if crP D (T j) (T (j + 1)) then some (.inr (.inr (1, Mm))) else some (.inl ((j : Int) + 1 + 1)) := by
      intro j hj
      have x1 := b2 j (by omega)
      have x2 := b2 (j + 1) (by omega)
      have y1 := (hw.2.2.2.2.2.2.2.2.2 (T j) x1.1 (by omega)).2.2.1
      have y2 := (hw.2.2.2.2.2.2.2.2.2 (T (j + 1)) x2.1 (by omega)).2.2.1
      unfold s_X12_cracked_b139
      rw [show ((j : Int) + 1 - 1).toNat = j by omega, show ((j : Int) + 1).toNat = j + 1 by omega, m2 j (by omega), m2 (j + 1) (by omega), mr_on hrm (T j) rfl x1.1 (by omega), mr_on hrm (T (j + 1)) rfl x2.1 (by omega), if_neg (by omega), if_pos (by unfold fin; omega), if_pos (by unfold fin; omega), if_pos (show fin ((j : Int) + 1 - 1) ∧ (0 ≤ (j : Int) + 1 - 1 ∧ (j : Int) + 1 - 1 < 200) ∧ fin (19 * T j) ∧ (0 ≤ (j : Int) + 1 ∧ (j : Int) + 1 < 200) ∧ fin (19 * T (j + 1)) by unfold fin; omega), m_cracks hrm hw x1.1 (by omega) x2.1 (by omega)]
      simp only [Option.bind_some, bit_if, if_pos (show fin ((j : Int) + 1 + 1) by unfold fin; omega)]
      by_cases z1 : 30 < D 21 (T (j + 1)).toNat - D 21 (T j).toNat
      · rw [if_pos z1, if_neg (fun e => absurd e.1 (by unfold onI; omega))]
      · rw [if_neg z1]
        by_cases z2 : 3 ≤ crN D (T j) (T (j + 1)) 12 ∧ (crU D (T j) (T (j + 1)) 12 = crN D (T j) (T (j + 1)) 12 ∨ crL D (T j) (T (j + 1)) 12 = crN D (T j) (T (j + 1)) 12)
        · rw [if_pos z2, if_pos ⟨by unfold onI; omega, z2⟩]
        · rw [if_neg z2, if_neg (fun e => z2 e.2)]
    have mE : s_X12_cracked_b139 Mm (N : Int) (((N - 1 : Nat) : Int) + 1) = some (.inr (.inl ())) := by
      unfold s_X12_cracked_b139
      rw [if_pos (by omega)]
    have hIc : Iv Mc := Iv_same (fun k j hn => by rw [c1 k (fun e => hn (.inl (by rw [e]; exact List.mem_cons_self)))] : fSame [(52, none)] M Mc) (by decide) hI
    have hIm : Iv Mm := Iv_same (fun k j hn => by rw [m1 k (fun e => hn (.inl (by rw [e]; exact List.mem_cons_self)))] : fSame [(132, none)] (fup Mc 122 0 0) Mm) (by decide) (Iv_thrown hIc)
    have hmc : MRh (fup Mc 122 0 0) 124 0 D := MRh_row (by rw [fup_ne (by decide), c1 124 (by decide)]) hm
    by_cases hx : ∃ j, j < N - 1 ∧ crP D (T j) (T (j + 1))
    · refine ⟨1, Mc, Mm, ?_, c1 1000 (by decide), ?_, hIm⟩
      · unfold s_X11_cracked s_X1_isCracked s_X1_isCracked_l51
        rw [c_hasPiano, c_isKnowing, CR_r hc 4 (by decide) (by decide), c4]
        simp only [Option.bind_some, bit_if, bit_ifn]
        rw [if_pos h.1, if_pos h.2]
        have := fLp_hit1 (b := fun s => s_X1_isCracked_b51 Mc (N : Int) s) (fun j : Nat => (j : Int) + 1) (fun j => crP D (T j) (T (j + 1))) (N - 1) (Sum.inr (1, Mc)) (fun j hj hp => by show s_X1_isCracked_b51 Mc (N : Int) ((j : Int) + 1) = _; rw [cB j hj, if_neg hp]; rfl) (fun j hj hp => by show s_X1_isCracked_b51 Mc (N : Int) ((j : Int) + 1) = _; rw [cB j hj, if_pos hp]) hx
        rw [show (1 : Int) = ((0 : Nat) : Int) + 1 from rfl, this]
        rfl
      · unfold s_X12_cracked s_X12_cracked_l139
        rw [m_isPiano hmc hw.1, m_isKnown, m4]
        simp only [Option.bind_some, bit_if, bit_ifn]
        rw [if_pos h.1, if_pos h.2]
        have := fLp_hit1 (b := fun s => s_X12_cracked_b139 Mm (N : Int) s) (fun j : Nat => (j : Int) + 1) (fun j => crP D (T j) (T (j + 1))) (N - 1) (Sum.inr (1, Mm)) (fun j hj hp => by show s_X12_cracked_b139 Mm (N : Int) ((j : Int) + 1) = _; rw [mB j hj, if_neg hp]; rfl) (fun j hj hp => by show s_X12_cracked_b139 Mm (N : Int) ((j : Int) + 1) = _; rw [mB j hj, if_pos hp]) hx
        rw [show (1 : Int) = ((0 : Nat) : Int) + 1 from rfl, this]
        rfl
    · have hx' : ∀ j, j < N - 1 → ¬ crP D (T j) (T (j + 1)) := fun j hj hp => hx ⟨j, hj, hp⟩
      refine ⟨0, Mc, Mm, ?_, c1 1000 (by decide), ?_, hIm⟩
      · unfold s_X11_cracked s_X1_isCracked s_X1_isCracked_l51
        rw [c_hasPiano, c_isKnowing, CR_r hc 4 (by decide) (by decide), c4]
        simp only [Option.bind_some, bit_if, bit_ifn]
        rw [if_pos h.1, if_pos h.2]
        have := fLp_for (b := fun s => s_X1_isCracked_b51 Mc (N : Int) s) (fun j : Nat => (j : Int) + 1) (N - 1) (e := Sum.inl ()) (fun j hj => by show s_X1_isCracked_b51 Mc (N : Int) ((j : Int) + 1) = _; rw [cB j hj, if_neg (hx' j hj)]; rfl) cE
        rw [show (1 : Int) = ((0 : Nat) : Int) + 1 from rfl, this]
        rfl
      · unfold s_X12_cracked s_X12_cracked_l139
        rw [m_isPiano hmc hw.1, m_isKnown, m4]
        simp only [Option.bind_some, bit_if, bit_ifn]
        rw [if_pos h.1, if_pos h.2]
        have := fLp_for (b := fun s => s_X12_cracked_b139 Mm (N : Int) s) (fun j : Nat => (j : Int) + 1) (N - 1) (e := Sum.inl ()) (fun j hj => by show s_X12_cracked_b139 Mm (N : Int) ((j : Int) + 1) = _; rw [mB j hj, if_neg (hx' j hj)]; rfl) mE
        rw [show (1 : Int) = ((0 : Nat) : Int) + 1 from rfl, this]
        rfl
  · have hm' : MRh (fup M 122 0 0) 124 0 D := MRh_row (fup_ne (by decide)) hm
    refine ⟨-1, M, fup M 122 0 0, ?_, rfl, ?_, Iv_thrown hI⟩
    · unfold s_X11_cracked
      rw [c_hasPiano, c_isKnowing, CR_r hc 4 (by decide) (by decide)]
      simp only [Option.bind_some, bit_if, bit_ifn]
      by_cases x1 : 0 ≤ a ∧ a < D 4 13
      · rw [if_pos x1, if_neg (fun y => h ⟨x1, y⟩)]
      · rw [if_neg x1]
    · unfold s_X12_cracked
      rw [m_isPiano hm' hw.1, m_isKnown]
      simp only [Option.bind_some, bit_if, bit_ifn]
      by_cases x1 : 0 ≤ a ∧ a < D 4 13
      · rw [if_pos x1, if_neg (fun y => h ⟨x1, y⟩)]
      · rw [if_neg x1]
