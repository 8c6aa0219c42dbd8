/-! ===== records: a row in work ===== -/
def RK (n : Nat) (K K' : fM) : Prop := (∀ k j : Nat, 19 ≤ k → k ≤ 25 → j ≠ n → K' k j = K k j) ∧ (∀ j : Nat, ¬ (12 * n ≤ j ∧ j < 12 * n + 12) → K' 26 j = K 26 j)
def RN (n : Nat) (N N' : fM) : Prop := ∀ j : Nat, ¬ (19 * n ≤ j ∧ j < 19 * n + 19) → N' 125 j = N 125 j
theorem RK_refl {n : Nat} {K : fM} : RK n K K := ⟨fun _ _ _ _ _ => rfl, fun _ _ => rfl⟩
theorem RK_trans {n : Nat} {K K1 K2 : fM} (h : RK n K K1) (h' : RK n K1 K2) : RK n K K2 := ⟨fun k j a b c => (h'.1 k j a b c).trans (h.1 k j a b c), fun j a => (h'.2 j a).trans (h.2 j a)⟩
theorem RK_fs {l : List (Nat × Option Nat)} {n : Nat} {K K' : fM} (f : fSame l K K') (hn : ∀ x ∈ l, ¬ (19 ≤ x.1 ∧ x.1 ≤ 26)) : RK n K K' := ⟨fun k j a b _ => by rw [fs_row f k (fun x hx e => hn x hx (by omega))], fun j _ => by rw [fs_row f 26 (fun x hx e => hn x hx (by omega))]⟩
theorem RK_up {n k : Nat} {K K1 : fM} {v : Int} (h : RK n K K1) (h1 : 19 ≤ k) (h2 : k ≤ 25) : RK n K (fup K1 k n v) := by
  refine ⟨fun a j a1 a2 hj => ?_, fun j hj => ?_⟩
  · unfold fup
    rw [if_neg (fun e => hj e.2)]
    exact h.1 a j a1 a2 hj
  · rw [fup_ne (show 26 ≠ k by omega)]
    exact h.2 j hj
theorem RK_up26 {n i : Nat} {K K1 : fM} {v : Int} (h : RK n K K1) (h1 : 12 * n ≤ i) (h2 : i < 12 * n + 12) : RK n K (fup K1 26 i v) := by
  refine ⟨fun a j a1 a2 hj => ?_, fun j hj => ?_⟩
  · rw [fup_ne (show a ≠ 26 by omega)]
    exact h.1 a j a1 a2 hj
  · rw [fup_eq, upd1_ne (by omega)]
    exact h.2 j hj
theorem RN_refl {n : Nat} {N : fM} : RN n N N := fun _ _ => rfl
theorem RN_trans {n : Nat} {N N1 N2 : fM} (h : RN n N N1) (h' : RN n N1 N2) : RN n N N2 := fun j a => (h' j a).trans (h j a)
theorem RN_fs {l : List (Nat × Option Nat)} {n : Nat} {N N' : fM} (f : fSame l N N') (hn : ∀ x ∈ l, x.1 ≠ 125) : RN n N N' := fun j _ => by rw [fs_row f 125 hn]
theorem RN_up {n i : Nat} {N N1 : fM} {v : Int} (h : RN n N N1) (h1 : 19 * n ≤ i) (h2 : i < 19 * n + 19) : RN n N (fup N1 125 i v) := fun j hj => by
  rw [fup_eq, upd1_ne (by omega)]
  exact h j hj
/-- what of the house the reading of records looks at -/
def HR (K N : fM) : Prop := (0 ≤ K 4 13 ∧ K 4 13 ≤ 16) ∧ (0 ≤ K 4 14 ∧ K 4 14 ≤ 6) ∧ N 124 172 = K 4 13 ∧ N 124 173 = K 4 14 ∧ (∀ p : Nat, (p : Int) < K 4 13 → wrel (K 15 p) (N 126 p)) ∧ (∀ t : Nat, (t : Int) < K 4 14 → wrel (K 16 t) (N 126 (16 + t))) ∧ (∀ p : Int, 0 ≤ p → p < K 4 13 → N 124 (175 + 10 * p).toNat = K 10 (p * 10 + 0).toNat)
theorem HR_fs {l l' : List (Nat × Option Nat)} {K K' N N' : fM} (f : fSame l K K') (hn : fNo l [10, 15, 16] [(4, 13), (4, 14)]) (f' : fSame l' N N') (hn' : fNo l' [124, 126] []) (h : HR K N) : HR K' N' := by
  unfold HR at h ⊢
  rw [fno_fld f hn 4 13 (by decide), fno_fld f hn 4 14 (by decide), fno_row f hn 10 (by decide), fno_row f hn 15 (by decide), fno_row f hn 16 (by decide), fno_row f' hn' 124 (by decide), fno_row f' hn' 126 (by decide)]
  exact h
theorem fd_piano0 {K N : fM} (hH : HR K N) {w : List Nat} (hw : isW w) (h17 : N 122 17 = enc8 w) : ∃ v, s_X2_pianoNamed_4 K (enc5 w) = some v ∧ s_X12_find N 0 0 = some v ∧ -1 ≤ v ∧ v < K 4 13 := by
  obtain ⟨hc0, -, hN0, -, hnm, -, -⟩ := hH
  obtain ⟨n, hn⟩ : ∃ n : Nat, K 4 13 = (n : Int) := ⟨(K 4 13).toNat, by omega⟩
  have hN : N 124 172 = (n : Int) := hN0.trans hn
  have hs : srch (K 15) (enc5 w) n = srch (fun i => N 126 (0 + i)) (N 122 17) n := by
    rw [h17]
    refine srch_eq n (fun i hi => ?_)
    have := hnm i (by omega)
    rw [Nat.zero_add]
    exact wrel_eq this hw
  have hb := srch_b (K 15) (enc5 w) n
  refine ⟨srch (K 15) (enc5 w) n, ?_, ?_, hb.1, by omega⟩
  · unfold s_X2_pianoNamed_4
    rw [hn, c_pl15 (by omega)]
    rfl
  · rw [hs]
    exact m_find (h := 0) (s := 0) (o := 0) (n := n) (by decide) (by decide) (by decide) hN (by show n ≤ 16; omega)
theorem fd_tuner0 {K N : fM} (hH : HR K N) {w : List Nat} (hw : isW w) (h17 : N 122 17 = enc8 w) : ∃ v, s_X2_tunerNamed_4 K (enc5 w) = some v ∧ s_X12_find N 0 1 = some v ∧ -1 ≤ v ∧ v < K 4 14 := by
  obtain ⟨-, hc0, -, hN0, -, hnm, -⟩ := hH
  obtain ⟨n, hn⟩ : ∃ n : Nat, K 4 14 = (n : Int) := ⟨(K 4 14).toNat, by omega⟩
  have hN : N 124 173 = (n : Int) := hN0.trans hn
  have hs : srch (K 16) (enc5 w) n = srch (fun i => N 126 (16 + i)) (N 122 17) n := by
    rw [h17]
    exact srch_eq n (fun i hi => wrel_eq (hnm i (by omega)) hw)
  have hb := srch_b (K 16) (enc5 w) n
  refine ⟨srch (K 16) (enc5 w) n, ?_, ?_, hb.1, by omega⟩
  · unfold s_X2_tunerNamed_4
    rw [hn, c_pl16 (by omega)]
    rfl
  · rw [hs]
    exact m_find (h := 0) (s := 1) (o := 16) (n := n) (by decide) (by decide) (by decide) hN (by show n ≤ 6; omega)
/-! bits counted -/
def pcn (a : Nat) : Nat → Nat
  | 0 => 0
  | k + 1 => pcn a k + (if Nat.testBit a k = true then 1 else 0)
theorem pcn_le (a : Nat) : ∀ k, pcn a k ≤ k
  | 0 => Nat.le_refl 0
  | k + 1 => by
    have := pcn_le a k
    unfold pcn
    split <;> omega
theorem pcn_or {a t : Nat} (h : Nat.testBit a t = false) : ∀ k, pcn (a ||| 2 ^ t) k = pcn a k + (if t < k then 1 else 0)
  | 0 => by
    rw [if_neg (Nat.not_lt_zero t)]
    rfl
  | k + 1 => by
    have ih := pcn_or h k
    show pcn (a ||| 2 ^ t) k + (if Nat.testBit (a ||| 2 ^ t) k = true then 1 else 0) = pcn a k + (if Nat.testBit a k = true then 1 else 0) + (if t < k + 1 then 1 else 0)
    rw [ih, tb_or]
    by_cases e : t = k
    · subst e
      rw [h, if_neg (Nat.lt_irrefl t), if_pos (Nat.lt_succ_self t), if_pos (show (false || decide (t = t)) = true by simp), if_neg (show ¬ false = true by decide)]
    · rw [show (Nat.testBit a k || decide (t = k)) = Nat.testBit a k by simp [e]]
      by_cases g : t < k
      · rw [if_pos g, if_pos (show t < k + 1 by omega)]
        omega
      · rw [if_neg g, if_neg (show ¬ t < k + 1 by omega)]
        omega
/-! the row bare -/
theorem c_beginR (K : fM) {n : Nat} (hn : n < 200) (kd x : Int) : ∃ K', s_X6_begin_18 K (n : Int) kd x = some ((), K') ∧ fSame [(19, none), (20, none), (23, none), (24, none), (25, none), (26, none)] K K' ∧ RK n K K' ∧ K' 19 n = kd ∧ K' 20 n = x ∧ K' 25 n = 0 ∧ (∀ j, j < 12 → K' 26 (12 * n + j) = 0) := by
  obtain ⟨K1, hK1⟩ : ∃ K1, K1 = fup (fup (fup (fup (fup K 19 n kd) 20 n x) 23 n 0) 24 n 0) 25 n 0 := ⟨_, rfl⟩
  obtain ⟨K', h1, h2, h3, h4⟩ := fill_loop (B := fun s => s_X6_begin_18_b38 s.2 (n : Int) s.1) (c := 26) (o := 12 * n) (n := 12) (g := fun _ => 0) (M0 := K1) (fun i M hi _ => by
    show s_X6_begin_18_b38 M (n : Int) (i : Int) = _
    unfold s_X6_begin_18_b38
    rw [if_neg (by omega), if_pos (by unfold fin; omega), show ((n : Int) * 12 + (i : Int)).toNat = 12 * n + i by omega]) (fun M => by
    show s_X6_begin_18_b38 M (n : Int) 12 = _
    unfold s_X6_begin_18_b38
    rw [if_pos (by omega)])
  have f1 : fSame [(19, none), (20, none), (23, none), (24, none), (25, none)] K K1 := by
    rw [hK1]
    exact fs_up (fs_up (fs_up (fs_up (fs_up fs_refl (.inl (by decide))) (.inl (by decide))) (.inl (by decide))) (.inl (by decide))) (.inl (by decide))
  have r1 : RK n K K1 := by
    rw [hK1]
    exact RK_up (RK_up (RK_up (RK_up (RK_up RK_refl (by decide) (by decide)) (by decide) (by decide)) (by decide) (by decide)) (by decide) (by decide)) (by decide) (by decide)
  refine ⟨K', ?_, fs_trans (fs_mono (by decide) f1) (fs_mono (by decide) h2), RK_trans r1 ⟨fun k j a b _ => by rw [fs_row h2 k (fun x hx e => by have := List.mem_singleton.mp hx; subst this; have : (26 : Nat) = k := e; omega)], fun j hj => h3 j hj⟩, ?_, ?_, ?_, fun j hj => h4 j hj⟩
  · unfold s_X6_begin_18 s_X6_begin_18_l38
    rw [if_pos (by omega), if_pos (by omega), show ((n : Int)).toNat = n from rfl, ← hK1]
    show (fLp (fun s => s_X6_begin_18_b38 s.2 (n : Int) s.1) (((0 : Nat) : Int), K1)).bind _ = _
    rw [h1]
    rfl
  · rw [fs_row h2 19 (by decide), hK1, fup_ne (by decide), fup_ne (by decide), fup_ne (by decide), fup_ne (by decide), fup_eq, upd1_at]
  · rw [fs_row h2 20 (by decide), hK1, fup_ne (by decide), fup_ne (by decide), fup_ne (by decide), fup_eq, upd1_at]
  · rw [fs_row h2 25 (by decide), hK1, fup_eq, upd1_at]
theorem m_clearR (N : fM) {n : Nat} (hn : n < 200) (kd : Int) : ∃ N', s_X12_record_l2 kd (19 * (n : Int)) (0, N) = some N' ∧ fSame [(125, none)] N N' ∧ RN n N N' ∧ (∀ j, j < 19 → N' 125 (19 * n + j) = 0) := by
  obtain ⟨N', h1, h2, h3, h4⟩ := fill_loop (B := fun s => s_X12_record_b2 s.2 kd (19 * (n : Int)) s.1) (c := 125) (o := 19 * n) (n := 19) (g := fun _ => 0) (M0 := N) (fun i M hi _ => by
    show s_X12_record_b2 M kd (19 * (n : Int)) (i : Int) = _
    unfold s_X12_record_b2
    rw [if_neg (by omega), if_pos (by unfold fin; omega), show (19 * (n : Int) + (i : Int)).toNat = 19 * n + i by omega]) (fun M => by
    show s_X12_record_b2 M kd (19 * (n : Int)) 19 = _
    unfold s_X12_record_b2
    rw [if_pos (by omega)])
  refine ⟨N', ?_, h2, fun j hj => h3 j hj, fun j hj => h4 j hj⟩
  unfold s_X12_record_l2
  exact h1
