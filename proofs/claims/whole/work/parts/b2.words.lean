/-! ===== words, keywords, names; class and reference read side by side ===== -/
def kwL : List (List Nat) := [[5, 12, 2, 1, 20], [16, 13, 1, 4], [13, 18, 5, 20], [5, 5, 6], [5, 18, 21, 19], [5, 11, 1, 3], [11, 12, 1, 23], [11, 18, 15, 23], [25, 1, 4], [15, 14, 1, 9, 16], [18, 5, 14, 21, 20], [12, 9, 16, 21, 16], [8, 3, 1, 5, 20], [11, 18, 15, 6], [5, 13, 15, 8], [12, 15, 15, 8, 3, 19], [12, 12, 1, 8], [5, 22, 15, 20, 19], [16, 9, 12, 19], [12, 9, 1, 18, 6], [14, 5, 16, 15], [4, 5, 14, 21, 20], [4, 14, 21, 15, 6], [5, 11, 15, 18, 2], [4, 9, 1, 16], [5, 20, 1], [20, 18, 5, 3, 14, 15, 3], [4, 5, 22, 15, 13], [14, 15], [14, 23, 15, 14, 11]]
def kwW (k : Nat) : List Nat := kwL.getD k []
theorem kw_5 : ∀ k : Nat, k < 30 → kw5.getD k 0 = enc5 (kwW k) := by decide +kernel
theorem kw_8 : ∀ j : Nat, j < 30 → kw8.getD j 0 = enc8 (kwW (if j = 11 then 13 else if j = 12 then 11 else if j = 13 then 12 else j)) := by decide +kernel
theorem kw_ok : ∀ k : Nat, k < 30 → ∀ a ∈ kwW k, 1 ≤ a ∧ a ≤ 26 := by decide +kernel
theorem enc5_inj : ∀ w w' : List Nat, (∀ a ∈ w, 1 ≤ a ∧ a ≤ 26) → (∀ a ∈ w', 1 ≤ a ∧ a ≤ 26) → enc5 w = enc5 w' → w = w'
  | [], [], _, _, _ => rfl
  | [], a :: w', _, h2, e => by
    have h1 := h2 a List.mem_cons_self
    have hb := enc5_bd w'.length w' (Nat.le_refl _) (fun x hx => h2 x (List.mem_cons_of_mem _ hx))
    have e' : (0 : Int) = enc5 w' * 32 + (a : Int) := e
    omega
  | a :: w, [], h1, _, e => by
    have h2 := h1 a List.mem_cons_self
    have hb := enc5_bd w.length w (Nat.le_refl _) (fun x hx => h1 x (List.mem_cons_of_mem _ hx))
    have e' : enc5 w * 32 + (a : Int) = 0 := e
    omega
  | a :: w, a' :: w', h1, h2, e => by
    have e' : enc5 w * 32 + (a : Int) = enc5 w' * 32 + (a' : Int) := e
    have g1 := h1 a List.mem_cons_self
    have g2 := h2 a' List.mem_cons_self
    have ea : a = a' := by omega
    have ew : enc5 w = enc5 w' := by omega
    rw [ea, enc5_inj w w' (fun x hx => h1 x (List.mem_cons_of_mem _ hx)) (fun x hx => h2 x (List.mem_cons_of_mem _ hx)) ew]
theorem enc8_inj : ∀ w w' : List Nat, (∀ a ∈ w, 1 ≤ a ∧ a ≤ 26) → (∀ a ∈ w', 1 ≤ a ∧ a ≤ 26) → enc8 w = enc8 w' → w = w'
  | [], [], _, _, _ => rfl
  | [], a :: w', _, h2, e => by
    have h1 := h2 a List.mem_cons_self
    have hb := enc8_bd w'.length w' (Nat.le_refl _) (fun x hx => h2 x (List.mem_cons_of_mem _ hx))
    have e' : (0 : Int) = enc8 w' * 256 + ((a : Int) + 96) := e
    omega
  | a :: w, [], h1, _, e => by
    have h2 := h1 a List.mem_cons_self
    have hb := enc8_bd w.length w (Nat.le_refl _) (fun x hx => h1 x (List.mem_cons_of_mem _ hx))
    have e' : enc8 w * 256 + ((a : Int) + 96) = 0 := e
    omega
  | a :: w, a' :: w', h1, h2, e => by
    have e' : enc8 w * 256 + ((a : Int) + 96) = enc8 w' * 256 + ((a' : Int) + 96) := e
    have g1 := h1 a List.mem_cons_self
    have g2 := h2 a' List.mem_cons_self
    have ea : a = a' := by omega
    have ew : enc8 w = enc8 w' := by omega
    rw [ea, enc8_inj w w' (fun x hx => h1 x (List.mem_cons_of_mem _ hx)) (fun x hx => h2 x (List.mem_cons_of_mem _ hx)) ew]
/-- which keyword -/
def kwf (w : List Nat) : Nat → Int
  | 0 => -1
  | k + 1 => if 0 ≤ kwf w k then kwf w k else if w = kwW k then (k : Int) else -1
theorem kwf_r (w : List Nat) : ∀ n : Nat, kwf w n = -1 ∨ ∃ k : Nat, k < n ∧ kwf w n = (k : Int) ∧ w = kwW k
  | 0 => .inl rfl
  | n + 1 => by
    unfold kwf
    by_cases h : 0 ≤ kwf w n
    · rw [if_pos h]
      rcases kwf_r w n with e | ⟨k, e1, e2, e3⟩
      · exact .inl e
      · exact .inr ⟨k, by omega, e2, e3⟩
    · rw [if_neg h]
      by_cases e : w = kwW n
      · rw [if_pos e]; exact .inr ⟨n, by omega, rfl, e⟩
      · rw [if_neg e]; exact .inl rfl
theorem kwf_n (w : List Nat) : ∀ n : Nat, kwf w n < 0 → ∀ k, k < n → w ≠ kwW k
  | 0, _, k, hk => by omega
  | n + 1, h, k, hk => by
    unfold kwf at h
    by_cases g : 0 ≤ kwf w n
    · rw [if_pos g] at h; omega
    · rw [if_neg g] at h
      by_cases e : k = n
      · subst e
        intro e2
        rw [if_pos e2] at h
        omega
      · exact kwf_n w n (by omega) k (by omega)
def kwx (w : List Nat) : Int := kwf w 30
theorem kwx_at : ∀ k : Nat, k < 30 → kwx (kwW k) = (k : Int) := by decide +kernel
theorem kwx_iff {w : List Nat} {k : Nat} (hk : k < 30) : kwx w = (k : Int) ↔ w = kwW k := by
  constructor
  · intro h
    rcases kwf_r w 30 with e | ⟨j, e1, e2, e3⟩
    · have : kwx w = -1 := e
      omega
    · have : kwx w = (j : Int) := e2
      have : j = k := by omega
      rw [← this]; exact e3
  · intro h
    rw [h]
    exact kwx_at k hk
theorem kwx_b (w : List Nat) : -1 ≤ kwx w ∧ kwx w < 30 := by
  rcases kwf_r w 30 with e | ⟨j, e1, e2, e3⟩
  · have : kwx w = -1 := e
    omega
  · have : kwx w = (j : Int) := e2
    omega
/-! what stays while a text is read -/
def PC (K : fM) (b : Nat → Int) (L lim : Nat) : Prop := K 2 = b ∧ K 1 2 = L ∧ L ≤ 1240 ∧ K 1 3 = lim ∧ ∀ j, j < 30 → K 3 j = kw5.getD j 0
def PM (N : fM) (b : Nat → Int) (L lim : Nat) : Prop := TpM N b L lim ∧ ∀ j, j < 30 → N 127 j = kw8.getD j 0
theorem PC_fs {l : List (Nat × Option Nat)} {K K' : fM} {b : Nat → Int} {L lim : Nat} (f : fSame l K K') (hn : fNo l [2, 3] [(1, 2), (1, 3)]) (h : PC K b L lim) : PC K' b L lim := by
  unfold PC at h ⊢
  rw [fno_row f hn 2 (by decide), fno_row f hn 3 (by decide), fno_fld f hn 1 2 (by decide), fno_fld f hn 1 3 (by decide)]
  exact h
theorem PM_fs {l : List (Nat × Option Nat)} {N N' : fM} {b : Nat → Int} {L lim : Nat} (f : fSame l N N') (hn : fNo l [123, 127] [(122, 3), (122, 5)]) (h : PM N b L lim) : PM N' b L lim := by
  unfold PM TpM at h ⊢
  rw [fno_row f hn 123 (by decide), fno_row f hn 127 (by decide), fno_fld f hn 122 3 (by decide), fno_fld f hn 122 5 (by decide)]
  exact h
theorem tQ_le {b : Nat → Int} {L p : Nat} (hp : p ≤ L) : p ≤ tQ b L p ∧ tQ b L p ≤ L := by
  obtain ⟨a1, a2, -, -⟩ := adv_ok isBk b L L p (by omega)
  have a1' : p ≤ tQ b L p := a1
  refine ⟨a1', ?_⟩
  rcases a2 with e | e
  · exact e
  · have e' : tQ b L p = p := e
    omega
theorem tE_le {b : Nat → Int} {L q : Nat} (hq : q ≤ L) : q ≤ tE b L q ∧ tE b L q ≤ L := by
  obtain ⟨a1, a2, -, -⟩ := tE_ok b L q
  refine ⟨a1, ?_⟩
  rcases a2 with e | e <;> omega
theorem tSt_le {b : Nat → Int} {L lim p : Nat} (hp : p ≤ L) : tSt b L lim p ≤ L := by
  have := tQ_le (b := b) hp
  unfold tSt
  split <;> omega
theorem tNx_le {b : Nat → Int} {L lim p : Nat} (hp : p ≤ L) : p ≤ tNx b L lim p ∧ tNx b L lim p ≤ L := by
  have hq := tQ_le (b := b) hp
  have he := tE_le (b := b) hq.2
  unfold tNx
  split
  · omega
  · split
    · omega
    · split
      · omega
      · omega
theorem tKd_b (b : Nat → Int) (L lim p : Nat) : tKd b L lim p ≤ 5 := by
  unfold tKd tRun
  repeat' split
  all_goals omega
/-- a token that is one takes room; a word as much as it has letters -/
theorem tNx_lt {b : Nat → Int} {L lim p : Nat} (hp : p ≤ L) (hk : 2 ≤ tKd b L lim p) : p < tNx b L lim p := by
  have hq := tQ_le (b := b) hp
  unfold tKd at hk
  unfold tNx
  by_cases h1 : lim < L ∧ lim ≤ tQ b L p
  · rw [if_pos h1] at hk; omega
  · rw [if_neg h1] at hk ⊢
    by_cases h2 : L ≤ tQ b L p
    · rw [if_pos h2] at hk; omega
    · rw [if_neg h2] at hk ⊢
      by_cases h3 : isAl (b (tQ b L p))
      · rw [if_pos h3]
        obtain ⟨a1, -, -, a4⟩ := tE_ok b L (tQ b L p)
        have : tE b L (tQ b L p) ≠ tQ b L p := fun e => a4 (by rw [e]; exact ⟨by omega, h3⟩)
        omega
      · rw [if_neg h3]; omega
theorem tW_ok {b : Nat → Int} {L lim p : Nat} (hp : p ≤ L) (hk : tKd b L lim p = 2) : isW (tW b L p) ∧ p + (tW b L p).length ≤ tNx b L lim p := by
  have hq := tQ_le (b := b) hp
  have hlt := tNx_lt (lim := lim) hp (by omega : 2 ≤ tKd b L lim p)
  unfold tKd at hk
  unfold tNx at hlt ⊢
  by_cases h1 : lim < L ∧ lim ≤ tQ b L p
  · rw [if_pos h1] at hk; omega
  · rw [if_neg h1] at hk hlt ⊢
    by_cases h2 : L ≤ tQ b L p
    · rw [if_pos h2] at hk; omega
    · rw [if_neg h2] at hk hlt ⊢
      by_cases h3 : isAl (b (tQ b L p))
      · rw [if_pos h3] at hk hlt ⊢
        obtain ⟨a1, -, a3, a4⟩ := tE_ok b L (tQ b L p)
        have hne : tE b L (tQ b L p) ≠ tQ b L p := fun e => a4 (by rw [e]; exact ⟨by omega, h3⟩)
        unfold tRun at hk
        unfold tW
        generalize hn : tE b L (tQ b L p) - tQ b L p = n at hk ⊢
        by_cases h4 : cnt isDg b (tQ b L p) n = 0 ∧ cnt isLt b (tQ b L p) n ≤ 8
        · have hall : ∀ j, j < n → isLt (b (tQ b L p + j)) := fun j hj => by
            have := (a3 (tQ b L p + j) (by omega) (by omega)).2
            have := cnt_0 n h4.1 j hj
            omega
          have hcn : ∀ i, i ≤ n → cnt isLt b (tQ b L p) i = i := by
            intro i
            induction i with
            | zero => intro _; rfl
            | succ i ih =>
              intro hi
              show cnt isLt b (tQ b L p) i + (if isLt (b (tQ b L p + i)) then 1 else 0) = i + 1
              rw [if_pos (hall i (by omega)), ih (by omega)]
          have := hcn n (Nat.le_refl _)
          refine ⟨⟨fun e => ?_, by rw [wds_len]; omega, wds_ok n hall⟩, by rw [wds_len]; omega⟩
          have h5 := wds_len b (tQ b L p) n
          rw [e] at h5
          have h5' : 0 = n := h5
          omega
        · rw [if_neg h4] at hk
          split at hk <;> omega
      · rw [if_neg h3] at hk
        split at hk
        · omega
        · split at hk <;> omega
theorem tV_b {b : Nat → Int} {L lim p : Nat} (hk : tKd b L lim p = 3) : 0 ≤ tV b L p ∧ tV b L p ≤ 99999 := by
  unfold tKd at hk
  by_cases h1 : lim < L ∧ lim ≤ tQ b L p
  · rw [if_pos h1] at hk; omega
  · rw [if_neg h1] at hk
    by_cases h2 : L ≤ tQ b L p
    · rw [if_pos h2] at hk; omega
    · rw [if_neg h2] at hk
      by_cases h3 : isAl (b (tQ b L p))
      · rw [if_pos h3] at hk
        obtain ⟨a1, -, a3, -⟩ := tE_ok b L (tQ b L p)
        unfold tRun at hk
        unfold tV
        generalize hn : tE b L (tQ b L p) - tQ b L p = n at hk ⊢
        by_cases h4 : cnt isDg b (tQ b L p) n = 0 ∧ cnt isLt b (tQ b L p) n ≤ 8
        · rw [if_pos h4] at hk; omega
        · rw [if_neg h4] at hk
          by_cases h5 : cnt isLt b (tQ b L p) n = 0 ∧ cnt isDg b (tQ b L p) n ≤ 5
          · have hall : ∀ j, j < n → isDg (b (tQ b L p + j)) := fun j hj => by
              have := (a3 (tQ b L p + j) (by omega) (by omega)).2
              have := cnt_0 n h5.1 j hj
              omega
            have hcn : ∀ i, i ≤ n → cnt isDg b (tQ b L p) i = i := by
              intro i
              induction i with
              | zero => intro _; rfl
              | succ i ih =>
                intro hi
                show cnt isDg b (tQ b L p) i + (if isDg (b (tQ b L p + i)) then 1 else 0) = i + 1
                rw [if_pos (hall i (by omega)), ih (by omega)]
            have := hcn n (Nat.le_refl _)
            have hb := vls_bd n hall
            have h10 : 10 ^ n ≤ 10 ^ 5 := Nat.pow_le_pow_right (by decide) (by omega)
            omega
          · rw [if_neg h5] at hk; omega
      · rw [if_neg h3] at hk
        split at hk
        · omega
        · split at hk <;> omega
/-- the keyword at p, or -1 -/
def kx (b : Nat → Int) (L lim p : Nat) : Int := if tKd b L lim p = 2 then kwx (tW b L p) else -1
theorem c_kw {K : fM} {b : Nat → Int} {L lim p : Nat} (h : PC K b L lim) (hc : CuC K b L lim p) (hp : p ≤ L) : s_X10_keywordHere K = some (kx b L lim p) := by
  unfold s_X10_keywordHere kx
  rw [hc.2.2.1]
  by_cases hk : tKd b L lim p = 2
  · have hw := (tW_ok hp hk).1
    rw [if_pos (by omega), if_pos hk]
    have h8 := hc.2.2.2.1 hk
    have hmis : ∀ k, k < 30 → (¬ K 3 k = K 1 8 ↔ tW b L p ≠ kwW k) := fun k hk2 => by
      rw [h.2.2.2.2 k hk2, kw_5 k hk2, h8]
      constructor
      · intro e e2
        exact e (by rw [e2])
      · intro e e2
        exact e (enc5_inj _ _ hw.2.2 (kw_ok k hk2) e2.symm)
    unfold s_X10_keywordHere_l12
    have step : ∀ k, k < 30 → tW b L p ≠ kwW k → s_X10_keywordHere_b12 K (k : Int) = some (.inl ((k + 1 : Nat) : Int)) := fun k hk2 hne => by
      unfold s_X10_keywordHere_b12
      rw [if_neg (by omega), if_pos (by omega), show (k : Int).toNat = k from rfl, if_pos ((hmis k hk2).2 hne), if_pos (by unfold fin; omega)]
      rfl
    rcases kwf_r (tW b L p) 30 with e | ⟨k, e1, e2, e3⟩
    · have hx : kwx (tW b L p) = -1 := e
      have hno := kwf_n (tW b L p) 30 (by rw [e]; decide)
      have := fLp_for (b := fun s : Int => s_X10_keywordHere_b12 K s) (fun i => (i : Int)) 30 (e := .inl ()) (fun i hi => step i hi (hno i hi)) (by
        show s_X10_keywordHere_b12 K ((30 : Nat) : Int) = _
        unfold s_X10_keywordHere_b12
        rw [if_pos (by decide)])
      rw [show fLp (fun s : Int => s_X10_keywordHere_b12 K s) 0 = some (.inl ()) from this, hx]
      rfl
    · have hx : kwx (tW b L p) = (k : Int) := e2
      have := fLp_for (b := fun s : Int => s_X10_keywordHere_b12 K s) (fun i => (i : Int)) k (e := .inr (k : Int)) (fun i hi => step i (by omega) (fun e => by
        have := (kwx_iff (show i < 30 by omega)).2 e
        omega)) (by
        show s_X10_keywordHere_b12 K (k : Int) = _
        unfold s_X10_keywordHere_b12
        rw [if_neg (by omega), if_pos (by omega), show (k : Int).toNat = k from rfl, if_neg (fun e => (hmis k e1).1 e e3)])
      rw [show fLp (fun s : Int => s_X10_keywordHere_b12 K s) 0 = some (.inr (k : Int)) from this, hx]
      rfl
  · rw [if_neg (by omega), if_neg hk]
theorem kd_ne {N : fM} {b : Nat → Int} {L lim p : Nat} (hc : CuM N b L lim p) : (N 122 11 = 1 ↔ tKd b L lim p = 2) ∧ (N 122 11 = 2 ↔ tKd b L lim p = 3) ∧ (N 122 11 = 0 ↔ tKd b L lim p = 0) ∧ ((N 122 11 = 3 ∧ N 122 14 = 59) ↔ tKd b L lim p = 4) ∧ ((N 122 11 = 3 ∧ N 122 14 = 45) ↔ tKd b L lim p = 5) := by
  have hb := tKd_b b L lim p
  obtain ⟨-, -, c0, c1, c2, c3, c4, c5⟩ := hc
  have : tKd b L lim p = 0 ∨ tKd b L lim p = 1 ∨ tKd b L lim p = 2 ∨ tKd b L lim p = 3 ∨ tKd b L lim p = 4 ∨ tKd b L lim p = 5 := by omega
  rcases this with e | e | e | e | e | e
  · have := c0 e
    omega
  · have := c1 e
    omega
  · have := c2 e
    omega
  · have := c3 e
    omega
  · have := c4 e
    omega
  · have := c5 e
    omega
theorem m_word {N : fM} {b : Nat → Int} {L lim p : Nat} (hc : CuM N b L lim p) (hp : p ≤ L) (k : Nat) (hk : k < 30) (x : Int) (hx : x = enc8 (kwW k)) : s_X12_isWord N x = some (bit (kx b L lim p = (k : Int))) := by
  obtain ⟨k1, -, -, -, -⟩ := kd_ne hc
  unfold s_X12_isWord kx
  by_cases h2 : tKd b L lim p = 2
  · have hw := (tW_ok hp h2).1
    obtain ⟨d1, d2⟩ := hc.2.2.2.2.1 h2
    rw [if_neg (fun e => e d1), if_pos h2, d2, hx]
    by_cases e : tW b L p = kwW k
    · rw [if_neg (fun e2 => e2 (by rw [e])), bit1.2 ((kwx_iff hk).2 e)]
    · rw [if_pos (fun e2 => e (enc8_inj _ _ hw.2.2 (kw_ok k hk) e2)), bit0.2 (fun e2 => e ((kwx_iff hk).1 e2))]
  · rw [if_pos (fun e => h2 (k1.1 e)), if_neg h2, bit0.2 (by omega)]
theorem m_name {N : fM} {b : Nat → Int} {L lim p : Nat} (h : PM N b L lim) (hc : CuM N b L lim p) (hp : p ≤ L) : s_X12_isName N = some (bit (tKd b L lim p = 2 ∧ kx b L lim p = -1)) := by
  obtain ⟨k1, -, -, -, -⟩ := kd_ne hc
  have zero : ∀ n, n ≤ 30 → fLp (fun s : Int × Int => s_X12_isName_b16 N s.1 s.2) (0, ((30 - n : Nat) : Int)) = some 0 := by
    intro n hn
    have := fLp_for (b := fun s : Int × Int => s_X12_isName_b16 N s.1 s.2) (fun i => (0, ((30 - n + i : Nat) : Int))) n (e := 0) (fun i hi => ?_) ?_
    · exact this
    · show s_X12_isName_b16 N 0 ((30 - n + i : Nat) : Int) = some (.inl (0, ((30 - n + (i + 1) : Nat) : Int)))
      unfold s_X12_isName_b16
      rw [if_neg (by omega), if_pos rfl, if_pos (by unfold fin; omega)]
      congr 3
    · show s_X12_isName_b16 N 0 ((30 - n + n : Nat) : Int) = _
      unfold s_X12_isName_b16
      rw [if_pos (by omega)]
  unfold s_X12_isName s_X12_isName_j13 s_X12_isName_l16
  by_cases h2 : tKd b L lim p = 2
  · have hw := (tW_ok hp h2).1
    obtain ⟨d1, d2⟩ := hc.2.2.2.2.1 h2
    rw [if_neg (fun e => e d1)]
    have hkx : kx b L lim p = kwx (tW b L p) := if_pos h2
    rw [hkx]
    have hperm : ∀ j, j < 30 → (if j = 11 then 13 else if j = 12 then 11 else if j = 13 then 12 else j) < 30 := by decide
    have hsurj : ∀ k, k < 30 → ∃ j, j < 30 ∧ (if j = 11 then 13 else if j = 12 then 11 else if j = 13 then 12 else j) = k := by decide
    have heq : ∀ j, j < 30 → (N 122 17 = N 127 j ↔ tW b L p = kwW (if j = 11 then 13 else if j = 12 then 11 else if j = 13 then 12 else j)) := fun j hj => by
      rw [h.2 j hj, kw_8 j hj, d2]
      constructor
      · intro e
        exact enc8_inj _ _ hw.2.2 (kw_ok _ (hperm j hj)) e
      · intro e
        rw [e]
    have step1 : ∀ j, j < 30 → ¬ N 122 17 = N 127 j → s_X12_isName_b16 N 1 (j : Int) = some (.inl (1, ((j + 1 : Nat) : Int))) := fun j hj hne => by
      unfold s_X12_isName_b16
      rw [if_neg (by omega), if_neg (by decide), if_pos (by omega), show (j : Int).toNat = j from rfl, if_neg hne, if_pos (by unfold fin; omega)]
      rfl
    by_cases hx : kwx (tW b L p) = -1
    · have hno := kwf_n (tW b L p) 30 (by show kwx (tW b L p) < 0; omega)
      have := fLp_for (b := fun s : Int × Int => s_X12_isName_b16 N s.1 s.2) (fun i => (1, (i : Int))) 30 (e := 1) (fun i hi => step1 i hi (fun e => hno _ (hperm i hi) ((heq i hi).1 e))) (by
        show s_X12_isName_b16 N 1 ((30 : Nat) : Int) = _
        unfold s_X12_isName_b16
        rw [if_pos (by decide)])
      rw [show fLp (fun s : Int × Int => s_X12_isName_b16 N s.1 s.2) (1, 0) = some 1 from this, Option.bind_some, if_pos (.inr rfl), bit1.2 ⟨h2, hx⟩]
    · have hex : ∃ j, j < 30 ∧ N 122 17 = N 127 j := by
        rcases kwf_r (tW b L p) 30 with e | ⟨k, e1, e2, e3⟩
        · exact absurd e hx
        · obtain ⟨j, j1, j2⟩ := hsurj k e1
          exact ⟨j, j1, (heq j j1).2 (by rw [j2]; exact e3)⟩
      obtain ⟨j, j1, j2, j3⟩ := first_of 30 hex
      have hto : fLp (fun s : Int × Int => s_X12_isName_b16 N s.1 s.2) (1, 0) = some 0 := by
        have hrun : ∀ i, i ≤ j → fLp (fun s : Int × Int => s_X12_isName_b16 N s.1 s.2) (1, ((0 : Nat) : Int)) = fLp (fun s : Int × Int => s_X12_isName_b16 N s.1 s.2) (1, (i : Int)) := by
          intro i
          induction i with
          | zero => intro _; rfl
          | succ i ih =>
            intro hi
            rw [ih (by omega)]
            exact fLp_stp (step1 i (by omega) (j3 i (by omega)))
        have h1 := hrun j (Nat.le_refl _)
        rw [show ((0 : Nat) : Int) = 0 from rfl] at h1
        rw [h1, fLp_stp (b := fun s : Int × Int => s_X12_isName_b16 N s.1 s.2) (s := (1, (j : Int))) (s' := (0, ((j + 1 : Nat) : Int))) (by
          show s_X12_isName_b16 N 1 (j : Int) = _
          unfold s_X12_isName_b16
          rw [if_neg (by omega), if_neg (by decide), if_pos (by omega), show (j : Int).toNat = j from rfl, if_pos j2, if_pos (by unfold fin; omega)]
          rfl)]
        have := zero (30 - (j + 1)) (by omega)
        rw [show 30 - (30 - (j + 1)) = j + 1 by omega] at this
        exact this
      rw [hto, Option.bind_some, if_pos (.inl rfl), bit0.2 (fun e => hx e.2)]
  · rw [if_pos (fun e => h2 (k1.1 e))]
    have := zero 30 (Nat.le_refl _)
    rw [show fLp (fun s : Int × Int => s_X12_isName_b16 N s.1 s.2) (0, 0) = some 0 from this, Option.bind_some, if_pos (.inl rfl), bit0.2 (fun e => h2 e.1)]
