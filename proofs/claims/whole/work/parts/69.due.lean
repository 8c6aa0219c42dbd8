/-! ===== due, tunings, past (by hand) ===== -/
def dueF (P : Int → Prop) [DecidablePred P] : Nat → Int → Int
  | 0, _ => -1
  | m + 1, x => if P x then x else dueF P m (x + 1)
theorem c_first {M D : fM} (hw : WF D) {p q kn t : Int} {b : Int → Int} (hl : Lk M D p q kn t b) (hp : 0 ≤ p) (hp2 : p < D 4 13) {more : Int} (hm : -1 ≤ more ∧ more ≤ 1) (hb : ∀ n : Nat, n < 12 → -1098 ≤ b n ∧ b n ≤ 1098) : ∀ (m : Nat) (x : Int), 364 - x = m → 0 ≤ x → t ≤ x → (fLp (fun s => s_X8_firstBeyond_b2 M more s) x).bind (fun e2 => Sum.elim (fun _ => some (-1)) (fun v2 => some v2) e2) = some (dueF (fun y => byP D p q kn t b y more) m x)
  | 0, x, hx, h0, ht => by
    rw [fLp_eq]
    unfold s_X8_firstBeyond_b2
    rw [if_pos (by omega)]
    rfl
  | m + 1, x, hx, h0, ht => by
    rw [fLp_eq]
    show ((s_X8_firstBeyond_b2 M more x).bind _).bind _ = _
    unfold s_X8_firstBeyond_b2
    rw [if_neg (by omega), c_isBeyond hw hl hp hp2 ht (by omega) hm hb, Option.bind_some, bit_if]
    by_cases h : byP D p q kn t b x more
    · rw [if_pos h]
      show some x = some (if byP D p q kn t b x more then x else _)
      rw [if_pos h]
    · rw [if_neg h, if_pos (by unfold fin; omega)]
      show (fLp (fun s => s_X8_firstBeyond_b2 M more s) (x + 1)).bind _ = some (if byP D p q kn t b x more then x else _)
      rw [if_neg h]
      exact c_first hw hl hp hp2 hm hb m (x + 1) (by omega) (by omega) (by omega)
theorem m_first {D : fM} (hw : WF D) {p q kn t : Int} {b : Int → Int} (hp : 0 ≤ p) (hp2 : p < D 4 13) (ht : 0 ≤ t) {more : Int} (hm : -1 ≤ more ∧ more ≤ 1) (hb : ∀ n : Nat, n < 12 → -1098 ≤ b n ∧ b n ≤ 1098) : ∀ (m : Nat) (x : Int) (N : fM), 364 - x = m → 0 ≤ q → q ≤ x → t ≤ q → Co N D p q kn t b (if x = q then q else x - 1) → ∃ N', (fLp (fun s : Int × fM => s_X12_due_b83 s.2 p q more s.1) (x, N)).bind (fun e83 => Sum.elim (fun x83 => some (-1, x83)) (fun v83 => some v83) e83) = some (dueF (fun y => byP D p q kn t b y more) m x, N') ∧ fSame [(122, some 25), (122, some 26)] N N'
  | 0, x, N, hx, hq, hqx, htq, hN => by
    refine ⟨N, ?_, fs_refl⟩
    rw [fLp_eq]
    unfold s_X12_due_b83
    show ((if 364 ≤ x then _ else _ : Option _).bind _).bind _ = _
    rw [if_pos (by omega)]
    rfl
  | m + 1, x, N, hx, hq, hqx, htq, hN => by
    -- behind the passing
    have go : ∀ K : fM, Co K D p q kn t b x → fSame [(122, some 25), (122, some 26)] N K → s_X12_due_b83 N p q more x = s_X12_due_j103 K p q more x → ∃ N', (fLp (fun s : Int × fM => s_X12_due_b83 s.2 p q more s.1) (x, N)).bind (fun e83 => Sum.elim (fun x83 => some (-1, x83)) (fun v83 => some v83) e83) = some (dueF (fun y => byP D p q kn t b y more) (m + 1) x, N') ∧ fSame [(122, some 25), (122, some 26)] N N' := by
      intro K hK hs hb83
      have e1 : s_X12_due_j103 K p q more x = if byP D p q kn t b x more then some (.inr (.inr (x, K))) else some (.inl (x + 1, K)) := by
        unfold s_X12_due_j103
        rw [m_offOf hw hK hp hp2 ht (by omega) (by omega) hm hb, Option.bind_some, m_of hK.1 hw.1 hp hp2 (by decide) (by decide), Option.bind_some]
        by_cases h : byP D p q kn t b x more
        · rw [if_pos h, if_neg (by rcases h with h | h <;> omega)]
        · rw [if_neg h, if_pos (by have : ¬ (t < 0 ∨ _) := h; omega), if_pos (by unfold fin; omega)]
      rw [fLp_eq]
      show ∃ N', ((s_X12_due_b83 N p q more x).bind _).bind _ = some (if byP D p q kn t b x more then x else _, N') ∧ _
      rw [hb83, e1]
      by_cases h : byP D p q kn t b x more
      · rw [if_pos h, if_pos h]
        exact ⟨K, rfl, hs⟩
      · rw [if_neg h, if_neg h]
        obtain ⟨N', a1, a2⟩ := m_first hw hp hp2 ht hm hb m (x + 1) K (by omega) hq (by omega) htq (by rw [if_neg (by omega), show x + 1 - 1 = x by omega]; exact hK)
        exact ⟨N', a1, fs_trans hs a2⟩
    by_cases hxq : x = q
    · subst hxq
      rw [if_pos rfl] at hN
      refine go N hN fs_refl ?_
      unfold s_X12_due_b83
      rw [if_neg (by omega), if_pos (by omega)]
    · rw [if_neg hxq] at hN
      obtain ⟨K, p1, p2, p3⟩ := m_pass hw hN hp hp2 ht (by omega) (by omega)
      refine go K p2 p3 ?_
      unfold s_X12_due_b83
      rw [if_neg (by omega), if_neg (by omega), p1]
      rfl
theorem k_due {M : fM} (hI : Iv M) (a d kn how : Int) : ∃ v M1 M2, s_X11_due M a d kn how = some (v, M1) ∧ M1 1000 = M 1000 ∧ s_X12_due M1 a d kn how = some (v, M2) ∧ Iv M2 := by
  obtain ⟨D, hc, hw, hm, hnm, hr, hn0⟩ := hI.2.2.2.1
  by_cases h : ((0 ≤ a ∧ a < D 4 13) ∧ (0 ≤ d ∧ d < 364) ∧ (-1 ≤ kn ∧ kn < 364)) ∧ (0 ≤ how ∧ how < 3)
  · obtain ⟨⟨ha, hd, hk⟩, hh⟩ := h
    obtain ⟨K, c1, c2, c3⟩ := c_look hc hw ha.1 ha.2 d kn
    have tb := tdV_b hw a d kn
    have bn := lfV_bn hw a d kn
    have hm1 : MRh (fup K 122 0 0) 124 0 D := MRh_row (by rw [fup_ne (by decide), fs_row c3 124 (by decide)]) hm
    obtain ⟨N1, g1, g2, g3, g4⟩ := m_to (N := fup K 122 0 0) hm1 (MRr_row (by rw [fup_ne (by decide), fs_row c3 125 (by decide)]) hr) (by rw [show fup K 122 0 0 122 10 = K 122 10 from rfl, fs_row c3 122 (by decide)]; exact hn0) hw ha.1 ha.2 hd.1 hd.2 kn
    have hI1 : Iv N1 := Iv_same g2 (by decide) (Iv_thrown (Iv_same c3 (by decide) hI))
    generalize hmo : (if how = 2 then -1 else how) = mo
    have hmb : -1 ≤ mo ∧ mo ≤ 1 := by rw [← hmo]; split <;> omega
    generalize hT : tdV D (lat D 0 a d kn) = T at *
    generalize hB : lfV D (lat D 0 a d kn) = B at *
    have cc : s_X11_due M a d kn how = some (dueF (fun y => byP D a d kn T B y mo) (364 - d).toNat d, K) := by
      unfold s_X11_due
      rw [c_isAsked hc, Option.bind_some, bit_if, if_pos ⟨ha, hd, hk⟩, c_isWithin, Option.bind_some, bit_ifn, if_pos hh, c1, Option.bind_some]
      have e : s_X11_due_j49 K d mo = some (dueF (fun y => byP D a d kn T B y mo) (364 - d).toNat d, K) := by
        unfold s_X11_due_j49 s_X8_firstBeyond s_X8_firstBeyond_l2
        rw [c_first hw c2 ha.1 ha.2 hmb bn (364 - d).toNat d (by omega) hd.1 (tb.2.2.2 hd.1)]
        rfl
      show (if ¬ how = 2 then s_X11_due_j49 K d how else s_X11_due_j49 K d (-1)) = _
      by_cases h2 : how = 2
      · rw [if_neg (fun x => x h2), ← e, ← hmo, if_pos h2]
      · rw [if_pos h2, ← e, ← hmo, if_neg h2]
    by_cases h0 : 0 ≤ lat D 0 a d kn
    · have ht := tb.2.2.1.mpr h0
      obtain ⟨N2, p1, p2, p3⟩ := (g4 h0).2
      obtain ⟨N3, q1, q2⟩ := m_first hw ha.1 ha.2 ht hmb bn (364 - d).toNat d N2 (by omega) hd.1 (Int.le_refl _) (tb.2.2.2 hd.1) (by rw [if_pos rfl]; exact p2)
      refine ⟨_, K, N3, cc, fs_row c3 1000 (by decide), ?_, Iv_same q2 (by decide) (Iv_same p3 (by decide) hI1)⟩
      have e : s_X12_due_j78 N2 a d mo = some (dueF (fun y => byP D a d kn T B y mo) (364 - d).toNat d, N3) := by
        unfold s_X12_due_j78 s_X12_due_l83
        exact q1
      unfold s_X12_due
      rw [m_isPiano hm1 hw.1, m_isDay, m_isKnown, m_isIn, Option.bind_some, bit_if, if_pos ha, Option.bind_some, bit_if, if_pos hd, Option.bind_some, bit_if, if_pos hk, Option.bind_some, bit_ifn, if_pos (by omega), g1, Option.bind_some, bit_ifn, if_pos h0]
      show (s_X12_passTo N1 d).bind _ = _
      rw [p1, Option.bind_some]
      show (if ¬ how = 1 then (if ¬ how = 2 then s_X12_due_j78 N2 a d 0 else s_X12_due_j78 N2 a d (-1)) else s_X12_due_j78 N2 a d 1) = _
      rw [← e, ← hmo]
      by_cases h1 : how = 1
      · rw [if_neg (fun x => x h1), if_neg (by omega), h1]
      · rw [if_pos h1]
        by_cases h2 : how = 2
        · rw [if_neg (fun x => x h2), if_pos h2]
        · rw [if_pos h2, if_neg h2, show how = 0 by omega]
    · have ht : ¬ 0 ≤ T := fun e => h0 (tb.2.2.1.mp e)
      have ed : dueF (fun y => byP D a d kn T B y mo) (364 - d).toNat d = d := by
        obtain ⟨m, hm'⟩ : ∃ m, (364 - d).toNat = m + 1 := ⟨(363 - d).toNat, by omega⟩
        rw [hm']
        show (if byP D a d kn T B d mo then d else _) = d
        rw [if_pos (.inl (by omega))]
      refine ⟨_, K, N1, cc, fs_row c3 1000 (by decide), ?_, hI1⟩
      unfold s_X12_due
      rw [m_isPiano hm1 hw.1, m_isDay, m_isKnown, m_isIn, Option.bind_some, bit_if, if_pos ha, Option.bind_some, bit_if, if_pos hd, Option.bind_some, bit_if, if_pos hk, Option.bind_some, bit_ifn, if_pos (by omega), g1, Option.bind_some, bit_ifn, if_neg h0, ed]
  · have hm1 : MRh (fup M 122 0 0) 124 0 D := MRh_row (fup_ne (by decide)) hm
    refine ⟨-2, M, fup M 122 0 0, ?_, rfl, ?_, Iv_thrown hI⟩
    · unfold s_X11_due
      rw [c_isAsked hc, Option.bind_some, bit_if]
      by_cases x1 : (0 ≤ a ∧ a < D 4 13) ∧ (0 ≤ d ∧ d < 364) ∧ (-1 ≤ kn ∧ kn < 364)
      · rw [if_pos x1, c_isWithin, Option.bind_some, bit_ifn, if_neg (fun e => h ⟨x1, e⟩)]
      · rw [if_neg x1]
    · unfold s_X12_due
      rw [m_isPiano hm1 hw.1, m_isDay, m_isKnown, m_isIn, Option.bind_some, bit_if]
      by_cases x1 : 0 ≤ a ∧ a < D 4 13
      · rw [if_pos x1, Option.bind_some, bit_if]
        by_cases x3 : 0 ≤ d ∧ d < 364
        · rw [if_pos x3, Option.bind_some, bit_if]
          by_cases x4 : -1 ≤ kn ∧ kn < 364
          · rw [if_pos x4, Option.bind_some, bit_ifn, if_neg (fun e => h ⟨⟨x1, x3, x4⟩, by omega⟩)]
          · rw [if_neg x4]
        · rw [if_neg x3]
      · rw [if_neg x1]
/-! tunings -/
def tunF (D : fM) (p q kn : Int) : Nat → Int → Int → (Int → Int) → Int → Int
  | 0, _, _, _, c => c
  | m + 1, x, t, b, c => if byP D p q kn t b x 0 then tunF D p q kn m (x + 1) x (fun _ => 0) (c + 1) else tunF D p q kn m (x + 1) t b c
theorem tunF_b (D : fM) (p q kn : Int) : ∀ (m : Nat) (x t : Int) (b : Int → Int) (c : Int), c ≤ tunF D p q kn m x t b c ∧ tunF D p q kn m x t b c ≤ c + m
  | 0, _, _, _, c => ⟨Int.le_refl _, by show c ≤ c + ((0 : Nat) : Int); omega⟩
  | m + 1, x, t, b, c => by
    show c ≤ (if byP D p q kn t b x 0 then tunF D p q kn m (x + 1) x (fun _ => 0) (c + 1) else tunF D p q kn m (x + 1) t b c) ∧ (if byP D p q kn t b x 0 then tunF D p q kn m (x + 1) x (fun _ => 0) (c + 1) else tunF D p q kn m (x + 1) t b c) ≤ c + ((m + 1 : Nat) : Int)
    split
    · have := tunF_b D p q kn m (x + 1) x (fun _ => 0) (c + 1); omega
    · have := tunF_b D p q kn m (x + 1) t b c; omega
theorem c_tun {D : fM} (hw : WF D) {p q kn : Int} (hp : 0 ≤ p) (hp2 : p < D 4 13) : ∀ (m : Nat) (x t : Int) (b : Int → Int) (c : Int) (M : fM), Lk M D p q kn t b → 364 - x = m → 0 ≤ x → t ≤ x → 0 ≤ c → c ≤ x → (∀ n : Nat, n < 12 → -1098 ≤ b n ∧ b n ≤ 1098) → ∃ M', fLp (fun s : Int × Int × fM => s_X8_tuningsFrom_b13 s.2.2 s.1 s.2.1) (c, x, M) = some (tunF D p q kn m x t b c, M') ∧ fSame [(43, some 6), (46, none)] M M'
  | 0, x, t, b, c, M, hl, hx, h0, ht, hc0, hcx, hb => by
    refine ⟨M, ?_, fs_refl⟩
    rw [fLp_eq]
    show (s_X8_tuningsFrom_b13 M c x).bind _ = _
    unfold s_X8_tuningsFrom_b13
    rw [if_pos (by omega)]
    rfl
  | m + 1, x, t, b, c, M, hl, hx, h0, ht, hc0, hcx, hb => by
    rw [fLp_eq]
    show ∃ M', (s_X8_tuningsFrom_b13 M c x).bind _ = some (if byP D p q kn t b x 0 then tunF D p q kn m (x + 1) x (fun _ => 0) (c + 1) else tunF D p q kn m (x + 1) t b c, M') ∧ _
    unfold s_X8_tuningsFrom_b13
    rw [if_neg (by omega), c_isBeyond hw hl hp hp2 ht (by omega) (by omega) hb, Option.bind_some, bit_if]
    by_cases h : byP D p q kn t b x 0
    · rw [if_pos h, if_pos h, if_pos (by unfold fin; omega), fill_46, Option.bind_some, if_pos (by unfold fin; omega)]
      obtain ⟨e1, e2, e3, e4, e5, e6⟩ := hl
      have hl2 : Lk (ffill (fup M 43 6 x) 46 12 0) D p q kn x (fun _ => 0) := ⟨fun k a1 a2 => by rw [Nat.add_zero, ffill_ne (by omega), fup_ne (by omega)]; exact e1 k a1 a2, by rw [ffill_ne (by decide)]; exact e2, by rw [ffill_ne (by decide)]; rfl, fun y hy => by rw [ffill_ne (by decide), fup_ne (by decide)]; exact e4 y hy, fun y hy => by rw [ffill_ne (by decide), fup_ne (by decide)]; exact e5 y hy, fun n hn => ffill_at _ _ _ _ hn⟩
      obtain ⟨M', a1, a2⟩ := c_tun hw hp hp2 m (x + 1) x (fun _ => 0) (c + 1) _ hl2 (by omega) (by omega) (by omega) (by omega) (by omega) (fun n hn => by show -1098 ≤ (0 : Int) ∧ (0 : Int) ≤ 1098; omega)
      refine ⟨M', a1, fs_trans ?_ a2⟩
      intro k j hnm
      rw [ffill_ne (fun e => hnm (.inl (by rw [e]; decide)))]
      unfold fup
      rw [if_neg (fun e => hnm (.inr (by rw [e.1, e.2]; decide)))]
    · rw [if_neg h, if_neg h, if_pos (by unfold fin; omega)]
      exact c_tun hw hp hp2 m (x + 1) t b c M hl (by omega) (by omega) (by omega) hc0 (by omega) hb
theorem m_zero {N : fM} (l1 l2 l4 l5 l6 : Int) : s_X12_tuningsOf_l78 l1 l2 l4 l5 l6 (0, N) = some (ffill N 129 12 0) := by
  unfold s_X12_tuningsOf_l78
  have e0 : N = ffill N 129 0 0 := by
    funext a j
    unfold ffill
    rw [if_neg (by omega)]
  have key := fLp_for (b := fun s : Int × fM => s_X12_tuningsOf_b78 s.2 l1 l2 l4 l5 l6 s.1) (fun i => ((i : Int), ffill N 129 i 0)) 12 (e := ffill N 129 12 0) (fun i hi => ?_) rfl
  · rw [← e0] at key
    exact key
  · show s_X12_tuningsOf_b78 (ffill N 129 i 0) l1 l2 l4 l5 l6 (i : Int) = some (Sum.inl ((i : Int) + 1, ffill N 129 (i + 1) 0))
    unfold s_X12_tuningsOf_b78
    rw [if_neg (by omega), if_pos (by unfold fin; omega), Int.toNat_natCast, ffill_s]
/-- a tuning on day x -/
theorem m_j69 {D : fM} (hw : WF D) {p q kn : Int} {N : fM} (hN : Cp N D p q kn) {c x : Int} (h0 : 0 ≤ x) (hx : x < 364) (hc : 0 ≤ c) (hc2 : c ≤ x) : ∃ N', s_X12_tuningsOf_j69 N p q c x = some (.inl (1, c + 1, x + 1, N')) ∧ Co N' D p q kn x (fun _ => 0) x ∧ fSame coL N N' := by
  obtain ⟨mh, mr, e10, e27, e128⟩ := hN
  obtain ⟨N2, a1, a2, a3⟩ := m_tune hw (p := p) (q := q) (kn := kn) (M := ffill N 129 12 0) ⟨MRh_row (ffill_ne (by decide)) mh, MRr_row (ffill_ne (by decide)) mr, by rw [ffill_ne (by decide)]; exact e10, by rw [ffill_ne (by decide)]; exact e27, fun y hy => by rw [ffill_ne (by decide)]; exact e128 y hy⟩ (b := fun _ => 0) (fun n hn => ffill_at _ _ _ _ hn) h0 hx
  refine ⟨N2, ?_, a2, fs_trans (M1 := ffill N 129 12 0) ?_ (fs_mono (by decide) a3)⟩
  · unfold s_X12_tuningsOf_j69
    rw [if_pos (by unfold fin; omega), m_zero, Option.bind_some, a1, Option.bind_some, if_pos (by unfold fin; omega)]
  · intro k j hnm
    rw [ffill_ne (fun e => hnm (.inl (by rw [e]; decide)))]
theorem m_tun {D : fM} (hw : WF D) {p q kn : Int} (hp : 0 ≤ p) (hp2 : p < D 4 13) (hq : 0 ≤ q) : ∀ (m : Nat) (x t : Int) (b : Int → Int) (c : Int) (N : fM), Co N D p q kn t b (if x = q then q else x - 1) → 0 ≤ t → 364 - x = m → q ≤ x → t ≤ (if x = q then q else x - 1) → 0 ≤ c → c ≤ x → (∀ n : Nat, n < 12 → -1098 ≤ b n ∧ b n ≤ 1098) → ∃ N', fLp (fun s : Int × Int × Int × fM => s_X12_tuningsOf_b25 s.2.2.2 p q s.1 s.2.1 s.2.2.1) (1, c, x, N) = some (tunF D p q kn m x t b c, N') ∧ fSame coL N N'
  | 0, x, t, b, c, N, hN, h0, hx, hqx, ht, hc0, hcx, hb => by
    refine ⟨N, ?_, fs_refl⟩
    rw [fLp_eq]
    show (s_X12_tuningsOf_b25 N p q 1 c x).bind _ = _
    unfold s_X12_tuningsOf_b25
    rw [if_pos (by omega)]
    rfl
  | m + 1, x, t, b, c, N, hN, h0, hx, hqx, ht, hc0, hcx, hb => by
    have go : ∀ K : fM, Co K D p q kn t b x → t ≤ x → fSame coL N K → s_X12_tuningsOf_b25 N p q 1 c x = s_X12_tuningsOf_j45 K p q 1 c x → ∃ N', fLp (fun s : Int × Int × Int × fM => s_X12_tuningsOf_b25 s.2.2.2 p q s.1 s.2.1 s.2.2.1) (1, c, x, N) = some (tunF D p q kn (m + 1) x t b c, N') ∧ fSame coL N N' := by
      intro K hK htx hs hb25
      rw [fLp_eq]
      show ∃ N', (s_X12_tuningsOf_b25 N p q 1 c x).bind _ = some (if byP D p q kn t b x 0 then tunF D p q kn m (x + 1) x (fun _ => 0) (c + 1) else tunF D p q kn m (x + 1) t b c, N') ∧ _
      rw [hb25]
      unfold s_X12_tuningsOf_j45
      rw [if_neg (by decide), m_offOf hw hK hp hp2 h0 htx (by omega) (by omega) hb, Option.bind_some, m_of hK.1 hw.1 hp hp2 (by decide) (by decide), Option.bind_some]
      by_cases h : byP D p q kn t b x 0
      · obtain ⟨N2, a1, a2, a3⟩ := m_j69 hw (Co_Cp hK) (c := c) (x := x) (by omega) (by omega) hc0 hcx
        rw [if_pos h, if_pos (by rcases h with h | h <;> omega), a1]
        obtain ⟨N', b1, b2⟩ := m_tun hw hp hp2 hq m (x + 1) x (fun _ => 0) (c + 1) N2 (by rw [if_neg (by omega), show x + 1 - 1 = x by omega]; exact a2) (by omega) (by omega) (by omega) (by rw [if_neg (by omega)]; omega) (by omega) (by omega) (fun n hn => by show -1098 ≤ (0 : Int) ∧ (0 : Int) ≤ 1098; omega)
        exact ⟨N', b1, fs_trans hs (fs_trans a3 b2)⟩
      · rw [if_neg h, if_neg (by have : ¬ (t < 0 ∨ _) := h; omega), if_pos (by unfold fin; omega)]
        obtain ⟨N', b1, b2⟩ := m_tun hw hp hp2 hq m (x + 1) t b c K (by rw [if_neg (by omega), show x + 1 - 1 = x by omega]; exact hK) h0 (by omega) (by omega) (by rw [if_neg (by omega)]; omega) hc0 (by omega) hb
        exact ⟨N', b1, fs_trans hs b2⟩
    by_cases hxq : x = q
    · subst hxq
      rw [if_pos rfl] at hN ht
      refine go N hN ht fs_refl ?_
      unfold s_X12_tuningsOf_b25
      rw [if_neg (by omega), if_pos (by omega)]
    · rw [if_neg hxq] at hN ht
      obtain ⟨K, p1, p2, p3⟩ := m_pass hw hN hp hp2 h0 ht (by omega)
      refine go K p2 (by omega) (fs_mono (by decide) p3) ?_
      unfold s_X12_tuningsOf_b25
      rw [if_neg (by omega), if_neg (by omega), p1]
      rfl
theorem c_tuningsFrom {M D : fM} (hc : CR M 0 D) (hw : WF D) {p : Int} (hp : 0 ≤ p) (hp2 : p < D 4 13) {q : Int} (hq : 0 ≤ q) (hq2 : q < 364) (kn : Int) : ∃ M', s_X8_tuningsFrom M p q kn = some (tunF D p q kn (364 - q).toNat q (tdV D (lat D 0 p q kn)) (lfV D (lat D 0 p q kn)) 0, M') ∧ fSame lkL M M' := by
  obtain ⟨K, c1, c2, c3⟩ := c_look hc hw hp hp2 q kn
  have tb := tdV_b hw p q kn
  obtain ⟨M', a1, a2⟩ := c_tun hw hp hp2 (364 - q).toNat q _ _ 0 K c2 (by omega) hq (tb.2.2.2 hq) (by omega) hq (lfV_bn hw p q kn)
  refine ⟨M', ?_, fs_trans c3 (fs_mono (by decide) a2)⟩
  unfold s_X8_tuningsFrom s_X8_tuningsFrom_l13
  rw [c1, Option.bind_some]
  show (fLp _ (0, q, K)).bind _ = _
  rw [a1]
  rfl
theorem m_tuningsOf {N D : fM} (hm : MRh N 124 0 D) (hr : MRr N 125 0 D) (hn0 : N 122 10 = D 18 8) (hw : WF D) {p : Int} (hp : 0 ≤ p) (hp2 : p < D 4 13) {q : Int} (hq : 0 ≤ q) (hq2 : q < 364) (kn : Int) : ∃ N', s_X12_tuningsOf N p q kn = some (tunF D p q kn (364 - q).toNat q (tdV D (lat D 0 p q kn)) (lfV D (lat D 0 p q kn)) 0, N') ∧ fSame coL N N' := by
  obtain ⟨N1, g1, g2, g3, g4⟩ := m_to hm hr hn0 hw hp hp2 hq hq2 kn
  have tb := tdV_b hw p q kn
  by_cases h0 : 0 ≤ lat D 0 p q kn
  · have ht := tb.2.2.1.mpr h0
    obtain ⟨N2, p1, p2, p3⟩ := (g4 h0).2
    obtain ⟨N3, q1, q2⟩ := m_tun hw hp hp2 hq (364 - q).toNat q _ _ 0 N2 (by rw [if_pos rfl]; exact p2) ht (by omega) (Int.le_refl _) (by rw [if_pos rfl]; exact tb.2.2.2 hq) (by omega) hq (lfV_bn hw p q kn)
    refine ⟨N3, ?_, fs_trans g2 (fs_trans p3 q2)⟩
    unfold s_X12_tuningsOf s_X12_tuningsOf_j19 s_X12_tuningsOf_l25
    rw [g1, Option.bind_some, bit_if, if_pos h0]
    show (s_X12_passTo N1 q).bind _ = _
    rw [p1, Option.bind_some, show bit (0 ≤ lat D 0 p q kn) = 1 from bit1.mpr h0]
    show (fLp _ (1, 0, q, N2)).bind _ = _
    rw [q1]
    rfl
  · have ht : ¬ 0 ≤ tdV D (lat D 0 p q kn) := fun e => h0 (tb.2.2.1.mp e)
    obtain ⟨m, hm'⟩ : ∃ m, (364 - q).toNat = m + 1 := ⟨(363 - q).toNat, by omega⟩
    obtain ⟨N2, a1, a2, a3⟩ := m_j69 hw g3 (c := 0) (x := q) hq hq2 (by omega) hq
    obtain ⟨N3, q1, q2⟩ := m_tun hw hp hp2 hq m (q + 1) q (fun _ => 0) (0 + 1) N2 (by rw [if_neg (by omega), show q + 1 - 1 = q by omega]; exact a2) hq (by omega) (by omega) (by rw [if_neg (by omega)]; omega) (by omega) (by omega) (fun n hn => by show -1098 ≤ (0 : Int) ∧ (0 : Int) ≤ 1098; omega)
    refine ⟨N3, ?_, fs_trans g2 (fs_trans a3 q2)⟩
    unfold s_X12_tuningsOf s_X12_tuningsOf_j19 s_X12_tuningsOf_l25
    rw [g1, Option.bind_some, bit_if, if_neg h0, show bit (0 ≤ lat D 0 p q kn) = 0 from bit0.mpr h0, hm']
    show (fLp _ (0, 0, q, N1)).bind _ = some (if byP D p q kn _ _ q 0 then tunF D p q kn m (q + 1) q (fun _ => 0) (0 + 1) else _, N3)
    rw [if_pos (.inl (by omega)), fLp_eq]
    show ((s_X12_tuningsOf_b25 N1 p q 0 0 q).bind _).bind _ = _
    have hb : s_X12_tuningsOf_b25 N1 p q 0 0 q = some (.inl (1, 0 + 1, q + 1, N2)) := by
      unfold s_X12_tuningsOf_b25 s_X12_tuningsOf_j45
      rw [if_neg (by omega), if_pos (by omega), if_pos rfl, a1]
    rw [hb]
    show (fLp _ (1, 0 + 1, q + 1, N2)).bind _ = _
    rw [q1]
    rfl
theorem k_tunings {M : fM} (hI : Iv M) (a d kn : Int) : ∃ v M1 M2, s_X11_tunings M a d kn = some (v, M1) ∧ M1 1000 = M 1000 ∧ s_X12_tunings M1 a d kn = some (v, M2) ∧ Iv M2 := by
  obtain ⟨D, hc, hw, hm, hnm, hr, hn0⟩ := hI.2.2.2.1
  by_cases h : (0 ≤ a ∧ a < D 4 13) ∧ (0 ≤ d ∧ d < 364) ∧ (-1 ≤ kn ∧ kn < 364)
  · obtain ⟨ha, hd, hk⟩ := h
    obtain ⟨K, c1, c3⟩ := c_tuningsFrom hc hw ha.1 ha.2 hd.1 hd.2 kn
    have hm1 : MRh (fup K 122 0 0) 124 0 D := MRh_row (by rw [fup_ne (by decide), fs_row c3 124 (by decide)]) hm
    obtain ⟨N1, g1, g2⟩ := m_tuningsOf (N := fup K 122 0 0) hm1 (MRr_row (by rw [fup_ne (by decide), fs_row c3 125 (by decide)]) hr) (by rw [show fup K 122 0 0 122 10 = K 122 10 from rfl, fs_row c3 122 (by decide)]; exact hn0) hw ha.1 ha.2 hd.1 hd.2 kn
    refine ⟨tunF D a d kn (364 - d).toNat d (tdV D (lat D 0 a d kn)) (lfV D (lat D 0 a d kn)) 0, K, N1, ?_, fs_row c3 1000 (by decide), ?_, Iv_same g2 (by decide) (Iv_thrown (Iv_same c3 (by decide) hI))⟩
    · unfold s_X11_tunings
      rw [c_isAsked hc, Option.bind_some, bit_if, if_pos ⟨ha, hd, hk⟩, c1]
      rfl
    · unfold s_X12_tunings
      rw [m_isPiano hm1 hw.1, m_isDay, m_isKnown, Option.bind_some, bit_if, if_pos ha, Option.bind_some, bit_if, if_pos hd, Option.bind_some, bit_if, if_pos hk, g1]
      rfl
  · have hm1 : MRh (fup M 122 0 0) 124 0 D := MRh_row (fup_ne (by decide)) hm
    refine ⟨-1, M, fup M 122 0 0, ?_, rfl, ?_, Iv_thrown hI⟩
    · unfold s_X11_tunings
      rw [c_isAsked hc, Option.bind_some, bit_if, if_neg h]
    · unfold s_X12_tunings
      rw [m_isPiano hm1 hw.1, m_isDay, m_isKnown, Option.bind_some, bit_if]
      by_cases x1 : 0 ≤ a ∧ a < D 4 13
      · rw [if_pos x1, Option.bind_some, bit_if]
        by_cases x3 : 0 ≤ d ∧ d < 364
        · rw [if_pos x3, Option.bind_some, bit_if, if_neg (fun e => h ⟨x1, x3, e⟩)]
        · rw [if_neg x3]
      · rw [if_neg x1]
theorem k_past {M : fM} (hI : Iv M) (a d kn : Int) : ∃ v M1 M2, s_X11_past M a d kn = some (v, M1) ∧ M1 1000 = M 1000 ∧ s_X12_past M1 a d kn = some (v, M2) ∧ Iv M2 := by
  obtain ⟨D, hc, hw, hm, hnm, hr, hn0⟩ := hI.2.2.2.1
  by_cases h : (0 ≤ a ∧ a < D 4 13) ∧ (0 ≤ d ∧ d < 364) ∧ (-1 ≤ kn ∧ kn < 364)
  · obtain ⟨ha, hd, hk⟩ := h
    obtain ⟨K, c1, c3⟩ := c_tuningsFrom hc hw ha.1 ha.2 hd.1 hd.2 kn
    have hcK : CR K 0 D := CR_same c3 (by decide) hc
    have hm1 : MRh (fup K 122 0 0) 124 0 D := MRh_row (by rw [fup_ne (by decide), fs_row c3 124 (by decide)]) hm
    obtain ⟨N1, g1, g2⟩ := m_tuningsOf (N := fup K 122 0 0) hm1 (MRr_row (by rw [fup_ne (by decide), fs_row c3 125 (by decide)]) hr) (by rw [show fup K 122 0 0 122 10 = K 122 10 from rfl, fs_row c3 122 (by decide)]; exact hn0) hw ha.1 ha.2 hd.1 hd.2 kn
    have hmN : MRh N1 124 0 D := MRh_row (fs_row g2 124 (by decide)) hm1
    have tb := tunF_b D a d kn (364 - d).toNat d (tdV D (lat D 0 a d kn)) (lfV D (lat D 0 a d kn)) 0
    have fb := feeV_b hw a d
    generalize hT : tunF D a d kn (364 - d).toNat d (tdV D (lat D 0 a d kn)) (lfV D (lat D 0 a d kn)) 0 = T at *
    have mb := mul_bd (x := T) (y := feeV D a d) (A := 1000) (B := 10000) (by omega) (by omega) (by omega) fb.1 (by omega)
    refine ⟨if T * feeV D a d ≤ D 10 (a * 10 + 5).toNat then 0 else 1, K, N1, ?_, fs_row c3 1000 (by decide), ?_, Iv_same g2 (by decide) (Iv_thrown (Iv_same c3 (by decide) hI))⟩
    · unfold s_X11_past
      rw [c_isAsked hc, Option.bind_some, bit_ifn, if_pos ⟨ha, hd, hk⟩, c1, Option.bind_some]
      show (s_X2_feeOf_4 K a d).bind _ = _
      rw [c_feeOf hcK hw ha.1 ha.2, Option.bind_some]
      show (if fin (T * feeV D a d) then (s_X2_fact_4 K a 5).bind (fun y42 => if T * feeV D a d ≤ y42 then some (0, K) else some (1, K)) else none) = _
      rw [if_pos (by unfold fin; omega), c_fact hcK hw.1 ha.1 ha.2 (by decide) (by decide), Option.bind_some]
      split <;> rfl
    · unfold s_X12_past
      rw [m_isPiano hm1 hw.1, m_isDay, m_isKnown, Option.bind_some, bit_if, if_pos ha, Option.bind_some, bit_if, if_pos hd, Option.bind_some, bit_ifn, if_pos hk, g1, Option.bind_some]
      show (s_X12_feeOf N1 a d).bind _ = _
      rw [m_feeOf hmN hw ha.1 ha.2, Option.bind_some]
      show (if fin (T * feeV D a d) then (s_X12_of N1 a 5).bind (fun y42 => if T * feeV D a d ≤ y42 then some (0, N1) else some (1, N1)) else none) = _
      rw [if_pos (by unfold fin; omega), m_of hmN hw.1 ha.1 ha.2 (by decide) (by decide), Option.bind_some]
      split <;> rfl
  · have hm1 : MRh (fup M 122 0 0) 124 0 D := MRh_row (fup_ne (by decide)) hm
    refine ⟨-1, M, fup M 122 0 0, ?_, rfl, ?_, Iv_thrown hI⟩
    · unfold s_X11_past
      rw [c_isAsked hc, Option.bind_some, bit_ifn, if_neg h]
    · unfold s_X12_past
      rw [m_isPiano hm1 hw.1, m_isDay, m_isKnown, Option.bind_some, bit_if]
      by_cases x1 : 0 ≤ a ∧ a < D 4 13
      · rw [if_pos x1, Option.bind_some, bit_if]
        by_cases x3 : 0 ≤ d ∧ d < 364
        · rw [if_pos x3, Option.bind_some, bit_ifn, if_neg (fun e => h ⟨x1, x3, e⟩)]
        · rw [if_neg x3]
      · rw [if_neg x1]
