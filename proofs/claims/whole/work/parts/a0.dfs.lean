/-! ===== round: the reference walks all orders ===== -/
theorem fLp_stp {σ ε : Type} {b : σ → Option (σ ⊕ ε)} {s s' : σ} (h : b s = some (.inl s')) : fLp b s = fLp b s' := by
  rw [fLp_eq, h]
  rfl
theorem SM_fs {l : List (Nat × Option Nat)} {N N' : fM} {S : Sc} (f : fSame l N N') (hn : fNo l [124, 133, 134, 135, 136, 137] [(122, 39), (122, 40), (122, 41)]) (h : SM N S) : SM N' S := by
  obtain ⟨h1, ⟨h2, h3⟩, h4, h5⟩ := h
  refine ⟨MRh_row (fno_row f hn 124 (by decide)) h1, ⟨fun i hi => ?_, ?_⟩, ?_, ?_⟩
  · rw [fno_row f hn 133 (by decide), fno_row f hn 134 (by decide), fno_row f hn 135 (by decide), fno_row f hn 136 (by decide), fno_row f hn 137 (by decide)]
    exact h2 i hi
  · rw [fno_fld f hn 122 39 (by decide)]; exact h3
  · rw [fno_fld f hn 122 40 (by decide)]; exact h4
  · rw [fno_fld f hn 122 41 (by decide)]; exact h5
abbrev dfL : List (Nat × Option Nat) := [(122, some 46), (122, some 47), (122, some 48), (138, none), (139, none), (140, none), (141, none)]
abbrev cnL : List (Nat × Option Nat) := [(122, some 46), (122, some 47), (122, some 48), (141, none)]
def BR (K : fM) (S : Sc) (w : Nat → Int) (b : List Nat) : Prop := K 122 46 = b.length ∧ K 122 47 = wl w b ∧ K 122 48 = hm S b ∧ ∀ j, j < b.length → K 141 j = S.r (nth b j)
def DS (K : fM) (S : Sc) (s : List Nat) (i : Nat) : Prop := (∀ j, j < s.length → K 138 j = ((nth s j : Nat) : Int)) ∧ (∀ j, j ≤ s.length → K 139 j = (run S (p0 S) (s.take j)).2) ∧ (∀ j, j < s.length → K 140 j = ((nth s j : Nat) : Int) + 1) ∧ K 140 s.length = (i : Int)
theorem run_last (S : Sc) (p : Nat × Int) : ∀ s : List Nat, s ≠ [] → (run S p s).1 = nth s (s.length - 1) := by
  intro s hne
  obtain ⟨s', l, rfl⟩ : ∃ s' l, s = s' ++ [l] := ⟨s.dropLast, s.getLast hne, (List.dropLast_concat_getLast hne).symm⟩
  rw [run_snoc, List.length_append]
  show l = nth (s' ++ [l]) (s'.length + 1 - 1)
  rw [Nat.add_sub_cancel, nth_n]
theorem wl_bd {w : Nat → Int} (w50 : ∀ i, 0 ≤ w i ∧ w i ≤ 50) : ∀ s : List Nat, 0 ≤ wl w s ∧ wl w s ≤ 50 * (s.length : Int)
  | [] => by show (0 : Int) ≤ 0 ∧ (0 : Int) ≤ 50 * ((0 : Nat) : Int); omega
  | q :: s => by
    have := wl_bd w50 s
    have := w50 q
    show 0 ≤ w q + wl w s ∧ w q + wl w s ≤ 50 * ((s.length + 1 : Nat) : Int)
    omega
theorem hm_bd {S : Sc} (hS : S.ok) {s : List Nat} (h : Gs S s) : 0 ≤ hm S s ∧ hm S s ≤ 1440 ∧ S.at (run S (p0 S) s).1 ∧ 0 ≤ (run S (p0 S) s).2 ∧ (run S (p0 S) s).2 ≤ 1440 := by
  have E0 := E_bd hS
  have hok := okP_r hS s (p0 S) (okP_0 hS) h.2.1
  have hw9 := wy_bd hS hok.1 (.inr rfl : S.at 9)
  have h3 := h.2.2
  have e : hm S s = (run S (p0 S) s).2 + wy S (run S (p0 S) s).1 9 := rfl
  have h2 := hok.2
  refine ⟨?_, by omega, hok.1, ?_, ?_⟩
  · rcases h2 with f | f <;> omega
  · rcases h2 with f | f <;> omega
  · rcases h2 with f | f <;> omega
theorem m_consider {K : fM} {S : Sc} (hS : S.ok) (hK : SM K S) {w : Nat → Int} (w50 : ∀ i, 0 ≤ w i ∧ w i ≤ 50) {s : List Nat} (hs : Gs S s) (h138 : ∀ j, j < s.length → K 138 j = ((nth s j : Nat) : Int)) (h139 : K 139 s.length = (run S (p0 S) s).2) : ∃ K', s_X12_consider K (s.length : Int) (wl w s) = some ((), K') ∧ fSame cnL K K' ∧ ((wl w s < K 122 47 ∨ (wl w s = K 122 47 ∧ K 122 48 ≤ hm S s)) → K' = K) ∧ (¬ (wl w s < K 122 47 ∨ (wl w s = K 122 47 ∧ K 122 48 ≤ hm S s)) → BR K' S w s) := by
  have hn := hS.2.1
  have hlen := set_len hs.1 hs.2.1
  obtain ⟨b1, b2, b3, b4, b5⟩ := hm_bd hS hs
  have hwl := wl_bd w50 s
  have hww := wy_bd hS b3 (.inr rfl : S.at 9)
  have e : (run S (p0 S) s).2 + wy S (run S (p0 S) s).1 9 = hm S s := rfl
  have hj27 : ∃ K', s_X12_consider_j27 K (s.length : Int) (wl w s) (run S (p0 S) s).2 (wy S (run S (p0 S) s).1 9) = some ((), K') ∧ fSame cnL K K' ∧ ((wl w s < K 122 47 ∨ (wl w s = K 122 47 ∧ K 122 48 ≤ hm S s)) → K' = K) ∧ (¬ (wl w s < K 122 47 ∨ (wl w s = K 122 47 ∧ K 122 48 ≤ hm S s)) → BR K' S w s) := by
    obtain ⟨A, hA⟩ : ∃ A, A = fup (fup (fup K 122 47 (wl w s)) 122 48 (hm S s)) 122 46 (s.length : Int) := ⟨_, rfl⟩
    have fA : fSame cnL K A := by
      rw [hA]
      exact fs_up (fs_up (fs_up fs_refl (.inr (by decide))) (.inr (by decide))) (.inr (by decide))
    obtain ⟨B, l1, l2, l3⟩ : ∃ B, s_X12_consider_l72 (s.length : Int) (0, A) = some B ∧ (∀ j, j < s.length → B 141 j = S.r (nth s j)) ∧ ∀ a, a ≠ 141 → B a = A a := by
      unfold s_X12_consider_l72
      refine fLp_ex (P := fun i q => q.1 = (i : Int) ∧ (∀ j, j < i → q.2 141 j = S.r (nth s j)) ∧ ∀ a, a ≠ 141 → q.2 a = A a) s.length ⟨rfl, fun j h => by omega, fun a _ => rfl⟩ (fun i q hi hp => ?_) (fun q hp => ?_)
      · obtain ⟨z, Q⟩ := q
        obtain ⟨q1, q2, q3⟩ := hp
        simp only at q1 q2 q3
        subst q1
        have hm1 := nth_m s i hi
        have hmn := hs.2.1 _ hm1
        have k138 : Q 138 i = ((nth s i : Nat) : Int) := by rw [q3 138 (by decide), fs_row fA 138 (by decide), h138 i hi]
        have k133 : Q 133 (nth s i) = S.r (nth s i) := by rw [q3 133 (by decide), fs_row fA 133 (by decide)]; exact (hK.2.1.1 _ hmn).1
        refine ⟨((i : Int) + 1, fup Q 141 i (S.r (nth s i))), ?_, by simp, fun j hj => ?_, fun a ha => ?_⟩
        · show s_X12_consider_b72 Q (s.length : Int) (i : Int) = _
          unfold s_X12_consider_b72
          rw [if_neg (by omega), show (i : Int).toNat = i from rfl, k138, show ((nth s i : Nat) : Int).toNat = nth s i from rfl, k133, if_pos (by unfold fin; omega)]
        · show fup Q 141 i _ 141 j = _
          rw [fup_eq]
          by_cases e2 : j = i
          · subst e2; rw [upd1_at]
          · rw [upd1_ne e2]; exact q2 j (by omega)
        · show fup Q 141 i _ a = _
          rw [fup_ne ha, q3 a ha]
      · obtain ⟨z, Q⟩ := q
        obtain ⟨q1, q2, q3⟩ := hp
        simp only at q1 q2 q3
        subst q1
        refine ⟨Q, ?_, q2, q3⟩
        show s_X12_consider_b72 Q (s.length : Int) (s.length : Int) = _
        unfold s_X12_consider_b72
        rw [if_pos (Int.le_refl _)]
    have hj54 : s_X12_consider_j54 K (s.length : Int) (wl w s) (hm S s) = some ((), B) := by
      unfold s_X12_consider_j54
      rw [← hA, l1]
      rfl
    have hBR : BR B S w s := by
      refine ⟨?_, ?_, ?_, l2⟩
      · rw [l3 122 (by decide), hA]; rfl
      · rw [l3 122 (by decide), hA]; rfl
      · rw [l3 122 (by decide), hA]; rfl
    have fB : fSame cnL K B := fun a j hm => by
      have ha : a ≠ 141 := fun e2 => hm (by rw [e2]; exact .inl (by decide))
      rw [l3 a ha]
      exact fA a j hm
    unfold s_X12_consider_j27
    rw [e, if_pos (by unfold fin; omega)]
    by_cases c1 : wl w s < K 122 47
    · rw [if_pos c1]
      exact ⟨K, rfl, fs_refl, fun _ => rfl, fun h => absurd (.inl c1) h⟩
    · rw [if_neg c1]
      by_cases c2 : wl w s = K 122 47
      · rw [if_neg (fun h => h c2)]
        by_cases c3 : hm S s < K 122 48
        · rw [if_pos c3, hj54]
          exact ⟨B, rfl, fB, fun h => by rcases h with h | ⟨_, h⟩ <;> omega, fun _ => hBR⟩
        · rw [if_neg c3]
          exact ⟨K, rfl, fs_refl, fun _ => rfl, fun h => absurd (.inr ⟨c2, by omega⟩) h⟩
      · rw [if_pos c2, hj54]
        exact ⟨B, rfl, fB, fun h => by rcases h with h | ⟨h, _⟩ <;> omega, fun _ => hBR⟩
  obtain ⟨K', k1, k2⟩ := hj27
  refine ⟨K', ?_, k2⟩
  unfold s_X12_consider
  rw [if_pos (by omega), show (s.length : Int).toNat = s.length from rfl, h139]
  by_cases h0 : s = []
  · subst h0
    rw [if_neg (fun h => h rfl)]
    rw [show wy S (run S (p0 S) []).1 9 = 0 from wy_99 S] at k1
    exact k1
  · have hpos : 0 < s.length := List.length_pos_iff.2 h0
    have hl := run_last S (p0 S) s h0
    have hlast : K 138 ((s.length : Int) - 1).toNat = ix (run S (p0 S) s).1 := by
      have h9 := hs.2.1 _ (nth_m s (s.length - 1) (by omega))
      rw [show ((s.length : Int) - 1).toNat = s.length - 1 by omega, h138 _ (by omega), hl]
      exact (if_pos (by omega)).symm
    have hway := m_way hS hK b3 (.inr rfl : S.at 9)
    rw [if_pos (by omega), if_pos (by unfold fin; omega), hlast, show (-1 : Int) = ix 9 from rfl, hway, Option.bind_some]
    exact k1
theorem add_or9 : ∀ m : Nat, m < 512 → ∀ q : Nat, q < 9 → Nat.testBit m q = false → m + 2 ^ q = m ||| 2 ^ q := by decide +kernel
theorem bst_new {S : Sc} {w : Nat → Int} {s : List Nat} {i : Nat} {b : List Nat} (hb : Bst S w (Qp s i) b) (hg : Gs S (s ++ [i])) : ((wl w (s ++ [i]) < wl w b ∨ (wl w (s ++ [i]) = wl w b ∧ hm S b ≤ hm S (s ++ [i]))) → Bst S w (Qp (s ++ [i]) 0) b) ∧ (¬ (wl w (s ++ [i]) < wl w b ∨ (wl w (s ++ [i]) = wl w b ∧ hm S b ≤ hm S (s ++ [i]))) → Bst S w (Qp (s ++ [i]) 0) (s ++ [i])) := by
  obtain ⟨h1, h2, h3⟩ := hb
  have back : ∀ x, Qp (s ++ [i]) 0 x → Qp s i x ∨ x = s ++ [i] := fun x hx => by
    rcases hx with hx | ⟨q, t, hq, -⟩
    · exact lxl_snoc s i x hx
    · omega
  constructor
  · intro hc
    refine ⟨h1, .inl (Qp_lxl h2), fun x hx hq => ?_⟩
    rcases back x hq with h | h
    · exact h3 x hx h
    · subst h
      rcases hc with hc | ⟨hc1, hc2⟩
      · exact .inl hc
      · refine .inr ⟨hc1, ?_⟩
        by_cases e : hm S b < hm S (s ++ [i])
        · exact .inl e
        · exact .inr ⟨by omega, Qp_lxl h2⟩
  · intro hc
    refine ⟨hg, .inl (lxl_refl _), fun x hx hq => ?_⟩
    rcases back x hq with h | h
    · have hb2 := h3 x hx h
      unfold bt at hb2 ⊢
      rcases hb2 with e | ⟨e1, e2⟩
      · refine .inl ?_
        omega
      · by_cases e3 : wl w b < wl w (s ++ [i])
        · exact .inl (by omega)
        · refine .inr ⟨by omega, .inl ?_⟩
          rcases e2 with e2 | ⟨e2, -⟩ <;> omega
    · subst h
      exact .inr ⟨rfl, .inr ⟨rfl, lxl_refl _⟩⟩
theorem bst_up {S : Sc} {w : Nat → Int} {s : List Nat} {i : Nat} {b : List Nat} (hb : Bst S w (Qp (s ++ [i]) S.n) b) : Bst S w (Qp s (i + 1)) b := by
  obtain ⟨h1, h2, h3⟩ := hb
  refine ⟨h1, ?_, fun x hx hq => h3 x hx ?_⟩
  · rcases h2 with h | ⟨q, t, -, e⟩
    · rcases lxl_snoc s i b h with (h | ⟨q, t, h4, h5⟩) | h
      · exact .inl h
      · exact .inr ⟨q, t, by omega, h5⟩
      · exact .inr ⟨i, [], by omega, h⟩
    · exact .inr ⟨i, q :: t, by omega, by rw [e, List.append_assoc]; rfl⟩
  · rcases hq with h | ⟨q, t, hq, e⟩
    · exact .inl (lxl_app x s [i] h)
    · by_cases e2 : q = i
      · subst e2
        cases t with
        | nil => exact .inl (by rw [e]; exact lxl_refl _)
        | cons a t =>
          refine .inr ⟨a, t, hx.2.1 a (by rw [e]; simp), by rw [e, List.append_assoc]; rfl⟩
      · refine .inl ?_
        rw [e]
        exact lxl_lt s t [] (by omega)
theorem DS_fs {K K' : fM} {S : Sc} {s : List Nat} {i : Nat} (h : DS K S s i) (e1 : K' 138 = K 138) (e2 : K' 139 = K 139) (e3 : K' 140 = K 140) : DS K' S s i := by
  unfold DS at h ⊢
  rw [e1, e2, e3]
  exact h
theorem m_dfs {S : Sc} (hS : S.ok) {w : Nat → Int} (w50 : ∀ i, 0 ≤ w i ∧ w i ≤ 50) : ∀ (d : Nat) (s : List Nat), 2 ^ S.n - mk s ≤ d → Gs S s → ∀ (e i : Nat), i + e = S.n → ∀ (K : fM) (b : List Nat), SM K S → (∀ i, i < S.n → K 136 i = w i) → DS K S s i → BR K S w b → Bst S w (Qp s i) b → ∃ K' b', fLp (fun s : Int × Int × Int × fM => s_X12_orders_b38 s.2.2.2 s.1 s.2.1 s.2.2.1) ((s.length : Int), ((mk s : Nat) : Int), wl w s, K) = fLp (fun s : Int × Int × Int × fM => s_X12_orders_b38 s.2.2.2 s.1 s.2.1 s.2.2.1) ((s.length : Int), ((mk s : Nat) : Int), wl w s, K') ∧ fSame dfL K K' ∧ DS K' S s S.n ∧ BR K' S w b' ∧ Bst S w (Qp s S.n) b' := by
  have hn := hS.2.1
  have E0 := E_bd hS
  have p512 : 2 ^ S.n ≤ 2 ^ 9 := Nat.pow_le_pow_right (n := 2) (by decide) hn
  intro d
  induction d with
  | zero =>
    intro s hd hs
    have := mk_lt hs.2.1
    omega
  | succ d ihd =>
    intro s hd hs e
    have hms := mk_lt hs.2.1
    have hlen := set_len hs.1 hs.2.1
    obtain ⟨hb1, hb2, hb3, hb4, hb5⟩ := hm_bd hS hs
    have hwl := wl_bd w50 s
    induction e with
    | zero =>
      intro i hi K b hK h136 hD hB hbst
      have : i = S.n := by omega
      subst this
      exact ⟨K, b, rfl, fs_refl, hD, hB, hbst⟩
    | succ e ihe =>
      intro i hi K b hK h136 hD hB hbst
      have hin : i < S.n := by omega
      have h39 : K 122 39 = (S.n : Int) := hK.2.1.2
      have k140 : K 140 s.length = (i : Int) := hD.2.2.2
      obtain ⟨K1, hK1⟩ : ∃ K1, K1 = fup K 140 s.length ((i : Int) + 1) := ⟨_, rfl⟩
      have f1 : fSame dfL K K1 := by rw [hK1]; exact fs_up fs_refl (.inl (by decide))
      have hSM1 : SM K1 S := SM_fs f1 (by decide) hK
      have r1 : ∀ a, a ≠ 140 → K1 a = K a := fun a ha => by rw [hK1, fup_ne ha]
      have hD1 : DS K1 S s (i + 1) := by
        refine ⟨fun j hj => by rw [r1 138 (by decide)]; exact hD.1 j hj, fun j hj => by rw [r1 139 (by decide)]; exact hD.2.1 j hj, fun j hj => ?_, ?_⟩
        · rw [hK1, fup_eq, upd1_ne (by omega)]; exact hD.2.2.1 j hj
        · rw [hK1, fup_eq, upd1_at]; rfl
      have hB1 : BR K1 S w b := by
        unfold BR at hB ⊢
        rw [r1 122 (by decide), r1 141 (by decide)]
        exact hB
      have hw1 : ∀ i, i < S.n → K1 136 i = w i := fun i hi => by rw [r1 136 (by decide)]; exact h136 i hi
      -- on with the next branch
      have on : ∀ (K5 : fM) (b5 : List Nat), fLp (fun s : Int × Int × Int × fM => s_X12_orders_b38 s.2.2.2 s.1 s.2.1 s.2.2.1) ((s.length : Int), ((mk s : Nat) : Int), wl w s, K) = fLp (fun s : Int × Int × Int × fM => s_X12_orders_b38 s.2.2.2 s.1 s.2.1 s.2.2.1) ((s.length : Int), ((mk s : Nat) : Int), wl w s, K5) → fSame dfL K K5 → DS K5 S s (i + 1) → BR K5 S w b5 → Bst S w (Qp s (i + 1)) b5 → ∃ K' b', fLp (fun s : Int × Int × Int × fM => s_X12_orders_b38 s.2.2.2 s.1 s.2.1 s.2.2.1) ((s.length : Int), ((mk s : Nat) : Int), wl w s, K) = fLp (fun s : Int × Int × Int × fM => s_X12_orders_b38 s.2.2.2 s.1 s.2.1 s.2.2.1) ((s.length : Int), ((mk s : Nat) : Int), wl w s, K') ∧ fSame dfL K K' ∧ DS K' S s S.n ∧ BR K' S w b' ∧ Bst S w (Qp s S.n) b' := by
        intro K5 b5 g1 g2 g3 g4 g5
        obtain ⟨K', b', a1, a2, a3⟩ := ihe (i + 1) (by omega) K5 b5 (SM_fs g2 (by decide) hK) (fun i hi => by rw [fs_row g2 136 (by decide)]; exact h136 i hi) g3 g4 g5
        exact ⟨K', b', g1.trans a1, fs_trans g2 a2, a3⟩
      have skip : (∀ t, ¬ Gs S (s ++ i :: t)) → s_X12_orders_b38 K (s.length : Int) ((mk s : Nat) : Int) (wl w s) = some (.inl ((s.length : Int), ((mk s : Nat) : Int), wl w s, K1)) → ∃ K' b', fLp (fun s : Int × Int × Int × fM => s_X12_orders_b38 s.2.2.2 s.1 s.2.1 s.2.2.1) ((s.length : Int), ((mk s : Nat) : Int), wl w s, K) = fLp (fun s : Int × Int × Int × fM => s_X12_orders_b38 s.2.2.2 s.1 s.2.1 s.2.2.1) ((s.length : Int), ((mk s : Nat) : Int), wl w s, K') ∧ fSame dfL K K' ∧ DS K' S s S.n ∧ BR K' S w b' ∧ Bst S w (Qp s S.n) b' := by
        intro hno hst
        refine on K1 b (fLp_stp hst) f1 hD1 hB1 ⟨hbst.1, ?_, fun x hx hq => hbst.2.2 x hx ?_⟩
        · rcases hbst.2.1 with h | ⟨q, t, h1, h2⟩
          · exact .inl h
          · exact .inr ⟨q, t, by omega, h2⟩
        · rcases hq with h | ⟨q, t, h1, h2⟩
          · exact .inl h
          · by_cases e2 : q = i
            · subst e2
              rw [h2] at hx
              exact absurd hx (hno t)
            · exact .inr ⟨q, t, by omega, h2⟩
      have g10 : (0 ≤ (s.length : Int) ∧ (s.length : Int) < 10) ∧ fin ((i : Int) + 1) := by unfold fin; omega
      cases hbit : Nat.testBit (mk s) i with
      | true =>
        refine skip (fun t ht => ?_) ?_
        · exact (nd_inv ht.1).2.2 i ((mk_t s i).1 hbit) List.mem_cons_self
        · unfold s_X12_orders_b38
          rw [if_neg (by omega), show (s.length : Int).toNat = s.length from rfl, k140, if_pos g10, h39, if_pos (by omega), b_test9 (mk s) (by omega) i (by omega), hbit, if_neg (by decide), ← hK1]
      | false =>
        have his : i ∉ s := fun e2 => by rw [(mk_t s i).2 e2] at hbit; exact absurd hbit (by decide)
        have hto : s_X12_orders_b38 K (s.length : Int) ((mk s : Nat) : Int) (wl w s) = s_X12_orders_j133 K1 (s.length : Int) ((mk s : Nat) : Int) (wl w s) (i : Int) (ix (run S (p0 S) s).1) := by
          unfold s_X12_orders_b38
          rw [if_neg (by omega), show (s.length : Int).toNat = s.length from rfl, k140, if_pos g10, h39, if_pos (by omega), b_test9 (mk s) (by omega) i (by omega), hbit, if_pos (by decide), ← hK1]
          by_cases h0 : s = []
          · subst h0
            rw [if_neg (fun h => h rfl)]
            rfl
          · have hpos : 0 < s.length := List.length_pos_iff.2 h0
            have h9 := hs.2.1 _ (nth_m s (s.length - 1) (by omega))
            rw [if_pos (by omega), if_pos (by unfold fin; omega), show ((s.length : Int) - 1).toNat = s.length - 1 by omega, hD.1 _ (by omega), run_last S (p0 S) s h0]
            rw [show ix (nth s (s.length - 1)) = ((nth s (s.length - 1) : Nat) : Int) from if_pos (by omega)]
        have hwb := wy_bd hS hb3 (.inl hin : S.at i)
        have hw9 := wy_bd hS (.inl hin : S.at i) (.inr rfl : S.at 9)
        have hdone := m_done hS hSM1 hin hb3 hb4 (show (run S (p0 S) s).2 ≤ 2000000 by omega)
        have hway : s_X12_way K1 (i : Int) (-1) = some (wy S i 9) := by
          have := m_way hS hSM1 (.inl hin : S.at i) (.inr rfl : S.at 9)
          rwa [show ix i = (i : Int) from if_pos (by omega)] at this
        have h171 : K1 124 171 = S.D 8 5 := (mh_rule hSM1.1).2.2.2.2.2
        have k139 : K1 139 s.length = (run S (p0 S) s).2 := by
          have := hD1.2.1 s.length (Nat.le_refl _)
          rw [List.take_length] at this
          exact this
        have hdb := dn_bd hS hin (show 0 ≤ (run S (p0 S) s).2 + wy S (run S (p0 S) s).1 i by omega)
        have hrs : run S (p0 S) (s ++ [i]) = (i, dn S i ((run S (p0 S) s).2 + wy S (run S (p0 S) s).1 i)) := run_snoc S (p0 S) i s
        have hhm : hm S (s ++ [i]) = dn S i ((run S (p0 S) s).2 + wy S (run S (p0 S) s).1 i) + wy S i 9 := by
          unfold hm
          rw [hrs]
          rfl
        generalize hdn : dn S i ((run S (p0 S) s).2 + wy S (run S (p0 S) s).1 i) = dd at hdone hdb hrs hhm
        by_cases hhome : hm S (s ++ [i]) ≤ S.D 8 5
        · -- down
          have hsi : (s ++ [i]).Nodup := nd_app hs.1 (List.nodup_cons.2 ⟨by simp, List.nodup_nil⟩) (fun x hx e2 => his (by rw [← List.mem_singleton.1 e2]; exact hx))
          have hgs : Gs S (s ++ [i]) := ⟨hsi, fun x hx => by
            rcases List.mem_append.1 hx with e2 | e2
            · exact hs.2.1 x e2
            · rw [List.mem_singleton.1 e2]; exact hin, hhome⟩
          have hl1 : (s ++ [i]).length = s.length + 1 := by rw [List.length_append]; rfl
          have hlen1 := set_len hgs.1 hgs.2.1
          have hwl1 : wl w (s ++ [i]) = wl w s + w i := by
            rw [wl_app]
            show wl w s + (w i + 0) = _
            omega
          have hwi := w50 i
          have hmk : mk (s ++ [i]) = mk s + 2 ^ i := by rw [mk_snoc, add_or9 (mk s) (by omega) i (by omega) hbit]
          have hmk1 := mk_lt hgs.2.1
          have p2i : 1 ≤ 2 ^ i := Nat.one_le_two_pow
          obtain ⟨K2, hK2⟩ : ∃ K2, K2 = fup (fup (fup K1 138 s.length (i : Int)) 139 (s.length + 1) dd) 140 (s.length + 1) 0 := ⟨_, rfl⟩
          have f2 : fSame dfL K1 K2 := by rw [hK2]; exact fs_up (fs_up (fs_up fs_refl (.inl (by decide))) (.inl (by decide))) (.inl (by decide))
          have hSM2 : SM K2 S := SM_fs f2 (by decide) hSM1
          have r2 : ∀ a, a ≠ 138 → a ≠ 139 → a ≠ 140 → K2 a = K1 a := fun a h1 h2 h3 => by rw [hK2, fup_ne h3, fup_ne h2, fup_ne h1]
          have hD2 : DS K2 S (s ++ [i]) 0 := by
            refine ⟨fun j hj => ?_, fun j hj => ?_, fun j hj => ?_, ?_⟩
            · rw [hK2, fup_ne (by decide), fup_ne (by decide), fup_eq]
              by_cases e2 : j = s.length
              · subst e2; rw [upd1_at, nth_n]
              · rw [upd1_ne e2, nth_l s [i] j (by omega)]; exact hD1.1 j (by omega)
            · rw [hK2, fup_ne (by decide), fup_eq]
              by_cases e2 : j = s.length + 1
              · subst e2
                rw [upd1_at, ← hl1, List.take_length, hrs]
              · rw [upd1_ne e2, fup_ne (by decide), List.take_append_of_le_length (by omega)]
                exact hD1.2.1 j (by omega)
            · rw [hK2, fup_eq, upd1_ne (by omega), fup_ne (by decide), fup_ne (by decide)]
              by_cases e2 : j = s.length
              · subst e2
                rw [nth_n, hD1.2.2.2]
                rfl
              · rw [nth_l s [i] j (by omega)]
                exact hD1.2.2.1 j (by omega)
            · rw [hK2, hl1, fup_eq, upd1_at]
              rfl
          have hB2 : BR K2 S w b := by
            unfold BR at hB1 ⊢
            rw [r2 122 (by decide) (by decide) (by decide), r2 141 (by decide) (by decide) (by decide)]
            exact hB1
          obtain ⟨K3, c1, c2, c3, c4⟩ := m_consider hS hSM2 w50 hgs hD2.1 (by
            have := hD2.2.1 (s ++ [i]).length (Nat.le_refl _)
            rw [List.take_length] at this
            exact this)
          have hD3 : DS K3 S (s ++ [i]) 0 := DS_fs hD2 (fs_row c2 138 (by decide)) (fs_row c2 139 (by decide)) (fs_row c2 140 (by decide))
          have f3 : fSame dfL K2 K3 := fs_mono (by decide) c2
          rw [hB2.2.1, hB2.2.2.1] at c3 c4
          obtain ⟨n1, n2⟩ := bst_new hbst hgs
          obtain ⟨b3, hB3, hbst3⟩ : ∃ b3, BR K3 S w b3 ∧ Bst S w (Qp (s ++ [i]) 0) b3 := by
            by_cases hc : wl w (s ++ [i]) < wl w b ∨ (wl w (s ++ [i]) = wl w b ∧ hm S b ≤ hm S (s ++ [i]))
            · exact ⟨b, by rw [c3 hc]; exact hB2, n1 hc⟩
            · exact ⟨s ++ [i], c4 hc, n2 hc⟩
          obtain ⟨K4, b4, d1, d2, d3, d4, d5⟩ := ihd (s ++ [i]) (by omega) hgs S.n 0 (by omega) K3 b3 (SM_fs f3 (by decide) hSM2) (fun i hi => by rw [fs_row f3 136 (by decide), fs_row f2 136 (by decide)]; exact hw1 i hi) hD3 hB3 hbst3
          have fAll : fSame dfL K K4 := fs_trans f1 (fs_trans f2 (fs_trans f3 d2))
          have hSM4 : SM K4 S := SM_fs fAll (by decide) hK
          have h394 : K4 122 39 = (S.n : Int) := hSM4.2.1.2
          have k4140 : K4 140 (s.length + 1) = (S.n : Int) := by rw [← hl1]; exact d3.2.2.2
          have k4138 : K4 138 s.length = (i : Int) := by rw [d3.1 s.length (by omega), nth_n]
          have k4136 : K4 136 i = w i := by rw [fs_row fAll 136 (by decide)]; exact h136 i hin
          -- down and up again
          have stepD : s_X12_orders_b38 K (s.length : Int) ((mk s : Nat) : Int) (wl w s) = some (.inl (((s ++ [i]).length : Int), ((mk (s ++ [i]) : Nat) : Int), wl w (s ++ [i]), K3)) := by
            rw [hto]
            unfold s_X12_orders_j133
            rw [if_pos g10.1, show (s.length : Int).toNat = s.length from rfl, k139, hdone, Option.bind_some, hway, Option.bind_some, if_pos (show fin (dd + wy S i 9) by unfold fin; rcases hdb with f | f <;> omega), h171, if_pos (by omega), show (i : Int).toNat = i from rfl, hw1 i hin, b_shl i (by omega), if_pos (show (0 ≤ (s.length : Int) ∧ (s.length : Int) < 10) ∧ fin (((mk s : Nat) : Int) + ((2 ^ i : Nat) : Int)) ∧ (0 ≤ (i : Int) ∧ (i : Int) < 9) ∧ fin (wl w s + w i) by unfold fin; omega), if_pos (show fin ((s.length : Int) + 1) ∧ (0 ≤ (s.length : Int) + 1 ∧ (s.length : Int) + 1 < 10) by unfold fin; omega), show ((s.length : Int) + 1).toNat = s.length + 1 by omega, ← hK2]
            rw [hl1, hwl1] at c1
            rw [show (s.length : Int) + 1 = ((s.length + 1 : Nat) : Int) by omega, c1, Option.bind_some, hl1, hmk, hwl1, show ((mk s : Nat) : Int) + ((2 ^ i : Nat) : Int) = ((mk s + 2 ^ i : Nat) : Int) by omega]
          have stepU : s_X12_orders_b38 K4 ((s ++ [i]).length : Int) ((mk (s ++ [i]) : Nat) : Int) (wl w (s ++ [i])) = some (.inl ((s.length : Int), ((mk s : Nat) : Int), wl w s, fup K4 140 (s.length + 1) ((S.n : Int) + 1))) := by
            unfold s_X12_orders_b38
            rw [if_neg (by omega), show ((s ++ [i]).length : Int).toNat = s.length + 1 by omega, k4140, if_pos (by unfold fin; omega), h394, if_neg (by omega), if_pos (by unfold fin; omega), if_neg (by omega), show (((s ++ [i]).length : Int) + -1).toNat = s.length by omega, k4138, show (i : Int).toNat = i from rfl, k4136, b_shl i (by omega), hwl1, hmk, if_pos (show (0 ≤ ((s ++ [i]).length : Int) + -1 ∧ ((s ++ [i]).length : Int) + -1 < 10) ∧ fin (((mk s + 2 ^ i : Nat) : Int) - ((2 ^ i : Nat) : Int)) ∧ (0 ≤ (i : Int) ∧ (i : Int) < 9) ∧ fin (wl w s + w i - w i) by unfold fin; omega)]
            rw [show ((s ++ [i]).length : Int) + -1 = (s.length : Int) by omega, show ((mk s + 2 ^ i : Nat) : Int) - ((2 ^ i : Nat) : Int) = ((mk s : Nat) : Int) by omega, show wl w s + w i - w i = wl w s by omega]
          refine on (fup K4 140 (s.length + 1) ((S.n : Int) + 1)) b4 ?_ (fs_up fAll (.inl (by decide))) ?_ ?_ (bst_up d5)
          · rw [fLp_stp (b := fun s : Int × Int × Int × fM => s_X12_orders_b38 s.2.2.2 s.1 s.2.1 s.2.2.1) (s := ((s.length : Int), ((mk s : Nat) : Int), wl w s, K)) stepD, d1]
            exact fLp_stp stepU
          · refine ⟨fun j hj => ?_, fun j hj => ?_, fun j hj => ?_, ?_⟩
            · rw [fup_ne (by decide), d3.1 j (by omega), nth_l s [i] j hj]
            · rw [fup_ne (by decide), d3.2.1 j (by omega), List.take_append_of_le_length hj]
            · rw [fup_eq, upd1_ne (by omega), d3.2.2.1 j (by omega), nth_l s [i] j hj]
            · rw [fup_eq, upd1_ne (by omega), d3.2.2.1 s.length (by omega), nth_n]
              rfl
          · unfold BR at d4 ⊢
            rw [fup_ne (by decide), fup_ne (by decide)]
            exact d4
        · refine skip (fun t ht => ?_) ?_
          · have : Gs S (s ++ [i]) := Gs_pre hS (t := t) (by rw [List.append_assoc]; exact ht)
            exact hhome this.2.2
          · rw [hto]
            unfold s_X12_orders_j133
            rw [if_pos g10.1, show (s.length : Int).toNat = s.length from rfl, k139, hdone, Option.bind_some, hway, Option.bind_some, if_pos (show fin (dd + wy S i 9) by unfold fin; rcases hdb with f | f <;> omega), h171, if_neg (by omega)]
theorem m_orders {N : fM} {S : Sc} (hS : S.ok) (hN : SM N S) {w : Nat → Int} (w50 : ∀ i, 0 ≤ w i ∧ w i ≤ 50) (h136 : ∀ i, i < S.n → N 136 i = w i) : ∃ N' b, s_X12_orders N = some ((), N') ∧ BR N' S w b ∧ Opt S w b := by
  have hn := hS.2.1
  have E0 := E_bd hS
  obtain ⟨K0, hK0⟩ : ∃ K0, K0 = fup (fup N 122 47 (-1)) 139 0 (N 124 170) := ⟨_, rfl⟩
  have f0 : fSame dfL N K0 := by rw [hK0]; exact fs_up (fs_up fs_refl (.inr (by decide))) (.inl (by decide))
  have hSM0 : SM K0 S := SM_fs f0 (by decide) hN
  have h170 : N 124 170 = S.D 8 4 := (mh_rule hN.1).2.2.2.2.1
  have hg0 : Gs S [] := ⟨List.nodup_nil, fun q hq => absurd hq (by simp), by
    show S.D 8 4 + wy S 9 9 ≤ _
    rw [wy_99]; omega⟩
  obtain ⟨K1, c1, c2, -, c4⟩ := m_consider hS hSM0 w50 hg0 (fun j hj => absurd hj (by simp)) (show K0 139 0 = S.D 8 4 by rw [hK0, fup_eq, upd1_at, h170])
  have hB1 : BR K1 S w [] := c4 (by
    have e47 : K0 122 47 = -1 := by rw [hK0]; rfl
    have e0 : wl w [] = 0 := rfl
    rw [e47, e0]
    omega)
  have f1 : fSame dfL K0 K1 := fs_mono (by decide) c2
  have f2 : fSame dfL N (fup K1 140 0 0) := fs_up (fs_trans f0 f1) (.inl (by decide))
  have hD2 : DS (fup K1 140 0 0) S [] 0 := by
    refine ⟨fun j hj => absurd hj (by simp), fun j hj => ?_, fun j hj => absurd hj (by simp), ?_⟩
    · have : j = 0 := by simpa using hj
      subst this
      rw [fup_ne (by decide), fs_row c2 139 (by decide), hK0, fup_eq, upd1_at, h170]
      rfl
    · show fup K1 140 0 0 140 0 = _
      rw [fup_eq, upd1_at]
      rfl
  have hB2 : BR (fup K1 140 0 0) S w [] := by
    unfold BR at hB1 ⊢
    rw [fup_ne (by decide), fup_ne (by decide)]
    exact hB1
  have hbst : Bst S w (Qp [] 0) [] := ⟨hg0, .inl trivial, fun x hx hq => by
    rcases hq with h | ⟨q, t, h, -⟩
    · cases x with
      | nil => exact .inr ⟨rfl, .inr ⟨rfl, trivial⟩⟩
      | cons a x => exact False.elim h
    · omega⟩
  obtain ⟨K3, b, d1, d2, d3, d4, d5⟩ := m_dfs hS w50 (2 ^ S.n) [] (Nat.sub_le _ _) hg0 S.n 0 (by omega) (fup K1 140 0 0) [] (SM_fs f2 (by decide) hN) (fun i hi => by rw [fs_row f2 136 (by decide)]; exact h136 i hi) hD2 hB2 hbst
  have hSM3 : SM K3 S := SM_fs (fs_trans f2 d2) (by decide) hN
  have h39 : K3 122 39 = (S.n : Int) := hSM3.2.1.2
  have k140 : K3 140 0 = (S.n : Int) := d3.2.2.2
  refine ⟨fup K3 140 0 ((S.n : Int) + 1), b, ?_, ?_, d5.1, fun x hx => d5.2.2 x hx ?_⟩
  · unfold s_X12_orders
    rw [← hK0]
    have c1' : s_X12_consider K0 0 0 = some ((), K1) := c1
    rw [c1', Option.bind_some]
    have key : s_X12_orders_l38 (0, 0, 0, fup K1 140 0 0) = some (fup K3 140 0 ((S.n : Int) + 1)) := by
      unfold s_X12_orders_l38
      have d1' : fLp (fun s : Int × Int × Int × fM => s_X12_orders_b38 s.2.2.2 s.1 s.2.1 s.2.2.1) (0, 0, 0, fup K1 140 0 0) = fLp (fun s : Int × Int × Int × fM => s_X12_orders_b38 s.2.2.2 s.1 s.2.1 s.2.2.1) (0, 0, 0, K3) := d1
      rw [d1']
      have s1 : s_X12_orders_b38 K3 0 0 0 = some (.inl (-1, 0, 0, fup K3 140 0 ((S.n : Int) + 1))) := by
        unfold s_X12_orders_b38
        rw [if_neg (by decide), show (0 : Int).toNat = 0 from rfl, k140, if_pos (by unfold fin; omega), h39, if_neg (by omega), if_pos (by unfold fin; omega), if_pos (by decide)]
        rfl
      have s2 : s_X12_orders_b38 (fup K3 140 0 ((S.n : Int) + 1)) (-1) 0 0 = some (.inr (fup K3 140 0 ((S.n : Int) + 1))) := by
        unfold s_X12_orders_b38
        rw [if_pos (by decide)]
      rw [fLp_stp (b := fun s : Int × Int × Int × fM => s_X12_orders_b38 s.2.2.2 s.1 s.2.1 s.2.2.1) (s := (0, 0, 0, K3)) s1, fLp_eq]
      show (s_X12_orders_b38 (fup K3 140 0 ((S.n : Int) + 1)) (-1) 0 0).bind _ = _
      rw [s2]
      rfl
    show (s_X12_orders_l38 (0, 0, 0, fup K1 140 0 0)).bind _ = _
    rw [key]
    rfl
  · unfold BR at d4 ⊢
    rw [fup_ne (by decide), fup_ne (by decide)]
    exact d4
  · cases x with
    | nil => exact .inl trivial
    | cons q t => exact .inr ⟨q, t, hx.2.1 q List.mem_cons_self, rfl⟩
