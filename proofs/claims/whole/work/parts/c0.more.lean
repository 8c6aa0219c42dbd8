/-! ===== lines of a house: what else a piano's line tells ===== -/
theorem bit21 {a one : Nat} (ha : a < 2097152) (h : one < 21) : ∃ a2 : Nat, a ||| 2 ^ one = a2 ∧ a2 < 2097152 ∧ Nat.testBit a2 one = true ∧ ∀ j, j ≠ one → Nat.testBit a2 j = Nat.testBit a j := by
  have e : (2097152 : Nat) = 2 ^ 21 := by decide
  refine ⟨_, rfl, ?_, ?_, ?_⟩
  · rw [e] at ha ⊢
    exact or_lt ha h
  · rw [tb_or, decide_eq_true rfl, Bool.or_true]
  · intro j hj
    rw [tb_or, decide_eq_false (fun c => hj c.symm), Bool.or_false]
theorem fel_l {α β : Type} (x : α) (f : α → β) (g : β) : fel (Sum.inl x) f g = f x := rfl
theorem fel_r {α β : Type} (f : α → β) (g : β) : fel (Sum.inr ()) f g = g := rfl
theorem or12 {a one : Nat} (ha : a < 4096) (h : one < 12) : a ||| 2 ^ one < 4096 := by
  have e : (4096 : Nat) = 2 ^ 12 := by decide
  rw [e] at ha ⊢
  exact or_lt ha h
theorem or4 {a one : Nat} (ha : a < 16) (h : one < 4) : a ||| 2 ^ one < 16 := by
  have e : (16 : Nat) = 2 ^ 4 := by decide
  rw [e] at ha ⊢
  exact or_lt ha h
theorem more_loop {b : Nat → Int} {L lim : Nat} {K0 N0 : fM} {k x : Int} (hk : 0 ≤ k ∧ k < 16) : ∀ (d : Nat) (K N : fM) (p i a nt so : Nat) (op : Int), L - p < d → StB K N b L lim p → PvI K0 N0 K N k x 10 → 2 * i ≤ p → a < 2097152 → nt < 4096 → so < 16 → (Nat.testBit a 17 = true ↔ K 34 (k * 10 + 7).toNat = 1) → (op = 0 ∨ op = 1) → (Nat.testBit a 20 = true ↔ op = 1) → (∃ K' N' p', s_X3_readMore_l10 k ((a : Int), (nt : Int), (so : Int), (i : Int), K) = some (.inr (.inl (), K')) ∧ s_X12_more_l20 k (175 + 10 * k) (op, (nt : Int), (so : Int), 1, N) = some (.inl N') ∧ StA K' N' b L lim p' ∧ PvI K0 N0 K' N' k x 10 ∧ p ≤ p') ∨ (∃ K' N', s_X3_readMore_l10 k ((a : Int), (nt : Int), (so : Int), (i : Int), K) = some (.inr (.inr (), K')) ∧ s_X12_more_l20 k (175 + 10 * k) (op, (nt : Int), (so : Int), 1, N) = some (.inr (0, N')) ∧ Ft K' N') := by
  intro d
  induction d with
  | zero =>
    intro K N p i a nt so op hd
    exact absurd hd (Nat.not_lt_zero _)
  | succ d ih =>
    intro K N p i a nt so op hd hB hP hi ha hnt hso h17 hop h20
    have hpL : p ≤ L := hB.2.2.2.2.1
    have hL : L ≤ 1240 := hB.1.2.2.1
    obtain ⟨K1, c1, fk1, hA1⟩ := sim_take hB
    have hkw := c_kw hA1.1 hA1.2.2.1 hA1.2.2.2.2.1
    have hw := fun (q : Nat) (hq : q < 30) (z : Int) (hz : z = enc8 (kwW q)) => m_word hA1.2.2.2.1 hA1.2.2.2.2.1 q hq z hz
    have w17 := hw 17 (by decide) 495874700901 (by decide +kernel)
    have w20 := hw 20 (by decide) 1869636974 (by decide +kernel)
    have w18 := hw 18 (by decide) 1936484720 (by decide +kernel)
    have w19 := hw 19 (by decide) 440005650796 (by decide +kernel)
    have hP1 : PvI K0 N0 K1 N k x 10 := pv_tok hP fk1 fs_refl
    have fi1 : fin ((i : Int) + 1) := by unfold fin; omega
    have i12 : ¬ (1200 : Int) ≤ (i : Int) := by omega
    have cb : ∀ r, (s_X10_keywordHere K1).bind (fun y29 => if y29 = 17 then (s_X3_withTold K1 (a : Int) 17).bind (fun y68 => fel y68.1 (fun w68 => (s_X2_tell_28 y68.2 k 7 1).bind fun y80 => if fin ((i : Int) + 1) then some (.inl (w68, (nt : Int), (so : Int), ((i : Int) + 1), y80.2)) else none) (some (.inr (.inr (.inr (), y68.2))))) else if y29 = 18 then (s_X10_takeNumber K1 0 11).bind (fun y153 => fel y153.1 (fun w153 => (s_X3_withTold y153.2 (nt : Int) w153).bind fun y162 => fel y162.1 (fun w162 => if fin (k * 12) ∧ fin ((k * 12) + w153) then (s_X10_takeNumber y162.2 0 99).bind (fun y187 => fel y187.1 (fun w187 => if (0 ≤ ((k * 12) + w153) ∧ ((k * 12) + w153) < 192) ∧ fin ((i : Int) + 1) then some (.inl ((a : Int), w162, (so : Int), ((i : Int) + 1), (fup y187.2 35 ((k * 12) + w153).toNat w187))) else none) (some (.inr (.inr (.inr (), y187.2))))) else none) (some (.inr (.inr (.inr (), y162.2))))) (some (.inr (.inr (.inr (), y153.2))))) else if y29 = 19 then (s_X10_takeNumber K1 0 3).bind (fun y200 => fel y200.1 (fun w200 => (s_X3_withTold y200.2 (so : Int) w200).bind fun y210 => fel y210.1 (fun w210 => if fin (k * 4) ∧ fin ((k * 4) + w200) then (s_X10_takeNumber y210.2 0 20).bind (fun y235 => fel y235.1 (fun w235 => if (0 ≤ ((k * 4) + w200) ∧ ((k * 4) + w200) < 64) ∧ fin ((i : Int) + 1) then some (.inl ((a : Int), (nt : Int), w210, ((i : Int) + 1), (fup y235.2 36 ((k * 4) + w200).toNat w235))) else none) (some (.inr (.inr (.inr (), y235.2))))) else none) (some (.inr (.inr (.inr (), y210.2))))) (some (.inr (.inr (.inr (), y200.2))))) else if y29 = 20 then (s_X3_withTold K1 (a : Int) 20).bind (fun y90 => fel y90.1 (fun w90 => (s_X10_takeNumber y90.2 0 1440).bind fun y102 => fel y102.1 (fun w102 => (s_X2_tell_28 y102.2 k 8 w102).bind fun y116 => if fin (w102 + 1) then (s_X10_takeNumber y116.2 (w102 + 1) 1440).bind (fun y137 => fel y137.1 (fun w137 => (s_X2_tell_28 y137.2 k 9 w137).bind fun y140 => if fin ((i : Int) + 1) then some (.inl (w90, (nt : Int), (so : Int), ((i : Int) + 1), y140.2)) else none) (some (.inr (.inr (.inr (), y137.2))))) else none) (some (.inr (.inr (.inr (), y102.2))))) (some (.inr (.inr (.inr (), y90.2))))) else some (.inr (.inr (.inl (), K1)))) = r → s_X3_readMore_b10 K k (a : Int) (nt : Int) (so : Int) (i : Int) = r := by
      intro r hr
      unfold s_X3_readMore_b10
      rw [if_neg i12, c1]
      exact hr
    -- one round more, or the end
    have next : ∀ (K2 N2 : fM) (p2 a2 nt2 so2 : Nat) (op2 : Int), s_X3_readMore_b10 K k (a : Int) (nt : Int) (so : Int) (i : Int) = some (.inl ((a2 : Int), (nt2 : Int), (so2 : Int), (i : Int) + 1, K2)) → s_X12_more_b20 N k (175 + 10 * k) op (nt : Int) (so : Int) 1 = some (.inl (op2, (nt2 : Int), (so2 : Int), 1, N2)) → StB K2 N2 b L lim p2 → PvI K0 N0 K2 N2 k x 10 → p + 2 ≤ p2 → a2 < 2097152 → nt2 < 4096 → so2 < 16 → (Nat.testBit a2 17 = true ↔ K2 34 (k * 10 + 7).toNat = 1) → (op2 = 0 ∨ op2 = 1) → (Nat.testBit a2 20 = true ↔ op2 = 1) → (∃ K' N' p', s_X3_readMore_l10 k ((a : Int), (nt : Int), (so : Int), (i : Int), K) = some (.inr (.inl (), K')) ∧ s_X12_more_l20 k (175 + 10 * k) (op, (nt : Int), (so : Int), 1, N) = some (.inl N') ∧ StA K' N' b L lim p' ∧ PvI K0 N0 K' N' k x 10 ∧ p ≤ p') ∨ (∃ K' N', s_X3_readMore_l10 k ((a : Int), (nt : Int), (so : Int), (i : Int), K) = some (.inr (.inr (), K')) ∧ s_X12_more_l20 k (175 + 10 * k) (op, (nt : Int), (so : Int), 1, N) = some (.inr (0, N')) ∧ Ft K' N') := by
      intro K2 N2 p2 a2 nt2 so2 op2 hc hm hB2 hP2 hp2 ha2 hn2 hs2 h172 hop2 h202
      have hx1 : s_X3_readMore_l10 k ((a : Int), (nt : Int), (so : Int), (i : Int), K) = s_X3_readMore_l10 k ((a2 : Int), (nt2 : Int), (so2 : Int), ((i + 1 : Nat) : Int), K2) := by
        unfold s_X3_readMore_l10
        exact fLp_stp (b := fun s : Int × Int × Int × Int × fM => s_X3_readMore_b10 s.2.2.2.2 k s.1 s.2.1 s.2.2.1 s.2.2.2.1) hc
      have hx2 : s_X12_more_l20 k (175 + 10 * k) (op, (nt : Int), (so : Int), 1, N) = s_X12_more_l20 k (175 + 10 * k) (op2, (nt2 : Int), (so2 : Int), 1, N2) := by
        unfold s_X12_more_l20
        exact fLp_stp (b := fun s : Int × Int × Int × Int × fM => s_X12_more_b20 s.2.2.2.2 k (175 + 10 * k) s.1 s.2.1 s.2.2.1 s.2.2.2.1) hm
      rw [hx1, hx2]
      have hpL2 : p2 ≤ L := hB2.2.2.2.2.1
      rcases ih K2 N2 p2 (i + 1) a2 nt2 so2 op2 (by omega) hB2 hP2 (by omega) ha2 hn2 hs2 h172 hop2 h202 with ⟨K', N', p', a1, a2, a3, a4, a5⟩ | hF
      · exact .inl ⟨K', N', p', a1, a2, a3, a4, by omega⟩
      · exact .inr hF
    have stop : ∀ (K2 N2 : fM), s_X3_readMore_b10 K k (a : Int) (nt : Int) (so : Int) (i : Int) = some (.inr (.inr (.inr (), K2))) → s_X12_more_b20 N k (175 + 10 * k) op (nt : Int) (so : Int) 1 = some (.inr (.inr (0, N2))) → Ft K2 N2 → (∃ K' N' p', s_X3_readMore_l10 k ((a : Int), (nt : Int), (so : Int), (i : Int), K) = some (.inr (.inl (), K')) ∧ s_X12_more_l20 k (175 + 10 * k) (op, (nt : Int), (so : Int), 1, N) = some (.inl N') ∧ StA K' N' b L lim p' ∧ PvI K0 N0 K' N' k x 10 ∧ p ≤ p') ∨ (∃ K' N', s_X3_readMore_l10 k ((a : Int), (nt : Int), (so : Int), (i : Int), K) = some (.inr (.inr (), K')) ∧ s_X12_more_l20 k (175 + 10 * k) (op, (nt : Int), (so : Int), 1, N) = some (.inr (0, N')) ∧ Ft K' N') := by
      intro K2 N2 hc hm hF
      refine .inr ⟨K2, N2, ?_, ?_, hF⟩
      · unfold s_X3_readMore_l10
        rw [fLp_eq]
        show (s_X3_readMore_b10 K k (a : Int) (nt : Int) (so : Int) (i : Int)).bind _ = _
        rw [hc]
        rfl
      · unfold s_X12_more_l20
        rw [fLp_eq]
        show (s_X12_more_b20 N k (175 + 10 * k) op (nt : Int) (so : Int) 1).bind _ = _
        rw [hm]
        rfl
    have mb : s_X12_more_b20 N k (175 + 10 * k) op (nt : Int) (so : Int) 1 = if kx b L lim p = 17 then (if ¬ (N 124 (645 + (175 + 10 * k) + 7).toNat) = 1 then (s_X12_next (fup N 124 (645 + (175 + 10 * k) + 7).toNat 1)).bind (fun y73 => some (.inl (op, (nt : Int), (so : Int), 1, y73.2))) else (s_X12_bad N 3).bind fun y54 => if b01 y54.1 then some (.inr (.inr (y54.1, y54.2))) else none) else if kx b L lim p = 20 then (if op = 0 then (s_X12_next N).bind (fun y102 => if fin (175 + 10 * k + 8) then (s_X12_span y102.2 (175 + 10 * k + 8)).bind (fun y110 => if ¬ y110.1 = 0 then some (.inl (1, (nt : Int), (so : Int), 1, y110.2)) else some (.inr (.inr (0, y110.2)))) else none) else (s_X12_bad N 3).bind fun y95 => if b01 y95.1 then some (.inr (.inr (y95.1, y95.2))) else none) else if kx b L lim p = 18 ∨ kx b L lim p = 19 then s_X12_more_j138 N k (175 + 10 * k) op (nt : Int) (so : Int) 1 else some (.inl (op, (nt : Int), (so : Int), 0, N)) := by
      unfold s_X12_more_b20
      rw [if_neg (show ¬ (1 : Int) = 0 by decide), w17, Option.bind_some, bit_if, w20, Option.bind_some, bit_if, w18, Option.bind_some, bit_ifn, w19, Option.bind_some, bit_if]
      have g7 : fin (645 + (175 + 10 * k)) ∧ fin (645 + (175 + 10 * k) + 7) ∧ (0 ≤ 645 + (175 + 10 * k) + 7 ∧ 645 + (175 + 10 * k) + 7 < 1290) := by unfold fin; omega
      rw [if_pos g7, if_pos g7]
      by_cases e17 : kx b L lim p = 17
      · rw [if_pos (show kx b L lim p = ((17 : Nat) : Int) from e17), if_pos e17]
      · rw [if_neg (show ¬ kx b L lim p = ((17 : Nat) : Int) from e17), if_neg e17]
        by_cases e20 : kx b L lim p = 20
        · rw [if_pos (show kx b L lim p = ((20 : Nat) : Int) from e20), if_pos e20]
        · rw [if_neg (show ¬ kx b L lim p = ((20 : Nat) : Int) from e20), if_neg e20]
          by_cases e18 : kx b L lim p = 18
          · rw [if_pos (show kx b L lim p = ((18 : Nat) : Int) from e18), if_pos (.inl e18)]
          · rw [if_neg (show ¬ kx b L lim p = ((18 : Nat) : Int) from e18)]
            by_cases e19 : kx b L lim p = 19
            · rw [if_pos (show kx b L lim p = ((19 : Nat) : Int) from e19), if_pos (.inr e19)]
            · rw [if_neg (show ¬ kx b L lim p = ((19 : Nat) : Int) from e19), if_neg (by omega)]
    have i7 : (645 + (175 + 10 * k) + 7).toNat = (820 + 10 * k + 7).toNat := by omega
    rw [i7] at mb
    have f7 := hP1.2.2.2.2.2.2.2.2.1 7 (by decide) (by decide)
    have e34 : K1 34 = K 34 := fs_row fk1 34 (by decide)
    obtain ⟨Kf, Nf, q1, q2, q3⟩ := sim_fail hA1 3 (by decide)
    by_cases e17 : kx b L lim p = 17
    · -- a stove
      rw [if_pos e17] at mb
      have h2 := kx_two hpL (show 17 < 30 by decide) e17
      have hct := c_told (K := K1) (a := a) (one := 17) (by omega) (by decide) q1
      have cc : s_X3_readMore_b10 K k (a : Int) (nt : Int) (so : Int) (i : Int) = (s_X3_withTold K1 (a : Int) 17).bind (fun y68 => fel y68.1 (fun w68 => (s_X2_tell_28 y68.2 k 7 1).bind fun y80 => if fin ((i : Int) + 1) then some (.inl (w68, (nt : Int), (so : Int), ((i : Int) + 1), y80.2)) else none) (some (.inr (.inr (.inr (), y68.2))))) := by
        refine cb _ ?_
        rw [hkw, Option.bind_some, if_pos e17]
      obtain ⟨a2, ea, la, t17, toth⟩ := bit21 ha (show 17 < 21 by decide)
      rw [ea] at hct
      have hct' : s_X3_withTold K1 (a : Int) 17 = if Nat.testBit a 17 = true then some (.inr (), Kf) else some (.inl (a2 : Int), K1) := hct
      rw [hct'] at cc
      rw [f7.1, e34] at mb
      by_cases g : K 34 (k * 10 + 7).toNat = 1
      · rw [if_pos (h17.2 g)] at cc
        rw [if_neg (fun e => e g), q2] at mb
        exact stop Kf Nf cc mb q3
      · rw [if_neg (fun e => g (h17.1 e))] at cc
        rw [if_pos g] at mb
        have hct2 : s_X2_tell_28 K1 k 7 1 = some ((), fup K1 34 (k * 10 + 7).toNat 1) := c_tell hk (by decide)
        have fnw : fSame [(124, none)] N (fup N 124 (820 + 10 * k + 7).toNat 1) := fs_up fs_refl (.inl (by decide))
        have fkw : fSame [(34, none)] K1 (fup K1 34 (k * 10 + 7).toNat 1) := fs_up fs_refl (.inl (by decide))
        obtain ⟨N2, m2, fn2, hB2⟩ := sim_next (StA_m fnw (by decide) (StA_c fkw (by decide) hA1))
        have hP2 := pv_tok (pv_fact hk hP1 (w := 7) (v := 1) (j' := 10) (by decide) (by unfold fRng; omega) (fun u u0 u1 => by omega)) fs_refl (fs_mono (l' := gtL) (by decide) fn2)
        refine next _ N2 _ a2 nt so op ?_ ?_ hB2 hP2 h2 la hnt hso ?_ hop ?_
        · rw [cc, Option.bind_some, fel_l, hct2, Option.bind_some, if_pos fi1]
        · rw [mb, m2]
          rfl
        · rw [fup_eq, upd1_at, t17]
          exact ⟨fun _ => rfl, fun _ => rfl⟩
        · rw [toth 20 (by decide)]
          exact h20
    · rw [if_neg e17] at mb
      by_cases e20 : kx b L lim p = 20
      · -- open
        rw [if_pos e20] at mb
        have h2 := kx_two hpL (show 20 < 30 by decide) e20
        have hct0 := c_told (K := K1) (a := a) (one := 20) (by omega) (by decide) q1
        obtain ⟨a2, ea, la, t20, toth⟩ := bit21 ha (show 20 < 21 by decide)
        rw [ea] at hct0
        have hct : s_X3_withTold K1 (a : Int) 20 = if Nat.testBit a 20 = true then some (.inr (), Kf) else some (.inl (a2 : Int), K1) := hct0
        have cc : s_X3_readMore_b10 K k (a : Int) (nt : Int) (so : Int) (i : Int) = (s_X3_withTold K1 (a : Int) 20).bind (fun y90 => fel y90.1 (fun w90 => (s_X10_takeNumber y90.2 0 1440).bind fun y102 => fel y102.1 (fun w102 => (s_X2_tell_28 y102.2 k 8 w102).bind fun y116 => if fin (w102 + 1) then (s_X10_takeNumber y116.2 (w102 + 1) 1440).bind (fun y137 => fel y137.1 (fun w137 => (s_X2_tell_28 y137.2 k 9 w137).bind fun y140 => if fin ((i : Int) + 1) then some (.inl (w90, (nt : Int), (so : Int), ((i : Int) + 1), y140.2)) else none) (some (.inr (.inr (.inr (), y137.2))))) else none) (some (.inr (.inr (.inr (), y102.2))))) (some (.inr (.inr (.inr (), y90.2))))) := by
          refine cb _ ?_
          rw [hkw, Option.bind_some, if_neg (by omega), if_neg (by omega), if_neg (by omega), if_pos e20]
        rw [hct] at cc
        by_cases g : op = 1
        · rw [if_pos (h20.2 g)] at cc
          rw [if_neg (by omega), q2] at mb
          exact stop Kf Nf cc mb q3
        · rw [if_neg (fun e => g (h20.1 e))] at cc
          rw [if_pos (by omega)] at mb
          obtain ⟨N2, m2, fn2, hB2⟩ := sim_next hA1
          rw [m2] at mb
          have mb2 : s_X12_more_b20 N k (175 + 10 * k) op (nt : Int) (so : Int) 1 = (s_X12_span N2 (175 + 10 * k + 8)).bind (fun y110 => if ¬ y110.1 = 0 then some (.inl (1, (nt : Int), (so : Int), 1, y110.2)) else some (.inr (.inr (0, y110.2)))) := by
            rw [mb]
            show (if fin (175 + 10 * k + 8) then _ else none) = _
            rw [if_pos (by unfold fin; omega)]
          have cc2 : s_X3_readMore_b10 K k (a : Int) (nt : Int) (so : Int) (i : Int) = (s_X10_takeNumber K1 0 1440).bind fun y102 => fel y102.1 (fun w102 => (s_X2_tell_28 y102.2 k 8 w102).bind fun y116 => if fin (w102 + 1) then (s_X10_takeNumber y116.2 (w102 + 1) 1440).bind (fun y137 => fel y137.1 (fun w137 => (s_X2_tell_28 y137.2 k 9 w137).bind fun y140 => if fin ((i : Int) + 1) then some (.inl ((a2 : Int), (nt : Int), (so : Int), ((i : Int) + 1), y140.2)) else none) (some (.inr (.inr (.inr (), y137.2))))) else none) (some (.inr (.inr (.inr (), y102.2)))) := by
            rw [cc, Option.bind_some, fel_l]
          rcases sim_span hB2 (g := fun v Q => fup Q 34 (k * 10 + 8).toNat v) (l := [(34, none)]) (by decide) (fun v Q => fs_up fs_refl (.inl (by decide))) (x := 175 + 10 * k + 8) (by omega) with ⟨v, w, K3, K4, N4, p', c3, c4, m4, hB4, lt4, hvw, fk3, fk4, fn4⟩ | ⟨K4, N4, c4, m4, hF⟩
          · have x1 : (645 + (175 + 10 * k + 8)).toNat = (820 + 10 * k + 8).toNat := by omega
            have x2 : (645 + (175 + 10 * k + 8) + 1).toNat = (820 + 10 * k + 9).toNat := by omega
            rw [x1, x2] at m4
            have hP3 : PvI K0 N0 K3 N4 k x 10 := pv_tok hP1 fk3 (fs_trans (fs_mono (by decide) fn2) fn4)
            have hP4 := pv_fact hk hP3 (w := 8) (v := v) (j' := 10) (by decide) (by unfold fRng; omega) (fun u u0 u1 => by omega)
            have hP5 := pv_fact hk (pv_tok hP4 fk4 fs_refl) (w := 9) (v := w) (j' := 10) (by decide) (by unfold fRng; omega) (fun u u0 u1 => by omega)
            have hB5 := StB_m (l := [(124, none)]) (N' := fup (fup N4 124 (820 + 10 * k + 8).toNat v) 124 (820 + 10 * k + 9).toNat w) (fs_up (fs_up fs_refl (.inl (by decide))) (.inl (by decide))) (by decide) (StB_c (l := [(34, none)]) (K' := fup K4 34 (k * 10 + 9).toNat w) (fs_up fs_refl (.inl (by decide))) (by decide) hB4)
            refine next _ _ p' a2 nt so 1 ?_ ?_ hB5 hP5 (by omega) la hnt hso ?_ (.inr rfl) ?_
            · rw [cc2, c3]
              show ((s_X2_tell_28 K3 k 8 v).bind _) = _
              rw [c_tell hk (by decide)]
              show (if fin (v + 1) then (s_X10_takeNumber (fup K3 34 (k * 10 + 8).toNat v) (v + 1) 1440).bind _ else none) = _
              rw [if_pos (by unfold fin; omega), c4]
              show ((s_X2_tell_28 K4 k 9 w).bind _) = _
              rw [c_tell hk (by decide), Option.bind_some, if_pos fi1]
            · rw [mb2, m4]
              rfl
            · rw [fup_eq, upd1_ne (by omega), fs_row fk4 34 (by decide), fup_eq, upd1_ne (by omega), fs_row fk3 34 (by decide), e34, toth 17 (by decide)]
              exact h17
            · rw [t20]
              exact ⟨fun _ => rfl, fun _ => rfl⟩
          · refine stop K4 N4 ?_ ?_ hF
            · rw [cc2]
              rcases c4 with c4 | ⟨v, K3, c3, hv, c4⟩
              · rw [c4]
                rfl
              · rw [c3]
                show ((s_X2_tell_28 K3 k 8 v).bind _) = _
                rw [c_tell hk (by decide)]
                show (if fin (v + 1) then (s_X10_takeNumber (fup K3 34 (k * 10 + 8).toNat v) (v + 1) 1440).bind _ else none) = _
                rw [if_pos (by unfold fin; omega), c4]
                rfl
            · rw [mb2, m4]
              rfl
      · rw [if_neg e20] at mb
        by_cases e18 : kx b L lim p = 18
        · have h2 := kx_two hpL (show 18 < 30 by decide) e18
          rw [if_pos (by omega)] at mb
          have cc : s_X3_readMore_b10 K k (a : Int) (nt : Int) (so : Int) (i : Int) = (s_X10_takeNumber K1 0 11).bind (fun y153 => fel y153.1 (fun w153 => (s_X3_withTold y153.2 (nt : Int) w153).bind fun y162 => fel y162.1 (fun w162 => if fin (k * 12) ∧ fin ((k * 12) + w153) then (s_X10_takeNumber y162.2 0 99).bind (fun y187 => fel y187.1 (fun w187 => if (0 ≤ ((k * 12) + w153) ∧ ((k * 12) + w153) < 192) ∧ fin ((i : Int) + 1) then some (.inl ((a : Int), w162, (so : Int), ((i : Int) + 1), (fup y187.2 35 ((k * 12) + w153).toNat w187))) else none) (some (.inr (.inr (.inr (), y187.2))))) else none) (some (.inr (.inr (.inr (), y162.2))))) (some (.inr (.inr (.inr (), y153.2))))) := by
            refine cb _ ?_
            rw [hkw, Option.bind_some, if_neg (by omega), if_pos e18]
          obtain ⟨N2, m2, fn2, hB2⟩ := sim_next hA1
          have mc : s_X12_more_b20 N k (175 + 10 * k) op (nt : Int) (so : Int) 1 = if (N2 122 11) = 2 then s_X12_more_j180 N2 k (175 + 10 * k) op (nt : Int) (so : Int) 1 1 (N2 122 14) 11 else (s_X12_bad N2 1).bind fun y161 => if b01 y161.1 then some (.inr (.inr (y161.1, y161.2))) else none := by
            rw [mb]
            unfold s_X12_more_j138
            rw [w18, Option.bind_some, show bit (kx b L lim p = ((18 : Nat) : Int)) = 1 from bit1.2 e18, m2, Option.bind_some, if_neg (show ¬ (1 : Int) = 0 by decide)]
          rcases sim_numA hB2 0 11 with ⟨K3, c3, hA3, n11, n14, r3, fk3, lt3⟩ | ⟨K3, N3, c3, hbad, hF⟩
          · obtain ⟨v, hvd⟩ : ∃ v, v = tV b L (tNx b L lim p) := ⟨_, rfl⟩
            rw [← hvd] at c3 n14 r3
            obtain ⟨vn, hvn⟩ : ∃ vn : Nat, v = (vn : Int) := ⟨v.toNat, by omega⟩
            obtain ⟨Kg, Ng, u1, u2, u3⟩ := sim_fail hA3 3 (by decide)
            have hct := c_told (K := K3) (a := nt) (one := vn) (by omega) (by omega) u1
            rw [← hvn] at hct
            have md : s_X12_more_b20 N k (175 + 10 * k) op (nt : Int) (so : Int) 1 = if Nat.testBit nt vn = true then some (.inr (.inr (0, Ng))) else (s_X12_next N2).bind fun y225 => if (1 : Int) = 0 then s_X12_more_j242 y225.2 k (175 + 10 * k) op (nt : Int) (so : Int) 1 1 v 0 20 else s_X12_more_j242 y225.2 k (175 + 10 * k) op (nt : Int) (so : Int) 1 1 v 0 99 := by
              rw [mc, if_pos n11, n14]
              unfold s_X12_more_j180
              rw [if_pos r3.2, if_neg (show ¬ (1 : Int) = 0 by decide)]
              unfold s_X12_more_j201
              rw [n14, hvn, b_test (by omega) (by omega), u2]
              cases Nat.testBit nt vn with
              | true => rw [if_pos rfl, if_neg (show ¬ ¬ (1 : Int) = 1 by decide), if_pos rfl, Option.bind_some, if_pos (show b01 (0, Ng).1 from .inl rfl)]
              | false => rw [if_neg (show ¬ false = true by decide), if_pos (show ¬ (0 : Int) = 1 by decide), if_neg (show ¬ false = true by decide)]
            have ce : s_X3_readMore_b10 K k (a : Int) (nt : Int) (so : Int) (i : Int) = if Nat.testBit nt vn = true then some (.inr (.inr (.inr (), Kg))) else (s_X10_takeNumber K3 0 99).bind (fun y187 => fel y187.1 (fun w187 => if (0 ≤ ((k * 12) + v) ∧ ((k * 12) + v) < 192) ∧ fin ((i : Int) + 1) then some (.inl ((a : Int), ((nt ||| 2 ^ vn : Nat) : Int), (so : Int), ((i : Int) + 1), (fup y187.2 35 ((k * 12) + v).toNat w187))) else none) (some (.inr (.inr (.inr (), y187.2))))) := by
              rw [cc, c3, Option.bind_some, fel_l, hct]
              cases Nat.testBit nt vn with
              | true => rw [if_pos rfl, if_pos rfl, Option.bind_some, fel_r]
              | false => rw [if_neg (show ¬ false = true by decide), if_neg (show ¬ false = true by decide), Option.bind_some, fel_l, if_pos (show fin (k * 12) ∧ fin ((k * 12) + v) by unfold fin; omega)]
            cases hbt : Nat.testBit nt vn with
            | true =>
              rw [hbt, if_pos rfl] at md ce
              exact stop Kg Ng ce md u3
            | false =>
              rw [hbt, if_neg (by decide)] at md ce
              obtain ⟨N3, m3, fn3, hB3⟩ := sim_next hA3
              rcases sim_num hB3 0 99 with ⟨K4, N4, c4, m4, hB4, g4, r4, fk4, fn4, lt4⟩ | ⟨K4, N4, c4, m4, hF⟩
              · obtain ⟨z, hzd⟩ : ∃ z, z = tV b L (tNx b L lim (tNx b L lim p)) := ⟨_, rfl⟩
                rw [← hzd] at c4 g4 r4
                have hP4 := pv_slip hk (by decide) (pv_tok (pv_tok (pv_tok hP1 fk3 (fs_mono (l' := gtL) (by decide) fn2)) fs_refl (fs_mono (l' := gtL) (by decide) fn3)) fk4 fn4) (n := v) (v := z) (by omega) r4
                have hB5 := StB_m (l := [(124, none)]) (N' := fup N4 124 (980 + 12 * k + v).toNat z) (fs_up fs_refl (.inl (by decide))) (by decide) (StB_c (l := [(35, none)]) (K' := fup K4 35 (k * 12 + v).toNat z) (fs_up fs_refl (.inl (by decide))) (by decide) hB4)
                refine next _ _ _ a (nt ||| 2 ^ vn) so op ?_ ?_ hB5 hP4 (by omega) ha (or12 hnt (by omega)) hso ?_ hop h20
                · rw [ce, c4, Option.bind_some, fel_l, if_pos (show (0 ≤ ((k * 12) + v) ∧ ((k * 12) + v) < 192) ∧ fin ((i : Int) + 1) by unfold fin; omega)]
                · rw [md, m3, Option.bind_some, if_neg (show ¬ (1 : Int) = 0 by decide)]
                  unfold s_X12_more_j242
                  rw [m4, Option.bind_some, if_pos (show ¬ (1 : Int) = 0 by decide), if_neg (show ¬ (1 : Int) = 0 by decide), if_pos (show fin (12 * k) ∧ fin (335 + (12 * k)) by unfold fin; omega)]
                  unfold s_X12_more_j280
                  rw [if_pos (show fin (645 + (335 + (12 * k))) ∧ fin ((645 + (335 + (12 * k))) + v) ∧ (0 ≤ ((645 + (335 + (12 * k))) + v) ∧ ((645 + (335 + (12 * k))) + v) < 1290) by unfold fin; omega), if_neg (show ¬ (1 : Int) = 0 by decide), show ((1 : Int), N4).2 122 18 = z from g4, show (645 + (335 + (12 * k)) + v).toNat = (980 + 12 * k + v).toNat by omega]
                  unfold s_X12_more_j304
                  rw [if_neg (show ¬ (1 : Int) = 0 by decide), hvn, b_or (by omega) (by omega), show (0 : Int) = ((0 : Nat) : Int) from rfl, fior_nat (a := so) (b := 0) (by omega) (by decide), Nat.or_zero]
                · rw [fup_ne (by decide), fs_row fk4 34 (by decide), fs_row fk3 34 (by decide), e34]
                  exact h17
              · refine stop K4 N4 ?_ ?_ hF
                · rw [ce, c4]
                  rfl
                · rw [md, m3, Option.bind_some, if_neg (show ¬ (1 : Int) = 0 by decide)]
                  unfold s_X12_more_j242
                  rw [m4]
                  rfl
          · refine stop K3 N3 ?_ ?_ hF
            · rw [cc, c3]
              rfl
            · rw [mc]
              rcases hbad with ⟨n11, hb⟩ | ⟨n11, n14, hv0, hnr, hb⟩
              · rw [if_neg n11, hb]
                rfl
              · rw [if_pos n11, n14]
                unfold s_X12_more_j180
                rw [if_neg (by omega), hb]
                rfl
        · -- frail, or the end
          by_cases e19 : kx b L lim p = 19
          · have h2 := kx_two hpL (show 19 < 30 by decide) e19
            rw [if_pos (by omega)] at mb
            have cc : s_X3_readMore_b10 K k (a : Int) (nt : Int) (so : Int) (i : Int) = (s_X10_takeNumber K1 0 3).bind (fun y200 => fel y200.1 (fun w200 => (s_X3_withTold y200.2 (so : Int) w200).bind fun y210 => fel y210.1 (fun w210 => if fin (k * 4) ∧ fin ((k * 4) + w200) then (s_X10_takeNumber y210.2 0 20).bind (fun y235 => fel y235.1 (fun w235 => if (0 ≤ ((k * 4) + w200) ∧ ((k * 4) + w200) < 64) ∧ fin ((i : Int) + 1) then some (.inl ((a : Int), (nt : Int), w210, ((i : Int) + 1), (fup y235.2 36 ((k * 4) + w200).toNat w235))) else none) (some (.inr (.inr (.inr (), y235.2))))) else none) (some (.inr (.inr (.inr (), y210.2))))) (some (.inr (.inr (.inr (), y200.2))))) := by
              refine cb _ ?_
              rw [hkw, Option.bind_some, if_neg (by omega), if_neg (by omega), if_pos e19]
            obtain ⟨N2, m2, fn2, hB2⟩ := sim_next hA1
            have mc : s_X12_more_b20 N k (175 + 10 * k) op (nt : Int) (so : Int) 1 = if (N2 122 11) = 2 then s_X12_more_j180 N2 k (175 + 10 * k) op (nt : Int) (so : Int) 1 0 (N2 122 14) 3 else (s_X12_bad N2 1).bind fun y161 => if b01 y161.1 then some (.inr (.inr (y161.1, y161.2))) else none := by
              rw [mb]
              unfold s_X12_more_j138
              rw [w18, Option.bind_some, show bit (kx b L lim p = ((18 : Nat) : Int)) = 0 from bit0.2 (by omega), m2, Option.bind_some, if_pos (show (0 : Int) = 0 from rfl)]
            rcases sim_numA hB2 0 3 with ⟨K3, c3, hA3, n11, n14, r3, fk3, lt3⟩ | ⟨K3, N3, c3, hbad, hF⟩
            · obtain ⟨v, hvd⟩ : ∃ v, v = tV b L (tNx b L lim p) := ⟨_, rfl⟩
              rw [← hvd] at c3 n14 r3
              obtain ⟨vn, hvn⟩ : ∃ vn : Nat, v = (vn : Int) := ⟨v.toNat, by omega⟩
              obtain ⟨Kg, Ng, u1, u2, u3⟩ := sim_fail hA3 3 (by decide)
              have hct := c_told (K := K3) (a := so) (one := vn) (by omega) (by omega) u1
              rw [← hvn] at hct
              have md : s_X12_more_b20 N k (175 + 10 * k) op (nt : Int) (so : Int) 1 = if Nat.testBit so vn = true then some (.inr (.inr (0, Ng))) else (s_X12_next N2).bind fun y225 => if (0 : Int) = 0 then s_X12_more_j242 y225.2 k (175 + 10 * k) op (nt : Int) (so : Int) 1 0 v 0 20 else s_X12_more_j242 y225.2 k (175 + 10 * k) op (nt : Int) (so : Int) 1 0 v 0 99 := by
                rw [mc, if_pos n11, n14]
                unfold s_X12_more_j180
                rw [if_pos r3.2, if_pos (show (0 : Int) = 0 from rfl)]
                unfold s_X12_more_j201
                rw [n14, hvn, b_test (by omega) (by omega), u2]
                cases Nat.testBit so vn with
                | true => rw [if_pos rfl, if_neg (show ¬ ¬ (1 : Int) = 1 by decide), if_pos rfl, Option.bind_some, if_pos (show b01 (0, Ng).1 from .inl rfl)]
                | false => rw [if_neg (show ¬ false = true by decide), if_pos (show ¬ (0 : Int) = 1 by decide), if_neg (show ¬ false = true by decide)]
              have ce : s_X3_readMore_b10 K k (a : Int) (nt : Int) (so : Int) (i : Int) = if Nat.testBit so vn = true then some (.inr (.inr (.inr (), Kg))) else (s_X10_takeNumber K3 0 20).bind (fun y235 => fel y235.1 (fun w235 => if (0 ≤ ((k * 4) + v) ∧ ((k * 4) + v) < 64) ∧ fin ((i : Int) + 1) then some (.inl ((a : Int), (nt : Int), ((so ||| 2 ^ vn : Nat) : Int), ((i : Int) + 1), (fup y235.2 36 ((k * 4) + v).toNat w235))) else none) (some (.inr (.inr (.inr (), y235.2))))) := by
                rw [cc, c3, Option.bind_some, fel_l, hct]
                cases Nat.testBit so vn with
                | true => rw [if_pos rfl, if_pos rfl, Option.bind_some, fel_r]
                | false => rw [if_neg (show ¬ false = true by decide), if_neg (show ¬ false = true by decide), Option.bind_some, fel_l, if_pos (show fin (k * 4) ∧ fin ((k * 4) + v) by unfold fin; omega)]
              cases hbt : Nat.testBit so vn with
              | true =>
                rw [hbt, if_pos rfl] at md ce
                exact stop Kg Ng ce md u3
              | false =>
                rw [hbt, if_neg (by decide)] at md ce
                obtain ⟨N3, m3, fn3, hB3⟩ := sim_next hA3
                rcases sim_num hB3 0 20 with ⟨K4, N4, c4, m4, hB4, g4, r4, fk4, fn4, lt4⟩ | ⟨K4, N4, c4, m4, hF⟩
                · obtain ⟨z, hzd⟩ : ∃ z, z = tV b L (tNx b L lim (tNx b L lim p)) := ⟨_, rfl⟩
                  rw [← hzd] at c4 g4 r4
                  have hP4 := pv_frail hk (by decide) (pv_tok (pv_tok (pv_tok hP1 fk3 (fs_mono (l' := gtL) (by decide) fn2)) fs_refl (fs_mono (l' := gtL) (by decide) fn3)) fk4 fn4) (n := v) (v := z) (by omega) r4
                  have hB5 := StB_m (l := [(124, none)]) (N' := fup N4 124 (1172 + 4 * k + v).toNat z) (fs_up fs_refl (.inl (by decide))) (by decide) (StB_c (l := [(36, none)]) (K' := fup K4 36 (k * 4 + v).toNat z) (fs_up fs_refl (.inl (by decide))) (by decide) hB4)
                  refine next _ _ _ a nt (so ||| 2 ^ vn) op ?_ ?_ hB5 hP4 (by omega) ha hnt (or4 hso (by omega)) ?_ hop h20
                  · rw [ce, c4, Option.bind_some, fel_l, if_pos (show (0 ≤ ((k * 4) + v) ∧ ((k * 4) + v) < 64) ∧ fin ((i : Int) + 1) by unfold fin; omega)]
                  · rw [md, m3, Option.bind_some, if_pos (show (0 : Int) = 0 from rfl)]
                    unfold s_X12_more_j242
                    rw [m4, Option.bind_some, if_pos (show ¬ (1 : Int) = 0 by decide), if_pos (show (0 : Int) = 0 from rfl), if_pos (show fin (4 * k) ∧ fin (527 + (4 * k)) by unfold fin; omega)]
                    unfold s_X12_more_j280
                    rw [if_pos (show fin (645 + (527 + (4 * k))) ∧ fin ((645 + (527 + (4 * k))) + v) ∧ (0 ≤ ((645 + (527 + (4 * k))) + v) ∧ ((645 + (527 + (4 * k))) + v) < 1290) by unfold fin; omega), if_pos (show (0 : Int) = 0 from rfl), show ((1 : Int), N4).2 122 18 = z from g4, show (645 + (527 + (4 * k)) + v).toNat = (1172 + 4 * k + v).toNat by omega]
                    unfold s_X12_more_j304
                    rw [if_pos (show (0 : Int) = 0 from rfl), hvn, b_or (by omega) (by omega), show fior (nt : Int) 0 = (nt : Int) from (fior_nat (a := nt) (b := 0) (by omega) (by decide)).trans (by rw [Nat.or_zero])]
                  · rw [fup_ne (by decide), fs_row fk4 34 (by decide), fs_row fk3 34 (by decide), e34]
                    exact h17
                · refine stop K4 N4 ?_ ?_ hF
                  · rw [ce, c4]
                    rfl
                  · rw [md, m3, Option.bind_some, if_pos (show (0 : Int) = 0 from rfl)]
                    unfold s_X12_more_j242
                    rw [m4]
                    rfl
            · refine stop K3 N3 ?_ ?_ hF
              · rw [cc, c3]
                rfl
              · rw [mc]
                rcases hbad with ⟨n11, hb⟩ | ⟨n11, n14, hv0, hnr, hb⟩
                · rw [if_neg n11, hb]
                  rfl
                · rw [if_pos n11, n14]
                  unfold s_X12_more_j180
                  rw [if_neg (by omega), hb]
                  rfl
          · -- the end
            rw [if_neg (by omega)] at mb
            have cc : s_X3_readMore_b10 K k (a : Int) (nt : Int) (so : Int) (i : Int) = some (.inr (.inr (.inl (), K1))) := by
              refine cb _ ?_
              rw [hkw, Option.bind_some, if_neg e17, if_neg e18, if_neg e19, if_neg e20]
            left
            refine ⟨K1, N, p, ?_, ?_, hA1, hP1, Nat.le_refl _⟩
            · unfold s_X3_readMore_l10
              rw [fLp_eq]
              show (s_X3_readMore_b10 K k (a : Int) (nt : Int) (so : Int) (i : Int)).bind _ = _
              rw [cc]
              rfl
            · unfold s_X12_more_l20
              rw [fLp_stp (b := fun s : Int × Int × Int × Int × fM => s_X12_more_b20 s.2.2.2.2 k (175 + 10 * k) s.1 s.2.1 s.2.2.1 s.2.2.2.1) (s := (op, (nt : Int), (so : Int), 1, N)) mb, fLp_eq]
              rfl
