/-! ===== feed (by hand) ===== -/
theorem bv_byte (b : BitVec 32) (s : Nat) (hs : s ≤ 24) : (b >>> s).signExtend 8 = (b.sshiftRight s).signExtend 8 := by
  apply BitVec.eq_of_getLsbD_eq
  intro i hi
  rw [BitVec.getLsbD_signExtend, BitVec.getLsbD_signExtend, BitVec.getLsbD_ushiftRight, BitVec.getLsbD_sshiftRight]
  have h1 : i < 32 := by omega
  have h2 : ¬ 32 ≤ i := by omega
  have h3 : s + i < 32 := by omega
  simp [hi, h1, h2, h3]
theorem byte_eq (x : Int) {s : Int} (hs : s = 24 ∨ s = 16 ∨ s = 8 ∨ s = 0) : fi2b (fush x s) = fi2b (fshr x s) := by
  unfold fi2b fush fshr
  rw [Int32.ofInt_toInt, Int32.ofInt_toInt]
  congr 2
  apply Int8.toBitVec_inj.mp
  rcases hs with rfl | rfl | rfl | rfl
  · exact bv_byte (Int32.ofInt x).toBitVec 24 (by decide)
  · exact bv_byte (Int32.ofInt x).toBitVec 16 (by decide)
  · exact bv_byte (Int32.ofInt x).toBitVec 8 (by decide)
  · exact bv_byte (Int32.ofInt x).toBitVec 0 (by decide)
theorem fi2b_b (z : Int) : -128 ≤ fi2b z ∧ fi2b z < 128 := by
  unfold fi2b
  rw [Int8.toInt_toInt32]
  exact ⟨Int8.le_toInt _, Int8.toInt_lt _⟩
abbrev byteV (v s : Int) : Int := fi2b (fi2b (fshr v s))
/-- four bytes at n -/
def app4 (t : Nat → Int) (n : Int) (v : Int) : Nat → Int := upd1 (upd1 (upd1 (upd1 t n.toNat (byteV v 24)) (n + 1).toNat (byteV v 16)) (n + 1 + 1).toNat (byteV v 8)) (n + 1 + 1 + 1).toNat (byteV v 0)
theorem app4_b {t : Nat → Int} {n v : Int} (h : ∀ j, -128 ≤ t j ∧ t j < 128) : ∀ j, -128 ≤ app4 t n v j ∧ app4 t n v j < 128 := by
  intro j
  unfold app4 upd1
  repeat' split
  all_goals first | exact fi2b_b _ | exact h j
theorem c_addStep {M : fM} {v s n : Int} (hn : M 1 2 = n) (h0 : 0 ≤ n) (h1 : n < 1240) (hs : s = 24 ∨ s = 16 ∨ s = 8 ∨ s = 0) : s_X10_add_b3 M v s = some (.inl (s + -8, fup (fup M 2 n.toNat (byteV v s)) 1 2 (n + 1))) := by
  unfold s_X10_add_b3
  rw [hn, if_neg (by omega), if_neg (by omega), if_pos (by unfold fin; omega), if_pos (by unfold fin; omega), byte_eq v hs]
theorem c_add {M : fM} {v n : Int} (hn : M 1 2 = n) (h0 : 0 ≤ n) (h1 : n + 4 ≤ 1240) : ∃ M', s_X10_add M v = some ((), M') ∧ M' 1 2 = n + 4 ∧ M' 2 = app4 (M 2) n v := by
  refine ⟨_, by
    unfold s_X10_add s_X10_add_l3
    rw [fLp_eq]
    show (Option.bind (Option.bind (s_X10_add_b3 M v 24) _) _) = _
    rw [c_addStep hn h0 (by omega) (.inl rfl), Option.bind_some]
    show Option.bind (fLp (fun s : Int × fM => s_X10_add_b3 s.2 v s.1) (16, _)) _ = _
    rw [fLp_eq]
    show (Option.bind (Option.bind (s_X10_add_b3 _ v 16) _) _) = _
    rw [c_addStep (n := n + 1) rfl (by omega) (by omega) (.inr (.inl rfl)), Option.bind_some]
    show Option.bind (fLp (fun s : Int × fM => s_X10_add_b3 s.2 v s.1) (8, _)) _ = _
    rw [fLp_eq]
    show (Option.bind (Option.bind (s_X10_add_b3 _ v 8) _) _) = _
    rw [c_addStep (n := n + 1 + 1) rfl (by omega) (by omega) (.inr (.inr (.inl rfl))), Option.bind_some]
    show Option.bind (fLp (fun s : Int × fM => s_X10_add_b3 s.2 v s.1) (0, _)) _ = _
    rw [fLp_eq]
    show (Option.bind (Option.bind (s_X10_add_b3 _ v 0) _) _) = _
    rw [c_addStep (n := n + 1 + 1 + 1) rfl (by omega) (by omega) (.inr (.inr (.inr rfl))), Option.bind_some]
    show Option.bind (fLp (fun s : Int × fM => s_X10_add_b3 s.2 v s.1) (-8, _)) _ = _
    rw [fLp_eq]
    rfl, ?_, ?_⟩
  · show n + 1 + 1 + 1 + 1 = n + 4
    omega
  · unfold app4
    show (fup (fup (fup (fup (fup (fup (fup (fup M 2 n.toNat (byteV v 24)) 1 2 (n + 1)) 2 (n + 1).toNat (byteV v 16)) 1 2 (n + 1 + 1)) 2 (n + 1 + 1).toNat (byteV v 8)) 1 2 (n + 1 + 1 + 1)) 2 (n + 1 + 1 + 1).toNat (byteV v 0)) 1 2 (n + 1 + 1 + 1 + 1)) 2 = _
    rw [fup_ne (by decide), fup_eq, fup_ne (by decide), fup_eq, fup_ne (by decide), fup_eq, fup_ne (by decide), fup_eq]
theorem m_fourStep {M : fM} {v s n : Int} (hn : M 122 2 = n) (h0 : 0 ≤ n) (h1 : n < 1240) (hs : s = 24 ∨ s = 16 ∨ s = 8 ∨ s = 0) : s_X12_four_b3 M v s = some (.inl (s + -8, fup (fup M 123 n.toNat (byteV v s)) 122 2 (n + 1))) := by
  unfold s_X12_four_b3
  rw [hn, if_neg (by omega), if_pos (by unfold fin; omega), if_pos (by unfold fin; omega)]
theorem m_four {M : fM} {v n : Int} (hn : M 122 2 = n) (h0 : 0 ≤ n) (h1 : n + 4 ≤ 1240) : ∃ M', s_X12_four M v = some ((), M') ∧ M' 122 2 = n + 4 ∧ M' 123 = app4 (M 123) n v := by
  refine ⟨_, by
    unfold s_X12_four s_X12_four_l3
    rw [fLp_eq]
    show (Option.bind (Option.bind (s_X12_four_b3 M v 24) _) _) = _
    rw [m_fourStep hn h0 (by omega) (.inl rfl), Option.bind_some]
    show Option.bind (fLp (fun s : Int × fM => s_X12_four_b3 s.2 v s.1) (16, _)) _ = _
    rw [fLp_eq]
    show (Option.bind (Option.bind (s_X12_four_b3 _ v 16) _) _) = _
    rw [m_fourStep (n := n + 1) rfl (by omega) (by omega) (.inr (.inl rfl)), Option.bind_some]
    show Option.bind (fLp (fun s : Int × fM => s_X12_four_b3 s.2 v s.1) (8, _)) _ = _
    rw [fLp_eq]
    show (Option.bind (Option.bind (s_X12_four_b3 _ v 8) _) _) = _
    rw [m_fourStep (n := n + 1 + 1) rfl (by omega) (by omega) (.inr (.inr (.inl rfl))), Option.bind_some]
    show Option.bind (fLp (fun s : Int × fM => s_X12_four_b3 s.2 v s.1) (0, _)) _ = _
    rw [fLp_eq]
    show (Option.bind (Option.bind (s_X12_four_b3 _ v 0) _) _) = _
    rw [m_fourStep (n := n + 1 + 1 + 1) rfl (by omega) (by omega) (.inr (.inr (.inr rfl))), Option.bind_some]
    show Option.bind (fLp (fun s : Int × fM => s_X12_four_b3 s.2 v s.1) (-8, _)) _ = _
    rw [fLp_eq]
    rfl, ?_, ?_⟩
  · show n + 1 + 1 + 1 + 1 = n + 4
    omega
  · unfold app4
    show (fup (fup (fup (fup (fup (fup (fup (fup M 123 n.toNat (byteV v 24)) 122 2 (n + 1)) 123 (n + 1).toNat (byteV v 16)) 122 2 (n + 1 + 1)) 123 (n + 1 + 1).toNat (byteV v 8)) 122 2 (n + 1 + 1 + 1)) 123 (n + 1 + 1 + 1).toNat (byteV v 0)) 122 2 (n + 1 + 1 + 1 + 1)) 123 = _
    rw [fup_ne (by decide), fup_eq, fup_ne (by decide), fup_eq, fup_ne (by decide), fup_eq, fup_ne (by decide), fup_eq]
theorem k_feed {M : fM} (hI : Iv M) (a b c d e : Int) : ∃ v M1 M2, s_X11_feed M a b c d e = some (v, M1) ∧ M1 1000 = M 1000 ∧ s_X12_feed M1 a b c d e = some (v, M2) ∧ Iv M2 := by
  obtain ⟨t1, t2, t3, t4⟩ := hI.2.1
  by_cases h : M 1 2 + 20 ≤ 1240
  · generalize hn : M 1 2 = n at *
    obtain ⟨A1, a1, a2, a3⟩ := c_add (v := a) hn t2.1 (by omega)
    obtain ⟨A2, b1, b2, b3⟩ := c_add (v := b) a2 (by omega) (by omega)
    obtain ⟨A3, c1, c2, c3⟩ := c_add (v := c) b2 (by omega) (by omega)
    obtain ⟨A4, d1, d2, d3⟩ := c_add (v := d) c2 (by omega) (by omega)
    obtain ⟨A5, e1, e2, e3⟩ := c_add (v := e) d2 (by omega) (by omega)
    have sA : fSame s_X10_add_mods M A5 := fs_trans (s_X10_add_fr a1) (fs_trans (s_X10_add_fr b1) (fs_trans (s_X10_add_fr c1) (fs_trans (s_X10_add_fr d1) (s_X10_add_fr e1))))
    have hlen : fup A5 122 0 0 122 2 = n := by
      rw [show fup A5 122 0 0 122 2 = A5 122 2 from rfl, fs_row sA 122 (by decide), t1]
    obtain ⟨B1, f1, f2, f3⟩ := m_four (v := a) hlen t2.1 (by omega)
    obtain ⟨B2, g1, g2, g3⟩ := m_four (v := b) f2 (by omega) (by omega)
    obtain ⟨B3, h1, h2, h3⟩ := m_four (v := c) g2 (by omega) (by omega)
    obtain ⟨B4, i1, i2, i3⟩ := m_four (v := d) h2 (by omega) (by omega)
    obtain ⟨B5, j1, j2, j3⟩ := m_four (v := e) i2 (by omega) (by omega)
    have sB : fSame s_X12_four_mods (fup A5 122 0 0) B5 := fs_trans (s_X12_four_fr f1) (fs_trans (s_X12_four_fr g1) (fs_trans (s_X12_four_fr h1) (fs_trans (s_X12_four_fr i1) (s_X12_four_fr j1))))
    have sAll : fSame [(2, none), (1, some 2), (122, some 0), (123, none), (122, some 2)] M B5 := fs_trans (fs_mono (by decide) sA) (fs_trans (fs_up fs_refl (.inr (by decide)) : fSame _ A5 (fup A5 122 0 0)) (fs_mono (by decide) sB))
    refine ⟨n + 4 + 4 + 4 + 4 + 4, A5, B5, ?_, fs_row sA 1000 (by decide), ?_, ?_⟩
    · unfold s_X11_feed s_X10_hasRoom
      rw [hn, if_pos (by unfold fin; omega), if_neg (by omega), Option.bind_some, if_pos (by decide), a1, Option.bind_some]
      show (s_X10_add A1 b).bind _ = _
      rw [b1, Option.bind_some]
      show (s_X10_add A2 c).bind _ = _
      rw [c1, Option.bind_some]
      show (s_X10_add A3 d).bind _ = _
      rw [d1, Option.bind_some]
      show (s_X10_add A4 e).bind _ = _
      rw [e1, Option.bind_some]
      show some (A5 1 2, A5) = _
      rw [e2]
    · unfold s_X12_feed
      rw [fs_row sA 122 (by decide), t1, if_pos (by unfold fin; omega), if_pos h, f1, Option.bind_some]
      show (s_X12_four B1 b).bind _ = _
      rw [g1, Option.bind_some]
      show (s_X12_four B2 c).bind _ = _
      rw [h1, Option.bind_some]
      show (s_X12_four B3 d).bind _ = _
      rw [i1, Option.bind_some]
      show (s_X12_four B4 e).bind _ = _
      rw [j1, Option.bind_some]
      show some (B5 122 2, B5) = _
      rw [j2]
    · obtain ⟨q1, q2, q3, ⟨D, q4⟩, ⟨D0, q5⟩, ⟨D1, q6⟩⟩ := hI
      refine ⟨St_same sAll (by decide) q1, ?_, Ou_same sAll (by decide) q3, ⟨D, Cu_same sAll (by decide) (by decide) q4⟩, ⟨D0, Kp_same sAll (by decide) (by decide) q5⟩, ⟨D1, Kp_same sAll (by decide) (by decide) q6⟩⟩
      have r1 : B5 1 = A5 1 := by rw [fs_row sB 1 (by decide), fup_ne (by decide)]
      have r2 : B5 2 = A5 2 := by rw [fs_row sB 2 (by decide), fup_ne (by decide)]
      have x2 : A5 2 = app4 (app4 (app4 (app4 (app4 (M 2) n a) (n + 4) b) (n + 4 + 4) c) (n + 4 + 4 + 4) d) (n + 4 + 4 + 4 + 4) e := by rw [e3, d3, c3, b3, a3]
      have x3 : B5 123 = app4 (app4 (app4 (app4 (app4 (M 2) n a) (n + 4) b) (n + 4 + 4) c) (n + 4 + 4 + 4) d) (n + 4 + 4 + 4 + 4) e := by
        rw [j3, i3, h3, g3, f3, fup_ne (by decide), fs_row sA 123 (by decide), t3]
      refine ⟨by rw [j2, r1, e2], by rw [r1, e2]; omega, by rw [x3, r2, x2], fun j => ?_⟩
      rw [r2, x2]
      exact app4_b (app4_b (app4_b (app4_b (app4_b t4)))) j
  · refine ⟨-1, M, fup M 122 0 0, ?_, rfl, ?_, Iv_thrown hI⟩
    · unfold s_X11_feed s_X10_hasRoom
      rw [if_pos (by unfold fin; omega), if_pos (by omega)]
      rfl
    · unfold s_X12_feed
      rw [t1, if_pos (by unfold fin; omega), if_neg h]
