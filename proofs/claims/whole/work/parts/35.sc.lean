/-! ===== functions of the methods (printed by genfun.py) ===== -/
abbrev s_X3_readFee_mods : List (Nat × Option Nat) := [(1, some 4), (1, some 5), (1, some 6), (1, some 7), (1, some 8), (1, some 9), (1, some 10), (28, some 16), (33, none)]
noncomputable def s_X3_readFee (M : fM) : Option ((Unit ⊕ Unit) × fM) :=
  (s_X3_mustHaveRoom M (M 28 16) 16).bind fun y10 =>
    fel y10.1
      (fun w10 =>
        if fin ((y10.2 28 16) * 3) then
          (s_X10_takeKind y10.2).bind fun y35 =>
            fel y35.1
              (fun w35 =>
                if (0 ≤ ((y10.2 28 16) * 3) ∧ ((y10.2 28 16) * 3) < 48) ∧ fin (((y10.2 28 16) * 3) + 1) then
                  (s_X10_takeNumber (fup y35.2 33 ((y10.2 28 16) * 3).toNat w35) 0 9999).bind fun y57 =>
                    fel y57.1
                      (fun w57 =>
                        if (0 ≤ (((y10.2 28 16) * 3) + 1) ∧ (((y10.2 28 16) * 3) + 1) < 48) ∧ fin (((y10.2 28 16) * 3) + 2) then
                          (s_X10_takeNumber (fup y57.2 33 (((y10.2 28 16) * 3) + 1).toNat w57) 0 363).bind fun y79 =>
                            fel y79.1
                              (fun w79 =>
                                if (0 ≤ (((y10.2 28 16) * 3) + 2) ∧ (((y10.2 28 16) * 3) + 2) < 48) ∧ fin ((y79.2 28 16) + 1) then
                                  (s_X10_take (fup (fup y79.2 33 (((y10.2 28 16) * 3) + 2).toNat w79) 28 16 ((y79.2 28 16) + 1))).bind fun y100 =>
                                    some (.inl (), y100.2)
                                else none)
                              (some (.inr (), y79.2))
                        else none)
                      (some (.inr (), y57.2))
                else none)
              (some (.inr (), y35.2))
        else none)
      (some (.inr (), y10.2))
theorem s_X3_readFee_ok {d L : Nat} {M : fM} {r : ((Unit ⊕ Unit) × fM)} {Q : fO → fH → Prop} (h : s_X3_readFee M = some r) (H : Q (oT oV 1 r.1) (156, fjl L, r.2)) : Wp (d + 10, 53, 0, 0, 0, [some (fA 27), none], []) (156, fjl L, M) Q := by
  unfold s_X3_readFee at h
  refine Wp.run 5 (f' := (d + 10, 53, 10, 0, 0, [some (fA 27), _], [fI 16, fI (M 28 16), fA 27])) (h' := (156, fjl L, M)) rfl trivial ?_
  obtain ⟨y10, hy, h⟩ := fbd h
  refine Wp.call rfl (by decide) (s_X3_mustHaveRoom_ok (d := d + 1) hy ?_)
  obtain ⟨w10, ew, h⟩ | ⟨ew, h⟩ := fel_of h
  · rw [ew]
    show Wp (d + 10, 53, 13, 0, 0, [some (fA 27), _], []) (156, fjl L, y10.2) Q
    obtain ⟨g0, h⟩ := fgd h
    refine Wp.run 12 (f' := (d + 10, 53, 35, 0, 0, [some (fA 27), some (fI (fw ((y10.2 28 16) * 3)))], [fA 1, fI (fw ((y10.2 28 16) * 3)), fA 33])) (h' := (156, fjl L, y10.2)) rfl trivial ?_
    rw [fw_id g0]
    obtain ⟨y35, hy, h⟩ := fbd h
    refine Wp.call rfl (by decide) (s_X10_takeKind_ok (d := d + 1) hy ?_)
    obtain ⟨w35, ew, h⟩ | ⟨ew, h⟩ := fel_of h
    · rw [ew]
      show Wp (d + 10, 53, 38, 0, 0, [some (fA 27), some (fI ((y10.2 28 16) * 3))], [fI w35, fI ((y10.2 28 16) * 3), fA 33]) (156, fjl L, y35.2) Q
      obtain ⟨⟨g0, g1⟩, h⟩ := fgd h
      refine Wp.run 11 (P := [0 ≤ ((y10.2 28 16) * 3) ∧ ((y10.2 28 16) * 3) < 48]) (f' := (d + 10, 53, 57, 0, 0, [some (fA 27), some (fI ((y10.2 28 16) * 3))], [fI 9999, fI 0, fA 1, fI (fw (((y10.2 28 16) * 3) + 1)), fA 33])) (h' := (156, fjl L, (fup y35.2 33 ((y10.2 28 16) * 3).toNat w35))) rfl ?_ ?_
      · exact g0
      rw [fw_id g1]
      obtain ⟨y57, hy, h⟩ := fbd h
      refine Wp.call rfl (by decide) (s_X10_takeNumber_ok (d := d + 0) hy ?_)
      obtain ⟨w57, ew, h⟩ | ⟨ew, h⟩ := fel_of h
      · rw [ew]
        show Wp (d + 10, 53, 60, 0, 0, [some (fA 27), some (fI ((y10.2 28 16) * 3))], [fI w57, fI (((y10.2 28 16) * 3) + 1), fA 33]) (156, fjl L, y57.2) Q
        obtain ⟨⟨g0, g1⟩, h⟩ := fgd h
        refine Wp.run 11 (P := [0 ≤ (((y10.2 28 16) * 3) + 1) ∧ (((y10.2 28 16) * 3) + 1) < 48]) (f' := (d + 10, 53, 79, 0, 0, [some (fA 27), _], [fI 363, fI 0, fA 1, fI (fw (((y10.2 28 16) * 3) + 2)), fA 33])) (h' := (156, fjl L, (fup y57.2 33 (((y10.2 28 16) * 3) + 1).toNat w57))) rfl ?_ ?_
        · exact g0
        rw [fw_id g1]
        obtain ⟨y79, hy, h⟩ := fbd h
        refine Wp.call rfl (by decide) (s_X10_takeNumber_ok (d := d + 0) hy ?_)
        obtain ⟨w79, ew, h⟩ | ⟨ew, h⟩ := fel_of h
        · rw [ew]
          show Wp (d + 10, 53, 82, 0, 0, [some (fA 27), _], [fI w79, fI (((y10.2 28 16) * 3) + 2), fA 33]) (156, fjl L, y79.2) Q
          obtain ⟨⟨g0, g1⟩, h⟩ := fgd h
          refine Wp.run 10 (P := [0 ≤ (((y10.2 28 16) * 3) + 2) ∧ (((y10.2 28 16) * 3) + 2) < 48]) (f' := (d + 10, 53, 100, 0, 0, [_, _], [fA 1])) (h' := (156, fjl L, (fup (fup y79.2 33 (((y10.2 28 16) * 3) + 2).toNat w79) 28 16 (fw ((y79.2 28 16) + 1))))) rfl ?_ ?_
          · exact g0
          rw [fw_id g1]
          obtain ⟨y100, hy, h⟩ := fbd h
          refine Wp.call rfl (by decide) (s_X10_take_ok (d := d + 7) hy ?_)
          show Wp (d + 10, 53, 103, 0, 0, [_, _], []) (156, fjl L, y100.2) Q
          obtain rfl := Option.some.inj h
          exact Wp.done rfl (by decide) H
        · rw [ew]
          obtain rfl := Option.some.inj h
          exact ⟨⟨rfl, rfl⟩, H⟩
      · rw [ew]
        obtain rfl := Option.some.inj h
        exact ⟨⟨rfl, rfl⟩, H⟩
    · rw [ew]
      obtain rfl := Option.some.inj h
      exact ⟨⟨rfl, rfl⟩, H⟩
  · rw [ew]
    obtain rfl := Option.some.inj h
    exact ⟨⟨rfl, rfl⟩, H⟩
theorem s_X3_readFee_fr {M : fM} {r : ((Unit ⊕ Unit) × fM)} (h : s_X3_readFee M = some r) : fSame s_X3_readFee_mods M r.2 := by
  unfold s_X3_readFee at h
  obtain ⟨y10, hy, h⟩ := fbd h
  have k10 := fs_trans (l := s_X3_readFee_mods) fs_refl (fs_mono (l := s_X3_mustHaveRoom_mods) (by decide) (s_X3_mustHaveRoom_fr hy))
  obtain ⟨w10, ew, h⟩ | ⟨ew, h⟩ := fel_of h
  · replace h := (fgd h).2
    obtain ⟨y35, hy, h⟩ := fbd h
    have k35 := fs_trans (l := s_X3_readFee_mods) k10 (fs_mono (l := s_X10_takeKind_mods) (by decide) (s_X10_takeKind_fr hy))
    obtain ⟨w35, ew, h⟩ | ⟨ew, h⟩ := fel_of h
    · replace h := (fgd h).2
      obtain ⟨y57, hy, h⟩ := fbd h
      have k57 := fs_trans (l := s_X3_readFee_mods) (fs_up k35 (.inl (by decide))) (fs_mono (l := s_X10_takeNumber_mods) (by decide) (s_X10_takeNumber_fr hy))
      obtain ⟨w57, ew, h⟩ | ⟨ew, h⟩ := fel_of h
      · replace h := (fgd h).2
        obtain ⟨y79, hy, h⟩ := fbd h
        have k79 := fs_trans (l := s_X3_readFee_mods) (fs_up k57 (.inl (by decide))) (fs_mono (l := s_X10_takeNumber_mods) (by decide) (s_X10_takeNumber_fr hy))
        obtain ⟨w79, ew, h⟩ | ⟨ew, h⟩ := fel_of h
        · replace h := (fgd h).2
          obtain ⟨y100, hy, h⟩ := fbd h
          have k100 := fs_trans (l := s_X3_readFee_mods) (fs_up (fs_up k79 (.inl (by decide))) (.inr (by decide))) (fs_mono (l := s_X10_take_mods) (by decide) (s_X10_take_fr hy))
          obtain rfl := Option.some.inj h
          exact k100
        · obtain rfl := Option.some.inj h
          exact k79
      · obtain rfl := Option.some.inj h
        exact k57
    · obtain rfl := Option.some.inj h
      exact k35
  · obtain rfl := Option.some.inj h
    exact k10
abbrev s_X3_readTerm_mods : List (Nat × Option Nat) := [(1, some 4), (1, some 5), (1, some 6), (1, some 7), (1, some 8), (1, some 9), (1, some 10), (31, none)]
noncomputable def s_X3_readTerm_b24 (M : fM) (l2 l3 : Int) : Option ((Int × fM) ⊕ fM) :=
  if l2 < l3 then
    some (.inr M)
  else
    if (0 ≤ l3 ∧ l3 < 52) ∧ fin (l3 + 1) then
      some (.inl ((l3 + 1), (fup M 31 (l3).toNat 1)))
    else none
theorem s_X3_readTerm_b24_ok {d L : Nat} {M : fM} {l2 l3 : Int} {o1 : Option fV} {r : ((Int × fM) ⊕ fM)} {Q : fO → fH → Prop} (h : s_X3_readTerm_b24 M l2 l3 = some r) (hC : ∀ (l3' : Int) (M' : fM) (o1' : Option fV), r = .inl (l3', M') → Wp (d + 10, 52, 24, 0, 0, [some (fA 27), o1', some (fI l2), some (fI l3')], []) (156, fjl L, M') Q) (hE : ∀ (e : fM) (o1' o2' o3' : Option fV), r = .inr e → Wp (d + 10, 52, 45, 0, 0, [some (fA 27), o1', o2', o3'], []) (156, fjl L, e) Q) : Wp (d + 10, 52, 24, 0, 0, [some (fA 27), o1, some (fI l2), some (fI l3)], []) (156, fjl L, M) Q := by
  unfold s_X3_readTerm_b24 at h
  refine Wp.run 2 (f' := (d + 10, 52, 26, 0, 0, [some (fA 27), _, some (fI l2), some (fI l3)], [fI l2, fI l3])) (h' := (156, fjl L, M)) rfl trivial ?_
  refine Wp.br rfl (fun (c : l2 < l3) => ?_) (fun (c : ¬ (l2 < l3)) => ?_)
  · replace h := fps c h
    exact hE _ _ _ _ (Option.some.inj h).symm
  · replace h := fng c h
    obtain ⟨⟨g0, g1⟩, h⟩ := fgd h
    refine Wp.run 8 (P := [0 ≤ l3 ∧ l3 < 52]) (f' := (d + 10, 52, 24, 0, 0, [some (fA 27), _, some (fI l2), some (fI (fw (l3 + 1)))], [])) (h' := (156, fjl L, (fup M 31 (l3).toNat 1))) rfl ?_ ?_
    · exact g0
    rw [fw_id g1]
    exact hC _ _ _ (Option.some.inj h).symm
theorem s_X3_readTerm_b24_fr {M : fM} {l2 l3 : Int} {r : ((Int × fM) ⊕ fM)} (h : s_X3_readTerm_b24 M l2 l3 = some r) : fSame s_X3_readTerm_mods M (Sum.elim (fun s => s.2) (fun e => e) r) := by
  unfold s_X3_readTerm_b24 at h
  by_cases c : l2 < l3
  · replace h := fps c h
    obtain rfl := Option.some.inj h
    exact fs_refl
  · replace h := fng c h
    replace h := (fgd h).2
    obtain rfl := Option.some.inj h
    exact fs_up fs_refl (.inl (by decide))
noncomputable def s_X3_readTerm_l24 (l2 : Int) (s : (Int × fM)) : Option fM := fLp (fun s => s_X3_readTerm_b24 s.2 l2 s.1) s
theorem s_X3_readTerm_l24_ok {d L : Nat} {M : fM} {l2 l3 : Int} {o1 : Option fV} {r : fM} {Q : fO → fH → Prop} (h : s_X3_readTerm_l24 l2 (l3, M) = some r) (hE : ∀ (e : fM) (o1' o2' o3' : Option fV), r = e → Wp (d + 10, 52, 45, 0, 0, [some (fA 27), o1', o2', o3'], []) (156, fjl L, e) Q) : Wp (d + 10, 52, 24, 0, 0, [some (fA 27), o1, some (fI l2), some (fI l3)], []) (156, fjl L, M) Q := by
  refine fLp_wp (W := fun s => ∀ (o1 : Option fV), Wp (d + 10, 52, 24, 0, 0, [some (fA 27), o1, some (fI l2), some (fI s.1)], []) (156, fjl L, s.2) Q) (e := r) ?_ h _
  intro s r1 h hC hX o1
  refine s_X3_readTerm_b24_ok (d := d) h (fun a0 a1 _ e1 => ?_) (fun e u0 u1 u2 e1 => hE e u0 u1 u2 (hX _ e1).symm)
  exact hC _ e1 _
theorem s_X3_readTerm_l24_fr {M : fM} {l2 l3 : Int} {r : fM} (h : s_X3_readTerm_l24 l2 (l3, M) = some r) : fSame s_X3_readTerm_mods M ((fun e => e) r) := by
  refine fLp_inv (I := fun s => fSame s_X3_readTerm_mods M s.2) (J := fun r => fSame s_X3_readTerm_mods M ((fun e => e) r)) h fs_refl (fun s s1 hs hb => ?_) (fun s e hs hb => ?_)
  · exact fs_trans hs (s_X3_readTerm_b24_fr hb)
  · exact fs_trans hs (s_X3_readTerm_b24_fr hb)
noncomputable def s_X3_readTerm (M : fM) : Option ((Unit ⊕ Unit) × fM) :=
  (s_X10_takeNumber M 0 51).bind fun y7 =>
    fel y7.1
      (fun w7 =>
        (s_X10_takeNumber y7.2 w7 51).bind fun y18 =>
          fel y18.1
            (fun w18 =>
              (s_X3_readTerm_l24 w18 (w7, y18.2)).bind fun e24 =>
                (s_X10_take e24).bind fun y49 =>
                  some (.inl (), y49.2))
            (some (.inr (), y18.2)))
      (some (.inr (), y7.2))
theorem s_X3_readTerm_ok {d L : Nat} {M : fM} {r : ((Unit ⊕ Unit) × fM)} {Q : fO → fH → Prop} (h : s_X3_readTerm M = some r) (H : Q (oT oV 1 r.1) (156, fjl L, r.2)) : Wp (d + 10, 52, 0, 0, 0, [some (fA 27), none, none, none], []) (156, fjl L, M) Q := by
  unfold s_X3_readTerm at h
  refine Wp.run 4 (f' := (d + 10, 52, 7, 0, 0, [some (fA 27), _, _, _], [fI 51, fI 0, fA 1])) (h' := (156, fjl L, M)) rfl trivial ?_
  obtain ⟨y7, hy, h⟩ := fbd h
  refine Wp.call rfl (by decide) (s_X10_takeNumber_ok (d := d + 0) hy ?_)
  obtain ⟨w7, ew, h⟩ | ⟨ew, h⟩ := fel_of h
  · rw [ew]
    show Wp (d + 10, 52, 10, 0, 0, [some (fA 27), _, _, _], [fI w7]) (156, fjl L, y7.2) Q
    refine Wp.run 5 (f' := (d + 10, 52, 18, 0, 0, [some (fA 27), some (fI w7), _, _], [fI 51, fI w7, fA 1])) (h' := (156, fjl L, y7.2)) rfl trivial ?_
    obtain ⟨y18, hy, h⟩ := fbd h
    refine Wp.call rfl (by decide) (s_X10_takeNumber_ok (d := d + 0) hy ?_)
    obtain ⟨w18, ew, h⟩ | ⟨ew, h⟩ := fel_of h
    · rw [ew]
      show Wp (d + 10, 52, 21, 0, 0, [some (fA 27), some (fI w7), _, _], [fI w18]) (156, fjl L, y18.2) Q
      refine Wp.run 3 (f' := (d + 10, 52, 24, 0, 0, [some (fA 27), _, some (fI w18), some (fI w7)], [])) (h' := (156, fjl L, y18.2)) rfl trivial ?_
      obtain ⟨e24, hy, h⟩ := fbd h
      refine s_X3_readTerm_l24_ok hy (fun x u1 u2 u3 ex => ?_)
      cases ex
      show Wp (d + 10, 52, 45, 0, 0, [some (fA 27), u1, u2, u3], []) (156, fjl L, e24) Q
      refine Wp.run 2 (f' := (d + 10, 52, 49, 0, 0, [_, _, _, _], [fA 1])) (h' := (156, fjl L, e24)) rfl trivial ?_
      obtain ⟨y49, hy, h⟩ := fbd h
      refine Wp.call rfl (by decide) (s_X10_take_ok (d := d + 7) hy ?_)
      show Wp (d + 10, 52, 52, 0, 0, [_, _, _, _], []) (156, fjl L, y49.2) Q
      obtain rfl := Option.some.inj h
      exact Wp.done rfl (by decide) H
    · rw [ew]
      obtain rfl := Option.some.inj h
      exact ⟨⟨rfl, rfl⟩, H⟩
  · rw [ew]
    obtain rfl := Option.some.inj h
    exact ⟨⟨rfl, rfl⟩, H⟩
theorem s_X3_readTerm_fr {M : fM} {r : ((Unit ⊕ Unit) × fM)} (h : s_X3_readTerm M = some r) : fSame s_X3_readTerm_mods M r.2 := by
  unfold s_X3_readTerm at h
  obtain ⟨y7, hy, h⟩ := fbd h
  have k7 := fs_trans (l := s_X3_readTerm_mods) fs_refl (fs_mono (l := s_X10_takeNumber_mods) (by decide) (s_X10_takeNumber_fr hy))
  obtain ⟨w7, ew, h⟩ | ⟨ew, h⟩ := fel_of h
  · obtain ⟨y18, hy, h⟩ := fbd h
    have k18 := fs_trans (l := s_X3_readTerm_mods) k7 (fs_mono (l := s_X10_takeNumber_mods) (by decide) (s_X10_takeNumber_fr hy))
    obtain ⟨w18, ew, h⟩ | ⟨ew, h⟩ := fel_of h
    · obtain ⟨e24, hy, h⟩ := fbd h
      have k24 := fs_trans (l := s_X3_readTerm_mods) k18 (s_X3_readTerm_l24_fr hy)
      obtain ⟨y49, hy, h⟩ := fbd h
      have k49 := fs_trans (l := s_X3_readTerm_mods) k24 (fs_mono (l := s_X10_take_mods) (by decide) (s_X10_take_fr hy))
      obtain rfl := Option.some.inj h
      exact k49
    · obtain rfl := Option.some.inj h
      exact k18
  · obtain rfl := Option.some.inj h
    exact k7
abbrev s_X3_readDamp_mods : List (Nat × Option Nat) := [(1, some 4), (1, some 5), (1, some 6), (1, some 7), (1, some 8), (1, some 9), (1, some 10), (30, none)]
noncomputable def s_X3_readDamp_b36 (M : fM) (l2 l3 l4 : Int) : Option ((Int × fM) ⊕ fM) :=
  if l2 < l4 then
    some (.inr M)
  else
    if (0 ≤ l4 ∧ l4 < 52) ∧ fin (l4 + 1) then
      some (.inl ((l4 + 1), (fup M 30 (l4).toNat l3)))
    else none
theorem s_X3_readDamp_b36_ok {d L : Nat} {M : fM} {l2 l3 l4 : Int} {o1 : Option fV} {r : ((Int × fM) ⊕ fM)} {Q : fO → fH → Prop} (h : s_X3_readDamp_b36 M l2 l3 l4 = some r) (hC : ∀ (l4' : Int) (M' : fM) (o1' : Option fV), r = .inl (l4', M') → Wp (d + 10, 51, 36, 0, 0, [some (fA 27), o1', some (fI l2), some (fI l3), some (fI l4')], []) (156, fjl L, M') Q) (hE : ∀ (e : fM) (o1' o2' o3' o4' : Option fV), r = .inr e → Wp (d + 10, 51, 59, 0, 0, [some (fA 27), o1', o2', o3', o4'], []) (156, fjl L, e) Q) : Wp (d + 10, 51, 36, 0, 0, [some (fA 27), o1, some (fI l2), some (fI l3), some (fI l4)], []) (156, fjl L, M) Q := by
  unfold s_X3_readDamp_b36 at h
  refine Wp.run 2 (f' := (d + 10, 51, 39, 0, 0, [some (fA 27), _, some (fI l2), some (fI l3), some (fI l4)], [fI l2, fI l4])) (h' := (156, fjl L, M)) rfl trivial ?_
  refine Wp.br rfl (fun (c : l2 < l4) => ?_) (fun (c : ¬ (l2 < l4)) => ?_)
  · replace h := fps c h
    exact hE _ _ _ _ _ (Option.some.inj h).symm
  · replace h := fng c h
    obtain ⟨⟨g0, g1⟩, h⟩ := fgd h
    refine Wp.run 8 (P := [0 ≤ l4 ∧ l4 < 52]) (f' := (d + 10, 51, 36, 0, 0, [some (fA 27), _, some (fI l2), some (fI l3), some (fI (fw (l4 + 1)))], [])) (h' := (156, fjl L, (fup M 30 (l4).toNat l3))) rfl ?_ ?_
    · exact g0
    rw [fw_id g1]
    exact hC _ _ _ (Option.some.inj h).symm
theorem s_X3_readDamp_b36_fr {M : fM} {l2 l3 l4 : Int} {r : ((Int × fM) ⊕ fM)} (h : s_X3_readDamp_b36 M l2 l3 l4 = some r) : fSame s_X3_readDamp_mods M (Sum.elim (fun s => s.2) (fun e => e) r) := by
  unfold s_X3_readDamp_b36 at h
  by_cases c : l2 < l4
  · replace h := fps c h
    obtain rfl := Option.some.inj h
    exact fs_refl
  · replace h := fng c h
    replace h := (fgd h).2
    obtain rfl := Option.some.inj h
    exact fs_up fs_refl (.inl (by decide))
noncomputable def s_X3_readDamp_l36 (l2 l3 : Int) (s : (Int × fM)) : Option fM := fLp (fun s => s_X3_readDamp_b36 s.2 l2 l3 s.1) s
theorem s_X3_readDamp_l36_ok {d L : Nat} {M : fM} {l2 l3 l4 : Int} {o1 : Option fV} {r : fM} {Q : fO → fH → Prop} (h : s_X3_readDamp_l36 l2 l3 (l4, M) = some r) (hE : ∀ (e : fM) (o1' o2' o3' o4' : Option fV), r = e → Wp (d + 10, 51, 59, 0, 0, [some (fA 27), o1', o2', o3', o4'], []) (156, fjl L, e) Q) : Wp (d + 10, 51, 36, 0, 0, [some (fA 27), o1, some (fI l2), some (fI l3), some (fI l4)], []) (156, fjl L, M) Q := by
  refine fLp_wp (W := fun s => ∀ (o1 : Option fV), Wp (d + 10, 51, 36, 0, 0, [some (fA 27), o1, some (fI l2), some (fI l3), some (fI s.1)], []) (156, fjl L, s.2) Q) (e := r) ?_ h _
  intro s r1 h hC hX o1
  refine s_X3_readDamp_b36_ok (d := d) h (fun a0 a1 _ e1 => ?_) (fun e u0 u1 u2 u3 e1 => hE e u0 u1 u2 u3 (hX _ e1).symm)
  exact hC _ e1 _
theorem s_X3_readDamp_l36_fr {M : fM} {l2 l3 l4 : Int} {r : fM} (h : s_X3_readDamp_l36 l2 l3 (l4, M) = some r) : fSame s_X3_readDamp_mods M ((fun e => e) r) := by
  refine fLp_inv (I := fun s => fSame s_X3_readDamp_mods M s.2) (J := fun r => fSame s_X3_readDamp_mods M ((fun e => e) r)) h fs_refl (fun s s1 hs hb => ?_) (fun s e hs hb => ?_)
  · exact fs_trans hs (s_X3_readDamp_b36_fr hb)
  · exact fs_trans hs (s_X3_readDamp_b36_fr hb)
noncomputable def s_X3_readDamp (M : fM) : Option ((Unit ⊕ Unit) × fM) :=
  (s_X10_takeNumber M 0 51).bind fun y7 =>
    fel y7.1
      (fun w7 =>
        (s_X10_takeNumber y7.2 w7 51).bind fun y18 =>
          fel y18.1
            (fun w18 =>
              (s_X10_takeNumber y18.2 0 40).bind fun y29 =>
                fel y29.1
                  (fun w29 =>
                    (s_X3_readDamp_l36 w18 w29 (w7, y29.2)).bind fun e36 =>
                      (s_X10_take e36).bind fun y63 =>
                        some (.inl (), y63.2))
                  (some (.inr (), y29.2)))
            (some (.inr (), y18.2)))
      (some (.inr (), y7.2))
theorem s_X3_readDamp_ok {d L : Nat} {M : fM} {r : ((Unit ⊕ Unit) × fM)} {Q : fO → fH → Prop} (h : s_X3_readDamp M = some r) (H : Q (oT oV 1 r.1) (156, fjl L, r.2)) : Wp (d + 10, 51, 0, 0, 0, [some (fA 27), none, none, none, none], []) (156, fjl L, M) Q := by
  unfold s_X3_readDamp at h
  refine Wp.run 4 (f' := (d + 10, 51, 7, 0, 0, [some (fA 27), _, _, _, _], [fI 51, fI 0, fA 1])) (h' := (156, fjl L, M)) rfl trivial ?_
  obtain ⟨y7, hy, h⟩ := fbd h
  refine Wp.call rfl (by decide) (s_X10_takeNumber_ok (d := d + 0) hy ?_)
  obtain ⟨w7, ew, h⟩ | ⟨ew, h⟩ := fel_of h
  · rw [ew]
    show Wp (d + 10, 51, 10, 0, 0, [some (fA 27), _, _, _, _], [fI w7]) (156, fjl L, y7.2) Q
    refine Wp.run 5 (f' := (d + 10, 51, 18, 0, 0, [some (fA 27), some (fI w7), _, _, _], [fI 51, fI w7, fA 1])) (h' := (156, fjl L, y7.2)) rfl trivial ?_
    obtain ⟨y18, hy, h⟩ := fbd h
    refine Wp.call rfl (by decide) (s_X10_takeNumber_ok (d := d + 0) hy ?_)
    obtain ⟨w18, ew, h⟩ | ⟨ew, h⟩ := fel_of h
    · rw [ew]
      show Wp (d + 10, 51, 21, 0, 0, [some (fA 27), some (fI w7), _, _, _], [fI w18]) (156, fjl L, y18.2) Q
      refine Wp.run 5 (f' := (d + 10, 51, 29, 0, 0, [some (fA 27), some (fI w7), some (fI w18), _, _], [fI 40, fI 0, fA 1])) (h' := (156, fjl L, y18.2)) rfl trivial ?_
      obtain ⟨y29, hy, h⟩ := fbd h
      refine Wp.call rfl (by decide) (s_X10_takeNumber_ok (d := d + 0) hy ?_)
      obtain ⟨w29, ew, h⟩ | ⟨ew, h⟩ := fel_of h
      · rw [ew]
        show Wp (d + 10, 51, 32, 0, 0, [some (fA 27), some (fI w7), some (fI w18), _, _], [fI w29]) (156, fjl L, y29.2) Q
        refine Wp.run 3 (f' := (d + 10, 51, 36, 0, 0, [some (fA 27), _, some (fI w18), some (fI w29), some (fI w7)], [])) (h' := (156, fjl L, y29.2)) rfl trivial ?_
        obtain ⟨e36, hy, h⟩ := fbd h
        refine s_X3_readDamp_l36_ok hy (fun x u1 u2 u3 u4 ex => ?_)
        cases ex
        show Wp (d + 10, 51, 59, 0, 0, [some (fA 27), u1, u2, u3, u4], []) (156, fjl L, e36) Q
        refine Wp.run 2 (f' := (d + 10, 51, 63, 0, 0, [_, _, _, _, _], [fA 1])) (h' := (156, fjl L, e36)) rfl trivial ?_
        obtain ⟨y63, hy, h⟩ := fbd h
        refine Wp.call rfl (by decide) (s_X10_take_ok (d := d + 7) hy ?_)
        show Wp (d + 10, 51, 66, 0, 0, [_, _, _, _, _], []) (156, fjl L, y63.2) Q
        obtain rfl := Option.some.inj h
        exact Wp.done rfl (by decide) H
      · rw [ew]
        obtain rfl := Option.some.inj h
        exact ⟨⟨rfl, rfl⟩, H⟩
    · rw [ew]
      obtain rfl := Option.some.inj h
      exact ⟨⟨rfl, rfl⟩, H⟩
  · rw [ew]
    obtain rfl := Option.some.inj h
    exact ⟨⟨rfl, rfl⟩, H⟩
theorem s_X3_readDamp_fr {M : fM} {r : ((Unit ⊕ Unit) × fM)} (h : s_X3_readDamp M = some r) : fSame s_X3_readDamp_mods M r.2 := by
  unfold s_X3_readDamp at h
  obtain ⟨y7, hy, h⟩ := fbd h
  have k7 := fs_trans (l := s_X3_readDamp_mods) fs_refl (fs_mono (l := s_X10_takeNumber_mods) (by decide) (s_X10_takeNumber_fr hy))
  obtain ⟨w7, ew, h⟩ | ⟨ew, h⟩ := fel_of h
  · obtain ⟨y18, hy, h⟩ := fbd h
    have k18 := fs_trans (l := s_X3_readDamp_mods) k7 (fs_mono (l := s_X10_takeNumber_mods) (by decide) (s_X10_takeNumber_fr hy))
    obtain ⟨w18, ew, h⟩ | ⟨ew, h⟩ := fel_of h
    · obtain ⟨y29, hy, h⟩ := fbd h
      have k29 := fs_trans (l := s_X3_readDamp_mods) k18 (fs_mono (l := s_X10_takeNumber_mods) (by decide) (s_X10_takeNumber_fr hy))
      obtain ⟨w29, ew, h⟩ | ⟨ew, h⟩ := fel_of h
      · obtain ⟨e36, hy, h⟩ := fbd h
        have k36 := fs_trans (l := s_X3_readDamp_mods) k29 (s_X3_readDamp_l36_fr hy)
        obtain ⟨y63, hy, h⟩ := fbd h
        have k63 := fs_trans (l := s_X3_readDamp_mods) k36 (fs_mono (l := s_X10_take_mods) (by decide) (s_X10_take_fr hy))
        obtain rfl := Option.some.inj h
        exact k63
      · obtain rfl := Option.some.inj h
        exact k29
    · obtain rfl := Option.some.inj h
      exact k18
  · obtain rfl := Option.some.inj h
    exact k7
noncomputable def s_J9_min (M : fM) (l0 l1 : Int) : Option Int :=
  if l1 < l0 then
    some l1
  else
    some l0
theorem s_J9_min_ok {d L : Nat} {M : fM} {l0 l1 : Int} {r : Int} {Q : fO → fH → Prop} (h : s_J9_min M l0 l1 = some r) (H : Q (oI r) (156, fjl L, M)) : Wp (d + 0, 313, 0, 0, 0, [some (fI l0), some (fI l1)], []) (156, fjl L, M) Q := by
  unfold s_J9_min at h
  refine Wp.run 2 (f' := (d + 0, 313, 2, 0, 0, [some (fI l0), some (fI l1)], [fI l1, fI l0])) (h' := (156, fjl L, M)) rfl trivial ?_
  refine Wp.br rfl (fun (c : l1 < l0) => ?_) (fun (c : ¬ (l1 < l0)) => ?_)
  · replace h := fps c h
    refine Wp.run 1 (f' := (d + 0, 313, 10, 0, 0, [_, _], [fI l1])) (h' := (156, fjl L, M)) rfl trivial ?_
    obtain rfl := Option.some.inj h
    exact Wp.done rfl (by decide) H
  · replace h := fng c h
    refine Wp.run 2 (f' := (d + 0, 313, 10, 0, 0, [_, _], [fI l0])) (h' := (156, fjl L, M)) rfl trivial ?_
    obtain rfl := Option.some.inj h
    exact Wp.done rfl (by decide) H
abbrev s_X3_readTable_mods : List (Nat × Option Nat) := [(1, some 4), (1, some 5), (1, some 6), (1, some 7), (1, some 8), (1, some 9), (1, some 10), (27, some 2), (29, none)]
noncomputable def s_X3_readTable_b49 (M : fM) (l1 l2 l3 : Int) : Option ((Int × Int × fM) ⊕ (fM ⊕ ((Unit ⊕ Unit) × fM))) :=
  if 12 ≤ l3 then
    some (.inr (.inl M))
  else
    if fin (l1 + 1) then
      (s_X10_takeNumber M (l1 + 1) l2).bind fun y63 =>
        fel y63.1
          (fun w63 =>
            if (0 ≤ l3 ∧ l3 < 12) ∧ fin (l3 + 1) then
              some (.inl (w63, (l3 + 1), (fup y63.2 29 (l3).toNat w63)))
            else none)
          (some (.inr (.inr (.inr (), y63.2))))
    else none
theorem s_X3_readTable_b49_ok {d L : Nat} {M : fM} {l1 l2 l3 : Int} {r : ((Int × Int × fM) ⊕ (fM ⊕ ((Unit ⊕ Unit) × fM)))} {Q : fO → fH → Prop} (h : s_X3_readTable_b49 M l1 l2 l3 = some r) (hC : ∀ (l1' l3' : Int) (M' : fM), r = .inl (l1', l3', M') → Wp (d + 10, 50, 49, 0, 0, [some (fA 27), some (fI l1'), some (fI l2), some (fI l3')], []) (156, fjl L, M') Q) (hE : ∀ (e : fM) (o1' o2' o3' : Option fV), r = .inr (.inl e) → Wp (d + 10, 50, 83, 0, 0, [some (fA 27), o1', o2', o3'], []) (156, fjl L, e) Q) (hR : ∀ (v : ((Unit ⊕ Unit) × fM)), r = .inr (.inr v) → Q (oT oV 1 v.1) (156, fjl L, v.2)) : Wp (d + 10, 50, 49, 0, 0, [some (fA 27), some (fI l1), some (fI l2), some (fI l3)], []) (156, fjl L, M) Q := by
  unfold s_X3_readTable_b49 at h
  refine Wp.run 2 (f' := (d + 10, 50, 52, 0, 0, [some (fA 27), some (fI l1), some (fI l2), some (fI l3)], [fI 12, fI l3])) (h' := (156, fjl L, M)) rfl trivial ?_
  refine Wp.br rfl (fun (c : 12 ≤ l3) => ?_) (fun (c : ¬ (12 ≤ l3)) => ?_)
  · replace h := fps c h
    exact hE _ _ _ _ (Option.some.inj h).symm
  · replace h := fng c h
    obtain ⟨g0, h⟩ := fgd h
    refine Wp.run 6 (f' := (d + 10, 50, 63, 0, 0, [some (fA 27), _, some (fI l2), some (fI l3)], [fI l2, fI (fw (l1 + 1)), fA 1])) (h' := (156, fjl L, M)) rfl trivial ?_
    rw [fw_id g0]
    obtain ⟨y63, hy, h⟩ := fbd h
    refine Wp.call rfl (by decide) (s_X10_takeNumber_ok (d := d + 0) hy ?_)
    obtain ⟨w63, ew, h⟩ | ⟨ew, h⟩ := fel_of h
    · rw [ew]
      show Wp (d + 10, 50, 66, 0, 0, [some (fA 27), _, some (fI l2), some (fI l3)], [fI w63]) (156, fjl L, y63.2) Q
      obtain ⟨⟨g0, g1⟩, h⟩ := fgd h
      refine Wp.run 9 (P := [0 ≤ l3 ∧ l3 < 12]) (f' := (d + 10, 50, 49, 0, 0, [some (fA 27), some (fI w63), some (fI l2), some (fI (fw (l3 + 1)))], [])) (h' := (156, fjl L, (fup y63.2 29 (l3).toNat w63))) rfl ?_ ?_
      · exact g0
      rw [fw_id g1]
      exact hC _ _ _ (Option.some.inj h).symm
    · rw [ew]
      exact ⟨⟨rfl, rfl⟩, hR _ (Option.some.inj h).symm⟩
theorem s_X3_readTable_b49_fr {M : fM} {l1 l2 l3 : Int} {r : ((Int × Int × fM) ⊕ (fM ⊕ ((Unit ⊕ Unit) × fM)))} (h : s_X3_readTable_b49 M l1 l2 l3 = some r) : fSame s_X3_readTable_mods M (Sum.elim (fun s => s.2.2) (Sum.elim (fun e => e) (fun v => v.2)) r) := by
  unfold s_X3_readTable_b49 at h
  by_cases c : 12 ≤ l3
  · replace h := fps c h
    obtain rfl := Option.some.inj h
    exact fs_refl
  · replace h := fng c h
    replace h := (fgd h).2
    obtain ⟨y63, hy, h⟩ := fbd h
    have k63 := fs_trans (l := s_X3_readTable_mods) fs_refl (fs_mono (l := s_X10_takeNumber_mods) (by decide) (s_X10_takeNumber_fr hy))
    obtain ⟨w63, ew, h⟩ | ⟨ew, h⟩ := fel_of h
    · replace h := (fgd h).2
      obtain rfl := Option.some.inj h
      exact fs_up k63 (.inl (by decide))
    · obtain rfl := Option.some.inj h
      exact k63
noncomputable def s_X3_readTable_l49 (l2 : Int) (s : (Int × Int × fM)) : Option (fM ⊕ ((Unit ⊕ Unit) × fM)) := fLp (fun s => s_X3_readTable_b49 s.2.2 s.1 l2 s.2.1) s
theorem s_X3_readTable_l49_ok {d L : Nat} {M : fM} {l1 l2 l3 : Int} {r : (fM ⊕ ((Unit ⊕ Unit) × fM))} {Q : fO → fH → Prop} (h : s_X3_readTable_l49 l2 (l1, l3, M) = some r) (hE : ∀ (e : fM) (o1' o2' o3' : Option fV), r = .inl e → Wp (d + 10, 50, 83, 0, 0, [some (fA 27), o1', o2', o3'], []) (156, fjl L, e) Q) (hR : ∀ (v : ((Unit ⊕ Unit) × fM)), r = .inr v → Q (oT oV 1 v.1) (156, fjl L, v.2)) : Wp (d + 10, 50, 49, 0, 0, [some (fA 27), some (fI l1), some (fI l2), some (fI l3)], []) (156, fjl L, M) Q := by
  refine fLp_wp (W := fun s => Wp (d + 10, 50, 49, 0, 0, [some (fA 27), some (fI s.1), some (fI l2), some (fI s.2.1)], []) (156, fjl L, s.2.2) Q) (e := r) ?_ h
  intro s r1 h hC hX
  refine s_X3_readTable_b49_ok (d := d) h (fun a0 a1 a2 e1 => ?_) (fun e u0 u1 u2 e1 => hE e u0 u1 u2 (hX _ e1).symm) (fun v e1 => hR v (hX _ e1).symm)
  exact hC _ e1
theorem s_X3_readTable_l49_fr {M : fM} {l1 l2 l3 : Int} {r : (fM ⊕ ((Unit ⊕ Unit) × fM))} (h : s_X3_readTable_l49 l2 (l1, l3, M) = some r) : fSame s_X3_readTable_mods M ((Sum.elim (fun e => e) (fun v => v.2)) r) := by
  refine fLp_inv (I := fun s => fSame s_X3_readTable_mods M s.2.2) (J := fun r => fSame s_X3_readTable_mods M ((Sum.elim (fun e => e) (fun v => v.2)) r)) h fs_refl (fun s s1 hs hb => ?_) (fun s e hs hb => ?_)
  · exact fs_trans hs (s_X3_readTable_b49_fr hb)
  · exact fs_trans hs (s_X3_readTable_b49_fr hb)
noncomputable def s_X3_readTable (M : fM) : Option ((Unit ⊕ Unit) × fM) :=
  (s_X3_withTold M (M 27 2) 0).bind fun y7 =>
    fel y7.1
      (fun w7 =>
        (s_X10_takeNumber (fup y7.2 27 2 w7) 1000 99999).bind fun y22 =>
          fel y22.1
            (fun w22 =>
              if fin (2 * w22) ∧ fin ((2 * w22) - 1) then
                (s_J9_min y22.2 99999 ((2 * w22) - 1)).bind fun y33 =>
                  (s_X3_readTable_l49 y33 (w22, 1, (fup y22.2 29 0 w22))).bind fun e49 =>
                    Sum.elim (fun x49 =>
                      (s_X10_take x49).bind fun y87 =>
                        some (.inl (), y87.2))
                      (fun v49 => some v49) e49
              else none)
            (some (.inr (), y22.2)))
      (some (.inr (), y7.2))
theorem s_X3_readTable_ok {d L : Nat} {M : fM} {r : ((Unit ⊕ Unit) × fM)} {Q : fO → fH → Prop} (h : s_X3_readTable M = some r) (H : Q (oT oV 1 r.1) (156, fjl L, r.2)) : Wp (d + 10, 50, 0, 0, 0, [some (fA 27), none, none, none], []) (156, fjl L, M) Q := by
  unfold s_X3_readTable at h
  refine Wp.run 5 (f' := (d + 10, 50, 7, 0, 0, [some (fA 27), _, _, _], [fI 0, fI (M 27 2), fA 27, fA 27])) (h' := (156, fjl L, M)) rfl trivial ?_
  obtain ⟨y7, hy, h⟩ := fbd h
  refine Wp.call rfl (by decide) (s_X3_withTold_ok (d := d + 1) hy ?_)
  obtain ⟨w7, ew, h⟩ | ⟨ew, h⟩ := fel_of h
  · rw [ew]
    show Wp (d + 10, 50, 10, 0, 0, [some (fA 27), _, _, _], [fI w7, fA 27]) (156, fjl L, y7.2) Q
    refine Wp.run 5 (f' := (d + 10, 50, 22, 0, 0, [some (fA 27), _, _, _], [fI 99999, fI 1000, fA 1])) (h' := (156, fjl L, (fup y7.2 27 2 w7))) rfl trivial ?_
    obtain ⟨y22, hy, h⟩ := fbd h
    refine Wp.call rfl (by decide) (s_X10_takeNumber_ok (d := d + 0) hy ?_)
    obtain ⟨w22, ew, h⟩ | ⟨ew, h⟩ := fel_of h
    · rw [ew]
      show Wp (d + 10, 50, 25, 0, 0, [some (fA 27), _, _, _], [fI w22]) (156, fjl L, y22.2) Q
      obtain ⟨⟨g0, g1⟩, h⟩ := fgd h
      refine Wp.run 7 (f' := (d + 10, 50, 33, 0, 0, [some (fA 27), some (fI w22), _, _], [fI (fw ((fw (2 * w22)) - 1)), fI 99999])) (h' := (156, fjl L, y22.2)) rfl trivial ?_
      rw [fw_id g0, fw_id g1]
      obtain ⟨y33, hy, h⟩ := fbd h
      refine Wp.call rfl (by decide) (s_J9_min_ok (d := d + 9) hy ?_)
      show Wp (d + 10, 50, 36, 0, 0, [some (fA 27), some (fI w22), _, _], [fI y33]) (156, fjl L, y22.2) Q
      refine Wp.run 9 (P := [(0 : Int) ≤ 0 ∧ (0 : Int) < 12]) (f' := (d + 10, 50, 49, 0, 0, [some (fA 27), some (fI w22), some (fI y33), some (fI 1)], [])) (h' := (156, fjl L, (fup y22.2 29 0 w22))) rfl ?_ ?_
      · exact (by decide : (0 : Int) ≤ 0 ∧ (0 : Int) < 12)
      obtain ⟨e49, hy, h⟩ := fbd h
      refine s_X3_readTable_l49_ok hy (fun x49 u1 u2 u3 ex => ?_) (fun v49 ex => ?_)
      · subst ex
        replace h := fsl h
        show Wp (d + 10, 50, 83, 0, 0, [some (fA 27), u1, u2, u3], []) (156, fjl L, x49) Q
        refine Wp.run 2 (f' := (d + 10, 50, 87, 0, 0, [_, _, _, _], [fA 1])) (h' := (156, fjl L, x49)) rfl trivial ?_
        obtain ⟨y87, hy, h⟩ := fbd h
        refine Wp.call rfl (by decide) (s_X10_take_ok (d := d + 7) hy ?_)
        show Wp (d + 10, 50, 90, 0, 0, [_, _, _, _], []) (156, fjl L, y87.2) Q
        obtain rfl := Option.some.inj h
        exact Wp.done rfl (by decide) H
      · subst ex
        replace h := fsr h
        obtain rfl := Option.some.inj h
        exact H
    · rw [ew]
      obtain rfl := Option.some.inj h
      exact ⟨⟨rfl, rfl⟩, H⟩
  · rw [ew]
    obtain rfl := Option.some.inj h
    exact ⟨⟨rfl, rfl⟩, H⟩
theorem s_X3_readTable_fr {M : fM} {r : ((Unit ⊕ Unit) × fM)} (h : s_X3_readTable M = some r) : fSame s_X3_readTable_mods M r.2 := by
  unfold s_X3_readTable at h
  obtain ⟨y7, hy, h⟩ := fbd h
  have k7 := fs_trans (l := s_X3_readTable_mods) fs_refl (fs_mono (l := s_X3_withTold_mods) (by decide) (s_X3_withTold_fr hy))
  obtain ⟨w7, ew, h⟩ | ⟨ew, h⟩ := fel_of h
  · obtain ⟨y22, hy, h⟩ := fbd h
    have k22 := fs_trans (l := s_X3_readTable_mods) (fs_up k7 (.inr (by decide))) (fs_mono (l := s_X10_takeNumber_mods) (by decide) (s_X10_takeNumber_fr hy))
    obtain ⟨w22, ew, h⟩ | ⟨ew, h⟩ := fel_of h
    · replace h := (fgd h).2
      obtain ⟨y33, hy, h⟩ := fbd h
      obtain ⟨e49, hy, h⟩ := fbd h
      have k49 := fs_trans (l := s_X3_readTable_mods) (fs_up k22 (.inl (by decide))) (s_X3_readTable_l49_fr hy)
      rcases e49 with x49 | v49
      · replace h := fsl h
        obtain ⟨y87, hy, h⟩ := fbd h
        have k87 := fs_trans (l := s_X3_readTable_mods) k49 (fs_mono (l := s_X10_take_mods) (by decide) (s_X10_take_fr hy))
        obtain rfl := Option.some.inj h
        exact k87
      · replace h := fsr h
        obtain rfl := Option.some.inj h
        exact k49
    · obtain rfl := Option.some.inj h
      exact k22
  · obtain rfl := Option.some.inj h
    exact k7
abbrev s_X3_readRuleLine_mods : List (Nat × Option Nat) := [(1, some 4), (1, some 5), (1, some 6), (1, some 7), (1, some 8), (1, some 9), (1, some 10), (27, some 2), (28, some 16), (29, none), (30, none), (31, none), (32, none), (33, none)]
noncomputable def s_X3_readRuleLine (M : fM) (l1 : Int) : Option ((Unit ⊕ Unit) × fM) :=
  if l1 = 0 then
    (s_X3_readTable M).bind fun y53 =>
      fel y53.1
        (fun w53 =>
          some (.inl (), y53.2))
        (some (.inr (), y53.2))
  else
    if l1 = 1 then
      (s_X3_readDamp M).bind fun y60 =>
        fel y60.1
          (fun w60 =>
            some (.inl (), y60.2))
          (some (.inr (), y60.2))
    else
      if l1 = 2 then
        (s_X3_readTerm M).bind fun y67 =>
          fel y67.1
            (fun w67 =>
              some (.inl (), y67.2))
            (some (.inr (), y67.2))
      else
        if l1 = 3 then
          (s_X3_readFee M).bind fun y74 =>
            fel y74.1
              (fun w74 =>
                some (.inl (), y74.2))
              (some (.inr (), y74.2))
        else
          if l1 = 4 then
            (s_X3_readRule M l1 0 0 99).bind fun y86 =>
              fel y86.1
                (fun w86 =>
                  some (.inl (), y86.2))
                (some (.inr (), y86.2))
          else
            if l1 = 5 then
              (s_X3_readRule M l1 1 0 999).bind fun y99 =>
                fel y99.1
                  (fun w99 =>
                    some (.inl (), y99.2))
                  (some (.inr (), y99.2))
            else
              if l1 = 6 then
                (s_X3_readRule M l1 2 1 20).bind fun y111 =>
                  fel y111.1
                    (fun w111 =>
                      some (.inl (), y111.2))
                    (some (.inr (), y111.2))
              else
                if l1 = 7 then
                  (s_X3_readRule M l1 3 10 120).bind fun y124 =>
                    fel y124.1
                      (fun w124 =>
                        some (.inl (), y124.2))
                      (some (.inr (), y124.2))
                else
                  if l1 = 8 then
                    (s_X3_readDay M).bind fun y131 =>
                      fel y131.1
                        (fun w131 =>
                          some (.inl (), y131.2))
                        (some (.inr (), y131.2))
                  else
                    (s_X10_fail M 1).bind fun y142 =>
                      fel y142.1
                        (fun w142 =>
                          some (.inl (), y142.2))
                        (some (.inr (), y142.2))
theorem s_X3_readRuleLine_ok {d L : Nat} {M : fM} {l1 : Int} {r : ((Unit ⊕ Unit) × fM)} {Q : fO → fH → Prop} (h : s_X3_readRuleLine M l1 = some r) (H : Q (oT oV 1 r.1) (156, fjl L, r.2)) : Wp (d + 11, 48, 0, 0, 0, [some (fA 27), some (fI l1)], []) (156, fjl L, M) Q := by
  unfold s_X3_readRuleLine at h
  refine Wp.run 1 (f' := (d + 11, 48, 1, 0, 0, [some (fA 27), some (fI l1)], [fI l1])) (h' := (156, fjl L, M)) rfl trivial ?_
  refine Wp.sw rfl ?_
  refine ⟨fun (c : l1 = 0) => ?_, fun (c : ¬ (l1 = 0)) => ?_⟩
  · replace h := fps c h
    show Wp (d + 11, 48, 52, 0, 0, [some (fA 27), _], []) (156, fjl L, M) Q
    refine Wp.run 1 (f' := (d + 11, 48, 53, 0, 0, [_, _], [fA 27])) (h' := (156, fjl L, M)) rfl trivial ?_
    obtain ⟨y53, hy, h⟩ := fbd h
    refine Wp.call rfl (by decide) (s_X3_readTable_ok (d := d + 0) hy ?_)
    obtain ⟨w53, ew, h⟩ | ⟨ew, h⟩ := fel_of h
    · rw [ew]
      show Wp (d + 11, 48, 56, 0, 0, [_, _], []) (156, fjl L, y53.2) Q
      refine Wp.run 1 (f' := (d + 11, 48, 145, 0, 0, [_, _], [])) (h' := (156, fjl L, y53.2)) rfl trivial ?_
      obtain rfl := Option.some.inj h
      exact Wp.done rfl (by decide) H
    · rw [ew]
      obtain rfl := Option.some.inj h
      exact ⟨⟨rfl, rfl⟩, H⟩
  · replace h := fng c h
    refine ⟨fun (c : l1 = 1) => ?_, fun (c : ¬ (l1 = 1)) => ?_⟩
    · replace h := fps c h
      show Wp (d + 11, 48, 59, 0, 0, [some (fA 27), _], []) (156, fjl L, M) Q
      refine Wp.run 1 (f' := (d + 11, 48, 60, 0, 0, [_, _], [fA 27])) (h' := (156, fjl L, M)) rfl trivial ?_
      obtain ⟨y60, hy, h⟩ := fbd h
      refine Wp.call rfl (by decide) (s_X3_readDamp_ok (d := d + 0) hy ?_)
      obtain ⟨w60, ew, h⟩ | ⟨ew, h⟩ := fel_of h
      · rw [ew]
        show Wp (d + 11, 48, 63, 0, 0, [_, _], []) (156, fjl L, y60.2) Q
        refine Wp.run 1 (f' := (d + 11, 48, 145, 0, 0, [_, _], [])) (h' := (156, fjl L, y60.2)) rfl trivial ?_
        obtain rfl := Option.some.inj h
        exact Wp.done rfl (by decide) H
      · rw [ew]
        obtain rfl := Option.some.inj h
        exact ⟨⟨rfl, rfl⟩, H⟩
    · replace h := fng c h
      refine ⟨fun (c : l1 = 2) => ?_, fun (c : ¬ (l1 = 2)) => ?_⟩
      · replace h := fps c h
        show Wp (d + 11, 48, 66, 0, 0, [some (fA 27), _], []) (156, fjl L, M) Q
        refine Wp.run 1 (f' := (d + 11, 48, 67, 0, 0, [_, _], [fA 27])) (h' := (156, fjl L, M)) rfl trivial ?_
        obtain ⟨y67, hy, h⟩ := fbd h
        refine Wp.call rfl (by decide) (s_X3_readTerm_ok (d := d + 0) hy ?_)
        obtain ⟨w67, ew, h⟩ | ⟨ew, h⟩ := fel_of h
        · rw [ew]
          show Wp (d + 11, 48, 70, 0, 0, [_, _], []) (156, fjl L, y67.2) Q
          refine Wp.run 1 (f' := (d + 11, 48, 145, 0, 0, [_, _], [])) (h' := (156, fjl L, y67.2)) rfl trivial ?_
          obtain rfl := Option.some.inj h
          exact Wp.done rfl (by decide) H
        · rw [ew]
          obtain rfl := Option.some.inj h
          exact ⟨⟨rfl, rfl⟩, H⟩
      · replace h := fng c h
        refine ⟨fun (c : l1 = 3) => ?_, fun (c : ¬ (l1 = 3)) => ?_⟩
        · replace h := fps c h
          show Wp (d + 11, 48, 73, 0, 0, [some (fA 27), _], []) (156, fjl L, M) Q
          refine Wp.run 1 (f' := (d + 11, 48, 74, 0, 0, [_, _], [fA 27])) (h' := (156, fjl L, M)) rfl trivial ?_
          obtain ⟨y74, hy, h⟩ := fbd h
          refine Wp.call rfl (by decide) (s_X3_readFee_ok (d := d + 0) hy ?_)
          obtain ⟨w74, ew, h⟩ | ⟨ew, h⟩ := fel_of h
          · rw [ew]
            show Wp (d + 11, 48, 77, 0, 0, [_, _], []) (156, fjl L, y74.2) Q
            refine Wp.run 1 (f' := (d + 11, 48, 145, 0, 0, [_, _], [])) (h' := (156, fjl L, y74.2)) rfl trivial ?_
            obtain rfl := Option.some.inj h
            exact Wp.done rfl (by decide) H
          · rw [ew]
            obtain rfl := Option.some.inj h
            exact ⟨⟨rfl, rfl⟩, H⟩
        · replace h := fng c h
          refine ⟨fun (c : l1 = 4) => ?_, fun (c : ¬ (l1 = 4)) => ?_⟩
          · replace h := fps c h
            show Wp (d + 11, 48, 80, 0, 0, [some (fA 27), some (fI l1)], []) (156, fjl L, M) Q
            refine Wp.run 5 (f' := (d + 11, 48, 86, 0, 0, [_, _], [fI 99, fI 0, fI 0, fI l1, fA 27])) (h' := (156, fjl L, M)) rfl trivial ?_
            obtain ⟨y86, hy, h⟩ := fbd h
            refine Wp.call rfl (by decide) (s_X3_readRule_ok (d := d + 0) hy ?_)
            obtain ⟨w86, ew, h⟩ | ⟨ew, h⟩ := fel_of h
            · rw [ew]
              show Wp (d + 11, 48, 89, 0, 0, [_, _], []) (156, fjl L, y86.2) Q
              refine Wp.run 1 (f' := (d + 11, 48, 145, 0, 0, [_, _], [])) (h' := (156, fjl L, y86.2)) rfl trivial ?_
              obtain rfl := Option.some.inj h
              exact Wp.done rfl (by decide) H
            · rw [ew]
              obtain rfl := Option.some.inj h
              exact ⟨⟨rfl, rfl⟩, H⟩
          · replace h := fng c h
            refine ⟨fun (c : l1 = 5) => ?_, fun (c : ¬ (l1 = 5)) => ?_⟩
            · replace h := fps c h
              show Wp (d + 11, 48, 92, 0, 0, [some (fA 27), some (fI l1)], []) (156, fjl L, M) Q
              refine Wp.run 5 (f' := (d + 11, 48, 99, 0, 0, [_, _], [fI 999, fI 0, fI 1, fI l1, fA 27])) (h' := (156, fjl L, M)) rfl trivial ?_
              obtain ⟨y99, hy, h⟩ := fbd h
              refine Wp.call rfl (by decide) (s_X3_readRule_ok (d := d + 0) hy ?_)
              obtain ⟨w99, ew, h⟩ | ⟨ew, h⟩ := fel_of h
              · rw [ew]
                show Wp (d + 11, 48, 102, 0, 0, [_, _], []) (156, fjl L, y99.2) Q
                refine Wp.run 1 (f' := (d + 11, 48, 145, 0, 0, [_, _], [])) (h' := (156, fjl L, y99.2)) rfl trivial ?_
                obtain rfl := Option.some.inj h
                exact Wp.done rfl (by decide) H
              · rw [ew]
                obtain rfl := Option.some.inj h
                exact ⟨⟨rfl, rfl⟩, H⟩
            · replace h := fng c h
              refine ⟨fun (c : l1 = 6) => ?_, fun (c : ¬ (l1 = 6)) => ?_⟩
              · replace h := fps c h
                show Wp (d + 11, 48, 105, 0, 0, [some (fA 27), some (fI l1)], []) (156, fjl L, M) Q
                refine Wp.run 5 (f' := (d + 11, 48, 111, 0, 0, [_, _], [fI 20, fI 1, fI 2, fI l1, fA 27])) (h' := (156, fjl L, M)) rfl trivial ?_
                obtain ⟨y111, hy, h⟩ := fbd h
                refine Wp.call rfl (by decide) (s_X3_readRule_ok (d := d + 0) hy ?_)
                obtain ⟨w111, ew, h⟩ | ⟨ew, h⟩ := fel_of h
                · rw [ew]
                  show Wp (d + 11, 48, 114, 0, 0, [_, _], []) (156, fjl L, y111.2) Q
                  refine Wp.run 1 (f' := (d + 11, 48, 145, 0, 0, [_, _], [])) (h' := (156, fjl L, y111.2)) rfl trivial ?_
                  obtain rfl := Option.some.inj h
                  exact Wp.done rfl (by decide) H
                · rw [ew]
                  obtain rfl := Option.some.inj h
                  exact ⟨⟨rfl, rfl⟩, H⟩
              · replace h := fng c h
                refine ⟨fun (c : l1 = 7) => ?_, fun (c : ¬ (l1 = 7)) => ?_⟩
                · replace h := fps c h
                  show Wp (d + 11, 48, 117, 0, 0, [some (fA 27), some (fI l1)], []) (156, fjl L, M) Q
                  refine Wp.run 5 (f' := (d + 11, 48, 124, 0, 0, [_, _], [fI 120, fI 10, fI 3, fI l1, fA 27])) (h' := (156, fjl L, M)) rfl trivial ?_
                  obtain ⟨y124, hy, h⟩ := fbd h
                  refine Wp.call rfl (by decide) (s_X3_readRule_ok (d := d + 0) hy ?_)
                  obtain ⟨w124, ew, h⟩ | ⟨ew, h⟩ := fel_of h
                  · rw [ew]
                    show Wp (d + 11, 48, 127, 0, 0, [_, _], []) (156, fjl L, y124.2) Q
                    refine Wp.run 1 (f' := (d + 11, 48, 145, 0, 0, [_, _], [])) (h' := (156, fjl L, y124.2)) rfl trivial ?_
                    obtain rfl := Option.some.inj h
                    exact Wp.done rfl (by decide) H
                  · rw [ew]
                    obtain rfl := Option.some.inj h
                    exact ⟨⟨rfl, rfl⟩, H⟩
                · replace h := fng c h
                  refine ⟨fun (c : l1 = 8) => ?_, fun (c : ¬ (l1 = 8)) => ?_⟩
                  · replace h := fps c h
                    show Wp (d + 11, 48, 130, 0, 0, [some (fA 27), _], []) (156, fjl L, M) Q
                    refine Wp.run 1 (f' := (d + 11, 48, 131, 0, 0, [_, _], [fA 27])) (h' := (156, fjl L, M)) rfl trivial ?_
                    obtain ⟨y131, hy, h⟩ := fbd h
                    refine Wp.call rfl (by decide) (s_X3_readDay_ok (d := d + 0) hy ?_)
                    obtain ⟨w131, ew, h⟩ | ⟨ew, h⟩ := fel_of h
                    · rw [ew]
                      show Wp (d + 11, 48, 134, 0, 0, [_, _], []) (156, fjl L, y131.2) Q
                      refine Wp.run 1 (f' := (d + 11, 48, 145, 0, 0, [_, _], [])) (h' := (156, fjl L, y131.2)) rfl trivial ?_
                      obtain rfl := Option.some.inj h
                      exact Wp.done rfl (by decide) H
                    · rw [ew]
                      obtain rfl := Option.some.inj h
                      exact ⟨⟨rfl, rfl⟩, H⟩
                  · replace h := fng c h
                    show Wp (d + 11, 48, 137, 0, 0, [some (fA 27), _], []) (156, fjl L, M) Q
                    refine Wp.run 3 (f' := (d + 11, 48, 142, 0, 0, [_, _], [fI 1, fA 1])) (h' := (156, fjl L, M)) rfl trivial ?_
                    obtain ⟨y142, hy, h⟩ := fbd h
                    refine Wp.call rfl (by decide) (s_X10_fail_ok (d := d + 3) hy ?_)
                    obtain ⟨w142, ew, h⟩ | ⟨ew, h⟩ := fel_of h
                    · rw [ew]
                      show Wp (d + 11, 48, 145, 0, 0, [_, _], []) (156, fjl L, y142.2) Q
                      obtain rfl := Option.some.inj h
                      exact Wp.done rfl (by decide) H
                    · rw [ew]
                      obtain rfl := Option.some.inj h
                      exact ⟨⟨rfl, rfl⟩, H⟩
theorem s_X3_readRuleLine_fr {M : fM} {l1 : Int} {r : ((Unit ⊕ Unit) × fM)} (h : s_X3_readRuleLine M l1 = some r) : fSame s_X3_readRuleLine_mods M r.2 := by
  unfold s_X3_readRuleLine at h
  by_cases c : l1 = 0
  · replace h := fps c h
    obtain ⟨y53, hy, h⟩ := fbd h
    have k53 := fs_trans (l := s_X3_readRuleLine_mods) fs_refl (fs_mono (l := s_X3_readTable_mods) (by decide) (s_X3_readTable_fr hy))
    obtain ⟨w53, ew, h⟩ | ⟨ew, h⟩ := fel_of h
    · obtain rfl := Option.some.inj h
      exact k53
    · obtain rfl := Option.some.inj h
      exact k53
  · replace h := fng c h
    by_cases c : l1 = 1
    · replace h := fps c h
      obtain ⟨y60, hy, h⟩ := fbd h
      have k60 := fs_trans (l := s_X3_readRuleLine_mods) fs_refl (fs_mono (l := s_X3_readDamp_mods) (by decide) (s_X3_readDamp_fr hy))
      obtain ⟨w60, ew, h⟩ | ⟨ew, h⟩ := fel_of h
      · obtain rfl := Option.some.inj h
        exact k60
      · obtain rfl := Option.some.inj h
        exact k60
    · replace h := fng c h
      by_cases c : l1 = 2
      · replace h := fps c h
        obtain ⟨y67, hy, h⟩ := fbd h
        have k67 := fs_trans (l := s_X3_readRuleLine_mods) fs_refl (fs_mono (l := s_X3_readTerm_mods) (by decide) (s_X3_readTerm_fr hy))
        obtain ⟨w67, ew, h⟩ | ⟨ew, h⟩ := fel_of h
        · obtain rfl := Option.some.inj h
          exact k67
        · obtain rfl := Option.some.inj h
          exact k67
      · replace h := fng c h
        by_cases c : l1 = 3
        · replace h := fps c h
          obtain ⟨y74, hy, h⟩ := fbd h
          have k74 := fs_trans (l := s_X3_readRuleLine_mods) fs_refl (fs_mono (l := s_X3_readFee_mods) (by decide) (s_X3_readFee_fr hy))
          obtain ⟨w74, ew, h⟩ | ⟨ew, h⟩ := fel_of h
          · obtain rfl := Option.some.inj h
            exact k74
          · obtain rfl := Option.some.inj h
            exact k74
        · replace h := fng c h
          by_cases c : l1 = 4
          · replace h := fps c h
            obtain ⟨y86, hy, h⟩ := fbd h
            have k86 := fs_trans (l := s_X3_readRuleLine_mods) fs_refl (fs_mono (l := s_X3_readRule_mods) (by decide) (s_X3_readRule_fr hy))
            obtain ⟨w86, ew, h⟩ | ⟨ew, h⟩ := fel_of h
            · obtain rfl := Option.some.inj h
              exact k86
            · obtain rfl := Option.some.inj h
              exact k86
          · replace h := fng c h
            by_cases c : l1 = 5
            · replace h := fps c h
              obtain ⟨y99, hy, h⟩ := fbd h
              have k99 := fs_trans (l := s_X3_readRuleLine_mods) fs_refl (fs_mono (l := s_X3_readRule_mods) (by decide) (s_X3_readRule_fr hy))
              obtain ⟨w99, ew, h⟩ | ⟨ew, h⟩ := fel_of h
              · obtain rfl := Option.some.inj h
                exact k99
              · obtain rfl := Option.some.inj h
                exact k99
            · replace h := fng c h
              by_cases c : l1 = 6
              · replace h := fps c h
                obtain ⟨y111, hy, h⟩ := fbd h
                have k111 := fs_trans (l := s_X3_readRuleLine_mods) fs_refl (fs_mono (l := s_X3_readRule_mods) (by decide) (s_X3_readRule_fr hy))
                obtain ⟨w111, ew, h⟩ | ⟨ew, h⟩ := fel_of h
                · obtain rfl := Option.some.inj h
                  exact k111
                · obtain rfl := Option.some.inj h
                  exact k111
              · replace h := fng c h
                by_cases c : l1 = 7
                · replace h := fps c h
                  obtain ⟨y124, hy, h⟩ := fbd h
                  have k124 := fs_trans (l := s_X3_readRuleLine_mods) fs_refl (fs_mono (l := s_X3_readRule_mods) (by decide) (s_X3_readRule_fr hy))
                  obtain ⟨w124, ew, h⟩ | ⟨ew, h⟩ := fel_of h
                  · obtain rfl := Option.some.inj h
                    exact k124
                  · obtain rfl := Option.some.inj h
                    exact k124
                · replace h := fng c h
                  by_cases c : l1 = 8
                  · replace h := fps c h
                    obtain ⟨y131, hy, h⟩ := fbd h
                    have k131 := fs_trans (l := s_X3_readRuleLine_mods) fs_refl (fs_mono (l := s_X3_readDay_mods) (by decide) (s_X3_readDay_fr hy))
                    obtain ⟨w131, ew, h⟩ | ⟨ew, h⟩ := fel_of h
                    · obtain rfl := Option.some.inj h
                      exact k131
                    · obtain rfl := Option.some.inj h
                      exact k131
                  · replace h := fng c h
                    obtain ⟨y142, hy, h⟩ := fbd h
                    have k142 := fs_trans (l := s_X3_readRuleLine_mods) fs_refl (fs_mono (l := s_X10_fail_mods) (by decide) (s_X10_fail_fr hy))
                    obtain ⟨w142, ew, h⟩ | ⟨ew, h⟩ := fel_of h
                    · obtain rfl := Option.some.inj h
                      exact k142
                    · obtain rfl := Option.some.inj h
                      exact k142
abbrev s_X10_takeName_mods : List (Nat × Option Nat) := [(1, some 4), (1, some 5), (1, some 6), (1, some 7), (1, some 8), (1, some 9), (1, some 10)]
noncomputable def s_X10_takeName_j20 (M : fM) : Option ((Int ⊕ Unit) × fM) :=
  (s_X10_fail M 1).bind fun y22 =>
    fel y22.1
      (fun w22 =>
        some (.inl (y22.2 1 8), y22.2))
      (some (.inr (), y22.2))
theorem s_X10_takeName_j20_ok {d L : Nat} {M : fM} {r : ((Int ⊕ Unit) × fM)} {Q : fO → fH → Prop} (h : s_X10_takeName_j20 M = some r) (H : Q (oT oJ 1 r.1) (156, fjl L, r.2)) : Wp (d + 8, 147, 20, 0, 0, [some (fA 1)], []) (156, fjl L, M) Q := by
  unfold s_X10_takeName_j20 at h
  refine Wp.run 2 (f' := (d + 8, 147, 22, 0, 0, [some (fA 1)], [fI 1, fA 1])) (h' := (156, fjl L, M)) rfl trivial ?_
  obtain ⟨y22, hy, h⟩ := fbd h
  refine Wp.call rfl (by decide) (s_X10_fail_ok (d := d + 0) hy ?_)
  obtain ⟨w22, ew, h⟩ | ⟨ew, h⟩ := fel_of h
  · rw [ew]
    show Wp (d + 8, 147, 25, 0, 0, [some (fA 1)], []) (156, fjl L, y22.2) Q
    refine Wp.run 2 (f' := (d + 8, 147, 29, 0, 0, [_], [fJ (y22.2 1 8)])) (h' := (156, fjl L, y22.2)) rfl trivial ?_
    obtain rfl := Option.some.inj h
    exact Wp.done rfl (by decide) H
  · rw [ew]
    obtain rfl := Option.some.inj h
    exact ⟨⟨rfl, rfl⟩, H⟩
theorem s_X10_takeName_j20_fr {M : fM} {r : ((Int ⊕ Unit) × fM)} (h : s_X10_takeName_j20 M = some r) : fSame s_X10_takeName_mods M r.2 := by
  unfold s_X10_takeName_j20 at h
  obtain ⟨y22, hy, h⟩ := fbd h
  have k22 := fs_trans (l := s_X10_takeName_mods) fs_refl (fs_mono (l := s_X10_fail_mods) (by decide) (s_X10_fail_fr hy))
  obtain ⟨w22, ew, h⟩ | ⟨ew, h⟩ := fel_of h
  · obtain rfl := Option.some.inj h
    exact k22
  · obtain rfl := Option.some.inj h
    exact k22
noncomputable def s_X10_takeName (M : fM) : Option ((Int ⊕ Unit) × fM) :=
  (s_X10_take M).bind fun y1 =>
    if ¬ (y1.2 1 6) = 2 then
      s_X10_takeName_j20 y1.2
    else
      (s_X10_keywordHere y1.2).bind fun y13 =>
        if y13 = (-1) then
          some (.inl (y1.2 1 8), y1.2)
        else
          s_X10_takeName_j20 y1.2
theorem s_X10_takeName_ok {d L : Nat} {M : fM} {r : ((Int ⊕ Unit) × fM)} {Q : fO → fH → Prop} (h : s_X10_takeName M = some r) (H : Q (oT oJ 1 r.1) (156, fjl L, r.2)) : Wp (d + 8, 147, 0, 0, 0, [some (fA 1)], []) (156, fjl L, M) Q := by
  unfold s_X10_takeName at h
  refine Wp.run 1 (f' := (d + 8, 147, 1, 0, 0, [some (fA 1)], [fA 1])) (h' := (156, fjl L, M)) rfl trivial ?_
  obtain ⟨y1, hy, h⟩ := fbd h
  refine Wp.call rfl (by decide) (s_X10_take_ok (d := d + 5) hy ?_)
  show Wp (d + 8, 147, 4, 0, 0, [some (fA 1)], []) (156, fjl L, y1.2) Q
  refine Wp.run 3 (f' := (d + 8, 147, 9, 0, 0, [some (fA 1)], [fI 2, fI (y1.2 1 6)])) (h' := (156, fjl L, y1.2)) rfl trivial ?_
  refine Wp.br rfl (fun (c : ¬ (y1.2 1 6) = 2) => ?_) (fun (c : ¬ (¬ (y1.2 1 6) = 2)) => ?_)
  · replace h := fps c h
    exact s_X10_takeName_j20_ok h H
  · replace h := fng c h
    refine Wp.run 1 (f' := (d + 8, 147, 13, 0, 0, [some (fA 1)], [fA 1])) (h' := (156, fjl L, y1.2)) rfl trivial ?_
    obtain ⟨y13, hy, h⟩ := fbd h
    refine Wp.call rfl (by decide) (s_X10_keywordHere_ok (d := d + 7) hy ?_)
    show Wp (d + 8, 147, 16, 0, 0, [some (fA 1)], [fI y13]) (156, fjl L, y1.2) Q
    refine Wp.run 1 (f' := (d + 8, 147, 17, 0, 0, [some (fA 1)], [fI (-1), fI y13])) (h' := (156, fjl L, y1.2)) rfl trivial ?_
    refine Wp.br rfl (fun (c : y13 = (-1)) => ?_) (fun (c : ¬ (y13 = (-1))) => ?_)
    · replace h := fps c h
      refine Wp.run 2 (f' := (d + 8, 147, 29, 0, 0, [_], [fJ (y1.2 1 8)])) (h' := (156, fjl L, y1.2)) rfl trivial ?_
      obtain rfl := Option.some.inj h
      exact Wp.done rfl (by decide) H
    · replace h := fng c h
      exact s_X10_takeName_j20_ok h H
theorem s_X10_takeName_fr {M : fM} {r : ((Int ⊕ Unit) × fM)} (h : s_X10_takeName M = some r) : fSame s_X10_takeName_mods M r.2 := by
  unfold s_X10_takeName at h
  obtain ⟨y1, hy, h⟩ := fbd h
  have k1 := fs_trans (l := s_X10_takeName_mods) fs_refl (fs_mono (l := s_X10_take_mods) (by decide) (s_X10_take_fr hy))
  by_cases c : ¬ (y1.2 1 6) = 2
  · replace h := fps c h
    exact fs_trans k1 (s_X10_takeName_j20_fr h)
  · replace h := fng c h
    obtain ⟨y13, hy, h⟩ := fbd h
    by_cases c : y13 = (-1)
    · replace h := fps c h
      obtain rfl := Option.some.inj h
      exact k1
    · replace h := fng c h
      exact fs_trans k1 (s_X10_takeName_j20_fr h)
noncomputable def s_X2_placeOf_40_b3 (M : fM) (l1 l2 l4 : Int) : Option (Int ⊕ (Unit ⊕ Int)) :=
  if l1 ≤ l4 then
    some (.inr (.inl ()))
  else
    if (0 ≤ l4 ∧ l4 < 6) then
      if ¬ (M 40 (l4).toNat) = l2 then
        if fin (l4 + 1) then
          some (.inl (l4 + 1))
        else none
      else
        some (.inr (.inr l4))
    else none
theorem s_X2_placeOf_40_b3_ok {d L : Nat} {M : fM} {l1 l2 l4 : Int} {r : (Int ⊕ (Unit ⊕ Int))} {Q : fO → fH → Prop} (h : s_X2_placeOf_40_b3 M l1 l2 l4 = some r) (hC : ∀ (l4' : Int), r = .inl l4' → Wp (d + 0, 41, 3, 0, 0, [some (fA 40), some (fI l1), some (fJ l2), none, some (fI l4')], []) (156, fjl L, M) Q) (hE : ∀ (e : Unit) (o0' o1' o2' o3' o4' : Option fV), r = .inr (.inl e) → Wp (d + 0, 41, 27, 0, 0, [o0', o1', o2', o3', o4'], []) (156, fjl L, M) Q) (hR : ∀ (v : Int), r = .inr (.inr v) → Q (oI v) (156, fjl L, M)) : Wp (d + 0, 41, 3, 0, 0, [some (fA 40), some (fI l1), some (fJ l2), none, some (fI l4)], []) (156, fjl L, M) Q := by
  unfold s_X2_placeOf_40_b3 at h
  refine Wp.run 2 (f' := (d + 0, 41, 6, 0, 0, [some (fA 40), some (fI l1), some (fJ l2), none, some (fI l4)], [fI l1, fI l4])) (h' := (156, fjl L, M)) rfl trivial ?_
  refine Wp.br rfl (fun (c : l1 ≤ l4) => ?_) (fun (c : ¬ (l1 ≤ l4)) => ?_)
  · replace h := fps c h
    exact hE _ _ _ _ _ _ (Option.some.inj h).symm
  · replace h := fng c h
    obtain ⟨g0, h⟩ := fgd h
    refine Wp.run 5 (P := [0 ≤ l4 ∧ l4 < 6]) (f' := (d + 0, 41, 15, 0, 0, [some (fA 40), some (fI l1), some (fJ l2), none, some (fI l4)], [fI (fcm (M 40 (l4).toNat) l2)])) (h' := (156, fjl L, M)) rfl ?_ ?_
    · exact g0
    refine Wp.br rfl (fun (c : ¬ (fcm (M 40 (l4).toNat) l2) = 0) => ?_) (fun (c : ¬ (¬ (fcm (M 40 (l4).toNat) l2) = 0)) => ?_)
    · replace c := (fcm_ne _ _).mp c
      replace h := fps c h
      obtain ⟨g0, h⟩ := fgd h
      refine Wp.run 2 (f' := (d + 0, 41, 3, 0, 0, [some (fA 40), some (fI l1), some (fJ l2), none, some (fI (fw (l4 + 1)))], [])) (h' := (156, fjl L, M)) rfl trivial ?_
      rw [fw_id g0]
      exact hC _ (Option.some.inj h).symm
    · replace c := fun z => c ((fcm_ne _ _).mpr z)
      replace h := fng c h
      refine Wp.run 1 (f' := (d + 0, 41, 20, 0, 0, [_, _, _, _, _], [fI l4])) (h' := (156, fjl L, M)) rfl trivial ?_
      exact Wp.done rfl (by decide) (hR _ (Option.some.inj h).symm)
noncomputable def s_X2_placeOf_40_l3 (M : fM) (l1 l2 : Int) (s : Int) : Option (Unit ⊕ Int) := fLp (fun s => s_X2_placeOf_40_b3 M l1 l2 s) s
theorem s_X2_placeOf_40_l3_ok {d L : Nat} {M : fM} {l1 l2 l4 : Int} {r : (Unit ⊕ Int)} {Q : fO → fH → Prop} (h : s_X2_placeOf_40_l3 M l1 l2 l4 = some r) (hE : ∀ (e : Unit) (o0' o1' o2' o3' o4' : Option fV), r = .inl e → Wp (d + 0, 41, 27, 0, 0, [o0', o1', o2', o3', o4'], []) (156, fjl L, M) Q) (hR : ∀ (v : Int), r = .inr v → Q (oI v) (156, fjl L, M)) : Wp (d + 0, 41, 3, 0, 0, [some (fA 40), some (fI l1), some (fJ l2), none, some (fI l4)], []) (156, fjl L, M) Q := by
  refine fLp_wp (W := fun s => Wp (d + 0, 41, 3, 0, 0, [some (fA 40), some (fI l1), some (fJ l2), none, some (fI s)], []) (156, fjl L, M) Q) (e := r) ?_ h
  intro s r1 h hC hX
  refine s_X2_placeOf_40_b3_ok (d := d) h (fun a0 e1 => ?_) (fun e u0 u1 u2 u3 u4 e1 => hE e u0 u1 u2 u3 u4 (hX _ e1).symm) (fun v e1 => hR v (hX _ e1).symm)
  exact hC _ e1
noncomputable def s_X2_placeOf_40 (M : fM) (l1 l2 : Int) : Option Int :=
  (s_X2_placeOf_40_l3 M l1 l2 0).bind fun e3 =>
    Sum.elim (fun x3 =>
      some (-1))
      (fun v3 => some v3) e3
theorem s_X2_placeOf_40_ok {d L : Nat} {M : fM} {l1 l2 : Int} {r : Int} {Q : fO → fH → Prop} (h : s_X2_placeOf_40 M l1 l2 = some r) (H : Q (oI r) (156, fjl L, M)) : Wp (d + 0, 41, 0, 0, 0, [some (fA 40), some (fI l1), some (fJ l2), none, none], []) (156, fjl L, M) Q := by
  unfold s_X2_placeOf_40 at h
  refine Wp.run 2 (f' := (d + 0, 41, 3, 0, 0, [some (fA 40), some (fI l1), some (fJ l2), none, some (fI 0)], [])) (h' := (156, fjl L, M)) rfl trivial ?_
  obtain ⟨e3, hy, h⟩ := fbd h
  refine s_X2_placeOf_40_l3_ok hy (fun x3 u0 u1 u2 u3 u4 ex => ?_) (fun v3 ex => ?_)
  · subst ex
    replace h := fsl h
    show Wp (d + 0, 41, 27, 0, 0, [u0, u1, u2, u3, u4], []) (156, fjl L, M) Q
    refine Wp.run 1 (f' := (d + 0, 41, 28, 0, 0, [_, _, _, _, _], [fI (-1)])) (h' := (156, fjl L, M)) rfl trivial ?_
    obtain rfl := Option.some.inj h
    exact Wp.done rfl (by decide) H
  · subst ex
    replace h := fsr h
    obtain rfl := Option.some.inj h
    exact H
noncomputable def s_X2_tunerNamed_28 (M : fM) (l1 : Int) : Option Int :=
  (s_X2_placeOf_40 M (M 28 14) l1).bind fun y9 =>
    some y9
theorem s_X2_tunerNamed_28_ok {d L : Nat} {M : fM} {l1 : Int} {r : Int} {Q : fO → fH → Prop} (h : s_X2_tunerNamed_28 M l1 = some r) (H : Q (oI r) (156, fjl L, M)) : Wp (d + 1, 38, 0, 0, 0, [some (fA 28), some (fJ l1), none], []) (156, fjl L, M) Q := by
  unfold s_X2_tunerNamed_28 at h
  refine Wp.run 5 (f' := (d + 1, 38, 9, 0, 0, [_, _, _], [fJ l1, fI (M 28 14), fA 40])) (h' := (156, fjl L, M)) rfl trivial ?_
  obtain ⟨y9, hy, h⟩ := fbd h
  refine Wp.call rfl (by decide) (s_X2_placeOf_40_ok (d := d + 0) hy ?_)
  show Wp (d + 1, 38, 12, 0, 0, [_, _, _], [fI y9]) (156, fjl L, M) Q
  obtain rfl := Option.some.inj h
  exact Wp.done rfl (by decide) H
