/-! ===== functions of the methods (printed by genfun.py) ===== -/
abbrev s_X3_readPiano_mods : List (Nat × Option Nat) := [(1, some 4), (1, some 5), (1, some 6), (1, some 7), (1, some 8), (1, some 9), (1, some 10), (28, some 13), (34, none), (35, none), (36, none), (39, none)]
noncomputable def s_X3_readPiano (M : fM) (l1 : Int) : Option ((Unit ⊕ Unit) × fM) :=
  (s_X2_addPiano_28 M l1).bind fun y5 =>
    (s_X10_takeKind y5.2).bind fun y19 =>
      fel y19.1
        (fun w19 =>
          (s_X2_tell_28 y19.2 y5.1 0 w19).bind fun y22 =>
            (s_X10_takeNumber y22.2 0 99).bind fun y38 =>
              fel y38.1
                (fun w38 =>
                  (s_X2_tell_28 y38.2 y5.1 1 w38).bind fun y41 =>
                    (s_X10_takeNumber y41.2 0 99).bind fun y57 =>
                      fel y57.1
                        (fun w57 =>
                          (s_X2_tell_28 y57.2 y5.1 2 w57).bind fun y60 =>
                            (s_X10_takeNumber y60.2 1 999).bind fun y77 =>
                              fel y77.1
                                (fun w77 =>
                                  (s_X2_tell_28 y77.2 y5.1 3 w77).bind fun y80 =>
                                    (s_X10_takeNumber y80.2 0 200).bind fun y97 =>
                                      fel y97.1
                                        (fun w97 =>
                                          (s_X2_tell_28 y97.2 y5.1 4 w97).bind fun y100 =>
                                            (s_X10_takeNumber y100.2 0 9999).bind fun y117 =>
                                              fel y117.1
                                                (fun w117 =>
                                                  (s_X2_tell_28 y117.2 y5.1 5 w117).bind fun y120 =>
                                                    (s_X10_takeNumber y120.2 0 9).bind fun y137 =>
                                                      fel y137.1
                                                        (fun w137 =>
                                                          (s_X2_tell_28 y137.2 y5.1 6 w137).bind fun y140 =>
                                                            some (.inl (), y140.2))
                                                        (some (.inr (), y137.2)))
                                                (some (.inr (), y117.2)))
                                        (some (.inr (), y97.2)))
                                (some (.inr (), y77.2)))
                        (some (.inr (), y57.2)))
                (some (.inr (), y38.2)))
        (some (.inr (), y19.2))
theorem s_X3_readPiano_ok {d L : Nat} {M : fM} {l1 : Int} {r : ((Unit ⊕ Unit) × fM)} {Q : fO → fH → Prop} (h : s_X3_readPiano M l1 = some r) (H : Q (oT oV 1 r.1) (156, fjl L, r.2)) : Wp (d + 10, 58, 0, 0, 0, [some (fA 27), some (fJ l1), none, none], []) (156, fjl L, M) Q := by
  unfold s_X3_readPiano at h
  refine Wp.run 3 (f' := (d + 10, 58, 5, 0, 0, [some (fA 27), _, _, _], [fJ l1, fA 28])) (h' := (156, fjl L, M)) rfl trivial ?_
  obtain ⟨y5, hy, h⟩ := fbd h
  refine Wp.call rfl (by decide) (s_X2_addPiano_28_ok (d := d + 8) hy ?_)
  show Wp (d + 10, 58, 8, 0, 0, [some (fA 27), _, _, _], [fI y5.1]) (156, fjl L, y5.2) Q
  refine Wp.run 7 (f' := (d + 10, 58, 19, 0, 0, [some (fA 27), _, _, some (fI y5.1)], [fA 1, fI 0, fI y5.1, fA 28])) (h' := (156, fjl L, y5.2)) rfl trivial ?_
  obtain ⟨y19, hy, h⟩ := fbd h
  refine Wp.call rfl (by decide) (s_X10_takeKind_ok (d := d + 1) hy ?_)
  obtain ⟨w19, ew, h⟩ | ⟨ew, h⟩ := fel_of h
  · rw [ew]
    show Wp (d + 10, 58, 22, 0, 0, [some (fA 27), _, _, some (fI y5.1)], [fI w19, fI 0, fI y5.1, fA 28]) (156, fjl L, y19.2) Q
    obtain ⟨y22, hy, h⟩ := fbd h
    refine Wp.call rfl (by decide) (s_X2_tell_28_ok (d := d + 9) hy ?_)
    show Wp (d + 10, 58, 25, 0, 0, [some (fA 27), _, _, some (fI y5.1)], []) (156, fjl L, y22.2) Q
    refine Wp.run 8 (f' := (d + 10, 58, 38, 0, 0, [some (fA 27), _, _, some (fI y5.1)], [fI 99, fI 0, fA 1, fI 1, fI y5.1, fA 28])) (h' := (156, fjl L, y22.2)) rfl trivial ?_
    obtain ⟨y38, hy, h⟩ := fbd h
    refine Wp.call rfl (by decide) (s_X10_takeNumber_ok (d := d + 0) hy ?_)
    obtain ⟨w38, ew, h⟩ | ⟨ew, h⟩ := fel_of h
    · rw [ew]
      show Wp (d + 10, 58, 41, 0, 0, [some (fA 27), _, _, some (fI y5.1)], [fI w38, fI 1, fI y5.1, fA 28]) (156, fjl L, y38.2) Q
      obtain ⟨y41, hy, h⟩ := fbd h
      refine Wp.call rfl (by decide) (s_X2_tell_28_ok (d := d + 9) hy ?_)
      show Wp (d + 10, 58, 44, 0, 0, [some (fA 27), _, _, some (fI y5.1)], []) (156, fjl L, y41.2) Q
      refine Wp.run 8 (f' := (d + 10, 58, 57, 0, 0, [some (fA 27), _, _, some (fI y5.1)], [fI 99, fI 0, fA 1, fI 2, fI y5.1, fA 28])) (h' := (156, fjl L, y41.2)) rfl trivial ?_
      obtain ⟨y57, hy, h⟩ := fbd h
      refine Wp.call rfl (by decide) (s_X10_takeNumber_ok (d := d + 0) hy ?_)
      obtain ⟨w57, ew, h⟩ | ⟨ew, h⟩ := fel_of h
      · rw [ew]
        show Wp (d + 10, 58, 60, 0, 0, [some (fA 27), _, _, some (fI y5.1)], [fI w57, fI 2, fI y5.1, fA 28]) (156, fjl L, y57.2) Q
        obtain ⟨y60, hy, h⟩ := fbd h
        refine Wp.call rfl (by decide) (s_X2_tell_28_ok (d := d + 9) hy ?_)
        show Wp (d + 10, 58, 63, 0, 0, [some (fA 27), _, _, some (fI y5.1)], []) (156, fjl L, y60.2) Q
        refine Wp.run 8 (f' := (d + 10, 58, 77, 0, 0, [some (fA 27), _, _, some (fI y5.1)], [fI 999, fI 1, fA 1, fI 3, fI y5.1, fA 28])) (h' := (156, fjl L, y60.2)) rfl trivial ?_
        obtain ⟨y77, hy, h⟩ := fbd h
        refine Wp.call rfl (by decide) (s_X10_takeNumber_ok (d := d + 0) hy ?_)
        obtain ⟨w77, ew, h⟩ | ⟨ew, h⟩ := fel_of h
        · rw [ew]
          show Wp (d + 10, 58, 80, 0, 0, [some (fA 27), _, _, some (fI y5.1)], [fI w77, fI 3, fI y5.1, fA 28]) (156, fjl L, y77.2) Q
          obtain ⟨y80, hy, h⟩ := fbd h
          refine Wp.call rfl (by decide) (s_X2_tell_28_ok (d := d + 9) hy ?_)
          show Wp (d + 10, 58, 83, 0, 0, [some (fA 27), _, _, some (fI y5.1)], []) (156, fjl L, y80.2) Q
          refine Wp.run 8 (f' := (d + 10, 58, 97, 0, 0, [some (fA 27), _, _, some (fI y5.1)], [fI 200, fI 0, fA 1, fI 4, fI y5.1, fA 28])) (h' := (156, fjl L, y80.2)) rfl trivial ?_
          obtain ⟨y97, hy, h⟩ := fbd h
          refine Wp.call rfl (by decide) (s_X10_takeNumber_ok (d := d + 0) hy ?_)
          obtain ⟨w97, ew, h⟩ | ⟨ew, h⟩ := fel_of h
          · rw [ew]
            show Wp (d + 10, 58, 100, 0, 0, [some (fA 27), _, _, some (fI y5.1)], [fI w97, fI 4, fI y5.1, fA 28]) (156, fjl L, y97.2) Q
            obtain ⟨y100, hy, h⟩ := fbd h
            refine Wp.call rfl (by decide) (s_X2_tell_28_ok (d := d + 9) hy ?_)
            show Wp (d + 10, 58, 103, 0, 0, [some (fA 27), _, _, some (fI y5.1)], []) (156, fjl L, y100.2) Q
            refine Wp.run 8 (f' := (d + 10, 58, 117, 0, 0, [some (fA 27), _, _, some (fI y5.1)], [fI 9999, fI 0, fA 1, fI 5, fI y5.1, fA 28])) (h' := (156, fjl L, y100.2)) rfl trivial ?_
            obtain ⟨y117, hy, h⟩ := fbd h
            refine Wp.call rfl (by decide) (s_X10_takeNumber_ok (d := d + 0) hy ?_)
            obtain ⟨w117, ew, h⟩ | ⟨ew, h⟩ := fel_of h
            · rw [ew]
              show Wp (d + 10, 58, 120, 0, 0, [some (fA 27), _, _, some (fI y5.1)], [fI w117, fI 5, fI y5.1, fA 28]) (156, fjl L, y117.2) Q
              obtain ⟨y120, hy, h⟩ := fbd h
              refine Wp.call rfl (by decide) (s_X2_tell_28_ok (d := d + 9) hy ?_)
              show Wp (d + 10, 58, 123, 0, 0, [some (fA 27), _, _, some (fI y5.1)], []) (156, fjl L, y120.2) Q
              refine Wp.run 8 (f' := (d + 10, 58, 137, 0, 0, [_, _, _, _], [fI 9, fI 0, fA 1, fI 6, fI y5.1, fA 28])) (h' := (156, fjl L, y120.2)) rfl trivial ?_
              obtain ⟨y137, hy, h⟩ := fbd h
              refine Wp.call rfl (by decide) (s_X10_takeNumber_ok (d := d + 0) hy ?_)
              obtain ⟨w137, ew, h⟩ | ⟨ew, h⟩ := fel_of h
              · rw [ew]
                show Wp (d + 10, 58, 140, 0, 0, [_, _, _, _], [fI w137, fI 6, fI y5.1, fA 28]) (156, fjl L, y137.2) Q
                obtain ⟨y140, hy, h⟩ := fbd h
                refine Wp.call rfl (by decide) (s_X2_tell_28_ok (d := d + 9) hy ?_)
                show Wp (d + 10, 58, 143, 0, 0, [_, _, _, _], []) (156, fjl L, y140.2) Q
                obtain rfl := Option.some.inj h
                exact Wp.done rfl (by decide) H
              · rw [ew]
                obtain rfl := Option.some.inj h
                exact ⟨⟨rfl, rfl⟩, H⟩
            · rw [ew]
              obtain rfl := Option.some.inj h
              exact ⟨⟨rfl, rfl⟩, H⟩
          · rw [ew]
            obtain rfl := Option.some.inj h
            exact ⟨⟨rfl, rfl⟩, H⟩
        · rw [ew]
          obtain rfl := Option.some.inj h
          exact ⟨⟨rfl, rfl⟩, H⟩
      · rw [ew]
        obtain rfl := Option.some.inj h
        exact ⟨⟨rfl, rfl⟩, H⟩
    · rw [ew]
      obtain rfl := Option.some.inj h
      exact ⟨⟨rfl, rfl⟩, H⟩
  · rw [ew]
    obtain rfl := Option.some.inj h
    exact ⟨⟨rfl, rfl⟩, H⟩
theorem s_X3_readPiano_fr {M : fM} {l1 : Int} {r : ((Unit ⊕ Unit) × fM)} (h : s_X3_readPiano M l1 = some r) : fSame s_X3_readPiano_mods M r.2 := by
  unfold s_X3_readPiano at h
  obtain ⟨y5, hy, h⟩ := fbd h
  have k5 := fs_trans (l := s_X3_readPiano_mods) fs_refl (fs_mono (l := s_X2_addPiano_28_mods) (by decide) (s_X2_addPiano_28_fr hy))
  obtain ⟨y19, hy, h⟩ := fbd h
  have k19 := fs_trans (l := s_X3_readPiano_mods) k5 (fs_mono (l := s_X10_takeKind_mods) (by decide) (s_X10_takeKind_fr hy))
  obtain ⟨w19, ew, h⟩ | ⟨ew, h⟩ := fel_of h
  · obtain ⟨y22, hy, h⟩ := fbd h
    have k22 := fs_trans (l := s_X3_readPiano_mods) k19 (fs_mono (l := s_X2_tell_28_mods) (by decide) (s_X2_tell_28_fr hy))
    obtain ⟨y38, hy, h⟩ := fbd h
    have k38 := fs_trans (l := s_X3_readPiano_mods) k22 (fs_mono (l := s_X10_takeNumber_mods) (by decide) (s_X10_takeNumber_fr hy))
    obtain ⟨w38, ew, h⟩ | ⟨ew, h⟩ := fel_of h
    · obtain ⟨y41, hy, h⟩ := fbd h
      have k41 := fs_trans (l := s_X3_readPiano_mods) k38 (fs_mono (l := s_X2_tell_28_mods) (by decide) (s_X2_tell_28_fr hy))
      obtain ⟨y57, hy, h⟩ := fbd h
      have k57 := fs_trans (l := s_X3_readPiano_mods) k41 (fs_mono (l := s_X10_takeNumber_mods) (by decide) (s_X10_takeNumber_fr hy))
      obtain ⟨w57, ew, h⟩ | ⟨ew, h⟩ := fel_of h
      · obtain ⟨y60, hy, h⟩ := fbd h
        have k60 := fs_trans (l := s_X3_readPiano_mods) k57 (fs_mono (l := s_X2_tell_28_mods) (by decide) (s_X2_tell_28_fr hy))
        obtain ⟨y77, hy, h⟩ := fbd h
        have k77 := fs_trans (l := s_X3_readPiano_mods) k60 (fs_mono (l := s_X10_takeNumber_mods) (by decide) (s_X10_takeNumber_fr hy))
        obtain ⟨w77, ew, h⟩ | ⟨ew, h⟩ := fel_of h
        · obtain ⟨y80, hy, h⟩ := fbd h
          have k80 := fs_trans (l := s_X3_readPiano_mods) k77 (fs_mono (l := s_X2_tell_28_mods) (by decide) (s_X2_tell_28_fr hy))
          obtain ⟨y97, hy, h⟩ := fbd h
          have k97 := fs_trans (l := s_X3_readPiano_mods) k80 (fs_mono (l := s_X10_takeNumber_mods) (by decide) (s_X10_takeNumber_fr hy))
          obtain ⟨w97, ew, h⟩ | ⟨ew, h⟩ := fel_of h
          · obtain ⟨y100, hy, h⟩ := fbd h
            have k100 := fs_trans (l := s_X3_readPiano_mods) k97 (fs_mono (l := s_X2_tell_28_mods) (by decide) (s_X2_tell_28_fr hy))
            obtain ⟨y117, hy, h⟩ := fbd h
            have k117 := fs_trans (l := s_X3_readPiano_mods) k100 (fs_mono (l := s_X10_takeNumber_mods) (by decide) (s_X10_takeNumber_fr hy))
            obtain ⟨w117, ew, h⟩ | ⟨ew, h⟩ := fel_of h
            · obtain ⟨y120, hy, h⟩ := fbd h
              have k120 := fs_trans (l := s_X3_readPiano_mods) k117 (fs_mono (l := s_X2_tell_28_mods) (by decide) (s_X2_tell_28_fr hy))
              obtain ⟨y137, hy, h⟩ := fbd h
              have k137 := fs_trans (l := s_X3_readPiano_mods) k120 (fs_mono (l := s_X10_takeNumber_mods) (by decide) (s_X10_takeNumber_fr hy))
              obtain ⟨w137, ew, h⟩ | ⟨ew, h⟩ := fel_of h
              · obtain ⟨y140, hy, h⟩ := fbd h
                have k140 := fs_trans (l := s_X3_readPiano_mods) k137 (fs_mono (l := s_X2_tell_28_mods) (by decide) (s_X2_tell_28_fr hy))
                obtain rfl := Option.some.inj h
                exact k140
              · obtain rfl := Option.some.inj h
                exact k137
            · obtain rfl := Option.some.inj h
              exact k117
          · obtain rfl := Option.some.inj h
            exact k97
        · obtain rfl := Option.some.inj h
          exact k77
      · obtain rfl := Option.some.inj h
        exact k57
    · obtain rfl := Option.some.inj h
      exact k38
  · obtain rfl := Option.some.inj h
    exact k19
abbrev s_X3_readMore_mods : List (Nat × Option Nat) := [(1, some 4), (1, some 5), (1, some 6), (1, some 7), (1, some 8), (1, some 9), (1, some 10), (34, none), (35, none), (36, none)]
noncomputable def s_X3_readMore_b10 (M : fM) (l1 l2 l3 l4 l5 : Int) : Option ((Int × Int × Int × Int × fM) ⊕ (fM ⊕ ((Unit ⊕ Unit) × fM))) :=
  if 1200 ≤ l5 then
    some (.inr (.inl M))
  else
    (s_X10_take M).bind fun y22 =>
      (s_X10_keywordHere y22.2).bind fun y29 =>
        if y29 = 17 then
          (s_X3_withTold y22.2 l2 17).bind fun y68 =>
            fel y68.1
              (fun w68 =>
                (s_X2_tell_28 y68.2 l1 7 1).bind fun y80 =>
                  if fin (l5 + 1) then
                    some (.inl (w68, l3, l4, (l5 + 1), y80.2))
                  else none)
              (some (.inr (.inr (.inr (), y68.2))))
        else
          if y29 = 18 then
            (s_X10_takeNumber y22.2 0 11).bind fun y153 =>
              fel y153.1
                (fun w153 =>
                  (s_X3_withTold y153.2 l3 w153).bind fun y162 =>
                    fel y162.1
                      (fun w162 =>
                        if fin (l1 * 12) ∧ fin ((l1 * 12) + w153) then
                          (s_X10_takeNumber y162.2 0 99).bind fun y187 =>
                            fel y187.1
                              (fun w187 =>
                                if (0 ≤ ((l1 * 12) + w153) ∧ ((l1 * 12) + w153) < 192) ∧ fin (l5 + 1) then
                                  some (.inl (l2, w162, l4, (l5 + 1), (fup y187.2 35 ((l1 * 12) + w153).toNat w187)))
                                else none)
                              (some (.inr (.inr (.inr (), y187.2))))
                        else none)
                      (some (.inr (.inr (.inr (), y162.2)))))
                (some (.inr (.inr (.inr (), y153.2))))
          else
            if y29 = 19 then
              (s_X10_takeNumber y22.2 0 3).bind fun y200 =>
                fel y200.1
                  (fun w200 =>
                    (s_X3_withTold y200.2 l4 w200).bind fun y210 =>
                      fel y210.1
                        (fun w210 =>
                          if fin (l1 * 4) ∧ fin ((l1 * 4) + w200) then
                            (s_X10_takeNumber y210.2 0 20).bind fun y235 =>
                              fel y235.1
                                (fun w235 =>
                                  if (0 ≤ ((l1 * 4) + w200) ∧ ((l1 * 4) + w200) < 64) ∧ fin (l5 + 1) then
                                    some (.inl (l2, l3, w210, (l5 + 1), (fup y235.2 36 ((l1 * 4) + w200).toNat w235)))
                                  else none)
                                (some (.inr (.inr (.inr (), y235.2))))
                          else none)
                        (some (.inr (.inr (.inr (), y210.2)))))
                  (some (.inr (.inr (.inr (), y200.2))))
            else
              if y29 = 20 then
                (s_X3_withTold y22.2 l2 20).bind fun y90 =>
                  fel y90.1
                    (fun w90 =>
                      (s_X10_takeNumber y90.2 0 1440).bind fun y102 =>
                        fel y102.1
                          (fun w102 =>
                            (s_X2_tell_28 y102.2 l1 8 w102).bind fun y116 =>
                              if fin (w102 + 1) then
                                (s_X10_takeNumber y116.2 (w102 + 1) 1440).bind fun y137 =>
                                  fel y137.1
                                    (fun w137 =>
                                      (s_X2_tell_28 y137.2 l1 9 w137).bind fun y140 =>
                                        if fin (l5 + 1) then
                                          some (.inl (w90, l3, l4, (l5 + 1), y140.2))
                                        else none)
                                    (some (.inr (.inr (.inr (), y137.2))))
                              else none)
                          (some (.inr (.inr (.inr (), y102.2)))))
                    (some (.inr (.inr (.inr (), y90.2))))
              else
                some (.inr (.inr (.inl (), y22.2)))
theorem s_X3_readMore_b10_ok {d L : Nat} {M : fM} {l1 l2 l3 l4 l5 : Int} {o6 o7 o8 : Option fV} {r : ((Int × Int × Int × Int × fM) ⊕ (fM ⊕ ((Unit ⊕ Unit) × fM)))} {Q : fO → fH → Prop} (h : s_X3_readMore_b10 M l1 l2 l3 l4 l5 = some r) (hC : ∀ (l2' l3' l4' l5' : Int) (M' : fM) (o6' o7' o8' : Option fV), r = .inl (l2', l3', l4', l5', M') → Wp (d + 10, 59, 10, 0, 0, [some (fA 27), some (fI l1), some (fI l2'), some (fI l3'), some (fI l4'), some (fI l5'), o6', o7', o8'], []) (156, fjl L, M') Q) (hE : ∀ (e : fM) (o0' o1' o2' o3' o4' o5' o6' o7' o8' : Option fV), r = .inr (.inl e) → Wp (d + 10, 59, 249, 0, 0, [o0', o1', o2', o3', o4', o5', o6', o7', o8'], []) (156, fjl L, e) Q) (hR : ∀ (v : ((Unit ⊕ Unit) × fM)), r = .inr (.inr v) → Q (oT oV 1 v.1) (156, fjl L, v.2)) : Wp (d + 10, 59, 10, 0, 0, [some (fA 27), some (fI l1), some (fI l2), some (fI l3), some (fI l4), some (fI l5), o6, o7, o8], []) (156, fjl L, M) Q := by
  unfold s_X3_readMore_b10 at h
  refine Wp.run 2 (f' := (d + 10, 59, 15, 0, 0, [some (fA 27), some (fI l1), some (fI l2), some (fI l3), some (fI l4), some (fI l5), _, _, _], [fI 1200, fI l5])) (h' := (156, fjl L, M)) rfl trivial ?_
  refine Wp.br rfl (fun (c : 1200 ≤ l5) => ?_) (fun (c : ¬ (1200 ≤ l5)) => ?_)
  · replace h := fps c h
    exact hE _ _ _ _ _ _ _ _ _ _ (Option.some.inj h).symm
  · replace h := fng c h
    refine Wp.run 2 (f' := (d + 10, 59, 22, 0, 0, [some (fA 27), some (fI l1), some (fI l2), some (fI l3), some (fI l4), some (fI l5), _, _, _], [fA 1])) (h' := (156, fjl L, M)) rfl trivial ?_
    obtain ⟨y22, hy, h⟩ := fbd h
    refine Wp.call rfl (by decide) (s_X10_take_ok (d := d + 7) hy ?_)
    show Wp (d + 10, 59, 25, 0, 0, [some (fA 27), some (fI l1), some (fI l2), some (fI l3), some (fI l4), some (fI l5), _, _, _], []) (156, fjl L, y22.2) Q
    refine Wp.run 2 (f' := (d + 10, 59, 29, 0, 0, [some (fA 27), some (fI l1), some (fI l2), some (fI l3), some (fI l4), some (fI l5), _, _, _], [fA 1])) (h' := (156, fjl L, y22.2)) rfl trivial ?_
    obtain ⟨y29, hy, h⟩ := fbd h
    refine Wp.call rfl (by decide) (s_X10_keywordHere_ok (d := d + 9) hy ?_)
    show Wp (d + 10, 59, 32, 0, 0, [some (fA 27), some (fI l1), some (fI l2), some (fI l3), some (fI l4), some (fI l5), _, _, _], [fI y29]) (156, fjl L, y22.2) Q
    refine Wp.sw rfl ?_
    refine ⟨fun (c : y29 = 17) => ?_, fun (c : ¬ (y29 = 17)) => ?_⟩
    · replace h := fps c h
      show Wp (d + 10, 59, 64, 0, 0, [some (fA 27), some (fI l1), some (fI l2), some (fI l3), some (fI l4), some (fI l5), _, _, _], []) (156, fjl L, y22.2) Q
      refine Wp.run 3 (f' := (d + 10, 59, 68, 0, 0, [some (fA 27), some (fI l1), _, some (fI l3), some (fI l4), some (fI l5), _, _, _], [fI 17, fI l2, fA 27])) (h' := (156, fjl L, y22.2)) rfl trivial ?_
      obtain ⟨y68, hy, h⟩ := fbd h
      refine Wp.call rfl (by decide) (s_X3_withTold_ok (d := d + 1) hy ?_)
      obtain ⟨w68, ew, h⟩ | ⟨ew, h⟩ := fel_of h
      · rw [ew]
        show Wp (d + 10, 59, 71, 0, 0, [some (fA 27), some (fI l1), _, some (fI l3), some (fI l4), some (fI l5), _, _, _], [fI w68]) (156, fjl L, y68.2) Q
        refine Wp.run 6 (f' := (d + 10, 59, 80, 0, 0, [some (fA 27), some (fI l1), some (fI w68), some (fI l3), some (fI l4), some (fI l5), _, _, _], [fI 1, fI 7, fI l1, fA 28])) (h' := (156, fjl L, y68.2)) rfl trivial ?_
        obtain ⟨y80, hy, h⟩ := fbd h
        refine Wp.call rfl (by decide) (s_X2_tell_28_ok (d := d + 9) hy ?_)
        show Wp (d + 10, 59, 83, 0, 0, [some (fA 27), some (fI l1), some (fI w68), some (fI l3), some (fI l4), some (fI l5), _, _, _], []) (156, fjl L, y80.2) Q
        obtain ⟨g0, h⟩ := fgd h
        refine Wp.run 3 (f' := (d + 10, 59, 10, 0, 0, [some (fA 27), some (fI l1), some (fI w68), some (fI l3), some (fI l4), some (fI (fw (l5 + 1))), _, _, _], [])) (h' := (156, fjl L, y80.2)) rfl trivial ?_
        rw [fw_id g0]
        exact hC _ _ _ _ _ _ _ _ (Option.some.inj h).symm
      · rw [ew]
        exact ⟨⟨rfl, rfl⟩, hR _ (Option.some.inj h).symm⟩
    · replace h := fng c h
      refine ⟨fun (c : y29 = 18) => ?_, fun (c : ¬ (y29 = 18)) => ?_⟩
      · replace h := fps c h
        show Wp (d + 10, 59, 146, 0, 0, [some (fA 27), some (fI l1), some (fI l2), some (fI l3), some (fI l4), some (fI l5), _, _, _], []) (156, fjl L, y22.2) Q
        refine Wp.run 4 (f' := (d + 10, 59, 153, 0, 0, [some (fA 27), some (fI l1), some (fI l2), some (fI l3), some (fI l4), some (fI l5), _, _, _], [fI 11, fI 0, fA 1])) (h' := (156, fjl L, y22.2)) rfl trivial ?_
        obtain ⟨y153, hy, h⟩ := fbd h
        refine Wp.call rfl (by decide) (s_X10_takeNumber_ok (d := d + 0) hy ?_)
        obtain ⟨w153, ew, h⟩ | ⟨ew, h⟩ := fel_of h
        · rw [ew]
          show Wp (d + 10, 59, 156, 0, 0, [some (fA 27), some (fI l1), some (fI l2), some (fI l3), some (fI l4), some (fI l5), _, _, _], [fI w153]) (156, fjl L, y153.2) Q
          refine Wp.run 4 (f' := (d + 10, 59, 162, 0, 0, [some (fA 27), some (fI l1), some (fI l2), _, some (fI l4), some (fI l5), _, some (fI w153), _], [fI w153, fI l3, fA 27])) (h' := (156, fjl L, y153.2)) rfl trivial ?_
          obtain ⟨y162, hy, h⟩ := fbd h
          refine Wp.call rfl (by decide) (s_X3_withTold_ok (d := d + 1) hy ?_)
          obtain ⟨w162, ew, h⟩ | ⟨ew, h⟩ := fel_of h
          · rw [ew]
            show Wp (d + 10, 59, 165, 0, 0, [some (fA 27), some (fI l1), some (fI l2), _, some (fI l4), some (fI l5), _, some (fI w153), _], [fI w162]) (156, fjl L, y162.2) Q
            obtain ⟨⟨g0, g1⟩, h⟩ := fgd h
            refine Wp.run 13 (f' := (d + 10, 59, 187, 0, 0, [some (fA 27), some (fI l1), some (fI l2), some (fI w162), some (fI l4), some (fI l5), _, _, _], [fI 99, fI 0, fA 1, fI (fw ((fw (l1 * 12)) + w153)), fA 35])) (h' := (156, fjl L, y162.2)) rfl trivial ?_
            rw [fw_id g0, fw_id g1]
            obtain ⟨y187, hy, h⟩ := fbd h
            refine Wp.call rfl (by decide) (s_X10_takeNumber_ok (d := d + 0) hy ?_)
            obtain ⟨w187, ew, h⟩ | ⟨ew, h⟩ := fel_of h
            · rw [ew]
              show Wp (d + 10, 59, 190, 0, 0, [some (fA 27), some (fI l1), some (fI l2), some (fI w162), some (fI l4), some (fI l5), _, _, _], [fI w187, fI ((l1 * 12) + w153), fA 35]) (156, fjl L, y187.2) Q
              obtain ⟨⟨g0, g1⟩, h⟩ := fgd h
              refine Wp.run 4 (P := [0 ≤ ((l1 * 12) + w153) ∧ ((l1 * 12) + w153) < 192]) (f' := (d + 10, 59, 10, 0, 0, [some (fA 27), some (fI l1), some (fI l2), some (fI w162), some (fI l4), some (fI (fw (l5 + 1))), _, _, _], [])) (h' := (156, fjl L, (fup y187.2 35 ((l1 * 12) + w153).toNat w187))) rfl ?_ ?_
              · exact g0
              rw [fw_id g1]
              exact hC _ _ _ _ _ _ _ _ (Option.some.inj h).symm
            · rw [ew]
              exact ⟨⟨rfl, rfl⟩, hR _ (Option.some.inj h).symm⟩
          · rw [ew]
            exact ⟨⟨rfl, rfl⟩, hR _ (Option.some.inj h).symm⟩
        · rw [ew]
          exact ⟨⟨rfl, rfl⟩, hR _ (Option.some.inj h).symm⟩
      · replace h := fng c h
        refine ⟨fun (c : y29 = 19) => ?_, fun (c : ¬ (y29 = 19)) => ?_⟩
        · replace h := fps c h
          show Wp (d + 10, 59, 194, 0, 0, [some (fA 27), some (fI l1), some (fI l2), some (fI l3), some (fI l4), some (fI l5), _, _, _], []) (156, fjl L, y22.2) Q
          refine Wp.run 4 (f' := (d + 10, 59, 200, 0, 0, [some (fA 27), some (fI l1), some (fI l2), some (fI l3), some (fI l4), some (fI l5), _, _, _], [fI 3, fI 0, fA 1])) (h' := (156, fjl L, y22.2)) rfl trivial ?_
          obtain ⟨y200, hy, h⟩ := fbd h
          refine Wp.call rfl (by decide) (s_X10_takeNumber_ok (d := d + 0) hy ?_)
          obtain ⟨w200, ew, h⟩ | ⟨ew, h⟩ := fel_of h
          · rw [ew]
            show Wp (d + 10, 59, 203, 0, 0, [some (fA 27), some (fI l1), some (fI l2), some (fI l3), some (fI l4), some (fI l5), _, _, _], [fI w200]) (156, fjl L, y200.2) Q
            refine Wp.run 4 (f' := (d + 10, 59, 210, 0, 0, [some (fA 27), some (fI l1), some (fI l2), some (fI l3), _, some (fI l5), _, _, some (fI w200)], [fI w200, fI l4, fA 27])) (h' := (156, fjl L, y200.2)) rfl trivial ?_
            obtain ⟨y210, hy, h⟩ := fbd h
            refine Wp.call rfl (by decide) (s_X3_withTold_ok (d := d + 1) hy ?_)
            obtain ⟨w210, ew, h⟩ | ⟨ew, h⟩ := fel_of h
            · rw [ew]
              show Wp (d + 10, 59, 213, 0, 0, [some (fA 27), some (fI l1), some (fI l2), some (fI l3), _, some (fI l5), _, _, some (fI w200)], [fI w210]) (156, fjl L, y210.2) Q
              obtain ⟨⟨g0, g1⟩, h⟩ := fgd h
              refine Wp.run 13 (f' := (d + 10, 59, 235, 0, 0, [some (fA 27), some (fI l1), some (fI l2), some (fI l3), some (fI w210), some (fI l5), _, _, _], [fI 20, fI 0, fA 1, fI (fw ((fw (l1 * 4)) + w200)), fA 36])) (h' := (156, fjl L, y210.2)) rfl trivial ?_
              rw [fw_id g0, fw_id g1]
              obtain ⟨y235, hy, h⟩ := fbd h
              refine Wp.call rfl (by decide) (s_X10_takeNumber_ok (d := d + 0) hy ?_)
              obtain ⟨w235, ew, h⟩ | ⟨ew, h⟩ := fel_of h
              · rw [ew]
                show Wp (d + 10, 59, 238, 0, 0, [some (fA 27), some (fI l1), some (fI l2), some (fI l3), some (fI w210), some (fI l5), _, _, _], [fI w235, fI ((l1 * 4) + w200), fA 36]) (156, fjl L, y235.2) Q
                obtain ⟨⟨g0, g1⟩, h⟩ := fgd h
                refine Wp.run 4 (P := [0 ≤ ((l1 * 4) + w200) ∧ ((l1 * 4) + w200) < 64]) (f' := (d + 10, 59, 10, 0, 0, [some (fA 27), some (fI l1), some (fI l2), some (fI l3), some (fI w210), some (fI (fw (l5 + 1))), _, _, _], [])) (h' := (156, fjl L, (fup y235.2 36 ((l1 * 4) + w200).toNat w235))) rfl ?_ ?_
                · exact g0
                rw [fw_id g1]
                exact hC _ _ _ _ _ _ _ _ (Option.some.inj h).symm
              · rw [ew]
                exact ⟨⟨rfl, rfl⟩, hR _ (Option.some.inj h).symm⟩
            · rw [ew]
              exact ⟨⟨rfl, rfl⟩, hR _ (Option.some.inj h).symm⟩
          · rw [ew]
            exact ⟨⟨rfl, rfl⟩, hR _ (Option.some.inj h).symm⟩
        · replace h := fng c h
          refine ⟨fun (c : y29 = 20) => ?_, fun (c : ¬ (y29 = 20)) => ?_⟩
          · replace h := fps c h
            show Wp (d + 10, 59, 86, 0, 0, [some (fA 27), some (fI l1), some (fI l2), some (fI l3), some (fI l4), some (fI l5), _, _, _], []) (156, fjl L, y22.2) Q
            refine Wp.run 3 (f' := (d + 10, 59, 90, 0, 0, [some (fA 27), some (fI l1), _, some (fI l3), some (fI l4), some (fI l5), _, _, _], [fI 20, fI l2, fA 27])) (h' := (156, fjl L, y22.2)) rfl trivial ?_
            obtain ⟨y90, hy, h⟩ := fbd h
            refine Wp.call rfl (by decide) (s_X3_withTold_ok (d := d + 1) hy ?_)
            obtain ⟨w90, ew, h⟩ | ⟨ew, h⟩ := fel_of h
            · rw [ew]
              show Wp (d + 10, 59, 93, 0, 0, [some (fA 27), some (fI l1), _, some (fI l3), some (fI l4), some (fI l5), _, _, _], [fI w90]) (156, fjl L, y90.2) Q
              refine Wp.run 5 (f' := (d + 10, 59, 102, 0, 0, [some (fA 27), some (fI l1), some (fI w90), some (fI l3), some (fI l4), some (fI l5), _, _, _], [fI 1440, fI 0, fA 1])) (h' := (156, fjl L, y90.2)) rfl trivial ?_
              obtain ⟨y102, hy, h⟩ := fbd h
              refine Wp.call rfl (by decide) (s_X10_takeNumber_ok (d := d + 0) hy ?_)
              obtain ⟨w102, ew, h⟩ | ⟨ew, h⟩ := fel_of h
              · rw [ew]
                show Wp (d + 10, 59, 105, 0, 0, [some (fA 27), some (fI l1), some (fI w90), some (fI l3), some (fI l4), some (fI l5), _, _, _], [fI w102]) (156, fjl L, y102.2) Q
                refine Wp.run 6 (f' := (d + 10, 59, 116, 0, 0, [some (fA 27), some (fI l1), some (fI w90), some (fI l3), some (fI l4), some (fI l5), some (fI w102), _, _], [fI w102, fI 8, fI l1, fA 28])) (h' := (156, fjl L, y102.2)) rfl trivial ?_
                obtain ⟨y116, hy, h⟩ := fbd h
                refine Wp.call rfl (by decide) (s_X2_tell_28_ok (d := d + 9) hy ?_)
                show Wp (d + 10, 59, 119, 0, 0, [some (fA 27), some (fI l1), some (fI w90), some (fI l3), some (fI l4), some (fI l5), some (fI w102), _, _], []) (156, fjl L, y116.2) Q
                obtain ⟨g0, h⟩ := fgd h
                refine Wp.run 10 (f' := (d + 10, 59, 137, 0, 0, [some (fA 27), some (fI l1), some (fI w90), some (fI l3), some (fI l4), some (fI l5), _, _, _], [fI 1440, fI (fw (w102 + 1)), fA 1, fI 9, fI l1, fA 28])) (h' := (156, fjl L, y116.2)) rfl trivial ?_
                rw [fw_id g0]
                obtain ⟨y137, hy, h⟩ := fbd h
                refine Wp.call rfl (by decide) (s_X10_takeNumber_ok (d := d + 0) hy ?_)
                obtain ⟨w137, ew, h⟩ | ⟨ew, h⟩ := fel_of h
                · rw [ew]
                  show Wp (d + 10, 59, 140, 0, 0, [some (fA 27), some (fI l1), some (fI w90), some (fI l3), some (fI l4), some (fI l5), _, _, _], [fI w137, fI 9, fI l1, fA 28]) (156, fjl L, y137.2) Q
                  obtain ⟨y140, hy, h⟩ := fbd h
                  refine Wp.call rfl (by decide) (s_X2_tell_28_ok (d := d + 9) hy ?_)
                  show Wp (d + 10, 59, 143, 0, 0, [some (fA 27), some (fI l1), some (fI w90), some (fI l3), some (fI l4), some (fI l5), _, _, _], []) (156, fjl L, y140.2) Q
                  obtain ⟨g0, h⟩ := fgd h
                  refine Wp.run 3 (f' := (d + 10, 59, 10, 0, 0, [some (fA 27), some (fI l1), some (fI w90), some (fI l3), some (fI l4), some (fI (fw (l5 + 1))), _, _, _], [])) (h' := (156, fjl L, y140.2)) rfl trivial ?_
                  rw [fw_id g0]
                  exact hC _ _ _ _ _ _ _ _ (Option.some.inj h).symm
                · rw [ew]
                  exact ⟨⟨rfl, rfl⟩, hR _ (Option.some.inj h).symm⟩
              · rw [ew]
                exact ⟨⟨rfl, rfl⟩, hR _ (Option.some.inj h).symm⟩
            · rw [ew]
              exact ⟨⟨rfl, rfl⟩, hR _ (Option.some.inj h).symm⟩
          · replace h := fng c h
            show Wp (d + 10, 59, 242, 0, 0, [_, _, _, _, _, _, _, _, _], []) (156, fjl L, y22.2) Q
            exact Wp.done rfl (by decide) (hR _ (Option.some.inj h).symm)
theorem s_X3_readMore_b10_fr {M : fM} {l1 l2 l3 l4 l5 : Int} {r : ((Int × Int × Int × Int × fM) ⊕ (fM ⊕ ((Unit ⊕ Unit) × fM)))} (h : s_X3_readMore_b10 M l1 l2 l3 l4 l5 = some r) : fSame s_X3_readMore_mods M (Sum.elim (fun s => s.2.2.2.2) (Sum.elim (fun e => e) (fun v => v.2)) r) := by
  unfold s_X3_readMore_b10 at h
  by_cases c : 1200 ≤ l5
  · replace h := fps c h
    obtain rfl := Option.some.inj h
    exact fs_refl
  · replace h := fng c h
    obtain ⟨y22, hy, h⟩ := fbd h
    have k22 := fs_trans (l := s_X3_readMore_mods) fs_refl (fs_mono (l := s_X10_take_mods) (by decide) (s_X10_take_fr hy))
    obtain ⟨y29, hy, h⟩ := fbd h
    by_cases c : y29 = 17
    · replace h := fps c h
      obtain ⟨y68, hy, h⟩ := fbd h
      have k68 := fs_trans (l := s_X3_readMore_mods) k22 (fs_mono (l := s_X3_withTold_mods) (by decide) (s_X3_withTold_fr hy))
      obtain ⟨w68, ew, h⟩ | ⟨ew, h⟩ := fel_of h
      · obtain ⟨y80, hy, h⟩ := fbd h
        have k80 := fs_trans (l := s_X3_readMore_mods) k68 (fs_mono (l := s_X2_tell_28_mods) (by decide) (s_X2_tell_28_fr hy))
        replace h := (fgd h).2
        obtain rfl := Option.some.inj h
        exact k80
      · obtain rfl := Option.some.inj h
        exact k68
    · replace h := fng c h
      by_cases c : y29 = 18
      · replace h := fps c h
        obtain ⟨y153, hy, h⟩ := fbd h
        have k153 := fs_trans (l := s_X3_readMore_mods) k22 (fs_mono (l := s_X10_takeNumber_mods) (by decide) (s_X10_takeNumber_fr hy))
        obtain ⟨w153, ew, h⟩ | ⟨ew, h⟩ := fel_of h
        · obtain ⟨y162, hy, h⟩ := fbd h
          have k162 := fs_trans (l := s_X3_readMore_mods) k153 (fs_mono (l := s_X3_withTold_mods) (by decide) (s_X3_withTold_fr hy))
          obtain ⟨w162, ew, h⟩ | ⟨ew, h⟩ := fel_of h
          · replace h := (fgd h).2
            obtain ⟨y187, hy, h⟩ := fbd h
            have k187 := fs_trans (l := s_X3_readMore_mods) k162 (fs_mono (l := s_X10_takeNumber_mods) (by decide) (s_X10_takeNumber_fr hy))
            obtain ⟨w187, ew, h⟩ | ⟨ew, h⟩ := fel_of h
            · replace h := (fgd h).2
              obtain rfl := Option.some.inj h
              exact fs_up k187 (.inl (by decide))
            · obtain rfl := Option.some.inj h
              exact k187
          · obtain rfl := Option.some.inj h
            exact k162
        · obtain rfl := Option.some.inj h
          exact k153
      · replace h := fng c h
        by_cases c : y29 = 19
        · replace h := fps c h
          obtain ⟨y200, hy, h⟩ := fbd h
          have k200 := fs_trans (l := s_X3_readMore_mods) k22 (fs_mono (l := s_X10_takeNumber_mods) (by decide) (s_X10_takeNumber_fr hy))
          obtain ⟨w200, ew, h⟩ | ⟨ew, h⟩ := fel_of h
          · obtain ⟨y210, hy, h⟩ := fbd h
            have k210 := fs_trans (l := s_X3_readMore_mods) k200 (fs_mono (l := s_X3_withTold_mods) (by decide) (s_X3_withTold_fr hy))
            obtain ⟨w210, ew, h⟩ | ⟨ew, h⟩ := fel_of h
            · replace h := (fgd h).2
              obtain ⟨y235, hy, h⟩ := fbd h
              have k235 := fs_trans (l := s_X3_readMore_mods) k210 (fs_mono (l := s_X10_takeNumber_mods) (by decide) (s_X10_takeNumber_fr hy))
              obtain ⟨w235, ew, h⟩ | ⟨ew, h⟩ := fel_of h
              · replace h := (fgd h).2
                obtain rfl := Option.some.inj h
                exact fs_up k235 (.inl (by decide))
              · obtain rfl := Option.some.inj h
                exact k235
            · obtain rfl := Option.some.inj h
              exact k210
          · obtain rfl := Option.some.inj h
            exact k200
        · replace h := fng c h
          by_cases c : y29 = 20
          · replace h := fps c h
            obtain ⟨y90, hy, h⟩ := fbd h
            have k90 := fs_trans (l := s_X3_readMore_mods) k22 (fs_mono (l := s_X3_withTold_mods) (by decide) (s_X3_withTold_fr hy))
            obtain ⟨w90, ew, h⟩ | ⟨ew, h⟩ := fel_of h
            · obtain ⟨y102, hy, h⟩ := fbd h
              have k102 := fs_trans (l := s_X3_readMore_mods) k90 (fs_mono (l := s_X10_takeNumber_mods) (by decide) (s_X10_takeNumber_fr hy))
              obtain ⟨w102, ew, h⟩ | ⟨ew, h⟩ := fel_of h
              · obtain ⟨y116, hy, h⟩ := fbd h
                have k116 := fs_trans (l := s_X3_readMore_mods) k102 (fs_mono (l := s_X2_tell_28_mods) (by decide) (s_X2_tell_28_fr hy))
                replace h := (fgd h).2
                obtain ⟨y137, hy, h⟩ := fbd h
                have k137 := fs_trans (l := s_X3_readMore_mods) k116 (fs_mono (l := s_X10_takeNumber_mods) (by decide) (s_X10_takeNumber_fr hy))
                obtain ⟨w137, ew, h⟩ | ⟨ew, h⟩ := fel_of h
                · obtain ⟨y140, hy, h⟩ := fbd h
                  have k140 := fs_trans (l := s_X3_readMore_mods) k137 (fs_mono (l := s_X2_tell_28_mods) (by decide) (s_X2_tell_28_fr hy))
                  replace h := (fgd h).2
                  obtain rfl := Option.some.inj h
                  exact k140
                · obtain rfl := Option.some.inj h
                  exact k137
              · obtain rfl := Option.some.inj h
                exact k102
            · obtain rfl := Option.some.inj h
              exact k90
          · replace h := fng c h
            obtain rfl := Option.some.inj h
            exact k22
noncomputable def s_X3_readMore_l10 (l1 : Int) (s : (Int × Int × Int × Int × fM)) : Option (fM ⊕ ((Unit ⊕ Unit) × fM)) := fLp (fun s => s_X3_readMore_b10 s.2.2.2.2 l1 s.1 s.2.1 s.2.2.1 s.2.2.2.1) s
theorem s_X3_readMore_l10_ok {d L : Nat} {M : fM} {l1 l2 l3 l4 l5 : Int} {o6 o7 o8 : Option fV} {r : (fM ⊕ ((Unit ⊕ Unit) × fM))} {Q : fO → fH → Prop} (h : s_X3_readMore_l10 l1 (l2, l3, l4, l5, M) = some r) (hE : ∀ (e : fM) (o0' o1' o2' o3' o4' o5' o6' o7' o8' : Option fV), r = .inl e → Wp (d + 10, 59, 249, 0, 0, [o0', o1', o2', o3', o4', o5', o6', o7', o8'], []) (156, fjl L, e) Q) (hR : ∀ (v : ((Unit ⊕ Unit) × fM)), r = .inr v → Q (oT oV 1 v.1) (156, fjl L, v.2)) : Wp (d + 10, 59, 10, 0, 0, [some (fA 27), some (fI l1), some (fI l2), some (fI l3), some (fI l4), some (fI l5), o6, o7, o8], []) (156, fjl L, M) Q := by
  refine fLp_wp (W := fun s => ∀ (o6 o7 o8 : Option fV), Wp (d + 10, 59, 10, 0, 0, [some (fA 27), some (fI l1), some (fI s.1), some (fI s.2.1), some (fI s.2.2.1), some (fI s.2.2.2.1), o6, o7, o8], []) (156, fjl L, s.2.2.2.2) Q) (e := r) ?_ h _ _ _
  intro s r1 h hC hX o6 o7 o8
  refine s_X3_readMore_b10_ok (d := d) h (fun a0 a1 a2 a3 a4 _ _ _ e1 => ?_) (fun e u0 u1 u2 u3 u4 u5 u6 u7 u8 e1 => hE e u0 u1 u2 u3 u4 u5 u6 u7 u8 (hX _ e1).symm) (fun v e1 => hR v (hX _ e1).symm)
  exact hC _ e1 _ _ _
theorem s_X3_readMore_l10_fr {M : fM} {l1 l2 l3 l4 l5 : Int} {r : (fM ⊕ ((Unit ⊕ Unit) × fM))} (h : s_X3_readMore_l10 l1 (l2, l3, l4, l5, M) = some r) : fSame s_X3_readMore_mods M ((Sum.elim (fun e => e) (fun v => v.2)) r) := by
  refine fLp_inv (I := fun s => fSame s_X3_readMore_mods M s.2.2.2.2) (J := fun r => fSame s_X3_readMore_mods M ((Sum.elim (fun e => e) (fun v => v.2)) r)) h fs_refl (fun s s1 hs hb => ?_) (fun s e hs hb => ?_)
  · exact fs_trans hs (s_X3_readMore_b10_fr hb)
  · exact fs_trans hs (s_X3_readMore_b10_fr hb)
noncomputable def s_X3_readMore (M : fM) (l1 : Int) : Option ((Unit ⊕ Unit) × fM) :=
  (s_X3_readMore_l10 l1 (0, 0, 0, 0, M)).bind fun e10 =>
    Sum.elim (fun x10 =>
      some (.inl (), x10))
      (fun v10 => some v10) e10
theorem s_X3_readMore_ok {d L : Nat} {M : fM} {l1 : Int} {r : ((Unit ⊕ Unit) × fM)} {Q : fO → fH → Prop} (h : s_X3_readMore M l1 = some r) (H : Q (oT oV 1 r.1) (156, fjl L, r.2)) : Wp (d + 10, 59, 0, 0, 0, [some (fA 27), some (fI l1), none, none, none, none, none, none, none], []) (156, fjl L, M) Q := by
  unfold s_X3_readMore at h
  refine Wp.run 8 (f' := (d + 10, 59, 10, 0, 0, [some (fA 27), some (fI l1), some (fI 0), some (fI 0), some (fI 0), some (fI 0), _, _, _], [])) (h' := (156, fjl L, M)) rfl trivial ?_
  obtain ⟨e10, hy, h⟩ := fbd h
  refine s_X3_readMore_l10_ok hy (fun x10 u0 u1 u2 u3 u4 u5 u6 u7 u8 ex => ?_) (fun v10 ex => ?_)
  · subst ex
    replace h := fsl h
    show Wp (d + 10, 59, 249, 0, 0, [u0, u1, u2, u3, u4, u5, u6, u7, u8], []) (156, fjl L, x10) Q
    obtain rfl := Option.some.inj h
    exact Wp.done rfl (by decide) H
  · subst ex
    replace h := fsr h
    obtain rfl := Option.some.inj h
    exact H
theorem s_X3_readMore_fr {M : fM} {l1 : Int} {r : ((Unit ⊕ Unit) × fM)} (h : s_X3_readMore M l1 = some r) : fSame s_X3_readMore_mods M r.2 := by
  unfold s_X3_readMore at h
  obtain ⟨e10, hy, h⟩ := fbd h
  have k10 := fs_trans (l := s_X3_readMore_mods) fs_refl (s_X3_readMore_l10_fr hy)
  rcases e10 with x10 | v10
  · replace h := fsl h
    obtain rfl := Option.some.inj h
    exact k10
  · replace h := fsr h
    obtain rfl := Option.some.inj h
    exact k10
abbrev s_X3_readNameLine_mods : List (Nat × Option Nat) := [(1, some 4), (1, some 5), (1, some 6), (1, some 7), (1, some 8), (1, some 9), (1, some 10), (28, some 13), (28, some 14), (28, some 15), (34, none), (35, none), (36, none), (37, none), (38, none), (39, none), (40, none), (41, none)]
noncomputable def s_X3_readNameLine (M : fM) (l1 : Int) : Option ((Unit ⊕ Unit) × fM) :=
  if l1 = 9 then
    (s_X3_mustHaveRoom M (M 28 13) 16).bind fun y42 =>
      fel y42.1
        (fun w42 =>
          (s_X3_takeNewName y42.2).bind fun y47 =>
            fel y47.1
              (fun w47 =>
                (s_X3_readPiano y47.2 w47).bind fun y50 =>
                  fel y50.1
                    (fun w50 =>
                      if fin ((y50.2 28 13) - 1) then
                        (s_X3_readMore y50.2 ((y50.2 28 13) - 1)).bind fun y63 =>
                          fel y63.1
                            (fun w63 =>
                              some (.inl (), y63.2))
                            (some (.inr (), y63.2))
                      else none)
                    (some (.inr (), y50.2)))
              (some (.inr (), y47.2)))
        (some (.inr (), y42.2))
  else
    if l1 = 10 then
      (s_X3_mustHaveRoom M (M 28 14) 6).bind fun y79 =>
        fel y79.1
          (fun w79 =>
            (s_X3_takeNewName y79.2).bind fun y84 =>
              fel y84.1
                (fun w84 =>
                  (s_X3_readTuner y84.2 w84).bind fun y87 =>
                    fel y87.1
                      (fun w87 =>
                        some (.inl (), y87.2))
                      (some (.inr (), y87.2)))
                (some (.inr (), y84.2)))
          (some (.inr (), y79.2))
    else
      if l1 = 11 then
        (s_X3_mustHaveRoom M (M 28 15) 6).bind fun y103 =>
          fel y103.1
            (fun w103 =>
              (s_X3_takeNewName y103.2).bind fun y121 =>
                fel y121.1
                  (fun w121 =>
                    if (0 ≤ (y103.2 28 15) ∧ (y103.2 28 15) < 6) ∧ fin ((y121.2 28 15) + 1) then
                      (s_X10_take (fup (fup y121.2 41 (y103.2 28 15).toNat w121) 28 15 ((y121.2 28 15) + 1))).bind fun y142 =>
                        some (.inl (), y142.2)
                    else none)
                  (some (.inr (), y121.2)))
            (some (.inr (), y103.2))
      else
        if l1 = 12 then
          (s_X3_readTeach M).bind fun y149 =>
            fel y149.1
              (fun w149 =>
                some (.inl (), y149.2))
              (some (.inr (), y149.2))
        else
          (s_X10_fail M 1).bind fun y160 =>
            fel y160.1
              (fun w160 =>
                some (.inl (), y160.2))
              (some (.inr (), y160.2))
theorem s_X3_readNameLine_ok {d L : Nat} {M : fM} {l1 : Int} {r : ((Unit ⊕ Unit) × fM)} {Q : fO → fH → Prop} (h : s_X3_readNameLine M l1 = some r) (H : Q (oT oV 1 r.1) (156, fjl L, r.2)) : Wp (d + 11, 49, 0, 0, 0, [some (fA 27), some (fI l1)], []) (156, fjl L, M) Q := by
  unfold s_X3_readNameLine at h
  refine Wp.run 1 (f' := (d + 11, 49, 1, 0, 0, [some (fA 27), _], [fI l1])) (h' := (156, fjl L, M)) rfl trivial ?_
  refine Wp.sw rfl ?_
  refine ⟨fun (c : l1 = 9) => ?_, fun (c : ¬ (l1 = 9)) => ?_⟩
  · replace h := fps c h
    show Wp (d + 11, 49, 32, 0, 0, [some (fA 27), _], []) (156, fjl L, M) Q
    refine Wp.run 5 (f' := (d + 11, 49, 42, 0, 0, [some (fA 27), _], [fI 16, fI (M 28 13), fA 27])) (h' := (156, fjl L, M)) rfl trivial ?_
    obtain ⟨y42, hy, h⟩ := fbd h
    refine Wp.call rfl (by decide) (s_X3_mustHaveRoom_ok (d := d + 2) hy ?_)
    obtain ⟨w42, ew, h⟩ | ⟨ew, h⟩ := fel_of h
    · rw [ew]
      show Wp (d + 11, 49, 45, 0, 0, [some (fA 27), _], []) (156, fjl L, y42.2) Q
      refine Wp.run 2 (f' := (d + 11, 49, 47, 0, 0, [some (fA 27), _], [fA 27, fA 27])) (h' := (156, fjl L, y42.2)) rfl trivial ?_
      obtain ⟨y47, hy, h⟩ := fbd h
      refine Wp.call rfl (by decide) (s_X3_takeNewName_ok (d := d + 1) hy ?_)
      obtain ⟨w47, ew, h⟩ | ⟨ew, h⟩ := fel_of h
      · rw [ew]
        show Wp (d + 11, 49, 50, 0, 0, [some (fA 27), _], [fJ w47, fA 27]) (156, fjl L, y47.2) Q
        obtain ⟨y50, hy, h⟩ := fbd h
        refine Wp.call rfl (by decide) (s_X3_readPiano_ok (d := d + 0) hy ?_)
        obtain ⟨w50, ew, h⟩ | ⟨ew, h⟩ := fel_of h
        · rw [ew]
          show Wp (d + 11, 49, 53, 0, 0, [some (fA 27), _], []) (156, fjl L, y50.2) Q
          obtain ⟨g0, h⟩ := fgd h
          refine Wp.run 6 (f' := (d + 11, 49, 63, 0, 0, [_, _], [fI (fw ((y50.2 28 13) - 1)), fA 27])) (h' := (156, fjl L, y50.2)) rfl trivial ?_
          rw [fw_id g0]
          obtain ⟨y63, hy, h⟩ := fbd h
          refine Wp.call rfl (by decide) (s_X3_readMore_ok (d := d + 0) hy ?_)
          obtain ⟨w63, ew, h⟩ | ⟨ew, h⟩ := fel_of h
          · rw [ew]
            show Wp (d + 11, 49, 66, 0, 0, [_, _], []) (156, fjl L, y63.2) Q
            refine Wp.run 1 (f' := (d + 11, 49, 163, 0, 0, [_, _], [])) (h' := (156, fjl L, y63.2)) rfl trivial ?_
            obtain rfl := Option.some.inj h
            exact Wp.done rfl (by decide) H
          · rw [ew]
            obtain rfl := Option.some.inj h
            exact ⟨⟨rfl, rfl⟩, H⟩
        · rw [ew]
          obtain rfl := Option.some.inj h
          exact ⟨⟨rfl, rfl⟩, H⟩
      · rw [ew]
        obtain rfl := Option.some.inj h
        exact ⟨⟨rfl, rfl⟩, H⟩
    · rw [ew]
      obtain rfl := Option.some.inj h
      exact ⟨⟨rfl, rfl⟩, H⟩
  · replace h := fng c h
    refine ⟨fun (c : l1 = 10) => ?_, fun (c : ¬ (l1 = 10)) => ?_⟩
    · replace h := fps c h
      show Wp (d + 11, 49, 69, 0, 0, [some (fA 27), _], []) (156, fjl L, M) Q
      refine Wp.run 5 (f' := (d + 11, 49, 79, 0, 0, [some (fA 27), _], [fI 6, fI (M 28 14), fA 27])) (h' := (156, fjl L, M)) rfl trivial ?_
      obtain ⟨y79, hy, h⟩ := fbd h
      refine Wp.call rfl (by decide) (s_X3_mustHaveRoom_ok (d := d + 2) hy ?_)
      obtain ⟨w79, ew, h⟩ | ⟨ew, h⟩ := fel_of h
      · rw [ew]
        show Wp (d + 11, 49, 82, 0, 0, [some (fA 27), _], []) (156, fjl L, y79.2) Q
        refine Wp.run 2 (f' := (d + 11, 49, 84, 0, 0, [_, _], [fA 27, fA 27])) (h' := (156, fjl L, y79.2)) rfl trivial ?_
        obtain ⟨y84, hy, h⟩ := fbd h
        refine Wp.call rfl (by decide) (s_X3_takeNewName_ok (d := d + 1) hy ?_)
        obtain ⟨w84, ew, h⟩ | ⟨ew, h⟩ := fel_of h
        · rw [ew]
          show Wp (d + 11, 49, 87, 0, 0, [_, _], [fJ w84, fA 27]) (156, fjl L, y84.2) Q
          obtain ⟨y87, hy, h⟩ := fbd h
          refine Wp.call rfl (by decide) (s_X3_readTuner_ok (d := d + 0) hy ?_)
          obtain ⟨w87, ew, h⟩ | ⟨ew, h⟩ := fel_of h
          · rw [ew]
            show Wp (d + 11, 49, 90, 0, 0, [_, _], []) (156, fjl L, y87.2) Q
            refine Wp.run 1 (f' := (d + 11, 49, 163, 0, 0, [_, _], [])) (h' := (156, fjl L, y87.2)) rfl trivial ?_
            obtain rfl := Option.some.inj h
            exact Wp.done rfl (by decide) H
          · rw [ew]
            obtain rfl := Option.some.inj h
            exact ⟨⟨rfl, rfl⟩, H⟩
        · rw [ew]
          obtain rfl := Option.some.inj h
          exact ⟨⟨rfl, rfl⟩, H⟩
      · rw [ew]
        obtain rfl := Option.some.inj h
        exact ⟨⟨rfl, rfl⟩, H⟩
    · replace h := fng c h
      refine ⟨fun (c : l1 = 11) => ?_, fun (c : ¬ (l1 = 11)) => ?_⟩
      · replace h := fps c h
        show Wp (d + 11, 49, 93, 0, 0, [some (fA 27), _], []) (156, fjl L, M) Q
        refine Wp.run 5 (f' := (d + 11, 49, 103, 0, 0, [some (fA 27), _], [fI 6, fI (M 28 15), fA 27])) (h' := (156, fjl L, M)) rfl trivial ?_
        obtain ⟨y103, hy, h⟩ := fbd h
        refine Wp.call rfl (by decide) (s_X3_mustHaveRoom_ok (d := d + 2) hy ?_)
        obtain ⟨w103, ew, h⟩ | ⟨ew, h⟩ := fel_of h
        · rw [ew]
          show Wp (d + 11, 49, 106, 0, 0, [some (fA 27), _], []) (156, fjl L, y103.2) Q
          refine Wp.run 7 (f' := (d + 11, 49, 121, 0, 0, [some (fA 27), _], [fA 27, fI (y103.2 28 15), fA 41])) (h' := (156, fjl L, y103.2)) rfl trivial ?_
          obtain ⟨y121, hy, h⟩ := fbd h
          refine Wp.call rfl (by decide) (s_X3_takeNewName_ok (d := d + 1) hy ?_)
          obtain ⟨w121, ew, h⟩ | ⟨ew, h⟩ := fel_of h
          · rw [ew]
            show Wp (d + 11, 49, 124, 0, 0, [some (fA 27), _], [fJ w121, fI (y103.2 28 15), fA 41]) (156, fjl L, y121.2) Q
            obtain ⟨⟨g0, g1⟩, h⟩ := fgd h
            refine Wp.run 10 (P := [0 ≤ (y103.2 28 15) ∧ (y103.2 28 15) < 6]) (f' := (d + 11, 49, 142, 0, 0, [_, _], [fA 1])) (h' := (156, fjl L, (fup (fup y121.2 41 (y103.2 28 15).toNat w121) 28 15 (fw ((y121.2 28 15) + 1))))) rfl ?_ ?_
            · exact g0
            rw [fw_id g1]
            obtain ⟨y142, hy, h⟩ := fbd h
            refine Wp.call rfl (by decide) (s_X10_take_ok (d := d + 8) hy ?_)
            show Wp (d + 11, 49, 145, 0, 0, [_, _], []) (156, fjl L, y142.2) Q
            refine Wp.run 1 (f' := (d + 11, 49, 163, 0, 0, [_, _], [])) (h' := (156, fjl L, y142.2)) rfl trivial ?_
            obtain rfl := Option.some.inj h
            exact Wp.done rfl (by decide) H
          · rw [ew]
            obtain rfl := Option.some.inj h
            exact ⟨⟨rfl, rfl⟩, H⟩
        · rw [ew]
          obtain rfl := Option.some.inj h
          exact ⟨⟨rfl, rfl⟩, H⟩
      · replace h := fng c h
        refine ⟨fun (c : l1 = 12) => ?_, fun (c : ¬ (l1 = 12)) => ?_⟩
        · replace h := fps c h
          show Wp (d + 11, 49, 148, 0, 0, [some (fA 27), _], []) (156, fjl L, M) Q
          refine Wp.run 1 (f' := (d + 11, 49, 149, 0, 0, [_, _], [fA 27])) (h' := (156, fjl L, M)) rfl trivial ?_
          obtain ⟨y149, hy, h⟩ := fbd h
          refine Wp.call rfl (by decide) (s_X3_readTeach_ok (d := d + 0) hy ?_)
          obtain ⟨w149, ew, h⟩ | ⟨ew, h⟩ := fel_of h
          · rw [ew]
            show Wp (d + 11, 49, 152, 0, 0, [_, _], []) (156, fjl L, y149.2) Q
            refine Wp.run 1 (f' := (d + 11, 49, 163, 0, 0, [_, _], [])) (h' := (156, fjl L, y149.2)) rfl trivial ?_
            obtain rfl := Option.some.inj h
            exact Wp.done rfl (by decide) H
          · rw [ew]
            obtain rfl := Option.some.inj h
            exact ⟨⟨rfl, rfl⟩, H⟩
        · replace h := fng c h
          show Wp (d + 11, 49, 155, 0, 0, [some (fA 27), _], []) (156, fjl L, M) Q
          refine Wp.run 3 (f' := (d + 11, 49, 160, 0, 0, [_, _], [fI 1, fA 1])) (h' := (156, fjl L, M)) rfl trivial ?_
          obtain ⟨y160, hy, h⟩ := fbd h
          refine Wp.call rfl (by decide) (s_X10_fail_ok (d := d + 3) hy ?_)
          obtain ⟨w160, ew, h⟩ | ⟨ew, h⟩ := fel_of h
          · rw [ew]
            show Wp (d + 11, 49, 163, 0, 0, [_, _], []) (156, fjl L, y160.2) Q
            obtain rfl := Option.some.inj h
            exact Wp.done rfl (by decide) H
          · rw [ew]
            obtain rfl := Option.some.inj h
            exact ⟨⟨rfl, rfl⟩, H⟩
theorem s_X3_readNameLine_fr {M : fM} {l1 : Int} {r : ((Unit ⊕ Unit) × fM)} (h : s_X3_readNameLine M l1 = some r) : fSame s_X3_readNameLine_mods M r.2 := by
  unfold s_X3_readNameLine at h
  by_cases c : l1 = 9
  · replace h := fps c h
    obtain ⟨y42, hy, h⟩ := fbd h
    have k42 := fs_trans (l := s_X3_readNameLine_mods) fs_refl (fs_mono (l := s_X3_mustHaveRoom_mods) (by decide) (s_X3_mustHaveRoom_fr hy))
    obtain ⟨w42, ew, h⟩ | ⟨ew, h⟩ := fel_of h
    · obtain ⟨y47, hy, h⟩ := fbd h
      have k47 := fs_trans (l := s_X3_readNameLine_mods) k42 (fs_mono (l := s_X3_takeNewName_mods) (by decide) (s_X3_takeNewName_fr hy))
      obtain ⟨w47, ew, h⟩ | ⟨ew, h⟩ := fel_of h
      · obtain ⟨y50, hy, h⟩ := fbd h
        have k50 := fs_trans (l := s_X3_readNameLine_mods) k47 (fs_mono (l := s_X3_readPiano_mods) (by decide) (s_X3_readPiano_fr hy))
        obtain ⟨w50, ew, h⟩ | ⟨ew, h⟩ := fel_of h
        · replace h := (fgd h).2
          obtain ⟨y63, hy, h⟩ := fbd h
          have k63 := fs_trans (l := s_X3_readNameLine_mods) k50 (fs_mono (l := s_X3_readMore_mods) (by decide) (s_X3_readMore_fr hy))
          obtain ⟨w63, ew, h⟩ | ⟨ew, h⟩ := fel_of h
          · obtain rfl := Option.some.inj h
            exact k63
          · obtain rfl := Option.some.inj h
            exact k63
        · obtain rfl := Option.some.inj h
          exact k50
      · obtain rfl := Option.some.inj h
        exact k47
    · obtain rfl := Option.some.inj h
      exact k42
  · replace h := fng c h
    by_cases c : l1 = 10
    · replace h := fps c h
      obtain ⟨y79, hy, h⟩ := fbd h
      have k79 := fs_trans (l := s_X3_readNameLine_mods) fs_refl (fs_mono (l := s_X3_mustHaveRoom_mods) (by decide) (s_X3_mustHaveRoom_fr hy))
      obtain ⟨w79, ew, h⟩ | ⟨ew, h⟩ := fel_of h
      · obtain ⟨y84, hy, h⟩ := fbd h
        have k84 := fs_trans (l := s_X3_readNameLine_mods) k79 (fs_mono (l := s_X3_takeNewName_mods) (by decide) (s_X3_takeNewName_fr hy))
        obtain ⟨w84, ew, h⟩ | ⟨ew, h⟩ := fel_of h
        · obtain ⟨y87, hy, h⟩ := fbd h
          have k87 := fs_trans (l := s_X3_readNameLine_mods) k84 (fs_mono (l := s_X3_readTuner_mods) (by decide) (s_X3_readTuner_fr hy))
          obtain ⟨w87, ew, h⟩ | ⟨ew, h⟩ := fel_of h
          · obtain rfl := Option.some.inj h
            exact k87
          · obtain rfl := Option.some.inj h
            exact k87
        · obtain rfl := Option.some.inj h
          exact k84
      · obtain rfl := Option.some.inj h
        exact k79
    · replace h := fng c h
      by_cases c : l1 = 11
      · replace h := fps c h
        obtain ⟨y103, hy, h⟩ := fbd h
        have k103 := fs_trans (l := s_X3_readNameLine_mods) fs_refl (fs_mono (l := s_X3_mustHaveRoom_mods) (by decide) (s_X3_mustHaveRoom_fr hy))
        obtain ⟨w103, ew, h⟩ | ⟨ew, h⟩ := fel_of h
        · obtain ⟨y121, hy, h⟩ := fbd h
          have k121 := fs_trans (l := s_X3_readNameLine_mods) k103 (fs_mono (l := s_X3_takeNewName_mods) (by decide) (s_X3_takeNewName_fr hy))
          obtain ⟨w121, ew, h⟩ | ⟨ew, h⟩ := fel_of h
          · replace h := (fgd h).2
            obtain ⟨y142, hy, h⟩ := fbd h
            have k142 := fs_trans (l := s_X3_readNameLine_mods) (fs_up (fs_up k121 (.inl (by decide))) (.inr (by decide))) (fs_mono (l := s_X10_take_mods) (by decide) (s_X10_take_fr hy))
            obtain rfl := Option.some.inj h
            exact k142
          · obtain rfl := Option.some.inj h
            exact k121
        · obtain rfl := Option.some.inj h
          exact k103
      · replace h := fng c h
        by_cases c : l1 = 12
        · replace h := fps c h
          obtain ⟨y149, hy, h⟩ := fbd h
          have k149 := fs_trans (l := s_X3_readNameLine_mods) fs_refl (fs_mono (l := s_X3_readTeach_mods) (by decide) (s_X3_readTeach_fr hy))
          obtain ⟨w149, ew, h⟩ | ⟨ew, h⟩ := fel_of h
          · obtain rfl := Option.some.inj h
            exact k149
          · obtain rfl := Option.some.inj h
            exact k149
        · replace h := fng c h
          obtain ⟨y160, hy, h⟩ := fbd h
          have k160 := fs_trans (l := s_X3_readNameLine_mods) fs_refl (fs_mono (l := s_X10_fail_mods) (by decide) (s_X10_fail_fr hy))
          obtain ⟨w160, ew, h⟩ | ⟨ew, h⟩ := fel_of h
          · obtain rfl := Option.some.inj h
            exact k160
          · obtain rfl := Option.some.inj h
            exact k160
