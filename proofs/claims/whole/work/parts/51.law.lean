/-! ===== the law: one call (printed by genlaw.py) ===== -/
abbrev s_X11_imageA_mods : List (Nat × Option Nat) := [(75, none), (76, some 13), (76, some 14), (76, some 15), (76, some 16), (76, some 17), (77, none), (78, none), (79, none), (80, none), (81, none), (82, none), (83, none), (84, none), (85, none), (86, none), (87, none), (88, none), (89, none), (90, some 8), (91, none), (92, none), (93, none), (94, none), (95, none), (96, none), (97, none), (98, none), (99, some 13), (99, some 14), (99, some 15), (99, some 16), (99, some 17), (100, none), (101, none), (102, none), (103, none), (104, none), (105, none), (106, none), (107, none), (108, none), (109, none), (110, none), (111, none), (112, none), (113, some 8), (114, none), (115, none), (116, none), (117, none), (118, none), (119, none), (120, none), (121, none)]
noncomputable def s_X11_imageA (M : fM) (l1 : Int) : Option (Int × fM) := if l1 = 0 then s_X11_image_0 M else if l1 = 1 then s_X11_image_1 M else (s_X11_image M l1).bind fun v => some (v, M)
theorem s_X11_imageA_ok {d L : Nat} {M : fM} {l1 : Int} {r : (Int × fM)} {Q : fO → fH → Prop} (h : s_X11_imageA M l1 = some r) (H : Q (oI r.1) (156, fjl L, r.2)) : Wp (d + 2, 187, 0, 0, 0, [some (fA 0), some (fI l1)], []) (156, fjl L, M) Q := by
  unfold s_X11_imageA at h
  by_cases c : l1 = 0
  · replace h := fps c h
    subst c
    exact s_X11_image_0_ok (d := d + 0) h H
  · replace h := fng c h
    by_cases c : l1 = 1
    · replace h := fps c h
      subst c
      exact s_X11_image_1_ok (d := d + 0) h H
    · obtain ⟨v, hv, h⟩ := fbd (fng c h)
      obtain rfl := Option.some.inj h
      exact s_X11_image_ok (d := d + 1) hv H
theorem s_X11_imageA_fr {M : fM} {l1 : Int} {r : (Int × fM)} (h : s_X11_imageA M l1 = some r) : fSame s_X11_imageA_mods M r.2 := by
  unfold s_X11_imageA at h
  by_cases c : l1 = 0
  · exact fs_mono (l := s_X11_image_0_mods) (by decide) (s_X11_image_0_fr (fps c h))
  · replace h := fng c h
    by_cases c : l1 = 1
    · exact fs_mono (l := s_X11_image_1_mods) (by decide) (s_X11_image_1_fr (fps c h))
    · obtain ⟨v, hv, h⟩ := fbd (fng c h)
      obtain rfl := Option.some.inj h
      exact fs_refl
abbrev s_X11_restoreA_mods : List (Nat × Option Nat) := [(4, some 13), (4, some 14), (4, some 15), (4, some 16), (4, some 17), (5, none), (6, none), (7, none), (8, none), (9, none), (10, none), (11, none), (12, none), (13, none), (14, none), (15, none), (16, none), (17, none), (18, some 8), (19, none), (20, none), (21, none), (22, none), (23, none), (24, none), (25, none), (26, none)]
noncomputable def s_X11_restoreA (M : fM) (l1 : Int) : Option (Int × fM) := if l1 = 0 then s_X11_restore_0 M else if l1 = 1 then s_X11_restore_1 M else (s_X11_restore M l1).bind fun v => some (v, M)
theorem s_X11_restoreA_ok {d L : Nat} {M : fM} {l1 : Int} {r : (Int × fM)} {Q : fO → fH → Prop} (h : s_X11_restoreA M l1 = some r) (H : Q (oI r.1) (156, fjl L, r.2)) : Wp (d + 2, 188, 0, 0, 0, [some (fA 0), some (fI l1)], []) (156, fjl L, M) Q := by
  unfold s_X11_restoreA at h
  by_cases c : l1 = 0
  · replace h := fps c h
    subst c
    exact s_X11_restore_0_ok (d := d + 0) h H
  · replace h := fng c h
    by_cases c : l1 = 1
    · replace h := fps c h
      subst c
      exact s_X11_restore_1_ok (d := d + 0) h H
    · obtain ⟨v, hv, h⟩ := fbd (fng c h)
      obtain rfl := Option.some.inj h
      exact s_X11_restore_ok (d := d + 1) hv H
theorem s_X11_restoreA_fr {M : fM} {l1 : Int} {r : (Int × fM)} (h : s_X11_restoreA M l1 = some r) : fSame s_X11_restoreA_mods M r.2 := by
  unfold s_X11_restoreA at h
  by_cases c : l1 = 0
  · exact fs_mono (l := s_X11_restore_0_mods) (by decide) (s_X11_restore_0_fr (fps c h))
  · replace h := fng c h
    by_cases c : l1 = 1
    · exact fs_mono (l := s_X11_restore_1_mods) (by decide) (s_X11_restore_1_fr (fps c h))
    · obtain ⟨v, hv, h⟩ := fbd (fng c h)
      obtain rfl := Option.some.inj h
      exact fs_refl
noncomputable def s_L_law_b23 (M : fM) (n0 l4 : Int) : Option ((Int × fM) ⊕ fM) :=
  if fin (n0 - 6) then
    if (n0 - 6) < l4 then
      some (.inr M)
    else
      if (0 ≤ l4 ∧ l4 < n0) then
        if (fand (M 1000 (l4).toNat) 63) = 0 then
          if fin (l4 + 1) ∧ (0 ≤ (l4 + 1) ∧ (l4 + 1) < n0) ∧ fin (l4 + 2) ∧ (0 ≤ (l4 + 2) ∧ (l4 + 2) < n0) ∧ fin (l4 + 3) ∧ (0 ≤ (l4 + 3) ∧ (l4 + 3) < n0) ∧ fin (l4 + 4) then
            if (0 ≤ (l4 + 4) ∧ (l4 + 4) < n0) ∧ fin (l4 + 5) ∧ (0 ≤ (l4 + 5) ∧ (l4 + 5) < n0) then
              (s_X11_feed M (M 1000 (l4 + 1).toNat) (M 1000 (l4 + 2).toNat) (M 1000 (l4 + 3).toNat) (M 1000 (l4 + 4).toNat) (M 1000 (l4 + 5).toNat)).bind fun y243 =>
                if fin (l4 + 1) ∧ (0 ≤ (l4 + 1) ∧ (l4 + 1) < n0) ∧ fin (l4 + 2) ∧ (0 ≤ (l4 + 2) ∧ (l4 + 2) < n0) ∧ fin (l4 + 3) ∧ (0 ≤ (l4 + 3) ∧ (l4 + 3) < n0) ∧ fin (l4 + 4) then
                  if (0 ≤ (l4 + 4) ∧ (l4 + 4) < n0) ∧ fin (l4 + 5) ∧ (0 ≤ (l4 + 5) ∧ (l4 + 5) < n0) then
                    (s_X12_feed y243.2 (y243.2 1000 (l4 + 1).toNat) (y243.2 1000 (l4 + 2).toNat) (y243.2 1000 (l4 + 3).toNat) (y243.2 1000 (l4 + 4).toNat) (y243.2 1000 (l4 + 5).toNat)).bind fun y277 =>
                      if y243.1 = y277.1 then
                        if fin (l4 + 6) then
                          some (.inl ((l4 + 6), y277.2))
                        else none
                      else
                        none
                  else none
                else none
            else none
          else none
        else
          if (fand (M 1000 (l4).toNat) 63) = 1 then
            if fin (l4 + 1) ∧ (0 ≤ (l4 + 1) ∧ (l4 + 1) < n0) then
              (s_X11_end M (M 1000 (l4 + 1).toNat)).bind fun y292 =>
                if fin (l4 + 1) ∧ (0 ≤ (l4 + 1) ∧ (l4 + 1) < n0) then
                  (s_X12_end y292.2 (y292.2 1000 (l4 + 1).toNat)).bind fun y302 =>
                    if y292.1 = y302.1 then
                      if fin (l4 + 6) then
                        some (.inl ((l4 + 6), y302.2))
                      else none
                    else
                      none
                else none
            else none
          else
            if (fand (M 1000 (l4).toNat) 63) = 2 then
              (s_X11_house M).bind fun y311 =>
                (s_X12_house y311.2).bind fun y315 =>
                  if y311.1 = y315.1 then
                    if fin (l4 + 6) then
                      some (.inl ((l4 + 6), y315.2))
                    else none
                  else
                    none
            else
              if (fand (M 1000 (l4).toNat) 63) = 3 then
                (s_X11_records M).bind fun y324 =>
                  (s_X12_records y324.2).bind fun y328 =>
                    if y324.1 = y328.1 then
                      if fin (l4 + 6) then
                        some (.inl ((l4 + 6), y328.2))
                      else none
                    else
                      none
              else
                if (fand (M 1000 (l4).toNat) 63) = 4 then
                  (s_X11_fault M).bind fun y337 =>
                    (s_X12_fault M).bind fun y341 =>
                      if y337 = y341.1 then
                        if fin (l4 + 6) then
                          some (.inl ((l4 + 6), y341.2))
                        else none
                      else
                        none
                else
                  if (fand (M 1000 (l4).toNat) 63) = 5 then
                    if fin (l4 + 1) ∧ (0 ≤ (l4 + 1) ∧ (l4 + 1) < n0) ∧ fin (l4 + 2) ∧ (0 ≤ (l4 + 2) ∧ (l4 + 2) < n0) then
                      (s_L_piano_0_155 M (M 1000 (l4 + 1).toNat) (M 1000 (l4 + 2).toNat)).bind fun y363 =>
                        if fin (l4 + 1) ∧ (0 ≤ (l4 + 1) ∧ (l4 + 1) < n0) ∧ fin (l4 + 2) ∧ (0 ≤ (l4 + 2) ∧ (l4 + 2) < n0) then
                          (s_X12_piano y363.2 (y363.2 1000 (l4 + 1).toNat) (y363.2 1000 (l4 + 2).toNat)).bind fun y381 =>
                            (s_X12_thrown y381.2).bind fun y387 =>
                              if y387 = y363.1 then
                                if ¬ y363.1 = 0 then
                                  if fin (l4 + 6) then
                                    some (.inl ((l4 + 6), y381.2))
                                  else none
                                else
                                  if (y381.2 155 0) = y381.1 then
                                    if fin (l4 + 6) then
                                      some (.inl ((l4 + 6), y381.2))
                                    else none
                                  else
                                    none
                              else
                                none
                        else none
                    else none
                  else
                    if (fand (M 1000 (l4).toNat) 63) = 6 then
                      if fin (l4 + 1) ∧ (0 ≤ (l4 + 1) ∧ (l4 + 1) < n0) ∧ fin (l4 + 2) ∧ (0 ≤ (l4 + 2) ∧ (l4 + 2) < n0) then
                        (s_X11_week M (M 1000 (l4 + 1).toNat) (M 1000 (l4 + 2).toNat)).bind fun y430 =>
                          if fin (l4 + 1) ∧ (0 ≤ (l4 + 1) ∧ (l4 + 1) < n0) ∧ fin (l4 + 2) ∧ (0 ≤ (l4 + 2) ∧ (l4 + 2) < n0) then
                            (s_X12_week M (M 1000 (l4 + 1).toNat) (M 1000 (l4 + 2).toNat)).bind fun y446 =>
                              if y430 = y446.1 then
                                if fin (l4 + 6) then
                                  some (.inl ((l4 + 6), y446.2))
                                else none
                              else
                                none
                          else none
                      else none
                    else
                      if (fand (M 1000 (l4).toNat) 63) = 7 then
                        if fin (l4 + 1) ∧ (0 ≤ (l4 + 1) ∧ (l4 + 1) < n0) ∧ fin (l4 + 2) ∧ (0 ≤ (l4 + 2) ∧ (l4 + 2) < n0) then
                          (s_X11_beats M (M 1000 (l4 + 1).toNat) (M 1000 (l4 + 2).toNat)).bind fun y467 =>
                            if fin (l4 + 1) ∧ (0 ≤ (l4 + 1) ∧ (l4 + 1) < n0) ∧ fin (l4 + 2) ∧ (0 ≤ (l4 + 2) ∧ (l4 + 2) < n0) then
                              (s_X12_beats M (M 1000 (l4 + 1).toNat) (M 1000 (l4 + 2).toNat)).bind fun y483 =>
                                if y467 = y483.1 then
                                  if fin (l4 + 6) then
                                    some (.inl ((l4 + 6), y483.2))
                                  else none
                                else
                                  none
                            else none
                        else none
                      else
                        if (fand (M 1000 (l4).toNat) 63) = 8 then
                          if fin (l4 + 1) ∧ (0 ≤ (l4 + 1) ∧ (l4 + 1) < n0) then
                            (s_X11_wolf M (M 1000 (l4 + 1).toNat)).bind fun y498 =>
                              if fin (l4 + 1) ∧ (0 ≤ (l4 + 1) ∧ (l4 + 1) < n0) then
                                (s_X12_wolf M (M 1000 (l4 + 1).toNat)).bind fun y508 =>
                                  if y498 = y508.1 then
                                    if fin (l4 + 6) then
                                      some (.inl ((l4 + 6), y508.2))
                                    else none
                                  else
                                    none
                              else none
                          else none
                        else
                          if (fand (M 1000 (l4).toNat) 63) = 9 then
                            if fin (l4 + 1) ∧ (0 ≤ (l4 + 1) ∧ (l4 + 1) < n0) ∧ fin (l4 + 2) ∧ (0 ≤ (l4 + 2) ∧ (l4 + 2) < n0) ∧ fin (l4 + 3) ∧ (0 ≤ (l4 + 3) ∧ (l4 + 3) < n0) ∧ fin (l4 + 4) then
                              if (0 ≤ (l4 + 4) ∧ (l4 + 4) < n0) then
                                (s_L_offset_0_155 M (M 1000 (l4 + 1).toNat) (M 1000 (l4 + 2).toNat) (M 1000 (l4 + 3).toNat) (M 1000 (l4 + 4).toNat)).bind fun y542 =>
                                  if fin (l4 + 1) ∧ (0 ≤ (l4 + 1) ∧ (l4 + 1) < n0) ∧ fin (l4 + 2) ∧ (0 ≤ (l4 + 2) ∧ (l4 + 2) < n0) ∧ fin (l4 + 3) ∧ (0 ≤ (l4 + 3) ∧ (l4 + 3) < n0) then
                                    if fin (l4 + 4) ∧ (0 ≤ (l4 + 4) ∧ (l4 + 4) < n0) then
                                      (s_X12_offset y542.2 (y542.2 1000 (l4 + 1).toNat) (y542.2 1000 (l4 + 2).toNat) (y542.2 1000 (l4 + 3).toNat) (y542.2 1000 (l4 + 4).toNat)).bind fun y572 =>
                                        (s_X12_thrown y572.2).bind fun y578 =>
                                          if y578 = y542.1 then
                                            if ¬ y542.1 = 0 then
                                              if fin (l4 + 6) then
                                                some (.inl ((l4 + 6), y572.2))
                                              else none
                                            else
                                              if (y572.2 155 0) = y572.1 then
                                                if fin (l4 + 6) then
                                                  some (.inl ((l4 + 6), y572.2))
                                                else none
                                              else
                                                none
                                          else
                                            none
                                    else none
                                  else none
                              else none
                            else none
                          else
                            if (fand (M 1000 (l4).toNat) 63) = 10 then
                              if fin (l4 + 1) ∧ (0 ≤ (l4 + 1) ∧ (l4 + 1) < n0) ∧ fin (l4 + 2) ∧ (0 ≤ (l4 + 2) ∧ (l4 + 2) < n0) ∧ fin (l4 + 3) ∧ (0 ≤ (l4 + 3) ∧ (l4 + 3) < n0) then
                                (s_X11_off M (M 1000 (l4 + 1).toNat) (M 1000 (l4 + 2).toNat) (M 1000 (l4 + 3).toNat)).bind fun y627 =>
                                  if fin (l4 + 1) ∧ (0 ≤ (l4 + 1) ∧ (l4 + 1) < n0) ∧ fin (l4 + 2) ∧ (0 ≤ (l4 + 2) ∧ (l4 + 2) < n0) ∧ fin (l4 + 3) ∧ (0 ≤ (l4 + 3) ∧ (l4 + 3) < n0) then
                                    (s_X12_off y627.2 (y627.2 1000 (l4 + 1).toNat) (y627.2 1000 (l4 + 2).toNat) (y627.2 1000 (l4 + 3).toNat)).bind fun y649 =>
                                      if y627.1 = y649.1 then
                                        if fin (l4 + 6) then
                                          some (.inl ((l4 + 6), y649.2))
                                        else none
                                      else
                                        none
                                  else none
                              else none
                            else
                              if (fand (M 1000 (l4).toNat) 63) = 11 then
                                if fin (l4 + 1) ∧ (0 ≤ (l4 + 1) ∧ (l4 + 1) < n0) ∧ fin (l4 + 2) ∧ (0 ≤ (l4 + 2) ∧ (l4 + 2) < n0) ∧ fin (l4 + 3) ∧ (0 ≤ (l4 + 3) ∧ (l4 + 3) < n0) ∧ fin (l4 + 4) then
                                  if (0 ≤ (l4 + 4) ∧ (l4 + 4) < n0) then
                                    (s_X11_due M (M 1000 (l4 + 1).toNat) (M 1000 (l4 + 2).toNat) (M 1000 (l4 + 3).toNat) (M 1000 (l4 + 4).toNat)).bind fun y682 =>
                                      if fin (l4 + 1) ∧ (0 ≤ (l4 + 1) ∧ (l4 + 1) < n0) ∧ fin (l4 + 2) ∧ (0 ≤ (l4 + 2) ∧ (l4 + 2) < n0) ∧ fin (l4 + 3) ∧ (0 ≤ (l4 + 3) ∧ (l4 + 3) < n0) ∧ fin (l4 + 4) then
                                        if (0 ≤ (l4 + 4) ∧ (l4 + 4) < n0) then
                                          (s_X12_due y682.2 (y682.2 1000 (l4 + 1).toNat) (y682.2 1000 (l4 + 2).toNat) (y682.2 1000 (l4 + 3).toNat) (y682.2 1000 (l4 + 4).toNat)).bind fun y710 =>
                                            if y682.1 = y710.1 then
                                              if fin (l4 + 6) then
                                                some (.inl ((l4 + 6), y710.2))
                                              else none
                                            else
                                              none
                                        else none
                                      else none
                                  else none
                                else none
                              else
                                if (fand (M 1000 (l4).toNat) 63) = 12 then
                                  if fin (l4 + 1) ∧ (0 ≤ (l4 + 1) ∧ (l4 + 1) < n0) ∧ fin (l4 + 2) ∧ (0 ≤ (l4 + 2) ∧ (l4 + 2) < n0) then
                                    (s_X11_slips M (M 1000 (l4 + 1).toNat) (M 1000 (l4 + 2).toNat)).bind fun y731 =>
                                      if fin (l4 + 1) ∧ (0 ≤ (l4 + 1) ∧ (l4 + 1) < n0) ∧ fin (l4 + 2) ∧ (0 ≤ (l4 + 2) ∧ (l4 + 2) < n0) then
                                        (s_X12_slips y731.2 (y731.2 1000 (l4 + 1).toNat) (y731.2 1000 (l4 + 2).toNat)).bind fun y747 =>
                                          if y731.1 = y747.1 then
                                            if fin (l4 + 6) then
                                              some (.inl ((l4 + 6), y747.2))
                                            else none
                                          else
                                            none
                                      else none
                                  else none
                                else
                                  if (fand (M 1000 (l4).toNat) 63) = 13 then
                                    if fin (l4 + 1) ∧ (0 ≤ (l4 + 1) ∧ (l4 + 1) < n0) then
                                      (s_L_slipped_0_155 M (M 1000 (l4 + 1).toNat)).bind fun y763 =>
                                        if fin (l4 + 1) ∧ (0 ≤ (l4 + 1) ∧ (l4 + 1) < n0) then
                                          (s_X12_slipped y763.2 (y763.2 1000 (l4 + 1).toNat)).bind fun y775 =>
                                            (s_X12_thrown y775.2).bind fun y781 =>
                                              if y781 = y763.1 then
                                                if ¬ y763.1 = 0 then
                                                  if fin (l4 + 6) then
                                                    some (.inl ((l4 + 6), y775.2))
                                                  else none
                                                else
                                                  if (y775.2 155 0) = y775.1 then
                                                    if fin (l4 + 6) then
                                                      some (.inl ((l4 + 6), y775.2))
                                                    else none
                                                  else
                                                    none
                                              else
                                                none
                                        else none
                                    else none
                                  else
                                    if (fand (M 1000 (l4).toNat) 63) = 14 then
                                      if fin (l4 + 1) ∧ (0 ≤ (l4 + 1) ∧ (l4 + 1) < n0) ∧ fin (l4 + 2) ∧ (0 ≤ (l4 + 2) ∧ (l4 + 2) < n0) then
                                        (s_L_stove_0_155 M (M 1000 (l4 + 1).toNat) (M 1000 (l4 + 2).toNat)).bind fun y825 =>
                                          if fin (l4 + 1) ∧ (0 ≤ (l4 + 1) ∧ (l4 + 1) < n0) ∧ fin (l4 + 2) ∧ (0 ≤ (l4 + 2) ∧ (l4 + 2) < n0) then
                                            (s_X12_stove y825.2 (y825.2 1000 (l4 + 1).toNat) (y825.2 1000 (l4 + 2).toNat)).bind fun y843 =>
                                              (s_X12_thrown y843.2).bind fun y849 =>
                                                if y849 = y825.1 then
                                                  if ¬ y825.1 = 0 then
                                                    if fin (l4 + 6) then
                                                      some (.inl ((l4 + 6), y843.2))
                                                    else none
                                                  else
                                                    if (y843.2 155 0) = y843.1 then
                                                      if fin (l4 + 6) then
                                                        some (.inl ((l4 + 6), y843.2))
                                                      else none
                                                    else
                                                      none
                                                else
                                                  none
                                          else none
                                      else none
                                    else
                                      if (fand (M 1000 (l4).toNat) 63) = 15 then
                                        if fin (l4 + 1) ∧ (0 ≤ (l4 + 1) ∧ (l4 + 1) < n0) ∧ fin (l4 + 2) ∧ (0 ≤ (l4 + 2) ∧ (l4 + 2) < n0) ∧ fin (l4 + 3) ∧ (0 ≤ (l4 + 3) ∧ (l4 + 3) < n0) ∧ fin (l4 + 4) then
                                          if (0 ≤ (l4 + 4) ∧ (l4 + 4) < n0) then
                                            (s_L_lean_0_155 M (M 1000 (l4 + 1).toNat) (M 1000 (l4 + 2).toNat) (M 1000 (l4 + 3).toNat) (M 1000 (l4 + 4).toNat)).bind fun y904 =>
                                              if fin (l4 + 1) ∧ (0 ≤ (l4 + 1) ∧ (l4 + 1) < n0) ∧ fin (l4 + 2) ∧ (0 ≤ (l4 + 2) ∧ (l4 + 2) < n0) ∧ fin (l4 + 3) ∧ (0 ≤ (l4 + 3) ∧ (l4 + 3) < n0) then
                                                if fin (l4 + 4) ∧ (0 ≤ (l4 + 4) ∧ (l4 + 4) < n0) then
                                                  (s_X12_lean y904.2 (y904.2 1000 (l4 + 1).toNat) (y904.2 1000 (l4 + 2).toNat) (y904.2 1000 (l4 + 3).toNat) (y904.2 1000 (l4 + 4).toNat)).bind fun y934 =>
                                                    (s_X12_thrown y934.2).bind fun y940 =>
                                                      if y940 = y904.1 then
                                                        if ¬ y904.1 = 0 then
                                                          if fin (l4 + 6) then
                                                            some (.inl ((l4 + 6), y934.2))
                                                          else none
                                                        else
                                                          if (y934.2 155 0) = y934.1 then
                                                            if fin (l4 + 6) then
                                                              some (.inl ((l4 + 6), y934.2))
                                                            else none
                                                          else
                                                            none
                                                      else
                                                        none
                                                else none
                                              else none
                                          else none
                                        else none
                                      else
                                        if (fand (M 1000 (l4).toNat) 63) = 16 then
                                          if fin (l4 + 1) ∧ (0 ≤ (l4 + 1) ∧ (l4 + 1) < n0) then
                                            (s_X11_batch M (M 1000 (l4 + 1).toNat)).bind fun y977 =>
                                              if fin (l4 + 1) ∧ (0 ≤ (l4 + 1) ∧ (l4 + 1) < n0) then
                                                (s_X12_batch y977.2 (y977.2 1000 (l4 + 1).toNat)).bind fun y987 =>
                                                  if y977.1 = y987.1 then
                                                    if fin (l4 + 6) then
                                                      some (.inl ((l4 + 6), y987.2))
                                                    else none
                                                  else
                                                    none
                                              else none
                                          else none
                                        else
                                          if (fand (M 1000 (l4).toNat) 63) = 17 then
                                            if fin (l4 + 1) ∧ (0 ≤ (l4 + 1) ∧ (l4 + 1) < n0) ∧ fin (l4 + 2) ∧ (0 ≤ (l4 + 2) ∧ (l4 + 2) < n0) then
                                              (s_X11_cracked M (M 1000 (l4 + 1).toNat) (M 1000 (l4 + 2).toNat)).bind fun y1008 =>
                                                if fin (l4 + 1) ∧ (0 ≤ (l4 + 1) ∧ (l4 + 1) < n0) ∧ fin (l4 + 2) ∧ (0 ≤ (l4 + 2) ∧ (l4 + 2) < n0) then
                                                  (s_X12_cracked y1008.2 (y1008.2 1000 (l4 + 1).toNat) (y1008.2 1000 (l4 + 2).toNat)).bind fun y1024 =>
                                                    if y1008.1 = y1024.1 then
                                                      if fin (l4 + 6) then
                                                        some (.inl ((l4 + 6), y1024.2))
                                                      else none
                                                    else
                                                      none
                                                else none
                                            else none
                                          else
                                            if (fand (M 1000 (l4).toNat) 63) = 18 then
                                              if fin (l4 + 1) ∧ (0 ≤ (l4 + 1) ∧ (l4 + 1) < n0) ∧ fin (l4 + 2) ∧ (0 ≤ (l4 + 2) ∧ (l4 + 2) < n0) then
                                                (s_X11_weight M (M 1000 (l4 + 1).toNat) (M 1000 (l4 + 2).toNat)).bind fun y1045 =>
                                                  if fin (l4 + 1) ∧ (0 ≤ (l4 + 1) ∧ (l4 + 1) < n0) ∧ fin (l4 + 2) ∧ (0 ≤ (l4 + 2) ∧ (l4 + 2) < n0) then
                                                    (s_X12_weight y1045.2 (y1045.2 1000 (l4 + 1).toNat) (y1045.2 1000 (l4 + 2).toNat)).bind fun y1061 =>
                                                      if y1045.1 = y1061.1 then
                                                        if fin (l4 + 6) then
                                                          some (.inl ((l4 + 6), y1061.2))
                                                        else none
                                                      else
                                                        none
                                                  else none
                                              else none
                                            else
                                              if (fand (M 1000 (l4).toNat) 63) = 19 then
                                                if fin (l4 + 1) ∧ (0 ≤ (l4 + 1) ∧ (l4 + 1) < n0) ∧ fin (l4 + 2) ∧ (0 ≤ (l4 + 2) ∧ (l4 + 2) < n0) then
                                                  (s_X11_round M (M 1000 (l4 + 1).toNat) (M 1000 (l4 + 2).toNat)).bind fun y1082 =>
                                                    if fin (l4 + 1) ∧ (0 ≤ (l4 + 1) ∧ (l4 + 1) < n0) ∧ fin (l4 + 2) ∧ (0 ≤ (l4 + 2) ∧ (l4 + 2) < n0) then
                                                      (s_X12_round y1082.2 (y1082.2 1000 (l4 + 1).toNat) (y1082.2 1000 (l4 + 2).toNat)).bind fun y1098 =>
                                                        if y1082.1 = y1098.1 then
                                                          if fin (l4 + 6) then
                                                            some (.inl ((l4 + 6), y1098.2))
                                                          else none
                                                        else
                                                          none
                                                    else none
                                                else none
                                              else
                                                if (fand (M 1000 (l4).toNat) 63) = 20 then
                                                  if fin (l4 + 1) ∧ (0 ≤ (l4 + 1) ∧ (l4 + 1) < n0) then
                                                    (s_X11_roundAt M (M 1000 (l4 + 1).toNat)).bind fun y1113 =>
                                                      if fin (l4 + 1) ∧ (0 ≤ (l4 + 1) ∧ (l4 + 1) < n0) then
                                                        (s_X12_roundAt M (M 1000 (l4 + 1).toNat)).bind fun y1123 =>
                                                          if y1113 = y1123.1 then
                                                            if fin (l4 + 6) then
                                                              some (.inl ((l4 + 6), y1123.2))
                                                            else none
                                                          else
                                                            none
                                                      else none
                                                  else none
                                                else
                                                  if (fand (M 1000 (l4).toNat) 63) = 21 then
                                                    (s_X11_home M).bind fun y1132 =>
                                                      (s_X12_home M).bind fun y1136 =>
                                                        if y1132 = y1136.1 then
                                                          if fin (l4 + 6) then
                                                            some (.inl ((l4 + 6), y1136.2))
                                                          else none
                                                        else
                                                          none
                                                  else
                                                    if (fand (M 1000 (l4).toNat) 63) = 22 then
                                                      if fin (l4 + 1) ∧ (0 ≤ (l4 + 1) ∧ (l4 + 1) < n0) ∧ fin (l4 + 2) ∧ (0 ≤ (l4 + 2) ∧ (l4 + 2) < n0) then
                                                        (s_X11_walked M (M 1000 (l4 + 1).toNat) (M 1000 (l4 + 2).toNat)).bind fun y1157 =>
                                                          if fin (l4 + 1) ∧ (0 ≤ (l4 + 1) ∧ (l4 + 1) < n0) ∧ fin (l4 + 2) ∧ (0 ≤ (l4 + 2) ∧ (l4 + 2) < n0) then
                                                            (s_X12_walked y1157.2 (y1157.2 1000 (l4 + 1).toNat) (y1157.2 1000 (l4 + 2).toNat)).bind fun y1173 =>
                                                              if y1157.1 = y1173.1 then
                                                                if fin (l4 + 6) then
                                                                  some (.inl ((l4 + 6), y1173.2))
                                                                else none
                                                              else
                                                                none
                                                          else none
                                                      else none
                                                    else
                                                      if (fand (M 1000 (l4).toNat) 63) = 23 then
                                                        if fin (l4 + 1) ∧ (0 ≤ (l4 + 1) ∧ (l4 + 1) < n0) ∧ fin (l4 + 2) ∧ (0 ≤ (l4 + 2) ∧ (l4 + 2) < n0) ∧ fin (l4 + 3) ∧ (0 ≤ (l4 + 3) ∧ (l4 + 3) < n0) then
                                                          (s_X11_two M (M 1000 (l4 + 1).toNat) (M 1000 (l4 + 2).toNat) (M 1000 (l4 + 3).toNat)).bind fun y1200 =>
                                                            if fin (l4 + 1) ∧ (0 ≤ (l4 + 1) ∧ (l4 + 1) < n0) ∧ fin (l4 + 2) ∧ (0 ≤ (l4 + 2) ∧ (l4 + 2) < n0) ∧ fin (l4 + 3) ∧ (0 ≤ (l4 + 3) ∧ (l4 + 3) < n0) then
                                                              (s_X12_two y1200.2 (y1200.2 1000 (l4 + 1).toNat) (y1200.2 1000 (l4 + 2).toNat) (y1200.2 1000 (l4 + 3).toNat)).bind fun y1222 =>
                                                                if y1200.1 = y1222.1 then
                                                                  if fin (l4 + 6) then
                                                                    some (.inl ((l4 + 6), y1222.2))
                                                                  else none
                                                                else
                                                                  none
                                                            else none
                                                        else none
                                                      else
                                                        if (fand (M 1000 (l4).toNat) 63) = 24 then
                                                          if fin (l4 + 1) ∧ (0 ≤ (l4 + 1) ∧ (l4 + 1) < n0) then
                                                            (s_X11_festival M (M 1000 (l4 + 1).toNat)).bind fun y1237 =>
                                                              if fin (l4 + 1) ∧ (0 ≤ (l4 + 1) ∧ (l4 + 1) < n0) then
                                                                (s_X12_festival y1237.2 (y1237.2 1000 (l4 + 1).toNat)).bind fun y1247 =>
                                                                  if y1237.1 = y1247.1 then
                                                                    if fin (l4 + 6) then
                                                                      some (.inl ((l4 + 6), y1247.2))
                                                                    else none
                                                                  else
                                                                    none
                                                              else none
                                                          else none
                                                        else
                                                          if (fand (M 1000 (l4).toNat) 63) = 25 then
                                                            if fin (l4 + 1) ∧ (0 ≤ (l4 + 1) ∧ (l4 + 1) < n0) ∧ fin (l4 + 2) ∧ (0 ≤ (l4 + 2) ∧ (l4 + 2) < n0) then
                                                              (s_X11_unready M (M 1000 (l4 + 1).toNat) (M 1000 (l4 + 2).toNat)).bind fun y1268 =>
                                                                if fin (l4 + 1) ∧ (0 ≤ (l4 + 1) ∧ (l4 + 1) < n0) ∧ fin (l4 + 2) ∧ (0 ≤ (l4 + 2) ∧ (l4 + 2) < n0) then
                                                                  (s_X12_unready y1268.2 (y1268.2 1000 (l4 + 1).toNat) (y1268.2 1000 (l4 + 2).toNat)).bind fun y1284 =>
                                                                    if y1268.1 = y1284.1 then
                                                                      if fin (l4 + 6) then
                                                                        some (.inl ((l4 + 6), y1284.2))
                                                                      else none
                                                                    else
                                                                      none
                                                                else none
                                                            else none
                                                          else
                                                            if (fand (M 1000 (l4).toNat) 63) = 26 then
                                                              if fin (l4 + 1) ∧ (0 ≤ (l4 + 1) ∧ (l4 + 1) < n0) ∧ fin (l4 + 2) ∧ (0 ≤ (l4 + 2) ∧ (l4 + 2) < n0) ∧ fin (l4 + 3) ∧ (0 ≤ (l4 + 3) ∧ (l4 + 3) < n0) then
                                                                (s_X11_whose M (M 1000 (l4 + 1).toNat) (M 1000 (l4 + 2).toNat) (M 1000 (l4 + 3).toNat)).bind fun y1311 =>
                                                                  if fin (l4 + 1) ∧ (0 ≤ (l4 + 1) ∧ (l4 + 1) < n0) ∧ fin (l4 + 2) ∧ (0 ≤ (l4 + 2) ∧ (l4 + 2) < n0) ∧ fin (l4 + 3) ∧ (0 ≤ (l4 + 3) ∧ (l4 + 3) < n0) then
                                                                    (s_X12_whose y1311.2 (y1311.2 1000 (l4 + 1).toNat) (y1311.2 1000 (l4 + 2).toNat) (y1311.2 1000 (l4 + 3).toNat)).bind fun y1333 =>
                                                                      if y1311.1 = y1333.1 then
                                                                        if fin (l4 + 6) then
                                                                          some (.inl ((l4 + 6), y1333.2))
                                                                        else none
                                                                      else
                                                                        none
                                                                  else none
                                                              else none
                                                            else
                                                              if (fand (M 1000 (l4).toNat) 63) = 27 then
                                                                if fin (l4 + 1) ∧ (0 ≤ (l4 + 1) ∧ (l4 + 1) < n0) ∧ fin (l4 + 2) ∧ (0 ≤ (l4 + 2) ∧ (l4 + 2) < n0) then
                                                                  (s_X11_fee M (M 1000 (l4 + 1).toNat) (M 1000 (l4 + 2).toNat)).bind fun y1354 =>
                                                                    if fin (l4 + 1) ∧ (0 ≤ (l4 + 1) ∧ (l4 + 1) < n0) ∧ fin (l4 + 2) ∧ (0 ≤ (l4 + 2) ∧ (l4 + 2) < n0) then
                                                                      (s_X12_fee M (M 1000 (l4 + 1).toNat) (M 1000 (l4 + 2).toNat)).bind fun y1370 =>
                                                                        if y1354 = y1370.1 then
                                                                          if fin (l4 + 6) then
                                                                            some (.inl ((l4 + 6), y1370.2))
                                                                          else none
                                                                        else
                                                                          none
                                                                    else none
                                                                else none
                                                              else
                                                                if (fand (M 1000 (l4).toNat) 63) = 28 then
                                                                  if fin (l4 + 1) ∧ (0 ≤ (l4 + 1) ∧ (l4 + 1) < n0) ∧ fin (l4 + 2) ∧ (0 ≤ (l4 + 2) ∧ (l4 + 2) < n0) ∧ fin (l4 + 3) ∧ (0 ≤ (l4 + 3) ∧ (l4 + 3) < n0) then
                                                                    (s_L_owed_0_155 M (M 1000 (l4 + 1).toNat) (M 1000 (l4 + 2).toNat) (M 1000 (l4 + 3).toNat)).bind fun y1398 =>
                                                                      if fin (l4 + 1) ∧ (0 ≤ (l4 + 1) ∧ (l4 + 1) < n0) ∧ fin (l4 + 2) ∧ (0 ≤ (l4 + 2) ∧ (l4 + 2) < n0) ∧ fin (l4 + 3) ∧ (0 ≤ (l4 + 3) ∧ (l4 + 3) < n0) then
                                                                        (s_X12_owed y1398.2 (y1398.2 1000 (l4 + 1).toNat) (y1398.2 1000 (l4 + 2).toNat) (y1398.2 1000 (l4 + 3).toNat)).bind fun y1422 =>
                                                                          (s_X12_thrown y1422.2).bind fun y1428 =>
                                                                            if y1428 = y1398.1 then
                                                                              if ¬ y1398.1 = 0 then
                                                                                if fin (l4 + 6) then
                                                                                  some (.inl ((l4 + 6), y1422.2))
                                                                                else none
                                                                              else
                                                                                if (y1422.2 155 0) = y1422.1 then
                                                                                  if fin (l4 + 6) then
                                                                                    some (.inl ((l4 + 6), y1422.2))
                                                                                  else none
                                                                                else
                                                                                  none
                                                                            else
                                                                              none
                                                                      else none
                                                                  else none
                                                                else
                                                                  if (fand (M 1000 (l4).toNat) 63) = 29 then
                                                                    if fin (l4 + 1) ∧ (0 ≤ (l4 + 1) ∧ (l4 + 1) < n0) ∧ fin (l4 + 2) ∧ (0 ≤ (l4 + 2) ∧ (l4 + 2) < n0) ∧ fin (l4 + 3) ∧ (0 ≤ (l4 + 3) ∧ (l4 + 3) < n0) then
                                                                      (s_X11_free M (M 1000 (l4 + 1).toNat) (M 1000 (l4 + 2).toNat) (M 1000 (l4 + 3).toNat)).bind fun y1477 =>
                                                                        if fin (l4 + 1) ∧ (0 ≤ (l4 + 1) ∧ (l4 + 1) < n0) ∧ fin (l4 + 2) ∧ (0 ≤ (l4 + 2) ∧ (l4 + 2) < n0) ∧ fin (l4 + 3) ∧ (0 ≤ (l4 + 3) ∧ (l4 + 3) < n0) then
                                                                          (s_X12_free M (M 1000 (l4 + 1).toNat) (M 1000 (l4 + 2).toNat) (M 1000 (l4 + 3).toNat)).bind fun y1499 =>
                                                                            if y1477 = y1499.1 then
                                                                              if fin (l4 + 6) then
                                                                                some (.inl ((l4 + 6), y1499.2))
                                                                              else none
                                                                            else
                                                                              none
                                                                        else none
                                                                    else none
                                                                  else
                                                                    if (fand (M 1000 (l4).toNat) 63) = 30 then
                                                                      if fin (l4 + 1) ∧ (0 ≤ (l4 + 1) ∧ (l4 + 1) < n0) ∧ fin (l4 + 2) ∧ (0 ≤ (l4 + 2) ∧ (l4 + 2) < n0) ∧ fin (l4 + 3) ∧ (0 ≤ (l4 + 3) ∧ (l4 + 3) < n0) then
                                                                        (s_X11_tunings M (M 1000 (l4 + 1).toNat) (M 1000 (l4 + 2).toNat) (M 1000 (l4 + 3).toNat)).bind fun y1526 =>
                                                                          if fin (l4 + 1) ∧ (0 ≤ (l4 + 1) ∧ (l4 + 1) < n0) ∧ fin (l4 + 2) ∧ (0 ≤ (l4 + 2) ∧ (l4 + 2) < n0) ∧ fin (l4 + 3) ∧ (0 ≤ (l4 + 3) ∧ (l4 + 3) < n0) then
                                                                            (s_X12_tunings y1526.2 (y1526.2 1000 (l4 + 1).toNat) (y1526.2 1000 (l4 + 2).toNat) (y1526.2 1000 (l4 + 3).toNat)).bind fun y1548 =>
                                                                              if y1526.1 = y1548.1 then
                                                                                if fin (l4 + 6) then
                                                                                  some (.inl ((l4 + 6), y1548.2))
                                                                                else none
                                                                              else
                                                                                none
                                                                          else none
                                                                      else none
                                                                    else
                                                                      if (fand (M 1000 (l4).toNat) 63) = 31 then
                                                                        if fin (l4 + 1) ∧ (0 ≤ (l4 + 1) ∧ (l4 + 1) < n0) ∧ fin (l4 + 2) ∧ (0 ≤ (l4 + 2) ∧ (l4 + 2) < n0) ∧ fin (l4 + 3) ∧ (0 ≤ (l4 + 3) ∧ (l4 + 3) < n0) then
                                                                          (s_X11_past M (M 1000 (l4 + 1).toNat) (M 1000 (l4 + 2).toNat) (M 1000 (l4 + 3).toNat)).bind fun y1575 =>
                                                                            if fin (l4 + 1) ∧ (0 ≤ (l4 + 1) ∧ (l4 + 1) < n0) ∧ fin (l4 + 2) ∧ (0 ≤ (l4 + 2) ∧ (l4 + 2) < n0) ∧ fin (l4 + 3) ∧ (0 ≤ (l4 + 3) ∧ (l4 + 3) < n0) then
                                                                              (s_X12_past y1575.2 (y1575.2 1000 (l4 + 1).toNat) (y1575.2 1000 (l4 + 2).toNat) (y1575.2 1000 (l4 + 3).toNat)).bind fun y1597 =>
                                                                                if y1575.1 = y1597.1 then
                                                                                  if fin (l4 + 6) then
                                                                                    some (.inl ((l4 + 6), y1597.2))
                                                                                  else none
                                                                                else
                                                                                  none
                                                                            else none
                                                                        else none
                                                                      else
                                                                        if (fand (M 1000 (l4).toNat) 63) = 32 then
                                                                          if fin (l4 + 1) ∧ (0 ≤ (l4 + 1) ∧ (l4 + 1) < n0) then
                                                                            (s_X11_bag M (M 1000 (l4 + 1).toNat)).bind fun y1612 =>
                                                                              if fin (l4 + 1) ∧ (0 ≤ (l4 + 1) ∧ (l4 + 1) < n0) then
                                                                                (s_X12_bag y1612.2 (y1612.2 1000 (l4 + 1).toNat)).bind fun y1622 =>
                                                                                  if y1612.1 = y1622.1 then
                                                                                    if fin (l4 + 6) then
                                                                                      some (.inl ((l4 + 6), y1622.2))
                                                                                    else none
                                                                                  else
                                                                                    none
                                                                              else none
                                                                          else none
                                                                        else
                                                                          if (fand (M 1000 (l4).toNat) 63) = 33 then
                                                                            (s_X11_chance M).bind fun y1631 =>
                                                                              (s_X12_chance M).bind fun y1635 =>
                                                                                if y1631 = y1635.1 then
                                                                                  if fin (l4 + 6) then
                                                                                    some (.inl ((l4 + 6), y1635.2))
                                                                                  else none
                                                                                else
                                                                                  none
                                                                          else
                                                                            if (fand (M 1000 (l4).toNat) 63) = 34 then
                                                                              (s_X11_pupils M).bind fun y1645 =>
                                                                                (s_X12_pupils y1645.2).bind fun y1649 =>
                                                                                  if y1645.1 = y1649.1 then
                                                                                    if fin (l4 + 6) then
                                                                                      some (.inl ((l4 + 6), y1649.2))
                                                                                    else none
                                                                                  else
                                                                                    none
                                                                            else
                                                                              if (fand (M 1000 (l4).toNat) 63) = 35 then
                                                                                if fin (l4 + 1) ∧ (0 ≤ (l4 + 1) ∧ (l4 + 1) < n0) then
                                                                                  (s_X11_pupilOf M (M 1000 (l4 + 1).toNat)).bind fun y1664 =>
                                                                                    if fin (l4 + 1) ∧ (0 ≤ (l4 + 1) ∧ (l4 + 1) < n0) then
                                                                                      (s_X12_pupilOf M (M 1000 (l4 + 1).toNat)).bind fun y1674 =>
                                                                                        if y1664 = y1674.1 then
                                                                                          if fin (l4 + 6) then
                                                                                            some (.inl ((l4 + 6), y1674.2))
                                                                                          else none
                                                                                        else
                                                                                          none
                                                                                    else none
                                                                                else none
                                                                              else
                                                                                if (fand (M 1000 (l4).toNat) 63) = 36 then
                                                                                  if fin (l4 + 1) ∧ (0 ≤ (l4 + 1) ∧ (l4 + 1) < n0) then
                                                                                    (s_X11_imageA M (M 1000 (l4 + 1).toNat)).bind fun y1689 =>
                                                                                      if fin (l4 + 1) ∧ (0 ≤ (l4 + 1) ∧ (l4 + 1) < n0) then
                                                                                        (s_X12_image y1689.2 (y1689.2 1000 (l4 + 1).toNat)).bind fun y1699 =>
                                                                                          if y1689.1 = y1699.1 then
                                                                                            if fin (l4 + 6) then
                                                                                              some (.inl ((l4 + 6), y1699.2))
                                                                                            else none
                                                                                          else
                                                                                            none
                                                                                      else none
                                                                                  else none
                                                                                else
                                                                                  if (fand (M 1000 (l4).toNat) 63) = 37 then
                                                                                    if fin (l4 + 1) ∧ (0 ≤ (l4 + 1) ∧ (l4 + 1) < n0) then
                                                                                      (s_X11_restoreA M (M 1000 (l4 + 1).toNat)).bind fun y1714 =>
                                                                                        if fin (l4 + 1) ∧ (0 ≤ (l4 + 1) ∧ (l4 + 1) < n0) then
                                                                                          (s_X12_restore y1714.2 (y1714.2 1000 (l4 + 1).toNat)).bind fun y1724 =>
                                                                                            if y1714.1 = y1724.1 then
                                                                                              if fin (l4 + 6) then
                                                                                                some (.inl ((l4 + 6), y1724.2))
                                                                                              else none
                                                                                            else
                                                                                              none
                                                                                        else none
                                                                                    else none
                                                                                  else
                                                                                    if (fand (M 1000 (l4).toNat) 63) = 38 then
                                                                                      if fin (l4 + 1) ∧ (0 ≤ (l4 + 1) ∧ (l4 + 1) < n0) then
                                                                                        (s_X11_count M (M 1000 (l4 + 1).toNat)).bind fun y1739 =>
                                                                                          if fin (l4 + 1) ∧ (0 ≤ (l4 + 1) ∧ (l4 + 1) < n0) then
                                                                                            (s_X12_count M (M 1000 (l4 + 1).toNat)).bind fun y1749 =>
                                                                                              if y1739 = y1749.1 then
                                                                                                if fin (l4 + 6) then
                                                                                                  some (.inl ((l4 + 6), y1749.2))
                                                                                                else none
                                                                                              else
                                                                                                none
                                                                                          else none
                                                                                      else none
                                                                                    else
                                                                                      if fin (l4 + 6) then
                                                                                        some (.inl ((l4 + 6), M))
                                                                                      else none
      else none
  else none
theorem s_L_law_b23_ok {d L cu su : Nat} (hcu : cu + 1 ≤ 601023 ∧ su + 6 ≤ 7293028) {M : fM} {l4 : Int} {o5 o6 o7 : Option fV} {r : ((Int × fM) ⊕ fM)} {Q : fO → fH → Prop} (h : s_L_law_b23 M (L : Int) l4 = some r) (hC : ∀ (l4' : Int) (M' : fM) (o5' o6' o7' : Option fV) (cu' su' : Nat), cu' ≤ cu + 1 → su' ≤ su + 6 → r = .inl (l4', M') → Wp (d + 14, 322, 23, cu', su', [some (fA 1000), some (fA 0), some (fA 122), some (fA 155), some (fI l4'), o5', o6', o7'], []) (156, fjl L, M') Q) (hE : ∀ (e : fM) (o0' o1' o2' o3' o4' o5' o6' o7' : Option fV), r = .inr e → Wp (d + 14, 322, 1763, cu, su, [o0', o1', o2', o3', o4', o5', o6', o7'], []) (156, fjl L, e) Q) : Wp (d + 14, 322, 23, cu, su, [some (fA 1000), some (fA 0), some (fA 122), some (fA 155), some (fI l4), o5, o6, o7], []) (156, fjl L, M) Q := by
  unfold s_L_law_b23 at h
  obtain ⟨g0, h⟩ := fgd h
  refine Wp.run 5 (f' := (d + 14, 322, 30, cu, su, [some (fA 1000), some (fA 0), some (fA 122), some (fA 155), some (fI l4), _, _, _], [fI (fw ((L : Int) - 6)), fI l4])) (h' := (156, fjl L, M)) rfl trivial ?_
  rw [fw_id g0]
  refine Wp.br rfl (fun (c : ((L : Int) - 6) < l4) => ?_) (fun (c : ¬ (((L : Int) - 6) < l4)) => ?_)
  · replace h := fps c h
    exact hE _ _ _ _ _ _ _ _ _ (Option.some.inj h).symm
  · replace h := fng c h
    obtain ⟨g0, h⟩ := fgd h
    refine Wp.run 5 (P := [0 ≤ l4 ∧ l4 < (L : Int)]) (f' := (d + 14, 322, 40, cu, su, [some (fA 1000), some (fA 0), some (fA 122), some (fA 155), some (fI l4), _, _, _], [fI (fand (M 1000 (l4).toNat) 63)])) (h' := (156, fjl L, M)) rfl ?_ ?_
    · exact g0
    refine Wp.sw rfl ?_
    refine ⟨fun (c : (fand (M 1000 (l4).toNat) 63) = 0) => ?_, fun (c : ¬ ((fand (M 1000 (l4).toNat) 63) = 0)) => ?_⟩
    · replace h := fps c h
      show Wp (d + 14, 322, 212, cu, su, [some (fA 1000), some (fA 0), some (fA 122), some (fA 155), some (fI l4), _, _, _], []) (156, fjl L, M) Q
      obtain ⟨⟨g0, g1, g2, g3, g4, g5, g6⟩, h⟩ := fgd h
      refine Wp.run 20 (P := [0 ≤ (fw (l4 + 1)) ∧ (fw (l4 + 1)) < (L : Int), 0 ≤ (fw (l4 + 2)) ∧ (fw (l4 + 2)) < (L : Int), 0 ≤ (fw (l4 + 3)) ∧ (fw (l4 + 3)) < (L : Int)]) (f' := (d + 14, 322, 236, cu, su, [some (fA 1000), some (fA 0), some (fA 122), some (fA 155), some (fI l4), _, _, _], [fI (fw (l4 + 4)), fA 1000, fI (M 1000 (fw (l4 + 3)).toNat), fI (M 1000 (fw (l4 + 2)).toNat), fI (M 1000 (fw (l4 + 1)).toNat), fA 0])) (h' := (156, fjl L, M)) rfl ?_ ?_
      · rw [fw_id g0, fw_id g2, fw_id g4]; exact ⟨g1, g3, g5⟩
      rw [fw_id g0, fw_id g2, fw_id g4, fw_id g6]
      obtain ⟨⟨g0, g1, g2⟩, h⟩ := fgd h
      refine Wp.run 6 (P := [0 ≤ (l4 + 4) ∧ (l4 + 4) < (L : Int), 0 ≤ (fw (l4 + 5)) ∧ (fw (l4 + 5)) < (L : Int)]) (f' := (d + 14, 322, 243, cu, su, [some (fA 1000), some (fA 0), some (fA 122), some (fA 155), some (fI l4), _, _, _], [fI (M 1000 (fw (l4 + 5)).toNat), fI (M 1000 (l4 + 4).toNat), fI (M 1000 (l4 + 3).toNat), fI (M 1000 (l4 + 2).toNat), fI (M 1000 (l4 + 1).toNat), fA 0])) (h' := (156, fjl L, M)) rfl ?_ ?_
      · rw [fw_id g1]; exact ⟨g0, g2⟩
      rw [fw_id g1]
      obtain ⟨y243, hy, h⟩ := fbd h
      refine Wp.call rfl (by show cu + 0 ≤ 601023 ∧ su + 0 ≤ 7293028; omega) (s_X11_feed_ok (d := d + 12) hy ?_)
      show Wp (d + 14, 322, 246, cu, su, [some (fA 1000), some (fA 0), some (fA 122), some (fA 155), some (fI l4), _, _, _], [fI y243.1]) (156, fjl L, y243.2) Q
      obtain ⟨⟨g0, g1, g2, g3, g4, g5, g6⟩, h⟩ := fgd h
      refine Wp.run 20 (P := [0 ≤ (fw (l4 + 1)) ∧ (fw (l4 + 1)) < (L : Int), 0 ≤ (fw (l4 + 2)) ∧ (fw (l4 + 2)) < (L : Int), 0 ≤ (fw (l4 + 3)) ∧ (fw (l4 + 3)) < (L : Int)]) (f' := (d + 14, 322, 270, cu, su, [some (fA 1000), some (fA 0), some (fA 122), some (fA 155), some (fI l4), _, _, _], [fI (fw (l4 + 4)), fA 1000, fI (y243.2 1000 (fw (l4 + 3)).toNat), fI (y243.2 1000 (fw (l4 + 2)).toNat), fI (y243.2 1000 (fw (l4 + 1)).toNat), fA 122, fI y243.1])) (h' := (156, fjl L, y243.2)) rfl ?_ ?_
      · rw [fw_id g0, fw_id g2, fw_id g4]; exact ⟨g1, g3, g5⟩
      rw [fw_id g0, fw_id g2, fw_id g4, fw_id g6]
      obtain ⟨⟨g0, g1, g2⟩, h⟩ := fgd h
      refine Wp.run 6 (P := [0 ≤ (l4 + 4) ∧ (l4 + 4) < (L : Int), 0 ≤ (fw (l4 + 5)) ∧ (fw (l4 + 5)) < (L : Int)]) (f' := (d + 14, 322, 277, cu, su, [some (fA 1000), some (fA 0), some (fA 122), some (fA 155), some (fI l4), _, _, _], [fI (y243.2 1000 (fw (l4 + 5)).toNat), fI (y243.2 1000 (l4 + 4).toNat), fI (y243.2 1000 (l4 + 3).toNat), fI (y243.2 1000 (l4 + 2).toNat), fI (y243.2 1000 (l4 + 1).toNat), fA 122, fI y243.1])) (h' := (156, fjl L, y243.2)) rfl ?_ ?_
      · rw [fw_id g1]; exact ⟨g0, g2⟩
      rw [fw_id g1]
      obtain ⟨y277, hy, h⟩ := fbd h
      refine Wp.call rfl (by show cu + 0 ≤ 601023 ∧ su + 0 ≤ 7293028; omega) (s_X12_feed_ok (d := d + 12) hy ?_)
      show Wp (d + 14, 322, 280, cu, su, [some (fA 1000), some (fA 0), some (fA 122), some (fA 155), some (fI l4), _, _, _], [fI y277.1, fI y243.1]) (156, fjl L, y277.2) Q
      refine Wp.br rfl (fun (c : y243.1 = y277.1) => ?_) (fun (c : ¬ (y243.1 = y277.1)) => ?_)
      · replace h := fps c h
        obtain ⟨g0, h⟩ := fgd h
        refine Wp.run 2 (f' := (d + 14, 322, 23, cu, su, [some (fA 1000), some (fA 0), some (fA 122), some (fA 155), some (fI (fw (l4 + 6))), _, _, _], [])) (h' := (156, fjl L, y277.2)) rfl trivial ?_
        rw [fw_id g0]
        exact hC _ _ _ _ _ _ _ (by omega) (by omega) (Option.some.inj h).symm
      · replace h := fng c h
        cases h
    · replace h := fng c h
      refine ⟨fun (c : (fand (M 1000 (l4).toNat) 63) = 1) => ?_, fun (c : ¬ ((fand (M 1000 (l4).toNat) 63) = 1)) => ?_⟩
      · replace h := fps c h
        show Wp (d + 14, 322, 285, cu, su, [some (fA 1000), some (fA 0), some (fA 122), some (fA 155), some (fI l4), _, _, _], []) (156, fjl L, M) Q
        obtain ⟨⟨g0, g1⟩, h⟩ := fgd h
        refine Wp.run 6 (P := [0 ≤ (fw (l4 + 1)) ∧ (fw (l4 + 1)) < (L : Int)]) (f' := (d + 14, 322, 292, cu, su, [some (fA 1000), some (fA 0), some (fA 122), some (fA 155), some (fI l4), _, _, _], [fI (M 1000 (fw (l4 + 1)).toNat), fA 0])) (h' := (156, fjl L, M)) rfl ?_ ?_
        · rw [fw_id g0]; exact g1
        rw [fw_id g0]
        obtain ⟨y292, hy, h⟩ := fbd h
        refine Wp.call rfl (by show cu + 0 ≤ 601023 ∧ su + 0 ≤ 7293028; omega) (s_X11_end_ok (d := d + 12) hy ?_)
        show Wp (d + 14, 322, 295, cu, su, [some (fA 1000), some (fA 0), some (fA 122), some (fA 155), some (fI l4), _, _, _], [fI y292.1]) (156, fjl L, y292.2) Q
        obtain ⟨⟨g0, g1⟩, h⟩ := fgd h
        refine Wp.run 6 (P := [0 ≤ (fw (l4 + 1)) ∧ (fw (l4 + 1)) < (L : Int)]) (f' := (d + 14, 322, 302, cu, su, [some (fA 1000), some (fA 0), some (fA 122), some (fA 155), some (fI l4), _, _, _], [fI (y292.2 1000 (fw (l4 + 1)).toNat), fA 122, fI y292.1])) (h' := (156, fjl L, y292.2)) rfl ?_ ?_
        · rw [fw_id g0]; exact g1
        rw [fw_id g0]
        obtain ⟨y302, hy, h⟩ := fbd h
        refine Wp.call rfl (by show cu + 0 ≤ 601023 ∧ su + 0 ≤ 7293028; omega) (s_X12_end_ok (d := d + 13) hy ?_)
        show Wp (d + 14, 322, 305, cu, su, [some (fA 1000), some (fA 0), some (fA 122), some (fA 155), some (fI l4), _, _, _], [fI y302.1, fI y292.1]) (156, fjl L, y302.2) Q
        refine Wp.br rfl (fun (c : y292.1 = y302.1) => ?_) (fun (c : ¬ (y292.1 = y302.1)) => ?_)
        · replace h := fps c h
          obtain ⟨g0, h⟩ := fgd h
          refine Wp.run 2 (f' := (d + 14, 322, 23, cu, su, [some (fA 1000), some (fA 0), some (fA 122), some (fA 155), some (fI (fw (l4 + 6))), _, _, _], [])) (h' := (156, fjl L, y302.2)) rfl trivial ?_
          rw [fw_id g0]
          exact hC _ _ _ _ _ _ _ (by omega) (by omega) (Option.some.inj h).symm
        · replace h := fng c h
          cases h
      · replace h := fng c h
        refine ⟨fun (c : (fand (M 1000 (l4).toNat) 63) = 2) => ?_, fun (c : ¬ ((fand (M 1000 (l4).toNat) 63) = 2)) => ?_⟩
        · replace h := fps c h
          show Wp (d + 14, 322, 310, cu, su, [some (fA 1000), some (fA 0), some (fA 122), some (fA 155), some (fI l4), _, _, _], []) (156, fjl L, M) Q
          refine Wp.run 1 (f' := (d + 14, 322, 311, cu, su, [some (fA 1000), some (fA 0), some (fA 122), some (fA 155), some (fI l4), _, _, _], [fA 0])) (h' := (156, fjl L, M)) rfl trivial ?_
          obtain ⟨y311, hy, h⟩ := fbd h
          refine Wp.call rfl (by show cu + 1 ≤ 601023 ∧ su + 6 ≤ 7293028; omega) (s_X11_house_ok (d := d + 0) hy ?_)
          show Wp (d + 14, 322, 314, cu + 1, su + 6, [some (fA 1000), some (fA 0), some (fA 122), some (fA 155), some (fI l4), _, _, _], [fI y311.1]) (156, fjl L, y311.2) Q
          refine Wp.run 1 (f' := (d + 14, 322, 315, cu + 1, su + 6, [some (fA 1000), some (fA 0), some (fA 122), some (fA 155), some (fI l4), _, _, _], [fA 122, fI y311.1])) (h' := (156, fjl L, y311.2)) rfl trivial ?_
          obtain ⟨y315, hy, h⟩ := fbd h
          refine Wp.call rfl (by show cu + 1 + 0 ≤ 601023 ∧ su + 6 + 0 ≤ 7293028; omega) (s_X12_house_ok (d := d + 5) hy ?_)
          show Wp (d + 14, 322, 318, cu + 1, su + 6, [some (fA 1000), some (fA 0), some (fA 122), some (fA 155), some (fI l4), _, _, _], [fI y315.1, fI y311.1]) (156, fjl L, y315.2) Q
          refine Wp.br rfl (fun (c : y311.1 = y315.1) => ?_) (fun (c : ¬ (y311.1 = y315.1)) => ?_)
          · replace h := fps c h
            obtain ⟨g0, h⟩ := fgd h
            refine Wp.run 2 (f' := (d + 14, 322, 23, cu + 1, su + 6, [some (fA 1000), some (fA 0), some (fA 122), some (fA 155), some (fI (fw (l4 + 6))), _, _, _], [])) (h' := (156, fjl L, y315.2)) rfl trivial ?_
            rw [fw_id g0]
            exact hC _ _ _ _ _ _ _ (by omega) (by omega) (Option.some.inj h).symm
          · replace h := fng c h
            cases h
        · replace h := fng c h
          refine ⟨fun (c : (fand (M 1000 (l4).toNat) 63) = 3) => ?_, fun (c : ¬ ((fand (M 1000 (l4).toNat) 63) = 3)) => ?_⟩
          · replace h := fps c h
            show Wp (d + 14, 322, 323, cu, su, [some (fA 1000), some (fA 0), some (fA 122), some (fA 155), some (fI l4), _, _, _], []) (156, fjl L, M) Q
            refine Wp.run 1 (f' := (d + 14, 322, 324, cu, su, [some (fA 1000), some (fA 0), some (fA 122), some (fA 155), some (fI l4), _, _, _], [fA 0])) (h' := (156, fjl L, M)) rfl trivial ?_
            obtain ⟨y324, hy, h⟩ := fbd h
            refine Wp.call rfl (by show cu + 1 ≤ 601023 ∧ su + 6 ≤ 7293028; omega) (s_X11_records_ok (d := d + 0) hy ?_)
            show Wp (d + 14, 322, 327, cu + 1, su + 6, [some (fA 1000), some (fA 0), some (fA 122), some (fA 155), some (fI l4), _, _, _], [fI y324.1]) (156, fjl L, y324.2) Q
            refine Wp.run 1 (f' := (d + 14, 322, 328, cu + 1, su + 6, [some (fA 1000), some (fA 0), some (fA 122), some (fA 155), some (fI l4), _, _, _], [fA 122, fI y324.1])) (h' := (156, fjl L, y324.2)) rfl trivial ?_
            obtain ⟨y328, hy, h⟩ := fbd h
            refine Wp.call rfl (by show cu + 1 + 0 ≤ 601023 ∧ su + 6 + 0 ≤ 7293028; omega) (s_X12_records_ok (d := d + 6) hy ?_)
            show Wp (d + 14, 322, 331, cu + 1, su + 6, [some (fA 1000), some (fA 0), some (fA 122), some (fA 155), some (fI l4), _, _, _], [fI y328.1, fI y324.1]) (156, fjl L, y328.2) Q
            refine Wp.br rfl (fun (c : y324.1 = y328.1) => ?_) (fun (c : ¬ (y324.1 = y328.1)) => ?_)
            · replace h := fps c h
              obtain ⟨g0, h⟩ := fgd h
              refine Wp.run 2 (f' := (d + 14, 322, 23, cu + 1, su + 6, [some (fA 1000), some (fA 0), some (fA 122), some (fA 155), some (fI (fw (l4 + 6))), _, _, _], [])) (h' := (156, fjl L, y328.2)) rfl trivial ?_
              rw [fw_id g0]
              exact hC _ _ _ _ _ _ _ (by omega) (by omega) (Option.some.inj h).symm
            · replace h := fng c h
              cases h
          · replace h := fng c h
            refine ⟨fun (c : (fand (M 1000 (l4).toNat) 63) = 4) => ?_, fun (c : ¬ ((fand (M 1000 (l4).toNat) 63) = 4)) => ?_⟩
            · replace h := fps c h
              show Wp (d + 14, 322, 336, cu, su, [some (fA 1000), some (fA 0), some (fA 122), some (fA 155), some (fI l4), _, _, _], []) (156, fjl L, M) Q
              refine Wp.run 1 (f' := (d + 14, 322, 337, cu, su, [some (fA 1000), some (fA 0), some (fA 122), some (fA 155), some (fI l4), _, _, _], [fA 0])) (h' := (156, fjl L, M)) rfl trivial ?_
              obtain ⟨y337, hy, h⟩ := fbd h
              refine Wp.call rfl (by show cu + 0 ≤ 601023 ∧ su + 0 ≤ 7293028; omega) (s_X11_fault_ok (d := d + 13) hy ?_)
              show Wp (d + 14, 322, 340, cu, su, [some (fA 1000), some (fA 0), some (fA 122), some (fA 155), some (fI l4), _, _, _], [fI y337]) (156, fjl L, M) Q
              refine Wp.run 1 (f' := (d + 14, 322, 341, cu, su, [some (fA 1000), some (fA 0), some (fA 122), some (fA 155), some (fI l4), _, _, _], [fA 122, fI y337])) (h' := (156, fjl L, M)) rfl trivial ?_
              obtain ⟨y341, hy, h⟩ := fbd h
              refine Wp.call rfl (by show cu + 0 ≤ 601023 ∧ su + 0 ≤ 7293028; omega) (s_X12_fault_ok (d := d + 13) hy ?_)
              show Wp (d + 14, 322, 344, cu, su, [some (fA 1000), some (fA 0), some (fA 122), some (fA 155), some (fI l4), _, _, _], [fI y341.1, fI y337]) (156, fjl L, y341.2) Q
              refine Wp.br rfl (fun (c : y337 = y341.1) => ?_) (fun (c : ¬ (y337 = y341.1)) => ?_)
              · replace h := fps c h
                obtain ⟨g0, h⟩ := fgd h
                refine Wp.run 2 (f' := (d + 14, 322, 23, cu, su, [some (fA 1000), some (fA 0), some (fA 122), some (fA 155), some (fI (fw (l4 + 6))), _, _, _], [])) (h' := (156, fjl L, y341.2)) rfl trivial ?_
                rw [fw_id g0]
                exact hC _ _ _ _ _ _ _ (by omega) (by omega) (Option.some.inj h).symm
              · replace h := fng c h
                cases h
            · replace h := fng c h
              refine ⟨fun (c : (fand (M 1000 (l4).toNat) 63) = 5) => ?_, fun (c : ¬ ((fand (M 1000 (l4).toNat) 63) = 5)) => ?_⟩
              · replace h := fps c h
                show Wp (d + 14, 322, 349, cu, su, [some (fA 1000), some (fA 0), some (fA 122), some (fA 155), some (fI l4), _, _, _], []) (156, fjl L, M) Q
                obtain ⟨⟨g0, g1, g2, g3⟩, h⟩ := fgd h
                refine Wp.run 12 (P := [0 ≤ (fw (l4 + 1)) ∧ (fw (l4 + 1)) < (L : Int), 0 ≤ (fw (l4 + 2)) ∧ (fw (l4 + 2)) < (L : Int)]) (f' := (d + 14, 322, 363, cu, su, [some (fA 1000), some (fA 0), some (fA 122), some (fA 155), some (fI l4), _, _, _], [fA 155, fI (M 1000 (fw (l4 + 2)).toNat), fI (M 1000 (fw (l4 + 1)).toNat), fA 0])) (h' := (156, fjl L, M)) rfl ?_ ?_
                · rw [fw_id g0, fw_id g2]; exact ⟨g1, g3⟩
                rw [fw_id g0, fw_id g2]
                obtain ⟨y363, hy, h⟩ := fbd h
                refine Wp.call rfl (by show cu + 1 ≤ 601023 ∧ su + 6 ≤ 7293028; omega) (s_L_piano_0_155_ok (d := d + 5) hy ?_)
                show Wp (d + 14, 322, 366, cu + 1, su + 6, [some (fA 1000), some (fA 0), some (fA 122), some (fA 155), some (fI l4), _, _, _], [fI y363.1]) (156, fjl L, y363.2) Q
                obtain ⟨⟨g0, g1, g2, g3⟩, h⟩ := fgd h
                refine Wp.run 12 (P := [0 ≤ (fw (l4 + 1)) ∧ (fw (l4 + 1)) < (L : Int), 0 ≤ (fw (l4 + 2)) ∧ (fw (l4 + 2)) < (L : Int)]) (f' := (d + 14, 322, 381, cu + 1, su + 6, [some (fA 1000), some (fA 0), some (fA 122), some (fA 155), some (fI l4), some (fI y363.1), _, _], [fI (y363.2 1000 (fw (l4 + 2)).toNat), fI (y363.2 1000 (fw (l4 + 1)).toNat), fA 122])) (h' := (156, fjl L, y363.2)) rfl ?_ ?_
                · rw [fw_id g0, fw_id g2]; exact ⟨g1, g3⟩
                rw [fw_id g0, fw_id g2]
                obtain ⟨y381, hy, h⟩ := fbd h
                refine Wp.call rfl (by show cu + 1 + 0 ≤ 601023 ∧ su + 6 + 0 ≤ 7293028; omega) (s_X12_piano_ok (d := d + 11) hy ?_)
                show Wp (d + 14, 322, 384, cu + 1, su + 6, [some (fA 1000), some (fA 0), some (fA 122), some (fA 155), some (fI l4), some (fI y363.1), _, _], [fI y381.1]) (156, fjl L, y381.2) Q
                refine Wp.run 2 (f' := (d + 14, 322, 387, cu + 1, su + 6, [some (fA 1000), some (fA 0), some (fA 122), some (fA 155), some (fI l4), some (fI y363.1), some (fI y381.1), _], [fA 122])) (h' := (156, fjl L, y381.2)) rfl trivial ?_
                obtain ⟨y387, hy, h⟩ := fbd h
                refine Wp.call rfl (by show cu + 1 + 0 ≤ 601023 ∧ su + 6 + 0 ≤ 7293028; omega) (s_X12_thrown_ok (d := d + 13) hy ?_)
                show Wp (d + 14, 322, 390, cu + 1, su + 6, [some (fA 1000), some (fA 0), some (fA 122), some (fA 155), some (fI l4), some (fI y363.1), some (fI y381.1), _], [fI y387]) (156, fjl L, y381.2) Q
                refine Wp.run 1 (f' := (d + 14, 322, 392, cu + 1, su + 6, [some (fA 1000), some (fA 0), some (fA 122), some (fA 155), some (fI l4), some (fI y363.1), some (fI y381.1), _], [fI y363.1, fI y387])) (h' := (156, fjl L, y381.2)) rfl trivial ?_
                refine Wp.br rfl (fun (c : y387 = y363.1) => ?_) (fun (c : ¬ (y387 = y363.1)) => ?_)
                · replace h := fps c h
                  refine Wp.run 1 (f' := (d + 14, 322, 399, cu + 1, su + 6, [some (fA 1000), some (fA 0), some (fA 122), some (fA 155), some (fI l4), _, some (fI y381.1), _], [fI y363.1])) (h' := (156, fjl L, y381.2)) rfl trivial ?_
                  refine Wp.br rfl (fun (c : ¬ y363.1 = 0) => ?_) (fun (c : ¬ (¬ y363.1 = 0)) => ?_)
                  · replace h := fps c h
                    obtain ⟨g0, h⟩ := fgd h
                    refine Wp.run 3 (f' := (d + 14, 322, 23, cu + 1, su + 6, [some (fA 1000), some (fA 0), some (fA 122), some (fA 155), some (fI (fw (l4 + 6))), _, _, _], [])) (h' := (156, fjl L, y381.2)) rfl trivial ?_
                    rw [fw_id g0]
                    exact hC _ _ _ _ _ _ _ (by omega) (by omega) (Option.some.inj h).symm
                  · replace h := fng c h
                    refine Wp.run 6 (P := [(0 : Int) ≤ 0 ∧ (0 : Int) < 1]) (f' := (d + 14, 322, 409, cu + 1, su + 6, [some (fA 1000), some (fA 0), some (fA 122), some (fA 155), some (fI l4), _, _, _], [fI (fcm (y381.2 155 0) y381.1)])) (h' := (156, fjl L, y381.2)) rfl ?_ ?_
                    · exact (by decide : (0 : Int) ≤ 0 ∧ (0 : Int) < 1)
                    refine Wp.br rfl (fun (c : (fcm (y381.2 155 0) y381.1) = 0) => ?_) (fun (c : ¬ ((fcm (y381.2 155 0) y381.1) = 0)) => ?_)
                    · replace c := (fcm_eq _ _).mp c
                      replace h := fps c h
                      obtain ⟨g0, h⟩ := fgd h
                      refine Wp.run 3 (f' := (d + 14, 322, 23, cu + 1, su + 6, [some (fA 1000), some (fA 0), some (fA 122), some (fA 155), some (fI (fw (l4 + 6))), _, _, _], [])) (h' := (156, fjl L, y381.2)) rfl trivial ?_
                      rw [fw_id g0]
                      exact hC _ _ _ _ _ _ _ (by omega) (by omega) (Option.some.inj h).symm
                    · replace c := fun z => c ((fcm_eq _ _).mpr z)
                      replace h := fng c h
                      cases h
                · replace h := fng c h
                  cases h
              · replace h := fng c h
                refine ⟨fun (c : (fand (M 1000 (l4).toNat) 63) = 6) => ?_, fun (c : ¬ ((fand (M 1000 (l4).toNat) 63) = 6)) => ?_⟩
                · replace h := fps c h
                  show Wp (d + 14, 322, 417, cu, su, [some (fA 1000), some (fA 0), some (fA 122), some (fA 155), some (fI l4), _, _, _], []) (156, fjl L, M) Q
                  obtain ⟨⟨g0, g1, g2, g3⟩, h⟩ := fgd h
                  refine Wp.run 11 (P := [0 ≤ (fw (l4 + 1)) ∧ (fw (l4 + 1)) < (L : Int), 0 ≤ (fw (l4 + 2)) ∧ (fw (l4 + 2)) < (L : Int)]) (f' := (d + 14, 322, 430, cu, su, [some (fA 1000), some (fA 0), some (fA 122), some (fA 155), some (fI l4), _, _, _], [fI (M 1000 (fw (l4 + 2)).toNat), fI (M 1000 (fw (l4 + 1)).toNat), fA 0])) (h' := (156, fjl L, M)) rfl ?_ ?_
                  · rw [fw_id g0, fw_id g2]; exact ⟨g1, g3⟩
                  rw [fw_id g0, fw_id g2]
                  obtain ⟨y430, hy, h⟩ := fbd h
                  refine Wp.call rfl (by show cu + 0 ≤ 601023 ∧ su + 0 ≤ 7293028; omega) (s_X11_week_ok (d := d + 12) hy ?_)
                  show Wp (d + 14, 322, 433, cu, su, [some (fA 1000), some (fA 0), some (fA 122), some (fA 155), some (fI l4), _, _, _], [fI y430]) (156, fjl L, M) Q
                  obtain ⟨⟨g0, g1, g2, g3⟩, h⟩ := fgd h
                  refine Wp.run 11 (P := [0 ≤ (fw (l4 + 1)) ∧ (fw (l4 + 1)) < (L : Int), 0 ≤ (fw (l4 + 2)) ∧ (fw (l4 + 2)) < (L : Int)]) (f' := (d + 14, 322, 446, cu, su, [some (fA 1000), some (fA 0), some (fA 122), some (fA 155), some (fI l4), _, _, _], [fI (M 1000 (fw (l4 + 2)).toNat), fI (M 1000 (fw (l4 + 1)).toNat), fA 122, fI y430])) (h' := (156, fjl L, M)) rfl ?_ ?_
                  · rw [fw_id g0, fw_id g2]; exact ⟨g1, g3⟩
                  rw [fw_id g0, fw_id g2]
                  obtain ⟨y446, hy, h⟩ := fbd h
                  refine Wp.call rfl (by show cu + 0 ≤ 601023 ∧ su + 0 ≤ 7293028; omega) (s_X12_week_ok (d := d + 12) hy ?_)
                  show Wp (d + 14, 322, 449, cu, su, [some (fA 1000), some (fA 0), some (fA 122), some (fA 155), some (fI l4), _, _, _], [fI y446.1, fI y430]) (156, fjl L, y446.2) Q
                  refine Wp.br rfl (fun (c : y430 = y446.1) => ?_) (fun (c : ¬ (y430 = y446.1)) => ?_)
                  · replace h := fps c h
                    obtain ⟨g0, h⟩ := fgd h
                    refine Wp.run 2 (f' := (d + 14, 322, 23, cu, su, [some (fA 1000), some (fA 0), some (fA 122), some (fA 155), some (fI (fw (l4 + 6))), _, _, _], [])) (h' := (156, fjl L, y446.2)) rfl trivial ?_
                    rw [fw_id g0]
                    exact hC _ _ _ _ _ _ _ (by omega) (by omega) (Option.some.inj h).symm
                  · replace h := fng c h
                    cases h
                · replace h := fng c h
                  refine ⟨fun (c : (fand (M 1000 (l4).toNat) 63) = 7) => ?_, fun (c : ¬ ((fand (M 1000 (l4).toNat) 63) = 7)) => ?_⟩
                  · replace h := fps c h
                    show Wp (d + 14, 322, 454, cu, su, [some (fA 1000), some (fA 0), some (fA 122), some (fA 155), some (fI l4), _, _, _], []) (156, fjl L, M) Q
                    obtain ⟨⟨g0, g1, g2, g3⟩, h⟩ := fgd h
                    refine Wp.run 11 (P := [0 ≤ (fw (l4 + 1)) ∧ (fw (l4 + 1)) < (L : Int), 0 ≤ (fw (l4 + 2)) ∧ (fw (l4 + 2)) < (L : Int)]) (f' := (d + 14, 322, 467, cu, su, [some (fA 1000), some (fA 0), some (fA 122), some (fA 155), some (fI l4), _, _, _], [fI (M 1000 (fw (l4 + 2)).toNat), fI (M 1000 (fw (l4 + 1)).toNat), fA 0])) (h' := (156, fjl L, M)) rfl ?_ ?_
                    · rw [fw_id g0, fw_id g2]; exact ⟨g1, g3⟩
                    rw [fw_id g0, fw_id g2]
                    obtain ⟨y467, hy, h⟩ := fbd h
                    refine Wp.call rfl (by show cu + 0 ≤ 601023 ∧ su + 0 ≤ 7293028; omega) (s_X11_beats_ok (d := d + 11) hy ?_)
                    show Wp (d + 14, 322, 470, cu, su, [some (fA 1000), some (fA 0), some (fA 122), some (fA 155), some (fI l4), _, _, _], [fI y467]) (156, fjl L, M) Q
                    obtain ⟨⟨g0, g1, g2, g3⟩, h⟩ := fgd h
                    refine Wp.run 11 (P := [0 ≤ (fw (l4 + 1)) ∧ (fw (l4 + 1)) < (L : Int), 0 ≤ (fw (l4 + 2)) ∧ (fw (l4 + 2)) < (L : Int)]) (f' := (d + 14, 322, 483, cu, su, [some (fA 1000), some (fA 0), some (fA 122), some (fA 155), some (fI l4), _, _, _], [fI (M 1000 (fw (l4 + 2)).toNat), fI (M 1000 (fw (l4 + 1)).toNat), fA 122, fI y467])) (h' := (156, fjl L, M)) rfl ?_ ?_
                    · rw [fw_id g0, fw_id g2]; exact ⟨g1, g3⟩
                    rw [fw_id g0, fw_id g2]
                    obtain ⟨y483, hy, h⟩ := fbd h
                    refine Wp.call rfl (by show cu + 0 ≤ 601023 ∧ su + 0 ≤ 7293028; omega) (s_X12_beats_ok (d := d + 11) hy ?_)
                    show Wp (d + 14, 322, 486, cu, su, [some (fA 1000), some (fA 0), some (fA 122), some (fA 155), some (fI l4), _, _, _], [fI y483.1, fI y467]) (156, fjl L, y483.2) Q
                    refine Wp.br rfl (fun (c : y467 = y483.1) => ?_) (fun (c : ¬ (y467 = y483.1)) => ?_)
                    · replace h := fps c h
                      obtain ⟨g0, h⟩ := fgd h
                      refine Wp.run 2 (f' := (d + 14, 322, 23, cu, su, [some (fA 1000), some (fA 0), some (fA 122), some (fA 155), some (fI (fw (l4 + 6))), _, _, _], [])) (h' := (156, fjl L, y483.2)) rfl trivial ?_
                      rw [fw_id g0]
                      exact hC _ _ _ _ _ _ _ (by omega) (by omega) (Option.some.inj h).symm
                    · replace h := fng c h
                      cases h
                  · replace h := fng c h
                    refine ⟨fun (c : (fand (M 1000 (l4).toNat) 63) = 8) => ?_, fun (c : ¬ ((fand (M 1000 (l4).toNat) 63) = 8)) => ?_⟩
                    · replace h := fps c h
                      show Wp (d + 14, 322, 491, cu, su, [some (fA 1000), some (fA 0), some (fA 122), some (fA 155), some (fI l4), _, _, _], []) (156, fjl L, M) Q
                      obtain ⟨⟨g0, g1⟩, h⟩ := fgd h
                      refine Wp.run 6 (P := [0 ≤ (fw (l4 + 1)) ∧ (fw (l4 + 1)) < (L : Int)]) (f' := (d + 14, 322, 498, cu, su, [some (fA 1000), some (fA 0), some (fA 122), some (fA 155), some (fI l4), _, _, _], [fI (M 1000 (fw (l4 + 1)).toNat), fA 0])) (h' := (156, fjl L, M)) rfl ?_ ?_
                      · rw [fw_id g0]; exact g1
                      rw [fw_id g0]
                      obtain ⟨y498, hy, h⟩ := fbd h
                      refine Wp.call rfl (by show cu + 0 ≤ 601023 ∧ su + 0 ≤ 7293028; omega) (s_X11_wolf_ok (d := d + 10) hy ?_)
                      show Wp (d + 14, 322, 501, cu, su, [some (fA 1000), some (fA 0), some (fA 122), some (fA 155), some (fI l4), _, _, _], [fI y498]) (156, fjl L, M) Q
                      obtain ⟨⟨g0, g1⟩, h⟩ := fgd h
                      refine Wp.run 6 (P := [0 ≤ (fw (l4 + 1)) ∧ (fw (l4 + 1)) < (L : Int)]) (f' := (d + 14, 322, 508, cu, su, [some (fA 1000), some (fA 0), some (fA 122), some (fA 155), some (fI l4), _, _, _], [fI (M 1000 (fw (l4 + 1)).toNat), fA 122, fI y498])) (h' := (156, fjl L, M)) rfl ?_ ?_
                      · rw [fw_id g0]; exact g1
                      rw [fw_id g0]
                      obtain ⟨y508, hy, h⟩ := fbd h
                      refine Wp.call rfl (by show cu + 0 ≤ 601023 ∧ su + 0 ≤ 7293028; omega) (s_X12_wolf_ok (d := d + 11) hy ?_)
                      show Wp (d + 14, 322, 511, cu, su, [some (fA 1000), some (fA 0), some (fA 122), some (fA 155), some (fI l4), _, _, _], [fI y508.1, fI y498]) (156, fjl L, y508.2) Q
                      refine Wp.br rfl (fun (c : y498 = y508.1) => ?_) (fun (c : ¬ (y498 = y508.1)) => ?_)
                      · replace h := fps c h
                        obtain ⟨g0, h⟩ := fgd h
                        refine Wp.run 2 (f' := (d + 14, 322, 23, cu, su, [some (fA 1000), some (fA 0), some (fA 122), some (fA 155), some (fI (fw (l4 + 6))), _, _, _], [])) (h' := (156, fjl L, y508.2)) rfl trivial ?_
                        rw [fw_id g0]
                        exact hC _ _ _ _ _ _ _ (by omega) (by omega) (Option.some.inj h).symm
                      · replace h := fng c h
                        cases h
                    · replace h := fng c h
                      refine ⟨fun (c : (fand (M 1000 (l4).toNat) 63) = 9) => ?_, fun (c : ¬ ((fand (M 1000 (l4).toNat) 63) = 9)) => ?_⟩
                      · replace h := fps c h
                        show Wp (d + 14, 322, 516, cu, su, [some (fA 1000), some (fA 0), some (fA 122), some (fA 155), some (fI l4), _, _, _], []) (156, fjl L, M) Q
                        obtain ⟨⟨g0, g1, g2, g3, g4, g5, g6⟩, h⟩ := fgd h
                        refine Wp.run 20 (P := [0 ≤ (fw (l4 + 1)) ∧ (fw (l4 + 1)) < (L : Int), 0 ≤ (fw (l4 + 2)) ∧ (fw (l4 + 2)) < (L : Int), 0 ≤ (fw (l4 + 3)) ∧ (fw (l4 + 3)) < (L : Int)]) (f' := (d + 14, 322, 540, cu, su, [some (fA 1000), some (fA 0), some (fA 122), some (fA 155), some (fI l4), _, _, _], [fI (fw (l4 + 4)), fA 1000, fI (M 1000 (fw (l4 + 3)).toNat), fI (M 1000 (fw (l4 + 2)).toNat), fI (M 1000 (fw (l4 + 1)).toNat), fA 0])) (h' := (156, fjl L, M)) rfl ?_ ?_
                        · rw [fw_id g0, fw_id g2, fw_id g4]; exact ⟨g1, g3, g5⟩
                        rw [fw_id g0, fw_id g2, fw_id g4, fw_id g6]
                        obtain ⟨g0, h⟩ := fgd h
                        refine Wp.run 2 (P := [0 ≤ (l4 + 4) ∧ (l4 + 4) < (L : Int)]) (f' := (d + 14, 322, 542, cu, su, [some (fA 1000), some (fA 0), some (fA 122), some (fA 155), some (fI l4), _, _, _], [fA 155, fI (M 1000 (l4 + 4).toNat), fI (M 1000 (l4 + 3).toNat), fI (M 1000 (l4 + 2).toNat), fI (M 1000 (l4 + 1).toNat), fA 0])) (h' := (156, fjl L, M)) rfl ?_ ?_
                        · exact g0
                        obtain ⟨y542, hy, h⟩ := fbd h
                        refine Wp.call rfl (by show cu + 1 ≤ 601023 ∧ su + 6 ≤ 7293028; omega) (s_L_offset_0_155_ok (d := d + 5) hy ?_)
                        show Wp (d + 14, 322, 545, cu + 1, su + 6, [some (fA 1000), some (fA 0), some (fA 122), some (fA 155), some (fI l4), _, _, _], [fI y542.1]) (156, fjl L, y542.2) Q
                        obtain ⟨⟨g0, g1, g2, g3, g4, g5⟩, h⟩ := fgd h
                        refine Wp.run 20 (P := [0 ≤ (fw (l4 + 1)) ∧ (fw (l4 + 1)) < (L : Int), 0 ≤ (fw (l4 + 2)) ∧ (fw (l4 + 2)) < (L : Int), 0 ≤ (fw (l4 + 3)) ∧ (fw (l4 + 3)) < (L : Int)]) (f' := (d + 14, 322, 570, cu + 1, su + 6, [some (fA 1000), some (fA 0), some (fA 122), some (fA 155), some (fI l4), some (fI y542.1), _, _], [fI 4, fI l4, fA 1000, fI (y542.2 1000 (fw (l4 + 3)).toNat), fI (y542.2 1000 (fw (l4 + 2)).toNat), fI (y542.2 1000 (fw (l4 + 1)).toNat), fA 122])) (h' := (156, fjl L, y542.2)) rfl ?_ ?_
                        · rw [fw_id g0, fw_id g2, fw_id g4]; exact ⟨g1, g3, g5⟩
                        rw [fw_id g0, fw_id g2, fw_id g4]
                        obtain ⟨⟨g0, g1⟩, h⟩ := fgd h
                        refine Wp.run 2 (P := [0 ≤ (fw (l4 + 4)) ∧ (fw (l4 + 4)) < (L : Int)]) (f' := (d + 14, 322, 572, cu + 1, su + 6, [some (fA 1000), some (fA 0), some (fA 122), some (fA 155), some (fI l4), some (fI y542.1), _, _], [fI (y542.2 1000 (fw (l4 + 4)).toNat), fI (y542.2 1000 (l4 + 3).toNat), fI (y542.2 1000 (l4 + 2).toNat), fI (y542.2 1000 (l4 + 1).toNat), fA 122])) (h' := (156, fjl L, y542.2)) rfl ?_ ?_
                        · rw [fw_id g0]; exact g1
                        rw [fw_id g0]
                        obtain ⟨y572, hy, h⟩ := fbd h
                        refine Wp.call rfl (by show cu + 1 + 0 ≤ 601023 ∧ su + 6 + 0 ≤ 7293028; omega) (s_X12_offset_ok (d := d + 10) hy ?_)
                        show Wp (d + 14, 322, 575, cu + 1, su + 6, [some (fA 1000), some (fA 0), some (fA 122), some (fA 155), some (fI l4), some (fI y542.1), _, _], [fI y572.1]) (156, fjl L, y572.2) Q
                        refine Wp.run 2 (f' := (d + 14, 322, 578, cu + 1, su + 6, [some (fA 1000), some (fA 0), some (fA 122), some (fA 155), some (fI l4), some (fI y542.1), some (fI y572.1), _], [fA 122])) (h' := (156, fjl L, y572.2)) rfl trivial ?_
                        obtain ⟨y578, hy, h⟩ := fbd h
                        refine Wp.call rfl (by show cu + 1 + 0 ≤ 601023 ∧ su + 6 + 0 ≤ 7293028; omega) (s_X12_thrown_ok (d := d + 13) hy ?_)
                        show Wp (d + 14, 322, 581, cu + 1, su + 6, [some (fA 1000), some (fA 0), some (fA 122), some (fA 155), some (fI l4), some (fI y542.1), some (fI y572.1), _], [fI y578]) (156, fjl L, y572.2) Q
                        refine Wp.run 1 (f' := (d + 14, 322, 583, cu + 1, su + 6, [some (fA 1000), some (fA 0), some (fA 122), some (fA 155), some (fI l4), some (fI y542.1), some (fI y572.1), _], [fI y542.1, fI y578])) (h' := (156, fjl L, y572.2)) rfl trivial ?_
                        refine Wp.br rfl (fun (c : y578 = y542.1) => ?_) (fun (c : ¬ (y578 = y542.1)) => ?_)
                        · replace h := fps c h
                          refine Wp.run 1 (f' := (d + 14, 322, 590, cu + 1, su + 6, [some (fA 1000), some (fA 0), some (fA 122), some (fA 155), some (fI l4), _, some (fI y572.1), _], [fI y542.1])) (h' := (156, fjl L, y572.2)) rfl trivial ?_
                          refine Wp.br rfl (fun (c : ¬ y542.1 = 0) => ?_) (fun (c : ¬ (¬ y542.1 = 0)) => ?_)
                          · replace h := fps c h
                            obtain ⟨g0, h⟩ := fgd h
                            refine Wp.run 3 (f' := (d + 14, 322, 23, cu + 1, su + 6, [some (fA 1000), some (fA 0), some (fA 122), some (fA 155), some (fI (fw (l4 + 6))), _, _, _], [])) (h' := (156, fjl L, y572.2)) rfl trivial ?_
                            rw [fw_id g0]
                            exact hC _ _ _ _ _ _ _ (by omega) (by omega) (Option.some.inj h).symm
                          · replace h := fng c h
                            refine Wp.run 6 (P := [(0 : Int) ≤ 0 ∧ (0 : Int) < 1]) (f' := (d + 14, 322, 600, cu + 1, su + 6, [some (fA 1000), some (fA 0), some (fA 122), some (fA 155), some (fI l4), _, _, _], [fI (fcm (y572.2 155 0) y572.1)])) (h' := (156, fjl L, y572.2)) rfl ?_ ?_
                            · exact (by decide : (0 : Int) ≤ 0 ∧ (0 : Int) < 1)
                            refine Wp.br rfl (fun (c : (fcm (y572.2 155 0) y572.1) = 0) => ?_) (fun (c : ¬ ((fcm (y572.2 155 0) y572.1) = 0)) => ?_)
                            · replace c := (fcm_eq _ _).mp c
                              replace h := fps c h
                              obtain ⟨g0, h⟩ := fgd h
                              refine Wp.run 3 (f' := (d + 14, 322, 23, cu + 1, su + 6, [some (fA 1000), some (fA 0), some (fA 122), some (fA 155), some (fI (fw (l4 + 6))), _, _, _], [])) (h' := (156, fjl L, y572.2)) rfl trivial ?_
                              rw [fw_id g0]
                              exact hC _ _ _ _ _ _ _ (by omega) (by omega) (Option.some.inj h).symm
                            · replace c := fun z => c ((fcm_eq _ _).mpr z)
                              replace h := fng c h
                              cases h
                        · replace h := fng c h
                          cases h
                      · replace h := fng c h
                        refine ⟨fun (c : (fand (M 1000 (l4).toNat) 63) = 10) => ?_, fun (c : ¬ ((fand (M 1000 (l4).toNat) 63) = 10)) => ?_⟩
                        · replace h := fps c h
                          show Wp (d + 14, 322, 608, cu, su, [some (fA 1000), some (fA 0), some (fA 122), some (fA 155), some (fI l4), _, _, _], []) (156, fjl L, M) Q
                          obtain ⟨⟨g0, g1, g2, g3, g4, g5⟩, h⟩ := fgd h
                          refine Wp.run 16 (P := [0 ≤ (fw (l4 + 1)) ∧ (fw (l4 + 1)) < (L : Int), 0 ≤ (fw (l4 + 2)) ∧ (fw (l4 + 2)) < (L : Int), 0 ≤ (fw (l4 + 3)) ∧ (fw (l4 + 3)) < (L : Int)]) (f' := (d + 14, 322, 627, cu, su, [some (fA 1000), some (fA 0), some (fA 122), some (fA 155), some (fI l4), _, _, _], [fI (M 1000 (fw (l4 + 3)).toNat), fI (M 1000 (fw (l4 + 2)).toNat), fI (M 1000 (fw (l4 + 1)).toNat), fA 0])) (h' := (156, fjl L, M)) rfl ?_ ?_
                          · rw [fw_id g0, fw_id g2, fw_id g4]; exact ⟨g1, g3, g5⟩
                          rw [fw_id g0, fw_id g2, fw_id g4]
                          obtain ⟨y627, hy, h⟩ := fbd h
                          refine Wp.call rfl (by show cu + 0 ≤ 601023 ∧ su + 0 ≤ 7293028; omega) (s_X11_off_ok (d := d + 10) hy ?_)
                          show Wp (d + 14, 322, 630, cu, su, [some (fA 1000), some (fA 0), some (fA 122), some (fA 155), some (fI l4), _, _, _], [fI y627.1]) (156, fjl L, y627.2) Q
                          obtain ⟨⟨g0, g1, g2, g3, g4, g5⟩, h⟩ := fgd h
                          refine Wp.run 16 (P := [0 ≤ (fw (l4 + 1)) ∧ (fw (l4 + 1)) < (L : Int), 0 ≤ (fw (l4 + 2)) ∧ (fw (l4 + 2)) < (L : Int), 0 ≤ (fw (l4 + 3)) ∧ (fw (l4 + 3)) < (L : Int)]) (f' := (d + 14, 322, 649, cu, su, [some (fA 1000), some (fA 0), some (fA 122), some (fA 155), some (fI l4), _, _, _], [fI (y627.2 1000 (fw (l4 + 3)).toNat), fI (y627.2 1000 (fw (l4 + 2)).toNat), fI (y627.2 1000 (fw (l4 + 1)).toNat), fA 122, fI y627.1])) (h' := (156, fjl L, y627.2)) rfl ?_ ?_
                          · rw [fw_id g0, fw_id g2, fw_id g4]; exact ⟨g1, g3, g5⟩
                          rw [fw_id g0, fw_id g2, fw_id g4]
                          obtain ⟨y649, hy, h⟩ := fbd h
                          refine Wp.call rfl (by show cu + 0 ≤ 601023 ∧ su + 0 ≤ 7293028; omega) (s_X12_off_ok (d := d + 10) hy ?_)
                          show Wp (d + 14, 322, 652, cu, su, [some (fA 1000), some (fA 0), some (fA 122), some (fA 155), some (fI l4), _, _, _], [fI y649.1, fI y627.1]) (156, fjl L, y649.2) Q
                          refine Wp.br rfl (fun (c : y627.1 = y649.1) => ?_) (fun (c : ¬ (y627.1 = y649.1)) => ?_)
                          · replace h := fps c h
                            obtain ⟨g0, h⟩ := fgd h
                            refine Wp.run 2 (f' := (d + 14, 322, 23, cu, su, [some (fA 1000), some (fA 0), some (fA 122), some (fA 155), some (fI (fw (l4 + 6))), _, _, _], [])) (h' := (156, fjl L, y649.2)) rfl trivial ?_
                            rw [fw_id g0]
                            exact hC _ _ _ _ _ _ _ (by omega) (by omega) (Option.some.inj h).symm
                          · replace h := fng c h
                            cases h
                        · replace h := fng c h
                          refine ⟨fun (c : (fand (M 1000 (l4).toNat) 63) = 11) => ?_, fun (c : ¬ ((fand (M 1000 (l4).toNat) 63) = 11)) => ?_⟩
                          · replace h := fps c h
                            show Wp (d + 14, 322, 657, cu, su, [some (fA 1000), some (fA 0), some (fA 122), some (fA 155), some (fI l4), _, _, _], []) (156, fjl L, M) Q
                            obtain ⟨⟨g0, g1, g2, g3, g4, g5, g6⟩, h⟩ := fgd h
                            refine Wp.run 20 (P := [0 ≤ (fw (l4 + 1)) ∧ (fw (l4 + 1)) < (L : Int), 0 ≤ (fw (l4 + 2)) ∧ (fw (l4 + 2)) < (L : Int), 0 ≤ (fw (l4 + 3)) ∧ (fw (l4 + 3)) < (L : Int)]) (f' := (d + 14, 322, 681, cu, su, [some (fA 1000), some (fA 0), some (fA 122), some (fA 155), some (fI l4), _, _, _], [fI (fw (l4 + 4)), fA 1000, fI (M 1000 (fw (l4 + 3)).toNat), fI (M 1000 (fw (l4 + 2)).toNat), fI (M 1000 (fw (l4 + 1)).toNat), fA 0])) (h' := (156, fjl L, M)) rfl ?_ ?_
                            · rw [fw_id g0, fw_id g2, fw_id g4]; exact ⟨g1, g3, g5⟩
                            rw [fw_id g0, fw_id g2, fw_id g4, fw_id g6]
                            obtain ⟨g0, h⟩ := fgd h
                            refine Wp.run 1 (P := [0 ≤ (l4 + 4) ∧ (l4 + 4) < (L : Int)]) (f' := (d + 14, 322, 682, cu, su, [some (fA 1000), some (fA 0), some (fA 122), some (fA 155), some (fI l4), _, _, _], [fI (M 1000 (l4 + 4).toNat), fI (M 1000 (l4 + 3).toNat), fI (M 1000 (l4 + 2).toNat), fI (M 1000 (l4 + 1).toNat), fA 0])) (h' := (156, fjl L, M)) rfl ?_ ?_
                            · exact g0
                            obtain ⟨y682, hy, h⟩ := fbd h
                            refine Wp.call rfl (by show cu + 0 ≤ 601023 ∧ su + 0 ≤ 7293028; omega) (s_X11_due_ok (d := d + 8) hy ?_)
                            show Wp (d + 14, 322, 685, cu, su, [some (fA 1000), some (fA 0), some (fA 122), some (fA 155), some (fI l4), _, _, _], [fI y682.1]) (156, fjl L, y682.2) Q
                            obtain ⟨⟨g0, g1, g2, g3, g4, g5, g6⟩, h⟩ := fgd h
                            refine Wp.run 20 (P := [0 ≤ (fw (l4 + 1)) ∧ (fw (l4 + 1)) < (L : Int), 0 ≤ (fw (l4 + 2)) ∧ (fw (l4 + 2)) < (L : Int), 0 ≤ (fw (l4 + 3)) ∧ (fw (l4 + 3)) < (L : Int)]) (f' := (d + 14, 322, 709, cu, su, [some (fA 1000), some (fA 0), some (fA 122), some (fA 155), some (fI l4), _, _, _], [fI (fw (l4 + 4)), fA 1000, fI (y682.2 1000 (fw (l4 + 3)).toNat), fI (y682.2 1000 (fw (l4 + 2)).toNat), fI (y682.2 1000 (fw (l4 + 1)).toNat), fA 122, fI y682.1])) (h' := (156, fjl L, y682.2)) rfl ?_ ?_
                            · rw [fw_id g0, fw_id g2, fw_id g4]; exact ⟨g1, g3, g5⟩
                            rw [fw_id g0, fw_id g2, fw_id g4, fw_id g6]
                            obtain ⟨g0, h⟩ := fgd h
                            refine Wp.run 1 (P := [0 ≤ (l4 + 4) ∧ (l4 + 4) < (L : Int)]) (f' := (d + 14, 322, 710, cu, su, [some (fA 1000), some (fA 0), some (fA 122), some (fA 155), some (fI l4), _, _, _], [fI (y682.2 1000 (l4 + 4).toNat), fI (y682.2 1000 (l4 + 3).toNat), fI (y682.2 1000 (l4 + 2).toNat), fI (y682.2 1000 (l4 + 1).toNat), fA 122, fI y682.1])) (h' := (156, fjl L, y682.2)) rfl ?_ ?_
                            · exact g0
                            obtain ⟨y710, hy, h⟩ := fbd h
                            refine Wp.call rfl (by show cu + 0 ≤ 601023 ∧ su + 0 ≤ 7293028; omega) (s_X12_due_ok (d := d + 10) hy ?_)
                            show Wp (d + 14, 322, 713, cu, su, [some (fA 1000), some (fA 0), some (fA 122), some (fA 155), some (fI l4), _, _, _], [fI y710.1, fI y682.1]) (156, fjl L, y710.2) Q
                            refine Wp.br rfl (fun (c : y682.1 = y710.1) => ?_) (fun (c : ¬ (y682.1 = y710.1)) => ?_)
                            · replace h := fps c h
                              obtain ⟨g0, h⟩ := fgd h
                              refine Wp.run 2 (f' := (d + 14, 322, 23, cu, su, [some (fA 1000), some (fA 0), some (fA 122), some (fA 155), some (fI (fw (l4 + 6))), _, _, _], [])) (h' := (156, fjl L, y710.2)) rfl trivial ?_
                              rw [fw_id g0]
                              exact hC _ _ _ _ _ _ _ (by omega) (by omega) (Option.some.inj h).symm
                            · replace h := fng c h
                              cases h
                          · replace h := fng c h
                            refine ⟨fun (c : (fand (M 1000 (l4).toNat) 63) = 12) => ?_, fun (c : ¬ ((fand (M 1000 (l4).toNat) 63) = 12)) => ?_⟩
                            · replace h := fps c h
                              show Wp (d + 14, 322, 718, cu, su, [some (fA 1000), some (fA 0), some (fA 122), some (fA 155), some (fI l4), _, _, _], []) (156, fjl L, M) Q
                              obtain ⟨⟨g0, g1, g2, g3⟩, h⟩ := fgd h
                              refine Wp.run 11 (P := [0 ≤ (fw (l4 + 1)) ∧ (fw (l4 + 1)) < (L : Int), 0 ≤ (fw (l4 + 2)) ∧ (fw (l4 + 2)) < (L : Int)]) (f' := (d + 14, 322, 731, cu, su, [some (fA 1000), some (fA 0), some (fA 122), some (fA 155), some (fI l4), _, _, _], [fI (M 1000 (fw (l4 + 2)).toNat), fI (M 1000 (fw (l4 + 1)).toNat), fA 0])) (h' := (156, fjl L, M)) rfl ?_ ?_
                              · rw [fw_id g0, fw_id g2]; exact ⟨g1, g3⟩
                              rw [fw_id g0, fw_id g2]
                              obtain ⟨y731, hy, h⟩ := fbd h
                              refine Wp.call rfl (by show cu + 0 ≤ 601023 ∧ su + 0 ≤ 7293028; omega) (s_X11_slips_ok (d := d + 9) hy ?_)
                              show Wp (d + 14, 322, 734, cu, su, [some (fA 1000), some (fA 0), some (fA 122), some (fA 155), some (fI l4), _, _, _], [fI y731.1]) (156, fjl L, y731.2) Q
                              obtain ⟨⟨g0, g1, g2, g3⟩, h⟩ := fgd h
                              refine Wp.run 11 (P := [0 ≤ (fw (l4 + 1)) ∧ (fw (l4 + 1)) < (L : Int), 0 ≤ (fw (l4 + 2)) ∧ (fw (l4 + 2)) < (L : Int)]) (f' := (d + 14, 322, 747, cu, su, [some (fA 1000), some (fA 0), some (fA 122), some (fA 155), some (fI l4), _, _, _], [fI (y731.2 1000 (fw (l4 + 2)).toNat), fI (y731.2 1000 (fw (l4 + 1)).toNat), fA 122, fI y731.1])) (h' := (156, fjl L, y731.2)) rfl ?_ ?_
                              · rw [fw_id g0, fw_id g2]; exact ⟨g1, g3⟩
                              rw [fw_id g0, fw_id g2]
                              obtain ⟨y747, hy, h⟩ := fbd h
                              refine Wp.call rfl (by show cu + 0 ≤ 601023 ∧ su + 0 ≤ 7293028; omega) (s_X12_slips_ok (d := d + 10) hy ?_)
                              show Wp (d + 14, 322, 750, cu, su, [some (fA 1000), some (fA 0), some (fA 122), some (fA 155), some (fI l4), _, _, _], [fI y747.1, fI y731.1]) (156, fjl L, y747.2) Q
                              refine Wp.br rfl (fun (c : y731.1 = y747.1) => ?_) (fun (c : ¬ (y731.1 = y747.1)) => ?_)
                              · replace h := fps c h
                                obtain ⟨g0, h⟩ := fgd h
                                refine Wp.run 2 (f' := (d + 14, 322, 23, cu, su, [some (fA 1000), some (fA 0), some (fA 122), some (fA 155), some (fI (fw (l4 + 6))), _, _, _], [])) (h' := (156, fjl L, y747.2)) rfl trivial ?_
                                rw [fw_id g0]
                                exact hC _ _ _ _ _ _ _ (by omega) (by omega) (Option.some.inj h).symm
                              · replace h := fng c h
                                cases h
                            · replace h := fng c h
                              refine ⟨fun (c : (fand (M 1000 (l4).toNat) 63) = 13) => ?_, fun (c : ¬ ((fand (M 1000 (l4).toNat) 63) = 13)) => ?_⟩
                              · replace h := fps c h
                                show Wp (d + 14, 322, 755, cu, su, [some (fA 1000), some (fA 0), some (fA 122), some (fA 155), some (fI l4), _, _, _], []) (156, fjl L, M) Q
                                obtain ⟨⟨g0, g1⟩, h⟩ := fgd h
                                refine Wp.run 7 (P := [0 ≤ (fw (l4 + 1)) ∧ (fw (l4 + 1)) < (L : Int)]) (f' := (d + 14, 322, 763, cu, su, [some (fA 1000), some (fA 0), some (fA 122), some (fA 155), some (fI l4), _, _, _], [fA 155, fI (M 1000 (fw (l4 + 1)).toNat), fA 0])) (h' := (156, fjl L, M)) rfl ?_ ?_
                                · rw [fw_id g0]; exact g1
                                rw [fw_id g0]
                                obtain ⟨y763, hy, h⟩ := fbd h
                                refine Wp.call rfl (by show cu + 1 ≤ 601023 ∧ su + 6 ≤ 7293028; omega) (s_L_slipped_0_155_ok (d := d + 5) hy ?_)
                                show Wp (d + 14, 322, 766, cu + 1, su + 6, [some (fA 1000), some (fA 0), some (fA 122), some (fA 155), some (fI l4), _, _, _], [fI y763.1]) (156, fjl L, y763.2) Q
                                obtain ⟨⟨g0, g1⟩, h⟩ := fgd h
                                refine Wp.run 7 (P := [0 ≤ (fw (l4 + 1)) ∧ (fw (l4 + 1)) < (L : Int)]) (f' := (d + 14, 322, 775, cu + 1, su + 6, [some (fA 1000), some (fA 0), some (fA 122), some (fA 155), some (fI l4), some (fI y763.1), _, _], [fI (y763.2 1000 (fw (l4 + 1)).toNat), fA 122])) (h' := (156, fjl L, y763.2)) rfl ?_ ?_
                                · rw [fw_id g0]; exact g1
                                rw [fw_id g0]
                                obtain ⟨y775, hy, h⟩ := fbd h
                                refine Wp.call rfl (by show cu + 1 + 0 ≤ 601023 ∧ su + 6 + 0 ≤ 7293028; omega) (s_X12_slipped_ok (d := d + 12) hy ?_)
                                show Wp (d + 14, 322, 778, cu + 1, su + 6, [some (fA 1000), some (fA 0), some (fA 122), some (fA 155), some (fI l4), some (fI y763.1), _, _], [fI y775.1]) (156, fjl L, y775.2) Q
                                refine Wp.run 2 (f' := (d + 14, 322, 781, cu + 1, su + 6, [some (fA 1000), some (fA 0), some (fA 122), some (fA 155), some (fI l4), some (fI y763.1), some (fI y775.1), _], [fA 122])) (h' := (156, fjl L, y775.2)) rfl trivial ?_
                                obtain ⟨y781, hy, h⟩ := fbd h
                                refine Wp.call rfl (by show cu + 1 + 0 ≤ 601023 ∧ su + 6 + 0 ≤ 7293028; omega) (s_X12_thrown_ok (d := d + 13) hy ?_)
                                show Wp (d + 14, 322, 784, cu + 1, su + 6, [some (fA 1000), some (fA 0), some (fA 122), some (fA 155), some (fI l4), some (fI y763.1), some (fI y775.1), _], [fI y781]) (156, fjl L, y775.2) Q
                                refine Wp.run 1 (f' := (d + 14, 322, 786, cu + 1, su + 6, [some (fA 1000), some (fA 0), some (fA 122), some (fA 155), some (fI l4), some (fI y763.1), some (fI y775.1), _], [fI y763.1, fI y781])) (h' := (156, fjl L, y775.2)) rfl trivial ?_
                                refine Wp.br rfl (fun (c : y781 = y763.1) => ?_) (fun (c : ¬ (y781 = y763.1)) => ?_)
                                · replace h := fps c h
                                  refine Wp.run 1 (f' := (d + 14, 322, 793, cu + 1, su + 6, [some (fA 1000), some (fA 0), some (fA 122), some (fA 155), some (fI l4), _, some (fI y775.1), _], [fI y763.1])) (h' := (156, fjl L, y775.2)) rfl trivial ?_
                                  refine Wp.br rfl (fun (c : ¬ y763.1 = 0) => ?_) (fun (c : ¬ (¬ y763.1 = 0)) => ?_)
                                  · replace h := fps c h
                                    obtain ⟨g0, h⟩ := fgd h
                                    refine Wp.run 3 (f' := (d + 14, 322, 23, cu + 1, su + 6, [some (fA 1000), some (fA 0), some (fA 122), some (fA 155), some (fI (fw (l4 + 6))), _, _, _], [])) (h' := (156, fjl L, y775.2)) rfl trivial ?_
                                    rw [fw_id g0]
                                    exact hC _ _ _ _ _ _ _ (by omega) (by omega) (Option.some.inj h).symm
                                  · replace h := fng c h
                                    refine Wp.run 6 (P := [(0 : Int) ≤ 0 ∧ (0 : Int) < 1]) (f' := (d + 14, 322, 803, cu + 1, su + 6, [some (fA 1000), some (fA 0), some (fA 122), some (fA 155), some (fI l4), _, _, _], [fI (fcm (y775.2 155 0) y775.1)])) (h' := (156, fjl L, y775.2)) rfl ?_ ?_
                                    · exact (by decide : (0 : Int) ≤ 0 ∧ (0 : Int) < 1)
                                    refine Wp.br rfl (fun (c : (fcm (y775.2 155 0) y775.1) = 0) => ?_) (fun (c : ¬ ((fcm (y775.2 155 0) y775.1) = 0)) => ?_)
                                    · replace c := (fcm_eq _ _).mp c
                                      replace h := fps c h
                                      obtain ⟨g0, h⟩ := fgd h
                                      refine Wp.run 3 (f' := (d + 14, 322, 23, cu + 1, su + 6, [some (fA 1000), some (fA 0), some (fA 122), some (fA 155), some (fI (fw (l4 + 6))), _, _, _], [])) (h' := (156, fjl L, y775.2)) rfl trivial ?_
                                      rw [fw_id g0]
                                      exact hC _ _ _ _ _ _ _ (by omega) (by omega) (Option.some.inj h).symm
                                    · replace c := fun z => c ((fcm_eq _ _).mpr z)
                                      replace h := fng c h
                                      cases h
                                · replace h := fng c h
                                  cases h
                              · replace h := fng c h
                                refine ⟨fun (c : (fand (M 1000 (l4).toNat) 63) = 14) => ?_, fun (c : ¬ ((fand (M 1000 (l4).toNat) 63) = 14)) => ?_⟩
                                · replace h := fps c h
                                  show Wp (d + 14, 322, 811, cu, su, [some (fA 1000), some (fA 0), some (fA 122), some (fA 155), some (fI l4), _, _, _], []) (156, fjl L, M) Q
                                  obtain ⟨⟨g0, g1, g2, g3⟩, h⟩ := fgd h
                                  refine Wp.run 12 (P := [0 ≤ (fw (l4 + 1)) ∧ (fw (l4 + 1)) < (L : Int), 0 ≤ (fw (l4 + 2)) ∧ (fw (l4 + 2)) < (L : Int)]) (f' := (d + 14, 322, 825, cu, su, [some (fA 1000), some (fA 0), some (fA 122), some (fA 155), some (fI l4), _, _, _], [fA 155, fI (M 1000 (fw (l4 + 2)).toNat), fI (M 1000 (fw (l4 + 1)).toNat), fA 0])) (h' := (156, fjl L, M)) rfl ?_ ?_
                                  · rw [fw_id g0, fw_id g2]; exact ⟨g1, g3⟩
                                  rw [fw_id g0, fw_id g2]
                                  obtain ⟨y825, hy, h⟩ := fbd h
                                  refine Wp.call rfl (by show cu + 1 ≤ 601023 ∧ su + 6 ≤ 7293028; omega) (s_L_stove_0_155_ok (d := d + 5) hy ?_)
                                  show Wp (d + 14, 322, 828, cu + 1, su + 6, [some (fA 1000), some (fA 0), some (fA 122), some (fA 155), some (fI l4), _, _, _], [fI y825.1]) (156, fjl L, y825.2) Q
                                  obtain ⟨⟨g0, g1, g2, g3⟩, h⟩ := fgd h
                                  refine Wp.run 12 (P := [0 ≤ (fw (l4 + 1)) ∧ (fw (l4 + 1)) < (L : Int), 0 ≤ (fw (l4 + 2)) ∧ (fw (l4 + 2)) < (L : Int)]) (f' := (d + 14, 322, 843, cu + 1, su + 6, [some (fA 1000), some (fA 0), some (fA 122), some (fA 155), some (fI l4), some (fI y825.1), _, _], [fI (y825.2 1000 (fw (l4 + 2)).toNat), fI (y825.2 1000 (fw (l4 + 1)).toNat), fA 122])) (h' := (156, fjl L, y825.2)) rfl ?_ ?_
                                  · rw [fw_id g0, fw_id g2]; exact ⟨g1, g3⟩
                                  rw [fw_id g0, fw_id g2]
                                  obtain ⟨y843, hy, h⟩ := fbd h
                                  refine Wp.call rfl (by show cu + 1 + 0 ≤ 601023 ∧ su + 6 + 0 ≤ 7293028; omega) (s_X12_stove_ok (d := d + 10) hy ?_)
                                  show Wp (d + 14, 322, 846, cu + 1, su + 6, [some (fA 1000), some (fA 0), some (fA 122), some (fA 155), some (fI l4), some (fI y825.1), _, _], [fJ y843.1]) (156, fjl L, y843.2) Q
                                  refine Wp.run 2 (f' := (d + 14, 322, 849, cu + 1, su + 6, [some (fA 1000), some (fA 0), some (fA 122), some (fA 155), some (fI l4), some (fI y825.1), some (fJ y843.1), none], [fA 122])) (h' := (156, fjl L, y843.2)) rfl trivial ?_
                                  obtain ⟨y849, hy, h⟩ := fbd h
                                  refine Wp.call rfl (by show cu + 1 + 0 ≤ 601023 ∧ su + 6 + 0 ≤ 7293028; omega) (s_X12_thrown_ok (d := d + 13) hy ?_)
                                  show Wp (d + 14, 322, 852, cu + 1, su + 6, [some (fA 1000), some (fA 0), some (fA 122), some (fA 155), some (fI l4), some (fI y825.1), some (fJ y843.1), none], [fI y849]) (156, fjl L, y843.2) Q
                                  refine Wp.run 1 (f' := (d + 14, 322, 854, cu + 1, su + 6, [some (fA 1000), some (fA 0), some (fA 122), some (fA 155), some (fI l4), some (fI y825.1), some (fJ y843.1), none], [fI y825.1, fI y849])) (h' := (156, fjl L, y843.2)) rfl trivial ?_
                                  refine Wp.br rfl (fun (c : y849 = y825.1) => ?_) (fun (c : ¬ (y849 = y825.1)) => ?_)
                                  · replace h := fps c h
                                    refine Wp.run 1 (f' := (d + 14, 322, 861, cu + 1, su + 6, [some (fA 1000), some (fA 0), some (fA 122), some (fA 155), some (fI l4), _, some (fJ y843.1), none], [fI y825.1])) (h' := (156, fjl L, y843.2)) rfl trivial ?_
                                    refine Wp.br rfl (fun (c : ¬ y825.1 = 0) => ?_) (fun (c : ¬ (¬ y825.1 = 0)) => ?_)
                                    · replace h := fps c h
                                      obtain ⟨g0, h⟩ := fgd h
                                      refine Wp.run 3 (f' := (d + 14, 322, 23, cu + 1, su + 6, [some (fA 1000), some (fA 0), some (fA 122), some (fA 155), some (fI (fw (l4 + 6))), _, _, _], [])) (h' := (156, fjl L, y843.2)) rfl trivial ?_
                                      rw [fw_id g0]
                                      exact hC _ _ _ _ _ _ _ (by omega) (by omega) (Option.some.inj h).symm
                                    · replace h := fng c h
                                      refine Wp.run 5 (P := [(0 : Int) ≤ 0 ∧ (0 : Int) < 1]) (f' := (d + 14, 322, 870, cu + 1, su + 6, [some (fA 1000), some (fA 0), some (fA 122), some (fA 155), some (fI l4), _, _, _], [fI (fcm (y843.2 155 0) y843.1)])) (h' := (156, fjl L, y843.2)) rfl ?_ ?_
                                      · exact (by decide : (0 : Int) ≤ 0 ∧ (0 : Int) < 1)
                                      refine Wp.br rfl (fun (c : (fcm (y843.2 155 0) y843.1) = 0) => ?_) (fun (c : ¬ ((fcm (y843.2 155 0) y843.1) = 0)) => ?_)
                                      · replace c := (fcm_eq _ _).mp c
                                        replace h := fps c h
                                        obtain ⟨g0, h⟩ := fgd h
                                        refine Wp.run 3 (f' := (d + 14, 322, 23, cu + 1, su + 6, [some (fA 1000), some (fA 0), some (fA 122), some (fA 155), some (fI (fw (l4 + 6))), _, _, _], [])) (h' := (156, fjl L, y843.2)) rfl trivial ?_
                                        rw [fw_id g0]
                                        exact hC _ _ _ _ _ _ _ (by omega) (by omega) (Option.some.inj h).symm
                                      · replace c := fun z => c ((fcm_eq _ _).mpr z)
                                        replace h := fng c h
                                        cases h
                                  · replace h := fng c h
                                    cases h
                                · replace h := fng c h
                                  refine ⟨fun (c : (fand (M 1000 (l4).toNat) 63) = 15) => ?_, fun (c : ¬ ((fand (M 1000 (l4).toNat) 63) = 15)) => ?_⟩
                                  · replace h := fps c h
                                    show Wp (d + 14, 322, 878, cu, su, [some (fA 1000), some (fA 0), some (fA 122), some (fA 155), some (fI l4), _, _, _], []) (156, fjl L, M) Q
                                    obtain ⟨⟨g0, g1, g2, g3, g4, g5, g6⟩, h⟩ := fgd h
                                    refine Wp.run 20 (P := [0 ≤ (fw (l4 + 1)) ∧ (fw (l4 + 1)) < (L : Int), 0 ≤ (fw (l4 + 2)) ∧ (fw (l4 + 2)) < (L : Int), 0 ≤ (fw (l4 + 3)) ∧ (fw (l4 + 3)) < (L : Int)]) (f' := (d + 14, 322, 902, cu, su, [some (fA 1000), some (fA 0), some (fA 122), some (fA 155), some (fI l4), _, _, _], [fI (fw (l4 + 4)), fA 1000, fI (M 1000 (fw (l4 + 3)).toNat), fI (M 1000 (fw (l4 + 2)).toNat), fI (M 1000 (fw (l4 + 1)).toNat), fA 0])) (h' := (156, fjl L, M)) rfl ?_ ?_
                                    · rw [fw_id g0, fw_id g2, fw_id g4]; exact ⟨g1, g3, g5⟩
                                    rw [fw_id g0, fw_id g2, fw_id g4, fw_id g6]
                                    obtain ⟨g0, h⟩ := fgd h
                                    refine Wp.run 2 (P := [0 ≤ (l4 + 4) ∧ (l4 + 4) < (L : Int)]) (f' := (d + 14, 322, 904, cu, su, [some (fA 1000), some (fA 0), some (fA 122), some (fA 155), some (fI l4), _, _, _], [fA 155, fI (M 1000 (l4 + 4).toNat), fI (M 1000 (l4 + 3).toNat), fI (M 1000 (l4 + 2).toNat), fI (M 1000 (l4 + 1).toNat), fA 0])) (h' := (156, fjl L, M)) rfl ?_ ?_
                                    · exact g0
                                    obtain ⟨y904, hy, h⟩ := fbd h
                                    refine Wp.call rfl (by show cu + 1 ≤ 601023 ∧ su + 6 ≤ 7293028; omega) (s_L_lean_0_155_ok (d := d + 5) hy ?_)
                                    show Wp (d + 14, 322, 907, cu + 1, su + 6, [some (fA 1000), some (fA 0), some (fA 122), some (fA 155), some (fI l4), _, _, _], [fI y904.1]) (156, fjl L, y904.2) Q
                                    obtain ⟨⟨g0, g1, g2, g3, g4, g5⟩, h⟩ := fgd h
                                    refine Wp.run 20 (P := [0 ≤ (fw (l4 + 1)) ∧ (fw (l4 + 1)) < (L : Int), 0 ≤ (fw (l4 + 2)) ∧ (fw (l4 + 2)) < (L : Int), 0 ≤ (fw (l4 + 3)) ∧ (fw (l4 + 3)) < (L : Int)]) (f' := (d + 14, 322, 932, cu + 1, su + 6, [some (fA 1000), some (fA 0), some (fA 122), some (fA 155), some (fI l4), some (fI y904.1), _, _], [fI 4, fI l4, fA 1000, fI (y904.2 1000 (fw (l4 + 3)).toNat), fI (y904.2 1000 (fw (l4 + 2)).toNat), fI (y904.2 1000 (fw (l4 + 1)).toNat), fA 122])) (h' := (156, fjl L, y904.2)) rfl ?_ ?_
                                    · rw [fw_id g0, fw_id g2, fw_id g4]; exact ⟨g1, g3, g5⟩
                                    rw [fw_id g0, fw_id g2, fw_id g4]
                                    obtain ⟨⟨g0, g1⟩, h⟩ := fgd h
                                    refine Wp.run 2 (P := [0 ≤ (fw (l4 + 4)) ∧ (fw (l4 + 4)) < (L : Int)]) (f' := (d + 14, 322, 934, cu + 1, su + 6, [some (fA 1000), some (fA 0), some (fA 122), some (fA 155), some (fI l4), some (fI y904.1), _, _], [fI (y904.2 1000 (fw (l4 + 4)).toNat), fI (y904.2 1000 (l4 + 3).toNat), fI (y904.2 1000 (l4 + 2).toNat), fI (y904.2 1000 (l4 + 1).toNat), fA 122])) (h' := (156, fjl L, y904.2)) rfl ?_ ?_
                                    · rw [fw_id g0]; exact g1
                                    rw [fw_id g0]
                                    obtain ⟨y934, hy, h⟩ := fbd h
                                    refine Wp.call rfl (by show cu + 1 + 0 ≤ 601023 ∧ su + 6 + 0 ≤ 7293028; omega) (s_X12_lean_ok (d := d + 11) hy ?_)
                                    show Wp (d + 14, 322, 937, cu + 1, su + 6, [some (fA 1000), some (fA 0), some (fA 122), some (fA 155), some (fI l4), some (fI y904.1), _, _], [fI y934.1]) (156, fjl L, y934.2) Q
                                    refine Wp.run 2 (f' := (d + 14, 322, 940, cu + 1, su + 6, [some (fA 1000), some (fA 0), some (fA 122), some (fA 155), some (fI l4), some (fI y904.1), some (fI y934.1), _], [fA 122])) (h' := (156, fjl L, y934.2)) rfl trivial ?_
                                    obtain ⟨y940, hy, h⟩ := fbd h
                                    refine Wp.call rfl (by show cu + 1 + 0 ≤ 601023 ∧ su + 6 + 0 ≤ 7293028; omega) (s_X12_thrown_ok (d := d + 13) hy ?_)
                                    show Wp (d + 14, 322, 943, cu + 1, su + 6, [some (fA 1000), some (fA 0), some (fA 122), some (fA 155), some (fI l4), some (fI y904.1), some (fI y934.1), _], [fI y940]) (156, fjl L, y934.2) Q
                                    refine Wp.run 1 (f' := (d + 14, 322, 945, cu + 1, su + 6, [some (fA 1000), some (fA 0), some (fA 122), some (fA 155), some (fI l4), some (fI y904.1), some (fI y934.1), _], [fI y904.1, fI y940])) (h' := (156, fjl L, y934.2)) rfl trivial ?_
                                    refine Wp.br rfl (fun (c : y940 = y904.1) => ?_) (fun (c : ¬ (y940 = y904.1)) => ?_)
                                    · replace h := fps c h
                                      refine Wp.run 1 (f' := (d + 14, 322, 952, cu + 1, su + 6, [some (fA 1000), some (fA 0), some (fA 122), some (fA 155), some (fI l4), _, some (fI y934.1), _], [fI y904.1])) (h' := (156, fjl L, y934.2)) rfl trivial ?_
                                      refine Wp.br rfl (fun (c : ¬ y904.1 = 0) => ?_) (fun (c : ¬ (¬ y904.1 = 0)) => ?_)
                                      · replace h := fps c h
                                        obtain ⟨g0, h⟩ := fgd h
                                        refine Wp.run 3 (f' := (d + 14, 322, 23, cu + 1, su + 6, [some (fA 1000), some (fA 0), some (fA 122), some (fA 155), some (fI (fw (l4 + 6))), _, _, _], [])) (h' := (156, fjl L, y934.2)) rfl trivial ?_
                                        rw [fw_id g0]
                                        exact hC _ _ _ _ _ _ _ (by omega) (by omega) (Option.some.inj h).symm
                                      · replace h := fng c h
                                        refine Wp.run 6 (P := [(0 : Int) ≤ 0 ∧ (0 : Int) < 1]) (f' := (d + 14, 322, 962, cu + 1, su + 6, [some (fA 1000), some (fA 0), some (fA 122), some (fA 155), some (fI l4), _, _, _], [fI (fcm (y934.2 155 0) y934.1)])) (h' := (156, fjl L, y934.2)) rfl ?_ ?_
                                        · exact (by decide : (0 : Int) ≤ 0 ∧ (0 : Int) < 1)
                                        refine Wp.br rfl (fun (c : (fcm (y934.2 155 0) y934.1) = 0) => ?_) (fun (c : ¬ ((fcm (y934.2 155 0) y934.1) = 0)) => ?_)
                                        · replace c := (fcm_eq _ _).mp c
                                          replace h := fps c h
                                          obtain ⟨g0, h⟩ := fgd h
                                          refine Wp.run 3 (f' := (d + 14, 322, 23, cu + 1, su + 6, [some (fA 1000), some (fA 0), some (fA 122), some (fA 155), some (fI (fw (l4 + 6))), _, _, _], [])) (h' := (156, fjl L, y934.2)) rfl trivial ?_
                                          rw [fw_id g0]
                                          exact hC _ _ _ _ _ _ _ (by omega) (by omega) (Option.some.inj h).symm
                                        · replace c := fun z => c ((fcm_eq _ _).mpr z)
                                          replace h := fng c h
                                          cases h
                                    · replace h := fng c h
                                      cases h
                                  · replace h := fng c h
                                    refine ⟨fun (c : (fand (M 1000 (l4).toNat) 63) = 16) => ?_, fun (c : ¬ ((fand (M 1000 (l4).toNat) 63) = 16)) => ?_⟩
                                    · replace h := fps c h
                                      show Wp (d + 14, 322, 970, cu, su, [some (fA 1000), some (fA 0), some (fA 122), some (fA 155), some (fI l4), _, _, _], []) (156, fjl L, M) Q
                                      obtain ⟨⟨g0, g1⟩, h⟩ := fgd h
                                      refine Wp.run 6 (P := [0 ≤ (fw (l4 + 1)) ∧ (fw (l4 + 1)) < (L : Int)]) (f' := (d + 14, 322, 977, cu, su, [some (fA 1000), some (fA 0), some (fA 122), some (fA 155), some (fI l4), _, _, _], [fI (M 1000 (fw (l4 + 1)).toNat), fA 0])) (h' := (156, fjl L, M)) rfl ?_ ?_
                                      · rw [fw_id g0]; exact g1
                                      rw [fw_id g0]
                                      obtain ⟨y977, hy, h⟩ := fbd h
                                      refine Wp.call rfl (by show cu + 0 ≤ 601023 ∧ su + 0 ≤ 7293028; omega) (s_X11_batch_ok (d := d + 11) hy ?_)
                                      show Wp (d + 14, 322, 980, cu, su, [some (fA 1000), some (fA 0), some (fA 122), some (fA 155), some (fI l4), _, _, _], [fI y977.1]) (156, fjl L, y977.2) Q
                                      obtain ⟨⟨g0, g1⟩, h⟩ := fgd h
                                      refine Wp.run 6 (P := [0 ≤ (fw (l4 + 1)) ∧ (fw (l4 + 1)) < (L : Int)]) (f' := (d + 14, 322, 987, cu, su, [some (fA 1000), some (fA 0), some (fA 122), some (fA 155), some (fI l4), _, _, _], [fI (y977.2 1000 (fw (l4 + 1)).toNat), fA 122, fI y977.1])) (h' := (156, fjl L, y977.2)) rfl ?_ ?_
                                      · rw [fw_id g0]; exact g1
                                      rw [fw_id g0]
                                      obtain ⟨y987, hy, h⟩ := fbd h
                                      refine Wp.call rfl (by show cu + 0 ≤ 601023 ∧ su + 0 ≤ 7293028; omega) (s_X12_batch_ok (d := d + 11) hy ?_)
                                      show Wp (d + 14, 322, 990, cu, su, [some (fA 1000), some (fA 0), some (fA 122), some (fA 155), some (fI l4), _, _, _], [fI y987.1, fI y977.1]) (156, fjl L, y987.2) Q
                                      refine Wp.br rfl (fun (c : y977.1 = y987.1) => ?_) (fun (c : ¬ (y977.1 = y987.1)) => ?_)
                                      · replace h := fps c h
                                        obtain ⟨g0, h⟩ := fgd h
                                        refine Wp.run 2 (f' := (d + 14, 322, 23, cu, su, [some (fA 1000), some (fA 0), some (fA 122), some (fA 155), some (fI (fw (l4 + 6))), _, _, _], [])) (h' := (156, fjl L, y987.2)) rfl trivial ?_
                                        rw [fw_id g0]
                                        exact hC _ _ _ _ _ _ _ (by omega) (by omega) (Option.some.inj h).symm
                                      · replace h := fng c h
                                        cases h
                                    · replace h := fng c h
                                      refine ⟨fun (c : (fand (M 1000 (l4).toNat) 63) = 17) => ?_, fun (c : ¬ ((fand (M 1000 (l4).toNat) 63) = 17)) => ?_⟩
                                      · replace h := fps c h
                                        show Wp (d + 14, 322, 995, cu, su, [some (fA 1000), some (fA 0), some (fA 122), some (fA 155), some (fI l4), _, _, _], []) (156, fjl L, M) Q
                                        obtain ⟨⟨g0, g1, g2, g3⟩, h⟩ := fgd h
                                        refine Wp.run 11 (P := [0 ≤ (fw (l4 + 1)) ∧ (fw (l4 + 1)) < (L : Int), 0 ≤ (fw (l4 + 2)) ∧ (fw (l4 + 2)) < (L : Int)]) (f' := (d + 14, 322, 1008, cu, su, [some (fA 1000), some (fA 0), some (fA 122), some (fA 155), some (fI l4), _, _, _], [fI (M 1000 (fw (l4 + 2)).toNat), fI (M 1000 (fw (l4 + 1)).toNat), fA 0])) (h' := (156, fjl L, M)) rfl ?_ ?_
                                        · rw [fw_id g0, fw_id g2]; exact ⟨g1, g3⟩
                                        rw [fw_id g0, fw_id g2]
                                        obtain ⟨y1008, hy, h⟩ := fbd h
                                        refine Wp.call rfl (by show cu + 0 ≤ 601023 ∧ su + 0 ≤ 7293028; omega) (s_X11_cracked_ok (d := d + 10) hy ?_)
                                        show Wp (d + 14, 322, 1011, cu, su, [some (fA 1000), some (fA 0), some (fA 122), some (fA 155), some (fI l4), _, _, _], [fI y1008.1]) (156, fjl L, y1008.2) Q
                                        obtain ⟨⟨g0, g1, g2, g3⟩, h⟩ := fgd h
                                        refine Wp.run 11 (P := [0 ≤ (fw (l4 + 1)) ∧ (fw (l4 + 1)) < (L : Int), 0 ≤ (fw (l4 + 2)) ∧ (fw (l4 + 2)) < (L : Int)]) (f' := (d + 14, 322, 1024, cu, su, [some (fA 1000), some (fA 0), some (fA 122), some (fA 155), some (fI l4), _, _, _], [fI (y1008.2 1000 (fw (l4 + 2)).toNat), fI (y1008.2 1000 (fw (l4 + 1)).toNat), fA 122, fI y1008.1])) (h' := (156, fjl L, y1008.2)) rfl ?_ ?_
                                        · rw [fw_id g0, fw_id g2]; exact ⟨g1, g3⟩
                                        rw [fw_id g0, fw_id g2]
                                        obtain ⟨y1024, hy, h⟩ := fbd h
                                        refine Wp.call rfl (by show cu + 0 ≤ 601023 ∧ su + 0 ≤ 7293028; omega) (s_X12_cracked_ok (d := d + 11) hy ?_)
                                        show Wp (d + 14, 322, 1027, cu, su, [some (fA 1000), some (fA 0), some (fA 122), some (fA 155), some (fI l4), _, _, _], [fI y1024.1, fI y1008.1]) (156, fjl L, y1024.2) Q
                                        refine Wp.br rfl (fun (c : y1008.1 = y1024.1) => ?_) (fun (c : ¬ (y1008.1 = y1024.1)) => ?_)
                                        · replace h := fps c h
                                          obtain ⟨g0, h⟩ := fgd h
                                          refine Wp.run 2 (f' := (d + 14, 322, 23, cu, su, [some (fA 1000), some (fA 0), some (fA 122), some (fA 155), some (fI (fw (l4 + 6))), _, _, _], [])) (h' := (156, fjl L, y1024.2)) rfl trivial ?_
                                          rw [fw_id g0]
                                          exact hC _ _ _ _ _ _ _ (by omega) (by omega) (Option.some.inj h).symm
                                        · replace h := fng c h
                                          cases h
                                      · replace h := fng c h
                                        refine ⟨fun (c : (fand (M 1000 (l4).toNat) 63) = 18) => ?_, fun (c : ¬ ((fand (M 1000 (l4).toNat) 63) = 18)) => ?_⟩
                                        · replace h := fps c h
                                          show Wp (d + 14, 322, 1032, cu, su, [some (fA 1000), some (fA 0), some (fA 122), some (fA 155), some (fI l4), _, _, _], []) (156, fjl L, M) Q
                                          obtain ⟨⟨g0, g1, g2, g3⟩, h⟩ := fgd h
                                          refine Wp.run 11 (P := [0 ≤ (fw (l4 + 1)) ∧ (fw (l4 + 1)) < (L : Int), 0 ≤ (fw (l4 + 2)) ∧ (fw (l4 + 2)) < (L : Int)]) (f' := (d + 14, 322, 1045, cu, su, [some (fA 1000), some (fA 0), some (fA 122), some (fA 155), some (fI l4), _, _, _], [fI (M 1000 (fw (l4 + 2)).toNat), fI (M 1000 (fw (l4 + 1)).toNat), fA 0])) (h' := (156, fjl L, M)) rfl ?_ ?_
                                          · rw [fw_id g0, fw_id g2]; exact ⟨g1, g3⟩
                                          rw [fw_id g0, fw_id g2]
                                          obtain ⟨y1045, hy, h⟩ := fbd h
                                          refine Wp.call rfl (by show cu + 0 ≤ 601023 ∧ su + 0 ≤ 7293028; omega) (s_X11_weight_ok (d := d + 8) hy ?_)
                                          show Wp (d + 14, 322, 1048, cu, su, [some (fA 1000), some (fA 0), some (fA 122), some (fA 155), some (fI l4), _, _, _], [fI y1045.1]) (156, fjl L, y1045.2) Q
                                          obtain ⟨⟨g0, g1, g2, g3⟩, h⟩ := fgd h
                                          refine Wp.run 11 (P := [0 ≤ (fw (l4 + 1)) ∧ (fw (l4 + 1)) < (L : Int), 0 ≤ (fw (l4 + 2)) ∧ (fw (l4 + 2)) < (L : Int)]) (f' := (d + 14, 322, 1061, cu, su, [some (fA 1000), some (fA 0), some (fA 122), some (fA 155), some (fI l4), _, _, _], [fI (y1045.2 1000 (fw (l4 + 2)).toNat), fI (y1045.2 1000 (fw (l4 + 1)).toNat), fA 122, fI y1045.1])) (h' := (156, fjl L, y1045.2)) rfl ?_ ?_
                                          · rw [fw_id g0, fw_id g2]; exact ⟨g1, g3⟩
                                          rw [fw_id g0, fw_id g2]
                                          obtain ⟨y1061, hy, h⟩ := fbd h
                                          refine Wp.call rfl (by show cu + 0 ≤ 601023 ∧ su + 0 ≤ 7293028; omega) (s_X12_weight_ok (d := d + 8) hy ?_)
                                          show Wp (d + 14, 322, 1064, cu, su, [some (fA 1000), some (fA 0), some (fA 122), some (fA 155), some (fI l4), _, _, _], [fI y1061.1, fI y1045.1]) (156, fjl L, y1061.2) Q
                                          refine Wp.br rfl (fun (c : y1045.1 = y1061.1) => ?_) (fun (c : ¬ (y1045.1 = y1061.1)) => ?_)
                                          · replace h := fps c h
                                            obtain ⟨g0, h⟩ := fgd h
                                            refine Wp.run 2 (f' := (d + 14, 322, 23, cu, su, [some (fA 1000), some (fA 0), some (fA 122), some (fA 155), some (fI (fw (l4 + 6))), _, _, _], [])) (h' := (156, fjl L, y1061.2)) rfl trivial ?_
                                            rw [fw_id g0]
                                            exact hC _ _ _ _ _ _ _ (by omega) (by omega) (Option.some.inj h).symm
                                          · replace h := fng c h
                                            cases h
                                        · replace h := fng c h
                                          refine ⟨fun (c : (fand (M 1000 (l4).toNat) 63) = 19) => ?_, fun (c : ¬ ((fand (M 1000 (l4).toNat) 63) = 19)) => ?_⟩
                                          · replace h := fps c h
                                            show Wp (d + 14, 322, 1069, cu, su, [some (fA 1000), some (fA 0), some (fA 122), some (fA 155), some (fI l4), _, _, _], []) (156, fjl L, M) Q
                                            obtain ⟨⟨g0, g1, g2, g3⟩, h⟩ := fgd h
                                            refine Wp.run 11 (P := [0 ≤ (fw (l4 + 1)) ∧ (fw (l4 + 1)) < (L : Int), 0 ≤ (fw (l4 + 2)) ∧ (fw (l4 + 2)) < (L : Int)]) (f' := (d + 14, 322, 1082, cu, su, [some (fA 1000), some (fA 0), some (fA 122), some (fA 155), some (fI l4), _, _, _], [fI (M 1000 (fw (l4 + 2)).toNat), fI (M 1000 (fw (l4 + 1)).toNat), fA 0])) (h' := (156, fjl L, M)) rfl ?_ ?_
                                            · rw [fw_id g0, fw_id g2]; exact ⟨g1, g3⟩
                                            rw [fw_id g0, fw_id g2]
                                            obtain ⟨y1082, hy, h⟩ := fbd h
                                            refine Wp.call rfl (by show cu + 0 ≤ 601023 ∧ su + 0 ≤ 7293028; omega) (s_X11_round_ok (d := d + 6) hy ?_)
                                            show Wp (d + 14, 322, 1085, cu, su, [some (fA 1000), some (fA 0), some (fA 122), some (fA 155), some (fI l4), _, _, _], [fI y1082.1]) (156, fjl L, y1082.2) Q
                                            obtain ⟨⟨g0, g1, g2, g3⟩, h⟩ := fgd h
                                            refine Wp.run 11 (P := [0 ≤ (fw (l4 + 1)) ∧ (fw (l4 + 1)) < (L : Int), 0 ≤ (fw (l4 + 2)) ∧ (fw (l4 + 2)) < (L : Int)]) (f' := (d + 14, 322, 1098, cu, su, [some (fA 1000), some (fA 0), some (fA 122), some (fA 155), some (fI l4), _, _, _], [fI (y1082.2 1000 (fw (l4 + 2)).toNat), fI (y1082.2 1000 (fw (l4 + 1)).toNat), fA 122, fI y1082.1])) (h' := (156, fjl L, y1082.2)) rfl ?_ ?_
                                            · rw [fw_id g0, fw_id g2]; exact ⟨g1, g3⟩
                                            rw [fw_id g0, fw_id g2]
                                            obtain ⟨y1098, hy, h⟩ := fbd h
                                            refine Wp.call rfl (by show cu + 0 ≤ 601023 ∧ su + 0 ≤ 7293028; omega) (s_X12_round_ok (d := d + 7) hy ?_)
                                            show Wp (d + 14, 322, 1101, cu, su, [some (fA 1000), some (fA 0), some (fA 122), some (fA 155), some (fI l4), _, _, _], [fI y1098.1, fI y1082.1]) (156, fjl L, y1098.2) Q
                                            refine Wp.br rfl (fun (c : y1082.1 = y1098.1) => ?_) (fun (c : ¬ (y1082.1 = y1098.1)) => ?_)
                                            · replace h := fps c h
                                              obtain ⟨g0, h⟩ := fgd h
                                              refine Wp.run 2 (f' := (d + 14, 322, 23, cu, su, [some (fA 1000), some (fA 0), some (fA 122), some (fA 155), some (fI (fw (l4 + 6))), _, _, _], [])) (h' := (156, fjl L, y1098.2)) rfl trivial ?_
                                              rw [fw_id g0]
                                              exact hC _ _ _ _ _ _ _ (by omega) (by omega) (Option.some.inj h).symm
                                            · replace h := fng c h
                                              cases h
                                          · replace h := fng c h
                                            refine ⟨fun (c : (fand (M 1000 (l4).toNat) 63) = 20) => ?_, fun (c : ¬ ((fand (M 1000 (l4).toNat) 63) = 20)) => ?_⟩
                                            · replace h := fps c h
                                              show Wp (d + 14, 322, 1106, cu, su, [some (fA 1000), some (fA 0), some (fA 122), some (fA 155), some (fI l4), _, _, _], []) (156, fjl L, M) Q
                                              obtain ⟨⟨g0, g1⟩, h⟩ := fgd h
                                              refine Wp.run 6 (P := [0 ≤ (fw (l4 + 1)) ∧ (fw (l4 + 1)) < (L : Int)]) (f' := (d + 14, 322, 1113, cu, su, [some (fA 1000), some (fA 0), some (fA 122), some (fA 155), some (fI l4), _, _, _], [fI (M 1000 (fw (l4 + 1)).toNat), fA 0])) (h' := (156, fjl L, M)) rfl ?_ ?_
                                              · rw [fw_id g0]; exact g1
                                              rw [fw_id g0]
                                              obtain ⟨y1113, hy, h⟩ := fbd h
                                              refine Wp.call rfl (by show cu + 0 ≤ 601023 ∧ su + 0 ≤ 7293028; omega) (s_X11_roundAt_ok (d := d + 12) hy ?_)
                                              show Wp (d + 14, 322, 1116, cu, su, [some (fA 1000), some (fA 0), some (fA 122), some (fA 155), some (fI l4), _, _, _], [fI y1113]) (156, fjl L, M) Q
                                              obtain ⟨⟨g0, g1⟩, h⟩ := fgd h
                                              refine Wp.run 6 (P := [0 ≤ (fw (l4 + 1)) ∧ (fw (l4 + 1)) < (L : Int)]) (f' := (d + 14, 322, 1123, cu, su, [some (fA 1000), some (fA 0), some (fA 122), some (fA 155), some (fI l4), _, _, _], [fI (M 1000 (fw (l4 + 1)).toNat), fA 122, fI y1113])) (h' := (156, fjl L, M)) rfl ?_ ?_
                                              · rw [fw_id g0]; exact g1
                                              rw [fw_id g0]
                                              obtain ⟨y1123, hy, h⟩ := fbd h
                                              refine Wp.call rfl (by show cu + 0 ≤ 601023 ∧ su + 0 ≤ 7293028; omega) (s_X12_roundAt_ok (d := d + 12) hy ?_)
                                              show Wp (d + 14, 322, 1126, cu, su, [some (fA 1000), some (fA 0), some (fA 122), some (fA 155), some (fI l4), _, _, _], [fI y1123.1, fI y1113]) (156, fjl L, y1123.2) Q
                                              refine Wp.br rfl (fun (c : y1113 = y1123.1) => ?_) (fun (c : ¬ (y1113 = y1123.1)) => ?_)
                                              · replace h := fps c h
                                                obtain ⟨g0, h⟩ := fgd h
                                                refine Wp.run 2 (f' := (d + 14, 322, 23, cu, su, [some (fA 1000), some (fA 0), some (fA 122), some (fA 155), some (fI (fw (l4 + 6))), _, _, _], [])) (h' := (156, fjl L, y1123.2)) rfl trivial ?_
                                                rw [fw_id g0]
                                                exact hC _ _ _ _ _ _ _ (by omega) (by omega) (Option.some.inj h).symm
                                              · replace h := fng c h
                                                cases h
                                            · replace h := fng c h
                                              refine ⟨fun (c : (fand (M 1000 (l4).toNat) 63) = 21) => ?_, fun (c : ¬ ((fand (M 1000 (l4).toNat) 63) = 21)) => ?_⟩
                                              · replace h := fps c h
                                                show Wp (d + 14, 322, 1131, cu, su, [some (fA 1000), some (fA 0), some (fA 122), some (fA 155), some (fI l4), _, _, _], []) (156, fjl L, M) Q
                                                refine Wp.run 1 (f' := (d + 14, 322, 1132, cu, su, [some (fA 1000), some (fA 0), some (fA 122), some (fA 155), some (fI l4), _, _, _], [fA 0])) (h' := (156, fjl L, M)) rfl trivial ?_
                                                obtain ⟨y1132, hy, h⟩ := fbd h
                                                refine Wp.call rfl (by show cu + 0 ≤ 601023 ∧ su + 0 ≤ 7293028; omega) (s_X11_home_ok (d := d + 13) hy ?_)
                                                show Wp (d + 14, 322, 1135, cu, su, [some (fA 1000), some (fA 0), some (fA 122), some (fA 155), some (fI l4), _, _, _], [fI y1132]) (156, fjl L, M) Q
                                                refine Wp.run 1 (f' := (d + 14, 322, 1136, cu, su, [some (fA 1000), some (fA 0), some (fA 122), some (fA 155), some (fI l4), _, _, _], [fA 122, fI y1132])) (h' := (156, fjl L, M)) rfl trivial ?_
                                                obtain ⟨y1136, hy, h⟩ := fbd h
                                                refine Wp.call rfl (by show cu + 0 ≤ 601023 ∧ su + 0 ≤ 7293028; omega) (s_X12_home_ok (d := d + 13) hy ?_)
                                                show Wp (d + 14, 322, 1139, cu, su, [some (fA 1000), some (fA 0), some (fA 122), some (fA 155), some (fI l4), _, _, _], [fI y1136.1, fI y1132]) (156, fjl L, y1136.2) Q
                                                refine Wp.br rfl (fun (c : y1132 = y1136.1) => ?_) (fun (c : ¬ (y1132 = y1136.1)) => ?_)
                                                · replace h := fps c h
                                                  obtain ⟨g0, h⟩ := fgd h
                                                  refine Wp.run 2 (f' := (d + 14, 322, 23, cu, su, [some (fA 1000), some (fA 0), some (fA 122), some (fA 155), some (fI (fw (l4 + 6))), _, _, _], [])) (h' := (156, fjl L, y1136.2)) rfl trivial ?_
                                                  rw [fw_id g0]
                                                  exact hC _ _ _ _ _ _ _ (by omega) (by omega) (Option.some.inj h).symm
                                                · replace h := fng c h
                                                  cases h
                                              · replace h := fng c h
                                                refine ⟨fun (c : (fand (M 1000 (l4).toNat) 63) = 22) => ?_, fun (c : ¬ ((fand (M 1000 (l4).toNat) 63) = 22)) => ?_⟩
                                                · replace h := fps c h
                                                  show Wp (d + 14, 322, 1144, cu, su, [some (fA 1000), some (fA 0), some (fA 122), some (fA 155), some (fI l4), _, _, _], []) (156, fjl L, M) Q
                                                  obtain ⟨⟨g0, g1, g2, g3⟩, h⟩ := fgd h
                                                  refine Wp.run 11 (P := [0 ≤ (fw (l4 + 1)) ∧ (fw (l4 + 1)) < (L : Int), 0 ≤ (fw (l4 + 2)) ∧ (fw (l4 + 2)) < (L : Int)]) (f' := (d + 14, 322, 1157, cu, su, [some (fA 1000), some (fA 0), some (fA 122), some (fA 155), some (fI l4), _, _, _], [fI (M 1000 (fw (l4 + 2)).toNat), fI (M 1000 (fw (l4 + 1)).toNat), fA 0])) (h' := (156, fjl L, M)) rfl ?_ ?_
                                                  · rw [fw_id g0, fw_id g2]; exact ⟨g1, g3⟩
                                                  rw [fw_id g0, fw_id g2]
                                                  obtain ⟨y1157, hy, h⟩ := fbd h
                                                  refine Wp.call rfl (by show cu + 0 ≤ 601023 ∧ su + 0 ≤ 7293028; omega) (s_X11_walked_ok (d := d + 9) hy ?_)
                                                  show Wp (d + 14, 322, 1160, cu, su, [some (fA 1000), some (fA 0), some (fA 122), some (fA 155), some (fI l4), _, _, _], [fI y1157.1]) (156, fjl L, y1157.2) Q
                                                  obtain ⟨⟨g0, g1, g2, g3⟩, h⟩ := fgd h
                                                  refine Wp.run 11 (P := [0 ≤ (fw (l4 + 1)) ∧ (fw (l4 + 1)) < (L : Int), 0 ≤ (fw (l4 + 2)) ∧ (fw (l4 + 2)) < (L : Int)]) (f' := (d + 14, 322, 1173, cu, su, [some (fA 1000), some (fA 0), some (fA 122), some (fA 155), some (fI l4), _, _, _], [fI (y1157.2 1000 (fw (l4 + 2)).toNat), fI (y1157.2 1000 (fw (l4 + 1)).toNat), fA 122, fI y1157.1])) (h' := (156, fjl L, y1157.2)) rfl ?_ ?_
                                                  · rw [fw_id g0, fw_id g2]; exact ⟨g1, g3⟩
                                                  rw [fw_id g0, fw_id g2]
                                                  obtain ⟨y1173, hy, h⟩ := fbd h
                                                  refine Wp.call rfl (by show cu + 0 ≤ 601023 ∧ su + 0 ≤ 7293028; omega) (s_X12_walked_ok (d := d + 7) hy ?_)
                                                  show Wp (d + 14, 322, 1176, cu, su, [some (fA 1000), some (fA 0), some (fA 122), some (fA 155), some (fI l4), _, _, _], [fI y1173.1, fI y1157.1]) (156, fjl L, y1173.2) Q
                                                  refine Wp.br rfl (fun (c : y1157.1 = y1173.1) => ?_) (fun (c : ¬ (y1157.1 = y1173.1)) => ?_)
                                                  · replace h := fps c h
                                                    obtain ⟨g0, h⟩ := fgd h
                                                    refine Wp.run 2 (f' := (d + 14, 322, 23, cu, su, [some (fA 1000), some (fA 0), some (fA 122), some (fA 155), some (fI (fw (l4 + 6))), _, _, _], [])) (h' := (156, fjl L, y1173.2)) rfl trivial ?_
                                                    rw [fw_id g0]
                                                    exact hC _ _ _ _ _ _ _ (by omega) (by omega) (Option.some.inj h).symm
                                                  · replace h := fng c h
                                                    cases h
                                                · replace h := fng c h
                                                  refine ⟨fun (c : (fand (M 1000 (l4).toNat) 63) = 23) => ?_, fun (c : ¬ ((fand (M 1000 (l4).toNat) 63) = 23)) => ?_⟩
                                                  · replace h := fps c h
                                                    show Wp (d + 14, 322, 1181, cu, su, [some (fA 1000), some (fA 0), some (fA 122), some (fA 155), some (fI l4), _, _, _], []) (156, fjl L, M) Q
                                                    obtain ⟨⟨g0, g1, g2, g3, g4, g5⟩, h⟩ := fgd h
                                                    refine Wp.run 16 (P := [0 ≤ (fw (l4 + 1)) ∧ (fw (l4 + 1)) < (L : Int), 0 ≤ (fw (l4 + 2)) ∧ (fw (l4 + 2)) < (L : Int), 0 ≤ (fw (l4 + 3)) ∧ (fw (l4 + 3)) < (L : Int)]) (f' := (d + 14, 322, 1200, cu, su, [some (fA 1000), some (fA 0), some (fA 122), some (fA 155), some (fI l4), _, _, _], [fI (M 1000 (fw (l4 + 3)).toNat), fI (M 1000 (fw (l4 + 2)).toNat), fI (M 1000 (fw (l4 + 1)).toNat), fA 0])) (h' := (156, fjl L, M)) rfl ?_ ?_
                                                    · rw [fw_id g0, fw_id g2, fw_id g4]; exact ⟨g1, g3, g5⟩
                                                    rw [fw_id g0, fw_id g2, fw_id g4]
                                                    obtain ⟨y1200, hy, h⟩ := fbd h
                                                    refine Wp.call rfl (by show cu + 0 ≤ 601023 ∧ su + 0 ≤ 7293028; omega) (s_X11_two_ok (d := d + 6) hy ?_)
                                                    show Wp (d + 14, 322, 1203, cu, su, [some (fA 1000), some (fA 0), some (fA 122), some (fA 155), some (fI l4), _, _, _], [fI y1200.1]) (156, fjl L, y1200.2) Q
                                                    obtain ⟨⟨g0, g1, g2, g3, g4, g5⟩, h⟩ := fgd h
                                                    refine Wp.run 16 (P := [0 ≤ (fw (l4 + 1)) ∧ (fw (l4 + 1)) < (L : Int), 0 ≤ (fw (l4 + 2)) ∧ (fw (l4 + 2)) < (L : Int), 0 ≤ (fw (l4 + 3)) ∧ (fw (l4 + 3)) < (L : Int)]) (f' := (d + 14, 322, 1222, cu, su, [some (fA 1000), some (fA 0), some (fA 122), some (fA 155), some (fI l4), _, _, _], [fI (y1200.2 1000 (fw (l4 + 3)).toNat), fI (y1200.2 1000 (fw (l4 + 2)).toNat), fI (y1200.2 1000 (fw (l4 + 1)).toNat), fA 122, fI y1200.1])) (h' := (156, fjl L, y1200.2)) rfl ?_ ?_
                                                    · rw [fw_id g0, fw_id g2, fw_id g4]; exact ⟨g1, g3, g5⟩
                                                    rw [fw_id g0, fw_id g2, fw_id g4]
                                                    obtain ⟨y1222, hy, h⟩ := fbd h
                                                    refine Wp.call rfl (by show cu + 0 ≤ 601023 ∧ su + 0 ≤ 7293028; omega) (s_X12_two_ok (d := d + 7) hy ?_)
                                                    show Wp (d + 14, 322, 1225, cu, su, [some (fA 1000), some (fA 0), some (fA 122), some (fA 155), some (fI l4), _, _, _], [fI y1222.1, fI y1200.1]) (156, fjl L, y1222.2) Q
                                                    refine Wp.br rfl (fun (c : y1200.1 = y1222.1) => ?_) (fun (c : ¬ (y1200.1 = y1222.1)) => ?_)
                                                    · replace h := fps c h
                                                      obtain ⟨g0, h⟩ := fgd h
                                                      refine Wp.run 2 (f' := (d + 14, 322, 23, cu, su, [some (fA 1000), some (fA 0), some (fA 122), some (fA 155), some (fI (fw (l4 + 6))), _, _, _], [])) (h' := (156, fjl L, y1222.2)) rfl trivial ?_
                                                      rw [fw_id g0]
                                                      exact hC _ _ _ _ _ _ _ (by omega) (by omega) (Option.some.inj h).symm
                                                    · replace h := fng c h
                                                      cases h
                                                  · replace h := fng c h
                                                    refine ⟨fun (c : (fand (M 1000 (l4).toNat) 63) = 24) => ?_, fun (c : ¬ ((fand (M 1000 (l4).toNat) 63) = 24)) => ?_⟩
                                                    · replace h := fps c h
                                                      show Wp (d + 14, 322, 1230, cu, su, [some (fA 1000), some (fA 0), some (fA 122), some (fA 155), some (fI l4), _, _, _], []) (156, fjl L, M) Q
                                                      obtain ⟨⟨g0, g1⟩, h⟩ := fgd h
                                                      refine Wp.run 6 (P := [0 ≤ (fw (l4 + 1)) ∧ (fw (l4 + 1)) < (L : Int)]) (f' := (d + 14, 322, 1237, cu, su, [some (fA 1000), some (fA 0), some (fA 122), some (fA 155), some (fI l4), _, _, _], [fI (M 1000 (fw (l4 + 1)).toNat), fA 0])) (h' := (156, fjl L, M)) rfl ?_ ?_
                                                      · rw [fw_id g0]; exact g1
                                                      rw [fw_id g0]
                                                      obtain ⟨y1237, hy, h⟩ := fbd h
                                                      refine Wp.call rfl (by show cu + 0 ≤ 601023 ∧ su + 0 ≤ 7293028; omega) (s_X11_festival_ok (d := d + 8) hy ?_)
                                                      show Wp (d + 14, 322, 1240, cu, su, [some (fA 1000), some (fA 0), some (fA 122), some (fA 155), some (fI l4), _, _, _], [fI y1237.1]) (156, fjl L, y1237.2) Q
                                                      obtain ⟨⟨g0, g1⟩, h⟩ := fgd h
                                                      refine Wp.run 6 (P := [0 ≤ (fw (l4 + 1)) ∧ (fw (l4 + 1)) < (L : Int)]) (f' := (d + 14, 322, 1247, cu, su, [some (fA 1000), some (fA 0), some (fA 122), some (fA 155), some (fI l4), _, _, _], [fI (y1237.2 1000 (fw (l4 + 1)).toNat), fA 122, fI y1237.1])) (h' := (156, fjl L, y1237.2)) rfl ?_ ?_
                                                      · rw [fw_id g0]; exact g1
                                                      rw [fw_id g0]
                                                      obtain ⟨y1247, hy, h⟩ := fbd h
                                                      refine Wp.call rfl (by show cu + 0 ≤ 601023 ∧ su + 0 ≤ 7293028; omega) (s_X12_festival_ok (d := d + 7) hy ?_)
                                                      show Wp (d + 14, 322, 1250, cu, su, [some (fA 1000), some (fA 0), some (fA 122), some (fA 155), some (fI l4), _, _, _], [fI y1247.1, fI y1237.1]) (156, fjl L, y1247.2) Q
                                                      refine Wp.br rfl (fun (c : y1237.1 = y1247.1) => ?_) (fun (c : ¬ (y1237.1 = y1247.1)) => ?_)
                                                      · replace h := fps c h
                                                        obtain ⟨g0, h⟩ := fgd h
                                                        refine Wp.run 2 (f' := (d + 14, 322, 23, cu, su, [some (fA 1000), some (fA 0), some (fA 122), some (fA 155), some (fI (fw (l4 + 6))), _, _, _], [])) (h' := (156, fjl L, y1247.2)) rfl trivial ?_
                                                        rw [fw_id g0]
                                                        exact hC _ _ _ _ _ _ _ (by omega) (by omega) (Option.some.inj h).symm
                                                      · replace h := fng c h
                                                        cases h
                                                    · replace h := fng c h
                                                      refine ⟨fun (c : (fand (M 1000 (l4).toNat) 63) = 25) => ?_, fun (c : ¬ ((fand (M 1000 (l4).toNat) 63) = 25)) => ?_⟩
                                                      · replace h := fps c h
                                                        show Wp (d + 14, 322, 1255, cu, su, [some (fA 1000), some (fA 0), some (fA 122), some (fA 155), some (fI l4), _, _, _], []) (156, fjl L, M) Q
                                                        obtain ⟨⟨g0, g1, g2, g3⟩, h⟩ := fgd h
                                                        refine Wp.run 11 (P := [0 ≤ (fw (l4 + 1)) ∧ (fw (l4 + 1)) < (L : Int), 0 ≤ (fw (l4 + 2)) ∧ (fw (l4 + 2)) < (L : Int)]) (f' := (d + 14, 322, 1268, cu, su, [some (fA 1000), some (fA 0), some (fA 122), some (fA 155), some (fI l4), _, _, _], [fI (M 1000 (fw (l4 + 2)).toNat), fI (M 1000 (fw (l4 + 1)).toNat), fA 0])) (h' := (156, fjl L, M)) rfl ?_ ?_
                                                        · rw [fw_id g0, fw_id g2]; exact ⟨g1, g3⟩
                                                        rw [fw_id g0, fw_id g2]
                                                        obtain ⟨y1268, hy, h⟩ := fbd h
                                                        refine Wp.call rfl (by show cu + 0 ≤ 601023 ∧ su + 0 ≤ 7293028; omega) (s_X11_unready_ok (d := d + 7) hy ?_)
                                                        show Wp (d + 14, 322, 1271, cu, su, [some (fA 1000), some (fA 0), some (fA 122), some (fA 155), some (fI l4), _, _, _], [fI y1268.1]) (156, fjl L, y1268.2) Q
                                                        obtain ⟨⟨g0, g1, g2, g3⟩, h⟩ := fgd h
                                                        refine Wp.run 11 (P := [0 ≤ (fw (l4 + 1)) ∧ (fw (l4 + 1)) < (L : Int), 0 ≤ (fw (l4 + 2)) ∧ (fw (l4 + 2)) < (L : Int)]) (f' := (d + 14, 322, 1284, cu, su, [some (fA 1000), some (fA 0), some (fA 122), some (fA 155), some (fI l4), _, _, _], [fI (y1268.2 1000 (fw (l4 + 2)).toNat), fI (y1268.2 1000 (fw (l4 + 1)).toNat), fA 122, fI y1268.1])) (h' := (156, fjl L, y1268.2)) rfl ?_ ?_
                                                        · rw [fw_id g0, fw_id g2]; exact ⟨g1, g3⟩
                                                        rw [fw_id g0, fw_id g2]
                                                        obtain ⟨y1284, hy, h⟩ := fbd h
                                                        refine Wp.call rfl (by show cu + 0 ≤ 601023 ∧ su + 0 ≤ 7293028; omega) (s_X12_unready_ok (d := d + 9) hy ?_)
                                                        show Wp (d + 14, 322, 1287, cu, su, [some (fA 1000), some (fA 0), some (fA 122), some (fA 155), some (fI l4), _, _, _], [fI y1284.1, fI y1268.1]) (156, fjl L, y1284.2) Q
                                                        refine Wp.br rfl (fun (c : y1268.1 = y1284.1) => ?_) (fun (c : ¬ (y1268.1 = y1284.1)) => ?_)
                                                        · replace h := fps c h
                                                          obtain ⟨g0, h⟩ := fgd h
                                                          refine Wp.run 2 (f' := (d + 14, 322, 23, cu, su, [some (fA 1000), some (fA 0), some (fA 122), some (fA 155), some (fI (fw (l4 + 6))), _, _, _], [])) (h' := (156, fjl L, y1284.2)) rfl trivial ?_
                                                          rw [fw_id g0]
                                                          exact hC _ _ _ _ _ _ _ (by omega) (by omega) (Option.some.inj h).symm
                                                        · replace h := fng c h
                                                          cases h
                                                      · replace h := fng c h
                                                        refine ⟨fun (c : (fand (M 1000 (l4).toNat) 63) = 26) => ?_, fun (c : ¬ ((fand (M 1000 (l4).toNat) 63) = 26)) => ?_⟩
                                                        · replace h := fps c h
                                                          show Wp (d + 14, 322, 1292, cu, su, [some (fA 1000), some (fA 0), some (fA 122), some (fA 155), some (fI l4), _, _, _], []) (156, fjl L, M) Q
                                                          obtain ⟨⟨g0, g1, g2, g3, g4, g5⟩, h⟩ := fgd h
                                                          refine Wp.run 16 (P := [0 ≤ (fw (l4 + 1)) ∧ (fw (l4 + 1)) < (L : Int), 0 ≤ (fw (l4 + 2)) ∧ (fw (l4 + 2)) < (L : Int), 0 ≤ (fw (l4 + 3)) ∧ (fw (l4 + 3)) < (L : Int)]) (f' := (d + 14, 322, 1311, cu, su, [some (fA 1000), some (fA 0), some (fA 122), some (fA 155), some (fI l4), _, _, _], [fI (M 1000 (fw (l4 + 3)).toNat), fI (M 1000 (fw (l4 + 2)).toNat), fI (M 1000 (fw (l4 + 1)).toNat), fA 0])) (h' := (156, fjl L, M)) rfl ?_ ?_
                                                          · rw [fw_id g0, fw_id g2, fw_id g4]; exact ⟨g1, g3, g5⟩
                                                          rw [fw_id g0, fw_id g2, fw_id g4]
                                                          obtain ⟨y1311, hy, h⟩ := fbd h
                                                          refine Wp.call rfl (by show cu + 0 ≤ 601023 ∧ su + 0 ≤ 7293028; omega) (s_X11_whose_ok (d := d + 8) hy ?_)
                                                          show Wp (d + 14, 322, 1314, cu, su, [some (fA 1000), some (fA 0), some (fA 122), some (fA 155), some (fI l4), _, _, _], [fI y1311.1]) (156, fjl L, y1311.2) Q
                                                          obtain ⟨⟨g0, g1, g2, g3, g4, g5⟩, h⟩ := fgd h
                                                          refine Wp.run 16 (P := [0 ≤ (fw (l4 + 1)) ∧ (fw (l4 + 1)) < (L : Int), 0 ≤ (fw (l4 + 2)) ∧ (fw (l4 + 2)) < (L : Int), 0 ≤ (fw (l4 + 3)) ∧ (fw (l4 + 3)) < (L : Int)]) (f' := (d + 14, 322, 1333, cu, su, [some (fA 1000), some (fA 0), some (fA 122), some (fA 155), some (fI l4), _, _, _], [fI (y1311.2 1000 (fw (l4 + 3)).toNat), fI (y1311.2 1000 (fw (l4 + 2)).toNat), fI (y1311.2 1000 (fw (l4 + 1)).toNat), fA 122, fI y1311.1])) (h' := (156, fjl L, y1311.2)) rfl ?_ ?_
                                                          · rw [fw_id g0, fw_id g2, fw_id g4]; exact ⟨g1, g3, g5⟩
                                                          rw [fw_id g0, fw_id g2, fw_id g4]
                                                          obtain ⟨y1333, hy, h⟩ := fbd h
                                                          refine Wp.call rfl (by show cu + 0 ≤ 601023 ∧ su + 0 ≤ 7293028; omega) (s_X12_whose_ok (d := d + 8) hy ?_)
                                                          show Wp (d + 14, 322, 1336, cu, su, [some (fA 1000), some (fA 0), some (fA 122), some (fA 155), some (fI l4), _, _, _], [fI y1333.1, fI y1311.1]) (156, fjl L, y1333.2) Q
                                                          refine Wp.br rfl (fun (c : y1311.1 = y1333.1) => ?_) (fun (c : ¬ (y1311.1 = y1333.1)) => ?_)
                                                          · replace h := fps c h
                                                            obtain ⟨g0, h⟩ := fgd h
                                                            refine Wp.run 2 (f' := (d + 14, 322, 23, cu, su, [some (fA 1000), some (fA 0), some (fA 122), some (fA 155), some (fI (fw (l4 + 6))), _, _, _], [])) (h' := (156, fjl L, y1333.2)) rfl trivial ?_
                                                            rw [fw_id g0]
                                                            exact hC _ _ _ _ _ _ _ (by omega) (by omega) (Option.some.inj h).symm
                                                          · replace h := fng c h
                                                            cases h
                                                        · replace h := fng c h
                                                          refine ⟨fun (c : (fand (M 1000 (l4).toNat) 63) = 27) => ?_, fun (c : ¬ ((fand (M 1000 (l4).toNat) 63) = 27)) => ?_⟩
                                                          · replace h := fps c h
                                                            show Wp (d + 14, 322, 1341, cu, su, [some (fA 1000), some (fA 0), some (fA 122), some (fA 155), some (fI l4), _, _, _], []) (156, fjl L, M) Q
                                                            obtain ⟨⟨g0, g1, g2, g3⟩, h⟩ := fgd h
                                                            refine Wp.run 11 (P := [0 ≤ (fw (l4 + 1)) ∧ (fw (l4 + 1)) < (L : Int), 0 ≤ (fw (l4 + 2)) ∧ (fw (l4 + 2)) < (L : Int)]) (f' := (d + 14, 322, 1354, cu, su, [some (fA 1000), some (fA 0), some (fA 122), some (fA 155), some (fI l4), _, _, _], [fI (M 1000 (fw (l4 + 2)).toNat), fI (M 1000 (fw (l4 + 1)).toNat), fA 0])) (h' := (156, fjl L, M)) rfl ?_ ?_
                                                            · rw [fw_id g0, fw_id g2]; exact ⟨g1, g3⟩
                                                            rw [fw_id g0, fw_id g2]
                                                            obtain ⟨y1354, hy, h⟩ := fbd h
                                                            refine Wp.call rfl (by show cu + 0 ≤ 601023 ∧ su + 0 ≤ 7293028; omega) (s_X11_fee_ok (d := d + 11) hy ?_)
                                                            show Wp (d + 14, 322, 1357, cu, su, [some (fA 1000), some (fA 0), some (fA 122), some (fA 155), some (fI l4), _, _, _], [fI y1354]) (156, fjl L, M) Q
                                                            obtain ⟨⟨g0, g1, g2, g3⟩, h⟩ := fgd h
                                                            refine Wp.run 11 (P := [0 ≤ (fw (l4 + 1)) ∧ (fw (l4 + 1)) < (L : Int), 0 ≤ (fw (l4 + 2)) ∧ (fw (l4 + 2)) < (L : Int)]) (f' := (d + 14, 322, 1370, cu, su, [some (fA 1000), some (fA 0), some (fA 122), some (fA 155), some (fI l4), _, _, _], [fI (M 1000 (fw (l4 + 2)).toNat), fI (M 1000 (fw (l4 + 1)).toNat), fA 122, fI y1354])) (h' := (156, fjl L, M)) rfl ?_ ?_
                                                            · rw [fw_id g0, fw_id g2]; exact ⟨g1, g3⟩
                                                            rw [fw_id g0, fw_id g2]
                                                            obtain ⟨y1370, hy, h⟩ := fbd h
                                                            refine Wp.call rfl (by show cu + 0 ≤ 601023 ∧ su + 0 ≤ 7293028; omega) (s_X12_fee_ok (d := d + 11) hy ?_)
                                                            show Wp (d + 14, 322, 1373, cu, su, [some (fA 1000), some (fA 0), some (fA 122), some (fA 155), some (fI l4), _, _, _], [fI y1370.1, fI y1354]) (156, fjl L, y1370.2) Q
                                                            refine Wp.br rfl (fun (c : y1354 = y1370.1) => ?_) (fun (c : ¬ (y1354 = y1370.1)) => ?_)
                                                            · replace h := fps c h
                                                              obtain ⟨g0, h⟩ := fgd h
                                                              refine Wp.run 2 (f' := (d + 14, 322, 23, cu, su, [some (fA 1000), some (fA 0), some (fA 122), some (fA 155), some (fI (fw (l4 + 6))), _, _, _], [])) (h' := (156, fjl L, y1370.2)) rfl trivial ?_
                                                              rw [fw_id g0]
                                                              exact hC _ _ _ _ _ _ _ (by omega) (by omega) (Option.some.inj h).symm
                                                            · replace h := fng c h
                                                              cases h
                                                          · replace h := fng c h
                                                            refine ⟨fun (c : (fand (M 1000 (l4).toNat) 63) = 28) => ?_, fun (c : ¬ ((fand (M 1000 (l4).toNat) 63) = 28)) => ?_⟩
                                                            · replace h := fps c h
                                                              show Wp (d + 14, 322, 1378, cu, su, [some (fA 1000), some (fA 0), some (fA 122), some (fA 155), some (fI l4), _, _, _], []) (156, fjl L, M) Q
                                                              obtain ⟨⟨g0, g1, g2, g3, g4, g5⟩, h⟩ := fgd h
                                                              refine Wp.run 17 (P := [0 ≤ (fw (l4 + 1)) ∧ (fw (l4 + 1)) < (L : Int), 0 ≤ (fw (l4 + 2)) ∧ (fw (l4 + 2)) < (L : Int), 0 ≤ (fw (l4 + 3)) ∧ (fw (l4 + 3)) < (L : Int)]) (f' := (d + 14, 322, 1398, cu, su, [some (fA 1000), some (fA 0), some (fA 122), some (fA 155), some (fI l4), _, _, _], [fA 155, fI (M 1000 (fw (l4 + 3)).toNat), fI (M 1000 (fw (l4 + 2)).toNat), fI (M 1000 (fw (l4 + 1)).toNat), fA 0])) (h' := (156, fjl L, M)) rfl ?_ ?_
                                                              · rw [fw_id g0, fw_id g2, fw_id g4]; exact ⟨g1, g3, g5⟩
                                                              rw [fw_id g0, fw_id g2, fw_id g4]
                                                              obtain ⟨y1398, hy, h⟩ := fbd h
                                                              refine Wp.call rfl (by show cu + 1 ≤ 601023 ∧ su + 6 ≤ 7293028; omega) (s_L_owed_0_155_ok (d := d + 5) hy ?_)
                                                              show Wp (d + 14, 322, 1401, cu + 1, su + 6, [some (fA 1000), some (fA 0), some (fA 122), some (fA 155), some (fI l4), _, _, _], [fI y1398.1]) (156, fjl L, y1398.2) Q
                                                              obtain ⟨⟨g0, g1, g2, g3, g4, g5⟩, h⟩ := fgd h
                                                              refine Wp.run 17 (P := [0 ≤ (fw (l4 + 1)) ∧ (fw (l4 + 1)) < (L : Int), 0 ≤ (fw (l4 + 2)) ∧ (fw (l4 + 2)) < (L : Int), 0 ≤ (fw (l4 + 3)) ∧ (fw (l4 + 3)) < (L : Int)]) (f' := (d + 14, 322, 1422, cu + 1, su + 6, [some (fA 1000), some (fA 0), some (fA 122), some (fA 155), some (fI l4), some (fI y1398.1), _, _], [fI (y1398.2 1000 (fw (l4 + 3)).toNat), fI (y1398.2 1000 (fw (l4 + 2)).toNat), fI (y1398.2 1000 (fw (l4 + 1)).toNat), fA 122])) (h' := (156, fjl L, y1398.2)) rfl ?_ ?_
                                                              · rw [fw_id g0, fw_id g2, fw_id g4]; exact ⟨g1, g3, g5⟩
                                                              rw [fw_id g0, fw_id g2, fw_id g4]
                                                              obtain ⟨y1422, hy, h⟩ := fbd h
                                                              refine Wp.call rfl (by show cu + 1 + 0 ≤ 601023 ∧ su + 6 + 0 ≤ 7293028; omega) (s_X12_owed_ok (d := d + 10) hy ?_)
                                                              show Wp (d + 14, 322, 1425, cu + 1, su + 6, [some (fA 1000), some (fA 0), some (fA 122), some (fA 155), some (fI l4), some (fI y1398.1), _, _], [fI y1422.1]) (156, fjl L, y1422.2) Q
                                                              refine Wp.run 2 (f' := (d + 14, 322, 1428, cu + 1, su + 6, [some (fA 1000), some (fA 0), some (fA 122), some (fA 155), some (fI l4), some (fI y1398.1), some (fI y1422.1), _], [fA 122])) (h' := (156, fjl L, y1422.2)) rfl trivial ?_
                                                              obtain ⟨y1428, hy, h⟩ := fbd h
                                                              refine Wp.call rfl (by show cu + 1 + 0 ≤ 601023 ∧ su + 6 + 0 ≤ 7293028; omega) (s_X12_thrown_ok (d := d + 13) hy ?_)
                                                              show Wp (d + 14, 322, 1431, cu + 1, su + 6, [some (fA 1000), some (fA 0), some (fA 122), some (fA 155), some (fI l4), some (fI y1398.1), some (fI y1422.1), _], [fI y1428]) (156, fjl L, y1422.2) Q
                                                              refine Wp.run 1 (f' := (d + 14, 322, 1433, cu + 1, su + 6, [some (fA 1000), some (fA 0), some (fA 122), some (fA 155), some (fI l4), some (fI y1398.1), some (fI y1422.1), _], [fI y1398.1, fI y1428])) (h' := (156, fjl L, y1422.2)) rfl trivial ?_
                                                              refine Wp.br rfl (fun (c : y1428 = y1398.1) => ?_) (fun (c : ¬ (y1428 = y1398.1)) => ?_)
                                                              · replace h := fps c h
                                                                refine Wp.run 1 (f' := (d + 14, 322, 1440, cu + 1, su + 6, [some (fA 1000), some (fA 0), some (fA 122), some (fA 155), some (fI l4), _, some (fI y1422.1), _], [fI y1398.1])) (h' := (156, fjl L, y1422.2)) rfl trivial ?_
                                                                refine Wp.br rfl (fun (c : ¬ y1398.1 = 0) => ?_) (fun (c : ¬ (¬ y1398.1 = 0)) => ?_)
                                                                · replace h := fps c h
                                                                  obtain ⟨g0, h⟩ := fgd h
                                                                  refine Wp.run 3 (f' := (d + 14, 322, 23, cu + 1, su + 6, [some (fA 1000), some (fA 0), some (fA 122), some (fA 155), some (fI (fw (l4 + 6))), _, _, _], [])) (h' := (156, fjl L, y1422.2)) rfl trivial ?_
                                                                  rw [fw_id g0]
                                                                  exact hC _ _ _ _ _ _ _ (by omega) (by omega) (Option.some.inj h).symm
                                                                · replace h := fng c h
                                                                  refine Wp.run 6 (P := [(0 : Int) ≤ 0 ∧ (0 : Int) < 1]) (f' := (d + 14, 322, 1450, cu + 1, su + 6, [some (fA 1000), some (fA 0), some (fA 122), some (fA 155), some (fI l4), _, _, _], [fI (fcm (y1422.2 155 0) y1422.1)])) (h' := (156, fjl L, y1422.2)) rfl ?_ ?_
                                                                  · exact (by decide : (0 : Int) ≤ 0 ∧ (0 : Int) < 1)
                                                                  refine Wp.br rfl (fun (c : (fcm (y1422.2 155 0) y1422.1) = 0) => ?_) (fun (c : ¬ ((fcm (y1422.2 155 0) y1422.1) = 0)) => ?_)
                                                                  · replace c := (fcm_eq _ _).mp c
                                                                    replace h := fps c h
                                                                    obtain ⟨g0, h⟩ := fgd h
                                                                    refine Wp.run 3 (f' := (d + 14, 322, 23, cu + 1, su + 6, [some (fA 1000), some (fA 0), some (fA 122), some (fA 155), some (fI (fw (l4 + 6))), _, _, _], [])) (h' := (156, fjl L, y1422.2)) rfl trivial ?_
                                                                    rw [fw_id g0]
                                                                    exact hC _ _ _ _ _ _ _ (by omega) (by omega) (Option.some.inj h).symm
                                                                  · replace c := fun z => c ((fcm_eq _ _).mpr z)
                                                                    replace h := fng c h
                                                                    cases h
                                                              · replace h := fng c h
                                                                cases h
                                                            · replace h := fng c h
                                                              refine ⟨fun (c : (fand (M 1000 (l4).toNat) 63) = 29) => ?_, fun (c : ¬ ((fand (M 1000 (l4).toNat) 63) = 29)) => ?_⟩
                                                              · replace h := fps c h
                                                                show Wp (d + 14, 322, 1458, cu, su, [some (fA 1000), some (fA 0), some (fA 122), some (fA 155), some (fI l4), _, _, _], []) (156, fjl L, M) Q
                                                                obtain ⟨⟨g0, g1, g2, g3, g4, g5⟩, h⟩ := fgd h
                                                                refine Wp.run 16 (P := [0 ≤ (fw (l4 + 1)) ∧ (fw (l4 + 1)) < (L : Int), 0 ≤ (fw (l4 + 2)) ∧ (fw (l4 + 2)) < (L : Int), 0 ≤ (fw (l4 + 3)) ∧ (fw (l4 + 3)) < (L : Int)]) (f' := (d + 14, 322, 1477, cu, su, [some (fA 1000), some (fA 0), some (fA 122), some (fA 155), some (fI l4), _, _, _], [fI (M 1000 (fw (l4 + 3)).toNat), fI (M 1000 (fw (l4 + 2)).toNat), fI (M 1000 (fw (l4 + 1)).toNat), fA 0])) (h' := (156, fjl L, M)) rfl ?_ ?_
                                                                · rw [fw_id g0, fw_id g2, fw_id g4]; exact ⟨g1, g3, g5⟩
                                                                rw [fw_id g0, fw_id g2, fw_id g4]
                                                                obtain ⟨y1477, hy, h⟩ := fbd h
                                                                refine Wp.call rfl (by show cu + 0 ≤ 601023 ∧ su + 0 ≤ 7293028; omega) (s_X11_free_ok (d := d + 9) hy ?_)
                                                                show Wp (d + 14, 322, 1480, cu, su, [some (fA 1000), some (fA 0), some (fA 122), some (fA 155), some (fI l4), _, _, _], [fI y1477]) (156, fjl L, M) Q
                                                                obtain ⟨⟨g0, g1, g2, g3, g4, g5⟩, h⟩ := fgd h
                                                                refine Wp.run 16 (P := [0 ≤ (fw (l4 + 1)) ∧ (fw (l4 + 1)) < (L : Int), 0 ≤ (fw (l4 + 2)) ∧ (fw (l4 + 2)) < (L : Int), 0 ≤ (fw (l4 + 3)) ∧ (fw (l4 + 3)) < (L : Int)]) (f' := (d + 14, 322, 1499, cu, su, [some (fA 1000), some (fA 0), some (fA 122), some (fA 155), some (fI l4), _, _, _], [fI (M 1000 (fw (l4 + 3)).toNat), fI (M 1000 (fw (l4 + 2)).toNat), fI (M 1000 (fw (l4 + 1)).toNat), fA 122, fI y1477])) (h' := (156, fjl L, M)) rfl ?_ ?_
                                                                · rw [fw_id g0, fw_id g2, fw_id g4]; exact ⟨g1, g3, g5⟩
                                                                rw [fw_id g0, fw_id g2, fw_id g4]
                                                                obtain ⟨y1499, hy, h⟩ := fbd h
                                                                refine Wp.call rfl (by show cu + 0 ≤ 601023 ∧ su + 0 ≤ 7293028; omega) (s_X12_free_ok (d := d + 10) hy ?_)
                                                                show Wp (d + 14, 322, 1502, cu, su, [some (fA 1000), some (fA 0), some (fA 122), some (fA 155), some (fI l4), _, _, _], [fI y1499.1, fI y1477]) (156, fjl L, y1499.2) Q
                                                                refine Wp.br rfl (fun (c : y1477 = y1499.1) => ?_) (fun (c : ¬ (y1477 = y1499.1)) => ?_)
                                                                · replace h := fps c h
                                                                  obtain ⟨g0, h⟩ := fgd h
                                                                  refine Wp.run 2 (f' := (d + 14, 322, 23, cu, su, [some (fA 1000), some (fA 0), some (fA 122), some (fA 155), some (fI (fw (l4 + 6))), _, _, _], [])) (h' := (156, fjl L, y1499.2)) rfl trivial ?_
                                                                  rw [fw_id g0]
                                                                  exact hC _ _ _ _ _ _ _ (by omega) (by omega) (Option.some.inj h).symm
                                                                · replace h := fng c h
                                                                  cases h
                                                              · replace h := fng c h
                                                                refine ⟨fun (c : (fand (M 1000 (l4).toNat) 63) = 30) => ?_, fun (c : ¬ ((fand (M 1000 (l4).toNat) 63) = 30)) => ?_⟩
                                                                · replace h := fps c h
                                                                  show Wp (d + 14, 322, 1507, cu, su, [some (fA 1000), some (fA 0), some (fA 122), some (fA 155), some (fI l4), _, _, _], []) (156, fjl L, M) Q
                                                                  obtain ⟨⟨g0, g1, g2, g3, g4, g5⟩, h⟩ := fgd h
                                                                  refine Wp.run 16 (P := [0 ≤ (fw (l4 + 1)) ∧ (fw (l4 + 1)) < (L : Int), 0 ≤ (fw (l4 + 2)) ∧ (fw (l4 + 2)) < (L : Int), 0 ≤ (fw (l4 + 3)) ∧ (fw (l4 + 3)) < (L : Int)]) (f' := (d + 14, 322, 1526, cu, su, [some (fA 1000), some (fA 0), some (fA 122), some (fA 155), some (fI l4), _, _, _], [fI (M 1000 (fw (l4 + 3)).toNat), fI (M 1000 (fw (l4 + 2)).toNat), fI (M 1000 (fw (l4 + 1)).toNat), fA 0])) (h' := (156, fjl L, M)) rfl ?_ ?_
                                                                  · rw [fw_id g0, fw_id g2, fw_id g4]; exact ⟨g1, g3, g5⟩
                                                                  rw [fw_id g0, fw_id g2, fw_id g4]
                                                                  obtain ⟨y1526, hy, h⟩ := fbd h
                                                                  refine Wp.call rfl (by show cu + 0 ≤ 601023 ∧ su + 0 ≤ 7293028; omega) (s_X11_tunings_ok (d := d + 8) hy ?_)
                                                                  show Wp (d + 14, 322, 1529, cu, su, [some (fA 1000), some (fA 0), some (fA 122), some (fA 155), some (fI l4), _, _, _], [fI y1526.1]) (156, fjl L, y1526.2) Q
                                                                  obtain ⟨⟨g0, g1, g2, g3, g4, g5⟩, h⟩ := fgd h
                                                                  refine Wp.run 16 (P := [0 ≤ (fw (l4 + 1)) ∧ (fw (l4 + 1)) < (L : Int), 0 ≤ (fw (l4 + 2)) ∧ (fw (l4 + 2)) < (L : Int), 0 ≤ (fw (l4 + 3)) ∧ (fw (l4 + 3)) < (L : Int)]) (f' := (d + 14, 322, 1548, cu, su, [some (fA 1000), some (fA 0), some (fA 122), some (fA 155), some (fI l4), _, _, _], [fI (y1526.2 1000 (fw (l4 + 3)).toNat), fI (y1526.2 1000 (fw (l4 + 2)).toNat), fI (y1526.2 1000 (fw (l4 + 1)).toNat), fA 122, fI y1526.1])) (h' := (156, fjl L, y1526.2)) rfl ?_ ?_
                                                                  · rw [fw_id g0, fw_id g2, fw_id g4]; exact ⟨g1, g3, g5⟩
                                                                  rw [fw_id g0, fw_id g2, fw_id g4]
                                                                  obtain ⟨y1548, hy, h⟩ := fbd h
                                                                  refine Wp.call rfl (by show cu + 0 ≤ 601023 ∧ su + 0 ≤ 7293028; omega) (s_X12_tunings_ok (d := d + 9) hy ?_)
                                                                  show Wp (d + 14, 322, 1551, cu, su, [some (fA 1000), some (fA 0), some (fA 122), some (fA 155), some (fI l4), _, _, _], [fI y1548.1, fI y1526.1]) (156, fjl L, y1548.2) Q
                                                                  refine Wp.br rfl (fun (c : y1526.1 = y1548.1) => ?_) (fun (c : ¬ (y1526.1 = y1548.1)) => ?_)
                                                                  · replace h := fps c h
                                                                    obtain ⟨g0, h⟩ := fgd h
                                                                    refine Wp.run 2 (f' := (d + 14, 322, 23, cu, su, [some (fA 1000), some (fA 0), some (fA 122), some (fA 155), some (fI (fw (l4 + 6))), _, _, _], [])) (h' := (156, fjl L, y1548.2)) rfl trivial ?_
                                                                    rw [fw_id g0]
                                                                    exact hC _ _ _ _ _ _ _ (by omega) (by omega) (Option.some.inj h).symm
                                                                  · replace h := fng c h
                                                                    cases h
                                                                · replace h := fng c h
                                                                  refine ⟨fun (c : (fand (M 1000 (l4).toNat) 63) = 31) => ?_, fun (c : ¬ ((fand (M 1000 (l4).toNat) 63) = 31)) => ?_⟩
                                                                  · replace h := fps c h
                                                                    show Wp (d + 14, 322, 1556, cu, su, [some (fA 1000), some (fA 0), some (fA 122), some (fA 155), some (fI l4), _, _, _], []) (156, fjl L, M) Q
                                                                    obtain ⟨⟨g0, g1, g2, g3, g4, g5⟩, h⟩ := fgd h
                                                                    refine Wp.run 16 (P := [0 ≤ (fw (l4 + 1)) ∧ (fw (l4 + 1)) < (L : Int), 0 ≤ (fw (l4 + 2)) ∧ (fw (l4 + 2)) < (L : Int), 0 ≤ (fw (l4 + 3)) ∧ (fw (l4 + 3)) < (L : Int)]) (f' := (d + 14, 322, 1575, cu, su, [some (fA 1000), some (fA 0), some (fA 122), some (fA 155), some (fI l4), _, _, _], [fI (M 1000 (fw (l4 + 3)).toNat), fI (M 1000 (fw (l4 + 2)).toNat), fI (M 1000 (fw (l4 + 1)).toNat), fA 0])) (h' := (156, fjl L, M)) rfl ?_ ?_
                                                                    · rw [fw_id g0, fw_id g2, fw_id g4]; exact ⟨g1, g3, g5⟩
                                                                    rw [fw_id g0, fw_id g2, fw_id g4]
                                                                    obtain ⟨y1575, hy, h⟩ := fbd h
                                                                    refine Wp.call rfl (by show cu + 0 ≤ 601023 ∧ su + 0 ≤ 7293028; omega) (s_X11_past_ok (d := d + 8) hy ?_)
                                                                    show Wp (d + 14, 322, 1578, cu, su, [some (fA 1000), some (fA 0), some (fA 122), some (fA 155), some (fI l4), _, _, _], [fI y1575.1]) (156, fjl L, y1575.2) Q
                                                                    obtain ⟨⟨g0, g1, g2, g3, g4, g5⟩, h⟩ := fgd h
                                                                    refine Wp.run 16 (P := [0 ≤ (fw (l4 + 1)) ∧ (fw (l4 + 1)) < (L : Int), 0 ≤ (fw (l4 + 2)) ∧ (fw (l4 + 2)) < (L : Int), 0 ≤ (fw (l4 + 3)) ∧ (fw (l4 + 3)) < (L : Int)]) (f' := (d + 14, 322, 1597, cu, su, [some (fA 1000), some (fA 0), some (fA 122), some (fA 155), some (fI l4), _, _, _], [fI (y1575.2 1000 (fw (l4 + 3)).toNat), fI (y1575.2 1000 (fw (l4 + 2)).toNat), fI (y1575.2 1000 (fw (l4 + 1)).toNat), fA 122, fI y1575.1])) (h' := (156, fjl L, y1575.2)) rfl ?_ ?_
                                                                    · rw [fw_id g0, fw_id g2, fw_id g4]; exact ⟨g1, g3, g5⟩
                                                                    rw [fw_id g0, fw_id g2, fw_id g4]
                                                                    obtain ⟨y1597, hy, h⟩ := fbd h
                                                                    refine Wp.call rfl (by show cu + 0 ≤ 601023 ∧ su + 0 ≤ 7293028; omega) (s_X12_past_ok (d := d + 9) hy ?_)
                                                                    show Wp (d + 14, 322, 1600, cu, su, [some (fA 1000), some (fA 0), some (fA 122), some (fA 155), some (fI l4), _, _, _], [fI y1597.1, fI y1575.1]) (156, fjl L, y1597.2) Q
                                                                    refine Wp.br rfl (fun (c : y1575.1 = y1597.1) => ?_) (fun (c : ¬ (y1575.1 = y1597.1)) => ?_)
                                                                    · replace h := fps c h
                                                                      obtain ⟨g0, h⟩ := fgd h
                                                                      refine Wp.run 2 (f' := (d + 14, 322, 23, cu, su, [some (fA 1000), some (fA 0), some (fA 122), some (fA 155), some (fI (fw (l4 + 6))), _, _, _], [])) (h' := (156, fjl L, y1597.2)) rfl trivial ?_
                                                                      rw [fw_id g0]
                                                                      exact hC _ _ _ _ _ _ _ (by omega) (by omega) (Option.some.inj h).symm
                                                                    · replace h := fng c h
                                                                      cases h
                                                                  · replace h := fng c h
                                                                    refine ⟨fun (c : (fand (M 1000 (l4).toNat) 63) = 32) => ?_, fun (c : ¬ ((fand (M 1000 (l4).toNat) 63) = 32)) => ?_⟩
                                                                    · replace h := fps c h
                                                                      show Wp (d + 14, 322, 1605, cu, su, [some (fA 1000), some (fA 0), some (fA 122), some (fA 155), some (fI l4), _, _, _], []) (156, fjl L, M) Q
                                                                      obtain ⟨⟨g0, g1⟩, h⟩ := fgd h
                                                                      refine Wp.run 6 (P := [0 ≤ (fw (l4 + 1)) ∧ (fw (l4 + 1)) < (L : Int)]) (f' := (d + 14, 322, 1612, cu, su, [some (fA 1000), some (fA 0), some (fA 122), some (fA 155), some (fI l4), _, _, _], [fI (M 1000 (fw (l4 + 1)).toNat), fA 0])) (h' := (156, fjl L, M)) rfl ?_ ?_
                                                                      · rw [fw_id g0]; exact g1
                                                                      rw [fw_id g0]
                                                                      obtain ⟨y1612, hy, h⟩ := fbd h
                                                                      refine Wp.call rfl (by show cu + 0 ≤ 601023 ∧ su + 0 ≤ 7293028; omega) (s_X11_bag_ok (d := d + 9) hy ?_)
                                                                      show Wp (d + 14, 322, 1615, cu, su, [some (fA 1000), some (fA 0), some (fA 122), some (fA 155), some (fI l4), _, _, _], [fI y1612.1]) (156, fjl L, y1612.2) Q
                                                                      obtain ⟨⟨g0, g1⟩, h⟩ := fgd h
                                                                      refine Wp.run 6 (P := [0 ≤ (fw (l4 + 1)) ∧ (fw (l4 + 1)) < (L : Int)]) (f' := (d + 14, 322, 1622, cu, su, [some (fA 1000), some (fA 0), some (fA 122), some (fA 155), some (fI l4), _, _, _], [fI (y1612.2 1000 (fw (l4 + 1)).toNat), fA 122, fI y1612.1])) (h' := (156, fjl L, y1612.2)) rfl ?_ ?_
                                                                      · rw [fw_id g0]; exact g1
                                                                      rw [fw_id g0]
                                                                      obtain ⟨y1622, hy, h⟩ := fbd h
                                                                      refine Wp.call rfl (by show cu + 0 ≤ 601023 ∧ su + 0 ≤ 7293028; omega) (s_X12_bag_ok (d := d + 7) hy ?_)
                                                                      show Wp (d + 14, 322, 1625, cu, su, [some (fA 1000), some (fA 0), some (fA 122), some (fA 155), some (fI l4), _, _, _], [fI y1622.1, fI y1612.1]) (156, fjl L, y1622.2) Q
                                                                      refine Wp.br rfl (fun (c : y1612.1 = y1622.1) => ?_) (fun (c : ¬ (y1612.1 = y1622.1)) => ?_)
                                                                      · replace h := fps c h
                                                                        obtain ⟨g0, h⟩ := fgd h
                                                                        refine Wp.run 2 (f' := (d + 14, 322, 23, cu, su, [some (fA 1000), some (fA 0), some (fA 122), some (fA 155), some (fI (fw (l4 + 6))), _, _, _], [])) (h' := (156, fjl L, y1622.2)) rfl trivial ?_
                                                                        rw [fw_id g0]
                                                                        exact hC _ _ _ _ _ _ _ (by omega) (by omega) (Option.some.inj h).symm
                                                                      · replace h := fng c h
                                                                        cases h
                                                                    · replace h := fng c h
                                                                      refine ⟨fun (c : (fand (M 1000 (l4).toNat) 63) = 33) => ?_, fun (c : ¬ ((fand (M 1000 (l4).toNat) 63) = 33)) => ?_⟩
                                                                      · replace h := fps c h
                                                                        show Wp (d + 14, 322, 1630, cu, su, [some (fA 1000), some (fA 0), some (fA 122), some (fA 155), some (fI l4), _, _, _], []) (156, fjl L, M) Q
                                                                        refine Wp.run 1 (f' := (d + 14, 322, 1631, cu, su, [some (fA 1000), some (fA 0), some (fA 122), some (fA 155), some (fI l4), _, _, _], [fA 0])) (h' := (156, fjl L, M)) rfl trivial ?_
                                                                        obtain ⟨y1631, hy, h⟩ := fbd h
                                                                        refine Wp.call rfl (by show cu + 0 ≤ 601023 ∧ su + 0 ≤ 7293028; omega) (s_X11_chance_ok (d := d + 13) hy ?_)
                                                                        show Wp (d + 14, 322, 1634, cu, su, [some (fA 1000), some (fA 0), some (fA 122), some (fA 155), some (fI l4), _, _, _], [fJ y1631]) (156, fjl L, M) Q
                                                                        refine Wp.run 1 (f' := (d + 14, 322, 1635, cu, su, [some (fA 1000), some (fA 0), some (fA 122), some (fA 155), some (fI l4), _, _, _], [fA 122, fJ y1631])) (h' := (156, fjl L, M)) rfl trivial ?_
                                                                        obtain ⟨y1635, hy, h⟩ := fbd h
                                                                        refine Wp.call rfl (by show cu + 0 ≤ 601023 ∧ su + 0 ≤ 7293028; omega) (s_X12_chance_ok (d := d + 13) hy ?_)
                                                                        show Wp (d + 14, 322, 1638, cu, su, [some (fA 1000), some (fA 0), some (fA 122), some (fA 155), some (fI l4), _, _, _], [fJ y1635.1, fJ y1631]) (156, fjl L, y1635.2) Q
                                                                        refine Wp.run 1 (f' := (d + 14, 322, 1639, cu, su, [some (fA 1000), some (fA 0), some (fA 122), some (fA 155), some (fI l4), _, _, _], [fI (fcm y1631 y1635.1)])) (h' := (156, fjl L, y1635.2)) rfl trivial ?_
                                                                        refine Wp.br rfl (fun (c : (fcm y1631 y1635.1) = 0) => ?_) (fun (c : ¬ ((fcm y1631 y1635.1) = 0)) => ?_)
                                                                        · replace c := (fcm_eq _ _).mp c
                                                                          replace h := fps c h
                                                                          obtain ⟨g0, h⟩ := fgd h
                                                                          refine Wp.run 2 (f' := (d + 14, 322, 23, cu, su, [some (fA 1000), some (fA 0), some (fA 122), some (fA 155), some (fI (fw (l4 + 6))), _, _, _], [])) (h' := (156, fjl L, y1635.2)) rfl trivial ?_
                                                                          rw [fw_id g0]
                                                                          exact hC _ _ _ _ _ _ _ (by omega) (by omega) (Option.some.inj h).symm
                                                                        · replace c := fun z => c ((fcm_eq _ _).mpr z)
                                                                          replace h := fng c h
                                                                          cases h
                                                                      · replace h := fng c h
                                                                        refine ⟨fun (c : (fand (M 1000 (l4).toNat) 63) = 34) => ?_, fun (c : ¬ ((fand (M 1000 (l4).toNat) 63) = 34)) => ?_⟩
                                                                        · replace h := fps c h
                                                                          show Wp (d + 14, 322, 1644, cu, su, [some (fA 1000), some (fA 0), some (fA 122), some (fA 155), some (fI l4), _, _, _], []) (156, fjl L, M) Q
                                                                          refine Wp.run 1 (f' := (d + 14, 322, 1645, cu, su, [some (fA 1000), some (fA 0), some (fA 122), some (fA 155), some (fI l4), _, _, _], [fA 0])) (h' := (156, fjl L, M)) rfl trivial ?_
                                                                          obtain ⟨y1645, hy, h⟩ := fbd h
                                                                          refine Wp.call rfl (by show cu + 0 ≤ 601023 ∧ su + 0 ≤ 7293028; omega) (s_X11_pupils_ok (d := d + 9) hy ?_)
                                                                          show Wp (d + 14, 322, 1648, cu, su, [some (fA 1000), some (fA 0), some (fA 122), some (fA 155), some (fI l4), _, _, _], [fI y1645.1]) (156, fjl L, y1645.2) Q
                                                                          refine Wp.run 1 (f' := (d + 14, 322, 1649, cu, su, [some (fA 1000), some (fA 0), some (fA 122), some (fA 155), some (fI l4), _, _, _], [fA 122, fI y1645.1])) (h' := (156, fjl L, y1645.2)) rfl trivial ?_
                                                                          obtain ⟨y1649, hy, h⟩ := fbd h
                                                                          refine Wp.call rfl (by show cu + 0 ≤ 601023 ∧ su + 0 ≤ 7293028; omega) (s_X12_pupils_ok (d := d + 12) hy ?_)
                                                                          show Wp (d + 14, 322, 1652, cu, su, [some (fA 1000), some (fA 0), some (fA 122), some (fA 155), some (fI l4), _, _, _], [fI y1649.1, fI y1645.1]) (156, fjl L, y1649.2) Q
                                                                          refine Wp.br rfl (fun (c : y1645.1 = y1649.1) => ?_) (fun (c : ¬ (y1645.1 = y1649.1)) => ?_)
                                                                          · replace h := fps c h
                                                                            obtain ⟨g0, h⟩ := fgd h
                                                                            refine Wp.run 2 (f' := (d + 14, 322, 23, cu, su, [some (fA 1000), some (fA 0), some (fA 122), some (fA 155), some (fI (fw (l4 + 6))), _, _, _], [])) (h' := (156, fjl L, y1649.2)) rfl trivial ?_
                                                                            rw [fw_id g0]
                                                                            exact hC _ _ _ _ _ _ _ (by omega) (by omega) (Option.some.inj h).symm
                                                                          · replace h := fng c h
                                                                            cases h
                                                                        · replace h := fng c h
                                                                          refine ⟨fun (c : (fand (M 1000 (l4).toNat) 63) = 35) => ?_, fun (c : ¬ ((fand (M 1000 (l4).toNat) 63) = 35)) => ?_⟩
                                                                          · replace h := fps c h
                                                                            show Wp (d + 14, 322, 1657, cu, su, [some (fA 1000), some (fA 0), some (fA 122), some (fA 155), some (fI l4), _, _, _], []) (156, fjl L, M) Q
                                                                            obtain ⟨⟨g0, g1⟩, h⟩ := fgd h
                                                                            refine Wp.run 6 (P := [0 ≤ (fw (l4 + 1)) ∧ (fw (l4 + 1)) < (L : Int)]) (f' := (d + 14, 322, 1664, cu, su, [some (fA 1000), some (fA 0), some (fA 122), some (fA 155), some (fI l4), _, _, _], [fI (M 1000 (fw (l4 + 1)).toNat), fA 0])) (h' := (156, fjl L, M)) rfl ?_ ?_
                                                                            · rw [fw_id g0]; exact g1
                                                                            rw [fw_id g0]
                                                                            obtain ⟨y1664, hy, h⟩ := fbd h
                                                                            refine Wp.call rfl (by show cu + 0 ≤ 601023 ∧ su + 0 ≤ 7293028; omega) (s_X11_pupilOf_ok (d := d + 12) hy ?_)
                                                                            show Wp (d + 14, 322, 1667, cu, su, [some (fA 1000), some (fA 0), some (fA 122), some (fA 155), some (fI l4), _, _, _], [fI y1664]) (156, fjl L, M) Q
                                                                            obtain ⟨⟨g0, g1⟩, h⟩ := fgd h
                                                                            refine Wp.run 6 (P := [0 ≤ (fw (l4 + 1)) ∧ (fw (l4 + 1)) < (L : Int)]) (f' := (d + 14, 322, 1674, cu, su, [some (fA 1000), some (fA 0), some (fA 122), some (fA 155), some (fI l4), _, _, _], [fI (M 1000 (fw (l4 + 1)).toNat), fA 122, fI y1664])) (h' := (156, fjl L, M)) rfl ?_ ?_
                                                                            · rw [fw_id g0]; exact g1
                                                                            rw [fw_id g0]
                                                                            obtain ⟨y1674, hy, h⟩ := fbd h
                                                                            refine Wp.call rfl (by show cu + 0 ≤ 601023 ∧ su + 0 ≤ 7293028; omega) (s_X12_pupilOf_ok (d := d + 12) hy ?_)
                                                                            show Wp (d + 14, 322, 1677, cu, su, [some (fA 1000), some (fA 0), some (fA 122), some (fA 155), some (fI l4), _, _, _], [fI y1674.1, fI y1664]) (156, fjl L, y1674.2) Q
                                                                            refine Wp.br rfl (fun (c : y1664 = y1674.1) => ?_) (fun (c : ¬ (y1664 = y1674.1)) => ?_)
                                                                            · replace h := fps c h
                                                                              obtain ⟨g0, h⟩ := fgd h
                                                                              refine Wp.run 2 (f' := (d + 14, 322, 23, cu, su, [some (fA 1000), some (fA 0), some (fA 122), some (fA 155), some (fI (fw (l4 + 6))), _, _, _], [])) (h' := (156, fjl L, y1674.2)) rfl trivial ?_
                                                                              rw [fw_id g0]
                                                                              exact hC _ _ _ _ _ _ _ (by omega) (by omega) (Option.some.inj h).symm
                                                                            · replace h := fng c h
                                                                              cases h
                                                                          · replace h := fng c h
                                                                            refine ⟨fun (c : (fand (M 1000 (l4).toNat) 63) = 36) => ?_, fun (c : ¬ ((fand (M 1000 (l4).toNat) 63) = 36)) => ?_⟩
                                                                            · replace h := fps c h
                                                                              show Wp (d + 14, 322, 1682, cu, su, [some (fA 1000), some (fA 0), some (fA 122), some (fA 155), some (fI l4), _, _, _], []) (156, fjl L, M) Q
                                                                              obtain ⟨⟨g0, g1⟩, h⟩ := fgd h
                                                                              refine Wp.run 6 (P := [0 ≤ (fw (l4 + 1)) ∧ (fw (l4 + 1)) < (L : Int)]) (f' := (d + 14, 322, 1689, cu, su, [some (fA 1000), some (fA 0), some (fA 122), some (fA 155), some (fI l4), _, _, _], [fI (M 1000 (fw (l4 + 1)).toNat), fA 0])) (h' := (156, fjl L, M)) rfl ?_ ?_
                                                                              · rw [fw_id g0]; exact g1
                                                                              rw [fw_id g0]
                                                                              obtain ⟨y1689, hy, h⟩ := fbd h
                                                                              refine Wp.call rfl (by show cu + 0 ≤ 601023 ∧ su + 0 ≤ 7293028; omega) (s_X11_imageA_ok (d := d + 11) hy ?_)
                                                                              show Wp (d + 14, 322, 1692, cu, su, [some (fA 1000), some (fA 0), some (fA 122), some (fA 155), some (fI l4), _, _, _], [fI y1689.1]) (156, fjl L, y1689.2) Q
                                                                              obtain ⟨⟨g0, g1⟩, h⟩ := fgd h
                                                                              refine Wp.run 6 (P := [0 ≤ (fw (l4 + 1)) ∧ (fw (l4 + 1)) < (L : Int)]) (f' := (d + 14, 322, 1699, cu, su, [some (fA 1000), some (fA 0), some (fA 122), some (fA 155), some (fI l4), _, _, _], [fI (y1689.2 1000 (fw (l4 + 1)).toNat), fA 122, fI y1689.1])) (h' := (156, fjl L, y1689.2)) rfl ?_ ?_
                                                                              · rw [fw_id g0]; exact g1
                                                                              rw [fw_id g0]
                                                                              obtain ⟨y1699, hy, h⟩ := fbd h
                                                                              refine Wp.call rfl (by show cu + 0 ≤ 601023 ∧ su + 0 ≤ 7293028; omega) (s_X12_image_ok (d := d + 12) hy ?_)
                                                                              show Wp (d + 14, 322, 1702, cu, su, [some (fA 1000), some (fA 0), some (fA 122), some (fA 155), some (fI l4), _, _, _], [fI y1699.1, fI y1689.1]) (156, fjl L, y1699.2) Q
                                                                              refine Wp.br rfl (fun (c : y1689.1 = y1699.1) => ?_) (fun (c : ¬ (y1689.1 = y1699.1)) => ?_)
                                                                              · replace h := fps c h
                                                                                obtain ⟨g0, h⟩ := fgd h
                                                                                refine Wp.run 2 (f' := (d + 14, 322, 23, cu, su, [some (fA 1000), some (fA 0), some (fA 122), some (fA 155), some (fI (fw (l4 + 6))), _, _, _], [])) (h' := (156, fjl L, y1699.2)) rfl trivial ?_
                                                                                rw [fw_id g0]
                                                                                exact hC _ _ _ _ _ _ _ (by omega) (by omega) (Option.some.inj h).symm
                                                                              · replace h := fng c h
                                                                                cases h
                                                                            · replace h := fng c h
                                                                              refine ⟨fun (c : (fand (M 1000 (l4).toNat) 63) = 37) => ?_, fun (c : ¬ ((fand (M 1000 (l4).toNat) 63) = 37)) => ?_⟩
                                                                              · replace h := fps c h
                                                                                show Wp (d + 14, 322, 1707, cu, su, [some (fA 1000), some (fA 0), some (fA 122), some (fA 155), some (fI l4), _, _, _], []) (156, fjl L, M) Q
                                                                                obtain ⟨⟨g0, g1⟩, h⟩ := fgd h
                                                                                refine Wp.run 6 (P := [0 ≤ (fw (l4 + 1)) ∧ (fw (l4 + 1)) < (L : Int)]) (f' := (d + 14, 322, 1714, cu, su, [some (fA 1000), some (fA 0), some (fA 122), some (fA 155), some (fI l4), _, _, _], [fI (M 1000 (fw (l4 + 1)).toNat), fA 0])) (h' := (156, fjl L, M)) rfl ?_ ?_
                                                                                · rw [fw_id g0]; exact g1
                                                                                rw [fw_id g0]
                                                                                obtain ⟨y1714, hy, h⟩ := fbd h
                                                                                refine Wp.call rfl (by show cu + 0 ≤ 601023 ∧ su + 0 ≤ 7293028; omega) (s_X11_restoreA_ok (d := d + 11) hy ?_)
                                                                                show Wp (d + 14, 322, 1717, cu, su, [some (fA 1000), some (fA 0), some (fA 122), some (fA 155), some (fI l4), _, _, _], [fI y1714.1]) (156, fjl L, y1714.2) Q
                                                                                obtain ⟨⟨g0, g1⟩, h⟩ := fgd h
                                                                                refine Wp.run 6 (P := [0 ≤ (fw (l4 + 1)) ∧ (fw (l4 + 1)) < (L : Int)]) (f' := (d + 14, 322, 1724, cu, su, [some (fA 1000), some (fA 0), some (fA 122), some (fA 155), some (fI l4), _, _, _], [fI (y1714.2 1000 (fw (l4 + 1)).toNat), fA 122, fI y1714.1])) (h' := (156, fjl L, y1714.2)) rfl ?_ ?_
                                                                                · rw [fw_id g0]; exact g1
                                                                                rw [fw_id g0]
                                                                                obtain ⟨y1724, hy, h⟩ := fbd h
                                                                                refine Wp.call rfl (by show cu + 0 ≤ 601023 ∧ su + 0 ≤ 7293028; omega) (s_X12_restore_ok (d := d + 12) hy ?_)
                                                                                show Wp (d + 14, 322, 1727, cu, su, [some (fA 1000), some (fA 0), some (fA 122), some (fA 155), some (fI l4), _, _, _], [fI y1724.1, fI y1714.1]) (156, fjl L, y1724.2) Q
                                                                                refine Wp.br rfl (fun (c : y1714.1 = y1724.1) => ?_) (fun (c : ¬ (y1714.1 = y1724.1)) => ?_)
                                                                                · replace h := fps c h
                                                                                  obtain ⟨g0, h⟩ := fgd h
                                                                                  refine Wp.run 2 (f' := (d + 14, 322, 23, cu, su, [some (fA 1000), some (fA 0), some (fA 122), some (fA 155), some (fI (fw (l4 + 6))), _, _, _], [])) (h' := (156, fjl L, y1724.2)) rfl trivial ?_
                                                                                  rw [fw_id g0]
                                                                                  exact hC _ _ _ _ _ _ _ (by omega) (by omega) (Option.some.inj h).symm
                                                                                · replace h := fng c h
                                                                                  cases h
                                                                              · replace h := fng c h
                                                                                refine ⟨fun (c : (fand (M 1000 (l4).toNat) 63) = 38) => ?_, fun (c : ¬ ((fand (M 1000 (l4).toNat) 63) = 38)) => ?_⟩
                                                                                · replace h := fps c h
                                                                                  show Wp (d + 14, 322, 1732, cu, su, [some (fA 1000), some (fA 0), some (fA 122), some (fA 155), some (fI l4), _, _, _], []) (156, fjl L, M) Q
                                                                                  obtain ⟨⟨g0, g1⟩, h⟩ := fgd h
                                                                                  refine Wp.run 6 (P := [0 ≤ (fw (l4 + 1)) ∧ (fw (l4 + 1)) < (L : Int)]) (f' := (d + 14, 322, 1739, cu, su, [some (fA 1000), some (fA 0), some (fA 122), some (fA 155), some (fI l4), _, _, _], [fI (M 1000 (fw (l4 + 1)).toNat), fA 0])) (h' := (156, fjl L, M)) rfl ?_ ?_
                                                                                  · rw [fw_id g0]; exact g1
                                                                                  rw [fw_id g0]
                                                                                  obtain ⟨y1739, hy, h⟩ := fbd h
                                                                                  refine Wp.call rfl (by show cu + 0 ≤ 601023 ∧ su + 0 ≤ 7293028; omega) (s_X11_count_ok (d := d + 12) hy ?_)
                                                                                  show Wp (d + 14, 322, 1742, cu, su, [some (fA 1000), some (fA 0), some (fA 122), some (fA 155), some (fI l4), _, _, _], [fI y1739]) (156, fjl L, M) Q
                                                                                  obtain ⟨⟨g0, g1⟩, h⟩ := fgd h
                                                                                  refine Wp.run 6 (P := [0 ≤ (fw (l4 + 1)) ∧ (fw (l4 + 1)) < (L : Int)]) (f' := (d + 14, 322, 1749, cu, su, [some (fA 1000), some (fA 0), some (fA 122), some (fA 155), some (fI l4), _, _, _], [fI (M 1000 (fw (l4 + 1)).toNat), fA 122, fI y1739])) (h' := (156, fjl L, M)) rfl ?_ ?_
                                                                                  · rw [fw_id g0]; exact g1
                                                                                  rw [fw_id g0]
                                                                                  obtain ⟨y1749, hy, h⟩ := fbd h
                                                                                  refine Wp.call rfl (by show cu + 0 ≤ 601023 ∧ su + 0 ≤ 7293028; omega) (s_X12_count_ok (d := d + 13) hy ?_)
                                                                                  show Wp (d + 14, 322, 1752, cu, su, [some (fA 1000), some (fA 0), some (fA 122), some (fA 155), some (fI l4), _, _, _], [fI y1749.1, fI y1739]) (156, fjl L, y1749.2) Q
                                                                                  refine Wp.br rfl (fun (c : y1739 = y1749.1) => ?_) (fun (c : ¬ (y1739 = y1749.1)) => ?_)
                                                                                  · replace h := fps c h
                                                                                    obtain ⟨g0, h⟩ := fgd h
                                                                                    refine Wp.run 2 (f' := (d + 14, 322, 23, cu, su, [some (fA 1000), some (fA 0), some (fA 122), some (fA 155), some (fI (fw (l4 + 6))), _, _, _], [])) (h' := (156, fjl L, y1749.2)) rfl trivial ?_
                                                                                    rw [fw_id g0]
                                                                                    exact hC _ _ _ _ _ _ _ (by omega) (by omega) (Option.some.inj h).symm
                                                                                  · replace h := fng c h
                                                                                    cases h
                                                                                · replace h := fng c h
                                                                                  show Wp (d + 14, 322, 1757, cu, su, [some (fA 1000), some (fA 0), some (fA 122), some (fA 155), some (fI l4), _, _, _], []) (156, fjl L, M) Q
                                                                                  obtain ⟨g0, h⟩ := fgd h
                                                                                  refine Wp.run 2 (f' := (d + 14, 322, 23, cu, su, [some (fA 1000), some (fA 0), some (fA 122), some (fA 155), some (fI (fw (l4 + 6))), _, _, _], [])) (h' := (156, fjl L, M)) rfl trivial ?_
                                                                                  rw [fw_id g0]
                                                                                  exact hC _ _ _ _ _ _ _ (by omega) (by omega) (Option.some.inj h).symm
