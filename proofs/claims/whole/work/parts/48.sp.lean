/-! ===== functions of the methods (printed by genfun.py) ===== -/
abbrev s_X12_pupilOf_mods : List (Nat × Option Nat) := [(122, some 0)]
noncomputable def s_X12_pupilOf (M : fM) (l1 : Int) : Option (Int × fM) :=
  if fin ((M 122 60) - 1) then
    (s_X12_isIn (fup M 122 0 0) l1 0 ((M 122 60) - 1)).bind fun y13 =>
      if y13 = 0 then
        some ((-1), (fup M 122 0 0))
      else
        if (0 ≤ l1 ∧ l1 < 6) then
          some ((M 148 (l1).toNat), (fup M 122 0 0))
        else none
  else none
theorem s_X12_pupilOf_ok {d L : Nat} {M : fM} {l1 : Int} {r : (Int × fM)} {Q : fO → fH → Prop} (h : s_X12_pupilOf M l1 = some r) (H : Q (oI r.1) (156, fjl L, r.2)) : Wp (d + 1, 306, 0, 0, 0, [some (fA 122), some (fI l1)], []) (156, fjl L, M) Q := by
  unfold s_X12_pupilOf at h
  obtain ⟨g0, h⟩ := fgd h
  refine Wp.run 9 (f' := (d + 1, 306, 13, 0, 0, [some (fA 122), some (fI l1)], [fI (fw ((M 122 60) - 1)), fI 0, fI l1])) (h' := (156, fjl L, (fup M 122 0 0))) rfl trivial ?_
  rw [fw_id g0]
  obtain ⟨y13, hy, h⟩ := fbd h
  refine Wp.call rfl (by decide) (s_X12_isIn_ok (d := d + 0) hy ?_)
  show Wp (d + 1, 306, 16, 0, 0, [some (fA 122), some (fI l1)], [fI y13]) (156, fjl L, (fup M 122 0 0)) Q
  refine Wp.br rfl (fun (c : y13 = 0) => ?_) (fun (c : ¬ (y13 = 0)) => ?_)
  · replace h := fps c h
    refine Wp.run 1 (f' := (d + 1, 306, 29, 0, 0, [_, _], [fI (-1)])) (h' := (156, fjl L, (fup M 122 0 0))) rfl trivial ?_
    obtain rfl := Option.some.inj h
    exact Wp.done rfl (by decide) H
  · replace h := fng c h
    obtain ⟨g0, h⟩ := fgd h
    refine Wp.run 5 (P := [0 ≤ l1 ∧ l1 < 6]) (f' := (d + 1, 306, 29, 0, 0, [_, _], [fI (M 148 (l1).toNat)])) (h' := (156, fjl L, (fup M 122 0 0))) rfl ?_ ?_
    · exact g0
    obtain rfl := Option.some.inj h
    exact Wp.done rfl (by decide) H
theorem s_X12_pupilOf_fr {M : fM} {l1 : Int} {r : (Int × fM)} (h : s_X12_pupilOf M l1 = some r) : fSame s_X12_pupilOf_mods M r.2 := by
  unfold s_X12_pupilOf at h
  replace h := (fgd h).2
  obtain ⟨y13, hy, h⟩ := fbd h
  by_cases c : y13 = 0
  · replace h := fps c h
    obtain rfl := Option.some.inj h
    exact fs_up fs_refl (.inr (by decide))
  · replace h := fng c h
    replace h := (fgd h).2
    obtain rfl := Option.some.inj h
    exact fs_up fs_refl (.inr (by decide))
abbrev s_X2_copyFrom_76_4_mods : List (Nat × Option Nat) := [(76, some 13), (76, some 14), (76, some 15), (76, some 16), (76, some 17), (77, none), (78, none), (79, none), (80, none), (81, none), (82, none), (83, none), (84, none), (85, none), (86, none), (87, none), (88, none), (89, none)]
noncomputable def s_X2_copyFrom_76_4 (M : fM) : Option (Unit × fM) :=
  some ((), (fup (fup (fup (fup (fup (fcpy (fcpy (fcpy (fcpy (fcpy (fcpy (fcpy (fcpy (fcpy (fcpy (fcpy (fcpy (fcpy M 5 0 77 0 12) 6 0 78 0 52) 7 0 79 0 52) 8 0 80 0 6) 9 0 81 0 48) 10 0 82 0 160) 11 0 83 0 192) 12 0 84 0 64) 13 0 85 0 18) 14 0 86 0 36) 15 0 87 0 16) 16 0 88 0 6) 17 0 89 0 6) 76 13 (M 4 13)) 76 14 (M 4 14)) 76 15 (M 4 15)) 76 16 (M 4 16)) 76 17 (M 4 17)))
theorem s_X2_copyFrom_76_4_ok {d L : Nat} {M : fM} {r : (Unit × fM)} {Q : fO → fH → Prop} (h : s_X2_copyFrom_76_4 M = some r) (H : Q (oV r.1) (156, fjl L, r.2)) : Wp (d + 1, 26, 0, 0, 0, [some (fA 76), some (fA 4)], []) (156, fjl L, M) Q := by
  unfold s_X2_copyFrom_76_4 at h
  refine Wp.run 16 (P := [1 ≤ d + 1, (0 : Int) ≤ 0 ∧ (0 : Int) ≤ 0 ∧ (0 : Int) ≤ 12 ∧ (0 : Int) + 12 ≤ 12 ∧ (0 : Int) + 12 ≤ 12 ∧ 5 ≠ 77, 1 ≤ d + 1, (0 : Int) ≤ 0 ∧ (0 : Int) ≤ 0 ∧ (0 : Int) ≤ 52 ∧ (0 : Int) + 52 ≤ 52 ∧ (0 : Int) + 52 ≤ 52 ∧ 6 ≠ 78]) (f' := (d + 1, 26, 30, 0, 0, [some (fA 76), some (fA 4)], [])) (h' := (156, fjl L, (fcpy (fcpy M 5 0 77 0 12) 6 0 78 0 52))) rfl ?_ ?_
  · exact ⟨Nat.le_add_left_of_le (by decide), ⟨by decide, by decide, by decide, by decide, by decide, by decide⟩, Nat.le_add_left_of_le (by decide), ⟨by decide, by decide, by decide, by decide, by decide, by decide⟩⟩
  refine Wp.run 16 (P := [1 ≤ d + 1, (0 : Int) ≤ 0 ∧ (0 : Int) ≤ 0 ∧ (0 : Int) ≤ 52 ∧ (0 : Int) + 52 ≤ 52 ∧ (0 : Int) + 52 ≤ 52 ∧ 7 ≠ 79, 1 ≤ d + 1, (0 : Int) ≤ 0 ∧ (0 : Int) ≤ 0 ∧ (0 : Int) ≤ 6 ∧ (0 : Int) + 6 ≤ 6 ∧ (0 : Int) + 6 ≤ 6 ∧ 8 ≠ 80]) (f' := (d + 1, 26, 60, 0, 0, [some (fA 76), some (fA 4)], [])) (h' := (156, fjl L, (fcpy (fcpy (fcpy (fcpy M 5 0 77 0 12) 6 0 78 0 52) 7 0 79 0 52) 8 0 80 0 6))) rfl ?_ ?_
  · exact ⟨Nat.le_add_left_of_le (by decide), ⟨by decide, by decide, by decide, by decide, by decide, by decide⟩, Nat.le_add_left_of_le (by decide), ⟨by decide, by decide, by decide, by decide, by decide, by decide⟩⟩
  refine Wp.run 16 (P := [1 ≤ d + 1, (0 : Int) ≤ 0 ∧ (0 : Int) ≤ 0 ∧ (0 : Int) ≤ 48 ∧ (0 : Int) + 48 ≤ 48 ∧ (0 : Int) + 48 ≤ 48 ∧ 9 ≠ 81, 1 ≤ d + 1, (0 : Int) ≤ 0 ∧ (0 : Int) ≤ 0 ∧ (0 : Int) ≤ 160 ∧ (0 : Int) + 160 ≤ 160 ∧ (0 : Int) + 160 ≤ 160 ∧ 10 ≠ 82]) (f' := (d + 1, 26, 91, 0, 0, [some (fA 76), some (fA 4)], [])) (h' := (156, fjl L, (fcpy (fcpy (fcpy (fcpy (fcpy (fcpy M 5 0 77 0 12) 6 0 78 0 52) 7 0 79 0 52) 8 0 80 0 6) 9 0 81 0 48) 10 0 82 0 160))) rfl ?_ ?_
  · exact ⟨Nat.le_add_left_of_le (by decide), ⟨by decide, by decide, by decide, by decide, by decide, by decide⟩, Nat.le_add_left_of_le (by decide), ⟨by decide, by decide, by decide, by decide, by decide, by decide⟩⟩
  refine Wp.run 16 (P := [1 ≤ d + 1, (0 : Int) ≤ 0 ∧ (0 : Int) ≤ 0 ∧ (0 : Int) ≤ 192 ∧ (0 : Int) + 192 ≤ 192 ∧ (0 : Int) + 192 ≤ 192 ∧ 11 ≠ 83, 1 ≤ d + 1, (0 : Int) ≤ 0 ∧ (0 : Int) ≤ 0 ∧ (0 : Int) ≤ 64 ∧ (0 : Int) + 64 ≤ 64 ∧ (0 : Int) + 64 ≤ 64 ∧ 12 ≠ 84]) (f' := (d + 1, 26, 122, 0, 0, [some (fA 76), some (fA 4)], [])) (h' := (156, fjl L, (fcpy (fcpy (fcpy (fcpy (fcpy (fcpy (fcpy (fcpy M 5 0 77 0 12) 6 0 78 0 52) 7 0 79 0 52) 8 0 80 0 6) 9 0 81 0 48) 10 0 82 0 160) 11 0 83 0 192) 12 0 84 0 64))) rfl ?_ ?_
  · exact ⟨Nat.le_add_left_of_le (by decide), ⟨by decide, by decide, by decide, by decide, by decide, by decide⟩, Nat.le_add_left_of_le (by decide), ⟨by decide, by decide, by decide, by decide, by decide, by decide⟩⟩
  refine Wp.run 16 (P := [1 ≤ d + 1, (0 : Int) ≤ 0 ∧ (0 : Int) ≤ 0 ∧ (0 : Int) ≤ 18 ∧ (0 : Int) + 18 ≤ 18 ∧ (0 : Int) + 18 ≤ 18 ∧ 13 ≠ 85, 1 ≤ d + 1, (0 : Int) ≤ 0 ∧ (0 : Int) ≤ 0 ∧ (0 : Int) ≤ 36 ∧ (0 : Int) + 36 ≤ 36 ∧ (0 : Int) + 36 ≤ 36 ∧ 14 ≠ 86]) (f' := (d + 1, 26, 152, 0, 0, [some (fA 76), some (fA 4)], [])) (h' := (156, fjl L, (fcpy (fcpy (fcpy (fcpy (fcpy (fcpy (fcpy (fcpy (fcpy (fcpy M 5 0 77 0 12) 6 0 78 0 52) 7 0 79 0 52) 8 0 80 0 6) 9 0 81 0 48) 10 0 82 0 160) 11 0 83 0 192) 12 0 84 0 64) 13 0 85 0 18) 14 0 86 0 36))) rfl ?_ ?_
  · exact ⟨Nat.le_add_left_of_le (by decide), ⟨by decide, by decide, by decide, by decide, by decide, by decide⟩, Nat.le_add_left_of_le (by decide), ⟨by decide, by decide, by decide, by decide, by decide, by decide⟩⟩
  refine Wp.run 16 (P := [1 ≤ d + 1, (0 : Int) ≤ 0 ∧ (0 : Int) ≤ 0 ∧ (0 : Int) ≤ 16 ∧ (0 : Int) + 16 ≤ 16 ∧ (0 : Int) + 16 ≤ 16 ∧ 15 ≠ 87, 1 ≤ d + 1, (0 : Int) ≤ 0 ∧ (0 : Int) ≤ 0 ∧ (0 : Int) ≤ 6 ∧ (0 : Int) + 6 ≤ 6 ∧ (0 : Int) + 6 ≤ 6 ∧ 16 ≠ 88]) (f' := (d + 1, 26, 182, 0, 0, [some (fA 76), some (fA 4)], [])) (h' := (156, fjl L, (fcpy (fcpy (fcpy (fcpy (fcpy (fcpy (fcpy (fcpy (fcpy (fcpy (fcpy (fcpy M 5 0 77 0 12) 6 0 78 0 52) 7 0 79 0 52) 8 0 80 0 6) 9 0 81 0 48) 10 0 82 0 160) 11 0 83 0 192) 12 0 84 0 64) 13 0 85 0 18) 14 0 86 0 36) 15 0 87 0 16) 16 0 88 0 6))) rfl ?_ ?_
  · exact ⟨Nat.le_add_left_of_le (by decide), ⟨by decide, by decide, by decide, by decide, by decide, by decide⟩, Nat.le_add_left_of_le (by decide), ⟨by decide, by decide, by decide, by decide, by decide, by decide⟩⟩
  refine Wp.run 12 (P := [1 ≤ d + 1, (0 : Int) ≤ 0 ∧ (0 : Int) ≤ 0 ∧ (0 : Int) ≤ 6 ∧ (0 : Int) + 6 ≤ 6 ∧ (0 : Int) + 6 ≤ 6 ∧ 17 ≠ 89]) (f' := (d + 1, 26, 205, 0, 0, [some (fA 76), some (fA 4)], [])) (h' := (156, fjl L, (fup (fcpy (fcpy (fcpy (fcpy (fcpy (fcpy (fcpy (fcpy (fcpy (fcpy (fcpy (fcpy (fcpy M 5 0 77 0 12) 6 0 78 0 52) 7 0 79 0 52) 8 0 80 0 6) 9 0 81 0 48) 10 0 82 0 160) 11 0 83 0 192) 12 0 84 0 64) 13 0 85 0 18) 14 0 86 0 36) 15 0 87 0 16) 16 0 88 0 6) 17 0 89 0 6) 76 13 (M 4 13)))) rfl ?_ ?_
  · exact ⟨Nat.le_add_left_of_le (by decide), ⟨by decide, by decide, by decide, by decide, by decide, by decide⟩⟩
  refine Wp.run 12 (f' := (d + 1, 26, 229, 0, 0, [some (fA 76), some (fA 4)], [])) (h' := (156, fjl L, (fup (fup (fup (fup (fcpy (fcpy (fcpy (fcpy (fcpy (fcpy (fcpy (fcpy (fcpy (fcpy (fcpy (fcpy (fcpy M 5 0 77 0 12) 6 0 78 0 52) 7 0 79 0 52) 8 0 80 0 6) 9 0 81 0 48) 10 0 82 0 160) 11 0 83 0 192) 12 0 84 0 64) 13 0 85 0 18) 14 0 86 0 36) 15 0 87 0 16) 16 0 88 0 6) 17 0 89 0 6) 76 13 (M 4 13)) 76 14 (M 4 14)) 76 15 (M 4 15)) 76 16 (M 4 16)))) rfl trivial ?_
  refine Wp.run 4 (f' := (d + 1, 26, 237, 0, 0, [_, _], [])) (h' := (156, fjl L, (fup (fup (fup (fup (fup (fcpy (fcpy (fcpy (fcpy (fcpy (fcpy (fcpy (fcpy (fcpy (fcpy (fcpy (fcpy (fcpy M 5 0 77 0 12) 6 0 78 0 52) 7 0 79 0 52) 8 0 80 0 6) 9 0 81 0 48) 10 0 82 0 160) 11 0 83 0 192) 12 0 84 0 64) 13 0 85 0 18) 14 0 86 0 36) 15 0 87 0 16) 16 0 88 0 6) 17 0 89 0 6) 76 13 (M 4 13)) 76 14 (M 4 14)) 76 15 (M 4 15)) 76 16 (M 4 16)) 76 17 (M 4 17)))) rfl trivial ?_
  obtain rfl := Option.some.inj h
  exact Wp.done rfl (by decide) H
theorem s_X2_copyFrom_76_4_fr {M : fM} {r : (Unit × fM)} (h : s_X2_copyFrom_76_4 M = some r) : fSame s_X2_copyFrom_76_4_mods M r.2 := by
  unfold s_X2_copyFrom_76_4 at h
  obtain rfl := Option.some.inj h
  exact fs_up (fs_up (fs_up (fs_up (fs_up (fs_cpy (fs_cpy (fs_cpy (fs_cpy (fs_cpy (fs_cpy (fs_cpy (fs_cpy (fs_cpy (fs_cpy (fs_cpy (fs_cpy (fs_cpy fs_refl (by decide)) (by decide)) (by decide)) (by decide)) (by decide)) (by decide)) (by decide)) (by decide)) (by decide)) (by decide)) (by decide)) (by decide)) (by decide)) (.inr (by decide))) (.inr (by decide))) (.inr (by decide))) (.inr (by decide))) (.inr (by decide))
abbrev s_X6_copyFrom_90_18_mods : List (Nat × Option Nat) := [(90, some 8), (91, none), (92, none), (93, none), (94, none), (95, none), (96, none), (97, none), (98, none)]
noncomputable def s_X6_copyFrom_90_18 (M : fM) : Option (Unit × fM) :=
  if (0 : Int) ≤ 0 ∧ (0 : Int) ≤ 0 ∧ (0 : Int) ≤ (M 18 8) ∧ (0 : Int) + (M 18 8) ≤ 200 ∧ (0 : Int) + (M 18 8) ≤ 200 then
    if (0 : Int) ≤ 0 ∧ (0 : Int) ≤ 0 ∧ (0 : Int) ≤ (M 18 8) ∧ (0 : Int) + (M 18 8) ≤ 200 ∧ (0 : Int) + (M 18 8) ≤ 200 then
      if (0 : Int) ≤ 0 ∧ (0 : Int) ≤ 0 ∧ (0 : Int) ≤ (M 18 8) ∧ (0 : Int) + (M 18 8) ≤ 200 ∧ (0 : Int) + (M 18 8) ≤ 200 then
        if (0 : Int) ≤ 0 ∧ (0 : Int) ≤ 0 ∧ (0 : Int) ≤ (M 18 8) ∧ (0 : Int) + (M 18 8) ≤ 200 ∧ (0 : Int) + (M 18 8) ≤ 200 then
          if fin ((M 18 8) * 12) ∧ (0 : Int) ≤ 0 ∧ (0 : Int) ≤ 0 ∧ (0 : Int) ≤ ((M 18 8) * 12) ∧ (0 : Int) + ((M 18 8) * 12) ≤ 2400 ∧ (0 : Int) + ((M 18 8) * 12) ≤ 2400 then
            some ((), (fcpy (fcpy (fcpy (fcpy (fcpy (fcpy (fcpy (fcpy (fup M 90 8 (M 18 8)) 19 0 91 0 (M 18 8).toNat) 20 0 92 0 (M 18 8).toNat) 21 0 93 0 (M 18 8).toNat) 22 0 94 0 (M 18 8).toNat) 23 0 95 0 (M 18 8).toNat) 24 0 96 0 (M 18 8).toNat) 25 0 97 0 (M 18 8).toNat) 26 0 98 0 ((M 18 8) * 12).toNat))
          else none
        else none
      else none
    else none
  else none
theorem s_X6_copyFrom_90_18_ok {d L : Nat} {M : fM} {r : (Unit × fM)} {Q : fO → fH → Prop} (h : s_X6_copyFrom_90_18 M = some r) (H : Q (oV r.1) (156, fjl L, r.2)) : Wp (d + 1, 77, 0, 0, 0, [some (fA 90), some (fA 18)], []) (156, fjl L, M) Q := by
  unfold s_X6_copyFrom_90_18 at h
  obtain ⟨g0, h⟩ := fgd h
  refine Wp.run 13 (P := [1 ≤ d + 1, (0 : Int) ≤ 0 ∧ (0 : Int) ≤ 0 ∧ (0 : Int) ≤ (M 18 8) ∧ (0 : Int) + (M 18 8) ≤ 200 ∧ (0 : Int) + (M 18 8) ≤ 200 ∧ 19 ≠ 91]) (f' := (d + 1, 77, 25, 0, 0, [some (fA 90), some (fA 18)], [])) (h' := (156, fjl L, (fcpy (fup M 90 8 (M 18 8)) 19 0 91 0 (M 18 8).toNat))) rfl ?_ ?_
  · exact ⟨Nat.le_add_left_of_le (by decide), ⟨g0.1, g0.2.1, g0.2.2.1, g0.2.2.2.1, g0.2.2.2.2, by decide⟩⟩
  obtain ⟨g0, h⟩ := fgd h
  refine Wp.run 18 (P := [1 ≤ d + 1, (0 : Int) ≤ 0 ∧ (0 : Int) ≤ 0 ∧ (0 : Int) ≤ (M 18 8) ∧ (0 : Int) + (M 18 8) ≤ 200 ∧ (0 : Int) + (M 18 8) ≤ 200 ∧ 20 ≠ 92, 1 ≤ d + 1, (0 : Int) ≤ 0 ∧ (0 : Int) ≤ 0 ∧ (0 : Int) ≤ (M 18 8) ∧ (0 : Int) + (M 18 8) ≤ 200 ∧ (0 : Int) + (M 18 8) ≤ 200 ∧ 21 ≠ 93]) (f' := (d + 1, 77, 59, 0, 0, [some (fA 90), some (fA 18)], [])) (h' := (156, fjl L, (fcpy (fcpy (fcpy (fup M 90 8 (M 18 8)) 19 0 91 0 (M 18 8).toNat) 20 0 92 0 (M 18 8).toNat) 21 0 93 0 (M 18 8).toNat))) rfl ?_ ?_
  · exact ⟨Nat.le_add_left_of_le (by decide), ⟨g0.1, g0.2.1, g0.2.2.1, g0.2.2.2.1, g0.2.2.2.2, by decide⟩, Nat.le_add_left_of_le (by decide), ⟨g0.1, g0.2.1, g0.2.2.1, g0.2.2.2.1, g0.2.2.2.2, by decide⟩⟩
  obtain ⟨g0, h⟩ := fgd h
  refine Wp.run 18 (P := [1 ≤ d + 1, (0 : Int) ≤ 0 ∧ (0 : Int) ≤ 0 ∧ (0 : Int) ≤ (M 18 8) ∧ (0 : Int) + (M 18 8) ≤ 200 ∧ (0 : Int) + (M 18 8) ≤ 200 ∧ 22 ≠ 94, 1 ≤ d + 1, (0 : Int) ≤ 0 ∧ (0 : Int) ≤ 0 ∧ (0 : Int) ≤ (M 18 8) ∧ (0 : Int) + (M 18 8) ≤ 200 ∧ (0 : Int) + (M 18 8) ≤ 200 ∧ 23 ≠ 95]) (f' := (d + 1, 77, 93, 0, 0, [some (fA 90), some (fA 18)], [])) (h' := (156, fjl L, (fcpy (fcpy (fcpy (fcpy (fcpy (fup M 90 8 (M 18 8)) 19 0 91 0 (M 18 8).toNat) 20 0 92 0 (M 18 8).toNat) 21 0 93 0 (M 18 8).toNat) 22 0 94 0 (M 18 8).toNat) 23 0 95 0 (M 18 8).toNat))) rfl ?_ ?_
  · exact ⟨Nat.le_add_left_of_le (by decide), ⟨g0.1, g0.2.1, g0.2.2.1, g0.2.2.2.1, g0.2.2.2.2, by decide⟩, Nat.le_add_left_of_le (by decide), ⟨g0.1, g0.2.1, g0.2.2.1, g0.2.2.2.1, g0.2.2.2.2, by decide⟩⟩
  obtain ⟨g0, h⟩ := fgd h
  refine Wp.run 18 (P := [1 ≤ d + 1, (0 : Int) ≤ 0 ∧ (0 : Int) ≤ 0 ∧ (0 : Int) ≤ (M 18 8) ∧ (0 : Int) + (M 18 8) ≤ 200 ∧ (0 : Int) + (M 18 8) ≤ 200 ∧ 24 ≠ 96, 1 ≤ d + 1, (0 : Int) ≤ 0 ∧ (0 : Int) ≤ 0 ∧ (0 : Int) ≤ (M 18 8) ∧ (0 : Int) + (M 18 8) ≤ 200 ∧ (0 : Int) + (M 18 8) ≤ 200 ∧ 25 ≠ 97]) (f' := (d + 1, 77, 127, 0, 0, [some (fA 90), some (fA 18)], [])) (h' := (156, fjl L, (fcpy (fcpy (fcpy (fcpy (fcpy (fcpy (fcpy (fup M 90 8 (M 18 8)) 19 0 91 0 (M 18 8).toNat) 20 0 92 0 (M 18 8).toNat) 21 0 93 0 (M 18 8).toNat) 22 0 94 0 (M 18 8).toNat) 23 0 95 0 (M 18 8).toNat) 24 0 96 0 (M 18 8).toNat) 25 0 97 0 (M 18 8).toNat))) rfl ?_ ?_
  · exact ⟨Nat.le_add_left_of_le (by decide), ⟨g0.1, g0.2.1, g0.2.2.1, g0.2.2.2.1, g0.2.2.2.2, by decide⟩, Nat.le_add_left_of_le (by decide), ⟨g0.1, g0.2.1, g0.2.2.1, g0.2.2.2.1, g0.2.2.2.2, by decide⟩⟩
  obtain ⟨⟨g0, g1⟩, h⟩ := fgd h
  refine Wp.run 11 (P := [1 ≤ d + 1, (0 : Int) ≤ 0 ∧ (0 : Int) ≤ 0 ∧ (0 : Int) ≤ (fw ((M 18 8) * 12)) ∧ (0 : Int) + (fw ((M 18 8) * 12)) ≤ 2400 ∧ (0 : Int) + (fw ((M 18 8) * 12)) ≤ 2400 ∧ 26 ≠ 98]) (f' := (d + 1, 77, 147, 0, 0, [_, _], [])) (h' := (156, fjl L, (fcpy (fcpy (fcpy (fcpy (fcpy (fcpy (fcpy (fcpy (fup M 90 8 (M 18 8)) 19 0 91 0 (M 18 8).toNat) 20 0 92 0 (M 18 8).toNat) 21 0 93 0 (M 18 8).toNat) 22 0 94 0 (M 18 8).toNat) 23 0 95 0 (M 18 8).toNat) 24 0 96 0 (M 18 8).toNat) 25 0 97 0 (M 18 8).toNat) 26 0 98 0 (fw ((M 18 8) * 12)).toNat))) rfl ?_ ?_
  · rw [fw_id g0]; exact ⟨Nat.le_add_left_of_le (by decide), ⟨g1.1, g1.2.1, g1.2.2.1, g1.2.2.2.1, g1.2.2.2.2, by decide⟩⟩
  rw [fw_id g0]
  obtain rfl := Option.some.inj h
  exact Wp.done rfl (by decide) H
theorem s_X6_copyFrom_90_18_fr {M : fM} {r : (Unit × fM)} (h : s_X6_copyFrom_90_18 M = some r) : fSame s_X6_copyFrom_90_18_mods M r.2 := by
  unfold s_X6_copyFrom_90_18 at h
  replace h := (fgd h).2
  replace h := (fgd h).2
  replace h := (fgd h).2
  replace h := (fgd h).2
  replace h := (fgd h).2
  obtain rfl := Option.some.inj h
  exact fs_cpy (fs_cpy (fs_cpy (fs_cpy (fs_cpy (fs_cpy (fs_cpy (fs_cpy (fs_up fs_refl (.inr (by decide))) (by decide)) (by decide)) (by decide)) (by decide)) (by decide)) (by decide)) (by decide)) (by decide)
abbrev s_X11_image_0_mods : List (Nat × Option Nat) := [(75, none), (76, some 13), (76, some 14), (76, some 15), (76, some 16), (76, some 17), (77, none), (78, none), (79, none), (80, none), (81, none), (82, none), (83, none), (84, none), (85, none), (86, none), (87, none), (88, none), (89, none), (90, some 8), (91, none), (92, none), (93, none), (94, none), (95, none), (96, none), (97, none), (98, none)]
noncomputable def s_X11_image_0 (M : fM) : Option (Int × fM) :=
  (s_X11_isWithin M 0 2).bind fun y2 =>
    if ¬ y2 = 0 then
      (s_X2_copyFrom_76_4 M).bind fun y20 =>
        (s_X6_copyFrom_90_18 y20.2).bind fun y33 =>
          some (1, (fup y33.2 75 0 1))
    else
      some (0, M)
theorem s_X11_image_0_ok {d L : Nat} {M : fM} {r : (Int × fM)} {Q : fO → fH → Prop} (h : s_X11_image_0 M = some r) (H : Q (oI r.1) (156, fjl L, r.2)) : Wp (d + 2, 187, 0, 0, 0, [some (fA 0), some (fI 0)], []) (156, fjl L, M) Q := by
  unfold s_X11_image_0 at h
  refine Wp.run 2 (f' := (d + 2, 187, 2, 0, 0, [some (fA 0), some (fI 0)], [fI 2, fI 0])) (h' := (156, fjl L, M)) rfl trivial ?_
  obtain ⟨y2, hy, h⟩ := fbd h
  refine Wp.call rfl (by decide) (s_X11_isWithin_ok (d := d + 1) hy ?_)
  show Wp (d + 2, 187, 5, 0, 0, [some (fA 0), some (fI 0)], [fI y2]) (156, fjl L, M) Q
  refine Wp.br rfl (fun (c : ¬ y2 = 0) => ?_) (fun (c : ¬ (¬ y2 = 0)) => ?_)
  · replace h := fps c h
    refine Wp.run 6 (P := [(0 : Int) ≤ 0 ∧ (0 : Int) < 2]) (f' := (d + 2, 187, 20, 0, 0, [some (fA 0), some (fI 0)], [fA 4, fA 76])) (h' := (156, fjl L, M)) rfl ?_ ?_
    · exact (by decide : (0 : Int) ≤ 0 ∧ (0 : Int) < 2)
    obtain ⟨y20, hy, h⟩ := fbd h
    refine Wp.call rfl (by decide) (s_X2_copyFrom_76_4_ok (d := d + 0) hy ?_)
    show Wp (d + 2, 187, 23, 0, 0, [some (fA 0), some (fI 0)], []) (156, fjl L, y20.2) Q
    refine Wp.run 6 (P := [(0 : Int) ≤ 0 ∧ (0 : Int) < 2]) (f' := (d + 2, 187, 33, 0, 0, [some (fA 0), some (fI 0)], [fA 18, fA 90])) (h' := (156, fjl L, y20.2)) rfl ?_ ?_
    · exact (by decide : (0 : Int) ≤ 0 ∧ (0 : Int) < 2)
    obtain ⟨y33, hy, h⟩ := fbd h
    refine Wp.call rfl (by decide) (s_X6_copyFrom_90_18_ok (d := d + 0) hy ?_)
    show Wp (d + 2, 187, 36, 0, 0, [some (fA 0), some (fI 0)], []) (156, fjl L, y33.2) Q
    refine Wp.run 6 (P := [(0 : Int) ≤ 0 ∧ (0 : Int) < 2]) (f' := (d + 2, 187, 44, 0, 0, [_, _], [fI 1])) (h' := (156, fjl L, (fup y33.2 75 0 1))) rfl ?_ ?_
    · exact (by decide : (0 : Int) ≤ 0 ∧ (0 : Int) < 2)
    obtain rfl := Option.some.inj h
    exact Wp.done rfl (by decide) H
  · replace h := fng c h
    refine Wp.run 1 (f' := (d + 2, 187, 9, 0, 0, [_, _], [fI 0])) (h' := (156, fjl L, M)) rfl trivial ?_
    obtain rfl := Option.some.inj h
    exact Wp.done rfl (by decide) H
theorem s_X11_image_0_fr {M : fM} {r : (Int × fM)} (h : s_X11_image_0 M = some r) : fSame s_X11_image_0_mods M r.2 := by
  unfold s_X11_image_0 at h
  obtain ⟨y2, hy, h⟩ := fbd h
  by_cases c : ¬ y2 = 0
  · replace h := fps c h
    obtain ⟨y20, hy, h⟩ := fbd h
    have k20 := fs_trans (l := s_X11_image_0_mods) fs_refl (fs_mono (l := s_X2_copyFrom_76_4_mods) (by decide) (s_X2_copyFrom_76_4_fr hy))
    obtain ⟨y33, hy, h⟩ := fbd h
    have k33 := fs_trans (l := s_X11_image_0_mods) k20 (fs_mono (l := s_X6_copyFrom_90_18_mods) (by decide) (s_X6_copyFrom_90_18_fr hy))
    obtain rfl := Option.some.inj h
    exact fs_up k33 (.inl (by decide))
  · replace h := fng c h
    obtain rfl := Option.some.inj h
    exact fs_refl
abbrev s_X2_copyFrom_99_4_mods : List (Nat × Option Nat) := [(99, some 13), (99, some 14), (99, some 15), (99, some 16), (99, some 17), (100, none), (101, none), (102, none), (103, none), (104, none), (105, none), (106, none), (107, none), (108, none), (109, none), (110, none), (111, none), (112, none)]
noncomputable def s_X2_copyFrom_99_4 (M : fM) : Option (Unit × fM) :=
  some ((), (fup (fup (fup (fup (fup (fcpy (fcpy (fcpy (fcpy (fcpy (fcpy (fcpy (fcpy (fcpy (fcpy (fcpy (fcpy (fcpy M 5 0 100 0 12) 6 0 101 0 52) 7 0 102 0 52) 8 0 103 0 6) 9 0 104 0 48) 10 0 105 0 160) 11 0 106 0 192) 12 0 107 0 64) 13 0 108 0 18) 14 0 109 0 36) 15 0 110 0 16) 16 0 111 0 6) 17 0 112 0 6) 99 13 (M 4 13)) 99 14 (M 4 14)) 99 15 (M 4 15)) 99 16 (M 4 16)) 99 17 (M 4 17)))
theorem s_X2_copyFrom_99_4_ok {d L : Nat} {M : fM} {r : (Unit × fM)} {Q : fO → fH → Prop} (h : s_X2_copyFrom_99_4 M = some r) (H : Q (oV r.1) (156, fjl L, r.2)) : Wp (d + 1, 26, 0, 0, 0, [some (fA 99), some (fA 4)], []) (156, fjl L, M) Q := by
  unfold s_X2_copyFrom_99_4 at h
  refine Wp.run 16 (P := [1 ≤ d + 1, (0 : Int) ≤ 0 ∧ (0 : Int) ≤ 0 ∧ (0 : Int) ≤ 12 ∧ (0 : Int) + 12 ≤ 12 ∧ (0 : Int) + 12 ≤ 12 ∧ 5 ≠ 100, 1 ≤ d + 1, (0 : Int) ≤ 0 ∧ (0 : Int) ≤ 0 ∧ (0 : Int) ≤ 52 ∧ (0 : Int) + 52 ≤ 52 ∧ (0 : Int) + 52 ≤ 52 ∧ 6 ≠ 101]) (f' := (d + 1, 26, 30, 0, 0, [some (fA 99), some (fA 4)], [])) (h' := (156, fjl L, (fcpy (fcpy M 5 0 100 0 12) 6 0 101 0 52))) rfl ?_ ?_
  · exact ⟨Nat.le_add_left_of_le (by decide), ⟨by decide, by decide, by decide, by decide, by decide, by decide⟩, Nat.le_add_left_of_le (by decide), ⟨by decide, by decide, by decide, by decide, by decide, by decide⟩⟩
  refine Wp.run 16 (P := [1 ≤ d + 1, (0 : Int) ≤ 0 ∧ (0 : Int) ≤ 0 ∧ (0 : Int) ≤ 52 ∧ (0 : Int) + 52 ≤ 52 ∧ (0 : Int) + 52 ≤ 52 ∧ 7 ≠ 102, 1 ≤ d + 1, (0 : Int) ≤ 0 ∧ (0 : Int) ≤ 0 ∧ (0 : Int) ≤ 6 ∧ (0 : Int) + 6 ≤ 6 ∧ (0 : Int) + 6 ≤ 6 ∧ 8 ≠ 103]) (f' := (d + 1, 26, 60, 0, 0, [some (fA 99), some (fA 4)], [])) (h' := (156, fjl L, (fcpy (fcpy (fcpy (fcpy M 5 0 100 0 12) 6 0 101 0 52) 7 0 102 0 52) 8 0 103 0 6))) rfl ?_ ?_
  · exact ⟨Nat.le_add_left_of_le (by decide), ⟨by decide, by decide, by decide, by decide, by decide, by decide⟩, Nat.le_add_left_of_le (by decide), ⟨by decide, by decide, by decide, by decide, by decide, by decide⟩⟩
  refine Wp.run 16 (P := [1 ≤ d + 1, (0 : Int) ≤ 0 ∧ (0 : Int) ≤ 0 ∧ (0 : Int) ≤ 48 ∧ (0 : Int) + 48 ≤ 48 ∧ (0 : Int) + 48 ≤ 48 ∧ 9 ≠ 104, 1 ≤ d + 1, (0 : Int) ≤ 0 ∧ (0 : Int) ≤ 0 ∧ (0 : Int) ≤ 160 ∧ (0 : Int) + 160 ≤ 160 ∧ (0 : Int) + 160 ≤ 160 ∧ 10 ≠ 105]) (f' := (d + 1, 26, 91, 0, 0, [some (fA 99), some (fA 4)], [])) (h' := (156, fjl L, (fcpy (fcpy (fcpy (fcpy (fcpy (fcpy M 5 0 100 0 12) 6 0 101 0 52) 7 0 102 0 52) 8 0 103 0 6) 9 0 104 0 48) 10 0 105 0 160))) rfl ?_ ?_
  · exact ⟨Nat.le_add_left_of_le (by decide), ⟨by decide, by decide, by decide, by decide, by decide, by decide⟩, Nat.le_add_left_of_le (by decide), ⟨by decide, by decide, by decide, by decide, by decide, by decide⟩⟩
  refine Wp.run 16 (P := [1 ≤ d + 1, (0 : Int) ≤ 0 ∧ (0 : Int) ≤ 0 ∧ (0 : Int) ≤ 192 ∧ (0 : Int) + 192 ≤ 192 ∧ (0 : Int) + 192 ≤ 192 ∧ 11 ≠ 106, 1 ≤ d + 1, (0 : Int) ≤ 0 ∧ (0 : Int) ≤ 0 ∧ (0 : Int) ≤ 64 ∧ (0 : Int) + 64 ≤ 64 ∧ (0 : Int) + 64 ≤ 64 ∧ 12 ≠ 107]) (f' := (d + 1, 26, 122, 0, 0, [some (fA 99), some (fA 4)], [])) (h' := (156, fjl L, (fcpy (fcpy (fcpy (fcpy (fcpy (fcpy (fcpy (fcpy M 5 0 100 0 12) 6 0 101 0 52) 7 0 102 0 52) 8 0 103 0 6) 9 0 104 0 48) 10 0 105 0 160) 11 0 106 0 192) 12 0 107 0 64))) rfl ?_ ?_
  · exact ⟨Nat.le_add_left_of_le (by decide), ⟨by decide, by decide, by decide, by decide, by decide, by decide⟩, Nat.le_add_left_of_le (by decide), ⟨by decide, by decide, by decide, by decide, by decide, by decide⟩⟩
  refine Wp.run 16 (P := [1 ≤ d + 1, (0 : Int) ≤ 0 ∧ (0 : Int) ≤ 0 ∧ (0 : Int) ≤ 18 ∧ (0 : Int) + 18 ≤ 18 ∧ (0 : Int) + 18 ≤ 18 ∧ 13 ≠ 108, 1 ≤ d + 1, (0 : Int) ≤ 0 ∧ (0 : Int) ≤ 0 ∧ (0 : Int) ≤ 36 ∧ (0 : Int) + 36 ≤ 36 ∧ (0 : Int) + 36 ≤ 36 ∧ 14 ≠ 109]) (f' := (d + 1, 26, 152, 0, 0, [some (fA 99), some (fA 4)], [])) (h' := (156, fjl L, (fcpy (fcpy (fcpy (fcpy (fcpy (fcpy (fcpy (fcpy (fcpy (fcpy M 5 0 100 0 12) 6 0 101 0 52) 7 0 102 0 52) 8 0 103 0 6) 9 0 104 0 48) 10 0 105 0 160) 11 0 106 0 192) 12 0 107 0 64) 13 0 108 0 18) 14 0 109 0 36))) rfl ?_ ?_
  · exact ⟨Nat.le_add_left_of_le (by decide), ⟨by decide, by decide, by decide, by decide, by decide, by decide⟩, Nat.le_add_left_of_le (by decide), ⟨by decide, by decide, by decide, by decide, by decide, by decide⟩⟩
  refine Wp.run 16 (P := [1 ≤ d + 1, (0 : Int) ≤ 0 ∧ (0 : Int) ≤ 0 ∧ (0 : Int) ≤ 16 ∧ (0 : Int) + 16 ≤ 16 ∧ (0 : Int) + 16 ≤ 16 ∧ 15 ≠ 110, 1 ≤ d + 1, (0 : Int) ≤ 0 ∧ (0 : Int) ≤ 0 ∧ (0 : Int) ≤ 6 ∧ (0 : Int) + 6 ≤ 6 ∧ (0 : Int) + 6 ≤ 6 ∧ 16 ≠ 111]) (f' := (d + 1, 26, 182, 0, 0, [some (fA 99), some (fA 4)], [])) (h' := (156, fjl L, (fcpy (fcpy (fcpy (fcpy (fcpy (fcpy (fcpy (fcpy (fcpy (fcpy (fcpy (fcpy M 5 0 100 0 12) 6 0 101 0 52) 7 0 102 0 52) 8 0 103 0 6) 9 0 104 0 48) 10 0 105 0 160) 11 0 106 0 192) 12 0 107 0 64) 13 0 108 0 18) 14 0 109 0 36) 15 0 110 0 16) 16 0 111 0 6))) rfl ?_ ?_
  · exact ⟨Nat.le_add_left_of_le (by decide), ⟨by decide, by decide, by decide, by decide, by decide, by decide⟩, Nat.le_add_left_of_le (by decide), ⟨by decide, by decide, by decide, by decide, by decide, by decide⟩⟩
  refine Wp.run 12 (P := [1 ≤ d + 1, (0 : Int) ≤ 0 ∧ (0 : Int) ≤ 0 ∧ (0 : Int) ≤ 6 ∧ (0 : Int) + 6 ≤ 6 ∧ (0 : Int) + 6 ≤ 6 ∧ 17 ≠ 112]) (f' := (d + 1, 26, 205, 0, 0, [some (fA 99), some (fA 4)], [])) (h' := (156, fjl L, (fup (fcpy (fcpy (fcpy (fcpy (fcpy (fcpy (fcpy (fcpy (fcpy (fcpy (fcpy (fcpy (fcpy M 5 0 100 0 12) 6 0 101 0 52) 7 0 102 0 52) 8 0 103 0 6) 9 0 104 0 48) 10 0 105 0 160) 11 0 106 0 192) 12 0 107 0 64) 13 0 108 0 18) 14 0 109 0 36) 15 0 110 0 16) 16 0 111 0 6) 17 0 112 0 6) 99 13 (M 4 13)))) rfl ?_ ?_
  · exact ⟨Nat.le_add_left_of_le (by decide), ⟨by decide, by decide, by decide, by decide, by decide, by decide⟩⟩
  refine Wp.run 12 (f' := (d + 1, 26, 229, 0, 0, [some (fA 99), some (fA 4)], [])) (h' := (156, fjl L, (fup (fup (fup (fup (fcpy (fcpy (fcpy (fcpy (fcpy (fcpy (fcpy (fcpy (fcpy (fcpy (fcpy (fcpy (fcpy M 5 0 100 0 12) 6 0 101 0 52) 7 0 102 0 52) 8 0 103 0 6) 9 0 104 0 48) 10 0 105 0 160) 11 0 106 0 192) 12 0 107 0 64) 13 0 108 0 18) 14 0 109 0 36) 15 0 110 0 16) 16 0 111 0 6) 17 0 112 0 6) 99 13 (M 4 13)) 99 14 (M 4 14)) 99 15 (M 4 15)) 99 16 (M 4 16)))) rfl trivial ?_
  refine Wp.run 4 (f' := (d + 1, 26, 237, 0, 0, [_, _], [])) (h' := (156, fjl L, (fup (fup (fup (fup (fup (fcpy (fcpy (fcpy (fcpy (fcpy (fcpy (fcpy (fcpy (fcpy (fcpy (fcpy (fcpy (fcpy M 5 0 100 0 12) 6 0 101 0 52) 7 0 102 0 52) 8 0 103 0 6) 9 0 104 0 48) 10 0 105 0 160) 11 0 106 0 192) 12 0 107 0 64) 13 0 108 0 18) 14 0 109 0 36) 15 0 110 0 16) 16 0 111 0 6) 17 0 112 0 6) 99 13 (M 4 13)) 99 14 (M 4 14)) 99 15 (M 4 15)) 99 16 (M 4 16)) 99 17 (M 4 17)))) rfl trivial ?_
  obtain rfl := Option.some.inj h
  exact Wp.done rfl (by decide) H
theorem s_X2_copyFrom_99_4_fr {M : fM} {r : (Unit × fM)} (h : s_X2_copyFrom_99_4 M = some r) : fSame s_X2_copyFrom_99_4_mods M r.2 := by
  unfold s_X2_copyFrom_99_4 at h
  obtain rfl := Option.some.inj h
  exact fs_up (fs_up (fs_up (fs_up (fs_up (fs_cpy (fs_cpy (fs_cpy (fs_cpy (fs_cpy (fs_cpy (fs_cpy (fs_cpy (fs_cpy (fs_cpy (fs_cpy (fs_cpy (fs_cpy fs_refl (by decide)) (by decide)) (by decide)) (by decide)) (by decide)) (by decide)) (by decide)) (by decide)) (by decide)) (by decide)) (by decide)) (by decide)) (by decide)) (.inr (by decide))) (.inr (by decide))) (.inr (by decide))) (.inr (by decide))) (.inr (by decide))
abbrev s_X6_copyFrom_113_18_mods : List (Nat × Option Nat) := [(113, some 8), (114, none), (115, none), (116, none), (117, none), (118, none), (119, none), (120, none), (121, none)]
noncomputable def s_X6_copyFrom_113_18 (M : fM) : Option (Unit × fM) :=
  if (0 : Int) ≤ 0 ∧ (0 : Int) ≤ 0 ∧ (0 : Int) ≤ (M 18 8) ∧ (0 : Int) + (M 18 8) ≤ 200 ∧ (0 : Int) + (M 18 8) ≤ 200 then
    if (0 : Int) ≤ 0 ∧ (0 : Int) ≤ 0 ∧ (0 : Int) ≤ (M 18 8) ∧ (0 : Int) + (M 18 8) ≤ 200 ∧ (0 : Int) + (M 18 8) ≤ 200 then
      if (0 : Int) ≤ 0 ∧ (0 : Int) ≤ 0 ∧ (0 : Int) ≤ (M 18 8) ∧ (0 : Int) + (M 18 8) ≤ 200 ∧ (0 : Int) + (M 18 8) ≤ 200 then
        if (0 : Int) ≤ 0 ∧ (0 : Int) ≤ 0 ∧ (0 : Int) ≤ (M 18 8) ∧ (0 : Int) + (M 18 8) ≤ 200 ∧ (0 : Int) + (M 18 8) ≤ 200 then
          if fin ((M 18 8) * 12) ∧ (0 : Int) ≤ 0 ∧ (0 : Int) ≤ 0 ∧ (0 : Int) ≤ ((M 18 8) * 12) ∧ (0 : Int) + ((M 18 8) * 12) ≤ 2400 ∧ (0 : Int) + ((M 18 8) * 12) ≤ 2400 then
            some ((), (fcpy (fcpy (fcpy (fcpy (fcpy (fcpy (fcpy (fcpy (fup M 113 8 (M 18 8)) 19 0 114 0 (M 18 8).toNat) 20 0 115 0 (M 18 8).toNat) 21 0 116 0 (M 18 8).toNat) 22 0 117 0 (M 18 8).toNat) 23 0 118 0 (M 18 8).toNat) 24 0 119 0 (M 18 8).toNat) 25 0 120 0 (M 18 8).toNat) 26 0 121 0 ((M 18 8) * 12).toNat))
          else none
        else none
      else none
    else none
  else none
theorem s_X6_copyFrom_113_18_ok {d L : Nat} {M : fM} {r : (Unit × fM)} {Q : fO → fH → Prop} (h : s_X6_copyFrom_113_18 M = some r) (H : Q (oV r.1) (156, fjl L, r.2)) : Wp (d + 1, 77, 0, 0, 0, [some (fA 113), some (fA 18)], []) (156, fjl L, M) Q := by
  unfold s_X6_copyFrom_113_18 at h
  obtain ⟨g0, h⟩ := fgd h
  refine Wp.run 13 (P := [1 ≤ d + 1, (0 : Int) ≤ 0 ∧ (0 : Int) ≤ 0 ∧ (0 : Int) ≤ (M 18 8) ∧ (0 : Int) + (M 18 8) ≤ 200 ∧ (0 : Int) + (M 18 8) ≤ 200 ∧ 19 ≠ 114]) (f' := (d + 1, 77, 25, 0, 0, [some (fA 113), some (fA 18)], [])) (h' := (156, fjl L, (fcpy (fup M 113 8 (M 18 8)) 19 0 114 0 (M 18 8).toNat))) rfl ?_ ?_
  · exact ⟨Nat.le_add_left_of_le (by decide), ⟨g0.1, g0.2.1, g0.2.2.1, g0.2.2.2.1, g0.2.2.2.2, by decide⟩⟩
  obtain ⟨g0, h⟩ := fgd h
  refine Wp.run 18 (P := [1 ≤ d + 1, (0 : Int) ≤ 0 ∧ (0 : Int) ≤ 0 ∧ (0 : Int) ≤ (M 18 8) ∧ (0 : Int) + (M 18 8) ≤ 200 ∧ (0 : Int) + (M 18 8) ≤ 200 ∧ 20 ≠ 115, 1 ≤ d + 1, (0 : Int) ≤ 0 ∧ (0 : Int) ≤ 0 ∧ (0 : Int) ≤ (M 18 8) ∧ (0 : Int) + (M 18 8) ≤ 200 ∧ (0 : Int) + (M 18 8) ≤ 200 ∧ 21 ≠ 116]) (f' := (d + 1, 77, 59, 0, 0, [some (fA 113), some (fA 18)], [])) (h' := (156, fjl L, (fcpy (fcpy (fcpy (fup M 113 8 (M 18 8)) 19 0 114 0 (M 18 8).toNat) 20 0 115 0 (M 18 8).toNat) 21 0 116 0 (M 18 8).toNat))) rfl ?_ ?_
  · exact ⟨Nat.le_add_left_of_le (by decide), ⟨g0.1, g0.2.1, g0.2.2.1, g0.2.2.2.1, g0.2.2.2.2, by decide⟩, Nat.le_add_left_of_le (by decide), ⟨g0.1, g0.2.1, g0.2.2.1, g0.2.2.2.1, g0.2.2.2.2, by decide⟩⟩
  obtain ⟨g0, h⟩ := fgd h
  refine Wp.run 18 (P := [1 ≤ d + 1, (0 : Int) ≤ 0 ∧ (0 : Int) ≤ 0 ∧ (0 : Int) ≤ (M 18 8) ∧ (0 : Int) + (M 18 8) ≤ 200 ∧ (0 : Int) + (M 18 8) ≤ 200 ∧ 22 ≠ 117, 1 ≤ d + 1, (0 : Int) ≤ 0 ∧ (0 : Int) ≤ 0 ∧ (0 : Int) ≤ (M 18 8) ∧ (0 : Int) + (M 18 8) ≤ 200 ∧ (0 : Int) + (M 18 8) ≤ 200 ∧ 23 ≠ 118]) (f' := (d + 1, 77, 93, 0, 0, [some (fA 113), some (fA 18)], [])) (h' := (156, fjl L, (fcpy (fcpy (fcpy (fcpy (fcpy (fup M 113 8 (M 18 8)) 19 0 114 0 (M 18 8).toNat) 20 0 115 0 (M 18 8).toNat) 21 0 116 0 (M 18 8).toNat) 22 0 117 0 (M 18 8).toNat) 23 0 118 0 (M 18 8).toNat))) rfl ?_ ?_
  · exact ⟨Nat.le_add_left_of_le (by decide), ⟨g0.1, g0.2.1, g0.2.2.1, g0.2.2.2.1, g0.2.2.2.2, by decide⟩, Nat.le_add_left_of_le (by decide), ⟨g0.1, g0.2.1, g0.2.2.1, g0.2.2.2.1, g0.2.2.2.2, by decide⟩⟩
  obtain ⟨g0, h⟩ := fgd h
  refine Wp.run 18 (P := [1 ≤ d + 1, (0 : Int) ≤ 0 ∧ (0 : Int) ≤ 0 ∧ (0 : Int) ≤ (M 18 8) ∧ (0 : Int) + (M 18 8) ≤ 200 ∧ (0 : Int) + (M 18 8) ≤ 200 ∧ 24 ≠ 119, 1 ≤ d + 1, (0 : Int) ≤ 0 ∧ (0 : Int) ≤ 0 ∧ (0 : Int) ≤ (M 18 8) ∧ (0 : Int) + (M 18 8) ≤ 200 ∧ (0 : Int) + (M 18 8) ≤ 200 ∧ 25 ≠ 120]) (f' := (d + 1, 77, 127, 0, 0, [some (fA 113), some (fA 18)], [])) (h' := (156, fjl L, (fcpy (fcpy (fcpy (fcpy (fcpy (fcpy (fcpy (fup M 113 8 (M 18 8)) 19 0 114 0 (M 18 8).toNat) 20 0 115 0 (M 18 8).toNat) 21 0 116 0 (M 18 8).toNat) 22 0 117 0 (M 18 8).toNat) 23 0 118 0 (M 18 8).toNat) 24 0 119 0 (M 18 8).toNat) 25 0 120 0 (M 18 8).toNat))) rfl ?_ ?_
  · exact ⟨Nat.le_add_left_of_le (by decide), ⟨g0.1, g0.2.1, g0.2.2.1, g0.2.2.2.1, g0.2.2.2.2, by decide⟩, Nat.le_add_left_of_le (by decide), ⟨g0.1, g0.2.1, g0.2.2.1, g0.2.2.2.1, g0.2.2.2.2, by decide⟩⟩
  obtain ⟨⟨g0, g1⟩, h⟩ := fgd h
  refine Wp.run 11 (P := [1 ≤ d + 1, (0 : Int) ≤ 0 ∧ (0 : Int) ≤ 0 ∧ (0 : Int) ≤ (fw ((M 18 8) * 12)) ∧ (0 : Int) + (fw ((M 18 8) * 12)) ≤ 2400 ∧ (0 : Int) + (fw ((M 18 8) * 12)) ≤ 2400 ∧ 26 ≠ 121]) (f' := (d + 1, 77, 147, 0, 0, [_, _], [])) (h' := (156, fjl L, (fcpy (fcpy (fcpy (fcpy (fcpy (fcpy (fcpy (fcpy (fup M 113 8 (M 18 8)) 19 0 114 0 (M 18 8).toNat) 20 0 115 0 (M 18 8).toNat) 21 0 116 0 (M 18 8).toNat) 22 0 117 0 (M 18 8).toNat) 23 0 118 0 (M 18 8).toNat) 24 0 119 0 (M 18 8).toNat) 25 0 120 0 (M 18 8).toNat) 26 0 121 0 (fw ((M 18 8) * 12)).toNat))) rfl ?_ ?_
  · rw [fw_id g0]; exact ⟨Nat.le_add_left_of_le (by decide), ⟨g1.1, g1.2.1, g1.2.2.1, g1.2.2.2.1, g1.2.2.2.2, by decide⟩⟩
  rw [fw_id g0]
  obtain rfl := Option.some.inj h
  exact Wp.done rfl (by decide) H
theorem s_X6_copyFrom_113_18_fr {M : fM} {r : (Unit × fM)} (h : s_X6_copyFrom_113_18 M = some r) : fSame s_X6_copyFrom_113_18_mods M r.2 := by
  unfold s_X6_copyFrom_113_18 at h
  replace h := (fgd h).2
  replace h := (fgd h).2
  replace h := (fgd h).2
  replace h := (fgd h).2
  replace h := (fgd h).2
  obtain rfl := Option.some.inj h
  exact fs_cpy (fs_cpy (fs_cpy (fs_cpy (fs_cpy (fs_cpy (fs_cpy (fs_cpy (fs_up fs_refl (.inr (by decide))) (by decide)) (by decide)) (by decide)) (by decide)) (by decide)) (by decide)) (by decide)) (by decide)
abbrev s_X11_image_1_mods : List (Nat × Option Nat) := [(75, none), (99, some 13), (99, some 14), (99, some 15), (99, some 16), (99, some 17), (100, none), (101, none), (102, none), (103, none), (104, none), (105, none), (106, none), (107, none), (108, none), (109, none), (110, none), (111, none), (112, none), (113, some 8), (114, none), (115, none), (116, none), (117, none), (118, none), (119, none), (120, none), (121, none)]
noncomputable def s_X11_image_1 (M : fM) : Option (Int × fM) :=
  (s_X11_isWithin M 1 2).bind fun y2 =>
    if ¬ y2 = 0 then
      (s_X2_copyFrom_99_4 M).bind fun y20 =>
        (s_X6_copyFrom_113_18 y20.2).bind fun y33 =>
          some (1, (fup y33.2 75 1 1))
    else
      some (0, M)
theorem s_X11_image_1_ok {d L : Nat} {M : fM} {r : (Int × fM)} {Q : fO → fH → Prop} (h : s_X11_image_1 M = some r) (H : Q (oI r.1) (156, fjl L, r.2)) : Wp (d + 2, 187, 0, 0, 0, [some (fA 0), some (fI 1)], []) (156, fjl L, M) Q := by
  unfold s_X11_image_1 at h
  refine Wp.run 2 (f' := (d + 2, 187, 2, 0, 0, [some (fA 0), some (fI 1)], [fI 2, fI 1])) (h' := (156, fjl L, M)) rfl trivial ?_
  obtain ⟨y2, hy, h⟩ := fbd h
  refine Wp.call rfl (by decide) (s_X11_isWithin_ok (d := d + 1) hy ?_)
  show Wp (d + 2, 187, 5, 0, 0, [some (fA 0), some (fI 1)], [fI y2]) (156, fjl L, M) Q
  refine Wp.br rfl (fun (c : ¬ y2 = 0) => ?_) (fun (c : ¬ (¬ y2 = 0)) => ?_)
  · replace h := fps c h
    refine Wp.run 6 (P := [(0 : Int) ≤ 1 ∧ (1 : Int) < 2]) (f' := (d + 2, 187, 20, 0, 0, [some (fA 0), some (fI 1)], [fA 4, fA 99])) (h' := (156, fjl L, M)) rfl ?_ ?_
    · exact (by decide : (0 : Int) ≤ 1 ∧ (1 : Int) < 2)
    obtain ⟨y20, hy, h⟩ := fbd h
    refine Wp.call rfl (by decide) (s_X2_copyFrom_99_4_ok (d := d + 0) hy ?_)
    show Wp (d + 2, 187, 23, 0, 0, [some (fA 0), some (fI 1)], []) (156, fjl L, y20.2) Q
    refine Wp.run 6 (P := [(0 : Int) ≤ 1 ∧ (1 : Int) < 2]) (f' := (d + 2, 187, 33, 0, 0, [some (fA 0), some (fI 1)], [fA 18, fA 113])) (h' := (156, fjl L, y20.2)) rfl ?_ ?_
    · exact (by decide : (0 : Int) ≤ 1 ∧ (1 : Int) < 2)
    obtain ⟨y33, hy, h⟩ := fbd h
    refine Wp.call rfl (by decide) (s_X6_copyFrom_113_18_ok (d := d + 0) hy ?_)
    show Wp (d + 2, 187, 36, 0, 0, [some (fA 0), some (fI 1)], []) (156, fjl L, y33.2) Q
    refine Wp.run 6 (P := [(0 : Int) ≤ 1 ∧ (1 : Int) < 2]) (f' := (d + 2, 187, 44, 0, 0, [_, _], [fI 1])) (h' := (156, fjl L, (fup y33.2 75 1 1))) rfl ?_ ?_
    · exact (by decide : (0 : Int) ≤ 1 ∧ (1 : Int) < 2)
    obtain rfl := Option.some.inj h
    exact Wp.done rfl (by decide) H
  · replace h := fng c h
    refine Wp.run 1 (f' := (d + 2, 187, 9, 0, 0, [_, _], [fI 0])) (h' := (156, fjl L, M)) rfl trivial ?_
    obtain rfl := Option.some.inj h
    exact Wp.done rfl (by decide) H
theorem s_X11_image_1_fr {M : fM} {r : (Int × fM)} (h : s_X11_image_1 M = some r) : fSame s_X11_image_1_mods M r.2 := by
  unfold s_X11_image_1 at h
  obtain ⟨y2, hy, h⟩ := fbd h
  by_cases c : ¬ y2 = 0
  · replace h := fps c h
    obtain ⟨y20, hy, h⟩ := fbd h
    have k20 := fs_trans (l := s_X11_image_1_mods) fs_refl (fs_mono (l := s_X2_copyFrom_99_4_mods) (by decide) (s_X2_copyFrom_99_4_fr hy))
    obtain ⟨y33, hy, h⟩ := fbd h
    have k33 := fs_trans (l := s_X11_image_1_mods) k20 (fs_mono (l := s_X6_copyFrom_113_18_mods) (by decide) (s_X6_copyFrom_113_18_fr hy))
    obtain rfl := Option.some.inj h
    exact fs_up k33 (.inl (by decide))
  · replace h := fng c h
    obtain rfl := Option.some.inj h
    exact fs_refl
noncomputable def s_X11_image (M : fM) (l1 : Int) : Option Int :=
  (s_X11_isWithin M l1 2).bind fun y2 =>
    if ¬ y2 = 0 then
      none
    else
      some 0
theorem s_X11_image_ok {d L : Nat} {M : fM} {l1 : Int} {r : Int} {Q : fO → fH → Prop} (h : s_X11_image M l1 = some r) (H : Q (oI r) (156, fjl L, M)) : Wp (d + 1, 187, 0, 0, 0, [some (fA 0), some (fI l1)], []) (156, fjl L, M) Q := by
  unfold s_X11_image at h
  refine Wp.run 2 (f' := (d + 1, 187, 2, 0, 0, [some (fA 0), some (fI l1)], [fI 2, fI l1])) (h' := (156, fjl L, M)) rfl trivial ?_
  obtain ⟨y2, hy, h⟩ := fbd h
  refine Wp.call rfl (by decide) (s_X11_isWithin_ok (d := d + 0) hy ?_)
  show Wp (d + 1, 187, 5, 0, 0, [some (fA 0), some (fI l1)], [fI y2]) (156, fjl L, M) Q
  refine Wp.br rfl (fun (c : ¬ y2 = 0) => ?_) (fun (c : ¬ (¬ y2 = 0)) => ?_)
  · replace h := fps c h
    exact absurd h (by simp)
  · replace h := fng c h
    refine Wp.run 1 (f' := (d + 1, 187, 9, 0, 0, [_, _], [fI 0])) (h' := (156, fjl L, M)) rfl trivial ?_
    obtain rfl := Option.some.inj h
    exact Wp.done rfl (by decide) H
abbrev s_X12_image_mods : List (Nat × Option Nat) := [(122, some 0), (150, none), (151, none), (152, none), (153, none), (154, none)]
noncomputable def s_X12_image_b18 (M : fM) (l1 l2 : Int) : Option ((Int × fM) ⊕ fM) :=
  if 645 ≤ l2 then
    some (.inr M)
  else
    if fin (645 * l1) ∧ fin ((645 * l1) + l2) ∧ (0 ≤ l2 ∧ l2 < 1290) ∧ (0 ≤ ((645 * l1) + l2) ∧ ((645 * l1) + l2) < 1290) then
      if fin (l2 + 1) then
        some (.inl ((l2 + 1), (fup M 150 ((645 * l1) + l2).toNat (M 124 (l2).toNat))))
      else none
    else none
theorem s_X12_image_b18_ok {d L : Nat} {M : fM} {l1 l2 : Int} {r : ((Int × fM) ⊕ fM)} {Q : fO → fH → Prop} (h : s_X12_image_b18 M l1 l2 = some r) (hC : ∀ (l2' : Int) (M' : fM), r = .inl (l2', M') → Wp (d + 1, 307, 18, 0, 0, [some (fA 122), some (fI l1), some (fI l2')], []) (156, fjl L, M') Q) (hE : ∀ (e : fM) (o2' : Option fV), r = .inr e → Wp (d + 1, 307, 49, 0, 0, [some (fA 122), some (fI l1), o2'], []) (156, fjl L, e) Q) : Wp (d + 1, 307, 18, 0, 0, [some (fA 122), some (fI l1), some (fI l2)], []) (156, fjl L, M) Q := by
  unfold s_X12_image_b18 at h
  refine Wp.run 2 (f' := (d + 1, 307, 22, 0, 0, [some (fA 122), some (fI l1), some (fI l2)], [fI 645, fI l2])) (h' := (156, fjl L, M)) rfl trivial ?_
  refine Wp.br rfl (fun (c : 645 ≤ l2) => ?_) (fun (c : ¬ (645 ≤ l2)) => ?_)
  · replace h := fps c h
    exact hE _ _ (Option.some.inj h).symm
  · replace h := fng c h
    obtain ⟨⟨g0, g1, g2, g3⟩, h⟩ := fgd h
    refine Wp.run 12 (P := [0 ≤ l2 ∧ l2 < 1290, 0 ≤ (fw ((fw (645 * l1)) + l2)) ∧ (fw ((fw (645 * l1)) + l2)) < 1290]) (f' := (d + 1, 307, 43, 0, 0, [some (fA 122), some (fI l1), some (fI l2)], [])) (h' := (156, fjl L, (fup M 150 (fw ((fw (645 * l1)) + l2)).toNat (M 124 (l2).toNat)))) rfl ?_ ?_
    · rw [fw_id g0, fw_id g1]; exact ⟨g2, g3⟩
    rw [fw_id g0, fw_id g1]
    obtain ⟨g0, h⟩ := fgd h
    refine Wp.run 2 (f' := (d + 1, 307, 18, 0, 0, [some (fA 122), some (fI l1), some (fI (fw (l2 + 1)))], [])) (h' := (156, fjl L, (fup M 150 ((645 * l1) + l2).toNat (M 124 (l2).toNat)))) rfl trivial ?_
    rw [fw_id g0]
    exact hC _ _ (Option.some.inj h).symm
theorem s_X12_image_b18_fr {M : fM} {l1 l2 : Int} {r : ((Int × fM) ⊕ fM)} (h : s_X12_image_b18 M l1 l2 = some r) : fSame s_X12_image_mods M (Sum.elim (fun s => s.2) (fun e => e) r) := by
  unfold s_X12_image_b18 at h
  by_cases c : 645 ≤ l2
  · replace h := fps c h
    obtain rfl := Option.some.inj h
    exact fs_refl
  · replace h := fng c h
    replace h := (fgd h).2
    replace h := (fgd h).2
    obtain rfl := Option.some.inj h
    exact fs_up fs_refl (.inl (by decide))
noncomputable def s_X12_image_l18 (l1 : Int) (s : (Int × fM)) : Option fM := fLp (fun s => s_X12_image_b18 s.2 l1 s.1) s
theorem s_X12_image_l18_ok {d L : Nat} {M : fM} {l1 l2 : Int} {r : fM} {Q : fO → fH → Prop} (h : s_X12_image_l18 l1 (l2, M) = some r) (hE : ∀ (e : fM) (o2' : Option fV), r = e → Wp (d + 1, 307, 49, 0, 0, [some (fA 122), some (fI l1), o2'], []) (156, fjl L, e) Q) : Wp (d + 1, 307, 18, 0, 0, [some (fA 122), some (fI l1), some (fI l2)], []) (156, fjl L, M) Q := by
  refine fLp_wp (W := fun s => Wp (d + 1, 307, 18, 0, 0, [some (fA 122), some (fI l1), some (fI s.1)], []) (156, fjl L, s.2) Q) (e := r) ?_ h
  intro s r1 h hC hX
  refine s_X12_image_b18_ok (d := d) h (fun a0 a1 e1 => ?_) (fun e u0 e1 => hE e u0 (hX _ e1).symm)
  exact hC _ e1
theorem s_X12_image_l18_fr {M : fM} {l1 l2 : Int} {r : fM} (h : s_X12_image_l18 l1 (l2, M) = some r) : fSame s_X12_image_mods M ((fun e => e) r) := by
  refine fLp_inv (I := fun s => fSame s_X12_image_mods M s.2) (J := fun r => fSame s_X12_image_mods M ((fun e => e) r)) h fs_refl (fun s s1 hs hb => ?_) (fun s e hs hb => ?_)
  · exact fs_trans hs (s_X12_image_b18_fr hb)
  · exact fs_trans hs (s_X12_image_b18_fr hb)
noncomputable def s_X12_image_b51 (M : fM) (l1 l2 : Int) : Option ((Int × fM) ⊕ fM) :=
  if 28 ≤ l2 then
    some (.inr M)
  else
    if fin (28 * l1) ∧ fin ((28 * l1) + l2) ∧ (0 ≤ l2 ∧ l2 < 56) ∧ (0 ≤ ((28 * l1) + l2) ∧ ((28 * l1) + l2) < 56) then
      if fin (l2 + 1) then
        some (.inl ((l2 + 1), (fup M 153 ((28 * l1) + l2).toNat (M 126 (l2).toNat))))
      else none
    else none
theorem s_X12_image_b51_ok {d L : Nat} {M : fM} {l1 l2 : Int} {r : ((Int × fM) ⊕ fM)} {Q : fO → fH → Prop} (h : s_X12_image_b51 M l1 l2 = some r) (hC : ∀ (l2' : Int) (M' : fM), r = .inl (l2', M') → Wp (d + 1, 307, 51, 0, 0, [some (fA 122), some (fI l1), some (fI l2')], []) (156, fjl L, M') Q) (hE : ∀ (e : fM) (o2' : Option fV), r = .inr e → Wp (d + 1, 307, 80, 0, 0, [some (fA 122), some (fI l1), o2'], []) (156, fjl L, e) Q) : Wp (d + 1, 307, 51, 0, 0, [some (fA 122), some (fI l1), some (fI l2)], []) (156, fjl L, M) Q := by
  unfold s_X12_image_b51 at h
  refine Wp.run 2 (f' := (d + 1, 307, 54, 0, 0, [some (fA 122), some (fI l1), some (fI l2)], [fI 28, fI l2])) (h' := (156, fjl L, M)) rfl trivial ?_
  refine Wp.br rfl (fun (c : 28 ≤ l2) => ?_) (fun (c : ¬ (28 ≤ l2)) => ?_)
  · replace h := fps c h
    exact hE _ _ (Option.some.inj h).symm
  · replace h := fng c h
    obtain ⟨⟨g0, g1, g2, g3⟩, h⟩ := fgd h
    refine Wp.run 12 (P := [0 ≤ l2 ∧ l2 < 56, 0 ≤ (fw ((fw (28 * l1)) + l2)) ∧ (fw ((fw (28 * l1)) + l2)) < 56]) (f' := (d + 1, 307, 74, 0, 0, [some (fA 122), some (fI l1), some (fI l2)], [])) (h' := (156, fjl L, (fup M 153 (fw ((fw (28 * l1)) + l2)).toNat (M 126 (l2).toNat)))) rfl ?_ ?_
    · rw [fw_id g0, fw_id g1]; exact ⟨g2, g3⟩
    rw [fw_id g0, fw_id g1]
    obtain ⟨g0, h⟩ := fgd h
    refine Wp.run 2 (f' := (d + 1, 307, 51, 0, 0, [some (fA 122), some (fI l1), some (fI (fw (l2 + 1)))], [])) (h' := (156, fjl L, (fup M 153 ((28 * l1) + l2).toNat (M 126 (l2).toNat)))) rfl trivial ?_
    rw [fw_id g0]
    exact hC _ _ (Option.some.inj h).symm
theorem s_X12_image_b51_fr {M : fM} {l1 l2 : Int} {r : ((Int × fM) ⊕ fM)} (h : s_X12_image_b51 M l1 l2 = some r) : fSame s_X12_image_mods M (Sum.elim (fun s => s.2) (fun e => e) r) := by
  unfold s_X12_image_b51 at h
  by_cases c : 28 ≤ l2
  · replace h := fps c h
    obtain rfl := Option.some.inj h
    exact fs_refl
  · replace h := fng c h
    replace h := (fgd h).2
    replace h := (fgd h).2
    obtain rfl := Option.some.inj h
    exact fs_up fs_refl (.inl (by decide))
noncomputable def s_X12_image_l51 (l1 : Int) (s : (Int × fM)) : Option fM := fLp (fun s => s_X12_image_b51 s.2 l1 s.1) s
theorem s_X12_image_l51_ok {d L : Nat} {M : fM} {l1 l2 : Int} {r : fM} {Q : fO → fH → Prop} (h : s_X12_image_l51 l1 (l2, M) = some r) (hE : ∀ (e : fM) (o2' : Option fV), r = e → Wp (d + 1, 307, 80, 0, 0, [some (fA 122), some (fI l1), o2'], []) (156, fjl L, e) Q) : Wp (d + 1, 307, 51, 0, 0, [some (fA 122), some (fI l1), some (fI l2)], []) (156, fjl L, M) Q := by
  refine fLp_wp (W := fun s => Wp (d + 1, 307, 51, 0, 0, [some (fA 122), some (fI l1), some (fI s.1)], []) (156, fjl L, s.2) Q) (e := r) ?_ h
  intro s r1 h hC hX
  refine s_X12_image_b51_ok (d := d) h (fun a0 a1 e1 => ?_) (fun e u0 e1 => hE e u0 (hX _ e1).symm)
  exact hC _ e1
theorem s_X12_image_l51_fr {M : fM} {l1 l2 : Int} {r : fM} (h : s_X12_image_l51 l1 (l2, M) = some r) : fSame s_X12_image_mods M ((fun e => e) r) := by
  refine fLp_inv (I := fun s => fSame s_X12_image_mods M s.2) (J := fun r => fSame s_X12_image_mods M ((fun e => e) r)) h fs_refl (fun s s1 hs hb => ?_) (fun s e hs hb => ?_)
  · exact fs_trans hs (s_X12_image_b51_fr hb)
  · exact fs_trans hs (s_X12_image_b51_fr hb)
noncomputable def s_X12_image_b82 (M : fM) (l1 l2 : Int) : Option ((Int × fM) ⊕ fM) :=
  if fin (19 * (M 122 10)) then
    if (19 * (M 122 10)) ≤ l2 then
      some (.inr M)
    else
      if fin (3800 * l1) ∧ fin ((3800 * l1) + l2) ∧ (0 ≤ l2 ∧ l2 < 3800) ∧ (0 ≤ ((3800 * l1) + l2) ∧ ((3800 * l1) + l2) < 7600) then
        if fin (l2 + 1) then
          some (.inl ((l2 + 1), (fup M 151 ((3800 * l1) + l2).toNat (M 125 (l2).toNat))))
        else none
      else none
  else none
theorem s_X12_image_b82_ok {d L : Nat} {M : fM} {l1 l2 : Int} {r : ((Int × fM) ⊕ fM)} {Q : fO → fH → Prop} (h : s_X12_image_b82 M l1 l2 = some r) (hC : ∀ (l2' : Int) (M' : fM), r = .inl (l2', M') → Wp (d + 1, 307, 82, 0, 0, [some (fA 122), some (fI l1), some (fI l2')], []) (156, fjl L, M') Q) (hE : ∀ (e : fM) (o2' : Option fV), r = .inr e → Wp (d + 1, 307, 117, 0, 0, [some (fA 122), some (fI l1), o2'], []) (156, fjl L, e) Q) : Wp (d + 1, 307, 82, 0, 0, [some (fA 122), some (fI l1), some (fI l2)], []) (156, fjl L, M) Q := by
  unfold s_X12_image_b82 at h
  obtain ⟨g0, h⟩ := fgd h
  refine Wp.run 5 (f' := (d + 1, 307, 90, 0, 0, [some (fA 122), some (fI l1), some (fI l2)], [fI (fw (19 * (M 122 10))), fI l2])) (h' := (156, fjl L, M)) rfl trivial ?_
  rw [fw_id g0]
  refine Wp.br rfl (fun (c : (19 * (M 122 10)) ≤ l2) => ?_) (fun (c : ¬ ((19 * (M 122 10)) ≤ l2)) => ?_)
  · replace h := fps c h
    exact hE _ _ (Option.some.inj h).symm
  · replace h := fng c h
    obtain ⟨⟨g0, g1, g2, g3⟩, h⟩ := fgd h
    refine Wp.run 12 (P := [0 ≤ l2 ∧ l2 < 3800, 0 ≤ (fw ((fw (3800 * l1)) + l2)) ∧ (fw ((fw (3800 * l1)) + l2)) < 7600]) (f' := (d + 1, 307, 111, 0, 0, [some (fA 122), some (fI l1), some (fI l2)], [])) (h' := (156, fjl L, (fup M 151 (fw ((fw (3800 * l1)) + l2)).toNat (M 125 (l2).toNat)))) rfl ?_ ?_
    · rw [fw_id g0, fw_id g1]; exact ⟨g2, g3⟩
    rw [fw_id g0, fw_id g1]
    obtain ⟨g0, h⟩ := fgd h
    refine Wp.run 2 (f' := (d + 1, 307, 82, 0, 0, [some (fA 122), some (fI l1), some (fI (fw (l2 + 1)))], [])) (h' := (156, fjl L, (fup M 151 ((3800 * l1) + l2).toNat (M 125 (l2).toNat)))) rfl trivial ?_
    rw [fw_id g0]
    exact hC _ _ (Option.some.inj h).symm
theorem s_X12_image_b82_fr {M : fM} {l1 l2 : Int} {r : ((Int × fM) ⊕ fM)} (h : s_X12_image_b82 M l1 l2 = some r) : fSame s_X12_image_mods M (Sum.elim (fun s => s.2) (fun e => e) r) := by
  unfold s_X12_image_b82 at h
  replace h := (fgd h).2
  by_cases c : (19 * (M 122 10)) ≤ l2
  · replace h := fps c h
    obtain rfl := Option.some.inj h
    exact fs_refl
  · replace h := fng c h
    replace h := (fgd h).2
    replace h := (fgd h).2
    obtain rfl := Option.some.inj h
    exact fs_up fs_refl (.inl (by decide))
noncomputable def s_X12_image_l82 (l1 : Int) (s : (Int × fM)) : Option fM := fLp (fun s => s_X12_image_b82 s.2 l1 s.1) s
theorem s_X12_image_l82_ok {d L : Nat} {M : fM} {l1 l2 : Int} {r : fM} {Q : fO → fH → Prop} (h : s_X12_image_l82 l1 (l2, M) = some r) (hE : ∀ (e : fM) (o2' : Option fV), r = e → Wp (d + 1, 307, 117, 0, 0, [some (fA 122), some (fI l1), o2'], []) (156, fjl L, e) Q) : Wp (d + 1, 307, 82, 0, 0, [some (fA 122), some (fI l1), some (fI l2)], []) (156, fjl L, M) Q := by
  refine fLp_wp (W := fun s => Wp (d + 1, 307, 82, 0, 0, [some (fA 122), some (fI l1), some (fI s.1)], []) (156, fjl L, s.2) Q) (e := r) ?_ h
  intro s r1 h hC hX
  refine s_X12_image_b82_ok (d := d) h (fun a0 a1 e1 => ?_) (fun e u0 e1 => hE e u0 (hX _ e1).symm)
  exact hC _ e1
theorem s_X12_image_l82_fr {M : fM} {l1 l2 : Int} {r : fM} (h : s_X12_image_l82 l1 (l2, M) = some r) : fSame s_X12_image_mods M ((fun e => e) r) := by
  refine fLp_inv (I := fun s => fSame s_X12_image_mods M s.2) (J := fun r => fSame s_X12_image_mods M ((fun e => e) r)) h fs_refl (fun s s1 hs hb => ?_) (fun s e hs hb => ?_)
  · exact fs_trans hs (s_X12_image_b82_fr hb)
  · exact fs_trans hs (s_X12_image_b82_fr hb)
noncomputable def s_X12_image (M : fM) (l1 : Int) : Option (Int × fM) :=
  (s_X12_isIn (fup M 122 0 0) l1 0 1).bind fun y8 =>
    if ¬ y8 = 0 then
      (s_X12_image_l18 l1 (0, (fup M 122 0 0))).bind fun e18 =>
        (s_X12_image_l51 l1 (0, e18)).bind fun e51 =>
          (s_X12_image_l82 l1 (0, e51)).bind fun e82 =>
            if (0 ≤ l1 ∧ l1 < 2) then
              some (1, (fup (fup e82 152 (l1).toNat (e82 122 10)) 154 (l1).toNat 1))
            else none
    else
      some (0, (fup M 122 0 0))
theorem s_X12_image_ok {d L : Nat} {M : fM} {l1 : Int} {r : (Int × fM)} {Q : fO → fH → Prop} (h : s_X12_image M l1 = some r) (H : Q (oI r.1) (156, fjl L, r.2)) : Wp (d + 1, 307, 0, 0, 0, [some (fA 122), some (fI l1), none], []) (156, fjl L, M) Q := by
  unfold s_X12_image at h
  refine Wp.run 6 (f' := (d + 1, 307, 8, 0, 0, [some (fA 122), some (fI l1), _], [fI 1, fI 0, fI l1])) (h' := (156, fjl L, (fup M 122 0 0))) rfl trivial ?_
  obtain ⟨y8, hy, h⟩ := fbd h
  refine Wp.call rfl (by decide) (s_X12_isIn_ok (d := d + 0) hy ?_)
  show Wp (d + 1, 307, 11, 0, 0, [some (fA 122), some (fI l1), _], [fI y8]) (156, fjl L, (fup M 122 0 0)) Q
  refine Wp.br rfl (fun (c : ¬ y8 = 0) => ?_) (fun (c : ¬ (¬ y8 = 0)) => ?_)
  · replace h := fps c h
    refine Wp.run 2 (f' := (d + 1, 307, 18, 0, 0, [some (fA 122), some (fI l1), some (fI 0)], [])) (h' := (156, fjl L, (fup M 122 0 0))) rfl trivial ?_
    obtain ⟨e18, hy, h⟩ := fbd h
    refine s_X12_image_l18_ok hy (fun x u2 ex => ?_)
    cases ex
    show Wp (d + 1, 307, 49, 0, 0, [some (fA 122), some (fI l1), u2], []) (156, fjl L, e18) Q
    refine Wp.run 2 (f' := (d + 1, 307, 51, 0, 0, [some (fA 122), some (fI l1), some (fI 0)], [])) (h' := (156, fjl L, e18)) rfl trivial ?_
    obtain ⟨e51, hy, h⟩ := fbd h
    refine s_X12_image_l51_ok hy (fun x u2 ex => ?_)
    cases ex
    show Wp (d + 1, 307, 80, 0, 0, [some (fA 122), some (fI l1), u2], []) (156, fjl L, e51) Q
    refine Wp.run 2 (f' := (d + 1, 307, 82, 0, 0, [some (fA 122), some (fI l1), some (fI 0)], [])) (h' := (156, fjl L, e51)) rfl trivial ?_
    obtain ⟨e82, hy, h⟩ := fbd h
    refine s_X12_image_l82_ok hy (fun x u2 ex => ?_)
    cases ex
    show Wp (d + 1, 307, 117, 0, 0, [some (fA 122), some (fI l1), u2], []) (156, fjl L, e82) Q
    obtain ⟨g0, h⟩ := fgd h
    refine Wp.run 12 (P := [0 ≤ l1 ∧ l1 < 2, 0 ≤ l1 ∧ l1 < 2]) (f' := (d + 1, 307, 135, 0, 0, [_, _, _], [fI 1])) (h' := (156, fjl L, (fup (fup e82 152 (l1).toNat (e82 122 10)) 154 (l1).toNat 1))) rfl ?_ ?_
    · exact ⟨g0, g0⟩
    obtain rfl := Option.some.inj h
    exact Wp.done rfl (by decide) H
  · replace h := fng c h
    refine Wp.run 1 (f' := (d + 1, 307, 15, 0, 0, [_, _, _], [fI 0])) (h' := (156, fjl L, (fup M 122 0 0))) rfl trivial ?_
    obtain rfl := Option.some.inj h
    exact Wp.done rfl (by decide) H
theorem s_X12_image_fr {M : fM} {l1 : Int} {r : (Int × fM)} (h : s_X12_image M l1 = some r) : fSame s_X12_image_mods M r.2 := by
  unfold s_X12_image at h
  obtain ⟨y8, hy, h⟩ := fbd h
  by_cases c : ¬ y8 = 0
  · replace h := fps c h
    obtain ⟨e18, hy, h⟩ := fbd h
    have k18 := fs_trans (l := s_X12_image_mods) (fs_up fs_refl (.inr (by decide))) (s_X12_image_l18_fr hy)
    obtain ⟨e51, hy, h⟩ := fbd h
    have k51 := fs_trans (l := s_X12_image_mods) k18 (s_X12_image_l51_fr hy)
    obtain ⟨e82, hy, h⟩ := fbd h
    have k82 := fs_trans (l := s_X12_image_mods) k51 (s_X12_image_l82_fr hy)
    replace h := (fgd h).2
    obtain rfl := Option.some.inj h
    exact fs_up (fs_up k82 (.inl (by decide))) (.inl (by decide))
  · replace h := fng c h
    obtain rfl := Option.some.inj h
    exact fs_up fs_refl (.inr (by decide))
abbrev s_X2_copyFrom_4_76_mods : List (Nat × Option Nat) := [(4, some 13), (4, some 14), (4, some 15), (4, some 16), (4, some 17), (5, none), (6, none), (7, none), (8, none), (9, none), (10, none), (11, none), (12, none), (13, none), (14, none), (15, none), (16, none), (17, none)]
noncomputable def s_X2_copyFrom_4_76 (M : fM) : Option (Unit × fM) :=
  some ((), (fup (fup (fup (fup (fup (fcpy (fcpy (fcpy (fcpy (fcpy (fcpy (fcpy (fcpy (fcpy (fcpy (fcpy (fcpy (fcpy M 77 0 5 0 12) 78 0 6 0 52) 79 0 7 0 52) 80 0 8 0 6) 81 0 9 0 48) 82 0 10 0 160) 83 0 11 0 192) 84 0 12 0 64) 85 0 13 0 18) 86 0 14 0 36) 87 0 15 0 16) 88 0 16 0 6) 89 0 17 0 6) 4 13 (M 76 13)) 4 14 (M 76 14)) 4 15 (M 76 15)) 4 16 (M 76 16)) 4 17 (M 76 17)))
theorem s_X2_copyFrom_4_76_ok {d L : Nat} {M : fM} {r : (Unit × fM)} {Q : fO → fH → Prop} (h : s_X2_copyFrom_4_76 M = some r) (H : Q (oV r.1) (156, fjl L, r.2)) : Wp (d + 1, 26, 0, 0, 0, [some (fA 4), some (fA 76)], []) (156, fjl L, M) Q := by
  unfold s_X2_copyFrom_4_76 at h
  refine Wp.run 16 (P := [1 ≤ d + 1, (0 : Int) ≤ 0 ∧ (0 : Int) ≤ 0 ∧ (0 : Int) ≤ 12 ∧ (0 : Int) + 12 ≤ 12 ∧ (0 : Int) + 12 ≤ 12 ∧ 77 ≠ 5, 1 ≤ d + 1, (0 : Int) ≤ 0 ∧ (0 : Int) ≤ 0 ∧ (0 : Int) ≤ 52 ∧ (0 : Int) + 52 ≤ 52 ∧ (0 : Int) + 52 ≤ 52 ∧ 78 ≠ 6]) (f' := (d + 1, 26, 30, 0, 0, [some (fA 4), some (fA 76)], [])) (h' := (156, fjl L, (fcpy (fcpy M 77 0 5 0 12) 78 0 6 0 52))) rfl ?_ ?_
  · exact ⟨Nat.le_add_left_of_le (by decide), ⟨by decide, by decide, by decide, by decide, by decide, by decide⟩, Nat.le_add_left_of_le (by decide), ⟨by decide, by decide, by decide, by decide, by decide, by decide⟩⟩
  refine Wp.run 16 (P := [1 ≤ d + 1, (0 : Int) ≤ 0 ∧ (0 : Int) ≤ 0 ∧ (0 : Int) ≤ 52 ∧ (0 : Int) + 52 ≤ 52 ∧ (0 : Int) + 52 ≤ 52 ∧ 79 ≠ 7, 1 ≤ d + 1, (0 : Int) ≤ 0 ∧ (0 : Int) ≤ 0 ∧ (0 : Int) ≤ 6 ∧ (0 : Int) + 6 ≤ 6 ∧ (0 : Int) + 6 ≤ 6 ∧ 80 ≠ 8]) (f' := (d + 1, 26, 60, 0, 0, [some (fA 4), some (fA 76)], [])) (h' := (156, fjl L, (fcpy (fcpy (fcpy (fcpy M 77 0 5 0 12) 78 0 6 0 52) 79 0 7 0 52) 80 0 8 0 6))) rfl ?_ ?_
  · exact ⟨Nat.le_add_left_of_le (by decide), ⟨by decide, by decide, by decide, by decide, by decide, by decide⟩, Nat.le_add_left_of_le (by decide), ⟨by decide, by decide, by decide, by decide, by decide, by decide⟩⟩
  refine Wp.run 16 (P := [1 ≤ d + 1, (0 : Int) ≤ 0 ∧ (0 : Int) ≤ 0 ∧ (0 : Int) ≤ 48 ∧ (0 : Int) + 48 ≤ 48 ∧ (0 : Int) + 48 ≤ 48 ∧ 81 ≠ 9, 1 ≤ d + 1, (0 : Int) ≤ 0 ∧ (0 : Int) ≤ 0 ∧ (0 : Int) ≤ 160 ∧ (0 : Int) + 160 ≤ 160 ∧ (0 : Int) + 160 ≤ 160 ∧ 82 ≠ 10]) (f' := (d + 1, 26, 91, 0, 0, [some (fA 4), some (fA 76)], [])) (h' := (156, fjl L, (fcpy (fcpy (fcpy (fcpy (fcpy (fcpy M 77 0 5 0 12) 78 0 6 0 52) 79 0 7 0 52) 80 0 8 0 6) 81 0 9 0 48) 82 0 10 0 160))) rfl ?_ ?_
  · exact ⟨Nat.le_add_left_of_le (by decide), ⟨by decide, by decide, by decide, by decide, by decide, by decide⟩, Nat.le_add_left_of_le (by decide), ⟨by decide, by decide, by decide, by decide, by decide, by decide⟩⟩
  refine Wp.run 16 (P := [1 ≤ d + 1, (0 : Int) ≤ 0 ∧ (0 : Int) ≤ 0 ∧ (0 : Int) ≤ 192 ∧ (0 : Int) + 192 ≤ 192 ∧ (0 : Int) + 192 ≤ 192 ∧ 83 ≠ 11, 1 ≤ d + 1, (0 : Int) ≤ 0 ∧ (0 : Int) ≤ 0 ∧ (0 : Int) ≤ 64 ∧ (0 : Int) + 64 ≤ 64 ∧ (0 : Int) + 64 ≤ 64 ∧ 84 ≠ 12]) (f' := (d + 1, 26, 122, 0, 0, [some (fA 4), some (fA 76)], [])) (h' := (156, fjl L, (fcpy (fcpy (fcpy (fcpy (fcpy (fcpy (fcpy (fcpy M 77 0 5 0 12) 78 0 6 0 52) 79 0 7 0 52) 80 0 8 0 6) 81 0 9 0 48) 82 0 10 0 160) 83 0 11 0 192) 84 0 12 0 64))) rfl ?_ ?_
  · exact ⟨Nat.le_add_left_of_le (by decide), ⟨by decide, by decide, by decide, by decide, by decide, by decide⟩, Nat.le_add_left_of_le (by decide), ⟨by decide, by decide, by decide, by decide, by decide, by decide⟩⟩
  refine Wp.run 16 (P := [1 ≤ d + 1, (0 : Int) ≤ 0 ∧ (0 : Int) ≤ 0 ∧ (0 : Int) ≤ 18 ∧ (0 : Int) + 18 ≤ 18 ∧ (0 : Int) + 18 ≤ 18 ∧ 85 ≠ 13, 1 ≤ d + 1, (0 : Int) ≤ 0 ∧ (0 : Int) ≤ 0 ∧ (0 : Int) ≤ 36 ∧ (0 : Int) + 36 ≤ 36 ∧ (0 : Int) + 36 ≤ 36 ∧ 86 ≠ 14]) (f' := (d + 1, 26, 152, 0, 0, [some (fA 4), some (fA 76)], [])) (h' := (156, fjl L, (fcpy (fcpy (fcpy (fcpy (fcpy (fcpy (fcpy (fcpy (fcpy (fcpy M 77 0 5 0 12) 78 0 6 0 52) 79 0 7 0 52) 80 0 8 0 6) 81 0 9 0 48) 82 0 10 0 160) 83 0 11 0 192) 84 0 12 0 64) 85 0 13 0 18) 86 0 14 0 36))) rfl ?_ ?_
  · exact ⟨Nat.le_add_left_of_le (by decide), ⟨by decide, by decide, by decide, by decide, by decide, by decide⟩, Nat.le_add_left_of_le (by decide), ⟨by decide, by decide, by decide, by decide, by decide, by decide⟩⟩
  refine Wp.run 16 (P := [1 ≤ d + 1, (0 : Int) ≤ 0 ∧ (0 : Int) ≤ 0 ∧ (0 : Int) ≤ 16 ∧ (0 : Int) + 16 ≤ 16 ∧ (0 : Int) + 16 ≤ 16 ∧ 87 ≠ 15, 1 ≤ d + 1, (0 : Int) ≤ 0 ∧ (0 : Int) ≤ 0 ∧ (0 : Int) ≤ 6 ∧ (0 : Int) + 6 ≤ 6 ∧ (0 : Int) + 6 ≤ 6 ∧ 88 ≠ 16]) (f' := (d + 1, 26, 182, 0, 0, [some (fA 4), some (fA 76)], [])) (h' := (156, fjl L, (fcpy (fcpy (fcpy (fcpy (fcpy (fcpy (fcpy (fcpy (fcpy (fcpy (fcpy (fcpy M 77 0 5 0 12) 78 0 6 0 52) 79 0 7 0 52) 80 0 8 0 6) 81 0 9 0 48) 82 0 10 0 160) 83 0 11 0 192) 84 0 12 0 64) 85 0 13 0 18) 86 0 14 0 36) 87 0 15 0 16) 88 0 16 0 6))) rfl ?_ ?_
  · exact ⟨Nat.le_add_left_of_le (by decide), ⟨by decide, by decide, by decide, by decide, by decide, by decide⟩, Nat.le_add_left_of_le (by decide), ⟨by decide, by decide, by decide, by decide, by decide, by decide⟩⟩
  refine Wp.run 12 (P := [1 ≤ d + 1, (0 : Int) ≤ 0 ∧ (0 : Int) ≤ 0 ∧ (0 : Int) ≤ 6 ∧ (0 : Int) + 6 ≤ 6 ∧ (0 : Int) + 6 ≤ 6 ∧ 89 ≠ 17]) (f' := (d + 1, 26, 205, 0, 0, [some (fA 4), some (fA 76)], [])) (h' := (156, fjl L, (fup (fcpy (fcpy (fcpy (fcpy (fcpy (fcpy (fcpy (fcpy (fcpy (fcpy (fcpy (fcpy (fcpy M 77 0 5 0 12) 78 0 6 0 52) 79 0 7 0 52) 80 0 8 0 6) 81 0 9 0 48) 82 0 10 0 160) 83 0 11 0 192) 84 0 12 0 64) 85 0 13 0 18) 86 0 14 0 36) 87 0 15 0 16) 88 0 16 0 6) 89 0 17 0 6) 4 13 (M 76 13)))) rfl ?_ ?_
  · exact ⟨Nat.le_add_left_of_le (by decide), ⟨by decide, by decide, by decide, by decide, by decide, by decide⟩⟩
  refine Wp.run 12 (f' := (d + 1, 26, 229, 0, 0, [some (fA 4), some (fA 76)], [])) (h' := (156, fjl L, (fup (fup (fup (fup (fcpy (fcpy (fcpy (fcpy (fcpy (fcpy (fcpy (fcpy (fcpy (fcpy (fcpy (fcpy (fcpy M 77 0 5 0 12) 78 0 6 0 52) 79 0 7 0 52) 80 0 8 0 6) 81 0 9 0 48) 82 0 10 0 160) 83 0 11 0 192) 84 0 12 0 64) 85 0 13 0 18) 86 0 14 0 36) 87 0 15 0 16) 88 0 16 0 6) 89 0 17 0 6) 4 13 (M 76 13)) 4 14 (M 76 14)) 4 15 (M 76 15)) 4 16 (M 76 16)))) rfl trivial ?_
  refine Wp.run 4 (f' := (d + 1, 26, 237, 0, 0, [_, _], [])) (h' := (156, fjl L, (fup (fup (fup (fup (fup (fcpy (fcpy (fcpy (fcpy (fcpy (fcpy (fcpy (fcpy (fcpy (fcpy (fcpy (fcpy (fcpy M 77 0 5 0 12) 78 0 6 0 52) 79 0 7 0 52) 80 0 8 0 6) 81 0 9 0 48) 82 0 10 0 160) 83 0 11 0 192) 84 0 12 0 64) 85 0 13 0 18) 86 0 14 0 36) 87 0 15 0 16) 88 0 16 0 6) 89 0 17 0 6) 4 13 (M 76 13)) 4 14 (M 76 14)) 4 15 (M 76 15)) 4 16 (M 76 16)) 4 17 (M 76 17)))) rfl trivial ?_
  obtain rfl := Option.some.inj h
  exact Wp.done rfl (by decide) H
theorem s_X2_copyFrom_4_76_fr {M : fM} {r : (Unit × fM)} (h : s_X2_copyFrom_4_76 M = some r) : fSame s_X2_copyFrom_4_76_mods M r.2 := by
  unfold s_X2_copyFrom_4_76 at h
  obtain rfl := Option.some.inj h
  exact fs_up (fs_up (fs_up (fs_up (fs_up (fs_cpy (fs_cpy (fs_cpy (fs_cpy (fs_cpy (fs_cpy (fs_cpy (fs_cpy (fs_cpy (fs_cpy (fs_cpy (fs_cpy (fs_cpy fs_refl (by decide)) (by decide)) (by decide)) (by decide)) (by decide)) (by decide)) (by decide)) (by decide)) (by decide)) (by decide)) (by decide)) (by decide)) (by decide)) (.inr (by decide))) (.inr (by decide))) (.inr (by decide))) (.inr (by decide))) (.inr (by decide))
abbrev s_X6_copyFrom_18_90_mods : List (Nat × Option Nat) := [(18, some 8), (19, none), (20, none), (21, none), (22, none), (23, none), (24, none), (25, none), (26, none)]
noncomputable def s_X6_copyFrom_18_90 (M : fM) : Option (Unit × fM) :=
  if (0 : Int) ≤ 0 ∧ (0 : Int) ≤ 0 ∧ (0 : Int) ≤ (M 90 8) ∧ (0 : Int) + (M 90 8) ≤ 200 ∧ (0 : Int) + (M 90 8) ≤ 200 then
    if (0 : Int) ≤ 0 ∧ (0 : Int) ≤ 0 ∧ (0 : Int) ≤ (M 90 8) ∧ (0 : Int) + (M 90 8) ≤ 200 ∧ (0 : Int) + (M 90 8) ≤ 200 then
      if (0 : Int) ≤ 0 ∧ (0 : Int) ≤ 0 ∧ (0 : Int) ≤ (M 90 8) ∧ (0 : Int) + (M 90 8) ≤ 200 ∧ (0 : Int) + (M 90 8) ≤ 200 then
        if (0 : Int) ≤ 0 ∧ (0 : Int) ≤ 0 ∧ (0 : Int) ≤ (M 90 8) ∧ (0 : Int) + (M 90 8) ≤ 200 ∧ (0 : Int) + (M 90 8) ≤ 200 then
          if fin ((M 90 8) * 12) ∧ (0 : Int) ≤ 0 ∧ (0 : Int) ≤ 0 ∧ (0 : Int) ≤ ((M 90 8) * 12) ∧ (0 : Int) + ((M 90 8) * 12) ≤ 2400 ∧ (0 : Int) + ((M 90 8) * 12) ≤ 2400 then
            some ((), (fcpy (fcpy (fcpy (fcpy (fcpy (fcpy (fcpy (fcpy (fup M 18 8 (M 90 8)) 91 0 19 0 (M 90 8).toNat) 92 0 20 0 (M 90 8).toNat) 93 0 21 0 (M 90 8).toNat) 94 0 22 0 (M 90 8).toNat) 95 0 23 0 (M 90 8).toNat) 96 0 24 0 (M 90 8).toNat) 97 0 25 0 (M 90 8).toNat) 98 0 26 0 ((M 90 8) * 12).toNat))
          else none
        else none
      else none
    else none
  else none
theorem s_X6_copyFrom_18_90_ok {d L : Nat} {M : fM} {r : (Unit × fM)} {Q : fO → fH → Prop} (h : s_X6_copyFrom_18_90 M = some r) (H : Q (oV r.1) (156, fjl L, r.2)) : Wp (d + 1, 77, 0, 0, 0, [some (fA 18), some (fA 90)], []) (156, fjl L, M) Q := by
  unfold s_X6_copyFrom_18_90 at h
  obtain ⟨g0, h⟩ := fgd h
  refine Wp.run 13 (P := [1 ≤ d + 1, (0 : Int) ≤ 0 ∧ (0 : Int) ≤ 0 ∧ (0 : Int) ≤ (M 90 8) ∧ (0 : Int) + (M 90 8) ≤ 200 ∧ (0 : Int) + (M 90 8) ≤ 200 ∧ 91 ≠ 19]) (f' := (d + 1, 77, 25, 0, 0, [some (fA 18), some (fA 90)], [])) (h' := (156, fjl L, (fcpy (fup M 18 8 (M 90 8)) 91 0 19 0 (M 90 8).toNat))) rfl ?_ ?_
  · exact ⟨Nat.le_add_left_of_le (by decide), ⟨g0.1, g0.2.1, g0.2.2.1, g0.2.2.2.1, g0.2.2.2.2, by decide⟩⟩
  obtain ⟨g0, h⟩ := fgd h
  refine Wp.run 18 (P := [1 ≤ d + 1, (0 : Int) ≤ 0 ∧ (0 : Int) ≤ 0 ∧ (0 : Int) ≤ (M 90 8) ∧ (0 : Int) + (M 90 8) ≤ 200 ∧ (0 : Int) + (M 90 8) ≤ 200 ∧ 92 ≠ 20, 1 ≤ d + 1, (0 : Int) ≤ 0 ∧ (0 : Int) ≤ 0 ∧ (0 : Int) ≤ (M 90 8) ∧ (0 : Int) + (M 90 8) ≤ 200 ∧ (0 : Int) + (M 90 8) ≤ 200 ∧ 93 ≠ 21]) (f' := (d + 1, 77, 59, 0, 0, [some (fA 18), some (fA 90)], [])) (h' := (156, fjl L, (fcpy (fcpy (fcpy (fup M 18 8 (M 90 8)) 91 0 19 0 (M 90 8).toNat) 92 0 20 0 (M 90 8).toNat) 93 0 21 0 (M 90 8).toNat))) rfl ?_ ?_
  · exact ⟨Nat.le_add_left_of_le (by decide), ⟨g0.1, g0.2.1, g0.2.2.1, g0.2.2.2.1, g0.2.2.2.2, by decide⟩, Nat.le_add_left_of_le (by decide), ⟨g0.1, g0.2.1, g0.2.2.1, g0.2.2.2.1, g0.2.2.2.2, by decide⟩⟩
  obtain ⟨g0, h⟩ := fgd h
  refine Wp.run 18 (P := [1 ≤ d + 1, (0 : Int) ≤ 0 ∧ (0 : Int) ≤ 0 ∧ (0 : Int) ≤ (M 90 8) ∧ (0 : Int) + (M 90 8) ≤ 200 ∧ (0 : Int) + (M 90 8) ≤ 200 ∧ 94 ≠ 22, 1 ≤ d + 1, (0 : Int) ≤ 0 ∧ (0 : Int) ≤ 0 ∧ (0 : Int) ≤ (M 90 8) ∧ (0 : Int) + (M 90 8) ≤ 200 ∧ (0 : Int) + (M 90 8) ≤ 200 ∧ 95 ≠ 23]) (f' := (d + 1, 77, 93, 0, 0, [some (fA 18), some (fA 90)], [])) (h' := (156, fjl L, (fcpy (fcpy (fcpy (fcpy (fcpy (fup M 18 8 (M 90 8)) 91 0 19 0 (M 90 8).toNat) 92 0 20 0 (M 90 8).toNat) 93 0 21 0 (M 90 8).toNat) 94 0 22 0 (M 90 8).toNat) 95 0 23 0 (M 90 8).toNat))) rfl ?_ ?_
  · exact ⟨Nat.le_add_left_of_le (by decide), ⟨g0.1, g0.2.1, g0.2.2.1, g0.2.2.2.1, g0.2.2.2.2, by decide⟩, Nat.le_add_left_of_le (by decide), ⟨g0.1, g0.2.1, g0.2.2.1, g0.2.2.2.1, g0.2.2.2.2, by decide⟩⟩
  obtain ⟨g0, h⟩ := fgd h
  refine Wp.run 18 (P := [1 ≤ d + 1, (0 : Int) ≤ 0 ∧ (0 : Int) ≤ 0 ∧ (0 : Int) ≤ (M 90 8) ∧ (0 : Int) + (M 90 8) ≤ 200 ∧ (0 : Int) + (M 90 8) ≤ 200 ∧ 96 ≠ 24, 1 ≤ d + 1, (0 : Int) ≤ 0 ∧ (0 : Int) ≤ 0 ∧ (0 : Int) ≤ (M 90 8) ∧ (0 : Int) + (M 90 8) ≤ 200 ∧ (0 : Int) + (M 90 8) ≤ 200 ∧ 97 ≠ 25]) (f' := (d + 1, 77, 127, 0, 0, [some (fA 18), some (fA 90)], [])) (h' := (156, fjl L, (fcpy (fcpy (fcpy (fcpy (fcpy (fcpy (fcpy (fup M 18 8 (M 90 8)) 91 0 19 0 (M 90 8).toNat) 92 0 20 0 (M 90 8).toNat) 93 0 21 0 (M 90 8).toNat) 94 0 22 0 (M 90 8).toNat) 95 0 23 0 (M 90 8).toNat) 96 0 24 0 (M 90 8).toNat) 97 0 25 0 (M 90 8).toNat))) rfl ?_ ?_
  · exact ⟨Nat.le_add_left_of_le (by decide), ⟨g0.1, g0.2.1, g0.2.2.1, g0.2.2.2.1, g0.2.2.2.2, by decide⟩, Nat.le_add_left_of_le (by decide), ⟨g0.1, g0.2.1, g0.2.2.1, g0.2.2.2.1, g0.2.2.2.2, by decide⟩⟩
  obtain ⟨⟨g0, g1⟩, h⟩ := fgd h
  refine Wp.run 11 (P := [1 ≤ d + 1, (0 : Int) ≤ 0 ∧ (0 : Int) ≤ 0 ∧ (0 : Int) ≤ (fw ((M 90 8) * 12)) ∧ (0 : Int) + (fw ((M 90 8) * 12)) ≤ 2400 ∧ (0 : Int) + (fw ((M 90 8) * 12)) ≤ 2400 ∧ 98 ≠ 26]) (f' := (d + 1, 77, 147, 0, 0, [_, _], [])) (h' := (156, fjl L, (fcpy (fcpy (fcpy (fcpy (fcpy (fcpy (fcpy (fcpy (fup M 18 8 (M 90 8)) 91 0 19 0 (M 90 8).toNat) 92 0 20 0 (M 90 8).toNat) 93 0 21 0 (M 90 8).toNat) 94 0 22 0 (M 90 8).toNat) 95 0 23 0 (M 90 8).toNat) 96 0 24 0 (M 90 8).toNat) 97 0 25 0 (M 90 8).toNat) 98 0 26 0 (fw ((M 90 8) * 12)).toNat))) rfl ?_ ?_
  · rw [fw_id g0]; exact ⟨Nat.le_add_left_of_le (by decide), ⟨g1.1, g1.2.1, g1.2.2.1, g1.2.2.2.1, g1.2.2.2.2, by decide⟩⟩
  rw [fw_id g0]
  obtain rfl := Option.some.inj h
  exact Wp.done rfl (by decide) H
theorem s_X6_copyFrom_18_90_fr {M : fM} {r : (Unit × fM)} (h : s_X6_copyFrom_18_90 M = some r) : fSame s_X6_copyFrom_18_90_mods M r.2 := by
  unfold s_X6_copyFrom_18_90 at h
  replace h := (fgd h).2
  replace h := (fgd h).2
  replace h := (fgd h).2
  replace h := (fgd h).2
  replace h := (fgd h).2
  obtain rfl := Option.some.inj h
  exact fs_cpy (fs_cpy (fs_cpy (fs_cpy (fs_cpy (fs_cpy (fs_cpy (fs_cpy (fs_up fs_refl (.inr (by decide))) (by decide)) (by decide)) (by decide)) (by decide)) (by decide)) (by decide)) (by decide)) (by decide)
abbrev s_X11_restore_0_mods : List (Nat × Option Nat) := [(4, some 13), (4, some 14), (4, some 15), (4, some 16), (4, some 17), (5, none), (6, none), (7, none), (8, none), (9, none), (10, none), (11, none), (12, none), (13, none), (14, none), (15, none), (16, none), (17, none), (18, some 8), (19, none), (20, none), (21, none), (22, none), (23, none), (24, none), (25, none), (26, none)]
noncomputable def s_X11_restore_0 (M : fM) : Option (Int × fM) :=
  (s_X11_isWithin M 0 2).bind fun y2 =>
    if y2 = 0 then
      some (0, M)
    else
      if ¬ (M 75 0) = 0 then
        (s_X2_copyFrom_4_76 M).bind fun y29 =>
          (s_X6_copyFrom_18_90 y29.2).bind fun y42 =>
            some (1, y42.2)
      else
        some (0, M)
theorem s_X11_restore_0_ok {d L : Nat} {M : fM} {r : (Int × fM)} {Q : fO → fH → Prop} (h : s_X11_restore_0 M = some r) (H : Q (oI r.1) (156, fjl L, r.2)) : Wp (d + 2, 188, 0, 0, 0, [some (fA 0), some (fI 0)], []) (156, fjl L, M) Q := by
  unfold s_X11_restore_0 at h
  refine Wp.run 2 (f' := (d + 2, 188, 2, 0, 0, [some (fA 0), some (fI 0)], [fI 2, fI 0])) (h' := (156, fjl L, M)) rfl trivial ?_
  obtain ⟨y2, hy, h⟩ := fbd h
  refine Wp.call rfl (by decide) (s_X11_isWithin_ok (d := d + 1) hy ?_)
  show Wp (d + 2, 188, 5, 0, 0, [some (fA 0), some (fI 0)], [fI y2]) (156, fjl L, M) Q
  refine Wp.br rfl (fun (c : y2 = 0) => ?_) (fun (c : ¬ (y2 = 0)) => ?_)
  · replace h := fps c h
    refine Wp.run 1 (f' := (d + 2, 188, 18, 0, 0, [_, _], [fI 0])) (h' := (156, fjl L, M)) rfl trivial ?_
    obtain rfl := Option.some.inj h
    exact Wp.done rfl (by decide) H
  · replace h := fng c h
    refine Wp.run 4 (P := [(0 : Int) ≤ 0 ∧ (0 : Int) < 2]) (f' := (d + 2, 188, 14, 0, 0, [some (fA 0), some (fI 0)], [fI (M 75 0)])) (h' := (156, fjl L, M)) rfl ?_ ?_
    · exact (by decide : (0 : Int) ≤ 0 ∧ (0 : Int) < 2)
    refine Wp.br rfl (fun (c : ¬ (M 75 0) = 0) => ?_) (fun (c : ¬ (¬ (M 75 0) = 0)) => ?_)
    · replace h := fps c h
      refine Wp.run 6 (P := [(0 : Int) ≤ 0 ∧ (0 : Int) < 2]) (f' := (d + 2, 188, 29, 0, 0, [some (fA 0), some (fI 0)], [fA 76, fA 4])) (h' := (156, fjl L, M)) rfl ?_ ?_
      · exact (by decide : (0 : Int) ≤ 0 ∧ (0 : Int) < 2)
      obtain ⟨y29, hy, h⟩ := fbd h
      refine Wp.call rfl (by decide) (s_X2_copyFrom_4_76_ok (d := d + 0) hy ?_)
      show Wp (d + 2, 188, 32, 0, 0, [some (fA 0), some (fI 0)], []) (156, fjl L, y29.2) Q
      refine Wp.run 6 (P := [(0 : Int) ≤ 0 ∧ (0 : Int) < 2]) (f' := (d + 2, 188, 42, 0, 0, [_, _], [fA 90, fA 18])) (h' := (156, fjl L, y29.2)) rfl ?_ ?_
      · exact (by decide : (0 : Int) ≤ 0 ∧ (0 : Int) < 2)
      obtain ⟨y42, hy, h⟩ := fbd h
      refine Wp.call rfl (by decide) (s_X6_copyFrom_18_90_ok (d := d + 0) hy ?_)
      show Wp (d + 2, 188, 45, 0, 0, [_, _], []) (156, fjl L, y42.2) Q
      refine Wp.run 1 (f' := (d + 2, 188, 46, 0, 0, [_, _], [fI 1])) (h' := (156, fjl L, y42.2)) rfl trivial ?_
      obtain rfl := Option.some.inj h
      exact Wp.done rfl (by decide) H
    · replace h := fng c h
      refine Wp.run 1 (f' := (d + 2, 188, 18, 0, 0, [_, _], [fI 0])) (h' := (156, fjl L, M)) rfl trivial ?_
      obtain rfl := Option.some.inj h
      exact Wp.done rfl (by decide) H
theorem s_X11_restore_0_fr {M : fM} {r : (Int × fM)} (h : s_X11_restore_0 M = some r) : fSame s_X11_restore_0_mods M r.2 := by
  unfold s_X11_restore_0 at h
  obtain ⟨y2, hy, h⟩ := fbd h
  by_cases c : y2 = 0
  · replace h := fps c h
    obtain rfl := Option.some.inj h
    exact fs_refl
  · replace h := fng c h
    by_cases c : ¬ (M 75 0) = 0
    · replace h := fps c h
      obtain ⟨y29, hy, h⟩ := fbd h
      have k29 := fs_trans (l := s_X11_restore_0_mods) fs_refl (fs_mono (l := s_X2_copyFrom_4_76_mods) (by decide) (s_X2_copyFrom_4_76_fr hy))
      obtain ⟨y42, hy, h⟩ := fbd h
      have k42 := fs_trans (l := s_X11_restore_0_mods) k29 (fs_mono (l := s_X6_copyFrom_18_90_mods) (by decide) (s_X6_copyFrom_18_90_fr hy))
      obtain rfl := Option.some.inj h
      exact k42
    · replace h := fng c h
      obtain rfl := Option.some.inj h
      exact fs_refl
abbrev s_X2_copyFrom_4_99_mods : List (Nat × Option Nat) := [(4, some 13), (4, some 14), (4, some 15), (4, some 16), (4, some 17), (5, none), (6, none), (7, none), (8, none), (9, none), (10, none), (11, none), (12, none), (13, none), (14, none), (15, none), (16, none), (17, none)]
noncomputable def s_X2_copyFrom_4_99 (M : fM) : Option (Unit × fM) :=
  some ((), (fup (fup (fup (fup (fup (fcpy (fcpy (fcpy (fcpy (fcpy (fcpy (fcpy (fcpy (fcpy (fcpy (fcpy (fcpy (fcpy M 100 0 5 0 12) 101 0 6 0 52) 102 0 7 0 52) 103 0 8 0 6) 104 0 9 0 48) 105 0 10 0 160) 106 0 11 0 192) 107 0 12 0 64) 108 0 13 0 18) 109 0 14 0 36) 110 0 15 0 16) 111 0 16 0 6) 112 0 17 0 6) 4 13 (M 99 13)) 4 14 (M 99 14)) 4 15 (M 99 15)) 4 16 (M 99 16)) 4 17 (M 99 17)))
theorem s_X2_copyFrom_4_99_ok {d L : Nat} {M : fM} {r : (Unit × fM)} {Q : fO → fH → Prop} (h : s_X2_copyFrom_4_99 M = some r) (H : Q (oV r.1) (156, fjl L, r.2)) : Wp (d + 1, 26, 0, 0, 0, [some (fA 4), some (fA 99)], []) (156, fjl L, M) Q := by
  unfold s_X2_copyFrom_4_99 at h
  refine Wp.run 16 (P := [1 ≤ d + 1, (0 : Int) ≤ 0 ∧ (0 : Int) ≤ 0 ∧ (0 : Int) ≤ 12 ∧ (0 : Int) + 12 ≤ 12 ∧ (0 : Int) + 12 ≤ 12 ∧ 100 ≠ 5, 1 ≤ d + 1, (0 : Int) ≤ 0 ∧ (0 : Int) ≤ 0 ∧ (0 : Int) ≤ 52 ∧ (0 : Int) + 52 ≤ 52 ∧ (0 : Int) + 52 ≤ 52 ∧ 101 ≠ 6]) (f' := (d + 1, 26, 30, 0, 0, [some (fA 4), some (fA 99)], [])) (h' := (156, fjl L, (fcpy (fcpy M 100 0 5 0 12) 101 0 6 0 52))) rfl ?_ ?_
  · exact ⟨Nat.le_add_left_of_le (by decide), ⟨by decide, by decide, by decide, by decide, by decide, by decide⟩, Nat.le_add_left_of_le (by decide), ⟨by decide, by decide, by decide, by decide, by decide, by decide⟩⟩
  refine Wp.run 16 (P := [1 ≤ d + 1, (0 : Int) ≤ 0 ∧ (0 : Int) ≤ 0 ∧ (0 : Int) ≤ 52 ∧ (0 : Int) + 52 ≤ 52 ∧ (0 : Int) + 52 ≤ 52 ∧ 102 ≠ 7, 1 ≤ d + 1, (0 : Int) ≤ 0 ∧ (0 : Int) ≤ 0 ∧ (0 : Int) ≤ 6 ∧ (0 : Int) + 6 ≤ 6 ∧ (0 : Int) + 6 ≤ 6 ∧ 103 ≠ 8]) (f' := (d + 1, 26, 60, 0, 0, [some (fA 4), some (fA 99)], [])) (h' := (156, fjl L, (fcpy (fcpy (fcpy (fcpy M 100 0 5 0 12) 101 0 6 0 52) 102 0 7 0 52) 103 0 8 0 6))) rfl ?_ ?_
  · exact ⟨Nat.le_add_left_of_le (by decide), ⟨by decide, by decide, by decide, by decide, by decide, by decide⟩, Nat.le_add_left_of_le (by decide), ⟨by decide, by decide, by decide, by decide, by decide, by decide⟩⟩
  refine Wp.run 16 (P := [1 ≤ d + 1, (0 : Int) ≤ 0 ∧ (0 : Int) ≤ 0 ∧ (0 : Int) ≤ 48 ∧ (0 : Int) + 48 ≤ 48 ∧ (0 : Int) + 48 ≤ 48 ∧ 104 ≠ 9, 1 ≤ d + 1, (0 : Int) ≤ 0 ∧ (0 : Int) ≤ 0 ∧ (0 : Int) ≤ 160 ∧ (0 : Int) + 160 ≤ 160 ∧ (0 : Int) + 160 ≤ 160 ∧ 105 ≠ 10]) (f' := (d + 1, 26, 91, 0, 0, [some (fA 4), some (fA 99)], [])) (h' := (156, fjl L, (fcpy (fcpy (fcpy (fcpy (fcpy (fcpy M 100 0 5 0 12) 101 0 6 0 52) 102 0 7 0 52) 103 0 8 0 6) 104 0 9 0 48) 105 0 10 0 160))) rfl ?_ ?_
  · exact ⟨Nat.le_add_left_of_le (by decide), ⟨by decide, by decide, by decide, by decide, by decide, by decide⟩, Nat.le_add_left_of_le (by decide), ⟨by decide, by decide, by decide, by decide, by decide, by decide⟩⟩
  refine Wp.run 16 (P := [1 ≤ d + 1, (0 : Int) ≤ 0 ∧ (0 : Int) ≤ 0 ∧ (0 : Int) ≤ 192 ∧ (0 : Int) + 192 ≤ 192 ∧ (0 : Int) + 192 ≤ 192 ∧ 106 ≠ 11, 1 ≤ d + 1, (0 : Int) ≤ 0 ∧ (0 : Int) ≤ 0 ∧ (0 : Int) ≤ 64 ∧ (0 : Int) + 64 ≤ 64 ∧ (0 : Int) + 64 ≤ 64 ∧ 107 ≠ 12]) (f' := (d + 1, 26, 122, 0, 0, [some (fA 4), some (fA 99)], [])) (h' := (156, fjl L, (fcpy (fcpy (fcpy (fcpy (fcpy (fcpy (fcpy (fcpy M 100 0 5 0 12) 101 0 6 0 52) 102 0 7 0 52) 103 0 8 0 6) 104 0 9 0 48) 105 0 10 0 160) 106 0 11 0 192) 107 0 12 0 64))) rfl ?_ ?_
  · exact ⟨Nat.le_add_left_of_le (by decide), ⟨by decide, by decide, by decide, by decide, by decide, by decide⟩, Nat.le_add_left_of_le (by decide), ⟨by decide, by decide, by decide, by decide, by decide, by decide⟩⟩
  refine Wp.run 16 (P := [1 ≤ d + 1, (0 : Int) ≤ 0 ∧ (0 : Int) ≤ 0 ∧ (0 : Int) ≤ 18 ∧ (0 : Int) + 18 ≤ 18 ∧ (0 : Int) + 18 ≤ 18 ∧ 108 ≠ 13, 1 ≤ d + 1, (0 : Int) ≤ 0 ∧ (0 : Int) ≤ 0 ∧ (0 : Int) ≤ 36 ∧ (0 : Int) + 36 ≤ 36 ∧ (0 : Int) + 36 ≤ 36 ∧ 109 ≠ 14]) (f' := (d + 1, 26, 152, 0, 0, [some (fA 4), some (fA 99)], [])) (h' := (156, fjl L, (fcpy (fcpy (fcpy (fcpy (fcpy (fcpy (fcpy (fcpy (fcpy (fcpy M 100 0 5 0 12) 101 0 6 0 52) 102 0 7 0 52) 103 0 8 0 6) 104 0 9 0 48) 105 0 10 0 160) 106 0 11 0 192) 107 0 12 0 64) 108 0 13 0 18) 109 0 14 0 36))) rfl ?_ ?_
  · exact ⟨Nat.le_add_left_of_le (by decide), ⟨by decide, by decide, by decide, by decide, by decide, by decide⟩, Nat.le_add_left_of_le (by decide), ⟨by decide, by decide, by decide, by decide, by decide, by decide⟩⟩
  refine Wp.run 16 (P := [1 ≤ d + 1, (0 : Int) ≤ 0 ∧ (0 : Int) ≤ 0 ∧ (0 : Int) ≤ 16 ∧ (0 : Int) + 16 ≤ 16 ∧ (0 : Int) + 16 ≤ 16 ∧ 110 ≠ 15, 1 ≤ d + 1, (0 : Int) ≤ 0 ∧ (0 : Int) ≤ 0 ∧ (0 : Int) ≤ 6 ∧ (0 : Int) + 6 ≤ 6 ∧ (0 : Int) + 6 ≤ 6 ∧ 111 ≠ 16]) (f' := (d + 1, 26, 182, 0, 0, [some (fA 4), some (fA 99)], [])) (h' := (156, fjl L, (fcpy (fcpy (fcpy (fcpy (fcpy (fcpy (fcpy (fcpy (fcpy (fcpy (fcpy (fcpy M 100 0 5 0 12) 101 0 6 0 52) 102 0 7 0 52) 103 0 8 0 6) 104 0 9 0 48) 105 0 10 0 160) 106 0 11 0 192) 107 0 12 0 64) 108 0 13 0 18) 109 0 14 0 36) 110 0 15 0 16) 111 0 16 0 6))) rfl ?_ ?_
  · exact ⟨Nat.le_add_left_of_le (by decide), ⟨by decide, by decide, by decide, by decide, by decide, by decide⟩, Nat.le_add_left_of_le (by decide), ⟨by decide, by decide, by decide, by decide, by decide, by decide⟩⟩
  refine Wp.run 12 (P := [1 ≤ d + 1, (0 : Int) ≤ 0 ∧ (0 : Int) ≤ 0 ∧ (0 : Int) ≤ 6 ∧ (0 : Int) + 6 ≤ 6 ∧ (0 : Int) + 6 ≤ 6 ∧ 112 ≠ 17]) (f' := (d + 1, 26, 205, 0, 0, [some (fA 4), some (fA 99)], [])) (h' := (156, fjl L, (fup (fcpy (fcpy (fcpy (fcpy (fcpy (fcpy (fcpy (fcpy (fcpy (fcpy (fcpy (fcpy (fcpy M 100 0 5 0 12) 101 0 6 0 52) 102 0 7 0 52) 103 0 8 0 6) 104 0 9 0 48) 105 0 10 0 160) 106 0 11 0 192) 107 0 12 0 64) 108 0 13 0 18) 109 0 14 0 36) 110 0 15 0 16) 111 0 16 0 6) 112 0 17 0 6) 4 13 (M 99 13)))) rfl ?_ ?_
  · exact ⟨Nat.le_add_left_of_le (by decide), ⟨by decide, by decide, by decide, by decide, by decide, by decide⟩⟩
  refine Wp.run 12 (f' := (d + 1, 26, 229, 0, 0, [some (fA 4), some (fA 99)], [])) (h' := (156, fjl L, (fup (fup (fup (fup (fcpy (fcpy (fcpy (fcpy (fcpy (fcpy (fcpy (fcpy (fcpy (fcpy (fcpy (fcpy (fcpy M 100 0 5 0 12) 101 0 6 0 52) 102 0 7 0 52) 103 0 8 0 6) 104 0 9 0 48) 105 0 10 0 160) 106 0 11 0 192) 107 0 12 0 64) 108 0 13 0 18) 109 0 14 0 36) 110 0 15 0 16) 111 0 16 0 6) 112 0 17 0 6) 4 13 (M 99 13)) 4 14 (M 99 14)) 4 15 (M 99 15)) 4 16 (M 99 16)))) rfl trivial ?_
  refine Wp.run 4 (f' := (d + 1, 26, 237, 0, 0, [_, _], [])) (h' := (156, fjl L, (fup (fup (fup (fup (fup (fcpy (fcpy (fcpy (fcpy (fcpy (fcpy (fcpy (fcpy (fcpy (fcpy (fcpy (fcpy (fcpy M 100 0 5 0 12) 101 0 6 0 52) 102 0 7 0 52) 103 0 8 0 6) 104 0 9 0 48) 105 0 10 0 160) 106 0 11 0 192) 107 0 12 0 64) 108 0 13 0 18) 109 0 14 0 36) 110 0 15 0 16) 111 0 16 0 6) 112 0 17 0 6) 4 13 (M 99 13)) 4 14 (M 99 14)) 4 15 (M 99 15)) 4 16 (M 99 16)) 4 17 (M 99 17)))) rfl trivial ?_
  obtain rfl := Option.some.inj h
  exact Wp.done rfl (by decide) H
theorem s_X2_copyFrom_4_99_fr {M : fM} {r : (Unit × fM)} (h : s_X2_copyFrom_4_99 M = some r) : fSame s_X2_copyFrom_4_99_mods M r.2 := by
  unfold s_X2_copyFrom_4_99 at h
  obtain rfl := Option.some.inj h
  exact fs_up (fs_up (fs_up (fs_up (fs_up (fs_cpy (fs_cpy (fs_cpy (fs_cpy (fs_cpy (fs_cpy (fs_cpy (fs_cpy (fs_cpy (fs_cpy (fs_cpy (fs_cpy (fs_cpy fs_refl (by decide)) (by decide)) (by decide)) (by decide)) (by decide)) (by decide)) (by decide)) (by decide)) (by decide)) (by decide)) (by decide)) (by decide)) (by decide)) (.inr (by decide))) (.inr (by decide))) (.inr (by decide))) (.inr (by decide))) (.inr (by decide))
abbrev s_X6_copyFrom_18_113_mods : List (Nat × Option Nat) := [(18, some 8), (19, none), (20, none), (21, none), (22, none), (23, none), (24, none), (25, none), (26, none)]
noncomputable def s_X6_copyFrom_18_113 (M : fM) : Option (Unit × fM) :=
  if (0 : Int) ≤ 0 ∧ (0 : Int) ≤ 0 ∧ (0 : Int) ≤ (M 113 8) ∧ (0 : Int) + (M 113 8) ≤ 200 ∧ (0 : Int) + (M 113 8) ≤ 200 then
    if (0 : Int) ≤ 0 ∧ (0 : Int) ≤ 0 ∧ (0 : Int) ≤ (M 113 8) ∧ (0 : Int) + (M 113 8) ≤ 200 ∧ (0 : Int) + (M 113 8) ≤ 200 then
      if (0 : Int) ≤ 0 ∧ (0 : Int) ≤ 0 ∧ (0 : Int) ≤ (M 113 8) ∧ (0 : Int) + (M 113 8) ≤ 200 ∧ (0 : Int) + (M 113 8) ≤ 200 then
        if (0 : Int) ≤ 0 ∧ (0 : Int) ≤ 0 ∧ (0 : Int) ≤ (M 113 8) ∧ (0 : Int) + (M 113 8) ≤ 200 ∧ (0 : Int) + (M 113 8) ≤ 200 then
          if fin ((M 113 8) * 12) ∧ (0 : Int) ≤ 0 ∧ (0 : Int) ≤ 0 ∧ (0 : Int) ≤ ((M 113 8) * 12) ∧ (0 : Int) + ((M 113 8) * 12) ≤ 2400 ∧ (0 : Int) + ((M 113 8) * 12) ≤ 2400 then
            some ((), (fcpy (fcpy (fcpy (fcpy (fcpy (fcpy (fcpy (fcpy (fup M 18 8 (M 113 8)) 114 0 19 0 (M 113 8).toNat) 115 0 20 0 (M 113 8).toNat) 116 0 21 0 (M 113 8).toNat) 117 0 22 0 (M 113 8).toNat) 118 0 23 0 (M 113 8).toNat) 119 0 24 0 (M 113 8).toNat) 120 0 25 0 (M 113 8).toNat) 121 0 26 0 ((M 113 8) * 12).toNat))
          else none
        else none
      else none
    else none
  else none
theorem s_X6_copyFrom_18_113_ok {d L : Nat} {M : fM} {r : (Unit × fM)} {Q : fO → fH → Prop} (h : s_X6_copyFrom_18_113 M = some r) (H : Q (oV r.1) (156, fjl L, r.2)) : Wp (d + 1, 77, 0, 0, 0, [some (fA 18), some (fA 113)], []) (156, fjl L, M) Q := by
  unfold s_X6_copyFrom_18_113 at h
  obtain ⟨g0, h⟩ := fgd h
  refine Wp.run 13 (P := [1 ≤ d + 1, (0 : Int) ≤ 0 ∧ (0 : Int) ≤ 0 ∧ (0 : Int) ≤ (M 113 8) ∧ (0 : Int) + (M 113 8) ≤ 200 ∧ (0 : Int) + (M 113 8) ≤ 200 ∧ 114 ≠ 19]) (f' := (d + 1, 77, 25, 0, 0, [some (fA 18), some (fA 113)], [])) (h' := (156, fjl L, (fcpy (fup M 18 8 (M 113 8)) 114 0 19 0 (M 113 8).toNat))) rfl ?_ ?_
  · exact ⟨Nat.le_add_left_of_le (by decide), ⟨g0.1, g0.2.1, g0.2.2.1, g0.2.2.2.1, g0.2.2.2.2, by decide⟩⟩
  obtain ⟨g0, h⟩ := fgd h
  refine Wp.run 18 (P := [1 ≤ d + 1, (0 : Int) ≤ 0 ∧ (0 : Int) ≤ 0 ∧ (0 : Int) ≤ (M 113 8) ∧ (0 : Int) + (M 113 8) ≤ 200 ∧ (0 : Int) + (M 113 8) ≤ 200 ∧ 115 ≠ 20, 1 ≤ d + 1, (0 : Int) ≤ 0 ∧ (0 : Int) ≤ 0 ∧ (0 : Int) ≤ (M 113 8) ∧ (0 : Int) + (M 113 8) ≤ 200 ∧ (0 : Int) + (M 113 8) ≤ 200 ∧ 116 ≠ 21]) (f' := (d + 1, 77, 59, 0, 0, [some (fA 18), some (fA 113)], [])) (h' := (156, fjl L, (fcpy (fcpy (fcpy (fup M 18 8 (M 113 8)) 114 0 19 0 (M 113 8).toNat) 115 0 20 0 (M 113 8).toNat) 116 0 21 0 (M 113 8).toNat))) rfl ?_ ?_
  · exact ⟨Nat.le_add_left_of_le (by decide), ⟨g0.1, g0.2.1, g0.2.2.1, g0.2.2.2.1, g0.2.2.2.2, by decide⟩, Nat.le_add_left_of_le (by decide), ⟨g0.1, g0.2.1, g0.2.2.1, g0.2.2.2.1, g0.2.2.2.2, by decide⟩⟩
  obtain ⟨g0, h⟩ := fgd h
  refine Wp.run 18 (P := [1 ≤ d + 1, (0 : Int) ≤ 0 ∧ (0 : Int) ≤ 0 ∧ (0 : Int) ≤ (M 113 8) ∧ (0 : Int) + (M 113 8) ≤ 200 ∧ (0 : Int) + (M 113 8) ≤ 200 ∧ 117 ≠ 22, 1 ≤ d + 1, (0 : Int) ≤ 0 ∧ (0 : Int) ≤ 0 ∧ (0 : Int) ≤ (M 113 8) ∧ (0 : Int) + (M 113 8) ≤ 200 ∧ (0 : Int) + (M 113 8) ≤ 200 ∧ 118 ≠ 23]) (f' := (d + 1, 77, 93, 0, 0, [some (fA 18), some (fA 113)], [])) (h' := (156, fjl L, (fcpy (fcpy (fcpy (fcpy (fcpy (fup M 18 8 (M 113 8)) 114 0 19 0 (M 113 8).toNat) 115 0 20 0 (M 113 8).toNat) 116 0 21 0 (M 113 8).toNat) 117 0 22 0 (M 113 8).toNat) 118 0 23 0 (M 113 8).toNat))) rfl ?_ ?_
  · exact ⟨Nat.le_add_left_of_le (by decide), ⟨g0.1, g0.2.1, g0.2.2.1, g0.2.2.2.1, g0.2.2.2.2, by decide⟩, Nat.le_add_left_of_le (by decide), ⟨g0.1, g0.2.1, g0.2.2.1, g0.2.2.2.1, g0.2.2.2.2, by decide⟩⟩
  obtain ⟨g0, h⟩ := fgd h
  refine Wp.run 18 (P := [1 ≤ d + 1, (0 : Int) ≤ 0 ∧ (0 : Int) ≤ 0 ∧ (0 : Int) ≤ (M 113 8) ∧ (0 : Int) + (M 113 8) ≤ 200 ∧ (0 : Int) + (M 113 8) ≤ 200 ∧ 119 ≠ 24, 1 ≤ d + 1, (0 : Int) ≤ 0 ∧ (0 : Int) ≤ 0 ∧ (0 : Int) ≤ (M 113 8) ∧ (0 : Int) + (M 113 8) ≤ 200 ∧ (0 : Int) + (M 113 8) ≤ 200 ∧ 120 ≠ 25]) (f' := (d + 1, 77, 127, 0, 0, [some (fA 18), some (fA 113)], [])) (h' := (156, fjl L, (fcpy (fcpy (fcpy (fcpy (fcpy (fcpy (fcpy (fup M 18 8 (M 113 8)) 114 0 19 0 (M 113 8).toNat) 115 0 20 0 (M 113 8).toNat) 116 0 21 0 (M 113 8).toNat) 117 0 22 0 (M 113 8).toNat) 118 0 23 0 (M 113 8).toNat) 119 0 24 0 (M 113 8).toNat) 120 0 25 0 (M 113 8).toNat))) rfl ?_ ?_
  · exact ⟨Nat.le_add_left_of_le (by decide), ⟨g0.1, g0.2.1, g0.2.2.1, g0.2.2.2.1, g0.2.2.2.2, by decide⟩, Nat.le_add_left_of_le (by decide), ⟨g0.1, g0.2.1, g0.2.2.1, g0.2.2.2.1, g0.2.2.2.2, by decide⟩⟩
  obtain ⟨⟨g0, g1⟩, h⟩ := fgd h
  refine Wp.run 11 (P := [1 ≤ d + 1, (0 : Int) ≤ 0 ∧ (0 : Int) ≤ 0 ∧ (0 : Int) ≤ (fw ((M 113 8) * 12)) ∧ (0 : Int) + (fw ((M 113 8) * 12)) ≤ 2400 ∧ (0 : Int) + (fw ((M 113 8) * 12)) ≤ 2400 ∧ 121 ≠ 26]) (f' := (d + 1, 77, 147, 0, 0, [_, _], [])) (h' := (156, fjl L, (fcpy (fcpy (fcpy (fcpy (fcpy (fcpy (fcpy (fcpy (fup M 18 8 (M 113 8)) 114 0 19 0 (M 113 8).toNat) 115 0 20 0 (M 113 8).toNat) 116 0 21 0 (M 113 8).toNat) 117 0 22 0 (M 113 8).toNat) 118 0 23 0 (M 113 8).toNat) 119 0 24 0 (M 113 8).toNat) 120 0 25 0 (M 113 8).toNat) 121 0 26 0 (fw ((M 113 8) * 12)).toNat))) rfl ?_ ?_
  · rw [fw_id g0]; exact ⟨Nat.le_add_left_of_le (by decide), ⟨g1.1, g1.2.1, g1.2.2.1, g1.2.2.2.1, g1.2.2.2.2, by decide⟩⟩
  rw [fw_id g0]
  obtain rfl := Option.some.inj h
  exact Wp.done rfl (by decide) H
theorem s_X6_copyFrom_18_113_fr {M : fM} {r : (Unit × fM)} (h : s_X6_copyFrom_18_113 M = some r) : fSame s_X6_copyFrom_18_113_mods M r.2 := by
  unfold s_X6_copyFrom_18_113 at h
  replace h := (fgd h).2
  replace h := (fgd h).2
  replace h := (fgd h).2
  replace h := (fgd h).2
  replace h := (fgd h).2
  obtain rfl := Option.some.inj h
  exact fs_cpy (fs_cpy (fs_cpy (fs_cpy (fs_cpy (fs_cpy (fs_cpy (fs_cpy (fs_up fs_refl (.inr (by decide))) (by decide)) (by decide)) (by decide)) (by decide)) (by decide)) (by decide)) (by decide)) (by decide)
abbrev s_X11_restore_1_mods : List (Nat × Option Nat) := [(4, some 13), (4, some 14), (4, some 15), (4, some 16), (4, some 17), (5, none), (6, none), (7, none), (8, none), (9, none), (10, none), (11, none), (12, none), (13, none), (14, none), (15, none), (16, none), (17, none), (18, some 8), (19, none), (20, none), (21, none), (22, none), (23, none), (24, none), (25, none), (26, none)]
noncomputable def s_X11_restore_1 (M : fM) : Option (Int × fM) :=
  (s_X11_isWithin M 1 2).bind fun y2 =>
    if y2 = 0 then
      some (0, M)
    else
      if ¬ (M 75 1) = 0 then
        (s_X2_copyFrom_4_99 M).bind fun y29 =>
          (s_X6_copyFrom_18_113 y29.2).bind fun y42 =>
            some (1, y42.2)
      else
        some (0, M)
theorem s_X11_restore_1_ok {d L : Nat} {M : fM} {r : (Int × fM)} {Q : fO → fH → Prop} (h : s_X11_restore_1 M = some r) (H : Q (oI r.1) (156, fjl L, r.2)) : Wp (d + 2, 188, 0, 0, 0, [some (fA 0), some (fI 1)], []) (156, fjl L, M) Q := by
  unfold s_X11_restore_1 at h
  refine Wp.run 2 (f' := (d + 2, 188, 2, 0, 0, [some (fA 0), some (fI 1)], [fI 2, fI 1])) (h' := (156, fjl L, M)) rfl trivial ?_
  obtain ⟨y2, hy, h⟩ := fbd h
  refine Wp.call rfl (by decide) (s_X11_isWithin_ok (d := d + 1) hy ?_)
  show Wp (d + 2, 188, 5, 0, 0, [some (fA 0), some (fI 1)], [fI y2]) (156, fjl L, M) Q
  refine Wp.br rfl (fun (c : y2 = 0) => ?_) (fun (c : ¬ (y2 = 0)) => ?_)
  · replace h := fps c h
    refine Wp.run 1 (f' := (d + 2, 188, 18, 0, 0, [_, _], [fI 0])) (h' := (156, fjl L, M)) rfl trivial ?_
    obtain rfl := Option.some.inj h
    exact Wp.done rfl (by decide) H
  · replace h := fng c h
    refine Wp.run 4 (P := [(0 : Int) ≤ 1 ∧ (1 : Int) < 2]) (f' := (d + 2, 188, 14, 0, 0, [some (fA 0), some (fI 1)], [fI (M 75 1)])) (h' := (156, fjl L, M)) rfl ?_ ?_
    · exact (by decide : (0 : Int) ≤ 1 ∧ (1 : Int) < 2)
    refine Wp.br rfl (fun (c : ¬ (M 75 1) = 0) => ?_) (fun (c : ¬ (¬ (M 75 1) = 0)) => ?_)
    · replace h := fps c h
      refine Wp.run 6 (P := [(0 : Int) ≤ 1 ∧ (1 : Int) < 2]) (f' := (d + 2, 188, 29, 0, 0, [some (fA 0), some (fI 1)], [fA 99, fA 4])) (h' := (156, fjl L, M)) rfl ?_ ?_
      · exact (by decide : (0 : Int) ≤ 1 ∧ (1 : Int) < 2)
      obtain ⟨y29, hy, h⟩ := fbd h
      refine Wp.call rfl (by decide) (s_X2_copyFrom_4_99_ok (d := d + 0) hy ?_)
      show Wp (d + 2, 188, 32, 0, 0, [some (fA 0), some (fI 1)], []) (156, fjl L, y29.2) Q
      refine Wp.run 6 (P := [(0 : Int) ≤ 1 ∧ (1 : Int) < 2]) (f' := (d + 2, 188, 42, 0, 0, [_, _], [fA 113, fA 18])) (h' := (156, fjl L, y29.2)) rfl ?_ ?_
      · exact (by decide : (0 : Int) ≤ 1 ∧ (1 : Int) < 2)
      obtain ⟨y42, hy, h⟩ := fbd h
      refine Wp.call rfl (by decide) (s_X6_copyFrom_18_113_ok (d := d + 0) hy ?_)
      show Wp (d + 2, 188, 45, 0, 0, [_, _], []) (156, fjl L, y42.2) Q
      refine Wp.run 1 (f' := (d + 2, 188, 46, 0, 0, [_, _], [fI 1])) (h' := (156, fjl L, y42.2)) rfl trivial ?_
      obtain rfl := Option.some.inj h
      exact Wp.done rfl (by decide) H
    · replace h := fng c h
      refine Wp.run 1 (f' := (d + 2, 188, 18, 0, 0, [_, _], [fI 0])) (h' := (156, fjl L, M)) rfl trivial ?_
      obtain rfl := Option.some.inj h
      exact Wp.done rfl (by decide) H
theorem s_X11_restore_1_fr {M : fM} {r : (Int × fM)} (h : s_X11_restore_1 M = some r) : fSame s_X11_restore_1_mods M r.2 := by
  unfold s_X11_restore_1 at h
  obtain ⟨y2, hy, h⟩ := fbd h
  by_cases c : y2 = 0
  · replace h := fps c h
    obtain rfl := Option.some.inj h
    exact fs_refl
  · replace h := fng c h
    by_cases c : ¬ (M 75 1) = 0
    · replace h := fps c h
      obtain ⟨y29, hy, h⟩ := fbd h
      have k29 := fs_trans (l := s_X11_restore_1_mods) fs_refl (fs_mono (l := s_X2_copyFrom_4_99_mods) (by decide) (s_X2_copyFrom_4_99_fr hy))
      obtain ⟨y42, hy, h⟩ := fbd h
      have k42 := fs_trans (l := s_X11_restore_1_mods) k29 (fs_mono (l := s_X6_copyFrom_18_113_mods) (by decide) (s_X6_copyFrom_18_113_fr hy))
      obtain rfl := Option.some.inj h
      exact k42
    · replace h := fng c h
      obtain rfl := Option.some.inj h
      exact fs_refl
noncomputable def s_X11_restore (M : fM) (l1 : Int) : Option Int :=
  (s_X11_isWithin M l1 2).bind fun y2 =>
    if y2 = 0 then
      some 0
    else
      if (0 ≤ l1 ∧ l1 < 2) then
        if ¬ (M 75 (l1).toNat) = 0 then
          none
        else
          some 0
      else none
theorem s_X11_restore_ok {d L : Nat} {M : fM} {l1 : Int} {r : Int} {Q : fO → fH → Prop} (h : s_X11_restore M l1 = some r) (H : Q (oI r) (156, fjl L, M)) : Wp (d + 1, 188, 0, 0, 0, [some (fA 0), some (fI l1)], []) (156, fjl L, M) Q := by
  unfold s_X11_restore at h
  refine Wp.run 2 (f' := (d + 1, 188, 2, 0, 0, [some (fA 0), some (fI l1)], [fI 2, fI l1])) (h' := (156, fjl L, M)) rfl trivial ?_
  obtain ⟨y2, hy, h⟩ := fbd h
  refine Wp.call rfl (by decide) (s_X11_isWithin_ok (d := d + 0) hy ?_)
  show Wp (d + 1, 188, 5, 0, 0, [some (fA 0), some (fI l1)], [fI y2]) (156, fjl L, M) Q
  refine Wp.br rfl (fun (c : y2 = 0) => ?_) (fun (c : ¬ (y2 = 0)) => ?_)
  · replace h := fps c h
    refine Wp.run 1 (f' := (d + 1, 188, 18, 0, 0, [_, _], [fI 0])) (h' := (156, fjl L, M)) rfl trivial ?_
    obtain rfl := Option.some.inj h
    exact Wp.done rfl (by decide) H
  · replace h := fng c h
    obtain ⟨g0, h⟩ := fgd h
    refine Wp.run 4 (P := [0 ≤ l1 ∧ l1 < 2]) (f' := (d + 1, 188, 14, 0, 0, [some (fA 0), some (fI l1)], [fI (M 75 (l1).toNat)])) (h' := (156, fjl L, M)) rfl ?_ ?_
    · exact g0
    refine Wp.br rfl (fun (c : ¬ (M 75 (l1).toNat) = 0) => ?_) (fun (c : ¬ (¬ (M 75 (l1).toNat) = 0)) => ?_)
    · replace h := fps c h
      exact absurd h (by simp)
    · replace h := fng c h
      refine Wp.run 1 (f' := (d + 1, 188, 18, 0, 0, [_, _], [fI 0])) (h' := (156, fjl L, M)) rfl trivial ?_
      obtain rfl := Option.some.inj h
      exact Wp.done rfl (by decide) H
abbrev s_X12_restore_mods : List (Nat × Option Nat) := [(122, some 0), (122, some 10), (124, none), (125, none), (126, none)]
noncomputable def s_X12_restore_b27 (M : fM) (l1 l2 : Int) : Option ((Int × fM) ⊕ fM) :=
  if 645 ≤ l2 then
    some (.inr M)
  else
    if fin (645 * l1) ∧ fin ((645 * l1) + l2) ∧ (0 ≤ ((645 * l1) + l2) ∧ ((645 * l1) + l2) < 1290) ∧ (0 ≤ l2 ∧ l2 < 1290) then
      if fin (l2 + 1) then
        some (.inl ((l2 + 1), (fup M 124 (l2).toNat (M 150 ((645 * l1) + l2).toNat))))
      else none
    else none
theorem s_X12_restore_b27_ok {d L : Nat} {M : fM} {l1 l2 : Int} {r : ((Int × fM) ⊕ fM)} {Q : fO → fH → Prop} (h : s_X12_restore_b27 M l1 l2 = some r) (hC : ∀ (l2' : Int) (M' : fM), r = .inl (l2', M') → Wp (d + 1, 308, 27, 0, 0, [some (fA 122), some (fI l1), some (fI l2')], []) (156, fjl L, M') Q) (hE : ∀ (e : fM) (o2' : Option fV), r = .inr e → Wp (d + 1, 308, 58, 0, 0, [some (fA 122), some (fI l1), o2'], []) (156, fjl L, e) Q) : Wp (d + 1, 308, 27, 0, 0, [some (fA 122), some (fI l1), some (fI l2)], []) (156, fjl L, M) Q := by
  unfold s_X12_restore_b27 at h
  refine Wp.run 2 (f' := (d + 1, 308, 31, 0, 0, [some (fA 122), some (fI l1), some (fI l2)], [fI 645, fI l2])) (h' := (156, fjl L, M)) rfl trivial ?_
  refine Wp.br rfl (fun (c : 645 ≤ l2) => ?_) (fun (c : ¬ (645 ≤ l2)) => ?_)
  · replace h := fps c h
    exact hE _ _ (Option.some.inj h).symm
  · replace h := fng c h
    obtain ⟨⟨g0, g1, g2, g3⟩, h⟩ := fgd h
    refine Wp.run 12 (P := [0 ≤ (fw ((fw (645 * l1)) + l2)) ∧ (fw ((fw (645 * l1)) + l2)) < 1290, 0 ≤ l2 ∧ l2 < 1290]) (f' := (d + 1, 308, 52, 0, 0, [some (fA 122), some (fI l1), some (fI l2)], [])) (h' := (156, fjl L, (fup M 124 (l2).toNat (M 150 (fw ((fw (645 * l1)) + l2)).toNat)))) rfl ?_ ?_
    · rw [fw_id g0, fw_id g1]; exact ⟨g2, g3⟩
    rw [fw_id g0, fw_id g1]
    obtain ⟨g0, h⟩ := fgd h
    refine Wp.run 2 (f' := (d + 1, 308, 27, 0, 0, [some (fA 122), some (fI l1), some (fI (fw (l2 + 1)))], [])) (h' := (156, fjl L, (fup M 124 (l2).toNat (M 150 ((645 * l1) + l2).toNat)))) rfl trivial ?_
    rw [fw_id g0]
    exact hC _ _ (Option.some.inj h).symm
theorem s_X12_restore_b27_fr {M : fM} {l1 l2 : Int} {r : ((Int × fM) ⊕ fM)} (h : s_X12_restore_b27 M l1 l2 = some r) : fSame s_X12_restore_mods M (Sum.elim (fun s => s.2) (fun e => e) r) := by
  unfold s_X12_restore_b27 at h
  by_cases c : 645 ≤ l2
  · replace h := fps c h
    obtain rfl := Option.some.inj h
    exact fs_refl
  · replace h := fng c h
    replace h := (fgd h).2
    replace h := (fgd h).2
    obtain rfl := Option.some.inj h
    exact fs_up fs_refl (.inl (by decide))
noncomputable def s_X12_restore_l27 (l1 : Int) (s : (Int × fM)) : Option fM := fLp (fun s => s_X12_restore_b27 s.2 l1 s.1) s
theorem s_X12_restore_l27_ok {d L : Nat} {M : fM} {l1 l2 : Int} {r : fM} {Q : fO → fH → Prop} (h : s_X12_restore_l27 l1 (l2, M) = some r) (hE : ∀ (e : fM) (o2' : Option fV), r = e → Wp (d + 1, 308, 58, 0, 0, [some (fA 122), some (fI l1), o2'], []) (156, fjl L, e) Q) : Wp (d + 1, 308, 27, 0, 0, [some (fA 122), some (fI l1), some (fI l2)], []) (156, fjl L, M) Q := by
  refine fLp_wp (W := fun s => Wp (d + 1, 308, 27, 0, 0, [some (fA 122), some (fI l1), some (fI s.1)], []) (156, fjl L, s.2) Q) (e := r) ?_ h
  intro s r1 h hC hX
  refine s_X12_restore_b27_ok (d := d) h (fun a0 a1 e1 => ?_) (fun e u0 e1 => hE e u0 (hX _ e1).symm)
  exact hC _ e1
theorem s_X12_restore_l27_fr {M : fM} {l1 l2 : Int} {r : fM} (h : s_X12_restore_l27 l1 (l2, M) = some r) : fSame s_X12_restore_mods M ((fun e => e) r) := by
  refine fLp_inv (I := fun s => fSame s_X12_restore_mods M s.2) (J := fun r => fSame s_X12_restore_mods M ((fun e => e) r)) h fs_refl (fun s s1 hs hb => ?_) (fun s e hs hb => ?_)
  · exact fs_trans hs (s_X12_restore_b27_fr hb)
  · exact fs_trans hs (s_X12_restore_b27_fr hb)
noncomputable def s_X12_restore_b60 (M : fM) (l1 l2 : Int) : Option ((Int × fM) ⊕ fM) :=
  if 28 ≤ l2 then
    some (.inr M)
  else
    if fin (28 * l1) ∧ fin ((28 * l1) + l2) ∧ (0 ≤ ((28 * l1) + l2) ∧ ((28 * l1) + l2) < 56) ∧ (0 ≤ l2 ∧ l2 < 56) then
      if fin (l2 + 1) then
        some (.inl ((l2 + 1), (fup M 126 (l2).toNat (M 153 ((28 * l1) + l2).toNat))))
      else none
    else none
theorem s_X12_restore_b60_ok {d L : Nat} {M : fM} {l1 l2 : Int} {r : ((Int × fM) ⊕ fM)} {Q : fO → fH → Prop} (h : s_X12_restore_b60 M l1 l2 = some r) (hC : ∀ (l2' : Int) (M' : fM), r = .inl (l2', M') → Wp (d + 1, 308, 60, 0, 0, [some (fA 122), some (fI l1), some (fI l2')], []) (156, fjl L, M') Q) (hE : ∀ (e : fM) (o2' : Option fV), r = .inr e → Wp (d + 1, 308, 89, 0, 0, [some (fA 122), some (fI l1), o2'], []) (156, fjl L, e) Q) : Wp (d + 1, 308, 60, 0, 0, [some (fA 122), some (fI l1), some (fI l2)], []) (156, fjl L, M) Q := by
  unfold s_X12_restore_b60 at h
  refine Wp.run 2 (f' := (d + 1, 308, 63, 0, 0, [some (fA 122), some (fI l1), some (fI l2)], [fI 28, fI l2])) (h' := (156, fjl L, M)) rfl trivial ?_
  refine Wp.br rfl (fun (c : 28 ≤ l2) => ?_) (fun (c : ¬ (28 ≤ l2)) => ?_)
  · replace h := fps c h
    exact hE _ _ (Option.some.inj h).symm
  · replace h := fng c h
    obtain ⟨⟨g0, g1, g2, g3⟩, h⟩ := fgd h
    refine Wp.run 12 (P := [0 ≤ (fw ((fw (28 * l1)) + l2)) ∧ (fw ((fw (28 * l1)) + l2)) < 56, 0 ≤ l2 ∧ l2 < 56]) (f' := (d + 1, 308, 83, 0, 0, [some (fA 122), some (fI l1), some (fI l2)], [])) (h' := (156, fjl L, (fup M 126 (l2).toNat (M 153 (fw ((fw (28 * l1)) + l2)).toNat)))) rfl ?_ ?_
    · rw [fw_id g0, fw_id g1]; exact ⟨g2, g3⟩
    rw [fw_id g0, fw_id g1]
    obtain ⟨g0, h⟩ := fgd h
    refine Wp.run 2 (f' := (d + 1, 308, 60, 0, 0, [some (fA 122), some (fI l1), some (fI (fw (l2 + 1)))], [])) (h' := (156, fjl L, (fup M 126 (l2).toNat (M 153 ((28 * l1) + l2).toNat)))) rfl trivial ?_
    rw [fw_id g0]
    exact hC _ _ (Option.some.inj h).symm
theorem s_X12_restore_b60_fr {M : fM} {l1 l2 : Int} {r : ((Int × fM) ⊕ fM)} (h : s_X12_restore_b60 M l1 l2 = some r) : fSame s_X12_restore_mods M (Sum.elim (fun s => s.2) (fun e => e) r) := by
  unfold s_X12_restore_b60 at h
  by_cases c : 28 ≤ l2
  · replace h := fps c h
    obtain rfl := Option.some.inj h
    exact fs_refl
  · replace h := fng c h
    replace h := (fgd h).2
    replace h := (fgd h).2
    obtain rfl := Option.some.inj h
    exact fs_up fs_refl (.inl (by decide))
noncomputable def s_X12_restore_l60 (l1 : Int) (s : (Int × fM)) : Option fM := fLp (fun s => s_X12_restore_b60 s.2 l1 s.1) s
theorem s_X12_restore_l60_ok {d L : Nat} {M : fM} {l1 l2 : Int} {r : fM} {Q : fO → fH → Prop} (h : s_X12_restore_l60 l1 (l2, M) = some r) (hE : ∀ (e : fM) (o2' : Option fV), r = e → Wp (d + 1, 308, 89, 0, 0, [some (fA 122), some (fI l1), o2'], []) (156, fjl L, e) Q) : Wp (d + 1, 308, 60, 0, 0, [some (fA 122), some (fI l1), some (fI l2)], []) (156, fjl L, M) Q := by
  refine fLp_wp (W := fun s => Wp (d + 1, 308, 60, 0, 0, [some (fA 122), some (fI l1), some (fI s.1)], []) (156, fjl L, s.2) Q) (e := r) ?_ h
  intro s r1 h hC hX
  refine s_X12_restore_b60_ok (d := d) h (fun a0 a1 e1 => ?_) (fun e u0 e1 => hE e u0 (hX _ e1).symm)
  exact hC _ e1
theorem s_X12_restore_l60_fr {M : fM} {l1 l2 : Int} {r : fM} (h : s_X12_restore_l60 l1 (l2, M) = some r) : fSame s_X12_restore_mods M ((fun e => e) r) := by
  refine fLp_inv (I := fun s => fSame s_X12_restore_mods M s.2) (J := fun r => fSame s_X12_restore_mods M ((fun e => e) r)) h fs_refl (fun s s1 hs hb => ?_) (fun s e hs hb => ?_)
  · exact fs_trans hs (s_X12_restore_b60_fr hb)
  · exact fs_trans hs (s_X12_restore_b60_fr hb)
noncomputable def s_X12_restore_b101 (M : fM) (l1 l2 : Int) : Option ((Int × fM) ⊕ fM) :=
  if fin (19 * (M 122 10)) then
    if (19 * (M 122 10)) ≤ l2 then
      some (.inr M)
    else
      if fin (3800 * l1) ∧ fin ((3800 * l1) + l2) ∧ (0 ≤ ((3800 * l1) + l2) ∧ ((3800 * l1) + l2) < 7600) ∧ (0 ≤ l2 ∧ l2 < 3800) then
        if fin (l2 + 1) then
          some (.inl ((l2 + 1), (fup M 125 (l2).toNat (M 151 ((3800 * l1) + l2).toNat))))
        else none
      else none
  else none
theorem s_X12_restore_b101_ok {d L : Nat} {M : fM} {l1 l2 : Int} {r : ((Int × fM) ⊕ fM)} {Q : fO → fH → Prop} (h : s_X12_restore_b101 M l1 l2 = some r) (hC : ∀ (l2' : Int) (M' : fM), r = .inl (l2', M') → Wp (d + 1, 308, 101, 0, 0, [some (fA 122), some (fI l1), some (fI l2')], []) (156, fjl L, M') Q) (hE : ∀ (e : fM) (o0' o1' o2' : Option fV), r = .inr e → Wp (d + 1, 308, 136, 0, 0, [o0', o1', o2'], []) (156, fjl L, e) Q) : Wp (d + 1, 308, 101, 0, 0, [some (fA 122), some (fI l1), some (fI l2)], []) (156, fjl L, M) Q := by
  unfold s_X12_restore_b101 at h
  obtain ⟨g0, h⟩ := fgd h
  refine Wp.run 5 (f' := (d + 1, 308, 109, 0, 0, [some (fA 122), some (fI l1), some (fI l2)], [fI (fw (19 * (M 122 10))), fI l2])) (h' := (156, fjl L, M)) rfl trivial ?_
  rw [fw_id g0]
  refine Wp.br rfl (fun (c : (19 * (M 122 10)) ≤ l2) => ?_) (fun (c : ¬ ((19 * (M 122 10)) ≤ l2)) => ?_)
  · replace h := fps c h
    exact hE _ _ _ _ (Option.some.inj h).symm
  · replace h := fng c h
    obtain ⟨⟨g0, g1, g2, g3⟩, h⟩ := fgd h
    refine Wp.run 12 (P := [0 ≤ (fw ((fw (3800 * l1)) + l2)) ∧ (fw ((fw (3800 * l1)) + l2)) < 7600, 0 ≤ l2 ∧ l2 < 3800]) (f' := (d + 1, 308, 130, 0, 0, [some (fA 122), some (fI l1), some (fI l2)], [])) (h' := (156, fjl L, (fup M 125 (l2).toNat (M 151 (fw ((fw (3800 * l1)) + l2)).toNat)))) rfl ?_ ?_
    · rw [fw_id g0, fw_id g1]; exact ⟨g2, g3⟩
    rw [fw_id g0, fw_id g1]
    obtain ⟨g0, h⟩ := fgd h
    refine Wp.run 2 (f' := (d + 1, 308, 101, 0, 0, [some (fA 122), some (fI l1), some (fI (fw (l2 + 1)))], [])) (h' := (156, fjl L, (fup M 125 (l2).toNat (M 151 ((3800 * l1) + l2).toNat)))) rfl trivial ?_
    rw [fw_id g0]
    exact hC _ _ (Option.some.inj h).symm
theorem s_X12_restore_b101_fr {M : fM} {l1 l2 : Int} {r : ((Int × fM) ⊕ fM)} (h : s_X12_restore_b101 M l1 l2 = some r) : fSame s_X12_restore_mods M (Sum.elim (fun s => s.2) (fun e => e) r) := by
  unfold s_X12_restore_b101 at h
  replace h := (fgd h).2
  by_cases c : (19 * (M 122 10)) ≤ l2
  · replace h := fps c h
    obtain rfl := Option.some.inj h
    exact fs_refl
  · replace h := fng c h
    replace h := (fgd h).2
    replace h := (fgd h).2
    obtain rfl := Option.some.inj h
    exact fs_up fs_refl (.inl (by decide))
noncomputable def s_X12_restore_l101 (l1 : Int) (s : (Int × fM)) : Option fM := fLp (fun s => s_X12_restore_b101 s.2 l1 s.1) s
theorem s_X12_restore_l101_ok {d L : Nat} {M : fM} {l1 l2 : Int} {r : fM} {Q : fO → fH → Prop} (h : s_X12_restore_l101 l1 (l2, M) = some r) (hE : ∀ (e : fM) (o0' o1' o2' : Option fV), r = e → Wp (d + 1, 308, 136, 0, 0, [o0', o1', o2'], []) (156, fjl L, e) Q) : Wp (d + 1, 308, 101, 0, 0, [some (fA 122), some (fI l1), some (fI l2)], []) (156, fjl L, M) Q := by
  refine fLp_wp (W := fun s => Wp (d + 1, 308, 101, 0, 0, [some (fA 122), some (fI l1), some (fI s.1)], []) (156, fjl L, s.2) Q) (e := r) ?_ h
  intro s r1 h hC hX
  refine s_X12_restore_b101_ok (d := d) h (fun a0 a1 e1 => ?_) (fun e u0 u1 u2 e1 => hE e u0 u1 u2 (hX _ e1).symm)
  exact hC _ e1
theorem s_X12_restore_l101_fr {M : fM} {l1 l2 : Int} {r : fM} (h : s_X12_restore_l101 l1 (l2, M) = some r) : fSame s_X12_restore_mods M ((fun e => e) r) := by
  refine fLp_inv (I := fun s => fSame s_X12_restore_mods M s.2) (J := fun r => fSame s_X12_restore_mods M ((fun e => e) r)) h fs_refl (fun s s1 hs hb => ?_) (fun s e hs hb => ?_)
  · exact fs_trans hs (s_X12_restore_b101_fr hb)
  · exact fs_trans hs (s_X12_restore_b101_fr hb)
noncomputable def s_X12_restore (M : fM) (l1 : Int) : Option (Int × fM) :=
  (s_X12_isIn (fup M 122 0 0) l1 0 1).bind fun y8 =>
    if y8 = 0 then
      some (0, (fup M 122 0 0))
    else
      if (0 ≤ l1 ∧ l1 < 2) then
        if ¬ (M 154 (l1).toNat) = 0 then
          (s_X12_restore_l27 l1 (0, (fup M 122 0 0))).bind fun e27 =>
            (s_X12_restore_l60 l1 (0, e27)).bind fun e60 =>
              if (0 ≤ l1 ∧ l1 < 2) then
                (s_X12_restore_l101 l1 (0, (fup e60 122 10 (e60 152 (l1).toNat)))).bind fun e101 =>
                  some (1, e101)
              else none
        else
          some (0, (fup M 122 0 0))
      else none
theorem s_X12_restore_ok {d L : Nat} {M : fM} {l1 : Int} {r : (Int × fM)} {Q : fO → fH → Prop} (h : s_X12_restore M l1 = some r) (H : Q (oI r.1) (156, fjl L, r.2)) : Wp (d + 1, 308, 0, 0, 0, [some (fA 122), some (fI l1), none], []) (156, fjl L, M) Q := by
  unfold s_X12_restore at h
  refine Wp.run 6 (f' := (d + 1, 308, 8, 0, 0, [some (fA 122), some (fI l1), _], [fI 1, fI 0, fI l1])) (h' := (156, fjl L, (fup M 122 0 0))) rfl trivial ?_
  obtain ⟨y8, hy, h⟩ := fbd h
  refine Wp.call rfl (by decide) (s_X12_isIn_ok (d := d + 0) hy ?_)
  show Wp (d + 1, 308, 11, 0, 0, [some (fA 122), some (fI l1), _], [fI y8]) (156, fjl L, (fup M 122 0 0)) Q
  refine Wp.br rfl (fun (c : y8 = 0) => ?_) (fun (c : ¬ (y8 = 0)) => ?_)
  · replace h := fps c h
    refine Wp.run 1 (f' := (d + 1, 308, 24, 0, 0, [_, _, _], [fI 0])) (h' := (156, fjl L, (fup M 122 0 0))) rfl trivial ?_
    obtain rfl := Option.some.inj h
    exact Wp.done rfl (by decide) H
  · replace h := fng c h
    obtain ⟨g0, h⟩ := fgd h
    refine Wp.run 4 (P := [0 ≤ l1 ∧ l1 < 2]) (f' := (d + 1, 308, 20, 0, 0, [some (fA 122), some (fI l1), _], [fI (M 154 (l1).toNat)])) (h' := (156, fjl L, (fup M 122 0 0))) rfl ?_ ?_
    · exact g0
    refine Wp.br rfl (fun (c : ¬ (M 154 (l1).toNat) = 0) => ?_) (fun (c : ¬ (¬ (M 154 (l1).toNat) = 0)) => ?_)
    · replace h := fps c h
      refine Wp.run 2 (f' := (d + 1, 308, 27, 0, 0, [some (fA 122), some (fI l1), some (fI 0)], [])) (h' := (156, fjl L, (fup M 122 0 0))) rfl trivial ?_
      obtain ⟨e27, hy, h⟩ := fbd h
      refine s_X12_restore_l27_ok hy (fun x u2 ex => ?_)
      cases ex
      show Wp (d + 1, 308, 58, 0, 0, [some (fA 122), some (fI l1), u2], []) (156, fjl L, e27) Q
      refine Wp.run 2 (f' := (d + 1, 308, 60, 0, 0, [some (fA 122), some (fI l1), some (fI 0)], [])) (h' := (156, fjl L, e27)) rfl trivial ?_
      obtain ⟨e60, hy, h⟩ := fbd h
      refine s_X12_restore_l60_ok hy (fun x u2 ex => ?_)
      cases ex
      show Wp (d + 1, 308, 89, 0, 0, [some (fA 122), some (fI l1), u2], []) (156, fjl L, e60) Q
      obtain ⟨g0, h⟩ := fgd h
      refine Wp.run 8 (P := [0 ≤ l1 ∧ l1 < 2]) (f' := (d + 1, 308, 101, 0, 0, [some (fA 122), some (fI l1), some (fI 0)], [])) (h' := (156, fjl L, (fup e60 122 10 (e60 152 (l1).toNat)))) rfl ?_ ?_
      · exact g0
      obtain ⟨e101, hy, h⟩ := fbd h
      refine s_X12_restore_l101_ok hy (fun x u0 u1 u2 ex => ?_)
      cases ex
      show Wp (d + 1, 308, 136, 0, 0, [u0, u1, u2], []) (156, fjl L, e101) Q
      refine Wp.run 1 (f' := (d + 1, 308, 137, 0, 0, [_, _, _], [fI 1])) (h' := (156, fjl L, e101)) rfl trivial ?_
      obtain rfl := Option.some.inj h
      exact Wp.done rfl (by decide) H
    · replace h := fng c h
      refine Wp.run 1 (f' := (d + 1, 308, 24, 0, 0, [_, _, _], [fI 0])) (h' := (156, fjl L, (fup M 122 0 0))) rfl trivial ?_
      obtain rfl := Option.some.inj h
      exact Wp.done rfl (by decide) H
theorem s_X12_restore_fr {M : fM} {l1 : Int} {r : (Int × fM)} (h : s_X12_restore M l1 = some r) : fSame s_X12_restore_mods M r.2 := by
  unfold s_X12_restore at h
  obtain ⟨y8, hy, h⟩ := fbd h
  by_cases c : y8 = 0
  · replace h := fps c h
    obtain rfl := Option.some.inj h
    exact fs_up fs_refl (.inr (by decide))
  · replace h := fng c h
    replace h := (fgd h).2
    by_cases c : ¬ (M 154 (l1).toNat) = 0
    · replace h := fps c h
      obtain ⟨e27, hy, h⟩ := fbd h
      have k27 := fs_trans (l := s_X12_restore_mods) (fs_up fs_refl (.inr (by decide))) (s_X12_restore_l27_fr hy)
      obtain ⟨e60, hy, h⟩ := fbd h
      have k60 := fs_trans (l := s_X12_restore_mods) k27 (s_X12_restore_l60_fr hy)
      replace h := (fgd h).2
      obtain ⟨e101, hy, h⟩ := fbd h
      have k101 := fs_trans (l := s_X12_restore_mods) (fs_up k60 (.inr (by decide))) (s_X12_restore_l101_fr hy)
      obtain rfl := Option.some.inj h
      exact k101
    · replace h := fng c h
      obtain rfl := Option.some.inj h
      exact fs_up fs_refl (.inr (by decide))
noncomputable def s_X6_concertsTold_18_b4 (M : fM) (l1 l2 : Int) : Option ((Int × Int) ⊕ Int) :=
  if (M 18 8) ≤ l2 then
    some (.inr l1)
  else
    if (0 ≤ l2 ∧ l2 < 200) then
      if ¬ (M 19 (l2).toNat) = 5 then
        if fin (l2 + 1) then
          some (.inl (l1, (l2 + 1)))
        else none
      else
        if fin (l1 + 1) ∧ fin (l2 + 1) then
          some (.inl ((l1 + 1), (l2 + 1)))
        else none
    else none
theorem s_X6_concertsTold_18_b4_ok {d L : Nat} {M : fM} {l1 l2 : Int} {r : ((Int × Int) ⊕ Int)} {Q : fO → fH → Prop} (h : s_X6_concertsTold_18_b4 M l1 l2 = some r) (hC : ∀ (l1' l2' : Int), r = .inl (l1', l2') → Wp (d + 0, 85, 4, 0, 0, [some (fA 18), some (fI l1'), some (fI l2')], []) (156, fjl L, M) Q) (hE : ∀ (e : Int) (o0' o2' : Option fV), r = .inr e → Wp (d + 0, 85, 31, 0, 0, [o0', some (fI e), o2'], []) (156, fjl L, M) Q) : Wp (d + 0, 85, 4, 0, 0, [some (fA 18), some (fI l1), some (fI l2)], []) (156, fjl L, M) Q := by
  unfold s_X6_concertsTold_18_b4 at h
  refine Wp.run 3 (f' := (d + 0, 85, 9, 0, 0, [some (fA 18), some (fI l1), some (fI l2)], [fI (M 18 8), fI l2])) (h' := (156, fjl L, M)) rfl trivial ?_
  refine Wp.br rfl (fun (c : (M 18 8) ≤ l2) => ?_) (fun (c : ¬ ((M 18 8) ≤ l2)) => ?_)
  · replace h := fps c h
    exact hE _ _ _ (Option.some.inj h).symm
  · replace h := fng c h
    obtain ⟨g0, h⟩ := fgd h
    refine Wp.run 5 (P := [0 ≤ l2 ∧ l2 < 200]) (f' := (d + 0, 85, 19, 0, 0, [some (fA 18), some (fI l1), some (fI l2)], [fI 5, fI (M 19 (l2).toNat)])) (h' := (156, fjl L, M)) rfl ?_ ?_
    · exact g0
    refine Wp.br rfl (fun (c : ¬ (M 19 (l2).toNat) = 5) => ?_) (fun (c : ¬ (¬ (M 19 (l2).toNat) = 5)) => ?_)
    · replace h := fps c h
      obtain ⟨g0, h⟩ := fgd h
      refine Wp.run 2 (f' := (d + 0, 85, 4, 0, 0, [some (fA 18), some (fI l1), some (fI (fw (l2 + 1)))], [])) (h' := (156, fjl L, M)) rfl trivial ?_
      rw [fw_id g0]
      exact hC _ _ (Option.some.inj h).symm
    · replace h := fng c h
      obtain ⟨⟨g0, g1⟩, h⟩ := fgd h
      refine Wp.run 3 (f' := (d + 0, 85, 4, 0, 0, [some (fA 18), some (fI (fw (l1 + 1))), some (fI (fw (l2 + 1)))], [])) (h' := (156, fjl L, M)) rfl trivial ?_
      rw [fw_id g0, fw_id g1]
      exact hC _ _ (Option.some.inj h).symm
noncomputable def s_X6_concertsTold_18_l4 (M : fM) (s : (Int × Int)) : Option Int := fLp (fun s => s_X6_concertsTold_18_b4 M s.1 s.2) s
theorem s_X6_concertsTold_18_l4_ok {d L : Nat} {M : fM} {l1 l2 : Int} {r : Int} {Q : fO → fH → Prop} (h : s_X6_concertsTold_18_l4 M (l1, l2) = some r) (hE : ∀ (e : Int) (o0' o2' : Option fV), r = e → Wp (d + 0, 85, 31, 0, 0, [o0', some (fI e), o2'], []) (156, fjl L, M) Q) : Wp (d + 0, 85, 4, 0, 0, [some (fA 18), some (fI l1), some (fI l2)], []) (156, fjl L, M) Q := by
  refine fLp_wp (W := fun s => Wp (d + 0, 85, 4, 0, 0, [some (fA 18), some (fI s.1), some (fI s.2)], []) (156, fjl L, M) Q) (e := r) ?_ h
  intro s r1 h hC hX
  refine s_X6_concertsTold_18_b4_ok (d := d) h (fun a0 a1 e1 => ?_) (fun e u0 u1 e1 => hE e u0 u1 (hX _ e1).symm)
  exact hC _ e1
noncomputable def s_X6_concertsTold_18 (M : fM) : Option Int :=
  (s_X6_concertsTold_18_l4 M (0, 0)).bind fun e4 =>
    some e4
theorem s_X6_concertsTold_18_ok {d L : Nat} {M : fM} {r : Int} {Q : fO → fH → Prop} (h : s_X6_concertsTold_18 M = some r) (H : Q (oI r) (156, fjl L, M)) : Wp (d + 0, 85, 0, 0, 0, [some (fA 18), none, none], []) (156, fjl L, M) Q := by
  unfold s_X6_concertsTold_18 at h
  refine Wp.run 4 (f' := (d + 0, 85, 4, 0, 0, [some (fA 18), some (fI 0), some (fI 0)], [])) (h' := (156, fjl L, M)) rfl trivial ?_
  obtain ⟨e4, hy, h⟩ := fbd h
  refine s_X6_concertsTold_18_l4_ok hy (fun x u0 u2 ex => ?_)
  cases ex
  show Wp (d + 0, 85, 31, 0, 0, [u0, some (fI e4), u2], []) (156, fjl L, M) Q
  refine Wp.run 1 (f' := (d + 0, 85, 32, 0, 0, [_, _, _], [fI e4])) (h' := (156, fjl L, M)) rfl trivial ?_
  obtain rfl := Option.some.inj h
  exact Wp.done rfl (by decide) H
noncomputable def s_X11_count (M : fM) (l1 : Int) : Option Int :=
  if l1 = 0 then
    some (M 4 13)
  else
    if l1 = 1 then
      some (M 4 14)
    else
      if l1 = 2 then
        some (M 4 15)
      else
        if l1 = 3 then
          some (M 18 8)
        else
          if l1 = 4 then
            some (M 1 2)
          else
            if l1 = 5 then
              (s_X6_concertsTold_18 M).bind fun y88 =>
                some y88
            else
              if l1 = 6 then
                some (M 4 16)
              else
                some (-1)
theorem s_X11_count_ok {d L : Nat} {M : fM} {l1 : Int} {r : Int} {Q : fO → fH → Prop} (h : s_X11_count M l1 = some r) (H : Q (oI r) (156, fjl L, M)) : Wp (d + 1, 189, 0, 0, 0, [some (fA 0), some (fI l1)], []) (156, fjl L, M) Q := by
  unfold s_X11_count at h
  refine Wp.run 1 (f' := (d + 1, 189, 1, 0, 0, [some (fA 0), _], [fI l1])) (h' := (156, fjl L, M)) rfl trivial ?_
  refine Wp.sw rfl ?_
  refine ⟨fun (c : l1 = 0) => ?_, fun (c : ¬ (l1 = 0)) => ?_⟩
  · replace h := fps c h
    show Wp (d + 1, 189, 44, 0, 0, [some (fA 0), _], []) (156, fjl L, M) Q
    refine Wp.run 3 (f' := (d + 1, 189, 51, 0, 0, [_, _], [fI (M 4 13)])) (h' := (156, fjl L, M)) rfl trivial ?_
    obtain rfl := Option.some.inj h
    exact Wp.done rfl (by decide) H
  · replace h := fng c h
    refine ⟨fun (c : l1 = 1) => ?_, fun (c : ¬ (l1 = 1)) => ?_⟩
    · replace h := fps c h
      show Wp (d + 1, 189, 52, 0, 0, [some (fA 0), _], []) (156, fjl L, M) Q
      refine Wp.run 3 (f' := (d + 1, 189, 59, 0, 0, [_, _], [fI (M 4 14)])) (h' := (156, fjl L, M)) rfl trivial ?_
      obtain rfl := Option.some.inj h
      exact Wp.done rfl (by decide) H
    · replace h := fng c h
      refine ⟨fun (c : l1 = 2) => ?_, fun (c : ¬ (l1 = 2)) => ?_⟩
      · replace h := fps c h
        show Wp (d + 1, 189, 60, 0, 0, [some (fA 0), _], []) (156, fjl L, M) Q
        refine Wp.run 3 (f' := (d + 1, 189, 67, 0, 0, [_, _], [fI (M 4 15)])) (h' := (156, fjl L, M)) rfl trivial ?_
        obtain rfl := Option.some.inj h
        exact Wp.done rfl (by decide) H
      · replace h := fng c h
        refine ⟨fun (c : l1 = 3) => ?_, fun (c : ¬ (l1 = 3)) => ?_⟩
        · replace h := fps c h
          show Wp (d + 1, 189, 68, 0, 0, [some (fA 0), _], []) (156, fjl L, M) Q
          refine Wp.run 3 (f' := (d + 1, 189, 75, 0, 0, [_, _], [fI (M 18 8)])) (h' := (156, fjl L, M)) rfl trivial ?_
          obtain rfl := Option.some.inj h
          exact Wp.done rfl (by decide) H
        · replace h := fng c h
          refine ⟨fun (c : l1 = 4) => ?_, fun (c : ¬ (l1 = 4)) => ?_⟩
          · replace h := fps c h
            show Wp (d + 1, 189, 76, 0, 0, [some (fA 0), _], []) (156, fjl L, M) Q
            refine Wp.run 3 (f' := (d + 1, 189, 83, 0, 0, [_, _], [fI (M 1 2)])) (h' := (156, fjl L, M)) rfl trivial ?_
            obtain rfl := Option.some.inj h
            exact Wp.done rfl (by decide) H
          · replace h := fng c h
            refine ⟨fun (c : l1 = 5) => ?_, fun (c : ¬ (l1 = 5)) => ?_⟩
            · replace h := fps c h
              show Wp (d + 1, 189, 84, 0, 0, [some (fA 0), _], []) (156, fjl L, M) Q
              refine Wp.run 2 (f' := (d + 1, 189, 88, 0, 0, [_, _], [fA 18])) (h' := (156, fjl L, M)) rfl trivial ?_
              obtain ⟨y88, hy, h⟩ := fbd h
              refine Wp.call rfl (by decide) (s_X6_concertsTold_18_ok (d := d + 0) hy ?_)
              show Wp (d + 1, 189, 91, 0, 0, [_, _], [fI y88]) (156, fjl L, M) Q
              obtain rfl := Option.some.inj h
              exact Wp.done rfl (by decide) H
            · replace h := fng c h
              refine ⟨fun (c : l1 = 6) => ?_, fun (c : ¬ (l1 = 6)) => ?_⟩
              · replace h := fps c h
                show Wp (d + 1, 189, 92, 0, 0, [some (fA 0), _], []) (156, fjl L, M) Q
                refine Wp.run 3 (f' := (d + 1, 189, 99, 0, 0, [_, _], [fI (M 4 16)])) (h' := (156, fjl L, M)) rfl trivial ?_
                obtain rfl := Option.some.inj h
                exact Wp.done rfl (by decide) H
              · replace h := fng c h
                show Wp (d + 1, 189, 100, 0, 0, [_, _], []) (156, fjl L, M) Q
                refine Wp.run 1 (f' := (d + 1, 189, 101, 0, 0, [_, _], [fI (-1)])) (h' := (156, fjl L, M)) rfl trivial ?_
                obtain rfl := Option.some.inj h
                exact Wp.done rfl (by decide) H
abbrev s_X12_count_mods : List (Nat × Option Nat) := [(122, some 0)]
noncomputable def s_X12_count_b9 (M : fM) (l1 l2 l3 : Int) : Option ((Int × Int) ⊕ Int) :=
  if (M 122 10) ≤ l3 then
    some (.inr l2)
  else
    if fin (19 * l3) ∧ (0 ≤ (19 * l3) ∧ (19 * l3) < 3800) then
      if ¬ (M 125 (19 * l3).toNat) = 5 then
        if fin (l2 + 0) ∧ fin (l3 + 1) then
          some (.inl ((l2 + 0), (l3 + 1)))
        else none
      else
        if fin (l2 + 1) ∧ fin (l3 + 1) then
          some (.inl ((l2 + 1), (l3 + 1)))
        else none
    else none
theorem s_X12_count_b9_ok {d L : Nat} {M : fM} {l1 l2 l3 : Int} {r : ((Int × Int) ⊕ Int)} {Q : fO → fH → Prop} (h : s_X12_count_b9 M l1 l2 l3 = some r) (hC : ∀ (l2' l3' : Int), r = .inl (l2', l3') → Wp (d + 0, 309, 9, 0, 0, [some (fA 122), some (fI l1), some (fI l2'), some (fI l3')], []) (156, fjl L, M) Q) (hE : ∀ (e : Int) (o3' : Option fV), r = .inr e → Wp (d + 0, 309, 44, 0, 0, [some (fA 122), some (fI l1), some (fI e), o3'], []) (156, fjl L, M) Q) : Wp (d + 0, 309, 9, 0, 0, [some (fA 122), some (fI l1), some (fI l2), some (fI l3)], []) (156, fjl L, M) Q := by
  unfold s_X12_count_b9 at h
  refine Wp.run 3 (f' := (d + 0, 309, 14, 0, 0, [some (fA 122), some (fI l1), some (fI l2), some (fI l3)], [fI (M 122 10), fI l3])) (h' := (156, fjl L, M)) rfl trivial ?_
  refine Wp.br rfl (fun (c : (M 122 10) ≤ l3) => ?_) (fun (c : ¬ ((M 122 10) ≤ l3)) => ?_)
  · replace h := fps c h
    exact hE _ _ (Option.some.inj h).symm
  · replace h := fng c h
    obtain ⟨⟨g0, g1⟩, h⟩ := fgd h
    refine Wp.run 8 (P := [0 ≤ (fw (19 * l3)) ∧ (fw (19 * l3)) < 3800]) (f' := (d + 0, 309, 28, 0, 0, [some (fA 122), some (fI l1), _, some (fI l3)], [fI 5, fI (M 125 (fw (19 * l3)).toNat), fI l2])) (h' := (156, fjl L, M)) rfl ?_ ?_
    · rw [fw_id g0]; exact g1
    rw [fw_id g0]
    refine Wp.br rfl (fun (c : ¬ (M 125 (19 * l3).toNat) = 5) => ?_) (fun (c : ¬ (¬ (M 125 (19 * l3).toNat) = 5)) => ?_)
    · replace h := fps c h
      obtain ⟨⟨g0, g1⟩, h⟩ := fgd h
      refine Wp.run 5 (f' := (d + 0, 309, 9, 0, 0, [some (fA 122), some (fI l1), some (fI (fw (l2 + 0))), some (fI (fw (l3 + 1)))], [])) (h' := (156, fjl L, M)) rfl trivial ?_
      rw [fw_id g0, fw_id g1]
      exact hC _ _ (Option.some.inj h).symm
    · replace h := fng c h
      obtain ⟨⟨g0, g1⟩, h⟩ := fgd h
      refine Wp.run 6 (f' := (d + 0, 309, 9, 0, 0, [some (fA 122), some (fI l1), some (fI (fw (l2 + 1))), some (fI (fw (l3 + 1)))], [])) (h' := (156, fjl L, M)) rfl trivial ?_
      rw [fw_id g0, fw_id g1]
      exact hC _ _ (Option.some.inj h).symm
theorem s_X12_count_b9_fr {M : fM} {l1 l2 l3 : Int} {r : ((Int × Int) ⊕ Int)} (h : s_X12_count_b9 M l1 l2 l3 = some r) : fSame s_X12_count_mods M (Sum.elim (fun _ => M) (fun _ => M) r) := by
  unfold s_X12_count_b9 at h
  by_cases c : (M 122 10) ≤ l3
  · replace h := fps c h
    obtain rfl := Option.some.inj h
    exact fs_refl
  · replace h := fng c h
    replace h := (fgd h).2
    by_cases c : ¬ (M 125 (19 * l3).toNat) = 5
    · replace h := fps c h
      replace h := (fgd h).2
      obtain rfl := Option.some.inj h
      exact fs_refl
    · replace h := fng c h
      replace h := (fgd h).2
      obtain rfl := Option.some.inj h
      exact fs_refl
noncomputable def s_X12_count_l9 (M : fM) (l1 : Int) (s : (Int × Int)) : Option Int := fLp (fun s => s_X12_count_b9 M l1 s.1 s.2) s
theorem s_X12_count_l9_ok {d L : Nat} {M : fM} {l1 l2 l3 : Int} {r : Int} {Q : fO → fH → Prop} (h : s_X12_count_l9 M l1 (l2, l3) = some r) (hE : ∀ (e : Int) (o3' : Option fV), r = e → Wp (d + 0, 309, 44, 0, 0, [some (fA 122), some (fI l1), some (fI e), o3'], []) (156, fjl L, M) Q) : Wp (d + 0, 309, 9, 0, 0, [some (fA 122), some (fI l1), some (fI l2), some (fI l3)], []) (156, fjl L, M) Q := by
  refine fLp_wp (W := fun s => Wp (d + 0, 309, 9, 0, 0, [some (fA 122), some (fI l1), some (fI s.1), some (fI s.2)], []) (156, fjl L, M) Q) (e := r) ?_ h
  intro s r1 h hC hX
  refine s_X12_count_b9_ok (d := d) h (fun a0 a1 e1 => ?_) (fun e u0 e1 => hE e u0 (hX _ e1).symm)
  exact hC _ e1
noncomputable def s_X12_count (M : fM) (l1 : Int) : Option (Int × fM) :=
  (s_X12_count_l9 (fup M 122 0 0) l1 (0, 0)).bind fun e9 =>
    if l1 = 0 then
      some ((M 124 172), (fup M 122 0 0))
    else
      if l1 = 1 then
        some ((M 124 173), (fup M 122 0 0))
      else
        if l1 = 2 then
          some ((M 124 174), (fup M 122 0 0))
        else
          if l1 = 3 then
            some ((M 122 10), (fup M 122 0 0))
          else
            if l1 = 4 then
              some ((M 122 2), (fup M 122 0 0))
            else
              if l1 = 5 then
                some (e9, (fup M 122 0 0))
              else
                if l1 = 6 then
                  some ((M 124 117), (fup M 122 0 0))
                else
                  some ((-1), (fup M 122 0 0))
theorem s_X12_count_ok {d L : Nat} {M : fM} {l1 : Int} {r : (Int × fM)} {Q : fO → fH → Prop} (h : s_X12_count M l1 = some r) (H : Q (oI r.1) (156, fjl L, r.2)) : Wp (d + 0, 309, 0, 0, 0, [some (fA 122), some (fI l1), none, none], []) (156, fjl L, M) Q := by
  unfold s_X12_count at h
  refine Wp.run 7 (f' := (d + 0, 309, 9, 0, 0, [some (fA 122), some (fI l1), some (fI 0), some (fI 0)], [])) (h' := (156, fjl L, (fup M 122 0 0))) rfl trivial ?_
  obtain ⟨e9, hy, h⟩ := fbd h
  refine s_X12_count_l9_ok hy (fun x u3 ex => ?_)
  cases ex
  show Wp (d + 0, 309, 44, 0, 0, [some (fA 122), some (fI l1), some (fI e9), u3], []) (156, fjl L, (fup M 122 0 0)) Q
  refine Wp.run 1 (f' := (d + 0, 309, 45, 0, 0, [some (fA 122), _, some (fI e9), _], [fI l1])) (h' := (156, fjl L, (fup M 122 0 0))) rfl trivial ?_
  refine Wp.sw rfl ?_
  refine ⟨fun (c : l1 = 0) => ?_, fun (c : ¬ (l1 = 0)) => ?_⟩
  · replace h := fps c h
    show Wp (d + 0, 309, 88, 0, 0, [some (fA 122), _, _, _], []) (156, fjl L, (fup M 122 0 0)) Q
    refine Wp.run 4 (P := [(0 : Int) ≤ 172 ∧ (172 : Int) < 1290]) (f' := (d + 0, 309, 96, 0, 0, [_, _, _, _], [fI (M 124 172)])) (h' := (156, fjl L, (fup M 122 0 0))) rfl ?_ ?_
    · exact (by decide : (0 : Int) ≤ 172 ∧ (172 : Int) < 1290)
    obtain rfl := Option.some.inj h
    exact Wp.done rfl (by decide) H
  · replace h := fng c h
    refine ⟨fun (c : l1 = 1) => ?_, fun (c : ¬ (l1 = 1)) => ?_⟩
    · replace h := fps c h
      show Wp (d + 0, 309, 97, 0, 0, [some (fA 122), _, _, _], []) (156, fjl L, (fup M 122 0 0)) Q
      refine Wp.run 4 (P := [(0 : Int) ≤ 173 ∧ (173 : Int) < 1290]) (f' := (d + 0, 309, 105, 0, 0, [_, _, _, _], [fI (M 124 173)])) (h' := (156, fjl L, (fup M 122 0 0))) rfl ?_ ?_
      · exact (by decide : (0 : Int) ≤ 173 ∧ (173 : Int) < 1290)
      obtain rfl := Option.some.inj h
      exact Wp.done rfl (by decide) H
    · replace h := fng c h
      refine ⟨fun (c : l1 = 2) => ?_, fun (c : ¬ (l1 = 2)) => ?_⟩
      · replace h := fps c h
        show Wp (d + 0, 309, 106, 0, 0, [some (fA 122), _, _, _], []) (156, fjl L, (fup M 122 0 0)) Q
        refine Wp.run 4 (P := [(0 : Int) ≤ 174 ∧ (174 : Int) < 1290]) (f' := (d + 0, 309, 114, 0, 0, [_, _, _, _], [fI (M 124 174)])) (h' := (156, fjl L, (fup M 122 0 0))) rfl ?_ ?_
        · exact (by decide : (0 : Int) ≤ 174 ∧ (174 : Int) < 1290)
        obtain rfl := Option.some.inj h
        exact Wp.done rfl (by decide) H
      · replace h := fng c h
        refine ⟨fun (c : l1 = 3) => ?_, fun (c : ¬ (l1 = 3)) => ?_⟩
        · replace h := fps c h
          show Wp (d + 0, 309, 115, 0, 0, [some (fA 122), _, _, _], []) (156, fjl L, (fup M 122 0 0)) Q
          refine Wp.run 2 (f' := (d + 0, 309, 119, 0, 0, [_, _, _, _], [fI (M 122 10)])) (h' := (156, fjl L, (fup M 122 0 0))) rfl trivial ?_
          obtain rfl := Option.some.inj h
          exact Wp.done rfl (by decide) H
        · replace h := fng c h
          refine ⟨fun (c : l1 = 4) => ?_, fun (c : ¬ (l1 = 4)) => ?_⟩
          · replace h := fps c h
            show Wp (d + 0, 309, 120, 0, 0, [some (fA 122), _, _, _], []) (156, fjl L, (fup M 122 0 0)) Q
            refine Wp.run 2 (f' := (d + 0, 309, 124, 0, 0, [_, _, _, _], [fI (M 122 2)])) (h' := (156, fjl L, (fup M 122 0 0))) rfl trivial ?_
            obtain rfl := Option.some.inj h
            exact Wp.done rfl (by decide) H
          · replace h := fng c h
            refine ⟨fun (c : l1 = 5) => ?_, fun (c : ¬ (l1 = 5)) => ?_⟩
            · replace h := fps c h
              show Wp (d + 0, 309, 125, 0, 0, [_, _, some (fI e9), _], []) (156, fjl L, (fup M 122 0 0)) Q
              refine Wp.run 1 (f' := (d + 0, 309, 126, 0, 0, [_, _, _, _], [fI e9])) (h' := (156, fjl L, (fup M 122 0 0))) rfl trivial ?_
              obtain rfl := Option.some.inj h
              exact Wp.done rfl (by decide) H
            · replace h := fng c h
              refine ⟨fun (c : l1 = 6) => ?_, fun (c : ¬ (l1 = 6)) => ?_⟩
              · replace h := fps c h
                show Wp (d + 0, 309, 127, 0, 0, [some (fA 122), _, _, _], []) (156, fjl L, (fup M 122 0 0)) Q
                refine Wp.run 4 (P := [(0 : Int) ≤ 117 ∧ (117 : Int) < 1290]) (f' := (d + 0, 309, 134, 0, 0, [_, _, _, _], [fI (M 124 117)])) (h' := (156, fjl L, (fup M 122 0 0))) rfl ?_ ?_
                · exact (by decide : (0 : Int) ≤ 117 ∧ (117 : Int) < 1290)
                obtain rfl := Option.some.inj h
                exact Wp.done rfl (by decide) H
              · replace h := fng c h
                show Wp (d + 0, 309, 135, 0, 0, [_, _, _, _], []) (156, fjl L, (fup M 122 0 0)) Q
                refine Wp.run 1 (f' := (d + 0, 309, 136, 0, 0, [_, _, _, _], [fI (-1)])) (h' := (156, fjl L, (fup M 122 0 0))) rfl trivial ?_
                obtain rfl := Option.some.inj h
                exact Wp.done rfl (by decide) H
theorem s_X12_count_fr {M : fM} {l1 : Int} {r : (Int × fM)} (h : s_X12_count M l1 = some r) : fSame s_X12_count_mods M r.2 := by
  unfold s_X12_count at h
  obtain ⟨e9, hy, h⟩ := fbd h
  by_cases c : l1 = 0
  · replace h := fps c h
    obtain rfl := Option.some.inj h
    exact fs_up fs_refl (.inr (by decide))
  · replace h := fng c h
    by_cases c : l1 = 1
    · replace h := fps c h
      obtain rfl := Option.some.inj h
      exact fs_up fs_refl (.inr (by decide))
    · replace h := fng c h
      by_cases c : l1 = 2
      · replace h := fps c h
        obtain rfl := Option.some.inj h
        exact fs_up fs_refl (.inr (by decide))
      · replace h := fng c h
        by_cases c : l1 = 3
        · replace h := fps c h
          obtain rfl := Option.some.inj h
          exact fs_up fs_refl (.inr (by decide))
        · replace h := fng c h
          by_cases c : l1 = 4
          · replace h := fps c h
            obtain rfl := Option.some.inj h
            exact fs_up fs_refl (.inr (by decide))
          · replace h := fng c h
            by_cases c : l1 = 5
            · replace h := fps c h
              obtain rfl := Option.some.inj h
              exact fs_up fs_refl (.inr (by decide))
            · replace h := fng c h
              by_cases c : l1 = 6
              · replace h := fps c h
                obtain rfl := Option.some.inj h
                exact fs_up fs_refl (.inr (by decide))
              · replace h := fng c h
                obtain rfl := Option.some.inj h
                exact fs_up fs_refl (.inr (by decide))
