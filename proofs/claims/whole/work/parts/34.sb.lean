/-! ===== functions of the methods (printed by genfun.py) ===== -/
abbrev s_X3_readRuleLine_mods : List (Nat × Option Nat) := [(1, some 4), (1, some 5), (1, some 6), (1, some 7), (1, some 8), (1, some 9), (1, some 10), (27, some 2), (28, some 16), (29, none), (30, none), (31, none), (32, none), (33, none)]
noncomputable def s_X3_readRuleLine (M : fM) (l1 : Int) : Option ((Unit ⊕ Unit) × fM) :=
  if l1 = 0 then
    (s_X3_readTable M).bind fun y53 =>
      fel y53.1
        (fun w53 =>
          some (.inl (), y53.2))
        (some (.inr (), y53.2))
  else
    if l1 = 1 then
      (s_X3_readDamp M).bind fun y60 =>
        fel y60.1
          (fun w60 =>
            some (.inl (), y60.2))
          (some (.inr (), y60.2))
    else
      if l1 = 2 then
        (s_X3_readTerm M).bind fun y67 =>
          fel y67.1
            (fun w67 =>
              some (.inl (), y67.2))
            (some (.inr (), y67.2))
      else
        if l1 = 3 then
          (s_X3_readFee M).bind fun y74 =>
            fel y74.1
              (fun w74 =>
                some (.inl (), y74.2))
              (some (.inr (), y74.2))
        else
          if l1 = 4 then
            (s_X3_readRule M l1 0 0 99).bind fun y86 =>
              fel y86.1
                (fun w86 =>
                  some (.inl (), y86.2))
                (some (.inr (), y86.2))
          else
            if l1 = 5 then
              (s_X3_readRule M l1 1 0 999).bind fun y99 =>
                fel y99.1
                  (fun w99 =>
                    some (.inl (), y99.2))
                  (some (.inr (), y99.2))
            else
              if l1 = 6 then
                (s_X3_readRule M l1 2 1 20).bind fun y111 =>
                  fel y111.1
                    (fun w111 =>
                      some (.inl (), y111.2))
                    (some (.inr (), y111.2))
              else
                if l1 = 7 then
                  (s_X3_readRule M l1 3 10 120).bind fun y124 =>
                    fel y124.1
                      (fun w124 =>
                        some (.inl (), y124.2))
                      (some (.inr (), y124.2))
                else
                  if l1 = 8 then
                    (s_X3_readDay M).bind fun y131 =>
                      fel y131.1
                        (fun w131 =>
                          some (.inl (), y131.2))
                        (some (.inr (), y131.2))
                  else
                    (s_X10_fail M 1).bind fun y142 =>
                      fel y142.1
                        (fun w142 =>
                          some (.inl (), y142.2))
                        (some (.inr (), y142.2))
theorem s_X3_readRuleLine_ok {d L : Nat} {M : fM} {l1 : Int} {r : ((Unit ⊕ Unit) × fM)} {Q : fO → fH → Prop} (h : s_X3_readRuleLine M l1 = some r) (H : Q (oT oV 1 r.1) (156, fjl L, r.2)) : Wp (d + 11, 48, 0, 0, 0, [some (fA 27), some (fI l1)], []) (156, fjl L, M) Q := by
  unfold s_X3_readRuleLine at h
  refine Wp.run 1 (f' := (d + 11, 48, 1, 0, 0, [some (fA 27), some (fI l1)], [fI l1])) (h' := (156, fjl L, M)) rfl trivial ?_
  refine Wp.sw rfl ?_
  refine ⟨fun (c : l1 = 0) => ?_, fun (c : ¬ (l1 = 0)) => ?_⟩
  · replace h := fps c h
    show Wp (d + 11, 48, 52, 0, 0, [some (fA 27), _], []) (156, fjl L, M) Q
    refine Wp.run 1 (f' := (d + 11, 48, 53, 0, 0, [_, _], [fA 27])) (h' := (156, fjl L, M)) rfl trivial ?_
    obtain ⟨y53, hy, h⟩ := fbd h
    refine Wp.call rfl (by decide) (s_X3_readTable_ok (d := d + 0) hy ?_)
    obtain ⟨w53, ew, h⟩ | ⟨ew, h⟩ := fel_of h
    · rw [ew]
      show Wp (d + 11, 48, 56, 0, 0, [_, _], []) (156, fjl L, y53.2) Q
      refine Wp.run 1 (f' := (d + 11, 48, 145, 0, 0, [_, _], [])) (h' := (156, fjl L, y53.2)) rfl trivial ?_
      obtain rfl := Option.some.inj h
      exact Wp.done rfl (by decide) H
    · rw [ew]
      obtain rfl := Option.some.inj h
      exact ⟨⟨rfl, rfl⟩, H⟩
  · replace h := fng c h
    refine ⟨fun (c : l1 = 1) => ?_, fun (c : ¬ (l1 = 1)) => ?_⟩
    · replace h := fps c h
      show Wp (d + 11, 48, 59, 0, 0, [some (fA 27), _], []) (156, fjl L, M) Q
      refine Wp.run 1 (f' := (d + 11, 48, 60, 0, 0, [_, _], [fA 27])) (h' := (156, fjl L, M)) rfl trivial ?_
      obtain ⟨y60, hy, h⟩ := fbd h
      refine Wp.call rfl (by decide) (s_X3_readDamp_ok (d := d + 0) hy ?_)
      obtain ⟨w60, ew, h⟩ | ⟨ew, h⟩ := fel_of h
      · rw [ew]
        show Wp (d + 11, 48, 63, 0, 0, [_, _], []) (156, fjl L, y60.2) Q
        refine Wp.run 1 (f' := (d + 11, 48, 145, 0, 0, [_, _], [])) (h' := (156, fjl L, y60.2)) rfl trivial ?_
        obtain rfl := Option.some.inj h
        exact Wp.done rfl (by decide) H
      · rw [ew]
        obtain rfl := Option.some.inj h
        exact ⟨⟨rfl, rfl⟩, H⟩
    · replace h := fng c h
      refine ⟨fun (c : l1 = 2) => ?_, fun (c : ¬ (l1 = 2)) => ?_⟩
      · replace h := fps c h
        show Wp (d + 11, 48, 66, 0, 0, [some (fA 27), _], []) (156, fjl L, M) Q
        refine Wp.run 1 (f' := (d + 11, 48, 67, 0, 0, [_, _], [fA 27])) (h' := (156, fjl L, M)) rfl trivial ?_
        obtain ⟨y67, hy, h⟩ := fbd h
        refine Wp.call rfl (by decide) (s_X3_readTerm_ok (d := d + 0) hy ?_)
        obtain ⟨w67, ew, h⟩ | ⟨ew, h⟩ := fel_of h
        · rw [ew]
          show Wp (d + 11, 48, 70, 0, 0, [_, _], []) (156, fjl L, y67.2) Q
          refine Wp.run 1 (f' := (d + 11, 48, 145, 0, 0, [_, _], [])) (h' := (156, fjl L, y67.2)) rfl trivial ?_
          obtain rfl := Option.some.inj h
          exact Wp.done rfl (by decide) H
        · rw [ew]
          obtain rfl := Option.some.inj h
          exact ⟨⟨rfl, rfl⟩, H⟩
      · replace h := fng c h
        refine ⟨fun (c : l1 = 3) => ?_, fun (c : ¬ (l1 = 3)) => ?_⟩
        · replace h := fps c h
          show Wp (d + 11, 48, 73, 0, 0, [some (fA 27), _], []) (156, fjl L, M) Q
          refine Wp.run 1 (f' := (d + 11, 48, 74, 0, 0, [_, _], [fA 27])) (h' := (156, fjl L, M)) rfl trivial ?_
          obtain ⟨y74, hy, h⟩ := fbd h
          refine Wp.call rfl (by decide) (s_X3_readFee_ok (d := d + 0) hy ?_)
          obtain ⟨w74, ew, h⟩ | ⟨ew, h⟩ := fel_of h
          · rw [ew]
            show Wp (d + 11, 48, 77, 0, 0, [_, _], []) (156, fjl L, y74.2) Q
            refine Wp.run 1 (f' := (d + 11, 48, 145, 0, 0, [_, _], [])) (h' := (156, fjl L, y74.2)) rfl trivial ?_
            obtain rfl := Option.some.inj h
            exact Wp.done rfl (by decide) H
          · rw [ew]
            obtain rfl := Option.some.inj h
            exact ⟨⟨rfl, rfl⟩, H⟩
        · replace h := fng c h
          refine ⟨fun (c : l1 = 4) => ?_, fun (c : ¬ (l1 = 4)) => ?_⟩
          · replace h := fps c h
            show Wp (d + 11, 48, 80, 0, 0, [some (fA 27), some (fI l1)], []) (156, fjl L, M) Q
            refine Wp.run 5 (f' := (d + 11, 48, 86, 0, 0, [_, _], [fI 99, fI 0, fI 0, fI l1, fA 27])) (h' := (156, fjl L, M)) rfl trivial ?_
            obtain ⟨y86, hy, h⟩ := fbd h
            refine Wp.call rfl (by decide) (s_X3_readRule_ok (d := d + 0) hy ?_)
            obtain ⟨w86, ew, h⟩ | ⟨ew, h⟩ := fel_of h
            · rw [ew]
              show Wp (d + 11, 48, 89, 0, 0, [_, _], []) (156, fjl L, y86.2) Q
              refine Wp.run 1 (f' := (d + 11, 48, 145, 0, 0, [_, _], [])) (h' := (156, fjl L, y86.2)) rfl trivial ?_
              obtain rfl := Option.some.inj h
              exact Wp.done rfl (by decide) H
            · rw [ew]
              obtain rfl := Option.some.inj h
              exact ⟨⟨rfl, rfl⟩, H⟩
          · replace h := fng c h
            refine ⟨fun (c : l1 = 5) => ?_, fun (c : ¬ (l1 = 5)) => ?_⟩
            · replace h := fps c h
              show Wp (d + 11, 48, 92, 0, 0, [some (fA 27), some (fI l1)], []) (156, fjl L, M) Q
              refine Wp.run 5 (f' := (d + 11, 48, 99, 0, 0, [_, _], [fI 999, fI 0, fI 1, fI l1, fA 27])) (h' := (156, fjl L, M)) rfl trivial ?_
              obtain ⟨y99, hy, h⟩ := fbd h
              refine Wp.call rfl (by decide) (s_X3_readRule_ok (d := d + 0) hy ?_)
              obtain ⟨w99, ew, h⟩ | ⟨ew, h⟩ := fel_of h
              · rw [ew]
                show Wp (d + 11, 48, 102, 0, 0, [_, _], []) (156, fjl L, y99.2) Q
                refine Wp.run 1 (f' := (d + 11, 48, 145, 0, 0, [_, _], [])) (h' := (156, fjl L, y99.2)) rfl trivial ?_
                obtain rfl := Option.some.inj h
                exact Wp.done rfl (by decide) H
              · rw [ew]
                obtain rfl := Option.some.inj h
                exact ⟨⟨rfl, rfl⟩, H⟩
            · replace h := fng c h
              refine ⟨fun (c : l1 = 6) => ?_, fun (c : ¬ (l1 = 6)) => ?_⟩
              · replace h := fps c h
                show Wp (d + 11, 48, 105, 0, 0, [some (fA 27), some (fI l1)], []) (156, fjl L, M) Q
                refine Wp.run 5 (f' := (d + 11, 48, 111, 0, 0, [_, _], [fI 20, fI 1, fI 2, fI l1, fA 27])) (h' := (156, fjl L, M)) rfl trivial ?_
                obtain ⟨y111, hy, h⟩ := fbd h
                refine Wp.call rfl (by decide) (s_X3_readRule_ok (d := d + 0) hy ?_)
                obtain ⟨w111, ew, h⟩ | ⟨ew, h⟩ := fel_of h
                · rw [ew]
                  show Wp (d + 11, 48, 114, 0, 0, [_, _], []) (156, fjl L, y111.2) Q
                  refine Wp.run 1 (f' := (d + 11, 48, 145, 0, 0, [_, _], [])) (h' := (156, fjl L, y111.2)) rfl trivial ?_
                  obtain rfl := Option.some.inj h
                  exact Wp.done rfl (by decide) H
                · rw [ew]
                  obtain rfl := Option.some.inj h
                  exact ⟨⟨rfl, rfl⟩, H⟩
              · replace h := fng c h
                refine ⟨fun (c : l1 = 7) => ?_, fun (c : ¬ (l1 = 7)) => ?_⟩
                · replace h := fps c h
                  show Wp (d + 11, 48, 117, 0, 0, [some (fA 27), some (fI l1)], []) (156, fjl L, M) Q
                  refine Wp.run 5 (f' := (d + 11, 48, 124, 0, 0, [_, _], [fI 120, fI 10, fI 3, fI l1, fA 27])) (h' := (156, fjl L, M)) rfl trivial ?_
                  obtain ⟨y124, hy, h⟩ := fbd h
                  refine Wp.call rfl (by decide) (s_X3_readRule_ok (d := d + 0) hy ?_)
                  obtain ⟨w124, ew, h⟩ | ⟨ew, h⟩ := fel_of h
                  · rw [ew]
                    show Wp (d + 11, 48, 127, 0, 0, [_, _], []) (156, fjl L, y124.2) Q
                    refine Wp.run 1 (f' := (d + 11, 48, 145, 0, 0, [_, _], [])) (h' := (156, fjl L, y124.2)) rfl trivial ?_
                    obtain rfl := Option.some.inj h
                    exact Wp.done rfl (by decide) H
                  · rw [ew]
                    obtain rfl := Option.some.inj h
                    exact ⟨⟨rfl, rfl⟩, H⟩
                · replace h := fng c h
                  refine ⟨fun (c : l1 = 8) => ?_, fun (c : ¬ (l1 = 8)) => ?_⟩
                  · replace h := fps c h
                    show Wp (d + 11, 48, 130, 0, 0, [some (fA 27), _], []) (156, fjl L, M) Q
                    refine Wp.run 1 (f' := (d + 11, 48, 131, 0, 0, [_, _], [fA 27])) (h' := (156, fjl L, M)) rfl trivial ?_
                    obtain ⟨y131, hy, h⟩ := fbd h
                    refine Wp.call rfl (by decide) (s_X3_readDay_ok (d := d + 0) hy ?_)
                    obtain ⟨w131, ew, h⟩ | ⟨ew, h⟩ := fel_of h
                    · rw [ew]
                      show Wp (d + 11, 48, 134, 0, 0, [_, _], []) (156, fjl L, y131.2) Q
                      refine Wp.run 1 (f' := (d + 11, 48, 145, 0, 0, [_, _], [])) (h' := (156, fjl L, y131.2)) rfl trivial ?_
                      obtain rfl := Option.some.inj h
                      exact Wp.done rfl (by decide) H
                    · rw [ew]
                      obtain rfl := Option.some.inj h
                      exact ⟨⟨rfl, rfl⟩, H⟩
                  · replace h := fng c h
                    show Wp (d + 11, 48, 137, 0, 0, [some (fA 27), _], []) (156, fjl L, M) Q
                    refine Wp.run 3 (f' := (d + 11, 48, 142, 0, 0, [_, _], [fI 1, fA 1])) (h' := (156, fjl L, M)) rfl trivial ?_
                    obtain ⟨y142, hy, h⟩ := fbd h
                    refine Wp.call rfl (by decide) (s_X10_fail_ok (d := d + 3) hy ?_)
                    obtain ⟨w142, ew, h⟩ | ⟨ew, h⟩ := fel_of h
                    · rw [ew]
                      show Wp (d + 11, 48, 145, 0, 0, [_, _], []) (156, fjl L, y142.2) Q
                      obtain rfl := Option.some.inj h
                      exact Wp.done rfl (by decide) H
                    · rw [ew]
                      obtain rfl := Option.some.inj h
                      exact ⟨⟨rfl, rfl⟩, H⟩
theorem s_X3_readRuleLine_fr {M : fM} {l1 : Int} {r : ((Unit ⊕ Unit) × fM)} (h : s_X3_readRuleLine M l1 = some r) : fSame s_X3_readRuleLine_mods M r.2 := by
  unfold s_X3_readRuleLine at h
  by_cases c : l1 = 0
  · replace h := fps c h
    obtain ⟨y53, hy, h⟩ := fbd h
    have k53 := fs_trans (l := s_X3_readRuleLine_mods) fs_refl (fs_mono (l := s_X3_readTable_mods) (by decide) (s_X3_readTable_fr hy))
    obtain ⟨w53, ew, h⟩ | ⟨ew, h⟩ := fel_of h
    · obtain rfl := Option.some.inj h
      exact k53
    · obtain rfl := Option.some.inj h
      exact k53
  · replace h := fng c h
    by_cases c : l1 = 1
    · replace h := fps c h
      obtain ⟨y60, hy, h⟩ := fbd h
      have k60 := fs_trans (l := s_X3_readRuleLine_mods) fs_refl (fs_mono (l := s_X3_readDamp_mods) (by decide) (s_X3_readDamp_fr hy))
      obtain ⟨w60, ew, h⟩ | ⟨ew, h⟩ := fel_of h
      · obtain rfl := Option.some.inj h
        exact k60
      · obtain rfl := Option.some.inj h
        exact k60
    · replace h := fng c h
      by_cases c : l1 = 2
      · replace h := fps c h
        obtain ⟨y67, hy, h⟩ := fbd h
        have k67 := fs_trans (l := s_X3_readRuleLine_mods) fs_refl (fs_mono (l := s_X3_readTerm_mods) (by decide) (s_X3_readTerm_fr hy))
        obtain ⟨w67, ew, h⟩ | ⟨ew, h⟩ := fel_of h
        · obtain rfl := Option.some.inj h
          exact k67
        · obtain rfl := Option.some.inj h
          exact k67
      · replace h := fng c h
        by_cases c : l1 = 3
        · replace h := fps c h
          obtain ⟨y74, hy, h⟩ := fbd h
          have k74 := fs_trans (l := s_X3_readRuleLine_mods) fs_refl (fs_mono (l := s_X3_readFee_mods) (by decide) (s_X3_readFee_fr hy))
          obtain ⟨w74, ew, h⟩ | ⟨ew, h⟩ := fel_of h
          · obtain rfl := Option.some.inj h
            exact k74
          · obtain rfl := Option.some.inj h
            exact k74
        · replace h := fng c h
          by_cases c : l1 = 4
          · replace h := fps c h
            obtain ⟨y86, hy, h⟩ := fbd h
            have k86 := fs_trans (l := s_X3_readRuleLine_mods) fs_refl (fs_mono (l := s_X3_readRule_mods) (by decide) (s_X3_readRule_fr hy))
            obtain ⟨w86, ew, h⟩ | ⟨ew, h⟩ := fel_of h
            · obtain rfl := Option.some.inj h
              exact k86
            · obtain rfl := Option.some.inj h
              exact k86
          · replace h := fng c h
            by_cases c : l1 = 5
            · replace h := fps c h
              obtain ⟨y99, hy, h⟩ := fbd h
              have k99 := fs_trans (l := s_X3_readRuleLine_mods) fs_refl (fs_mono (l := s_X3_readRule_mods) (by decide) (s_X3_readRule_fr hy))
              obtain ⟨w99, ew, h⟩ | ⟨ew, h⟩ := fel_of h
              · obtain rfl := Option.some.inj h
                exact k99
              · obtain rfl := Option.some.inj h
                exact k99
            · replace h := fng c h
              by_cases c : l1 = 6
              · replace h := fps c h
                obtain ⟨y111, hy, h⟩ := fbd h
                have k111 := fs_trans (l := s_X3_readRuleLine_mods) fs_refl (fs_mono (l := s_X3_readRule_mods) (by decide) (s_X3_readRule_fr hy))
                obtain ⟨w111, ew, h⟩ | ⟨ew, h⟩ := fel_of h
                · obtain rfl := Option.some.inj h
                  exact k111
                · obtain rfl := Option.some.inj h
                  exact k111
              · replace h := fng c h
                by_cases c : l1 = 7
                · replace h := fps c h
                  obtain ⟨y124, hy, h⟩ := fbd h
                  have k124 := fs_trans (l := s_X3_readRuleLine_mods) fs_refl (fs_mono (l := s_X3_readRule_mods) (by decide) (s_X3_readRule_fr hy))
                  obtain ⟨w124, ew, h⟩ | ⟨ew, h⟩ := fel_of h
                  · obtain rfl := Option.some.inj h
                    exact k124
                  · obtain rfl := Option.some.inj h
                    exact k124
                · replace h := fng c h
                  by_cases c : l1 = 8
                  · replace h := fps c h
                    obtain ⟨y131, hy, h⟩ := fbd h
                    have k131 := fs_trans (l := s_X3_readRuleLine_mods) fs_refl (fs_mono (l := s_X3_readDay_mods) (by decide) (s_X3_readDay_fr hy))
                    obtain ⟨w131, ew, h⟩ | ⟨ew, h⟩ := fel_of h
                    · obtain rfl := Option.some.inj h
                      exact k131
                    · obtain rfl := Option.some.inj h
                      exact k131
                  · replace h := fng c h
                    obtain ⟨y142, hy, h⟩ := fbd h
                    have k142 := fs_trans (l := s_X3_readRuleLine_mods) fs_refl (fs_mono (l := s_X10_fail_mods) (by decide) (s_X10_fail_fr hy))
                    obtain ⟨w142, ew, h⟩ | ⟨ew, h⟩ := fel_of h
                    · obtain rfl := Option.some.inj h
                      exact k142
                    · obtain rfl := Option.some.inj h
                      exact k142
abbrev s_X10_takeName_mods : List (Nat × Option Nat) := [(1, some 4), (1, some 5), (1, some 6), (1, some 7), (1, some 8), (1, some 9), (1, some 10)]
noncomputable def s_X10_takeName_j20 (M : fM) : Option ((Int ⊕ Unit) × fM) :=
  (s_X10_fail M 1).bind fun y22 =>
    fel y22.1
      (fun w22 =>
        some (.inl (y22.2 1 8), y22.2))
      (some (.inr (), y22.2))
theorem s_X10_takeName_j20_ok {d L : Nat} {M : fM} {r : ((Int ⊕ Unit) × fM)} {Q : fO → fH → Prop} (h : s_X10_takeName_j20 M = some r) (H : Q (oT oJ 1 r.1) (156, fjl L, r.2)) : Wp (d + 8, 148, 20, 0, 0, [some (fA 1)], []) (156, fjl L, M) Q := by
  unfold s_X10_takeName_j20 at h
  refine Wp.run 2 (f' := (d + 8, 148, 22, 0, 0, [some (fA 1)], [fI 1, fA 1])) (h' := (156, fjl L, M)) rfl trivial ?_
  obtain ⟨y22, hy, h⟩ := fbd h
  refine Wp.call rfl (by decide) (s_X10_fail_ok (d := d + 0) hy ?_)
  obtain ⟨w22, ew, h⟩ | ⟨ew, h⟩ := fel_of h
  · rw [ew]
    show Wp (d + 8, 148, 25, 0, 0, [some (fA 1)], []) (156, fjl L, y22.2) Q
    refine Wp.run 2 (f' := (d + 8, 148, 29, 0, 0, [_], [fJ (y22.2 1 8)])) (h' := (156, fjl L, y22.2)) rfl trivial ?_
    obtain rfl := Option.some.inj h
    exact Wp.done rfl (by decide) H
  · rw [ew]
    obtain rfl := Option.some.inj h
    exact ⟨⟨rfl, rfl⟩, H⟩
theorem s_X10_takeName_j20_fr {M : fM} {r : ((Int ⊕ Unit) × fM)} (h : s_X10_takeName_j20 M = some r) : fSame s_X10_takeName_mods M r.2 := by
  unfold s_X10_takeName_j20 at h
  obtain ⟨y22, hy, h⟩ := fbd h
  have k22 := fs_trans (l := s_X10_takeName_mods) fs_refl (fs_mono (l := s_X10_fail_mods) (by decide) (s_X10_fail_fr hy))
  obtain ⟨w22, ew, h⟩ | ⟨ew, h⟩ := fel_of h
  · obtain rfl := Option.some.inj h
    exact k22
  · obtain rfl := Option.some.inj h
    exact k22
noncomputable def s_X10_takeName (M : fM) : Option ((Int ⊕ Unit) × fM) :=
  (s_X10_take M).bind fun y1 =>
    if ¬ (y1.2 1 6) = 2 then
      s_X10_takeName_j20 y1.2
    else
      (s_X10_keywordHere y1.2).bind fun y13 =>
        if y13 = (-1) then
          some (.inl (y1.2 1 8), y1.2)
        else
          s_X10_takeName_j20 y1.2
theorem s_X10_takeName_ok {d L : Nat} {M : fM} {r : ((Int ⊕ Unit) × fM)} {Q : fO → fH → Prop} (h : s_X10_takeName M = some r) (H : Q (oT oJ 1 r.1) (156, fjl L, r.2)) : Wp (d + 8, 148, 0, 0, 0, [some (fA 1)], []) (156, fjl L, M) Q := by
  unfold s_X10_takeName at h
  refine Wp.run 1 (f' := (d + 8, 148, 1, 0, 0, [some (fA 1)], [fA 1])) (h' := (156, fjl L, M)) rfl trivial ?_
  obtain ⟨y1, hy, h⟩ := fbd h
  refine Wp.call rfl (by decide) (s_X10_take_ok (d := d + 5) hy ?_)
  show Wp (d + 8, 148, 4, 0, 0, [some (fA 1)], []) (156, fjl L, y1.2) Q
  refine Wp.run 3 (f' := (d + 8, 148, 9, 0, 0, [some (fA 1)], [fI 2, fI (y1.2 1 6)])) (h' := (156, fjl L, y1.2)) rfl trivial ?_
  refine Wp.br rfl (fun (c : ¬ (y1.2 1 6) = 2) => ?_) (fun (c : ¬ (¬ (y1.2 1 6) = 2)) => ?_)
  · replace h := fps c h
    exact s_X10_takeName_j20_ok h H
  · replace h := fng c h
    refine Wp.run 1 (f' := (d + 8, 148, 13, 0, 0, [some (fA 1)], [fA 1])) (h' := (156, fjl L, y1.2)) rfl trivial ?_
    obtain ⟨y13, hy, h⟩ := fbd h
    refine Wp.call rfl (by decide) (s_X10_keywordHere_ok (d := d + 7) hy ?_)
    show Wp (d + 8, 148, 16, 0, 0, [some (fA 1)], [fI y13]) (156, fjl L, y1.2) Q
    refine Wp.run 1 (f' := (d + 8, 148, 17, 0, 0, [some (fA 1)], [fI (-1), fI y13])) (h' := (156, fjl L, y1.2)) rfl trivial ?_
    refine Wp.br rfl (fun (c : y13 = (-1)) => ?_) (fun (c : ¬ (y13 = (-1))) => ?_)
    · replace h := fps c h
      refine Wp.run 2 (f' := (d + 8, 148, 29, 0, 0, [_], [fJ (y1.2 1 8)])) (h' := (156, fjl L, y1.2)) rfl trivial ?_
      obtain rfl := Option.some.inj h
      exact Wp.done rfl (by decide) H
    · replace h := fng c h
      exact s_X10_takeName_j20_ok h H
theorem s_X10_takeName_fr {M : fM} {r : ((Int ⊕ Unit) × fM)} (h : s_X10_takeName M = some r) : fSame s_X10_takeName_mods M r.2 := by
  unfold s_X10_takeName at h
  obtain ⟨y1, hy, h⟩ := fbd h
  have k1 := fs_trans (l := s_X10_takeName_mods) fs_refl (fs_mono (l := s_X10_take_mods) (by decide) (s_X10_take_fr hy))
  by_cases c : ¬ (y1.2 1 6) = 2
  · replace h := fps c h
    exact fs_trans k1 (s_X10_takeName_j20_fr h)
  · replace h := fng c h
    obtain ⟨y13, hy, h⟩ := fbd h
    by_cases c : y13 = (-1)
    · replace h := fps c h
      obtain rfl := Option.some.inj h
      exact k1
    · replace h := fng c h
      exact fs_trans k1 (s_X10_takeName_j20_fr h)
noncomputable def s_X2_placeOf_40_b3 (M : fM) (l1 l2 l4 : Int) : Option (Int ⊕ (Unit ⊕ Int)) :=
  if l1 ≤ l4 then
    some (.inr (.inl ()))
  else
    if (0 ≤ l4 ∧ l4 < 6) then
      if ¬ (M 40 (l4).toNat) = l2 then
        if fin (l4 + 1) then
          some (.inl (l4 + 1))
        else none
      else
        some (.inr (.inr l4))
    else none
theorem s_X2_placeOf_40_b3_ok {d L : Nat} {M : fM} {l1 l2 l4 : Int} {r : (Int ⊕ (Unit ⊕ Int))} {Q : fO → fH → Prop} (h : s_X2_placeOf_40_b3 M l1 l2 l4 = some r) (hC : ∀ (l4' : Int), r = .inl l4' → Wp (d + 0, 41, 3, 0, 0, [some (fA 40), some (fI l1), some (fJ l2), none, some (fI l4')], []) (156, fjl L, M) Q) (hE : ∀ (e : Unit) (o0' o1' o2' o3' o4' : Option fV), r = .inr (.inl e) → Wp (d + 0, 41, 27, 0, 0, [o0', o1', o2', o3', o4'], []) (156, fjl L, M) Q) (hR : ∀ (v : Int), r = .inr (.inr v) → Q (oI v) (156, fjl L, M)) : Wp (d + 0, 41, 3, 0, 0, [some (fA 40), some (fI l1), some (fJ l2), none, some (fI l4)], []) (156, fjl L, M) Q := by
  unfold s_X2_placeOf_40_b3 at h
  refine Wp.run 2 (f' := (d + 0, 41, 6, 0, 0, [some (fA 40), some (fI l1), some (fJ l2), none, some (fI l4)], [fI l1, fI l4])) (h' := (156, fjl L, M)) rfl trivial ?_
  refine Wp.br rfl (fun (c : l1 ≤ l4) => ?_) (fun (c : ¬ (l1 ≤ l4)) => ?_)
  · replace h := fps c h
    exact hE _ _ _ _ _ _ (Option.some.inj h).symm
  · replace h := fng c h
    obtain ⟨g0, h⟩ := fgd h
    refine Wp.run 5 (P := [0 ≤ l4 ∧ l4 < 6]) (f' := (d + 0, 41, 15, 0, 0, [some (fA 40), some (fI l1), some (fJ l2), none, some (fI l4)], [fI (fcm (M 40 (l4).toNat) l2)])) (h' := (156, fjl L, M)) rfl ?_ ?_
    · exact g0
    refine Wp.br rfl (fun (c : ¬ (fcm (M 40 (l4).toNat) l2) = 0) => ?_) (fun (c : ¬ (¬ (fcm (M 40 (l4).toNat) l2) = 0)) => ?_)
    · replace c := (fcm_ne _ _).mp c
      replace h := fps c h
      obtain ⟨g0, h⟩ := fgd h
      refine Wp.run 2 (f' := (d + 0, 41, 3, 0, 0, [some (fA 40), some (fI l1), some (fJ l2), none, some (fI (fw (l4 + 1)))], [])) (h' := (156, fjl L, M)) rfl trivial ?_
      rw [fw_id g0]
      exact hC _ (Option.some.inj h).symm
    · replace c := fun z => c ((fcm_ne _ _).mpr z)
      replace h := fng c h
      refine Wp.run 1 (f' := (d + 0, 41, 20, 0, 0, [_, _, _, _, _], [fI l4])) (h' := (156, fjl L, M)) rfl trivial ?_
      exact Wp.done rfl (by decide) (hR _ (Option.some.inj h).symm)
noncomputable def s_X2_placeOf_40_l3 (M : fM) (l1 l2 : Int) (s : Int) : Option (Unit ⊕ Int) := fLp (fun s => s_X2_placeOf_40_b3 M l1 l2 s) s
theorem s_X2_placeOf_40_l3_ok {d L : Nat} {M : fM} {l1 l2 l4 : Int} {r : (Unit ⊕ Int)} {Q : fO → fH → Prop} (h : s_X2_placeOf_40_l3 M l1 l2 l4 = some r) (hE : ∀ (e : Unit) (o0' o1' o2' o3' o4' : Option fV), r = .inl e → Wp (d + 0, 41, 27, 0, 0, [o0', o1', o2', o3', o4'], []) (156, fjl L, M) Q) (hR : ∀ (v : Int), r = .inr v → Q (oI v) (156, fjl L, M)) : Wp (d + 0, 41, 3, 0, 0, [some (fA 40), some (fI l1), some (fJ l2), none, some (fI l4)], []) (156, fjl L, M) Q := by
  refine fLp_wp (W := fun s => Wp (d + 0, 41, 3, 0, 0, [some (fA 40), some (fI l1), some (fJ l2), none, some (fI s)], []) (156, fjl L, M) Q) (e := r) ?_ h
  intro s r1 h hC hX
  refine s_X2_placeOf_40_b3_ok (d := d) h (fun a0 e1 => ?_) (fun e u0 u1 u2 u3 u4 e1 => hE e u0 u1 u2 u3 u4 (hX _ e1).symm) (fun v e1 => hR v (hX _ e1).symm)
  exact hC _ e1
noncomputable def s_X2_placeOf_40 (M : fM) (l1 l2 : Int) : Option Int :=
  (s_X2_placeOf_40_l3 M l1 l2 0).bind fun e3 =>
    Sum.elim (fun x3 =>
      some (-1))
      (fun v3 => some v3) e3
theorem s_X2_placeOf_40_ok {d L : Nat} {M : fM} {l1 l2 : Int} {r : Int} {Q : fO → fH → Prop} (h : s_X2_placeOf_40 M l1 l2 = some r) (H : Q (oI r) (156, fjl L, M)) : Wp (d + 0, 41, 0, 0, 0, [some (fA 40), some (fI l1), some (fJ l2), none, none], []) (156, fjl L, M) Q := by
  unfold s_X2_placeOf_40 at h
  refine Wp.run 2 (f' := (d + 0, 41, 3, 0, 0, [some (fA 40), some (fI l1), some (fJ l2), none, some (fI 0)], [])) (h' := (156, fjl L, M)) rfl trivial ?_
  obtain ⟨e3, hy, h⟩ := fbd h
  refine s_X2_placeOf_40_l3_ok hy (fun x3 u0 u1 u2 u3 u4 ex => ?_) (fun v3 ex => ?_)
  · subst ex
    replace h := fsl h
    show Wp (d + 0, 41, 27, 0, 0, [u0, u1, u2, u3, u4], []) (156, fjl L, M) Q
    refine Wp.run 1 (f' := (d + 0, 41, 28, 0, 0, [_, _, _, _, _], [fI (-1)])) (h' := (156, fjl L, M)) rfl trivial ?_
    obtain rfl := Option.some.inj h
    exact Wp.done rfl (by decide) H
  · subst ex
    replace h := fsr h
    obtain rfl := Option.some.inj h
    exact H
noncomputable def s_X2_tunerNamed_28 (M : fM) (l1 : Int) : Option Int :=
  (s_X2_placeOf_40 M (M 28 14) l1).bind fun y9 =>
    some y9
theorem s_X2_tunerNamed_28_ok {d L : Nat} {M : fM} {l1 : Int} {r : Int} {Q : fO → fH → Prop} (h : s_X2_tunerNamed_28 M l1 = some r) (H : Q (oI r) (156, fjl L, M)) : Wp (d + 1, 38, 0, 0, 0, [some (fA 28), some (fJ l1), none], []) (156, fjl L, M) Q := by
  unfold s_X2_tunerNamed_28 at h
  refine Wp.run 5 (f' := (d + 1, 38, 9, 0, 0, [_, _, _], [fJ l1, fI (M 28 14), fA 40])) (h' := (156, fjl L, M)) rfl trivial ?_
  obtain ⟨y9, hy, h⟩ := fbd h
  refine Wp.call rfl (by decide) (s_X2_placeOf_40_ok (d := d + 0) hy ?_)
  show Wp (d + 1, 38, 12, 0, 0, [_, _, _], [fI y9]) (156, fjl L, M) Q
  obtain rfl := Option.some.inj h
  exact Wp.done rfl (by decide) H
noncomputable def s_X2_placeOf_41_b3 (M : fM) (l1 l2 l4 : Int) : Option (Int ⊕ (Unit ⊕ Int)) :=
  if l1 ≤ l4 then
    some (.inr (.inl ()))
  else
    if (0 ≤ l4 ∧ l4 < 6) then
      if ¬ (M 41 (l4).toNat) = l2 then
        if fin (l4 + 1) then
          some (.inl (l4 + 1))
        else none
      else
        some (.inr (.inr l4))
    else none
theorem s_X2_placeOf_41_b3_ok {d L : Nat} {M : fM} {l1 l2 l4 : Int} {r : (Int ⊕ (Unit ⊕ Int))} {Q : fO → fH → Prop} (h : s_X2_placeOf_41_b3 M l1 l2 l4 = some r) (hC : ∀ (l4' : Int), r = .inl l4' → Wp (d + 0, 41, 3, 0, 0, [some (fA 41), some (fI l1), some (fJ l2), none, some (fI l4')], []) (156, fjl L, M) Q) (hE : ∀ (e : Unit) (o0' o1' o2' o3' o4' : Option fV), r = .inr (.inl e) → Wp (d + 0, 41, 27, 0, 0, [o0', o1', o2', o3', o4'], []) (156, fjl L, M) Q) (hR : ∀ (v : Int), r = .inr (.inr v) → Q (oI v) (156, fjl L, M)) : Wp (d + 0, 41, 3, 0, 0, [some (fA 41), some (fI l1), some (fJ l2), none, some (fI l4)], []) (156, fjl L, M) Q := by
  unfold s_X2_placeOf_41_b3 at h
  refine Wp.run 2 (f' := (d + 0, 41, 6, 0, 0, [some (fA 41), some (fI l1), some (fJ l2), none, some (fI l4)], [fI l1, fI l4])) (h' := (156, fjl L, M)) rfl trivial ?_
  refine Wp.br rfl (fun (c : l1 ≤ l4) => ?_) (fun (c : ¬ (l1 ≤ l4)) => ?_)
  · replace h := fps c h
    exact hE _ _ _ _ _ _ (Option.some.inj h).symm
  · replace h := fng c h
    obtain ⟨g0, h⟩ := fgd h
    refine Wp.run 5 (P := [0 ≤ l4 ∧ l4 < 6]) (f' := (d + 0, 41, 15, 0, 0, [some (fA 41), some (fI l1), some (fJ l2), none, some (fI l4)], [fI (fcm (M 41 (l4).toNat) l2)])) (h' := (156, fjl L, M)) rfl ?_ ?_
    · exact g0
    refine Wp.br rfl (fun (c : ¬ (fcm (M 41 (l4).toNat) l2) = 0) => ?_) (fun (c : ¬ (¬ (fcm (M 41 (l4).toNat) l2) = 0)) => ?_)
    · replace c := (fcm_ne _ _).mp c
      replace h := fps c h
      obtain ⟨g0, h⟩ := fgd h
      refine Wp.run 2 (f' := (d + 0, 41, 3, 0, 0, [some (fA 41), some (fI l1), some (fJ l2), none, some (fI (fw (l4 + 1)))], [])) (h' := (156, fjl L, M)) rfl trivial ?_
      rw [fw_id g0]
      exact hC _ (Option.some.inj h).symm
    · replace c := fun z => c ((fcm_ne _ _).mpr z)
      replace h := fng c h
      refine Wp.run 1 (f' := (d + 0, 41, 20, 0, 0, [_, _, _, _, _], [fI l4])) (h' := (156, fjl L, M)) rfl trivial ?_
      exact Wp.done rfl (by decide) (hR _ (Option.some.inj h).symm)
noncomputable def s_X2_placeOf_41_l3 (M : fM) (l1 l2 : Int) (s : Int) : Option (Unit ⊕ Int) := fLp (fun s => s_X2_placeOf_41_b3 M l1 l2 s) s
theorem s_X2_placeOf_41_l3_ok {d L : Nat} {M : fM} {l1 l2 l4 : Int} {r : (Unit ⊕ Int)} {Q : fO → fH → Prop} (h : s_X2_placeOf_41_l3 M l1 l2 l4 = some r) (hE : ∀ (e : Unit) (o0' o1' o2' o3' o4' : Option fV), r = .inl e → Wp (d + 0, 41, 27, 0, 0, [o0', o1', o2', o3', o4'], []) (156, fjl L, M) Q) (hR : ∀ (v : Int), r = .inr v → Q (oI v) (156, fjl L, M)) : Wp (d + 0, 41, 3, 0, 0, [some (fA 41), some (fI l1), some (fJ l2), none, some (fI l4)], []) (156, fjl L, M) Q := by
  refine fLp_wp (W := fun s => Wp (d + 0, 41, 3, 0, 0, [some (fA 41), some (fI l1), some (fJ l2), none, some (fI s)], []) (156, fjl L, M) Q) (e := r) ?_ h
  intro s r1 h hC hX
  refine s_X2_placeOf_41_b3_ok (d := d) h (fun a0 e1 => ?_) (fun e u0 u1 u2 u3 u4 e1 => hE e u0 u1 u2 u3 u4 (hX _ e1).symm) (fun v e1 => hR v (hX _ e1).symm)
  exact hC _ e1
noncomputable def s_X2_placeOf_41 (M : fM) (l1 l2 : Int) : Option Int :=
  (s_X2_placeOf_41_l3 M l1 l2 0).bind fun e3 =>
    Sum.elim (fun x3 =>
      some (-1))
      (fun v3 => some v3) e3
theorem s_X2_placeOf_41_ok {d L : Nat} {M : fM} {l1 l2 : Int} {r : Int} {Q : fO → fH → Prop} (h : s_X2_placeOf_41 M l1 l2 = some r) (H : Q (oI r) (156, fjl L, M)) : Wp (d + 0, 41, 0, 0, 0, [some (fA 41), some (fI l1), some (fJ l2), none, none], []) (156, fjl L, M) Q := by
  unfold s_X2_placeOf_41 at h
  refine Wp.run 2 (f' := (d + 0, 41, 3, 0, 0, [some (fA 41), some (fI l1), some (fJ l2), none, some (fI 0)], [])) (h' := (156, fjl L, M)) rfl trivial ?_
  obtain ⟨e3, hy, h⟩ := fbd h
  refine s_X2_placeOf_41_l3_ok hy (fun x3 u0 u1 u2 u3 u4 ex => ?_) (fun v3 ex => ?_)
  · subst ex
    replace h := fsl h
    show Wp (d + 0, 41, 27, 0, 0, [u0, u1, u2, u3, u4], []) (156, fjl L, M) Q
    refine Wp.run 1 (f' := (d + 0, 41, 28, 0, 0, [_, _, _, _, _], [fI (-1)])) (h' := (156, fjl L, M)) rfl trivial ?_
    obtain rfl := Option.some.inj h
    exact Wp.done rfl (by decide) H
  · subst ex
    replace h := fsr h
    obtain rfl := Option.some.inj h
    exact H
noncomputable def s_X2_pupilNamed_28 (M : fM) (l1 : Int) : Option Int :=
  (s_X2_placeOf_41 M (M 28 15) l1).bind fun y9 =>
    some y9
theorem s_X2_pupilNamed_28_ok {d L : Nat} {M : fM} {l1 : Int} {r : Int} {Q : fO → fH → Prop} (h : s_X2_pupilNamed_28 M l1 = some r) (H : Q (oI r) (156, fjl L, M)) : Wp (d + 1, 39, 0, 0, 0, [some (fA 28), some (fJ l1), none], []) (156, fjl L, M) Q := by
  unfold s_X2_pupilNamed_28 at h
  refine Wp.run 5 (f' := (d + 1, 39, 9, 0, 0, [_, _, _], [fJ l1, fI (M 28 15), fA 41])) (h' := (156, fjl L, M)) rfl trivial ?_
  obtain ⟨y9, hy, h⟩ := fbd h
  refine Wp.call rfl (by decide) (s_X2_placeOf_41_ok (d := d + 0) hy ?_)
  show Wp (d + 1, 39, 12, 0, 0, [_, _, _], [fI y9]) (156, fjl L, M) Q
  obtain rfl := Option.some.inj h
  exact Wp.done rfl (by decide) H
abbrev s_X3_readTeach_mods : List (Nat × Option Nat) := [(1, some 4), (1, some 5), (1, some 6), (1, some 7), (1, some 8), (1, some 9), (1, some 10), (38, none)]
noncomputable def s_X3_readTeach_j54 (M : fM) (l1 l2 : Int) : Option ((Unit ⊕ Unit) × fM) :=
  if fin (l1 * 6) ∧ fin ((l1 * 6) + l2) then
    (s_X10_takeNumber M 0 99).bind fun y74 =>
      fel y74.1
        (fun w74 =>
          if (0 ≤ ((l1 * 6) + l2) ∧ ((l1 * 6) + l2) < 36) then
            (s_X10_take (fup y74.2 38 ((l1 * 6) + l2).toNat w74)).bind fun y82 =>
              some (.inl (), y82.2)
          else none)
        (some (.inr (), y74.2))
  else none
theorem s_X3_readTeach_j54_ok {d L : Nat} {M : fM} {l1 l2 : Int} {r : ((Unit ⊕ Unit) × fM)} {Q : fO → fH → Prop} (h : s_X3_readTeach_j54 M l1 l2 = some r) (H : Q (oT oV 1 r.1) (156, fjl L, r.2)) : Wp (d + 10, 62, 54, 0, 0, [some (fA 27), some (fI l1), some (fI l2)], []) (156, fjl L, M) Q := by
  unfold s_X3_readTeach_j54 at h
  obtain ⟨⟨g0, g1⟩, h⟩ := fgd h
  refine Wp.run 12 (f' := (d + 10, 62, 74, 0, 0, [some (fA 27), _, _], [fI 99, fI 0, fA 1, fI (fw ((fw (l1 * 6)) + l2)), fA 38])) (h' := (156, fjl L, M)) rfl trivial ?_
  rw [fw_id g0, fw_id g1]
  obtain ⟨y74, hy, h⟩ := fbd h
  refine Wp.call rfl (by decide) (s_X10_takeNumber_ok (d := d + 0) hy ?_)
  obtain ⟨w74, ew, h⟩ | ⟨ew, h⟩ := fel_of h
  · rw [ew]
    show Wp (d + 10, 62, 77, 0, 0, [some (fA 27), _, _], [fI w74, fI ((l1 * 6) + l2), fA 38]) (156, fjl L, y74.2) Q
    obtain ⟨g0, h⟩ := fgd h
    refine Wp.run 3 (P := [0 ≤ ((l1 * 6) + l2) ∧ ((l1 * 6) + l2) < 36]) (f' := (d + 10, 62, 82, 0, 0, [_, _, _], [fA 1])) (h' := (156, fjl L, (fup y74.2 38 ((l1 * 6) + l2).toNat w74))) rfl ?_ ?_
    · exact g0
    obtain ⟨y82, hy, h⟩ := fbd h
    refine Wp.call rfl (by decide) (s_X10_take_ok (d := d + 7) hy ?_)
    show Wp (d + 10, 62, 85, 0, 0, [_, _, _], []) (156, fjl L, y82.2) Q
    obtain rfl := Option.some.inj h
    exact Wp.done rfl (by decide) H
  · rw [ew]
    obtain rfl := Option.some.inj h
    exact ⟨⟨rfl, rfl⟩, H⟩
theorem s_X3_readTeach_j54_fr {M : fM} {l1 l2 : Int} {r : ((Unit ⊕ Unit) × fM)} (h : s_X3_readTeach_j54 M l1 l2 = some r) : fSame s_X3_readTeach_mods M r.2 := by
  unfold s_X3_readTeach_j54 at h
  replace h := (fgd h).2
  obtain ⟨y74, hy, h⟩ := fbd h
  have k74 := fs_trans (l := s_X3_readTeach_mods) fs_refl (fs_mono (l := s_X10_takeNumber_mods) (by decide) (s_X10_takeNumber_fr hy))
  obtain ⟨w74, ew, h⟩ | ⟨ew, h⟩ := fel_of h
  · replace h := (fgd h).2
    obtain ⟨y82, hy, h⟩ := fbd h
    have k82 := fs_trans (l := s_X3_readTeach_mods) (fs_up k74 (.inl (by decide))) (fs_mono (l := s_X10_take_mods) (by decide) (s_X10_take_fr hy))
    obtain rfl := Option.some.inj h
    exact k82
  · obtain rfl := Option.some.inj h
    exact k74
noncomputable def s_X3_readTeach_j27 (M : fM) (l1 : Int) : Option ((Unit ⊕ Unit) × fM) :=
  (s_X10_takeName M).bind fun y35 =>
    fel y35.1
      (fun w35 =>
        (s_X2_pupilNamed_28 y35.2 w35).bind fun y38 =>
          if 0 ≤ y38 then
            s_X3_readTeach_j54 y35.2 l1 y38
          else
            (s_X10_fail y35.2 3).bind fun y51 =>
              fel y51.1
                (fun w51 =>
                  s_X3_readTeach_j54 y51.2 l1 y38)
                (some (.inr (), y51.2)))
      (some (.inr (), y35.2))
theorem s_X3_readTeach_j27_ok {d L : Nat} {M : fM} {l1 : Int} {o2 : Option fV} {r : ((Unit ⊕ Unit) × fM)} {Q : fO → fH → Prop} (h : s_X3_readTeach_j27 M l1 = some r) (H : Q (oT oV 1 r.1) (156, fjl L, r.2)) : Wp (d + 10, 62, 27, 0, 0, [some (fA 27), some (fI l1), o2], []) (156, fjl L, M) Q := by
  unfold s_X3_readTeach_j27 at h
  refine Wp.run 4 (f' := (d + 10, 62, 35, 0, 0, [some (fA 27), some (fI l1), _], [fA 1, fA 28])) (h' := (156, fjl L, M)) rfl trivial ?_
  obtain ⟨y35, hy, h⟩ := fbd h
  refine Wp.call rfl (by decide) (s_X10_takeName_ok (d := d + 1) hy ?_)
  obtain ⟨w35, ew, h⟩ | ⟨ew, h⟩ := fel_of h
  · rw [ew]
    show Wp (d + 10, 62, 38, 0, 0, [some (fA 27), some (fI l1), _], [fJ w35, fA 28]) (156, fjl L, y35.2) Q
    obtain ⟨y38, hy, h⟩ := fbd h
    refine Wp.call rfl (by decide) (s_X2_pupilNamed_28_ok (d := d + 8) hy ?_)
    show Wp (d + 10, 62, 41, 0, 0, [some (fA 27), some (fI l1), _], [fI y38]) (156, fjl L, y35.2) Q
    refine Wp.run 2 (f' := (d + 10, 62, 43, 0, 0, [some (fA 27), some (fI l1), some (fI y38)], [fI y38])) (h' := (156, fjl L, y35.2)) rfl trivial ?_
    refine Wp.br rfl (fun (c : 0 ≤ y38) => ?_) (fun (c : ¬ (0 ≤ y38)) => ?_)
    · replace h := fps c h
      exact s_X3_readTeach_j54_ok h H
    · replace h := fng c h
      refine Wp.run 3 (f' := (d + 10, 62, 51, 0, 0, [some (fA 27), some (fI l1), some (fI y38)], [fI 3, fA 1])) (h' := (156, fjl L, y35.2)) rfl trivial ?_
      obtain ⟨y51, hy, h⟩ := fbd h
      refine Wp.call rfl (by decide) (s_X10_fail_ok (d := d + 2) hy ?_)
      obtain ⟨w51, ew, h⟩ | ⟨ew, h⟩ := fel_of h
      · rw [ew]
        show Wp (d + 10, 62, 54, 0, 0, [some (fA 27), some (fI l1), some (fI y38)], []) (156, fjl L, y51.2) Q
        exact s_X3_readTeach_j54_ok h H
      · rw [ew]
        obtain rfl := Option.some.inj h
        exact ⟨⟨rfl, rfl⟩, H⟩
  · rw [ew]
    obtain rfl := Option.some.inj h
    exact ⟨⟨rfl, rfl⟩, H⟩
theorem s_X3_readTeach_j27_fr {M : fM} {l1 : Int} {r : ((Unit ⊕ Unit) × fM)} (h : s_X3_readTeach_j27 M l1 = some r) : fSame s_X3_readTeach_mods M r.2 := by
  unfold s_X3_readTeach_j27 at h
  obtain ⟨y35, hy, h⟩ := fbd h
  have k35 := fs_trans (l := s_X3_readTeach_mods) fs_refl (fs_mono (l := s_X10_takeName_mods) (by decide) (s_X10_takeName_fr hy))
  obtain ⟨w35, ew, h⟩ | ⟨ew, h⟩ := fel_of h
  · obtain ⟨y38, hy, h⟩ := fbd h
    by_cases c : 0 ≤ y38
    · replace h := fps c h
      exact fs_trans k35 (s_X3_readTeach_j54_fr h)
    · replace h := fng c h
      obtain ⟨y51, hy, h⟩ := fbd h
      have k51 := fs_trans (l := s_X3_readTeach_mods) k35 (fs_mono (l := s_X10_fail_mods) (by decide) (s_X10_fail_fr hy))
      obtain ⟨w51, ew, h⟩ | ⟨ew, h⟩ := fel_of h
      · exact fs_trans k51 (s_X3_readTeach_j54_fr h)
      · obtain rfl := Option.some.inj h
        exact k51
  · obtain rfl := Option.some.inj h
    exact k35
noncomputable def s_X3_readTeach (M : fM) : Option ((Unit ⊕ Unit) × fM) :=
  (s_X10_takeName M).bind fun y8 =>
    fel y8.1
      (fun w8 =>
        (s_X2_tunerNamed_28 y8.2 w8).bind fun y11 =>
          if 0 ≤ y11 then
            s_X3_readTeach_j27 y8.2 y11
          else
            (s_X10_fail y8.2 3).bind fun y24 =>
              fel y24.1
                (fun w24 =>
                  s_X3_readTeach_j27 y24.2 y11)
                (some (.inr (), y24.2)))
      (some (.inr (), y8.2))
theorem s_X3_readTeach_ok {d L : Nat} {M : fM} {r : ((Unit ⊕ Unit) × fM)} {Q : fO → fH → Prop} (h : s_X3_readTeach M = some r) (H : Q (oT oV 1 r.1) (156, fjl L, r.2)) : Wp (d + 10, 62, 0, 0, 0, [some (fA 27), none, none], []) (156, fjl L, M) Q := by
  unfold s_X3_readTeach at h
  refine Wp.run 4 (f' := (d + 10, 62, 8, 0, 0, [some (fA 27), _, _], [fA 1, fA 28])) (h' := (156, fjl L, M)) rfl trivial ?_
  obtain ⟨y8, hy, h⟩ := fbd h
  refine Wp.call rfl (by decide) (s_X10_takeName_ok (d := d + 1) hy ?_)
  obtain ⟨w8, ew, h⟩ | ⟨ew, h⟩ := fel_of h
  · rw [ew]
    show Wp (d + 10, 62, 11, 0, 0, [some (fA 27), _, _], [fJ w8, fA 28]) (156, fjl L, y8.2) Q
    obtain ⟨y11, hy, h⟩ := fbd h
    refine Wp.call rfl (by decide) (s_X2_tunerNamed_28_ok (d := d + 8) hy ?_)
    show Wp (d + 10, 62, 14, 0, 0, [some (fA 27), _, _], [fI y11]) (156, fjl L, y8.2) Q
    refine Wp.run 2 (f' := (d + 10, 62, 16, 0, 0, [some (fA 27), some (fI y11), _], [fI y11])) (h' := (156, fjl L, y8.2)) rfl trivial ?_
    refine Wp.br rfl (fun (c : 0 ≤ y11) => ?_) (fun (c : ¬ (0 ≤ y11)) => ?_)
    · replace h := fps c h
      exact s_X3_readTeach_j27_ok h H
    · replace h := fng c h
      refine Wp.run 3 (f' := (d + 10, 62, 24, 0, 0, [some (fA 27), some (fI y11), _], [fI 3, fA 1])) (h' := (156, fjl L, y8.2)) rfl trivial ?_
      obtain ⟨y24, hy, h⟩ := fbd h
      refine Wp.call rfl (by decide) (s_X10_fail_ok (d := d + 2) hy ?_)
      obtain ⟨w24, ew, h⟩ | ⟨ew, h⟩ := fel_of h
      · rw [ew]
        show Wp (d + 10, 62, 27, 0, 0, [some (fA 27), some (fI y11), _], []) (156, fjl L, y24.2) Q
        exact s_X3_readTeach_j27_ok h H
      · rw [ew]
        obtain rfl := Option.some.inj h
        exact ⟨⟨rfl, rfl⟩, H⟩
  · rw [ew]
    obtain rfl := Option.some.inj h
    exact ⟨⟨rfl, rfl⟩, H⟩
theorem s_X3_readTeach_fr {M : fM} {r : ((Unit ⊕ Unit) × fM)} (h : s_X3_readTeach M = some r) : fSame s_X3_readTeach_mods M r.2 := by
  unfold s_X3_readTeach at h
  obtain ⟨y8, hy, h⟩ := fbd h
  have k8 := fs_trans (l := s_X3_readTeach_mods) fs_refl (fs_mono (l := s_X10_takeName_mods) (by decide) (s_X10_takeName_fr hy))
  obtain ⟨w8, ew, h⟩ | ⟨ew, h⟩ := fel_of h
  · obtain ⟨y11, hy, h⟩ := fbd h
    by_cases c : 0 ≤ y11
    · replace h := fps c h
      exact fs_trans k8 (s_X3_readTeach_j27_fr h)
    · replace h := fng c h
      obtain ⟨y24, hy, h⟩ := fbd h
      have k24 := fs_trans (l := s_X3_readTeach_mods) k8 (fs_mono (l := s_X10_fail_mods) (by decide) (s_X10_fail_fr hy))
      obtain ⟨w24, ew, h⟩ | ⟨ew, h⟩ := fel_of h
      · exact fs_trans k24 (s_X3_readTeach_j27_fr h)
      · obtain rfl := Option.some.inj h
        exact k24
  · obtain rfl := Option.some.inj h
    exact k8
noncomputable def s_X2_placeOf_39_b3 (M : fM) (l1 l2 l4 : Int) : Option (Int ⊕ (Unit ⊕ Int)) :=
  if l1 ≤ l4 then
    some (.inr (.inl ()))
  else
    if (0 ≤ l4 ∧ l4 < 16) then
      if ¬ (M 39 (l4).toNat) = l2 then
        if fin (l4 + 1) then
          some (.inl (l4 + 1))
        else none
      else
        some (.inr (.inr l4))
    else none
theorem s_X2_placeOf_39_b3_ok {d L : Nat} {M : fM} {l1 l2 l4 : Int} {r : (Int ⊕ (Unit ⊕ Int))} {Q : fO → fH → Prop} (h : s_X2_placeOf_39_b3 M l1 l2 l4 = some r) (hC : ∀ (l4' : Int), r = .inl l4' → Wp (d + 0, 41, 3, 0, 0, [some (fA 39), some (fI l1), some (fJ l2), none, some (fI l4')], []) (156, fjl L, M) Q) (hE : ∀ (e : Unit) (o0' o1' o2' o3' o4' : Option fV), r = .inr (.inl e) → Wp (d + 0, 41, 27, 0, 0, [o0', o1', o2', o3', o4'], []) (156, fjl L, M) Q) (hR : ∀ (v : Int), r = .inr (.inr v) → Q (oI v) (156, fjl L, M)) : Wp (d + 0, 41, 3, 0, 0, [some (fA 39), some (fI l1), some (fJ l2), none, some (fI l4)], []) (156, fjl L, M) Q := by
  unfold s_X2_placeOf_39_b3 at h
  refine Wp.run 2 (f' := (d + 0, 41, 6, 0, 0, [some (fA 39), some (fI l1), some (fJ l2), none, some (fI l4)], [fI l1, fI l4])) (h' := (156, fjl L, M)) rfl trivial ?_
  refine Wp.br rfl (fun (c : l1 ≤ l4) => ?_) (fun (c : ¬ (l1 ≤ l4)) => ?_)
  · replace h := fps c h
    exact hE _ _ _ _ _ _ (Option.some.inj h).symm
  · replace h := fng c h
    obtain ⟨g0, h⟩ := fgd h
    refine Wp.run 5 (P := [0 ≤ l4 ∧ l4 < 16]) (f' := (d + 0, 41, 15, 0, 0, [some (fA 39), some (fI l1), some (fJ l2), none, some (fI l4)], [fI (fcm (M 39 (l4).toNat) l2)])) (h' := (156, fjl L, M)) rfl ?_ ?_
    · exact g0
    refine Wp.br rfl (fun (c : ¬ (fcm (M 39 (l4).toNat) l2) = 0) => ?_) (fun (c : ¬ (¬ (fcm (M 39 (l4).toNat) l2) = 0)) => ?_)
    · replace c := (fcm_ne _ _).mp c
      replace h := fps c h
      obtain ⟨g0, h⟩ := fgd h
      refine Wp.run 2 (f' := (d + 0, 41, 3, 0, 0, [some (fA 39), some (fI l1), some (fJ l2), none, some (fI (fw (l4 + 1)))], [])) (h' := (156, fjl L, M)) rfl trivial ?_
      rw [fw_id g0]
      exact hC _ (Option.some.inj h).symm
    · replace c := fun z => c ((fcm_ne _ _).mpr z)
      replace h := fng c h
      refine Wp.run 1 (f' := (d + 0, 41, 20, 0, 0, [_, _, _, _, _], [fI l4])) (h' := (156, fjl L, M)) rfl trivial ?_
      exact Wp.done rfl (by decide) (hR _ (Option.some.inj h).symm)
noncomputable def s_X2_placeOf_39_l3 (M : fM) (l1 l2 : Int) (s : Int) : Option (Unit ⊕ Int) := fLp (fun s => s_X2_placeOf_39_b3 M l1 l2 s) s
theorem s_X2_placeOf_39_l3_ok {d L : Nat} {M : fM} {l1 l2 l4 : Int} {r : (Unit ⊕ Int)} {Q : fO → fH → Prop} (h : s_X2_placeOf_39_l3 M l1 l2 l4 = some r) (hE : ∀ (e : Unit) (o0' o1' o2' o3' o4' : Option fV), r = .inl e → Wp (d + 0, 41, 27, 0, 0, [o0', o1', o2', o3', o4'], []) (156, fjl L, M) Q) (hR : ∀ (v : Int), r = .inr v → Q (oI v) (156, fjl L, M)) : Wp (d + 0, 41, 3, 0, 0, [some (fA 39), some (fI l1), some (fJ l2), none, some (fI l4)], []) (156, fjl L, M) Q := by
  refine fLp_wp (W := fun s => Wp (d + 0, 41, 3, 0, 0, [some (fA 39), some (fI l1), some (fJ l2), none, some (fI s)], []) (156, fjl L, M) Q) (e := r) ?_ h
  intro s r1 h hC hX
  refine s_X2_placeOf_39_b3_ok (d := d) h (fun a0 e1 => ?_) (fun e u0 u1 u2 u3 u4 e1 => hE e u0 u1 u2 u3 u4 (hX _ e1).symm) (fun v e1 => hR v (hX _ e1).symm)
  exact hC _ e1
noncomputable def s_X2_placeOf_39 (M : fM) (l1 l2 : Int) : Option Int :=
  (s_X2_placeOf_39_l3 M l1 l2 0).bind fun e3 =>
    Sum.elim (fun x3 =>
      some (-1))
      (fun v3 => some v3) e3
theorem s_X2_placeOf_39_ok {d L : Nat} {M : fM} {l1 l2 : Int} {r : Int} {Q : fO → fH → Prop} (h : s_X2_placeOf_39 M l1 l2 = some r) (H : Q (oI r) (156, fjl L, M)) : Wp (d + 0, 41, 0, 0, 0, [some (fA 39), some (fI l1), some (fJ l2), none, none], []) (156, fjl L, M) Q := by
  unfold s_X2_placeOf_39 at h
  refine Wp.run 2 (f' := (d + 0, 41, 3, 0, 0, [some (fA 39), some (fI l1), some (fJ l2), none, some (fI 0)], [])) (h' := (156, fjl L, M)) rfl trivial ?_
  obtain ⟨e3, hy, h⟩ := fbd h
  refine s_X2_placeOf_39_l3_ok hy (fun x3 u0 u1 u2 u3 u4 ex => ?_) (fun v3 ex => ?_)
  · subst ex
    replace h := fsl h
    show Wp (d + 0, 41, 27, 0, 0, [u0, u1, u2, u3, u4], []) (156, fjl L, M) Q
    refine Wp.run 1 (f' := (d + 0, 41, 28, 0, 0, [_, _, _, _, _], [fI (-1)])) (h' := (156, fjl L, M)) rfl trivial ?_
    obtain rfl := Option.some.inj h
    exact Wp.done rfl (by decide) H
  · subst ex
    replace h := fsr h
    obtain rfl := Option.some.inj h
    exact H
noncomputable def s_X2_pianoNamed_28 (M : fM) (l1 : Int) : Option Int :=
  (s_X2_placeOf_39 M (M 28 13) l1).bind fun y9 =>
    some y9
theorem s_X2_pianoNamed_28_ok {d L : Nat} {M : fM} {l1 : Int} {r : Int} {Q : fO → fH → Prop} (h : s_X2_pianoNamed_28 M l1 = some r) (H : Q (oI r) (156, fjl L, M)) : Wp (d + 1, 37, 0, 0, 0, [some (fA 28), some (fJ l1), none], []) (156, fjl L, M) Q := by
  unfold s_X2_pianoNamed_28 at h
  refine Wp.run 5 (f' := (d + 1, 37, 9, 0, 0, [_, _, _], [fJ l1, fI (M 28 13), fA 39])) (h' := (156, fjl L, M)) rfl trivial ?_
  obtain ⟨y9, hy, h⟩ := fbd h
  refine Wp.call rfl (by decide) (s_X2_placeOf_39_ok (d := d + 0) hy ?_)
  show Wp (d + 1, 37, 12, 0, 0, [_, _, _], [fI y9]) (156, fjl L, M) Q
  obtain rfl := Option.some.inj h
  exact Wp.done rfl (by decide) H
noncomputable def s_X2_isNameTold_28 (M : fM) (l1 : Int) : Option Int :=
  (s_X2_pianoNamed_28 M l1).bind fun y2 =>
    if 0 ≤ y2 then
      some 1
    else
      (s_X2_tunerNamed_28 M l1).bind fun y10 =>
        if 0 ≤ y10 then
          some 1
        else
          (s_X2_pupilNamed_28 M l1).bind fun y18 =>
            if y18 < 0 then
              some 0
            else
              some 1
theorem s_X2_isNameTold_28_ok {d L : Nat} {M : fM} {l1 : Int} {r : Int} {Q : fO → fH → Prop} (h : s_X2_isNameTold_28 M l1 = some r) (H : Q (oI r) (156, fjl L, M)) : Wp (d + 2, 40, 0, 0, 0, [some (fA 28), some (fJ l1), none], []) (156, fjl L, M) Q := by
  unfold s_X2_isNameTold_28 at h
  refine Wp.run 2 (f' := (d + 2, 40, 2, 0, 0, [some (fA 28), some (fJ l1), none], [fJ l1, fA 28])) (h' := (156, fjl L, M)) rfl trivial ?_
  obtain ⟨y2, hy, h⟩ := fbd h
  refine Wp.call rfl (by decide) (s_X2_pianoNamed_28_ok (d := d + 0) hy ?_)
  show Wp (d + 2, 40, 5, 0, 0, [some (fA 28), some (fJ l1), none], [fI y2]) (156, fjl L, M) Q
  refine Wp.br rfl (fun (c : 0 ≤ y2) => ?_) (fun (c : ¬ (0 ≤ y2)) => ?_)
  · replace h := fps c h
    refine Wp.run 2 (f' := (d + 2, 40, 29, 0, 0, [_, _, _], [fI 1])) (h' := (156, fjl L, M)) rfl trivial ?_
    obtain rfl := Option.some.inj h
    exact Wp.done rfl (by decide) H
  · replace h := fng c h
    refine Wp.run 2 (f' := (d + 2, 40, 10, 0, 0, [some (fA 28), some (fJ l1), none], [fJ l1, fA 28])) (h' := (156, fjl L, M)) rfl trivial ?_
    obtain ⟨y10, hy, h⟩ := fbd h
    refine Wp.call rfl (by decide) (s_X2_tunerNamed_28_ok (d := d + 0) hy ?_)
    show Wp (d + 2, 40, 13, 0, 0, [some (fA 28), some (fJ l1), none], [fI y10]) (156, fjl L, M) Q
    refine Wp.br rfl (fun (c : 0 ≤ y10) => ?_) (fun (c : ¬ (0 ≤ y10)) => ?_)
    · replace h := fps c h
      refine Wp.run 2 (f' := (d + 2, 40, 29, 0, 0, [_, _, _], [fI 1])) (h' := (156, fjl L, M)) rfl trivial ?_
      obtain rfl := Option.some.inj h
      exact Wp.done rfl (by decide) H
    · replace h := fng c h
      refine Wp.run 2 (f' := (d + 2, 40, 18, 0, 0, [_, _, _], [fJ l1, fA 28])) (h' := (156, fjl L, M)) rfl trivial ?_
      obtain ⟨y18, hy, h⟩ := fbd h
      refine Wp.call rfl (by decide) (s_X2_pupilNamed_28_ok (d := d + 0) hy ?_)
      show Wp (d + 2, 40, 21, 0, 0, [_, _, _], [fI y18]) (156, fjl L, M) Q
      refine Wp.br rfl (fun (c : y18 < 0) => ?_) (fun (c : ¬ (y18 < 0)) => ?_)
      · replace h := fps c h
        refine Wp.run 1 (f' := (d + 2, 40, 29, 0, 0, [_, _, _], [fI 0])) (h' := (156, fjl L, M)) rfl trivial ?_
        obtain rfl := Option.some.inj h
        exact Wp.done rfl (by decide) H
      · replace h := fng c h
        refine Wp.run 2 (f' := (d + 2, 40, 29, 0, 0, [_, _, _], [fI 1])) (h' := (156, fjl L, M)) rfl trivial ?_
        obtain rfl := Option.some.inj h
        exact Wp.done rfl (by decide) H
abbrev s_X3_takeNewName_mods : List (Nat × Option Nat) := [(1, some 4), (1, some 5), (1, some 6), (1, some 7), (1, some 8), (1, some 9), (1, some 10)]
noncomputable def s_X3_takeNewName (M : fM) : Option ((Int ⊕ Unit) × fM) :=
  (s_X10_takeName M).bind fun y4 =>
    fel y4.1
      (fun w4 =>
        (s_X2_isNameTold_28 y4.2 w4).bind fun y13 =>
          if y13 = 0 then
            some (.inl w4, y4.2)
          else
            (s_X10_fail y4.2 3).bind fun y24 =>
              fel y24.1
                (fun w24 =>
                  some (.inl w4, y24.2))
                (some (.inr (), y24.2)))
      (some (.inr (), y4.2))
theorem s_X3_takeNewName_ok {d L : Nat} {M : fM} {r : ((Int ⊕ Unit) × fM)} {Q : fO → fH → Prop} (h : s_X3_takeNewName M = some r) (H : Q (oT oJ 1 r.1) (156, fjl L, r.2)) : Wp (d + 9, 57, 0, 0, 0, [some (fA 27), none, none], []) (156, fjl L, M) Q := by
  unfold s_X3_takeNewName at h
  refine Wp.run 2 (f' := (d + 9, 57, 4, 0, 0, [some (fA 27), _, _], [fA 1])) (h' := (156, fjl L, M)) rfl trivial ?_
  obtain ⟨y4, hy, h⟩ := fbd h
  refine Wp.call rfl (by decide) (s_X10_takeName_ok (d := d + 0) hy ?_)
  obtain ⟨w4, ew, h⟩ | ⟨ew, h⟩ := fel_of h
  · rw [ew]
    show Wp (d + 9, 57, 7, 0, 0, [some (fA 27), _, _], [fJ w4]) (156, fjl L, y4.2) Q
    refine Wp.run 4 (f' := (d + 9, 57, 13, 0, 0, [some (fA 27), some (fJ w4), none], [fJ w4, fA 28])) (h' := (156, fjl L, y4.2)) rfl trivial ?_
    obtain ⟨y13, hy, h⟩ := fbd h
    refine Wp.call rfl (by decide) (s_X2_isNameTold_28_ok (d := d + 6) hy ?_)
    show Wp (d + 9, 57, 16, 0, 0, [some (fA 27), some (fJ w4), none], [fI y13]) (156, fjl L, y4.2) Q
    refine Wp.br rfl (fun (c : y13 = 0) => ?_) (fun (c : ¬ (y13 = 0)) => ?_)
    · replace h := fps c h
      refine Wp.run 1 (f' := (d + 9, 57, 28, 0, 0, [_, _, _], [fJ w4])) (h' := (156, fjl L, y4.2)) rfl trivial ?_
      obtain rfl := Option.some.inj h
      exact Wp.done rfl (by decide) H
    · replace h := fng c h
      refine Wp.run 3 (f' := (d + 9, 57, 24, 0, 0, [_, some (fJ w4), none], [fI 3, fA 1])) (h' := (156, fjl L, y4.2)) rfl trivial ?_
      obtain ⟨y24, hy, h⟩ := fbd h
      refine Wp.call rfl (by decide) (s_X10_fail_ok (d := d + 1) hy ?_)
      obtain ⟨w24, ew, h⟩ | ⟨ew, h⟩ := fel_of h
      · rw [ew]
        show Wp (d + 9, 57, 27, 0, 0, [_, some (fJ w4), none], []) (156, fjl L, y24.2) Q
        refine Wp.run 1 (f' := (d + 9, 57, 28, 0, 0, [_, _, _], [fJ w4])) (h' := (156, fjl L, y24.2)) rfl trivial ?_
        obtain rfl := Option.some.inj h
        exact Wp.done rfl (by decide) H
      · rw [ew]
        obtain rfl := Option.some.inj h
        exact ⟨⟨rfl, rfl⟩, H⟩
  · rw [ew]
    obtain rfl := Option.some.inj h
    exact ⟨⟨rfl, rfl⟩, H⟩
theorem s_X3_takeNewName_fr {M : fM} {r : ((Int ⊕ Unit) × fM)} (h : s_X3_takeNewName M = some r) : fSame s_X3_takeNewName_mods M r.2 := by
  unfold s_X3_takeNewName at h
  obtain ⟨y4, hy, h⟩ := fbd h
  have k4 := fs_trans (l := s_X3_takeNewName_mods) fs_refl (fs_mono (l := s_X10_takeName_mods) (by decide) (s_X10_takeName_fr hy))
  obtain ⟨w4, ew, h⟩ | ⟨ew, h⟩ := fel_of h
  · obtain ⟨y13, hy, h⟩ := fbd h
    by_cases c : y13 = 0
    · replace h := fps c h
      obtain rfl := Option.some.inj h
      exact k4
    · replace h := fng c h
      obtain ⟨y24, hy, h⟩ := fbd h
      have k24 := fs_trans (l := s_X3_takeNewName_mods) k4 (fs_mono (l := s_X10_fail_mods) (by decide) (s_X10_fail_fr hy))
      obtain ⟨w24, ew, h⟩ | ⟨ew, h⟩ := fel_of h
      · obtain rfl := Option.some.inj h
        exact k24
      · obtain rfl := Option.some.inj h
        exact k24
  · obtain rfl := Option.some.inj h
    exact k4
abbrev s_X10_takeSigned_mods : List (Nat × Option Nat) := [(1, some 4), (1, some 5), (1, some 6), (1, some 7), (1, some 8), (1, some 9), (1, some 10)]
noncomputable def s_X10_takeSigned_j26 (M : fM) (l1 l2 : Int) : Option ((Int ⊕ Unit) × fM) :=
  (s_X10_numberHere M 0 l1).bind fun y29 =>
    fel y29.1
      (fun w29 =>
        if l2 = 0 then
          some (.inl w29, y29.2)
        else
          if fin (-w29) then
            some (.inl (-w29), y29.2)
          else none)
      (some (.inr (), y29.2))
theorem s_X10_takeSigned_j26_ok {d L : Nat} {M : fM} {l1 l2 : Int} {o3 : Option fV} {r : ((Int ⊕ Unit) × fM)} {Q : fO → fH → Prop} (h : s_X10_takeSigned_j26 M l1 l2 = some r) (H : Q (oT oI 1 r.1) (156, fjl L, r.2)) : Wp (d + 9, 144, 26, 0, 0, [some (fA 1), some (fI l1), some (fI l2), o3], []) (156, fjl L, M) Q := by
  unfold s_X10_takeSigned_j26 at h
  refine Wp.run 3 (f' := (d + 9, 144, 29, 0, 0, [_, _, some (fI l2), _], [fI l1, fI 0, fA 1])) (h' := (156, fjl L, M)) rfl trivial ?_
  obtain ⟨y29, hy, h⟩ := fbd h
  refine Wp.call rfl (by decide) (s_X10_numberHere_ok (d := d + 0) hy ?_)
  obtain ⟨w29, ew, h⟩ | ⟨ew, h⟩ := fel_of h
  · rw [ew]
    show Wp (d + 9, 144, 32, 0, 0, [_, _, some (fI l2), _], [fI w29]) (156, fjl L, y29.2) Q
    refine Wp.run 2 (f' := (d + 9, 144, 34, 0, 0, [_, _, _, some (fI w29)], [fI l2])) (h' := (156, fjl L, y29.2)) rfl trivial ?_
    refine Wp.br rfl (fun (c : l2 = 0) => ?_) (fun (c : ¬ (l2 = 0)) => ?_)
    · replace h := fps c h
      refine Wp.run 1 (f' := (d + 9, 144, 43, 0, 0, [_, _, _, _], [fI w29])) (h' := (156, fjl L, y29.2)) rfl trivial ?_
      obtain rfl := Option.some.inj h
      exact Wp.done rfl (by decide) H
    · replace h := fng c h
      obtain ⟨g0, h⟩ := fgd h
      refine Wp.run 3 (f' := (d + 9, 144, 43, 0, 0, [_, _, _, _], [fI (fw (-w29))])) (h' := (156, fjl L, y29.2)) rfl trivial ?_
      rw [fw_id g0]
      obtain rfl := Option.some.inj h
      exact Wp.done rfl (by decide) H
  · rw [ew]
    obtain rfl := Option.some.inj h
    exact ⟨⟨rfl, rfl⟩, H⟩
theorem s_X10_takeSigned_j26_fr {M : fM} {l1 l2 : Int} {r : ((Int ⊕ Unit) × fM)} (h : s_X10_takeSigned_j26 M l1 l2 = some r) : fSame s_X10_takeSigned_mods M r.2 := by
  unfold s_X10_takeSigned_j26 at h
  obtain ⟨y29, hy, h⟩ := fbd h
  have k29 := fs_trans (l := s_X10_takeSigned_mods) fs_refl (fs_mono (l := s_X10_numberHere_mods) (by decide) (s_X10_numberHere_fr hy))
  obtain ⟨w29, ew, h⟩ | ⟨ew, h⟩ := fel_of h
  · by_cases c : l2 = 0
    · replace h := fps c h
      obtain rfl := Option.some.inj h
      exact k29
    · replace h := fng c h
      replace h := (fgd h).2
      obtain rfl := Option.some.inj h
      exact k29
  · obtain rfl := Option.some.inj h
    exact k29
noncomputable def s_X10_takeSigned_j17 (M : fM) (l1 t0 : Int) : Option ((Int ⊕ Unit) × fM) :=
  if t0 = 0 then
    s_X10_takeSigned_j26 M l1 t0
  else
    (s_X10_take M).bind fun y23 =>
      s_X10_takeSigned_j26 y23.2 l1 t0
theorem s_X10_takeSigned_j17_ok {d L : Nat} {M : fM} {l1 t0 : Int} {o2 o3 : Option fV} {r : ((Int ⊕ Unit) × fM)} {Q : fO → fH → Prop} (h : s_X10_takeSigned_j17 M l1 t0 = some r) (H : Q (oT oI 1 r.1) (156, fjl L, r.2)) : Wp (d + 9, 144, 17, 0, 0, [some (fA 1), some (fI l1), o2, o3], [fI t0]) (156, fjl L, M) Q := by
  unfold s_X10_takeSigned_j17 at h
  refine Wp.run 2 (f' := (d + 9, 144, 19, 0, 0, [some (fA 1), some (fI l1), some (fI t0), _], [fI t0])) (h' := (156, fjl L, M)) rfl trivial ?_
  refine Wp.br rfl (fun (c : t0 = 0) => ?_) (fun (c : ¬ (t0 = 0)) => ?_)
  · replace h := fps c h
    exact s_X10_takeSigned_j26_ok h H
  · replace h := fng c h
    refine Wp.run 1 (f' := (d + 9, 144, 23, 0, 0, [some (fA 1), some (fI l1), some (fI t0), _], [fA 1])) (h' := (156, fjl L, M)) rfl trivial ?_
    obtain ⟨y23, hy, h⟩ := fbd h
    refine Wp.call rfl (by decide) (s_X10_take_ok (d := d + 6) hy ?_)
    show Wp (d + 9, 144, 26, 0, 0, [some (fA 1), some (fI l1), some (fI t0), _], []) (156, fjl L, y23.2) Q
    exact s_X10_takeSigned_j26_ok h H
theorem s_X10_takeSigned_j17_fr {M : fM} {l1 t0 : Int} {r : ((Int ⊕ Unit) × fM)} (h : s_X10_takeSigned_j17 M l1 t0 = some r) : fSame s_X10_takeSigned_mods M r.2 := by
  unfold s_X10_takeSigned_j17 at h
  by_cases c : t0 = 0
  · replace h := fps c h
    exact fs_trans fs_refl (s_X10_takeSigned_j26_fr h)
  · replace h := fng c h
    obtain ⟨y23, hy, h⟩ := fbd h
    have k23 := fs_trans (l := s_X10_takeSigned_mods) fs_refl (fs_mono (l := s_X10_take_mods) (by decide) (s_X10_take_fr hy))
    exact fs_trans k23 (s_X10_takeSigned_j26_fr h)
noncomputable def s_X10_takeSigned (M : fM) (l1 : Int) : Option ((Int ⊕ Unit) × fM) :=
  (s_X10_take M).bind fun y1 =>
    if ¬ (y1.2 1 6) = 5 then
      s_X10_takeSigned_j17 y1.2 l1 0
    else
      s_X10_takeSigned_j17 y1.2 l1 1
theorem s_X10_takeSigned_ok {d L : Nat} {M : fM} {l1 : Int} {r : ((Int ⊕ Unit) × fM)} {Q : fO → fH → Prop} (h : s_X10_takeSigned M l1 = some r) (H : Q (oT oI 1 r.1) (156, fjl L, r.2)) : Wp (d + 9, 144, 0, 0, 0, [some (fA 1), some (fI l1), none, none], []) (156, fjl L, M) Q := by
  unfold s_X10_takeSigned at h
  refine Wp.run 1 (f' := (d + 9, 144, 1, 0, 0, [some (fA 1), some (fI l1), _, _], [fA 1])) (h' := (156, fjl L, M)) rfl trivial ?_
  obtain ⟨y1, hy, h⟩ := fbd h
  refine Wp.call rfl (by decide) (s_X10_take_ok (d := d + 6) hy ?_)
  show Wp (d + 9, 144, 4, 0, 0, [some (fA 1), some (fI l1), _, _], []) (156, fjl L, y1.2) Q
  refine Wp.run 3 (f' := (d + 9, 144, 9, 0, 0, [some (fA 1), some (fI l1), _, _], [fI 5, fI (y1.2 1 6)])) (h' := (156, fjl L, y1.2)) rfl trivial ?_
  refine Wp.br rfl (fun (c : ¬ (y1.2 1 6) = 5) => ?_) (fun (c : ¬ (¬ (y1.2 1 6) = 5)) => ?_)
  · replace h := fps c h
    refine Wp.run 1 (f' := (d + 9, 144, 17, 0, 0, [some (fA 1), some (fI l1), _, _], [fI 0])) (h' := (156, fjl L, y1.2)) rfl trivial ?_
    exact s_X10_takeSigned_j17_ok h H
  · replace h := fng c h
    refine Wp.run 2 (f' := (d + 9, 144, 17, 0, 0, [some (fA 1), some (fI l1), _, _], [fI 1])) (h' := (156, fjl L, y1.2)) rfl trivial ?_
    exact s_X10_takeSigned_j17_ok h H
theorem s_X10_takeSigned_fr {M : fM} {l1 : Int} {r : ((Int ⊕ Unit) × fM)} (h : s_X10_takeSigned M l1 = some r) : fSame s_X10_takeSigned_mods M r.2 := by
  unfold s_X10_takeSigned at h
  obtain ⟨y1, hy, h⟩ := fbd h
  have k1 := fs_trans (l := s_X10_takeSigned_mods) fs_refl (fs_mono (l := s_X10_take_mods) (by decide) (s_X10_take_fr hy))
  by_cases c : ¬ (y1.2 1 6) = 5
  · replace h := fps c h
    exact fs_trans k1 (s_X10_takeSigned_j17_fr h)
  · replace h := fng c h
    exact fs_trans k1 (s_X10_takeSigned_j17_fr h)
abbrev s_X3_readTuner_mods : List (Nat × Option Nat) := [(1, some 4), (1, some 5), (1, some 6), (1, some 7), (1, some 8), (1, some 9), (1, some 10), (28, some 14), (37, none), (40, none)]
noncomputable def s_X3_readTuner (M : fM) (l1 : Int) : Option ((Unit ⊕ Unit) × fM) :=
  if (0 ≤ (M 28 14) ∧ (M 28 14) < 6) ∧ fin ((M 28 14) + 1) then
    if fin ((M 28 14) * 3) then
      (s_X10_takeNumber (fup (fup M 40 (M 28 14).toNat l1) 28 14 ((M 28 14) + 1)) 0 99).bind fun y48 =>
        fel y48.1
          (fun w48 =>
            if (0 ≤ ((M 28 14) * 3) ∧ ((M 28 14) * 3) < 18) ∧ fin ((M 28 14) * 3) ∧ fin (((M 28 14) * 3) + 1) then
              (s_X10_takeNumber (fup y48.2 37 ((M 28 14) * 3).toNat w48) 0 99).bind fun y71 =>
                fel y71.1
                  (fun w71 =>
                    if (0 ≤ (((M 28 14) * 3) + 1) ∧ (((M 28 14) * 3) + 1) < 18) ∧ fin ((M 28 14) * 3) ∧ fin (((M 28 14) * 3) + 2) ∧ (0 ≤ (((M 28 14) * 3) + 2) ∧ (((M 28 14) * 3) + 2) < 18) then
                      (s_X10_take (fup (fup y71.2 37 (((M 28 14) * 3) + 1).toNat w71) 37 (((M 28 14) * 3) + 2).toNat 0)).bind fun y93 =>
                        (s_X10_keywordHere y93.2).bind fun y100 =>
                          if ¬ y100 = 13 then
                            some (.inl (), y93.2)
                          else
                            if fin ((M 28 14) * 3) ∧ fin (((M 28 14) * 3) + 2) then
                              (s_X10_takeSigned y93.2 99).bind fun y126 =>
                                fel y126.1
                                  (fun w126 =>
                                    if (0 ≤ (((M 28 14) * 3) + 2) ∧ (((M 28 14) * 3) + 2) < 18) then
                                      (s_X10_take (fup y126.2 37 (((M 28 14) * 3) + 2).toNat w126)).bind fun y134 =>
                                        some (.inl (), y134.2)
                                    else none)
                                  (some (.inr (), y126.2))
                            else none
                    else none)
                  (some (.inr (), y71.2))
            else none)
          (some (.inr (), y48.2))
    else none
  else none
theorem s_X3_readTuner_ok {d L : Nat} {M : fM} {l1 : Int} {r : ((Unit ⊕ Unit) × fM)} {Q : fO → fH → Prop} (h : s_X3_readTuner M l1 = some r) (H : Q (oT oV 1 r.1) (156, fjl L, r.2)) : Wp (d + 10, 61, 0, 0, 0, [some (fA 27), some (fJ l1), none, none], []) (156, fjl L, M) Q := by
  unfold s_X3_readTuner at h
  obtain ⟨⟨g0, g1⟩, h⟩ := fgd h
  refine Wp.run 17 (P := [0 ≤ (M 28 14) ∧ (M 28 14) < 6]) (f' := (d + 10, 61, 31, 0, 0, [some (fA 27), _, _, some (fI (M 28 14))], [])) (h' := (156, fjl L, (fup (fup M 40 (M 28 14).toNat l1) 28 14 (fw ((M 28 14) + 1))))) rfl ?_ ?_
  · exact g0
  rw [fw_id g1]
  obtain ⟨g0, h⟩ := fgd h
  refine Wp.run 10 (f' := (d + 10, 61, 48, 0, 0, [some (fA 27), _, _, some (fI (M 28 14))], [fI 99, fI 0, fA 1, fI (fw ((M 28 14) * 3)), fA 37])) (h' := (156, fjl L, (fup (fup M 40 (M 28 14).toNat l1) 28 14 ((M 28 14) + 1)))) rfl trivial ?_
  rw [fw_id g0]
  obtain ⟨y48, hy, h⟩ := fbd h
  refine Wp.call rfl (by decide) (s_X10_takeNumber_ok (d := d + 0) hy ?_)
  obtain ⟨w48, ew, h⟩ | ⟨ew, h⟩ := fel_of h
  · rw [ew]
    show Wp (d + 10, 61, 51, 0, 0, [some (fA 27), _, _, some (fI (M 28 14))], [fI w48, fI ((M 28 14) * 3), fA 37]) (156, fjl L, y48.2) Q
    obtain ⟨⟨g0, g1, g2⟩, h⟩ := fgd h
    refine Wp.run 13 (P := [0 ≤ ((M 28 14) * 3) ∧ ((M 28 14) * 3) < 18]) (f' := (d + 10, 61, 71, 0, 0, [some (fA 27), _, _, some (fI (M 28 14))], [fI 99, fI 0, fA 1, fI (fw ((fw ((M 28 14) * 3)) + 1)), fA 37])) (h' := (156, fjl L, (fup y48.2 37 ((M 28 14) * 3).toNat w48))) rfl ?_ ?_
    · exact g0
    rw [fw_id g1, fw_id g2]
    obtain ⟨y71, hy, h⟩ := fbd h
    refine Wp.call rfl (by decide) (s_X10_takeNumber_ok (d := d + 0) hy ?_)
    obtain ⟨w71, ew, h⟩ | ⟨ew, h⟩ := fel_of h
    · rw [ew]
      show Wp (d + 10, 61, 74, 0, 0, [some (fA 27), _, _, some (fI (M 28 14))], [fI w71, fI (((M 28 14) * 3) + 1), fA 37]) (156, fjl L, y71.2) Q
      obtain ⟨⟨g0, g1, g2, g3⟩, h⟩ := fgd h
      refine Wp.run 13 (P := [0 ≤ (((M 28 14) * 3) + 1) ∧ (((M 28 14) * 3) + 1) < 18, 0 ≤ (fw ((fw ((M 28 14) * 3)) + 2)) ∧ (fw ((fw ((M 28 14) * 3)) + 2)) < 18]) (f' := (d + 10, 61, 93, 0, 0, [some (fA 27), _, _, some (fI (M 28 14))], [fA 1])) (h' := (156, fjl L, (fup (fup y71.2 37 (((M 28 14) * 3) + 1).toNat w71) 37 (fw ((fw ((M 28 14) * 3)) + 2)).toNat 0))) rfl ?_ ?_
      · rw [fw_id g1, fw_id g2]; exact ⟨g0, g3⟩
      rw [fw_id g1, fw_id g2]
      obtain ⟨y93, hy, h⟩ := fbd h
      refine Wp.call rfl (by decide) (s_X10_take_ok (d := d + 7) hy ?_)
      show Wp (d + 10, 61, 96, 0, 0, [some (fA 27), _, _, some (fI (M 28 14))], []) (156, fjl L, y93.2) Q
      refine Wp.run 2 (f' := (d + 10, 61, 100, 0, 0, [some (fA 27), _, _, some (fI (M 28 14))], [fA 1])) (h' := (156, fjl L, y93.2)) rfl trivial ?_
      obtain ⟨y100, hy, h⟩ := fbd h
      refine Wp.call rfl (by decide) (s_X10_keywordHere_ok (d := d + 9) hy ?_)
      show Wp (d + 10, 61, 103, 0, 0, [some (fA 27), _, _, some (fI (M 28 14))], [fI y100]) (156, fjl L, y93.2) Q
      refine Wp.run 1 (f' := (d + 10, 61, 105, 0, 0, [some (fA 27), _, _, some (fI (M 28 14))], [fI 13, fI y100])) (h' := (156, fjl L, y93.2)) rfl trivial ?_
      refine Wp.br rfl (fun (c : ¬ y100 = 13) => ?_) (fun (c : ¬ (¬ y100 = 13)) => ?_)
      · replace h := fps c h
        obtain rfl := Option.some.inj h
        exact Wp.done rfl (by decide) H
      · replace h := fng c h
        obtain ⟨⟨g0, g1⟩, h⟩ := fgd h
        refine Wp.run 11 (f' := (d + 10, 61, 126, 0, 0, [some (fA 27), _, _, _], [fI 99, fA 1, fI (fw ((fw ((M 28 14) * 3)) + 2)), fA 37])) (h' := (156, fjl L, y93.2)) rfl trivial ?_
        rw [fw_id g0, fw_id g1]
        obtain ⟨y126, hy, h⟩ := fbd h
        refine Wp.call rfl (by decide) (s_X10_takeSigned_ok (d := d + 0) hy ?_)
        obtain ⟨w126, ew, h⟩ | ⟨ew, h⟩ := fel_of h
        · rw [ew]
          show Wp (d + 10, 61, 129, 0, 0, [some (fA 27), _, _, _], [fI w126, fI (((M 28 14) * 3) + 2), fA 37]) (156, fjl L, y126.2) Q
          obtain ⟨g0, h⟩ := fgd h
          refine Wp.run 3 (P := [0 ≤ (((M 28 14) * 3) + 2) ∧ (((M 28 14) * 3) + 2) < 18]) (f' := (d + 10, 61, 134, 0, 0, [_, _, _, _], [fA 1])) (h' := (156, fjl L, (fup y126.2 37 (((M 28 14) * 3) + 2).toNat w126))) rfl ?_ ?_
          · exact g0
          obtain ⟨y134, hy, h⟩ := fbd h
          refine Wp.call rfl (by decide) (s_X10_take_ok (d := d + 7) hy ?_)
          show Wp (d + 10, 61, 137, 0, 0, [_, _, _, _], []) (156, fjl L, y134.2) Q
          obtain rfl := Option.some.inj h
          exact Wp.done rfl (by decide) H
        · rw [ew]
          obtain rfl := Option.some.inj h
          exact ⟨⟨rfl, rfl⟩, H⟩
    · rw [ew]
      obtain rfl := Option.some.inj h
      exact ⟨⟨rfl, rfl⟩, H⟩
  · rw [ew]
    obtain rfl := Option.some.inj h
    exact ⟨⟨rfl, rfl⟩, H⟩
theorem s_X3_readTuner_fr {M : fM} {l1 : Int} {r : ((Unit ⊕ Unit) × fM)} (h : s_X3_readTuner M l1 = some r) : fSame s_X3_readTuner_mods M r.2 := by
  unfold s_X3_readTuner at h
  replace h := (fgd h).2
  replace h := (fgd h).2
  obtain ⟨y48, hy, h⟩ := fbd h
  have k48 := fs_trans (l := s_X3_readTuner_mods) (fs_up (fs_up fs_refl (.inl (by decide))) (.inr (by decide))) (fs_mono (l := s_X10_takeNumber_mods) (by decide) (s_X10_takeNumber_fr hy))
  obtain ⟨w48, ew, h⟩ | ⟨ew, h⟩ := fel_of h
  · replace h := (fgd h).2
    obtain ⟨y71, hy, h⟩ := fbd h
    have k71 := fs_trans (l := s_X3_readTuner_mods) (fs_up k48 (.inl (by decide))) (fs_mono (l := s_X10_takeNumber_mods) (by decide) (s_X10_takeNumber_fr hy))
    obtain ⟨w71, ew, h⟩ | ⟨ew, h⟩ := fel_of h
    · replace h := (fgd h).2
      obtain ⟨y93, hy, h⟩ := fbd h
      have k93 := fs_trans (l := s_X3_readTuner_mods) (fs_up (fs_up k71 (.inl (by decide))) (.inl (by decide))) (fs_mono (l := s_X10_take_mods) (by decide) (s_X10_take_fr hy))
      obtain ⟨y100, hy, h⟩ := fbd h
      by_cases c : ¬ y100 = 13
      · replace h := fps c h
        obtain rfl := Option.some.inj h
        exact k93
      · replace h := fng c h
        replace h := (fgd h).2
        obtain ⟨y126, hy, h⟩ := fbd h
        have k126 := fs_trans (l := s_X3_readTuner_mods) k93 (fs_mono (l := s_X10_takeSigned_mods) (by decide) (s_X10_takeSigned_fr hy))
        obtain ⟨w126, ew, h⟩ | ⟨ew, h⟩ := fel_of h
        · replace h := (fgd h).2
          obtain ⟨y134, hy, h⟩ := fbd h
          have k134 := fs_trans (l := s_X3_readTuner_mods) (fs_up k126 (.inl (by decide))) (fs_mono (l := s_X10_take_mods) (by decide) (s_X10_take_fr hy))
          obtain rfl := Option.some.inj h
          exact k134
        · obtain rfl := Option.some.inj h
          exact k126
    · obtain rfl := Option.some.inj h
      exact k71
  · obtain rfl := Option.some.inj h
    exact k48
abbrev s_X2_tell_28_mods : List (Nat × Option Nat) := [(34, none)]
noncomputable def s_X2_tell_28 (M : fM) (l1 l2 l3 : Int) : Option (Unit × fM) :=
  if fin (l1 * 10) ∧ fin ((l1 * 10) + l2) ∧ (0 ≤ ((l1 * 10) + l2) ∧ ((l1 * 10) + l2) < 160) then
    some ((), (fup M 34 ((l1 * 10) + l2).toNat l3))
  else none
theorem s_X2_tell_28_ok {d L : Nat} {M : fM} {l1 l2 l3 : Int} {r : (Unit × fM)} {Q : fO → fH → Prop} (h : s_X2_tell_28 M l1 l2 l3 = some r) (H : Q (oV r.1) (156, fjl L, r.2)) : Wp (d + 0, 28, 0, 0, 0, [some (fA 28), some (fI l1), some (fI l2), some (fI l3)], []) (156, fjl L, M) Q := by
  unfold s_X2_tell_28 at h
  obtain ⟨⟨g0, g1, g2⟩, h⟩ := fgd h
  refine Wp.run 9 (P := [0 ≤ (fw ((fw (l1 * 10)) + l2)) ∧ (fw ((fw (l1 * 10)) + l2)) < 160]) (f' := (d + 0, 28, 12, 0, 0, [_, _, _, _], [])) (h' := (156, fjl L, (fup M 34 (fw ((fw (l1 * 10)) + l2)).toNat l3))) rfl ?_ ?_
  · rw [fw_id g0, fw_id g1]; exact g2
  rw [fw_id g0, fw_id g1]
  obtain rfl := Option.some.inj h
  exact Wp.done rfl (by decide) H
theorem s_X2_tell_28_fr {M : fM} {l1 l2 l3 : Int} {r : (Unit × fM)} (h : s_X2_tell_28 M l1 l2 l3 = some r) : fSame s_X2_tell_28_mods M r.2 := by
  unfold s_X2_tell_28 at h
  replace h := (fgd h).2
  obtain rfl := Option.some.inj h
  exact fs_up fs_refl (.inl (by decide))
abbrev s_X2_addPiano_28_mods : List (Nat × Option Nat) := [(28, some 13), (34, none), (35, none), (36, none), (39, none)]
noncomputable def s_X2_addPiano_28_b25 (M : fM) (l3 l4 : Int) : Option ((Int × fM) ⊕ fM) :=
  if 12 ≤ l4 then
    some (.inr M)
  else
    if fin (l3 * 12) ∧ fin ((l3 * 12) + l4) ∧ (0 ≤ ((l3 * 12) + l4) ∧ ((l3 * 12) + l4) < 192) ∧ fin (l4 + 1) then
      some (.inl ((l4 + 1), (fup M 35 ((l3 * 12) + l4).toNat 1)))
    else none
theorem s_X2_addPiano_28_b25_ok {d L : Nat} {M : fM} {l3 l4 : Int} {o1 o2 : Option fV} {r : ((Int × fM) ⊕ fM)} {Q : fO → fH → Prop} (h : s_X2_addPiano_28_b25 M l3 l4 = some r) (hC : ∀ (l4' : Int) (M' : fM) (o1' o2' : Option fV), r = .inl (l4', M') → Wp (d + 1, 27, 25, 0, 0, [some (fA 28), o1', o2', some (fI l3), some (fI l4')], []) (156, fjl L, M') Q) (hE : ∀ (e : fM) (o1' o2' o4' : Option fV), r = .inr e → Wp (d + 1, 27, 51, 0, 0, [some (fA 28), o1', o2', some (fI l3), o4'], []) (156, fjl L, e) Q) : Wp (d + 1, 27, 25, 0, 0, [some (fA 28), o1, o2, some (fI l3), some (fI l4)], []) (156, fjl L, M) Q := by
  unfold s_X2_addPiano_28_b25 at h
  refine Wp.run 2 (f' := (d + 1, 27, 29, 0, 0, [some (fA 28), _, _, some (fI l3), some (fI l4)], [fI 12, fI l4])) (h' := (156, fjl L, M)) rfl trivial ?_
  refine Wp.br rfl (fun (c : 12 ≤ l4) => ?_) (fun (c : ¬ (12 ≤ l4)) => ?_)
  · replace h := fps c h
    exact hE _ _ _ _ (Option.some.inj h).symm
  · replace h := fng c h
    obtain ⟨⟨g0, g1, g2, g3⟩, h⟩ := fgd h
    refine Wp.run 11 (P := [0 ≤ (fw ((fw (l3 * 12)) + l4)) ∧ (fw ((fw (l3 * 12)) + l4)) < 192]) (f' := (d + 1, 27, 25, 0, 0, [some (fA 28), _, _, some (fI l3), some (fI (fw (l4 + 1)))], [])) (h' := (156, fjl L, (fup M 35 (fw ((fw (l3 * 12)) + l4)).toNat 1))) rfl ?_ ?_
    · rw [fw_id g0, fw_id g1]; exact g2
    rw [fw_id g3, fw_id g0, fw_id g1]
    exact hC _ _ _ _ (Option.some.inj h).symm
theorem s_X2_addPiano_28_b25_fr {M : fM} {l3 l4 : Int} {r : ((Int × fM) ⊕ fM)} (h : s_X2_addPiano_28_b25 M l3 l4 = some r) : fSame s_X2_addPiano_28_mods M (Sum.elim (fun s => s.2) (fun e => e) r) := by
  unfold s_X2_addPiano_28_b25 at h
  by_cases c : 12 ≤ l4
  · replace h := fps c h
    obtain rfl := Option.some.inj h
    exact fs_refl
  · replace h := fng c h
    replace h := (fgd h).2
    obtain rfl := Option.some.inj h
    exact fs_up fs_refl (.inl (by decide))
noncomputable def s_X2_addPiano_28_l25 (l3 : Int) (s : (Int × fM)) : Option fM := fLp (fun s => s_X2_addPiano_28_b25 s.2 l3 s.1) s
theorem s_X2_addPiano_28_l25_ok {d L : Nat} {M : fM} {l3 l4 : Int} {o1 o2 : Option fV} {r : fM} {Q : fO → fH → Prop} (h : s_X2_addPiano_28_l25 l3 (l4, M) = some r) (hE : ∀ (e : fM) (o1' o2' o4' : Option fV), r = e → Wp (d + 1, 27, 51, 0, 0, [some (fA 28), o1', o2', some (fI l3), o4'], []) (156, fjl L, e) Q) : Wp (d + 1, 27, 25, 0, 0, [some (fA 28), o1, o2, some (fI l3), some (fI l4)], []) (156, fjl L, M) Q := by
  refine fLp_wp (W := fun s => ∀ (o1 o2 : Option fV), Wp (d + 1, 27, 25, 0, 0, [some (fA 28), o1, o2, some (fI l3), some (fI s.1)], []) (156, fjl L, s.2) Q) (e := r) ?_ h _ _
  intro s r1 h hC hX o1 o2
  refine s_X2_addPiano_28_b25_ok (d := d) h (fun a0 a1 _ _ e1 => ?_) (fun e u0 u1 u2 e1 => hE e u0 u1 u2 (hX _ e1).symm)
  exact hC _ e1 _ _
theorem s_X2_addPiano_28_l25_fr {M : fM} {l3 l4 : Int} {r : fM} (h : s_X2_addPiano_28_l25 l3 (l4, M) = some r) : fSame s_X2_addPiano_28_mods M ((fun e => e) r) := by
  refine fLp_inv (I := fun s => fSame s_X2_addPiano_28_mods M s.2) (J := fun r => fSame s_X2_addPiano_28_mods M ((fun e => e) r)) h fs_refl (fun s s1 hs hb => ?_) (fun s e hs hb => ?_)
  · exact fs_trans hs (s_X2_addPiano_28_b25_fr hb)
  · exact fs_trans hs (s_X2_addPiano_28_b25_fr hb)
noncomputable def s_X2_addPiano_28_b54 (M : fM) (l3 l4 : Int) : Option ((Int × fM) ⊕ fM) :=
  if 4 ≤ l4 then
    some (.inr M)
  else
    if fin (l3 * 4) ∧ fin ((l3 * 4) + l4) ∧ (0 ≤ ((l3 * 4) + l4) ∧ ((l3 * 4) + l4) < 64) ∧ fin (l4 + 1) then
      some (.inl ((l4 + 1), (fup M 36 ((l3 * 4) + l4).toNat 0)))
    else none
theorem s_X2_addPiano_28_b54_ok {d L : Nat} {M : fM} {l3 l4 : Int} {o1 o2 : Option fV} {r : ((Int × fM) ⊕ fM)} {Q : fO → fH → Prop} (h : s_X2_addPiano_28_b54 M l3 l4 = some r) (hC : ∀ (l4' : Int) (M' : fM) (o1' o2' : Option fV), r = .inl (l4', M') → Wp (d + 1, 27, 54, 0, 0, [some (fA 28), o1', o2', some (fI l3), some (fI l4')], []) (156, fjl L, M') Q) (hE : ∀ (e : fM) (o1' o2' o4' : Option fV), r = .inr e → Wp (d + 1, 27, 78, 0, 0, [some (fA 28), o1', o2', some (fI l3), o4'], []) (156, fjl L, e) Q) : Wp (d + 1, 27, 54, 0, 0, [some (fA 28), o1, o2, some (fI l3), some (fI l4)], []) (156, fjl L, M) Q := by
  unfold s_X2_addPiano_28_b54 at h
  refine Wp.run 2 (f' := (d + 1, 27, 57, 0, 0, [some (fA 28), _, _, some (fI l3), some (fI l4)], [fI 4, fI l4])) (h' := (156, fjl L, M)) rfl trivial ?_
  refine Wp.br rfl (fun (c : 4 ≤ l4) => ?_) (fun (c : ¬ (4 ≤ l4)) => ?_)
  · replace h := fps c h
    exact hE _ _ _ _ (Option.some.inj h).symm
  · replace h := fng c h
    obtain ⟨⟨g0, g1, g2, g3⟩, h⟩ := fgd h
    refine Wp.run 11 (P := [0 ≤ (fw ((fw (l3 * 4)) + l4)) ∧ (fw ((fw (l3 * 4)) + l4)) < 64]) (f' := (d + 1, 27, 54, 0, 0, [some (fA 28), _, _, some (fI l3), some (fI (fw (l4 + 1)))], [])) (h' := (156, fjl L, (fup M 36 (fw ((fw (l3 * 4)) + l4)).toNat 0))) rfl ?_ ?_
    · rw [fw_id g0, fw_id g1]; exact g2
    rw [fw_id g3, fw_id g0, fw_id g1]
    exact hC _ _ _ _ (Option.some.inj h).symm
theorem s_X2_addPiano_28_b54_fr {M : fM} {l3 l4 : Int} {r : ((Int × fM) ⊕ fM)} (h : s_X2_addPiano_28_b54 M l3 l4 = some r) : fSame s_X2_addPiano_28_mods M (Sum.elim (fun s => s.2) (fun e => e) r) := by
  unfold s_X2_addPiano_28_b54 at h
  by_cases c : 4 ≤ l4
  · replace h := fps c h
    obtain rfl := Option.some.inj h
    exact fs_refl
  · replace h := fng c h
    replace h := (fgd h).2
    obtain rfl := Option.some.inj h
    exact fs_up fs_refl (.inl (by decide))
noncomputable def s_X2_addPiano_28_l54 (l3 : Int) (s : (Int × fM)) : Option fM := fLp (fun s => s_X2_addPiano_28_b54 s.2 l3 s.1) s
theorem s_X2_addPiano_28_l54_ok {d L : Nat} {M : fM} {l3 l4 : Int} {o1 o2 : Option fV} {r : fM} {Q : fO → fH → Prop} (h : s_X2_addPiano_28_l54 l3 (l4, M) = some r) (hE : ∀ (e : fM) (o1' o2' o4' : Option fV), r = e → Wp (d + 1, 27, 78, 0, 0, [some (fA 28), o1', o2', some (fI l3), o4'], []) (156, fjl L, e) Q) : Wp (d + 1, 27, 54, 0, 0, [some (fA 28), o1, o2, some (fI l3), some (fI l4)], []) (156, fjl L, M) Q := by
  refine fLp_wp (W := fun s => ∀ (o1 o2 : Option fV), Wp (d + 1, 27, 54, 0, 0, [some (fA 28), o1, o2, some (fI l3), some (fI s.1)], []) (156, fjl L, s.2) Q) (e := r) ?_ h _ _
  intro s r1 h hC hX o1 o2
  refine s_X2_addPiano_28_b54_ok (d := d) h (fun a0 a1 _ _ e1 => ?_) (fun e u0 u1 u2 e1 => hE e u0 u1 u2 (hX _ e1).symm)
  exact hC _ e1 _ _
theorem s_X2_addPiano_28_l54_fr {M : fM} {l3 l4 : Int} {r : fM} (h : s_X2_addPiano_28_l54 l3 (l4, M) = some r) : fSame s_X2_addPiano_28_mods M ((fun e => e) r) := by
  refine fLp_inv (I := fun s => fSame s_X2_addPiano_28_mods M s.2) (J := fun r => fSame s_X2_addPiano_28_mods M ((fun e => e) r)) h fs_refl (fun s s1 hs hb => ?_) (fun s e hs hb => ?_)
  · exact fs_trans hs (s_X2_addPiano_28_b54_fr hb)
  · exact fs_trans hs (s_X2_addPiano_28_b54_fr hb)
noncomputable def s_X2_addPiano_28 (M : fM) (l1 : Int) : Option (Int × fM) :=
  if (0 ≤ (M 28 13) ∧ (M 28 13) < 16) ∧ fin ((M 28 13) + 1) then
    (s_X2_addPiano_28_l25 (M 28 13) (0, (fup (fup M 39 (M 28 13).toNat l1) 28 13 ((M 28 13) + 1)))).bind fun e25 =>
      (s_X2_addPiano_28_l54 (M 28 13) (0, e25)).bind fun e54 =>
        (s_X2_tell_28 e54 (M 28 13) 7 0).bind fun y83 =>
          (s_X2_tell_28 y83.2 (M 28 13) 8 0).bind fun y91 =>
            (s_X2_tell_28 y91.2 (M 28 13) 9 1440).bind fun y101 =>
              some ((M 28 13), y101.2)
  else none
theorem s_X2_addPiano_28_ok {d L : Nat} {M : fM} {l1 : Int} {r : (Int × fM)} {Q : fO → fH → Prop} (h : s_X2_addPiano_28 M l1 = some r) (H : Q (oI r.1) (156, fjl L, r.2)) : Wp (d + 1, 27, 0, 0, 0, [some (fA 28), some (fJ l1), none, none, none], []) (156, fjl L, M) Q := by
  unfold s_X2_addPiano_28 at h
  obtain ⟨⟨g0, g1⟩, h⟩ := fgd h
  refine Wp.run 14 (P := [0 ≤ (M 28 13) ∧ (M 28 13) < 16]) (f' := (d + 1, 27, 22, 0, 0, [some (fA 28), _, _, some (fI (M 28 13)), _], [])) (h' := (156, fjl L, (fup (fup M 39 (M 28 13).toNat l1) 28 13 (fw ((M 28 13) + 1))))) rfl ?_ ?_
  · exact g0
  rw [fw_id g1]
  refine Wp.run 2 (f' := (d + 1, 27, 25, 0, 0, [some (fA 28), _, _, some (fI (M 28 13)), some (fI 0)], [])) (h' := (156, fjl L, (fup (fup M 39 (M 28 13).toNat l1) 28 13 ((M 28 13) + 1)))) rfl trivial ?_
  obtain ⟨e25, hy, h⟩ := fbd h
  refine s_X2_addPiano_28_l25_ok hy (fun x u1 u2 u4 ex => ?_)
  cases ex
  show Wp (d + 1, 27, 51, 0, 0, [some (fA 28), u1, u2, some (fI (M 28 13)), u4], []) (156, fjl L, e25) Q
  refine Wp.run 2 (f' := (d + 1, 27, 54, 0, 0, [some (fA 28), _, _, some (fI (M 28 13)), some (fI 0)], [])) (h' := (156, fjl L, e25)) rfl trivial ?_
  obtain ⟨e54, hy, h⟩ := fbd h
  refine s_X2_addPiano_28_l54_ok hy (fun x u1 u2 u4 ex => ?_)
  cases ex
  show Wp (d + 1, 27, 78, 0, 0, [some (fA 28), u1, u2, some (fI (M 28 13)), u4], []) (156, fjl L, e54) Q
  refine Wp.run 4 (f' := (d + 1, 27, 83, 0, 0, [some (fA 28), _, _, some (fI (M 28 13)), _], [fI 0, fI 7, fI (M 28 13), fA 28])) (h' := (156, fjl L, e54)) rfl trivial ?_
  obtain ⟨y83, hy, h⟩ := fbd h
  refine Wp.call rfl (by decide) (s_X2_tell_28_ok (d := d + 0) hy ?_)
  show Wp (d + 1, 27, 86, 0, 0, [some (fA 28), _, _, some (fI (M 28 13)), _], []) (156, fjl L, y83.2) Q
  refine Wp.run 4 (f' := (d + 1, 27, 91, 0, 0, [some (fA 28), _, _, some (fI (M 28 13)), _], [fI 0, fI 8, fI (M 28 13), fA 28])) (h' := (156, fjl L, y83.2)) rfl trivial ?_
  obtain ⟨y91, hy, h⟩ := fbd h
  refine Wp.call rfl (by decide) (s_X2_tell_28_ok (d := d + 0) hy ?_)
  show Wp (d + 1, 27, 94, 0, 0, [some (fA 28), _, _, some (fI (M 28 13)), _], []) (156, fjl L, y91.2) Q
  refine Wp.run 4 (f' := (d + 1, 27, 101, 0, 0, [_, _, _, some (fI (M 28 13)), _], [fI 1440, fI 9, fI (M 28 13), fA 28])) (h' := (156, fjl L, y91.2)) rfl trivial ?_
  obtain ⟨y101, hy, h⟩ := fbd h
  refine Wp.call rfl (by decide) (s_X2_tell_28_ok (d := d + 0) hy ?_)
  show Wp (d + 1, 27, 104, 0, 0, [_, _, _, some (fI (M 28 13)), _], []) (156, fjl L, y101.2) Q
  refine Wp.run 1 (f' := (d + 1, 27, 105, 0, 0, [_, _, _, _, _], [fI (M 28 13)])) (h' := (156, fjl L, y101.2)) rfl trivial ?_
  obtain rfl := Option.some.inj h
  exact Wp.done rfl (by decide) H
theorem s_X2_addPiano_28_fr {M : fM} {l1 : Int} {r : (Int × fM)} (h : s_X2_addPiano_28 M l1 = some r) : fSame s_X2_addPiano_28_mods M r.2 := by
  unfold s_X2_addPiano_28 at h
  replace h := (fgd h).2
  obtain ⟨e25, hy, h⟩ := fbd h
  have k25 := fs_trans (l := s_X2_addPiano_28_mods) (fs_up (fs_up fs_refl (.inl (by decide))) (.inr (by decide))) (s_X2_addPiano_28_l25_fr hy)
  obtain ⟨e54, hy, h⟩ := fbd h
  have k54 := fs_trans (l := s_X2_addPiano_28_mods) k25 (s_X2_addPiano_28_l54_fr hy)
  obtain ⟨y83, hy, h⟩ := fbd h
  have k83 := fs_trans (l := s_X2_addPiano_28_mods) k54 (fs_mono (l := s_X2_tell_28_mods) (by decide) (s_X2_tell_28_fr hy))
  obtain ⟨y91, hy, h⟩ := fbd h
  have k91 := fs_trans (l := s_X2_addPiano_28_mods) k83 (fs_mono (l := s_X2_tell_28_mods) (by decide) (s_X2_tell_28_fr hy))
  obtain ⟨y101, hy, h⟩ := fbd h
  have k101 := fs_trans (l := s_X2_addPiano_28_mods) k91 (fs_mono (l := s_X2_tell_28_mods) (by decide) (s_X2_tell_28_fr hy))
  obtain rfl := Option.some.inj h
  exact k101
abbrev s_X3_readPiano_mods : List (Nat × Option Nat) := [(1, some 4), (1, some 5), (1, some 6), (1, some 7), (1, some 8), (1, some 9), (1, some 10), (28, some 13), (34, none), (35, none), (36, none), (39, none)]
noncomputable def s_X3_readPiano (M : fM) (l1 : Int) : Option ((Unit ⊕ Unit) × fM) :=
  (s_X2_addPiano_28 M l1).bind fun y5 =>
    (s_X10_takeKind y5.2).bind fun y19 =>
      fel y19.1
        (fun w19 =>
          (s_X2_tell_28 y19.2 y5.1 0 w19).bind fun y22 =>
            (s_X10_takeNumber y22.2 0 99).bind fun y38 =>
              fel y38.1
                (fun w38 =>
                  (s_X2_tell_28 y38.2 y5.1 1 w38).bind fun y41 =>
                    (s_X10_takeNumber y41.2 0 99).bind fun y57 =>
                      fel y57.1
                        (fun w57 =>
                          (s_X2_tell_28 y57.2 y5.1 2 w57).bind fun y60 =>
                            (s_X10_takeNumber y60.2 1 999).bind fun y77 =>
                              fel y77.1
                                (fun w77 =>
                                  (s_X2_tell_28 y77.2 y5.1 3 w77).bind fun y80 =>
                                    (s_X10_takeNumber y80.2 0 200).bind fun y97 =>
                                      fel y97.1
                                        (fun w97 =>
                                          (s_X2_tell_28 y97.2 y5.1 4 w97).bind fun y100 =>
                                            (s_X10_takeNumber y100.2 0 9999).bind fun y117 =>
                                              fel y117.1
                                                (fun w117 =>
                                                  (s_X2_tell_28 y117.2 y5.1 5 w117).bind fun y120 =>
                                                    (s_X10_takeNumber y120.2 0 9).bind fun y137 =>
                                                      fel y137.1
                                                        (fun w137 =>
                                                          (s_X2_tell_28 y137.2 y5.1 6 w137).bind fun y140 =>
                                                            some (.inl (), y140.2))
                                                        (some (.inr (), y137.2)))
                                                (some (.inr (), y117.2)))
                                        (some (.inr (), y97.2)))
                                (some (.inr (), y77.2)))
                        (some (.inr (), y57.2)))
                (some (.inr (), y38.2)))
        (some (.inr (), y19.2))
theorem s_X3_readPiano_ok {d L : Nat} {M : fM} {l1 : Int} {r : ((Unit ⊕ Unit) × fM)} {Q : fO → fH → Prop} (h : s_X3_readPiano M l1 = some r) (H : Q (oT oV 1 r.1) (156, fjl L, r.2)) : Wp (d + 10, 58, 0, 0, 0, [some (fA 27), some (fJ l1), none, none], []) (156, fjl L, M) Q := by
  unfold s_X3_readPiano at h
  refine Wp.run 3 (f' := (d + 10, 58, 5, 0, 0, [some (fA 27), _, _, _], [fJ l1, fA 28])) (h' := (156, fjl L, M)) rfl trivial ?_
  obtain ⟨y5, hy, h⟩ := fbd h
  refine Wp.call rfl (by decide) (s_X2_addPiano_28_ok (d := d + 8) hy ?_)
  show Wp (d + 10, 58, 8, 0, 0, [some (fA 27), _, _, _], [fI y5.1]) (156, fjl L, y5.2) Q
  refine Wp.run 7 (f' := (d + 10, 58, 19, 0, 0, [some (fA 27), _, _, some (fI y5.1)], [fA 1, fI 0, fI y5.1, fA 28])) (h' := (156, fjl L, y5.2)) rfl trivial ?_
  obtain ⟨y19, hy, h⟩ := fbd h
  refine Wp.call rfl (by decide) (s_X10_takeKind_ok (d := d + 1) hy ?_)
  obtain ⟨w19, ew, h⟩ | ⟨ew, h⟩ := fel_of h
  · rw [ew]
    show Wp (d + 10, 58, 22, 0, 0, [some (fA 27), _, _, some (fI y5.1)], [fI w19, fI 0, fI y5.1, fA 28]) (156, fjl L, y19.2) Q
    obtain ⟨y22, hy, h⟩ := fbd h
    refine Wp.call rfl (by decide) (s_X2_tell_28_ok (d := d + 9) hy ?_)
    show Wp (d + 10, 58, 25, 0, 0, [some (fA 27), _, _, some (fI y5.1)], []) (156, fjl L, y22.2) Q
    refine Wp.run 8 (f' := (d + 10, 58, 38, 0, 0, [some (fA 27), _, _, some (fI y5.1)], [fI 99, fI 0, fA 1, fI 1, fI y5.1, fA 28])) (h' := (156, fjl L, y22.2)) rfl trivial ?_
    obtain ⟨y38, hy, h⟩ := fbd h
    refine Wp.call rfl (by decide) (s_X10_takeNumber_ok (d := d + 0) hy ?_)
    obtain ⟨w38, ew, h⟩ | ⟨ew, h⟩ := fel_of h
    · rw [ew]
      show Wp (d + 10, 58, 41, 0, 0, [some (fA 27), _, _, some (fI y5.1)], [fI w38, fI 1, fI y5.1, fA 28]) (156, fjl L, y38.2) Q
      obtain ⟨y41, hy, h⟩ := fbd h
      refine Wp.call rfl (by decide) (s_X2_tell_28_ok (d := d + 9) hy ?_)
      show Wp (d + 10, 58, 44, 0, 0, [some (fA 27), _, _, some (fI y5.1)], []) (156, fjl L, y41.2) Q
      refine Wp.run 8 (f' := (d + 10, 58, 57, 0, 0, [some (fA 27), _, _, some (fI y5.1)], [fI 99, fI 0, fA 1, fI 2, fI y5.1, fA 28])) (h' := (156, fjl L, y41.2)) rfl trivial ?_
      obtain ⟨y57, hy, h⟩ := fbd h
      refine Wp.call rfl (by decide) (s_X10_takeNumber_ok (d := d + 0) hy ?_)
      obtain ⟨w57, ew, h⟩ | ⟨ew, h⟩ := fel_of h
      · rw [ew]
        show Wp (d + 10, 58, 60, 0, 0, [some (fA 27), _, _, some (fI y5.1)], [fI w57, fI 2, fI y5.1, fA 28]) (156, fjl L, y57.2) Q
        obtain ⟨y60, hy, h⟩ := fbd h
        refine Wp.call rfl (by decide) (s_X2_tell_28_ok (d := d + 9) hy ?_)
        show Wp (d + 10, 58, 63, 0, 0, [some (fA 27), _, _, some (fI y5.1)], []) (156, fjl L, y60.2) Q
        refine Wp.run 8 (f' := (d + 10, 58, 77, 0, 0, [some (fA 27), _, _, some (fI y5.1)], [fI 999, fI 1, fA 1, fI 3, fI y5.1, fA 28])) (h' := (156, fjl L, y60.2)) rfl trivial ?_
        obtain ⟨y77, hy, h⟩ := fbd h
        refine Wp.call rfl (by decide) (s_X10_takeNumber_ok (d := d + 0) hy ?_)
        obtain ⟨w77, ew, h⟩ | ⟨ew, h⟩ := fel_of h
        · rw [ew]
          show Wp (d + 10, 58, 80, 0, 0, [some (fA 27), _, _, some (fI y5.1)], [fI w77, fI 3, fI y5.1, fA 28]) (156, fjl L, y77.2) Q
          obtain ⟨y80, hy, h⟩ := fbd h
          refine Wp.call rfl (by decide) (s_X2_tell_28_ok (d := d + 9) hy ?_)
          show Wp (d + 10, 58, 83, 0, 0, [some (fA 27), _, _, some (fI y5.1)], []) (156, fjl L, y80.2) Q
          refine Wp.run 8 (f' := (d + 10, 58, 97, 0, 0, [some (fA 27), _, _, some (fI y5.1)], [fI 200, fI 0, fA 1, fI 4, fI y5.1, fA 28])) (h' := (156, fjl L, y80.2)) rfl trivial ?_
          obtain ⟨y97, hy, h⟩ := fbd h
          refine Wp.call rfl (by decide) (s_X10_takeNumber_ok (d := d + 0) hy ?_)
          obtain ⟨w97, ew, h⟩ | ⟨ew, h⟩ := fel_of h
          · rw [ew]
            show Wp (d + 10, 58, 100, 0, 0, [some (fA 27), _, _, some (fI y5.1)], [fI w97, fI 4, fI y5.1, fA 28]) (156, fjl L, y97.2) Q
            obtain ⟨y100, hy, h⟩ := fbd h
            refine Wp.call rfl (by decide) (s_X2_tell_28_ok (d := d + 9) hy ?_)
            show Wp (d + 10, 58, 103, 0, 0, [some (fA 27), _, _, some (fI y5.1)], []) (156, fjl L, y100.2) Q
            refine Wp.run 8 (f' := (d + 10, 58, 117, 0, 0, [some (fA 27), _, _, some (fI y5.1)], [fI 9999, fI 0, fA 1, fI 5, fI y5.1, fA 28])) (h' := (156, fjl L, y100.2)) rfl trivial ?_
            obtain ⟨y117, hy, h⟩ := fbd h
            refine Wp.call rfl (by decide) (s_X10_takeNumber_ok (d := d + 0) hy ?_)
            obtain ⟨w117, ew, h⟩ | ⟨ew, h⟩ := fel_of h
            · rw [ew]
              show Wp (d + 10, 58, 120, 0, 0, [some (fA 27), _, _, some (fI y5.1)], [fI w117, fI 5, fI y5.1, fA 28]) (156, fjl L, y117.2) Q
              obtain ⟨y120, hy, h⟩ := fbd h
              refine Wp.call rfl (by decide) (s_X2_tell_28_ok (d := d + 9) hy ?_)
              show Wp (d + 10, 58, 123, 0, 0, [some (fA 27), _, _, some (fI y5.1)], []) (156, fjl L, y120.2) Q
              refine Wp.run 8 (f' := (d + 10, 58, 137, 0, 0, [_, _, _, _], [fI 9, fI 0, fA 1, fI 6, fI y5.1, fA 28])) (h' := (156, fjl L, y120.2)) rfl trivial ?_
              obtain ⟨y137, hy, h⟩ := fbd h
              refine Wp.call rfl (by decide) (s_X10_takeNumber_ok (d := d + 0) hy ?_)
              obtain ⟨w137, ew, h⟩ | ⟨ew, h⟩ := fel_of h
              · rw [ew]
                show Wp (d + 10, 58, 140, 0, 0, [_, _, _, _], [fI w137, fI 6, fI y5.1, fA 28]) (156, fjl L, y137.2) Q
                obtain ⟨y140, hy, h⟩ := fbd h
                refine Wp.call rfl (by decide) (s_X2_tell_28_ok (d := d + 9) hy ?_)
                show Wp (d + 10, 58, 143, 0, 0, [_, _, _, _], []) (156, fjl L, y140.2) Q
                obtain rfl := Option.some.inj h
                exact Wp.done rfl (by decide) H
              · rw [ew]
                obtain rfl := Option.some.inj h
                exact ⟨⟨rfl, rfl⟩, H⟩
            · rw [ew]
              obtain rfl := Option.some.inj h
              exact ⟨⟨rfl, rfl⟩, H⟩
          · rw [ew]
            obtain rfl := Option.some.inj h
            exact ⟨⟨rfl, rfl⟩, H⟩
        · rw [ew]
          obtain rfl := Option.some.inj h
          exact ⟨⟨rfl, rfl⟩, H⟩
      · rw [ew]
        obtain rfl := Option.some.inj h
        exact ⟨⟨rfl, rfl⟩, H⟩
    · rw [ew]
      obtain rfl := Option.some.inj h
      exact ⟨⟨rfl, rfl⟩, H⟩
  · rw [ew]
    obtain rfl := Option.some.inj h
    exact ⟨⟨rfl, rfl⟩, H⟩
theorem s_X3_readPiano_fr {M : fM} {l1 : Int} {r : ((Unit ⊕ Unit) × fM)} (h : s_X3_readPiano M l1 = some r) : fSame s_X3_readPiano_mods M r.2 := by
  unfold s_X3_readPiano at h
  obtain ⟨y5, hy, h⟩ := fbd h
  have k5 := fs_trans (l := s_X3_readPiano_mods) fs_refl (fs_mono (l := s_X2_addPiano_28_mods) (by decide) (s_X2_addPiano_28_fr hy))
  obtain ⟨y19, hy, h⟩ := fbd h
  have k19 := fs_trans (l := s_X3_readPiano_mods) k5 (fs_mono (l := s_X10_takeKind_mods) (by decide) (s_X10_takeKind_fr hy))
  obtain ⟨w19, ew, h⟩ | ⟨ew, h⟩ := fel_of h
  · obtain ⟨y22, hy, h⟩ := fbd h
    have k22 := fs_trans (l := s_X3_readPiano_mods) k19 (fs_mono (l := s_X2_tell_28_mods) (by decide) (s_X2_tell_28_fr hy))
    obtain ⟨y38, hy, h⟩ := fbd h
    have k38 := fs_trans (l := s_X3_readPiano_mods) k22 (fs_mono (l := s_X10_takeNumber_mods) (by decide) (s_X10_takeNumber_fr hy))
    obtain ⟨w38, ew, h⟩ | ⟨ew, h⟩ := fel_of h
    · obtain ⟨y41, hy, h⟩ := fbd h
      have k41 := fs_trans (l := s_X3_readPiano_mods) k38 (fs_mono (l := s_X2_tell_28_mods) (by decide) (s_X2_tell_28_fr hy))
      obtain ⟨y57, hy, h⟩ := fbd h
      have k57 := fs_trans (l := s_X3_readPiano_mods) k41 (fs_mono (l := s_X10_takeNumber_mods) (by decide) (s_X10_takeNumber_fr hy))
      obtain ⟨w57, ew, h⟩ | ⟨ew, h⟩ := fel_of h
      · obtain ⟨y60, hy, h⟩ := fbd h
        have k60 := fs_trans (l := s_X3_readPiano_mods) k57 (fs_mono (l := s_X2_tell_28_mods) (by decide) (s_X2_tell_28_fr hy))
        obtain ⟨y77, hy, h⟩ := fbd h
        have k77 := fs_trans (l := s_X3_readPiano_mods) k60 (fs_mono (l := s_X10_takeNumber_mods) (by decide) (s_X10_takeNumber_fr hy))
        obtain ⟨w77, ew, h⟩ | ⟨ew, h⟩ := fel_of h
        · obtain ⟨y80, hy, h⟩ := fbd h
          have k80 := fs_trans (l := s_X3_readPiano_mods) k77 (fs_mono (l := s_X2_tell_28_mods) (by decide) (s_X2_tell_28_fr hy))
          obtain ⟨y97, hy, h⟩ := fbd h
          have k97 := fs_trans (l := s_X3_readPiano_mods) k80 (fs_mono (l := s_X10_takeNumber_mods) (by decide) (s_X10_takeNumber_fr hy))
          obtain ⟨w97, ew, h⟩ | ⟨ew, h⟩ := fel_of h
          · obtain ⟨y100, hy, h⟩ := fbd h
            have k100 := fs_trans (l := s_X3_readPiano_mods) k97 (fs_mono (l := s_X2_tell_28_mods) (by decide) (s_X2_tell_28_fr hy))
            obtain ⟨y117, hy, h⟩ := fbd h
            have k117 := fs_trans (l := s_X3_readPiano_mods) k100 (fs_mono (l := s_X10_takeNumber_mods) (by decide) (s_X10_takeNumber_fr hy))
            obtain ⟨w117, ew, h⟩ | ⟨ew, h⟩ := fel_of h
            · obtain ⟨y120, hy, h⟩ := fbd h
              have k120 := fs_trans (l := s_X3_readPiano_mods) k117 (fs_mono (l := s_X2_tell_28_mods) (by decide) (s_X2_tell_28_fr hy))
              obtain ⟨y137, hy, h⟩ := fbd h
              have k137 := fs_trans (l := s_X3_readPiano_mods) k120 (fs_mono (l := s_X10_takeNumber_mods) (by decide) (s_X10_takeNumber_fr hy))
              obtain ⟨w137, ew, h⟩ | ⟨ew, h⟩ := fel_of h
              · obtain ⟨y140, hy, h⟩ := fbd h
                have k140 := fs_trans (l := s_X3_readPiano_mods) k137 (fs_mono (l := s_X2_tell_28_mods) (by decide) (s_X2_tell_28_fr hy))
                obtain rfl := Option.some.inj h
                exact k140
              · obtain rfl := Option.some.inj h
                exact k137
            · obtain rfl := Option.some.inj h
              exact k117
          · obtain rfl := Option.some.inj h
            exact k97
        · obtain rfl := Option.some.inj h
          exact k77
      · obtain rfl := Option.some.inj h
        exact k57
    · obtain rfl := Option.some.inj h
      exact k38
  · obtain rfl := Option.some.inj h
    exact k19
abbrev s_X3_readMore_mods : List (Nat × Option Nat) := [(1, some 4), (1, some 5), (1, some 6), (1, some 7), (1, some 8), (1, some 9), (1, some 10), (34, none), (35, none), (36, none)]
noncomputable def s_X3_readMore_b10 (M : fM) (l1 l2 l3 l4 l5 : Int) : Option ((Int × Int × Int × Int × fM) ⊕ (fM ⊕ ((Unit ⊕ Unit) × fM))) :=
  if 1200 ≤ l5 then
    some (.inr (.inl M))
  else
    (s_X10_take M).bind fun y22 =>
      (s_X10_keywordHere y22.2).bind fun y29 =>
        if y29 = 17 then
          (s_X3_withTold y22.2 l2 17).bind fun y68 =>
            fel y68.1
              (fun w68 =>
                (s_X2_tell_28 y68.2 l1 7 1).bind fun y80 =>
                  if fin (l5 + 1) then
                    some (.inl (w68, l3, l4, (l5 + 1), y80.2))
                  else none)
              (some (.inr (.inr (.inr (), y68.2))))
        else
          if y29 = 18 then
            (s_X10_takeNumber y22.2 0 11).bind fun y153 =>
              fel y153.1
                (fun w153 =>
                  (s_X3_withTold y153.2 l3 w153).bind fun y162 =>
                    fel y162.1
                      (fun w162 =>
                        if fin (l1 * 12) ∧ fin ((l1 * 12) + w153) then
                          (s_X10_takeNumber y162.2 0 99).bind fun y187 =>
                            fel y187.1
                              (fun w187 =>
                                if (0 ≤ ((l1 * 12) + w153) ∧ ((l1 * 12) + w153) < 192) ∧ fin (l5 + 1) then
                                  some (.inl (l2, w162, l4, (l5 + 1), (fup y187.2 35 ((l1 * 12) + w153).toNat w187)))
                                else none)
                              (some (.inr (.inr (.inr (), y187.2))))
                        else none)
                      (some (.inr (.inr (.inr (), y162.2)))))
                (some (.inr (.inr (.inr (), y153.2))))
          else
            if y29 = 19 then
              (s_X10_takeNumber y22.2 0 3).bind fun y200 =>
                fel y200.1
                  (fun w200 =>
                    (s_X3_withTold y200.2 l4 w200).bind fun y210 =>
                      fel y210.1
                        (fun w210 =>
                          if fin (l1 * 4) ∧ fin ((l1 * 4) + w200) then
                            (s_X10_takeNumber y210.2 0 20).bind fun y235 =>
                              fel y235.1
                                (fun w235 =>
                                  if (0 ≤ ((l1 * 4) + w200) ∧ ((l1 * 4) + w200) < 64) ∧ fin (l5 + 1) then
                                    some (.inl (l2, l3, w210, (l5 + 1), (fup y235.2 36 ((l1 * 4) + w200).toNat w235)))
                                  else none)
                                (some (.inr (.inr (.inr (), y235.2))))
                          else none)
                        (some (.inr (.inr (.inr (), y210.2)))))
                  (some (.inr (.inr (.inr (), y200.2))))
            else
              if y29 = 20 then
                (s_X3_withTold y22.2 l2 20).bind fun y90 =>
                  fel y90.1
                    (fun w90 =>
                      (s_X10_takeNumber y90.2 0 1440).bind fun y102 =>
                        fel y102.1
                          (fun w102 =>
                            (s_X2_tell_28 y102.2 l1 8 w102).bind fun y116 =>
                              if fin (w102 + 1) then
                                (s_X10_takeNumber y116.2 (w102 + 1) 1440).bind fun y137 =>
                                  fel y137.1
                                    (fun w137 =>
                                      (s_X2_tell_28 y137.2 l1 9 w137).bind fun y140 =>
                                        if fin (l5 + 1) then
                                          some (.inl (w90, l3, l4, (l5 + 1), y140.2))
                                        else none)
                                    (some (.inr (.inr (.inr (), y137.2))))
                              else none)
                          (some (.inr (.inr (.inr (), y102.2)))))
                    (some (.inr (.inr (.inr (), y90.2))))
              else
                some (.inr (.inr (.inl (), y22.2)))
theorem s_X3_readMore_b10_ok {d L : Nat} {M : fM} {l1 l2 l3 l4 l5 : Int} {o6 o7 o8 : Option fV} {r : ((Int × Int × Int × Int × fM) ⊕ (fM ⊕ ((Unit ⊕ Unit) × fM)))} {Q : fO → fH → Prop} (h : s_X3_readMore_b10 M l1 l2 l3 l4 l5 = some r) (hC : ∀ (l2' l3' l4' l5' : Int) (M' : fM) (o6' o7' o8' : Option fV), r = .inl (l2', l3', l4', l5', M') → Wp (d + 10, 59, 10, 0, 0, [some (fA 27), some (fI l1), some (fI l2'), some (fI l3'), some (fI l4'), some (fI l5'), o6', o7', o8'], []) (156, fjl L, M') Q) (hE : ∀ (e : fM) (o0' o1' o2' o3' o4' o5' o6' o7' o8' : Option fV), r = .inr (.inl e) → Wp (d + 10, 59, 249, 0, 0, [o0', o1', o2', o3', o4', o5', o6', o7', o8'], []) (156, fjl L, e) Q) (hR : ∀ (v : ((Unit ⊕ Unit) × fM)), r = .inr (.inr v) → Q (oT oV 1 v.1) (156, fjl L, v.2)) : Wp (d + 10, 59, 10, 0, 0, [some (fA 27), some (fI l1), some (fI l2), some (fI l3), some (fI l4), some (fI l5), o6, o7, o8], []) (156, fjl L, M) Q := by
  unfold s_X3_readMore_b10 at h
  refine Wp.run 2 (f' := (d + 10, 59, 15, 0, 0, [some (fA 27), some (fI l1), some (fI l2), some (fI l3), some (fI l4), some (fI l5), _, _, _], [fI 1200, fI l5])) (h' := (156, fjl L, M)) rfl trivial ?_
  refine Wp.br rfl (fun (c : 1200 ≤ l5) => ?_) (fun (c : ¬ (1200 ≤ l5)) => ?_)
  · replace h := fps c h
    exact hE _ _ _ _ _ _ _ _ _ _ (Option.some.inj h).symm
  · replace h := fng c h
    refine Wp.run 2 (f' := (d + 10, 59, 22, 0, 0, [some (fA 27), some (fI l1), some (fI l2), some (fI l3), some (fI l4), some (fI l5), _, _, _], [fA 1])) (h' := (156, fjl L, M)) rfl trivial ?_
    obtain ⟨y22, hy, h⟩ := fbd h
    refine Wp.call rfl (by decide) (s_X10_take_ok (d := d + 7) hy ?_)
    show Wp (d + 10, 59, 25, 0, 0, [some (fA 27), some (fI l1), some (fI l2), some (fI l3), some (fI l4), some (fI l5), _, _, _], []) (156, fjl L, y22.2) Q
    refine Wp.run 2 (f' := (d + 10, 59, 29, 0, 0, [some (fA 27), some (fI l1), some (fI l2), some (fI l3), some (fI l4), some (fI l5), _, _, _], [fA 1])) (h' := (156, fjl L, y22.2)) rfl trivial ?_
    obtain ⟨y29, hy, h⟩ := fbd h
    refine Wp.call rfl (by decide) (s_X10_keywordHere_ok (d := d + 9) hy ?_)
    show Wp (d + 10, 59, 32, 0, 0, [some (fA 27), some (fI l1), some (fI l2), some (fI l3), some (fI l4), some (fI l5), _, _, _], [fI y29]) (156, fjl L, y22.2) Q
    refine Wp.sw rfl ?_
    refine ⟨fun (c : y29 = 17) => ?_, fun (c : ¬ (y29 = 17)) => ?_⟩
    · replace h := fps c h
      show Wp (d + 10, 59, 64, 0, 0, [some (fA 27), some (fI l1), some (fI l2), some (fI l3), some (fI l4), some (fI l5), _, _, _], []) (156, fjl L, y22.2) Q
      refine Wp.run 3 (f' := (d + 10, 59, 68, 0, 0, [some (fA 27), some (fI l1), _, some (fI l3), some (fI l4), some (fI l5), _, _, _], [fI 17, fI l2, fA 27])) (h' := (156, fjl L, y22.2)) rfl trivial ?_
      obtain ⟨y68, hy, h⟩ := fbd h
      refine Wp.call rfl (by decide) (s_X3_withTold_ok (d := d + 1) hy ?_)
      obtain ⟨w68, ew, h⟩ | ⟨ew, h⟩ := fel_of h
      · rw [ew]
        show Wp (d + 10, 59, 71, 0, 0, [some (fA 27), some (fI l1), _, some (fI l3), some (fI l4), some (fI l5), _, _, _], [fI w68]) (156, fjl L, y68.2) Q
        refine Wp.run 6 (f' := (d + 10, 59, 80, 0, 0, [some (fA 27), some (fI l1), some (fI w68), some (fI l3), some (fI l4), some (fI l5), _, _, _], [fI 1, fI 7, fI l1, fA 28])) (h' := (156, fjl L, y68.2)) rfl trivial ?_
        obtain ⟨y80, hy, h⟩ := fbd h
        refine Wp.call rfl (by decide) (s_X2_tell_28_ok (d := d + 9) hy ?_)
        show Wp (d + 10, 59, 83, 0, 0, [some (fA 27), some (fI l1), some (fI w68), some (fI l3), some (fI l4), some (fI l5), _, _, _], []) (156, fjl L, y80.2) Q
        obtain ⟨g0, h⟩ := fgd h
        refine Wp.run 3 (f' := (d + 10, 59, 10, 0, 0, [some (fA 27), some (fI l1), some (fI w68), some (fI l3), some (fI l4), some (fI (fw (l5 + 1))), _, _, _], [])) (h' := (156, fjl L, y80.2)) rfl trivial ?_
        rw [fw_id g0]
        exact hC _ _ _ _ _ _ _ _ (Option.some.inj h).symm
      · rw [ew]
        exact ⟨⟨rfl, rfl⟩, hR _ (Option.some.inj h).symm⟩
    · replace h := fng c h
      refine ⟨fun (c : y29 = 18) => ?_, fun (c : ¬ (y29 = 18)) => ?_⟩
      · replace h := fps c h
        show Wp (d + 10, 59, 146, 0, 0, [some (fA 27), some (fI l1), some (fI l2), some (fI l3), some (fI l4), some (fI l5), _, _, _], []) (156, fjl L, y22.2) Q
        refine Wp.run 4 (f' := (d + 10, 59, 153, 0, 0, [some (fA 27), some (fI l1), some (fI l2), some (fI l3), some (fI l4), some (fI l5), _, _, _], [fI 11, fI 0, fA 1])) (h' := (156, fjl L, y22.2)) rfl trivial ?_
        obtain ⟨y153, hy, h⟩ := fbd h
        refine Wp.call rfl (by decide) (s_X10_takeNumber_ok (d := d + 0) hy ?_)
        obtain ⟨w153, ew, h⟩ | ⟨ew, h⟩ := fel_of h
        · rw [ew]
          show Wp (d + 10, 59, 156, 0, 0, [some (fA 27), some (fI l1), some (fI l2), some (fI l3), some (fI l4), some (fI l5), _, _, _], [fI w153]) (156, fjl L, y153.2) Q
          refine Wp.run 4 (f' := (d + 10, 59, 162, 0, 0, [some (fA 27), some (fI l1), some (fI l2), _, some (fI l4), some (fI l5), _, some (fI w153), _], [fI w153, fI l3, fA 27])) (h' := (156, fjl L, y153.2)) rfl trivial ?_
          obtain ⟨y162, hy, h⟩ := fbd h
          refine Wp.call rfl (by decide) (s_X3_withTold_ok (d := d + 1) hy ?_)
          obtain ⟨w162, ew, h⟩ | ⟨ew, h⟩ := fel_of h
          · rw [ew]
            show Wp (d + 10, 59, 165, 0, 0, [some (fA 27), some (fI l1), some (fI l2), _, some (fI l4), some (fI l5), _, some (fI w153), _], [fI w162]) (156, fjl L, y162.2) Q
            obtain ⟨⟨g0, g1⟩, h⟩ := fgd h
            refine Wp.run 13 (f' := (d + 10, 59, 187, 0, 0, [some (fA 27), some (fI l1), some (fI l2), some (fI w162), some (fI l4), some (fI l5), _, _, _], [fI 99, fI 0, fA 1, fI (fw ((fw (l1 * 12)) + w153)), fA 35])) (h' := (156, fjl L, y162.2)) rfl trivial ?_
            rw [fw_id g0, fw_id g1]
            obtain ⟨y187, hy, h⟩ := fbd h
            refine Wp.call rfl (by decide) (s_X10_takeNumber_ok (d := d + 0) hy ?_)
            obtain ⟨w187, ew, h⟩ | ⟨ew, h⟩ := fel_of h
            · rw [ew]
              show Wp (d + 10, 59, 190, 0, 0, [some (fA 27), some (fI l1), some (fI l2), some (fI w162), some (fI l4), some (fI l5), _, _, _], [fI w187, fI ((l1 * 12) + w153), fA 35]) (156, fjl L, y187.2) Q
              obtain ⟨⟨g0, g1⟩, h⟩ := fgd h
              refine Wp.run 4 (P := [0 ≤ ((l1 * 12) + w153) ∧ ((l1 * 12) + w153) < 192]) (f' := (d + 10, 59, 10, 0, 0, [some (fA 27), some (fI l1), some (fI l2), some (fI w162), some (fI l4), some (fI (fw (l5 + 1))), _, _, _], [])) (h' := (156, fjl L, (fup y187.2 35 ((l1 * 12) + w153).toNat w187))) rfl ?_ ?_
              · exact g0
              rw [fw_id g1]
              exact hC _ _ _ _ _ _ _ _ (Option.some.inj h).symm
            · rw [ew]
              exact ⟨⟨rfl, rfl⟩, hR _ (Option.some.inj h).symm⟩
          · rw [ew]
            exact ⟨⟨rfl, rfl⟩, hR _ (Option.some.inj h).symm⟩
        · rw [ew]
          exact ⟨⟨rfl, rfl⟩, hR _ (Option.some.inj h).symm⟩
      · replace h := fng c h
        refine ⟨fun (c : y29 = 19) => ?_, fun (c : ¬ (y29 = 19)) => ?_⟩
        · replace h := fps c h
          show Wp (d + 10, 59, 194, 0, 0, [some (fA 27), some (fI l1), some (fI l2), some (fI l3), some (fI l4), some (fI l5), _, _, _], []) (156, fjl L, y22.2) Q
          refine Wp.run 4 (f' := (d + 10, 59, 200, 0, 0, [some (fA 27), some (fI l1), some (fI l2), some (fI l3), some (fI l4), some (fI l5), _, _, _], [fI 3, fI 0, fA 1])) (h' := (156, fjl L, y22.2)) rfl trivial ?_
          obtain ⟨y200, hy, h⟩ := fbd h
          refine Wp.call rfl (by decide) (s_X10_takeNumber_ok (d := d + 0) hy ?_)
          obtain ⟨w200, ew, h⟩ | ⟨ew, h⟩ := fel_of h
          · rw [ew]
            show Wp (d + 10, 59, 203, 0, 0, [some (fA 27), some (fI l1), some (fI l2), some (fI l3), some (fI l4), some (fI l5), _, _, _], [fI w200]) (156, fjl L, y200.2) Q
            refine Wp.run 4 (f' := (d + 10, 59, 210, 0, 0, [some (fA 27), some (fI l1), some (fI l2), some (fI l3), _, some (fI l5), _, _, some (fI w200)], [fI w200, fI l4, fA 27])) (h' := (156, fjl L, y200.2)) rfl trivial ?_
            obtain ⟨y210, hy, h⟩ := fbd h
            refine Wp.call rfl (by decide) (s_X3_withTold_ok (d := d + 1) hy ?_)
            obtain ⟨w210, ew, h⟩ | ⟨ew, h⟩ := fel_of h
            · rw [ew]
              show Wp (d + 10, 59, 213, 0, 0, [some (fA 27), some (fI l1), some (fI l2), some (fI l3), _, some (fI l5), _, _, some (fI w200)], [fI w210]) (156, fjl L, y210.2) Q
              obtain ⟨⟨g0, g1⟩, h⟩ := fgd h
              refine Wp.run 13 (f' := (d + 10, 59, 235, 0, 0, [some (fA 27), some (fI l1), some (fI l2), some (fI l3), some (fI w210), some (fI l5), _, _, _], [fI 20, fI 0, fA 1, fI (fw ((fw (l1 * 4)) + w200)), fA 36])) (h' := (156, fjl L, y210.2)) rfl trivial ?_
              rw [fw_id g0, fw_id g1]
              obtain ⟨y235, hy, h⟩ := fbd h
              refine Wp.call rfl (by decide) (s_X10_takeNumber_ok (d := d + 0) hy ?_)
              obtain ⟨w235, ew, h⟩ | ⟨ew, h⟩ := fel_of h
              · rw [ew]
                show Wp (d + 10, 59, 238, 0, 0, [some (fA 27), some (fI l1), some (fI l2), some (fI l3), some (fI w210), some (fI l5), _, _, _], [fI w235, fI ((l1 * 4) + w200), fA 36]) (156, fjl L, y235.2) Q
                obtain ⟨⟨g0, g1⟩, h⟩ := fgd h
                refine Wp.run 4 (P := [0 ≤ ((l1 * 4) + w200) ∧ ((l1 * 4) + w200) < 64]) (f' := (d + 10, 59, 10, 0, 0, [some (fA 27), some (fI l1), some (fI l2), some (fI l3), some (fI w210), some (fI (fw (l5 + 1))), _, _, _], [])) (h' := (156, fjl L, (fup y235.2 36 ((l1 * 4) + w200).toNat w235))) rfl ?_ ?_
                · exact g0
                rw [fw_id g1]
                exact hC _ _ _ _ _ _ _ _ (Option.some.inj h).symm
              · rw [ew]
                exact ⟨⟨rfl, rfl⟩, hR _ (Option.some.inj h).symm⟩
            · rw [ew]
              exact ⟨⟨rfl, rfl⟩, hR _ (Option.some.inj h).symm⟩
          · rw [ew]
            exact ⟨⟨rfl, rfl⟩, hR _ (Option.some.inj h).symm⟩
        · replace h := fng c h
          refine ⟨fun (c : y29 = 20) => ?_, fun (c : ¬ (y29 = 20)) => ?_⟩
          · replace h := fps c h
            show Wp (d + 10, 59, 86, 0, 0, [some (fA 27), some (fI l1), some (fI l2), some (fI l3), some (fI l4), some (fI l5), _, _, _], []) (156, fjl L, y22.2) Q
            refine Wp.run 3 (f' := (d + 10, 59, 90, 0, 0, [some (fA 27), some (fI l1), _, some (fI l3), some (fI l4), some (fI l5), _, _, _], [fI 20, fI l2, fA 27])) (h' := (156, fjl L, y22.2)) rfl trivial ?_
            obtain ⟨y90, hy, h⟩ := fbd h
            refine Wp.call rfl (by decide) (s_X3_withTold_ok (d := d + 1) hy ?_)
            obtain ⟨w90, ew, h⟩ | ⟨ew, h⟩ := fel_of h
            · rw [ew]
              show Wp (d + 10, 59, 93, 0, 0, [some (fA 27), some (fI l1), _, some (fI l3), some (fI l4), some (fI l5), _, _, _], [fI w90]) (156, fjl L, y90.2) Q
              refine Wp.run 5 (f' := (d + 10, 59, 102, 0, 0, [some (fA 27), some (fI l1), some (fI w90), some (fI l3), some (fI l4), some (fI l5), _, _, _], [fI 1440, fI 0, fA 1])) (h' := (156, fjl L, y90.2)) rfl trivial ?_
              obtain ⟨y102, hy, h⟩ := fbd h
              refine Wp.call rfl (by decide) (s_X10_takeNumber_ok (d := d + 0) hy ?_)
              obtain ⟨w102, ew, h⟩ | ⟨ew, h⟩ := fel_of h
              · rw [ew]
                show Wp (d + 10, 59, 105, 0, 0, [some (fA 27), some (fI l1), some (fI w90), some (fI l3), some (fI l4), some (fI l5), _, _, _], [fI w102]) (156, fjl L, y102.2) Q
                refine Wp.run 6 (f' := (d + 10, 59, 116, 0, 0, [some (fA 27), some (fI l1), some (fI w90), some (fI l3), some (fI l4), some (fI l5), some (fI w102), _, _], [fI w102, fI 8, fI l1, fA 28])) (h' := (156, fjl L, y102.2)) rfl trivial ?_
                obtain ⟨y116, hy, h⟩ := fbd h
                refine Wp.call rfl (by decide) (s_X2_tell_28_ok (d := d + 9) hy ?_)
                show Wp (d + 10, 59, 119, 0, 0, [some (fA 27), some (fI l1), some (fI w90), some (fI l3), some (fI l4), some (fI l5), some (fI w102), _, _], []) (156, fjl L, y116.2) Q
                obtain ⟨g0, h⟩ := fgd h
                refine Wp.run 10 (f' := (d + 10, 59, 137, 0, 0, [some (fA 27), some (fI l1), some (fI w90), some (fI l3), some (fI l4), some (fI l5), _, _, _], [fI 1440, fI (fw (w102 + 1)), fA 1, fI 9, fI l1, fA 28])) (h' := (156, fjl L, y116.2)) rfl trivial ?_
                rw [fw_id g0]
                obtain ⟨y137, hy, h⟩ := fbd h
                refine Wp.call rfl (by decide) (s_X10_takeNumber_ok (d := d + 0) hy ?_)
                obtain ⟨w137, ew, h⟩ | ⟨ew, h⟩ := fel_of h
                · rw [ew]
                  show Wp (d + 10, 59, 140, 0, 0, [some (fA 27), some (fI l1), some (fI w90), some (fI l3), some (fI l4), some (fI l5), _, _, _], [fI w137, fI 9, fI l1, fA 28]) (156, fjl L, y137.2) Q
                  obtain ⟨y140, hy, h⟩ := fbd h
                  refine Wp.call rfl (by decide) (s_X2_tell_28_ok (d := d + 9) hy ?_)
                  show Wp (d + 10, 59, 143, 0, 0, [some (fA 27), some (fI l1), some (fI w90), some (fI l3), some (fI l4), some (fI l5), _, _, _], []) (156, fjl L, y140.2) Q
                  obtain ⟨g0, h⟩ := fgd h
                  refine Wp.run 3 (f' := (d + 10, 59, 10, 0, 0, [some (fA 27), some (fI l1), some (fI w90), some (fI l3), some (fI l4), some (fI (fw (l5 + 1))), _, _, _], [])) (h' := (156, fjl L, y140.2)) rfl trivial ?_
                  rw [fw_id g0]
                  exact hC _ _ _ _ _ _ _ _ (Option.some.inj h).symm
                · rw [ew]
                  exact ⟨⟨rfl, rfl⟩, hR _ (Option.some.inj h).symm⟩
              · rw [ew]
                exact ⟨⟨rfl, rfl⟩, hR _ (Option.some.inj h).symm⟩
            · rw [ew]
              exact ⟨⟨rfl, rfl⟩, hR _ (Option.some.inj h).symm⟩
          · replace h := fng c h
            show Wp (d + 10, 59, 242, 0, 0, [_, _, _, _, _, _, _, _, _], []) (156, fjl L, y22.2) Q
            exact Wp.done rfl (by decide) (hR _ (Option.some.inj h).symm)
theorem s_X3_readMore_b10_fr {M : fM} {l1 l2 l3 l4 l5 : Int} {r : ((Int × Int × Int × Int × fM) ⊕ (fM ⊕ ((Unit ⊕ Unit) × fM)))} (h : s_X3_readMore_b10 M l1 l2 l3 l4 l5 = some r) : fSame s_X3_readMore_mods M (Sum.elim (fun s => s.2.2.2.2) (Sum.elim (fun e => e) (fun v => v.2)) r) := by
  unfold s_X3_readMore_b10 at h
  by_cases c : 1200 ≤ l5
  · replace h := fps c h
    obtain rfl := Option.some.inj h
    exact fs_refl
  · replace h := fng c h
    obtain ⟨y22, hy, h⟩ := fbd h
    have k22 := fs_trans (l := s_X3_readMore_mods) fs_refl (fs_mono (l := s_X10_take_mods) (by decide) (s_X10_take_fr hy))
    obtain ⟨y29, hy, h⟩ := fbd h
    by_cases c : y29 = 17
    · replace h := fps c h
      obtain ⟨y68, hy, h⟩ := fbd h
      have k68 := fs_trans (l := s_X3_readMore_mods) k22 (fs_mono (l := s_X3_withTold_mods) (by decide) (s_X3_withTold_fr hy))
      obtain ⟨w68, ew, h⟩ | ⟨ew, h⟩ := fel_of h
      · obtain ⟨y80, hy, h⟩ := fbd h
        have k80 := fs_trans (l := s_X3_readMore_mods) k68 (fs_mono (l := s_X2_tell_28_mods) (by decide) (s_X2_tell_28_fr hy))
        replace h := (fgd h).2
        obtain rfl := Option.some.inj h
        exact k80
      · obtain rfl := Option.some.inj h
        exact k68
    · replace h := fng c h
      by_cases c : y29 = 18
      · replace h := fps c h
        obtain ⟨y153, hy, h⟩ := fbd h
        have k153 := fs_trans (l := s_X3_readMore_mods) k22 (fs_mono (l := s_X10_takeNumber_mods) (by decide) (s_X10_takeNumber_fr hy))
        obtain ⟨w153, ew, h⟩ | ⟨ew, h⟩ := fel_of h
        · obtain ⟨y162, hy, h⟩ := fbd h
          have k162 := fs_trans (l := s_X3_readMore_mods) k153 (fs_mono (l := s_X3_withTold_mods) (by decide) (s_X3_withTold_fr hy))
          obtain ⟨w162, ew, h⟩ | ⟨ew, h⟩ := fel_of h
          · replace h := (fgd h).2
            obtain ⟨y187, hy, h⟩ := fbd h
            have k187 := fs_trans (l := s_X3_readMore_mods) k162 (fs_mono (l := s_X10_takeNumber_mods) (by decide) (s_X10_takeNumber_fr hy))
            obtain ⟨w187, ew, h⟩ | ⟨ew, h⟩ := fel_of h
            · replace h := (fgd h).2
              obtain rfl := Option.some.inj h
              exact fs_up k187 (.inl (by decide))
            · obtain rfl := Option.some.inj h
              exact k187
          · obtain rfl := Option.some.inj h
            exact k162
        · obtain rfl := Option.some.inj h
          exact k153
      · replace h := fng c h
        by_cases c : y29 = 19
        · replace h := fps c h
          obtain ⟨y200, hy, h⟩ := fbd h
          have k200 := fs_trans (l := s_X3_readMore_mods) k22 (fs_mono (l := s_X10_takeNumber_mods) (by decide) (s_X10_takeNumber_fr hy))
          obtain ⟨w200, ew, h⟩ | ⟨ew, h⟩ := fel_of h
          · obtain ⟨y210, hy, h⟩ := fbd h
            have k210 := fs_trans (l := s_X3_readMore_mods) k200 (fs_mono (l := s_X3_withTold_mods) (by decide) (s_X3_withTold_fr hy))
            obtain ⟨w210, ew, h⟩ | ⟨ew, h⟩ := fel_of h
            · replace h := (fgd h).2
              obtain ⟨y235, hy, h⟩ := fbd h
              have k235 := fs_trans (l := s_X3_readMore_mods) k210 (fs_mono (l := s_X10_takeNumber_mods) (by decide) (s_X10_takeNumber_fr hy))
              obtain ⟨w235, ew, h⟩ | ⟨ew, h⟩ := fel_of h
              · replace h := (fgd h).2
                obtain rfl := Option.some.inj h
                exact fs_up k235 (.inl (by decide))
              · obtain rfl := Option.some.inj h
                exact k235
            · obtain rfl := Option.some.inj h
              exact k210
          · obtain rfl := Option.some.inj h
            exact k200
        · replace h := fng c h
          by_cases c : y29 = 20
          · replace h := fps c h
            obtain ⟨y90, hy, h⟩ := fbd h
            have k90 := fs_trans (l := s_X3_readMore_mods) k22 (fs_mono (l := s_X3_withTold_mods) (by decide) (s_X3_withTold_fr hy))
            obtain ⟨w90, ew, h⟩ | ⟨ew, h⟩ := fel_of h
            · obtain ⟨y102, hy, h⟩ := fbd h
              have k102 := fs_trans (l := s_X3_readMore_mods) k90 (fs_mono (l := s_X10_takeNumber_mods) (by decide) (s_X10_takeNumber_fr hy))
              obtain ⟨w102, ew, h⟩ | ⟨ew, h⟩ := fel_of h
              · obtain ⟨y116, hy, h⟩ := fbd h
                have k116 := fs_trans (l := s_X3_readMore_mods) k102 (fs_mono (l := s_X2_tell_28_mods) (by decide) (s_X2_tell_28_fr hy))
                replace h := (fgd h).2
                obtain ⟨y137, hy, h⟩ := fbd h
                have k137 := fs_trans (l := s_X3_readMore_mods) k116 (fs_mono (l := s_X10_takeNumber_mods) (by decide) (s_X10_takeNumber_fr hy))
                obtain ⟨w137, ew, h⟩ | ⟨ew, h⟩ := fel_of h
                · obtain ⟨y140, hy, h⟩ := fbd h
                  have k140 := fs_trans (l := s_X3_readMore_mods) k137 (fs_mono (l := s_X2_tell_28_mods) (by decide) (s_X2_tell_28_fr hy))
                  replace h := (fgd h).2
                  obtain rfl := Option.some.inj h
                  exact k140
                · obtain rfl := Option.some.inj h
                  exact k137
              · obtain rfl := Option.some.inj h
                exact k102
            · obtain rfl := Option.some.inj h
              exact k90
          · replace h := fng c h
            obtain rfl := Option.some.inj h
            exact k22
noncomputable def s_X3_readMore_l10 (l1 : Int) (s : (Int × Int × Int × Int × fM)) : Option (fM ⊕ ((Unit ⊕ Unit) × fM)) := fLp (fun s => s_X3_readMore_b10 s.2.2.2.2 l1 s.1 s.2.1 s.2.2.1 s.2.2.2.1) s
theorem s_X3_readMore_l10_ok {d L : Nat} {M : fM} {l1 l2 l3 l4 l5 : Int} {o6 o7 o8 : Option fV} {r : (fM ⊕ ((Unit ⊕ Unit) × fM))} {Q : fO → fH → Prop} (h : s_X3_readMore_l10 l1 (l2, l3, l4, l5, M) = some r) (hE : ∀ (e : fM) (o0' o1' o2' o3' o4' o5' o6' o7' o8' : Option fV), r = .inl e → Wp (d + 10, 59, 249, 0, 0, [o0', o1', o2', o3', o4', o5', o6', o7', o8'], []) (156, fjl L, e) Q) (hR : ∀ (v : ((Unit ⊕ Unit) × fM)), r = .inr v → Q (oT oV 1 v.1) (156, fjl L, v.2)) : Wp (d + 10, 59, 10, 0, 0, [some (fA 27), some (fI l1), some (fI l2), some (fI l3), some (fI l4), some (fI l5), o6, o7, o8], []) (156, fjl L, M) Q := by
  refine fLp_wp (W := fun s => ∀ (o6 o7 o8 : Option fV), Wp (d + 10, 59, 10, 0, 0, [some (fA 27), some (fI l1), some (fI s.1), some (fI s.2.1), some (fI s.2.2.1), some (fI s.2.2.2.1), o6, o7, o8], []) (156, fjl L, s.2.2.2.2) Q) (e := r) ?_ h _ _ _
  intro s r1 h hC hX o6 o7 o8
  refine s_X3_readMore_b10_ok (d := d) h (fun a0 a1 a2 a3 a4 _ _ _ e1 => ?_) (fun e u0 u1 u2 u3 u4 u5 u6 u7 u8 e1 => hE e u0 u1 u2 u3 u4 u5 u6 u7 u8 (hX _ e1).symm) (fun v e1 => hR v (hX _ e1).symm)
  exact hC _ e1 _ _ _
theorem s_X3_readMore_l10_fr {M : fM} {l1 l2 l3 l4 l5 : Int} {r : (fM ⊕ ((Unit ⊕ Unit) × fM))} (h : s_X3_readMore_l10 l1 (l2, l3, l4, l5, M) = some r) : fSame s_X3_readMore_mods M ((Sum.elim (fun e => e) (fun v => v.2)) r) := by
  refine fLp_inv (I := fun s => fSame s_X3_readMore_mods M s.2.2.2.2) (J := fun r => fSame s_X3_readMore_mods M ((Sum.elim (fun e => e) (fun v => v.2)) r)) h fs_refl (fun s s1 hs hb => ?_) (fun s e hs hb => ?_)
  · exact fs_trans hs (s_X3_readMore_b10_fr hb)
  · exact fs_trans hs (s_X3_readMore_b10_fr hb)
noncomputable def s_X3_readMore (M : fM) (l1 : Int) : Option ((Unit ⊕ Unit) × fM) :=
  (s_X3_readMore_l10 l1 (0, 0, 0, 0, M)).bind fun e10 =>
    Sum.elim (fun x10 =>
      some (.inl (), x10))
      (fun v10 => some v10) e10
theorem s_X3_readMore_ok {d L : Nat} {M : fM} {l1 : Int} {r : ((Unit ⊕ Unit) × fM)} {Q : fO → fH → Prop} (h : s_X3_readMore M l1 = some r) (H : Q (oT oV 1 r.1) (156, fjl L, r.2)) : Wp (d + 10, 59, 0, 0, 0, [some (fA 27), some (fI l1), none, none, none, none, none, none, none], []) (156, fjl L, M) Q := by
  unfold s_X3_readMore at h
  refine Wp.run 8 (f' := (d + 10, 59, 10, 0, 0, [some (fA 27), some (fI l1), some (fI 0), some (fI 0), some (fI 0), some (fI 0), _, _, _], [])) (h' := (156, fjl L, M)) rfl trivial ?_
  obtain ⟨e10, hy, h⟩ := fbd h
  refine s_X3_readMore_l10_ok hy (fun x10 u0 u1 u2 u3 u4 u5 u6 u7 u8 ex => ?_) (fun v10 ex => ?_)
  · subst ex
    replace h := fsl h
    show Wp (d + 10, 59, 249, 0, 0, [u0, u1, u2, u3, u4, u5, u6, u7, u8], []) (156, fjl L, x10) Q
    obtain rfl := Option.some.inj h
    exact Wp.done rfl (by decide) H
  · subst ex
    replace h := fsr h
    obtain rfl := Option.some.inj h
    exact H
theorem s_X3_readMore_fr {M : fM} {l1 : Int} {r : ((Unit ⊕ Unit) × fM)} (h : s_X3_readMore M l1 = some r) : fSame s_X3_readMore_mods M r.2 := by
  unfold s_X3_readMore at h
  obtain ⟨e10, hy, h⟩ := fbd h
  have k10 := fs_trans (l := s_X3_readMore_mods) fs_refl (s_X3_readMore_l10_fr hy)
  rcases e10 with x10 | v10
  · replace h := fsl h
    obtain rfl := Option.some.inj h
    exact k10
  · replace h := fsr h
    obtain rfl := Option.some.inj h
    exact k10
abbrev s_X3_readNameLine_mods : List (Nat × Option Nat) := [(1, some 4), (1, some 5), (1, some 6), (1, some 7), (1, some 8), (1, some 9), (1, some 10), (28, some 13), (28, some 14), (28, some 15), (34, none), (35, none), (36, none), (37, none), (38, none), (39, none), (40, none), (41, none)]
noncomputable def s_X3_readNameLine (M : fM) (l1 : Int) : Option ((Unit ⊕ Unit) × fM) :=
  if l1 = 9 then
    (s_X3_mustHaveRoom M (M 28 13) 16).bind fun y42 =>
      fel y42.1
        (fun w42 =>
          (s_X3_takeNewName y42.2).bind fun y47 =>
            fel y47.1
              (fun w47 =>
                (s_X3_readPiano y47.2 w47).bind fun y50 =>
                  fel y50.1
                    (fun w50 =>
                      if fin ((y50.2 28 13) - 1) then
                        (s_X3_readMore y50.2 ((y50.2 28 13) - 1)).bind fun y63 =>
                          fel y63.1
                            (fun w63 =>
                              some (.inl (), y63.2))
                            (some (.inr (), y63.2))
                      else none)
                    (some (.inr (), y50.2)))
              (some (.inr (), y47.2)))
        (some (.inr (), y42.2))
  else
    if l1 = 10 then
      (s_X3_mustHaveRoom M (M 28 14) 6).bind fun y79 =>
        fel y79.1
          (fun w79 =>
            (s_X3_takeNewName y79.2).bind fun y84 =>
              fel y84.1
                (fun w84 =>
                  (s_X3_readTuner y84.2 w84).bind fun y87 =>
                    fel y87.1
                      (fun w87 =>
                        some (.inl (), y87.2))
                      (some (.inr (), y87.2)))
                (some (.inr (), y84.2)))
          (some (.inr (), y79.2))
    else
      if l1 = 11 then
        (s_X3_mustHaveRoom M (M 28 15) 6).bind fun y103 =>
          fel y103.1
            (fun w103 =>
              (s_X3_takeNewName y103.2).bind fun y121 =>
                fel y121.1
                  (fun w121 =>
                    if (0 ≤ (y103.2 28 15) ∧ (y103.2 28 15) < 6) ∧ fin ((y121.2 28 15) + 1) then
                      (s_X10_take (fup (fup y121.2 41 (y103.2 28 15).toNat w121) 28 15 ((y121.2 28 15) + 1))).bind fun y142 =>
                        some (.inl (), y142.2)
                    else none)
                  (some (.inr (), y121.2)))
            (some (.inr (), y103.2))
      else
        if l1 = 12 then
          (s_X3_readTeach M).bind fun y149 =>
            fel y149.1
              (fun w149 =>
                some (.inl (), y149.2))
              (some (.inr (), y149.2))
        else
          (s_X10_fail M 1).bind fun y160 =>
            fel y160.1
              (fun w160 =>
                some (.inl (), y160.2))
              (some (.inr (), y160.2))
theorem s_X3_readNameLine_ok {d L : Nat} {M : fM} {l1 : Int} {r : ((Unit ⊕ Unit) × fM)} {Q : fO → fH → Prop} (h : s_X3_readNameLine M l1 = some r) (H : Q (oT oV 1 r.1) (156, fjl L, r.2)) : Wp (d + 11, 49, 0, 0, 0, [some (fA 27), some (fI l1)], []) (156, fjl L, M) Q := by
  unfold s_X3_readNameLine at h
  refine Wp.run 1 (f' := (d + 11, 49, 1, 0, 0, [some (fA 27), _], [fI l1])) (h' := (156, fjl L, M)) rfl trivial ?_
  refine Wp.sw rfl ?_
  refine ⟨fun (c : l1 = 9) => ?_, fun (c : ¬ (l1 = 9)) => ?_⟩
  · replace h := fps c h
    show Wp (d + 11, 49, 32, 0, 0, [some (fA 27), _], []) (156, fjl L, M) Q
    refine Wp.run 5 (f' := (d + 11, 49, 42, 0, 0, [some (fA 27), _], [fI 16, fI (M 28 13), fA 27])) (h' := (156, fjl L, M)) rfl trivial ?_
    obtain ⟨y42, hy, h⟩ := fbd h
    refine Wp.call rfl (by decide) (s_X3_mustHaveRoom_ok (d := d + 2) hy ?_)
    obtain ⟨w42, ew, h⟩ | ⟨ew, h⟩ := fel_of h
    · rw [ew]
      show Wp (d + 11, 49, 45, 0, 0, [some (fA 27), _], []) (156, fjl L, y42.2) Q
      refine Wp.run 2 (f' := (d + 11, 49, 47, 0, 0, [some (fA 27), _], [fA 27, fA 27])) (h' := (156, fjl L, y42.2)) rfl trivial ?_
      obtain ⟨y47, hy, h⟩ := fbd h
      refine Wp.call rfl (by decide) (s_X3_takeNewName_ok (d := d + 1) hy ?_)
      obtain ⟨w47, ew, h⟩ | ⟨ew, h⟩ := fel_of h
      · rw [ew]
        show Wp (d + 11, 49, 50, 0, 0, [some (fA 27), _], [fJ w47, fA 27]) (156, fjl L, y47.2) Q
        obtain ⟨y50, hy, h⟩ := fbd h
        refine Wp.call rfl (by decide) (s_X3_readPiano_ok (d := d + 0) hy ?_)
        obtain ⟨w50, ew, h⟩ | ⟨ew, h⟩ := fel_of h
        · rw [ew]
          show Wp (d + 11, 49, 53, 0, 0, [some (fA 27), _], []) (156, fjl L, y50.2) Q
          obtain ⟨g0, h⟩ := fgd h
          refine Wp.run 6 (f' := (d + 11, 49, 63, 0, 0, [_, _], [fI (fw ((y50.2 28 13) - 1)), fA 27])) (h' := (156, fjl L, y50.2)) rfl trivial ?_
          rw [fw_id g0]
          obtain ⟨y63, hy, h⟩ := fbd h
          refine Wp.call rfl (by decide) (s_X3_readMore_ok (d := d + 0) hy ?_)
          obtain ⟨w63, ew, h⟩ | ⟨ew, h⟩ := fel_of h
          · rw [ew]
            show Wp (d + 11, 49, 66, 0, 0, [_, _], []) (156, fjl L, y63.2) Q
            refine Wp.run 1 (f' := (d + 11, 49, 163, 0, 0, [_, _], [])) (h' := (156, fjl L, y63.2)) rfl trivial ?_
            obtain rfl := Option.some.inj h
            exact Wp.done rfl (by decide) H
          · rw [ew]
            obtain rfl := Option.some.inj h
            exact ⟨⟨rfl, rfl⟩, H⟩
        · rw [ew]
          obtain rfl := Option.some.inj h
          exact ⟨⟨rfl, rfl⟩, H⟩
      · rw [ew]
        obtain rfl := Option.some.inj h
        exact ⟨⟨rfl, rfl⟩, H⟩
    · rw [ew]
      obtain rfl := Option.some.inj h
      exact ⟨⟨rfl, rfl⟩, H⟩
  · replace h := fng c h
    refine ⟨fun (c : l1 = 10) => ?_, fun (c : ¬ (l1 = 10)) => ?_⟩
    · replace h := fps c h
      show Wp (d + 11, 49, 69, 0, 0, [some (fA 27), _], []) (156, fjl L, M) Q
      refine Wp.run 5 (f' := (d + 11, 49, 79, 0, 0, [some (fA 27), _], [fI 6, fI (M 28 14), fA 27])) (h' := (156, fjl L, M)) rfl trivial ?_
      obtain ⟨y79, hy, h⟩ := fbd h
      refine Wp.call rfl (by decide) (s_X3_mustHaveRoom_ok (d := d + 2) hy ?_)
      obtain ⟨w79, ew, h⟩ | ⟨ew, h⟩ := fel_of h
      · rw [ew]
        show Wp (d + 11, 49, 82, 0, 0, [some (fA 27), _], []) (156, fjl L, y79.2) Q
        refine Wp.run 2 (f' := (d + 11, 49, 84, 0, 0, [_, _], [fA 27, fA 27])) (h' := (156, fjl L, y79.2)) rfl trivial ?_
        obtain ⟨y84, hy, h⟩ := fbd h
        refine Wp.call rfl (by decide) (s_X3_takeNewName_ok (d := d + 1) hy ?_)
        obtain ⟨w84, ew, h⟩ | ⟨ew, h⟩ := fel_of h
        · rw [ew]
          show Wp (d + 11, 49, 87, 0, 0, [_, _], [fJ w84, fA 27]) (156, fjl L, y84.2) Q
          obtain ⟨y87, hy, h⟩ := fbd h
          refine Wp.call rfl (by decide) (s_X3_readTuner_ok (d := d + 0) hy ?_)
          obtain ⟨w87, ew, h⟩ | ⟨ew, h⟩ := fel_of h
          · rw [ew]
            show Wp (d + 11, 49, 90, 0, 0, [_, _], []) (156, fjl L, y87.2) Q
            refine Wp.run 1 (f' := (d + 11, 49, 163, 0, 0, [_, _], [])) (h' := (156, fjl L, y87.2)) rfl trivial ?_
            obtain rfl := Option.some.inj h
            exact Wp.done rfl (by decide) H
          · rw [ew]
            obtain rfl := Option.some.inj h
            exact ⟨⟨rfl, rfl⟩, H⟩
        · rw [ew]
          obtain rfl := Option.some.inj h
          exact ⟨⟨rfl, rfl⟩, H⟩
      · rw [ew]
        obtain rfl := Option.some.inj h
        exact ⟨⟨rfl, rfl⟩, H⟩
    · replace h := fng c h
      refine ⟨fun (c : l1 = 11) => ?_, fun (c : ¬ (l1 = 11)) => ?_⟩
      · replace h := fps c h
        show Wp (d + 11, 49, 93, 0, 0, [some (fA 27), _], []) (156, fjl L, M) Q
        refine Wp.run 5 (f' := (d + 11, 49, 103, 0, 0, [some (fA 27), _], [fI 6, fI (M 28 15), fA 27])) (h' := (156, fjl L, M)) rfl trivial ?_
        obtain ⟨y103, hy, h⟩ := fbd h
        refine Wp.call rfl (by decide) (s_X3_mustHaveRoom_ok (d := d + 2) hy ?_)
        obtain ⟨w103, ew, h⟩ | ⟨ew, h⟩ := fel_of h
        · rw [ew]
          show Wp (d + 11, 49, 106, 0, 0, [some (fA 27), _], []) (156, fjl L, y103.2) Q
          refine Wp.run 7 (f' := (d + 11, 49, 121, 0, 0, [some (fA 27), _], [fA 27, fI (y103.2 28 15), fA 41])) (h' := (156, fjl L, y103.2)) rfl trivial ?_
          obtain ⟨y121, hy, h⟩ := fbd h
          refine Wp.call rfl (by decide) (s_X3_takeNewName_ok (d := d + 1) hy ?_)
          obtain ⟨w121, ew, h⟩ | ⟨ew, h⟩ := fel_of h
          · rw [ew]
            show Wp (d + 11, 49, 124, 0, 0, [some (fA 27), _], [fJ w121, fI (y103.2 28 15), fA 41]) (156, fjl L, y121.2) Q
            obtain ⟨⟨g0, g1⟩, h⟩ := fgd h
            refine Wp.run 10 (P := [0 ≤ (y103.2 28 15) ∧ (y103.2 28 15) < 6]) (f' := (d + 11, 49, 142, 0, 0, [_, _], [fA 1])) (h' := (156, fjl L, (fup (fup y121.2 41 (y103.2 28 15).toNat w121) 28 15 (fw ((y121.2 28 15) + 1))))) rfl ?_ ?_
            · exact g0
            rw [fw_id g1]
            obtain ⟨y142, hy, h⟩ := fbd h
            refine Wp.call rfl (by decide) (s_X10_take_ok (d := d + 8) hy ?_)
            show Wp (d + 11, 49, 145, 0, 0, [_, _], []) (156, fjl L, y142.2) Q
            refine Wp.run 1 (f' := (d + 11, 49, 163, 0, 0, [_, _], [])) (h' := (156, fjl L, y142.2)) rfl trivial ?_
            obtain rfl := Option.some.inj h
            exact Wp.done rfl (by decide) H
          · rw [ew]
            obtain rfl := Option.some.inj h
            exact ⟨⟨rfl, rfl⟩, H⟩
        · rw [ew]
          obtain rfl := Option.some.inj h
          exact ⟨⟨rfl, rfl⟩, H⟩
      · replace h := fng c h
        refine ⟨fun (c : l1 = 12) => ?_, fun (c : ¬ (l1 = 12)) => ?_⟩
        · replace h := fps c h
          show Wp (d + 11, 49, 148, 0, 0, [some (fA 27), _], []) (156, fjl L, M) Q
          refine Wp.run 1 (f' := (d + 11, 49, 149, 0, 0, [_, _], [fA 27])) (h' := (156, fjl L, M)) rfl trivial ?_
          obtain ⟨y149, hy, h⟩ := fbd h
          refine Wp.call rfl (by decide) (s_X3_readTeach_ok (d := d + 0) hy ?_)
          obtain ⟨w149, ew, h⟩ | ⟨ew, h⟩ := fel_of h
          · rw [ew]
            show Wp (d + 11, 49, 152, 0, 0, [_, _], []) (156, fjl L, y149.2) Q
            refine Wp.run 1 (f' := (d + 11, 49, 163, 0, 0, [_, _], [])) (h' := (156, fjl L, y149.2)) rfl trivial ?_
            obtain rfl := Option.some.inj h
            exact Wp.done rfl (by decide) H
          · rw [ew]
            obtain rfl := Option.some.inj h
            exact ⟨⟨rfl, rfl⟩, H⟩
        · replace h := fng c h
          show Wp (d + 11, 49, 155, 0, 0, [some (fA 27), _], []) (156, fjl L, M) Q
          refine Wp.run 3 (f' := (d + 11, 49, 160, 0, 0, [_, _], [fI 1, fA 1])) (h' := (156, fjl L, M)) rfl trivial ?_
          obtain ⟨y160, hy, h⟩ := fbd h
          refine Wp.call rfl (by decide) (s_X10_fail_ok (d := d + 3) hy ?_)
          obtain ⟨w160, ew, h⟩ | ⟨ew, h⟩ := fel_of h
          · rw [ew]
            show Wp (d + 11, 49, 163, 0, 0, [_, _], []) (156, fjl L, y160.2) Q
            obtain rfl := Option.some.inj h
            exact Wp.done rfl (by decide) H
          · rw [ew]
            obtain rfl := Option.some.inj h
            exact ⟨⟨rfl, rfl⟩, H⟩
theorem s_X3_readNameLine_fr {M : fM} {l1 : Int} {r : ((Unit ⊕ Unit) × fM)} (h : s_X3_readNameLine M l1 = some r) : fSame s_X3_readNameLine_mods M r.2 := by
  unfold s_X3_readNameLine at h
  by_cases c : l1 = 9
  · replace h := fps c h
    obtain ⟨y42, hy, h⟩ := fbd h
    have k42 := fs_trans (l := s_X3_readNameLine_mods) fs_refl (fs_mono (l := s_X3_mustHaveRoom_mods) (by decide) (s_X3_mustHaveRoom_fr hy))
    obtain ⟨w42, ew, h⟩ | ⟨ew, h⟩ := fel_of h
    · obtain ⟨y47, hy, h⟩ := fbd h
      have k47 := fs_trans (l := s_X3_readNameLine_mods) k42 (fs_mono (l := s_X3_takeNewName_mods) (by decide) (s_X3_takeNewName_fr hy))
      obtain ⟨w47, ew, h⟩ | ⟨ew, h⟩ := fel_of h
      · obtain ⟨y50, hy, h⟩ := fbd h
        have k50 := fs_trans (l := s_X3_readNameLine_mods) k47 (fs_mono (l := s_X3_readPiano_mods) (by decide) (s_X3_readPiano_fr hy))
        obtain ⟨w50, ew, h⟩ | ⟨ew, h⟩ := fel_of h
        · replace h := (fgd h).2
          obtain ⟨y63, hy, h⟩ := fbd h
          have k63 := fs_trans (l := s_X3_readNameLine_mods) k50 (fs_mono (l := s_X3_readMore_mods) (by decide) (s_X3_readMore_fr hy))
          obtain ⟨w63, ew, h⟩ | ⟨ew, h⟩ := fel_of h
          · obtain rfl := Option.some.inj h
            exact k63
          · obtain rfl := Option.some.inj h
            exact k63
        · obtain rfl := Option.some.inj h
          exact k50
      · obtain rfl := Option.some.inj h
        exact k47
    · obtain rfl := Option.some.inj h
      exact k42
  · replace h := fng c h
    by_cases c : l1 = 10
    · replace h := fps c h
      obtain ⟨y79, hy, h⟩ := fbd h
      have k79 := fs_trans (l := s_X3_readNameLine_mods) fs_refl (fs_mono (l := s_X3_mustHaveRoom_mods) (by decide) (s_X3_mustHaveRoom_fr hy))
      obtain ⟨w79, ew, h⟩ | ⟨ew, h⟩ := fel_of h
      · obtain ⟨y84, hy, h⟩ := fbd h
        have k84 := fs_trans (l := s_X3_readNameLine_mods) k79 (fs_mono (l := s_X3_takeNewName_mods) (by decide) (s_X3_takeNewName_fr hy))
        obtain ⟨w84, ew, h⟩ | ⟨ew, h⟩ := fel_of h
        · obtain ⟨y87, hy, h⟩ := fbd h
          have k87 := fs_trans (l := s_X3_readNameLine_mods) k84 (fs_mono (l := s_X3_readTuner_mods) (by decide) (s_X3_readTuner_fr hy))
          obtain ⟨w87, ew, h⟩ | ⟨ew, h⟩ := fel_of h
          · obtain rfl := Option.some.inj h
            exact k87
          · obtain rfl := Option.some.inj h
            exact k87
        · obtain rfl := Option.some.inj h
          exact k84
      · obtain rfl := Option.some.inj h
        exact k79
    · replace h := fng c h
      by_cases c : l1 = 11
      · replace h := fps c h
        obtain ⟨y103, hy, h⟩ := fbd h
        have k103 := fs_trans (l := s_X3_readNameLine_mods) fs_refl (fs_mono (l := s_X3_mustHaveRoom_mods) (by decide) (s_X3_mustHaveRoom_fr hy))
        obtain ⟨w103, ew, h⟩ | ⟨ew, h⟩ := fel_of h
        · obtain ⟨y121, hy, h⟩ := fbd h
          have k121 := fs_trans (l := s_X3_readNameLine_mods) k103 (fs_mono (l := s_X3_takeNewName_mods) (by decide) (s_X3_takeNewName_fr hy))
          obtain ⟨w121, ew, h⟩ | ⟨ew, h⟩ := fel_of h
          · replace h := (fgd h).2
            obtain ⟨y142, hy, h⟩ := fbd h
            have k142 := fs_trans (l := s_X3_readNameLine_mods) (fs_up (fs_up k121 (.inl (by decide))) (.inr (by decide))) (fs_mono (l := s_X10_take_mods) (by decide) (s_X10_take_fr hy))
            obtain rfl := Option.some.inj h
            exact k142
          · obtain rfl := Option.some.inj h
            exact k121
        · obtain rfl := Option.some.inj h
          exact k103
      · replace h := fng c h
        by_cases c : l1 = 12
        · replace h := fps c h
          obtain ⟨y149, hy, h⟩ := fbd h
          have k149 := fs_trans (l := s_X3_readNameLine_mods) fs_refl (fs_mono (l := s_X3_readTeach_mods) (by decide) (s_X3_readTeach_fr hy))
          obtain ⟨w149, ew, h⟩ | ⟨ew, h⟩ := fel_of h
          · obtain rfl := Option.some.inj h
            exact k149
          · obtain rfl := Option.some.inj h
            exact k149
        · replace h := fng c h
          obtain ⟨y160, hy, h⟩ := fbd h
          have k160 := fs_trans (l := s_X3_readNameLine_mods) fs_refl (fs_mono (l := s_X10_fail_mods) (by decide) (s_X10_fail_fr hy))
          obtain ⟨w160, ew, h⟩ | ⟨ew, h⟩ := fel_of h
          · obtain rfl := Option.some.inj h
            exact k160
          · obtain rfl := Option.some.inj h
            exact k160
abbrev s_X3_readAll_mods : List (Nat × Option Nat) := [(1, some 3), (1, some 4), (1, some 5), (1, some 6), (1, some 7), (1, some 8), (1, some 9), (1, some 10), (27, some 2), (28, some 13), (28, some 14), (28, some 15), (28, some 16), (28, some 17), (29, none), (30, none), (31, none), (32, none), (33, none), (34, none), (35, none), (36, none), (37, none), (38, none), (39, none), (40, none), (41, none)]
noncomputable def s_X3_readAll_j95 (M : fM) (l1 : Int) : Option ((Int × fM) ⊕ (fM ⊕ ((Unit ⊕ Unit) × fM))) :=
  if fin ((M 28 17) + 1) ∧ fin (l1 + 1) then
    some (.inl ((l1 + 1), (fup M 28 17 ((M 28 17) + 1))))
  else none
theorem s_X3_readAll_j95_ok {d L : Nat} {M : fM} {l1 : Int} {o2 : Option fV} {r : ((Int × fM) ⊕ (fM ⊕ ((Unit ⊕ Unit) × fM)))} {Q : fO → fH → Prop} (h : s_X3_readAll_j95 M l1 = some r) (hC : ∀ (l1' : Int) (M' : fM) (o2' : Option fV), r = .inl (l1', M') → Wp (d + 12, 47, 24, 0, 0, [some (fA 27), some (fI l1'), o2'], []) (156, fjl L, M') Q) (hE : ∀ (e : fM) (o0' o1' o2' : Option fV), r = .inr (.inl e) → Wp (d + 12, 47, 114, 0, 0, [o0', o1', o2'], []) (156, fjl L, e) Q) (hR : ∀ (v : ((Unit ⊕ Unit) × fM)), r = .inr (.inr v) → Q (oT oV 1 v.1) (156, fjl L, v.2)) : Wp (d + 12, 47, 95, 0, 0, [some (fA 27), some (fI l1), o2], []) (156, fjl L, M) Q := by
  unfold s_X3_readAll_j95 at h
  obtain ⟨⟨g0, g1⟩, h⟩ := fgd h
  refine Wp.run 9 (f' := (d + 12, 47, 24, 0, 0, [some (fA 27), some (fI (fw (l1 + 1))), _], [])) (h' := (156, fjl L, (fup M 28 17 (fw ((M 28 17) + 1))))) rfl trivial ?_
  rw [fw_id g1, fw_id g0]
  exact hC _ _ _ (Option.some.inj h).symm
theorem s_X3_readAll_j95_fr {M : fM} {l1 : Int} {r : ((Int × fM) ⊕ (fM ⊕ ((Unit ⊕ Unit) × fM)))} (h : s_X3_readAll_j95 M l1 = some r) : fSame s_X3_readAll_mods M (Sum.elim (fun s => s.2) (Sum.elim (fun e => e) (fun v => v.2)) r) := by
  unfold s_X3_readAll_j95 at h
  replace h := (fgd h).2
  obtain rfl := Option.some.inj h
  exact fs_up fs_refl (.inr (by decide))
noncomputable def s_X3_readAll_j76 (M : fM) (l1 : Int) : Option ((Int × fM) ⊕ (fM ⊕ ((Unit ⊕ Unit) × fM))) :=
  if (M 1 6) = 4 then
    s_X3_readAll_j95 M l1
  else
    (s_X10_fail M 1).bind fun y92 =>
      fel y92.1
        (fun w92 =>
          s_X3_readAll_j95 y92.2 l1)
        (some (.inr (.inr (.inr (), y92.2))))
theorem s_X3_readAll_j76_ok {d L : Nat} {M : fM} {l1 : Int} {o2 : Option fV} {r : ((Int × fM) ⊕ (fM ⊕ ((Unit ⊕ Unit) × fM)))} {Q : fO → fH → Prop} (h : s_X3_readAll_j76 M l1 = some r) (hC : ∀ (l1' : Int) (M' : fM) (o2' : Option fV), r = .inl (l1', M') → Wp (d + 12, 47, 24, 0, 0, [some (fA 27), some (fI l1'), o2'], []) (156, fjl L, M') Q) (hE : ∀ (e : fM) (o0' o1' o2' : Option fV), r = .inr (.inl e) → Wp (d + 12, 47, 114, 0, 0, [o0', o1', o2'], []) (156, fjl L, e) Q) (hR : ∀ (v : ((Unit ⊕ Unit) × fM)), r = .inr (.inr v) → Q (oT oV 1 v.1) (156, fjl L, v.2)) : Wp (d + 12, 47, 76, 0, 0, [some (fA 27), some (fI l1), o2], []) (156, fjl L, M) Q := by
  unfold s_X3_readAll_j76 at h
  refine Wp.run 4 (f' := (d + 12, 47, 84, 0, 0, [some (fA 27), some (fI l1), _], [fI 4, fI (M 1 6)])) (h' := (156, fjl L, M)) rfl trivial ?_
  refine Wp.br rfl (fun (c : (M 1 6) = 4) => ?_) (fun (c : ¬ ((M 1 6) = 4)) => ?_)
  · replace h := fps c h
    exact s_X3_readAll_j95_ok h hC hE hR
  · replace h := fng c h
    refine Wp.run 3 (f' := (d + 12, 47, 92, 0, 0, [some (fA 27), some (fI l1), _], [fI 1, fA 1])) (h' := (156, fjl L, M)) rfl trivial ?_
    obtain ⟨y92, hy, h⟩ := fbd h
    refine Wp.call rfl (by decide) (s_X10_fail_ok (d := d + 4) hy ?_)
    obtain ⟨w92, ew, h⟩ | ⟨ew, h⟩ := fel_of h
    · rw [ew]
      show Wp (d + 12, 47, 95, 0, 0, [some (fA 27), some (fI l1), _], []) (156, fjl L, y92.2) Q
      exact s_X3_readAll_j95_ok h hC hE hR
    · rw [ew]
      exact ⟨⟨rfl, rfl⟩, hR _ (Option.some.inj h).symm⟩
theorem s_X3_readAll_j76_fr {M : fM} {l1 : Int} {r : ((Int × fM) ⊕ (fM ⊕ ((Unit ⊕ Unit) × fM)))} (h : s_X3_readAll_j76 M l1 = some r) : fSame s_X3_readAll_mods M (Sum.elim (fun s => s.2) (Sum.elim (fun e => e) (fun v => v.2)) r) := by
  unfold s_X3_readAll_j76 at h
  by_cases c : (M 1 6) = 4
  · replace h := fps c h
    exact fs_trans fs_refl (s_X3_readAll_j95_fr h)
  · replace h := fng c h
    obtain ⟨y92, hy, h⟩ := fbd h
    have k92 := fs_trans (l := s_X3_readAll_mods) fs_refl (fs_mono (l := s_X10_fail_mods) (by decide) (s_X10_fail_fr hy))
    obtain ⟨w92, ew, h⟩ | ⟨ew, h⟩ := fel_of h
    · exact fs_trans k92 (s_X3_readAll_j95_fr h)
    · obtain rfl := Option.some.inj h
      exact k92
noncomputable def s_X3_readAll_b24 (M : fM) (l1 : Int) : Option ((Int × fM) ⊕ (fM ⊕ ((Unit ⊕ Unit) × fM))) :=
  if 1200 ≤ l1 then
    some (.inr (.inl M))
  else
    (s_X10_take M).bind fun y35 =>
      if ¬ (y35.2 1 6) = 0 then
        (s_X10_keywordHere y35.2).bind fun y53 =>
          if 8 < y53 then
            (s_X3_readNameLine y35.2 y53).bind fun y73 =>
              fel y73.1
                (fun w73 =>
                  s_X3_readAll_j76 y73.2 l1)
                (some (.inr (.inr (.inr (), y73.2))))
          else
            (s_X3_readRuleLine y35.2 y53).bind fun y65 =>
              fel y65.1
                (fun w65 =>
                  s_X3_readAll_j76 y65.2 l1)
                (some (.inr (.inr (.inr (), y65.2))))
      else
        some (.inr (.inr (.inl (), y35.2)))
theorem s_X3_readAll_b24_ok {d L : Nat} {M : fM} {l1 : Int} {o2 : Option fV} {r : ((Int × fM) ⊕ (fM ⊕ ((Unit ⊕ Unit) × fM)))} {Q : fO → fH → Prop} (h : s_X3_readAll_b24 M l1 = some r) (hC : ∀ (l1' : Int) (M' : fM) (o2' : Option fV), r = .inl (l1', M') → Wp (d + 12, 47, 24, 0, 0, [some (fA 27), some (fI l1'), o2'], []) (156, fjl L, M') Q) (hE : ∀ (e : fM) (o0' o1' o2' : Option fV), r = .inr (.inl e) → Wp (d + 12, 47, 114, 0, 0, [o0', o1', o2'], []) (156, fjl L, e) Q) (hR : ∀ (v : ((Unit ⊕ Unit) × fM)), r = .inr (.inr v) → Q (oT oV 1 v.1) (156, fjl L, v.2)) : Wp (d + 12, 47, 24, 0, 0, [some (fA 27), some (fI l1), o2], []) (156, fjl L, M) Q := by
  unfold s_X3_readAll_b24 at h
  refine Wp.run 2 (f' := (d + 12, 47, 28, 0, 0, [some (fA 27), some (fI l1), _], [fI 1200, fI l1])) (h' := (156, fjl L, M)) rfl trivial ?_
  refine Wp.br rfl (fun (c : 1200 ≤ l1) => ?_) (fun (c : ¬ (1200 ≤ l1)) => ?_)
  · replace h := fps c h
    exact hE _ _ _ _ (Option.some.inj h).symm
  · replace h := fng c h
    refine Wp.run 2 (f' := (d + 12, 47, 35, 0, 0, [some (fA 27), some (fI l1), _], [fA 1])) (h' := (156, fjl L, M)) rfl trivial ?_
    obtain ⟨y35, hy, h⟩ := fbd h
    refine Wp.call rfl (by decide) (s_X10_take_ok (d := d + 9) hy ?_)
    show Wp (d + 12, 47, 38, 0, 0, [some (fA 27), some (fI l1), _], []) (156, fjl L, y35.2) Q
    refine Wp.run 3 (f' := (d + 12, 47, 45, 0, 0, [some (fA 27), some (fI l1), _], [fI (y35.2 1 6)])) (h' := (156, fjl L, y35.2)) rfl trivial ?_
    refine Wp.br rfl (fun (c : ¬ (y35.2 1 6) = 0) => ?_) (fun (c : ¬ (¬ (y35.2 1 6) = 0)) => ?_)
    · replace h := fps c h
      refine Wp.run 2 (f' := (d + 12, 47, 53, 0, 0, [some (fA 27), some (fI l1), _], [fA 1])) (h' := (156, fjl L, y35.2)) rfl trivial ?_
      obtain ⟨y53, hy, h⟩ := fbd h
      refine Wp.call rfl (by decide) (s_X10_keywordHere_ok (d := d + 11) hy ?_)
      show Wp (d + 12, 47, 56, 0, 0, [some (fA 27), some (fI l1), _], [fI y53]) (156, fjl L, y35.2) Q
      refine Wp.run 3 (f' := (d + 12, 47, 60, 0, 0, [some (fA 27), some (fI l1), some (fI y53)], [fI 8, fI y53])) (h' := (156, fjl L, y35.2)) rfl trivial ?_
      refine Wp.br rfl (fun (c : 8 < y53) => ?_) (fun (c : ¬ (8 < y53)) => ?_)
      · replace h := fps c h
        refine Wp.run 2 (f' := (d + 12, 47, 73, 0, 0, [some (fA 27), some (fI l1), _], [fI y53, fA 27])) (h' := (156, fjl L, y35.2)) rfl trivial ?_
        obtain ⟨y73, hy, h⟩ := fbd h
        refine Wp.call rfl (by decide) (s_X3_readNameLine_ok (d := d + 0) hy ?_)
        obtain ⟨w73, ew, h⟩ | ⟨ew, h⟩ := fel_of h
        · rw [ew]
          show Wp (d + 12, 47, 76, 0, 0, [some (fA 27), some (fI l1), _], []) (156, fjl L, y73.2) Q
          exact s_X3_readAll_j76_ok h hC hE hR
        · rw [ew]
          exact ⟨⟨rfl, rfl⟩, hR _ (Option.some.inj h).symm⟩
      · replace h := fng c h
        refine Wp.run 2 (f' := (d + 12, 47, 65, 0, 0, [some (fA 27), some (fI l1), _], [fI y53, fA 27])) (h' := (156, fjl L, y35.2)) rfl trivial ?_
        obtain ⟨y65, hy, h⟩ := fbd h
        refine Wp.call rfl (by decide) (s_X3_readRuleLine_ok (d := d + 0) hy ?_)
        obtain ⟨w65, ew, h⟩ | ⟨ew, h⟩ := fel_of h
        · rw [ew]
          show Wp (d + 12, 47, 68, 0, 0, [some (fA 27), some (fI l1), _], []) (156, fjl L, y65.2) Q
          refine Wp.run 1 (f' := (d + 12, 47, 76, 0, 0, [some (fA 27), some (fI l1), _], [])) (h' := (156, fjl L, y65.2)) rfl trivial ?_
          exact s_X3_readAll_j76_ok h hC hE hR
        · rw [ew]
          exact ⟨⟨rfl, rfl⟩, hR _ (Option.some.inj h).symm⟩
    · replace h := fng c h
      exact Wp.done rfl (by decide) (hR _ (Option.some.inj h).symm)
theorem s_X3_readAll_b24_fr {M : fM} {l1 : Int} {r : ((Int × fM) ⊕ (fM ⊕ ((Unit ⊕ Unit) × fM)))} (h : s_X3_readAll_b24 M l1 = some r) : fSame s_X3_readAll_mods M (Sum.elim (fun s => s.2) (Sum.elim (fun e => e) (fun v => v.2)) r) := by
  unfold s_X3_readAll_b24 at h
  by_cases c : 1200 ≤ l1
  · replace h := fps c h
    obtain rfl := Option.some.inj h
    exact fs_refl
  · replace h := fng c h
    obtain ⟨y35, hy, h⟩ := fbd h
    have k35 := fs_trans (l := s_X3_readAll_mods) fs_refl (fs_mono (l := s_X10_take_mods) (by decide) (s_X10_take_fr hy))
    by_cases c : ¬ (y35.2 1 6) = 0
    · replace h := fps c h
      obtain ⟨y53, hy, h⟩ := fbd h
      by_cases c : 8 < y53
      · replace h := fps c h
        obtain ⟨y73, hy, h⟩ := fbd h
        have k73 := fs_trans (l := s_X3_readAll_mods) k35 (fs_mono (l := s_X3_readNameLine_mods) (by decide) (s_X3_readNameLine_fr hy))
        obtain ⟨w73, ew, h⟩ | ⟨ew, h⟩ := fel_of h
        · exact fs_trans k73 (s_X3_readAll_j76_fr h)
        · obtain rfl := Option.some.inj h
          exact k73
      · replace h := fng c h
        obtain ⟨y65, hy, h⟩ := fbd h
        have k65 := fs_trans (l := s_X3_readAll_mods) k35 (fs_mono (l := s_X3_readRuleLine_mods) (by decide) (s_X3_readRuleLine_fr hy))
        obtain ⟨w65, ew, h⟩ | ⟨ew, h⟩ := fel_of h
        · exact fs_trans k65 (s_X3_readAll_j76_fr h)
        · obtain rfl := Option.some.inj h
          exact k65
    · replace h := fng c h
      obtain rfl := Option.some.inj h
      exact k35
noncomputable def s_X3_readAll_l24 (s : (Int × fM)) : Option (fM ⊕ ((Unit ⊕ Unit) × fM)) := fLp (fun s => s_X3_readAll_b24 s.2 s.1) s
theorem s_X3_readAll_l24_ok {d L : Nat} {M : fM} {l1 : Int} {o2 : Option fV} {r : (fM ⊕ ((Unit ⊕ Unit) × fM))} {Q : fO → fH → Prop} (h : s_X3_readAll_l24 (l1, M) = some r) (hE : ∀ (e : fM) (o0' o1' o2' : Option fV), r = .inl e → Wp (d + 12, 47, 114, 0, 0, [o0', o1', o2'], []) (156, fjl L, e) Q) (hR : ∀ (v : ((Unit ⊕ Unit) × fM)), r = .inr v → Q (oT oV 1 v.1) (156, fjl L, v.2)) : Wp (d + 12, 47, 24, 0, 0, [some (fA 27), some (fI l1), o2], []) (156, fjl L, M) Q := by
  refine fLp_wp (W := fun s => ∀ (o2 : Option fV), Wp (d + 12, 47, 24, 0, 0, [some (fA 27), some (fI s.1), o2], []) (156, fjl L, s.2) Q) (e := r) ?_ h _
  intro s r1 h hC hX o2
  refine s_X3_readAll_b24_ok (d := d) h (fun a0 a1 _ e1 => ?_) (fun e u0 u1 u2 e1 => hE e u0 u1 u2 (hX _ e1).symm) (fun v e1 => hR v (hX _ e1).symm)
  exact hC _ e1 _
theorem s_X3_readAll_l24_fr {M : fM} {l1 : Int} {r : (fM ⊕ ((Unit ⊕ Unit) × fM))} (h : s_X3_readAll_l24 (l1, M) = some r) : fSame s_X3_readAll_mods M ((Sum.elim (fun e => e) (fun v => v.2)) r) := by
  refine fLp_inv (I := fun s => fSame s_X3_readAll_mods M s.2) (J := fun r => fSame s_X3_readAll_mods M ((Sum.elim (fun e => e) (fun v => v.2)) r)) h fs_refl (fun s s1 hs hb => ?_) (fun s e hs hb => ?_)
  · exact fs_trans hs (s_X3_readAll_b24_fr hb)
  · exact fs_trans hs (s_X3_readAll_b24_fr hb)
noncomputable def s_X3_readAll (M : fM) : Option ((Unit ⊕ Unit) × fM) :=
  (s_X2_clear_28 M).bind fun y4 =>
    (s_X10_begin (fup y4.2 27 2 0) 1200).bind fun y19 =>
      (s_X3_readAll_l24 (0, y19.2)).bind fun e24 =>
        Sum.elim (fun x24 =>
          some (.inl (), x24))
          (fun v24 => some v24) e24
theorem s_X3_readAll_ok {d L : Nat} {M : fM} {r : ((Unit ⊕ Unit) × fM)} {Q : fO → fH → Prop} (h : s_X3_readAll M = some r) (H : Q (oT oV 1 r.1) (156, fjl L, r.2)) : Wp (d + 12, 47, 0, 0, 0, [some (fA 27), none, none], []) (156, fjl L, M) Q := by
  unfold s_X3_readAll at h
  refine Wp.run 2 (f' := (d + 12, 47, 4, 0, 0, [some (fA 27), _, _], [fA 28])) (h' := (156, fjl L, M)) rfl trivial ?_
  obtain ⟨y4, hy, h⟩ := fbd h
  refine Wp.call rfl (by decide) (s_X2_clear_28_ok (d := d + 10) hy ?_)
  show Wp (d + 12, 47, 7, 0, 0, [some (fA 27), _, _], []) (156, fjl L, y4.2) Q
  refine Wp.run 6 (f' := (d + 12, 47, 19, 0, 0, [some (fA 27), _, _], [fI 1200, fA 1])) (h' := (156, fjl L, (fup y4.2 27 2 0))) rfl trivial ?_
  obtain ⟨y19, hy, h⟩ := fbd h
  refine Wp.call rfl (by decide) (s_X10_begin_ok (d := d + 11) hy ?_)
  show Wp (d + 12, 47, 22, 0, 0, [some (fA 27), _, _], []) (156, fjl L, y19.2) Q
  refine Wp.run 2 (f' := (d + 12, 47, 24, 0, 0, [some (fA 27), some (fI 0), _], [])) (h' := (156, fjl L, y19.2)) rfl trivial ?_
  obtain ⟨e24, hy, h⟩ := fbd h
  refine s_X3_readAll_l24_ok hy (fun x24 u0 u1 u2 ex => ?_) (fun v24 ex => ?_)
  · subst ex
    replace h := fsl h
    show Wp (d + 12, 47, 114, 0, 0, [u0, u1, u2], []) (156, fjl L, x24) Q
    obtain rfl := Option.some.inj h
    exact Wp.done rfl (by decide) H
  · subst ex
    replace h := fsr h
    obtain rfl := Option.some.inj h
    exact H
theorem s_X3_readAll_fr {M : fM} {r : ((Unit ⊕ Unit) × fM)} (h : s_X3_readAll M = some r) : fSame s_X3_readAll_mods M r.2 := by
  unfold s_X3_readAll at h
  obtain ⟨y4, hy, h⟩ := fbd h
  have k4 := fs_trans (l := s_X3_readAll_mods) fs_refl (fs_mono (l := s_X2_clear_28_mods) (by decide) (s_X2_clear_28_fr hy))
  obtain ⟨y19, hy, h⟩ := fbd h
  have k19 := fs_trans (l := s_X3_readAll_mods) (fs_up k4 (.inr (by decide))) (fs_mono (l := s_X10_begin_mods) (by decide) (s_X10_begin_fr hy))
  obtain ⟨e24, hy, h⟩ := fbd h
  have k24 := fs_trans (l := s_X3_readAll_mods) k19 (s_X3_readAll_l24_fr hy)
  rcases e24 with x24 | v24
  · replace h := fsl h
    obtain rfl := Option.some.inj h
    exact k24
  · replace h := fsr h
    obtain rfl := Option.some.inj h
    exact k24
abbrev s_X2_copyFrom_4_28_mods : List (Nat × Option Nat) := [(4, some 13), (4, some 14), (4, some 15), (4, some 16), (4, some 17), (5, none), (6, none), (7, none), (8, none), (9, none), (10, none), (11, none), (12, none), (13, none), (14, none), (15, none), (16, none), (17, none)]
noncomputable def s_X2_copyFrom_4_28 (M : fM) : Option (Unit × fM) :=
  some ((), (fup (fup (fup (fup (fup (fcpy (fcpy (fcpy (fcpy (fcpy (fcpy (fcpy (fcpy (fcpy (fcpy (fcpy (fcpy (fcpy M 29 0 5 0 12) 30 0 6 0 52) 31 0 7 0 52) 32 0 8 0 6) 33 0 9 0 48) 34 0 10 0 160) 35 0 11 0 192) 36 0 12 0 64) 37 0 13 0 18) 38 0 14 0 36) 39 0 15 0 16) 40 0 16 0 6) 41 0 17 0 6) 4 13 (M 28 13)) 4 14 (M 28 14)) 4 15 (M 28 15)) 4 16 (M 28 16)) 4 17 (M 28 17)))
theorem s_X2_copyFrom_4_28_ok {d L : Nat} {M : fM} {r : (Unit × fM)} {Q : fO → fH → Prop} (h : s_X2_copyFrom_4_28 M = some r) (H : Q (oV r.1) (156, fjl L, r.2)) : Wp (d + 1, 26, 0, 0, 0, [some (fA 4), some (fA 28)], []) (156, fjl L, M) Q := by
  unfold s_X2_copyFrom_4_28 at h
  refine Wp.run 16 (P := [1 ≤ d + 1, (0 : Int) ≤ 0 ∧ (0 : Int) ≤ 0 ∧ (0 : Int) ≤ 12 ∧ (0 : Int) + 12 ≤ 12 ∧ (0 : Int) + 12 ≤ 12 ∧ 29 ≠ 5, 1 ≤ d + 1, (0 : Int) ≤ 0 ∧ (0 : Int) ≤ 0 ∧ (0 : Int) ≤ 52 ∧ (0 : Int) + 52 ≤ 52 ∧ (0 : Int) + 52 ≤ 52 ∧ 30 ≠ 6]) (f' := (d + 1, 26, 30, 0, 0, [some (fA 4), some (fA 28)], [])) (h' := (156, fjl L, (fcpy (fcpy M 29 0 5 0 12) 30 0 6 0 52))) rfl ?_ ?_
  · exact ⟨Nat.le_add_left_of_le (by decide), ⟨by decide, by decide, by decide, by decide, by decide, by decide⟩, Nat.le_add_left_of_le (by decide), ⟨by decide, by decide, by decide, by decide, by decide, by decide⟩⟩
  refine Wp.run 16 (P := [1 ≤ d + 1, (0 : Int) ≤ 0 ∧ (0 : Int) ≤ 0 ∧ (0 : Int) ≤ 52 ∧ (0 : Int) + 52 ≤ 52 ∧ (0 : Int) + 52 ≤ 52 ∧ 31 ≠ 7, 1 ≤ d + 1, (0 : Int) ≤ 0 ∧ (0 : Int) ≤ 0 ∧ (0 : Int) ≤ 6 ∧ (0 : Int) + 6 ≤ 6 ∧ (0 : Int) + 6 ≤ 6 ∧ 32 ≠ 8]) (f' := (d + 1, 26, 60, 0, 0, [some (fA 4), some (fA 28)], [])) (h' := (156, fjl L, (fcpy (fcpy (fcpy (fcpy M 29 0 5 0 12) 30 0 6 0 52) 31 0 7 0 52) 32 0 8 0 6))) rfl ?_ ?_
  · exact ⟨Nat.le_add_left_of_le (by decide), ⟨by decide, by decide, by decide, by decide, by decide, by decide⟩, Nat.le_add_left_of_le (by decide), ⟨by decide, by decide, by decide, by decide, by decide, by decide⟩⟩
  refine Wp.run 16 (P := [1 ≤ d + 1, (0 : Int) ≤ 0 ∧ (0 : Int) ≤ 0 ∧ (0 : Int) ≤ 48 ∧ (0 : Int) + 48 ≤ 48 ∧ (0 : Int) + 48 ≤ 48 ∧ 33 ≠ 9, 1 ≤ d + 1, (0 : Int) ≤ 0 ∧ (0 : Int) ≤ 0 ∧ (0 : Int) ≤ 160 ∧ (0 : Int) + 160 ≤ 160 ∧ (0 : Int) + 160 ≤ 160 ∧ 34 ≠ 10]) (f' := (d + 1, 26, 91, 0, 0, [some (fA 4), some (fA 28)], [])) (h' := (156, fjl L, (fcpy (fcpy (fcpy (fcpy (fcpy (fcpy M 29 0 5 0 12) 30 0 6 0 52) 31 0 7 0 52) 32 0 8 0 6) 33 0 9 0 48) 34 0 10 0 160))) rfl ?_ ?_
  · exact ⟨Nat.le_add_left_of_le (by decide), ⟨by decide, by decide, by decide, by decide, by decide, by decide⟩, Nat.le_add_left_of_le (by decide), ⟨by decide, by decide, by decide, by decide, by decide, by decide⟩⟩
  refine Wp.run 16 (P := [1 ≤ d + 1, (0 : Int) ≤ 0 ∧ (0 : Int) ≤ 0 ∧ (0 : Int) ≤ 192 ∧ (0 : Int) + 192 ≤ 192 ∧ (0 : Int) + 192 ≤ 192 ∧ 35 ≠ 11, 1 ≤ d + 1, (0 : Int) ≤ 0 ∧ (0 : Int) ≤ 0 ∧ (0 : Int) ≤ 64 ∧ (0 : Int) + 64 ≤ 64 ∧ (0 : Int) + 64 ≤ 64 ∧ 36 ≠ 12]) (f' := (d + 1, 26, 122, 0, 0, [some (fA 4), some (fA 28)], [])) (h' := (156, fjl L, (fcpy (fcpy (fcpy (fcpy (fcpy (fcpy (fcpy (fcpy M 29 0 5 0 12) 30 0 6 0 52) 31 0 7 0 52) 32 0 8 0 6) 33 0 9 0 48) 34 0 10 0 160) 35 0 11 0 192) 36 0 12 0 64))) rfl ?_ ?_
  · exact ⟨Nat.le_add_left_of_le (by decide), ⟨by decide, by decide, by decide, by decide, by decide, by decide⟩, Nat.le_add_left_of_le (by decide), ⟨by decide, by decide, by decide, by decide, by decide, by decide⟩⟩
  refine Wp.run 16 (P := [1 ≤ d + 1, (0 : Int) ≤ 0 ∧ (0 : Int) ≤ 0 ∧ (0 : Int) ≤ 18 ∧ (0 : Int) + 18 ≤ 18 ∧ (0 : Int) + 18 ≤ 18 ∧ 37 ≠ 13, 1 ≤ d + 1, (0 : Int) ≤ 0 ∧ (0 : Int) ≤ 0 ∧ (0 : Int) ≤ 36 ∧ (0 : Int) + 36 ≤ 36 ∧ (0 : Int) + 36 ≤ 36 ∧ 38 ≠ 14]) (f' := (d + 1, 26, 152, 0, 0, [some (fA 4), some (fA 28)], [])) (h' := (156, fjl L, (fcpy (fcpy (fcpy (fcpy (fcpy (fcpy (fcpy (fcpy (fcpy (fcpy M 29 0 5 0 12) 30 0 6 0 52) 31 0 7 0 52) 32 0 8 0 6) 33 0 9 0 48) 34 0 10 0 160) 35 0 11 0 192) 36 0 12 0 64) 37 0 13 0 18) 38 0 14 0 36))) rfl ?_ ?_
  · exact ⟨Nat.le_add_left_of_le (by decide), ⟨by decide, by decide, by decide, by decide, by decide, by decide⟩, Nat.le_add_left_of_le (by decide), ⟨by decide, by decide, by decide, by decide, by decide, by decide⟩⟩
  refine Wp.run 16 (P := [1 ≤ d + 1, (0 : Int) ≤ 0 ∧ (0 : Int) ≤ 0 ∧ (0 : Int) ≤ 16 ∧ (0 : Int) + 16 ≤ 16 ∧ (0 : Int) + 16 ≤ 16 ∧ 39 ≠ 15, 1 ≤ d + 1, (0 : Int) ≤ 0 ∧ (0 : Int) ≤ 0 ∧ (0 : Int) ≤ 6 ∧ (0 : Int) + 6 ≤ 6 ∧ (0 : Int) + 6 ≤ 6 ∧ 40 ≠ 16]) (f' := (d + 1, 26, 182, 0, 0, [some (fA 4), some (fA 28)], [])) (h' := (156, fjl L, (fcpy (fcpy (fcpy (fcpy (fcpy (fcpy (fcpy (fcpy (fcpy (fcpy (fcpy (fcpy M 29 0 5 0 12) 30 0 6 0 52) 31 0 7 0 52) 32 0 8 0 6) 33 0 9 0 48) 34 0 10 0 160) 35 0 11 0 192) 36 0 12 0 64) 37 0 13 0 18) 38 0 14 0 36) 39 0 15 0 16) 40 0 16 0 6))) rfl ?_ ?_
  · exact ⟨Nat.le_add_left_of_le (by decide), ⟨by decide, by decide, by decide, by decide, by decide, by decide⟩, Nat.le_add_left_of_le (by decide), ⟨by decide, by decide, by decide, by decide, by decide, by decide⟩⟩
  refine Wp.run 12 (P := [1 ≤ d + 1, (0 : Int) ≤ 0 ∧ (0 : Int) ≤ 0 ∧ (0 : Int) ≤ 6 ∧ (0 : Int) + 6 ≤ 6 ∧ (0 : Int) + 6 ≤ 6 ∧ 41 ≠ 17]) (f' := (d + 1, 26, 205, 0, 0, [some (fA 4), some (fA 28)], [])) (h' := (156, fjl L, (fup (fcpy (fcpy (fcpy (fcpy (fcpy (fcpy (fcpy (fcpy (fcpy (fcpy (fcpy (fcpy (fcpy M 29 0 5 0 12) 30 0 6 0 52) 31 0 7 0 52) 32 0 8 0 6) 33 0 9 0 48) 34 0 10 0 160) 35 0 11 0 192) 36 0 12 0 64) 37 0 13 0 18) 38 0 14 0 36) 39 0 15 0 16) 40 0 16 0 6) 41 0 17 0 6) 4 13 (M 28 13)))) rfl ?_ ?_
  · exact ⟨Nat.le_add_left_of_le (by decide), ⟨by decide, by decide, by decide, by decide, by decide, by decide⟩⟩
  refine Wp.run 12 (f' := (d + 1, 26, 229, 0, 0, [some (fA 4), some (fA 28)], [])) (h' := (156, fjl L, (fup (fup (fup (fup (fcpy (fcpy (fcpy (fcpy (fcpy (fcpy (fcpy (fcpy (fcpy (fcpy (fcpy (fcpy (fcpy M 29 0 5 0 12) 30 0 6 0 52) 31 0 7 0 52) 32 0 8 0 6) 33 0 9 0 48) 34 0 10 0 160) 35 0 11 0 192) 36 0 12 0 64) 37 0 13 0 18) 38 0 14 0 36) 39 0 15 0 16) 40 0 16 0 6) 41 0 17 0 6) 4 13 (M 28 13)) 4 14 (M 28 14)) 4 15 (M 28 15)) 4 16 (M 28 16)))) rfl trivial ?_
  refine Wp.run 4 (f' := (d + 1, 26, 237, 0, 0, [_, _], [])) (h' := (156, fjl L, (fup (fup (fup (fup (fup (fcpy (fcpy (fcpy (fcpy (fcpy (fcpy (fcpy (fcpy (fcpy (fcpy (fcpy (fcpy (fcpy M 29 0 5 0 12) 30 0 6 0 52) 31 0 7 0 52) 32 0 8 0 6) 33 0 9 0 48) 34 0 10 0 160) 35 0 11 0 192) 36 0 12 0 64) 37 0 13 0 18) 38 0 14 0 36) 39 0 15 0 16) 40 0 16 0 6) 41 0 17 0 6) 4 13 (M 28 13)) 4 14 (M 28 14)) 4 15 (M 28 15)) 4 16 (M 28 16)) 4 17 (M 28 17)))) rfl trivial ?_
  obtain rfl := Option.some.inj h
  exact Wp.done rfl (by decide) H
theorem s_X2_copyFrom_4_28_fr {M : fM} {r : (Unit × fM)} (h : s_X2_copyFrom_4_28 M = some r) : fSame s_X2_copyFrom_4_28_mods M r.2 := by
  unfold s_X2_copyFrom_4_28 at h
  obtain rfl := Option.some.inj h
  exact fs_up (fs_up (fs_up (fs_up (fs_up (fs_cpy (fs_cpy (fs_cpy (fs_cpy (fs_cpy (fs_cpy (fs_cpy (fs_cpy (fs_cpy (fs_cpy (fs_cpy (fs_cpy (fs_cpy fs_refl (by decide)) (by decide)) (by decide)) (by decide)) (by decide)) (by decide)) (by decide)) (by decide)) (by decide)) (by decide)) (by decide)) (by decide)) (by decide)) (.inr (by decide))) (.inr (by decide))) (.inr (by decide))) (.inr (by decide))) (.inr (by decide))
abbrev s_X10_empty_mods : List (Nat × Option Nat) := [(1, some 2)]
noncomputable def s_X10_empty (M : fM) : Option (Unit × fM) :=
  some ((), (fup M 1 2 0))
theorem s_X10_empty_ok {d L : Nat} {M : fM} {r : (Unit × fM)} {Q : fO → fH → Prop} (h : s_X10_empty M = some r) (H : Q (oV r.1) (156, fjl L, r.2)) : Wp (d + 0, 135, 0, 0, 0, [some (fA 1)], []) (156, fjl L, M) Q := by
  unfold s_X10_empty at h
  refine Wp.run 3 (f' := (d + 0, 135, 5, 0, 0, [_], [])) (h' := (156, fjl L, (fup M 1 2 0))) rfl trivial ?_
  obtain rfl := Option.some.inj h
  exact Wp.done rfl (by decide) H
theorem s_X10_empty_fr {M : fM} {r : (Unit × fM)} (h : s_X10_empty M = some r) : fSame s_X10_empty_mods M r.2 := by
  unfold s_X10_empty at h
  obtain rfl := Option.some.inj h
  exact fs_up fs_refl (.inr (by decide))
