/-! ===== functions of the methods (printed by genfun.py) ===== -/
abbrev s_X12_readRecords_mods : List (Nat × Option Nat) := [(122, some 4), (122, some 11), (122, some 12), (122, some 13), (122, some 14), (122, some 15), (122, some 16), (122, some 17), (122, some 18), (122, some 21), (125, none)]
noncomputable def s_X12_readRecords_j107 (M : fM) (t0 : Int) : Option (fM ⊕ (fM ⊕ (Int × fM))) :=
  if 0 ≤ t0 then
    if ¬ (M 122 21) = 200 then
      if fin (19 * (M 122 21)) then
        (s_X12_record M t0 (19 * (M 122 21))).bind fun y143 =>
          if y143.1 = 0 then
            some (.inr (.inr (0, y143.2)))
          else
            (s_X12_sign y143.2 59).bind fun y152 =>
              if ¬ y152.1 = 0 then
                if fin ((y152.2 122 21) + 1) then
                  some (.inl (fup y152.2 122 21 ((y152.2 122 21) + 1)))
                else none
              else
                some (.inr (.inr (0, y152.2)))
      else none
    else
      (s_X12_bad M 4).bind fun y130 =>
        if b01 y130.1 then
          some (.inr (.inr (y130.1, y130.2)))
        else none
  else
    (s_X12_bad M 1).bind fun y114 =>
      if b01 y114.1 then
        some (.inr (.inr (y114.1, y114.2)))
      else none
theorem s_X12_readRecords_j107_ok {d L : Nat} {M : fM} {t0 : Int} {o1 : Option fV} {r : (fM ⊕ (fM ⊕ (Int × fM)))} {Q : fO → fH → Prop} (h : s_X12_readRecords_j107 M t0 = some r) (hC : ∀ (M' : fM) (o1' : Option fV), r = .inl M' → Wp (d + 6, 234, 0, 0, 0, [some (fA 122), o1'], []) (156, fjl L, M') Q) (hE : ∀ (e : fM) (o0' o1' : Option fV), r = .inr (.inl e) → Wp (d + 6, 234, 173, 0, 0, [o0', o1'], []) (156, fjl L, e) Q) (hR : ∀ (v : (Int × fM)), r = .inr (.inr v) → Q (oI v.1) (156, fjl L, v.2)) : Wp (d + 6, 234, 107, 0, 0, [some (fA 122), o1], [fI t0]) (156, fjl L, M) Q := by
  unfold s_X12_readRecords_j107 at h
  refine Wp.run 2 (f' := (d + 6, 234, 109, 0, 0, [some (fA 122), some (fI t0)], [fI t0])) (h' := (156, fjl L, M)) rfl trivial ?_
  refine Wp.br rfl (fun (c : 0 ≤ t0) => ?_) (fun (c : ¬ (0 ≤ t0)) => ?_)
  · replace h := fps c h
    refine Wp.run 3 (f' := (d + 6, 234, 125, 0, 0, [some (fA 122), some (fI t0)], [fI 200, fI (M 122 21)])) (h' := (156, fjl L, M)) rfl trivial ?_
    refine Wp.br rfl (fun (c : ¬ (M 122 21) = 200) => ?_) (fun (c : ¬ (¬ (M 122 21) = 200)) => ?_)
    · replace h := fps c h
      obtain ⟨g0, h⟩ := fgd h
      refine Wp.run 6 (f' := (d + 6, 234, 143, 0, 0, [some (fA 122), _], [fI (fw (19 * (M 122 21))), fI t0, fA 122])) (h' := (156, fjl L, M)) rfl trivial ?_
      rw [fw_id g0]
      obtain ⟨y143, hy, h⟩ := fbd h
      refine Wp.call rfl (by decide) (s_X12_record_ok (d := d + 0) hy ?_)
      show Wp (d + 6, 234, 146, 0, 0, [some (fA 122), _], [fI y143.1]) (156, fjl L, y143.2) Q
      refine Wp.br rfl (fun (c : y143.1 = 0) => ?_) (fun (c : ¬ (y143.1 = 0)) => ?_)
      · replace h := fps c h
        refine Wp.run 1 (f' := (d + 6, 234, 159, 0, 0, [_, _], [fI 0])) (h' := (156, fjl L, y143.2)) rfl trivial ?_
        exact Wp.done rfl (by decide) (hR _ (Option.some.inj h).symm)
      · replace h := fng c h
        refine Wp.run 2 (f' := (d + 6, 234, 152, 0, 0, [some (fA 122), _], [fI 59, fA 122])) (h' := (156, fjl L, y143.2)) rfl trivial ?_
        obtain ⟨y152, hy, h⟩ := fbd h
        refine Wp.call rfl (by decide) (s_X12_sign_ok (d := d + 3) hy ?_)
        show Wp (d + 6, 234, 155, 0, 0, [some (fA 122), _], [fI y152.1]) (156, fjl L, y152.2) Q
        refine Wp.br rfl (fun (c : ¬ y152.1 = 0) => ?_) (fun (c : ¬ (¬ y152.1 = 0)) => ?_)
        · replace h := fps c h
          obtain ⟨g0, h⟩ := fgd h
          refine Wp.run 7 (f' := (d + 6, 234, 0, 0, 0, [some (fA 122), _], [])) (h' := (156, fjl L, (fup y152.2 122 21 (fw ((y152.2 122 21) + 1))))) rfl trivial ?_
          rw [fw_id g0]
          exact hC _ _ (Option.some.inj h).symm
        · replace h := fng c h
          refine Wp.run 1 (f' := (d + 6, 234, 159, 0, 0, [_, _], [fI 0])) (h' := (156, fjl L, y152.2)) rfl trivial ?_
          exact Wp.done rfl (by decide) (hR _ (Option.some.inj h).symm)
    · replace h := fng c h
      refine Wp.run 2 (f' := (d + 6, 234, 130, 0, 0, [_, _], [fI 4, fA 122])) (h' := (156, fjl L, M)) rfl trivial ?_
      obtain ⟨y130, hy, h⟩ := fbd h
      refine Wp.call rfl (by decide) (s_X12_bad_ok (d := d + 5) hy ?_)
      show Wp (d + 6, 234, 133, 0, 0, [_, _], [fI y130.1]) (156, fjl L, y130.2) Q
      obtain ⟨g0, h⟩ := fgd h
      exact Wp.done rfl ⟨g0, by decide, by decide, by decide⟩ (hR _ (Option.some.inj h).symm)
  · replace h := fng c h
    refine Wp.run 2 (f' := (d + 6, 234, 114, 0, 0, [_, _], [fI 1, fA 122])) (h' := (156, fjl L, M)) rfl trivial ?_
    obtain ⟨y114, hy, h⟩ := fbd h
    refine Wp.call rfl (by decide) (s_X12_bad_ok (d := d + 5) hy ?_)
    show Wp (d + 6, 234, 117, 0, 0, [_, _], [fI y114.1]) (156, fjl L, y114.2) Q
    obtain ⟨g0, h⟩ := fgd h
    exact Wp.done rfl ⟨g0, by decide, by decide, by decide⟩ (hR _ (Option.some.inj h).symm)
theorem s_X12_readRecords_j107_fr {M : fM} {t0 : Int} {r : (fM ⊕ (fM ⊕ (Int × fM)))} (h : s_X12_readRecords_j107 M t0 = some r) : fSame s_X12_readRecords_mods M (Sum.elim (fun s => s) (Sum.elim (fun e => e) (fun v => v.2)) r) := by
  unfold s_X12_readRecords_j107 at h
  by_cases c : 0 ≤ t0
  · replace h := fps c h
    by_cases c : ¬ (M 122 21) = 200
    · replace h := fps c h
      replace h := (fgd h).2
      obtain ⟨y143, hy, h⟩ := fbd h
      have k143 := fs_trans (l := s_X12_readRecords_mods) fs_refl (fs_mono (l := s_X12_record_mods) (by decide) (s_X12_record_fr hy))
      by_cases c : y143.1 = 0
      · replace h := fps c h
        obtain rfl := Option.some.inj h
        exact k143
      · replace h := fng c h
        obtain ⟨y152, hy, h⟩ := fbd h
        have k152 := fs_trans (l := s_X12_readRecords_mods) k143 (fs_mono (l := s_X12_sign_mods) (by decide) (s_X12_sign_fr hy))
        by_cases c : ¬ y152.1 = 0
        · replace h := fps c h
          replace h := (fgd h).2
          obtain rfl := Option.some.inj h
          exact fs_up k152 (.inr (by decide))
        · replace h := fng c h
          obtain rfl := Option.some.inj h
          exact k152
    · replace h := fng c h
      obtain ⟨y130, hy, h⟩ := fbd h
      have k130 := fs_trans (l := s_X12_readRecords_mods) fs_refl (fs_mono (l := s_X12_bad_mods) (by decide) (s_X12_bad_fr hy))
      replace h := (fgd h).2
      obtain rfl := Option.some.inj h
      exact k130
  · replace h := fng c h
    obtain ⟨y114, hy, h⟩ := fbd h
    have k114 := fs_trans (l := s_X12_readRecords_mods) fs_refl (fs_mono (l := s_X12_bad_mods) (by decide) (s_X12_bad_fr hy))
    replace h := (fgd h).2
    obtain rfl := Option.some.inj h
    exact k114
noncomputable def s_X12_readRecords_b0 (M : fM) : Option (fM ⊕ (fM ⊕ (Int × fM))) :=
  if (M 122 11) = 0 then
    some (.inr (.inl M))
  else
    (s_X12_isWord M 500186375524).bind fun y11 =>
      if y11 = 0 then
        (s_X12_isWord M 439956631140).bind fun y25 =>
          if y25 = 0 then
            (s_X12_isWord M 422826699621).bind fun y39 =>
              if y39 = 0 then
                (s_X12_isWord M 1885432164).bind fun y53 =>
                  if y53 = 0 then
                    (s_X12_isWord M 6386789).bind fun y67 =>
                      if y67 = 0 then
                        (s_X12_isWord M 27988542599033460).bind fun y81 =>
                          if y81 = 0 then
                            (s_X12_isWord M 470021465444).bind fun y95 =>
                              if y95 = 0 then
                                s_X12_readRecords_j107 M (-1)
                              else
                                s_X12_readRecords_j107 M 6
                          else
                            s_X12_readRecords_j107 M 5
                      else
                        s_X12_readRecords_j107 M 4
                  else
                    s_X12_readRecords_j107 M 3
              else
                s_X12_readRecords_j107 M 2
          else
            s_X12_readRecords_j107 M 1
      else
        s_X12_readRecords_j107 M 0
theorem s_X12_readRecords_b0_ok {d L : Nat} {M : fM} {o1 : Option fV} {r : (fM ⊕ (fM ⊕ (Int × fM)))} {Q : fO → fH → Prop} (h : s_X12_readRecords_b0 M = some r) (hC : ∀ (M' : fM) (o1' : Option fV), r = .inl M' → Wp (d + 6, 234, 0, 0, 0, [some (fA 122), o1'], []) (156, fjl L, M') Q) (hE : ∀ (e : fM) (o0' o1' : Option fV), r = .inr (.inl e) → Wp (d + 6, 234, 173, 0, 0, [o0', o1'], []) (156, fjl L, e) Q) (hR : ∀ (v : (Int × fM)), r = .inr (.inr v) → Q (oI v.1) (156, fjl L, v.2)) : Wp (d + 6, 234, 0, 0, 0, [some (fA 122), o1], []) (156, fjl L, M) Q := by
  unfold s_X12_readRecords_b0 at h
  refine Wp.run 2 (f' := (d + 6, 234, 4, 0, 0, [some (fA 122), _], [fI (M 122 11)])) (h' := (156, fjl L, M)) rfl trivial ?_
  refine Wp.br rfl (fun (c : (M 122 11) = 0) => ?_) (fun (c : ¬ ((M 122 11) = 0)) => ?_)
  · replace h := fps c h
    exact hE _ _ _ (Option.some.inj h).symm
  · replace h := fng c h
    refine Wp.run 2 (f' := (d + 6, 234, 11, 0, 0, [some (fA 122), _], [fJ 500186375524, fA 122])) (h' := (156, fjl L, M)) rfl trivial ?_
    obtain ⟨y11, hy, h⟩ := fbd h
    refine Wp.call rfl (by decide) (s_X12_isWord_ok (d := d + 5) hy ?_)
    show Wp (d + 6, 234, 14, 0, 0, [some (fA 122), _], [fI y11]) (156, fjl L, M) Q
    refine Wp.br rfl (fun (c : y11 = 0) => ?_) (fun (c : ¬ (y11 = 0)) => ?_)
    · replace h := fps c h
      refine Wp.run 2 (f' := (d + 6, 234, 25, 0, 0, [some (fA 122), _], [fJ 439956631140, fA 122])) (h' := (156, fjl L, M)) rfl trivial ?_
      obtain ⟨y25, hy, h⟩ := fbd h
      refine Wp.call rfl (by decide) (s_X12_isWord_ok (d := d + 5) hy ?_)
      show Wp (d + 6, 234, 28, 0, 0, [some (fA 122), _], [fI y25]) (156, fjl L, M) Q
      refine Wp.br rfl (fun (c : y25 = 0) => ?_) (fun (c : ¬ (y25 = 0)) => ?_)
      · replace h := fps c h
        refine Wp.run 2 (f' := (d + 6, 234, 39, 0, 0, [some (fA 122), _], [fJ 422826699621, fA 122])) (h' := (156, fjl L, M)) rfl trivial ?_
        obtain ⟨y39, hy, h⟩ := fbd h
        refine Wp.call rfl (by decide) (s_X12_isWord_ok (d := d + 5) hy ?_)
        show Wp (d + 6, 234, 42, 0, 0, [some (fA 122), _], [fI y39]) (156, fjl L, M) Q
        refine Wp.br rfl (fun (c : y39 = 0) => ?_) (fun (c : ¬ (y39 = 0)) => ?_)
        · replace h := fps c h
          refine Wp.run 2 (f' := (d + 6, 234, 53, 0, 0, [some (fA 122), _], [fJ 1885432164, fA 122])) (h' := (156, fjl L, M)) rfl trivial ?_
          obtain ⟨y53, hy, h⟩ := fbd h
          refine Wp.call rfl (by decide) (s_X12_isWord_ok (d := d + 5) hy ?_)
          show Wp (d + 6, 234, 56, 0, 0, [some (fA 122), _], [fI y53]) (156, fjl L, M) Q
          refine Wp.br rfl (fun (c : y53 = 0) => ?_) (fun (c : ¬ (y53 = 0)) => ?_)
          · replace h := fps c h
            refine Wp.run 2 (f' := (d + 6, 234, 67, 0, 0, [some (fA 122), _], [fJ 6386789, fA 122])) (h' := (156, fjl L, M)) rfl trivial ?_
            obtain ⟨y67, hy, h⟩ := fbd h
            refine Wp.call rfl (by decide) (s_X12_isWord_ok (d := d + 5) hy ?_)
            show Wp (d + 6, 234, 70, 0, 0, [some (fA 122), _], [fI y67]) (156, fjl L, M) Q
            refine Wp.br rfl (fun (c : y67 = 0) => ?_) (fun (c : ¬ (y67 = 0)) => ?_)
            · replace h := fps c h
              refine Wp.run 2 (f' := (d + 6, 234, 81, 0, 0, [some (fA 122), _], [fJ 27988542599033460, fA 122])) (h' := (156, fjl L, M)) rfl trivial ?_
              obtain ⟨y81, hy, h⟩ := fbd h
              refine Wp.call rfl (by decide) (s_X12_isWord_ok (d := d + 5) hy ?_)
              show Wp (d + 6, 234, 84, 0, 0, [some (fA 122), _], [fI y81]) (156, fjl L, M) Q
              refine Wp.br rfl (fun (c : y81 = 0) => ?_) (fun (c : ¬ (y81 = 0)) => ?_)
              · replace h := fps c h
                refine Wp.run 2 (f' := (d + 6, 234, 95, 0, 0, [some (fA 122), _], [fJ 470021465444, fA 122])) (h' := (156, fjl L, M)) rfl trivial ?_
                obtain ⟨y95, hy, h⟩ := fbd h
                refine Wp.call rfl (by decide) (s_X12_isWord_ok (d := d + 5) hy ?_)
                show Wp (d + 6, 234, 98, 0, 0, [some (fA 122), _], [fI y95]) (156, fjl L, M) Q
                refine Wp.br rfl (fun (c : y95 = 0) => ?_) (fun (c : ¬ (y95 = 0)) => ?_)
                · replace h := fps c h
                  refine Wp.run 1 (f' := (d + 6, 234, 107, 0, 0, [some (fA 122), _], [fI (-1)])) (h' := (156, fjl L, M)) rfl trivial ?_
                  exact s_X12_readRecords_j107_ok h hC hE hR
                · replace h := fng c h
                  refine Wp.run 2 (f' := (d + 6, 234, 107, 0, 0, [some (fA 122), _], [fI 6])) (h' := (156, fjl L, M)) rfl trivial ?_
                  exact s_X12_readRecords_j107_ok h hC hE hR
              · replace h := fng c h
                refine Wp.run 2 (f' := (d + 6, 234, 107, 0, 0, [some (fA 122), _], [fI 5])) (h' := (156, fjl L, M)) rfl trivial ?_
                exact s_X12_readRecords_j107_ok h hC hE hR
            · replace h := fng c h
              refine Wp.run 2 (f' := (d + 6, 234, 107, 0, 0, [some (fA 122), _], [fI 4])) (h' := (156, fjl L, M)) rfl trivial ?_
              exact s_X12_readRecords_j107_ok h hC hE hR
          · replace h := fng c h
            refine Wp.run 2 (f' := (d + 6, 234, 107, 0, 0, [some (fA 122), _], [fI 3])) (h' := (156, fjl L, M)) rfl trivial ?_
            exact s_X12_readRecords_j107_ok h hC hE hR
        · replace h := fng c h
          refine Wp.run 2 (f' := (d + 6, 234, 107, 0, 0, [some (fA 122), _], [fI 2])) (h' := (156, fjl L, M)) rfl trivial ?_
          exact s_X12_readRecords_j107_ok h hC hE hR
      · replace h := fng c h
        refine Wp.run 2 (f' := (d + 6, 234, 107, 0, 0, [some (fA 122), _], [fI 1])) (h' := (156, fjl L, M)) rfl trivial ?_
        exact s_X12_readRecords_j107_ok h hC hE hR
    · replace h := fng c h
      refine Wp.run 2 (f' := (d + 6, 234, 107, 0, 0, [some (fA 122), _], [fI 0])) (h' := (156, fjl L, M)) rfl trivial ?_
      exact s_X12_readRecords_j107_ok h hC hE hR
theorem s_X12_readRecords_b0_fr {M : fM} {r : (fM ⊕ (fM ⊕ (Int × fM)))} (h : s_X12_readRecords_b0 M = some r) : fSame s_X12_readRecords_mods M (Sum.elim (fun s => s) (Sum.elim (fun e => e) (fun v => v.2)) r) := by
  unfold s_X12_readRecords_b0 at h
  by_cases c : (M 122 11) = 0
  · replace h := fps c h
    obtain rfl := Option.some.inj h
    exact fs_refl
  · replace h := fng c h
    obtain ⟨y11, hy, h⟩ := fbd h
    by_cases c : y11 = 0
    · replace h := fps c h
      obtain ⟨y25, hy, h⟩ := fbd h
      by_cases c : y25 = 0
      · replace h := fps c h
        obtain ⟨y39, hy, h⟩ := fbd h
        by_cases c : y39 = 0
        · replace h := fps c h
          obtain ⟨y53, hy, h⟩ := fbd h
          by_cases c : y53 = 0
          · replace h := fps c h
            obtain ⟨y67, hy, h⟩ := fbd h
            by_cases c : y67 = 0
            · replace h := fps c h
              obtain ⟨y81, hy, h⟩ := fbd h
              by_cases c : y81 = 0
              · replace h := fps c h
                obtain ⟨y95, hy, h⟩ := fbd h
                by_cases c : y95 = 0
                · replace h := fps c h
                  exact fs_trans fs_refl (s_X12_readRecords_j107_fr h)
                · replace h := fng c h
                  exact fs_trans fs_refl (s_X12_readRecords_j107_fr h)
              · replace h := fng c h
                exact fs_trans fs_refl (s_X12_readRecords_j107_fr h)
            · replace h := fng c h
              exact fs_trans fs_refl (s_X12_readRecords_j107_fr h)
          · replace h := fng c h
            exact fs_trans fs_refl (s_X12_readRecords_j107_fr h)
        · replace h := fng c h
          exact fs_trans fs_refl (s_X12_readRecords_j107_fr h)
      · replace h := fng c h
        exact fs_trans fs_refl (s_X12_readRecords_j107_fr h)
    · replace h := fng c h
      exact fs_trans fs_refl (s_X12_readRecords_j107_fr h)
noncomputable def s_X12_readRecords_l0 (s : fM) : Option (fM ⊕ (Int × fM)) := fLp (fun s => s_X12_readRecords_b0 s) s
theorem s_X12_readRecords_l0_ok {d L : Nat} {M : fM} {o1 : Option fV} {r : (fM ⊕ (Int × fM))} {Q : fO → fH → Prop} (h : s_X12_readRecords_l0 M = some r) (hE : ∀ (e : fM) (o0' o1' : Option fV), r = .inl e → Wp (d + 6, 234, 173, 0, 0, [o0', o1'], []) (156, fjl L, e) Q) (hR : ∀ (v : (Int × fM)), r = .inr v → Q (oI v.1) (156, fjl L, v.2)) : Wp (d + 6, 234, 0, 0, 0, [some (fA 122), o1], []) (156, fjl L, M) Q := by
  refine fLp_wp (W := fun s => ∀ (o1 : Option fV), Wp (d + 6, 234, 0, 0, 0, [some (fA 122), o1], []) (156, fjl L, s) Q) (e := r) ?_ h _
  intro s r1 h hC hX o1
  refine s_X12_readRecords_b0_ok (d := d) h (fun a0 _ e1 => ?_) (fun e u0 u1 e1 => hE e u0 u1 (hX _ e1).symm) (fun v e1 => hR v (hX _ e1).symm)
  exact hC _ e1 _
theorem s_X12_readRecords_l0_fr {M : fM} {r : (fM ⊕ (Int × fM))} (h : s_X12_readRecords_l0 M = some r) : fSame s_X12_readRecords_mods M ((Sum.elim (fun e => e) (fun v => v.2)) r) := by
  refine fLp_inv (I := fun s => fSame s_X12_readRecords_mods M s) (J := fun r => fSame s_X12_readRecords_mods M ((Sum.elim (fun e => e) (fun v => v.2)) r)) h fs_refl (fun s s1 hs hb => ?_) (fun s e hs hb => ?_)
  · exact fs_trans hs (s_X12_readRecords_b0_fr hb)
  · exact fs_trans hs (s_X12_readRecords_b0_fr hb)
noncomputable def s_X12_readRecords (M : fM) : Option (Int × fM) :=
  (s_X12_readRecords_l0 M).bind fun e0 =>
    Sum.elim (fun x0 =>
      some (1, x0))
      (fun v0 => some v0) e0
theorem s_X12_readRecords_ok {d L : Nat} {M : fM} {r : (Int × fM)} {Q : fO → fH → Prop} (h : s_X12_readRecords M = some r) (H : Q (oI r.1) (156, fjl L, r.2)) : Wp (d + 6, 234, 0, 0, 0, [some (fA 122), none], []) (156, fjl L, M) Q := by
  unfold s_X12_readRecords at h
  obtain ⟨e0, hy, h⟩ := fbd h
  refine s_X12_readRecords_l0_ok hy (fun x0 u0 u1 ex => ?_) (fun v0 ex => ?_)
  · subst ex
    replace h := fsl h
    show Wp (d + 6, 234, 173, 0, 0, [u0, u1], []) (156, fjl L, x0) Q
    refine Wp.run 1 (f' := (d + 6, 234, 174, 0, 0, [_, _], [fI 1])) (h' := (156, fjl L, x0)) rfl trivial ?_
    obtain rfl := Option.some.inj h
    exact Wp.done rfl (by decide) H
  · subst ex
    replace h := fsr h
    obtain rfl := Option.some.inj h
    exact H
theorem s_X12_readRecords_fr {M : fM} {r : (Int × fM)} (h : s_X12_readRecords M = some r) : fSame s_X12_readRecords_mods M r.2 := by
  unfold s_X12_readRecords at h
  obtain ⟨e0, hy, h⟩ := fbd h
  have k0 := fs_trans (l := s_X12_readRecords_mods) fs_refl (s_X12_readRecords_l0_fr hy)
  rcases e0 with x0 | v0
  · replace h := fsl h
    obtain rfl := Option.some.inj h
    exact k0
  · replace h := fsr h
    obtain rfl := Option.some.inj h
    exact k0
abbrev s_X12_records_mods : List (Nat × Option Nat) := [(122, some 0), (122, some 2), (122, some 3), (122, some 4), (122, some 5), (122, some 10), (122, some 11), (122, some 12), (122, some 13), (122, some 14), (122, some 15), (122, some 16), (122, some 17), (122, some 18), (122, some 21), (125, none)]
noncomputable def s_X12_records (M : fM) : Option (Int × fM) :=
  (s_X12_taken (fup M 122 0 0) 700).bind fun y9 =>
    (s_X12_next (fup (fup y9.2 122 15 0) 122 21 (y9.2 122 10))).bind fun y26 =>
      (s_X12_readRecords y26.2).bind fun y30 =>
        if ¬ y30.1 = 0 then
          some ((y30.2 122 21), (fup y30.2 122 10 (y30.2 122 21)))
        else
          if fin ((-1) - (y30.2 122 16)) then
            some (((-1) - (y30.2 122 16)), y30.2)
          else none
theorem s_X12_records_ok {d L : Nat} {M : fM} {r : (Int × fM)} {Q : fO → fH → Prop} (h : s_X12_records M = some r) (H : Q (oI r.1) (156, fjl L, r.2)) : Wp (d + 7, 238, 0, 0, 0, [some (fA 122)], []) (156, fjl L, M) Q := by
  unfold s_X12_records at h
  refine Wp.run 5 (f' := (d + 7, 238, 9, 0, 0, [some (fA 122)], [fI 700, fA 122])) (h' := (156, fjl L, (fup M 122 0 0))) rfl trivial ?_
  obtain ⟨y9, hy, h⟩ := fbd h
  refine Wp.call rfl (by decide) (s_X12_taken_ok (d := d + 6) hy ?_)
  show Wp (d + 7, 238, 12, 0, 0, [some (fA 122)], []) (156, fjl L, y9.2) Q
  refine Wp.run 8 (f' := (d + 7, 238, 26, 0, 0, [some (fA 122)], [fA 122])) (h' := (156, fjl L, (fup (fup y9.2 122 15 0) 122 21 (y9.2 122 10)))) rfl trivial ?_
  obtain ⟨y26, hy, h⟩ := fbd h
  refine Wp.call rfl (by decide) (s_X12_next_ok (d := d + 5) hy ?_)
  show Wp (d + 7, 238, 29, 0, 0, [some (fA 122)], []) (156, fjl L, y26.2) Q
  refine Wp.run 1 (f' := (d + 7, 238, 30, 0, 0, [some (fA 122)], [fA 122])) (h' := (156, fjl L, y26.2)) rfl trivial ?_
  obtain ⟨y30, hy, h⟩ := fbd h
  refine Wp.call rfl (by decide) (s_X12_readRecords_ok (d := d + 0) hy ?_)
  show Wp (d + 7, 238, 33, 0, 0, [some (fA 122)], [fI y30.1]) (156, fjl L, y30.2) Q
  refine Wp.br rfl (fun (c : ¬ y30.1 = 0) => ?_) (fun (c : ¬ (¬ y30.1 = 0)) => ?_)
  · replace h := fps c h
    refine Wp.run 6 (f' := (d + 7, 238, 55, 0, 0, [_], [fI (y30.2 122 21)])) (h' := (156, fjl L, (fup y30.2 122 10 (y30.2 122 21)))) rfl trivial ?_
    obtain rfl := Option.some.inj h
    exact Wp.done rfl (by decide) H
  · replace h := fng c h
    obtain ⟨g0, h⟩ := fgd h
    refine Wp.run 4 (f' := (d + 7, 238, 42, 0, 0, [_], [fI (fw ((-1) - (y30.2 122 16)))])) (h' := (156, fjl L, y30.2)) rfl trivial ?_
    rw [fw_id g0]
    obtain rfl := Option.some.inj h
    exact Wp.done rfl (by decide) H
theorem s_X12_records_fr {M : fM} {r : (Int × fM)} (h : s_X12_records M = some r) : fSame s_X12_records_mods M r.2 := by
  unfold s_X12_records at h
  obtain ⟨y9, hy, h⟩ := fbd h
  have k9 := fs_trans (l := s_X12_records_mods) (fs_up fs_refl (.inr (by decide))) (fs_mono (l := s_X12_taken_mods) (by decide) (s_X12_taken_fr hy))
  obtain ⟨y26, hy, h⟩ := fbd h
  have k26 := fs_trans (l := s_X12_records_mods) (fs_up (fs_up k9 (.inr (by decide))) (.inr (by decide))) (fs_mono (l := s_X12_next_mods) (by decide) (s_X12_next_fr hy))
  obtain ⟨y30, hy, h⟩ := fbd h
  have k30 := fs_trans (l := s_X12_records_mods) k26 (fs_mono (l := s_X12_readRecords_mods) (by decide) (s_X12_readRecords_fr hy))
  by_cases c : ¬ y30.1 = 0
  · replace h := fps c h
    obtain rfl := Option.some.inj h
    exact fs_up k30 (.inr (by decide))
  · replace h := fng c h
    replace h := (fgd h).2
    obtain rfl := Option.some.inj h
    exact k30
noncomputable def s_X11_fault (M : fM) : Option Int :=
  some (M 0 14)
theorem s_X11_fault_ok {d L : Nat} {M : fM} {r : Int} {Q : fO → fH → Prop} (h : s_X11_fault M = some r) (H : Q (oI r) (156, fjl L, M)) : Wp (d + 0, 155, 0, 0, 0, [some (fA 0)], []) (156, fjl L, M) Q := by
  unfold s_X11_fault at h
  refine Wp.run 2 (f' := (d + 0, 155, 4, 0, 0, [_], [fI (M 0 14)])) (h' := (156, fjl L, M)) rfl trivial ?_
  obtain rfl := Option.some.inj h
  exact Wp.done rfl (by decide) H
abbrev s_X12_fault_mods : List (Nat × Option Nat) := [(122, some 0)]
noncomputable def s_X12_fault (M : fM) : Option (Int × fM) :=
  some ((M 122 15), (fup M 122 0 0))
theorem s_X12_fault_ok {d L : Nat} {M : fM} {r : (Int × fM)} {Q : fO → fH → Prop} (h : s_X12_fault M = some r) (H : Q (oI r.1) (156, fjl L, r.2)) : Wp (d + 0, 239, 0, 0, 0, [some (fA 122)], []) (156, fjl L, M) Q := by
  unfold s_X12_fault at h
  refine Wp.run 5 (f' := (d + 0, 239, 9, 0, 0, [_], [fI (M 122 15)])) (h' := (156, fjl L, (fup M 122 0 0))) rfl trivial ?_
  obtain rfl := Option.some.inj h
  exact Wp.done rfl (by decide) H
theorem s_X12_fault_fr {M : fM} {r : (Int × fM)} (h : s_X12_fault M = some r) : fSame s_X12_fault_mods M r.2 := by
  unfold s_X12_fault at h
  obtain rfl := Option.some.inj h
  exact fs_up fs_refl (.inr (by decide))
noncomputable def s_X11_isWithin (M : fM) (l0 l1 : Int) : Option Int :=
  if l0 < 0 then
    some 0
  else
    if l1 ≤ l0 then
      some 0
    else
      some 1
theorem s_X11_isWithin_ok {d L : Nat} {M : fM} {l0 l1 : Int} {r : Int} {Q : fO → fH → Prop} (h : s_X11_isWithin M l0 l1 = some r) (H : Q (oI r) (156, fjl L, M)) : Wp (d + 0, 192, 0, 0, 0, [some (fI l0), some (fI l1)], []) (156, fjl L, M) Q := by
  unfold s_X11_isWithin at h
  refine Wp.run 1 (f' := (d + 0, 192, 1, 0, 0, [some (fI l0), some (fI l1)], [fI l0])) (h' := (156, fjl L, M)) rfl trivial ?_
  refine Wp.br rfl (fun (c : l0 < 0) => ?_) (fun (c : ¬ (l0 < 0)) => ?_)
  · replace h := fps c h
    refine Wp.run 1 (f' := (d + 0, 192, 14, 0, 0, [_, _], [fI 0])) (h' := (156, fjl L, M)) rfl trivial ?_
    obtain rfl := Option.some.inj h
    exact Wp.done rfl (by decide) H
  · replace h := fng c h
    refine Wp.run 2 (f' := (d + 0, 192, 6, 0, 0, [_, _], [fI l1, fI l0])) (h' := (156, fjl L, M)) rfl trivial ?_
    refine Wp.br rfl (fun (c : l1 ≤ l0) => ?_) (fun (c : ¬ (l1 ≤ l0)) => ?_)
    · replace h := fps c h
      refine Wp.run 1 (f' := (d + 0, 192, 14, 0, 0, [_, _], [fI 0])) (h' := (156, fjl L, M)) rfl trivial ?_
      obtain rfl := Option.some.inj h
      exact Wp.done rfl (by decide) H
    · replace h := fng c h
      refine Wp.run 2 (f' := (d + 0, 192, 14, 0, 0, [_, _], [fI 1])) (h' := (156, fjl L, M)) rfl trivial ?_
      obtain rfl := Option.some.inj h
      exact Wp.done rfl (by decide) H
noncomputable def s_X11_piano (M : fM) (l1 l2 : Int) : Option (Int ⊕ Unit) :=
  (s_X2_hasPiano_4 M l1).bind fun y5 =>
    if y5 = 0 then
      some (.inr ())
    else
      (s_X11_isWithin M l2 10).bind fun y14 =>
        if ¬ y14 = 0 then
          (s_X2_fact_4 M l1 l2).bind fun y34 =>
            some (.inl y34)
        else
          some (.inr ())
theorem s_X11_piano_ok {d L : Nat} {M : fM} {l1 l2 : Int} {r : (Int ⊕ Unit)} {Q : fO → fH → Prop} (h : s_X11_piano M l1 l2 = some r) (H : Q (oT oI 0 r) (156, fjl L, M)) : Wp (d + 7, 156, 0, 0, 0, [some (fA 0), some (fI l1), some (fI l2)], []) (156, fjl L, M) Q := by
  unfold s_X11_piano at h
  refine Wp.run 3 (f' := (d + 7, 156, 5, 0, 0, [some (fA 0), some (fI l1), some (fI l2)], [fI l1, fA 4])) (h' := (156, fjl L, M)) rfl trivial ?_
  obtain ⟨y5, hy, h⟩ := fbd h
  refine Wp.call rfl (by decide) (s_X2_hasPiano_4_ok (d := d + 6) hy ?_)
  show Wp (d + 7, 156, 8, 0, 0, [some (fA 0), some (fI l1), some (fI l2)], [fI y5]) (156, fjl L, M) Q
  refine Wp.br rfl (fun (c : y5 = 0) => ?_) (fun (c : ¬ (y5 = 0)) => ?_)
  · replace h := fps c h
    obtain rfl := Option.some.inj h
    exact Wp.done rfl ⟨Nat.le_add_left_of_le (by decide), rfl, rfl⟩ H
  · replace h := fng c h
    refine Wp.run 2 (f' := (d + 7, 156, 14, 0, 0, [some (fA 0), some (fI l1), some (fI l2)], [fI 10, fI l2])) (h' := (156, fjl L, M)) rfl trivial ?_
    obtain ⟨y14, hy, h⟩ := fbd h
    refine Wp.call rfl (by decide) (s_X11_isWithin_ok (d := d + 6) hy ?_)
    show Wp (d + 7, 156, 17, 0, 0, [some (fA 0), some (fI l1), some (fI l2)], [fI y14]) (156, fjl L, M) Q
    refine Wp.br rfl (fun (c : ¬ y14 = 0) => ?_) (fun (c : ¬ (¬ y14 = 0)) => ?_)
    · replace h := fps c h
      refine Wp.run 4 (f' := (d + 7, 156, 34, 0, 0, [_, _, _], [fI l2, fI l1, fA 4])) (h' := (156, fjl L, M)) rfl trivial ?_
      obtain ⟨y34, hy, h⟩ := fbd h
      refine Wp.call rfl (by decide) (s_X2_fact_4_ok (d := d + 6) hy ?_)
      show Wp (d + 7, 156, 37, 0, 0, [_, _, _], [fI y34]) (156, fjl L, M) Q
      obtain rfl := Option.some.inj h
      exact Wp.done rfl (by decide) H
    · replace h := fng c h
      obtain rfl := Option.some.inj h
      exact Wp.done rfl ⟨Nat.le_add_left_of_le (by decide), rfl, rfl⟩ H
abbrev s_L_piano_0_155_mods : List (Nat × Option Nat) := [(155, none)]
noncomputable def s_L_piano_0_155 (M : fM) (l1 l2 : Int) : Option (Int × fM) :=
  (s_X11_piano M l1 l2).bind fun y5 =>
    fel y5
      (fun w5 =>
        some (0, (fup M 155 0 w5)))
      (some (1, M))
theorem s_L_piano_0_155_ok {d L : Nat} {M : fM} {l1 l2 : Int} {r : (Int × fM)} {Q : fO → fH → Prop} (h : s_L_piano_0_155 M l1 l2 = some r) (H : Q (oI r.1) (156, fjl L, r.2)) : Wp (d + 8, 316, 0, 0, 0, [some (fA 0), some (fI l1), some (fI l2), some (fA 155), none], []) (156, fjl L, M) Q := by
  unfold s_L_piano_0_155 at h
  refine Wp.run 5 (f' := (d + 8, 316, 5, 0, 0, [_, _, _, _, _], [fI l2, fI l1, fA 0, fI 0, fA 155])) (h' := (156, fjl L, M)) rfl trivial ?_
  obtain ⟨y5, hy, h⟩ := fbd h
  refine Wp.call rfl (by decide) (s_X11_piano_ok (d := d + 0) hy ?_)
  obtain ⟨w5, ew, h⟩ | ⟨ew, h⟩ := fel_of h
  · rw [ew]
    show Wp (d + 8, 316, 8, 0, 0, [_, _, _, _, _], [fI w5, fI 0, fA 155]) (156, fjl L, M) Q
    refine Wp.run 4 (P := [(0 : Int) ≤ 0 ∧ (0 : Int) < 1]) (f' := (d + 8, 316, 18, 0, 0, [_, _, _, _, _], [fI 0])) (h' := (156, fjl L, (fup M 155 0 w5))) rfl ?_ ?_
    · exact (by decide : (0 : Int) ≤ 0 ∧ (0 : Int) < 1)
    obtain rfl := Option.some.inj h
    exact Wp.done rfl (by decide) H
  · rw [ew]
    refine ⟨⟨rfl, by decide, by decide⟩, ?_⟩
    show Wp (d + 8, 316, 13, 1, 6, [_, _, _, _, _], [fA 9999]) (156, fjl L, M) Q
    refine Wp.run 2 (f' := (d + 8, 316, 16, 1, 6, [_, _, _, _, _], [fI 1])) (h' := (156, fjl L, M)) rfl trivial ?_
    obtain rfl := Option.some.inj h
    exact Wp.done rfl (by decide) H
theorem s_L_piano_0_155_fr {M : fM} {l1 l2 : Int} {r : (Int × fM)} (h : s_L_piano_0_155 M l1 l2 = some r) : fSame s_L_piano_0_155_mods M r.2 := by
  unfold s_L_piano_0_155 at h
  obtain ⟨y5, hy, h⟩ := fbd h
  obtain ⟨w5, ew, h⟩ | ⟨ew, h⟩ := fel_of h
  · obtain rfl := Option.some.inj h
    exact fs_up fs_refl (.inl (by decide))
  · obtain rfl := Option.some.inj h
    exact fs_refl
noncomputable def s_X12_isPiano (M : fM) (l1 : Int) : Option Int :=
  if fin ((M 124 172) - 1) then
    (s_X12_isIn M l1 0 ((M 124 172) - 1)).bind fun y12 =>
      if b01 y12 then
        some y12
      else none
  else none
theorem s_X12_isPiano_ok {d L : Nat} {M : fM} {l1 : Int} {r : Int} {Q : fO → fH → Prop} (h : s_X12_isPiano M l1 = some r) (H : Q (oI r) (156, fjl L, M)) : Wp (d + 1, 240, 0, 0, 0, [some (fA 122), some (fI l1)], []) (156, fjl L, M) Q := by
  unfold s_X12_isPiano at h
  obtain ⟨g0, h⟩ := fgd h
  refine Wp.run 8 (P := [(0 : Int) ≤ 172 ∧ (172 : Int) < 1290]) (f' := (d + 1, 240, 12, 0, 0, [_, _], [fI (fw ((M 124 172) - 1)), fI 0, fI l1])) (h' := (156, fjl L, M)) rfl ?_ ?_
  · exact (by decide : (0 : Int) ≤ 172 ∧ (172 : Int) < 1290)
  rw [fw_id g0]
  obtain ⟨y12, hy, h⟩ := fbd h
  refine Wp.call rfl (by decide) (s_X12_isIn_ok (d := d + 0) hy ?_)
  show Wp (d + 1, 240, 15, 0, 0, [_, _], [fI y12]) (156, fjl L, M) Q
  obtain ⟨g0, h⟩ := fgd h
  obtain rfl := Option.some.inj h
  exact Wp.done rfl ⟨g0, by decide, by decide, by decide⟩ H
abbrev s_X12_throwsIf_mods : List (Nat × Option Nat) := [(122, some 0)]
noncomputable def s_X12_throwsIf (M : fM) (l1 : Int) : Option (Int × fM) :=
  if l1 = 0 then
    if b01 l1 then
      some (l1, (fup M 122 0 0))
    else none
  else
    if b01 l1 then
      some (l1, (fup M 122 0 1))
    else none
theorem s_X12_throwsIf_ok {d L : Nat} {M : fM} {l1 : Int} {r : (Int × fM)} {Q : fO → fH → Prop} (h : s_X12_throwsIf M l1 = some r) (H : Q (oI r.1) (156, fjl L, r.2)) : Wp (d + 0, 195, 0, 0, 0, [some (fA 122), some (fI l1)], []) (156, fjl L, M) Q := by
  unfold s_X12_throwsIf at h
  refine Wp.run 2 (f' := (d + 0, 195, 2, 0, 0, [_, some (fI l1)], [fI l1, fA 122])) (h' := (156, fjl L, M)) rfl trivial ?_
  refine Wp.br rfl (fun (c : l1 = 0) => ?_) (fun (c : ¬ (l1 = 0)) => ?_)
  · replace h := fps c h
    obtain ⟨g0, h⟩ := fgd h
    refine Wp.run 3 (f' := (d + 0, 195, 14, 0, 0, [_, _], [fI l1])) (h' := (156, fjl L, (fup M 122 0 0))) rfl trivial ?_
    obtain rfl := Option.some.inj h
    exact Wp.done rfl ⟨g0, by decide, by decide, by decide⟩ H
  · replace h := fng c h
    obtain ⟨g0, h⟩ := fgd h
    refine Wp.run 4 (f' := (d + 0, 195, 14, 0, 0, [_, _], [fI l1])) (h' := (156, fjl L, (fup M 122 0 1))) rfl trivial ?_
    obtain rfl := Option.some.inj h
    exact Wp.done rfl ⟨g0, by decide, by decide, by decide⟩ H
theorem s_X12_throwsIf_fr {M : fM} {l1 : Int} {r : (Int × fM)} (h : s_X12_throwsIf M l1 = some r) : fSame s_X12_throwsIf_mods M r.2 := by
  unfold s_X12_throwsIf at h
  by_cases c : l1 = 0
  · replace h := fps c h
    replace h := (fgd h).2
    obtain rfl := Option.some.inj h
    exact fs_up fs_refl (.inr (by decide))
  · replace h := fng c h
    replace h := (fgd h).2
    obtain rfl := Option.some.inj h
    exact fs_up fs_refl (.inr (by decide))
noncomputable def s_X12_of (M : fM) (l1 l2 : Int) : Option Int :=
  if fin (10 * l1) ∧ fin (175 + (10 * l1)) ∧ fin ((175 + (10 * l1)) + l2) ∧ (0 ≤ ((175 + (10 * l1)) + l2) ∧ ((175 + (10 * l1)) + l2) < 1290) then
    some (M 124 ((175 + (10 * l1)) + l2).toNat)
  else none
theorem s_X12_of_ok {d L : Nat} {M : fM} {l1 l2 : Int} {r : Int} {Q : fO → fH → Prop} (h : s_X12_of M l1 l2 = some r) (H : Q (oI r) (156, fjl L, M)) : Wp (d + 0, 244, 0, 0, 0, [some (fA 122), some (fI l1), some (fI l2)], []) (156, fjl L, M) Q := by
  unfold s_X12_of at h
  obtain ⟨⟨g0, g1, g2, g3⟩, h⟩ := fgd h
  refine Wp.run 10 (P := [0 ≤ (fw ((fw (175 + (fw (10 * l1)))) + l2)) ∧ (fw ((fw (175 + (fw (10 * l1)))) + l2)) < 1290]) (f' := (d + 0, 244, 15, 0, 0, [_, _, _], [fI (M 124 (fw ((fw (175 + (fw (10 * l1)))) + l2)).toNat)])) (h' := (156, fjl L, M)) rfl ?_ ?_
  · rw [fw_id g0, fw_id g1, fw_id g2]; exact g3
  rw [fw_id g0, fw_id g1, fw_id g2]
  obtain rfl := Option.some.inj h
  exact Wp.done rfl (by decide) H
abbrev s_X12_piano_mods : List (Nat × Option Nat) := [(122, some 0)]
noncomputable def s_X12_piano_j24 (M : fM) (l1 l2 t1 : Int) : Option (Int × fM) :=
  (s_X12_throwsIf M t1).bind fun y24 =>
    if y24.1 = 0 then
      (s_X12_of y24.2 l1 l2).bind fun y37 =>
        some (y37, y24.2)
    else
      some (0, y24.2)
theorem s_X12_piano_j24_ok {d L : Nat} {M : fM} {l1 l2 t1 : Int} {r : (Int × fM)} {Q : fO → fH → Prop} (h : s_X12_piano_j24 M l1 l2 t1 = some r) (H : Q (oI r.1) (156, fjl L, r.2)) : Wp (d + 2, 245, 24, 0, 0, [some (fA 122), some (fI l1), some (fI l2)], [fI t1, fA 122]) (156, fjl L, M) Q := by
  unfold s_X12_piano_j24 at h
  obtain ⟨y24, hy, h⟩ := fbd h
  refine Wp.call rfl (by decide) (s_X12_throwsIf_ok (d := d + 1) hy ?_)
  show Wp (d + 2, 245, 27, 0, 0, [some (fA 122), some (fI l1), some (fI l2)], [fI y24.1]) (156, fjl L, y24.2) Q
  refine Wp.br rfl (fun (c : y24.1 = 0) => ?_) (fun (c : ¬ (y24.1 = 0)) => ?_)
  · replace h := fps c h
    refine Wp.run 3 (f' := (d + 2, 245, 37, 0, 0, [_, _, _], [fI l2, fI l1, fA 122])) (h' := (156, fjl L, y24.2)) rfl trivial ?_
    obtain ⟨y37, hy, h⟩ := fbd h
    refine Wp.call rfl (by decide) (s_X12_of_ok (d := d + 1) hy ?_)
    show Wp (d + 2, 245, 40, 0, 0, [_, _, _], [fI y37]) (156, fjl L, y24.2) Q
    obtain rfl := Option.some.inj h
    exact Wp.done rfl (by decide) H
  · replace h := fng c h
    refine Wp.run 2 (f' := (d + 2, 245, 40, 0, 0, [_, _, _], [fI 0])) (h' := (156, fjl L, y24.2)) rfl trivial ?_
    obtain rfl := Option.some.inj h
    exact Wp.done rfl (by decide) H
theorem s_X12_piano_j24_fr {M : fM} {l1 l2 t1 : Int} {r : (Int × fM)} (h : s_X12_piano_j24 M l1 l2 t1 = some r) : fSame s_X12_piano_mods M r.2 := by
  unfold s_X12_piano_j24 at h
  obtain ⟨y24, hy, h⟩ := fbd h
  have k24 := fs_trans (l := s_X12_piano_mods) fs_refl (fs_mono (l := s_X12_throwsIf_mods) (by decide) (s_X12_throwsIf_fr hy))
  by_cases c : y24.1 = 0
  · replace h := fps c h
    obtain ⟨y37, hy, h⟩ := fbd h
    obtain rfl := Option.some.inj h
    exact k24
  · replace h := fng c h
    obtain rfl := Option.some.inj h
    exact k24
noncomputable def s_X12_piano_j19 (M : fM) (l1 l2 : Int) : Option (Int × fM) :=
  s_X12_piano_j24 M l1 l2 1
theorem s_X12_piano_j19_ok {d L : Nat} {M : fM} {l1 l2 : Int} {r : (Int × fM)} {Q : fO → fH → Prop} (h : s_X12_piano_j19 M l1 l2 = some r) (H : Q (oI r.1) (156, fjl L, r.2)) : Wp (d + 2, 245, 19, 0, 0, [some (fA 122), some (fI l1), some (fI l2)], [fA 122]) (156, fjl L, M) Q := by
  unfold s_X12_piano_j19 at h
  refine Wp.run 2 (f' := (d + 2, 245, 24, 0, 0, [some (fA 122), some (fI l1), some (fI l2)], [fI 1, fA 122])) (h' := (156, fjl L, M)) rfl trivial ?_
  exact s_X12_piano_j24_ok h H
theorem s_X12_piano_j19_fr {M : fM} {l1 l2 : Int} {r : (Int × fM)} (h : s_X12_piano_j19 M l1 l2 = some r) : fSame s_X12_piano_mods M r.2 := by
  unfold s_X12_piano_j19 at h
  exact fs_trans fs_refl (s_X12_piano_j24_fr h)
noncomputable def s_X12_piano (M : fM) (l1 l2 : Int) : Option (Int × fM) :=
  (s_X12_isPiano M l1).bind fun y3 =>
    if y3 = 0 then
      s_X12_piano_j19 M l1 l2
    else
      (s_X12_isIn M l2 0 9).bind fun y13 =>
        if ¬ y13 = 0 then
          s_X12_piano_j24 M l1 l2 0
        else
          s_X12_piano_j19 M l1 l2
theorem s_X12_piano_ok {d L : Nat} {M : fM} {l1 l2 : Int} {r : (Int × fM)} {Q : fO → fH → Prop} (h : s_X12_piano M l1 l2 = some r) (H : Q (oI r.1) (156, fjl L, r.2)) : Wp (d + 2, 245, 0, 0, 0, [some (fA 122), some (fI l1), some (fI l2)], []) (156, fjl L, M) Q := by
  unfold s_X12_piano at h
  refine Wp.run 3 (f' := (d + 2, 245, 3, 0, 0, [some (fA 122), some (fI l1), some (fI l2)], [fI l1, fA 122, fA 122])) (h' := (156, fjl L, M)) rfl trivial ?_
  obtain ⟨y3, hy, h⟩ := fbd h
  refine Wp.call rfl (by decide) (s_X12_isPiano_ok (d := d + 0) hy ?_)
  show Wp (d + 2, 245, 6, 0, 0, [some (fA 122), some (fI l1), some (fI l2)], [fI y3, fA 122]) (156, fjl L, M) Q
  refine Wp.br rfl (fun (c : y3 = 0) => ?_) (fun (c : ¬ (y3 = 0)) => ?_)
  · replace h := fps c h
    exact s_X12_piano_j19_ok h H
  · replace h := fng c h
    refine Wp.run 3 (f' := (d + 2, 245, 13, 0, 0, [some (fA 122), some (fI l1), some (fI l2)], [fI 9, fI 0, fI l2, fA 122])) (h' := (156, fjl L, M)) rfl trivial ?_
    obtain ⟨y13, hy, h⟩ := fbd h
    refine Wp.call rfl (by decide) (s_X12_isIn_ok (d := d + 1) hy ?_)
    show Wp (d + 2, 245, 16, 0, 0, [some (fA 122), some (fI l1), some (fI l2)], [fI y13, fA 122]) (156, fjl L, M) Q
    refine Wp.br rfl (fun (c : ¬ y13 = 0) => ?_) (fun (c : ¬ (¬ y13 = 0)) => ?_)
    · replace h := fps c h
      refine Wp.run 1 (f' := (d + 2, 245, 24, 0, 0, [some (fA 122), some (fI l1), some (fI l2)], [fI 0, fA 122])) (h' := (156, fjl L, M)) rfl trivial ?_
      exact s_X12_piano_j24_ok h H
    · replace h := fng c h
      exact s_X12_piano_j19_ok h H
theorem s_X12_piano_fr {M : fM} {l1 l2 : Int} {r : (Int × fM)} (h : s_X12_piano M l1 l2 = some r) : fSame s_X12_piano_mods M r.2 := by
  unfold s_X12_piano at h
  obtain ⟨y3, hy, h⟩ := fbd h
  by_cases c : y3 = 0
  · replace h := fps c h
    exact fs_trans fs_refl (s_X12_piano_j19_fr h)
  · replace h := fng c h
    obtain ⟨y13, hy, h⟩ := fbd h
    by_cases c : ¬ y13 = 0
    · replace h := fps c h
      exact fs_trans fs_refl (s_X12_piano_j24_fr h)
    · replace h := fng c h
      exact fs_trans fs_refl (s_X12_piano_j19_fr h)
noncomputable def s_X12_thrown (M : fM) : Option Int :=
  some (M 122 0)
theorem s_X12_thrown_ok {d L : Nat} {M : fM} {r : Int} {Q : fO → fH → Prop} (h : s_X12_thrown M = some r) (H : Q (oI r) (156, fjl L, M)) : Wp (d + 0, 194, 0, 0, 0, [some (fA 122)], []) (156, fjl L, M) Q := by
  unfold s_X12_thrown at h
  refine Wp.run 2 (f' := (d + 0, 194, 4, 0, 0, [_], [fI (M 122 0)])) (h' := (156, fjl L, M)) rfl trivial ?_
  obtain rfl := Option.some.inj h
  exact Wp.done rfl (by decide) H
noncomputable def s_X11_week (M : fM) (l1 l2 : Int) : Option Int :=
  (s_X11_isWithin M l1 52).bind fun y3 =>
    if y3 = 0 then
      some (-1)
    else
      (s_X11_isWithin M l2 2).bind fun y11 =>
        if ¬ y11 = 0 then
          if ¬ l2 = 0 then
            if (0 ≤ l1 ∧ l1 < 52) then
              some (M 7 (l1).toNat)
            else none
          else
            if (0 ≤ l1 ∧ l1 < 52) then
              some (M 6 (l1).toNat)
            else none
        else
          some (-1)
theorem s_X11_week_ok {d L : Nat} {M : fM} {l1 l2 : Int} {r : Int} {Q : fO → fH → Prop} (h : s_X11_week M l1 l2 = some r) (H : Q (oI r) (156, fjl L, M)) : Wp (d + 1, 157, 0, 0, 0, [some (fA 0), some (fI l1), some (fI l2)], []) (156, fjl L, M) Q := by
  unfold s_X11_week at h
  refine Wp.run 2 (f' := (d + 1, 157, 3, 0, 0, [some (fA 0), some (fI l1), some (fI l2)], [fI 52, fI l1])) (h' := (156, fjl L, M)) rfl trivial ?_
  obtain ⟨y3, hy, h⟩ := fbd h
  refine Wp.call rfl (by decide) (s_X11_isWithin_ok (d := d + 0) hy ?_)
  show Wp (d + 1, 157, 6, 0, 0, [some (fA 0), some (fI l1), some (fI l2)], [fI y3]) (156, fjl L, M) Q
  refine Wp.br rfl (fun (c : y3 = 0) => ?_) (fun (c : ¬ (y3 = 0)) => ?_)
  · replace h := fps c h
    refine Wp.run 1 (f' := (d + 1, 157, 18, 0, 0, [_, _, _], [fI (-1)])) (h' := (156, fjl L, M)) rfl trivial ?_
    obtain rfl := Option.some.inj h
    exact Wp.done rfl (by decide) H
  · replace h := fng c h
    refine Wp.run 2 (f' := (d + 1, 157, 11, 0, 0, [some (fA 0), some (fI l1), some (fI l2)], [fI 2, fI l2])) (h' := (156, fjl L, M)) rfl trivial ?_
    obtain ⟨y11, hy, h⟩ := fbd h
    refine Wp.call rfl (by decide) (s_X11_isWithin_ok (d := d + 0) hy ?_)
    show Wp (d + 1, 157, 14, 0, 0, [some (fA 0), some (fI l1), some (fI l2)], [fI y11]) (156, fjl L, M) Q
    refine Wp.br rfl (fun (c : ¬ y11 = 0) => ?_) (fun (c : ¬ (¬ y11 = 0)) => ?_)
    · replace h := fps c h
      refine Wp.run 1 (f' := (d + 1, 157, 20, 0, 0, [some (fA 0), some (fI l1), _], [fI l2])) (h' := (156, fjl L, M)) rfl trivial ?_
      refine Wp.br rfl (fun (c : ¬ l2 = 0) => ?_) (fun (c : ¬ (¬ l2 = 0)) => ?_)
      · replace h := fps c h
        obtain ⟨g0, h⟩ := fgd h
        refine Wp.run 5 (P := [0 ≤ l1 ∧ l1 < 52]) (f' := (d + 1, 157, 44, 0, 0, [_, _, _], [fI (M 7 (l1).toNat)])) (h' := (156, fjl L, M)) rfl ?_ ?_
        · exact g0
        obtain rfl := Option.some.inj h
        exact Wp.done rfl (by decide) H
      · replace h := fng c h
        obtain ⟨g0, h⟩ := fgd h
        refine Wp.run 6 (P := [0 ≤ l1 ∧ l1 < 52]) (f' := (d + 1, 157, 44, 0, 0, [_, _, _], [fI (M 6 (l1).toNat)])) (h' := (156, fjl L, M)) rfl ?_ ?_
        · exact g0
        obtain rfl := Option.some.inj h
        exact Wp.done rfl (by decide) H
    · replace h := fng c h
      refine Wp.run 1 (f' := (d + 1, 157, 18, 0, 0, [_, _, _], [fI (-1)])) (h' := (156, fjl L, M)) rfl trivial ?_
      obtain rfl := Option.some.inj h
      exact Wp.done rfl (by decide) H
abbrev s_X12_week_mods : List (Nat × Option Nat) := [(122, some 0)]
noncomputable def s_X12_week (M : fM) (l1 l2 : Int) : Option (Int × fM) :=
  (s_X12_isIn (fup M 122 0 0) l1 0 51).bind fun y9 =>
    if y9 = 0 then
      some ((-1), (fup M 122 0 0))
    else
      (s_X12_isIn (fup M 122 0 0) l2 0 1).bind fun y18 =>
        if y18 = 0 then
          some ((-1), (fup M 122 0 0))
        else
          if ¬ l2 = 0 then
            if fin (65 + l1) ∧ (0 ≤ (65 + l1) ∧ (65 + l1) < 1290) then
              some ((M 124 (65 + l1).toNat), (fup M 122 0 0))
            else none
          else
            if fin (13 + l1) ∧ (0 ≤ (13 + l1) ∧ (13 + l1) < 1290) then
              some ((M 124 (13 + l1).toNat), (fup M 122 0 0))
            else none
theorem s_X12_week_ok {d L : Nat} {M : fM} {l1 l2 : Int} {r : (Int × fM)} {Q : fO → fH → Prop} (h : s_X12_week M l1 l2 = some r) (H : Q (oI r.1) (156, fjl L, r.2)) : Wp (d + 1, 246, 0, 0, 0, [some (fA 122), some (fI l1), some (fI l2)], []) (156, fjl L, M) Q := by
  unfold s_X12_week at h
  refine Wp.run 6 (f' := (d + 1, 246, 9, 0, 0, [some (fA 122), some (fI l1), some (fI l2)], [fI 51, fI 0, fI l1])) (h' := (156, fjl L, (fup M 122 0 0))) rfl trivial ?_
  obtain ⟨y9, hy, h⟩ := fbd h
  refine Wp.call rfl (by decide) (s_X12_isIn_ok (d := d + 0) hy ?_)
  show Wp (d + 1, 246, 12, 0, 0, [some (fA 122), some (fI l1), some (fI l2)], [fI y9]) (156, fjl L, (fup M 122 0 0)) Q
  refine Wp.br rfl (fun (c : y9 = 0) => ?_) (fun (c : ¬ (y9 = 0)) => ?_)
  · replace h := fps c h
    refine Wp.run 1 (f' := (d + 1, 246, 46, 0, 0, [_, _, _], [fI (-1)])) (h' := (156, fjl L, (fup M 122 0 0))) rfl trivial ?_
    obtain rfl := Option.some.inj h
    exact Wp.done rfl (by decide) H
  · replace h := fng c h
    refine Wp.run 3 (f' := (d + 1, 246, 18, 0, 0, [some (fA 122), some (fI l1), some (fI l2)], [fI 1, fI 0, fI l2])) (h' := (156, fjl L, (fup M 122 0 0))) rfl trivial ?_
    obtain ⟨y18, hy, h⟩ := fbd h
    refine Wp.call rfl (by decide) (s_X12_isIn_ok (d := d + 0) hy ?_)
    show Wp (d + 1, 246, 21, 0, 0, [some (fA 122), some (fI l1), some (fI l2)], [fI y18]) (156, fjl L, (fup M 122 0 0)) Q
    refine Wp.br rfl (fun (c : y18 = 0) => ?_) (fun (c : ¬ (y18 = 0)) => ?_)
    · replace h := fps c h
      refine Wp.run 1 (f' := (d + 1, 246, 46, 0, 0, [_, _, _], [fI (-1)])) (h' := (156, fjl L, (fup M 122 0 0))) rfl trivial ?_
      obtain rfl := Option.some.inj h
      exact Wp.done rfl (by decide) H
    · replace h := fng c h
      refine Wp.run 3 (f' := (d + 1, 246, 29, 0, 0, [_, some (fI l1), _], [fI l2, fA 124])) (h' := (156, fjl L, (fup M 122 0 0))) rfl trivial ?_
      refine Wp.br rfl (fun (c : ¬ l2 = 0) => ?_) (fun (c : ¬ (¬ l2 = 0)) => ?_)
      · replace h := fps c h
        obtain ⟨⟨g0, g1⟩, h⟩ := fgd h
        refine Wp.run 5 (P := [0 ≤ (fw (65 + l1)) ∧ (fw (65 + l1)) < 1290]) (f' := (d + 1, 246, 46, 0, 0, [_, _, _], [fI (M 124 (fw (65 + l1)).toNat)])) (h' := (156, fjl L, (fup M 122 0 0))) rfl ?_ ?_
        · rw [fw_id g0]; exact g1
        rw [fw_id g0]
        obtain rfl := Option.some.inj h
        exact Wp.done rfl (by decide) H
      · replace h := fng c h
        obtain ⟨⟨g0, g1⟩, h⟩ := fgd h
        refine Wp.run 6 (P := [0 ≤ (fw (13 + l1)) ∧ (fw (13 + l1)) < 1290]) (f' := (d + 1, 246, 46, 0, 0, [_, _, _], [fI (M 124 (fw (13 + l1)).toNat)])) (h' := (156, fjl L, (fup M 122 0 0))) rfl ?_ ?_
        · rw [fw_id g0]; exact g1
        rw [fw_id g0]
        obtain rfl := Option.some.inj h
        exact Wp.done rfl (by decide) H
theorem s_X12_week_fr {M : fM} {l1 l2 : Int} {r : (Int × fM)} (h : s_X12_week M l1 l2 = some r) : fSame s_X12_week_mods M r.2 := by
  unfold s_X12_week at h
  obtain ⟨y9, hy, h⟩ := fbd h
  by_cases c : y9 = 0
  · replace h := fps c h
    obtain rfl := Option.some.inj h
    exact fs_up fs_refl (.inr (by decide))
  · replace h := fng c h
    obtain ⟨y18, hy, h⟩ := fbd h
    by_cases c : y18 = 0
    · replace h := fps c h
      obtain rfl := Option.some.inj h
      exact fs_up fs_refl (.inr (by decide))
    · replace h := fng c h
      by_cases c : ¬ l2 = 0
      · replace h := fps c h
        replace h := (fgd h).2
        obtain rfl := Option.some.inj h
        exact fs_up fs_refl (.inr (by decide))
      · replace h := fng c h
        replace h := (fgd h).2
        obtain rfl := Option.some.inj h
        exact fs_up fs_refl (.inr (by decide))
noncomputable def s_X2_hasTable_4 (M : fM) : Option Int :=
  if (M 5 0) ≤ 0 then
    some 0
  else
    some 1
theorem s_X2_hasTable_4_ok {d L : Nat} {M : fM} {r : Int} {Q : fO → fH → Prop} (h : s_X2_hasTable_4 M = some r) (H : Q (oI r) (156, fjl L, M)) : Wp (d + 0, 43, 0, 0, 0, [some (fA 4)], []) (156, fjl L, M) Q := by
  unfold s_X2_hasTable_4 at h
  refine Wp.run 4 (P := [(0 : Int) ≤ 0 ∧ (0 : Int) < 12]) (f' := (d + 0, 43, 6, 0, 0, [_], [fI (M 5 0)])) (h' := (156, fjl L, M)) rfl ?_ ?_
  · exact (by decide : (0 : Int) ≤ 0 ∧ (0 : Int) < 12)
  refine Wp.br rfl (fun (c : (M 5 0) ≤ 0) => ?_) (fun (c : ¬ ((M 5 0) ≤ 0)) => ?_)
  · replace h := fps c h
    refine Wp.run 1 (f' := (d + 0, 43, 14, 0, 0, [_], [fI 0])) (h' := (156, fjl L, M)) rfl trivial ?_
    obtain rfl := Option.some.inj h
    exact Wp.done rfl (by decide) H
  · replace h := fng c h
    refine Wp.run 2 (f' := (d + 0, 43, 14, 0, 0, [_], [fI 1])) (h' := (156, fjl L, M)) rfl trivial ?_
    obtain rfl := Option.some.inj h
    exact Wp.done rfl (by decide) H
noncomputable def s_J9_abs (M : fM) (l0 : Int) : Option Int :=
  if 0 ≤ l0 then
    some l0
  else
    if fin (-l0) then
      some (-l0)
    else none
theorem s_J9_abs_ok {d L : Nat} {M : fM} {l0 : Int} {r : Int} {Q : fO → fH → Prop} (h : s_J9_abs M l0 = some r) (H : Q (oI r) (156, fjl L, M)) : Wp (d + 0, 311, 0, 0, 0, [some (fI l0)], []) (156, fjl L, M) Q := by
  unfold s_J9_abs at h
  refine Wp.run 1 (f' := (d + 0, 311, 1, 0, 0, [some (fI l0)], [fI l0])) (h' := (156, fjl L, M)) rfl trivial ?_
  refine Wp.br rfl (fun (c : 0 ≤ l0) => ?_) (fun (c : ¬ (0 ≤ l0)) => ?_)
  · replace h := fps c h
    refine Wp.run 1 (f' := (d + 0, 311, 10, 0, 0, [_], [fI l0])) (h' := (156, fjl L, M)) rfl trivial ?_
    obtain rfl := Option.some.inj h
    exact Wp.done rfl (by decide) H
  · replace h := fng c h
    obtain ⟨g0, h⟩ := fgd h
    refine Wp.run 3 (f' := (d + 0, 311, 10, 0, 0, [_], [fI (fw (-l0))])) (h' := (156, fjl L, M)) rfl trivial ?_
    rw [fw_id g0]
    obtain rfl := Option.some.inj h
    exact Wp.done rfl (by decide) H
noncomputable def s_X2_beatsOf_4_j34 (M : fM) (l1 l2 t0 : Int) : Option Int :=
  if (0 ≤ l2 ∧ l2 < 4) ∧ (0 ≤ l1 ∧ l1 < 12) ∧ fin ((M 1003 (l2).toNat) * (M 5 (l1).toNat)) ∧ fin ((M 1003 (l2).toNat) - 1) ∧ fin (((M 1003 (l2).toNat) - 1) * t0) ∧ fin (((M 1003 (l2).toNat) * (M 5 (l1).toNat)) - (((M 1003 (l2).toNat) - 1) * t0)) then
    (s_J9_abs M (((M 1003 (l2).toNat) * (M 5 (l1).toNat)) - (((M 1003 (l2).toNat) - 1) * t0))).bind fun y60 =>
      some y60
  else none
theorem s_X2_beatsOf_4_j34_ok {d L : Nat} {M : fM} {l1 l2 t0 : Int} {o3 o4 o5 : Option fV} {r : Int} {Q : fO → fH → Prop} (h : s_X2_beatsOf_4_j34 M l1 l2 t0 = some r) (H : Q (oI r) (156, fjl L, M)) : Wp (d + 1, 44, 34, 0, 0, [some (fA 4), some (fI l1), some (fI l2), o3, o4, o5], [fI t0]) (156, fjl L, M) Q := by
  unfold s_X2_beatsOf_4_j34 at h
  obtain ⟨⟨g0, g1, g2, g3, g4, g5⟩, h⟩ := fgd h
  refine Wp.run 17 (P := [0 ≤ l2 ∧ l2 < 4, 0 ≤ l1 ∧ l1 < 12]) (f' := (d + 1, 44, 60, 0, 0, [_, _, _, _, _, _], [fI (fw ((fw ((M 1003 (l2).toNat) * (M 5 (l1).toNat))) - (fw ((fw ((M 1003 (l2).toNat) - 1)) * t0))))])) (h' := (156, fjl L, M)) rfl ?_ ?_
  · exact ⟨g0, g1⟩
  rw [fw_id g2, fw_id g3, fw_id g4, fw_id g5]
  obtain ⟨y60, hy, h⟩ := fbd h
  refine Wp.call rfl (by decide) (s_J9_abs_ok (d := d + 0) hy ?_)
  show Wp (d + 1, 44, 63, 0, 0, [_, _, _, _, _, _], [fI y60]) (156, fjl L, M) Q
  obtain rfl := Option.some.inj h
  exact Wp.done rfl (by decide) H
noncomputable def s_X2_beatsOf_4 (M : fM) (l1 l2 : Int) : Option Int :=
  if (0 ≤ l2 ∧ l2 < 4) ∧ fin (l1 + (M 1002 (l2).toNat)) then
    if 12 ≤ (l1 + (M 1002 (l2).toNat)) then
      if fin ((l1 + (M 1002 (l2).toNat)) - 12) ∧ (0 ≤ ((l1 + (M 1002 (l2).toNat)) - 12) ∧ ((l1 + (M 1002 (l2).toNat)) - 12) < 12) ∧ fin (2 * (M 5 ((l1 + (M 1002 (l2).toNat)) - 12).toNat)) then
        s_X2_beatsOf_4_j34 M l1 l2 (2 * (M 5 ((l1 + (M 1002 (l2).toNat)) - 12).toNat))
      else none
    else
      if (0 ≤ (l1 + (M 1002 (l2).toNat)) ∧ (l1 + (M 1002 (l2).toNat)) < 12) then
        s_X2_beatsOf_4_j34 M l1 l2 (M 5 (l1 + (M 1002 (l2).toNat)).toNat)
      else none
  else none
theorem s_X2_beatsOf_4_ok {d L : Nat} {M : fM} {l1 l2 : Int} {r : Int} {Q : fO → fH → Prop} (h : s_X2_beatsOf_4 M l1 l2 = some r) (H : Q (oI r) (156, fjl L, M)) : Wp (d + 1, 44, 0, 0, 0, [some (fA 4), some (fI l1), some (fI l2), none, none, none], []) (156, fjl L, M) Q := by
  unfold s_X2_beatsOf_4 at h
  obtain ⟨⟨g0, g1⟩, h⟩ := fgd h
  refine Wp.run 8 (P := [0 ≤ l2 ∧ l2 < 4]) (f' := (d + 1, 44, 11, 0, 0, [some (fA 4), some (fI l1), some (fI l2), some (fI (fw (l1 + (M 1002 (l2).toNat)))), _, _], [fI 12, fI (fw (l1 + (M 1002 (l2).toNat)))])) (h' := (156, fjl L, M)) rfl ?_ ?_
  · exact g0
  rw [fw_id g1]
  refine Wp.br rfl (fun (c : 12 ≤ (l1 + (M 1002 (l2).toNat))) => ?_) (fun (c : ¬ (12 ≤ (l1 + (M 1002 (l2).toNat)))) => ?_)
  · replace h := fps c h
    obtain ⟨⟨g0, g1, g2⟩, h⟩ := fgd h
    refine Wp.run 8 (P := [0 ≤ (fw ((l1 + (M 1002 (l2).toNat)) - 12)) ∧ (fw ((l1 + (M 1002 (l2).toNat)) - 12)) < 12]) (f' := (d + 1, 44, 34, 0, 0, [some (fA 4), some (fI l1), some (fI l2), _, _, _], [fI (fw (2 * (M 5 (fw ((l1 + (M 1002 (l2).toNat)) - 12)).toNat)))])) (h' := (156, fjl L, M)) rfl ?_ ?_
    · rw [fw_id g0]; exact g1
    rw [fw_id g0, fw_id g2]
    exact s_X2_beatsOf_4_j34_ok h H
  · replace h := fng c h
    obtain ⟨g0, h⟩ := fgd h
    refine Wp.run 5 (P := [0 ≤ (l1 + (M 1002 (l2).toNat)) ∧ (l1 + (M 1002 (l2).toNat)) < 12]) (f' := (d + 1, 44, 34, 0, 0, [some (fA 4), some (fI l1), some (fI l2), _, _, _], [fI (M 5 (l1 + (M 1002 (l2).toNat)).toNat)])) (h' := (156, fjl L, M)) rfl ?_ ?_
    · exact g0
    exact s_X2_beatsOf_4_j34_ok h H
noncomputable def s_X11_beats (M : fM) (l1 l2 : Int) : Option Int :=
  (s_X11_isWithin M l1 12).bind fun y3 =>
    if y3 = 0 then
      some (-1)
    else
      (s_X11_isWithin M l2 4).bind fun y11 =>
        if y11 = 0 then
          some (-1)
        else
          (s_X2_hasTable_4 M).bind fun y21 =>
            if ¬ y21 = 0 then
              (s_X2_beatsOf_4 M l1 l2).bind fun y35 =>
                some y35
            else
              some (-1)
theorem s_X11_beats_ok {d L : Nat} {M : fM} {l1 l2 : Int} {r : Int} {Q : fO → fH → Prop} (h : s_X11_beats M l1 l2 = some r) (H : Q (oI r) (156, fjl L, M)) : Wp (d + 2, 158, 0, 0, 0, [some (fA 0), some (fI l1), some (fI l2)], []) (156, fjl L, M) Q := by
  unfold s_X11_beats at h
  refine Wp.run 2 (f' := (d + 2, 158, 3, 0, 0, [some (fA 0), some (fI l1), some (fI l2)], [fI 12, fI l1])) (h' := (156, fjl L, M)) rfl trivial ?_
  obtain ⟨y3, hy, h⟩ := fbd h
  refine Wp.call rfl (by decide) (s_X11_isWithin_ok (d := d + 1) hy ?_)
  show Wp (d + 2, 158, 6, 0, 0, [some (fA 0), some (fI l1), some (fI l2)], [fI y3]) (156, fjl L, M) Q
  refine Wp.br rfl (fun (c : y3 = 0) => ?_) (fun (c : ¬ (y3 = 0)) => ?_)
  · replace h := fps c h
    refine Wp.run 1 (f' := (d + 2, 158, 28, 0, 0, [_, _, _], [fI (-1)])) (h' := (156, fjl L, M)) rfl trivial ?_
    obtain rfl := Option.some.inj h
    exact Wp.done rfl (by decide) H
  · replace h := fng c h
    refine Wp.run 2 (f' := (d + 2, 158, 11, 0, 0, [some (fA 0), some (fI l1), some (fI l2)], [fI 4, fI l2])) (h' := (156, fjl L, M)) rfl trivial ?_
    obtain ⟨y11, hy, h⟩ := fbd h
    refine Wp.call rfl (by decide) (s_X11_isWithin_ok (d := d + 1) hy ?_)
    show Wp (d + 2, 158, 14, 0, 0, [some (fA 0), some (fI l1), some (fI l2)], [fI y11]) (156, fjl L, M) Q
    refine Wp.br rfl (fun (c : y11 = 0) => ?_) (fun (c : ¬ (y11 = 0)) => ?_)
    · replace h := fps c h
      refine Wp.run 1 (f' := (d + 2, 158, 28, 0, 0, [_, _, _], [fI (-1)])) (h' := (156, fjl L, M)) rfl trivial ?_
      obtain rfl := Option.some.inj h
      exact Wp.done rfl (by decide) H
    · replace h := fng c h
      refine Wp.run 2 (f' := (d + 2, 158, 21, 0, 0, [some (fA 0), some (fI l1), some (fI l2)], [fA 4])) (h' := (156, fjl L, M)) rfl trivial ?_
      obtain ⟨y21, hy, h⟩ := fbd h
      refine Wp.call rfl (by decide) (s_X2_hasTable_4_ok (d := d + 1) hy ?_)
      show Wp (d + 2, 158, 24, 0, 0, [some (fA 0), some (fI l1), some (fI l2)], [fI y21]) (156, fjl L, M) Q
      refine Wp.br rfl (fun (c : ¬ y21 = 0) => ?_) (fun (c : ¬ (¬ y21 = 0)) => ?_)
      · replace h := fps c h
        refine Wp.run 4 (f' := (d + 2, 158, 35, 0, 0, [_, _, _], [fI l2, fI l1, fA 4])) (h' := (156, fjl L, M)) rfl trivial ?_
        obtain ⟨y35, hy, h⟩ := fbd h
        refine Wp.call rfl (by decide) (s_X2_beatsOf_4_ok (d := d + 0) hy ?_)
        show Wp (d + 2, 158, 38, 0, 0, [_, _, _], [fI y35]) (156, fjl L, M) Q
        obtain rfl := Option.some.inj h
        exact Wp.done rfl (by decide) H
      · replace h := fng c h
        refine Wp.run 1 (f' := (d + 2, 158, 28, 0, 0, [_, _, _], [fI (-1)])) (h' := (156, fjl L, M)) rfl trivial ?_
        obtain rfl := Option.some.inj h
        exact Wp.done rfl (by decide) H
noncomputable def s_X12_pitch (M : fM) (l1 : Int) : Option Int :=
  if 12 ≤ l1 then
    if fin (1 + l1) ∧ fin ((1 + l1) - 12) ∧ (0 ≤ ((1 + l1) - 12) ∧ ((1 + l1) - 12) < 1290) ∧ fin (2 * (M 124 ((1 + l1) - 12).toNat)) then
      some (2 * (M 124 ((1 + l1) - 12).toNat))
    else none
  else
    if fin (1 + l1) ∧ (0 ≤ (1 + l1) ∧ (1 + l1) < 1290) then
      some (M 124 (1 + l1).toNat)
    else none
theorem s_X12_pitch_ok {d L : Nat} {M : fM} {l1 : Int} {r : Int} {Q : fO → fH → Prop} (h : s_X12_pitch M l1 = some r) (H : Q (oI r) (156, fjl L, M)) : Wp (d + 0, 247, 0, 0, 0, [some (fA 122), some (fI l1)], []) (156, fjl L, M) Q := by
  unfold s_X12_pitch at h
  refine Wp.run 2 (f' := (d + 0, 247, 3, 0, 0, [some (fA 122), some (fI l1)], [fI 12, fI l1])) (h' := (156, fjl L, M)) rfl trivial ?_
  refine Wp.br rfl (fun (c : 12 ≤ l1) => ?_) (fun (c : ¬ (12 ≤ l1)) => ?_)
  · replace h := fps c h
    obtain ⟨⟨g0, g1, g2, g3⟩, h⟩ := fgd h
    refine Wp.run 10 (P := [0 ≤ (fw ((fw (1 + l1)) - 12)) ∧ (fw ((fw (1 + l1)) - 12)) < 1290]) (f' := (d + 0, 247, 30, 0, 0, [_, _], [fI (fw (2 * (M 124 (fw ((fw (1 + l1)) - 12)).toNat)))])) (h' := (156, fjl L, M)) rfl ?_ ?_
    · rw [fw_id g0, fw_id g1]; exact g2
    rw [fw_id g0, fw_id g1, fw_id g3]
    obtain rfl := Option.some.inj h
    exact Wp.done rfl (by decide) H
  · replace h := fng c h
    obtain ⟨⟨g0, g1⟩, h⟩ := fgd h
    refine Wp.run 7 (P := [0 ≤ (fw (1 + l1)) ∧ (fw (1 + l1)) < 1290]) (f' := (d + 0, 247, 30, 0, 0, [_, _], [fI (M 124 (fw (1 + l1)).toNat)])) (h' := (156, fjl L, M)) rfl ?_ ?_
    · rw [fw_id g0]; exact g1
    rw [fw_id g0]
    obtain rfl := Option.some.inj h
    exact Wp.done rfl (by decide) H
noncomputable def s_X12_plain (M : fM) (l0 : Int) : Option Int :=
  if 0 ≤ l0 then
    some l0
  else
    if fin (-l0) then
      some (-l0)
    else none
theorem s_X12_plain_ok {d L : Nat} {M : fM} {l0 : Int} {r : Int} {Q : fO → fH → Prop} (h : s_X12_plain M l0 = some r) (H : Q (oI r) (156, fjl L, M)) : Wp (d + 0, 201, 0, 0, 0, [some (fI l0)], []) (156, fjl L, M) Q := by
  unfold s_X12_plain at h
  refine Wp.run 1 (f' := (d + 0, 201, 1, 0, 0, [some (fI l0)], [fI l0])) (h' := (156, fjl L, M)) rfl trivial ?_
  refine Wp.br rfl (fun (c : 0 ≤ l0) => ?_) (fun (c : ¬ (0 ≤ l0)) => ?_)
  · replace h := fps c h
    refine Wp.run 1 (f' := (d + 0, 201, 10, 0, 0, [_], [fI l0])) (h' := (156, fjl L, M)) rfl trivial ?_
    obtain rfl := Option.some.inj h
    exact Wp.done rfl (by decide) H
  · replace h := fng c h
    obtain ⟨g0, h⟩ := fgd h
    refine Wp.run 3 (f' := (d + 0, 201, 10, 0, 0, [_], [fI (fw (-l0))])) (h' := (156, fjl L, M)) rfl trivial ?_
    rw [fw_id g0]
    obtain rfl := Option.some.inj h
    exact Wp.done rfl (by decide) H
noncomputable def s_X12_beatsOf_j83 (M : fM) (t0 : Int) : Option Int :=
  (s_X12_plain M t0).bind fun y83 =>
    some y83
theorem s_X12_beatsOf_j83_ok {d L : Nat} {M : fM} {t0 : Int} {o0 o1 o2 o3 : Option fV} {r : Int} {Q : fO → fH → Prop} (h : s_X12_beatsOf_j83 M t0 = some r) (H : Q (oI r) (156, fjl L, M)) : Wp (d + 1, 248, 83, 0, 0, [o0, o1, o2, o3], [fI t0]) (156, fjl L, M) Q := by
  unfold s_X12_beatsOf_j83 at h
  obtain ⟨y83, hy, h⟩ := fbd h
  refine Wp.call rfl (by decide) (s_X12_plain_ok (d := d + 0) hy ?_)
  show Wp (d + 1, 248, 86, 0, 0, [_, _, _, _], [fI y83]) (156, fjl L, M) Q
  obtain rfl := Option.some.inj h
  exact Wp.done rfl (by decide) H
noncomputable def s_X12_beatsOf (M : fM) (l1 l2 : Int) : Option Int :=
  (s_X12_pitch M l1).bind fun y2 =>
    if ¬ l2 = 0 then
      if ¬ l2 = 1 then
        if ¬ l2 = 2 then
          if fin (4 * y2) ∧ fin (l1 + 5) then
            (s_X12_pitch M (l1 + 5)).bind fun y78 =>
              if fin (3 * y78) ∧ fin ((4 * y2) - (3 * y78)) then
                s_X12_beatsOf_j83 M ((4 * y2) - (3 * y78))
              else none
          else none
        else
          if fin (6 * y2) ∧ fin (l1 + 3) then
            (s_X12_pitch M (l1 + 3)).bind fun y62 =>
              if fin (5 * y62) ∧ fin ((6 * y2) - (5 * y62)) then
                s_X12_beatsOf_j83 M ((6 * y2) - (5 * y62))
              else none
          else none
      else
        if fin (5 * y2) ∧ fin (l1 + 4) then
          (s_X12_pitch M (l1 + 4)).bind fun y40 =>
            if fin (4 * y40) ∧ fin ((5 * y2) - (4 * y40)) then
              s_X12_beatsOf_j83 M ((5 * y2) - (4 * y40))
            else none
        else none
    else
      if fin (3 * y2) ∧ fin (l1 + 7) then
        (s_X12_pitch M (l1 + 7)).bind fun y19 =>
          if fin (2 * y19) ∧ fin ((3 * y2) - (2 * y19)) then
            s_X12_beatsOf_j83 M ((3 * y2) - (2 * y19))
          else none
      else none
theorem s_X12_beatsOf_ok {d L : Nat} {M : fM} {l1 l2 : Int} {r : Int} {Q : fO → fH → Prop} (h : s_X12_beatsOf M l1 l2 = some r) (H : Q (oI r) (156, fjl L, M)) : Wp (d + 1, 248, 0, 0, 0, [some (fA 122), some (fI l1), some (fI l2), none], []) (156, fjl L, M) Q := by
  unfold s_X12_beatsOf at h
  refine Wp.run 2 (f' := (d + 1, 248, 2, 0, 0, [some (fA 122), some (fI l1), some (fI l2), _], [fI l1, fA 122])) (h' := (156, fjl L, M)) rfl trivial ?_
  obtain ⟨y2, hy, h⟩ := fbd h
  refine Wp.call rfl (by decide) (s_X12_pitch_ok (d := d + 0) hy ?_)
  show Wp (d + 1, 248, 5, 0, 0, [some (fA 122), some (fI l1), some (fI l2), _], [fI y2]) (156, fjl L, M) Q
  refine Wp.run 2 (f' := (d + 1, 248, 7, 0, 0, [some (fA 122), some (fI l1), some (fI l2), some (fI y2)], [fI l2])) (h' := (156, fjl L, M)) rfl trivial ?_
  refine Wp.br rfl (fun (c : ¬ l2 = 0) => ?_) (fun (c : ¬ (¬ l2 = 0)) => ?_)
  · replace h := fps c h
    refine Wp.run 2 (f' := (d + 1, 248, 29, 0, 0, [some (fA 122), some (fI l1), some (fI l2), some (fI y2)], [fI 1, fI l2])) (h' := (156, fjl L, M)) rfl trivial ?_
    refine Wp.br rfl (fun (c : ¬ l2 = 1) => ?_) (fun (c : ¬ (¬ l2 = 1)) => ?_)
    · replace h := fps c h
      refine Wp.run 2 (f' := (d + 1, 248, 50, 0, 0, [some (fA 122), some (fI l1), _, some (fI y2)], [fI 2, fI l2])) (h' := (156, fjl L, M)) rfl trivial ?_
      refine Wp.br rfl (fun (c : ¬ l2 = 2) => ?_) (fun (c : ¬ (¬ l2 = 2)) => ?_)
      · replace h := fps c h
        obtain ⟨⟨g0, g1⟩, h⟩ := fgd h
        refine Wp.run 8 (f' := (d + 1, 248, 78, 0, 0, [_, _, _, _], [fI (fw (l1 + 5)), fA 122, fI 3, fI (fw (4 * y2))])) (h' := (156, fjl L, M)) rfl trivial ?_
        rw [fw_id g0, fw_id g1]
        obtain ⟨y78, hy, h⟩ := fbd h
        refine Wp.call rfl (by decide) (s_X12_pitch_ok (d := d + 0) hy ?_)
        show Wp (d + 1, 248, 81, 0, 0, [_, _, _, _], [fI y78, fI 3, fI (4 * y2)]) (156, fjl L, M) Q
        obtain ⟨⟨g0, g1⟩, h⟩ := fgd h
        refine Wp.run 2 (f' := (d + 1, 248, 83, 0, 0, [_, _, _, _], [fI (fw ((4 * y2) - (fw (3 * y78))))])) (h' := (156, fjl L, M)) rfl trivial ?_
        rw [fw_id g0, fw_id g1]
        exact s_X12_beatsOf_j83_ok h H
      · replace h := fng c h
        obtain ⟨⟨g0, g1⟩, h⟩ := fgd h
        refine Wp.run 8 (f' := (d + 1, 248, 62, 0, 0, [_, _, _, _], [fI (fw (l1 + 3)), fA 122, fI 5, fI (fw (6 * y2))])) (h' := (156, fjl L, M)) rfl trivial ?_
        rw [fw_id g0, fw_id g1]
        obtain ⟨y62, hy, h⟩ := fbd h
        refine Wp.call rfl (by decide) (s_X12_pitch_ok (d := d + 0) hy ?_)
        show Wp (d + 1, 248, 65, 0, 0, [_, _, _, _], [fI y62, fI 5, fI (6 * y2)]) (156, fjl L, M) Q
        obtain ⟨⟨g0, g1⟩, h⟩ := fgd h
        refine Wp.run 3 (f' := (d + 1, 248, 83, 0, 0, [_, _, _, _], [fI (fw ((6 * y2) - (fw (5 * y62))))])) (h' := (156, fjl L, M)) rfl trivial ?_
        rw [fw_id g0, fw_id g1]
        exact s_X12_beatsOf_j83_ok h H
    · replace h := fng c h
      obtain ⟨⟨g0, g1⟩, h⟩ := fgd h
      refine Wp.run 8 (f' := (d + 1, 248, 40, 0, 0, [_, _, _, _], [fI (fw (l1 + 4)), fA 122, fI 4, fI (fw (5 * y2))])) (h' := (156, fjl L, M)) rfl trivial ?_
      rw [fw_id g0, fw_id g1]
      obtain ⟨y40, hy, h⟩ := fbd h
      refine Wp.call rfl (by decide) (s_X12_pitch_ok (d := d + 0) hy ?_)
      show Wp (d + 1, 248, 43, 0, 0, [_, _, _, _], [fI y40, fI 4, fI (5 * y2)]) (156, fjl L, M) Q
      obtain ⟨⟨g0, g1⟩, h⟩ := fgd h
      refine Wp.run 3 (f' := (d + 1, 248, 83, 0, 0, [_, _, _, _], [fI (fw ((5 * y2) - (fw (4 * y40))))])) (h' := (156, fjl L, M)) rfl trivial ?_
      rw [fw_id g0, fw_id g1]
      exact s_X12_beatsOf_j83_ok h H
  · replace h := fng c h
    obtain ⟨⟨g0, g1⟩, h⟩ := fgd h
    refine Wp.run 8 (f' := (d + 1, 248, 19, 0, 0, [_, _, _, _], [fI (fw (l1 + 7)), fA 122, fI 2, fI (fw (3 * y2))])) (h' := (156, fjl L, M)) rfl trivial ?_
    rw [fw_id g0, fw_id g1]
    obtain ⟨y19, hy, h⟩ := fbd h
    refine Wp.call rfl (by decide) (s_X12_pitch_ok (d := d + 0) hy ?_)
    show Wp (d + 1, 248, 22, 0, 0, [_, _, _, _], [fI y19, fI 2, fI (3 * y2)]) (156, fjl L, M) Q
    obtain ⟨⟨g0, g1⟩, h⟩ := fgd h
    refine Wp.run 3 (f' := (d + 1, 248, 83, 0, 0, [_, _, _, _], [fI (fw ((3 * y2) - (fw (2 * y19))))])) (h' := (156, fjl L, M)) rfl trivial ?_
    rw [fw_id g0, fw_id g1]
    exact s_X12_beatsOf_j83_ok h H
abbrev s_X12_beats_mods : List (Nat × Option Nat) := [(122, some 0)]
noncomputable def s_X12_beats (M : fM) (l1 l2 : Int) : Option (Int × fM) :=
  (s_X12_isIn (fup M 122 0 0) l1 0 11).bind fun y9 =>
    if y9 = 0 then
      some ((-1), (fup M 122 0 0))
    else
      (s_X12_isIn (fup M 122 0 0) l2 0 3).bind fun y18 =>
        if y18 = 0 then
          some ((-1), (fup M 122 0 0))
        else
          if ¬ (M 124 0) = 1 then
            some ((-1), (fup M 122 0 0))
          else
            (s_X12_beatsOf (fup M 122 0 0) l1 l2).bind fun y37 =>
              some (y37, (fup M 122 0 0))
theorem s_X12_beats_ok {d L : Nat} {M : fM} {l1 l2 : Int} {r : (Int × fM)} {Q : fO → fH → Prop} (h : s_X12_beats M l1 l2 = some r) (H : Q (oI r.1) (156, fjl L, r.2)) : Wp (d + 2, 249, 0, 0, 0, [some (fA 122), some (fI l1), some (fI l2)], []) (156, fjl L, M) Q := by
  unfold s_X12_beats at h
  refine Wp.run 6 (f' := (d + 2, 249, 9, 0, 0, [some (fA 122), some (fI l1), some (fI l2)], [fI 11, fI 0, fI l1])) (h' := (156, fjl L, (fup M 122 0 0))) rfl trivial ?_
  obtain ⟨y9, hy, h⟩ := fbd h
  refine Wp.call rfl (by decide) (s_X12_isIn_ok (d := d + 1) hy ?_)
  show Wp (d + 2, 249, 12, 0, 0, [some (fA 122), some (fI l1), some (fI l2)], [fI y9]) (156, fjl L, (fup M 122 0 0)) Q
  refine Wp.br rfl (fun (c : y9 = 0) => ?_) (fun (c : ¬ (y9 = 0)) => ?_)
  · replace h := fps c h
    refine Wp.run 1 (f' := (d + 2, 249, 44, 0, 0, [_, _, _], [fI (-1)])) (h' := (156, fjl L, (fup M 122 0 0))) rfl trivial ?_
    obtain rfl := Option.some.inj h
    exact Wp.done rfl (by decide) H
  · replace h := fng c h
    refine Wp.run 3 (f' := (d + 2, 249, 18, 0, 0, [some (fA 122), some (fI l1), some (fI l2)], [fI 3, fI 0, fI l2])) (h' := (156, fjl L, (fup M 122 0 0))) rfl trivial ?_
    obtain ⟨y18, hy, h⟩ := fbd h
    refine Wp.call rfl (by decide) (s_X12_isIn_ok (d := d + 1) hy ?_)
    show Wp (d + 2, 249, 21, 0, 0, [some (fA 122), some (fI l1), some (fI l2)], [fI y18]) (156, fjl L, (fup M 122 0 0)) Q
    refine Wp.br rfl (fun (c : y18 = 0) => ?_) (fun (c : ¬ (y18 = 0)) => ?_)
    · replace h := fps c h
      refine Wp.run 1 (f' := (d + 2, 249, 44, 0, 0, [_, _, _], [fI (-1)])) (h' := (156, fjl L, (fup M 122 0 0))) rfl trivial ?_
      obtain rfl := Option.some.inj h
      exact Wp.done rfl (by decide) H
    · replace h := fng c h
      refine Wp.run 5 (P := [(0 : Int) ≤ 0 ∧ (0 : Int) < 1290]) (f' := (d + 2, 249, 31, 0, 0, [some (fA 122), some (fI l1), some (fI l2)], [fI 1, fI (M 124 0)])) (h' := (156, fjl L, (fup M 122 0 0))) rfl ?_ ?_
      · exact (by decide : (0 : Int) ≤ 0 ∧ (0 : Int) < 1290)
      refine Wp.br rfl (fun (c : ¬ (M 124 0) = 1) => ?_) (fun (c : ¬ (¬ (M 124 0) = 1)) => ?_)
      · replace h := fps c h
        refine Wp.run 1 (f' := (d + 2, 249, 44, 0, 0, [_, _, _], [fI (-1)])) (h' := (156, fjl L, (fup M 122 0 0))) rfl trivial ?_
        obtain rfl := Option.some.inj h
        exact Wp.done rfl (by decide) H
      · replace h := fng c h
        refine Wp.run 3 (f' := (d + 2, 249, 37, 0, 0, [_, _, _], [fI l2, fI l1, fA 122])) (h' := (156, fjl L, (fup M 122 0 0))) rfl trivial ?_
        obtain ⟨y37, hy, h⟩ := fbd h
        refine Wp.call rfl (by decide) (s_X12_beatsOf_ok (d := d + 0) hy ?_)
        show Wp (d + 2, 249, 40, 0, 0, [_, _, _], [fI y37]) (156, fjl L, (fup M 122 0 0)) Q
        refine Wp.run 1 (f' := (d + 2, 249, 44, 0, 0, [_, _, _], [fI y37])) (h' := (156, fjl L, (fup M 122 0 0))) rfl trivial ?_
        obtain rfl := Option.some.inj h
        exact Wp.done rfl (by decide) H
theorem s_X12_beats_fr {M : fM} {l1 l2 : Int} {r : (Int × fM)} (h : s_X12_beats M l1 l2 = some r) : fSame s_X12_beats_mods M r.2 := by
  unfold s_X12_beats at h
  obtain ⟨y9, hy, h⟩ := fbd h
  by_cases c : y9 = 0
  · replace h := fps c h
    obtain rfl := Option.some.inj h
    exact fs_up fs_refl (.inr (by decide))
  · replace h := fng c h
    obtain ⟨y18, hy, h⟩ := fbd h
    by_cases c : y18 = 0
    · replace h := fps c h
      obtain rfl := Option.some.inj h
      exact fs_up fs_refl (.inr (by decide))
    · replace h := fng c h
      by_cases c : ¬ (M 124 0) = 1
      · replace h := fps c h
        obtain rfl := Option.some.inj h
        exact fs_up fs_refl (.inr (by decide))
      · replace h := fng c h
        obtain ⟨y37, hy, h⟩ := fbd h
        obtain rfl := Option.some.inj h
        exact fs_up fs_refl (.inr (by decide))
noncomputable def s_X2_wildest_4_b4 (M : fM) (l1 l2 l3 : Int) : Option ((Int × Int) ⊕ Int) :=
  if 12 ≤ l3 then
    some (.inr l2)
  else
    (s_X2_beatsOf_4 M l3 l1).bind fun y13 =>
      (s_X2_beatsOf_4 M l2 l1).bind fun y19 =>
        if y13 ≤ y19 then
          if fin (l3 + 1) then
            some (.inl (l2, (l3 + 1)))
          else none
        else
          if fin (l3 + 1) then
            some (.inl (l3, (l3 + 1)))
          else none
theorem s_X2_wildest_4_b4_ok {d L : Nat} {M : fM} {l1 l2 l3 : Int} {r : ((Int × Int) ⊕ Int)} {Q : fO → fH → Prop} (h : s_X2_wildest_4_b4 M l1 l2 l3 = some r) (hC : ∀ (l2' l3' : Int), r = .inl (l2', l3') → Wp (d + 2, 45, 4, 0, 0, [some (fA 4), some (fI l1), some (fI l2'), some (fI l3')], []) (156, fjl L, M) Q) (hE : ∀ (e : Int) (o0' o1' o3' : Option fV), r = .inr e → Wp (d + 2, 45, 33, 0, 0, [o0', o1', some (fI e), o3'], []) (156, fjl L, M) Q) : Wp (d + 2, 45, 4, 0, 0, [some (fA 4), some (fI l1), some (fI l2), some (fI l3)], []) (156, fjl L, M) Q := by
  unfold s_X2_wildest_4_b4 at h
  refine Wp.run 2 (f' := (d + 2, 45, 7, 0, 0, [some (fA 4), some (fI l1), some (fI l2), some (fI l3)], [fI 12, fI l3])) (h' := (156, fjl L, M)) rfl trivial ?_
  refine Wp.br rfl (fun (c : 12 ≤ l3) => ?_) (fun (c : ¬ (12 ≤ l3)) => ?_)
  · replace h := fps c h
    exact hE _ _ _ _ (Option.some.inj h).symm
  · replace h := fng c h
    refine Wp.run 3 (f' := (d + 2, 45, 13, 0, 0, [some (fA 4), some (fI l1), some (fI l2), some (fI l3)], [fI l1, fI l3, fA 4])) (h' := (156, fjl L, M)) rfl trivial ?_
    obtain ⟨y13, hy, h⟩ := fbd h
    refine Wp.call rfl (by decide) (s_X2_beatsOf_4_ok (d := d + 0) hy ?_)
    show Wp (d + 2, 45, 16, 0, 0, [some (fA 4), some (fI l1), some (fI l2), some (fI l3)], [fI y13]) (156, fjl L, M) Q
    refine Wp.run 3 (f' := (d + 2, 45, 19, 0, 0, [some (fA 4), some (fI l1), some (fI l2), some (fI l3)], [fI l1, fI l2, fA 4, fI y13])) (h' := (156, fjl L, M)) rfl trivial ?_
    obtain ⟨y19, hy, h⟩ := fbd h
    refine Wp.call rfl (by decide) (s_X2_beatsOf_4_ok (d := d + 0) hy ?_)
    show Wp (d + 2, 45, 22, 0, 0, [some (fA 4), some (fI l1), some (fI l2), some (fI l3)], [fI y19, fI y13]) (156, fjl L, M) Q
    refine Wp.br rfl (fun (c : y13 ≤ y19) => ?_) (fun (c : ¬ (y13 ≤ y19)) => ?_)
    · replace h := fps c h
      obtain ⟨g0, h⟩ := fgd h
      refine Wp.run 2 (f' := (d + 2, 45, 4, 0, 0, [some (fA 4), some (fI l1), some (fI l2), some (fI (fw (l3 + 1)))], [])) (h' := (156, fjl L, M)) rfl trivial ?_
      rw [fw_id g0]
      exact hC _ _ (Option.some.inj h).symm
    · replace h := fng c h
      obtain ⟨g0, h⟩ := fgd h
      refine Wp.run 4 (f' := (d + 2, 45, 4, 0, 0, [some (fA 4), some (fI l1), some (fI l3), some (fI (fw (l3 + 1)))], [])) (h' := (156, fjl L, M)) rfl trivial ?_
      rw [fw_id g0]
      exact hC _ _ (Option.some.inj h).symm
noncomputable def s_X2_wildest_4_l4 (M : fM) (l1 : Int) (s : (Int × Int)) : Option Int := fLp (fun s => s_X2_wildest_4_b4 M l1 s.1 s.2) s
theorem s_X2_wildest_4_l4_ok {d L : Nat} {M : fM} {l1 l2 l3 : Int} {r : Int} {Q : fO → fH → Prop} (h : s_X2_wildest_4_l4 M l1 (l2, l3) = some r) (hE : ∀ (e : Int) (o0' o1' o3' : Option fV), r = e → Wp (d + 2, 45, 33, 0, 0, [o0', o1', some (fI e), o3'], []) (156, fjl L, M) Q) : Wp (d + 2, 45, 4, 0, 0, [some (fA 4), some (fI l1), some (fI l2), some (fI l3)], []) (156, fjl L, M) Q := by
  refine fLp_wp (W := fun s => Wp (d + 2, 45, 4, 0, 0, [some (fA 4), some (fI l1), some (fI s.1), some (fI s.2)], []) (156, fjl L, M) Q) (e := r) ?_ h
  intro s r1 h hC hX
  refine s_X2_wildest_4_b4_ok (d := d) h (fun a0 a1 e1 => ?_) (fun e u0 u1 u2 e1 => hE e u0 u1 u2 (hX _ e1).symm)
  exact hC _ e1
noncomputable def s_X2_wildest_4 (M : fM) (l1 : Int) : Option Int :=
  (s_X2_wildest_4_l4 M l1 (0, 1)).bind fun e4 =>
    some e4
theorem s_X2_wildest_4_ok {d L : Nat} {M : fM} {l1 : Int} {r : Int} {Q : fO → fH → Prop} (h : s_X2_wildest_4 M l1 = some r) (H : Q (oI r) (156, fjl L, M)) : Wp (d + 2, 45, 0, 0, 0, [some (fA 4), some (fI l1), none, none], []) (156, fjl L, M) Q := by
  unfold s_X2_wildest_4 at h
  refine Wp.run 4 (f' := (d + 2, 45, 4, 0, 0, [some (fA 4), some (fI l1), some (fI 0), some (fI 1)], [])) (h' := (156, fjl L, M)) rfl trivial ?_
  obtain ⟨e4, hy, h⟩ := fbd h
  refine s_X2_wildest_4_l4_ok hy (fun x u0 u1 u3 ex => ?_)
  cases ex
  show Wp (d + 2, 45, 33, 0, 0, [u0, u1, some (fI e4), u3], []) (156, fjl L, M) Q
  refine Wp.run 1 (f' := (d + 2, 45, 34, 0, 0, [_, _, _, _], [fI e4])) (h' := (156, fjl L, M)) rfl trivial ?_
  obtain rfl := Option.some.inj h
  exact Wp.done rfl (by decide) H
noncomputable def s_X11_wolf (M : fM) (l1 : Int) : Option Int :=
  (s_X11_isWithin M l1 4).bind fun y2 =>
    if y2 = 0 then
      some (-1)
    else
      (s_X2_hasTable_4 M).bind fun y12 =>
        if ¬ y12 = 0 then
          (s_X2_wildest_4 M l1).bind fun y25 =>
            some y25
        else
          some (-1)
theorem s_X11_wolf_ok {d L : Nat} {M : fM} {l1 : Int} {r : Int} {Q : fO → fH → Prop} (h : s_X11_wolf M l1 = some r) (H : Q (oI r) (156, fjl L, M)) : Wp (d + 3, 159, 0, 0, 0, [some (fA 0), some (fI l1)], []) (156, fjl L, M) Q := by
  unfold s_X11_wolf at h
  refine Wp.run 2 (f' := (d + 3, 159, 2, 0, 0, [some (fA 0), some (fI l1)], [fI 4, fI l1])) (h' := (156, fjl L, M)) rfl trivial ?_
  obtain ⟨y2, hy, h⟩ := fbd h
  refine Wp.call rfl (by decide) (s_X11_isWithin_ok (d := d + 2) hy ?_)
  show Wp (d + 3, 159, 5, 0, 0, [some (fA 0), some (fI l1)], [fI y2]) (156, fjl L, M) Q
  refine Wp.br rfl (fun (c : y2 = 0) => ?_) (fun (c : ¬ (y2 = 0)) => ?_)
  · replace h := fps c h
    refine Wp.run 1 (f' := (d + 3, 159, 19, 0, 0, [_, _], [fI (-1)])) (h' := (156, fjl L, M)) rfl trivial ?_
    obtain rfl := Option.some.inj h
    exact Wp.done rfl (by decide) H
  · replace h := fng c h
    refine Wp.run 2 (f' := (d + 3, 159, 12, 0, 0, [some (fA 0), some (fI l1)], [fA 4])) (h' := (156, fjl L, M)) rfl trivial ?_
    obtain ⟨y12, hy, h⟩ := fbd h
    refine Wp.call rfl (by decide) (s_X2_hasTable_4_ok (d := d + 2) hy ?_)
    show Wp (d + 3, 159, 15, 0, 0, [some (fA 0), some (fI l1)], [fI y12]) (156, fjl L, M) Q
    refine Wp.br rfl (fun (c : ¬ y12 = 0) => ?_) (fun (c : ¬ (¬ y12 = 0)) => ?_)
    · replace h := fps c h
      refine Wp.run 3 (f' := (d + 3, 159, 25, 0, 0, [_, _], [fI l1, fA 4])) (h' := (156, fjl L, M)) rfl trivial ?_
      obtain ⟨y25, hy, h⟩ := fbd h
      refine Wp.call rfl (by decide) (s_X2_wildest_4_ok (d := d + 0) hy ?_)
      show Wp (d + 3, 159, 28, 0, 0, [_, _], [fI y25]) (156, fjl L, M) Q
      obtain rfl := Option.some.inj h
      exact Wp.done rfl (by decide) H
    · replace h := fng c h
      refine Wp.run 1 (f' := (d + 3, 159, 19, 0, 0, [_, _], [fI (-1)])) (h' := (156, fjl L, M)) rfl trivial ?_
      obtain rfl := Option.some.inj h
      exact Wp.done rfl (by decide) H
abbrev s_X12_wolf_mods : List (Nat × Option Nat) := [(122, some 0)]
noncomputable def s_X12_wolf_b29 (M : fM) (l1 l2 l3 : Int) : Option ((Int × Int) ⊕ Int) :=
  if 12 ≤ l3 then
    some (.inr l2)
  else
    (s_X12_beatsOf M l3 l1).bind fun y38 =>
      (s_X12_beatsOf M l2 l1).bind fun y44 =>
        if y38 ≤ y44 then
          if fin (l3 + 1) then
            some (.inl (l2, (l3 + 1)))
          else none
        else
          if fin (l3 + 1) then
            some (.inl (l3, (l3 + 1)))
          else none
theorem s_X12_wolf_b29_ok {d L : Nat} {M : fM} {l1 l2 l3 : Int} {r : ((Int × Int) ⊕ Int)} {Q : fO → fH → Prop} (h : s_X12_wolf_b29 M l1 l2 l3 = some r) (hC : ∀ (l2' l3' : Int), r = .inl (l2', l3') → Wp (d + 2, 250, 29, 0, 0, [some (fA 122), some (fI l1), some (fI l2'), some (fI l3')], []) (156, fjl L, M) Q) (hE : ∀ (e : Int) (o0' o1' o3' : Option fV), r = .inr e → Wp (d + 2, 250, 62, 0, 0, [o0', o1', some (fI e), o3'], []) (156, fjl L, M) Q) : Wp (d + 2, 250, 29, 0, 0, [some (fA 122), some (fI l1), some (fI l2), some (fI l3)], []) (156, fjl L, M) Q := by
  unfold s_X12_wolf_b29 at h
  refine Wp.run 2 (f' := (d + 2, 250, 32, 0, 0, [some (fA 122), some (fI l1), some (fI l2), some (fI l3)], [fI 12, fI l3])) (h' := (156, fjl L, M)) rfl trivial ?_
  refine Wp.br rfl (fun (c : 12 ≤ l3) => ?_) (fun (c : ¬ (12 ≤ l3)) => ?_)
  · replace h := fps c h
    exact hE _ _ _ _ (Option.some.inj h).symm
  · replace h := fng c h
    refine Wp.run 3 (f' := (d + 2, 250, 38, 0, 0, [some (fA 122), some (fI l1), some (fI l2), some (fI l3)], [fI l1, fI l3, fA 122])) (h' := (156, fjl L, M)) rfl trivial ?_
    obtain ⟨y38, hy, h⟩ := fbd h
    refine Wp.call rfl (by decide) (s_X12_beatsOf_ok (d := d + 0) hy ?_)
    show Wp (d + 2, 250, 41, 0, 0, [some (fA 122), some (fI l1), some (fI l2), some (fI l3)], [fI y38]) (156, fjl L, M) Q
    refine Wp.run 3 (f' := (d + 2, 250, 44, 0, 0, [some (fA 122), some (fI l1), some (fI l2), some (fI l3)], [fI l1, fI l2, fA 122, fI y38])) (h' := (156, fjl L, M)) rfl trivial ?_
    obtain ⟨y44, hy, h⟩ := fbd h
    refine Wp.call rfl (by decide) (s_X12_beatsOf_ok (d := d + 0) hy ?_)
    show Wp (d + 2, 250, 47, 0, 0, [some (fA 122), some (fI l1), some (fI l2), some (fI l3)], [fI y44, fI y38]) (156, fjl L, M) Q
    refine Wp.br rfl (fun (c : y38 ≤ y44) => ?_) (fun (c : ¬ (y38 ≤ y44)) => ?_)
    · replace h := fps c h
      obtain ⟨g0, h⟩ := fgd h
      refine Wp.run 4 (f' := (d + 2, 250, 29, 0, 0, [some (fA 122), some (fI l1), some (fI l2), some (fI (fw (l3 + 1)))], [])) (h' := (156, fjl L, M)) rfl trivial ?_
      rw [fw_id g0]
      exact hC _ _ (Option.some.inj h).symm
    · replace h := fng c h
      obtain ⟨g0, h⟩ := fgd h
      refine Wp.run 5 (f' := (d + 2, 250, 29, 0, 0, [some (fA 122), some (fI l1), some (fI l3), some (fI (fw (l3 + 1)))], [])) (h' := (156, fjl L, M)) rfl trivial ?_
      rw [fw_id g0]
      exact hC _ _ (Option.some.inj h).symm
theorem s_X12_wolf_b29_fr {M : fM} {l1 l2 l3 : Int} {r : ((Int × Int) ⊕ Int)} (h : s_X12_wolf_b29 M l1 l2 l3 = some r) : fSame s_X12_wolf_mods M (Sum.elim (fun _ => M) (fun _ => M) r) := by
  unfold s_X12_wolf_b29 at h
  by_cases c : 12 ≤ l3
  · replace h := fps c h
    obtain rfl := Option.some.inj h
    exact fs_refl
  · replace h := fng c h
    obtain ⟨y38, hy, h⟩ := fbd h
    obtain ⟨y44, hy, h⟩ := fbd h
    by_cases c : y38 ≤ y44
    · replace h := fps c h
      replace h := (fgd h).2
      obtain rfl := Option.some.inj h
      exact fs_refl
    · replace h := fng c h
      replace h := (fgd h).2
      obtain rfl := Option.some.inj h
      exact fs_refl
noncomputable def s_X12_wolf_l29 (M : fM) (l1 : Int) (s : (Int × Int)) : Option Int := fLp (fun s => s_X12_wolf_b29 M l1 s.1 s.2) s
theorem s_X12_wolf_l29_ok {d L : Nat} {M : fM} {l1 l2 l3 : Int} {r : Int} {Q : fO → fH → Prop} (h : s_X12_wolf_l29 M l1 (l2, l3) = some r) (hE : ∀ (e : Int) (o0' o1' o3' : Option fV), r = e → Wp (d + 2, 250, 62, 0, 0, [o0', o1', some (fI e), o3'], []) (156, fjl L, M) Q) : Wp (d + 2, 250, 29, 0, 0, [some (fA 122), some (fI l1), some (fI l2), some (fI l3)], []) (156, fjl L, M) Q := by
  refine fLp_wp (W := fun s => Wp (d + 2, 250, 29, 0, 0, [some (fA 122), some (fI l1), some (fI s.1), some (fI s.2)], []) (156, fjl L, M) Q) (e := r) ?_ h
  intro s r1 h hC hX
  refine s_X12_wolf_b29_ok (d := d) h (fun a0 a1 e1 => ?_) (fun e u0 u1 u2 e1 => hE e u0 u1 u2 (hX _ e1).symm)
  exact hC _ e1
noncomputable def s_X12_wolf (M : fM) (l1 : Int) : Option (Int × fM) :=
  (s_X12_isIn (fup M 122 0 0) l1 0 3).bind fun y8 =>
    if y8 = 0 then
      some ((-1), (fup M 122 0 0))
    else
      if ¬ (M 124 0) = 0 then
        (s_X12_wolf_l29 (fup M 122 0 0) l1 (0, 1)).bind fun e29 =>
          some (e29, (fup M 122 0 0))
      else
        some ((-1), (fup M 122 0 0))
theorem s_X12_wolf_ok {d L : Nat} {M : fM} {l1 : Int} {r : (Int × fM)} {Q : fO → fH → Prop} (h : s_X12_wolf M l1 = some r) (H : Q (oI r.1) (156, fjl L, r.2)) : Wp (d + 2, 250, 0, 0, 0, [some (fA 122), some (fI l1), none, none], []) (156, fjl L, M) Q := by
  unfold s_X12_wolf at h
  refine Wp.run 6 (f' := (d + 2, 250, 8, 0, 0, [some (fA 122), some (fI l1), _, _], [fI 3, fI 0, fI l1])) (h' := (156, fjl L, (fup M 122 0 0))) rfl trivial ?_
  obtain ⟨y8, hy, h⟩ := fbd h
  refine Wp.call rfl (by decide) (s_X12_isIn_ok (d := d + 1) hy ?_)
  show Wp (d + 2, 250, 11, 0, 0, [some (fA 122), some (fI l1), _, _], [fI y8]) (156, fjl L, (fup M 122 0 0)) Q
  refine Wp.br rfl (fun (c : y8 = 0) => ?_) (fun (c : ¬ (y8 = 0)) => ?_)
  · replace h := fps c h
    refine Wp.run 1 (f' := (d + 2, 250, 24, 0, 0, [_, _, _, _], [fI (-1)])) (h' := (156, fjl L, (fup M 122 0 0))) rfl trivial ?_
    obtain rfl := Option.some.inj h
    exact Wp.done rfl (by decide) H
  · replace h := fng c h
    refine Wp.run 4 (P := [(0 : Int) ≤ 0 ∧ (0 : Int) < 1290]) (f' := (d + 2, 250, 20, 0, 0, [some (fA 122), some (fI l1), _, _], [fI (M 124 0)])) (h' := (156, fjl L, (fup M 122 0 0))) rfl ?_ ?_
    · exact (by decide : (0 : Int) ≤ 0 ∧ (0 : Int) < 1290)
    refine Wp.br rfl (fun (c : ¬ (M 124 0) = 0) => ?_) (fun (c : ¬ (¬ (M 124 0) = 0)) => ?_)
    · replace h := fps c h
      refine Wp.run 4 (f' := (d + 2, 250, 29, 0, 0, [some (fA 122), some (fI l1), some (fI 0), some (fI 1)], [])) (h' := (156, fjl L, (fup M 122 0 0))) rfl trivial ?_
      obtain ⟨e29, hy, h⟩ := fbd h
      refine s_X12_wolf_l29_ok hy (fun x u0 u1 u3 ex => ?_)
      cases ex
      show Wp (d + 2, 250, 62, 0, 0, [u0, u1, some (fI e29), u3], []) (156, fjl L, (fup M 122 0 0)) Q
      refine Wp.run 1 (f' := (d + 2, 250, 63, 0, 0, [_, _, _, _], [fI e29])) (h' := (156, fjl L, (fup M 122 0 0))) rfl trivial ?_
      obtain rfl := Option.some.inj h
      exact Wp.done rfl (by decide) H
    · replace h := fng c h
      refine Wp.run 1 (f' := (d + 2, 250, 24, 0, 0, [_, _, _, _], [fI (-1)])) (h' := (156, fjl L, (fup M 122 0 0))) rfl trivial ?_
      obtain rfl := Option.some.inj h
      exact Wp.done rfl (by decide) H
theorem s_X12_wolf_fr {M : fM} {l1 : Int} {r : (Int × fM)} (h : s_X12_wolf M l1 = some r) : fSame s_X12_wolf_mods M r.2 := by
  unfold s_X12_wolf at h
  obtain ⟨y8, hy, h⟩ := fbd h
  by_cases c : y8 = 0
  · replace h := fps c h
    obtain rfl := Option.some.inj h
    exact fs_up fs_refl (.inr (by decide))
  · replace h := fng c h
    by_cases c : ¬ (M 124 0) = 0
    · replace h := fps c h
      obtain ⟨e29, hy, h⟩ := fbd h
      obtain rfl := Option.some.inj h
      exact fs_up fs_refl (.inr (by decide))
    · replace h := fng c h
      obtain rfl := Option.some.inj h
      exact fs_up fs_refl (.inr (by decide))
noncomputable def s_X11_isKnowing (M : fM) (l0 : Int) : Option Int :=
  if l0 = (-1) then
    some 1
  else
    (s_X11_isWithin M l0 364).bind fun y9 =>
      if y9 = 0 then
        some 0
      else
        some 1
theorem s_X11_isKnowing_ok {d L : Nat} {M : fM} {l0 : Int} {r : Int} {Q : fO → fH → Prop} (h : s_X11_isKnowing M l0 = some r) (H : Q (oI r) (156, fjl L, M)) : Wp (d + 1, 191, 0, 0, 0, [some (fI l0)], []) (156, fjl L, M) Q := by
  unfold s_X11_isKnowing at h
  refine Wp.run 2 (f' := (d + 1, 191, 2, 0, 0, [some (fI l0)], [fI (-1), fI l0])) (h' := (156, fjl L, M)) rfl trivial ?_
  refine Wp.br rfl (fun (c : l0 = (-1)) => ?_) (fun (c : ¬ (l0 = (-1))) => ?_)
  · replace h := fps c h
    refine Wp.run 2 (f' := (d + 1, 191, 20, 0, 0, [_], [fI 1])) (h' := (156, fjl L, M)) rfl trivial ?_
    obtain rfl := Option.some.inj h
    exact Wp.done rfl (by decide) H
  · replace h := fng c h
    refine Wp.run 2 (f' := (d + 1, 191, 9, 0, 0, [_], [fI 364, fI l0])) (h' := (156, fjl L, M)) rfl trivial ?_
    obtain ⟨y9, hy, h⟩ := fbd h
    refine Wp.call rfl (by decide) (s_X11_isWithin_ok (d := d + 0) hy ?_)
    show Wp (d + 1, 191, 12, 0, 0, [_], [fI y9]) (156, fjl L, M) Q
    refine Wp.br rfl (fun (c : y9 = 0) => ?_) (fun (c : ¬ (y9 = 0)) => ?_)
    · replace h := fps c h
      refine Wp.run 1 (f' := (d + 1, 191, 20, 0, 0, [_], [fI 0])) (h' := (156, fjl L, M)) rfl trivial ?_
      obtain rfl := Option.some.inj h
      exact Wp.done rfl (by decide) H
    · replace h := fng c h
      refine Wp.run 2 (f' := (d + 1, 191, 20, 0, 0, [_], [fI 1])) (h' := (156, fjl L, M)) rfl trivial ?_
      obtain rfl := Option.some.inj h
      exact Wp.done rfl (by decide) H
noncomputable def s_X11_isAsked (M : fM) (l1 l2 l3 : Int) : Option Int :=
  (s_X2_hasPiano_4 M l1).bind fun y5 =>
    if y5 = 0 then
      some 0
    else
      (s_X11_isWithin M l2 364).bind fun y15 =>
        if y15 = 0 then
          some 0
        else
          (s_X11_isKnowing M l3).bind fun y22 =>
            if y22 = 0 then
              some 0
            else
              some 1
theorem s_X11_isAsked_ok {d L : Nat} {M : fM} {l1 l2 l3 : Int} {r : Int} {Q : fO → fH → Prop} (h : s_X11_isAsked M l1 l2 l3 = some r) (H : Q (oI r) (156, fjl L, M)) : Wp (d + 2, 190, 0, 0, 0, [some (fA 0), some (fI l1), some (fI l2), some (fI l3)], []) (156, fjl L, M) Q := by
  unfold s_X11_isAsked at h
  refine Wp.run 3 (f' := (d + 2, 190, 5, 0, 0, [_, _, some (fI l2), some (fI l3)], [fI l1, fA 4])) (h' := (156, fjl L, M)) rfl trivial ?_
  obtain ⟨y5, hy, h⟩ := fbd h
  refine Wp.call rfl (by decide) (s_X2_hasPiano_4_ok (d := d + 1) hy ?_)
  show Wp (d + 2, 190, 8, 0, 0, [_, _, some (fI l2), some (fI l3)], [fI y5]) (156, fjl L, M) Q
  refine Wp.br rfl (fun (c : y5 = 0) => ?_) (fun (c : ¬ (y5 = 0)) => ?_)
  · replace h := fps c h
    refine Wp.run 1 (f' := (d + 2, 190, 33, 0, 0, [_, _, _, _], [fI 0])) (h' := (156, fjl L, M)) rfl trivial ?_
    obtain rfl := Option.some.inj h
    exact Wp.done rfl (by decide) H
  · replace h := fng c h
    refine Wp.run 2 (f' := (d + 2, 190, 15, 0, 0, [_, _, _, some (fI l3)], [fI 364, fI l2])) (h' := (156, fjl L, M)) rfl trivial ?_
    obtain ⟨y15, hy, h⟩ := fbd h
    refine Wp.call rfl (by decide) (s_X11_isWithin_ok (d := d + 1) hy ?_)
    show Wp (d + 2, 190, 18, 0, 0, [_, _, _, some (fI l3)], [fI y15]) (156, fjl L, M) Q
    refine Wp.br rfl (fun (c : y15 = 0) => ?_) (fun (c : ¬ (y15 = 0)) => ?_)
    · replace h := fps c h
      refine Wp.run 1 (f' := (d + 2, 190, 33, 0, 0, [_, _, _, _], [fI 0])) (h' := (156, fjl L, M)) rfl trivial ?_
      obtain rfl := Option.some.inj h
      exact Wp.done rfl (by decide) H
    · replace h := fng c h
      refine Wp.run 1 (f' := (d + 2, 190, 22, 0, 0, [_, _, _, _], [fI l3])) (h' := (156, fjl L, M)) rfl trivial ?_
      obtain ⟨y22, hy, h⟩ := fbd h
      refine Wp.call rfl (by decide) (s_X11_isKnowing_ok (d := d + 0) hy ?_)
      show Wp (d + 2, 190, 25, 0, 0, [_, _, _, _], [fI y22]) (156, fjl L, M) Q
      refine Wp.br rfl (fun (c : y22 = 0) => ?_) (fun (c : ¬ (y22 = 0)) => ?_)
      · replace h := fps c h
        refine Wp.run 1 (f' := (d + 2, 190, 33, 0, 0, [_, _, _, _], [fI 0])) (h' := (156, fjl L, M)) rfl trivial ?_
        obtain rfl := Option.some.inj h
        exact Wp.done rfl (by decide) H
      · replace h := fng c h
        refine Wp.run 2 (f' := (d + 2, 190, 33, 0, 0, [_, _, _, _], [fI 1])) (h' := (156, fjl L, M)) rfl trivial ?_
        obtain rfl := Option.some.inj h
        exact Wp.done rfl (by decide) H
noncomputable def s_X6_isOf_18 (M : fM) (l1 l2 l3 l4 : Int) : Option Int :=
  if (0 ≤ l1 ∧ l1 < 200) then
    if ¬ (M 19 (l1).toNat) = l2 then
      some 0
    else
      if (0 ≤ l1 ∧ l1 < 200) then
        if ¬ (M 20 (l1).toNat) = l3 then
          some 0
        else
          if l4 = (-1) then
            some 1
          else
            if (0 ≤ l1 ∧ l1 < 200) then
              if l4 < (M 22 (l1).toNat) then
                some 0
              else
                some 1
            else none
      else none
  else none
theorem s_X6_isOf_18_ok {d L : Nat} {M : fM} {l1 l2 l3 l4 : Int} {r : Int} {Q : fO → fH → Prop} (h : s_X6_isOf_18 M l1 l2 l3 l4 = some r) (H : Q (oI r) (156, fjl L, M)) : Wp (d + 0, 82, 0, 0, 0, [some (fA 18), some (fI l1), some (fI l2), some (fI l3), some (fI l4)], []) (156, fjl L, M) Q := by
  unfold s_X6_isOf_18 at h
  obtain ⟨g0, h⟩ := fgd h
  refine Wp.run 5 (P := [0 ≤ l1 ∧ l1 < 200]) (f' := (d + 0, 82, 7, 0, 0, [some (fA 18), some (fI l1), _, some (fI l3), some (fI l4)], [fI l2, fI (M 19 (l1).toNat)])) (h' := (156, fjl L, M)) rfl ?_ ?_
  · exact g0
  refine Wp.br rfl (fun (c : ¬ (M 19 (l1).toNat) = l2) => ?_) (fun (c : ¬ (¬ (M 19 (l1).toNat) = l2)) => ?_)
  · replace h := fps c h
    refine Wp.run 1 (f' := (d + 0, 82, 42, 0, 0, [_, _, _, _, _], [fI 0])) (h' := (156, fjl L, M)) rfl trivial ?_
    obtain rfl := Option.some.inj h
    exact Wp.done rfl (by decide) H
  · replace h := fng c h
    obtain ⟨g0, h⟩ := fgd h
    refine Wp.run 5 (P := [0 ≤ l1 ∧ l1 < 200]) (f' := (d + 0, 82, 17, 0, 0, [some (fA 18), some (fI l1), _, _, some (fI l4)], [fI l3, fI (M 20 (l1).toNat)])) (h' := (156, fjl L, M)) rfl ?_ ?_
    · exact g0
    refine Wp.br rfl (fun (c : ¬ (M 20 (l1).toNat) = l3) => ?_) (fun (c : ¬ (¬ (M 20 (l1).toNat) = l3)) => ?_)
    · replace h := fps c h
      refine Wp.run 1 (f' := (d + 0, 82, 42, 0, 0, [_, _, _, _, _], [fI 0])) (h' := (156, fjl L, M)) rfl trivial ?_
      obtain rfl := Option.some.inj h
      exact Wp.done rfl (by decide) H
    · replace h := fng c h
      refine Wp.run 2 (f' := (d + 0, 82, 23, 0, 0, [some (fA 18), some (fI l1), _, _, some (fI l4)], [fI (-1), fI l4])) (h' := (156, fjl L, M)) rfl trivial ?_
      refine Wp.br rfl (fun (c : l4 = (-1)) => ?_) (fun (c : ¬ (l4 = (-1))) => ?_)
      · replace h := fps c h
        refine Wp.run 2 (f' := (d + 0, 82, 42, 0, 0, [_, _, _, _, _], [fI 1])) (h' := (156, fjl L, M)) rfl trivial ?_
        obtain rfl := Option.some.inj h
        exact Wp.done rfl (by decide) H
      · replace h := fng c h
        obtain ⟨g0, h⟩ := fgd h
        refine Wp.run 5 (P := [0 ≤ l1 ∧ l1 < 200]) (f' := (d + 0, 82, 34, 0, 0, [_, _, _, _, _], [fI l4, fI (M 22 (l1).toNat)])) (h' := (156, fjl L, M)) rfl ?_ ?_
        · exact g0
        refine Wp.br rfl (fun (c : l4 < (M 22 (l1).toNat)) => ?_) (fun (c : ¬ (l4 < (M 22 (l1).toNat))) => ?_)
        · replace h := fps c h
          refine Wp.run 1 (f' := (d + 0, 82, 42, 0, 0, [_, _, _, _, _], [fI 0])) (h' := (156, fjl L, M)) rfl trivial ?_
          obtain rfl := Option.some.inj h
          exact Wp.done rfl (by decide) H
        · replace h := fng c h
          refine Wp.run 2 (f' := (d + 0, 82, 42, 0, 0, [_, _, _, _, _], [fI 1])) (h' := (156, fjl L, M)) rfl trivial ?_
          obtain rfl := Option.some.inj h
          exact Wp.done rfl (by decide) H
noncomputable def s_X6_latest_18_b6 (M : fM) (l1 l2 l3 l4 l5 l6 : Int) : Option ((Int × Int) ⊕ Int) :=
  if (M 18 8) ≤ l6 then
    some (.inr l5)
  else
    (s_X6_isOf_18 M l6 l1 l2 l4).bind fun y22 =>
      if y22 = 0 then
        if fin (l6 + 1) then
          some (.inl (l5, (l6 + 1)))
        else none
      else
        if (0 ≤ l6 ∧ l6 < 200) then
          if l3 < (M 21 (l6).toNat) then
            if fin (l6 + 1) then
              some (.inl (l5, (l6 + 1)))
            else none
          else
            if l5 < 0 then
              if fin (l6 + 1) then
                some (.inl (l6, (l6 + 1)))
              else none
            else
              if (0 ≤ l6 ∧ l6 < 200) ∧ (0 ≤ l5 ∧ l5 < 200) then
                if (M 21 (l6).toNat) < (M 21 (l5).toNat) then
                  if fin (l6 + 1) then
                    some (.inl (l5, (l6 + 1)))
                  else none
                else
                  if fin (l6 + 1) then
                    some (.inl (l6, (l6 + 1)))
                  else none
              else none
        else none
theorem s_X6_latest_18_b6_ok {d L : Nat} {M : fM} {l1 l2 l3 l4 l5 l6 : Int} {r : ((Int × Int) ⊕ Int)} {Q : fO → fH → Prop} (h : s_X6_latest_18_b6 M l1 l2 l3 l4 l5 l6 = some r) (hC : ∀ (l5' l6' : Int), r = .inl (l5', l6') → Wp (d + 1, 83, 6, 0, 0, [some (fA 18), some (fI l1), some (fI l2), some (fI l3), some (fI l4), some (fI l5'), some (fI l6')], []) (156, fjl L, M) Q) (hE : ∀ (e : Int) (o0' o1' o2' o3' o4' o6' : Option fV), r = .inr e → Wp (d + 1, 83, 71, 0, 0, [o0', o1', o2', o3', o4', some (fI e), o6'], []) (156, fjl L, M) Q) : Wp (d + 1, 83, 6, 0, 0, [some (fA 18), some (fI l1), some (fI l2), some (fI l3), some (fI l4), some (fI l5), some (fI l6)], []) (156, fjl L, M) Q := by
  unfold s_X6_latest_18_b6 at h
  refine Wp.run 3 (f' := (d + 1, 83, 12, 0, 0, [some (fA 18), some (fI l1), some (fI l2), some (fI l3), some (fI l4), some (fI l5), some (fI l6)], [fI (M 18 8), fI l6])) (h' := (156, fjl L, M)) rfl trivial ?_
  refine Wp.br rfl (fun (c : (M 18 8) ≤ l6) => ?_) (fun (c : ¬ ((M 18 8) ≤ l6)) => ?_)
  · replace h := fps c h
    exact hE _ _ _ _ _ _ _ (Option.some.inj h).symm
  · replace h := fng c h
    refine Wp.run 5 (f' := (d + 1, 83, 22, 0, 0, [some (fA 18), some (fI l1), some (fI l2), some (fI l3), some (fI l4), some (fI l5), some (fI l6)], [fI l4, fI l2, fI l1, fI l6, fA 18])) (h' := (156, fjl L, M)) rfl trivial ?_
    obtain ⟨y22, hy, h⟩ := fbd h
    refine Wp.call rfl (by decide) (s_X6_isOf_18_ok (d := d + 0) hy ?_)
    show Wp (d + 1, 83, 25, 0, 0, [some (fA 18), some (fI l1), some (fI l2), some (fI l3), some (fI l4), some (fI l5), some (fI l6)], [fI y22]) (156, fjl L, M) Q
    refine Wp.br rfl (fun (c : y22 = 0) => ?_) (fun (c : ¬ (y22 = 0)) => ?_)
    · replace h := fps c h
      obtain ⟨g0, h⟩ := fgd h
      refine Wp.run 2 (f' := (d + 1, 83, 6, 0, 0, [some (fA 18), some (fI l1), some (fI l2), some (fI l3), some (fI l4), some (fI l5), some (fI (fw (l6 + 1)))], [])) (h' := (156, fjl L, M)) rfl trivial ?_
      rw [fw_id g0]
      exact hC _ _ (Option.some.inj h).symm
    · replace h := fng c h
      obtain ⟨g0, h⟩ := fgd h
      refine Wp.run 5 (P := [0 ≤ l6 ∧ l6 < 200]) (f' := (d + 1, 83, 36, 0, 0, [some (fA 18), some (fI l1), some (fI l2), some (fI l3), some (fI l4), some (fI l5), some (fI l6)], [fI l3, fI (M 21 (l6).toNat)])) (h' := (156, fjl L, M)) rfl ?_ ?_
      · exact g0
      refine Wp.br rfl (fun (c : l3 < (M 21 (l6).toNat)) => ?_) (fun (c : ¬ (l3 < (M 21 (l6).toNat))) => ?_)
      · replace h := fps c h
        obtain ⟨g0, h⟩ := fgd h
        refine Wp.run 2 (f' := (d + 1, 83, 6, 0, 0, [some (fA 18), some (fI l1), some (fI l2), some (fI l3), some (fI l4), some (fI l5), some (fI (fw (l6 + 1)))], [])) (h' := (156, fjl L, M)) rfl trivial ?_
        rw [fw_id g0]
        exact hC _ _ (Option.some.inj h).symm
      · replace h := fng c h
        refine Wp.run 1 (f' := (d + 1, 83, 41, 0, 0, [some (fA 18), some (fI l1), some (fI l2), some (fI l3), some (fI l4), some (fI l5), some (fI l6)], [fI l5])) (h' := (156, fjl L, M)) rfl trivial ?_
        refine Wp.br rfl (fun (c : l5 < 0) => ?_) (fun (c : ¬ (l5 < 0)) => ?_)
        · replace h := fps c h
          obtain ⟨g0, h⟩ := fgd h
          refine Wp.run 4 (f' := (d + 1, 83, 6, 0, 0, [some (fA 18), some (fI l1), some (fI l2), some (fI l3), some (fI l4), some (fI l6), some (fI (fw (l6 + 1)))], [])) (h' := (156, fjl L, M)) rfl trivial ?_
          rw [fw_id g0]
          exact hC _ _ (Option.some.inj h).symm
        · replace h := fng c h
          obtain ⟨⟨g0, g1⟩, h⟩ := fgd h
          refine Wp.run 8 (P := [0 ≤ l6 ∧ l6 < 200, 0 ≤ l5 ∧ l5 < 200]) (f' := (d + 1, 83, 58, 0, 0, [some (fA 18), some (fI l1), some (fI l2), some (fI l3), some (fI l4), some (fI l5), some (fI l6)], [fI (M 21 (l5).toNat), fI (M 21 (l6).toNat)])) (h' := (156, fjl L, M)) rfl ?_ ?_
          · exact ⟨g0, g1⟩
          refine Wp.br rfl (fun (c : (M 21 (l6).toNat) < (M 21 (l5).toNat)) => ?_) (fun (c : ¬ ((M 21 (l6).toNat) < (M 21 (l5).toNat))) => ?_)
          · replace h := fps c h
            obtain ⟨g0, h⟩ := fgd h
            refine Wp.run 2 (f' := (d + 1, 83, 6, 0, 0, [some (fA 18), some (fI l1), some (fI l2), some (fI l3), some (fI l4), some (fI l5), some (fI (fw (l6 + 1)))], [])) (h' := (156, fjl L, M)) rfl trivial ?_
            rw [fw_id g0]
            exact hC _ _ (Option.some.inj h).symm
          · replace h := fng c h
            obtain ⟨g0, h⟩ := fgd h
            refine Wp.run 4 (f' := (d + 1, 83, 6, 0, 0, [some (fA 18), some (fI l1), some (fI l2), some (fI l3), some (fI l4), some (fI l6), some (fI (fw (l6 + 1)))], [])) (h' := (156, fjl L, M)) rfl trivial ?_
            rw [fw_id g0]
            exact hC _ _ (Option.some.inj h).symm
noncomputable def s_X6_latest_18_l6 (M : fM) (l1 l2 l3 l4 : Int) (s : (Int × Int)) : Option Int := fLp (fun s => s_X6_latest_18_b6 M l1 l2 l3 l4 s.1 s.2) s
theorem s_X6_latest_18_l6_ok {d L : Nat} {M : fM} {l1 l2 l3 l4 l5 l6 : Int} {r : Int} {Q : fO → fH → Prop} (h : s_X6_latest_18_l6 M l1 l2 l3 l4 (l5, l6) = some r) (hE : ∀ (e : Int) (o0' o1' o2' o3' o4' o6' : Option fV), r = e → Wp (d + 1, 83, 71, 0, 0, [o0', o1', o2', o3', o4', some (fI e), o6'], []) (156, fjl L, M) Q) : Wp (d + 1, 83, 6, 0, 0, [some (fA 18), some (fI l1), some (fI l2), some (fI l3), some (fI l4), some (fI l5), some (fI l6)], []) (156, fjl L, M) Q := by
  refine fLp_wp (W := fun s => Wp (d + 1, 83, 6, 0, 0, [some (fA 18), some (fI l1), some (fI l2), some (fI l3), some (fI l4), some (fI s.1), some (fI s.2)], []) (156, fjl L, M) Q) (e := r) ?_ h
  intro s r1 h hC hX
  refine s_X6_latest_18_b6_ok (d := d) h (fun a0 a1 e1 => ?_) (fun e u0 u1 u2 u3 u4 u5 e1 => hE e u0 u1 u2 u3 u4 u5 (hX _ e1).symm)
  exact hC _ e1
noncomputable def s_X6_latest_18 (M : fM) (l1 l2 l3 l4 : Int) : Option Int :=
  (s_X6_latest_18_l6 M l1 l2 l3 l4 ((-1), 0)).bind fun e6 =>
    some e6
theorem s_X6_latest_18_ok {d L : Nat} {M : fM} {l1 l2 l3 l4 : Int} {r : Int} {Q : fO → fH → Prop} (h : s_X6_latest_18 M l1 l2 l3 l4 = some r) (H : Q (oI r) (156, fjl L, M)) : Wp (d + 1, 83, 0, 0, 0, [some (fA 18), some (fI l1), some (fI l2), some (fI l3), some (fI l4), none, none], []) (156, fjl L, M) Q := by
  unfold s_X6_latest_18 at h
  refine Wp.run 4 (f' := (d + 1, 83, 6, 0, 0, [some (fA 18), some (fI l1), some (fI l2), some (fI l3), some (fI l4), some (fI (-1)), some (fI 0)], [])) (h' := (156, fjl L, M)) rfl trivial ?_
  obtain ⟨e6, hy, h⟩ := fbd h
  refine s_X6_latest_18_l6_ok hy (fun x u0 u1 u2 u3 u4 u6 ex => ?_)
  cases ex
  show Wp (d + 1, 83, 71, 0, 0, [u0, u1, u2, u3, u4, some (fI e6), u6], []) (156, fjl L, M) Q
  refine Wp.run 1 (f' := (d + 1, 83, 73, 0, 0, [_, _, _, _, _, _, _], [fI e6])) (h' := (156, fjl L, M)) rfl trivial ?_
  obtain rfl := Option.some.inj h
  exact Wp.done rfl (by decide) H
noncomputable def s_X6_leftOf_18 (M : fM) (l1 l2 : Int) : Option Int :=
  if fin (l1 * 12) ∧ fin ((l1 * 12) + l2) ∧ (0 ≤ ((l1 * 12) + l2) ∧ ((l1 * 12) + l2) < 2400) then
    some (M 26 ((l1 * 12) + l2).toNat)
  else none
theorem s_X6_leftOf_18_ok {d L : Nat} {M : fM} {l1 l2 : Int} {r : Int} {Q : fO → fH → Prop} (h : s_X6_leftOf_18 M l1 l2 = some r) (H : Q (oI r) (156, fjl L, M)) : Wp (d + 0, 80, 0, 0, 0, [some (fA 18), some (fI l1), some (fI l2)], []) (156, fjl L, M) Q := by
  unfold s_X6_leftOf_18 at h
  obtain ⟨⟨g0, g1, g2⟩, h⟩ := fgd h
  refine Wp.run 8 (P := [0 ≤ (fw ((fw (l1 * 12)) + l2)) ∧ (fw ((fw (l1 * 12)) + l2)) < 2400]) (f' := (d + 0, 80, 11, 0, 0, [_, _, _], [fI (M 26 (fw ((fw (l1 * 12)) + l2)).toNat)])) (h' := (156, fjl L, M)) rfl ?_ ?_
  · rw [fw_id g0, fw_id g1]; exact g2
  rw [fw_id g0, fw_id g1]
  obtain rfl := Option.some.inj h
  exact Wp.done rfl (by decide) H
noncomputable def s_X2_forkOf_4 (M : fM) (l1 : Int) : Option Int :=
  if fin (l1 * 3) ∧ fin ((l1 * 3) + 2) ∧ (0 ≤ ((l1 * 3) + 2) ∧ ((l1 * 3) + 2) < 18) then
    some (M 13 ((l1 * 3) + 2).toNat)
  else none
theorem s_X2_forkOf_4_ok {d L : Nat} {M : fM} {l1 : Int} {r : Int} {Q : fO → fH → Prop} (h : s_X2_forkOf_4 M l1 = some r) (H : Q (oI r) (156, fjl L, M)) : Wp (d + 0, 36, 0, 0, 0, [some (fA 4), some (fI l1)], []) (156, fjl L, M) Q := by
  unfold s_X2_forkOf_4 at h
  obtain ⟨⟨g0, g1, g2⟩, h⟩ := fgd h
  refine Wp.run 8 (P := [0 ≤ (fw ((fw (l1 * 3)) + 2)) ∧ (fw ((fw (l1 * 3)) + 2)) < 18]) (f' := (d + 0, 36, 10, 0, 0, [_, _], [fI (M 13 (fw ((fw (l1 * 3)) + 2)).toNat)])) (h' := (156, fjl L, M)) rfl ?_ ?_
  · rw [fw_id g0, fw_id g1]; exact g2
  rw [fw_id g0, fw_id g1]
  obtain rfl := Option.some.inj h
  exact Wp.done rfl (by decide) H
abbrev s_J7_fill_44_mods : List (Nat × Option Nat) := [(44, none)]
noncomputable def s_J7_fill_44_b5 (M : fM) (l1 l2 l3 : Int) : Option ((Int × fM) ⊕ fM) :=
  if l3 ≤ l2 then
    some (.inr M)
  else
    if (0 ≤ l2 ∧ l2 < 364) ∧ fin (l2 + 1) then
      some (.inl ((l2 + 1), (fup M 44 (l2).toNat l1)))
    else none
theorem s_J7_fill_44_b5_ok {d L : Nat} {M : fM} {l1 l2 l3 : Int} {r : ((Int × fM) ⊕ fM)} {Q : fO → fH → Prop} (h : s_J7_fill_44_b5 M l1 l2 l3 = some r) (hC : ∀ (l2' : Int) (M' : fM), r = .inl (l2', M') → Wp (d + 0, 315, 5, 0, 0, [some (fA 44), some (fI l1), some (fI l2'), some (fI l3)], []) (156, fjl L, M') Q) (hE : ∀ (e : fM) (o0' o1' o2' o3' : Option fV), r = .inr e → Wp (d + 0, 315, 20, 0, 0, [o0', o1', o2', o3'], []) (156, fjl L, e) Q) : Wp (d + 0, 315, 5, 0, 0, [some (fA 44), some (fI l1), some (fI l2), some (fI l3)], []) (156, fjl L, M) Q := by
  unfold s_J7_fill_44_b5 at h
  refine Wp.run 2 (f' := (d + 0, 315, 7, 0, 0, [some (fA 44), some (fI l1), some (fI l2), some (fI l3)], [fI l3, fI l2])) (h' := (156, fjl L, M)) rfl trivial ?_
  refine Wp.br rfl (fun (c : l3 ≤ l2) => ?_) (fun (c : ¬ (l3 ≤ l2)) => ?_)
  · replace h := fps c h
    exact hE _ _ _ _ _ (Option.some.inj h).symm
  · replace h := fng c h
    obtain ⟨⟨g0, g1⟩, h⟩ := fgd h
    refine Wp.run 6 (P := [0 ≤ l2 ∧ l2 < 364]) (f' := (d + 0, 315, 5, 0, 0, [some (fA 44), some (fI l1), some (fI (fw (l2 + 1))), some (fI l3)], [])) (h' := (156, fjl L, (fup M 44 (l2).toNat l1))) rfl ?_ ?_
    · exact g0
    rw [fw_id g1]
    exact hC _ _ (Option.some.inj h).symm
theorem s_J7_fill_44_b5_fr {M : fM} {l1 l2 l3 : Int} {r : ((Int × fM) ⊕ fM)} (h : s_J7_fill_44_b5 M l1 l2 l3 = some r) : fSame s_J7_fill_44_mods M (Sum.elim (fun s => s.2) (fun e => e) r) := by
  unfold s_J7_fill_44_b5 at h
  by_cases c : l3 ≤ l2
  · replace h := fps c h
    obtain rfl := Option.some.inj h
    exact fs_refl
  · replace h := fng c h
    replace h := (fgd h).2
    obtain rfl := Option.some.inj h
    exact fs_up fs_refl (.inl (by decide))
noncomputable def s_J7_fill_44_l5 (l1 l3 : Int) (s : (Int × fM)) : Option fM := fLp (fun s => s_J7_fill_44_b5 s.2 l1 s.1 l3) s
theorem s_J7_fill_44_l5_ok {d L : Nat} {M : fM} {l1 l2 l3 : Int} {r : fM} {Q : fO → fH → Prop} (h : s_J7_fill_44_l5 l1 l3 (l2, M) = some r) (hE : ∀ (e : fM) (o0' o1' o2' o3' : Option fV), r = e → Wp (d + 0, 315, 20, 0, 0, [o0', o1', o2', o3'], []) (156, fjl L, e) Q) : Wp (d + 0, 315, 5, 0, 0, [some (fA 44), some (fI l1), some (fI l2), some (fI l3)], []) (156, fjl L, M) Q := by
  refine fLp_wp (W := fun s => Wp (d + 0, 315, 5, 0, 0, [some (fA 44), some (fI l1), some (fI s.1), some (fI l3)], []) (156, fjl L, s.2) Q) (e := r) ?_ h
  intro s r1 h hC hX
  refine s_J7_fill_44_b5_ok (d := d) h (fun a0 a1 e1 => ?_) (fun e u0 u1 u2 u3 e1 => hE e u0 u1 u2 u3 (hX _ e1).symm)
  exact hC _ e1
theorem s_J7_fill_44_l5_fr {M : fM} {l1 l2 l3 : Int} {r : fM} (h : s_J7_fill_44_l5 l1 l3 (l2, M) = some r) : fSame s_J7_fill_44_mods M ((fun e => e) r) := by
  refine fLp_inv (I := fun s => fSame s_J7_fill_44_mods M s.2) (J := fun r => fSame s_J7_fill_44_mods M ((fun e => e) r)) h fs_refl (fun s s1 hs hb => ?_) (fun s e hs hb => ?_)
  · exact fs_trans hs (s_J7_fill_44_b5_fr hb)
  · exact fs_trans hs (s_J7_fill_44_b5_fr hb)
noncomputable def s_J7_fill_44 (M : fM) (l1 : Int) : Option (Unit × fM) :=
  (s_J7_fill_44_l5 l1 364 (0, M)).bind fun e5 =>
    some ((), e5)
theorem s_J7_fill_44_ok {d L : Nat} {M : fM} {l1 : Int} {r : (Unit × fM)} {Q : fO → fH → Prop} (h : s_J7_fill_44 M l1 = some r) (H : Q (oV r.1) (156, fjl L, r.2)) : Wp (d + 0, 315, 0, 0, 0, [some (fA 44), some (fI l1), none, none], []) (156, fjl L, M) Q := by
  unfold s_J7_fill_44 at h
  refine Wp.run 5 (f' := (d + 0, 315, 5, 0, 0, [some (fA 44), some (fI l1), some (fI 0), some (fI 364)], [])) (h' := (156, fjl L, M)) rfl trivial ?_
  obtain ⟨e5, hy, h⟩ := fbd h
  refine s_J7_fill_44_l5_ok hy (fun x u0 u1 u2 u3 ex => ?_)
  cases ex
  show Wp (d + 0, 315, 20, 0, 0, [u0, u1, u2, u3], []) (156, fjl L, e5) Q
  obtain rfl := Option.some.inj h
  exact Wp.done rfl (by decide) H
theorem s_J7_fill_44_fr {M : fM} {l1 : Int} {r : (Unit × fM)} (h : s_J7_fill_44 M l1 = some r) : fSame s_J7_fill_44_mods M r.2 := by
  unfold s_J7_fill_44 at h
  obtain ⟨e5, hy, h⟩ := fbd h
  have k5 := fs_trans (l := s_J7_fill_44_mods) fs_refl (s_J7_fill_44_l5_fr hy)
  obtain rfl := Option.some.inj h
  exact k5
abbrev s_X8_sumSlipTimes_mods : List (Nat × Option Nat) := [(44, none)]
noncomputable def s_X8_sumSlipTimes_b85 (M : fM) (l1 l2 l3 l4 l5 : Int) : Option ((Int × fM) ⊕ fM) :=
  if l4 < l5 then
    some (.inr M)
  else
    if (0 ≤ l5 ∧ l5 < 364) ∧ fin (l5 + 1) then
      some (.inl ((l5 + 1), (fup M 44 (l5).toNat 3)))
    else none
theorem s_X8_sumSlipTimes_b85_ok {d L : Nat} {M : fM} {l1 l2 l3 l4 l5 : Int} {r : ((Int × fM) ⊕ fM)} {Q : fO → fH → Prop} (h : s_X8_sumSlipTimes_b85 M l1 l2 l3 l4 l5 = some r) (hC : ∀ (l5' : Int) (M' : fM), r = .inl (l5', M') → Wp (d + 1, 110, 85, 0, 0, [some (fA 43), some (fI l1), some (fI l2), some (fI l3), some (fI l4), some (fI l5')], []) (156, fjl L, M') Q) (hE : ∀ (e : fM) (o4' o5' : Option fV), r = .inr e → Wp (d + 1, 110, 106, 0, 0, [some (fA 43), some (fI l1), some (fI l2), some (fI l3), o4', o5'], []) (156, fjl L, e) Q) : Wp (d + 1, 110, 85, 0, 0, [some (fA 43), some (fI l1), some (fI l2), some (fI l3), some (fI l4), some (fI l5)], []) (156, fjl L, M) Q := by
  unfold s_X8_sumSlipTimes_b85 at h
  refine Wp.run 2 (f' := (d + 1, 110, 89, 0, 0, [some (fA 43), some (fI l1), some (fI l2), some (fI l3), some (fI l4), some (fI l5)], [fI l4, fI l5])) (h' := (156, fjl L, M)) rfl trivial ?_
  refine Wp.br rfl (fun (c : l4 < l5) => ?_) (fun (c : ¬ (l4 < l5)) => ?_)
  · replace h := fps c h
    exact hE _ _ _ (Option.some.inj h).symm
  · replace h := fng c h
    obtain ⟨⟨g0, g1⟩, h⟩ := fgd h
    refine Wp.run 7 (P := [0 ≤ l5 ∧ l5 < 364]) (f' := (d + 1, 110, 85, 0, 0, [some (fA 43), some (fI l1), some (fI l2), some (fI l3), some (fI l4), some (fI (fw (l5 + 1)))], [])) (h' := (156, fjl L, (fup M 44 (l5).toNat 3))) rfl ?_ ?_
    · exact g0
    rw [fw_id g1]
    exact hC _ _ (Option.some.inj h).symm
theorem s_X8_sumSlipTimes_b85_fr {M : fM} {l1 l2 l3 l4 l5 : Int} {r : ((Int × fM) ⊕ fM)} (h : s_X8_sumSlipTimes_b85 M l1 l2 l3 l4 l5 = some r) : fSame s_X8_sumSlipTimes_mods M (Sum.elim (fun s => s.2) (fun e => e) r) := by
  unfold s_X8_sumSlipTimes_b85 at h
  by_cases c : l4 < l5
  · replace h := fps c h
    obtain rfl := Option.some.inj h
    exact fs_refl
  · replace h := fng c h
    replace h := (fgd h).2
    obtain rfl := Option.some.inj h
    exact fs_up fs_refl (.inl (by decide))
noncomputable def s_X8_sumSlipTimes_l85 (l1 l2 l3 l4 : Int) (s : (Int × fM)) : Option fM := fLp (fun s => s_X8_sumSlipTimes_b85 s.2 l1 l2 l3 l4 s.1) s
theorem s_X8_sumSlipTimes_l85_ok {d L : Nat} {M : fM} {l1 l2 l3 l4 l5 : Int} {r : fM} {Q : fO → fH → Prop} (h : s_X8_sumSlipTimes_l85 l1 l2 l3 l4 (l5, M) = some r) (hE : ∀ (e : fM) (o4' o5' : Option fV), r = e → Wp (d + 1, 110, 106, 0, 0, [some (fA 43), some (fI l1), some (fI l2), some (fI l3), o4', o5'], []) (156, fjl L, e) Q) : Wp (d + 1, 110, 85, 0, 0, [some (fA 43), some (fI l1), some (fI l2), some (fI l3), some (fI l4), some (fI l5)], []) (156, fjl L, M) Q := by
  refine fLp_wp (W := fun s => Wp (d + 1, 110, 85, 0, 0, [some (fA 43), some (fI l1), some (fI l2), some (fI l3), some (fI l4), some (fI s.1)], []) (156, fjl L, s.2) Q) (e := r) ?_ h
  intro s r1 h hC hX
  refine s_X8_sumSlipTimes_b85_ok (d := d) h (fun a0 a1 e1 => ?_) (fun e u0 u1 e1 => hE e u0 u1 (hX _ e1).symm)
  exact hC _ e1
theorem s_X8_sumSlipTimes_l85_fr {M : fM} {l1 l2 l3 l4 l5 : Int} {r : fM} (h : s_X8_sumSlipTimes_l85 l1 l2 l3 l4 (l5, M) = some r) : fSame s_X8_sumSlipTimes_mods M ((fun e => e) r) := by
  refine fLp_inv (I := fun s => fSame s_X8_sumSlipTimes_mods M s.2) (J := fun r => fSame s_X8_sumSlipTimes_mods M ((fun e => e) r)) h fs_refl (fun s s1 hs hb => ?_) (fun s e hs hb => ?_)
  · exact fs_trans hs (s_X8_sumSlipTimes_b85_fr hb)
  · exact fs_trans hs (s_X8_sumSlipTimes_b85_fr hb)
noncomputable def s_X8_sumSlipTimes_b10 (M : fM) (l1 l2 l3 : Int) : Option ((Int × fM) ⊕ fM) :=
  if (M 18 8) ≤ l3 then
    some (.inr M)
  else
    (s_X6_isOf_18 M l3 6 (M 43 5) l2).bind fun y33 =>
      if y33 = 0 then
        if fin (l3 + 1) then
          some (.inl ((l3 + 1), M))
        else none
      else
        if (0 ≤ l3 ∧ l3 < 200) then
          if l1 < (M 21 (l3).toNat) then
            if fin (l3 + 1) then
              some (.inl ((l3 + 1), M))
            else none
          else
            if (0 ≤ l3 ∧ l3 < 200) ∧ fin ((M 21 (l3).toNat) + 21) then
              (s_J9_min M 363 ((M 21 (l3).toNat) + 21)).bind fun y67 =>
                if (0 ≤ l3 ∧ l3 < 200) ∧ fin ((M 21 (l3).toNat) + 1) then
                  (s_X8_sumSlipTimes_l85 l1 l2 l3 y67 (((M 21 (l3).toNat) + 1), M)).bind fun e85 =>
                    if fin (l3 + 1) then
                      some (.inl ((l3 + 1), e85))
                    else none
                else none
            else none
        else none
theorem s_X8_sumSlipTimes_b10_ok {d L : Nat} {M : fM} {l1 l2 l3 : Int} {o4 o5 : Option fV} {r : ((Int × fM) ⊕ fM)} {Q : fO → fH → Prop} (h : s_X8_sumSlipTimes_b10 M l1 l2 l3 = some r) (hC : ∀ (l3' : Int) (M' : fM) (o4' o5' : Option fV), r = .inl (l3', M') → Wp (d + 1, 110, 10, 0, 0, [some (fA 43), some (fI l1), some (fI l2), some (fI l3'), o4', o5'], []) (156, fjl L, M') Q) (hE : ∀ (e : fM) (o1' o2' o3' o4' o5' : Option fV), r = .inr e → Wp (d + 1, 110, 112, 0, 0, [some (fA 43), o1', o2', o3', o4', o5'], []) (156, fjl L, e) Q) : Wp (d + 1, 110, 10, 0, 0, [some (fA 43), some (fI l1), some (fI l2), some (fI l3), o4, o5], []) (156, fjl L, M) Q := by
  unfold s_X8_sumSlipTimes_b10 at h
  refine Wp.run 4 (f' := (d + 1, 110, 18, 0, 0, [some (fA 43), some (fI l1), some (fI l2), some (fI l3), _, _], [fI (M 18 8), fI l3])) (h' := (156, fjl L, M)) rfl trivial ?_
  refine Wp.br rfl (fun (c : (M 18 8) ≤ l3) => ?_) (fun (c : ¬ ((M 18 8) ≤ l3)) => ?_)
  · replace h := fps c h
    exact hE _ _ _ _ _ _ (Option.some.inj h).symm
  · replace h := fng c h
    refine Wp.run 7 (f' := (d + 1, 110, 33, 0, 0, [some (fA 43), some (fI l1), some (fI l2), some (fI l3), _, _], [fI l2, fI (M 43 5), fI 6, fI l3, fA 18])) (h' := (156, fjl L, M)) rfl trivial ?_
    obtain ⟨y33, hy, h⟩ := fbd h
    refine Wp.call rfl (by decide) (s_X6_isOf_18_ok (d := d + 0) hy ?_)
    show Wp (d + 1, 110, 36, 0, 0, [some (fA 43), some (fI l1), some (fI l2), some (fI l3), _, _], [fI y33]) (156, fjl L, M) Q
    refine Wp.br rfl (fun (c : y33 = 0) => ?_) (fun (c : ¬ (y33 = 0)) => ?_)
    · replace h := fps c h
      obtain ⟨g0, h⟩ := fgd h
      refine Wp.run 2 (f' := (d + 1, 110, 10, 0, 0, [some (fA 43), some (fI l1), some (fI l2), some (fI (fw (l3 + 1))), _, _], [])) (h' := (156, fjl L, M)) rfl trivial ?_
      rw [fw_id g0]
      exact hC _ _ _ _ (Option.some.inj h).symm
    · replace h := fng c h
      obtain ⟨g0, h⟩ := fgd h
      refine Wp.run 6 (P := [0 ≤ l3 ∧ l3 < 200]) (f' := (d + 1, 110, 49, 0, 0, [some (fA 43), some (fI l1), some (fI l2), some (fI l3), _, _], [fI l1, fI (M 21 (l3).toNat)])) (h' := (156, fjl L, M)) rfl ?_ ?_
      · exact g0
      refine Wp.br rfl (fun (c : l1 < (M 21 (l3).toNat)) => ?_) (fun (c : ¬ (l1 < (M 21 (l3).toNat))) => ?_)
      · replace h := fps c h
        obtain ⟨g0, h⟩ := fgd h
        refine Wp.run 2 (f' := (d + 1, 110, 10, 0, 0, [some (fA 43), some (fI l1), some (fI l2), some (fI (fw (l3 + 1))), _, _], [])) (h' := (156, fjl L, M)) rfl trivial ?_
        rw [fw_id g0]
        exact hC _ _ _ _ (Option.some.inj h).symm
      · replace h := fng c h
        obtain ⟨⟨g0, g1⟩, h⟩ := fgd h
        refine Wp.run 8 (P := [0 ≤ l3 ∧ l3 < 200]) (f' := (d + 1, 110, 67, 0, 0, [some (fA 43), some (fI l1), some (fI l2), some (fI l3), _, _], [fI (fw ((M 21 (l3).toNat) + 21)), fI 363])) (h' := (156, fjl L, M)) rfl ?_ ?_
        · exact g0
        rw [fw_id g1]
        obtain ⟨y67, hy, h⟩ := fbd h
        refine Wp.call rfl (by decide) (s_J9_min_ok (d := d + 0) hy ?_)
        show Wp (d + 1, 110, 70, 0, 0, [some (fA 43), some (fI l1), some (fI l2), some (fI l3), _, _], [fI y67]) (156, fjl L, M) Q
        obtain ⟨⟨g0, g1⟩, h⟩ := fgd h
        refine Wp.run 9 (P := [0 ≤ l3 ∧ l3 < 200]) (f' := (d + 1, 110, 85, 0, 0, [some (fA 43), some (fI l1), some (fI l2), some (fI l3), some (fI y67), some (fI (fw ((M 21 (l3).toNat) + 1)))], [])) (h' := (156, fjl L, M)) rfl ?_ ?_
        · exact g0
        rw [fw_id g1]
        obtain ⟨e85, hy, h⟩ := fbd h
        refine s_X8_sumSlipTimes_l85_ok hy (fun x u4 u5 ex => ?_)
        cases ex
        show Wp (d + 1, 110, 106, 0, 0, [some (fA 43), some (fI l1), some (fI l2), some (fI l3), u4, u5], []) (156, fjl L, e85) Q
        obtain ⟨g0, h⟩ := fgd h
        refine Wp.run 2 (f' := (d + 1, 110, 10, 0, 0, [some (fA 43), some (fI l1), some (fI l2), some (fI (fw (l3 + 1))), _, _], [])) (h' := (156, fjl L, e85)) rfl trivial ?_
        rw [fw_id g0]
        exact hC _ _ _ _ (Option.some.inj h).symm
theorem s_X8_sumSlipTimes_b10_fr {M : fM} {l1 l2 l3 : Int} {r : ((Int × fM) ⊕ fM)} (h : s_X8_sumSlipTimes_b10 M l1 l2 l3 = some r) : fSame s_X8_sumSlipTimes_mods M (Sum.elim (fun s => s.2) (fun e => e) r) := by
  unfold s_X8_sumSlipTimes_b10 at h
  by_cases c : (M 18 8) ≤ l3
  · replace h := fps c h
    obtain rfl := Option.some.inj h
    exact fs_refl
  · replace h := fng c h
    obtain ⟨y33, hy, h⟩ := fbd h
    by_cases c : y33 = 0
    · replace h := fps c h
      replace h := (fgd h).2
      obtain rfl := Option.some.inj h
      exact fs_refl
    · replace h := fng c h
      replace h := (fgd h).2
      by_cases c : l1 < (M 21 (l3).toNat)
      · replace h := fps c h
        replace h := (fgd h).2
        obtain rfl := Option.some.inj h
        exact fs_refl
      · replace h := fng c h
        replace h := (fgd h).2
        obtain ⟨y67, hy, h⟩ := fbd h
        replace h := (fgd h).2
        obtain ⟨e85, hy, h⟩ := fbd h
        have k85 := fs_trans (l := s_X8_sumSlipTimes_mods) fs_refl (s_X8_sumSlipTimes_l85_fr hy)
        replace h := (fgd h).2
        obtain rfl := Option.some.inj h
        exact k85
noncomputable def s_X8_sumSlipTimes_l10 (l1 l2 : Int) (s : (Int × fM)) : Option fM := fLp (fun s => s_X8_sumSlipTimes_b10 s.2 l1 l2 s.1) s
theorem s_X8_sumSlipTimes_l10_ok {d L : Nat} {M : fM} {l1 l2 l3 : Int} {o4 o5 : Option fV} {r : fM} {Q : fO → fH → Prop} (h : s_X8_sumSlipTimes_l10 l1 l2 (l3, M) = some r) (hE : ∀ (e : fM) (o1' o2' o3' o4' o5' : Option fV), r = e → Wp (d + 1, 110, 112, 0, 0, [some (fA 43), o1', o2', o3', o4', o5'], []) (156, fjl L, e) Q) : Wp (d + 1, 110, 10, 0, 0, [some (fA 43), some (fI l1), some (fI l2), some (fI l3), o4, o5], []) (156, fjl L, M) Q := by
  refine fLp_wp (W := fun s => ∀ (o4 o5 : Option fV), Wp (d + 1, 110, 10, 0, 0, [some (fA 43), some (fI l1), some (fI l2), some (fI s.1), o4, o5], []) (156, fjl L, s.2) Q) (e := r) ?_ h _ _
  intro s r1 h hC hX o4 o5
  refine s_X8_sumSlipTimes_b10_ok (d := d) h (fun a0 a1 _ _ e1 => ?_) (fun e u0 u1 u2 u3 u4 e1 => hE e u0 u1 u2 u3 u4 (hX _ e1).symm)
  exact hC _ e1 _ _
theorem s_X8_sumSlipTimes_l10_fr {M : fM} {l1 l2 l3 : Int} {r : fM} (h : s_X8_sumSlipTimes_l10 l1 l2 (l3, M) = some r) : fSame s_X8_sumSlipTimes_mods M ((fun e => e) r) := by
  refine fLp_inv (I := fun s => fSame s_X8_sumSlipTimes_mods M s.2) (J := fun r => fSame s_X8_sumSlipTimes_mods M ((fun e => e) r)) h fs_refl (fun s s1 hs hb => ?_) (fun s e hs hb => ?_)
  · exact fs_trans hs (s_X8_sumSlipTimes_b10_fr hb)
  · exact fs_trans hs (s_X8_sumSlipTimes_b10_fr hb)
noncomputable def s_X8_sumSlipTimes_b114 (M : fM) (l3 : Int) : Option ((Int × fM) ⊕ fM) :=
  if 364 ≤ l3 then
    some (.inr M)
  else
    if (0 ≤ l3 ∧ l3 < 364) ∧ fin (l3 - 1) ∧ (0 ≤ (l3 - 1) ∧ (l3 - 1) < 364) ∧ fin ((M 44 (l3).toNat) + (M 44 (l3 - 1).toNat)) then
      if fin (l3 + 1) then
        some (.inl ((l3 + 1), (fup M 44 (l3).toNat ((M 44 (l3).toNat) + (M 44 (l3 - 1).toNat)))))
      else none
    else none
theorem s_X8_sumSlipTimes_b114_ok {d L : Nat} {M : fM} {l3 : Int} {o1 o2 o4 o5 : Option fV} {r : ((Int × fM) ⊕ fM)} {Q : fO → fH → Prop} (h : s_X8_sumSlipTimes_b114 M l3 = some r) (hC : ∀ (l3' : Int) (M' : fM) (o1' o2' o4' o5' : Option fV), r = .inl (l3', M') → Wp (d + 1, 110, 114, 0, 0, [some (fA 43), o1', o2', some (fI l3'), o4', o5'], []) (156, fjl L, M') Q) (hE : ∀ (e : fM) (o0' o1' o2' o3' o4' o5' : Option fV), r = .inr e → Wp (d + 1, 110, 144, 0, 0, [o0', o1', o2', o3', o4', o5'], []) (156, fjl L, e) Q) : Wp (d + 1, 110, 114, 0, 0, [some (fA 43), o1, o2, some (fI l3), o4, o5], []) (156, fjl L, M) Q := by
  unfold s_X8_sumSlipTimes_b114 at h
  refine Wp.run 2 (f' := (d + 1, 110, 118, 0, 0, [some (fA 43), _, _, some (fI l3), _, _], [fI 364, fI l3])) (h' := (156, fjl L, M)) rfl trivial ?_
  refine Wp.br rfl (fun (c : 364 ≤ l3) => ?_) (fun (c : ¬ (364 ≤ l3)) => ?_)
  · replace h := fps c h
    exact hE _ _ _ _ _ _ _ (Option.some.inj h).symm
  · replace h := fng c h
    obtain ⟨⟨g0, g1, g2, g3⟩, h⟩ := fgd h
    refine Wp.run 13 (P := [0 ≤ l3 ∧ l3 < 364, 0 ≤ (fw (l3 - 1)) ∧ (fw (l3 - 1)) < 364, 0 ≤ l3 ∧ l3 < 364]) (f' := (d + 1, 110, 138, 0, 0, [some (fA 43), _, _, some (fI l3), _, _], [])) (h' := (156, fjl L, (fup M 44 (l3).toNat (fw ((M 44 (l3).toNat) + (M 44 (fw (l3 - 1)).toNat)))))) rfl ?_ ?_
    · rw [fw_id g1]; exact ⟨g0, g2, g0⟩
    rw [fw_id g1, fw_id g3]
    obtain ⟨g0, h⟩ := fgd h
    refine Wp.run 2 (f' := (d + 1, 110, 114, 0, 0, [some (fA 43), _, _, some (fI (fw (l3 + 1))), _, _], [])) (h' := (156, fjl L, (fup M 44 (l3).toNat ((M 44 (l3).toNat) + (M 44 (l3 - 1).toNat))))) rfl trivial ?_
    rw [fw_id g0]
    exact hC _ _ _ _ _ _ (Option.some.inj h).symm
theorem s_X8_sumSlipTimes_b114_fr {M : fM} {l3 : Int} {r : ((Int × fM) ⊕ fM)} (h : s_X8_sumSlipTimes_b114 M l3 = some r) : fSame s_X8_sumSlipTimes_mods M (Sum.elim (fun s => s.2) (fun e => e) r) := by
  unfold s_X8_sumSlipTimes_b114 at h
  by_cases c : 364 ≤ l3
  · replace h := fps c h
    obtain rfl := Option.some.inj h
    exact fs_refl
  · replace h := fng c h
    replace h := (fgd h).2
    replace h := (fgd h).2
    obtain rfl := Option.some.inj h
    exact fs_up fs_refl (.inl (by decide))
noncomputable def s_X8_sumSlipTimes_l114 (s : (Int × fM)) : Option fM := fLp (fun s => s_X8_sumSlipTimes_b114 s.2 s.1) s
theorem s_X8_sumSlipTimes_l114_ok {d L : Nat} {M : fM} {l3 : Int} {o1 o2 o4 o5 : Option fV} {r : fM} {Q : fO → fH → Prop} (h : s_X8_sumSlipTimes_l114 (l3, M) = some r) (hE : ∀ (e : fM) (o0' o1' o2' o3' o4' o5' : Option fV), r = e → Wp (d + 1, 110, 144, 0, 0, [o0', o1', o2', o3', o4', o5'], []) (156, fjl L, e) Q) : Wp (d + 1, 110, 114, 0, 0, [some (fA 43), o1, o2, some (fI l3), o4, o5], []) (156, fjl L, M) Q := by
  refine fLp_wp (W := fun s => ∀ (o1 o2 o4 o5 : Option fV), Wp (d + 1, 110, 114, 0, 0, [some (fA 43), o1, o2, some (fI s.1), o4, o5], []) (156, fjl L, s.2) Q) (e := r) ?_ h _ _ _ _
  intro s r1 h hC hX o1 o2 o4 o5
  refine s_X8_sumSlipTimes_b114_ok (d := d) h (fun a0 a1 _ _ _ _ e1 => ?_) (fun e u0 u1 u2 u3 u4 u5 e1 => hE e u0 u1 u2 u3 u4 u5 (hX _ e1).symm)
  exact hC _ e1 _ _ _ _
theorem s_X8_sumSlipTimes_l114_fr {M : fM} {l3 : Int} {r : fM} (h : s_X8_sumSlipTimes_l114 (l3, M) = some r) : fSame s_X8_sumSlipTimes_mods M ((fun e => e) r) := by
  refine fLp_inv (I := fun s => fSame s_X8_sumSlipTimes_mods M s.2) (J := fun r => fSame s_X8_sumSlipTimes_mods M ((fun e => e) r)) h fs_refl (fun s s1 hs hb => ?_) (fun s e hs hb => ?_)
  · exact fs_trans hs (s_X8_sumSlipTimes_b114_fr hb)
  · exact fs_trans hs (s_X8_sumSlipTimes_b114_fr hb)
noncomputable def s_X8_sumSlipTimes (M : fM) (l1 l2 : Int) : Option (Unit × fM) :=
  (s_J7_fill_44 M 1).bind fun y5 =>
    (s_X8_sumSlipTimes_l10 l1 l2 (0, y5.2)).bind fun e10 =>
      (s_X8_sumSlipTimes_l114 (1, e10)).bind fun e114 =>
        some ((), e114)
theorem s_X8_sumSlipTimes_ok {d L : Nat} {M : fM} {l1 l2 : Int} {r : (Unit × fM)} {Q : fO → fH → Prop} (h : s_X8_sumSlipTimes M l1 l2 = some r) (H : Q (oV r.1) (156, fjl L, r.2)) : Wp (d + 1, 110, 0, 0, 0, [some (fA 43), some (fI l1), some (fI l2), none, none, none], []) (156, fjl L, M) Q := by
  unfold s_X8_sumSlipTimes at h
  refine Wp.run 3 (f' := (d + 1, 110, 5, 0, 0, [some (fA 43), some (fI l1), some (fI l2), _, _, _], [fI 1, fA 44])) (h' := (156, fjl L, M)) rfl trivial ?_
  obtain ⟨y5, hy, h⟩ := fbd h
  refine Wp.call rfl (by decide) (s_J7_fill_44_ok (d := d + 0) hy ?_)
  show Wp (d + 1, 110, 8, 0, 0, [some (fA 43), some (fI l1), some (fI l2), _, _, _], []) (156, fjl L, y5.2) Q
  refine Wp.run 2 (f' := (d + 1, 110, 10, 0, 0, [some (fA 43), some (fI l1), some (fI l2), some (fI 0), _, _], [])) (h' := (156, fjl L, y5.2)) rfl trivial ?_
  obtain ⟨e10, hy, h⟩ := fbd h
  refine s_X8_sumSlipTimes_l10_ok hy (fun x u1 u2 u3 u4 u5 ex => ?_)
  cases ex
  show Wp (d + 1, 110, 112, 0, 0, [some (fA 43), u1, u2, u3, u4, u5], []) (156, fjl L, e10) Q
  refine Wp.run 2 (f' := (d + 1, 110, 114, 0, 0, [some (fA 43), _, _, some (fI 1), _, _], [])) (h' := (156, fjl L, e10)) rfl trivial ?_
  obtain ⟨e114, hy, h⟩ := fbd h
  refine s_X8_sumSlipTimes_l114_ok hy (fun x u0 u1 u2 u3 u4 u5 ex => ?_)
  cases ex
  show Wp (d + 1, 110, 144, 0, 0, [u0, u1, u2, u3, u4, u5], []) (156, fjl L, e114) Q
  obtain rfl := Option.some.inj h
  exact Wp.done rfl (by decide) H
theorem s_X8_sumSlipTimes_fr {M : fM} {l1 l2 : Int} {r : (Unit × fM)} (h : s_X8_sumSlipTimes M l1 l2 = some r) : fSame s_X8_sumSlipTimes_mods M r.2 := by
  unfold s_X8_sumSlipTimes at h
  obtain ⟨y5, hy, h⟩ := fbd h
  have k5 := fs_trans (l := s_X8_sumSlipTimes_mods) fs_refl (fs_mono (l := s_J7_fill_44_mods) (by decide) (s_J7_fill_44_fr hy))
  obtain ⟨e10, hy, h⟩ := fbd h
  have k10 := fs_trans (l := s_X8_sumSlipTimes_mods) k5 (s_X8_sumSlipTimes_l10_fr hy)
  obtain ⟨e114, hy, h⟩ := fbd h
  have k114 := fs_trans (l := s_X8_sumSlipTimes_mods) k10 (s_X8_sumSlipTimes_l114_fr hy)
  obtain rfl := Option.some.inj h
  exact k114
noncomputable def s_X11_weekOf (M : fM) (l0 : Int) : Option Int :=
  some (fdiv l0 7)
theorem s_X11_weekOf_ok {d L : Nat} {M : fM} {l0 : Int} {r : Int} {Q : fO → fH → Prop} (h : s_X11_weekOf M l0 = some r) (H : Q (oI r) (156, fjl L, M)) : Wp (d + 0, 193, 0, 0, 0, [some (fI l0)], []) (156, fjl L, M) Q := by
  unfold s_X11_weekOf at h
  refine Wp.run 3 (P := [(7 : Int) ≠ 0]) (f' := (d + 0, 193, 4, 0, 0, [_], [fI (fdiv l0 7)])) (h' := (156, fjl L, M)) rfl ?_ ?_
  · exact (by decide : (7 : Int) ≠ 0)
  obtain rfl := Option.some.inj h
  exact Wp.done rfl (by decide) H
abbrev s_X8_sumStoveFall_mods : List (Nat × Option Nat) := [(45, none)]
noncomputable def s_X8_sumStoveFall_j47 (M : fM) (l1 l2 l3 : Int) : Option ((Int × Int × fM) ⊕ fM) :=
  if fin (l2 + l1) ∧ (0 ≤ l3 ∧ l3 < 364) ∧ fin (l3 + 1) then
    some (.inl ((l2 + l1), (l3 + 1), (fup M 45 (l3).toNat (l2 + l1))))
  else none
theorem s_X8_sumStoveFall_j47_ok {d L : Nat} {M : fM} {l1 l2 l3 : Int} {o4 : Option fV} {r : ((Int × Int × fM) ⊕ fM)} {Q : fO → fH → Prop} (h : s_X8_sumStoveFall_j47 M l1 l2 l3 = some r) (hC : ∀ (l2' l3' : Int) (M' : fM) (o4' : Option fV), r = .inl (l2', l3', M') → Wp (d + 1, 111, 20, 0, 0, [some (fA 43), some (fI l1), some (fI l2'), some (fI l3'), o4'], []) (156, fjl L, M') Q) (hE : ∀ (e : fM) (o0' o1' o2' o3' o4' : Option fV), r = .inr e → Wp (d + 1, 111, 64, 0, 0, [o0', o1', o2', o3', o4'], []) (156, fjl L, e) Q) : Wp (d + 1, 111, 47, 0, 0, [some (fA 43), some (fI l1), some (fI l2), some (fI l3), o4], []) (156, fjl L, M) Q := by
  unfold s_X8_sumStoveFall_j47 at h
  obtain ⟨⟨g0, g1, g2⟩, h⟩ := fgd h
  refine Wp.run 11 (P := [0 ≤ l3 ∧ l3 < 364]) (f' := (d + 1, 111, 20, 0, 0, [some (fA 43), some (fI l1), some (fI (fw (l2 + l1))), some (fI (fw (l3 + 1))), _], [])) (h' := (156, fjl L, (fup M 45 (l3).toNat (fw (l2 + l1))))) rfl ?_ ?_
  · exact g1
  rw [fw_id g0, fw_id g2]
  exact hC _ _ _ _ (Option.some.inj h).symm
theorem s_X8_sumStoveFall_j47_fr {M : fM} {l1 l2 l3 : Int} {r : ((Int × Int × fM) ⊕ fM)} (h : s_X8_sumStoveFall_j47 M l1 l2 l3 = some r) : fSame s_X8_sumStoveFall_mods M (Sum.elim (fun s => s.2.2) (fun e => e) r) := by
  unfold s_X8_sumStoveFall_j47 at h
  replace h := (fgd h).2
  obtain rfl := Option.some.inj h
  exact fs_up fs_refl (.inl (by decide))
noncomputable def s_X8_sumStoveFall_b20 (M : fM) (l1 l2 l3 : Int) : Option ((Int × Int × fM) ⊕ fM) :=
  if 364 ≤ l3 then
    some (.inr M)
  else
    (s_X11_weekOf M l3).bind fun y28 =>
      if y28 ≤ 8 then
        s_X8_sumStoveFall_j47 M l1 l2 l3
      else
        if y28 < 44 then
          if (0 ≤ l3 ∧ l3 < 364) ∧ fin (l3 + 1) then
            some (.inl (l2, (l3 + 1), (fup M 45 (l3).toNat l2)))
          else none
        else
          s_X8_sumStoveFall_j47 M l1 l2 l3
theorem s_X8_sumStoveFall_b20_ok {d L : Nat} {M : fM} {l1 l2 l3 : Int} {o4 : Option fV} {r : ((Int × Int × fM) ⊕ fM)} {Q : fO → fH → Prop} (h : s_X8_sumStoveFall_b20 M l1 l2 l3 = some r) (hC : ∀ (l2' l3' : Int) (M' : fM) (o4' : Option fV), r = .inl (l2', l3', M') → Wp (d + 1, 111, 20, 0, 0, [some (fA 43), some (fI l1), some (fI l2'), some (fI l3'), o4'], []) (156, fjl L, M') Q) (hE : ∀ (e : fM) (o0' o1' o2' o3' o4' : Option fV), r = .inr e → Wp (d + 1, 111, 64, 0, 0, [o0', o1', o2', o3', o4'], []) (156, fjl L, e) Q) : Wp (d + 1, 111, 20, 0, 0, [some (fA 43), some (fI l1), some (fI l2), some (fI l3), o4], []) (156, fjl L, M) Q := by
  unfold s_X8_sumStoveFall_b20 at h
  refine Wp.run 2 (f' := (d + 1, 111, 24, 0, 0, [some (fA 43), some (fI l1), some (fI l2), some (fI l3), _], [fI 364, fI l3])) (h' := (156, fjl L, M)) rfl trivial ?_
  refine Wp.br rfl (fun (c : 364 ≤ l3) => ?_) (fun (c : ¬ (364 ≤ l3)) => ?_)
  · replace h := fps c h
    exact hE _ _ _ _ _ _ (Option.some.inj h).symm
  · replace h := fng c h
    refine Wp.run 1 (f' := (d + 1, 111, 28, 0, 0, [some (fA 43), some (fI l1), some (fI l2), some (fI l3), _], [fI l3])) (h' := (156, fjl L, M)) rfl trivial ?_
    obtain ⟨y28, hy, h⟩ := fbd h
    refine Wp.call rfl (by decide) (s_X11_weekOf_ok (d := d + 0) hy ?_)
    show Wp (d + 1, 111, 31, 0, 0, [some (fA 43), some (fI l1), some (fI l2), some (fI l3), _], [fI y28]) (156, fjl L, M) Q
    refine Wp.run 3 (f' := (d + 1, 111, 37, 0, 0, [some (fA 43), some (fI l1), some (fI l2), some (fI l3), some (fI y28)], [fI 8, fI y28])) (h' := (156, fjl L, M)) rfl trivial ?_
    refine Wp.br rfl (fun (c : y28 ≤ 8) => ?_) (fun (c : ¬ (y28 ≤ 8)) => ?_)
    · replace h := fps c h
      exact s_X8_sumStoveFall_j47_ok h hC hE
    · replace h := fng c h
      refine Wp.run 2 (f' := (d + 1, 111, 44, 0, 0, [some (fA 43), some (fI l1), some (fI l2), some (fI l3), _], [fI 44, fI y28])) (h' := (156, fjl L, M)) rfl trivial ?_
      refine Wp.br rfl (fun (c : y28 < 44) => ?_) (fun (c : ¬ (y28 < 44)) => ?_)
      · replace h := fps c h
        obtain ⟨⟨g0, g1⟩, h⟩ := fgd h
        refine Wp.run 7 (P := [0 ≤ l3 ∧ l3 < 364]) (f' := (d + 1, 111, 20, 0, 0, [some (fA 43), some (fI l1), some (fI l2), some (fI (fw (l3 + 1))), _], [])) (h' := (156, fjl L, (fup M 45 (l3).toNat l2))) rfl ?_ ?_
        · exact g0
        rw [fw_id g1]
        exact hC _ _ _ _ (Option.some.inj h).symm
      · replace h := fng c h
        exact s_X8_sumStoveFall_j47_ok h hC hE
theorem s_X8_sumStoveFall_b20_fr {M : fM} {l1 l2 l3 : Int} {r : ((Int × Int × fM) ⊕ fM)} (h : s_X8_sumStoveFall_b20 M l1 l2 l3 = some r) : fSame s_X8_sumStoveFall_mods M (Sum.elim (fun s => s.2.2) (fun e => e) r) := by
  unfold s_X8_sumStoveFall_b20 at h
  by_cases c : 364 ≤ l3
  · replace h := fps c h
    obtain rfl := Option.some.inj h
    exact fs_refl
  · replace h := fng c h
    obtain ⟨y28, hy, h⟩ := fbd h
    by_cases c : y28 ≤ 8
    · replace h := fps c h
      exact fs_trans fs_refl (s_X8_sumStoveFall_j47_fr h)
    · replace h := fng c h
      by_cases c : y28 < 44
      · replace h := fps c h
        replace h := (fgd h).2
        obtain rfl := Option.some.inj h
        exact fs_up fs_refl (.inl (by decide))
      · replace h := fng c h
        exact fs_trans fs_refl (s_X8_sumStoveFall_j47_fr h)
noncomputable def s_X8_sumStoveFall_l20 (l1 : Int) (s : (Int × Int × fM)) : Option fM := fLp (fun s => s_X8_sumStoveFall_b20 s.2.2 l1 s.1 s.2.1) s
theorem s_X8_sumStoveFall_l20_ok {d L : Nat} {M : fM} {l1 l2 l3 : Int} {o4 : Option fV} {r : fM} {Q : fO → fH → Prop} (h : s_X8_sumStoveFall_l20 l1 (l2, l3, M) = some r) (hE : ∀ (e : fM) (o0' o1' o2' o3' o4' : Option fV), r = e → Wp (d + 1, 111, 64, 0, 0, [o0', o1', o2', o3', o4'], []) (156, fjl L, e) Q) : Wp (d + 1, 111, 20, 0, 0, [some (fA 43), some (fI l1), some (fI l2), some (fI l3), o4], []) (156, fjl L, M) Q := by
  refine fLp_wp (W := fun s => ∀ (o4 : Option fV), Wp (d + 1, 111, 20, 0, 0, [some (fA 43), some (fI l1), some (fI s.1), some (fI s.2.1), o4], []) (156, fjl L, s.2.2) Q) (e := r) ?_ h _
  intro s r1 h hC hX o4
  refine s_X8_sumStoveFall_b20_ok (d := d) h (fun a0 a1 a2 _ e1 => ?_) (fun e u0 u1 u2 u3 u4 e1 => hE e u0 u1 u2 u3 u4 (hX _ e1).symm)
  exact hC _ e1 _
theorem s_X8_sumStoveFall_l20_fr {M : fM} {l1 l2 l3 : Int} {r : fM} (h : s_X8_sumStoveFall_l20 l1 (l2, l3, M) = some r) : fSame s_X8_sumStoveFall_mods M ((fun e => e) r) := by
  refine fLp_inv (I := fun s => fSame s_X8_sumStoveFall_mods M s.2.2) (J := fun r => fSame s_X8_sumStoveFall_mods M ((fun e => e) r)) h fs_refl (fun s s1 hs hb => ?_) (fun s e hs hb => ?_)
  · exact fs_trans hs (s_X8_sumStoveFall_b20_fr hb)
  · exact fs_trans hs (s_X8_sumStoveFall_b20_fr hb)
noncomputable def s_X8_sumStoveFall (M : fM) : Option (Unit × fM) :=
  (s_X2_fact_4 M (M 43 5) 7).bind fun y10 =>
    if fin (y10 * 2) then
      (s_X8_sumStoveFall_l20 (y10 * 2) (0, 0, M)).bind fun e20 =>
        some ((), e20)
    else none
theorem s_X8_sumStoveFall_ok {d L : Nat} {M : fM} {r : (Unit × fM)} {Q : fO → fH → Prop} (h : s_X8_sumStoveFall M = some r) (H : Q (oV r.1) (156, fjl L, r.2)) : Wp (d + 1, 111, 0, 0, 0, [some (fA 43), none, none, none, none], []) (156, fjl L, M) Q := by
  unfold s_X8_sumStoveFall at h
  refine Wp.run 5 (f' := (d + 1, 111, 10, 0, 0, [some (fA 43), _, _, _, _], [fI 7, fI (M 43 5), fA 4])) (h' := (156, fjl L, M)) rfl trivial ?_
  obtain ⟨y10, hy, h⟩ := fbd h
  refine Wp.call rfl (by decide) (s_X2_fact_4_ok (d := d + 0) hy ?_)
  show Wp (d + 1, 111, 13, 0, 0, [some (fA 43), _, _, _, _], [fI y10]) (156, fjl L, M) Q
  obtain ⟨g0, h⟩ := fgd h
  refine Wp.run 7 (f' := (d + 1, 111, 20, 0, 0, [some (fA 43), some (fI (fw (y10 * 2))), some (fI 0), some (fI 0), _], [])) (h' := (156, fjl L, M)) rfl trivial ?_
  rw [fw_id g0]
  obtain ⟨e20, hy, h⟩ := fbd h
  refine s_X8_sumStoveFall_l20_ok hy (fun x u0 u1 u2 u3 u4 ex => ?_)
  cases ex
  show Wp (d + 1, 111, 64, 0, 0, [u0, u1, u2, u3, u4], []) (156, fjl L, e20) Q
  obtain rfl := Option.some.inj h
  exact Wp.done rfl (by decide) H
theorem s_X8_sumStoveFall_fr {M : fM} {r : (Unit × fM)} (h : s_X8_sumStoveFall M = some r) : fSame s_X8_sumStoveFall_mods M r.2 := by
  unfold s_X8_sumStoveFall at h
  obtain ⟨y10, hy, h⟩ := fbd h
  replace h := (fgd h).2
  obtain ⟨e20, hy, h⟩ := fbd h
  have k20 := fs_trans (l := s_X8_sumStoveFall_mods) fs_refl (s_X8_sumStoveFall_l20_fr hy)
  obtain rfl := Option.some.inj h
  exact k20
abbrev s_X8_look_mods : List (Nat × Option Nat) := [(43, some 5), (43, some 6), (44, none), (45, none), (46, none)]
noncomputable def s_X8_look_b44 (M : fM) (l2 l3 l4 l5 : Int) : Option ((Int × fM) ⊕ fM) :=
  if 12 ≤ l5 then
    some (.inr M)
  else
    if 0 ≤ l4 then
      (s_X6_leftOf_18 M l4 l5).bind fun y74 =>
        if (0 ≤ l4 ∧ l4 < 200) then
          (s_X2_forkOf_4 M (M 23 (l4).toNat)).bind fun y91 =>
            if fin (y74 + y91) ∧ (0 ≤ l5 ∧ l5 < 12) ∧ fin (l5 + 1) then
              some (.inl ((l5 + 1), (fup M 46 (l5).toNat (y74 + y91))))
            else none
        else none
    else
      if (0 ≤ l5 ∧ l5 < 12) ∧ fin (l5 + 1) then
        some (.inl ((l5 + 1), (fup M 46 (l5).toNat 0)))
      else none
theorem s_X8_look_b44_ok {d L : Nat} {M : fM} {l2 l3 l4 l5 : Int} {o1 : Option fV} {r : ((Int × fM) ⊕ fM)} {Q : fO → fH → Prop} (h : s_X8_look_b44 M l2 l3 l4 l5 = some r) (hC : ∀ (l5' : Int) (M' : fM) (o1' : Option fV), r = .inl (l5', M') → Wp (d + 2, 109, 44, 0, 0, [some (fA 43), o1', some (fI l2), some (fI l3), some (fI l4), some (fI l5')], []) (156, fjl L, M') Q) (hE : ∀ (e : fM) (o1' o4' o5' : Option fV), r = .inr e → Wp (d + 2, 109, 102, 0, 0, [some (fA 43), o1', some (fI l2), some (fI l3), o4', o5'], []) (156, fjl L, e) Q) : Wp (d + 2, 109, 44, 0, 0, [some (fA 43), o1, some (fI l2), some (fI l3), some (fI l4), some (fI l5)], []) (156, fjl L, M) Q := by
  unfold s_X8_look_b44 at h
  refine Wp.run 2 (f' := (d + 2, 109, 48, 0, 0, [some (fA 43), _, some (fI l2), some (fI l3), some (fI l4), some (fI l5)], [fI 12, fI l5])) (h' := (156, fjl L, M)) rfl trivial ?_
  refine Wp.br rfl (fun (c : 12 ≤ l5) => ?_) (fun (c : ¬ (12 ≤ l5)) => ?_)
  · replace h := fps c h
    exact hE _ _ _ _ (Option.some.inj h).symm
  · replace h := fng c h
    refine Wp.run 4 (f' := (d + 2, 109, 59, 0, 0, [some (fA 43), _, some (fI l2), some (fI l3), some (fI l4), some (fI l5)], [fI l4, fI l5, fA 46])) (h' := (156, fjl L, M)) rfl trivial ?_
    refine Wp.br rfl (fun (c : 0 ≤ l4) => ?_) (fun (c : ¬ (0 ≤ l4)) => ?_)
    · replace h := fps c h
      refine Wp.run 4 (f' := (d + 2, 109, 74, 0, 0, [some (fA 43), _, some (fI l2), some (fI l3), some (fI l4), some (fI l5)], [fI l5, fI l4, fA 18, fI l5, fA 46])) (h' := (156, fjl L, M)) rfl trivial ?_
      obtain ⟨y74, hy, h⟩ := fbd h
      refine Wp.call rfl (by decide) (s_X6_leftOf_18_ok (d := d + 1) hy ?_)
      show Wp (d + 2, 109, 77, 0, 0, [some (fA 43), _, some (fI l2), some (fI l3), some (fI l4), some (fI l5)], [fI y74, fI l5, fA 46]) (156, fjl L, M) Q
      obtain ⟨g0, h⟩ := fgd h
      refine Wp.run 7 (P := [0 ≤ l4 ∧ l4 < 200]) (f' := (d + 2, 109, 91, 0, 0, [some (fA 43), _, some (fI l2), some (fI l3), some (fI l4), some (fI l5)], [fI (M 23 (l4).toNat), fA 4, fI y74, fI l5, fA 46])) (h' := (156, fjl L, M)) rfl ?_ ?_
      · exact g0
      obtain ⟨y91, hy, h⟩ := fbd h
      refine Wp.call rfl (by decide) (s_X2_forkOf_4_ok (d := d + 1) hy ?_)
      show Wp (d + 2, 109, 94, 0, 0, [some (fA 43), _, some (fI l2), some (fI l3), some (fI l4), some (fI l5)], [fI y91, fI y74, fI l5, fA 46]) (156, fjl L, M) Q
      obtain ⟨⟨g0, g1, g2⟩, h⟩ := fgd h
      refine Wp.run 4 (P := [0 ≤ l5 ∧ l5 < 12]) (f' := (d + 2, 109, 44, 0, 0, [some (fA 43), _, some (fI l2), some (fI l3), some (fI l4), some (fI (fw (l5 + 1)))], [])) (h' := (156, fjl L, (fup M 46 (l5).toNat (fw (y74 + y91))))) rfl ?_ ?_
      · exact g1
      rw [fw_id g2, fw_id g0]
      exact hC _ _ _ (Option.some.inj h).symm
    · replace h := fng c h
      obtain ⟨⟨g0, g1⟩, h⟩ := fgd h
      refine Wp.run 5 (P := [0 ≤ l5 ∧ l5 < 12]) (f' := (d + 2, 109, 44, 0, 0, [some (fA 43), _, some (fI l2), some (fI l3), some (fI l4), some (fI (fw (l5 + 1)))], [])) (h' := (156, fjl L, (fup M 46 (l5).toNat 0))) rfl ?_ ?_
      · exact g0
      rw [fw_id g1]
      exact hC _ _ _ (Option.some.inj h).symm
theorem s_X8_look_b44_fr {M : fM} {l2 l3 l4 l5 : Int} {r : ((Int × fM) ⊕ fM)} (h : s_X8_look_b44 M l2 l3 l4 l5 = some r) : fSame s_X8_look_mods M (Sum.elim (fun s => s.2) (fun e => e) r) := by
  unfold s_X8_look_b44 at h
  by_cases c : 12 ≤ l5
  · replace h := fps c h
    obtain rfl := Option.some.inj h
    exact fs_refl
  · replace h := fng c h
    by_cases c : 0 ≤ l4
    · replace h := fps c h
      obtain ⟨y74, hy, h⟩ := fbd h
      replace h := (fgd h).2
      obtain ⟨y91, hy, h⟩ := fbd h
      replace h := (fgd h).2
      obtain rfl := Option.some.inj h
      exact fs_up fs_refl (.inl (by decide))
    · replace h := fng c h
      replace h := (fgd h).2
      obtain rfl := Option.some.inj h
      exact fs_up fs_refl (.inl (by decide))
noncomputable def s_X8_look_l44 (l2 l3 l4 : Int) (s : (Int × fM)) : Option fM := fLp (fun s => s_X8_look_b44 s.2 l2 l3 l4 s.1) s
theorem s_X8_look_l44_ok {d L : Nat} {M : fM} {l2 l3 l4 l5 : Int} {o1 : Option fV} {r : fM} {Q : fO → fH → Prop} (h : s_X8_look_l44 l2 l3 l4 (l5, M) = some r) (hE : ∀ (e : fM) (o1' o4' o5' : Option fV), r = e → Wp (d + 2, 109, 102, 0, 0, [some (fA 43), o1', some (fI l2), some (fI l3), o4', o5'], []) (156, fjl L, e) Q) : Wp (d + 2, 109, 44, 0, 0, [some (fA 43), o1, some (fI l2), some (fI l3), some (fI l4), some (fI l5)], []) (156, fjl L, M) Q := by
  refine fLp_wp (W := fun s => ∀ (o1 : Option fV), Wp (d + 2, 109, 44, 0, 0, [some (fA 43), o1, some (fI l2), some (fI l3), some (fI l4), some (fI s.1)], []) (156, fjl L, s.2) Q) (e := r) ?_ h _
  intro s r1 h hC hX o1
  refine s_X8_look_b44_ok (d := d) h (fun a0 a1 _ e1 => ?_) (fun e u0 u1 u2 e1 => hE e u0 u1 u2 (hX _ e1).symm)
  exact hC _ e1 _
theorem s_X8_look_l44_fr {M : fM} {l2 l3 l4 l5 : Int} {r : fM} (h : s_X8_look_l44 l2 l3 l4 (l5, M) = some r) : fSame s_X8_look_mods M ((fun e => e) r) := by
  refine fLp_inv (I := fun s => fSame s_X8_look_mods M s.2) (J := fun r => fSame s_X8_look_mods M ((fun e => e) r)) h fs_refl (fun s s1 hs hb => ?_) (fun s e hs hb => ?_)
  · exact fs_trans hs (s_X8_look_b44_fr hb)
  · exact fs_trans hs (s_X8_look_b44_fr hb)
noncomputable def s_X8_look_j38 (M : fM) (l2 l3 l4 t1 : Int) : Option (Unit × fM) :=
  (s_X8_look_l44 l2 l3 l4 (0, (fup M 43 6 t1))).bind fun e44 =>
    (s_X8_sumSlipTimes e44 l2 l3).bind fun y105 =>
      (s_X8_sumStoveFall y105.2).bind fun y109 =>
        some ((), y109.2)
theorem s_X8_look_j38_ok {d L : Nat} {M : fM} {l2 l3 l4 t1 : Int} {o1 o5 : Option fV} {r : (Unit × fM)} {Q : fO → fH → Prop} (h : s_X8_look_j38 M l2 l3 l4 t1 = some r) (H : Q (oV r.1) (156, fjl L, r.2)) : Wp (d + 2, 109, 38, 0, 0, [some (fA 43), o1, some (fI l2), some (fI l3), some (fI l4), o5], [fI t1, fA 43]) (156, fjl L, M) Q := by
  unfold s_X8_look_j38 at h
  refine Wp.run 3 (f' := (d + 2, 109, 44, 0, 0, [some (fA 43), _, some (fI l2), some (fI l3), some (fI l4), some (fI 0)], [])) (h' := (156, fjl L, (fup M 43 6 t1))) rfl trivial ?_
  obtain ⟨e44, hy, h⟩ := fbd h
  refine s_X8_look_l44_ok hy (fun x u1 u4 u5 ex => ?_)
  cases ex
  show Wp (d + 2, 109, 102, 0, 0, [some (fA 43), u1, some (fI l2), some (fI l3), u4, u5], []) (156, fjl L, e44) Q
  refine Wp.run 3 (f' := (d + 2, 109, 105, 0, 0, [some (fA 43), _, _, _, _, _], [fI l3, fI l2, fA 43])) (h' := (156, fjl L, e44)) rfl trivial ?_
  obtain ⟨y105, hy, h⟩ := fbd h
  refine Wp.call rfl (by decide) (s_X8_sumSlipTimes_ok (d := d + 0) hy ?_)
  show Wp (d + 2, 109, 108, 0, 0, [some (fA 43), _, _, _, _, _], []) (156, fjl L, y105.2) Q
  refine Wp.run 1 (f' := (d + 2, 109, 109, 0, 0, [_, _, _, _, _, _], [fA 43])) (h' := (156, fjl L, y105.2)) rfl trivial ?_
  obtain ⟨y109, hy, h⟩ := fbd h
  refine Wp.call rfl (by decide) (s_X8_sumStoveFall_ok (d := d + 0) hy ?_)
  show Wp (d + 2, 109, 112, 0, 0, [_, _, _, _, _, _], []) (156, fjl L, y109.2) Q
  obtain rfl := Option.some.inj h
  exact Wp.done rfl (by decide) H
theorem s_X8_look_j38_fr {M : fM} {l2 l3 l4 t1 : Int} {r : (Unit × fM)} (h : s_X8_look_j38 M l2 l3 l4 t1 = some r) : fSame s_X8_look_mods M r.2 := by
  unfold s_X8_look_j38 at h
  obtain ⟨e44, hy, h⟩ := fbd h
  have k44 := fs_trans (l := s_X8_look_mods) (fs_up fs_refl (.inr (by decide))) (s_X8_look_l44_fr hy)
  obtain ⟨y105, hy, h⟩ := fbd h
  have k105 := fs_trans (l := s_X8_look_mods) k44 (fs_mono (l := s_X8_sumSlipTimes_mods) (by decide) (s_X8_sumSlipTimes_fr hy))
  obtain ⟨y109, hy, h⟩ := fbd h
  have k109 := fs_trans (l := s_X8_look_mods) k105 (fs_mono (l := s_X8_sumStoveFall_mods) (by decide) (s_X8_sumStoveFall_fr hy))
  obtain rfl := Option.some.inj h
  exact k109
noncomputable def s_X8_look (M : fM) (l1 l2 l3 : Int) : Option (Unit × fM) :=
  (s_X6_latest_18 (fup M 43 5 l1) 0 l1 l2 l3).bind fun y13 =>
    if 0 ≤ y13 then
      if (0 ≤ y13 ∧ y13 < 200) then
        s_X8_look_j38 (fup M 43 5 l1) l2 l3 y13 (M 21 (y13).toNat)
      else none
    else
      s_X8_look_j38 (fup M 43 5 l1) l2 l3 y13 (-1)
theorem s_X8_look_ok {d L : Nat} {M : fM} {l1 l2 l3 : Int} {r : (Unit × fM)} {Q : fO → fH → Prop} (h : s_X8_look M l1 l2 l3 = some r) (H : Q (oV r.1) (156, fjl L, r.2)) : Wp (d + 2, 109, 0, 0, 0, [some (fA 43), some (fI l1), some (fI l2), some (fI l3), none, none], []) (156, fjl L, M) Q := by
  unfold s_X8_look at h
  refine Wp.run 9 (f' := (d + 2, 109, 13, 0, 0, [some (fA 43), _, some (fI l2), some (fI l3), _, _], [fI l3, fI l2, fI l1, fI 0, fA 18])) (h' := (156, fjl L, (fup M 43 5 l1))) rfl trivial ?_
  obtain ⟨y13, hy, h⟩ := fbd h
  refine Wp.call rfl (by decide) (s_X6_latest_18_ok (d := d + 0) hy ?_)
  show Wp (d + 2, 109, 16, 0, 0, [some (fA 43), _, some (fI l2), some (fI l3), _, _], [fI y13]) (156, fjl L, (fup M 43 5 l1)) Q
  refine Wp.run 3 (f' := (d + 2, 109, 21, 0, 0, [some (fA 43), _, some (fI l2), some (fI l3), some (fI y13), _], [fI y13, fA 43])) (h' := (156, fjl L, (fup M 43 5 l1))) rfl trivial ?_
  refine Wp.br rfl (fun (c : 0 ≤ y13) => ?_) (fun (c : ¬ (0 ≤ y13)) => ?_)
  · replace h := fps c h
    obtain ⟨g0, h⟩ := fgd h
    refine Wp.run 5 (P := [0 ≤ y13 ∧ y13 < 200]) (f' := (d + 2, 109, 38, 0, 0, [some (fA 43), _, some (fI l2), some (fI l3), some (fI y13), _], [fI (M 21 (y13).toNat), fA 43])) (h' := (156, fjl L, (fup M 43 5 l1))) rfl ?_ ?_
    · exact g0
    exact s_X8_look_j38_ok h H
  · replace h := fng c h
    refine Wp.run 2 (f' := (d + 2, 109, 38, 0, 0, [some (fA 43), _, some (fI l2), some (fI l3), some (fI y13), _], [fI (-1), fA 43])) (h' := (156, fjl L, (fup M 43 5 l1))) rfl trivial ?_
    exact s_X8_look_j38_ok h H
theorem s_X8_look_fr {M : fM} {l1 l2 l3 : Int} {r : (Unit × fM)} (h : s_X8_look M l1 l2 l3 = some r) : fSame s_X8_look_mods M r.2 := by
  unfold s_X8_look at h
  obtain ⟨y13, hy, h⟩ := fbd h
  by_cases c : 0 ≤ y13
  · replace h := fps c h
    replace h := (fgd h).2
    exact fs_trans (fs_up fs_refl (.inr (by decide))) (s_X8_look_j38_fr h)
  · replace h := fng c h
    exact fs_trans (fs_up fs_refl (.inr (by decide))) (s_X8_look_j38_fr h)
noncomputable def s_X8_wasTuned (M : fM) : Option Int :=
  if (M 43 6) < 0 then
    some 0
  else
    some 1
theorem s_X8_wasTuned_ok {d L : Nat} {M : fM} {r : Int} {Q : fO → fH → Prop} (h : s_X8_wasTuned M = some r) (H : Q (oI r) (156, fjl L, M)) : Wp (d + 0, 112, 0, 0, 0, [some (fA 43)], []) (156, fjl L, M) Q := by
  unfold s_X8_wasTuned at h
  refine Wp.run 2 (f' := (d + 0, 112, 4, 0, 0, [_], [fI (M 43 6)])) (h' := (156, fjl L, M)) rfl trivial ?_
  refine Wp.br rfl (fun (c : (M 43 6) < 0) => ?_) (fun (c : ¬ ((M 43 6) < 0)) => ?_)
  · replace h := fps c h
    refine Wp.run 1 (f' := (d + 0, 112, 12, 0, 0, [_], [fI 0])) (h' := (156, fjl L, M)) rfl trivial ?_
    obtain rfl := Option.some.inj h
    exact Wp.done rfl (by decide) H
  · replace h := fng c h
    refine Wp.run 2 (f' := (d + 0, 112, 12, 0, 0, [_], [fI 1])) (h' := (156, fjl L, M)) rfl trivial ?_
    obtain rfl := Option.some.inj h
    exact Wp.done rfl (by decide) H
noncomputable def s_J9_max (M : fM) (l0 l1 : Int) : Option Int :=
  if l0 < l1 then
    some l1
  else
    some l0
theorem s_J9_max_ok {d L : Nat} {M : fM} {l0 l1 : Int} {r : Int} {Q : fO → fH → Prop} (h : s_J9_max M l0 l1 = some r) (H : Q (oI r) (156, fjl L, M)) : Wp (d + 0, 313, 0, 0, 0, [some (fI l0), some (fI l1)], []) (156, fjl L, M) Q := by
  unfold s_J9_max at h
  refine Wp.run 2 (f' := (d + 0, 313, 2, 0, 0, [some (fI l0), some (fI l1)], [fI l1, fI l0])) (h' := (156, fjl L, M)) rfl trivial ?_
  refine Wp.br rfl (fun (c : l0 < l1) => ?_) (fun (c : ¬ (l0 < l1)) => ?_)
  · replace h := fps c h
    refine Wp.run 1 (f' := (d + 0, 313, 10, 0, 0, [_, _], [fI l1])) (h' := (156, fjl L, M)) rfl trivial ?_
    obtain rfl := Option.some.inj h
    exact Wp.done rfl (by decide) H
  · replace h := fng c h
    refine Wp.run 2 (f' := (d + 0, 313, 10, 0, 0, [_, _], [fI l0])) (h' := (156, fjl L, M)) rfl trivial ?_
    obtain rfl := Option.some.inj h
    exact Wp.done rfl (by decide) H
noncomputable def s_X8_offsetUndamped (M : fM) (l1 l2 l3 : Int) : Option Int :=
  if 0 ≤ (M 43 6) then
    if fin ((M 43 5) * 12) ∧ fin (((M 43 5) * 12) + l1) ∧ (0 ≤ (((M 43 5) * 12) + l1) ∧ (((M 43 5) * 12) + l1) < 192) ∧ fin ((M 11 (((M 43 5) * 12) + l1).toNat) + l3) then
      (s_J9_max M 0 ((M 11 (((M 43 5) * 12) + l1).toNat) + l3)).bind fun y29 =>
        if (0 ≤ l2 ∧ l2 < 364) ∧ (0 ≤ (M 43 6) ∧ (M 43 6) < 364) ∧ fin ((M 44 (l2).toNat) - (M 44 (M 43 6).toNat)) then
          if (0 ≤ l1 ∧ l1 < 12) ∧ fin (y29 * ((M 44 (l2).toNat) - (M 44 (M 43 6).toNat))) ∧ fin ((M 46 (l1).toNat) - (y29 * ((M 44 (l2).toNat) - (M 44 (M 43 6).toNat)))) ∧ (0 ≤ l2 ∧ l2 < 364) ∧ (0 ≤ (M 43 6) ∧ (M 43 6) < 364) ∧ fin ((M 45 (l2).toNat) - (M 45 (M 43 6).toNat)) ∧ fin (((M 46 (l1).toNat) - (y29 * ((M 44 (l2).toNat) - (M 44 (M 43 6).toNat)))) - ((M 45 (l2).toNat) - (M 45 (M 43 6).toNat))) then
            some (((M 46 (l1).toNat) - (y29 * ((M 44 (l2).toNat) - (M 44 (M 43 6).toNat)))) - ((M 45 (l2).toNat) - (M 45 (M 43 6).toNat)))
          else none
        else none
    else none
  else
    some 0
theorem s_X8_offsetUndamped_ok {d L : Nat} {M : fM} {l1 l2 l3 : Int} {r : Int} {Q : fO → fH → Prop} (h : s_X8_offsetUndamped M l1 l2 l3 = some r) (H : Q (oI r) (156, fjl L, M)) : Wp (d + 1, 117, 0, 0, 0, [some (fA 43), some (fI l1), some (fI l2), some (fI l3), none, none], []) (156, fjl L, M) Q := by
  unfold s_X8_offsetUndamped at h
  refine Wp.run 2 (f' := (d + 1, 117, 4, 0, 0, [some (fA 43), some (fI l1), some (fI l2), some (fI l3), _, _], [fI (M 43 6)])) (h' := (156, fjl L, M)) rfl trivial ?_
  refine Wp.br rfl (fun (c : 0 ≤ (M 43 6)) => ?_) (fun (c : ¬ (0 ≤ (M 43 6))) => ?_)
  · replace h := fps c h
    obtain ⟨⟨g0, g1, g2, g3⟩, h⟩ := fgd h
    refine Wp.run 13 (P := [0 ≤ (fw ((fw ((M 43 5) * 12)) + l1)) ∧ (fw ((fw ((M 43 5) * 12)) + l1)) < 192]) (f' := (d + 1, 117, 29, 0, 0, [some (fA 43), some (fI l1), some (fI l2), _, _, _], [fI (fw ((M 11 (fw ((fw ((M 43 5) * 12)) + l1)).toNat) + l3)), fI 0])) (h' := (156, fjl L, M)) rfl ?_ ?_
    · rw [fw_id g0, fw_id g1]; exact g2
    rw [fw_id g0, fw_id g1, fw_id g3]
    obtain ⟨y29, hy, h⟩ := fbd h
    refine Wp.call rfl (by decide) (s_J9_max_ok (d := d + 0) hy ?_)
    show Wp (d + 1, 117, 32, 0, 0, [some (fA 43), some (fI l1), some (fI l2), _, _, _], [fI y29]) (156, fjl L, M) Q
    obtain ⟨⟨g0, g1, g2⟩, h⟩ := fgd h
    refine Wp.run 12 (P := [0 ≤ l2 ∧ l2 < 364, 0 ≤ (M 43 6) ∧ (M 43 6) < 364]) (f' := (d + 1, 117, 52, 0, 0, [some (fA 43), some (fI l1), some (fI l2), _, some (fI y29), some (fI (fw ((M 44 (l2).toNat) - (M 44 (M 43 6).toNat))))], [])) (h' := (156, fjl L, M)) rfl ?_ ?_
    · exact ⟨g0, g1⟩
    rw [fw_id g2]
    obtain ⟨⟨g0, g1, g2, g3, g4, g5, g6⟩, h⟩ := fgd h
    refine Wp.run 19 (P := [0 ≤ l1 ∧ l1 < 12, 0 ≤ l2 ∧ l2 < 364, 0 ≤ (M 43 6) ∧ (M 43 6) < 364]) (f' := (d + 1, 117, 81, 0, 0, [_, _, _, _, _, _], [fI (fw ((fw ((M 46 (l1).toNat) - (fw (y29 * ((M 44 (l2).toNat) - (M 44 (M 43 6).toNat)))))) - (fw ((M 45 (l2).toNat) - (M 45 (M 43 6).toNat)))))])) (h' := (156, fjl L, M)) rfl ?_ ?_
    · exact ⟨g0, g3, g4⟩
    rw [fw_id g1, fw_id g2, fw_id g5, fw_id g6]
    obtain rfl := Option.some.inj h
    exact Wp.done rfl (by decide) H
  · replace h := fng c h
    refine Wp.run 1 (f' := (d + 1, 117, 8, 0, 0, [_, _, _, _, _, _], [fI 0])) (h' := (156, fjl L, M)) rfl trivial ?_
    obtain rfl := Option.some.inj h
    exact Wp.done rfl (by decide) H
noncomputable def s_X8_dampFrom (M : fM) (l1 : Int) : Option Int :=
  if 0 ≤ (M 43 6) then
    (s_X11_weekOf M l1).bind fun y18 =>
      if (0 ≤ y18 ∧ y18 < 52) then
        (s_X11_weekOf M (M 43 6)).bind fun y33 =>
          if (0 ≤ y33 ∧ y33 < 52) ∧ fin ((M 6 (y18).toNat) - (M 6 (y33).toNat)) ∧ fin (5 * ((M 6 (y18).toNat) - (M 6 (y33).toNat))) then
            some (5 * ((M 6 (y18).toNat) - (M 6 (y33).toNat)))
          else none
      else none
  else
    some 0
theorem s_X8_dampFrom_ok {d L : Nat} {M : fM} {l1 : Int} {r : Int} {Q : fO → fH → Prop} (h : s_X8_dampFrom M l1 = some r) (H : Q (oI r) (156, fjl L, M)) : Wp (d + 1, 118, 0, 0, 0, [some (fA 43), some (fI l1)], []) (156, fjl L, M) Q := by
  unfold s_X8_dampFrom at h
  refine Wp.run 2 (f' := (d + 1, 118, 4, 0, 0, [some (fA 43), some (fI l1)], [fI (M 43 6)])) (h' := (156, fjl L, M)) rfl trivial ?_
  refine Wp.br rfl (fun (c : 0 ≤ (M 43 6)) => ?_) (fun (c : ¬ (0 ≤ (M 43 6))) => ?_)
  · replace h := fps c h
    refine Wp.run 5 (f' := (d + 1, 118, 18, 0, 0, [some (fA 43), _], [fI l1, fA 6, fI 5])) (h' := (156, fjl L, M)) rfl trivial ?_
    obtain ⟨y18, hy, h⟩ := fbd h
    refine Wp.call rfl (by decide) (s_X11_weekOf_ok (d := d + 0) hy ?_)
    show Wp (d + 1, 118, 21, 0, 0, [some (fA 43), _], [fI y18, fA 6, fI 5]) (156, fjl L, M) Q
    obtain ⟨g0, h⟩ := fgd h
    refine Wp.run 6 (P := [0 ≤ y18 ∧ y18 < 52]) (f' := (d + 1, 118, 33, 0, 0, [_, _], [fI (M 43 6), fA 6, fI (M 6 (y18).toNat), fI 5])) (h' := (156, fjl L, M)) rfl ?_ ?_
    · exact g0
    obtain ⟨y33, hy, h⟩ := fbd h
    refine Wp.call rfl (by decide) (s_X11_weekOf_ok (d := d + 0) hy ?_)
    show Wp (d + 1, 118, 36, 0, 0, [_, _], [fI y33, fA 6, fI (M 6 (y18).toNat), fI 5]) (156, fjl L, M) Q
    obtain ⟨⟨g0, g1, g2⟩, h⟩ := fgd h
    refine Wp.run 3 (P := [0 ≤ y33 ∧ y33 < 52]) (f' := (d + 1, 118, 39, 0, 0, [_, _], [fI (fw (5 * (fw ((M 6 (y18).toNat) - (M 6 (y33).toNat)))))])) (h' := (156, fjl L, M)) rfl ?_ ?_
    · exact g0
    rw [fw_id g1, fw_id g2]
    obtain rfl := Option.some.inj h
    exact Wp.done rfl (by decide) H
  · replace h := fng c h
    refine Wp.run 1 (f' := (d + 1, 118, 8, 0, 0, [_, _], [fI 0])) (h' := (156, fjl L, M)) rfl trivial ?_
    obtain rfl := Option.some.inj h
    exact Wp.done rfl (by decide) H
noncomputable def s_X8_offsetAt (M : fM) (l1 l2 l3 : Int) : Option Int :=
  (s_X8_offsetUndamped M l1 l2 l3).bind fun y4 =>
    (s_X8_dampFrom M l2).bind fun y9 =>
      if fin (y4 + y9) then
        some (y4 + y9)
      else none
theorem s_X8_offsetAt_ok {d L : Nat} {M : fM} {l1 l2 l3 : Int} {r : Int} {Q : fO → fH → Prop} (h : s_X8_offsetAt M l1 l2 l3 = some r) (H : Q (oI r) (156, fjl L, M)) : Wp (d + 2, 116, 0, 0, 0, [some (fA 43), some (fI l1), some (fI l2), some (fI l3)], []) (156, fjl L, M) Q := by
  unfold s_X8_offsetAt at h
  refine Wp.run 4 (f' := (d + 2, 116, 4, 0, 0, [some (fA 43), _, some (fI l2), _], [fI l3, fI l2, fI l1, fA 43])) (h' := (156, fjl L, M)) rfl trivial ?_
  obtain ⟨y4, hy, h⟩ := fbd h
  refine Wp.call rfl (by decide) (s_X8_offsetUndamped_ok (d := d + 0) hy ?_)
  show Wp (d + 2, 116, 7, 0, 0, [some (fA 43), _, some (fI l2), _], [fI y4]) (156, fjl L, M) Q
  refine Wp.run 2 (f' := (d + 2, 116, 9, 0, 0, [_, _, _, _], [fI l2, fA 43, fI y4])) (h' := (156, fjl L, M)) rfl trivial ?_
  obtain ⟨y9, hy, h⟩ := fbd h
  refine Wp.call rfl (by decide) (s_X8_dampFrom_ok (d := d + 0) hy ?_)
  show Wp (d + 2, 116, 12, 0, 0, [_, _, _, _], [fI y9, fI y4]) (156, fjl L, M) Q
  obtain ⟨g0, h⟩ := fgd h
  refine Wp.run 1 (f' := (d + 2, 116, 13, 0, 0, [_, _, _, _], [fI (fw (y4 + y9))])) (h' := (156, fjl L, M)) rfl trivial ?_
  rw [fw_id g0]
  obtain rfl := Option.some.inj h
  exact Wp.done rfl (by decide) H
abbrev s_X11_offset_mods : List (Nat × Option Nat) := [(43, some 5), (43, some 6), (44, none), (45, none), (46, none)]
noncomputable def s_X11_offset (M : fM) (l1 l2 l3 l4 : Int) : Option ((Int ⊕ Unit) × fM) :=
  (s_X11_isAsked M l1 l3 l4).bind fun y5 =>
    if y5 = 0 then
      some (.inr (), M)
    else
      (s_X11_isWithin M l2 12).bind fun y14 =>
        if ¬ y14 = 0 then
          (s_X8_look M l1 l3 l4).bind fun y36 =>
            (s_X8_wasTuned y36.2).bind fun y43 =>
              if ¬ y43 = 0 then
                (s_X8_offsetAt y36.2 l2 l3 0).bind fun y64 =>
                  some (.inl y64, y36.2)
              else
                some (.inr (), y36.2)
        else
          some (.inr (), M)
theorem s_X11_offset_ok {d L : Nat} {M : fM} {l1 l2 l3 l4 : Int} {r : ((Int ⊕ Unit) × fM)} {Q : fO → fH → Prop} (h : s_X11_offset M l1 l2 l3 l4 = some r) (H : Q (oT oI 0 r.1) (156, fjl L, r.2)) : Wp (d + 7, 160, 0, 0, 0, [some (fA 0), some (fI l1), some (fI l2), some (fI l3), some (fI l4)], []) (156, fjl L, M) Q := by
  unfold s_X11_offset at h
  refine Wp.run 4 (f' := (d + 7, 160, 5, 0, 0, [some (fA 0), some (fI l1), some (fI l2), some (fI l3), some (fI l4)], [fI l4, fI l3, fI l1, fA 0])) (h' := (156, fjl L, M)) rfl trivial ?_
  obtain ⟨y5, hy, h⟩ := fbd h
  refine Wp.call rfl (by decide) (s_X11_isAsked_ok (d := d + 4) hy ?_)
  show Wp (d + 7, 160, 8, 0, 0, [some (fA 0), some (fI l1), some (fI l2), some (fI l3), some (fI l4)], [fI y5]) (156, fjl L, M) Q
  refine Wp.br rfl (fun (c : y5 = 0) => ?_) (fun (c : ¬ (y5 = 0)) => ?_)
  · replace h := fps c h
    obtain rfl := Option.some.inj h
    exact Wp.done rfl ⟨Nat.le_add_left_of_le (by decide), rfl, rfl⟩ H
  · replace h := fng c h
    refine Wp.run 2 (f' := (d + 7, 160, 14, 0, 0, [some (fA 0), some (fI l1), some (fI l2), some (fI l3), some (fI l4)], [fI 12, fI l2])) (h' := (156, fjl L, M)) rfl trivial ?_
    obtain ⟨y14, hy, h⟩ := fbd h
    refine Wp.call rfl (by decide) (s_X11_isWithin_ok (d := d + 6) hy ?_)
    show Wp (d + 7, 160, 17, 0, 0, [some (fA 0), some (fI l1), some (fI l2), some (fI l3), some (fI l4)], [fI y14]) (156, fjl L, M) Q
    refine Wp.br rfl (fun (c : ¬ y14 = 0) => ?_) (fun (c : ¬ (¬ y14 = 0)) => ?_)
    · replace h := fps c h
      refine Wp.run 5 (f' := (d + 7, 160, 36, 0, 0, [some (fA 0), _, some (fI l2), some (fI l3), _], [fI l4, fI l3, fI l1, fA 43])) (h' := (156, fjl L, M)) rfl trivial ?_
      obtain ⟨y36, hy, h⟩ := fbd h
      refine Wp.call rfl (by decide) (s_X8_look_ok (d := d + 4) hy ?_)
      show Wp (d + 7, 160, 39, 0, 0, [some (fA 0), _, some (fI l2), some (fI l3), _], []) (156, fjl L, y36.2) Q
      refine Wp.run 2 (f' := (d + 7, 160, 43, 0, 0, [some (fA 0), _, some (fI l2), some (fI l3), _], [fA 43])) (h' := (156, fjl L, y36.2)) rfl trivial ?_
      obtain ⟨y43, hy, h⟩ := fbd h
      refine Wp.call rfl (by decide) (s_X8_wasTuned_ok (d := d + 6) hy ?_)
      show Wp (d + 7, 160, 46, 0, 0, [some (fA 0), _, some (fI l2), some (fI l3), _], [fI y43]) (156, fjl L, y36.2) Q
      refine Wp.br rfl (fun (c : ¬ y43 = 0) => ?_) (fun (c : ¬ (¬ y43 = 0)) => ?_)
      · replace h := fps c h
        refine Wp.run 5 (f' := (d + 7, 160, 64, 0, 0, [_, _, _, _, _], [fI 0, fI l3, fI l2, fA 43])) (h' := (156, fjl L, y36.2)) rfl trivial ?_
        obtain ⟨y64, hy, h⟩ := fbd h
        refine Wp.call rfl (by decide) (s_X8_offsetAt_ok (d := d + 4) hy ?_)
        show Wp (d + 7, 160, 67, 0, 0, [_, _, _, _, _], [fI y64]) (156, fjl L, y36.2) Q
        obtain rfl := Option.some.inj h
        exact Wp.done rfl (by decide) H
      · replace h := fng c h
        obtain rfl := Option.some.inj h
        exact Wp.done rfl ⟨Nat.le_add_left_of_le (by decide), rfl, rfl⟩ H
    · replace h := fng c h
      obtain rfl := Option.some.inj h
      exact Wp.done rfl ⟨Nat.le_add_left_of_le (by decide), rfl, rfl⟩ H
theorem s_X11_offset_fr {M : fM} {l1 l2 l3 l4 : Int} {r : ((Int ⊕ Unit) × fM)} (h : s_X11_offset M l1 l2 l3 l4 = some r) : fSame s_X11_offset_mods M r.2 := by
  unfold s_X11_offset at h
  obtain ⟨y5, hy, h⟩ := fbd h
  by_cases c : y5 = 0
  · replace h := fps c h
    obtain rfl := Option.some.inj h
    exact fs_refl
  · replace h := fng c h
    obtain ⟨y14, hy, h⟩ := fbd h
    by_cases c : ¬ y14 = 0
    · replace h := fps c h
      obtain ⟨y36, hy, h⟩ := fbd h
      have k36 := fs_trans (l := s_X11_offset_mods) fs_refl (fs_mono (l := s_X8_look_mods) (by decide) (s_X8_look_fr hy))
      obtain ⟨y43, hy, h⟩ := fbd h
      by_cases c : ¬ y43 = 0
      · replace h := fps c h
        obtain ⟨y64, hy, h⟩ := fbd h
        obtain rfl := Option.some.inj h
        exact k36
      · replace h := fng c h
        obtain rfl := Option.some.inj h
        exact k36
    · replace h := fng c h
      obtain rfl := Option.some.inj h
      exact fs_refl
abbrev s_L_offset_0_155_mods : List (Nat × Option Nat) := [(43, some 5), (43, some 6), (44, none), (45, none), (46, none), (155, none)]
noncomputable def s_L_offset_0_155 (M : fM) (l1 l2 l3 l4 : Int) : Option (Int × fM) :=
  (s_X11_offset M l1 l2 l3 l4).bind fun y9 =>
    fel y9.1
      (fun w9 =>
        some (0, (fup y9.2 155 0 w9)))
      (some (1, y9.2))
theorem s_L_offset_0_155_ok {d L : Nat} {M : fM} {l1 l2 l3 l4 : Int} {r : (Int × fM)} {Q : fO → fH → Prop} (h : s_L_offset_0_155 M l1 l2 l3 l4 = some r) (H : Q (oI r.1) (156, fjl L, r.2)) : Wp (d + 8, 317, 0, 0, 0, [some (fA 0), some (fI l1), some (fI l2), some (fI l3), some (fI l4), some (fA 155), none], []) (156, fjl L, M) Q := by
  unfold s_L_offset_0_155 at h
  refine Wp.run 7 (f' := (d + 8, 317, 9, 0, 0, [_, _, _, _, _, _, _], [fI l4, fI l3, fI l2, fI l1, fA 0, fI 0, fA 155])) (h' := (156, fjl L, M)) rfl trivial ?_
  obtain ⟨y9, hy, h⟩ := fbd h
  refine Wp.call rfl (by decide) (s_X11_offset_ok (d := d + 0) hy ?_)
  obtain ⟨w9, ew, h⟩ | ⟨ew, h⟩ := fel_of h
  · rw [ew]
    show Wp (d + 8, 317, 12, 0, 0, [_, _, _, _, _, _, _], [fI w9, fI 0, fA 155]) (156, fjl L, y9.2) Q
    refine Wp.run 4 (P := [(0 : Int) ≤ 0 ∧ (0 : Int) < 1]) (f' := (d + 8, 317, 22, 0, 0, [_, _, _, _, _, _, _], [fI 0])) (h' := (156, fjl L, (fup y9.2 155 0 w9))) rfl ?_ ?_
    · exact (by decide : (0 : Int) ≤ 0 ∧ (0 : Int) < 1)
    obtain rfl := Option.some.inj h
    exact Wp.done rfl (by decide) H
  · rw [ew]
    refine ⟨⟨rfl, by decide, by decide⟩, ?_⟩
    show Wp (d + 8, 317, 17, 1, 6, [_, _, _, _, _, _, _], [fA 9999]) (156, fjl L, y9.2) Q
    refine Wp.run 2 (f' := (d + 8, 317, 20, 1, 6, [_, _, _, _, _, _, _], [fI 1])) (h' := (156, fjl L, y9.2)) rfl trivial ?_
    obtain rfl := Option.some.inj h
    exact Wp.done rfl (by decide) H
theorem s_L_offset_0_155_fr {M : fM} {l1 l2 l3 l4 : Int} {r : (Int × fM)} (h : s_L_offset_0_155 M l1 l2 l3 l4 = some r) : fSame s_L_offset_0_155_mods M r.2 := by
  unfold s_L_offset_0_155 at h
  obtain ⟨y9, hy, h⟩ := fbd h
  have k9 := fs_trans (l := s_L_offset_0_155_mods) fs_refl (fs_mono (l := s_X11_offset_mods) (by decide) (s_X11_offset_fr hy))
  obtain ⟨w9, ew, h⟩ | ⟨ew, h⟩ := fel_of h
  · obtain rfl := Option.some.inj h
    exact fs_up k9 (.inl (by decide))
  · obtain rfl := Option.some.inj h
    exact k9
noncomputable def s_X12_isDay (M : fM) (l0 : Int) : Option Int :=
  (s_X12_isIn M l0 0 363).bind fun y5 =>
    if b01 y5 then
      some y5
    else none
theorem s_X12_isDay_ok {d L : Nat} {M : fM} {l0 : Int} {r : Int} {Q : fO → fH → Prop} (h : s_X12_isDay M l0 = some r) (H : Q (oI r) (156, fjl L, M)) : Wp (d + 1, 242, 0, 0, 0, [some (fI l0)], []) (156, fjl L, M) Q := by
  unfold s_X12_isDay at h
  refine Wp.run 3 (f' := (d + 1, 242, 5, 0, 0, [_], [fI 363, fI 0, fI l0])) (h' := (156, fjl L, M)) rfl trivial ?_
  obtain ⟨y5, hy, h⟩ := fbd h
  refine Wp.call rfl (by decide) (s_X12_isIn_ok (d := d + 0) hy ?_)
  show Wp (d + 1, 242, 8, 0, 0, [_], [fI y5]) (156, fjl L, M) Q
  obtain ⟨g0, h⟩ := fgd h
  obtain rfl := Option.some.inj h
  exact Wp.done rfl ⟨g0, by decide, by decide, by decide⟩ H
noncomputable def s_X12_isKnown (M : fM) (l0 : Int) : Option Int :=
  (s_X12_isIn M l0 (-1) 363).bind fun y5 =>
    if b01 y5 then
      some y5
    else none
theorem s_X12_isKnown_ok {d L : Nat} {M : fM} {l0 : Int} {r : Int} {Q : fO → fH → Prop} (h : s_X12_isKnown M l0 = some r) (H : Q (oI r) (156, fjl L, M)) : Wp (d + 1, 243, 0, 0, 0, [some (fI l0)], []) (156, fjl L, M) Q := by
  unfold s_X12_isKnown at h
  refine Wp.run 3 (f' := (d + 1, 243, 5, 0, 0, [_], [fI 363, fI (-1), fI l0])) (h' := (156, fjl L, M)) rfl trivial ?_
  obtain ⟨y5, hy, h⟩ := fbd h
  refine Wp.call rfl (by decide) (s_X12_isIn_ok (d := d + 0) hy ?_)
  show Wp (d + 1, 243, 8, 0, 0, [_], [fI y5]) (156, fjl L, M) Q
  obtain ⟨g0, h⟩ := fgd h
  obtain rfl := Option.some.inj h
  exact Wp.done rfl ⟨g0, by decide, by decide, by decide⟩ H
