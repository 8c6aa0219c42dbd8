/-! ===== functions of the methods (printed by genfun.py) ===== -/
abbrev s_X1_mostSlipping_mods : List (Nat × Option Nat) := [(47, some 7), (47, some 8), (47, some 9), (47, some 10), (48, none), (49, none)]
noncomputable def s_X1_mostSlipping_b15 (M : fM) (l3 l4 : Int) : Option ((Int × Int) ⊕ Int) :=
  if 12 ≤ l4 then
    some (.inr l3)
  else
    if (0 ≤ l4 ∧ l4 < 12) then
      if (M 49 (l4).toNat) ≤ 0 then
        if fin (l4 + 1) then
          some (.inl (l3, (l4 + 1)))
        else none
      else
        if l3 < 0 then
          if fin (l4 + 1) then
            some (.inl (l4, (l4 + 1)))
          else none
        else
          (s_X1_isFaster M l4 l3).bind fun y40 =>
            if y40 = 0 then
              if fin (l4 + 1) then
                some (.inl (l3, (l4 + 1)))
              else none
            else
              if fin (l4 + 1) then
                some (.inl (l4, (l4 + 1)))
              else none
    else none
theorem s_X1_mostSlipping_b15_ok {d L : Nat} {M : fM} {l3 l4 : Int} {o1 o2 : Option fV} {r : ((Int × Int) ⊕ Int)} {Q : fO → fH → Prop} (h : s_X1_mostSlipping_b15 M l3 l4 = some r) (hC : ∀ (l3' l4' : Int) (o1' o2' : Option fV), r = .inl (l3', l4') → Wp (d + 3, 14, 15, 0, 0, [some (fA 47), o1', o2', some (fI l3'), some (fI l4')], []) (156, fjl L, M) Q) (hE : ∀ (e : Int) (o1' o2' o4' : Option fV), r = .inr e → Wp (d + 3, 14, 55, 0, 0, [some (fA 47), o1', o2', some (fI e), o4'], []) (156, fjl L, M) Q) : Wp (d + 3, 14, 15, 0, 0, [some (fA 47), o1, o2, some (fI l3), some (fI l4)], []) (156, fjl L, M) Q := by
  unfold s_X1_mostSlipping_b15 at h
  refine Wp.run 2 (f' := (d + 3, 14, 19, 0, 0, [some (fA 47), _, _, some (fI l3), some (fI l4)], [fI 12, fI l4])) (h' := (156, fjl L, M)) rfl trivial ?_
  refine Wp.br rfl (fun (c : 12 ≤ l4) => ?_) (fun (c : ¬ (12 ≤ l4)) => ?_)
  · replace h := fps c h
    exact hE _ _ _ _ (Option.some.inj h).symm
  · replace h := fng c h
    obtain ⟨g0, h⟩ := fgd h
    refine Wp.run 4 (P := [0 ≤ l4 ∧ l4 < 12]) (f' := (d + 3, 14, 29, 0, 0, [some (fA 47), _, _, some (fI l3), some (fI l4)], [fI (M 49 (l4).toNat)])) (h' := (156, fjl L, M)) rfl ?_ ?_
    · exact g0
    refine Wp.br rfl (fun (c : (M 49 (l4).toNat) ≤ 0) => ?_) (fun (c : ¬ ((M 49 (l4).toNat) ≤ 0)) => ?_)
    · replace h := fps c h
      obtain ⟨g0, h⟩ := fgd h
      refine Wp.run 2 (f' := (d + 3, 14, 15, 0, 0, [some (fA 47), _, _, some (fI l3), some (fI (fw (l4 + 1)))], [])) (h' := (156, fjl L, M)) rfl trivial ?_
      rw [fw_id g0]
      exact hC _ _ _ _ (Option.some.inj h).symm
    · replace h := fng c h
      refine Wp.run 1 (f' := (d + 3, 14, 33, 0, 0, [some (fA 47), _, _, some (fI l3), some (fI l4)], [fI l3])) (h' := (156, fjl L, M)) rfl trivial ?_
      refine Wp.br rfl (fun (c : l3 < 0) => ?_) (fun (c : ¬ (l3 < 0)) => ?_)
      · replace h := fps c h
        obtain ⟨g0, h⟩ := fgd h
        refine Wp.run 4 (f' := (d + 3, 14, 15, 0, 0, [some (fA 47), _, _, some (fI l4), some (fI (fw (l4 + 1)))], [])) (h' := (156, fjl L, M)) rfl trivial ?_
        rw [fw_id g0]
        exact hC _ _ _ _ (Option.some.inj h).symm
      · replace h := fng c h
        refine Wp.run 3 (f' := (d + 3, 14, 40, 0, 0, [some (fA 47), _, _, some (fI l3), some (fI l4)], [fI l3, fI l4, fA 47])) (h' := (156, fjl L, M)) rfl trivial ?_
        obtain ⟨y40, hy, h⟩ := fbd h
        refine Wp.call rfl (by decide) (s_X1_isFaster_ok (d := d + 2) hy ?_)
        show Wp (d + 3, 14, 43, 0, 0, [some (fA 47), _, _, some (fI l3), some (fI l4)], [fI y40]) (156, fjl L, M) Q
        refine Wp.br rfl (fun (c : y40 = 0) => ?_) (fun (c : ¬ (y40 = 0)) => ?_)
        · replace h := fps c h
          obtain ⟨g0, h⟩ := fgd h
          refine Wp.run 2 (f' := (d + 3, 14, 15, 0, 0, [some (fA 47), _, _, some (fI l3), some (fI (fw (l4 + 1)))], [])) (h' := (156, fjl L, M)) rfl trivial ?_
          rw [fw_id g0]
          exact hC _ _ _ _ (Option.some.inj h).symm
        · replace h := fng c h
          obtain ⟨g0, h⟩ := fgd h
          refine Wp.run 4 (f' := (d + 3, 14, 15, 0, 0, [some (fA 47), _, _, some (fI l4), some (fI (fw (l4 + 1)))], [])) (h' := (156, fjl L, M)) rfl trivial ?_
          rw [fw_id g0]
          exact hC _ _ _ _ (Option.some.inj h).symm
theorem s_X1_mostSlipping_b15_fr {M : fM} {l3 l4 : Int} {r : ((Int × Int) ⊕ Int)} (h : s_X1_mostSlipping_b15 M l3 l4 = some r) : fSame s_X1_mostSlipping_mods M (Sum.elim (fun _ => M) (fun _ => M) r) := by
  unfold s_X1_mostSlipping_b15 at h
  by_cases c : 12 ≤ l4
  · replace h := fps c h
    obtain rfl := Option.some.inj h
    exact fs_refl
  · replace h := fng c h
    replace h := (fgd h).2
    by_cases c : (M 49 (l4).toNat) ≤ 0
    · replace h := fps c h
      replace h := (fgd h).2
      obtain rfl := Option.some.inj h
      exact fs_refl
    · replace h := fng c h
      by_cases c : l3 < 0
      · replace h := fps c h
        replace h := (fgd h).2
        obtain rfl := Option.some.inj h
        exact fs_refl
      · replace h := fng c h
        obtain ⟨y40, hy, h⟩ := fbd h
        by_cases c : y40 = 0
        · replace h := fps c h
          replace h := (fgd h).2
          obtain rfl := Option.some.inj h
          exact fs_refl
        · replace h := fng c h
          replace h := (fgd h).2
          obtain rfl := Option.some.inj h
          exact fs_refl
noncomputable def s_X1_mostSlipping_l15 (M : fM) (s : (Int × Int)) : Option Int := fLp (fun s => s_X1_mostSlipping_b15 M s.1 s.2) s
theorem s_X1_mostSlipping_l15_ok {d L : Nat} {M : fM} {l3 l4 : Int} {o1 o2 : Option fV} {r : Int} {Q : fO → fH → Prop} (h : s_X1_mostSlipping_l15 M (l3, l4) = some r) (hE : ∀ (e : Int) (o1' o2' o4' : Option fV), r = e → Wp (d + 3, 14, 55, 0, 0, [some (fA 47), o1', o2', some (fI e), o4'], []) (156, fjl L, M) Q) : Wp (d + 3, 14, 15, 0, 0, [some (fA 47), o1, o2, some (fI l3), some (fI l4)], []) (156, fjl L, M) Q := by
  refine fLp_wp (W := fun s => ∀ (o1 o2 : Option fV), Wp (d + 3, 14, 15, 0, 0, [some (fA 47), o1, o2, some (fI s.1), some (fI s.2)], []) (156, fjl L, M) Q) (e := r) ?_ h _ _
  intro s r1 h hC hX o1 o2
  refine s_X1_mostSlipping_b15_ok (d := d) h (fun a0 a1 _ _ e1 => ?_) (fun e u0 u1 u2 e1 => hE e u0 u1 u2 (hX _ e1).symm)
  exact hC _ e1 _ _
noncomputable def s_X1_mostSlipping (M : fM) (l1 l2 : Int) : Option (Int × fM) :=
  (s_X1_clearFalls M).bind fun y1 =>
    (s_X1_addPairs y1.2 l1 l2).bind fun y7 =>
      (s_X1_mostSlipping_l15 y7.2 ((-1), 0)).bind fun e15 =>
        if e15 < 0 then
          some (e15, y7.2)
        else
          if (0 ≤ e15 ∧ e15 < 12) then
            (s_X1_keepLeast y7.2 (y7.2 48 (e15).toNat) (y7.2 49 (e15).toNat)).bind fun y74 =>
              if fin (y74.2 47 9) ∧ fin (y74.2 47 10) then
                some (e15, (fup (fup y74.2 47 7 (y74.2 47 9)) 47 8 (y74.2 47 10)))
              else none
          else none
theorem s_X1_mostSlipping_ok {d L : Nat} {M : fM} {l1 l2 : Int} {r : (Int × fM)} {Q : fO → fH → Prop} (h : s_X1_mostSlipping M l1 l2 = some r) (H : Q (oI r.1) (156, fjl L, r.2)) : Wp (d + 3, 14, 0, 0, 0, [some (fA 47), some (fI l1), some (fI l2), none, none], []) (156, fjl L, M) Q := by
  unfold s_X1_mostSlipping at h
  refine Wp.run 1 (f' := (d + 3, 14, 1, 0, 0, [some (fA 47), some (fI l1), some (fI l2), _, _], [fA 47])) (h' := (156, fjl L, M)) rfl trivial ?_
  obtain ⟨y1, hy, h⟩ := fbd h
  refine Wp.call rfl (by decide) (s_X1_clearFalls_ok (d := d + 1) hy ?_)
  show Wp (d + 3, 14, 4, 0, 0, [some (fA 47), some (fI l1), some (fI l2), _, _], []) (156, fjl L, y1.2) Q
  refine Wp.run 3 (f' := (d + 3, 14, 7, 0, 0, [some (fA 47), _, _, _, _], [fI l2, fI l1, fA 47])) (h' := (156, fjl L, y1.2)) rfl trivial ?_
  obtain ⟨y7, hy, h⟩ := fbd h
  refine Wp.call rfl (by decide) (s_X1_addPairs_ok (d := d + 0) hy ?_)
  show Wp (d + 3, 14, 10, 0, 0, [some (fA 47), _, _, _, _], []) (156, fjl L, y7.2) Q
  refine Wp.run 4 (f' := (d + 3, 14, 15, 0, 0, [some (fA 47), _, _, some (fI (-1)), some (fI 0)], [])) (h' := (156, fjl L, y7.2)) rfl trivial ?_
  obtain ⟨e15, hy, h⟩ := fbd h
  refine s_X1_mostSlipping_l15_ok hy (fun x u1 u2 u4 ex => ?_)
  cases ex
  show Wp (d + 3, 14, 55, 0, 0, [some (fA 47), u1, u2, some (fI e15), u4], []) (156, fjl L, y7.2) Q
  refine Wp.run 1 (f' := (d + 3, 14, 56, 0, 0, [some (fA 47), _, _, some (fI e15), _], [fI e15])) (h' := (156, fjl L, y7.2)) rfl trivial ?_
  refine Wp.br rfl (fun (c : e15 < 0) => ?_) (fun (c : ¬ (e15 < 0)) => ?_)
  · replace h := fps c h
    refine Wp.run 1 (f' := (d + 3, 14, 96, 0, 0, [_, _, _, _, _], [fI e15])) (h' := (156, fjl L, y7.2)) rfl trivial ?_
    obtain rfl := Option.some.inj h
    exact Wp.done rfl (by decide) H
  · replace h := fng c h
    obtain ⟨g0, h⟩ := fgd h
    refine Wp.run 11 (P := [0 ≤ e15 ∧ e15 < 12, 0 ≤ e15 ∧ e15 < 12]) (f' := (d + 3, 14, 74, 0, 0, [some (fA 47), _, _, some (fI e15), _], [fJ (y7.2 49 (e15).toNat), fJ (y7.2 48 (e15).toNat), fA 47])) (h' := (156, fjl L, y7.2)) rfl ?_ ?_
    · exact ⟨g0, g0⟩
    obtain ⟨y74, hy, h⟩ := fbd h
    refine Wp.call rfl (by decide) (s_X1_keepLeast_ok (d := d + 1) hy ?_)
    show Wp (d + 3, 14, 77, 0, 0, [some (fA 47), _, _, some (fI e15), _], []) (156, fjl L, y74.2) Q
    obtain ⟨⟨g0, g1⟩, h⟩ := fgd h
    refine Wp.run 11 (f' := (d + 3, 14, 96, 0, 0, [_, _, _, _, _], [fI e15])) (h' := (156, fjl L, (fup (fup y74.2 47 7 (fw (y74.2 47 9))) 47 8 (fw (y74.2 47 10))))) rfl trivial ?_
    rw [fw_id g0, fw_id g1]
    obtain rfl := Option.some.inj h
    exact Wp.done rfl (by decide) H
theorem s_X1_mostSlipping_fr {M : fM} {l1 l2 : Int} {r : (Int × fM)} (h : s_X1_mostSlipping M l1 l2 = some r) : fSame s_X1_mostSlipping_mods M r.2 := by
  unfold s_X1_mostSlipping at h
  obtain ⟨y1, hy, h⟩ := fbd h
  have k1 := fs_trans (l := s_X1_mostSlipping_mods) fs_refl (fs_mono (l := s_X1_clearFalls_mods) (by decide) (s_X1_clearFalls_fr hy))
  obtain ⟨y7, hy, h⟩ := fbd h
  have k7 := fs_trans (l := s_X1_mostSlipping_mods) k1 (fs_mono (l := s_X1_addPairs_mods) (by decide) (s_X1_addPairs_fr hy))
  obtain ⟨e15, hy, h⟩ := fbd h
  by_cases c : e15 < 0
  · replace h := fps c h
    obtain rfl := Option.some.inj h
    exact k7
  · replace h := fng c h
    replace h := (fgd h).2
    obtain ⟨y74, hy, h⟩ := fbd h
    have k74 := fs_trans (l := s_X1_mostSlipping_mods) k7 (fs_mono (l := s_X1_keepLeast_mods) (by decide) (s_X1_keepLeast_fr hy))
    replace h := (fgd h).2
    obtain rfl := Option.some.inj h
    exact fs_up (fs_up k74 (.inr (by decide))) (.inr (by decide))
abbrev s_X11_slips_mods : List (Nat × Option Nat) := [(47, some 7), (47, some 8), (47, some 9), (47, some 10), (48, none), (49, none)]
noncomputable def s_X11_slips (M : fM) (l1 l2 : Int) : Option (Int × fM) :=
  (s_X2_hasPiano_4 M l1).bind fun y5 =>
    if y5 = 0 then
      some ((-2), M)
    else
      (s_X11_isKnowing M l2).bind fun y12 =>
        if ¬ y12 = 0 then
          (s_X1_mostSlipping M l1 l2).bind fun y27 =>
            some (y27.1, y27.2)
        else
          some ((-2), M)
theorem s_X11_slips_ok {d L : Nat} {M : fM} {l1 l2 : Int} {r : (Int × fM)} {Q : fO → fH → Prop} (h : s_X11_slips M l1 l2 = some r) (H : Q (oI r.1) (156, fjl L, r.2)) : Wp (d + 4, 163, 0, 0, 0, [some (fA 0), some (fI l1), some (fI l2)], []) (156, fjl L, M) Q := by
  unfold s_X11_slips at h
  refine Wp.run 3 (f' := (d + 4, 163, 5, 0, 0, [some (fA 0), some (fI l1), some (fI l2)], [fI l1, fA 4])) (h' := (156, fjl L, M)) rfl trivial ?_
  obtain ⟨y5, hy, h⟩ := fbd h
  refine Wp.call rfl (by decide) (s_X2_hasPiano_4_ok (d := d + 3) hy ?_)
  show Wp (d + 4, 163, 8, 0, 0, [some (fA 0), some (fI l1), some (fI l2)], [fI y5]) (156, fjl L, M) Q
  refine Wp.br rfl (fun (c : y5 = 0) => ?_) (fun (c : ¬ (y5 = 0)) => ?_)
  · replace h := fps c h
    refine Wp.run 1 (f' := (d + 4, 163, 20, 0, 0, [_, _, _], [fI (-2)])) (h' := (156, fjl L, M)) rfl trivial ?_
    obtain rfl := Option.some.inj h
    exact Wp.done rfl (by decide) H
  · replace h := fng c h
    refine Wp.run 1 (f' := (d + 4, 163, 12, 0, 0, [some (fA 0), some (fI l1), some (fI l2)], [fI l2])) (h' := (156, fjl L, M)) rfl trivial ?_
    obtain ⟨y12, hy, h⟩ := fbd h
    refine Wp.call rfl (by decide) (s_X11_isKnowing_ok (d := d + 2) hy ?_)
    show Wp (d + 4, 163, 15, 0, 0, [some (fA 0), some (fI l1), some (fI l2)], [fI y12]) (156, fjl L, M) Q
    refine Wp.br rfl (fun (c : ¬ y12 = 0) => ?_) (fun (c : ¬ (¬ y12 = 0)) => ?_)
    · replace h := fps c h
      refine Wp.run 4 (f' := (d + 4, 163, 27, 0, 0, [_, _, _], [fI l2, fI l1, fA 47])) (h' := (156, fjl L, M)) rfl trivial ?_
      obtain ⟨y27, hy, h⟩ := fbd h
      refine Wp.call rfl (by decide) (s_X1_mostSlipping_ok (d := d + 0) hy ?_)
      show Wp (d + 4, 163, 30, 0, 0, [_, _, _], [fI y27.1]) (156, fjl L, y27.2) Q
      obtain rfl := Option.some.inj h
      exact Wp.done rfl (by decide) H
    · replace h := fng c h
      refine Wp.run 1 (f' := (d + 4, 163, 20, 0, 0, [_, _, _], [fI (-2)])) (h' := (156, fjl L, M)) rfl trivial ?_
      obtain rfl := Option.some.inj h
      exact Wp.done rfl (by decide) H
theorem s_X11_slips_fr {M : fM} {l1 l2 : Int} {r : (Int × fM)} (h : s_X11_slips M l1 l2 = some r) : fSame s_X11_slips_mods M r.2 := by
  unfold s_X11_slips at h
  obtain ⟨y5, hy, h⟩ := fbd h
  by_cases c : y5 = 0
  · replace h := fps c h
    obtain rfl := Option.some.inj h
    exact fs_refl
  · replace h := fng c h
    obtain ⟨y12, hy, h⟩ := fbd h
    by_cases c : ¬ y12 = 0
    · replace h := fps c h
      obtain ⟨y27, hy, h⟩ := fbd h
      have k27 := fs_trans (l := s_X11_slips_mods) fs_refl (fs_mono (l := s_X1_mostSlipping_mods) (by decide) (s_X1_mostSlipping_fr hy))
      obtain rfl := Option.some.inj h
      exact k27
    · replace h := fng c h
      obtain rfl := Option.some.inj h
      exact fs_refl
abbrev s_X12_noPairs_mods : List (Nat × Option Nat) := [(130, none), (131, none)]
noncomputable def s_X12_noPairs_b2 (M : fM) (l1 : Int) : Option ((Int × fM) ⊕ fM) :=
  if 12 ≤ l1 then
    some (.inr M)
  else
    if (0 ≤ l1 ∧ l1 < 12) ∧ fin (l1 + 1) then
      some (.inl ((l1 + 1), (fup (fup M 130 (l1).toNat 0) 131 (l1).toNat 0)))
    else none
theorem s_X12_noPairs_b2_ok {d L : Nat} {M : fM} {l1 : Int} {r : ((Int × fM) ⊕ fM)} {Q : fO → fH → Prop} (h : s_X12_noPairs_b2 M l1 = some r) (hC : ∀ (l1' : Int) (M' : fM), r = .inl (l1', M') → Wp (d + 0, 267, 2, 0, 0, [some (fA 122), some (fI l1')], []) (156, fjl L, M') Q) (hE : ∀ (e : fM) (o0' o1' : Option fV), r = .inr e → Wp (d + 0, 267, 28, 0, 0, [o0', o1'], []) (156, fjl L, e) Q) : Wp (d + 0, 267, 2, 0, 0, [some (fA 122), some (fI l1)], []) (156, fjl L, M) Q := by
  unfold s_X12_noPairs_b2 at h
  refine Wp.run 2 (f' := (d + 0, 267, 5, 0, 0, [some (fA 122), some (fI l1)], [fI 12, fI l1])) (h' := (156, fjl L, M)) rfl trivial ?_
  refine Wp.br rfl (fun (c : 12 ≤ l1) => ?_) (fun (c : ¬ (12 ≤ l1)) => ?_)
  · replace h := fps c h
    exact hE _ _ _ (Option.some.inj h).symm
  · replace h := fng c h
    obtain ⟨⟨g0, g1⟩, h⟩ := fgd h
    refine Wp.run 12 (P := [0 ≤ l1 ∧ l1 < 12, 0 ≤ l1 ∧ l1 < 12]) (f' := (d + 0, 267, 2, 0, 0, [some (fA 122), some (fI (fw (l1 + 1)))], [])) (h' := (156, fjl L, (fup (fup M 130 (l1).toNat 0) 131 (l1).toNat 0))) rfl ?_ ?_
    · exact ⟨g0, g0⟩
    rw [fw_id g1]
    exact hC _ _ (Option.some.inj h).symm
theorem s_X12_noPairs_b2_fr {M : fM} {l1 : Int} {r : ((Int × fM) ⊕ fM)} (h : s_X12_noPairs_b2 M l1 = some r) : fSame s_X12_noPairs_mods M (Sum.elim (fun s => s.2) (fun e => e) r) := by
  unfold s_X12_noPairs_b2 at h
  by_cases c : 12 ≤ l1
  · replace h := fps c h
    obtain rfl := Option.some.inj h
    exact fs_refl
  · replace h := fng c h
    replace h := (fgd h).2
    obtain rfl := Option.some.inj h
    exact fs_up (fs_up fs_refl (.inl (by decide))) (.inl (by decide))
noncomputable def s_X12_noPairs_l2 (s : (Int × fM)) : Option fM := fLp (fun s => s_X12_noPairs_b2 s.2 s.1) s
theorem s_X12_noPairs_l2_ok {d L : Nat} {M : fM} {l1 : Int} {r : fM} {Q : fO → fH → Prop} (h : s_X12_noPairs_l2 (l1, M) = some r) (hE : ∀ (e : fM) (o0' o1' : Option fV), r = e → Wp (d + 0, 267, 28, 0, 0, [o0', o1'], []) (156, fjl L, e) Q) : Wp (d + 0, 267, 2, 0, 0, [some (fA 122), some (fI l1)], []) (156, fjl L, M) Q := by
  refine fLp_wp (W := fun s => Wp (d + 0, 267, 2, 0, 0, [some (fA 122), some (fI s.1)], []) (156, fjl L, s.2) Q) (e := r) ?_ h
  intro s r1 h hC hX
  refine s_X12_noPairs_b2_ok (d := d) h (fun a0 a1 e1 => ?_) (fun e u0 u1 e1 => hE e u0 u1 (hX _ e1).symm)
  exact hC _ e1
theorem s_X12_noPairs_l2_fr {M : fM} {l1 : Int} {r : fM} (h : s_X12_noPairs_l2 (l1, M) = some r) : fSame s_X12_noPairs_mods M ((fun e => e) r) := by
  refine fLp_inv (I := fun s => fSame s_X12_noPairs_mods M s.2) (J := fun r => fSame s_X12_noPairs_mods M ((fun e => e) r)) h fs_refl (fun s s1 hs hb => ?_) (fun s e hs hb => ?_)
  · exact fs_trans hs (s_X12_noPairs_b2_fr hb)
  · exact fs_trans hs (s_X12_noPairs_b2_fr hb)
noncomputable def s_X12_noPairs (M : fM) : Option (Unit × fM) :=
  (s_X12_noPairs_l2 (0, M)).bind fun e2 =>
    some ((), e2)
theorem s_X12_noPairs_ok {d L : Nat} {M : fM} {r : (Unit × fM)} {Q : fO → fH → Prop} (h : s_X12_noPairs M = some r) (H : Q (oV r.1) (156, fjl L, r.2)) : Wp (d + 0, 267, 0, 0, 0, [some (fA 122), none], []) (156, fjl L, M) Q := by
  unfold s_X12_noPairs at h
  refine Wp.run 2 (f' := (d + 0, 267, 2, 0, 0, [some (fA 122), some (fI 0)], [])) (h' := (156, fjl L, M)) rfl trivial ?_
  obtain ⟨e2, hy, h⟩ := fbd h
  refine s_X12_noPairs_l2_ok hy (fun x u0 u1 ex => ?_)
  cases ex
  show Wp (d + 0, 267, 28, 0, 0, [u0, u1], []) (156, fjl L, e2) Q
  obtain rfl := Option.some.inj h
  exact Wp.done rfl (by decide) H
theorem s_X12_noPairs_fr {M : fM} {r : (Unit × fM)} (h : s_X12_noPairs M = some r) : fSame s_X12_noPairs_mods M r.2 := by
  unfold s_X12_noPairs at h
  obtain ⟨e2, hy, h⟩ := fbd h
  have k2 := fs_trans (l := s_X12_noPairs_mods) fs_refl (s_X12_noPairs_l2_fr hy)
  obtain rfl := Option.some.inj h
  exact k2
abbrev s_X12_pairs_mods : List (Nat × Option Nat) := [(130, none), (131, none)]
noncomputable def s_X12_pairs_j180 (M : fM) (l1 l2 l3 l4 l5 l6 l7 t1 : Int) : Option ((Int × fM) ⊕ fM) :=
  if (0 ≤ t1 ∧ t1 < 12) ∧ fin (19 * l6) ∧ fin ((19 * l6) + 2) ∧ (0 ≤ ((19 * l6) + 2) ∧ ((19 * l6) + 2) < 3800) ∧ fin (l5 - (M 125 ((19 * l6) + 2).toNat)) ∧ finl ((M 131 (t1).toNat) + (l5 - (M 125 ((19 * l6) + 2).toNat))) then
    if fin (l7 + 1) then
      some (.inl ((l7 + 1), (fup M 131 (t1).toNat ((M 131 (t1).toNat) + (l5 - (M 125 ((19 * l6) + 2).toNat))))))
    else none
  else none
theorem s_X12_pairs_j180_ok {d L : Nat} {M : fM} {l1 l2 l3 l4 l5 l6 l7 t1 : Int} {r : ((Int × fM) ⊕ fM)} {Q : fO → fH → Prop} (h : s_X12_pairs_j180 M l1 l2 l3 l4 l5 l6 l7 t1 = some r) (hC : ∀ (l7' : Int) (M' : fM), r = .inl (l7', M') → Wp (d + 2, 266, 83, 0, 0, [some (fA 122), some (fI l1), some (fI l2), some (fI l3), some (fI l4), some (fI l5), some (fI l6), some (fI l7')], []) (156, fjl L, M') Q) (hE : ∀ (e : fM) (o5' o6' o7' : Option fV), r = .inr e → Wp (d + 2, 266, 206, 0, 0, [some (fA 122), some (fI l1), some (fI l2), some (fI l3), some (fI l4), o5', o6', o7'], []) (156, fjl L, e) Q) : Wp (d + 2, 266, 180, 0, 0, [some (fA 122), some (fI l1), some (fI l2), some (fI l3), some (fI l4), some (fI l5), some (fI l6), some (fI l7)], [fI t1, fA 131]) (156, fjl L, M) Q := by
  unfold s_X12_pairs_j180 at h
  obtain ⟨⟨g0, g1, g2, g3, g4, g5⟩, h⟩ := fgd h
  refine Wp.run 15 (P := [0 ≤ t1 ∧ t1 < 12, 0 ≤ (fw ((fw (19 * l6)) + 2)) ∧ (fw ((fw (19 * l6)) + 2)) < 3800, 0 ≤ t1 ∧ t1 < 12]) (f' := (d + 2, 266, 200, 0, 0, [some (fA 122), some (fI l1), some (fI l2), some (fI l3), some (fI l4), some (fI l5), some (fI l6), some (fI l7)], [])) (h' := (156, fjl L, (fup M 131 (t1).toNat (fwl ((M 131 (t1).toNat) + (fw (l5 - (M 125 (fw ((fw (19 * l6)) + 2)).toNat)))))))) rfl ?_ ?_
  · rw [fw_id g1, fw_id g2]; exact ⟨g0, g3, g0⟩
  rw [fw_id g1, fw_id g2, fw_id g4, fwl_id g5]
  obtain ⟨g0, h⟩ := fgd h
  refine Wp.run 2 (f' := (d + 2, 266, 83, 0, 0, [some (fA 122), some (fI l1), some (fI l2), some (fI l3), some (fI l4), some (fI l5), some (fI l6), some (fI (fw (l7 + 1)))], [])) (h' := (156, fjl L, (fup M 131 (t1).toNat ((M 131 (t1).toNat) + (l5 - (M 125 ((19 * l6) + 2).toNat)))))) rfl trivial ?_
  rw [fw_id g0]
  exact hC _ _ (Option.some.inj h).symm
theorem s_X12_pairs_j180_fr {M : fM} {l1 l2 l3 l4 l5 l6 l7 t1 : Int} {r : ((Int × fM) ⊕ fM)} (h : s_X12_pairs_j180 M l1 l2 l3 l4 l5 l6 l7 t1 = some r) : fSame s_X12_pairs_mods M (Sum.elim (fun s => s.2) (fun e => e) r) := by
  unfold s_X12_pairs_j180 at h
  replace h := (fgd h).2
  replace h := (fgd h).2
  obtain rfl := Option.some.inj h
  exact fs_up fs_refl (.inl (by decide))
noncomputable def s_X12_pairs_j128 (M : fM) (l1 l2 l3 l4 l5 l6 l7 t1 : Int) : Option ((Int × fM) ⊕ fM) :=
  if (0 ≤ t1 ∧ t1 < 12) ∧ fin (19 * l6) ∧ fin ((19 * l6) + 7) ∧ fin (((19 * l6) + 7) + l7) ∧ (0 ≤ (((19 * l6) + 7) + l7) ∧ (((19 * l6) + 7) + l7) < 3800) ∧ fin (19 * l4) ∧ fin ((19 * l4) + 7) then
    if fin (((19 * l4) + 7) + l7) ∧ (0 ≤ (((19 * l4) + 7) + l7) ∧ (((19 * l4) + 7) + l7) < 3800) ∧ fin ((M 125 (((19 * l6) + 7) + l7).toNat) - (M 125 (((19 * l4) + 7) + l7).toNat)) ∧ finl ((M 130 (t1).toNat) + ((M 125 (((19 * l6) + 7) + l7).toNat) - (M 125 (((19 * l4) + 7) + l7).toNat))) ∧ (0 ≤ t1 ∧ t1 < 12) then
      if l3 = 0 then
        s_X12_pairs_j180 (fup M 130 (t1).toNat ((M 130 (t1).toNat) + ((M 125 (((19 * l6) + 7) + l7).toNat) - (M 125 (((19 * l4) + 7) + l7).toNat)))) l1 l2 l3 l4 l5 l6 l7 0
      else
        s_X12_pairs_j180 (fup M 130 (t1).toNat ((M 130 (t1).toNat) + ((M 125 (((19 * l6) + 7) + l7).toNat) - (M 125 (((19 * l4) + 7) + l7).toNat)))) l1 l2 l3 l4 l5 l6 l7 l7
    else none
  else none
theorem s_X12_pairs_j128_ok {d L : Nat} {M : fM} {l1 l2 l3 l4 l5 l6 l7 t1 : Int} {r : ((Int × fM) ⊕ fM)} {Q : fO → fH → Prop} (h : s_X12_pairs_j128 M l1 l2 l3 l4 l5 l6 l7 t1 = some r) (hC : ∀ (l7' : Int) (M' : fM), r = .inl (l7', M') → Wp (d + 2, 266, 83, 0, 0, [some (fA 122), some (fI l1), some (fI l2), some (fI l3), some (fI l4), some (fI l5), some (fI l6), some (fI l7')], []) (156, fjl L, M') Q) (hE : ∀ (e : fM) (o5' o6' o7' : Option fV), r = .inr e → Wp (d + 2, 266, 206, 0, 0, [some (fA 122), some (fI l1), some (fI l2), some (fI l3), some (fI l4), o5', o6', o7'], []) (156, fjl L, e) Q) : Wp (d + 2, 266, 128, 0, 0, [some (fA 122), some (fI l1), some (fI l2), some (fI l3), some (fI l4), some (fI l5), some (fI l6), some (fI l7)], [fI t1, fA 130]) (156, fjl L, M) Q := by
  unfold s_X12_pairs_j128 at h
  obtain ⟨⟨g0, g1, g2, g3, g4, g5, g6⟩, h⟩ := fgd h
  refine Wp.run 20 (P := [0 ≤ t1 ∧ t1 < 12, 0 ≤ (fw ((fw ((fw (19 * l6)) + 7)) + l7)) ∧ (fw ((fw ((fw (19 * l6)) + 7)) + l7)) < 3800]) (f' := (d + 2, 266, 160, 0, 0, [some (fA 122), some (fI l1), some (fI l2), some (fI l3), some (fI l4), some (fI l5), some (fI l6), some (fI l7)], [fI l7, fI (fw ((fw (19 * l4)) + 7)), fA 125, fI (M 125 (fw ((fw ((fw (19 * l6)) + 7)) + l7)).toNat), fJ (M 130 (t1).toNat), fI t1, fA 130])) (h' := (156, fjl L, M)) rfl ?_ ?_
  · rw [fw_id g1, fw_id g2, fw_id g3]; exact ⟨g0, g4⟩
  rw [fw_id g1, fw_id g2, fw_id g3, fw_id g5, fw_id g6]
  obtain ⟨⟨g0, g1, g2, g3, g4⟩, h⟩ := fgd h
  refine Wp.run 9 (P := [0 ≤ (fw (((19 * l4) + 7) + l7)) ∧ (fw (((19 * l4) + 7) + l7)) < 3800, 0 ≤ t1 ∧ t1 < 12]) (f' := (d + 2, 266, 171, 0, 0, [some (fA 122), some (fI l1), some (fI l2), some (fI l3), some (fI l4), some (fI l5), some (fI l6), some (fI l7)], [fI l3, fA 131])) (h' := (156, fjl L, (fup M 130 (t1).toNat (fwl ((M 130 (t1).toNat) + (fw ((M 125 (((19 * l6) + 7) + l7).toNat) - (M 125 (fw (((19 * l4) + 7) + l7)).toNat)))))))) rfl ?_ ?_
  · rw [fw_id g0]; exact ⟨g1, g4⟩
  rw [fw_id g0, fw_id g2, fwl_id g3]
  refine Wp.br rfl (fun (c : l3 = 0) => ?_) (fun (c : ¬ (l3 = 0)) => ?_)
  · replace h := fps c h
    refine Wp.run 1 (f' := (d + 2, 266, 180, 0, 0, [some (fA 122), some (fI l1), some (fI l2), some (fI l3), some (fI l4), some (fI l5), some (fI l6), some (fI l7)], [fI 0, fA 131])) (h' := (156, fjl L, (fup M 130 (t1).toNat ((M 130 (t1).toNat) + ((M 125 (((19 * l6) + 7) + l7).toNat) - (M 125 (((19 * l4) + 7) + l7).toNat)))))) rfl trivial ?_
    exact s_X12_pairs_j180_ok h hC hE
  · replace h := fng c h
    refine Wp.run 2 (f' := (d + 2, 266, 180, 0, 0, [some (fA 122), some (fI l1), some (fI l2), some (fI l3), some (fI l4), some (fI l5), some (fI l6), some (fI l7)], [fI l7, fA 131])) (h' := (156, fjl L, (fup M 130 (t1).toNat ((M 130 (t1).toNat) + ((M 125 (((19 * l6) + 7) + l7).toNat) - (M 125 (((19 * l4) + 7) + l7).toNat)))))) rfl trivial ?_
    exact s_X12_pairs_j180_ok h hC hE
theorem s_X12_pairs_j128_fr {M : fM} {l1 l2 l3 l4 l5 l6 l7 t1 : Int} {r : ((Int × fM) ⊕ fM)} (h : s_X12_pairs_j128 M l1 l2 l3 l4 l5 l6 l7 t1 = some r) : fSame s_X12_pairs_mods M (Sum.elim (fun s => s.2) (fun e => e) r) := by
  unfold s_X12_pairs_j128 at h
  replace h := (fgd h).2
  replace h := (fgd h).2
  by_cases c : l3 = 0
  · replace h := fps c h
    exact fs_trans (fs_up fs_refl (.inl (by decide))) (s_X12_pairs_j180_fr h)
  · replace h := fng c h
    exact fs_trans (fs_up fs_refl (.inl (by decide))) (s_X12_pairs_j180_fr h)
noncomputable def s_X12_pairs_b83 (M : fM) (l1 l2 l3 l4 l5 l6 l7 : Int) : Option ((Int × fM) ⊕ fM) :=
  if 12 ≤ l7 then
    some (.inr M)
  else
    if fin (19 * l4) ∧ fin ((19 * l4) + 6) ∧ (0 ≤ ((19 * l4) + 6) ∧ ((19 * l4) + 6) < 3800) then
      if ¬ (fand (fshr (M 125 ((19 * l4) + 6).toNat) l7) 1) = 0 then
        if l3 = 0 then
          s_X12_pairs_j128 M l1 l2 l3 l4 l5 l6 l7 0
        else
          s_X12_pairs_j128 M l1 l2 l3 l4 l5 l6 l7 l7
      else
        if fin (l7 + 1) then
          some (.inl ((l7 + 1), M))
        else none
    else none
theorem s_X12_pairs_b83_ok {d L : Nat} {M : fM} {l1 l2 l3 l4 l5 l6 l7 : Int} {r : ((Int × fM) ⊕ fM)} {Q : fO → fH → Prop} (h : s_X12_pairs_b83 M l1 l2 l3 l4 l5 l6 l7 = some r) (hC : ∀ (l7' : Int) (M' : fM), r = .inl (l7', M') → Wp (d + 2, 266, 83, 0, 0, [some (fA 122), some (fI l1), some (fI l2), some (fI l3), some (fI l4), some (fI l5), some (fI l6), some (fI l7')], []) (156, fjl L, M') Q) (hE : ∀ (e : fM) (o5' o6' o7' : Option fV), r = .inr e → Wp (d + 2, 266, 206, 0, 0, [some (fA 122), some (fI l1), some (fI l2), some (fI l3), some (fI l4), o5', o6', o7'], []) (156, fjl L, e) Q) : Wp (d + 2, 266, 83, 0, 0, [some (fA 122), some (fI l1), some (fI l2), some (fI l3), some (fI l4), some (fI l5), some (fI l6), some (fI l7)], []) (156, fjl L, M) Q := by
  unfold s_X12_pairs_b83 at h
  refine Wp.run 2 (f' := (d + 2, 266, 87, 0, 0, [some (fA 122), some (fI l1), some (fI l2), some (fI l3), some (fI l4), some (fI l5), some (fI l6), some (fI l7)], [fI 12, fI l7])) (h' := (156, fjl L, M)) rfl trivial ?_
  refine Wp.br rfl (fun (c : 12 ≤ l7) => ?_) (fun (c : ¬ (12 ≤ l7)) => ?_)
  · replace h := fps c h
    exact hE _ _ _ _ (Option.some.inj h).symm
  · replace h := fng c h
    obtain ⟨⟨g0, g1, g2⟩, h⟩ := fgd h
    refine Wp.run 12 (P := [0 ≤ (fw ((fw (19 * l4)) + 6)) ∧ (fw ((fw (19 * l4)) + 6)) < 3800]) (f' := (d + 2, 266, 108, 0, 0, [some (fA 122), some (fI l1), some (fI l2), some (fI l3), some (fI l4), some (fI l5), some (fI l6), some (fI l7)], [fI (fand (fshr (M 125 (fw ((fw (19 * l4)) + 6)).toNat) l7) 1)])) (h' := (156, fjl L, M)) rfl ?_ ?_
    · rw [fw_id g0, fw_id g1]; exact g2
    rw [fw_id g0, fw_id g1]
    refine Wp.br rfl (fun (c : ¬ (fand (fshr (M 125 ((19 * l4) + 6).toNat) l7) 1) = 0) => ?_) (fun (c : ¬ (¬ (fand (fshr (M 125 ((19 * l4) + 6).toNat) l7) 1) = 0)) => ?_)
    · replace h := fps c h
      refine Wp.run 3 (f' := (d + 2, 266, 119, 0, 0, [some (fA 122), some (fI l1), some (fI l2), some (fI l3), some (fI l4), some (fI l5), some (fI l6), some (fI l7)], [fI l3, fA 130])) (h' := (156, fjl L, M)) rfl trivial ?_
      refine Wp.br rfl (fun (c : l3 = 0) => ?_) (fun (c : ¬ (l3 = 0)) => ?_)
      · replace h := fps c h
        refine Wp.run 1 (f' := (d + 2, 266, 128, 0, 0, [some (fA 122), some (fI l1), some (fI l2), some (fI l3), some (fI l4), some (fI l5), some (fI l6), some (fI l7)], [fI 0, fA 130])) (h' := (156, fjl L, M)) rfl trivial ?_
        exact s_X12_pairs_j128_ok h hC hE
      · replace h := fng c h
        refine Wp.run 2 (f' := (d + 2, 266, 128, 0, 0, [some (fA 122), some (fI l1), some (fI l2), some (fI l3), some (fI l4), some (fI l5), some (fI l6), some (fI l7)], [fI l7, fA 130])) (h' := (156, fjl L, M)) rfl trivial ?_
        exact s_X12_pairs_j128_ok h hC hE
    · replace h := fng c h
      obtain ⟨g0, h⟩ := fgd h
      refine Wp.run 3 (f' := (d + 2, 266, 83, 0, 0, [some (fA 122), some (fI l1), some (fI l2), some (fI l3), some (fI l4), some (fI l5), some (fI l6), some (fI (fw (l7 + 1)))], [])) (h' := (156, fjl L, M)) rfl trivial ?_
      rw [fw_id g0]
      exact hC _ _ (Option.some.inj h).symm
theorem s_X12_pairs_b83_fr {M : fM} {l1 l2 l3 l4 l5 l6 l7 : Int} {r : ((Int × fM) ⊕ fM)} (h : s_X12_pairs_b83 M l1 l2 l3 l4 l5 l6 l7 = some r) : fSame s_X12_pairs_mods M (Sum.elim (fun s => s.2) (fun e => e) r) := by
  unfold s_X12_pairs_b83 at h
  by_cases c : 12 ≤ l7
  · replace h := fps c h
    obtain rfl := Option.some.inj h
    exact fs_refl
  · replace h := fng c h
    replace h := (fgd h).2
    by_cases c : ¬ (fand (fshr (M 125 ((19 * l4) + 6).toNat) l7) 1) = 0
    · replace h := fps c h
      by_cases c : l3 = 0
      · replace h := fps c h
        exact fs_trans fs_refl (s_X12_pairs_j128_fr h)
      · replace h := fng c h
        exact fs_trans fs_refl (s_X12_pairs_j128_fr h)
    · replace h := fng c h
      replace h := (fgd h).2
      obtain rfl := Option.some.inj h
      exact fs_refl
noncomputable def s_X12_pairs_l83 (l1 l2 l3 l4 l5 l6 : Int) (s : (Int × fM)) : Option fM := fLp (fun s => s_X12_pairs_b83 s.2 l1 l2 l3 l4 l5 l6 s.1) s
theorem s_X12_pairs_l83_ok {d L : Nat} {M : fM} {l1 l2 l3 l4 l5 l6 l7 : Int} {r : fM} {Q : fO → fH → Prop} (h : s_X12_pairs_l83 l1 l2 l3 l4 l5 l6 (l7, M) = some r) (hE : ∀ (e : fM) (o5' o6' o7' : Option fV), r = e → Wp (d + 2, 266, 206, 0, 0, [some (fA 122), some (fI l1), some (fI l2), some (fI l3), some (fI l4), o5', o6', o7'], []) (156, fjl L, e) Q) : Wp (d + 2, 266, 83, 0, 0, [some (fA 122), some (fI l1), some (fI l2), some (fI l3), some (fI l4), some (fI l5), some (fI l6), some (fI l7)], []) (156, fjl L, M) Q := by
  refine fLp_wp (W := fun s => Wp (d + 2, 266, 83, 0, 0, [some (fA 122), some (fI l1), some (fI l2), some (fI l3), some (fI l4), some (fI l5), some (fI l6), some (fI s.1)], []) (156, fjl L, s.2) Q) (e := r) ?_ h
  intro s r1 h hC hX
  refine s_X12_pairs_b83_ok (d := d) h (fun a0 a1 e1 => ?_) (fun e u0 u1 u2 e1 => hE e u0 u1 u2 (hX _ e1).symm)
  exact hC _ e1
theorem s_X12_pairs_l83_fr {M : fM} {l1 l2 l3 l4 l5 l6 l7 : Int} {r : fM} (h : s_X12_pairs_l83 l1 l2 l3 l4 l5 l6 (l7, M) = some r) : fSame s_X12_pairs_mods M ((fun e => e) r) := by
  refine fLp_inv (I := fun s => fSame s_X12_pairs_mods M s.2) (J := fun r => fSame s_X12_pairs_mods M ((fun e => e) r)) h fs_refl (fun s s1 hs hb => ?_) (fun s e hs hb => ?_)
  · exact fs_trans hs (s_X12_pairs_b83_fr hb)
  · exact fs_trans hs (s_X12_pairs_b83_fr hb)
noncomputable def s_X12_pairs_b3 (M : fM) (l1 l2 l3 l4 : Int) : Option ((Int × fM) ⊕ fM) :=
  if (M 122 10) ≤ l4 then
    some (.inr M)
  else
    (s_X12_isOf M l4 1 l1 364 l2).bind fun y21 =>
      if ¬ y21 = 0 then
        if fin (19 * l4) ∧ fin ((19 * l4) + 2) ∧ (0 ≤ ((19 * l4) + 2) ∧ ((19 * l4) + 2) < 3800) then
          (s_X12_latest M 0 l1 (M 125 ((19 * l4) + 2).toNat) l2).bind fun y50 =>
            if y50 < 0 then
              if fin (l4 + 1) then
                some (.inl ((l4 + 1), M))
              else none
            else
              if fin (19 * y50) ∧ fin ((19 * y50) + 2) ∧ (0 ≤ ((19 * y50) + 2) ∧ ((19 * y50) + 2) < 3800) then
                if ¬ (M 125 ((19 * y50) + 2).toNat) = (M 125 ((19 * l4) + 2).toNat) then
                  (s_X12_pairs_l83 l1 l2 l3 l4 (M 125 ((19 * l4) + 2).toNat) y50 (0, M)).bind fun e83 =>
                    if fin (l4 + 1) then
                      some (.inl ((l4 + 1), e83))
                    else none
                else
                  if fin (l4 + 1) then
                    some (.inl ((l4 + 1), M))
                  else none
              else none
        else none
      else
        if fin (l4 + 1) then
          some (.inl ((l4 + 1), M))
        else none
theorem s_X12_pairs_b3_ok {d L : Nat} {M : fM} {l1 l2 l3 l4 : Int} {o5 o6 o7 : Option fV} {r : ((Int × fM) ⊕ fM)} {Q : fO → fH → Prop} (h : s_X12_pairs_b3 M l1 l2 l3 l4 = some r) (hC : ∀ (l4' : Int) (M' : fM) (o5' o6' o7' : Option fV), r = .inl (l4', M') → Wp (d + 2, 266, 3, 0, 0, [some (fA 122), some (fI l1), some (fI l2), some (fI l3), some (fI l4'), o5', o6', o7'], []) (156, fjl L, M') Q) (hE : ∀ (e : fM) (o0' o1' o2' o3' o4' o5' o6' o7' : Option fV), r = .inr e → Wp (d + 2, 266, 212, 0, 0, [o0', o1', o2', o3', o4', o5', o6', o7'], []) (156, fjl L, e) Q) : Wp (d + 2, 266, 3, 0, 0, [some (fA 122), some (fI l1), some (fI l2), some (fI l3), some (fI l4), o5, o6, o7], []) (156, fjl L, M) Q := by
  unfold s_X12_pairs_b3 at h
  refine Wp.run 3 (f' := (d + 2, 266, 9, 0, 0, [some (fA 122), some (fI l1), some (fI l2), some (fI l3), some (fI l4), _, _, _], [fI (M 122 10), fI l4])) (h' := (156, fjl L, M)) rfl trivial ?_
  refine Wp.br rfl (fun (c : (M 122 10) ≤ l4) => ?_) (fun (c : ¬ ((M 122 10) ≤ l4)) => ?_)
  · replace h := fps c h
    exact hE _ _ _ _ _ _ _ _ _ (Option.some.inj h).symm
  · replace h := fng c h
    refine Wp.run 6 (f' := (d + 2, 266, 21, 0, 0, [some (fA 122), some (fI l1), some (fI l2), some (fI l3), some (fI l4), _, _, _], [fI l2, fI 364, fI l1, fI 1, fI l4, fA 122])) (h' := (156, fjl L, M)) rfl trivial ?_
    obtain ⟨y21, hy, h⟩ := fbd h
    refine Wp.call rfl (by decide) (s_X12_isOf_ok (d := d + 1) hy ?_)
    show Wp (d + 2, 266, 24, 0, 0, [some (fA 122), some (fI l1), some (fI l2), some (fI l3), some (fI l4), _, _, _], [fI y21]) (156, fjl L, M) Q
    refine Wp.br rfl (fun (c : ¬ y21 = 0) => ?_) (fun (c : ¬ (¬ y21 = 0)) => ?_)
    · replace h := fps c h
      obtain ⟨⟨g0, g1, g2⟩, h⟩ := fgd h
      refine Wp.run 14 (P := [0 ≤ (fw ((fw (19 * l4)) + 2)) ∧ (fw ((fw (19 * l4)) + 2)) < 3800]) (f' := (d + 2, 266, 50, 0, 0, [some (fA 122), some (fI l1), some (fI l2), some (fI l3), some (fI l4), some (fI (M 125 (fw ((fw (19 * l4)) + 2)).toNat)), _, _], [fI l2, fI (M 125 (fw ((fw (19 * l4)) + 2)).toNat), fI l1, fI 0, fA 122])) (h' := (156, fjl L, M)) rfl ?_ ?_
      · rw [fw_id g0, fw_id g1]; exact g2
      rw [fw_id g0, fw_id g1]
      obtain ⟨y50, hy, h⟩ := fbd h
      refine Wp.call rfl (by decide) (s_X12_latest_ok (d := d + 0) hy ?_)
      show Wp (d + 2, 266, 53, 0, 0, [some (fA 122), some (fI l1), some (fI l2), some (fI l3), some (fI l4), some (fI (M 125 ((19 * l4) + 2).toNat)), _, _], [fI y50]) (156, fjl L, M) Q
      refine Wp.run 2 (f' := (d + 2, 266, 57, 0, 0, [some (fA 122), some (fI l1), some (fI l2), some (fI l3), some (fI l4), some (fI (M 125 ((19 * l4) + 2).toNat)), some (fI y50), _], [fI y50])) (h' := (156, fjl L, M)) rfl trivial ?_
      refine Wp.br rfl (fun (c : y50 < 0) => ?_) (fun (c : ¬ (y50 < 0)) => ?_)
      · replace h := fps c h
        obtain ⟨g0, h⟩ := fgd h
        refine Wp.run 2 (f' := (d + 2, 266, 3, 0, 0, [some (fA 122), some (fI l1), some (fI l2), some (fI l3), some (fI (fw (l4 + 1))), _, _, _], [])) (h' := (156, fjl L, M)) rfl trivial ?_
        rw [fw_id g0]
        exact hC _ _ _ _ _ (Option.some.inj h).symm
      · replace h := fng c h
        obtain ⟨⟨g0, g1, g2⟩, h⟩ := fgd h
        refine Wp.run 9 (P := [0 ≤ (fw ((fw (19 * y50)) + 2)) ∧ (fw ((fw (19 * y50)) + 2)) < 3800]) (f' := (d + 2, 266, 74, 0, 0, [some (fA 122), some (fI l1), some (fI l2), some (fI l3), some (fI l4), some (fI (M 125 ((19 * l4) + 2).toNat)), some (fI y50), _], [fI (M 125 ((19 * l4) + 2).toNat), fI (M 125 (fw ((fw (19 * y50)) + 2)).toNat)])) (h' := (156, fjl L, M)) rfl ?_ ?_
        · rw [fw_id g0, fw_id g1]; exact g2
        rw [fw_id g0, fw_id g1]
        refine Wp.br rfl (fun (c : ¬ (M 125 ((19 * y50) + 2).toNat) = (M 125 ((19 * l4) + 2).toNat)) => ?_) (fun (c : ¬ (¬ (M 125 ((19 * y50) + 2).toNat) = (M 125 ((19 * l4) + 2).toNat))) => ?_)
        · replace h := fps c h
          refine Wp.run 2 (f' := (d + 2, 266, 83, 0, 0, [some (fA 122), some (fI l1), some (fI l2), some (fI l3), some (fI l4), some (fI (M 125 ((19 * l4) + 2).toNat)), some (fI y50), some (fI 0)], [])) (h' := (156, fjl L, M)) rfl trivial ?_
          obtain ⟨e83, hy, h⟩ := fbd h
          refine s_X12_pairs_l83_ok hy (fun x u5 u6 u7 ex => ?_)
          cases ex
          show Wp (d + 2, 266, 206, 0, 0, [some (fA 122), some (fI l1), some (fI l2), some (fI l3), some (fI l4), u5, u6, u7], []) (156, fjl L, e83) Q
          obtain ⟨g0, h⟩ := fgd h
          refine Wp.run 2 (f' := (d + 2, 266, 3, 0, 0, [some (fA 122), some (fI l1), some (fI l2), some (fI l3), some (fI (fw (l4 + 1))), _, _, _], [])) (h' := (156, fjl L, e83)) rfl trivial ?_
          rw [fw_id g0]
          exact hC _ _ _ _ _ (Option.some.inj h).symm
        · replace h := fng c h
          obtain ⟨g0, h⟩ := fgd h
          refine Wp.run 3 (f' := (d + 2, 266, 3, 0, 0, [some (fA 122), some (fI l1), some (fI l2), some (fI l3), some (fI (fw (l4 + 1))), _, _, _], [])) (h' := (156, fjl L, M)) rfl trivial ?_
          rw [fw_id g0]
          exact hC _ _ _ _ _ (Option.some.inj h).symm
    · replace h := fng c h
      obtain ⟨g0, h⟩ := fgd h
      refine Wp.run 3 (f' := (d + 2, 266, 3, 0, 0, [some (fA 122), some (fI l1), some (fI l2), some (fI l3), some (fI (fw (l4 + 1))), _, _, _], [])) (h' := (156, fjl L, M)) rfl trivial ?_
      rw [fw_id g0]
      exact hC _ _ _ _ _ (Option.some.inj h).symm
theorem s_X12_pairs_b3_fr {M : fM} {l1 l2 l3 l4 : Int} {r : ((Int × fM) ⊕ fM)} (h : s_X12_pairs_b3 M l1 l2 l3 l4 = some r) : fSame s_X12_pairs_mods M (Sum.elim (fun s => s.2) (fun e => e) r) := by
  unfold s_X12_pairs_b3 at h
  by_cases c : (M 122 10) ≤ l4
  · replace h := fps c h
    obtain rfl := Option.some.inj h
    exact fs_refl
  · replace h := fng c h
    obtain ⟨y21, hy, h⟩ := fbd h
    by_cases c : ¬ y21 = 0
    · replace h := fps c h
      replace h := (fgd h).2
      obtain ⟨y50, hy, h⟩ := fbd h
      by_cases c : y50 < 0
      · replace h := fps c h
        replace h := (fgd h).2
        obtain rfl := Option.some.inj h
        exact fs_refl
      · replace h := fng c h
        replace h := (fgd h).2
        by_cases c : ¬ (M 125 ((19 * y50) + 2).toNat) = (M 125 ((19 * l4) + 2).toNat)
        · replace h := fps c h
          obtain ⟨e83, hy, h⟩ := fbd h
          have k83 := fs_trans (l := s_X12_pairs_mods) fs_refl (s_X12_pairs_l83_fr hy)
          replace h := (fgd h).2
          obtain rfl := Option.some.inj h
          exact k83
        · replace h := fng c h
          replace h := (fgd h).2
          obtain rfl := Option.some.inj h
          exact fs_refl
    · replace h := fng c h
      replace h := (fgd h).2
      obtain rfl := Option.some.inj h
      exact fs_refl
noncomputable def s_X12_pairs_l3 (l1 l2 l3 : Int) (s : (Int × fM)) : Option fM := fLp (fun s => s_X12_pairs_b3 s.2 l1 l2 l3 s.1) s
theorem s_X12_pairs_l3_ok {d L : Nat} {M : fM} {l1 l2 l3 l4 : Int} {o5 o6 o7 : Option fV} {r : fM} {Q : fO → fH → Prop} (h : s_X12_pairs_l3 l1 l2 l3 (l4, M) = some r) (hE : ∀ (e : fM) (o0' o1' o2' o3' o4' o5' o6' o7' : Option fV), r = e → Wp (d + 2, 266, 212, 0, 0, [o0', o1', o2', o3', o4', o5', o6', o7'], []) (156, fjl L, e) Q) : Wp (d + 2, 266, 3, 0, 0, [some (fA 122), some (fI l1), some (fI l2), some (fI l3), some (fI l4), o5, o6, o7], []) (156, fjl L, M) Q := by
  refine fLp_wp (W := fun s => ∀ (o5 o6 o7 : Option fV), Wp (d + 2, 266, 3, 0, 0, [some (fA 122), some (fI l1), some (fI l2), some (fI l3), some (fI s.1), o5, o6, o7], []) (156, fjl L, s.2) Q) (e := r) ?_ h _ _ _
  intro s r1 h hC hX o5 o6 o7
  refine s_X12_pairs_b3_ok (d := d) h (fun a0 a1 _ _ _ e1 => ?_) (fun e u0 u1 u2 u3 u4 u5 u6 u7 e1 => hE e u0 u1 u2 u3 u4 u5 u6 u7 (hX _ e1).symm)
  exact hC _ e1 _ _ _
theorem s_X12_pairs_l3_fr {M : fM} {l1 l2 l3 l4 : Int} {r : fM} (h : s_X12_pairs_l3 l1 l2 l3 (l4, M) = some r) : fSame s_X12_pairs_mods M ((fun e => e) r) := by
  refine fLp_inv (I := fun s => fSame s_X12_pairs_mods M s.2) (J := fun r => fSame s_X12_pairs_mods M ((fun e => e) r)) h fs_refl (fun s s1 hs hb => ?_) (fun s e hs hb => ?_)
  · exact fs_trans hs (s_X12_pairs_b3_fr hb)
  · exact fs_trans hs (s_X12_pairs_b3_fr hb)
noncomputable def s_X12_pairs (M : fM) (l1 l2 l3 : Int) : Option (Unit × fM) :=
  (s_X12_pairs_l3 l1 l2 l3 (0, M)).bind fun e3 =>
    some ((), e3)
theorem s_X12_pairs_ok {d L : Nat} {M : fM} {l1 l2 l3 : Int} {r : (Unit × fM)} {Q : fO → fH → Prop} (h : s_X12_pairs M l1 l2 l3 = some r) (H : Q (oV r.1) (156, fjl L, r.2)) : Wp (d + 2, 266, 0, 0, 0, [some (fA 122), some (fI l1), some (fI l2), some (fI l3), none, none, none, none], []) (156, fjl L, M) Q := by
  unfold s_X12_pairs at h
  refine Wp.run 2 (f' := (d + 2, 266, 3, 0, 0, [some (fA 122), some (fI l1), some (fI l2), some (fI l3), some (fI 0), _, _, _], [])) (h' := (156, fjl L, M)) rfl trivial ?_
  obtain ⟨e3, hy, h⟩ := fbd h
  refine s_X12_pairs_l3_ok hy (fun x u0 u1 u2 u3 u4 u5 u6 u7 ex => ?_)
  cases ex
  show Wp (d + 2, 266, 212, 0, 0, [u0, u1, u2, u3, u4, u5, u6, u7], []) (156, fjl L, e3) Q
  obtain rfl := Option.some.inj h
  exact Wp.done rfl (by decide) H
theorem s_X12_pairs_fr {M : fM} {l1 l2 l3 : Int} {r : (Unit × fM)} (h : s_X12_pairs M l1 l2 l3 = some r) : fSame s_X12_pairs_mods M r.2 := by
  unfold s_X12_pairs at h
  obtain ⟨e3, hy, h⟩ := fbd h
  have k3 := fs_trans (l := s_X12_pairs_mods) fs_refl (s_X12_pairs_l3_fr hy)
  obtain rfl := Option.some.inj h
  exact k3
noncomputable def s_X12_common_b28 (M : fM) (l4 l6 : Int) : Option ((Int × Int) ⊕ Int) :=
  if l6 = 0 then
    some (.inr l4)
  else
    if l6 ≠ 0 then
      some (.inl (l6, (flrm l4 l6)))
    else none
theorem s_X12_common_b28_ok {d L : Nat} {M : fM} {l4 l6 : Int} {o0 o1 o2 o3 o8 o9 : Option fV} {r : ((Int × Int) ⊕ Int)} {Q : fO → fH → Prop} (h : s_X12_common_b28 M l4 l6 = some r) (hC : ∀ (l4' l6' : Int) (o0' o1' o2' o3' o8' o9' : Option fV), r = .inl (l4', l6') → Wp (d + 0, 268, 28, 0, 0, [o0', o1', o2', o3', some (fJ l4'), none, some (fJ l6'), none, o8', o9'], []) (156, fjl L, M) Q) (hE : ∀ (e : Int) (o0' o1' o2' o3' o6' o7' o8' o9' : Option fV), r = .inr e → Wp (d + 0, 268, 53, 0, 0, [o0', o1', o2', o3', some (fJ e), none, o6', o7', o8', o9'], []) (156, fjl L, M) Q) : Wp (d + 0, 268, 28, 0, 0, [o0, o1, o2, o3, some (fJ l4), none, some (fJ l6), none, o8, o9], []) (156, fjl L, M) Q := by
  unfold s_X12_common_b28 at h
  refine Wp.run 3 (f' := (d + 0, 268, 32, 0, 0, [_, _, _, _, some (fJ l4), none, some (fJ l6), none, _, _], [fI (fcm l6 0)])) (h' := (156, fjl L, M)) rfl trivial ?_
  refine Wp.br rfl (fun (c : (fcm l6 0) = 0) => ?_) (fun (c : ¬ ((fcm l6 0) = 0)) => ?_)
  · replace c := (fcm_eq _ _).mp c
    replace h := fps c h
    exact hE _ _ _ _ _ _ _ _ _ (Option.some.inj h).symm
  · replace c := fun z => c ((fcm_eq _ _).mpr z)
    replace h := fng c h
    obtain ⟨g0, h⟩ := fgd h
    refine Wp.run 9 (P := [l6 ≠ 0]) (f' := (d + 0, 268, 28, 0, 0, [_, _, _, _, some (fJ l6), none, some (fJ (flrm l4 l6)), none, _, _], [])) (h' := (156, fjl L, M)) rfl ?_ ?_
    · exact g0
    exact hC _ _ _ _ _ _ _ _ (Option.some.inj h).symm
noncomputable def s_X12_common_l28 (M : fM) (s : (Int × Int)) : Option Int := fLp (fun s => s_X12_common_b28 M s.1 s.2) s
theorem s_X12_common_l28_ok {d L : Nat} {M : fM} {l4 l6 : Int} {o0 o1 o2 o3 o8 o9 : Option fV} {r : Int} {Q : fO → fH → Prop} (h : s_X12_common_l28 M (l4, l6) = some r) (hE : ∀ (e : Int) (o0' o1' o2' o3' o6' o7' o8' o9' : Option fV), r = e → Wp (d + 0, 268, 53, 0, 0, [o0', o1', o2', o3', some (fJ e), none, o6', o7', o8', o9'], []) (156, fjl L, M) Q) : Wp (d + 0, 268, 28, 0, 0, [o0, o1, o2, o3, some (fJ l4), none, some (fJ l6), none, o8, o9], []) (156, fjl L, M) Q := by
  refine fLp_wp (W := fun s => ∀ (o0 o1 o2 o3 o8 o9 : Option fV), Wp (d + 0, 268, 28, 0, 0, [o0, o1, o2, o3, some (fJ s.1), none, some (fJ s.2), none, o8, o9], []) (156, fjl L, M) Q) (e := r) ?_ h _ _ _ _ _ _
  intro s r1 h hC hX o0 o1 o2 o3 o8 o9
  refine s_X12_common_b28_ok (d := d) h (fun a0 a1 _ _ _ _ _ _ e1 => ?_) (fun e u0 u1 u2 u3 u4 u5 u6 u7 e1 => hE e u0 u1 u2 u3 u4 u5 u6 u7 (hX _ e1).symm)
  exact hC _ e1 _ _ _ _ _ _
noncomputable def s_X12_common_j26 (M : fM) (l4 t0 : Int) : Option Int :=
  (s_X12_common_l28 M (l4, t0)).bind fun e28 =>
    some e28
theorem s_X12_common_j26_ok {d L : Nat} {M : fM} {l4 t0 : Int} {o0 o1 o2 o3 o6 o7 o8 o9 : Option fV} {r : Int} {Q : fO → fH → Prop} (h : s_X12_common_j26 M l4 t0 = some r) (H : Q (oJ r) (156, fjl L, M)) : Wp (d + 0, 268, 26, 0, 0, [o0, o1, o2, o3, some (fJ l4), none, o6, o7, o8, o9], [fJ t0]) (156, fjl L, M) Q := by
  unfold s_X12_common_j26 at h
  refine Wp.run 1 (f' := (d + 0, 268, 28, 0, 0, [_, _, _, _, some (fJ l4), none, some (fJ t0), none, _, _], [])) (h' := (156, fjl L, M)) rfl trivial ?_
  obtain ⟨e28, hy, h⟩ := fbd h
  refine s_X12_common_l28_ok hy (fun x u0 u1 u2 u3 u6 u7 u8 u9 ex => ?_)
  cases ex
  show Wp (d + 0, 268, 53, 0, 0, [u0, u1, u2, u3, some (fJ e28), none, u6, u7, u8, u9], []) (156, fjl L, M) Q
  refine Wp.run 1 (f' := (d + 0, 268, 55, 0, 0, [_, _, _, _, _, _, _, _, _, _], [fJ e28])) (h' := (156, fjl L, M)) rfl trivial ?_
  obtain rfl := Option.some.inj h
  exact Wp.done rfl (by decide) H
noncomputable def s_X12_common_j12 (M : fM) (l2 t0 : Int) : Option Int :=
  if 0 ≤ l2 then
    s_X12_common_j26 M t0 l2
  else
    if finl (-l2) then
      s_X12_common_j26 M t0 (-l2)
    else none
theorem s_X12_common_j12_ok {d L : Nat} {M : fM} {l2 t0 : Int} {o0 o1 o4 o5 o6 o7 o8 o9 : Option fV} {r : Int} {Q : fO → fH → Prop} (h : s_X12_common_j12 M l2 t0 = some r) (H : Q (oJ r) (156, fjl L, M)) : Wp (d + 0, 268, 12, 0, 0, [o0, o1, some (fJ l2), none, o4, o5, o6, o7, o8, o9], [fJ t0]) (156, fjl L, M) Q := by
  unfold s_X12_common_j12 at h
  refine Wp.run 4 (f' := (d + 0, 268, 17, 0, 0, [_, _, some (fJ l2), none, some (fJ t0), none, _, _, _, _], [fI (fcm l2 0)])) (h' := (156, fjl L, M)) rfl trivial ?_
  refine Wp.br rfl (fun (c : 0 ≤ (fcm l2 0)) => ?_) (fun (c : ¬ (0 ≤ (fcm l2 0))) => ?_)
  · replace c := (fcm_ge _ _).mp c
    replace h := fps c h
    refine Wp.run 1 (f' := (d + 0, 268, 26, 0, 0, [_, _, _, _, some (fJ t0), none, _, _, _, _], [fJ l2])) (h' := (156, fjl L, M)) rfl trivial ?_
    exact s_X12_common_j26_ok h H
  · replace c := fun z => c ((fcm_ge _ _).mpr z)
    replace h := fng c h
    obtain ⟨g0, h⟩ := fgd h
    refine Wp.run 3 (f' := (d + 0, 268, 26, 0, 0, [_, _, _, _, some (fJ t0), none, _, _, _, _], [fJ (fwl (-l2))])) (h' := (156, fjl L, M)) rfl trivial ?_
    rw [fwl_id g0]
    exact s_X12_common_j26_ok h H
noncomputable def s_X12_common (M : fM) (l0 l2 : Int) : Option Int :=
  if 0 ≤ l0 then
    s_X12_common_j12 M l2 l0
  else
    if finl (-l0) then
      s_X12_common_j12 M l2 (-l0)
    else none
theorem s_X12_common_ok {d L : Nat} {M : fM} {l0 l2 : Int} {r : Int} {Q : fO → fH → Prop} (h : s_X12_common M l0 l2 = some r) (H : Q (oJ r) (156, fjl L, M)) : Wp (d + 0, 268, 0, 0, 0, [some (fJ l0), none, some (fJ l2), none, none, none, none, none, none, none], []) (156, fjl L, M) Q := by
  unfold s_X12_common at h
  refine Wp.run 3 (f' := (d + 0, 268, 3, 0, 0, [some (fJ l0), none, some (fJ l2), none, _, _, _, _, _, _], [fI (fcm l0 0)])) (h' := (156, fjl L, M)) rfl trivial ?_
  refine Wp.br rfl (fun (c : 0 ≤ (fcm l0 0)) => ?_) (fun (c : ¬ (0 ≤ (fcm l0 0))) => ?_)
  · replace c := (fcm_ge _ _).mp c
    replace h := fps c h
    refine Wp.run 1 (f' := (d + 0, 268, 12, 0, 0, [_, _, some (fJ l2), none, _, _, _, _, _, _], [fJ l0])) (h' := (156, fjl L, M)) rfl trivial ?_
    exact s_X12_common_j12_ok h H
  · replace c := fun z => c ((fcm_ge _ _).mpr z)
    replace h := fng c h
    obtain ⟨g0, h⟩ := fgd h
    refine Wp.run 3 (f' := (d + 0, 268, 12, 0, 0, [_, _, some (fJ l2), none, _, _, _, _, _, _], [fJ (fwl (-l0))])) (h' := (156, fjl L, M)) rfl trivial ?_
    rw [fwl_id g0]
    exact s_X12_common_j12_ok h H
abbrev s_X12_slips_mods : List (Nat × Option Nat) := [(122, some 0), (122, some 31), (122, some 32), (130, none), (131, none)]
noncomputable def s_X12_slips_b39 (M : fM) (l3 l4 : Int) : Option ((Int × Int) ⊕ Int) :=
  if 12 ≤ l4 then
    some (.inr l3)
  else
    if (0 ≤ l4 ∧ l4 < 12) then
      if (M 131 (l4).toNat) ≤ 0 then
        if fin (l4 + 1) then
          some (.inl (l3, (l4 + 1)))
        else none
      else
        if l3 < 0 then
          if fin (l4 + 1) then
            some (.inl (l4, (l4 + 1)))
          else none
        else
          if (0 ≤ l4 ∧ l4 < 12) ∧ (0 ≤ l3 ∧ l3 < 12) ∧ finl ((M 130 (l4).toNat) * (M 131 (l3).toNat)) ∧ finl ((M 130 (l3).toNat) * (M 131 (l4).toNat)) then
            if ((M 130 (l4).toNat) * (M 131 (l3).toNat)) ≤ ((M 130 (l3).toNat) * (M 131 (l4).toNat)) then
              if fin (l4 + 1) then
                some (.inl (l3, (l4 + 1)))
              else none
            else
              if fin (l4 + 1) then
                some (.inl (l4, (l4 + 1)))
              else none
          else none
    else none
theorem s_X12_slips_b39_ok {d L : Nat} {M : fM} {l3 l4 : Int} {o1 o2 o5 : Option fV} {r : ((Int × Int) ⊕ Int)} {Q : fO → fH → Prop} (h : s_X12_slips_b39 M l3 l4 = some r) (hC : ∀ (l3' l4' : Int) (o1' o2' o5' : Option fV), r = .inl (l3', l4') → Wp (d + 3, 269, 39, 0, 0, [some (fA 122), o1', o2', some (fI l3'), some (fI l4'), o5'], []) (156, fjl L, M) Q) (hE : ∀ (e : Int) (o1' o2' o4' o5' : Option fV), r = .inr e → Wp (d + 3, 269, 103, 0, 0, [some (fA 122), o1', o2', some (fI e), o4', o5'], []) (156, fjl L, M) Q) : Wp (d + 3, 269, 39, 0, 0, [some (fA 122), o1, o2, some (fI l3), some (fI l4), o5], []) (156, fjl L, M) Q := by
  unfold s_X12_slips_b39 at h
  refine Wp.run 2 (f' := (d + 3, 269, 43, 0, 0, [some (fA 122), _, _, some (fI l3), some (fI l4), _], [fI 12, fI l4])) (h' := (156, fjl L, M)) rfl trivial ?_
  refine Wp.br rfl (fun (c : 12 ≤ l4) => ?_) (fun (c : ¬ (12 ≤ l4)) => ?_)
  · replace h := fps c h
    exact hE _ _ _ _ _ (Option.some.inj h).symm
  · replace h := fng c h
    obtain ⟨g0, h⟩ := fgd h
    refine Wp.run 6 (P := [0 ≤ l4 ∧ l4 < 12]) (f' := (d + 3, 269, 55, 0, 0, [some (fA 122), _, _, some (fI l3), some (fI l4), _], [fI (fcm (M 131 (l4).toNat) 0)])) (h' := (156, fjl L, M)) rfl ?_ ?_
    · exact g0
    refine Wp.br rfl (fun (c : (fcm (M 131 (l4).toNat) 0) ≤ 0) => ?_) (fun (c : ¬ ((fcm (M 131 (l4).toNat) 0) ≤ 0)) => ?_)
    · replace c := (fcm_le _ _).mp c
      replace h := fps c h
      obtain ⟨g0, h⟩ := fgd h
      refine Wp.run 2 (f' := (d + 3, 269, 39, 0, 0, [some (fA 122), _, _, some (fI l3), some (fI (fw (l4 + 1))), _], [])) (h' := (156, fjl L, M)) rfl trivial ?_
      rw [fw_id g0]
      exact hC _ _ _ _ _ (Option.some.inj h).symm
    · replace c := fun z => c ((fcm_le _ _).mpr z)
      replace h := fng c h
      refine Wp.run 1 (f' := (d + 3, 269, 59, 0, 0, [some (fA 122), _, _, some (fI l3), some (fI l4), _], [fI l3])) (h' := (156, fjl L, M)) rfl trivial ?_
      refine Wp.br rfl (fun (c : l3 < 0) => ?_) (fun (c : ¬ (l3 < 0)) => ?_)
      · replace h := fps c h
        obtain ⟨g0, h⟩ := fgd h
        refine Wp.run 4 (f' := (d + 3, 269, 39, 0, 0, [some (fA 122), _, _, some (fI l4), some (fI (fw (l4 + 1))), _], [])) (h' := (156, fjl L, M)) rfl trivial ?_
        rw [fw_id g0]
        exact hC _ _ _ _ _ (Option.some.inj h).symm
      · replace h := fng c h
        obtain ⟨⟨g0, g1, g2, g3⟩, h⟩ := fgd h
        refine Wp.run 19 (P := [0 ≤ l4 ∧ l4 < 12, 0 ≤ l3 ∧ l3 < 12, 0 ≤ l3 ∧ l3 < 12, 0 ≤ l4 ∧ l4 < 12]) (f' := (d + 3, 269, 91, 0, 0, [some (fA 122), _, _, some (fI l3), some (fI l4), _], [fI (fcm (fwl ((M 130 (l4).toNat) * (M 131 (l3).toNat))) (fwl ((M 130 (l3).toNat) * (M 131 (l4).toNat))))])) (h' := (156, fjl L, M)) rfl ?_ ?_
        · exact ⟨g0, g1, g1, g0⟩
        rw [fwl_id g2, fwl_id g3]
        refine Wp.br rfl (fun (c : (fcm ((M 130 (l4).toNat) * (M 131 (l3).toNat)) ((M 130 (l3).toNat) * (M 131 (l4).toNat))) ≤ 0) => ?_) (fun (c : ¬ ((fcm ((M 130 (l4).toNat) * (M 131 (l3).toNat)) ((M 130 (l3).toNat) * (M 131 (l4).toNat))) ≤ 0)) => ?_)
        · replace c := (fcm_le _ _).mp c
          replace h := fps c h
          obtain ⟨g0, h⟩ := fgd h
          refine Wp.run 2 (f' := (d + 3, 269, 39, 0, 0, [some (fA 122), _, _, some (fI l3), some (fI (fw (l4 + 1))), _], [])) (h' := (156, fjl L, M)) rfl trivial ?_
          rw [fw_id g0]
          exact hC _ _ _ _ _ (Option.some.inj h).symm
        · replace c := fun z => c ((fcm_le _ _).mpr z)
          replace h := fng c h
          obtain ⟨g0, h⟩ := fgd h
          refine Wp.run 4 (f' := (d + 3, 269, 39, 0, 0, [some (fA 122), _, _, some (fI l4), some (fI (fw (l4 + 1))), _], [])) (h' := (156, fjl L, M)) rfl trivial ?_
          rw [fw_id g0]
          exact hC _ _ _ _ _ (Option.some.inj h).symm
theorem s_X12_slips_b39_fr {M : fM} {l3 l4 : Int} {r : ((Int × Int) ⊕ Int)} (h : s_X12_slips_b39 M l3 l4 = some r) : fSame s_X12_slips_mods M (Sum.elim (fun _ => M) (fun _ => M) r) := by
  unfold s_X12_slips_b39 at h
  by_cases c : 12 ≤ l4
  · replace h := fps c h
    obtain rfl := Option.some.inj h
    exact fs_refl
  · replace h := fng c h
    replace h := (fgd h).2
    by_cases c : (M 131 (l4).toNat) ≤ 0
    · replace h := fps c h
      replace h := (fgd h).2
      obtain rfl := Option.some.inj h
      exact fs_refl
    · replace h := fng c h
      by_cases c : l3 < 0
      · replace h := fps c h
        replace h := (fgd h).2
        obtain rfl := Option.some.inj h
        exact fs_refl
      · replace h := fng c h
        replace h := (fgd h).2
        by_cases c : ((M 130 (l4).toNat) * (M 131 (l3).toNat)) ≤ ((M 130 (l3).toNat) * (M 131 (l4).toNat))
        · replace h := fps c h
          replace h := (fgd h).2
          obtain rfl := Option.some.inj h
          exact fs_refl
        · replace h := fng c h
          replace h := (fgd h).2
          obtain rfl := Option.some.inj h
          exact fs_refl
noncomputable def s_X12_slips_l39 (M : fM) (s : (Int × Int)) : Option Int := fLp (fun s => s_X12_slips_b39 M s.1 s.2) s
theorem s_X12_slips_l39_ok {d L : Nat} {M : fM} {l3 l4 : Int} {o1 o2 o5 : Option fV} {r : Int} {Q : fO → fH → Prop} (h : s_X12_slips_l39 M (l3, l4) = some r) (hE : ∀ (e : Int) (o1' o2' o4' o5' : Option fV), r = e → Wp (d + 3, 269, 103, 0, 0, [some (fA 122), o1', o2', some (fI e), o4', o5'], []) (156, fjl L, M) Q) : Wp (d + 3, 269, 39, 0, 0, [some (fA 122), o1, o2, some (fI l3), some (fI l4), o5], []) (156, fjl L, M) Q := by
  refine fLp_wp (W := fun s => ∀ (o1 o2 o5 : Option fV), Wp (d + 3, 269, 39, 0, 0, [some (fA 122), o1, o2, some (fI s.1), some (fI s.2), o5], []) (156, fjl L, M) Q) (e := r) ?_ h _ _ _
  intro s r1 h hC hX o1 o2 o5
  refine s_X12_slips_b39_ok (d := d) h (fun a0 a1 _ _ _ e1 => ?_) (fun e u0 u1 u2 u3 e1 => hE e u0 u1 u2 u3 (hX _ e1).symm)
  exact hC _ e1 _ _ _
noncomputable def s_X12_slips (M : fM) (l1 l2 : Int) : Option (Int × fM) :=
  (s_X12_isPiano (fup M 122 0 0) l1).bind fun y7 =>
    if y7 = 0 then
      some ((-2), (fup M 122 0 0))
    else
      (s_X12_isKnown (fup M 122 0 0) l2).bind fun y14 =>
        if ¬ y14 = 0 then
          (s_X12_noPairs (fup M 122 0 0)).bind fun y24 =>
            (s_X12_pairs y24.2 l1 l2 1).bind fun y31 =>
              (s_X12_slips_l39 y31.2 ((-1), 0)).bind fun e39 =>
                if 0 ≤ e39 then
                  if (0 ≤ e39 ∧ e39 < 12) then
                    (s_X12_common y31.2 (y31.2 130 (e39).toNat) (y31.2 131 (e39).toNat)).bind fun y121 =>
                      if (0 ≤ e39 ∧ e39 < 12) ∧ y121 ≠ 0 ∧ fin (fldv (y31.2 130 (e39).toNat) y121) ∧ fin (fldv (y31.2 131 (e39).toNat) y121) then
                        some (e39, (fup (fup y31.2 122 31 (fldv (y31.2 130 (e39).toNat) y121)) 122 32 (fldv (y31.2 131 (e39).toNat) y121)))
                      else none
                  else none
                else
                  some ((-1), y31.2)
        else
          some ((-2), (fup M 122 0 0))
theorem s_X12_slips_ok {d L : Nat} {M : fM} {l1 l2 : Int} {r : (Int × fM)} {Q : fO → fH → Prop} (h : s_X12_slips M l1 l2 = some r) (H : Q (oI r.1) (156, fjl L, r.2)) : Wp (d + 3, 269, 0, 0, 0, [some (fA 122), some (fI l1), some (fI l2), none, none, none], []) (156, fjl L, M) Q := by
  unfold s_X12_slips at h
  refine Wp.run 5 (f' := (d + 3, 269, 7, 0, 0, [some (fA 122), some (fI l1), some (fI l2), _, _, _], [fI l1, fA 122])) (h' := (156, fjl L, (fup M 122 0 0))) rfl trivial ?_
  obtain ⟨y7, hy, h⟩ := fbd h
  refine Wp.call rfl (by decide) (s_X12_isPiano_ok (d := d + 1) hy ?_)
  show Wp (d + 3, 269, 10, 0, 0, [some (fA 122), some (fI l1), some (fI l2), _, _, _], [fI y7]) (156, fjl L, (fup M 122 0 0)) Q
  refine Wp.br rfl (fun (c : y7 = 0) => ?_) (fun (c : ¬ (y7 = 0)) => ?_)
  · replace h := fps c h
    refine Wp.run 1 (f' := (d + 3, 269, 22, 0, 0, [_, _, _, _, _, _], [fI (-2)])) (h' := (156, fjl L, (fup M 122 0 0))) rfl trivial ?_
    obtain rfl := Option.some.inj h
    exact Wp.done rfl (by decide) H
  · replace h := fng c h
    refine Wp.run 1 (f' := (d + 3, 269, 14, 0, 0, [some (fA 122), some (fI l1), some (fI l2), _, _, _], [fI l2])) (h' := (156, fjl L, (fup M 122 0 0))) rfl trivial ?_
    obtain ⟨y14, hy, h⟩ := fbd h
    refine Wp.call rfl (by decide) (s_X12_isKnown_ok (d := d + 1) hy ?_)
    show Wp (d + 3, 269, 17, 0, 0, [some (fA 122), some (fI l1), some (fI l2), _, _, _], [fI y14]) (156, fjl L, (fup M 122 0 0)) Q
    refine Wp.br rfl (fun (c : ¬ y14 = 0) => ?_) (fun (c : ¬ (¬ y14 = 0)) => ?_)
    · replace h := fps c h
      refine Wp.run 1 (f' := (d + 3, 269, 24, 0, 0, [some (fA 122), some (fI l1), some (fI l2), _, _, _], [fA 122])) (h' := (156, fjl L, (fup M 122 0 0))) rfl trivial ?_
      obtain ⟨y24, hy, h⟩ := fbd h
      refine Wp.call rfl (by decide) (s_X12_noPairs_ok (d := d + 2) hy ?_)
      show Wp (d + 3, 269, 27, 0, 0, [some (fA 122), some (fI l1), some (fI l2), _, _, _], []) (156, fjl L, y24.2) Q
      refine Wp.run 4 (f' := (d + 3, 269, 31, 0, 0, [some (fA 122), _, _, _, _, _], [fI 1, fI l2, fI l1, fA 122])) (h' := (156, fjl L, y24.2)) rfl trivial ?_
      obtain ⟨y31, hy, h⟩ := fbd h
      refine Wp.call rfl (by decide) (s_X12_pairs_ok (d := d + 0) hy ?_)
      show Wp (d + 3, 269, 34, 0, 0, [some (fA 122), _, _, _, _, _], []) (156, fjl L, y31.2) Q
      refine Wp.run 4 (f' := (d + 3, 269, 39, 0, 0, [some (fA 122), _, _, some (fI (-1)), some (fI 0), _], [])) (h' := (156, fjl L, y31.2)) rfl trivial ?_
      obtain ⟨e39, hy, h⟩ := fbd h
      refine s_X12_slips_l39_ok hy (fun x u1 u2 u4 u5 ex => ?_)
      cases ex
      show Wp (d + 3, 269, 103, 0, 0, [some (fA 122), u1, u2, some (fI e39), u4, u5], []) (156, fjl L, y31.2) Q
      refine Wp.run 1 (f' := (d + 3, 269, 104, 0, 0, [some (fA 122), _, _, some (fI e39), _, _], [fI e39])) (h' := (156, fjl L, y31.2)) rfl trivial ?_
      refine Wp.br rfl (fun (c : 0 ≤ e39) => ?_) (fun (c : ¬ (0 ≤ e39)) => ?_)
      · replace h := fps c h
        obtain ⟨g0, h⟩ := fgd h
        refine Wp.run 8 (P := [0 ≤ e39 ∧ e39 < 12, 0 ≤ e39 ∧ e39 < 12]) (f' := (d + 3, 269, 121, 0, 0, [some (fA 122), _, _, some (fI e39), _, _], [fJ (y31.2 131 (e39).toNat), fJ (y31.2 130 (e39).toNat)])) (h' := (156, fjl L, y31.2)) rfl ?_ ?_
        · exact ⟨g0, g0⟩
        obtain ⟨y121, hy, h⟩ := fbd h
        refine Wp.call rfl (by decide) (s_X12_common_ok (d := d + 2) hy ?_)
        show Wp (d + 3, 269, 124, 0, 0, [some (fA 122), _, _, some (fI e39), _, _], [fJ y121]) (156, fjl L, y31.2) Q
        obtain ⟨⟨g0, g1, g2, g3⟩, h⟩ := fgd h
        refine Wp.run 19 (P := [0 ≤ e39 ∧ e39 < 12, y121 ≠ 0, 0 ≤ e39 ∧ e39 < 12, y121 ≠ 0]) (f' := (d + 3, 269, 154, 0, 0, [_, _, _, some (fI e39), _, _], [])) (h' := (156, fjl L, (fup (fup y31.2 122 31 (fw (fldv (y31.2 130 (e39).toNat) y121))) 122 32 (fw (fldv (y31.2 131 (e39).toNat) y121))))) rfl ?_ ?_
        · exact ⟨g0, g1, g0, g1⟩
        rw [fw_id g2, fw_id g3]
        refine Wp.run 1 (f' := (d + 3, 269, 155, 0, 0, [_, _, _, _, _, _], [fI e39])) (h' := (156, fjl L, (fup (fup y31.2 122 31 (fldv (y31.2 130 (e39).toNat) y121)) 122 32 (fldv (y31.2 131 (e39).toNat) y121)))) rfl trivial ?_
        obtain rfl := Option.some.inj h
        exact Wp.done rfl (by decide) H
      · replace h := fng c h
        refine Wp.run 1 (f' := (d + 3, 269, 108, 0, 0, [_, _, _, _, _, _], [fI (-1)])) (h' := (156, fjl L, y31.2)) rfl trivial ?_
        obtain rfl := Option.some.inj h
        exact Wp.done rfl (by decide) H
    · replace h := fng c h
      refine Wp.run 1 (f' := (d + 3, 269, 22, 0, 0, [_, _, _, _, _, _], [fI (-2)])) (h' := (156, fjl L, (fup M 122 0 0))) rfl trivial ?_
      obtain rfl := Option.some.inj h
      exact Wp.done rfl (by decide) H
theorem s_X12_slips_fr {M : fM} {l1 l2 : Int} {r : (Int × fM)} (h : s_X12_slips M l1 l2 = some r) : fSame s_X12_slips_mods M r.2 := by
  unfold s_X12_slips at h
  obtain ⟨y7, hy, h⟩ := fbd h
  by_cases c : y7 = 0
  · replace h := fps c h
    obtain rfl := Option.some.inj h
    exact fs_up fs_refl (.inr (by decide))
  · replace h := fng c h
    obtain ⟨y14, hy, h⟩ := fbd h
    by_cases c : ¬ y14 = 0
    · replace h := fps c h
      obtain ⟨y24, hy, h⟩ := fbd h
      have k24 := fs_trans (l := s_X12_slips_mods) (fs_up fs_refl (.inr (by decide))) (fs_mono (l := s_X12_noPairs_mods) (by decide) (s_X12_noPairs_fr hy))
      obtain ⟨y31, hy, h⟩ := fbd h
      have k31 := fs_trans (l := s_X12_slips_mods) k24 (fs_mono (l := s_X12_pairs_mods) (by decide) (s_X12_pairs_fr hy))
      obtain ⟨e39, hy, h⟩ := fbd h
      by_cases c : 0 ≤ e39
      · replace h := fps c h
        replace h := (fgd h).2
        obtain ⟨y121, hy, h⟩ := fbd h
        replace h := (fgd h).2
        obtain rfl := Option.some.inj h
        exact fs_up (fs_up k31 (.inr (by decide))) (.inr (by decide))
      · replace h := fng c h
        obtain rfl := Option.some.inj h
        exact k31
    · replace h := fng c h
      obtain rfl := Option.some.inj h
      exact fs_up fs_refl (.inr (by decide))
noncomputable def s_X11_slipped (M : fM) (l1 : Int) : Option (Int ⊕ Unit) :=
  (s_X11_isWithin M l1 2).bind fun y2 =>
    if y2 = 0 then
      some (.inr ())
    else
      if ¬ (M 47 8) = 0 then
        if ¬ l1 = 0 then
          some (.inl (M 47 8))
        else
          some (.inl (M 47 7))
      else
        some (.inr ())
theorem s_X11_slipped_ok {d L : Nat} {M : fM} {l1 : Int} {r : (Int ⊕ Unit)} {Q : fO → fH → Prop} (h : s_X11_slipped M l1 = some r) (H : Q (oT oI 0 r) (156, fjl L, M)) : Wp (d + 7, 164, 0, 0, 0, [some (fA 0), some (fI l1)], []) (156, fjl L, M) Q := by
  unfold s_X11_slipped at h
  refine Wp.run 2 (f' := (d + 7, 164, 2, 0, 0, [some (fA 0), some (fI l1)], [fI 2, fI l1])) (h' := (156, fjl L, M)) rfl trivial ?_
  obtain ⟨y2, hy, h⟩ := fbd h
  refine Wp.call rfl (by decide) (s_X11_isWithin_ok (d := d + 6) hy ?_)
  show Wp (d + 7, 164, 5, 0, 0, [some (fA 0), some (fI l1)], [fI y2]) (156, fjl L, M) Q
  refine Wp.br rfl (fun (c : y2 = 0) => ?_) (fun (c : ¬ (y2 = 0)) => ?_)
  · replace h := fps c h
    obtain rfl := Option.some.inj h
    exact Wp.done rfl ⟨Nat.le_add_left_of_le (by decide), rfl, rfl⟩ H
  · replace h := fng c h
    refine Wp.run 3 (f' := (d + 7, 164, 15, 0, 0, [some (fA 0), some (fI l1)], [fI (M 47 8)])) (h' := (156, fjl L, M)) rfl trivial ?_
    refine Wp.br rfl (fun (c : ¬ (M 47 8) = 0) => ?_) (fun (c : ¬ (¬ (M 47 8) = 0)) => ?_)
    · replace h := fps c h
      refine Wp.run 1 (f' := (d + 7, 164, 27, 0, 0, [some (fA 0), _], [fI l1])) (h' := (156, fjl L, M)) rfl trivial ?_
      refine Wp.br rfl (fun (c : ¬ l1 = 0) => ?_) (fun (c : ¬ (¬ l1 = 0)) => ?_)
      · replace h := fps c h
        refine Wp.run 3 (f' := (d + 7, 164, 47, 0, 0, [_, _], [fI (M 47 8)])) (h' := (156, fjl L, M)) rfl trivial ?_
        obtain rfl := Option.some.inj h
        exact Wp.done rfl (by decide) H
      · replace h := fng c h
        refine Wp.run 4 (f' := (d + 7, 164, 47, 0, 0, [_, _], [fI (M 47 7)])) (h' := (156, fjl L, M)) rfl trivial ?_
        obtain rfl := Option.some.inj h
        exact Wp.done rfl (by decide) H
    · replace h := fng c h
      obtain rfl := Option.some.inj h
      exact Wp.done rfl ⟨Nat.le_add_left_of_le (by decide), rfl, rfl⟩ H
abbrev s_L_slipped_0_155_mods : List (Nat × Option Nat) := [(155, none)]
noncomputable def s_L_slipped_0_155 (M : fM) (l1 : Int) : Option (Int × fM) :=
  (s_X11_slipped M l1).bind fun y4 =>
    fel y4
      (fun w4 =>
        some (0, (fup M 155 0 w4)))
      (some (1, M))
theorem s_L_slipped_0_155_ok {d L : Nat} {M : fM} {l1 : Int} {r : (Int × fM)} {Q : fO → fH → Prop} (h : s_L_slipped_0_155 M l1 = some r) (H : Q (oI r.1) (156, fjl L, r.2)) : Wp (d + 8, 318, 0, 0, 0, [some (fA 0), some (fI l1), some (fA 155), none], []) (156, fjl L, M) Q := by
  unfold s_L_slipped_0_155 at h
  refine Wp.run 4 (f' := (d + 8, 318, 4, 0, 0, [_, _, _, _], [fI l1, fA 0, fI 0, fA 155])) (h' := (156, fjl L, M)) rfl trivial ?_
  obtain ⟨y4, hy, h⟩ := fbd h
  refine Wp.call rfl (by decide) (s_X11_slipped_ok (d := d + 0) hy ?_)
  obtain ⟨w4, ew, h⟩ | ⟨ew, h⟩ := fel_of h
  · rw [ew]
    show Wp (d + 8, 318, 7, 0, 0, [_, _, _, _], [fI w4, fI 0, fA 155]) (156, fjl L, M) Q
    refine Wp.run 4 (P := [(0 : Int) ≤ 0 ∧ (0 : Int) < 1]) (f' := (d + 8, 318, 16, 0, 0, [_, _, _, _], [fI 0])) (h' := (156, fjl L, (fup M 155 0 w4))) rfl ?_ ?_
    · exact (by decide : (0 : Int) ≤ 0 ∧ (0 : Int) < 1)
    obtain rfl := Option.some.inj h
    exact Wp.done rfl (by decide) H
  · rw [ew]
    refine ⟨⟨rfl, by decide, by decide⟩, ?_⟩
    show Wp (d + 8, 318, 12, 1, 6, [_, _, _, _], [fA 9999]) (156, fjl L, M) Q
    refine Wp.run 2 (f' := (d + 8, 318, 14, 1, 6, [_, _, _, _], [fI 1])) (h' := (156, fjl L, M)) rfl trivial ?_
    obtain rfl := Option.some.inj h
    exact Wp.done rfl (by decide) H
theorem s_L_slipped_0_155_fr {M : fM} {l1 : Int} {r : (Int × fM)} (h : s_L_slipped_0_155 M l1 = some r) : fSame s_L_slipped_0_155_mods M r.2 := by
  unfold s_L_slipped_0_155 at h
  obtain ⟨y4, hy, h⟩ := fbd h
  obtain ⟨w4, ew, h⟩ | ⟨ew, h⟩ := fel_of h
  · obtain rfl := Option.some.inj h
    exact fs_up fs_refl (.inl (by decide))
  · obtain rfl := Option.some.inj h
    exact fs_refl
abbrev s_X12_slipped_mods : List (Nat × Option Nat) := [(122, some 0)]
noncomputable def s_X12_slipped_j22 (M : fM) (l1 t1 : Int) : Option (Int × fM) :=
  (s_X12_throwsIf M t1).bind fun y22 =>
    if y22.1 = 0 then
      if ¬ l1 = 0 then
        some ((y22.2 122 32), y22.2)
      else
        some ((y22.2 122 31), y22.2)
    else
      some (0, y22.2)
theorem s_X12_slipped_j22_ok {d L : Nat} {M : fM} {l1 t1 : Int} {r : (Int × fM)} {Q : fO → fH → Prop} (h : s_X12_slipped_j22 M l1 t1 = some r) (H : Q (oI r.1) (156, fjl L, r.2)) : Wp (d + 1, 270, 22, 0, 0, [some (fA 122), some (fI l1)], [fI t1, fA 122]) (156, fjl L, M) Q := by
  unfold s_X12_slipped_j22 at h
  obtain ⟨y22, hy, h⟩ := fbd h
  refine Wp.call rfl (by decide) (s_X12_throwsIf_ok (d := d + 0) hy ?_)
  show Wp (d + 1, 270, 25, 0, 0, [some (fA 122), some (fI l1)], [fI y22.1]) (156, fjl L, y22.2) Q
  refine Wp.br rfl (fun (c : y22.1 = 0) => ?_) (fun (c : ¬ (y22.1 = 0)) => ?_)
  · replace h := fps c h
    refine Wp.run 1 (f' := (d + 1, 270, 33, 0, 0, [some (fA 122), _], [fI l1])) (h' := (156, fjl L, y22.2)) rfl trivial ?_
    refine Wp.br rfl (fun (c : ¬ l1 = 0) => ?_) (fun (c : ¬ (¬ l1 = 0)) => ?_)
    · replace h := fps c h
      refine Wp.run 2 (f' := (d + 1, 270, 47, 0, 0, [_, _], [fI (y22.2 122 32)])) (h' := (156, fjl L, y22.2)) rfl trivial ?_
      obtain rfl := Option.some.inj h
      exact Wp.done rfl (by decide) H
    · replace h := fng c h
      refine Wp.run 3 (f' := (d + 1, 270, 47, 0, 0, [_, _], [fI (y22.2 122 31)])) (h' := (156, fjl L, y22.2)) rfl trivial ?_
      obtain rfl := Option.some.inj h
      exact Wp.done rfl (by decide) H
  · replace h := fng c h
    refine Wp.run 2 (f' := (d + 1, 270, 47, 0, 0, [_, _], [fI 0])) (h' := (156, fjl L, y22.2)) rfl trivial ?_
    obtain rfl := Option.some.inj h
    exact Wp.done rfl (by decide) H
theorem s_X12_slipped_j22_fr {M : fM} {l1 t1 : Int} {r : (Int × fM)} (h : s_X12_slipped_j22 M l1 t1 = some r) : fSame s_X12_slipped_mods M r.2 := by
  unfold s_X12_slipped_j22 at h
  obtain ⟨y22, hy, h⟩ := fbd h
  have k22 := fs_trans (l := s_X12_slipped_mods) fs_refl (fs_mono (l := s_X12_throwsIf_mods) (by decide) (s_X12_throwsIf_fr hy))
  by_cases c : y22.1 = 0
  · replace h := fps c h
    by_cases c : ¬ l1 = 0
    · replace h := fps c h
      obtain rfl := Option.some.inj h
      exact k22
    · replace h := fng c h
      obtain rfl := Option.some.inj h
      exact k22
  · replace h := fng c h
    obtain rfl := Option.some.inj h
    exact k22
noncomputable def s_X12_slipped_j17 (M : fM) (l1 : Int) : Option (Int × fM) :=
  s_X12_slipped_j22 M l1 1
theorem s_X12_slipped_j17_ok {d L : Nat} {M : fM} {l1 : Int} {r : (Int × fM)} {Q : fO → fH → Prop} (h : s_X12_slipped_j17 M l1 = some r) (H : Q (oI r.1) (156, fjl L, r.2)) : Wp (d + 1, 270, 17, 0, 0, [some (fA 122), some (fI l1)], [fA 122]) (156, fjl L, M) Q := by
  unfold s_X12_slipped_j17 at h
  refine Wp.run 2 (f' := (d + 1, 270, 22, 0, 0, [some (fA 122), some (fI l1)], [fI 1, fA 122])) (h' := (156, fjl L, M)) rfl trivial ?_
  exact s_X12_slipped_j22_ok h H
theorem s_X12_slipped_j17_fr {M : fM} {l1 : Int} {r : (Int × fM)} (h : s_X12_slipped_j17 M l1 = some r) : fSame s_X12_slipped_mods M r.2 := by
  unfold s_X12_slipped_j17 at h
  exact fs_trans fs_refl (s_X12_slipped_j22_fr h)
noncomputable def s_X12_slipped (M : fM) (l1 : Int) : Option (Int × fM) :=
  if (M 122 32) = 0 then
    s_X12_slipped_j17 M l1
  else
    (s_X12_isIn M l1 0 1).bind fun y11 =>
      if ¬ y11 = 0 then
        s_X12_slipped_j22 M l1 0
      else
        s_X12_slipped_j17 M l1
theorem s_X12_slipped_ok {d L : Nat} {M : fM} {l1 : Int} {r : (Int × fM)} {Q : fO → fH → Prop} (h : s_X12_slipped M l1 = some r) (H : Q (oI r.1) (156, fjl L, r.2)) : Wp (d + 1, 270, 0, 0, 0, [some (fA 122), some (fI l1)], []) (156, fjl L, M) Q := by
  unfold s_X12_slipped at h
  refine Wp.run 3 (f' := (d + 1, 270, 5, 0, 0, [some (fA 122), some (fI l1)], [fI (M 122 32), fA 122])) (h' := (156, fjl L, M)) rfl trivial ?_
  refine Wp.br rfl (fun (c : (M 122 32) = 0) => ?_) (fun (c : ¬ ((M 122 32) = 0)) => ?_)
  · replace h := fps c h
    exact s_X12_slipped_j17_ok h H
  · replace h := fng c h
    refine Wp.run 3 (f' := (d + 1, 270, 11, 0, 0, [some (fA 122), some (fI l1)], [fI 1, fI 0, fI l1, fA 122])) (h' := (156, fjl L, M)) rfl trivial ?_
    obtain ⟨y11, hy, h⟩ := fbd h
    refine Wp.call rfl (by decide) (s_X12_isIn_ok (d := d + 0) hy ?_)
    show Wp (d + 1, 270, 14, 0, 0, [some (fA 122), some (fI l1)], [fI y11, fA 122]) (156, fjl L, M) Q
    refine Wp.br rfl (fun (c : ¬ y11 = 0) => ?_) (fun (c : ¬ (¬ y11 = 0)) => ?_)
    · replace h := fps c h
      refine Wp.run 1 (f' := (d + 1, 270, 22, 0, 0, [some (fA 122), some (fI l1)], [fI 0, fA 122])) (h' := (156, fjl L, M)) rfl trivial ?_
      exact s_X12_slipped_j22_ok h H
    · replace h := fng c h
      exact s_X12_slipped_j17_ok h H
theorem s_X12_slipped_fr {M : fM} {l1 : Int} {r : (Int × fM)} (h : s_X12_slipped M l1 = some r) : fSame s_X12_slipped_mods M r.2 := by
  unfold s_X12_slipped at h
  by_cases c : (M 122 32) = 0
  · replace h := fps c h
    exact fs_trans fs_refl (s_X12_slipped_j17_fr h)
  · replace h := fng c h
    obtain ⟨y11, hy, h⟩ := fbd h
    by_cases c : ¬ y11 = 0
    · replace h := fps c h
      exact fs_trans fs_refl (s_X12_slipped_j22_fr h)
    · replace h := fng c h
      exact fs_trans fs_refl (s_X12_slipped_j17_fr h)
abbrev s_X1_sumFallsOf_mods : List (Nat × Option Nat) := [(48, none), (49, none)]
noncomputable def s_X1_sumFallsOf_b6 (M : fM) (l1 l2 l3 : Int) : Option ((Int × fM) ⊕ fM) :=
  if (M 4 13) ≤ l3 then
    some (.inr M)
  else
    (s_X2_fact_4 M l3 7).bind fun y24 =>
      if ¬ y24 = l1 then
        if fin (l3 + 1) then
          some (.inl ((l3 + 1), M))
        else none
      else
        (s_X1_addPairs M l3 l2).bind fun y34 =>
          if fin (l3 + 1) then
            some (.inl ((l3 + 1), y34.2))
          else none
theorem s_X1_sumFallsOf_b6_ok {d L : Nat} {M : fM} {l1 l2 l3 : Int} {r : ((Int × fM) ⊕ fM)} {Q : fO → fH → Prop} (h : s_X1_sumFallsOf_b6 M l1 l2 l3 = some r) (hC : ∀ (l3' : Int) (M' : fM), r = .inl (l3', M') → Wp (d + 3, 17, 6, 0, 0, [some (fA 47), some (fI l1), some (fI l2), some (fI l3')], []) (156, fjl L, M') Q) (hE : ∀ (e : fM) (o0' o1' o2' o3' : Option fV), r = .inr e → Wp (d + 3, 17, 43, 0, 0, [o0', o1', o2', o3'], []) (156, fjl L, e) Q) : Wp (d + 3, 17, 6, 0, 0, [some (fA 47), some (fI l1), some (fI l2), some (fI l3)], []) (156, fjl L, M) Q := by
  unfold s_X1_sumFallsOf_b6 at h
  refine Wp.run 4 (f' := (d + 3, 17, 14, 0, 0, [some (fA 47), some (fI l1), some (fI l2), some (fI l3)], [fI (M 4 13), fI l3])) (h' := (156, fjl L, M)) rfl trivial ?_
  refine Wp.br rfl (fun (c : (M 4 13) ≤ l3) => ?_) (fun (c : ¬ ((M 4 13) ≤ l3)) => ?_)
  · replace h := fps c h
    exact hE _ _ _ _ _ (Option.some.inj h).symm
  · replace h := fng c h
    refine Wp.run 4 (f' := (d + 3, 17, 24, 0, 0, [some (fA 47), some (fI l1), some (fI l2), some (fI l3)], [fI 7, fI l3, fA 4])) (h' := (156, fjl L, M)) rfl trivial ?_
    obtain ⟨y24, hy, h⟩ := fbd h
    refine Wp.call rfl (by decide) (s_X2_fact_4_ok (d := d + 2) hy ?_)
    show Wp (d + 3, 17, 27, 0, 0, [some (fA 47), some (fI l1), some (fI l2), some (fI l3)], [fI y24]) (156, fjl L, M) Q
    refine Wp.run 1 (f' := (d + 3, 17, 28, 0, 0, [some (fA 47), some (fI l1), some (fI l2), some (fI l3)], [fI l1, fI y24])) (h' := (156, fjl L, M)) rfl trivial ?_
    refine Wp.br rfl (fun (c : ¬ y24 = l1) => ?_) (fun (c : ¬ (¬ y24 = l1)) => ?_)
    · replace h := fps c h
      obtain ⟨g0, h⟩ := fgd h
      refine Wp.run 2 (f' := (d + 3, 17, 6, 0, 0, [some (fA 47), some (fI l1), some (fI l2), some (fI (fw (l3 + 1)))], [])) (h' := (156, fjl L, M)) rfl trivial ?_
      rw [fw_id g0]
      exact hC _ _ (Option.some.inj h).symm
    · replace h := fng c h
      refine Wp.run 3 (f' := (d + 3, 17, 34, 0, 0, [some (fA 47), some (fI l1), some (fI l2), some (fI l3)], [fI l2, fI l3, fA 47])) (h' := (156, fjl L, M)) rfl trivial ?_
      obtain ⟨y34, hy, h⟩ := fbd h
      refine Wp.call rfl (by decide) (s_X1_addPairs_ok (d := d + 0) hy ?_)
      show Wp (d + 3, 17, 37, 0, 0, [some (fA 47), some (fI l1), some (fI l2), some (fI l3)], []) (156, fjl L, y34.2) Q
      obtain ⟨g0, h⟩ := fgd h
      refine Wp.run 2 (f' := (d + 3, 17, 6, 0, 0, [some (fA 47), some (fI l1), some (fI l2), some (fI (fw (l3 + 1)))], [])) (h' := (156, fjl L, y34.2)) rfl trivial ?_
      rw [fw_id g0]
      exact hC _ _ (Option.some.inj h).symm
theorem s_X1_sumFallsOf_b6_fr {M : fM} {l1 l2 l3 : Int} {r : ((Int × fM) ⊕ fM)} (h : s_X1_sumFallsOf_b6 M l1 l2 l3 = some r) : fSame s_X1_sumFallsOf_mods M (Sum.elim (fun s => s.2) (fun e => e) r) := by
  unfold s_X1_sumFallsOf_b6 at h
  by_cases c : (M 4 13) ≤ l3
  · replace h := fps c h
    obtain rfl := Option.some.inj h
    exact fs_refl
  · replace h := fng c h
    obtain ⟨y24, hy, h⟩ := fbd h
    by_cases c : ¬ y24 = l1
    · replace h := fps c h
      replace h := (fgd h).2
      obtain rfl := Option.some.inj h
      exact fs_refl
    · replace h := fng c h
      obtain ⟨y34, hy, h⟩ := fbd h
      have k34 := fs_trans (l := s_X1_sumFallsOf_mods) fs_refl (fs_mono (l := s_X1_addPairs_mods) (by decide) (s_X1_addPairs_fr hy))
      replace h := (fgd h).2
      obtain rfl := Option.some.inj h
      exact k34
noncomputable def s_X1_sumFallsOf_l6 (l1 l2 : Int) (s : (Int × fM)) : Option fM := fLp (fun s => s_X1_sumFallsOf_b6 s.2 l1 l2 s.1) s
theorem s_X1_sumFallsOf_l6_ok {d L : Nat} {M : fM} {l1 l2 l3 : Int} {r : fM} {Q : fO → fH → Prop} (h : s_X1_sumFallsOf_l6 l1 l2 (l3, M) = some r) (hE : ∀ (e : fM) (o0' o1' o2' o3' : Option fV), r = e → Wp (d + 3, 17, 43, 0, 0, [o0', o1', o2', o3'], []) (156, fjl L, e) Q) : Wp (d + 3, 17, 6, 0, 0, [some (fA 47), some (fI l1), some (fI l2), some (fI l3)], []) (156, fjl L, M) Q := by
  refine fLp_wp (W := fun s => Wp (d + 3, 17, 6, 0, 0, [some (fA 47), some (fI l1), some (fI l2), some (fI s.1)], []) (156, fjl L, s.2) Q) (e := r) ?_ h
  intro s r1 h hC hX
  refine s_X1_sumFallsOf_b6_ok (d := d) h (fun a0 a1 e1 => ?_) (fun e u0 u1 u2 u3 e1 => hE e u0 u1 u2 u3 (hX _ e1).symm)
  exact hC _ e1
theorem s_X1_sumFallsOf_l6_fr {M : fM} {l1 l2 l3 : Int} {r : fM} (h : s_X1_sumFallsOf_l6 l1 l2 (l3, M) = some r) : fSame s_X1_sumFallsOf_mods M ((fun e => e) r) := by
  refine fLp_inv (I := fun s => fSame s_X1_sumFallsOf_mods M s.2) (J := fun r => fSame s_X1_sumFallsOf_mods M ((fun e => e) r)) h fs_refl (fun s s1 hs hb => ?_) (fun s e hs hb => ?_)
  · exact fs_trans hs (s_X1_sumFallsOf_b6_fr hb)
  · exact fs_trans hs (s_X1_sumFallsOf_b6_fr hb)
noncomputable def s_X1_sumFallsOf (M : fM) (l1 l2 : Int) : Option (Unit × fM) :=
  (s_X1_clearFalls M).bind fun y1 =>
    (s_X1_sumFallsOf_l6 l1 l2 (0, y1.2)).bind fun e6 =>
      some ((), e6)
theorem s_X1_sumFallsOf_ok {d L : Nat} {M : fM} {l1 l2 : Int} {r : (Unit × fM)} {Q : fO → fH → Prop} (h : s_X1_sumFallsOf M l1 l2 = some r) (H : Q (oV r.1) (156, fjl L, r.2)) : Wp (d + 3, 17, 0, 0, 0, [some (fA 47), some (fI l1), some (fI l2), none], []) (156, fjl L, M) Q := by
  unfold s_X1_sumFallsOf at h
  refine Wp.run 1 (f' := (d + 3, 17, 1, 0, 0, [some (fA 47), some (fI l1), some (fI l2), _], [fA 47])) (h' := (156, fjl L, M)) rfl trivial ?_
  obtain ⟨y1, hy, h⟩ := fbd h
  refine Wp.call rfl (by decide) (s_X1_clearFalls_ok (d := d + 1) hy ?_)
  show Wp (d + 3, 17, 4, 0, 0, [some (fA 47), some (fI l1), some (fI l2), _], []) (156, fjl L, y1.2) Q
  refine Wp.run 2 (f' := (d + 3, 17, 6, 0, 0, [some (fA 47), some (fI l1), some (fI l2), some (fI 0)], [])) (h' := (156, fjl L, y1.2)) rfl trivial ?_
  obtain ⟨e6, hy, h⟩ := fbd h
  refine s_X1_sumFallsOf_l6_ok hy (fun x u0 u1 u2 u3 ex => ?_)
  cases ex
  show Wp (d + 3, 17, 43, 0, 0, [u0, u1, u2, u3], []) (156, fjl L, e6) Q
  obtain rfl := Option.some.inj h
  exact Wp.done rfl (by decide) H
theorem s_X1_sumFallsOf_fr {M : fM} {l1 l2 : Int} {r : (Unit × fM)} (h : s_X1_sumFallsOf M l1 l2 = some r) : fSame s_X1_sumFallsOf_mods M r.2 := by
  unfold s_X1_sumFallsOf at h
  obtain ⟨y1, hy, h⟩ := fbd h
  have k1 := fs_trans (l := s_X1_sumFallsOf_mods) fs_refl (fs_mono (l := s_X1_clearFalls_mods) (by decide) (s_X1_clearFalls_fr hy))
  obtain ⟨e6, hy, h⟩ := fbd h
  have k6 := fs_trans (l := s_X1_sumFallsOf_mods) k1 (s_X1_sumFallsOf_l6_fr hy)
  obtain rfl := Option.some.inj h
  exact k6
noncomputable def s_X1_sumOf_48_b4 (M : fM) (l1 l3 : Int) : Option ((Int × Int) ⊕ Int) :=
  if 12 ≤ l3 then
    some (.inr l1)
  else
    if (0 ≤ l3 ∧ l3 < 12) ∧ finl (l1 + (M 48 (l3).toNat)) ∧ fin (l3 + 1) then
      some (.inl ((l1 + (M 48 (l3).toNat)), (l3 + 1)))
    else none
theorem s_X1_sumOf_48_b4_ok {d L : Nat} {M : fM} {l1 l3 : Int} {r : ((Int × Int) ⊕ Int)} {Q : fO → fH → Prop} (h : s_X1_sumOf_48_b4 M l1 l3 = some r) (hC : ∀ (l1' l3' : Int), r = .inl (l1', l3') → Wp (d + 0, 18, 4, 0, 0, [some (fA 48), some (fJ l1'), none, some (fI l3')], []) (156, fjl L, M) Q) (hE : ∀ (e : Int) (o0' o3' : Option fV), r = .inr e → Wp (d + 0, 18, 23, 0, 0, [o0', some (fJ e), none, o3'], []) (156, fjl L, M) Q) : Wp (d + 0, 18, 4, 0, 0, [some (fA 48), some (fJ l1), none, some (fI l3)], []) (156, fjl L, M) Q := by
  unfold s_X1_sumOf_48_b4 at h
  refine Wp.run 3 (f' := (d + 0, 18, 7, 0, 0, [some (fA 48), some (fJ l1), none, some (fI l3)], [fI 12, fI l3])) (h' := (156, fjl L, M)) rfl trivial ?_
  refine Wp.br rfl (fun (c : 12 ≤ l3) => ?_) (fun (c : ¬ (12 ≤ l3)) => ?_)
  · replace h := fps c h
    exact hE _ _ _ (Option.some.inj h).symm
  · replace h := fng c h
    obtain ⟨⟨g0, g1, g2⟩, h⟩ := fgd h
    refine Wp.run 9 (P := [0 ≤ l3 ∧ l3 < 12]) (f' := (d + 0, 18, 4, 0, 0, [some (fA 48), some (fJ (fwl (l1 + (M 48 (l3).toNat)))), none, some (fI (fw (l3 + 1)))], [])) (h' := (156, fjl L, M)) rfl ?_ ?_
    · exact g0
    rw [fwl_id g1, fw_id g2]
    exact hC _ _ (Option.some.inj h).symm
noncomputable def s_X1_sumOf_48_l4 (M : fM) (s : (Int × Int)) : Option Int := fLp (fun s => s_X1_sumOf_48_b4 M s.1 s.2) s
theorem s_X1_sumOf_48_l4_ok {d L : Nat} {M : fM} {l1 l3 : Int} {r : Int} {Q : fO → fH → Prop} (h : s_X1_sumOf_48_l4 M (l1, l3) = some r) (hE : ∀ (e : Int) (o0' o3' : Option fV), r = e → Wp (d + 0, 18, 23, 0, 0, [o0', some (fJ e), none, o3'], []) (156, fjl L, M) Q) : Wp (d + 0, 18, 4, 0, 0, [some (fA 48), some (fJ l1), none, some (fI l3)], []) (156, fjl L, M) Q := by
  refine fLp_wp (W := fun s => Wp (d + 0, 18, 4, 0, 0, [some (fA 48), some (fJ s.1), none, some (fI s.2)], []) (156, fjl L, M) Q) (e := r) ?_ h
  intro s r1 h hC hX
  refine s_X1_sumOf_48_b4_ok (d := d) h (fun a0 a1 e1 => ?_) (fun e u0 u1 e1 => hE e u0 u1 (hX _ e1).symm)
  exact hC _ e1
noncomputable def s_X1_sumOf_48 (M : fM) : Option Int :=
  (s_X1_sumOf_48_l4 M (0, 0)).bind fun e4 =>
    some e4
theorem s_X1_sumOf_48_ok {d L : Nat} {M : fM} {r : Int} {Q : fO → fH → Prop} (h : s_X1_sumOf_48 M = some r) (H : Q (oJ r) (156, fjl L, M)) : Wp (d + 0, 18, 0, 0, 0, [some (fA 48), none, none, none], []) (156, fjl L, M) Q := by
  unfold s_X1_sumOf_48 at h
  refine Wp.run 4 (f' := (d + 0, 18, 4, 0, 0, [some (fA 48), some (fJ 0), none, some (fI 0)], [])) (h' := (156, fjl L, M)) rfl trivial ?_
  obtain ⟨e4, hy, h⟩ := fbd h
  refine s_X1_sumOf_48_l4_ok hy (fun x u0 u3 ex => ?_)
  cases ex
  show Wp (d + 0, 18, 23, 0, 0, [u0, some (fJ e4), none, u3], []) (156, fjl L, M) Q
  refine Wp.run 1 (f' := (d + 0, 18, 24, 0, 0, [_, _, _, _], [fJ e4])) (h' := (156, fjl L, M)) rfl trivial ?_
  obtain rfl := Option.some.inj h
  exact Wp.done rfl (by decide) H
noncomputable def s_X1_sumOf_49_b4 (M : fM) (l1 l3 : Int) : Option ((Int × Int) ⊕ Int) :=
  if 12 ≤ l3 then
    some (.inr l1)
  else
    if (0 ≤ l3 ∧ l3 < 12) ∧ finl (l1 + (M 49 (l3).toNat)) ∧ fin (l3 + 1) then
      some (.inl ((l1 + (M 49 (l3).toNat)), (l3 + 1)))
    else none
theorem s_X1_sumOf_49_b4_ok {d L : Nat} {M : fM} {l1 l3 : Int} {r : ((Int × Int) ⊕ Int)} {Q : fO → fH → Prop} (h : s_X1_sumOf_49_b4 M l1 l3 = some r) (hC : ∀ (l1' l3' : Int), r = .inl (l1', l3') → Wp (d + 0, 18, 4, 0, 0, [some (fA 49), some (fJ l1'), none, some (fI l3')], []) (156, fjl L, M) Q) (hE : ∀ (e : Int) (o0' o3' : Option fV), r = .inr e → Wp (d + 0, 18, 23, 0, 0, [o0', some (fJ e), none, o3'], []) (156, fjl L, M) Q) : Wp (d + 0, 18, 4, 0, 0, [some (fA 49), some (fJ l1), none, some (fI l3)], []) (156, fjl L, M) Q := by
  unfold s_X1_sumOf_49_b4 at h
  refine Wp.run 3 (f' := (d + 0, 18, 7, 0, 0, [some (fA 49), some (fJ l1), none, some (fI l3)], [fI 12, fI l3])) (h' := (156, fjl L, M)) rfl trivial ?_
  refine Wp.br rfl (fun (c : 12 ≤ l3) => ?_) (fun (c : ¬ (12 ≤ l3)) => ?_)
  · replace h := fps c h
    exact hE _ _ _ (Option.some.inj h).symm
  · replace h := fng c h
    obtain ⟨⟨g0, g1, g2⟩, h⟩ := fgd h
    refine Wp.run 9 (P := [0 ≤ l3 ∧ l3 < 12]) (f' := (d + 0, 18, 4, 0, 0, [some (fA 49), some (fJ (fwl (l1 + (M 49 (l3).toNat)))), none, some (fI (fw (l3 + 1)))], [])) (h' := (156, fjl L, M)) rfl ?_ ?_
    · exact g0
    rw [fwl_id g1, fw_id g2]
    exact hC _ _ (Option.some.inj h).symm
noncomputable def s_X1_sumOf_49_l4 (M : fM) (s : (Int × Int)) : Option Int := fLp (fun s => s_X1_sumOf_49_b4 M s.1 s.2) s
theorem s_X1_sumOf_49_l4_ok {d L : Nat} {M : fM} {l1 l3 : Int} {r : Int} {Q : fO → fH → Prop} (h : s_X1_sumOf_49_l4 M (l1, l3) = some r) (hE : ∀ (e : Int) (o0' o3' : Option fV), r = e → Wp (d + 0, 18, 23, 0, 0, [o0', some (fJ e), none, o3'], []) (156, fjl L, M) Q) : Wp (d + 0, 18, 4, 0, 0, [some (fA 49), some (fJ l1), none, some (fI l3)], []) (156, fjl L, M) Q := by
  refine fLp_wp (W := fun s => Wp (d + 0, 18, 4, 0, 0, [some (fA 49), some (fJ s.1), none, some (fI s.2)], []) (156, fjl L, M) Q) (e := r) ?_ h
  intro s r1 h hC hX
  refine s_X1_sumOf_49_b4_ok (d := d) h (fun a0 a1 e1 => ?_) (fun e u0 u1 e1 => hE e u0 u1 (hX _ e1).symm)
  exact hC _ e1
noncomputable def s_X1_sumOf_49 (M : fM) : Option Int :=
  (s_X1_sumOf_49_l4 M (0, 0)).bind fun e4 =>
    some e4
theorem s_X1_sumOf_49_ok {d L : Nat} {M : fM} {r : Int} {Q : fO → fH → Prop} (h : s_X1_sumOf_49 M = some r) (H : Q (oJ r) (156, fjl L, M)) : Wp (d + 0, 18, 0, 0, 0, [some (fA 49), none, none, none], []) (156, fjl L, M) Q := by
  unfold s_X1_sumOf_49 at h
  refine Wp.run 4 (f' := (d + 0, 18, 4, 0, 0, [some (fA 49), some (fJ 0), none, some (fI 0)], [])) (h' := (156, fjl L, M)) rfl trivial ?_
  obtain ⟨e4, hy, h⟩ := fbd h
  refine s_X1_sumOf_49_l4_ok hy (fun x u0 u3 ex => ?_)
  cases ex
  show Wp (d + 0, 18, 23, 0, 0, [u0, some (fJ e4), none, u3], []) (156, fjl L, M) Q
  refine Wp.run 1 (f' := (d + 0, 18, 24, 0, 0, [_, _, _, _], [fJ e4])) (h' := (156, fjl L, M)) rfl trivial ?_
  obtain rfl := Option.some.inj h
  exact Wp.done rfl (by decide) H
abbrev s_X1_weighStoves_mods : List (Nat × Option Nat) := [(47, some 9), (47, some 10), (48, none), (49, none)]
noncomputable def s_X1_weighStoves (M : fM) (l1 : Int) : Option (Int × fM) :=
  (s_X1_sumFallsOf M 1 l1).bind fun y3 =>
    (s_X1_sumOf_48 y3.2).bind fun y10 =>
      (s_X1_sumOf_49 y3.2).bind fun y18 =>
        (s_X1_sumFallsOf y3.2 0 l1).bind fun y26 =>
          (s_X1_sumOf_48 y26.2).bind fun y33 =>
            (s_X1_sumOf_49 y26.2).bind fun y42 =>
              if y18 = 0 then
                some (0, y26.2)
              else
                if ¬ y42 = 0 then
                  if finl (y10 * y42) ∧ finl (y33 * y18) ∧ finl ((y10 * y42) - (y33 * y18)) ∧ finl (y18 * y42) then
                    (s_X1_keepLeast y26.2 ((y10 * y42) - (y33 * y18)) (y18 * y42)).bind fun y79 =>
                      some (1, y79.2)
                  else none
                else
                  some (0, y26.2)
theorem s_X1_weighStoves_ok {d L : Nat} {M : fM} {l1 : Int} {r : (Int × fM)} {Q : fO → fH → Prop} (h : s_X1_weighStoves M l1 = some r) (H : Q (oI r.1) (156, fjl L, r.2)) : Wp (d + 4, 16, 0, 0, 0, [some (fA 47), some (fI l1), none, none, none, none, none, none, none, none], []) (156, fjl L, M) Q := by
  unfold s_X1_weighStoves at h
  refine Wp.run 3 (f' := (d + 4, 16, 3, 0, 0, [some (fA 47), some (fI l1), _, _, _, _, _, _, _, _], [fI l1, fI 1, fA 47])) (h' := (156, fjl L, M)) rfl trivial ?_
  obtain ⟨y3, hy, h⟩ := fbd h
  refine Wp.call rfl (by decide) (s_X1_sumFallsOf_ok (d := d + 0) hy ?_)
  show Wp (d + 4, 16, 6, 0, 0, [some (fA 47), some (fI l1), _, _, _, _, _, _, _, _], []) (156, fjl L, y3.2) Q
  refine Wp.run 2 (f' := (d + 4, 16, 10, 0, 0, [some (fA 47), some (fI l1), _, _, _, _, _, _, _, _], [fA 48])) (h' := (156, fjl L, y3.2)) rfl trivial ?_
  obtain ⟨y10, hy, h⟩ := fbd h
  refine Wp.call rfl (by decide) (s_X1_sumOf_48_ok (d := d + 3) hy ?_)
  show Wp (d + 4, 16, 13, 0, 0, [some (fA 47), some (fI l1), _, _, _, _, _, _, _, _], [fJ y10]) (156, fjl L, y3.2) Q
  refine Wp.run 3 (f' := (d + 4, 16, 18, 0, 0, [some (fA 47), some (fI l1), some (fJ y10), none, _, _, _, _, _, _], [fA 49])) (h' := (156, fjl L, y3.2)) rfl trivial ?_
  obtain ⟨y18, hy, h⟩ := fbd h
  refine Wp.call rfl (by decide) (s_X1_sumOf_49_ok (d := d + 3) hy ?_)
  show Wp (d + 4, 16, 21, 0, 0, [some (fA 47), some (fI l1), some (fJ y10), none, _, _, _, _, _, _], [fJ y18]) (156, fjl L, y3.2) Q
  refine Wp.run 4 (f' := (d + 4, 16, 26, 0, 0, [some (fA 47), _, some (fJ y10), none, some (fJ y18), none, _, _, _, _], [fI l1, fI 0, fA 47])) (h' := (156, fjl L, y3.2)) rfl trivial ?_
  obtain ⟨y26, hy, h⟩ := fbd h
  refine Wp.call rfl (by decide) (s_X1_sumFallsOf_ok (d := d + 0) hy ?_)
  show Wp (d + 4, 16, 29, 0, 0, [some (fA 47), _, some (fJ y10), none, some (fJ y18), none, _, _, _, _], []) (156, fjl L, y26.2) Q
  refine Wp.run 2 (f' := (d + 4, 16, 33, 0, 0, [some (fA 47), _, some (fJ y10), none, some (fJ y18), none, _, _, _, _], [fA 48])) (h' := (156, fjl L, y26.2)) rfl trivial ?_
  obtain ⟨y33, hy, h⟩ := fbd h
  refine Wp.call rfl (by decide) (s_X1_sumOf_48_ok (d := d + 3) hy ?_)
  show Wp (d + 4, 16, 36, 0, 0, [some (fA 47), _, some (fJ y10), none, some (fJ y18), none, _, _, _, _], [fJ y33]) (156, fjl L, y26.2) Q
  refine Wp.run 3 (f' := (d + 4, 16, 42, 0, 0, [some (fA 47), _, some (fJ y10), none, some (fJ y18), none, some (fJ y33), none, _, _], [fA 49])) (h' := (156, fjl L, y26.2)) rfl trivial ?_
  obtain ⟨y42, hy, h⟩ := fbd h
  refine Wp.call rfl (by decide) (s_X1_sumOf_49_ok (d := d + 3) hy ?_)
  show Wp (d + 4, 16, 45, 0, 0, [some (fA 47), _, some (fJ y10), none, some (fJ y18), none, some (fJ y33), none, _, _], [fJ y42]) (156, fjl L, y26.2) Q
  refine Wp.run 4 (f' := (d + 4, 16, 51, 0, 0, [some (fA 47), _, some (fJ y10), none, some (fJ y18), none, some (fJ y33), none, some (fJ y42), none], [fI (fcm y18 0)])) (h' := (156, fjl L, y26.2)) rfl trivial ?_
  refine Wp.br rfl (fun (c : (fcm y18 0) = 0) => ?_) (fun (c : ¬ ((fcm y18 0) = 0)) => ?_)
  · replace c := (fcm_eq _ _).mp c
    replace h := fps c h
    refine Wp.run 1 (f' := (d + 4, 16, 62, 0, 0, [_, _, _, _, _, _, _, _, _, _], [fI 0])) (h' := (156, fjl L, y26.2)) rfl trivial ?_
    obtain rfl := Option.some.inj h
    exact Wp.done rfl (by decide) H
  · replace c := fun z => c ((fcm_eq _ _).mpr z)
    replace h := fng c h
    refine Wp.run 3 (f' := (d + 4, 16, 58, 0, 0, [some (fA 47), _, some (fJ y10), none, some (fJ y18), none, some (fJ y33), none, some (fJ y42), none], [fI (fcm y42 0)])) (h' := (156, fjl L, y26.2)) rfl trivial ?_
    refine Wp.br rfl (fun (c : ¬ (fcm y42 0) = 0) => ?_) (fun (c : ¬ (¬ (fcm y42 0) = 0)) => ?_)
    · replace c := (fcm_ne _ _).mp c
      replace h := fps c h
      obtain ⟨⟨g0, g1, g2, g3⟩, h⟩ := fgd h
      refine Wp.run 11 (f' := (d + 4, 16, 79, 0, 0, [_, _, _, _, _, _, _, _, _, _], [fJ (fwl (y18 * y42)), fJ (fwl ((fwl (y10 * y42)) - (fwl (y33 * y18)))), fA 47])) (h' := (156, fjl L, y26.2)) rfl trivial ?_
      rw [fwl_id g0, fwl_id g1, fwl_id g2, fwl_id g3]
      obtain ⟨y79, hy, h⟩ := fbd h
      refine Wp.call rfl (by decide) (s_X1_keepLeast_ok (d := d + 2) hy ?_)
      show Wp (d + 4, 16, 82, 0, 0, [_, _, _, _, _, _, _, _, _, _], []) (156, fjl L, y79.2) Q
      refine Wp.run 1 (f' := (d + 4, 16, 83, 0, 0, [_, _, _, _, _, _, _, _, _, _], [fI 1])) (h' := (156, fjl L, y79.2)) rfl trivial ?_
      obtain rfl := Option.some.inj h
      exact Wp.done rfl (by decide) H
    · replace c := fun z => c ((fcm_ne _ _).mpr z)
      replace h := fng c h
      refine Wp.run 1 (f' := (d + 4, 16, 62, 0, 0, [_, _, _, _, _, _, _, _, _, _], [fI 0])) (h' := (156, fjl L, y26.2)) rfl trivial ?_
      obtain rfl := Option.some.inj h
      exact Wp.done rfl (by decide) H
theorem s_X1_weighStoves_fr {M : fM} {l1 : Int} {r : (Int × fM)} (h : s_X1_weighStoves M l1 = some r) : fSame s_X1_weighStoves_mods M r.2 := by
  unfold s_X1_weighStoves at h
  obtain ⟨y3, hy, h⟩ := fbd h
  have k3 := fs_trans (l := s_X1_weighStoves_mods) fs_refl (fs_mono (l := s_X1_sumFallsOf_mods) (by decide) (s_X1_sumFallsOf_fr hy))
  obtain ⟨y10, hy, h⟩ := fbd h
  obtain ⟨y18, hy, h⟩ := fbd h
  obtain ⟨y26, hy, h⟩ := fbd h
  have k26 := fs_trans (l := s_X1_weighStoves_mods) k3 (fs_mono (l := s_X1_sumFallsOf_mods) (by decide) (s_X1_sumFallsOf_fr hy))
  obtain ⟨y33, hy, h⟩ := fbd h
  obtain ⟨y42, hy, h⟩ := fbd h
  by_cases c : y18 = 0
  · replace h := fps c h
    obtain rfl := Option.some.inj h
    exact k26
  · replace h := fng c h
    by_cases c : ¬ y42 = 0
    · replace h := fps c h
      replace h := (fgd h).2
      obtain ⟨y79, hy, h⟩ := fbd h
      have k79 := fs_trans (l := s_X1_weighStoves_mods) k26 (fs_mono (l := s_X1_keepLeast_mods) (by decide) (s_X1_keepLeast_fr hy))
      obtain rfl := Option.some.inj h
      exact k79
    · replace h := fng c h
      obtain rfl := Option.some.inj h
      exact k26
abbrev s_X11_stove_mods : List (Nat × Option Nat) := [(47, some 9), (47, some 10), (48, none), (49, none)]
noncomputable def s_X11_stove (M : fM) (l1 l2 : Int) : Option ((Int ⊕ Unit) × fM) :=
  (s_X11_isKnowing M l1).bind fun y1 =>
    if y1 = 0 then
      some (.inr (), M)
    else
      (s_X11_isWithin M l2 2).bind fun y9 =>
        if y9 = 0 then
          some (.inr (), M)
        else
          (s_X1_weighStoves M l1).bind fun y20 =>
            if ¬ y20.1 = 0 then
              if ¬ l2 = 0 then
                some (.inl (y20.2 47 10), y20.2)
              else
                some (.inl (y20.2 47 9), y20.2)
            else
              some (.inr (), y20.2)
theorem s_X11_stove_ok {d L : Nat} {M : fM} {l1 l2 : Int} {r : ((Int ⊕ Unit) × fM)} {Q : fO → fH → Prop} (h : s_X11_stove M l1 l2 = some r) (H : Q (oT oJ 0 r.1) (156, fjl L, r.2)) : Wp (d + 7, 165, 0, 0, 0, [some (fA 0), some (fI l1), some (fI l2)], []) (156, fjl L, M) Q := by
  unfold s_X11_stove at h
  refine Wp.run 1 (f' := (d + 7, 165, 1, 0, 0, [some (fA 0), some (fI l1), some (fI l2)], [fI l1])) (h' := (156, fjl L, M)) rfl trivial ?_
  obtain ⟨y1, hy, h⟩ := fbd h
  refine Wp.call rfl (by decide) (s_X11_isKnowing_ok (d := d + 5) hy ?_)
  show Wp (d + 7, 165, 4, 0, 0, [some (fA 0), some (fI l1), some (fI l2)], [fI y1]) (156, fjl L, M) Q
  refine Wp.br rfl (fun (c : y1 = 0) => ?_) (fun (c : ¬ (y1 = 0)) => ?_)
  · replace h := fps c h
    obtain rfl := Option.some.inj h
    exact Wp.done rfl ⟨Nat.le_add_left_of_le (by decide), rfl, rfl⟩ H
  · replace h := fng c h
    refine Wp.run 2 (f' := (d + 7, 165, 9, 0, 0, [some (fA 0), some (fI l1), some (fI l2)], [fI 2, fI l2])) (h' := (156, fjl L, M)) rfl trivial ?_
    obtain ⟨y9, hy, h⟩ := fbd h
    refine Wp.call rfl (by decide) (s_X11_isWithin_ok (d := d + 6) hy ?_)
    show Wp (d + 7, 165, 12, 0, 0, [some (fA 0), some (fI l1), some (fI l2)], [fI y9]) (156, fjl L, M) Q
    refine Wp.br rfl (fun (c : y9 = 0) => ?_) (fun (c : ¬ (y9 = 0)) => ?_)
    · replace h := fps c h
      obtain rfl := Option.some.inj h
      exact Wp.done rfl ⟨Nat.le_add_left_of_le (by decide), rfl, rfl⟩ H
    · replace h := fng c h
      refine Wp.run 3 (f' := (d + 7, 165, 20, 0, 0, [some (fA 0), _, some (fI l2)], [fI l1, fA 47])) (h' := (156, fjl L, M)) rfl trivial ?_
      obtain ⟨y20, hy, h⟩ := fbd h
      refine Wp.call rfl (by decide) (s_X1_weighStoves_ok (d := d + 2) hy ?_)
      show Wp (d + 7, 165, 23, 0, 0, [some (fA 0), _, some (fI l2)], [fI y20.1]) (156, fjl L, y20.2) Q
      refine Wp.br rfl (fun (c : ¬ y20.1 = 0) => ?_) (fun (c : ¬ (¬ y20.1 = 0)) => ?_)
      · replace h := fps c h
        refine Wp.run 1 (f' := (d + 7, 165, 35, 0, 0, [some (fA 0), _, _], [fI l2])) (h' := (156, fjl L, y20.2)) rfl trivial ?_
        refine Wp.br rfl (fun (c : ¬ l2 = 0) => ?_) (fun (c : ¬ (¬ l2 = 0)) => ?_)
        · replace h := fps c h
          refine Wp.run 3 (f' := (d + 7, 165, 55, 0, 0, [_, _, _], [fJ (y20.2 47 10)])) (h' := (156, fjl L, y20.2)) rfl trivial ?_
          obtain rfl := Option.some.inj h
          exact Wp.done rfl (by decide) H
        · replace h := fng c h
          refine Wp.run 4 (f' := (d + 7, 165, 55, 0, 0, [_, _, _], [fJ (y20.2 47 9)])) (h' := (156, fjl L, y20.2)) rfl trivial ?_
          obtain rfl := Option.some.inj h
          exact Wp.done rfl (by decide) H
      · replace h := fng c h
        obtain rfl := Option.some.inj h
        exact Wp.done rfl ⟨Nat.le_add_left_of_le (by decide), rfl, rfl⟩ H
theorem s_X11_stove_fr {M : fM} {l1 l2 : Int} {r : ((Int ⊕ Unit) × fM)} (h : s_X11_stove M l1 l2 = some r) : fSame s_X11_stove_mods M r.2 := by
  unfold s_X11_stove at h
  obtain ⟨y1, hy, h⟩ := fbd h
  by_cases c : y1 = 0
  · replace h := fps c h
    obtain rfl := Option.some.inj h
    exact fs_refl
  · replace h := fng c h
    obtain ⟨y9, hy, h⟩ := fbd h
    by_cases c : y9 = 0
    · replace h := fps c h
      obtain rfl := Option.some.inj h
      exact fs_refl
    · replace h := fng c h
      obtain ⟨y20, hy, h⟩ := fbd h
      have k20 := fs_trans (l := s_X11_stove_mods) fs_refl (fs_mono (l := s_X1_weighStoves_mods) (by decide) (s_X1_weighStoves_fr hy))
      by_cases c : ¬ y20.1 = 0
      · replace h := fps c h
        by_cases c : ¬ l2 = 0
        · replace h := fps c h
          obtain rfl := Option.some.inj h
          exact k20
        · replace h := fng c h
          obtain rfl := Option.some.inj h
          exact k20
      · replace h := fng c h
        obtain rfl := Option.some.inj h
        exact k20
abbrev s_L_stove_0_155_mods : List (Nat × Option Nat) := [(47, some 9), (47, some 10), (48, none), (49, none), (155, none)]
noncomputable def s_L_stove_0_155 (M : fM) (l1 l2 : Int) : Option (Int × fM) :=
  (s_X11_stove M l1 l2).bind fun y5 =>
    fel y5.1
      (fun w5 =>
        some (0, (fup y5.2 155 0 w5)))
      (some (1, y5.2))
theorem s_L_stove_0_155_ok {d L : Nat} {M : fM} {l1 l2 : Int} {r : (Int × fM)} {Q : fO → fH → Prop} (h : s_L_stove_0_155 M l1 l2 = some r) (H : Q (oI r.1) (156, fjl L, r.2)) : Wp (d + 8, 319, 0, 0, 0, [some (fA 0), some (fI l1), some (fI l2), some (fA 155), none], []) (156, fjl L, M) Q := by
  unfold s_L_stove_0_155 at h
  refine Wp.run 5 (f' := (d + 8, 319, 5, 0, 0, [_, _, _, _, _], [fI l2, fI l1, fA 0, fI 0, fA 155])) (h' := (156, fjl L, M)) rfl trivial ?_
  obtain ⟨y5, hy, h⟩ := fbd h
  refine Wp.call rfl (by decide) (s_X11_stove_ok (d := d + 0) hy ?_)
  obtain ⟨w5, ew, h⟩ | ⟨ew, h⟩ := fel_of h
  · rw [ew]
    show Wp (d + 8, 319, 8, 0, 0, [_, _, _, _, _], [fJ w5, fI 0, fA 155]) (156, fjl L, y5.2) Q
    refine Wp.run 3 (P := [(0 : Int) ≤ 0 ∧ (0 : Int) < 1]) (f' := (d + 8, 319, 17, 0, 0, [_, _, _, _, _], [fI 0])) (h' := (156, fjl L, (fup y5.2 155 0 w5))) rfl ?_ ?_
    · exact (by decide : (0 : Int) ≤ 0 ∧ (0 : Int) < 1)
    obtain rfl := Option.some.inj h
    exact Wp.done rfl (by decide) H
  · rw [ew]
    refine ⟨⟨rfl, by decide, by decide⟩, ?_⟩
    show Wp (d + 8, 319, 12, 1, 6, [_, _, _, _, _], [fA 9999]) (156, fjl L, y5.2) Q
    refine Wp.run 2 (f' := (d + 8, 319, 15, 1, 6, [_, _, _, _, _], [fI 1])) (h' := (156, fjl L, y5.2)) rfl trivial ?_
    obtain rfl := Option.some.inj h
    exact Wp.done rfl (by decide) H
theorem s_L_stove_0_155_fr {M : fM} {l1 l2 : Int} {r : (Int × fM)} (h : s_L_stove_0_155 M l1 l2 = some r) : fSame s_L_stove_0_155_mods M r.2 := by
  unfold s_L_stove_0_155 at h
  obtain ⟨y5, hy, h⟩ := fbd h
  have k5 := fs_trans (l := s_L_stove_0_155_mods) fs_refl (fs_mono (l := s_X11_stove_mods) (by decide) (s_X11_stove_fr hy))
  obtain ⟨w5, ew, h⟩ | ⟨ew, h⟩ := fel_of h
  · obtain rfl := Option.some.inj h
    exact fs_up k5 (.inl (by decide))
  · obtain rfl := Option.some.inj h
    exact k5
abbrev s_X12_stove_mods : List (Nat × Option Nat) := [(122, some 0), (130, none), (131, none)]
noncomputable def s_X12_stove_b29 (M : fM) (l1 l2 l3 : Int) : Option ((Int × fM) ⊕ fM) :=
  if (M 124 172) ≤ l3 then
    some (.inr M)
  else
    (s_X12_of M l3 7).bind fun y45 =>
      if ¬ y45 = 1 then
        if fin (l3 + 1) then
          some (.inl ((l3 + 1), M))
        else none
      else
        (s_X12_pairs M l3 l1 0).bind fun y56 =>
          if fin (l3 + 1) then
            some (.inl ((l3 + 1), y56.2))
          else none
theorem s_X12_stove_b29_ok {d L : Nat} {M : fM} {l1 l2 l3 : Int} {o4 o5 o6 o7 o8 o9 o10 : Option fV} {r : ((Int × fM) ⊕ fM)} {Q : fO → fH → Prop} (h : s_X12_stove_b29 M l1 l2 l3 = some r) (hC : ∀ (l3' : Int) (M' : fM) (o4' o5' o6' o7' o8' o9' o10' : Option fV), r = .inl (l3', M') → Wp (d + 3, 271, 29, 0, 0, [some (fA 122), some (fI l1), some (fI l2), some (fI l3'), o4', o5', o6', o7', o8', o9', o10'], []) (156, fjl L, M') Q) (hE : ∀ (e : fM) (o3' o4' o5' o6' o7' o8' o9' o10' : Option fV), r = .inr e → Wp (d + 3, 271, 65, 0, 0, [some (fA 122), some (fI l1), some (fI l2), o3', o4', o5', o6', o7', o8', o9', o10'], []) (156, fjl L, e) Q) : Wp (d + 3, 271, 29, 0, 0, [some (fA 122), some (fI l1), some (fI l2), some (fI l3), o4, o5, o6, o7, o8, o9, o10], []) (156, fjl L, M) Q := by
  unfold s_X12_stove_b29 at h
  refine Wp.run 5 (P := [(0 : Int) ≤ 172 ∧ (172 : Int) < 1290]) (f' := (d + 3, 271, 38, 0, 0, [some (fA 122), some (fI l1), some (fI l2), some (fI l3), _, _, _, _, _, _, _], [fI (M 124 172), fI l3])) (h' := (156, fjl L, M)) rfl ?_ ?_
  · exact (by decide : (0 : Int) ≤ 172 ∧ (172 : Int) < 1290)
  refine Wp.br rfl (fun (c : (M 124 172) ≤ l3) => ?_) (fun (c : ¬ ((M 124 172) ≤ l3)) => ?_)
  · replace h := fps c h
    exact hE _ _ _ _ _ _ _ _ _ (Option.some.inj h).symm
  · replace h := fng c h
    refine Wp.run 3 (f' := (d + 3, 271, 45, 0, 0, [some (fA 122), some (fI l1), some (fI l2), some (fI l3), _, _, _, _, _, _, _], [fI 7, fI l3, fA 122])) (h' := (156, fjl L, M)) rfl trivial ?_
    obtain ⟨y45, hy, h⟩ := fbd h
    refine Wp.call rfl (by decide) (s_X12_of_ok (d := d + 2) hy ?_)
    show Wp (d + 3, 271, 48, 0, 0, [some (fA 122), some (fI l1), some (fI l2), some (fI l3), _, _, _, _, _, _, _], [fI y45]) (156, fjl L, M) Q
    refine Wp.run 1 (f' := (d + 3, 271, 49, 0, 0, [some (fA 122), some (fI l1), some (fI l2), some (fI l3), _, _, _, _, _, _, _], [fI 1, fI y45])) (h' := (156, fjl L, M)) rfl trivial ?_
    refine Wp.br rfl (fun (c : ¬ y45 = 1) => ?_) (fun (c : ¬ (¬ y45 = 1)) => ?_)
    · replace h := fps c h
      obtain ⟨g0, h⟩ := fgd h
      refine Wp.run 2 (f' := (d + 3, 271, 29, 0, 0, [some (fA 122), some (fI l1), some (fI l2), some (fI (fw (l3 + 1))), _, _, _, _, _, _, _], [])) (h' := (156, fjl L, M)) rfl trivial ?_
      rw [fw_id g0]
      exact hC _ _ _ _ _ _ _ _ _ (Option.some.inj h).symm
    · replace h := fng c h
      refine Wp.run 4 (f' := (d + 3, 271, 56, 0, 0, [some (fA 122), some (fI l1), some (fI l2), some (fI l3), _, _, _, _, _, _, _], [fI 0, fI l1, fI l3, fA 122])) (h' := (156, fjl L, M)) rfl trivial ?_
      obtain ⟨y56, hy, h⟩ := fbd h
      refine Wp.call rfl (by decide) (s_X12_pairs_ok (d := d + 0) hy ?_)
      show Wp (d + 3, 271, 59, 0, 0, [some (fA 122), some (fI l1), some (fI l2), some (fI l3), _, _, _, _, _, _, _], []) (156, fjl L, y56.2) Q
      obtain ⟨g0, h⟩ := fgd h
      refine Wp.run 2 (f' := (d + 3, 271, 29, 0, 0, [some (fA 122), some (fI l1), some (fI l2), some (fI (fw (l3 + 1))), _, _, _, _, _, _, _], [])) (h' := (156, fjl L, y56.2)) rfl trivial ?_
      rw [fw_id g0]
      exact hC _ _ _ _ _ _ _ _ _ (Option.some.inj h).symm
theorem s_X12_stove_b29_fr {M : fM} {l1 l2 l3 : Int} {r : ((Int × fM) ⊕ fM)} (h : s_X12_stove_b29 M l1 l2 l3 = some r) : fSame s_X12_stove_mods M (Sum.elim (fun s => s.2) (fun e => e) r) := by
  unfold s_X12_stove_b29 at h
  by_cases c : (M 124 172) ≤ l3
  · replace h := fps c h
    obtain rfl := Option.some.inj h
    exact fs_refl
  · replace h := fng c h
    obtain ⟨y45, hy, h⟩ := fbd h
    by_cases c : ¬ y45 = 1
    · replace h := fps c h
      replace h := (fgd h).2
      obtain rfl := Option.some.inj h
      exact fs_refl
    · replace h := fng c h
      obtain ⟨y56, hy, h⟩ := fbd h
      have k56 := fs_trans (l := s_X12_stove_mods) fs_refl (fs_mono (l := s_X12_pairs_mods) (by decide) (s_X12_pairs_fr hy))
      replace h := (fgd h).2
      obtain rfl := Option.some.inj h
      exact k56
noncomputable def s_X12_stove_l29 (l1 l2 : Int) (s : (Int × fM)) : Option fM := fLp (fun s => s_X12_stove_b29 s.2 l1 l2 s.1) s
theorem s_X12_stove_l29_ok {d L : Nat} {M : fM} {l1 l2 l3 : Int} {o4 o5 o6 o7 o8 o9 o10 : Option fV} {r : fM} {Q : fO → fH → Prop} (h : s_X12_stove_l29 l1 l2 (l3, M) = some r) (hE : ∀ (e : fM) (o3' o4' o5' o6' o7' o8' o9' o10' : Option fV), r = e → Wp (d + 3, 271, 65, 0, 0, [some (fA 122), some (fI l1), some (fI l2), o3', o4', o5', o6', o7', o8', o9', o10'], []) (156, fjl L, e) Q) : Wp (d + 3, 271, 29, 0, 0, [some (fA 122), some (fI l1), some (fI l2), some (fI l3), o4, o5, o6, o7, o8, o9, o10], []) (156, fjl L, M) Q := by
  refine fLp_wp (W := fun s => ∀ (o4 o5 o6 o7 o8 o9 o10 : Option fV), Wp (d + 3, 271, 29, 0, 0, [some (fA 122), some (fI l1), some (fI l2), some (fI s.1), o4, o5, o6, o7, o8, o9, o10], []) (156, fjl L, s.2) Q) (e := r) ?_ h _ _ _ _ _ _ _
  intro s r1 h hC hX o4 o5 o6 o7 o8 o9 o10
  refine s_X12_stove_b29_ok (d := d) h (fun a0 a1 _ _ _ _ _ _ _ e1 => ?_) (fun e u0 u1 u2 u3 u4 u5 u6 u7 e1 => hE e u0 u1 u2 u3 u4 u5 u6 u7 (hX _ e1).symm)
  exact hC _ e1 _ _ _ _ _ _ _
theorem s_X12_stove_l29_fr {M : fM} {l1 l2 l3 : Int} {r : fM} (h : s_X12_stove_l29 l1 l2 (l3, M) = some r) : fSame s_X12_stove_mods M ((fun e => e) r) := by
  refine fLp_inv (I := fun s => fSame s_X12_stove_mods M s.2) (J := fun r => fSame s_X12_stove_mods M ((fun e => e) r)) h fs_refl (fun s s1 hs hb => ?_) (fun s e hs hb => ?_)
  · exact fs_trans hs (s_X12_stove_b29_fr hb)
  · exact fs_trans hs (s_X12_stove_b29_fr hb)
noncomputable def s_X12_stove_b87 (M : fM) (l1 l2 l3 l5 l7 : Int) : Option ((Int × fM) ⊕ fM) :=
  if (M 124 172) ≤ l7 then
    some (.inr M)
  else
    (s_X12_of M l7 7).bind fun y105 =>
      if ¬ y105 = 0 then
        if fin (l7 + 1) then
          some (.inl ((l7 + 1), M))
        else none
      else
        (s_X12_pairs M l7 l1 0).bind fun y116 =>
          if fin (l7 + 1) then
            some (.inl ((l7 + 1), y116.2))
          else none
theorem s_X12_stove_b87_ok {d L : Nat} {M : fM} {l1 l2 l3 l5 l7 : Int} {o8 o9 o10 : Option fV} {r : ((Int × fM) ⊕ fM)} {Q : fO → fH → Prop} (h : s_X12_stove_b87 M l1 l2 l3 l5 l7 = some r) (hC : ∀ (l7' : Int) (M' : fM) (o8' o9' o10' : Option fV), r = .inl (l7', M') → Wp (d + 3, 271, 87, 0, 0, [some (fA 122), some (fI l1), some (fI l2), some (fJ l3), none, some (fJ l5), none, some (fI l7'), o8', o9', o10'], []) (156, fjl L, M') Q) (hE : ∀ (e : fM) (o1' o7' o8' o9' o10' : Option fV), r = .inr e → Wp (d + 3, 271, 125, 0, 0, [some (fA 122), o1', some (fI l2), some (fJ l3), none, some (fJ l5), none, o7', o8', o9', o10'], []) (156, fjl L, e) Q) : Wp (d + 3, 271, 87, 0, 0, [some (fA 122), some (fI l1), some (fI l2), some (fJ l3), none, some (fJ l5), none, some (fI l7), o8, o9, o10], []) (156, fjl L, M) Q := by
  unfold s_X12_stove_b87 at h
  refine Wp.run 5 (P := [(0 : Int) ≤ 172 ∧ (172 : Int) < 1290]) (f' := (d + 3, 271, 97, 0, 0, [some (fA 122), some (fI l1), some (fI l2), some (fJ l3), none, some (fJ l5), none, some (fI l7), _, _, _], [fI (M 124 172), fI l7])) (h' := (156, fjl L, M)) rfl ?_ ?_
  · exact (by decide : (0 : Int) ≤ 172 ∧ (172 : Int) < 1290)
  refine Wp.br rfl (fun (c : (M 124 172) ≤ l7) => ?_) (fun (c : ¬ ((M 124 172) ≤ l7)) => ?_)
  · replace h := fps c h
    exact hE _ _ _ _ _ _ (Option.some.inj h).symm
  · replace h := fng c h
    refine Wp.run 3 (f' := (d + 3, 271, 105, 0, 0, [some (fA 122), some (fI l1), some (fI l2), some (fJ l3), none, some (fJ l5), none, some (fI l7), _, _, _], [fI 7, fI l7, fA 122])) (h' := (156, fjl L, M)) rfl trivial ?_
    obtain ⟨y105, hy, h⟩ := fbd h
    refine Wp.call rfl (by decide) (s_X12_of_ok (d := d + 2) hy ?_)
    show Wp (d + 3, 271, 108, 0, 0, [some (fA 122), some (fI l1), some (fI l2), some (fJ l3), none, some (fJ l5), none, some (fI l7), _, _, _], [fI y105]) (156, fjl L, M) Q
    refine Wp.br rfl (fun (c : ¬ y105 = 0) => ?_) (fun (c : ¬ (¬ y105 = 0)) => ?_)
    · replace h := fps c h
      obtain ⟨g0, h⟩ := fgd h
      refine Wp.run 2 (f' := (d + 3, 271, 87, 0, 0, [some (fA 122), some (fI l1), some (fI l2), some (fJ l3), none, some (fJ l5), none, some (fI (fw (l7 + 1))), _, _, _], [])) (h' := (156, fjl L, M)) rfl trivial ?_
      rw [fw_id g0]
      exact hC _ _ _ _ _ (Option.some.inj h).symm
    · replace h := fng c h
      refine Wp.run 4 (f' := (d + 3, 271, 116, 0, 0, [some (fA 122), some (fI l1), some (fI l2), some (fJ l3), none, some (fJ l5), none, some (fI l7), _, _, _], [fI 0, fI l1, fI l7, fA 122])) (h' := (156, fjl L, M)) rfl trivial ?_
      obtain ⟨y116, hy, h⟩ := fbd h
      refine Wp.call rfl (by decide) (s_X12_pairs_ok (d := d + 0) hy ?_)
      show Wp (d + 3, 271, 119, 0, 0, [some (fA 122), some (fI l1), some (fI l2), some (fJ l3), none, some (fJ l5), none, some (fI l7), _, _, _], []) (156, fjl L, y116.2) Q
      obtain ⟨g0, h⟩ := fgd h
      refine Wp.run 2 (f' := (d + 3, 271, 87, 0, 0, [some (fA 122), some (fI l1), some (fI l2), some (fJ l3), none, some (fJ l5), none, some (fI (fw (l7 + 1))), _, _, _], [])) (h' := (156, fjl L, y116.2)) rfl trivial ?_
      rw [fw_id g0]
      exact hC _ _ _ _ _ (Option.some.inj h).symm
theorem s_X12_stove_b87_fr {M : fM} {l1 l2 l3 l5 l7 : Int} {r : ((Int × fM) ⊕ fM)} (h : s_X12_stove_b87 M l1 l2 l3 l5 l7 = some r) : fSame s_X12_stove_mods M (Sum.elim (fun s => s.2) (fun e => e) r) := by
  unfold s_X12_stove_b87 at h
  by_cases c : (M 124 172) ≤ l7
  · replace h := fps c h
    obtain rfl := Option.some.inj h
    exact fs_refl
  · replace h := fng c h
    obtain ⟨y105, hy, h⟩ := fbd h
    by_cases c : ¬ y105 = 0
    · replace h := fps c h
      replace h := (fgd h).2
      obtain rfl := Option.some.inj h
      exact fs_refl
    · replace h := fng c h
      obtain ⟨y116, hy, h⟩ := fbd h
      have k116 := fs_trans (l := s_X12_stove_mods) fs_refl (fs_mono (l := s_X12_pairs_mods) (by decide) (s_X12_pairs_fr hy))
      replace h := (fgd h).2
      obtain rfl := Option.some.inj h
      exact k116
noncomputable def s_X12_stove_l87 (l1 l2 l3 l5 : Int) (s : (Int × fM)) : Option fM := fLp (fun s => s_X12_stove_b87 s.2 l1 l2 l3 l5 s.1) s
theorem s_X12_stove_l87_ok {d L : Nat} {M : fM} {l1 l2 l3 l5 l7 : Int} {o8 o9 o10 : Option fV} {r : fM} {Q : fO → fH → Prop} (h : s_X12_stove_l87 l1 l2 l3 l5 (l7, M) = some r) (hE : ∀ (e : fM) (o1' o7' o8' o9' o10' : Option fV), r = e → Wp (d + 3, 271, 125, 0, 0, [some (fA 122), o1', some (fI l2), some (fJ l3), none, some (fJ l5), none, o7', o8', o9', o10'], []) (156, fjl L, e) Q) : Wp (d + 3, 271, 87, 0, 0, [some (fA 122), some (fI l1), some (fI l2), some (fJ l3), none, some (fJ l5), none, some (fI l7), o8, o9, o10], []) (156, fjl L, M) Q := by
  refine fLp_wp (W := fun s => ∀ (o8 o9 o10 : Option fV), Wp (d + 3, 271, 87, 0, 0, [some (fA 122), some (fI l1), some (fI l2), some (fJ l3), none, some (fJ l5), none, some (fI s.1), o8, o9, o10], []) (156, fjl L, s.2) Q) (e := r) ?_ h _ _ _
  intro s r1 h hC hX o8 o9 o10
  refine s_X12_stove_b87_ok (d := d) h (fun a0 a1 _ _ _ e1 => ?_) (fun e u0 u1 u2 u3 u4 e1 => hE e u0 u1 u2 u3 u4 (hX _ e1).symm)
  exact hC _ e1 _ _ _
theorem s_X12_stove_l87_fr {M : fM} {l1 l2 l3 l5 l7 : Int} {r : fM} (h : s_X12_stove_l87 l1 l2 l3 l5 (l7, M) = some r) : fSame s_X12_stove_mods M ((fun e => e) r) := by
  refine fLp_inv (I := fun s => fSame s_X12_stove_mods M s.2) (J := fun r => fSame s_X12_stove_mods M ((fun e => e) r)) h fs_refl (fun s s1 hs hb => ?_) (fun s e hs hb => ?_)
  · exact fs_trans hs (s_X12_stove_b87_fr hb)
  · exact fs_trans hs (s_X12_stove_b87_fr hb)
noncomputable def s_X12_stove_j192 (M : fM) (l7 l9 t0 : Int) : Option (Int × fM) :=
  (s_X12_common M l7 l9).bind fun y196 =>
    if y196 ≠ 0 then
      some ((fldv t0 y196), M)
    else none
theorem s_X12_stove_j192_ok {d L : Nat} {M : fM} {l7 l9 t0 : Int} {o0 o1 o2 o3 o4 o5 o6 : Option fV} {r : (Int × fM)} {Q : fO → fH → Prop} (h : s_X12_stove_j192 M l7 l9 t0 = some r) (H : Q (oJ r.1) (156, fjl L, r.2)) : Wp (d + 3, 271, 192, 0, 0, [o0, o1, o2, o3, o4, o5, o6, some (fJ l7), none, some (fJ l9), none], [fJ t0]) (156, fjl L, M) Q := by
  unfold s_X12_stove_j192 at h
  refine Wp.run 2 (f' := (d + 3, 271, 196, 0, 0, [_, _, _, _, _, _, _, _, _, _, _], [fJ l9, fJ l7, fJ t0])) (h' := (156, fjl L, M)) rfl trivial ?_
  obtain ⟨y196, hy, h⟩ := fbd h
  refine Wp.call rfl (by decide) (s_X12_common_ok (d := d + 2) hy ?_)
  show Wp (d + 3, 271, 199, 0, 0, [_, _, _, _, _, _, _, _, _, _, _], [fJ y196, fJ t0]) (156, fjl L, M) Q
  obtain ⟨g0, h⟩ := fgd h
  refine Wp.run 1 (P := [y196 ≠ 0]) (f' := (d + 3, 271, 200, 0, 0, [_, _, _, _, _, _, _, _, _, _, _], [fJ (fldv t0 y196)])) (h' := (156, fjl L, M)) rfl ?_ ?_
  · exact g0
  obtain rfl := Option.some.inj h
  exact Wp.done rfl (by decide) H
theorem s_X12_stove_j192_fr {M : fM} {l7 l9 t0 : Int} {r : (Int × fM)} (h : s_X12_stove_j192 M l7 l9 t0 = some r) : fSame s_X12_stove_mods M r.2 := by
  unfold s_X12_stove_j192 at h
  obtain ⟨y196, hy, h⟩ := fbd h
  replace h := (fgd h).2
  obtain rfl := Option.some.inj h
  exact fs_refl
noncomputable def s_X12_stove (M : fM) (l1 l2 : Int) : Option (Int × fM) :=
  (s_X12_isKnown (fup M 122 0 1) l1).bind fun y6 =>
    if y6 = 0 then
      some (0, (fup M 122 0 1))
    else
      (s_X12_isIn (fup M 122 0 1) l2 0 1).bind fun y15 =>
        if ¬ y15 = 0 then
          (s_X12_noPairs (fup M 122 0 1)).bind fun y24 =>
            (s_X12_stove_l29 l1 l2 (0, y24.2)).bind fun e29 =>
              (s_X12_noPairs e29).bind fun y81 =>
                (s_X12_stove_l87 l1 l2 (e29 130 0) (e29 131 0) (0, y81.2)).bind fun e87 =>
                  if (e29 131 0) = 0 then
                    some (0, e87)
                  else
                    if ¬ (e87 131 0) = 0 then
                      if finl ((e29 130 0) * (e87 131 0)) ∧ finl ((e87 130 0) * (e29 131 0)) ∧ finl (((e29 130 0) * (e87 131 0)) - ((e87 130 0) * (e29 131 0))) then
                        if finl ((e29 131 0) * (e87 131 0)) then
                          if ¬ l2 = 0 then
                            s_X12_stove_j192 (fup e87 122 0 0) (((e29 130 0) * (e87 131 0)) - ((e87 130 0) * (e29 131 0))) ((e29 131 0) * (e87 131 0)) ((e29 131 0) * (e87 131 0))
                          else
                            s_X12_stove_j192 (fup e87 122 0 0) (((e29 130 0) * (e87 131 0)) - ((e87 130 0) * (e29 131 0))) ((e29 131 0) * (e87 131 0)) (((e29 130 0) * (e87 131 0)) - ((e87 130 0) * (e29 131 0)))
                        else none
                      else none
                    else
                      some (0, e87)
        else
          some (0, (fup M 122 0 1))
theorem s_X12_stove_ok {d L : Nat} {M : fM} {l1 l2 : Int} {r : (Int × fM)} {Q : fO → fH → Prop} (h : s_X12_stove M l1 l2 = some r) (H : Q (oJ r.1) (156, fjl L, r.2)) : Wp (d + 3, 271, 0, 0, 0, [some (fA 122), some (fI l1), some (fI l2), none, none, none, none, none, none, none, none], []) (156, fjl L, M) Q := by
  unfold s_X12_stove at h
  refine Wp.run 4 (f' := (d + 3, 271, 6, 0, 0, [some (fA 122), some (fI l1), some (fI l2), _, _, _, _, _, _, _, _], [fI l1])) (h' := (156, fjl L, (fup M 122 0 1))) rfl trivial ?_
  obtain ⟨y6, hy, h⟩ := fbd h
  refine Wp.call rfl (by decide) (s_X12_isKnown_ok (d := d + 1) hy ?_)
  show Wp (d + 3, 271, 9, 0, 0, [some (fA 122), some (fI l1), some (fI l2), _, _, _, _, _, _, _, _], [fI y6]) (156, fjl L, (fup M 122 0 1)) Q
  refine Wp.br rfl (fun (c : y6 = 0) => ?_) (fun (c : ¬ (y6 = 0)) => ?_)
  · replace h := fps c h
    refine Wp.run 1 (f' := (d + 3, 271, 22, 0, 0, [_, _, _, _, _, _, _, _, _, _, _], [fJ 0])) (h' := (156, fjl L, (fup M 122 0 1))) rfl trivial ?_
    obtain rfl := Option.some.inj h
    exact Wp.done rfl (by decide) H
  · replace h := fng c h
    refine Wp.run 3 (f' := (d + 3, 271, 15, 0, 0, [some (fA 122), some (fI l1), some (fI l2), _, _, _, _, _, _, _, _], [fI 1, fI 0, fI l2])) (h' := (156, fjl L, (fup M 122 0 1))) rfl trivial ?_
    obtain ⟨y15, hy, h⟩ := fbd h
    refine Wp.call rfl (by decide) (s_X12_isIn_ok (d := d + 2) hy ?_)
    show Wp (d + 3, 271, 18, 0, 0, [some (fA 122), some (fI l1), some (fI l2), _, _, _, _, _, _, _, _], [fI y15]) (156, fjl L, (fup M 122 0 1)) Q
    refine Wp.br rfl (fun (c : ¬ y15 = 0) => ?_) (fun (c : ¬ (¬ y15 = 0)) => ?_)
    · replace h := fps c h
      refine Wp.run 1 (f' := (d + 3, 271, 24, 0, 0, [some (fA 122), some (fI l1), some (fI l2), _, _, _, _, _, _, _, _], [fA 122])) (h' := (156, fjl L, (fup M 122 0 1))) rfl trivial ?_
      obtain ⟨y24, hy, h⟩ := fbd h
      refine Wp.call rfl (by decide) (s_X12_noPairs_ok (d := d + 2) hy ?_)
      show Wp (d + 3, 271, 27, 0, 0, [some (fA 122), some (fI l1), some (fI l2), _, _, _, _, _, _, _, _], []) (156, fjl L, y24.2) Q
      refine Wp.run 2 (f' := (d + 3, 271, 29, 0, 0, [some (fA 122), some (fI l1), some (fI l2), some (fI 0), _, _, _, _, _, _, _], [])) (h' := (156, fjl L, y24.2)) rfl trivial ?_
      obtain ⟨e29, hy, h⟩ := fbd h
      refine s_X12_stove_l29_ok hy (fun x u3 u4 u5 u6 u7 u8 u9 u10 ex => ?_)
      cases ex
      show Wp (d + 3, 271, 65, 0, 0, [some (fA 122), some (fI l1), some (fI l2), u3, u4, u5, u6, u7, u8, u9, u10], []) (156, fjl L, e29) Q
      refine Wp.run 11 (P := [(0 : Int) ≤ 0 ∧ (0 : Int) < 12, (0 : Int) ≤ 0 ∧ (0 : Int) < 12]) (f' := (d + 3, 271, 81, 0, 0, [some (fA 122), some (fI l1), some (fI l2), some (fJ (e29 130 0)), none, some (fJ (e29 131 0)), none, _, _, _, _], [fA 122])) (h' := (156, fjl L, e29)) rfl ?_ ?_
      · exact ⟨(by decide : (0 : Int) ≤ 0 ∧ (0 : Int) < 12), (by decide : (0 : Int) ≤ 0 ∧ (0 : Int) < 12)⟩
      obtain ⟨y81, hy, h⟩ := fbd h
      refine Wp.call rfl (by decide) (s_X12_noPairs_ok (d := d + 2) hy ?_)
      show Wp (d + 3, 271, 84, 0, 0, [some (fA 122), some (fI l1), some (fI l2), some (fJ (e29 130 0)), none, some (fJ (e29 131 0)), none, _, _, _, _], []) (156, fjl L, y81.2) Q
      refine Wp.run 2 (f' := (d + 3, 271, 87, 0, 0, [some (fA 122), some (fI l1), some (fI l2), some (fJ (e29 130 0)), none, some (fJ (e29 131 0)), none, some (fI 0), _, _, _], [])) (h' := (156, fjl L, y81.2)) rfl trivial ?_
      obtain ⟨e87, hy, h⟩ := fbd h
      refine s_X12_stove_l87_ok hy (fun x u1 u7 u8 u9 u10 ex => ?_)
      cases ex
      show Wp (d + 3, 271, 125, 0, 0, [some (fA 122), u1, some (fI l2), some (fJ (e29 130 0)), none, some (fJ (e29 131 0)), none, u7, u8, u9, u10], []) (156, fjl L, e87) Q
      refine Wp.run 3 (f' := (d + 3, 271, 129, 0, 0, [some (fA 122), _, some (fI l2), some (fJ (e29 130 0)), none, some (fJ (e29 131 0)), none, _, _, _, _], [fI (fcm (e29 131 0) 0)])) (h' := (156, fjl L, e87)) rfl trivial ?_
      refine Wp.br rfl (fun (c : (fcm (e29 131 0) 0) = 0) => ?_) (fun (c : ¬ ((fcm (e29 131 0) 0) = 0)) => ?_)
      · replace c := (fcm_eq _ _).mp c
        replace h := fps c h
        refine Wp.run 1 (f' := (d + 3, 271, 144, 0, 0, [_, _, _, _, _, _, _, _, _, _, _], [fJ 0])) (h' := (156, fjl L, e87)) rfl trivial ?_
        obtain rfl := Option.some.inj h
        exact Wp.done rfl (by decide) H
      · replace c := fun z => c ((fcm_eq _ _).mpr z)
        replace h := fng c h
        refine Wp.run 6 (P := [(0 : Int) ≤ 0 ∧ (0 : Int) < 12]) (f' := (d + 3, 271, 140, 0, 0, [some (fA 122), _, some (fI l2), some (fJ (e29 130 0)), none, some (fJ (e29 131 0)), none, _, _, _, _], [fI (fcm (e87 131 0) 0)])) (h' := (156, fjl L, e87)) rfl ?_ ?_
        · exact (by decide : (0 : Int) ≤ 0 ∧ (0 : Int) < 12)
        refine Wp.br rfl (fun (c : ¬ (fcm (e87 131 0) 0) = 0) => ?_) (fun (c : ¬ (¬ (fcm (e87 131 0) 0) = 0)) => ?_)
        · replace c := (fcm_ne _ _).mp c
          replace h := fps c h
          obtain ⟨⟨g0, g1, g2⟩, h⟩ := fgd h
          refine Wp.run 17 (P := [(0 : Int) ≤ 0 ∧ (0 : Int) < 12, (0 : Int) ≤ 0 ∧ (0 : Int) < 12]) (f' := (d + 3, 271, 170, 0, 0, [some (fA 122), _, some (fI l2), _, _, some (fJ (e29 131 0)), none, some (fJ (fwl ((fwl ((e29 130 0) * (e87 131 0))) - (fwl ((e87 130 0) * (e29 131 0)))))), none, _, _], [])) (h' := (156, fjl L, (fup e87 122 0 0))) rfl ?_ ?_
          · exact ⟨(by decide : (0 : Int) ≤ 0 ∧ (0 : Int) < 12), (by decide : (0 : Int) ≤ 0 ∧ (0 : Int) < 12)⟩
          rw [fwl_id g0, fwl_id g1, fwl_id g2]
          obtain ⟨g0, h⟩ := fgd h
          refine Wp.run 8 (P := [(0 : Int) ≤ 0 ∧ (0 : Int) < 12]) (f' := (d + 3, 271, 182, 0, 0, [_, _, _, _, _, _, _, some (fJ (((e29 130 0) * (e87 131 0)) - ((e87 130 0) * (e29 131 0)))), none, some (fJ (fwl ((e29 131 0) * (e87 131 0)))), none], [fI l2])) (h' := (156, fjl L, (fup e87 122 0 0))) rfl ?_ ?_
          · exact (by decide : (0 : Int) ≤ 0 ∧ (0 : Int) < 12)
          rw [fwl_id g0]
          refine Wp.br rfl (fun (c : ¬ l2 = 0) => ?_) (fun (c : ¬ (¬ l2 = 0)) => ?_)
          · replace h := fps c h
            refine Wp.run 1 (f' := (d + 3, 271, 192, 0, 0, [_, _, _, _, _, _, _, some (fJ (((e29 130 0) * (e87 131 0)) - ((e87 130 0) * (e29 131 0)))), none, some (fJ ((e29 131 0) * (e87 131 0))), none], [fJ ((e29 131 0) * (e87 131 0))])) (h' := (156, fjl L, (fup e87 122 0 0))) rfl trivial ?_
            exact s_X12_stove_j192_ok h H
          · replace h := fng c h
            refine Wp.run 2 (f' := (d + 3, 271, 192, 0, 0, [_, _, _, _, _, _, _, some (fJ (((e29 130 0) * (e87 131 0)) - ((e87 130 0) * (e29 131 0)))), none, some (fJ ((e29 131 0) * (e87 131 0))), none], [fJ (((e29 130 0) * (e87 131 0)) - ((e87 130 0) * (e29 131 0)))])) (h' := (156, fjl L, (fup e87 122 0 0))) rfl trivial ?_
            exact s_X12_stove_j192_ok h H
        · replace c := fun z => c ((fcm_ne _ _).mpr z)
          replace h := fng c h
          refine Wp.run 1 (f' := (d + 3, 271, 144, 0, 0, [_, _, _, _, _, _, _, _, _, _, _], [fJ 0])) (h' := (156, fjl L, e87)) rfl trivial ?_
          obtain rfl := Option.some.inj h
          exact Wp.done rfl (by decide) H
    · replace h := fng c h
      refine Wp.run 1 (f' := (d + 3, 271, 22, 0, 0, [_, _, _, _, _, _, _, _, _, _, _], [fJ 0])) (h' := (156, fjl L, (fup M 122 0 1))) rfl trivial ?_
      obtain rfl := Option.some.inj h
      exact Wp.done rfl (by decide) H
theorem s_X12_stove_fr {M : fM} {l1 l2 : Int} {r : (Int × fM)} (h : s_X12_stove M l1 l2 = some r) : fSame s_X12_stove_mods M r.2 := by
  unfold s_X12_stove at h
  obtain ⟨y6, hy, h⟩ := fbd h
  by_cases c : y6 = 0
  · replace h := fps c h
    obtain rfl := Option.some.inj h
    exact fs_up fs_refl (.inr (by decide))
  · replace h := fng c h
    obtain ⟨y15, hy, h⟩ := fbd h
    by_cases c : ¬ y15 = 0
    · replace h := fps c h
      obtain ⟨y24, hy, h⟩ := fbd h
      have k24 := fs_trans (l := s_X12_stove_mods) (fs_up fs_refl (.inr (by decide))) (fs_mono (l := s_X12_noPairs_mods) (by decide) (s_X12_noPairs_fr hy))
      obtain ⟨e29, hy, h⟩ := fbd h
      have k29 := fs_trans (l := s_X12_stove_mods) k24 (s_X12_stove_l29_fr hy)
      obtain ⟨y81, hy, h⟩ := fbd h
      have k81 := fs_trans (l := s_X12_stove_mods) k29 (fs_mono (l := s_X12_noPairs_mods) (by decide) (s_X12_noPairs_fr hy))
      obtain ⟨e87, hy, h⟩ := fbd h
      have k87 := fs_trans (l := s_X12_stove_mods) k81 (s_X12_stove_l87_fr hy)
      by_cases c : (e29 131 0) = 0
      · replace h := fps c h
        obtain rfl := Option.some.inj h
        exact k87
      · replace h := fng c h
        by_cases c : ¬ (e87 131 0) = 0
        · replace h := fps c h
          replace h := (fgd h).2
          replace h := (fgd h).2
          by_cases c : ¬ l2 = 0
          · replace h := fps c h
            exact fs_trans (fs_up k87 (.inr (by decide))) (s_X12_stove_j192_fr h)
          · replace h := fng c h
            exact fs_trans (fs_up k87 (.inr (by decide))) (s_X12_stove_j192_fr h)
        · replace h := fng c h
          obtain rfl := Option.some.inj h
          exact k87
    · replace h := fng c h
      obtain rfl := Option.some.inj h
      exact fs_up fs_refl (.inr (by decide))
noncomputable def s_X2_hasTuner_4 (M : fM) (l1 : Int) : Option Int :=
  if l1 < 0 then
    some 0
  else
    if (M 4 14) ≤ l1 then
      some 0
    else
      some 1
theorem s_X2_hasTuner_4_ok {d L : Nat} {M : fM} {l1 : Int} {r : Int} {Q : fO → fH → Prop} (h : s_X2_hasTuner_4 M l1 = some r) (H : Q (oI r) (156, fjl L, M)) : Wp (d + 0, 31, 0, 0, 0, [some (fA 4), some (fI l1)], []) (156, fjl L, M) Q := by
  unfold s_X2_hasTuner_4 at h
  refine Wp.run 1 (f' := (d + 0, 31, 1, 0, 0, [some (fA 4), some (fI l1)], [fI l1])) (h' := (156, fjl L, M)) rfl trivial ?_
  refine Wp.br rfl (fun (c : l1 < 0) => ?_) (fun (c : ¬ (l1 < 0)) => ?_)
  · replace h := fps c h
    refine Wp.run 1 (f' := (d + 0, 31, 17, 0, 0, [_, _], [fI 0])) (h' := (156, fjl L, M)) rfl trivial ?_
    obtain rfl := Option.some.inj h
    exact Wp.done rfl (by decide) H
  · replace h := fng c h
    refine Wp.run 3 (f' := (d + 0, 31, 9, 0, 0, [_, _], [fI (M 4 14), fI l1])) (h' := (156, fjl L, M)) rfl trivial ?_
    refine Wp.br rfl (fun (c : (M 4 14) ≤ l1) => ?_) (fun (c : ¬ ((M 4 14) ≤ l1)) => ?_)
    · replace h := fps c h
      refine Wp.run 1 (f' := (d + 0, 31, 17, 0, 0, [_, _], [fI 0])) (h' := (156, fjl L, M)) rfl trivial ?_
      obtain rfl := Option.some.inj h
      exact Wp.done rfl (by decide) H
    · replace h := fng c h
      refine Wp.run 2 (f' := (d + 0, 31, 17, 0, 0, [_, _], [fI 1])) (h' := (156, fjl L, M)) rfl trivial ?_
      obtain rfl := Option.some.inj h
      exact Wp.done rfl (by decide) H
noncomputable def s_X6_isKnown_18 (M : fM) (l1 l2 : Int) : Option Int :=
  if l2 = (-1) then
    some 1
  else
    if (0 ≤ l1 ∧ l1 < 200) then
      if l2 < (M 22 (l1).toNat) then
        some 0
      else
        some 1
    else none
theorem s_X6_isKnown_18_ok {d L : Nat} {M : fM} {l1 l2 : Int} {r : Int} {Q : fO → fH → Prop} (h : s_X6_isKnown_18 M l1 l2 = some r) (H : Q (oI r) (156, fjl L, M)) : Wp (d + 0, 81, 0, 0, 0, [some (fA 18), some (fI l1), some (fI l2)], []) (156, fjl L, M) Q := by
  unfold s_X6_isKnown_18 at h
  refine Wp.run 2 (f' := (d + 0, 81, 2, 0, 0, [some (fA 18), some (fI l1), some (fI l2)], [fI (-1), fI l2])) (h' := (156, fjl L, M)) rfl trivial ?_
  refine Wp.br rfl (fun (c : l2 = (-1)) => ?_) (fun (c : ¬ (l2 = (-1))) => ?_)
  · replace h := fps c h
    refine Wp.run 2 (f' := (d + 0, 81, 20, 0, 0, [_, _, _], [fI 1])) (h' := (156, fjl L, M)) rfl trivial ?_
    obtain rfl := Option.some.inj h
    exact Wp.done rfl (by decide) H
  · replace h := fng c h
    obtain ⟨g0, h⟩ := fgd h
    refine Wp.run 5 (P := [0 ≤ l1 ∧ l1 < 200]) (f' := (d + 0, 81, 12, 0, 0, [_, _, _], [fI l2, fI (M 22 (l1).toNat)])) (h' := (156, fjl L, M)) rfl ?_ ?_
    · exact g0
    refine Wp.br rfl (fun (c : l2 < (M 22 (l1).toNat)) => ?_) (fun (c : ¬ (l2 < (M 22 (l1).toNat))) => ?_)
    · replace h := fps c h
      refine Wp.run 1 (f' := (d + 0, 81, 20, 0, 0, [_, _, _], [fI 0])) (h' := (156, fjl L, M)) rfl trivial ?_
      obtain rfl := Option.some.inj h
      exact Wp.done rfl (by decide) H
    · replace h := fng c h
      refine Wp.run 2 (f' := (d + 0, 81, 20, 0, 0, [_, _, _], [fI 1])) (h' := (156, fjl L, M)) rfl trivial ?_
      obtain rfl := Option.some.inj h
      exact Wp.done rfl (by decide) H
abbrev s_X1_weighLean_mods : List (Nat × Option Nat) := [(47, some 9), (47, some 10)]
noncomputable def s_X1_weighLean_j53 (M : fM) (l1 l2 l3 l4 l5 l6 t0 : Int) : Option ((Int × Int × Int) ⊕ (Int × Int)) :=
  if t0 = 0 then
    if fin (l6 + 1) then
      some (.inl (l4, l5, (l6 + 1)))
    else none
  else
    (s_X6_isKnown_18 M l6 l3).bind fun y67 =>
      if y67 = 0 then
        if fin (l6 + 1) then
          some (.inl (l4, l5, (l6 + 1)))
        else none
      else
        (s_X6_isTold_18 M l6 l2).bind fun y80 =>
          if y80 = 0 then
            if fin (l6 + 1) then
              some (.inl (l4, l5, (l6 + 1)))
            else none
          else
            (s_X6_leftOf_18 M l6 l2).bind fun y95 =>
              if fin (l4 + y95) ∧ fin (l5 + 1) ∧ fin (l6 + 1) then
                some (.inl ((l4 + y95), (l5 + 1), (l6 + 1)))
              else none
theorem s_X1_weighLean_j53_ok {d L : Nat} {M : fM} {l1 l2 l3 l4 l5 l6 t0 : Int} {o7 : Option fV} {r : ((Int × Int × Int) ⊕ (Int × Int))} {Q : fO → fH → Prop} (h : s_X1_weighLean_j53 M l1 l2 l3 l4 l5 l6 t0 = some r) (hC : ∀ (l4' l5' l6' : Int) (o7' : Option fV), r = .inl (l4', l5', l6') → Wp (d + 2, 19, 9, 0, 0, [some (fA 47), some (fI l1), some (fI l2), some (fI l3), some (fI l4'), some (fI l5'), some (fI l6'), o7'], []) (156, fjl L, M) Q) (hE : ∀ (e : (Int × Int)) (o1' o2' o3' o6' o7' : Option fV), r = .inr e → Wp (d + 2, 19, 110, 0, 0, [some (fA 47), o1', o2', o3', some (fI e.1), some (fI e.2), o6', o7'], []) (156, fjl L, M) Q) : Wp (d + 2, 19, 53, 0, 0, [some (fA 47), some (fI l1), some (fI l2), some (fI l3), some (fI l4), some (fI l5), some (fI l6), o7], [fI t0]) (156, fjl L, M) Q := by
  unfold s_X1_weighLean_j53 at h
  refine Wp.run 2 (f' := (d + 2, 19, 57, 0, 0, [some (fA 47), some (fI l1), some (fI l2), some (fI l3), some (fI l4), some (fI l5), some (fI l6), _], [fI t0])) (h' := (156, fjl L, M)) rfl trivial ?_
  refine Wp.br rfl (fun (c : t0 = 0) => ?_) (fun (c : ¬ (t0 = 0)) => ?_)
  · replace h := fps c h
    obtain ⟨g0, h⟩ := fgd h
    refine Wp.run 2 (f' := (d + 2, 19, 9, 0, 0, [some (fA 47), some (fI l1), some (fI l2), some (fI l3), some (fI l4), some (fI l5), some (fI (fw (l6 + 1))), _], [])) (h' := (156, fjl L, M)) rfl trivial ?_
    rw [fw_id g0]
    exact hC _ _ _ _ (Option.some.inj h).symm
  · replace h := fng c h
    refine Wp.run 4 (f' := (d + 2, 19, 67, 0, 0, [some (fA 47), some (fI l1), some (fI l2), some (fI l3), some (fI l4), some (fI l5), some (fI l6), _], [fI l3, fI l6, fA 18])) (h' := (156, fjl L, M)) rfl trivial ?_
    obtain ⟨y67, hy, h⟩ := fbd h
    refine Wp.call rfl (by decide) (s_X6_isKnown_18_ok (d := d + 1) hy ?_)
    show Wp (d + 2, 19, 70, 0, 0, [some (fA 47), some (fI l1), some (fI l2), some (fI l3), some (fI l4), some (fI l5), some (fI l6), _], [fI y67]) (156, fjl L, M) Q
    refine Wp.br rfl (fun (c : y67 = 0) => ?_) (fun (c : ¬ (y67 = 0)) => ?_)
    · replace h := fps c h
      obtain ⟨g0, h⟩ := fgd h
      refine Wp.run 2 (f' := (d + 2, 19, 9, 0, 0, [some (fA 47), some (fI l1), some (fI l2), some (fI l3), some (fI l4), some (fI l5), some (fI (fw (l6 + 1))), _], [])) (h' := (156, fjl L, M)) rfl trivial ?_
      rw [fw_id g0]
      exact hC _ _ _ _ (Option.some.inj h).symm
    · replace h := fng c h
      refine Wp.run 4 (f' := (d + 2, 19, 80, 0, 0, [some (fA 47), some (fI l1), some (fI l2), some (fI l3), some (fI l4), some (fI l5), some (fI l6), _], [fI l2, fI l6, fA 18])) (h' := (156, fjl L, M)) rfl trivial ?_
      obtain ⟨y80, hy, h⟩ := fbd h
      refine Wp.call rfl (by decide) (s_X6_isTold_18_ok (d := d + 1) hy ?_)
      show Wp (d + 2, 19, 83, 0, 0, [some (fA 47), some (fI l1), some (fI l2), some (fI l3), some (fI l4), some (fI l5), some (fI l6), _], [fI y80]) (156, fjl L, M) Q
      refine Wp.br rfl (fun (c : y80 = 0) => ?_) (fun (c : ¬ (y80 = 0)) => ?_)
      · replace h := fps c h
        obtain ⟨g0, h⟩ := fgd h
        refine Wp.run 2 (f' := (d + 2, 19, 9, 0, 0, [some (fA 47), some (fI l1), some (fI l2), some (fI l3), some (fI l4), some (fI l5), some (fI (fw (l6 + 1))), _], [])) (h' := (156, fjl L, M)) rfl trivial ?_
        rw [fw_id g0]
        exact hC _ _ _ _ (Option.some.inj h).symm
      · replace h := fng c h
        refine Wp.run 5 (f' := (d + 2, 19, 95, 0, 0, [some (fA 47), some (fI l1), some (fI l2), some (fI l3), _, some (fI l5), some (fI l6), _], [fI l2, fI l6, fA 18, fI l4])) (h' := (156, fjl L, M)) rfl trivial ?_
        obtain ⟨y95, hy, h⟩ := fbd h
        refine Wp.call rfl (by decide) (s_X6_leftOf_18_ok (d := d + 1) hy ?_)
        show Wp (d + 2, 19, 98, 0, 0, [some (fA 47), some (fI l1), some (fI l2), some (fI l3), _, some (fI l5), some (fI l6), _], [fI y95, fI l4]) (156, fjl L, M) Q
        obtain ⟨⟨g0, g1, g2⟩, h⟩ := fgd h
        refine Wp.run 5 (f' := (d + 2, 19, 9, 0, 0, [some (fA 47), some (fI l1), some (fI l2), some (fI l3), some (fI (fw (l4 + y95))), some (fI (fw (l5 + 1))), some (fI (fw (l6 + 1))), _], [])) (h' := (156, fjl L, M)) rfl trivial ?_
        rw [fw_id g0, fw_id g1, fw_id g2]
        exact hC _ _ _ _ (Option.some.inj h).symm
theorem s_X1_weighLean_j53_fr {M : fM} {l1 l2 l3 l4 l5 l6 t0 : Int} {r : ((Int × Int × Int) ⊕ (Int × Int))} (h : s_X1_weighLean_j53 M l1 l2 l3 l4 l5 l6 t0 = some r) : fSame s_X1_weighLean_mods M (Sum.elim (fun _ => M) (fun _ => M) r) := by
  unfold s_X1_weighLean_j53 at h
  by_cases c : t0 = 0
  · replace h := fps c h
    replace h := (fgd h).2
    obtain rfl := Option.some.inj h
    exact fs_refl
  · replace h := fng c h
    obtain ⟨y67, hy, h⟩ := fbd h
    by_cases c : y67 = 0
    · replace h := fps c h
      replace h := (fgd h).2
      obtain rfl := Option.some.inj h
      exact fs_refl
    · replace h := fng c h
      obtain ⟨y80, hy, h⟩ := fbd h
      by_cases c : y80 = 0
      · replace h := fps c h
        replace h := (fgd h).2
        obtain rfl := Option.some.inj h
        exact fs_refl
      · replace h := fng c h
        obtain ⟨y95, hy, h⟩ := fbd h
        replace h := (fgd h).2
        obtain rfl := Option.some.inj h
        exact fs_refl
noncomputable def s_X1_weighLean_j52 (M : fM) (l1 l2 l3 l4 l5 l6 : Int) : Option ((Int × Int × Int) ⊕ (Int × Int)) :=
  s_X1_weighLean_j53 M l1 l2 l3 l4 l5 l6 0
theorem s_X1_weighLean_j52_ok {d L : Nat} {M : fM} {l1 l2 l3 l4 l5 l6 : Int} {o7 : Option fV} {r : ((Int × Int × Int) ⊕ (Int × Int))} {Q : fO → fH → Prop} (h : s_X1_weighLean_j52 M l1 l2 l3 l4 l5 l6 = some r) (hC : ∀ (l4' l5' l6' : Int) (o7' : Option fV), r = .inl (l4', l5', l6') → Wp (d + 2, 19, 9, 0, 0, [some (fA 47), some (fI l1), some (fI l2), some (fI l3), some (fI l4'), some (fI l5'), some (fI l6'), o7'], []) (156, fjl L, M) Q) (hE : ∀ (e : (Int × Int)) (o1' o2' o3' o6' o7' : Option fV), r = .inr e → Wp (d + 2, 19, 110, 0, 0, [some (fA 47), o1', o2', o3', some (fI e.1), some (fI e.2), o6', o7'], []) (156, fjl L, M) Q) : Wp (d + 2, 19, 52, 0, 0, [some (fA 47), some (fI l1), some (fI l2), some (fI l3), some (fI l4), some (fI l5), some (fI l6), o7], []) (156, fjl L, M) Q := by
  unfold s_X1_weighLean_j52 at h
  refine Wp.run 1 (f' := (d + 2, 19, 53, 0, 0, [some (fA 47), some (fI l1), some (fI l2), some (fI l3), some (fI l4), some (fI l5), some (fI l6), _], [fI 0])) (h' := (156, fjl L, M)) rfl trivial ?_
  exact s_X1_weighLean_j53_ok h hC hE
theorem s_X1_weighLean_j52_fr {M : fM} {l1 l2 l3 l4 l5 l6 : Int} {r : ((Int × Int × Int) ⊕ (Int × Int))} (h : s_X1_weighLean_j52 M l1 l2 l3 l4 l5 l6 = some r) : fSame s_X1_weighLean_mods M (Sum.elim (fun _ => M) (fun _ => M) r) := by
  unfold s_X1_weighLean_j52 at h
  exact fs_trans fs_refl (s_X1_weighLean_j53_fr h)
noncomputable def s_X1_weighLean_b9 (M : fM) (l1 l2 l3 l4 l5 l6 : Int) : Option ((Int × Int × Int) ⊕ (Int × Int)) :=
  if (M 18 8) ≤ l6 then
    some (.inr (l4, l5))
  else
    if (0 ≤ l6 ∧ l6 < 200) then
      if ¬ (M 19 (l6).toNat) = 0 then
        s_X1_weighLean_j52 M l1 l2 l3 l4 l5 l6
      else
        if (0 ≤ l6 ∧ l6 < 200) then
          if ¬ (M 23 (l6).toNat) = l1 then
            s_X1_weighLean_j52 M l1 l2 l3 l4 l5 l6
          else
            s_X1_weighLean_j53 M l1 l2 l3 l4 l5 l6 1
        else none
    else none
theorem s_X1_weighLean_b9_ok {d L : Nat} {M : fM} {l1 l2 l3 l4 l5 l6 : Int} {o7 : Option fV} {r : ((Int × Int × Int) ⊕ (Int × Int))} {Q : fO → fH → Prop} (h : s_X1_weighLean_b9 M l1 l2 l3 l4 l5 l6 = some r) (hC : ∀ (l4' l5' l6' : Int) (o7' : Option fV), r = .inl (l4', l5', l6') → Wp (d + 2, 19, 9, 0, 0, [some (fA 47), some (fI l1), some (fI l2), some (fI l3), some (fI l4'), some (fI l5'), some (fI l6'), o7'], []) (156, fjl L, M) Q) (hE : ∀ (e : (Int × Int)) (o1' o2' o3' o6' o7' : Option fV), r = .inr e → Wp (d + 2, 19, 110, 0, 0, [some (fA 47), o1', o2', o3', some (fI e.1), some (fI e.2), o6', o7'], []) (156, fjl L, M) Q) : Wp (d + 2, 19, 9, 0, 0, [some (fA 47), some (fI l1), some (fI l2), some (fI l3), some (fI l4), some (fI l5), some (fI l6), o7], []) (156, fjl L, M) Q := by
  unfold s_X1_weighLean_b9 at h
  refine Wp.run 4 (f' := (d + 2, 19, 18, 0, 0, [some (fA 47), some (fI l1), some (fI l2), some (fI l3), some (fI l4), some (fI l5), some (fI l6), _], [fI (M 18 8), fI l6])) (h' := (156, fjl L, M)) rfl trivial ?_
  refine Wp.br rfl (fun (c : (M 18 8) ≤ l6) => ?_) (fun (c : ¬ ((M 18 8) ≤ l6)) => ?_)
  · replace h := fps c h
    exact hE _ _ _ _ _ _ (Option.some.inj h).symm
  · replace h := fng c h
    obtain ⟨g0, h⟩ := fgd h
    refine Wp.run 5 (P := [0 ≤ l6 ∧ l6 < 200]) (f' := (d + 2, 19, 31, 0, 0, [some (fA 47), some (fI l1), some (fI l2), some (fI l3), some (fI l4), some (fI l5), some (fI l6), _], [fI (M 19 (l6).toNat)])) (h' := (156, fjl L, M)) rfl ?_ ?_
    · exact g0
    refine Wp.br rfl (fun (c : ¬ (M 19 (l6).toNat) = 0) => ?_) (fun (c : ¬ (¬ (M 19 (l6).toNat) = 0)) => ?_)
    · replace h := fps c h
      exact s_X1_weighLean_j52_ok h hC hE
    · replace h := fng c h
      obtain ⟨g0, h⟩ := fgd h
      refine Wp.run 6 (P := [0 ≤ l6 ∧ l6 < 200]) (f' := (d + 2, 19, 45, 0, 0, [some (fA 47), some (fI l1), some (fI l2), some (fI l3), some (fI l4), some (fI l5), some (fI l6), _], [fI l1, fI (M 23 (l6).toNat)])) (h' := (156, fjl L, M)) rfl ?_ ?_
      · exact g0
      refine Wp.br rfl (fun (c : ¬ (M 23 (l6).toNat) = l1) => ?_) (fun (c : ¬ (¬ (M 23 (l6).toNat) = l1)) => ?_)
      · replace h := fps c h
        exact s_X1_weighLean_j52_ok h hC hE
      · replace h := fng c h
        refine Wp.run 2 (f' := (d + 2, 19, 53, 0, 0, [some (fA 47), some (fI l1), some (fI l2), some (fI l3), some (fI l4), some (fI l5), some (fI l6), _], [fI 1])) (h' := (156, fjl L, M)) rfl trivial ?_
        exact s_X1_weighLean_j53_ok h hC hE
theorem s_X1_weighLean_b9_fr {M : fM} {l1 l2 l3 l4 l5 l6 : Int} {r : ((Int × Int × Int) ⊕ (Int × Int))} (h : s_X1_weighLean_b9 M l1 l2 l3 l4 l5 l6 = some r) : fSame s_X1_weighLean_mods M (Sum.elim (fun _ => M) (fun _ => M) r) := by
  unfold s_X1_weighLean_b9 at h
  by_cases c : (M 18 8) ≤ l6
  · replace h := fps c h
    obtain rfl := Option.some.inj h
    exact fs_refl
  · replace h := fng c h
    replace h := (fgd h).2
    by_cases c : ¬ (M 19 (l6).toNat) = 0
    · replace h := fps c h
      exact fs_trans fs_refl (s_X1_weighLean_j52_fr h)
    · replace h := fng c h
      replace h := (fgd h).2
      by_cases c : ¬ (M 23 (l6).toNat) = l1
      · replace h := fps c h
        exact fs_trans fs_refl (s_X1_weighLean_j52_fr h)
      · replace h := fng c h
        exact fs_trans fs_refl (s_X1_weighLean_j53_fr h)
noncomputable def s_X1_weighLean_l9 (M : fM) (l1 l2 l3 : Int) (s : (Int × Int × Int)) : Option (Int × Int) := fLp (fun s => s_X1_weighLean_b9 M l1 l2 l3 s.1 s.2.1 s.2.2) s
theorem s_X1_weighLean_l9_ok {d L : Nat} {M : fM} {l1 l2 l3 l4 l5 l6 : Int} {o7 : Option fV} {r : (Int × Int)} {Q : fO → fH → Prop} (h : s_X1_weighLean_l9 M l1 l2 l3 (l4, l5, l6) = some r) (hE : ∀ (e : (Int × Int)) (o1' o2' o3' o6' o7' : Option fV), r = e → Wp (d + 2, 19, 110, 0, 0, [some (fA 47), o1', o2', o3', some (fI e.1), some (fI e.2), o6', o7'], []) (156, fjl L, M) Q) : Wp (d + 2, 19, 9, 0, 0, [some (fA 47), some (fI l1), some (fI l2), some (fI l3), some (fI l4), some (fI l5), some (fI l6), o7], []) (156, fjl L, M) Q := by
  refine fLp_wp (W := fun s => ∀ (o7 : Option fV), Wp (d + 2, 19, 9, 0, 0, [some (fA 47), some (fI l1), some (fI l2), some (fI l3), some (fI s.1), some (fI s.2.1), some (fI s.2.2), o7], []) (156, fjl L, M) Q) (e := r) ?_ h _
  intro s r1 h hC hX o7
  refine s_X1_weighLean_b9_ok (d := d) h (fun a0 a1 a2 _ e1 => ?_) (fun e u0 u1 u2 u3 u4 e1 => hE e u0 u1 u2 u3 u4 (hX _ e1).symm)
  exact hC _ e1 _
noncomputable def s_X1_weighLean (M : fM) (l1 l2 l3 : Int) : Option (Int × fM) :=
  (s_X1_weighLean_l9 M l1 l2 l3 (0, 0, 0)).bind fun e9 =>
    if ¬ e9.2 = 0 then
      (s_X1_keepLeast M e9.1 e9.2).bind fun y124 =>
        some (1, y124.2)
    else
      some (0, M)
theorem s_X1_weighLean_ok {d L : Nat} {M : fM} {l1 l2 l3 : Int} {r : (Int × fM)} {Q : fO → fH → Prop} (h : s_X1_weighLean M l1 l2 l3 = some r) (H : Q (oI r.1) (156, fjl L, r.2)) : Wp (d + 2, 19, 0, 0, 0, [some (fA 47), some (fI l1), some (fI l2), some (fI l3), none, none, none, none], []) (156, fjl L, M) Q := by
  unfold s_X1_weighLean at h
  refine Wp.run 6 (f' := (d + 2, 19, 9, 0, 0, [some (fA 47), some (fI l1), some (fI l2), some (fI l3), some (fI 0), some (fI 0), some (fI 0), _], [])) (h' := (156, fjl L, M)) rfl trivial ?_
  obtain ⟨e9, hy, h⟩ := fbd h
  refine s_X1_weighLean_l9_ok hy (fun x u1 u2 u3 u6 u7 ex => ?_)
  cases ex
  show Wp (d + 2, 19, 110, 0, 0, [some (fA 47), u1, u2, u3, some (fI e9.1), some (fI e9.2), u6, u7], []) (156, fjl L, M) Q
  refine Wp.run 1 (f' := (d + 2, 19, 112, 0, 0, [some (fA 47), _, _, _, some (fI e9.1), some (fI e9.2), _, _], [fI e9.2])) (h' := (156, fjl L, M)) rfl trivial ?_
  refine Wp.br rfl (fun (c : ¬ e9.2 = 0) => ?_) (fun (c : ¬ (¬ e9.2 = 0)) => ?_)
  · replace h := fps c h
    refine Wp.run 5 (f' := (d + 2, 19, 124, 0, 0, [_, _, _, _, _, _, _, _], [fJ e9.2, fJ e9.1, fA 47])) (h' := (156, fjl L, M)) rfl trivial ?_
    obtain ⟨y124, hy, h⟩ := fbd h
    refine Wp.call rfl (by decide) (s_X1_keepLeast_ok (d := d + 0) hy ?_)
    show Wp (d + 2, 19, 127, 0, 0, [_, _, _, _, _, _, _, _], []) (156, fjl L, y124.2) Q
    refine Wp.run 1 (f' := (d + 2, 19, 128, 0, 0, [_, _, _, _, _, _, _, _], [fI 1])) (h' := (156, fjl L, y124.2)) rfl trivial ?_
    obtain rfl := Option.some.inj h
    exact Wp.done rfl (by decide) H
  · replace h := fng c h
    refine Wp.run 1 (f' := (d + 2, 19, 116, 0, 0, [_, _, _, _, _, _, _, _], [fI 0])) (h' := (156, fjl L, M)) rfl trivial ?_
    obtain rfl := Option.some.inj h
    exact Wp.done rfl (by decide) H
theorem s_X1_weighLean_fr {M : fM} {l1 l2 l3 : Int} {r : (Int × fM)} (h : s_X1_weighLean M l1 l2 l3 = some r) : fSame s_X1_weighLean_mods M r.2 := by
  unfold s_X1_weighLean at h
  obtain ⟨e9, hy, h⟩ := fbd h
  by_cases c : ¬ e9.2 = 0
  · replace h := fps c h
    obtain ⟨y124, hy, h⟩ := fbd h
    have k124 := fs_trans (l := s_X1_weighLean_mods) fs_refl (fs_mono (l := s_X1_keepLeast_mods) (by decide) (s_X1_keepLeast_fr hy))
    obtain rfl := Option.some.inj h
    exact k124
  · replace h := fng c h
    obtain rfl := Option.some.inj h
    exact fs_refl
abbrev s_X11_lean_mods : List (Nat × Option Nat) := [(47, some 9), (47, some 10)]
noncomputable def s_X11_lean (M : fM) (l1 l2 l3 l4 : Int) : Option ((Int ⊕ Unit) × fM) :=
  (s_X2_hasTuner_4 M l1).bind fun y5 =>
    if y5 = 0 then
      some (.inr (), M)
    else
      (s_X11_isWithin M l2 12).bind fun y14 =>
        if y14 = 0 then
          some (.inr (), M)
        else
          (s_X11_isKnowing M l3).bind fun y21 =>
            if y21 = 0 then
              some (.inr (), M)
            else
              (s_X11_isWithin M l4 2).bind fun y30 =>
                if ¬ y30 = 0 then
                  (s_X1_weighLean M l1 l2 l3).bind fun y51 =>
                    if ¬ y51.1 = 0 then
                      if ¬ l4 = 0 then
                        if fin (y51.2 47 10) then
                          some (.inl (y51.2 47 10), y51.2)
                        else none
                      else
                        if fin (y51.2 47 9) then
                          some (.inl (y51.2 47 9), y51.2)
                        else none
                    else
                      some (.inr (), y51.2)
                else
                  some (.inr (), M)
theorem s_X11_lean_ok {d L : Nat} {M : fM} {l1 l2 l3 l4 : Int} {r : ((Int ⊕ Unit) × fM)} {Q : fO → fH → Prop} (h : s_X11_lean M l1 l2 l3 l4 = some r) (H : Q (oT oI 0 r.1) (156, fjl L, r.2)) : Wp (d + 7, 166, 0, 0, 0, [some (fA 0), some (fI l1), some (fI l2), some (fI l3), some (fI l4)], []) (156, fjl L, M) Q := by
  unfold s_X11_lean at h
  refine Wp.run 3 (f' := (d + 7, 166, 5, 0, 0, [some (fA 0), some (fI l1), some (fI l2), some (fI l3), some (fI l4)], [fI l1, fA 4])) (h' := (156, fjl L, M)) rfl trivial ?_
  obtain ⟨y5, hy, h⟩ := fbd h
  refine Wp.call rfl (by decide) (s_X2_hasTuner_4_ok (d := d + 6) hy ?_)
  show Wp (d + 7, 166, 8, 0, 0, [some (fA 0), some (fI l1), some (fI l2), some (fI l3), some (fI l4)], [fI y5]) (156, fjl L, M) Q
  refine Wp.br rfl (fun (c : y5 = 0) => ?_) (fun (c : ¬ (y5 = 0)) => ?_)
  · replace h := fps c h
    obtain rfl := Option.some.inj h
    exact Wp.done rfl ⟨Nat.le_add_left_of_le (by decide), rfl, rfl⟩ H
  · replace h := fng c h
    refine Wp.run 2 (f' := (d + 7, 166, 14, 0, 0, [some (fA 0), some (fI l1), some (fI l2), some (fI l3), some (fI l4)], [fI 12, fI l2])) (h' := (156, fjl L, M)) rfl trivial ?_
    obtain ⟨y14, hy, h⟩ := fbd h
    refine Wp.call rfl (by decide) (s_X11_isWithin_ok (d := d + 6) hy ?_)
    show Wp (d + 7, 166, 17, 0, 0, [some (fA 0), some (fI l1), some (fI l2), some (fI l3), some (fI l4)], [fI y14]) (156, fjl L, M) Q
    refine Wp.br rfl (fun (c : y14 = 0) => ?_) (fun (c : ¬ (y14 = 0)) => ?_)
    · replace h := fps c h
      obtain rfl := Option.some.inj h
      exact Wp.done rfl ⟨Nat.le_add_left_of_le (by decide), rfl, rfl⟩ H
    · replace h := fng c h
      refine Wp.run 1 (f' := (d + 7, 166, 21, 0, 0, [some (fA 0), some (fI l1), some (fI l2), some (fI l3), some (fI l4)], [fI l3])) (h' := (156, fjl L, M)) rfl trivial ?_
      obtain ⟨y21, hy, h⟩ := fbd h
      refine Wp.call rfl (by decide) (s_X11_isKnowing_ok (d := d + 5) hy ?_)
      show Wp (d + 7, 166, 24, 0, 0, [some (fA 0), some (fI l1), some (fI l2), some (fI l3), some (fI l4)], [fI y21]) (156, fjl L, M) Q
      refine Wp.br rfl (fun (c : y21 = 0) => ?_) (fun (c : ¬ (y21 = 0)) => ?_)
      · replace h := fps c h
        obtain rfl := Option.some.inj h
        exact Wp.done rfl ⟨Nat.le_add_left_of_le (by decide), rfl, rfl⟩ H
      · replace h := fng c h
        refine Wp.run 2 (f' := (d + 7, 166, 30, 0, 0, [some (fA 0), some (fI l1), some (fI l2), some (fI l3), some (fI l4)], [fI 2, fI l4])) (h' := (156, fjl L, M)) rfl trivial ?_
        obtain ⟨y30, hy, h⟩ := fbd h
        refine Wp.call rfl (by decide) (s_X11_isWithin_ok (d := d + 6) hy ?_)
        show Wp (d + 7, 166, 33, 0, 0, [some (fA 0), some (fI l1), some (fI l2), some (fI l3), some (fI l4)], [fI y30]) (156, fjl L, M) Q
        refine Wp.br rfl (fun (c : ¬ y30 = 0) => ?_) (fun (c : ¬ (¬ y30 = 0)) => ?_)
        · replace h := fps c h
          refine Wp.run 5 (f' := (d + 7, 166, 51, 0, 0, [some (fA 0), _, _, _, some (fI l4)], [fI l3, fI l2, fI l1, fA 47])) (h' := (156, fjl L, M)) rfl trivial ?_
          obtain ⟨y51, hy, h⟩ := fbd h
          refine Wp.call rfl (by decide) (s_X1_weighLean_ok (d := d + 4) hy ?_)
          show Wp (d + 7, 166, 54, 0, 0, [some (fA 0), _, _, _, some (fI l4)], [fI y51.1]) (156, fjl L, y51.2) Q
          refine Wp.br rfl (fun (c : ¬ y51.1 = 0) => ?_) (fun (c : ¬ (¬ y51.1 = 0)) => ?_)
          · replace h := fps c h
            refine Wp.run 1 (f' := (d + 7, 166, 67, 0, 0, [some (fA 0), _, _, _, _], [fI l4])) (h' := (156, fjl L, y51.2)) rfl trivial ?_
            refine Wp.br rfl (fun (c : ¬ l4 = 0) => ?_) (fun (c : ¬ (¬ l4 = 0)) => ?_)
            · replace h := fps c h
              obtain ⟨g0, h⟩ := fgd h
              refine Wp.run 4 (f' := (d + 7, 166, 88, 0, 0, [_, _, _, _, _], [fI (fw (y51.2 47 10))])) (h' := (156, fjl L, y51.2)) rfl trivial ?_
              rw [fw_id g0]
              obtain rfl := Option.some.inj h
              exact Wp.done rfl (by decide) H
            · replace h := fng c h
              obtain ⟨g0, h⟩ := fgd h
              refine Wp.run 5 (f' := (d + 7, 166, 88, 0, 0, [_, _, _, _, _], [fI (fw (y51.2 47 9))])) (h' := (156, fjl L, y51.2)) rfl trivial ?_
              rw [fw_id g0]
              obtain rfl := Option.some.inj h
              exact Wp.done rfl (by decide) H
          · replace h := fng c h
            obtain rfl := Option.some.inj h
            exact Wp.done rfl ⟨Nat.le_add_left_of_le (by decide), rfl, rfl⟩ H
        · replace h := fng c h
          obtain rfl := Option.some.inj h
          exact Wp.done rfl ⟨Nat.le_add_left_of_le (by decide), rfl, rfl⟩ H
theorem s_X11_lean_fr {M : fM} {l1 l2 l3 l4 : Int} {r : ((Int ⊕ Unit) × fM)} (h : s_X11_lean M l1 l2 l3 l4 = some r) : fSame s_X11_lean_mods M r.2 := by
  unfold s_X11_lean at h
  obtain ⟨y5, hy, h⟩ := fbd h
  by_cases c : y5 = 0
  · replace h := fps c h
    obtain rfl := Option.some.inj h
    exact fs_refl
  · replace h := fng c h
    obtain ⟨y14, hy, h⟩ := fbd h
    by_cases c : y14 = 0
    · replace h := fps c h
      obtain rfl := Option.some.inj h
      exact fs_refl
    · replace h := fng c h
      obtain ⟨y21, hy, h⟩ := fbd h
      by_cases c : y21 = 0
      · replace h := fps c h
        obtain rfl := Option.some.inj h
        exact fs_refl
      · replace h := fng c h
        obtain ⟨y30, hy, h⟩ := fbd h
        by_cases c : ¬ y30 = 0
        · replace h := fps c h
          obtain ⟨y51, hy, h⟩ := fbd h
          have k51 := fs_trans (l := s_X11_lean_mods) fs_refl (fs_mono (l := s_X1_weighLean_mods) (by decide) (s_X1_weighLean_fr hy))
          by_cases c : ¬ y51.1 = 0
          · replace h := fps c h
            by_cases c : ¬ l4 = 0
            · replace h := fps c h
              replace h := (fgd h).2
              obtain rfl := Option.some.inj h
              exact k51
            · replace h := fng c h
              replace h := (fgd h).2
              obtain rfl := Option.some.inj h
              exact k51
          · replace h := fng c h
            obtain rfl := Option.some.inj h
            exact k51
        · replace h := fng c h
          obtain rfl := Option.some.inj h
          exact fs_refl
abbrev s_L_lean_0_155_mods : List (Nat × Option Nat) := [(47, some 9), (47, some 10), (155, none)]
noncomputable def s_L_lean_0_155 (M : fM) (l1 l2 l3 l4 : Int) : Option (Int × fM) :=
  (s_X11_lean M l1 l2 l3 l4).bind fun y9 =>
    fel y9.1
      (fun w9 =>
        some (0, (fup y9.2 155 0 w9)))
      (some (1, y9.2))
theorem s_L_lean_0_155_ok {d L : Nat} {M : fM} {l1 l2 l3 l4 : Int} {r : (Int × fM)} {Q : fO → fH → Prop} (h : s_L_lean_0_155 M l1 l2 l3 l4 = some r) (H : Q (oI r.1) (156, fjl L, r.2)) : Wp (d + 8, 320, 0, 0, 0, [some (fA 0), some (fI l1), some (fI l2), some (fI l3), some (fI l4), some (fA 155), none], []) (156, fjl L, M) Q := by
  unfold s_L_lean_0_155 at h
  refine Wp.run 7 (f' := (d + 8, 320, 9, 0, 0, [_, _, _, _, _, _, _], [fI l4, fI l3, fI l2, fI l1, fA 0, fI 0, fA 155])) (h' := (156, fjl L, M)) rfl trivial ?_
  obtain ⟨y9, hy, h⟩ := fbd h
  refine Wp.call rfl (by decide) (s_X11_lean_ok (d := d + 0) hy ?_)
  obtain ⟨w9, ew, h⟩ | ⟨ew, h⟩ := fel_of h
  · rw [ew]
    show Wp (d + 8, 320, 12, 0, 0, [_, _, _, _, _, _, _], [fI w9, fI 0, fA 155]) (156, fjl L, y9.2) Q
    refine Wp.run 4 (P := [(0 : Int) ≤ 0 ∧ (0 : Int) < 1]) (f' := (d + 8, 320, 22, 0, 0, [_, _, _, _, _, _, _], [fI 0])) (h' := (156, fjl L, (fup y9.2 155 0 w9))) rfl ?_ ?_
    · exact (by decide : (0 : Int) ≤ 0 ∧ (0 : Int) < 1)
    obtain rfl := Option.some.inj h
    exact Wp.done rfl (by decide) H
  · rw [ew]
    refine ⟨⟨rfl, by decide, by decide⟩, ?_⟩
    show Wp (d + 8, 320, 17, 1, 6, [_, _, _, _, _, _, _], [fA 9999]) (156, fjl L, y9.2) Q
    refine Wp.run 2 (f' := (d + 8, 320, 20, 1, 6, [_, _, _, _, _, _, _], [fI 1])) (h' := (156, fjl L, y9.2)) rfl trivial ?_
    obtain rfl := Option.some.inj h
    exact Wp.done rfl (by decide) H
theorem s_L_lean_0_155_fr {M : fM} {l1 l2 l3 l4 : Int} {r : (Int × fM)} (h : s_L_lean_0_155 M l1 l2 l3 l4 = some r) : fSame s_L_lean_0_155_mods M r.2 := by
  unfold s_L_lean_0_155 at h
  obtain ⟨y9, hy, h⟩ := fbd h
  have k9 := fs_trans (l := s_L_lean_0_155_mods) fs_refl (fs_mono (l := s_X11_lean_mods) (by decide) (s_X11_lean_fr hy))
  obtain ⟨w9, ew, h⟩ | ⟨ew, h⟩ := fel_of h
  · obtain rfl := Option.some.inj h
    exact fs_up k9 (.inl (by decide))
  · obtain rfl := Option.some.inj h
    exact k9
noncomputable def s_X12_isTuner (M : fM) (l1 : Int) : Option Int :=
  if fin ((M 124 173) - 1) then
    (s_X12_isIn M l1 0 ((M 124 173) - 1)).bind fun y12 =>
      if b01 y12 then
        some y12
      else none
  else none
theorem s_X12_isTuner_ok {d L : Nat} {M : fM} {l1 : Int} {r : Int} {Q : fO → fH → Prop} (h : s_X12_isTuner M l1 = some r) (H : Q (oI r) (156, fjl L, M)) : Wp (d + 1, 241, 0, 0, 0, [some (fA 122), some (fI l1)], []) (156, fjl L, M) Q := by
  unfold s_X12_isTuner at h
  obtain ⟨g0, h⟩ := fgd h
  refine Wp.run 8 (P := [(0 : Int) ≤ 173 ∧ (173 : Int) < 1290]) (f' := (d + 1, 241, 12, 0, 0, [_, _], [fI (fw ((M 124 173) - 1)), fI 0, fI l1])) (h' := (156, fjl L, M)) rfl ?_ ?_
  · exact (by decide : (0 : Int) ≤ 173 ∧ (173 : Int) < 1290)
  rw [fw_id g0]
  obtain ⟨y12, hy, h⟩ := fbd h
  refine Wp.call rfl (by decide) (s_X12_isIn_ok (d := d + 0) hy ?_)
  show Wp (d + 1, 241, 15, 0, 0, [_, _], [fI y12]) (156, fjl L, M) Q
  obtain ⟨g0, h⟩ := fgd h
  obtain rfl := Option.some.inj h
  exact Wp.done rfl ⟨g0, by decide, by decide, by decide⟩ H
