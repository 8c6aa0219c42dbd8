/-! ===== functions of the methods (printed by genfun.py) ===== -/
abbrev s_X12_more_mods : List (Nat × Option Nat) := [(122, some 4), (122, some 11), (122, some 12), (122, some 13), (122, some 14), (122, some 15), (122, some 16), (122, some 17), (122, some 18), (124, none)]
noncomputable def s_X12_more_j304 (M : fM) (l1 l2 l3 l5 l6 l7 l8 t0 t1 : Int) : Option ((Int × Int × Int × Int × fM) ⊕ (fM ⊕ (Int × fM))) :=
  if l7 = 0 then
    some (.inl (l3, (fior t0 t1), (fior l5 (fshl 1 l8)), l6, M))
  else
    some (.inl (l3, (fior t0 t1), (fior l5 0), l6, M))
theorem s_X12_more_j304_ok {d L : Nat} {M : fM} {l1 l2 l3 l5 l6 l7 l8 t0 t1 : Int} {o4 : Option fV} {r : ((Int × Int × Int × Int × fM) ⊕ (fM ⊕ (Int × fM)))} {Q : fO → fH → Prop} (h : s_X12_more_j304 M l1 l2 l3 l5 l6 l7 l8 t0 t1 = some r) (hC : ∀ (l3' l4' l5' l6' : Int) (M' : fM) (o7' o8' : Option fV), r = .inl (l3', l4', l5', l6', M') → Wp (d + 4, 229, 20, 0, 0, [some (fA 122), some (fI l1), some (fI l2), some (fI l3'), some (fI l4'), some (fI l5'), some (fI l6'), o7', o8'], []) (156, fjl L, M') Q) (hE : ∀ (e : fM) (o0' o1' o2' o3' o4' o5' o6' o7' o8' : Option fV), r = .inr (.inl e) → Wp (d + 4, 229, 334, 0, 0, [o0', o1', o2', o3', o4', o5', o6', o7', o8'], []) (156, fjl L, e) Q) (hR : ∀ (v : (Int × fM)), r = .inr (.inr v) → Q (oI v.1) (156, fjl L, v.2)) : Wp (d + 4, 229, 304, 0, 0, [some (fA 122), some (fI l1), some (fI l2), some (fI l3), o4, some (fI l5), some (fI l6), some (fI l7), some (fI l8)], [fI t1, fI t0]) (156, fjl L, M) Q := by
  unfold s_X12_more_j304 at h
  refine Wp.run 4 (f' := (d + 4, 229, 311, 0, 0, [some (fA 122), some (fI l1), some (fI l2), some (fI l3), some (fI (fior t0 t1)), _, some (fI l6), _, some (fI l8)], [fI l7, fI l5])) (h' := (156, fjl L, M)) rfl trivial ?_
  refine Wp.br rfl (fun (c : l7 = 0) => ?_) (fun (c : ¬ (l7 = 0)) => ?_)
  · replace h := fps c h
    refine Wp.run 6 (f' := (d + 4, 229, 20, 0, 0, [some (fA 122), some (fI l1), some (fI l2), some (fI l3), some (fI (fior t0 t1)), some (fI (fior l5 (fshl 1 l8))), some (fI l6), _, _], [])) (h' := (156, fjl L, M)) rfl trivial ?_
    exact hC _ _ _ _ _ _ _ (Option.some.inj h).symm
  · replace h := fng c h
    refine Wp.run 5 (f' := (d + 4, 229, 20, 0, 0, [some (fA 122), some (fI l1), some (fI l2), some (fI l3), some (fI (fior t0 t1)), some (fI (fior l5 0)), some (fI l6), _, _], [])) (h' := (156, fjl L, M)) rfl trivial ?_
    exact hC _ _ _ _ _ _ _ (Option.some.inj h).symm
theorem s_X12_more_j304_fr {M : fM} {l1 l2 l3 l5 l6 l7 l8 t0 t1 : Int} {r : ((Int × Int × Int × Int × fM) ⊕ (fM ⊕ (Int × fM)))} (h : s_X12_more_j304 M l1 l2 l3 l5 l6 l7 l8 t0 t1 = some r) : fSame s_X12_more_mods M (Sum.elim (fun s => s.2.2.2.2) (Sum.elim (fun e => e) (fun v => v.2)) r) := by
  unfold s_X12_more_j304 at h
  by_cases c : l7 = 0
  · replace h := fps c h
    obtain rfl := Option.some.inj h
    exact fs_refl
  · replace h := fng c h
    obtain rfl := Option.some.inj h
    exact fs_refl
noncomputable def s_X12_more_j280 (M : fM) (l1 l2 l3 l4 l5 l6 l7 l8 t1 t2 : Int) : Option ((Int × Int × Int × Int × fM) ⊕ (fM ⊕ (Int × fM))) :=
  if fin (t1 + t2) ∧ fin ((t1 + t2) + l8) ∧ (0 ≤ ((t1 + t2) + l8) ∧ ((t1 + t2) + l8) < 1290) then
    if l7 = 0 then
      s_X12_more_j304 (fup M 124 ((t1 + t2) + l8).toNat (M 122 18)) l1 l2 l3 l5 l6 l7 l8 l4 0
    else
      s_X12_more_j304 (fup M 124 ((t1 + t2) + l8).toNat (M 122 18)) l1 l2 l3 l5 l6 l7 l8 l4 (fshl 1 l8)
  else none
theorem s_X12_more_j280_ok {d L : Nat} {M : fM} {l1 l2 l3 l4 l5 l6 l7 l8 t1 t2 : Int} {r : ((Int × Int × Int × Int × fM) ⊕ (fM ⊕ (Int × fM)))} {Q : fO → fH → Prop} (h : s_X12_more_j280 M l1 l2 l3 l4 l5 l6 l7 l8 t1 t2 = some r) (hC : ∀ (l3' l4' l5' l6' : Int) (M' : fM) (o7' o8' : Option fV), r = .inl (l3', l4', l5', l6', M') → Wp (d + 4, 229, 20, 0, 0, [some (fA 122), some (fI l1), some (fI l2), some (fI l3'), some (fI l4'), some (fI l5'), some (fI l6'), o7', o8'], []) (156, fjl L, M') Q) (hE : ∀ (e : fM) (o0' o1' o2' o3' o4' o5' o6' o7' o8' : Option fV), r = .inr (.inl e) → Wp (d + 4, 229, 334, 0, 0, [o0', o1', o2', o3', o4', o5', o6', o7', o8'], []) (156, fjl L, e) Q) (hR : ∀ (v : (Int × fM)), r = .inr (.inr v) → Q (oI v.1) (156, fjl L, v.2)) : Wp (d + 4, 229, 280, 0, 0, [some (fA 122), some (fI l1), some (fI l2), some (fI l3), some (fI l4), some (fI l5), some (fI l6), some (fI l7), some (fI l8)], [fI t2, fI t1, fA 124]) (156, fjl L, M) Q := by
  unfold s_X12_more_j280 at h
  obtain ⟨⟨g0, g1, g2⟩, h⟩ := fgd h
  refine Wp.run 8 (P := [0 ≤ (fw ((fw (t1 + t2)) + l8)) ∧ (fw ((fw (t1 + t2)) + l8)) < 1290]) (f' := (d + 4, 229, 293, 0, 0, [some (fA 122), some (fI l1), some (fI l2), some (fI l3), _, some (fI l5), some (fI l6), some (fI l7), some (fI l8)], [fI l7, fI l4])) (h' := (156, fjl L, (fup M 124 (fw ((fw (t1 + t2)) + l8)).toNat (M 122 18)))) rfl ?_ ?_
  · rw [fw_id g0, fw_id g1]; exact g2
  rw [fw_id g0, fw_id g1]
  refine Wp.br rfl (fun (c : l7 = 0) => ?_) (fun (c : ¬ (l7 = 0)) => ?_)
  · replace h := fps c h
    refine Wp.run 1 (f' := (d + 4, 229, 304, 0, 0, [some (fA 122), some (fI l1), some (fI l2), some (fI l3), _, some (fI l5), some (fI l6), some (fI l7), some (fI l8)], [fI 0, fI l4])) (h' := (156, fjl L, (fup M 124 ((t1 + t2) + l8).toNat (M 122 18)))) rfl trivial ?_
    exact s_X12_more_j304_ok h hC hE hR
  · replace h := fng c h
    refine Wp.run 4 (f' := (d + 4, 229, 304, 0, 0, [some (fA 122), some (fI l1), some (fI l2), some (fI l3), _, some (fI l5), some (fI l6), some (fI l7), some (fI l8)], [fI (fshl 1 l8), fI l4])) (h' := (156, fjl L, (fup M 124 ((t1 + t2) + l8).toNat (M 122 18)))) rfl trivial ?_
    exact s_X12_more_j304_ok h hC hE hR
theorem s_X12_more_j280_fr {M : fM} {l1 l2 l3 l4 l5 l6 l7 l8 t1 t2 : Int} {r : ((Int × Int × Int × Int × fM) ⊕ (fM ⊕ (Int × fM)))} (h : s_X12_more_j280 M l1 l2 l3 l4 l5 l6 l7 l8 t1 t2 = some r) : fSame s_X12_more_mods M (Sum.elim (fun s => s.2.2.2.2) (Sum.elim (fun e => e) (fun v => v.2)) r) := by
  unfold s_X12_more_j280 at h
  replace h := (fgd h).2
  by_cases c : l7 = 0
  · replace h := fps c h
    exact fs_trans (fs_up fs_refl (.inl (by decide))) (s_X12_more_j304_fr h)
  · replace h := fng c h
    exact fs_trans (fs_up fs_refl (.inl (by decide))) (s_X12_more_j304_fr h)
noncomputable def s_X12_more_j242 (M : fM) (l1 l2 l3 l4 l5 l6 l7 l8 t1 t2 : Int) : Option ((Int × Int × Int × Int × fM) ⊕ (fM ⊕ (Int × fM))) :=
  (s_X12_takes M t1 t2).bind fun y242 =>
    if ¬ y242.1 = 0 then
      if l7 = 0 then
        if fin (4 * l1) ∧ fin (527 + (4 * l1)) then
          s_X12_more_j280 y242.2 l1 l2 l3 l4 l5 l6 l7 l8 645 (527 + (4 * l1))
        else none
      else
        if fin (12 * l1) ∧ fin (335 + (12 * l1)) then
          s_X12_more_j280 y242.2 l1 l2 l3 l4 l5 l6 l7 l8 645 (335 + (12 * l1))
        else none
    else
      some (.inr (.inr (0, y242.2)))
theorem s_X12_more_j242_ok {d L : Nat} {M : fM} {l1 l2 l3 l4 l5 l6 l7 l8 t1 t2 : Int} {r : ((Int × Int × Int × Int × fM) ⊕ (fM ⊕ (Int × fM)))} {Q : fO → fH → Prop} (h : s_X12_more_j242 M l1 l2 l3 l4 l5 l6 l7 l8 t1 t2 = some r) (hC : ∀ (l3' l4' l5' l6' : Int) (M' : fM) (o7' o8' : Option fV), r = .inl (l3', l4', l5', l6', M') → Wp (d + 4, 229, 20, 0, 0, [some (fA 122), some (fI l1), some (fI l2), some (fI l3'), some (fI l4'), some (fI l5'), some (fI l6'), o7', o8'], []) (156, fjl L, M') Q) (hE : ∀ (e : fM) (o0' o1' o2' o3' o4' o5' o6' o7' o8' : Option fV), r = .inr (.inl e) → Wp (d + 4, 229, 334, 0, 0, [o0', o1', o2', o3', o4', o5', o6', o7', o8'], []) (156, fjl L, e) Q) (hR : ∀ (v : (Int × fM)), r = .inr (.inr v) → Q (oI v.1) (156, fjl L, v.2)) : Wp (d + 4, 229, 242, 0, 0, [some (fA 122), some (fI l1), some (fI l2), some (fI l3), some (fI l4), some (fI l5), some (fI l6), some (fI l7), some (fI l8)], [fI t2, fI t1, fA 122]) (156, fjl L, M) Q := by
  unfold s_X12_more_j242 at h
  obtain ⟨y242, hy, h⟩ := fbd h
  refine Wp.call rfl (by decide) (s_X12_takes_ok (d := d + 1) hy ?_)
  show Wp (d + 4, 229, 245, 0, 0, [some (fA 122), some (fI l1), some (fI l2), some (fI l3), some (fI l4), some (fI l5), some (fI l6), some (fI l7), some (fI l8)], [fI y242.1]) (156, fjl L, y242.2) Q
  refine Wp.br rfl (fun (c : ¬ y242.1 = 0) => ?_) (fun (c : ¬ (¬ y242.1 = 0)) => ?_)
  · replace h := fps c h
    refine Wp.run 4 (f' := (d + 4, 229, 259, 0, 0, [some (fA 122), some (fI l1), some (fI l2), some (fI l3), some (fI l4), some (fI l5), some (fI l6), some (fI l7), some (fI l8)], [fI l7, fI 645, fA 124])) (h' := (156, fjl L, y242.2)) rfl trivial ?_
    refine Wp.br rfl (fun (c : l7 = 0) => ?_) (fun (c : ¬ (l7 = 0)) => ?_)
    · replace h := fps c h
      obtain ⟨⟨g0, g1⟩, h⟩ := fgd h
      refine Wp.run 5 (f' := (d + 4, 229, 280, 0, 0, [some (fA 122), some (fI l1), some (fI l2), some (fI l3), some (fI l4), some (fI l5), some (fI l6), some (fI l7), some (fI l8)], [fI (fw (527 + (fw (4 * l1)))), fI 645, fA 124])) (h' := (156, fjl L, y242.2)) rfl trivial ?_
      rw [fw_id g0, fw_id g1]
      exact s_X12_more_j280_ok h hC hE hR
    · replace h := fng c h
      obtain ⟨⟨g0, g1⟩, h⟩ := fgd h
      refine Wp.run 6 (f' := (d + 4, 229, 280, 0, 0, [some (fA 122), some (fI l1), some (fI l2), some (fI l3), some (fI l4), some (fI l5), some (fI l6), some (fI l7), some (fI l8)], [fI (fw (335 + (fw (12 * l1)))), fI 645, fA 124])) (h' := (156, fjl L, y242.2)) rfl trivial ?_
      rw [fw_id g0, fw_id g1]
      exact s_X12_more_j280_ok h hC hE hR
  · replace h := fng c h
    refine Wp.run 1 (f' := (d + 4, 229, 249, 0, 0, [_, _, _, _, _, _, _, _, _], [fI 0])) (h' := (156, fjl L, y242.2)) rfl trivial ?_
    exact Wp.done rfl (by decide) (hR _ (Option.some.inj h).symm)
theorem s_X12_more_j242_fr {M : fM} {l1 l2 l3 l4 l5 l6 l7 l8 t1 t2 : Int} {r : ((Int × Int × Int × Int × fM) ⊕ (fM ⊕ (Int × fM)))} (h : s_X12_more_j242 M l1 l2 l3 l4 l5 l6 l7 l8 t1 t2 = some r) : fSame s_X12_more_mods M (Sum.elim (fun s => s.2.2.2.2) (Sum.elim (fun e => e) (fun v => v.2)) r) := by
  unfold s_X12_more_j242 at h
  obtain ⟨y242, hy, h⟩ := fbd h
  have k242 := fs_trans (l := s_X12_more_mods) fs_refl (fs_mono (l := s_X12_takes_mods) (by decide) (s_X12_takes_fr hy))
  by_cases c : ¬ y242.1 = 0
  · replace h := fps c h
    by_cases c : l7 = 0
    · replace h := fps c h
      replace h := (fgd h).2
      exact fs_trans k242 (s_X12_more_j280_fr h)
    · replace h := fng c h
      replace h := (fgd h).2
      exact fs_trans k242 (s_X12_more_j280_fr h)
  · replace h := fng c h
    obtain rfl := Option.some.inj h
    exact k242
noncomputable def s_X12_more_j201 (M : fM) (l1 l2 l3 l4 l5 l6 l7 t0 : Int) : Option ((Int × Int × Int × Int × fM) ⊕ (fM ⊕ (Int × fM))) :=
  if ¬ (fand (fshr t0 (M 122 14)) 1) = 1 then
    (s_X12_next M).bind fun y225 =>
      if l7 = 0 then
        s_X12_more_j242 y225.2 l1 l2 l3 l4 l5 l6 l7 (M 122 14) 0 20
      else
        s_X12_more_j242 y225.2 l1 l2 l3 l4 l5 l6 l7 (M 122 14) 0 99
  else
    (s_X12_bad M 3).bind fun y214 =>
      if b01 y214.1 then
        some (.inr (.inr (y214.1, y214.2)))
      else none
theorem s_X12_more_j201_ok {d L : Nat} {M : fM} {l1 l2 l3 l4 l5 l6 l7 t0 : Int} {o8 : Option fV} {r : ((Int × Int × Int × Int × fM) ⊕ (fM ⊕ (Int × fM)))} {Q : fO → fH → Prop} (h : s_X12_more_j201 M l1 l2 l3 l4 l5 l6 l7 t0 = some r) (hC : ∀ (l3' l4' l5' l6' : Int) (M' : fM) (o7' o8' : Option fV), r = .inl (l3', l4', l5', l6', M') → Wp (d + 4, 229, 20, 0, 0, [some (fA 122), some (fI l1), some (fI l2), some (fI l3'), some (fI l4'), some (fI l5'), some (fI l6'), o7', o8'], []) (156, fjl L, M') Q) (hE : ∀ (e : fM) (o0' o1' o2' o3' o4' o5' o6' o7' o8' : Option fV), r = .inr (.inl e) → Wp (d + 4, 229, 334, 0, 0, [o0', o1', o2', o3', o4', o5', o6', o7', o8'], []) (156, fjl L, e) Q) (hR : ∀ (v : (Int × fM)), r = .inr (.inr v) → Q (oI v.1) (156, fjl L, v.2)) : Wp (d + 4, 229, 201, 0, 0, [some (fA 122), some (fI l1), some (fI l2), some (fI l3), some (fI l4), some (fI l5), some (fI l6), some (fI l7), o8], [fI t0]) (156, fjl L, M) Q := by
  unfold s_X12_more_j201 at h
  refine Wp.run 6 (f' := (d + 4, 229, 209, 0, 0, [some (fA 122), some (fI l1), some (fI l2), some (fI l3), some (fI l4), some (fI l5), some (fI l6), some (fI l7), _], [fI 1, fI (fand (fshr t0 (M 122 14)) 1)])) (h' := (156, fjl L, M)) rfl trivial ?_
  refine Wp.br rfl (fun (c : ¬ (fand (fshr t0 (M 122 14)) 1) = 1) => ?_) (fun (c : ¬ (¬ (fand (fshr t0 (M 122 14)) 1) = 1)) => ?_)
  · replace h := fps c h
    refine Wp.run 4 (f' := (d + 4, 229, 225, 0, 0, [some (fA 122), some (fI l1), some (fI l2), some (fI l3), some (fI l4), some (fI l5), some (fI l6), some (fI l7), some (fI (M 122 14))], [fA 122])) (h' := (156, fjl L, M)) rfl trivial ?_
    obtain ⟨y225, hy, h⟩ := fbd h
    refine Wp.call rfl (by decide) (s_X12_next_ok (d := d + 2) hy ?_)
    show Wp (d + 4, 229, 228, 0, 0, [some (fA 122), some (fI l1), some (fI l2), some (fI l3), some (fI l4), some (fI l5), some (fI l6), some (fI l7), some (fI (M 122 14))], []) (156, fjl L, y225.2) Q
    refine Wp.run 3 (f' := (d + 4, 229, 232, 0, 0, [some (fA 122), some (fI l1), some (fI l2), some (fI l3), some (fI l4), some (fI l5), some (fI l6), some (fI l7), some (fI (M 122 14))], [fI l7, fI 0, fA 122])) (h' := (156, fjl L, y225.2)) rfl trivial ?_
    refine Wp.br rfl (fun (c : l7 = 0) => ?_) (fun (c : ¬ (l7 = 0)) => ?_)
    · replace h := fps c h
      refine Wp.run 1 (f' := (d + 4, 229, 242, 0, 0, [some (fA 122), some (fI l1), some (fI l2), some (fI l3), some (fI l4), some (fI l5), some (fI l6), some (fI l7), some (fI (M 122 14))], [fI 20, fI 0, fA 122])) (h' := (156, fjl L, y225.2)) rfl trivial ?_
      exact s_X12_more_j242_ok h hC hE hR
    · replace h := fng c h
      refine Wp.run 2 (f' := (d + 4, 229, 242, 0, 0, [some (fA 122), some (fI l1), some (fI l2), some (fI l3), some (fI l4), some (fI l5), some (fI l6), some (fI l7), some (fI (M 122 14))], [fI 99, fI 0, fA 122])) (h' := (156, fjl L, y225.2)) rfl trivial ?_
      exact s_X12_more_j242_ok h hC hE hR
  · replace h := fng c h
    refine Wp.run 2 (f' := (d + 4, 229, 214, 0, 0, [_, _, _, _, _, _, _, _, _], [fI 3, fA 122])) (h' := (156, fjl L, M)) rfl trivial ?_
    obtain ⟨y214, hy, h⟩ := fbd h
    refine Wp.call rfl (by decide) (s_X12_bad_ok (d := d + 3) hy ?_)
    show Wp (d + 4, 229, 217, 0, 0, [_, _, _, _, _, _, _, _, _], [fI y214.1]) (156, fjl L, y214.2) Q
    obtain ⟨g0, h⟩ := fgd h
    exact Wp.done rfl ⟨g0, by decide, by decide, by decide⟩ (hR _ (Option.some.inj h).symm)
theorem s_X12_more_j201_fr {M : fM} {l1 l2 l3 l4 l5 l6 l7 t0 : Int} {r : ((Int × Int × Int × Int × fM) ⊕ (fM ⊕ (Int × fM)))} (h : s_X12_more_j201 M l1 l2 l3 l4 l5 l6 l7 t0 = some r) : fSame s_X12_more_mods M (Sum.elim (fun s => s.2.2.2.2) (Sum.elim (fun e => e) (fun v => v.2)) r) := by
  unfold s_X12_more_j201 at h
  by_cases c : ¬ (fand (fshr t0 (M 122 14)) 1) = 1
  · replace h := fps c h
    obtain ⟨y225, hy, h⟩ := fbd h
    have k225 := fs_trans (l := s_X12_more_mods) fs_refl (fs_mono (l := s_X12_next_mods) (by decide) (s_X12_next_fr hy))
    by_cases c : l7 = 0
    · replace h := fps c h
      exact fs_trans k225 (s_X12_more_j242_fr h)
    · replace h := fng c h
      exact fs_trans k225 (s_X12_more_j242_fr h)
  · replace h := fng c h
    obtain ⟨y214, hy, h⟩ := fbd h
    have k214 := fs_trans (l := s_X12_more_mods) fs_refl (fs_mono (l := s_X12_bad_mods) (by decide) (s_X12_bad_fr hy))
    replace h := (fgd h).2
    obtain rfl := Option.some.inj h
    exact k214
noncomputable def s_X12_more_j180 (M : fM) (l1 l2 l3 l4 l5 l6 l7 t0 t1 : Int) : Option ((Int × Int × Int × Int × fM) ⊕ (fM ⊕ (Int × fM))) :=
  if t0 ≤ t1 then
    if l7 = 0 then
      s_X12_more_j201 M l1 l2 l3 l4 l5 l6 l7 l5
    else
      s_X12_more_j201 M l1 l2 l3 l4 l5 l6 l7 l4
  else
    (s_X12_bad M 2).bind fun y185 =>
      if b01 y185.1 then
        some (.inr (.inr (y185.1, y185.2)))
      else none
theorem s_X12_more_j180_ok {d L : Nat} {M : fM} {l1 l2 l3 l4 l5 l6 l7 t0 t1 : Int} {o8 : Option fV} {r : ((Int × Int × Int × Int × fM) ⊕ (fM ⊕ (Int × fM)))} {Q : fO → fH → Prop} (h : s_X12_more_j180 M l1 l2 l3 l4 l5 l6 l7 t0 t1 = some r) (hC : ∀ (l3' l4' l5' l6' : Int) (M' : fM) (o7' o8' : Option fV), r = .inl (l3', l4', l5', l6', M') → Wp (d + 4, 229, 20, 0, 0, [some (fA 122), some (fI l1), some (fI l2), some (fI l3'), some (fI l4'), some (fI l5'), some (fI l6'), o7', o8'], []) (156, fjl L, M') Q) (hE : ∀ (e : fM) (o0' o1' o2' o3' o4' o5' o6' o7' o8' : Option fV), r = .inr (.inl e) → Wp (d + 4, 229, 334, 0, 0, [o0', o1', o2', o3', o4', o5', o6', o7', o8'], []) (156, fjl L, e) Q) (hR : ∀ (v : (Int × fM)), r = .inr (.inr v) → Q (oI v.1) (156, fjl L, v.2)) : Wp (d + 4, 229, 180, 0, 0, [some (fA 122), some (fI l1), some (fI l2), some (fI l3), some (fI l4), some (fI l5), some (fI l6), some (fI l7), o8], [fI t1, fI t0]) (156, fjl L, M) Q := by
  unfold s_X12_more_j180 at h
  refine Wp.br rfl (fun (c : t0 ≤ t1) => ?_) (fun (c : ¬ (t0 ≤ t1)) => ?_)
  · replace h := fps c h
    refine Wp.run 1 (f' := (d + 4, 229, 191, 0, 0, [some (fA 122), some (fI l1), some (fI l2), some (fI l3), some (fI l4), some (fI l5), some (fI l6), some (fI l7), _], [fI l7])) (h' := (156, fjl L, M)) rfl trivial ?_
    refine Wp.br rfl (fun (c : l7 = 0) => ?_) (fun (c : ¬ (l7 = 0)) => ?_)
    · replace h := fps c h
      refine Wp.run 1 (f' := (d + 4, 229, 201, 0, 0, [some (fA 122), some (fI l1), some (fI l2), some (fI l3), some (fI l4), some (fI l5), some (fI l6), some (fI l7), _], [fI l5])) (h' := (156, fjl L, M)) rfl trivial ?_
      exact s_X12_more_j201_ok h hC hE hR
    · replace h := fng c h
      refine Wp.run 2 (f' := (d + 4, 229, 201, 0, 0, [some (fA 122), some (fI l1), some (fI l2), some (fI l3), some (fI l4), some (fI l5), some (fI l6), some (fI l7), _], [fI l4])) (h' := (156, fjl L, M)) rfl trivial ?_
      exact s_X12_more_j201_ok h hC hE hR
  · replace h := fng c h
    refine Wp.run 2 (f' := (d + 4, 229, 185, 0, 0, [_, _, _, _, _, _, _, _, _], [fI 2, fA 122])) (h' := (156, fjl L, M)) rfl trivial ?_
    obtain ⟨y185, hy, h⟩ := fbd h
    refine Wp.call rfl (by decide) (s_X12_bad_ok (d := d + 3) hy ?_)
    show Wp (d + 4, 229, 188, 0, 0, [_, _, _, _, _, _, _, _, _], [fI y185.1]) (156, fjl L, y185.2) Q
    obtain ⟨g0, h⟩ := fgd h
    exact Wp.done rfl ⟨g0, by decide, by decide, by decide⟩ (hR _ (Option.some.inj h).symm)
theorem s_X12_more_j180_fr {M : fM} {l1 l2 l3 l4 l5 l6 l7 t0 t1 : Int} {r : ((Int × Int × Int × Int × fM) ⊕ (fM ⊕ (Int × fM)))} (h : s_X12_more_j180 M l1 l2 l3 l4 l5 l6 l7 t0 t1 = some r) : fSame s_X12_more_mods M (Sum.elim (fun s => s.2.2.2.2) (Sum.elim (fun e => e) (fun v => v.2)) r) := by
  unfold s_X12_more_j180 at h
  by_cases c : t0 ≤ t1
  · replace h := fps c h
    by_cases c : l7 = 0
    · replace h := fps c h
      exact fs_trans fs_refl (s_X12_more_j201_fr h)
    · replace h := fng c h
      exact fs_trans fs_refl (s_X12_more_j201_fr h)
  · replace h := fng c h
    obtain ⟨y185, hy, h⟩ := fbd h
    have k185 := fs_trans (l := s_X12_more_mods) fs_refl (fs_mono (l := s_X12_bad_mods) (by decide) (s_X12_bad_fr hy))
    replace h := (fgd h).2
    obtain rfl := Option.some.inj h
    exact k185
noncomputable def s_X12_more_j138 (M : fM) (l1 l2 l3 l4 l5 l6 : Int) : Option ((Int × Int × Int × Int × fM) ⊕ (fM ⊕ (Int × fM))) :=
  (s_X12_isWord M 1936484720).bind fun y142 =>
    (s_X12_next M).bind fun y148 =>
      if (y148.2 122 11) = 2 then
        if y142 = 0 then
          s_X12_more_j180 y148.2 l1 l2 l3 l4 l5 l6 y142 (y148.2 122 14) 3
        else
          s_X12_more_j180 y148.2 l1 l2 l3 l4 l5 l6 y142 (y148.2 122 14) 11
      else
        (s_X12_bad y148.2 1).bind fun y161 =>
          if b01 y161.1 then
            some (.inr (.inr (y161.1, y161.2)))
          else none
theorem s_X12_more_j138_ok {d L : Nat} {M : fM} {l1 l2 l3 l4 l5 l6 : Int} {o7 o8 : Option fV} {r : ((Int × Int × Int × Int × fM) ⊕ (fM ⊕ (Int × fM)))} {Q : fO → fH → Prop} (h : s_X12_more_j138 M l1 l2 l3 l4 l5 l6 = some r) (hC : ∀ (l3' l4' l5' l6' : Int) (M' : fM) (o7' o8' : Option fV), r = .inl (l3', l4', l5', l6', M') → Wp (d + 4, 229, 20, 0, 0, [some (fA 122), some (fI l1), some (fI l2), some (fI l3'), some (fI l4'), some (fI l5'), some (fI l6'), o7', o8'], []) (156, fjl L, M') Q) (hE : ∀ (e : fM) (o0' o1' o2' o3' o4' o5' o6' o7' o8' : Option fV), r = .inr (.inl e) → Wp (d + 4, 229, 334, 0, 0, [o0', o1', o2', o3', o4', o5', o6', o7', o8'], []) (156, fjl L, e) Q) (hR : ∀ (v : (Int × fM)), r = .inr (.inr v) → Q (oI v.1) (156, fjl L, v.2)) : Wp (d + 4, 229, 138, 0, 0, [some (fA 122), some (fI l1), some (fI l2), some (fI l3), some (fI l4), some (fI l5), some (fI l6), o7, o8], []) (156, fjl L, M) Q := by
  unfold s_X12_more_j138 at h
  refine Wp.run 2 (f' := (d + 4, 229, 142, 0, 0, [some (fA 122), some (fI l1), some (fI l2), some (fI l3), some (fI l4), some (fI l5), some (fI l6), _, _], [fJ 1936484720, fA 122])) (h' := (156, fjl L, M)) rfl trivial ?_
  obtain ⟨y142, hy, h⟩ := fbd h
  refine Wp.call rfl (by decide) (s_X12_isWord_ok (d := d + 3) hy ?_)
  show Wp (d + 4, 229, 145, 0, 0, [some (fA 122), some (fI l1), some (fI l2), some (fI l3), some (fI l4), some (fI l5), some (fI l6), _, _], [fI y142]) (156, fjl L, M) Q
  refine Wp.run 2 (f' := (d + 4, 229, 148, 0, 0, [some (fA 122), some (fI l1), some (fI l2), some (fI l3), some (fI l4), some (fI l5), some (fI l6), some (fI y142), _], [fA 122])) (h' := (156, fjl L, M)) rfl trivial ?_
  obtain ⟨y148, hy, h⟩ := fbd h
  refine Wp.call rfl (by decide) (s_X12_next_ok (d := d + 2) hy ?_)
  show Wp (d + 4, 229, 151, 0, 0, [some (fA 122), some (fI l1), some (fI l2), some (fI l3), some (fI l4), some (fI l5), some (fI l6), some (fI y142), _], []) (156, fjl L, y148.2) Q
  refine Wp.run 3 (f' := (d + 4, 229, 156, 0, 0, [some (fA 122), some (fI l1), some (fI l2), some (fI l3), some (fI l4), some (fI l5), some (fI l6), some (fI y142), _], [fI 2, fI (y148.2 122 11)])) (h' := (156, fjl L, y148.2)) rfl trivial ?_
  refine Wp.br rfl (fun (c : (y148.2 122 11) = 2) => ?_) (fun (c : ¬ ((y148.2 122 11) = 2)) => ?_)
  · replace h := fps c h
    refine Wp.run 3 (f' := (d + 4, 229, 171, 0, 0, [some (fA 122), some (fI l1), some (fI l2), some (fI l3), some (fI l4), some (fI l5), some (fI l6), some (fI y142), _], [fI y142, fI (y148.2 122 14)])) (h' := (156, fjl L, y148.2)) rfl trivial ?_
    refine Wp.br rfl (fun (c : y142 = 0) => ?_) (fun (c : ¬ (y142 = 0)) => ?_)
    · replace h := fps c h
      refine Wp.run 1 (f' := (d + 4, 229, 180, 0, 0, [some (fA 122), some (fI l1), some (fI l2), some (fI l3), some (fI l4), some (fI l5), some (fI l6), some (fI y142), _], [fI 3, fI (y148.2 122 14)])) (h' := (156, fjl L, y148.2)) rfl trivial ?_
      exact s_X12_more_j180_ok h hC hE hR
    · replace h := fng c h
      refine Wp.run 2 (f' := (d + 4, 229, 180, 0, 0, [some (fA 122), some (fI l1), some (fI l2), some (fI l3), some (fI l4), some (fI l5), some (fI l6), some (fI y142), _], [fI 11, fI (y148.2 122 14)])) (h' := (156, fjl L, y148.2)) rfl trivial ?_
      exact s_X12_more_j180_ok h hC hE hR
  · replace h := fng c h
    refine Wp.run 2 (f' := (d + 4, 229, 161, 0, 0, [_, _, _, _, _, _, _, _, _], [fI 1, fA 122])) (h' := (156, fjl L, y148.2)) rfl trivial ?_
    obtain ⟨y161, hy, h⟩ := fbd h
    refine Wp.call rfl (by decide) (s_X12_bad_ok (d := d + 3) hy ?_)
    show Wp (d + 4, 229, 164, 0, 0, [_, _, _, _, _, _, _, _, _], [fI y161.1]) (156, fjl L, y161.2) Q
    obtain ⟨g0, h⟩ := fgd h
    exact Wp.done rfl ⟨g0, by decide, by decide, by decide⟩ (hR _ (Option.some.inj h).symm)
theorem s_X12_more_j138_fr {M : fM} {l1 l2 l3 l4 l5 l6 : Int} {r : ((Int × Int × Int × Int × fM) ⊕ (fM ⊕ (Int × fM)))} (h : s_X12_more_j138 M l1 l2 l3 l4 l5 l6 = some r) : fSame s_X12_more_mods M (Sum.elim (fun s => s.2.2.2.2) (Sum.elim (fun e => e) (fun v => v.2)) r) := by
  unfold s_X12_more_j138 at h
  obtain ⟨y142, hy, h⟩ := fbd h
  obtain ⟨y148, hy, h⟩ := fbd h
  have k148 := fs_trans (l := s_X12_more_mods) fs_refl (fs_mono (l := s_X12_next_mods) (by decide) (s_X12_next_fr hy))
  by_cases c : (y148.2 122 11) = 2
  · replace h := fps c h
    by_cases c : y142 = 0
    · replace h := fps c h
      exact fs_trans k148 (s_X12_more_j180_fr h)
    · replace h := fng c h
      exact fs_trans k148 (s_X12_more_j180_fr h)
  · replace h := fng c h
    obtain ⟨y161, hy, h⟩ := fbd h
    have k161 := fs_trans (l := s_X12_more_mods) k148 (fs_mono (l := s_X12_bad_mods) (by decide) (s_X12_bad_fr hy))
    replace h := (fgd h).2
    obtain rfl := Option.some.inj h
    exact k161
noncomputable def s_X12_more_b20 (M : fM) (l1 l2 l3 l4 l5 l6 : Int) : Option ((Int × Int × Int × Int × fM) ⊕ (fM ⊕ (Int × fM))) :=
  if l6 = 0 then
    some (.inr (.inl M))
  else
    (s_X12_isWord M 495874700901).bind fun y29 =>
      if y29 = 0 then
        (s_X12_isWord M 1869636974).bind fun y83 =>
          if y83 = 0 then
            (s_X12_isWord M 1936484720).bind fun y122 =>
              if ¬ y122 = 0 then
                s_X12_more_j138 M l1 l2 l3 l4 l5 l6
              else
                (s_X12_isWord M 440005650796).bind fun y132 =>
                  if y132 = 0 then
                    some (.inl (l3, l4, l5, 0, M))
                  else
                    s_X12_more_j138 M l1 l2 l3 l4 l5 l6
          else
            if l3 = 0 then
              (s_X12_next M).bind fun y102 =>
                if fin (l2 + 8) then
                  (s_X12_span y102.2 (l2 + 8)).bind fun y110 =>
                    if ¬ y110.1 = 0 then
                      some (.inl (1, l4, l5, l6, y110.2))
                    else
                      some (.inr (.inr (0, y110.2)))
                else none
            else
              (s_X12_bad M 3).bind fun y95 =>
                if b01 y95.1 then
                  some (.inr (.inr (y95.1, y95.2)))
                else none
      else
        if fin (645 + l2) ∧ fin ((645 + l2) + 7) ∧ (0 ≤ ((645 + l2) + 7) ∧ ((645 + l2) + 7) < 1290) then
          if ¬ (M 124 ((645 + l2) + 7).toNat) = 1 then
            if fin (645 + l2) ∧ fin ((645 + l2) + 7) ∧ (0 ≤ ((645 + l2) + 7) ∧ ((645 + l2) + 7) < 1290) then
              (s_X12_next (fup M 124 ((645 + l2) + 7).toNat 1)).bind fun y73 =>
                some (.inl (l3, l4, l5, l6, y73.2))
            else none
          else
            (s_X12_bad M 3).bind fun y54 =>
              if b01 y54.1 then
                some (.inr (.inr (y54.1, y54.2)))
              else none
        else none
theorem s_X12_more_b20_ok {d L : Nat} {M : fM} {l1 l2 l3 l4 l5 l6 : Int} {o7 o8 : Option fV} {r : ((Int × Int × Int × Int × fM) ⊕ (fM ⊕ (Int × fM)))} {Q : fO → fH → Prop} (h : s_X12_more_b20 M l1 l2 l3 l4 l5 l6 = some r) (hC : ∀ (l3' l4' l5' l6' : Int) (M' : fM) (o7' o8' : Option fV), r = .inl (l3', l4', l5', l6', M') → Wp (d + 4, 229, 20, 0, 0, [some (fA 122), some (fI l1), some (fI l2), some (fI l3'), some (fI l4'), some (fI l5'), some (fI l6'), o7', o8'], []) (156, fjl L, M') Q) (hE : ∀ (e : fM) (o0' o1' o2' o3' o4' o5' o6' o7' o8' : Option fV), r = .inr (.inl e) → Wp (d + 4, 229, 334, 0, 0, [o0', o1', o2', o3', o4', o5', o6', o7', o8'], []) (156, fjl L, e) Q) (hR : ∀ (v : (Int × fM)), r = .inr (.inr v) → Q (oI v.1) (156, fjl L, v.2)) : Wp (d + 4, 229, 20, 0, 0, [some (fA 122), some (fI l1), some (fI l2), some (fI l3), some (fI l4), some (fI l5), some (fI l6), o7, o8], []) (156, fjl L, M) Q := by
  unfold s_X12_more_b20 at h
  refine Wp.run 1 (f' := (d + 4, 229, 22, 0, 0, [some (fA 122), some (fI l1), some (fI l2), some (fI l3), some (fI l4), some (fI l5), some (fI l6), _, _], [fI l6])) (h' := (156, fjl L, M)) rfl trivial ?_
  refine Wp.br rfl (fun (c : l6 = 0) => ?_) (fun (c : ¬ (l6 = 0)) => ?_)
  · replace h := fps c h
    exact hE _ _ _ _ _ _ _ _ _ _ (Option.some.inj h).symm
  · replace h := fng c h
    refine Wp.run 2 (f' := (d + 4, 229, 29, 0, 0, [some (fA 122), some (fI l1), some (fI l2), some (fI l3), some (fI l4), some (fI l5), some (fI l6), _, _], [fJ 495874700901, fA 122])) (h' := (156, fjl L, M)) rfl trivial ?_
    obtain ⟨y29, hy, h⟩ := fbd h
    refine Wp.call rfl (by decide) (s_X12_isWord_ok (d := d + 3) hy ?_)
    show Wp (d + 4, 229, 32, 0, 0, [some (fA 122), some (fI l1), some (fI l2), some (fI l3), some (fI l4), some (fI l5), some (fI l6), _, _], [fI y29]) (156, fjl L, M) Q
    refine Wp.br rfl (fun (c : y29 = 0) => ?_) (fun (c : ¬ (y29 = 0)) => ?_)
    · replace h := fps c h
      refine Wp.run 2 (f' := (d + 4, 229, 83, 0, 0, [some (fA 122), some (fI l1), some (fI l2), some (fI l3), some (fI l4), some (fI l5), some (fI l6), _, _], [fJ 1869636974, fA 122])) (h' := (156, fjl L, M)) rfl trivial ?_
      obtain ⟨y83, hy, h⟩ := fbd h
      refine Wp.call rfl (by decide) (s_X12_isWord_ok (d := d + 3) hy ?_)
      show Wp (d + 4, 229, 86, 0, 0, [some (fA 122), some (fI l1), some (fI l2), some (fI l3), some (fI l4), some (fI l5), some (fI l6), _, _], [fI y83]) (156, fjl L, M) Q
      refine Wp.br rfl (fun (c : y83 = 0) => ?_) (fun (c : ¬ (y83 = 0)) => ?_)
      · replace h := fps c h
        refine Wp.run 2 (f' := (d + 4, 229, 122, 0, 0, [some (fA 122), some (fI l1), some (fI l2), some (fI l3), some (fI l4), some (fI l5), some (fI l6), _, _], [fJ 1936484720, fA 122])) (h' := (156, fjl L, M)) rfl trivial ?_
        obtain ⟨y122, hy, h⟩ := fbd h
        refine Wp.call rfl (by decide) (s_X12_isWord_ok (d := d + 3) hy ?_)
        show Wp (d + 4, 229, 125, 0, 0, [some (fA 122), some (fI l1), some (fI l2), some (fI l3), some (fI l4), some (fI l5), some (fI l6), _, _], [fI y122]) (156, fjl L, M) Q
        refine Wp.br rfl (fun (c : ¬ y122 = 0) => ?_) (fun (c : ¬ (¬ y122 = 0)) => ?_)
        · replace h := fps c h
          exact s_X12_more_j138_ok h hC hE hR
        · replace h := fng c h
          refine Wp.run 2 (f' := (d + 4, 229, 132, 0, 0, [some (fA 122), some (fI l1), some (fI l2), some (fI l3), some (fI l4), some (fI l5), some (fI l6), _, _], [fJ 440005650796, fA 122])) (h' := (156, fjl L, M)) rfl trivial ?_
          obtain ⟨y132, hy, h⟩ := fbd h
          refine Wp.call rfl (by decide) (s_X12_isWord_ok (d := d + 3) hy ?_)
          show Wp (d + 4, 229, 135, 0, 0, [some (fA 122), some (fI l1), some (fI l2), some (fI l3), some (fI l4), some (fI l5), some (fI l6), _, _], [fI y132]) (156, fjl L, M) Q
          refine Wp.br rfl (fun (c : y132 = 0) => ?_) (fun (c : ¬ (y132 = 0)) => ?_)
          · replace h := fps c h
            refine Wp.run 3 (f' := (d + 4, 229, 20, 0, 0, [some (fA 122), some (fI l1), some (fI l2), some (fI l3), some (fI l4), some (fI l5), some (fI 0), _, _], [])) (h' := (156, fjl L, M)) rfl trivial ?_
            exact hC _ _ _ _ _ _ _ (Option.some.inj h).symm
          · replace h := fng c h
            exact s_X12_more_j138_ok h hC hE hR
      · replace h := fng c h
        refine Wp.run 1 (f' := (d + 4, 229, 90, 0, 0, [some (fA 122), some (fI l1), some (fI l2), _, some (fI l4), some (fI l5), some (fI l6), _, _], [fI l3])) (h' := (156, fjl L, M)) rfl trivial ?_
        refine Wp.br rfl (fun (c : l3 = 0) => ?_) (fun (c : ¬ (l3 = 0)) => ?_)
        · replace h := fps c h
          refine Wp.run 3 (f' := (d + 4, 229, 102, 0, 0, [some (fA 122), some (fI l1), some (fI l2), some (fI 1), some (fI l4), some (fI l5), some (fI l6), _, _], [fA 122])) (h' := (156, fjl L, M)) rfl trivial ?_
          obtain ⟨y102, hy, h⟩ := fbd h
          refine Wp.call rfl (by decide) (s_X12_next_ok (d := d + 2) hy ?_)
          show Wp (d + 4, 229, 105, 0, 0, [some (fA 122), some (fI l1), some (fI l2), some (fI 1), some (fI l4), some (fI l5), some (fI l6), _, _], []) (156, fjl L, y102.2) Q
          obtain ⟨g0, h⟩ := fgd h
          refine Wp.run 4 (f' := (d + 4, 229, 110, 0, 0, [some (fA 122), some (fI l1), some (fI l2), some (fI 1), some (fI l4), some (fI l5), some (fI l6), _, _], [fI (fw (l2 + 8)), fA 122])) (h' := (156, fjl L, y102.2)) rfl trivial ?_
          rw [fw_id g0]
          obtain ⟨y110, hy, h⟩ := fbd h
          refine Wp.call rfl (by decide) (s_X12_span_ok (d := d + 0) hy ?_)
          show Wp (d + 4, 229, 113, 0, 0, [some (fA 122), some (fI l1), some (fI l2), some (fI 1), some (fI l4), some (fI l5), some (fI l6), _, _], [fI y110.1]) (156, fjl L, y110.2) Q
          refine Wp.br rfl (fun (c : ¬ y110.1 = 0) => ?_) (fun (c : ¬ (¬ y110.1 = 0)) => ?_)
          · replace h := fps c h
            exact hC _ _ _ _ _ _ _ (Option.some.inj h).symm
          · replace h := fng c h
            refine Wp.run 1 (f' := (d + 4, 229, 117, 0, 0, [_, _, _, _, _, _, _, _, _], [fI 0])) (h' := (156, fjl L, y110.2)) rfl trivial ?_
            exact Wp.done rfl (by decide) (hR _ (Option.some.inj h).symm)
        · replace h := fng c h
          refine Wp.run 2 (f' := (d + 4, 229, 95, 0, 0, [_, _, _, _, _, _, _, _, _], [fI 3, fA 122])) (h' := (156, fjl L, M)) rfl trivial ?_
          obtain ⟨y95, hy, h⟩ := fbd h
          refine Wp.call rfl (by decide) (s_X12_bad_ok (d := d + 3) hy ?_)
          show Wp (d + 4, 229, 98, 0, 0, [_, _, _, _, _, _, _, _, _], [fI y95.1]) (156, fjl L, y95.2) Q
          obtain ⟨g0, h⟩ := fgd h
          exact Wp.done rfl ⟨g0, by decide, by decide, by decide⟩ (hR _ (Option.some.inj h).symm)
    · replace h := fng c h
      obtain ⟨⟨g0, g1, g2⟩, h⟩ := fgd h
      refine Wp.run 9 (P := [0 ≤ (fw ((fw (645 + l2)) + 7)) ∧ (fw ((fw (645 + l2)) + 7)) < 1290]) (f' := (d + 4, 229, 49, 0, 0, [some (fA 122), some (fI l1), some (fI l2), some (fI l3), some (fI l4), some (fI l5), some (fI l6), _, _], [fI 1, fI (M 124 (fw ((fw (645 + l2)) + 7)).toNat)])) (h' := (156, fjl L, M)) rfl ?_ ?_
      · rw [fw_id g0, fw_id g1]; exact g2
      rw [fw_id g0, fw_id g1]
      refine Wp.br rfl (fun (c : ¬ (M 124 ((645 + l2) + 7).toNat) = 1) => ?_) (fun (c : ¬ (¬ (M 124 ((645 + l2) + 7).toNat) = 1)) => ?_)
      · replace h := fps c h
        obtain ⟨⟨g0, g1, g2⟩, h⟩ := fgd h
        refine Wp.run 10 (P := [0 ≤ (fw ((fw (645 + l2)) + 7)) ∧ (fw ((fw (645 + l2)) + 7)) < 1290]) (f' := (d + 4, 229, 73, 0, 0, [some (fA 122), some (fI l1), some (fI l2), some (fI l3), some (fI l4), some (fI l5), some (fI l6), _, _], [fA 122])) (h' := (156, fjl L, (fup M 124 (fw ((fw (645 + l2)) + 7)).toNat 1))) rfl ?_ ?_
        · rw [fw_id g0, fw_id g1]; exact g2
        rw [fw_id g0, fw_id g1]
        obtain ⟨y73, hy, h⟩ := fbd h
        refine Wp.call rfl (by decide) (s_X12_next_ok (d := d + 2) hy ?_)
        show Wp (d + 4, 229, 76, 0, 0, [some (fA 122), some (fI l1), some (fI l2), some (fI l3), some (fI l4), some (fI l5), some (fI l6), _, _], []) (156, fjl L, y73.2) Q
        refine Wp.run 1 (f' := (d + 4, 229, 20, 0, 0, [some (fA 122), some (fI l1), some (fI l2), some (fI l3), some (fI l4), some (fI l5), some (fI l6), _, _], [])) (h' := (156, fjl L, y73.2)) rfl trivial ?_
        exact hC _ _ _ _ _ _ _ (Option.some.inj h).symm
      · replace h := fng c h
        refine Wp.run 2 (f' := (d + 4, 229, 54, 0, 0, [_, _, _, _, _, _, _, _, _], [fI 3, fA 122])) (h' := (156, fjl L, M)) rfl trivial ?_
        obtain ⟨y54, hy, h⟩ := fbd h
        refine Wp.call rfl (by decide) (s_X12_bad_ok (d := d + 3) hy ?_)
        show Wp (d + 4, 229, 57, 0, 0, [_, _, _, _, _, _, _, _, _], [fI y54.1]) (156, fjl L, y54.2) Q
        obtain ⟨g0, h⟩ := fgd h
        exact Wp.done rfl ⟨g0, by decide, by decide, by decide⟩ (hR _ (Option.some.inj h).symm)
theorem s_X12_more_b20_fr {M : fM} {l1 l2 l3 l4 l5 l6 : Int} {r : ((Int × Int × Int × Int × fM) ⊕ (fM ⊕ (Int × fM)))} (h : s_X12_more_b20 M l1 l2 l3 l4 l5 l6 = some r) : fSame s_X12_more_mods M (Sum.elim (fun s => s.2.2.2.2) (Sum.elim (fun e => e) (fun v => v.2)) r) := by
  unfold s_X12_more_b20 at h
  by_cases c : l6 = 0
  · replace h := fps c h
    obtain rfl := Option.some.inj h
    exact fs_refl
  · replace h := fng c h
    obtain ⟨y29, hy, h⟩ := fbd h
    by_cases c : y29 = 0
    · replace h := fps c h
      obtain ⟨y83, hy, h⟩ := fbd h
      by_cases c : y83 = 0
      · replace h := fps c h
        obtain ⟨y122, hy, h⟩ := fbd h
        by_cases c : ¬ y122 = 0
        · replace h := fps c h
          exact fs_trans fs_refl (s_X12_more_j138_fr h)
        · replace h := fng c h
          obtain ⟨y132, hy, h⟩ := fbd h
          by_cases c : y132 = 0
          · replace h := fps c h
            obtain rfl := Option.some.inj h
            exact fs_refl
          · replace h := fng c h
            exact fs_trans fs_refl (s_X12_more_j138_fr h)
      · replace h := fng c h
        by_cases c : l3 = 0
        · replace h := fps c h
          obtain ⟨y102, hy, h⟩ := fbd h
          have k102 := fs_trans (l := s_X12_more_mods) fs_refl (fs_mono (l := s_X12_next_mods) (by decide) (s_X12_next_fr hy))
          replace h := (fgd h).2
          obtain ⟨y110, hy, h⟩ := fbd h
          have k110 := fs_trans (l := s_X12_more_mods) k102 (fs_mono (l := s_X12_span_mods) (by decide) (s_X12_span_fr hy))
          by_cases c : ¬ y110.1 = 0
          · replace h := fps c h
            obtain rfl := Option.some.inj h
            exact k110
          · replace h := fng c h
            obtain rfl := Option.some.inj h
            exact k110
        · replace h := fng c h
          obtain ⟨y95, hy, h⟩ := fbd h
          have k95 := fs_trans (l := s_X12_more_mods) fs_refl (fs_mono (l := s_X12_bad_mods) (by decide) (s_X12_bad_fr hy))
          replace h := (fgd h).2
          obtain rfl := Option.some.inj h
          exact k95
    · replace h := fng c h
      replace h := (fgd h).2
      by_cases c : ¬ (M 124 ((645 + l2) + 7).toNat) = 1
      · replace h := fps c h
        replace h := (fgd h).2
        obtain ⟨y73, hy, h⟩ := fbd h
        have k73 := fs_trans (l := s_X12_more_mods) (fs_up fs_refl (.inl (by decide))) (fs_mono (l := s_X12_next_mods) (by decide) (s_X12_next_fr hy))
        obtain rfl := Option.some.inj h
        exact k73
      · replace h := fng c h
        obtain ⟨y54, hy, h⟩ := fbd h
        have k54 := fs_trans (l := s_X12_more_mods) fs_refl (fs_mono (l := s_X12_bad_mods) (by decide) (s_X12_bad_fr hy))
        replace h := (fgd h).2
        obtain rfl := Option.some.inj h
        exact k54
noncomputable def s_X12_more_l20 (l1 l2 : Int) (s : (Int × Int × Int × Int × fM)) : Option (fM ⊕ (Int × fM)) := fLp (fun s => s_X12_more_b20 s.2.2.2.2 l1 l2 s.1 s.2.1 s.2.2.1 s.2.2.2.1) s
theorem s_X12_more_l20_ok {d L : Nat} {M : fM} {l1 l2 l3 l4 l5 l6 : Int} {o7 o8 : Option fV} {r : (fM ⊕ (Int × fM))} {Q : fO → fH → Prop} (h : s_X12_more_l20 l1 l2 (l3, l4, l5, l6, M) = some r) (hE : ∀ (e : fM) (o0' o1' o2' o3' o4' o5' o6' o7' o8' : Option fV), r = .inl e → Wp (d + 4, 229, 334, 0, 0, [o0', o1', o2', o3', o4', o5', o6', o7', o8'], []) (156, fjl L, e) Q) (hR : ∀ (v : (Int × fM)), r = .inr v → Q (oI v.1) (156, fjl L, v.2)) : Wp (d + 4, 229, 20, 0, 0, [some (fA 122), some (fI l1), some (fI l2), some (fI l3), some (fI l4), some (fI l5), some (fI l6), o7, o8], []) (156, fjl L, M) Q := by
  refine fLp_wp (W := fun s => ∀ (o7 o8 : Option fV), Wp (d + 4, 229, 20, 0, 0, [some (fA 122), some (fI l1), some (fI l2), some (fI s.1), some (fI s.2.1), some (fI s.2.2.1), some (fI s.2.2.2.1), o7, o8], []) (156, fjl L, s.2.2.2.2) Q) (e := r) ?_ h _ _
  intro s r1 h hC hX o7 o8
  refine s_X12_more_b20_ok (d := d) h (fun a0 a1 a2 a3 a4 _ _ e1 => ?_) (fun e u0 u1 u2 u3 u4 u5 u6 u7 u8 e1 => hE e u0 u1 u2 u3 u4 u5 u6 u7 u8 (hX _ e1).symm) (fun v e1 => hR v (hX _ e1).symm)
  exact hC _ e1 _ _
theorem s_X12_more_l20_fr {M : fM} {l1 l2 l3 l4 l5 l6 : Int} {r : (fM ⊕ (Int × fM))} (h : s_X12_more_l20 l1 l2 (l3, l4, l5, l6, M) = some r) : fSame s_X12_more_mods M ((Sum.elim (fun e => e) (fun v => v.2)) r) := by
  refine fLp_inv (I := fun s => fSame s_X12_more_mods M s.2.2.2.2) (J := fun r => fSame s_X12_more_mods M ((Sum.elim (fun e => e) (fun v => v.2)) r)) h fs_refl (fun s s1 hs hb => ?_) (fun s e hs hb => ?_)
  · exact fs_trans hs (s_X12_more_b20_fr hb)
  · exact fs_trans hs (s_X12_more_b20_fr hb)
noncomputable def s_X12_more (M : fM) (l1 : Int) : Option (Int × fM) :=
  if fin (10 * l1) ∧ fin (175 + (10 * l1)) then
    (s_X12_more_l20 l1 (175 + (10 * l1)) (0, 0, 0, 1, M)).bind fun e20 =>
      Sum.elim (fun x20 =>
        some (1, x20))
        (fun v20 => some v20) e20
  else none
theorem s_X12_more_ok {d L : Nat} {M : fM} {l1 : Int} {r : (Int × fM)} {Q : fO → fH → Prop} (h : s_X12_more M l1 = some r) (H : Q (oI r.1) (156, fjl L, r.2)) : Wp (d + 4, 229, 0, 0, 0, [some (fA 122), some (fI l1), none, none, none, none, none, none, none], []) (156, fjl L, M) Q := by
  unfold s_X12_more at h
  obtain ⟨⟨g0, g1⟩, h⟩ := fgd h
  refine Wp.run 12 (f' := (d + 4, 229, 17, 0, 0, [some (fA 122), some (fI l1), some (fI (fw (175 + (fw (10 * l1))))), some (fI 0), some (fI 0), some (fI 0), _, _, _], [])) (h' := (156, fjl L, M)) rfl trivial ?_
  rw [fw_id g0, fw_id g1]
  refine Wp.run 2 (f' := (d + 4, 229, 20, 0, 0, [some (fA 122), some (fI l1), some (fI (175 + (10 * l1))), some (fI 0), some (fI 0), some (fI 0), some (fI 1), _, _], [])) (h' := (156, fjl L, M)) rfl trivial ?_
  obtain ⟨e20, hy, h⟩ := fbd h
  refine s_X12_more_l20_ok hy (fun x20 u0 u1 u2 u3 u4 u5 u6 u7 u8 ex => ?_) (fun v20 ex => ?_)
  · subst ex
    replace h := fsl h
    show Wp (d + 4, 229, 334, 0, 0, [u0, u1, u2, u3, u4, u5, u6, u7, u8], []) (156, fjl L, x20) Q
    refine Wp.run 1 (f' := (d + 4, 229, 335, 0, 0, [_, _, _, _, _, _, _, _, _], [fI 1])) (h' := (156, fjl L, x20)) rfl trivial ?_
    obtain rfl := Option.some.inj h
    exact Wp.done rfl (by decide) H
  · subst ex
    replace h := fsr h
    obtain rfl := Option.some.inj h
    exact H
theorem s_X12_more_fr {M : fM} {l1 : Int} {r : (Int × fM)} (h : s_X12_more M l1 = some r) : fSame s_X12_more_mods M r.2 := by
  unfold s_X12_more at h
  replace h := (fgd h).2
  obtain ⟨e20, hy, h⟩ := fbd h
  have k20 := fs_trans (l := s_X12_more_mods) fs_refl (s_X12_more_l20_fr hy)
  rcases e20 with x20 | v20
  · replace h := fsl h
    obtain rfl := Option.some.inj h
    exact k20
  · replace h := fsr h
    obtain rfl := Option.some.inj h
    exact k20
abbrev s_X12_readPiano_mods : List (Nat × Option Nat) := [(122, some 4), (122, some 11), (122, some 12), (122, some 13), (122, some 14), (122, some 15), (122, some 16), (122, some 17), (122, some 18), (124, none), (126, none)]
noncomputable def s_X12_readPiano_j155 (M : fM) (l1 l2 l5 l6 l7 t0 : Int) : Option ((Int × fM) ⊕ (fM ⊕ (Int × fM))) :=
  (s_X12_takes M l7 t0).bind fun y162 =>
    if ¬ y162.1 = 0 then
      if fin (l5 + l6) ∧ (0 ≤ (l5 + l6) ∧ (l5 + l6) < 1290) ∧ fin (l6 + 1) then
        some (.inl ((l6 + 1), (fup y162.2 124 (l5 + l6).toNat (y162.2 122 18))))
      else none
    else
      some (.inr (.inr (0, y162.2)))
theorem s_X12_readPiano_j155_ok {d L : Nat} {M : fM} {l1 l2 l5 l6 l7 t0 : Int} {o4 o8 : Option fV} {r : ((Int × fM) ⊕ (fM ⊕ (Int × fM)))} {Q : fO → fH → Prop} (h : s_X12_readPiano_j155 M l1 l2 l5 l6 l7 t0 = some r) (hC : ∀ (l6' : Int) (M' : fM) (o4' o7' o8' : Option fV), r = .inl (l6', M') → Wp (d + 5, 228, 86, 0, 0, [some (fA 122), some (fI l1), some (fJ l2), none, o4', some (fI l5), some (fI l6'), o7', o8'], []) (156, fjl L, M') Q) (hE : ∀ (e : fM) (o4' o6' o7' o8' : Option fV), r = .inr (.inl e) → Wp (d + 5, 228, 190, 0, 0, [some (fA 122), some (fI l1), some (fJ l2), none, o4', some (fI l5), o6', o7', o8'], []) (156, fjl L, e) Q) (hR : ∀ (v : (Int × fM)), r = .inr (.inr v) → Q (oI v.1) (156, fjl L, v.2)) : Wp (d + 5, 228, 155, 0, 0, [some (fA 122), some (fI l1), some (fJ l2), none, o4, some (fI l5), some (fI l6), some (fI l7), o8], [fI t0]) (156, fjl L, M) Q := by
  unfold s_X12_readPiano_j155 at h
  refine Wp.run 4 (f' := (d + 5, 228, 162, 0, 0, [some (fA 122), some (fI l1), some (fJ l2), none, _, some (fI l5), some (fI l6), _, _], [fI t0, fI l7, fA 122])) (h' := (156, fjl L, M)) rfl trivial ?_
  obtain ⟨y162, hy, h⟩ := fbd h
  refine Wp.call rfl (by decide) (s_X12_takes_ok (d := d + 2) hy ?_)
  show Wp (d + 5, 228, 165, 0, 0, [some (fA 122), some (fI l1), some (fJ l2), none, _, some (fI l5), some (fI l6), _, _], [fI y162.1]) (156, fjl L, y162.2) Q
  refine Wp.br rfl (fun (c : ¬ y162.1 = 0) => ?_) (fun (c : ¬ (¬ y162.1 = 0)) => ?_)
  · replace h := fps c h
    obtain ⟨⟨g0, g1, g2⟩, h⟩ := fgd h
    refine Wp.run 10 (P := [0 ≤ (fw (l5 + l6)) ∧ (fw (l5 + l6)) < 1290]) (f' := (d + 5, 228, 86, 0, 0, [some (fA 122), some (fI l1), some (fJ l2), none, _, some (fI l5), some (fI (fw (l6 + 1))), _, _], [])) (h' := (156, fjl L, (fup y162.2 124 (fw (l5 + l6)).toNat (y162.2 122 18)))) rfl ?_ ?_
    · rw [fw_id g0]; exact g1
    rw [fw_id g2, fw_id g0]
    exact hC _ _ _ _ _ (Option.some.inj h).symm
  · replace h := fng c h
    refine Wp.run 1 (f' := (d + 5, 228, 169, 0, 0, [_, _, _, _, _, _, _, _, _], [fI 0])) (h' := (156, fjl L, y162.2)) rfl trivial ?_
    exact Wp.done rfl (by decide) (hR _ (Option.some.inj h).symm)
theorem s_X12_readPiano_j155_fr {M : fM} {l1 l2 l5 l6 l7 t0 : Int} {r : ((Int × fM) ⊕ (fM ⊕ (Int × fM)))} (h : s_X12_readPiano_j155 M l1 l2 l5 l6 l7 t0 = some r) : fSame s_X12_readPiano_mods M (Sum.elim (fun s => s.2) (Sum.elim (fun e => e) (fun v => v.2)) r) := by
  unfold s_X12_readPiano_j155 at h
  obtain ⟨y162, hy, h⟩ := fbd h
  have k162 := fs_trans (l := s_X12_readPiano_mods) fs_refl (fs_mono (l := s_X12_takes_mods) (by decide) (s_X12_takes_fr hy))
  by_cases c : ¬ y162.1 = 0
  · replace h := fps c h
    replace h := (fgd h).2
    obtain rfl := Option.some.inj h
    exact fs_up k162 (.inl (by decide))
  · replace h := fng c h
    obtain rfl := Option.some.inj h
    exact k162
noncomputable def s_X12_readPiano_j104 (M : fM) (l1 l2 l5 l6 t0 : Int) : Option ((Int × fM) ⊕ (fM ⊕ (Int × fM))) :=
  if 3 ≤ l6 then
    if ¬ l6 = 3 then
      if ¬ l6 = 4 then
        if ¬ l6 = 5 then
          s_X12_readPiano_j155 M l1 l2 l5 l6 t0 9
        else
          s_X12_readPiano_j155 M l1 l2 l5 l6 t0 9999
      else
        s_X12_readPiano_j155 M l1 l2 l5 l6 t0 200
    else
      s_X12_readPiano_j155 M l1 l2 l5 l6 t0 999
  else
    s_X12_readPiano_j155 M l1 l2 l5 l6 t0 99
theorem s_X12_readPiano_j104_ok {d L : Nat} {M : fM} {l1 l2 l5 l6 t0 : Int} {o4 o7 o8 : Option fV} {r : ((Int × fM) ⊕ (fM ⊕ (Int × fM)))} {Q : fO → fH → Prop} (h : s_X12_readPiano_j104 M l1 l2 l5 l6 t0 = some r) (hC : ∀ (l6' : Int) (M' : fM) (o4' o7' o8' : Option fV), r = .inl (l6', M') → Wp (d + 5, 228, 86, 0, 0, [some (fA 122), some (fI l1), some (fJ l2), none, o4', some (fI l5), some (fI l6'), o7', o8'], []) (156, fjl L, M') Q) (hE : ∀ (e : fM) (o4' o6' o7' o8' : Option fV), r = .inr (.inl e) → Wp (d + 5, 228, 190, 0, 0, [some (fA 122), some (fI l1), some (fJ l2), none, o4', some (fI l5), o6', o7', o8'], []) (156, fjl L, e) Q) (hR : ∀ (v : (Int × fM)), r = .inr (.inr v) → Q (oI v.1) (156, fjl L, v.2)) : Wp (d + 5, 228, 104, 0, 0, [some (fA 122), some (fI l1), some (fJ l2), none, o4, some (fI l5), some (fI l6), o7, o8], [fI t0]) (156, fjl L, M) Q := by
  unfold s_X12_readPiano_j104 at h
  refine Wp.run 3 (f' := (d + 5, 228, 109, 0, 0, [some (fA 122), some (fI l1), some (fJ l2), none, _, some (fI l5), some (fI l6), some (fI t0), _], [fI 3, fI l6])) (h' := (156, fjl L, M)) rfl trivial ?_
  refine Wp.br rfl (fun (c : 3 ≤ l6) => ?_) (fun (c : ¬ (3 ≤ l6)) => ?_)
  · replace h := fps c h
    refine Wp.run 2 (f' := (d + 5, 228, 120, 0, 0, [some (fA 122), some (fI l1), some (fJ l2), none, _, some (fI l5), some (fI l6), some (fI t0), _], [fI 3, fI l6])) (h' := (156, fjl L, M)) rfl trivial ?_
    refine Wp.br rfl (fun (c : ¬ l6 = 3) => ?_) (fun (c : ¬ (¬ l6 = 3)) => ?_)
    · replace h := fps c h
      refine Wp.run 2 (f' := (d + 5, 228, 132, 0, 0, [some (fA 122), some (fI l1), some (fJ l2), none, _, some (fI l5), some (fI l6), some (fI t0), _], [fI 4, fI l6])) (h' := (156, fjl L, M)) rfl trivial ?_
      refine Wp.br rfl (fun (c : ¬ l6 = 4) => ?_) (fun (c : ¬ (¬ l6 = 4)) => ?_)
      · replace h := fps c h
        refine Wp.run 2 (f' := (d + 5, 228, 144, 0, 0, [some (fA 122), some (fI l1), some (fJ l2), none, _, some (fI l5), some (fI l6), some (fI t0), _], [fI 5, fI l6])) (h' := (156, fjl L, M)) rfl trivial ?_
        refine Wp.br rfl (fun (c : ¬ l6 = 5) => ?_) (fun (c : ¬ (¬ l6 = 5)) => ?_)
        · replace h := fps c h
          refine Wp.run 1 (f' := (d + 5, 228, 155, 0, 0, [some (fA 122), some (fI l1), some (fJ l2), none, _, some (fI l5), some (fI l6), some (fI t0), _], [fI 9])) (h' := (156, fjl L, M)) rfl trivial ?_
          exact s_X12_readPiano_j155_ok h hC hE hR
        · replace h := fng c h
          refine Wp.run 2 (f' := (d + 5, 228, 155, 0, 0, [some (fA 122), some (fI l1), some (fJ l2), none, _, some (fI l5), some (fI l6), some (fI t0), _], [fI 9999])) (h' := (156, fjl L, M)) rfl trivial ?_
          exact s_X12_readPiano_j155_ok h hC hE hR
      · replace h := fng c h
        refine Wp.run 2 (f' := (d + 5, 228, 155, 0, 0, [some (fA 122), some (fI l1), some (fJ l2), none, _, some (fI l5), some (fI l6), some (fI t0), _], [fI 200])) (h' := (156, fjl L, M)) rfl trivial ?_
        exact s_X12_readPiano_j155_ok h hC hE hR
    · replace h := fng c h
      refine Wp.run 2 (f' := (d + 5, 228, 155, 0, 0, [some (fA 122), some (fI l1), some (fJ l2), none, _, some (fI l5), some (fI l6), some (fI t0), _], [fI 999])) (h' := (156, fjl L, M)) rfl trivial ?_
      exact s_X12_readPiano_j155_ok h hC hE hR
  · replace h := fng c h
    refine Wp.run 2 (f' := (d + 5, 228, 155, 0, 0, [some (fA 122), some (fI l1), some (fJ l2), none, _, some (fI l5), some (fI l6), some (fI t0), _], [fI 99])) (h' := (156, fjl L, M)) rfl trivial ?_
    exact s_X12_readPiano_j155_ok h hC hE hR
theorem s_X12_readPiano_j104_fr {M : fM} {l1 l2 l5 l6 t0 : Int} {r : ((Int × fM) ⊕ (fM ⊕ (Int × fM)))} (h : s_X12_readPiano_j104 M l1 l2 l5 l6 t0 = some r) : fSame s_X12_readPiano_mods M (Sum.elim (fun s => s.2) (Sum.elim (fun e => e) (fun v => v.2)) r) := by
  unfold s_X12_readPiano_j104 at h
  by_cases c : 3 ≤ l6
  · replace h := fps c h
    by_cases c : ¬ l6 = 3
    · replace h := fps c h
      by_cases c : ¬ l6 = 4
      · replace h := fps c h
        by_cases c : ¬ l6 = 5
        · replace h := fps c h
          exact fs_trans fs_refl (s_X12_readPiano_j155_fr h)
        · replace h := fng c h
          exact fs_trans fs_refl (s_X12_readPiano_j155_fr h)
      · replace h := fng c h
        exact fs_trans fs_refl (s_X12_readPiano_j155_fr h)
    · replace h := fng c h
      exact fs_trans fs_refl (s_X12_readPiano_j155_fr h)
  · replace h := fng c h
    exact fs_trans fs_refl (s_X12_readPiano_j155_fr h)
noncomputable def s_X12_readPiano_b86 (M : fM) (l1 l2 l5 l6 : Int) : Option ((Int × fM) ⊕ (fM ⊕ (Int × fM))) :=
  if 7 ≤ l6 then
    some (.inr (.inl M))
  else
    if ¬ l6 = 3 then
      s_X12_readPiano_j104 M l1 l2 l5 l6 0
    else
      s_X12_readPiano_j104 M l1 l2 l5 l6 1
theorem s_X12_readPiano_b86_ok {d L : Nat} {M : fM} {l1 l2 l5 l6 : Int} {o4 o7 o8 : Option fV} {r : ((Int × fM) ⊕ (fM ⊕ (Int × fM)))} {Q : fO → fH → Prop} (h : s_X12_readPiano_b86 M l1 l2 l5 l6 = some r) (hC : ∀ (l6' : Int) (M' : fM) (o4' o7' o8' : Option fV), r = .inl (l6', M') → Wp (d + 5, 228, 86, 0, 0, [some (fA 122), some (fI l1), some (fJ l2), none, o4', some (fI l5), some (fI l6'), o7', o8'], []) (156, fjl L, M') Q) (hE : ∀ (e : fM) (o4' o6' o7' o8' : Option fV), r = .inr (.inl e) → Wp (d + 5, 228, 190, 0, 0, [some (fA 122), some (fI l1), some (fJ l2), none, o4', some (fI l5), o6', o7', o8'], []) (156, fjl L, e) Q) (hR : ∀ (v : (Int × fM)), r = .inr (.inr v) → Q (oI v.1) (156, fjl L, v.2)) : Wp (d + 5, 228, 86, 0, 0, [some (fA 122), some (fI l1), some (fJ l2), none, o4, some (fI l5), some (fI l6), o7, o8], []) (156, fjl L, M) Q := by
  unfold s_X12_readPiano_b86 at h
  refine Wp.run 2 (f' := (d + 5, 228, 90, 0, 0, [some (fA 122), some (fI l1), some (fJ l2), none, _, some (fI l5), some (fI l6), _, _], [fI 7, fI l6])) (h' := (156, fjl L, M)) rfl trivial ?_
  refine Wp.br rfl (fun (c : 7 ≤ l6) => ?_) (fun (c : ¬ (7 ≤ l6)) => ?_)
  · replace h := fps c h
    exact hE _ _ _ _ _ (Option.some.inj h).symm
  · replace h := fng c h
    refine Wp.run 2 (f' := (d + 5, 228, 96, 0, 0, [some (fA 122), some (fI l1), some (fJ l2), none, _, some (fI l5), some (fI l6), _, _], [fI 3, fI l6])) (h' := (156, fjl L, M)) rfl trivial ?_
    refine Wp.br rfl (fun (c : ¬ l6 = 3) => ?_) (fun (c : ¬ (¬ l6 = 3)) => ?_)
    · replace h := fps c h
      refine Wp.run 1 (f' := (d + 5, 228, 104, 0, 0, [some (fA 122), some (fI l1), some (fJ l2), none, _, some (fI l5), some (fI l6), _, _], [fI 0])) (h' := (156, fjl L, M)) rfl trivial ?_
      exact s_X12_readPiano_j104_ok h hC hE hR
    · replace h := fng c h
      refine Wp.run 2 (f' := (d + 5, 228, 104, 0, 0, [some (fA 122), some (fI l1), some (fJ l2), none, _, some (fI l5), some (fI l6), _, _], [fI 1])) (h' := (156, fjl L, M)) rfl trivial ?_
      exact s_X12_readPiano_j104_ok h hC hE hR
theorem s_X12_readPiano_b86_fr {M : fM} {l1 l2 l5 l6 : Int} {r : ((Int × fM) ⊕ (fM ⊕ (Int × fM)))} (h : s_X12_readPiano_b86 M l1 l2 l5 l6 = some r) : fSame s_X12_readPiano_mods M (Sum.elim (fun s => s.2) (Sum.elim (fun e => e) (fun v => v.2)) r) := by
  unfold s_X12_readPiano_b86 at h
  by_cases c : 7 ≤ l6
  · replace h := fps c h
    obtain rfl := Option.some.inj h
    exact fs_refl
  · replace h := fng c h
    by_cases c : ¬ l6 = 3
    · replace h := fps c h
      exact fs_trans fs_refl (s_X12_readPiano_j104_fr h)
    · replace h := fng c h
      exact fs_trans fs_refl (s_X12_readPiano_j104_fr h)
noncomputable def s_X12_readPiano_l86 (l1 l2 l5 : Int) (s : (Int × fM)) : Option (fM ⊕ (Int × fM)) := fLp (fun s => s_X12_readPiano_b86 s.2 l1 l2 l5 s.1) s
theorem s_X12_readPiano_l86_ok {d L : Nat} {M : fM} {l1 l2 l5 l6 : Int} {o4 o7 o8 : Option fV} {r : (fM ⊕ (Int × fM))} {Q : fO → fH → Prop} (h : s_X12_readPiano_l86 l1 l2 l5 (l6, M) = some r) (hE : ∀ (e : fM) (o4' o6' o7' o8' : Option fV), r = .inl e → Wp (d + 5, 228, 190, 0, 0, [some (fA 122), some (fI l1), some (fJ l2), none, o4', some (fI l5), o6', o7', o8'], []) (156, fjl L, e) Q) (hR : ∀ (v : (Int × fM)), r = .inr v → Q (oI v.1) (156, fjl L, v.2)) : Wp (d + 5, 228, 86, 0, 0, [some (fA 122), some (fI l1), some (fJ l2), none, o4, some (fI l5), some (fI l6), o7, o8], []) (156, fjl L, M) Q := by
  refine fLp_wp (W := fun s => ∀ (o4 o7 o8 : Option fV), Wp (d + 5, 228, 86, 0, 0, [some (fA 122), some (fI l1), some (fJ l2), none, o4, some (fI l5), some (fI s.1), o7, o8], []) (156, fjl L, s.2) Q) (e := r) ?_ h _ _ _
  intro s r1 h hC hX o4 o7 o8
  refine s_X12_readPiano_b86_ok (d := d) h (fun a0 a1 _ _ _ e1 => ?_) (fun e u0 u1 u2 u3 e1 => hE e u0 u1 u2 u3 (hX _ e1).symm) (fun v e1 => hR v (hX _ e1).symm)
  exact hC _ e1 _ _ _
theorem s_X12_readPiano_l86_fr {M : fM} {l1 l2 l5 l6 : Int} {r : (fM ⊕ (Int × fM))} (h : s_X12_readPiano_l86 l1 l2 l5 (l6, M) = some r) : fSame s_X12_readPiano_mods M ((Sum.elim (fun e => e) (fun v => v.2)) r) := by
  refine fLp_inv (I := fun s => fSame s_X12_readPiano_mods M s.2) (J := fun r => fSame s_X12_readPiano_mods M ((Sum.elim (fun e => e) (fun v => v.2)) r)) h fs_refl (fun s s1 hs hb => ?_) (fun s e hs hb => ?_)
  · exact fs_trans hs (s_X12_readPiano_b86_fr hb)
  · exact fs_trans hs (s_X12_readPiano_b86_fr hb)
noncomputable def s_X12_readPiano (M : fM) : Option (Int × fM) :=
  if ¬ (M 124 817) = 16 then
    (s_X12_next M).bind fun y22 =>
      (s_X12_fresh y22.2).bind fun y26 =>
        if ¬ y26.1 = 0 then
          (s_X12_next y26.2).bind fun y40 =>
            (s_X12_kind y40.2).bind fun y44 =>
              if 0 ≤ y44 then
                (s_X12_next y40.2).bind fun y61 =>
                  if fin (10 * (M 124 817)) ∧ fin (820 + (10 * (M 124 817))) ∧ (0 ≤ (820 + (10 * (M 124 817))) ∧ (820 + (10 * (M 124 817))) < 1290) then
                    (s_X12_readPiano_l86 (M 124 817) (y26.2 122 17) (820 + (10 * (M 124 817))) (1, (fup y61.2 124 (820 + (10 * (M 124 817))).toNat y44))).bind fun e86 =>
                      Sum.elim (fun x86 =>
                        if fin ((820 + (10 * (M 124 817))) + 9) ∧ (0 ≤ ((820 + (10 * (M 124 817))) + 9) ∧ ((820 + (10 * (M 124 817))) + 9) < 1290) then
                          (s_X12_more (fup x86 124 ((820 + (10 * (M 124 817))) + 9).toNat 1440) (M 124 817)).bind fun y205 =>
                            if ¬ y205.1 = 0 then
                              if fin (28 + (M 124 817)) ∧ (0 ≤ (28 + (M 124 817)) ∧ (28 + (M 124 817)) < 56) ∧ fin ((y205.2 124 817) + 1) then
                                some (1, (fup (fup y205.2 126 (28 + (M 124 817)).toNat (y26.2 122 17)) 124 817 ((y205.2 124 817) + 1)))
                              else none
                            else
                              some (0, y205.2)
                        else none)
                        (fun v86 => some v86) e86
                  else none
              else
                (s_X12_bad y40.2 1).bind fun y56 =>
                  if b01 y56.1 then
                    some (y56.1, y56.2)
                  else none
        else
          some (0, y26.2)
  else
    (s_X12_bad M 4).bind fun y17 =>
      if b01 y17.1 then
        some (y17.1, y17.2)
      else none
theorem s_X12_readPiano_ok {d L : Nat} {M : fM} {r : (Int × fM)} {Q : fO → fH → Prop} (h : s_X12_readPiano M = some r) (H : Q (oI r.1) (156, fjl L, r.2)) : Wp (d + 5, 228, 0, 0, 0, [some (fA 122), none, none, none, none, none, none, none, none], []) (156, fjl L, M) Q := by
  unfold s_X12_readPiano at h
  refine Wp.run 7 (P := [(0 : Int) ≤ 817 ∧ (817 : Int) < 1290]) (f' := (d + 5, 228, 12, 0, 0, [some (fA 122), some (fI (M 124 817)), _, _, _, _, _, _, _], [fI 16, fI (M 124 817)])) (h' := (156, fjl L, M)) rfl ?_ ?_
  · exact (by decide : (0 : Int) ≤ 817 ∧ (817 : Int) < 1290)
  refine Wp.br rfl (fun (c : ¬ (M 124 817) = 16) => ?_) (fun (c : ¬ (¬ (M 124 817) = 16)) => ?_)
  · replace h := fps c h
    refine Wp.run 1 (f' := (d + 5, 228, 22, 0, 0, [some (fA 122), some (fI (M 124 817)), _, _, _, _, _, _, _], [fA 122])) (h' := (156, fjl L, M)) rfl trivial ?_
    obtain ⟨y22, hy, h⟩ := fbd h
    refine Wp.call rfl (by decide) (s_X12_next_ok (d := d + 3) hy ?_)
    show Wp (d + 5, 228, 25, 0, 0, [some (fA 122), some (fI (M 124 817)), _, _, _, _, _, _, _], []) (156, fjl L, y22.2) Q
    refine Wp.run 1 (f' := (d + 5, 228, 26, 0, 0, [some (fA 122), some (fI (M 124 817)), _, _, _, _, _, _, _], [fA 122])) (h' := (156, fjl L, y22.2)) rfl trivial ?_
    obtain ⟨y26, hy, h⟩ := fbd h
    refine Wp.call rfl (by decide) (s_X12_fresh_ok (d := d + 3) hy ?_)
    show Wp (d + 5, 228, 29, 0, 0, [some (fA 122), some (fI (M 124 817)), _, _, _, _, _, _, _], [fI y26.1]) (156, fjl L, y26.2) Q
    refine Wp.br rfl (fun (c : ¬ y26.1 = 0) => ?_) (fun (c : ¬ (¬ y26.1 = 0)) => ?_)
    · replace h := fps c h
      refine Wp.run 4 (f' := (d + 5, 228, 40, 0, 0, [some (fA 122), some (fI (M 124 817)), some (fJ (y26.2 122 17)), none, _, _, _, _, _], [fA 122])) (h' := (156, fjl L, y26.2)) rfl trivial ?_
      obtain ⟨y40, hy, h⟩ := fbd h
      refine Wp.call rfl (by decide) (s_X12_next_ok (d := d + 3) hy ?_)
      show Wp (d + 5, 228, 43, 0, 0, [some (fA 122), some (fI (M 124 817)), some (fJ (y26.2 122 17)), none, _, _, _, _, _], []) (156, fjl L, y40.2) Q
      refine Wp.run 1 (f' := (d + 5, 228, 44, 0, 0, [some (fA 122), some (fI (M 124 817)), some (fJ (y26.2 122 17)), none, _, _, _, _, _], [fA 122])) (h' := (156, fjl L, y40.2)) rfl trivial ?_
      obtain ⟨y44, hy, h⟩ := fbd h
      refine Wp.call rfl (by decide) (s_X12_kind_ok (d := d + 3) hy ?_)
      show Wp (d + 5, 228, 47, 0, 0, [some (fA 122), some (fI (M 124 817)), some (fJ (y26.2 122 17)), none, _, _, _, _, _], [fI y44]) (156, fjl L, y40.2) Q
      refine Wp.run 2 (f' := (d + 5, 228, 51, 0, 0, [some (fA 122), some (fI (M 124 817)), some (fJ (y26.2 122 17)), none, some (fI y44), _, _, _, _], [fI y44])) (h' := (156, fjl L, y40.2)) rfl trivial ?_
      refine Wp.br rfl (fun (c : 0 ≤ y44) => ?_) (fun (c : ¬ (0 ≤ y44)) => ?_)
      · replace h := fps c h
        refine Wp.run 1 (f' := (d + 5, 228, 61, 0, 0, [some (fA 122), some (fI (M 124 817)), some (fJ (y26.2 122 17)), none, some (fI y44), _, _, _, _], [fA 122])) (h' := (156, fjl L, y40.2)) rfl trivial ?_
        obtain ⟨y61, hy, h⟩ := fbd h
        refine Wp.call rfl (by decide) (s_X12_next_ok (d := d + 3) hy ?_)
        show Wp (d + 5, 228, 64, 0, 0, [some (fA 122), some (fI (M 124 817)), some (fJ (y26.2 122 17)), none, some (fI y44), _, _, _, _], []) (156, fjl L, y61.2) Q
        obtain ⟨⟨g0, g1, g2⟩, h⟩ := fgd h
        refine Wp.run 13 (P := [0 ≤ (fw (820 + (fw (10 * (M 124 817))))) ∧ (fw (820 + (fw (10 * (M 124 817))))) < 1290]) (f' := (d + 5, 228, 86, 0, 0, [some (fA 122), some (fI (M 124 817)), some (fJ (y26.2 122 17)), none, _, some (fI (fw (820 + (fw (10 * (M 124 817)))))), some (fI 1), _, _], [])) (h' := (156, fjl L, (fup y61.2 124 (fw (820 + (fw (10 * (M 124 817))))).toNat y44))) rfl ?_ ?_
        · rw [fw_id g0, fw_id g1]; exact g2
        rw [fw_id g0, fw_id g1]
        obtain ⟨e86, hy, h⟩ := fbd h
        refine s_X12_readPiano_l86_ok hy (fun x86 u4 u6 u7 u8 ex => ?_) (fun v86 ex => ?_)
        · subst ex
          replace h := fsl h
          show Wp (d + 5, 228, 190, 0, 0, [some (fA 122), some (fI (M 124 817)), some (fJ (y26.2 122 17)), none, u4, some (fI (820 + (10 * (M 124 817)))), u6, u7, u8], []) (156, fjl L, x86) Q
          obtain ⟨⟨g0, g1⟩, h⟩ := fgd h
          refine Wp.run 9 (P := [0 ≤ (fw ((820 + (10 * (M 124 817))) + 9)) ∧ (fw ((820 + (10 * (M 124 817))) + 9)) < 1290]) (f' := (d + 5, 228, 205, 0, 0, [some (fA 122), some (fI (M 124 817)), some (fJ (y26.2 122 17)), none, _, _, _, _, _], [fI (M 124 817), fA 122])) (h' := (156, fjl L, (fup x86 124 (fw ((820 + (10 * (M 124 817))) + 9)).toNat 1440))) rfl ?_ ?_
          · rw [fw_id g0]; exact g1
          rw [fw_id g0]
          obtain ⟨y205, hy, h⟩ := fbd h
          refine Wp.call rfl (by decide) (s_X12_more_ok (d := d + 0) hy ?_)
          show Wp (d + 5, 228, 208, 0, 0, [some (fA 122), some (fI (M 124 817)), some (fJ (y26.2 122 17)), none, _, _, _, _, _], [fI y205.1]) (156, fjl L, y205.2) Q
          refine Wp.br rfl (fun (c : ¬ y205.1 = 0) => ?_) (fun (c : ¬ (¬ y205.1 = 0)) => ?_)
          · replace h := fps c h
            obtain ⟨⟨g0, g1, g2⟩, h⟩ := fgd h
            refine Wp.run 15 (P := [0 ≤ (fw (28 + (M 124 817))) ∧ (fw (28 + (M 124 817))) < 56, (0 : Int) ≤ 817 ∧ (817 : Int) < 1290, (0 : Int) ≤ 817 ∧ (817 : Int) < 1290]) (f' := (d + 5, 228, 235, 0, 0, [_, _, _, _, _, _, _, _, _], [])) (h' := (156, fjl L, (fup (fup y205.2 126 (fw (28 + (M 124 817))).toNat (y26.2 122 17)) 124 817 (fw ((y205.2 124 817) + 1))))) rfl ?_ ?_
            · rw [fw_id g0]; exact ⟨g1, (by decide : (0 : Int) ≤ 817 ∧ (817 : Int) < 1290), (by decide : (0 : Int) ≤ 817 ∧ (817 : Int) < 1290)⟩
            rw [fw_id g0, fw_id g2]
            refine Wp.run 1 (f' := (d + 5, 228, 236, 0, 0, [_, _, _, _, _, _, _, _, _], [fI 1])) (h' := (156, fjl L, (fup (fup y205.2 126 (28 + (M 124 817)).toNat (y26.2 122 17)) 124 817 ((y205.2 124 817) + 1)))) rfl trivial ?_
            obtain rfl := Option.some.inj h
            exact Wp.done rfl (by decide) H
          · replace h := fng c h
            refine Wp.run 1 (f' := (d + 5, 228, 212, 0, 0, [_, _, _, _, _, _, _, _, _], [fI 0])) (h' := (156, fjl L, y205.2)) rfl trivial ?_
            obtain rfl := Option.some.inj h
            exact Wp.done rfl (by decide) H
        · subst ex
          replace h := fsr h
          obtain rfl := Option.some.inj h
          exact H
      · replace h := fng c h
        refine Wp.run 2 (f' := (d + 5, 228, 56, 0, 0, [_, _, _, _, _, _, _, _, _], [fI 1, fA 122])) (h' := (156, fjl L, y40.2)) rfl trivial ?_
        obtain ⟨y56, hy, h⟩ := fbd h
        refine Wp.call rfl (by decide) (s_X12_bad_ok (d := d + 4) hy ?_)
        show Wp (d + 5, 228, 59, 0, 0, [_, _, _, _, _, _, _, _, _], [fI y56.1]) (156, fjl L, y56.2) Q
        obtain ⟨g0, h⟩ := fgd h
        obtain rfl := Option.some.inj h
        exact Wp.done rfl ⟨g0, by decide, by decide, by decide⟩ H
    · replace h := fng c h
      refine Wp.run 1 (f' := (d + 5, 228, 33, 0, 0, [_, _, _, _, _, _, _, _, _], [fI 0])) (h' := (156, fjl L, y26.2)) rfl trivial ?_
      obtain rfl := Option.some.inj h
      exact Wp.done rfl (by decide) H
  · replace h := fng c h
    refine Wp.run 2 (f' := (d + 5, 228, 17, 0, 0, [_, _, _, _, _, _, _, _, _], [fI 4, fA 122])) (h' := (156, fjl L, M)) rfl trivial ?_
    obtain ⟨y17, hy, h⟩ := fbd h
    refine Wp.call rfl (by decide) (s_X12_bad_ok (d := d + 4) hy ?_)
    show Wp (d + 5, 228, 20, 0, 0, [_, _, _, _, _, _, _, _, _], [fI y17.1]) (156, fjl L, y17.2) Q
    obtain ⟨g0, h⟩ := fgd h
    obtain rfl := Option.some.inj h
    exact Wp.done rfl ⟨g0, by decide, by decide, by decide⟩ H
theorem s_X12_readPiano_fr {M : fM} {r : (Int × fM)} (h : s_X12_readPiano M = some r) : fSame s_X12_readPiano_mods M r.2 := by
  unfold s_X12_readPiano at h
  by_cases c : ¬ (M 124 817) = 16
  · replace h := fps c h
    obtain ⟨y22, hy, h⟩ := fbd h
    have k22 := fs_trans (l := s_X12_readPiano_mods) fs_refl (fs_mono (l := s_X12_next_mods) (by decide) (s_X12_next_fr hy))
    obtain ⟨y26, hy, h⟩ := fbd h
    have k26 := fs_trans (l := s_X12_readPiano_mods) k22 (fs_mono (l := s_X12_fresh_mods) (by decide) (s_X12_fresh_fr hy))
    by_cases c : ¬ y26.1 = 0
    · replace h := fps c h
      obtain ⟨y40, hy, h⟩ := fbd h
      have k40 := fs_trans (l := s_X12_readPiano_mods) k26 (fs_mono (l := s_X12_next_mods) (by decide) (s_X12_next_fr hy))
      obtain ⟨y44, hy, h⟩ := fbd h
      by_cases c : 0 ≤ y44
      · replace h := fps c h
        obtain ⟨y61, hy, h⟩ := fbd h
        have k61 := fs_trans (l := s_X12_readPiano_mods) k40 (fs_mono (l := s_X12_next_mods) (by decide) (s_X12_next_fr hy))
        replace h := (fgd h).2
        obtain ⟨e86, hy, h⟩ := fbd h
        have k86 := fs_trans (l := s_X12_readPiano_mods) (fs_up k61 (.inl (by decide))) (s_X12_readPiano_l86_fr hy)
        rcases e86 with x86 | v86
        · replace h := fsl h
          replace h := (fgd h).2
          obtain ⟨y205, hy, h⟩ := fbd h
          have k205 := fs_trans (l := s_X12_readPiano_mods) (fs_up k86 (.inl (by decide))) (fs_mono (l := s_X12_more_mods) (by decide) (s_X12_more_fr hy))
          by_cases c : ¬ y205.1 = 0
          · replace h := fps c h
            replace h := (fgd h).2
            obtain rfl := Option.some.inj h
            exact fs_up (fs_up k205 (.inl (by decide))) (.inl (by decide))
          · replace h := fng c h
            obtain rfl := Option.some.inj h
            exact k205
        · replace h := fsr h
          obtain rfl := Option.some.inj h
          exact k86
      · replace h := fng c h
        obtain ⟨y56, hy, h⟩ := fbd h
        have k56 := fs_trans (l := s_X12_readPiano_mods) k40 (fs_mono (l := s_X12_bad_mods) (by decide) (s_X12_bad_fr hy))
        replace h := (fgd h).2
        obtain rfl := Option.some.inj h
        exact k56
    · replace h := fng c h
      obtain rfl := Option.some.inj h
      exact k26
  · replace h := fng c h
    obtain ⟨y17, hy, h⟩ := fbd h
    have k17 := fs_trans (l := s_X12_readPiano_mods) fs_refl (fs_mono (l := s_X12_bad_mods) (by decide) (s_X12_bad_fr hy))
    replace h := (fgd h).2
    obtain rfl := Option.some.inj h
    exact k17
noncomputable def s_X12_isSign (M : fM) (l1 : Int) : Option Int :=
  if ¬ (M 122 11) = 3 then
    some 0
  else
    if ¬ (M 122 14) = l1 then
      some 0
    else
      some 1
theorem s_X12_isSign_ok {d L : Nat} {M : fM} {l1 : Int} {r : Int} {Q : fO → fH → Prop} (h : s_X12_isSign M l1 = some r) (H : Q (oI r) (156, fjl L, M)) : Wp (d + 0, 211, 0, 0, 0, [some (fA 122), some (fI l1)], []) (156, fjl L, M) Q := by
  unfold s_X12_isSign at h
  refine Wp.run 3 (f' := (d + 0, 211, 5, 0, 0, [some (fA 122), some (fI l1)], [fI 3, fI (M 122 11)])) (h' := (156, fjl L, M)) rfl trivial ?_
  refine Wp.br rfl (fun (c : ¬ (M 122 11) = 3) => ?_) (fun (c : ¬ (¬ (M 122 11) = 3)) => ?_)
  · replace h := fps c h
    refine Wp.run 1 (f' := (d + 0, 211, 21, 0, 0, [_, _], [fI 0])) (h' := (156, fjl L, M)) rfl trivial ?_
    obtain rfl := Option.some.inj h
    exact Wp.done rfl (by decide) H
  · replace h := fng c h
    refine Wp.run 3 (f' := (d + 0, 211, 13, 0, 0, [_, _], [fI l1, fI (M 122 14)])) (h' := (156, fjl L, M)) rfl trivial ?_
    refine Wp.br rfl (fun (c : ¬ (M 122 14) = l1) => ?_) (fun (c : ¬ (¬ (M 122 14) = l1)) => ?_)
    · replace h := fps c h
      refine Wp.run 1 (f' := (d + 0, 211, 21, 0, 0, [_, _], [fI 0])) (h' := (156, fjl L, M)) rfl trivial ?_
      obtain rfl := Option.some.inj h
      exact Wp.done rfl (by decide) H
    · replace h := fng c h
      refine Wp.run 2 (f' := (d + 0, 211, 21, 0, 0, [_, _], [fI 1])) (h' := (156, fjl L, M)) rfl trivial ?_
      obtain rfl := Option.some.inj h
      exact Wp.done rfl (by decide) H
abbrev s_X12_takesSigned_mods : List (Nat × Option Nat) := [(122, some 4), (122, some 11), (122, some 12), (122, some 13), (122, some 14), (122, some 15), (122, some 16), (122, some 17), (122, some 18)]
noncomputable def s_X12_takesSigned_j15 (M : fM) (l1 l2 : Int) : Option (Int × fM) :=
  (s_X12_takes M 0 l1).bind fun y18 =>
    if ¬ y18.1 = 0 then
      if l2 = 0 then
        some (1, (fup y18.2 122 18 (y18.2 122 18)))
      else
        if fin (-(y18.2 122 18)) then
          some (1, (fup y18.2 122 18 (-(y18.2 122 18))))
        else none
    else
      some (0, y18.2)
theorem s_X12_takesSigned_j15_ok {d L : Nat} {M : fM} {l1 l2 : Int} {r : (Int × fM)} {Q : fO → fH → Prop} (h : s_X12_takesSigned_j15 M l1 l2 = some r) (H : Q (oI r.1) (156, fjl L, r.2)) : Wp (d + 3, 216, 15, 0, 0, [some (fA 122), some (fI l1), some (fI l2)], []) (156, fjl L, M) Q := by
  unfold s_X12_takesSigned_j15 at h
  refine Wp.run 3 (f' := (d + 3, 216, 18, 0, 0, [some (fA 122), _, some (fI l2)], [fI l1, fI 0, fA 122])) (h' := (156, fjl L, M)) rfl trivial ?_
  obtain ⟨y18, hy, h⟩ := fbd h
  refine Wp.call rfl (by decide) (s_X12_takes_ok (d := d + 0) hy ?_)
  show Wp (d + 3, 216, 21, 0, 0, [some (fA 122), _, some (fI l2)], [fI y18.1]) (156, fjl L, y18.2) Q
  refine Wp.br rfl (fun (c : ¬ y18.1 = 0) => ?_) (fun (c : ¬ (¬ y18.1 = 0)) => ?_)
  · replace h := fps c h
    refine Wp.run 2 (f' := (d + 3, 216, 28, 0, 0, [some (fA 122), _, _], [fI l2, fA 122])) (h' := (156, fjl L, y18.2)) rfl trivial ?_
    refine Wp.br rfl (fun (c : l2 = 0) => ?_) (fun (c : ¬ (l2 = 0)) => ?_)
    · replace h := fps c h
      refine Wp.run 4 (f' := (d + 3, 216, 47, 0, 0, [_, _, _], [fI 1])) (h' := (156, fjl L, (fup y18.2 122 18 (y18.2 122 18)))) rfl trivial ?_
      obtain rfl := Option.some.inj h
      exact Wp.done rfl (by decide) H
    · replace h := fng c h
      obtain ⟨g0, h⟩ := fgd h
      refine Wp.run 6 (f' := (d + 3, 216, 47, 0, 0, [_, _, _], [fI 1])) (h' := (156, fjl L, (fup y18.2 122 18 (fw (-(y18.2 122 18)))))) rfl trivial ?_
      rw [fw_id g0]
      obtain rfl := Option.some.inj h
      exact Wp.done rfl (by decide) H
  · replace h := fng c h
    refine Wp.run 1 (f' := (d + 3, 216, 25, 0, 0, [_, _, _], [fI 0])) (h' := (156, fjl L, y18.2)) rfl trivial ?_
    obtain rfl := Option.some.inj h
    exact Wp.done rfl (by decide) H
theorem s_X12_takesSigned_j15_fr {M : fM} {l1 l2 : Int} {r : (Int × fM)} (h : s_X12_takesSigned_j15 M l1 l2 = some r) : fSame s_X12_takesSigned_mods M r.2 := by
  unfold s_X12_takesSigned_j15 at h
  obtain ⟨y18, hy, h⟩ := fbd h
  have k18 := fs_trans (l := s_X12_takesSigned_mods) fs_refl (fs_mono (l := s_X12_takes_mods) (by decide) (s_X12_takes_fr hy))
  by_cases c : ¬ y18.1 = 0
  · replace h := fps c h
    by_cases c : l2 = 0
    · replace h := fps c h
      obtain rfl := Option.some.inj h
      exact fs_up k18 (.inr (by decide))
    · replace h := fng c h
      replace h := (fgd h).2
      obtain rfl := Option.some.inj h
      exact fs_up k18 (.inr (by decide))
  · replace h := fng c h
    obtain rfl := Option.some.inj h
    exact k18
noncomputable def s_X12_takesSigned (M : fM) (l1 : Int) : Option (Int × fM) :=
  (s_X12_isSign M 45).bind fun y3 =>
    if y3 = 0 then
      s_X12_takesSigned_j15 M l1 y3
    else
      (s_X12_next M).bind fun y12 =>
        s_X12_takesSigned_j15 y12.2 l1 y3
theorem s_X12_takesSigned_ok {d L : Nat} {M : fM} {l1 : Int} {r : (Int × fM)} {Q : fO → fH → Prop} (h : s_X12_takesSigned M l1 = some r) (H : Q (oI r.1) (156, fjl L, r.2)) : Wp (d + 3, 216, 0, 0, 0, [some (fA 122), some (fI l1), none], []) (156, fjl L, M) Q := by
  unfold s_X12_takesSigned at h
  refine Wp.run 2 (f' := (d + 3, 216, 3, 0, 0, [some (fA 122), some (fI l1), _], [fI 45, fA 122])) (h' := (156, fjl L, M)) rfl trivial ?_
  obtain ⟨y3, hy, h⟩ := fbd h
  refine Wp.call rfl (by decide) (s_X12_isSign_ok (d := d + 2) hy ?_)
  show Wp (d + 3, 216, 6, 0, 0, [some (fA 122), some (fI l1), _], [fI y3]) (156, fjl L, M) Q
  refine Wp.run 2 (f' := (d + 3, 216, 8, 0, 0, [some (fA 122), some (fI l1), some (fI y3)], [fI y3])) (h' := (156, fjl L, M)) rfl trivial ?_
  refine Wp.br rfl (fun (c : y3 = 0) => ?_) (fun (c : ¬ (y3 = 0)) => ?_)
  · replace h := fps c h
    exact s_X12_takesSigned_j15_ok h H
  · replace h := fng c h
    refine Wp.run 1 (f' := (d + 3, 216, 12, 0, 0, [some (fA 122), some (fI l1), some (fI y3)], [fA 122])) (h' := (156, fjl L, M)) rfl trivial ?_
    obtain ⟨y12, hy, h⟩ := fbd h
    refine Wp.call rfl (by decide) (s_X12_next_ok (d := d + 1) hy ?_)
    show Wp (d + 3, 216, 15, 0, 0, [some (fA 122), some (fI l1), some (fI y3)], []) (156, fjl L, y12.2) Q
    exact s_X12_takesSigned_j15_ok h H
theorem s_X12_takesSigned_fr {M : fM} {l1 : Int} {r : (Int × fM)} (h : s_X12_takesSigned M l1 = some r) : fSame s_X12_takesSigned_mods M r.2 := by
  unfold s_X12_takesSigned at h
  obtain ⟨y3, hy, h⟩ := fbd h
  by_cases c : y3 = 0
  · replace h := fps c h
    exact fs_trans fs_refl (s_X12_takesSigned_j15_fr h)
  · replace h := fng c h
    obtain ⟨y12, hy, h⟩ := fbd h
    have k12 := fs_trans (l := s_X12_takesSigned_mods) fs_refl (fs_mono (l := s_X12_next_mods) (by decide) (s_X12_next_fr hy))
    exact fs_trans k12 (s_X12_takesSigned_j15_fr h)
abbrev s_X12_tuner_mods : List (Nat × Option Nat) := [(122, some 4), (122, some 11), (122, some 12), (122, some 13), (122, some 14), (122, some 15), (122, some 16), (122, some 17), (122, some 18), (124, none), (126, none)]
noncomputable def s_X12_tuner_b46 (M : fM) (l1 l2 l4 : Int) : Option ((Int × fM) ⊕ (fM ⊕ (Int × fM))) :=
  if 2 ≤ l4 then
    some (.inr (.inl M))
  else
    (s_X12_takes M 0 99).bind fun y56 =>
      if ¬ y56.1 = 0 then
        if fin (3 * l1) ∧ fin (1236 + (3 * l1)) ∧ fin ((1236 + (3 * l1)) + l4) ∧ (0 ≤ ((1236 + (3 * l1)) + l4) ∧ ((1236 + (3 * l1)) + l4) < 1290) then
          if fin (l4 + 1) then
            some (.inl ((l4 + 1), (fup y56.2 124 ((1236 + (3 * l1)) + l4).toNat (y56.2 122 18))))
          else none
        else none
      else
        some (.inr (.inr (0, y56.2)))
theorem s_X12_tuner_b46_ok {d L : Nat} {M : fM} {l1 l2 l4 : Int} {r : ((Int × fM) ⊕ (fM ⊕ (Int × fM)))} {Q : fO → fH → Prop} (h : s_X12_tuner_b46 M l1 l2 l4 = some r) (hC : ∀ (l4' : Int) (M' : fM), r = .inl (l4', M') → Wp (d + 4, 230, 46, 0, 0, [some (fA 122), some (fI l1), some (fJ l2), none, some (fI l4')], []) (156, fjl L, M') Q) (hE : ∀ (e : fM) (o4' : Option fV), r = .inr (.inl e) → Wp (d + 4, 230, 89, 0, 0, [some (fA 122), some (fI l1), some (fJ l2), none, o4'], []) (156, fjl L, e) Q) (hR : ∀ (v : (Int × fM)), r = .inr (.inr v) → Q (oI v.1) (156, fjl L, v.2)) : Wp (d + 4, 230, 46, 0, 0, [some (fA 122), some (fI l1), some (fJ l2), none, some (fI l4)], []) (156, fjl L, M) Q := by
  unfold s_X12_tuner_b46 at h
  refine Wp.run 2 (f' := (d + 4, 230, 49, 0, 0, [some (fA 122), some (fI l1), some (fJ l2), none, some (fI l4)], [fI 2, fI l4])) (h' := (156, fjl L, M)) rfl trivial ?_
  refine Wp.br rfl (fun (c : 2 ≤ l4) => ?_) (fun (c : ¬ (2 ≤ l4)) => ?_)
  · replace h := fps c h
    exact hE _ _ (Option.some.inj h).symm
  · replace h := fng c h
    refine Wp.run 3 (f' := (d + 4, 230, 56, 0, 0, [some (fA 122), some (fI l1), some (fJ l2), none, some (fI l4)], [fI 99, fI 0, fA 122])) (h' := (156, fjl L, M)) rfl trivial ?_
    obtain ⟨y56, hy, h⟩ := fbd h
    refine Wp.call rfl (by decide) (s_X12_takes_ok (d := d + 1) hy ?_)
    show Wp (d + 4, 230, 59, 0, 0, [some (fA 122), some (fI l1), some (fJ l2), none, some (fI l4)], [fI y56.1]) (156, fjl L, y56.2) Q
    refine Wp.br rfl (fun (c : ¬ y56.1 = 0) => ?_) (fun (c : ¬ (¬ y56.1 = 0)) => ?_)
    · replace h := fps c h
      obtain ⟨⟨g0, g1, g2, g3⟩, h⟩ := fgd h
      refine Wp.run 12 (P := [0 ≤ (fw ((fw (1236 + (fw (3 * l1)))) + l4)) ∧ (fw ((fw (1236 + (fw (3 * l1)))) + l4)) < 1290]) (f' := (d + 4, 230, 83, 0, 0, [some (fA 122), some (fI l1), some (fJ l2), none, some (fI l4)], [])) (h' := (156, fjl L, (fup y56.2 124 (fw ((fw (1236 + (fw (3 * l1)))) + l4)).toNat (y56.2 122 18)))) rfl ?_ ?_
      · rw [fw_id g0, fw_id g1, fw_id g2]; exact g3
      rw [fw_id g0, fw_id g1, fw_id g2]
      obtain ⟨g0, h⟩ := fgd h
      refine Wp.run 2 (f' := (d + 4, 230, 46, 0, 0, [some (fA 122), some (fI l1), some (fJ l2), none, some (fI (fw (l4 + 1)))], [])) (h' := (156, fjl L, (fup y56.2 124 ((1236 + (3 * l1)) + l4).toNat (y56.2 122 18)))) rfl trivial ?_
      rw [fw_id g0]
      exact hC _ _ (Option.some.inj h).symm
    · replace h := fng c h
      refine Wp.run 1 (f' := (d + 4, 230, 63, 0, 0, [_, _, _, _, _], [fI 0])) (h' := (156, fjl L, y56.2)) rfl trivial ?_
      exact Wp.done rfl (by decide) (hR _ (Option.some.inj h).symm)
theorem s_X12_tuner_b46_fr {M : fM} {l1 l2 l4 : Int} {r : ((Int × fM) ⊕ (fM ⊕ (Int × fM)))} (h : s_X12_tuner_b46 M l1 l2 l4 = some r) : fSame s_X12_tuner_mods M (Sum.elim (fun s => s.2) (Sum.elim (fun e => e) (fun v => v.2)) r) := by
  unfold s_X12_tuner_b46 at h
  by_cases c : 2 ≤ l4
  · replace h := fps c h
    obtain rfl := Option.some.inj h
    exact fs_refl
  · replace h := fng c h
    obtain ⟨y56, hy, h⟩ := fbd h
    have k56 := fs_trans (l := s_X12_tuner_mods) fs_refl (fs_mono (l := s_X12_takes_mods) (by decide) (s_X12_takes_fr hy))
    by_cases c : ¬ y56.1 = 0
    · replace h := fps c h
      replace h := (fgd h).2
      replace h := (fgd h).2
      obtain rfl := Option.some.inj h
      exact fs_up k56 (.inl (by decide))
    · replace h := fng c h
      obtain rfl := Option.some.inj h
      exact k56
noncomputable def s_X12_tuner_l46 (l1 l2 : Int) (s : (Int × fM)) : Option (fM ⊕ (Int × fM)) := fLp (fun s => s_X12_tuner_b46 s.2 l1 l2 s.1) s
theorem s_X12_tuner_l46_ok {d L : Nat} {M : fM} {l1 l2 l4 : Int} {r : (fM ⊕ (Int × fM))} {Q : fO → fH → Prop} (h : s_X12_tuner_l46 l1 l2 (l4, M) = some r) (hE : ∀ (e : fM) (o4' : Option fV), r = .inl e → Wp (d + 4, 230, 89, 0, 0, [some (fA 122), some (fI l1), some (fJ l2), none, o4'], []) (156, fjl L, e) Q) (hR : ∀ (v : (Int × fM)), r = .inr v → Q (oI v.1) (156, fjl L, v.2)) : Wp (d + 4, 230, 46, 0, 0, [some (fA 122), some (fI l1), some (fJ l2), none, some (fI l4)], []) (156, fjl L, M) Q := by
  refine fLp_wp (W := fun s => Wp (d + 4, 230, 46, 0, 0, [some (fA 122), some (fI l1), some (fJ l2), none, some (fI s.1)], []) (156, fjl L, s.2) Q) (e := r) ?_ h
  intro s r1 h hC hX
  refine s_X12_tuner_b46_ok (d := d) h (fun a0 a1 e1 => ?_) (fun e u0 e1 => hE e u0 (hX _ e1).symm) (fun v e1 => hR v (hX _ e1).symm)
  exact hC _ e1
theorem s_X12_tuner_l46_fr {M : fM} {l1 l2 l4 : Int} {r : (fM ⊕ (Int × fM))} (h : s_X12_tuner_l46 l1 l2 (l4, M) = some r) : fSame s_X12_tuner_mods M ((Sum.elim (fun e => e) (fun v => v.2)) r) := by
  refine fLp_inv (I := fun s => fSame s_X12_tuner_mods M s.2) (J := fun r => fSame s_X12_tuner_mods M ((Sum.elim (fun e => e) (fun v => v.2)) r)) h fs_refl (fun s s1 hs hb => ?_) (fun s e hs hb => ?_)
  · exact fs_trans hs (s_X12_tuner_b46_fr hb)
  · exact fs_trans hs (s_X12_tuner_b46_fr hb)
noncomputable def s_X12_tuner_j132 (M : fM) (l1 l2 : Int) : Option (Int × fM) :=
  if fin (44 + l1) ∧ (0 ≤ (44 + l1) ∧ (44 + l1) < 56) ∧ fin ((M 124 818) + 1) then
    some (1, (fup (fup M 126 (44 + l1).toNat l2) 124 818 ((M 124 818) + 1)))
  else none
theorem s_X12_tuner_j132_ok {d L : Nat} {M : fM} {l1 l2 : Int} {o4 : Option fV} {r : (Int × fM)} {Q : fO → fH → Prop} (h : s_X12_tuner_j132 M l1 l2 = some r) (H : Q (oI r.1) (156, fjl L, r.2)) : Wp (d + 4, 230, 132, 0, 0, [some (fA 122), some (fI l1), some (fJ l2), none, o4], []) (156, fjl L, M) Q := by
  unfold s_X12_tuner_j132 at h
  obtain ⟨⟨g0, g1, g2⟩, h⟩ := fgd h
  refine Wp.run 15 (P := [0 ≤ (fw (44 + l1)) ∧ (fw (44 + l1)) < 56, (0 : Int) ≤ 818 ∧ (818 : Int) < 1290, (0 : Int) ≤ 818 ∧ (818 : Int) < 1290]) (f' := (d + 4, 230, 154, 0, 0, [_, _, _, _, _], [])) (h' := (156, fjl L, (fup (fup M 126 (fw (44 + l1)).toNat l2) 124 818 (fw ((M 124 818) + 1))))) rfl ?_ ?_
  · rw [fw_id g0]; exact ⟨g1, (by decide : (0 : Int) ≤ 818 ∧ (818 : Int) < 1290), (by decide : (0 : Int) ≤ 818 ∧ (818 : Int) < 1290)⟩
  rw [fw_id g0, fw_id g2]
  refine Wp.run 1 (f' := (d + 4, 230, 155, 0, 0, [_, _, _, _, _], [fI 1])) (h' := (156, fjl L, (fup (fup M 126 (44 + l1).toNat l2) 124 818 ((M 124 818) + 1)))) rfl trivial ?_
  obtain rfl := Option.some.inj h
  exact Wp.done rfl (by decide) H
theorem s_X12_tuner_j132_fr {M : fM} {l1 l2 : Int} {r : (Int × fM)} (h : s_X12_tuner_j132 M l1 l2 = some r) : fSame s_X12_tuner_mods M r.2 := by
  unfold s_X12_tuner_j132 at h
  replace h := (fgd h).2
  obtain rfl := Option.some.inj h
  exact fs_up (fs_up fs_refl (.inl (by decide))) (.inl (by decide))
noncomputable def s_X12_tuner (M : fM) : Option (Int × fM) :=
  if ¬ (M 124 818) = 6 then
    (s_X12_next M).bind fun y22 =>
      (s_X12_fresh y22.2).bind fun y26 =>
        if ¬ y26.1 = 0 then
          (s_X12_next y26.2).bind fun y40 =>
            (s_X12_tuner_l46 (M 124 818) (y26.2 122 17) (0, y40.2)).bind fun e46 =>
              Sum.elim (fun x46 =>
                (s_X12_isWord x46 1718579819).bind fun y93 =>
                  if y93 = 0 then
                    s_X12_tuner_j132 x46 (M 124 818) (y26.2 122 17)
                  else
                    (s_X12_next x46).bind fun y100 =>
                      (s_X12_takesSigned y100.2 99).bind fun y106 =>
                        if ¬ y106.1 = 0 then
                          if fin (3 * (M 124 818)) ∧ fin (1236 + (3 * (M 124 818))) ∧ fin ((1236 + (3 * (M 124 818))) + 2) ∧ (0 ≤ ((1236 + (3 * (M 124 818))) + 2) ∧ ((1236 + (3 * (M 124 818))) + 2) < 1290) then
                            s_X12_tuner_j132 (fup y106.2 124 ((1236 + (3 * (M 124 818))) + 2).toNat (y106.2 122 18)) (M 124 818) (y26.2 122 17)
                          else none
                        else
                          some (0, y106.2))
                (fun v46 => some v46) e46
        else
          some (0, y26.2)
  else
    (s_X12_bad M 4).bind fun y17 =>
      if b01 y17.1 then
        some (y17.1, y17.2)
      else none
theorem s_X12_tuner_ok {d L : Nat} {M : fM} {r : (Int × fM)} {Q : fO → fH → Prop} (h : s_X12_tuner M = some r) (H : Q (oI r.1) (156, fjl L, r.2)) : Wp (d + 4, 230, 0, 0, 0, [some (fA 122), none, none, none, none], []) (156, fjl L, M) Q := by
  unfold s_X12_tuner at h
  refine Wp.run 7 (P := [(0 : Int) ≤ 818 ∧ (818 : Int) < 1290]) (f' := (d + 4, 230, 12, 0, 0, [some (fA 122), some (fI (M 124 818)), _, _, _], [fI 6, fI (M 124 818)])) (h' := (156, fjl L, M)) rfl ?_ ?_
  · exact (by decide : (0 : Int) ≤ 818 ∧ (818 : Int) < 1290)
  refine Wp.br rfl (fun (c : ¬ (M 124 818) = 6) => ?_) (fun (c : ¬ (¬ (M 124 818) = 6)) => ?_)
  · replace h := fps c h
    refine Wp.run 1 (f' := (d + 4, 230, 22, 0, 0, [some (fA 122), some (fI (M 124 818)), _, _, _], [fA 122])) (h' := (156, fjl L, M)) rfl trivial ?_
    obtain ⟨y22, hy, h⟩ := fbd h
    refine Wp.call rfl (by decide) (s_X12_next_ok (d := d + 2) hy ?_)
    show Wp (d + 4, 230, 25, 0, 0, [some (fA 122), some (fI (M 124 818)), _, _, _], []) (156, fjl L, y22.2) Q
    refine Wp.run 1 (f' := (d + 4, 230, 26, 0, 0, [some (fA 122), some (fI (M 124 818)), _, _, _], [fA 122])) (h' := (156, fjl L, y22.2)) rfl trivial ?_
    obtain ⟨y26, hy, h⟩ := fbd h
    refine Wp.call rfl (by decide) (s_X12_fresh_ok (d := d + 2) hy ?_)
    show Wp (d + 4, 230, 29, 0, 0, [some (fA 122), some (fI (M 124 818)), _, _, _], [fI y26.1]) (156, fjl L, y26.2) Q
    refine Wp.br rfl (fun (c : ¬ y26.1 = 0) => ?_) (fun (c : ¬ (¬ y26.1 = 0)) => ?_)
    · replace h := fps c h
      refine Wp.run 4 (f' := (d + 4, 230, 40, 0, 0, [some (fA 122), some (fI (M 124 818)), some (fJ (y26.2 122 17)), none, _], [fA 122])) (h' := (156, fjl L, y26.2)) rfl trivial ?_
      obtain ⟨y40, hy, h⟩ := fbd h
      refine Wp.call rfl (by decide) (s_X12_next_ok (d := d + 2) hy ?_)
      show Wp (d + 4, 230, 43, 0, 0, [some (fA 122), some (fI (M 124 818)), some (fJ (y26.2 122 17)), none, _], []) (156, fjl L, y40.2) Q
      refine Wp.run 2 (f' := (d + 4, 230, 46, 0, 0, [some (fA 122), some (fI (M 124 818)), some (fJ (y26.2 122 17)), none, some (fI 0)], [])) (h' := (156, fjl L, y40.2)) rfl trivial ?_
      obtain ⟨e46, hy, h⟩ := fbd h
      refine s_X12_tuner_l46_ok hy (fun x46 u4 ex => ?_) (fun v46 ex => ?_)
      · subst ex
        replace h := fsl h
        show Wp (d + 4, 230, 89, 0, 0, [some (fA 122), some (fI (M 124 818)), some (fJ (y26.2 122 17)), none, u4], []) (156, fjl L, x46) Q
        refine Wp.run 2 (f' := (d + 4, 230, 93, 0, 0, [some (fA 122), some (fI (M 124 818)), some (fJ (y26.2 122 17)), none, _], [fJ 1718579819, fA 122])) (h' := (156, fjl L, x46)) rfl trivial ?_
        obtain ⟨y93, hy, h⟩ := fbd h
        refine Wp.call rfl (by decide) (s_X12_isWord_ok (d := d + 3) hy ?_)
        show Wp (d + 4, 230, 96, 0, 0, [some (fA 122), some (fI (M 124 818)), some (fJ (y26.2 122 17)), none, _], [fI y93]) (156, fjl L, x46) Q
        refine Wp.br rfl (fun (c : y93 = 0) => ?_) (fun (c : ¬ (y93 = 0)) => ?_)
        · replace h := fps c h
          exact s_X12_tuner_j132_ok h H
        · replace h := fng c h
          refine Wp.run 1 (f' := (d + 4, 230, 100, 0, 0, [some (fA 122), some (fI (M 124 818)), some (fJ (y26.2 122 17)), none, _], [fA 122])) (h' := (156, fjl L, x46)) rfl trivial ?_
          obtain ⟨y100, hy, h⟩ := fbd h
          refine Wp.call rfl (by decide) (s_X12_next_ok (d := d + 2) hy ?_)
          show Wp (d + 4, 230, 103, 0, 0, [some (fA 122), some (fI (M 124 818)), some (fJ (y26.2 122 17)), none, _], []) (156, fjl L, y100.2) Q
          refine Wp.run 2 (f' := (d + 4, 230, 106, 0, 0, [some (fA 122), some (fI (M 124 818)), some (fJ (y26.2 122 17)), none, _], [fI 99, fA 122])) (h' := (156, fjl L, y100.2)) rfl trivial ?_
          obtain ⟨y106, hy, h⟩ := fbd h
          refine Wp.call rfl (by decide) (s_X12_takesSigned_ok (d := d + 0) hy ?_)
          show Wp (d + 4, 230, 109, 0, 0, [some (fA 122), some (fI (M 124 818)), some (fJ (y26.2 122 17)), none, _], [fI y106.1]) (156, fjl L, y106.2) Q
          refine Wp.br rfl (fun (c : ¬ y106.1 = 0) => ?_) (fun (c : ¬ (¬ y106.1 = 0)) => ?_)
          · replace h := fps c h
            obtain ⟨⟨g0, g1, g2, g3⟩, h⟩ := fgd h
            refine Wp.run 12 (P := [0 ≤ (fw ((fw (1236 + (fw (3 * (M 124 818))))) + 2)) ∧ (fw ((fw (1236 + (fw (3 * (M 124 818))))) + 2)) < 1290]) (f' := (d + 4, 230, 132, 0, 0, [some (fA 122), some (fI (M 124 818)), some (fJ (y26.2 122 17)), none, _], [])) (h' := (156, fjl L, (fup y106.2 124 (fw ((fw (1236 + (fw (3 * (M 124 818))))) + 2)).toNat (y106.2 122 18)))) rfl ?_ ?_
            · rw [fw_id g0, fw_id g1, fw_id g2]; exact g3
            rw [fw_id g0, fw_id g1, fw_id g2]
            exact s_X12_tuner_j132_ok h H
          · replace h := fng c h
            refine Wp.run 1 (f' := (d + 4, 230, 113, 0, 0, [_, _, _, _, _], [fI 0])) (h' := (156, fjl L, y106.2)) rfl trivial ?_
            obtain rfl := Option.some.inj h
            exact Wp.done rfl (by decide) H
      · subst ex
        replace h := fsr h
        obtain rfl := Option.some.inj h
        exact H
    · replace h := fng c h
      refine Wp.run 1 (f' := (d + 4, 230, 33, 0, 0, [_, _, _, _, _], [fI 0])) (h' := (156, fjl L, y26.2)) rfl trivial ?_
      obtain rfl := Option.some.inj h
      exact Wp.done rfl (by decide) H
  · replace h := fng c h
    refine Wp.run 2 (f' := (d + 4, 230, 17, 0, 0, [_, _, _, _, _], [fI 4, fA 122])) (h' := (156, fjl L, M)) rfl trivial ?_
    obtain ⟨y17, hy, h⟩ := fbd h
    refine Wp.call rfl (by decide) (s_X12_bad_ok (d := d + 3) hy ?_)
    show Wp (d + 4, 230, 20, 0, 0, [_, _, _, _, _], [fI y17.1]) (156, fjl L, y17.2) Q
    obtain ⟨g0, h⟩ := fgd h
    obtain rfl := Option.some.inj h
    exact Wp.done rfl ⟨g0, by decide, by decide, by decide⟩ H
theorem s_X12_tuner_fr {M : fM} {r : (Int × fM)} (h : s_X12_tuner M = some r) : fSame s_X12_tuner_mods M r.2 := by
  unfold s_X12_tuner at h
  by_cases c : ¬ (M 124 818) = 6
  · replace h := fps c h
    obtain ⟨y22, hy, h⟩ := fbd h
    have k22 := fs_trans (l := s_X12_tuner_mods) fs_refl (fs_mono (l := s_X12_next_mods) (by decide) (s_X12_next_fr hy))
    obtain ⟨y26, hy, h⟩ := fbd h
    have k26 := fs_trans (l := s_X12_tuner_mods) k22 (fs_mono (l := s_X12_fresh_mods) (by decide) (s_X12_fresh_fr hy))
    by_cases c : ¬ y26.1 = 0
    · replace h := fps c h
      obtain ⟨y40, hy, h⟩ := fbd h
      have k40 := fs_trans (l := s_X12_tuner_mods) k26 (fs_mono (l := s_X12_next_mods) (by decide) (s_X12_next_fr hy))
      obtain ⟨e46, hy, h⟩ := fbd h
      have k46 := fs_trans (l := s_X12_tuner_mods) k40 (s_X12_tuner_l46_fr hy)
      rcases e46 with x46 | v46
      · replace h := fsl h
        obtain ⟨y93, hy, h⟩ := fbd h
        by_cases c : y93 = 0
        · replace h := fps c h
          exact fs_trans k46 (s_X12_tuner_j132_fr h)
        · replace h := fng c h
          obtain ⟨y100, hy, h⟩ := fbd h
          have k100 := fs_trans (l := s_X12_tuner_mods) k46 (fs_mono (l := s_X12_next_mods) (by decide) (s_X12_next_fr hy))
          obtain ⟨y106, hy, h⟩ := fbd h
          have k106 := fs_trans (l := s_X12_tuner_mods) k100 (fs_mono (l := s_X12_takesSigned_mods) (by decide) (s_X12_takesSigned_fr hy))
          by_cases c : ¬ y106.1 = 0
          · replace h := fps c h
            replace h := (fgd h).2
            exact fs_trans (fs_up k106 (.inl (by decide))) (s_X12_tuner_j132_fr h)
          · replace h := fng c h
            obtain rfl := Option.some.inj h
            exact k106
      · replace h := fsr h
        obtain rfl := Option.some.inj h
        exact k46
    · replace h := fng c h
      obtain rfl := Option.some.inj h
      exact k26
  · replace h := fng c h
    obtain ⟨y17, hy, h⟩ := fbd h
    have k17 := fs_trans (l := s_X12_tuner_mods) fs_refl (fs_mono (l := s_X12_bad_mods) (by decide) (s_X12_bad_fr hy))
    replace h := (fgd h).2
    obtain rfl := Option.some.inj h
    exact k17
abbrev s_X12_pupil_mods : List (Nat × Option Nat) := [(122, some 4), (122, some 11), (122, some 12), (122, some 13), (122, some 14), (122, some 15), (122, some 16), (122, some 17), (124, none), (126, none)]
noncomputable def s_X12_pupil (M : fM) : Option (Int × fM) :=
  if ¬ (M 124 819) = 6 then
    (s_X12_next M).bind fun y22 =>
      (s_X12_fresh y22.2).bind fun y26 =>
        if ¬ y26.1 = 0 then
          if fin (50 + (M 124 819)) ∧ (0 ≤ (50 + (M 124 819)) ∧ (50 + (M 124 819)) < 56) ∧ fin ((y26.2 124 819) + 1) then
            (s_X12_next (fup (fup y26.2 126 (50 + (M 124 819)).toNat (y26.2 122 17)) 124 819 ((y26.2 124 819) + 1))).bind fun y60 =>
              some (1, y60.2)
          else none
        else
          some (0, y26.2)
  else
    (s_X12_bad M 4).bind fun y17 =>
      if b01 y17.1 then
        some (y17.1, y17.2)
      else none
theorem s_X12_pupil_ok {d L : Nat} {M : fM} {r : (Int × fM)} {Q : fO → fH → Prop} (h : s_X12_pupil M = some r) (H : Q (oI r.1) (156, fjl L, r.2)) : Wp (d + 2, 231, 0, 0, 0, [some (fA 122), none], []) (156, fjl L, M) Q := by
  unfold s_X12_pupil at h
  refine Wp.run 7 (P := [(0 : Int) ≤ 819 ∧ (819 : Int) < 1290]) (f' := (d + 2, 231, 12, 0, 0, [some (fA 122), some (fI (M 124 819))], [fI 6, fI (M 124 819)])) (h' := (156, fjl L, M)) rfl ?_ ?_
  · exact (by decide : (0 : Int) ≤ 819 ∧ (819 : Int) < 1290)
  refine Wp.br rfl (fun (c : ¬ (M 124 819) = 6) => ?_) (fun (c : ¬ (¬ (M 124 819) = 6)) => ?_)
  · replace h := fps c h
    refine Wp.run 1 (f' := (d + 2, 231, 22, 0, 0, [some (fA 122), some (fI (M 124 819))], [fA 122])) (h' := (156, fjl L, M)) rfl trivial ?_
    obtain ⟨y22, hy, h⟩ := fbd h
    refine Wp.call rfl (by decide) (s_X12_next_ok (d := d + 0) hy ?_)
    show Wp (d + 2, 231, 25, 0, 0, [some (fA 122), some (fI (M 124 819))], []) (156, fjl L, y22.2) Q
    refine Wp.run 1 (f' := (d + 2, 231, 26, 0, 0, [some (fA 122), some (fI (M 124 819))], [fA 122])) (h' := (156, fjl L, y22.2)) rfl trivial ?_
    obtain ⟨y26, hy, h⟩ := fbd h
    refine Wp.call rfl (by decide) (s_X12_fresh_ok (d := d + 0) hy ?_)
    show Wp (d + 2, 231, 29, 0, 0, [some (fA 122), some (fI (M 124 819))], [fI y26.1]) (156, fjl L, y26.2) Q
    refine Wp.br rfl (fun (c : ¬ y26.1 = 0) => ?_) (fun (c : ¬ (¬ y26.1 = 0)) => ?_)
    · replace h := fps c h
      obtain ⟨⟨g0, g1, g2⟩, h⟩ := fgd h
      refine Wp.run 16 (P := [0 ≤ (fw (50 + (M 124 819))) ∧ (fw (50 + (M 124 819))) < 56, (0 : Int) ≤ 819 ∧ (819 : Int) < 1290, (0 : Int) ≤ 819 ∧ (819 : Int) < 1290]) (f' := (d + 2, 231, 59, 0, 0, [some (fA 122), _], [])) (h' := (156, fjl L, (fup (fup y26.2 126 (fw (50 + (M 124 819))).toNat (y26.2 122 17)) 124 819 (fw ((y26.2 124 819) + 1))))) rfl ?_ ?_
      · rw [fw_id g0]; exact ⟨g1, (by decide : (0 : Int) ≤ 819 ∧ (819 : Int) < 1290), (by decide : (0 : Int) ≤ 819 ∧ (819 : Int) < 1290)⟩
      rw [fw_id g0, fw_id g2]
      refine Wp.run 1 (f' := (d + 2, 231, 60, 0, 0, [_, _], [fA 122])) (h' := (156, fjl L, (fup (fup y26.2 126 (50 + (M 124 819)).toNat (y26.2 122 17)) 124 819 ((y26.2 124 819) + 1)))) rfl trivial ?_
      obtain ⟨y60, hy, h⟩ := fbd h
      refine Wp.call rfl (by decide) (s_X12_next_ok (d := d + 0) hy ?_)
      show Wp (d + 2, 231, 63, 0, 0, [_, _], []) (156, fjl L, y60.2) Q
      refine Wp.run 1 (f' := (d + 2, 231, 64, 0, 0, [_, _], [fI 1])) (h' := (156, fjl L, y60.2)) rfl trivial ?_
      obtain rfl := Option.some.inj h
      exact Wp.done rfl (by decide) H
    · replace h := fng c h
      refine Wp.run 1 (f' := (d + 2, 231, 33, 0, 0, [_, _], [fI 0])) (h' := (156, fjl L, y26.2)) rfl trivial ?_
      obtain rfl := Option.some.inj h
      exact Wp.done rfl (by decide) H
  · replace h := fng c h
    refine Wp.run 2 (f' := (d + 2, 231, 17, 0, 0, [_, _], [fI 4, fA 122])) (h' := (156, fjl L, M)) rfl trivial ?_
    obtain ⟨y17, hy, h⟩ := fbd h
    refine Wp.call rfl (by decide) (s_X12_bad_ok (d := d + 1) hy ?_)
    show Wp (d + 2, 231, 20, 0, 0, [_, _], [fI y17.1]) (156, fjl L, y17.2) Q
    obtain ⟨g0, h⟩ := fgd h
    obtain rfl := Option.some.inj h
    exact Wp.done rfl ⟨g0, by decide, by decide, by decide⟩ H
theorem s_X12_pupil_fr {M : fM} {r : (Int × fM)} (h : s_X12_pupil M = some r) : fSame s_X12_pupil_mods M r.2 := by
  unfold s_X12_pupil at h
  by_cases c : ¬ (M 124 819) = 6
  · replace h := fps c h
    obtain ⟨y22, hy, h⟩ := fbd h
    have k22 := fs_trans (l := s_X12_pupil_mods) fs_refl (fs_mono (l := s_X12_next_mods) (by decide) (s_X12_next_fr hy))
    obtain ⟨y26, hy, h⟩ := fbd h
    have k26 := fs_trans (l := s_X12_pupil_mods) k22 (fs_mono (l := s_X12_fresh_mods) (by decide) (s_X12_fresh_fr hy))
    by_cases c : ¬ y26.1 = 0
    · replace h := fps c h
      replace h := (fgd h).2
      obtain ⟨y60, hy, h⟩ := fbd h
      have k60 := fs_trans (l := s_X12_pupil_mods) (fs_up (fs_up k26 (.inl (by decide))) (.inl (by decide))) (fs_mono (l := s_X12_next_mods) (by decide) (s_X12_next_fr hy))
      obtain rfl := Option.some.inj h
      exact k60
    · replace h := fng c h
      obtain rfl := Option.some.inj h
      exact k26
  · replace h := fng c h
    obtain ⟨y17, hy, h⟩ := fbd h
    have k17 := fs_trans (l := s_X12_pupil_mods) fs_refl (fs_mono (l := s_X12_bad_mods) (by decide) (s_X12_bad_fr hy))
    replace h := (fgd h).2
    obtain rfl := Option.some.inj h
    exact k17
abbrev s_X12_takesName_mods : List (Nat × Option Nat) := [(122, some 4), (122, some 11), (122, some 12), (122, some 13), (122, some 14), (122, some 15), (122, some 16), (122, some 17), (122, some 18)]
noncomputable def s_X12_takesName (M : fM) (l1 l2 : Int) : Option (Int × fM) :=
  (s_X12_isName M).bind fun y1 =>
    if ¬ y1 = 0 then
      (s_X12_find M l1 l2).bind fun y17 =>
        if 0 ≤ y17 then
          (s_X12_next (fup M 122 18 y17)).bind fun y37 =>
            some (1, y37.2)
        else
          (s_X12_bad (fup M 122 18 y17) 3).bind fun y32 =>
            if b01 y32.1 then
              some (y32.1, y32.2)
            else none
    else
      (s_X12_bad M 1).bind fun y9 =>
        if b01 y9.1 then
          some (y9.1, y9.2)
        else none
theorem s_X12_takesName_ok {d L : Nat} {M : fM} {l1 l2 : Int} {r : (Int × fM)} {Q : fO → fH → Prop} (h : s_X12_takesName M l1 l2 = some r) (H : Q (oI r.1) (156, fjl L, r.2)) : Wp (d + 2, 217, 0, 0, 0, [some (fA 122), some (fI l1), some (fI l2)], []) (156, fjl L, M) Q := by
  unfold s_X12_takesName at h
  refine Wp.run 1 (f' := (d + 2, 217, 1, 0, 0, [some (fA 122), some (fI l1), some (fI l2)], [fA 122])) (h' := (156, fjl L, M)) rfl trivial ?_
  obtain ⟨y1, hy, h⟩ := fbd h
  refine Wp.call rfl (by decide) (s_X12_isName_ok (d := d + 1) hy ?_)
  show Wp (d + 2, 217, 4, 0, 0, [some (fA 122), some (fI l1), some (fI l2)], [fI y1]) (156, fjl L, M) Q
  refine Wp.br rfl (fun (c : ¬ y1 = 0) => ?_) (fun (c : ¬ (¬ y1 = 0)) => ?_)
  · replace h := fps c h
    refine Wp.run 4 (f' := (d + 2, 217, 17, 0, 0, [some (fA 122), _, _], [fI l2, fI l1, fA 122, fA 122])) (h' := (156, fjl L, M)) rfl trivial ?_
    obtain ⟨y17, hy, h⟩ := fbd h
    refine Wp.call rfl (by decide) (s_X12_find_ok (d := d + 1) hy ?_)
    show Wp (d + 2, 217, 20, 0, 0, [some (fA 122), _, _], [fI y17, fA 122]) (156, fjl L, M) Q
    refine Wp.run 3 (f' := (d + 2, 217, 27, 0, 0, [some (fA 122), _, _], [fI y17])) (h' := (156, fjl L, (fup M 122 18 y17))) rfl trivial ?_
    refine Wp.br rfl (fun (c : 0 ≤ y17) => ?_) (fun (c : ¬ (0 ≤ y17)) => ?_)
    · replace h := fps c h
      refine Wp.run 1 (f' := (d + 2, 217, 37, 0, 0, [_, _, _], [fA 122])) (h' := (156, fjl L, (fup M 122 18 y17))) rfl trivial ?_
      obtain ⟨y37, hy, h⟩ := fbd h
      refine Wp.call rfl (by decide) (s_X12_next_ok (d := d + 0) hy ?_)
      show Wp (d + 2, 217, 40, 0, 0, [_, _, _], []) (156, fjl L, y37.2) Q
      refine Wp.run 1 (f' := (d + 2, 217, 41, 0, 0, [_, _, _], [fI 1])) (h' := (156, fjl L, y37.2)) rfl trivial ?_
      obtain rfl := Option.some.inj h
      exact Wp.done rfl (by decide) H
    · replace h := fng c h
      refine Wp.run 2 (f' := (d + 2, 217, 32, 0, 0, [_, _, _], [fI 3, fA 122])) (h' := (156, fjl L, (fup M 122 18 y17))) rfl trivial ?_
      obtain ⟨y32, hy, h⟩ := fbd h
      refine Wp.call rfl (by decide) (s_X12_bad_ok (d := d + 1) hy ?_)
      show Wp (d + 2, 217, 35, 0, 0, [_, _, _], [fI y32.1]) (156, fjl L, y32.2) Q
      obtain ⟨g0, h⟩ := fgd h
      obtain rfl := Option.some.inj h
      exact Wp.done rfl ⟨g0, by decide, by decide, by decide⟩ H
  · replace h := fng c h
    refine Wp.run 2 (f' := (d + 2, 217, 9, 0, 0, [_, _, _], [fI 1, fA 122])) (h' := (156, fjl L, M)) rfl trivial ?_
    obtain ⟨y9, hy, h⟩ := fbd h
    refine Wp.call rfl (by decide) (s_X12_bad_ok (d := d + 1) hy ?_)
    show Wp (d + 2, 217, 12, 0, 0, [_, _, _], [fI y9.1]) (156, fjl L, y9.2) Q
    obtain ⟨g0, h⟩ := fgd h
    obtain rfl := Option.some.inj h
    exact Wp.done rfl ⟨g0, by decide, by decide, by decide⟩ H
theorem s_X12_takesName_fr {M : fM} {l1 l2 : Int} {r : (Int × fM)} (h : s_X12_takesName M l1 l2 = some r) : fSame s_X12_takesName_mods M r.2 := by
  unfold s_X12_takesName at h
  obtain ⟨y1, hy, h⟩ := fbd h
  by_cases c : ¬ y1 = 0
  · replace h := fps c h
    obtain ⟨y17, hy, h⟩ := fbd h
    by_cases c : 0 ≤ y17
    · replace h := fps c h
      obtain ⟨y37, hy, h⟩ := fbd h
      have k37 := fs_trans (l := s_X12_takesName_mods) (fs_up fs_refl (.inr (by decide))) (fs_mono (l := s_X12_next_mods) (by decide) (s_X12_next_fr hy))
      obtain rfl := Option.some.inj h
      exact k37
    · replace h := fng c h
      obtain ⟨y32, hy, h⟩ := fbd h
      have k32 := fs_trans (l := s_X12_takesName_mods) (fs_up fs_refl (.inr (by decide))) (fs_mono (l := s_X12_bad_mods) (by decide) (s_X12_bad_fr hy))
      replace h := (fgd h).2
      obtain rfl := Option.some.inj h
      exact k32
  · replace h := fng c h
    obtain ⟨y9, hy, h⟩ := fbd h
    have k9 := fs_trans (l := s_X12_takesName_mods) fs_refl (fs_mono (l := s_X12_bad_mods) (by decide) (s_X12_bad_fr hy))
    replace h := (fgd h).2
    obtain rfl := Option.some.inj h
    exact k9
abbrev s_X12_teach_mods : List (Nat × Option Nat) := [(122, some 4), (122, some 11), (122, some 12), (122, some 13), (122, some 14), (122, some 15), (122, some 16), (122, some 17), (122, some 18), (124, none)]
noncomputable def s_X12_teach (M : fM) : Option (Int × fM) :=
  (s_X12_next M).bind fun y1 =>
    (s_X12_takesName y1.2 1 1).bind fun y7 =>
      if ¬ y7.1 = 0 then
        (s_X12_takesName y7.2 1 2).bind fun y23 =>
          if ¬ y23.1 = 0 then
            (s_X12_takes y23.2 0 99).bind fun y40 =>
              if ¬ y40.1 = 0 then
                if fin (6 * (y7.2 122 18)) ∧ fin (1254 + (6 * (y7.2 122 18))) ∧ fin ((1254 + (6 * (y7.2 122 18))) + (y23.2 122 18)) ∧ (0 ≤ ((1254 + (6 * (y7.2 122 18))) + (y23.2 122 18)) ∧ ((1254 + (6 * (y7.2 122 18))) + (y23.2 122 18)) < 1290) then
                  some (1, (fup y40.2 124 ((1254 + (6 * (y7.2 122 18))) + (y23.2 122 18)).toNat (y40.2 122 18)))
                else none
              else
                some (0, y40.2)
          else
            some (0, y23.2)
      else
        some (0, y7.2)
theorem s_X12_teach_ok {d L : Nat} {M : fM} {r : (Int × fM)} {Q : fO → fH → Prop} (h : s_X12_teach M = some r) (H : Q (oI r.1) (156, fjl L, r.2)) : Wp (d + 3, 232, 0, 0, 0, [some (fA 122), none, none], []) (156, fjl L, M) Q := by
  unfold s_X12_teach at h
  refine Wp.run 1 (f' := (d + 3, 232, 1, 0, 0, [some (fA 122), _, _], [fA 122])) (h' := (156, fjl L, M)) rfl trivial ?_
  obtain ⟨y1, hy, h⟩ := fbd h
  refine Wp.call rfl (by decide) (s_X12_next_ok (d := d + 1) hy ?_)
  show Wp (d + 3, 232, 4, 0, 0, [some (fA 122), _, _], []) (156, fjl L, y1.2) Q
  refine Wp.run 3 (f' := (d + 3, 232, 7, 0, 0, [some (fA 122), _, _], [fI 1, fI 1, fA 122])) (h' := (156, fjl L, y1.2)) rfl trivial ?_
  obtain ⟨y7, hy, h⟩ := fbd h
  refine Wp.call rfl (by decide) (s_X12_takesName_ok (d := d + 0) hy ?_)
  show Wp (d + 3, 232, 10, 0, 0, [some (fA 122), _, _], [fI y7.1]) (156, fjl L, y7.2) Q
  refine Wp.br rfl (fun (c : ¬ y7.1 = 0) => ?_) (fun (c : ¬ (¬ y7.1 = 0)) => ?_)
  · replace h := fps c h
    refine Wp.run 6 (f' := (d + 3, 232, 23, 0, 0, [some (fA 122), some (fI (y7.2 122 18)), _], [fI 2, fI 1, fA 122])) (h' := (156, fjl L, y7.2)) rfl trivial ?_
    obtain ⟨y23, hy, h⟩ := fbd h
    refine Wp.call rfl (by decide) (s_X12_takesName_ok (d := d + 0) hy ?_)
    show Wp (d + 3, 232, 26, 0, 0, [some (fA 122), some (fI (y7.2 122 18)), _], [fI y23.1]) (156, fjl L, y23.2) Q
    refine Wp.br rfl (fun (c : ¬ y23.1 = 0) => ?_) (fun (c : ¬ (¬ y23.1 = 0)) => ?_)
    · replace h := fps c h
      refine Wp.run 6 (f' := (d + 3, 232, 40, 0, 0, [some (fA 122), some (fI (y7.2 122 18)), some (fI (y23.2 122 18))], [fI 99, fI 0, fA 122])) (h' := (156, fjl L, y23.2)) rfl trivial ?_
      obtain ⟨y40, hy, h⟩ := fbd h
      refine Wp.call rfl (by decide) (s_X12_takes_ok (d := d + 0) hy ?_)
      show Wp (d + 3, 232, 43, 0, 0, [some (fA 122), some (fI (y7.2 122 18)), some (fI (y23.2 122 18))], [fI y40.1]) (156, fjl L, y40.2) Q
      refine Wp.br rfl (fun (c : ¬ y40.1 = 0) => ?_) (fun (c : ¬ (¬ y40.1 = 0)) => ?_)
      · replace h := fps c h
        obtain ⟨⟨g0, g1, g2, g3⟩, h⟩ := fgd h
        refine Wp.run 12 (P := [0 ≤ (fw ((fw (1254 + (fw (6 * (y7.2 122 18))))) + (y23.2 122 18))) ∧ (fw ((fw (1254 + (fw (6 * (y7.2 122 18))))) + (y23.2 122 18))) < 1290]) (f' := (d + 3, 232, 67, 0, 0, [_, _, _], [])) (h' := (156, fjl L, (fup y40.2 124 (fw ((fw (1254 + (fw (6 * (y7.2 122 18))))) + (y23.2 122 18))).toNat (y40.2 122 18)))) rfl ?_ ?_
        · rw [fw_id g0, fw_id g1, fw_id g2]; exact g3
        rw [fw_id g0, fw_id g1, fw_id g2]
        refine Wp.run 1 (f' := (d + 3, 232, 68, 0, 0, [_, _, _], [fI 1])) (h' := (156, fjl L, (fup y40.2 124 ((1254 + (6 * (y7.2 122 18))) + (y23.2 122 18)).toNat (y40.2 122 18)))) rfl trivial ?_
        obtain rfl := Option.some.inj h
        exact Wp.done rfl (by decide) H
      · replace h := fng c h
        refine Wp.run 1 (f' := (d + 3, 232, 47, 0, 0, [_, _, _], [fI 0])) (h' := (156, fjl L, y40.2)) rfl trivial ?_
        obtain rfl := Option.some.inj h
        exact Wp.done rfl (by decide) H
    · replace h := fng c h
      refine Wp.run 1 (f' := (d + 3, 232, 30, 0, 0, [_, _, _], [fI 0])) (h' := (156, fjl L, y23.2)) rfl trivial ?_
      obtain rfl := Option.some.inj h
      exact Wp.done rfl (by decide) H
  · replace h := fng c h
    refine Wp.run 1 (f' := (d + 3, 232, 14, 0, 0, [_, _, _], [fI 0])) (h' := (156, fjl L, y7.2)) rfl trivial ?_
    obtain rfl := Option.some.inj h
    exact Wp.done rfl (by decide) H
theorem s_X12_teach_fr {M : fM} {r : (Int × fM)} (h : s_X12_teach M = some r) : fSame s_X12_teach_mods M r.2 := by
  unfold s_X12_teach at h
  obtain ⟨y1, hy, h⟩ := fbd h
  have k1 := fs_trans (l := s_X12_teach_mods) fs_refl (fs_mono (l := s_X12_next_mods) (by decide) (s_X12_next_fr hy))
  obtain ⟨y7, hy, h⟩ := fbd h
  have k7 := fs_trans (l := s_X12_teach_mods) k1 (fs_mono (l := s_X12_takesName_mods) (by decide) (s_X12_takesName_fr hy))
  by_cases c : ¬ y7.1 = 0
  · replace h := fps c h
    obtain ⟨y23, hy, h⟩ := fbd h
    have k23 := fs_trans (l := s_X12_teach_mods) k7 (fs_mono (l := s_X12_takesName_mods) (by decide) (s_X12_takesName_fr hy))
    by_cases c : ¬ y23.1 = 0
    · replace h := fps c h
      obtain ⟨y40, hy, h⟩ := fbd h
      have k40 := fs_trans (l := s_X12_teach_mods) k23 (fs_mono (l := s_X12_takes_mods) (by decide) (s_X12_takes_fr hy))
      by_cases c : ¬ y40.1 = 0
      · replace h := fps c h
        replace h := (fgd h).2
        obtain rfl := Option.some.inj h
        exact fs_up k40 (.inl (by decide))
      · replace h := fng c h
        obtain rfl := Option.some.inj h
        exact k40
    · replace h := fng c h
      obtain rfl := Option.some.inj h
      exact k23
  · replace h := fng c h
    obtain rfl := Option.some.inj h
    exact k7
abbrev s_X12_line_mods : List (Nat × Option Nat) := [(122, some 4), (122, some 11), (122, some 12), (122, some 13), (122, some 14), (122, some 15), (122, some 16), (122, some 17), (122, some 18), (122, some 19), (124, none), (126, none)]
noncomputable def s_X12_line (M : fM) : Option (Int × fM) :=
  (s_X12_isWord M 499850046565).bind fun y4 =>
    if y4 = 0 then
      (s_X12_isWord M 1684106608).bind fun y19 =>
        if y19 = 0 then
          (s_X12_isWord M 1952805485).bind fun y35 =>
            if y35 = 0 then
              (s_X12_isWord M 6710629).bind fun y51 =>
                if y51 = 0 then
                  (s_X12_isWord M 1937076837).bind fun y66 =>
                    if y66 = 0 then
                      (s_X12_isWord M 1667328869).bind fun y88 =>
                        if y88 = 0 then
                          (s_X12_isWord M 2002873451).bind fun y111 =>
                            if y111 = 0 then
                              (s_X12_isWord M 2003792491).bind fun y133 =>
                                if y133 = 0 then
                                  (s_X12_isWord M 6578553).bind fun y156 =>
                                    if y156 = 0 then
                                      (s_X12_isWord M 482804330095).bind fun y190 =>
                                        if y190 = 0 then
                                          (s_X12_isWord M 500186375538).bind fun y205 =>
                                            if y205 = 0 then
                                              (s_X12_isWord M 483006638444).bind fun y220 =>
                                                if y220 = 0 then
                                                  (s_X12_isWord M 499917087592).bind fun y235 =>
                                                    if y235 = 0 then
                                                      (s_X12_bad M 1).bind fun y250 =>
                                                        if b01 y250.1 then
                                                          some (y250.1, y250.2)
                                                        else none
                                                    else
                                                      (s_X12_teach M).bind fun y242 =>
                                                        if b01 y242.1 then
                                                          some (y242.1, y242.2)
                                                        else none
                                                else
                                                  (s_X12_pupil M).bind fun y227 =>
                                                    if b01 y227.1 then
                                                      some (y227.1, y227.2)
                                                    else none
                                            else
                                              (s_X12_tuner M).bind fun y212 =>
                                                if b01 y212.1 then
                                                  some (y212.1, y212.2)
                                                else none
                                        else
                                          (s_X12_readPiano M).bind fun y197 =>
                                            if b01 y197.1 then
                                              some (y197.1, y197.2)
                                            else none
                                    else
                                      (s_X12_once M 5).bind fun y164 =>
                                        if y164.1 = 0 then
                                          some (0, y164.2)
                                        else
                                          (s_X12_span y164.2 170).bind fun y174 =>
                                            if y174.1 = 0 then
                                              some (0, y174.2)
                                            else
                                              some (1, y174.2)
                                else
                                  (s_X12_oneNumber M 4 10 120 169).bind fun y148 =>
                                    if b01 y148.1 then
                                      some (y148.1, y148.2)
                                    else none
                            else
                              (s_X12_oneNumber M 3 1 20 168).bind fun y125 =>
                                if b01 y125.1 then
                                  some (y125.1, y125.2)
                                else none
                        else
                          (s_X12_oneNumber M 2 0 999 167).bind fun y103 =>
                            if b01 y103.1 then
                              some (y103.1, y103.2)
                            else none
                    else
                      (s_X12_oneNumber M 1 0 99 166).bind fun y80 =>
                        if b01 y80.1 then
                          some (y80.1, y80.2)
                        else none
                else
                  (s_X12_readFee M).bind fun y58 =>
                    if b01 y58.1 then
                      some (y58.1, y58.2)
                    else none
            else
              (s_X12_weeks M 0).bind fun y43 =>
                if b01 y43.1 then
                  some (y43.1, y43.2)
                else none
        else
          (s_X12_weeks M 1).bind fun y27 =>
            if b01 y27.1 then
              some (y27.1, y27.2)
            else none
    else
      (s_X12_table M).bind fun y11 =>
        if b01 y11.1 then
          some (y11.1, y11.2)
        else none
theorem s_X12_line_ok {d L : Nat} {M : fM} {r : (Int × fM)} {Q : fO → fH → Prop} (h : s_X12_line M = some r) (H : Q (oI r.1) (156, fjl L, r.2)) : Wp (d + 6, 223, 0, 0, 0, [some (fA 122)], []) (156, fjl L, M) Q := by
  unfold s_X12_line at h
  refine Wp.run 2 (f' := (d + 6, 223, 4, 0, 0, [some (fA 122)], [fJ 499850046565, fA 122])) (h' := (156, fjl L, M)) rfl trivial ?_
  obtain ⟨y4, hy, h⟩ := fbd h
  refine Wp.call rfl (by decide) (s_X12_isWord_ok (d := d + 5) hy ?_)
  show Wp (d + 6, 223, 7, 0, 0, [some (fA 122)], [fI y4]) (156, fjl L, M) Q
  refine Wp.br rfl (fun (c : y4 = 0) => ?_) (fun (c : ¬ (y4 = 0)) => ?_)
  · replace h := fps c h
    refine Wp.run 2 (f' := (d + 6, 223, 19, 0, 0, [some (fA 122)], [fJ 1684106608, fA 122])) (h' := (156, fjl L, M)) rfl trivial ?_
    obtain ⟨y19, hy, h⟩ := fbd h
    refine Wp.call rfl (by decide) (s_X12_isWord_ok (d := d + 5) hy ?_)
    show Wp (d + 6, 223, 22, 0, 0, [some (fA 122)], [fI y19]) (156, fjl L, M) Q
    refine Wp.br rfl (fun (c : y19 = 0) => ?_) (fun (c : ¬ (y19 = 0)) => ?_)
    · replace h := fps c h
      refine Wp.run 2 (f' := (d + 6, 223, 35, 0, 0, [some (fA 122)], [fJ 1952805485, fA 122])) (h' := (156, fjl L, M)) rfl trivial ?_
      obtain ⟨y35, hy, h⟩ := fbd h
      refine Wp.call rfl (by decide) (s_X12_isWord_ok (d := d + 5) hy ?_)
      show Wp (d + 6, 223, 38, 0, 0, [some (fA 122)], [fI y35]) (156, fjl L, M) Q
      refine Wp.br rfl (fun (c : y35 = 0) => ?_) (fun (c : ¬ (y35 = 0)) => ?_)
      · replace h := fps c h
        refine Wp.run 2 (f' := (d + 6, 223, 51, 0, 0, [some (fA 122)], [fJ 6710629, fA 122])) (h' := (156, fjl L, M)) rfl trivial ?_
        obtain ⟨y51, hy, h⟩ := fbd h
        refine Wp.call rfl (by decide) (s_X12_isWord_ok (d := d + 5) hy ?_)
        show Wp (d + 6, 223, 54, 0, 0, [some (fA 122)], [fI y51]) (156, fjl L, M) Q
        refine Wp.br rfl (fun (c : y51 = 0) => ?_) (fun (c : ¬ (y51 = 0)) => ?_)
        · replace h := fps c h
          refine Wp.run 2 (f' := (d + 6, 223, 66, 0, 0, [some (fA 122)], [fJ 1937076837, fA 122])) (h' := (156, fjl L, M)) rfl trivial ?_
          obtain ⟨y66, hy, h⟩ := fbd h
          refine Wp.call rfl (by decide) (s_X12_isWord_ok (d := d + 5) hy ?_)
          show Wp (d + 6, 223, 69, 0, 0, [some (fA 122)], [fI y66]) (156, fjl L, M) Q
          refine Wp.br rfl (fun (c : y66 = 0) => ?_) (fun (c : ¬ (y66 = 0)) => ?_)
          · replace h := fps c h
            refine Wp.run 2 (f' := (d + 6, 223, 88, 0, 0, [some (fA 122)], [fJ 1667328869, fA 122])) (h' := (156, fjl L, M)) rfl trivial ?_
            obtain ⟨y88, hy, h⟩ := fbd h
            refine Wp.call rfl (by decide) (s_X12_isWord_ok (d := d + 5) hy ?_)
            show Wp (d + 6, 223, 91, 0, 0, [some (fA 122)], [fI y88]) (156, fjl L, M) Q
            refine Wp.br rfl (fun (c : y88 = 0) => ?_) (fun (c : ¬ (y88 = 0)) => ?_)
            · replace h := fps c h
              refine Wp.run 2 (f' := (d + 6, 223, 111, 0, 0, [some (fA 122)], [fJ 2002873451, fA 122])) (h' := (156, fjl L, M)) rfl trivial ?_
              obtain ⟨y111, hy, h⟩ := fbd h
              refine Wp.call rfl (by decide) (s_X12_isWord_ok (d := d + 5) hy ?_)
              show Wp (d + 6, 223, 114, 0, 0, [some (fA 122)], [fI y111]) (156, fjl L, M) Q
              refine Wp.br rfl (fun (c : y111 = 0) => ?_) (fun (c : ¬ (y111 = 0)) => ?_)
              · replace h := fps c h
                refine Wp.run 2 (f' := (d + 6, 223, 133, 0, 0, [some (fA 122)], [fJ 2003792491, fA 122])) (h' := (156, fjl L, M)) rfl trivial ?_
                obtain ⟨y133, hy, h⟩ := fbd h
                refine Wp.call rfl (by decide) (s_X12_isWord_ok (d := d + 5) hy ?_)
                show Wp (d + 6, 223, 136, 0, 0, [some (fA 122)], [fI y133]) (156, fjl L, M) Q
                refine Wp.br rfl (fun (c : y133 = 0) => ?_) (fun (c : ¬ (y133 = 0)) => ?_)
                · replace h := fps c h
                  refine Wp.run 2 (f' := (d + 6, 223, 156, 0, 0, [some (fA 122)], [fJ 6578553, fA 122])) (h' := (156, fjl L, M)) rfl trivial ?_
                  obtain ⟨y156, hy, h⟩ := fbd h
                  refine Wp.call rfl (by decide) (s_X12_isWord_ok (d := d + 5) hy ?_)
                  show Wp (d + 6, 223, 159, 0, 0, [some (fA 122)], [fI y156]) (156, fjl L, M) Q
                  refine Wp.br rfl (fun (c : y156 = 0) => ?_) (fun (c : ¬ (y156 = 0)) => ?_)
                  · replace h := fps c h
                    refine Wp.run 2 (f' := (d + 6, 223, 190, 0, 0, [some (fA 122)], [fJ 482804330095, fA 122])) (h' := (156, fjl L, M)) rfl trivial ?_
                    obtain ⟨y190, hy, h⟩ := fbd h
                    refine Wp.call rfl (by decide) (s_X12_isWord_ok (d := d + 5) hy ?_)
                    show Wp (d + 6, 223, 193, 0, 0, [some (fA 122)], [fI y190]) (156, fjl L, M) Q
                    refine Wp.br rfl (fun (c : y190 = 0) => ?_) (fun (c : ¬ (y190 = 0)) => ?_)
                    · replace h := fps c h
                      refine Wp.run 2 (f' := (d + 6, 223, 205, 0, 0, [some (fA 122)], [fJ 500186375538, fA 122])) (h' := (156, fjl L, M)) rfl trivial ?_
                      obtain ⟨y205, hy, h⟩ := fbd h
                      refine Wp.call rfl (by decide) (s_X12_isWord_ok (d := d + 5) hy ?_)
                      show Wp (d + 6, 223, 208, 0, 0, [some (fA 122)], [fI y205]) (156, fjl L, M) Q
                      refine Wp.br rfl (fun (c : y205 = 0) => ?_) (fun (c : ¬ (y205 = 0)) => ?_)
                      · replace h := fps c h
                        refine Wp.run 2 (f' := (d + 6, 223, 220, 0, 0, [some (fA 122)], [fJ 483006638444, fA 122])) (h' := (156, fjl L, M)) rfl trivial ?_
                        obtain ⟨y220, hy, h⟩ := fbd h
                        refine Wp.call rfl (by decide) (s_X12_isWord_ok (d := d + 5) hy ?_)
                        show Wp (d + 6, 223, 223, 0, 0, [some (fA 122)], [fI y220]) (156, fjl L, M) Q
                        refine Wp.br rfl (fun (c : y220 = 0) => ?_) (fun (c : ¬ (y220 = 0)) => ?_)
                        · replace h := fps c h
                          refine Wp.run 2 (f' := (d + 6, 223, 235, 0, 0, [some (fA 122)], [fJ 499917087592, fA 122])) (h' := (156, fjl L, M)) rfl trivial ?_
                          obtain ⟨y235, hy, h⟩ := fbd h
                          refine Wp.call rfl (by decide) (s_X12_isWord_ok (d := d + 5) hy ?_)
                          show Wp (d + 6, 223, 238, 0, 0, [some (fA 122)], [fI y235]) (156, fjl L, M) Q
                          refine Wp.br rfl (fun (c : y235 = 0) => ?_) (fun (c : ¬ (y235 = 0)) => ?_)
                          · replace h := fps c h
                            refine Wp.run 2 (f' := (d + 6, 223, 250, 0, 0, [_], [fI 1, fA 122])) (h' := (156, fjl L, M)) rfl trivial ?_
                            obtain ⟨y250, hy, h⟩ := fbd h
                            refine Wp.call rfl (by decide) (s_X12_bad_ok (d := d + 5) hy ?_)
                            show Wp (d + 6, 223, 253, 0, 0, [_], [fI y250.1]) (156, fjl L, y250.2) Q
                            obtain ⟨g0, h⟩ := fgd h
                            obtain rfl := Option.some.inj h
                            exact Wp.done rfl ⟨g0, by decide, by decide, by decide⟩ H
                          · replace h := fng c h
                            refine Wp.run 1 (f' := (d + 6, 223, 242, 0, 0, [_], [fA 122])) (h' := (156, fjl L, M)) rfl trivial ?_
                            obtain ⟨y242, hy, h⟩ := fbd h
                            refine Wp.call rfl (by decide) (s_X12_teach_ok (d := d + 2) hy ?_)
                            show Wp (d + 6, 223, 245, 0, 0, [_], [fI y242.1]) (156, fjl L, y242.2) Q
                            obtain ⟨g0, h⟩ := fgd h
                            refine Wp.run 1 (f' := (d + 6, 223, 253, 0, 0, [_], [fI y242.1])) (h' := (156, fjl L, y242.2)) rfl trivial ?_
                            obtain rfl := Option.some.inj h
                            exact Wp.done rfl ⟨g0, by decide, by decide, by decide⟩ H
                        · replace h := fng c h
                          refine Wp.run 1 (f' := (d + 6, 223, 227, 0, 0, [_], [fA 122])) (h' := (156, fjl L, M)) rfl trivial ?_
                          obtain ⟨y227, hy, h⟩ := fbd h
                          refine Wp.call rfl (by decide) (s_X12_pupil_ok (d := d + 3) hy ?_)
                          show Wp (d + 6, 223, 230, 0, 0, [_], [fI y227.1]) (156, fjl L, y227.2) Q
                          obtain ⟨g0, h⟩ := fgd h
                          obtain rfl := Option.some.inj h
                          exact Wp.done rfl ⟨g0, by decide, by decide, by decide⟩ H
                      · replace h := fng c h
                        refine Wp.run 1 (f' := (d + 6, 223, 212, 0, 0, [_], [fA 122])) (h' := (156, fjl L, M)) rfl trivial ?_
                        obtain ⟨y212, hy, h⟩ := fbd h
                        refine Wp.call rfl (by decide) (s_X12_tuner_ok (d := d + 1) hy ?_)
                        show Wp (d + 6, 223, 215, 0, 0, [_], [fI y212.1]) (156, fjl L, y212.2) Q
                        obtain ⟨g0, h⟩ := fgd h
                        obtain rfl := Option.some.inj h
                        exact Wp.done rfl ⟨g0, by decide, by decide, by decide⟩ H
                    · replace h := fng c h
                      refine Wp.run 1 (f' := (d + 6, 223, 197, 0, 0, [_], [fA 122])) (h' := (156, fjl L, M)) rfl trivial ?_
                      obtain ⟨y197, hy, h⟩ := fbd h
                      refine Wp.call rfl (by decide) (s_X12_readPiano_ok (d := d + 0) hy ?_)
                      show Wp (d + 6, 223, 200, 0, 0, [_], [fI y197.1]) (156, fjl L, y197.2) Q
                      obtain ⟨g0, h⟩ := fgd h
                      obtain rfl := Option.some.inj h
                      exact Wp.done rfl ⟨g0, by decide, by decide, by decide⟩ H
                  · replace h := fng c h
                    refine Wp.run 2 (f' := (d + 6, 223, 164, 0, 0, [some (fA 122)], [fI 5, fA 122])) (h' := (156, fjl L, M)) rfl trivial ?_
                    obtain ⟨y164, hy, h⟩ := fbd h
                    refine Wp.call rfl (by decide) (s_X12_once_ok (d := d + 3) hy ?_)
                    show Wp (d + 6, 223, 167, 0, 0, [some (fA 122)], [fI y164.1]) (156, fjl L, y164.2) Q
                    refine Wp.br rfl (fun (c : y164.1 = 0) => ?_) (fun (c : ¬ (y164.1 = 0)) => ?_)
                    · replace h := fps c h
                      refine Wp.run 1 (f' := (d + 6, 223, 185, 0, 0, [_], [fI 0])) (h' := (156, fjl L, y164.2)) rfl trivial ?_
                      obtain rfl := Option.some.inj h
                      exact Wp.done rfl (by decide) H
                    · replace h := fng c h
                      refine Wp.run 2 (f' := (d + 6, 223, 174, 0, 0, [_], [fI 170, fA 122])) (h' := (156, fjl L, y164.2)) rfl trivial ?_
                      obtain ⟨y174, hy, h⟩ := fbd h
                      refine Wp.call rfl (by decide) (s_X12_span_ok (d := d + 2) hy ?_)
                      show Wp (d + 6, 223, 177, 0, 0, [_], [fI y174.1]) (156, fjl L, y174.2) Q
                      refine Wp.br rfl (fun (c : y174.1 = 0) => ?_) (fun (c : ¬ (y174.1 = 0)) => ?_)
                      · replace h := fps c h
                        refine Wp.run 1 (f' := (d + 6, 223, 185, 0, 0, [_], [fI 0])) (h' := (156, fjl L, y174.2)) rfl trivial ?_
                        obtain rfl := Option.some.inj h
                        exact Wp.done rfl (by decide) H
                      · replace h := fng c h
                        refine Wp.run 2 (f' := (d + 6, 223, 185, 0, 0, [_], [fI 1])) (h' := (156, fjl L, y174.2)) rfl trivial ?_
                        obtain rfl := Option.some.inj h
                        exact Wp.done rfl (by decide) H
                · replace h := fng c h
                  refine Wp.run 5 (f' := (d + 6, 223, 148, 0, 0, [_], [fI 169, fI 120, fI 10, fI 4, fA 122])) (h' := (156, fjl L, M)) rfl trivial ?_
                  obtain ⟨y148, hy, h⟩ := fbd h
                  refine Wp.call rfl (by decide) (s_X12_oneNumber_ok (d := d + 2) hy ?_)
                  show Wp (d + 6, 223, 151, 0, 0, [_], [fI y148.1]) (156, fjl L, y148.2) Q
                  obtain ⟨g0, h⟩ := fgd h
                  obtain rfl := Option.some.inj h
                  exact Wp.done rfl ⟨g0, by decide, by decide, by decide⟩ H
              · replace h := fng c h
                refine Wp.run 5 (f' := (d + 6, 223, 125, 0, 0, [_], [fI 168, fI 20, fI 1, fI 3, fA 122])) (h' := (156, fjl L, M)) rfl trivial ?_
                obtain ⟨y125, hy, h⟩ := fbd h
                refine Wp.call rfl (by decide) (s_X12_oneNumber_ok (d := d + 2) hy ?_)
                show Wp (d + 6, 223, 128, 0, 0, [_], [fI y125.1]) (156, fjl L, y125.2) Q
                obtain ⟨g0, h⟩ := fgd h
                obtain rfl := Option.some.inj h
                exact Wp.done rfl ⟨g0, by decide, by decide, by decide⟩ H
            · replace h := fng c h
              refine Wp.run 5 (f' := (d + 6, 223, 103, 0, 0, [_], [fI 167, fI 999, fI 0, fI 2, fA 122])) (h' := (156, fjl L, M)) rfl trivial ?_
              obtain ⟨y103, hy, h⟩ := fbd h
              refine Wp.call rfl (by decide) (s_X12_oneNumber_ok (d := d + 2) hy ?_)
              show Wp (d + 6, 223, 106, 0, 0, [_], [fI y103.1]) (156, fjl L, y103.2) Q
              obtain ⟨g0, h⟩ := fgd h
              obtain rfl := Option.some.inj h
              exact Wp.done rfl ⟨g0, by decide, by decide, by decide⟩ H
          · replace h := fng c h
            refine Wp.run 5 (f' := (d + 6, 223, 80, 0, 0, [_], [fI 166, fI 99, fI 0, fI 1, fA 122])) (h' := (156, fjl L, M)) rfl trivial ?_
            obtain ⟨y80, hy, h⟩ := fbd h
            refine Wp.call rfl (by decide) (s_X12_oneNumber_ok (d := d + 2) hy ?_)
            show Wp (d + 6, 223, 83, 0, 0, [_], [fI y80.1]) (156, fjl L, y80.2) Q
            obtain ⟨g0, h⟩ := fgd h
            obtain rfl := Option.some.inj h
            exact Wp.done rfl ⟨g0, by decide, by decide, by decide⟩ H
        · replace h := fng c h
          refine Wp.run 1 (f' := (d + 6, 223, 58, 0, 0, [_], [fA 122])) (h' := (156, fjl L, M)) rfl trivial ?_
          obtain ⟨y58, hy, h⟩ := fbd h
          refine Wp.call rfl (by decide) (s_X12_readFee_ok (d := d + 2) hy ?_)
          show Wp (d + 6, 223, 61, 0, 0, [_], [fI y58.1]) (156, fjl L, y58.2) Q
          obtain ⟨g0, h⟩ := fgd h
          obtain rfl := Option.some.inj h
          exact Wp.done rfl ⟨g0, by decide, by decide, by decide⟩ H
      · replace h := fng c h
        refine Wp.run 2 (f' := (d + 6, 223, 43, 0, 0, [_], [fI 0, fA 122])) (h' := (156, fjl L, M)) rfl trivial ?_
        obtain ⟨y43, hy, h⟩ := fbd h
        refine Wp.call rfl (by decide) (s_X12_weeks_ok (d := d + 2) hy ?_)
        show Wp (d + 6, 223, 46, 0, 0, [_], [fI y43.1]) (156, fjl L, y43.2) Q
        obtain ⟨g0, h⟩ := fgd h
        obtain rfl := Option.some.inj h
        exact Wp.done rfl ⟨g0, by decide, by decide, by decide⟩ H
    · replace h := fng c h
      refine Wp.run 2 (f' := (d + 6, 223, 27, 0, 0, [_], [fI 1, fA 122])) (h' := (156, fjl L, M)) rfl trivial ?_
      obtain ⟨y27, hy, h⟩ := fbd h
      refine Wp.call rfl (by decide) (s_X12_weeks_ok (d := d + 2) hy ?_)
      show Wp (d + 6, 223, 30, 0, 0, [_], [fI y27.1]) (156, fjl L, y27.2) Q
      obtain ⟨g0, h⟩ := fgd h
      obtain rfl := Option.some.inj h
      exact Wp.done rfl ⟨g0, by decide, by decide, by decide⟩ H
  · replace h := fng c h
    refine Wp.run 1 (f' := (d + 6, 223, 11, 0, 0, [_], [fA 122])) (h' := (156, fjl L, M)) rfl trivial ?_
    obtain ⟨y11, hy, h⟩ := fbd h
    refine Wp.call rfl (by decide) (s_X12_table_ok (d := d + 2) hy ?_)
    show Wp (d + 6, 223, 14, 0, 0, [_], [fI y11.1]) (156, fjl L, y11.2) Q
    obtain ⟨g0, h⟩ := fgd h
    obtain rfl := Option.some.inj h
    exact Wp.done rfl ⟨g0, by decide, by decide, by decide⟩ H
theorem s_X12_line_fr {M : fM} {r : (Int × fM)} (h : s_X12_line M = some r) : fSame s_X12_line_mods M r.2 := by
  unfold s_X12_line at h
  obtain ⟨y4, hy, h⟩ := fbd h
  by_cases c : y4 = 0
  · replace h := fps c h
    obtain ⟨y19, hy, h⟩ := fbd h
    by_cases c : y19 = 0
    · replace h := fps c h
      obtain ⟨y35, hy, h⟩ := fbd h
      by_cases c : y35 = 0
      · replace h := fps c h
        obtain ⟨y51, hy, h⟩ := fbd h
        by_cases c : y51 = 0
        · replace h := fps c h
          obtain ⟨y66, hy, h⟩ := fbd h
          by_cases c : y66 = 0
          · replace h := fps c h
            obtain ⟨y88, hy, h⟩ := fbd h
            by_cases c : y88 = 0
            · replace h := fps c h
              obtain ⟨y111, hy, h⟩ := fbd h
              by_cases c : y111 = 0
              · replace h := fps c h
                obtain ⟨y133, hy, h⟩ := fbd h
                by_cases c : y133 = 0
                · replace h := fps c h
                  obtain ⟨y156, hy, h⟩ := fbd h
                  by_cases c : y156 = 0
                  · replace h := fps c h
                    obtain ⟨y190, hy, h⟩ := fbd h
                    by_cases c : y190 = 0
                    · replace h := fps c h
                      obtain ⟨y205, hy, h⟩ := fbd h
                      by_cases c : y205 = 0
                      · replace h := fps c h
                        obtain ⟨y220, hy, h⟩ := fbd h
                        by_cases c : y220 = 0
                        · replace h := fps c h
                          obtain ⟨y235, hy, h⟩ := fbd h
                          by_cases c : y235 = 0
                          · replace h := fps c h
                            obtain ⟨y250, hy, h⟩ := fbd h
                            have k250 := fs_trans (l := s_X12_line_mods) fs_refl (fs_mono (l := s_X12_bad_mods) (by decide) (s_X12_bad_fr hy))
                            replace h := (fgd h).2
                            obtain rfl := Option.some.inj h
                            exact k250
                          · replace h := fng c h
                            obtain ⟨y242, hy, h⟩ := fbd h
                            have k242 := fs_trans (l := s_X12_line_mods) fs_refl (fs_mono (l := s_X12_teach_mods) (by decide) (s_X12_teach_fr hy))
                            replace h := (fgd h).2
                            obtain rfl := Option.some.inj h
                            exact k242
                        · replace h := fng c h
                          obtain ⟨y227, hy, h⟩ := fbd h
                          have k227 := fs_trans (l := s_X12_line_mods) fs_refl (fs_mono (l := s_X12_pupil_mods) (by decide) (s_X12_pupil_fr hy))
                          replace h := (fgd h).2
                          obtain rfl := Option.some.inj h
                          exact k227
                      · replace h := fng c h
                        obtain ⟨y212, hy, h⟩ := fbd h
                        have k212 := fs_trans (l := s_X12_line_mods) fs_refl (fs_mono (l := s_X12_tuner_mods) (by decide) (s_X12_tuner_fr hy))
                        replace h := (fgd h).2
                        obtain rfl := Option.some.inj h
                        exact k212
                    · replace h := fng c h
                      obtain ⟨y197, hy, h⟩ := fbd h
                      have k197 := fs_trans (l := s_X12_line_mods) fs_refl (fs_mono (l := s_X12_readPiano_mods) (by decide) (s_X12_readPiano_fr hy))
                      replace h := (fgd h).2
                      obtain rfl := Option.some.inj h
                      exact k197
                  · replace h := fng c h
                    obtain ⟨y164, hy, h⟩ := fbd h
                    have k164 := fs_trans (l := s_X12_line_mods) fs_refl (fs_mono (l := s_X12_once_mods) (by decide) (s_X12_once_fr hy))
                    by_cases c : y164.1 = 0
                    · replace h := fps c h
                      obtain rfl := Option.some.inj h
                      exact k164
                    · replace h := fng c h
                      obtain ⟨y174, hy, h⟩ := fbd h
                      have k174 := fs_trans (l := s_X12_line_mods) k164 (fs_mono (l := s_X12_span_mods) (by decide) (s_X12_span_fr hy))
                      by_cases c : y174.1 = 0
                      · replace h := fps c h
                        obtain rfl := Option.some.inj h
                        exact k174
                      · replace h := fng c h
                        obtain rfl := Option.some.inj h
                        exact k174
                · replace h := fng c h
                  obtain ⟨y148, hy, h⟩ := fbd h
                  have k148 := fs_trans (l := s_X12_line_mods) fs_refl (fs_mono (l := s_X12_oneNumber_mods) (by decide) (s_X12_oneNumber_fr hy))
                  replace h := (fgd h).2
                  obtain rfl := Option.some.inj h
                  exact k148
              · replace h := fng c h
                obtain ⟨y125, hy, h⟩ := fbd h
                have k125 := fs_trans (l := s_X12_line_mods) fs_refl (fs_mono (l := s_X12_oneNumber_mods) (by decide) (s_X12_oneNumber_fr hy))
                replace h := (fgd h).2
                obtain rfl := Option.some.inj h
                exact k125
            · replace h := fng c h
              obtain ⟨y103, hy, h⟩ := fbd h
              have k103 := fs_trans (l := s_X12_line_mods) fs_refl (fs_mono (l := s_X12_oneNumber_mods) (by decide) (s_X12_oneNumber_fr hy))
              replace h := (fgd h).2
              obtain rfl := Option.some.inj h
              exact k103
          · replace h := fng c h
            obtain ⟨y80, hy, h⟩ := fbd h
            have k80 := fs_trans (l := s_X12_line_mods) fs_refl (fs_mono (l := s_X12_oneNumber_mods) (by decide) (s_X12_oneNumber_fr hy))
            replace h := (fgd h).2
            obtain rfl := Option.some.inj h
            exact k80
        · replace h := fng c h
          obtain ⟨y58, hy, h⟩ := fbd h
          have k58 := fs_trans (l := s_X12_line_mods) fs_refl (fs_mono (l := s_X12_readFee_mods) (by decide) (s_X12_readFee_fr hy))
          replace h := (fgd h).2
          obtain rfl := Option.some.inj h
          exact k58
      · replace h := fng c h
        obtain ⟨y43, hy, h⟩ := fbd h
        have k43 := fs_trans (l := s_X12_line_mods) fs_refl (fs_mono (l := s_X12_weeks_mods) (by decide) (s_X12_weeks_fr hy))
        replace h := (fgd h).2
        obtain rfl := Option.some.inj h
        exact k43
    · replace h := fng c h
      obtain ⟨y27, hy, h⟩ := fbd h
      have k27 := fs_trans (l := s_X12_line_mods) fs_refl (fs_mono (l := s_X12_weeks_mods) (by decide) (s_X12_weeks_fr hy))
      replace h := (fgd h).2
      obtain rfl := Option.some.inj h
      exact k27
  · replace h := fng c h
    obtain ⟨y11, hy, h⟩ := fbd h
    have k11 := fs_trans (l := s_X12_line_mods) fs_refl (fs_mono (l := s_X12_table_mods) (by decide) (s_X12_table_fr hy))
    replace h := (fgd h).2
    obtain rfl := Option.some.inj h
    exact k11
abbrev s_X12_sign_mods : List (Nat × Option Nat) := [(122, some 4), (122, some 11), (122, some 12), (122, some 13), (122, some 14), (122, some 15), (122, some 16), (122, some 17)]
noncomputable def s_X12_sign (M : fM) (l1 : Int) : Option (Int × fM) :=
  (s_X12_isSign M l1).bind fun y2 =>
    if ¬ y2 = 0 then
      (s_X12_next M).bind fun y15 =>
        some (1, y15.2)
    else
      (s_X12_bad M 1).bind fun y10 =>
        if b01 y10.1 then
          some (y10.1, y10.2)
        else none
theorem s_X12_sign_ok {d L : Nat} {M : fM} {l1 : Int} {r : (Int × fM)} {Q : fO → fH → Prop} (h : s_X12_sign M l1 = some r) (H : Q (oI r.1) (156, fjl L, r.2)) : Wp (d + 2, 212, 0, 0, 0, [some (fA 122), some (fI l1)], []) (156, fjl L, M) Q := by
  unfold s_X12_sign at h
  refine Wp.run 2 (f' := (d + 2, 212, 2, 0, 0, [some (fA 122), _], [fI l1, fA 122])) (h' := (156, fjl L, M)) rfl trivial ?_
  obtain ⟨y2, hy, h⟩ := fbd h
  refine Wp.call rfl (by decide) (s_X12_isSign_ok (d := d + 1) hy ?_)
  show Wp (d + 2, 212, 5, 0, 0, [some (fA 122), _], [fI y2]) (156, fjl L, M) Q
  refine Wp.br rfl (fun (c : ¬ y2 = 0) => ?_) (fun (c : ¬ (¬ y2 = 0)) => ?_)
  · replace h := fps c h
    refine Wp.run 1 (f' := (d + 2, 212, 15, 0, 0, [_, _], [fA 122])) (h' := (156, fjl L, M)) rfl trivial ?_
    obtain ⟨y15, hy, h⟩ := fbd h
    refine Wp.call rfl (by decide) (s_X12_next_ok (d := d + 0) hy ?_)
    show Wp (d + 2, 212, 18, 0, 0, [_, _], []) (156, fjl L, y15.2) Q
    refine Wp.run 1 (f' := (d + 2, 212, 19, 0, 0, [_, _], [fI 1])) (h' := (156, fjl L, y15.2)) rfl trivial ?_
    obtain rfl := Option.some.inj h
    exact Wp.done rfl (by decide) H
  · replace h := fng c h
    refine Wp.run 2 (f' := (d + 2, 212, 10, 0, 0, [_, _], [fI 1, fA 122])) (h' := (156, fjl L, M)) rfl trivial ?_
    obtain ⟨y10, hy, h⟩ := fbd h
    refine Wp.call rfl (by decide) (s_X12_bad_ok (d := d + 1) hy ?_)
    show Wp (d + 2, 212, 13, 0, 0, [_, _], [fI y10.1]) (156, fjl L, y10.2) Q
    obtain ⟨g0, h⟩ := fgd h
    obtain rfl := Option.some.inj h
    exact Wp.done rfl ⟨g0, by decide, by decide, by decide⟩ H
theorem s_X12_sign_fr {M : fM} {l1 : Int} {r : (Int × fM)} (h : s_X12_sign M l1 = some r) : fSame s_X12_sign_mods M r.2 := by
  unfold s_X12_sign at h
  obtain ⟨y2, hy, h⟩ := fbd h
  by_cases c : ¬ y2 = 0
  · replace h := fps c h
    obtain ⟨y15, hy, h⟩ := fbd h
    have k15 := fs_trans (l := s_X12_sign_mods) fs_refl (fs_mono (l := s_X12_next_mods) (by decide) (s_X12_next_fr hy))
    obtain rfl := Option.some.inj h
    exact k15
  · replace h := fng c h
    obtain ⟨y10, hy, h⟩ := fbd h
    have k10 := fs_trans (l := s_X12_sign_mods) fs_refl (fs_mono (l := s_X12_bad_mods) (by decide) (s_X12_bad_fr hy))
    replace h := (fgd h).2
    obtain rfl := Option.some.inj h
    exact k10
abbrev s_X12_readHouse_mods : List (Nat × Option Nat) := [(122, some 4), (122, some 11), (122, some 12), (122, some 13), (122, some 14), (122, some 15), (122, some 16), (122, some 17), (122, some 18), (122, some 19), (122, some 20), (124, none), (126, none)]
noncomputable def s_X12_readHouse_b0 (M : fM) : Option (fM ⊕ (fM ⊕ (Int × fM))) :=
  if (M 122 11) = 0 then
    some (.inr (.inl M))
  else
    (s_X12_line M).bind fun y8 =>
      if ¬ y8.1 = 0 then
        (s_X12_sign y8.2 59).bind fun y19 =>
          if ¬ y19.1 = 0 then
            if fin ((y19.2 122 20) + 1) then
              some (.inl (fup y19.2 122 20 ((y19.2 122 20) + 1)))
            else none
          else
            some (.inr (.inr (0, y19.2)))
      else
        some (.inr (.inr (0, y8.2)))
theorem s_X12_readHouse_b0_ok {d L : Nat} {M : fM} {r : (fM ⊕ (fM ⊕ (Int × fM)))} {Q : fO → fH → Prop} (h : s_X12_readHouse_b0 M = some r) (hC : ∀ (M' : fM), r = .inl M' → Wp (d + 7, 222, 0, 0, 0, [some (fA 122)], []) (156, fjl L, M') Q) (hE : ∀ (e : fM) (o0' : Option fV), r = .inr (.inl e) → Wp (d + 7, 222, 40, 0, 0, [o0'], []) (156, fjl L, e) Q) (hR : ∀ (v : (Int × fM)), r = .inr (.inr v) → Q (oI v.1) (156, fjl L, v.2)) : Wp (d + 7, 222, 0, 0, 0, [some (fA 122)], []) (156, fjl L, M) Q := by
  unfold s_X12_readHouse_b0 at h
  refine Wp.run 2 (f' := (d + 7, 222, 4, 0, 0, [some (fA 122)], [fI (M 122 11)])) (h' := (156, fjl L, M)) rfl trivial ?_
  refine Wp.br rfl (fun (c : (M 122 11) = 0) => ?_) (fun (c : ¬ ((M 122 11) = 0)) => ?_)
  · replace h := fps c h
    exact hE _ _ (Option.some.inj h).symm
  · replace h := fng c h
    refine Wp.run 1 (f' := (d + 7, 222, 8, 0, 0, [some (fA 122)], [fA 122])) (h' := (156, fjl L, M)) rfl trivial ?_
    obtain ⟨y8, hy, h⟩ := fbd h
    refine Wp.call rfl (by decide) (s_X12_line_ok (d := d + 0) hy ?_)
    show Wp (d + 7, 222, 11, 0, 0, [some (fA 122)], [fI y8.1]) (156, fjl L, y8.2) Q
    refine Wp.br rfl (fun (c : ¬ y8.1 = 0) => ?_) (fun (c : ¬ (¬ y8.1 = 0)) => ?_)
    · replace h := fps c h
      refine Wp.run 2 (f' := (d + 7, 222, 19, 0, 0, [some (fA 122)], [fI 59, fA 122])) (h' := (156, fjl L, y8.2)) rfl trivial ?_
      obtain ⟨y19, hy, h⟩ := fbd h
      refine Wp.call rfl (by decide) (s_X12_sign_ok (d := d + 4) hy ?_)
      show Wp (d + 7, 222, 22, 0, 0, [some (fA 122)], [fI y19.1]) (156, fjl L, y19.2) Q
      refine Wp.br rfl (fun (c : ¬ y19.1 = 0) => ?_) (fun (c : ¬ (¬ y19.1 = 0)) => ?_)
      · replace h := fps c h
        obtain ⟨g0, h⟩ := fgd h
        refine Wp.run 7 (f' := (d + 7, 222, 0, 0, 0, [some (fA 122)], [])) (h' := (156, fjl L, (fup y19.2 122 20 (fw ((y19.2 122 20) + 1))))) rfl trivial ?_
        rw [fw_id g0]
        exact hC _ (Option.some.inj h).symm
      · replace h := fng c h
        refine Wp.run 1 (f' := (d + 7, 222, 26, 0, 0, [_], [fI 0])) (h' := (156, fjl L, y19.2)) rfl trivial ?_
        exact Wp.done rfl (by decide) (hR _ (Option.some.inj h).symm)
    · replace h := fng c h
      refine Wp.run 1 (f' := (d + 7, 222, 15, 0, 0, [_], [fI 0])) (h' := (156, fjl L, y8.2)) rfl trivial ?_
      exact Wp.done rfl (by decide) (hR _ (Option.some.inj h).symm)
theorem s_X12_readHouse_b0_fr {M : fM} {r : (fM ⊕ (fM ⊕ (Int × fM)))} (h : s_X12_readHouse_b0 M = some r) : fSame s_X12_readHouse_mods M (Sum.elim (fun s => s) (Sum.elim (fun e => e) (fun v => v.2)) r) := by
  unfold s_X12_readHouse_b0 at h
  by_cases c : (M 122 11) = 0
  · replace h := fps c h
    obtain rfl := Option.some.inj h
    exact fs_refl
  · replace h := fng c h
    obtain ⟨y8, hy, h⟩ := fbd h
    have k8 := fs_trans (l := s_X12_readHouse_mods) fs_refl (fs_mono (l := s_X12_line_mods) (by decide) (s_X12_line_fr hy))
    by_cases c : ¬ y8.1 = 0
    · replace h := fps c h
      obtain ⟨y19, hy, h⟩ := fbd h
      have k19 := fs_trans (l := s_X12_readHouse_mods) k8 (fs_mono (l := s_X12_sign_mods) (by decide) (s_X12_sign_fr hy))
      by_cases c : ¬ y19.1 = 0
      · replace h := fps c h
        replace h := (fgd h).2
        obtain rfl := Option.some.inj h
        exact fs_up k19 (.inr (by decide))
      · replace h := fng c h
        obtain rfl := Option.some.inj h
        exact k19
    · replace h := fng c h
      obtain rfl := Option.some.inj h
      exact k8
noncomputable def s_X12_readHouse_l0 (s : fM) : Option (fM ⊕ (Int × fM)) := fLp (fun s => s_X12_readHouse_b0 s) s
theorem s_X12_readHouse_l0_ok {d L : Nat} {M : fM} {r : (fM ⊕ (Int × fM))} {Q : fO → fH → Prop} (h : s_X12_readHouse_l0 M = some r) (hE : ∀ (e : fM) (o0' : Option fV), r = .inl e → Wp (d + 7, 222, 40, 0, 0, [o0'], []) (156, fjl L, e) Q) (hR : ∀ (v : (Int × fM)), r = .inr v → Q (oI v.1) (156, fjl L, v.2)) : Wp (d + 7, 222, 0, 0, 0, [some (fA 122)], []) (156, fjl L, M) Q := by
  refine fLp_wp (W := fun s => Wp (d + 7, 222, 0, 0, 0, [some (fA 122)], []) (156, fjl L, s) Q) (e := r) ?_ h
  intro s r1 h hC hX
  refine s_X12_readHouse_b0_ok (d := d) h (fun a0 e1 => ?_) (fun e u0 e1 => hE e u0 (hX _ e1).symm) (fun v e1 => hR v (hX _ e1).symm)
  exact hC _ e1
theorem s_X12_readHouse_l0_fr {M : fM} {r : (fM ⊕ (Int × fM))} (h : s_X12_readHouse_l0 M = some r) : fSame s_X12_readHouse_mods M ((Sum.elim (fun e => e) (fun v => v.2)) r) := by
  refine fLp_inv (I := fun s => fSame s_X12_readHouse_mods M s) (J := fun r => fSame s_X12_readHouse_mods M ((Sum.elim (fun e => e) (fun v => v.2)) r)) h fs_refl (fun s s1 hs hb => ?_) (fun s e hs hb => ?_)
  · exact fs_trans hs (s_X12_readHouse_b0_fr hb)
  · exact fs_trans hs (s_X12_readHouse_b0_fr hb)
noncomputable def s_X12_readHouse (M : fM) : Option (Int × fM) :=
  (s_X12_readHouse_l0 M).bind fun e0 =>
    Sum.elim (fun x0 =>
      some (1, x0))
      (fun v0 => some v0) e0
theorem s_X12_readHouse_ok {d L : Nat} {M : fM} {r : (Int × fM)} {Q : fO → fH → Prop} (h : s_X12_readHouse M = some r) (H : Q (oI r.1) (156, fjl L, r.2)) : Wp (d + 7, 222, 0, 0, 0, [some (fA 122)], []) (156, fjl L, M) Q := by
  unfold s_X12_readHouse at h
  obtain ⟨e0, hy, h⟩ := fbd h
  refine s_X12_readHouse_l0_ok hy (fun x0 u0 ex => ?_) (fun v0 ex => ?_)
  · subst ex
    replace h := fsl h
    show Wp (d + 7, 222, 40, 0, 0, [u0], []) (156, fjl L, x0) Q
    refine Wp.run 1 (f' := (d + 7, 222, 41, 0, 0, [_], [fI 1])) (h' := (156, fjl L, x0)) rfl trivial ?_
    obtain rfl := Option.some.inj h
    exact Wp.done rfl (by decide) H
  · subst ex
    replace h := fsr h
    obtain rfl := Option.some.inj h
    exact H
theorem s_X12_readHouse_fr {M : fM} {r : (Int × fM)} (h : s_X12_readHouse M = some r) : fSame s_X12_readHouse_mods M r.2 := by
  unfold s_X12_readHouse at h
  obtain ⟨e0, hy, h⟩ := fbd h
  have k0 := fs_trans (l := s_X12_readHouse_mods) fs_refl (s_X12_readHouse_l0_fr hy)
  rcases e0 with x0 | v0
  · replace h := fsl h
    obtain rfl := Option.some.inj h
    exact k0
  · replace h := fsr h
    obtain rfl := Option.some.inj h
    exact k0
abbrev s_X12_house_mods : List (Nat × Option Nat) := [(122, some 0), (122, some 2), (122, some 3), (122, some 4), (122, some 5), (122, some 10), (122, some 11), (122, some 12), (122, some 13), (122, some 14), (122, some 15), (122, some 16), (122, some 17), (122, some 18), (122, some 19), (122, some 20), (124, none), (126, none)]
noncomputable def s_X12_house_b54 (M : fM) (l1 : Int) : Option ((Int × fM) ⊕ fM) :=
  if 645 ≤ l1 then
    some (.inr M)
  else
    if fin (645 + l1) ∧ (0 ≤ (645 + l1) ∧ (645 + l1) < 1290) ∧ (0 ≤ l1 ∧ l1 < 1290) ∧ fin (l1 + 1) then
      some (.inl ((l1 + 1), (fup M 124 (l1).toNat (M 124 (645 + l1).toNat))))
    else none
theorem s_X12_house_b54_ok {d L : Nat} {M : fM} {l1 : Int} {r : ((Int × fM) ⊕ fM)} {Q : fO → fH → Prop} (h : s_X12_house_b54 M l1 = some r) (hC : ∀ (l1' : Int) (M' : fM), r = .inl (l1', M') → Wp (d + 8, 233, 54, 0, 0, [some (fA 122), some (fI l1')], []) (156, fjl L, M') Q) (hE : ∀ (e : fM) (o1' : Option fV), r = .inr e → Wp (d + 8, 233, 83, 0, 0, [some (fA 122), o1'], []) (156, fjl L, e) Q) : Wp (d + 8, 233, 54, 0, 0, [some (fA 122), some (fI l1)], []) (156, fjl L, M) Q := by
  unfold s_X12_house_b54 at h
  refine Wp.run 2 (f' := (d + 8, 233, 58, 0, 0, [some (fA 122), some (fI l1)], [fI 645, fI l1])) (h' := (156, fjl L, M)) rfl trivial ?_
  refine Wp.br rfl (fun (c : 645 ≤ l1) => ?_) (fun (c : ¬ (645 ≤ l1)) => ?_)
  · replace h := fps c h
    exact hE _ _ (Option.some.inj h).symm
  · replace h := fng c h
    obtain ⟨⟨g0, g1, g2, g3⟩, h⟩ := fgd h
    refine Wp.run 12 (P := [0 ≤ (fw (645 + l1)) ∧ (fw (645 + l1)) < 1290, 0 ≤ l1 ∧ l1 < 1290]) (f' := (d + 8, 233, 54, 0, 0, [some (fA 122), some (fI (fw (l1 + 1)))], [])) (h' := (156, fjl L, (fup M 124 (l1).toNat (M 124 (fw (645 + l1)).toNat)))) rfl ?_ ?_
    · rw [fw_id g0]; exact ⟨g1, g2⟩
    rw [fw_id g3, fw_id g0]
    exact hC _ _ (Option.some.inj h).symm
theorem s_X12_house_b54_fr {M : fM} {l1 : Int} {r : ((Int × fM) ⊕ fM)} (h : s_X12_house_b54 M l1 = some r) : fSame s_X12_house_mods M (Sum.elim (fun s => s.2) (fun e => e) r) := by
  unfold s_X12_house_b54 at h
  by_cases c : 645 ≤ l1
  · replace h := fps c h
    obtain rfl := Option.some.inj h
    exact fs_refl
  · replace h := fng c h
    replace h := (fgd h).2
    obtain rfl := Option.some.inj h
    exact fs_up fs_refl (.inl (by decide))
noncomputable def s_X12_house_l54 (s : (Int × fM)) : Option fM := fLp (fun s => s_X12_house_b54 s.2 s.1) s
theorem s_X12_house_l54_ok {d L : Nat} {M : fM} {l1 : Int} {r : fM} {Q : fO → fH → Prop} (h : s_X12_house_l54 (l1, M) = some r) (hE : ∀ (e : fM) (o1' : Option fV), r = e → Wp (d + 8, 233, 83, 0, 0, [some (fA 122), o1'], []) (156, fjl L, e) Q) : Wp (d + 8, 233, 54, 0, 0, [some (fA 122), some (fI l1)], []) (156, fjl L, M) Q := by
  refine fLp_wp (W := fun s => Wp (d + 8, 233, 54, 0, 0, [some (fA 122), some (fI s.1)], []) (156, fjl L, s.2) Q) (e := r) ?_ h
  intro s r1 h hC hX
  refine s_X12_house_b54_ok (d := d) h (fun a0 a1 e1 => ?_) (fun e u0 e1 => hE e u0 (hX _ e1).symm)
  exact hC _ e1
theorem s_X12_house_l54_fr {M : fM} {l1 : Int} {r : fM} (h : s_X12_house_l54 (l1, M) = some r) : fSame s_X12_house_mods M ((fun e => e) r) := by
  refine fLp_inv (I := fun s => fSame s_X12_house_mods M s.2) (J := fun r => fSame s_X12_house_mods M ((fun e => e) r)) h fs_refl (fun s s1 hs hb => ?_) (fun s e hs hb => ?_)
  · exact fs_trans hs (s_X12_house_b54_fr hb)
  · exact fs_trans hs (s_X12_house_b54_fr hb)
noncomputable def s_X12_house_b85 (M : fM) (l1 : Int) : Option ((Int × fM) ⊕ fM) :=
  if 28 ≤ l1 then
    some (.inr M)
  else
    if fin (28 + l1) ∧ (0 ≤ (28 + l1) ∧ (28 + l1) < 56) ∧ (0 ≤ l1 ∧ l1 < 56) ∧ fin (l1 + 1) then
      some (.inl ((l1 + 1), (fup M 126 (l1).toNat (M 126 (28 + l1).toNat))))
    else none
theorem s_X12_house_b85_ok {d L : Nat} {M : fM} {l1 : Int} {r : ((Int × fM) ⊕ fM)} {Q : fO → fH → Prop} (h : s_X12_house_b85 M l1 = some r) (hC : ∀ (l1' : Int) (M' : fM), r = .inl (l1', M') → Wp (d + 8, 233, 85, 0, 0, [some (fA 122), some (fI l1')], []) (156, fjl L, M') Q) (hE : ∀ (e : fM) (o1' : Option fV), r = .inr e → Wp (d + 8, 233, 112, 0, 0, [some (fA 122), o1'], []) (156, fjl L, e) Q) : Wp (d + 8, 233, 85, 0, 0, [some (fA 122), some (fI l1)], []) (156, fjl L, M) Q := by
  unfold s_X12_house_b85 at h
  refine Wp.run 2 (f' := (d + 8, 233, 88, 0, 0, [some (fA 122), some (fI l1)], [fI 28, fI l1])) (h' := (156, fjl L, M)) rfl trivial ?_
  refine Wp.br rfl (fun (c : 28 ≤ l1) => ?_) (fun (c : ¬ (28 ≤ l1)) => ?_)
  · replace h := fps c h
    exact hE _ _ (Option.some.inj h).symm
  · replace h := fng c h
    obtain ⟨⟨g0, g1, g2, g3⟩, h⟩ := fgd h
    refine Wp.run 12 (P := [0 ≤ (fw (28 + l1)) ∧ (fw (28 + l1)) < 56, 0 ≤ l1 ∧ l1 < 56]) (f' := (d + 8, 233, 85, 0, 0, [some (fA 122), some (fI (fw (l1 + 1)))], [])) (h' := (156, fjl L, (fup M 126 (l1).toNat (M 126 (fw (28 + l1)).toNat)))) rfl ?_ ?_
    · rw [fw_id g0]; exact ⟨g1, g2⟩
    rw [fw_id g3, fw_id g0]
    exact hC _ _ (Option.some.inj h).symm
theorem s_X12_house_b85_fr {M : fM} {l1 : Int} {r : ((Int × fM) ⊕ fM)} (h : s_X12_house_b85 M l1 = some r) : fSame s_X12_house_mods M (Sum.elim (fun s => s.2) (fun e => e) r) := by
  unfold s_X12_house_b85 at h
  by_cases c : 28 ≤ l1
  · replace h := fps c h
    obtain rfl := Option.some.inj h
    exact fs_refl
  · replace h := fng c h
    replace h := (fgd h).2
    obtain rfl := Option.some.inj h
    exact fs_up fs_refl (.inl (by decide))
noncomputable def s_X12_house_l85 (s : (Int × fM)) : Option fM := fLp (fun s => s_X12_house_b85 s.2 s.1) s
theorem s_X12_house_l85_ok {d L : Nat} {M : fM} {l1 : Int} {r : fM} {Q : fO → fH → Prop} (h : s_X12_house_l85 (l1, M) = some r) (hE : ∀ (e : fM) (o1' : Option fV), r = e → Wp (d + 8, 233, 112, 0, 0, [some (fA 122), o1'], []) (156, fjl L, e) Q) : Wp (d + 8, 233, 85, 0, 0, [some (fA 122), some (fI l1)], []) (156, fjl L, M) Q := by
  refine fLp_wp (W := fun s => Wp (d + 8, 233, 85, 0, 0, [some (fA 122), some (fI s.1)], []) (156, fjl L, s.2) Q) (e := r) ?_ h
  intro s r1 h hC hX
  refine s_X12_house_b85_ok (d := d) h (fun a0 a1 e1 => ?_) (fun e u0 e1 => hE e u0 (hX _ e1).symm)
  exact hC _ e1
theorem s_X12_house_l85_fr {M : fM} {l1 : Int} {r : fM} (h : s_X12_house_l85 (l1, M) = some r) : fSame s_X12_house_mods M ((fun e => e) r) := by
  refine fLp_inv (I := fun s => fSame s_X12_house_mods M s.2) (J := fun r => fSame s_X12_house_mods M ((fun e => e) r)) h fs_refl (fun s s1 hs hb => ?_) (fun s e hs hb => ?_)
  · exact fs_trans hs (s_X12_house_b85_fr hb)
  · exact fs_trans hs (s_X12_house_b85_fr hb)
noncomputable def s_X12_house (M : fM) : Option (Int × fM) :=
  (s_X12_taken (fup M 122 0 0) 1200).bind fun y9 =>
    (s_X12_begin (fup (fup (fup y9.2 122 15 0) 122 19 0) 122 20 0) 645).bind fun y31 =>
      (s_X12_next y31.2).bind fun y35 =>
        (s_X12_readHouse y35.2).bind fun y39 =>
          if ¬ y39.1 = 0 then
            (s_X12_house_l54 (0, y39.2)).bind fun e54 =>
              (s_X12_house_l85 (0, e54)).bind fun e85 =>
                some ((e85 122 20), (fup e85 122 10 0))
          else
            if fin ((-1) - (y39.2 122 16)) then
              some (((-1) - (y39.2 122 16)), y39.2)
            else none
theorem s_X12_house_ok {d L : Nat} {M : fM} {r : (Int × fM)} {Q : fO → fH → Prop} (h : s_X12_house M = some r) (H : Q (oI r.1) (156, fjl L, r.2)) : Wp (d + 8, 233, 0, 0, 0, [some (fA 122), none], []) (156, fjl L, M) Q := by
  unfold s_X12_house at h
  refine Wp.run 5 (f' := (d + 8, 233, 9, 0, 0, [some (fA 122), _], [fI 1200, fA 122])) (h' := (156, fjl L, (fup M 122 0 0))) rfl trivial ?_
  obtain ⟨y9, hy, h⟩ := fbd h
  refine Wp.call rfl (by decide) (s_X12_taken_ok (d := d + 7) hy ?_)
  show Wp (d + 8, 233, 12, 0, 0, [some (fA 122), _], []) (156, fjl L, y9.2) Q
  refine Wp.run 11 (f' := (d + 8, 233, 31, 0, 0, [some (fA 122), _], [fI 645, fA 122])) (h' := (156, fjl L, (fup (fup (fup y9.2 122 15 0) 122 19 0) 122 20 0))) rfl trivial ?_
  obtain ⟨y31, hy, h⟩ := fbd h
  refine Wp.call rfl (by decide) (s_X12_begin_ok (d := d + 7) hy ?_)
  show Wp (d + 8, 233, 34, 0, 0, [some (fA 122), _], []) (156, fjl L, y31.2) Q
  refine Wp.run 1 (f' := (d + 8, 233, 35, 0, 0, [some (fA 122), _], [fA 122])) (h' := (156, fjl L, y31.2)) rfl trivial ?_
  obtain ⟨y35, hy, h⟩ := fbd h
  refine Wp.call rfl (by decide) (s_X12_next_ok (d := d + 6) hy ?_)
  show Wp (d + 8, 233, 38, 0, 0, [some (fA 122), _], []) (156, fjl L, y35.2) Q
  refine Wp.run 1 (f' := (d + 8, 233, 39, 0, 0, [some (fA 122), _], [fA 122])) (h' := (156, fjl L, y35.2)) rfl trivial ?_
  obtain ⟨y39, hy, h⟩ := fbd h
  refine Wp.call rfl (by decide) (s_X12_readHouse_ok (d := d + 0) hy ?_)
  show Wp (d + 8, 233, 42, 0, 0, [some (fA 122), _], [fI y39.1]) (156, fjl L, y39.2) Q
  refine Wp.br rfl (fun (c : ¬ y39.1 = 0) => ?_) (fun (c : ¬ (¬ y39.1 = 0)) => ?_)
  · replace h := fps c h
    refine Wp.run 2 (f' := (d + 8, 233, 54, 0, 0, [some (fA 122), some (fI 0)], [])) (h' := (156, fjl L, y39.2)) rfl trivial ?_
    obtain ⟨e54, hy, h⟩ := fbd h
    refine s_X12_house_l54_ok hy (fun x u1 ex => ?_)
    cases ex
    show Wp (d + 8, 233, 83, 0, 0, [some (fA 122), u1], []) (156, fjl L, e54) Q
    refine Wp.run 2 (f' := (d + 8, 233, 85, 0, 0, [some (fA 122), some (fI 0)], [])) (h' := (156, fjl L, e54)) rfl trivial ?_
    obtain ⟨e85, hy, h⟩ := fbd h
    refine s_X12_house_l85_ok hy (fun x u1 ex => ?_)
    cases ex
    show Wp (d + 8, 233, 112, 0, 0, [some (fA 122), u1], []) (156, fjl L, e85) Q
    refine Wp.run 5 (f' := (d + 8, 233, 121, 0, 0, [_, _], [fI (e85 122 20)])) (h' := (156, fjl L, (fup e85 122 10 0))) rfl trivial ?_
    obtain rfl := Option.some.inj h
    exact Wp.done rfl (by decide) H
  · replace h := fng c h
    obtain ⟨g0, h⟩ := fgd h
    refine Wp.run 4 (f' := (d + 8, 233, 51, 0, 0, [_, _], [fI (fw ((-1) - (y39.2 122 16)))])) (h' := (156, fjl L, y39.2)) rfl trivial ?_
    rw [fw_id g0]
    obtain rfl := Option.some.inj h
    exact Wp.done rfl (by decide) H
theorem s_X12_house_fr {M : fM} {r : (Int × fM)} (h : s_X12_house M = some r) : fSame s_X12_house_mods M r.2 := by
  unfold s_X12_house at h
  obtain ⟨y9, hy, h⟩ := fbd h
  have k9 := fs_trans (l := s_X12_house_mods) (fs_up fs_refl (.inr (by decide))) (fs_mono (l := s_X12_taken_mods) (by decide) (s_X12_taken_fr hy))
  obtain ⟨y31, hy, h⟩ := fbd h
  have k31 := fs_trans (l := s_X12_house_mods) (fs_up (fs_up (fs_up k9 (.inr (by decide))) (.inr (by decide))) (.inr (by decide))) (fs_mono (l := s_X12_begin_mods) (by decide) (s_X12_begin_fr hy))
  obtain ⟨y35, hy, h⟩ := fbd h
  have k35 := fs_trans (l := s_X12_house_mods) k31 (fs_mono (l := s_X12_next_mods) (by decide) (s_X12_next_fr hy))
  obtain ⟨y39, hy, h⟩ := fbd h
  have k39 := fs_trans (l := s_X12_house_mods) k35 (fs_mono (l := s_X12_readHouse_mods) (by decide) (s_X12_readHouse_fr hy))
  by_cases c : ¬ y39.1 = 0
  · replace h := fps c h
    obtain ⟨e54, hy, h⟩ := fbd h
    have k54 := fs_trans (l := s_X12_house_mods) k39 (s_X12_house_l54_fr hy)
    obtain ⟨e85, hy, h⟩ := fbd h
    have k85 := fs_trans (l := s_X12_house_mods) k54 (s_X12_house_l85_fr hy)
    obtain rfl := Option.some.inj h
    exact fs_up k85 (.inr (by decide))
  · replace h := fng c h
    replace h := (fgd h).2
    obtain rfl := Option.some.inj h
    exact k39
noncomputable def s_X2_placeOf_15_b3 (M : fM) (l1 l2 l4 : Int) : Option (Int ⊕ (Unit ⊕ Int)) :=
  if l1 ≤ l4 then
    some (.inr (.inl ()))
  else
    if (0 ≤ l4 ∧ l4 < 16) then
      if ¬ (M 15 (l4).toNat) = l2 then
        if fin (l4 + 1) then
          some (.inl (l4 + 1))
        else none
      else
        some (.inr (.inr l4))
    else none
theorem s_X2_placeOf_15_b3_ok {d L : Nat} {M : fM} {l1 l2 l4 : Int} {r : (Int ⊕ (Unit ⊕ Int))} {Q : fO → fH → Prop} (h : s_X2_placeOf_15_b3 M l1 l2 l4 = some r) (hC : ∀ (l4' : Int), r = .inl l4' → Wp (d + 0, 41, 3, 0, 0, [some (fA 15), some (fI l1), some (fJ l2), none, some (fI l4')], []) (156, fjl L, M) Q) (hE : ∀ (e : Unit) (o0' o1' o2' o3' o4' : Option fV), r = .inr (.inl e) → Wp (d + 0, 41, 27, 0, 0, [o0', o1', o2', o3', o4'], []) (156, fjl L, M) Q) (hR : ∀ (v : Int), r = .inr (.inr v) → Q (oI v) (156, fjl L, M)) : Wp (d + 0, 41, 3, 0, 0, [some (fA 15), some (fI l1), some (fJ l2), none, some (fI l4)], []) (156, fjl L, M) Q := by
  unfold s_X2_placeOf_15_b3 at h
  refine Wp.run 2 (f' := (d + 0, 41, 6, 0, 0, [some (fA 15), some (fI l1), some (fJ l2), none, some (fI l4)], [fI l1, fI l4])) (h' := (156, fjl L, M)) rfl trivial ?_
  refine Wp.br rfl (fun (c : l1 ≤ l4) => ?_) (fun (c : ¬ (l1 ≤ l4)) => ?_)
  · replace h := fps c h
    exact hE _ _ _ _ _ _ (Option.some.inj h).symm
  · replace h := fng c h
    obtain ⟨g0, h⟩ := fgd h
    refine Wp.run 5 (P := [0 ≤ l4 ∧ l4 < 16]) (f' := (d + 0, 41, 15, 0, 0, [some (fA 15), some (fI l1), some (fJ l2), none, some (fI l4)], [fI (fcm (M 15 (l4).toNat) l2)])) (h' := (156, fjl L, M)) rfl ?_ ?_
    · exact g0
    refine Wp.br rfl (fun (c : ¬ (fcm (M 15 (l4).toNat) l2) = 0) => ?_) (fun (c : ¬ (¬ (fcm (M 15 (l4).toNat) l2) = 0)) => ?_)
    · replace c := (fcm_ne _ _).mp c
      replace h := fps c h
      obtain ⟨g0, h⟩ := fgd h
      refine Wp.run 2 (f' := (d + 0, 41, 3, 0, 0, [some (fA 15), some (fI l1), some (fJ l2), none, some (fI (fw (l4 + 1)))], [])) (h' := (156, fjl L, M)) rfl trivial ?_
      rw [fw_id g0]
      exact hC _ (Option.some.inj h).symm
    · replace c := fun z => c ((fcm_ne _ _).mpr z)
      replace h := fng c h
      refine Wp.run 1 (f' := (d + 0, 41, 20, 0, 0, [_, _, _, _, _], [fI l4])) (h' := (156, fjl L, M)) rfl trivial ?_
      exact Wp.done rfl (by decide) (hR _ (Option.some.inj h).symm)
noncomputable def s_X2_placeOf_15_l3 (M : fM) (l1 l2 : Int) (s : Int) : Option (Unit ⊕ Int) := fLp (fun s => s_X2_placeOf_15_b3 M l1 l2 s) s
theorem s_X2_placeOf_15_l3_ok {d L : Nat} {M : fM} {l1 l2 l4 : Int} {r : (Unit ⊕ Int)} {Q : fO → fH → Prop} (h : s_X2_placeOf_15_l3 M l1 l2 l4 = some r) (hE : ∀ (e : Unit) (o0' o1' o2' o3' o4' : Option fV), r = .inl e → Wp (d + 0, 41, 27, 0, 0, [o0', o1', o2', o3', o4'], []) (156, fjl L, M) Q) (hR : ∀ (v : Int), r = .inr v → Q (oI v) (156, fjl L, M)) : Wp (d + 0, 41, 3, 0, 0, [some (fA 15), some (fI l1), some (fJ l2), none, some (fI l4)], []) (156, fjl L, M) Q := by
  refine fLp_wp (W := fun s => Wp (d + 0, 41, 3, 0, 0, [some (fA 15), some (fI l1), some (fJ l2), none, some (fI s)], []) (156, fjl L, M) Q) (e := r) ?_ h
  intro s r1 h hC hX
  refine s_X2_placeOf_15_b3_ok (d := d) h (fun a0 e1 => ?_) (fun e u0 u1 u2 u3 u4 e1 => hE e u0 u1 u2 u3 u4 (hX _ e1).symm) (fun v e1 => hR v (hX _ e1).symm)
  exact hC _ e1
noncomputable def s_X2_placeOf_15 (M : fM) (l1 l2 : Int) : Option Int :=
  (s_X2_placeOf_15_l3 M l1 l2 0).bind fun e3 =>
    Sum.elim (fun x3 =>
      some (-1))
      (fun v3 => some v3) e3
theorem s_X2_placeOf_15_ok {d L : Nat} {M : fM} {l1 l2 : Int} {r : Int} {Q : fO → fH → Prop} (h : s_X2_placeOf_15 M l1 l2 = some r) (H : Q (oI r) (156, fjl L, M)) : Wp (d + 0, 41, 0, 0, 0, [some (fA 15), some (fI l1), some (fJ l2), none, none], []) (156, fjl L, M) Q := by
  unfold s_X2_placeOf_15 at h
  refine Wp.run 2 (f' := (d + 0, 41, 3, 0, 0, [some (fA 15), some (fI l1), some (fJ l2), none, some (fI 0)], [])) (h' := (156, fjl L, M)) rfl trivial ?_
  obtain ⟨e3, hy, h⟩ := fbd h
  refine s_X2_placeOf_15_l3_ok hy (fun x3 u0 u1 u2 u3 u4 ex => ?_) (fun v3 ex => ?_)
  · subst ex
    replace h := fsl h
    show Wp (d + 0, 41, 27, 0, 0, [u0, u1, u2, u3, u4], []) (156, fjl L, M) Q
    refine Wp.run 1 (f' := (d + 0, 41, 28, 0, 0, [_, _, _, _, _], [fI (-1)])) (h' := (156, fjl L, M)) rfl trivial ?_
    obtain rfl := Option.some.inj h
    exact Wp.done rfl (by decide) H
  · subst ex
    replace h := fsr h
    obtain rfl := Option.some.inj h
    exact H
noncomputable def s_X2_pianoNamed_4 (M : fM) (l1 : Int) : Option Int :=
  (s_X2_placeOf_15 M (M 4 13) l1).bind fun y9 =>
    some y9
theorem s_X2_pianoNamed_4_ok {d L : Nat} {M : fM} {l1 : Int} {r : Int} {Q : fO → fH → Prop} (h : s_X2_pianoNamed_4 M l1 = some r) (H : Q (oI r) (156, fjl L, M)) : Wp (d + 1, 37, 0, 0, 0, [some (fA 4), some (fJ l1), none], []) (156, fjl L, M) Q := by
  unfold s_X2_pianoNamed_4 at h
  refine Wp.run 5 (f' := (d + 1, 37, 9, 0, 0, [_, _, _], [fJ l1, fI (M 4 13), fA 15])) (h' := (156, fjl L, M)) rfl trivial ?_
  obtain ⟨y9, hy, h⟩ := fbd h
  refine Wp.call rfl (by decide) (s_X2_placeOf_15_ok (d := d + 0) hy ?_)
  show Wp (d + 1, 37, 12, 0, 0, [_, _, _], [fI y9]) (156, fjl L, M) Q
  obtain rfl := Option.some.inj h
  exact Wp.done rfl (by decide) H
