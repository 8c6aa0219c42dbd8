/-! ===== functions of the methods (printed by genfun.py) ===== -/
abbrev s_X12_lean_mods : List (Nat × Option Nat) := [(122, some 0)]
noncomputable def s_X12_lean_j108 (M : fM) (l1 l2 l3 l4 l5 l6 l7 l8 : Int) : Option ((Int × Int × Int) ⊕ (Int × Int)) :=
  if fin (l8 + 6) ∧ (0 ≤ (l8 + 6) ∧ (l8 + 6) < 3800) then
    if ¬ (fand (fshr (M 125 (l8 + 6).toNat) l2) 1) = 0 then
      if fin (l8 + 7) ∧ fin ((l8 + 7) + l2) ∧ (0 ≤ ((l8 + 7) + l2) ∧ ((l8 + 7) + l2) < 3800) ∧ fin (l5 + (M 125 ((l8 + 7) + l2).toNat)) ∧ fin (l6 + 1) then
        if fin (l7 + 1) then
          some (.inl ((l5 + (M 125 ((l8 + 7) + l2).toNat)), (l6 + 1), (l7 + 1)))
        else none
      else none
    else
      if fin (l7 + 1) then
        some (.inl (l5, l6, (l7 + 1)))
      else none
  else none
theorem s_X12_lean_j108_ok {d L : Nat} {M : fM} {l1 l2 l3 l4 l5 l6 l7 l8 : Int} {r : ((Int × Int × Int) ⊕ (Int × Int))} {Q : fO → fH → Prop} (h : s_X12_lean_j108 M l1 l2 l3 l4 l5 l6 l7 l8 = some r) (hC : ∀ (l5' l6' l7' : Int) (o8' : Option fV), r = .inl (l5', l6', l7') → Wp (d + 2, 272, 51, 0, 0, [some (fA 122), some (fI l1), some (fI l2), some (fI l3), some (fI l4), some (fI l5'), some (fI l6'), some (fI l7'), o8'], []) (156, fjl L, M) Q) (hE : ∀ (e : (Int × Int)) (o1' o2' o3' o7' o8' : Option fV), r = .inr e → Wp (d + 2, 272, 154, 0, 0, [some (fA 122), o1', o2', o3', some (fI l4), some (fI e.1), some (fI e.2), o7', o8'], []) (156, fjl L, M) Q) : Wp (d + 2, 272, 108, 0, 0, [some (fA 122), some (fI l1), some (fI l2), some (fI l3), some (fI l4), some (fI l5), some (fI l6), some (fI l7), some (fI l8)], []) (156, fjl L, M) Q := by
  unfold s_X12_lean_j108 at h
  obtain ⟨⟨g0, g1⟩, h⟩ := fgd h
  refine Wp.run 10 (P := [0 ≤ (fw (l8 + 6)) ∧ (fw (l8 + 6)) < 3800]) (f' := (d + 2, 272, 122, 0, 0, [some (fA 122), some (fI l1), some (fI l2), some (fI l3), some (fI l4), some (fI l5), some (fI l6), some (fI l7), some (fI l8)], [fI (fand (fshr (M 125 (fw (l8 + 6)).toNat) l2) 1)])) (h' := (156, fjl L, M)) rfl ?_ ?_
  · rw [fw_id g0]; exact g1
  rw [fw_id g0]
  refine Wp.br rfl (fun (c : ¬ (fand (fshr (M 125 (l8 + 6).toNat) l2) 1) = 0) => ?_) (fun (c : ¬ (¬ (fand (fshr (M 125 (l8 + 6).toNat) l2) 1) = 0)) => ?_)
  · replace h := fps c h
    obtain ⟨⟨g0, g1, g2, g3, g4⟩, h⟩ := fgd h
    refine Wp.run 12 (P := [0 ≤ (fw ((fw (l8 + 7)) + l2)) ∧ (fw ((fw (l8 + 7)) + l2)) < 3800]) (f' := (d + 2, 272, 148, 0, 0, [some (fA 122), some (fI l1), some (fI l2), some (fI l3), some (fI l4), some (fI (fw (l5 + (M 125 (fw ((fw (l8 + 7)) + l2)).toNat)))), some (fI (fw (l6 + 1))), some (fI l7), _], [])) (h' := (156, fjl L, M)) rfl ?_ ?_
    · rw [fw_id g0, fw_id g1]; exact g2
    rw [fw_id g0, fw_id g1, fw_id g3, fw_id g4]
    obtain ⟨g0, h⟩ := fgd h
    refine Wp.run 2 (f' := (d + 2, 272, 51, 0, 0, [some (fA 122), some (fI l1), some (fI l2), some (fI l3), some (fI l4), some (fI (l5 + (M 125 ((l8 + 7) + l2).toNat))), some (fI (l6 + 1)), some (fI (fw (l7 + 1))), _], [])) (h' := (156, fjl L, M)) rfl trivial ?_
    rw [fw_id g0]
    exact hC _ _ _ _ (Option.some.inj h).symm
  · replace h := fng c h
    obtain ⟨g0, h⟩ := fgd h
    refine Wp.run 3 (f' := (d + 2, 272, 51, 0, 0, [some (fA 122), some (fI l1), some (fI l2), some (fI l3), some (fI l4), some (fI l5), some (fI l6), some (fI (fw (l7 + 1))), _], [])) (h' := (156, fjl L, M)) rfl trivial ?_
    rw [fw_id g0]
    exact hC _ _ _ _ (Option.some.inj h).symm
theorem s_X12_lean_j108_fr {M : fM} {l1 l2 l3 l4 l5 l6 l7 l8 : Int} {r : ((Int × Int × Int) ⊕ (Int × Int))} (h : s_X12_lean_j108 M l1 l2 l3 l4 l5 l6 l7 l8 = some r) : fSame s_X12_lean_mods M (Sum.elim (fun _ => M) (fun _ => M) r) := by
  unfold s_X12_lean_j108 at h
  replace h := (fgd h).2
  by_cases c : ¬ (fand (fshr (M 125 (l8 + 6).toNat) l2) 1) = 0
  · replace h := fps c h
    replace h := (fgd h).2
    replace h := (fgd h).2
    obtain rfl := Option.some.inj h
    exact fs_refl
  · replace h := fng c h
    replace h := (fgd h).2
    obtain rfl := Option.some.inj h
    exact fs_refl
noncomputable def s_X12_lean_b51 (M : fM) (l1 l2 l3 l4 l5 l6 l7 : Int) : Option ((Int × Int × Int) ⊕ (Int × Int)) :=
  if (M 122 10) ≤ l7 then
    some (.inr (l5, l6))
  else
    if fin (19 * l7) ∧ (0 ≤ (19 * l7) ∧ (19 * l7) < 3800) then
      if ¬ (M 125 (19 * l7).toNat) = 0 then
        if fin (l7 + 1) then
          some (.inl (l5, l6, (l7 + 1)))
        else none
      else
        if fin ((19 * l7) + 4) ∧ (0 ≤ ((19 * l7) + 4) ∧ ((19 * l7) + 4) < 3800) then
          if ¬ (M 125 ((19 * l7) + 4).toNat) = l1 then
            if fin (l7 + 1) then
              some (.inl (l5, l6, (l7 + 1)))
            else none
          else
            if l3 = (-1) then
              s_X12_lean_j108 M l1 l2 l3 l4 l5 l6 l7 (19 * l7)
            else
              if fin ((19 * l7) + 3) ∧ (0 ≤ ((19 * l7) + 3) ∧ ((19 * l7) + 3) < 3800) then
                if l3 < (M 125 ((19 * l7) + 3).toNat) then
                  if fin (l7 + 1) then
                    some (.inl (l5, l6, (l7 + 1)))
                  else none
                else
                  s_X12_lean_j108 M l1 l2 l3 l4 l5 l6 l7 (19 * l7)
              else none
        else none
    else none
theorem s_X12_lean_b51_ok {d L : Nat} {M : fM} {l1 l2 l3 l4 l5 l6 l7 : Int} {o8 : Option fV} {r : ((Int × Int × Int) ⊕ (Int × Int))} {Q : fO → fH → Prop} (h : s_X12_lean_b51 M l1 l2 l3 l4 l5 l6 l7 = some r) (hC : ∀ (l5' l6' l7' : Int) (o8' : Option fV), r = .inl (l5', l6', l7') → Wp (d + 2, 272, 51, 0, 0, [some (fA 122), some (fI l1), some (fI l2), some (fI l3), some (fI l4), some (fI l5'), some (fI l6'), some (fI l7'), o8'], []) (156, fjl L, M) Q) (hE : ∀ (e : (Int × Int)) (o1' o2' o3' o7' o8' : Option fV), r = .inr e → Wp (d + 2, 272, 154, 0, 0, [some (fA 122), o1', o2', o3', some (fI l4), some (fI e.1), some (fI e.2), o7', o8'], []) (156, fjl L, M) Q) : Wp (d + 2, 272, 51, 0, 0, [some (fA 122), some (fI l1), some (fI l2), some (fI l3), some (fI l4), some (fI l5), some (fI l6), some (fI l7), o8], []) (156, fjl L, M) Q := by
  unfold s_X12_lean_b51 at h
  refine Wp.run 3 (f' := (d + 2, 272, 57, 0, 0, [some (fA 122), some (fI l1), some (fI l2), some (fI l3), some (fI l4), some (fI l5), some (fI l6), some (fI l7), _], [fI (M 122 10), fI l7])) (h' := (156, fjl L, M)) rfl trivial ?_
  refine Wp.br rfl (fun (c : (M 122 10) ≤ l7) => ?_) (fun (c : ¬ ((M 122 10) ≤ l7)) => ?_)
  · replace h := fps c h
    exact hE _ _ _ _ _ _ (Option.some.inj h).symm
  · replace h := fng c h
    obtain ⟨⟨g0, g1⟩, h⟩ := fgd h
    refine Wp.run 8 (P := [0 ≤ (fw (19 * l7)) ∧ (fw (19 * l7)) < 3800]) (f' := (d + 2, 272, 74, 0, 0, [some (fA 122), some (fI l1), some (fI l2), some (fI l3), some (fI l4), some (fI l5), some (fI l6), some (fI l7), some (fI (fw (19 * l7)))], [fI (M 125 (fw (19 * l7)).toNat)])) (h' := (156, fjl L, M)) rfl ?_ ?_
    · rw [fw_id g0]; exact g1
    rw [fw_id g0]
    refine Wp.br rfl (fun (c : ¬ (M 125 (19 * l7).toNat) = 0) => ?_) (fun (c : ¬ (¬ (M 125 (19 * l7).toNat) = 0)) => ?_)
    · replace h := fps c h
      obtain ⟨g0, h⟩ := fgd h
      refine Wp.run 2 (f' := (d + 2, 272, 51, 0, 0, [some (fA 122), some (fI l1), some (fI l2), some (fI l3), some (fI l4), some (fI l5), some (fI l6), some (fI (fw (l7 + 1))), _], [])) (h' := (156, fjl L, M)) rfl trivial ?_
      rw [fw_id g0]
      exact hC _ _ _ _ (Option.some.inj h).symm
    · replace h := fng c h
      obtain ⟨⟨g0, g1⟩, h⟩ := fgd h
      refine Wp.run 7 (P := [0 ≤ (fw ((19 * l7) + 4)) ∧ (fw ((19 * l7) + 4)) < 3800]) (f' := (d + 2, 272, 87, 0, 0, [some (fA 122), some (fI l1), some (fI l2), some (fI l3), some (fI l4), some (fI l5), some (fI l6), some (fI l7), some (fI (19 * l7))], [fI l1, fI (M 125 (fw ((19 * l7) + 4)).toNat)])) (h' := (156, fjl L, M)) rfl ?_ ?_
      · rw [fw_id g0]; exact g1
      rw [fw_id g0]
      refine Wp.br rfl (fun (c : ¬ (M 125 ((19 * l7) + 4).toNat) = l1) => ?_) (fun (c : ¬ (¬ (M 125 ((19 * l7) + 4).toNat) = l1)) => ?_)
      · replace h := fps c h
        obtain ⟨g0, h⟩ := fgd h
        refine Wp.run 2 (f' := (d + 2, 272, 51, 0, 0, [some (fA 122), some (fI l1), some (fI l2), some (fI l3), some (fI l4), some (fI l5), some (fI l6), some (fI (fw (l7 + 1))), _], [])) (h' := (156, fjl L, M)) rfl trivial ?_
        rw [fw_id g0]
        exact hC _ _ _ _ (Option.some.inj h).symm
      · replace h := fng c h
        refine Wp.run 2 (f' := (d + 2, 272, 92, 0, 0, [some (fA 122), some (fI l1), some (fI l2), some (fI l3), some (fI l4), some (fI l5), some (fI l6), some (fI l7), some (fI (19 * l7))], [fI (-1), fI l3])) (h' := (156, fjl L, M)) rfl trivial ?_
        refine Wp.br rfl (fun (c : l3 = (-1)) => ?_) (fun (c : ¬ (l3 = (-1))) => ?_)
        · replace h := fps c h
          exact s_X12_lean_j108_ok h hC hE
        · replace h := fng c h
          obtain ⟨⟨g0, g1⟩, h⟩ := fgd h
          refine Wp.run 7 (P := [0 ≤ (fw ((19 * l7) + 3)) ∧ (fw ((19 * l7) + 3)) < 3800]) (f' := (d + 2, 272, 105, 0, 0, [some (fA 122), some (fI l1), some (fI l2), some (fI l3), some (fI l4), some (fI l5), some (fI l6), some (fI l7), some (fI (19 * l7))], [fI l3, fI (M 125 (fw ((19 * l7) + 3)).toNat)])) (h' := (156, fjl L, M)) rfl ?_ ?_
          · rw [fw_id g0]; exact g1
          rw [fw_id g0]
          refine Wp.br rfl (fun (c : l3 < (M 125 ((19 * l7) + 3).toNat)) => ?_) (fun (c : ¬ (l3 < (M 125 ((19 * l7) + 3).toNat))) => ?_)
          · replace h := fps c h
            obtain ⟨g0, h⟩ := fgd h
            refine Wp.run 2 (f' := (d + 2, 272, 51, 0, 0, [some (fA 122), some (fI l1), some (fI l2), some (fI l3), some (fI l4), some (fI l5), some (fI l6), some (fI (fw (l7 + 1))), _], [])) (h' := (156, fjl L, M)) rfl trivial ?_
            rw [fw_id g0]
            exact hC _ _ _ _ (Option.some.inj h).symm
          · replace h := fng c h
            exact s_X12_lean_j108_ok h hC hE
theorem s_X12_lean_b51_fr {M : fM} {l1 l2 l3 l4 l5 l6 l7 : Int} {r : ((Int × Int × Int) ⊕ (Int × Int))} (h : s_X12_lean_b51 M l1 l2 l3 l4 l5 l6 l7 = some r) : fSame s_X12_lean_mods M (Sum.elim (fun _ => M) (fun _ => M) r) := by
  unfold s_X12_lean_b51 at h
  by_cases c : (M 122 10) ≤ l7
  · replace h := fps c h
    obtain rfl := Option.some.inj h
    exact fs_refl
  · replace h := fng c h
    replace h := (fgd h).2
    by_cases c : ¬ (M 125 (19 * l7).toNat) = 0
    · replace h := fps c h
      replace h := (fgd h).2
      obtain rfl := Option.some.inj h
      exact fs_refl
    · replace h := fng c h
      replace h := (fgd h).2
      by_cases c : ¬ (M 125 ((19 * l7) + 4).toNat) = l1
      · replace h := fps c h
        replace h := (fgd h).2
        obtain rfl := Option.some.inj h
        exact fs_refl
      · replace h := fng c h
        by_cases c : l3 = (-1)
        · replace h := fps c h
          exact fs_trans fs_refl (s_X12_lean_j108_fr h)
        · replace h := fng c h
          replace h := (fgd h).2
          by_cases c : l3 < (M 125 ((19 * l7) + 3).toNat)
          · replace h := fps c h
            replace h := (fgd h).2
            obtain rfl := Option.some.inj h
            exact fs_refl
          · replace h := fng c h
            exact fs_trans fs_refl (s_X12_lean_j108_fr h)
noncomputable def s_X12_lean_l51 (M : fM) (l1 l2 l3 l4 : Int) (s : (Int × Int × Int)) : Option (Int × Int) := fLp (fun s => s_X12_lean_b51 M l1 l2 l3 l4 s.1 s.2.1 s.2.2) s
theorem s_X12_lean_l51_ok {d L : Nat} {M : fM} {l1 l2 l3 l4 l5 l6 l7 : Int} {o8 : Option fV} {r : (Int × Int)} {Q : fO → fH → Prop} (h : s_X12_lean_l51 M l1 l2 l3 l4 (l5, l6, l7) = some r) (hE : ∀ (e : (Int × Int)) (o1' o2' o3' o7' o8' : Option fV), r = e → Wp (d + 2, 272, 154, 0, 0, [some (fA 122), o1', o2', o3', some (fI l4), some (fI e.1), some (fI e.2), o7', o8'], []) (156, fjl L, M) Q) : Wp (d + 2, 272, 51, 0, 0, [some (fA 122), some (fI l1), some (fI l2), some (fI l3), some (fI l4), some (fI l5), some (fI l6), some (fI l7), o8], []) (156, fjl L, M) Q := by
  refine fLp_wp (W := fun s => ∀ (o8 : Option fV), Wp (d + 2, 272, 51, 0, 0, [some (fA 122), some (fI l1), some (fI l2), some (fI l3), some (fI l4), some (fI s.1), some (fI s.2.1), some (fI s.2.2), o8], []) (156, fjl L, M) Q) (e := r) ?_ h _
  intro s r1 h hC hX o8
  refine s_X12_lean_b51_ok (d := d) h (fun a0 a1 a2 _ e1 => ?_) (fun e u0 u1 u2 u3 u4 e1 => hE e u0 u1 u2 u3 u4 (hX _ e1).symm)
  exact hC _ e1 _
noncomputable def s_X12_lean_j178 (M : fM) (l5 l6 t0 : Int) : Option (Int × fM) :=
  (s_X12_common M l5 l6).bind fun y184 =>
    if fin y184 ∧ y184 ≠ 0 then
      some ((fdiv t0 y184), M)
    else none
theorem s_X12_lean_j178_ok {d L : Nat} {M : fM} {l5 l6 t0 : Int} {o0 o1 o2 o3 o4 o7 o8 : Option fV} {r : (Int × fM)} {Q : fO → fH → Prop} (h : s_X12_lean_j178 M l5 l6 t0 = some r) (H : Q (oI r.1) (156, fjl L, r.2)) : Wp (d + 2, 272, 178, 0, 0, [o0, o1, o2, o3, o4, some (fI l5), some (fI l6), o7, o8], [fI t0]) (156, fjl L, M) Q := by
  unfold s_X12_lean_j178 at h
  refine Wp.run 4 (f' := (d + 2, 272, 184, 0, 0, [_, _, _, _, _, _, _, _, _], [fJ l6, fJ l5, fI t0])) (h' := (156, fjl L, M)) rfl trivial ?_
  obtain ⟨y184, hy, h⟩ := fbd h
  refine Wp.call rfl (by decide) (s_X12_common_ok (d := d + 1) hy ?_)
  show Wp (d + 2, 272, 187, 0, 0, [_, _, _, _, _, _, _, _, _], [fJ y184, fI t0]) (156, fjl L, M) Q
  obtain ⟨⟨g0, g1⟩, h⟩ := fgd h
  refine Wp.run 2 (P := [(fw y184) ≠ 0]) (f' := (d + 2, 272, 189, 0, 0, [_, _, _, _, _, _, _, _, _], [fI (fdiv t0 (fw y184))])) (h' := (156, fjl L, M)) rfl ?_ ?_
  · rw [fw_id g0]; exact g1
  rw [fw_id g0]
  obtain rfl := Option.some.inj h
  exact Wp.done rfl (by decide) H
theorem s_X12_lean_j178_fr {M : fM} {l5 l6 t0 : Int} {r : (Int × fM)} (h : s_X12_lean_j178 M l5 l6 t0 = some r) : fSame s_X12_lean_mods M r.2 := by
  unfold s_X12_lean_j178 at h
  obtain ⟨y184, hy, h⟩ := fbd h
  replace h := (fgd h).2
  obtain rfl := Option.some.inj h
  exact fs_refl
noncomputable def s_X12_lean (M : fM) (l1 l2 l3 l4 : Int) : Option (Int × fM) :=
  (s_X12_isTuner (fup M 122 0 1) l1).bind fun y7 =>
    if y7 = 0 then
      some (0, (fup M 122 0 1))
    else
      (s_X12_isIn (fup M 122 0 1) l2 0 11).bind fun y17 =>
        if y17 = 0 then
          some (0, (fup M 122 0 1))
        else
          (s_X12_isKnown (fup M 122 0 1) l3).bind fun y24 =>
            if y24 = 0 then
              some (0, (fup M 122 0 1))
            else
              (s_X12_isIn (fup M 122 0 1) l4 0 1).bind fun y34 =>
                if ¬ y34 = 0 then
                  (s_X12_lean_l51 (fup M 122 0 1) l1 l2 l3 l4 (0, 0, 0)).bind fun e51 =>
                    if ¬ e51.2 = 0 then
                      if ¬ l4 = 0 then
                        s_X12_lean_j178 (fup (fup M 122 0 1) 122 0 0) e51.1 e51.2 e51.2
                      else
                        s_X12_lean_j178 (fup (fup M 122 0 1) 122 0 0) e51.1 e51.2 e51.1
                    else
                      some (0, (fup M 122 0 1))
                else
                  some (0, (fup M 122 0 1))
theorem s_X12_lean_ok {d L : Nat} {M : fM} {l1 l2 l3 l4 : Int} {r : (Int × fM)} {Q : fO → fH → Prop} (h : s_X12_lean M l1 l2 l3 l4 = some r) (H : Q (oI r.1) (156, fjl L, r.2)) : Wp (d + 2, 272, 0, 0, 0, [some (fA 122), some (fI l1), some (fI l2), some (fI l3), some (fI l4), none, none, none, none], []) (156, fjl L, M) Q := by
  unfold s_X12_lean at h
  refine Wp.run 5 (f' := (d + 2, 272, 7, 0, 0, [some (fA 122), some (fI l1), some (fI l2), some (fI l3), some (fI l4), _, _, _, _], [fI l1, fA 122])) (h' := (156, fjl L, (fup M 122 0 1))) rfl trivial ?_
  obtain ⟨y7, hy, h⟩ := fbd h
  refine Wp.call rfl (by decide) (s_X12_isTuner_ok (d := d + 0) hy ?_)
  show Wp (d + 2, 272, 10, 0, 0, [some (fA 122), some (fI l1), some (fI l2), some (fI l3), some (fI l4), _, _, _, _], [fI y7]) (156, fjl L, (fup M 122 0 1)) Q
  refine Wp.br rfl (fun (c : y7 = 0) => ?_) (fun (c : ¬ (y7 = 0)) => ?_)
  · replace h := fps c h
    refine Wp.run 1 (f' := (d + 2, 272, 41, 0, 0, [_, _, _, _, _, _, _, _, _], [fI 0])) (h' := (156, fjl L, (fup M 122 0 1))) rfl trivial ?_
    obtain rfl := Option.some.inj h
    exact Wp.done rfl (by decide) H
  · replace h := fng c h
    refine Wp.run 3 (f' := (d + 2, 272, 17, 0, 0, [some (fA 122), some (fI l1), some (fI l2), some (fI l3), some (fI l4), _, _, _, _], [fI 11, fI 0, fI l2])) (h' := (156, fjl L, (fup M 122 0 1))) rfl trivial ?_
    obtain ⟨y17, hy, h⟩ := fbd h
    refine Wp.call rfl (by decide) (s_X12_isIn_ok (d := d + 1) hy ?_)
    show Wp (d + 2, 272, 20, 0, 0, [some (fA 122), some (fI l1), some (fI l2), some (fI l3), some (fI l4), _, _, _, _], [fI y17]) (156, fjl L, (fup M 122 0 1)) Q
    refine Wp.br rfl (fun (c : y17 = 0) => ?_) (fun (c : ¬ (y17 = 0)) => ?_)
    · replace h := fps c h
      refine Wp.run 1 (f' := (d + 2, 272, 41, 0, 0, [_, _, _, _, _, _, _, _, _], [fI 0])) (h' := (156, fjl L, (fup M 122 0 1))) rfl trivial ?_
      obtain rfl := Option.some.inj h
      exact Wp.done rfl (by decide) H
    · replace h := fng c h
      refine Wp.run 1 (f' := (d + 2, 272, 24, 0, 0, [some (fA 122), some (fI l1), some (fI l2), some (fI l3), some (fI l4), _, _, _, _], [fI l3])) (h' := (156, fjl L, (fup M 122 0 1))) rfl trivial ?_
      obtain ⟨y24, hy, h⟩ := fbd h
      refine Wp.call rfl (by decide) (s_X12_isKnown_ok (d := d + 0) hy ?_)
      show Wp (d + 2, 272, 27, 0, 0, [some (fA 122), some (fI l1), some (fI l2), some (fI l3), some (fI l4), _, _, _, _], [fI y24]) (156, fjl L, (fup M 122 0 1)) Q
      refine Wp.br rfl (fun (c : y24 = 0) => ?_) (fun (c : ¬ (y24 = 0)) => ?_)
      · replace h := fps c h
        refine Wp.run 1 (f' := (d + 2, 272, 41, 0, 0, [_, _, _, _, _, _, _, _, _], [fI 0])) (h' := (156, fjl L, (fup M 122 0 1))) rfl trivial ?_
        obtain rfl := Option.some.inj h
        exact Wp.done rfl (by decide) H
      · replace h := fng c h
        refine Wp.run 3 (f' := (d + 2, 272, 34, 0, 0, [some (fA 122), some (fI l1), some (fI l2), some (fI l3), some (fI l4), _, _, _, _], [fI 1, fI 0, fI l4])) (h' := (156, fjl L, (fup M 122 0 1))) rfl trivial ?_
        obtain ⟨y34, hy, h⟩ := fbd h
        refine Wp.call rfl (by decide) (s_X12_isIn_ok (d := d + 1) hy ?_)
        show Wp (d + 2, 272, 37, 0, 0, [some (fA 122), some (fI l1), some (fI l2), some (fI l3), some (fI l4), _, _, _, _], [fI y34]) (156, fjl L, (fup M 122 0 1)) Q
        refine Wp.br rfl (fun (c : ¬ y34 = 0) => ?_) (fun (c : ¬ (¬ y34 = 0)) => ?_)
        · replace h := fps c h
          refine Wp.run 6 (f' := (d + 2, 272, 51, 0, 0, [some (fA 122), some (fI l1), some (fI l2), some (fI l3), some (fI l4), some (fI 0), some (fI 0), some (fI 0), _], [])) (h' := (156, fjl L, (fup M 122 0 1))) rfl trivial ?_
          obtain ⟨e51, hy, h⟩ := fbd h
          refine s_X12_lean_l51_ok hy (fun x u1 u2 u3 u7 u8 ex => ?_)
          cases ex
          show Wp (d + 2, 272, 154, 0, 0, [some (fA 122), u1, u2, u3, some (fI l4), some (fI e51.1), some (fI e51.2), u7, u8], []) (156, fjl L, (fup M 122 0 1)) Q
          refine Wp.run 1 (f' := (d + 2, 272, 156, 0, 0, [some (fA 122), _, _, _, some (fI l4), some (fI e51.1), some (fI e51.2), _, _], [fI e51.2])) (h' := (156, fjl L, (fup M 122 0 1))) rfl trivial ?_
          refine Wp.br rfl (fun (c : ¬ e51.2 = 0) => ?_) (fun (c : ¬ (¬ e51.2 = 0)) => ?_)
          · replace h := fps c h
            refine Wp.run 4 (f' := (d + 2, 272, 168, 0, 0, [_, _, _, _, _, some (fI e51.1), some (fI e51.2), _, _], [fI l4])) (h' := (156, fjl L, (fup (fup M 122 0 1) 122 0 0))) rfl trivial ?_
            refine Wp.br rfl (fun (c : ¬ l4 = 0) => ?_) (fun (c : ¬ (¬ l4 = 0)) => ?_)
            · replace h := fps c h
              refine Wp.run 1 (f' := (d + 2, 272, 178, 0, 0, [_, _, _, _, _, some (fI e51.1), some (fI e51.2), _, _], [fI e51.2])) (h' := (156, fjl L, (fup (fup M 122 0 1) 122 0 0))) rfl trivial ?_
              exact s_X12_lean_j178_ok h H
            · replace h := fng c h
              refine Wp.run 2 (f' := (d + 2, 272, 178, 0, 0, [_, _, _, _, _, some (fI e51.1), some (fI e51.2), _, _], [fI e51.1])) (h' := (156, fjl L, (fup (fup M 122 0 1) 122 0 0))) rfl trivial ?_
              exact s_X12_lean_j178_ok h H
          · replace h := fng c h
            refine Wp.run 1 (f' := (d + 2, 272, 160, 0, 0, [_, _, _, _, _, _, _, _, _], [fI 0])) (h' := (156, fjl L, (fup M 122 0 1))) rfl trivial ?_
            obtain rfl := Option.some.inj h
            exact Wp.done rfl (by decide) H
        · replace h := fng c h
          refine Wp.run 1 (f' := (d + 2, 272, 41, 0, 0, [_, _, _, _, _, _, _, _, _], [fI 0])) (h' := (156, fjl L, (fup M 122 0 1))) rfl trivial ?_
          obtain rfl := Option.some.inj h
          exact Wp.done rfl (by decide) H
theorem s_X12_lean_fr {M : fM} {l1 l2 l3 l4 : Int} {r : (Int × fM)} (h : s_X12_lean M l1 l2 l3 l4 = some r) : fSame s_X12_lean_mods M r.2 := by
  unfold s_X12_lean at h
  obtain ⟨y7, hy, h⟩ := fbd h
  by_cases c : y7 = 0
  · replace h := fps c h
    obtain rfl := Option.some.inj h
    exact fs_up fs_refl (.inr (by decide))
  · replace h := fng c h
    obtain ⟨y17, hy, h⟩ := fbd h
    by_cases c : y17 = 0
    · replace h := fps c h
      obtain rfl := Option.some.inj h
      exact fs_up fs_refl (.inr (by decide))
    · replace h := fng c h
      obtain ⟨y24, hy, h⟩ := fbd h
      by_cases c : y24 = 0
      · replace h := fps c h
        obtain rfl := Option.some.inj h
        exact fs_up fs_refl (.inr (by decide))
      · replace h := fng c h
        obtain ⟨y34, hy, h⟩ := fbd h
        by_cases c : ¬ y34 = 0
        · replace h := fps c h
          obtain ⟨e51, hy, h⟩ := fbd h
          by_cases c : ¬ e51.2 = 0
          · replace h := fps c h
            by_cases c : ¬ l4 = 0
            · replace h := fps c h
              exact fs_trans (fs_up (fs_up fs_refl (.inr (by decide))) (.inr (by decide))) (s_X12_lean_j178_fr h)
            · replace h := fng c h
              exact fs_trans (fs_up (fs_up fs_refl (.inr (by decide))) (.inr (by decide))) (s_X12_lean_j178_fr h)
          · replace h := fng c h
            obtain rfl := Option.some.inj h
            exact fs_up fs_refl (.inr (by decide))
        · replace h := fng c h
          obtain rfl := Option.some.inj h
          exact fs_up fs_refl (.inr (by decide))
abbrev s_J7_fill_50_mods : List (Nat × Option Nat) := [(50, none)]
noncomputable def s_J7_fill_50_b5 (M : fM) (l1 l2 l3 : Int) : Option ((Int × fM) ⊕ fM) :=
  if l3 ≤ l2 then
    some (.inr M)
  else
    if (0 ≤ l2 ∧ l2 < 10) ∧ fin (l2 + 1) then
      some (.inl ((l2 + 1), (fup M 50 (l2).toNat l1)))
    else none
theorem s_J7_fill_50_b5_ok {d L : Nat} {M : fM} {l1 l2 l3 : Int} {r : ((Int × fM) ⊕ fM)} {Q : fO → fH → Prop} (h : s_J7_fill_50_b5 M l1 l2 l3 = some r) (hC : ∀ (l2' : Int) (M' : fM), r = .inl (l2', M') → Wp (d + 0, 315, 5, 0, 0, [some (fA 50), some (fI l1), some (fI l2'), some (fI l3)], []) (156, fjl L, M') Q) (hE : ∀ (e : fM) (o0' o1' o2' o3' : Option fV), r = .inr e → Wp (d + 0, 315, 20, 0, 0, [o0', o1', o2', o3'], []) (156, fjl L, e) Q) : Wp (d + 0, 315, 5, 0, 0, [some (fA 50), some (fI l1), some (fI l2), some (fI l3)], []) (156, fjl L, M) Q := by
  unfold s_J7_fill_50_b5 at h
  refine Wp.run 2 (f' := (d + 0, 315, 7, 0, 0, [some (fA 50), some (fI l1), some (fI l2), some (fI l3)], [fI l3, fI l2])) (h' := (156, fjl L, M)) rfl trivial ?_
  refine Wp.br rfl (fun (c : l3 ≤ l2) => ?_) (fun (c : ¬ (l3 ≤ l2)) => ?_)
  · replace h := fps c h
    exact hE _ _ _ _ _ (Option.some.inj h).symm
  · replace h := fng c h
    obtain ⟨⟨g0, g1⟩, h⟩ := fgd h
    refine Wp.run 6 (P := [0 ≤ l2 ∧ l2 < 10]) (f' := (d + 0, 315, 5, 0, 0, [some (fA 50), some (fI l1), some (fI (fw (l2 + 1))), some (fI l3)], [])) (h' := (156, fjl L, (fup M 50 (l2).toNat l1))) rfl ?_ ?_
    · exact g0
    rw [fw_id g1]
    exact hC _ _ (Option.some.inj h).symm
theorem s_J7_fill_50_b5_fr {M : fM} {l1 l2 l3 : Int} {r : ((Int × fM) ⊕ fM)} (h : s_J7_fill_50_b5 M l1 l2 l3 = some r) : fSame s_J7_fill_50_mods M (Sum.elim (fun s => s.2) (fun e => e) r) := by
  unfold s_J7_fill_50_b5 at h
  by_cases c : l3 ≤ l2
  · replace h := fps c h
    obtain rfl := Option.some.inj h
    exact fs_refl
  · replace h := fng c h
    replace h := (fgd h).2
    obtain rfl := Option.some.inj h
    exact fs_up fs_refl (.inl (by decide))
noncomputable def s_J7_fill_50_l5 (l1 l3 : Int) (s : (Int × fM)) : Option fM := fLp (fun s => s_J7_fill_50_b5 s.2 l1 s.1 l3) s
theorem s_J7_fill_50_l5_ok {d L : Nat} {M : fM} {l1 l2 l3 : Int} {r : fM} {Q : fO → fH → Prop} (h : s_J7_fill_50_l5 l1 l3 (l2, M) = some r) (hE : ∀ (e : fM) (o0' o1' o2' o3' : Option fV), r = e → Wp (d + 0, 315, 20, 0, 0, [o0', o1', o2', o3'], []) (156, fjl L, e) Q) : Wp (d + 0, 315, 5, 0, 0, [some (fA 50), some (fI l1), some (fI l2), some (fI l3)], []) (156, fjl L, M) Q := by
  refine fLp_wp (W := fun s => Wp (d + 0, 315, 5, 0, 0, [some (fA 50), some (fI l1), some (fI s.1), some (fI l3)], []) (156, fjl L, s.2) Q) (e := r) ?_ h
  intro s r1 h hC hX
  refine s_J7_fill_50_b5_ok (d := d) h (fun a0 a1 e1 => ?_) (fun e u0 u1 u2 u3 e1 => hE e u0 u1 u2 u3 (hX _ e1).symm)
  exact hC _ e1
theorem s_J7_fill_50_l5_fr {M : fM} {l1 l2 l3 : Int} {r : fM} (h : s_J7_fill_50_l5 l1 l3 (l2, M) = some r) : fSame s_J7_fill_50_mods M ((fun e => e) r) := by
  refine fLp_inv (I := fun s => fSame s_J7_fill_50_mods M s.2) (J := fun r => fSame s_J7_fill_50_mods M ((fun e => e) r)) h fs_refl (fun s s1 hs hb => ?_) (fun s e hs hb => ?_)
  · exact fs_trans hs (s_J7_fill_50_b5_fr hb)
  · exact fs_trans hs (s_J7_fill_50_b5_fr hb)
noncomputable def s_J7_fill_50 (M : fM) (l1 : Int) : Option (Unit × fM) :=
  (s_J7_fill_50_l5 l1 10 (0, M)).bind fun e5 =>
    some ((), e5)
theorem s_J7_fill_50_ok {d L : Nat} {M : fM} {l1 : Int} {r : (Unit × fM)} {Q : fO → fH → Prop} (h : s_J7_fill_50 M l1 = some r) (H : Q (oV r.1) (156, fjl L, r.2)) : Wp (d + 0, 315, 0, 0, 0, [some (fA 50), some (fI l1), none, none], []) (156, fjl L, M) Q := by
  unfold s_J7_fill_50 at h
  refine Wp.run 5 (f' := (d + 0, 315, 5, 0, 0, [some (fA 50), some (fI l1), some (fI 0), some (fI 10)], [])) (h' := (156, fjl L, M)) rfl trivial ?_
  obtain ⟨e5, hy, h⟩ := fbd h
  refine s_J7_fill_50_l5_ok hy (fun x u0 u1 u2 u3 ex => ?_)
  cases ex
  show Wp (d + 0, 315, 20, 0, 0, [u0, u1, u2, u3], []) (156, fjl L, e5) Q
  obtain rfl := Option.some.inj h
  exact Wp.done rfl (by decide) H
theorem s_J7_fill_50_fr {M : fM} {l1 : Int} {r : (Unit × fM)} (h : s_J7_fill_50 M l1 = some r) : fSame s_J7_fill_50_mods M r.2 := by
  unfold s_J7_fill_50 at h
  obtain ⟨e5, hy, h⟩ := fbd h
  have k5 := fs_trans (l := s_J7_fill_50_mods) fs_refl (s_J7_fill_50_l5_fr hy)
  obtain rfl := Option.some.inj h
  exact k5
abbrev s_J7_fill_51_mods : List (Nat × Option Nat) := [(51, none)]
noncomputable def s_J7_fill_51_b5 (M : fM) (l1 l2 l3 : Int) : Option ((Int × fM) ⊕ fM) :=
  if l3 ≤ l2 then
    some (.inr M)
  else
    if (0 ≤ l2 ∧ l2 < 10) ∧ fin (l2 + 1) then
      some (.inl ((l2 + 1), (fup M 51 (l2).toNat l1)))
    else none
theorem s_J7_fill_51_b5_ok {d L : Nat} {M : fM} {l1 l2 l3 : Int} {r : ((Int × fM) ⊕ fM)} {Q : fO → fH → Prop} (h : s_J7_fill_51_b5 M l1 l2 l3 = some r) (hC : ∀ (l2' : Int) (M' : fM), r = .inl (l2', M') → Wp (d + 0, 315, 5, 0, 0, [some (fA 51), some (fI l1), some (fI l2'), some (fI l3)], []) (156, fjl L, M') Q) (hE : ∀ (e : fM) (o0' o1' o2' o3' : Option fV), r = .inr e → Wp (d + 0, 315, 20, 0, 0, [o0', o1', o2', o3'], []) (156, fjl L, e) Q) : Wp (d + 0, 315, 5, 0, 0, [some (fA 51), some (fI l1), some (fI l2), some (fI l3)], []) (156, fjl L, M) Q := by
  unfold s_J7_fill_51_b5 at h
  refine Wp.run 2 (f' := (d + 0, 315, 7, 0, 0, [some (fA 51), some (fI l1), some (fI l2), some (fI l3)], [fI l3, fI l2])) (h' := (156, fjl L, M)) rfl trivial ?_
  refine Wp.br rfl (fun (c : l3 ≤ l2) => ?_) (fun (c : ¬ (l3 ≤ l2)) => ?_)
  · replace h := fps c h
    exact hE _ _ _ _ _ (Option.some.inj h).symm
  · replace h := fng c h
    obtain ⟨⟨g0, g1⟩, h⟩ := fgd h
    refine Wp.run 6 (P := [0 ≤ l2 ∧ l2 < 10]) (f' := (d + 0, 315, 5, 0, 0, [some (fA 51), some (fI l1), some (fI (fw (l2 + 1))), some (fI l3)], [])) (h' := (156, fjl L, (fup M 51 (l2).toNat l1))) rfl ?_ ?_
    · exact g0
    rw [fw_id g1]
    exact hC _ _ (Option.some.inj h).symm
theorem s_J7_fill_51_b5_fr {M : fM} {l1 l2 l3 : Int} {r : ((Int × fM) ⊕ fM)} (h : s_J7_fill_51_b5 M l1 l2 l3 = some r) : fSame s_J7_fill_51_mods M (Sum.elim (fun s => s.2) (fun e => e) r) := by
  unfold s_J7_fill_51_b5 at h
  by_cases c : l3 ≤ l2
  · replace h := fps c h
    obtain rfl := Option.some.inj h
    exact fs_refl
  · replace h := fng c h
    replace h := (fgd h).2
    obtain rfl := Option.some.inj h
    exact fs_up fs_refl (.inl (by decide))
noncomputable def s_J7_fill_51_l5 (l1 l3 : Int) (s : (Int × fM)) : Option fM := fLp (fun s => s_J7_fill_51_b5 s.2 l1 s.1 l3) s
theorem s_J7_fill_51_l5_ok {d L : Nat} {M : fM} {l1 l2 l3 : Int} {r : fM} {Q : fO → fH → Prop} (h : s_J7_fill_51_l5 l1 l3 (l2, M) = some r) (hE : ∀ (e : fM) (o0' o1' o2' o3' : Option fV), r = e → Wp (d + 0, 315, 20, 0, 0, [o0', o1', o2', o3'], []) (156, fjl L, e) Q) : Wp (d + 0, 315, 5, 0, 0, [some (fA 51), some (fI l1), some (fI l2), some (fI l3)], []) (156, fjl L, M) Q := by
  refine fLp_wp (W := fun s => Wp (d + 0, 315, 5, 0, 0, [some (fA 51), some (fI l1), some (fI s.1), some (fI l3)], []) (156, fjl L, s.2) Q) (e := r) ?_ h
  intro s r1 h hC hX
  refine s_J7_fill_51_b5_ok (d := d) h (fun a0 a1 e1 => ?_) (fun e u0 u1 u2 u3 e1 => hE e u0 u1 u2 u3 (hX _ e1).symm)
  exact hC _ e1
theorem s_J7_fill_51_l5_fr {M : fM} {l1 l2 l3 : Int} {r : fM} (h : s_J7_fill_51_l5 l1 l3 (l2, M) = some r) : fSame s_J7_fill_51_mods M ((fun e => e) r) := by
  refine fLp_inv (I := fun s => fSame s_J7_fill_51_mods M s.2) (J := fun r => fSame s_J7_fill_51_mods M ((fun e => e) r)) h fs_refl (fun s s1 hs hb => ?_) (fun s e hs hb => ?_)
  · exact fs_trans hs (s_J7_fill_51_b5_fr hb)
  · exact fs_trans hs (s_J7_fill_51_b5_fr hb)
noncomputable def s_J7_fill_51 (M : fM) (l1 : Int) : Option (Unit × fM) :=
  (s_J7_fill_51_l5 l1 10 (0, M)).bind fun e5 =>
    some ((), e5)
theorem s_J7_fill_51_ok {d L : Nat} {M : fM} {l1 : Int} {r : (Unit × fM)} {Q : fO → fH → Prop} (h : s_J7_fill_51 M l1 = some r) (H : Q (oV r.1) (156, fjl L, r.2)) : Wp (d + 0, 315, 0, 0, 0, [some (fA 51), some (fI l1), none, none], []) (156, fjl L, M) Q := by
  unfold s_J7_fill_51 at h
  refine Wp.run 5 (f' := (d + 0, 315, 5, 0, 0, [some (fA 51), some (fI l1), some (fI 0), some (fI 10)], [])) (h' := (156, fjl L, M)) rfl trivial ?_
  obtain ⟨e5, hy, h⟩ := fbd h
  refine s_J7_fill_51_l5_ok hy (fun x u0 u1 u2 u3 ex => ?_)
  cases ex
  show Wp (d + 0, 315, 20, 0, 0, [u0, u1, u2, u3], []) (156, fjl L, e5) Q
  obtain rfl := Option.some.inj h
  exact Wp.done rfl (by decide) H
theorem s_J7_fill_51_fr {M : fM} {l1 : Int} {r : (Unit × fM)} (h : s_J7_fill_51 M l1 = some r) : fSame s_J7_fill_51_mods M r.2 := by
  unfold s_J7_fill_51 at h
  obtain ⟨e5, hy, h⟩ := fbd h
  have k5 := fs_trans (l := s_J7_fill_51_mods) fs_refl (s_J7_fill_51_l5_fr hy)
  obtain rfl := Option.some.inj h
  exact k5
abbrev s_X1_worstBatch_mods : List (Nat × Option Nat) := [(50, none), (51, none)]
noncomputable def s_X1_worstBatch_b18 (M : fM) (l1 l2 : Int) : Option ((Int × fM) ⊕ fM) :=
  if (M 4 13) ≤ l2 then
    some (.inr M)
  else
    (s_X2_fact_4 M l2 6).bind fun y40 =>
      if (0 ≤ y40 ∧ y40 < 10) ∧ fin ((M 51 (y40).toNat) + 1) ∧ fin (l2 + 1) then
        some (.inl ((l2 + 1), (fup M 51 (y40).toNat ((M 51 (y40).toNat) + 1))))
      else none
theorem s_X1_worstBatch_b18_ok {d L : Nat} {M : fM} {l1 l2 : Int} {o3 : Option fV} {r : ((Int × fM) ⊕ fM)} {Q : fO → fH → Prop} (h : s_X1_worstBatch_b18 M l1 l2 = some r) (hC : ∀ (l2' : Int) (M' : fM) (o3' : Option fV), r = .inl (l2', M') → Wp (d + 1, 20, 18, 0, 0, [some (fA 47), some (fI l1), some (fI l2'), o3'], []) (156, fjl L, M') Q) (hE : ∀ (e : fM) (o2' o3' : Option fV), r = .inr e → Wp (d + 1, 20, 54, 0, 0, [some (fA 47), some (fI l1), o2', o3'], []) (156, fjl L, e) Q) : Wp (d + 1, 20, 18, 0, 0, [some (fA 47), some (fI l1), some (fI l2), o3], []) (156, fjl L, M) Q := by
  unfold s_X1_worstBatch_b18 at h
  refine Wp.run 4 (f' := (d + 1, 20, 26, 0, 0, [some (fA 47), some (fI l1), some (fI l2), _], [fI (M 4 13), fI l2])) (h' := (156, fjl L, M)) rfl trivial ?_
  refine Wp.br rfl (fun (c : (M 4 13) ≤ l2) => ?_) (fun (c : ¬ ((M 4 13) ≤ l2)) => ?_)
  · replace h := fps c h
    exact hE _ _ _ (Option.some.inj h).symm
  · replace h := fng c h
    refine Wp.run 6 (f' := (d + 1, 20, 40, 0, 0, [some (fA 47), some (fI l1), some (fI l2), _], [fI 6, fI l2, fA 4, fA 51])) (h' := (156, fjl L, M)) rfl trivial ?_
    obtain ⟨y40, hy, h⟩ := fbd h
    refine Wp.call rfl (by decide) (s_X2_fact_4_ok (d := d + 0) hy ?_)
    show Wp (d + 1, 20, 43, 0, 0, [some (fA 47), some (fI l1), some (fI l2), _], [fI y40, fA 51]) (156, fjl L, M) Q
    obtain ⟨⟨g0, g1, g2⟩, h⟩ := fgd h
    refine Wp.run 7 (P := [0 ≤ y40 ∧ y40 < 10, 0 ≤ y40 ∧ y40 < 10]) (f' := (d + 1, 20, 18, 0, 0, [some (fA 47), some (fI l1), some (fI (fw (l2 + 1))), _], [])) (h' := (156, fjl L, (fup M 51 (y40).toNat (fw ((M 51 (y40).toNat) + 1))))) rfl ?_ ?_
    · exact ⟨g0, g0⟩
    rw [fw_id g2, fw_id g1]
    exact hC _ _ _ (Option.some.inj h).symm
theorem s_X1_worstBatch_b18_fr {M : fM} {l1 l2 : Int} {r : ((Int × fM) ⊕ fM)} (h : s_X1_worstBatch_b18 M l1 l2 = some r) : fSame s_X1_worstBatch_mods M (Sum.elim (fun s => s.2) (fun e => e) r) := by
  unfold s_X1_worstBatch_b18 at h
  by_cases c : (M 4 13) ≤ l2
  · replace h := fps c h
    obtain rfl := Option.some.inj h
    exact fs_refl
  · replace h := fng c h
    obtain ⟨y40, hy, h⟩ := fbd h
    replace h := (fgd h).2
    obtain rfl := Option.some.inj h
    exact fs_up fs_refl (.inl (by decide))
noncomputable def s_X1_worstBatch_l18 (l1 : Int) (s : (Int × fM)) : Option fM := fLp (fun s => s_X1_worstBatch_b18 s.2 l1 s.1) s
theorem s_X1_worstBatch_l18_ok {d L : Nat} {M : fM} {l1 l2 : Int} {o3 : Option fV} {r : fM} {Q : fO → fH → Prop} (h : s_X1_worstBatch_l18 l1 (l2, M) = some r) (hE : ∀ (e : fM) (o2' o3' : Option fV), r = e → Wp (d + 1, 20, 54, 0, 0, [some (fA 47), some (fI l1), o2', o3'], []) (156, fjl L, e) Q) : Wp (d + 1, 20, 18, 0, 0, [some (fA 47), some (fI l1), some (fI l2), o3], []) (156, fjl L, M) Q := by
  refine fLp_wp (W := fun s => ∀ (o3 : Option fV), Wp (d + 1, 20, 18, 0, 0, [some (fA 47), some (fI l1), some (fI s.1), o3], []) (156, fjl L, s.2) Q) (e := r) ?_ h _
  intro s r1 h hC hX o3
  refine s_X1_worstBatch_b18_ok (d := d) h (fun a0 a1 _ e1 => ?_) (fun e u0 u1 e1 => hE e u0 u1 (hX _ e1).symm)
  exact hC _ e1 _
theorem s_X1_worstBatch_l18_fr {M : fM} {l1 l2 : Int} {r : fM} (h : s_X1_worstBatch_l18 l1 (l2, M) = some r) : fSame s_X1_worstBatch_mods M ((fun e => e) r) := by
  refine fLp_inv (I := fun s => fSame s_X1_worstBatch_mods M s.2) (J := fun r => fSame s_X1_worstBatch_mods M ((fun e => e) r)) h fs_refl (fun s s1 hs hb => ?_) (fun s e hs hb => ?_)
  · exact fs_trans hs (s_X1_worstBatch_b18_fr hb)
  · exact fs_trans hs (s_X1_worstBatch_b18_fr hb)
noncomputable def s_X1_worstBatch_b56 (M : fM) (l1 l2 : Int) : Option ((Int × fM) ⊕ fM) :=
  if (M 18 8) ≤ l2 then
    some (.inr M)
  else
    if (0 ≤ l2 ∧ l2 < 200) then
      if ¬ (M 19 (l2).toNat) = 2 then
        if fin (l2 + 1) then
          some (.inl ((l2 + 1), M))
        else none
      else
        (s_X6_isKnown_18 M l2 l1).bind fun y86 =>
          if y86 = 0 then
            if fin (l2 + 1) then
              some (.inl ((l2 + 1), M))
            else none
          else
            if (0 ≤ l2 ∧ l2 < 200) then
              (s_X2_fact_4 M (M 20 (l2).toNat) 6).bind fun y111 =>
                if (0 ≤ y111 ∧ y111 < 10) ∧ fin ((M 50 (y111).toNat) + 1) ∧ fin (l2 + 1) then
                  some (.inl ((l2 + 1), (fup M 50 (y111).toNat ((M 50 (y111).toNat) + 1))))
                else none
            else none
    else none
theorem s_X1_worstBatch_b56_ok {d L : Nat} {M : fM} {l1 l2 : Int} {o3 : Option fV} {r : ((Int × fM) ⊕ fM)} {Q : fO → fH → Prop} (h : s_X1_worstBatch_b56 M l1 l2 = some r) (hC : ∀ (l2' : Int) (M' : fM) (o3' : Option fV), r = .inl (l2', M') → Wp (d + 1, 20, 56, 0, 0, [some (fA 47), some (fI l1), some (fI l2'), o3'], []) (156, fjl L, M') Q) (hE : ∀ (e : fM) (o1' o2' o3' : Option fV), r = .inr e → Wp (d + 1, 20, 125, 0, 0, [some (fA 47), o1', o2', o3'], []) (156, fjl L, e) Q) : Wp (d + 1, 20, 56, 0, 0, [some (fA 47), some (fI l1), some (fI l2), o3], []) (156, fjl L, M) Q := by
  unfold s_X1_worstBatch_b56 at h
  refine Wp.run 4 (f' := (d + 1, 20, 64, 0, 0, [some (fA 47), some (fI l1), some (fI l2), _], [fI (M 18 8), fI l2])) (h' := (156, fjl L, M)) rfl trivial ?_
  refine Wp.br rfl (fun (c : (M 18 8) ≤ l2) => ?_) (fun (c : ¬ ((M 18 8) ≤ l2)) => ?_)
  · replace h := fps c h
    exact hE _ _ _ _ (Option.some.inj h).symm
  · replace h := fng c h
    obtain ⟨g0, h⟩ := fgd h
    refine Wp.run 6 (P := [0 ≤ l2 ∧ l2 < 200]) (f' := (d + 1, 20, 77, 0, 0, [some (fA 47), some (fI l1), some (fI l2), _], [fI 2, fI (M 19 (l2).toNat)])) (h' := (156, fjl L, M)) rfl ?_ ?_
    · exact g0
    refine Wp.br rfl (fun (c : ¬ (M 19 (l2).toNat) = 2) => ?_) (fun (c : ¬ (¬ (M 19 (l2).toNat) = 2)) => ?_)
    · replace h := fps c h
      obtain ⟨g0, h⟩ := fgd h
      refine Wp.run 2 (f' := (d + 1, 20, 56, 0, 0, [some (fA 47), some (fI l1), some (fI (fw (l2 + 1))), _], [])) (h' := (156, fjl L, M)) rfl trivial ?_
      rw [fw_id g0]
      exact hC _ _ _ (Option.some.inj h).symm
    · replace h := fng c h
      refine Wp.run 4 (f' := (d + 1, 20, 86, 0, 0, [some (fA 47), some (fI l1), some (fI l2), _], [fI l1, fI l2, fA 18])) (h' := (156, fjl L, M)) rfl trivial ?_
      obtain ⟨y86, hy, h⟩ := fbd h
      refine Wp.call rfl (by decide) (s_X6_isKnown_18_ok (d := d + 0) hy ?_)
      show Wp (d + 1, 20, 89, 0, 0, [some (fA 47), some (fI l1), some (fI l2), _], [fI y86]) (156, fjl L, M) Q
      refine Wp.br rfl (fun (c : y86 = 0) => ?_) (fun (c : ¬ (y86 = 0)) => ?_)
      · replace h := fps c h
        obtain ⟨g0, h⟩ := fgd h
        refine Wp.run 2 (f' := (d + 1, 20, 56, 0, 0, [some (fA 47), some (fI l1), some (fI (fw (l2 + 1))), _], [])) (h' := (156, fjl L, M)) rfl trivial ?_
        rw [fw_id g0]
        exact hC _ _ _ (Option.some.inj h).symm
      · replace h := fng c h
        obtain ⟨g0, h⟩ := fgd h
        refine Wp.run 10 (P := [0 ≤ l2 ∧ l2 < 200]) (f' := (d + 1, 20, 111, 0, 0, [some (fA 47), some (fI l1), some (fI l2), _], [fI 6, fI (M 20 (l2).toNat), fA 4, fA 50])) (h' := (156, fjl L, M)) rfl ?_ ?_
        · exact g0
        obtain ⟨y111, hy, h⟩ := fbd h
        refine Wp.call rfl (by decide) (s_X2_fact_4_ok (d := d + 0) hy ?_)
        show Wp (d + 1, 20, 114, 0, 0, [some (fA 47), some (fI l1), some (fI l2), _], [fI y111, fA 50]) (156, fjl L, M) Q
        obtain ⟨⟨g0, g1, g2⟩, h⟩ := fgd h
        refine Wp.run 7 (P := [0 ≤ y111 ∧ y111 < 10, 0 ≤ y111 ∧ y111 < 10]) (f' := (d + 1, 20, 56, 0, 0, [some (fA 47), some (fI l1), some (fI (fw (l2 + 1))), _], [])) (h' := (156, fjl L, (fup M 50 (y111).toNat (fw ((M 50 (y111).toNat) + 1))))) rfl ?_ ?_
        · exact ⟨g0, g0⟩
        rw [fw_id g2, fw_id g1]
        exact hC _ _ _ (Option.some.inj h).symm
theorem s_X1_worstBatch_b56_fr {M : fM} {l1 l2 : Int} {r : ((Int × fM) ⊕ fM)} (h : s_X1_worstBatch_b56 M l1 l2 = some r) : fSame s_X1_worstBatch_mods M (Sum.elim (fun s => s.2) (fun e => e) r) := by
  unfold s_X1_worstBatch_b56 at h
  by_cases c : (M 18 8) ≤ l2
  · replace h := fps c h
    obtain rfl := Option.some.inj h
    exact fs_refl
  · replace h := fng c h
    replace h := (fgd h).2
    by_cases c : ¬ (M 19 (l2).toNat) = 2
    · replace h := fps c h
      replace h := (fgd h).2
      obtain rfl := Option.some.inj h
      exact fs_refl
    · replace h := fng c h
      obtain ⟨y86, hy, h⟩ := fbd h
      by_cases c : y86 = 0
      · replace h := fps c h
        replace h := (fgd h).2
        obtain rfl := Option.some.inj h
        exact fs_refl
      · replace h := fng c h
        replace h := (fgd h).2
        obtain ⟨y111, hy, h⟩ := fbd h
        replace h := (fgd h).2
        obtain rfl := Option.some.inj h
        exact fs_up fs_refl (.inl (by decide))
noncomputable def s_X1_worstBatch_l56 (l1 : Int) (s : (Int × fM)) : Option fM := fLp (fun s => s_X1_worstBatch_b56 s.2 l1 s.1) s
theorem s_X1_worstBatch_l56_ok {d L : Nat} {M : fM} {l1 l2 : Int} {o3 : Option fV} {r : fM} {Q : fO → fH → Prop} (h : s_X1_worstBatch_l56 l1 (l2, M) = some r) (hE : ∀ (e : fM) (o1' o2' o3' : Option fV), r = e → Wp (d + 1, 20, 125, 0, 0, [some (fA 47), o1', o2', o3'], []) (156, fjl L, e) Q) : Wp (d + 1, 20, 56, 0, 0, [some (fA 47), some (fI l1), some (fI l2), o3], []) (156, fjl L, M) Q := by
  refine fLp_wp (W := fun s => ∀ (o3 : Option fV), Wp (d + 1, 20, 56, 0, 0, [some (fA 47), some (fI l1), some (fI s.1), o3], []) (156, fjl L, s.2) Q) (e := r) ?_ h _
  intro s r1 h hC hX o3
  refine s_X1_worstBatch_b56_ok (d := d) h (fun a0 a1 _ e1 => ?_) (fun e u0 u1 u2 e1 => hE e u0 u1 u2 (hX _ e1).symm)
  exact hC _ e1 _
theorem s_X1_worstBatch_l56_fr {M : fM} {l1 l2 : Int} {r : fM} (h : s_X1_worstBatch_l56 l1 (l2, M) = some r) : fSame s_X1_worstBatch_mods M ((fun e => e) r) := by
  refine fLp_inv (I := fun s => fSame s_X1_worstBatch_mods M s.2) (J := fun r => fSame s_X1_worstBatch_mods M ((fun e => e) r)) h fs_refl (fun s s1 hs hb => ?_) (fun s e hs hb => ?_)
  · exact fs_trans hs (s_X1_worstBatch_b56_fr hb)
  · exact fs_trans hs (s_X1_worstBatch_b56_fr hb)
noncomputable def s_X1_worstBatch_b129 (M : fM) (l2 l3 : Int) : Option ((Int × Int) ⊕ Int) :=
  if 10 ≤ l3 then
    some (.inr l2)
  else
    if (0 ≤ l3 ∧ l3 < 10) then
      if (M 51 (l3).toNat) ≤ 0 then
        if fin (l3 + 1) then
          some (.inl (l2, (l3 + 1)))
        else none
      else
        if l2 < 0 then
          if fin (l3 + 1) then
            some (.inl (l3, (l3 + 1)))
          else none
        else
          if (0 ≤ l3 ∧ l3 < 10) ∧ (0 ≤ l2 ∧ l2 < 10) ∧ fin ((M 50 (l3).toNat) * (M 51 (l2).toNat)) ∧ fin ((M 50 (l2).toNat) * (M 51 (l3).toNat)) then
            if ((M 50 (l3).toNat) * (M 51 (l2).toNat)) ≤ ((M 50 (l2).toNat) * (M 51 (l3).toNat)) then
              if fin (l3 + 1) then
                some (.inl (l2, (l3 + 1)))
              else none
            else
              if fin (l3 + 1) then
                some (.inl (l3, (l3 + 1)))
              else none
          else none
    else none
theorem s_X1_worstBatch_b129_ok {d L : Nat} {M : fM} {l2 l3 : Int} {o1 : Option fV} {r : ((Int × Int) ⊕ Int)} {Q : fO → fH → Prop} (h : s_X1_worstBatch_b129 M l2 l3 = some r) (hC : ∀ (l2' l3' : Int) (o1' : Option fV), r = .inl (l2', l3') → Wp (d + 1, 20, 129, 0, 0, [some (fA 47), o1', some (fI l2'), some (fI l3')], []) (156, fjl L, M) Q) (hE : ∀ (e : Int) (o0' o1' o3' : Option fV), r = .inr e → Wp (d + 1, 20, 185, 0, 0, [o0', o1', some (fI e), o3'], []) (156, fjl L, M) Q) : Wp (d + 1, 20, 129, 0, 0, [some (fA 47), o1, some (fI l2), some (fI l3)], []) (156, fjl L, M) Q := by
  unfold s_X1_worstBatch_b129 at h
  refine Wp.run 2 (f' := (d + 1, 20, 132, 0, 0, [some (fA 47), _, some (fI l2), some (fI l3)], [fI 10, fI l3])) (h' := (156, fjl L, M)) rfl trivial ?_
  refine Wp.br rfl (fun (c : 10 ≤ l3) => ?_) (fun (c : ¬ (10 ≤ l3)) => ?_)
  · replace h := fps c h
    exact hE _ _ _ _ (Option.some.inj h).symm
  · replace h := fng c h
    obtain ⟨g0, h⟩ := fgd h
    refine Wp.run 4 (P := [0 ≤ l3 ∧ l3 < 10]) (f' := (d + 1, 20, 141, 0, 0, [some (fA 47), _, some (fI l2), some (fI l3)], [fI (M 51 (l3).toNat)])) (h' := (156, fjl L, M)) rfl ?_ ?_
    · exact g0
    refine Wp.br rfl (fun (c : (M 51 (l3).toNat) ≤ 0) => ?_) (fun (c : ¬ ((M 51 (l3).toNat) ≤ 0)) => ?_)
    · replace h := fps c h
      obtain ⟨g0, h⟩ := fgd h
      refine Wp.run 2 (f' := (d + 1, 20, 129, 0, 0, [some (fA 47), _, some (fI l2), some (fI (fw (l3 + 1)))], [])) (h' := (156, fjl L, M)) rfl trivial ?_
      rw [fw_id g0]
      exact hC _ _ _ (Option.some.inj h).symm
    · replace h := fng c h
      refine Wp.run 1 (f' := (d + 1, 20, 145, 0, 0, [some (fA 47), _, some (fI l2), some (fI l3)], [fI l2])) (h' := (156, fjl L, M)) rfl trivial ?_
      refine Wp.br rfl (fun (c : l2 < 0) => ?_) (fun (c : ¬ (l2 < 0)) => ?_)
      · replace h := fps c h
        obtain ⟨g0, h⟩ := fgd h
        refine Wp.run 4 (f' := (d + 1, 20, 129, 0, 0, [some (fA 47), _, some (fI l3), some (fI (fw (l3 + 1)))], [])) (h' := (156, fjl L, M)) rfl trivial ?_
        rw [fw_id g0]
        exact hC _ _ _ (Option.some.inj h).symm
      · replace h := fng c h
        obtain ⟨⟨g0, g1, g2, g3⟩, h⟩ := fgd h
        refine Wp.run 18 (P := [0 ≤ l3 ∧ l3 < 10, 0 ≤ l2 ∧ l2 < 10, 0 ≤ l2 ∧ l2 < 10, 0 ≤ l3 ∧ l3 < 10]) (f' := (d + 1, 20, 174, 0, 0, [some (fA 47), _, some (fI l2), some (fI l3)], [fI (fw ((M 50 (l2).toNat) * (M 51 (l3).toNat))), fI (fw ((M 50 (l3).toNat) * (M 51 (l2).toNat)))])) (h' := (156, fjl L, M)) rfl ?_ ?_
        · exact ⟨g0, g1, g1, g0⟩
        rw [fw_id g2, fw_id g3]
        refine Wp.br rfl (fun (c : ((M 50 (l3).toNat) * (M 51 (l2).toNat)) ≤ ((M 50 (l2).toNat) * (M 51 (l3).toNat))) => ?_) (fun (c : ¬ (((M 50 (l3).toNat) * (M 51 (l2).toNat)) ≤ ((M 50 (l2).toNat) * (M 51 (l3).toNat)))) => ?_)
        · replace h := fps c h
          obtain ⟨g0, h⟩ := fgd h
          refine Wp.run 2 (f' := (d + 1, 20, 129, 0, 0, [some (fA 47), _, some (fI l2), some (fI (fw (l3 + 1)))], [])) (h' := (156, fjl L, M)) rfl trivial ?_
          rw [fw_id g0]
          exact hC _ _ _ (Option.some.inj h).symm
        · replace h := fng c h
          obtain ⟨g0, h⟩ := fgd h
          refine Wp.run 4 (f' := (d + 1, 20, 129, 0, 0, [some (fA 47), _, some (fI l3), some (fI (fw (l3 + 1)))], [])) (h' := (156, fjl L, M)) rfl trivial ?_
          rw [fw_id g0]
          exact hC _ _ _ (Option.some.inj h).symm
theorem s_X1_worstBatch_b129_fr {M : fM} {l2 l3 : Int} {r : ((Int × Int) ⊕ Int)} (h : s_X1_worstBatch_b129 M l2 l3 = some r) : fSame s_X1_worstBatch_mods M (Sum.elim (fun _ => M) (fun _ => M) r) := by
  unfold s_X1_worstBatch_b129 at h
  by_cases c : 10 ≤ l3
  · replace h := fps c h
    obtain rfl := Option.some.inj h
    exact fs_refl
  · replace h := fng c h
    replace h := (fgd h).2
    by_cases c : (M 51 (l3).toNat) ≤ 0
    · replace h := fps c h
      replace h := (fgd h).2
      obtain rfl := Option.some.inj h
      exact fs_refl
    · replace h := fng c h
      by_cases c : l2 < 0
      · replace h := fps c h
        replace h := (fgd h).2
        obtain rfl := Option.some.inj h
        exact fs_refl
      · replace h := fng c h
        replace h := (fgd h).2
        by_cases c : ((M 50 (l3).toNat) * (M 51 (l2).toNat)) ≤ ((M 50 (l2).toNat) * (M 51 (l3).toNat))
        · replace h := fps c h
          replace h := (fgd h).2
          obtain rfl := Option.some.inj h
          exact fs_refl
        · replace h := fng c h
          replace h := (fgd h).2
          obtain rfl := Option.some.inj h
          exact fs_refl
noncomputable def s_X1_worstBatch_l129 (M : fM) (s : (Int × Int)) : Option Int := fLp (fun s => s_X1_worstBatch_b129 M s.1 s.2) s
theorem s_X1_worstBatch_l129_ok {d L : Nat} {M : fM} {l2 l3 : Int} {o1 : Option fV} {r : Int} {Q : fO → fH → Prop} (h : s_X1_worstBatch_l129 M (l2, l3) = some r) (hE : ∀ (e : Int) (o0' o1' o3' : Option fV), r = e → Wp (d + 1, 20, 185, 0, 0, [o0', o1', some (fI e), o3'], []) (156, fjl L, M) Q) : Wp (d + 1, 20, 129, 0, 0, [some (fA 47), o1, some (fI l2), some (fI l3)], []) (156, fjl L, M) Q := by
  refine fLp_wp (W := fun s => ∀ (o1 : Option fV), Wp (d + 1, 20, 129, 0, 0, [some (fA 47), o1, some (fI s.1), some (fI s.2)], []) (156, fjl L, M) Q) (e := r) ?_ h _
  intro s r1 h hC hX o1
  refine s_X1_worstBatch_b129_ok (d := d) h (fun a0 a1 _ e1 => ?_) (fun e u0 u1 u2 e1 => hE e u0 u1 u2 (hX _ e1).symm)
  exact hC _ e1 _
noncomputable def s_X1_worstBatch (M : fM) (l1 : Int) : Option (Int × fM) :=
  (s_J7_fill_50 M 0).bind fun y5 =>
    (s_J7_fill_51 y5.2 0).bind fun y13 =>
      (s_X1_worstBatch_l18 l1 (0, y13.2)).bind fun e18 =>
        (s_X1_worstBatch_l56 l1 (0, e18)).bind fun e56 =>
          (s_X1_worstBatch_l129 e56 ((-1), 0)).bind fun e129 =>
            some (e129, e56)
theorem s_X1_worstBatch_ok {d L : Nat} {M : fM} {l1 : Int} {r : (Int × fM)} {Q : fO → fH → Prop} (h : s_X1_worstBatch M l1 = some r) (H : Q (oI r.1) (156, fjl L, r.2)) : Wp (d + 1, 20, 0, 0, 0, [some (fA 47), some (fI l1), none, none], []) (156, fjl L, M) Q := by
  unfold s_X1_worstBatch at h
  refine Wp.run 3 (f' := (d + 1, 20, 5, 0, 0, [some (fA 47), some (fI l1), _, _], [fI 0, fA 50])) (h' := (156, fjl L, M)) rfl trivial ?_
  obtain ⟨y5, hy, h⟩ := fbd h
  refine Wp.call rfl (by decide) (s_J7_fill_50_ok (d := d + 0) hy ?_)
  show Wp (d + 1, 20, 8, 0, 0, [some (fA 47), some (fI l1), _, _], []) (156, fjl L, y5.2) Q
  refine Wp.run 3 (f' := (d + 1, 20, 13, 0, 0, [some (fA 47), some (fI l1), _, _], [fI 0, fA 51])) (h' := (156, fjl L, y5.2)) rfl trivial ?_
  obtain ⟨y13, hy, h⟩ := fbd h
  refine Wp.call rfl (by decide) (s_J7_fill_51_ok (d := d + 0) hy ?_)
  show Wp (d + 1, 20, 16, 0, 0, [some (fA 47), some (fI l1), _, _], []) (156, fjl L, y13.2) Q
  refine Wp.run 2 (f' := (d + 1, 20, 18, 0, 0, [some (fA 47), some (fI l1), some (fI 0), _], [])) (h' := (156, fjl L, y13.2)) rfl trivial ?_
  obtain ⟨e18, hy, h⟩ := fbd h
  refine s_X1_worstBatch_l18_ok hy (fun x u2 u3 ex => ?_)
  cases ex
  show Wp (d + 1, 20, 54, 0, 0, [some (fA 47), some (fI l1), u2, u3], []) (156, fjl L, e18) Q
  refine Wp.run 2 (f' := (d + 1, 20, 56, 0, 0, [some (fA 47), some (fI l1), some (fI 0), _], [])) (h' := (156, fjl L, e18)) rfl trivial ?_
  obtain ⟨e56, hy, h⟩ := fbd h
  refine s_X1_worstBatch_l56_ok hy (fun x u1 u2 u3 ex => ?_)
  cases ex
  show Wp (d + 1, 20, 125, 0, 0, [some (fA 47), u1, u2, u3], []) (156, fjl L, e56) Q
  refine Wp.run 4 (f' := (d + 1, 20, 129, 0, 0, [some (fA 47), _, some (fI (-1)), some (fI 0)], [])) (h' := (156, fjl L, e56)) rfl trivial ?_
  obtain ⟨e129, hy, h⟩ := fbd h
  refine s_X1_worstBatch_l129_ok hy (fun x u0 u1 u3 ex => ?_)
  cases ex
  show Wp (d + 1, 20, 185, 0, 0, [u0, u1, some (fI e129), u3], []) (156, fjl L, e56) Q
  refine Wp.run 1 (f' := (d + 1, 20, 186, 0, 0, [_, _, _, _], [fI e129])) (h' := (156, fjl L, e56)) rfl trivial ?_
  obtain rfl := Option.some.inj h
  exact Wp.done rfl (by decide) H
theorem s_X1_worstBatch_fr {M : fM} {l1 : Int} {r : (Int × fM)} (h : s_X1_worstBatch M l1 = some r) : fSame s_X1_worstBatch_mods M r.2 := by
  unfold s_X1_worstBatch at h
  obtain ⟨y5, hy, h⟩ := fbd h
  have k5 := fs_trans (l := s_X1_worstBatch_mods) fs_refl (fs_mono (l := s_J7_fill_50_mods) (by decide) (s_J7_fill_50_fr hy))
  obtain ⟨y13, hy, h⟩ := fbd h
  have k13 := fs_trans (l := s_X1_worstBatch_mods) k5 (fs_mono (l := s_J7_fill_51_mods) (by decide) (s_J7_fill_51_fr hy))
  obtain ⟨e18, hy, h⟩ := fbd h
  have k18 := fs_trans (l := s_X1_worstBatch_mods) k13 (s_X1_worstBatch_l18_fr hy)
  obtain ⟨e56, hy, h⟩ := fbd h
  have k56 := fs_trans (l := s_X1_worstBatch_mods) k18 (s_X1_worstBatch_l56_fr hy)
  obtain ⟨e129, hy, h⟩ := fbd h
  obtain rfl := Option.some.inj h
  exact k56
abbrev s_X11_batch_mods : List (Nat × Option Nat) := [(50, none), (51, none)]
noncomputable def s_X11_batch (M : fM) (l1 : Int) : Option (Int × fM) :=
  (s_X11_isKnowing M l1).bind fun y1 =>
    if y1 = 0 then
      some ((-1), M)
    else
      (s_X1_worstBatch M l1).bind fun y12 =>
        some (y12.1, y12.2)
theorem s_X11_batch_ok {d L : Nat} {M : fM} {l1 : Int} {r : (Int × fM)} {Q : fO → fH → Prop} (h : s_X11_batch M l1 = some r) (H : Q (oI r.1) (156, fjl L, r.2)) : Wp (d + 2, 167, 0, 0, 0, [some (fA 0), some (fI l1)], []) (156, fjl L, M) Q := by
  unfold s_X11_batch at h
  refine Wp.run 1 (f' := (d + 2, 167, 1, 0, 0, [some (fA 0), some (fI l1)], [fI l1])) (h' := (156, fjl L, M)) rfl trivial ?_
  obtain ⟨y1, hy, h⟩ := fbd h
  refine Wp.call rfl (by decide) (s_X11_isKnowing_ok (d := d + 0) hy ?_)
  show Wp (d + 2, 167, 4, 0, 0, [some (fA 0), some (fI l1)], [fI y1]) (156, fjl L, M) Q
  refine Wp.br rfl (fun (c : y1 = 0) => ?_) (fun (c : ¬ (y1 = 0)) => ?_)
  · replace h := fps c h
    refine Wp.run 1 (f' := (d + 2, 167, 19, 0, 0, [_, _], [fI (-1)])) (h' := (156, fjl L, M)) rfl trivial ?_
    obtain rfl := Option.some.inj h
    exact Wp.done rfl (by decide) H
  · replace h := fng c h
    refine Wp.run 3 (f' := (d + 2, 167, 12, 0, 0, [_, _], [fI l1, fA 47])) (h' := (156, fjl L, M)) rfl trivial ?_
    obtain ⟨y12, hy, h⟩ := fbd h
    refine Wp.call rfl (by decide) (s_X1_worstBatch_ok (d := d + 0) hy ?_)
    show Wp (d + 2, 167, 15, 0, 0, [_, _], [fI y12.1]) (156, fjl L, y12.2) Q
    refine Wp.run 1 (f' := (d + 2, 167, 19, 0, 0, [_, _], [fI y12.1])) (h' := (156, fjl L, y12.2)) rfl trivial ?_
    obtain rfl := Option.some.inj h
    exact Wp.done rfl (by decide) H
theorem s_X11_batch_fr {M : fM} {l1 : Int} {r : (Int × fM)} (h : s_X11_batch M l1 = some r) : fSame s_X11_batch_mods M r.2 := by
  unfold s_X11_batch at h
  obtain ⟨y1, hy, h⟩ := fbd h
  by_cases c : y1 = 0
  · replace h := fps c h
    obtain rfl := Option.some.inj h
    exact fs_refl
  · replace h := fng c h
    obtain ⟨y12, hy, h⟩ := fbd h
    have k12 := fs_trans (l := s_X11_batch_mods) fs_refl (fs_mono (l := s_X1_worstBatch_mods) (by decide) (s_X1_worstBatch_fr hy))
    obtain rfl := Option.some.inj h
    exact k12
abbrev s_X12_batch_mods : List (Nat × Option Nat) := [(122, some 0)]
noncomputable def s_X12_batch_b75 (M : fM) (l1 l2 l3 l4 l5 l6 l7 l8 l9 : Int) : Option ((Int × Int) ⊕ Int) :=
  if (M 122 10) ≤ l9 then
    some (.inr l7)
  else
    (s_X12_isOf M l9 2 l8 364 l1).bind fun y96 =>
      if y96 = 0 then
        if fin (l7 + 0) ∧ fin (l9 + 1) then
          some (.inl ((l7 + 0), (l9 + 1)))
        else none
      else
        if fin (l7 + 1) ∧ fin (l9 + 1) then
          some (.inl ((l7 + 1), (l9 + 1)))
        else none
theorem s_X12_batch_b75_ok {d L : Nat} {M : fM} {l1 l2 l3 l4 l5 l6 l7 l8 l9 : Int} {r : ((Int × Int) ⊕ Int)} {Q : fO → fH → Prop} (h : s_X12_batch_b75 M l1 l2 l3 l4 l5 l6 l7 l8 l9 = some r) (hC : ∀ (l7' l9' : Int), r = .inl (l7', l9') → Wp (d + 2, 273, 75, 0, 0, [some (fA 122), some (fI l1), some (fI l2), some (fI l3), some (fI l4), some (fI l5), some (fI l6), some (fI l7'), some (fI l8), some (fI l9')], []) (156, fjl L, M) Q) (hE : ∀ (e : Int) (o9' : Option fV), r = .inr e → Wp (d + 2, 273, 116, 0, 0, [some (fA 122), some (fI l1), some (fI l2), some (fI l3), some (fI l4), some (fI l5), some (fI l6), some (fI e), some (fI l8), o9'], []) (156, fjl L, M) Q) : Wp (d + 2, 273, 75, 0, 0, [some (fA 122), some (fI l1), some (fI l2), some (fI l3), some (fI l4), some (fI l5), some (fI l6), some (fI l7), some (fI l8), some (fI l9)], []) (156, fjl L, M) Q := by
  unfold s_X12_batch_b75 at h
  refine Wp.run 3 (f' := (d + 2, 273, 81, 0, 0, [some (fA 122), some (fI l1), some (fI l2), some (fI l3), some (fI l4), some (fI l5), some (fI l6), some (fI l7), some (fI l8), some (fI l9)], [fI (M 122 10), fI l9])) (h' := (156, fjl L, M)) rfl trivial ?_
  refine Wp.br rfl (fun (c : (M 122 10) ≤ l9) => ?_) (fun (c : ¬ ((M 122 10) ≤ l9)) => ?_)
  · replace h := fps c h
    exact hE _ _ (Option.some.inj h).symm
  · replace h := fng c h
    refine Wp.run 7 (f' := (d + 2, 273, 96, 0, 0, [some (fA 122), some (fI l1), some (fI l2), some (fI l3), some (fI l4), some (fI l5), some (fI l6), _, some (fI l8), some (fI l9)], [fI l1, fI 364, fI l8, fI 2, fI l9, fA 122, fI l7])) (h' := (156, fjl L, M)) rfl trivial ?_
    obtain ⟨y96, hy, h⟩ := fbd h
    refine Wp.call rfl (by decide) (s_X12_isOf_ok (d := d + 1) hy ?_)
    show Wp (d + 2, 273, 99, 0, 0, [some (fA 122), some (fI l1), some (fI l2), some (fI l3), some (fI l4), some (fI l5), some (fI l6), _, some (fI l8), some (fI l9)], [fI y96, fI l7]) (156, fjl L, M) Q
    refine Wp.br rfl (fun (c : y96 = 0) => ?_) (fun (c : ¬ (y96 = 0)) => ?_)
    · replace h := fps c h
      obtain ⟨⟨g0, g1⟩, h⟩ := fgd h
      refine Wp.run 5 (f' := (d + 2, 273, 75, 0, 0, [some (fA 122), some (fI l1), some (fI l2), some (fI l3), some (fI l4), some (fI l5), some (fI l6), some (fI (fw (l7 + 0))), some (fI l8), some (fI (fw (l9 + 1)))], [])) (h' := (156, fjl L, M)) rfl trivial ?_
      rw [fw_id g0, fw_id g1]
      exact hC _ _ (Option.some.inj h).symm
    · replace h := fng c h
      obtain ⟨⟨g0, g1⟩, h⟩ := fgd h
      refine Wp.run 6 (f' := (d + 2, 273, 75, 0, 0, [some (fA 122), some (fI l1), some (fI l2), some (fI l3), some (fI l4), some (fI l5), some (fI l6), some (fI (fw (l7 + 1))), some (fI l8), some (fI (fw (l9 + 1)))], [])) (h' := (156, fjl L, M)) rfl trivial ?_
      rw [fw_id g0, fw_id g1]
      exact hC _ _ (Option.some.inj h).symm
theorem s_X12_batch_b75_fr {M : fM} {l1 l2 l3 l4 l5 l6 l7 l8 l9 : Int} {r : ((Int × Int) ⊕ Int)} (h : s_X12_batch_b75 M l1 l2 l3 l4 l5 l6 l7 l8 l9 = some r) : fSame s_X12_batch_mods M (Sum.elim (fun _ => M) (fun _ => M) r) := by
  unfold s_X12_batch_b75 at h
  by_cases c : (M 122 10) ≤ l9
  · replace h := fps c h
    obtain rfl := Option.some.inj h
    exact fs_refl
  · replace h := fng c h
    obtain ⟨y96, hy, h⟩ := fbd h
    by_cases c : y96 = 0
    · replace h := fps c h
      replace h := (fgd h).2
      obtain rfl := Option.some.inj h
      exact fs_refl
    · replace h := fng c h
      replace h := (fgd h).2
      obtain rfl := Option.some.inj h
      exact fs_refl
noncomputable def s_X12_batch_l75 (M : fM) (l1 l2 l3 l4 l5 l6 l8 : Int) (s : (Int × Int)) : Option Int := fLp (fun s => s_X12_batch_b75 M l1 l2 l3 l4 l5 l6 s.1 l8 s.2) s
theorem s_X12_batch_l75_ok {d L : Nat} {M : fM} {l1 l2 l3 l4 l5 l6 l7 l8 l9 : Int} {r : Int} {Q : fO → fH → Prop} (h : s_X12_batch_l75 M l1 l2 l3 l4 l5 l6 l8 (l7, l9) = some r) (hE : ∀ (e : Int) (o9' : Option fV), r = e → Wp (d + 2, 273, 116, 0, 0, [some (fA 122), some (fI l1), some (fI l2), some (fI l3), some (fI l4), some (fI l5), some (fI l6), some (fI e), some (fI l8), o9'], []) (156, fjl L, M) Q) : Wp (d + 2, 273, 75, 0, 0, [some (fA 122), some (fI l1), some (fI l2), some (fI l3), some (fI l4), some (fI l5), some (fI l6), some (fI l7), some (fI l8), some (fI l9)], []) (156, fjl L, M) Q := by
  refine fLp_wp (W := fun s => Wp (d + 2, 273, 75, 0, 0, [some (fA 122), some (fI l1), some (fI l2), some (fI l3), some (fI l4), some (fI l5), some (fI l6), some (fI s.1), some (fI l8), some (fI s.2)], []) (156, fjl L, M) Q) (e := r) ?_ h
  intro s r1 h hC hX
  refine s_X12_batch_b75_ok (d := d) h (fun a0 a1 e1 => ?_) (fun e u0 e1 => hE e u0 (hX _ e1).symm)
  exact hC _ e1
noncomputable def s_X12_batch_b40 (M : fM) (l1 l2 l3 l4 l5 l6 l7 l8 : Int) : Option ((Int × Int × Int) ⊕ (Int × Int)) :=
  if (M 124 172) ≤ l8 then
    some (.inr (l6, l7))
  else
    (s_X12_of M l8 6).bind fun y58 =>
      if y58 = l5 then
        if fin (l6 + 1) then
          (s_X12_batch_l75 M l1 l2 l3 l4 l5 (l6 + 1) l8 (l7, 0)).bind fun e75 =>
            if fin (l8 + 1) then
              some (.inl ((l6 + 1), e75, (l8 + 1)))
            else none
        else none
      else
        if fin (l8 + 1) then
          some (.inl (l6, l7, (l8 + 1)))
        else none
theorem s_X12_batch_b40_ok {d L : Nat} {M : fM} {l1 l2 l3 l4 l5 l6 l7 l8 : Int} {o9 : Option fV} {r : ((Int × Int × Int) ⊕ (Int × Int))} {Q : fO → fH → Prop} (h : s_X12_batch_b40 M l1 l2 l3 l4 l5 l6 l7 l8 = some r) (hC : ∀ (l6' l7' l8' : Int) (o9' : Option fV), r = .inl (l6', l7', l8') → Wp (d + 2, 273, 40, 0, 0, [some (fA 122), some (fI l1), some (fI l2), some (fI l3), some (fI l4), some (fI l5), some (fI l6'), some (fI l7'), some (fI l8'), o9'], []) (156, fjl L, M) Q) (hE : ∀ (e : (Int × Int)) (o8' o9' : Option fV), r = .inr e → Wp (d + 2, 273, 122, 0, 0, [some (fA 122), some (fI l1), some (fI l2), some (fI l3), some (fI l4), some (fI l5), some (fI e.1), some (fI e.2), o8', o9'], []) (156, fjl L, M) Q) : Wp (d + 2, 273, 40, 0, 0, [some (fA 122), some (fI l1), some (fI l2), some (fI l3), some (fI l4), some (fI l5), some (fI l6), some (fI l7), some (fI l8), o9], []) (156, fjl L, M) Q := by
  unfold s_X12_batch_b40 at h
  refine Wp.run 5 (P := [(0 : Int) ≤ 172 ∧ (172 : Int) < 1290]) (f' := (d + 2, 273, 50, 0, 0, [some (fA 122), some (fI l1), some (fI l2), some (fI l3), some (fI l4), some (fI l5), some (fI l6), some (fI l7), some (fI l8), _], [fI (M 124 172), fI l8])) (h' := (156, fjl L, M)) rfl ?_ ?_
  · exact (by decide : (0 : Int) ≤ 172 ∧ (172 : Int) < 1290)
  refine Wp.br rfl (fun (c : (M 124 172) ≤ l8) => ?_) (fun (c : ¬ ((M 124 172) ≤ l8)) => ?_)
  · replace h := fps c h
    exact hE _ _ _ (Option.some.inj h).symm
  · replace h := fng c h
    refine Wp.run 3 (f' := (d + 2, 273, 58, 0, 0, [some (fA 122), some (fI l1), some (fI l2), some (fI l3), some (fI l4), some (fI l5), some (fI l6), some (fI l7), some (fI l8), _], [fI 6, fI l8, fA 122])) (h' := (156, fjl L, M)) rfl trivial ?_
    obtain ⟨y58, hy, h⟩ := fbd h
    refine Wp.call rfl (by decide) (s_X12_of_ok (d := d + 1) hy ?_)
    show Wp (d + 2, 273, 61, 0, 0, [some (fA 122), some (fI l1), some (fI l2), some (fI l3), some (fI l4), some (fI l5), some (fI l6), some (fI l7), some (fI l8), _], [fI y58]) (156, fjl L, M) Q
    refine Wp.run 1 (f' := (d + 2, 273, 63, 0, 0, [some (fA 122), some (fI l1), some (fI l2), some (fI l3), some (fI l4), some (fI l5), some (fI l6), some (fI l7), some (fI l8), _], [fI l5, fI y58])) (h' := (156, fjl L, M)) rfl trivial ?_
    refine Wp.br rfl (fun (c : y58 = l5) => ?_) (fun (c : ¬ (y58 = l5)) => ?_)
    · replace h := fps c h
      obtain ⟨g0, h⟩ := fgd h
      refine Wp.run 3 (f' := (d + 2, 273, 75, 0, 0, [some (fA 122), some (fI l1), some (fI l2), some (fI l3), some (fI l4), some (fI l5), some (fI (fw (l6 + 1))), some (fI l7), some (fI l8), some (fI 0)], [])) (h' := (156, fjl L, M)) rfl trivial ?_
      rw [fw_id g0]
      obtain ⟨e75, hy, h⟩ := fbd h
      refine s_X12_batch_l75_ok hy (fun x u9 ex => ?_)
      cases ex
      show Wp (d + 2, 273, 116, 0, 0, [some (fA 122), some (fI l1), some (fI l2), some (fI l3), some (fI l4), some (fI l5), some (fI (l6 + 1)), some (fI e75), some (fI l8), u9], []) (156, fjl L, M) Q
      obtain ⟨g0, h⟩ := fgd h
      refine Wp.run 2 (f' := (d + 2, 273, 40, 0, 0, [some (fA 122), some (fI l1), some (fI l2), some (fI l3), some (fI l4), some (fI l5), some (fI (l6 + 1)), some (fI e75), some (fI (fw (l8 + 1))), _], [])) (h' := (156, fjl L, M)) rfl trivial ?_
      rw [fw_id g0]
      exact hC _ _ _ _ (Option.some.inj h).symm
    · replace h := fng c h
      obtain ⟨g0, h⟩ := fgd h
      refine Wp.run 3 (f' := (d + 2, 273, 40, 0, 0, [some (fA 122), some (fI l1), some (fI l2), some (fI l3), some (fI l4), some (fI l5), some (fI l6), some (fI l7), some (fI (fw (l8 + 1))), _], [])) (h' := (156, fjl L, M)) rfl trivial ?_
      rw [fw_id g0]
      exact hC _ _ _ _ (Option.some.inj h).symm
theorem s_X12_batch_b40_fr {M : fM} {l1 l2 l3 l4 l5 l6 l7 l8 : Int} {r : ((Int × Int × Int) ⊕ (Int × Int))} (h : s_X12_batch_b40 M l1 l2 l3 l4 l5 l6 l7 l8 = some r) : fSame s_X12_batch_mods M (Sum.elim (fun _ => M) (fun _ => M) r) := by
  unfold s_X12_batch_b40 at h
  by_cases c : (M 124 172) ≤ l8
  · replace h := fps c h
    obtain rfl := Option.some.inj h
    exact fs_refl
  · replace h := fng c h
    obtain ⟨y58, hy, h⟩ := fbd h
    by_cases c : y58 = l5
    · replace h := fps c h
      replace h := (fgd h).2
      obtain ⟨e75, hy, h⟩ := fbd h
      replace h := (fgd h).2
      obtain rfl := Option.some.inj h
      exact fs_refl
    · replace h := fng c h
      replace h := (fgd h).2
      obtain rfl := Option.some.inj h
      exact fs_refl
noncomputable def s_X12_batch_l40 (M : fM) (l1 l2 l3 l4 l5 : Int) (s : (Int × Int × Int)) : Option (Int × Int) := fLp (fun s => s_X12_batch_b40 M l1 l2 l3 l4 l5 s.1 s.2.1 s.2.2) s
theorem s_X12_batch_l40_ok {d L : Nat} {M : fM} {l1 l2 l3 l4 l5 l6 l7 l8 : Int} {o9 : Option fV} {r : (Int × Int)} {Q : fO → fH → Prop} (h : s_X12_batch_l40 M l1 l2 l3 l4 l5 (l6, l7, l8) = some r) (hE : ∀ (e : (Int × Int)) (o8' o9' : Option fV), r = e → Wp (d + 2, 273, 122, 0, 0, [some (fA 122), some (fI l1), some (fI l2), some (fI l3), some (fI l4), some (fI l5), some (fI e.1), some (fI e.2), o8', o9'], []) (156, fjl L, M) Q) : Wp (d + 2, 273, 40, 0, 0, [some (fA 122), some (fI l1), some (fI l2), some (fI l3), some (fI l4), some (fI l5), some (fI l6), some (fI l7), some (fI l8), o9], []) (156, fjl L, M) Q := by
  refine fLp_wp (W := fun s => ∀ (o9 : Option fV), Wp (d + 2, 273, 40, 0, 0, [some (fA 122), some (fI l1), some (fI l2), some (fI l3), some (fI l4), some (fI l5), some (fI s.1), some (fI s.2.1), some (fI s.2.2), o9], []) (156, fjl L, M) Q) (e := r) ?_ h _
  intro s r1 h hC hX o9
  refine s_X12_batch_b40_ok (d := d) h (fun a0 a1 a2 _ e1 => ?_) (fun e u0 u1 e1 => hE e u0 u1 (hX _ e1).symm)
  exact hC _ e1 _
noncomputable def s_X12_batch_b24 (M : fM) (l1 l2 l3 l4 l5 : Int) : Option ((Int × Int × Int × Int) ⊕ Int) :=
  if 10 ≤ l5 then
    some (.inr l2)
  else
    (s_X12_batch_l40 M l1 l2 l3 l4 l5 (0, 0, 0)).bind fun e40 =>
      if e40.1 = 0 then
        if fin (l5 + 1) then
          some (.inl (l2, l3, l4, (l5 + 1)))
        else none
      else
        if l2 < 0 then
          if fin (l5 + 1) then
            some (.inl (l5, e40.2, e40.1, (l5 + 1)))
          else none
        else
          if fin (e40.2 * l4) ∧ fin (l3 * e40.1) then
            if (l3 * e40.1) < (e40.2 * l4) then
              if fin (l5 + 1) then
                some (.inl (l5, e40.2, e40.1, (l5 + 1)))
              else none
            else
              if fin (l5 + 1) then
                some (.inl (l2, l3, l4, (l5 + 1)))
              else none
          else none
theorem s_X12_batch_b24_ok {d L : Nat} {M : fM} {l1 l2 l3 l4 l5 : Int} {o6 o7 o8 o9 : Option fV} {r : ((Int × Int × Int × Int) ⊕ Int)} {Q : fO → fH → Prop} (h : s_X12_batch_b24 M l1 l2 l3 l4 l5 = some r) (hC : ∀ (l2' l3' l4' l5' : Int) (o6' o7' o8' o9' : Option fV), r = .inl (l2', l3', l4', l5') → Wp (d + 2, 273, 24, 0, 0, [some (fA 122), some (fI l1), some (fI l2'), some (fI l3'), some (fI l4'), some (fI l5'), o6', o7', o8', o9'], []) (156, fjl L, M) Q) (hE : ∀ (e : Int) (o0' o1' o3' o4' o5' o6' o7' o8' o9' : Option fV), r = .inr e → Wp (d + 2, 273, 162, 0, 0, [o0', o1', some (fI e), o3', o4', o5', o6', o7', o8', o9'], []) (156, fjl L, M) Q) : Wp (d + 2, 273, 24, 0, 0, [some (fA 122), some (fI l1), some (fI l2), some (fI l3), some (fI l4), some (fI l5), o6, o7, o8, o9], []) (156, fjl L, M) Q := by
  unfold s_X12_batch_b24 at h
  refine Wp.run 2 (f' := (d + 2, 273, 28, 0, 0, [some (fA 122), some (fI l1), some (fI l2), some (fI l3), some (fI l4), some (fI l5), _, _, _, _], [fI 10, fI l5])) (h' := (156, fjl L, M)) rfl trivial ?_
  refine Wp.br rfl (fun (c : 10 ≤ l5) => ?_) (fun (c : ¬ (10 ≤ l5)) => ?_)
  · replace h := fps c h
    exact hE _ _ _ _ _ _ _ _ _ _ (Option.some.inj h).symm
  · replace h := fng c h
    refine Wp.run 6 (f' := (d + 2, 273, 40, 0, 0, [some (fA 122), some (fI l1), some (fI l2), some (fI l3), some (fI l4), some (fI l5), some (fI 0), some (fI 0), some (fI 0), _], [])) (h' := (156, fjl L, M)) rfl trivial ?_
    obtain ⟨e40, hy, h⟩ := fbd h
    refine s_X12_batch_l40_ok hy (fun x u8 u9 ex => ?_)
    cases ex
    show Wp (d + 2, 273, 122, 0, 0, [some (fA 122), some (fI l1), some (fI l2), some (fI l3), some (fI l4), some (fI l5), some (fI e40.1), some (fI e40.2), u8, u9], []) (156, fjl L, M) Q
    refine Wp.run 1 (f' := (d + 2, 273, 124, 0, 0, [some (fA 122), some (fI l1), some (fI l2), some (fI l3), some (fI l4), some (fI l5), some (fI e40.1), some (fI e40.2), _, _], [fI e40.1])) (h' := (156, fjl L, M)) rfl trivial ?_
    refine Wp.br rfl (fun (c : e40.1 = 0) => ?_) (fun (c : ¬ (e40.1 = 0)) => ?_)
    · replace h := fps c h
      obtain ⟨g0, h⟩ := fgd h
      refine Wp.run 2 (f' := (d + 2, 273, 24, 0, 0, [some (fA 122), some (fI l1), some (fI l2), some (fI l3), some (fI l4), some (fI (fw (l5 + 1))), _, _, _, _], [])) (h' := (156, fjl L, M)) rfl trivial ?_
      rw [fw_id g0]
      exact hC _ _ _ _ _ _ _ _ (Option.some.inj h).symm
    · replace h := fng c h
      refine Wp.run 1 (f' := (d + 2, 273, 128, 0, 0, [some (fA 122), some (fI l1), some (fI l2), some (fI l3), some (fI l4), some (fI l5), some (fI e40.1), some (fI e40.2), _, _], [fI l2])) (h' := (156, fjl L, M)) rfl trivial ?_
      refine Wp.br rfl (fun (c : l2 < 0) => ?_) (fun (c : ¬ (l2 < 0)) => ?_)
      · replace h := fps c h
        obtain ⟨g0, h⟩ := fgd h
        refine Wp.run 8 (f' := (d + 2, 273, 24, 0, 0, [some (fA 122), some (fI l1), some (fI l5), some (fI e40.2), some (fI e40.1), some (fI (fw (l5 + 1))), _, _, _, _], [])) (h' := (156, fjl L, M)) rfl trivial ?_
        rw [fw_id g0]
        exact hC _ _ _ _ _ _ _ _ (Option.some.inj h).symm
      · replace h := fng c h
        obtain ⟨⟨g0, g1⟩, h⟩ := fgd h
        refine Wp.run 6 (f' := (d + 2, 273, 140, 0, 0, [some (fA 122), some (fI l1), some (fI l2), some (fI l3), some (fI l4), some (fI l5), some (fI e40.1), some (fI e40.2), _, _], [fI (fw (l3 * e40.1)), fI (fw (e40.2 * l4))])) (h' := (156, fjl L, M)) rfl trivial ?_
        rw [fw_id g0, fw_id g1]
        refine Wp.br rfl (fun (c : (l3 * e40.1) < (e40.2 * l4)) => ?_) (fun (c : ¬ ((l3 * e40.1) < (e40.2 * l4))) => ?_)
        · replace h := fps c h
          obtain ⟨g0, h⟩ := fgd h
          refine Wp.run 8 (f' := (d + 2, 273, 24, 0, 0, [some (fA 122), some (fI l1), some (fI l5), some (fI e40.2), some (fI e40.1), some (fI (fw (l5 + 1))), _, _, _, _], [])) (h' := (156, fjl L, M)) rfl trivial ?_
          rw [fw_id g0]
          exact hC _ _ _ _ _ _ _ _ (Option.some.inj h).symm
        · replace h := fng c h
          obtain ⟨g0, h⟩ := fgd h
          refine Wp.run 3 (f' := (d + 2, 273, 24, 0, 0, [some (fA 122), some (fI l1), some (fI l2), some (fI l3), some (fI l4), some (fI (fw (l5 + 1))), _, _, _, _], [])) (h' := (156, fjl L, M)) rfl trivial ?_
          rw [fw_id g0]
          exact hC _ _ _ _ _ _ _ _ (Option.some.inj h).symm
theorem s_X12_batch_b24_fr {M : fM} {l1 l2 l3 l4 l5 : Int} {r : ((Int × Int × Int × Int) ⊕ Int)} (h : s_X12_batch_b24 M l1 l2 l3 l4 l5 = some r) : fSame s_X12_batch_mods M (Sum.elim (fun _ => M) (fun _ => M) r) := by
  unfold s_X12_batch_b24 at h
  by_cases c : 10 ≤ l5
  · replace h := fps c h
    obtain rfl := Option.some.inj h
    exact fs_refl
  · replace h := fng c h
    obtain ⟨e40, hy, h⟩ := fbd h
    by_cases c : e40.1 = 0
    · replace h := fps c h
      replace h := (fgd h).2
      obtain rfl := Option.some.inj h
      exact fs_refl
    · replace h := fng c h
      by_cases c : l2 < 0
      · replace h := fps c h
        replace h := (fgd h).2
        obtain rfl := Option.some.inj h
        exact fs_refl
      · replace h := fng c h
        replace h := (fgd h).2
        by_cases c : (l3 * e40.1) < (e40.2 * l4)
        · replace h := fps c h
          replace h := (fgd h).2
          obtain rfl := Option.some.inj h
          exact fs_refl
        · replace h := fng c h
          replace h := (fgd h).2
          obtain rfl := Option.some.inj h
          exact fs_refl
noncomputable def s_X12_batch_l24 (M : fM) (l1 : Int) (s : (Int × Int × Int × Int)) : Option Int := fLp (fun s => s_X12_batch_b24 M l1 s.1 s.2.1 s.2.2.1 s.2.2.2) s
theorem s_X12_batch_l24_ok {d L : Nat} {M : fM} {l1 l2 l3 l4 l5 : Int} {o6 o7 o8 o9 : Option fV} {r : Int} {Q : fO → fH → Prop} (h : s_X12_batch_l24 M l1 (l2, l3, l4, l5) = some r) (hE : ∀ (e : Int) (o0' o1' o3' o4' o5' o6' o7' o8' o9' : Option fV), r = e → Wp (d + 2, 273, 162, 0, 0, [o0', o1', some (fI e), o3', o4', o5', o6', o7', o8', o9'], []) (156, fjl L, M) Q) : Wp (d + 2, 273, 24, 0, 0, [some (fA 122), some (fI l1), some (fI l2), some (fI l3), some (fI l4), some (fI l5), o6, o7, o8, o9], []) (156, fjl L, M) Q := by
  refine fLp_wp (W := fun s => ∀ (o6 o7 o8 o9 : Option fV), Wp (d + 2, 273, 24, 0, 0, [some (fA 122), some (fI l1), some (fI s.1), some (fI s.2.1), some (fI s.2.2.1), some (fI s.2.2.2), o6, o7, o8, o9], []) (156, fjl L, M) Q) (e := r) ?_ h _ _ _ _
  intro s r1 h hC hX o6 o7 o8 o9
  refine s_X12_batch_b24_ok (d := d) h (fun a0 a1 a2 a3 _ _ _ _ e1 => ?_) (fun e u0 u1 u2 u3 u4 u5 u6 u7 u8 e1 => hE e u0 u1 u2 u3 u4 u5 u6 u7 u8 (hX _ e1).symm)
  exact hC _ e1 _ _ _ _
noncomputable def s_X12_batch (M : fM) (l1 : Int) : Option (Int × fM) :=
  (s_X12_isKnown (fup M 122 0 0) l1).bind fun y6 =>
    if ¬ y6 = 0 then
      (s_X12_batch_l24 (fup M 122 0 0) l1 ((-1), 0, 1, 0)).bind fun e24 =>
        some (e24, (fup M 122 0 0))
    else
      some ((-1), (fup M 122 0 0))
theorem s_X12_batch_ok {d L : Nat} {M : fM} {l1 : Int} {r : (Int × fM)} {Q : fO → fH → Prop} (h : s_X12_batch M l1 = some r) (H : Q (oI r.1) (156, fjl L, r.2)) : Wp (d + 2, 273, 0, 0, 0, [some (fA 122), some (fI l1), none, none, none, none, none, none, none, none], []) (156, fjl L, M) Q := by
  unfold s_X12_batch at h
  refine Wp.run 4 (f' := (d + 2, 273, 6, 0, 0, [some (fA 122), some (fI l1), _, _, _, _, _, _, _, _], [fI l1])) (h' := (156, fjl L, (fup M 122 0 0))) rfl trivial ?_
  obtain ⟨y6, hy, h⟩ := fbd h
  refine Wp.call rfl (by decide) (s_X12_isKnown_ok (d := d + 0) hy ?_)
  show Wp (d + 2, 273, 9, 0, 0, [some (fA 122), some (fI l1), _, _, _, _, _, _, _, _], [fI y6]) (156, fjl L, (fup M 122 0 0)) Q
  refine Wp.br rfl (fun (c : ¬ y6 = 0) => ?_) (fun (c : ¬ (¬ y6 = 0)) => ?_)
  · replace h := fps c h
    refine Wp.run 8 (f' := (d + 2, 273, 24, 0, 0, [some (fA 122), some (fI l1), some (fI (-1)), some (fI 0), some (fI 1), some (fI 0), _, _, _, _], [])) (h' := (156, fjl L, (fup M 122 0 0))) rfl trivial ?_
    obtain ⟨e24, hy, h⟩ := fbd h
    refine s_X12_batch_l24_ok hy (fun x u0 u1 u3 u4 u5 u6 u7 u8 u9 ex => ?_)
    cases ex
    show Wp (d + 2, 273, 162, 0, 0, [u0, u1, some (fI e24), u3, u4, u5, u6, u7, u8, u9], []) (156, fjl L, (fup M 122 0 0)) Q
    refine Wp.run 1 (f' := (d + 2, 273, 163, 0, 0, [_, _, _, _, _, _, _, _, _, _], [fI e24])) (h' := (156, fjl L, (fup M 122 0 0))) rfl trivial ?_
    obtain rfl := Option.some.inj h
    exact Wp.done rfl (by decide) H
  · replace h := fng c h
    refine Wp.run 1 (f' := (d + 2, 273, 13, 0, 0, [_, _, _, _, _, _, _, _, _, _], [fI (-1)])) (h' := (156, fjl L, (fup M 122 0 0))) rfl trivial ?_
    obtain rfl := Option.some.inj h
    exact Wp.done rfl (by decide) H
theorem s_X12_batch_fr {M : fM} {l1 : Int} {r : (Int × fM)} (h : s_X12_batch M l1 = some r) : fSame s_X12_batch_mods M r.2 := by
  unfold s_X12_batch at h
  obtain ⟨y6, hy, h⟩ := fbd h
  by_cases c : ¬ y6 = 0
  · replace h := fps c h
    obtain ⟨e24, hy, h⟩ := fbd h
    obtain rfl := Option.some.inj h
    exact fs_up fs_refl (.inr (by decide))
  · replace h := fng c h
    obtain rfl := Option.some.inj h
    exact fs_up fs_refl (.inr (by decide))
abbrev s_X1_putInOrder_mods : List (Nat × Option Nat) := [(52, none)]
noncomputable def s_X1_putInOrder_b2 (M : fM) (l1 l3 : Int) : Option ((Int × fM) ⊕ (Int × fM)) :=
  if l3 ≤ 0 then
    some (.inr (l3, M))
  else
    if fin (l3 - 1) ∧ (0 ≤ (l3 - 1) ∧ (l3 - 1) < 200) ∧ (0 ≤ (M 52 (l3 - 1).toNat) ∧ (M 52 (l3 - 1).toNat) < 200) ∧ (0 ≤ l1 ∧ l1 < 200) then
      if (M 21 (M 52 (l3 - 1).toNat).toNat) ≤ (M 21 (l1).toNat) then
        some (.inr (l3, M))
      else
        if fin (l3 - 1) ∧ (0 ≤ (l3 - 1) ∧ (l3 - 1) < 200) ∧ (0 ≤ l3 ∧ l3 < 200) ∧ fin (l3 + (-1)) then
          some (.inl ((l3 + (-1)), (fup M 52 (l3).toNat (M 52 (l3 - 1).toNat))))
        else none
    else none
theorem s_X1_putInOrder_b2_ok {d L : Nat} {M : fM} {l1 l3 : Int} {o2 : Option fV} {r : ((Int × fM) ⊕ (Int × fM))} {Q : fO → fH → Prop} (h : s_X1_putInOrder_b2 M l1 l3 = some r) (hC : ∀ (l3' : Int) (M' : fM) (o2' : Option fV), r = .inl (l3', M') → Wp (d + 0, 22, 2, 0, 0, [some (fA 47), some (fI l1), o2', some (fI l3')], []) (156, fjl L, M') Q) (hE : ∀ (e : (Int × fM)) (o2' : Option fV), r = .inr e → Wp (d + 0, 22, 54, 0, 0, [some (fA 47), some (fI l1), o2', some (fI e.1)], []) (156, fjl L, e.2) Q) : Wp (d + 0, 22, 2, 0, 0, [some (fA 47), some (fI l1), o2, some (fI l3)], []) (156, fjl L, M) Q := by
  unfold s_X1_putInOrder_b2 at h
  refine Wp.run 1 (f' := (d + 0, 22, 3, 0, 0, [some (fA 47), some (fI l1), _, some (fI l3)], [fI l3])) (h' := (156, fjl L, M)) rfl trivial ?_
  refine Wp.br rfl (fun (c : l3 ≤ 0) => ?_) (fun (c : ¬ (l3 ≤ 0)) => ?_)
  · replace h := fps c h
    exact hE _ _ (Option.some.inj h).symm
  · replace h := fng c h
    obtain ⟨⟨g0, g1, g2, g3⟩, h⟩ := fgd h
    refine Wp.run 15 (P := [0 ≤ (fw (l3 - 1)) ∧ (fw (l3 - 1)) < 200, 0 ≤ (M 52 (fw (l3 - 1)).toNat) ∧ (M 52 (fw (l3 - 1)).toNat) < 200, 0 ≤ l1 ∧ l1 < 200]) (f' := (d + 0, 22, 31, 0, 0, [some (fA 47), some (fI l1), _, some (fI l3)], [fI (M 21 (l1).toNat), fI (M 21 (M 52 (fw (l3 - 1)).toNat).toNat)])) (h' := (156, fjl L, M)) rfl ?_ ?_
    · rw [fw_id g0]; exact ⟨g1, g2, g3⟩
    rw [fw_id g0]
    refine Wp.br rfl (fun (c : (M 21 (M 52 (l3 - 1).toNat).toNat) ≤ (M 21 (l1).toNat)) => ?_) (fun (c : ¬ ((M 21 (M 52 (l3 - 1).toNat).toNat) ≤ (M 21 (l1).toNat))) => ?_)
    · replace h := fps c h
      exact hE _ _ (Option.some.inj h).symm
    · replace h := fng c h
      obtain ⟨⟨g0, g1, g2, g3⟩, h⟩ := fgd h
      refine Wp.run 12 (P := [0 ≤ (fw (l3 - 1)) ∧ (fw (l3 - 1)) < 200, 0 ≤ l3 ∧ l3 < 200]) (f' := (d + 0, 22, 2, 0, 0, [some (fA 47), some (fI l1), _, some (fI (fw (l3 + (-1))))], [])) (h' := (156, fjl L, (fup M 52 (l3).toNat (M 52 (fw (l3 - 1)).toNat)))) rfl ?_ ?_
      · rw [fw_id g0]; exact ⟨g1, g2⟩
      rw [fw_id g3, fw_id g0]
      exact hC _ _ _ (Option.some.inj h).symm
theorem s_X1_putInOrder_b2_fr {M : fM} {l1 l3 : Int} {r : ((Int × fM) ⊕ (Int × fM))} (h : s_X1_putInOrder_b2 M l1 l3 = some r) : fSame s_X1_putInOrder_mods M (Sum.elim (fun s => s.2) (fun e => e.2) r) := by
  unfold s_X1_putInOrder_b2 at h
  by_cases c : l3 ≤ 0
  · replace h := fps c h
    obtain rfl := Option.some.inj h
    exact fs_refl
  · replace h := fng c h
    replace h := (fgd h).2
    by_cases c : (M 21 (M 52 (l3 - 1).toNat).toNat) ≤ (M 21 (l1).toNat)
    · replace h := fps c h
      obtain rfl := Option.some.inj h
      exact fs_refl
    · replace h := fng c h
      replace h := (fgd h).2
      obtain rfl := Option.some.inj h
      exact fs_up fs_refl (.inl (by decide))
noncomputable def s_X1_putInOrder_l2 (l1 : Int) (s : (Int × fM)) : Option (Int × fM) := fLp (fun s => s_X1_putInOrder_b2 s.2 l1 s.1) s
theorem s_X1_putInOrder_l2_ok {d L : Nat} {M : fM} {l1 l3 : Int} {o2 : Option fV} {r : (Int × fM)} {Q : fO → fH → Prop} (h : s_X1_putInOrder_l2 l1 (l3, M) = some r) (hE : ∀ (e : (Int × fM)) (o2' : Option fV), r = e → Wp (d + 0, 22, 54, 0, 0, [some (fA 47), some (fI l1), o2', some (fI e.1)], []) (156, fjl L, e.2) Q) : Wp (d + 0, 22, 2, 0, 0, [some (fA 47), some (fI l1), o2, some (fI l3)], []) (156, fjl L, M) Q := by
  refine fLp_wp (W := fun s => ∀ (o2 : Option fV), Wp (d + 0, 22, 2, 0, 0, [some (fA 47), some (fI l1), o2, some (fI s.1)], []) (156, fjl L, s.2) Q) (e := r) ?_ h _
  intro s r1 h hC hX o2
  refine s_X1_putInOrder_b2_ok (d := d) h (fun a0 a1 _ e1 => ?_) (fun e u0 e1 => hE e u0 (hX _ e1).symm)
  exact hC _ e1 _
theorem s_X1_putInOrder_l2_fr {M : fM} {l1 l3 : Int} {r : (Int × fM)} (h : s_X1_putInOrder_l2 l1 (l3, M) = some r) : fSame s_X1_putInOrder_mods M ((fun e => e.2) r) := by
  refine fLp_inv (I := fun s => fSame s_X1_putInOrder_mods M s.2) (J := fun r => fSame s_X1_putInOrder_mods M ((fun e => e.2) r)) h fs_refl (fun s s1 hs hb => ?_) (fun s e hs hb => ?_)
  · exact fs_trans hs (s_X1_putInOrder_b2_fr hb)
  · exact fs_trans hs (s_X1_putInOrder_b2_fr hb)
noncomputable def s_X1_putInOrder (M : fM) (l1 l2 : Int) : Option (Unit × fM) :=
  (s_X1_putInOrder_l2 l1 (l2, M)).bind fun e2 =>
    if (0 ≤ e2.1 ∧ e2.1 < 200) then
      some ((), (fup e2.2 52 (e2.1).toNat l1))
    else none
theorem s_X1_putInOrder_ok {d L : Nat} {M : fM} {l1 l2 : Int} {r : (Unit × fM)} {Q : fO → fH → Prop} (h : s_X1_putInOrder M l1 l2 = some r) (H : Q (oV r.1) (156, fjl L, r.2)) : Wp (d + 0, 22, 0, 0, 0, [some (fA 47), some (fI l1), some (fI l2), none], []) (156, fjl L, M) Q := by
  unfold s_X1_putInOrder at h
  refine Wp.run 2 (f' := (d + 0, 22, 2, 0, 0, [some (fA 47), some (fI l1), _, some (fI l2)], [])) (h' := (156, fjl L, M)) rfl trivial ?_
  obtain ⟨e2, hy, h⟩ := fbd h
  refine s_X1_putInOrder_l2_ok hy (fun x u2 ex => ?_)
  cases ex
  show Wp (d + 0, 22, 54, 0, 0, [some (fA 47), some (fI l1), u2, some (fI e2.1)], []) (156, fjl L, e2.2) Q
  obtain ⟨g0, h⟩ := fgd h
  refine Wp.run 5 (P := [0 ≤ e2.1 ∧ e2.1 < 200]) (f' := (d + 0, 22, 61, 0, 0, [_, _, _, _], [])) (h' := (156, fjl L, (fup e2.2 52 (e2.1).toNat l1))) rfl ?_ ?_
  · exact g0
  obtain rfl := Option.some.inj h
  exact Wp.done rfl (by decide) H
theorem s_X1_putInOrder_fr {M : fM} {l1 l2 : Int} {r : (Unit × fM)} (h : s_X1_putInOrder M l1 l2 = some r) : fSame s_X1_putInOrder_mods M r.2 := by
  unfold s_X1_putInOrder at h
  obtain ⟨e2, hy, h⟩ := fbd h
  have k2 := fs_trans (l := s_X1_putInOrder_mods) fs_refl (s_X1_putInOrder_l2_fr hy)
  replace h := (fgd h).2
  obtain rfl := Option.some.inj h
  exact fs_up k2 (.inl (by decide))
noncomputable def s_X1_isCrack_j111 (M : fM) (l1 l2 l3 l5 l6 l7 t0 t1 : Int) : Option ((Int × Int × Int × Int) ⊕ (Int × Int × Int)) :=
  if fin (t0 + t1) then
    if (-300) < l7 then
      if fin (l5 + 0) ∧ fin (l6 + 1) then
        some (.inl (l3, (t0 + t1), (l5 + 0), (l6 + 1)))
      else none
    else
      if fin (l5 + 1) ∧ fin (l6 + 1) then
        some (.inl (l3, (t0 + t1), (l5 + 1), (l6 + 1)))
      else none
  else none
theorem s_X1_isCrack_j111_ok {d L : Nat} {M : fM} {l1 l2 l3 l5 l6 l7 t0 t1 : Int} {o4 : Option fV} {r : ((Int × Int × Int × Int) ⊕ (Int × Int × Int))} {Q : fO → fH → Prop} (h : s_X1_isCrack_j111 M l1 l2 l3 l5 l6 l7 t0 t1 = some r) (hC : ∀ (l3' l4' l5' l6' : Int) (o7' : Option fV), r = .inl (l3', l4', l5', l6') → Wp (d + 1, 23, 37, 0, 0, [some (fA 47), some (fI l1), some (fI l2), some (fI l3'), some (fI l4'), some (fI l5'), some (fI l6'), o7'], []) (156, fjl L, M) Q) (hE : ∀ (e : (Int × Int × Int)) (o0' o1' o2' o6' o7' : Option fV), r = .inr e → Wp (d + 1, 23, 138, 0, 0, [o0', o1', o2', some (fI e.1), some (fI e.2.1), some (fI e.2.2), o6', o7'], []) (156, fjl L, M) Q) : Wp (d + 1, 23, 111, 0, 0, [some (fA 47), some (fI l1), some (fI l2), some (fI l3), o4, some (fI l5), some (fI l6), some (fI l7)], [fI t1, fI t0]) (156, fjl L, M) Q := by
  unfold s_X1_isCrack_j111 at h
  obtain ⟨g0, h⟩ := fgd h
  refine Wp.run 5 (f' := (d + 1, 23, 121, 0, 0, [some (fA 47), some (fI l1), some (fI l2), some (fI l3), some (fI (fw (t0 + t1))), _, some (fI l6), _], [fI (-300), fI l7, fI l5])) (h' := (156, fjl L, M)) rfl trivial ?_
  rw [fw_id g0]
  refine Wp.br rfl (fun (c : (-300) < l7) => ?_) (fun (c : ¬ ((-300) < l7)) => ?_)
  · replace h := fps c h
    obtain ⟨⟨g0, g1⟩, h⟩ := fgd h
    refine Wp.run 5 (f' := (d + 1, 23, 37, 0, 0, [some (fA 47), some (fI l1), some (fI l2), some (fI l3), some (fI (t0 + t1)), some (fI (fw (l5 + 0))), some (fI (fw (l6 + 1))), _], [])) (h' := (156, fjl L, M)) rfl trivial ?_
    rw [fw_id g0, fw_id g1]
    exact hC _ _ _ _ _ (Option.some.inj h).symm
  · replace h := fng c h
    obtain ⟨⟨g0, g1⟩, h⟩ := fgd h
    refine Wp.run 6 (f' := (d + 1, 23, 37, 0, 0, [some (fA 47), some (fI l1), some (fI l2), some (fI l3), some (fI (t0 + t1)), some (fI (fw (l5 + 1))), some (fI (fw (l6 + 1))), _], [])) (h' := (156, fjl L, M)) rfl trivial ?_
    rw [fw_id g0, fw_id g1]
    exact hC _ _ _ _ _ (Option.some.inj h).symm
noncomputable def s_X1_isCrack_b37 (M : fM) (l1 l2 l3 l4 l5 l6 : Int) : Option ((Int × Int × Int × Int) ⊕ (Int × Int × Int)) :=
  if 12 ≤ l6 then
    some (.inr (l3, l4, l5))
  else
    (s_X6_isTold_18 M l1 l6).bind fun y51 =>
      if y51 = 0 then
        if fin (l6 + 1) then
          some (.inl (l3, l4, l5, (l6 + 1)))
        else none
      else
        (s_X6_isTold_18 M l2 l6).bind fun y64 =>
          if y64 = 0 then
            if fin (l6 + 1) then
              some (.inl (l3, l4, l5, (l6 + 1)))
            else none
          else
            (s_X6_leftOf_18 M l2 l6).bind fun y77 =>
              (s_X6_leftOf_18 M l1 l6).bind fun y87 =>
                if fin (y77 - y87) ∧ fin (l3 + 1) then
                  if (y77 - y87) < 300 then
                    s_X1_isCrack_j111 M l1 l2 (l3 + 1) l5 l6 (y77 - y87) l4 0
                  else
                    s_X1_isCrack_j111 M l1 l2 (l3 + 1) l5 l6 (y77 - y87) l4 1
                else none
theorem s_X1_isCrack_b37_ok {d L : Nat} {M : fM} {l1 l2 l3 l4 l5 l6 : Int} {o7 : Option fV} {r : ((Int × Int × Int × Int) ⊕ (Int × Int × Int))} {Q : fO → fH → Prop} (h : s_X1_isCrack_b37 M l1 l2 l3 l4 l5 l6 = some r) (hC : ∀ (l3' l4' l5' l6' : Int) (o7' : Option fV), r = .inl (l3', l4', l5', l6') → Wp (d + 1, 23, 37, 0, 0, [some (fA 47), some (fI l1), some (fI l2), some (fI l3'), some (fI l4'), some (fI l5'), some (fI l6'), o7'], []) (156, fjl L, M) Q) (hE : ∀ (e : (Int × Int × Int)) (o0' o1' o2' o6' o7' : Option fV), r = .inr e → Wp (d + 1, 23, 138, 0, 0, [o0', o1', o2', some (fI e.1), some (fI e.2.1), some (fI e.2.2), o6', o7'], []) (156, fjl L, M) Q) : Wp (d + 1, 23, 37, 0, 0, [some (fA 47), some (fI l1), some (fI l2), some (fI l3), some (fI l4), some (fI l5), some (fI l6), o7], []) (156, fjl L, M) Q := by
  unfold s_X1_isCrack_b37 at h
  refine Wp.run 2 (f' := (d + 1, 23, 41, 0, 0, [some (fA 47), some (fI l1), some (fI l2), some (fI l3), some (fI l4), some (fI l5), some (fI l6), _], [fI 12, fI l6])) (h' := (156, fjl L, M)) rfl trivial ?_
  refine Wp.br rfl (fun (c : 12 ≤ l6) => ?_) (fun (c : ¬ (12 ≤ l6)) => ?_)
  · replace h := fps c h
    exact hE _ _ _ _ _ _ (Option.some.inj h).symm
  · replace h := fng c h
    refine Wp.run 4 (f' := (d + 1, 23, 51, 0, 0, [some (fA 47), some (fI l1), some (fI l2), some (fI l3), some (fI l4), some (fI l5), some (fI l6), _], [fI l6, fI l1, fA 18])) (h' := (156, fjl L, M)) rfl trivial ?_
    obtain ⟨y51, hy, h⟩ := fbd h
    refine Wp.call rfl (by decide) (s_X6_isTold_18_ok (d := d + 0) hy ?_)
    show Wp (d + 1, 23, 54, 0, 0, [some (fA 47), some (fI l1), some (fI l2), some (fI l3), some (fI l4), some (fI l5), some (fI l6), _], [fI y51]) (156, fjl L, M) Q
    refine Wp.br rfl (fun (c : y51 = 0) => ?_) (fun (c : ¬ (y51 = 0)) => ?_)
    · replace h := fps c h
      obtain ⟨g0, h⟩ := fgd h
      refine Wp.run 2 (f' := (d + 1, 23, 37, 0, 0, [some (fA 47), some (fI l1), some (fI l2), some (fI l3), some (fI l4), some (fI l5), some (fI (fw (l6 + 1))), _], [])) (h' := (156, fjl L, M)) rfl trivial ?_
      rw [fw_id g0]
      exact hC _ _ _ _ _ (Option.some.inj h).symm
    · replace h := fng c h
      refine Wp.run 4 (f' := (d + 1, 23, 64, 0, 0, [some (fA 47), some (fI l1), some (fI l2), some (fI l3), some (fI l4), some (fI l5), some (fI l6), _], [fI l6, fI l2, fA 18])) (h' := (156, fjl L, M)) rfl trivial ?_
      obtain ⟨y64, hy, h⟩ := fbd h
      refine Wp.call rfl (by decide) (s_X6_isTold_18_ok (d := d + 0) hy ?_)
      show Wp (d + 1, 23, 67, 0, 0, [some (fA 47), some (fI l1), some (fI l2), some (fI l3), some (fI l4), some (fI l5), some (fI l6), _], [fI y64]) (156, fjl L, M) Q
      refine Wp.br rfl (fun (c : y64 = 0) => ?_) (fun (c : ¬ (y64 = 0)) => ?_)
      · replace h := fps c h
        obtain ⟨g0, h⟩ := fgd h
        refine Wp.run 2 (f' := (d + 1, 23, 37, 0, 0, [some (fA 47), some (fI l1), some (fI l2), some (fI l3), some (fI l4), some (fI l5), some (fI (fw (l6 + 1))), _], [])) (h' := (156, fjl L, M)) rfl trivial ?_
        rw [fw_id g0]
        exact hC _ _ _ _ _ (Option.some.inj h).symm
      · replace h := fng c h
        refine Wp.run 4 (f' := (d + 1, 23, 77, 0, 0, [some (fA 47), some (fI l1), some (fI l2), some (fI l3), some (fI l4), some (fI l5), some (fI l6), _], [fI l6, fI l2, fA 18])) (h' := (156, fjl L, M)) rfl trivial ?_
        obtain ⟨y77, hy, h⟩ := fbd h
        refine Wp.call rfl (by decide) (s_X6_leftOf_18_ok (d := d + 0) hy ?_)
        show Wp (d + 1, 23, 80, 0, 0, [some (fA 47), some (fI l1), some (fI l2), some (fI l3), some (fI l4), some (fI l5), some (fI l6), _], [fI y77]) (156, fjl L, M) Q
        refine Wp.run 4 (f' := (d + 1, 23, 87, 0, 0, [some (fA 47), some (fI l1), some (fI l2), some (fI l3), some (fI l4), some (fI l5), some (fI l6), _], [fI l6, fI l1, fA 18, fI y77])) (h' := (156, fjl L, M)) rfl trivial ?_
        obtain ⟨y87, hy, h⟩ := fbd h
        refine Wp.call rfl (by decide) (s_X6_leftOf_18_ok (d := d + 0) hy ?_)
        show Wp (d + 1, 23, 90, 0, 0, [some (fA 47), some (fI l1), some (fI l2), some (fI l3), some (fI l4), some (fI l5), some (fI l6), _], [fI y87, fI y77]) (156, fjl L, M) Q
        obtain ⟨⟨g0, g1⟩, h⟩ := fgd h
        refine Wp.run 6 (f' := (d + 1, 23, 103, 0, 0, [some (fA 47), some (fI l1), some (fI l2), some (fI (fw (l3 + 1))), _, some (fI l5), some (fI l6), some (fI (fw (y77 - y87)))], [fI 300, fI (fw (y77 - y87)), fI l4])) (h' := (156, fjl L, M)) rfl trivial ?_
        rw [fw_id g1, fw_id g0]
        refine Wp.br rfl (fun (c : (y77 - y87) < 300) => ?_) (fun (c : ¬ ((y77 - y87) < 300)) => ?_)
        · replace h := fps c h
          refine Wp.run 1 (f' := (d + 1, 23, 111, 0, 0, [some (fA 47), some (fI l1), some (fI l2), some (fI (l3 + 1)), _, some (fI l5), some (fI l6), some (fI (y77 - y87))], [fI 0, fI l4])) (h' := (156, fjl L, M)) rfl trivial ?_
          exact s_X1_isCrack_j111_ok h hC hE
        · replace h := fng c h
          refine Wp.run 2 (f' := (d + 1, 23, 111, 0, 0, [some (fA 47), some (fI l1), some (fI l2), some (fI (l3 + 1)), _, some (fI l5), some (fI l6), some (fI (y77 - y87))], [fI 1, fI l4])) (h' := (156, fjl L, M)) rfl trivial ?_
          exact s_X1_isCrack_j111_ok h hC hE
noncomputable def s_X1_isCrack_l37 (M : fM) (l1 l2 : Int) (s : (Int × Int × Int × Int)) : Option (Int × Int × Int) := fLp (fun s => s_X1_isCrack_b37 M l1 l2 s.1 s.2.1 s.2.2.1 s.2.2.2) s
theorem s_X1_isCrack_l37_ok {d L : Nat} {M : fM} {l1 l2 l3 l4 l5 l6 : Int} {o7 : Option fV} {r : (Int × Int × Int)} {Q : fO → fH → Prop} (h : s_X1_isCrack_l37 M l1 l2 (l3, l4, l5, l6) = some r) (hE : ∀ (e : (Int × Int × Int)) (o0' o1' o2' o6' o7' : Option fV), r = e → Wp (d + 1, 23, 138, 0, 0, [o0', o1', o2', some (fI e.1), some (fI e.2.1), some (fI e.2.2), o6', o7'], []) (156, fjl L, M) Q) : Wp (d + 1, 23, 37, 0, 0, [some (fA 47), some (fI l1), some (fI l2), some (fI l3), some (fI l4), some (fI l5), some (fI l6), o7], []) (156, fjl L, M) Q := by
  refine fLp_wp (W := fun s => ∀ (o7 : Option fV), Wp (d + 1, 23, 37, 0, 0, [some (fA 47), some (fI l1), some (fI l2), some (fI s.1), some (fI s.2.1), some (fI s.2.2.1), some (fI s.2.2.2), o7], []) (156, fjl L, M) Q) (e := r) ?_ h _
  intro s r1 h hC hX o7
  refine s_X1_isCrack_b37_ok (d := d) h (fun a0 a1 a2 a3 _ e1 => ?_) (fun e u0 u1 u2 u3 u4 e1 => hE e u0 u1 u2 u3 u4 (hX _ e1).symm)
  exact hC _ e1 _
noncomputable def s_X1_isCrack (M : fM) (l1 l2 : Int) : Option Int :=
  if (0 ≤ l2 ∧ l2 < 200) ∧ (0 ≤ l1 ∧ l1 < 200) ∧ fin ((M 21 (l2).toNat) - (M 21 (l1).toNat)) then
    if ((M 21 (l2).toNat) - (M 21 (l1).toNat)) ≤ 30 then
      (s_X1_isCrack_l37 M l1 l2 (0, 0, 0, 0)).bind fun e37 =>
        if e37.1 < 3 then
          some 0
        else
          if e37.2.1 = e37.1 then
            some 1
          else
            if ¬ e37.2.2 = e37.1 then
              some 0
            else
              some 1
    else
      some 0
  else none
theorem s_X1_isCrack_ok {d L : Nat} {M : fM} {l1 l2 : Int} {r : Int} {Q : fO → fH → Prop} (h : s_X1_isCrack M l1 l2 = some r) (H : Q (oI r) (156, fjl L, M)) : Wp (d + 1, 23, 0, 0, 0, [some (fA 47), some (fI l1), some (fI l2), none, none, none, none, none], []) (156, fjl L, M) Q := by
  unfold s_X1_isCrack at h
  obtain ⟨⟨g0, g1, g2⟩, h⟩ := fgd h
  refine Wp.run 12 (P := [0 ≤ l2 ∧ l2 < 200, 0 ≤ l1 ∧ l1 < 200]) (f' := (d + 1, 23, 21, 0, 0, [some (fA 47), some (fI l1), some (fI l2), _, _, _, _, _], [fI 30, fI (fw ((M 21 (l2).toNat) - (M 21 (l1).toNat)))])) (h' := (156, fjl L, M)) rfl ?_ ?_
  · exact ⟨g0, g1⟩
  rw [fw_id g2]
  refine Wp.br rfl (fun (c : ((M 21 (l2).toNat) - (M 21 (l1).toNat)) ≤ 30) => ?_) (fun (c : ¬ (((M 21 (l2).toNat) - (M 21 (l1).toNat)) ≤ 30)) => ?_)
  · replace h := fps c h
    refine Wp.run 8 (f' := (d + 1, 23, 37, 0, 0, [some (fA 47), some (fI l1), some (fI l2), some (fI 0), some (fI 0), some (fI 0), some (fI 0), _], [])) (h' := (156, fjl L, M)) rfl trivial ?_
    obtain ⟨e37, hy, h⟩ := fbd h
    refine s_X1_isCrack_l37_ok hy (fun x u0 u1 u2 u6 u7 ex => ?_)
    cases ex
    show Wp (d + 1, 23, 138, 0, 0, [u0, u1, u2, some (fI e37.1), some (fI e37.2.1), some (fI e37.2.2), u6, u7], []) (156, fjl L, M) Q
    refine Wp.run 2 (f' := (d + 1, 23, 140, 0, 0, [_, _, _, some (fI e37.1), some (fI e37.2.1), some (fI e37.2.2), _, _], [fI 3, fI e37.1])) (h' := (156, fjl L, M)) rfl trivial ?_
    refine Wp.br rfl (fun (c : e37.1 < 3) => ?_) (fun (c : ¬ (e37.1 < 3)) => ?_)
    · replace h := fps c h
      refine Wp.run 1 (f' := (d + 1, 23, 160, 0, 0, [_, _, _, _, _, _, _, _], [fI 0])) (h' := (156, fjl L, M)) rfl trivial ?_
      obtain rfl := Option.some.inj h
      exact Wp.done rfl (by decide) H
    · replace h := fng c h
      refine Wp.run 2 (f' := (d + 1, 23, 146, 0, 0, [_, _, _, some (fI e37.1), _, some (fI e37.2.2), _, _], [fI e37.1, fI e37.2.1])) (h' := (156, fjl L, M)) rfl trivial ?_
      refine Wp.br rfl (fun (c : e37.2.1 = e37.1) => ?_) (fun (c : ¬ (e37.2.1 = e37.1)) => ?_)
      · replace h := fps c h
        refine Wp.run 2 (f' := (d + 1, 23, 160, 0, 0, [_, _, _, _, _, _, _, _], [fI 1])) (h' := (156, fjl L, M)) rfl trivial ?_
        obtain rfl := Option.some.inj h
        exact Wp.done rfl (by decide) H
      · replace h := fng c h
        refine Wp.run 2 (f' := (d + 1, 23, 152, 0, 0, [_, _, _, _, _, _, _, _], [fI e37.1, fI e37.2.2])) (h' := (156, fjl L, M)) rfl trivial ?_
        refine Wp.br rfl (fun (c : ¬ e37.2.2 = e37.1) => ?_) (fun (c : ¬ (¬ e37.2.2 = e37.1)) => ?_)
        · replace h := fps c h
          refine Wp.run 1 (f' := (d + 1, 23, 160, 0, 0, [_, _, _, _, _, _, _, _], [fI 0])) (h' := (156, fjl L, M)) rfl trivial ?_
          obtain rfl := Option.some.inj h
          exact Wp.done rfl (by decide) H
        · replace h := fng c h
          refine Wp.run 2 (f' := (d + 1, 23, 160, 0, 0, [_, _, _, _, _, _, _, _], [fI 1])) (h' := (156, fjl L, M)) rfl trivial ?_
          obtain rfl := Option.some.inj h
          exact Wp.done rfl (by decide) H
  · replace h := fng c h
    refine Wp.run 1 (f' := (d + 1, 23, 25, 0, 0, [_, _, _, _, _, _, _, _], [fI 0])) (h' := (156, fjl L, M)) rfl trivial ?_
    obtain rfl := Option.some.inj h
    exact Wp.done rfl (by decide) H
abbrev s_X1_isCracked_mods : List (Nat × Option Nat) := [(52, none)]
noncomputable def s_X1_isCracked_b5 (M : fM) (l1 l2 l3 l4 : Int) : Option ((Int × Int × fM) ⊕ (Int × fM)) :=
  if (M 18 8) ≤ l4 then
    some (.inr (l3, M))
  else
    (s_X6_isOf_18 M l4 1 l1 l2).bind fun y26 =>
      if y26 = 0 then
        if fin (l4 + 1) then
          some (.inl (l3, (l4 + 1), M))
        else none
      else
        (s_X1_putInOrder M l4 l3).bind fun y36 =>
          if fin (l3 + 1) ∧ fin (l4 + 1) then
            some (.inl ((l3 + 1), (l4 + 1), y36.2))
          else none
theorem s_X1_isCracked_b5_ok {d L : Nat} {M : fM} {l1 l2 l3 l4 : Int} {r : ((Int × Int × fM) ⊕ (Int × fM))} {Q : fO → fH → Prop} (h : s_X1_isCracked_b5 M l1 l2 l3 l4 = some r) (hC : ∀ (l3' l4' : Int) (M' : fM), r = .inl (l3', l4', M') → Wp (d + 2, 21, 5, 0, 0, [some (fA 47), some (fI l1), some (fI l2), some (fI l3'), some (fI l4')], []) (156, fjl L, M') Q) (hE : ∀ (e : (Int × fM)) (o1' o2' o4' : Option fV), r = .inr e → Wp (d + 2, 21, 48, 0, 0, [some (fA 47), o1', o2', some (fI e.1), o4'], []) (156, fjl L, e.2) Q) : Wp (d + 2, 21, 5, 0, 0, [some (fA 47), some (fI l1), some (fI l2), some (fI l3), some (fI l4)], []) (156, fjl L, M) Q := by
  unfold s_X1_isCracked_b5 at h
  refine Wp.run 4 (f' := (d + 2, 21, 14, 0, 0, [some (fA 47), some (fI l1), some (fI l2), some (fI l3), some (fI l4)], [fI (M 18 8), fI l4])) (h' := (156, fjl L, M)) rfl trivial ?_
  refine Wp.br rfl (fun (c : (M 18 8) ≤ l4) => ?_) (fun (c : ¬ ((M 18 8) ≤ l4)) => ?_)
  · replace h := fps c h
    exact hE _ _ _ _ (Option.some.inj h).symm
  · replace h := fng c h
    refine Wp.run 6 (f' := (d + 2, 21, 26, 0, 0, [some (fA 47), some (fI l1), some (fI l2), some (fI l3), some (fI l4)], [fI l2, fI l1, fI 1, fI l4, fA 18])) (h' := (156, fjl L, M)) rfl trivial ?_
    obtain ⟨y26, hy, h⟩ := fbd h
    refine Wp.call rfl (by decide) (s_X6_isOf_18_ok (d := d + 1) hy ?_)
    show Wp (d + 2, 21, 29, 0, 0, [some (fA 47), some (fI l1), some (fI l2), some (fI l3), some (fI l4)], [fI y26]) (156, fjl L, M) Q
    refine Wp.br rfl (fun (c : y26 = 0) => ?_) (fun (c : ¬ (y26 = 0)) => ?_)
    · replace h := fps c h
      obtain ⟨g0, h⟩ := fgd h
      refine Wp.run 2 (f' := (d + 2, 21, 5, 0, 0, [some (fA 47), some (fI l1), some (fI l2), some (fI l3), some (fI (fw (l4 + 1)))], [])) (h' := (156, fjl L, M)) rfl trivial ?_
      rw [fw_id g0]
      exact hC _ _ _ (Option.some.inj h).symm
    · replace h := fng c h
      refine Wp.run 3 (f' := (d + 2, 21, 36, 0, 0, [some (fA 47), some (fI l1), some (fI l2), some (fI l3), some (fI l4)], [fI l3, fI l4, fA 47])) (h' := (156, fjl L, M)) rfl trivial ?_
      obtain ⟨y36, hy, h⟩ := fbd h
      refine Wp.call rfl (by decide) (s_X1_putInOrder_ok (d := d + 1) hy ?_)
      show Wp (d + 2, 21, 39, 0, 0, [some (fA 47), some (fI l1), some (fI l2), some (fI l3), some (fI l4)], []) (156, fjl L, y36.2) Q
      obtain ⟨⟨g0, g1⟩, h⟩ := fgd h
      refine Wp.run 3 (f' := (d + 2, 21, 5, 0, 0, [some (fA 47), some (fI l1), some (fI l2), some (fI (fw (l3 + 1))), some (fI (fw (l4 + 1)))], [])) (h' := (156, fjl L, y36.2)) rfl trivial ?_
      rw [fw_id g0, fw_id g1]
      exact hC _ _ _ (Option.some.inj h).symm
theorem s_X1_isCracked_b5_fr {M : fM} {l1 l2 l3 l4 : Int} {r : ((Int × Int × fM) ⊕ (Int × fM))} (h : s_X1_isCracked_b5 M l1 l2 l3 l4 = some r) : fSame s_X1_isCracked_mods M (Sum.elim (fun s => s.2.2) (fun e => e.2) r) := by
  unfold s_X1_isCracked_b5 at h
  by_cases c : (M 18 8) ≤ l4
  · replace h := fps c h
    obtain rfl := Option.some.inj h
    exact fs_refl
  · replace h := fng c h
    obtain ⟨y26, hy, h⟩ := fbd h
    by_cases c : y26 = 0
    · replace h := fps c h
      replace h := (fgd h).2
      obtain rfl := Option.some.inj h
      exact fs_refl
    · replace h := fng c h
      obtain ⟨y36, hy, h⟩ := fbd h
      have k36 := fs_trans (l := s_X1_isCracked_mods) fs_refl (fs_mono (l := s_X1_putInOrder_mods) (by decide) (s_X1_putInOrder_fr hy))
      replace h := (fgd h).2
      obtain rfl := Option.some.inj h
      exact k36
noncomputable def s_X1_isCracked_l5 (l1 l2 : Int) (s : (Int × Int × fM)) : Option (Int × fM) := fLp (fun s => s_X1_isCracked_b5 s.2.2 l1 l2 s.1 s.2.1) s
theorem s_X1_isCracked_l5_ok {d L : Nat} {M : fM} {l1 l2 l3 l4 : Int} {r : (Int × fM)} {Q : fO → fH → Prop} (h : s_X1_isCracked_l5 l1 l2 (l3, l4, M) = some r) (hE : ∀ (e : (Int × fM)) (o1' o2' o4' : Option fV), r = e → Wp (d + 2, 21, 48, 0, 0, [some (fA 47), o1', o2', some (fI e.1), o4'], []) (156, fjl L, e.2) Q) : Wp (d + 2, 21, 5, 0, 0, [some (fA 47), some (fI l1), some (fI l2), some (fI l3), some (fI l4)], []) (156, fjl L, M) Q := by
  refine fLp_wp (W := fun s => Wp (d + 2, 21, 5, 0, 0, [some (fA 47), some (fI l1), some (fI l2), some (fI s.1), some (fI s.2.1)], []) (156, fjl L, s.2.2) Q) (e := r) ?_ h
  intro s r1 h hC hX
  refine s_X1_isCracked_b5_ok (d := d) h (fun a0 a1 a2 e1 => ?_) (fun e u0 u1 u2 e1 => hE e u0 u1 u2 (hX _ e1).symm)
  exact hC _ e1
theorem s_X1_isCracked_l5_fr {M : fM} {l1 l2 l3 l4 : Int} {r : (Int × fM)} (h : s_X1_isCracked_l5 l1 l2 (l3, l4, M) = some r) : fSame s_X1_isCracked_mods M ((fun e => e.2) r) := by
  refine fLp_inv (I := fun s => fSame s_X1_isCracked_mods M s.2.2) (J := fun r => fSame s_X1_isCracked_mods M ((fun e => e.2) r)) h fs_refl (fun s s1 hs hb => ?_) (fun s e hs hb => ?_)
  · exact fs_trans hs (s_X1_isCracked_b5_fr hb)
  · exact fs_trans hs (s_X1_isCracked_b5_fr hb)
noncomputable def s_X1_isCracked_b51 (M : fM) (l3 l4 : Int) : Option (Int ⊕ (Unit ⊕ (Int × fM))) :=
  if l3 ≤ l4 then
    some (.inr (.inl ()))
  else
    if fin (l4 - 1) ∧ (0 ≤ (l4 - 1) ∧ (l4 - 1) < 200) ∧ (0 ≤ l4 ∧ l4 < 200) then
      (s_X1_isCrack M (M 52 (l4 - 1).toNat) (M 52 (l4).toNat)).bind fun y74 =>
        if y74 = 0 then
          if fin (l4 + 1) then
            some (.inl (l4 + 1))
          else none
        else
          some (.inr (.inr (1, M)))
    else none
theorem s_X1_isCracked_b51_ok {d L : Nat} {M : fM} {l3 l4 : Int} {o1 o2 : Option fV} {r : (Int ⊕ (Unit ⊕ (Int × fM)))} {Q : fO → fH → Prop} (h : s_X1_isCracked_b51 M l3 l4 = some r) (hC : ∀ (l4' : Int) (o1' o2' : Option fV), r = .inl l4' → Wp (d + 2, 21, 51, 0, 0, [some (fA 47), o1', o2', some (fI l3), some (fI l4')], []) (156, fjl L, M) Q) (hE : ∀ (e : Unit) (o0' o1' o2' o3' o4' : Option fV), r = .inr (.inl e) → Wp (d + 2, 21, 88, 0, 0, [o0', o1', o2', o3', o4'], []) (156, fjl L, M) Q) (hR : ∀ (v : (Int × fM)), r = .inr (.inr v) → Q (oI v.1) (156, fjl L, v.2)) : Wp (d + 2, 21, 51, 0, 0, [some (fA 47), o1, o2, some (fI l3), some (fI l4)], []) (156, fjl L, M) Q := by
  unfold s_X1_isCracked_b51 at h
  refine Wp.run 2 (f' := (d + 2, 21, 54, 0, 0, [some (fA 47), _, _, some (fI l3), some (fI l4)], [fI l3, fI l4])) (h' := (156, fjl L, M)) rfl trivial ?_
  refine Wp.br rfl (fun (c : l3 ≤ l4) => ?_) (fun (c : ¬ (l3 ≤ l4)) => ?_)
  · replace h := fps c h
    exact hE _ _ _ _ _ _ (Option.some.inj h).symm
  · replace h := fng c h
    obtain ⟨⟨g0, g1, g2⟩, h⟩ := fgd h
    refine Wp.run 11 (P := [0 ≤ (fw (l4 - 1)) ∧ (fw (l4 - 1)) < 200, 0 ≤ l4 ∧ l4 < 200]) (f' := (d + 2, 21, 74, 0, 0, [some (fA 47), _, _, some (fI l3), some (fI l4)], [fI (M 52 (l4).toNat), fI (M 52 (fw (l4 - 1)).toNat), fA 47])) (h' := (156, fjl L, M)) rfl ?_ ?_
    · rw [fw_id g0]; exact ⟨g1, g2⟩
    rw [fw_id g0]
    obtain ⟨y74, hy, h⟩ := fbd h
    refine Wp.call rfl (by decide) (s_X1_isCrack_ok (d := d + 0) hy ?_)
    show Wp (d + 2, 21, 77, 0, 0, [some (fA 47), _, _, some (fI l3), some (fI l4)], [fI y74]) (156, fjl L, M) Q
    refine Wp.br rfl (fun (c : y74 = 0) => ?_) (fun (c : ¬ (y74 = 0)) => ?_)
    · replace h := fps c h
      obtain ⟨g0, h⟩ := fgd h
      refine Wp.run 2 (f' := (d + 2, 21, 51, 0, 0, [some (fA 47), _, _, some (fI l3), some (fI (fw (l4 + 1)))], [])) (h' := (156, fjl L, M)) rfl trivial ?_
      rw [fw_id g0]
      exact hC _ _ _ (Option.some.inj h).symm
    · replace h := fng c h
      refine Wp.run 1 (f' := (d + 2, 21, 81, 0, 0, [_, _, _, _, _], [fI 1])) (h' := (156, fjl L, M)) rfl trivial ?_
      exact Wp.done rfl (by decide) (hR _ (Option.some.inj h).symm)
theorem s_X1_isCracked_b51_fr {M : fM} {l3 l4 : Int} {r : (Int ⊕ (Unit ⊕ (Int × fM)))} (h : s_X1_isCracked_b51 M l3 l4 = some r) : fSame s_X1_isCracked_mods M (Sum.elim (fun _ => M) (Sum.elim (fun _ => M) (fun v => v.2)) r) := by
  unfold s_X1_isCracked_b51 at h
  by_cases c : l3 ≤ l4
  · replace h := fps c h
    obtain rfl := Option.some.inj h
    exact fs_refl
  · replace h := fng c h
    replace h := (fgd h).2
    obtain ⟨y74, hy, h⟩ := fbd h
    by_cases c : y74 = 0
    · replace h := fps c h
      replace h := (fgd h).2
      obtain rfl := Option.some.inj h
      exact fs_refl
    · replace h := fng c h
      obtain rfl := Option.some.inj h
      exact fs_refl
noncomputable def s_X1_isCracked_l51 (M : fM) (l3 : Int) (s : Int) : Option (Unit ⊕ (Int × fM)) := fLp (fun s => s_X1_isCracked_b51 M l3 s) s
theorem s_X1_isCracked_l51_ok {d L : Nat} {M : fM} {l3 l4 : Int} {o1 o2 : Option fV} {r : (Unit ⊕ (Int × fM))} {Q : fO → fH → Prop} (h : s_X1_isCracked_l51 M l3 l4 = some r) (hE : ∀ (e : Unit) (o0' o1' o2' o3' o4' : Option fV), r = .inl e → Wp (d + 2, 21, 88, 0, 0, [o0', o1', o2', o3', o4'], []) (156, fjl L, M) Q) (hR : ∀ (v : (Int × fM)), r = .inr v → Q (oI v.1) (156, fjl L, v.2)) : Wp (d + 2, 21, 51, 0, 0, [some (fA 47), o1, o2, some (fI l3), some (fI l4)], []) (156, fjl L, M) Q := by
  refine fLp_wp (W := fun s => ∀ (o1 o2 : Option fV), Wp (d + 2, 21, 51, 0, 0, [some (fA 47), o1, o2, some (fI l3), some (fI s)], []) (156, fjl L, M) Q) (e := r) ?_ h _ _
  intro s r1 h hC hX o1 o2
  refine s_X1_isCracked_b51_ok (d := d) h (fun a0 _ _ e1 => ?_) (fun e u0 u1 u2 u3 u4 e1 => hE e u0 u1 u2 u3 u4 (hX _ e1).symm) (fun v e1 => hR v (hX _ e1).symm)
  exact hC _ e1 _ _
theorem s_X1_isCracked_l51_fr {M : fM} {l3 l4 : Int} {r : (Unit ⊕ (Int × fM))} (h : s_X1_isCracked_l51 M l3 l4 = some r) : fSame s_X1_isCracked_mods M ((Sum.elim (fun _ => M) (fun v => v.2)) r) := by
  refine fLp_inv (I := fun s => fSame s_X1_isCracked_mods M M) (J := fun r => fSame s_X1_isCracked_mods M ((Sum.elim (fun _ => M) (fun v => v.2)) r)) h fs_refl (fun s s1 hs hb => ?_) (fun s e hs hb => ?_)
  · exact fs_trans hs (s_X1_isCracked_b51_fr hb)
  · exact fs_trans hs (s_X1_isCracked_b51_fr hb)
noncomputable def s_X1_isCracked (M : fM) (l1 l2 : Int) : Option (Int × fM) :=
  (s_X1_isCracked_l5 l1 l2 (0, 0, M)).bind fun e5 =>
    (s_X1_isCracked_l51 e5.2 e5.1 1).bind fun e51 =>
      Sum.elim (fun x51 =>
        some (0, e5.2))
        (fun v51 => some v51) e51
theorem s_X1_isCracked_ok {d L : Nat} {M : fM} {l1 l2 : Int} {r : (Int × fM)} {Q : fO → fH → Prop} (h : s_X1_isCracked M l1 l2 = some r) (H : Q (oI r.1) (156, fjl L, r.2)) : Wp (d + 2, 21, 0, 0, 0, [some (fA 47), some (fI l1), some (fI l2), none, none], []) (156, fjl L, M) Q := by
  unfold s_X1_isCracked at h
  refine Wp.run 4 (f' := (d + 2, 21, 5, 0, 0, [some (fA 47), some (fI l1), some (fI l2), some (fI 0), some (fI 0)], [])) (h' := (156, fjl L, M)) rfl trivial ?_
  obtain ⟨e5, hy, h⟩ := fbd h
  refine s_X1_isCracked_l5_ok hy (fun x u1 u2 u4 ex => ?_)
  cases ex
  show Wp (d + 2, 21, 48, 0, 0, [some (fA 47), u1, u2, some (fI e5.1), u4], []) (156, fjl L, e5.2) Q
  refine Wp.run 2 (f' := (d + 2, 21, 51, 0, 0, [some (fA 47), _, _, some (fI e5.1), some (fI 1)], [])) (h' := (156, fjl L, e5.2)) rfl trivial ?_
  obtain ⟨e51, hy, h⟩ := fbd h
  refine s_X1_isCracked_l51_ok hy (fun x51 u0 u1 u2 u3 u4 ex => ?_) (fun v51 ex => ?_)
  · subst ex
    replace h := fsl h
    show Wp (d + 2, 21, 88, 0, 0, [u0, u1, u2, u3, u4], []) (156, fjl L, e5.2) Q
    refine Wp.run 1 (f' := (d + 2, 21, 89, 0, 0, [_, _, _, _, _], [fI 0])) (h' := (156, fjl L, e5.2)) rfl trivial ?_
    obtain rfl := Option.some.inj h
    exact Wp.done rfl (by decide) H
  · subst ex
    replace h := fsr h
    obtain rfl := Option.some.inj h
    exact H
theorem s_X1_isCracked_fr {M : fM} {l1 l2 : Int} {r : (Int × fM)} (h : s_X1_isCracked M l1 l2 = some r) : fSame s_X1_isCracked_mods M r.2 := by
  unfold s_X1_isCracked at h
  obtain ⟨e5, hy, h⟩ := fbd h
  have k5 := fs_trans (l := s_X1_isCracked_mods) fs_refl (s_X1_isCracked_l5_fr hy)
  obtain ⟨e51, hy, h⟩ := fbd h
  have k51 := fs_trans (l := s_X1_isCracked_mods) k5 (s_X1_isCracked_l51_fr hy)
  rcases e51 with x51 | v51
  · replace h := fsl h
    obtain rfl := Option.some.inj h
    exact k5
  · replace h := fsr h
    obtain rfl := Option.some.inj h
    exact k51
abbrev s_X11_cracked_mods : List (Nat × Option Nat) := [(52, none)]
noncomputable def s_X11_cracked (M : fM) (l1 l2 : Int) : Option (Int × fM) :=
  (s_X2_hasPiano_4 M l1).bind fun y5 =>
    if y5 = 0 then
      some ((-1), M)
    else
      (s_X11_isKnowing M l2).bind fun y12 =>
        if ¬ y12 = 0 then
          (s_X1_isCracked M l1 l2).bind fun y26 =>
            if y26.1 = 0 then
              some (0, y26.2)
            else
              some (1, y26.2)
        else
          some ((-1), M)
theorem s_X11_cracked_ok {d L : Nat} {M : fM} {l1 l2 : Int} {r : (Int × fM)} {Q : fO → fH → Prop} (h : s_X11_cracked M l1 l2 = some r) (H : Q (oI r.1) (156, fjl L, r.2)) : Wp (d + 3, 168, 0, 0, 0, [some (fA 0), some (fI l1), some (fI l2)], []) (156, fjl L, M) Q := by
  unfold s_X11_cracked at h
  refine Wp.run 3 (f' := (d + 3, 168, 5, 0, 0, [some (fA 0), some (fI l1), some (fI l2)], [fI l1, fA 4])) (h' := (156, fjl L, M)) rfl trivial ?_
  obtain ⟨y5, hy, h⟩ := fbd h
  refine Wp.call rfl (by decide) (s_X2_hasPiano_4_ok (d := d + 2) hy ?_)
  show Wp (d + 3, 168, 8, 0, 0, [some (fA 0), some (fI l1), some (fI l2)], [fI y5]) (156, fjl L, M) Q
  refine Wp.br rfl (fun (c : y5 = 0) => ?_) (fun (c : ¬ (y5 = 0)) => ?_)
  · replace h := fps c h
    refine Wp.run 1 (f' := (d + 3, 168, 19, 0, 0, [_, _, _], [fI (-1)])) (h' := (156, fjl L, M)) rfl trivial ?_
    obtain rfl := Option.some.inj h
    exact Wp.done rfl (by decide) H
  · replace h := fng c h
    refine Wp.run 1 (f' := (d + 3, 168, 12, 0, 0, [some (fA 0), some (fI l1), some (fI l2)], [fI l2])) (h' := (156, fjl L, M)) rfl trivial ?_
    obtain ⟨y12, hy, h⟩ := fbd h
    refine Wp.call rfl (by decide) (s_X11_isKnowing_ok (d := d + 1) hy ?_)
    show Wp (d + 3, 168, 15, 0, 0, [some (fA 0), some (fI l1), some (fI l2)], [fI y12]) (156, fjl L, M) Q
    refine Wp.br rfl (fun (c : ¬ y12 = 0) => ?_) (fun (c : ¬ (¬ y12 = 0)) => ?_)
    · replace h := fps c h
      refine Wp.run 4 (f' := (d + 3, 168, 26, 0, 0, [_, _, _], [fI l2, fI l1, fA 47])) (h' := (156, fjl L, M)) rfl trivial ?_
      obtain ⟨y26, hy, h⟩ := fbd h
      refine Wp.call rfl (by decide) (s_X1_isCracked_ok (d := d + 0) hy ?_)
      show Wp (d + 3, 168, 29, 0, 0, [_, _, _], [fI y26.1]) (156, fjl L, y26.2) Q
      refine Wp.br rfl (fun (c : y26.1 = 0) => ?_) (fun (c : ¬ (y26.1 = 0)) => ?_)
      · replace h := fps c h
        refine Wp.run 1 (f' := (d + 3, 168, 37, 0, 0, [_, _, _], [fI 0])) (h' := (156, fjl L, y26.2)) rfl trivial ?_
        obtain rfl := Option.some.inj h
        exact Wp.done rfl (by decide) H
      · replace h := fng c h
        refine Wp.run 2 (f' := (d + 3, 168, 37, 0, 0, [_, _, _], [fI 1])) (h' := (156, fjl L, y26.2)) rfl trivial ?_
        obtain rfl := Option.some.inj h
        exact Wp.done rfl (by decide) H
    · replace h := fng c h
      refine Wp.run 1 (f' := (d + 3, 168, 19, 0, 0, [_, _, _], [fI (-1)])) (h' := (156, fjl L, M)) rfl trivial ?_
      obtain rfl := Option.some.inj h
      exact Wp.done rfl (by decide) H
theorem s_X11_cracked_fr {M : fM} {l1 l2 : Int} {r : (Int × fM)} (h : s_X11_cracked M l1 l2 = some r) : fSame s_X11_cracked_mods M r.2 := by
  unfold s_X11_cracked at h
  obtain ⟨y5, hy, h⟩ := fbd h
  by_cases c : y5 = 0
  · replace h := fps c h
    obtain rfl := Option.some.inj h
    exact fs_refl
  · replace h := fng c h
    obtain ⟨y12, hy, h⟩ := fbd h
    by_cases c : ¬ y12 = 0
    · replace h := fps c h
      obtain ⟨y26, hy, h⟩ := fbd h
      have k26 := fs_trans (l := s_X11_cracked_mods) fs_refl (fs_mono (l := s_X1_isCracked_mods) (by decide) (s_X1_isCracked_fr hy))
      by_cases c : y26.1 = 0
      · replace h := fps c h
        obtain rfl := Option.some.inj h
        exact k26
      · replace h := fng c h
        obtain rfl := Option.some.inj h
        exact k26
    · replace h := fng c h
      obtain rfl := Option.some.inj h
      exact fs_refl
noncomputable def s_X12_cracks_j100 (M : fM) (l1 l2 l3 l5 l6 l7 t0 t1 : Int) : Option ((Int × Int × Int × Int) ⊕ (Int × Int × Int)) :=
  if fin (t0 + t1) then
    if (-300) < l7 then
      if fin (l5 + 0) ∧ fin (l6 + 1) then
        some (.inl (l3, (t0 + t1), (l5 + 0), (l6 + 1)))
      else none
    else
      if fin (l5 + 1) ∧ fin (l6 + 1) then
        some (.inl (l3, (t0 + t1), (l5 + 1), (l6 + 1)))
      else none
  else none
theorem s_X12_cracks_j100_ok {d L : Nat} {M : fM} {l1 l2 l3 l5 l6 l7 t0 t1 : Int} {o4 : Option fV} {r : ((Int × Int × Int × Int) ⊕ (Int × Int × Int))} {Q : fO → fH → Prop} (h : s_X12_cracks_j100 M l1 l2 l3 l5 l6 l7 t0 t1 = some r) (hC : ∀ (l3' l4' l5' l6' : Int) (o7' : Option fV), r = .inl (l3', l4', l5', l6') → Wp (d + 0, 275, 11, 0, 0, [some (fA 122), some (fI l1), some (fI l2), some (fI l3'), some (fI l4'), some (fI l5'), some (fI l6'), o7'], []) (156, fjl L, M) Q) (hE : ∀ (e : (Int × Int × Int)) (o0' o1' o2' o6' o7' : Option fV), r = .inr e → Wp (d + 0, 275, 127, 0, 0, [o0', o1', o2', some (fI e.1), some (fI e.2.1), some (fI e.2.2), o6', o7'], []) (156, fjl L, M) Q) : Wp (d + 0, 275, 100, 0, 0, [some (fA 122), some (fI l1), some (fI l2), some (fI l3), o4, some (fI l5), some (fI l6), some (fI l7)], [fI t1, fI t0]) (156, fjl L, M) Q := by
  unfold s_X12_cracks_j100 at h
  obtain ⟨g0, h⟩ := fgd h
  refine Wp.run 5 (f' := (d + 0, 275, 110, 0, 0, [some (fA 122), some (fI l1), some (fI l2), some (fI l3), some (fI (fw (t0 + t1))), _, some (fI l6), _], [fI (-300), fI l7, fI l5])) (h' := (156, fjl L, M)) rfl trivial ?_
  rw [fw_id g0]
  refine Wp.br rfl (fun (c : (-300) < l7) => ?_) (fun (c : ¬ ((-300) < l7)) => ?_)
  · replace h := fps c h
    obtain ⟨⟨g0, g1⟩, h⟩ := fgd h
    refine Wp.run 5 (f' := (d + 0, 275, 11, 0, 0, [some (fA 122), some (fI l1), some (fI l2), some (fI l3), some (fI (t0 + t1)), some (fI (fw (l5 + 0))), some (fI (fw (l6 + 1))), _], [])) (h' := (156, fjl L, M)) rfl trivial ?_
    rw [fw_id g0, fw_id g1]
    exact hC _ _ _ _ _ (Option.some.inj h).symm
  · replace h := fng c h
    obtain ⟨⟨g0, g1⟩, h⟩ := fgd h
    refine Wp.run 6 (f' := (d + 0, 275, 11, 0, 0, [some (fA 122), some (fI l1), some (fI l2), some (fI l3), some (fI (t0 + t1)), some (fI (fw (l5 + 1))), some (fI (fw (l6 + 1))), _], [])) (h' := (156, fjl L, M)) rfl trivial ?_
    rw [fw_id g0, fw_id g1]
    exact hC _ _ _ _ _ (Option.some.inj h).symm
noncomputable def s_X12_cracks_b11 (M : fM) (l1 l2 l3 l4 l5 l6 : Int) : Option ((Int × Int × Int × Int) ⊕ (Int × Int × Int)) :=
  if 12 ≤ l6 then
    some (.inr (l3, l4, l5))
  else
    if fin (l1 + 6) ∧ (0 ≤ (l1 + 6) ∧ (l1 + 6) < 3800) then
      if (fand (fshr (M 125 (l1 + 6).toNat) l6) 1) = 0 then
        if fin (l6 + 1) then
          some (.inl (l3, l4, l5, (l6 + 1)))
        else none
      else
        if fin (l2 + 6) ∧ (0 ≤ (l2 + 6) ∧ (l2 + 6) < 3800) then
          if ¬ (fand (fshr (M 125 (l2 + 6).toNat) l6) 1) = 0 then
            if fin (l2 + 7) ∧ fin ((l2 + 7) + l6) ∧ (0 ≤ ((l2 + 7) + l6) ∧ ((l2 + 7) + l6) < 3800) ∧ fin (l1 + 7) ∧ fin ((l1 + 7) + l6) ∧ (0 ≤ ((l1 + 7) + l6) ∧ ((l1 + 7) + l6) < 3800) ∧ fin ((M 125 ((l2 + 7) + l6).toNat) - (M 125 ((l1 + 7) + l6).toNat)) then
              if fin (l3 + 1) then
                if ((M 125 ((l2 + 7) + l6).toNat) - (M 125 ((l1 + 7) + l6).toNat)) < 300 then
                  s_X12_cracks_j100 M l1 l2 (l3 + 1) l5 l6 ((M 125 ((l2 + 7) + l6).toNat) - (M 125 ((l1 + 7) + l6).toNat)) l4 0
                else
                  s_X12_cracks_j100 M l1 l2 (l3 + 1) l5 l6 ((M 125 ((l2 + 7) + l6).toNat) - (M 125 ((l1 + 7) + l6).toNat)) l4 1
              else none
            else none
          else
            if fin (l6 + 1) then
              some (.inl (l3, l4, l5, (l6 + 1)))
            else none
        else none
    else none
theorem s_X12_cracks_b11_ok {d L : Nat} {M : fM} {l1 l2 l3 l4 l5 l6 : Int} {o7 : Option fV} {r : ((Int × Int × Int × Int) ⊕ (Int × Int × Int))} {Q : fO → fH → Prop} (h : s_X12_cracks_b11 M l1 l2 l3 l4 l5 l6 = some r) (hC : ∀ (l3' l4' l5' l6' : Int) (o7' : Option fV), r = .inl (l3', l4', l5', l6') → Wp (d + 0, 275, 11, 0, 0, [some (fA 122), some (fI l1), some (fI l2), some (fI l3'), some (fI l4'), some (fI l5'), some (fI l6'), o7'], []) (156, fjl L, M) Q) (hE : ∀ (e : (Int × Int × Int)) (o0' o1' o2' o6' o7' : Option fV), r = .inr e → Wp (d + 0, 275, 127, 0, 0, [o0', o1', o2', some (fI e.1), some (fI e.2.1), some (fI e.2.2), o6', o7'], []) (156, fjl L, M) Q) : Wp (d + 0, 275, 11, 0, 0, [some (fA 122), some (fI l1), some (fI l2), some (fI l3), some (fI l4), some (fI l5), some (fI l6), o7], []) (156, fjl L, M) Q := by
  unfold s_X12_cracks_b11 at h
  refine Wp.run 2 (f' := (d + 0, 275, 15, 0, 0, [some (fA 122), some (fI l1), some (fI l2), some (fI l3), some (fI l4), some (fI l5), some (fI l6), _], [fI 12, fI l6])) (h' := (156, fjl L, M)) rfl trivial ?_
  refine Wp.br rfl (fun (c : 12 ≤ l6) => ?_) (fun (c : ¬ (12 ≤ l6)) => ?_)
  · replace h := fps c h
    exact hE _ _ _ _ _ _ (Option.some.inj h).symm
  · replace h := fng c h
    obtain ⟨⟨g0, g1⟩, h⟩ := fgd h
    refine Wp.run 10 (P := [0 ≤ (fw (l1 + 6)) ∧ (fw (l1 + 6)) < 3800]) (f' := (d + 0, 275, 32, 0, 0, [some (fA 122), some (fI l1), some (fI l2), some (fI l3), some (fI l4), some (fI l5), some (fI l6), _], [fI (fand (fshr (M 125 (fw (l1 + 6)).toNat) l6) 1)])) (h' := (156, fjl L, M)) rfl ?_ ?_
    · rw [fw_id g0]; exact g1
    rw [fw_id g0]
    refine Wp.br rfl (fun (c : (fand (fshr (M 125 (l1 + 6).toNat) l6) 1) = 0) => ?_) (fun (c : ¬ ((fand (fshr (M 125 (l1 + 6).toNat) l6) 1) = 0)) => ?_)
    · replace h := fps c h
      obtain ⟨g0, h⟩ := fgd h
      refine Wp.run 2 (f' := (d + 0, 275, 11, 0, 0, [some (fA 122), some (fI l1), some (fI l2), some (fI l3), some (fI l4), some (fI l5), some (fI (fw (l6 + 1))), _], [])) (h' := (156, fjl L, M)) rfl trivial ?_
      rw [fw_id g0]
      exact hC _ _ _ _ _ (Option.some.inj h).symm
    · replace h := fng c h
      obtain ⟨⟨g0, g1⟩, h⟩ := fgd h
      refine Wp.run 10 (P := [0 ≤ (fw (l2 + 6)) ∧ (fw (l2 + 6)) < 3800]) (f' := (d + 0, 275, 49, 0, 0, [some (fA 122), some (fI l1), some (fI l2), some (fI l3), some (fI l4), some (fI l5), some (fI l6), _], [fI (fand (fshr (M 125 (fw (l2 + 6)).toNat) l6) 1)])) (h' := (156, fjl L, M)) rfl ?_ ?_
      · rw [fw_id g0]; exact g1
      rw [fw_id g0]
      refine Wp.br rfl (fun (c : ¬ (fand (fshr (M 125 (l2 + 6).toNat) l6) 1) = 0) => ?_) (fun (c : ¬ (¬ (fand (fshr (M 125 (l2 + 6).toNat) l6) 1) = 0)) => ?_)
      · replace h := fps c h
        obtain ⟨⟨g0, g1, g2, g3, g4, g5, g6⟩, h⟩ := fgd h
        refine Wp.run 18 (P := [0 ≤ (fw ((fw (l2 + 7)) + l6)) ∧ (fw ((fw (l2 + 7)) + l6)) < 3800, 0 ≤ (fw ((fw (l1 + 7)) + l6)) ∧ (fw ((fw (l1 + 7)) + l6)) < 3800]) (f' := (d + 0, 275, 82, 0, 0, [some (fA 122), some (fI l1), some (fI l2), some (fI l3), some (fI l4), some (fI l5), some (fI l6), some (fI (fw ((M 125 (fw ((fw (l2 + 7)) + l6)).toNat) - (M 125 (fw ((fw (l1 + 7)) + l6)).toNat))))], [])) (h' := (156, fjl L, M)) rfl ?_ ?_
        · rw [fw_id g0, fw_id g1, fw_id g3, fw_id g4]; exact ⟨g2, g5⟩
        rw [fw_id g0, fw_id g1, fw_id g3, fw_id g4, fw_id g6]
        obtain ⟨g0, h⟩ := fgd h
        refine Wp.run 4 (f' := (d + 0, 275, 92, 0, 0, [some (fA 122), some (fI l1), some (fI l2), some (fI (fw (l3 + 1))), _, some (fI l5), some (fI l6), some (fI ((M 125 ((l2 + 7) + l6).toNat) - (M 125 ((l1 + 7) + l6).toNat)))], [fI 300, fI ((M 125 ((l2 + 7) + l6).toNat) - (M 125 ((l1 + 7) + l6).toNat)), fI l4])) (h' := (156, fjl L, M)) rfl trivial ?_
        rw [fw_id g0]
        refine Wp.br rfl (fun (c : ((M 125 ((l2 + 7) + l6).toNat) - (M 125 ((l1 + 7) + l6).toNat)) < 300) => ?_) (fun (c : ¬ (((M 125 ((l2 + 7) + l6).toNat) - (M 125 ((l1 + 7) + l6).toNat)) < 300)) => ?_)
        · replace h := fps c h
          refine Wp.run 1 (f' := (d + 0, 275, 100, 0, 0, [some (fA 122), some (fI l1), some (fI l2), some (fI (l3 + 1)), _, some (fI l5), some (fI l6), some (fI ((M 125 ((l2 + 7) + l6).toNat) - (M 125 ((l1 + 7) + l6).toNat)))], [fI 0, fI l4])) (h' := (156, fjl L, M)) rfl trivial ?_
          exact s_X12_cracks_j100_ok h hC hE
        · replace h := fng c h
          refine Wp.run 2 (f' := (d + 0, 275, 100, 0, 0, [some (fA 122), some (fI l1), some (fI l2), some (fI (l3 + 1)), _, some (fI l5), some (fI l6), some (fI ((M 125 ((l2 + 7) + l6).toNat) - (M 125 ((l1 + 7) + l6).toNat)))], [fI 1, fI l4])) (h' := (156, fjl L, M)) rfl trivial ?_
          exact s_X12_cracks_j100_ok h hC hE
      · replace h := fng c h
        obtain ⟨g0, h⟩ := fgd h
        refine Wp.run 3 (f' := (d + 0, 275, 11, 0, 0, [some (fA 122), some (fI l1), some (fI l2), some (fI l3), some (fI l4), some (fI l5), some (fI (fw (l6 + 1))), _], [])) (h' := (156, fjl L, M)) rfl trivial ?_
        rw [fw_id g0]
        exact hC _ _ _ _ _ (Option.some.inj h).symm
noncomputable def s_X12_cracks_l11 (M : fM) (l1 l2 : Int) (s : (Int × Int × Int × Int)) : Option (Int × Int × Int) := fLp (fun s => s_X12_cracks_b11 M l1 l2 s.1 s.2.1 s.2.2.1 s.2.2.2) s
theorem s_X12_cracks_l11_ok {d L : Nat} {M : fM} {l1 l2 l3 l4 l5 l6 : Int} {o7 : Option fV} {r : (Int × Int × Int)} {Q : fO → fH → Prop} (h : s_X12_cracks_l11 M l1 l2 (l3, l4, l5, l6) = some r) (hE : ∀ (e : (Int × Int × Int)) (o0' o1' o2' o6' o7' : Option fV), r = e → Wp (d + 0, 275, 127, 0, 0, [o0', o1', o2', some (fI e.1), some (fI e.2.1), some (fI e.2.2), o6', o7'], []) (156, fjl L, M) Q) : Wp (d + 0, 275, 11, 0, 0, [some (fA 122), some (fI l1), some (fI l2), some (fI l3), some (fI l4), some (fI l5), some (fI l6), o7], []) (156, fjl L, M) Q := by
  refine fLp_wp (W := fun s => ∀ (o7 : Option fV), Wp (d + 0, 275, 11, 0, 0, [some (fA 122), some (fI l1), some (fI l2), some (fI s.1), some (fI s.2.1), some (fI s.2.2.1), some (fI s.2.2.2), o7], []) (156, fjl L, M) Q) (e := r) ?_ h _
  intro s r1 h hC hX o7
  refine s_X12_cracks_b11_ok (d := d) h (fun a0 a1 a2 a3 _ e1 => ?_) (fun e u0 u1 u2 u3 u4 e1 => hE e u0 u1 u2 u3 u4 (hX _ e1).symm)
  exact hC _ e1 _
noncomputable def s_X12_cracks (M : fM) (l1 l2 : Int) : Option Int :=
  (s_X12_cracks_l11 M l1 l2 (0, 0, 0, 0)).bind fun e11 =>
    if e11.1 < 3 then
      some 0
    else
      if e11.2.1 = e11.1 then
        some 1
      else
        if ¬ e11.2.2 = e11.1 then
          some 0
        else
          some 1
theorem s_X12_cracks_ok {d L : Nat} {M : fM} {l1 l2 : Int} {r : Int} {Q : fO → fH → Prop} (h : s_X12_cracks M l1 l2 = some r) (H : Q (oI r) (156, fjl L, M)) : Wp (d + 0, 275, 0, 0, 0, [some (fA 122), some (fI l1), some (fI l2), none, none, none, none, none], []) (156, fjl L, M) Q := by
  unfold s_X12_cracks at h
  refine Wp.run 8 (f' := (d + 0, 275, 11, 0, 0, [some (fA 122), some (fI l1), some (fI l2), some (fI 0), some (fI 0), some (fI 0), some (fI 0), _], [])) (h' := (156, fjl L, M)) rfl trivial ?_
  obtain ⟨e11, hy, h⟩ := fbd h
  refine s_X12_cracks_l11_ok hy (fun x u0 u1 u2 u6 u7 ex => ?_)
  cases ex
  show Wp (d + 0, 275, 127, 0, 0, [u0, u1, u2, some (fI e11.1), some (fI e11.2.1), some (fI e11.2.2), u6, u7], []) (156, fjl L, M) Q
  refine Wp.run 2 (f' := (d + 0, 275, 129, 0, 0, [_, _, _, some (fI e11.1), some (fI e11.2.1), some (fI e11.2.2), _, _], [fI 3, fI e11.1])) (h' := (156, fjl L, M)) rfl trivial ?_
  refine Wp.br rfl (fun (c : e11.1 < 3) => ?_) (fun (c : ¬ (e11.1 < 3)) => ?_)
  · replace h := fps c h
    refine Wp.run 1 (f' := (d + 0, 275, 149, 0, 0, [_, _, _, _, _, _, _, _], [fI 0])) (h' := (156, fjl L, M)) rfl trivial ?_
    obtain rfl := Option.some.inj h
    exact Wp.done rfl (by decide) H
  · replace h := fng c h
    refine Wp.run 2 (f' := (d + 0, 275, 135, 0, 0, [_, _, _, some (fI e11.1), _, some (fI e11.2.2), _, _], [fI e11.1, fI e11.2.1])) (h' := (156, fjl L, M)) rfl trivial ?_
    refine Wp.br rfl (fun (c : e11.2.1 = e11.1) => ?_) (fun (c : ¬ (e11.2.1 = e11.1)) => ?_)
    · replace h := fps c h
      refine Wp.run 2 (f' := (d + 0, 275, 149, 0, 0, [_, _, _, _, _, _, _, _], [fI 1])) (h' := (156, fjl L, M)) rfl trivial ?_
      obtain rfl := Option.some.inj h
      exact Wp.done rfl (by decide) H
    · replace h := fng c h
      refine Wp.run 2 (f' := (d + 0, 275, 141, 0, 0, [_, _, _, _, _, _, _, _], [fI e11.1, fI e11.2.2])) (h' := (156, fjl L, M)) rfl trivial ?_
      refine Wp.br rfl (fun (c : ¬ e11.2.2 = e11.1) => ?_) (fun (c : ¬ (¬ e11.2.2 = e11.1)) => ?_)
      · replace h := fps c h
        refine Wp.run 1 (f' := (d + 0, 275, 149, 0, 0, [_, _, _, _, _, _, _, _], [fI 0])) (h' := (156, fjl L, M)) rfl trivial ?_
        obtain rfl := Option.some.inj h
        exact Wp.done rfl (by decide) H
      · replace h := fng c h
        refine Wp.run 2 (f' := (d + 0, 275, 149, 0, 0, [_, _, _, _, _, _, _, _], [fI 1])) (h' := (156, fjl L, M)) rfl trivial ?_
        obtain rfl := Option.some.inj h
        exact Wp.done rfl (by decide) H
abbrev s_X12_cracked_mods : List (Nat × Option Nat) := [(122, some 0), (132, none)]
noncomputable def s_X12_cracked_b57 (M : fM) (l1 l2 l3 l4 l5 : Int) : Option ((Int × fM) ⊕ (Int × fM)) :=
  if l5 ≤ 0 then
    some (.inr (l5, M))
  else
    if fin (l5 - 1) ∧ (0 ≤ (l5 - 1) ∧ (l5 - 1) < 200) ∧ fin (19 * (M 132 (l5 - 1).toNat)) ∧ fin ((19 * (M 132 (l5 - 1).toNat)) + 2) ∧ (0 ≤ ((19 * (M 132 (l5 - 1).toNat)) + 2) ∧ ((19 * (M 132 (l5 - 1).toNat)) + 2) < 3800) ∧ fin (19 * l4) ∧ fin ((19 * l4) + 2) then
      if (0 ≤ ((19 * l4) + 2) ∧ ((19 * l4) + 2) < 3800) then
        if (M 125 ((19 * (M 132 (l5 - 1).toNat)) + 2).toNat) ≤ (M 125 ((19 * l4) + 2).toNat) then
          some (.inr (l5, M))
        else
          if fin (l5 - 1) ∧ (0 ≤ (l5 - 1) ∧ (l5 - 1) < 200) ∧ (0 ≤ l5 ∧ l5 < 200) ∧ fin (l5 + (-1)) then
            some (.inl ((l5 + (-1)), (fup M 132 (l5).toNat (M 132 (l5 - 1).toNat))))
          else none
      else none
    else none
theorem s_X12_cracked_b57_ok {d L : Nat} {M : fM} {l1 l2 l3 l4 l5 : Int} {r : ((Int × fM) ⊕ (Int × fM))} {Q : fO → fH → Prop} (h : s_X12_cracked_b57 M l1 l2 l3 l4 l5 = some r) (hC : ∀ (l5' : Int) (M' : fM), r = .inl (l5', M') → Wp (d + 2, 274, 57, 0, 0, [some (fA 122), some (fI l1), some (fI l2), some (fI l3), some (fI l4), some (fI l5')], []) (156, fjl L, M') Q) (hE : ∀ (e : (Int × fM)), r = .inr e → Wp (d + 2, 274, 118, 0, 0, [some (fA 122), some (fI l1), some (fI l2), some (fI l3), some (fI l4), some (fI e.1)], []) (156, fjl L, e.2) Q) : Wp (d + 2, 274, 57, 0, 0, [some (fA 122), some (fI l1), some (fI l2), some (fI l3), some (fI l4), some (fI l5)], []) (156, fjl L, M) Q := by
  unfold s_X12_cracked_b57 at h
  refine Wp.run 1 (f' := (d + 2, 274, 59, 0, 0, [some (fA 122), some (fI l1), some (fI l2), some (fI l3), some (fI l4), some (fI l5)], [fI l5])) (h' := (156, fjl L, M)) rfl trivial ?_
  refine Wp.br rfl (fun (c : l5 ≤ 0) => ?_) (fun (c : ¬ (l5 ≤ 0)) => ?_)
  · replace h := fps c h
    exact hE _ (Option.some.inj h).symm
  · replace h := fng c h
    obtain ⟨⟨g0, g1, g2, g3, g4, g5, g6⟩, h⟩ := fgd h
    refine Wp.run 20 (P := [0 ≤ (fw (l5 - 1)) ∧ (fw (l5 - 1)) < 200, 0 ≤ (fw ((fw (19 * (M 132 (fw (l5 - 1)).toNat))) + 2)) ∧ (fw ((fw (19 * (M 132 (fw (l5 - 1)).toNat))) + 2)) < 3800]) (f' := (d + 2, 274, 92, 0, 0, [some (fA 122), some (fI l1), some (fI l2), some (fI l3), some (fI l4), some (fI l5)], [fI (fw ((fw (19 * l4)) + 2)), fA 125, fI (M 125 (fw ((fw (19 * (M 132 (fw (l5 - 1)).toNat))) + 2)).toNat)])) (h' := (156, fjl L, M)) rfl ?_ ?_
    · rw [fw_id g0, fw_id g2, fw_id g3]; exact ⟨g1, g4⟩
    rw [fw_id g0, fw_id g2, fw_id g3, fw_id g5, fw_id g6]
    obtain ⟨g0, h⟩ := fgd h
    refine Wp.run 1 (P := [0 ≤ ((19 * l4) + 2) ∧ ((19 * l4) + 2) < 3800]) (f' := (d + 2, 274, 93, 0, 0, [some (fA 122), some (fI l1), some (fI l2), some (fI l3), some (fI l4), some (fI l5)], [fI (M 125 ((19 * l4) + 2).toNat), fI (M 125 ((19 * (M 132 (l5 - 1).toNat)) + 2).toNat)])) (h' := (156, fjl L, M)) rfl ?_ ?_
    · exact g0
    refine Wp.br rfl (fun (c : (M 125 ((19 * (M 132 (l5 - 1).toNat)) + 2).toNat) ≤ (M 125 ((19 * l4) + 2).toNat)) => ?_) (fun (c : ¬ ((M 125 ((19 * (M 132 (l5 - 1).toNat)) + 2).toNat) ≤ (M 125 ((19 * l4) + 2).toNat))) => ?_)
    · replace h := fps c h
      exact hE _ (Option.some.inj h).symm
    · replace h := fng c h
      obtain ⟨⟨g0, g1, g2, g3⟩, h⟩ := fgd h
      refine Wp.run 12 (P := [0 ≤ (fw (l5 - 1)) ∧ (fw (l5 - 1)) < 200, 0 ≤ l5 ∧ l5 < 200]) (f' := (d + 2, 274, 57, 0, 0, [some (fA 122), some (fI l1), some (fI l2), some (fI l3), some (fI l4), some (fI (fw (l5 + (-1))))], [])) (h' := (156, fjl L, (fup M 132 (l5).toNat (M 132 (fw (l5 - 1)).toNat)))) rfl ?_ ?_
      · rw [fw_id g0]; exact ⟨g1, g2⟩
      rw [fw_id g3, fw_id g0]
      exact hC _ _ (Option.some.inj h).symm
theorem s_X12_cracked_b57_fr {M : fM} {l1 l2 l3 l4 l5 : Int} {r : ((Int × fM) ⊕ (Int × fM))} (h : s_X12_cracked_b57 M l1 l2 l3 l4 l5 = some r) : fSame s_X12_cracked_mods M (Sum.elim (fun s => s.2) (fun e => e.2) r) := by
  unfold s_X12_cracked_b57 at h
  by_cases c : l5 ≤ 0
  · replace h := fps c h
    obtain rfl := Option.some.inj h
    exact fs_refl
  · replace h := fng c h
    replace h := (fgd h).2
    replace h := (fgd h).2
    by_cases c : (M 125 ((19 * (M 132 (l5 - 1).toNat)) + 2).toNat) ≤ (M 125 ((19 * l4) + 2).toNat)
    · replace h := fps c h
      obtain rfl := Option.some.inj h
      exact fs_refl
    · replace h := fng c h
      replace h := (fgd h).2
      obtain rfl := Option.some.inj h
      exact fs_up fs_refl (.inl (by decide))
noncomputable def s_X12_cracked_l57 (l1 l2 l3 l4 : Int) (s : (Int × fM)) : Option (Int × fM) := fLp (fun s => s_X12_cracked_b57 s.2 l1 l2 l3 l4 s.1) s
theorem s_X12_cracked_l57_ok {d L : Nat} {M : fM} {l1 l2 l3 l4 l5 : Int} {r : (Int × fM)} {Q : fO → fH → Prop} (h : s_X12_cracked_l57 l1 l2 l3 l4 (l5, M) = some r) (hE : ∀ (e : (Int × fM)), r = e → Wp (d + 2, 274, 118, 0, 0, [some (fA 122), some (fI l1), some (fI l2), some (fI l3), some (fI l4), some (fI e.1)], []) (156, fjl L, e.2) Q) : Wp (d + 2, 274, 57, 0, 0, [some (fA 122), some (fI l1), some (fI l2), some (fI l3), some (fI l4), some (fI l5)], []) (156, fjl L, M) Q := by
  refine fLp_wp (W := fun s => Wp (d + 2, 274, 57, 0, 0, [some (fA 122), some (fI l1), some (fI l2), some (fI l3), some (fI l4), some (fI s.1)], []) (156, fjl L, s.2) Q) (e := r) ?_ h
  intro s r1 h hC hX
  refine s_X12_cracked_b57_ok (d := d) h (fun a0 a1 e1 => ?_) (fun e  e1 => hE e  (hX _ e1).symm)
  exact hC _ e1
theorem s_X12_cracked_l57_fr {M : fM} {l1 l2 l3 l4 l5 : Int} {r : (Int × fM)} (h : s_X12_cracked_l57 l1 l2 l3 l4 (l5, M) = some r) : fSame s_X12_cracked_mods M ((fun e => e.2) r) := by
  refine fLp_inv (I := fun s => fSame s_X12_cracked_mods M s.2) (J := fun r => fSame s_X12_cracked_mods M ((fun e => e.2) r)) h fs_refl (fun s s1 hs hb => ?_) (fun s e hs hb => ?_)
  · exact fs_trans hs (s_X12_cracked_b57_fr hb)
  · exact fs_trans hs (s_X12_cracked_b57_fr hb)
noncomputable def s_X12_cracked_b27 (M : fM) (l1 l2 l3 l4 : Int) : Option ((Int × Int × fM) ⊕ (Int × fM)) :=
  if (M 122 10) ≤ l4 then
    some (.inr (l3, M))
  else
    (s_X12_isOf M l4 1 l1 364 l2).bind fun y45 =>
      if ¬ y45 = 0 then
        (s_X12_cracked_l57 l1 l2 l3 l4 (l3, M)).bind fun e57 =>
          if (0 ≤ e57.1 ∧ e57.1 < 200) ∧ fin (l3 + 1) ∧ fin (l4 + 1) then
            some (.inl ((l3 + 1), (l4 + 1), (fup e57.2 132 (e57.1).toNat l4)))
          else none
      else
        if fin (l4 + 1) then
          some (.inl (l3, (l4 + 1), M))
        else none
theorem s_X12_cracked_b27_ok {d L : Nat} {M : fM} {l1 l2 l3 l4 : Int} {o5 : Option fV} {r : ((Int × Int × fM) ⊕ (Int × fM))} {Q : fO → fH → Prop} (h : s_X12_cracked_b27 M l1 l2 l3 l4 = some r) (hC : ∀ (l3' l4' : Int) (M' : fM) (o5' : Option fV), r = .inl (l3', l4', M') → Wp (d + 2, 274, 27, 0, 0, [some (fA 122), some (fI l1), some (fI l2), some (fI l3'), some (fI l4'), o5'], []) (156, fjl L, M') Q) (hE : ∀ (e : (Int × fM)) (o1' o2' o4' o5' : Option fV), r = .inr e → Wp (d + 2, 274, 136, 0, 0, [some (fA 122), o1', o2', some (fI e.1), o4', o5'], []) (156, fjl L, e.2) Q) : Wp (d + 2, 274, 27, 0, 0, [some (fA 122), some (fI l1), some (fI l2), some (fI l3), some (fI l4), o5], []) (156, fjl L, M) Q := by
  unfold s_X12_cracked_b27 at h
  refine Wp.run 3 (f' := (d + 2, 274, 33, 0, 0, [some (fA 122), some (fI l1), some (fI l2), some (fI l3), some (fI l4), _], [fI (M 122 10), fI l4])) (h' := (156, fjl L, M)) rfl trivial ?_
  refine Wp.br rfl (fun (c : (M 122 10) ≤ l4) => ?_) (fun (c : ¬ ((M 122 10) ≤ l4)) => ?_)
  · replace h := fps c h
    exact hE _ _ _ _ _ (Option.some.inj h).symm
  · replace h := fng c h
    refine Wp.run 6 (f' := (d + 2, 274, 45, 0, 0, [some (fA 122), some (fI l1), some (fI l2), some (fI l3), some (fI l4), _], [fI l2, fI 364, fI l1, fI 1, fI l4, fA 122])) (h' := (156, fjl L, M)) rfl trivial ?_
    obtain ⟨y45, hy, h⟩ := fbd h
    refine Wp.call rfl (by decide) (s_X12_isOf_ok (d := d + 1) hy ?_)
    show Wp (d + 2, 274, 48, 0, 0, [some (fA 122), some (fI l1), some (fI l2), some (fI l3), some (fI l4), _], [fI y45]) (156, fjl L, M) Q
    refine Wp.br rfl (fun (c : ¬ y45 = 0) => ?_) (fun (c : ¬ (¬ y45 = 0)) => ?_)
    · replace h := fps c h
      refine Wp.run 2 (f' := (d + 2, 274, 57, 0, 0, [some (fA 122), some (fI l1), some (fI l2), some (fI l3), some (fI l4), some (fI l3)], [])) (h' := (156, fjl L, M)) rfl trivial ?_
      obtain ⟨e57, hy, h⟩ := fbd h
      refine s_X12_cracked_l57_ok hy (fun x ex => ?_)
      cases ex
      show Wp (d + 2, 274, 118, 0, 0, [some (fA 122), some (fI l1), some (fI l2), some (fI l3), some (fI l4), some (fI e57.1)], []) (156, fjl L, e57.2) Q
      obtain ⟨⟨g0, g1, g2⟩, h⟩ := fgd h
      refine Wp.run 8 (P := [0 ≤ e57.1 ∧ e57.1 < 200]) (f' := (d + 2, 274, 27, 0, 0, [some (fA 122), some (fI l1), some (fI l2), some (fI (fw (l3 + 1))), some (fI (fw (l4 + 1))), _], [])) (h' := (156, fjl L, (fup e57.2 132 (e57.1).toNat l4))) rfl ?_ ?_
      · exact g0
      rw [fw_id g1, fw_id g2]
      exact hC _ _ _ _ (Option.some.inj h).symm
    · replace h := fng c h
      obtain ⟨g0, h⟩ := fgd h
      refine Wp.run 3 (f' := (d + 2, 274, 27, 0, 0, [some (fA 122), some (fI l1), some (fI l2), some (fI l3), some (fI (fw (l4 + 1))), _], [])) (h' := (156, fjl L, M)) rfl trivial ?_
      rw [fw_id g0]
      exact hC _ _ _ _ (Option.some.inj h).symm
theorem s_X12_cracked_b27_fr {M : fM} {l1 l2 l3 l4 : Int} {r : ((Int × Int × fM) ⊕ (Int × fM))} (h : s_X12_cracked_b27 M l1 l2 l3 l4 = some r) : fSame s_X12_cracked_mods M (Sum.elim (fun s => s.2.2) (fun e => e.2) r) := by
  unfold s_X12_cracked_b27 at h
  by_cases c : (M 122 10) ≤ l4
  · replace h := fps c h
    obtain rfl := Option.some.inj h
    exact fs_refl
  · replace h := fng c h
    obtain ⟨y45, hy, h⟩ := fbd h
    by_cases c : ¬ y45 = 0
    · replace h := fps c h
      obtain ⟨e57, hy, h⟩ := fbd h
      have k57 := fs_trans (l := s_X12_cracked_mods) fs_refl (s_X12_cracked_l57_fr hy)
      replace h := (fgd h).2
      obtain rfl := Option.some.inj h
      exact fs_up k57 (.inl (by decide))
    · replace h := fng c h
      replace h := (fgd h).2
      obtain rfl := Option.some.inj h
      exact fs_refl
noncomputable def s_X12_cracked_l27 (l1 l2 : Int) (s : (Int × Int × fM)) : Option (Int × fM) := fLp (fun s => s_X12_cracked_b27 s.2.2 l1 l2 s.1 s.2.1) s
theorem s_X12_cracked_l27_ok {d L : Nat} {M : fM} {l1 l2 l3 l4 : Int} {o5 : Option fV} {r : (Int × fM)} {Q : fO → fH → Prop} (h : s_X12_cracked_l27 l1 l2 (l3, l4, M) = some r) (hE : ∀ (e : (Int × fM)) (o1' o2' o4' o5' : Option fV), r = e → Wp (d + 2, 274, 136, 0, 0, [some (fA 122), o1', o2', some (fI e.1), o4', o5'], []) (156, fjl L, e.2) Q) : Wp (d + 2, 274, 27, 0, 0, [some (fA 122), some (fI l1), some (fI l2), some (fI l3), some (fI l4), o5], []) (156, fjl L, M) Q := by
  refine fLp_wp (W := fun s => ∀ (o5 : Option fV), Wp (d + 2, 274, 27, 0, 0, [some (fA 122), some (fI l1), some (fI l2), some (fI s.1), some (fI s.2.1), o5], []) (156, fjl L, s.2.2) Q) (e := r) ?_ h _
  intro s r1 h hC hX o5
  refine s_X12_cracked_b27_ok (d := d) h (fun a0 a1 a2 _ e1 => ?_) (fun e u0 u1 u2 u3 e1 => hE e u0 u1 u2 u3 (hX _ e1).symm)
  exact hC _ e1 _
theorem s_X12_cracked_l27_fr {M : fM} {l1 l2 l3 l4 : Int} {r : (Int × fM)} (h : s_X12_cracked_l27 l1 l2 (l3, l4, M) = some r) : fSame s_X12_cracked_mods M ((fun e => e.2) r) := by
  refine fLp_inv (I := fun s => fSame s_X12_cracked_mods M s.2.2) (J := fun r => fSame s_X12_cracked_mods M ((fun e => e.2) r)) h fs_refl (fun s s1 hs hb => ?_) (fun s e hs hb => ?_)
  · exact fs_trans hs (s_X12_cracked_b27_fr hb)
  · exact fs_trans hs (s_X12_cracked_b27_fr hb)
noncomputable def s_X12_cracked_b139 (M : fM) (l3 l4 : Int) : Option (Int ⊕ (Unit ⊕ (Int × fM))) :=
  if l3 ≤ l4 then
    some (.inr (.inl ()))
  else
    if (0 ≤ l4 ∧ l4 < 200) ∧ fin (19 * (M 132 (l4).toNat)) ∧ fin ((19 * (M 132 (l4).toNat)) + 2) ∧ (0 ≤ ((19 * (M 132 (l4).toNat)) + 2) ∧ ((19 * (M 132 (l4).toNat)) + 2) < 3800) ∧ fin (l4 - 1) ∧ (0 ≤ (l4 - 1) ∧ (l4 - 1) < 200) then
      if fin (19 * (M 132 (l4 - 1).toNat)) ∧ fin ((19 * (M 132 (l4 - 1).toNat)) + 2) ∧ (0 ≤ ((19 * (M 132 (l4 - 1).toNat)) + 2) ∧ ((19 * (M 132 (l4 - 1).toNat)) + 2) < 3800) ∧ fin ((M 125 ((19 * (M 132 (l4).toNat)) + 2).toNat) - (M 125 ((19 * (M 132 (l4 - 1).toNat)) + 2).toNat)) then
        if 30 < ((M 125 ((19 * (M 132 (l4).toNat)) + 2).toNat) - (M 125 ((19 * (M 132 (l4 - 1).toNat)) + 2).toNat)) then
          if fin (l4 + 1) then
            some (.inl (l4 + 1))
          else none
        else
          if fin (l4 - 1) ∧ (0 ≤ (l4 - 1) ∧ (l4 - 1) < 200) ∧ fin (19 * (M 132 (l4 - 1).toNat)) ∧ (0 ≤ l4 ∧ l4 < 200) ∧ fin (19 * (M 132 (l4).toNat)) then
            (s_X12_cracks M (19 * (M 132 (l4 - 1).toNat)) (19 * (M 132 (l4).toNat))).bind fun y210 =>
              if y210 = 0 then
                if fin (l4 + 1) then
                  some (.inl (l4 + 1))
                else none
              else
                some (.inr (.inr (1, M)))
          else none
      else none
    else none
theorem s_X12_cracked_b139_ok {d L : Nat} {M : fM} {l3 l4 : Int} {o1 o2 o5 : Option fV} {r : (Int ⊕ (Unit ⊕ (Int × fM)))} {Q : fO → fH → Prop} (h : s_X12_cracked_b139 M l3 l4 = some r) (hC : ∀ (l4' : Int) (o1' o2' o5' : Option fV), r = .inl l4' → Wp (d + 2, 274, 139, 0, 0, [some (fA 122), o1', o2', some (fI l3), some (fI l4'), o5'], []) (156, fjl L, M) Q) (hE : ∀ (e : Unit) (o0' o1' o2' o3' o4' o5' : Option fV), r = .inr (.inl e) → Wp (d + 2, 274, 224, 0, 0, [o0', o1', o2', o3', o4', o5'], []) (156, fjl L, M) Q) (hR : ∀ (v : (Int × fM)), r = .inr (.inr v) → Q (oI v.1) (156, fjl L, v.2)) : Wp (d + 2, 274, 139, 0, 0, [some (fA 122), o1, o2, some (fI l3), some (fI l4), o5], []) (156, fjl L, M) Q := by
  unfold s_X12_cracked_b139 at h
  refine Wp.run 2 (f' := (d + 2, 274, 142, 0, 0, [some (fA 122), _, _, some (fI l3), some (fI l4), _], [fI l3, fI l4])) (h' := (156, fjl L, M)) rfl trivial ?_
  refine Wp.br rfl (fun (c : l3 ≤ l4) => ?_) (fun (c : ¬ (l3 ≤ l4)) => ?_)
  · replace h := fps c h
    exact hE _ _ _ _ _ _ _ (Option.some.inj h).symm
  · replace h := fng c h
    obtain ⟨⟨g0, g1, g2, g3, g4, g5⟩, h⟩ := fgd h
    refine Wp.run 20 (P := [0 ≤ l4 ∧ l4 < 200, 0 ≤ (fw ((fw (19 * (M 132 (l4).toNat))) + 2)) ∧ (fw ((fw (19 * (M 132 (l4).toNat))) + 2)) < 3800, 0 ≤ (fw (l4 - 1)) ∧ (fw (l4 - 1)) < 200]) (f' := (d + 2, 274, 177, 0, 0, [some (fA 122), _, _, some (fI l3), some (fI l4), _], [fI (M 132 (fw (l4 - 1)).toNat), fI 19, fA 125, fI (M 125 (fw ((fw (19 * (M 132 (l4).toNat))) + 2)).toNat)])) (h' := (156, fjl L, M)) rfl ?_ ?_
    · rw [fw_id g1, fw_id g2, fw_id g4]; exact ⟨g0, g3, g5⟩
    rw [fw_id g1, fw_id g2, fw_id g4]
    obtain ⟨⟨g0, g1, g2, g3⟩, h⟩ := fgd h
    refine Wp.run 6 (P := [0 ≤ (fw ((fw (19 * (M 132 (l4 - 1).toNat))) + 2)) ∧ (fw ((fw (19 * (M 132 (l4 - 1).toNat))) + 2)) < 3800]) (f' := (d + 2, 274, 184, 0, 0, [some (fA 122), _, _, some (fI l3), some (fI l4), _], [fI 30, fI (fw ((M 125 ((19 * (M 132 (l4).toNat)) + 2).toNat) - (M 125 (fw ((fw (19 * (M 132 (l4 - 1).toNat))) + 2)).toNat)))])) (h' := (156, fjl L, M)) rfl ?_ ?_
    · rw [fw_id g0, fw_id g1]; exact g2
    rw [fw_id g0, fw_id g1, fw_id g3]
    refine Wp.br rfl (fun (c : 30 < ((M 125 ((19 * (M 132 (l4).toNat)) + 2).toNat) - (M 125 ((19 * (M 132 (l4 - 1).toNat)) + 2).toNat))) => ?_) (fun (c : ¬ (30 < ((M 125 ((19 * (M 132 (l4).toNat)) + 2).toNat) - (M 125 ((19 * (M 132 (l4 - 1).toNat)) + 2).toNat)))) => ?_)
    · replace h := fps c h
      obtain ⟨g0, h⟩ := fgd h
      refine Wp.run 2 (f' := (d + 2, 274, 139, 0, 0, [some (fA 122), _, _, some (fI l3), some (fI (fw (l4 + 1))), _], [])) (h' := (156, fjl L, M)) rfl trivial ?_
      rw [fw_id g0]
      exact hC _ _ _ _ (Option.some.inj h).symm
    · replace h := fng c h
      obtain ⟨⟨g0, g1, g2, g3, g4⟩, h⟩ := fgd h
      refine Wp.run 15 (P := [0 ≤ (fw (l4 - 1)) ∧ (fw (l4 - 1)) < 200, 0 ≤ l4 ∧ l4 < 200]) (f' := (d + 2, 274, 210, 0, 0, [some (fA 122), _, _, some (fI l3), some (fI l4), _], [fI (fw (19 * (M 132 (l4).toNat))), fI (fw (19 * (M 132 (fw (l4 - 1)).toNat))), fA 122])) (h' := (156, fjl L, M)) rfl ?_ ?_
      · rw [fw_id g0]; exact ⟨g1, g3⟩
      rw [fw_id g0, fw_id g2, fw_id g4]
      obtain ⟨y210, hy, h⟩ := fbd h
      refine Wp.call rfl (by decide) (s_X12_cracks_ok (d := d + 1) hy ?_)
      show Wp (d + 2, 274, 213, 0, 0, [some (fA 122), _, _, some (fI l3), some (fI l4), _], [fI y210]) (156, fjl L, M) Q
      refine Wp.br rfl (fun (c : y210 = 0) => ?_) (fun (c : ¬ (y210 = 0)) => ?_)
      · replace h := fps c h
        obtain ⟨g0, h⟩ := fgd h
        refine Wp.run 2 (f' := (d + 2, 274, 139, 0, 0, [some (fA 122), _, _, some (fI l3), some (fI (fw (l4 + 1))), _], [])) (h' := (156, fjl L, M)) rfl trivial ?_
        rw [fw_id g0]
        exact hC _ _ _ _ (Option.some.inj h).symm
      · replace h := fng c h
        refine Wp.run 1 (f' := (d + 2, 274, 217, 0, 0, [_, _, _, _, _, _], [fI 1])) (h' := (156, fjl L, M)) rfl trivial ?_
        exact Wp.done rfl (by decide) (hR _ (Option.some.inj h).symm)
theorem s_X12_cracked_b139_fr {M : fM} {l3 l4 : Int} {r : (Int ⊕ (Unit ⊕ (Int × fM)))} (h : s_X12_cracked_b139 M l3 l4 = some r) : fSame s_X12_cracked_mods M (Sum.elim (fun _ => M) (Sum.elim (fun _ => M) (fun v => v.2)) r) := by
  unfold s_X12_cracked_b139 at h
  by_cases c : l3 ≤ l4
  · replace h := fps c h
    obtain rfl := Option.some.inj h
    exact fs_refl
  · replace h := fng c h
    replace h := (fgd h).2
    replace h := (fgd h).2
    by_cases c : 30 < ((M 125 ((19 * (M 132 (l4).toNat)) + 2).toNat) - (M 125 ((19 * (M 132 (l4 - 1).toNat)) + 2).toNat))
    · replace h := fps c h
      replace h := (fgd h).2
      obtain rfl := Option.some.inj h
      exact fs_refl
    · replace h := fng c h
      replace h := (fgd h).2
      obtain ⟨y210, hy, h⟩ := fbd h
      by_cases c : y210 = 0
      · replace h := fps c h
        replace h := (fgd h).2
        obtain rfl := Option.some.inj h
        exact fs_refl
      · replace h := fng c h
        obtain rfl := Option.some.inj h
        exact fs_refl
noncomputable def s_X12_cracked_l139 (M : fM) (l3 : Int) (s : Int) : Option (Unit ⊕ (Int × fM)) := fLp (fun s => s_X12_cracked_b139 M l3 s) s
theorem s_X12_cracked_l139_ok {d L : Nat} {M : fM} {l3 l4 : Int} {o1 o2 o5 : Option fV} {r : (Unit ⊕ (Int × fM))} {Q : fO → fH → Prop} (h : s_X12_cracked_l139 M l3 l4 = some r) (hE : ∀ (e : Unit) (o0' o1' o2' o3' o4' o5' : Option fV), r = .inl e → Wp (d + 2, 274, 224, 0, 0, [o0', o1', o2', o3', o4', o5'], []) (156, fjl L, M) Q) (hR : ∀ (v : (Int × fM)), r = .inr v → Q (oI v.1) (156, fjl L, v.2)) : Wp (d + 2, 274, 139, 0, 0, [some (fA 122), o1, o2, some (fI l3), some (fI l4), o5], []) (156, fjl L, M) Q := by
  refine fLp_wp (W := fun s => ∀ (o1 o2 o5 : Option fV), Wp (d + 2, 274, 139, 0, 0, [some (fA 122), o1, o2, some (fI l3), some (fI s), o5], []) (156, fjl L, M) Q) (e := r) ?_ h _ _ _
  intro s r1 h hC hX o1 o2 o5
  refine s_X12_cracked_b139_ok (d := d) h (fun a0 _ _ _ e1 => ?_) (fun e u0 u1 u2 u3 u4 u5 e1 => hE e u0 u1 u2 u3 u4 u5 (hX _ e1).symm) (fun v e1 => hR v (hX _ e1).symm)
  exact hC _ e1 _ _ _
theorem s_X12_cracked_l139_fr {M : fM} {l3 l4 : Int} {r : (Unit ⊕ (Int × fM))} (h : s_X12_cracked_l139 M l3 l4 = some r) : fSame s_X12_cracked_mods M ((Sum.elim (fun _ => M) (fun v => v.2)) r) := by
  refine fLp_inv (I := fun s => fSame s_X12_cracked_mods M M) (J := fun r => fSame s_X12_cracked_mods M ((Sum.elim (fun _ => M) (fun v => v.2)) r)) h fs_refl (fun s s1 hs hb => ?_) (fun s e hs hb => ?_)
  · exact fs_trans hs (s_X12_cracked_b139_fr hb)
  · exact fs_trans hs (s_X12_cracked_b139_fr hb)
noncomputable def s_X12_cracked (M : fM) (l1 l2 : Int) : Option (Int × fM) :=
  (s_X12_isPiano (fup M 122 0 0) l1).bind fun y7 =>
    if y7 = 0 then
      some ((-1), (fup M 122 0 0))
    else
      (s_X12_isKnown (fup M 122 0 0) l2).bind fun y14 =>
        if ¬ y14 = 0 then
          (s_X12_cracked_l27 l1 l2 (0, 0, (fup M 122 0 0))).bind fun e27 =>
            (s_X12_cracked_l139 e27.2 e27.1 1).bind fun e139 =>
              Sum.elim (fun x139 =>
                some (0, e27.2))
                (fun v139 => some v139) e139
        else
          some ((-1), (fup M 122 0 0))
theorem s_X12_cracked_ok {d L : Nat} {M : fM} {l1 l2 : Int} {r : (Int × fM)} {Q : fO → fH → Prop} (h : s_X12_cracked M l1 l2 = some r) (H : Q (oI r.1) (156, fjl L, r.2)) : Wp (d + 2, 274, 0, 0, 0, [some (fA 122), some (fI l1), some (fI l2), none, none, none], []) (156, fjl L, M) Q := by
  unfold s_X12_cracked at h
  refine Wp.run 5 (f' := (d + 2, 274, 7, 0, 0, [some (fA 122), some (fI l1), some (fI l2), _, _, _], [fI l1, fA 122])) (h' := (156, fjl L, (fup M 122 0 0))) rfl trivial ?_
  obtain ⟨y7, hy, h⟩ := fbd h
  refine Wp.call rfl (by decide) (s_X12_isPiano_ok (d := d + 0) hy ?_)
  show Wp (d + 2, 274, 10, 0, 0, [some (fA 122), some (fI l1), some (fI l2), _, _, _], [fI y7]) (156, fjl L, (fup M 122 0 0)) Q
  refine Wp.br rfl (fun (c : y7 = 0) => ?_) (fun (c : ¬ (y7 = 0)) => ?_)
  · replace h := fps c h
    refine Wp.run 1 (f' := (d + 2, 274, 21, 0, 0, [_, _, _, _, _, _], [fI (-1)])) (h' := (156, fjl L, (fup M 122 0 0))) rfl trivial ?_
    obtain rfl := Option.some.inj h
    exact Wp.done rfl (by decide) H
  · replace h := fng c h
    refine Wp.run 1 (f' := (d + 2, 274, 14, 0, 0, [some (fA 122), some (fI l1), some (fI l2), _, _, _], [fI l2])) (h' := (156, fjl L, (fup M 122 0 0))) rfl trivial ?_
    obtain ⟨y14, hy, h⟩ := fbd h
    refine Wp.call rfl (by decide) (s_X12_isKnown_ok (d := d + 0) hy ?_)
    show Wp (d + 2, 274, 17, 0, 0, [some (fA 122), some (fI l1), some (fI l2), _, _, _], [fI y14]) (156, fjl L, (fup M 122 0 0)) Q
    refine Wp.br rfl (fun (c : ¬ y14 = 0) => ?_) (fun (c : ¬ (¬ y14 = 0)) => ?_)
    · replace h := fps c h
      refine Wp.run 4 (f' := (d + 2, 274, 27, 0, 0, [some (fA 122), some (fI l1), some (fI l2), some (fI 0), some (fI 0), _], [])) (h' := (156, fjl L, (fup M 122 0 0))) rfl trivial ?_
      obtain ⟨e27, hy, h⟩ := fbd h
      refine s_X12_cracked_l27_ok hy (fun x u1 u2 u4 u5 ex => ?_)
      cases ex
      show Wp (d + 2, 274, 136, 0, 0, [some (fA 122), u1, u2, some (fI e27.1), u4, u5], []) (156, fjl L, e27.2) Q
      refine Wp.run 2 (f' := (d + 2, 274, 139, 0, 0, [some (fA 122), _, _, some (fI e27.1), some (fI 1), _], [])) (h' := (156, fjl L, e27.2)) rfl trivial ?_
      obtain ⟨e139, hy, h⟩ := fbd h
      refine s_X12_cracked_l139_ok hy (fun x139 u0 u1 u2 u3 u4 u5 ex => ?_) (fun v139 ex => ?_)
      · subst ex
        replace h := fsl h
        show Wp (d + 2, 274, 224, 0, 0, [u0, u1, u2, u3, u4, u5], []) (156, fjl L, e27.2) Q
        refine Wp.run 1 (f' := (d + 2, 274, 225, 0, 0, [_, _, _, _, _, _], [fI 0])) (h' := (156, fjl L, e27.2)) rfl trivial ?_
        obtain rfl := Option.some.inj h
        exact Wp.done rfl (by decide) H
      · subst ex
        replace h := fsr h
        obtain rfl := Option.some.inj h
        exact H
    · replace h := fng c h
      refine Wp.run 1 (f' := (d + 2, 274, 21, 0, 0, [_, _, _, _, _, _], [fI (-1)])) (h' := (156, fjl L, (fup M 122 0 0))) rfl trivial ?_
      obtain rfl := Option.some.inj h
      exact Wp.done rfl (by decide) H
theorem s_X12_cracked_fr {M : fM} {l1 l2 : Int} {r : (Int × fM)} (h : s_X12_cracked M l1 l2 = some r) : fSame s_X12_cracked_mods M r.2 := by
  unfold s_X12_cracked at h
  obtain ⟨y7, hy, h⟩ := fbd h
  by_cases c : y7 = 0
  · replace h := fps c h
    obtain rfl := Option.some.inj h
    exact fs_up fs_refl (.inr (by decide))
  · replace h := fng c h
    obtain ⟨y14, hy, h⟩ := fbd h
    by_cases c : ¬ y14 = 0
    · replace h := fps c h
      obtain ⟨e27, hy, h⟩ := fbd h
      have k27 := fs_trans (l := s_X12_cracked_mods) (fs_up fs_refl (.inr (by decide))) (s_X12_cracked_l27_fr hy)
      obtain ⟨e139, hy, h⟩ := fbd h
      have k139 := fs_trans (l := s_X12_cracked_mods) k27 (s_X12_cracked_l139_fr hy)
      rcases e139 with x139 | v139
      · replace h := fsl h
        obtain rfl := Option.some.inj h
        exact k27
      · replace h := fsr h
        obtain rfl := Option.some.inj h
        exact k139
    · replace h := fng c h
      obtain rfl := Option.some.inj h
      exact fs_up fs_refl (.inr (by decide))
noncomputable def s_X6_hasWithin_18_b3 (M : fM) (l1 l2 l3 l4 l5 l6 : Int) : Option (Int ⊕ (Unit ⊕ Int)) :=
  if (M 18 8) ≤ l6 then
    some (.inr (.inl ()))
  else
    (s_X6_isOf_18 M l6 l1 l2 l5).bind fun y19 =>
      if y19 = 0 then
        if fin (l6 + 1) then
          some (.inl (l6 + 1))
        else none
      else
        if (0 ≤ l6 ∧ l6 < 200) then
          if (M 21 (l6).toNat) < l3 then
            if fin (l6 + 1) then
              some (.inl (l6 + 1))
            else none
          else
            if (0 ≤ l6 ∧ l6 < 200) then
              if l4 < (M 21 (l6).toNat) then
                if fin (l6 + 1) then
                  some (.inl (l6 + 1))
                else none
              else
                some (.inr (.inr 1))
            else none
        else none
theorem s_X6_hasWithin_18_b3_ok {d L : Nat} {M : fM} {l1 l2 l3 l4 l5 l6 : Int} {r : (Int ⊕ (Unit ⊕ Int))} {Q : fO → fH → Prop} (h : s_X6_hasWithin_18_b3 M l1 l2 l3 l4 l5 l6 = some r) (hC : ∀ (l6' : Int), r = .inl l6' → Wp (d + 1, 84, 3, 0, 0, [some (fA 18), some (fI l1), some (fI l2), some (fI l3), some (fI l4), some (fI l5), some (fI l6')], []) (156, fjl L, M) Q) (hE : ∀ (e : Unit) (o0' o1' o2' o3' o4' o5' o6' : Option fV), r = .inr (.inl e) → Wp (d + 1, 84, 56, 0, 0, [o0', o1', o2', o3', o4', o5', o6'], []) (156, fjl L, M) Q) (hR : ∀ (v : Int), r = .inr (.inr v) → Q (oI v) (156, fjl L, M)) : Wp (d + 1, 84, 3, 0, 0, [some (fA 18), some (fI l1), some (fI l2), some (fI l3), some (fI l4), some (fI l5), some (fI l6)], []) (156, fjl L, M) Q := by
  unfold s_X6_hasWithin_18_b3 at h
  refine Wp.run 3 (f' := (d + 1, 84, 9, 0, 0, [some (fA 18), some (fI l1), some (fI l2), some (fI l3), some (fI l4), some (fI l5), some (fI l6)], [fI (M 18 8), fI l6])) (h' := (156, fjl L, M)) rfl trivial ?_
  refine Wp.br rfl (fun (c : (M 18 8) ≤ l6) => ?_) (fun (c : ¬ ((M 18 8) ≤ l6)) => ?_)
  · replace h := fps c h
    exact hE _ _ _ _ _ _ _ _ (Option.some.inj h).symm
  · replace h := fng c h
    refine Wp.run 5 (f' := (d + 1, 84, 19, 0, 0, [some (fA 18), some (fI l1), some (fI l2), some (fI l3), some (fI l4), some (fI l5), some (fI l6)], [fI l5, fI l2, fI l1, fI l6, fA 18])) (h' := (156, fjl L, M)) rfl trivial ?_
    obtain ⟨y19, hy, h⟩ := fbd h
    refine Wp.call rfl (by decide) (s_X6_isOf_18_ok (d := d + 0) hy ?_)
    show Wp (d + 1, 84, 22, 0, 0, [some (fA 18), some (fI l1), some (fI l2), some (fI l3), some (fI l4), some (fI l5), some (fI l6)], [fI y19]) (156, fjl L, M) Q
    refine Wp.br rfl (fun (c : y19 = 0) => ?_) (fun (c : ¬ (y19 = 0)) => ?_)
    · replace h := fps c h
      obtain ⟨g0, h⟩ := fgd h
      refine Wp.run 2 (f' := (d + 1, 84, 3, 0, 0, [some (fA 18), some (fI l1), some (fI l2), some (fI l3), some (fI l4), some (fI l5), some (fI (fw (l6 + 1)))], [])) (h' := (156, fjl L, M)) rfl trivial ?_
      rw [fw_id g0]
      exact hC _ (Option.some.inj h).symm
    · replace h := fng c h
      obtain ⟨g0, h⟩ := fgd h
      refine Wp.run 5 (P := [0 ≤ l6 ∧ l6 < 200]) (f' := (d + 1, 84, 33, 0, 0, [some (fA 18), some (fI l1), some (fI l2), some (fI l3), some (fI l4), some (fI l5), some (fI l6)], [fI l3, fI (M 21 (l6).toNat)])) (h' := (156, fjl L, M)) rfl ?_ ?_
      · exact g0
      refine Wp.br rfl (fun (c : (M 21 (l6).toNat) < l3) => ?_) (fun (c : ¬ ((M 21 (l6).toNat) < l3)) => ?_)
      · replace h := fps c h
        obtain ⟨g0, h⟩ := fgd h
        refine Wp.run 2 (f' := (d + 1, 84, 3, 0, 0, [some (fA 18), some (fI l1), some (fI l2), some (fI l3), some (fI l4), some (fI l5), some (fI (fw (l6 + 1)))], [])) (h' := (156, fjl L, M)) rfl trivial ?_
        rw [fw_id g0]
        exact hC _ (Option.some.inj h).symm
      · replace h := fng c h
        obtain ⟨g0, h⟩ := fgd h
        refine Wp.run 5 (P := [0 ≤ l6 ∧ l6 < 200]) (f' := (d + 1, 84, 45, 0, 0, [some (fA 18), some (fI l1), some (fI l2), some (fI l3), some (fI l4), some (fI l5), some (fI l6)], [fI l4, fI (M 21 (l6).toNat)])) (h' := (156, fjl L, M)) rfl ?_ ?_
        · exact g0
        refine Wp.br rfl (fun (c : l4 < (M 21 (l6).toNat)) => ?_) (fun (c : ¬ (l4 < (M 21 (l6).toNat))) => ?_)
        · replace h := fps c h
          obtain ⟨g0, h⟩ := fgd h
          refine Wp.run 2 (f' := (d + 1, 84, 3, 0, 0, [some (fA 18), some (fI l1), some (fI l2), some (fI l3), some (fI l4), some (fI l5), some (fI (fw (l6 + 1)))], [])) (h' := (156, fjl L, M)) rfl trivial ?_
          rw [fw_id g0]
          exact hC _ (Option.some.inj h).symm
        · replace h := fng c h
          refine Wp.run 1 (f' := (d + 1, 84, 49, 0, 0, [_, _, _, _, _, _, _], [fI 1])) (h' := (156, fjl L, M)) rfl trivial ?_
          exact Wp.done rfl (by decide) (hR _ (Option.some.inj h).symm)
noncomputable def s_X6_hasWithin_18_l3 (M : fM) (l1 l2 l3 l4 l5 : Int) (s : Int) : Option (Unit ⊕ Int) := fLp (fun s => s_X6_hasWithin_18_b3 M l1 l2 l3 l4 l5 s) s
theorem s_X6_hasWithin_18_l3_ok {d L : Nat} {M : fM} {l1 l2 l3 l4 l5 l6 : Int} {r : (Unit ⊕ Int)} {Q : fO → fH → Prop} (h : s_X6_hasWithin_18_l3 M l1 l2 l3 l4 l5 l6 = some r) (hE : ∀ (e : Unit) (o0' o1' o2' o3' o4' o5' o6' : Option fV), r = .inl e → Wp (d + 1, 84, 56, 0, 0, [o0', o1', o2', o3', o4', o5', o6'], []) (156, fjl L, M) Q) (hR : ∀ (v : Int), r = .inr v → Q (oI v) (156, fjl L, M)) : Wp (d + 1, 84, 3, 0, 0, [some (fA 18), some (fI l1), some (fI l2), some (fI l3), some (fI l4), some (fI l5), some (fI l6)], []) (156, fjl L, M) Q := by
  refine fLp_wp (W := fun s => Wp (d + 1, 84, 3, 0, 0, [some (fA 18), some (fI l1), some (fI l2), some (fI l3), some (fI l4), some (fI l5), some (fI s)], []) (156, fjl L, M) Q) (e := r) ?_ h
  intro s r1 h hC hX
  refine s_X6_hasWithin_18_b3_ok (d := d) h (fun a0 e1 => ?_) (fun e u0 u1 u2 u3 u4 u5 u6 e1 => hE e u0 u1 u2 u3 u4 u5 u6 (hX _ e1).symm) (fun v e1 => hR v (hX _ e1).symm)
  exact hC _ e1
noncomputable def s_X6_hasWithin_18 (M : fM) (l1 l2 l3 l4 l5 : Int) : Option Int :=
  (s_X6_hasWithin_18_l3 M l1 l2 l3 l4 l5 0).bind fun e3 =>
    Sum.elim (fun x3 =>
      some 0)
      (fun v3 => some v3) e3
theorem s_X6_hasWithin_18_ok {d L : Nat} {M : fM} {l1 l2 l3 l4 l5 : Int} {r : Int} {Q : fO → fH → Prop} (h : s_X6_hasWithin_18 M l1 l2 l3 l4 l5 = some r) (H : Q (oI r) (156, fjl L, M)) : Wp (d + 1, 84, 0, 0, 0, [some (fA 18), some (fI l1), some (fI l2), some (fI l3), some (fI l4), some (fI l5), none], []) (156, fjl L, M) Q := by
  unfold s_X6_hasWithin_18 at h
  refine Wp.run 2 (f' := (d + 1, 84, 3, 0, 0, [some (fA 18), some (fI l1), some (fI l2), some (fI l3), some (fI l4), some (fI l5), some (fI 0)], [])) (h' := (156, fjl L, M)) rfl trivial ?_
  obtain ⟨e3, hy, h⟩ := fbd h
  refine s_X6_hasWithin_18_l3_ok hy (fun x3 u0 u1 u2 u3 u4 u5 u6 ex => ?_) (fun v3 ex => ?_)
  · subst ex
    replace h := fsl h
    show Wp (d + 1, 84, 56, 0, 0, [u0, u1, u2, u3, u4, u5, u6], []) (156, fjl L, M) Q
    refine Wp.run 1 (f' := (d + 1, 84, 57, 0, 0, [_, _, _, _, _, _, _], [fI 0])) (h' := (156, fjl L, M)) rfl trivial ?_
    obtain rfl := Option.some.inj h
    exact Wp.done rfl (by decide) H
  · subst ex
    replace h := fsr h
    obtain rfl := Option.some.inj h
    exact H
