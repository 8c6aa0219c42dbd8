/-! ===== functions of the methods (printed by genfun.py) ===== -/
abbrev s_X7_weightOf_mods : List (Nat × Option Nat) := [(43, some 5), (43, some 6), (44, none), (45, none), (46, none)]
noncomputable def s_X7_weightOf_j58 (M : fM) (l1 l2 : Int) : Option (Int × fM) :=
  (s_X8_look M l1 l2 l2).bind fun y65 =>
    (s_X8_isBeyond y65.2 l2 0).bind fun y74 =>
      if y74 = 0 then
        some (1, y65.2)
      else
        some (10, y65.2)
theorem s_X7_weightOf_j58_ok {d L : Nat} {M : fM} {l1 l2 : Int} {o3 : Option fV} {r : (Int × fM)} {Q : fO → fH → Prop} (h : s_X7_weightOf_j58 M l1 l2 = some r) (H : Q (oI r.1) (156, fjl L, r.2)) : Wp (d + 4, 87, 58, 0, 0, [some (fA 54), some (fI l1), some (fI l2), o3], []) (156, fjl L, M) Q := by
  unfold s_X7_weightOf_j58 at h
  refine Wp.run 5 (f' := (d + 4, 87, 65, 0, 0, [some (fA 54), _, some (fI l2), _], [fI l2, fI l2, fI l1, fA 43])) (h' := (156, fjl L, M)) rfl trivial ?_
  obtain ⟨y65, hy, h⟩ := fbd h
  refine Wp.call rfl (by decide) (s_X8_look_ok (d := d + 1) hy ?_)
  show Wp (d + 4, 87, 68, 0, 0, [some (fA 54), _, some (fI l2), _], []) (156, fjl L, y65.2) Q
  refine Wp.run 4 (f' := (d + 4, 87, 74, 0, 0, [_, _, _, _], [fI 0, fI l2, fA 43])) (h' := (156, fjl L, y65.2)) rfl trivial ?_
  obtain ⟨y74, hy, h⟩ := fbd h
  refine Wp.call rfl (by decide) (s_X8_isBeyond_ok (d := d + 0) hy ?_)
  show Wp (d + 4, 87, 77, 0, 0, [_, _, _, _], [fI y74]) (156, fjl L, y65.2) Q
  refine Wp.br rfl (fun (c : y74 = 0) => ?_) (fun (c : ¬ (y74 = 0)) => ?_)
  · replace h := fps c h
    refine Wp.run 1 (f' := (d + 4, 87, 86, 0, 0, [_, _, _, _], [fI 1])) (h' := (156, fjl L, y65.2)) rfl trivial ?_
    obtain rfl := Option.some.inj h
    exact Wp.done rfl (by decide) H
  · replace h := fng c h
    refine Wp.run 2 (f' := (d + 4, 87, 86, 0, 0, [_, _, _, _], [fI 10])) (h' := (156, fjl L, y65.2)) rfl trivial ?_
    obtain rfl := Option.some.inj h
    exact Wp.done rfl (by decide) H
theorem s_X7_weightOf_j58_fr {M : fM} {l1 l2 : Int} {r : (Int × fM)} (h : s_X7_weightOf_j58 M l1 l2 = some r) : fSame s_X7_weightOf_mods M r.2 := by
  unfold s_X7_weightOf_j58 at h
  obtain ⟨y65, hy, h⟩ := fbd h
  have k65 := fs_trans (l := s_X7_weightOf_mods) fs_refl (fs_mono (l := s_X8_look_mods) (by decide) (s_X8_look_fr hy))
  obtain ⟨y74, hy, h⟩ := fbd h
  by_cases c : y74 = 0
  · replace h := fps c h
    obtain rfl := Option.some.inj h
    exact k65
  · replace h := fng c h
    obtain rfl := Option.some.inj h
    exact k65
noncomputable def s_X7_weightOf_j33 (M : fM) (l1 l2 t0 : Int) : Option (Int × fM) :=
  if t0 = 0 then
    s_X7_weightOf_j58 M l1 l2
  else
    if fin (l2 - 1) then
      (s_X6_hasWithin_18 M 0 l1 (l2 - 1) l2 l2).bind fun y49 =>
        if ¬ y49 = 0 then
          s_X7_weightOf_j58 M l1 l2
        else
          some (50, M)
    else none
theorem s_X7_weightOf_j33_ok {d L : Nat} {M : fM} {l1 l2 t0 : Int} {o3 : Option fV} {r : (Int × fM)} {Q : fO → fH → Prop} (h : s_X7_weightOf_j33 M l1 l2 t0 = some r) (H : Q (oI r.1) (156, fjl L, r.2)) : Wp (d + 4, 87, 33, 0, 0, [some (fA 54), some (fI l1), some (fI l2), o3], [fI t0]) (156, fjl L, M) Q := by
  unfold s_X7_weightOf_j33 at h
  refine Wp.run 2 (f' := (d + 4, 87, 35, 0, 0, [some (fA 54), some (fI l1), some (fI l2), _], [fI t0])) (h' := (156, fjl L, M)) rfl trivial ?_
  refine Wp.br rfl (fun (c : t0 = 0) => ?_) (fun (c : ¬ (t0 = 0)) => ?_)
  · replace h := fps c h
    exact s_X7_weightOf_j58_ok h H
  · replace h := fng c h
    obtain ⟨g0, h⟩ := fgd h
    refine Wp.run 9 (f' := (d + 4, 87, 49, 0, 0, [some (fA 54), some (fI l1), some (fI l2), _], [fI l2, fI l2, fI (fw (l2 - 1)), fI l1, fI 0, fA 18])) (h' := (156, fjl L, M)) rfl trivial ?_
    rw [fw_id g0]
    obtain ⟨y49, hy, h⟩ := fbd h
    refine Wp.call rfl (by decide) (s_X6_hasWithin_18_ok (d := d + 2) hy ?_)
    show Wp (d + 4, 87, 52, 0, 0, [some (fA 54), some (fI l1), some (fI l2), _], [fI y49]) (156, fjl L, M) Q
    refine Wp.br rfl (fun (c : ¬ y49 = 0) => ?_) (fun (c : ¬ (¬ y49 = 0)) => ?_)
    · replace h := fps c h
      exact s_X7_weightOf_j58_ok h H
    · replace h := fng c h
      refine Wp.run 1 (f' := (d + 4, 87, 57, 0, 0, [_, _, _, _], [fI 50])) (h' := (156, fjl L, M)) rfl trivial ?_
      obtain rfl := Option.some.inj h
      exact Wp.done rfl (by decide) H
theorem s_X7_weightOf_j33_fr {M : fM} {l1 l2 t0 : Int} {r : (Int × fM)} (h : s_X7_weightOf_j33 M l1 l2 t0 = some r) : fSame s_X7_weightOf_mods M r.2 := by
  unfold s_X7_weightOf_j33 at h
  by_cases c : t0 = 0
  · replace h := fps c h
    exact fs_trans fs_refl (s_X7_weightOf_j58_fr h)
  · replace h := fng c h
    replace h := (fgd h).2
    obtain ⟨y49, hy, h⟩ := fbd h
    by_cases c : ¬ y49 = 0
    · replace h := fps c h
      exact fs_trans fs_refl (s_X7_weightOf_j58_fr h)
    · replace h := fng c h
      obtain rfl := Option.some.inj h
      exact fs_refl
noncomputable def s_X7_weightOf_j32 (M : fM) (l1 l2 : Int) : Option (Int × fM) :=
  s_X7_weightOf_j33 M l1 l2 0
theorem s_X7_weightOf_j32_ok {d L : Nat} {M : fM} {l1 l2 : Int} {o3 : Option fV} {r : (Int × fM)} {Q : fO → fH → Prop} (h : s_X7_weightOf_j32 M l1 l2 = some r) (H : Q (oI r.1) (156, fjl L, r.2)) : Wp (d + 4, 87, 32, 0, 0, [some (fA 54), some (fI l1), some (fI l2), o3], []) (156, fjl L, M) Q := by
  unfold s_X7_weightOf_j32 at h
  refine Wp.run 1 (f' := (d + 4, 87, 33, 0, 0, [some (fA 54), some (fI l1), some (fI l2), _], [fI 0])) (h' := (156, fjl L, M)) rfl trivial ?_
  exact s_X7_weightOf_j33_ok h H
theorem s_X7_weightOf_j32_fr {M : fM} {l1 l2 : Int} {r : (Int × fM)} (h : s_X7_weightOf_j32 M l1 l2 = some r) : fSame s_X7_weightOf_mods M r.2 := by
  unfold s_X7_weightOf_j32 at h
  exact fs_trans fs_refl (s_X7_weightOf_j33_fr h)
noncomputable def s_X7_weightOf (M : fM) (l1 l2 : Int) : Option (Int × fM) :=
  (s_X2_isHall_4 M l1).bind fun y5 =>
    if y5 = 0 then
      s_X7_weightOf_j32 M l1 l2
    else
      if fin (l2 + 1) then
        (s_X6_hasWithin_18 M 5 l1 l2 (l2 + 1) l2).bind fun y22 =>
          if y22 = 0 then
            s_X7_weightOf_j32 M l1 l2
          else
            s_X7_weightOf_j33 M l1 l2 1
      else none
theorem s_X7_weightOf_ok {d L : Nat} {M : fM} {l1 l2 : Int} {r : (Int × fM)} {Q : fO → fH → Prop} (h : s_X7_weightOf M l1 l2 = some r) (H : Q (oI r.1) (156, fjl L, r.2)) : Wp (d + 4, 87, 0, 0, 0, [some (fA 54), some (fI l1), some (fI l2), none], []) (156, fjl L, M) Q := by
  unfold s_X7_weightOf at h
  refine Wp.run 3 (f' := (d + 4, 87, 5, 0, 0, [some (fA 54), some (fI l1), some (fI l2), _], [fI l1, fA 4])) (h' := (156, fjl L, M)) rfl trivial ?_
  obtain ⟨y5, hy, h⟩ := fbd h
  refine Wp.call rfl (by decide) (s_X2_isHall_4_ok (d := d + 2) hy ?_)
  show Wp (d + 4, 87, 8, 0, 0, [some (fA 54), some (fI l1), some (fI l2), _], [fI y5]) (156, fjl L, M) Q
  refine Wp.br rfl (fun (c : y5 = 0) => ?_) (fun (c : ¬ (y5 = 0)) => ?_)
  · replace h := fps c h
    exact s_X7_weightOf_j32_ok h H
  · replace h := fng c h
    obtain ⟨g0, h⟩ := fgd h
    refine Wp.run 9 (f' := (d + 4, 87, 22, 0, 0, [some (fA 54), some (fI l1), some (fI l2), _], [fI l2, fI (fw (l2 + 1)), fI l2, fI l1, fI 5, fA 18])) (h' := (156, fjl L, M)) rfl trivial ?_
    rw [fw_id g0]
    obtain ⟨y22, hy, h⟩ := fbd h
    refine Wp.call rfl (by decide) (s_X6_hasWithin_18_ok (d := d + 2) hy ?_)
    show Wp (d + 4, 87, 25, 0, 0, [some (fA 54), some (fI l1), some (fI l2), _], [fI y22]) (156, fjl L, M) Q
    refine Wp.br rfl (fun (c : y22 = 0) => ?_) (fun (c : ¬ (y22 = 0)) => ?_)
    · replace h := fps c h
      exact s_X7_weightOf_j32_ok h H
    · replace h := fng c h
      refine Wp.run 2 (f' := (d + 4, 87, 33, 0, 0, [some (fA 54), some (fI l1), some (fI l2), _], [fI 1])) (h' := (156, fjl L, M)) rfl trivial ?_
      exact s_X7_weightOf_j33_ok h H
theorem s_X7_weightOf_fr {M : fM} {l1 l2 : Int} {r : (Int × fM)} (h : s_X7_weightOf M l1 l2 = some r) : fSame s_X7_weightOf_mods M r.2 := by
  unfold s_X7_weightOf at h
  obtain ⟨y5, hy, h⟩ := fbd h
  by_cases c : y5 = 0
  · replace h := fps c h
    exact fs_trans fs_refl (s_X7_weightOf_j32_fr h)
  · replace h := fng c h
    replace h := (fgd h).2
    obtain ⟨y22, hy, h⟩ := fbd h
    by_cases c : y22 = 0
    · replace h := fps c h
      exact fs_trans fs_refl (s_X7_weightOf_j32_fr h)
    · replace h := fng c h
      exact fs_trans fs_refl (s_X7_weightOf_j33_fr h)
abbrev s_X11_weight_mods : List (Nat × Option Nat) := [(43, some 5), (43, some 6), (44, none), (45, none), (46, none)]
noncomputable def s_X11_weight (M : fM) (l1 l2 : Int) : Option (Int × fM) :=
  (s_X2_hasPiano_4 M l1).bind fun y5 =>
    if y5 = 0 then
      some ((-1), M)
    else
      (s_X11_isWithin M l2 364).bind fun y15 =>
        if ¬ y15 = 0 then
          (s_X7_weightOf M l1 l2).bind fun y29 =>
            some (y29.1, y29.2)
        else
          some ((-1), M)
theorem s_X11_weight_ok {d L : Nat} {M : fM} {l1 l2 : Int} {r : (Int × fM)} {Q : fO → fH → Prop} (h : s_X11_weight M l1 l2 = some r) (H : Q (oI r.1) (156, fjl L, r.2)) : Wp (d + 5, 169, 0, 0, 0, [some (fA 0), some (fI l1), some (fI l2)], []) (156, fjl L, M) Q := by
  unfold s_X11_weight at h
  refine Wp.run 3 (f' := (d + 5, 169, 5, 0, 0, [some (fA 0), some (fI l1), some (fI l2)], [fI l1, fA 4])) (h' := (156, fjl L, M)) rfl trivial ?_
  obtain ⟨y5, hy, h⟩ := fbd h
  refine Wp.call rfl (by decide) (s_X2_hasPiano_4_ok (d := d + 4) hy ?_)
  show Wp (d + 5, 169, 8, 0, 0, [some (fA 0), some (fI l1), some (fI l2)], [fI y5]) (156, fjl L, M) Q
  refine Wp.br rfl (fun (c : y5 = 0) => ?_) (fun (c : ¬ (y5 = 0)) => ?_)
  · replace h := fps c h
    refine Wp.run 1 (f' := (d + 5, 169, 22, 0, 0, [_, _, _], [fI (-1)])) (h' := (156, fjl L, M)) rfl trivial ?_
    obtain rfl := Option.some.inj h
    exact Wp.done rfl (by decide) H
  · replace h := fng c h
    refine Wp.run 2 (f' := (d + 5, 169, 15, 0, 0, [some (fA 0), some (fI l1), some (fI l2)], [fI 364, fI l2])) (h' := (156, fjl L, M)) rfl trivial ?_
    obtain ⟨y15, hy, h⟩ := fbd h
    refine Wp.call rfl (by decide) (s_X11_isWithin_ok (d := d + 4) hy ?_)
    show Wp (d + 5, 169, 18, 0, 0, [some (fA 0), some (fI l1), some (fI l2)], [fI y15]) (156, fjl L, M) Q
    refine Wp.br rfl (fun (c : ¬ y15 = 0) => ?_) (fun (c : ¬ (¬ y15 = 0)) => ?_)
    · replace h := fps c h
      refine Wp.run 4 (f' := (d + 5, 169, 29, 0, 0, [_, _, _], [fI l2, fI l1, fA 54])) (h' := (156, fjl L, M)) rfl trivial ?_
      obtain ⟨y29, hy, h⟩ := fbd h
      refine Wp.call rfl (by decide) (s_X7_weightOf_ok (d := d + 0) hy ?_)
      show Wp (d + 5, 169, 32, 0, 0, [_, _, _], [fI y29.1]) (156, fjl L, y29.2) Q
      obtain rfl := Option.some.inj h
      exact Wp.done rfl (by decide) H
    · replace h := fng c h
      refine Wp.run 1 (f' := (d + 5, 169, 22, 0, 0, [_, _, _], [fI (-1)])) (h' := (156, fjl L, M)) rfl trivial ?_
      obtain rfl := Option.some.inj h
      exact Wp.done rfl (by decide) H
theorem s_X11_weight_fr {M : fM} {l1 l2 : Int} {r : (Int × fM)} (h : s_X11_weight M l1 l2 = some r) : fSame s_X11_weight_mods M r.2 := by
  unfold s_X11_weight at h
  obtain ⟨y5, hy, h⟩ := fbd h
  by_cases c : y5 = 0
  · replace h := fps c h
    obtain rfl := Option.some.inj h
    exact fs_refl
  · replace h := fng c h
    obtain ⟨y15, hy, h⟩ := fbd h
    by_cases c : ¬ y15 = 0
    · replace h := fps c h
      obtain ⟨y29, hy, h⟩ := fbd h
      have k29 := fs_trans (l := s_X11_weight_mods) fs_refl (fs_mono (l := s_X7_weightOf_mods) (by decide) (s_X7_weightOf_fr hy))
      obtain rfl := Option.some.inj h
      exact k29
    · replace h := fng c h
      obtain rfl := Option.some.inj h
      exact fs_refl
noncomputable def s_X12_isTunedIn_b3 (M : fM) (l1 l2 l3 l4 l5 : Int) : Option (Int ⊕ (Unit ⊕ Int)) :=
  if (M 122 10) ≤ l5 then
    some (.inr (.inl ()))
  else
    (s_X12_isOf M l5 0 l1 l3 l4).bind fun y20 =>
      if y20 = 0 then
        if fin (l5 + 1) then
          some (.inl (l5 + 1))
        else none
      else
        if fin (19 * l5) ∧ fin ((19 * l5) + 2) ∧ (0 ≤ ((19 * l5) + 2) ∧ ((19 * l5) + 2) < 3800) then
          if (M 125 ((19 * l5) + 2).toNat) < l2 then
            if fin (l5 + 1) then
              some (.inl (l5 + 1))
            else none
          else
            some (.inr (.inr 1))
        else none
theorem s_X12_isTunedIn_b3_ok {d L : Nat} {M : fM} {l1 l2 l3 l4 l5 : Int} {r : (Int ⊕ (Unit ⊕ Int))} {Q : fO → fH → Prop} (h : s_X12_isTunedIn_b3 M l1 l2 l3 l4 l5 = some r) (hC : ∀ (l5' : Int), r = .inl l5' → Wp (d + 1, 276, 3, 0, 0, [some (fA 122), some (fI l1), some (fI l2), some (fI l3), some (fI l4), some (fI l5')], []) (156, fjl L, M) Q) (hE : ∀ (e : Unit) (o0' o1' o2' o3' o4' o5' : Option fV), r = .inr (.inl e) → Wp (d + 1, 276, 50, 0, 0, [o0', o1', o2', o3', o4', o5'], []) (156, fjl L, M) Q) (hR : ∀ (v : Int), r = .inr (.inr v) → Q (oI v) (156, fjl L, M)) : Wp (d + 1, 276, 3, 0, 0, [some (fA 122), some (fI l1), some (fI l2), some (fI l3), some (fI l4), some (fI l5)], []) (156, fjl L, M) Q := by
  unfold s_X12_isTunedIn_b3 at h
  refine Wp.run 3 (f' := (d + 1, 276, 9, 0, 0, [some (fA 122), some (fI l1), some (fI l2), some (fI l3), some (fI l4), some (fI l5)], [fI (M 122 10), fI l5])) (h' := (156, fjl L, M)) rfl trivial ?_
  refine Wp.br rfl (fun (c : (M 122 10) ≤ l5) => ?_) (fun (c : ¬ ((M 122 10) ≤ l5)) => ?_)
  · replace h := fps c h
    exact hE _ _ _ _ _ _ _ (Option.some.inj h).symm
  · replace h := fng c h
    refine Wp.run 6 (f' := (d + 1, 276, 20, 0, 0, [some (fA 122), some (fI l1), some (fI l2), some (fI l3), some (fI l4), some (fI l5)], [fI l4, fI l3, fI l1, fI 0, fI l5, fA 122])) (h' := (156, fjl L, M)) rfl trivial ?_
    obtain ⟨y20, hy, h⟩ := fbd h
    refine Wp.call rfl (by decide) (s_X12_isOf_ok (d := d + 0) hy ?_)
    show Wp (d + 1, 276, 23, 0, 0, [some (fA 122), some (fI l1), some (fI l2), some (fI l3), some (fI l4), some (fI l5)], [fI y20]) (156, fjl L, M) Q
    refine Wp.br rfl (fun (c : y20 = 0) => ?_) (fun (c : ¬ (y20 = 0)) => ?_)
    · replace h := fps c h
      obtain ⟨g0, h⟩ := fgd h
      refine Wp.run 2 (f' := (d + 1, 276, 3, 0, 0, [some (fA 122), some (fI l1), some (fI l2), some (fI l3), some (fI l4), some (fI (fw (l5 + 1)))], [])) (h' := (156, fjl L, M)) rfl trivial ?_
      rw [fw_id g0]
      exact hC _ (Option.some.inj h).symm
    · replace h := fng c h
      obtain ⟨⟨g0, g1, g2⟩, h⟩ := fgd h
      refine Wp.run 9 (P := [0 ≤ (fw ((fw (19 * l5)) + 2)) ∧ (fw ((fw (19 * l5)) + 2)) < 3800]) (f' := (d + 1, 276, 39, 0, 0, [some (fA 122), some (fI l1), some (fI l2), some (fI l3), some (fI l4), some (fI l5)], [fI l2, fI (M 125 (fw ((fw (19 * l5)) + 2)).toNat)])) (h' := (156, fjl L, M)) rfl ?_ ?_
      · rw [fw_id g0, fw_id g1]; exact g2
      rw [fw_id g0, fw_id g1]
      refine Wp.br rfl (fun (c : (M 125 ((19 * l5) + 2).toNat) < l2) => ?_) (fun (c : ¬ ((M 125 ((19 * l5) + 2).toNat) < l2)) => ?_)
      · replace h := fps c h
        obtain ⟨g0, h⟩ := fgd h
        refine Wp.run 2 (f' := (d + 1, 276, 3, 0, 0, [some (fA 122), some (fI l1), some (fI l2), some (fI l3), some (fI l4), some (fI (fw (l5 + 1)))], [])) (h' := (156, fjl L, M)) rfl trivial ?_
        rw [fw_id g0]
        exact hC _ (Option.some.inj h).symm
      · replace h := fng c h
        refine Wp.run 1 (f' := (d + 1, 276, 43, 0, 0, [_, _, _, _, _, _], [fI 1])) (h' := (156, fjl L, M)) rfl trivial ?_
        exact Wp.done rfl (by decide) (hR _ (Option.some.inj h).symm)
noncomputable def s_X12_isTunedIn_l3 (M : fM) (l1 l2 l3 l4 : Int) (s : Int) : Option (Unit ⊕ Int) := fLp (fun s => s_X12_isTunedIn_b3 M l1 l2 l3 l4 s) s
theorem s_X12_isTunedIn_l3_ok {d L : Nat} {M : fM} {l1 l2 l3 l4 l5 : Int} {r : (Unit ⊕ Int)} {Q : fO → fH → Prop} (h : s_X12_isTunedIn_l3 M l1 l2 l3 l4 l5 = some r) (hE : ∀ (e : Unit) (o0' o1' o2' o3' o4' o5' : Option fV), r = .inl e → Wp (d + 1, 276, 50, 0, 0, [o0', o1', o2', o3', o4', o5'], []) (156, fjl L, M) Q) (hR : ∀ (v : Int), r = .inr v → Q (oI v) (156, fjl L, M)) : Wp (d + 1, 276, 3, 0, 0, [some (fA 122), some (fI l1), some (fI l2), some (fI l3), some (fI l4), some (fI l5)], []) (156, fjl L, M) Q := by
  refine fLp_wp (W := fun s => Wp (d + 1, 276, 3, 0, 0, [some (fA 122), some (fI l1), some (fI l2), some (fI l3), some (fI l4), some (fI s)], []) (156, fjl L, M) Q) (e := r) ?_ h
  intro s r1 h hC hX
  refine s_X12_isTunedIn_b3_ok (d := d) h (fun a0 e1 => ?_) (fun e u0 u1 u2 u3 u4 u5 e1 => hE e u0 u1 u2 u3 u4 u5 (hX _ e1).symm) (fun v e1 => hR v (hX _ e1).symm)
  exact hC _ e1
noncomputable def s_X12_isTunedIn (M : fM) (l1 l2 l3 l4 : Int) : Option Int :=
  (s_X12_isTunedIn_l3 M l1 l2 l3 l4 0).bind fun e3 =>
    Sum.elim (fun x3 =>
      some 0)
      (fun v3 => some v3) e3
theorem s_X12_isTunedIn_ok {d L : Nat} {M : fM} {l1 l2 l3 l4 : Int} {r : Int} {Q : fO → fH → Prop} (h : s_X12_isTunedIn M l1 l2 l3 l4 = some r) (H : Q (oI r) (156, fjl L, M)) : Wp (d + 1, 276, 0, 0, 0, [some (fA 122), some (fI l1), some (fI l2), some (fI l3), some (fI l4), none], []) (156, fjl L, M) Q := by
  unfold s_X12_isTunedIn at h
  refine Wp.run 2 (f' := (d + 1, 276, 3, 0, 0, [some (fA 122), some (fI l1), some (fI l2), some (fI l3), some (fI l4), some (fI 0)], [])) (h' := (156, fjl L, M)) rfl trivial ?_
  obtain ⟨e3, hy, h⟩ := fbd h
  refine s_X12_isTunedIn_l3_ok hy (fun x3 u0 u1 u2 u3 u4 u5 ex => ?_) (fun v3 ex => ?_)
  · subst ex
    replace h := fsl h
    show Wp (d + 1, 276, 50, 0, 0, [u0, u1, u2, u3, u4, u5], []) (156, fjl L, M) Q
    refine Wp.run 1 (f' := (d + 1, 276, 51, 0, 0, [_, _, _, _, _, _], [fI 0])) (h' := (156, fjl L, M)) rfl trivial ?_
    obtain rfl := Option.some.inj h
    exact Wp.done rfl (by decide) H
  · subst ex
    replace h := fsr h
    obtain rfl := Option.some.inj h
    exact H
abbrev s_X12_isBeyond_mods : List (Nat × Option Nat) := [(122, some 24), (122, some 25), (122, some 26), (122, some 27), (122, some 28), (128, none), (129, none)]
noncomputable def s_X12_isBeyond (M : fM) (l1 l2 l3 : Int) : Option (Int × fM) :=
  (s_X12_course M l1 l2 l3).bind fun y4 =>
    if ¬ y4.1 = 0 then
      (s_X12_passTo y4.2 l2).bind fun y14 =>
        (s_X12_offOf y14.2 l2 0).bind fun y20 =>
          (s_X12_of y14.2 l1 3).bind fun y26 =>
            if y20 ≤ y26 then
              some (0, y14.2)
            else
              some (1, y14.2)
    else
      some (1, y4.2)
theorem s_X12_isBeyond_ok {d L : Nat} {M : fM} {l1 l2 l3 : Int} {r : (Int × fM)} {Q : fO → fH → Prop} (h : s_X12_isBeyond M l1 l2 l3 = some r) (H : Q (oI r.1) (156, fjl L, r.2)) : Wp (d + 3, 261, 0, 0, 0, [some (fA 122), some (fI l1), some (fI l2), some (fI l3)], []) (156, fjl L, M) Q := by
  unfold s_X12_isBeyond at h
  refine Wp.run 4 (f' := (d + 3, 261, 4, 0, 0, [some (fA 122), some (fI l1), some (fI l2), _], [fI l3, fI l2, fI l1, fA 122])) (h' := (156, fjl L, M)) rfl trivial ?_
  obtain ⟨y4, hy, h⟩ := fbd h
  refine Wp.call rfl (by decide) (s_X12_course_ok (d := d + 0) hy ?_)
  show Wp (d + 3, 261, 7, 0, 0, [some (fA 122), some (fI l1), some (fI l2), _], [fI y4.1]) (156, fjl L, y4.2) Q
  refine Wp.br rfl (fun (c : ¬ y4.1 = 0) => ?_) (fun (c : ¬ (¬ y4.1 = 0)) => ?_)
  · replace h := fps c h
    refine Wp.run 2 (f' := (d + 3, 261, 14, 0, 0, [some (fA 122), some (fI l1), some (fI l2), _], [fI l2, fA 122])) (h' := (156, fjl L, y4.2)) rfl trivial ?_
    obtain ⟨y14, hy, h⟩ := fbd h
    refine Wp.call rfl (by decide) (s_X12_passTo_ok (d := d + 0) hy ?_)
    show Wp (d + 3, 261, 17, 0, 0, [some (fA 122), some (fI l1), some (fI l2), _], []) (156, fjl L, y14.2) Q
    refine Wp.run 3 (f' := (d + 3, 261, 20, 0, 0, [some (fA 122), some (fI l1), _, _], [fI 0, fI l2, fA 122])) (h' := (156, fjl L, y14.2)) rfl trivial ?_
    obtain ⟨y20, hy, h⟩ := fbd h
    refine Wp.call rfl (by decide) (s_X12_offOf_ok (d := d + 1) hy ?_)
    show Wp (d + 3, 261, 23, 0, 0, [some (fA 122), some (fI l1), _, _], [fI y20]) (156, fjl L, y14.2) Q
    refine Wp.run 3 (f' := (d + 3, 261, 26, 0, 0, [_, _, _, _], [fI 3, fI l1, fA 122, fI y20])) (h' := (156, fjl L, y14.2)) rfl trivial ?_
    obtain ⟨y26, hy, h⟩ := fbd h
    refine Wp.call rfl (by decide) (s_X12_of_ok (d := d + 2) hy ?_)
    show Wp (d + 3, 261, 29, 0, 0, [_, _, _, _], [fI y26, fI y20]) (156, fjl L, y14.2) Q
    refine Wp.br rfl (fun (c : y20 ≤ y26) => ?_) (fun (c : ¬ (y20 ≤ y26)) => ?_)
    · replace h := fps c h
      refine Wp.run 1 (f' := (d + 3, 261, 37, 0, 0, [_, _, _, _], [fI 0])) (h' := (156, fjl L, y14.2)) rfl trivial ?_
      obtain rfl := Option.some.inj h
      exact Wp.done rfl (by decide) H
    · replace h := fng c h
      refine Wp.run 2 (f' := (d + 3, 261, 37, 0, 0, [_, _, _, _], [fI 1])) (h' := (156, fjl L, y14.2)) rfl trivial ?_
      obtain rfl := Option.some.inj h
      exact Wp.done rfl (by decide) H
  · replace h := fng c h
    refine Wp.run 1 (f' := (d + 3, 261, 11, 0, 0, [_, _, _, _], [fI 1])) (h' := (156, fjl L, y4.2)) rfl trivial ?_
    obtain rfl := Option.some.inj h
    exact Wp.done rfl (by decide) H
theorem s_X12_isBeyond_fr {M : fM} {l1 l2 l3 : Int} {r : (Int × fM)} (h : s_X12_isBeyond M l1 l2 l3 = some r) : fSame s_X12_isBeyond_mods M r.2 := by
  unfold s_X12_isBeyond at h
  obtain ⟨y4, hy, h⟩ := fbd h
  have k4 := fs_trans (l := s_X12_isBeyond_mods) fs_refl (fs_mono (l := s_X12_course_mods) (by decide) (s_X12_course_fr hy))
  by_cases c : ¬ y4.1 = 0
  · replace h := fps c h
    obtain ⟨y14, hy, h⟩ := fbd h
    have k14 := fs_trans (l := s_X12_isBeyond_mods) k4 (fs_mono (l := s_X12_passTo_mods) (by decide) (s_X12_passTo_fr hy))
    obtain ⟨y20, hy, h⟩ := fbd h
    obtain ⟨y26, hy, h⟩ := fbd h
    by_cases c : y20 ≤ y26
    · replace h := fps c h
      obtain rfl := Option.some.inj h
      exact k14
    · replace h := fng c h
      obtain rfl := Option.some.inj h
      exact k14
  · replace h := fng c h
    obtain rfl := Option.some.inj h
    exact k4
abbrev s_X12_weightOf_mods : List (Nat × Option Nat) := [(122, some 24), (122, some 25), (122, some 26), (122, some 27), (122, some 28), (128, none), (129, none)]
noncomputable def s_X12_weightOf_b5 (M : fM) (l1 l2 l3 l4 : Int) : Option ((Int × Int) ⊕ Int) :=
  if (M 122 10) ≤ l4 then
    some (.inr l3)
  else
    if ¬ l3 = 0 then
      if fin (l4 + 1) then
        some (.inl (1, (l4 + 1)))
      else none
    else
      if fin (l2 + 1) then
        (s_X12_isOf M l4 5 l1 (l2 + 1) l2).bind fun y27 =>
          if y27 = 0 then
            if fin (l4 + 1) then
              some (.inl (0, (l4 + 1)))
            else none
          else
            if fin (19 * l4) ∧ fin ((19 * l4) + 2) ∧ (0 ≤ ((19 * l4) + 2) ∧ ((19 * l4) + 2) < 3800) then
              if (M 125 ((19 * l4) + 2).toNat) < l2 then
                if fin (l4 + 1) then
                  some (.inl (0, (l4 + 1)))
                else none
              else
                if fin (l4 + 1) then
                  some (.inl (1, (l4 + 1)))
                else none
            else none
      else none
theorem s_X12_weightOf_b5_ok {d L : Nat} {M : fM} {l1 l2 l3 l4 : Int} {r : ((Int × Int) ⊕ Int)} {Q : fO → fH → Prop} (h : s_X12_weightOf_b5 M l1 l2 l3 l4 = some r) (hC : ∀ (l3' l4' : Int), r = .inl (l3', l4') → Wp (d + 4, 277, 5, 0, 0, [some (fA 122), some (fI l1), some (fI l2), some (fI l3'), some (fI l4')], []) (156, fjl L, M) Q) (hE : ∀ (e : Int) (o4' : Option fV), r = .inr e → Wp (d + 4, 277, 61, 0, 0, [some (fA 122), some (fI l1), some (fI l2), some (fI e), o4'], []) (156, fjl L, M) Q) : Wp (d + 4, 277, 5, 0, 0, [some (fA 122), some (fI l1), some (fI l2), some (fI l3), some (fI l4)], []) (156, fjl L, M) Q := by
  unfold s_X12_weightOf_b5 at h
  refine Wp.run 3 (f' := (d + 4, 277, 11, 0, 0, [some (fA 122), some (fI l1), some (fI l2), some (fI l3), some (fI l4)], [fI (M 122 10), fI l4])) (h' := (156, fjl L, M)) rfl trivial ?_
  refine Wp.br rfl (fun (c : (M 122 10) ≤ l4) => ?_) (fun (c : ¬ ((M 122 10) ≤ l4)) => ?_)
  · replace h := fps c h
    exact hE _ _ (Option.some.inj h).symm
  · replace h := fng c h
    refine Wp.run 1 (f' := (d + 4, 277, 15, 0, 0, [some (fA 122), some (fI l1), some (fI l2), _, some (fI l4)], [fI l3])) (h' := (156, fjl L, M)) rfl trivial ?_
    refine Wp.br rfl (fun (c : ¬ l3 = 0) => ?_) (fun (c : ¬ (¬ l3 = 0)) => ?_)
    · replace h := fps c h
      obtain ⟨g0, h⟩ := fgd h
      refine Wp.run 5 (f' := (d + 4, 277, 5, 0, 0, [some (fA 122), some (fI l1), some (fI l2), some (fI 1), some (fI (fw (l4 + 1)))], [])) (h' := (156, fjl L, M)) rfl trivial ?_
      rw [fw_id g0]
      exact hC _ _ (Option.some.inj h).symm
    · replace h := fng c h
      obtain ⟨g0, h⟩ := fgd h
      refine Wp.run 8 (f' := (d + 4, 277, 27, 0, 0, [some (fA 122), some (fI l1), some (fI l2), _, some (fI l4)], [fI l2, fI (fw (l2 + 1)), fI l1, fI 5, fI l4, fA 122])) (h' := (156, fjl L, M)) rfl trivial ?_
      rw [fw_id g0]
      obtain ⟨y27, hy, h⟩ := fbd h
      refine Wp.call rfl (by decide) (s_X12_isOf_ok (d := d + 3) hy ?_)
      show Wp (d + 4, 277, 30, 0, 0, [some (fA 122), some (fI l1), some (fI l2), _, some (fI l4)], [fI y27]) (156, fjl L, M) Q
      refine Wp.br rfl (fun (c : y27 = 0) => ?_) (fun (c : ¬ (y27 = 0)) => ?_)
      · replace h := fps c h
        obtain ⟨g0, h⟩ := fgd h
        refine Wp.run 4 (f' := (d + 4, 277, 5, 0, 0, [some (fA 122), some (fI l1), some (fI l2), some (fI 0), some (fI (fw (l4 + 1)))], [])) (h' := (156, fjl L, M)) rfl trivial ?_
        rw [fw_id g0]
        exact hC _ _ (Option.some.inj h).symm
      · replace h := fng c h
        obtain ⟨⟨g0, g1, g2⟩, h⟩ := fgd h
        refine Wp.run 9 (P := [0 ≤ (fw ((fw (19 * l4)) + 2)) ∧ (fw ((fw (19 * l4)) + 2)) < 3800]) (f' := (d + 4, 277, 46, 0, 0, [some (fA 122), some (fI l1), some (fI l2), _, some (fI l4)], [fI l2, fI (M 125 (fw ((fw (19 * l4)) + 2)).toNat)])) (h' := (156, fjl L, M)) rfl ?_ ?_
        · rw [fw_id g0, fw_id g1]; exact g2
        rw [fw_id g0, fw_id g1]
        refine Wp.br rfl (fun (c : (M 125 ((19 * l4) + 2).toNat) < l2) => ?_) (fun (c : ¬ ((M 125 ((19 * l4) + 2).toNat) < l2)) => ?_)
        · replace h := fps c h
          obtain ⟨g0, h⟩ := fgd h
          refine Wp.run 4 (f' := (d + 4, 277, 5, 0, 0, [some (fA 122), some (fI l1), some (fI l2), some (fI 0), some (fI (fw (l4 + 1)))], [])) (h' := (156, fjl L, M)) rfl trivial ?_
          rw [fw_id g0]
          exact hC _ _ (Option.some.inj h).symm
        · replace h := fng c h
          obtain ⟨g0, h⟩ := fgd h
          refine Wp.run 5 (f' := (d + 4, 277, 5, 0, 0, [some (fA 122), some (fI l1), some (fI l2), some (fI 1), some (fI (fw (l4 + 1)))], [])) (h' := (156, fjl L, M)) rfl trivial ?_
          rw [fw_id g0]
          exact hC _ _ (Option.some.inj h).symm
theorem s_X12_weightOf_b5_fr {M : fM} {l1 l2 l3 l4 : Int} {r : ((Int × Int) ⊕ Int)} (h : s_X12_weightOf_b5 M l1 l2 l3 l4 = some r) : fSame s_X12_weightOf_mods M (Sum.elim (fun _ => M) (fun _ => M) r) := by
  unfold s_X12_weightOf_b5 at h
  by_cases c : (M 122 10) ≤ l4
  · replace h := fps c h
    obtain rfl := Option.some.inj h
    exact fs_refl
  · replace h := fng c h
    by_cases c : ¬ l3 = 0
    · replace h := fps c h
      replace h := (fgd h).2
      obtain rfl := Option.some.inj h
      exact fs_refl
    · replace h := fng c h
      replace h := (fgd h).2
      obtain ⟨y27, hy, h⟩ := fbd h
      by_cases c : y27 = 0
      · replace h := fps c h
        replace h := (fgd h).2
        obtain rfl := Option.some.inj h
        exact fs_refl
      · replace h := fng c h
        replace h := (fgd h).2
        by_cases c : (M 125 ((19 * l4) + 2).toNat) < l2
        · replace h := fps c h
          replace h := (fgd h).2
          obtain rfl := Option.some.inj h
          exact fs_refl
        · replace h := fng c h
          replace h := (fgd h).2
          obtain rfl := Option.some.inj h
          exact fs_refl
noncomputable def s_X12_weightOf_l5 (M : fM) (l1 l2 : Int) (s : (Int × Int)) : Option Int := fLp (fun s => s_X12_weightOf_b5 M l1 l2 s.1 s.2) s
theorem s_X12_weightOf_l5_ok {d L : Nat} {M : fM} {l1 l2 l3 l4 : Int} {r : Int} {Q : fO → fH → Prop} (h : s_X12_weightOf_l5 M l1 l2 (l3, l4) = some r) (hE : ∀ (e : Int) (o4' : Option fV), r = e → Wp (d + 4, 277, 61, 0, 0, [some (fA 122), some (fI l1), some (fI l2), some (fI e), o4'], []) (156, fjl L, M) Q) : Wp (d + 4, 277, 5, 0, 0, [some (fA 122), some (fI l1), some (fI l2), some (fI l3), some (fI l4)], []) (156, fjl L, M) Q := by
  refine fLp_wp (W := fun s => Wp (d + 4, 277, 5, 0, 0, [some (fA 122), some (fI l1), some (fI l2), some (fI s.1), some (fI s.2)], []) (156, fjl L, M) Q) (e := r) ?_ h
  intro s r1 h hC hX
  refine s_X12_weightOf_b5_ok (d := d) h (fun a0 a1 e1 => ?_) (fun e u0 e1 => hE e u0 (hX _ e1).symm)
  exact hC _ e1
noncomputable def s_X12_weightOf_j81 (M : fM) (l1 l2 : Int) : Option (Int × fM) :=
  (s_X12_isBeyond M l1 l2 l2).bind fun y85 =>
    if y85.1 = 0 then
      some (1, y85.2)
    else
      some (10, y85.2)
theorem s_X12_weightOf_j81_ok {d L : Nat} {M : fM} {l1 l2 : Int} {o3 o4 : Option fV} {r : (Int × fM)} {Q : fO → fH → Prop} (h : s_X12_weightOf_j81 M l1 l2 = some r) (H : Q (oI r.1) (156, fjl L, r.2)) : Wp (d + 4, 277, 81, 0, 0, [some (fA 122), some (fI l1), some (fI l2), o3, o4], []) (156, fjl L, M) Q := by
  unfold s_X12_weightOf_j81 at h
  refine Wp.run 4 (f' := (d + 4, 277, 85, 0, 0, [_, _, _, _, _], [fI l2, fI l2, fI l1, fA 122])) (h' := (156, fjl L, M)) rfl trivial ?_
  obtain ⟨y85, hy, h⟩ := fbd h
  refine Wp.call rfl (by decide) (s_X12_isBeyond_ok (d := d + 0) hy ?_)
  show Wp (d + 4, 277, 88, 0, 0, [_, _, _, _, _], [fI y85.1]) (156, fjl L, y85.2) Q
  refine Wp.br rfl (fun (c : y85.1 = 0) => ?_) (fun (c : ¬ (y85.1 = 0)) => ?_)
  · replace h := fps c h
    refine Wp.run 1 (f' := (d + 4, 277, 97, 0, 0, [_, _, _, _, _], [fI 1])) (h' := (156, fjl L, y85.2)) rfl trivial ?_
    obtain rfl := Option.some.inj h
    exact Wp.done rfl (by decide) H
  · replace h := fng c h
    refine Wp.run 2 (f' := (d + 4, 277, 97, 0, 0, [_, _, _, _, _], [fI 10])) (h' := (156, fjl L, y85.2)) rfl trivial ?_
    obtain rfl := Option.some.inj h
    exact Wp.done rfl (by decide) H
theorem s_X12_weightOf_j81_fr {M : fM} {l1 l2 : Int} {r : (Int × fM)} (h : s_X12_weightOf_j81 M l1 l2 = some r) : fSame s_X12_weightOf_mods M r.2 := by
  unfold s_X12_weightOf_j81 at h
  obtain ⟨y85, hy, h⟩ := fbd h
  have k85 := fs_trans (l := s_X12_weightOf_mods) fs_refl (fs_mono (l := s_X12_isBeyond_mods) (by decide) (s_X12_isBeyond_fr hy))
  by_cases c : y85.1 = 0
  · replace h := fps c h
    obtain rfl := Option.some.inj h
    exact k85
  · replace h := fng c h
    obtain rfl := Option.some.inj h
    exact k85
noncomputable def s_X12_weightOf (M : fM) (l1 l2 : Int) : Option (Int × fM) :=
  (s_X12_weightOf_l5 M l1 l2 (0, 0)).bind fun e5 =>
    if e5 = 0 then
      s_X12_weightOf_j81 M l1 l2
    else
      if fin (l2 - 1) then
        (s_X12_isTunedIn M l1 (l2 - 1) l2 l2).bind fun y72 =>
          if ¬ y72 = 0 then
            s_X12_weightOf_j81 M l1 l2
          else
            some (50, M)
      else none
theorem s_X12_weightOf_ok {d L : Nat} {M : fM} {l1 l2 : Int} {r : (Int × fM)} {Q : fO → fH → Prop} (h : s_X12_weightOf M l1 l2 = some r) (H : Q (oI r.1) (156, fjl L, r.2)) : Wp (d + 4, 277, 0, 0, 0, [some (fA 122), some (fI l1), some (fI l2), none, none], []) (156, fjl L, M) Q := by
  unfold s_X12_weightOf at h
  refine Wp.run 4 (f' := (d + 4, 277, 5, 0, 0, [some (fA 122), some (fI l1), some (fI l2), some (fI 0), some (fI 0)], [])) (h' := (156, fjl L, M)) rfl trivial ?_
  obtain ⟨e5, hy, h⟩ := fbd h
  refine s_X12_weightOf_l5_ok hy (fun x u4 ex => ?_)
  cases ex
  show Wp (d + 4, 277, 61, 0, 0, [some (fA 122), some (fI l1), some (fI l2), some (fI e5), u4], []) (156, fjl L, M) Q
  refine Wp.run 1 (f' := (d + 4, 277, 62, 0, 0, [some (fA 122), some (fI l1), some (fI l2), _, _], [fI e5])) (h' := (156, fjl L, M)) rfl trivial ?_
  refine Wp.br rfl (fun (c : e5 = 0) => ?_) (fun (c : ¬ (e5 = 0)) => ?_)
  · replace h := fps c h
    exact s_X12_weightOf_j81_ok h H
  · replace h := fng c h
    obtain ⟨g0, h⟩ := fgd h
    refine Wp.run 7 (f' := (d + 4, 277, 72, 0, 0, [some (fA 122), some (fI l1), some (fI l2), _, _], [fI l2, fI l2, fI (fw (l2 - 1)), fI l1, fA 122])) (h' := (156, fjl L, M)) rfl trivial ?_
    rw [fw_id g0]
    obtain ⟨y72, hy, h⟩ := fbd h
    refine Wp.call rfl (by decide) (s_X12_isTunedIn_ok (d := d + 2) hy ?_)
    show Wp (d + 4, 277, 75, 0, 0, [some (fA 122), some (fI l1), some (fI l2), _, _], [fI y72]) (156, fjl L, M) Q
    refine Wp.br rfl (fun (c : ¬ y72 = 0) => ?_) (fun (c : ¬ (¬ y72 = 0)) => ?_)
    · replace h := fps c h
      exact s_X12_weightOf_j81_ok h H
    · replace h := fng c h
      refine Wp.run 1 (f' := (d + 4, 277, 80, 0, 0, [_, _, _, _, _], [fI 50])) (h' := (156, fjl L, M)) rfl trivial ?_
      obtain rfl := Option.some.inj h
      exact Wp.done rfl (by decide) H
theorem s_X12_weightOf_fr {M : fM} {l1 l2 : Int} {r : (Int × fM)} (h : s_X12_weightOf M l1 l2 = some r) : fSame s_X12_weightOf_mods M r.2 := by
  unfold s_X12_weightOf at h
  obtain ⟨e5, hy, h⟩ := fbd h
  by_cases c : e5 = 0
  · replace h := fps c h
    exact fs_trans fs_refl (s_X12_weightOf_j81_fr h)
  · replace h := fng c h
    replace h := (fgd h).2
    obtain ⟨y72, hy, h⟩ := fbd h
    by_cases c : ¬ y72 = 0
    · replace h := fps c h
      exact fs_trans fs_refl (s_X12_weightOf_j81_fr h)
    · replace h := fng c h
      obtain rfl := Option.some.inj h
      exact fs_refl
abbrev s_X12_weight_mods : List (Nat × Option Nat) := [(122, some 0), (122, some 24), (122, some 25), (122, some 26), (122, some 27), (122, some 28), (128, none), (129, none)]
noncomputable def s_X12_weight (M : fM) (l1 l2 : Int) : Option (Int × fM) :=
  (s_X12_isPiano (fup M 122 0 0) l1).bind fun y7 =>
    if y7 = 0 then
      some ((-1), (fup M 122 0 0))
    else
      (s_X12_isDay (fup M 122 0 0) l2).bind fun y14 =>
        if y14 = 0 then
          some ((-1), (fup M 122 0 0))
        else
          (s_X12_weightOf (fup M 122 0 0) l1 l2).bind fun y23 =>
            some (y23.1, y23.2)
theorem s_X12_weight_ok {d L : Nat} {M : fM} {l1 l2 : Int} {r : (Int × fM)} {Q : fO → fH → Prop} (h : s_X12_weight M l1 l2 = some r) (H : Q (oI r.1) (156, fjl L, r.2)) : Wp (d + 5, 278, 0, 0, 0, [some (fA 122), some (fI l1), some (fI l2)], []) (156, fjl L, M) Q := by
  unfold s_X12_weight at h
  refine Wp.run 5 (f' := (d + 5, 278, 7, 0, 0, [some (fA 122), some (fI l1), some (fI l2)], [fI l1, fA 122])) (h' := (156, fjl L, (fup M 122 0 0))) rfl trivial ?_
  obtain ⟨y7, hy, h⟩ := fbd h
  refine Wp.call rfl (by decide) (s_X12_isPiano_ok (d := d + 3) hy ?_)
  show Wp (d + 5, 278, 10, 0, 0, [some (fA 122), some (fI l1), some (fI l2)], [fI y7]) (156, fjl L, (fup M 122 0 0)) Q
  refine Wp.br rfl (fun (c : y7 = 0) => ?_) (fun (c : ¬ (y7 = 0)) => ?_)
  · replace h := fps c h
    refine Wp.run 1 (f' := (d + 5, 278, 30, 0, 0, [_, _, _], [fI (-1)])) (h' := (156, fjl L, (fup M 122 0 0))) rfl trivial ?_
    obtain rfl := Option.some.inj h
    exact Wp.done rfl (by decide) H
  · replace h := fng c h
    refine Wp.run 1 (f' := (d + 5, 278, 14, 0, 0, [some (fA 122), some (fI l1), some (fI l2)], [fI l2])) (h' := (156, fjl L, (fup M 122 0 0))) rfl trivial ?_
    obtain ⟨y14, hy, h⟩ := fbd h
    refine Wp.call rfl (by decide) (s_X12_isDay_ok (d := d + 3) hy ?_)
    show Wp (d + 5, 278, 17, 0, 0, [some (fA 122), some (fI l1), some (fI l2)], [fI y14]) (156, fjl L, (fup M 122 0 0)) Q
    refine Wp.br rfl (fun (c : y14 = 0) => ?_) (fun (c : ¬ (y14 = 0)) => ?_)
    · replace h := fps c h
      refine Wp.run 1 (f' := (d + 5, 278, 30, 0, 0, [_, _, _], [fI (-1)])) (h' := (156, fjl L, (fup M 122 0 0))) rfl trivial ?_
      obtain rfl := Option.some.inj h
      exact Wp.done rfl (by decide) H
    · replace h := fng c h
      refine Wp.run 3 (f' := (d + 5, 278, 23, 0, 0, [_, _, _], [fI l2, fI l1, fA 122])) (h' := (156, fjl L, (fup M 122 0 0))) rfl trivial ?_
      obtain ⟨y23, hy, h⟩ := fbd h
      refine Wp.call rfl (by decide) (s_X12_weightOf_ok (d := d + 0) hy ?_)
      show Wp (d + 5, 278, 26, 0, 0, [_, _, _], [fI y23.1]) (156, fjl L, y23.2) Q
      refine Wp.run 1 (f' := (d + 5, 278, 30, 0, 0, [_, _, _], [fI y23.1])) (h' := (156, fjl L, y23.2)) rfl trivial ?_
      obtain rfl := Option.some.inj h
      exact Wp.done rfl (by decide) H
theorem s_X12_weight_fr {M : fM} {l1 l2 : Int} {r : (Int × fM)} (h : s_X12_weight M l1 l2 = some r) : fSame s_X12_weight_mods M r.2 := by
  unfold s_X12_weight at h
  obtain ⟨y7, hy, h⟩ := fbd h
  by_cases c : y7 = 0
  · replace h := fps c h
    obtain rfl := Option.some.inj h
    exact fs_up fs_refl (.inr (by decide))
  · replace h := fng c h
    obtain ⟨y14, hy, h⟩ := fbd h
    by_cases c : y14 = 0
    · replace h := fps c h
      obtain rfl := Option.some.inj h
      exact fs_up fs_refl (.inr (by decide))
    · replace h := fng c h
      obtain ⟨y23, hy, h⟩ := fbd h
      have k23 := fs_trans (l := s_X12_weight_mods) (fs_up fs_refl (.inr (by decide))) (fs_mono (l := s_X12_weightOf_mods) (by decide) (s_X12_weightOf_fr hy))
      obtain rfl := Option.some.inj h
      exact k23
abbrev s_X10_movePianos_55_mods : List (Nat × Option Nat) := [(1, some 2), (55, none)]
noncomputable def s_X10_movePianos_55_b24 (M : fM) (l2 l3 l4 l5 : Int) : Option ((Int × Int × fM) ⊕ (fM ⊕ (Int × fM))) :=
  if l3 ≤ l5 then
    some (.inr (.inl M))
  else
    if (0 ≤ l5 ∧ l5 < 1240) then
      if l2 ≤ (fand (M 2 (l5).toNat) 255) then
        some (.inr (.inr ((-1), M)))
      else
        if ¬ (fand (fshr l4 (fand (M 2 (l5).toNat) 255)) 1) = 1 then
          if (0 ≤ l5 ∧ l5 < 9) ∧ fin (l5 + 1) then
            some (.inl ((fior l4 (fshl 1 (fand (M 2 (l5).toNat) 255))), (l5 + 1), (fup M 55 (l5).toNat (fand (M 2 (l5).toNat) 255))))
          else none
        else
          some (.inr (.inr ((-1), M)))
    else none
theorem s_X10_movePianos_55_b24_ok {d L : Nat} {M : fM} {l2 l3 l4 l5 : Int} {o6 : Option fV} {r : ((Int × Int × fM) ⊕ (fM ⊕ (Int × fM)))} {Q : fO → fH → Prop} (h : s_X10_movePianos_55_b24 M l2 l3 l4 l5 = some r) (hC : ∀ (l4' l5' : Int) (M' : fM) (o6' : Option fV), r = .inl (l4', l5', M') → Wp (d + 0, 136, 24, 0, 0, [some (fA 1), some (fA 55), some (fI l2), some (fI l3), some (fI l4'), some (fI l5'), o6'], []) (156, fjl L, M') Q) (hE : ∀ (e : fM) (o0' o1' o2' o4' o5' o6' : Option fV), r = .inr (.inl e) → Wp (d + 0, 136, 83, 0, 0, [o0', o1', o2', some (fI l3), o4', o5', o6'], []) (156, fjl L, e) Q) (hR : ∀ (v : (Int × fM)), r = .inr (.inr v) → Q (oI v.1) (156, fjl L, v.2)) : Wp (d + 0, 136, 24, 0, 0, [some (fA 1), some (fA 55), some (fI l2), some (fI l3), some (fI l4), some (fI l5), o6], []) (156, fjl L, M) Q := by
  unfold s_X10_movePianos_55_b24 at h
  refine Wp.run 2 (f' := (d + 0, 136, 27, 0, 0, [some (fA 1), some (fA 55), some (fI l2), some (fI l3), some (fI l4), some (fI l5), _], [fI l3, fI l5])) (h' := (156, fjl L, M)) rfl trivial ?_
  refine Wp.br rfl (fun (c : l3 ≤ l5) => ?_) (fun (c : ¬ (l3 ≤ l5)) => ?_)
  · replace h := fps c h
    exact hE _ _ _ _ _ _ _ (Option.some.inj h).symm
  · replace h := fng c h
    obtain ⟨g0, h⟩ := fgd h
    refine Wp.run 9 (P := [0 ≤ l5 ∧ l5 < 1240]) (f' := (d + 0, 136, 46, 0, 0, [some (fA 1), some (fA 55), some (fI l2), some (fI l3), some (fI l4), some (fI l5), some (fI (fand (M 2 (l5).toNat) 255))], [fI l2, fI (fand (M 2 (l5).toNat) 255)])) (h' := (156, fjl L, M)) rfl ?_ ?_
    · exact g0
    refine Wp.br rfl (fun (c : l2 ≤ (fand (M 2 (l5).toNat) 255)) => ?_) (fun (c : ¬ (l2 ≤ (fand (M 2 (l5).toNat) 255))) => ?_)
    · replace h := fps c h
      refine Wp.run 1 (f' := (d + 0, 136, 61, 0, 0, [_, _, _, _, _, _, _], [fI (-1)])) (h' := (156, fjl L, M)) rfl trivial ?_
      exact Wp.done rfl (by decide) (hR _ (Option.some.inj h).symm)
    · replace h := fng c h
      refine Wp.run 6 (f' := (d + 0, 136, 57, 0, 0, [some (fA 1), some (fA 55), some (fI l2), some (fI l3), some (fI l4), some (fI l5), some (fI (fand (M 2 (l5).toNat) 255))], [fI 1, fI (fand (fshr l4 (fand (M 2 (l5).toNat) 255)) 1)])) (h' := (156, fjl L, M)) rfl trivial ?_
      refine Wp.br rfl (fun (c : ¬ (fand (fshr l4 (fand (M 2 (l5).toNat) 255)) 1) = 1) => ?_) (fun (c : ¬ (¬ (fand (fshr l4 (fand (M 2 (l5).toNat) 255)) 1) = 1)) => ?_)
      · replace h := fps c h
        obtain ⟨⟨g0, g1⟩, h⟩ := fgd h
        refine Wp.run 12 (P := [0 ≤ l5 ∧ l5 < 9]) (f' := (d + 0, 136, 24, 0, 0, [some (fA 1), some (fA 55), some (fI l2), some (fI l3), some (fI (fior l4 (fshl 1 (fand (M 2 (l5).toNat) 255)))), some (fI (fw (l5 + 1))), _], [])) (h' := (156, fjl L, (fup M 55 (l5).toNat (fand (M 2 (l5).toNat) 255)))) rfl ?_ ?_
        · exact g0
        rw [fw_id g1]
        exact hC _ _ _ _ (Option.some.inj h).symm
      · replace h := fng c h
        refine Wp.run 1 (f' := (d + 0, 136, 61, 0, 0, [_, _, _, _, _, _, _], [fI (-1)])) (h' := (156, fjl L, M)) rfl trivial ?_
        exact Wp.done rfl (by decide) (hR _ (Option.some.inj h).symm)
theorem s_X10_movePianos_55_b24_fr {M : fM} {l2 l3 l4 l5 : Int} {r : ((Int × Int × fM) ⊕ (fM ⊕ (Int × fM)))} (h : s_X10_movePianos_55_b24 M l2 l3 l4 l5 = some r) : fSame s_X10_movePianos_55_mods M (Sum.elim (fun s => s.2.2) (Sum.elim (fun e => e) (fun v => v.2)) r) := by
  unfold s_X10_movePianos_55_b24 at h
  by_cases c : l3 ≤ l5
  · replace h := fps c h
    obtain rfl := Option.some.inj h
    exact fs_refl
  · replace h := fng c h
    replace h := (fgd h).2
    by_cases c : l2 ≤ (fand (M 2 (l5).toNat) 255)
    · replace h := fps c h
      obtain rfl := Option.some.inj h
      exact fs_refl
    · replace h := fng c h
      by_cases c : ¬ (fand (fshr l4 (fand (M 2 (l5).toNat) 255)) 1) = 1
      · replace h := fps c h
        replace h := (fgd h).2
        obtain rfl := Option.some.inj h
        exact fs_up fs_refl (.inl (by decide))
      · replace h := fng c h
        obtain rfl := Option.some.inj h
        exact fs_refl
noncomputable def s_X10_movePianos_55_l24 (l2 l3 : Int) (s : (Int × Int × fM)) : Option (fM ⊕ (Int × fM)) := fLp (fun s => s_X10_movePianos_55_b24 s.2.2 l2 l3 s.1 s.2.1) s
theorem s_X10_movePianos_55_l24_ok {d L : Nat} {M : fM} {l2 l3 l4 l5 : Int} {o6 : Option fV} {r : (fM ⊕ (Int × fM))} {Q : fO → fH → Prop} (h : s_X10_movePianos_55_l24 l2 l3 (l4, l5, M) = some r) (hE : ∀ (e : fM) (o0' o1' o2' o4' o5' o6' : Option fV), r = .inl e → Wp (d + 0, 136, 83, 0, 0, [o0', o1', o2', some (fI l3), o4', o5', o6'], []) (156, fjl L, e) Q) (hR : ∀ (v : (Int × fM)), r = .inr v → Q (oI v.1) (156, fjl L, v.2)) : Wp (d + 0, 136, 24, 0, 0, [some (fA 1), some (fA 55), some (fI l2), some (fI l3), some (fI l4), some (fI l5), o6], []) (156, fjl L, M) Q := by
  refine fLp_wp (W := fun s => ∀ (o6 : Option fV), Wp (d + 0, 136, 24, 0, 0, [some (fA 1), some (fA 55), some (fI l2), some (fI l3), some (fI s.1), some (fI s.2.1), o6], []) (156, fjl L, s.2.2) Q) (e := r) ?_ h _
  intro s r1 h hC hX o6
  refine s_X10_movePianos_55_b24_ok (d := d) h (fun a0 a1 a2 _ e1 => ?_) (fun e u0 u1 u2 u3 u4 u5 e1 => hE e u0 u1 u2 u3 u4 u5 (hX _ e1).symm) (fun v e1 => hR v (hX _ e1).symm)
  exact hC _ e1 _
theorem s_X10_movePianos_55_l24_fr {M : fM} {l2 l3 l4 l5 : Int} {r : (fM ⊕ (Int × fM))} (h : s_X10_movePianos_55_l24 l2 l3 (l4, l5, M) = some r) : fSame s_X10_movePianos_55_mods M ((Sum.elim (fun e => e) (fun v => v.2)) r) := by
  refine fLp_inv (I := fun s => fSame s_X10_movePianos_55_mods M s.2.2) (J := fun r => fSame s_X10_movePianos_55_mods M ((Sum.elim (fun e => e) (fun v => v.2)) r)) h fs_refl (fun s s1 hs hb => ?_) (fun s e hs hb => ?_)
  · exact fs_trans hs (s_X10_movePianos_55_b24_fr hb)
  · exact fs_trans hs (s_X10_movePianos_55_b24_fr hb)
noncomputable def s_X10_movePianos_55 (M : fM) (l2 : Int) : Option (Int × fM) :=
  if (M 1 2) ≤ 9 then
    (s_X10_movePianos_55_l24 l2 (M 1 2) (0, 0, (fup M 1 2 0))).bind fun e24 =>
      Sum.elim (fun x24 =>
        some ((M 1 2), x24))
        (fun v24 => some v24) e24
  else
    some ((-1), (fup M 1 2 0))
theorem s_X10_movePianos_55_ok {d L : Nat} {M : fM} {l2 : Int} {r : (Int × fM)} {Q : fO → fH → Prop} (h : s_X10_movePianos_55 M l2 = some r) (H : Q (oI r.1) (156, fjl L, r.2)) : Wp (d + 0, 136, 0, 0, 0, [some (fA 1), some (fA 55), some (fI l2), none, none, none, none], []) (156, fjl L, M) Q := by
  unfold s_X10_movePianos_55 at h
  refine Wp.run 9 (f' := (d + 0, 136, 13, 0, 0, [some (fA 1), some (fA 55), some (fI l2), some (fI (M 1 2)), _, _, _], [fI 9, fI (M 1 2)])) (h' := (156, fjl L, (fup M 1 2 0))) rfl trivial ?_
  refine Wp.br rfl (fun (c : (M 1 2) ≤ 9) => ?_) (fun (c : ¬ ((M 1 2) ≤ 9)) => ?_)
  · replace h := fps c h
    refine Wp.run 4 (f' := (d + 0, 136, 24, 0, 0, [some (fA 1), some (fA 55), some (fI l2), some (fI (M 1 2)), some (fI 0), some (fI 0), _], [])) (h' := (156, fjl L, (fup M 1 2 0))) rfl trivial ?_
    obtain ⟨e24, hy, h⟩ := fbd h
    refine s_X10_movePianos_55_l24_ok hy (fun x24 u0 u1 u2 u4 u5 u6 ex => ?_) (fun v24 ex => ?_)
    · subst ex
      replace h := fsl h
      show Wp (d + 0, 136, 83, 0, 0, [u0, u1, u2, some (fI (M 1 2)), u4, u5, u6], []) (156, fjl L, x24) Q
      refine Wp.run 1 (f' := (d + 0, 136, 84, 0, 0, [_, _, _, _, _, _, _], [fI (M 1 2)])) (h' := (156, fjl L, x24)) rfl trivial ?_
      obtain rfl := Option.some.inj h
      exact Wp.done rfl (by decide) H
    · subst ex
      replace h := fsr h
      obtain rfl := Option.some.inj h
      exact H
  · replace h := fng c h
    refine Wp.run 1 (f' := (d + 0, 136, 17, 0, 0, [_, _, _, _, _, _, _], [fI (-1)])) (h' := (156, fjl L, (fup M 1 2 0))) rfl trivial ?_
    obtain rfl := Option.some.inj h
    exact Wp.done rfl (by decide) H
theorem s_X10_movePianos_55_fr {M : fM} {l2 : Int} {r : (Int × fM)} (h : s_X10_movePianos_55 M l2 = some r) : fSame s_X10_movePianos_55_mods M r.2 := by
  unfold s_X10_movePianos_55 at h
  by_cases c : (M 1 2) ≤ 9
  · replace h := fps c h
    obtain ⟨e24, hy, h⟩ := fbd h
    have k24 := fs_trans (l := s_X10_movePianos_55_mods) (fs_up fs_refl (.inr (by decide))) (s_X10_movePianos_55_l24_fr hy)
    rcases e24 with x24 | v24
    · replace h := fsl h
      obtain rfl := Option.some.inj h
      exact k24
    · replace h := fsr h
      obtain rfl := Option.some.inj h
      exact k24
  · replace h := fng c h
    obtain rfl := Option.some.inj h
    exact fs_up fs_refl (.inr (by decide))
abbrev s_X7_sortPianos_mods : List (Nat × Option Nat) := [(55, none)]
noncomputable def s_X7_sortPianos_b17 (M : fM) (l1 l2 l3 l4 : Int) : Option ((Int × fM) ⊕ (Int × fM)) :=
  if l4 ≤ 0 then
    some (.inr (l4, M))
  else
    if fin (l4 - 1) ∧ (0 ≤ (l4 - 1) ∧ (l4 - 1) < 9) then
      if (M 55 (l4 - 1).toNat) ≤ l3 then
        some (.inr (l4, M))
      else
        if fin (l4 - 1) ∧ (0 ≤ (l4 - 1) ∧ (l4 - 1) < 9) ∧ (0 ≤ l4 ∧ l4 < 9) ∧ fin (l4 + (-1)) then
          some (.inl ((l4 + (-1)), (fup M 55 (l4).toNat (M 55 (l4 - 1).toNat))))
        else none
    else none
theorem s_X7_sortPianos_b17_ok {d L : Nat} {M : fM} {l1 l2 l3 l4 : Int} {r : ((Int × fM) ⊕ (Int × fM))} {Q : fO → fH → Prop} (h : s_X7_sortPianos_b17 M l1 l2 l3 l4 = some r) (hC : ∀ (l4' : Int) (M' : fM), r = .inl (l4', M') → Wp (d + 0, 91, 17, 0, 0, [some (fA 54), some (fI l1), some (fI l2), some (fI l3), some (fI l4')], []) (156, fjl L, M') Q) (hE : ∀ (e : (Int × fM)), r = .inr e → Wp (d + 0, 91, 57, 0, 0, [some (fA 54), some (fI l1), some (fI l2), some (fI l3), some (fI e.1)], []) (156, fjl L, e.2) Q) : Wp (d + 0, 91, 17, 0, 0, [some (fA 54), some (fI l1), some (fI l2), some (fI l3), some (fI l4)], []) (156, fjl L, M) Q := by
  unfold s_X7_sortPianos_b17 at h
  refine Wp.run 1 (f' := (d + 0, 91, 19, 0, 0, [some (fA 54), some (fI l1), some (fI l2), some (fI l3), some (fI l4)], [fI l4])) (h' := (156, fjl L, M)) rfl trivial ?_
  refine Wp.br rfl (fun (c : l4 ≤ 0) => ?_) (fun (c : ¬ (l4 ≤ 0)) => ?_)
  · replace h := fps c h
    exact hE _ (Option.some.inj h).symm
  · replace h := fng c h
    obtain ⟨⟨g0, g1⟩, h⟩ := fgd h
    refine Wp.run 7 (P := [0 ≤ (fw (l4 - 1)) ∧ (fw (l4 - 1)) < 9]) (f' := (d + 0, 91, 32, 0, 0, [some (fA 54), some (fI l1), some (fI l2), some (fI l3), some (fI l4)], [fI l3, fI (M 55 (fw (l4 - 1)).toNat)])) (h' := (156, fjl L, M)) rfl ?_ ?_
    · rw [fw_id g0]; exact g1
    rw [fw_id g0]
    refine Wp.br rfl (fun (c : (M 55 (l4 - 1).toNat) ≤ l3) => ?_) (fun (c : ¬ ((M 55 (l4 - 1).toNat) ≤ l3)) => ?_)
    · replace h := fps c h
      exact hE _ (Option.some.inj h).symm
    · replace h := fng c h
      obtain ⟨⟨g0, g1, g2, g3⟩, h⟩ := fgd h
      refine Wp.run 12 (P := [0 ≤ (fw (l4 - 1)) ∧ (fw (l4 - 1)) < 9, 0 ≤ l4 ∧ l4 < 9]) (f' := (d + 0, 91, 17, 0, 0, [some (fA 54), some (fI l1), some (fI l2), some (fI l3), some (fI (fw (l4 + (-1))))], [])) (h' := (156, fjl L, (fup M 55 (l4).toNat (M 55 (fw (l4 - 1)).toNat)))) rfl ?_ ?_
      · rw [fw_id g0]; exact ⟨g1, g2⟩
      rw [fw_id g3, fw_id g0]
      exact hC _ _ (Option.some.inj h).symm
theorem s_X7_sortPianos_b17_fr {M : fM} {l1 l2 l3 l4 : Int} {r : ((Int × fM) ⊕ (Int × fM))} (h : s_X7_sortPianos_b17 M l1 l2 l3 l4 = some r) : fSame s_X7_sortPianos_mods M (Sum.elim (fun s => s.2) (fun e => e.2) r) := by
  unfold s_X7_sortPianos_b17 at h
  by_cases c : l4 ≤ 0
  · replace h := fps c h
    obtain rfl := Option.some.inj h
    exact fs_refl
  · replace h := fng c h
    replace h := (fgd h).2
    by_cases c : (M 55 (l4 - 1).toNat) ≤ l3
    · replace h := fps c h
      obtain rfl := Option.some.inj h
      exact fs_refl
    · replace h := fng c h
      replace h := (fgd h).2
      obtain rfl := Option.some.inj h
      exact fs_up fs_refl (.inl (by decide))
noncomputable def s_X7_sortPianos_l17 (l1 l2 l3 : Int) (s : (Int × fM)) : Option (Int × fM) := fLp (fun s => s_X7_sortPianos_b17 s.2 l1 l2 l3 s.1) s
theorem s_X7_sortPianos_l17_ok {d L : Nat} {M : fM} {l1 l2 l3 l4 : Int} {r : (Int × fM)} {Q : fO → fH → Prop} (h : s_X7_sortPianos_l17 l1 l2 l3 (l4, M) = some r) (hE : ∀ (e : (Int × fM)), r = e → Wp (d + 0, 91, 57, 0, 0, [some (fA 54), some (fI l1), some (fI l2), some (fI l3), some (fI e.1)], []) (156, fjl L, e.2) Q) : Wp (d + 0, 91, 17, 0, 0, [some (fA 54), some (fI l1), some (fI l2), some (fI l3), some (fI l4)], []) (156, fjl L, M) Q := by
  refine fLp_wp (W := fun s => Wp (d + 0, 91, 17, 0, 0, [some (fA 54), some (fI l1), some (fI l2), some (fI l3), some (fI s.1)], []) (156, fjl L, s.2) Q) (e := r) ?_ h
  intro s r1 h hC hX
  refine s_X7_sortPianos_b17_ok (d := d) h (fun a0 a1 e1 => ?_) (fun e  e1 => hE e  (hX _ e1).symm)
  exact hC _ e1
theorem s_X7_sortPianos_l17_fr {M : fM} {l1 l2 l3 l4 : Int} {r : (Int × fM)} (h : s_X7_sortPianos_l17 l1 l2 l3 (l4, M) = some r) : fSame s_X7_sortPianos_mods M ((fun e => e.2) r) := by
  refine fLp_inv (I := fun s => fSame s_X7_sortPianos_mods M s.2) (J := fun r => fSame s_X7_sortPianos_mods M ((fun e => e.2) r)) h fs_refl (fun s s1 hs hb => ?_) (fun s e hs hb => ?_)
  · exact fs_trans hs (s_X7_sortPianos_b17_fr hb)
  · exact fs_trans hs (s_X7_sortPianos_b17_fr hb)
noncomputable def s_X7_sortPianos_b2 (M : fM) (l1 l2 : Int) : Option ((Int × fM) ⊕ fM) :=
  if l1 ≤ l2 then
    some (.inr M)
  else
    if (0 ≤ l2 ∧ l2 < 9) then
      (s_X7_sortPianos_l17 l1 l2 (M 55 (l2).toNat) (l2, M)).bind fun e17 =>
        if (0 ≤ e17.1 ∧ e17.1 < 9) ∧ fin (l2 + 1) then
          some (.inl ((l2 + 1), (fup e17.2 55 (e17.1).toNat (M 55 (l2).toNat))))
        else none
    else none
theorem s_X7_sortPianos_b2_ok {d L : Nat} {M : fM} {l1 l2 : Int} {o3 o4 : Option fV} {r : ((Int × fM) ⊕ fM)} {Q : fO → fH → Prop} (h : s_X7_sortPianos_b2 M l1 l2 = some r) (hC : ∀ (l2' : Int) (M' : fM) (o3' o4' : Option fV), r = .inl (l2', M') → Wp (d + 0, 91, 2, 0, 0, [some (fA 54), some (fI l1), some (fI l2'), o3', o4'], []) (156, fjl L, M') Q) (hE : ∀ (e : fM) (o0' o1' o2' o3' o4' : Option fV), r = .inr e → Wp (d + 0, 91, 71, 0, 0, [o0', o1', o2', o3', o4'], []) (156, fjl L, e) Q) : Wp (d + 0, 91, 2, 0, 0, [some (fA 54), some (fI l1), some (fI l2), o3, o4], []) (156, fjl L, M) Q := by
  unfold s_X7_sortPianos_b2 at h
  refine Wp.run 2 (f' := (d + 0, 91, 4, 0, 0, [some (fA 54), some (fI l1), some (fI l2), _, _], [fI l1, fI l2])) (h' := (156, fjl L, M)) rfl trivial ?_
  refine Wp.br rfl (fun (c : l1 ≤ l2) => ?_) (fun (c : ¬ (l1 ≤ l2)) => ?_)
  · replace h := fps c h
    exact hE _ _ _ _ _ _ (Option.some.inj h).symm
  · replace h := fng c h
    obtain ⟨g0, h⟩ := fgd h
    refine Wp.run 7 (P := [0 ≤ l2 ∧ l2 < 9]) (f' := (d + 0, 91, 17, 0, 0, [some (fA 54), some (fI l1), some (fI l2), some (fI (M 55 (l2).toNat)), some (fI l2)], [])) (h' := (156, fjl L, M)) rfl ?_ ?_
    · exact g0
    obtain ⟨e17, hy, h⟩ := fbd h
    refine s_X7_sortPianos_l17_ok hy (fun x ex => ?_)
    cases ex
    show Wp (d + 0, 91, 57, 0, 0, [some (fA 54), some (fI l1), some (fI l2), some (fI (M 55 (l2).toNat)), some (fI e17.1)], []) (156, fjl L, e17.2) Q
    obtain ⟨⟨g0, g1⟩, h⟩ := fgd h
    refine Wp.run 7 (P := [0 ≤ e17.1 ∧ e17.1 < 9]) (f' := (d + 0, 91, 2, 0, 0, [some (fA 54), some (fI l1), some (fI (fw (l2 + 1))), _, _], [])) (h' := (156, fjl L, (fup e17.2 55 (e17.1).toNat (M 55 (l2).toNat)))) rfl ?_ ?_
    · exact g0
    rw [fw_id g1]
    exact hC _ _ _ _ (Option.some.inj h).symm
theorem s_X7_sortPianos_b2_fr {M : fM} {l1 l2 : Int} {r : ((Int × fM) ⊕ fM)} (h : s_X7_sortPianos_b2 M l1 l2 = some r) : fSame s_X7_sortPianos_mods M (Sum.elim (fun s => s.2) (fun e => e) r) := by
  unfold s_X7_sortPianos_b2 at h
  by_cases c : l1 ≤ l2
  · replace h := fps c h
    obtain rfl := Option.some.inj h
    exact fs_refl
  · replace h := fng c h
    replace h := (fgd h).2
    obtain ⟨e17, hy, h⟩ := fbd h
    have k17 := fs_trans (l := s_X7_sortPianos_mods) fs_refl (s_X7_sortPianos_l17_fr hy)
    replace h := (fgd h).2
    obtain rfl := Option.some.inj h
    exact fs_up k17 (.inl (by decide))
noncomputable def s_X7_sortPianos_l2 (l1 : Int) (s : (Int × fM)) : Option fM := fLp (fun s => s_X7_sortPianos_b2 s.2 l1 s.1) s
theorem s_X7_sortPianos_l2_ok {d L : Nat} {M : fM} {l1 l2 : Int} {o3 o4 : Option fV} {r : fM} {Q : fO → fH → Prop} (h : s_X7_sortPianos_l2 l1 (l2, M) = some r) (hE : ∀ (e : fM) (o0' o1' o2' o3' o4' : Option fV), r = e → Wp (d + 0, 91, 71, 0, 0, [o0', o1', o2', o3', o4'], []) (156, fjl L, e) Q) : Wp (d + 0, 91, 2, 0, 0, [some (fA 54), some (fI l1), some (fI l2), o3, o4], []) (156, fjl L, M) Q := by
  refine fLp_wp (W := fun s => ∀ (o3 o4 : Option fV), Wp (d + 0, 91, 2, 0, 0, [some (fA 54), some (fI l1), some (fI s.1), o3, o4], []) (156, fjl L, s.2) Q) (e := r) ?_ h _ _
  intro s r1 h hC hX o3 o4
  refine s_X7_sortPianos_b2_ok (d := d) h (fun a0 a1 _ _ e1 => ?_) (fun e u0 u1 u2 u3 u4 e1 => hE e u0 u1 u2 u3 u4 (hX _ e1).symm)
  exact hC _ e1 _ _
theorem s_X7_sortPianos_l2_fr {M : fM} {l1 l2 : Int} {r : fM} (h : s_X7_sortPianos_l2 l1 (l2, M) = some r) : fSame s_X7_sortPianos_mods M ((fun e => e) r) := by
  refine fLp_inv (I := fun s => fSame s_X7_sortPianos_mods M s.2) (J := fun r => fSame s_X7_sortPianos_mods M ((fun e => e) r)) h fs_refl (fun s s1 hs hb => ?_) (fun s e hs hb => ?_)
  · exact fs_trans hs (s_X7_sortPianos_b2_fr hb)
  · exact fs_trans hs (s_X7_sortPianos_b2_fr hb)
noncomputable def s_X7_sortPianos (M : fM) (l1 : Int) : Option (Unit × fM) :=
  (s_X7_sortPianos_l2 l1 (1, M)).bind fun e2 =>
    some ((), e2)
theorem s_X7_sortPianos_ok {d L : Nat} {M : fM} {l1 : Int} {r : (Unit × fM)} {Q : fO → fH → Prop} (h : s_X7_sortPianos M l1 = some r) (H : Q (oV r.1) (156, fjl L, r.2)) : Wp (d + 0, 91, 0, 0, 0, [some (fA 54), some (fI l1), none, none, none], []) (156, fjl L, M) Q := by
  unfold s_X7_sortPianos at h
  refine Wp.run 2 (f' := (d + 0, 91, 2, 0, 0, [some (fA 54), some (fI l1), some (fI 1), _, _], [])) (h' := (156, fjl L, M)) rfl trivial ?_
  obtain ⟨e2, hy, h⟩ := fbd h
  refine s_X7_sortPianos_l2_ok hy (fun x u0 u1 u2 u3 u4 ex => ?_)
  cases ex
  show Wp (d + 0, 91, 71, 0, 0, [u0, u1, u2, u3, u4], []) (156, fjl L, e2) Q
  obtain rfl := Option.some.inj h
  exact Wp.done rfl (by decide) H
theorem s_X7_sortPianos_fr {M : fM} {l1 : Int} {r : (Unit × fM)} (h : s_X7_sortPianos M l1 = some r) : fSame s_X7_sortPianos_mods M r.2 := by
  unfold s_X7_sortPianos at h
  obtain ⟨e2, hy, h⟩ := fbd h
  have k2 := fs_trans (l := s_X7_sortPianos_mods) fs_refl (s_X7_sortPianos_l2_fr hy)
  obtain rfl := Option.some.inj h
  exact k2
noncomputable def s_X2_isShut_4 (M : fM) (l1 l2 : Int) : Option Int :=
  (s_X2_fact_4 M l1 0).bind fun y3 =>
    if ¬ y3 = 1 then
      some 0
    else
      (s_X11_weekOf M l2).bind fun y15 =>
        if (0 ≤ y15 ∧ y15 < 52) then
          if ¬ (M 7 (y15).toNat) = 1 then
            some 0
          else
            some 1
        else none
theorem s_X2_isShut_4_ok {d L : Nat} {M : fM} {l1 l2 : Int} {r : Int} {Q : fO → fH → Prop} (h : s_X2_isShut_4 M l1 l2 = some r) (H : Q (oI r) (156, fjl L, M)) : Wp (d + 1, 33, 0, 0, 0, [some (fA 4), some (fI l1), some (fI l2)], []) (156, fjl L, M) Q := by
  unfold s_X2_isShut_4 at h
  refine Wp.run 3 (f' := (d + 1, 33, 3, 0, 0, [some (fA 4), _, some (fI l2)], [fI 0, fI l1, fA 4])) (h' := (156, fjl L, M)) rfl trivial ?_
  obtain ⟨y3, hy, h⟩ := fbd h
  refine Wp.call rfl (by decide) (s_X2_fact_4_ok (d := d + 0) hy ?_)
  show Wp (d + 1, 33, 6, 0, 0, [some (fA 4), _, some (fI l2)], [fI y3]) (156, fjl L, M) Q
  refine Wp.run 1 (f' := (d + 1, 33, 7, 0, 0, [some (fA 4), _, some (fI l2)], [fI 1, fI y3])) (h' := (156, fjl L, M)) rfl trivial ?_
  refine Wp.br rfl (fun (c : ¬ y3 = 1) => ?_) (fun (c : ¬ (¬ y3 = 1)) => ?_)
  · replace h := fps c h
    refine Wp.run 1 (f' := (d + 1, 33, 28, 0, 0, [_, _, _], [fI 0])) (h' := (156, fjl L, M)) rfl trivial ?_
    obtain rfl := Option.some.inj h
    exact Wp.done rfl (by decide) H
  · replace h := fng c h
    refine Wp.run 3 (f' := (d + 1, 33, 15, 0, 0, [_, _, _], [fI l2, fA 7])) (h' := (156, fjl L, M)) rfl trivial ?_
    obtain ⟨y15, hy, h⟩ := fbd h
    refine Wp.call rfl (by decide) (s_X11_weekOf_ok (d := d + 0) hy ?_)
    show Wp (d + 1, 33, 18, 0, 0, [_, _, _], [fI y15, fA 7]) (156, fjl L, M) Q
    obtain ⟨g0, h⟩ := fgd h
    refine Wp.run 2 (P := [0 ≤ y15 ∧ y15 < 52]) (f' := (d + 1, 33, 20, 0, 0, [_, _, _], [fI 1, fI (M 7 (y15).toNat)])) (h' := (156, fjl L, M)) rfl ?_ ?_
    · exact g0
    refine Wp.br rfl (fun (c : ¬ (M 7 (y15).toNat) = 1) => ?_) (fun (c : ¬ (¬ (M 7 (y15).toNat) = 1)) => ?_)
    · replace h := fps c h
      refine Wp.run 1 (f' := (d + 1, 33, 28, 0, 0, [_, _, _], [fI 0])) (h' := (156, fjl L, M)) rfl trivial ?_
      obtain rfl := Option.some.inj h
      exact Wp.done rfl (by decide) H
    · replace h := fng c h
      refine Wp.run 2 (f' := (d + 1, 33, 28, 0, 0, [_, _, _], [fI 1])) (h' := (156, fjl L, M)) rfl trivial ?_
      obtain rfl := Option.some.inj h
      exact Wp.done rfl (by decide) H
abbrev s_X7_place_mods : List (Nat × Option Nat) := [(54, some 17), (54, some 18), (56, none), (57, none), (58, none), (59, none)]
noncomputable def s_X7_place_j109 (M : fM) (l1 l2 l3 l4 t1 t2 : Int) : Option ((Int × fM) ⊕ fM) :=
  if (0 ≤ t1 ∧ t1 < 10) then
    (s_X2_fact_4 (fup M 57 (t1).toNat t2) l4 8).bind fun y123 =>
      if (0 ≤ l3 ∧ l3 < 9) then
        (s_X2_isShut_4 (fup (fup M 57 (t1).toNat t2) 58 (l3).toNat y123) l4 l2).bind fun y139 =>
          if y139 = 0 then
            (s_X2_fact_4 (fup (fup M 57 (t1).toNat t2) 58 (l3).toNat y123) l4 9).bind fun y157 =>
              if (0 ≤ l3 ∧ l3 < 9) ∧ fin (l3 + 1) then
                some (.inl ((l3 + 1), (fup (fup (fup M 57 (t1).toNat t2) 58 (l3).toNat y123) 59 (l3).toNat y157)))
              else none
          else
            if (0 ≤ l3 ∧ l3 < 9) ∧ fin (l3 + 1) then
              some (.inl ((l3 + 1), (fup (fup (fup M 57 (t1).toNat t2) 58 (l3).toNat y123) 59 (l3).toNat (-1))))
            else none
      else none
  else none
theorem s_X7_place_j109_ok {d L : Nat} {M : fM} {l1 l2 l3 l4 t1 t2 : Int} {o5 : Option fV} {r : ((Int × fM) ⊕ fM)} {Q : fO → fH → Prop} (h : s_X7_place_j109 M l1 l2 l3 l4 t1 t2 = some r) (hC : ∀ (l3' : Int) (M' : fM) (o4' o5' : Option fV), r = .inl (l3', M') → Wp (d + 2, 88, 14, 0, 0, [some (fA 54), some (fI l1), some (fI l2), some (fI l3'), o4', o5'], []) (156, fjl L, M') Q) (hE : ∀ (e : fM) (o0' o1' o2' o3' o4' o5' : Option fV), r = .inr e → Wp (d + 2, 88, 167, 0, 0, [o0', o1', o2', o3', o4', o5'], []) (156, fjl L, e) Q) : Wp (d + 2, 88, 109, 0, 0, [some (fA 54), some (fI l1), some (fI l2), some (fI l3), some (fI l4), o5], [fI t2, fI t1, fA 57]) (156, fjl L, M) Q := by
  unfold s_X7_place_j109 at h
  obtain ⟨g0, h⟩ := fgd h
  refine Wp.run 8 (P := [0 ≤ t1 ∧ t1 < 10]) (f' := (d + 2, 88, 123, 0, 0, [some (fA 54), some (fI l1), some (fI l2), some (fI l3), some (fI l4), _], [fI 8, fI l4, fA 4, fI l3, fA 58])) (h' := (156, fjl L, (fup M 57 (t1).toNat t2))) rfl ?_ ?_
  · exact g0
  obtain ⟨y123, hy, h⟩ := fbd h
  refine Wp.call rfl (by decide) (s_X2_fact_4_ok (d := d + 1) hy ?_)
  show Wp (d + 2, 88, 126, 0, 0, [some (fA 54), some (fI l1), some (fI l2), some (fI l3), some (fI l4), _], [fI y123, fI l3, fA 58]) (156, fjl L, (fup M 57 (t1).toNat t2)) Q
  obtain ⟨g0, h⟩ := fgd h
  refine Wp.run 8 (P := [0 ≤ l3 ∧ l3 < 9]) (f' := (d + 2, 88, 139, 0, 0, [some (fA 54), some (fI l1), some (fI l2), some (fI l3), some (fI l4), _], [fI l2, fI l4, fA 4, fI l3, fA 59])) (h' := (156, fjl L, (fup (fup M 57 (t1).toNat t2) 58 (l3).toNat y123))) rfl ?_ ?_
  · exact g0
  obtain ⟨y139, hy, h⟩ := fbd h
  refine Wp.call rfl (by decide) (s_X2_isShut_4_ok (d := d + 0) hy ?_)
  show Wp (d + 2, 88, 142, 0, 0, [some (fA 54), some (fI l1), some (fI l2), some (fI l3), some (fI l4), _], [fI y139, fI l3, fA 59]) (156, fjl L, (fup (fup M 57 (t1).toNat t2) 58 (l3).toNat y123)) Q
  refine Wp.br rfl (fun (c : y139 = 0) => ?_) (fun (c : ¬ (y139 = 0)) => ?_)
  · replace h := fps c h
    refine Wp.run 4 (f' := (d + 2, 88, 157, 0, 0, [some (fA 54), some (fI l1), some (fI l2), some (fI l3), _, _], [fI 9, fI l4, fA 4, fI l3, fA 59])) (h' := (156, fjl L, (fup (fup M 57 (t1).toNat t2) 58 (l3).toNat y123))) rfl trivial ?_
    obtain ⟨y157, hy, h⟩ := fbd h
    refine Wp.call rfl (by decide) (s_X2_fact_4_ok (d := d + 1) hy ?_)
    show Wp (d + 2, 88, 160, 0, 0, [some (fA 54), some (fI l1), some (fI l2), some (fI l3), _, _], [fI y157, fI l3, fA 59]) (156, fjl L, (fup (fup M 57 (t1).toNat t2) 58 (l3).toNat y123)) Q
    obtain ⟨⟨g0, g1⟩, h⟩ := fgd h
    refine Wp.run 3 (P := [0 ≤ l3 ∧ l3 < 9]) (f' := (d + 2, 88, 14, 0, 0, [some (fA 54), some (fI l1), some (fI l2), some (fI (fw (l3 + 1))), _, _], [])) (h' := (156, fjl L, (fup (fup (fup M 57 (t1).toNat t2) 58 (l3).toNat y123) 59 (l3).toNat y157))) rfl ?_ ?_
    · exact g0
    rw [fw_id g1]
    exact hC _ _ _ _ (Option.some.inj h).symm
  · replace h := fng c h
    obtain ⟨⟨g0, g1⟩, h⟩ := fgd h
    refine Wp.run 5 (P := [0 ≤ l3 ∧ l3 < 9]) (f' := (d + 2, 88, 14, 0, 0, [some (fA 54), some (fI l1), some (fI l2), some (fI (fw (l3 + 1))), _, _], [])) (h' := (156, fjl L, (fup (fup (fup M 57 (t1).toNat t2) 58 (l3).toNat y123) 59 (l3).toNat (-1)))) rfl ?_ ?_
    · exact g0
    rw [fw_id g1]
    exact hC _ _ _ _ (Option.some.inj h).symm
theorem s_X7_place_j109_fr {M : fM} {l1 l2 l3 l4 t1 t2 : Int} {r : ((Int × fM) ⊕ fM)} (h : s_X7_place_j109 M l1 l2 l3 l4 t1 t2 = some r) : fSame s_X7_place_mods M (Sum.elim (fun s => s.2) (fun e => e) r) := by
  unfold s_X7_place_j109 at h
  replace h := (fgd h).2
  obtain ⟨y123, hy, h⟩ := fbd h
  replace h := (fgd h).2
  obtain ⟨y139, hy, h⟩ := fbd h
  by_cases c : y139 = 0
  · replace h := fps c h
    obtain ⟨y157, hy, h⟩ := fbd h
    replace h := (fgd h).2
    obtain rfl := Option.some.inj h
    exact fs_up (fs_up (fs_up fs_refl (.inl (by decide))) (.inl (by decide))) (.inl (by decide))
  · replace h := fng c h
    replace h := (fgd h).2
    obtain rfl := Option.some.inj h
    exact fs_up (fs_up (fs_up fs_refl (.inl (by decide))) (.inl (by decide))) (.inl (by decide))
noncomputable def s_X7_place_j75 (M : fM) (l1 l2 l3 l4 l5 t1 t2 : Int) : Option ((Int × fM) ⊕ fM) :=
  if (0 ≤ t1 ∧ t1 < 10) then
    if 0 ≤ l5 then
      if (0 ≤ l5 ∧ l5 < 200) then
        s_X7_place_j109 (fup M 56 (t1).toNat t2) l1 l2 l3 l4 l3 (M 24 (l5).toNat)
      else none
    else
      (s_X2_fact_4 (fup M 56 (t1).toNat t2) l4 2).bind fun y93 =>
        s_X7_place_j109 (fup M 56 (t1).toNat t2) l1 l2 l3 l4 l3 y93
  else none
theorem s_X7_place_j75_ok {d L : Nat} {M : fM} {l1 l2 l3 l4 l5 t1 t2 : Int} {r : ((Int × fM) ⊕ fM)} {Q : fO → fH → Prop} (h : s_X7_place_j75 M l1 l2 l3 l4 l5 t1 t2 = some r) (hC : ∀ (l3' : Int) (M' : fM) (o4' o5' : Option fV), r = .inl (l3', M') → Wp (d + 2, 88, 14, 0, 0, [some (fA 54), some (fI l1), some (fI l2), some (fI l3'), o4', o5'], []) (156, fjl L, M') Q) (hE : ∀ (e : fM) (o0' o1' o2' o3' o4' o5' : Option fV), r = .inr e → Wp (d + 2, 88, 167, 0, 0, [o0', o1', o2', o3', o4', o5'], []) (156, fjl L, e) Q) : Wp (d + 2, 88, 75, 0, 0, [some (fA 54), some (fI l1), some (fI l2), some (fI l3), some (fI l4), some (fI l5)], [fI t2, fI t1, fA 56]) (156, fjl L, M) Q := by
  unfold s_X7_place_j75 at h
  obtain ⟨g0, h⟩ := fgd h
  refine Wp.run 5 (P := [0 ≤ t1 ∧ t1 < 10]) (f' := (d + 2, 88, 83, 0, 0, [some (fA 54), some (fI l1), some (fI l2), some (fI l3), some (fI l4), some (fI l5)], [fI l5, fI l3, fA 57])) (h' := (156, fjl L, (fup M 56 (t1).toNat t2))) rfl ?_ ?_
  · exact g0
  refine Wp.br rfl (fun (c : 0 ≤ l5) => ?_) (fun (c : ¬ (0 ≤ l5)) => ?_)
  · replace h := fps c h
    obtain ⟨g0, h⟩ := fgd h
    refine Wp.run 5 (P := [0 ≤ l5 ∧ l5 < 200]) (f' := (d + 2, 88, 109, 0, 0, [some (fA 54), some (fI l1), some (fI l2), some (fI l3), some (fI l4), _], [fI (M 24 (l5).toNat), fI l3, fA 57])) (h' := (156, fjl L, (fup M 56 (t1).toNat t2))) rfl ?_ ?_
    · exact g0
    exact s_X7_place_j109_ok h hC hE
  · replace h := fng c h
    refine Wp.run 4 (f' := (d + 2, 88, 93, 0, 0, [some (fA 54), some (fI l1), some (fI l2), some (fI l3), some (fI l4), _], [fI 2, fI l4, fA 4, fI l3, fA 57])) (h' := (156, fjl L, (fup M 56 (t1).toNat t2))) rfl trivial ?_
    obtain ⟨y93, hy, h⟩ := fbd h
    refine Wp.call rfl (by decide) (s_X2_fact_4_ok (d := d + 1) hy ?_)
    show Wp (d + 2, 88, 96, 0, 0, [some (fA 54), some (fI l1), some (fI l2), some (fI l3), some (fI l4), _], [fI y93, fI l3, fA 57]) (156, fjl L, (fup M 56 (t1).toNat t2)) Q
    refine Wp.run 1 (f' := (d + 2, 88, 109, 0, 0, [some (fA 54), some (fI l1), some (fI l2), some (fI l3), some (fI l4), _], [fI y93, fI l3, fA 57])) (h' := (156, fjl L, (fup M 56 (t1).toNat t2))) rfl trivial ?_
    exact s_X7_place_j109_ok h hC hE
theorem s_X7_place_j75_fr {M : fM} {l1 l2 l3 l4 l5 t1 t2 : Int} {r : ((Int × fM) ⊕ fM)} (h : s_X7_place_j75 M l1 l2 l3 l4 l5 t1 t2 = some r) : fSame s_X7_place_mods M (Sum.elim (fun s => s.2) (fun e => e) r) := by
  unfold s_X7_place_j75 at h
  replace h := (fgd h).2
  by_cases c : 0 ≤ l5
  · replace h := fps c h
    replace h := (fgd h).2
    exact fs_trans (fs_up fs_refl (.inl (by decide))) (s_X7_place_j109_fr h)
  · replace h := fng c h
    obtain ⟨y93, hy, h⟩ := fbd h
    exact fs_trans (fs_up fs_refl (.inl (by decide))) (s_X7_place_j109_fr h)
noncomputable def s_X7_place_b14 (M : fM) (l1 l2 l3 : Int) : Option ((Int × fM) ⊕ fM) :=
  if l1 ≤ l3 then
    some (.inr M)
  else
    if (0 ≤ l3 ∧ l3 < 9) then
      (s_X6_latest_18 M 6 (M 55 (l3).toNat) l2 l2).bind fun y37 =>
        if 0 ≤ y37 then
          if (0 ≤ y37 ∧ y37 < 200) then
            s_X7_place_j75 M l1 l2 l3 (M 55 (l3).toNat) y37 l3 (M 23 (y37).toNat)
          else none
        else
          (s_X2_fact_4 M (M 55 (l3).toNat) 1).bind fun y59 =>
            s_X7_place_j75 M l1 l2 l3 (M 55 (l3).toNat) y37 l3 y59
    else none
theorem s_X7_place_b14_ok {d L : Nat} {M : fM} {l1 l2 l3 : Int} {o4 o5 : Option fV} {r : ((Int × fM) ⊕ fM)} {Q : fO → fH → Prop} (h : s_X7_place_b14 M l1 l2 l3 = some r) (hC : ∀ (l3' : Int) (M' : fM) (o4' o5' : Option fV), r = .inl (l3', M') → Wp (d + 2, 88, 14, 0, 0, [some (fA 54), some (fI l1), some (fI l2), some (fI l3'), o4', o5'], []) (156, fjl L, M') Q) (hE : ∀ (e : fM) (o0' o1' o2' o3' o4' o5' : Option fV), r = .inr e → Wp (d + 2, 88, 167, 0, 0, [o0', o1', o2', o3', o4', o5'], []) (156, fjl L, e) Q) : Wp (d + 2, 88, 14, 0, 0, [some (fA 54), some (fI l1), some (fI l2), some (fI l3), o4, o5], []) (156, fjl L, M) Q := by
  unfold s_X7_place_b14 at h
  refine Wp.run 2 (f' := (d + 2, 88, 16, 0, 0, [some (fA 54), some (fI l1), some (fI l2), some (fI l3), _, _], [fI l1, fI l3])) (h' := (156, fjl L, M)) rfl trivial ?_
  refine Wp.br rfl (fun (c : l1 ≤ l3) => ?_) (fun (c : ¬ (l1 ≤ l3)) => ?_)
  · replace h := fps c h
    exact hE _ _ _ _ _ _ _ (Option.some.inj h).symm
  · replace h := fng c h
    obtain ⟨g0, h⟩ := fgd h
    refine Wp.run 11 (P := [0 ≤ l3 ∧ l3 < 9]) (f' := (d + 2, 88, 37, 0, 0, [some (fA 54), some (fI l1), some (fI l2), some (fI l3), some (fI (M 55 (l3).toNat)), _], [fI l2, fI l2, fI (M 55 (l3).toNat), fI 6, fA 18])) (h' := (156, fjl L, M)) rfl ?_ ?_
    · exact g0
    obtain ⟨y37, hy, h⟩ := fbd h
    refine Wp.call rfl (by decide) (s_X6_latest_18_ok (d := d + 0) hy ?_)
    show Wp (d + 2, 88, 40, 0, 0, [some (fA 54), some (fI l1), some (fI l2), some (fI l3), some (fI (M 55 (l3).toNat)), _], [fI y37]) (156, fjl L, M) Q
    refine Wp.run 5 (f' := (d + 2, 88, 49, 0, 0, [some (fA 54), some (fI l1), some (fI l2), some (fI l3), some (fI (M 55 (l3).toNat)), some (fI y37)], [fI y37, fI l3, fA 56])) (h' := (156, fjl L, M)) rfl trivial ?_
    refine Wp.br rfl (fun (c : 0 ≤ y37) => ?_) (fun (c : ¬ (0 ≤ y37)) => ?_)
    · replace h := fps c h
      obtain ⟨g0, h⟩ := fgd h
      refine Wp.run 5 (P := [0 ≤ y37 ∧ y37 < 200]) (f' := (d + 2, 88, 75, 0, 0, [some (fA 54), some (fI l1), some (fI l2), some (fI l3), some (fI (M 55 (l3).toNat)), some (fI y37)], [fI (M 23 (y37).toNat), fI l3, fA 56])) (h' := (156, fjl L, M)) rfl ?_ ?_
      · exact g0
      exact s_X7_place_j75_ok h hC hE
    · replace h := fng c h
      refine Wp.run 4 (f' := (d + 2, 88, 59, 0, 0, [some (fA 54), some (fI l1), some (fI l2), some (fI l3), some (fI (M 55 (l3).toNat)), some (fI y37)], [fI 1, fI (M 55 (l3).toNat), fA 4, fI l3, fA 56])) (h' := (156, fjl L, M)) rfl trivial ?_
      obtain ⟨y59, hy, h⟩ := fbd h
      refine Wp.call rfl (by decide) (s_X2_fact_4_ok (d := d + 1) hy ?_)
      show Wp (d + 2, 88, 62, 0, 0, [some (fA 54), some (fI l1), some (fI l2), some (fI l3), some (fI (M 55 (l3).toNat)), some (fI y37)], [fI y59, fI l3, fA 56]) (156, fjl L, M) Q
      refine Wp.run 1 (f' := (d + 2, 88, 75, 0, 0, [some (fA 54), some (fI l1), some (fI l2), some (fI l3), some (fI (M 55 (l3).toNat)), some (fI y37)], [fI y59, fI l3, fA 56])) (h' := (156, fjl L, M)) rfl trivial ?_
      exact s_X7_place_j75_ok h hC hE
theorem s_X7_place_b14_fr {M : fM} {l1 l2 l3 : Int} {r : ((Int × fM) ⊕ fM)} (h : s_X7_place_b14 M l1 l2 l3 = some r) : fSame s_X7_place_mods M (Sum.elim (fun s => s.2) (fun e => e) r) := by
  unfold s_X7_place_b14 at h
  by_cases c : l1 ≤ l3
  · replace h := fps c h
    obtain rfl := Option.some.inj h
    exact fs_refl
  · replace h := fng c h
    replace h := (fgd h).2
    obtain ⟨y37, hy, h⟩ := fbd h
    by_cases c : 0 ≤ y37
    · replace h := fps c h
      replace h := (fgd h).2
      exact fs_trans fs_refl (s_X7_place_j75_fr h)
    · replace h := fng c h
      obtain ⟨y59, hy, h⟩ := fbd h
      exact fs_trans fs_refl (s_X7_place_j75_fr h)
noncomputable def s_X7_place_l14 (l1 l2 : Int) (s : (Int × fM)) : Option fM := fLp (fun s => s_X7_place_b14 s.2 l1 l2 s.1) s
theorem s_X7_place_l14_ok {d L : Nat} {M : fM} {l1 l2 l3 : Int} {o4 o5 : Option fV} {r : fM} {Q : fO → fH → Prop} (h : s_X7_place_l14 l1 l2 (l3, M) = some r) (hE : ∀ (e : fM) (o0' o1' o2' o3' o4' o5' : Option fV), r = e → Wp (d + 2, 88, 167, 0, 0, [o0', o1', o2', o3', o4', o5'], []) (156, fjl L, e) Q) : Wp (d + 2, 88, 14, 0, 0, [some (fA 54), some (fI l1), some (fI l2), some (fI l3), o4, o5], []) (156, fjl L, M) Q := by
  refine fLp_wp (W := fun s => ∀ (o4 o5 : Option fV), Wp (d + 2, 88, 14, 0, 0, [some (fA 54), some (fI l1), some (fI l2), some (fI s.1), o4, o5], []) (156, fjl L, s.2) Q) (e := r) ?_ h _ _
  intro s r1 h hC hX o4 o5
  refine s_X7_place_b14_ok (d := d) h (fun a0 a1 _ _ e1 => ?_) (fun e u0 u1 u2 u3 u4 u5 e1 => hE e u0 u1 u2 u3 u4 u5 (hX _ e1).symm)
  exact hC _ e1 _ _
theorem s_X7_place_l14_fr {M : fM} {l1 l2 l3 : Int} {r : fM} (h : s_X7_place_l14 l1 l2 (l3, M) = some r) : fSame s_X7_place_mods M ((fun e => e) r) := by
  refine fLp_inv (I := fun s => fSame s_X7_place_mods M s.2) (J := fun r => fSame s_X7_place_mods M ((fun e => e) r)) h fs_refl (fun s s1 hs hb => ?_) (fun s e hs hb => ?_)
  · exact fs_trans hs (s_X7_place_b14_fr hb)
  · exact fs_trans hs (s_X7_place_b14_fr hb)
noncomputable def s_X7_place (M : fM) (l1 l2 : Int) : Option (Unit × fM) :=
  (s_X7_place_l14 l1 l2 (0, (fup (fup M 54 17 l1) 54 18 (fshl 1 l1)))).bind fun e14 =>
    some ((), e14)
theorem s_X7_place_ok {d L : Nat} {M : fM} {l1 l2 : Int} {r : (Unit × fM)} {Q : fO → fH → Prop} (h : s_X7_place M l1 l2 = some r) (H : Q (oV r.1) (156, fjl L, r.2)) : Wp (d + 2, 88, 0, 0, 0, [some (fA 54), some (fI l1), some (fI l2), none, none, none], []) (156, fjl L, M) Q := by
  unfold s_X7_place at h
  refine Wp.run 10 (f' := (d + 2, 88, 14, 0, 0, [some (fA 54), some (fI l1), some (fI l2), some (fI 0), _, _], [])) (h' := (156, fjl L, (fup (fup M 54 17 l1) 54 18 (fshl 1 l1)))) rfl trivial ?_
  obtain ⟨e14, hy, h⟩ := fbd h
  refine s_X7_place_l14_ok hy (fun x u0 u1 u2 u3 u4 u5 ex => ?_)
  cases ex
  show Wp (d + 2, 88, 167, 0, 0, [u0, u1, u2, u3, u4, u5], []) (156, fjl L, e14) Q
  obtain rfl := Option.some.inj h
  exact Wp.done rfl (by decide) H
theorem s_X7_place_fr {M : fM} {l1 l2 : Int} {r : (Unit × fM)} (h : s_X7_place M l1 l2 = some r) : fSame s_X7_place_mods M r.2 := by
  unfold s_X7_place at h
  obtain ⟨e14, hy, h⟩ := fbd h
  have k14 := fs_trans (l := s_X7_place_mods) (fs_up (fs_up fs_refl (.inr (by decide))) (.inr (by decide))) (s_X7_place_l14_fr hy)
  obtain rfl := Option.some.inj h
  exact k14
abbrev s_X7_weigh_mods : List (Nat × Option Nat) := [(43, some 5), (43, some 6), (44, none), (45, none), (46, none), (60, none), (61, none)]
noncomputable def s_X7_weigh_b2 (M : fM) (l1 l2 : Int) : Option ((Int × fM) ⊕ fM) :=
  if (M 54 17) ≤ l2 then
    some (.inr M)
  else
    if (0 ≤ l2 ∧ l2 < 9) then
      (s_X7_weightOf M (M 55 (l2).toNat) l1).bind fun y23 =>
        if (0 ≤ l2 ∧ l2 < 9) ∧ fin (l2 + 1) then
          some (.inl ((l2 + 1), (fup y23.2 60 (l2).toNat y23.1)))
        else none
    else none
theorem s_X7_weigh_b2_ok {d L : Nat} {M : fM} {l1 l2 : Int} {o3 : Option fV} {r : ((Int × fM) ⊕ fM)} {Q : fO → fH → Prop} (h : s_X7_weigh_b2 M l1 l2 = some r) (hC : ∀ (l2' : Int) (M' : fM) (o3' : Option fV), r = .inl (l2', M') → Wp (d + 5, 89, 2, 0, 0, [some (fA 54), some (fI l1), some (fI l2'), o3'], []) (156, fjl L, M') Q) (hE : ∀ (e : fM) (o1' o2' o3' : Option fV), r = .inr e → Wp (d + 5, 89, 33, 0, 0, [some (fA 54), o1', o2', o3'], []) (156, fjl L, e) Q) : Wp (d + 5, 89, 2, 0, 0, [some (fA 54), some (fI l1), some (fI l2), o3], []) (156, fjl L, M) Q := by
  unfold s_X7_weigh_b2 at h
  refine Wp.run 3 (f' := (d + 5, 89, 7, 0, 0, [some (fA 54), some (fI l1), some (fI l2), _], [fI (M 54 17), fI l2])) (h' := (156, fjl L, M)) rfl trivial ?_
  refine Wp.br rfl (fun (c : (M 54 17) ≤ l2) => ?_) (fun (c : ¬ ((M 54 17) ≤ l2)) => ?_)
  · replace h := fps c h
    exact hE _ _ _ _ (Option.some.inj h).symm
  · replace h := fng c h
    obtain ⟨g0, h⟩ := fgd h
    refine Wp.run 9 (P := [0 ≤ l2 ∧ l2 < 9]) (f' := (d + 5, 89, 23, 0, 0, [some (fA 54), some (fI l1), some (fI l2), _], [fI l1, fI (M 55 (l2).toNat), fA 54, fI l2, fA 60])) (h' := (156, fjl L, M)) rfl ?_ ?_
    · exact g0
    obtain ⟨y23, hy, h⟩ := fbd h
    refine Wp.call rfl (by decide) (s_X7_weightOf_ok (d := d + 0) hy ?_)
    show Wp (d + 5, 89, 26, 0, 0, [some (fA 54), some (fI l1), some (fI l2), _], [fI y23.1, fI l2, fA 60]) (156, fjl L, y23.2) Q
    obtain ⟨⟨g0, g1⟩, h⟩ := fgd h
    refine Wp.run 3 (P := [0 ≤ l2 ∧ l2 < 9]) (f' := (d + 5, 89, 2, 0, 0, [some (fA 54), some (fI l1), some (fI (fw (l2 + 1))), _], [])) (h' := (156, fjl L, (fup y23.2 60 (l2).toNat y23.1))) rfl ?_ ?_
    · exact g0
    rw [fw_id g1]
    exact hC _ _ _ (Option.some.inj h).symm
theorem s_X7_weigh_b2_fr {M : fM} {l1 l2 : Int} {r : ((Int × fM) ⊕ fM)} (h : s_X7_weigh_b2 M l1 l2 = some r) : fSame s_X7_weigh_mods M (Sum.elim (fun s => s.2) (fun e => e) r) := by
  unfold s_X7_weigh_b2 at h
  by_cases c : (M 54 17) ≤ l2
  · replace h := fps c h
    obtain rfl := Option.some.inj h
    exact fs_refl
  · replace h := fng c h
    replace h := (fgd h).2
    obtain ⟨y23, hy, h⟩ := fbd h
    have k23 := fs_trans (l := s_X7_weigh_mods) fs_refl (fs_mono (l := s_X7_weightOf_mods) (by decide) (s_X7_weightOf_fr hy))
    replace h := (fgd h).2
    obtain rfl := Option.some.inj h
    exact fs_up k23 (.inl (by decide))
noncomputable def s_X7_weigh_l2 (l1 : Int) (s : (Int × fM)) : Option fM := fLp (fun s => s_X7_weigh_b2 s.2 l1 s.1) s
theorem s_X7_weigh_l2_ok {d L : Nat} {M : fM} {l1 l2 : Int} {o3 : Option fV} {r : fM} {Q : fO → fH → Prop} (h : s_X7_weigh_l2 l1 (l2, M) = some r) (hE : ∀ (e : fM) (o1' o2' o3' : Option fV), r = e → Wp (d + 5, 89, 33, 0, 0, [some (fA 54), o1', o2', o3'], []) (156, fjl L, e) Q) : Wp (d + 5, 89, 2, 0, 0, [some (fA 54), some (fI l1), some (fI l2), o3], []) (156, fjl L, M) Q := by
  refine fLp_wp (W := fun s => ∀ (o3 : Option fV), Wp (d + 5, 89, 2, 0, 0, [some (fA 54), some (fI l1), some (fI s.1), o3], []) (156, fjl L, s.2) Q) (e := r) ?_ h _
  intro s r1 h hC hX o3
  refine s_X7_weigh_b2_ok (d := d) h (fun a0 a1 _ e1 => ?_) (fun e u0 u1 u2 e1 => hE e u0 u1 u2 (hX _ e1).symm)
  exact hC _ e1 _
theorem s_X7_weigh_l2_fr {M : fM} {l1 l2 : Int} {r : fM} (h : s_X7_weigh_l2 l1 (l2, M) = some r) : fSame s_X7_weigh_mods M ((fun e => e) r) := by
  refine fLp_inv (I := fun s => fSame s_X7_weigh_mods M s.2) (J := fun r => fSame s_X7_weigh_mods M ((fun e => e) r)) h fs_refl (fun s s1 hs hb => ?_) (fun s e hs hb => ?_)
  · exact fs_trans hs (s_X7_weigh_b2_fr hb)
  · exact fs_trans hs (s_X7_weigh_b2_fr hb)
noncomputable def s_X7_weigh_b52 (M : fM) (l2 l3 : Int) : Option ((Int × fM) ⊕ fM) :=
  if (fshl 1 l2) ≤ l3 then
    some (.inr M)
  else
    if (0 ≤ l3 ∧ l3 < 512) ∧ (0 ≤ l2 ∧ l2 < 9) ∧ fin ((M 61 (l3).toNat) + (M 60 (l2).toNat)) ∧ (0 ≤ (fior l3 (fshl 1 l2)) ∧ (fior l3 (fshl 1 l2)) < 512) then
      if fin (l3 + 1) then
        some (.inl ((l3 + 1), (fup M 61 (fior l3 (fshl 1 l2)).toNat ((M 61 (l3).toNat) + (M 60 (l2).toNat)))))
      else none
    else none
theorem s_X7_weigh_b52_ok {d L : Nat} {M : fM} {l2 l3 : Int} {o1 : Option fV} {r : ((Int × fM) ⊕ fM)} {Q : fO → fH → Prop} (h : s_X7_weigh_b52 M l2 l3 = some r) (hC : ∀ (l3' : Int) (M' : fM) (o1' : Option fV), r = .inl (l3', M') → Wp (d + 5, 89, 52, 0, 0, [some (fA 54), o1', some (fI l2), some (fI l3')], []) (156, fjl L, M') Q) (hE : ∀ (e : fM) (o1' o3' : Option fV), r = .inr e → Wp (d + 5, 89, 88, 0, 0, [some (fA 54), o1', some (fI l2), o3'], []) (156, fjl L, e) Q) : Wp (d + 5, 89, 52, 0, 0, [some (fA 54), o1, some (fI l2), some (fI l3)], []) (156, fjl L, M) Q := by
  unfold s_X7_weigh_b52 at h
  refine Wp.run 4 (f' := (d + 5, 89, 56, 0, 0, [some (fA 54), _, some (fI l2), some (fI l3)], [fI (fshl 1 l2), fI l3])) (h' := (156, fjl L, M)) rfl trivial ?_
  refine Wp.br rfl (fun (c : (fshl 1 l2) ≤ l3) => ?_) (fun (c : ¬ ((fshl 1 l2) ≤ l3)) => ?_)
  · replace h := fps c h
    exact hE _ _ _ (Option.some.inj h).symm
  · replace h := fng c h
    obtain ⟨⟨g0, g1, g2, g3⟩, h⟩ := fgd h
    refine Wp.run 17 (P := [0 ≤ l3 ∧ l3 < 512, 0 ≤ l2 ∧ l2 < 9, 0 ≤ (fior l3 (fshl 1 l2)) ∧ (fior l3 (fshl 1 l2)) < 512]) (f' := (d + 5, 89, 82, 0, 0, [some (fA 54), _, some (fI l2), some (fI l3)], [])) (h' := (156, fjl L, (fup M 61 (fior l3 (fshl 1 l2)).toNat (fw ((M 61 (l3).toNat) + (M 60 (l2).toNat)))))) rfl ?_ ?_
    · exact ⟨g0, g1, g3⟩
    rw [fw_id g2]
    obtain ⟨g0, h⟩ := fgd h
    refine Wp.run 2 (f' := (d + 5, 89, 52, 0, 0, [some (fA 54), _, some (fI l2), some (fI (fw (l3 + 1)))], [])) (h' := (156, fjl L, (fup M 61 (fior l3 (fshl 1 l2)).toNat ((M 61 (l3).toNat) + (M 60 (l2).toNat))))) rfl trivial ?_
    rw [fw_id g0]
    exact hC _ _ _ (Option.some.inj h).symm
theorem s_X7_weigh_b52_fr {M : fM} {l2 l3 : Int} {r : ((Int × fM) ⊕ fM)} (h : s_X7_weigh_b52 M l2 l3 = some r) : fSame s_X7_weigh_mods M (Sum.elim (fun s => s.2) (fun e => e) r) := by
  unfold s_X7_weigh_b52 at h
  by_cases c : (fshl 1 l2) ≤ l3
  · replace h := fps c h
    obtain rfl := Option.some.inj h
    exact fs_refl
  · replace h := fng c h
    replace h := (fgd h).2
    replace h := (fgd h).2
    obtain rfl := Option.some.inj h
    exact fs_up fs_refl (.inl (by decide))
noncomputable def s_X7_weigh_l52 (l2 : Int) (s : (Int × fM)) : Option fM := fLp (fun s => s_X7_weigh_b52 s.2 l2 s.1) s
theorem s_X7_weigh_l52_ok {d L : Nat} {M : fM} {l2 l3 : Int} {o1 : Option fV} {r : fM} {Q : fO → fH → Prop} (h : s_X7_weigh_l52 l2 (l3, M) = some r) (hE : ∀ (e : fM) (o1' o3' : Option fV), r = e → Wp (d + 5, 89, 88, 0, 0, [some (fA 54), o1', some (fI l2), o3'], []) (156, fjl L, e) Q) : Wp (d + 5, 89, 52, 0, 0, [some (fA 54), o1, some (fI l2), some (fI l3)], []) (156, fjl L, M) Q := by
  refine fLp_wp (W := fun s => ∀ (o1 : Option fV), Wp (d + 5, 89, 52, 0, 0, [some (fA 54), o1, some (fI l2), some (fI s.1)], []) (156, fjl L, s.2) Q) (e := r) ?_ h _
  intro s r1 h hC hX o1
  refine s_X7_weigh_b52_ok (d := d) h (fun a0 a1 _ e1 => ?_) (fun e u0 u1 e1 => hE e u0 u1 (hX _ e1).symm)
  exact hC _ e1 _
theorem s_X7_weigh_l52_fr {M : fM} {l2 l3 : Int} {r : fM} (h : s_X7_weigh_l52 l2 (l3, M) = some r) : fSame s_X7_weigh_mods M ((fun e => e) r) := by
  refine fLp_inv (I := fun s => fSame s_X7_weigh_mods M s.2) (J := fun r => fSame s_X7_weigh_mods M ((fun e => e) r)) h fs_refl (fun s s1 hs hb => ?_) (fun s e hs hb => ?_)
  · exact fs_trans hs (s_X7_weigh_b52_fr hb)
  · exact fs_trans hs (s_X7_weigh_b52_fr hb)
noncomputable def s_X7_weigh_b42 (M : fM) (l2 : Int) : Option ((Int × fM) ⊕ fM) :=
  if (M 54 17) ≤ l2 then
    some (.inr M)
  else
    (s_X7_weigh_l52 l2 (0, M)).bind fun e52 =>
      if fin (l2 + 1) then
        some (.inl ((l2 + 1), e52))
      else none
theorem s_X7_weigh_b42_ok {d L : Nat} {M : fM} {l2 : Int} {o1 o3 : Option fV} {r : ((Int × fM) ⊕ fM)} {Q : fO → fH → Prop} (h : s_X7_weigh_b42 M l2 = some r) (hC : ∀ (l2' : Int) (M' : fM) (o1' o3' : Option fV), r = .inl (l2', M') → Wp (d + 5, 89, 42, 0, 0, [some (fA 54), o1', some (fI l2'), o3'], []) (156, fjl L, M') Q) (hE : ∀ (e : fM) (o0' o1' o2' o3' : Option fV), r = .inr e → Wp (d + 5, 89, 94, 0, 0, [o0', o1', o2', o3'], []) (156, fjl L, e) Q) : Wp (d + 5, 89, 42, 0, 0, [some (fA 54), o1, some (fI l2), o3], []) (156, fjl L, M) Q := by
  unfold s_X7_weigh_b42 at h
  refine Wp.run 3 (f' := (d + 5, 89, 47, 0, 0, [some (fA 54), _, some (fI l2), _], [fI (M 54 17), fI l2])) (h' := (156, fjl L, M)) rfl trivial ?_
  refine Wp.br rfl (fun (c : (M 54 17) ≤ l2) => ?_) (fun (c : ¬ ((M 54 17) ≤ l2)) => ?_)
  · replace h := fps c h
    exact hE _ _ _ _ _ (Option.some.inj h).symm
  · replace h := fng c h
    refine Wp.run 2 (f' := (d + 5, 89, 52, 0, 0, [some (fA 54), _, some (fI l2), some (fI 0)], [])) (h' := (156, fjl L, M)) rfl trivial ?_
    obtain ⟨e52, hy, h⟩ := fbd h
    refine s_X7_weigh_l52_ok hy (fun x u1 u3 ex => ?_)
    cases ex
    show Wp (d + 5, 89, 88, 0, 0, [some (fA 54), u1, some (fI l2), u3], []) (156, fjl L, e52) Q
    obtain ⟨g0, h⟩ := fgd h
    refine Wp.run 2 (f' := (d + 5, 89, 42, 0, 0, [some (fA 54), _, some (fI (fw (l2 + 1))), _], [])) (h' := (156, fjl L, e52)) rfl trivial ?_
    rw [fw_id g0]
    exact hC _ _ _ _ (Option.some.inj h).symm
theorem s_X7_weigh_b42_fr {M : fM} {l2 : Int} {r : ((Int × fM) ⊕ fM)} (h : s_X7_weigh_b42 M l2 = some r) : fSame s_X7_weigh_mods M (Sum.elim (fun s => s.2) (fun e => e) r) := by
  unfold s_X7_weigh_b42 at h
  by_cases c : (M 54 17) ≤ l2
  · replace h := fps c h
    obtain rfl := Option.some.inj h
    exact fs_refl
  · replace h := fng c h
    obtain ⟨e52, hy, h⟩ := fbd h
    have k52 := fs_trans (l := s_X7_weigh_mods) fs_refl (s_X7_weigh_l52_fr hy)
    replace h := (fgd h).2
    obtain rfl := Option.some.inj h
    exact k52
noncomputable def s_X7_weigh_l42 (s : (Int × fM)) : Option fM := fLp (fun s => s_X7_weigh_b42 s.2 s.1) s
theorem s_X7_weigh_l42_ok {d L : Nat} {M : fM} {l2 : Int} {o1 o3 : Option fV} {r : fM} {Q : fO → fH → Prop} (h : s_X7_weigh_l42 (l2, M) = some r) (hE : ∀ (e : fM) (o0' o1' o2' o3' : Option fV), r = e → Wp (d + 5, 89, 94, 0, 0, [o0', o1', o2', o3'], []) (156, fjl L, e) Q) : Wp (d + 5, 89, 42, 0, 0, [some (fA 54), o1, some (fI l2), o3], []) (156, fjl L, M) Q := by
  refine fLp_wp (W := fun s => ∀ (o1 o3 : Option fV), Wp (d + 5, 89, 42, 0, 0, [some (fA 54), o1, some (fI s.1), o3], []) (156, fjl L, s.2) Q) (e := r) ?_ h _ _
  intro s r1 h hC hX o1 o3
  refine s_X7_weigh_b42_ok (d := d) h (fun a0 a1 _ _ e1 => ?_) (fun e u0 u1 u2 u3 e1 => hE e u0 u1 u2 u3 (hX _ e1).symm)
  exact hC _ e1 _ _
theorem s_X7_weigh_l42_fr {M : fM} {l2 : Int} {r : fM} (h : s_X7_weigh_l42 (l2, M) = some r) : fSame s_X7_weigh_mods M ((fun e => e) r) := by
  refine fLp_inv (I := fun s => fSame s_X7_weigh_mods M s.2) (J := fun r => fSame s_X7_weigh_mods M ((fun e => e) r)) h fs_refl (fun s s1 hs hb => ?_) (fun s e hs hb => ?_)
  · exact fs_trans hs (s_X7_weigh_b42_fr hb)
  · exact fs_trans hs (s_X7_weigh_b42_fr hb)
noncomputable def s_X7_weigh (M : fM) (l1 : Int) : Option (Unit × fM) :=
  (s_X7_weigh_l2 l1 (0, M)).bind fun e2 =>
    (s_X7_weigh_l42 (0, (fup e2 61 0 0))).bind fun e42 =>
      some ((), e42)
theorem s_X7_weigh_ok {d L : Nat} {M : fM} {l1 : Int} {r : (Unit × fM)} {Q : fO → fH → Prop} (h : s_X7_weigh M l1 = some r) (H : Q (oV r.1) (156, fjl L, r.2)) : Wp (d + 5, 89, 0, 0, 0, [some (fA 54), some (fI l1), none, none], []) (156, fjl L, M) Q := by
  unfold s_X7_weigh at h
  refine Wp.run 2 (f' := (d + 5, 89, 2, 0, 0, [some (fA 54), some (fI l1), some (fI 0), _], [])) (h' := (156, fjl L, M)) rfl trivial ?_
  obtain ⟨e2, hy, h⟩ := fbd h
  refine s_X7_weigh_l2_ok hy (fun x u1 u2 u3 ex => ?_)
  cases ex
  show Wp (d + 5, 89, 33, 0, 0, [some (fA 54), u1, u2, u3], []) (156, fjl L, e2) Q
  refine Wp.run 7 (P := [(0 : Int) ≤ 0 ∧ (0 : Int) < 512]) (f' := (d + 5, 89, 42, 0, 0, [some (fA 54), _, some (fI 0), _], [])) (h' := (156, fjl L, (fup e2 61 0 0))) rfl ?_ ?_
  · exact (by decide : (0 : Int) ≤ 0 ∧ (0 : Int) < 512)
  obtain ⟨e42, hy, h⟩ := fbd h
  refine s_X7_weigh_l42_ok hy (fun x u0 u1 u2 u3 ex => ?_)
  cases ex
  show Wp (d + 5, 89, 94, 0, 0, [u0, u1, u2, u3], []) (156, fjl L, e42) Q
  obtain rfl := Option.some.inj h
  exact Wp.done rfl (by decide) H
theorem s_X7_weigh_fr {M : fM} {l1 : Int} {r : (Unit × fM)} (h : s_X7_weigh M l1 = some r) : fSame s_X7_weigh_mods M r.2 := by
  unfold s_X7_weigh at h
  obtain ⟨e2, hy, h⟩ := fbd h
  have k2 := fs_trans (l := s_X7_weigh_mods) fs_refl (s_X7_weigh_l2_fr hy)
  obtain ⟨e42, hy, h⟩ := fbd h
  have k42 := fs_trans (l := s_X7_weigh_mods) (fs_up k2 (.inl (by decide))) (s_X7_weigh_l42_fr hy)
  obtain rfl := Option.some.inj h
  exact k42
noncomputable def s_X2_tunerX_4 (M : fM) (l1 : Int) : Option Int :=
  if fin (l1 * 3) ∧ (0 ≤ (l1 * 3) ∧ (l1 * 3) < 18) then
    some (M 13 (l1 * 3).toNat)
  else none
theorem s_X2_tunerX_4_ok {d L : Nat} {M : fM} {l1 : Int} {r : Int} {Q : fO → fH → Prop} (h : s_X2_tunerX_4 M l1 = some r) (H : Q (oI r) (156, fjl L, M)) : Wp (d + 0, 34, 0, 0, 0, [some (fA 4), some (fI l1)], []) (156, fjl L, M) Q := by
  unfold s_X2_tunerX_4 at h
  obtain ⟨⟨g0, g1⟩, h⟩ := fgd h
  refine Wp.run 6 (P := [0 ≤ (fw (l1 * 3)) ∧ (fw (l1 * 3)) < 18]) (f' := (d + 0, 34, 8, 0, 0, [_, _], [fI (M 13 (fw (l1 * 3)).toNat)])) (h' := (156, fjl L, M)) rfl ?_ ?_
  · rw [fw_id g0]; exact g1
  rw [fw_id g0]
  obtain rfl := Option.some.inj h
  exact Wp.done rfl (by decide) H
noncomputable def s_X2_tunerY_4 (M : fM) (l1 : Int) : Option Int :=
  if fin (l1 * 3) ∧ fin ((l1 * 3) + 1) ∧ (0 ≤ ((l1 * 3) + 1) ∧ ((l1 * 3) + 1) < 18) then
    some (M 13 ((l1 * 3) + 1).toNat)
  else none
theorem s_X2_tunerY_4_ok {d L : Nat} {M : fM} {l1 : Int} {r : Int} {Q : fO → fH → Prop} (h : s_X2_tunerY_4 M l1 = some r) (H : Q (oI r) (156, fjl L, M)) : Wp (d + 0, 35, 0, 0, 0, [some (fA 4), some (fI l1)], []) (156, fjl L, M) Q := by
  unfold s_X2_tunerY_4 at h
  obtain ⟨⟨g0, g1, g2⟩, h⟩ := fgd h
  refine Wp.run 8 (P := [0 ≤ (fw ((fw (l1 * 3)) + 1)) ∧ (fw ((fw (l1 * 3)) + 1)) < 18]) (f' := (d + 0, 35, 10, 0, 0, [_, _], [fI (M 13 (fw ((fw (l1 * 3)) + 1)).toNat)])) (h' := (156, fjl L, M)) rfl ?_ ?_
  · rw [fw_id g0, fw_id g1]; exact g2
  rw [fw_id g0, fw_id g1]
  obtain rfl := Option.some.inj h
  exact Wp.done rfl (by decide) H
abbrev s_X7_liveWith_mods : List (Nat × Option Nat) := [(56, none), (57, none)]
noncomputable def s_X7_liveWith (M : fM) (l1 : Int) : Option (Unit × fM) :=
  (s_X2_tunerX_4 M l1).bind fun y11 =>
    (s_X2_tunerY_4 (fup M 56 9 y11) l1).bind fun y26 =>
      some ((), (fup (fup M 56 9 y11) 57 9 y26))
theorem s_X7_liveWith_ok {d L : Nat} {M : fM} {l1 : Int} {r : (Unit × fM)} {Q : fO → fH → Prop} (h : s_X7_liveWith M l1 = some r) (H : Q (oV r.1) (156, fjl L, r.2)) : Wp (d + 1, 90, 0, 0, 0, [some (fA 54), some (fI l1)], []) (156, fjl L, M) Q := by
  unfold s_X7_liveWith at h
  refine Wp.run 6 (f' := (d + 1, 90, 11, 0, 0, [some (fA 54), some (fI l1)], [fI l1, fA 4, fI 9, fA 56])) (h' := (156, fjl L, M)) rfl trivial ?_
  obtain ⟨y11, hy, h⟩ := fbd h
  refine Wp.call rfl (by decide) (s_X2_tunerX_4_ok (d := d + 0) hy ?_)
  show Wp (d + 1, 90, 14, 0, 0, [some (fA 54), some (fI l1)], [fI y11, fI 9, fA 56]) (156, fjl L, M) Q
  refine Wp.run 7 (P := [(0 : Int) ≤ 9 ∧ (9 : Int) < 10]) (f' := (d + 1, 90, 26, 0, 0, [_, _], [fI l1, fA 4, fI 9, fA 57])) (h' := (156, fjl L, (fup M 56 9 y11))) rfl ?_ ?_
  · exact (by decide : (0 : Int) ≤ 9 ∧ (9 : Int) < 10)
  obtain ⟨y26, hy, h⟩ := fbd h
  refine Wp.call rfl (by decide) (s_X2_tunerY_4_ok (d := d + 0) hy ?_)
  show Wp (d + 1, 90, 29, 0, 0, [_, _], [fI y26, fI 9, fA 57]) (156, fjl L, (fup M 56 9 y11)) Q
  refine Wp.run 1 (P := [(0 : Int) ≤ 9 ∧ (9 : Int) < 10]) (f' := (d + 1, 90, 30, 0, 0, [_, _], [])) (h' := (156, fjl L, (fup (fup M 56 9 y11) 57 9 y26))) rfl ?_ ?_
  · exact (by decide : (0 : Int) ≤ 9 ∧ (9 : Int) < 10)
  obtain rfl := Option.some.inj h
  exact Wp.done rfl (by decide) H
theorem s_X7_liveWith_fr {M : fM} {l1 : Int} {r : (Unit × fM)} (h : s_X7_liveWith M l1 = some r) : fSame s_X7_liveWith_mods M r.2 := by
  unfold s_X7_liveWith at h
  obtain ⟨y11, hy, h⟩ := fbd h
  obtain ⟨y26, hy, h⟩ := fbd h
  obtain rfl := Option.some.inj h
  exact fs_up (fs_up fs_refl (.inl (by decide))) (.inl (by decide))
noncomputable def s_X7_minutes (M : fM) (l1 l2 : Int) : Option Int :=
  if (0 ≤ l1 ∧ l1 < 10) ∧ (0 ≤ l2 ∧ l2 < 10) ∧ fin ((M 56 (l1).toNat) - (M 56 (l2).toNat)) then
    (s_J9_abs M ((M 56 (l1).toNat) - (M 56 (l2).toNat))).bind fun y13 =>
      if (0 ≤ l1 ∧ l1 < 10) ∧ (0 ≤ l2 ∧ l2 < 10) ∧ fin ((M 57 (l1).toNat) - (M 57 (l2).toNat)) then
        (s_J9_abs M ((M 57 (l1).toNat) - (M 57 (l2).toNat))).bind fun y29 =>
          if fin (y13 + y29) ∧ fin ((y13 + y29) * (M 8 2)) then
            some ((y13 + y29) * (M 8 2))
          else none
      else none
  else none
theorem s_X7_minutes_ok {d L : Nat} {M : fM} {l1 l2 : Int} {r : Int} {Q : fO → fH → Prop} (h : s_X7_minutes M l1 l2 = some r) (H : Q (oI r) (156, fjl L, M)) : Wp (d + 1, 92, 0, 0, 0, [some (fA 54), some (fI l1), some (fI l2), none], []) (156, fjl L, M) Q := by
  unfold s_X7_minutes at h
  obtain ⟨⟨g0, g1, g2⟩, h⟩ := fgd h
  refine Wp.run 9 (P := [0 ≤ l1 ∧ l1 < 10, 0 ≤ l2 ∧ l2 < 10]) (f' := (d + 1, 92, 13, 0, 0, [some (fA 54), some (fI l1), some (fI l2), _], [fI (fw ((M 56 (l1).toNat) - (M 56 (l2).toNat)))])) (h' := (156, fjl L, M)) rfl ?_ ?_
  · exact ⟨g0, g1⟩
  rw [fw_id g2]
  obtain ⟨y13, hy, h⟩ := fbd h
  refine Wp.call rfl (by decide) (s_J9_abs_ok (d := d + 0) hy ?_)
  show Wp (d + 1, 92, 16, 0, 0, [some (fA 54), some (fI l1), some (fI l2), _], [fI y13]) (156, fjl L, M) Q
  obtain ⟨⟨g0, g1, g2⟩, h⟩ := fgd h
  refine Wp.run 9 (P := [0 ≤ l1 ∧ l1 < 10, 0 ≤ l2 ∧ l2 < 10]) (f' := (d + 1, 92, 29, 0, 0, [some (fA 54), _, _, _], [fI (fw ((M 57 (l1).toNat) - (M 57 (l2).toNat))), fI y13])) (h' := (156, fjl L, M)) rfl ?_ ?_
  · exact ⟨g0, g1⟩
  rw [fw_id g2]
  obtain ⟨y29, hy, h⟩ := fbd h
  refine Wp.call rfl (by decide) (s_J9_abs_ok (d := d + 0) hy ?_)
  show Wp (d + 1, 92, 32, 0, 0, [some (fA 54), _, _, _], [fI y29, fI y13]) (156, fjl L, M) Q
  obtain ⟨⟨g0, g1⟩, h⟩ := fgd h
  refine Wp.run 9 (P := [(0 : Int) ≤ 2 ∧ (2 : Int) < 6]) (f' := (d + 1, 92, 45, 0, 0, [_, _, _, _], [fI (fw ((fw (y13 + y29)) * (M 8 2)))])) (h' := (156, fjl L, M)) rfl ?_ ?_
  · exact (by decide : (0 : Int) ≤ 2 ∧ (2 : Int) < 6)
  rw [fw_id g0, fw_id g1]
  obtain rfl := Option.some.inj h
  exact Wp.done rfl (by decide) H
noncomputable def s_X7_doneAt (M : fM) (l1 l2 : Int) : Option Int :=
  if (0 ≤ l1 ∧ l1 < 9) then
    (s_J9_max M l2 (M 58 (l1).toNat)).bind fun y7 =>
      if fin (y7 + (M 8 3)) ∧ (0 ≤ l1 ∧ l1 < 9) then
        if (M 59 (l1).toNat) < (y7 + (M 8 3)) then
          some 1000000
        else
          some (y7 + (M 8 3))
      else none
  else none
theorem s_X7_doneAt_ok {d L : Nat} {M : fM} {l1 l2 : Int} {r : Int} {Q : fO → fH → Prop} (h : s_X7_doneAt M l1 l2 = some r) (H : Q (oI r) (156, fjl L, M)) : Wp (d + 1, 93, 0, 0, 0, [some (fA 54), some (fI l1), some (fI l2), none], []) (156, fjl L, M) Q := by
  unfold s_X7_doneAt at h
  obtain ⟨g0, h⟩ := fgd h
  refine Wp.run 5 (P := [0 ≤ l1 ∧ l1 < 9]) (f' := (d + 1, 93, 7, 0, 0, [some (fA 54), some (fI l1), _, _], [fI (M 58 (l1).toNat), fI l2])) (h' := (156, fjl L, M)) rfl ?_ ?_
  · exact g0
  obtain ⟨y7, hy, h⟩ := fbd h
  refine Wp.call rfl (by decide) (s_J9_max_ok (d := d + 0) hy ?_)
  show Wp (d + 1, 93, 10, 0, 0, [some (fA 54), some (fI l1), _, _], [fI y7]) (156, fjl L, M) Q
  obtain ⟨⟨g0, g1⟩, h⟩ := fgd h
  refine Wp.run 12 (P := [(0 : Int) ≤ 3 ∧ (3 : Int) < 6, 0 ≤ l1 ∧ l1 < 9]) (f' := (d + 1, 93, 28, 0, 0, [_, _, _, some (fI (fw (y7 + (M 8 3))))], [fI (M 59 (l1).toNat), fI (fw (y7 + (M 8 3)))])) (h' := (156, fjl L, M)) rfl ?_ ?_
  · exact ⟨(by decide : (0 : Int) ≤ 3 ∧ (3 : Int) < 6), g1⟩
  rw [fw_id g0]
  refine Wp.br rfl (fun (c : (M 59 (l1).toNat) < (y7 + (M 8 3))) => ?_) (fun (c : ¬ ((M 59 (l1).toNat) < (y7 + (M 8 3)))) => ?_)
  · replace h := fps c h
    refine Wp.run 1 (f' := (d + 1, 93, 37, 0, 0, [_, _, _, _], [fI 1000000])) (h' := (156, fjl L, M)) rfl trivial ?_
    obtain rfl := Option.some.inj h
    exact Wp.done rfl (by decide) H
  · replace h := fng c h
    refine Wp.run 2 (f' := (d + 1, 93, 37, 0, 0, [_, _, _, _], [fI (y7 + (M 8 3))])) (h' := (156, fjl L, M)) rfl trivial ?_
    obtain rfl := Option.some.inj h
    exact Wp.done rfl (by decide) H
noncomputable def s_X7_soonestDone_b33 (M : fM) (l1 l2 l3 l4 : Int) : Option ((Int × Int) ⊕ Int) :=
  if (M 54 17) ≤ l4 then
    some (.inr l3)
  else
    if ¬ (fand (fshr l1 l4) 1) = 1 then
      if fin (l4 + 1) then
        some (.inl (l3, (l4 + 1)))
      else none
    else
      if fin (l1 * 9) ∧ fin ((l1 * 9) + l4) ∧ (0 ≤ ((l1 * 9) + l4) ∧ ((l1 * 9) + l4) < 4608) then
        if 1000000 ≤ (M 62 ((l1 * 9) + l4).toNat) then
          if fin (l4 + 1) then
            some (.inl (l3, (l4 + 1)))
          else none
        else
          if fin (l1 * 9) ∧ fin ((l1 * 9) + l4) ∧ (0 ≤ ((l1 * 9) + l4) ∧ ((l1 * 9) + l4) < 4608) then
            (s_X7_minutes M l4 l2).bind fun y88 =>
              if fin ((M 62 ((l1 * 9) + l4).toNat) + y88) then
                (s_X7_doneAt M l2 ((M 62 ((l1 * 9) + l4).toNat) + y88)).bind fun y92 =>
                  (s_J9_min M l3 y92).bind fun y95 =>
                    if fin (l4 + 1) then
                      some (.inl (y95, (l4 + 1)))
                    else none
              else none
          else none
      else none
theorem s_X7_soonestDone_b33_ok {d L : Nat} {M : fM} {l1 l2 l3 l4 : Int} {r : ((Int × Int) ⊕ Int)} {Q : fO → fH → Prop} (h : s_X7_soonestDone_b33 M l1 l2 l3 l4 = some r) (hC : ∀ (l3' l4' : Int), r = .inl (l3', l4') → Wp (d + 2, 95, 33, 0, 0, [some (fA 54), some (fI l1), some (fI l2), some (fI l3'), some (fI l4')], []) (156, fjl L, M) Q) (hE : ∀ (e : Int) (o0' o1' o2' o4' : Option fV), r = .inr e → Wp (d + 2, 95, 105, 0, 0, [o0', o1', o2', some (fI e), o4'], []) (156, fjl L, M) Q) : Wp (d + 2, 95, 33, 0, 0, [some (fA 54), some (fI l1), some (fI l2), some (fI l3), some (fI l4)], []) (156, fjl L, M) Q := by
  unfold s_X7_soonestDone_b33 at h
  refine Wp.run 3 (f' := (d + 2, 95, 39, 0, 0, [some (fA 54), some (fI l1), some (fI l2), some (fI l3), some (fI l4)], [fI (M 54 17), fI l4])) (h' := (156, fjl L, M)) rfl trivial ?_
  refine Wp.br rfl (fun (c : (M 54 17) ≤ l4) => ?_) (fun (c : ¬ ((M 54 17) ≤ l4)) => ?_)
  · replace h := fps c h
    exact hE _ _ _ _ _ (Option.some.inj h).symm
  · replace h := fng c h
    refine Wp.run 6 (f' := (d + 2, 95, 49, 0, 0, [some (fA 54), some (fI l1), some (fI l2), some (fI l3), some (fI l4)], [fI 1, fI (fand (fshr l1 l4) 1)])) (h' := (156, fjl L, M)) rfl trivial ?_
    refine Wp.br rfl (fun (c : ¬ (fand (fshr l1 l4) 1) = 1) => ?_) (fun (c : ¬ (¬ (fand (fshr l1 l4) 1) = 1)) => ?_)
    · replace h := fps c h
      obtain ⟨g0, h⟩ := fgd h
      refine Wp.run 2 (f' := (d + 2, 95, 33, 0, 0, [some (fA 54), some (fI l1), some (fI l2), some (fI l3), some (fI (fw (l4 + 1)))], [])) (h' := (156, fjl L, M)) rfl trivial ?_
      rw [fw_id g0]
      exact hC _ _ (Option.some.inj h).symm
    · replace h := fng c h
      obtain ⟨⟨g0, g1, g2⟩, h⟩ := fgd h
      refine Wp.run 9 (P := [0 ≤ (fw ((fw (l1 * 9)) + l4)) ∧ (fw ((fw (l1 * 9)) + l4)) < 4608]) (f' := (d + 2, 95, 66, 0, 0, [some (fA 54), some (fI l1), some (fI l2), some (fI l3), some (fI l4)], [fI 1000000, fI (M 62 (fw ((fw (l1 * 9)) + l4)).toNat)])) (h' := (156, fjl L, M)) rfl ?_ ?_
      · rw [fw_id g0, fw_id g1]; exact g2
      rw [fw_id g0, fw_id g1]
      refine Wp.br rfl (fun (c : 1000000 ≤ (M 62 ((l1 * 9) + l4).toNat)) => ?_) (fun (c : ¬ (1000000 ≤ (M 62 ((l1 * 9) + l4).toNat))) => ?_)
      · replace h := fps c h
        obtain ⟨g0, h⟩ := fgd h
        refine Wp.run 2 (f' := (d + 2, 95, 33, 0, 0, [some (fA 54), some (fI l1), some (fI l2), some (fI l3), some (fI (fw (l4 + 1)))], [])) (h' := (156, fjl L, M)) rfl trivial ?_
        rw [fw_id g0]
        exact hC _ _ (Option.some.inj h).symm
      · replace h := fng c h
        obtain ⟨⟨g0, g1, g2⟩, h⟩ := fgd h
        refine Wp.run 14 (P := [0 ≤ (fw ((fw (l1 * 9)) + l4)) ∧ (fw ((fw (l1 * 9)) + l4)) < 4608]) (f' := (d + 2, 95, 88, 0, 0, [some (fA 54), some (fI l1), some (fI l2), _, some (fI l4)], [fI l2, fI l4, fA 54, fI (M 62 (fw ((fw (l1 * 9)) + l4)).toNat), fI l2, fA 54, fI l3])) (h' := (156, fjl L, M)) rfl ?_ ?_
        · rw [fw_id g0, fw_id g1]; exact g2
        rw [fw_id g0, fw_id g1]
        obtain ⟨y88, hy, h⟩ := fbd h
        refine Wp.call rfl (by decide) (s_X7_minutes_ok (d := d + 0) hy ?_)
        show Wp (d + 2, 95, 91, 0, 0, [some (fA 54), some (fI l1), some (fI l2), _, some (fI l4)], [fI y88, fI (M 62 ((l1 * 9) + l4).toNat), fI l2, fA 54, fI l3]) (156, fjl L, M) Q
        obtain ⟨g0, h⟩ := fgd h
        refine Wp.run 1 (f' := (d + 2, 95, 92, 0, 0, [some (fA 54), some (fI l1), some (fI l2), _, some (fI l4)], [fI (fw ((M 62 ((l1 * 9) + l4).toNat) + y88)), fI l2, fA 54, fI l3])) (h' := (156, fjl L, M)) rfl trivial ?_
        rw [fw_id g0]
        obtain ⟨y92, hy, h⟩ := fbd h
        refine Wp.call rfl (by decide) (s_X7_doneAt_ok (d := d + 0) hy ?_)
        show Wp (d + 2, 95, 95, 0, 0, [some (fA 54), some (fI l1), some (fI l2), _, some (fI l4)], [fI y92, fI l3]) (156, fjl L, M) Q
        obtain ⟨y95, hy, h⟩ := fbd h
        refine Wp.call rfl (by decide) (s_J9_min_ok (d := d + 1) hy ?_)
        show Wp (d + 2, 95, 98, 0, 0, [some (fA 54), some (fI l1), some (fI l2), _, some (fI l4)], [fI y95]) (156, fjl L, M) Q
        obtain ⟨g0, h⟩ := fgd h
        refine Wp.run 3 (f' := (d + 2, 95, 33, 0, 0, [some (fA 54), some (fI l1), some (fI l2), some (fI y95), some (fI (fw (l4 + 1)))], [])) (h' := (156, fjl L, M)) rfl trivial ?_
        rw [fw_id g0]
        exact hC _ _ (Option.some.inj h).symm
noncomputable def s_X7_soonestDone_l33 (M : fM) (l1 l2 : Int) (s : (Int × Int)) : Option Int := fLp (fun s => s_X7_soonestDone_b33 M l1 l2 s.1 s.2) s
theorem s_X7_soonestDone_l33_ok {d L : Nat} {M : fM} {l1 l2 l3 l4 : Int} {r : Int} {Q : fO → fH → Prop} (h : s_X7_soonestDone_l33 M l1 l2 (l3, l4) = some r) (hE : ∀ (e : Int) (o0' o1' o2' o4' : Option fV), r = e → Wp (d + 2, 95, 105, 0, 0, [o0', o1', o2', some (fI e), o4'], []) (156, fjl L, M) Q) : Wp (d + 2, 95, 33, 0, 0, [some (fA 54), some (fI l1), some (fI l2), some (fI l3), some (fI l4)], []) (156, fjl L, M) Q := by
  refine fLp_wp (W := fun s => Wp (d + 2, 95, 33, 0, 0, [some (fA 54), some (fI l1), some (fI l2), some (fI s.1), some (fI s.2)], []) (156, fjl L, M) Q) (e := r) ?_ h
  intro s r1 h hC hX
  refine s_X7_soonestDone_b33_ok (d := d) h (fun a0 a1 e1 => ?_) (fun e u0 u1 u2 u3 e1 => hE e u0 u1 u2 u3 (hX _ e1).symm)
  exact hC _ e1
noncomputable def s_X7_soonestDone (M : fM) (l1 l2 : Int) : Option Int :=
  if ¬ l1 = 0 then
    (s_X7_soonestDone_l33 M l1 l2 (1000000, 0)).bind fun e33 =>
      some e33
  else
    (s_X7_minutes M 9 l2).bind fun y19 =>
      if fin ((M 8 4) + y19) then
        (s_X7_doneAt M l2 ((M 8 4) + y19)).bind fun y23 =>
          some y23
      else none
theorem s_X7_soonestDone_ok {d L : Nat} {M : fM} {l1 l2 : Int} {r : Int} {Q : fO → fH → Prop} (h : s_X7_soonestDone M l1 l2 = some r) (H : Q (oI r) (156, fjl L, M)) : Wp (d + 2, 95, 0, 0, 0, [some (fA 54), some (fI l1), some (fI l2), none, none], []) (156, fjl L, M) Q := by
  unfold s_X7_soonestDone at h
  refine Wp.run 1 (f' := (d + 2, 95, 1, 0, 0, [some (fA 54), some (fI l1), some (fI l2), _, _], [fI l1])) (h' := (156, fjl L, M)) rfl trivial ?_
  refine Wp.br rfl (fun (c : ¬ l1 = 0) => ?_) (fun (c : ¬ (¬ l1 = 0)) => ?_)
  · replace h := fps c h
    refine Wp.run 4 (f' := (d + 2, 95, 33, 0, 0, [some (fA 54), some (fI l1), some (fI l2), some (fI 1000000), some (fI 0)], [])) (h' := (156, fjl L, M)) rfl trivial ?_
    obtain ⟨e33, hy, h⟩ := fbd h
    refine s_X7_soonestDone_l33_ok hy (fun x u0 u1 u2 u4 ex => ?_)
    cases ex
    show Wp (d + 2, 95, 105, 0, 0, [u0, u1, u2, some (fI e33), u4], []) (156, fjl L, M) Q
    refine Wp.run 1 (f' := (d + 2, 95, 106, 0, 0, [_, _, _, _, _], [fI e33])) (h' := (156, fjl L, M)) rfl trivial ?_
    obtain rfl := Option.some.inj h
    exact Wp.done rfl (by decide) H
  · replace h := fng c h
    refine Wp.run 10 (P := [(0 : Int) ≤ 4 ∧ (4 : Int) < 6]) (f' := (d + 2, 95, 19, 0, 0, [_, _, _, _, _], [fI l2, fI 9, fA 54, fI (M 8 4), fI l2, fA 54])) (h' := (156, fjl L, M)) rfl ?_ ?_
    · exact (by decide : (0 : Int) ≤ 4 ∧ (4 : Int) < 6)
    obtain ⟨y19, hy, h⟩ := fbd h
    refine Wp.call rfl (by decide) (s_X7_minutes_ok (d := d + 0) hy ?_)
    show Wp (d + 2, 95, 22, 0, 0, [_, _, _, _, _], [fI y19, fI (M 8 4), fI l2, fA 54]) (156, fjl L, M) Q
    obtain ⟨g0, h⟩ := fgd h
    refine Wp.run 1 (f' := (d + 2, 95, 23, 0, 0, [_, _, _, _, _], [fI (fw ((M 8 4) + y19)), fI l2, fA 54])) (h' := (156, fjl L, M)) rfl trivial ?_
    rw [fw_id g0]
    obtain ⟨y23, hy, h⟩ := fbd h
    refine Wp.call rfl (by decide) (s_X7_doneAt_ok (d := d + 0) hy ?_)
    show Wp (d + 2, 95, 26, 0, 0, [_, _, _, _, _], [fI y23]) (156, fjl L, M) Q
    obtain rfl := Option.some.inj h
    exact Wp.done rfl (by decide) H
abbrev s_X7_fillHomes_mods : List (Nat × Option Nat) := [(56, none), (57, none), (62, none), (63, none)]
noncomputable def s_X7_fillHomes_b36 (M : fM) (l2 l3 l4 : Int) : Option ((Int × Int × fM) ⊕ (Int × fM)) :=
  if (M 54 17) ≤ l4 then
    some (.inr (l3, M))
  else
    if ¬ (fand (fshr l2 l4) 1) = 1 then
      if fin (l4 + 1) then
        some (.inl (l3, (l4 + 1), M))
      else none
    else
      (s_X7_soonestDone M (fand l2 (fxor (fshl 1 l4) (-1))) l4).bind fun y66 =>
        if fin (l2 * 9) ∧ fin ((l2 * 9) + l4) ∧ (0 ≤ ((l2 * 9) + l4) ∧ ((l2 * 9) + l4) < 4608) then
          (s_X7_minutes (fup M 62 ((l2 * 9) + l4).toNat y66) l4 9).bind fun y93 =>
            if fin (y66 + y93) then
              (s_J9_min (fup M 62 ((l2 * 9) + l4).toNat y66) l3 (y66 + y93)).bind fun y97 =>
                if fin (l4 + 1) then
                  some (.inl (y97, (l4 + 1), (fup M 62 ((l2 * 9) + l4).toNat y66)))
                else none
            else none
        else none
theorem s_X7_fillHomes_b36_ok {d L : Nat} {M : fM} {l2 l3 l4 : Int} {o1 o5 : Option fV} {r : ((Int × Int × fM) ⊕ (Int × fM))} {Q : fO → fH → Prop} (h : s_X7_fillHomes_b36 M l2 l3 l4 = some r) (hC : ∀ (l3' l4' : Int) (M' : fM) (o1' o5' : Option fV), r = .inl (l3', l4', M') → Wp (d + 3, 94, 36, 0, 0, [some (fA 54), o1', some (fI l2), some (fI l3'), some (fI l4'), o5'], []) (156, fjl L, M') Q) (hE : ∀ (e : (Int × fM)) (o1' o4' o5' : Option fV), r = .inr e → Wp (d + 3, 94, 107, 0, 0, [some (fA 54), o1', some (fI l2), some (fI e.1), o4', o5'], []) (156, fjl L, e.2) Q) : Wp (d + 3, 94, 36, 0, 0, [some (fA 54), o1, some (fI l2), some (fI l3), some (fI l4), o5], []) (156, fjl L, M) Q := by
  unfold s_X7_fillHomes_b36 at h
  refine Wp.run 3 (f' := (d + 3, 94, 42, 0, 0, [some (fA 54), _, some (fI l2), some (fI l3), some (fI l4), _], [fI (M 54 17), fI l4])) (h' := (156, fjl L, M)) rfl trivial ?_
  refine Wp.br rfl (fun (c : (M 54 17) ≤ l4) => ?_) (fun (c : ¬ ((M 54 17) ≤ l4)) => ?_)
  · replace h := fps c h
    exact hE _ _ _ _ (Option.some.inj h).symm
  · replace h := fng c h
    refine Wp.run 6 (f' := (d + 3, 94, 52, 0, 0, [some (fA 54), _, some (fI l2), some (fI l3), some (fI l4), _], [fI 1, fI (fand (fshr l2 l4) 1)])) (h' := (156, fjl L, M)) rfl trivial ?_
    refine Wp.br rfl (fun (c : ¬ (fand (fshr l2 l4) 1) = 1) => ?_) (fun (c : ¬ (¬ (fand (fshr l2 l4) 1) = 1)) => ?_)
    · replace h := fps c h
      obtain ⟨g0, h⟩ := fgd h
      refine Wp.run 2 (f' := (d + 3, 94, 36, 0, 0, [some (fA 54), _, some (fI l2), some (fI l3), some (fI (fw (l4 + 1))), _], [])) (h' := (156, fjl L, M)) rfl trivial ?_
      rw [fw_id g0]
      exact hC _ _ _ _ _ (Option.some.inj h).symm
    · replace h := fng c h
      refine Wp.run 9 (f' := (d + 3, 94, 66, 0, 0, [some (fA 54), _, some (fI l2), some (fI l3), some (fI l4), _], [fI l4, fI (fand l2 (fxor (fshl 1 l4) (-1))), fA 54])) (h' := (156, fjl L, M)) rfl trivial ?_
      obtain ⟨y66, hy, h⟩ := fbd h
      refine Wp.call rfl (by decide) (s_X7_soonestDone_ok (d := d + 0) hy ?_)
      show Wp (d + 3, 94, 69, 0, 0, [some (fA 54), _, some (fI l2), some (fI l3), some (fI l4), _], [fI y66]) (156, fjl L, M) Q
      obtain ⟨⟨g0, g1, g2⟩, h⟩ := fgd h
      refine Wp.run 15 (P := [0 ≤ (fw ((fw (l2 * 9)) + l4)) ∧ (fw ((fw (l2 * 9)) + l4)) < 4608]) (f' := (d + 3, 94, 93, 0, 0, [some (fA 54), _, some (fI l2), _, some (fI l4), _], [fI 9, fI l4, fA 54, fI y66, fI l3])) (h' := (156, fjl L, (fup M 62 (fw ((fw (l2 * 9)) + l4)).toNat y66))) rfl ?_ ?_
      · rw [fw_id g0, fw_id g1]; exact g2
      rw [fw_id g0, fw_id g1]
      obtain ⟨y93, hy, h⟩ := fbd h
      refine Wp.call rfl (by decide) (s_X7_minutes_ok (d := d + 1) hy ?_)
      show Wp (d + 3, 94, 96, 0, 0, [some (fA 54), _, some (fI l2), _, some (fI l4), _], [fI y93, fI y66, fI l3]) (156, fjl L, (fup M 62 ((l2 * 9) + l4).toNat y66)) Q
      obtain ⟨g0, h⟩ := fgd h
      refine Wp.run 1 (f' := (d + 3, 94, 97, 0, 0, [some (fA 54), _, some (fI l2), _, some (fI l4), _], [fI (fw (y66 + y93)), fI l3])) (h' := (156, fjl L, (fup M 62 ((l2 * 9) + l4).toNat y66))) rfl trivial ?_
      rw [fw_id g0]
      obtain ⟨y97, hy, h⟩ := fbd h
      refine Wp.call rfl (by decide) (s_J9_min_ok (d := d + 2) hy ?_)
      show Wp (d + 3, 94, 100, 0, 0, [some (fA 54), _, some (fI l2), _, some (fI l4), _], [fI y97]) (156, fjl L, (fup M 62 ((l2 * 9) + l4).toNat y66)) Q
      obtain ⟨g0, h⟩ := fgd h
      refine Wp.run 3 (f' := (d + 3, 94, 36, 0, 0, [some (fA 54), _, some (fI l2), some (fI y97), some (fI (fw (l4 + 1))), _], [])) (h' := (156, fjl L, (fup M 62 ((l2 * 9) + l4).toNat y66))) rfl trivial ?_
      rw [fw_id g0]
      exact hC _ _ _ _ _ (Option.some.inj h).symm
theorem s_X7_fillHomes_b36_fr {M : fM} {l2 l3 l4 : Int} {r : ((Int × Int × fM) ⊕ (Int × fM))} (h : s_X7_fillHomes_b36 M l2 l3 l4 = some r) : fSame s_X7_fillHomes_mods M (Sum.elim (fun s => s.2.2) (fun e => e.2) r) := by
  unfold s_X7_fillHomes_b36 at h
  by_cases c : (M 54 17) ≤ l4
  · replace h := fps c h
    obtain rfl := Option.some.inj h
    exact fs_refl
  · replace h := fng c h
    by_cases c : ¬ (fand (fshr l2 l4) 1) = 1
    · replace h := fps c h
      replace h := (fgd h).2
      obtain rfl := Option.some.inj h
      exact fs_refl
    · replace h := fng c h
      obtain ⟨y66, hy, h⟩ := fbd h
      replace h := (fgd h).2
      obtain ⟨y93, hy, h⟩ := fbd h
      replace h := (fgd h).2
      obtain ⟨y97, hy, h⟩ := fbd h
      replace h := (fgd h).2
      obtain rfl := Option.some.inj h
      exact fs_up fs_refl (.inl (by decide))
noncomputable def s_X7_fillHomes_l36 (l2 : Int) (s : (Int × Int × fM)) : Option (Int × fM) := fLp (fun s => s_X7_fillHomes_b36 s.2.2 l2 s.1 s.2.1) s
theorem s_X7_fillHomes_l36_ok {d L : Nat} {M : fM} {l2 l3 l4 : Int} {o1 o5 : Option fV} {r : (Int × fM)} {Q : fO → fH → Prop} (h : s_X7_fillHomes_l36 l2 (l3, l4, M) = some r) (hE : ∀ (e : (Int × fM)) (o1' o4' o5' : Option fV), r = e → Wp (d + 3, 94, 107, 0, 0, [some (fA 54), o1', some (fI l2), some (fI e.1), o4', o5'], []) (156, fjl L, e.2) Q) : Wp (d + 3, 94, 36, 0, 0, [some (fA 54), o1, some (fI l2), some (fI l3), some (fI l4), o5], []) (156, fjl L, M) Q := by
  refine fLp_wp (W := fun s => ∀ (o1 o5 : Option fV), Wp (d + 3, 94, 36, 0, 0, [some (fA 54), o1, some (fI l2), some (fI s.1), some (fI s.2.1), o5], []) (156, fjl L, s.2.2) Q) (e := r) ?_ h _ _
  intro s r1 h hC hX o1 o5
  refine s_X7_fillHomes_b36_ok (d := d) h (fun a0 a1 a2 _ _ e1 => ?_) (fun e u0 u1 u2 e1 => hE e u0 u1 u2 (hX _ e1).symm)
  exact hC _ e1 _ _
theorem s_X7_fillHomes_l36_fr {M : fM} {l2 l3 l4 : Int} {r : (Int × fM)} (h : s_X7_fillHomes_l36 l2 (l3, l4, M) = some r) : fSame s_X7_fillHomes_mods M ((fun e => e.2) r) := by
  refine fLp_inv (I := fun s => fSame s_X7_fillHomes_mods M s.2.2) (J := fun r => fSame s_X7_fillHomes_mods M ((fun e => e.2) r)) h fs_refl (fun s s1 hs hb => ?_) (fun s e hs hb => ?_)
  · exact fs_trans hs (s_X7_fillHomes_b36_fr hb)
  · exact fs_trans hs (s_X7_fillHomes_b36_fr hb)
noncomputable def s_X7_fillHomes_b22 (M : fM) (l2 : Int) : Option ((Int × fM) ⊕ fM) :=
  if (M 54 18) ≤ l2 then
    some (.inr M)
  else
    (s_X7_fillHomes_l36 l2 (1000000, 0, M)).bind fun e36 =>
      if (e36.2 8 5) < e36.1 then
        if (0 ≤ l2 ∧ l2 < 512) ∧ fin (l2 + 1) then
          some (.inl ((l2 + 1), (fup e36.2 63 (l2).toNat 1000000)))
        else none
      else
        if (0 ≤ l2 ∧ l2 < 512) ∧ fin (l2 + 1) then
          some (.inl ((l2 + 1), (fup e36.2 63 (l2).toNat e36.1)))
        else none
theorem s_X7_fillHomes_b22_ok {d L : Nat} {M : fM} {l2 : Int} {o1 o3 o4 o5 : Option fV} {r : ((Int × fM) ⊕ fM)} {Q : fO → fH → Prop} (h : s_X7_fillHomes_b22 M l2 = some r) (hC : ∀ (l2' : Int) (M' : fM) (o1' o3' o4' o5' : Option fV), r = .inl (l2', M') → Wp (d + 3, 94, 22, 0, 0, [some (fA 54), o1', some (fI l2'), o3', o4', o5'], []) (156, fjl L, M') Q) (hE : ∀ (e : fM) (o0' o1' o2' o3' o4' o5' : Option fV), r = .inr e → Wp (d + 3, 94, 138, 0, 0, [o0', o1', o2', o3', o4', o5'], []) (156, fjl L, e) Q) : Wp (d + 3, 94, 22, 0, 0, [some (fA 54), o1, some (fI l2), o3, o4, o5], []) (156, fjl L, M) Q := by
  unfold s_X7_fillHomes_b22 at h
  refine Wp.run 3 (f' := (d + 3, 94, 27, 0, 0, [some (fA 54), _, some (fI l2), _, _, _], [fI (M 54 18), fI l2])) (h' := (156, fjl L, M)) rfl trivial ?_
  refine Wp.br rfl (fun (c : (M 54 18) ≤ l2) => ?_) (fun (c : ¬ ((M 54 18) ≤ l2)) => ?_)
  · replace h := fps c h
    exact hE _ _ _ _ _ _ _ (Option.some.inj h).symm
  · replace h := fng c h
    refine Wp.run 4 (f' := (d + 3, 94, 36, 0, 0, [some (fA 54), _, some (fI l2), some (fI 1000000), some (fI 0), _], [])) (h' := (156, fjl L, M)) rfl trivial ?_
    obtain ⟨e36, hy, h⟩ := fbd h
    refine s_X7_fillHomes_l36_ok hy (fun x u1 u4 u5 ex => ?_)
    cases ex
    show Wp (d + 3, 94, 107, 0, 0, [some (fA 54), u1, some (fI l2), some (fI e36.1), u4, u5], []) (156, fjl L, e36.2) Q
    refine Wp.run 9 (P := [(0 : Int) ≤ 5 ∧ (5 : Int) < 6]) (f' := (d + 3, 94, 122, 0, 0, [some (fA 54), _, some (fI l2), some (fI e36.1), _, _], [fI (e36.2 8 5), fI e36.1, fI l2, fA 63])) (h' := (156, fjl L, e36.2)) rfl ?_ ?_
    · exact (by decide : (0 : Int) ≤ 5 ∧ (5 : Int) < 6)
    refine Wp.br rfl (fun (c : (e36.2 8 5) < e36.1) => ?_) (fun (c : ¬ ((e36.2 8 5) < e36.1)) => ?_)
    · replace h := fps c h
      obtain ⟨⟨g0, g1⟩, h⟩ := fgd h
      refine Wp.run 4 (P := [0 ≤ l2 ∧ l2 < 512]) (f' := (d + 3, 94, 22, 0, 0, [some (fA 54), _, some (fI (fw (l2 + 1))), _, _, _], [])) (h' := (156, fjl L, (fup e36.2 63 (l2).toNat 1000000))) rfl ?_ ?_
      · exact g0
      rw [fw_id g1]
      exact hC _ _ _ _ _ _ (Option.some.inj h).symm
    · replace h := fng c h
      obtain ⟨⟨g0, g1⟩, h⟩ := fgd h
      refine Wp.run 5 (P := [0 ≤ l2 ∧ l2 < 512]) (f' := (d + 3, 94, 22, 0, 0, [some (fA 54), _, some (fI (fw (l2 + 1))), _, _, _], [])) (h' := (156, fjl L, (fup e36.2 63 (l2).toNat e36.1))) rfl ?_ ?_
      · exact g0
      rw [fw_id g1]
      exact hC _ _ _ _ _ _ (Option.some.inj h).symm
theorem s_X7_fillHomes_b22_fr {M : fM} {l2 : Int} {r : ((Int × fM) ⊕ fM)} (h : s_X7_fillHomes_b22 M l2 = some r) : fSame s_X7_fillHomes_mods M (Sum.elim (fun s => s.2) (fun e => e) r) := by
  unfold s_X7_fillHomes_b22 at h
  by_cases c : (M 54 18) ≤ l2
  · replace h := fps c h
    obtain rfl := Option.some.inj h
    exact fs_refl
  · replace h := fng c h
    obtain ⟨e36, hy, h⟩ := fbd h
    have k36 := fs_trans (l := s_X7_fillHomes_mods) fs_refl (s_X7_fillHomes_l36_fr hy)
    by_cases c : (e36.2 8 5) < e36.1
    · replace h := fps c h
      replace h := (fgd h).2
      obtain rfl := Option.some.inj h
      exact fs_up k36 (.inl (by decide))
    · replace h := fng c h
      replace h := (fgd h).2
      obtain rfl := Option.some.inj h
      exact fs_up k36 (.inl (by decide))
noncomputable def s_X7_fillHomes_l22 (s : (Int × fM)) : Option fM := fLp (fun s => s_X7_fillHomes_b22 s.2 s.1) s
theorem s_X7_fillHomes_l22_ok {d L : Nat} {M : fM} {l2 : Int} {o1 o3 o4 o5 : Option fV} {r : fM} {Q : fO → fH → Prop} (h : s_X7_fillHomes_l22 (l2, M) = some r) (hE : ∀ (e : fM) (o0' o1' o2' o3' o4' o5' : Option fV), r = e → Wp (d + 3, 94, 138, 0, 0, [o0', o1', o2', o3', o4', o5'], []) (156, fjl L, e) Q) : Wp (d + 3, 94, 22, 0, 0, [some (fA 54), o1, some (fI l2), o3, o4, o5], []) (156, fjl L, M) Q := by
  refine fLp_wp (W := fun s => ∀ (o1 o3 o4 o5 : Option fV), Wp (d + 3, 94, 22, 0, 0, [some (fA 54), o1, some (fI s.1), o3, o4, o5], []) (156, fjl L, s.2) Q) (e := r) ?_ h _ _ _ _
  intro s r1 h hC hX o1 o3 o4 o5
  refine s_X7_fillHomes_b22_ok (d := d) h (fun a0 a1 _ _ _ _ e1 => ?_) (fun e u0 u1 u2 u3 u4 u5 e1 => hE e u0 u1 u2 u3 u4 u5 (hX _ e1).symm)
  exact hC _ e1 _ _ _ _
theorem s_X7_fillHomes_l22_fr {M : fM} {l2 : Int} {r : fM} (h : s_X7_fillHomes_l22 (l2, M) = some r) : fSame s_X7_fillHomes_mods M ((fun e => e) r) := by
  refine fLp_inv (I := fun s => fSame s_X7_fillHomes_mods M s.2) (J := fun r => fSame s_X7_fillHomes_mods M ((fun e => e) r)) h fs_refl (fun s s1 hs hb => ?_) (fun s e hs hb => ?_)
  · exact fs_trans hs (s_X7_fillHomes_b22_fr hb)
  · exact fs_trans hs (s_X7_fillHomes_b22_fr hb)
noncomputable def s_X7_fillHomes (M : fM) (l1 : Int) : Option (Unit × fM) :=
  (s_X7_liveWith M l1).bind fun y2 =>
    (s_X7_fillHomes_l22 (1, (fup y2.2 63 0 (y2.2 8 4)))).bind fun e22 =>
      some ((), e22)
theorem s_X7_fillHomes_ok {d L : Nat} {M : fM} {l1 : Int} {r : (Unit × fM)} {Q : fO → fH → Prop} (h : s_X7_fillHomes M l1 = some r) (H : Q (oV r.1) (156, fjl L, r.2)) : Wp (d + 3, 94, 0, 0, 0, [some (fA 54), some (fI l1), none, none, none, none], []) (156, fjl L, M) Q := by
  unfold s_X7_fillHomes at h
  refine Wp.run 2 (f' := (d + 3, 94, 2, 0, 0, [some (fA 54), _, _, _, _, _], [fI l1, fA 54])) (h' := (156, fjl L, M)) rfl trivial ?_
  obtain ⟨y2, hy, h⟩ := fbd h
  refine Wp.call rfl (by decide) (s_X7_liveWith_ok (d := d + 1) hy ?_)
  show Wp (d + 3, 94, 5, 0, 0, [some (fA 54), _, _, _, _, _], []) (156, fjl L, y2.2) Q
  refine Wp.run 11 (P := [(0 : Int) ≤ 4 ∧ (4 : Int) < 6, (0 : Int) ≤ 0 ∧ (0 : Int) < 512]) (f' := (d + 3, 94, 22, 0, 0, [some (fA 54), _, some (fI 1), _, _, _], [])) (h' := (156, fjl L, (fup y2.2 63 0 (y2.2 8 4)))) rfl ?_ ?_
  · exact ⟨(by decide : (0 : Int) ≤ 4 ∧ (4 : Int) < 6), (by decide : (0 : Int) ≤ 0 ∧ (0 : Int) < 512)⟩
  obtain ⟨e22, hy, h⟩ := fbd h
  refine s_X7_fillHomes_l22_ok hy (fun x u0 u1 u2 u3 u4 u5 ex => ?_)
  cases ex
  show Wp (d + 3, 94, 138, 0, 0, [u0, u1, u2, u3, u4, u5], []) (156, fjl L, e22) Q
  obtain rfl := Option.some.inj h
  exact Wp.done rfl (by decide) H
theorem s_X7_fillHomes_fr {M : fM} {l1 : Int} {r : (Unit × fM)} (h : s_X7_fillHomes M l1 = some r) : fSame s_X7_fillHomes_mods M r.2 := by
  unfold s_X7_fillHomes at h
  obtain ⟨y2, hy, h⟩ := fbd h
  have k2 := fs_trans (l := s_X7_fillHomes_mods) fs_refl (fs_mono (l := s_X7_liveWith_mods) (by decide) (s_X7_liveWith_fr hy))
  obtain ⟨e22, hy, h⟩ := fbd h
  have k22 := fs_trans (l := s_X7_fillHomes_mods) (fs_up k2 (.inl (by decide))) (s_X7_fillHomes_l22_fr hy)
  obtain rfl := Option.some.inj h
  exact k22
noncomputable def s_X7_latestDone_b6 (M : fM) (l1 l2 l3 l4 : Int) : Option ((Int × Int) ⊕ Int) :=
  if (M 54 17) ≤ l4 then
    some (.inr l3)
  else
    if ¬ (fand (fshr l1 l4) 1) = 1 then
      if fin (l4 + 1) then
        some (.inl (l3, (l4 + 1)))
      else none
    else
      if (0 ≤ l4 ∧ l4 < 9) ∧ fin ((fand l1 (fxor (fshl 1 l4) (-1))) * 9) ∧ fin (((fand l1 (fxor (fshl 1 l4) (-1))) * 9) + l4) ∧ (0 ≤ (((fand l1 (fxor (fshl 1 l4) (-1))) * 9) + l4) ∧ (((fand l1 (fxor (fshl 1 l4) (-1))) * 9) + l4) < 4608) then
        (s_J9_min M (M 59 (l4).toNat) (M 62 (((fand l1 (fxor (fshl 1 l4) (-1))) * 9) + l4).toNat)).bind fun y51 =>
          if fin (y51 - (M 8 3)) ∧ (0 ≤ l4 ∧ l4 < 9) then
            if (y51 - (M 8 3)) < (M 58 (l4).toNat) then
              if fin (l4 + 1) then
                some (.inl (l3, (l4 + 1)))
              else none
            else
              (s_X7_minutes M l2 l4).bind fun y85 =>
                if fin ((y51 - (M 8 3)) - y85) then
                  (s_J9_max M l3 ((y51 - (M 8 3)) - y85)).bind fun y89 =>
                    if fin (l4 + 1) then
                      some (.inl (y89, (l4 + 1)))
                    else none
                else none
          else none
      else none
theorem s_X7_latestDone_b6_ok {d L : Nat} {M : fM} {l1 l2 l3 l4 : Int} {o5 : Option fV} {r : ((Int × Int) ⊕ Int)} {Q : fO → fH → Prop} (h : s_X7_latestDone_b6 M l1 l2 l3 l4 = some r) (hC : ∀ (l3' l4' : Int) (o5' : Option fV), r = .inl (l3', l4') → Wp (d + 2, 98, 6, 0, 0, [some (fA 54), some (fI l1), some (fI l2), some (fI l3'), some (fI l4'), o5'], []) (156, fjl L, M) Q) (hE : ∀ (e : Int) (o0' o1' o2' o4' o5' : Option fV), r = .inr e → Wp (d + 2, 98, 99, 0, 0, [o0', o1', o2', some (fI e), o4', o5'], []) (156, fjl L, M) Q) : Wp (d + 2, 98, 6, 0, 0, [some (fA 54), some (fI l1), some (fI l2), some (fI l3), some (fI l4), o5], []) (156, fjl L, M) Q := by
  unfold s_X7_latestDone_b6 at h
  refine Wp.run 3 (f' := (d + 2, 98, 12, 0, 0, [some (fA 54), some (fI l1), some (fI l2), some (fI l3), some (fI l4), _], [fI (M 54 17), fI l4])) (h' := (156, fjl L, M)) rfl trivial ?_
  refine Wp.br rfl (fun (c : (M 54 17) ≤ l4) => ?_) (fun (c : ¬ ((M 54 17) ≤ l4)) => ?_)
  · replace h := fps c h
    exact hE _ _ _ _ _ _ (Option.some.inj h).symm
  · replace h := fng c h
    refine Wp.run 6 (f' := (d + 2, 98, 22, 0, 0, [some (fA 54), some (fI l1), some (fI l2), some (fI l3), some (fI l4), _], [fI 1, fI (fand (fshr l1 l4) 1)])) (h' := (156, fjl L, M)) rfl trivial ?_
    refine Wp.br rfl (fun (c : ¬ (fand (fshr l1 l4) 1) = 1) => ?_) (fun (c : ¬ (¬ (fand (fshr l1 l4) 1) = 1)) => ?_)
    · replace h := fps c h
      obtain ⟨g0, h⟩ := fgd h
      refine Wp.run 2 (f' := (d + 2, 98, 6, 0, 0, [some (fA 54), some (fI l1), some (fI l2), some (fI l3), some (fI (fw (l4 + 1))), _], [])) (h' := (156, fjl L, M)) rfl trivial ?_
      rw [fw_id g0]
      exact hC _ _ _ (Option.some.inj h).symm
    · replace h := fng c h
      obtain ⟨⟨g0, g1, g2, g3⟩, h⟩ := fgd h
      refine Wp.run 18 (P := [0 ≤ l4 ∧ l4 < 9, 0 ≤ (fw ((fw ((fand l1 (fxor (fshl 1 l4) (-1))) * 9)) + l4)) ∧ (fw ((fw ((fand l1 (fxor (fshl 1 l4) (-1))) * 9)) + l4)) < 4608]) (f' := (d + 2, 98, 51, 0, 0, [some (fA 54), some (fI l1), some (fI l2), some (fI l3), some (fI l4), _], [fI (M 62 (fw ((fw ((fand l1 (fxor (fshl 1 l4) (-1))) * 9)) + l4)).toNat), fI (M 59 (l4).toNat)])) (h' := (156, fjl L, M)) rfl ?_ ?_
      · rw [fw_id g1, fw_id g2]; exact ⟨g0, g3⟩
      rw [fw_id g1, fw_id g2]
      obtain ⟨y51, hy, h⟩ := fbd h
      refine Wp.call rfl (by decide) (s_J9_min_ok (d := d + 1) hy ?_)
      show Wp (d + 2, 98, 54, 0, 0, [some (fA 54), some (fI l1), some (fI l2), some (fI l3), some (fI l4), _], [fI y51]) (156, fjl L, M) Q
      obtain ⟨⟨g0, g1⟩, h⟩ := fgd h
      refine Wp.run 12 (P := [(0 : Int) ≤ 3 ∧ (3 : Int) < 6, 0 ≤ l4 ∧ l4 < 9]) (f' := (d + 2, 98, 75, 0, 0, [some (fA 54), some (fI l1), some (fI l2), some (fI l3), some (fI l4), some (fI (fw (y51 - (M 8 3))))], [fI (M 58 (l4).toNat), fI (fw (y51 - (M 8 3)))])) (h' := (156, fjl L, M)) rfl ?_ ?_
      · exact ⟨(by decide : (0 : Int) ≤ 3 ∧ (3 : Int) < 6), g1⟩
      rw [fw_id g0]
      refine Wp.br rfl (fun (c : (y51 - (M 8 3)) < (M 58 (l4).toNat)) => ?_) (fun (c : ¬ ((y51 - (M 8 3)) < (M 58 (l4).toNat))) => ?_)
      · replace h := fps c h
        obtain ⟨g0, h⟩ := fgd h
        refine Wp.run 2 (f' := (d + 2, 98, 6, 0, 0, [some (fA 54), some (fI l1), some (fI l2), some (fI l3), some (fI (fw (l4 + 1))), _], [])) (h' := (156, fjl L, M)) rfl trivial ?_
        rw [fw_id g0]
        exact hC _ _ _ (Option.some.inj h).symm
      · replace h := fng c h
        refine Wp.run 5 (f' := (d + 2, 98, 85, 0, 0, [some (fA 54), some (fI l1), some (fI l2), _, some (fI l4), _], [fI l4, fI l2, fA 54, fI (y51 - (M 8 3)), fI l3])) (h' := (156, fjl L, M)) rfl trivial ?_
        obtain ⟨y85, hy, h⟩ := fbd h
        refine Wp.call rfl (by decide) (s_X7_minutes_ok (d := d + 0) hy ?_)
        show Wp (d + 2, 98, 88, 0, 0, [some (fA 54), some (fI l1), some (fI l2), _, some (fI l4), _], [fI y85, fI (y51 - (M 8 3)), fI l3]) (156, fjl L, M) Q
        obtain ⟨g0, h⟩ := fgd h
        refine Wp.run 1 (f' := (d + 2, 98, 89, 0, 0, [some (fA 54), some (fI l1), some (fI l2), _, some (fI l4), _], [fI (fw ((y51 - (M 8 3)) - y85)), fI l3])) (h' := (156, fjl L, M)) rfl trivial ?_
        rw [fw_id g0]
        obtain ⟨y89, hy, h⟩ := fbd h
        refine Wp.call rfl (by decide) (s_J9_max_ok (d := d + 1) hy ?_)
        show Wp (d + 2, 98, 92, 0, 0, [some (fA 54), some (fI l1), some (fI l2), _, some (fI l4), _], [fI y89]) (156, fjl L, M) Q
        obtain ⟨g0, h⟩ := fgd h
        refine Wp.run 3 (f' := (d + 2, 98, 6, 0, 0, [some (fA 54), some (fI l1), some (fI l2), some (fI y89), some (fI (fw (l4 + 1))), _], [])) (h' := (156, fjl L, M)) rfl trivial ?_
        rw [fw_id g0]
        exact hC _ _ _ (Option.some.inj h).symm
noncomputable def s_X7_latestDone_l6 (M : fM) (l1 l2 : Int) (s : (Int × Int)) : Option Int := fLp (fun s => s_X7_latestDone_b6 M l1 l2 s.1 s.2) s
theorem s_X7_latestDone_l6_ok {d L : Nat} {M : fM} {l1 l2 l3 l4 : Int} {o5 : Option fV} {r : Int} {Q : fO → fH → Prop} (h : s_X7_latestDone_l6 M l1 l2 (l3, l4) = some r) (hE : ∀ (e : Int) (o0' o1' o2' o4' o5' : Option fV), r = e → Wp (d + 2, 98, 99, 0, 0, [o0', o1', o2', some (fI e), o4', o5'], []) (156, fjl L, M) Q) : Wp (d + 2, 98, 6, 0, 0, [some (fA 54), some (fI l1), some (fI l2), some (fI l3), some (fI l4), o5], []) (156, fjl L, M) Q := by
  refine fLp_wp (W := fun s => ∀ (o5 : Option fV), Wp (d + 2, 98, 6, 0, 0, [some (fA 54), some (fI l1), some (fI l2), some (fI s.1), some (fI s.2), o5], []) (156, fjl L, M) Q) (e := r) ?_ h _
  intro s r1 h hC hX o5
  refine s_X7_latestDone_b6_ok (d := d) h (fun a0 a1 _ e1 => ?_) (fun e u0 u1 u2 u3 u4 e1 => hE e u0 u1 u2 u3 u4 (hX _ e1).symm)
  exact hC _ e1 _
noncomputable def s_X7_latestDone (M : fM) (l1 l2 : Int) : Option Int :=
  (s_X7_latestDone_l6 M l1 l2 ((-1000000), 0)).bind fun e6 =>
    some e6
theorem s_X7_latestDone_ok {d L : Nat} {M : fM} {l1 l2 : Int} {r : Int} {Q : fO → fH → Prop} (h : s_X7_latestDone M l1 l2 = some r) (H : Q (oI r) (156, fjl L, M)) : Wp (d + 2, 98, 0, 0, 0, [some (fA 54), some (fI l1), some (fI l2), none, none, none], []) (156, fjl L, M) Q := by
  unfold s_X7_latestDone at h
  refine Wp.run 4 (f' := (d + 2, 98, 6, 0, 0, [some (fA 54), some (fI l1), some (fI l2), some (fI (-1000000)), some (fI 0), _], [])) (h' := (156, fjl L, M)) rfl trivial ?_
  obtain ⟨e6, hy, h⟩ := fbd h
  refine s_X7_latestDone_l6_ok hy (fun x u0 u1 u2 u4 u5 ex => ?_)
  cases ex
  show Wp (d + 2, 98, 99, 0, 0, [u0, u1, u2, some (fI e6), u4, u5], []) (156, fjl L, M) Q
  refine Wp.run 1 (f' := (d + 2, 98, 100, 0, 0, [_, _, _, _, _, _], [fI e6])) (h' := (156, fjl L, M)) rfl trivial ?_
  obtain rfl := Option.some.inj h
  exact Wp.done rfl (by decide) H
abbrev s_X7_fillLatest_mods : List (Nat × Option Nat) := [(62, none)]
noncomputable def s_X7_fillLatest_b12 (M : fM) (l1 l2 l3 : Int) : Option ((Int × fM) ⊕ fM) :=
  if (M 54 17) ≤ l3 then
    some (.inr M)
  else
    if ¬ (fand (fshr l2 l3) 1) = 0 then
      if fin (l3 + 1) then
        some (.inl ((l3 + 1), M))
      else none
    else
      if fin (l2 * 9) ∧ fin ((l2 * 9) + l3) then
        if ¬ l2 = 0 then
          (s_X7_latestDone M l2 l3).bind fun y57 =>
            if (0 ≤ ((l2 * 9) + l3) ∧ ((l2 * 9) + l3) < 4608) ∧ fin (l3 + 1) then
              some (.inl ((l3 + 1), (fup M 62 ((l2 * 9) + l3).toNat y57)))
            else none
        else
          (s_X7_minutes M l3 9).bind fun y47 =>
            if fin (l1 - y47) ∧ (0 ≤ ((l2 * 9) + l3) ∧ ((l2 * 9) + l3) < 4608) ∧ fin (l3 + 1) then
              some (.inl ((l3 + 1), (fup M 62 ((l2 * 9) + l3).toNat (l1 - y47))))
            else none
      else none
theorem s_X7_fillLatest_b12_ok {d L : Nat} {M : fM} {l1 l2 l3 : Int} {r : ((Int × fM) ⊕ fM)} {Q : fO → fH → Prop} (h : s_X7_fillLatest_b12 M l1 l2 l3 = some r) (hC : ∀ (l3' : Int) (M' : fM), r = .inl (l3', M') → Wp (d + 3, 97, 12, 0, 0, [some (fA 54), some (fI l1), some (fI l2), some (fI l3')], []) (156, fjl L, M') Q) (hE : ∀ (e : fM) (o3' : Option fV), r = .inr e → Wp (d + 3, 97, 67, 0, 0, [some (fA 54), some (fI l1), some (fI l2), o3'], []) (156, fjl L, e) Q) : Wp (d + 3, 97, 12, 0, 0, [some (fA 54), some (fI l1), some (fI l2), some (fI l3)], []) (156, fjl L, M) Q := by
  unfold s_X7_fillLatest_b12 at h
  refine Wp.run 3 (f' := (d + 3, 97, 17, 0, 0, [some (fA 54), some (fI l1), some (fI l2), some (fI l3)], [fI (M 54 17), fI l3])) (h' := (156, fjl L, M)) rfl trivial ?_
  refine Wp.br rfl (fun (c : (M 54 17) ≤ l3) => ?_) (fun (c : ¬ ((M 54 17) ≤ l3)) => ?_)
  · replace h := fps c h
    exact hE _ _ (Option.some.inj h).symm
  · replace h := fng c h
    refine Wp.run 5 (f' := (d + 3, 97, 25, 0, 0, [some (fA 54), some (fI l1), some (fI l2), some (fI l3)], [fI (fand (fshr l2 l3) 1)])) (h' := (156, fjl L, M)) rfl trivial ?_
    refine Wp.br rfl (fun (c : ¬ (fand (fshr l2 l3) 1) = 0) => ?_) (fun (c : ¬ (¬ (fand (fshr l2 l3) 1) = 0)) => ?_)
    · replace h := fps c h
      obtain ⟨g0, h⟩ := fgd h
      refine Wp.run 2 (f' := (d + 3, 97, 12, 0, 0, [some (fA 54), some (fI l1), some (fI l2), some (fI (fw (l3 + 1)))], [])) (h' := (156, fjl L, M)) rfl trivial ?_
      rw [fw_id g0]
      exact hC _ _ (Option.some.inj h).symm
    · replace h := fng c h
      obtain ⟨⟨g0, g1⟩, h⟩ := fgd h
      refine Wp.run 8 (f' := (d + 3, 97, 39, 0, 0, [some (fA 54), some (fI l1), some (fI l2), some (fI l3)], [fI l2, fI (fw ((fw (l2 * 9)) + l3)), fA 62])) (h' := (156, fjl L, M)) rfl trivial ?_
      rw [fw_id g0, fw_id g1]
      refine Wp.br rfl (fun (c : ¬ l2 = 0) => ?_) (fun (c : ¬ (¬ l2 = 0)) => ?_)
      · replace h := fps c h
        refine Wp.run 3 (f' := (d + 3, 97, 57, 0, 0, [some (fA 54), some (fI l1), some (fI l2), some (fI l3)], [fI l3, fI l2, fA 54, fI ((l2 * 9) + l3), fA 62])) (h' := (156, fjl L, M)) rfl trivial ?_
        obtain ⟨y57, hy, h⟩ := fbd h
        refine Wp.call rfl (by decide) (s_X7_latestDone_ok (d := d + 0) hy ?_)
        show Wp (d + 3, 97, 60, 0, 0, [some (fA 54), some (fI l1), some (fI l2), some (fI l3)], [fI y57, fI ((l2 * 9) + l3), fA 62]) (156, fjl L, M) Q
        obtain ⟨⟨g0, g1⟩, h⟩ := fgd h
        refine Wp.run 3 (P := [0 ≤ ((l2 * 9) + l3) ∧ ((l2 * 9) + l3) < 4608]) (f' := (d + 3, 97, 12, 0, 0, [some (fA 54), some (fI l1), some (fI l2), some (fI (fw (l3 + 1)))], [])) (h' := (156, fjl L, (fup M 62 ((l2 * 9) + l3).toNat y57))) rfl ?_ ?_
        · exact g0
        rw [fw_id g1]
        exact hC _ _ (Option.some.inj h).symm
      · replace h := fng c h
        refine Wp.run 4 (f' := (d + 3, 97, 47, 0, 0, [some (fA 54), some (fI l1), some (fI l2), some (fI l3)], [fI 9, fI l3, fA 54, fI l1, fI ((l2 * 9) + l3), fA 62])) (h' := (156, fjl L, M)) rfl trivial ?_
        obtain ⟨y47, hy, h⟩ := fbd h
        refine Wp.call rfl (by decide) (s_X7_minutes_ok (d := d + 1) hy ?_)
        show Wp (d + 3, 97, 50, 0, 0, [some (fA 54), some (fI l1), some (fI l2), some (fI l3)], [fI y47, fI l1, fI ((l2 * 9) + l3), fA 62]) (156, fjl L, M) Q
        obtain ⟨⟨g0, g1, g2⟩, h⟩ := fgd h
        refine Wp.run 5 (P := [0 ≤ ((l2 * 9) + l3) ∧ ((l2 * 9) + l3) < 4608]) (f' := (d + 3, 97, 12, 0, 0, [some (fA 54), some (fI l1), some (fI l2), some (fI (fw (l3 + 1)))], [])) (h' := (156, fjl L, (fup M 62 ((l2 * 9) + l3).toNat (fw (l1 - y47))))) rfl ?_ ?_
        · exact g1
        rw [fw_id g2, fw_id g0]
        exact hC _ _ (Option.some.inj h).symm
theorem s_X7_fillLatest_b12_fr {M : fM} {l1 l2 l3 : Int} {r : ((Int × fM) ⊕ fM)} (h : s_X7_fillLatest_b12 M l1 l2 l3 = some r) : fSame s_X7_fillLatest_mods M (Sum.elim (fun s => s.2) (fun e => e) r) := by
  unfold s_X7_fillLatest_b12 at h
  by_cases c : (M 54 17) ≤ l3
  · replace h := fps c h
    obtain rfl := Option.some.inj h
    exact fs_refl
  · replace h := fng c h
    by_cases c : ¬ (fand (fshr l2 l3) 1) = 0
    · replace h := fps c h
      replace h := (fgd h).2
      obtain rfl := Option.some.inj h
      exact fs_refl
    · replace h := fng c h
      replace h := (fgd h).2
      by_cases c : ¬ l2 = 0
      · replace h := fps c h
        obtain ⟨y57, hy, h⟩ := fbd h
        replace h := (fgd h).2
        obtain rfl := Option.some.inj h
        exact fs_up fs_refl (.inl (by decide))
      · replace h := fng c h
        obtain ⟨y47, hy, h⟩ := fbd h
        replace h := (fgd h).2
        obtain rfl := Option.some.inj h
        exact fs_up fs_refl (.inl (by decide))
noncomputable def s_X7_fillLatest_l12 (l1 l2 : Int) (s : (Int × fM)) : Option fM := fLp (fun s => s_X7_fillLatest_b12 s.2 l1 l2 s.1) s
theorem s_X7_fillLatest_l12_ok {d L : Nat} {M : fM} {l1 l2 l3 : Int} {r : fM} {Q : fO → fH → Prop} (h : s_X7_fillLatest_l12 l1 l2 (l3, M) = some r) (hE : ∀ (e : fM) (o3' : Option fV), r = e → Wp (d + 3, 97, 67, 0, 0, [some (fA 54), some (fI l1), some (fI l2), o3'], []) (156, fjl L, e) Q) : Wp (d + 3, 97, 12, 0, 0, [some (fA 54), some (fI l1), some (fI l2), some (fI l3)], []) (156, fjl L, M) Q := by
  refine fLp_wp (W := fun s => Wp (d + 3, 97, 12, 0, 0, [some (fA 54), some (fI l1), some (fI l2), some (fI s.1)], []) (156, fjl L, s.2) Q) (e := r) ?_ h
  intro s r1 h hC hX
  refine s_X7_fillLatest_b12_ok (d := d) h (fun a0 a1 e1 => ?_) (fun e u0 e1 => hE e u0 (hX _ e1).symm)
  exact hC _ e1
theorem s_X7_fillLatest_l12_fr {M : fM} {l1 l2 l3 : Int} {r : fM} (h : s_X7_fillLatest_l12 l1 l2 (l3, M) = some r) : fSame s_X7_fillLatest_mods M ((fun e => e) r) := by
  refine fLp_inv (I := fun s => fSame s_X7_fillLatest_mods M s.2) (J := fun r => fSame s_X7_fillLatest_mods M ((fun e => e) r)) h fs_refl (fun s s1 hs hb => ?_) (fun s e hs hb => ?_)
  · exact fs_trans hs (s_X7_fillLatest_b12_fr hb)
  · exact fs_trans hs (s_X7_fillLatest_b12_fr hb)
noncomputable def s_X7_fillLatest_b2 (M : fM) (l1 l2 : Int) : Option ((Int × fM) ⊕ fM) :=
  if (M 54 18) ≤ l2 then
    some (.inr M)
  else
    (s_X7_fillLatest_l12 l1 l2 (0, M)).bind fun e12 =>
      if fin (l2 + 1) then
        some (.inl ((l2 + 1), e12))
      else none
theorem s_X7_fillLatest_b2_ok {d L : Nat} {M : fM} {l1 l2 : Int} {o3 : Option fV} {r : ((Int × fM) ⊕ fM)} {Q : fO → fH → Prop} (h : s_X7_fillLatest_b2 M l1 l2 = some r) (hC : ∀ (l2' : Int) (M' : fM) (o3' : Option fV), r = .inl (l2', M') → Wp (d + 3, 97, 2, 0, 0, [some (fA 54), some (fI l1), some (fI l2'), o3'], []) (156, fjl L, M') Q) (hE : ∀ (e : fM) (o0' o1' o2' o3' : Option fV), r = .inr e → Wp (d + 3, 97, 73, 0, 0, [o0', o1', o2', o3'], []) (156, fjl L, e) Q) : Wp (d + 3, 97, 2, 0, 0, [some (fA 54), some (fI l1), some (fI l2), o3], []) (156, fjl L, M) Q := by
  unfold s_X7_fillLatest_b2 at h
  refine Wp.run 3 (f' := (d + 3, 97, 7, 0, 0, [some (fA 54), some (fI l1), some (fI l2), _], [fI (M 54 18), fI l2])) (h' := (156, fjl L, M)) rfl trivial ?_
  refine Wp.br rfl (fun (c : (M 54 18) ≤ l2) => ?_) (fun (c : ¬ ((M 54 18) ≤ l2)) => ?_)
  · replace h := fps c h
    exact hE _ _ _ _ _ (Option.some.inj h).symm
  · replace h := fng c h
    refine Wp.run 2 (f' := (d + 3, 97, 12, 0, 0, [some (fA 54), some (fI l1), some (fI l2), some (fI 0)], [])) (h' := (156, fjl L, M)) rfl trivial ?_
    obtain ⟨e12, hy, h⟩ := fbd h
    refine s_X7_fillLatest_l12_ok hy (fun x u3 ex => ?_)
    cases ex
    show Wp (d + 3, 97, 67, 0, 0, [some (fA 54), some (fI l1), some (fI l2), u3], []) (156, fjl L, e12) Q
    obtain ⟨g0, h⟩ := fgd h
    refine Wp.run 2 (f' := (d + 3, 97, 2, 0, 0, [some (fA 54), some (fI l1), some (fI (fw (l2 + 1))), _], [])) (h' := (156, fjl L, e12)) rfl trivial ?_
    rw [fw_id g0]
    exact hC _ _ _ (Option.some.inj h).symm
theorem s_X7_fillLatest_b2_fr {M : fM} {l1 l2 : Int} {r : ((Int × fM) ⊕ fM)} (h : s_X7_fillLatest_b2 M l1 l2 = some r) : fSame s_X7_fillLatest_mods M (Sum.elim (fun s => s.2) (fun e => e) r) := by
  unfold s_X7_fillLatest_b2 at h
  by_cases c : (M 54 18) ≤ l2
  · replace h := fps c h
    obtain rfl := Option.some.inj h
    exact fs_refl
  · replace h := fng c h
    obtain ⟨e12, hy, h⟩ := fbd h
    have k12 := fs_trans (l := s_X7_fillLatest_mods) fs_refl (s_X7_fillLatest_l12_fr hy)
    replace h := (fgd h).2
    obtain rfl := Option.some.inj h
    exact k12
noncomputable def s_X7_fillLatest_l2 (l1 : Int) (s : (Int × fM)) : Option fM := fLp (fun s => s_X7_fillLatest_b2 s.2 l1 s.1) s
theorem s_X7_fillLatest_l2_ok {d L : Nat} {M : fM} {l1 l2 : Int} {o3 : Option fV} {r : fM} {Q : fO → fH → Prop} (h : s_X7_fillLatest_l2 l1 (l2, M) = some r) (hE : ∀ (e : fM) (o0' o1' o2' o3' : Option fV), r = e → Wp (d + 3, 97, 73, 0, 0, [o0', o1', o2', o3'], []) (156, fjl L, e) Q) : Wp (d + 3, 97, 2, 0, 0, [some (fA 54), some (fI l1), some (fI l2), o3], []) (156, fjl L, M) Q := by
  refine fLp_wp (W := fun s => ∀ (o3 : Option fV), Wp (d + 3, 97, 2, 0, 0, [some (fA 54), some (fI l1), some (fI s.1), o3], []) (156, fjl L, s.2) Q) (e := r) ?_ h _
  intro s r1 h hC hX o3
  refine s_X7_fillLatest_b2_ok (d := d) h (fun a0 a1 _ e1 => ?_) (fun e u0 u1 u2 u3 e1 => hE e u0 u1 u2 u3 (hX _ e1).symm)
  exact hC _ e1 _
theorem s_X7_fillLatest_l2_fr {M : fM} {l1 l2 : Int} {r : fM} (h : s_X7_fillLatest_l2 l1 (l2, M) = some r) : fSame s_X7_fillLatest_mods M ((fun e => e) r) := by
  refine fLp_inv (I := fun s => fSame s_X7_fillLatest_mods M s.2) (J := fun r => fSame s_X7_fillLatest_mods M ((fun e => e) r)) h fs_refl (fun s s1 hs hb => ?_) (fun s e hs hb => ?_)
  · exact fs_trans hs (s_X7_fillLatest_b2_fr hb)
  · exact fs_trans hs (s_X7_fillLatest_b2_fr hb)
noncomputable def s_X7_fillLatest (M : fM) (l1 : Int) : Option (Unit × fM) :=
  (s_X7_fillLatest_l2 l1 (0, M)).bind fun e2 =>
    some ((), e2)
theorem s_X7_fillLatest_ok {d L : Nat} {M : fM} {l1 : Int} {r : (Unit × fM)} {Q : fO → fH → Prop} (h : s_X7_fillLatest M l1 = some r) (H : Q (oV r.1) (156, fjl L, r.2)) : Wp (d + 3, 97, 0, 0, 0, [some (fA 54), some (fI l1), none, none], []) (156, fjl L, M) Q := by
  unfold s_X7_fillLatest at h
  refine Wp.run 2 (f' := (d + 3, 97, 2, 0, 0, [some (fA 54), some (fI l1), some (fI 0), _], [])) (h' := (156, fjl L, M)) rfl trivial ?_
  obtain ⟨e2, hy, h⟩ := fbd h
  refine s_X7_fillLatest_l2_ok hy (fun x u0 u1 u2 u3 ex => ?_)
  cases ex
  show Wp (d + 3, 97, 73, 0, 0, [u0, u1, u2, u3], []) (156, fjl L, e2) Q
  obtain rfl := Option.some.inj h
  exact Wp.done rfl (by decide) H
theorem s_X7_fillLatest_fr {M : fM} {l1 : Int} {r : (Unit × fM)} (h : s_X7_fillLatest M l1 = some r) : fSame s_X7_fillLatest_mods M r.2 := by
  unfold s_X7_fillLatest at h
  obtain ⟨e2, hy, h⟩ := fbd h
  have k2 := fs_trans (l := s_X7_fillLatest_mods) fs_refl (s_X7_fillLatest_l2_fr hy)
  obtain rfl := Option.some.inj h
  exact k2
noncomputable def s_X7_canGoOn_b3 (M : fM) (l1 l2 l3 l4 l5 : Int) : Option (Int ⊕ (Unit ⊕ Int)) :=
  if (M 54 18) ≤ l5 then
    some (.inr (.inl ()))
  else
    if ¬ (fand l5 l1) = 0 then
      if fin (l5 + 1) then
        some (.inl (l5 + 1))
      else none
    else
      if (0 ≤ (fior l1 l5) ∧ (fior l1 l5) < 512) then
        if ¬ (M 61 (fior l1 l5).toNat) = l4 then
          if fin (l5 + 1) then
            some (.inl (l5 + 1))
          else none
        else
          if fin (l5 * 9) ∧ fin ((l5 * 9) + l2) ∧ (0 ≤ ((l5 * 9) + l2) ∧ ((l5 * 9) + l2) < 4608) then
            if (M 62 ((l5 * 9) + l2).toNat) < l3 then
              if fin (l5 + 1) then
                some (.inl (l5 + 1))
              else none
            else
              some (.inr (.inr 1))
          else none
      else none
theorem s_X7_canGoOn_b3_ok {d L : Nat} {M : fM} {l1 l2 l3 l4 l5 : Int} {r : (Int ⊕ (Unit ⊕ Int))} {Q : fO → fH → Prop} (h : s_X7_canGoOn_b3 M l1 l2 l3 l4 l5 = some r) (hC : ∀ (l5' : Int), r = .inl l5' → Wp (d + 0, 101, 3, 0, 0, [some (fA 54), some (fI l1), some (fI l2), some (fI l3), some (fI l4), some (fI l5')], []) (156, fjl L, M) Q) (hE : ∀ (e : Unit) (o0' o1' o2' o3' o4' o5' : Option fV), r = .inr (.inl e) → Wp (d + 0, 101, 57, 0, 0, [o0', o1', o2', o3', o4', o5'], []) (156, fjl L, M) Q) (hR : ∀ (v : Int), r = .inr (.inr v) → Q (oI v) (156, fjl L, M)) : Wp (d + 0, 101, 3, 0, 0, [some (fA 54), some (fI l1), some (fI l2), some (fI l3), some (fI l4), some (fI l5)], []) (156, fjl L, M) Q := by
  unfold s_X7_canGoOn_b3 at h
  refine Wp.run 3 (f' := (d + 0, 101, 9, 0, 0, [some (fA 54), some (fI l1), some (fI l2), some (fI l3), some (fI l4), some (fI l5)], [fI (M 54 18), fI l5])) (h' := (156, fjl L, M)) rfl trivial ?_
  refine Wp.br rfl (fun (c : (M 54 18) ≤ l5) => ?_) (fun (c : ¬ ((M 54 18) ≤ l5)) => ?_)
  · replace h := fps c h
    exact hE _ _ _ _ _ _ _ (Option.some.inj h).symm
  · replace h := fng c h
    refine Wp.run 3 (f' := (d + 0, 101, 16, 0, 0, [some (fA 54), some (fI l1), some (fI l2), some (fI l3), some (fI l4), some (fI l5)], [fI (fand l5 l1)])) (h' := (156, fjl L, M)) rfl trivial ?_
    refine Wp.br rfl (fun (c : ¬ (fand l5 l1) = 0) => ?_) (fun (c : ¬ (¬ (fand l5 l1) = 0)) => ?_)
    · replace h := fps c h
      obtain ⟨g0, h⟩ := fgd h
      refine Wp.run 2 (f' := (d + 0, 101, 3, 0, 0, [some (fA 54), some (fI l1), some (fI l2), some (fI l3), some (fI l4), some (fI (fw (l5 + 1)))], [])) (h' := (156, fjl L, M)) rfl trivial ?_
      rw [fw_id g0]
      exact hC _ (Option.some.inj h).symm
    · replace h := fng c h
      obtain ⟨g0, h⟩ := fgd h
      refine Wp.run 7 (P := [0 ≤ (fior l1 l5) ∧ (fior l1 l5) < 512]) (f' := (d + 0, 101, 30, 0, 0, [some (fA 54), some (fI l1), some (fI l2), some (fI l3), some (fI l4), some (fI l5)], [fI l4, fI (M 61 (fior l1 l5).toNat)])) (h' := (156, fjl L, M)) rfl ?_ ?_
      · exact g0
      refine Wp.br rfl (fun (c : ¬ (M 61 (fior l1 l5).toNat) = l4) => ?_) (fun (c : ¬ (¬ (M 61 (fior l1 l5).toNat) = l4)) => ?_)
      · replace h := fps c h
        obtain ⟨g0, h⟩ := fgd h
        refine Wp.run 2 (f' := (d + 0, 101, 3, 0, 0, [some (fA 54), some (fI l1), some (fI l2), some (fI l3), some (fI l4), some (fI (fw (l5 + 1)))], [])) (h' := (156, fjl L, M)) rfl trivial ?_
        rw [fw_id g0]
        exact hC _ (Option.some.inj h).symm
      · replace h := fng c h
        obtain ⟨⟨g0, g1, g2⟩, h⟩ := fgd h
        refine Wp.run 9 (P := [0 ≤ (fw ((fw (l5 * 9)) + l2)) ∧ (fw ((fw (l5 * 9)) + l2)) < 4608]) (f' := (d + 0, 101, 46, 0, 0, [some (fA 54), some (fI l1), some (fI l2), some (fI l3), some (fI l4), some (fI l5)], [fI (M 62 (fw ((fw (l5 * 9)) + l2)).toNat), fI l3])) (h' := (156, fjl L, M)) rfl ?_ ?_
        · rw [fw_id g0, fw_id g1]; exact g2
        rw [fw_id g0, fw_id g1]
        refine Wp.br rfl (fun (c : (M 62 ((l5 * 9) + l2).toNat) < l3) => ?_) (fun (c : ¬ ((M 62 ((l5 * 9) + l2).toNat) < l3)) => ?_)
        · replace h := fps c h
          obtain ⟨g0, h⟩ := fgd h
          refine Wp.run 2 (f' := (d + 0, 101, 3, 0, 0, [some (fA 54), some (fI l1), some (fI l2), some (fI l3), some (fI l4), some (fI (fw (l5 + 1)))], [])) (h' := (156, fjl L, M)) rfl trivial ?_
          rw [fw_id g0]
          exact hC _ (Option.some.inj h).symm
        · replace h := fng c h
          refine Wp.run 1 (f' := (d + 0, 101, 50, 0, 0, [_, _, _, _, _, _], [fI 1])) (h' := (156, fjl L, M)) rfl trivial ?_
          exact Wp.done rfl (by decide) (hR _ (Option.some.inj h).symm)
noncomputable def s_X7_canGoOn_l3 (M : fM) (l1 l2 l3 l4 : Int) (s : Int) : Option (Unit ⊕ Int) := fLp (fun s => s_X7_canGoOn_b3 M l1 l2 l3 l4 s) s
theorem s_X7_canGoOn_l3_ok {d L : Nat} {M : fM} {l1 l2 l3 l4 l5 : Int} {r : (Unit ⊕ Int)} {Q : fO → fH → Prop} (h : s_X7_canGoOn_l3 M l1 l2 l3 l4 l5 = some r) (hE : ∀ (e : Unit) (o0' o1' o2' o3' o4' o5' : Option fV), r = .inl e → Wp (d + 0, 101, 57, 0, 0, [o0', o1', o2', o3', o4', o5'], []) (156, fjl L, M) Q) (hR : ∀ (v : Int), r = .inr v → Q (oI v) (156, fjl L, M)) : Wp (d + 0, 101, 3, 0, 0, [some (fA 54), some (fI l1), some (fI l2), some (fI l3), some (fI l4), some (fI l5)], []) (156, fjl L, M) Q := by
  refine fLp_wp (W := fun s => Wp (d + 0, 101, 3, 0, 0, [some (fA 54), some (fI l1), some (fI l2), some (fI l3), some (fI l4), some (fI s)], []) (156, fjl L, M) Q) (e := r) ?_ h
  intro s r1 h hC hX
  refine s_X7_canGoOn_b3_ok (d := d) h (fun a0 e1 => ?_) (fun e u0 u1 u2 u3 u4 u5 e1 => hE e u0 u1 u2 u3 u4 u5 (hX _ e1).symm) (fun v e1 => hR v (hX _ e1).symm)
  exact hC _ e1
noncomputable def s_X7_canGoOn (M : fM) (l1 l2 l3 l4 : Int) : Option Int :=
  (s_X7_canGoOn_l3 M l1 l2 l3 l4 0).bind fun e3 =>
    Sum.elim (fun x3 =>
      some 0)
      (fun v3 => some v3) e3
theorem s_X7_canGoOn_ok {d L : Nat} {M : fM} {l1 l2 l3 l4 : Int} {r : Int} {Q : fO → fH → Prop} (h : s_X7_canGoOn M l1 l2 l3 l4 = some r) (H : Q (oI r) (156, fjl L, M)) : Wp (d + 0, 101, 0, 0, 0, [some (fA 54), some (fI l1), some (fI l2), some (fI l3), some (fI l4), none], []) (156, fjl L, M) Q := by
  unfold s_X7_canGoOn at h
  refine Wp.run 2 (f' := (d + 0, 101, 3, 0, 0, [some (fA 54), some (fI l1), some (fI l2), some (fI l3), some (fI l4), some (fI 0)], [])) (h' := (156, fjl L, M)) rfl trivial ?_
  obtain ⟨e3, hy, h⟩ := fbd h
  refine s_X7_canGoOn_l3_ok hy (fun x3 u0 u1 u2 u3 u4 u5 ex => ?_) (fun v3 ex => ?_)
  · subst ex
    replace h := fsl h
    show Wp (d + 0, 101, 57, 0, 0, [u0, u1, u2, u3, u4, u5], []) (156, fjl L, M) Q
    refine Wp.run 1 (f' := (d + 0, 101, 58, 0, 0, [_, _, _, _, _, _], [fI 0])) (h' := (156, fjl L, M)) rfl trivial ?_
    obtain rfl := Option.some.inj h
    exact Wp.done rfl (by decide) H
  · subst ex
    replace h := fsr h
    obtain rfl := Option.some.inj h
    exact H
noncomputable def s_X7_firstNext_b3 (M : fM) (l1 l2 l3 l4 l5 : Int) : Option (Int ⊕ (Unit ⊕ Int)) :=
  if (M 54 17) ≤ l5 then
    some (.inr (.inl ()))
  else
    if ¬ (fand (fshr l1 l5) 1) = 0 then
      if fin (l5 + 1) then
        some (.inl (l5 + 1))
      else none
    else
      (s_X7_minutes M l2 l5).bind fun y29 =>
        if fin (l3 + y29) then
          (s_X7_doneAt M l5 (l3 + y29)).bind fun y33 =>
            if 1000000 ≤ y33 then
              if fin (l5 + 1) then
                some (.inl (l5 + 1))
              else none
            else
              (s_X7_canGoOn M (fior l1 (fshl 1 l5)) l5 y33 l4).bind fun y58 =>
                if y58 = 0 then
                  if fin (l5 + 1) then
                    some (.inl (l5 + 1))
                  else none
                else
                  some (.inr (.inr l5))
        else none
theorem s_X7_firstNext_b3_ok {d L : Nat} {M : fM} {l1 l2 l3 l4 l5 : Int} {o6 : Option fV} {r : (Int ⊕ (Unit ⊕ Int))} {Q : fO → fH → Prop} (h : s_X7_firstNext_b3 M l1 l2 l3 l4 l5 = some r) (hC : ∀ (l5' : Int) (o6' : Option fV), r = .inl l5' → Wp (d + 2, 100, 3, 0, 0, [some (fA 54), some (fI l1), some (fI l2), some (fI l3), some (fI l4), some (fI l5'), o6'], []) (156, fjl L, M) Q) (hE : ∀ (e : Unit) (o0' o1' o2' o3' o4' o5' o6' : Option fV), r = .inr (.inl e) → Wp (d + 2, 100, 73, 0, 0, [o0', o1', o2', o3', o4', o5', o6'], []) (156, fjl L, M) Q) (hR : ∀ (v : Int), r = .inr (.inr v) → Q (oI v) (156, fjl L, M)) : Wp (d + 2, 100, 3, 0, 0, [some (fA 54), some (fI l1), some (fI l2), some (fI l3), some (fI l4), some (fI l5), o6], []) (156, fjl L, M) Q := by
  unfold s_X7_firstNext_b3 at h
  refine Wp.run 3 (f' := (d + 2, 100, 9, 0, 0, [some (fA 54), some (fI l1), some (fI l2), some (fI l3), some (fI l4), some (fI l5), _], [fI (M 54 17), fI l5])) (h' := (156, fjl L, M)) rfl trivial ?_
  refine Wp.br rfl (fun (c : (M 54 17) ≤ l5) => ?_) (fun (c : ¬ ((M 54 17) ≤ l5)) => ?_)
  · replace h := fps c h
    exact hE _ _ _ _ _ _ _ _ (Option.some.inj h).symm
  · replace h := fng c h
    refine Wp.run 5 (f' := (d + 2, 100, 18, 0, 0, [some (fA 54), some (fI l1), some (fI l2), some (fI l3), some (fI l4), some (fI l5), _], [fI (fand (fshr l1 l5) 1)])) (h' := (156, fjl L, M)) rfl trivial ?_
    refine Wp.br rfl (fun (c : ¬ (fand (fshr l1 l5) 1) = 0) => ?_) (fun (c : ¬ (¬ (fand (fshr l1 l5) 1) = 0)) => ?_)
    · replace h := fps c h
      obtain ⟨g0, h⟩ := fgd h
      refine Wp.run 2 (f' := (d + 2, 100, 3, 0, 0, [some (fA 54), some (fI l1), some (fI l2), some (fI l3), some (fI l4), some (fI (fw (l5 + 1))), _], [])) (h' := (156, fjl L, M)) rfl trivial ?_
      rw [fw_id g0]
      exact hC _ _ (Option.some.inj h).symm
    · replace h := fng c h
      refine Wp.run 6 (f' := (d + 2, 100, 29, 0, 0, [some (fA 54), some (fI l1), some (fI l2), some (fI l3), some (fI l4), some (fI l5), _], [fI l5, fI l2, fA 54, fI l3, fI l5, fA 54])) (h' := (156, fjl L, M)) rfl trivial ?_
      obtain ⟨y29, hy, h⟩ := fbd h
      refine Wp.call rfl (by decide) (s_X7_minutes_ok (d := d + 0) hy ?_)
      show Wp (d + 2, 100, 32, 0, 0, [some (fA 54), some (fI l1), some (fI l2), some (fI l3), some (fI l4), some (fI l5), _], [fI y29, fI l3, fI l5, fA 54]) (156, fjl L, M) Q
      obtain ⟨g0, h⟩ := fgd h
      refine Wp.run 1 (f' := (d + 2, 100, 33, 0, 0, [some (fA 54), some (fI l1), some (fI l2), some (fI l3), some (fI l4), some (fI l5), _], [fI (fw (l3 + y29)), fI l5, fA 54])) (h' := (156, fjl L, M)) rfl trivial ?_
      rw [fw_id g0]
      obtain ⟨y33, hy, h⟩ := fbd h
      refine Wp.call rfl (by decide) (s_X7_doneAt_ok (d := d + 0) hy ?_)
      show Wp (d + 2, 100, 36, 0, 0, [some (fA 54), some (fI l1), some (fI l2), some (fI l3), some (fI l4), some (fI l5), _], [fI y33]) (156, fjl L, M) Q
      refine Wp.run 3 (f' := (d + 2, 100, 42, 0, 0, [some (fA 54), some (fI l1), some (fI l2), some (fI l3), some (fI l4), some (fI l5), some (fI y33)], [fI 1000000, fI y33])) (h' := (156, fjl L, M)) rfl trivial ?_
      refine Wp.br rfl (fun (c : 1000000 ≤ y33) => ?_) (fun (c : ¬ (1000000 ≤ y33)) => ?_)
      · replace h := fps c h
        obtain ⟨g0, h⟩ := fgd h
        refine Wp.run 2 (f' := (d + 2, 100, 3, 0, 0, [some (fA 54), some (fI l1), some (fI l2), some (fI l3), some (fI l4), some (fI (fw (l5 + 1))), _], [])) (h' := (156, fjl L, M)) rfl trivial ?_
        rw [fw_id g0]
        exact hC _ _ (Option.some.inj h).symm
      · replace h := fng c h
        refine Wp.run 9 (f' := (d + 2, 100, 58, 0, 0, [some (fA 54), some (fI l1), some (fI l2), some (fI l3), some (fI l4), some (fI l5), _], [fI l4, fI y33, fI l5, fI (fior l1 (fshl 1 l5)), fA 54])) (h' := (156, fjl L, M)) rfl trivial ?_
        obtain ⟨y58, hy, h⟩ := fbd h
        refine Wp.call rfl (by decide) (s_X7_canGoOn_ok (d := d + 1) hy ?_)
        show Wp (d + 2, 100, 61, 0, 0, [some (fA 54), some (fI l1), some (fI l2), some (fI l3), some (fI l4), some (fI l5), _], [fI y58]) (156, fjl L, M) Q
        refine Wp.br rfl (fun (c : y58 = 0) => ?_) (fun (c : ¬ (y58 = 0)) => ?_)
        · replace h := fps c h
          obtain ⟨g0, h⟩ := fgd h
          refine Wp.run 2 (f' := (d + 2, 100, 3, 0, 0, [some (fA 54), some (fI l1), some (fI l2), some (fI l3), some (fI l4), some (fI (fw (l5 + 1))), _], [])) (h' := (156, fjl L, M)) rfl trivial ?_
          rw [fw_id g0]
          exact hC _ _ (Option.some.inj h).symm
        · replace h := fng c h
          refine Wp.run 1 (f' := (d + 2, 100, 66, 0, 0, [_, _, _, _, _, _, _], [fI l5])) (h' := (156, fjl L, M)) rfl trivial ?_
          exact Wp.done rfl (by decide) (hR _ (Option.some.inj h).symm)
noncomputable def s_X7_firstNext_l3 (M : fM) (l1 l2 l3 l4 : Int) (s : Int) : Option (Unit ⊕ Int) := fLp (fun s => s_X7_firstNext_b3 M l1 l2 l3 l4 s) s
theorem s_X7_firstNext_l3_ok {d L : Nat} {M : fM} {l1 l2 l3 l4 l5 : Int} {o6 : Option fV} {r : (Unit ⊕ Int)} {Q : fO → fH → Prop} (h : s_X7_firstNext_l3 M l1 l2 l3 l4 l5 = some r) (hE : ∀ (e : Unit) (o0' o1' o2' o3' o4' o5' o6' : Option fV), r = .inl e → Wp (d + 2, 100, 73, 0, 0, [o0', o1', o2', o3', o4', o5', o6'], []) (156, fjl L, M) Q) (hR : ∀ (v : Int), r = .inr v → Q (oI v) (156, fjl L, M)) : Wp (d + 2, 100, 3, 0, 0, [some (fA 54), some (fI l1), some (fI l2), some (fI l3), some (fI l4), some (fI l5), o6], []) (156, fjl L, M) Q := by
  refine fLp_wp (W := fun s => ∀ (o6 : Option fV), Wp (d + 2, 100, 3, 0, 0, [some (fA 54), some (fI l1), some (fI l2), some (fI l3), some (fI l4), some (fI s), o6], []) (156, fjl L, M) Q) (e := r) ?_ h _
  intro s r1 h hC hX o6
  refine s_X7_firstNext_b3_ok (d := d) h (fun a0 _ e1 => ?_) (fun e u0 u1 u2 u3 u4 u5 u6 e1 => hE e u0 u1 u2 u3 u4 u5 u6 (hX _ e1).symm) (fun v e1 => hR v (hX _ e1).symm)
  exact hC _ e1 _
noncomputable def s_X7_firstNext (M : fM) (l1 l2 l3 l4 : Int) : Option Int :=
  (s_X7_firstNext_l3 M l1 l2 l3 l4 0).bind fun e3 =>
    Sum.elim (fun x3 =>
      some (-1))
      (fun v3 => some v3) e3
theorem s_X7_firstNext_ok {d L : Nat} {M : fM} {l1 l2 l3 l4 : Int} {r : Int} {Q : fO → fH → Prop} (h : s_X7_firstNext M l1 l2 l3 l4 = some r) (H : Q (oI r) (156, fjl L, M)) : Wp (d + 2, 100, 0, 0, 0, [some (fA 54), some (fI l1), some (fI l2), some (fI l3), some (fI l4), none, none], []) (156, fjl L, M) Q := by
  unfold s_X7_firstNext at h
  refine Wp.run 2 (f' := (d + 2, 100, 3, 0, 0, [some (fA 54), some (fI l1), some (fI l2), some (fI l3), some (fI l4), some (fI 0), _], [])) (h' := (156, fjl L, M)) rfl trivial ?_
  obtain ⟨e3, hy, h⟩ := fbd h
  refine s_X7_firstNext_l3_ok hy (fun x3 u0 u1 u2 u3 u4 u5 u6 ex => ?_) (fun v3 ex => ?_)
  · subst ex
    replace h := fsl h
    show Wp (d + 2, 100, 73, 0, 0, [u0, u1, u2, u3, u4, u5, u6], []) (156, fjl L, M) Q
    refine Wp.run 1 (f' := (d + 2, 100, 74, 0, 0, [_, _, _, _, _, _, _], [fI (-1)])) (h' := (156, fjl L, M)) rfl trivial ?_
    obtain rfl := Option.some.inj h
    exact Wp.done rfl (by decide) H
  · subst ex
    replace h := fsr h
    obtain rfl := Option.some.inj h
    exact H
