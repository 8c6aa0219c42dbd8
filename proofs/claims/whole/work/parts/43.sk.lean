/-! ===== functions of the methods (printed by genfun.py) ===== -/
abbrev s_X7_pickOrder_mods : List (Nat × Option Nat) := [(54, some 15), (66, none)]
noncomputable def s_X7_pickOrder_b24 (M : fM) (l1 l2 l3 l4 l5 : Int) : Option ((Int × Int × Int × Int × fM) ⊕ (fM ⊕ (Unit × fM))) :=
  if (M 54 17) ≤ l5 then
    some (.inr (.inl M))
  else
    if (0 ≤ l2 ∧ l2 < 512) then
      if l1 ≤ (M 61 (l2).toNat) then
        some (.inr (.inl M))
      else
        (s_X7_firstNext M l2 l3 l4 l1).bind fun y49 =>
          if 0 ≤ y49 then
            (s_X7_minutes M l3 y49).bind fun y69 =>
              if fin (l4 + y69) then
                (s_X7_doneAt M y49 (l4 + y69)).bind fun y73 =>
                  if (0 ≤ y49 ∧ y49 < 9) ∧ (0 ≤ l5 ∧ l5 < 9) then
                    if fin (l5 + 1) then
                      some (.inl ((fior l2 (fshl 1 y49)), y49, y73, (l5 + 1), (fup (fup M 66 (l5).toNat (M 55 (y49).toNat)) 54 15 (l5 + 1))))
                    else none
                  else none
              else none
          else
            some (.inr (.inr ((), M)))
    else none
theorem s_X7_pickOrder_b24_ok {d L : Nat} {M : fM} {l1 l2 l3 l4 l5 : Int} {o6 : Option fV} {r : ((Int × Int × Int × Int × fM) ⊕ (fM ⊕ (Unit × fM)))} {Q : fO → fH → Prop} (h : s_X7_pickOrder_b24 M l1 l2 l3 l4 l5 = some r) (hC : ∀ (l2' l3' l4' l5' : Int) (M' : fM) (o6' : Option fV), r = .inl (l2', l3', l4', l5', M') → Wp (d + 3, 99, 24, 0, 0, [some (fA 54), some (fI l1), some (fI l2'), some (fI l3'), some (fI l4'), some (fI l5'), o6'], []) (156, fjl L, M') Q) (hE : ∀ (e : fM) (o0' o1' o2' o3' o4' o5' o6' : Option fV), r = .inr (.inl e) → Wp (d + 3, 99, 116, 0, 0, [o0', o1', o2', o3', o4', o5', o6'], []) (156, fjl L, e) Q) (hR : ∀ (v : (Unit × fM)), r = .inr (.inr v) → Q (oV v.1) (156, fjl L, v.2)) : Wp (d + 3, 99, 24, 0, 0, [some (fA 54), some (fI l1), some (fI l2), some (fI l3), some (fI l4), some (fI l5), o6], []) (156, fjl L, M) Q := by
  unfold s_X7_pickOrder_b24 at h
  refine Wp.run 3 (f' := (d + 3, 99, 30, 0, 0, [some (fA 54), some (fI l1), some (fI l2), some (fI l3), some (fI l4), some (fI l5), _], [fI (M 54 17), fI l5])) (h' := (156, fjl L, M)) rfl trivial ?_
  refine Wp.br rfl (fun (c : (M 54 17) ≤ l5) => ?_) (fun (c : ¬ ((M 54 17) ≤ l5)) => ?_)
  · replace h := fps c h
    exact hE _ _ _ _ _ _ _ _ (Option.some.inj h).symm
  · replace h := fng c h
    obtain ⟨g0, h⟩ := fgd h
    refine Wp.run 5 (P := [0 ≤ l2 ∧ l2 < 512]) (f' := (d + 3, 99, 40, 0, 0, [some (fA 54), some (fI l1), some (fI l2), some (fI l3), some (fI l4), some (fI l5), _], [fI l1, fI (M 61 (l2).toNat)])) (h' := (156, fjl L, M)) rfl ?_ ?_
    · exact g0
    refine Wp.br rfl (fun (c : l1 ≤ (M 61 (l2).toNat)) => ?_) (fun (c : ¬ (l1 ≤ (M 61 (l2).toNat))) => ?_)
    · replace h := fps c h
      exact hE _ _ _ _ _ _ _ _ (Option.some.inj h).symm
    · replace h := fng c h
      refine Wp.run 5 (f' := (d + 3, 99, 49, 0, 0, [some (fA 54), some (fI l1), some (fI l2), some (fI l3), some (fI l4), some (fI l5), _], [fI l1, fI l4, fI l3, fI l2, fA 54])) (h' := (156, fjl L, M)) rfl trivial ?_
      obtain ⟨y49, hy, h⟩ := fbd h
      refine Wp.call rfl (by decide) (s_X7_firstNext_ok (d := d + 0) hy ?_)
      show Wp (d + 3, 99, 52, 0, 0, [some (fA 54), some (fI l1), some (fI l2), some (fI l3), some (fI l4), some (fI l5), _], [fI y49]) (156, fjl L, M) Q
      refine Wp.run 2 (f' := (d + 3, 99, 56, 0, 0, [some (fA 54), some (fI l1), some (fI l2), some (fI l3), some (fI l4), some (fI l5), some (fI y49)], [fI y49])) (h' := (156, fjl L, M)) rfl trivial ?_
      refine Wp.br rfl (fun (c : 0 ≤ y49) => ?_) (fun (c : ¬ (0 ≤ y49)) => ?_)
      · replace h := fps c h
        refine Wp.run 6 (f' := (d + 3, 99, 69, 0, 0, [some (fA 54), some (fI l1), some (fI l2), _, _, some (fI l5), some (fI y49)], [fI y49, fI l3, fA 54, fI l4, fI y49, fA 54])) (h' := (156, fjl L, M)) rfl trivial ?_
        obtain ⟨y69, hy, h⟩ := fbd h
        refine Wp.call rfl (by decide) (s_X7_minutes_ok (d := d + 1) hy ?_)
        show Wp (d + 3, 99, 72, 0, 0, [some (fA 54), some (fI l1), some (fI l2), _, _, some (fI l5), some (fI y49)], [fI y69, fI l4, fI y49, fA 54]) (156, fjl L, M) Q
        obtain ⟨g0, h⟩ := fgd h
        refine Wp.run 1 (f' := (d + 3, 99, 73, 0, 0, [some (fA 54), some (fI l1), some (fI l2), _, _, some (fI l5), some (fI y49)], [fI (fw (l4 + y69)), fI y49, fA 54])) (h' := (156, fjl L, M)) rfl trivial ?_
        rw [fw_id g0]
        obtain ⟨y73, hy, h⟩ := fbd h
        refine Wp.call rfl (by decide) (s_X7_doneAt_ok (d := d + 1) hy ?_)
        show Wp (d + 3, 99, 76, 0, 0, [some (fA 54), some (fI l1), some (fI l2), _, _, some (fI l5), some (fI y49)], [fI y73]) (156, fjl L, M) Q
        obtain ⟨⟨g0, g1⟩, h⟩ := fgd h
        refine Wp.run 17 (P := [0 ≤ y49 ∧ y49 < 9, 0 ≤ l5 ∧ l5 < 9]) (f' := (d + 3, 99, 102, 0, 0, [some (fA 54), some (fI l1), some (fI (fior l2 (fshl 1 y49))), some (fI y49), some (fI y73), some (fI l5), _], [])) (h' := (156, fjl L, (fup M 66 (l5).toNat (M 55 (y49).toNat)))) rfl ?_ ?_
        · exact ⟨g0, g1⟩
        obtain ⟨g0, h⟩ := fgd h
        refine Wp.run 7 (f' := (d + 3, 99, 24, 0, 0, [some (fA 54), some (fI l1), some (fI (fior l2 (fshl 1 y49))), some (fI y49), some (fI y73), some (fI (fw (l5 + 1))), _], [])) (h' := (156, fjl L, (fup (fup M 66 (l5).toNat (M 55 (y49).toNat)) 54 15 (fw (l5 + 1))))) rfl trivial ?_
        rw [fw_id g0]
        exact hC _ _ _ _ _ _ (Option.some.inj h).symm
      · replace h := fng c h
        exact Wp.done rfl (by decide) (hR _ (Option.some.inj h).symm)
theorem s_X7_pickOrder_b24_fr {M : fM} {l1 l2 l3 l4 l5 : Int} {r : ((Int × Int × Int × Int × fM) ⊕ (fM ⊕ (Unit × fM)))} (h : s_X7_pickOrder_b24 M l1 l2 l3 l4 l5 = some r) : fSame s_X7_pickOrder_mods M (Sum.elim (fun s => s.2.2.2.2) (Sum.elim (fun e => e) (fun v => v.2)) r) := by
  unfold s_X7_pickOrder_b24 at h
  by_cases c : (M 54 17) ≤ l5
  · replace h := fps c h
    obtain rfl := Option.some.inj h
    exact fs_refl
  · replace h := fng c h
    replace h := (fgd h).2
    by_cases c : l1 ≤ (M 61 (l2).toNat)
    · replace h := fps c h
      obtain rfl := Option.some.inj h
      exact fs_refl
    · replace h := fng c h
      obtain ⟨y49, hy, h⟩ := fbd h
      by_cases c : 0 ≤ y49
      · replace h := fps c h
        obtain ⟨y69, hy, h⟩ := fbd h
        replace h := (fgd h).2
        obtain ⟨y73, hy, h⟩ := fbd h
        replace h := (fgd h).2
        replace h := (fgd h).2
        obtain rfl := Option.some.inj h
        exact fs_up (fs_up fs_refl (.inl (by decide))) (.inr (by decide))
      · replace h := fng c h
        obtain rfl := Option.some.inj h
        exact fs_refl
noncomputable def s_X7_pickOrder_l24 (l1 : Int) (s : (Int × Int × Int × Int × fM)) : Option (fM ⊕ (Unit × fM)) := fLp (fun s => s_X7_pickOrder_b24 s.2.2.2.2 l1 s.1 s.2.1 s.2.2.1 s.2.2.2.1) s
theorem s_X7_pickOrder_l24_ok {d L : Nat} {M : fM} {l1 l2 l3 l4 l5 : Int} {o6 : Option fV} {r : (fM ⊕ (Unit × fM))} {Q : fO → fH → Prop} (h : s_X7_pickOrder_l24 l1 (l2, l3, l4, l5, M) = some r) (hE : ∀ (e : fM) (o0' o1' o2' o3' o4' o5' o6' : Option fV), r = .inl e → Wp (d + 3, 99, 116, 0, 0, [o0', o1', o2', o3', o4', o5', o6'], []) (156, fjl L, e) Q) (hR : ∀ (v : (Unit × fM)), r = .inr v → Q (oV v.1) (156, fjl L, v.2)) : Wp (d + 3, 99, 24, 0, 0, [some (fA 54), some (fI l1), some (fI l2), some (fI l3), some (fI l4), some (fI l5), o6], []) (156, fjl L, M) Q := by
  refine fLp_wp (W := fun s => ∀ (o6 : Option fV), Wp (d + 3, 99, 24, 0, 0, [some (fA 54), some (fI l1), some (fI s.1), some (fI s.2.1), some (fI s.2.2.1), some (fI s.2.2.2.1), o6], []) (156, fjl L, s.2.2.2.2) Q) (e := r) ?_ h _
  intro s r1 h hC hX o6
  refine s_X7_pickOrder_b24_ok (d := d) h (fun a0 a1 a2 a3 a4 _ e1 => ?_) (fun e u0 u1 u2 u3 u4 u5 u6 e1 => hE e u0 u1 u2 u3 u4 u5 u6 (hX _ e1).symm) (fun v e1 => hR v (hX _ e1).symm)
  exact hC _ e1 _
theorem s_X7_pickOrder_l24_fr {M : fM} {l1 l2 l3 l4 l5 : Int} {r : (fM ⊕ (Unit × fM))} (h : s_X7_pickOrder_l24 l1 (l2, l3, l4, l5, M) = some r) : fSame s_X7_pickOrder_mods M ((Sum.elim (fun e => e) (fun v => v.2)) r) := by
  refine fLp_inv (I := fun s => fSame s_X7_pickOrder_mods M s.2.2.2.2) (J := fun r => fSame s_X7_pickOrder_mods M ((Sum.elim (fun e => e) (fun v => v.2)) r)) h fs_refl (fun s s1 hs hb => ?_) (fun s e hs hb => ?_)
  · exact fs_trans hs (s_X7_pickOrder_b24_fr hb)
  · exact fs_trans hs (s_X7_pickOrder_b24_fr hb)
noncomputable def s_X7_pickOrder (M : fM) (l1 : Int) : Option (Unit × fM) :=
  (s_X7_pickOrder_l24 l1 (0, 9, (M 8 4), 0, (fup M 54 15 0))).bind fun e24 =>
    Sum.elim (fun x24 =>
      some ((), x24))
      (fun v24 => some v24) e24
theorem s_X7_pickOrder_ok {d L : Nat} {M : fM} {l1 : Int} {r : (Unit × fM)} {Q : fO → fH → Prop} (h : s_X7_pickOrder M l1 = some r) (H : Q (oV r.1) (156, fjl L, r.2)) : Wp (d + 3, 99, 0, 0, 0, [some (fA 54), some (fI l1), none, none, none, none, none], []) (156, fjl L, M) Q := by
  unfold s_X7_pickOrder at h
  refine Wp.run 13 (P := [(0 : Int) ≤ 4 ∧ (4 : Int) < 6]) (f' := (d + 3, 99, 21, 0, 0, [some (fA 54), some (fI l1), some (fI 0), some (fI 9), some (fI (M 8 4)), _, _], [])) (h' := (156, fjl L, (fup M 54 15 0))) rfl ?_ ?_
  · exact (by decide : (0 : Int) ≤ 4 ∧ (4 : Int) < 6)
  refine Wp.run 2 (f' := (d + 3, 99, 24, 0, 0, [some (fA 54), some (fI l1), some (fI 0), some (fI 9), some (fI (M 8 4)), some (fI 0), _], [])) (h' := (156, fjl L, (fup M 54 15 0))) rfl trivial ?_
  obtain ⟨e24, hy, h⟩ := fbd h
  refine s_X7_pickOrder_l24_ok hy (fun x24 u0 u1 u2 u3 u4 u5 u6 ex => ?_) (fun v24 ex => ?_)
  · subst ex
    replace h := fsl h
    show Wp (d + 3, 99, 116, 0, 0, [u0, u1, u2, u3, u4, u5, u6], []) (156, fjl L, x24) Q
    obtain rfl := Option.some.inj h
    exact Wp.done rfl (by decide) H
  · subst ex
    replace h := fsr h
    obtain rfl := Option.some.inj h
    exact H
theorem s_X7_pickOrder_fr {M : fM} {l1 : Int} {r : (Unit × fM)} (h : s_X7_pickOrder M l1 = some r) : fSame s_X7_pickOrder_mods M r.2 := by
  unfold s_X7_pickOrder at h
  obtain ⟨e24, hy, h⟩ := fbd h
  have k24 := fs_trans (l := s_X7_pickOrder_mods) (fs_up fs_refl (.inr (by decide))) (s_X7_pickOrder_l24_fr hy)
  rcases e24 with x24 | v24
  · replace h := fsl h
    obtain rfl := Option.some.inj h
    exact k24
  · replace h := fsr h
    obtain rfl := Option.some.inj h
    exact k24
abbrev s_X7_best_mods : List (Nat × Option Nat) := [(43, some 5), (43, some 6), (44, none), (45, none), (46, none), (54, some 15), (54, some 16), (54, some 17), (54, some 18), (55, none), (56, none), (57, none), (58, none), (59, none), (60, none), (61, none), (62, none), (63, none), (66, none)]
noncomputable def s_X7_best_j99 (M : fM) (l4 l5 l6 t0 : Int) : Option ((Int × Int) ⊕ Int) :=
  if (0 ≤ l5 ∧ l5 < 512) then
    if 1000000 ≤ (M 63 (l5).toNat) then
      if fin (l5 + 1) then
        some (.inl (l4, (l5 + 1)))
      else none
    else
      if ¬ l6 = 0 then
        if fin (l5 + 1) then
          some (.inl (l5, (l5 + 1)))
        else none
      else
        if t0 = 0 then
          if fin (l5 + 1) then
            some (.inl (l4, (l5 + 1)))
          else none
        else
          if fin (l5 + 1) then
            some (.inl (l5, (l5 + 1)))
          else none
  else none
theorem s_X7_best_j99_ok {d L : Nat} {M : fM} {l4 l5 l6 t0 : Int} {o1 o2 o3 o7 : Option fV} {r : ((Int × Int) ⊕ Int)} {Q : fO → fH → Prop} (h : s_X7_best_j99 M l4 l5 l6 t0 = some r) (hC : ∀ (l4' l5' : Int) (o1' o2' o3' o6' o7' : Option fV), r = .inl (l4', l5') → Wp (d + 6, 96, 27, 0, 0, [some (fA 54), o1', o2', o3', some (fI l4'), some (fI l5'), o6', o7'], []) (156, fjl L, M) Q) (hE : ∀ (e : Int) (o1' o2' o3' o5' o6' o7' : Option fV), r = .inr e → Wp (d + 6, 96, 133, 0, 0, [some (fA 54), o1', o2', o3', some (fI e), o5', o6', o7'], []) (156, fjl L, M) Q) : Wp (d + 6, 96, 99, 0, 0, [some (fA 54), o1, o2, o3, some (fI l4), some (fI l5), some (fI l6), o7], [fI t0]) (156, fjl L, M) Q := by
  unfold s_X7_best_j99 at h
  obtain ⟨g0, h⟩ := fgd h
  refine Wp.run 6 (P := [0 ≤ l5 ∧ l5 < 512]) (f' := (d + 6, 96, 110, 0, 0, [some (fA 54), _, _, _, some (fI l4), some (fI l5), some (fI l6), some (fI t0)], [fI 1000000, fI (M 63 (l5).toNat)])) (h' := (156, fjl L, M)) rfl ?_ ?_
  · exact g0
  refine Wp.br rfl (fun (c : 1000000 ≤ (M 63 (l5).toNat)) => ?_) (fun (c : ¬ (1000000 ≤ (M 63 (l5).toNat))) => ?_)
  · replace h := fps c h
    obtain ⟨g0, h⟩ := fgd h
    refine Wp.run 2 (f' := (d + 6, 96, 27, 0, 0, [some (fA 54), _, _, _, some (fI l4), some (fI (fw (l5 + 1))), _, _], [])) (h' := (156, fjl L, M)) rfl trivial ?_
    rw [fw_id g0]
    exact hC _ _ _ _ _ _ _ (Option.some.inj h).symm
  · replace h := fng c h
    refine Wp.run 1 (f' := (d + 6, 96, 115, 0, 0, [some (fA 54), _, _, _, some (fI l4), some (fI l5), _, some (fI t0)], [fI l6])) (h' := (156, fjl L, M)) rfl trivial ?_
    refine Wp.br rfl (fun (c : ¬ l6 = 0) => ?_) (fun (c : ¬ (¬ l6 = 0)) => ?_)
    · replace h := fps c h
      obtain ⟨g0, h⟩ := fgd h
      refine Wp.run 4 (f' := (d + 6, 96, 27, 0, 0, [some (fA 54), _, _, _, some (fI l5), some (fI (fw (l5 + 1))), _, _], [])) (h' := (156, fjl L, M)) rfl trivial ?_
      rw [fw_id g0]
      exact hC _ _ _ _ _ _ _ (Option.some.inj h).symm
    · replace h := fng c h
      refine Wp.run 1 (f' := (d + 6, 96, 120, 0, 0, [some (fA 54), _, _, _, some (fI l4), some (fI l5), _, _], [fI t0])) (h' := (156, fjl L, M)) rfl trivial ?_
      refine Wp.br rfl (fun (c : t0 = 0) => ?_) (fun (c : ¬ (t0 = 0)) => ?_)
      · replace h := fps c h
        obtain ⟨g0, h⟩ := fgd h
        refine Wp.run 2 (f' := (d + 6, 96, 27, 0, 0, [some (fA 54), _, _, _, some (fI l4), some (fI (fw (l5 + 1))), _, _], [])) (h' := (156, fjl L, M)) rfl trivial ?_
        rw [fw_id g0]
        exact hC _ _ _ _ _ _ _ (Option.some.inj h).symm
      · replace h := fng c h
        obtain ⟨g0, h⟩ := fgd h
        refine Wp.run 4 (f' := (d + 6, 96, 27, 0, 0, [some (fA 54), _, _, _, some (fI l5), some (fI (fw (l5 + 1))), _, _], [])) (h' := (156, fjl L, M)) rfl trivial ?_
        rw [fw_id g0]
        exact hC _ _ _ _ _ _ _ (Option.some.inj h).symm
theorem s_X7_best_j99_fr {M : fM} {l4 l5 l6 t0 : Int} {r : ((Int × Int) ⊕ Int)} (h : s_X7_best_j99 M l4 l5 l6 t0 = some r) : fSame s_X7_best_mods M (Sum.elim (fun _ => M) (fun _ => M) r) := by
  unfold s_X7_best_j99 at h
  replace h := (fgd h).2
  by_cases c : 1000000 ≤ (M 63 (l5).toNat)
  · replace h := fps c h
    replace h := (fgd h).2
    obtain rfl := Option.some.inj h
    exact fs_refl
  · replace h := fng c h
    by_cases c : ¬ l6 = 0
    · replace h := fps c h
      replace h := (fgd h).2
      obtain rfl := Option.some.inj h
      exact fs_refl
    · replace h := fng c h
      by_cases c : t0 = 0
      · replace h := fps c h
        replace h := (fgd h).2
        obtain rfl := Option.some.inj h
        exact fs_refl
      · replace h := fng c h
        replace h := (fgd h).2
        obtain rfl := Option.some.inj h
        exact fs_refl
noncomputable def s_X7_best_j98 (M : fM) (l4 l5 l6 : Int) : Option ((Int × Int) ⊕ Int) :=
  s_X7_best_j99 M l4 l5 l6 0
theorem s_X7_best_j98_ok {d L : Nat} {M : fM} {l4 l5 l6 : Int} {o1 o2 o3 o7 : Option fV} {r : ((Int × Int) ⊕ Int)} {Q : fO → fH → Prop} (h : s_X7_best_j98 M l4 l5 l6 = some r) (hC : ∀ (l4' l5' : Int) (o1' o2' o3' o6' o7' : Option fV), r = .inl (l4', l5') → Wp (d + 6, 96, 27, 0, 0, [some (fA 54), o1', o2', o3', some (fI l4'), some (fI l5'), o6', o7'], []) (156, fjl L, M) Q) (hE : ∀ (e : Int) (o1' o2' o3' o5' o6' o7' : Option fV), r = .inr e → Wp (d + 6, 96, 133, 0, 0, [some (fA 54), o1', o2', o3', some (fI e), o5', o6', o7'], []) (156, fjl L, M) Q) : Wp (d + 6, 96, 98, 0, 0, [some (fA 54), o1, o2, o3, some (fI l4), some (fI l5), some (fI l6), o7], []) (156, fjl L, M) Q := by
  unfold s_X7_best_j98 at h
  refine Wp.run 1 (f' := (d + 6, 96, 99, 0, 0, [some (fA 54), _, _, _, some (fI l4), some (fI l5), some (fI l6), _], [fI 0])) (h' := (156, fjl L, M)) rfl trivial ?_
  exact s_X7_best_j99_ok h hC hE
theorem s_X7_best_j98_fr {M : fM} {l4 l5 l6 : Int} {r : ((Int × Int) ⊕ Int)} (h : s_X7_best_j98 M l4 l5 l6 = some r) : fSame s_X7_best_mods M (Sum.elim (fun _ => M) (fun _ => M) r) := by
  unfold s_X7_best_j98 at h
  exact fs_trans fs_refl (s_X7_best_j99_fr h)
noncomputable def s_X7_best_j58 (M : fM) (l4 l5 t0 : Int) : Option ((Int × Int) ⊕ Int) :=
  if (0 ≤ l5 ∧ l5 < 512) ∧ (0 ≤ l4 ∧ l4 < 512) then
    if ¬ (M 61 (l5).toNat) = (M 61 (l4).toNat) then
      s_X7_best_j98 M l4 l5 t0
    else
      if (0 ≤ l5 ∧ l5 < 512) ∧ (0 ≤ l4 ∧ l4 < 512) then
        if (M 63 (l4).toNat) ≤ (M 63 (l5).toNat) then
          s_X7_best_j98 M l4 l5 t0
        else
          s_X7_best_j99 M l4 l5 t0 1
      else none
  else none
theorem s_X7_best_j58_ok {d L : Nat} {M : fM} {l4 l5 t0 : Int} {o1 o2 o3 o6 o7 : Option fV} {r : ((Int × Int) ⊕ Int)} {Q : fO → fH → Prop} (h : s_X7_best_j58 M l4 l5 t0 = some r) (hC : ∀ (l4' l5' : Int) (o1' o2' o3' o6' o7' : Option fV), r = .inl (l4', l5') → Wp (d + 6, 96, 27, 0, 0, [some (fA 54), o1', o2', o3', some (fI l4'), some (fI l5'), o6', o7'], []) (156, fjl L, M) Q) (hE : ∀ (e : Int) (o1' o2' o3' o5' o6' o7' : Option fV), r = .inr e → Wp (d + 6, 96, 133, 0, 0, [some (fA 54), o1', o2', o3', some (fI e), o5', o6', o7'], []) (156, fjl L, M) Q) : Wp (d + 6, 96, 58, 0, 0, [some (fA 54), o1, o2, o3, some (fI l4), some (fI l5), o6, o7], [fI t0]) (156, fjl L, M) Q := by
  unfold s_X7_best_j58 at h
  obtain ⟨⟨g0, g1⟩, h⟩ := fgd h
  refine Wp.run 9 (P := [0 ≤ l5 ∧ l5 < 512, 0 ≤ l4 ∧ l4 < 512]) (f' := (d + 6, 96, 74, 0, 0, [some (fA 54), _, _, _, some (fI l4), some (fI l5), some (fI t0), _], [fI (M 61 (l4).toNat), fI (M 61 (l5).toNat)])) (h' := (156, fjl L, M)) rfl ?_ ?_
  · exact ⟨g0, g1⟩
  refine Wp.br rfl (fun (c : ¬ (M 61 (l5).toNat) = (M 61 (l4).toNat)) => ?_) (fun (c : ¬ (¬ (M 61 (l5).toNat) = (M 61 (l4).toNat))) => ?_)
  · replace h := fps c h
    exact s_X7_best_j98_ok h hC hE
  · replace h := fng c h
    obtain ⟨⟨g0, g1⟩, h⟩ := fgd h
    refine Wp.run 8 (P := [0 ≤ l5 ∧ l5 < 512, 0 ≤ l4 ∧ l4 < 512]) (f' := (d + 6, 96, 91, 0, 0, [some (fA 54), _, _, _, some (fI l4), some (fI l5), some (fI t0), _], [fI (M 63 (l4).toNat), fI (M 63 (l5).toNat)])) (h' := (156, fjl L, M)) rfl ?_ ?_
    · exact ⟨g0, g1⟩
    refine Wp.br rfl (fun (c : (M 63 (l4).toNat) ≤ (M 63 (l5).toNat)) => ?_) (fun (c : ¬ ((M 63 (l4).toNat) ≤ (M 63 (l5).toNat))) => ?_)
    · replace h := fps c h
      exact s_X7_best_j98_ok h hC hE
    · replace h := fng c h
      refine Wp.run 2 (f' := (d + 6, 96, 99, 0, 0, [some (fA 54), _, _, _, some (fI l4), some (fI l5), some (fI t0), _], [fI 1])) (h' := (156, fjl L, M)) rfl trivial ?_
      exact s_X7_best_j99_ok h hC hE
theorem s_X7_best_j58_fr {M : fM} {l4 l5 t0 : Int} {r : ((Int × Int) ⊕ Int)} (h : s_X7_best_j58 M l4 l5 t0 = some r) : fSame s_X7_best_mods M (Sum.elim (fun _ => M) (fun _ => M) r) := by
  unfold s_X7_best_j58 at h
  replace h := (fgd h).2
  by_cases c : ¬ (M 61 (l5).toNat) = (M 61 (l4).toNat)
  · replace h := fps c h
    exact fs_trans fs_refl (s_X7_best_j98_fr h)
  · replace h := fng c h
    replace h := (fgd h).2
    by_cases c : (M 63 (l4).toNat) ≤ (M 63 (l5).toNat)
    · replace h := fps c h
      exact fs_trans fs_refl (s_X7_best_j98_fr h)
    · replace h := fng c h
      exact fs_trans fs_refl (s_X7_best_j99_fr h)
noncomputable def s_X7_best_b27 (M : fM) (l4 l5 : Int) : Option ((Int × Int) ⊕ Int) :=
  if (M 54 18) ≤ l5 then
    some (.inr l4)
  else
    if (0 ≤ l5 ∧ l5 < 512) ∧ (0 ≤ l4 ∧ l4 < 512) then
      if (M 61 (l5).toNat) ≤ (M 61 (l4).toNat) then
        s_X7_best_j58 M l4 l5 0
      else
        s_X7_best_j58 M l4 l5 1
    else none
theorem s_X7_best_b27_ok {d L : Nat} {M : fM} {l4 l5 : Int} {o1 o2 o3 o6 o7 : Option fV} {r : ((Int × Int) ⊕ Int)} {Q : fO → fH → Prop} (h : s_X7_best_b27 M l4 l5 = some r) (hC : ∀ (l4' l5' : Int) (o1' o2' o3' o6' o7' : Option fV), r = .inl (l4', l5') → Wp (d + 6, 96, 27, 0, 0, [some (fA 54), o1', o2', o3', some (fI l4'), some (fI l5'), o6', o7'], []) (156, fjl L, M) Q) (hE : ∀ (e : Int) (o1' o2' o3' o5' o6' o7' : Option fV), r = .inr e → Wp (d + 6, 96, 133, 0, 0, [some (fA 54), o1', o2', o3', some (fI e), o5', o6', o7'], []) (156, fjl L, M) Q) : Wp (d + 6, 96, 27, 0, 0, [some (fA 54), o1, o2, o3, some (fI l4), some (fI l5), o6, o7], []) (156, fjl L, M) Q := by
  unfold s_X7_best_b27 at h
  refine Wp.run 3 (f' := (d + 6, 96, 33, 0, 0, [some (fA 54), _, _, _, some (fI l4), some (fI l5), _, _], [fI (M 54 18), fI l5])) (h' := (156, fjl L, M)) rfl trivial ?_
  refine Wp.br rfl (fun (c : (M 54 18) ≤ l5) => ?_) (fun (c : ¬ ((M 54 18) ≤ l5)) => ?_)
  · replace h := fps c h
    exact hE _ _ _ _ _ _ _ (Option.some.inj h).symm
  · replace h := fng c h
    obtain ⟨⟨g0, g1⟩, h⟩ := fgd h
    refine Wp.run 8 (P := [0 ≤ l5 ∧ l5 < 512, 0 ≤ l4 ∧ l4 < 512]) (f' := (d + 6, 96, 50, 0, 0, [some (fA 54), _, _, _, some (fI l4), some (fI l5), _, _], [fI (M 61 (l4).toNat), fI (M 61 (l5).toNat)])) (h' := (156, fjl L, M)) rfl ?_ ?_
    · exact ⟨g0, g1⟩
    refine Wp.br rfl (fun (c : (M 61 (l5).toNat) ≤ (M 61 (l4).toNat)) => ?_) (fun (c : ¬ ((M 61 (l5).toNat) ≤ (M 61 (l4).toNat))) => ?_)
    · replace h := fps c h
      refine Wp.run 1 (f' := (d + 6, 96, 58, 0, 0, [some (fA 54), _, _, _, some (fI l4), some (fI l5), _, _], [fI 0])) (h' := (156, fjl L, M)) rfl trivial ?_
      exact s_X7_best_j58_ok h hC hE
    · replace h := fng c h
      refine Wp.run 2 (f' := (d + 6, 96, 58, 0, 0, [some (fA 54), _, _, _, some (fI l4), some (fI l5), _, _], [fI 1])) (h' := (156, fjl L, M)) rfl trivial ?_
      exact s_X7_best_j58_ok h hC hE
theorem s_X7_best_b27_fr {M : fM} {l4 l5 : Int} {r : ((Int × Int) ⊕ Int)} (h : s_X7_best_b27 M l4 l5 = some r) : fSame s_X7_best_mods M (Sum.elim (fun _ => M) (fun _ => M) r) := by
  unfold s_X7_best_b27 at h
  by_cases c : (M 54 18) ≤ l5
  · replace h := fps c h
    obtain rfl := Option.some.inj h
    exact fs_refl
  · replace h := fng c h
    replace h := (fgd h).2
    by_cases c : (M 61 (l5).toNat) ≤ (M 61 (l4).toNat)
    · replace h := fps c h
      exact fs_trans fs_refl (s_X7_best_j58_fr h)
    · replace h := fng c h
      exact fs_trans fs_refl (s_X7_best_j58_fr h)
noncomputable def s_X7_best_l27 (M : fM) (s : (Int × Int)) : Option Int := fLp (fun s => s_X7_best_b27 M s.1 s.2) s
theorem s_X7_best_l27_ok {d L : Nat} {M : fM} {l4 l5 : Int} {o1 o2 o3 o6 o7 : Option fV} {r : Int} {Q : fO → fH → Prop} (h : s_X7_best_l27 M (l4, l5) = some r) (hE : ∀ (e : Int) (o1' o2' o3' o5' o6' o7' : Option fV), r = e → Wp (d + 6, 96, 133, 0, 0, [some (fA 54), o1', o2', o3', some (fI e), o5', o6', o7'], []) (156, fjl L, M) Q) : Wp (d + 6, 96, 27, 0, 0, [some (fA 54), o1, o2, o3, some (fI l4), some (fI l5), o6, o7], []) (156, fjl L, M) Q := by
  refine fLp_wp (W := fun s => ∀ (o1 o2 o3 o6 o7 : Option fV), Wp (d + 6, 96, 27, 0, 0, [some (fA 54), o1, o2, o3, some (fI s.1), some (fI s.2), o6, o7], []) (156, fjl L, M) Q) (e := r) ?_ h _ _ _ _ _
  intro s r1 h hC hX o1 o2 o3 o6 o7
  refine s_X7_best_b27_ok (d := d) h (fun a0 a1 _ _ _ _ _ e1 => ?_) (fun e u0 u1 u2 u3 u4 u5 e1 => hE e u0 u1 u2 u3 u4 u5 (hX _ e1).symm)
  exact hC _ e1 _ _ _ _ _
noncomputable def s_X7_best (M : fM) (l1 l2 l3 : Int) : Option (Int × fM) :=
  (s_X7_sortPianos M l1).bind fun y2 =>
    (s_X7_place y2.2 l1 l3).bind fun y8 =>
      (s_X7_weigh y8.2 l3).bind fun y13 =>
        (s_X7_fillHomes y13.2 l2).bind fun y18 =>
          (s_X7_best_l27 y18.2 (0, 1)).bind fun e27 =>
            if (0 ≤ e27 ∧ e27 < 512) then
              (s_X7_fillLatest (fup y18.2 54 16 (y18.2 63 (e27).toNat)) (y18.2 63 (e27).toNat)).bind fun y149 =>
                if (0 ≤ e27 ∧ e27 < 512) then
                  (s_X7_pickOrder y149.2 (y149.2 61 (e27).toNat)).bind fun y160 =>
                    if (0 ≤ e27 ∧ e27 < 512) then
                      some ((y160.2 61 (e27).toNat), y160.2)
                    else none
                else none
            else none
theorem s_X7_best_ok {d L : Nat} {M : fM} {l1 l2 l3 : Int} {r : (Int × fM)} {Q : fO → fH → Prop} (h : s_X7_best M l1 l2 l3 = some r) (H : Q (oI r.1) (156, fjl L, r.2)) : Wp (d + 6, 96, 0, 0, 0, [some (fA 54), some (fI l1), some (fI l2), some (fI l3), none, none, none, none], []) (156, fjl L, M) Q := by
  unfold s_X7_best at h
  refine Wp.run 2 (f' := (d + 6, 96, 2, 0, 0, [some (fA 54), some (fI l1), some (fI l2), some (fI l3), _, _, _, _], [fI l1, fA 54])) (h' := (156, fjl L, M)) rfl trivial ?_
  obtain ⟨y2, hy, h⟩ := fbd h
  refine Wp.call rfl (by decide) (s_X7_sortPianos_ok (d := d + 5) hy ?_)
  show Wp (d + 6, 96, 5, 0, 0, [some (fA 54), some (fI l1), some (fI l2), some (fI l3), _, _, _, _], []) (156, fjl L, y2.2) Q
  refine Wp.run 3 (f' := (d + 6, 96, 8, 0, 0, [some (fA 54), _, some (fI l2), some (fI l3), _, _, _, _], [fI l3, fI l1, fA 54])) (h' := (156, fjl L, y2.2)) rfl trivial ?_
  obtain ⟨y8, hy, h⟩ := fbd h
  refine Wp.call rfl (by decide) (s_X7_place_ok (d := d + 3) hy ?_)
  show Wp (d + 6, 96, 11, 0, 0, [some (fA 54), _, some (fI l2), some (fI l3), _, _, _, _], []) (156, fjl L, y8.2) Q
  refine Wp.run 2 (f' := (d + 6, 96, 13, 0, 0, [some (fA 54), _, some (fI l2), _, _, _, _, _], [fI l3, fA 54])) (h' := (156, fjl L, y8.2)) rfl trivial ?_
  obtain ⟨y13, hy, h⟩ := fbd h
  refine Wp.call rfl (by decide) (s_X7_weigh_ok (d := d + 0) hy ?_)
  show Wp (d + 6, 96, 16, 0, 0, [some (fA 54), _, some (fI l2), _, _, _, _, _], []) (156, fjl L, y13.2) Q
  refine Wp.run 2 (f' := (d + 6, 96, 18, 0, 0, [some (fA 54), _, _, _, _, _, _, _], [fI l2, fA 54])) (h' := (156, fjl L, y13.2)) rfl trivial ?_
  obtain ⟨y18, hy, h⟩ := fbd h
  refine Wp.call rfl (by decide) (s_X7_fillHomes_ok (d := d + 2) hy ?_)
  show Wp (d + 6, 96, 21, 0, 0, [some (fA 54), _, _, _, _, _, _, _], []) (156, fjl L, y18.2) Q
  refine Wp.run 4 (f' := (d + 6, 96, 27, 0, 0, [some (fA 54), _, _, _, some (fI 0), some (fI 1), _, _], [])) (h' := (156, fjl L, y18.2)) rfl trivial ?_
  obtain ⟨e27, hy, h⟩ := fbd h
  refine s_X7_best_l27_ok hy (fun x u1 u2 u3 u5 u6 u7 ex => ?_)
  cases ex
  show Wp (d + 6, 96, 133, 0, 0, [some (fA 54), u1, u2, u3, some (fI e27), u5, u6, u7], []) (156, fjl L, y18.2) Q
  obtain ⟨g0, h⟩ := fgd h
  refine Wp.run 9 (P := [0 ≤ e27 ∧ e27 < 512]) (f' := (d + 6, 96, 149, 0, 0, [some (fA 54), _, _, _, some (fI e27), _, _, _], [fI (y18.2 63 (e27).toNat), fA 54])) (h' := (156, fjl L, (fup y18.2 54 16 (y18.2 63 (e27).toNat)))) rfl ?_ ?_
  · exact g0
  obtain ⟨y149, hy, h⟩ := fbd h
  refine Wp.call rfl (by decide) (s_X7_fillLatest_ok (d := d + 2) hy ?_)
  show Wp (d + 6, 96, 152, 0, 0, [some (fA 54), _, _, _, some (fI e27), _, _, _], []) (156, fjl L, y149.2) Q
  obtain ⟨g0, h⟩ := fgd h
  refine Wp.run 5 (P := [0 ≤ e27 ∧ e27 < 512]) (f' := (d + 6, 96, 160, 0, 0, [some (fA 54), _, _, _, some (fI e27), _, _, _], [fI (y149.2 61 (e27).toNat), fA 54])) (h' := (156, fjl L, y149.2)) rfl ?_ ?_
  · exact g0
  obtain ⟨y160, hy, h⟩ := fbd h
  refine Wp.call rfl (by decide) (s_X7_pickOrder_ok (d := d + 2) hy ?_)
  show Wp (d + 6, 96, 163, 0, 0, [some (fA 54), _, _, _, some (fI e27), _, _, _], []) (156, fjl L, y160.2) Q
  obtain ⟨g0, h⟩ := fgd h
  refine Wp.run 4 (P := [0 ≤ e27 ∧ e27 < 512]) (f' := (d + 6, 96, 170, 0, 0, [_, _, _, _, _, _, _, _], [fI (y160.2 61 (e27).toNat)])) (h' := (156, fjl L, y160.2)) rfl ?_ ?_
  · exact g0
  obtain rfl := Option.some.inj h
  exact Wp.done rfl (by decide) H
theorem s_X7_best_fr {M : fM} {l1 l2 l3 : Int} {r : (Int × fM)} (h : s_X7_best M l1 l2 l3 = some r) : fSame s_X7_best_mods M r.2 := by
  unfold s_X7_best at h
  obtain ⟨y2, hy, h⟩ := fbd h
  have k2 := fs_trans (l := s_X7_best_mods) fs_refl (fs_mono (l := s_X7_sortPianos_mods) (by decide) (s_X7_sortPianos_fr hy))
  obtain ⟨y8, hy, h⟩ := fbd h
  have k8 := fs_trans (l := s_X7_best_mods) k2 (fs_mono (l := s_X7_place_mods) (by decide) (s_X7_place_fr hy))
  obtain ⟨y13, hy, h⟩ := fbd h
  have k13 := fs_trans (l := s_X7_best_mods) k8 (fs_mono (l := s_X7_weigh_mods) (by decide) (s_X7_weigh_fr hy))
  obtain ⟨y18, hy, h⟩ := fbd h
  have k18 := fs_trans (l := s_X7_best_mods) k13 (fs_mono (l := s_X7_fillHomes_mods) (by decide) (s_X7_fillHomes_fr hy))
  obtain ⟨e27, hy, h⟩ := fbd h
  replace h := (fgd h).2
  obtain ⟨y149, hy, h⟩ := fbd h
  have k149 := fs_trans (l := s_X7_best_mods) (fs_up k18 (.inr (by decide))) (fs_mono (l := s_X7_fillLatest_mods) (by decide) (s_X7_fillLatest_fr hy))
  replace h := (fgd h).2
  obtain ⟨y160, hy, h⟩ := fbd h
  have k160 := fs_trans (l := s_X7_best_mods) k149 (fs_mono (l := s_X7_pickOrder_mods) (by decide) (s_X7_pickOrder_fr hy))
  replace h := (fgd h).2
  obtain rfl := Option.some.inj h
  exact k160
abbrev s_X11_round_mods : List (Nat × Option Nat) := [(1, some 2), (43, some 5), (43, some 6), (44, none), (45, none), (46, none), (54, some 15), (54, some 16), (54, some 17), (54, some 18), (55, none), (56, none), (57, none), (58, none), (59, none), (60, none), (61, none), (62, none), (63, none), (66, none)]
noncomputable def s_X11_round (M : fM) (l1 l2 : Int) : Option (Int × fM) :=
  (s_X10_movePianos_55 M (M 4 13)).bind fun y18 =>
    if y18.1 < 0 then
      some ((-1), y18.2)
    else
      (s_X2_hasTuner_4 y18.2 l1).bind fun y31 =>
        if y31 = 0 then
          some ((-1), y18.2)
        else
          (s_X11_isWithin y18.2 l2 364).bind fun y41 =>
            if ¬ y41 = 0 then
              (s_X7_best y18.2 y18.1 l1 l2).bind fun y56 =>
                some (y56.1, y56.2)
            else
              some ((-1), y18.2)
theorem s_X11_round_ok {d L : Nat} {M : fM} {l1 l2 : Int} {r : (Int × fM)} {Q : fO → fH → Prop} (h : s_X11_round M l1 l2 = some r) (H : Q (oI r.1) (156, fjl L, r.2)) : Wp (d + 7, 170, 0, 0, 0, [some (fA 0), some (fI l1), some (fI l2), none], []) (156, fjl L, M) Q := by
  unfold s_X11_round at h
  refine Wp.run 8 (f' := (d + 7, 170, 18, 0, 0, [some (fA 0), some (fI l1), some (fI l2), _], [fI (M 4 13), fA 55, fA 1])) (h' := (156, fjl L, M)) rfl trivial ?_
  obtain ⟨y18, hy, h⟩ := fbd h
  refine Wp.call rfl (by decide) (s_X10_movePianos_55_ok (d := d + 6) hy ?_)
  show Wp (d + 7, 170, 21, 0, 0, [some (fA 0), some (fI l1), some (fI l2), _], [fI y18.1]) (156, fjl L, y18.2) Q
  refine Wp.run 2 (f' := (d + 7, 170, 23, 0, 0, [some (fA 0), some (fI l1), some (fI l2), some (fI y18.1)], [fI y18.1])) (h' := (156, fjl L, y18.2)) rfl trivial ?_
  refine Wp.br rfl (fun (c : y18.1 < 0) => ?_) (fun (c : ¬ (y18.1 < 0)) => ?_)
  · replace h := fps c h
    refine Wp.run 1 (f' := (d + 7, 170, 48, 0, 0, [_, _, _, _], [fI (-1)])) (h' := (156, fjl L, y18.2)) rfl trivial ?_
    obtain rfl := Option.some.inj h
    exact Wp.done rfl (by decide) H
  · replace h := fng c h
    refine Wp.run 3 (f' := (d + 7, 170, 31, 0, 0, [some (fA 0), some (fI l1), some (fI l2), some (fI y18.1)], [fI l1, fA 4])) (h' := (156, fjl L, y18.2)) rfl trivial ?_
    obtain ⟨y31, hy, h⟩ := fbd h
    refine Wp.call rfl (by decide) (s_X2_hasTuner_4_ok (d := d + 6) hy ?_)
    show Wp (d + 7, 170, 34, 0, 0, [some (fA 0), some (fI l1), some (fI l2), some (fI y18.1)], [fI y31]) (156, fjl L, y18.2) Q
    refine Wp.br rfl (fun (c : y31 = 0) => ?_) (fun (c : ¬ (y31 = 0)) => ?_)
    · replace h := fps c h
      refine Wp.run 1 (f' := (d + 7, 170, 48, 0, 0, [_, _, _, _], [fI (-1)])) (h' := (156, fjl L, y18.2)) rfl trivial ?_
      obtain rfl := Option.some.inj h
      exact Wp.done rfl (by decide) H
    · replace h := fng c h
      refine Wp.run 2 (f' := (d + 7, 170, 41, 0, 0, [some (fA 0), some (fI l1), some (fI l2), some (fI y18.1)], [fI 364, fI l2])) (h' := (156, fjl L, y18.2)) rfl trivial ?_
      obtain ⟨y41, hy, h⟩ := fbd h
      refine Wp.call rfl (by decide) (s_X11_isWithin_ok (d := d + 6) hy ?_)
      show Wp (d + 7, 170, 44, 0, 0, [some (fA 0), some (fI l1), some (fI l2), some (fI y18.1)], [fI y41]) (156, fjl L, y18.2) Q
      refine Wp.br rfl (fun (c : ¬ y41 = 0) => ?_) (fun (c : ¬ (¬ y41 = 0)) => ?_)
      · replace h := fps c h
        refine Wp.run 5 (f' := (d + 7, 170, 56, 0, 0, [_, _, _, _], [fI l2, fI l1, fI y18.1, fA 54])) (h' := (156, fjl L, y18.2)) rfl trivial ?_
        obtain ⟨y56, hy, h⟩ := fbd h
        refine Wp.call rfl (by decide) (s_X7_best_ok (d := d + 0) hy ?_)
        show Wp (d + 7, 170, 59, 0, 0, [_, _, _, _], [fI y56.1]) (156, fjl L, y56.2) Q
        obtain rfl := Option.some.inj h
        exact Wp.done rfl (by decide) H
      · replace h := fng c h
        refine Wp.run 1 (f' := (d + 7, 170, 48, 0, 0, [_, _, _, _], [fI (-1)])) (h' := (156, fjl L, y18.2)) rfl trivial ?_
        obtain rfl := Option.some.inj h
        exact Wp.done rfl (by decide) H
theorem s_X11_round_fr {M : fM} {l1 l2 : Int} {r : (Int × fM)} (h : s_X11_round M l1 l2 = some r) : fSame s_X11_round_mods M r.2 := by
  unfold s_X11_round at h
  obtain ⟨y18, hy, h⟩ := fbd h
  have k18 := fs_trans (l := s_X11_round_mods) fs_refl (fs_mono (l := s_X10_movePianos_55_mods) (by decide) (s_X10_movePianos_55_fr hy))
  by_cases c : y18.1 < 0
  · replace h := fps c h
    obtain rfl := Option.some.inj h
    exact k18
  · replace h := fng c h
    obtain ⟨y31, hy, h⟩ := fbd h
    by_cases c : y31 = 0
    · replace h := fps c h
      obtain rfl := Option.some.inj h
      exact k18
    · replace h := fng c h
      obtain ⟨y41, hy, h⟩ := fbd h
      by_cases c : ¬ y41 = 0
      · replace h := fps c h
        obtain ⟨y56, hy, h⟩ := fbd h
        have k56 := fs_trans (l := s_X11_round_mods) k18 (fs_mono (l := s_X7_best_mods) (by decide) (s_X7_best_fr hy))
        obtain rfl := Option.some.inj h
        exact k56
      · replace h := fng c h
        obtain rfl := Option.some.inj h
        exact k18
noncomputable def s_X12_octet (M : fM) (l1 : Int) : Option Int :=
  if (0 ≤ l1 ∧ l1 < 1240) then
    some (fand (M 123 (l1).toNat) 255)
  else none
theorem s_X12_octet_ok {d L : Nat} {M : fM} {l1 : Int} {r : Int} {Q : fO → fH → Prop} (h : s_X12_octet M l1 = some r) (H : Q (oI r) (156, fjl L, M)) : Wp (d + 0, 202, 0, 0, 0, [some (fA 122), some (fI l1)], []) (156, fjl L, M) Q := by
  unfold s_X12_octet at h
  obtain ⟨g0, h⟩ := fgd h
  refine Wp.run 6 (P := [0 ≤ l1 ∧ l1 < 1240]) (f' := (d + 0, 202, 10, 0, 0, [_, _], [fI (fand (M 123 (l1).toNat) 255)])) (h' := (156, fjl L, M)) rfl ?_ ?_
  · exact g0
  obtain rfl := Option.some.inj h
  exact Wp.done rfl (by decide) H
abbrev s_X12_tells_mods : List (Nat × Option Nat) := [(122, some 24), (122, some 25), (122, some 26), (122, some 27), (122, some 28), (122, some 39), (128, none), (129, none), (133, none), (134, none), (135, none), (136, none), (137, none)]
noncomputable def s_X12_tells_b65 (M : fM) (l1 l2 l3 l4 : Int) : Option (Int ⊕ (Unit ⊕ (Int × fM))) :=
  if l3 ≤ l4 then
    some (.inr (.inl ()))
  else
    if (0 ≤ l4 ∧ l4 < 9) ∧ (0 ≤ l3 ∧ l3 < 9) then
      if ¬ (M 133 (l4).toNat) = (M 133 (l3).toNat) then
        if fin (l4 + 1) then
          some (.inl (l4 + 1))
        else none
      else
        some (.inr (.inr (0, M)))
    else none
theorem s_X12_tells_b65_ok {d L : Nat} {M : fM} {l1 l2 l3 l4 : Int} {o5 : Option fV} {r : (Int ⊕ (Unit ⊕ (Int × fM)))} {Q : fO → fH → Prop} (h : s_X12_tells_b65 M l1 l2 l3 l4 = some r) (hC : ∀ (l4' : Int) (o5' : Option fV), r = .inl l4' → Wp (d + 5, 279, 65, 0, 0, [some (fA 122), some (fI l1), some (fI l2), some (fI l3), some (fI l4'), o5'], []) (156, fjl L, M) Q) (hE : ∀ (e : Unit) (o4' o5' : Option fV), r = .inr (.inl e) → Wp (d + 5, 279, 95, 0, 0, [some (fA 122), some (fI l1), some (fI l2), some (fI l3), o4', o5'], []) (156, fjl L, M) Q) (hR : ∀ (v : (Int × fM)), r = .inr (.inr v) → Q (oI v.1) (156, fjl L, v.2)) : Wp (d + 5, 279, 65, 0, 0, [some (fA 122), some (fI l1), some (fI l2), some (fI l3), some (fI l4), o5], []) (156, fjl L, M) Q := by
  unfold s_X12_tells_b65 at h
  refine Wp.run 2 (f' := (d + 5, 279, 68, 0, 0, [some (fA 122), some (fI l1), some (fI l2), some (fI l3), some (fI l4), _], [fI l3, fI l4])) (h' := (156, fjl L, M)) rfl trivial ?_
  refine Wp.br rfl (fun (c : l3 ≤ l4) => ?_) (fun (c : ¬ (l3 ≤ l4)) => ?_)
  · replace h := fps c h
    exact hE _ _ _ (Option.some.inj h).symm
  · replace h := fng c h
    obtain ⟨⟨g0, g1⟩, h⟩ := fgd h
    refine Wp.run 8 (P := [0 ≤ l4 ∧ l4 < 9, 0 ≤ l3 ∧ l3 < 9]) (f' := (d + 5, 279, 84, 0, 0, [some (fA 122), some (fI l1), some (fI l2), some (fI l3), some (fI l4), _], [fI (M 133 (l3).toNat), fI (M 133 (l4).toNat)])) (h' := (156, fjl L, M)) rfl ?_ ?_
    · exact ⟨g0, g1⟩
    refine Wp.br rfl (fun (c : ¬ (M 133 (l4).toNat) = (M 133 (l3).toNat)) => ?_) (fun (c : ¬ (¬ (M 133 (l4).toNat) = (M 133 (l3).toNat))) => ?_)
    · replace h := fps c h
      obtain ⟨g0, h⟩ := fgd h
      refine Wp.run 2 (f' := (d + 5, 279, 65, 0, 0, [some (fA 122), some (fI l1), some (fI l2), some (fI l3), some (fI (fw (l4 + 1))), _], [])) (h' := (156, fjl L, M)) rfl trivial ?_
      rw [fw_id g0]
      exact hC _ _ (Option.some.inj h).symm
    · replace h := fng c h
      refine Wp.run 1 (f' := (d + 5, 279, 88, 0, 0, [_, _, _, _, _, _], [fI 0])) (h' := (156, fjl L, M)) rfl trivial ?_
      exact Wp.done rfl (by decide) (hR _ (Option.some.inj h).symm)
theorem s_X12_tells_b65_fr {M : fM} {l1 l2 l3 l4 : Int} {r : (Int ⊕ (Unit ⊕ (Int × fM)))} (h : s_X12_tells_b65 M l1 l2 l3 l4 = some r) : fSame s_X12_tells_mods M (Sum.elim (fun _ => M) (Sum.elim (fun _ => M) (fun v => v.2)) r) := by
  unfold s_X12_tells_b65 at h
  by_cases c : l3 ≤ l4
  · replace h := fps c h
    obtain rfl := Option.some.inj h
    exact fs_refl
  · replace h := fng c h
    replace h := (fgd h).2
    by_cases c : ¬ (M 133 (l4).toNat) = (M 133 (l3).toNat)
    · replace h := fps c h
      replace h := (fgd h).2
      obtain rfl := Option.some.inj h
      exact fs_refl
    · replace h := fng c h
      obtain rfl := Option.some.inj h
      exact fs_refl
noncomputable def s_X12_tells_l65 (M : fM) (l1 l2 l3 : Int) (s : Int) : Option (Unit ⊕ (Int × fM)) := fLp (fun s => s_X12_tells_b65 M l1 l2 l3 s) s
theorem s_X12_tells_l65_ok {d L : Nat} {M : fM} {l1 l2 l3 l4 : Int} {o5 : Option fV} {r : (Unit ⊕ (Int × fM))} {Q : fO → fH → Prop} (h : s_X12_tells_l65 M l1 l2 l3 l4 = some r) (hE : ∀ (e : Unit) (o4' o5' : Option fV), r = .inl e → Wp (d + 5, 279, 95, 0, 0, [some (fA 122), some (fI l1), some (fI l2), some (fI l3), o4', o5'], []) (156, fjl L, M) Q) (hR : ∀ (v : (Int × fM)), r = .inr v → Q (oI v.1) (156, fjl L, v.2)) : Wp (d + 5, 279, 65, 0, 0, [some (fA 122), some (fI l1), some (fI l2), some (fI l3), some (fI l4), o5], []) (156, fjl L, M) Q := by
  refine fLp_wp (W := fun s => ∀ (o5 : Option fV), Wp (d + 5, 279, 65, 0, 0, [some (fA 122), some (fI l1), some (fI l2), some (fI l3), some (fI s), o5], []) (156, fjl L, M) Q) (e := r) ?_ h _
  intro s r1 h hC hX o5
  refine s_X12_tells_b65_ok (d := d) h (fun a0 _ e1 => ?_) (fun e u0 u1 e1 => hE e u0 u1 (hX _ e1).symm) (fun v e1 => hR v (hX _ e1).symm)
  exact hC _ e1 _
theorem s_X12_tells_l65_fr {M : fM} {l1 l2 l3 l4 : Int} {r : (Unit ⊕ (Int × fM))} (h : s_X12_tells_l65 M l1 l2 l3 l4 = some r) : fSame s_X12_tells_mods M ((Sum.elim (fun _ => M) (fun v => v.2)) r) := by
  refine fLp_inv (I := fun s => fSame s_X12_tells_mods M M) (J := fun r => fSame s_X12_tells_mods M ((Sum.elim (fun _ => M) (fun v => v.2)) r)) h fs_refl (fun s s1 hs hb => ?_) (fun s e hs hb => ?_)
  · exact fs_trans hs (s_X12_tells_b65_fr hb)
  · exact fs_trans hs (s_X12_tells_b65_fr hb)
noncomputable def s_X12_tells_b28 (M : fM) (l1 l2 l3 : Int) : Option ((Int × fM) ⊕ (fM ⊕ (Int × fM))) :=
  if (M 122 3) ≤ l3 then
    some (.inr (.inl M))
  else
    (s_X12_octet M l3).bind fun y43 =>
      if (0 ≤ l3 ∧ l3 < 9) then
        (s_X12_isPiano (fup M 133 (l3).toNat y43) ((fup M 133 (l3).toNat y43) 133 (l3).toNat)).bind fun y54 =>
          if ¬ y54 = 0 then
            (s_X12_tells_l65 (fup M 133 (l3).toNat y43) l1 l2 l3 0).bind fun e65 =>
              Sum.elim (fun x65 =>
                if fin (l3 + 1) then
                  some (.inl ((l3 + 1), (fup M 133 (l3).toNat y43)))
                else none)
                (fun v65 => some (.inr (.inr v65))) e65
          else
            some (.inr (.inr (0, (fup M 133 (l3).toNat y43))))
      else none
theorem s_X12_tells_b28_ok {d L : Nat} {M : fM} {l1 l2 l3 : Int} {o4 o5 : Option fV} {r : ((Int × fM) ⊕ (fM ⊕ (Int × fM)))} {Q : fO → fH → Prop} (h : s_X12_tells_b28 M l1 l2 l3 = some r) (hC : ∀ (l3' : Int) (M' : fM) (o4' o5' : Option fV), r = .inl (l3', M') → Wp (d + 5, 279, 28, 0, 0, [some (fA 122), some (fI l1), some (fI l2), some (fI l3'), o4', o5'], []) (156, fjl L, M') Q) (hE : ∀ (e : fM) (o3' o4' o5' : Option fV), r = .inr (.inl e) → Wp (d + 5, 279, 101, 0, 0, [some (fA 122), some (fI l1), some (fI l2), o3', o4', o5'], []) (156, fjl L, e) Q) (hR : ∀ (v : (Int × fM)), r = .inr (.inr v) → Q (oI v.1) (156, fjl L, v.2)) : Wp (d + 5, 279, 28, 0, 0, [some (fA 122), some (fI l1), some (fI l2), some (fI l3), o4, o5], []) (156, fjl L, M) Q := by
  unfold s_X12_tells_b28 at h
  refine Wp.run 3 (f' := (d + 5, 279, 33, 0, 0, [some (fA 122), some (fI l1), some (fI l2), some (fI l3), _, _], [fI (M 122 3), fI l3])) (h' := (156, fjl L, M)) rfl trivial ?_
  refine Wp.br rfl (fun (c : (M 122 3) ≤ l3) => ?_) (fun (c : ¬ ((M 122 3) ≤ l3)) => ?_)
  · replace h := fps c h
    exact hE _ _ _ _ (Option.some.inj h).symm
  · replace h := fng c h
    refine Wp.run 5 (f' := (d + 5, 279, 43, 0, 0, [some (fA 122), some (fI l1), some (fI l2), some (fI l3), _, _], [fI l3, fA 122, fI l3, fA 133])) (h' := (156, fjl L, M)) rfl trivial ?_
    obtain ⟨y43, hy, h⟩ := fbd h
    refine Wp.call rfl (by decide) (s_X12_octet_ok (d := d + 4) hy ?_)
    show Wp (d + 5, 279, 46, 0, 0, [some (fA 122), some (fI l1), some (fI l2), some (fI l3), _, _], [fI y43, fI l3, fA 133]) (156, fjl L, M) Q
    obtain ⟨g0, h⟩ := fgd h
    refine Wp.run 6 (P := [0 ≤ l3 ∧ l3 < 9, 0 ≤ l3 ∧ l3 < 9]) (f' := (d + 5, 279, 54, 0, 0, [some (fA 122), some (fI l1), some (fI l2), some (fI l3), _, _], [fI ((fup M 133 (l3).toNat y43) 133 (l3).toNat), fA 122])) (h' := (156, fjl L, (fup M 133 (l3).toNat y43))) rfl ?_ ?_
    · exact ⟨g0, g0⟩
    obtain ⟨y54, hy, h⟩ := fbd h
    refine Wp.call rfl (by decide) (s_X12_isPiano_ok (d := d + 3) hy ?_)
    show Wp (d + 5, 279, 57, 0, 0, [some (fA 122), some (fI l1), some (fI l2), some (fI l3), _, _], [fI y54]) (156, fjl L, (fup M 133 (l3).toNat y43)) Q
    refine Wp.br rfl (fun (c : ¬ y54 = 0) => ?_) (fun (c : ¬ (¬ y54 = 0)) => ?_)
    · replace h := fps c h
      refine Wp.run 2 (f' := (d + 5, 279, 65, 0, 0, [some (fA 122), some (fI l1), some (fI l2), some (fI l3), some (fI 0), _], [])) (h' := (156, fjl L, (fup M 133 (l3).toNat y43))) rfl trivial ?_
      obtain ⟨e65, hy, h⟩ := fbd h
      refine s_X12_tells_l65_ok hy (fun x65 u4 u5 ex => ?_) (fun v65 ex => ?_)
      · subst ex
        replace h := fsl h
        show Wp (d + 5, 279, 95, 0, 0, [some (fA 122), some (fI l1), some (fI l2), some (fI l3), u4, u5], []) (156, fjl L, (fup M 133 (l3).toNat y43)) Q
        obtain ⟨g0, h⟩ := fgd h
        refine Wp.run 2 (f' := (d + 5, 279, 28, 0, 0, [some (fA 122), some (fI l1), some (fI l2), some (fI (fw (l3 + 1))), _, _], [])) (h' := (156, fjl L, (fup M 133 (l3).toNat y43))) rfl trivial ?_
        rw [fw_id g0]
        exact hC _ _ _ _ (Option.some.inj h).symm
      · subst ex
        replace h := fsr h
        exact hR _ (Option.some.inj h).symm
    · replace h := fng c h
      refine Wp.run 1 (f' := (d + 5, 279, 61, 0, 0, [_, _, _, _, _, _], [fI 0])) (h' := (156, fjl L, (fup M 133 (l3).toNat y43))) rfl trivial ?_
      exact Wp.done rfl (by decide) (hR _ (Option.some.inj h).symm)
theorem s_X12_tells_b28_fr {M : fM} {l1 l2 l3 : Int} {r : ((Int × fM) ⊕ (fM ⊕ (Int × fM)))} (h : s_X12_tells_b28 M l1 l2 l3 = some r) : fSame s_X12_tells_mods M (Sum.elim (fun s => s.2) (Sum.elim (fun e => e) (fun v => v.2)) r) := by
  unfold s_X12_tells_b28 at h
  by_cases c : (M 122 3) ≤ l3
  · replace h := fps c h
    obtain rfl := Option.some.inj h
    exact fs_refl
  · replace h := fng c h
    obtain ⟨y43, hy, h⟩ := fbd h
    replace h := (fgd h).2
    obtain ⟨y54, hy, h⟩ := fbd h
    by_cases c : ¬ y54 = 0
    · replace h := fps c h
      obtain ⟨e65, hy, h⟩ := fbd h
      have k65 := fs_trans (l := s_X12_tells_mods) (fs_up fs_refl (.inl (by decide))) (s_X12_tells_l65_fr hy)
      rcases e65 with x65 | v65
      · replace h := fsl h
        replace h := (fgd h).2
        obtain rfl := Option.some.inj h
        exact fs_up fs_refl (.inl (by decide))
      · replace h := fsr h
        obtain rfl := Option.some.inj h
        exact k65
    · replace h := fng c h
      obtain rfl := Option.some.inj h
      exact fs_up fs_refl (.inl (by decide))
noncomputable def s_X12_tells_l28 (l1 l2 : Int) (s : (Int × fM)) : Option (fM ⊕ (Int × fM)) := fLp (fun s => s_X12_tells_b28 s.2 l1 l2 s.1) s
theorem s_X12_tells_l28_ok {d L : Nat} {M : fM} {l1 l2 l3 : Int} {o4 o5 : Option fV} {r : (fM ⊕ (Int × fM))} {Q : fO → fH → Prop} (h : s_X12_tells_l28 l1 l2 (l3, M) = some r) (hE : ∀ (e : fM) (o3' o4' o5' : Option fV), r = .inl e → Wp (d + 5, 279, 101, 0, 0, [some (fA 122), some (fI l1), some (fI l2), o3', o4', o5'], []) (156, fjl L, e) Q) (hR : ∀ (v : (Int × fM)), r = .inr v → Q (oI v.1) (156, fjl L, v.2)) : Wp (d + 5, 279, 28, 0, 0, [some (fA 122), some (fI l1), some (fI l2), some (fI l3), o4, o5], []) (156, fjl L, M) Q := by
  refine fLp_wp (W := fun s => ∀ (o4 o5 : Option fV), Wp (d + 5, 279, 28, 0, 0, [some (fA 122), some (fI l1), some (fI l2), some (fI s.1), o4, o5], []) (156, fjl L, s.2) Q) (e := r) ?_ h _ _
  intro s r1 h hC hX o4 o5
  refine s_X12_tells_b28_ok (d := d) h (fun a0 a1 _ _ e1 => ?_) (fun e u0 u1 u2 e1 => hE e u0 u1 u2 (hX _ e1).symm) (fun v e1 => hR v (hX _ e1).symm)
  exact hC _ e1 _ _
theorem s_X12_tells_l28_fr {M : fM} {l1 l2 l3 : Int} {r : (fM ⊕ (Int × fM))} (h : s_X12_tells_l28 l1 l2 (l3, M) = some r) : fSame s_X12_tells_mods M ((Sum.elim (fun e => e) (fun v => v.2)) r) := by
  refine fLp_inv (I := fun s => fSame s_X12_tells_mods M s.2) (J := fun r => fSame s_X12_tells_mods M ((Sum.elim (fun e => e) (fun v => v.2)) r)) h fs_refl (fun s s1 hs hb => ?_) (fun s e hs hb => ?_)
  · exact fs_trans hs (s_X12_tells_b28_fr hb)
  · exact fs_trans hs (s_X12_tells_b28_fr hb)
noncomputable def s_X12_tells_b126 (M : fM) (l1 l2 l3 l4 l5 : Int) : Option ((Int × fM) ⊕ (Int × fM)) :=
  if l5 ≤ 0 then
    some (.inr (l5, M))
  else
    if fin (l5 - 1) ∧ (0 ≤ (l5 - 1) ∧ (l5 - 1) < 9) then
      if (M 133 (l5 - 1).toNat) ≤ l4 then
        some (.inr (l5, M))
      else
        if fin (l5 - 1) ∧ (0 ≤ (l5 - 1) ∧ (l5 - 1) < 9) ∧ (0 ≤ l5 ∧ l5 < 9) ∧ fin (l5 + (-1)) then
          some (.inl ((l5 + (-1)), (fup M 133 (l5).toNat (M 133 (l5 - 1).toNat))))
        else none
    else none
theorem s_X12_tells_b126_ok {d L : Nat} {M : fM} {l1 l2 l3 l4 l5 : Int} {r : ((Int × fM) ⊕ (Int × fM))} {Q : fO → fH → Prop} (h : s_X12_tells_b126 M l1 l2 l3 l4 l5 = some r) (hC : ∀ (l5' : Int) (M' : fM), r = .inl (l5', M') → Wp (d + 5, 279, 126, 0, 0, [some (fA 122), some (fI l1), some (fI l2), some (fI l3), some (fI l4), some (fI l5')], []) (156, fjl L, M') Q) (hE : ∀ (e : (Int × fM)), r = .inr e → Wp (d + 5, 279, 167, 0, 0, [some (fA 122), some (fI l1), some (fI l2), some (fI l3), some (fI l4), some (fI e.1)], []) (156, fjl L, e.2) Q) : Wp (d + 5, 279, 126, 0, 0, [some (fA 122), some (fI l1), some (fI l2), some (fI l3), some (fI l4), some (fI l5)], []) (156, fjl L, M) Q := by
  unfold s_X12_tells_b126 at h
  refine Wp.run 1 (f' := (d + 5, 279, 128, 0, 0, [some (fA 122), some (fI l1), some (fI l2), some (fI l3), some (fI l4), some (fI l5)], [fI l5])) (h' := (156, fjl L, M)) rfl trivial ?_
  refine Wp.br rfl (fun (c : l5 ≤ 0) => ?_) (fun (c : ¬ (l5 ≤ 0)) => ?_)
  · replace h := fps c h
    exact hE _ (Option.some.inj h).symm
  · replace h := fng c h
    obtain ⟨⟨g0, g1⟩, h⟩ := fgd h
    refine Wp.run 7 (P := [0 ≤ (fw (l5 - 1)) ∧ (fw (l5 - 1)) < 9]) (f' := (d + 5, 279, 142, 0, 0, [some (fA 122), some (fI l1), some (fI l2), some (fI l3), some (fI l4), some (fI l5)], [fI l4, fI (M 133 (fw (l5 - 1)).toNat)])) (h' := (156, fjl L, M)) rfl ?_ ?_
    · rw [fw_id g0]; exact g1
    rw [fw_id g0]
    refine Wp.br rfl (fun (c : (M 133 (l5 - 1).toNat) ≤ l4) => ?_) (fun (c : ¬ ((M 133 (l5 - 1).toNat) ≤ l4)) => ?_)
    · replace h := fps c h
      exact hE _ (Option.some.inj h).symm
    · replace h := fng c h
      obtain ⟨⟨g0, g1, g2, g3⟩, h⟩ := fgd h
      refine Wp.run 12 (P := [0 ≤ (fw (l5 - 1)) ∧ (fw (l5 - 1)) < 9, 0 ≤ l5 ∧ l5 < 9]) (f' := (d + 5, 279, 126, 0, 0, [some (fA 122), some (fI l1), some (fI l2), some (fI l3), some (fI l4), some (fI (fw (l5 + (-1))))], [])) (h' := (156, fjl L, (fup M 133 (l5).toNat (M 133 (fw (l5 - 1)).toNat)))) rfl ?_ ?_
      · rw [fw_id g0]; exact ⟨g1, g2⟩
      rw [fw_id g3, fw_id g0]
      exact hC _ _ (Option.some.inj h).symm
theorem s_X12_tells_b126_fr {M : fM} {l1 l2 l3 l4 l5 : Int} {r : ((Int × fM) ⊕ (Int × fM))} (h : s_X12_tells_b126 M l1 l2 l3 l4 l5 = some r) : fSame s_X12_tells_mods M (Sum.elim (fun s => s.2) (fun e => e.2) r) := by
  unfold s_X12_tells_b126 at h
  by_cases c : l5 ≤ 0
  · replace h := fps c h
    obtain rfl := Option.some.inj h
    exact fs_refl
  · replace h := fng c h
    replace h := (fgd h).2
    by_cases c : (M 133 (l5 - 1).toNat) ≤ l4
    · replace h := fps c h
      obtain rfl := Option.some.inj h
      exact fs_refl
    · replace h := fng c h
      replace h := (fgd h).2
      obtain rfl := Option.some.inj h
      exact fs_up fs_refl (.inl (by decide))
noncomputable def s_X12_tells_l126 (l1 l2 l3 l4 : Int) (s : (Int × fM)) : Option (Int × fM) := fLp (fun s => s_X12_tells_b126 s.2 l1 l2 l3 l4 s.1) s
theorem s_X12_tells_l126_ok {d L : Nat} {M : fM} {l1 l2 l3 l4 l5 : Int} {r : (Int × fM)} {Q : fO → fH → Prop} (h : s_X12_tells_l126 l1 l2 l3 l4 (l5, M) = some r) (hE : ∀ (e : (Int × fM)), r = e → Wp (d + 5, 279, 167, 0, 0, [some (fA 122), some (fI l1), some (fI l2), some (fI l3), some (fI l4), some (fI e.1)], []) (156, fjl L, e.2) Q) : Wp (d + 5, 279, 126, 0, 0, [some (fA 122), some (fI l1), some (fI l2), some (fI l3), some (fI l4), some (fI l5)], []) (156, fjl L, M) Q := by
  refine fLp_wp (W := fun s => Wp (d + 5, 279, 126, 0, 0, [some (fA 122), some (fI l1), some (fI l2), some (fI l3), some (fI l4), some (fI s.1)], []) (156, fjl L, s.2) Q) (e := r) ?_ h
  intro s r1 h hC hX
  refine s_X12_tells_b126_ok (d := d) h (fun a0 a1 e1 => ?_) (fun e  e1 => hE e  (hX _ e1).symm)
  exact hC _ e1
theorem s_X12_tells_l126_fr {M : fM} {l1 l2 l3 l4 l5 : Int} {r : (Int × fM)} (h : s_X12_tells_l126 l1 l2 l3 l4 (l5, M) = some r) : fSame s_X12_tells_mods M ((fun e => e.2) r) := by
  refine fLp_inv (I := fun s => fSame s_X12_tells_mods M s.2) (J := fun r => fSame s_X12_tells_mods M ((fun e => e.2) r)) h fs_refl (fun s s1 hs hb => ?_) (fun s e hs hb => ?_)
  · exact fs_trans hs (s_X12_tells_b126_fr hb)
  · exact fs_trans hs (s_X12_tells_b126_fr hb)
noncomputable def s_X12_tells_b103 (M : fM) (l1 l2 l3 : Int) : Option ((Int × fM) ⊕ fM) :=
  if (M 122 3) ≤ l3 then
    some (.inr M)
  else
    if l2 = 0 then
      some (.inr M)
    else
      if (0 ≤ l3 ∧ l3 < 9) then
        (s_X12_tells_l126 l1 l2 l3 (M 133 (l3).toNat) (l3, M)).bind fun e126 =>
          if (0 ≤ e126.1 ∧ e126.1 < 9) ∧ fin (l3 + 1) then
            some (.inl ((l3 + 1), (fup e126.2 133 (e126.1).toNat (M 133 (l3).toNat))))
          else none
      else none
theorem s_X12_tells_b103_ok {d L : Nat} {M : fM} {l1 l2 l3 : Int} {o4 o5 : Option fV} {r : ((Int × fM) ⊕ fM)} {Q : fO → fH → Prop} (h : s_X12_tells_b103 M l1 l2 l3 = some r) (hC : ∀ (l3' : Int) (M' : fM) (o4' o5' : Option fV), r = .inl (l3', M') → Wp (d + 5, 279, 103, 0, 0, [some (fA 122), some (fI l1), some (fI l2), some (fI l3'), o4', o5'], []) (156, fjl L, M') Q) (hE : ∀ (e : fM) (o2' o3' o4' o5' : Option fV), r = .inr e → Wp (d + 5, 279, 182, 0, 0, [some (fA 122), some (fI l1), o2', o3', o4', o5'], []) (156, fjl L, e) Q) : Wp (d + 5, 279, 103, 0, 0, [some (fA 122), some (fI l1), some (fI l2), some (fI l3), o4, o5], []) (156, fjl L, M) Q := by
  unfold s_X12_tells_b103 at h
  refine Wp.run 3 (f' := (d + 5, 279, 108, 0, 0, [some (fA 122), some (fI l1), some (fI l2), some (fI l3), _, _], [fI (M 122 3), fI l3])) (h' := (156, fjl L, M)) rfl trivial ?_
  refine Wp.br rfl (fun (c : (M 122 3) ≤ l3) => ?_) (fun (c : ¬ ((M 122 3) ≤ l3)) => ?_)
  · replace h := fps c h
    exact hE _ _ _ _ _ (Option.some.inj h).symm
  · replace h := fng c h
    refine Wp.run 1 (f' := (d + 5, 279, 112, 0, 0, [some (fA 122), some (fI l1), some (fI l2), some (fI l3), _, _], [fI l2])) (h' := (156, fjl L, M)) rfl trivial ?_
    refine Wp.br rfl (fun (c : l2 = 0) => ?_) (fun (c : ¬ (l2 = 0)) => ?_)
    · replace h := fps c h
      exact hE _ _ _ _ _ (Option.some.inj h).symm
    · replace h := fng c h
      obtain ⟨g0, h⟩ := fgd h
      refine Wp.run 7 (P := [0 ≤ l3 ∧ l3 < 9]) (f' := (d + 5, 279, 126, 0, 0, [some (fA 122), some (fI l1), some (fI l2), some (fI l3), some (fI (M 133 (l3).toNat)), some (fI l3)], [])) (h' := (156, fjl L, M)) rfl ?_ ?_
      · exact g0
      obtain ⟨e126, hy, h⟩ := fbd h
      refine s_X12_tells_l126_ok hy (fun x ex => ?_)
      cases ex
      show Wp (d + 5, 279, 167, 0, 0, [some (fA 122), some (fI l1), some (fI l2), some (fI l3), some (fI (M 133 (l3).toNat)), some (fI e126.1)], []) (156, fjl L, e126.2) Q
      obtain ⟨⟨g0, g1⟩, h⟩ := fgd h
      refine Wp.run 7 (P := [0 ≤ e126.1 ∧ e126.1 < 9]) (f' := (d + 5, 279, 103, 0, 0, [some (fA 122), some (fI l1), some (fI l2), some (fI (fw (l3 + 1))), _, _], [])) (h' := (156, fjl L, (fup e126.2 133 (e126.1).toNat (M 133 (l3).toNat)))) rfl ?_ ?_
      · exact g0
      rw [fw_id g1]
      exact hC _ _ _ _ (Option.some.inj h).symm
theorem s_X12_tells_b103_fr {M : fM} {l1 l2 l3 : Int} {r : ((Int × fM) ⊕ fM)} (h : s_X12_tells_b103 M l1 l2 l3 = some r) : fSame s_X12_tells_mods M (Sum.elim (fun s => s.2) (fun e => e) r) := by
  unfold s_X12_tells_b103 at h
  by_cases c : (M 122 3) ≤ l3
  · replace h := fps c h
    obtain rfl := Option.some.inj h
    exact fs_refl
  · replace h := fng c h
    by_cases c : l2 = 0
    · replace h := fps c h
      obtain rfl := Option.some.inj h
      exact fs_refl
    · replace h := fng c h
      replace h := (fgd h).2
      obtain ⟨e126, hy, h⟩ := fbd h
      have k126 := fs_trans (l := s_X12_tells_mods) fs_refl (s_X12_tells_l126_fr hy)
      replace h := (fgd h).2
      obtain rfl := Option.some.inj h
      exact fs_up k126 (.inl (by decide))
noncomputable def s_X12_tells_l103 (l1 l2 : Int) (s : (Int × fM)) : Option fM := fLp (fun s => s_X12_tells_b103 s.2 l1 l2 s.1) s
theorem s_X12_tells_l103_ok {d L : Nat} {M : fM} {l1 l2 l3 : Int} {o4 o5 : Option fV} {r : fM} {Q : fO → fH → Prop} (h : s_X12_tells_l103 l1 l2 (l3, M) = some r) (hE : ∀ (e : fM) (o2' o3' o4' o5' : Option fV), r = e → Wp (d + 5, 279, 182, 0, 0, [some (fA 122), some (fI l1), o2', o3', o4', o5'], []) (156, fjl L, e) Q) : Wp (d + 5, 279, 103, 0, 0, [some (fA 122), some (fI l1), some (fI l2), some (fI l3), o4, o5], []) (156, fjl L, M) Q := by
  refine fLp_wp (W := fun s => ∀ (o4 o5 : Option fV), Wp (d + 5, 279, 103, 0, 0, [some (fA 122), some (fI l1), some (fI l2), some (fI s.1), o4, o5], []) (156, fjl L, s.2) Q) (e := r) ?_ h _ _
  intro s r1 h hC hX o4 o5
  refine s_X12_tells_b103_ok (d := d) h (fun a0 a1 _ _ e1 => ?_) (fun e u0 u1 u2 u3 e1 => hE e u0 u1 u2 u3 (hX _ e1).symm)
  exact hC _ e1 _ _
theorem s_X12_tells_l103_fr {M : fM} {l1 l2 l3 : Int} {r : fM} (h : s_X12_tells_l103 l1 l2 (l3, M) = some r) : fSame s_X12_tells_mods M ((fun e => e) r) := by
  refine fLp_inv (I := fun s => fSame s_X12_tells_mods M s.2) (J := fun r => fSame s_X12_tells_mods M ((fun e => e) r)) h fs_refl (fun s s1 hs hb => ?_) (fun s e hs hb => ?_)
  · exact fs_trans hs (s_X12_tells_b103_fr hb)
  · exact fs_trans hs (s_X12_tells_b103_fr hb)
noncomputable def s_X12_tells_j315 (M : fM) (l1 l3 l4 t1 t2 : Int) : Option ((Int × fM) ⊕ fM) :=
  if (0 ≤ t1 ∧ t1 < 9) ∧ b01 t2 then
    (s_X12_weightOf (fup M 137 (t1).toNat t2) l4 l1).bind fun y325 =>
      if (0 ≤ l3 ∧ l3 < 9) ∧ fin (l3 + 1) then
        some (.inl ((l3 + 1), (fup y325.2 136 (l3).toNat y325.1)))
      else none
  else none
theorem s_X12_tells_j315_ok {d L : Nat} {M : fM} {l1 l3 l4 t1 t2 : Int} {o2 o5 : Option fV} {r : ((Int × fM) ⊕ fM)} {Q : fO → fH → Prop} (h : s_X12_tells_j315 M l1 l3 l4 t1 t2 = some r) (hC : ∀ (l3' : Int) (M' : fM) (o2' o4' o5' : Option fV), r = .inl (l3', M') → Wp (d + 5, 279, 184, 0, 0, [some (fA 122), some (fI l1), o2', some (fI l3'), o4', o5'], []) (156, fjl L, M') Q) (hE : ∀ (e : fM) (o0' o1' o2' o3' o4' o5' : Option fV), r = .inr e → Wp (d + 5, 279, 335, 0, 0, [o0', o1', o2', o3', o4', o5'], []) (156, fjl L, e) Q) : Wp (d + 5, 279, 315, 0, 0, [some (fA 122), some (fI l1), o2, some (fI l3), some (fI l4), o5], [fI t2, fI t1, fA 137]) (156, fjl L, M) Q := by
  unfold s_X12_tells_j315 at h
  obtain ⟨⟨g0, g1⟩, h⟩ := fgd h
  refine Wp.run 7 (P := [0 ≤ t1 ∧ t1 < 9]) (f' := (d + 5, 279, 325, 0, 0, [some (fA 122), some (fI l1), _, some (fI l3), _, _], [fI l1, fI l4, fA 122, fI l3, fA 136])) (h' := (156, fjl L, (fup M 137 (t1).toNat (fand t2 1)))) rfl ?_ ?_
  · exact g0
  rw [fand_b g1]
  obtain ⟨y325, hy, h⟩ := fbd h
  refine Wp.call rfl (by decide) (s_X12_weightOf_ok (d := d + 0) hy ?_)
  show Wp (d + 5, 279, 328, 0, 0, [some (fA 122), some (fI l1), _, some (fI l3), _, _], [fI y325.1, fI l3, fA 136]) (156, fjl L, y325.2) Q
  obtain ⟨⟨g0, g1⟩, h⟩ := fgd h
  refine Wp.run 3 (P := [0 ≤ l3 ∧ l3 < 9]) (f' := (d + 5, 279, 184, 0, 0, [some (fA 122), some (fI l1), _, some (fI (fw (l3 + 1))), _, _], [])) (h' := (156, fjl L, (fup y325.2 136 (l3).toNat y325.1))) rfl ?_ ?_
  · exact g0
  rw [fw_id g1]
  exact hC _ _ _ _ _ (Option.some.inj h).symm
theorem s_X12_tells_j315_fr {M : fM} {l1 l3 l4 t1 t2 : Int} {r : ((Int × fM) ⊕ fM)} (h : s_X12_tells_j315 M l1 l3 l4 t1 t2 = some r) : fSame s_X12_tells_mods M (Sum.elim (fun s => s.2) (fun e => e) r) := by
  unfold s_X12_tells_j315 at h
  replace h := (fgd h).2
  obtain ⟨y325, hy, h⟩ := fbd h
  have k325 := fs_trans (l := s_X12_tells_mods) (fs_up fs_refl (.inl (by decide))) (fs_mono (l := s_X12_weightOf_mods) (by decide) (s_X12_weightOf_fr hy))
  replace h := (fgd h).2
  obtain rfl := Option.some.inj h
  exact fs_up k325 (.inl (by decide))
noncomputable def s_X12_tells_j314 (M : fM) (l1 l3 l4 t1 : Int) : Option ((Int × fM) ⊕ fM) :=
  s_X12_tells_j315 M l1 l3 l4 t1 0
theorem s_X12_tells_j314_ok {d L : Nat} {M : fM} {l1 l3 l4 t1 : Int} {o2 o5 : Option fV} {r : ((Int × fM) ⊕ fM)} {Q : fO → fH → Prop} (h : s_X12_tells_j314 M l1 l3 l4 t1 = some r) (hC : ∀ (l3' : Int) (M' : fM) (o2' o4' o5' : Option fV), r = .inl (l3', M') → Wp (d + 5, 279, 184, 0, 0, [some (fA 122), some (fI l1), o2', some (fI l3'), o4', o5'], []) (156, fjl L, M') Q) (hE : ∀ (e : fM) (o0' o1' o2' o3' o4' o5' : Option fV), r = .inr e → Wp (d + 5, 279, 335, 0, 0, [o0', o1', o2', o3', o4', o5'], []) (156, fjl L, e) Q) : Wp (d + 5, 279, 314, 0, 0, [some (fA 122), some (fI l1), o2, some (fI l3), some (fI l4), o5], [fI t1, fA 137]) (156, fjl L, M) Q := by
  unfold s_X12_tells_j314 at h
  refine Wp.run 1 (f' := (d + 5, 279, 315, 0, 0, [some (fA 122), some (fI l1), _, some (fI l3), some (fI l4), _], [fI 0, fI t1, fA 137])) (h' := (156, fjl L, M)) rfl trivial ?_
  exact s_X12_tells_j315_ok h hC hE
theorem s_X12_tells_j314_fr {M : fM} {l1 l3 l4 t1 : Int} {r : ((Int × fM) ⊕ fM)} (h : s_X12_tells_j314 M l1 l3 l4 t1 = some r) : fSame s_X12_tells_mods M (Sum.elim (fun s => s.2) (fun e => e) r) := by
  unfold s_X12_tells_j314 at h
  exact fs_trans fs_refl (s_X12_tells_j315_fr h)
noncomputable def s_X12_tells_j277 (M : fM) (l1 l3 l4 t1 t2 : Int) : Option ((Int × fM) ⊕ fM) :=
  if (0 ≤ t1 ∧ t1 < 9) then
    (s_X12_of (fup M 135 (t1).toNat t2) l4 0).bind fun y287 =>
      if ¬ y287 = 1 then
        s_X12_tells_j314 (fup M 135 (t1).toNat t2) l1 l3 l4 l3
      else
        if fin (65 + (fdiv l1 7)) ∧ (0 ≤ (65 + (fdiv l1 7)) ∧ (65 + (fdiv l1 7)) < 1290) then
          if ¬ (M 124 (65 + (fdiv l1 7)).toNat) = 1 then
            s_X12_tells_j314 (fup M 135 (t1).toNat t2) l1 l3 l4 l3
          else
            s_X12_tells_j315 (fup M 135 (t1).toNat t2) l1 l3 l4 l3 1
        else none
  else none
theorem s_X12_tells_j277_ok {d L : Nat} {M : fM} {l1 l3 l4 t1 t2 : Int} {o2 o5 : Option fV} {r : ((Int × fM) ⊕ fM)} {Q : fO → fH → Prop} (h : s_X12_tells_j277 M l1 l3 l4 t1 t2 = some r) (hC : ∀ (l3' : Int) (M' : fM) (o2' o4' o5' : Option fV), r = .inl (l3', M') → Wp (d + 5, 279, 184, 0, 0, [some (fA 122), some (fI l1), o2', some (fI l3'), o4', o5'], []) (156, fjl L, M') Q) (hE : ∀ (e : fM) (o0' o1' o2' o3' o4' o5' : Option fV), r = .inr e → Wp (d + 5, 279, 335, 0, 0, [o0', o1', o2', o3', o4', o5'], []) (156, fjl L, e) Q) : Wp (d + 5, 279, 277, 0, 0, [some (fA 122), some (fI l1), o2, some (fI l3), some (fI l4), o5], [fI t2, fI t1, fA 135]) (156, fjl L, M) Q := by
  unfold s_X12_tells_j277 at h
  obtain ⟨g0, h⟩ := fgd h
  refine Wp.run 7 (P := [0 ≤ t1 ∧ t1 < 9]) (f' := (d + 5, 279, 287, 0, 0, [some (fA 122), some (fI l1), _, some (fI l3), some (fI l4), _], [fI 0, fI l4, fA 122, fI l3, fA 137])) (h' := (156, fjl L, (fup M 135 (t1).toNat t2))) rfl ?_ ?_
  · exact g0
  obtain ⟨y287, hy, h⟩ := fbd h
  refine Wp.call rfl (by decide) (s_X12_of_ok (d := d + 4) hy ?_)
  show Wp (d + 5, 279, 290, 0, 0, [some (fA 122), some (fI l1), _, some (fI l3), some (fI l4), _], [fI y287, fI l3, fA 137]) (156, fjl L, (fup M 135 (t1).toNat t2)) Q
  refine Wp.run 1 (f' := (d + 5, 279, 291, 0, 0, [some (fA 122), some (fI l1), _, some (fI l3), some (fI l4), _], [fI 1, fI y287, fI l3, fA 137])) (h' := (156, fjl L, (fup M 135 (t1).toNat t2))) rfl trivial ?_
  refine Wp.br rfl (fun (c : ¬ y287 = 1) => ?_) (fun (c : ¬ (¬ y287 = 1)) => ?_)
  · replace h := fps c h
    exact s_X12_tells_j314_ok h hC hE
  · replace h := fng c h
    obtain ⟨⟨g0, g1⟩, h⟩ := fgd h
    refine Wp.run 9 (P := [(7 : Int) ≠ 0, 0 ≤ (fw (65 + (fdiv l1 7))) ∧ (fw (65 + (fdiv l1 7))) < 1290]) (f' := (d + 5, 279, 307, 0, 0, [some (fA 122), some (fI l1), _, some (fI l3), some (fI l4), _], [fI 1, fI (M 124 (fw (65 + (fdiv l1 7))).toNat), fI l3, fA 137])) (h' := (156, fjl L, (fup M 135 (t1).toNat t2))) rfl ?_ ?_
    · rw [fw_id g0]; exact ⟨(by decide : (7 : Int) ≠ 0), g1⟩
    rw [fw_id g0]
    refine Wp.br rfl (fun (c : ¬ (M 124 (65 + (fdiv l1 7)).toNat) = 1) => ?_) (fun (c : ¬ (¬ (M 124 (65 + (fdiv l1 7)).toNat) = 1)) => ?_)
    · replace h := fps c h
      exact s_X12_tells_j314_ok h hC hE
    · replace h := fng c h
      refine Wp.run 2 (f' := (d + 5, 279, 315, 0, 0, [some (fA 122), some (fI l1), _, some (fI l3), some (fI l4), _], [fI 1, fI l3, fA 137])) (h' := (156, fjl L, (fup M 135 (t1).toNat t2))) rfl trivial ?_
      exact s_X12_tells_j315_ok h hC hE
theorem s_X12_tells_j277_fr {M : fM} {l1 l3 l4 t1 t2 : Int} {r : ((Int × fM) ⊕ fM)} (h : s_X12_tells_j277 M l1 l3 l4 t1 t2 = some r) : fSame s_X12_tells_mods M (Sum.elim (fun s => s.2) (fun e => e) r) := by
  unfold s_X12_tells_j277 at h
  replace h := (fgd h).2
  obtain ⟨y287, hy, h⟩ := fbd h
  by_cases c : ¬ y287 = 1
  · replace h := fps c h
    exact fs_trans (fs_up fs_refl (.inl (by decide))) (s_X12_tells_j314_fr h)
  · replace h := fng c h
    replace h := (fgd h).2
    by_cases c : ¬ (M 124 (65 + (fdiv l1 7)).toNat) = 1
    · replace h := fps c h
      exact fs_trans (fs_up fs_refl (.inl (by decide))) (s_X12_tells_j314_fr h)
    · replace h := fng c h
      exact fs_trans (fs_up fs_refl (.inl (by decide))) (s_X12_tells_j315_fr h)
noncomputable def s_X12_tells_j244 (M : fM) (l1 l3 l4 l5 t1 t2 : Int) : Option ((Int × fM) ⊕ fM) :=
  if (0 ≤ t1 ∧ t1 < 9) then
    if 0 ≤ l5 then
      if fin (19 * l5) ∧ fin ((19 * l5) + 5) ∧ (0 ≤ ((19 * l5) + 5) ∧ ((19 * l5) + 5) < 3800) then
        s_X12_tells_j277 (fup M 134 (t1).toNat t2) l1 l3 l4 l3 (M 125 ((19 * l5) + 5).toNat)
      else none
    else
      (s_X12_of (fup M 134 (t1).toNat t2) l4 2).bind fun y259 =>
        s_X12_tells_j277 (fup M 134 (t1).toNat t2) l1 l3 l4 l3 y259
  else none
theorem s_X12_tells_j244_ok {d L : Nat} {M : fM} {l1 l3 l4 l5 t1 t2 : Int} {o2 : Option fV} {r : ((Int × fM) ⊕ fM)} {Q : fO → fH → Prop} (h : s_X12_tells_j244 M l1 l3 l4 l5 t1 t2 = some r) (hC : ∀ (l3' : Int) (M' : fM) (o2' o4' o5' : Option fV), r = .inl (l3', M') → Wp (d + 5, 279, 184, 0, 0, [some (fA 122), some (fI l1), o2', some (fI l3'), o4', o5'], []) (156, fjl L, M') Q) (hE : ∀ (e : fM) (o0' o1' o2' o3' o4' o5' : Option fV), r = .inr e → Wp (d + 5, 279, 335, 0, 0, [o0', o1', o2', o3', o4', o5'], []) (156, fjl L, e) Q) : Wp (d + 5, 279, 244, 0, 0, [some (fA 122), some (fI l1), o2, some (fI l3), some (fI l4), some (fI l5)], [fI t2, fI t1, fA 134]) (156, fjl L, M) Q := by
  unfold s_X12_tells_j244 at h
  obtain ⟨g0, h⟩ := fgd h
  refine Wp.run 5 (P := [0 ≤ t1 ∧ t1 < 9]) (f' := (d + 5, 279, 252, 0, 0, [some (fA 122), some (fI l1), _, some (fI l3), some (fI l4), some (fI l5)], [fI l5, fI l3, fA 135])) (h' := (156, fjl L, (fup M 134 (t1).toNat t2))) rfl ?_ ?_
  · exact g0
  refine Wp.br rfl (fun (c : 0 ≤ l5) => ?_) (fun (c : ¬ (0 ≤ l5)) => ?_)
  · replace h := fps c h
    obtain ⟨⟨g0, g1, g2⟩, h⟩ := fgd h
    refine Wp.run 8 (P := [0 ≤ (fw ((fw (19 * l5)) + 5)) ∧ (fw ((fw (19 * l5)) + 5)) < 3800]) (f' := (d + 5, 279, 277, 0, 0, [some (fA 122), some (fI l1), _, some (fI l3), some (fI l4), _], [fI (M 125 (fw ((fw (19 * l5)) + 5)).toNat), fI l3, fA 135])) (h' := (156, fjl L, (fup M 134 (t1).toNat t2))) rfl ?_ ?_
    · rw [fw_id g0, fw_id g1]; exact g2
    rw [fw_id g0, fw_id g1]
    exact s_X12_tells_j277_ok h hC hE
  · replace h := fng c h
    refine Wp.run 3 (f' := (d + 5, 279, 259, 0, 0, [some (fA 122), some (fI l1), _, some (fI l3), some (fI l4), _], [fI 2, fI l4, fA 122, fI l3, fA 135])) (h' := (156, fjl L, (fup M 134 (t1).toNat t2))) rfl trivial ?_
    obtain ⟨y259, hy, h⟩ := fbd h
    refine Wp.call rfl (by decide) (s_X12_of_ok (d := d + 4) hy ?_)
    show Wp (d + 5, 279, 262, 0, 0, [some (fA 122), some (fI l1), _, some (fI l3), some (fI l4), _], [fI y259, fI l3, fA 135]) (156, fjl L, (fup M 134 (t1).toNat t2)) Q
    refine Wp.run 1 (f' := (d + 5, 279, 277, 0, 0, [some (fA 122), some (fI l1), _, some (fI l3), some (fI l4), _], [fI y259, fI l3, fA 135])) (h' := (156, fjl L, (fup M 134 (t1).toNat t2))) rfl trivial ?_
    exact s_X12_tells_j277_ok h hC hE
theorem s_X12_tells_j244_fr {M : fM} {l1 l3 l4 l5 t1 t2 : Int} {r : ((Int × fM) ⊕ fM)} (h : s_X12_tells_j244 M l1 l3 l4 l5 t1 t2 = some r) : fSame s_X12_tells_mods M (Sum.elim (fun s => s.2) (fun e => e) r) := by
  unfold s_X12_tells_j244 at h
  replace h := (fgd h).2
  by_cases c : 0 ≤ l5
  · replace h := fps c h
    replace h := (fgd h).2
    exact fs_trans (fs_up fs_refl (.inl (by decide))) (s_X12_tells_j277_fr h)
  · replace h := fng c h
    obtain ⟨y259, hy, h⟩ := fbd h
    exact fs_trans (fs_up fs_refl (.inl (by decide))) (s_X12_tells_j277_fr h)
noncomputable def s_X12_tells_b184 (M : fM) (l1 l3 : Int) : Option ((Int × fM) ⊕ fM) :=
  if (M 122 3) ≤ l3 then
    some (.inr M)
  else
    if (0 ≤ l3 ∧ l3 < 9) then
      (s_X12_latest M 6 (M 133 (l3).toNat) l1 l1).bind fun y207 =>
        if 0 ≤ y207 then
          if fin (19 * y207) ∧ fin ((19 * y207) + 4) ∧ (0 ≤ ((19 * y207) + 4) ∧ ((19 * y207) + 4) < 3800) then
            s_X12_tells_j244 M l1 l3 (M 133 (l3).toNat) y207 l3 (M 125 ((19 * y207) + 4).toNat)
          else none
        else
          (s_X12_of M (M 133 (l3).toNat) 1).bind fun y226 =>
            s_X12_tells_j244 M l1 l3 (M 133 (l3).toNat) y207 l3 y226
    else none
theorem s_X12_tells_b184_ok {d L : Nat} {M : fM} {l1 l3 : Int} {o2 o4 o5 : Option fV} {r : ((Int × fM) ⊕ fM)} {Q : fO → fH → Prop} (h : s_X12_tells_b184 M l1 l3 = some r) (hC : ∀ (l3' : Int) (M' : fM) (o2' o4' o5' : Option fV), r = .inl (l3', M') → Wp (d + 5, 279, 184, 0, 0, [some (fA 122), some (fI l1), o2', some (fI l3'), o4', o5'], []) (156, fjl L, M') Q) (hE : ∀ (e : fM) (o0' o1' o2' o3' o4' o5' : Option fV), r = .inr e → Wp (d + 5, 279, 335, 0, 0, [o0', o1', o2', o3', o4', o5'], []) (156, fjl L, e) Q) : Wp (d + 5, 279, 184, 0, 0, [some (fA 122), some (fI l1), o2, some (fI l3), o4, o5], []) (156, fjl L, M) Q := by
  unfold s_X12_tells_b184 at h
  refine Wp.run 3 (f' := (d + 5, 279, 189, 0, 0, [some (fA 122), some (fI l1), _, some (fI l3), _, _], [fI (M 122 3), fI l3])) (h' := (156, fjl L, M)) rfl trivial ?_
  refine Wp.br rfl (fun (c : (M 122 3) ≤ l3) => ?_) (fun (c : ¬ ((M 122 3) ≤ l3)) => ?_)
  · replace h := fps c h
    exact hE _ _ _ _ _ _ _ (Option.some.inj h).symm
  · replace h := fng c h
    obtain ⟨g0, h⟩ := fgd h
    refine Wp.run 10 (P := [0 ≤ l3 ∧ l3 < 9]) (f' := (d + 5, 279, 207, 0, 0, [some (fA 122), some (fI l1), _, some (fI l3), some (fI (M 133 (l3).toNat)), _], [fI l1, fI l1, fI (M 133 (l3).toNat), fI 6, fA 122])) (h' := (156, fjl L, M)) rfl ?_ ?_
    · exact g0
    obtain ⟨y207, hy, h⟩ := fbd h
    refine Wp.call rfl (by decide) (s_X12_latest_ok (d := d + 3) hy ?_)
    show Wp (d + 5, 279, 210, 0, 0, [some (fA 122), some (fI l1), _, some (fI l3), some (fI (M 133 (l3).toNat)), _], [fI y207]) (156, fjl L, M) Q
    refine Wp.run 5 (f' := (d + 5, 279, 219, 0, 0, [some (fA 122), some (fI l1), _, some (fI l3), some (fI (M 133 (l3).toNat)), some (fI y207)], [fI y207, fI l3, fA 134])) (h' := (156, fjl L, M)) rfl trivial ?_
    refine Wp.br rfl (fun (c : 0 ≤ y207) => ?_) (fun (c : ¬ (0 ≤ y207)) => ?_)
    · replace h := fps c h
      obtain ⟨⟨g0, g1, g2⟩, h⟩ := fgd h
      refine Wp.run 8 (P := [0 ≤ (fw ((fw (19 * y207)) + 4)) ∧ (fw ((fw (19 * y207)) + 4)) < 3800]) (f' := (d + 5, 279, 244, 0, 0, [some (fA 122), some (fI l1), _, some (fI l3), some (fI (M 133 (l3).toNat)), some (fI y207)], [fI (M 125 (fw ((fw (19 * y207)) + 4)).toNat), fI l3, fA 134])) (h' := (156, fjl L, M)) rfl ?_ ?_
      · rw [fw_id g0, fw_id g1]; exact g2
      rw [fw_id g0, fw_id g1]
      exact s_X12_tells_j244_ok h hC hE
    · replace h := fng c h
      refine Wp.run 3 (f' := (d + 5, 279, 226, 0, 0, [some (fA 122), some (fI l1), _, some (fI l3), some (fI (M 133 (l3).toNat)), some (fI y207)], [fI 1, fI (M 133 (l3).toNat), fA 122, fI l3, fA 134])) (h' := (156, fjl L, M)) rfl trivial ?_
      obtain ⟨y226, hy, h⟩ := fbd h
      refine Wp.call rfl (by decide) (s_X12_of_ok (d := d + 4) hy ?_)
      show Wp (d + 5, 279, 229, 0, 0, [some (fA 122), some (fI l1), _, some (fI l3), some (fI (M 133 (l3).toNat)), some (fI y207)], [fI y226, fI l3, fA 134]) (156, fjl L, M) Q
      refine Wp.run 1 (f' := (d + 5, 279, 244, 0, 0, [some (fA 122), some (fI l1), _, some (fI l3), some (fI (M 133 (l3).toNat)), some (fI y207)], [fI y226, fI l3, fA 134])) (h' := (156, fjl L, M)) rfl trivial ?_
      exact s_X12_tells_j244_ok h hC hE
theorem s_X12_tells_b184_fr {M : fM} {l1 l3 : Int} {r : ((Int × fM) ⊕ fM)} (h : s_X12_tells_b184 M l1 l3 = some r) : fSame s_X12_tells_mods M (Sum.elim (fun s => s.2) (fun e => e) r) := by
  unfold s_X12_tells_b184 at h
  by_cases c : (M 122 3) ≤ l3
  · replace h := fps c h
    obtain rfl := Option.some.inj h
    exact fs_refl
  · replace h := fng c h
    replace h := (fgd h).2
    obtain ⟨y207, hy, h⟩ := fbd h
    by_cases c : 0 ≤ y207
    · replace h := fps c h
      replace h := (fgd h).2
      exact fs_trans fs_refl (s_X12_tells_j244_fr h)
    · replace h := fng c h
      obtain ⟨y226, hy, h⟩ := fbd h
      exact fs_trans fs_refl (s_X12_tells_j244_fr h)
noncomputable def s_X12_tells_l184 (l1 : Int) (s : (Int × fM)) : Option fM := fLp (fun s => s_X12_tells_b184 s.2 l1 s.1) s
theorem s_X12_tells_l184_ok {d L : Nat} {M : fM} {l1 l3 : Int} {o2 o4 o5 : Option fV} {r : fM} {Q : fO → fH → Prop} (h : s_X12_tells_l184 l1 (l3, M) = some r) (hE : ∀ (e : fM) (o0' o1' o2' o3' o4' o5' : Option fV), r = e → Wp (d + 5, 279, 335, 0, 0, [o0', o1', o2', o3', o4', o5'], []) (156, fjl L, e) Q) : Wp (d + 5, 279, 184, 0, 0, [some (fA 122), some (fI l1), o2, some (fI l3), o4, o5], []) (156, fjl L, M) Q := by
  refine fLp_wp (W := fun s => ∀ (o2 o4 o5 : Option fV), Wp (d + 5, 279, 184, 0, 0, [some (fA 122), some (fI l1), o2, some (fI s.1), o4, o5], []) (156, fjl L, s.2) Q) (e := r) ?_ h _ _ _
  intro s r1 h hC hX o2 o4 o5
  refine s_X12_tells_b184_ok (d := d) h (fun a0 a1 _ _ _ e1 => ?_) (fun e u0 u1 u2 u3 u4 u5 e1 => hE e u0 u1 u2 u3 u4 u5 (hX _ e1).symm)
  exact hC _ e1 _ _ _
theorem s_X12_tells_l184_fr {M : fM} {l1 l3 : Int} {r : fM} (h : s_X12_tells_l184 l1 (l3, M) = some r) : fSame s_X12_tells_mods M ((fun e => e) r) := by
  refine fLp_inv (I := fun s => fSame s_X12_tells_mods M s.2) (J := fun r => fSame s_X12_tells_mods M ((fun e => e) r)) h fs_refl (fun s s1 hs hb => ?_) (fun s e hs hb => ?_)
  · exact fs_trans hs (s_X12_tells_b184_fr hb)
  · exact fs_trans hs (s_X12_tells_b184_fr hb)
noncomputable def s_X12_tells_j182 (M : fM) (l1 : Int) : Option (Int × fM) :=
  (s_X12_tells_l184 l1 (0, M)).bind fun e184 =>
    some (1, e184)
theorem s_X12_tells_j182_ok {d L : Nat} {M : fM} {l1 : Int} {o2 o3 o4 o5 : Option fV} {r : (Int × fM)} {Q : fO → fH → Prop} (h : s_X12_tells_j182 M l1 = some r) (H : Q (oI r.1) (156, fjl L, r.2)) : Wp (d + 5, 279, 182, 0, 0, [some (fA 122), some (fI l1), o2, o3, o4, o5], []) (156, fjl L, M) Q := by
  unfold s_X12_tells_j182 at h
  refine Wp.run 2 (f' := (d + 5, 279, 184, 0, 0, [some (fA 122), some (fI l1), _, some (fI 0), _, _], [])) (h' := (156, fjl L, M)) rfl trivial ?_
  obtain ⟨e184, hy, h⟩ := fbd h
  refine s_X12_tells_l184_ok hy (fun x u0 u1 u2 u3 u4 u5 ex => ?_)
  cases ex
  show Wp (d + 5, 279, 335, 0, 0, [u0, u1, u2, u3, u4, u5], []) (156, fjl L, e184) Q
  refine Wp.run 1 (f' := (d + 5, 279, 336, 0, 0, [_, _, _, _, _, _], [fI 1])) (h' := (156, fjl L, e184)) rfl trivial ?_
  obtain rfl := Option.some.inj h
  exact Wp.done rfl (by decide) H
theorem s_X12_tells_j182_fr {M : fM} {l1 : Int} {r : (Int × fM)} (h : s_X12_tells_j182 M l1 = some r) : fSame s_X12_tells_mods M r.2 := by
  unfold s_X12_tells_j182 at h
  obtain ⟨e184, hy, h⟩ := fbd h
  have k184 := fs_trans (l := s_X12_tells_mods) fs_refl (s_X12_tells_l184_fr hy)
  obtain rfl := Option.some.inj h
  exact k184
noncomputable def s_X12_tells (M : fM) (l1 l2 : Int) : Option (Int × fM) :=
  if 9 < (M 122 3) then
    some (0, M)
  else
    (s_X12_isDay M l1).bind fun y10 =>
      if ¬ y10 = 0 then
        (s_X12_tells_l28 l1 l2 (0, (fup M 122 39 (M 122 3)))).bind fun e28 =>
          Sum.elim (fun x28 =>
            (s_X12_tells_l103 l1 l2 (1, x28)).bind fun e103 =>
              s_X12_tells_j182 e103 l1)
            (fun v28 => some v28) e28
      else
        some (0, M)
theorem s_X12_tells_ok {d L : Nat} {M : fM} {l1 l2 : Int} {r : (Int × fM)} {Q : fO → fH → Prop} (h : s_X12_tells M l1 l2 = some r) (H : Q (oI r.1) (156, fjl L, r.2)) : Wp (d + 5, 279, 0, 0, 0, [some (fA 122), some (fI l1), some (fI l2), none, none, none], []) (156, fjl L, M) Q := by
  unfold s_X12_tells at h
  refine Wp.run 3 (f' := (d + 5, 279, 6, 0, 0, [some (fA 122), some (fI l1), some (fI l2), _, _, _], [fI 9, fI (M 122 3)])) (h' := (156, fjl L, M)) rfl trivial ?_
  refine Wp.br rfl (fun (c : 9 < (M 122 3)) => ?_) (fun (c : ¬ (9 < (M 122 3))) => ?_)
  · replace h := fps c h
    refine Wp.run 1 (f' := (d + 5, 279, 17, 0, 0, [_, _, _, _, _, _], [fI 0])) (h' := (156, fjl L, M)) rfl trivial ?_
    obtain rfl := Option.some.inj h
    exact Wp.done rfl (by decide) H
  · replace h := fng c h
    refine Wp.run 1 (f' := (d + 5, 279, 10, 0, 0, [some (fA 122), some (fI l1), some (fI l2), _, _, _], [fI l1])) (h' := (156, fjl L, M)) rfl trivial ?_
    obtain ⟨y10, hy, h⟩ := fbd h
    refine Wp.call rfl (by decide) (s_X12_isDay_ok (d := d + 3) hy ?_)
    show Wp (d + 5, 279, 13, 0, 0, [some (fA 122), some (fI l1), some (fI l2), _, _, _], [fI y10]) (156, fjl L, M) Q
    refine Wp.br rfl (fun (c : ¬ y10 = 0) => ?_) (fun (c : ¬ (¬ y10 = 0)) => ?_)
    · replace h := fps c h
      refine Wp.run 6 (f' := (d + 5, 279, 28, 0, 0, [some (fA 122), some (fI l1), some (fI l2), some (fI 0), _, _], [])) (h' := (156, fjl L, (fup M 122 39 (M 122 3)))) rfl trivial ?_
      obtain ⟨e28, hy, h⟩ := fbd h
      refine s_X12_tells_l28_ok hy (fun x28 u3 u4 u5 ex => ?_) (fun v28 ex => ?_)
      · subst ex
        replace h := fsl h
        show Wp (d + 5, 279, 101, 0, 0, [some (fA 122), some (fI l1), some (fI l2), u3, u4, u5], []) (156, fjl L, x28) Q
        refine Wp.run 2 (f' := (d + 5, 279, 103, 0, 0, [some (fA 122), some (fI l1), some (fI l2), some (fI 1), _, _], [])) (h' := (156, fjl L, x28)) rfl trivial ?_
        obtain ⟨e103, hy, h⟩ := fbd h
        refine s_X12_tells_l103_ok hy (fun x u2 u3 u4 u5 ex => ?_)
        cases ex
        show Wp (d + 5, 279, 182, 0, 0, [some (fA 122), some (fI l1), u2, u3, u4, u5], []) (156, fjl L, e103) Q
        exact s_X12_tells_j182_ok h H
      · subst ex
        replace h := fsr h
        obtain rfl := Option.some.inj h
        exact H
    · replace h := fng c h
      refine Wp.run 1 (f' := (d + 5, 279, 17, 0, 0, [_, _, _, _, _, _], [fI 0])) (h' := (156, fjl L, M)) rfl trivial ?_
      obtain rfl := Option.some.inj h
      exact Wp.done rfl (by decide) H
theorem s_X12_tells_fr {M : fM} {l1 l2 : Int} {r : (Int × fM)} (h : s_X12_tells M l1 l2 = some r) : fSame s_X12_tells_mods M r.2 := by
  unfold s_X12_tells at h
  by_cases c : 9 < (M 122 3)
  · replace h := fps c h
    obtain rfl := Option.some.inj h
    exact fs_refl
  · replace h := fng c h
    obtain ⟨y10, hy, h⟩ := fbd h
    by_cases c : ¬ y10 = 0
    · replace h := fps c h
      obtain ⟨e28, hy, h⟩ := fbd h
      have k28 := fs_trans (l := s_X12_tells_mods) (fs_up fs_refl (.inr (by decide))) (s_X12_tells_l28_fr hy)
      rcases e28 with x28 | v28
      · replace h := fsl h
        obtain ⟨e103, hy, h⟩ := fbd h
        have k103 := fs_trans (l := s_X12_tells_mods) k28 (s_X12_tells_l103_fr hy)
        exact fs_trans k103 (s_X12_tells_j182_fr h)
      · replace h := fsr h
        obtain rfl := Option.some.inj h
        exact k28
    · replace h := fng c h
      obtain rfl := Option.some.inj h
      exact fs_refl
abbrev s_X12_live_mods : List (Nat × Option Nat) := [(122, some 40), (122, some 41)]
noncomputable def s_X12_live (M : fM) (l1 : Int) : Option (Unit × fM) :=
  if fin (3 * l1) ∧ fin (591 + (3 * l1)) ∧ (0 ≤ (591 + (3 * l1)) ∧ (591 + (3 * l1)) < 1290) ∧ fin ((591 + (3 * l1)) + 1) then
    if (0 ≤ ((591 + (3 * l1)) + 1) ∧ ((591 + (3 * l1)) + 1) < 1290) then
      some ((), (fup (fup M 122 40 (M 124 (591 + (3 * l1)).toNat)) 122 41 (M 124 ((591 + (3 * l1)) + 1).toNat)))
    else none
  else none
theorem s_X12_live_ok {d L : Nat} {M : fM} {l1 : Int} {r : (Unit × fM)} {Q : fO → fH → Prop} (h : s_X12_live M l1 = some r) (H : Q (oV r.1) (156, fjl L, r.2)) : Wp (d + 0, 280, 0, 0, 0, [some (fA 122), some (fI l1)], []) (156, fjl L, M) Q := by
  unfold s_X12_live at h
  obtain ⟨⟨g0, g1, g2, g3⟩, h⟩ := fgd h
  refine Wp.run 20 (P := [0 ≤ (fw (591 + (fw (3 * l1)))) ∧ (fw (591 + (fw (3 * l1)))) < 1290]) (f' := (d + 0, 280, 30, 0, 0, [_, _], [fI (fw ((fw (591 + (fw (3 * l1)))) + 1)), fA 124, fA 122])) (h' := (156, fjl L, (fup M 122 40 (M 124 (fw (591 + (fw (3 * l1)))).toNat)))) rfl ?_ ?_
  · rw [fw_id g0, fw_id g1]; exact g2
  rw [fw_id g0, fw_id g1, fw_id g3]
  obtain ⟨g0, h⟩ := fgd h
  refine Wp.run 2 (P := [0 ≤ ((591 + (3 * l1)) + 1) ∧ ((591 + (3 * l1)) + 1) < 1290]) (f' := (d + 0, 280, 34, 0, 0, [_, _], [])) (h' := (156, fjl L, (fup (fup M 122 40 (M 124 (591 + (3 * l1)).toNat)) 122 41 (M 124 ((591 + (3 * l1)) + 1).toNat)))) rfl ?_ ?_
  · exact g0
  obtain rfl := Option.some.inj h
  exact Wp.done rfl (by decide) H
theorem s_X12_live_fr {M : fM} {l1 : Int} {r : (Unit × fM)} (h : s_X12_live M l1 = some r) : fSame s_X12_live_mods M r.2 := by
  unfold s_X12_live at h
  replace h := (fgd h).2
  replace h := (fgd h).2
  obtain rfl := Option.some.inj h
  exact fs_up (fs_up fs_refl (.inr (by decide))) (.inr (by decide))
noncomputable def s_X12_way_j73 (M : fM) (l3 l4 l5 t0 : Int) : Option Int :=
  if fin (l3 - l5) then
    (s_X12_plain M (l3 - l5)).bind fun y79 =>
      if fin (l4 - t0) then
        (s_X12_plain M (l4 - t0)).bind fun y87 =>
          if fin (y79 + y87) ∧ fin ((y79 + y87) * (M 124 168)) then
            some ((y79 + y87) * (M 124 168))
          else none
      else none
  else none
theorem s_X12_way_j73_ok {d L : Nat} {M : fM} {l3 l4 l5 t0 : Int} {o1 o2 o6 : Option fV} {r : Int} {Q : fO → fH → Prop} (h : s_X12_way_j73 M l3 l4 l5 t0 = some r) (H : Q (oI r) (156, fjl L, M)) : Wp (d + 1, 281, 73, 0, 0, [some (fA 122), o1, o2, some (fI l3), some (fI l4), some (fI l5), o6], [fI t0]) (156, fjl L, M) Q := by
  unfold s_X12_way_j73 at h
  obtain ⟨g0, h⟩ := fgd h
  refine Wp.run 4 (f' := (d + 1, 281, 79, 0, 0, [some (fA 122), _, _, _, some (fI l4), _, some (fI t0)], [fI (fw (l3 - l5))])) (h' := (156, fjl L, M)) rfl trivial ?_
  rw [fw_id g0]
  obtain ⟨y79, hy, h⟩ := fbd h
  refine Wp.call rfl (by decide) (s_X12_plain_ok (d := d + 0) hy ?_)
  show Wp (d + 1, 281, 82, 0, 0, [some (fA 122), _, _, _, some (fI l4), _, some (fI t0)], [fI y79]) (156, fjl L, M) Q
  obtain ⟨g0, h⟩ := fgd h
  refine Wp.run 3 (f' := (d + 1, 281, 87, 0, 0, [some (fA 122), _, _, _, _, _, _], [fI (fw (l4 - t0)), fI y79])) (h' := (156, fjl L, M)) rfl trivial ?_
  rw [fw_id g0]
  obtain ⟨y87, hy, h⟩ := fbd h
  refine Wp.call rfl (by decide) (s_X12_plain_ok (d := d + 0) hy ?_)
  show Wp (d + 1, 281, 90, 0, 0, [some (fA 122), _, _, _, _, _, _], [fI y87, fI y79]) (156, fjl L, M) Q
  obtain ⟨⟨g0, g1⟩, h⟩ := fgd h
  refine Wp.run 6 (P := [(0 : Int) ≤ 168 ∧ (168 : Int) < 1290]) (f' := (d + 1, 281, 100, 0, 0, [_, _, _, _, _, _, _], [fI (fw ((fw (y79 + y87)) * (M 124 168)))])) (h' := (156, fjl L, M)) rfl ?_ ?_
  · exact (by decide : (0 : Int) ≤ 168 ∧ (168 : Int) < 1290)
  rw [fw_id g0, fw_id g1]
  obtain rfl := Option.some.inj h
  exact Wp.done rfl (by decide) H
noncomputable def s_X12_way_j54 (M : fM) (l2 l3 l4 t0 : Int) : Option Int :=
  if 0 ≤ l2 then
    if (0 ≤ l2 ∧ l2 < 9) then
      s_X12_way_j73 M l3 l4 t0 (M 135 (l2).toNat)
    else none
  else
    s_X12_way_j73 M l3 l4 t0 (M 122 41)
theorem s_X12_way_j54_ok {d L : Nat} {M : fM} {l2 l3 l4 t0 : Int} {o1 o5 o6 : Option fV} {r : Int} {Q : fO → fH → Prop} (h : s_X12_way_j54 M l2 l3 l4 t0 = some r) (H : Q (oI r) (156, fjl L, M)) : Wp (d + 1, 281, 54, 0, 0, [some (fA 122), o1, some (fI l2), some (fI l3), some (fI l4), o5, o6], [fI t0]) (156, fjl L, M) Q := by
  unfold s_X12_way_j54 at h
  refine Wp.run 2 (f' := (d + 1, 281, 57, 0, 0, [some (fA 122), _, some (fI l2), some (fI l3), some (fI l4), some (fI t0), _], [fI l2])) (h' := (156, fjl L, M)) rfl trivial ?_
  refine Wp.br rfl (fun (c : 0 ≤ l2) => ?_) (fun (c : ¬ (0 ≤ l2)) => ?_)
  · replace h := fps c h
    obtain ⟨g0, h⟩ := fgd h
    refine Wp.run 4 (P := [0 ≤ l2 ∧ l2 < 9]) (f' := (d + 1, 281, 73, 0, 0, [some (fA 122), _, _, some (fI l3), some (fI l4), some (fI t0), _], [fI (M 135 (l2).toNat)])) (h' := (156, fjl L, M)) rfl ?_ ?_
    · exact g0
    exact s_X12_way_j73_ok h H
  · replace h := fng c h
    refine Wp.run 3 (f' := (d + 1, 281, 73, 0, 0, [some (fA 122), _, _, some (fI l3), some (fI l4), some (fI t0), _], [fI (M 122 41)])) (h' := (156, fjl L, M)) rfl trivial ?_
    exact s_X12_way_j73_ok h H
noncomputable def s_X12_way_j35 (M : fM) (l2 l3 t0 : Int) : Option Int :=
  if 0 ≤ l2 then
    if (0 ≤ l2 ∧ l2 < 9) then
      s_X12_way_j54 M l2 l3 t0 (M 134 (l2).toNat)
    else none
  else
    s_X12_way_j54 M l2 l3 t0 (M 122 40)
theorem s_X12_way_j35_ok {d L : Nat} {M : fM} {l2 l3 t0 : Int} {o1 o4 o5 o6 : Option fV} {r : Int} {Q : fO → fH → Prop} (h : s_X12_way_j35 M l2 l3 t0 = some r) (H : Q (oI r) (156, fjl L, M)) : Wp (d + 1, 281, 35, 0, 0, [some (fA 122), o1, some (fI l2), some (fI l3), o4, o5, o6], [fI t0]) (156, fjl L, M) Q := by
  unfold s_X12_way_j35 at h
  refine Wp.run 2 (f' := (d + 1, 281, 38, 0, 0, [some (fA 122), _, some (fI l2), some (fI l3), some (fI t0), _, _], [fI l2])) (h' := (156, fjl L, M)) rfl trivial ?_
  refine Wp.br rfl (fun (c : 0 ≤ l2) => ?_) (fun (c : ¬ (0 ≤ l2)) => ?_)
  · replace h := fps c h
    obtain ⟨g0, h⟩ := fgd h
    refine Wp.run 4 (P := [0 ≤ l2 ∧ l2 < 9]) (f' := (d + 1, 281, 54, 0, 0, [some (fA 122), _, some (fI l2), some (fI l3), some (fI t0), _, _], [fI (M 134 (l2).toNat)])) (h' := (156, fjl L, M)) rfl ?_ ?_
    · exact g0
    exact s_X12_way_j54_ok h H
  · replace h := fng c h
    refine Wp.run 3 (f' := (d + 1, 281, 54, 0, 0, [some (fA 122), _, some (fI l2), some (fI l3), some (fI t0), _, _], [fI (M 122 40)])) (h' := (156, fjl L, M)) rfl trivial ?_
    exact s_X12_way_j54_ok h H
noncomputable def s_X12_way_j17 (M : fM) (l1 l2 t0 : Int) : Option Int :=
  if 0 ≤ l1 then
    if (0 ≤ l1 ∧ l1 < 9) then
      s_X12_way_j35 M l2 t0 (M 135 (l1).toNat)
    else none
  else
    s_X12_way_j35 M l2 t0 (M 122 41)
theorem s_X12_way_j17_ok {d L : Nat} {M : fM} {l1 l2 t0 : Int} {o3 o4 o5 o6 : Option fV} {r : Int} {Q : fO → fH → Prop} (h : s_X12_way_j17 M l1 l2 t0 = some r) (H : Q (oI r) (156, fjl L, M)) : Wp (d + 1, 281, 17, 0, 0, [some (fA 122), some (fI l1), some (fI l2), o3, o4, o5, o6], [fI t0]) (156, fjl L, M) Q := by
  unfold s_X12_way_j17 at h
  refine Wp.run 2 (f' := (d + 1, 281, 19, 0, 0, [some (fA 122), some (fI l1), some (fI l2), some (fI t0), _, _, _], [fI l1])) (h' := (156, fjl L, M)) rfl trivial ?_
  refine Wp.br rfl (fun (c : 0 ≤ l1) => ?_) (fun (c : ¬ (0 ≤ l1)) => ?_)
  · replace h := fps c h
    obtain ⟨g0, h⟩ := fgd h
    refine Wp.run 4 (P := [0 ≤ l1 ∧ l1 < 9]) (f' := (d + 1, 281, 35, 0, 0, [some (fA 122), _, some (fI l2), some (fI t0), _, _, _], [fI (M 135 (l1).toNat)])) (h' := (156, fjl L, M)) rfl ?_ ?_
    · exact g0
    exact s_X12_way_j35_ok h H
  · replace h := fng c h
    refine Wp.run 3 (f' := (d + 1, 281, 35, 0, 0, [some (fA 122), _, some (fI l2), some (fI t0), _, _, _], [fI (M 122 41)])) (h' := (156, fjl L, M)) rfl trivial ?_
    exact s_X12_way_j35_ok h H
noncomputable def s_X12_way (M : fM) (l1 l2 : Int) : Option Int :=
  if 0 ≤ l1 then
    if (0 ≤ l1 ∧ l1 < 9) then
      s_X12_way_j17 M l1 l2 (M 134 (l1).toNat)
    else none
  else
    s_X12_way_j17 M l1 l2 (M 122 40)
theorem s_X12_way_ok {d L : Nat} {M : fM} {l1 l2 : Int} {r : Int} {Q : fO → fH → Prop} (h : s_X12_way M l1 l2 = some r) (H : Q (oI r) (156, fjl L, M)) : Wp (d + 1, 281, 0, 0, 0, [some (fA 122), some (fI l1), some (fI l2), none, none, none, none], []) (156, fjl L, M) Q := by
  unfold s_X12_way at h
  refine Wp.run 1 (f' := (d + 1, 281, 1, 0, 0, [some (fA 122), some (fI l1), some (fI l2), _, _, _, _], [fI l1])) (h' := (156, fjl L, M)) rfl trivial ?_
  refine Wp.br rfl (fun (c : 0 ≤ l1) => ?_) (fun (c : ¬ (0 ≤ l1)) => ?_)
  · replace h := fps c h
    obtain ⟨g0, h⟩ := fgd h
    refine Wp.run 4 (P := [0 ≤ l1 ∧ l1 < 9]) (f' := (d + 1, 281, 17, 0, 0, [some (fA 122), some (fI l1), some (fI l2), _, _, _, _], [fI (M 134 (l1).toNat)])) (h' := (156, fjl L, M)) rfl ?_ ?_
    · exact g0
    exact s_X12_way_j17_ok h H
  · replace h := fng c h
    refine Wp.run 3 (f' := (d + 1, 281, 17, 0, 0, [some (fA 122), some (fI l1), some (fI l2), _, _, _, _], [fI (M 122 40)])) (h' := (156, fjl L, M)) rfl trivial ?_
    exact s_X12_way_j17_ok h H
abbrev s_X12_consider_mods : List (Nat × Option Nat) := [(122, some 46), (122, some 47), (122, some 48), (141, none)]
noncomputable def s_X12_consider_b72 (M : fM) (l1 l4 : Int) : Option ((Int × fM) ⊕ fM) :=
  if l1 ≤ l4 then
    some (.inr M)
  else
    if (0 ≤ l4 ∧ l4 < 10) ∧ (0 ≤ (M 138 (l4).toNat) ∧ (M 138 (l4).toNat) < 9) ∧ (0 ≤ l4 ∧ l4 < 9) ∧ fin (l4 + 1) then
      some (.inl ((l4 + 1), (fup M 141 (l4).toNat (M 133 (M 138 (l4).toNat).toNat))))
    else none
theorem s_X12_consider_b72_ok {d L : Nat} {M : fM} {l1 l4 : Int} {o2 o3 : Option fV} {r : ((Int × fM) ⊕ fM)} {Q : fO → fH → Prop} (h : s_X12_consider_b72 M l1 l4 = some r) (hC : ∀ (l4' : Int) (M' : fM) (o2' o3' : Option fV), r = .inl (l4', M') → Wp (d + 2, 284, 72, 0, 0, [some (fA 122), some (fI l1), o2', o3', some (fI l4')], []) (156, fjl L, M') Q) (hE : ∀ (e : fM) (o0' o1' o2' o3' o4' : Option fV), r = .inr e → Wp (d + 2, 284, 103, 0, 0, [o0', o1', o2', o3', o4'], []) (156, fjl L, e) Q) : Wp (d + 2, 284, 72, 0, 0, [some (fA 122), some (fI l1), o2, o3, some (fI l4)], []) (156, fjl L, M) Q := by
  unfold s_X12_consider_b72 at h
  refine Wp.run 2 (f' := (d + 2, 284, 75, 0, 0, [some (fA 122), some (fI l1), _, _, some (fI l4)], [fI l1, fI l4])) (h' := (156, fjl L, M)) rfl trivial ?_
  refine Wp.br rfl (fun (c : l1 ≤ l4) => ?_) (fun (c : ¬ (l1 ≤ l4)) => ?_)
  · replace h := fps c h
    exact hE _ _ _ _ _ _ (Option.some.inj h).symm
  · replace h := fng c h
    obtain ⟨⟨g0, g1, g2, g3⟩, h⟩ := fgd h
    refine Wp.run 12 (P := [0 ≤ l4 ∧ l4 < 10, 0 ≤ (M 138 (l4).toNat) ∧ (M 138 (l4).toNat) < 9, 0 ≤ l4 ∧ l4 < 9]) (f' := (d + 2, 284, 100, 0, 0, [some (fA 122), some (fI l1), _, _, some (fI (fw (l4 + 1)))], [])) (h' := (156, fjl L, (fup M 141 (l4).toNat (M 133 (M 138 (l4).toNat).toNat)))) rfl ?_ ?_
    · exact ⟨g0, g1, g2⟩
    rw [fw_id g3]
    refine Wp.run 1 (f' := (d + 2, 284, 72, 0, 0, [some (fA 122), some (fI l1), _, _, some (fI (l4 + 1))], [])) (h' := (156, fjl L, (fup M 141 (l4).toNat (M 133 (M 138 (l4).toNat).toNat)))) rfl trivial ?_
    exact hC _ _ _ _ (Option.some.inj h).symm
theorem s_X12_consider_b72_fr {M : fM} {l1 l4 : Int} {r : ((Int × fM) ⊕ fM)} (h : s_X12_consider_b72 M l1 l4 = some r) : fSame s_X12_consider_mods M (Sum.elim (fun s => s.2) (fun e => e) r) := by
  unfold s_X12_consider_b72 at h
  by_cases c : l1 ≤ l4
  · replace h := fps c h
    obtain rfl := Option.some.inj h
    exact fs_refl
  · replace h := fng c h
    replace h := (fgd h).2
    obtain rfl := Option.some.inj h
    exact fs_up fs_refl (.inl (by decide))
noncomputable def s_X12_consider_l72 (l1 : Int) (s : (Int × fM)) : Option fM := fLp (fun s => s_X12_consider_b72 s.2 l1 s.1) s
theorem s_X12_consider_l72_ok {d L : Nat} {M : fM} {l1 l4 : Int} {o2 o3 : Option fV} {r : fM} {Q : fO → fH → Prop} (h : s_X12_consider_l72 l1 (l4, M) = some r) (hE : ∀ (e : fM) (o0' o1' o2' o3' o4' : Option fV), r = e → Wp (d + 2, 284, 103, 0, 0, [o0', o1', o2', o3', o4'], []) (156, fjl L, e) Q) : Wp (d + 2, 284, 72, 0, 0, [some (fA 122), some (fI l1), o2, o3, some (fI l4)], []) (156, fjl L, M) Q := by
  refine fLp_wp (W := fun s => ∀ (o2 o3 : Option fV), Wp (d + 2, 284, 72, 0, 0, [some (fA 122), some (fI l1), o2, o3, some (fI s.1)], []) (156, fjl L, s.2) Q) (e := r) ?_ h _ _
  intro s r1 h hC hX o2 o3
  refine s_X12_consider_b72_ok (d := d) h (fun a0 a1 _ _ e1 => ?_) (fun e u0 u1 u2 u3 u4 e1 => hE e u0 u1 u2 u3 u4 (hX _ e1).symm)
  exact hC _ e1 _ _
theorem s_X12_consider_l72_fr {M : fM} {l1 l4 : Int} {r : fM} (h : s_X12_consider_l72 l1 (l4, M) = some r) : fSame s_X12_consider_mods M ((fun e => e) r) := by
  refine fLp_inv (I := fun s => fSame s_X12_consider_mods M s.2) (J := fun r => fSame s_X12_consider_mods M ((fun e => e) r)) h fs_refl (fun s s1 hs hb => ?_) (fun s e hs hb => ?_)
  · exact fs_trans hs (s_X12_consider_b72_fr hb)
  · exact fs_trans hs (s_X12_consider_b72_fr hb)
noncomputable def s_X12_consider_j54 (M : fM) (l1 l2 l3 : Int) : Option (Unit × fM) :=
  (s_X12_consider_l72 l1 (0, (fup (fup (fup M 122 47 l2) 122 48 l3) 122 46 l1))).bind fun e72 =>
    some ((), e72)
theorem s_X12_consider_j54_ok {d L : Nat} {M : fM} {l1 l2 l3 : Int} {o4 : Option fV} {r : (Unit × fM)} {Q : fO → fH → Prop} (h : s_X12_consider_j54 M l1 l2 l3 = some r) (H : Q (oV r.1) (156, fjl L, r.2)) : Wp (d + 2, 284, 54, 0, 0, [some (fA 122), some (fI l1), some (fI l2), some (fI l3), o4], []) (156, fjl L, M) Q := by
  unfold s_X12_consider_j54 at h
  refine Wp.run 11 (f' := (d + 2, 284, 72, 0, 0, [some (fA 122), some (fI l1), _, _, some (fI 0)], [])) (h' := (156, fjl L, (fup (fup (fup M 122 47 l2) 122 48 l3) 122 46 l1))) rfl trivial ?_
  obtain ⟨e72, hy, h⟩ := fbd h
  refine s_X12_consider_l72_ok hy (fun x u0 u1 u2 u3 u4 ex => ?_)
  cases ex
  show Wp (d + 2, 284, 103, 0, 0, [u0, u1, u2, u3, u4], []) (156, fjl L, e72) Q
  obtain rfl := Option.some.inj h
  exact Wp.done rfl (by decide) H
theorem s_X12_consider_j54_fr {M : fM} {l1 l2 l3 : Int} {r : (Unit × fM)} (h : s_X12_consider_j54 M l1 l2 l3 = some r) : fSame s_X12_consider_mods M r.2 := by
  unfold s_X12_consider_j54 at h
  obtain ⟨e72, hy, h⟩ := fbd h
  have k72 := fs_trans (l := s_X12_consider_mods) (fs_up (fs_up (fs_up fs_refl (.inr (by decide))) (.inr (by decide))) (.inr (by decide))) (s_X12_consider_l72_fr hy)
  obtain rfl := Option.some.inj h
  exact k72
noncomputable def s_X12_consider_j27 (M : fM) (l1 l2 t0 t1 : Int) : Option (Unit × fM) :=
  if fin (t0 + t1) then
    if l2 < (M 122 47) then
      some ((), M)
    else
      if ¬ l2 = (M 122 47) then
        s_X12_consider_j54 M l1 l2 (t0 + t1)
      else
        if (t0 + t1) < (M 122 48) then
          s_X12_consider_j54 M l1 l2 (t0 + t1)
        else
          some ((), M)
  else none
theorem s_X12_consider_j27_ok {d L : Nat} {M : fM} {l1 l2 t0 t1 : Int} {o3 o4 : Option fV} {r : (Unit × fM)} {Q : fO → fH → Prop} (h : s_X12_consider_j27 M l1 l2 t0 t1 = some r) (H : Q (oV r.1) (156, fjl L, r.2)) : Wp (d + 2, 284, 27, 0, 0, [some (fA 122), some (fI l1), some (fI l2), o3, o4], [fI t1, fI t0]) (156, fjl L, M) Q := by
  unfold s_X12_consider_j27 at h
  obtain ⟨g0, h⟩ := fgd h
  refine Wp.run 5 (f' := (d + 2, 284, 34, 0, 0, [some (fA 122), some (fI l1), some (fI l2), some (fI (fw (t0 + t1))), _], [fI (M 122 47), fI l2])) (h' := (156, fjl L, M)) rfl trivial ?_
  rw [fw_id g0]
  refine Wp.br rfl (fun (c : l2 < (M 122 47)) => ?_) (fun (c : ¬ (l2 < (M 122 47))) => ?_)
  · replace h := fps c h
    obtain rfl := Option.some.inj h
    exact Wp.done rfl (by decide) H
  · replace h := fng c h
    refine Wp.run 3 (f' := (d + 2, 284, 42, 0, 0, [some (fA 122), some (fI l1), some (fI l2), some (fI (t0 + t1)), _], [fI (M 122 47), fI l2])) (h' := (156, fjl L, M)) rfl trivial ?_
    refine Wp.br rfl (fun (c : ¬ l2 = (M 122 47)) => ?_) (fun (c : ¬ (¬ l2 = (M 122 47))) => ?_)
    · replace h := fps c h
      exact s_X12_consider_j54_ok h H
    · replace h := fng c h
      refine Wp.run 3 (f' := (d + 2, 284, 50, 0, 0, [some (fA 122), some (fI l1), some (fI l2), some (fI (t0 + t1)), _], [fI (M 122 48), fI (t0 + t1)])) (h' := (156, fjl L, M)) rfl trivial ?_
      refine Wp.br rfl (fun (c : (t0 + t1) < (M 122 48)) => ?_) (fun (c : ¬ ((t0 + t1) < (M 122 48))) => ?_)
      · replace h := fps c h
        exact s_X12_consider_j54_ok h H
      · replace h := fng c h
        obtain rfl := Option.some.inj h
        exact Wp.done rfl (by decide) H
theorem s_X12_consider_j27_fr {M : fM} {l1 l2 t0 t1 : Int} {r : (Unit × fM)} (h : s_X12_consider_j27 M l1 l2 t0 t1 = some r) : fSame s_X12_consider_mods M r.2 := by
  unfold s_X12_consider_j27 at h
  replace h := (fgd h).2
  by_cases c : l2 < (M 122 47)
  · replace h := fps c h
    obtain rfl := Option.some.inj h
    exact fs_refl
  · replace h := fng c h
    by_cases c : ¬ l2 = (M 122 47)
    · replace h := fps c h
      exact fs_trans fs_refl (s_X12_consider_j54_fr h)
    · replace h := fng c h
      by_cases c : (t0 + t1) < (M 122 48)
      · replace h := fps c h
        exact fs_trans fs_refl (s_X12_consider_j54_fr h)
      · replace h := fng c h
        obtain rfl := Option.some.inj h
        exact fs_refl
noncomputable def s_X12_consider (M : fM) (l1 l2 : Int) : Option (Unit × fM) :=
  if (0 ≤ l1 ∧ l1 < 10) then
    if ¬ l1 = 0 then
      if fin (l1 - 1) ∧ (0 ≤ (l1 - 1) ∧ (l1 - 1) < 10) then
        (s_X12_way M (M 138 (l1 - 1).toNat) (-1)).bind fun y24 =>
          s_X12_consider_j27 M l1 l2 (M 139 (l1).toNat) y24
      else none
    else
      s_X12_consider_j27 M l1 l2 (M 139 (l1).toNat) 0
  else none
theorem s_X12_consider_ok {d L : Nat} {M : fM} {l1 l2 : Int} {r : (Unit × fM)} {Q : fO → fH → Prop} (h : s_X12_consider M l1 l2 = some r) (H : Q (oV r.1) (156, fjl L, r.2)) : Wp (d + 2, 284, 0, 0, 0, [some (fA 122), some (fI l1), some (fI l2), none, none], []) (156, fjl L, M) Q := by
  unfold s_X12_consider at h
  obtain ⟨g0, h⟩ := fgd h
  refine Wp.run 5 (P := [0 ≤ l1 ∧ l1 < 10]) (f' := (d + 2, 284, 7, 0, 0, [some (fA 122), some (fI l1), some (fI l2), _, _], [fI l1, fI (M 139 (l1).toNat)])) (h' := (156, fjl L, M)) rfl ?_ ?_
  · exact g0
  refine Wp.br rfl (fun (c : ¬ l1 = 0) => ?_) (fun (c : ¬ (¬ l1 = 0)) => ?_)
  · replace h := fps c h
    obtain ⟨⟨g0, g1⟩, h⟩ := fgd h
    refine Wp.run 8 (P := [0 ≤ (fw (l1 - 1)) ∧ (fw (l1 - 1)) < 10]) (f' := (d + 2, 284, 24, 0, 0, [some (fA 122), some (fI l1), some (fI l2), _, _], [fI (-1), fI (M 138 (fw (l1 - 1)).toNat), fA 122, fI (M 139 (l1).toNat)])) (h' := (156, fjl L, M)) rfl ?_ ?_
    · rw [fw_id g0]; exact g1
    rw [fw_id g0]
    obtain ⟨y24, hy, h⟩ := fbd h
    refine Wp.call rfl (by decide) (s_X12_way_ok (d := d + 0) hy ?_)
    show Wp (d + 2, 284, 27, 0, 0, [some (fA 122), some (fI l1), some (fI l2), _, _], [fI y24, fI (M 139 (l1).toNat)]) (156, fjl L, M) Q
    exact s_X12_consider_j27_ok h H
  · replace h := fng c h
    refine Wp.run 2 (f' := (d + 2, 284, 27, 0, 0, [some (fA 122), some (fI l1), some (fI l2), _, _], [fI 0, fI (M 139 (l1).toNat)])) (h' := (156, fjl L, M)) rfl trivial ?_
    exact s_X12_consider_j27_ok h H
theorem s_X12_consider_fr {M : fM} {l1 l2 : Int} {r : (Unit × fM)} (h : s_X12_consider M l1 l2 = some r) : fSame s_X12_consider_mods M r.2 := by
  unfold s_X12_consider at h
  replace h := (fgd h).2
  by_cases c : ¬ l1 = 0
  · replace h := fps c h
    replace h := (fgd h).2
    obtain ⟨y24, hy, h⟩ := fbd h
    exact fs_trans fs_refl (s_X12_consider_j27_fr h)
  · replace h := fng c h
    exact fs_trans fs_refl (s_X12_consider_j27_fr h)
noncomputable def s_X12_done_j44 (M : fM) (l1 t0 : Int) : Option Int :=
  if (0 ≤ l1 ∧ l1 < 9) then
    if ¬ (M 137 (l1).toNat) = 0 then
      some 1000000
    else
      if fin (t0 + (M 124 169)) ∧ (0 ≤ l1 ∧ l1 < 9) then
        (s_X12_of M (M 133 (l1).toNat) 9).bind fun y75 =>
          if (t0 + (M 124 169)) ≤ y75 then
            if fin (t0 + (M 124 169)) then
              some (t0 + (M 124 169))
            else none
          else
            some 1000000
      else none
  else none
theorem s_X12_done_j44_ok {d L : Nat} {M : fM} {l1 t0 : Int} {o2 o3 o4 : Option fV} {r : Int} {Q : fO → fH → Prop} (h : s_X12_done_j44 M l1 t0 = some r) (H : Q (oI r) (156, fjl L, M)) : Wp (d + 2, 282, 44, 0, 0, [some (fA 122), some (fI l1), o2, o3, o4], [fI t0]) (156, fjl L, M) Q := by
  unfold s_X12_done_j44 at h
  obtain ⟨g0, h⟩ := fgd h
  refine Wp.run 5 (P := [0 ≤ l1 ∧ l1 < 9]) (f' := (d + 2, 282, 52, 0, 0, [some (fA 122), some (fI l1), _, _, some (fI t0)], [fI (M 137 (l1).toNat)])) (h' := (156, fjl L, M)) rfl ?_ ?_
  · exact g0
  refine Wp.br rfl (fun (c : ¬ (M 137 (l1).toNat) = 0) => ?_) (fun (c : ¬ (¬ (M 137 (l1).toNat) = 0)) => ?_)
  · replace h := fps c h
    refine Wp.run 2 (f' := (d + 2, 282, 98, 0, 0, [_, _, _, _, _], [fI 1000000])) (h' := (156, fjl L, M)) rfl trivial ?_
    obtain rfl := Option.some.inj h
    exact Wp.done rfl (by decide) H
  · replace h := fng c h
    obtain ⟨⟨g0, g1⟩, h⟩ := fgd h
    refine Wp.run 12 (P := [(0 : Int) ≤ 169 ∧ (169 : Int) < 1290, 0 ≤ l1 ∧ l1 < 9]) (f' := (d + 2, 282, 75, 0, 0, [some (fA 122), _, _, _, some (fI t0)], [fI 9, fI (M 133 (l1).toNat), fA 122, fI (fw (t0 + (M 124 169)))])) (h' := (156, fjl L, M)) rfl ?_ ?_
    · exact ⟨(by decide : (0 : Int) ≤ 169 ∧ (169 : Int) < 1290), g1⟩
    rw [fw_id g0]
    obtain ⟨y75, hy, h⟩ := fbd h
    refine Wp.call rfl (by decide) (s_X12_of_ok (d := d + 1) hy ?_)
    show Wp (d + 2, 282, 78, 0, 0, [some (fA 122), _, _, _, some (fI t0)], [fI y75, fI (t0 + (M 124 169))]) (156, fjl L, M) Q
    refine Wp.br rfl (fun (c : (t0 + (M 124 169)) ≤ y75) => ?_) (fun (c : ¬ ((t0 + (M 124 169)) ≤ y75)) => ?_)
    · replace h := fps c h
      obtain ⟨g0, h⟩ := fgd h
      refine Wp.run 6 (P := [(0 : Int) ≤ 169 ∧ (169 : Int) < 1290]) (f' := (d + 2, 282, 98, 0, 0, [_, _, _, _, _], [fI (fw (t0 + (M 124 169)))])) (h' := (156, fjl L, M)) rfl ?_ ?_
      · exact (by decide : (0 : Int) ≤ 169 ∧ (169 : Int) < 1290)
      rw [fw_id g0]
      obtain rfl := Option.some.inj h
      exact Wp.done rfl (by decide) H
    · replace h := fng c h
      refine Wp.run 2 (f' := (d + 2, 282, 98, 0, 0, [_, _, _, _, _], [fI 1000000])) (h' := (156, fjl L, M)) rfl trivial ?_
      obtain rfl := Option.some.inj h
      exact Wp.done rfl (by decide) H
noncomputable def s_X12_done (M : fM) (l1 l2 l3 : Int) : Option Int :=
  (s_X12_way M l2 l1).bind fun y4 =>
    if fin (l3 + y4) ∧ (0 ≤ l1 ∧ l1 < 9) then
      (s_X12_of M (M 133 (l1).toNat) 8).bind fun y21 =>
        if y21 ≤ (l3 + y4) then
          s_X12_done_j44 M l1 (l3 + y4)
        else
          if (0 ≤ l1 ∧ l1 < 9) then
            (s_X12_of M (M 133 (l1).toNat) 8).bind fun y36 =>
              s_X12_done_j44 M l1 y36
          else none
    else none
theorem s_X12_done_ok {d L : Nat} {M : fM} {l1 l2 l3 : Int} {r : Int} {Q : fO → fH → Prop} (h : s_X12_done M l1 l2 l3 = some r) (H : Q (oI r) (156, fjl L, M)) : Wp (d + 2, 282, 0, 0, 0, [some (fA 122), some (fI l1), some (fI l2), some (fI l3), none], []) (156, fjl L, M) Q := by
  unfold s_X12_done at h
  refine Wp.run 4 (f' := (d + 2, 282, 4, 0, 0, [some (fA 122), some (fI l1), _, _, _], [fI l1, fI l2, fA 122, fI l3])) (h' := (156, fjl L, M)) rfl trivial ?_
  obtain ⟨y4, hy, h⟩ := fbd h
  refine Wp.call rfl (by decide) (s_X12_way_ok (d := d + 0) hy ?_)
  show Wp (d + 2, 282, 7, 0, 0, [some (fA 122), some (fI l1), _, _, _], [fI y4, fI l3]) (156, fjl L, M) Q
  obtain ⟨⟨g0, g1⟩, h⟩ := fgd h
  refine Wp.run 9 (P := [0 ≤ l1 ∧ l1 < 9]) (f' := (d + 2, 282, 21, 0, 0, [some (fA 122), some (fI l1), _, _, some (fI (fw (l3 + y4)))], [fI 8, fI (M 133 (l1).toNat), fA 122, fI (fw (l3 + y4))])) (h' := (156, fjl L, M)) rfl ?_ ?_
  · exact g1
  rw [fw_id g0]
  obtain ⟨y21, hy, h⟩ := fbd h
  refine Wp.call rfl (by decide) (s_X12_of_ok (d := d + 1) hy ?_)
  show Wp (d + 2, 282, 24, 0, 0, [some (fA 122), some (fI l1), _, _, some (fI (l3 + y4))], [fI y21, fI (l3 + y4)]) (156, fjl L, M) Q
  refine Wp.br rfl (fun (c : y21 ≤ (l3 + y4)) => ?_) (fun (c : ¬ (y21 ≤ (l3 + y4))) => ?_)
  · replace h := fps c h
    refine Wp.run 1 (f' := (d + 2, 282, 44, 0, 0, [some (fA 122), some (fI l1), _, _, _], [fI (l3 + y4)])) (h' := (156, fjl L, M)) rfl trivial ?_
    exact s_X12_done_j44_ok h H
  · replace h := fng c h
    obtain ⟨g0, h⟩ := fgd h
    refine Wp.run 6 (P := [0 ≤ l1 ∧ l1 < 9]) (f' := (d + 2, 282, 36, 0, 0, [some (fA 122), some (fI l1), _, _, _], [fI 8, fI (M 133 (l1).toNat), fA 122])) (h' := (156, fjl L, M)) rfl ?_ ?_
    · exact g0
    obtain ⟨y36, hy, h⟩ := fbd h
    refine Wp.call rfl (by decide) (s_X12_of_ok (d := d + 1) hy ?_)
    show Wp (d + 2, 282, 39, 0, 0, [some (fA 122), some (fI l1), _, _, _], [fI y36]) (156, fjl L, M) Q
    refine Wp.run 1 (f' := (d + 2, 282, 44, 0, 0, [some (fA 122), some (fI l1), _, _, _], [fI y36])) (h' := (156, fjl L, M)) rfl trivial ?_
    exact s_X12_done_j44_ok h H
abbrev s_X12_orders_mods : List (Nat × Option Nat) := [(122, some 46), (122, some 47), (122, some 48), (138, none), (139, none), (140, none), (141, none)]
noncomputable def s_X12_orders_j133 (M : fM) (l1 l2 l3 l4 t0 : Int) : Option ((Int × Int × Int × fM) ⊕ fM) :=
  if (0 ≤ l1 ∧ l1 < 10) then
    (s_X12_done M l4 t0 (M 139 (l1).toNat)).bind fun y146 =>
      (s_X12_way M l4 (-1)).bind fun y157 =>
        if fin (y146 + y157) then
          if (y146 + y157) ≤ (M 124 171) then
            if (0 ≤ l1 ∧ l1 < 10) ∧ fin (l2 + (fshl 1 l4)) ∧ (0 ≤ l4 ∧ l4 < 9) ∧ fin (l3 + (M 136 (l4).toNat)) then
              if fin (l1 + 1) ∧ (0 ≤ (l1 + 1) ∧ (l1 + 1) < 10) then
                (s_X12_consider (fup (fup (fup M 138 (l1).toNat l4) 139 (l1 + 1).toNat y146) 140 (l1 + 1).toNat 0) (l1 + 1) (l3 + (M 136 (l4).toNat))).bind fun y221 =>
                  some (.inl ((l1 + 1), (l2 + (fshl 1 l4)), (l3 + (M 136 (l4).toNat)), y221.2))
              else none
            else none
          else
            some (.inl (l1, l2, l3, M))
        else none
  else none
theorem s_X12_orders_j133_ok {d L : Nat} {M : fM} {l1 l2 l3 l4 t0 : Int} {o5 o6 : Option fV} {r : ((Int × Int × Int × fM) ⊕ fM)} {Q : fO → fH → Prop} (h : s_X12_orders_j133 M l1 l2 l3 l4 t0 = some r) (hC : ∀ (l1' l2' l3' : Int) (M' : fM) (o4' o5' o6' : Option fV), r = .inl (l1', l2', l3', M') → Wp (d + 3, 283, 38, 0, 0, [some (fA 122), some (fI l1'), some (fI l2'), some (fI l3'), o4', o5', o6'], []) (156, fjl L, M') Q) (hE : ∀ (e : fM) (o0' o1' o2' o3' o4' o5' o6' : Option fV), r = .inr e → Wp (d + 3, 283, 227, 0, 0, [o0', o1', o2', o3', o4', o5', o6'], []) (156, fjl L, e) Q) : Wp (d + 3, 283, 133, 0, 0, [some (fA 122), some (fI l1), some (fI l2), some (fI l3), some (fI l4), o5, o6], [fI t0]) (156, fjl L, M) Q := by
  unfold s_X12_orders_j133 at h
  obtain ⟨g0, h⟩ := fgd h
  refine Wp.run 8 (P := [0 ≤ l1 ∧ l1 < 10]) (f' := (d + 3, 283, 146, 0, 0, [some (fA 122), some (fI l1), some (fI l2), some (fI l3), some (fI l4), _, _], [fI (M 139 (l1).toNat), fI t0, fI l4, fA 122])) (h' := (156, fjl L, M)) rfl ?_ ?_
  · exact g0
  obtain ⟨y146, hy, h⟩ := fbd h
  refine Wp.call rfl (by decide) (s_X12_done_ok (d := d + 0) hy ?_)
  show Wp (d + 3, 283, 149, 0, 0, [some (fA 122), some (fI l1), some (fI l2), some (fI l3), some (fI l4), _, _], [fI y146]) (156, fjl L, M) Q
  refine Wp.run 5 (f' := (d + 3, 283, 157, 0, 0, [some (fA 122), some (fI l1), some (fI l2), some (fI l3), some (fI l4), _, some (fI y146)], [fI (-1), fI l4, fA 122, fI y146])) (h' := (156, fjl L, M)) rfl trivial ?_
  obtain ⟨y157, hy, h⟩ := fbd h
  refine Wp.call rfl (by decide) (s_X12_way_ok (d := d + 1) hy ?_)
  show Wp (d + 3, 283, 160, 0, 0, [some (fA 122), some (fI l1), some (fI l2), some (fI l3), some (fI l4), _, some (fI y146)], [fI y157, fI y146]) (156, fjl L, M) Q
  obtain ⟨g0, h⟩ := fgd h
  refine Wp.run 5 (P := [(0 : Int) ≤ 171 ∧ (171 : Int) < 1290]) (f' := (d + 3, 283, 169, 0, 0, [some (fA 122), some (fI l1), some (fI l2), some (fI l3), some (fI l4), _, some (fI y146)], [fI (M 124 171), fI (fw (y146 + y157))])) (h' := (156, fjl L, M)) rfl ?_ ?_
  · exact (by decide : (0 : Int) ≤ 171 ∧ (171 : Int) < 1290)
  rw [fw_id g0]
  refine Wp.br rfl (fun (c : (y146 + y157) ≤ (M 124 171)) => ?_) (fun (c : ¬ ((y146 + y157) ≤ (M 124 171))) => ?_)
  · replace h := fps c h
    obtain ⟨⟨g0, g1, g2, g3⟩, h⟩ := fgd h
    refine Wp.run 18 (P := [0 ≤ l1 ∧ l1 < 10, 0 ≤ l4 ∧ l4 < 9]) (f' := (d + 3, 283, 200, 0, 0, [some (fA 122), some (fI l1), some (fI (fw (l2 + (fshl 1 l4)))), some (fI (fw (l3 + (M 136 (l4).toNat)))), _, _, some (fI y146)], [])) (h' := (156, fjl L, (fup M 138 (l1).toNat l4))) rfl ?_ ?_
    · exact ⟨g0, g2⟩
    rw [fw_id g1, fw_id g3]
    obtain ⟨⟨g0, g1⟩, h⟩ := fgd h
    refine Wp.run 14 (P := [0 ≤ (fw (l1 + 1)) ∧ (fw (l1 + 1)) < 10, 0 ≤ (fw (l1 + 1)) ∧ (fw (l1 + 1)) < 10]) (f' := (d + 3, 283, 221, 0, 0, [some (fA 122), some (fI (fw (l1 + 1))), some (fI (l2 + (fshl 1 l4))), some (fI (l3 + (M 136 (l4).toNat))), _, _, _], [fI (l3 + (M 136 (l4).toNat)), fI (fw (l1 + 1)), fA 122])) (h' := (156, fjl L, (fup (fup (fup M 138 (l1).toNat l4) 139 (fw (l1 + 1)).toNat y146) 140 (fw (l1 + 1)).toNat 0))) rfl ?_ ?_
    · rw [fw_id g0]; exact ⟨g1, g1⟩
    rw [fw_id g0]
    obtain ⟨y221, hy, h⟩ := fbd h
    refine Wp.call rfl (by decide) (s_X12_consider_ok (d := d + 0) hy ?_)
    show Wp (d + 3, 283, 224, 0, 0, [some (fA 122), some (fI (l1 + 1)), some (fI (l2 + (fshl 1 l4))), some (fI (l3 + (M 136 (l4).toNat))), _, _, _], []) (156, fjl L, y221.2) Q
    refine Wp.run 1 (f' := (d + 3, 283, 38, 0, 0, [some (fA 122), some (fI (l1 + 1)), some (fI (l2 + (fshl 1 l4))), some (fI (l3 + (M 136 (l4).toNat))), _, _, _], [])) (h' := (156, fjl L, y221.2)) rfl trivial ?_
    exact hC _ _ _ _ _ _ _ (Option.some.inj h).symm
  · replace h := fng c h
    refine Wp.run 1 (f' := (d + 3, 283, 38, 0, 0, [some (fA 122), some (fI l1), some (fI l2), some (fI l3), _, _, _], [])) (h' := (156, fjl L, M)) rfl trivial ?_
    exact hC _ _ _ _ _ _ _ (Option.some.inj h).symm
theorem s_X12_orders_j133_fr {M : fM} {l1 l2 l3 l4 t0 : Int} {r : ((Int × Int × Int × fM) ⊕ fM)} (h : s_X12_orders_j133 M l1 l2 l3 l4 t0 = some r) : fSame s_X12_orders_mods M (Sum.elim (fun s => s.2.2.2) (fun e => e) r) := by
  unfold s_X12_orders_j133 at h
  replace h := (fgd h).2
  obtain ⟨y146, hy, h⟩ := fbd h
  obtain ⟨y157, hy, h⟩ := fbd h
  replace h := (fgd h).2
  by_cases c : (y146 + y157) ≤ (M 124 171)
  · replace h := fps c h
    replace h := (fgd h).2
    replace h := (fgd h).2
    obtain ⟨y221, hy, h⟩ := fbd h
    have k221 := fs_trans (l := s_X12_orders_mods) (fs_up (fs_up (fs_up fs_refl (.inl (by decide))) (.inl (by decide))) (.inl (by decide))) (fs_mono (l := s_X12_consider_mods) (by decide) (s_X12_consider_fr hy))
    obtain rfl := Option.some.inj h
    exact k221
  · replace h := fng c h
    obtain rfl := Option.some.inj h
    exact fs_refl
noncomputable def s_X12_orders_b38 (M : fM) (l1 l2 l3 : Int) : Option ((Int × Int × Int × fM) ⊕ fM) :=
  if l1 < 0 then
    some (.inr M)
  else
    if (0 ≤ l1 ∧ l1 < 10) ∧ fin ((M 140 (l1).toNat) + 1) then
      if (M 140 (l1).toNat) < (M 122 39) then
        if ¬ (fand (fshr l2 (M 140 (l1).toNat)) 1) = 1 then
          if ¬ l1 = 0 then
            if fin (l1 - 1) ∧ (0 ≤ (l1 - 1) ∧ (l1 - 1) < 10) then
              s_X12_orders_j133 (fup M 140 (l1).toNat ((M 140 (l1).toNat) + 1)) l1 l2 l3 (M 140 (l1).toNat) (M 138 (l1 - 1).toNat)
            else none
          else
            s_X12_orders_j133 (fup M 140 (l1).toNat ((M 140 (l1).toNat) + 1)) l1 l2 l3 (M 140 (l1).toNat) (-1)
        else
          some (.inl (l1, l2, l3, (fup M 140 (l1).toNat ((M 140 (l1).toNat) + 1))))
      else
        if fin (l1 + (-1)) then
          if (l1 + (-1)) < 0 then
            some (.inl ((l1 + (-1)), l2, l3, (fup M 140 (l1).toNat ((M 140 (l1).toNat) + 1))))
          else
            if (0 ≤ (l1 + (-1)) ∧ (l1 + (-1)) < 10) ∧ fin (l2 - (fshl 1 (M 138 (l1 + (-1)).toNat))) ∧ (0 ≤ (M 138 (l1 + (-1)).toNat) ∧ (M 138 (l1 + (-1)).toNat) < 9) ∧ fin (l3 - (M 136 (M 138 (l1 + (-1)).toNat).toNat)) then
              some (.inl ((l1 + (-1)), (l2 - (fshl 1 (M 138 (l1 + (-1)).toNat))), (l3 - (M 136 (M 138 (l1 + (-1)).toNat).toNat)), (fup M 140 (l1).toNat ((M 140 (l1).toNat) + 1))))
            else none
        else none
    else none
theorem s_X12_orders_b38_ok {d L : Nat} {M : fM} {l1 l2 l3 : Int} {o4 o5 o6 : Option fV} {r : ((Int × Int × Int × fM) ⊕ fM)} {Q : fO → fH → Prop} (h : s_X12_orders_b38 M l1 l2 l3 = some r) (hC : ∀ (l1' l2' l3' : Int) (M' : fM) (o4' o5' o6' : Option fV), r = .inl (l1', l2', l3', M') → Wp (d + 3, 283, 38, 0, 0, [some (fA 122), some (fI l1'), some (fI l2'), some (fI l3'), o4', o5', o6'], []) (156, fjl L, M') Q) (hE : ∀ (e : fM) (o0' o1' o2' o3' o4' o5' o6' : Option fV), r = .inr e → Wp (d + 3, 283, 227, 0, 0, [o0', o1', o2', o3', o4', o5', o6'], []) (156, fjl L, e) Q) : Wp (d + 3, 283, 38, 0, 0, [some (fA 122), some (fI l1), some (fI l2), some (fI l3), o4, o5, o6], []) (156, fjl L, M) Q := by
  unfold s_X12_orders_b38 at h
  refine Wp.run 1 (f' := (d + 3, 283, 39, 0, 0, [some (fA 122), some (fI l1), some (fI l2), some (fI l3), _, _, _], [fI l1])) (h' := (156, fjl L, M)) rfl trivial ?_
  refine Wp.br rfl (fun (c : l1 < 0) => ?_) (fun (c : ¬ (l1 < 0)) => ?_)
  · replace h := fps c h
    exact hE _ _ _ _ _ _ _ _ (Option.some.inj h).symm
  · replace h := fng c h
    obtain ⟨⟨g0, g1⟩, h⟩ := fgd h
    refine Wp.run 13 (P := [0 ≤ l1 ∧ l1 < 10, 0 ≤ l1 ∧ l1 < 10, 0 ≤ l1 ∧ l1 < 10]) (f' := (d + 3, 283, 60, 0, 0, [some (fA 122), some (fI l1), some (fI l2), some (fI l3), some (fI (M 140 (l1).toNat)), _, _], [])) (h' := (156, fjl L, (fup M 140 (l1).toNat (fw ((M 140 (l1).toNat) + 1))))) rfl ?_ ?_
    · exact ⟨g0, g0, g0⟩
    rw [fw_id g1]
    refine Wp.run 3 (f' := (d + 3, 283, 66, 0, 0, [some (fA 122), some (fI l1), some (fI l2), some (fI l3), some (fI (M 140 (l1).toNat)), _, _], [fI (M 122 39), fI (M 140 (l1).toNat)])) (h' := (156, fjl L, (fup M 140 (l1).toNat ((M 140 (l1).toNat) + 1)))) rfl trivial ?_
    refine Wp.br rfl (fun (c : (M 140 (l1).toNat) < (M 122 39)) => ?_) (fun (c : ¬ ((M 140 (l1).toNat) < (M 122 39))) => ?_)
    · replace h := fps c h
      refine Wp.run 6 (f' := (d + 3, 283, 111, 0, 0, [some (fA 122), some (fI l1), some (fI l2), some (fI l3), some (fI (M 140 (l1).toNat)), _, _], [fI 1, fI (fand (fshr l2 (M 140 (l1).toNat)) 1)])) (h' := (156, fjl L, (fup M 140 (l1).toNat ((M 140 (l1).toNat) + 1)))) rfl trivial ?_
      refine Wp.br rfl (fun (c : ¬ (fand (fshr l2 (M 140 (l1).toNat)) 1) = 1) => ?_) (fun (c : ¬ (¬ (fand (fshr l2 (M 140 (l1).toNat)) 1) = 1)) => ?_)
      · replace h := fps c h
        refine Wp.run 1 (f' := (d + 3, 283, 118, 0, 0, [some (fA 122), some (fI l1), some (fI l2), some (fI l3), some (fI (M 140 (l1).toNat)), _, _], [fI l1])) (h' := (156, fjl L, (fup M 140 (l1).toNat ((M 140 (l1).toNat) + 1)))) rfl trivial ?_
        refine Wp.br rfl (fun (c : ¬ l1 = 0) => ?_) (fun (c : ¬ (¬ l1 = 0)) => ?_)
        · replace h := fps c h
          obtain ⟨⟨g0, g1⟩, h⟩ := fgd h
          refine Wp.run 6 (P := [0 ≤ (fw (l1 - 1)) ∧ (fw (l1 - 1)) < 10]) (f' := (d + 3, 283, 133, 0, 0, [some (fA 122), some (fI l1), some (fI l2), some (fI l3), some (fI (M 140 (l1).toNat)), _, _], [fI (M 138 (fw (l1 - 1)).toNat)])) (h' := (156, fjl L, (fup M 140 (l1).toNat ((M 140 (l1).toNat) + 1)))) rfl ?_ ?_
          · rw [fw_id g0]; exact g1
          rw [fw_id g0]
          exact s_X12_orders_j133_ok h hC hE
        · replace h := fng c h
          refine Wp.run 2 (f' := (d + 3, 283, 133, 0, 0, [some (fA 122), some (fI l1), some (fI l2), some (fI l3), some (fI (M 140 (l1).toNat)), _, _], [fI (-1)])) (h' := (156, fjl L, (fup M 140 (l1).toNat ((M 140 (l1).toNat) + 1)))) rfl trivial ?_
          exact s_X12_orders_j133_ok h hC hE
      · replace h := fng c h
        refine Wp.run 1 (f' := (d + 3, 283, 38, 0, 0, [some (fA 122), some (fI l1), some (fI l2), some (fI l3), _, _, _], [])) (h' := (156, fjl L, (fup M 140 (l1).toNat ((M 140 (l1).toNat) + 1)))) rfl trivial ?_
        exact hC _ _ _ _ _ _ _ (Option.some.inj h).symm
    · replace h := fng c h
      obtain ⟨g0, h⟩ := fgd h
      refine Wp.run 2 (f' := (d + 3, 283, 73, 0, 0, [some (fA 122), some (fI (fw (l1 + (-1)))), some (fI l2), some (fI l3), _, _, _], [fI (fw (l1 + (-1)))])) (h' := (156, fjl L, (fup M 140 (l1).toNat ((M 140 (l1).toNat) + 1)))) rfl trivial ?_
      rw [fw_id g0]
      refine Wp.br rfl (fun (c : (l1 + (-1)) < 0) => ?_) (fun (c : ¬ ((l1 + (-1)) < 0)) => ?_)
      · replace h := fps c h
        exact hC _ _ _ _ _ _ _ (Option.some.inj h).symm
      · replace h := fng c h
        obtain ⟨⟨g0, g1, g2, g3⟩, h⟩ := fgd h
        refine Wp.run 19 (P := [0 ≤ (l1 + (-1)) ∧ (l1 + (-1)) < 10, 0 ≤ (l1 + (-1)) ∧ (l1 + (-1)) < 10, 0 ≤ (M 138 (l1 + (-1)).toNat) ∧ (M 138 (l1 + (-1)).toNat) < 9]) (f' := (d + 3, 283, 101, 0, 0, [some (fA 122), some (fI (l1 + (-1))), some (fI (fw (l2 - (fshl 1 (M 138 (l1 + (-1)).toNat))))), some (fI (fw (l3 - (M 136 (M 138 (l1 + (-1)).toNat).toNat)))), _, _, _], [])) (h' := (156, fjl L, (fup M 140 (l1).toNat ((M 140 (l1).toNat) + 1)))) rfl ?_ ?_
        · exact ⟨g0, g0, g2⟩
        rw [fw_id g1, fw_id g3]
        refine Wp.run 1 (f' := (d + 3, 283, 38, 0, 0, [some (fA 122), some (fI (l1 + (-1))), some (fI (l2 - (fshl 1 (M 138 (l1 + (-1)).toNat)))), some (fI (l3 - (M 136 (M 138 (l1 + (-1)).toNat).toNat))), _, _, _], [])) (h' := (156, fjl L, (fup M 140 (l1).toNat ((M 140 (l1).toNat) + 1)))) rfl trivial ?_
        exact hC _ _ _ _ _ _ _ (Option.some.inj h).symm
theorem s_X12_orders_b38_fr {M : fM} {l1 l2 l3 : Int} {r : ((Int × Int × Int × fM) ⊕ fM)} (h : s_X12_orders_b38 M l1 l2 l3 = some r) : fSame s_X12_orders_mods M (Sum.elim (fun s => s.2.2.2) (fun e => e) r) := by
  unfold s_X12_orders_b38 at h
  by_cases c : l1 < 0
  · replace h := fps c h
    obtain rfl := Option.some.inj h
    exact fs_refl
  · replace h := fng c h
    replace h := (fgd h).2
    by_cases c : (M 140 (l1).toNat) < (M 122 39)
    · replace h := fps c h
      by_cases c : ¬ (fand (fshr l2 (M 140 (l1).toNat)) 1) = 1
      · replace h := fps c h
        by_cases c : ¬ l1 = 0
        · replace h := fps c h
          replace h := (fgd h).2
          exact fs_trans (fs_up fs_refl (.inl (by decide))) (s_X12_orders_j133_fr h)
        · replace h := fng c h
          exact fs_trans (fs_up fs_refl (.inl (by decide))) (s_X12_orders_j133_fr h)
      · replace h := fng c h
        obtain rfl := Option.some.inj h
        exact fs_up fs_refl (.inl (by decide))
    · replace h := fng c h
      replace h := (fgd h).2
      by_cases c : (l1 + (-1)) < 0
      · replace h := fps c h
        obtain rfl := Option.some.inj h
        exact fs_up fs_refl (.inl (by decide))
      · replace h := fng c h
        replace h := (fgd h).2
        obtain rfl := Option.some.inj h
        exact fs_up fs_refl (.inl (by decide))
noncomputable def s_X12_orders_l38 (s : (Int × Int × Int × fM)) : Option fM := fLp (fun s => s_X12_orders_b38 s.2.2.2 s.1 s.2.1 s.2.2.1) s
theorem s_X12_orders_l38_ok {d L : Nat} {M : fM} {l1 l2 l3 : Int} {o4 o5 o6 : Option fV} {r : fM} {Q : fO → fH → Prop} (h : s_X12_orders_l38 (l1, l2, l3, M) = some r) (hE : ∀ (e : fM) (o0' o1' o2' o3' o4' o5' o6' : Option fV), r = e → Wp (d + 3, 283, 227, 0, 0, [o0', o1', o2', o3', o4', o5', o6'], []) (156, fjl L, e) Q) : Wp (d + 3, 283, 38, 0, 0, [some (fA 122), some (fI l1), some (fI l2), some (fI l3), o4, o5, o6], []) (156, fjl L, M) Q := by
  refine fLp_wp (W := fun s => ∀ (o4 o5 o6 : Option fV), Wp (d + 3, 283, 38, 0, 0, [some (fA 122), some (fI s.1), some (fI s.2.1), some (fI s.2.2.1), o4, o5, o6], []) (156, fjl L, s.2.2.2) Q) (e := r) ?_ h _ _ _
  intro s r1 h hC hX o4 o5 o6
  refine s_X12_orders_b38_ok (d := d) h (fun a0 a1 a2 a3 _ _ _ e1 => ?_) (fun e u0 u1 u2 u3 u4 u5 u6 e1 => hE e u0 u1 u2 u3 u4 u5 u6 (hX _ e1).symm)
  exact hC _ e1 _ _ _
theorem s_X12_orders_l38_fr {M : fM} {l1 l2 l3 : Int} {r : fM} (h : s_X12_orders_l38 (l1, l2, l3, M) = some r) : fSame s_X12_orders_mods M ((fun e => e) r) := by
  refine fLp_inv (I := fun s => fSame s_X12_orders_mods M s.2.2.2) (J := fun r => fSame s_X12_orders_mods M ((fun e => e) r)) h fs_refl (fun s s1 hs hb => ?_) (fun s e hs hb => ?_)
  · exact fs_trans hs (s_X12_orders_b38_fr hb)
  · exact fs_trans hs (s_X12_orders_b38_fr hb)
noncomputable def s_X12_orders (M : fM) : Option (Unit × fM) :=
  (s_X12_consider (fup (fup M 122 47 (-1)) 139 0 (M 124 170)) 0 0).bind fun y28 =>
    (s_X12_orders_l38 (0, 0, 0, (fup y28.2 140 0 0))).bind fun e38 =>
      some ((), e38)
theorem s_X12_orders_ok {d L : Nat} {M : fM} {r : (Unit × fM)} {Q : fO → fH → Prop} (h : s_X12_orders M = some r) (H : Q (oV r.1) (156, fjl L, r.2)) : Wp (d + 3, 283, 0, 0, 0, [some (fA 122), none, none, none, none, none, none], []) (156, fjl L, M) Q := by
  unfold s_X12_orders at h
  refine Wp.run 17 (P := [(0 : Int) ≤ 170 ∧ (170 : Int) < 1290, (0 : Int) ≤ 0 ∧ (0 : Int) < 10]) (f' := (d + 3, 283, 25, 0, 0, [some (fA 122), some (fI 0), some (fI 0), some (fI 0), _, _, _], [])) (h' := (156, fjl L, (fup (fup M 122 47 (-1)) 139 0 (M 124 170)))) rfl ?_ ?_
  · exact ⟨(by decide : (0 : Int) ≤ 170 ∧ (170 : Int) < 1290), (by decide : (0 : Int) ≤ 0 ∧ (0 : Int) < 10)⟩
  refine Wp.run 3 (f' := (d + 3, 283, 28, 0, 0, [some (fA 122), some (fI 0), some (fI 0), some (fI 0), _, _, _], [fI 0, fI 0, fA 122])) (h' := (156, fjl L, (fup (fup M 122 47 (-1)) 139 0 (M 124 170)))) rfl trivial ?_
  obtain ⟨y28, hy, h⟩ := fbd h
  refine Wp.call rfl (by decide) (s_X12_consider_ok (d := d + 0) hy ?_)
  show Wp (d + 3, 283, 31, 0, 0, [some (fA 122), some (fI 0), some (fI 0), some (fI 0), _, _, _], []) (156, fjl L, y28.2) Q
  refine Wp.run 5 (P := [(0 : Int) ≤ 0 ∧ (0 : Int) < 10]) (f' := (d + 3, 283, 38, 0, 0, [some (fA 122), some (fI 0), some (fI 0), some (fI 0), _, _, _], [])) (h' := (156, fjl L, (fup y28.2 140 0 0))) rfl ?_ ?_
  · exact (by decide : (0 : Int) ≤ 0 ∧ (0 : Int) < 10)
  obtain ⟨e38, hy, h⟩ := fbd h
  refine s_X12_orders_l38_ok hy (fun x u0 u1 u2 u3 u4 u5 u6 ex => ?_)
  cases ex
  show Wp (d + 3, 283, 227, 0, 0, [u0, u1, u2, u3, u4, u5, u6], []) (156, fjl L, e38) Q
  obtain rfl := Option.some.inj h
  exact Wp.done rfl (by decide) H
theorem s_X12_orders_fr {M : fM} {r : (Unit × fM)} (h : s_X12_orders M = some r) : fSame s_X12_orders_mods M r.2 := by
  unfold s_X12_orders at h
  obtain ⟨y28, hy, h⟩ := fbd h
  have k28 := fs_trans (l := s_X12_orders_mods) (fs_up (fs_up fs_refl (.inr (by decide))) (.inl (by decide))) (fs_mono (l := s_X12_consider_mods) (by decide) (s_X12_consider_fr hy))
  obtain ⟨e38, hy, h⟩ := fbd h
  have k38 := fs_trans (l := s_X12_orders_mods) (fs_up k28 (.inl (by decide))) (s_X12_orders_l38_fr hy)
  obtain rfl := Option.some.inj h
  exact k38
abbrev s_X12_round_mods : List (Nat × Option Nat) := [(122, some 0), (122, some 2), (122, some 3), (122, some 4), (122, some 5), (122, some 24), (122, some 25), (122, some 26), (122, some 27), (122, some 28), (122, some 39), (122, some 40), (122, some 41), (122, some 46), (122, some 47), (122, some 48), (122, some 49), (122, some 51), (128, none), (129, none), (133, none), (134, none), (135, none), (136, none), (137, none), (138, none), (139, none), (140, none), (141, none), (142, none)]
noncomputable def s_X12_round_b50 (M : fM) (l3 : Int) : Option ((Int × fM) ⊕ fM) :=
  if (M 122 46) ≤ l3 then
    some (.inr M)
  else
    if (0 ≤ l3 ∧ l3 < 9) ∧ fin (l3 + 1) then
      some (.inl ((l3 + 1), (fup M 142 (l3).toNat (M 141 (l3).toNat))))
    else none
theorem s_X12_round_b50_ok {d L : Nat} {M : fM} {l3 : Int} {o1 o2 : Option fV} {r : ((Int × fM) ⊕ fM)} {Q : fO → fH → Prop} (h : s_X12_round_b50 M l3 = some r) (hC : ∀ (l3' : Int) (M' : fM) (o1' o2' : Option fV), r = .inl (l3', M') → Wp (d + 6, 285, 50, 0, 0, [some (fA 122), o1', o2', some (fI l3')], []) (156, fjl L, M') Q) (hE : ∀ (e : fM) (o1' o2' o3' : Option fV), r = .inr e → Wp (d + 6, 285, 76, 0, 0, [some (fA 122), o1', o2', o3'], []) (156, fjl L, e) Q) : Wp (d + 6, 285, 50, 0, 0, [some (fA 122), o1, o2, some (fI l3)], []) (156, fjl L, M) Q := by
  unfold s_X12_round_b50 at h
  refine Wp.run 3 (f' := (d + 6, 285, 55, 0, 0, [some (fA 122), _, _, some (fI l3)], [fI (M 122 46), fI l3])) (h' := (156, fjl L, M)) rfl trivial ?_
  refine Wp.br rfl (fun (c : (M 122 46) ≤ l3) => ?_) (fun (c : ¬ ((M 122 46) ≤ l3)) => ?_)
  · replace h := fps c h
    exact hE _ _ _ _ (Option.some.inj h).symm
  · replace h := fng c h
    obtain ⟨⟨g0, g1⟩, h⟩ := fgd h
    refine Wp.run 10 (P := [0 ≤ l3 ∧ l3 < 9, 0 ≤ l3 ∧ l3 < 9]) (f' := (d + 6, 285, 50, 0, 0, [some (fA 122), _, _, some (fI (fw (l3 + 1)))], [])) (h' := (156, fjl L, (fup M 142 (l3).toNat (M 141 (l3).toNat)))) rfl ?_ ?_
    · exact ⟨g0, g0⟩
    rw [fw_id g1]
    exact hC _ _ _ _ (Option.some.inj h).symm
theorem s_X12_round_b50_fr {M : fM} {l3 : Int} {r : ((Int × fM) ⊕ fM)} (h : s_X12_round_b50 M l3 = some r) : fSame s_X12_round_mods M (Sum.elim (fun s => s.2) (fun e => e) r) := by
  unfold s_X12_round_b50 at h
  by_cases c : (M 122 46) ≤ l3
  · replace h := fps c h
    obtain rfl := Option.some.inj h
    exact fs_refl
  · replace h := fng c h
    replace h := (fgd h).2
    obtain rfl := Option.some.inj h
    exact fs_up fs_refl (.inl (by decide))
noncomputable def s_X12_round_l50 (s : (Int × fM)) : Option fM := fLp (fun s => s_X12_round_b50 s.2 s.1) s
theorem s_X12_round_l50_ok {d L : Nat} {M : fM} {l3 : Int} {o1 o2 : Option fV} {r : fM} {Q : fO → fH → Prop} (h : s_X12_round_l50 (l3, M) = some r) (hE : ∀ (e : fM) (o1' o2' o3' : Option fV), r = e → Wp (d + 6, 285, 76, 0, 0, [some (fA 122), o1', o2', o3'], []) (156, fjl L, e) Q) : Wp (d + 6, 285, 50, 0, 0, [some (fA 122), o1, o2, some (fI l3)], []) (156, fjl L, M) Q := by
  refine fLp_wp (W := fun s => ∀ (o1 o2 : Option fV), Wp (d + 6, 285, 50, 0, 0, [some (fA 122), o1, o2, some (fI s.1)], []) (156, fjl L, s.2) Q) (e := r) ?_ h _ _
  intro s r1 h hC hX o1 o2
  refine s_X12_round_b50_ok (d := d) h (fun a0 a1 _ _ e1 => ?_) (fun e u0 u1 u2 e1 => hE e u0 u1 u2 (hX _ e1).symm)
  exact hC _ e1 _ _
theorem s_X12_round_l50_fr {M : fM} {l3 : Int} {r : fM} (h : s_X12_round_l50 (l3, M) = some r) : fSame s_X12_round_mods M ((fun e => e) r) := by
  refine fLp_inv (I := fun s => fSame s_X12_round_mods M s.2) (J := fun r => fSame s_X12_round_mods M ((fun e => e) r)) h fs_refl (fun s s1 hs hb => ?_) (fun s e hs hb => ?_)
  · exact fs_trans hs (s_X12_round_b50_fr hb)
  · exact fs_trans hs (s_X12_round_b50_fr hb)
noncomputable def s_X12_round (M : fM) (l1 l2 : Int) : Option (Int × fM) :=
  (s_X12_taken (fup M 122 0 0) 1240).bind fun y9 =>
    (s_X12_isTuner y9.2 l1).bind fun y14 =>
      if y14 = 0 then
        some ((-1), y9.2)
      else
        (s_X12_tells y9.2 l2 1).bind fun y23 =>
          if ¬ y23.1 = 0 then
            (s_X12_live y23.2 l1).bind fun y33 =>
              (s_X12_orders y33.2).bind fun y37 =>
                (s_X12_round_l50 (0, (fup y37.2 122 51 (y37.2 122 46)))).bind fun e50 =>
                  some ((e50 122 47), (fup e50 122 49 (e50 122 48)))
          else
            some ((-1), y23.2)
theorem s_X12_round_ok {d L : Nat} {M : fM} {l1 l2 : Int} {r : (Int × fM)} {Q : fO → fH → Prop} (h : s_X12_round M l1 l2 = some r) (H : Q (oI r.1) (156, fjl L, r.2)) : Wp (d + 6, 285, 0, 0, 0, [some (fA 122), some (fI l1), some (fI l2), none], []) (156, fjl L, M) Q := by
  unfold s_X12_round at h
  refine Wp.run 5 (f' := (d + 6, 285, 9, 0, 0, [some (fA 122), some (fI l1), some (fI l2), _], [fI 1240, fA 122])) (h' := (156, fjl L, (fup M 122 0 0))) rfl trivial ?_
  obtain ⟨y9, hy, h⟩ := fbd h
  refine Wp.call rfl (by decide) (s_X12_taken_ok (d := d + 5) hy ?_)
  show Wp (d + 6, 285, 12, 0, 0, [some (fA 122), some (fI l1), some (fI l2), _], []) (156, fjl L, y9.2) Q
  refine Wp.run 2 (f' := (d + 6, 285, 14, 0, 0, [some (fA 122), some (fI l1), some (fI l2), _], [fI l1, fA 122])) (h' := (156, fjl L, y9.2)) rfl trivial ?_
  obtain ⟨y14, hy, h⟩ := fbd h
  refine Wp.call rfl (by decide) (s_X12_isTuner_ok (d := d + 4) hy ?_)
  show Wp (d + 6, 285, 17, 0, 0, [some (fA 122), some (fI l1), some (fI l2), _], [fI y14]) (156, fjl L, y9.2) Q
  refine Wp.br rfl (fun (c : y14 = 0) => ?_) (fun (c : ¬ (y14 = 0)) => ?_)
  · replace h := fps c h
    refine Wp.run 1 (f' := (d + 6, 285, 30, 0, 0, [_, _, _, _], [fI (-1)])) (h' := (156, fjl L, y9.2)) rfl trivial ?_
    obtain rfl := Option.some.inj h
    exact Wp.done rfl (by decide) H
  · replace h := fng c h
    refine Wp.run 3 (f' := (d + 6, 285, 23, 0, 0, [some (fA 122), some (fI l1), _, _], [fI 1, fI l2, fA 122])) (h' := (156, fjl L, y9.2)) rfl trivial ?_
    obtain ⟨y23, hy, h⟩ := fbd h
    refine Wp.call rfl (by decide) (s_X12_tells_ok (d := d + 0) hy ?_)
    show Wp (d + 6, 285, 26, 0, 0, [some (fA 122), some (fI l1), _, _], [fI y23.1]) (156, fjl L, y23.2) Q
    refine Wp.br rfl (fun (c : ¬ y23.1 = 0) => ?_) (fun (c : ¬ (¬ y23.1 = 0)) => ?_)
    · replace h := fps c h
      refine Wp.run 2 (f' := (d + 6, 285, 33, 0, 0, [some (fA 122), _, _, _], [fI l1, fA 122])) (h' := (156, fjl L, y23.2)) rfl trivial ?_
      obtain ⟨y33, hy, h⟩ := fbd h
      refine Wp.call rfl (by decide) (s_X12_live_ok (d := d + 5) hy ?_)
      show Wp (d + 6, 285, 36, 0, 0, [some (fA 122), _, _, _], []) (156, fjl L, y33.2) Q
      refine Wp.run 1 (f' := (d + 6, 285, 37, 0, 0, [some (fA 122), _, _, _], [fA 122])) (h' := (156, fjl L, y33.2)) rfl trivial ?_
      obtain ⟨y37, hy, h⟩ := fbd h
      refine Wp.call rfl (by decide) (s_X12_orders_ok (d := d + 2) hy ?_)
      show Wp (d + 6, 285, 40, 0, 0, [some (fA 122), _, _, _], []) (156, fjl L, y37.2) Q
      refine Wp.run 6 (f' := (d + 6, 285, 50, 0, 0, [some (fA 122), _, _, some (fI 0)], [])) (h' := (156, fjl L, (fup y37.2 122 51 (y37.2 122 46)))) rfl trivial ?_
      obtain ⟨e50, hy, h⟩ := fbd h
      refine s_X12_round_l50_ok hy (fun x u1 u2 u3 ex => ?_)
      cases ex
      show Wp (d + 6, 285, 76, 0, 0, [some (fA 122), u1, u2, u3], []) (156, fjl L, e50) Q
      refine Wp.run 6 (f' := (d + 6, 285, 88, 0, 0, [_, _, _, _], [fI (e50 122 47)])) (h' := (156, fjl L, (fup e50 122 49 (e50 122 48)))) rfl trivial ?_
      obtain rfl := Option.some.inj h
      exact Wp.done rfl (by decide) H
    · replace h := fng c h
      refine Wp.run 1 (f' := (d + 6, 285, 30, 0, 0, [_, _, _, _], [fI (-1)])) (h' := (156, fjl L, y23.2)) rfl trivial ?_
      obtain rfl := Option.some.inj h
      exact Wp.done rfl (by decide) H
theorem s_X12_round_fr {M : fM} {l1 l2 : Int} {r : (Int × fM)} (h : s_X12_round M l1 l2 = some r) : fSame s_X12_round_mods M r.2 := by
  unfold s_X12_round at h
  obtain ⟨y9, hy, h⟩ := fbd h
  have k9 := fs_trans (l := s_X12_round_mods) (fs_up fs_refl (.inr (by decide))) (fs_mono (l := s_X12_taken_mods) (by decide) (s_X12_taken_fr hy))
  obtain ⟨y14, hy, h⟩ := fbd h
  by_cases c : y14 = 0
  · replace h := fps c h
    obtain rfl := Option.some.inj h
    exact k9
  · replace h := fng c h
    obtain ⟨y23, hy, h⟩ := fbd h
    have k23 := fs_trans (l := s_X12_round_mods) k9 (fs_mono (l := s_X12_tells_mods) (by decide) (s_X12_tells_fr hy))
    by_cases c : ¬ y23.1 = 0
    · replace h := fps c h
      obtain ⟨y33, hy, h⟩ := fbd h
      have k33 := fs_trans (l := s_X12_round_mods) k23 (fs_mono (l := s_X12_live_mods) (by decide) (s_X12_live_fr hy))
      obtain ⟨y37, hy, h⟩ := fbd h
      have k37 := fs_trans (l := s_X12_round_mods) k33 (fs_mono (l := s_X12_orders_mods) (by decide) (s_X12_orders_fr hy))
      obtain ⟨e50, hy, h⟩ := fbd h
      have k50 := fs_trans (l := s_X12_round_mods) (fs_up k37 (.inr (by decide))) (s_X12_round_l50_fr hy)
      obtain rfl := Option.some.inj h
      exact fs_up k50 (.inr (by decide))
    · replace h := fng c h
      obtain rfl := Option.some.inj h
      exact k23
noncomputable def s_X11_roundAt (M : fM) (l1 : Int) : Option Int :=
  (s_X11_isWithin M l1 (M 54 15)).bind fun y8 =>
    if y8 = 0 then
      some (-1)
    else
      if (0 ≤ l1 ∧ l1 < 9) then
        some (M 66 (l1).toNat)
      else none
theorem s_X11_roundAt_ok {d L : Nat} {M : fM} {l1 : Int} {r : Int} {Q : fO → fH → Prop} (h : s_X11_roundAt M l1 = some r) (H : Q (oI r) (156, fjl L, M)) : Wp (d + 1, 171, 0, 0, 0, [some (fA 0), some (fI l1)], []) (156, fjl L, M) Q := by
  unfold s_X11_roundAt at h
  refine Wp.run 4 (f' := (d + 1, 171, 8, 0, 0, [some (fA 0), some (fI l1)], [fI (M 54 15), fI l1])) (h' := (156, fjl L, M)) rfl trivial ?_
  obtain ⟨y8, hy, h⟩ := fbd h
  refine Wp.call rfl (by decide) (s_X11_isWithin_ok (d := d + 0) hy ?_)
  show Wp (d + 1, 171, 11, 0, 0, [some (fA 0), some (fI l1)], [fI y8]) (156, fjl L, M) Q
  refine Wp.br rfl (fun (c : y8 = 0) => ?_) (fun (c : ¬ (y8 = 0)) => ?_)
  · replace h := fps c h
    refine Wp.run 1 (f' := (d + 1, 171, 27, 0, 0, [_, _], [fI (-1)])) (h' := (156, fjl L, M)) rfl trivial ?_
    obtain rfl := Option.some.inj h
    exact Wp.done rfl (by decide) H
  · replace h := fng c h
    obtain ⟨g0, h⟩ := fgd h
    refine Wp.run 6 (P := [0 ≤ l1 ∧ l1 < 9]) (f' := (d + 1, 171, 27, 0, 0, [_, _], [fI (M 66 (l1).toNat)])) (h' := (156, fjl L, M)) rfl ?_ ?_
    · exact g0
    obtain rfl := Option.some.inj h
    exact Wp.done rfl (by decide) H
abbrev s_X12_roundAt_mods : List (Nat × Option Nat) := [(122, some 0)]
noncomputable def s_X12_roundAt (M : fM) (l1 : Int) : Option (Int × fM) :=
  if fin ((M 122 51) - 1) then
    (s_X12_isIn (fup M 122 0 0) l1 0 ((M 122 51) - 1)).bind fun y13 =>
      if y13 = 0 then
        some ((-1), (fup M 122 0 0))
      else
        if (0 ≤ l1 ∧ l1 < 9) then
          some ((M 142 (l1).toNat), (fup M 122 0 0))
        else none
  else none
theorem s_X12_roundAt_ok {d L : Nat} {M : fM} {l1 : Int} {r : (Int × fM)} {Q : fO → fH → Prop} (h : s_X12_roundAt M l1 = some r) (H : Q (oI r.1) (156, fjl L, r.2)) : Wp (d + 1, 286, 0, 0, 0, [some (fA 122), some (fI l1)], []) (156, fjl L, M) Q := by
  unfold s_X12_roundAt at h
  obtain ⟨g0, h⟩ := fgd h
  refine Wp.run 9 (f' := (d + 1, 286, 13, 0, 0, [some (fA 122), some (fI l1)], [fI (fw ((M 122 51) - 1)), fI 0, fI l1])) (h' := (156, fjl L, (fup M 122 0 0))) rfl trivial ?_
  rw [fw_id g0]
  obtain ⟨y13, hy, h⟩ := fbd h
  refine Wp.call rfl (by decide) (s_X12_isIn_ok (d := d + 0) hy ?_)
  show Wp (d + 1, 286, 16, 0, 0, [some (fA 122), some (fI l1)], [fI y13]) (156, fjl L, (fup M 122 0 0)) Q
  refine Wp.br rfl (fun (c : y13 = 0) => ?_) (fun (c : ¬ (y13 = 0)) => ?_)
  · replace h := fps c h
    refine Wp.run 1 (f' := (d + 1, 286, 29, 0, 0, [_, _], [fI (-1)])) (h' := (156, fjl L, (fup M 122 0 0))) rfl trivial ?_
    obtain rfl := Option.some.inj h
    exact Wp.done rfl (by decide) H
  · replace h := fng c h
    obtain ⟨g0, h⟩ := fgd h
    refine Wp.run 5 (P := [0 ≤ l1 ∧ l1 < 9]) (f' := (d + 1, 286, 29, 0, 0, [_, _], [fI (M 142 (l1).toNat)])) (h' := (156, fjl L, (fup M 122 0 0))) rfl ?_ ?_
    · exact g0
    obtain rfl := Option.some.inj h
    exact Wp.done rfl (by decide) H
theorem s_X12_roundAt_fr {M : fM} {l1 : Int} {r : (Int × fM)} (h : s_X12_roundAt M l1 = some r) : fSame s_X12_roundAt_mods M r.2 := by
  unfold s_X12_roundAt at h
  replace h := (fgd h).2
  obtain ⟨y13, hy, h⟩ := fbd h
  by_cases c : y13 = 0
  · replace h := fps c h
    obtain rfl := Option.some.inj h
    exact fs_up fs_refl (.inr (by decide))
  · replace h := fng c h
    replace h := (fgd h).2
    obtain rfl := Option.some.inj h
    exact fs_up fs_refl (.inr (by decide))
noncomputable def s_X11_home (M : fM) : Option Int :=
  some (M 54 16)
theorem s_X11_home_ok {d L : Nat} {M : fM} {r : Int} {Q : fO → fH → Prop} (h : s_X11_home M = some r) (H : Q (oI r) (156, fjl L, M)) : Wp (d + 0, 172, 0, 0, 0, [some (fA 0)], []) (156, fjl L, M) Q := by
  unfold s_X11_home at h
  refine Wp.run 3 (f' := (d + 0, 172, 7, 0, 0, [_], [fI (M 54 16)])) (h' := (156, fjl L, M)) rfl trivial ?_
  obtain rfl := Option.some.inj h
  exact Wp.done rfl (by decide) H
abbrev s_X12_home_mods : List (Nat × Option Nat) := [(122, some 0)]
noncomputable def s_X12_home (M : fM) : Option (Int × fM) :=
  some ((M 122 49), (fup M 122 0 0))
theorem s_X12_home_ok {d L : Nat} {M : fM} {r : (Int × fM)} {Q : fO → fH → Prop} (h : s_X12_home M = some r) (H : Q (oI r.1) (156, fjl L, r.2)) : Wp (d + 0, 287, 0, 0, 0, [some (fA 122)], []) (156, fjl L, M) Q := by
  unfold s_X12_home at h
  refine Wp.run 5 (f' := (d + 0, 287, 9, 0, 0, [_], [fI (M 122 49)])) (h' := (156, fjl L, (fup M 122 0 0))) rfl trivial ?_
  obtain rfl := Option.some.inj h
  exact Wp.done rfl (by decide) H
theorem s_X12_home_fr {M : fM} {r : (Int × fM)} (h : s_X12_home M = some r) : fSame s_X12_home_mods M r.2 := by
  unfold s_X12_home at h
  obtain rfl := Option.some.inj h
  exact fs_up fs_refl (.inr (by decide))
abbrev s_X7_walkAsTold_mods : List (Nat × Option Nat) := [(54, some 17), (54, some 18), (56, none), (57, none), (58, none), (59, none)]
noncomputable def s_X7_walkAsTold_b29 (M : fM) (l1 l4 l5 l6 : Int) : Option ((Int × Int × Int) ⊕ ((Int × Int) ⊕ (Int × fM))) :=
  if l1 ≤ l6 then
    some (.inr (.inl (l4, l5)))
  else
    (s_X7_minutes M l5 l6).bind fun y45 =>
      if fin (l4 + y45) then
        (s_X7_doneAt M l6 (l4 + y45)).bind fun y49 =>
          if ¬ y49 = 1000000 then
            if fin (l6 + 1) then
              some (.inl (y49, l6, (l6 + 1)))
            else none
          else
            if fin ((-2) - l6) then
              some (.inr (.inr (((-2) - l6), M)))
            else none
      else none
theorem s_X7_walkAsTold_b29_ok {d L : Nat} {M : fM} {l1 l4 l5 l6 : Int} {o2 o3 : Option fV} {r : ((Int × Int × Int) ⊕ ((Int × Int) ⊕ (Int × fM)))} {Q : fO → fH → Prop} (h : s_X7_walkAsTold_b29 M l1 l4 l5 l6 = some r) (hC : ∀ (l4' l5' l6' : Int) (o2' o3' : Option fV), r = .inl (l4', l5', l6') → Wp (d + 3, 102, 29, 0, 0, [some (fA 54), some (fI l1), o2', o3', some (fI l4'), some (fI l5'), some (fI l6')], []) (156, fjl L, M) Q) (hE : ∀ (e : (Int × Int)) (o2' o3' o6' : Option fV), r = .inr (.inl e) → Wp (d + 3, 102, 77, 0, 0, [some (fA 54), some (fI l1), o2', o3', some (fI e.1), some (fI e.2), o6'], []) (156, fjl L, M) Q) (hR : ∀ (v : (Int × fM)), r = .inr (.inr v) → Q (oI v.1) (156, fjl L, v.2)) : Wp (d + 3, 102, 29, 0, 0, [some (fA 54), some (fI l1), o2, o3, some (fI l4), some (fI l5), some (fI l6)], []) (156, fjl L, M) Q := by
  unfold s_X7_walkAsTold_b29 at h
  refine Wp.run 2 (f' := (d + 3, 102, 32, 0, 0, [some (fA 54), some (fI l1), _, _, some (fI l4), some (fI l5), some (fI l6)], [fI l1, fI l6])) (h' := (156, fjl L, M)) rfl trivial ?_
  refine Wp.br rfl (fun (c : l1 ≤ l6) => ?_) (fun (c : ¬ (l1 ≤ l6)) => ?_)
  · replace h := fps c h
    exact hE _ _ _ _ (Option.some.inj h).symm
  · replace h := fng c h
    refine Wp.run 6 (f' := (d + 3, 102, 45, 0, 0, [some (fA 54), some (fI l1), _, _, _, _, some (fI l6)], [fI l6, fI l5, fA 54, fI l4, fI l6, fA 54])) (h' := (156, fjl L, M)) rfl trivial ?_
    obtain ⟨y45, hy, h⟩ := fbd h
    refine Wp.call rfl (by decide) (s_X7_minutes_ok (d := d + 1) hy ?_)
    show Wp (d + 3, 102, 48, 0, 0, [some (fA 54), some (fI l1), _, _, _, _, some (fI l6)], [fI y45, fI l4, fI l6, fA 54]) (156, fjl L, M) Q
    obtain ⟨g0, h⟩ := fgd h
    refine Wp.run 1 (f' := (d + 3, 102, 49, 0, 0, [some (fA 54), some (fI l1), _, _, _, _, some (fI l6)], [fI (fw (l4 + y45)), fI l6, fA 54])) (h' := (156, fjl L, M)) rfl trivial ?_
    rw [fw_id g0]
    obtain ⟨y49, hy, h⟩ := fbd h
    refine Wp.call rfl (by decide) (s_X7_doneAt_ok (d := d + 1) hy ?_)
    show Wp (d + 3, 102, 52, 0, 0, [some (fA 54), some (fI l1), _, _, _, _, some (fI l6)], [fI y49]) (156, fjl L, M) Q
    refine Wp.run 3 (f' := (d + 3, 102, 58, 0, 0, [some (fA 54), some (fI l1), _, _, some (fI y49), _, some (fI l6)], [fI 1000000, fI y49])) (h' := (156, fjl L, M)) rfl trivial ?_
    refine Wp.br rfl (fun (c : ¬ y49 = 1000000) => ?_) (fun (c : ¬ (¬ y49 = 1000000)) => ?_)
    · replace h := fps c h
      obtain ⟨g0, h⟩ := fgd h
      refine Wp.run 4 (f' := (d + 3, 102, 29, 0, 0, [some (fA 54), some (fI l1), _, _, some (fI y49), some (fI l6), some (fI (fw (l6 + 1)))], [])) (h' := (156, fjl L, M)) rfl trivial ?_
      rw [fw_id g0]
      exact hC _ _ _ _ _ (Option.some.inj h).symm
    · replace h := fng c h
      obtain ⟨g0, h⟩ := fgd h
      refine Wp.run 3 (f' := (d + 3, 102, 66, 0, 0, [_, _, _, _, _, _, _], [fI (fw ((-2) - l6))])) (h' := (156, fjl L, M)) rfl trivial ?_
      rw [fw_id g0]
      exact Wp.done rfl (by decide) (hR _ (Option.some.inj h).symm)
theorem s_X7_walkAsTold_b29_fr {M : fM} {l1 l4 l5 l6 : Int} {r : ((Int × Int × Int) ⊕ ((Int × Int) ⊕ (Int × fM)))} (h : s_X7_walkAsTold_b29 M l1 l4 l5 l6 = some r) : fSame s_X7_walkAsTold_mods M (Sum.elim (fun _ => M) (Sum.elim (fun _ => M) (fun v => v.2)) r) := by
  unfold s_X7_walkAsTold_b29 at h
  by_cases c : l1 ≤ l6
  · replace h := fps c h
    obtain rfl := Option.some.inj h
    exact fs_refl
  · replace h := fng c h
    obtain ⟨y45, hy, h⟩ := fbd h
    replace h := (fgd h).2
    obtain ⟨y49, hy, h⟩ := fbd h
    by_cases c : ¬ y49 = 1000000
    · replace h := fps c h
      replace h := (fgd h).2
      obtain rfl := Option.some.inj h
      exact fs_refl
    · replace h := fng c h
      replace h := (fgd h).2
      obtain rfl := Option.some.inj h
      exact fs_refl
noncomputable def s_X7_walkAsTold_l29 (M : fM) (l1 : Int) (s : (Int × Int × Int)) : Option ((Int × Int) ⊕ (Int × fM)) := fLp (fun s => s_X7_walkAsTold_b29 M l1 s.1 s.2.1 s.2.2) s
theorem s_X7_walkAsTold_l29_ok {d L : Nat} {M : fM} {l1 l4 l5 l6 : Int} {o2 o3 : Option fV} {r : ((Int × Int) ⊕ (Int × fM))} {Q : fO → fH → Prop} (h : s_X7_walkAsTold_l29 M l1 (l4, l5, l6) = some r) (hE : ∀ (e : (Int × Int)) (o2' o3' o6' : Option fV), r = .inl e → Wp (d + 3, 102, 77, 0, 0, [some (fA 54), some (fI l1), o2', o3', some (fI e.1), some (fI e.2), o6'], []) (156, fjl L, M) Q) (hR : ∀ (v : (Int × fM)), r = .inr v → Q (oI v.1) (156, fjl L, v.2)) : Wp (d + 3, 102, 29, 0, 0, [some (fA 54), some (fI l1), o2, o3, some (fI l4), some (fI l5), some (fI l6)], []) (156, fjl L, M) Q := by
  refine fLp_wp (W := fun s => ∀ (o2 o3 : Option fV), Wp (d + 3, 102, 29, 0, 0, [some (fA 54), some (fI l1), o2, o3, some (fI s.1), some (fI s.2.1), some (fI s.2.2)], []) (156, fjl L, M) Q) (e := r) ?_ h _ _
  intro s r1 h hC hX o2 o3
  refine s_X7_walkAsTold_b29_ok (d := d) h (fun a0 a1 a2 _ _ e1 => ?_) (fun e u0 u1 u2 e1 => hE e u0 u1 u2 (hX _ e1).symm) (fun v e1 => hR v (hX _ e1).symm)
  exact hC _ e1 _ _
theorem s_X7_walkAsTold_l29_fr {M : fM} {l1 l4 l5 l6 : Int} {r : ((Int × Int) ⊕ (Int × fM))} (h : s_X7_walkAsTold_l29 M l1 (l4, l5, l6) = some r) : fSame s_X7_walkAsTold_mods M ((Sum.elim (fun _ => M) (fun v => v.2)) r) := by
  refine fLp_inv (I := fun s => fSame s_X7_walkAsTold_mods M M) (J := fun r => fSame s_X7_walkAsTold_mods M ((Sum.elim (fun _ => M) (fun v => v.2)) r)) h fs_refl (fun s s1 hs hb => ?_) (fun s e hs hb => ?_)
  · exact fs_trans hs (s_X7_walkAsTold_b29_fr hb)
  · exact fs_trans hs (s_X7_walkAsTold_b29_fr hb)
noncomputable def s_X7_walkAsTold (M : fM) (l1 l2 l3 : Int) : Option (Int × fM) :=
  (s_X7_place M l1 l3).bind fun y3 =>
    (s_X7_liveWith y3.2 l2).bind fun y8 =>
      (s_X7_walkAsTold_l29 y8.2 l1 ((y8.2 8 4), 9, 0)).bind fun e29 =>
        Sum.elim (fun x29 =>
          (s_X7_minutes y8.2 x29.2 9).bind fun y84 =>
            if fin (x29.1 + y84) then
              if (y8.2 8 5) < (x29.1 + y84) then
                if fin ((-2) - l1) then
                  some (((-2) - l1), y8.2)
                else none
              else
                some ((x29.1 + y84), y8.2)
            else none)
          (fun v29 => some v29) e29
theorem s_X7_walkAsTold_ok {d L : Nat} {M : fM} {l1 l2 l3 : Int} {r : (Int × fM)} {Q : fO → fH → Prop} (h : s_X7_walkAsTold M l1 l2 l3 = some r) (H : Q (oI r.1) (156, fjl L, r.2)) : Wp (d + 3, 102, 0, 0, 0, [some (fA 54), some (fI l1), some (fI l2), some (fI l3), none, none, none], []) (156, fjl L, M) Q := by
  unfold s_X7_walkAsTold at h
  refine Wp.run 3 (f' := (d + 3, 102, 3, 0, 0, [some (fA 54), some (fI l1), some (fI l2), _, _, _, _], [fI l3, fI l1, fA 54])) (h' := (156, fjl L, M)) rfl trivial ?_
  obtain ⟨y3, hy, h⟩ := fbd h
  refine Wp.call rfl (by decide) (s_X7_place_ok (d := d + 0) hy ?_)
  show Wp (d + 3, 102, 6, 0, 0, [some (fA 54), some (fI l1), some (fI l2), _, _, _, _], []) (156, fjl L, y3.2) Q
  refine Wp.run 2 (f' := (d + 3, 102, 8, 0, 0, [some (fA 54), some (fI l1), _, _, _, _, _], [fI l2, fA 54])) (h' := (156, fjl L, y3.2)) rfl trivial ?_
  obtain ⟨y8, hy, h⟩ := fbd h
  refine Wp.call rfl (by decide) (s_X7_liveWith_ok (d := d + 1) hy ?_)
  show Wp (d + 3, 102, 11, 0, 0, [some (fA 54), some (fI l1), _, _, _, _, _], []) (156, fjl L, y8.2) Q
  refine Wp.run 10 (P := [(0 : Int) ≤ 4 ∧ (4 : Int) < 6]) (f' := (d + 3, 102, 29, 0, 0, [some (fA 54), some (fI l1), _, _, some (fI (y8.2 8 4)), some (fI 9), some (fI 0)], [])) (h' := (156, fjl L, y8.2)) rfl ?_ ?_
  · exact (by decide : (0 : Int) ≤ 4 ∧ (4 : Int) < 6)
  obtain ⟨e29, hy, h⟩ := fbd h
  refine s_X7_walkAsTold_l29_ok hy (fun x29 u2 u3 u6 ex => ?_) (fun v29 ex => ?_)
  · subst ex
    replace h := fsl h
    show Wp (d + 3, 102, 77, 0, 0, [some (fA 54), some (fI l1), u2, u3, some (fI x29.1), some (fI x29.2), u6], []) (156, fjl L, y8.2) Q
    refine Wp.run 4 (f' := (d + 3, 102, 84, 0, 0, [some (fA 54), some (fI l1), _, _, _, _, _], [fI 9, fI x29.2, fA 54, fI x29.1])) (h' := (156, fjl L, y8.2)) rfl trivial ?_
    obtain ⟨y84, hy, h⟩ := fbd h
    refine Wp.call rfl (by decide) (s_X7_minutes_ok (d := d + 1) hy ?_)
    show Wp (d + 3, 102, 87, 0, 0, [some (fA 54), some (fI l1), _, _, _, _, _], [fI y84, fI x29.1]) (156, fjl L, y8.2) Q
    obtain ⟨g0, h⟩ := fgd h
    refine Wp.run 8 (P := [(0 : Int) ≤ 5 ∧ (5 : Int) < 6]) (f' := (d + 3, 102, 101, 0, 0, [_, some (fI l1), _, _, some (fI (fw (x29.1 + y84))), _, _], [fI (y8.2 8 5), fI (fw (x29.1 + y84))])) (h' := (156, fjl L, y8.2)) rfl ?_ ?_
    · exact (by decide : (0 : Int) ≤ 5 ∧ (5 : Int) < 6)
    rw [fw_id g0]
    refine Wp.br rfl (fun (c : (y8.2 8 5) < (x29.1 + y84)) => ?_) (fun (c : ¬ ((y8.2 8 5) < (x29.1 + y84))) => ?_)
    · replace h := fps c h
      obtain ⟨g0, h⟩ := fgd h
      refine Wp.run 3 (f' := (d + 3, 102, 113, 0, 0, [_, _, _, _, _, _, _], [fI (fw ((-2) - l1))])) (h' := (156, fjl L, y8.2)) rfl trivial ?_
      rw [fw_id g0]
      obtain rfl := Option.some.inj h
      exact Wp.done rfl (by decide) H
    · replace h := fng c h
      refine Wp.run 2 (f' := (d + 3, 102, 113, 0, 0, [_, _, _, _, _, _, _], [fI (x29.1 + y84)])) (h' := (156, fjl L, y8.2)) rfl trivial ?_
      obtain rfl := Option.some.inj h
      exact Wp.done rfl (by decide) H
  · subst ex
    replace h := fsr h
    obtain rfl := Option.some.inj h
    exact H
theorem s_X7_walkAsTold_fr {M : fM} {l1 l2 l3 : Int} {r : (Int × fM)} (h : s_X7_walkAsTold M l1 l2 l3 = some r) : fSame s_X7_walkAsTold_mods M r.2 := by
  unfold s_X7_walkAsTold at h
  obtain ⟨y3, hy, h⟩ := fbd h
  have k3 := fs_trans (l := s_X7_walkAsTold_mods) fs_refl (fs_mono (l := s_X7_place_mods) (by decide) (s_X7_place_fr hy))
  obtain ⟨y8, hy, h⟩ := fbd h
  have k8 := fs_trans (l := s_X7_walkAsTold_mods) k3 (fs_mono (l := s_X7_liveWith_mods) (by decide) (s_X7_liveWith_fr hy))
  obtain ⟨e29, hy, h⟩ := fbd h
  have k29 := fs_trans (l := s_X7_walkAsTold_mods) k8 (s_X7_walkAsTold_l29_fr hy)
  rcases e29 with x29 | v29
  · replace h := fsl h
    obtain ⟨y84, hy, h⟩ := fbd h
    replace h := (fgd h).2
    by_cases c : (y8.2 8 5) < (x29.1 + y84)
    · replace h := fps c h
      replace h := (fgd h).2
      obtain rfl := Option.some.inj h
      exact k8
    · replace h := fng c h
      obtain rfl := Option.some.inj h
      exact k8
  · replace h := fsr h
    obtain rfl := Option.some.inj h
    exact k29
abbrev s_X11_walked_mods : List (Nat × Option Nat) := [(1, some 2), (54, some 17), (54, some 18), (55, none), (56, none), (57, none), (58, none), (59, none)]
noncomputable def s_X11_walked (M : fM) (l1 l2 : Int) : Option (Int × fM) :=
  (s_X10_movePianos_55 M (M 4 13)).bind fun y18 =>
    if y18.1 < 0 then
      some ((-1), y18.2)
    else
      (s_X2_hasTuner_4 y18.2 l1).bind fun y31 =>
        if y31 = 0 then
          some ((-1), y18.2)
        else
          (s_X11_isWithin y18.2 l2 364).bind fun y41 =>
            if ¬ y41 = 0 then
              (s_X7_walkAsTold y18.2 y18.1 l1 l2).bind fun y56 =>
                some (y56.1, y56.2)
            else
              some ((-1), y18.2)
theorem s_X11_walked_ok {d L : Nat} {M : fM} {l1 l2 : Int} {r : (Int × fM)} {Q : fO → fH → Prop} (h : s_X11_walked M l1 l2 = some r) (H : Q (oI r.1) (156, fjl L, r.2)) : Wp (d + 4, 173, 0, 0, 0, [some (fA 0), some (fI l1), some (fI l2), none], []) (156, fjl L, M) Q := by
  unfold s_X11_walked at h
  refine Wp.run 8 (f' := (d + 4, 173, 18, 0, 0, [some (fA 0), some (fI l1), some (fI l2), _], [fI (M 4 13), fA 55, fA 1])) (h' := (156, fjl L, M)) rfl trivial ?_
  obtain ⟨y18, hy, h⟩ := fbd h
  refine Wp.call rfl (by decide) (s_X10_movePianos_55_ok (d := d + 3) hy ?_)
  show Wp (d + 4, 173, 21, 0, 0, [some (fA 0), some (fI l1), some (fI l2), _], [fI y18.1]) (156, fjl L, y18.2) Q
  refine Wp.run 2 (f' := (d + 4, 173, 23, 0, 0, [some (fA 0), some (fI l1), some (fI l2), some (fI y18.1)], [fI y18.1])) (h' := (156, fjl L, y18.2)) rfl trivial ?_
  refine Wp.br rfl (fun (c : y18.1 < 0) => ?_) (fun (c : ¬ (y18.1 < 0)) => ?_)
  · replace h := fps c h
    refine Wp.run 1 (f' := (d + 4, 173, 48, 0, 0, [_, _, _, _], [fI (-1)])) (h' := (156, fjl L, y18.2)) rfl trivial ?_
    obtain rfl := Option.some.inj h
    exact Wp.done rfl (by decide) H
  · replace h := fng c h
    refine Wp.run 3 (f' := (d + 4, 173, 31, 0, 0, [some (fA 0), some (fI l1), some (fI l2), some (fI y18.1)], [fI l1, fA 4])) (h' := (156, fjl L, y18.2)) rfl trivial ?_
    obtain ⟨y31, hy, h⟩ := fbd h
    refine Wp.call rfl (by decide) (s_X2_hasTuner_4_ok (d := d + 3) hy ?_)
    show Wp (d + 4, 173, 34, 0, 0, [some (fA 0), some (fI l1), some (fI l2), some (fI y18.1)], [fI y31]) (156, fjl L, y18.2) Q
    refine Wp.br rfl (fun (c : y31 = 0) => ?_) (fun (c : ¬ (y31 = 0)) => ?_)
    · replace h := fps c h
      refine Wp.run 1 (f' := (d + 4, 173, 48, 0, 0, [_, _, _, _], [fI (-1)])) (h' := (156, fjl L, y18.2)) rfl trivial ?_
      obtain rfl := Option.some.inj h
      exact Wp.done rfl (by decide) H
    · replace h := fng c h
      refine Wp.run 2 (f' := (d + 4, 173, 41, 0, 0, [some (fA 0), some (fI l1), some (fI l2), some (fI y18.1)], [fI 364, fI l2])) (h' := (156, fjl L, y18.2)) rfl trivial ?_
      obtain ⟨y41, hy, h⟩ := fbd h
      refine Wp.call rfl (by decide) (s_X11_isWithin_ok (d := d + 3) hy ?_)
      show Wp (d + 4, 173, 44, 0, 0, [some (fA 0), some (fI l1), some (fI l2), some (fI y18.1)], [fI y41]) (156, fjl L, y18.2) Q
      refine Wp.br rfl (fun (c : ¬ y41 = 0) => ?_) (fun (c : ¬ (¬ y41 = 0)) => ?_)
      · replace h := fps c h
        refine Wp.run 5 (f' := (d + 4, 173, 56, 0, 0, [_, _, _, _], [fI l2, fI l1, fI y18.1, fA 54])) (h' := (156, fjl L, y18.2)) rfl trivial ?_
        obtain ⟨y56, hy, h⟩ := fbd h
        refine Wp.call rfl (by decide) (s_X7_walkAsTold_ok (d := d + 0) hy ?_)
        show Wp (d + 4, 173, 59, 0, 0, [_, _, _, _], [fI y56.1]) (156, fjl L, y56.2) Q
        obtain rfl := Option.some.inj h
        exact Wp.done rfl (by decide) H
      · replace h := fng c h
        refine Wp.run 1 (f' := (d + 4, 173, 48, 0, 0, [_, _, _, _], [fI (-1)])) (h' := (156, fjl L, y18.2)) rfl trivial ?_
        obtain rfl := Option.some.inj h
        exact Wp.done rfl (by decide) H
theorem s_X11_walked_fr {M : fM} {l1 l2 : Int} {r : (Int × fM)} (h : s_X11_walked M l1 l2 = some r) : fSame s_X11_walked_mods M r.2 := by
  unfold s_X11_walked at h
  obtain ⟨y18, hy, h⟩ := fbd h
  have k18 := fs_trans (l := s_X11_walked_mods) fs_refl (fs_mono (l := s_X10_movePianos_55_mods) (by decide) (s_X10_movePianos_55_fr hy))
  by_cases c : y18.1 < 0
  · replace h := fps c h
    obtain rfl := Option.some.inj h
    exact k18
  · replace h := fng c h
    obtain ⟨y31, hy, h⟩ := fbd h
    by_cases c : y31 = 0
    · replace h := fps c h
      obtain rfl := Option.some.inj h
      exact k18
    · replace h := fng c h
      obtain ⟨y41, hy, h⟩ := fbd h
      by_cases c : ¬ y41 = 0
      · replace h := fps c h
        obtain ⟨y56, hy, h⟩ := fbd h
        have k56 := fs_trans (l := s_X11_walked_mods) k18 (fs_mono (l := s_X7_walkAsTold_mods) (by decide) (s_X7_walkAsTold_fr hy))
        obtain rfl := Option.some.inj h
        exact k56
      · replace h := fng c h
        obtain rfl := Option.some.inj h
        exact k18
