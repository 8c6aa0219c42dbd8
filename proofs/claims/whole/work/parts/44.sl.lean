/-! ===== functions of the methods (printed by genfun.py) ===== -/
abbrev s_X12_walked_mods : List (Nat × Option Nat) := [(122, some 0), (122, some 2), (122, some 3), (122, some 4), (122, some 5), (122, some 24), (122, some 25), (122, some 26), (122, some 27), (122, some 28), (122, some 39), (122, some 40), (122, some 41), (128, none), (129, none), (133, none), (134, none), (135, none), (136, none), (137, none)]
noncomputable def s_X12_walked_b48 (M : fM) (l3 l4 : Int) : Option ((Int × Int) ⊕ (Int ⊕ (Int × fM))) :=
  if (M 122 39) ≤ l4 then
    some (.inr (.inl l3))
  else
    if fin (l4 - 1) then
      (s_X12_done M l4 (l4 - 1) l3).bind fun y65 =>
        if y65 < 1000000 then
          if fin (l4 + 1) then
            some (.inl (y65, (l4 + 1)))
          else none
        else
          if fin ((-2) - l4) then
            some (.inr (.inr (((-2) - l4), M)))
          else none
    else none
theorem s_X12_walked_b48_ok {d L : Nat} {M : fM} {l3 l4 : Int} {o1 o2 : Option fV} {r : ((Int × Int) ⊕ (Int ⊕ (Int × fM)))} {Q : fO → fH → Prop} (h : s_X12_walked_b48 M l3 l4 = some r) (hC : ∀ (l3' l4' : Int) (o1' o2' : Option fV), r = .inl (l3', l4') → Wp (d + 6, 288, 48, 0, 0, [some (fA 122), o1', o2', some (fI l3'), some (fI l4')], []) (156, fjl L, M) Q) (hE : ∀ (e : Int) (o1' o2' o4' : Option fV), r = .inr (.inl e) → Wp (d + 6, 288, 88, 0, 0, [some (fA 122), o1', o2', some (fI e), o4'], []) (156, fjl L, M) Q) (hR : ∀ (v : (Int × fM)), r = .inr (.inr v) → Q (oI v.1) (156, fjl L, v.2)) : Wp (d + 6, 288, 48, 0, 0, [some (fA 122), o1, o2, some (fI l3), some (fI l4)], []) (156, fjl L, M) Q := by
  unfold s_X12_walked_b48 at h
  refine Wp.run 3 (f' := (d + 6, 288, 54, 0, 0, [some (fA 122), _, _, some (fI l3), some (fI l4)], [fI (M 122 39), fI l4])) (h' := (156, fjl L, M)) rfl trivial ?_
  refine Wp.br rfl (fun (c : (M 122 39) ≤ l4) => ?_) (fun (c : ¬ ((M 122 39) ≤ l4)) => ?_)
  · replace h := fps c h
    exact hE _ _ _ _ (Option.some.inj h).symm
  · replace h := fng c h
    obtain ⟨g0, h⟩ := fgd h
    refine Wp.run 6 (f' := (d + 6, 288, 65, 0, 0, [some (fA 122), _, _, _, some (fI l4)], [fI l3, fI (fw (l4 - 1)), fI l4, fA 122])) (h' := (156, fjl L, M)) rfl trivial ?_
    rw [fw_id g0]
    obtain ⟨y65, hy, h⟩ := fbd h
    refine Wp.call rfl (by decide) (s_X12_done_ok (d := d + 3) hy ?_)
    show Wp (d + 6, 288, 68, 0, 0, [some (fA 122), _, _, _, some (fI l4)], [fI y65]) (156, fjl L, M) Q
    refine Wp.run 3 (f' := (d + 6, 288, 73, 0, 0, [some (fA 122), _, _, some (fI y65), some (fI l4)], [fI 1000000, fI y65])) (h' := (156, fjl L, M)) rfl trivial ?_
    refine Wp.br rfl (fun (c : y65 < 1000000) => ?_) (fun (c : ¬ (y65 < 1000000)) => ?_)
    · replace h := fps c h
      obtain ⟨g0, h⟩ := fgd h
      refine Wp.run 2 (f' := (d + 6, 288, 48, 0, 0, [some (fA 122), _, _, some (fI y65), some (fI (fw (l4 + 1)))], [])) (h' := (156, fjl L, M)) rfl trivial ?_
      rw [fw_id g0]
      exact hC _ _ _ _ (Option.some.inj h).symm
    · replace h := fng c h
      obtain ⟨g0, h⟩ := fgd h
      refine Wp.run 3 (f' := (d + 6, 288, 81, 0, 0, [_, _, _, _, _], [fI (fw ((-2) - l4))])) (h' := (156, fjl L, M)) rfl trivial ?_
      rw [fw_id g0]
      exact Wp.done rfl (by decide) (hR _ (Option.some.inj h).symm)
theorem s_X12_walked_b48_fr {M : fM} {l3 l4 : Int} {r : ((Int × Int) ⊕ (Int ⊕ (Int × fM)))} (h : s_X12_walked_b48 M l3 l4 = some r) : fSame s_X12_walked_mods M (Sum.elim (fun _ => M) (Sum.elim (fun _ => M) (fun v => v.2)) r) := by
  unfold s_X12_walked_b48 at h
  by_cases c : (M 122 39) ≤ l4
  · replace h := fps c h
    obtain rfl := Option.some.inj h
    exact fs_refl
  · replace h := fng c h
    replace h := (fgd h).2
    obtain ⟨y65, hy, h⟩ := fbd h
    by_cases c : y65 < 1000000
    · replace h := fps c h
      replace h := (fgd h).2
      obtain rfl := Option.some.inj h
      exact fs_refl
    · replace h := fng c h
      replace h := (fgd h).2
      obtain rfl := Option.some.inj h
      exact fs_refl
noncomputable def s_X12_walked_l48 (M : fM) (s : (Int × Int)) : Option (Int ⊕ (Int × fM)) := fLp (fun s => s_X12_walked_b48 M s.1 s.2) s
theorem s_X12_walked_l48_ok {d L : Nat} {M : fM} {l3 l4 : Int} {o1 o2 : Option fV} {r : (Int ⊕ (Int × fM))} {Q : fO → fH → Prop} (h : s_X12_walked_l48 M (l3, l4) = some r) (hE : ∀ (e : Int) (o1' o2' o4' : Option fV), r = .inl e → Wp (d + 6, 288, 88, 0, 0, [some (fA 122), o1', o2', some (fI e), o4'], []) (156, fjl L, M) Q) (hR : ∀ (v : (Int × fM)), r = .inr v → Q (oI v.1) (156, fjl L, v.2)) : Wp (d + 6, 288, 48, 0, 0, [some (fA 122), o1, o2, some (fI l3), some (fI l4)], []) (156, fjl L, M) Q := by
  refine fLp_wp (W := fun s => ∀ (o1 o2 : Option fV), Wp (d + 6, 288, 48, 0, 0, [some (fA 122), o1, o2, some (fI s.1), some (fI s.2)], []) (156, fjl L, M) Q) (e := r) ?_ h _ _
  intro s r1 h hC hX o1 o2
  refine s_X12_walked_b48_ok (d := d) h (fun a0 a1 _ _ e1 => ?_) (fun e u0 u1 u2 e1 => hE e u0 u1 u2 (hX _ e1).symm) (fun v e1 => hR v (hX _ e1).symm)
  exact hC _ e1 _ _
theorem s_X12_walked_l48_fr {M : fM} {l3 l4 : Int} {r : (Int ⊕ (Int × fM))} (h : s_X12_walked_l48 M (l3, l4) = some r) : fSame s_X12_walked_mods M ((Sum.elim (fun _ => M) (fun v => v.2)) r) := by
  refine fLp_inv (I := fun s => fSame s_X12_walked_mods M M) (J := fun r => fSame s_X12_walked_mods M ((Sum.elim (fun _ => M) (fun v => v.2)) r)) h fs_refl (fun s s1 hs hb => ?_) (fun s e hs hb => ?_)
  · exact fs_trans hs (s_X12_walked_b48_fr hb)
  · exact fs_trans hs (s_X12_walked_b48_fr hb)
noncomputable def s_X12_walked_j111 (M : fM) (t0 t1 : Int) : Option (Int × fM) :=
  if fin (t0 + t1) then
    if (t0 + t1) ≤ (M 124 171) then
      some ((t0 + t1), M)
    else
      if fin ((-2) - (M 122 39)) then
        some (((-2) - (M 122 39)), M)
      else none
  else none
theorem s_X12_walked_j111_ok {d L : Nat} {M : fM} {t0 t1 : Int} {o1 o2 o3 o4 : Option fV} {r : (Int × fM)} {Q : fO → fH → Prop} (h : s_X12_walked_j111 M t0 t1 = some r) (H : Q (oI r.1) (156, fjl L, r.2)) : Wp (d + 6, 288, 111, 0, 0, [some (fA 122), o1, o2, o3, o4], [fI t1, fI t0]) (156, fjl L, M) Q := by
  unfold s_X12_walked_j111 at h
  obtain ⟨g0, h⟩ := fgd h
  refine Wp.run 7 (P := [(0 : Int) ≤ 171 ∧ (171 : Int) < 1290]) (f' := (d + 6, 288, 122, 0, 0, [some (fA 122), _, _, some (fI (fw (t0 + t1))), _], [fI (M 124 171), fI (fw (t0 + t1))])) (h' := (156, fjl L, M)) rfl ?_ ?_
  · exact (by decide : (0 : Int) ≤ 171 ∧ (171 : Int) < 1290)
  rw [fw_id g0]
  refine Wp.br rfl (fun (c : (t0 + t1) ≤ (M 124 171)) => ?_) (fun (c : ¬ ((t0 + t1) ≤ (M 124 171))) => ?_)
  · replace h := fps c h
    refine Wp.run 1 (f' := (d + 6, 288, 136, 0, 0, [_, _, _, _, _], [fI (t0 + t1)])) (h' := (156, fjl L, M)) rfl trivial ?_
    obtain rfl := Option.some.inj h
    exact Wp.done rfl (by decide) H
  · replace h := fng c h
    obtain ⟨g0, h⟩ := fgd h
    refine Wp.run 5 (f' := (d + 6, 288, 136, 0, 0, [_, _, _, _, _], [fI (fw ((-2) - (M 122 39)))])) (h' := (156, fjl L, M)) rfl trivial ?_
    rw [fw_id g0]
    obtain rfl := Option.some.inj h
    exact Wp.done rfl (by decide) H
theorem s_X12_walked_j111_fr {M : fM} {t0 t1 : Int} {r : (Int × fM)} (h : s_X12_walked_j111 M t0 t1 = some r) : fSame s_X12_walked_mods M r.2 := by
  unfold s_X12_walked_j111 at h
  replace h := (fgd h).2
  by_cases c : (t0 + t1) ≤ (M 124 171)
  · replace h := fps c h
    obtain rfl := Option.some.inj h
    exact fs_refl
  · replace h := fng c h
    replace h := (fgd h).2
    obtain rfl := Option.some.inj h
    exact fs_refl
noncomputable def s_X12_walked (M : fM) (l1 l2 : Int) : Option (Int × fM) :=
  (s_X12_taken (fup M 122 0 0) 1240).bind fun y9 =>
    (s_X12_isTuner y9.2 l1).bind fun y14 =>
      if y14 = 0 then
        some ((-1), y9.2)
      else
        (s_X12_tells y9.2 l2 0).bind fun y23 =>
          if ¬ y23.1 = 0 then
            (s_X12_live y23.2 l1).bind fun y33 =>
              (s_X12_walked_l48 y33.2 ((y33.2 124 170), 0)).bind fun e48 =>
                Sum.elim (fun x48 =>
                  if ¬ (y33.2 122 39) = 0 then
                    if fin ((y33.2 122 39) - 1) then
                      (s_X12_way y33.2 ((y33.2 122 39) - 1) (-1)).bind fun y108 =>
                        s_X12_walked_j111 y33.2 x48 y108
                    else none
                  else
                    s_X12_walked_j111 y33.2 x48 0)
                  (fun v48 => some v48) e48
          else
            some ((-1), y23.2)
theorem s_X12_walked_ok {d L : Nat} {M : fM} {l1 l2 : Int} {r : (Int × fM)} {Q : fO → fH → Prop} (h : s_X12_walked M l1 l2 = some r) (H : Q (oI r.1) (156, fjl L, r.2)) : Wp (d + 6, 288, 0, 0, 0, [some (fA 122), some (fI l1), some (fI l2), none, none], []) (156, fjl L, M) Q := by
  unfold s_X12_walked at h
  refine Wp.run 5 (f' := (d + 6, 288, 9, 0, 0, [some (fA 122), some (fI l1), some (fI l2), _, _], [fI 1240, fA 122])) (h' := (156, fjl L, (fup M 122 0 0))) rfl trivial ?_
  obtain ⟨y9, hy, h⟩ := fbd h
  refine Wp.call rfl (by decide) (s_X12_taken_ok (d := d + 5) hy ?_)
  show Wp (d + 6, 288, 12, 0, 0, [some (fA 122), some (fI l1), some (fI l2), _, _], []) (156, fjl L, y9.2) Q
  refine Wp.run 2 (f' := (d + 6, 288, 14, 0, 0, [some (fA 122), some (fI l1), some (fI l2), _, _], [fI l1, fA 122])) (h' := (156, fjl L, y9.2)) rfl trivial ?_
  obtain ⟨y14, hy, h⟩ := fbd h
  refine Wp.call rfl (by decide) (s_X12_isTuner_ok (d := d + 4) hy ?_)
  show Wp (d + 6, 288, 17, 0, 0, [some (fA 122), some (fI l1), some (fI l2), _, _], [fI y14]) (156, fjl L, y9.2) Q
  refine Wp.br rfl (fun (c : y14 = 0) => ?_) (fun (c : ¬ (y14 = 0)) => ?_)
  · replace h := fps c h
    refine Wp.run 1 (f' := (d + 6, 288, 30, 0, 0, [_, _, _, _, _], [fI (-1)])) (h' := (156, fjl L, y9.2)) rfl trivial ?_
    obtain rfl := Option.some.inj h
    exact Wp.done rfl (by decide) H
  · replace h := fng c h
    refine Wp.run 3 (f' := (d + 6, 288, 23, 0, 0, [some (fA 122), some (fI l1), _, _, _], [fI 0, fI l2, fA 122])) (h' := (156, fjl L, y9.2)) rfl trivial ?_
    obtain ⟨y23, hy, h⟩ := fbd h
    refine Wp.call rfl (by decide) (s_X12_tells_ok (d := d + 0) hy ?_)
    show Wp (d + 6, 288, 26, 0, 0, [some (fA 122), some (fI l1), _, _, _], [fI y23.1]) (156, fjl L, y23.2) Q
    refine Wp.br rfl (fun (c : ¬ y23.1 = 0) => ?_) (fun (c : ¬ (¬ y23.1 = 0)) => ?_)
    · replace h := fps c h
      refine Wp.run 2 (f' := (d + 6, 288, 33, 0, 0, [some (fA 122), _, _, _, _], [fI l1, fA 122])) (h' := (156, fjl L, y23.2)) rfl trivial ?_
      obtain ⟨y33, hy, h⟩ := fbd h
      refine Wp.call rfl (by decide) (s_X12_live_ok (d := d + 5) hy ?_)
      show Wp (d + 6, 288, 36, 0, 0, [some (fA 122), _, _, _, _], []) (156, fjl L, y33.2) Q
      refine Wp.run 7 (P := [(0 : Int) ≤ 170 ∧ (170 : Int) < 1290]) (f' := (d + 6, 288, 48, 0, 0, [some (fA 122), _, _, some (fI (y33.2 124 170)), some (fI 0)], [])) (h' := (156, fjl L, y33.2)) rfl ?_ ?_
      · exact (by decide : (0 : Int) ≤ 170 ∧ (170 : Int) < 1290)
      obtain ⟨e48, hy, h⟩ := fbd h
      refine s_X12_walked_l48_ok hy (fun x48 u1 u2 u4 ex => ?_) (fun v48 ex => ?_)
      · subst ex
        replace h := fsl h
        show Wp (d + 6, 288, 88, 0, 0, [some (fA 122), u1, u2, some (fI x48), u4], []) (156, fjl L, y33.2) Q
        refine Wp.run 3 (f' := (d + 6, 288, 93, 0, 0, [some (fA 122), _, _, _, _], [fI (y33.2 122 39), fI x48])) (h' := (156, fjl L, y33.2)) rfl trivial ?_
        refine Wp.br rfl (fun (c : ¬ (y33.2 122 39) = 0) => ?_) (fun (c : ¬ (¬ (y33.2 122 39) = 0)) => ?_)
        · replace h := fps c h
          obtain ⟨g0, h⟩ := fgd h
          refine Wp.run 6 (f' := (d + 6, 288, 108, 0, 0, [some (fA 122), _, _, _, _], [fI (-1), fI (fw ((y33.2 122 39) - 1)), fA 122, fI x48])) (h' := (156, fjl L, y33.2)) rfl trivial ?_
          rw [fw_id g0]
          obtain ⟨y108, hy, h⟩ := fbd h
          refine Wp.call rfl (by decide) (s_X12_way_ok (d := d + 4) hy ?_)
          show Wp (d + 6, 288, 111, 0, 0, [some (fA 122), _, _, _, _], [fI y108, fI x48]) (156, fjl L, y33.2) Q
          exact s_X12_walked_j111_ok h H
        · replace h := fng c h
          refine Wp.run 2 (f' := (d + 6, 288, 111, 0, 0, [some (fA 122), _, _, _, _], [fI 0, fI x48])) (h' := (156, fjl L, y33.2)) rfl trivial ?_
          exact s_X12_walked_j111_ok h H
      · subst ex
        replace h := fsr h
        obtain rfl := Option.some.inj h
        exact H
    · replace h := fng c h
      refine Wp.run 1 (f' := (d + 6, 288, 30, 0, 0, [_, _, _, _, _], [fI (-1)])) (h' := (156, fjl L, y23.2)) rfl trivial ?_
      obtain rfl := Option.some.inj h
      exact Wp.done rfl (by decide) H
theorem s_X12_walked_fr {M : fM} {l1 l2 : Int} {r : (Int × fM)} (h : s_X12_walked M l1 l2 = some r) : fSame s_X12_walked_mods M r.2 := by
  unfold s_X12_walked at h
  obtain ⟨y9, hy, h⟩ := fbd h
  have k9 := fs_trans (l := s_X12_walked_mods) (fs_up fs_refl (.inr (by decide))) (fs_mono (l := s_X12_taken_mods) (by decide) (s_X12_taken_fr hy))
  obtain ⟨y14, hy, h⟩ := fbd h
  by_cases c : y14 = 0
  · replace h := fps c h
    obtain rfl := Option.some.inj h
    exact k9
  · replace h := fng c h
    obtain ⟨y23, hy, h⟩ := fbd h
    have k23 := fs_trans (l := s_X12_walked_mods) k9 (fs_mono (l := s_X12_tells_mods) (by decide) (s_X12_tells_fr hy))
    by_cases c : ¬ y23.1 = 0
    · replace h := fps c h
      obtain ⟨y33, hy, h⟩ := fbd h
      have k33 := fs_trans (l := s_X12_walked_mods) k23 (fs_mono (l := s_X12_live_mods) (by decide) (s_X12_live_fr hy))
      obtain ⟨e48, hy, h⟩ := fbd h
      have k48 := fs_trans (l := s_X12_walked_mods) k33 (s_X12_walked_l48_fr hy)
      rcases e48 with x48 | v48
      · replace h := fsl h
        by_cases c : ¬ (y33.2 122 39) = 0
        · replace h := fps c h
          replace h := (fgd h).2
          obtain ⟨y108, hy, h⟩ := fbd h
          exact fs_trans k33 (s_X12_walked_j111_fr h)
        · replace h := fng c h
          exact fs_trans k33 (s_X12_walked_j111_fr h)
      · replace h := fsr h
        obtain rfl := Option.some.inj h
        exact k48
    · replace h := fng c h
      obtain rfl := Option.some.inj h
      exact k23
abbrev s_X7_fillOtherBest_mods : List (Nat × Option Nat) := [(64, none)]
noncomputable def s_X7_fillOtherBest_b34 (M : fM) (l1 l2 l3 : Int) : Option ((Int × Int) ⊕ Int) :=
  if (M 54 17) ≤ l3 then
    some (.inr l2)
  else
    if ¬ (fand (fshr l1 l3) 1) = 1 then
      if fin (l3 + 1) then
        some (.inl (l2, (l3 + 1)))
      else none
    else
      if (0 ≤ (fand l1 (fxor (fshl 1 l3) (-1))) ∧ (fand l1 (fxor (fshl 1 l3) (-1))) < 512) then
        (s_J9_max M l2 (M 64 (fand l1 (fxor (fshl 1 l3) (-1))).toNat)).bind fun y64 =>
          if fin (l3 + 1) then
            some (.inl (y64, (l3 + 1)))
          else none
      else none
theorem s_X7_fillOtherBest_b34_ok {d L : Nat} {M : fM} {l1 l2 l3 : Int} {r : ((Int × Int) ⊕ Int)} {Q : fO → fH → Prop} (h : s_X7_fillOtherBest_b34 M l1 l2 l3 = some r) (hC : ∀ (l2' l3' : Int), r = .inl (l2', l3') → Wp (d + 1, 104, 34, 0, 0, [some (fA 54), some (fI l1), some (fI l2'), some (fI l3')], []) (156, fjl L, M) Q) (hE : ∀ (e : Int) (o3' : Option fV), r = .inr e → Wp (d + 1, 104, 74, 0, 0, [some (fA 54), some (fI l1), some (fI e), o3'], []) (156, fjl L, M) Q) : Wp (d + 1, 104, 34, 0, 0, [some (fA 54), some (fI l1), some (fI l2), some (fI l3)], []) (156, fjl L, M) Q := by
  unfold s_X7_fillOtherBest_b34 at h
  refine Wp.run 3 (f' := (d + 1, 104, 39, 0, 0, [some (fA 54), some (fI l1), some (fI l2), some (fI l3)], [fI (M 54 17), fI l3])) (h' := (156, fjl L, M)) rfl trivial ?_
  refine Wp.br rfl (fun (c : (M 54 17) ≤ l3) => ?_) (fun (c : ¬ ((M 54 17) ≤ l3)) => ?_)
  · replace h := fps c h
    exact hE _ _ (Option.some.inj h).symm
  · replace h := fng c h
    refine Wp.run 6 (f' := (d + 1, 104, 48, 0, 0, [some (fA 54), some (fI l1), some (fI l2), some (fI l3)], [fI 1, fI (fand (fshr l1 l3) 1)])) (h' := (156, fjl L, M)) rfl trivial ?_
    refine Wp.br rfl (fun (c : ¬ (fand (fshr l1 l3) 1) = 1) => ?_) (fun (c : ¬ (¬ (fand (fshr l1 l3) 1) = 1)) => ?_)
    · replace h := fps c h
      obtain ⟨g0, h⟩ := fgd h
      refine Wp.run 2 (f' := (d + 1, 104, 34, 0, 0, [some (fA 54), some (fI l1), some (fI l2), some (fI (fw (l3 + 1)))], [])) (h' := (156, fjl L, M)) rfl trivial ?_
      rw [fw_id g0]
      exact hC _ _ (Option.some.inj h).symm
    · replace h := fng c h
      obtain ⟨g0, h⟩ := fgd h
      refine Wp.run 11 (P := [0 ≤ (fand l1 (fxor (fshl 1 l3) (-1))) ∧ (fand l1 (fxor (fshl 1 l3) (-1))) < 512]) (f' := (d + 1, 104, 64, 0, 0, [some (fA 54), some (fI l1), _, some (fI l3)], [fI (M 64 (fand l1 (fxor (fshl 1 l3) (-1))).toNat), fI l2])) (h' := (156, fjl L, M)) rfl ?_ ?_
      · exact g0
      obtain ⟨y64, hy, h⟩ := fbd h
      refine Wp.call rfl (by decide) (s_J9_max_ok (d := d + 0) hy ?_)
      show Wp (d + 1, 104, 67, 0, 0, [some (fA 54), some (fI l1), _, some (fI l3)], [fI y64]) (156, fjl L, M) Q
      obtain ⟨g0, h⟩ := fgd h
      refine Wp.run 3 (f' := (d + 1, 104, 34, 0, 0, [some (fA 54), some (fI l1), some (fI y64), some (fI (fw (l3 + 1)))], [])) (h' := (156, fjl L, M)) rfl trivial ?_
      rw [fw_id g0]
      exact hC _ _ (Option.some.inj h).symm
theorem s_X7_fillOtherBest_b34_fr {M : fM} {l1 l2 l3 : Int} {r : ((Int × Int) ⊕ Int)} (h : s_X7_fillOtherBest_b34 M l1 l2 l3 = some r) : fSame s_X7_fillOtherBest_mods M (Sum.elim (fun _ => M) (fun _ => M) r) := by
  unfold s_X7_fillOtherBest_b34 at h
  by_cases c : (M 54 17) ≤ l3
  · replace h := fps c h
    obtain rfl := Option.some.inj h
    exact fs_refl
  · replace h := fng c h
    by_cases c : ¬ (fand (fshr l1 l3) 1) = 1
    · replace h := fps c h
      replace h := (fgd h).2
      obtain rfl := Option.some.inj h
      exact fs_refl
    · replace h := fng c h
      replace h := (fgd h).2
      obtain ⟨y64, hy, h⟩ := fbd h
      replace h := (fgd h).2
      obtain rfl := Option.some.inj h
      exact fs_refl
noncomputable def s_X7_fillOtherBest_l34 (M : fM) (l1 : Int) (s : (Int × Int)) : Option Int := fLp (fun s => s_X7_fillOtherBest_b34 M l1 s.1 s.2) s
theorem s_X7_fillOtherBest_l34_ok {d L : Nat} {M : fM} {l1 l2 l3 : Int} {r : Int} {Q : fO → fH → Prop} (h : s_X7_fillOtherBest_l34 M l1 (l2, l3) = some r) (hE : ∀ (e : Int) (o3' : Option fV), r = e → Wp (d + 1, 104, 74, 0, 0, [some (fA 54), some (fI l1), some (fI e), o3'], []) (156, fjl L, M) Q) : Wp (d + 1, 104, 34, 0, 0, [some (fA 54), some (fI l1), some (fI l2), some (fI l3)], []) (156, fjl L, M) Q := by
  refine fLp_wp (W := fun s => Wp (d + 1, 104, 34, 0, 0, [some (fA 54), some (fI l1), some (fI s.1), some (fI s.2)], []) (156, fjl L, M) Q) (e := r) ?_ h
  intro s r1 h hC hX
  refine s_X7_fillOtherBest_b34_ok (d := d) h (fun a0 a1 e1 => ?_) (fun e u0 e1 => hE e u0 (hX _ e1).symm)
  exact hC _ e1
noncomputable def s_X7_fillOtherBest_j31 (M : fM) (l1 t0 : Int) : Option ((Int × fM) ⊕ fM) :=
  (s_X7_fillOtherBest_l34 M l1 (t0, 0)).bind fun e34 =>
    if (0 ≤ l1 ∧ l1 < 512) ∧ fin (l1 + 1) then
      some (.inl ((l1 + 1), (fup M 64 (l1).toNat e34)))
    else none
theorem s_X7_fillOtherBest_j31_ok {d L : Nat} {M : fM} {l1 t0 : Int} {o2 o3 : Option fV} {r : ((Int × fM) ⊕ fM)} {Q : fO → fH → Prop} (h : s_X7_fillOtherBest_j31 M l1 t0 = some r) (hC : ∀ (l1' : Int) (M' : fM) (o2' o3' : Option fV), r = .inl (l1', M') → Wp (d + 1, 104, 2, 0, 0, [some (fA 54), some (fI l1'), o2', o3'], []) (156, fjl L, M') Q) (hE : ∀ (e : fM) (o0' o1' o2' o3' : Option fV), r = .inr e → Wp (d + 1, 104, 87, 0, 0, [o0', o1', o2', o3'], []) (156, fjl L, e) Q) : Wp (d + 1, 104, 31, 0, 0, [some (fA 54), some (fI l1), o2, o3], [fI t0]) (156, fjl L, M) Q := by
  unfold s_X7_fillOtherBest_j31 at h
  refine Wp.run 3 (f' := (d + 1, 104, 34, 0, 0, [some (fA 54), some (fI l1), some (fI t0), some (fI 0)], [])) (h' := (156, fjl L, M)) rfl trivial ?_
  obtain ⟨e34, hy, h⟩ := fbd h
  refine s_X7_fillOtherBest_l34_ok hy (fun x u3 ex => ?_)
  cases ex
  show Wp (d + 1, 104, 74, 0, 0, [some (fA 54), some (fI l1), some (fI e34), u3], []) (156, fjl L, M) Q
  obtain ⟨⟨g0, g1⟩, h⟩ := fgd h
  refine Wp.run 7 (P := [0 ≤ l1 ∧ l1 < 512]) (f' := (d + 1, 104, 2, 0, 0, [some (fA 54), some (fI (fw (l1 + 1))), _, _], [])) (h' := (156, fjl L, (fup M 64 (l1).toNat e34))) rfl ?_ ?_
  · exact g0
  rw [fw_id g1]
  exact hC _ _ _ _ (Option.some.inj h).symm
theorem s_X7_fillOtherBest_j31_fr {M : fM} {l1 t0 : Int} {r : ((Int × fM) ⊕ fM)} (h : s_X7_fillOtherBest_j31 M l1 t0 = some r) : fSame s_X7_fillOtherBest_mods M (Sum.elim (fun s => s.2) (fun e => e) r) := by
  unfold s_X7_fillOtherBest_j31 at h
  obtain ⟨e34, hy, h⟩ := fbd h
  replace h := (fgd h).2
  obtain rfl := Option.some.inj h
  exact fs_up fs_refl (.inl (by decide))
noncomputable def s_X7_fillOtherBest_b2 (M : fM) (l1 : Int) : Option ((Int × fM) ⊕ fM) :=
  if (M 54 18) ≤ l1 then
    some (.inr M)
  else
    if (0 ≤ l1 ∧ l1 < 512) then
      if 1000000 ≤ (M 63 (l1).toNat) then
        s_X7_fillOtherBest_j31 M l1 0
      else
        if (0 ≤ l1 ∧ l1 < 512) then
          s_X7_fillOtherBest_j31 M l1 (M 61 (l1).toNat)
        else none
    else none
theorem s_X7_fillOtherBest_b2_ok {d L : Nat} {M : fM} {l1 : Int} {o2 o3 : Option fV} {r : ((Int × fM) ⊕ fM)} {Q : fO → fH → Prop} (h : s_X7_fillOtherBest_b2 M l1 = some r) (hC : ∀ (l1' : Int) (M' : fM) (o2' o3' : Option fV), r = .inl (l1', M') → Wp (d + 1, 104, 2, 0, 0, [some (fA 54), some (fI l1'), o2', o3'], []) (156, fjl L, M') Q) (hE : ∀ (e : fM) (o0' o1' o2' o3' : Option fV), r = .inr e → Wp (d + 1, 104, 87, 0, 0, [o0', o1', o2', o3'], []) (156, fjl L, e) Q) : Wp (d + 1, 104, 2, 0, 0, [some (fA 54), some (fI l1), o2, o3], []) (156, fjl L, M) Q := by
  unfold s_X7_fillOtherBest_b2 at h
  refine Wp.run 3 (f' := (d + 1, 104, 7, 0, 0, [some (fA 54), some (fI l1), _, _], [fI (M 54 18), fI l1])) (h' := (156, fjl L, M)) rfl trivial ?_
  refine Wp.br rfl (fun (c : (M 54 18) ≤ l1) => ?_) (fun (c : ¬ ((M 54 18) ≤ l1)) => ?_)
  · replace h := fps c h
    exact hE _ _ _ _ _ (Option.some.inj h).symm
  · replace h := fng c h
    obtain ⟨g0, h⟩ := fgd h
    refine Wp.run 5 (P := [0 ≤ l1 ∧ l1 < 512]) (f' := (d + 1, 104, 18, 0, 0, [some (fA 54), some (fI l1), _, _], [fI 1000000, fI (M 63 (l1).toNat)])) (h' := (156, fjl L, M)) rfl ?_ ?_
    · exact g0
    refine Wp.br rfl (fun (c : 1000000 ≤ (M 63 (l1).toNat)) => ?_) (fun (c : ¬ (1000000 ≤ (M 63 (l1).toNat))) => ?_)
    · replace h := fps c h
      refine Wp.run 1 (f' := (d + 1, 104, 31, 0, 0, [some (fA 54), some (fI l1), _, _], [fI 0])) (h' := (156, fjl L, M)) rfl trivial ?_
      exact s_X7_fillOtherBest_j31_ok h hC hE
    · replace h := fng c h
      obtain ⟨g0, h⟩ := fgd h
      refine Wp.run 5 (P := [0 ≤ l1 ∧ l1 < 512]) (f' := (d + 1, 104, 31, 0, 0, [some (fA 54), some (fI l1), _, _], [fI (M 61 (l1).toNat)])) (h' := (156, fjl L, M)) rfl ?_ ?_
      · exact g0
      exact s_X7_fillOtherBest_j31_ok h hC hE
theorem s_X7_fillOtherBest_b2_fr {M : fM} {l1 : Int} {r : ((Int × fM) ⊕ fM)} (h : s_X7_fillOtherBest_b2 M l1 = some r) : fSame s_X7_fillOtherBest_mods M (Sum.elim (fun s => s.2) (fun e => e) r) := by
  unfold s_X7_fillOtherBest_b2 at h
  by_cases c : (M 54 18) ≤ l1
  · replace h := fps c h
    obtain rfl := Option.some.inj h
    exact fs_refl
  · replace h := fng c h
    replace h := (fgd h).2
    by_cases c : 1000000 ≤ (M 63 (l1).toNat)
    · replace h := fps c h
      exact fs_trans fs_refl (s_X7_fillOtherBest_j31_fr h)
    · replace h := fng c h
      replace h := (fgd h).2
      exact fs_trans fs_refl (s_X7_fillOtherBest_j31_fr h)
noncomputable def s_X7_fillOtherBest_l2 (s : (Int × fM)) : Option fM := fLp (fun s => s_X7_fillOtherBest_b2 s.2 s.1) s
theorem s_X7_fillOtherBest_l2_ok {d L : Nat} {M : fM} {l1 : Int} {o2 o3 : Option fV} {r : fM} {Q : fO → fH → Prop} (h : s_X7_fillOtherBest_l2 (l1, M) = some r) (hE : ∀ (e : fM) (o0' o1' o2' o3' : Option fV), r = e → Wp (d + 1, 104, 87, 0, 0, [o0', o1', o2', o3'], []) (156, fjl L, e) Q) : Wp (d + 1, 104, 2, 0, 0, [some (fA 54), some (fI l1), o2, o3], []) (156, fjl L, M) Q := by
  refine fLp_wp (W := fun s => ∀ (o2 o3 : Option fV), Wp (d + 1, 104, 2, 0, 0, [some (fA 54), some (fI s.1), o2, o3], []) (156, fjl L, s.2) Q) (e := r) ?_ h _ _
  intro s r1 h hC hX o2 o3
  refine s_X7_fillOtherBest_b2_ok (d := d) h (fun a0 a1 _ _ e1 => ?_) (fun e u0 u1 u2 u3 e1 => hE e u0 u1 u2 u3 (hX _ e1).symm)
  exact hC _ e1 _ _
theorem s_X7_fillOtherBest_l2_fr {M : fM} {l1 : Int} {r : fM} (h : s_X7_fillOtherBest_l2 (l1, M) = some r) : fSame s_X7_fillOtherBest_mods M ((fun e => e) r) := by
  refine fLp_inv (I := fun s => fSame s_X7_fillOtherBest_mods M s.2) (J := fun r => fSame s_X7_fillOtherBest_mods M ((fun e => e) r)) h fs_refl (fun s s1 hs hb => ?_) (fun s e hs hb => ?_)
  · exact fs_trans hs (s_X7_fillOtherBest_b2_fr hb)
  · exact fs_trans hs (s_X7_fillOtherBest_b2_fr hb)
noncomputable def s_X7_fillOtherBest (M : fM) : Option (Unit × fM) :=
  (s_X7_fillOtherBest_l2 (0, M)).bind fun e2 =>
    some ((), e2)
theorem s_X7_fillOtherBest_ok {d L : Nat} {M : fM} {r : (Unit × fM)} {Q : fO → fH → Prop} (h : s_X7_fillOtherBest M = some r) (H : Q (oV r.1) (156, fjl L, r.2)) : Wp (d + 1, 104, 0, 0, 0, [some (fA 54), none, none, none], []) (156, fjl L, M) Q := by
  unfold s_X7_fillOtherBest at h
  refine Wp.run 2 (f' := (d + 1, 104, 2, 0, 0, [some (fA 54), some (fI 0), _, _], [])) (h' := (156, fjl L, M)) rfl trivial ?_
  obtain ⟨e2, hy, h⟩ := fbd h
  refine s_X7_fillOtherBest_l2_ok hy (fun x u0 u1 u2 u3 ex => ?_)
  cases ex
  show Wp (d + 1, 104, 87, 0, 0, [u0, u1, u2, u3], []) (156, fjl L, e2) Q
  obtain rfl := Option.some.inj h
  exact Wp.done rfl (by decide) H
theorem s_X7_fillOtherBest_fr {M : fM} {r : (Unit × fM)} (h : s_X7_fillOtherBest M = some r) : fSame s_X7_fillOtherBest_mods M r.2 := by
  unfold s_X7_fillOtherBest at h
  obtain ⟨e2, hy, h⟩ := fbd h
  have k2 := fs_trans (l := s_X7_fillOtherBest_mods) fs_refl (s_X7_fillOtherBest_l2_fr hy)
  obtain rfl := Option.some.inj h
  exact k2
abbrev s_X7_bestOfTwo_mods : List (Nat × Option Nat) := [(43, some 5), (43, some 6), (44, none), (45, none), (46, none), (54, some 17), (54, some 18), (56, none), (57, none), (58, none), (59, none), (60, none), (61, none), (62, none), (63, none), (64, none)]
noncomputable def s_X7_bestOfTwo_b33 (M : fM) (l5 l6 : Int) : Option ((Int × Int) ⊕ Int) :=
  if (M 54 18) ≤ l6 then
    some (.inr l5)
  else
    if (0 ≤ l6 ∧ l6 < 512) then
      if 1000000 ≤ (M 63 (l6).toNat) then
        if fin (l6 + 1) then
          some (.inl (l5, (l6 + 1)))
        else none
      else
        if (0 ≤ l6 ∧ l6 < 512) ∧ fin ((M 54 18) - 1) ∧ fin (((M 54 18) - 1) - l6) ∧ (0 ≤ (((M 54 18) - 1) - l6) ∧ (((M 54 18) - 1) - l6) < 512) ∧ fin ((M 61 (l6).toNat) + (M 64 (((M 54 18) - 1) - l6).toNat)) then
          (s_J9_max M l5 ((M 61 (l6).toNat) + (M 64 (((M 54 18) - 1) - l6).toNat))).bind fun y78 =>
            if fin (l6 + 1) then
              some (.inl (y78, (l6 + 1)))
            else none
        else none
    else none
theorem s_X7_bestOfTwo_b33_ok {d L : Nat} {M : fM} {l5 l6 : Int} {o1 o2 o3 o4 : Option fV} {r : ((Int × Int) ⊕ Int)} {Q : fO → fH → Prop} (h : s_X7_bestOfTwo_b33 M l5 l6 = some r) (hC : ∀ (l5' l6' : Int) (o1' o2' o3' o4' : Option fV), r = .inl (l5', l6') → Wp (d + 6, 103, 33, 0, 0, [some (fA 54), o1', o2', o3', o4', some (fI l5'), some (fI l6')], []) (156, fjl L, M) Q) (hE : ∀ (e : Int) (o0' o1' o2' o3' o4' o6' : Option fV), r = .inr e → Wp (d + 6, 103, 89, 0, 0, [o0', o1', o2', o3', o4', some (fI e), o6'], []) (156, fjl L, M) Q) : Wp (d + 6, 103, 33, 0, 0, [some (fA 54), o1, o2, o3, o4, some (fI l5), some (fI l6)], []) (156, fjl L, M) Q := by
  unfold s_X7_bestOfTwo_b33 at h
  refine Wp.run 3 (f' := (d + 6, 103, 39, 0, 0, [some (fA 54), _, _, _, _, some (fI l5), some (fI l6)], [fI (M 54 18), fI l6])) (h' := (156, fjl L, M)) rfl trivial ?_
  refine Wp.br rfl (fun (c : (M 54 18) ≤ l6) => ?_) (fun (c : ¬ ((M 54 18) ≤ l6)) => ?_)
  · replace h := fps c h
    exact hE _ _ _ _ _ _ _ (Option.some.inj h).symm
  · replace h := fng c h
    obtain ⟨g0, h⟩ := fgd h
    refine Wp.run 5 (P := [0 ≤ l6 ∧ l6 < 512]) (f' := (d + 6, 103, 51, 0, 0, [some (fA 54), _, _, _, _, some (fI l5), some (fI l6)], [fI 1000000, fI (M 63 (l6).toNat)])) (h' := (156, fjl L, M)) rfl ?_ ?_
    · exact g0
    refine Wp.br rfl (fun (c : 1000000 ≤ (M 63 (l6).toNat)) => ?_) (fun (c : ¬ (1000000 ≤ (M 63 (l6).toNat))) => ?_)
    · replace h := fps c h
      obtain ⟨g0, h⟩ := fgd h
      refine Wp.run 2 (f' := (d + 6, 103, 33, 0, 0, [some (fA 54), _, _, _, _, some (fI l5), some (fI (fw (l6 + 1)))], [])) (h' := (156, fjl L, M)) rfl trivial ?_
      rw [fw_id g0]
      exact hC _ _ _ _ _ _ (Option.some.inj h).symm
    · replace h := fng c h
      obtain ⟨⟨g0, g1, g2, g3, g4⟩, h⟩ := fgd h
      refine Wp.run 15 (P := [0 ≤ l6 ∧ l6 < 512, 0 ≤ (fw ((fw ((M 54 18) - 1)) - l6)) ∧ (fw ((fw ((M 54 18) - 1)) - l6)) < 512]) (f' := (d + 6, 103, 78, 0, 0, [some (fA 54), _, _, _, _, _, some (fI l6)], [fI (fw ((M 61 (l6).toNat) + (M 64 (fw ((fw ((M 54 18) - 1)) - l6)).toNat))), fI l5])) (h' := (156, fjl L, M)) rfl ?_ ?_
      · rw [fw_id g1, fw_id g2]; exact ⟨g0, g3⟩
      rw [fw_id g1, fw_id g2, fw_id g4]
      obtain ⟨y78, hy, h⟩ := fbd h
      refine Wp.call rfl (by decide) (s_J9_max_ok (d := d + 5) hy ?_)
      show Wp (d + 6, 103, 81, 0, 0, [some (fA 54), _, _, _, _, _, some (fI l6)], [fI y78]) (156, fjl L, M) Q
      obtain ⟨g0, h⟩ := fgd h
      refine Wp.run 3 (f' := (d + 6, 103, 33, 0, 0, [some (fA 54), _, _, _, _, some (fI y78), some (fI (fw (l6 + 1)))], [])) (h' := (156, fjl L, M)) rfl trivial ?_
      rw [fw_id g0]
      exact hC _ _ _ _ _ _ (Option.some.inj h).symm
theorem s_X7_bestOfTwo_b33_fr {M : fM} {l5 l6 : Int} {r : ((Int × Int) ⊕ Int)} (h : s_X7_bestOfTwo_b33 M l5 l6 = some r) : fSame s_X7_bestOfTwo_mods M (Sum.elim (fun _ => M) (fun _ => M) r) := by
  unfold s_X7_bestOfTwo_b33 at h
  by_cases c : (M 54 18) ≤ l6
  · replace h := fps c h
    obtain rfl := Option.some.inj h
    exact fs_refl
  · replace h := fng c h
    replace h := (fgd h).2
    by_cases c : 1000000 ≤ (M 63 (l6).toNat)
    · replace h := fps c h
      replace h := (fgd h).2
      obtain rfl := Option.some.inj h
      exact fs_refl
    · replace h := fng c h
      replace h := (fgd h).2
      obtain ⟨y78, hy, h⟩ := fbd h
      replace h := (fgd h).2
      obtain rfl := Option.some.inj h
      exact fs_refl
noncomputable def s_X7_bestOfTwo_l33 (M : fM) (s : (Int × Int)) : Option Int := fLp (fun s => s_X7_bestOfTwo_b33 M s.1 s.2) s
theorem s_X7_bestOfTwo_l33_ok {d L : Nat} {M : fM} {l5 l6 : Int} {o1 o2 o3 o4 : Option fV} {r : Int} {Q : fO → fH → Prop} (h : s_X7_bestOfTwo_l33 M (l5, l6) = some r) (hE : ∀ (e : Int) (o0' o1' o2' o3' o4' o6' : Option fV), r = e → Wp (d + 6, 103, 89, 0, 0, [o0', o1', o2', o3', o4', some (fI e), o6'], []) (156, fjl L, M) Q) : Wp (d + 6, 103, 33, 0, 0, [some (fA 54), o1, o2, o3, o4, some (fI l5), some (fI l6)], []) (156, fjl L, M) Q := by
  refine fLp_wp (W := fun s => ∀ (o1 o2 o3 o4 : Option fV), Wp (d + 6, 103, 33, 0, 0, [some (fA 54), o1, o2, o3, o4, some (fI s.1), some (fI s.2)], []) (156, fjl L, M) Q) (e := r) ?_ h _ _ _ _
  intro s r1 h hC hX o1 o2 o3 o4
  refine s_X7_bestOfTwo_b33_ok (d := d) h (fun a0 a1 _ _ _ _ e1 => ?_) (fun e u0 u1 u2 u3 u4 u5 e1 => hE e u0 u1 u2 u3 u4 u5 (hX _ e1).symm)
  exact hC _ e1 _ _ _ _
noncomputable def s_X7_bestOfTwo (M : fM) (l1 l2 l3 l4 : Int) : Option (Int × fM) :=
  (s_X7_place M l1 l4).bind fun y4 =>
    (s_X7_weigh y4.2 l4).bind fun y10 =>
      (s_X7_fillHomes y10.2 l3).bind fun y15 =>
        (s_X7_fillOtherBest y15.2).bind fun y19 =>
          (s_X7_fillHomes y19.2 l2).bind fun y24 =>
            (s_X7_bestOfTwo_l33 y24.2 (0, 0)).bind fun e33 =>
              some (e33, y24.2)
theorem s_X7_bestOfTwo_ok {d L : Nat} {M : fM} {l1 l2 l3 l4 : Int} {r : (Int × fM)} {Q : fO → fH → Prop} (h : s_X7_bestOfTwo M l1 l2 l3 l4 = some r) (H : Q (oI r.1) (156, fjl L, r.2)) : Wp (d + 6, 103, 0, 0, 0, [some (fA 54), some (fI l1), some (fI l2), some (fI l3), some (fI l4), none, none], []) (156, fjl L, M) Q := by
  unfold s_X7_bestOfTwo at h
  refine Wp.run 3 (f' := (d + 6, 103, 4, 0, 0, [some (fA 54), _, some (fI l2), some (fI l3), some (fI l4), _, _], [fI l4, fI l1, fA 54])) (h' := (156, fjl L, M)) rfl trivial ?_
  obtain ⟨y4, hy, h⟩ := fbd h
  refine Wp.call rfl (by decide) (s_X7_place_ok (d := d + 3) hy ?_)
  show Wp (d + 6, 103, 7, 0, 0, [some (fA 54), _, some (fI l2), some (fI l3), some (fI l4), _, _], []) (156, fjl L, y4.2) Q
  refine Wp.run 2 (f' := (d + 6, 103, 10, 0, 0, [some (fA 54), _, some (fI l2), some (fI l3), _, _, _], [fI l4, fA 54])) (h' := (156, fjl L, y4.2)) rfl trivial ?_
  obtain ⟨y10, hy, h⟩ := fbd h
  refine Wp.call rfl (by decide) (s_X7_weigh_ok (d := d + 0) hy ?_)
  show Wp (d + 6, 103, 13, 0, 0, [some (fA 54), _, some (fI l2), some (fI l3), _, _, _], []) (156, fjl L, y10.2) Q
  refine Wp.run 2 (f' := (d + 6, 103, 15, 0, 0, [some (fA 54), _, some (fI l2), _, _, _, _], [fI l3, fA 54])) (h' := (156, fjl L, y10.2)) rfl trivial ?_
  obtain ⟨y15, hy, h⟩ := fbd h
  refine Wp.call rfl (by decide) (s_X7_fillHomes_ok (d := d + 2) hy ?_)
  show Wp (d + 6, 103, 18, 0, 0, [some (fA 54), _, some (fI l2), _, _, _, _], []) (156, fjl L, y15.2) Q
  refine Wp.run 1 (f' := (d + 6, 103, 19, 0, 0, [some (fA 54), _, some (fI l2), _, _, _, _], [fA 54])) (h' := (156, fjl L, y15.2)) rfl trivial ?_
  obtain ⟨y19, hy, h⟩ := fbd h
  refine Wp.call rfl (by decide) (s_X7_fillOtherBest_ok (d := d + 4) hy ?_)
  show Wp (d + 6, 103, 22, 0, 0, [some (fA 54), _, some (fI l2), _, _, _, _], []) (156, fjl L, y19.2) Q
  refine Wp.run 2 (f' := (d + 6, 103, 24, 0, 0, [some (fA 54), _, _, _, _, _, _], [fI l2, fA 54])) (h' := (156, fjl L, y19.2)) rfl trivial ?_
  obtain ⟨y24, hy, h⟩ := fbd h
  refine Wp.call rfl (by decide) (s_X7_fillHomes_ok (d := d + 2) hy ?_)
  show Wp (d + 6, 103, 27, 0, 0, [some (fA 54), _, _, _, _, _, _], []) (156, fjl L, y24.2) Q
  refine Wp.run 4 (f' := (d + 6, 103, 33, 0, 0, [some (fA 54), _, _, _, _, some (fI 0), some (fI 0)], [])) (h' := (156, fjl L, y24.2)) rfl trivial ?_
  obtain ⟨e33, hy, h⟩ := fbd h
  refine s_X7_bestOfTwo_l33_ok hy (fun x u0 u1 u2 u3 u4 u6 ex => ?_)
  cases ex
  show Wp (d + 6, 103, 89, 0, 0, [u0, u1, u2, u3, u4, some (fI e33), u6], []) (156, fjl L, y24.2) Q
  refine Wp.run 1 (f' := (d + 6, 103, 91, 0, 0, [_, _, _, _, _, _, _], [fI e33])) (h' := (156, fjl L, y24.2)) rfl trivial ?_
  obtain rfl := Option.some.inj h
  exact Wp.done rfl (by decide) H
theorem s_X7_bestOfTwo_fr {M : fM} {l1 l2 l3 l4 : Int} {r : (Int × fM)} (h : s_X7_bestOfTwo M l1 l2 l3 l4 = some r) : fSame s_X7_bestOfTwo_mods M r.2 := by
  unfold s_X7_bestOfTwo at h
  obtain ⟨y4, hy, h⟩ := fbd h
  have k4 := fs_trans (l := s_X7_bestOfTwo_mods) fs_refl (fs_mono (l := s_X7_place_mods) (by decide) (s_X7_place_fr hy))
  obtain ⟨y10, hy, h⟩ := fbd h
  have k10 := fs_trans (l := s_X7_bestOfTwo_mods) k4 (fs_mono (l := s_X7_weigh_mods) (by decide) (s_X7_weigh_fr hy))
  obtain ⟨y15, hy, h⟩ := fbd h
  have k15 := fs_trans (l := s_X7_bestOfTwo_mods) k10 (fs_mono (l := s_X7_fillHomes_mods) (by decide) (s_X7_fillHomes_fr hy))
  obtain ⟨y19, hy, h⟩ := fbd h
  have k19 := fs_trans (l := s_X7_bestOfTwo_mods) k15 (fs_mono (l := s_X7_fillOtherBest_mods) (by decide) (s_X7_fillOtherBest_fr hy))
  obtain ⟨y24, hy, h⟩ := fbd h
  have k24 := fs_trans (l := s_X7_bestOfTwo_mods) k19 (fs_mono (l := s_X7_fillHomes_mods) (by decide) (s_X7_fillHomes_fr hy))
  obtain ⟨e33, hy, h⟩ := fbd h
  obtain rfl := Option.some.inj h
  exact k24
abbrev s_X11_two_mods : List (Nat × Option Nat) := [(1, some 2), (43, some 5), (43, some 6), (44, none), (45, none), (46, none), (54, some 17), (54, some 18), (55, none), (56, none), (57, none), (58, none), (59, none), (60, none), (61, none), (62, none), (63, none), (64, none)]
noncomputable def s_X11_two (M : fM) (l1 l2 l3 : Int) : Option (Int × fM) :=
  (s_X10_movePianos_55 M (M 4 13)).bind fun y18 =>
    if y18.1 < 0 then
      some ((-1), y18.2)
    else
      (s_X2_hasTuner_4 y18.2 l1).bind fun y33 =>
        if y33 = 0 then
          some ((-1), y18.2)
        else
          (s_X2_hasTuner_4 y18.2 l2).bind fun y44 =>
            if y44 = 0 then
              some ((-1), y18.2)
            else
              if l1 = l2 then
                some ((-1), y18.2)
              else
                (s_X11_isWithin y18.2 l3 364).bind fun y59 =>
                  if ¬ y59 = 0 then
                    (s_X7_bestOfTwo y18.2 y18.1 l1 l2 l3).bind fun y76 =>
                      some (y76.1, y76.2)
                  else
                    some ((-1), y18.2)
theorem s_X11_two_ok {d L : Nat} {M : fM} {l1 l2 l3 : Int} {r : (Int × fM)} {Q : fO → fH → Prop} (h : s_X11_two M l1 l2 l3 = some r) (H : Q (oI r.1) (156, fjl L, r.2)) : Wp (d + 7, 174, 0, 0, 0, [some (fA 0), some (fI l1), some (fI l2), some (fI l3), none], []) (156, fjl L, M) Q := by
  unfold s_X11_two at h
  refine Wp.run 8 (f' := (d + 7, 174, 18, 0, 0, [some (fA 0), some (fI l1), some (fI l2), some (fI l3), _], [fI (M 4 13), fA 55, fA 1])) (h' := (156, fjl L, M)) rfl trivial ?_
  obtain ⟨y18, hy, h⟩ := fbd h
  refine Wp.call rfl (by decide) (s_X10_movePianos_55_ok (d := d + 6) hy ?_)
  show Wp (d + 7, 174, 21, 0, 0, [some (fA 0), some (fI l1), some (fI l2), some (fI l3), _], [fI y18.1]) (156, fjl L, y18.2) Q
  refine Wp.run 2 (f' := (d + 7, 174, 25, 0, 0, [some (fA 0), some (fI l1), some (fI l2), some (fI l3), some (fI y18.1)], [fI y18.1])) (h' := (156, fjl L, y18.2)) rfl trivial ?_
  refine Wp.br rfl (fun (c : y18.1 < 0) => ?_) (fun (c : ¬ (y18.1 < 0)) => ?_)
  · replace h := fps c h
    refine Wp.run 1 (f' := (d + 7, 174, 66, 0, 0, [_, _, _, _, _], [fI (-1)])) (h' := (156, fjl L, y18.2)) rfl trivial ?_
    obtain rfl := Option.some.inj h
    exact Wp.done rfl (by decide) H
  · replace h := fng c h
    refine Wp.run 3 (f' := (d + 7, 174, 33, 0, 0, [some (fA 0), some (fI l1), some (fI l2), some (fI l3), some (fI y18.1)], [fI l1, fA 4])) (h' := (156, fjl L, y18.2)) rfl trivial ?_
    obtain ⟨y33, hy, h⟩ := fbd h
    refine Wp.call rfl (by decide) (s_X2_hasTuner_4_ok (d := d + 6) hy ?_)
    show Wp (d + 7, 174, 36, 0, 0, [some (fA 0), some (fI l1), some (fI l2), some (fI l3), some (fI y18.1)], [fI y33]) (156, fjl L, y18.2) Q
    refine Wp.br rfl (fun (c : y33 = 0) => ?_) (fun (c : ¬ (y33 = 0)) => ?_)
    · replace h := fps c h
      refine Wp.run 1 (f' := (d + 7, 174, 66, 0, 0, [_, _, _, _, _], [fI (-1)])) (h' := (156, fjl L, y18.2)) rfl trivial ?_
      obtain rfl := Option.some.inj h
      exact Wp.done rfl (by decide) H
    · replace h := fng c h
      refine Wp.run 3 (f' := (d + 7, 174, 44, 0, 0, [some (fA 0), some (fI l1), some (fI l2), some (fI l3), some (fI y18.1)], [fI l2, fA 4])) (h' := (156, fjl L, y18.2)) rfl trivial ?_
      obtain ⟨y44, hy, h⟩ := fbd h
      refine Wp.call rfl (by decide) (s_X2_hasTuner_4_ok (d := d + 6) hy ?_)
      show Wp (d + 7, 174, 47, 0, 0, [some (fA 0), some (fI l1), some (fI l2), some (fI l3), some (fI y18.1)], [fI y44]) (156, fjl L, y18.2) Q
      refine Wp.br rfl (fun (c : y44 = 0) => ?_) (fun (c : ¬ (y44 = 0)) => ?_)
      · replace h := fps c h
        refine Wp.run 1 (f' := (d + 7, 174, 66, 0, 0, [_, _, _, _, _], [fI (-1)])) (h' := (156, fjl L, y18.2)) rfl trivial ?_
        obtain rfl := Option.some.inj h
        exact Wp.done rfl (by decide) H
      · replace h := fng c h
        refine Wp.run 2 (f' := (d + 7, 174, 52, 0, 0, [some (fA 0), some (fI l1), some (fI l2), some (fI l3), some (fI y18.1)], [fI l2, fI l1])) (h' := (156, fjl L, y18.2)) rfl trivial ?_
        refine Wp.br rfl (fun (c : l1 = l2) => ?_) (fun (c : ¬ (l1 = l2)) => ?_)
        · replace h := fps c h
          refine Wp.run 1 (f' := (d + 7, 174, 66, 0, 0, [_, _, _, _, _], [fI (-1)])) (h' := (156, fjl L, y18.2)) rfl trivial ?_
          obtain rfl := Option.some.inj h
          exact Wp.done rfl (by decide) H
        · replace h := fng c h
          refine Wp.run 2 (f' := (d + 7, 174, 59, 0, 0, [some (fA 0), some (fI l1), some (fI l2), some (fI l3), some (fI y18.1)], [fI 364, fI l3])) (h' := (156, fjl L, y18.2)) rfl trivial ?_
          obtain ⟨y59, hy, h⟩ := fbd h
          refine Wp.call rfl (by decide) (s_X11_isWithin_ok (d := d + 6) hy ?_)
          show Wp (d + 7, 174, 62, 0, 0, [some (fA 0), some (fI l1), some (fI l2), some (fI l3), some (fI y18.1)], [fI y59]) (156, fjl L, y18.2) Q
          refine Wp.br rfl (fun (c : ¬ y59 = 0) => ?_) (fun (c : ¬ (¬ y59 = 0)) => ?_)
          · replace h := fps c h
            refine Wp.run 6 (f' := (d + 7, 174, 76, 0, 0, [_, _, _, _, _], [fI l3, fI l2, fI l1, fI y18.1, fA 54])) (h' := (156, fjl L, y18.2)) rfl trivial ?_
            obtain ⟨y76, hy, h⟩ := fbd h
            refine Wp.call rfl (by decide) (s_X7_bestOfTwo_ok (d := d + 0) hy ?_)
            show Wp (d + 7, 174, 79, 0, 0, [_, _, _, _, _], [fI y76.1]) (156, fjl L, y76.2) Q
            obtain rfl := Option.some.inj h
            exact Wp.done rfl (by decide) H
          · replace h := fng c h
            refine Wp.run 1 (f' := (d + 7, 174, 66, 0, 0, [_, _, _, _, _], [fI (-1)])) (h' := (156, fjl L, y18.2)) rfl trivial ?_
            obtain rfl := Option.some.inj h
            exact Wp.done rfl (by decide) H
theorem s_X11_two_fr {M : fM} {l1 l2 l3 : Int} {r : (Int × fM)} (h : s_X11_two M l1 l2 l3 = some r) : fSame s_X11_two_mods M r.2 := by
  unfold s_X11_two at h
  obtain ⟨y18, hy, h⟩ := fbd h
  have k18 := fs_trans (l := s_X11_two_mods) fs_refl (fs_mono (l := s_X10_movePianos_55_mods) (by decide) (s_X10_movePianos_55_fr hy))
  by_cases c : y18.1 < 0
  · replace h := fps c h
    obtain rfl := Option.some.inj h
    exact k18
  · replace h := fng c h
    obtain ⟨y33, hy, h⟩ := fbd h
    by_cases c : y33 = 0
    · replace h := fps c h
      obtain rfl := Option.some.inj h
      exact k18
    · replace h := fng c h
      obtain ⟨y44, hy, h⟩ := fbd h
      by_cases c : y44 = 0
      · replace h := fps c h
        obtain rfl := Option.some.inj h
        exact k18
      · replace h := fng c h
        by_cases c : l1 = l2
        · replace h := fps c h
          obtain rfl := Option.some.inj h
          exact k18
        · replace h := fng c h
          obtain ⟨y59, hy, h⟩ := fbd h
          by_cases c : ¬ y59 = 0
          · replace h := fps c h
            obtain ⟨y76, hy, h⟩ := fbd h
            have k76 := fs_trans (l := s_X11_two_mods) k18 (fs_mono (l := s_X7_bestOfTwo_mods) (by decide) (s_X7_bestOfTwo_fr hy))
            obtain rfl := Option.some.inj h
            exact k76
          · replace h := fng c h
            obtain rfl := Option.some.inj h
            exact k18
abbrev s_X12_sets_mods : List (Nat × Option Nat) := [(122, some 40), (122, some 41), (143, none), (144, none)]
noncomputable def s_X12_sets_b111 (M : fM) (l1 l2 l3 l4 l5 l6 : Int) : Option ((Int × fM) ⊕ fM) :=
  if (M 122 39) ≤ l6 then
    some (.inr M)
  else
    if (fand (fshr l5 l6) 1) = 0 then
      if fin (l6 + 1) then
        some (.inl ((l6 + 1), M))
      else none
    else
      if fin (9 * l5) ∧ fin ((9 * l5) + l6) ∧ (0 ≤ ((9 * l5) + l6) ∧ ((9 * l5) + l6) < 4608) then
        if (M 144 ((9 * l5) + l6).toNat) < 1000000 then
          if fin (9 * l5) ∧ fin ((9 * l5) + l6) ∧ (0 ≤ ((9 * l5) + l6) ∧ ((9 * l5) + l6) < 4608) then
            (s_X12_done M l4 l6 (M 144 ((9 * l5) + l6).toNat)).bind fun y170 =>
              if fin (9 * l2) ∧ fin ((9 * l2) + l4) ∧ (0 ≤ ((9 * l2) + l4) ∧ ((9 * l2) + l4) < 4608) then
                if (M 144 ((9 * l2) + l4).toNat) ≤ y170 then
                  if fin (9 * l2) ∧ fin ((9 * l2) + l4) ∧ (0 ≤ ((9 * l2) + l4) ∧ ((9 * l2) + l4) < 4608) ∧ fin (l6 + 1) then
                    some (.inl ((l6 + 1), (fup M 144 ((9 * l2) + l4).toNat (M 144 ((9 * l2) + l4).toNat))))
                  else none
                else
                  if (0 ≤ ((9 * l2) + l4) ∧ ((9 * l2) + l4) < 4608) ∧ fin (l6 + 1) then
                    some (.inl ((l6 + 1), (fup M 144 ((9 * l2) + l4).toNat y170)))
                  else none
              else none
          else none
        else
          if fin (l6 + 1) then
            some (.inl ((l6 + 1), M))
          else none
      else none
theorem s_X12_sets_b111_ok {d L : Nat} {M : fM} {l1 l2 l3 l4 l5 l6 : Int} {o7 : Option fV} {r : ((Int × fM) ⊕ fM)} {Q : fO → fH → Prop} (h : s_X12_sets_b111 M l1 l2 l3 l4 l5 l6 = some r) (hC : ∀ (l6' : Int) (M' : fM) (o7' : Option fV), r = .inl (l6', M') → Wp (d + 3, 289, 111, 0, 0, [some (fA 122), some (fI l1), some (fI l2), some (fI l3), some (fI l4), some (fI l5), some (fI l6'), o7'], []) (156, fjl L, M') Q) (hE : ∀ (e : fM) (o5' o6' o7' : Option fV), r = .inr e → Wp (d + 3, 289, 227, 0, 0, [some (fA 122), some (fI l1), some (fI l2), some (fI l3), some (fI l4), o5', o6', o7'], []) (156, fjl L, e) Q) : Wp (d + 3, 289, 111, 0, 0, [some (fA 122), some (fI l1), some (fI l2), some (fI l3), some (fI l4), some (fI l5), some (fI l6), o7], []) (156, fjl L, M) Q := by
  unfold s_X12_sets_b111 at h
  refine Wp.run 3 (f' := (d + 3, 289, 117, 0, 0, [some (fA 122), some (fI l1), some (fI l2), some (fI l3), some (fI l4), some (fI l5), some (fI l6), _], [fI (M 122 39), fI l6])) (h' := (156, fjl L, M)) rfl trivial ?_
  refine Wp.br rfl (fun (c : (M 122 39) ≤ l6) => ?_) (fun (c : ¬ ((M 122 39) ≤ l6)) => ?_)
  · replace h := fps c h
    exact hE _ _ _ _ (Option.some.inj h).symm
  · replace h := fng c h
    refine Wp.run 5 (f' := (d + 3, 289, 127, 0, 0, [some (fA 122), some (fI l1), some (fI l2), some (fI l3), some (fI l4), some (fI l5), some (fI l6), _], [fI (fand (fshr l5 l6) 1)])) (h' := (156, fjl L, M)) rfl trivial ?_
    refine Wp.br rfl (fun (c : (fand (fshr l5 l6) 1) = 0) => ?_) (fun (c : ¬ ((fand (fshr l5 l6) 1) = 0)) => ?_)
    · replace h := fps c h
      obtain ⟨g0, h⟩ := fgd h
      refine Wp.run 2 (f' := (d + 3, 289, 111, 0, 0, [some (fA 122), some (fI l1), some (fI l2), some (fI l3), some (fI l4), some (fI l5), some (fI (fw (l6 + 1))), _], [])) (h' := (156, fjl L, M)) rfl trivial ?_
      rw [fw_id g0]
      exact hC _ _ _ (Option.some.inj h).symm
    · replace h := fng c h
      obtain ⟨⟨g0, g1, g2⟩, h⟩ := fgd h
      refine Wp.run 9 (P := [0 ≤ (fw ((fw (9 * l5)) + l6)) ∧ (fw ((fw (9 * l5)) + l6)) < 4608]) (f' := (d + 3, 289, 146, 0, 0, [some (fA 122), some (fI l1), some (fI l2), some (fI l3), some (fI l4), some (fI l5), some (fI l6), _], [fI 1000000, fI (M 144 (fw ((fw (9 * l5)) + l6)).toNat)])) (h' := (156, fjl L, M)) rfl ?_ ?_
      · rw [fw_id g0, fw_id g1]; exact g2
      rw [fw_id g0, fw_id g1]
      refine Wp.br rfl (fun (c : (M 144 ((9 * l5) + l6).toNat) < 1000000) => ?_) (fun (c : ¬ ((M 144 ((9 * l5) + l6).toNat) < 1000000)) => ?_)
      · replace h := fps c h
        obtain ⟨⟨g0, g1, g2⟩, h⟩ := fgd h
        refine Wp.run 11 (P := [0 ≤ (fw ((fw (9 * l5)) + l6)) ∧ (fw ((fw (9 * l5)) + l6)) < 4608]) (f' := (d + 3, 289, 170, 0, 0, [some (fA 122), some (fI l1), some (fI l2), some (fI l3), some (fI l4), some (fI l5), some (fI l6), _], [fI (M 144 (fw ((fw (9 * l5)) + l6)).toNat), fI l6, fI l4, fA 122])) (h' := (156, fjl L, M)) rfl ?_ ?_
        · rw [fw_id g0, fw_id g1]; exact g2
        rw [fw_id g0, fw_id g1]
        obtain ⟨y170, hy, h⟩ := fbd h
        refine Wp.call rfl (by decide) (s_X12_done_ok (d := d + 0) hy ?_)
        show Wp (d + 3, 289, 173, 0, 0, [some (fA 122), some (fI l1), some (fI l2), some (fI l3), some (fI l4), some (fI l5), some (fI l6), _], [fI y170]) (156, fjl L, M) Q
        obtain ⟨⟨g0, g1, g2⟩, h⟩ := fgd h
        refine Wp.run 17 (P := [0 ≤ (fw ((fw (9 * l2)) + l4)) ∧ (fw ((fw (9 * l2)) + l4)) < 4608]) (f' := (d + 3, 289, 200, 0, 0, [some (fA 122), some (fI l1), some (fI l2), some (fI l3), some (fI l4), some (fI l5), some (fI l6), some (fI y170)], [fI (M 144 (fw ((fw (9 * l2)) + l4)).toNat), fI y170, fI (fw ((fw (9 * l2)) + l4)), fA 144])) (h' := (156, fjl L, M)) rfl ?_ ?_
        · rw [fw_id g0, fw_id g1]; exact g2
        rw [fw_id g0, fw_id g1]
        refine Wp.br rfl (fun (c : (M 144 ((9 * l2) + l4).toNat) ≤ y170) => ?_) (fun (c : ¬ ((M 144 ((9 * l2) + l4).toNat) ≤ y170)) => ?_)
        · replace h := fps c h
          obtain ⟨⟨g0, g1, g2, g3⟩, h⟩ := fgd h
          refine Wp.run 11 (P := [0 ≤ (fw ((fw (9 * l2)) + l4)) ∧ (fw ((fw (9 * l2)) + l4)) < 4608, 0 ≤ ((9 * l2) + l4) ∧ ((9 * l2) + l4) < 4608]) (f' := (d + 3, 289, 111, 0, 0, [some (fA 122), some (fI l1), some (fI l2), some (fI l3), some (fI l4), some (fI l5), some (fI (fw (l6 + 1))), _], [])) (h' := (156, fjl L, (fup M 144 ((9 * l2) + l4).toNat (M 144 (fw ((fw (9 * l2)) + l4)).toNat)))) rfl ?_ ?_
          · rw [fw_id g0, fw_id g1]; exact ⟨g2, g2⟩
          rw [fw_id g3, fw_id g0, fw_id g1]
          exact hC _ _ _ (Option.some.inj h).symm
        · replace h := fng c h
          obtain ⟨⟨g0, g1⟩, h⟩ := fgd h
          refine Wp.run 5 (P := [0 ≤ ((9 * l2) + l4) ∧ ((9 * l2) + l4) < 4608]) (f' := (d + 3, 289, 111, 0, 0, [some (fA 122), some (fI l1), some (fI l2), some (fI l3), some (fI l4), some (fI l5), some (fI (fw (l6 + 1))), _], [])) (h' := (156, fjl L, (fup M 144 ((9 * l2) + l4).toNat y170))) rfl ?_ ?_
          · exact g0
          rw [fw_id g1]
          exact hC _ _ _ (Option.some.inj h).symm
      · replace h := fng c h
        obtain ⟨g0, h⟩ := fgd h
        refine Wp.run 3 (f' := (d + 3, 289, 111, 0, 0, [some (fA 122), some (fI l1), some (fI l2), some (fI l3), some (fI l4), some (fI l5), some (fI (fw (l6 + 1))), _], [])) (h' := (156, fjl L, M)) rfl trivial ?_
        rw [fw_id g0]
        exact hC _ _ _ (Option.some.inj h).symm
theorem s_X12_sets_b111_fr {M : fM} {l1 l2 l3 l4 l5 l6 : Int} {r : ((Int × fM) ⊕ fM)} (h : s_X12_sets_b111 M l1 l2 l3 l4 l5 l6 = some r) : fSame s_X12_sets_mods M (Sum.elim (fun s => s.2) (fun e => e) r) := by
  unfold s_X12_sets_b111 at h
  by_cases c : (M 122 39) ≤ l6
  · replace h := fps c h
    obtain rfl := Option.some.inj h
    exact fs_refl
  · replace h := fng c h
    by_cases c : (fand (fshr l5 l6) 1) = 0
    · replace h := fps c h
      replace h := (fgd h).2
      obtain rfl := Option.some.inj h
      exact fs_refl
    · replace h := fng c h
      replace h := (fgd h).2
      by_cases c : (M 144 ((9 * l5) + l6).toNat) < 1000000
      · replace h := fps c h
        replace h := (fgd h).2
        obtain ⟨y170, hy, h⟩ := fbd h
        replace h := (fgd h).2
        by_cases c : (M 144 ((9 * l2) + l4).toNat) ≤ y170
        · replace h := fps c h
          replace h := (fgd h).2
          obtain rfl := Option.some.inj h
          exact fs_up fs_refl (.inl (by decide))
        · replace h := fng c h
          replace h := (fgd h).2
          obtain rfl := Option.some.inj h
          exact fs_up fs_refl (.inl (by decide))
      · replace h := fng c h
        replace h := (fgd h).2
        obtain rfl := Option.some.inj h
        exact fs_refl
noncomputable def s_X12_sets_l111 (l1 l2 l3 l4 l5 : Int) (s : (Int × fM)) : Option fM := fLp (fun s => s_X12_sets_b111 s.2 l1 l2 l3 l4 l5 s.1) s
theorem s_X12_sets_l111_ok {d L : Nat} {M : fM} {l1 l2 l3 l4 l5 l6 : Int} {o7 : Option fV} {r : fM} {Q : fO → fH → Prop} (h : s_X12_sets_l111 l1 l2 l3 l4 l5 (l6, M) = some r) (hE : ∀ (e : fM) (o5' o6' o7' : Option fV), r = e → Wp (d + 3, 289, 227, 0, 0, [some (fA 122), some (fI l1), some (fI l2), some (fI l3), some (fI l4), o5', o6', o7'], []) (156, fjl L, e) Q) : Wp (d + 3, 289, 111, 0, 0, [some (fA 122), some (fI l1), some (fI l2), some (fI l3), some (fI l4), some (fI l5), some (fI l6), o7], []) (156, fjl L, M) Q := by
  refine fLp_wp (W := fun s => ∀ (o7 : Option fV), Wp (d + 3, 289, 111, 0, 0, [some (fA 122), some (fI l1), some (fI l2), some (fI l3), some (fI l4), some (fI l5), some (fI s.1), o7], []) (156, fjl L, s.2) Q) (e := r) ?_ h _
  intro s r1 h hC hX o7
  refine s_X12_sets_b111_ok (d := d) h (fun a0 a1 _ e1 => ?_) (fun e u0 u1 u2 e1 => hE e u0 u1 u2 (hX _ e1).symm)
  exact hC _ e1 _
theorem s_X12_sets_l111_fr {M : fM} {l1 l2 l3 l4 l5 l6 : Int} {r : fM} (h : s_X12_sets_l111 l1 l2 l3 l4 l5 (l6, M) = some r) : fSame s_X12_sets_mods M ((fun e => e) r) := by
  refine fLp_inv (I := fun s => fSame s_X12_sets_mods M s.2) (J := fun r => fSame s_X12_sets_mods M ((fun e => e) r)) h fs_refl (fun s s1 hs hb => ?_) (fun s e hs hb => ?_)
  · exact fs_trans hs (s_X12_sets_b111_fr hb)
  · exact fs_trans hs (s_X12_sets_b111_fr hb)
noncomputable def s_X12_sets_j108 (M : fM) (l1 l2 l3 l4 l5 : Int) : Option ((Int × Int × fM) ⊕ (Int × fM)) :=
  (s_X12_sets_l111 l1 l2 l3 l4 l5 (0, M)).bind fun e111 =>
    if ¬ l3 = 0 then
      if fin (l4 + 1) then
        some (.inl (1, (l4 + 1), e111))
      else none
    else
      if fin (9 * l2) ∧ fin ((9 * l2) + l4) ∧ (0 ≤ ((9 * l2) + l4) ∧ ((9 * l2) + l4) < 4608) then
        (s_X12_way e111 l4 (-1)).bind fun y247 =>
          if fin ((e111 144 ((9 * l2) + l4).toNat) + y247) then
            if (e111 124 171) < ((e111 144 ((9 * l2) + l4).toNat) + y247) then
              if fin (l4 + 1) then
                some (.inl (0, (l4 + 1), e111))
              else none
            else
              if fin (l4 + 1) then
                some (.inl (1, (l4 + 1), e111))
              else none
          else none
      else none
theorem s_X12_sets_j108_ok {d L : Nat} {M : fM} {l1 l2 l3 l4 l5 : Int} {o6 o7 : Option fV} {r : ((Int × Int × fM) ⊕ (Int × fM))} {Q : fO → fH → Prop} (h : s_X12_sets_j108 M l1 l2 l3 l4 l5 = some r) (hC : ∀ (l3' l4' : Int) (M' : fM) (o5' o6' o7' : Option fV), r = .inl (l3', l4', M') → Wp (d + 3, 289, 30, 0, 0, [some (fA 122), some (fI l1), some (fI l2), some (fI l3'), some (fI l4'), o5', o6', o7'], []) (156, fjl L, M') Q) (hE : ∀ (e : (Int × fM)) (o4' o5' o6' o7' : Option fV), r = .inr e → Wp (d + 3, 289, 274, 0, 0, [some (fA 122), some (fI l1), some (fI l2), some (fI e.1), o4', o5', o6', o7'], []) (156, fjl L, e.2) Q) : Wp (d + 3, 289, 108, 0, 0, [some (fA 122), some (fI l1), some (fI l2), some (fI l3), some (fI l4), some (fI l5), o6, o7], []) (156, fjl L, M) Q := by
  unfold s_X12_sets_j108 at h
  refine Wp.run 2 (f' := (d + 3, 289, 111, 0, 0, [some (fA 122), some (fI l1), some (fI l2), some (fI l3), some (fI l4), some (fI l5), some (fI 0), _], [])) (h' := (156, fjl L, M)) rfl trivial ?_
  obtain ⟨e111, hy, h⟩ := fbd h
  refine s_X12_sets_l111_ok hy (fun x u5 u6 u7 ex => ?_)
  cases ex
  show Wp (d + 3, 289, 227, 0, 0, [some (fA 122), some (fI l1), some (fI l2), some (fI l3), some (fI l4), u5, u6, u7], []) (156, fjl L, e111) Q
  refine Wp.run 1 (f' := (d + 3, 289, 228, 0, 0, [some (fA 122), some (fI l1), some (fI l2), _, some (fI l4), _, _, _], [fI l3])) (h' := (156, fjl L, e111)) rfl trivial ?_
  refine Wp.br rfl (fun (c : ¬ l3 = 0) => ?_) (fun (c : ¬ (¬ l3 = 0)) => ?_)
  · replace h := fps c h
    obtain ⟨g0, h⟩ := fgd h
    refine Wp.run 5 (f' := (d + 3, 289, 30, 0, 0, [some (fA 122), some (fI l1), some (fI l2), some (fI 1), some (fI (fw (l4 + 1))), _, _, _], [])) (h' := (156, fjl L, e111)) rfl trivial ?_
    rw [fw_id g0]
    exact hC _ _ _ _ _ _ (Option.some.inj h).symm
  · replace h := fng c h
    obtain ⟨⟨g0, g1, g2⟩, h⟩ := fgd h
    refine Wp.run 11 (P := [0 ≤ (fw ((fw (9 * l2)) + l4)) ∧ (fw ((fw (9 * l2)) + l4)) < 4608]) (f' := (d + 3, 289, 247, 0, 0, [some (fA 122), some (fI l1), some (fI l2), _, some (fI l4), _, _, _], [fI (-1), fI l4, fA 122, fI (e111 144 (fw ((fw (9 * l2)) + l4)).toNat)])) (h' := (156, fjl L, e111)) rfl ?_ ?_
    · rw [fw_id g0, fw_id g1]; exact g2
    rw [fw_id g0, fw_id g1]
    obtain ⟨y247, hy, h⟩ := fbd h
    refine Wp.call rfl (by decide) (s_X12_way_ok (d := d + 1) hy ?_)
    show Wp (d + 3, 289, 250, 0, 0, [some (fA 122), some (fI l1), some (fI l2), _, some (fI l4), _, _, _], [fI y247, fI (e111 144 ((9 * l2) + l4).toNat)]) (156, fjl L, e111) Q
    obtain ⟨g0, h⟩ := fgd h
    refine Wp.run 5 (P := [(0 : Int) ≤ 171 ∧ (171 : Int) < 1290]) (f' := (d + 3, 289, 259, 0, 0, [some (fA 122), some (fI l1), some (fI l2), _, some (fI l4), _, _, _], [fI (e111 124 171), fI (fw ((e111 144 ((9 * l2) + l4).toNat) + y247))])) (h' := (156, fjl L, e111)) rfl ?_ ?_
    · exact (by decide : (0 : Int) ≤ 171 ∧ (171 : Int) < 1290)
    rw [fw_id g0]
    refine Wp.br rfl (fun (c : (e111 124 171) < ((e111 144 ((9 * l2) + l4).toNat) + y247)) => ?_) (fun (c : ¬ ((e111 124 171) < ((e111 144 ((9 * l2) + l4).toNat) + y247))) => ?_)
    · replace h := fps c h
      obtain ⟨g0, h⟩ := fgd h
      refine Wp.run 4 (f' := (d + 3, 289, 30, 0, 0, [some (fA 122), some (fI l1), some (fI l2), some (fI 0), some (fI (fw (l4 + 1))), _, _, _], [])) (h' := (156, fjl L, e111)) rfl trivial ?_
      rw [fw_id g0]
      exact hC _ _ _ _ _ _ (Option.some.inj h).symm
    · replace h := fng c h
      obtain ⟨g0, h⟩ := fgd h
      refine Wp.run 5 (f' := (d + 3, 289, 30, 0, 0, [some (fA 122), some (fI l1), some (fI l2), some (fI 1), some (fI (fw (l4 + 1))), _, _, _], [])) (h' := (156, fjl L, e111)) rfl trivial ?_
      rw [fw_id g0]
      exact hC _ _ _ _ _ _ (Option.some.inj h).symm
theorem s_X12_sets_j108_fr {M : fM} {l1 l2 l3 l4 l5 : Int} {r : ((Int × Int × fM) ⊕ (Int × fM))} (h : s_X12_sets_j108 M l1 l2 l3 l4 l5 = some r) : fSame s_X12_sets_mods M (Sum.elim (fun s => s.2.2) (fun e => e.2) r) := by
  unfold s_X12_sets_j108 at h
  obtain ⟨e111, hy, h⟩ := fbd h
  have k111 := fs_trans (l := s_X12_sets_mods) fs_refl (s_X12_sets_l111_fr hy)
  by_cases c : ¬ l3 = 0
  · replace h := fps c h
    replace h := (fgd h).2
    obtain rfl := Option.some.inj h
    exact k111
  · replace h := fng c h
    replace h := (fgd h).2
    obtain ⟨y247, hy, h⟩ := fbd h
    replace h := (fgd h).2
    by_cases c : (e111 124 171) < ((e111 144 ((9 * l2) + l4).toNat) + y247)
    · replace h := fps c h
      replace h := (fgd h).2
      obtain rfl := Option.some.inj h
      exact k111
    · replace h := fng c h
      replace h := (fgd h).2
      obtain rfl := Option.some.inj h
      exact k111
noncomputable def s_X12_sets_b30 (M : fM) (l1 l2 l3 l4 : Int) : Option ((Int × Int × fM) ⊕ (Int × fM)) :=
  if (M 122 39) ≤ l4 then
    some (.inr (l3, M))
  else
    if fin (9 * l2) ∧ fin ((9 * l2) + l4) ∧ (0 ≤ ((9 * l2) + l4) ∧ ((9 * l2) + l4) < 4608) then
      if ¬ (fand (fshr l2 l4) 1) = 0 then
        if ¬ (fand l2 (fxor (fshl 1 l4) (-1))) = 0 then
          s_X12_sets_j108 (fup M 144 ((9 * l2) + l4).toNat 1000000) l1 l2 l3 l4 (fand l2 (fxor (fshl 1 l4) (-1)))
        else
          if fin (9 * l2) ∧ fin ((9 * l2) + l4) then
            (s_X12_done (fup M 144 ((9 * l2) + l4).toNat 1000000) l4 (-1) (M 124 170)).bind fun y104 =>
              if (0 ≤ ((9 * l2) + l4) ∧ ((9 * l2) + l4) < 4608) then
                s_X12_sets_j108 (fup (fup M 144 ((9 * l2) + l4).toNat 1000000) 144 ((9 * l2) + l4).toNat y104) l1 l2 l3 l4 (fand l2 (fxor (fshl 1 l4) (-1)))
              else none
          else none
      else
        if fin (l4 + 1) then
          some (.inl (l3, (l4 + 1), (fup M 144 ((9 * l2) + l4).toNat 1000000)))
        else none
    else none
theorem s_X12_sets_b30_ok {d L : Nat} {M : fM} {l1 l2 l3 l4 : Int} {o5 o6 o7 : Option fV} {r : ((Int × Int × fM) ⊕ (Int × fM))} {Q : fO → fH → Prop} (h : s_X12_sets_b30 M l1 l2 l3 l4 = some r) (hC : ∀ (l3' l4' : Int) (M' : fM) (o5' o6' o7' : Option fV), r = .inl (l3', l4', M') → Wp (d + 3, 289, 30, 0, 0, [some (fA 122), some (fI l1), some (fI l2), some (fI l3'), some (fI l4'), o5', o6', o7'], []) (156, fjl L, M') Q) (hE : ∀ (e : (Int × fM)) (o4' o5' o6' o7' : Option fV), r = .inr e → Wp (d + 3, 289, 274, 0, 0, [some (fA 122), some (fI l1), some (fI l2), some (fI e.1), o4', o5', o6', o7'], []) (156, fjl L, e.2) Q) : Wp (d + 3, 289, 30, 0, 0, [some (fA 122), some (fI l1), some (fI l2), some (fI l3), some (fI l4), o5, o6, o7], []) (156, fjl L, M) Q := by
  unfold s_X12_sets_b30 at h
  refine Wp.run 3 (f' := (d + 3, 289, 36, 0, 0, [some (fA 122), some (fI l1), some (fI l2), some (fI l3), some (fI l4), _, _, _], [fI (M 122 39), fI l4])) (h' := (156, fjl L, M)) rfl trivial ?_
  refine Wp.br rfl (fun (c : (M 122 39) ≤ l4) => ?_) (fun (c : ¬ ((M 122 39) ≤ l4)) => ?_)
  · replace h := fps c h
    exact hE _ _ _ _ _ (Option.some.inj h).symm
  · replace h := fng c h
    obtain ⟨⟨g0, g1, g2⟩, h⟩ := fgd h
    refine Wp.run 14 (P := [0 ≤ (fw ((fw (9 * l2)) + l4)) ∧ (fw ((fw (9 * l2)) + l4)) < 4608]) (f' := (d + 3, 289, 60, 0, 0, [some (fA 122), some (fI l1), some (fI l2), some (fI l3), some (fI l4), _, _, _], [fI (fand (fshr l2 l4) 1)])) (h' := (156, fjl L, (fup M 144 (fw ((fw (9 * l2)) + l4)).toNat 1000000))) rfl ?_ ?_
    · rw [fw_id g0, fw_id g1]; exact g2
    rw [fw_id g0, fw_id g1]
    refine Wp.br rfl (fun (c : ¬ (fand (fshr l2 l4) 1) = 0) => ?_) (fun (c : ¬ (¬ (fand (fshr l2 l4) 1) = 0)) => ?_)
    · replace h := fps c h
      refine Wp.run 9 (f' := (d + 3, 289, 78, 0, 0, [some (fA 122), some (fI l1), some (fI l2), some (fI l3), some (fI l4), some (fI (fand l2 (fxor (fshl 1 l4) (-1)))), _, _], [fI (fand l2 (fxor (fshl 1 l4) (-1)))])) (h' := (156, fjl L, (fup M 144 ((9 * l2) + l4).toNat 1000000))) rfl trivial ?_
      refine Wp.br rfl (fun (c : ¬ (fand l2 (fxor (fshl 1 l4) (-1))) = 0) => ?_) (fun (c : ¬ (¬ (fand l2 (fxor (fshl 1 l4) (-1))) = 0)) => ?_)
      · replace h := fps c h
        exact s_X12_sets_j108_ok h hC hE
      · replace h := fng c h
        obtain ⟨⟨g0, g1⟩, h⟩ := fgd h
        refine Wp.run 14 (P := [(0 : Int) ≤ 170 ∧ (170 : Int) < 1290]) (f' := (d + 3, 289, 104, 0, 0, [some (fA 122), some (fI l1), some (fI l2), some (fI l3), some (fI l4), some (fI (fand l2 (fxor (fshl 1 l4) (-1)))), _, _], [fI (M 124 170), fI (-1), fI l4, fA 122, fI (fw ((fw (9 * l2)) + l4)), fA 144])) (h' := (156, fjl L, (fup M 144 ((9 * l2) + l4).toNat 1000000))) rfl ?_ ?_
        · exact (by decide : (0 : Int) ≤ 170 ∧ (170 : Int) < 1290)
        rw [fw_id g0, fw_id g1]
        obtain ⟨y104, hy, h⟩ := fbd h
        refine Wp.call rfl (by decide) (s_X12_done_ok (d := d + 0) hy ?_)
        show Wp (d + 3, 289, 107, 0, 0, [some (fA 122), some (fI l1), some (fI l2), some (fI l3), some (fI l4), some (fI (fand l2 (fxor (fshl 1 l4) (-1)))), _, _], [fI y104, fI ((9 * l2) + l4), fA 144]) (156, fjl L, (fup M 144 ((9 * l2) + l4).toNat 1000000)) Q
        obtain ⟨g0, h⟩ := fgd h
        refine Wp.run 1 (P := [0 ≤ ((9 * l2) + l4) ∧ ((9 * l2) + l4) < 4608]) (f' := (d + 3, 289, 108, 0, 0, [some (fA 122), some (fI l1), some (fI l2), some (fI l3), some (fI l4), some (fI (fand l2 (fxor (fshl 1 l4) (-1)))), _, _], [])) (h' := (156, fjl L, (fup (fup M 144 ((9 * l2) + l4).toNat 1000000) 144 ((9 * l2) + l4).toNat y104))) rfl ?_ ?_
        · exact g0
        exact s_X12_sets_j108_ok h hC hE
    · replace h := fng c h
      obtain ⟨g0, h⟩ := fgd h
      refine Wp.run 3 (f' := (d + 3, 289, 30, 0, 0, [some (fA 122), some (fI l1), some (fI l2), some (fI l3), some (fI (fw (l4 + 1))), _, _, _], [])) (h' := (156, fjl L, (fup M 144 ((9 * l2) + l4).toNat 1000000))) rfl trivial ?_
      rw [fw_id g0]
      exact hC _ _ _ _ _ _ (Option.some.inj h).symm
theorem s_X12_sets_b30_fr {M : fM} {l1 l2 l3 l4 : Int} {r : ((Int × Int × fM) ⊕ (Int × fM))} (h : s_X12_sets_b30 M l1 l2 l3 l4 = some r) : fSame s_X12_sets_mods M (Sum.elim (fun s => s.2.2) (fun e => e.2) r) := by
  unfold s_X12_sets_b30 at h
  by_cases c : (M 122 39) ≤ l4
  · replace h := fps c h
    obtain rfl := Option.some.inj h
    exact fs_refl
  · replace h := fng c h
    replace h := (fgd h).2
    by_cases c : ¬ (fand (fshr l2 l4) 1) = 0
    · replace h := fps c h
      by_cases c : ¬ (fand l2 (fxor (fshl 1 l4) (-1))) = 0
      · replace h := fps c h
        exact fs_trans (fs_up fs_refl (.inl (by decide))) (s_X12_sets_j108_fr h)
      · replace h := fng c h
        replace h := (fgd h).2
        obtain ⟨y104, hy, h⟩ := fbd h
        replace h := (fgd h).2
        exact fs_trans (fs_up (fs_up fs_refl (.inl (by decide))) (.inl (by decide))) (s_X12_sets_j108_fr h)
    · replace h := fng c h
      replace h := (fgd h).2
      obtain rfl := Option.some.inj h
      exact fs_up fs_refl (.inl (by decide))
noncomputable def s_X12_sets_l30 (l1 l2 : Int) (s : (Int × Int × fM)) : Option (Int × fM) := fLp (fun s => s_X12_sets_b30 s.2.2 l1 l2 s.1 s.2.1) s
theorem s_X12_sets_l30_ok {d L : Nat} {M : fM} {l1 l2 l3 l4 : Int} {o5 o6 o7 : Option fV} {r : (Int × fM)} {Q : fO → fH → Prop} (h : s_X12_sets_l30 l1 l2 (l3, l4, M) = some r) (hE : ∀ (e : (Int × fM)) (o4' o5' o6' o7' : Option fV), r = e → Wp (d + 3, 289, 274, 0, 0, [some (fA 122), some (fI l1), some (fI l2), some (fI e.1), o4', o5', o6', o7'], []) (156, fjl L, e.2) Q) : Wp (d + 3, 289, 30, 0, 0, [some (fA 122), some (fI l1), some (fI l2), some (fI l3), some (fI l4), o5, o6, o7], []) (156, fjl L, M) Q := by
  refine fLp_wp (W := fun s => ∀ (o5 o6 o7 : Option fV), Wp (d + 3, 289, 30, 0, 0, [some (fA 122), some (fI l1), some (fI l2), some (fI s.1), some (fI s.2.1), o5, o6, o7], []) (156, fjl L, s.2.2) Q) (e := r) ?_ h _ _ _
  intro s r1 h hC hX o5 o6 o7
  refine s_X12_sets_b30_ok (d := d) h (fun a0 a1 a2 _ _ _ e1 => ?_) (fun e u0 u1 u2 u3 e1 => hE e u0 u1 u2 u3 (hX _ e1).symm)
  exact hC _ e1 _ _ _
theorem s_X12_sets_l30_fr {M : fM} {l1 l2 l3 l4 : Int} {r : (Int × fM)} (h : s_X12_sets_l30 l1 l2 (l3, l4, M) = some r) : fSame s_X12_sets_mods M ((fun e => e.2) r) := by
  refine fLp_inv (I := fun s => fSame s_X12_sets_mods M s.2.2) (J := fun r => fSame s_X12_sets_mods M ((fun e => e.2) r)) h fs_refl (fun s s1 hs hb => ?_) (fun s e hs hb => ?_)
  · exact fs_trans hs (s_X12_sets_b30_fr hb)
  · exact fs_trans hs (s_X12_sets_b30_fr hb)
noncomputable def s_X12_sets_j26 (M : fM) (l1 l2 t0 : Int) : Option ((Int × fM) ⊕ fM) :=
  (s_X12_sets_l30 l1 l2 (t0, 0, M)).bind fun e30 =>
    if fin (512 * l1) ∧ fin ((512 * l1) + l2) ∧ (0 ≤ ((512 * l1) + l2) ∧ ((512 * l1) + l2) < 3072) ∧ b01 e30.1 ∧ fin (l2 + 1) then
      some (.inl ((l2 + 1), (fup e30.2 143 ((512 * l1) + l2).toNat e30.1)))
    else none
theorem s_X12_sets_j26_ok {d L : Nat} {M : fM} {l1 l2 t0 : Int} {o3 o4 o5 o6 o7 : Option fV} {r : ((Int × fM) ⊕ fM)} {Q : fO → fH → Prop} (h : s_X12_sets_j26 M l1 l2 t0 = some r) (hC : ∀ (l2' : Int) (M' : fM) (o3' o4' o5' o6' o7' : Option fV), r = .inl (l2', M') → Wp (d + 3, 289, 7, 0, 0, [some (fA 122), some (fI l1), some (fI l2'), o3', o4', o5', o6', o7'], []) (156, fjl L, M') Q) (hE : ∀ (e : fM) (o0' o1' o2' o3' o4' o5' o6' o7' : Option fV), r = .inr e → Wp (d + 3, 289, 293, 0, 0, [o0', o1', o2', o3', o4', o5', o6', o7'], []) (156, fjl L, e) Q) : Wp (d + 3, 289, 26, 0, 0, [some (fA 122), some (fI l1), some (fI l2), o3, o4, o5, o6, o7], [fI t0]) (156, fjl L, M) Q := by
  unfold s_X12_sets_j26 at h
  refine Wp.run 3 (f' := (d + 3, 289, 30, 0, 0, [some (fA 122), some (fI l1), some (fI l2), some (fI t0), some (fI 0), _, _, _], [])) (h' := (156, fjl L, M)) rfl trivial ?_
  obtain ⟨e30, hy, h⟩ := fbd h
  refine s_X12_sets_l30_ok hy (fun x u4 u5 u6 u7 ex => ?_)
  cases ex
  show Wp (d + 3, 289, 274, 0, 0, [some (fA 122), some (fI l1), some (fI l2), some (fI e30.1), u4, u5, u6, u7], []) (156, fjl L, e30.2) Q
  obtain ⟨⟨g0, g1, g2, g3, g4⟩, h⟩ := fgd h
  refine Wp.run 11 (P := [0 ≤ (fw ((fw (512 * l1)) + l2)) ∧ (fw ((fw (512 * l1)) + l2)) < 3072]) (f' := (d + 3, 289, 7, 0, 0, [some (fA 122), some (fI l1), some (fI (fw (l2 + 1))), _, _, _, _, _], [])) (h' := (156, fjl L, (fup e30.2 143 (fw ((fw (512 * l1)) + l2)).toNat (fand e30.1 1)))) rfl ?_ ?_
  · rw [fw_id g0, fw_id g1]; exact g2
  rw [fw_id g4, fw_id g0, fw_id g1, fand_b g3]
  exact hC _ _ _ _ _ _ _ (Option.some.inj h).symm
theorem s_X12_sets_j26_fr {M : fM} {l1 l2 t0 : Int} {r : ((Int × fM) ⊕ fM)} (h : s_X12_sets_j26 M l1 l2 t0 = some r) : fSame s_X12_sets_mods M (Sum.elim (fun s => s.2) (fun e => e) r) := by
  unfold s_X12_sets_j26 at h
  obtain ⟨e30, hy, h⟩ := fbd h
  have k30 := fs_trans (l := s_X12_sets_mods) fs_refl (s_X12_sets_l30_fr hy)
  replace h := (fgd h).2
  obtain rfl := Option.some.inj h
  exact fs_up k30 (.inl (by decide))
noncomputable def s_X12_sets_b7 (M : fM) (l1 l2 : Int) : Option ((Int × fM) ⊕ fM) :=
  if (fshl 1 (M 122 39)) ≤ l2 then
    some (.inr M)
  else
    if ¬ l2 = 0 then
      s_X12_sets_j26 M l1 l2 0
    else
      s_X12_sets_j26 M l1 l2 1
theorem s_X12_sets_b7_ok {d L : Nat} {M : fM} {l1 l2 : Int} {o3 o4 o5 o6 o7 : Option fV} {r : ((Int × fM) ⊕ fM)} {Q : fO → fH → Prop} (h : s_X12_sets_b7 M l1 l2 = some r) (hC : ∀ (l2' : Int) (M' : fM) (o3' o4' o5' o6' o7' : Option fV), r = .inl (l2', M') → Wp (d + 3, 289, 7, 0, 0, [some (fA 122), some (fI l1), some (fI l2'), o3', o4', o5', o6', o7'], []) (156, fjl L, M') Q) (hE : ∀ (e : fM) (o0' o1' o2' o3' o4' o5' o6' o7' : Option fV), r = .inr e → Wp (d + 3, 289, 293, 0, 0, [o0', o1', o2', o3', o4', o5', o6', o7'], []) (156, fjl L, e) Q) : Wp (d + 3, 289, 7, 0, 0, [some (fA 122), some (fI l1), some (fI l2), o3, o4, o5, o6, o7], []) (156, fjl L, M) Q := by
  unfold s_X12_sets_b7 at h
  refine Wp.run 5 (f' := (d + 3, 289, 14, 0, 0, [some (fA 122), some (fI l1), some (fI l2), _, _, _, _, _], [fI (fshl 1 (M 122 39)), fI l2])) (h' := (156, fjl L, M)) rfl trivial ?_
  refine Wp.br rfl (fun (c : (fshl 1 (M 122 39)) ≤ l2) => ?_) (fun (c : ¬ ((fshl 1 (M 122 39)) ≤ l2)) => ?_)
  · replace h := fps c h
    exact hE _ _ _ _ _ _ _ _ _ (Option.some.inj h).symm
  · replace h := fng c h
    refine Wp.run 1 (f' := (d + 3, 289, 18, 0, 0, [some (fA 122), some (fI l1), some (fI l2), _, _, _, _, _], [fI l2])) (h' := (156, fjl L, M)) rfl trivial ?_
    refine Wp.br rfl (fun (c : ¬ l2 = 0) => ?_) (fun (c : ¬ (¬ l2 = 0)) => ?_)
    · replace h := fps c h
      refine Wp.run 1 (f' := (d + 3, 289, 26, 0, 0, [some (fA 122), some (fI l1), some (fI l2), _, _, _, _, _], [fI 0])) (h' := (156, fjl L, M)) rfl trivial ?_
      exact s_X12_sets_j26_ok h hC hE
    · replace h := fng c h
      refine Wp.run 2 (f' := (d + 3, 289, 26, 0, 0, [some (fA 122), some (fI l1), some (fI l2), _, _, _, _, _], [fI 1])) (h' := (156, fjl L, M)) rfl trivial ?_
      exact s_X12_sets_j26_ok h hC hE
theorem s_X12_sets_b7_fr {M : fM} {l1 l2 : Int} {r : ((Int × fM) ⊕ fM)} (h : s_X12_sets_b7 M l1 l2 = some r) : fSame s_X12_sets_mods M (Sum.elim (fun s => s.2) (fun e => e) r) := by
  unfold s_X12_sets_b7 at h
  by_cases c : (fshl 1 (M 122 39)) ≤ l2
  · replace h := fps c h
    obtain rfl := Option.some.inj h
    exact fs_refl
  · replace h := fng c h
    by_cases c : ¬ l2 = 0
    · replace h := fps c h
      exact fs_trans fs_refl (s_X12_sets_j26_fr h)
    · replace h := fng c h
      exact fs_trans fs_refl (s_X12_sets_j26_fr h)
noncomputable def s_X12_sets_l7 (l1 : Int) (s : (Int × fM)) : Option fM := fLp (fun s => s_X12_sets_b7 s.2 l1 s.1) s
theorem s_X12_sets_l7_ok {d L : Nat} {M : fM} {l1 l2 : Int} {o3 o4 o5 o6 o7 : Option fV} {r : fM} {Q : fO → fH → Prop} (h : s_X12_sets_l7 l1 (l2, M) = some r) (hE : ∀ (e : fM) (o0' o1' o2' o3' o4' o5' o6' o7' : Option fV), r = e → Wp (d + 3, 289, 293, 0, 0, [o0', o1', o2', o3', o4', o5', o6', o7'], []) (156, fjl L, e) Q) : Wp (d + 3, 289, 7, 0, 0, [some (fA 122), some (fI l1), some (fI l2), o3, o4, o5, o6, o7], []) (156, fjl L, M) Q := by
  refine fLp_wp (W := fun s => ∀ (o3 o4 o5 o6 o7 : Option fV), Wp (d + 3, 289, 7, 0, 0, [some (fA 122), some (fI l1), some (fI s.1), o3, o4, o5, o6, o7], []) (156, fjl L, s.2) Q) (e := r) ?_ h _ _ _ _ _
  intro s r1 h hC hX o3 o4 o5 o6 o7
  refine s_X12_sets_b7_ok (d := d) h (fun a0 a1 _ _ _ _ _ e1 => ?_) (fun e u0 u1 u2 u3 u4 u5 u6 u7 e1 => hE e u0 u1 u2 u3 u4 u5 u6 u7 (hX _ e1).symm)
  exact hC _ e1 _ _ _ _ _
theorem s_X12_sets_l7_fr {M : fM} {l1 l2 : Int} {r : fM} (h : s_X12_sets_l7 l1 (l2, M) = some r) : fSame s_X12_sets_mods M ((fun e => e) r) := by
  refine fLp_inv (I := fun s => fSame s_X12_sets_mods M s.2) (J := fun r => fSame s_X12_sets_mods M ((fun e => e) r)) h fs_refl (fun s s1 hs hb => ?_) (fun s e hs hb => ?_)
  · exact fs_trans hs (s_X12_sets_b7_fr hb)
  · exact fs_trans hs (s_X12_sets_b7_fr hb)
noncomputable def s_X12_sets (M : fM) (l1 : Int) : Option (Unit × fM) :=
  (s_X12_live M l1).bind fun y2 =>
    (s_X12_sets_l7 l1 (0, y2.2)).bind fun e7 =>
      some ((), e7)
theorem s_X12_sets_ok {d L : Nat} {M : fM} {l1 : Int} {r : (Unit × fM)} {Q : fO → fH → Prop} (h : s_X12_sets M l1 = some r) (H : Q (oV r.1) (156, fjl L, r.2)) : Wp (d + 3, 289, 0, 0, 0, [some (fA 122), some (fI l1), none, none, none, none, none, none], []) (156, fjl L, M) Q := by
  unfold s_X12_sets at h
  refine Wp.run 2 (f' := (d + 3, 289, 2, 0, 0, [some (fA 122), some (fI l1), _, _, _, _, _, _], [fI l1, fA 122])) (h' := (156, fjl L, M)) rfl trivial ?_
  obtain ⟨y2, hy, h⟩ := fbd h
  refine Wp.call rfl (by decide) (s_X12_live_ok (d := d + 2) hy ?_)
  show Wp (d + 3, 289, 5, 0, 0, [some (fA 122), some (fI l1), _, _, _, _, _, _], []) (156, fjl L, y2.2) Q
  refine Wp.run 2 (f' := (d + 3, 289, 7, 0, 0, [some (fA 122), some (fI l1), some (fI 0), _, _, _, _, _], [])) (h' := (156, fjl L, y2.2)) rfl trivial ?_
  obtain ⟨e7, hy, h⟩ := fbd h
  refine s_X12_sets_l7_ok hy (fun x u0 u1 u2 u3 u4 u5 u6 u7 ex => ?_)
  cases ex
  show Wp (d + 3, 289, 293, 0, 0, [u0, u1, u2, u3, u4, u5, u6, u7], []) (156, fjl L, e7) Q
  obtain rfl := Option.some.inj h
  exact Wp.done rfl (by decide) H
theorem s_X12_sets_fr {M : fM} {l1 : Int} {r : (Unit × fM)} (h : s_X12_sets M l1 = some r) : fSame s_X12_sets_mods M r.2 := by
  unfold s_X12_sets at h
  obtain ⟨y2, hy, h⟩ := fbd h
  have k2 := fs_trans (l := s_X12_sets_mods) fs_refl (fs_mono (l := s_X12_live_mods) (by decide) (s_X12_live_fr hy))
  obtain ⟨e7, hy, h⟩ := fbd h
  have k7 := fs_trans (l := s_X12_sets_mods) k2 (s_X12_sets_l7_fr hy)
  obtain rfl := Option.some.inj h
  exact k7
noncomputable def s_X12_sumOf_b4 (M : fM) (l1 l2 l3 : Int) : Option ((Int × Int) ⊕ Int) :=
  if (M 122 39) ≤ l3 then
    some (.inr l2)
  else
    if ¬ (fand (fshr l1 l3) 1) = 1 then
      if fin (l2 + 0) ∧ fin (l3 + 1) then
        some (.inl ((l2 + 0), (l3 + 1)))
      else none
    else
      if (0 ≤ l3 ∧ l3 < 9) ∧ fin (l2 + (M 136 (l3).toNat)) ∧ fin (l3 + 1) then
        some (.inl ((l2 + (M 136 (l3).toNat)), (l3 + 1)))
      else none
theorem s_X12_sumOf_b4_ok {d L : Nat} {M : fM} {l1 l2 l3 : Int} {r : ((Int × Int) ⊕ Int)} {Q : fO → fH → Prop} (h : s_X12_sumOf_b4 M l1 l2 l3 = some r) (hC : ∀ (l2' l3' : Int), r = .inl (l2', l3') → Wp (d + 0, 290, 4, 0, 0, [some (fA 122), some (fI l1), some (fI l2'), some (fI l3')], []) (156, fjl L, M) Q) (hE : ∀ (e : Int) (o0' o1' o3' : Option fV), r = .inr e → Wp (d + 0, 290, 40, 0, 0, [o0', o1', some (fI e), o3'], []) (156, fjl L, M) Q) : Wp (d + 0, 290, 4, 0, 0, [some (fA 122), some (fI l1), some (fI l2), some (fI l3)], []) (156, fjl L, M) Q := by
  unfold s_X12_sumOf_b4 at h
  refine Wp.run 3 (f' := (d + 0, 290, 9, 0, 0, [some (fA 122), some (fI l1), some (fI l2), some (fI l3)], [fI (M 122 39), fI l3])) (h' := (156, fjl L, M)) rfl trivial ?_
  refine Wp.br rfl (fun (c : (M 122 39) ≤ l3) => ?_) (fun (c : ¬ ((M 122 39) ≤ l3)) => ?_)
  · replace h := fps c h
    exact hE _ _ _ _ (Option.some.inj h).symm
  · replace h := fng c h
    refine Wp.run 7 (f' := (d + 0, 290, 19, 0, 0, [some (fA 122), some (fI l1), _, some (fI l3)], [fI 1, fI (fand (fshr l1 l3) 1), fI l2])) (h' := (156, fjl L, M)) rfl trivial ?_
    refine Wp.br rfl (fun (c : ¬ (fand (fshr l1 l3) 1) = 1) => ?_) (fun (c : ¬ (¬ (fand (fshr l1 l3) 1) = 1)) => ?_)
    · replace h := fps c h
      obtain ⟨⟨g0, g1⟩, h⟩ := fgd h
      refine Wp.run 5 (f' := (d + 0, 290, 4, 0, 0, [some (fA 122), some (fI l1), some (fI (fw (l2 + 0))), some (fI (fw (l3 + 1)))], [])) (h' := (156, fjl L, M)) rfl trivial ?_
      rw [fw_id g0, fw_id g1]
      exact hC _ _ (Option.some.inj h).symm
    · replace h := fng c h
      obtain ⟨⟨g0, g1, g2⟩, h⟩ := fgd h
      refine Wp.run 9 (P := [0 ≤ l3 ∧ l3 < 9]) (f' := (d + 0, 290, 4, 0, 0, [some (fA 122), some (fI l1), some (fI (fw (l2 + (M 136 (l3).toNat)))), some (fI (fw (l3 + 1)))], [])) (h' := (156, fjl L, M)) rfl ?_ ?_
      · exact g0
      rw [fw_id g1, fw_id g2]
      exact hC _ _ (Option.some.inj h).symm
noncomputable def s_X12_sumOf_l4 (M : fM) (l1 : Int) (s : (Int × Int)) : Option Int := fLp (fun s => s_X12_sumOf_b4 M l1 s.1 s.2) s
theorem s_X12_sumOf_l4_ok {d L : Nat} {M : fM} {l1 l2 l3 : Int} {r : Int} {Q : fO → fH → Prop} (h : s_X12_sumOf_l4 M l1 (l2, l3) = some r) (hE : ∀ (e : Int) (o0' o1' o3' : Option fV), r = e → Wp (d + 0, 290, 40, 0, 0, [o0', o1', some (fI e), o3'], []) (156, fjl L, M) Q) : Wp (d + 0, 290, 4, 0, 0, [some (fA 122), some (fI l1), some (fI l2), some (fI l3)], []) (156, fjl L, M) Q := by
  refine fLp_wp (W := fun s => Wp (d + 0, 290, 4, 0, 0, [some (fA 122), some (fI l1), some (fI s.1), some (fI s.2)], []) (156, fjl L, M) Q) (e := r) ?_ h
  intro s r1 h hC hX
  refine s_X12_sumOf_b4_ok (d := d) h (fun a0 a1 e1 => ?_) (fun e u0 u1 u2 e1 => hE e u0 u1 u2 (hX _ e1).symm)
  exact hC _ e1
noncomputable def s_X12_sumOf (M : fM) (l1 : Int) : Option Int :=
  (s_X12_sumOf_l4 M l1 (0, 0)).bind fun e4 =>
    some e4
theorem s_X12_sumOf_ok {d L : Nat} {M : fM} {l1 : Int} {r : Int} {Q : fO → fH → Prop} (h : s_X12_sumOf M l1 = some r) (H : Q (oI r) (156, fjl L, M)) : Wp (d + 0, 290, 0, 0, 0, [some (fA 122), some (fI l1), none, none], []) (156, fjl L, M) Q := by
  unfold s_X12_sumOf at h
  refine Wp.run 4 (f' := (d + 0, 290, 4, 0, 0, [some (fA 122), some (fI l1), some (fI 0), some (fI 0)], [])) (h' := (156, fjl L, M)) rfl trivial ?_
  obtain ⟨e4, hy, h⟩ := fbd h
  refine s_X12_sumOf_l4_ok hy (fun x u0 u1 u3 ex => ?_)
  cases ex
  show Wp (d + 0, 290, 40, 0, 0, [u0, u1, some (fI e4), u3], []) (156, fjl L, M) Q
  refine Wp.run 1 (f' := (d + 0, 290, 41, 0, 0, [_, _, _, _], [fI e4])) (h' := (156, fjl L, M)) rfl trivial ?_
  obtain rfl := Option.some.inj h
  exact Wp.done rfl (by decide) H
abbrev s_X12_two_mods : List (Nat × Option Nat) := [(122, some 0), (122, some 2), (122, some 3), (122, some 4), (122, some 5), (122, some 24), (122, some 25), (122, some 26), (122, some 27), (122, some 28), (122, some 39), (122, some 40), (122, some 41), (128, none), (129, none), (133, none), (134, none), (135, none), (136, none), (137, none), (143, none), (144, none)]
noncomputable def s_X12_two_j163 (M : fM) (l1 l2 l4 l5 l6 l7 l8 : Int) : Option ((Int × Int) ⊕ Int) :=
  if ¬ l8 = 0 then
    if fin (l8 - 1) then
      some (.inl (l5, (fand (l8 - 1) l7)))
    else none
  else
    some (.inl (l5, (-1)))
theorem s_X12_two_j163_ok {d L : Nat} {M : fM} {l1 l2 l4 l5 l6 l7 l8 : Int} {o3 : Option fV} {r : ((Int × Int) ⊕ Int)} {Q : fO → fH → Prop} (h : s_X12_two_j163 M l1 l2 l4 l5 l6 l7 l8 = some r) (hC : ∀ (l5' l8' : Int) (o3' : Option fV), r = .inl (l5', l8') → Wp (d + 6, 291, 109, 0, 0, [some (fA 122), some (fI l1), some (fI l2), o3', some (fI l4), some (fI l5'), some (fI l6), some (fI l7), some (fI l8')], []) (156, fjl L, M) Q) (hE : ∀ (e : Int) (o3' o7' o8' : Option fV), r = .inr e → Wp (d + 6, 291, 184, 0, 0, [some (fA 122), some (fI l1), some (fI l2), o3', some (fI l4), some (fI e), some (fI l6), o7', o8'], []) (156, fjl L, M) Q) : Wp (d + 6, 291, 163, 0, 0, [some (fA 122), some (fI l1), some (fI l2), o3, some (fI l4), some (fI l5), some (fI l6), some (fI l7), some (fI l8)], []) (156, fjl L, M) Q := by
  unfold s_X12_two_j163 at h
  refine Wp.run 1 (f' := (d + 6, 291, 165, 0, 0, [some (fA 122), some (fI l1), some (fI l2), _, some (fI l4), some (fI l5), some (fI l6), some (fI l7), some (fI l8)], [fI l8])) (h' := (156, fjl L, M)) rfl trivial ?_
  refine Wp.br rfl (fun (c : ¬ l8 = 0) => ?_) (fun (c : ¬ (¬ l8 = 0)) => ?_)
  · replace h := fps c h
    obtain ⟨g0, h⟩ := fgd h
    refine Wp.run 7 (f' := (d + 6, 291, 109, 0, 0, [some (fA 122), some (fI l1), some (fI l2), _, some (fI l4), some (fI l5), some (fI l6), some (fI l7), some (fI (fand (fw (l8 - 1)) l7))], [])) (h' := (156, fjl L, M)) rfl trivial ?_
    rw [fw_id g0]
    exact hC _ _ _ (Option.some.inj h).symm
  · replace h := fng c h
    refine Wp.run 4 (f' := (d + 6, 291, 109, 0, 0, [some (fA 122), some (fI l1), some (fI l2), _, some (fI l4), some (fI l5), some (fI l6), some (fI l7), some (fI (-1))], [])) (h' := (156, fjl L, M)) rfl trivial ?_
    exact hC _ _ _ (Option.some.inj h).symm
theorem s_X12_two_j163_fr {M : fM} {l1 l2 l4 l5 l6 l7 l8 : Int} {r : ((Int × Int) ⊕ Int)} (h : s_X12_two_j163 M l1 l2 l4 l5 l6 l7 l8 = some r) : fSame s_X12_two_mods M (Sum.elim (fun _ => M) (fun _ => M) r) := by
  unfold s_X12_two_j163 at h
  by_cases c : ¬ l8 = 0
  · replace h := fps c h
    replace h := (fgd h).2
    obtain rfl := Option.some.inj h
    exact fs_refl
  · replace h := fng c h
    obtain rfl := Option.some.inj h
    exact fs_refl
noncomputable def s_X12_two_b109 (M : fM) (l1 l2 l4 l5 l6 l7 l8 : Int) : Option ((Int × Int) ⊕ Int) :=
  if l8 < 0 then
    some (.inr l5)
  else
    if fin (512 * l2) ∧ fin ((512 * l2) + l8) ∧ (0 ≤ ((512 * l2) + l8) ∧ ((512 * l2) + l8) < 3072) then
      if (M 143 ((512 * l2) + l8).toNat) = 0 then
        s_X12_two_j163 M l1 l2 l4 l5 l6 l7 l8
      else
        (s_X12_sumOf M l6).bind fun y133 =>
          (s_X12_sumOf M l8).bind fun y139 =>
            if fin (y133 + y139) then
              if (y133 + y139) ≤ l5 then
                s_X12_two_j163 M l1 l2 l4 l5 l6 l7 l8
              else
                (s_X12_sumOf M l6).bind fun y151 =>
                  (s_X12_sumOf M l8).bind fun y157 =>
                    if fin (y151 + y157) then
                      s_X12_two_j163 M l1 l2 l4 (y151 + y157) l6 l7 l8
                    else none
            else none
    else none
theorem s_X12_two_b109_ok {d L : Nat} {M : fM} {l1 l2 l4 l5 l6 l7 l8 : Int} {o3 : Option fV} {r : ((Int × Int) ⊕ Int)} {Q : fO → fH → Prop} (h : s_X12_two_b109 M l1 l2 l4 l5 l6 l7 l8 = some r) (hC : ∀ (l5' l8' : Int) (o3' : Option fV), r = .inl (l5', l8') → Wp (d + 6, 291, 109, 0, 0, [some (fA 122), some (fI l1), some (fI l2), o3', some (fI l4), some (fI l5'), some (fI l6), some (fI l7), some (fI l8')], []) (156, fjl L, M) Q) (hE : ∀ (e : Int) (o3' o7' o8' : Option fV), r = .inr e → Wp (d + 6, 291, 184, 0, 0, [some (fA 122), some (fI l1), some (fI l2), o3', some (fI l4), some (fI e), some (fI l6), o7', o8'], []) (156, fjl L, M) Q) : Wp (d + 6, 291, 109, 0, 0, [some (fA 122), some (fI l1), some (fI l2), o3, some (fI l4), some (fI l5), some (fI l6), some (fI l7), some (fI l8)], []) (156, fjl L, M) Q := by
  unfold s_X12_two_b109 at h
  refine Wp.run 1 (f' := (d + 6, 291, 111, 0, 0, [some (fA 122), some (fI l1), some (fI l2), _, some (fI l4), some (fI l5), some (fI l6), some (fI l7), some (fI l8)], [fI l8])) (h' := (156, fjl L, M)) rfl trivial ?_
  refine Wp.br rfl (fun (c : l8 < 0) => ?_) (fun (c : ¬ (l8 < 0)) => ?_)
  · replace h := fps c h
    exact hE _ _ _ _ (Option.some.inj h).symm
  · replace h := fng c h
    obtain ⟨⟨g0, g1, g2⟩, h⟩ := fgd h
    refine Wp.run 8 (P := [0 ≤ (fw ((fw (512 * l2)) + l8)) ∧ (fw ((fw (512 * l2)) + l8)) < 3072]) (f' := (d + 6, 291, 127, 0, 0, [some (fA 122), some (fI l1), some (fI l2), _, some (fI l4), some (fI l5), some (fI l6), some (fI l7), some (fI l8)], [fI (M 143 (fw ((fw (512 * l2)) + l8)).toNat)])) (h' := (156, fjl L, M)) rfl ?_ ?_
    · rw [fw_id g0, fw_id g1]; exact g2
    rw [fw_id g0, fw_id g1]
    refine Wp.br rfl (fun (c : (M 143 ((512 * l2) + l8).toNat) = 0) => ?_) (fun (c : ¬ ((M 143 ((512 * l2) + l8).toNat) = 0)) => ?_)
    · replace h := fps c h
      exact s_X12_two_j163_ok h hC hE
    · replace h := fng c h
      refine Wp.run 2 (f' := (d + 6, 291, 133, 0, 0, [some (fA 122), some (fI l1), some (fI l2), _, some (fI l4), some (fI l5), some (fI l6), some (fI l7), some (fI l8)], [fI l6, fA 122])) (h' := (156, fjl L, M)) rfl trivial ?_
      obtain ⟨y133, hy, h⟩ := fbd h
      refine Wp.call rfl (by decide) (s_X12_sumOf_ok (d := d + 5) hy ?_)
      show Wp (d + 6, 291, 136, 0, 0, [some (fA 122), some (fI l1), some (fI l2), _, some (fI l4), some (fI l5), some (fI l6), some (fI l7), some (fI l8)], [fI y133]) (156, fjl L, M) Q
      refine Wp.run 2 (f' := (d + 6, 291, 139, 0, 0, [some (fA 122), some (fI l1), some (fI l2), _, some (fI l4), some (fI l5), some (fI l6), some (fI l7), some (fI l8)], [fI l8, fA 122, fI y133])) (h' := (156, fjl L, M)) rfl trivial ?_
      obtain ⟨y139, hy, h⟩ := fbd h
      refine Wp.call rfl (by decide) (s_X12_sumOf_ok (d := d + 5) hy ?_)
      show Wp (d + 6, 291, 142, 0, 0, [some (fA 122), some (fI l1), some (fI l2), _, some (fI l4), some (fI l5), some (fI l6), some (fI l7), some (fI l8)], [fI y139, fI y133]) (156, fjl L, M) Q
      obtain ⟨g0, h⟩ := fgd h
      refine Wp.run 2 (f' := (d + 6, 291, 145, 0, 0, [some (fA 122), some (fI l1), some (fI l2), _, some (fI l4), some (fI l5), some (fI l6), some (fI l7), some (fI l8)], [fI l5, fI (fw (y133 + y139))])) (h' := (156, fjl L, M)) rfl trivial ?_
      rw [fw_id g0]
      refine Wp.br rfl (fun (c : (y133 + y139) ≤ l5) => ?_) (fun (c : ¬ ((y133 + y139) ≤ l5)) => ?_)
      · replace h := fps c h
        exact s_X12_two_j163_ok h hC hE
      · replace h := fng c h
        refine Wp.run 2 (f' := (d + 6, 291, 151, 0, 0, [some (fA 122), some (fI l1), some (fI l2), _, some (fI l4), _, some (fI l6), some (fI l7), some (fI l8)], [fI l6, fA 122])) (h' := (156, fjl L, M)) rfl trivial ?_
        obtain ⟨y151, hy, h⟩ := fbd h
        refine Wp.call rfl (by decide) (s_X12_sumOf_ok (d := d + 5) hy ?_)
        show Wp (d + 6, 291, 154, 0, 0, [some (fA 122), some (fI l1), some (fI l2), _, some (fI l4), _, some (fI l6), some (fI l7), some (fI l8)], [fI y151]) (156, fjl L, M) Q
        refine Wp.run 2 (f' := (d + 6, 291, 157, 0, 0, [some (fA 122), some (fI l1), some (fI l2), _, some (fI l4), _, some (fI l6), some (fI l7), some (fI l8)], [fI l8, fA 122, fI y151])) (h' := (156, fjl L, M)) rfl trivial ?_
        obtain ⟨y157, hy, h⟩ := fbd h
        refine Wp.call rfl (by decide) (s_X12_sumOf_ok (d := d + 5) hy ?_)
        show Wp (d + 6, 291, 160, 0, 0, [some (fA 122), some (fI l1), some (fI l2), _, some (fI l4), _, some (fI l6), some (fI l7), some (fI l8)], [fI y157, fI y151]) (156, fjl L, M) Q
        obtain ⟨g0, h⟩ := fgd h
        refine Wp.run 2 (f' := (d + 6, 291, 163, 0, 0, [some (fA 122), some (fI l1), some (fI l2), _, some (fI l4), some (fI (fw (y151 + y157))), some (fI l6), some (fI l7), some (fI l8)], [])) (h' := (156, fjl L, M)) rfl trivial ?_
        rw [fw_id g0]
        exact s_X12_two_j163_ok h hC hE
theorem s_X12_two_b109_fr {M : fM} {l1 l2 l4 l5 l6 l7 l8 : Int} {r : ((Int × Int) ⊕ Int)} (h : s_X12_two_b109 M l1 l2 l4 l5 l6 l7 l8 = some r) : fSame s_X12_two_mods M (Sum.elim (fun _ => M) (fun _ => M) r) := by
  unfold s_X12_two_b109 at h
  by_cases c : l8 < 0
  · replace h := fps c h
    obtain rfl := Option.some.inj h
    exact fs_refl
  · replace h := fng c h
    replace h := (fgd h).2
    by_cases c : (M 143 ((512 * l2) + l8).toNat) = 0
    · replace h := fps c h
      exact fs_trans fs_refl (s_X12_two_j163_fr h)
    · replace h := fng c h
      obtain ⟨y133, hy, h⟩ := fbd h
      obtain ⟨y139, hy, h⟩ := fbd h
      replace h := (fgd h).2
      by_cases c : (y133 + y139) ≤ l5
      · replace h := fps c h
        exact fs_trans fs_refl (s_X12_two_j163_fr h)
      · replace h := fng c h
        obtain ⟨y151, hy, h⟩ := fbd h
        obtain ⟨y157, hy, h⟩ := fbd h
        replace h := (fgd h).2
        exact fs_trans fs_refl (s_X12_two_j163_fr h)
noncomputable def s_X12_two_l109 (M : fM) (l1 l2 l4 l6 l7 : Int) (s : (Int × Int)) : Option Int := fLp (fun s => s_X12_two_b109 M l1 l2 l4 s.1 l6 l7 s.2) s
theorem s_X12_two_l109_ok {d L : Nat} {M : fM} {l1 l2 l4 l5 l6 l7 l8 : Int} {o3 : Option fV} {r : Int} {Q : fO → fH → Prop} (h : s_X12_two_l109 M l1 l2 l4 l6 l7 (l5, l8) = some r) (hE : ∀ (e : Int) (o3' o7' o8' : Option fV), r = e → Wp (d + 6, 291, 184, 0, 0, [some (fA 122), some (fI l1), some (fI l2), o3', some (fI l4), some (fI e), some (fI l6), o7', o8'], []) (156, fjl L, M) Q) : Wp (d + 6, 291, 109, 0, 0, [some (fA 122), some (fI l1), some (fI l2), o3, some (fI l4), some (fI l5), some (fI l6), some (fI l7), some (fI l8)], []) (156, fjl L, M) Q := by
  refine fLp_wp (W := fun s => ∀ (o3 : Option fV), Wp (d + 6, 291, 109, 0, 0, [some (fA 122), some (fI l1), some (fI l2), o3, some (fI l4), some (fI s.1), some (fI l6), some (fI l7), some (fI s.2)], []) (156, fjl L, M) Q) (e := r) ?_ h _
  intro s r1 h hC hX o3
  refine s_X12_two_b109_ok (d := d) h (fun a0 a1 _ e1 => ?_) (fun e u0 u1 u2 e1 => hE e u0 u1 u2 (hX _ e1).symm)
  exact hC _ e1 _
noncomputable def s_X12_two_b70 (M : fM) (l1 l2 l4 l5 l6 : Int) : Option ((Int × Int) ⊕ Int) :=
  if l4 < l6 then
    some (.inr l5)
  else
    if fin (512 * l1) ∧ fin ((512 * l1) + l6) ∧ (0 ≤ ((512 * l1) + l6) ∧ ((512 * l1) + l6) < 3072) then
      if ¬ (M 143 ((512 * l1) + l6).toNat) = 0 then
        (s_X12_two_l109 M l1 l2 l4 l6 (fand l4 (fxor l6 (-1))) (l5, (fand l4 (fxor l6 (-1))))).bind fun e109 =>
          if fin (l6 + 1) then
            some (.inl (e109, (l6 + 1)))
          else none
      else
        if fin (l6 + 1) then
          some (.inl (l5, (l6 + 1)))
        else none
    else none
theorem s_X12_two_b70_ok {d L : Nat} {M : fM} {l1 l2 l4 l5 l6 : Int} {o3 o7 o8 : Option fV} {r : ((Int × Int) ⊕ Int)} {Q : fO → fH → Prop} (h : s_X12_two_b70 M l1 l2 l4 l5 l6 = some r) (hC : ∀ (l5' l6' : Int) (o3' o7' o8' : Option fV), r = .inl (l5', l6') → Wp (d + 6, 291, 70, 0, 0, [some (fA 122), some (fI l1), some (fI l2), o3', some (fI l4), some (fI l5'), some (fI l6'), o7', o8'], []) (156, fjl L, M) Q) (hE : ∀ (e : Int) (o0' o1' o2' o3' o4' o6' o7' o8' : Option fV), r = .inr e → Wp (d + 6, 291, 190, 0, 0, [o0', o1', o2', o3', o4', some (fI e), o6', o7', o8'], []) (156, fjl L, M) Q) : Wp (d + 6, 291, 70, 0, 0, [some (fA 122), some (fI l1), some (fI l2), o3, some (fI l4), some (fI l5), some (fI l6), o7, o8], []) (156, fjl L, M) Q := by
  unfold s_X12_two_b70 at h
  refine Wp.run 2 (f' := (d + 6, 291, 74, 0, 0, [some (fA 122), some (fI l1), some (fI l2), _, some (fI l4), some (fI l5), some (fI l6), _, _], [fI l4, fI l6])) (h' := (156, fjl L, M)) rfl trivial ?_
  refine Wp.br rfl (fun (c : l4 < l6) => ?_) (fun (c : ¬ (l4 < l6)) => ?_)
  · replace h := fps c h
    exact hE _ _ _ _ _ _ _ _ _ (Option.some.inj h).symm
  · replace h := fng c h
    obtain ⟨⟨g0, g1, g2⟩, h⟩ := fgd h
    refine Wp.run 8 (P := [0 ≤ (fw ((fw (512 * l1)) + l6)) ∧ (fw ((fw (512 * l1)) + l6)) < 3072]) (f' := (d + 6, 291, 90, 0, 0, [some (fA 122), some (fI l1), some (fI l2), _, some (fI l4), some (fI l5), some (fI l6), _, _], [fI (M 143 (fw ((fw (512 * l1)) + l6)).toNat)])) (h' := (156, fjl L, M)) rfl ?_ ?_
    · rw [fw_id g0, fw_id g1]; exact g2
    rw [fw_id g0, fw_id g1]
    refine Wp.br rfl (fun (c : ¬ (M 143 ((512 * l1) + l6).toNat) = 0) => ?_) (fun (c : ¬ (¬ (M 143 ((512 * l1) + l6).toNat) = 0)) => ?_)
    · replace h := fps c h
      refine Wp.run 8 (f' := (d + 6, 291, 109, 0, 0, [some (fA 122), some (fI l1), some (fI l2), _, some (fI l4), some (fI l5), some (fI l6), some (fI (fand l4 (fxor l6 (-1)))), some (fI (fand l4 (fxor l6 (-1))))], [])) (h' := (156, fjl L, M)) rfl trivial ?_
      obtain ⟨e109, hy, h⟩ := fbd h
      refine s_X12_two_l109_ok hy (fun x u3 u7 u8 ex => ?_)
      cases ex
      show Wp (d + 6, 291, 184, 0, 0, [some (fA 122), some (fI l1), some (fI l2), u3, some (fI l4), some (fI e109), some (fI l6), u7, u8], []) (156, fjl L, M) Q
      obtain ⟨g0, h⟩ := fgd h
      refine Wp.run 2 (f' := (d + 6, 291, 70, 0, 0, [some (fA 122), some (fI l1), some (fI l2), _, some (fI l4), some (fI e109), some (fI (fw (l6 + 1))), _, _], [])) (h' := (156, fjl L, M)) rfl trivial ?_
      rw [fw_id g0]
      exact hC _ _ _ _ _ (Option.some.inj h).symm
    · replace h := fng c h
      obtain ⟨g0, h⟩ := fgd h
      refine Wp.run 3 (f' := (d + 6, 291, 70, 0, 0, [some (fA 122), some (fI l1), some (fI l2), _, some (fI l4), some (fI l5), some (fI (fw (l6 + 1))), _, _], [])) (h' := (156, fjl L, M)) rfl trivial ?_
      rw [fw_id g0]
      exact hC _ _ _ _ _ (Option.some.inj h).symm
theorem s_X12_two_b70_fr {M : fM} {l1 l2 l4 l5 l6 : Int} {r : ((Int × Int) ⊕ Int)} (h : s_X12_two_b70 M l1 l2 l4 l5 l6 = some r) : fSame s_X12_two_mods M (Sum.elim (fun _ => M) (fun _ => M) r) := by
  unfold s_X12_two_b70 at h
  by_cases c : l4 < l6
  · replace h := fps c h
    obtain rfl := Option.some.inj h
    exact fs_refl
  · replace h := fng c h
    replace h := (fgd h).2
    by_cases c : ¬ (M 143 ((512 * l1) + l6).toNat) = 0
    · replace h := fps c h
      obtain ⟨e109, hy, h⟩ := fbd h
      replace h := (fgd h).2
      obtain rfl := Option.some.inj h
      exact fs_refl
    · replace h := fng c h
      replace h := (fgd h).2
      obtain rfl := Option.some.inj h
      exact fs_refl
noncomputable def s_X12_two_l70 (M : fM) (l1 l2 l4 : Int) (s : (Int × Int)) : Option Int := fLp (fun s => s_X12_two_b70 M l1 l2 l4 s.1 s.2) s
theorem s_X12_two_l70_ok {d L : Nat} {M : fM} {l1 l2 l4 l5 l6 : Int} {o3 o7 o8 : Option fV} {r : Int} {Q : fO → fH → Prop} (h : s_X12_two_l70 M l1 l2 l4 (l5, l6) = some r) (hE : ∀ (e : Int) (o0' o1' o2' o3' o4' o6' o7' o8' : Option fV), r = e → Wp (d + 6, 291, 190, 0, 0, [o0', o1', o2', o3', o4', some (fI e), o6', o7', o8'], []) (156, fjl L, M) Q) : Wp (d + 6, 291, 70, 0, 0, [some (fA 122), some (fI l1), some (fI l2), o3, some (fI l4), some (fI l5), some (fI l6), o7, o8], []) (156, fjl L, M) Q := by
  refine fLp_wp (W := fun s => ∀ (o3 o7 o8 : Option fV), Wp (d + 6, 291, 70, 0, 0, [some (fA 122), some (fI l1), some (fI l2), o3, some (fI l4), some (fI s.1), some (fI s.2), o7, o8], []) (156, fjl L, M) Q) (e := r) ?_ h _ _ _
  intro s r1 h hC hX o3 o7 o8
  refine s_X12_two_b70_ok (d := d) h (fun a0 a1 _ _ _ e1 => ?_) (fun e u0 u1 u2 u3 u4 u5 u6 u7 e1 => hE e u0 u1 u2 u3 u4 u5 u6 u7 (hX _ e1).symm)
  exact hC _ e1 _ _ _
noncomputable def s_X12_two (M : fM) (l1 l2 l3 : Int) : Option (Int × fM) :=
  (s_X12_taken (fup M 122 0 0) 1240).bind fun y9 =>
    (s_X12_isTuner y9.2 l1).bind fun y14 =>
      if y14 = 0 then
        some ((-1), y9.2)
      else
        (s_X12_isTuner y9.2 l2).bind fun y22 =>
          if y22 = 0 then
            some ((-1), y9.2)
          else
            if l1 = l2 then
              some ((-1), y9.2)
            else
              (s_X12_tells y9.2 l3 0).bind fun y36 =>
                if ¬ y36.1 = 0 then
                  (s_X12_sets y36.2 l1).bind fun y46 =>
                    (s_X12_sets y46.2 l2).bind fun y51 =>
                      if fin ((fshl 1 (y51.2 122 39)) - 1) then
                        (s_X12_two_l70 y51.2 l1 l2 ((fshl 1 (y51.2 122 39)) - 1) (0, 0)).bind fun e70 =>
                          some (e70, y51.2)
                      else none
                else
                  some ((-1), y36.2)
theorem s_X12_two_ok {d L : Nat} {M : fM} {l1 l2 l3 : Int} {r : (Int × fM)} {Q : fO → fH → Prop} (h : s_X12_two M l1 l2 l3 = some r) (H : Q (oI r.1) (156, fjl L, r.2)) : Wp (d + 6, 291, 0, 0, 0, [some (fA 122), some (fI l1), some (fI l2), some (fI l3), none, none, none, none, none], []) (156, fjl L, M) Q := by
  unfold s_X12_two at h
  refine Wp.run 5 (f' := (d + 6, 291, 9, 0, 0, [some (fA 122), some (fI l1), some (fI l2), some (fI l3), _, _, _, _, _], [fI 1240, fA 122])) (h' := (156, fjl L, (fup M 122 0 0))) rfl trivial ?_
  obtain ⟨y9, hy, h⟩ := fbd h
  refine Wp.call rfl (by decide) (s_X12_taken_ok (d := d + 5) hy ?_)
  show Wp (d + 6, 291, 12, 0, 0, [some (fA 122), some (fI l1), some (fI l2), some (fI l3), _, _, _, _, _], []) (156, fjl L, y9.2) Q
  refine Wp.run 2 (f' := (d + 6, 291, 14, 0, 0, [some (fA 122), some (fI l1), some (fI l2), some (fI l3), _, _, _, _, _], [fI l1, fA 122])) (h' := (156, fjl L, y9.2)) rfl trivial ?_
  obtain ⟨y14, hy, h⟩ := fbd h
  refine Wp.call rfl (by decide) (s_X12_isTuner_ok (d := d + 4) hy ?_)
  show Wp (d + 6, 291, 17, 0, 0, [some (fA 122), some (fI l1), some (fI l2), some (fI l3), _, _, _, _, _], [fI y14]) (156, fjl L, y9.2) Q
  refine Wp.br rfl (fun (c : y14 = 0) => ?_) (fun (c : ¬ (y14 = 0)) => ?_)
  · replace h := fps c h
    refine Wp.run 1 (f' := (d + 6, 291, 43, 0, 0, [_, _, _, _, _, _, _, _, _], [fI (-1)])) (h' := (156, fjl L, y9.2)) rfl trivial ?_
    obtain rfl := Option.some.inj h
    exact Wp.done rfl (by decide) H
  · replace h := fng c h
    refine Wp.run 2 (f' := (d + 6, 291, 22, 0, 0, [some (fA 122), some (fI l1), some (fI l2), some (fI l3), _, _, _, _, _], [fI l2, fA 122])) (h' := (156, fjl L, y9.2)) rfl trivial ?_
    obtain ⟨y22, hy, h⟩ := fbd h
    refine Wp.call rfl (by decide) (s_X12_isTuner_ok (d := d + 4) hy ?_)
    show Wp (d + 6, 291, 25, 0, 0, [some (fA 122), some (fI l1), some (fI l2), some (fI l3), _, _, _, _, _], [fI y22]) (156, fjl L, y9.2) Q
    refine Wp.br rfl (fun (c : y22 = 0) => ?_) (fun (c : ¬ (y22 = 0)) => ?_)
    · replace h := fps c h
      refine Wp.run 1 (f' := (d + 6, 291, 43, 0, 0, [_, _, _, _, _, _, _, _, _], [fI (-1)])) (h' := (156, fjl L, y9.2)) rfl trivial ?_
      obtain rfl := Option.some.inj h
      exact Wp.done rfl (by decide) H
    · replace h := fng c h
      refine Wp.run 2 (f' := (d + 6, 291, 30, 0, 0, [some (fA 122), some (fI l1), some (fI l2), some (fI l3), _, _, _, _, _], [fI l2, fI l1])) (h' := (156, fjl L, y9.2)) rfl trivial ?_
      refine Wp.br rfl (fun (c : l1 = l2) => ?_) (fun (c : ¬ (l1 = l2)) => ?_)
      · replace h := fps c h
        refine Wp.run 1 (f' := (d + 6, 291, 43, 0, 0, [_, _, _, _, _, _, _, _, _], [fI (-1)])) (h' := (156, fjl L, y9.2)) rfl trivial ?_
        obtain rfl := Option.some.inj h
        exact Wp.done rfl (by decide) H
      · replace h := fng c h
        refine Wp.run 3 (f' := (d + 6, 291, 36, 0, 0, [some (fA 122), some (fI l1), some (fI l2), _, _, _, _, _, _], [fI 0, fI l3, fA 122])) (h' := (156, fjl L, y9.2)) rfl trivial ?_
        obtain ⟨y36, hy, h⟩ := fbd h
        refine Wp.call rfl (by decide) (s_X12_tells_ok (d := d + 0) hy ?_)
        show Wp (d + 6, 291, 39, 0, 0, [some (fA 122), some (fI l1), some (fI l2), _, _, _, _, _, _], [fI y36.1]) (156, fjl L, y36.2) Q
        refine Wp.br rfl (fun (c : ¬ y36.1 = 0) => ?_) (fun (c : ¬ (¬ y36.1 = 0)) => ?_)
        · replace h := fps c h
          refine Wp.run 2 (f' := (d + 6, 291, 46, 0, 0, [some (fA 122), some (fI l1), some (fI l2), _, _, _, _, _, _], [fI l1, fA 122])) (h' := (156, fjl L, y36.2)) rfl trivial ?_
          obtain ⟨y46, hy, h⟩ := fbd h
          refine Wp.call rfl (by decide) (s_X12_sets_ok (d := d + 2) hy ?_)
          show Wp (d + 6, 291, 49, 0, 0, [some (fA 122), some (fI l1), some (fI l2), _, _, _, _, _, _], []) (156, fjl L, y46.2) Q
          refine Wp.run 2 (f' := (d + 6, 291, 51, 0, 0, [some (fA 122), some (fI l1), some (fI l2), _, _, _, _, _, _], [fI l2, fA 122])) (h' := (156, fjl L, y46.2)) rfl trivial ?_
          obtain ⟨y51, hy, h⟩ := fbd h
          refine Wp.call rfl (by decide) (s_X12_sets_ok (d := d + 2) hy ?_)
          show Wp (d + 6, 291, 54, 0, 0, [some (fA 122), some (fI l1), some (fI l2), _, _, _, _, _, _], []) (156, fjl L, y51.2) Q
          obtain ⟨g0, h⟩ := fgd h
          refine Wp.run 11 (f' := (d + 6, 291, 70, 0, 0, [some (fA 122), some (fI l1), some (fI l2), _, some (fI (fw ((fshl 1 (y51.2 122 39)) - 1))), some (fI 0), some (fI 0), _, _], [])) (h' := (156, fjl L, y51.2)) rfl trivial ?_
          rw [fw_id g0]
          obtain ⟨e70, hy, h⟩ := fbd h
          refine s_X12_two_l70_ok hy (fun x u0 u1 u2 u3 u4 u6 u7 u8 ex => ?_)
          cases ex
          show Wp (d + 6, 291, 190, 0, 0, [u0, u1, u2, u3, u4, some (fI e70), u6, u7, u8], []) (156, fjl L, y51.2) Q
          refine Wp.run 1 (f' := (d + 6, 291, 192, 0, 0, [_, _, _, _, _, _, _, _, _], [fI e70])) (h' := (156, fjl L, y51.2)) rfl trivial ?_
          obtain rfl := Option.some.inj h
          exact Wp.done rfl (by decide) H
        · replace h := fng c h
          refine Wp.run 1 (f' := (d + 6, 291, 43, 0, 0, [_, _, _, _, _, _, _, _, _], [fI (-1)])) (h' := (156, fjl L, y36.2)) rfl trivial ?_
          obtain rfl := Option.some.inj h
          exact Wp.done rfl (by decide) H
theorem s_X12_two_fr {M : fM} {l1 l2 l3 : Int} {r : (Int × fM)} (h : s_X12_two M l1 l2 l3 = some r) : fSame s_X12_two_mods M r.2 := by
  unfold s_X12_two at h
  obtain ⟨y9, hy, h⟩ := fbd h
  have k9 := fs_trans (l := s_X12_two_mods) (fs_up fs_refl (.inr (by decide))) (fs_mono (l := s_X12_taken_mods) (by decide) (s_X12_taken_fr hy))
  obtain ⟨y14, hy, h⟩ := fbd h
  by_cases c : y14 = 0
  · replace h := fps c h
    obtain rfl := Option.some.inj h
    exact k9
  · replace h := fng c h
    obtain ⟨y22, hy, h⟩ := fbd h
    by_cases c : y22 = 0
    · replace h := fps c h
      obtain rfl := Option.some.inj h
      exact k9
    · replace h := fng c h
      by_cases c : l1 = l2
      · replace h := fps c h
        obtain rfl := Option.some.inj h
        exact k9
      · replace h := fng c h
        obtain ⟨y36, hy, h⟩ := fbd h
        have k36 := fs_trans (l := s_X12_two_mods) k9 (fs_mono (l := s_X12_tells_mods) (by decide) (s_X12_tells_fr hy))
        by_cases c : ¬ y36.1 = 0
        · replace h := fps c h
          obtain ⟨y46, hy, h⟩ := fbd h
          have k46 := fs_trans (l := s_X12_two_mods) k36 (fs_mono (l := s_X12_sets_mods) (by decide) (s_X12_sets_fr hy))
          obtain ⟨y51, hy, h⟩ := fbd h
          have k51 := fs_trans (l := s_X12_two_mods) k46 (fs_mono (l := s_X12_sets_mods) (by decide) (s_X12_sets_fr hy))
          replace h := (fgd h).2
          obtain ⟨e70, hy, h⟩ := fbd h
          obtain rfl := Option.some.inj h
          exact k51
        · replace h := fng c h
          obtain rfl := Option.some.inj h
          exact k36
abbrev s_X7_countWays_mods : List (Nat × Option Nat) := [(65, none)]
noncomputable def s_X7_countWays_b8 (M : fM) (l2 l3 : Int) : Option ((Int × fM) ⊕ fM) :=
  if (M 54 18) ≤ l3 then
    some (.inr M)
  else
    if fin (l2 + l3) ∧ (0 ≤ l3 ∧ l3 < 512) then
      if 1000000 ≤ (M 63 (l3).toNat) then
        if (0 ≤ (l2 + l3) ∧ (l2 + l3) < 3072) ∧ fin (l3 + 1) then
          some (.inl ((l3 + 1), (fup M 65 (l2 + l3).toNat 0)))
        else none
      else
        if (0 ≤ (l2 + l3) ∧ (l2 + l3) < 3072) ∧ fin (l3 + 1) then
          some (.inl ((l3 + 1), (fup M 65 (l2 + l3).toNat 1)))
        else none
    else none
theorem s_X7_countWays_b8_ok {d L : Nat} {M : fM} {l2 l3 : Int} {o1 o4 : Option fV} {r : ((Int × fM) ⊕ fM)} {Q : fO → fH → Prop} (h : s_X7_countWays_b8 M l2 l3 = some r) (hC : ∀ (l3' : Int) (M' : fM) (o1' o4' : Option fV), r = .inl (l3', M') → Wp (d + 0, 106, 8, 0, 0, [some (fA 54), o1', some (fI l2), some (fI l3'), o4'], []) (156, fjl L, M') Q) (hE : ∀ (e : fM) (o1' o3' o4' : Option fV), r = .inr e → Wp (d + 0, 106, 46, 0, 0, [some (fA 54), o1', some (fI l2), o3', o4'], []) (156, fjl L, e) Q) : Wp (d + 0, 106, 8, 0, 0, [some (fA 54), o1, some (fI l2), some (fI l3), o4], []) (156, fjl L, M) Q := by
  unfold s_X7_countWays_b8 at h
  refine Wp.run 3 (f' := (d + 0, 106, 13, 0, 0, [some (fA 54), _, some (fI l2), some (fI l3), _], [fI (M 54 18), fI l3])) (h' := (156, fjl L, M)) rfl trivial ?_
  refine Wp.br rfl (fun (c : (M 54 18) ≤ l3) => ?_) (fun (c : ¬ ((M 54 18) ≤ l3)) => ?_)
  · replace h := fps c h
    exact hE _ _ _ _ (Option.some.inj h).symm
  · replace h := fng c h
    obtain ⟨⟨g0, g1⟩, h⟩ := fgd h
    refine Wp.run 10 (P := [0 ≤ l3 ∧ l3 < 512]) (f' := (d + 0, 106, 31, 0, 0, [some (fA 54), _, some (fI l2), some (fI l3), _], [fI 1000000, fI (M 63 (l3).toNat), fI (fw (l2 + l3)), fA 65])) (h' := (156, fjl L, M)) rfl ?_ ?_
    · exact g1
    rw [fw_id g0]
    refine Wp.br rfl (fun (c : 1000000 ≤ (M 63 (l3).toNat)) => ?_) (fun (c : ¬ (1000000 ≤ (M 63 (l3).toNat))) => ?_)
    · replace h := fps c h
      obtain ⟨⟨g0, g1⟩, h⟩ := fgd h
      refine Wp.run 4 (P := [0 ≤ (l2 + l3) ∧ (l2 + l3) < 3072]) (f' := (d + 0, 106, 8, 0, 0, [some (fA 54), _, some (fI l2), some (fI (fw (l3 + 1))), _], [])) (h' := (156, fjl L, (fup M 65 (l2 + l3).toNat 0))) rfl ?_ ?_
      · exact g0
      rw [fw_id g1]
      exact hC _ _ _ _ (Option.some.inj h).symm
    · replace h := fng c h
      obtain ⟨⟨g0, g1⟩, h⟩ := fgd h
      refine Wp.run 5 (P := [0 ≤ (l2 + l3) ∧ (l2 + l3) < 3072]) (f' := (d + 0, 106, 8, 0, 0, [some (fA 54), _, some (fI l2), some (fI (fw (l3 + 1))), _], [])) (h' := (156, fjl L, (fup M 65 (l2 + l3).toNat 1))) rfl ?_ ?_
      · exact g0
      rw [fw_id g1]
      exact hC _ _ _ _ (Option.some.inj h).symm
theorem s_X7_countWays_b8_fr {M : fM} {l2 l3 : Int} {r : ((Int × fM) ⊕ fM)} (h : s_X7_countWays_b8 M l2 l3 = some r) : fSame s_X7_countWays_mods M (Sum.elim (fun s => s.2) (fun e => e) r) := by
  unfold s_X7_countWays_b8 at h
  by_cases c : (M 54 18) ≤ l3
  · replace h := fps c h
    obtain rfl := Option.some.inj h
    exact fs_refl
  · replace h := fng c h
    replace h := (fgd h).2
    by_cases c : 1000000 ≤ (M 63 (l3).toNat)
    · replace h := fps c h
      replace h := (fgd h).2
      obtain rfl := Option.some.inj h
      exact fs_up fs_refl (.inl (by decide))
    · replace h := fng c h
      replace h := (fgd h).2
      obtain rfl := Option.some.inj h
      exact fs_up fs_refl (.inl (by decide))
noncomputable def s_X7_countWays_l8 (l2 : Int) (s : (Int × fM)) : Option fM := fLp (fun s => s_X7_countWays_b8 s.2 l2 s.1) s
theorem s_X7_countWays_l8_ok {d L : Nat} {M : fM} {l2 l3 : Int} {o1 o4 : Option fV} {r : fM} {Q : fO → fH → Prop} (h : s_X7_countWays_l8 l2 (l3, M) = some r) (hE : ∀ (e : fM) (o1' o3' o4' : Option fV), r = e → Wp (d + 0, 106, 46, 0, 0, [some (fA 54), o1', some (fI l2), o3', o4'], []) (156, fjl L, e) Q) : Wp (d + 0, 106, 8, 0, 0, [some (fA 54), o1, some (fI l2), some (fI l3), o4], []) (156, fjl L, M) Q := by
  refine fLp_wp (W := fun s => ∀ (o1 o4 : Option fV), Wp (d + 0, 106, 8, 0, 0, [some (fA 54), o1, some (fI l2), some (fI s.1), o4], []) (156, fjl L, s.2) Q) (e := r) ?_ h _ _
  intro s r1 h hC hX o1 o4
  refine s_X7_countWays_b8_ok (d := d) h (fun a0 a1 _ _ e1 => ?_) (fun e u0 u1 u2 e1 => hE e u0 u1 u2 (hX _ e1).symm)
  exact hC _ e1 _ _
theorem s_X7_countWays_l8_fr {M : fM} {l2 l3 : Int} {r : fM} (h : s_X7_countWays_l8 l2 (l3, M) = some r) : fSame s_X7_countWays_mods M ((fun e => e) r) := by
  refine fLp_inv (I := fun s => fSame s_X7_countWays_mods M s.2) (J := fun r => fSame s_X7_countWays_mods M ((fun e => e) r)) h fs_refl (fun s s1 hs hb => ?_) (fun s e hs hb => ?_)
  · exact fs_trans hs (s_X7_countWays_b8_fr hb)
  · exact fs_trans hs (s_X7_countWays_b8_fr hb)
noncomputable def s_X7_countWays_b59 (M : fM) (l2 l3 l4 : Int) : Option ((Int × fM) ⊕ fM) :=
  if (M 54 18) ≤ l4 then
    some (.inr M)
  else
    if ¬ (fand (fshr l4 l3) 1) = 1 then
      if fin (l4 + 1) then
        some (.inl ((l4 + 1), M))
      else none
    else
      if fin (l2 + l4) ∧ (0 ≤ (l2 + l4) ∧ (l2 + l4) < 3072) ∧ fin (l2 + (fand l4 (fxor (fshl 1 l3) (-1)))) ∧ (0 ≤ (l2 + (fand l4 (fxor (fshl 1 l3) (-1)))) ∧ (l2 + (fand l4 (fxor (fshl 1 l3) (-1)))) < 3072) ∧ finl ((M 65 (l2 + l4).toNat) + (M 65 (l2 + (fand l4 (fxor (fshl 1 l3) (-1)))).toNat)) then
        if (0 ≤ (l2 + l4) ∧ (l2 + l4) < 3072) ∧ fin (l4 + 1) then
          some (.inl ((l4 + 1), (fup M 65 (l2 + l4).toNat ((M 65 (l2 + l4).toNat) + (M 65 (l2 + (fand l4 (fxor (fshl 1 l3) (-1)))).toNat)))))
        else none
      else none
theorem s_X7_countWays_b59_ok {d L : Nat} {M : fM} {l2 l3 l4 : Int} {o1 : Option fV} {r : ((Int × fM) ⊕ fM)} {Q : fO → fH → Prop} (h : s_X7_countWays_b59 M l2 l3 l4 = some r) (hC : ∀ (l4' : Int) (M' : fM) (o1' : Option fV), r = .inl (l4', M') → Wp (d + 0, 106, 59, 0, 0, [some (fA 54), o1', some (fI l2), some (fI l3), some (fI l4')], []) (156, fjl L, M') Q) (hE : ∀ (e : fM) (o1' o4' : Option fV), r = .inr e → Wp (d + 0, 106, 111, 0, 0, [some (fA 54), o1', some (fI l2), some (fI l3), o4'], []) (156, fjl L, e) Q) : Wp (d + 0, 106, 59, 0, 0, [some (fA 54), o1, some (fI l2), some (fI l3), some (fI l4)], []) (156, fjl L, M) Q := by
  unfold s_X7_countWays_b59 at h
  refine Wp.run 3 (f' := (d + 0, 106, 65, 0, 0, [some (fA 54), _, some (fI l2), some (fI l3), some (fI l4)], [fI (M 54 18), fI l4])) (h' := (156, fjl L, M)) rfl trivial ?_
  refine Wp.br rfl (fun (c : (M 54 18) ≤ l4) => ?_) (fun (c : ¬ ((M 54 18) ≤ l4)) => ?_)
  · replace h := fps c h
    exact hE _ _ _ (Option.some.inj h).symm
  · replace h := fng c h
    refine Wp.run 6 (f' := (d + 0, 106, 75, 0, 0, [some (fA 54), _, some (fI l2), some (fI l3), some (fI l4)], [fI 1, fI (fand (fshr l4 l3) 1)])) (h' := (156, fjl L, M)) rfl trivial ?_
    refine Wp.br rfl (fun (c : ¬ (fand (fshr l4 l3) 1) = 1) => ?_) (fun (c : ¬ (¬ (fand (fshr l4 l3) 1) = 1)) => ?_)
    · replace h := fps c h
      obtain ⟨g0, h⟩ := fgd h
      refine Wp.run 2 (f' := (d + 0, 106, 59, 0, 0, [some (fA 54), _, some (fI l2), some (fI l3), some (fI (fw (l4 + 1)))], [])) (h' := (156, fjl L, M)) rfl trivial ?_
      rw [fw_id g0]
      exact hC _ _ _ (Option.some.inj h).symm
    · replace h := fng c h
      obtain ⟨⟨g0, g1, g2, g3, g4⟩, h⟩ := fgd h
      refine Wp.run 20 (P := [0 ≤ (fw (l2 + l4)) ∧ (fw (l2 + l4)) < 3072, 0 ≤ (fw (l2 + (fand l4 (fxor (fshl 1 l3) (-1))))) ∧ (fw (l2 + (fand l4 (fxor (fshl 1 l3) (-1))))) < 3072]) (f' := (d + 0, 106, 104, 0, 0, [some (fA 54), _, some (fI l2), some (fI l3), some (fI l4)], [fJ (fwl ((M 65 (fw (l2 + l4)).toNat) + (M 65 (fw (l2 + (fand l4 (fxor (fshl 1 l3) (-1))))).toNat))), fI (fw (l2 + l4)), fA 65])) (h' := (156, fjl L, M)) rfl ?_ ?_
      · rw [fw_id g0, fw_id g2]; exact ⟨g1, g3⟩
      rw [fw_id g0, fw_id g2, fwl_id g4]
      obtain ⟨⟨g0, g1⟩, h⟩ := fgd h
      refine Wp.run 3 (P := [0 ≤ (l2 + l4) ∧ (l2 + l4) < 3072]) (f' := (d + 0, 106, 59, 0, 0, [some (fA 54), _, some (fI l2), some (fI l3), some (fI (fw (l4 + 1)))], [])) (h' := (156, fjl L, (fup M 65 (l2 + l4).toNat ((M 65 (l2 + l4).toNat) + (M 65 (l2 + (fand l4 (fxor (fshl 1 l3) (-1)))).toNat))))) rfl ?_ ?_
      · exact g0
      rw [fw_id g1]
      exact hC _ _ _ (Option.some.inj h).symm
theorem s_X7_countWays_b59_fr {M : fM} {l2 l3 l4 : Int} {r : ((Int × fM) ⊕ fM)} (h : s_X7_countWays_b59 M l2 l3 l4 = some r) : fSame s_X7_countWays_mods M (Sum.elim (fun s => s.2) (fun e => e) r) := by
  unfold s_X7_countWays_b59 at h
  by_cases c : (M 54 18) ≤ l4
  · replace h := fps c h
    obtain rfl := Option.some.inj h
    exact fs_refl
  · replace h := fng c h
    by_cases c : ¬ (fand (fshr l4 l3) 1) = 1
    · replace h := fps c h
      replace h := (fgd h).2
      obtain rfl := Option.some.inj h
      exact fs_refl
    · replace h := fng c h
      replace h := (fgd h).2
      replace h := (fgd h).2
      obtain rfl := Option.some.inj h
      exact fs_up fs_refl (.inl (by decide))
noncomputable def s_X7_countWays_l59 (l2 l3 : Int) (s : (Int × fM)) : Option fM := fLp (fun s => s_X7_countWays_b59 s.2 l2 l3 s.1) s
theorem s_X7_countWays_l59_ok {d L : Nat} {M : fM} {l2 l3 l4 : Int} {o1 : Option fV} {r : fM} {Q : fO → fH → Prop} (h : s_X7_countWays_l59 l2 l3 (l4, M) = some r) (hE : ∀ (e : fM) (o1' o4' : Option fV), r = e → Wp (d + 0, 106, 111, 0, 0, [some (fA 54), o1', some (fI l2), some (fI l3), o4'], []) (156, fjl L, e) Q) : Wp (d + 0, 106, 59, 0, 0, [some (fA 54), o1, some (fI l2), some (fI l3), some (fI l4)], []) (156, fjl L, M) Q := by
  refine fLp_wp (W := fun s => ∀ (o1 : Option fV), Wp (d + 0, 106, 59, 0, 0, [some (fA 54), o1, some (fI l2), some (fI l3), some (fI s.1)], []) (156, fjl L, s.2) Q) (e := r) ?_ h _
  intro s r1 h hC hX o1
  refine s_X7_countWays_b59_ok (d := d) h (fun a0 a1 _ e1 => ?_) (fun e u0 u1 e1 => hE e u0 u1 (hX _ e1).symm)
  exact hC _ e1 _
theorem s_X7_countWays_l59_fr {M : fM} {l2 l3 l4 : Int} {r : fM} (h : s_X7_countWays_l59 l2 l3 (l4, M) = some r) : fSame s_X7_countWays_mods M ((fun e => e) r) := by
  refine fLp_inv (I := fun s => fSame s_X7_countWays_mods M s.2) (J := fun r => fSame s_X7_countWays_mods M ((fun e => e) r)) h fs_refl (fun s s1 hs hb => ?_) (fun s e hs hb => ?_)
  · exact fs_trans hs (s_X7_countWays_b59_fr hb)
  · exact fs_trans hs (s_X7_countWays_b59_fr hb)
noncomputable def s_X7_countWays_b48 (M : fM) (l2 l3 : Int) : Option ((Int × fM) ⊕ fM) :=
  if (M 54 17) ≤ l3 then
    some (.inr M)
  else
    (s_X7_countWays_l59 l2 l3 (0, M)).bind fun e59 =>
      if fin (l3 + 1) then
        some (.inl ((l3 + 1), e59))
      else none
theorem s_X7_countWays_b48_ok {d L : Nat} {M : fM} {l2 l3 : Int} {o1 o4 : Option fV} {r : ((Int × fM) ⊕ fM)} {Q : fO → fH → Prop} (h : s_X7_countWays_b48 M l2 l3 = some r) (hC : ∀ (l3' : Int) (M' : fM) (o1' o4' : Option fV), r = .inl (l3', M') → Wp (d + 0, 106, 48, 0, 0, [some (fA 54), o1', some (fI l2), some (fI l3'), o4'], []) (156, fjl L, M') Q) (hE : ∀ (e : fM) (o0' o1' o2' o3' o4' : Option fV), r = .inr e → Wp (d + 0, 106, 117, 0, 0, [o0', o1', o2', o3', o4'], []) (156, fjl L, e) Q) : Wp (d + 0, 106, 48, 0, 0, [some (fA 54), o1, some (fI l2), some (fI l3), o4], []) (156, fjl L, M) Q := by
  unfold s_X7_countWays_b48 at h
  refine Wp.run 3 (f' := (d + 0, 106, 53, 0, 0, [some (fA 54), _, some (fI l2), some (fI l3), _], [fI (M 54 17), fI l3])) (h' := (156, fjl L, M)) rfl trivial ?_
  refine Wp.br rfl (fun (c : (M 54 17) ≤ l3) => ?_) (fun (c : ¬ ((M 54 17) ≤ l3)) => ?_)
  · replace h := fps c h
    exact hE _ _ _ _ _ _ (Option.some.inj h).symm
  · replace h := fng c h
    refine Wp.run 2 (f' := (d + 0, 106, 59, 0, 0, [some (fA 54), _, some (fI l2), some (fI l3), some (fI 0)], [])) (h' := (156, fjl L, M)) rfl trivial ?_
    obtain ⟨e59, hy, h⟩ := fbd h
    refine s_X7_countWays_l59_ok hy (fun x u1 u4 ex => ?_)
    cases ex
    show Wp (d + 0, 106, 111, 0, 0, [some (fA 54), u1, some (fI l2), some (fI l3), u4], []) (156, fjl L, e59) Q
    obtain ⟨g0, h⟩ := fgd h
    refine Wp.run 2 (f' := (d + 0, 106, 48, 0, 0, [some (fA 54), _, some (fI l2), some (fI (fw (l3 + 1))), _], [])) (h' := (156, fjl L, e59)) rfl trivial ?_
    rw [fw_id g0]
    exact hC _ _ _ _ (Option.some.inj h).symm
theorem s_X7_countWays_b48_fr {M : fM} {l2 l3 : Int} {r : ((Int × fM) ⊕ fM)} (h : s_X7_countWays_b48 M l2 l3 = some r) : fSame s_X7_countWays_mods M (Sum.elim (fun s => s.2) (fun e => e) r) := by
  unfold s_X7_countWays_b48 at h
  by_cases c : (M 54 17) ≤ l3
  · replace h := fps c h
    obtain rfl := Option.some.inj h
    exact fs_refl
  · replace h := fng c h
    obtain ⟨e59, hy, h⟩ := fbd h
    have k59 := fs_trans (l := s_X7_countWays_mods) fs_refl (s_X7_countWays_l59_fr hy)
    replace h := (fgd h).2
    obtain rfl := Option.some.inj h
    exact k59
noncomputable def s_X7_countWays_l48 (l2 : Int) (s : (Int × fM)) : Option fM := fLp (fun s => s_X7_countWays_b48 s.2 l2 s.1) s
theorem s_X7_countWays_l48_ok {d L : Nat} {M : fM} {l2 l3 : Int} {o1 o4 : Option fV} {r : fM} {Q : fO → fH → Prop} (h : s_X7_countWays_l48 l2 (l3, M) = some r) (hE : ∀ (e : fM) (o0' o1' o2' o3' o4' : Option fV), r = e → Wp (d + 0, 106, 117, 0, 0, [o0', o1', o2', o3', o4'], []) (156, fjl L, e) Q) : Wp (d + 0, 106, 48, 0, 0, [some (fA 54), o1, some (fI l2), some (fI l3), o4], []) (156, fjl L, M) Q := by
  refine fLp_wp (W := fun s => ∀ (o1 o4 : Option fV), Wp (d + 0, 106, 48, 0, 0, [some (fA 54), o1, some (fI l2), some (fI s.1), o4], []) (156, fjl L, s.2) Q) (e := r) ?_ h _ _
  intro s r1 h hC hX o1 o4
  refine s_X7_countWays_b48_ok (d := d) h (fun a0 a1 _ _ e1 => ?_) (fun e u0 u1 u2 u3 u4 e1 => hE e u0 u1 u2 u3 u4 (hX _ e1).symm)
  exact hC _ e1 _ _
theorem s_X7_countWays_l48_fr {M : fM} {l2 l3 : Int} {r : fM} (h : s_X7_countWays_l48 l2 (l3, M) = some r) : fSame s_X7_countWays_mods M ((fun e => e) r) := by
  refine fLp_inv (I := fun s => fSame s_X7_countWays_mods M s.2) (J := fun r => fSame s_X7_countWays_mods M ((fun e => e) r)) h fs_refl (fun s s1 hs hb => ?_) (fun s e hs hb => ?_)
  · exact fs_trans hs (s_X7_countWays_b48_fr hb)
  · exact fs_trans hs (s_X7_countWays_b48_fr hb)
noncomputable def s_X7_countWays (M : fM) (l1 : Int) : Option (Unit × fM) :=
  if fin (l1 * 512) then
    (s_X7_countWays_l8 (l1 * 512) (0, M)).bind fun e8 =>
      (s_X7_countWays_l48 (l1 * 512) (0, e8)).bind fun e48 =>
        some ((), e48)
  else none
theorem s_X7_countWays_ok {d L : Nat} {M : fM} {l1 : Int} {r : (Unit × fM)} {Q : fO → fH → Prop} (h : s_X7_countWays M l1 = some r) (H : Q (oV r.1) (156, fjl L, r.2)) : Wp (d + 0, 106, 0, 0, 0, [some (fA 54), some (fI l1), none, none, none], []) (156, fjl L, M) Q := by
  unfold s_X7_countWays at h
  obtain ⟨g0, h⟩ := fgd h
  refine Wp.run 6 (f' := (d + 0, 106, 8, 0, 0, [some (fA 54), _, some (fI (fw (l1 * 512))), some (fI 0), _], [])) (h' := (156, fjl L, M)) rfl trivial ?_
  rw [fw_id g0]
  obtain ⟨e8, hy, h⟩ := fbd h
  refine s_X7_countWays_l8_ok hy (fun x u1 u3 u4 ex => ?_)
  cases ex
  show Wp (d + 0, 106, 46, 0, 0, [some (fA 54), u1, some (fI (l1 * 512)), u3, u4], []) (156, fjl L, e8) Q
  refine Wp.run 2 (f' := (d + 0, 106, 48, 0, 0, [some (fA 54), _, some (fI (l1 * 512)), some (fI 0), _], [])) (h' := (156, fjl L, e8)) rfl trivial ?_
  obtain ⟨e48, hy, h⟩ := fbd h
  refine s_X7_countWays_l48_ok hy (fun x u0 u1 u2 u3 u4 ex => ?_)
  cases ex
  show Wp (d + 0, 106, 117, 0, 0, [u0, u1, u2, u3, u4], []) (156, fjl L, e48) Q
  obtain rfl := Option.some.inj h
  exact Wp.done rfl (by decide) H
theorem s_X7_countWays_fr {M : fM} {l1 : Int} {r : (Unit × fM)} (h : s_X7_countWays M l1 = some r) : fSame s_X7_countWays_mods M r.2 := by
  unfold s_X7_countWays at h
  replace h := (fgd h).2
  obtain ⟨e8, hy, h⟩ := fbd h
  have k8 := fs_trans (l := s_X7_countWays_mods) fs_refl (s_X7_countWays_l8_fr hy)
  obtain ⟨e48, hy, h⟩ := fbd h
  have k48 := fs_trans (l := s_X7_countWays_mods) k8 (s_X7_countWays_l48_fr hy)
  obtain rfl := Option.some.inj h
  exact k48
noncomputable def s_J6_bitCount (M : fM) (l0 : Int) : Option Int :=
  if fin (l0 - (fand (fush l0 1) 1431655765)) ∧ fin ((fand (l0 - (fand (fush l0 1) 1431655765)) 858993459) + (fand (fush (l0 - (fand (fush l0 1) 1431655765)) 2) 858993459)) then
    if fin (((fand (l0 - (fand (fush l0 1) 1431655765)) 858993459) + (fand (fush (l0 - (fand (fush l0 1) 1431655765)) 2) 858993459)) + (fush ((fand (l0 - (fand (fush l0 1) 1431655765)) 858993459) + (fand (fush (l0 - (fand (fush l0 1) 1431655765)) 2) 858993459)) 4)) ∧ fin ((fand (((fand (l0 - (fand (fush l0 1) 1431655765)) 858993459) + (fand (fush (l0 - (fand (fush l0 1) 1431655765)) 2) 858993459)) + (fush ((fand (l0 - (fand (fush l0 1) 1431655765)) 858993459) + (fand (fush (l0 - (fand (fush l0 1) 1431655765)) 2) 858993459)) 4)) 252645135) + (fush (fand (((fand (l0 - (fand (fush l0 1) 1431655765)) 858993459) + (fand (fush (l0 - (fand (fush l0 1) 1431655765)) 2) 858993459)) + (fush ((fand (l0 - (fand (fush l0 1) 1431655765)) 858993459) + (fand (fush (l0 - (fand (fush l0 1) 1431655765)) 2) 858993459)) 4)) 252645135) 8)) then
      if fin (((fand (((fand (l0 - (fand (fush l0 1) 1431655765)) 858993459) + (fand (fush (l0 - (fand (fush l0 1) 1431655765)) 2) 858993459)) + (fush ((fand (l0 - (fand (fush l0 1) 1431655765)) 858993459) + (fand (fush (l0 - (fand (fush l0 1) 1431655765)) 2) 858993459)) 4)) 252645135) + (fush (fand (((fand (l0 - (fand (fush l0 1) 1431655765)) 858993459) + (fand (fush (l0 - (fand (fush l0 1) 1431655765)) 2) 858993459)) + (fush ((fand (l0 - (fand (fush l0 1) 1431655765)) 858993459) + (fand (fush (l0 - (fand (fush l0 1) 1431655765)) 2) 858993459)) 4)) 252645135) 8)) + (fush ((fand (((fand (l0 - (fand (fush l0 1) 1431655765)) 858993459) + (fand (fush (l0 - (fand (fush l0 1) 1431655765)) 2) 858993459)) + (fush ((fand (l0 - (fand (fush l0 1) 1431655765)) 858993459) + (fand (fush (l0 - (fand (fush l0 1) 1431655765)) 2) 858993459)) 4)) 252645135) + (fush (fand (((fand (l0 - (fand (fush l0 1) 1431655765)) 858993459) + (fand (fush (l0 - (fand (fush l0 1) 1431655765)) 2) 858993459)) + (fush ((fand (l0 - (fand (fush l0 1) 1431655765)) 858993459) + (fand (fush (l0 - (fand (fush l0 1) 1431655765)) 2) 858993459)) 4)) 252645135) 8)) 16)) then
        some (fand (((fand (((fand (l0 - (fand (fush l0 1) 1431655765)) 858993459) + (fand (fush (l0 - (fand (fush l0 1) 1431655765)) 2) 858993459)) + (fush ((fand (l0 - (fand (fush l0 1) 1431655765)) 858993459) + (fand (fush (l0 - (fand (fush l0 1) 1431655765)) 2) 858993459)) 4)) 252645135) + (fush (fand (((fand (l0 - (fand (fush l0 1) 1431655765)) 858993459) + (fand (fush (l0 - (fand (fush l0 1) 1431655765)) 2) 858993459)) + (fush ((fand (l0 - (fand (fush l0 1) 1431655765)) 858993459) + (fand (fush (l0 - (fand (fush l0 1) 1431655765)) 2) 858993459)) 4)) 252645135) 8)) + (fush ((fand (((fand (l0 - (fand (fush l0 1) 1431655765)) 858993459) + (fand (fush (l0 - (fand (fush l0 1) 1431655765)) 2) 858993459)) + (fush ((fand (l0 - (fand (fush l0 1) 1431655765)) 858993459) + (fand (fush (l0 - (fand (fush l0 1) 1431655765)) 2) 858993459)) 4)) 252645135) + (fush (fand (((fand (l0 - (fand (fush l0 1) 1431655765)) 858993459) + (fand (fush (l0 - (fand (fush l0 1) 1431655765)) 2) 858993459)) + (fush ((fand (l0 - (fand (fush l0 1) 1431655765)) 858993459) + (fand (fush (l0 - (fand (fush l0 1) 1431655765)) 2) 858993459)) 4)) 252645135) 8)) 16)) 63)
      else none
    else none
  else none
theorem s_J6_bitCount_ok {d L : Nat} {M : fM} {l0 : Int} {r : Int} {Q : fO → fH → Prop} (h : s_J6_bitCount M l0 = some r) (H : Q (oI r) (156, fjl L, M)) : Wp (d + 0, 310, 0, 0, 0, [some (fI l0)], []) (156, fjl L, M) Q := by
  unfold s_J6_bitCount at h
  obtain ⟨⟨g0, g1⟩, h⟩ := fgd h
  refine Wp.run 18 (f' := (d + 0, 310, 24, 0, 0, [some (fI (fw ((fand (fw (l0 - (fand (fush l0 1) 1431655765))) 858993459) + (fand (fush (fw (l0 - (fand (fush l0 1) 1431655765))) 2) 858993459))))], [])) (h' := (156, fjl L, M)) rfl trivial ?_
  rw [fw_id g0, fw_id g1]
  obtain ⟨⟨g0, g1⟩, h⟩ := fgd h
  refine Wp.run 14 (f' := (d + 0, 310, 41, 0, 0, [some (fI (fw ((fand (fw (((fand (l0 - (fand (fush l0 1) 1431655765)) 858993459) + (fand (fush (l0 - (fand (fush l0 1) 1431655765)) 2) 858993459)) + (fush ((fand (l0 - (fand (fush l0 1) 1431655765)) 858993459) + (fand (fush (l0 - (fand (fush l0 1) 1431655765)) 2) 858993459)) 4))) 252645135) + (fush (fand (fw (((fand (l0 - (fand (fush l0 1) 1431655765)) 858993459) + (fand (fush (l0 - (fand (fush l0 1) 1431655765)) 2) 858993459)) + (fush ((fand (l0 - (fand (fush l0 1) 1431655765)) 858993459) + (fand (fush (l0 - (fand (fush l0 1) 1431655765)) 2) 858993459)) 4))) 252645135) 8))))], [])) (h' := (156, fjl L, M)) rfl trivial ?_
  rw [fw_id g0, fw_id g1]
  obtain ⟨g0, h⟩ := fgd h
  refine Wp.run 9 (f' := (d + 0, 310, 52, 0, 0, [_], [fI (fand (fw (((fand (((fand (l0 - (fand (fush l0 1) 1431655765)) 858993459) + (fand (fush (l0 - (fand (fush l0 1) 1431655765)) 2) 858993459)) + (fush ((fand (l0 - (fand (fush l0 1) 1431655765)) 858993459) + (fand (fush (l0 - (fand (fush l0 1) 1431655765)) 2) 858993459)) 4)) 252645135) + (fush (fand (((fand (l0 - (fand (fush l0 1) 1431655765)) 858993459) + (fand (fush (l0 - (fand (fush l0 1) 1431655765)) 2) 858993459)) + (fush ((fand (l0 - (fand (fush l0 1) 1431655765)) 858993459) + (fand (fush (l0 - (fand (fush l0 1) 1431655765)) 2) 858993459)) 4)) 252645135) 8)) + (fush ((fand (((fand (l0 - (fand (fush l0 1) 1431655765)) 858993459) + (fand (fush (l0 - (fand (fush l0 1) 1431655765)) 2) 858993459)) + (fush ((fand (l0 - (fand (fush l0 1) 1431655765)) 858993459) + (fand (fush (l0 - (fand (fush l0 1) 1431655765)) 2) 858993459)) 4)) 252645135) + (fush (fand (((fand (l0 - (fand (fush l0 1) 1431655765)) 858993459) + (fand (fush (l0 - (fand (fush l0 1) 1431655765)) 2) 858993459)) + (fush ((fand (l0 - (fand (fush l0 1) 1431655765)) 858993459) + (fand (fush (l0 - (fand (fush l0 1) 1431655765)) 2) 858993459)) 4)) 252645135) 8)) 16))) 63)])) (h' := (156, fjl L, M)) rfl trivial ?_
  rw [fw_id g0]
  obtain rfl := Option.some.inj h
  exact Wp.done rfl (by decide) H
noncomputable def s_X7_hasAll_b20 (M : fM) (l1 l2 l4 l5 l7 : Int) : Option ((Int × Int) ⊕ Int) :=
  if (M 4 14) ≤ l7 then
    some (.inr l5)
  else
    if ¬ (fand (fshr l1 l7) 1) = 1 then
      if fin (l7 + 1) then
        some (.inl (l5, (l7 + 1)))
      else none
    else
      if fin (l7 * 512) ∧ fin ((l7 * 512) + l4) ∧ (0 ≤ ((l7 * 512) + l4) ∧ ((l7 * 512) + l4) < 3072) ∧ fin (l7 + 1) then
        some (.inl ((fwl (l5 * (M 65 ((l7 * 512) + l4).toNat))), (l7 + 1)))
      else none
theorem s_X7_hasAll_b20_ok {d L : Nat} {M : fM} {l1 l2 l4 l5 l7 : Int} {r : ((Int × Int) ⊕ Int)} {Q : fO → fH → Prop} (h : s_X7_hasAll_b20 M l1 l2 l4 l5 l7 = some r) (hC : ∀ (l5' l7' : Int), r = .inl (l5', l7') → Wp (d + 1, 107, 20, 0, 0, [some (fA 54), some (fI l1), some (fJ l2), none, some (fI l4), some (fJ l5'), none, some (fI l7')], []) (156, fjl L, M) Q) (hE : ∀ (e : Int) (o7' : Option fV), r = .inr e → Wp (d + 1, 107, 67, 0, 0, [some (fA 54), some (fI l1), some (fJ l2), none, some (fI l4), some (fJ e), none, o7'], []) (156, fjl L, M) Q) : Wp (d + 1, 107, 20, 0, 0, [some (fA 54), some (fI l1), some (fJ l2), none, some (fI l4), some (fJ l5), none, some (fI l7)], []) (156, fjl L, M) Q := by
  unfold s_X7_hasAll_b20 at h
  refine Wp.run 4 (f' := (d + 1, 107, 29, 0, 0, [some (fA 54), some (fI l1), some (fJ l2), none, some (fI l4), some (fJ l5), none, some (fI l7)], [fI (M 4 14), fI l7])) (h' := (156, fjl L, M)) rfl trivial ?_
  refine Wp.br rfl (fun (c : (M 4 14) ≤ l7) => ?_) (fun (c : ¬ ((M 4 14) ≤ l7)) => ?_)
  · replace h := fps c h
    exact hE _ _ (Option.some.inj h).symm
  · replace h := fng c h
    refine Wp.run 6 (f' := (d + 1, 107, 39, 0, 0, [some (fA 54), some (fI l1), some (fJ l2), none, some (fI l4), some (fJ l5), none, some (fI l7)], [fI 1, fI (fand (fshr l1 l7) 1)])) (h' := (156, fjl L, M)) rfl trivial ?_
    refine Wp.br rfl (fun (c : ¬ (fand (fshr l1 l7) 1) = 1) => ?_) (fun (c : ¬ (¬ (fand (fshr l1 l7) 1) = 1)) => ?_)
    · replace h := fps c h
      obtain ⟨g0, h⟩ := fgd h
      refine Wp.run 2 (f' := (d + 1, 107, 20, 0, 0, [some (fA 54), some (fI l1), some (fJ l2), none, some (fI l4), some (fJ l5), none, some (fI (fw (l7 + 1)))], [])) (h' := (156, fjl L, M)) rfl trivial ?_
      rw [fw_id g0]
      exact hC _ _ (Option.some.inj h).symm
    · replace h := fng c h
      obtain ⟨⟨g0, g1, g2, g3⟩, h⟩ := fgd h
      refine Wp.run 12 (P := [0 ≤ (fw ((fw (l7 * 512)) + l4)) ∧ (fw ((fw (l7 * 512)) + l4)) < 3072]) (f' := (d + 1, 107, 64, 0, 0, [some (fA 54), some (fI l1), some (fJ l2), none, some (fI l4), some (fJ (fwl (l5 * (M 65 (fw ((fw (l7 * 512)) + l4)).toNat)))), none, some (fI (fw (l7 + 1)))], [])) (h' := (156, fjl L, M)) rfl ?_ ?_
      · rw [fw_id g0, fw_id g1]; exact g2
      rw [fw_id g0, fw_id g1, fw_id g3]
      refine Wp.run 1 (f' := (d + 1, 107, 20, 0, 0, [some (fA 54), some (fI l1), some (fJ l2), none, some (fI l4), some (fJ (fwl (l5 * (M 65 ((l7 * 512) + l4).toNat)))), none, some (fI (l7 + 1))], [])) (h' := (156, fjl L, M)) rfl trivial ?_
      exact hC _ _ (Option.some.inj h).symm
noncomputable def s_X7_hasAll_l20 (M : fM) (l1 l2 l4 : Int) (s : (Int × Int)) : Option Int := fLp (fun s => s_X7_hasAll_b20 M l1 l2 l4 s.1 s.2) s
theorem s_X7_hasAll_l20_ok {d L : Nat} {M : fM} {l1 l2 l4 l5 l7 : Int} {r : Int} {Q : fO → fH → Prop} (h : s_X7_hasAll_l20 M l1 l2 l4 (l5, l7) = some r) (hE : ∀ (e : Int) (o7' : Option fV), r = e → Wp (d + 1, 107, 67, 0, 0, [some (fA 54), some (fI l1), some (fJ l2), none, some (fI l4), some (fJ e), none, o7'], []) (156, fjl L, M) Q) : Wp (d + 1, 107, 20, 0, 0, [some (fA 54), some (fI l1), some (fJ l2), none, some (fI l4), some (fJ l5), none, some (fI l7)], []) (156, fjl L, M) Q := by
  refine fLp_wp (W := fun s => Wp (d + 1, 107, 20, 0, 0, [some (fA 54), some (fI l1), some (fJ l2), none, some (fI l4), some (fJ s.1), none, some (fI s.2)], []) (156, fjl L, M) Q) (e := r) ?_ h
  intro s r1 h hC hX
  refine s_X7_hasAll_b20_ok (d := d) h (fun a0 a1 e1 => ?_) (fun e u0 e1 => hE e u0 (hX _ e1).symm)
  exact hC _ e1
noncomputable def s_X7_hasAll_j87 (M : fM) (l1 l2 l4 l5 t0 : Int) : Option ((Int × Int) ⊕ Int) :=
  if t0 = 0 then
    if fin (l4 + 1) then
      some (.inl ((fwl (l2 + (fwl (-l5)))), (l4 + 1)))
    else none
  else
    if fin (l4 + 1) then
      some (.inl ((fwl (l2 + l5)), (l4 + 1)))
    else none
theorem s_X7_hasAll_j87_ok {d L : Nat} {M : fM} {l1 l2 l4 l5 t0 : Int} {o7 : Option fV} {r : ((Int × Int) ⊕ Int)} {Q : fO → fH → Prop} (h : s_X7_hasAll_j87 M l1 l2 l4 l5 t0 = some r) (hC : ∀ (l2' l4' : Int) (o5' o6' o7' : Option fV), r = .inl (l2', l4') → Wp (d + 1, 107, 5, 0, 0, [some (fA 54), some (fI l1), some (fJ l2'), none, some (fI l4'), o5', o6', o7'], []) (156, fjl L, M) Q) (hE : ∀ (e : Int) (o0' o1' o4' o5' o6' o7' : Option fV), r = .inr e → Wp (d + 1, 107, 111, 0, 0, [o0', o1', some (fJ e), none, o4', o5', o6', o7'], []) (156, fjl L, M) Q) : Wp (d + 1, 107, 87, 0, 0, [some (fA 54), some (fI l1), some (fJ l2), none, some (fI l4), some (fJ l5), none, o7], [fI t0]) (156, fjl L, M) Q := by
  unfold s_X7_hasAll_j87 at h
  refine Wp.run 3 (f' := (d + 1, 107, 92, 0, 0, [some (fA 54), some (fI l1), _, _, some (fI l4), some (fJ l5), none, _], [fI t0, fJ l2])) (h' := (156, fjl L, M)) rfl trivial ?_
  refine Wp.br rfl (fun (c : t0 = 0) => ?_) (fun (c : ¬ (t0 = 0)) => ?_)
  · replace h := fps c h
    obtain ⟨g0, h⟩ := fgd h
    refine Wp.run 6 (f' := (d + 1, 107, 5, 0, 0, [some (fA 54), some (fI l1), some (fJ (fwl (l2 + (fwl (-l5))))), none, some (fI (fw (l4 + 1))), _, _, _], [])) (h' := (156, fjl L, M)) rfl trivial ?_
    rw [fw_id g0]
    exact hC _ _ _ _ _ (Option.some.inj h).symm
  · replace h := fng c h
    obtain ⟨g0, h⟩ := fgd h
    refine Wp.run 6 (f' := (d + 1, 107, 5, 0, 0, [some (fA 54), some (fI l1), some (fJ (fwl (l2 + l5))), none, some (fI (fw (l4 + 1))), _, _, _], [])) (h' := (156, fjl L, M)) rfl trivial ?_
    rw [fw_id g0]
    exact hC _ _ _ _ _ (Option.some.inj h).symm
noncomputable def s_X7_hasAll_b5 (M : fM) (l1 l2 l4 : Int) : Option ((Int × Int) ⊕ Int) :=
  if (M 54 18) ≤ l4 then
    some (.inr l2)
  else
    (s_X7_hasAll_l20 M l1 l2 l4 (1, 0)).bind fun e20 =>
      (s_J6_bitCount M l4).bind fun y73 =>
        if fin ((M 54 17) - y73) then
          if ¬ (frem ((M 54 17) - y73) 2) = 0 then
            s_X7_hasAll_j87 M l1 l2 l4 e20 0
          else
            s_X7_hasAll_j87 M l1 l2 l4 e20 1
        else none
theorem s_X7_hasAll_b5_ok {d L : Nat} {M : fM} {l1 l2 l4 : Int} {o5 o6 o7 : Option fV} {r : ((Int × Int) ⊕ Int)} {Q : fO → fH → Prop} (h : s_X7_hasAll_b5 M l1 l2 l4 = some r) (hC : ∀ (l2' l4' : Int) (o5' o6' o7' : Option fV), r = .inl (l2', l4') → Wp (d + 1, 107, 5, 0, 0, [some (fA 54), some (fI l1), some (fJ l2'), none, some (fI l4'), o5', o6', o7'], []) (156, fjl L, M) Q) (hE : ∀ (e : Int) (o0' o1' o4' o5' o6' o7' : Option fV), r = .inr e → Wp (d + 1, 107, 111, 0, 0, [o0', o1', some (fJ e), none, o4', o5', o6', o7'], []) (156, fjl L, M) Q) : Wp (d + 1, 107, 5, 0, 0, [some (fA 54), some (fI l1), some (fJ l2), none, some (fI l4), o5, o6, o7], []) (156, fjl L, M) Q := by
  unfold s_X7_hasAll_b5 at h
  refine Wp.run 3 (f' := (d + 1, 107, 11, 0, 0, [some (fA 54), some (fI l1), some (fJ l2), none, some (fI l4), _, _, _], [fI (M 54 18), fI l4])) (h' := (156, fjl L, M)) rfl trivial ?_
  refine Wp.br rfl (fun (c : (M 54 18) ≤ l4) => ?_) (fun (c : ¬ ((M 54 18) ≤ l4)) => ?_)
  · replace h := fps c h
    exact hE _ _ _ _ _ _ _ (Option.some.inj h).symm
  · replace h := fng c h
    refine Wp.run 4 (f' := (d + 1, 107, 20, 0, 0, [some (fA 54), some (fI l1), some (fJ l2), none, some (fI l4), some (fJ 1), none, some (fI 0)], [])) (h' := (156, fjl L, M)) rfl trivial ?_
    obtain ⟨e20, hy, h⟩ := fbd h
    refine s_X7_hasAll_l20_ok hy (fun x u7 ex => ?_)
    cases ex
    show Wp (d + 1, 107, 67, 0, 0, [some (fA 54), some (fI l1), some (fJ l2), none, some (fI l4), some (fJ e20), none, u7], []) (156, fjl L, M) Q
    refine Wp.run 3 (f' := (d + 1, 107, 73, 0, 0, [some (fA 54), some (fI l1), some (fJ l2), none, some (fI l4), some (fJ e20), none, _], [fI l4, fI (M 54 17)])) (h' := (156, fjl L, M)) rfl trivial ?_
    obtain ⟨y73, hy, h⟩ := fbd h
    refine Wp.call rfl (by decide) (s_J6_bitCount_ok (d := d + 0) hy ?_)
    show Wp (d + 1, 107, 76, 0, 0, [some (fA 54), some (fI l1), some (fJ l2), none, some (fI l4), some (fJ e20), none, _], [fI y73, fI (M 54 17)]) (156, fjl L, M) Q
    obtain ⟨g0, h⟩ := fgd h
    refine Wp.run 3 (P := [(2 : Int) ≠ 0]) (f' := (d + 1, 107, 79, 0, 0, [some (fA 54), some (fI l1), some (fJ l2), none, some (fI l4), some (fJ e20), none, _], [fI (frem (fw ((M 54 17) - y73)) 2)])) (h' := (156, fjl L, M)) rfl ?_ ?_
    · exact (by decide : (2 : Int) ≠ 0)
    rw [fw_id g0]
    refine Wp.br rfl (fun (c : ¬ (frem ((M 54 17) - y73) 2) = 0) => ?_) (fun (c : ¬ (¬ (frem ((M 54 17) - y73) 2) = 0)) => ?_)
    · replace h := fps c h
      refine Wp.run 1 (f' := (d + 1, 107, 87, 0, 0, [some (fA 54), some (fI l1), some (fJ l2), none, some (fI l4), some (fJ e20), none, _], [fI 0])) (h' := (156, fjl L, M)) rfl trivial ?_
      exact s_X7_hasAll_j87_ok h hC hE
    · replace h := fng c h
      refine Wp.run 2 (f' := (d + 1, 107, 87, 0, 0, [some (fA 54), some (fI l1), some (fJ l2), none, some (fI l4), some (fJ e20), none, _], [fI 1])) (h' := (156, fjl L, M)) rfl trivial ?_
      exact s_X7_hasAll_j87_ok h hC hE
noncomputable def s_X7_hasAll_l5 (M : fM) (l1 : Int) (s : (Int × Int)) : Option Int := fLp (fun s => s_X7_hasAll_b5 M l1 s.1 s.2) s
theorem s_X7_hasAll_l5_ok {d L : Nat} {M : fM} {l1 l2 l4 : Int} {o5 o6 o7 : Option fV} {r : Int} {Q : fO → fH → Prop} (h : s_X7_hasAll_l5 M l1 (l2, l4) = some r) (hE : ∀ (e : Int) (o0' o1' o4' o5' o6' o7' : Option fV), r = e → Wp (d + 1, 107, 111, 0, 0, [o0', o1', some (fJ e), none, o4', o5', o6', o7'], []) (156, fjl L, M) Q) : Wp (d + 1, 107, 5, 0, 0, [some (fA 54), some (fI l1), some (fJ l2), none, some (fI l4), o5, o6, o7], []) (156, fjl L, M) Q := by
  refine fLp_wp (W := fun s => ∀ (o5 o6 o7 : Option fV), Wp (d + 1, 107, 5, 0, 0, [some (fA 54), some (fI l1), some (fJ s.1), none, some (fI s.2), o5, o6, o7], []) (156, fjl L, M) Q) (e := r) ?_ h _ _ _
  intro s r1 h hC hX o5 o6 o7
  refine s_X7_hasAll_b5_ok (d := d) h (fun a0 a1 _ _ _ e1 => ?_) (fun e u0 u1 u2 u3 u4 u5 e1 => hE e u0 u1 u2 u3 u4 u5 (hX _ e1).symm)
  exact hC _ e1 _ _ _
noncomputable def s_X7_hasAll (M : fM) (l1 : Int) : Option Int :=
  (s_X7_hasAll_l5 M l1 (0, 0)).bind fun e5 =>
    if e5 = 0 then
      some 0
    else
      some 1
theorem s_X7_hasAll_ok {d L : Nat} {M : fM} {l1 : Int} {r : Int} {Q : fO → fH → Prop} (h : s_X7_hasAll M l1 = some r) (H : Q (oI r) (156, fjl L, M)) : Wp (d + 1, 107, 0, 0, 0, [some (fA 54), some (fI l1), none, none, none, none, none, none], []) (156, fjl L, M) Q := by
  unfold s_X7_hasAll at h
  refine Wp.run 4 (f' := (d + 1, 107, 5, 0, 0, [some (fA 54), some (fI l1), some (fJ 0), none, some (fI 0), _, _, _], [])) (h' := (156, fjl L, M)) rfl trivial ?_
  obtain ⟨e5, hy, h⟩ := fbd h
  refine s_X7_hasAll_l5_ok hy (fun x u0 u1 u4 u5 u6 u7 ex => ?_)
  cases ex
  show Wp (d + 1, 107, 111, 0, 0, [u0, u1, some (fJ e5), none, u4, u5, u6, u7], []) (156, fjl L, M) Q
  refine Wp.run 3 (f' := (d + 1, 107, 114, 0, 0, [_, _, _, _, _, _, _, _], [fI (fcm e5 0)])) (h' := (156, fjl L, M)) rfl trivial ?_
  refine Wp.br rfl (fun (c : (fcm e5 0) = 0) => ?_) (fun (c : ¬ ((fcm e5 0) = 0)) => ?_)
  · replace c := (fcm_eq _ _).mp c
    replace h := fps c h
    refine Wp.run 1 (f' := (d + 1, 107, 122, 0, 0, [_, _, _, _, _, _, _, _], [fI 0])) (h' := (156, fjl L, M)) rfl trivial ?_
    obtain rfl := Option.some.inj h
    exact Wp.done rfl (by decide) H
  · replace c := fun z => c ((fcm_eq _ _).mpr z)
    replace h := fng c h
    refine Wp.run 2 (f' := (d + 1, 107, 122, 0, 0, [_, _, _, _, _, _, _, _], [fI 1])) (h' := (156, fjl L, M)) rfl trivial ?_
    obtain rfl := Option.some.inj h
    exact Wp.done rfl (by decide) H
abbrev s_X7_fewestTuners_mods : List (Nat × Option Nat) := [(54, some 17), (54, some 18), (56, none), (57, none), (58, none), (59, none), (62, none), (63, none), (65, none)]
noncomputable def s_X7_fewestTuners_b8 (M : fM) (l3 : Int) : Option ((Int × fM) ⊕ fM) :=
  if (M 4 14) ≤ l3 then
    some (.inr M)
  else
    (s_X7_fillHomes M l3).bind fun y21 =>
      (s_X7_countWays y21.2 l3).bind fun y26 =>
        if fin (l3 + 1) then
          some (.inl ((l3 + 1), y26.2))
        else none
theorem s_X7_fewestTuners_b8_ok {d L : Nat} {M : fM} {l3 : Int} {o1 o2 o4 o5 : Option fV} {r : ((Int × fM) ⊕ fM)} {Q : fO → fH → Prop} (h : s_X7_fewestTuners_b8 M l3 = some r) (hC : ∀ (l3' : Int) (M' : fM) (o1' o2' o4' o5' : Option fV), r = .inl (l3', M') → Wp (d + 4, 105, 8, 0, 0, [some (fA 54), o1', o2', some (fI l3'), o4', o5'], []) (156, fjl L, M') Q) (hE : ∀ (e : fM) (o1' o2' o3' o4' o5' : Option fV), r = .inr e → Wp (d + 4, 105, 35, 0, 0, [some (fA 54), o1', o2', o3', o4', o5'], []) (156, fjl L, e) Q) : Wp (d + 4, 105, 8, 0, 0, [some (fA 54), o1, o2, some (fI l3), o4, o5], []) (156, fjl L, M) Q := by
  unfold s_X7_fewestTuners_b8 at h
  refine Wp.run 4 (f' := (d + 4, 105, 16, 0, 0, [some (fA 54), _, _, some (fI l3), _, _], [fI (M 4 14), fI l3])) (h' := (156, fjl L, M)) rfl trivial ?_
  refine Wp.br rfl (fun (c : (M 4 14) ≤ l3) => ?_) (fun (c : ¬ ((M 4 14) ≤ l3)) => ?_)
  · replace h := fps c h
    exact hE _ _ _ _ _ _ (Option.some.inj h).symm
  · replace h := fng c h
    refine Wp.run 2 (f' := (d + 4, 105, 21, 0, 0, [some (fA 54), _, _, some (fI l3), _, _], [fI l3, fA 54])) (h' := (156, fjl L, M)) rfl trivial ?_
    obtain ⟨y21, hy, h⟩ := fbd h
    refine Wp.call rfl (by decide) (s_X7_fillHomes_ok (d := d + 0) hy ?_)
    show Wp (d + 4, 105, 24, 0, 0, [some (fA 54), _, _, some (fI l3), _, _], []) (156, fjl L, y21.2) Q
    refine Wp.run 2 (f' := (d + 4, 105, 26, 0, 0, [some (fA 54), _, _, some (fI l3), _, _], [fI l3, fA 54])) (h' := (156, fjl L, y21.2)) rfl trivial ?_
    obtain ⟨y26, hy, h⟩ := fbd h
    refine Wp.call rfl (by decide) (s_X7_countWays_ok (d := d + 3) hy ?_)
    show Wp (d + 4, 105, 29, 0, 0, [some (fA 54), _, _, some (fI l3), _, _], []) (156, fjl L, y26.2) Q
    obtain ⟨g0, h⟩ := fgd h
    refine Wp.run 2 (f' := (d + 4, 105, 8, 0, 0, [some (fA 54), _, _, some (fI (fw (l3 + 1))), _, _], [])) (h' := (156, fjl L, y26.2)) rfl trivial ?_
    rw [fw_id g0]
    exact hC _ _ _ _ _ _ (Option.some.inj h).symm
theorem s_X7_fewestTuners_b8_fr {M : fM} {l3 : Int} {r : ((Int × fM) ⊕ fM)} (h : s_X7_fewestTuners_b8 M l3 = some r) : fSame s_X7_fewestTuners_mods M (Sum.elim (fun s => s.2) (fun e => e) r) := by
  unfold s_X7_fewestTuners_b8 at h
  by_cases c : (M 4 14) ≤ l3
  · replace h := fps c h
    obtain rfl := Option.some.inj h
    exact fs_refl
  · replace h := fng c h
    obtain ⟨y21, hy, h⟩ := fbd h
    have k21 := fs_trans (l := s_X7_fewestTuners_mods) fs_refl (fs_mono (l := s_X7_fillHomes_mods) (by decide) (s_X7_fillHomes_fr hy))
    obtain ⟨y26, hy, h⟩ := fbd h
    have k26 := fs_trans (l := s_X7_fewestTuners_mods) k21 (fs_mono (l := s_X7_countWays_mods) (by decide) (s_X7_countWays_fr hy))
    replace h := (fgd h).2
    obtain rfl := Option.some.inj h
    exact k26
noncomputable def s_X7_fewestTuners_l8 (s : (Int × fM)) : Option fM := fLp (fun s => s_X7_fewestTuners_b8 s.2 s.1) s
theorem s_X7_fewestTuners_l8_ok {d L : Nat} {M : fM} {l3 : Int} {o1 o2 o4 o5 : Option fV} {r : fM} {Q : fO → fH → Prop} (h : s_X7_fewestTuners_l8 (l3, M) = some r) (hE : ∀ (e : fM) (o1' o2' o3' o4' o5' : Option fV), r = e → Wp (d + 4, 105, 35, 0, 0, [some (fA 54), o1', o2', o3', o4', o5'], []) (156, fjl L, e) Q) : Wp (d + 4, 105, 8, 0, 0, [some (fA 54), o1, o2, some (fI l3), o4, o5], []) (156, fjl L, M) Q := by
  refine fLp_wp (W := fun s => ∀ (o1 o2 o4 o5 : Option fV), Wp (d + 4, 105, 8, 0, 0, [some (fA 54), o1, o2, some (fI s.1), o4, o5], []) (156, fjl L, s.2) Q) (e := r) ?_ h _ _ _ _
  intro s r1 h hC hX o1 o2 o4 o5
  refine s_X7_fewestTuners_b8_ok (d := d) h (fun a0 a1 _ _ _ _ e1 => ?_) (fun e u0 u1 u2 u3 u4 e1 => hE e u0 u1 u2 u3 u4 (hX _ e1).symm)
  exact hC _ e1 _ _ _ _
theorem s_X7_fewestTuners_l8_fr {M : fM} {l3 : Int} {r : fM} (h : s_X7_fewestTuners_l8 (l3, M) = some r) : fSame s_X7_fewestTuners_mods M ((fun e => e) r) := by
  refine fLp_inv (I := fun s => fSame s_X7_fewestTuners_mods M s.2) (J := fun r => fSame s_X7_fewestTuners_mods M ((fun e => e) r)) h fs_refl (fun s s1 hs hb => ?_) (fun s e hs hb => ?_)
  · exact fs_trans hs (s_X7_fewestTuners_b8_fr hb)
  · exact fs_trans hs (s_X7_fewestTuners_b8_fr hb)
noncomputable def s_X7_fewestTuners_j75 (M : fM) (l3 l4 t0 : Int) : Option ((Int × Int) ⊕ Int) :=
  if t0 = 0 then
    if fin (l4 + 1) then
      some (.inl (l3, (l4 + 1)))
    else none
  else
    (s_X7_hasAll M l4).bind fun y85 =>
      if y85 = 0 then
        if fin (l4 + 1) then
          some (.inl (l3, (l4 + 1)))
        else none
      else
        if fin (l4 + 1) then
          some (.inl (l4, (l4 + 1)))
        else none
theorem s_X7_fewestTuners_j75_ok {d L : Nat} {M : fM} {l3 l4 t0 : Int} {o1 o2 o5 : Option fV} {r : ((Int × Int) ⊕ Int)} {Q : fO → fH → Prop} (h : s_X7_fewestTuners_j75 M l3 l4 t0 = some r) (hC : ∀ (l3' l4' : Int) (o1' o2' o5' : Option fV), r = .inl (l3', l4') → Wp (d + 4, 105, 40, 0, 0, [some (fA 54), o1', o2', some (fI l3'), some (fI l4'), o5'], []) (156, fjl L, M) Q) (hE : ∀ (e : Int) (o0' o1' o2' o4' o5' : Option fV), r = .inr e → Wp (d + 4, 105, 100, 0, 0, [o0', o1', o2', some (fI e), o4', o5'], []) (156, fjl L, M) Q) : Wp (d + 4, 105, 75, 0, 0, [some (fA 54), o1, o2, some (fI l3), some (fI l4), o5], [fI t0]) (156, fjl L, M) Q := by
  unfold s_X7_fewestTuners_j75 at h
  refine Wp.run 2 (f' := (d + 4, 105, 79, 0, 0, [some (fA 54), _, _, some (fI l3), some (fI l4), _], [fI t0])) (h' := (156, fjl L, M)) rfl trivial ?_
  refine Wp.br rfl (fun (c : t0 = 0) => ?_) (fun (c : ¬ (t0 = 0)) => ?_)
  · replace h := fps c h
    obtain ⟨g0, h⟩ := fgd h
    refine Wp.run 2 (f' := (d + 4, 105, 40, 0, 0, [some (fA 54), _, _, some (fI l3), some (fI (fw (l4 + 1))), _], [])) (h' := (156, fjl L, M)) rfl trivial ?_
    rw [fw_id g0]
    exact hC _ _ _ _ _ (Option.some.inj h).symm
  · replace h := fng c h
    refine Wp.run 2 (f' := (d + 4, 105, 85, 0, 0, [some (fA 54), _, _, some (fI l3), some (fI l4), _], [fI l4, fA 54])) (h' := (156, fjl L, M)) rfl trivial ?_
    obtain ⟨y85, hy, h⟩ := fbd h
    refine Wp.call rfl (by decide) (s_X7_hasAll_ok (d := d + 2) hy ?_)
    show Wp (d + 4, 105, 88, 0, 0, [some (fA 54), _, _, some (fI l3), some (fI l4), _], [fI y85]) (156, fjl L, M) Q
    refine Wp.br rfl (fun (c : y85 = 0) => ?_) (fun (c : ¬ (y85 = 0)) => ?_)
    · replace h := fps c h
      obtain ⟨g0, h⟩ := fgd h
      refine Wp.run 2 (f' := (d + 4, 105, 40, 0, 0, [some (fA 54), _, _, some (fI l3), some (fI (fw (l4 + 1))), _], [])) (h' := (156, fjl L, M)) rfl trivial ?_
      rw [fw_id g0]
      exact hC _ _ _ _ _ (Option.some.inj h).symm
    · replace h := fng c h
      obtain ⟨g0, h⟩ := fgd h
      refine Wp.run 4 (f' := (d + 4, 105, 40, 0, 0, [some (fA 54), _, _, some (fI l4), some (fI (fw (l4 + 1))), _], [])) (h' := (156, fjl L, M)) rfl trivial ?_
      rw [fw_id g0]
      exact hC _ _ _ _ _ (Option.some.inj h).symm
theorem s_X7_fewestTuners_j75_fr {M : fM} {l3 l4 t0 : Int} {r : ((Int × Int) ⊕ Int)} (h : s_X7_fewestTuners_j75 M l3 l4 t0 = some r) : fSame s_X7_fewestTuners_mods M (Sum.elim (fun _ => M) (fun _ => M) r) := by
  unfold s_X7_fewestTuners_j75 at h
  by_cases c : t0 = 0
  · replace h := fps c h
    replace h := (fgd h).2
    obtain rfl := Option.some.inj h
    exact fs_refl
  · replace h := fng c h
    obtain ⟨y85, hy, h⟩ := fbd h
    by_cases c : y85 = 0
    · replace h := fps c h
      replace h := (fgd h).2
      obtain rfl := Option.some.inj h
      exact fs_refl
    · replace h := fng c h
      replace h := (fgd h).2
      obtain rfl := Option.some.inj h
      exact fs_refl
noncomputable def s_X7_fewestTuners_j70 (M : fM) (l3 l4 : Int) : Option ((Int × Int) ⊕ Int) :=
  s_X7_fewestTuners_j75 M l3 l4 1
theorem s_X7_fewestTuners_j70_ok {d L : Nat} {M : fM} {l3 l4 : Int} {o1 o2 o5 : Option fV} {r : ((Int × Int) ⊕ Int)} {Q : fO → fH → Prop} (h : s_X7_fewestTuners_j70 M l3 l4 = some r) (hC : ∀ (l3' l4' : Int) (o1' o2' o5' : Option fV), r = .inl (l3', l4') → Wp (d + 4, 105, 40, 0, 0, [some (fA 54), o1', o2', some (fI l3'), some (fI l4'), o5'], []) (156, fjl L, M) Q) (hE : ∀ (e : Int) (o0' o1' o2' o4' o5' : Option fV), r = .inr e → Wp (d + 4, 105, 100, 0, 0, [o0', o1', o2', some (fI e), o4', o5'], []) (156, fjl L, M) Q) : Wp (d + 4, 105, 70, 0, 0, [some (fA 54), o1, o2, some (fI l3), some (fI l4), o5], []) (156, fjl L, M) Q := by
  unfold s_X7_fewestTuners_j70 at h
  refine Wp.run 2 (f' := (d + 4, 105, 75, 0, 0, [some (fA 54), _, _, some (fI l3), some (fI l4), _], [fI 1])) (h' := (156, fjl L, M)) rfl trivial ?_
  exact s_X7_fewestTuners_j75_ok h hC hE
theorem s_X7_fewestTuners_j70_fr {M : fM} {l3 l4 : Int} {r : ((Int × Int) ⊕ Int)} (h : s_X7_fewestTuners_j70 M l3 l4 = some r) : fSame s_X7_fewestTuners_mods M (Sum.elim (fun _ => M) (fun _ => M) r) := by
  unfold s_X7_fewestTuners_j70 at h
  exact fs_trans fs_refl (s_X7_fewestTuners_j75_fr h)
noncomputable def s_X7_fewestTuners_b40 (M : fM) (l3 l4 : Int) : Option ((Int × Int) ⊕ Int) :=
  if (fshl 1 (M 4 14)) ≤ l4 then
    some (.inr l3)
  else
    if l3 < 0 then
      s_X7_fewestTuners_j70 M l3 l4
    else
      (s_J6_bitCount M l4).bind fun y60 =>
        (s_J6_bitCount M l3).bind fun y64 =>
          if y64 ≤ y60 then
            s_X7_fewestTuners_j75 M l3 l4 0
          else
            s_X7_fewestTuners_j70 M l3 l4
theorem s_X7_fewestTuners_b40_ok {d L : Nat} {M : fM} {l3 l4 : Int} {o1 o2 o5 : Option fV} {r : ((Int × Int) ⊕ Int)} {Q : fO → fH → Prop} (h : s_X7_fewestTuners_b40 M l3 l4 = some r) (hC : ∀ (l3' l4' : Int) (o1' o2' o5' : Option fV), r = .inl (l3', l4') → Wp (d + 4, 105, 40, 0, 0, [some (fA 54), o1', o2', some (fI l3'), some (fI l4'), o5'], []) (156, fjl L, M) Q) (hE : ∀ (e : Int) (o0' o1' o2' o4' o5' : Option fV), r = .inr e → Wp (d + 4, 105, 100, 0, 0, [o0', o1', o2', some (fI e), o4', o5'], []) (156, fjl L, M) Q) : Wp (d + 4, 105, 40, 0, 0, [some (fA 54), o1, o2, some (fI l3), some (fI l4), o5], []) (156, fjl L, M) Q := by
  unfold s_X7_fewestTuners_b40 at h
  refine Wp.run 6 (f' := (d + 4, 105, 51, 0, 0, [some (fA 54), _, _, some (fI l3), some (fI l4), _], [fI (fshl 1 (M 4 14)), fI l4])) (h' := (156, fjl L, M)) rfl trivial ?_
  refine Wp.br rfl (fun (c : (fshl 1 (M 4 14)) ≤ l4) => ?_) (fun (c : ¬ ((fshl 1 (M 4 14)) ≤ l4)) => ?_)
  · replace h := fps c h
    exact hE _ _ _ _ _ _ (Option.some.inj h).symm
  · replace h := fng c h
    refine Wp.run 1 (f' := (d + 4, 105, 55, 0, 0, [some (fA 54), _, _, some (fI l3), some (fI l4), _], [fI l3])) (h' := (156, fjl L, M)) rfl trivial ?_
    refine Wp.br rfl (fun (c : l3 < 0) => ?_) (fun (c : ¬ (l3 < 0)) => ?_)
    · replace h := fps c h
      exact s_X7_fewestTuners_j70_ok h hC hE
    · replace h := fng c h
      refine Wp.run 1 (f' := (d + 4, 105, 60, 0, 0, [some (fA 54), _, _, some (fI l3), some (fI l4), _], [fI l4])) (h' := (156, fjl L, M)) rfl trivial ?_
      obtain ⟨y60, hy, h⟩ := fbd h
      refine Wp.call rfl (by decide) (s_J6_bitCount_ok (d := d + 3) hy ?_)
      show Wp (d + 4, 105, 63, 0, 0, [some (fA 54), _, _, some (fI l3), some (fI l4), _], [fI y60]) (156, fjl L, M) Q
      refine Wp.run 1 (f' := (d + 4, 105, 64, 0, 0, [some (fA 54), _, _, some (fI l3), some (fI l4), _], [fI l3, fI y60])) (h' := (156, fjl L, M)) rfl trivial ?_
      obtain ⟨y64, hy, h⟩ := fbd h
      refine Wp.call rfl (by decide) (s_J6_bitCount_ok (d := d + 3) hy ?_)
      show Wp (d + 4, 105, 67, 0, 0, [some (fA 54), _, _, some (fI l3), some (fI l4), _], [fI y64, fI y60]) (156, fjl L, M) Q
      refine Wp.br rfl (fun (c : y64 ≤ y60) => ?_) (fun (c : ¬ (y64 ≤ y60)) => ?_)
      · replace h := fps c h
        refine Wp.run 1 (f' := (d + 4, 105, 75, 0, 0, [some (fA 54), _, _, some (fI l3), some (fI l4), _], [fI 0])) (h' := (156, fjl L, M)) rfl trivial ?_
        exact s_X7_fewestTuners_j75_ok h hC hE
      · replace h := fng c h
        exact s_X7_fewestTuners_j70_ok h hC hE
theorem s_X7_fewestTuners_b40_fr {M : fM} {l3 l4 : Int} {r : ((Int × Int) ⊕ Int)} (h : s_X7_fewestTuners_b40 M l3 l4 = some r) : fSame s_X7_fewestTuners_mods M (Sum.elim (fun _ => M) (fun _ => M) r) := by
  unfold s_X7_fewestTuners_b40 at h
  by_cases c : (fshl 1 (M 4 14)) ≤ l4
  · replace h := fps c h
    obtain rfl := Option.some.inj h
    exact fs_refl
  · replace h := fng c h
    by_cases c : l3 < 0
    · replace h := fps c h
      exact fs_trans fs_refl (s_X7_fewestTuners_j70_fr h)
    · replace h := fng c h
      obtain ⟨y60, hy, h⟩ := fbd h
      obtain ⟨y64, hy, h⟩ := fbd h
      by_cases c : y64 ≤ y60
      · replace h := fps c h
        exact fs_trans fs_refl (s_X7_fewestTuners_j75_fr h)
      · replace h := fng c h
        exact fs_trans fs_refl (s_X7_fewestTuners_j70_fr h)
noncomputable def s_X7_fewestTuners_l40 (M : fM) (s : (Int × Int)) : Option Int := fLp (fun s => s_X7_fewestTuners_b40 M s.1 s.2) s
theorem s_X7_fewestTuners_l40_ok {d L : Nat} {M : fM} {l3 l4 : Int} {o1 o2 o5 : Option fV} {r : Int} {Q : fO → fH → Prop} (h : s_X7_fewestTuners_l40 M (l3, l4) = some r) (hE : ∀ (e : Int) (o0' o1' o2' o4' o5' : Option fV), r = e → Wp (d + 4, 105, 100, 0, 0, [o0', o1', o2', some (fI e), o4', o5'], []) (156, fjl L, M) Q) : Wp (d + 4, 105, 40, 0, 0, [some (fA 54), o1, o2, some (fI l3), some (fI l4), o5], []) (156, fjl L, M) Q := by
  refine fLp_wp (W := fun s => ∀ (o1 o2 o5 : Option fV), Wp (d + 4, 105, 40, 0, 0, [some (fA 54), o1, o2, some (fI s.1), some (fI s.2), o5], []) (156, fjl L, M) Q) (e := r) ?_ h _ _ _
  intro s r1 h hC hX o1 o2 o5
  refine s_X7_fewestTuners_b40_ok (d := d) h (fun a0 a1 _ _ _ e1 => ?_) (fun e u0 u1 u2 u3 u4 e1 => hE e u0 u1 u2 u3 u4 (hX _ e1).symm)
  exact hC _ e1 _ _ _
noncomputable def s_X7_fewestTuners (M : fM) (l1 l2 : Int) : Option (Int × fM) :=
  (s_X7_place M l1 l2).bind fun y3 =>
    (s_X7_fewestTuners_l8 (0, y3.2)).bind fun e8 =>
      (s_X7_fewestTuners_l40 e8 ((-1), 0)).bind fun e40 =>
        some (e40, e8)
theorem s_X7_fewestTuners_ok {d L : Nat} {M : fM} {l1 l2 : Int} {r : (Int × fM)} {Q : fO → fH → Prop} (h : s_X7_fewestTuners M l1 l2 = some r) (H : Q (oI r.1) (156, fjl L, r.2)) : Wp (d + 4, 105, 0, 0, 0, [some (fA 54), some (fI l1), some (fI l2), none, none, none], []) (156, fjl L, M) Q := by
  unfold s_X7_fewestTuners at h
  refine Wp.run 3 (f' := (d + 4, 105, 3, 0, 0, [some (fA 54), _, _, _, _, _], [fI l2, fI l1, fA 54])) (h' := (156, fjl L, M)) rfl trivial ?_
  obtain ⟨y3, hy, h⟩ := fbd h
  refine Wp.call rfl (by decide) (s_X7_place_ok (d := d + 1) hy ?_)
  show Wp (d + 4, 105, 6, 0, 0, [some (fA 54), _, _, _, _, _], []) (156, fjl L, y3.2) Q
  refine Wp.run 2 (f' := (d + 4, 105, 8, 0, 0, [some (fA 54), _, _, some (fI 0), _, _], [])) (h' := (156, fjl L, y3.2)) rfl trivial ?_
  obtain ⟨e8, hy, h⟩ := fbd h
  refine s_X7_fewestTuners_l8_ok hy (fun x u1 u2 u3 u4 u5 ex => ?_)
  cases ex
  show Wp (d + 4, 105, 35, 0, 0, [some (fA 54), u1, u2, u3, u4, u5], []) (156, fjl L, e8) Q
  refine Wp.run 4 (f' := (d + 4, 105, 40, 0, 0, [some (fA 54), _, _, some (fI (-1)), some (fI 0), _], [])) (h' := (156, fjl L, e8)) rfl trivial ?_
  obtain ⟨e40, hy, h⟩ := fbd h
  refine s_X7_fewestTuners_l40_ok hy (fun x u0 u1 u2 u4 u5 ex => ?_)
  cases ex
  show Wp (d + 4, 105, 100, 0, 0, [u0, u1, u2, some (fI e40), u4, u5], []) (156, fjl L, e8) Q
  refine Wp.run 1 (f' := (d + 4, 105, 101, 0, 0, [_, _, _, _, _, _], [fI e40])) (h' := (156, fjl L, e8)) rfl trivial ?_
  obtain rfl := Option.some.inj h
  exact Wp.done rfl (by decide) H
theorem s_X7_fewestTuners_fr {M : fM} {l1 l2 : Int} {r : (Int × fM)} (h : s_X7_fewestTuners M l1 l2 = some r) : fSame s_X7_fewestTuners_mods M r.2 := by
  unfold s_X7_fewestTuners at h
  obtain ⟨y3, hy, h⟩ := fbd h
  have k3 := fs_trans (l := s_X7_fewestTuners_mods) fs_refl (fs_mono (l := s_X7_place_mods) (by decide) (s_X7_place_fr hy))
  obtain ⟨e8, hy, h⟩ := fbd h
  have k8 := fs_trans (l := s_X7_fewestTuners_mods) k3 (s_X7_fewestTuners_l8_fr hy)
  obtain ⟨e40, hy, h⟩ := fbd h
  obtain rfl := Option.some.inj h
  exact k8
abbrev s_X11_festival_mods : List (Nat × Option Nat) := [(1, some 2), (54, some 17), (54, some 18), (55, none), (56, none), (57, none), (58, none), (59, none), (62, none), (63, none), (65, none)]
noncomputable def s_X11_festival (M : fM) (l1 : Int) : Option (Int × fM) :=
  (s_X10_movePianos_55 M (M 4 13)).bind fun y18 =>
    if y18.1 < 0 then
      some ((-2), y18.2)
    else
      (s_X11_isWithin y18.2 l1 364).bind fun y30 =>
        if ¬ y30 = 0 then
          (s_X7_fewestTuners y18.2 y18.1 l1).bind fun y45 =>
            some (y45.1, y45.2)
        else
          some ((-2), y18.2)
theorem s_X11_festival_ok {d L : Nat} {M : fM} {l1 : Int} {r : (Int × fM)} {Q : fO → fH → Prop} (h : s_X11_festival M l1 = some r) (H : Q (oI r.1) (156, fjl L, r.2)) : Wp (d + 5, 175, 0, 0, 0, [some (fA 0), some (fI l1), none], []) (156, fjl L, M) Q := by
  unfold s_X11_festival at h
  refine Wp.run 8 (f' := (d + 5, 175, 18, 0, 0, [some (fA 0), some (fI l1), _], [fI (M 4 13), fA 55, fA 1])) (h' := (156, fjl L, M)) rfl trivial ?_
  obtain ⟨y18, hy, h⟩ := fbd h
  refine Wp.call rfl (by decide) (s_X10_movePianos_55_ok (d := d + 4) hy ?_)
  show Wp (d + 5, 175, 21, 0, 0, [some (fA 0), some (fI l1), _], [fI y18.1]) (156, fjl L, y18.2) Q
  refine Wp.run 2 (f' := (d + 5, 175, 23, 0, 0, [some (fA 0), some (fI l1), some (fI y18.1)], [fI y18.1])) (h' := (156, fjl L, y18.2)) rfl trivial ?_
  refine Wp.br rfl (fun (c : y18.1 < 0) => ?_) (fun (c : ¬ (y18.1 < 0)) => ?_)
  · replace h := fps c h
    refine Wp.run 1 (f' := (d + 5, 175, 38, 0, 0, [_, _, _], [fI (-2)])) (h' := (156, fjl L, y18.2)) rfl trivial ?_
    obtain rfl := Option.some.inj h
    exact Wp.done rfl (by decide) H
  · replace h := fng c h
    refine Wp.run 2 (f' := (d + 5, 175, 30, 0, 0, [some (fA 0), some (fI l1), some (fI y18.1)], [fI 364, fI l1])) (h' := (156, fjl L, y18.2)) rfl trivial ?_
    obtain ⟨y30, hy, h⟩ := fbd h
    refine Wp.call rfl (by decide) (s_X11_isWithin_ok (d := d + 4) hy ?_)
    show Wp (d + 5, 175, 33, 0, 0, [some (fA 0), some (fI l1), some (fI y18.1)], [fI y30]) (156, fjl L, y18.2) Q
    refine Wp.br rfl (fun (c : ¬ y30 = 0) => ?_) (fun (c : ¬ (¬ y30 = 0)) => ?_)
    · replace h := fps c h
      refine Wp.run 4 (f' := (d + 5, 175, 45, 0, 0, [_, _, _], [fI l1, fI y18.1, fA 54])) (h' := (156, fjl L, y18.2)) rfl trivial ?_
      obtain ⟨y45, hy, h⟩ := fbd h
      refine Wp.call rfl (by decide) (s_X7_fewestTuners_ok (d := d + 0) hy ?_)
      show Wp (d + 5, 175, 48, 0, 0, [_, _, _], [fI y45.1]) (156, fjl L, y45.2) Q
      obtain rfl := Option.some.inj h
      exact Wp.done rfl (by decide) H
    · replace h := fng c h
      refine Wp.run 1 (f' := (d + 5, 175, 38, 0, 0, [_, _, _], [fI (-2)])) (h' := (156, fjl L, y18.2)) rfl trivial ?_
      obtain rfl := Option.some.inj h
      exact Wp.done rfl (by decide) H
theorem s_X11_festival_fr {M : fM} {l1 : Int} {r : (Int × fM)} (h : s_X11_festival M l1 = some r) : fSame s_X11_festival_mods M r.2 := by
  unfold s_X11_festival at h
  obtain ⟨y18, hy, h⟩ := fbd h
  have k18 := fs_trans (l := s_X11_festival_mods) fs_refl (fs_mono (l := s_X10_movePianos_55_mods) (by decide) (s_X10_movePianos_55_fr hy))
  by_cases c : y18.1 < 0
  · replace h := fps c h
    obtain rfl := Option.some.inj h
    exact k18
  · replace h := fng c h
    obtain ⟨y30, hy, h⟩ := fbd h
    by_cases c : ¬ y30 = 0
    · replace h := fps c h
      obtain ⟨y45, hy, h⟩ := fbd h
      have k45 := fs_trans (l := s_X11_festival_mods) k18 (fs_mono (l := s_X7_fewestTuners_mods) (by decide) (s_X7_fewestTuners_fr hy))
      obtain rfl := Option.some.inj h
      exact k45
    · replace h := fng c h
      obtain rfl := Option.some.inj h
      exact k18
noncomputable def s_X12_bits_b4 (M : fM) (l1 l2 : Int) : Option ((Int × Int) ⊕ Int) :=
  if l2 = 0 then
    some (.inr l1)
  else
    if fin (l1 + 1) ∧ fin (l2 - 1) then
      some (.inl ((l1 + 1), (fand l2 (l2 - 1))))
    else none
theorem s_X12_bits_b4_ok {d L : Nat} {M : fM} {l1 l2 : Int} {o0 : Option fV} {r : ((Int × Int) ⊕ Int)} {Q : fO → fH → Prop} (h : s_X12_bits_b4 M l1 l2 = some r) (hC : ∀ (l1' l2' : Int) (o0' : Option fV), r = .inl (l1', l2') → Wp (d + 0, 292, 4, 0, 0, [o0', some (fI l1'), some (fI l2')], []) (156, fjl L, M) Q) (hE : ∀ (e : Int) (o0' o2' : Option fV), r = .inr e → Wp (d + 0, 292, 20, 0, 0, [o0', some (fI e), o2'], []) (156, fjl L, M) Q) : Wp (d + 0, 292, 4, 0, 0, [o0, some (fI l1), some (fI l2)], []) (156, fjl L, M) Q := by
  unfold s_X12_bits_b4 at h
  refine Wp.run 1 (f' := (d + 0, 292, 5, 0, 0, [_, some (fI l1), some (fI l2)], [fI l2])) (h' := (156, fjl L, M)) rfl trivial ?_
  refine Wp.br rfl (fun (c : l2 = 0) => ?_) (fun (c : ¬ (l2 = 0)) => ?_)
  · replace h := fps c h
    exact hE _ _ _ (Option.some.inj h).symm
  · replace h := fng c h
    obtain ⟨⟨g0, g1⟩, h⟩ := fgd h
    refine Wp.run 8 (f' := (d + 0, 292, 4, 0, 0, [_, some (fI (fw (l1 + 1))), some (fI (fand l2 (fw (l2 - 1))))], [])) (h' := (156, fjl L, M)) rfl trivial ?_
    rw [fw_id g0, fw_id g1]
    exact hC _ _ _ (Option.some.inj h).symm
noncomputable def s_X12_bits_l4 (M : fM) (s : (Int × Int)) : Option Int := fLp (fun s => s_X12_bits_b4 M s.1 s.2) s
theorem s_X12_bits_l4_ok {d L : Nat} {M : fM} {l1 l2 : Int} {o0 : Option fV} {r : Int} {Q : fO → fH → Prop} (h : s_X12_bits_l4 M (l1, l2) = some r) (hE : ∀ (e : Int) (o0' o2' : Option fV), r = e → Wp (d + 0, 292, 20, 0, 0, [o0', some (fI e), o2'], []) (156, fjl L, M) Q) : Wp (d + 0, 292, 4, 0, 0, [o0, some (fI l1), some (fI l2)], []) (156, fjl L, M) Q := by
  refine fLp_wp (W := fun s => ∀ (o0 : Option fV), Wp (d + 0, 292, 4, 0, 0, [o0, some (fI s.1), some (fI s.2)], []) (156, fjl L, M) Q) (e := r) ?_ h _
  intro s r1 h hC hX o0
  refine s_X12_bits_b4_ok (d := d) h (fun a0 a1 _ e1 => ?_) (fun e u0 u1 e1 => hE e u0 u1 (hX _ e1).symm)
  exact hC _ e1 _
noncomputable def s_X12_bits (M : fM) (l0 : Int) : Option Int :=
  (s_X12_bits_l4 M (0, l0)).bind fun e4 =>
    some e4
theorem s_X12_bits_ok {d L : Nat} {M : fM} {l0 : Int} {r : Int} {Q : fO → fH → Prop} (h : s_X12_bits M l0 = some r) (H : Q (oI r) (156, fjl L, M)) : Wp (d + 0, 292, 0, 0, 0, [some (fI l0), none, none], []) (156, fjl L, M) Q := by
  unfold s_X12_bits at h
  refine Wp.run 4 (f' := (d + 0, 292, 4, 0, 0, [_, some (fI 0), some (fI l0)], [])) (h' := (156, fjl L, M)) rfl trivial ?_
  obtain ⟨e4, hy, h⟩ := fbd h
  refine s_X12_bits_l4_ok hy (fun x u0 u2 ex => ?_)
  cases ex
  show Wp (d + 0, 292, 20, 0, 0, [u0, some (fI e4), u2], []) (156, fjl L, M) Q
  refine Wp.run 1 (f' := (d + 0, 292, 21, 0, 0, [_, _, _], [fI e4])) (h' := (156, fjl L, M)) rfl trivial ?_
  obtain rfl := Option.some.inj h
  exact Wp.done rfl (by decide) H
