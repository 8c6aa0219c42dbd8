/-! ===== functions of the methods (printed by genfun.py) ===== -/
abbrev s_X12_festival_mods : List (Nat × Option Nat) := [(122, some 0), (122, some 2), (122, some 3), (122, some 4), (122, some 5), (122, some 24), (122, some 25), (122, some 26), (122, some 27), (122, some 28), (122, some 39), (122, some 40), (122, some 41), (128, none), (129, none), (133, none), (134, none), (135, none), (136, none), (137, none), (143, none), (144, none), (145, none)]
noncomputable def s_X12_festival_b35 (M : fM) (l2 l3 : Int) : Option ((Int × fM) ⊕ fM) :=
  if (M 124 173) ≤ l3 then
    some (.inr M)
  else
    (s_X12_sets M l3).bind fun y49 =>
      if fin (l3 + 1) then
        some (.inl ((l3 + 1), y49.2))
      else none
theorem s_X12_festival_b35_ok {d L : Nat} {M : fM} {l2 l3 : Int} {o1 o4 o5 o6 o7 o8 : Option fV} {r : ((Int × fM) ⊕ fM)} {Q : fO → fH → Prop} (h : s_X12_festival_b35 M l2 l3 = some r) (hC : ∀ (l3' : Int) (M' : fM) (o1' o4' o5' o6' o7' o8' : Option fV), r = .inl (l3', M') → Wp (d + 6, 293, 35, 0, 0, [some (fA 122), o1', some (fI l2), some (fI l3'), o4', o5', o6', o7', o8'], []) (156, fjl L, M') Q) (hE : ∀ (e : fM) (o1' o3' o4' o5' o6' o7' o8' : Option fV), r = .inr e → Wp (d + 6, 293, 58, 0, 0, [some (fA 122), o1', some (fI l2), o3', o4', o5', o6', o7', o8'], []) (156, fjl L, e) Q) : Wp (d + 6, 293, 35, 0, 0, [some (fA 122), o1, some (fI l2), some (fI l3), o4, o5, o6, o7, o8], []) (156, fjl L, M) Q := by
  unfold s_X12_festival_b35 at h
  refine Wp.run 5 (P := [(0 : Int) ≤ 173 ∧ (173 : Int) < 1290]) (f' := (d + 6, 293, 44, 0, 0, [some (fA 122), _, some (fI l2), some (fI l3), _, _, _, _, _], [fI (M 124 173), fI l3])) (h' := (156, fjl L, M)) rfl ?_ ?_
  · exact (by decide : (0 : Int) ≤ 173 ∧ (173 : Int) < 1290)
  refine Wp.br rfl (fun (c : (M 124 173) ≤ l3) => ?_) (fun (c : ¬ ((M 124 173) ≤ l3)) => ?_)
  · replace h := fps c h
    exact hE _ _ _ _ _ _ _ _ (Option.some.inj h).symm
  · replace h := fng c h
    refine Wp.run 2 (f' := (d + 6, 293, 49, 0, 0, [some (fA 122), _, some (fI l2), some (fI l3), _, _, _, _, _], [fI l3, fA 122])) (h' := (156, fjl L, M)) rfl trivial ?_
    obtain ⟨y49, hy, h⟩ := fbd h
    refine Wp.call rfl (by decide) (s_X12_sets_ok (d := d + 2) hy ?_)
    show Wp (d + 6, 293, 52, 0, 0, [some (fA 122), _, some (fI l2), some (fI l3), _, _, _, _, _], []) (156, fjl L, y49.2) Q
    obtain ⟨g0, h⟩ := fgd h
    refine Wp.run 2 (f' := (d + 6, 293, 35, 0, 0, [some (fA 122), _, some (fI l2), some (fI (fw (l3 + 1))), _, _, _, _, _], [])) (h' := (156, fjl L, y49.2)) rfl trivial ?_
    rw [fw_id g0]
    exact hC _ _ _ _ _ _ _ _ (Option.some.inj h).symm
theorem s_X12_festival_b35_fr {M : fM} {l2 l3 : Int} {r : ((Int × fM) ⊕ fM)} (h : s_X12_festival_b35 M l2 l3 = some r) : fSame s_X12_festival_mods M (Sum.elim (fun s => s.2) (fun e => e) r) := by
  unfold s_X12_festival_b35 at h
  by_cases c : (M 124 173) ≤ l3
  · replace h := fps c h
    obtain rfl := Option.some.inj h
    exact fs_refl
  · replace h := fng c h
    obtain ⟨y49, hy, h⟩ := fbd h
    have k49 := fs_trans (l := s_X12_festival_mods) fs_refl (fs_mono (l := s_X12_sets_mods) (by decide) (s_X12_sets_fr hy))
    replace h := (fgd h).2
    obtain rfl := Option.some.inj h
    exact k49
noncomputable def s_X12_festival_l35 (l2 : Int) (s : (Int × fM)) : Option fM := fLp (fun s => s_X12_festival_b35 s.2 l2 s.1) s
theorem s_X12_festival_l35_ok {d L : Nat} {M : fM} {l2 l3 : Int} {o1 o4 o5 o6 o7 o8 : Option fV} {r : fM} {Q : fO → fH → Prop} (h : s_X12_festival_l35 l2 (l3, M) = some r) (hE : ∀ (e : fM) (o1' o3' o4' o5' o6' o7' o8' : Option fV), r = e → Wp (d + 6, 293, 58, 0, 0, [some (fA 122), o1', some (fI l2), o3', o4', o5', o6', o7', o8'], []) (156, fjl L, e) Q) : Wp (d + 6, 293, 35, 0, 0, [some (fA 122), o1, some (fI l2), some (fI l3), o4, o5, o6, o7, o8], []) (156, fjl L, M) Q := by
  refine fLp_wp (W := fun s => ∀ (o1 o4 o5 o6 o7 o8 : Option fV), Wp (d + 6, 293, 35, 0, 0, [some (fA 122), o1, some (fI l2), some (fI s.1), o4, o5, o6, o7, o8], []) (156, fjl L, s.2) Q) (e := r) ?_ h _ _ _ _ _ _
  intro s r1 h hC hX o1 o4 o5 o6 o7 o8
  refine s_X12_festival_b35_ok (d := d) h (fun a0 a1 _ _ _ _ _ _ e1 => ?_) (fun e u0 u1 u2 u3 u4 u5 u6 e1 => hE e u0 u1 u2 u3 u4 u5 u6 (hX _ e1).symm)
  exact hC _ e1 _ _ _ _ _ _
theorem s_X12_festival_l35_fr {M : fM} {l2 l3 : Int} {r : fM} (h : s_X12_festival_l35 l2 (l3, M) = some r) : fSame s_X12_festival_mods M ((fun e => e) r) := by
  refine fLp_inv (I := fun s => fSame s_X12_festival_mods M s.2) (J := fun r => fSame s_X12_festival_mods M ((fun e => e) r)) h fs_refl (fun s s1 hs hb => ?_) (fun s e hs hb => ?_)
  · exact fs_trans hs (s_X12_festival_b35_fr hb)
  · exact fs_trans hs (s_X12_festival_b35_fr hb)
noncomputable def s_X12_festival_b81 (M : fM) (l2 l3 l4 l5 : Int) : Option (Int ⊕ Int) :=
  if l4 ≤ 0 then
    some (.inr l5)
  else
    if ¬ (fand (fshr l4 l5) 1) = 0 then
      some (.inr l5)
    else
      if fin (l5 + 1) then
        some (.inl (l5 + 1))
      else none
theorem s_X12_festival_b81_ok {d L : Nat} {M : fM} {l2 l3 l4 l5 : Int} {o1 o6 o7 o8 : Option fV} {r : (Int ⊕ Int)} {Q : fO → fH → Prop} (h : s_X12_festival_b81 M l2 l3 l4 l5 = some r) (hC : ∀ (l5' : Int) (o1' o6' o7' o8' : Option fV), r = .inl l5' → Wp (d + 6, 293, 81, 0, 0, [some (fA 122), o1', some (fI l2), some (fI l3), some (fI l4), some (fI l5'), o6', o7', o8'], []) (156, fjl L, M) Q) (hE : ∀ (e : Int) (o1' o6' o7' o8' : Option fV), r = .inr e → Wp (d + 6, 293, 102, 0, 0, [some (fA 122), o1', some (fI l2), some (fI l3), some (fI l4), some (fI e), o6', o7', o8'], []) (156, fjl L, M) Q) : Wp (d + 6, 293, 81, 0, 0, [some (fA 122), o1, some (fI l2), some (fI l3), some (fI l4), some (fI l5), o6, o7, o8], []) (156, fjl L, M) Q := by
  unfold s_X12_festival_b81 at h
  refine Wp.run 1 (f' := (d + 6, 293, 83, 0, 0, [some (fA 122), _, some (fI l2), some (fI l3), some (fI l4), some (fI l5), _, _, _], [fI l4])) (h' := (156, fjl L, M)) rfl trivial ?_
  refine Wp.br rfl (fun (c : l4 ≤ 0) => ?_) (fun (c : ¬ (l4 ≤ 0)) => ?_)
  · replace h := fps c h
    exact hE _ _ _ _ _ (Option.some.inj h).symm
  · replace h := fng c h
    refine Wp.run 5 (f' := (d + 6, 293, 93, 0, 0, [some (fA 122), _, some (fI l2), some (fI l3), some (fI l4), some (fI l5), _, _, _], [fI (fand (fshr l4 l5) 1)])) (h' := (156, fjl L, M)) rfl trivial ?_
    refine Wp.br rfl (fun (c : ¬ (fand (fshr l4 l5) 1) = 0) => ?_) (fun (c : ¬ (¬ (fand (fshr l4 l5) 1) = 0)) => ?_)
    · replace h := fps c h
      exact hE _ _ _ _ _ (Option.some.inj h).symm
    · replace h := fng c h
      obtain ⟨g0, h⟩ := fgd h
      refine Wp.run 2 (f' := (d + 6, 293, 81, 0, 0, [some (fA 122), _, some (fI l2), some (fI l3), some (fI l4), some (fI (fw (l5 + 1))), _, _, _], [])) (h' := (156, fjl L, M)) rfl trivial ?_
      rw [fw_id g0]
      exact hC _ _ _ _ _ (Option.some.inj h).symm
theorem s_X12_festival_b81_fr {M : fM} {l2 l3 l4 l5 : Int} {r : (Int ⊕ Int)} (h : s_X12_festival_b81 M l2 l3 l4 l5 = some r) : fSame s_X12_festival_mods M (Sum.elim (fun _ => M) (fun _ => M) r) := by
  unfold s_X12_festival_b81 at h
  by_cases c : l4 ≤ 0
  · replace h := fps c h
    obtain rfl := Option.some.inj h
    exact fs_refl
  · replace h := fng c h
    by_cases c : ¬ (fand (fshr l4 l5) 1) = 0
    · replace h := fps c h
      obtain rfl := Option.some.inj h
      exact fs_refl
    · replace h := fng c h
      replace h := (fgd h).2
      obtain rfl := Option.some.inj h
      exact fs_refl
noncomputable def s_X12_festival_l81 (M : fM) (l2 l3 l4 : Int) (s : Int) : Option Int := fLp (fun s => s_X12_festival_b81 M l2 l3 l4 s) s
theorem s_X12_festival_l81_ok {d L : Nat} {M : fM} {l2 l3 l4 l5 : Int} {o1 o6 o7 o8 : Option fV} {r : Int} {Q : fO → fH → Prop} (h : s_X12_festival_l81 M l2 l3 l4 l5 = some r) (hE : ∀ (e : Int) (o1' o6' o7' o8' : Option fV), r = e → Wp (d + 6, 293, 102, 0, 0, [some (fA 122), o1', some (fI l2), some (fI l3), some (fI l4), some (fI e), o6', o7', o8'], []) (156, fjl L, M) Q) : Wp (d + 6, 293, 81, 0, 0, [some (fA 122), o1, some (fI l2), some (fI l3), some (fI l4), some (fI l5), o6, o7, o8], []) (156, fjl L, M) Q := by
  refine fLp_wp (W := fun s => ∀ (o1 o6 o7 o8 : Option fV), Wp (d + 6, 293, 81, 0, 0, [some (fA 122), o1, some (fI l2), some (fI l3), some (fI l4), some (fI s), o6, o7, o8], []) (156, fjl L, M) Q) (e := r) ?_ h _ _ _ _
  intro s r1 h hC hX o1 o6 o7 o8
  refine s_X12_festival_b81_ok (d := d) h (fun a0 _ _ _ _ e1 => ?_) (fun e u0 u1 u2 u3 e1 => hE e u0 u1 u2 u3 (hX _ e1).symm)
  exact hC _ e1 _ _ _ _
noncomputable def s_X12_festival_j192 (M : fM) (l2 l3 l4 l5 l6 l8 : Int) : Option ((Int × Int) ⊕ Int) :=
  if fin (l8 - 1) then
    some (.inl (0, (fand (l8 - 1) l6)))
  else none
theorem s_X12_festival_j192_ok {d L : Nat} {M : fM} {l2 l3 l4 l5 l6 l8 : Int} {o1 o7 : Option fV} {r : ((Int × Int) ⊕ Int)} {Q : fO → fH → Prop} (h : s_X12_festival_j192 M l2 l3 l4 l5 l6 l8 = some r) (hC : ∀ (l7' l8' : Int) (o1' : Option fV), r = .inl (l7', l8') → Wp (d + 6, 293, 127, 0, 0, [some (fA 122), o1', some (fI l2), some (fI l3), some (fI l4), some (fI l5), some (fI l6), some (fI l7'), some (fI l8')], []) (156, fjl L, M) Q) (hE : ∀ (e : Int) (o1' o8' : Option fV), r = .inr e → Wp (d + 6, 293, 207, 0, 0, [some (fA 122), o1', some (fI l2), some (fI l3), some (fI l4), some (fI l5), some (fI l6), some (fI e), o8'], []) (156, fjl L, M) Q) : Wp (d + 6, 293, 192, 0, 0, [some (fA 122), o1, some (fI l2), some (fI l3), some (fI l4), some (fI l5), some (fI l6), o7, some (fI l8)], []) (156, fjl L, M) Q := by
  unfold s_X12_festival_j192 at h
  obtain ⟨g0, h⟩ := fgd h
  refine Wp.run 9 (f' := (d + 6, 293, 127, 0, 0, [some (fA 122), _, some (fI l2), some (fI l3), some (fI l4), some (fI l5), some (fI l6), some (fI 0), some (fI (fand (fw (l8 - 1)) l6))], [])) (h' := (156, fjl L, M)) rfl trivial ?_
  rw [fw_id g0]
  exact hC _ _ _ (Option.some.inj h).symm
theorem s_X12_festival_j192_fr {M : fM} {l2 l3 l4 l5 l6 l8 : Int} {r : ((Int × Int) ⊕ Int)} (h : s_X12_festival_j192 M l2 l3 l4 l5 l6 l8 = some r) : fSame s_X12_festival_mods M (Sum.elim (fun _ => M) (fun _ => M) r) := by
  unfold s_X12_festival_j192 at h
  replace h := (fgd h).2
  obtain rfl := Option.some.inj h
  exact fs_refl
noncomputable def s_X12_festival_b127 (M : fM) (l2 l3 l4 l5 l6 l7 l8 : Int) : Option ((Int × Int) ⊕ Int) :=
  if l8 ≤ 0 then
    some (.inr l7)
  else
    if ¬ l7 = 0 then
      some (.inr l7)
    else
      if l4 ≤ 0 then
        some (.inr l7)
      else
        if fin (512 * l5) ∧ fin ((512 * l5) + l8) ∧ (0 ≤ ((512 * l5) + l8) ∧ ((512 * l5) + l8) < 3072) then
          if (M 143 ((512 * l5) + l8).toNat) = 0 then
            s_X12_festival_j192 M l2 l3 l4 l5 l6 l8
          else
            if fin (512 * (fand l4 (fxor (fshl 1 l5) (-1)))) ∧ fin ((512 * (fand l4 (fxor (fshl 1 l5) (-1)))) + (fand l6 (fxor l8 (-1)))) ∧ (0 ≤ ((512 * (fand l4 (fxor (fshl 1 l5) (-1)))) + (fand l6 (fxor l8 (-1)))) ∧ ((512 * (fand l4 (fxor (fshl 1 l5) (-1)))) + (fand l6 (fxor l8 (-1)))) < 32768) then
              if (M 145 ((512 * (fand l4 (fxor (fshl 1 l5) (-1)))) + (fand l6 (fxor l8 (-1)))).toNat) = 0 then
                s_X12_festival_j192 M l2 l3 l4 l5 l6 l8
              else
                if fin (l8 - 1) then
                  some (.inl (1, (fand (l8 - 1) l6)))
                else none
            else none
        else none
theorem s_X12_festival_b127_ok {d L : Nat} {M : fM} {l2 l3 l4 l5 l6 l7 l8 : Int} {o1 : Option fV} {r : ((Int × Int) ⊕ Int)} {Q : fO → fH → Prop} (h : s_X12_festival_b127 M l2 l3 l4 l5 l6 l7 l8 = some r) (hC : ∀ (l7' l8' : Int) (o1' : Option fV), r = .inl (l7', l8') → Wp (d + 6, 293, 127, 0, 0, [some (fA 122), o1', some (fI l2), some (fI l3), some (fI l4), some (fI l5), some (fI l6), some (fI l7'), some (fI l8')], []) (156, fjl L, M) Q) (hE : ∀ (e : Int) (o1' o8' : Option fV), r = .inr e → Wp (d + 6, 293, 207, 0, 0, [some (fA 122), o1', some (fI l2), some (fI l3), some (fI l4), some (fI l5), some (fI l6), some (fI e), o8'], []) (156, fjl L, M) Q) : Wp (d + 6, 293, 127, 0, 0, [some (fA 122), o1, some (fI l2), some (fI l3), some (fI l4), some (fI l5), some (fI l6), some (fI l7), some (fI l8)], []) (156, fjl L, M) Q := by
  unfold s_X12_festival_b127 at h
  refine Wp.run 1 (f' := (d + 6, 293, 129, 0, 0, [some (fA 122), _, some (fI l2), some (fI l3), some (fI l4), some (fI l5), some (fI l6), some (fI l7), some (fI l8)], [fI l8])) (h' := (156, fjl L, M)) rfl trivial ?_
  refine Wp.br rfl (fun (c : l8 ≤ 0) => ?_) (fun (c : ¬ (l8 ≤ 0)) => ?_)
  · replace h := fps c h
    exact hE _ _ _ (Option.some.inj h).symm
  · replace h := fng c h
    refine Wp.run 1 (f' := (d + 6, 293, 134, 0, 0, [some (fA 122), _, some (fI l2), some (fI l3), some (fI l4), some (fI l5), some (fI l6), some (fI l7), some (fI l8)], [fI l7])) (h' := (156, fjl L, M)) rfl trivial ?_
    refine Wp.br rfl (fun (c : ¬ l7 = 0) => ?_) (fun (c : ¬ (¬ l7 = 0)) => ?_)
    · replace h := fps c h
      exact hE _ _ _ (Option.some.inj h).symm
    · replace h := fng c h
      refine Wp.run 1 (f' := (d + 6, 293, 139, 0, 0, [some (fA 122), _, some (fI l2), some (fI l3), some (fI l4), some (fI l5), some (fI l6), some (fI l7), some (fI l8)], [fI l4])) (h' := (156, fjl L, M)) rfl trivial ?_
      refine Wp.br rfl (fun (c : l4 ≤ 0) => ?_) (fun (c : ¬ (l4 ≤ 0)) => ?_)
      · replace h := fps c h
        exact hE _ _ _ (Option.some.inj h).symm
      · replace h := fng c h
        obtain ⟨⟨g0, g1, g2⟩, h⟩ := fgd h
        refine Wp.run 8 (P := [0 ≤ (fw ((fw (512 * l5)) + l8)) ∧ (fw ((fw (512 * l5)) + l8)) < 3072]) (f' := (d + 6, 293, 156, 0, 0, [some (fA 122), _, some (fI l2), some (fI l3), some (fI l4), some (fI l5), some (fI l6), _, some (fI l8)], [fI (M 143 (fw ((fw (512 * l5)) + l8)).toNat)])) (h' := (156, fjl L, M)) rfl ?_ ?_
        · rw [fw_id g0, fw_id g1]; exact g2
        rw [fw_id g0, fw_id g1]
        refine Wp.br rfl (fun (c : (M 143 ((512 * l5) + l8).toNat) = 0) => ?_) (fun (c : ¬ ((M 143 ((512 * l5) + l8).toNat) = 0)) => ?_)
        · replace h := fps c h
          exact s_X12_festival_j192_ok h hC hE
        · replace h := fng c h
          obtain ⟨⟨g0, g1, g2⟩, h⟩ := fgd h
          refine Wp.run 18 (P := [0 ≤ (fw ((fw (512 * (fand l4 (fxor (fshl 1 l5) (-1))))) + (fand l6 (fxor l8 (-1))))) ∧ (fw ((fw (512 * (fand l4 (fxor (fshl 1 l5) (-1))))) + (fand l6 (fxor l8 (-1))))) < 32768]) (f' := (d + 6, 293, 185, 0, 0, [some (fA 122), _, some (fI l2), some (fI l3), some (fI l4), some (fI l5), some (fI l6), _, some (fI l8)], [fI (M 145 (fw ((fw (512 * (fand l4 (fxor (fshl 1 l5) (-1))))) + (fand l6 (fxor l8 (-1))))).toNat)])) (h' := (156, fjl L, M)) rfl ?_ ?_
          · rw [fw_id g0, fw_id g1]; exact g2
          rw [fw_id g0, fw_id g1]
          refine Wp.br rfl (fun (c : (M 145 ((512 * (fand l4 (fxor (fshl 1 l5) (-1)))) + (fand l6 (fxor l8 (-1)))).toNat) = 0) => ?_) (fun (c : ¬ ((M 145 ((512 * (fand l4 (fxor (fshl 1 l5) (-1)))) + (fand l6 (fxor l8 (-1)))).toNat) = 0)) => ?_)
          · replace h := fps c h
            exact s_X12_festival_j192_ok h hC hE
          · replace h := fng c h
            obtain ⟨g0, h⟩ := fgd h
            refine Wp.run 10 (f' := (d + 6, 293, 127, 0, 0, [some (fA 122), _, some (fI l2), some (fI l3), some (fI l4), some (fI l5), some (fI l6), some (fI 1), some (fI (fand (fw (l8 - 1)) l6))], [])) (h' := (156, fjl L, M)) rfl trivial ?_
            rw [fw_id g0]
            exact hC _ _ _ (Option.some.inj h).symm
theorem s_X12_festival_b127_fr {M : fM} {l2 l3 l4 l5 l6 l7 l8 : Int} {r : ((Int × Int) ⊕ Int)} (h : s_X12_festival_b127 M l2 l3 l4 l5 l6 l7 l8 = some r) : fSame s_X12_festival_mods M (Sum.elim (fun _ => M) (fun _ => M) r) := by
  unfold s_X12_festival_b127 at h
  by_cases c : l8 ≤ 0
  · replace h := fps c h
    obtain rfl := Option.some.inj h
    exact fs_refl
  · replace h := fng c h
    by_cases c : ¬ l7 = 0
    · replace h := fps c h
      obtain rfl := Option.some.inj h
      exact fs_refl
    · replace h := fng c h
      by_cases c : l4 ≤ 0
      · replace h := fps c h
        obtain rfl := Option.some.inj h
        exact fs_refl
      · replace h := fng c h
        replace h := (fgd h).2
        by_cases c : (M 143 ((512 * l5) + l8).toNat) = 0
        · replace h := fps c h
          exact fs_trans fs_refl (s_X12_festival_j192_fr h)
        · replace h := fng c h
          replace h := (fgd h).2
          by_cases c : (M 145 ((512 * (fand l4 (fxor (fshl 1 l5) (-1)))) + (fand l6 (fxor l8 (-1)))).toNat) = 0
          · replace h := fps c h
            exact fs_trans fs_refl (s_X12_festival_j192_fr h)
          · replace h := fng c h
            replace h := (fgd h).2
            obtain rfl := Option.some.inj h
            exact fs_refl
noncomputable def s_X12_festival_l127 (M : fM) (l2 l3 l4 l5 l6 : Int) (s : (Int × Int)) : Option Int := fLp (fun s => s_X12_festival_b127 M l2 l3 l4 l5 l6 s.1 s.2) s
theorem s_X12_festival_l127_ok {d L : Nat} {M : fM} {l2 l3 l4 l5 l6 l7 l8 : Int} {o1 : Option fV} {r : Int} {Q : fO → fH → Prop} (h : s_X12_festival_l127 M l2 l3 l4 l5 l6 (l7, l8) = some r) (hE : ∀ (e : Int) (o1' o8' : Option fV), r = e → Wp (d + 6, 293, 207, 0, 0, [some (fA 122), o1', some (fI l2), some (fI l3), some (fI l4), some (fI l5), some (fI l6), some (fI e), o8'], []) (156, fjl L, M) Q) : Wp (d + 6, 293, 127, 0, 0, [some (fA 122), o1, some (fI l2), some (fI l3), some (fI l4), some (fI l5), some (fI l6), some (fI l7), some (fI l8)], []) (156, fjl L, M) Q := by
  refine fLp_wp (W := fun s => ∀ (o1 : Option fV), Wp (d + 6, 293, 127, 0, 0, [some (fA 122), o1, some (fI l2), some (fI l3), some (fI l4), some (fI l5), some (fI l6), some (fI s.1), some (fI s.2)], []) (156, fjl L, M) Q) (e := r) ?_ h _
  intro s r1 h hC hX o1
  refine s_X12_festival_b127_ok (d := d) h (fun a0 a1 _ e1 => ?_) (fun e u0 u1 e1 => hE e u0 u1 (hX _ e1).symm)
  exact hC _ e1 _
noncomputable def s_X12_festival_j207 (M : fM) (l2 l3 l4 l5 l6 l7 : Int) : Option ((Int × fM) ⊕ fM) :=
  if fin (512 * l4) ∧ fin ((512 * l4) + l6) then
    if ¬ l7 = 0 then
      if (0 ≤ ((512 * l4) + l6) ∧ ((512 * l4) + l6) < 32768) ∧ fin (l6 + 1) then
        some (.inl ((l6 + 1), (fup M 145 ((512 * l4) + l6).toNat 1)))
      else none
    else
      if l4 ≤ 0 then
        if (0 ≤ ((512 * l4) + l6) ∧ ((512 * l4) + l6) < 32768) ∧ fin (l6 + 1) then
          some (.inl ((l6 + 1), (fup M 145 ((512 * l4) + l6).toNat 0)))
        else none
      else
        if fin (512 * (fand l4 (fxor (fshl 1 l5) (-1)))) ∧ fin ((512 * (fand l4 (fxor (fshl 1 l5) (-1)))) + l6) ∧ (0 ≤ ((512 * (fand l4 (fxor (fshl 1 l5) (-1)))) + l6) ∧ ((512 * (fand l4 (fxor (fshl 1 l5) (-1)))) + l6) < 32768) then
          if (M 145 ((512 * (fand l4 (fxor (fshl 1 l5) (-1)))) + l6).toNat) = 0 then
            if (0 ≤ ((512 * l4) + l6) ∧ ((512 * l4) + l6) < 32768) ∧ fin (l6 + 1) then
              some (.inl ((l6 + 1), (fup M 145 ((512 * l4) + l6).toNat 0)))
            else none
          else
            if (0 ≤ ((512 * l4) + l6) ∧ ((512 * l4) + l6) < 32768) ∧ fin (l6 + 1) then
              some (.inl ((l6 + 1), (fup M 145 ((512 * l4) + l6).toNat 1)))
            else none
        else none
  else none
theorem s_X12_festival_j207_ok {d L : Nat} {M : fM} {l2 l3 l4 l5 l6 l7 : Int} {o1 o8 : Option fV} {r : ((Int × fM) ⊕ fM)} {Q : fO → fH → Prop} (h : s_X12_festival_j207 M l2 l3 l4 l5 l6 l7 = some r) (hC : ∀ (l6' : Int) (M' : fM) (o1' o7' o8' : Option fV), r = .inl (l6', M') → Wp (d + 6, 293, 105, 0, 0, [some (fA 122), o1', some (fI l2), some (fI l3), some (fI l4), some (fI l5), some (fI l6'), o7', o8'], []) (156, fjl L, M') Q) (hE : ∀ (e : fM) (o1' o5' o6' o7' o8' : Option fV), r = .inr e → Wp (d + 6, 293, 266, 0, 0, [some (fA 122), o1', some (fI l2), some (fI l3), some (fI l4), o5', o6', o7', o8'], []) (156, fjl L, e) Q) : Wp (d + 6, 293, 207, 0, 0, [some (fA 122), o1, some (fI l2), some (fI l3), some (fI l4), some (fI l5), some (fI l6), some (fI l7), o8], []) (156, fjl L, M) Q := by
  unfold s_X12_festival_j207 at h
  obtain ⟨⟨g0, g1⟩, h⟩ := fgd h
  refine Wp.run 8 (f' := (d + 6, 293, 222, 0, 0, [some (fA 122), _, some (fI l2), some (fI l3), some (fI l4), some (fI l5), some (fI l6), _, _], [fI l7, fI (fw ((fw (512 * l4)) + l6)), fA 145])) (h' := (156, fjl L, M)) rfl trivial ?_
  rw [fw_id g0, fw_id g1]
  refine Wp.br rfl (fun (c : ¬ l7 = 0) => ?_) (fun (c : ¬ (¬ l7 = 0)) => ?_)
  · replace h := fps c h
    obtain ⟨⟨g0, g1⟩, h⟩ := fgd h
    refine Wp.run 5 (P := [0 ≤ ((512 * l4) + l6) ∧ ((512 * l4) + l6) < 32768]) (f' := (d + 6, 293, 105, 0, 0, [some (fA 122), _, some (fI l2), some (fI l3), some (fI l4), some (fI l5), some (fI (fw (l6 + 1))), _, _], [])) (h' := (156, fjl L, (fup M 145 ((512 * l4) + l6).toNat 1))) rfl ?_ ?_
    · exact g0
    rw [fw_id g1]
    exact hC _ _ _ _ _ (Option.some.inj h).symm
  · replace h := fng c h
    refine Wp.run 1 (f' := (d + 6, 293, 227, 0, 0, [some (fA 122), _, some (fI l2), some (fI l3), some (fI l4), some (fI l5), some (fI l6), _, _], [fI l4, fI ((512 * l4) + l6), fA 145])) (h' := (156, fjl L, M)) rfl trivial ?_
    refine Wp.br rfl (fun (c : l4 ≤ 0) => ?_) (fun (c : ¬ (l4 ≤ 0)) => ?_)
    · replace h := fps c h
      obtain ⟨⟨g0, g1⟩, h⟩ := fgd h
      refine Wp.run 4 (P := [0 ≤ ((512 * l4) + l6) ∧ ((512 * l4) + l6) < 32768]) (f' := (d + 6, 293, 105, 0, 0, [some (fA 122), _, some (fI l2), some (fI l3), some (fI l4), some (fI l5), some (fI (fw (l6 + 1))), _, _], [])) (h' := (156, fjl L, (fup M 145 ((512 * l4) + l6).toNat 0))) rfl ?_ ?_
      · exact g0
      rw [fw_id g1]
      exact hC _ _ _ _ _ (Option.some.inj h).symm
    · replace h := fng c h
      obtain ⟨⟨g0, g1, g2⟩, h⟩ := fgd h
      refine Wp.run 14 (P := [0 ≤ (fw ((fw (512 * (fand l4 (fxor (fshl 1 l5) (-1))))) + l6)) ∧ (fw ((fw (512 * (fand l4 (fxor (fshl 1 l5) (-1))))) + l6)) < 32768]) (f' := (d + 6, 293, 251, 0, 0, [some (fA 122), _, some (fI l2), some (fI l3), some (fI l4), some (fI l5), some (fI l6), _, _], [fI (M 145 (fw ((fw (512 * (fand l4 (fxor (fshl 1 l5) (-1))))) + l6)).toNat), fI ((512 * l4) + l6), fA 145])) (h' := (156, fjl L, M)) rfl ?_ ?_
      · rw [fw_id g0, fw_id g1]; exact g2
      rw [fw_id g0, fw_id g1]
      refine Wp.br rfl (fun (c : (M 145 ((512 * (fand l4 (fxor (fshl 1 l5) (-1)))) + l6).toNat) = 0) => ?_) (fun (c : ¬ ((M 145 ((512 * (fand l4 (fxor (fshl 1 l5) (-1)))) + l6).toNat) = 0)) => ?_)
      · replace h := fps c h
        obtain ⟨⟨g0, g1⟩, h⟩ := fgd h
        refine Wp.run 4 (P := [0 ≤ ((512 * l4) + l6) ∧ ((512 * l4) + l6) < 32768]) (f' := (d + 6, 293, 105, 0, 0, [some (fA 122), _, some (fI l2), some (fI l3), some (fI l4), some (fI l5), some (fI (fw (l6 + 1))), _, _], [])) (h' := (156, fjl L, (fup M 145 ((512 * l4) + l6).toNat 0))) rfl ?_ ?_
        · exact g0
        rw [fw_id g1]
        exact hC _ _ _ _ _ (Option.some.inj h).symm
      · replace h := fng c h
        obtain ⟨⟨g0, g1⟩, h⟩ := fgd h
        refine Wp.run 5 (P := [0 ≤ ((512 * l4) + l6) ∧ ((512 * l4) + l6) < 32768]) (f' := (d + 6, 293, 105, 0, 0, [some (fA 122), _, some (fI l2), some (fI l3), some (fI l4), some (fI l5), some (fI (fw (l6 + 1))), _, _], [])) (h' := (156, fjl L, (fup M 145 ((512 * l4) + l6).toNat 1))) rfl ?_ ?_
        · exact g0
        rw [fw_id g1]
        exact hC _ _ _ _ _ (Option.some.inj h).symm
theorem s_X12_festival_j207_fr {M : fM} {l2 l3 l4 l5 l6 l7 : Int} {r : ((Int × fM) ⊕ fM)} (h : s_X12_festival_j207 M l2 l3 l4 l5 l6 l7 = some r) : fSame s_X12_festival_mods M (Sum.elim (fun s => s.2) (fun e => e) r) := by
  unfold s_X12_festival_j207 at h
  replace h := (fgd h).2
  by_cases c : ¬ l7 = 0
  · replace h := fps c h
    replace h := (fgd h).2
    obtain rfl := Option.some.inj h
    exact fs_up fs_refl (.inl (by decide))
  · replace h := fng c h
    by_cases c : l4 ≤ 0
    · replace h := fps c h
      replace h := (fgd h).2
      obtain rfl := Option.some.inj h
      exact fs_up fs_refl (.inl (by decide))
    · replace h := fng c h
      replace h := (fgd h).2
      by_cases c : (M 145 ((512 * (fand l4 (fxor (fshl 1 l5) (-1)))) + l6).toNat) = 0
      · replace h := fps c h
        replace h := (fgd h).2
        obtain rfl := Option.some.inj h
        exact fs_up fs_refl (.inl (by decide))
      · replace h := fng c h
        replace h := (fgd h).2
        obtain rfl := Option.some.inj h
        exact fs_up fs_refl (.inl (by decide))
noncomputable def s_X12_festival_j121 (M : fM) (l2 l3 l4 l5 l6 t0 : Int) : Option ((Int × fM) ⊕ fM) :=
  (s_X12_festival_l127 M l2 l3 l4 l5 l6 (t0, l6)).bind fun e127 =>
    s_X12_festival_j207 M l2 l3 l4 l5 l6 e127
theorem s_X12_festival_j121_ok {d L : Nat} {M : fM} {l2 l3 l4 l5 l6 t0 : Int} {o1 o7 o8 : Option fV} {r : ((Int × fM) ⊕ fM)} {Q : fO → fH → Prop} (h : s_X12_festival_j121 M l2 l3 l4 l5 l6 t0 = some r) (hC : ∀ (l6' : Int) (M' : fM) (o1' o7' o8' : Option fV), r = .inl (l6', M') → Wp (d + 6, 293, 105, 0, 0, [some (fA 122), o1', some (fI l2), some (fI l3), some (fI l4), some (fI l5), some (fI l6'), o7', o8'], []) (156, fjl L, M') Q) (hE : ∀ (e : fM) (o1' o5' o6' o7' o8' : Option fV), r = .inr e → Wp (d + 6, 293, 266, 0, 0, [some (fA 122), o1', some (fI l2), some (fI l3), some (fI l4), o5', o6', o7', o8'], []) (156, fjl L, e) Q) : Wp (d + 6, 293, 121, 0, 0, [some (fA 122), o1, some (fI l2), some (fI l3), some (fI l4), some (fI l5), some (fI l6), o7, o8], [fI t0]) (156, fjl L, M) Q := by
  unfold s_X12_festival_j121 at h
  refine Wp.run 3 (f' := (d + 6, 293, 127, 0, 0, [some (fA 122), _, some (fI l2), some (fI l3), some (fI l4), some (fI l5), some (fI l6), some (fI t0), some (fI l6)], [])) (h' := (156, fjl L, M)) rfl trivial ?_
  obtain ⟨e127, hy, h⟩ := fbd h
  refine s_X12_festival_l127_ok hy (fun x u1 u8 ex => ?_)
  cases ex
  show Wp (d + 6, 293, 207, 0, 0, [some (fA 122), u1, some (fI l2), some (fI l3), some (fI l4), some (fI l5), some (fI l6), some (fI e127), u8], []) (156, fjl L, M) Q
  exact s_X12_festival_j207_ok h hC hE
theorem s_X12_festival_j121_fr {M : fM} {l2 l3 l4 l5 l6 t0 : Int} {r : ((Int × fM) ⊕ fM)} (h : s_X12_festival_j121 M l2 l3 l4 l5 l6 t0 = some r) : fSame s_X12_festival_mods M (Sum.elim (fun s => s.2) (fun e => e) r) := by
  unfold s_X12_festival_j121 at h
  obtain ⟨e127, hy, h⟩ := fbd h
  exact fs_trans fs_refl (s_X12_festival_j207_fr h)
noncomputable def s_X12_festival_b105 (M : fM) (l2 l3 l4 l5 l6 : Int) : Option ((Int × fM) ⊕ fM) :=
  if l2 < l6 then
    some (.inr M)
  else
    if ¬ l6 = 0 then
      s_X12_festival_j121 M l2 l3 l4 l5 l6 0
    else
      s_X12_festival_j121 M l2 l3 l4 l5 l6 1
theorem s_X12_festival_b105_ok {d L : Nat} {M : fM} {l2 l3 l4 l5 l6 : Int} {o1 o7 o8 : Option fV} {r : ((Int × fM) ⊕ fM)} {Q : fO → fH → Prop} (h : s_X12_festival_b105 M l2 l3 l4 l5 l6 = some r) (hC : ∀ (l6' : Int) (M' : fM) (o1' o7' o8' : Option fV), r = .inl (l6', M') → Wp (d + 6, 293, 105, 0, 0, [some (fA 122), o1', some (fI l2), some (fI l3), some (fI l4), some (fI l5), some (fI l6'), o7', o8'], []) (156, fjl L, M') Q) (hE : ∀ (e : fM) (o1' o5' o6' o7' o8' : Option fV), r = .inr e → Wp (d + 6, 293, 266, 0, 0, [some (fA 122), o1', some (fI l2), some (fI l3), some (fI l4), o5', o6', o7', o8'], []) (156, fjl L, e) Q) : Wp (d + 6, 293, 105, 0, 0, [some (fA 122), o1, some (fI l2), some (fI l3), some (fI l4), some (fI l5), some (fI l6), o7, o8], []) (156, fjl L, M) Q := by
  unfold s_X12_festival_b105 at h
  refine Wp.run 2 (f' := (d + 6, 293, 108, 0, 0, [some (fA 122), _, some (fI l2), some (fI l3), some (fI l4), some (fI l5), some (fI l6), _, _], [fI l2, fI l6])) (h' := (156, fjl L, M)) rfl trivial ?_
  refine Wp.br rfl (fun (c : l2 < l6) => ?_) (fun (c : ¬ (l2 < l6)) => ?_)
  · replace h := fps c h
    exact hE _ _ _ _ _ _ (Option.some.inj h).symm
  · replace h := fng c h
    refine Wp.run 1 (f' := (d + 6, 293, 113, 0, 0, [some (fA 122), _, some (fI l2), some (fI l3), some (fI l4), some (fI l5), some (fI l6), _, _], [fI l6])) (h' := (156, fjl L, M)) rfl trivial ?_
    refine Wp.br rfl (fun (c : ¬ l6 = 0) => ?_) (fun (c : ¬ (¬ l6 = 0)) => ?_)
    · replace h := fps c h
      refine Wp.run 1 (f' := (d + 6, 293, 121, 0, 0, [some (fA 122), _, some (fI l2), some (fI l3), some (fI l4), some (fI l5), some (fI l6), _, _], [fI 0])) (h' := (156, fjl L, M)) rfl trivial ?_
      exact s_X12_festival_j121_ok h hC hE
    · replace h := fng c h
      refine Wp.run 2 (f' := (d + 6, 293, 121, 0, 0, [some (fA 122), _, some (fI l2), some (fI l3), some (fI l4), some (fI l5), some (fI l6), _, _], [fI 1])) (h' := (156, fjl L, M)) rfl trivial ?_
      exact s_X12_festival_j121_ok h hC hE
theorem s_X12_festival_b105_fr {M : fM} {l2 l3 l4 l5 l6 : Int} {r : ((Int × fM) ⊕ fM)} (h : s_X12_festival_b105 M l2 l3 l4 l5 l6 = some r) : fSame s_X12_festival_mods M (Sum.elim (fun s => s.2) (fun e => e) r) := by
  unfold s_X12_festival_b105 at h
  by_cases c : l2 < l6
  · replace h := fps c h
    obtain rfl := Option.some.inj h
    exact fs_refl
  · replace h := fng c h
    by_cases c : ¬ l6 = 0
    · replace h := fps c h
      exact fs_trans fs_refl (s_X12_festival_j121_fr h)
    · replace h := fng c h
      exact fs_trans fs_refl (s_X12_festival_j121_fr h)
noncomputable def s_X12_festival_l105 (l2 l3 l4 l5 : Int) (s : (Int × fM)) : Option fM := fLp (fun s => s_X12_festival_b105 s.2 l2 l3 l4 l5 s.1) s
theorem s_X12_festival_l105_ok {d L : Nat} {M : fM} {l2 l3 l4 l5 l6 : Int} {o1 o7 o8 : Option fV} {r : fM} {Q : fO → fH → Prop} (h : s_X12_festival_l105 l2 l3 l4 l5 (l6, M) = some r) (hE : ∀ (e : fM) (o1' o5' o6' o7' o8' : Option fV), r = e → Wp (d + 6, 293, 266, 0, 0, [some (fA 122), o1', some (fI l2), some (fI l3), some (fI l4), o5', o6', o7', o8'], []) (156, fjl L, e) Q) : Wp (d + 6, 293, 105, 0, 0, [some (fA 122), o1, some (fI l2), some (fI l3), some (fI l4), some (fI l5), some (fI l6), o7, o8], []) (156, fjl L, M) Q := by
  refine fLp_wp (W := fun s => ∀ (o1 o7 o8 : Option fV), Wp (d + 6, 293, 105, 0, 0, [some (fA 122), o1, some (fI l2), some (fI l3), some (fI l4), some (fI l5), some (fI s.1), o7, o8], []) (156, fjl L, s.2) Q) (e := r) ?_ h _ _ _
  intro s r1 h hC hX o1 o7 o8
  refine s_X12_festival_b105_ok (d := d) h (fun a0 a1 _ _ _ e1 => ?_) (fun e u0 u1 u2 u3 u4 e1 => hE e u0 u1 u2 u3 u4 (hX _ e1).symm)
  exact hC _ e1 _ _ _
theorem s_X12_festival_l105_fr {M : fM} {l2 l3 l4 l5 l6 : Int} {r : fM} (h : s_X12_festival_l105 l2 l3 l4 l5 (l6, M) = some r) : fSame s_X12_festival_mods M ((fun e => e) r) := by
  refine fLp_inv (I := fun s => fSame s_X12_festival_mods M s.2) (J := fun r => fSame s_X12_festival_mods M ((fun e => e) r)) h fs_refl (fun s s1 hs hb => ?_) (fun s e hs hb => ?_)
  · exact fs_trans hs (s_X12_festival_b105_fr hb)
  · exact fs_trans hs (s_X12_festival_b105_fr hb)
noncomputable def s_X12_festival_j102 (M : fM) (l2 l3 l4 l5 : Int) : Option ((Int × Int × fM) ⊕ (Int × fM)) :=
  (s_X12_festival_l105 l2 l3 l4 l5 (0, M)).bind fun e105 =>
    if fin (512 * l4) ∧ fin ((512 * l4) + l2) ∧ (0 ≤ ((512 * l4) + l2) ∧ ((512 * l4) + l2) < 32768) then
      if (e105 145 ((512 * l4) + l2).toNat) = 0 then
        if fin (l4 + 1) then
          some (.inl (l3, (l4 + 1), e105))
        else none
      else
        if l3 < 0 then
          if fin (l4 + 1) then
            some (.inl (l4, (l4 + 1), e105))
          else none
        else
          (s_X12_bits e105 l4).bind fun y288 =>
            (s_X12_bits e105 l3).bind fun y292 =>
              if y292 ≤ y288 then
                if fin (l4 + 1) then
                  some (.inl (l3, (l4 + 1), e105))
                else none
              else
                if fin (l4 + 1) then
                  some (.inl (l4, (l4 + 1), e105))
                else none
    else none
theorem s_X12_festival_j102_ok {d L : Nat} {M : fM} {l2 l3 l4 l5 : Int} {o1 o6 o7 o8 : Option fV} {r : ((Int × Int × fM) ⊕ (Int × fM))} {Q : fO → fH → Prop} (h : s_X12_festival_j102 M l2 l3 l4 l5 = some r) (hC : ∀ (l3' l4' : Int) (M' : fM) (o1' o5' o6' o7' o8' : Option fV), r = .inl (l3', l4', M') → Wp (d + 6, 293, 63, 0, 0, [some (fA 122), o1', some (fI l2), some (fI l3'), some (fI l4'), o5', o6', o7', o8'], []) (156, fjl L, M') Q) (hE : ∀ (e : (Int × fM)) (o0' o1' o2' o4' o5' o6' o7' o8' : Option fV), r = .inr e → Wp (d + 6, 293, 307, 0, 0, [o0', o1', o2', some (fI e.1), o4', o5', o6', o7', o8'], []) (156, fjl L, e.2) Q) : Wp (d + 6, 293, 102, 0, 0, [some (fA 122), o1, some (fI l2), some (fI l3), some (fI l4), some (fI l5), o6, o7, o8], []) (156, fjl L, M) Q := by
  unfold s_X12_festival_j102 at h
  refine Wp.run 2 (f' := (d + 6, 293, 105, 0, 0, [some (fA 122), _, some (fI l2), some (fI l3), some (fI l4), some (fI l5), some (fI 0), _, _], [])) (h' := (156, fjl L, M)) rfl trivial ?_
  obtain ⟨e105, hy, h⟩ := fbd h
  refine s_X12_festival_l105_ok hy (fun x u1 u5 u6 u7 u8 ex => ?_)
  cases ex
  show Wp (d + 6, 293, 266, 0, 0, [some (fA 122), u1, some (fI l2), some (fI l3), some (fI l4), u5, u6, u7, u8], []) (156, fjl L, e105) Q
  obtain ⟨⟨g0, g1, g2⟩, h⟩ := fgd h
  refine Wp.run 8 (P := [0 ≤ (fw ((fw (512 * l4)) + l2)) ∧ (fw ((fw (512 * l4)) + l2)) < 32768]) (f' := (d + 6, 293, 279, 0, 0, [some (fA 122), _, some (fI l2), some (fI l3), some (fI l4), _, _, _, _], [fI (e105 145 (fw ((fw (512 * l4)) + l2)).toNat)])) (h' := (156, fjl L, e105)) rfl ?_ ?_
  · rw [fw_id g0, fw_id g1]; exact g2
  rw [fw_id g0, fw_id g1]
  refine Wp.br rfl (fun (c : (e105 145 ((512 * l4) + l2).toNat) = 0) => ?_) (fun (c : ¬ ((e105 145 ((512 * l4) + l2).toNat) = 0)) => ?_)
  · replace h := fps c h
    obtain ⟨g0, h⟩ := fgd h
    refine Wp.run 2 (f' := (d + 6, 293, 63, 0, 0, [some (fA 122), _, some (fI l2), some (fI l3), some (fI (fw (l4 + 1))), _, _, _, _], [])) (h' := (156, fjl L, e105)) rfl trivial ?_
    rw [fw_id g0]
    exact hC _ _ _ _ _ _ _ _ (Option.some.inj h).symm
  · replace h := fng c h
    refine Wp.run 1 (f' := (d + 6, 293, 283, 0, 0, [some (fA 122), _, some (fI l2), some (fI l3), some (fI l4), _, _, _, _], [fI l3])) (h' := (156, fjl L, e105)) rfl trivial ?_
    refine Wp.br rfl (fun (c : l3 < 0) => ?_) (fun (c : ¬ (l3 < 0)) => ?_)
    · replace h := fps c h
      obtain ⟨g0, h⟩ := fgd h
      refine Wp.run 4 (f' := (d + 6, 293, 63, 0, 0, [some (fA 122), _, some (fI l2), some (fI l4), some (fI (fw (l4 + 1))), _, _, _, _], [])) (h' := (156, fjl L, e105)) rfl trivial ?_
      rw [fw_id g0]
      exact hC _ _ _ _ _ _ _ _ (Option.some.inj h).symm
    · replace h := fng c h
      refine Wp.run 1 (f' := (d + 6, 293, 288, 0, 0, [some (fA 122), _, some (fI l2), some (fI l3), some (fI l4), _, _, _, _], [fI l4])) (h' := (156, fjl L, e105)) rfl trivial ?_
      obtain ⟨y288, hy, h⟩ := fbd h
      refine Wp.call rfl (by decide) (s_X12_bits_ok (d := d + 5) hy ?_)
      show Wp (d + 6, 293, 291, 0, 0, [some (fA 122), _, some (fI l2), some (fI l3), some (fI l4), _, _, _, _], [fI y288]) (156, fjl L, e105) Q
      refine Wp.run 1 (f' := (d + 6, 293, 292, 0, 0, [some (fA 122), _, some (fI l2), some (fI l3), some (fI l4), _, _, _, _], [fI l3, fI y288])) (h' := (156, fjl L, e105)) rfl trivial ?_
      obtain ⟨y292, hy, h⟩ := fbd h
      refine Wp.call rfl (by decide) (s_X12_bits_ok (d := d + 5) hy ?_)
      show Wp (d + 6, 293, 295, 0, 0, [some (fA 122), _, some (fI l2), some (fI l3), some (fI l4), _, _, _, _], [fI y292, fI y288]) (156, fjl L, e105) Q
      refine Wp.br rfl (fun (c : y292 ≤ y288) => ?_) (fun (c : ¬ (y292 ≤ y288)) => ?_)
      · replace h := fps c h
        obtain ⟨g0, h⟩ := fgd h
        refine Wp.run 2 (f' := (d + 6, 293, 63, 0, 0, [some (fA 122), _, some (fI l2), some (fI l3), some (fI (fw (l4 + 1))), _, _, _, _], [])) (h' := (156, fjl L, e105)) rfl trivial ?_
        rw [fw_id g0]
        exact hC _ _ _ _ _ _ _ _ (Option.some.inj h).symm
      · replace h := fng c h
        obtain ⟨g0, h⟩ := fgd h
        refine Wp.run 4 (f' := (d + 6, 293, 63, 0, 0, [some (fA 122), _, some (fI l2), some (fI l4), some (fI (fw (l4 + 1))), _, _, _, _], [])) (h' := (156, fjl L, e105)) rfl trivial ?_
        rw [fw_id g0]
        exact hC _ _ _ _ _ _ _ _ (Option.some.inj h).symm
theorem s_X12_festival_j102_fr {M : fM} {l2 l3 l4 l5 : Int} {r : ((Int × Int × fM) ⊕ (Int × fM))} (h : s_X12_festival_j102 M l2 l3 l4 l5 = some r) : fSame s_X12_festival_mods M (Sum.elim (fun s => s.2.2) (fun e => e.2) r) := by
  unfold s_X12_festival_j102 at h
  obtain ⟨e105, hy, h⟩ := fbd h
  have k105 := fs_trans (l := s_X12_festival_mods) fs_refl (s_X12_festival_l105_fr hy)
  replace h := (fgd h).2
  by_cases c : (e105 145 ((512 * l4) + l2).toNat) = 0
  · replace h := fps c h
    replace h := (fgd h).2
    obtain rfl := Option.some.inj h
    exact k105
  · replace h := fng c h
    by_cases c : l3 < 0
    · replace h := fps c h
      replace h := (fgd h).2
      obtain rfl := Option.some.inj h
      exact k105
    · replace h := fng c h
      obtain ⟨y288, hy, h⟩ := fbd h
      obtain ⟨y292, hy, h⟩ := fbd h
      by_cases c : y292 ≤ y288
      · replace h := fps c h
        replace h := (fgd h).2
        obtain rfl := Option.some.inj h
        exact k105
      · replace h := fng c h
        replace h := (fgd h).2
        obtain rfl := Option.some.inj h
        exact k105
noncomputable def s_X12_festival_b63 (M : fM) (l2 l3 l4 : Int) : Option ((Int × Int × fM) ⊕ (Int × fM)) :=
  if (fshl 1 (M 124 173)) ≤ l4 then
    some (.inr (l3, M))
  else
    (s_X12_festival_l81 M l2 l3 l4 0).bind fun e81 =>
      s_X12_festival_j102 M l2 l3 l4 e81
theorem s_X12_festival_b63_ok {d L : Nat} {M : fM} {l2 l3 l4 : Int} {o1 o5 o6 o7 o8 : Option fV} {r : ((Int × Int × fM) ⊕ (Int × fM))} {Q : fO → fH → Prop} (h : s_X12_festival_b63 M l2 l3 l4 = some r) (hC : ∀ (l3' l4' : Int) (M' : fM) (o1' o5' o6' o7' o8' : Option fV), r = .inl (l3', l4', M') → Wp (d + 6, 293, 63, 0, 0, [some (fA 122), o1', some (fI l2), some (fI l3'), some (fI l4'), o5', o6', o7', o8'], []) (156, fjl L, M') Q) (hE : ∀ (e : (Int × fM)) (o0' o1' o2' o4' o5' o6' o7' o8' : Option fV), r = .inr e → Wp (d + 6, 293, 307, 0, 0, [o0', o1', o2', some (fI e.1), o4', o5', o6', o7', o8'], []) (156, fjl L, e.2) Q) : Wp (d + 6, 293, 63, 0, 0, [some (fA 122), o1, some (fI l2), some (fI l3), some (fI l4), o5, o6, o7, o8], []) (156, fjl L, M) Q := by
  unfold s_X12_festival_b63 at h
  refine Wp.run 7 (P := [(0 : Int) ≤ 173 ∧ (173 : Int) < 1290]) (f' := (d + 6, 293, 75, 0, 0, [some (fA 122), _, some (fI l2), some (fI l3), some (fI l4), _, _, _, _], [fI (fshl 1 (M 124 173)), fI l4])) (h' := (156, fjl L, M)) rfl ?_ ?_
  · exact (by decide : (0 : Int) ≤ 173 ∧ (173 : Int) < 1290)
  refine Wp.br rfl (fun (c : (fshl 1 (M 124 173)) ≤ l4) => ?_) (fun (c : ¬ ((fshl 1 (M 124 173)) ≤ l4)) => ?_)
  · replace h := fps c h
    exact hE _ _ _ _ _ _ _ _ _ (Option.some.inj h).symm
  · replace h := fng c h
    refine Wp.run 2 (f' := (d + 6, 293, 81, 0, 0, [some (fA 122), _, some (fI l2), some (fI l3), some (fI l4), some (fI 0), _, _, _], [])) (h' := (156, fjl L, M)) rfl trivial ?_
    obtain ⟨e81, hy, h⟩ := fbd h
    refine s_X12_festival_l81_ok hy (fun x u1 u6 u7 u8 ex => ?_)
    cases ex
    show Wp (d + 6, 293, 102, 0, 0, [some (fA 122), u1, some (fI l2), some (fI l3), some (fI l4), some (fI e81), u6, u7, u8], []) (156, fjl L, M) Q
    exact s_X12_festival_j102_ok h hC hE
theorem s_X12_festival_b63_fr {M : fM} {l2 l3 l4 : Int} {r : ((Int × Int × fM) ⊕ (Int × fM))} (h : s_X12_festival_b63 M l2 l3 l4 = some r) : fSame s_X12_festival_mods M (Sum.elim (fun s => s.2.2) (fun e => e.2) r) := by
  unfold s_X12_festival_b63 at h
  by_cases c : (fshl 1 (M 124 173)) ≤ l4
  · replace h := fps c h
    obtain rfl := Option.some.inj h
    exact fs_refl
  · replace h := fng c h
    obtain ⟨e81, hy, h⟩ := fbd h
    exact fs_trans fs_refl (s_X12_festival_j102_fr h)
noncomputable def s_X12_festival_l63 (l2 : Int) (s : (Int × Int × fM)) : Option (Int × fM) := fLp (fun s => s_X12_festival_b63 s.2.2 l2 s.1 s.2.1) s
theorem s_X12_festival_l63_ok {d L : Nat} {M : fM} {l2 l3 l4 : Int} {o1 o5 o6 o7 o8 : Option fV} {r : (Int × fM)} {Q : fO → fH → Prop} (h : s_X12_festival_l63 l2 (l3, l4, M) = some r) (hE : ∀ (e : (Int × fM)) (o0' o1' o2' o4' o5' o6' o7' o8' : Option fV), r = e → Wp (d + 6, 293, 307, 0, 0, [o0', o1', o2', some (fI e.1), o4', o5', o6', o7', o8'], []) (156, fjl L, e.2) Q) : Wp (d + 6, 293, 63, 0, 0, [some (fA 122), o1, some (fI l2), some (fI l3), some (fI l4), o5, o6, o7, o8], []) (156, fjl L, M) Q := by
  refine fLp_wp (W := fun s => ∀ (o1 o5 o6 o7 o8 : Option fV), Wp (d + 6, 293, 63, 0, 0, [some (fA 122), o1, some (fI l2), some (fI s.1), some (fI s.2.1), o5, o6, o7, o8], []) (156, fjl L, s.2.2) Q) (e := r) ?_ h _ _ _ _ _
  intro s r1 h hC hX o1 o5 o6 o7 o8
  refine s_X12_festival_b63_ok (d := d) h (fun a0 a1 a2 _ _ _ _ _ e1 => ?_) (fun e u0 u1 u2 u3 u4 u5 u6 u7 e1 => hE e u0 u1 u2 u3 u4 u5 u6 u7 (hX _ e1).symm)
  exact hC _ e1 _ _ _ _ _
theorem s_X12_festival_l63_fr {M : fM} {l2 l3 l4 : Int} {r : (Int × fM)} (h : s_X12_festival_l63 l2 (l3, l4, M) = some r) : fSame s_X12_festival_mods M ((fun e => e.2) r) := by
  refine fLp_inv (I := fun s => fSame s_X12_festival_mods M s.2.2) (J := fun r => fSame s_X12_festival_mods M ((fun e => e.2) r)) h fs_refl (fun s s1 hs hb => ?_) (fun s e hs hb => ?_)
  · exact fs_trans hs (s_X12_festival_b63_fr hb)
  · exact fs_trans hs (s_X12_festival_b63_fr hb)
noncomputable def s_X12_festival (M : fM) (l1 : Int) : Option (Int × fM) :=
  (s_X12_taken (fup M 122 0 0) 1240).bind fun y9 =>
    (s_X12_tells y9.2 l1 0).bind fun y15 =>
      if ¬ y15.1 = 0 then
        if fin ((fshl 1 (y15.2 122 39)) - 1) then
          (s_X12_festival_l35 ((fshl 1 (y15.2 122 39)) - 1) (0, y15.2)).bind fun e35 =>
            (s_X12_festival_l63 ((fshl 1 (y15.2 122 39)) - 1) ((-1), 0, e35)).bind fun e63 =>
              some (e63.1, e63.2)
        else none
      else
        some ((-2), y15.2)
theorem s_X12_festival_ok {d L : Nat} {M : fM} {l1 : Int} {r : (Int × fM)} {Q : fO → fH → Prop} (h : s_X12_festival M l1 = some r) (H : Q (oI r.1) (156, fjl L, r.2)) : Wp (d + 6, 293, 0, 0, 0, [some (fA 122), some (fI l1), none, none, none, none, none, none, none], []) (156, fjl L, M) Q := by
  unfold s_X12_festival at h
  refine Wp.run 5 (f' := (d + 6, 293, 9, 0, 0, [some (fA 122), some (fI l1), _, _, _, _, _, _, _], [fI 1240, fA 122])) (h' := (156, fjl L, (fup M 122 0 0))) rfl trivial ?_
  obtain ⟨y9, hy, h⟩ := fbd h
  refine Wp.call rfl (by decide) (s_X12_taken_ok (d := d + 5) hy ?_)
  show Wp (d + 6, 293, 12, 0, 0, [some (fA 122), some (fI l1), _, _, _, _, _, _, _], []) (156, fjl L, y9.2) Q
  refine Wp.run 3 (f' := (d + 6, 293, 15, 0, 0, [some (fA 122), _, _, _, _, _, _, _, _], [fI 0, fI l1, fA 122])) (h' := (156, fjl L, y9.2)) rfl trivial ?_
  obtain ⟨y15, hy, h⟩ := fbd h
  refine Wp.call rfl (by decide) (s_X12_tells_ok (d := d + 0) hy ?_)
  show Wp (d + 6, 293, 18, 0, 0, [some (fA 122), _, _, _, _, _, _, _, _], [fI y15.1]) (156, fjl L, y15.2) Q
  refine Wp.br rfl (fun (c : ¬ y15.1 = 0) => ?_) (fun (c : ¬ (¬ y15.1 = 0)) => ?_)
  · replace h := fps c h
    obtain ⟨g0, h⟩ := fgd h
    refine Wp.run 9 (f' := (d + 6, 293, 35, 0, 0, [some (fA 122), _, some (fI (fw ((fshl 1 (y15.2 122 39)) - 1))), some (fI 0), _, _, _, _, _], [])) (h' := (156, fjl L, y15.2)) rfl trivial ?_
    rw [fw_id g0]
    obtain ⟨e35, hy, h⟩ := fbd h
    refine s_X12_festival_l35_ok hy (fun x u1 u3 u4 u5 u6 u7 u8 ex => ?_)
    cases ex
    show Wp (d + 6, 293, 58, 0, 0, [some (fA 122), u1, some (fI ((fshl 1 (y15.2 122 39)) - 1)), u3, u4, u5, u6, u7, u8], []) (156, fjl L, e35) Q
    refine Wp.run 4 (f' := (d + 6, 293, 63, 0, 0, [some (fA 122), _, some (fI ((fshl 1 (y15.2 122 39)) - 1)), some (fI (-1)), some (fI 0), _, _, _, _], [])) (h' := (156, fjl L, e35)) rfl trivial ?_
    obtain ⟨e63, hy, h⟩ := fbd h
    refine s_X12_festival_l63_ok hy (fun x u0 u1 u2 u4 u5 u6 u7 u8 ex => ?_)
    cases ex
    show Wp (d + 6, 293, 307, 0, 0, [u0, u1, u2, some (fI e63.1), u4, u5, u6, u7, u8], []) (156, fjl L, e63.2) Q
    refine Wp.run 1 (f' := (d + 6, 293, 308, 0, 0, [_, _, _, _, _, _, _, _, _], [fI e63.1])) (h' := (156, fjl L, e63.2)) rfl trivial ?_
    obtain rfl := Option.some.inj h
    exact Wp.done rfl (by decide) H
  · replace h := fng c h
    refine Wp.run 1 (f' := (d + 6, 293, 23, 0, 0, [_, _, _, _, _, _, _, _, _], [fI (-2)])) (h' := (156, fjl L, y15.2)) rfl trivial ?_
    obtain rfl := Option.some.inj h
    exact Wp.done rfl (by decide) H
theorem s_X12_festival_fr {M : fM} {l1 : Int} {r : (Int × fM)} (h : s_X12_festival M l1 = some r) : fSame s_X12_festival_mods M r.2 := by
  unfold s_X12_festival at h
  obtain ⟨y9, hy, h⟩ := fbd h
  have k9 := fs_trans (l := s_X12_festival_mods) (fs_up fs_refl (.inr (by decide))) (fs_mono (l := s_X12_taken_mods) (by decide) (s_X12_taken_fr hy))
  obtain ⟨y15, hy, h⟩ := fbd h
  have k15 := fs_trans (l := s_X12_festival_mods) k9 (fs_mono (l := s_X12_tells_mods) (by decide) (s_X12_tells_fr hy))
  by_cases c : ¬ y15.1 = 0
  · replace h := fps c h
    replace h := (fgd h).2
    obtain ⟨e35, hy, h⟩ := fbd h
    have k35 := fs_trans (l := s_X12_festival_mods) k15 (s_X12_festival_l35_fr hy)
    obtain ⟨e63, hy, h⟩ := fbd h
    have k63 := fs_trans (l := s_X12_festival_mods) k35 (s_X12_festival_l63_fr hy)
    obtain rfl := Option.some.inj h
    exact k63
  · replace h := fng c h
    obtain rfl := Option.some.inj h
    exact k15
noncomputable def s_X8_tunedOn (M : fM) : Option Int :=
  some (M 43 6)
theorem s_X8_tunedOn_ok {d L : Nat} {M : fM} {r : Int} {Q : fO → fH → Prop} (h : s_X8_tunedOn M = some r) (H : Q (oI r) (156, fjl L, M)) : Wp (d + 0, 113, 0, 0, 0, [some (fA 43)], []) (156, fjl L, M) Q := by
  unfold s_X8_tunedOn at h
  refine Wp.run 2 (f' := (d + 0, 113, 4, 0, 0, [_], [fI (M 43 6)])) (h' := (156, fjl L, M)) rfl trivial ?_
  obtain rfl := Option.some.inj h
  exact Wp.done rfl (by decide) H
abbrev s_X0_isReady_mods : List (Nat × Option Nat) := [(43, some 5), (43, some 6), (44, none), (45, none), (46, none)]
noncomputable def s_X0_isReady (M : fM) (l1 l2 : Int) : Option (Int × fM) :=
  if (0 ≤ l1 ∧ l1 < 200) then
    (s_X8_look M (M 20 (l1).toNat) (M 21 (l1).toNat) l2).bind fun y25 =>
      (s_X8_wasTuned y25.2).bind fun y32 =>
        if y32 = 0 then
          some (0, y25.2)
        else
          (s_X8_tunedOn y25.2).bind fun y43 =>
            if fin ((M 21 (l1).toNat) - y43) then
              if 2 < ((M 21 (l1).toNat) - y43) then
                some (0, y25.2)
              else
                (s_X8_isBeyond y25.2 (M 21 (l1).toNat) 0).bind fun y57 =>
                  if ¬ y57 = 0 then
                    some (0, y25.2)
                  else
                    some (1, y25.2)
            else none
  else none
theorem s_X0_isReady_ok {d L : Nat} {M : fM} {l1 l2 : Int} {r : (Int × fM)} {Q : fO → fH → Prop} (h : s_X0_isReady M l1 l2 = some r) (H : Q (oI r.1) (156, fjl L, r.2)) : Wp (d + 4, 2, 0, 0, 0, [some (fA 53), some (fI l1), some (fI l2), none], []) (156, fjl L, M) Q := by
  unfold s_X0_isReady at h
  obtain ⟨g0, h⟩ := fgd h
  refine Wp.run 15 (P := [0 ≤ l1 ∧ l1 < 200, 0 ≤ l1 ∧ l1 < 200]) (f' := (d + 4, 2, 25, 0, 0, [some (fA 53), _, _, some (fI (M 21 (l1).toNat))], [fI l2, fI (M 21 (l1).toNat), fI (M 20 (l1).toNat), fA 43])) (h' := (156, fjl L, M)) rfl ?_ ?_
  · exact ⟨g0, g0⟩
  obtain ⟨y25, hy, h⟩ := fbd h
  refine Wp.call rfl (by decide) (s_X8_look_ok (d := d + 1) hy ?_)
  show Wp (d + 4, 2, 28, 0, 0, [some (fA 53), _, _, some (fI (M 21 (l1).toNat))], []) (156, fjl L, y25.2) Q
  refine Wp.run 2 (f' := (d + 4, 2, 32, 0, 0, [some (fA 53), _, _, some (fI (M 21 (l1).toNat))], [fA 43])) (h' := (156, fjl L, y25.2)) rfl trivial ?_
  obtain ⟨y32, hy, h⟩ := fbd h
  refine Wp.call rfl (by decide) (s_X8_wasTuned_ok (d := d + 3) hy ?_)
  show Wp (d + 4, 2, 35, 0, 0, [some (fA 53), _, _, some (fI (M 21 (l1).toNat))], [fI y32]) (156, fjl L, y25.2) Q
  refine Wp.br rfl (fun (c : y32 = 0) => ?_) (fun (c : ¬ (y32 = 0)) => ?_)
  · replace h := fps c h
    refine Wp.run 1 (f' := (d + 4, 2, 68, 0, 0, [_, _, _, _], [fI 0])) (h' := (156, fjl L, y25.2)) rfl trivial ?_
    obtain rfl := Option.some.inj h
    exact Wp.done rfl (by decide) H
  · replace h := fng c h
    refine Wp.run 3 (f' := (d + 4, 2, 43, 0, 0, [some (fA 53), _, _, some (fI (M 21 (l1).toNat))], [fA 43, fI (M 21 (l1).toNat)])) (h' := (156, fjl L, y25.2)) rfl trivial ?_
    obtain ⟨y43, hy, h⟩ := fbd h
    refine Wp.call rfl (by decide) (s_X8_tunedOn_ok (d := d + 3) hy ?_)
    show Wp (d + 4, 2, 46, 0, 0, [some (fA 53), _, _, some (fI (M 21 (l1).toNat))], [fI y43, fI (M 21 (l1).toNat)]) (156, fjl L, y25.2) Q
    obtain ⟨g0, h⟩ := fgd h
    refine Wp.run 2 (f' := (d + 4, 2, 48, 0, 0, [some (fA 53), _, _, some (fI (M 21 (l1).toNat))], [fI 2, fI (fw ((M 21 (l1).toNat) - y43))])) (h' := (156, fjl L, y25.2)) rfl trivial ?_
    rw [fw_id g0]
    refine Wp.br rfl (fun (c : 2 < ((M 21 (l1).toNat) - y43)) => ?_) (fun (c : ¬ (2 < ((M 21 (l1).toNat) - y43))) => ?_)
    · replace h := fps c h
      refine Wp.run 1 (f' := (d + 4, 2, 68, 0, 0, [_, _, _, _], [fI 0])) (h' := (156, fjl L, y25.2)) rfl trivial ?_
      obtain rfl := Option.some.inj h
      exact Wp.done rfl (by decide) H
    · replace h := fng c h
      refine Wp.run 4 (f' := (d + 4, 2, 57, 0, 0, [_, _, _, _], [fI 0, fI (M 21 (l1).toNat), fA 43])) (h' := (156, fjl L, y25.2)) rfl trivial ?_
      obtain ⟨y57, hy, h⟩ := fbd h
      refine Wp.call rfl (by decide) (s_X8_isBeyond_ok (d := d + 0) hy ?_)
      show Wp (d + 4, 2, 60, 0, 0, [_, _, _, _], [fI y57]) (156, fjl L, y25.2) Q
      refine Wp.br rfl (fun (c : ¬ y57 = 0) => ?_) (fun (c : ¬ (¬ y57 = 0)) => ?_)
      · replace h := fps c h
        refine Wp.run 1 (f' := (d + 4, 2, 68, 0, 0, [_, _, _, _], [fI 0])) (h' := (156, fjl L, y25.2)) rfl trivial ?_
        obtain rfl := Option.some.inj h
        exact Wp.done rfl (by decide) H
      · replace h := fng c h
        refine Wp.run 2 (f' := (d + 4, 2, 68, 0, 0, [_, _, _, _], [fI 1])) (h' := (156, fjl L, y25.2)) rfl trivial ?_
        obtain rfl := Option.some.inj h
        exact Wp.done rfl (by decide) H
theorem s_X0_isReady_fr {M : fM} {l1 l2 : Int} {r : (Int × fM)} (h : s_X0_isReady M l1 l2 = some r) : fSame s_X0_isReady_mods M r.2 := by
  unfold s_X0_isReady at h
  replace h := (fgd h).2
  obtain ⟨y25, hy, h⟩ := fbd h
  have k25 := fs_trans (l := s_X0_isReady_mods) fs_refl (fs_mono (l := s_X8_look_mods) (by decide) (s_X8_look_fr hy))
  obtain ⟨y32, hy, h⟩ := fbd h
  by_cases c : y32 = 0
  · replace h := fps c h
    obtain rfl := Option.some.inj h
    exact k25
  · replace h := fng c h
    obtain ⟨y43, hy, h⟩ := fbd h
    replace h := (fgd h).2
    by_cases c : 2 < ((M 21 (l1).toNat) - y43)
    · replace h := fps c h
      obtain rfl := Option.some.inj h
      exact k25
    · replace h := fng c h
      obtain ⟨y57, hy, h⟩ := fbd h
      by_cases c : ¬ y57 = 0
      · replace h := fps c h
        obtain rfl := Option.some.inj h
        exact k25
      · replace h := fng c h
        obtain rfl := Option.some.inj h
        exact k25
abbrev s_X0_unreadyConcerts_mods : List (Nat × Option Nat) := [(43, some 5), (43, some 6), (44, none), (45, none), (46, none)]
noncomputable def s_X0_unreadyConcerts_b5 (M : fM) (l1 l2 l3 l4 : Int) : Option ((Int × Int × fM) ⊕ (Int × fM)) :=
  if (M 18 8) ≤ l4 then
    some (.inr (l3, M))
  else
    (s_X6_isOf_18 M l4 5 l1 l2).bind fun y26 =>
      if y26 = 0 then
        if fin (l4 + 1) then
          some (.inl (l3, (l4 + 1), M))
        else none
      else
        (s_X0_isReady M l4 l2).bind fun y36 =>
          if ¬ y36.1 = 0 then
            if fin (l4 + 1) then
              some (.inl (l3, (l4 + 1), y36.2))
            else none
          else
            if fin (l3 + 1) ∧ fin (l4 + 1) then
              some (.inl ((l3 + 1), (l4 + 1), y36.2))
            else none
theorem s_X0_unreadyConcerts_b5_ok {d L : Nat} {M : fM} {l1 l2 l3 l4 : Int} {r : ((Int × Int × fM) ⊕ (Int × fM))} {Q : fO → fH → Prop} (h : s_X0_unreadyConcerts_b5 M l1 l2 l3 l4 = some r) (hC : ∀ (l3' l4' : Int) (M' : fM), r = .inl (l3', l4', M') → Wp (d + 5, 1, 5, 0, 0, [some (fA 53), some (fI l1), some (fI l2), some (fI l3'), some (fI l4')], []) (156, fjl L, M') Q) (hE : ∀ (e : (Int × fM)) (o0' o1' o2' o4' : Option fV), r = .inr e → Wp (d + 5, 1, 51, 0, 0, [o0', o1', o2', some (fI e.1), o4'], []) (156, fjl L, e.2) Q) : Wp (d + 5, 1, 5, 0, 0, [some (fA 53), some (fI l1), some (fI l2), some (fI l3), some (fI l4)], []) (156, fjl L, M) Q := by
  unfold s_X0_unreadyConcerts_b5 at h
  refine Wp.run 4 (f' := (d + 5, 1, 14, 0, 0, [some (fA 53), some (fI l1), some (fI l2), some (fI l3), some (fI l4)], [fI (M 18 8), fI l4])) (h' := (156, fjl L, M)) rfl trivial ?_
  refine Wp.br rfl (fun (c : (M 18 8) ≤ l4) => ?_) (fun (c : ¬ ((M 18 8) ≤ l4)) => ?_)
  · replace h := fps c h
    exact hE _ _ _ _ _ (Option.some.inj h).symm
  · replace h := fng c h
    refine Wp.run 6 (f' := (d + 5, 1, 26, 0, 0, [some (fA 53), some (fI l1), some (fI l2), some (fI l3), some (fI l4)], [fI l2, fI l1, fI 5, fI l4, fA 18])) (h' := (156, fjl L, M)) rfl trivial ?_
    obtain ⟨y26, hy, h⟩ := fbd h
    refine Wp.call rfl (by decide) (s_X6_isOf_18_ok (d := d + 4) hy ?_)
    show Wp (d + 5, 1, 29, 0, 0, [some (fA 53), some (fI l1), some (fI l2), some (fI l3), some (fI l4)], [fI y26]) (156, fjl L, M) Q
    refine Wp.br rfl (fun (c : y26 = 0) => ?_) (fun (c : ¬ (y26 = 0)) => ?_)
    · replace h := fps c h
      obtain ⟨g0, h⟩ := fgd h
      refine Wp.run 2 (f' := (d + 5, 1, 5, 0, 0, [some (fA 53), some (fI l1), some (fI l2), some (fI l3), some (fI (fw (l4 + 1)))], [])) (h' := (156, fjl L, M)) rfl trivial ?_
      rw [fw_id g0]
      exact hC _ _ _ (Option.some.inj h).symm
    · replace h := fng c h
      refine Wp.run 3 (f' := (d + 5, 1, 36, 0, 0, [some (fA 53), some (fI l1), some (fI l2), some (fI l3), some (fI l4)], [fI l2, fI l4, fA 53])) (h' := (156, fjl L, M)) rfl trivial ?_
      obtain ⟨y36, hy, h⟩ := fbd h
      refine Wp.call rfl (by decide) (s_X0_isReady_ok (d := d + 0) hy ?_)
      show Wp (d + 5, 1, 39, 0, 0, [some (fA 53), some (fI l1), some (fI l2), some (fI l3), some (fI l4)], [fI y36.1]) (156, fjl L, y36.2) Q
      refine Wp.br rfl (fun (c : ¬ y36.1 = 0) => ?_) (fun (c : ¬ (¬ y36.1 = 0)) => ?_)
      · replace h := fps c h
        obtain ⟨g0, h⟩ := fgd h
        refine Wp.run 2 (f' := (d + 5, 1, 5, 0, 0, [some (fA 53), some (fI l1), some (fI l2), some (fI l3), some (fI (fw (l4 + 1)))], [])) (h' := (156, fjl L, y36.2)) rfl trivial ?_
        rw [fw_id g0]
        exact hC _ _ _ (Option.some.inj h).symm
      · replace h := fng c h
        obtain ⟨⟨g0, g1⟩, h⟩ := fgd h
        refine Wp.run 3 (f' := (d + 5, 1, 5, 0, 0, [some (fA 53), some (fI l1), some (fI l2), some (fI (fw (l3 + 1))), some (fI (fw (l4 + 1)))], [])) (h' := (156, fjl L, y36.2)) rfl trivial ?_
        rw [fw_id g0, fw_id g1]
        exact hC _ _ _ (Option.some.inj h).symm
theorem s_X0_unreadyConcerts_b5_fr {M : fM} {l1 l2 l3 l4 : Int} {r : ((Int × Int × fM) ⊕ (Int × fM))} (h : s_X0_unreadyConcerts_b5 M l1 l2 l3 l4 = some r) : fSame s_X0_unreadyConcerts_mods M (Sum.elim (fun s => s.2.2) (fun e => e.2) r) := by
  unfold s_X0_unreadyConcerts_b5 at h
  by_cases c : (M 18 8) ≤ l4
  · replace h := fps c h
    obtain rfl := Option.some.inj h
    exact fs_refl
  · replace h := fng c h
    obtain ⟨y26, hy, h⟩ := fbd h
    by_cases c : y26 = 0
    · replace h := fps c h
      replace h := (fgd h).2
      obtain rfl := Option.some.inj h
      exact fs_refl
    · replace h := fng c h
      obtain ⟨y36, hy, h⟩ := fbd h
      have k36 := fs_trans (l := s_X0_unreadyConcerts_mods) fs_refl (fs_mono (l := s_X0_isReady_mods) (by decide) (s_X0_isReady_fr hy))
      by_cases c : ¬ y36.1 = 0
      · replace h := fps c h
        replace h := (fgd h).2
        obtain rfl := Option.some.inj h
        exact k36
      · replace h := fng c h
        replace h := (fgd h).2
        obtain rfl := Option.some.inj h
        exact k36
noncomputable def s_X0_unreadyConcerts_l5 (l1 l2 : Int) (s : (Int × Int × fM)) : Option (Int × fM) := fLp (fun s => s_X0_unreadyConcerts_b5 s.2.2 l1 l2 s.1 s.2.1) s
theorem s_X0_unreadyConcerts_l5_ok {d L : Nat} {M : fM} {l1 l2 l3 l4 : Int} {r : (Int × fM)} {Q : fO → fH → Prop} (h : s_X0_unreadyConcerts_l5 l1 l2 (l3, l4, M) = some r) (hE : ∀ (e : (Int × fM)) (o0' o1' o2' o4' : Option fV), r = e → Wp (d + 5, 1, 51, 0, 0, [o0', o1', o2', some (fI e.1), o4'], []) (156, fjl L, e.2) Q) : Wp (d + 5, 1, 5, 0, 0, [some (fA 53), some (fI l1), some (fI l2), some (fI l3), some (fI l4)], []) (156, fjl L, M) Q := by
  refine fLp_wp (W := fun s => Wp (d + 5, 1, 5, 0, 0, [some (fA 53), some (fI l1), some (fI l2), some (fI s.1), some (fI s.2.1)], []) (156, fjl L, s.2.2) Q) (e := r) ?_ h
  intro s r1 h hC hX
  refine s_X0_unreadyConcerts_b5_ok (d := d) h (fun a0 a1 a2 e1 => ?_) (fun e u0 u1 u2 u3 e1 => hE e u0 u1 u2 u3 (hX _ e1).symm)
  exact hC _ e1
theorem s_X0_unreadyConcerts_l5_fr {M : fM} {l1 l2 l3 l4 : Int} {r : (Int × fM)} (h : s_X0_unreadyConcerts_l5 l1 l2 (l3, l4, M) = some r) : fSame s_X0_unreadyConcerts_mods M ((fun e => e.2) r) := by
  refine fLp_inv (I := fun s => fSame s_X0_unreadyConcerts_mods M s.2.2) (J := fun r => fSame s_X0_unreadyConcerts_mods M ((fun e => e.2) r)) h fs_refl (fun s s1 hs hb => ?_) (fun s e hs hb => ?_)
  · exact fs_trans hs (s_X0_unreadyConcerts_b5_fr hb)
  · exact fs_trans hs (s_X0_unreadyConcerts_b5_fr hb)
noncomputable def s_X0_unreadyConcerts (M : fM) (l1 l2 : Int) : Option (Int × fM) :=
  (s_X0_unreadyConcerts_l5 l1 l2 (0, 0, M)).bind fun e5 =>
    some (e5.1, e5.2)
theorem s_X0_unreadyConcerts_ok {d L : Nat} {M : fM} {l1 l2 : Int} {r : (Int × fM)} {Q : fO → fH → Prop} (h : s_X0_unreadyConcerts M l1 l2 = some r) (H : Q (oI r.1) (156, fjl L, r.2)) : Wp (d + 5, 1, 0, 0, 0, [some (fA 53), some (fI l1), some (fI l2), none, none], []) (156, fjl L, M) Q := by
  unfold s_X0_unreadyConcerts at h
  refine Wp.run 4 (f' := (d + 5, 1, 5, 0, 0, [some (fA 53), some (fI l1), some (fI l2), some (fI 0), some (fI 0)], [])) (h' := (156, fjl L, M)) rfl trivial ?_
  obtain ⟨e5, hy, h⟩ := fbd h
  refine s_X0_unreadyConcerts_l5_ok hy (fun x u0 u1 u2 u4 ex => ?_)
  cases ex
  show Wp (d + 5, 1, 51, 0, 0, [u0, u1, u2, some (fI e5.1), u4], []) (156, fjl L, e5.2) Q
  refine Wp.run 1 (f' := (d + 5, 1, 52, 0, 0, [_, _, _, _, _], [fI e5.1])) (h' := (156, fjl L, e5.2)) rfl trivial ?_
  obtain rfl := Option.some.inj h
  exact Wp.done rfl (by decide) H
theorem s_X0_unreadyConcerts_fr {M : fM} {l1 l2 : Int} {r : (Int × fM)} (h : s_X0_unreadyConcerts M l1 l2 = some r) : fSame s_X0_unreadyConcerts_mods M r.2 := by
  unfold s_X0_unreadyConcerts at h
  obtain ⟨e5, hy, h⟩ := fbd h
  have k5 := fs_trans (l := s_X0_unreadyConcerts_mods) fs_refl (s_X0_unreadyConcerts_l5_fr hy)
  obtain rfl := Option.some.inj h
  exact k5
abbrev s_X11_unready_mods : List (Nat × Option Nat) := [(43, some 5), (43, some 6), (44, none), (45, none), (46, none)]
noncomputable def s_X11_unready (M : fM) (l1 l2 : Int) : Option (Int × fM) :=
  (s_X2_isHall_4 M l1).bind fun y5 =>
    if y5 = 0 then
      some ((-1), M)
    else
      (s_X11_isKnowing M l2).bind fun y12 =>
        if ¬ y12 = 0 then
          (s_X0_unreadyConcerts M l1 l2).bind fun y26 =>
            some (y26.1, y26.2)
        else
          some ((-1), M)
theorem s_X11_unready_ok {d L : Nat} {M : fM} {l1 l2 : Int} {r : (Int × fM)} {Q : fO → fH → Prop} (h : s_X11_unready M l1 l2 = some r) (H : Q (oI r.1) (156, fjl L, r.2)) : Wp (d + 6, 176, 0, 0, 0, [some (fA 0), some (fI l1), some (fI l2)], []) (156, fjl L, M) Q := by
  unfold s_X11_unready at h
  refine Wp.run 3 (f' := (d + 6, 176, 5, 0, 0, [some (fA 0), some (fI l1), some (fI l2)], [fI l1, fA 4])) (h' := (156, fjl L, M)) rfl trivial ?_
  obtain ⟨y5, hy, h⟩ := fbd h
  refine Wp.call rfl (by decide) (s_X2_isHall_4_ok (d := d + 4) hy ?_)
  show Wp (d + 6, 176, 8, 0, 0, [some (fA 0), some (fI l1), some (fI l2)], [fI y5]) (156, fjl L, M) Q
  refine Wp.br rfl (fun (c : y5 = 0) => ?_) (fun (c : ¬ (y5 = 0)) => ?_)
  · replace h := fps c h
    refine Wp.run 1 (f' := (d + 6, 176, 19, 0, 0, [_, _, _], [fI (-1)])) (h' := (156, fjl L, M)) rfl trivial ?_
    obtain rfl := Option.some.inj h
    exact Wp.done rfl (by decide) H
  · replace h := fng c h
    refine Wp.run 1 (f' := (d + 6, 176, 12, 0, 0, [some (fA 0), some (fI l1), some (fI l2)], [fI l2])) (h' := (156, fjl L, M)) rfl trivial ?_
    obtain ⟨y12, hy, h⟩ := fbd h
    refine Wp.call rfl (by decide) (s_X11_isKnowing_ok (d := d + 4) hy ?_)
    show Wp (d + 6, 176, 15, 0, 0, [some (fA 0), some (fI l1), some (fI l2)], [fI y12]) (156, fjl L, M) Q
    refine Wp.br rfl (fun (c : ¬ y12 = 0) => ?_) (fun (c : ¬ (¬ y12 = 0)) => ?_)
    · replace h := fps c h
      refine Wp.run 4 (f' := (d + 6, 176, 26, 0, 0, [_, _, _], [fI l2, fI l1, fA 53])) (h' := (156, fjl L, M)) rfl trivial ?_
      obtain ⟨y26, hy, h⟩ := fbd h
      refine Wp.call rfl (by decide) (s_X0_unreadyConcerts_ok (d := d + 0) hy ?_)
      show Wp (d + 6, 176, 29, 0, 0, [_, _, _], [fI y26.1]) (156, fjl L, y26.2) Q
      obtain rfl := Option.some.inj h
      exact Wp.done rfl (by decide) H
    · replace h := fng c h
      refine Wp.run 1 (f' := (d + 6, 176, 19, 0, 0, [_, _, _], [fI (-1)])) (h' := (156, fjl L, M)) rfl trivial ?_
      obtain rfl := Option.some.inj h
      exact Wp.done rfl (by decide) H
theorem s_X11_unready_fr {M : fM} {l1 l2 : Int} {r : (Int × fM)} (h : s_X11_unready M l1 l2 = some r) : fSame s_X11_unready_mods M r.2 := by
  unfold s_X11_unready at h
  obtain ⟨y5, hy, h⟩ := fbd h
  by_cases c : y5 = 0
  · replace h := fps c h
    obtain rfl := Option.some.inj h
    exact fs_refl
  · replace h := fng c h
    obtain ⟨y12, hy, h⟩ := fbd h
    by_cases c : ¬ y12 = 0
    · replace h := fps c h
      obtain ⟨y26, hy, h⟩ := fbd h
      have k26 := fs_trans (l := s_X11_unready_mods) fs_refl (fs_mono (l := s_X0_unreadyConcerts_mods) (by decide) (s_X0_unreadyConcerts_fr hy))
      obtain rfl := Option.some.inj h
      exact k26
    · replace h := fng c h
      obtain rfl := Option.some.inj h
      exact fs_refl
abbrev s_X12_unready_mods : List (Nat × Option Nat) := [(122, some 0), (122, some 24), (122, some 25), (122, some 26), (122, some 27), (122, some 28), (128, none), (129, none)]
noncomputable def s_X12_unready_b37 (M : fM) (l1 l2 l3 l4 : Int) : Option ((Int × Int × fM) ⊕ (Int × fM)) :=
  if (M 122 10) ≤ l4 then
    some (.inr (l3, M))
  else
    (s_X12_isOf M l4 5 l1 364 l2).bind fun y55 =>
      if ¬ y55 = 0 then
        if fin (19 * l4) ∧ fin ((19 * l4) + 2) ∧ (0 ≤ ((19 * l4) + 2) ∧ ((19 * l4) + 2) < 3800) ∧ fin ((M 125 ((19 * l4) + 2).toNat) - 2) then
          (s_X12_isTunedIn M l1 ((M 125 ((19 * l4) + 2).toNat) - 2) (M 125 ((19 * l4) + 2).toNat) l2).bind fun y88 =>
            if y88 = 0 then
              if fin (l3 + 1) ∧ fin (l4 + 1) then
                some (.inl ((l3 + 1), (l4 + 1), M))
              else none
            else
              (s_X12_isBeyond M l1 (M 125 ((19 * l4) + 2).toNat) l2).bind fun y99 =>
                if ¬ y99.1 = 0 then
                  if fin (l3 + 1) ∧ fin (l4 + 1) then
                    some (.inl ((l3 + 1), (l4 + 1), y99.2))
                  else none
                else
                  if fin (l3 + 0) ∧ fin (l4 + 1) then
                    some (.inl ((l3 + 0), (l4 + 1), y99.2))
                  else none
        else none
      else
        if fin (l4 + 1) then
          some (.inl (l3, (l4 + 1), M))
        else none
theorem s_X12_unready_b37_ok {d L : Nat} {M : fM} {l1 l2 l3 l4 : Int} {o5 : Option fV} {r : ((Int × Int × fM) ⊕ (Int × fM))} {Q : fO → fH → Prop} (h : s_X12_unready_b37 M l1 l2 l3 l4 = some r) (hC : ∀ (l3' l4' : Int) (M' : fM) (o5' : Option fV), r = .inl (l3', l4', M') → Wp (d + 4, 294, 37, 0, 0, [some (fA 122), some (fI l1), some (fI l2), some (fI l3'), some (fI l4'), o5'], []) (156, fjl L, M') Q) (hE : ∀ (e : (Int × fM)) (o0' o1' o2' o4' o5' : Option fV), r = .inr e → Wp (d + 4, 294, 118, 0, 0, [o0', o1', o2', some (fI e.1), o4', o5'], []) (156, fjl L, e.2) Q) : Wp (d + 4, 294, 37, 0, 0, [some (fA 122), some (fI l1), some (fI l2), some (fI l3), some (fI l4), o5], []) (156, fjl L, M) Q := by
  unfold s_X12_unready_b37 at h
  refine Wp.run 3 (f' := (d + 4, 294, 43, 0, 0, [some (fA 122), some (fI l1), some (fI l2), some (fI l3), some (fI l4), _], [fI (M 122 10), fI l4])) (h' := (156, fjl L, M)) rfl trivial ?_
  refine Wp.br rfl (fun (c : (M 122 10) ≤ l4) => ?_) (fun (c : ¬ ((M 122 10) ≤ l4)) => ?_)
  · replace h := fps c h
    exact hE _ _ _ _ _ _ (Option.some.inj h).symm
  · replace h := fng c h
    refine Wp.run 6 (f' := (d + 4, 294, 55, 0, 0, [some (fA 122), some (fI l1), some (fI l2), some (fI l3), some (fI l4), _], [fI l2, fI 364, fI l1, fI 5, fI l4, fA 122])) (h' := (156, fjl L, M)) rfl trivial ?_
    obtain ⟨y55, hy, h⟩ := fbd h
    refine Wp.call rfl (by decide) (s_X12_isOf_ok (d := d + 3) hy ?_)
    show Wp (d + 4, 294, 58, 0, 0, [some (fA 122), some (fI l1), some (fI l2), some (fI l3), some (fI l4), _], [fI y55]) (156, fjl L, M) Q
    refine Wp.br rfl (fun (c : ¬ y55 = 0) => ?_) (fun (c : ¬ (¬ y55 = 0)) => ?_)
    · replace h := fps c h
      obtain ⟨⟨g0, g1, g2, g3⟩, h⟩ := fgd h
      refine Wp.run 17 (P := [0 ≤ (fw ((fw (19 * l4)) + 2)) ∧ (fw ((fw (19 * l4)) + 2)) < 3800]) (f' := (d + 4, 294, 88, 0, 0, [some (fA 122), some (fI l1), some (fI l2), _, some (fI l4), some (fI (M 125 (fw ((fw (19 * l4)) + 2)).toNat))], [fI l2, fI (M 125 (fw ((fw (19 * l4)) + 2)).toNat), fI (fw ((M 125 (fw ((fw (19 * l4)) + 2)).toNat) - 2)), fI l1, fA 122, fI l3])) (h' := (156, fjl L, M)) rfl ?_ ?_
      · rw [fw_id g0, fw_id g1]; exact g2
      rw [fw_id g0, fw_id g1, fw_id g3]
      obtain ⟨y88, hy, h⟩ := fbd h
      refine Wp.call rfl (by decide) (s_X12_isTunedIn_ok (d := d + 2) hy ?_)
      show Wp (d + 4, 294, 91, 0, 0, [some (fA 122), some (fI l1), some (fI l2), _, some (fI l4), some (fI (M 125 ((19 * l4) + 2).toNat))], [fI y88, fI l3]) (156, fjl L, M) Q
      refine Wp.br rfl (fun (c : y88 = 0) => ?_) (fun (c : ¬ (y88 = 0)) => ?_)
      · replace h := fps c h
        obtain ⟨⟨g0, g1⟩, h⟩ := fgd h
        refine Wp.run 5 (f' := (d + 4, 294, 37, 0, 0, [some (fA 122), some (fI l1), some (fI l2), some (fI (fw (l3 + 1))), some (fI (fw (l4 + 1))), _], [])) (h' := (156, fjl L, M)) rfl trivial ?_
        rw [fw_id g0, fw_id g1]
        exact hC _ _ _ _ (Option.some.inj h).symm
      · replace h := fng c h
        refine Wp.run 4 (f' := (d + 4, 294, 99, 0, 0, [some (fA 122), some (fI l1), some (fI l2), _, some (fI l4), _], [fI l2, fI (M 125 ((19 * l4) + 2).toNat), fI l1, fA 122, fI l3])) (h' := (156, fjl L, M)) rfl trivial ?_
        obtain ⟨y99, hy, h⟩ := fbd h
        refine Wp.call rfl (by decide) (s_X12_isBeyond_ok (d := d + 0) hy ?_)
        show Wp (d + 4, 294, 102, 0, 0, [some (fA 122), some (fI l1), some (fI l2), _, some (fI l4), _], [fI y99.1, fI l3]) (156, fjl L, y99.2) Q
        refine Wp.br rfl (fun (c : ¬ y99.1 = 0) => ?_) (fun (c : ¬ (¬ y99.1 = 0)) => ?_)
        · replace h := fps c h
          obtain ⟨⟨g0, g1⟩, h⟩ := fgd h
          refine Wp.run 5 (f' := (d + 4, 294, 37, 0, 0, [some (fA 122), some (fI l1), some (fI l2), some (fI (fw (l3 + 1))), some (fI (fw (l4 + 1))), _], [])) (h' := (156, fjl L, y99.2)) rfl trivial ?_
          rw [fw_id g0, fw_id g1]
          exact hC _ _ _ _ (Option.some.inj h).symm
        · replace h := fng c h
          obtain ⟨⟨g0, g1⟩, h⟩ := fgd h
          refine Wp.run 6 (f' := (d + 4, 294, 37, 0, 0, [some (fA 122), some (fI l1), some (fI l2), some (fI (fw (l3 + 0))), some (fI (fw (l4 + 1))), _], [])) (h' := (156, fjl L, y99.2)) rfl trivial ?_
          rw [fw_id g0, fw_id g1]
          exact hC _ _ _ _ (Option.some.inj h).symm
    · replace h := fng c h
      obtain ⟨g0, h⟩ := fgd h
      refine Wp.run 3 (f' := (d + 4, 294, 37, 0, 0, [some (fA 122), some (fI l1), some (fI l2), some (fI l3), some (fI (fw (l4 + 1))), _], [])) (h' := (156, fjl L, M)) rfl trivial ?_
      rw [fw_id g0]
      exact hC _ _ _ _ (Option.some.inj h).symm
theorem s_X12_unready_b37_fr {M : fM} {l1 l2 l3 l4 : Int} {r : ((Int × Int × fM) ⊕ (Int × fM))} (h : s_X12_unready_b37 M l1 l2 l3 l4 = some r) : fSame s_X12_unready_mods M (Sum.elim (fun s => s.2.2) (fun e => e.2) r) := by
  unfold s_X12_unready_b37 at h
  by_cases c : (M 122 10) ≤ l4
  · replace h := fps c h
    obtain rfl := Option.some.inj h
    exact fs_refl
  · replace h := fng c h
    obtain ⟨y55, hy, h⟩ := fbd h
    by_cases c : ¬ y55 = 0
    · replace h := fps c h
      replace h := (fgd h).2
      obtain ⟨y88, hy, h⟩ := fbd h
      by_cases c : y88 = 0
      · replace h := fps c h
        replace h := (fgd h).2
        obtain rfl := Option.some.inj h
        exact fs_refl
      · replace h := fng c h
        obtain ⟨y99, hy, h⟩ := fbd h
        have k99 := fs_trans (l := s_X12_unready_mods) fs_refl (fs_mono (l := s_X12_isBeyond_mods) (by decide) (s_X12_isBeyond_fr hy))
        by_cases c : ¬ y99.1 = 0
        · replace h := fps c h
          replace h := (fgd h).2
          obtain rfl := Option.some.inj h
          exact k99
        · replace h := fng c h
          replace h := (fgd h).2
          obtain rfl := Option.some.inj h
          exact k99
    · replace h := fng c h
      replace h := (fgd h).2
      obtain rfl := Option.some.inj h
      exact fs_refl
noncomputable def s_X12_unready_l37 (l1 l2 : Int) (s : (Int × Int × fM)) : Option (Int × fM) := fLp (fun s => s_X12_unready_b37 s.2.2 l1 l2 s.1 s.2.1) s
theorem s_X12_unready_l37_ok {d L : Nat} {M : fM} {l1 l2 l3 l4 : Int} {o5 : Option fV} {r : (Int × fM)} {Q : fO → fH → Prop} (h : s_X12_unready_l37 l1 l2 (l3, l4, M) = some r) (hE : ∀ (e : (Int × fM)) (o0' o1' o2' o4' o5' : Option fV), r = e → Wp (d + 4, 294, 118, 0, 0, [o0', o1', o2', some (fI e.1), o4', o5'], []) (156, fjl L, e.2) Q) : Wp (d + 4, 294, 37, 0, 0, [some (fA 122), some (fI l1), some (fI l2), some (fI l3), some (fI l4), o5], []) (156, fjl L, M) Q := by
  refine fLp_wp (W := fun s => ∀ (o5 : Option fV), Wp (d + 4, 294, 37, 0, 0, [some (fA 122), some (fI l1), some (fI l2), some (fI s.1), some (fI s.2.1), o5], []) (156, fjl L, s.2.2) Q) (e := r) ?_ h _
  intro s r1 h hC hX o5
  refine s_X12_unready_b37_ok (d := d) h (fun a0 a1 a2 _ e1 => ?_) (fun e u0 u1 u2 u3 u4 e1 => hE e u0 u1 u2 u3 u4 (hX _ e1).symm)
  exact hC _ e1 _
theorem s_X12_unready_l37_fr {M : fM} {l1 l2 l3 l4 : Int} {r : (Int × fM)} (h : s_X12_unready_l37 l1 l2 (l3, l4, M) = some r) : fSame s_X12_unready_mods M ((fun e => e.2) r) := by
  refine fLp_inv (I := fun s => fSame s_X12_unready_mods M s.2.2) (J := fun r => fSame s_X12_unready_mods M ((fun e => e.2) r)) h fs_refl (fun s s1 hs hb => ?_) (fun s e hs hb => ?_)
  · exact fs_trans hs (s_X12_unready_b37_fr hb)
  · exact fs_trans hs (s_X12_unready_b37_fr hb)
noncomputable def s_X12_unready (M : fM) (l1 l2 : Int) : Option (Int × fM) :=
  (s_X12_isPiano (fup M 122 0 0) l1).bind fun y7 =>
    if y7 = 0 then
      some ((-1), (fup M 122 0 0))
    else
      (s_X12_isKnown (fup M 122 0 0) l2).bind fun y14 =>
        if y14 = 0 then
          some ((-1), (fup M 122 0 0))
        else
          (s_X12_of (fup M 122 0 0) l1 0).bind fun y23 =>
            if y23 = 2 then
              (s_X12_unready_l37 l1 l2 (0, 0, (fup M 122 0 0))).bind fun e37 =>
                some (e37.1, e37.2)
            else
              some ((-1), (fup M 122 0 0))
theorem s_X12_unready_ok {d L : Nat} {M : fM} {l1 l2 : Int} {r : (Int × fM)} {Q : fO → fH → Prop} (h : s_X12_unready M l1 l2 = some r) (H : Q (oI r.1) (156, fjl L, r.2)) : Wp (d + 4, 294, 0, 0, 0, [some (fA 122), some (fI l1), some (fI l2), none, none, none], []) (156, fjl L, M) Q := by
  unfold s_X12_unready at h
  refine Wp.run 5 (f' := (d + 4, 294, 7, 0, 0, [some (fA 122), some (fI l1), some (fI l2), _, _, _], [fI l1, fA 122])) (h' := (156, fjl L, (fup M 122 0 0))) rfl trivial ?_
  obtain ⟨y7, hy, h⟩ := fbd h
  refine Wp.call rfl (by decide) (s_X12_isPiano_ok (d := d + 2) hy ?_)
  show Wp (d + 4, 294, 10, 0, 0, [some (fA 122), some (fI l1), some (fI l2), _, _, _], [fI y7]) (156, fjl L, (fup M 122 0 0)) Q
  refine Wp.br rfl (fun (c : y7 = 0) => ?_) (fun (c : ¬ (y7 = 0)) => ?_)
  · replace h := fps c h
    refine Wp.run 1 (f' := (d + 4, 294, 31, 0, 0, [_, _, _, _, _, _], [fI (-1)])) (h' := (156, fjl L, (fup M 122 0 0))) rfl trivial ?_
    obtain rfl := Option.some.inj h
    exact Wp.done rfl (by decide) H
  · replace h := fng c h
    refine Wp.run 1 (f' := (d + 4, 294, 14, 0, 0, [some (fA 122), some (fI l1), some (fI l2), _, _, _], [fI l2])) (h' := (156, fjl L, (fup M 122 0 0))) rfl trivial ?_
    obtain ⟨y14, hy, h⟩ := fbd h
    refine Wp.call rfl (by decide) (s_X12_isKnown_ok (d := d + 2) hy ?_)
    show Wp (d + 4, 294, 17, 0, 0, [some (fA 122), some (fI l1), some (fI l2), _, _, _], [fI y14]) (156, fjl L, (fup M 122 0 0)) Q
    refine Wp.br rfl (fun (c : y14 = 0) => ?_) (fun (c : ¬ (y14 = 0)) => ?_)
    · replace h := fps c h
      refine Wp.run 1 (f' := (d + 4, 294, 31, 0, 0, [_, _, _, _, _, _], [fI (-1)])) (h' := (156, fjl L, (fup M 122 0 0))) rfl trivial ?_
      obtain rfl := Option.some.inj h
      exact Wp.done rfl (by decide) H
    · replace h := fng c h
      refine Wp.run 3 (f' := (d + 4, 294, 23, 0, 0, [some (fA 122), some (fI l1), some (fI l2), _, _, _], [fI 0, fI l1, fA 122])) (h' := (156, fjl L, (fup M 122 0 0))) rfl trivial ?_
      obtain ⟨y23, hy, h⟩ := fbd h
      refine Wp.call rfl (by decide) (s_X12_of_ok (d := d + 3) hy ?_)
      show Wp (d + 4, 294, 26, 0, 0, [some (fA 122), some (fI l1), some (fI l2), _, _, _], [fI y23]) (156, fjl L, (fup M 122 0 0)) Q
      refine Wp.run 1 (f' := (d + 4, 294, 27, 0, 0, [some (fA 122), some (fI l1), some (fI l2), _, _, _], [fI 2, fI y23])) (h' := (156, fjl L, (fup M 122 0 0))) rfl trivial ?_
      refine Wp.br rfl (fun (c : y23 = 2) => ?_) (fun (c : ¬ (y23 = 2)) => ?_)
      · replace h := fps c h
        refine Wp.run 4 (f' := (d + 4, 294, 37, 0, 0, [some (fA 122), some (fI l1), some (fI l2), some (fI 0), some (fI 0), _], [])) (h' := (156, fjl L, (fup M 122 0 0))) rfl trivial ?_
        obtain ⟨e37, hy, h⟩ := fbd h
        refine s_X12_unready_l37_ok hy (fun x u0 u1 u2 u4 u5 ex => ?_)
        cases ex
        show Wp (d + 4, 294, 118, 0, 0, [u0, u1, u2, some (fI e37.1), u4, u5], []) (156, fjl L, e37.2) Q
        refine Wp.run 1 (f' := (d + 4, 294, 119, 0, 0, [_, _, _, _, _, _], [fI e37.1])) (h' := (156, fjl L, e37.2)) rfl trivial ?_
        obtain rfl := Option.some.inj h
        exact Wp.done rfl (by decide) H
      · replace h := fng c h
        refine Wp.run 1 (f' := (d + 4, 294, 31, 0, 0, [_, _, _, _, _, _], [fI (-1)])) (h' := (156, fjl L, (fup M 122 0 0))) rfl trivial ?_
        obtain rfl := Option.some.inj h
        exact Wp.done rfl (by decide) H
theorem s_X12_unready_fr {M : fM} {l1 l2 : Int} {r : (Int × fM)} (h : s_X12_unready M l1 l2 = some r) : fSame s_X12_unready_mods M r.2 := by
  unfold s_X12_unready at h
  obtain ⟨y7, hy, h⟩ := fbd h
  by_cases c : y7 = 0
  · replace h := fps c h
    obtain rfl := Option.some.inj h
    exact fs_up fs_refl (.inr (by decide))
  · replace h := fng c h
    obtain ⟨y14, hy, h⟩ := fbd h
    by_cases c : y14 = 0
    · replace h := fps c h
      obtain rfl := Option.some.inj h
      exact fs_up fs_refl (.inr (by decide))
    · replace h := fng c h
      obtain ⟨y23, hy, h⟩ := fbd h
      by_cases c : y23 = 2
      · replace h := fps c h
        obtain ⟨e37, hy, h⟩ := fbd h
        have k37 := fs_trans (l := s_X12_unready_mods) (fs_up fs_refl (.inr (by decide))) (s_X12_unready_l37_fr hy)
        obtain rfl := Option.some.inj h
        exact k37
      · replace h := fng c h
        obtain rfl := Option.some.inj h
        exact fs_up fs_refl (.inr (by decide))
noncomputable def s_X0_concertAt_b6 (M : fM) (l1 l2 l3 l4 l5 : Int) : Option ((Int × Int) ⊕ (Unit ⊕ Int)) :=
  if (M 18 8) ≤ l5 then
    some (.inr (.inl ()))
  else
    (s_X6_isOf_18 M l5 5 l1 l3).bind fun y27 =>
      if y27 = 0 then
        if fin (l5 + 1) then
          some (.inl (l4, (l5 + 1)))
        else none
      else
        if ¬ l4 = l2 then
          if fin (l4 + 1) ∧ fin (l5 + 1) then
            some (.inl ((l4 + 1), (l5 + 1)))
          else none
        else
          some (.inr (.inr l5))
theorem s_X0_concertAt_b6_ok {d L : Nat} {M : fM} {l1 l2 l3 l4 l5 : Int} {r : ((Int × Int) ⊕ (Unit ⊕ Int))} {Q : fO → fH → Prop} (h : s_X0_concertAt_b6 M l1 l2 l3 l4 l5 = some r) (hC : ∀ (l4' l5' : Int), r = .inl (l4', l5') → Wp (d + 1, 3, 6, 0, 0, [some (fA 53), some (fI l1), some (fI l2), some (fI l3), some (fI l4'), some (fI l5')], []) (156, fjl L, M) Q) (hE : ∀ (e : Unit) (o0' o1' o2' o3' o4' o5' : Option fV), r = .inr (.inl e) → Wp (d + 1, 3, 51, 0, 0, [o0', o1', o2', o3', o4', o5'], []) (156, fjl L, M) Q) (hR : ∀ (v : Int), r = .inr (.inr v) → Q (oI v) (156, fjl L, M)) : Wp (d + 1, 3, 6, 0, 0, [some (fA 53), some (fI l1), some (fI l2), some (fI l3), some (fI l4), some (fI l5)], []) (156, fjl L, M) Q := by
  unfold s_X0_concertAt_b6 at h
  refine Wp.run 4 (f' := (d + 1, 3, 15, 0, 0, [some (fA 53), some (fI l1), some (fI l2), some (fI l3), some (fI l4), some (fI l5)], [fI (M 18 8), fI l5])) (h' := (156, fjl L, M)) rfl trivial ?_
  refine Wp.br rfl (fun (c : (M 18 8) ≤ l5) => ?_) (fun (c : ¬ ((M 18 8) ≤ l5)) => ?_)
  · replace h := fps c h
    exact hE _ _ _ _ _ _ _ (Option.some.inj h).symm
  · replace h := fng c h
    refine Wp.run 6 (f' := (d + 1, 3, 27, 0, 0, [some (fA 53), some (fI l1), some (fI l2), some (fI l3), some (fI l4), some (fI l5)], [fI l3, fI l1, fI 5, fI l5, fA 18])) (h' := (156, fjl L, M)) rfl trivial ?_
    obtain ⟨y27, hy, h⟩ := fbd h
    refine Wp.call rfl (by decide) (s_X6_isOf_18_ok (d := d + 0) hy ?_)
    show Wp (d + 1, 3, 30, 0, 0, [some (fA 53), some (fI l1), some (fI l2), some (fI l3), some (fI l4), some (fI l5)], [fI y27]) (156, fjl L, M) Q
    refine Wp.br rfl (fun (c : y27 = 0) => ?_) (fun (c : ¬ (y27 = 0)) => ?_)
    · replace h := fps c h
      obtain ⟨g0, h⟩ := fgd h
      refine Wp.run 2 (f' := (d + 1, 3, 6, 0, 0, [some (fA 53), some (fI l1), some (fI l2), some (fI l3), some (fI l4), some (fI (fw (l5 + 1)))], [])) (h' := (156, fjl L, M)) rfl trivial ?_
      rw [fw_id g0]
      exact hC _ _ (Option.some.inj h).symm
    · replace h := fng c h
      refine Wp.run 2 (f' := (d + 1, 3, 36, 0, 0, [some (fA 53), some (fI l1), some (fI l2), some (fI l3), some (fI l4), some (fI l5)], [fI l2, fI l4])) (h' := (156, fjl L, M)) rfl trivial ?_
      refine Wp.br rfl (fun (c : ¬ l4 = l2) => ?_) (fun (c : ¬ (¬ l4 = l2)) => ?_)
      · replace h := fps c h
        obtain ⟨⟨g0, g1⟩, h⟩ := fgd h
        refine Wp.run 3 (f' := (d + 1, 3, 6, 0, 0, [some (fA 53), some (fI l1), some (fI l2), some (fI l3), some (fI (fw (l4 + 1))), some (fI (fw (l5 + 1)))], [])) (h' := (156, fjl L, M)) rfl trivial ?_
        rw [fw_id g0, fw_id g1]
        exact hC _ _ (Option.some.inj h).symm
      · replace h := fng c h
        refine Wp.run 1 (f' := (d + 1, 3, 41, 0, 0, [_, _, _, _, _, _], [fI l5])) (h' := (156, fjl L, M)) rfl trivial ?_
        exact Wp.done rfl (by decide) (hR _ (Option.some.inj h).symm)
noncomputable def s_X0_concertAt_l6 (M : fM) (l1 l2 l3 : Int) (s : (Int × Int)) : Option (Unit ⊕ Int) := fLp (fun s => s_X0_concertAt_b6 M l1 l2 l3 s.1 s.2) s
theorem s_X0_concertAt_l6_ok {d L : Nat} {M : fM} {l1 l2 l3 l4 l5 : Int} {r : (Unit ⊕ Int)} {Q : fO → fH → Prop} (h : s_X0_concertAt_l6 M l1 l2 l3 (l4, l5) = some r) (hE : ∀ (e : Unit) (o0' o1' o2' o3' o4' o5' : Option fV), r = .inl e → Wp (d + 1, 3, 51, 0, 0, [o0', o1', o2', o3', o4', o5'], []) (156, fjl L, M) Q) (hR : ∀ (v : Int), r = .inr v → Q (oI v) (156, fjl L, M)) : Wp (d + 1, 3, 6, 0, 0, [some (fA 53), some (fI l1), some (fI l2), some (fI l3), some (fI l4), some (fI l5)], []) (156, fjl L, M) Q := by
  refine fLp_wp (W := fun s => Wp (d + 1, 3, 6, 0, 0, [some (fA 53), some (fI l1), some (fI l2), some (fI l3), some (fI s.1), some (fI s.2)], []) (156, fjl L, M) Q) (e := r) ?_ h
  intro s r1 h hC hX
  refine s_X0_concertAt_b6_ok (d := d) h (fun a0 a1 e1 => ?_) (fun e u0 u1 u2 u3 u4 u5 e1 => hE e u0 u1 u2 u3 u4 u5 (hX _ e1).symm) (fun v e1 => hR v (hX _ e1).symm)
  exact hC _ e1
noncomputable def s_X0_concertAt (M : fM) (l1 l2 l3 : Int) : Option Int :=
  (s_X0_concertAt_l6 M l1 l2 l3 (0, 0)).bind fun e6 =>
    Sum.elim (fun x6 =>
      some (-1))
      (fun v6 => some v6) e6
theorem s_X0_concertAt_ok {d L : Nat} {M : fM} {l1 l2 l3 : Int} {r : Int} {Q : fO → fH → Prop} (h : s_X0_concertAt M l1 l2 l3 = some r) (H : Q (oI r) (156, fjl L, M)) : Wp (d + 1, 3, 0, 0, 0, [some (fA 53), some (fI l1), some (fI l2), some (fI l3), none, none], []) (156, fjl L, M) Q := by
  unfold s_X0_concertAt at h
  refine Wp.run 4 (f' := (d + 1, 3, 6, 0, 0, [some (fA 53), some (fI l1), some (fI l2), some (fI l3), some (fI 0), some (fI 0)], [])) (h' := (156, fjl L, M)) rfl trivial ?_
  obtain ⟨e6, hy, h⟩ := fbd h
  refine s_X0_concertAt_l6_ok hy (fun x6 u0 u1 u2 u3 u4 u5 ex => ?_) (fun v6 ex => ?_)
  · subst ex
    replace h := fsl h
    show Wp (d + 1, 3, 51, 0, 0, [u0, u1, u2, u3, u4, u5], []) (156, fjl L, M) Q
    refine Wp.run 1 (f' := (d + 1, 3, 52, 0, 0, [_, _, _, _, _, _], [fI (-1)])) (h' := (156, fjl L, M)) rfl trivial ?_
    obtain rfl := Option.some.inj h
    exact Wp.done rfl (by decide) H
  · subst ex
    replace h := fsr h
    obtain rfl := Option.some.inj h
    exact H
noncomputable def s_X8_leftAt (M : fM) (l1 : Int) : Option Int :=
  if (0 ≤ l1 ∧ l1 < 12) then
    some (M 46 (l1).toNat)
  else none
theorem s_X8_leftAt_ok {d L : Nat} {M : fM} {l1 : Int} {r : Int} {Q : fO → fH → Prop} (h : s_X8_leftAt M l1 = some r) (H : Q (oI r) (156, fjl L, M)) : Wp (d + 0, 114, 0, 0, 0, [some (fA 43), some (fI l1)], []) (156, fjl L, M) Q := by
  unfold s_X8_leftAt at h
  obtain ⟨g0, h⟩ := fgd h
  refine Wp.run 4 (P := [0 ≤ l1 ∧ l1 < 12]) (f' := (d + 0, 114, 6, 0, 0, [_, _], [fI (M 46 (l1).toNat)])) (h' := (156, fjl L, M)) rfl ?_ ?_
  · exact g0
  obtain rfl := Option.some.inj h
  exact Wp.done rfl (by decide) H
noncomputable def s_X8_greatestUndamped_b4 (M : fM) (l1 l2 l3 : Int) : Option ((Int × Int) ⊕ Int) :=
  if 12 ≤ l3 then
    some (.inr l2)
  else
    (s_X8_offsetUndamped M l3 l1 0).bind fun y15 =>
      (s_J9_abs M y15).bind fun y18 =>
        (s_J9_max M l2 y18).bind fun y21 =>
          if fin (l3 + 1) then
            some (.inl (y21, (l3 + 1)))
          else none
theorem s_X8_greatestUndamped_b4_ok {d L : Nat} {M : fM} {l1 l2 l3 : Int} {r : ((Int × Int) ⊕ Int)} {Q : fO → fH → Prop} (h : s_X8_greatestUndamped_b4 M l1 l2 l3 = some r) (hC : ∀ (l2' l3' : Int), r = .inl (l2', l3') → Wp (d + 2, 120, 4, 0, 0, [some (fA 43), some (fI l1), some (fI l2'), some (fI l3')], []) (156, fjl L, M) Q) (hE : ∀ (e : Int) (o0' o1' o3' : Option fV), r = .inr e → Wp (d + 2, 120, 31, 0, 0, [o0', o1', some (fI e), o3'], []) (156, fjl L, M) Q) : Wp (d + 2, 120, 4, 0, 0, [some (fA 43), some (fI l1), some (fI l2), some (fI l3)], []) (156, fjl L, M) Q := by
  unfold s_X8_greatestUndamped_b4 at h
  refine Wp.run 2 (f' := (d + 2, 120, 7, 0, 0, [some (fA 43), some (fI l1), some (fI l2), some (fI l3)], [fI 12, fI l3])) (h' := (156, fjl L, M)) rfl trivial ?_
  refine Wp.br rfl (fun (c : 12 ≤ l3) => ?_) (fun (c : ¬ (12 ≤ l3)) => ?_)
  · replace h := fps c h
    exact hE _ _ _ _ (Option.some.inj h).symm
  · replace h := fng c h
    refine Wp.run 5 (f' := (d + 2, 120, 15, 0, 0, [some (fA 43), some (fI l1), _, some (fI l3)], [fI 0, fI l1, fI l3, fA 43, fI l2])) (h' := (156, fjl L, M)) rfl trivial ?_
    obtain ⟨y15, hy, h⟩ := fbd h
    refine Wp.call rfl (by decide) (s_X8_offsetUndamped_ok (d := d + 0) hy ?_)
    show Wp (d + 2, 120, 18, 0, 0, [some (fA 43), some (fI l1), _, some (fI l3)], [fI y15, fI l2]) (156, fjl L, M) Q
    obtain ⟨y18, hy, h⟩ := fbd h
    refine Wp.call rfl (by decide) (s_J9_abs_ok (d := d + 1) hy ?_)
    show Wp (d + 2, 120, 21, 0, 0, [some (fA 43), some (fI l1), _, some (fI l3)], [fI y18, fI l2]) (156, fjl L, M) Q
    obtain ⟨y21, hy, h⟩ := fbd h
    refine Wp.call rfl (by decide) (s_J9_max_ok (d := d + 1) hy ?_)
    show Wp (d + 2, 120, 24, 0, 0, [some (fA 43), some (fI l1), _, some (fI l3)], [fI y21]) (156, fjl L, M) Q
    obtain ⟨g0, h⟩ := fgd h
    refine Wp.run 3 (f' := (d + 2, 120, 4, 0, 0, [some (fA 43), some (fI l1), some (fI y21), some (fI (fw (l3 + 1)))], [])) (h' := (156, fjl L, M)) rfl trivial ?_
    rw [fw_id g0]
    exact hC _ _ (Option.some.inj h).symm
noncomputable def s_X8_greatestUndamped_l4 (M : fM) (l1 : Int) (s : (Int × Int)) : Option Int := fLp (fun s => s_X8_greatestUndamped_b4 M l1 s.1 s.2) s
theorem s_X8_greatestUndamped_l4_ok {d L : Nat} {M : fM} {l1 l2 l3 : Int} {r : Int} {Q : fO → fH → Prop} (h : s_X8_greatestUndamped_l4 M l1 (l2, l3) = some r) (hE : ∀ (e : Int) (o0' o1' o3' : Option fV), r = e → Wp (d + 2, 120, 31, 0, 0, [o0', o1', some (fI e), o3'], []) (156, fjl L, M) Q) : Wp (d + 2, 120, 4, 0, 0, [some (fA 43), some (fI l1), some (fI l2), some (fI l3)], []) (156, fjl L, M) Q := by
  refine fLp_wp (W := fun s => Wp (d + 2, 120, 4, 0, 0, [some (fA 43), some (fI l1), some (fI s.1), some (fI s.2)], []) (156, fjl L, M) Q) (e := r) ?_ h
  intro s r1 h hC hX
  refine s_X8_greatestUndamped_b4_ok (d := d) h (fun a0 a1 e1 => ?_) (fun e u0 u1 u2 e1 => hE e u0 u1 u2 (hX _ e1).symm)
  exact hC _ e1
noncomputable def s_X8_greatestUndamped (M : fM) (l1 : Int) : Option Int :=
  (s_X8_greatestUndamped_l4 M l1 (0, 0)).bind fun e4 =>
    some e4
theorem s_X8_greatestUndamped_ok {d L : Nat} {M : fM} {l1 : Int} {r : Int} {Q : fO → fH → Prop} (h : s_X8_greatestUndamped M l1 = some r) (H : Q (oI r) (156, fjl L, M)) : Wp (d + 2, 120, 0, 0, 0, [some (fA 43), some (fI l1), none, none], []) (156, fjl L, M) Q := by
  unfold s_X8_greatestUndamped at h
  refine Wp.run 4 (f' := (d + 2, 120, 4, 0, 0, [some (fA 43), some (fI l1), some (fI 0), some (fI 0)], [])) (h' := (156, fjl L, M)) rfl trivial ?_
  obtain ⟨e4, hy, h⟩ := fbd h
  refine s_X8_greatestUndamped_l4_ok hy (fun x u0 u1 u3 ex => ?_)
  cases ex
  show Wp (d + 2, 120, 31, 0, 0, [u0, u1, some (fI e4), u3], []) (156, fjl L, M) Q
  refine Wp.run 1 (f' := (d + 2, 120, 32, 0, 0, [_, _, _, _], [fI e4])) (h' := (156, fjl L, M)) rfl trivial ?_
  obtain rfl := Option.some.inj h
  exact Wp.done rfl (by decide) H
abbrev s_X0_blame_mods : List (Nat × Option Nat) := [(43, some 5), (43, some 6), (44, none), (45, none), (46, none)]
noncomputable def s_X0_blame_b71 (M : fM) (l3 l4 : Int) : Option (Int ⊕ (Unit ⊕ (Int × fM))) :=
  if 12 ≤ l4 then
    some (.inr (.inl ()))
  else
    (s_X8_leftAt M l4).bind fun y84 =>
      (s_J9_abs M y84).bind fun y87 =>
        (s_X8_ear M).bind fun y94 =>
          if y87 ≤ y94 then
            if fin (l4 + 1) then
              some (.inl (l4 + 1))
            else none
          else
            some (.inr (.inr (2, M)))
theorem s_X0_blame_b71_ok {d L : Nat} {M : fM} {l3 l4 : Int} {o1 o2 : Option fV} {r : (Int ⊕ (Unit ⊕ (Int × fM)))} {Q : fO → fH → Prop} (h : s_X0_blame_b71 M l3 l4 = some r) (hC : ∀ (l4' : Int) (o1' o2' : Option fV), r = .inl l4' → Wp (d + 4, 4, 71, 0, 0, [some (fA 53), o1', o2', some (fI l3), some (fI l4')], []) (156, fjl L, M) Q) (hE : ∀ (e : Unit) (o1' o2' o4' : Option fV), r = .inr (.inl e) → Wp (d + 4, 4, 108, 0, 0, [some (fA 53), o1', o2', some (fI l3), o4'], []) (156, fjl L, M) Q) (hR : ∀ (v : (Int × fM)), r = .inr (.inr v) → Q (oI v.1) (156, fjl L, v.2)) : Wp (d + 4, 4, 71, 0, 0, [some (fA 53), o1, o2, some (fI l3), some (fI l4)], []) (156, fjl L, M) Q := by
  unfold s_X0_blame_b71 at h
  refine Wp.run 2 (f' := (d + 4, 4, 75, 0, 0, [some (fA 53), _, _, some (fI l3), some (fI l4)], [fI 12, fI l4])) (h' := (156, fjl L, M)) rfl trivial ?_
  refine Wp.br rfl (fun (c : 12 ≤ l4) => ?_) (fun (c : ¬ (12 ≤ l4)) => ?_)
  · replace h := fps c h
    exact hE _ _ _ _ (Option.some.inj h).symm
  · replace h := fng c h
    refine Wp.run 3 (f' := (d + 4, 4, 84, 0, 0, [some (fA 53), _, _, some (fI l3), some (fI l4)], [fI l4, fA 43])) (h' := (156, fjl L, M)) rfl trivial ?_
    obtain ⟨y84, hy, h⟩ := fbd h
    refine Wp.call rfl (by decide) (s_X8_leftAt_ok (d := d + 3) hy ?_)
    show Wp (d + 4, 4, 87, 0, 0, [some (fA 53), _, _, some (fI l3), some (fI l4)], [fI y84]) (156, fjl L, M) Q
    obtain ⟨y87, hy, h⟩ := fbd h
    refine Wp.call rfl (by decide) (s_J9_abs_ok (d := d + 3) hy ?_)
    show Wp (d + 4, 4, 90, 0, 0, [some (fA 53), _, _, some (fI l3), some (fI l4)], [fI y87]) (156, fjl L, M) Q
    refine Wp.run 2 (f' := (d + 4, 4, 94, 0, 0, [some (fA 53), _, _, some (fI l3), some (fI l4)], [fA 43, fI y87])) (h' := (156, fjl L, M)) rfl trivial ?_
    obtain ⟨y94, hy, h⟩ := fbd h
    refine Wp.call rfl (by decide) (s_X8_ear_ok (d := d + 2) hy ?_)
    show Wp (d + 4, 4, 97, 0, 0, [some (fA 53), _, _, some (fI l3), some (fI l4)], [fI y94, fI y87]) (156, fjl L, M) Q
    refine Wp.br rfl (fun (c : y87 ≤ y94) => ?_) (fun (c : ¬ (y87 ≤ y94)) => ?_)
    · replace h := fps c h
      obtain ⟨g0, h⟩ := fgd h
      refine Wp.run 2 (f' := (d + 4, 4, 71, 0, 0, [some (fA 53), _, _, some (fI l3), some (fI (fw (l4 + 1)))], [])) (h' := (156, fjl L, M)) rfl trivial ?_
      rw [fw_id g0]
      exact hC _ _ _ (Option.some.inj h).symm
    · replace h := fng c h
      refine Wp.run 1 (f' := (d + 4, 4, 101, 0, 0, [_, _, _, _, _], [fI 2])) (h' := (156, fjl L, M)) rfl trivial ?_
      exact Wp.done rfl (by decide) (hR _ (Option.some.inj h).symm)
theorem s_X0_blame_b71_fr {M : fM} {l3 l4 : Int} {r : (Int ⊕ (Unit ⊕ (Int × fM)))} (h : s_X0_blame_b71 M l3 l4 = some r) : fSame s_X0_blame_mods M (Sum.elim (fun _ => M) (Sum.elim (fun _ => M) (fun v => v.2)) r) := by
  unfold s_X0_blame_b71 at h
  by_cases c : 12 ≤ l4
  · replace h := fps c h
    obtain rfl := Option.some.inj h
    exact fs_refl
  · replace h := fng c h
    obtain ⟨y84, hy, h⟩ := fbd h
    obtain ⟨y87, hy, h⟩ := fbd h
    obtain ⟨y94, hy, h⟩ := fbd h
    by_cases c : y87 ≤ y94
    · replace h := fps c h
      replace h := (fgd h).2
      obtain rfl := Option.some.inj h
      exact fs_refl
    · replace h := fng c h
      obtain rfl := Option.some.inj h
      exact fs_refl
noncomputable def s_X0_blame_l71 (M : fM) (l3 : Int) (s : Int) : Option (Unit ⊕ (Int × fM)) := fLp (fun s => s_X0_blame_b71 M l3 s) s
theorem s_X0_blame_l71_ok {d L : Nat} {M : fM} {l3 l4 : Int} {o1 o2 : Option fV} {r : (Unit ⊕ (Int × fM))} {Q : fO → fH → Prop} (h : s_X0_blame_l71 M l3 l4 = some r) (hE : ∀ (e : Unit) (o1' o2' o4' : Option fV), r = .inl e → Wp (d + 4, 4, 108, 0, 0, [some (fA 53), o1', o2', some (fI l3), o4'], []) (156, fjl L, M) Q) (hR : ∀ (v : (Int × fM)), r = .inr v → Q (oI v.1) (156, fjl L, v.2)) : Wp (d + 4, 4, 71, 0, 0, [some (fA 53), o1, o2, some (fI l3), some (fI l4)], []) (156, fjl L, M) Q := by
  refine fLp_wp (W := fun s => ∀ (o1 o2 : Option fV), Wp (d + 4, 4, 71, 0, 0, [some (fA 53), o1, o2, some (fI l3), some (fI s)], []) (156, fjl L, M) Q) (e := r) ?_ h _ _
  intro s r1 h hC hX o1 o2
  refine s_X0_blame_b71_ok (d := d) h (fun a0 _ _ e1 => ?_) (fun e u0 u1 u2 e1 => hE e u0 u1 u2 (hX _ e1).symm) (fun v e1 => hR v (hX _ e1).symm)
  exact hC _ e1 _ _
theorem s_X0_blame_l71_fr {M : fM} {l3 l4 : Int} {r : (Unit ⊕ (Int × fM))} (h : s_X0_blame_l71 M l3 l4 = some r) : fSame s_X0_blame_mods M ((Sum.elim (fun _ => M) (fun v => v.2)) r) := by
  refine fLp_inv (I := fun s => fSame s_X0_blame_mods M M) (J := fun r => fSame s_X0_blame_mods M ((Sum.elim (fun _ => M) (fun v => v.2)) r)) h fs_refl (fun s s1 hs hb => ?_) (fun s e hs hb => ?_)
  · exact fs_trans hs (s_X0_blame_b71_fr hb)
  · exact fs_trans hs (s_X0_blame_b71_fr hb)
noncomputable def s_X0_blame (M : fM) (l1 l2 : Int) : Option (Int × fM) :=
  if (0 ≤ l1 ∧ l1 < 200) then
    (s_X8_look M (M 20 (l1).toNat) (M 21 (l1).toNat) l2).bind fun y25 =>
      (s_X8_isBeyond y25.2 (M 21 (l1).toNat) 0).bind fun y34 =>
        if ¬ y34 = 0 then
          (s_X8_wasTuned y25.2).bind fun y46 =>
            if y46 = 0 then
              some (1, y25.2)
            else
              (s_X8_tunedOn y25.2).bind fun y57 =>
                if fin ((M 21 (l1).toNat) - y57) then
                  if ((M 21 (l1).toNat) - y57) ≤ 7 then
                    (s_X0_blame_l71 y25.2 (M 21 (l1).toNat) 0).bind fun e71 =>
                      Sum.elim (fun x71 =>
                        (s_X8_greatestUndamped y25.2 (M 21 (l1).toNat)).bind fun y113 =>
                          (s_X8_ear y25.2).bind fun y120 =>
                            if y120 < y113 then
                              some (4, y25.2)
                            else
                              some (3, y25.2))
                        (fun v71 => some v71) e71
                  else
                    some (1, y25.2)
                else none
        else
          some (0, y25.2)
  else none
theorem s_X0_blame_ok {d L : Nat} {M : fM} {l1 l2 : Int} {r : (Int × fM)} {Q : fO → fH → Prop} (h : s_X0_blame M l1 l2 = some r) (H : Q (oI r.1) (156, fjl L, r.2)) : Wp (d + 4, 4, 0, 0, 0, [some (fA 53), some (fI l1), some (fI l2), none, none], []) (156, fjl L, M) Q := by
  unfold s_X0_blame at h
  obtain ⟨g0, h⟩ := fgd h
  refine Wp.run 15 (P := [0 ≤ l1 ∧ l1 < 200, 0 ≤ l1 ∧ l1 < 200]) (f' := (d + 4, 4, 25, 0, 0, [some (fA 53), _, _, some (fI (M 21 (l1).toNat)), _], [fI l2, fI (M 21 (l1).toNat), fI (M 20 (l1).toNat), fA 43])) (h' := (156, fjl L, M)) rfl ?_ ?_
  · exact ⟨g0, g0⟩
  obtain ⟨y25, hy, h⟩ := fbd h
  refine Wp.call rfl (by decide) (s_X8_look_ok (d := d + 1) hy ?_)
  show Wp (d + 4, 4, 28, 0, 0, [some (fA 53), _, _, some (fI (M 21 (l1).toNat)), _], []) (156, fjl L, y25.2) Q
  refine Wp.run 4 (f' := (d + 4, 4, 34, 0, 0, [some (fA 53), _, _, some (fI (M 21 (l1).toNat)), _], [fI 0, fI (M 21 (l1).toNat), fA 43])) (h' := (156, fjl L, y25.2)) rfl trivial ?_
  obtain ⟨y34, hy, h⟩ := fbd h
  refine Wp.call rfl (by decide) (s_X8_isBeyond_ok (d := d + 0) hy ?_)
  show Wp (d + 4, 4, 37, 0, 0, [some (fA 53), _, _, some (fI (M 21 (l1).toNat)), _], [fI y34]) (156, fjl L, y25.2) Q
  refine Wp.br rfl (fun (c : ¬ y34 = 0) => ?_) (fun (c : ¬ (¬ y34 = 0)) => ?_)
  · replace h := fps c h
    refine Wp.run 2 (f' := (d + 4, 4, 46, 0, 0, [some (fA 53), _, _, some (fI (M 21 (l1).toNat)), _], [fA 43])) (h' := (156, fjl L, y25.2)) rfl trivial ?_
    obtain ⟨y46, hy, h⟩ := fbd h
    refine Wp.call rfl (by decide) (s_X8_wasTuned_ok (d := d + 3) hy ?_)
    show Wp (d + 4, 4, 49, 0, 0, [some (fA 53), _, _, some (fI (M 21 (l1).toNat)), _], [fI y46]) (156, fjl L, y25.2) Q
    refine Wp.br rfl (fun (c : y46 = 0) => ?_) (fun (c : ¬ (y46 = 0)) => ?_)
    · replace h := fps c h
      refine Wp.run 1 (f' := (d + 4, 4, 67, 0, 0, [_, _, _, _, _], [fI 1])) (h' := (156, fjl L, y25.2)) rfl trivial ?_
      obtain rfl := Option.some.inj h
      exact Wp.done rfl (by decide) H
    · replace h := fng c h
      refine Wp.run 3 (f' := (d + 4, 4, 57, 0, 0, [some (fA 53), _, _, some (fI (M 21 (l1).toNat)), _], [fA 43, fI (M 21 (l1).toNat)])) (h' := (156, fjl L, y25.2)) rfl trivial ?_
      obtain ⟨y57, hy, h⟩ := fbd h
      refine Wp.call rfl (by decide) (s_X8_tunedOn_ok (d := d + 3) hy ?_)
      show Wp (d + 4, 4, 60, 0, 0, [some (fA 53), _, _, some (fI (M 21 (l1).toNat)), _], [fI y57, fI (M 21 (l1).toNat)]) (156, fjl L, y25.2) Q
      obtain ⟨g0, h⟩ := fgd h
      refine Wp.run 2 (f' := (d + 4, 4, 63, 0, 0, [some (fA 53), _, _, some (fI (M 21 (l1).toNat)), _], [fI 7, fI (fw ((M 21 (l1).toNat) - y57))])) (h' := (156, fjl L, y25.2)) rfl trivial ?_
      rw [fw_id g0]
      refine Wp.br rfl (fun (c : ((M 21 (l1).toNat) - y57) ≤ 7) => ?_) (fun (c : ¬ (((M 21 (l1).toNat) - y57) ≤ 7)) => ?_)
      · replace h := fps c h
        refine Wp.run 2 (f' := (d + 4, 4, 71, 0, 0, [some (fA 53), _, _, some (fI (M 21 (l1).toNat)), some (fI 0)], [])) (h' := (156, fjl L, y25.2)) rfl trivial ?_
        obtain ⟨e71, hy, h⟩ := fbd h
        refine s_X0_blame_l71_ok hy (fun x71 u1 u2 u4 ex => ?_) (fun v71 ex => ?_)
        · subst ex
          replace h := fsl h
          show Wp (d + 4, 4, 108, 0, 0, [some (fA 53), u1, u2, some (fI (M 21 (l1).toNat)), u4], []) (156, fjl L, y25.2) Q
          refine Wp.run 3 (f' := (d + 4, 4, 113, 0, 0, [some (fA 53), _, _, _, _], [fI (M 21 (l1).toNat), fA 43])) (h' := (156, fjl L, y25.2)) rfl trivial ?_
          obtain ⟨y113, hy, h⟩ := fbd h
          refine Wp.call rfl (by decide) (s_X8_greatestUndamped_ok (d := d + 1) hy ?_)
          show Wp (d + 4, 4, 116, 0, 0, [some (fA 53), _, _, _, _], [fI y113]) (156, fjl L, y25.2) Q
          refine Wp.run 2 (f' := (d + 4, 4, 120, 0, 0, [_, _, _, _, _], [fA 43, fI y113])) (h' := (156, fjl L, y25.2)) rfl trivial ?_
          obtain ⟨y120, hy, h⟩ := fbd h
          refine Wp.call rfl (by decide) (s_X8_ear_ok (d := d + 2) hy ?_)
          show Wp (d + 4, 4, 123, 0, 0, [_, _, _, _, _], [fI y120, fI y113]) (156, fjl L, y25.2) Q
          refine Wp.br rfl (fun (c : y120 < y113) => ?_) (fun (c : ¬ (y120 < y113)) => ?_)
          · replace h := fps c h
            refine Wp.run 1 (f' := (d + 4, 4, 131, 0, 0, [_, _, _, _, _], [fI 4])) (h' := (156, fjl L, y25.2)) rfl trivial ?_
            obtain rfl := Option.some.inj h
            exact Wp.done rfl (by decide) H
          · replace h := fng c h
            refine Wp.run 2 (f' := (d + 4, 4, 131, 0, 0, [_, _, _, _, _], [fI 3])) (h' := (156, fjl L, y25.2)) rfl trivial ?_
            obtain rfl := Option.some.inj h
            exact Wp.done rfl (by decide) H
        · subst ex
          replace h := fsr h
          obtain rfl := Option.some.inj h
          exact H
      · replace h := fng c h
        refine Wp.run 1 (f' := (d + 4, 4, 67, 0, 0, [_, _, _, _, _], [fI 1])) (h' := (156, fjl L, y25.2)) rfl trivial ?_
        obtain rfl := Option.some.inj h
        exact Wp.done rfl (by decide) H
  · replace h := fng c h
    refine Wp.run 1 (f' := (d + 4, 4, 41, 0, 0, [_, _, _, _, _], [fI 0])) (h' := (156, fjl L, y25.2)) rfl trivial ?_
    obtain rfl := Option.some.inj h
    exact Wp.done rfl (by decide) H
theorem s_X0_blame_fr {M : fM} {l1 l2 : Int} {r : (Int × fM)} (h : s_X0_blame M l1 l2 = some r) : fSame s_X0_blame_mods M r.2 := by
  unfold s_X0_blame at h
  replace h := (fgd h).2
  obtain ⟨y25, hy, h⟩ := fbd h
  have k25 := fs_trans (l := s_X0_blame_mods) fs_refl (fs_mono (l := s_X8_look_mods) (by decide) (s_X8_look_fr hy))
  obtain ⟨y34, hy, h⟩ := fbd h
  by_cases c : ¬ y34 = 0
  · replace h := fps c h
    obtain ⟨y46, hy, h⟩ := fbd h
    by_cases c : y46 = 0
    · replace h := fps c h
      obtain rfl := Option.some.inj h
      exact k25
    · replace h := fng c h
      obtain ⟨y57, hy, h⟩ := fbd h
      replace h := (fgd h).2
      by_cases c : ((M 21 (l1).toNat) - y57) ≤ 7
      · replace h := fps c h
        obtain ⟨e71, hy, h⟩ := fbd h
        have k71 := fs_trans (l := s_X0_blame_mods) k25 (s_X0_blame_l71_fr hy)
        rcases e71 with x71 | v71
        · replace h := fsl h
          obtain ⟨y113, hy, h⟩ := fbd h
          obtain ⟨y120, hy, h⟩ := fbd h
          by_cases c : y120 < y113
          · replace h := fps c h
            obtain rfl := Option.some.inj h
            exact k25
          · replace h := fng c h
            obtain rfl := Option.some.inj h
            exact k25
        · replace h := fsr h
          obtain rfl := Option.some.inj h
          exact k71
      · replace h := fng c h
        obtain rfl := Option.some.inj h
        exact k25
  · replace h := fng c h
    obtain rfl := Option.some.inj h
    exact k25
abbrev s_X11_whose_mods : List (Nat × Option Nat) := [(43, some 5), (43, some 6), (44, none), (45, none), (46, none)]
noncomputable def s_X11_whose (M : fM) (l1 l2 l3 : Int) : Option (Int × fM) :=
  (s_X2_isHall_4 M l1).bind fun y5 =>
    if y5 = 0 then
      some ((-1), M)
    else
      (s_X11_isKnowing M l3).bind fun y12 =>
        if ¬ y12 = 0 then
          (s_X0_concertAt M l1 l2 l3).bind fun y27 =>
            if 0 ≤ y27 then
              (s_X0_blame M y27 l3).bind fun y48 =>
                some (y48.1, y48.2)
            else
              some ((-1), M)
        else
          some ((-1), M)
theorem s_X11_whose_ok {d L : Nat} {M : fM} {l1 l2 l3 : Int} {r : (Int × fM)} {Q : fO → fH → Prop} (h : s_X11_whose M l1 l2 l3 = some r) (H : Q (oI r.1) (156, fjl L, r.2)) : Wp (d + 5, 177, 0, 0, 0, [some (fA 0), some (fI l1), some (fI l2), some (fI l3), none], []) (156, fjl L, M) Q := by
  unfold s_X11_whose at h
  refine Wp.run 3 (f' := (d + 5, 177, 5, 0, 0, [some (fA 0), some (fI l1), some (fI l2), some (fI l3), _], [fI l1, fA 4])) (h' := (156, fjl L, M)) rfl trivial ?_
  obtain ⟨y5, hy, h⟩ := fbd h
  refine Wp.call rfl (by decide) (s_X2_isHall_4_ok (d := d + 3) hy ?_)
  show Wp (d + 5, 177, 8, 0, 0, [some (fA 0), some (fI l1), some (fI l2), some (fI l3), _], [fI y5]) (156, fjl L, M) Q
  refine Wp.br rfl (fun (c : y5 = 0) => ?_) (fun (c : ¬ (y5 = 0)) => ?_)
  · replace h := fps c h
    refine Wp.run 1 (f' := (d + 5, 177, 19, 0, 0, [_, _, _, _, _], [fI (-1)])) (h' := (156, fjl L, M)) rfl trivial ?_
    obtain rfl := Option.some.inj h
    exact Wp.done rfl (by decide) H
  · replace h := fng c h
    refine Wp.run 1 (f' := (d + 5, 177, 12, 0, 0, [some (fA 0), some (fI l1), some (fI l2), some (fI l3), _], [fI l3])) (h' := (156, fjl L, M)) rfl trivial ?_
    obtain ⟨y12, hy, h⟩ := fbd h
    refine Wp.call rfl (by decide) (s_X11_isKnowing_ok (d := d + 3) hy ?_)
    show Wp (d + 5, 177, 15, 0, 0, [some (fA 0), some (fI l1), some (fI l2), some (fI l3), _], [fI y12]) (156, fjl L, M) Q
    refine Wp.br rfl (fun (c : ¬ y12 = 0) => ?_) (fun (c : ¬ (¬ y12 = 0)) => ?_)
    · replace h := fps c h
      refine Wp.run 5 (f' := (d + 5, 177, 27, 0, 0, [some (fA 0), _, _, some (fI l3), _], [fI l3, fI l2, fI l1, fA 53])) (h' := (156, fjl L, M)) rfl trivial ?_
      obtain ⟨y27, hy, h⟩ := fbd h
      refine Wp.call rfl (by decide) (s_X0_concertAt_ok (d := d + 3) hy ?_)
      show Wp (d + 5, 177, 30, 0, 0, [some (fA 0), _, _, some (fI l3), _], [fI y27]) (156, fjl L, M) Q
      refine Wp.run 2 (f' := (d + 5, 177, 34, 0, 0, [some (fA 0), _, _, some (fI l3), some (fI y27)], [fI y27])) (h' := (156, fjl L, M)) rfl trivial ?_
      refine Wp.br rfl (fun (c : 0 ≤ y27) => ?_) (fun (c : ¬ (0 ≤ y27)) => ?_)
      · replace h := fps c h
        refine Wp.run 4 (f' := (d + 5, 177, 48, 0, 0, [_, _, _, _, _], [fI l3, fI y27, fA 53])) (h' := (156, fjl L, M)) rfl trivial ?_
        obtain ⟨y48, hy, h⟩ := fbd h
        refine Wp.call rfl (by decide) (s_X0_blame_ok (d := d + 0) hy ?_)
        show Wp (d + 5, 177, 51, 0, 0, [_, _, _, _, _], [fI y48.1]) (156, fjl L, y48.2) Q
        obtain rfl := Option.some.inj h
        exact Wp.done rfl (by decide) H
      · replace h := fng c h
        refine Wp.run 2 (f' := (d + 5, 177, 51, 0, 0, [_, _, _, _, _], [fI (-1)])) (h' := (156, fjl L, M)) rfl trivial ?_
        obtain rfl := Option.some.inj h
        exact Wp.done rfl (by decide) H
    · replace h := fng c h
      refine Wp.run 1 (f' := (d + 5, 177, 19, 0, 0, [_, _, _, _, _], [fI (-1)])) (h' := (156, fjl L, M)) rfl trivial ?_
      obtain rfl := Option.some.inj h
      exact Wp.done rfl (by decide) H
theorem s_X11_whose_fr {M : fM} {l1 l2 l3 : Int} {r : (Int × fM)} (h : s_X11_whose M l1 l2 l3 = some r) : fSame s_X11_whose_mods M r.2 := by
  unfold s_X11_whose at h
  obtain ⟨y5, hy, h⟩ := fbd h
  by_cases c : y5 = 0
  · replace h := fps c h
    obtain rfl := Option.some.inj h
    exact fs_refl
  · replace h := fng c h
    obtain ⟨y12, hy, h⟩ := fbd h
    by_cases c : ¬ y12 = 0
    · replace h := fps c h
      obtain ⟨y27, hy, h⟩ := fbd h
      by_cases c : 0 ≤ y27
      · replace h := fps c h
        obtain ⟨y48, hy, h⟩ := fbd h
        have k48 := fs_trans (l := s_X11_whose_mods) fs_refl (fs_mono (l := s_X0_blame_mods) (by decide) (s_X0_blame_fr hy))
        obtain rfl := Option.some.inj h
        exact k48
      · replace h := fng c h
        obtain rfl := Option.some.inj h
        exact fs_refl
    · replace h := fng c h
      obtain rfl := Option.some.inj h
      exact fs_refl
abbrev s_X12_blame_mods : List (Nat × Option Nat) := [(122, some 24), (122, some 25), (122, some 26), (122, some 27), (122, some 28), (128, none), (129, none)]
noncomputable def s_X12_blame_b39 (M : fM) (l1 l2 l4 : Int) : Option (Int ⊕ (Unit ⊕ (Int × fM))) :=
  if 12 ≤ l4 then
    some (.inr (.inl ()))
  else
    if (0 ≤ l4 ∧ l4 < 12) then
      (s_X12_plain M (M 129 (l4).toNat)).bind fun y53 =>
        (s_X12_of M l1 3).bind fun y59 =>
          if y53 ≤ y59 then
            if fin (l4 + 1) then
              some (.inl (l4 + 1))
            else none
          else
            some (.inr (.inr (2, M)))
    else none
theorem s_X12_blame_b39_ok {d L : Nat} {M : fM} {l1 l2 l4 : Int} {o3 o5 o6 o7 : Option fV} {r : (Int ⊕ (Unit ⊕ (Int × fM)))} {Q : fO → fH → Prop} (h : s_X12_blame_b39 M l1 l2 l4 = some r) (hC : ∀ (l4' : Int) (o3' o5' o6' o7' : Option fV), r = .inl l4' → Wp (d + 4, 296, 39, 0, 0, [some (fA 122), some (fI l1), some (fI l2), o3', some (fI l4'), o5', o6', o7'], []) (156, fjl L, M) Q) (hE : ∀ (e : Unit) (o3' o4' o5' o6' o7' : Option fV), r = .inr (.inl e) → Wp (d + 4, 296, 73, 0, 0, [some (fA 122), some (fI l1), some (fI l2), o3', o4', o5', o6', o7'], []) (156, fjl L, M) Q) (hR : ∀ (v : (Int × fM)), r = .inr (.inr v) → Q (oI v.1) (156, fjl L, v.2)) : Wp (d + 4, 296, 39, 0, 0, [some (fA 122), some (fI l1), some (fI l2), o3, some (fI l4), o5, o6, o7], []) (156, fjl L, M) Q := by
  unfold s_X12_blame_b39 at h
  refine Wp.run 2 (f' := (d + 4, 296, 43, 0, 0, [some (fA 122), some (fI l1), some (fI l2), _, some (fI l4), _, _, _], [fI 12, fI l4])) (h' := (156, fjl L, M)) rfl trivial ?_
  refine Wp.br rfl (fun (c : 12 ≤ l4) => ?_) (fun (c : ¬ (12 ≤ l4)) => ?_)
  · replace h := fps c h
    exact hE _ _ _ _ _ _ (Option.some.inj h).symm
  · replace h := fng c h
    obtain ⟨g0, h⟩ := fgd h
    refine Wp.run 4 (P := [0 ≤ l4 ∧ l4 < 12]) (f' := (d + 4, 296, 53, 0, 0, [some (fA 122), some (fI l1), some (fI l2), _, some (fI l4), _, _, _], [fI (M 129 (l4).toNat)])) (h' := (156, fjl L, M)) rfl ?_ ?_
    · exact g0
    obtain ⟨y53, hy, h⟩ := fbd h
    refine Wp.call rfl (by decide) (s_X12_plain_ok (d := d + 3) hy ?_)
    show Wp (d + 4, 296, 56, 0, 0, [some (fA 122), some (fI l1), some (fI l2), _, some (fI l4), _, _, _], [fI y53]) (156, fjl L, M) Q
    refine Wp.run 3 (f' := (d + 4, 296, 59, 0, 0, [some (fA 122), some (fI l1), some (fI l2), _, some (fI l4), _, _, _], [fI 3, fI l1, fA 122, fI y53])) (h' := (156, fjl L, M)) rfl trivial ?_
    obtain ⟨y59, hy, h⟩ := fbd h
    refine Wp.call rfl (by decide) (s_X12_of_ok (d := d + 3) hy ?_)
    show Wp (d + 4, 296, 62, 0, 0, [some (fA 122), some (fI l1), some (fI l2), _, some (fI l4), _, _, _], [fI y59, fI y53]) (156, fjl L, M) Q
    refine Wp.br rfl (fun (c : y53 ≤ y59) => ?_) (fun (c : ¬ (y53 ≤ y59)) => ?_)
    · replace h := fps c h
      obtain ⟨g0, h⟩ := fgd h
      refine Wp.run 2 (f' := (d + 4, 296, 39, 0, 0, [some (fA 122), some (fI l1), some (fI l2), _, some (fI (fw (l4 + 1))), _, _, _], [])) (h' := (156, fjl L, M)) rfl trivial ?_
      rw [fw_id g0]
      exact hC _ _ _ _ _ (Option.some.inj h).symm
    · replace h := fng c h
      refine Wp.run 1 (f' := (d + 4, 296, 66, 0, 0, [_, _, _, _, _, _, _, _], [fI 2])) (h' := (156, fjl L, M)) rfl trivial ?_
      exact Wp.done rfl (by decide) (hR _ (Option.some.inj h).symm)
theorem s_X12_blame_b39_fr {M : fM} {l1 l2 l4 : Int} {r : (Int ⊕ (Unit ⊕ (Int × fM)))} (h : s_X12_blame_b39 M l1 l2 l4 = some r) : fSame s_X12_blame_mods M (Sum.elim (fun _ => M) (Sum.elim (fun _ => M) (fun v => v.2)) r) := by
  unfold s_X12_blame_b39 at h
  by_cases c : 12 ≤ l4
  · replace h := fps c h
    obtain rfl := Option.some.inj h
    exact fs_refl
  · replace h := fng c h
    replace h := (fgd h).2
    obtain ⟨y53, hy, h⟩ := fbd h
    obtain ⟨y59, hy, h⟩ := fbd h
    by_cases c : y53 ≤ y59
    · replace h := fps c h
      replace h := (fgd h).2
      obtain rfl := Option.some.inj h
      exact fs_refl
    · replace h := fng c h
      obtain rfl := Option.some.inj h
      exact fs_refl
noncomputable def s_X12_blame_l39 (M : fM) (l1 l2 : Int) (s : Int) : Option (Unit ⊕ (Int × fM)) := fLp (fun s => s_X12_blame_b39 M l1 l2 s) s
theorem s_X12_blame_l39_ok {d L : Nat} {M : fM} {l1 l2 l4 : Int} {o3 o5 o6 o7 : Option fV} {r : (Unit ⊕ (Int × fM))} {Q : fO → fH → Prop} (h : s_X12_blame_l39 M l1 l2 l4 = some r) (hE : ∀ (e : Unit) (o3' o4' o5' o6' o7' : Option fV), r = .inl e → Wp (d + 4, 296, 73, 0, 0, [some (fA 122), some (fI l1), some (fI l2), o3', o4', o5', o6', o7'], []) (156, fjl L, M) Q) (hR : ∀ (v : (Int × fM)), r = .inr v → Q (oI v.1) (156, fjl L, v.2)) : Wp (d + 4, 296, 39, 0, 0, [some (fA 122), some (fI l1), some (fI l2), o3, some (fI l4), o5, o6, o7], []) (156, fjl L, M) Q := by
  refine fLp_wp (W := fun s => ∀ (o3 o5 o6 o7 : Option fV), Wp (d + 4, 296, 39, 0, 0, [some (fA 122), some (fI l1), some (fI l2), o3, some (fI s), o5, o6, o7], []) (156, fjl L, M) Q) (e := r) ?_ h _ _ _ _
  intro s r1 h hC hX o3 o5 o6 o7
  refine s_X12_blame_b39_ok (d := d) h (fun a0 _ _ _ _ e1 => ?_) (fun e u0 u1 u2 u3 u4 e1 => hE e u0 u1 u2 u3 u4 (hX _ e1).symm) (fun v e1 => hR v (hX _ e1).symm)
  exact hC _ e1 _ _ _ _
theorem s_X12_blame_l39_fr {M : fM} {l1 l2 l4 : Int} {r : (Unit ⊕ (Int × fM))} (h : s_X12_blame_l39 M l1 l2 l4 = some r) : fSame s_X12_blame_mods M ((Sum.elim (fun _ => M) (fun v => v.2)) r) := by
  refine fLp_inv (I := fun s => fSame s_X12_blame_mods M M) (J := fun r => fSame s_X12_blame_mods M ((Sum.elim (fun _ => M) (fun v => v.2)) r)) h fs_refl (fun s s1 hs hb => ?_) (fun s e hs hb => ?_)
  · exact fs_trans hs (s_X12_blame_b39_fr hb)
  · exact fs_trans hs (s_X12_blame_b39_fr hb)
noncomputable def s_X12_blame_b105 (M : fM) (l1 l2 l4 l5 l6 : Int) : Option ((Int × Int) ⊕ Int) :=
  if 12 ≤ l6 then
    some (.inr l4)
  else
    (s_X12_offsetOf M l6 l2 0).bind fun y117 =>
      if fin (y117 - l5) then
        (s_X12_plain M (y117 - l5)).bind fun y123 =>
          if y123 ≤ l4 then
            if fin (l6 + 1) then
              some (.inl (l4, (l6 + 1)))
            else none
          else
            if fin (l6 + 1) then
              some (.inl (y123, (l6 + 1)))
            else none
      else none
theorem s_X12_blame_b105_ok {d L : Nat} {M : fM} {l1 l2 l4 l5 l6 : Int} {o3 o7 : Option fV} {r : ((Int × Int) ⊕ Int)} {Q : fO → fH → Prop} (h : s_X12_blame_b105 M l1 l2 l4 l5 l6 = some r) (hC : ∀ (l4' l6' : Int) (o3' o7' : Option fV), r = .inl (l4', l6') → Wp (d + 4, 296, 105, 0, 0, [some (fA 122), some (fI l1), some (fI l2), o3', some (fI l4'), some (fI l5), some (fI l6'), o7'], []) (156, fjl L, M) Q) (hE : ∀ (e : Int) (o2' o3' o5' o6' o7' : Option fV), r = .inr e → Wp (d + 4, 296, 150, 0, 0, [some (fA 122), some (fI l1), o2', o3', some (fI e), o5', o6', o7'], []) (156, fjl L, M) Q) : Wp (d + 4, 296, 105, 0, 0, [some (fA 122), some (fI l1), some (fI l2), o3, some (fI l4), some (fI l5), some (fI l6), o7], []) (156, fjl L, M) Q := by
  unfold s_X12_blame_b105 at h
  refine Wp.run 2 (f' := (d + 4, 296, 109, 0, 0, [some (fA 122), some (fI l1), some (fI l2), _, some (fI l4), some (fI l5), some (fI l6), _], [fI 12, fI l6])) (h' := (156, fjl L, M)) rfl trivial ?_
  refine Wp.br rfl (fun (c : 12 ≤ l6) => ?_) (fun (c : ¬ (12 ≤ l6)) => ?_)
  · replace h := fps c h
    exact hE _ _ _ _ _ _ (Option.some.inj h).symm
  · replace h := fng c h
    refine Wp.run 4 (f' := (d + 4, 296, 117, 0, 0, [some (fA 122), some (fI l1), some (fI l2), _, some (fI l4), some (fI l5), some (fI l6), _], [fI 0, fI l2, fI l6, fA 122])) (h' := (156, fjl L, M)) rfl trivial ?_
    obtain ⟨y117, hy, h⟩ := fbd h
    refine Wp.call rfl (by decide) (s_X12_offsetOf_ok (d := d + 3) hy ?_)
    show Wp (d + 4, 296, 120, 0, 0, [some (fA 122), some (fI l1), some (fI l2), _, some (fI l4), some (fI l5), some (fI l6), _], [fI y117]) (156, fjl L, M) Q
    obtain ⟨g0, h⟩ := fgd h
    refine Wp.run 2 (f' := (d + 4, 296, 123, 0, 0, [some (fA 122), some (fI l1), some (fI l2), _, some (fI l4), some (fI l5), some (fI l6), _], [fI (fw (y117 - l5))])) (h' := (156, fjl L, M)) rfl trivial ?_
    rw [fw_id g0]
    obtain ⟨y123, hy, h⟩ := fbd h
    refine Wp.call rfl (by decide) (s_X12_plain_ok (d := d + 3) hy ?_)
    show Wp (d + 4, 296, 126, 0, 0, [some (fA 122), some (fI l1), some (fI l2), _, some (fI l4), some (fI l5), some (fI l6), _], [fI y123]) (156, fjl L, M) Q
    refine Wp.run 3 (f' := (d + 4, 296, 132, 0, 0, [some (fA 122), some (fI l1), some (fI l2), _, some (fI l4), some (fI l5), some (fI l6), some (fI y123)], [fI l4, fI y123])) (h' := (156, fjl L, M)) rfl trivial ?_
    refine Wp.br rfl (fun (c : y123 ≤ l4) => ?_) (fun (c : ¬ (y123 ≤ l4)) => ?_)
    · replace h := fps c h
      obtain ⟨g0, h⟩ := fgd h
      refine Wp.run 4 (f' := (d + 4, 296, 105, 0, 0, [some (fA 122), some (fI l1), some (fI l2), _, some (fI l4), some (fI l5), some (fI (fw (l6 + 1))), _], [])) (h' := (156, fjl L, M)) rfl trivial ?_
      rw [fw_id g0]
      exact hC _ _ _ _ (Option.some.inj h).symm
    · replace h := fng c h
      obtain ⟨g0, h⟩ := fgd h
      refine Wp.run 5 (f' := (d + 4, 296, 105, 0, 0, [some (fA 122), some (fI l1), some (fI l2), _, some (fI y123), some (fI l5), some (fI (fw (l6 + 1))), _], [])) (h' := (156, fjl L, M)) rfl trivial ?_
      rw [fw_id g0]
      exact hC _ _ _ _ (Option.some.inj h).symm
theorem s_X12_blame_b105_fr {M : fM} {l1 l2 l4 l5 l6 : Int} {r : ((Int × Int) ⊕ Int)} (h : s_X12_blame_b105 M l1 l2 l4 l5 l6 = some r) : fSame s_X12_blame_mods M (Sum.elim (fun _ => M) (fun _ => M) r) := by
  unfold s_X12_blame_b105 at h
  by_cases c : 12 ≤ l6
  · replace h := fps c h
    obtain rfl := Option.some.inj h
    exact fs_refl
  · replace h := fng c h
    obtain ⟨y117, hy, h⟩ := fbd h
    replace h := (fgd h).2
    obtain ⟨y123, hy, h⟩ := fbd h
    by_cases c : y123 ≤ l4
    · replace h := fps c h
      replace h := (fgd h).2
      obtain rfl := Option.some.inj h
      exact fs_refl
    · replace h := fng c h
      replace h := (fgd h).2
      obtain rfl := Option.some.inj h
      exact fs_refl
noncomputable def s_X12_blame_l105 (M : fM) (l1 l2 l5 : Int) (s : (Int × Int)) : Option Int := fLp (fun s => s_X12_blame_b105 M l1 l2 s.1 l5 s.2) s
theorem s_X12_blame_l105_ok {d L : Nat} {M : fM} {l1 l2 l4 l5 l6 : Int} {o3 o7 : Option fV} {r : Int} {Q : fO → fH → Prop} (h : s_X12_blame_l105 M l1 l2 l5 (l4, l6) = some r) (hE : ∀ (e : Int) (o2' o3' o5' o6' o7' : Option fV), r = e → Wp (d + 4, 296, 150, 0, 0, [some (fA 122), some (fI l1), o2', o3', some (fI e), o5', o6', o7'], []) (156, fjl L, M) Q) : Wp (d + 4, 296, 105, 0, 0, [some (fA 122), some (fI l1), some (fI l2), o3, some (fI l4), some (fI l5), some (fI l6), o7], []) (156, fjl L, M) Q := by
  refine fLp_wp (W := fun s => ∀ (o3 o7 : Option fV), Wp (d + 4, 296, 105, 0, 0, [some (fA 122), some (fI l1), some (fI l2), o3, some (fI s.1), some (fI l5), some (fI s.2), o7], []) (156, fjl L, M) Q) (e := r) ?_ h _ _
  intro s r1 h hC hX o3 o7
  refine s_X12_blame_b105_ok (d := d) h (fun a0 a1 _ _ e1 => ?_) (fun e u0 u1 u2 u3 u4 e1 => hE e u0 u1 u2 u3 u4 (hX _ e1).symm)
  exact hC _ e1 _ _
noncomputable def s_X12_blame (M : fM) (l1 l2 l3 : Int) : Option (Int × fM) :=
  (s_X12_isBeyond M l1 l2 l3).bind fun y4 =>
    if ¬ y4.1 = 0 then
      if fin (l2 - 7) then
        (s_X12_isTunedIn y4.2 l1 (l2 - 7) l2 l3).bind fun y20 =>
          if ¬ y20 = 0 then
            (s_X12_course y4.2 l1 l2 l3).bind fun y32 =>
              (s_X12_blame_l39 y32.2 l1 l2 0).bind fun e39 =>
                Sum.elim (fun x39 =>
                  (s_X12_passTo y32.2 l2).bind fun y75 =>
                    if fin (13 + (fdiv l2 7)) ∧ (0 ≤ (13 + (fdiv l2 7)) ∧ (13 + (fdiv l2 7)) < 1290) ∧ fin ((y75.2 124 (13 + (fdiv l2 7)).toNat) - (y75.2 122 28)) ∧ fin (5 * ((y75.2 124 (13 + (fdiv l2 7)).toNat) - (y75.2 122 28))) then
                      (s_X12_blame_l105 y75.2 l1 l2 (5 * ((y75.2 124 (13 + (fdiv l2 7)).toNat) - (y75.2 122 28))) (0, 0)).bind fun e105 =>
                        (s_X12_of y75.2 l1 3).bind fun y155 =>
                          if y155 < e105 then
                            some (4, y75.2)
                          else
                            some (3, y75.2)
                    else none)
                  (fun v39 => some v39) e39
          else
            some (1, y4.2)
      else none
    else
      some (0, y4.2)
theorem s_X12_blame_ok {d L : Nat} {M : fM} {l1 l2 l3 : Int} {r : (Int × fM)} {Q : fO → fH → Prop} (h : s_X12_blame M l1 l2 l3 = some r) (H : Q (oI r.1) (156, fjl L, r.2)) : Wp (d + 4, 296, 0, 0, 0, [some (fA 122), some (fI l1), some (fI l2), some (fI l3), none, none, none, none], []) (156, fjl L, M) Q := by
  unfold s_X12_blame at h
  refine Wp.run 4 (f' := (d + 4, 296, 4, 0, 0, [some (fA 122), some (fI l1), some (fI l2), some (fI l3), _, _, _, _], [fI l3, fI l2, fI l1, fA 122])) (h' := (156, fjl L, M)) rfl trivial ?_
  obtain ⟨y4, hy, h⟩ := fbd h
  refine Wp.call rfl (by decide) (s_X12_isBeyond_ok (d := d + 0) hy ?_)
  show Wp (d + 4, 296, 7, 0, 0, [some (fA 122), some (fI l1), some (fI l2), some (fI l3), _, _, _, _], [fI y4.1]) (156, fjl L, y4.2) Q
  refine Wp.br rfl (fun (c : ¬ y4.1 = 0) => ?_) (fun (c : ¬ (¬ y4.1 = 0)) => ?_)
  · replace h := fps c h
    obtain ⟨g0, h⟩ := fgd h
    refine Wp.run 7 (f' := (d + 4, 296, 20, 0, 0, [some (fA 122), some (fI l1), some (fI l2), some (fI l3), _, _, _, _], [fI l3, fI l2, fI (fw (l2 - 7)), fI l1, fA 122])) (h' := (156, fjl L, y4.2)) rfl trivial ?_
    rw [fw_id g0]
    obtain ⟨y20, hy, h⟩ := fbd h
    refine Wp.call rfl (by decide) (s_X12_isTunedIn_ok (d := d + 2) hy ?_)
    show Wp (d + 4, 296, 23, 0, 0, [some (fA 122), some (fI l1), some (fI l2), some (fI l3), _, _, _, _], [fI y20]) (156, fjl L, y4.2) Q
    refine Wp.br rfl (fun (c : ¬ y20 = 0) => ?_) (fun (c : ¬ (¬ y20 = 0)) => ?_)
    · replace h := fps c h
      refine Wp.run 4 (f' := (d + 4, 296, 32, 0, 0, [some (fA 122), some (fI l1), some (fI l2), _, _, _, _, _], [fI l3, fI l2, fI l1, fA 122])) (h' := (156, fjl L, y4.2)) rfl trivial ?_
      obtain ⟨y32, hy, h⟩ := fbd h
      refine Wp.call rfl (by decide) (s_X12_course_ok (d := d + 1) hy ?_)
      show Wp (d + 4, 296, 35, 0, 0, [some (fA 122), some (fI l1), some (fI l2), _, _, _, _, _], [fI y32.1]) (156, fjl L, y32.2) Q
      refine Wp.run 3 (f' := (d + 4, 296, 39, 0, 0, [some (fA 122), some (fI l1), some (fI l2), _, some (fI 0), _, _, _], [])) (h' := (156, fjl L, y32.2)) rfl trivial ?_
      obtain ⟨e39, hy, h⟩ := fbd h
      refine s_X12_blame_l39_ok hy (fun x39 u3 u4 u5 u6 u7 ex => ?_) (fun v39 ex => ?_)
      · subst ex
        replace h := fsl h
        show Wp (d + 4, 296, 73, 0, 0, [some (fA 122), some (fI l1), some (fI l2), u3, u4, u5, u6, u7], []) (156, fjl L, y32.2) Q
        refine Wp.run 2 (f' := (d + 4, 296, 75, 0, 0, [some (fA 122), some (fI l1), some (fI l2), _, _, _, _, _], [fI l2, fA 122])) (h' := (156, fjl L, y32.2)) rfl trivial ?_
        obtain ⟨y75, hy, h⟩ := fbd h
        refine Wp.call rfl (by decide) (s_X12_passTo_ok (d := d + 1) hy ?_)
        show Wp (d + 4, 296, 78, 0, 0, [some (fA 122), some (fI l1), some (fI l2), _, _, _, _, _], []) (156, fjl L, y75.2) Q
        obtain ⟨⟨g0, g1, g2, g3⟩, h⟩ := fgd h
        refine Wp.run 16 (P := [(7 : Int) ≠ 0, 0 ≤ (fw (13 + (fdiv l2 7))) ∧ (fw (13 + (fdiv l2 7))) < 1290]) (f' := (d + 4, 296, 102, 0, 0, [some (fA 122), some (fI l1), some (fI l2), _, some (fI 0), some (fI (fw (5 * (fw ((y75.2 124 (fw (13 + (fdiv l2 7))).toNat) - (y75.2 122 28)))))), _, _], [])) (h' := (156, fjl L, y75.2)) rfl ?_ ?_
        · rw [fw_id g0]; exact ⟨(by decide : (7 : Int) ≠ 0), g1⟩
        rw [fw_id g0, fw_id g2, fw_id g3]
        refine Wp.run 2 (f' := (d + 4, 296, 105, 0, 0, [some (fA 122), some (fI l1), some (fI l2), _, some (fI 0), some (fI (5 * ((y75.2 124 (13 + (fdiv l2 7)).toNat) - (y75.2 122 28)))), some (fI 0), _], [])) (h' := (156, fjl L, y75.2)) rfl trivial ?_
        obtain ⟨e105, hy, h⟩ := fbd h
        refine s_X12_blame_l105_ok hy (fun x u2 u3 u5 u6 u7 ex => ?_)
        cases ex
        show Wp (d + 4, 296, 150, 0, 0, [some (fA 122), some (fI l1), u2, u3, some (fI e105), u5, u6, u7], []) (156, fjl L, y75.2) Q
        refine Wp.run 4 (f' := (d + 4, 296, 155, 0, 0, [_, _, _, _, _, _, _, _], [fI 3, fI l1, fA 122, fI e105])) (h' := (156, fjl L, y75.2)) rfl trivial ?_
        obtain ⟨y155, hy, h⟩ := fbd h
        refine Wp.call rfl (by decide) (s_X12_of_ok (d := d + 3) hy ?_)
        show Wp (d + 4, 296, 158, 0, 0, [_, _, _, _, _, _, _, _], [fI y155, fI e105]) (156, fjl L, y75.2) Q
        refine Wp.br rfl (fun (c : y155 < e105) => ?_) (fun (c : ¬ (y155 < e105)) => ?_)
        · replace h := fps c h
          refine Wp.run 1 (f' := (d + 4, 296, 166, 0, 0, [_, _, _, _, _, _, _, _], [fI 4])) (h' := (156, fjl L, y75.2)) rfl trivial ?_
          obtain rfl := Option.some.inj h
          exact Wp.done rfl (by decide) H
        · replace h := fng c h
          refine Wp.run 2 (f' := (d + 4, 296, 166, 0, 0, [_, _, _, _, _, _, _, _], [fI 3])) (h' := (156, fjl L, y75.2)) rfl trivial ?_
          obtain rfl := Option.some.inj h
          exact Wp.done rfl (by decide) H
      · subst ex
        replace h := fsr h
        obtain rfl := Option.some.inj h
        exact H
    · replace h := fng c h
      refine Wp.run 1 (f' := (d + 4, 296, 27, 0, 0, [_, _, _, _, _, _, _, _], [fI 1])) (h' := (156, fjl L, y4.2)) rfl trivial ?_
      obtain rfl := Option.some.inj h
      exact Wp.done rfl (by decide) H
  · replace h := fng c h
    refine Wp.run 1 (f' := (d + 4, 296, 11, 0, 0, [_, _, _, _, _, _, _, _], [fI 0])) (h' := (156, fjl L, y4.2)) rfl trivial ?_
    obtain rfl := Option.some.inj h
    exact Wp.done rfl (by decide) H
theorem s_X12_blame_fr {M : fM} {l1 l2 l3 : Int} {r : (Int × fM)} (h : s_X12_blame M l1 l2 l3 = some r) : fSame s_X12_blame_mods M r.2 := by
  unfold s_X12_blame at h
  obtain ⟨y4, hy, h⟩ := fbd h
  have k4 := fs_trans (l := s_X12_blame_mods) fs_refl (fs_mono (l := s_X12_isBeyond_mods) (by decide) (s_X12_isBeyond_fr hy))
  by_cases c : ¬ y4.1 = 0
  · replace h := fps c h
    replace h := (fgd h).2
    obtain ⟨y20, hy, h⟩ := fbd h
    by_cases c : ¬ y20 = 0
    · replace h := fps c h
      obtain ⟨y32, hy, h⟩ := fbd h
      have k32 := fs_trans (l := s_X12_blame_mods) k4 (fs_mono (l := s_X12_course_mods) (by decide) (s_X12_course_fr hy))
      obtain ⟨e39, hy, h⟩ := fbd h
      have k39 := fs_trans (l := s_X12_blame_mods) k32 (s_X12_blame_l39_fr hy)
      rcases e39 with x39 | v39
      · replace h := fsl h
        obtain ⟨y75, hy, h⟩ := fbd h
        have k75 := fs_trans (l := s_X12_blame_mods) k32 (fs_mono (l := s_X12_passTo_mods) (by decide) (s_X12_passTo_fr hy))
        replace h := (fgd h).2
        obtain ⟨e105, hy, h⟩ := fbd h
        obtain ⟨y155, hy, h⟩ := fbd h
        by_cases c : y155 < e105
        · replace h := fps c h
          obtain rfl := Option.some.inj h
          exact k75
        · replace h := fng c h
          obtain rfl := Option.some.inj h
          exact k75
      · replace h := fsr h
        obtain rfl := Option.some.inj h
        exact k39
    · replace h := fng c h
      obtain rfl := Option.some.inj h
      exact k4
  · replace h := fng c h
    obtain rfl := Option.some.inj h
    exact k4
abbrev s_X12_whose_mods : List (Nat × Option Nat) := [(122, some 0), (122, some 24), (122, some 25), (122, some 26), (122, some 27), (122, some 28), (128, none), (129, none)]
noncomputable def s_X12_whose_b42 (M : fM) (l1 l3 l4 l5 : Int) : Option ((Int × Int × fM) ⊕ (fM ⊕ (Int × fM))) :=
  if (M 122 10) ≤ l5 then
    some (.inr (.inl M))
  else
    (s_X12_isOf M l5 5 l1 364 l3).bind fun y60 =>
      if ¬ y60 = 0 then
        if ¬ l4 = 0 then
          if fin (l4 + (-1)) ∧ fin (l5 + 1) then
            some (.inl ((l4 + (-1)), (l5 + 1), M))
          else none
        else
          if fin (19 * l5) ∧ fin ((19 * l5) + 2) ∧ (0 ≤ ((19 * l5) + 2) ∧ ((19 * l5) + 2) < 3800) then
            (s_X12_blame M l1 (M 125 ((19 * l5) + 2).toNat) l3).bind fun y89 =>
              some (.inr (.inr (y89.1, y89.2)))
          else none
      else
        if fin (l5 + 1) then
          some (.inl (l4, (l5 + 1), M))
        else none
theorem s_X12_whose_b42_ok {d L : Nat} {M : fM} {l1 l3 l4 l5 : Int} {o2 : Option fV} {r : ((Int × Int × fM) ⊕ (fM ⊕ (Int × fM)))} {Q : fO → fH → Prop} (h : s_X12_whose_b42 M l1 l3 l4 l5 = some r) (hC : ∀ (l4' l5' : Int) (M' : fM) (o2' : Option fV), r = .inl (l4', l5', M') → Wp (d + 5, 295, 42, 0, 0, [some (fA 122), some (fI l1), o2', some (fI l3), some (fI l4'), some (fI l5')], []) (156, fjl L, M') Q) (hE : ∀ (e : fM) (o0' o1' o2' o3' o4' o5' : Option fV), r = .inr (.inl e) → Wp (d + 5, 295, 102, 0, 0, [o0', o1', o2', o3', o4', o5'], []) (156, fjl L, e) Q) (hR : ∀ (v : (Int × fM)), r = .inr (.inr v) → Q (oI v.1) (156, fjl L, v.2)) : Wp (d + 5, 295, 42, 0, 0, [some (fA 122), some (fI l1), o2, some (fI l3), some (fI l4), some (fI l5)], []) (156, fjl L, M) Q := by
  unfold s_X12_whose_b42 at h
  refine Wp.run 3 (f' := (d + 5, 295, 48, 0, 0, [some (fA 122), some (fI l1), _, some (fI l3), some (fI l4), some (fI l5)], [fI (M 122 10), fI l5])) (h' := (156, fjl L, M)) rfl trivial ?_
  refine Wp.br rfl (fun (c : (M 122 10) ≤ l5) => ?_) (fun (c : ¬ ((M 122 10) ≤ l5)) => ?_)
  · replace h := fps c h
    exact hE _ _ _ _ _ _ _ (Option.some.inj h).symm
  · replace h := fng c h
    refine Wp.run 6 (f' := (d + 5, 295, 60, 0, 0, [some (fA 122), some (fI l1), _, some (fI l3), some (fI l4), some (fI l5)], [fI l3, fI 364, fI l1, fI 5, fI l5, fA 122])) (h' := (156, fjl L, M)) rfl trivial ?_
    obtain ⟨y60, hy, h⟩ := fbd h
    refine Wp.call rfl (by decide) (s_X12_isOf_ok (d := d + 4) hy ?_)
    show Wp (d + 5, 295, 63, 0, 0, [some (fA 122), some (fI l1), _, some (fI l3), some (fI l4), some (fI l5)], [fI y60]) (156, fjl L, M) Q
    refine Wp.br rfl (fun (c : ¬ y60 = 0) => ?_) (fun (c : ¬ (¬ y60 = 0)) => ?_)
    · replace h := fps c h
      refine Wp.run 1 (f' := (d + 5, 295, 71, 0, 0, [some (fA 122), some (fI l1), _, some (fI l3), some (fI l4), some (fI l5)], [fI l4])) (h' := (156, fjl L, M)) rfl trivial ?_
      refine Wp.br rfl (fun (c : ¬ l4 = 0) => ?_) (fun (c : ¬ (¬ l4 = 0)) => ?_)
      · replace h := fps c h
        obtain ⟨⟨g0, g1⟩, h⟩ := fgd h
        refine Wp.run 3 (f' := (d + 5, 295, 42, 0, 0, [some (fA 122), some (fI l1), _, some (fI l3), some (fI (fw (l4 + (-1)))), some (fI (fw (l5 + 1)))], [])) (h' := (156, fjl L, M)) rfl trivial ?_
        rw [fw_id g0, fw_id g1]
        exact hC _ _ _ _ (Option.some.inj h).symm
      · replace h := fng c h
        obtain ⟨⟨g0, g1, g2⟩, h⟩ := fgd h
        refine Wp.run 11 (P := [0 ≤ (fw ((fw (19 * l5)) + 2)) ∧ (fw ((fw (19 * l5)) + 2)) < 3800]) (f' := (d + 5, 295, 89, 0, 0, [_, _, _, _, _, _], [fI l3, fI (M 125 (fw ((fw (19 * l5)) + 2)).toNat), fI l1, fA 122])) (h' := (156, fjl L, M)) rfl ?_ ?_
        · rw [fw_id g0, fw_id g1]; exact g2
        rw [fw_id g0, fw_id g1]
        obtain ⟨y89, hy, h⟩ := fbd h
        refine Wp.call rfl (by decide) (s_X12_blame_ok (d := d + 0) hy ?_)
        show Wp (d + 5, 295, 92, 0, 0, [_, _, _, _, _, _], [fI y89.1]) (156, fjl L, y89.2) Q
        exact Wp.done rfl (by decide) (hR _ (Option.some.inj h).symm)
    · replace h := fng c h
      obtain ⟨g0, h⟩ := fgd h
      refine Wp.run 3 (f' := (d + 5, 295, 42, 0, 0, [some (fA 122), some (fI l1), _, some (fI l3), some (fI l4), some (fI (fw (l5 + 1)))], [])) (h' := (156, fjl L, M)) rfl trivial ?_
      rw [fw_id g0]
      exact hC _ _ _ _ (Option.some.inj h).symm
theorem s_X12_whose_b42_fr {M : fM} {l1 l3 l4 l5 : Int} {r : ((Int × Int × fM) ⊕ (fM ⊕ (Int × fM)))} (h : s_X12_whose_b42 M l1 l3 l4 l5 = some r) : fSame s_X12_whose_mods M (Sum.elim (fun s => s.2.2) (Sum.elim (fun e => e) (fun v => v.2)) r) := by
  unfold s_X12_whose_b42 at h
  by_cases c : (M 122 10) ≤ l5
  · replace h := fps c h
    obtain rfl := Option.some.inj h
    exact fs_refl
  · replace h := fng c h
    obtain ⟨y60, hy, h⟩ := fbd h
    by_cases c : ¬ y60 = 0
    · replace h := fps c h
      by_cases c : ¬ l4 = 0
      · replace h := fps c h
        replace h := (fgd h).2
        obtain rfl := Option.some.inj h
        exact fs_refl
      · replace h := fng c h
        replace h := (fgd h).2
        obtain ⟨y89, hy, h⟩ := fbd h
        have k89 := fs_trans (l := s_X12_whose_mods) fs_refl (fs_mono (l := s_X12_blame_mods) (by decide) (s_X12_blame_fr hy))
        obtain rfl := Option.some.inj h
        exact k89
    · replace h := fng c h
      replace h := (fgd h).2
      obtain rfl := Option.some.inj h
      exact fs_refl
noncomputable def s_X12_whose_l42 (l1 l3 : Int) (s : (Int × Int × fM)) : Option (fM ⊕ (Int × fM)) := fLp (fun s => s_X12_whose_b42 s.2.2 l1 l3 s.1 s.2.1) s
theorem s_X12_whose_l42_ok {d L : Nat} {M : fM} {l1 l3 l4 l5 : Int} {o2 : Option fV} {r : (fM ⊕ (Int × fM))} {Q : fO → fH → Prop} (h : s_X12_whose_l42 l1 l3 (l4, l5, M) = some r) (hE : ∀ (e : fM) (o0' o1' o2' o3' o4' o5' : Option fV), r = .inl e → Wp (d + 5, 295, 102, 0, 0, [o0', o1', o2', o3', o4', o5'], []) (156, fjl L, e) Q) (hR : ∀ (v : (Int × fM)), r = .inr v → Q (oI v.1) (156, fjl L, v.2)) : Wp (d + 5, 295, 42, 0, 0, [some (fA 122), some (fI l1), o2, some (fI l3), some (fI l4), some (fI l5)], []) (156, fjl L, M) Q := by
  refine fLp_wp (W := fun s => ∀ (o2 : Option fV), Wp (d + 5, 295, 42, 0, 0, [some (fA 122), some (fI l1), o2, some (fI l3), some (fI s.1), some (fI s.2.1)], []) (156, fjl L, s.2.2) Q) (e := r) ?_ h _
  intro s r1 h hC hX o2
  refine s_X12_whose_b42_ok (d := d) h (fun a0 a1 a2 _ e1 => ?_) (fun e u0 u1 u2 u3 u4 u5 e1 => hE e u0 u1 u2 u3 u4 u5 (hX _ e1).symm) (fun v e1 => hR v (hX _ e1).symm)
  exact hC _ e1 _
theorem s_X12_whose_l42_fr {M : fM} {l1 l3 l4 l5 : Int} {r : (fM ⊕ (Int × fM))} (h : s_X12_whose_l42 l1 l3 (l4, l5, M) = some r) : fSame s_X12_whose_mods M ((Sum.elim (fun e => e) (fun v => v.2)) r) := by
  refine fLp_inv (I := fun s => fSame s_X12_whose_mods M s.2.2) (J := fun r => fSame s_X12_whose_mods M ((Sum.elim (fun e => e) (fun v => v.2)) r)) h fs_refl (fun s s1 hs hb => ?_) (fun s e hs hb => ?_)
  · exact fs_trans hs (s_X12_whose_b42_fr hb)
  · exact fs_trans hs (s_X12_whose_b42_fr hb)
noncomputable def s_X12_whose (M : fM) (l1 l2 l3 : Int) : Option (Int × fM) :=
  (s_X12_isPiano (fup M 122 0 0) l1).bind fun y7 =>
    if y7 = 0 then
      some ((-1), (fup M 122 0 0))
    else
      (s_X12_isKnown (fup M 122 0 0) l3).bind fun y14 =>
        if y14 = 0 then
          some ((-1), (fup M 122 0 0))
        else
          (s_X12_of (fup M 122 0 0) l1 0).bind fun y23 =>
            if ¬ y23 = 2 then
              some ((-1), (fup M 122 0 0))
            else
              if 0 ≤ l2 then
                (s_X12_whose_l42 l1 l3 (l2, 0, (fup M 122 0 0))).bind fun e42 =>
                  Sum.elim (fun x42 =>
                    some ((-1), x42))
                    (fun v42 => some v42) e42
              else
                some ((-1), (fup M 122 0 0))
theorem s_X12_whose_ok {d L : Nat} {M : fM} {l1 l2 l3 : Int} {r : (Int × fM)} {Q : fO → fH → Prop} (h : s_X12_whose M l1 l2 l3 = some r) (H : Q (oI r.1) (156, fjl L, r.2)) : Wp (d + 5, 295, 0, 0, 0, [some (fA 122), some (fI l1), some (fI l2), some (fI l3), none, none], []) (156, fjl L, M) Q := by
  unfold s_X12_whose at h
  refine Wp.run 5 (f' := (d + 5, 295, 7, 0, 0, [some (fA 122), some (fI l1), some (fI l2), some (fI l3), _, _], [fI l1, fA 122])) (h' := (156, fjl L, (fup M 122 0 0))) rfl trivial ?_
  obtain ⟨y7, hy, h⟩ := fbd h
  refine Wp.call rfl (by decide) (s_X12_isPiano_ok (d := d + 3) hy ?_)
  show Wp (d + 5, 295, 10, 0, 0, [some (fA 122), some (fI l1), some (fI l2), some (fI l3), _, _], [fI y7]) (156, fjl L, (fup M 122 0 0)) Q
  refine Wp.br rfl (fun (c : y7 = 0) => ?_) (fun (c : ¬ (y7 = 0)) => ?_)
  · replace h := fps c h
    refine Wp.run 1 (f' := (d + 5, 295, 35, 0, 0, [_, _, _, _, _, _], [fI (-1)])) (h' := (156, fjl L, (fup M 122 0 0))) rfl trivial ?_
    obtain rfl := Option.some.inj h
    exact Wp.done rfl (by decide) H
  · replace h := fng c h
    refine Wp.run 1 (f' := (d + 5, 295, 14, 0, 0, [some (fA 122), some (fI l1), some (fI l2), some (fI l3), _, _], [fI l3])) (h' := (156, fjl L, (fup M 122 0 0))) rfl trivial ?_
    obtain ⟨y14, hy, h⟩ := fbd h
    refine Wp.call rfl (by decide) (s_X12_isKnown_ok (d := d + 3) hy ?_)
    show Wp (d + 5, 295, 17, 0, 0, [some (fA 122), some (fI l1), some (fI l2), some (fI l3), _, _], [fI y14]) (156, fjl L, (fup M 122 0 0)) Q
    refine Wp.br rfl (fun (c : y14 = 0) => ?_) (fun (c : ¬ (y14 = 0)) => ?_)
    · replace h := fps c h
      refine Wp.run 1 (f' := (d + 5, 295, 35, 0, 0, [_, _, _, _, _, _], [fI (-1)])) (h' := (156, fjl L, (fup M 122 0 0))) rfl trivial ?_
      obtain rfl := Option.some.inj h
      exact Wp.done rfl (by decide) H
    · replace h := fng c h
      refine Wp.run 3 (f' := (d + 5, 295, 23, 0, 0, [some (fA 122), some (fI l1), some (fI l2), some (fI l3), _, _], [fI 0, fI l1, fA 122])) (h' := (156, fjl L, (fup M 122 0 0))) rfl trivial ?_
      obtain ⟨y23, hy, h⟩ := fbd h
      refine Wp.call rfl (by decide) (s_X12_of_ok (d := d + 4) hy ?_)
      show Wp (d + 5, 295, 26, 0, 0, [some (fA 122), some (fI l1), some (fI l2), some (fI l3), _, _], [fI y23]) (156, fjl L, (fup M 122 0 0)) Q
      refine Wp.run 1 (f' := (d + 5, 295, 27, 0, 0, [some (fA 122), some (fI l1), some (fI l2), some (fI l3), _, _], [fI 2, fI y23])) (h' := (156, fjl L, (fup M 122 0 0))) rfl trivial ?_
      refine Wp.br rfl (fun (c : ¬ y23 = 2) => ?_) (fun (c : ¬ (¬ y23 = 2)) => ?_)
      · replace h := fps c h
        refine Wp.run 1 (f' := (d + 5, 295, 35, 0, 0, [_, _, _, _, _, _], [fI (-1)])) (h' := (156, fjl L, (fup M 122 0 0))) rfl trivial ?_
        obtain rfl := Option.some.inj h
        exact Wp.done rfl (by decide) H
      · replace h := fng c h
        refine Wp.run 1 (f' := (d + 5, 295, 31, 0, 0, [some (fA 122), some (fI l1), some (fI l2), some (fI l3), _, _], [fI l2])) (h' := (156, fjl L, (fup M 122 0 0))) rfl trivial ?_
        refine Wp.br rfl (fun (c : 0 ≤ l2) => ?_) (fun (c : ¬ (0 ≤ l2)) => ?_)
        · replace h := fps c h
          refine Wp.run 4 (f' := (d + 5, 295, 42, 0, 0, [some (fA 122), some (fI l1), _, some (fI l3), some (fI l2), some (fI 0)], [])) (h' := (156, fjl L, (fup M 122 0 0))) rfl trivial ?_
          obtain ⟨e42, hy, h⟩ := fbd h
          refine s_X12_whose_l42_ok hy (fun x42 u0 u1 u2 u3 u4 u5 ex => ?_) (fun v42 ex => ?_)
          · subst ex
            replace h := fsl h
            show Wp (d + 5, 295, 102, 0, 0, [u0, u1, u2, u3, u4, u5], []) (156, fjl L, x42) Q
            refine Wp.run 1 (f' := (d + 5, 295, 103, 0, 0, [_, _, _, _, _, _], [fI (-1)])) (h' := (156, fjl L, x42)) rfl trivial ?_
            obtain rfl := Option.some.inj h
            exact Wp.done rfl (by decide) H
          · subst ex
            replace h := fsr h
            obtain rfl := Option.some.inj h
            exact H
        · replace h := fng c h
          refine Wp.run 1 (f' := (d + 5, 295, 35, 0, 0, [_, _, _, _, _, _], [fI (-1)])) (h' := (156, fjl L, (fup M 122 0 0))) rfl trivial ?_
          obtain rfl := Option.some.inj h
          exact Wp.done rfl (by decide) H
theorem s_X12_whose_fr {M : fM} {l1 l2 l3 : Int} {r : (Int × fM)} (h : s_X12_whose M l1 l2 l3 = some r) : fSame s_X12_whose_mods M r.2 := by
  unfold s_X12_whose at h
  obtain ⟨y7, hy, h⟩ := fbd h
  by_cases c : y7 = 0
  · replace h := fps c h
    obtain rfl := Option.some.inj h
    exact fs_up fs_refl (.inr (by decide))
  · replace h := fng c h
    obtain ⟨y14, hy, h⟩ := fbd h
    by_cases c : y14 = 0
    · replace h := fps c h
      obtain rfl := Option.some.inj h
      exact fs_up fs_refl (.inr (by decide))
    · replace h := fng c h
      obtain ⟨y23, hy, h⟩ := fbd h
      by_cases c : ¬ y23 = 2
      · replace h := fps c h
        obtain rfl := Option.some.inj h
        exact fs_up fs_refl (.inr (by decide))
      · replace h := fng c h
        by_cases c : 0 ≤ l2
        · replace h := fps c h
          obtain ⟨e42, hy, h⟩ := fbd h
          have k42 := fs_trans (l := s_X12_whose_mods) (fs_up fs_refl (.inr (by decide))) (s_X12_whose_l42_fr hy)
          rcases e42 with x42 | v42
          · replace h := fsl h
            obtain rfl := Option.some.inj h
            exact k42
          · replace h := fsr h
            obtain rfl := Option.some.inj h
            exact k42
        · replace h := fng c h
          obtain rfl := Option.some.inj h
          exact fs_up fs_refl (.inr (by decide))
noncomputable def s_X2_feeOf_4_b8 (M : fM) (l1 l2 l3 l4 l5 : Int) : Option ((Int × Int × Int) ⊕ Int) :=
  if (M 4 16) ≤ l5 then
    some (.inr l3)
  else
    if fin (l5 * 3) ∧ fin ((l5 * 3) + 2) ∧ (0 ≤ ((l5 * 3) + 2) ∧ ((l5 * 3) + 2) < 48) ∧ (0 ≤ (l5 * 3) ∧ (l5 * 3) < 48) then
      (s_X2_fact_4 M l1 0).bind fun y42 =>
        if ¬ (M 9 (l5 * 3).toNat) = y42 then
          if fin (l5 + 1) then
            some (.inl (l3, l4, (l5 + 1)))
          else none
        else
          if l2 < (M 9 ((l5 * 3) + 2).toNat) then
            if fin (l5 + 1) then
              some (.inl (l3, l4, (l5 + 1)))
            else none
          else
            if (M 9 ((l5 * 3) + 2).toNat) < l4 then
              if fin (l5 + 1) then
                some (.inl (l3, l4, (l5 + 1)))
              else none
            else
              if fin (l5 * 3) ∧ fin ((l5 * 3) + 1) ∧ (0 ≤ ((l5 * 3) + 1) ∧ ((l5 * 3) + 1) < 48) ∧ fin (l5 + 1) then
                some (.inl ((M 9 ((l5 * 3) + 1).toNat), (M 9 ((l5 * 3) + 2).toNat), (l5 + 1)))
              else none
    else none
theorem s_X2_feeOf_4_b8_ok {d L : Nat} {M : fM} {l1 l2 l3 l4 l5 : Int} {o6 : Option fV} {r : ((Int × Int × Int) ⊕ Int)} {Q : fO → fH → Prop} (h : s_X2_feeOf_4_b8 M l1 l2 l3 l4 l5 = some r) (hC : ∀ (l3' l4' l5' : Int) (o6' : Option fV), r = .inl (l3', l4', l5') → Wp (d + 1, 42, 8, 0, 0, [some (fA 4), some (fI l1), some (fI l2), some (fI l3'), some (fI l4'), some (fI l5'), o6'], []) (156, fjl L, M) Q) (hE : ∀ (e : Int) (o0' o1' o2' o4' o5' o6' : Option fV), r = .inr e → Wp (d + 1, 42, 83, 0, 0, [o0', o1', o2', some (fI e), o4', o5', o6'], []) (156, fjl L, M) Q) : Wp (d + 1, 42, 8, 0, 0, [some (fA 4), some (fI l1), some (fI l2), some (fI l3), some (fI l4), some (fI l5), o6], []) (156, fjl L, M) Q := by
  unfold s_X2_feeOf_4_b8 at h
  refine Wp.run 3 (f' := (d + 1, 42, 14, 0, 0, [some (fA 4), some (fI l1), some (fI l2), some (fI l3), some (fI l4), some (fI l5), _], [fI (M 4 16), fI l5])) (h' := (156, fjl L, M)) rfl trivial ?_
  refine Wp.br rfl (fun (c : (M 4 16) ≤ l5) => ?_) (fun (c : ¬ ((M 4 16) ≤ l5)) => ?_)
  · replace h := fps c h
    exact hE _ _ _ _ _ _ _ (Option.some.inj h).symm
  · replace h := fng c h
    obtain ⟨⟨g0, g1, g2, g3⟩, h⟩ := fgd h
    refine Wp.run 18 (P := [0 ≤ (fw ((fw (l5 * 3)) + 2)) ∧ (fw ((fw (l5 * 3)) + 2)) < 48, 0 ≤ (fw (l5 * 3)) ∧ (fw (l5 * 3)) < 48]) (f' := (d + 1, 42, 42, 0, 0, [some (fA 4), some (fI l1), some (fI l2), some (fI l3), some (fI l4), some (fI l5), some (fI (M 9 (fw ((fw (l5 * 3)) + 2)).toNat))], [fI 0, fI l1, fA 4, fI (M 9 (fw (l5 * 3)).toNat)])) (h' := (156, fjl L, M)) rfl ?_ ?_
    · rw [fw_id g0, fw_id g1]; exact ⟨g2, g3⟩
    rw [fw_id g0, fw_id g1]
    obtain ⟨y42, hy, h⟩ := fbd h
    refine Wp.call rfl (by decide) (s_X2_fact_4_ok (d := d + 0) hy ?_)
    show Wp (d + 1, 42, 45, 0, 0, [some (fA 4), some (fI l1), some (fI l2), some (fI l3), some (fI l4), some (fI l5), some (fI (M 9 ((l5 * 3) + 2).toNat))], [fI y42, fI (M 9 (l5 * 3).toNat)]) (156, fjl L, M) Q
    refine Wp.br rfl (fun (c : ¬ (M 9 (l5 * 3).toNat) = y42) => ?_) (fun (c : ¬ (¬ (M 9 (l5 * 3).toNat) = y42)) => ?_)
    · replace h := fps c h
      obtain ⟨g0, h⟩ := fgd h
      refine Wp.run 2 (f' := (d + 1, 42, 8, 0, 0, [some (fA 4), some (fI l1), some (fI l2), some (fI l3), some (fI l4), some (fI (fw (l5 + 1))), _], [])) (h' := (156, fjl L, M)) rfl trivial ?_
      rw [fw_id g0]
      exact hC _ _ _ _ (Option.some.inj h).symm
    · replace h := fng c h
      refine Wp.run 2 (f' := (d + 1, 42, 51, 0, 0, [some (fA 4), some (fI l1), some (fI l2), some (fI l3), some (fI l4), some (fI l5), some (fI (M 9 ((l5 * 3) + 2).toNat))], [fI l2, fI (M 9 ((l5 * 3) + 2).toNat)])) (h' := (156, fjl L, M)) rfl trivial ?_
      refine Wp.br rfl (fun (c : l2 < (M 9 ((l5 * 3) + 2).toNat)) => ?_) (fun (c : ¬ (l2 < (M 9 ((l5 * 3) + 2).toNat))) => ?_)
      · replace h := fps c h
        obtain ⟨g0, h⟩ := fgd h
        refine Wp.run 2 (f' := (d + 1, 42, 8, 0, 0, [some (fA 4), some (fI l1), some (fI l2), some (fI l3), some (fI l4), some (fI (fw (l5 + 1))), _], [])) (h' := (156, fjl L, M)) rfl trivial ?_
        rw [fw_id g0]
        exact hC _ _ _ _ (Option.some.inj h).symm
      · replace h := fng c h
        refine Wp.run 2 (f' := (d + 1, 42, 58, 0, 0, [some (fA 4), some (fI l1), some (fI l2), some (fI l3), some (fI l4), some (fI l5), some (fI (M 9 ((l5 * 3) + 2).toNat))], [fI l4, fI (M 9 ((l5 * 3) + 2).toNat)])) (h' := (156, fjl L, M)) rfl trivial ?_
        refine Wp.br rfl (fun (c : (M 9 ((l5 * 3) + 2).toNat) < l4) => ?_) (fun (c : ¬ ((M 9 ((l5 * 3) + 2).toNat) < l4)) => ?_)
        · replace h := fps c h
          obtain ⟨g0, h⟩ := fgd h
          refine Wp.run 2 (f' := (d + 1, 42, 8, 0, 0, [some (fA 4), some (fI l1), some (fI l2), some (fI l3), some (fI l4), some (fI (fw (l5 + 1))), _], [])) (h' := (156, fjl L, M)) rfl trivial ?_
          rw [fw_id g0]
          exact hC _ _ _ _ (Option.some.inj h).symm
        · replace h := fng c h
          obtain ⟨⟨g0, g1, g2, g3⟩, h⟩ := fgd h
          refine Wp.run 12 (P := [0 ≤ (fw ((fw (l5 * 3)) + 1)) ∧ (fw ((fw (l5 * 3)) + 1)) < 48]) (f' := (d + 1, 42, 80, 0, 0, [some (fA 4), some (fI l1), some (fI l2), some (fI (M 9 (fw ((fw (l5 * 3)) + 1)).toNat)), some (fI (M 9 ((l5 * 3) + 2).toNat)), some (fI (fw (l5 + 1))), _], [])) (h' := (156, fjl L, M)) rfl ?_ ?_
          · rw [fw_id g0, fw_id g1]; exact g2
          rw [fw_id g0, fw_id g1, fw_id g3]
          refine Wp.run 1 (f' := (d + 1, 42, 8, 0, 0, [some (fA 4), some (fI l1), some (fI l2), some (fI (M 9 ((l5 * 3) + 1).toNat)), some (fI (M 9 ((l5 * 3) + 2).toNat)), some (fI (l5 + 1)), _], [])) (h' := (156, fjl L, M)) rfl trivial ?_
          exact hC _ _ _ _ (Option.some.inj h).symm
noncomputable def s_X2_feeOf_4_l8 (M : fM) (l1 l2 : Int) (s : (Int × Int × Int)) : Option Int := fLp (fun s => s_X2_feeOf_4_b8 M l1 l2 s.1 s.2.1 s.2.2) s
theorem s_X2_feeOf_4_l8_ok {d L : Nat} {M : fM} {l1 l2 l3 l4 l5 : Int} {o6 : Option fV} {r : Int} {Q : fO → fH → Prop} (h : s_X2_feeOf_4_l8 M l1 l2 (l3, l4, l5) = some r) (hE : ∀ (e : Int) (o0' o1' o2' o4' o5' o6' : Option fV), r = e → Wp (d + 1, 42, 83, 0, 0, [o0', o1', o2', some (fI e), o4', o5', o6'], []) (156, fjl L, M) Q) : Wp (d + 1, 42, 8, 0, 0, [some (fA 4), some (fI l1), some (fI l2), some (fI l3), some (fI l4), some (fI l5), o6], []) (156, fjl L, M) Q := by
  refine fLp_wp (W := fun s => ∀ (o6 : Option fV), Wp (d + 1, 42, 8, 0, 0, [some (fA 4), some (fI l1), some (fI l2), some (fI s.1), some (fI s.2.1), some (fI s.2.2), o6], []) (156, fjl L, M) Q) (e := r) ?_ h _
  intro s r1 h hC hX o6
  refine s_X2_feeOf_4_b8_ok (d := d) h (fun a0 a1 a2 _ e1 => ?_) (fun e u0 u1 u2 u3 u4 u5 e1 => hE e u0 u1 u2 u3 u4 u5 (hX _ e1).symm)
  exact hC _ e1 _
noncomputable def s_X2_feeOf_4 (M : fM) (l1 l2 : Int) : Option Int :=
  (s_X2_feeOf_4_l8 M l1 l2 (0, (-1), 0)).bind fun e8 =>
    some e8
theorem s_X2_feeOf_4_ok {d L : Nat} {M : fM} {l1 l2 : Int} {r : Int} {Q : fO → fH → Prop} (h : s_X2_feeOf_4 M l1 l2 = some r) (H : Q (oI r) (156, fjl L, M)) : Wp (d + 1, 42, 0, 0, 0, [some (fA 4), some (fI l1), some (fI l2), none, none, none, none], []) (156, fjl L, M) Q := by
  unfold s_X2_feeOf_4 at h
  refine Wp.run 6 (f' := (d + 1, 42, 8, 0, 0, [some (fA 4), some (fI l1), some (fI l2), some (fI 0), some (fI (-1)), some (fI 0), _], [])) (h' := (156, fjl L, M)) rfl trivial ?_
  obtain ⟨e8, hy, h⟩ := fbd h
  refine s_X2_feeOf_4_l8_ok hy (fun x u0 u1 u2 u4 u5 u6 ex => ?_)
  cases ex
  show Wp (d + 1, 42, 83, 0, 0, [u0, u1, u2, some (fI e8), u4, u5, u6], []) (156, fjl L, M) Q
  refine Wp.run 1 (f' := (d + 1, 42, 84, 0, 0, [_, _, _, _, _, _, _], [fI e8])) (h' := (156, fjl L, M)) rfl trivial ?_
  obtain rfl := Option.some.inj h
  exact Wp.done rfl (by decide) H
noncomputable def s_X11_fee (M : fM) (l1 l2 : Int) : Option Int :=
  (s_X2_hasPiano_4 M l1).bind fun y5 =>
    if y5 = 0 then
      some (-1)
    else
      (s_X11_isWithin M l2 364).bind fun y15 =>
        if ¬ y15 = 0 then
          (s_X2_feeOf_4 M l1 l2).bind fun y29 =>
            some y29
        else
          some (-1)
theorem s_X11_fee_ok {d L : Nat} {M : fM} {l1 l2 : Int} {r : Int} {Q : fO → fH → Prop} (h : s_X11_fee M l1 l2 = some r) (H : Q (oI r) (156, fjl L, M)) : Wp (d + 2, 178, 0, 0, 0, [some (fA 0), some (fI l1), some (fI l2)], []) (156, fjl L, M) Q := by
  unfold s_X11_fee at h
  refine Wp.run 3 (f' := (d + 2, 178, 5, 0, 0, [some (fA 0), some (fI l1), some (fI l2)], [fI l1, fA 4])) (h' := (156, fjl L, M)) rfl trivial ?_
  obtain ⟨y5, hy, h⟩ := fbd h
  refine Wp.call rfl (by decide) (s_X2_hasPiano_4_ok (d := d + 1) hy ?_)
  show Wp (d + 2, 178, 8, 0, 0, [some (fA 0), some (fI l1), some (fI l2)], [fI y5]) (156, fjl L, M) Q
  refine Wp.br rfl (fun (c : y5 = 0) => ?_) (fun (c : ¬ (y5 = 0)) => ?_)
  · replace h := fps c h
    refine Wp.run 1 (f' := (d + 2, 178, 22, 0, 0, [_, _, _], [fI (-1)])) (h' := (156, fjl L, M)) rfl trivial ?_
    obtain rfl := Option.some.inj h
    exact Wp.done rfl (by decide) H
  · replace h := fng c h
    refine Wp.run 2 (f' := (d + 2, 178, 15, 0, 0, [some (fA 0), some (fI l1), some (fI l2)], [fI 364, fI l2])) (h' := (156, fjl L, M)) rfl trivial ?_
    obtain ⟨y15, hy, h⟩ := fbd h
    refine Wp.call rfl (by decide) (s_X11_isWithin_ok (d := d + 1) hy ?_)
    show Wp (d + 2, 178, 18, 0, 0, [some (fA 0), some (fI l1), some (fI l2)], [fI y15]) (156, fjl L, M) Q
    refine Wp.br rfl (fun (c : ¬ y15 = 0) => ?_) (fun (c : ¬ (¬ y15 = 0)) => ?_)
    · replace h := fps c h
      refine Wp.run 4 (f' := (d + 2, 178, 29, 0, 0, [_, _, _], [fI l2, fI l1, fA 4])) (h' := (156, fjl L, M)) rfl trivial ?_
      obtain ⟨y29, hy, h⟩ := fbd h
      refine Wp.call rfl (by decide) (s_X2_feeOf_4_ok (d := d + 0) hy ?_)
      show Wp (d + 2, 178, 32, 0, 0, [_, _, _], [fI y29]) (156, fjl L, M) Q
      obtain rfl := Option.some.inj h
      exact Wp.done rfl (by decide) H
    · replace h := fng c h
      refine Wp.run 1 (f' := (d + 2, 178, 22, 0, 0, [_, _, _], [fI (-1)])) (h' := (156, fjl L, M)) rfl trivial ?_
      obtain rfl := Option.some.inj h
      exact Wp.done rfl (by decide) H
noncomputable def s_X12_feeOf_b5 (M : fM) (l1 l2 l3 l4 : Int) : Option ((Int × Int) ⊕ Int) :=
  if (M 124 117) ≤ l4 then
    some (.inr l3)
  else
    if fin (3 * l4) ∧ fin (118 + (3 * l4)) ∧ (0 ≤ (118 + (3 * l4)) ∧ (118 + (3 * l4)) < 1290) then
      (s_X12_of M l1 0).bind fun y36 =>
        if ¬ (M 124 (118 + (3 * l4)).toNat) = y36 then
          if fin (l4 + 1) then
            some (.inl (l3, (l4 + 1)))
          else none
        else
          if fin ((118 + (3 * l4)) + 2) ∧ (0 ≤ ((118 + (3 * l4)) + 2) ∧ ((118 + (3 * l4)) + 2) < 1290) then
            if l2 < (M 124 ((118 + (3 * l4)) + 2).toNat) then
              if fin (l4 + 1) then
                some (.inl (l3, (l4 + 1)))
              else none
            else
              if l3 < 0 then
                if fin (l4 + 1) then
                  some (.inl ((118 + (3 * l4)), (l4 + 1)))
                else none
              else
                if fin ((118 + (3 * l4)) + 2) ∧ (0 ≤ ((118 + (3 * l4)) + 2) ∧ ((118 + (3 * l4)) + 2) < 1290) ∧ fin (l3 + 2) ∧ (0 ≤ (l3 + 2) ∧ (l3 + 2) < 1290) then
                  if (M 124 ((118 + (3 * l4)) + 2).toNat) < (M 124 (l3 + 2).toNat) then
                    if fin (l4 + 1) then
                      some (.inl (l3, (l4 + 1)))
                    else none
                  else
                    if fin (l4 + 1) then
                      some (.inl ((118 + (3 * l4)), (l4 + 1)))
                    else none
                else none
          else none
    else none
theorem s_X12_feeOf_b5_ok {d L : Nat} {M : fM} {l1 l2 l3 l4 : Int} {o5 : Option fV} {r : ((Int × Int) ⊕ Int)} {Q : fO → fH → Prop} (h : s_X12_feeOf_b5 M l1 l2 l3 l4 = some r) (hC : ∀ (l3' l4' : Int) (o5' : Option fV), r = .inl (l3', l4') → Wp (d + 1, 297, 5, 0, 0, [some (fA 122), some (fI l1), some (fI l2), some (fI l3'), some (fI l4'), o5'], []) (156, fjl L, M) Q) (hE : ∀ (e : Int) (o1' o2' o4' o5' : Option fV), r = .inr e → Wp (d + 1, 297, 88, 0, 0, [some (fA 122), o1', o2', some (fI e), o4', o5'], []) (156, fjl L, M) Q) : Wp (d + 1, 297, 5, 0, 0, [some (fA 122), some (fI l1), some (fI l2), some (fI l3), some (fI l4), o5], []) (156, fjl L, M) Q := by
  unfold s_X12_feeOf_b5 at h
  refine Wp.run 5 (P := [(0 : Int) ≤ 117 ∧ (117 : Int) < 1290]) (f' := (d + 1, 297, 14, 0, 0, [some (fA 122), some (fI l1), some (fI l2), some (fI l3), some (fI l4), _], [fI (M 124 117), fI l4])) (h' := (156, fjl L, M)) rfl ?_ ?_
  · exact (by decide : (0 : Int) ≤ 117 ∧ (117 : Int) < 1290)
  refine Wp.br rfl (fun (c : (M 124 117) ≤ l4) => ?_) (fun (c : ¬ ((M 124 117) ≤ l4)) => ?_)
  · replace h := fps c h
    exact hE _ _ _ _ _ (Option.some.inj h).symm
  · replace h := fng c h
    obtain ⟨⟨g0, g1, g2⟩, h⟩ := fgd h
    refine Wp.run 13 (P := [0 ≤ (fw (118 + (fw (3 * l4)))) ∧ (fw (118 + (fw (3 * l4)))) < 1290]) (f' := (d + 1, 297, 36, 0, 0, [some (fA 122), some (fI l1), some (fI l2), some (fI l3), some (fI l4), some (fI (fw (118 + (fw (3 * l4)))))], [fI 0, fI l1, fA 122, fI (M 124 (fw (118 + (fw (3 * l4)))).toNat)])) (h' := (156, fjl L, M)) rfl ?_ ?_
    · rw [fw_id g0, fw_id g1]; exact g2
    rw [fw_id g0, fw_id g1]
    obtain ⟨y36, hy, h⟩ := fbd h
    refine Wp.call rfl (by decide) (s_X12_of_ok (d := d + 0) hy ?_)
    show Wp (d + 1, 297, 39, 0, 0, [some (fA 122), some (fI l1), some (fI l2), some (fI l3), some (fI l4), some (fI (118 + (3 * l4)))], [fI y36, fI (M 124 (118 + (3 * l4)).toNat)]) (156, fjl L, M) Q
    refine Wp.br rfl (fun (c : ¬ (M 124 (118 + (3 * l4)).toNat) = y36) => ?_) (fun (c : ¬ (¬ (M 124 (118 + (3 * l4)).toNat) = y36)) => ?_)
    · replace h := fps c h
      obtain ⟨g0, h⟩ := fgd h
      refine Wp.run 2 (f' := (d + 1, 297, 5, 0, 0, [some (fA 122), some (fI l1), some (fI l2), some (fI l3), some (fI (fw (l4 + 1))), _], [])) (h' := (156, fjl L, M)) rfl trivial ?_
      rw [fw_id g0]
      exact hC _ _ _ (Option.some.inj h).symm
    · replace h := fng c h
      obtain ⟨⟨g0, g1⟩, h⟩ := fgd h
      refine Wp.run 7 (P := [0 ≤ (fw ((118 + (3 * l4)) + 2)) ∧ (fw ((118 + (3 * l4)) + 2)) < 1290]) (f' := (d + 1, 297, 52, 0, 0, [some (fA 122), some (fI l1), some (fI l2), some (fI l3), some (fI l4), some (fI (118 + (3 * l4)))], [fI l2, fI (M 124 (fw ((118 + (3 * l4)) + 2)).toNat)])) (h' := (156, fjl L, M)) rfl ?_ ?_
      · rw [fw_id g0]; exact g1
      rw [fw_id g0]
      refine Wp.br rfl (fun (c : l2 < (M 124 ((118 + (3 * l4)) + 2).toNat)) => ?_) (fun (c : ¬ (l2 < (M 124 ((118 + (3 * l4)) + 2).toNat))) => ?_)
      · replace h := fps c h
        obtain ⟨g0, h⟩ := fgd h
        refine Wp.run 2 (f' := (d + 1, 297, 5, 0, 0, [some (fA 122), some (fI l1), some (fI l2), some (fI l3), some (fI (fw (l4 + 1))), _], [])) (h' := (156, fjl L, M)) rfl trivial ?_
        rw [fw_id g0]
        exact hC _ _ _ (Option.some.inj h).symm
      · replace h := fng c h
        refine Wp.run 1 (f' := (d + 1, 297, 56, 0, 0, [some (fA 122), some (fI l1), some (fI l2), some (fI l3), some (fI l4), some (fI (118 + (3 * l4)))], [fI l3])) (h' := (156, fjl L, M)) rfl trivial ?_
        refine Wp.br rfl (fun (c : l3 < 0) => ?_) (fun (c : ¬ (l3 < 0)) => ?_)
        · replace h := fps c h
          obtain ⟨g0, h⟩ := fgd h
          refine Wp.run 4 (f' := (d + 1, 297, 5, 0, 0, [some (fA 122), some (fI l1), some (fI l2), some (fI (118 + (3 * l4))), some (fI (fw (l4 + 1))), _], [])) (h' := (156, fjl L, M)) rfl trivial ?_
          rw [fw_id g0]
          exact hC _ _ _ (Option.some.inj h).symm
        · replace h := fng c h
          obtain ⟨⟨g0, g1, g2, g3⟩, h⟩ := fgd h
          refine Wp.run 12 (P := [0 ≤ (fw ((118 + (3 * l4)) + 2)) ∧ (fw ((118 + (3 * l4)) + 2)) < 1290, 0 ≤ (fw (l3 + 2)) ∧ (fw (l3 + 2)) < 1290]) (f' := (d + 1, 297, 76, 0, 0, [some (fA 122), some (fI l1), some (fI l2), some (fI l3), some (fI l4), some (fI (118 + (3 * l4)))], [fI (M 124 (fw (l3 + 2)).toNat), fI (M 124 (fw ((118 + (3 * l4)) + 2)).toNat)])) (h' := (156, fjl L, M)) rfl ?_ ?_
          · rw [fw_id g0, fw_id g2]; exact ⟨g1, g3⟩
          rw [fw_id g0, fw_id g2]
          refine Wp.br rfl (fun (c : (M 124 ((118 + (3 * l4)) + 2).toNat) < (M 124 (l3 + 2).toNat)) => ?_) (fun (c : ¬ ((M 124 ((118 + (3 * l4)) + 2).toNat) < (M 124 (l3 + 2).toNat))) => ?_)
          · replace h := fps c h
            obtain ⟨g0, h⟩ := fgd h
            refine Wp.run 2 (f' := (d + 1, 297, 5, 0, 0, [some (fA 122), some (fI l1), some (fI l2), some (fI l3), some (fI (fw (l4 + 1))), _], [])) (h' := (156, fjl L, M)) rfl trivial ?_
            rw [fw_id g0]
            exact hC _ _ _ (Option.some.inj h).symm
          · replace h := fng c h
            obtain ⟨g0, h⟩ := fgd h
            refine Wp.run 4 (f' := (d + 1, 297, 5, 0, 0, [some (fA 122), some (fI l1), some (fI l2), some (fI (118 + (3 * l4))), some (fI (fw (l4 + 1))), _], [])) (h' := (156, fjl L, M)) rfl trivial ?_
            rw [fw_id g0]
            exact hC _ _ _ (Option.some.inj h).symm
noncomputable def s_X12_feeOf_l5 (M : fM) (l1 l2 : Int) (s : (Int × Int)) : Option Int := fLp (fun s => s_X12_feeOf_b5 M l1 l2 s.1 s.2) s
theorem s_X12_feeOf_l5_ok {d L : Nat} {M : fM} {l1 l2 l3 l4 : Int} {o5 : Option fV} {r : Int} {Q : fO → fH → Prop} (h : s_X12_feeOf_l5 M l1 l2 (l3, l4) = some r) (hE : ∀ (e : Int) (o1' o2' o4' o5' : Option fV), r = e → Wp (d + 1, 297, 88, 0, 0, [some (fA 122), o1', o2', some (fI e), o4', o5'], []) (156, fjl L, M) Q) : Wp (d + 1, 297, 5, 0, 0, [some (fA 122), some (fI l1), some (fI l2), some (fI l3), some (fI l4), o5], []) (156, fjl L, M) Q := by
  refine fLp_wp (W := fun s => ∀ (o5 : Option fV), Wp (d + 1, 297, 5, 0, 0, [some (fA 122), some (fI l1), some (fI l2), some (fI s.1), some (fI s.2), o5], []) (156, fjl L, M) Q) (e := r) ?_ h _
  intro s r1 h hC hX o5
  refine s_X12_feeOf_b5_ok (d := d) h (fun a0 a1 _ e1 => ?_) (fun e u0 u1 u2 u3 e1 => hE e u0 u1 u2 u3 (hX _ e1).symm)
  exact hC _ e1 _
noncomputable def s_X12_feeOf (M : fM) (l1 l2 : Int) : Option Int :=
  (s_X12_feeOf_l5 M l1 l2 ((-1), 0)).bind fun e5 =>
    if 0 ≤ e5 then
      if fin (e5 + 1) ∧ (0 ≤ (e5 + 1) ∧ (e5 + 1) < 1290) then
        some (M 124 (e5 + 1).toNat)
      else none
    else
      some 0
theorem s_X12_feeOf_ok {d L : Nat} {M : fM} {l1 l2 : Int} {r : Int} {Q : fO → fH → Prop} (h : s_X12_feeOf M l1 l2 = some r) (H : Q (oI r) (156, fjl L, M)) : Wp (d + 1, 297, 0, 0, 0, [some (fA 122), some (fI l1), some (fI l2), none, none, none], []) (156, fjl L, M) Q := by
  unfold s_X12_feeOf at h
  refine Wp.run 4 (f' := (d + 1, 297, 5, 0, 0, [some (fA 122), some (fI l1), some (fI l2), some (fI (-1)), some (fI 0), _], [])) (h' := (156, fjl L, M)) rfl trivial ?_
  obtain ⟨e5, hy, h⟩ := fbd h
  refine s_X12_feeOf_l5_ok hy (fun x u1 u2 u4 u5 ex => ?_)
  cases ex
  show Wp (d + 1, 297, 88, 0, 0, [some (fA 122), u1, u2, some (fI e5), u4, u5], []) (156, fjl L, M) Q
  refine Wp.run 1 (f' := (d + 1, 297, 89, 0, 0, [some (fA 122), _, _, some (fI e5), _, _], [fI e5])) (h' := (156, fjl L, M)) rfl trivial ?_
  refine Wp.br rfl (fun (c : 0 ≤ e5) => ?_) (fun (c : ¬ (0 ≤ e5)) => ?_)
  · replace h := fps c h
    obtain ⟨⟨g0, g1⟩, h⟩ := fgd h
    refine Wp.run 6 (P := [0 ≤ (fw (e5 + 1)) ∧ (fw (e5 + 1)) < 1290]) (f' := (d + 1, 297, 104, 0, 0, [_, _, _, _, _, _], [fI (M 124 (fw (e5 + 1)).toNat)])) (h' := (156, fjl L, M)) rfl ?_ ?_
    · rw [fw_id g0]; exact g1
    rw [fw_id g0]
    obtain rfl := Option.some.inj h
    exact Wp.done rfl (by decide) H
  · replace h := fng c h
    refine Wp.run 2 (f' := (d + 1, 297, 104, 0, 0, [_, _, _, _, _, _], [fI 0])) (h' := (156, fjl L, M)) rfl trivial ?_
    obtain rfl := Option.some.inj h
    exact Wp.done rfl (by decide) H
abbrev s_X12_fee_mods : List (Nat × Option Nat) := [(122, some 0)]
noncomputable def s_X12_fee (M : fM) (l1 l2 : Int) : Option (Int × fM) :=
  (s_X12_isPiano (fup M 122 0 0) l1).bind fun y7 =>
    if y7 = 0 then
      some ((-1), (fup M 122 0 0))
    else
      (s_X12_isDay (fup M 122 0 0) l2).bind fun y14 =>
        if y14 = 0 then
          some ((-1), (fup M 122 0 0))
        else
          (s_X12_feeOf (fup M 122 0 0) l1 l2).bind fun y23 =>
            some (y23, (fup M 122 0 0))
theorem s_X12_fee_ok {d L : Nat} {M : fM} {l1 l2 : Int} {r : (Int × fM)} {Q : fO → fH → Prop} (h : s_X12_fee M l1 l2 = some r) (H : Q (oI r.1) (156, fjl L, r.2)) : Wp (d + 2, 298, 0, 0, 0, [some (fA 122), some (fI l1), some (fI l2)], []) (156, fjl L, M) Q := by
  unfold s_X12_fee at h
  refine Wp.run 5 (f' := (d + 2, 298, 7, 0, 0, [some (fA 122), some (fI l1), some (fI l2)], [fI l1, fA 122])) (h' := (156, fjl L, (fup M 122 0 0))) rfl trivial ?_
  obtain ⟨y7, hy, h⟩ := fbd h
  refine Wp.call rfl (by decide) (s_X12_isPiano_ok (d := d + 0) hy ?_)
  show Wp (d + 2, 298, 10, 0, 0, [some (fA 122), some (fI l1), some (fI l2)], [fI y7]) (156, fjl L, (fup M 122 0 0)) Q
  refine Wp.br rfl (fun (c : y7 = 0) => ?_) (fun (c : ¬ (y7 = 0)) => ?_)
  · replace h := fps c h
    refine Wp.run 1 (f' := (d + 2, 298, 30, 0, 0, [_, _, _], [fI (-1)])) (h' := (156, fjl L, (fup M 122 0 0))) rfl trivial ?_
    obtain rfl := Option.some.inj h
    exact Wp.done rfl (by decide) H
  · replace h := fng c h
    refine Wp.run 1 (f' := (d + 2, 298, 14, 0, 0, [some (fA 122), some (fI l1), some (fI l2)], [fI l2])) (h' := (156, fjl L, (fup M 122 0 0))) rfl trivial ?_
    obtain ⟨y14, hy, h⟩ := fbd h
    refine Wp.call rfl (by decide) (s_X12_isDay_ok (d := d + 0) hy ?_)
    show Wp (d + 2, 298, 17, 0, 0, [some (fA 122), some (fI l1), some (fI l2)], [fI y14]) (156, fjl L, (fup M 122 0 0)) Q
    refine Wp.br rfl (fun (c : y14 = 0) => ?_) (fun (c : ¬ (y14 = 0)) => ?_)
    · replace h := fps c h
      refine Wp.run 1 (f' := (d + 2, 298, 30, 0, 0, [_, _, _], [fI (-1)])) (h' := (156, fjl L, (fup M 122 0 0))) rfl trivial ?_
      obtain rfl := Option.some.inj h
      exact Wp.done rfl (by decide) H
    · replace h := fng c h
      refine Wp.run 3 (f' := (d + 2, 298, 23, 0, 0, [_, _, _], [fI l2, fI l1, fA 122])) (h' := (156, fjl L, (fup M 122 0 0))) rfl trivial ?_
      obtain ⟨y23, hy, h⟩ := fbd h
      refine Wp.call rfl (by decide) (s_X12_feeOf_ok (d := d + 0) hy ?_)
      show Wp (d + 2, 298, 26, 0, 0, [_, _, _], [fI y23]) (156, fjl L, (fup M 122 0 0)) Q
      refine Wp.run 1 (f' := (d + 2, 298, 30, 0, 0, [_, _, _], [fI y23])) (h' := (156, fjl L, (fup M 122 0 0))) rfl trivial ?_
      obtain rfl := Option.some.inj h
      exact Wp.done rfl (by decide) H
theorem s_X12_fee_fr {M : fM} {l1 l2 : Int} {r : (Int × fM)} (h : s_X12_fee M l1 l2 = some r) : fSame s_X12_fee_mods M r.2 := by
  unfold s_X12_fee at h
  obtain ⟨y7, hy, h⟩ := fbd h
  by_cases c : y7 = 0
  · replace h := fps c h
    obtain rfl := Option.some.inj h
    exact fs_up fs_refl (.inr (by decide))
  · replace h := fng c h
    obtain ⟨y14, hy, h⟩ := fbd h
    by_cases c : y14 = 0
    · replace h := fps c h
      obtain rfl := Option.some.inj h
      exact fs_up fs_refl (.inr (by decide))
    · replace h := fng c h
      obtain ⟨y23, hy, h⟩ := fbd h
      obtain rfl := Option.some.inj h
      exact fs_up fs_refl (.inr (by decide))
