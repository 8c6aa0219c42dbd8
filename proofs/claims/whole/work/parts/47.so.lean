/-! ===== functions of the methods (printed by genfun.py) ===== -/
abbrev s_X9_tryRest_mods : List (Nat × Option Nat) := [(67, some 4), (67, some 5)]
noncomputable def s_X9_tryRest_b26 (M : fM) (l1 l2 l3 l5 l6 l8 : Int) : Option ((Int × fM) ⊕ fM) :=
  if fin (l1 - l5) then
    (s_X9_mostOf M (l1 - l5)).bind fun y33 =>
      if y33 < l8 then
        some (.inr M)
      else
        (s_X9_chanceWith M l6 3 l8).bind fun y45 =>
          if y45 ≤ (M 67 5) then
            if fin (l8 + 1) then
              some (.inl ((l8 + 1), M))
            else none
          else
            if fin (l2 * 100) ∧ fin (l5 * 10) ∧ fin ((l2 * 100) + (l5 * 10)) ∧ fin (((l2 * 100) + (l5 * 10)) + l8) then
              if fin (l8 + 1) then
                some (.inl ((l8 + 1), (fup (fup M 67 5 y45) 67 4 (((l2 * 100) + (l5 * 10)) + l8))))
              else none
            else none
  else none
theorem s_X9_tryRest_b26_ok {d L : Nat} {M : fM} {l1 l2 l3 l5 l6 l8 : Int} {o9 o10 : Option fV} {r : ((Int × fM) ⊕ fM)} {Q : fO → fH → Prop} (h : s_X9_tryRest_b26 M l1 l2 l3 l5 l6 l8 = some r) (hC : ∀ (l8' : Int) (M' : fM) (o9' o10' : Option fV), r = .inl (l8', M') → Wp (d + 2, 127, 26, 0, 0, [some (fA 67), some (fI l1), some (fI l2), some (fJ l3), none, some (fI l5), some (fJ l6), none, some (fI l8'), o9', o10'], []) (156, fjl L, M') Q) (hE : ∀ (e : fM) (o6' o7' o8' o9' o10' : Option fV), r = .inr e → Wp (d + 2, 127, 89, 0, 0, [some (fA 67), some (fI l1), some (fI l2), some (fJ l3), none, some (fI l5), o6', o7', o8', o9', o10'], []) (156, fjl L, e) Q) : Wp (d + 2, 127, 26, 0, 0, [some (fA 67), some (fI l1), some (fI l2), some (fJ l3), none, some (fI l5), some (fJ l6), none, some (fI l8), o9, o10], []) (156, fjl L, M) Q := by
  unfold s_X9_tryRest_b26 at h
  obtain ⟨g0, h⟩ := fgd h
  refine Wp.run 5 (f' := (d + 2, 127, 33, 0, 0, [some (fA 67), some (fI l1), some (fI l2), some (fJ l3), none, some (fI l5), some (fJ l6), none, some (fI l8), _, _], [fI (fw (l1 - l5)), fA 67, fI l8])) (h' := (156, fjl L, M)) rfl trivial ?_
  rw [fw_id g0]
  obtain ⟨y33, hy, h⟩ := fbd h
  refine Wp.call rfl (by decide) (s_X9_mostOf_ok (d := d + 0) hy ?_)
  show Wp (d + 2, 127, 36, 0, 0, [some (fA 67), some (fI l1), some (fI l2), some (fJ l3), none, some (fI l5), some (fJ l6), none, some (fI l8), _, _], [fI y33, fI l8]) (156, fjl L, M) Q
  refine Wp.br rfl (fun (c : y33 < l8) => ?_) (fun (c : ¬ (y33 < l8)) => ?_)
  · replace h := fps c h
    exact hE _ _ _ _ _ _ (Option.some.inj h).symm
  · replace h := fng c h
    refine Wp.run 4 (f' := (d + 2, 127, 45, 0, 0, [some (fA 67), some (fI l1), some (fI l2), some (fJ l3), none, some (fI l5), some (fJ l6), none, some (fI l8), _, _], [fI l8, fI 3, fJ l6, fA 67])) (h' := (156, fjl L, M)) rfl trivial ?_
    obtain ⟨y45, hy, h⟩ := fbd h
    refine Wp.call rfl (by decide) (s_X9_chanceWith_ok (d := d + 1) hy ?_)
    show Wp (d + 2, 127, 48, 0, 0, [some (fA 67), some (fI l1), some (fI l2), some (fJ l3), none, some (fI l5), some (fJ l6), none, some (fI l8), _, _], [fJ y45]) (156, fjl L, M) Q
    refine Wp.run 5 (f' := (d + 2, 127, 57, 0, 0, [some (fA 67), some (fI l1), some (fI l2), some (fJ l3), none, some (fI l5), some (fJ l6), none, some (fI l8), some (fJ y45), none], [fI (fcm y45 (M 67 5))])) (h' := (156, fjl L, M)) rfl trivial ?_
    refine Wp.br rfl (fun (c : (fcm y45 (M 67 5)) ≤ 0) => ?_) (fun (c : ¬ ((fcm y45 (M 67 5)) ≤ 0)) => ?_)
    · replace c := (fcm_le _ _).mp c
      replace h := fps c h
      obtain ⟨g0, h⟩ := fgd h
      refine Wp.run 2 (f' := (d + 2, 127, 26, 0, 0, [some (fA 67), some (fI l1), some (fI l2), some (fJ l3), none, some (fI l5), some (fJ l6), none, some (fI (fw (l8 + 1))), _, _], [])) (h' := (156, fjl L, M)) rfl trivial ?_
      rw [fw_id g0]
      exact hC _ _ _ _ (Option.some.inj h).symm
    · replace c := fun z => c ((fcm_le _ _).mpr z)
      replace h := fng c h
      obtain ⟨⟨g0, g1, g2, g3⟩, h⟩ := fgd h
      refine Wp.run 14 (f' := (d + 2, 127, 83, 0, 0, [some (fA 67), some (fI l1), some (fI l2), some (fJ l3), none, some (fI l5), some (fJ l6), none, some (fI l8), _, _], [])) (h' := (156, fjl L, (fup (fup M 67 5 y45) 67 4 (fw ((fw ((fw (l2 * 100)) + (fw (l5 * 10)))) + l8))))) rfl trivial ?_
      rw [fw_id g0, fw_id g1, fw_id g2, fw_id g3]
      obtain ⟨g0, h⟩ := fgd h
      refine Wp.run 2 (f' := (d + 2, 127, 26, 0, 0, [some (fA 67), some (fI l1), some (fI l2), some (fJ l3), none, some (fI l5), some (fJ l6), none, some (fI (fw (l8 + 1))), _, _], [])) (h' := (156, fjl L, (fup (fup M 67 5 y45) 67 4 (((l2 * 100) + (l5 * 10)) + l8)))) rfl trivial ?_
      rw [fw_id g0]
      exact hC _ _ _ _ (Option.some.inj h).symm
theorem s_X9_tryRest_b26_fr {M : fM} {l1 l2 l3 l5 l6 l8 : Int} {r : ((Int × fM) ⊕ fM)} (h : s_X9_tryRest_b26 M l1 l2 l3 l5 l6 l8 = some r) : fSame s_X9_tryRest_mods M (Sum.elim (fun s => s.2) (fun e => e) r) := by
  unfold s_X9_tryRest_b26 at h
  replace h := (fgd h).2
  obtain ⟨y33, hy, h⟩ := fbd h
  by_cases c : y33 < l8
  · replace h := fps c h
    obtain rfl := Option.some.inj h
    exact fs_refl
  · replace h := fng c h
    obtain ⟨y45, hy, h⟩ := fbd h
    by_cases c : y45 ≤ (M 67 5)
    · replace h := fps c h
      replace h := (fgd h).2
      obtain rfl := Option.some.inj h
      exact fs_refl
    · replace h := fng c h
      replace h := (fgd h).2
      replace h := (fgd h).2
      obtain rfl := Option.some.inj h
      exact fs_up (fs_up fs_refl (.inr (by decide))) (.inr (by decide))
noncomputable def s_X9_tryRest_l26 (l1 l2 l3 l5 l6 : Int) (s : (Int × fM)) : Option fM := fLp (fun s => s_X9_tryRest_b26 s.2 l1 l2 l3 l5 l6 s.1) s
theorem s_X9_tryRest_l26_ok {d L : Nat} {M : fM} {l1 l2 l3 l5 l6 l8 : Int} {o9 o10 : Option fV} {r : fM} {Q : fO → fH → Prop} (h : s_X9_tryRest_l26 l1 l2 l3 l5 l6 (l8, M) = some r) (hE : ∀ (e : fM) (o6' o7' o8' o9' o10' : Option fV), r = e → Wp (d + 2, 127, 89, 0, 0, [some (fA 67), some (fI l1), some (fI l2), some (fJ l3), none, some (fI l5), o6', o7', o8', o9', o10'], []) (156, fjl L, e) Q) : Wp (d + 2, 127, 26, 0, 0, [some (fA 67), some (fI l1), some (fI l2), some (fJ l3), none, some (fI l5), some (fJ l6), none, some (fI l8), o9, o10], []) (156, fjl L, M) Q := by
  refine fLp_wp (W := fun s => ∀ (o9 o10 : Option fV), Wp (d + 2, 127, 26, 0, 0, [some (fA 67), some (fI l1), some (fI l2), some (fJ l3), none, some (fI l5), some (fJ l6), none, some (fI s.1), o9, o10], []) (156, fjl L, s.2) Q) (e := r) ?_ h _ _
  intro s r1 h hC hX o9 o10
  refine s_X9_tryRest_b26_ok (d := d) h (fun a0 a1 _ _ e1 => ?_) (fun e u0 u1 u2 u3 u4 e1 => hE e u0 u1 u2 u3 u4 (hX _ e1).symm)
  exact hC _ e1 _ _
theorem s_X9_tryRest_l26_fr {M : fM} {l1 l2 l3 l5 l6 l8 : Int} {r : fM} (h : s_X9_tryRest_l26 l1 l2 l3 l5 l6 (l8, M) = some r) : fSame s_X9_tryRest_mods M ((fun e => e) r) := by
  refine fLp_inv (I := fun s => fSame s_X9_tryRest_mods M s.2) (J := fun r => fSame s_X9_tryRest_mods M ((fun e => e) r)) h fs_refl (fun s s1 hs hb => ?_) (fun s e hs hb => ?_)
  · exact fs_trans hs (s_X9_tryRest_b26_fr hb)
  · exact fs_trans hs (s_X9_tryRest_b26_fr hb)
noncomputable def s_X9_tryRest_b3 (M : fM) (l1 l2 l3 l5 : Int) : Option ((Int × fM) ⊕ fM) :=
  (s_X9_mostOf M l1).bind fun y7 =>
    if y7 < l5 then
      some (.inr M)
    else
      (s_X9_chanceWith M l3 2 l5).bind fun y18 =>
        (s_X9_tryRest_l26 l1 l2 l3 l5 y18 (0, M)).bind fun e26 =>
          if fin (l5 + 1) then
            some (.inl ((l5 + 1), e26))
          else none
theorem s_X9_tryRest_b3_ok {d L : Nat} {M : fM} {l1 l2 l3 l5 : Int} {o6 o7 o8 o9 o10 : Option fV} {r : ((Int × fM) ⊕ fM)} {Q : fO → fH → Prop} (h : s_X9_tryRest_b3 M l1 l2 l3 l5 = some r) (hC : ∀ (l5' : Int) (M' : fM) (o6' o7' o8' o9' o10' : Option fV), r = .inl (l5', M') → Wp (d + 2, 127, 3, 0, 0, [some (fA 67), some (fI l1), some (fI l2), some (fJ l3), none, some (fI l5'), o6', o7', o8', o9', o10'], []) (156, fjl L, M') Q) (hE : ∀ (e : fM) (o0' o1' o2' o3' o4' o5' o6' o7' o8' o9' o10' : Option fV), r = .inr e → Wp (d + 2, 127, 95, 0, 0, [o0', o1', o2', o3', o4', o5', o6', o7', o8', o9', o10'], []) (156, fjl L, e) Q) : Wp (d + 2, 127, 3, 0, 0, [some (fA 67), some (fI l1), some (fI l2), some (fJ l3), none, some (fI l5), o6, o7, o8, o9, o10], []) (156, fjl L, M) Q := by
  unfold s_X9_tryRest_b3 at h
  refine Wp.run 3 (f' := (d + 2, 127, 7, 0, 0, [some (fA 67), some (fI l1), some (fI l2), some (fJ l3), none, some (fI l5), _, _, _, _, _], [fI l1, fA 67, fI l5])) (h' := (156, fjl L, M)) rfl trivial ?_
  obtain ⟨y7, hy, h⟩ := fbd h
  refine Wp.call rfl (by decide) (s_X9_mostOf_ok (d := d + 0) hy ?_)
  show Wp (d + 2, 127, 10, 0, 0, [some (fA 67), some (fI l1), some (fI l2), some (fJ l3), none, some (fI l5), _, _, _, _, _], [fI y7, fI l5]) (156, fjl L, M) Q
  refine Wp.br rfl (fun (c : y7 < l5) => ?_) (fun (c : ¬ (y7 < l5)) => ?_)
  · replace h := fps c h
    exact hE _ _ _ _ _ _ _ _ _ _ _ _ (Option.some.inj h).symm
  · replace h := fng c h
    refine Wp.run 4 (f' := (d + 2, 127, 18, 0, 0, [some (fA 67), some (fI l1), some (fI l2), some (fJ l3), none, some (fI l5), _, _, _, _, _], [fI l5, fI 2, fJ l3, fA 67])) (h' := (156, fjl L, M)) rfl trivial ?_
    obtain ⟨y18, hy, h⟩ := fbd h
    refine Wp.call rfl (by decide) (s_X9_chanceWith_ok (d := d + 1) hy ?_)
    show Wp (d + 2, 127, 21, 0, 0, [some (fA 67), some (fI l1), some (fI l2), some (fJ l3), none, some (fI l5), _, _, _, _, _], [fJ y18]) (156, fjl L, M) Q
    refine Wp.run 3 (f' := (d + 2, 127, 26, 0, 0, [some (fA 67), some (fI l1), some (fI l2), some (fJ l3), none, some (fI l5), some (fJ y18), none, some (fI 0), _, _], [])) (h' := (156, fjl L, M)) rfl trivial ?_
    obtain ⟨e26, hy, h⟩ := fbd h
    refine s_X9_tryRest_l26_ok hy (fun x u6 u7 u8 u9 u10 ex => ?_)
    cases ex
    show Wp (d + 2, 127, 89, 0, 0, [some (fA 67), some (fI l1), some (fI l2), some (fJ l3), none, some (fI l5), u6, u7, u8, u9, u10], []) (156, fjl L, e26) Q
    obtain ⟨g0, h⟩ := fgd h
    refine Wp.run 2 (f' := (d + 2, 127, 3, 0, 0, [some (fA 67), some (fI l1), some (fI l2), some (fJ l3), none, some (fI (fw (l5 + 1))), _, _, _, _, _], [])) (h' := (156, fjl L, e26)) rfl trivial ?_
    rw [fw_id g0]
    exact hC _ _ _ _ _ _ _ (Option.some.inj h).symm
theorem s_X9_tryRest_b3_fr {M : fM} {l1 l2 l3 l5 : Int} {r : ((Int × fM) ⊕ fM)} (h : s_X9_tryRest_b3 M l1 l2 l3 l5 = some r) : fSame s_X9_tryRest_mods M (Sum.elim (fun s => s.2) (fun e => e) r) := by
  unfold s_X9_tryRest_b3 at h
  obtain ⟨y7, hy, h⟩ := fbd h
  by_cases c : y7 < l5
  · replace h := fps c h
    obtain rfl := Option.some.inj h
    exact fs_refl
  · replace h := fng c h
    obtain ⟨y18, hy, h⟩ := fbd h
    obtain ⟨e26, hy, h⟩ := fbd h
    have k26 := fs_trans (l := s_X9_tryRest_mods) fs_refl (s_X9_tryRest_l26_fr hy)
    replace h := (fgd h).2
    obtain rfl := Option.some.inj h
    exact k26
noncomputable def s_X9_tryRest_l3 (l1 l2 l3 : Int) (s : (Int × fM)) : Option fM := fLp (fun s => s_X9_tryRest_b3 s.2 l1 l2 l3 s.1) s
theorem s_X9_tryRest_l3_ok {d L : Nat} {M : fM} {l1 l2 l3 l5 : Int} {o6 o7 o8 o9 o10 : Option fV} {r : fM} {Q : fO → fH → Prop} (h : s_X9_tryRest_l3 l1 l2 l3 (l5, M) = some r) (hE : ∀ (e : fM) (o0' o1' o2' o3' o4' o5' o6' o7' o8' o9' o10' : Option fV), r = e → Wp (d + 2, 127, 95, 0, 0, [o0', o1', o2', o3', o4', o5', o6', o7', o8', o9', o10'], []) (156, fjl L, e) Q) : Wp (d + 2, 127, 3, 0, 0, [some (fA 67), some (fI l1), some (fI l2), some (fJ l3), none, some (fI l5), o6, o7, o8, o9, o10], []) (156, fjl L, M) Q := by
  refine fLp_wp (W := fun s => ∀ (o6 o7 o8 o9 o10 : Option fV), Wp (d + 2, 127, 3, 0, 0, [some (fA 67), some (fI l1), some (fI l2), some (fJ l3), none, some (fI s.1), o6, o7, o8, o9, o10], []) (156, fjl L, s.2) Q) (e := r) ?_ h _ _ _ _ _
  intro s r1 h hC hX o6 o7 o8 o9 o10
  refine s_X9_tryRest_b3_ok (d := d) h (fun a0 a1 _ _ _ _ _ e1 => ?_) (fun e u0 u1 u2 u3 u4 u5 u6 u7 u8 u9 u10 e1 => hE e u0 u1 u2 u3 u4 u5 u6 u7 u8 u9 u10 (hX _ e1).symm)
  exact hC _ e1 _ _ _ _ _
theorem s_X9_tryRest_l3_fr {M : fM} {l1 l2 l3 l5 : Int} {r : fM} (h : s_X9_tryRest_l3 l1 l2 l3 (l5, M) = some r) : fSame s_X9_tryRest_mods M ((fun e => e) r) := by
  refine fLp_inv (I := fun s => fSame s_X9_tryRest_mods M s.2) (J := fun r => fSame s_X9_tryRest_mods M ((fun e => e) r)) h fs_refl (fun s s1 hs hb => ?_) (fun s e hs hb => ?_)
  · exact fs_trans hs (s_X9_tryRest_b3_fr hb)
  · exact fs_trans hs (s_X9_tryRest_b3_fr hb)
noncomputable def s_X9_tryRest (M : fM) (l1 l2 l3 : Int) : Option (Unit × fM) :=
  (s_X9_tryRest_l3 l1 l2 l3 (0, M)).bind fun e3 =>
    some ((), e3)
theorem s_X9_tryRest_ok {d L : Nat} {M : fM} {l1 l2 l3 : Int} {r : (Unit × fM)} {Q : fO → fH → Prop} (h : s_X9_tryRest M l1 l2 l3 = some r) (H : Q (oV r.1) (156, fjl L, r.2)) : Wp (d + 2, 127, 0, 0, 0, [some (fA 67), some (fI l1), some (fI l2), some (fJ l3), none, none, none, none, none, none, none], []) (156, fjl L, M) Q := by
  unfold s_X9_tryRest at h
  refine Wp.run 2 (f' := (d + 2, 127, 3, 0, 0, [some (fA 67), some (fI l1), some (fI l2), some (fJ l3), none, some (fI 0), _, _, _, _, _], [])) (h' := (156, fjl L, M)) rfl trivial ?_
  obtain ⟨e3, hy, h⟩ := fbd h
  refine s_X9_tryRest_l3_ok hy (fun x u0 u1 u2 u3 u4 u5 u6 u7 u8 u9 u10 ex => ?_)
  cases ex
  show Wp (d + 2, 127, 95, 0, 0, [u0, u1, u2, u3, u4, u5, u6, u7, u8, u9, u10], []) (156, fjl L, e3) Q
  obtain rfl := Option.some.inj h
  exact Wp.done rfl (by decide) H
theorem s_X9_tryRest_fr {M : fM} {l1 l2 l3 : Int} {r : (Unit × fM)} (h : s_X9_tryRest M l1 l2 l3 = some r) : fSame s_X9_tryRest_mods M r.2 := by
  unfold s_X9_tryRest at h
  obtain ⟨e3, hy, h⟩ := fbd h
  have k3 := fs_trans (l := s_X9_tryRest_mods) fs_refl (s_X9_tryRest_l3_fr hy)
  obtain rfl := Option.some.inj h
  exact k3
abbrev s_X9_pack_mods : List (Nat × Option Nat) := [(67, some 3), (67, some 4), (67, some 5), (69, none)]
noncomputable def s_X9_pack_b7 (M : fM) (l2 l3 : Int) : Option ((Int × fM) ⊕ fM) :=
  if 4 ≤ l3 then
    some (.inr M)
  else
    (s_X9_countParts M l3).bind fun y14 =>
      if fin (l3 + 1) then
        some (.inl ((l3 + 1), y14.2))
      else none
theorem s_X9_pack_b7_ok {d L : Nat} {M : fM} {l2 l3 : Int} {o1 o4 o5 o6 o7 o8 : Option fV} {r : ((Int × fM) ⊕ fM)} {Q : fO → fH → Prop} (h : s_X9_pack_b7 M l2 l3 = some r) (hC : ∀ (l3' : Int) (M' : fM) (o1' o4' o5' o6' o7' o8' : Option fV), r = .inl (l3', M') → Wp (d + 3, 125, 7, 0, 0, [some (fA 67), o1', some (fI l2), some (fI l3'), o4', o5', o6', o7', o8'], []) (156, fjl L, M') Q) (hE : ∀ (e : fM) (o1' o3' o4' o5' o6' o7' o8' : Option fV), r = .inr e → Wp (d + 3, 125, 23, 0, 0, [some (fA 67), o1', some (fI l2), o3', o4', o5', o6', o7', o8'], []) (156, fjl L, e) Q) : Wp (d + 3, 125, 7, 0, 0, [some (fA 67), o1, some (fI l2), some (fI l3), o4, o5, o6, o7, o8], []) (156, fjl L, M) Q := by
  unfold s_X9_pack_b7 at h
  refine Wp.run 2 (f' := (d + 3, 125, 9, 0, 0, [some (fA 67), _, some (fI l2), some (fI l3), _, _, _, _, _], [fI 4, fI l3])) (h' := (156, fjl L, M)) rfl trivial ?_
  refine Wp.br rfl (fun (c : 4 ≤ l3) => ?_) (fun (c : ¬ (4 ≤ l3)) => ?_)
  · replace h := fps c h
    exact hE _ _ _ _ _ _ _ _ (Option.some.inj h).symm
  · replace h := fng c h
    refine Wp.run 2 (f' := (d + 3, 125, 14, 0, 0, [some (fA 67), _, some (fI l2), some (fI l3), _, _, _, _, _], [fI l3, fA 67])) (h' := (156, fjl L, M)) rfl trivial ?_
    obtain ⟨y14, hy, h⟩ := fbd h
    refine Wp.call rfl (by decide) (s_X9_countParts_ok (d := d + 2) hy ?_)
    show Wp (d + 3, 125, 17, 0, 0, [some (fA 67), _, some (fI l2), some (fI l3), _, _, _, _, _], []) (156, fjl L, y14.2) Q
    obtain ⟨g0, h⟩ := fgd h
    refine Wp.run 2 (f' := (d + 3, 125, 7, 0, 0, [some (fA 67), _, some (fI l2), some (fI (fw (l3 + 1))), _, _, _, _, _], [])) (h' := (156, fjl L, y14.2)) rfl trivial ?_
    rw [fw_id g0]
    exact hC _ _ _ _ _ _ _ _ (Option.some.inj h).symm
theorem s_X9_pack_b7_fr {M : fM} {l2 l3 : Int} {r : ((Int × fM) ⊕ fM)} (h : s_X9_pack_b7 M l2 l3 = some r) : fSame s_X9_pack_mods M (Sum.elim (fun s => s.2) (fun e => e) r) := by
  unfold s_X9_pack_b7 at h
  by_cases c : 4 ≤ l3
  · replace h := fps c h
    obtain rfl := Option.some.inj h
    exact fs_refl
  · replace h := fng c h
    obtain ⟨y14, hy, h⟩ := fbd h
    have k14 := fs_trans (l := s_X9_pack_mods) fs_refl (fs_mono (l := s_X9_countParts_mods) (by decide) (s_X9_countParts_fr hy))
    replace h := (fgd h).2
    obtain rfl := Option.some.inj h
    exact k14
noncomputable def s_X9_pack_l7 (l2 : Int) (s : (Int × fM)) : Option fM := fLp (fun s => s_X9_pack_b7 s.2 l2 s.1) s
theorem s_X9_pack_l7_ok {d L : Nat} {M : fM} {l2 l3 : Int} {o1 o4 o5 o6 o7 o8 : Option fV} {r : fM} {Q : fO → fH → Prop} (h : s_X9_pack_l7 l2 (l3, M) = some r) (hE : ∀ (e : fM) (o1' o3' o4' o5' o6' o7' o8' : Option fV), r = e → Wp (d + 3, 125, 23, 0, 0, [some (fA 67), o1', some (fI l2), o3', o4', o5', o6', o7', o8'], []) (156, fjl L, e) Q) : Wp (d + 3, 125, 7, 0, 0, [some (fA 67), o1, some (fI l2), some (fI l3), o4, o5, o6, o7, o8], []) (156, fjl L, M) Q := by
  refine fLp_wp (W := fun s => ∀ (o1 o4 o5 o6 o7 o8 : Option fV), Wp (d + 3, 125, 7, 0, 0, [some (fA 67), o1, some (fI l2), some (fI s.1), o4, o5, o6, o7, o8], []) (156, fjl L, s.2) Q) (e := r) ?_ h _ _ _ _ _ _
  intro s r1 h hC hX o1 o4 o5 o6 o7 o8
  refine s_X9_pack_b7_ok (d := d) h (fun a0 a1 _ _ _ _ _ _ e1 => ?_) (fun e u0 u1 u2 u3 u4 u5 u6 e1 => hE e u0 u1 u2 u3 u4 u5 u6 (hX _ e1).symm)
  exact hC _ e1 _ _ _ _ _ _
theorem s_X9_pack_l7_fr {M : fM} {l2 l3 : Int} {r : fM} (h : s_X9_pack_l7 l2 (l3, M) = some r) : fSame s_X9_pack_mods M ((fun e => e) r) := by
  refine fLp_inv (I := fun s => fSame s_X9_pack_mods M s.2) (J := fun r => fSame s_X9_pack_mods M ((fun e => e) r)) h fs_refl (fun s s1 hs hb => ?_) (fun s e hs hb => ?_)
  · exact fs_trans hs (s_X9_pack_b7_fr hb)
  · exact fs_trans hs (s_X9_pack_b7_fr hb)
noncomputable def s_X9_pack_b60 (M : fM) (l2 l3 l4 l6 : Int) : Option ((Int × fM) ⊕ fM) :=
  if fin (l2 - l3) then
    (s_X9_mostOf M (l2 - l3)).bind fun y66 =>
      if y66 < l6 then
        some (.inr M)
      else
        (s_X9_chanceWith M l4 1 l6).bind fun y78 =>
          if fin (l2 - l3) ∧ fin ((l2 - l3) - l6) ∧ fin (l3 * 10) ∧ fin ((l3 * 10) + l6) then
            (s_X9_tryRest M ((l2 - l3) - l6) ((l3 * 10) + l6) y78).bind fun y99 =>
              if fin (l6 + 1) then
                some (.inl ((l6 + 1), y99.2))
              else none
          else none
  else none
theorem s_X9_pack_b60_ok {d L : Nat} {M : fM} {l2 l3 l4 l6 : Int} {o1 o7 o8 : Option fV} {r : ((Int × fM) ⊕ fM)} {Q : fO → fH → Prop} (h : s_X9_pack_b60 M l2 l3 l4 l6 = some r) (hC : ∀ (l6' : Int) (M' : fM) (o1' o7' o8' : Option fV), r = .inl (l6', M') → Wp (d + 3, 125, 60, 0, 0, [some (fA 67), o1', some (fI l2), some (fI l3), some (fJ l4), none, some (fI l6'), o7', o8'], []) (156, fjl L, M') Q) (hE : ∀ (e : fM) (o1' o4' o5' o6' o7' o8' : Option fV), r = .inr e → Wp (d + 3, 125, 108, 0, 0, [some (fA 67), o1', some (fI l2), some (fI l3), o4', o5', o6', o7', o8'], []) (156, fjl L, e) Q) : Wp (d + 3, 125, 60, 0, 0, [some (fA 67), o1, some (fI l2), some (fI l3), some (fJ l4), none, some (fI l6), o7, o8], []) (156, fjl L, M) Q := by
  unfold s_X9_pack_b60 at h
  obtain ⟨g0, h⟩ := fgd h
  refine Wp.run 5 (f' := (d + 3, 125, 66, 0, 0, [some (fA 67), _, some (fI l2), some (fI l3), some (fJ l4), none, some (fI l6), _, _], [fI (fw (l2 - l3)), fA 67, fI l6])) (h' := (156, fjl L, M)) rfl trivial ?_
  rw [fw_id g0]
  obtain ⟨y66, hy, h⟩ := fbd h
  refine Wp.call rfl (by decide) (s_X9_mostOf_ok (d := d + 1) hy ?_)
  show Wp (d + 3, 125, 69, 0, 0, [some (fA 67), _, some (fI l2), some (fI l3), some (fJ l4), none, some (fI l6), _, _], [fI y66, fI l6]) (156, fjl L, M) Q
  refine Wp.br rfl (fun (c : y66 < l6) => ?_) (fun (c : ¬ (y66 < l6)) => ?_)
  · replace h := fps c h
    exact hE _ _ _ _ _ _ _ (Option.some.inj h).symm
  · replace h := fng c h
    refine Wp.run 4 (f' := (d + 3, 125, 78, 0, 0, [some (fA 67), _, some (fI l2), some (fI l3), some (fJ l4), none, some (fI l6), _, _], [fI l6, fI 1, fJ l4, fA 67])) (h' := (156, fjl L, M)) rfl trivial ?_
    obtain ⟨y78, hy, h⟩ := fbd h
    refine Wp.call rfl (by decide) (s_X9_chanceWith_ok (d := d + 2) hy ?_)
    show Wp (d + 3, 125, 81, 0, 0, [some (fA 67), _, some (fI l2), some (fI l3), some (fJ l4), none, some (fI l6), _, _], [fJ y78]) (156, fjl L, M) Q
    obtain ⟨⟨g0, g1, g2, g3⟩, h⟩ := fgd h
    refine Wp.run 13 (f' := (d + 3, 125, 99, 0, 0, [some (fA 67), _, some (fI l2), some (fI l3), some (fJ l4), none, some (fI l6), _, _], [fJ y78, fI (fw ((fw (l3 * 10)) + l6)), fI (fw ((fw (l2 - l3)) - l6)), fA 67])) (h' := (156, fjl L, M)) rfl trivial ?_
    rw [fw_id g0, fw_id g1, fw_id g2, fw_id g3]
    obtain ⟨y99, hy, h⟩ := fbd h
    refine Wp.call rfl (by decide) (s_X9_tryRest_ok (d := d + 0) hy ?_)
    show Wp (d + 3, 125, 102, 0, 0, [some (fA 67), _, some (fI l2), some (fI l3), some (fJ l4), none, some (fI l6), _, _], []) (156, fjl L, y99.2) Q
    obtain ⟨g0, h⟩ := fgd h
    refine Wp.run 2 (f' := (d + 3, 125, 60, 0, 0, [some (fA 67), _, some (fI l2), some (fI l3), some (fJ l4), none, some (fI (fw (l6 + 1))), _, _], [])) (h' := (156, fjl L, y99.2)) rfl trivial ?_
    rw [fw_id g0]
    exact hC _ _ _ _ _ (Option.some.inj h).symm
theorem s_X9_pack_b60_fr {M : fM} {l2 l3 l4 l6 : Int} {r : ((Int × fM) ⊕ fM)} (h : s_X9_pack_b60 M l2 l3 l4 l6 = some r) : fSame s_X9_pack_mods M (Sum.elim (fun s => s.2) (fun e => e) r) := by
  unfold s_X9_pack_b60 at h
  replace h := (fgd h).2
  obtain ⟨y66, hy, h⟩ := fbd h
  by_cases c : y66 < l6
  · replace h := fps c h
    obtain rfl := Option.some.inj h
    exact fs_refl
  · replace h := fng c h
    obtain ⟨y78, hy, h⟩ := fbd h
    replace h := (fgd h).2
    obtain ⟨y99, hy, h⟩ := fbd h
    have k99 := fs_trans (l := s_X9_pack_mods) fs_refl (fs_mono (l := s_X9_tryRest_mods) (by decide) (s_X9_tryRest_fr hy))
    replace h := (fgd h).2
    obtain rfl := Option.some.inj h
    exact k99
noncomputable def s_X9_pack_l60 (l2 l3 l4 : Int) (s : (Int × fM)) : Option fM := fLp (fun s => s_X9_pack_b60 s.2 l2 l3 l4 s.1) s
theorem s_X9_pack_l60_ok {d L : Nat} {M : fM} {l2 l3 l4 l6 : Int} {o1 o7 o8 : Option fV} {r : fM} {Q : fO → fH → Prop} (h : s_X9_pack_l60 l2 l3 l4 (l6, M) = some r) (hE : ∀ (e : fM) (o1' o4' o5' o6' o7' o8' : Option fV), r = e → Wp (d + 3, 125, 108, 0, 0, [some (fA 67), o1', some (fI l2), some (fI l3), o4', o5', o6', o7', o8'], []) (156, fjl L, e) Q) : Wp (d + 3, 125, 60, 0, 0, [some (fA 67), o1, some (fI l2), some (fI l3), some (fJ l4), none, some (fI l6), o7, o8], []) (156, fjl L, M) Q := by
  refine fLp_wp (W := fun s => ∀ (o1 o7 o8 : Option fV), Wp (d + 3, 125, 60, 0, 0, [some (fA 67), o1, some (fI l2), some (fI l3), some (fJ l4), none, some (fI s.1), o7, o8], []) (156, fjl L, s.2) Q) (e := r) ?_ h _ _ _
  intro s r1 h hC hX o1 o7 o8
  refine s_X9_pack_b60_ok (d := d) h (fun a0 a1 _ _ _ e1 => ?_) (fun e u0 u1 u2 u3 u4 u5 e1 => hE e u0 u1 u2 u3 u4 u5 (hX _ e1).symm)
  exact hC _ e1 _ _ _
theorem s_X9_pack_l60_fr {M : fM} {l2 l3 l4 l6 : Int} {r : fM} (h : s_X9_pack_l60 l2 l3 l4 (l6, M) = some r) : fSame s_X9_pack_mods M ((fun e => e) r) := by
  refine fLp_inv (I := fun s => fSame s_X9_pack_mods M s.2) (J := fun r => fSame s_X9_pack_mods M ((fun e => e) r)) h fs_refl (fun s s1 hs hb => ?_) (fun s e hs hb => ?_)
  · exact fs_trans hs (s_X9_pack_b60_fr hb)
  · exact fs_trans hs (s_X9_pack_b60_fr hb)
noncomputable def s_X9_pack_b37 (M : fM) (l2 l3 : Int) : Option ((Int × fM) ⊕ fM) :=
  (s_X9_mostOf M l2).bind fun y40 =>
    if y40 < l3 then
      some (.inr M)
    else
      (s_X9_chanceWith M 1000000000000000 0 l3).bind fun y52 =>
        (s_X9_pack_l60 l2 l3 y52 (0, M)).bind fun e60 =>
          if fin (l3 + 1) then
            some (.inl ((l3 + 1), e60))
          else none
theorem s_X9_pack_b37_ok {d L : Nat} {M : fM} {l2 l3 : Int} {o1 o4 o5 o6 o7 o8 : Option fV} {r : ((Int × fM) ⊕ fM)} {Q : fO → fH → Prop} (h : s_X9_pack_b37 M l2 l3 = some r) (hC : ∀ (l3' : Int) (M' : fM) (o1' o4' o5' o6' o7' o8' : Option fV), r = .inl (l3', M') → Wp (d + 3, 125, 37, 0, 0, [some (fA 67), o1', some (fI l2), some (fI l3'), o4', o5', o6', o7', o8'], []) (156, fjl L, M') Q) (hE : ∀ (e : fM) (o1' o2' o3' o4' o5' o6' o7' o8' : Option fV), r = .inr e → Wp (d + 3, 125, 114, 0, 0, [some (fA 67), o1', o2', o3', o4', o5', o6', o7', o8'], []) (156, fjl L, e) Q) : Wp (d + 3, 125, 37, 0, 0, [some (fA 67), o1, some (fI l2), some (fI l3), o4, o5, o6, o7, o8], []) (156, fjl L, M) Q := by
  unfold s_X9_pack_b37 at h
  refine Wp.run 3 (f' := (d + 3, 125, 40, 0, 0, [some (fA 67), _, some (fI l2), some (fI l3), _, _, _, _, _], [fI l2, fA 67, fI l3])) (h' := (156, fjl L, M)) rfl trivial ?_
  obtain ⟨y40, hy, h⟩ := fbd h
  refine Wp.call rfl (by decide) (s_X9_mostOf_ok (d := d + 1) hy ?_)
  show Wp (d + 3, 125, 43, 0, 0, [some (fA 67), _, some (fI l2), some (fI l3), _, _, _, _, _], [fI y40, fI l3]) (156, fjl L, M) Q
  refine Wp.br rfl (fun (c : y40 < l3) => ?_) (fun (c : ¬ (y40 < l3)) => ?_)
  · replace h := fps c h
    exact hE _ _ _ _ _ _ _ _ _ (Option.some.inj h).symm
  · replace h := fng c h
    refine Wp.run 4 (f' := (d + 3, 125, 52, 0, 0, [some (fA 67), _, some (fI l2), some (fI l3), _, _, _, _, _], [fI l3, fI 0, fJ 1000000000000000, fA 67])) (h' := (156, fjl L, M)) rfl trivial ?_
    obtain ⟨y52, hy, h⟩ := fbd h
    refine Wp.call rfl (by decide) (s_X9_chanceWith_ok (d := d + 2) hy ?_)
    show Wp (d + 3, 125, 55, 0, 0, [some (fA 67), _, some (fI l2), some (fI l3), _, _, _, _, _], [fJ y52]) (156, fjl L, M) Q
    refine Wp.run 3 (f' := (d + 3, 125, 60, 0, 0, [some (fA 67), _, some (fI l2), some (fI l3), some (fJ y52), none, some (fI 0), _, _], [])) (h' := (156, fjl L, M)) rfl trivial ?_
    obtain ⟨e60, hy, h⟩ := fbd h
    refine s_X9_pack_l60_ok hy (fun x u1 u4 u5 u6 u7 u8 ex => ?_)
    cases ex
    show Wp (d + 3, 125, 108, 0, 0, [some (fA 67), u1, some (fI l2), some (fI l3), u4, u5, u6, u7, u8], []) (156, fjl L, e60) Q
    obtain ⟨g0, h⟩ := fgd h
    refine Wp.run 2 (f' := (d + 3, 125, 37, 0, 0, [some (fA 67), _, some (fI l2), some (fI (fw (l3 + 1))), _, _, _, _, _], [])) (h' := (156, fjl L, e60)) rfl trivial ?_
    rw [fw_id g0]
    exact hC _ _ _ _ _ _ _ _ (Option.some.inj h).symm
theorem s_X9_pack_b37_fr {M : fM} {l2 l3 : Int} {r : ((Int × fM) ⊕ fM)} (h : s_X9_pack_b37 M l2 l3 = some r) : fSame s_X9_pack_mods M (Sum.elim (fun s => s.2) (fun e => e) r) := by
  unfold s_X9_pack_b37 at h
  obtain ⟨y40, hy, h⟩ := fbd h
  by_cases c : y40 < l3
  · replace h := fps c h
    obtain rfl := Option.some.inj h
    exact fs_refl
  · replace h := fng c h
    obtain ⟨y52, hy, h⟩ := fbd h
    obtain ⟨e60, hy, h⟩ := fbd h
    have k60 := fs_trans (l := s_X9_pack_mods) fs_refl (s_X9_pack_l60_fr hy)
    replace h := (fgd h).2
    obtain rfl := Option.some.inj h
    exact k60
noncomputable def s_X9_pack_l37 (l2 : Int) (s : (Int × fM)) : Option fM := fLp (fun s => s_X9_pack_b37 s.2 l2 s.1) s
theorem s_X9_pack_l37_ok {d L : Nat} {M : fM} {l2 l3 : Int} {o1 o4 o5 o6 o7 o8 : Option fV} {r : fM} {Q : fO → fH → Prop} (h : s_X9_pack_l37 l2 (l3, M) = some r) (hE : ∀ (e : fM) (o1' o2' o3' o4' o5' o6' o7' o8' : Option fV), r = e → Wp (d + 3, 125, 114, 0, 0, [some (fA 67), o1', o2', o3', o4', o5', o6', o7', o8'], []) (156, fjl L, e) Q) : Wp (d + 3, 125, 37, 0, 0, [some (fA 67), o1, some (fI l2), some (fI l3), o4, o5, o6, o7, o8], []) (156, fjl L, M) Q := by
  refine fLp_wp (W := fun s => ∀ (o1 o4 o5 o6 o7 o8 : Option fV), Wp (d + 3, 125, 37, 0, 0, [some (fA 67), o1, some (fI l2), some (fI s.1), o4, o5, o6, o7, o8], []) (156, fjl L, s.2) Q) (e := r) ?_ h _ _ _ _ _ _
  intro s r1 h hC hX o1 o4 o5 o6 o7 o8
  refine s_X9_pack_b37_ok (d := d) h (fun a0 a1 _ _ _ _ _ _ e1 => ?_) (fun e u0 u1 u2 u3 u4 u5 u6 u7 e1 => hE e u0 u1 u2 u3 u4 u5 u6 u7 (hX _ e1).symm)
  exact hC _ e1 _ _ _ _ _ _
theorem s_X9_pack_l37_fr {M : fM} {l2 l3 : Int} {r : fM} (h : s_X9_pack_l37 l2 (l3, M) = some r) : fSame s_X9_pack_mods M ((fun e => e) r) := by
  refine fLp_inv (I := fun s => fSame s_X9_pack_mods M s.2) (J := fun r => fSame s_X9_pack_mods M ((fun e => e) r)) h fs_refl (fun s s1 hs hb => ?_) (fun s e hs hb => ?_)
  · exact fs_trans hs (s_X9_pack_b37_fr hb)
  · exact fs_trans hs (s_X9_pack_b37_fr hb)
noncomputable def s_X9_pack (M : fM) (l1 l2 : Int) : Option (Int × fM) :=
  (s_X9_pack_l7 l2 (0, (fup M 67 3 l1))).bind fun e7 =>
    (s_X9_pack_l37 l2 (0, (fup (fup e7 67 4 0) 67 5 (-1)))).bind fun e37 =>
      some ((e37 67 4), e37)
theorem s_X9_pack_ok {d L : Nat} {M : fM} {l1 l2 : Int} {r : (Int × fM)} {Q : fO → fH → Prop} (h : s_X9_pack M l1 l2 = some r) (H : Q (oI r.1) (156, fjl L, r.2)) : Wp (d + 3, 125, 0, 0, 0, [some (fA 67), some (fI l1), some (fI l2), none, none, none, none, none, none], []) (156, fjl L, M) Q := by
  unfold s_X9_pack at h
  refine Wp.run 5 (f' := (d + 3, 125, 7, 0, 0, [some (fA 67), _, some (fI l2), some (fI 0), _, _, _, _, _], [])) (h' := (156, fjl L, (fup M 67 3 l1))) rfl trivial ?_
  obtain ⟨e7, hy, h⟩ := fbd h
  refine s_X9_pack_l7_ok hy (fun x u1 u3 u4 u5 u6 u7 u8 ex => ?_)
  cases ex
  show Wp (d + 3, 125, 23, 0, 0, [some (fA 67), u1, some (fI l2), u3, u4, u5, u6, u7, u8], []) (156, fjl L, e7) Q
  refine Wp.run 8 (f' := (d + 3, 125, 37, 0, 0, [some (fA 67), _, some (fI l2), some (fI 0), _, _, _, _, _], [])) (h' := (156, fjl L, (fup (fup e7 67 4 0) 67 5 (-1)))) rfl trivial ?_
  obtain ⟨e37, hy, h⟩ := fbd h
  refine s_X9_pack_l37_ok hy (fun x u1 u2 u3 u4 u5 u6 u7 u8 ex => ?_)
  cases ex
  show Wp (d + 3, 125, 114, 0, 0, [some (fA 67), u1, u2, u3, u4, u5, u6, u7, u8], []) (156, fjl L, e37) Q
  refine Wp.run 2 (f' := (d + 3, 125, 118, 0, 0, [_, _, _, _, _, _, _, _, _], [fI (e37 67 4)])) (h' := (156, fjl L, e37)) rfl trivial ?_
  obtain rfl := Option.some.inj h
  exact Wp.done rfl (by decide) H
theorem s_X9_pack_fr {M : fM} {l1 l2 : Int} {r : (Int × fM)} (h : s_X9_pack M l1 l2 = some r) : fSame s_X9_pack_mods M r.2 := by
  unfold s_X9_pack at h
  obtain ⟨e7, hy, h⟩ := fbd h
  have k7 := fs_trans (l := s_X9_pack_mods) (fs_up fs_refl (.inr (by decide))) (s_X9_pack_l7_fr hy)
  obtain ⟨e37, hy, h⟩ := fbd h
  have k37 := fs_trans (l := s_X9_pack_mods) (fs_up (fs_up k7 (.inr (by decide))) (.inr (by decide))) (s_X9_pack_l37_fr hy)
  obtain rfl := Option.some.inj h
  exact k37
abbrev s_X11_bag_mods : List (Nat × Option Nat) := [(1, some 2), (67, some 3), (67, some 4), (67, some 5), (68, none), (69, none)]
noncomputable def s_X11_bag (M : fM) (l1 : Int) : Option (Int × fM) :=
  (s_X10_movePianos_68 M (M 4 13)).bind fun y18 =>
    if y18.1 < 1 then
      some ((-1), y18.2)
    else
      (s_X11_isWithin y18.2 l1 13).bind fun y30 =>
        if ¬ y30 = 0 then
          (s_X9_pack y18.2 y18.1 l1).bind fun y44 =>
            some (y44.1, y44.2)
        else
          some ((-1), y18.2)
theorem s_X11_bag_ok {d L : Nat} {M : fM} {l1 : Int} {r : (Int × fM)} {Q : fO → fH → Prop} (h : s_X11_bag M l1 = some r) (H : Q (oI r.1) (156, fjl L, r.2)) : Wp (d + 4, 183, 0, 0, 0, [some (fA 0), some (fI l1), none], []) (156, fjl L, M) Q := by
  unfold s_X11_bag at h
  refine Wp.run 8 (f' := (d + 4, 183, 18, 0, 0, [some (fA 0), some (fI l1), _], [fI (M 4 13), fA 68, fA 1])) (h' := (156, fjl L, M)) rfl trivial ?_
  obtain ⟨y18, hy, h⟩ := fbd h
  refine Wp.call rfl (by decide) (s_X10_movePianos_68_ok (d := d + 3) hy ?_)
  show Wp (d + 4, 183, 21, 0, 0, [some (fA 0), some (fI l1), _], [fI y18.1]) (156, fjl L, y18.2) Q
  refine Wp.run 3 (f' := (d + 4, 183, 24, 0, 0, [some (fA 0), some (fI l1), some (fI y18.1)], [fI 1, fI y18.1])) (h' := (156, fjl L, y18.2)) rfl trivial ?_
  refine Wp.br rfl (fun (c : y18.1 < 1) => ?_) (fun (c : ¬ (y18.1 < 1)) => ?_)
  · replace h := fps c h
    refine Wp.run 1 (f' := (d + 4, 183, 37, 0, 0, [_, _, _], [fI (-1)])) (h' := (156, fjl L, y18.2)) rfl trivial ?_
    obtain rfl := Option.some.inj h
    exact Wp.done rfl (by decide) H
  · replace h := fng c h
    refine Wp.run 2 (f' := (d + 4, 183, 30, 0, 0, [some (fA 0), some (fI l1), some (fI y18.1)], [fI 13, fI l1])) (h' := (156, fjl L, y18.2)) rfl trivial ?_
    obtain ⟨y30, hy, h⟩ := fbd h
    refine Wp.call rfl (by decide) (s_X11_isWithin_ok (d := d + 3) hy ?_)
    show Wp (d + 4, 183, 33, 0, 0, [some (fA 0), some (fI l1), some (fI y18.1)], [fI y30]) (156, fjl L, y18.2) Q
    refine Wp.br rfl (fun (c : ¬ y30 = 0) => ?_) (fun (c : ¬ (¬ y30 = 0)) => ?_)
    · replace h := fps c h
      refine Wp.run 4 (f' := (d + 4, 183, 44, 0, 0, [_, _, _], [fI l1, fI y18.1, fA 67])) (h' := (156, fjl L, y18.2)) rfl trivial ?_
      obtain ⟨y44, hy, h⟩ := fbd h
      refine Wp.call rfl (by decide) (s_X9_pack_ok (d := d + 0) hy ?_)
      show Wp (d + 4, 183, 47, 0, 0, [_, _, _], [fI y44.1]) (156, fjl L, y44.2) Q
      obtain rfl := Option.some.inj h
      exact Wp.done rfl (by decide) H
    · replace h := fng c h
      refine Wp.run 1 (f' := (d + 4, 183, 37, 0, 0, [_, _, _], [fI (-1)])) (h' := (156, fjl L, y18.2)) rfl trivial ?_
      obtain rfl := Option.some.inj h
      exact Wp.done rfl (by decide) H
theorem s_X11_bag_fr {M : fM} {l1 : Int} {r : (Int × fM)} (h : s_X11_bag M l1 = some r) : fSame s_X11_bag_mods M r.2 := by
  unfold s_X11_bag at h
  obtain ⟨y18, hy, h⟩ := fbd h
  have k18 := fs_trans (l := s_X11_bag_mods) fs_refl (fs_mono (l := s_X10_movePianos_68_mods) (by decide) (s_X10_movePianos_68_fr hy))
  by_cases c : y18.1 < 1
  · replace h := fps c h
    obtain rfl := Option.some.inj h
    exact k18
  · replace h := fng c h
    obtain ⟨y30, hy, h⟩ := fbd h
    by_cases c : ¬ y30 = 0
    · replace h := fps c h
      obtain ⟨y44, hy, h⟩ := fbd h
      have k44 := fs_trans (l := s_X11_bag_mods) k18 (fs_mono (l := s_X9_pack_mods) (by decide) (s_X9_pack_fr hy))
      obtain rfl := Option.some.inj h
      exact k44
    · replace h := fng c h
      obtain rfl := Option.some.inj h
      exact k18
noncomputable def s_X12_part_b48 (M : fM) (l0 l2 l4 l6 l8 l10 : Int) : Option ((Int × Int) ⊕ (Int × Int)) :=
  if l8 < l4 then
    some (.inr (l6, l8))
  else
    if finl (l8 - l4) ∧ finl (l6 + 1) then
      some (.inl ((l6 + 1), (l8 - l4)))
    else none
theorem s_X12_part_b48_ok {d L : Nat} {M : fM} {l0 l2 l4 l6 l8 l10 : Int} {r : ((Int × Int) ⊕ (Int × Int))} {Q : fO → fH → Prop} (h : s_X12_part_b48 M l0 l2 l4 l6 l8 l10 = some r) (hC : ∀ (l6' l8' : Int), r = .inl (l6', l8') → Wp (d + 0, 302, 48, 0, 0, [some (fJ l0), none, some (fJ l2), none, some (fJ l4), none, some (fJ l6'), none, some (fJ l8'), none, some (fI l10)], []) (156, fjl L, M) Q) (hE : ∀ (e : (Int × Int)), r = .inr e → Wp (d + 0, 302, 72, 0, 0, [some (fJ l0), none, some (fJ l2), none, some (fJ l4), none, some (fJ e.1), none, some (fJ e.2), none, some (fI l10)], []) (156, fjl L, M) Q) : Wp (d + 0, 302, 48, 0, 0, [some (fJ l0), none, some (fJ l2), none, some (fJ l4), none, some (fJ l6), none, some (fJ l8), none, some (fI l10)], []) (156, fjl L, M) Q := by
  unfold s_X12_part_b48 at h
  refine Wp.run 3 (f' := (d + 0, 302, 53, 0, 0, [some (fJ l0), none, some (fJ l2), none, some (fJ l4), none, some (fJ l6), none, some (fJ l8), none, some (fI l10)], [fI (fcm l8 l4)])) (h' := (156, fjl L, M)) rfl trivial ?_
  refine Wp.br rfl (fun (c : (fcm l8 l4) < 0) => ?_) (fun (c : ¬ ((fcm l8 l4) < 0)) => ?_)
  · replace c := (fcm_lt _ _).mp c
    replace h := fps c h
    exact hE _ (Option.some.inj h).symm
  · replace c := fun z => c ((fcm_lt _ _).mpr z)
    replace h := fng c h
    obtain ⟨⟨g0, g1⟩, h⟩ := fgd h
    refine Wp.run 9 (f' := (d + 0, 302, 48, 0, 0, [some (fJ l0), none, some (fJ l2), none, some (fJ l4), none, some (fJ (fwl (l6 + 1))), none, some (fJ (fwl (l8 - l4))), none, some (fI l10)], [])) (h' := (156, fjl L, M)) rfl trivial ?_
    rw [fwl_id g1, fwl_id g0]
    exact hC _ _ (Option.some.inj h).symm
noncomputable def s_X12_part_l48 (M : fM) (l0 l2 l4 l10 : Int) (s : (Int × Int)) : Option (Int × Int) := fLp (fun s => s_X12_part_b48 M l0 l2 l4 s.1 s.2 l10) s
theorem s_X12_part_l48_ok {d L : Nat} {M : fM} {l0 l2 l4 l6 l8 l10 : Int} {r : (Int × Int)} {Q : fO → fH → Prop} (h : s_X12_part_l48 M l0 l2 l4 l10 (l6, l8) = some r) (hE : ∀ (e : (Int × Int)), r = e → Wp (d + 0, 302, 72, 0, 0, [some (fJ l0), none, some (fJ l2), none, some (fJ l4), none, some (fJ e.1), none, some (fJ e.2), none, some (fI l10)], []) (156, fjl L, M) Q) : Wp (d + 0, 302, 48, 0, 0, [some (fJ l0), none, some (fJ l2), none, some (fJ l4), none, some (fJ l6), none, some (fJ l8), none, some (fI l10)], []) (156, fjl L, M) Q := by
  refine fLp_wp (W := fun s => Wp (d + 0, 302, 48, 0, 0, [some (fJ l0), none, some (fJ l2), none, some (fJ l4), none, some (fJ s.1), none, some (fJ s.2), none, some (fI l10)], []) (156, fjl L, M) Q) (e := r) ?_ h
  intro s r1 h hC hX
  refine s_X12_part_b48_ok (d := d) h (fun a0 a1 e1 => ?_) (fun e  e1 => hE e  (hX _ e1).symm)
  exact hC _ e1
noncomputable def s_X12_part_j45 (M : fM) (l0 l2 l4 l6 l10 t0 t1 : Int) : Option ((Int × Int × Int) ⊕ Int) :=
  if finl (t0 + t1) then
    (s_X12_part_l48 M l0 l2 l4 l10 (l6, (t0 + t1))).bind fun e48 =>
      if fin (l10 + (-1)) then
        some (.inl (e48.1, e48.2, (l10 + (-1))))
      else none
  else none
theorem s_X12_part_j45_ok {d L : Nat} {M : fM} {l0 l2 l4 l6 l10 t0 t1 : Int} {o8 o9 : Option fV} {r : ((Int × Int × Int) ⊕ Int)} {Q : fO → fH → Prop} (h : s_X12_part_j45 M l0 l2 l4 l6 l10 t0 t1 = some r) (hC : ∀ (l6' l8' l10' : Int), r = .inl (l6', l8', l10') → Wp (d + 0, 302, 10, 0, 0, [some (fJ l0), none, some (fJ l2), none, some (fJ l4), none, some (fJ l6'), none, some (fJ l8'), none, some (fI l10')], []) (156, fjl L, M) Q) (hE : ∀ (e : Int) (o0' o1' o2' o3' o4' o5' o8' o9' o10' : Option fV), r = .inr e → Wp (d + 0, 302, 78, 0, 0, [o0', o1', o2', o3', o4', o5', some (fJ e), none, o8', o9', o10'], []) (156, fjl L, M) Q) : Wp (d + 0, 302, 45, 0, 0, [some (fJ l0), none, some (fJ l2), none, some (fJ l4), none, some (fJ l6), none, o8, o9, some (fI l10)], [fJ t1, fJ t0]) (156, fjl L, M) Q := by
  unfold s_X12_part_j45 at h
  obtain ⟨g0, h⟩ := fgd h
  refine Wp.run 2 (f' := (d + 0, 302, 48, 0, 0, [some (fJ l0), none, some (fJ l2), none, some (fJ l4), none, some (fJ l6), none, some (fJ (fwl (t0 + t1))), none, some (fI l10)], [])) (h' := (156, fjl L, M)) rfl trivial ?_
  rw [fwl_id g0]
  obtain ⟨e48, hy, h⟩ := fbd h
  refine s_X12_part_l48_ok hy (fun x ex => ?_)
  cases ex
  show Wp (d + 0, 302, 72, 0, 0, [some (fJ l0), none, some (fJ l2), none, some (fJ l4), none, some (fJ e48.1), none, some (fJ e48.2), none, some (fI l10)], []) (156, fjl L, M) Q
  obtain ⟨g0, h⟩ := fgd h
  refine Wp.run 2 (f' := (d + 0, 302, 10, 0, 0, [some (fJ l0), none, some (fJ l2), none, some (fJ l4), none, some (fJ e48.1), none, some (fJ e48.2), none, some (fI (fw (l10 + (-1))))], [])) (h' := (156, fjl L, M)) rfl trivial ?_
  rw [fw_id g0]
  exact hC _ _ _ (Option.some.inj h).symm
noncomputable def s_X12_part_b10 (M : fM) (l0 l2 l4 l6 l8 l10 : Int) : Option ((Int × Int × Int) ⊕ Int) :=
  if l10 < 0 then
    some (.inr l6)
  else
    if finl (2 * l6) ∧ finl (2 * l8) then
      if ¬ (flan (flr l0 l10) 1) = 1 then
        s_X12_part_j45 M l0 l2 l4 (2 * l6) l10 (2 * l8) 0
      else
        s_X12_part_j45 M l0 l2 l4 (2 * l6) l10 (2 * l8) l2
    else none
theorem s_X12_part_b10_ok {d L : Nat} {M : fM} {l0 l2 l4 l6 l8 l10 : Int} {r : ((Int × Int × Int) ⊕ Int)} {Q : fO → fH → Prop} (h : s_X12_part_b10 M l0 l2 l4 l6 l8 l10 = some r) (hC : ∀ (l6' l8' l10' : Int), r = .inl (l6', l8', l10') → Wp (d + 0, 302, 10, 0, 0, [some (fJ l0), none, some (fJ l2), none, some (fJ l4), none, some (fJ l6'), none, some (fJ l8'), none, some (fI l10')], []) (156, fjl L, M) Q) (hE : ∀ (e : Int) (o0' o1' o2' o3' o4' o5' o8' o9' o10' : Option fV), r = .inr e → Wp (d + 0, 302, 78, 0, 0, [o0', o1', o2', o3', o4', o5', some (fJ e), none, o8', o9', o10'], []) (156, fjl L, M) Q) : Wp (d + 0, 302, 10, 0, 0, [some (fJ l0), none, some (fJ l2), none, some (fJ l4), none, some (fJ l6), none, some (fJ l8), none, some (fI l10)], []) (156, fjl L, M) Q := by
  unfold s_X12_part_b10 at h
  refine Wp.run 1 (f' := (d + 0, 302, 12, 0, 0, [some (fJ l0), none, some (fJ l2), none, some (fJ l4), none, some (fJ l6), none, some (fJ l8), none, some (fI l10)], [fI l10])) (h' := (156, fjl L, M)) rfl trivial ?_
  refine Wp.br rfl (fun (c : l10 < 0) => ?_) (fun (c : ¬ (l10 < 0)) => ?_)
  · replace h := fps c h
    exact hE _ _ _ _ _ _ _ _ _ _ (Option.some.inj h).symm
  · replace h := fng c h
    obtain ⟨⟨g0, g1⟩, h⟩ := fgd h
    refine Wp.run 14 (f' := (d + 0, 302, 37, 0, 0, [some (fJ l0), none, some (fJ l2), none, some (fJ l4), none, some (fJ (fwl (2 * l6))), none, _, _, some (fI l10)], [fI (fcm (flan (flr l0 l10) 1) 1), fJ (fwl (2 * l8))])) (h' := (156, fjl L, M)) rfl trivial ?_
    rw [fwl_id g0, fwl_id g1]
    refine Wp.br rfl (fun (c : ¬ (fcm (flan (flr l0 l10) 1) 1) = 0) => ?_) (fun (c : ¬ (¬ (fcm (flan (flr l0 l10) 1) 1) = 0)) => ?_)
    · replace c := (fcm_ne _ _).mp c
      replace h := fps c h
      refine Wp.run 1 (f' := (d + 0, 302, 45, 0, 0, [some (fJ l0), none, some (fJ l2), none, some (fJ l4), none, some (fJ (2 * l6)), none, _, _, some (fI l10)], [fJ 0, fJ (2 * l8)])) (h' := (156, fjl L, M)) rfl trivial ?_
      exact s_X12_part_j45_ok h hC hE
    · replace c := fun z => c ((fcm_ne _ _).mpr z)
      replace h := fng c h
      refine Wp.run 2 (f' := (d + 0, 302, 45, 0, 0, [some (fJ l0), none, some (fJ l2), none, some (fJ l4), none, some (fJ (2 * l6)), none, _, _, some (fI l10)], [fJ l2, fJ (2 * l8)])) (h' := (156, fjl L, M)) rfl trivial ?_
      exact s_X12_part_j45_ok h hC hE
noncomputable def s_X12_part_l10 (M : fM) (l0 l2 l4 : Int) (s : (Int × Int × Int)) : Option Int := fLp (fun s => s_X12_part_b10 M l0 l2 l4 s.1 s.2.1 s.2.2) s
theorem s_X12_part_l10_ok {d L : Nat} {M : fM} {l0 l2 l4 l6 l8 l10 : Int} {r : Int} {Q : fO → fH → Prop} (h : s_X12_part_l10 M l0 l2 l4 (l6, l8, l10) = some r) (hE : ∀ (e : Int) (o0' o1' o2' o3' o4' o5' o8' o9' o10' : Option fV), r = e → Wp (d + 0, 302, 78, 0, 0, [o0', o1', o2', o3', o4', o5', some (fJ e), none, o8', o9', o10'], []) (156, fjl L, M) Q) : Wp (d + 0, 302, 10, 0, 0, [some (fJ l0), none, some (fJ l2), none, some (fJ l4), none, some (fJ l6), none, some (fJ l8), none, some (fI l10)], []) (156, fjl L, M) Q := by
  refine fLp_wp (W := fun s => Wp (d + 0, 302, 10, 0, 0, [some (fJ l0), none, some (fJ l2), none, some (fJ l4), none, some (fJ s.1), none, some (fJ s.2.1), none, some (fI s.2.2)], []) (156, fjl L, M) Q) (e := r) ?_ h
  intro s r1 h hC hX
  refine s_X12_part_b10_ok (d := d) h (fun a0 a1 a2 e1 => ?_) (fun e u0 u1 u2 u3 u4 u5 u6 u7 u8 e1 => hE e u0 u1 u2 u3 u4 u5 u6 u7 u8 (hX _ e1).symm)
  exact hC _ e1
noncomputable def s_X12_part (M : fM) (l0 l2 l4 : Int) : Option Int :=
  (s_X12_part_l10 M l0 l2 l4 (0, 0, 62)).bind fun e10 =>
    some e10
theorem s_X12_part_ok {d L : Nat} {M : fM} {l0 l2 l4 : Int} {r : Int} {Q : fO → fH → Prop} (h : s_X12_part M l0 l2 l4 = some r) (H : Q (oJ r) (156, fjl L, M)) : Wp (d + 0, 302, 0, 0, 0, [some (fJ l0), none, some (fJ l2), none, some (fJ l4), none, none, none, none, none, none], []) (156, fjl L, M) Q := by
  unfold s_X12_part at h
  refine Wp.run 6 (f' := (d + 0, 302, 10, 0, 0, [some (fJ l0), none, some (fJ l2), none, some (fJ l4), none, some (fJ 0), none, some (fJ 0), none, some (fI 62)], [])) (h' := (156, fjl L, M)) rfl trivial ?_
  obtain ⟨e10, hy, h⟩ := fbd h
  refine s_X12_part_l10_ok hy (fun x u0 u1 u2 u3 u4 u5 u8 u9 u10 ex => ?_)
  cases ex
  show Wp (d + 0, 302, 78, 0, 0, [u0, u1, u2, u3, u4, u5, some (fJ e10), none, u8, u9, u10], []) (156, fjl L, M) Q
  refine Wp.run 1 (f' := (d + 0, 302, 80, 0, 0, [_, _, _, _, _, _, _, _, _, _, _], [fJ e10])) (h' := (156, fjl L, M)) rfl trivial ?_
  obtain rfl := Option.some.inj h
  exact Wp.done rfl (by decide) H
abbrev s_X12_bag_mods : List (Nat × Option Nat) := [(122, some 0), (122, some 2), (122, some 3), (122, some 4), (122, some 5), (122, some 24), (122, some 25), (122, some 26), (122, some 27), (122, some 28), (122, some 39), (122, some 57), (128, none), (129, none), (133, none), (134, none), (135, none), (136, none), (137, none), (146, none), (147, none)]
noncomputable def s_X12_bag_b51 (M : fM) (l1 l2 l4 : Int) : Option ((Int × Int) ⊕ Int) :=
  if (M 122 3) ≤ l4 then
    some (.inr l2)
  else
    if finl (20 * l2) ∧ fin (l4 + 1) then
      some (.inl ((20 * l2), (l4 + 1)))
    else none
theorem s_X12_bag_b51_ok {d L : Nat} {M : fM} {l1 l2 l4 : Int} {o5 o6 o7 o8 o9 o10 o11 : Option fV} {r : ((Int × Int) ⊕ Int)} {Q : fO → fH → Prop} (h : s_X12_bag_b51 M l1 l2 l4 = some r) (hC : ∀ (l2' l4' : Int) (o5' o6' o7' o8' o9' o10' o11' : Option fV), r = .inl (l2', l4') → Wp (d + 6, 303, 51, 0, 0, [some (fA 122), some (fI l1), some (fJ l2'), none, some (fI l4'), o5', o6', o7', o8', o9', o10', o11'], []) (156, fjl L, M) Q) (hE : ∀ (e : Int) (o4' o5' o6' o7' o8' o9' o10' o11' : Option fV), r = .inr e → Wp (d + 6, 303, 72, 0, 0, [some (fA 122), some (fI l1), some (fJ e), none, o4', o5', o6', o7', o8', o9', o10', o11'], []) (156, fjl L, M) Q) : Wp (d + 6, 303, 51, 0, 0, [some (fA 122), some (fI l1), some (fJ l2), none, some (fI l4), o5, o6, o7, o8, o9, o10, o11], []) (156, fjl L, M) Q := by
  unfold s_X12_bag_b51 at h
  refine Wp.run 3 (f' := (d + 6, 303, 57, 0, 0, [some (fA 122), some (fI l1), some (fJ l2), none, some (fI l4), _, _, _, _, _, _, _], [fI (M 122 3), fI l4])) (h' := (156, fjl L, M)) rfl trivial ?_
  refine Wp.br rfl (fun (c : (M 122 3) ≤ l4) => ?_) (fun (c : ¬ ((M 122 3) ≤ l4)) => ?_)
  · replace h := fps c h
    exact hE _ _ _ _ _ _ _ _ _ (Option.some.inj h).symm
  · replace h := fng c h
    obtain ⟨⟨g0, g1⟩, h⟩ := fgd h
    refine Wp.run 6 (f' := (d + 6, 303, 51, 0, 0, [some (fA 122), some (fI l1), some (fJ (fwl (20 * l2))), none, some (fI (fw (l4 + 1))), _, _, _, _, _, _, _], [])) (h' := (156, fjl L, M)) rfl trivial ?_
    rw [fwl_id g0, fw_id g1]
    exact hC _ _ _ _ _ _ _ _ _ (Option.some.inj h).symm
theorem s_X12_bag_b51_fr {M : fM} {l1 l2 l4 : Int} {r : ((Int × Int) ⊕ Int)} (h : s_X12_bag_b51 M l1 l2 l4 = some r) : fSame s_X12_bag_mods M (Sum.elim (fun _ => M) (fun _ => M) r) := by
  unfold s_X12_bag_b51 at h
  by_cases c : (M 122 3) ≤ l4
  · replace h := fps c h
    obtain rfl := Option.some.inj h
    exact fs_refl
  · replace h := fng c h
    replace h := (fgd h).2
    obtain rfl := Option.some.inj h
    exact fs_refl
noncomputable def s_X12_bag_l51 (M : fM) (l1 : Int) (s : (Int × Int)) : Option Int := fLp (fun s => s_X12_bag_b51 M l1 s.1 s.2) s
theorem s_X12_bag_l51_ok {d L : Nat} {M : fM} {l1 l2 l4 : Int} {o5 o6 o7 o8 o9 o10 o11 : Option fV} {r : Int} {Q : fO → fH → Prop} (h : s_X12_bag_l51 M l1 (l2, l4) = some r) (hE : ∀ (e : Int) (o4' o5' o6' o7' o8' o9' o10' o11' : Option fV), r = e → Wp (d + 6, 303, 72, 0, 0, [some (fA 122), some (fI l1), some (fJ e), none, o4', o5', o6', o7', o8', o9', o10', o11'], []) (156, fjl L, M) Q) : Wp (d + 6, 303, 51, 0, 0, [some (fA 122), some (fI l1), some (fJ l2), none, some (fI l4), o5, o6, o7, o8, o9, o10, o11], []) (156, fjl L, M) Q := by
  refine fLp_wp (W := fun s => ∀ (o5 o6 o7 o8 o9 o10 o11 : Option fV), Wp (d + 6, 303, 51, 0, 0, [some (fA 122), some (fI l1), some (fJ s.1), none, some (fI s.2), o5, o6, o7, o8, o9, o10, o11], []) (156, fjl L, M) Q) (e := r) ?_ h _ _ _ _ _ _ _
  intro s r1 h hC hX o5 o6 o7 o8 o9 o10 o11
  refine s_X12_bag_b51_ok (d := d) h (fun a0 a1 _ _ _ _ _ _ _ e1 => ?_) (fun e u0 u1 u2 u3 u4 u5 u6 u7 e1 => hE e u0 u1 u2 u3 u4 u5 u6 u7 (hX _ e1).symm)
  exact hC _ e1 _ _ _ _ _ _ _
noncomputable def s_X12_bag_b84 (M : fM) (l1 l2 l4 l5 : Int) : Option ((Int × fM) ⊕ fM) :=
  if 9 ≤ l5 then
    some (.inr M)
  else
    if ¬ l5 = 0 then
      if (0 ≤ l5 ∧ l5 < 9) ∧ fin (l5 + 1) then
        some (.inl ((l5 + 1), (fup M 147 (l5).toNat 0)))
      else none
    else
      if (0 ≤ l5 ∧ l5 < 9) ∧ fin (l5 + 1) then
        some (.inl ((l5 + 1), (fup M 147 (l5).toNat 1)))
      else none
theorem s_X12_bag_b84_ok {d L : Nat} {M : fM} {l1 l2 l4 l5 : Int} {o6 o7 o8 o9 o10 o11 : Option fV} {r : ((Int × fM) ⊕ fM)} {Q : fO → fH → Prop} (h : s_X12_bag_b84 M l1 l2 l4 l5 = some r) (hC : ∀ (l5' : Int) (M' : fM) (o6' o7' o8' o9' o10' o11' : Option fV), r = .inl (l5', M') → Wp (d + 6, 303, 84, 0, 0, [some (fA 122), some (fI l1), some (fJ l2), none, some (fI l4), some (fI l5'), o6', o7', o8', o9', o10', o11'], []) (156, fjl L, M') Q) (hE : ∀ (e : fM) (o5' o6' o7' o8' o9' o10' o11' : Option fV), r = .inr e → Wp (d + 6, 303, 114, 0, 0, [some (fA 122), some (fI l1), some (fJ l2), none, some (fI l4), o5', o6', o7', o8', o9', o10', o11'], []) (156, fjl L, e) Q) : Wp (d + 6, 303, 84, 0, 0, [some (fA 122), some (fI l1), some (fJ l2), none, some (fI l4), some (fI l5), o6, o7, o8, o9, o10, o11], []) (156, fjl L, M) Q := by
  unfold s_X12_bag_b84 at h
  refine Wp.run 2 (f' := (d + 6, 303, 88, 0, 0, [some (fA 122), some (fI l1), some (fJ l2), none, some (fI l4), some (fI l5), _, _, _, _, _, _], [fI 9, fI l5])) (h' := (156, fjl L, M)) rfl trivial ?_
  refine Wp.br rfl (fun (c : 9 ≤ l5) => ?_) (fun (c : ¬ (9 ≤ l5)) => ?_)
  · replace h := fps c h
    exact hE _ _ _ _ _ _ _ _ (Option.some.inj h).symm
  · replace h := fng c h
    refine Wp.run 4 (f' := (d + 6, 303, 99, 0, 0, [some (fA 122), some (fI l1), some (fJ l2), none, some (fI l4), some (fI l5), _, _, _, _, _, _], [fI l5, fI l5, fA 147])) (h' := (156, fjl L, M)) rfl trivial ?_
    refine Wp.br rfl (fun (c : ¬ l5 = 0) => ?_) (fun (c : ¬ (¬ l5 = 0)) => ?_)
    · replace h := fps c h
      obtain ⟨⟨g0, g1⟩, h⟩ := fgd h
      refine Wp.run 4 (P := [0 ≤ l5 ∧ l5 < 9]) (f' := (d + 6, 303, 84, 0, 0, [some (fA 122), some (fI l1), some (fJ l2), none, some (fI l4), some (fI (fw (l5 + 1))), _, _, _, _, _, _], [])) (h' := (156, fjl L, (fup M 147 (l5).toNat 0))) rfl ?_ ?_
      · exact g0
      rw [fw_id g1]
      exact hC _ _ _ _ _ _ _ _ (Option.some.inj h).symm
    · replace h := fng c h
      obtain ⟨⟨g0, g1⟩, h⟩ := fgd h
      refine Wp.run 5 (P := [0 ≤ l5 ∧ l5 < 9]) (f' := (d + 6, 303, 84, 0, 0, [some (fA 122), some (fI l1), some (fJ l2), none, some (fI l4), some (fI (fw (l5 + 1))), _, _, _, _, _, _], [])) (h' := (156, fjl L, (fup M 147 (l5).toNat 1))) rfl ?_ ?_
      · exact g0
      rw [fw_id g1]
      exact hC _ _ _ _ _ _ _ _ (Option.some.inj h).symm
theorem s_X12_bag_b84_fr {M : fM} {l1 l2 l4 l5 : Int} {r : ((Int × fM) ⊕ fM)} (h : s_X12_bag_b84 M l1 l2 l4 l5 = some r) : fSame s_X12_bag_mods M (Sum.elim (fun s => s.2) (fun e => e) r) := by
  unfold s_X12_bag_b84 at h
  by_cases c : 9 ≤ l5
  · replace h := fps c h
    obtain rfl := Option.some.inj h
    exact fs_refl
  · replace h := fng c h
    by_cases c : ¬ l5 = 0
    · replace h := fps c h
      replace h := (fgd h).2
      obtain rfl := Option.some.inj h
      exact fs_up fs_refl (.inl (by decide))
    · replace h := fng c h
      replace h := (fgd h).2
      obtain rfl := Option.some.inj h
      exact fs_up fs_refl (.inl (by decide))
noncomputable def s_X12_bag_l84 (l1 l2 l4 : Int) (s : (Int × fM)) : Option fM := fLp (fun s => s_X12_bag_b84 s.2 l1 l2 l4 s.1) s
theorem s_X12_bag_l84_ok {d L : Nat} {M : fM} {l1 l2 l4 l5 : Int} {o6 o7 o8 o9 o10 o11 : Option fV} {r : fM} {Q : fO → fH → Prop} (h : s_X12_bag_l84 l1 l2 l4 (l5, M) = some r) (hE : ∀ (e : fM) (o5' o6' o7' o8' o9' o10' o11' : Option fV), r = e → Wp (d + 6, 303, 114, 0, 0, [some (fA 122), some (fI l1), some (fJ l2), none, some (fI l4), o5', o6', o7', o8', o9', o10', o11'], []) (156, fjl L, e) Q) : Wp (d + 6, 303, 84, 0, 0, [some (fA 122), some (fI l1), some (fJ l2), none, some (fI l4), some (fI l5), o6, o7, o8, o9, o10, o11], []) (156, fjl L, M) Q := by
  refine fLp_wp (W := fun s => ∀ (o6 o7 o8 o9 o10 o11 : Option fV), Wp (d + 6, 303, 84, 0, 0, [some (fA 122), some (fI l1), some (fJ l2), none, some (fI l4), some (fI s.1), o6, o7, o8, o9, o10, o11], []) (156, fjl L, s.2) Q) (e := r) ?_ h _ _ _ _ _ _
  intro s r1 h hC hX o6 o7 o8 o9 o10 o11
  refine s_X12_bag_b84_ok (d := d) h (fun a0 a1 _ _ _ _ _ _ e1 => ?_) (fun e u0 u1 u2 u3 u4 u5 u6 e1 => hE e u0 u1 u2 u3 u4 u5 u6 (hX _ e1).symm)
  exact hC _ e1 _ _ _ _ _ _
theorem s_X12_bag_l84_fr {M : fM} {l1 l2 l4 l5 : Int} {r : fM} (h : s_X12_bag_l84 l1 l2 l4 (l5, M) = some r) : fSame s_X12_bag_mods M ((fun e => e) r) := by
  refine fLp_inv (I := fun s => fSame s_X12_bag_mods M s.2) (J := fun r => fSame s_X12_bag_mods M ((fun e => e) r)) h fs_refl (fun s s1 hs hb => ?_) (fun s e hs hb => ?_)
  · exact fs_trans hs (s_X12_bag_b84_fr hb)
  · exact fs_trans hs (s_X12_bag_b84_fr hb)
noncomputable def s_X12_bag_b153 (M : fM) (l1 l2 l4 l5 l6 l7 : Int) : Option ((Int × fM) ⊕ fM) :=
  if l7 < 0 then
    some (.inr M)
  else
    if (0 ≤ l7 ∧ l7 < 9) ∧ fin (20 - l6) ∧ finl ((M 147 (l7).toNat) * (20 - l6)) then
      if ¬ l7 = 0 then
        if fin (l7 - 1) ∧ (0 ≤ (l7 - 1) ∧ (l7 - 1) < 9) ∧ finl ((M 147 (l7 - 1).toNat) * l6) ∧ finl (((M 147 (l7).toNat) * (20 - l6)) + ((M 147 (l7 - 1).toNat) * l6)) ∧ (0 ≤ l7 ∧ l7 < 9) ∧ fin (l7 + (-1)) then
          some (.inl ((l7 + (-1)), (fup M 147 (l7).toNat (((M 147 (l7).toNat) * (20 - l6)) + ((M 147 (l7 - 1).toNat) * l6)))))
        else none
      else
        if finl (((M 147 (l7).toNat) * (20 - l6)) + 0) ∧ (0 ≤ l7 ∧ l7 < 9) ∧ fin (l7 + (-1)) then
          some (.inl ((l7 + (-1)), (fup M 147 (l7).toNat (((M 147 (l7).toNat) * (20 - l6)) + 0))))
        else none
    else none
theorem s_X12_bag_b153_ok {d L : Nat} {M : fM} {l1 l2 l4 l5 l6 l7 : Int} {o8 o9 o10 o11 : Option fV} {r : ((Int × fM) ⊕ fM)} {Q : fO → fH → Prop} (h : s_X12_bag_b153 M l1 l2 l4 l5 l6 l7 = some r) (hC : ∀ (l7' : Int) (M' : fM) (o8' o9' o10' o11' : Option fV), r = .inl (l7', M') → Wp (d + 6, 303, 153, 0, 0, [some (fA 122), some (fI l1), some (fJ l2), none, some (fI l4), some (fI l5), some (fI l6), some (fI l7'), o8', o9', o10', o11'], []) (156, fjl L, M') Q) (hE : ∀ (e : fM) (o6' o7' o8' o9' o10' o11' : Option fV), r = .inr e → Wp (d + 6, 303, 208, 0, 0, [some (fA 122), some (fI l1), some (fJ l2), none, some (fI l4), some (fI l5), o6', o7', o8', o9', o10', o11'], []) (156, fjl L, e) Q) : Wp (d + 6, 303, 153, 0, 0, [some (fA 122), some (fI l1), some (fJ l2), none, some (fI l4), some (fI l5), some (fI l6), some (fI l7), o8, o9, o10, o11], []) (156, fjl L, M) Q := by
  unfold s_X12_bag_b153 at h
  refine Wp.run 1 (f' := (d + 6, 303, 155, 0, 0, [some (fA 122), some (fI l1), some (fJ l2), none, some (fI l4), some (fI l5), some (fI l6), some (fI l7), _, _, _, _], [fI l7])) (h' := (156, fjl L, M)) rfl trivial ?_
  refine Wp.br rfl (fun (c : l7 < 0) => ?_) (fun (c : ¬ (l7 < 0)) => ?_)
  · replace h := fps c h
    exact hE _ _ _ _ _ _ _ (Option.some.inj h).symm
  · replace h := fng c h
    obtain ⟨⟨g0, g1, g2⟩, h⟩ := fgd h
    refine Wp.run 13 (P := [0 ≤ l7 ∧ l7 < 9]) (f' := (d + 6, 303, 180, 0, 0, [some (fA 122), some (fI l1), some (fJ l2), none, some (fI l4), some (fI l5), some (fI l6), some (fI l7), _, _, _, _], [fI l7, fJ (fwl ((M 147 (l7).toNat) * (fw (20 - l6)))), fI l7, fA 147])) (h' := (156, fjl L, M)) rfl ?_ ?_
    · exact g0
    rw [fw_id g1, fwl_id g2]
    refine Wp.br rfl (fun (c : ¬ l7 = 0) => ?_) (fun (c : ¬ (¬ l7 = 0)) => ?_)
    · replace h := fps c h
      obtain ⟨⟨g0, g1, g2, g3, g4, g5⟩, h⟩ := fgd h
      refine Wp.run 12 (P := [0 ≤ (fw (l7 - 1)) ∧ (fw (l7 - 1)) < 9, 0 ≤ l7 ∧ l7 < 9]) (f' := (d + 6, 303, 205, 0, 0, [some (fA 122), some (fI l1), some (fJ l2), none, some (fI l4), some (fI l5), some (fI l6), some (fI (fw (l7 + (-1)))), _, _, _, _], [])) (h' := (156, fjl L, (fup M 147 (l7).toNat (fwl (((M 147 (l7).toNat) * (20 - l6)) + (fwl ((M 147 (fw (l7 - 1)).toNat) * l6))))))) rfl ?_ ?_
      · rw [fw_id g0]; exact ⟨g1, g4⟩
      rw [fw_id g5, fw_id g0, fwl_id g2, fwl_id g3]
      refine Wp.run 1 (f' := (d + 6, 303, 153, 0, 0, [some (fA 122), some (fI l1), some (fJ l2), none, some (fI l4), some (fI l5), some (fI l6), some (fI (l7 + (-1))), _, _, _, _], [])) (h' := (156, fjl L, (fup M 147 (l7).toNat (((M 147 (l7).toNat) * (20 - l6)) + ((M 147 (l7 - 1).toNat) * l6))))) rfl trivial ?_
      exact hC _ _ _ _ _ _ (Option.some.inj h).symm
    · replace h := fng c h
      obtain ⟨⟨g0, g1, g2⟩, h⟩ := fgd h
      refine Wp.run 6 (P := [0 ≤ l7 ∧ l7 < 9]) (f' := (d + 6, 303, 153, 0, 0, [some (fA 122), some (fI l1), some (fJ l2), none, some (fI l4), some (fI l5), some (fI l6), some (fI (fw (l7 + (-1)))), _, _, _, _], [])) (h' := (156, fjl L, (fup M 147 (l7).toNat (fwl (((M 147 (l7).toNat) * (20 - l6)) + 0))))) rfl ?_ ?_
      · exact g1
      rw [fw_id g2, fwl_id g0]
      exact hC _ _ _ _ _ _ (Option.some.inj h).symm
theorem s_X12_bag_b153_fr {M : fM} {l1 l2 l4 l5 l6 l7 : Int} {r : ((Int × fM) ⊕ fM)} (h : s_X12_bag_b153 M l1 l2 l4 l5 l6 l7 = some r) : fSame s_X12_bag_mods M (Sum.elim (fun s => s.2) (fun e => e) r) := by
  unfold s_X12_bag_b153 at h
  by_cases c : l7 < 0
  · replace h := fps c h
    obtain rfl := Option.some.inj h
    exact fs_refl
  · replace h := fng c h
    replace h := (fgd h).2
    by_cases c : ¬ l7 = 0
    · replace h := fps c h
      replace h := (fgd h).2
      obtain rfl := Option.some.inj h
      exact fs_up fs_refl (.inl (by decide))
    · replace h := fng c h
      replace h := (fgd h).2
      obtain rfl := Option.some.inj h
      exact fs_up fs_refl (.inl (by decide))
noncomputable def s_X12_bag_l153 (l1 l2 l4 l5 l6 : Int) (s : (Int × fM)) : Option fM := fLp (fun s => s_X12_bag_b153 s.2 l1 l2 l4 l5 l6 s.1) s
theorem s_X12_bag_l153_ok {d L : Nat} {M : fM} {l1 l2 l4 l5 l6 l7 : Int} {o8 o9 o10 o11 : Option fV} {r : fM} {Q : fO → fH → Prop} (h : s_X12_bag_l153 l1 l2 l4 l5 l6 (l7, M) = some r) (hE : ∀ (e : fM) (o6' o7' o8' o9' o10' o11' : Option fV), r = e → Wp (d + 6, 303, 208, 0, 0, [some (fA 122), some (fI l1), some (fJ l2), none, some (fI l4), some (fI l5), o6', o7', o8', o9', o10', o11'], []) (156, fjl L, e) Q) : Wp (d + 6, 303, 153, 0, 0, [some (fA 122), some (fI l1), some (fJ l2), none, some (fI l4), some (fI l5), some (fI l6), some (fI l7), o8, o9, o10, o11], []) (156, fjl L, M) Q := by
  refine fLp_wp (W := fun s => ∀ (o8 o9 o10 o11 : Option fV), Wp (d + 6, 303, 153, 0, 0, [some (fA 122), some (fI l1), some (fJ l2), none, some (fI l4), some (fI l5), some (fI l6), some (fI s.1), o8, o9, o10, o11], []) (156, fjl L, s.2) Q) (e := r) ?_ h _ _ _ _
  intro s r1 h hC hX o8 o9 o10 o11
  refine s_X12_bag_b153_ok (d := d) h (fun a0 a1 _ _ _ _ e1 => ?_) (fun e u0 u1 u2 u3 u4 u5 e1 => hE e u0 u1 u2 u3 u4 u5 (hX _ e1).symm)
  exact hC _ e1 _ _ _ _
theorem s_X12_bag_l153_fr {M : fM} {l1 l2 l4 l5 l6 l7 : Int} {r : fM} (h : s_X12_bag_l153 l1 l2 l4 l5 l6 (l7, M) = some r) : fSame s_X12_bag_mods M ((fun e => e) r) := by
  refine fLp_inv (I := fun s => fSame s_X12_bag_mods M s.2) (J := fun r => fSame s_X12_bag_mods M ((fun e => e) r)) h fs_refl (fun s s1 hs hb => ?_) (fun s e hs hb => ?_)
  · exact fs_trans hs (s_X12_bag_b153_fr hb)
  · exact fs_trans hs (s_X12_bag_b153_fr hb)
noncomputable def s_X12_bag_b117 (M : fM) (l1 l2 l4 l5 : Int) : Option ((Int × fM) ⊕ fM) :=
  if (M 122 3) ≤ l5 then
    some (.inr M)
  else
    if (0 ≤ l5 ∧ l5 < 9) ∧ fin (4 * (M 133 (l5).toNat)) ∧ fin (527 + (4 * (M 133 (l5).toNat))) ∧ fin ((527 + (4 * (M 133 (l5).toNat))) + l4) ∧ (0 ≤ ((527 + (4 * (M 133 (l5).toNat))) + l4) ∧ ((527 + (4 * (M 133 (l5).toNat))) + l4) < 1290) then
      (s_X12_bag_l153 l1 l2 l4 l5 (M 124 ((527 + (4 * (M 133 (l5).toNat))) + l4).toNat) (8, M)).bind fun e153 =>
        if fin (l5 + 1) then
          some (.inl ((l5 + 1), e153))
        else none
    else none
theorem s_X12_bag_b117_ok {d L : Nat} {M : fM} {l1 l2 l4 l5 : Int} {o6 o7 o8 o9 o10 o11 : Option fV} {r : ((Int × fM) ⊕ fM)} {Q : fO → fH → Prop} (h : s_X12_bag_b117 M l1 l2 l4 l5 = some r) (hC : ∀ (l5' : Int) (M' : fM) (o6' o7' o8' o9' o10' o11' : Option fV), r = .inl (l5', M') → Wp (d + 6, 303, 117, 0, 0, [some (fA 122), some (fI l1), some (fJ l2), none, some (fI l4), some (fI l5'), o6', o7', o8', o9', o10', o11'], []) (156, fjl L, M') Q) (hE : ∀ (e : fM) (o5' o6' o7' o8' o9' o10' o11' : Option fV), r = .inr e → Wp (d + 6, 303, 214, 0, 0, [some (fA 122), some (fI l1), some (fJ l2), none, some (fI l4), o5', o6', o7', o8', o9', o10', o11'], []) (156, fjl L, e) Q) : Wp (d + 6, 303, 117, 0, 0, [some (fA 122), some (fI l1), some (fJ l2), none, some (fI l4), some (fI l5), o6, o7, o8, o9, o10, o11], []) (156, fjl L, M) Q := by
  unfold s_X12_bag_b117 at h
  refine Wp.run 3 (f' := (d + 6, 303, 123, 0, 0, [some (fA 122), some (fI l1), some (fJ l2), none, some (fI l4), some (fI l5), _, _, _, _, _, _], [fI (M 122 3), fI l5])) (h' := (156, fjl L, M)) rfl trivial ?_
  refine Wp.br rfl (fun (c : (M 122 3) ≤ l5) => ?_) (fun (c : ¬ ((M 122 3) ≤ l5)) => ?_)
  · replace h := fps c h
    exact hE _ _ _ _ _ _ _ _ (Option.some.inj h).symm
  · replace h := fng c h
    obtain ⟨⟨g0, g1, g2, g3, g4⟩, h⟩ := fgd h
    refine Wp.run 14 (P := [0 ≤ l5 ∧ l5 < 9, 0 ≤ (fw ((fw (527 + (fw (4 * (M 133 (l5).toNat))))) + l4)) ∧ (fw ((fw (527 + (fw (4 * (M 133 (l5).toNat))))) + l4)) < 1290]) (f' := (d + 6, 303, 149, 0, 0, [some (fA 122), some (fI l1), some (fJ l2), none, some (fI l4), some (fI l5), some (fI (M 124 (fw ((fw (527 + (fw (4 * (M 133 (l5).toNat))))) + l4)).toNat)), _, _, _, _, _], [])) (h' := (156, fjl L, M)) rfl ?_ ?_
    · rw [fw_id g1, fw_id g2, fw_id g3]; exact ⟨g0, g4⟩
    rw [fw_id g1, fw_id g2, fw_id g3]
    refine Wp.run 2 (f' := (d + 6, 303, 153, 0, 0, [some (fA 122), some (fI l1), some (fJ l2), none, some (fI l4), some (fI l5), some (fI (M 124 ((527 + (4 * (M 133 (l5).toNat))) + l4).toNat)), some (fI 8), _, _, _, _], [])) (h' := (156, fjl L, M)) rfl trivial ?_
    obtain ⟨e153, hy, h⟩ := fbd h
    refine s_X12_bag_l153_ok hy (fun x u6 u7 u8 u9 u10 u11 ex => ?_)
    cases ex
    show Wp (d + 6, 303, 208, 0, 0, [some (fA 122), some (fI l1), some (fJ l2), none, some (fI l4), some (fI l5), u6, u7, u8, u9, u10, u11], []) (156, fjl L, e153) Q
    obtain ⟨g0, h⟩ := fgd h
    refine Wp.run 2 (f' := (d + 6, 303, 117, 0, 0, [some (fA 122), some (fI l1), some (fJ l2), none, some (fI l4), some (fI (fw (l5 + 1))), _, _, _, _, _, _], [])) (h' := (156, fjl L, e153)) rfl trivial ?_
    rw [fw_id g0]
    exact hC _ _ _ _ _ _ _ _ (Option.some.inj h).symm
theorem s_X12_bag_b117_fr {M : fM} {l1 l2 l4 l5 : Int} {r : ((Int × fM) ⊕ fM)} (h : s_X12_bag_b117 M l1 l2 l4 l5 = some r) : fSame s_X12_bag_mods M (Sum.elim (fun s => s.2) (fun e => e) r) := by
  unfold s_X12_bag_b117 at h
  by_cases c : (M 122 3) ≤ l5
  · replace h := fps c h
    obtain rfl := Option.some.inj h
    exact fs_refl
  · replace h := fng c h
    replace h := (fgd h).2
    obtain ⟨e153, hy, h⟩ := fbd h
    have k153 := fs_trans (l := s_X12_bag_mods) fs_refl (s_X12_bag_l153_fr hy)
    replace h := (fgd h).2
    obtain rfl := Option.some.inj h
    exact k153
noncomputable def s_X12_bag_l117 (l1 l2 l4 : Int) (s : (Int × fM)) : Option fM := fLp (fun s => s_X12_bag_b117 s.2 l1 l2 l4 s.1) s
theorem s_X12_bag_l117_ok {d L : Nat} {M : fM} {l1 l2 l4 l5 : Int} {o6 o7 o8 o9 o10 o11 : Option fV} {r : fM} {Q : fO → fH → Prop} (h : s_X12_bag_l117 l1 l2 l4 (l5, M) = some r) (hE : ∀ (e : fM) (o5' o6' o7' o8' o9' o10' o11' : Option fV), r = e → Wp (d + 6, 303, 214, 0, 0, [some (fA 122), some (fI l1), some (fJ l2), none, some (fI l4), o5', o6', o7', o8', o9', o10', o11'], []) (156, fjl L, e) Q) : Wp (d + 6, 303, 117, 0, 0, [some (fA 122), some (fI l1), some (fJ l2), none, some (fI l4), some (fI l5), o6, o7, o8, o9, o10, o11], []) (156, fjl L, M) Q := by
  refine fLp_wp (W := fun s => ∀ (o6 o7 o8 o9 o10 o11 : Option fV), Wp (d + 6, 303, 117, 0, 0, [some (fA 122), some (fI l1), some (fJ l2), none, some (fI l4), some (fI s.1), o6, o7, o8, o9, o10, o11], []) (156, fjl L, s.2) Q) (e := r) ?_ h _ _ _ _ _ _
  intro s r1 h hC hX o6 o7 o8 o9 o10 o11
  refine s_X12_bag_b117_ok (d := d) h (fun a0 a1 _ _ _ _ _ _ e1 => ?_) (fun e u0 u1 u2 u3 u4 u5 u6 e1 => hE e u0 u1 u2 u3 u4 u5 u6 (hX _ e1).symm)
  exact hC _ e1 _ _ _ _ _ _
theorem s_X12_bag_l117_fr {M : fM} {l1 l2 l4 l5 : Int} {r : fM} (h : s_X12_bag_l117 l1 l2 l4 (l5, M) = some r) : fSame s_X12_bag_mods M ((fun e => e) r) := by
  refine fLp_inv (I := fun s => fSame s_X12_bag_mods M s.2) (J := fun r => fSame s_X12_bag_mods M ((fun e => e) r)) h fs_refl (fun s s1 hs hb => ?_) (fun s e hs hb => ?_)
  · exact fs_trans hs (s_X12_bag_b117_fr hb)
  · exact fs_trans hs (s_X12_bag_b117_fr hb)
noncomputable def s_X12_bag_b220 (M : fM) (l1 l2 l4 l5 l7 : Int) : Option ((Int × Int × fM) ⊕ fM) :=
  if 9 ≤ l7 then
    some (.inr M)
  else
    if (0 ≤ l7 ∧ l7 < 9) ∧ finl (l5 + (M 147 (l7).toNat)) ∧ fin (9 * l4) ∧ fin ((9 * l4) + l7) ∧ (0 ≤ ((9 * l4) + l7) ∧ ((9 * l4) + l7) < 36) then
      if fin (l7 + 1) then
        some (.inl ((l5 + (M 147 (l7).toNat)), (l7 + 1), (fup M 146 ((9 * l4) + l7).toNat (l5 + (M 147 (l7).toNat)))))
      else none
    else none
theorem s_X12_bag_b220_ok {d L : Nat} {M : fM} {l1 l2 l4 l5 l7 : Int} {o8 o9 o10 o11 : Option fV} {r : ((Int × Int × fM) ⊕ fM)} {Q : fO → fH → Prop} (h : s_X12_bag_b220 M l1 l2 l4 l5 l7 = some r) (hC : ∀ (l5' l7' : Int) (M' : fM) (o8' o9' o10' o11' : Option fV), r = .inl (l5', l7', M') → Wp (d + 6, 303, 220, 0, 0, [some (fA 122), some (fI l1), some (fJ l2), none, some (fI l4), some (fJ l5'), none, some (fI l7'), o8', o9', o10', o11'], []) (156, fjl L, M') Q) (hE : ∀ (e : fM) (o5' o6' o7' o8' o9' o10' o11' : Option fV), r = .inr e → Wp (d + 6, 303, 260, 0, 0, [some (fA 122), some (fI l1), some (fJ l2), none, some (fI l4), o5', o6', o7', o8', o9', o10', o11'], []) (156, fjl L, e) Q) : Wp (d + 6, 303, 220, 0, 0, [some (fA 122), some (fI l1), some (fJ l2), none, some (fI l4), some (fJ l5), none, some (fI l7), o8, o9, o10, o11], []) (156, fjl L, M) Q := by
  unfold s_X12_bag_b220 at h
  refine Wp.run 2 (f' := (d + 6, 303, 224, 0, 0, [some (fA 122), some (fI l1), some (fJ l2), none, some (fI l4), some (fJ l5), none, some (fI l7), _, _, _, _], [fI 9, fI l7])) (h' := (156, fjl L, M)) rfl trivial ?_
  refine Wp.br rfl (fun (c : 9 ≤ l7) => ?_) (fun (c : ¬ (9 ≤ l7)) => ?_)
  · replace h := fps c h
    exact hE _ _ _ _ _ _ _ _ (Option.some.inj h).symm
  · replace h := fng c h
    obtain ⟨⟨g0, g1, g2, g3, g4⟩, h⟩ := fgd h
    refine Wp.run 16 (P := [0 ≤ l7 ∧ l7 < 9, 0 ≤ (fw ((fw (9 * l4)) + l7)) ∧ (fw ((fw (9 * l4)) + l7)) < 36]) (f' := (d + 6, 303, 254, 0, 0, [some (fA 122), some (fI l1), some (fJ l2), none, some (fI l4), some (fJ (fwl (l5 + (M 147 (l7).toNat)))), none, some (fI l7), _, _, _, _], [])) (h' := (156, fjl L, (fup M 146 (fw ((fw (9 * l4)) + l7)).toNat (fwl (l5 + (M 147 (l7).toNat)))))) rfl ?_ ?_
    · rw [fw_id g2, fw_id g3]; exact ⟨g0, g4⟩
    rw [fwl_id g1, fw_id g2, fw_id g3]
    obtain ⟨g0, h⟩ := fgd h
    refine Wp.run 2 (f' := (d + 6, 303, 220, 0, 0, [some (fA 122), some (fI l1), some (fJ l2), none, some (fI l4), some (fJ (l5 + (M 147 (l7).toNat))), none, some (fI (fw (l7 + 1))), _, _, _, _], [])) (h' := (156, fjl L, (fup M 146 ((9 * l4) + l7).toNat (l5 + (M 147 (l7).toNat))))) rfl trivial ?_
    rw [fw_id g0]
    exact hC _ _ _ _ _ _ _ (Option.some.inj h).symm
theorem s_X12_bag_b220_fr {M : fM} {l1 l2 l4 l5 l7 : Int} {r : ((Int × Int × fM) ⊕ fM)} (h : s_X12_bag_b220 M l1 l2 l4 l5 l7 = some r) : fSame s_X12_bag_mods M (Sum.elim (fun s => s.2.2) (fun e => e) r) := by
  unfold s_X12_bag_b220 at h
  by_cases c : 9 ≤ l7
  · replace h := fps c h
    obtain rfl := Option.some.inj h
    exact fs_refl
  · replace h := fng c h
    replace h := (fgd h).2
    replace h := (fgd h).2
    obtain rfl := Option.some.inj h
    exact fs_up fs_refl (.inl (by decide))
noncomputable def s_X12_bag_l220 (l1 l2 l4 : Int) (s : (Int × Int × fM)) : Option fM := fLp (fun s => s_X12_bag_b220 s.2.2 l1 l2 l4 s.1 s.2.1) s
theorem s_X12_bag_l220_ok {d L : Nat} {M : fM} {l1 l2 l4 l5 l7 : Int} {o8 o9 o10 o11 : Option fV} {r : fM} {Q : fO → fH → Prop} (h : s_X12_bag_l220 l1 l2 l4 (l5, l7, M) = some r) (hE : ∀ (e : fM) (o5' o6' o7' o8' o9' o10' o11' : Option fV), r = e → Wp (d + 6, 303, 260, 0, 0, [some (fA 122), some (fI l1), some (fJ l2), none, some (fI l4), o5', o6', o7', o8', o9', o10', o11'], []) (156, fjl L, e) Q) : Wp (d + 6, 303, 220, 0, 0, [some (fA 122), some (fI l1), some (fJ l2), none, some (fI l4), some (fJ l5), none, some (fI l7), o8, o9, o10, o11], []) (156, fjl L, M) Q := by
  refine fLp_wp (W := fun s => ∀ (o8 o9 o10 o11 : Option fV), Wp (d + 6, 303, 220, 0, 0, [some (fA 122), some (fI l1), some (fJ l2), none, some (fI l4), some (fJ s.1), none, some (fI s.2.1), o8, o9, o10, o11], []) (156, fjl L, s.2.2) Q) (e := r) ?_ h _ _ _ _
  intro s r1 h hC hX o8 o9 o10 o11
  refine s_X12_bag_b220_ok (d := d) h (fun a0 a1 a2 _ _ _ _ e1 => ?_) (fun e u0 u1 u2 u3 u4 u5 u6 e1 => hE e u0 u1 u2 u3 u4 u5 u6 (hX _ e1).symm)
  exact hC _ e1 _ _ _ _
theorem s_X12_bag_l220_fr {M : fM} {l1 l2 l4 l5 l7 : Int} {r : fM} (h : s_X12_bag_l220 l1 l2 l4 (l5, l7, M) = some r) : fSame s_X12_bag_mods M ((fun e => e) r) := by
  refine fLp_inv (I := fun s => fSame s_X12_bag_mods M s.2.2) (J := fun r => fSame s_X12_bag_mods M ((fun e => e) r)) h fs_refl (fun s s1 hs hb => ?_) (fun s e hs hb => ?_)
  · exact fs_trans hs (s_X12_bag_b220_fr hb)
  · exact fs_trans hs (s_X12_bag_b220_fr hb)
noncomputable def s_X12_bag_b75 (M : fM) (l1 l2 l4 : Int) : Option ((Int × fM) ⊕ fM) :=
  if 4 ≤ l4 then
    some (.inr M)
  else
    (s_X12_bag_l84 l1 l2 l4 (0, M)).bind fun e84 =>
      (s_X12_bag_l117 l1 l2 l4 (0, e84)).bind fun e117 =>
        (s_X12_bag_l220 l1 l2 l4 (0, 0, e117)).bind fun e220 =>
          if fin (l4 + 1) then
            some (.inl ((l4 + 1), e220))
          else none
theorem s_X12_bag_b75_ok {d L : Nat} {M : fM} {l1 l2 l4 : Int} {o5 o6 o7 o8 o9 o10 o11 : Option fV} {r : ((Int × fM) ⊕ fM)} {Q : fO → fH → Prop} (h : s_X12_bag_b75 M l1 l2 l4 = some r) (hC : ∀ (l4' : Int) (M' : fM) (o5' o6' o7' o8' o9' o10' o11' : Option fV), r = .inl (l4', M') → Wp (d + 6, 303, 75, 0, 0, [some (fA 122), some (fI l1), some (fJ l2), none, some (fI l4'), o5', o6', o7', o8', o9', o10', o11'], []) (156, fjl L, M') Q) (hE : ∀ (e : fM) (o4' o5' o6' o7' o8' o9' o10' o11' : Option fV), r = .inr e → Wp (d + 6, 303, 266, 0, 0, [some (fA 122), some (fI l1), some (fJ l2), none, o4', o5', o6', o7', o8', o9', o10', o11'], []) (156, fjl L, e) Q) : Wp (d + 6, 303, 75, 0, 0, [some (fA 122), some (fI l1), some (fJ l2), none, some (fI l4), o5, o6, o7, o8, o9, o10, o11], []) (156, fjl L, M) Q := by
  unfold s_X12_bag_b75 at h
  refine Wp.run 2 (f' := (d + 6, 303, 78, 0, 0, [some (fA 122), some (fI l1), some (fJ l2), none, some (fI l4), _, _, _, _, _, _, _], [fI 4, fI l4])) (h' := (156, fjl L, M)) rfl trivial ?_
  refine Wp.br rfl (fun (c : 4 ≤ l4) => ?_) (fun (c : ¬ (4 ≤ l4)) => ?_)
  · replace h := fps c h
    exact hE _ _ _ _ _ _ _ _ _ (Option.some.inj h).symm
  · replace h := fng c h
    refine Wp.run 2 (f' := (d + 6, 303, 84, 0, 0, [some (fA 122), some (fI l1), some (fJ l2), none, some (fI l4), some (fI 0), _, _, _, _, _, _], [])) (h' := (156, fjl L, M)) rfl trivial ?_
    obtain ⟨e84, hy, h⟩ := fbd h
    refine s_X12_bag_l84_ok hy (fun x u5 u6 u7 u8 u9 u10 u11 ex => ?_)
    cases ex
    show Wp (d + 6, 303, 114, 0, 0, [some (fA 122), some (fI l1), some (fJ l2), none, some (fI l4), u5, u6, u7, u8, u9, u10, u11], []) (156, fjl L, e84) Q
    refine Wp.run 2 (f' := (d + 6, 303, 117, 0, 0, [some (fA 122), some (fI l1), some (fJ l2), none, some (fI l4), some (fI 0), _, _, _, _, _, _], [])) (h' := (156, fjl L, e84)) rfl trivial ?_
    obtain ⟨e117, hy, h⟩ := fbd h
    refine s_X12_bag_l117_ok hy (fun x u5 u6 u7 u8 u9 u10 u11 ex => ?_)
    cases ex
    show Wp (d + 6, 303, 214, 0, 0, [some (fA 122), some (fI l1), some (fJ l2), none, some (fI l4), u5, u6, u7, u8, u9, u10, u11], []) (156, fjl L, e117) Q
    refine Wp.run 4 (f' := (d + 6, 303, 220, 0, 0, [some (fA 122), some (fI l1), some (fJ l2), none, some (fI l4), some (fJ 0), none, some (fI 0), _, _, _, _], [])) (h' := (156, fjl L, e117)) rfl trivial ?_
    obtain ⟨e220, hy, h⟩ := fbd h
    refine s_X12_bag_l220_ok hy (fun x u5 u6 u7 u8 u9 u10 u11 ex => ?_)
    cases ex
    show Wp (d + 6, 303, 260, 0, 0, [some (fA 122), some (fI l1), some (fJ l2), none, some (fI l4), u5, u6, u7, u8, u9, u10, u11], []) (156, fjl L, e220) Q
    obtain ⟨g0, h⟩ := fgd h
    refine Wp.run 2 (f' := (d + 6, 303, 75, 0, 0, [some (fA 122), some (fI l1), some (fJ l2), none, some (fI (fw (l4 + 1))), _, _, _, _, _, _, _], [])) (h' := (156, fjl L, e220)) rfl trivial ?_
    rw [fw_id g0]
    exact hC _ _ _ _ _ _ _ _ _ (Option.some.inj h).symm
theorem s_X12_bag_b75_fr {M : fM} {l1 l2 l4 : Int} {r : ((Int × fM) ⊕ fM)} (h : s_X12_bag_b75 M l1 l2 l4 = some r) : fSame s_X12_bag_mods M (Sum.elim (fun s => s.2) (fun e => e) r) := by
  unfold s_X12_bag_b75 at h
  by_cases c : 4 ≤ l4
  · replace h := fps c h
    obtain rfl := Option.some.inj h
    exact fs_refl
  · replace h := fng c h
    obtain ⟨e84, hy, h⟩ := fbd h
    have k84 := fs_trans (l := s_X12_bag_mods) fs_refl (s_X12_bag_l84_fr hy)
    obtain ⟨e117, hy, h⟩ := fbd h
    have k117 := fs_trans (l := s_X12_bag_mods) k84 (s_X12_bag_l117_fr hy)
    obtain ⟨e220, hy, h⟩ := fbd h
    have k220 := fs_trans (l := s_X12_bag_mods) k117 (s_X12_bag_l220_fr hy)
    replace h := (fgd h).2
    obtain rfl := Option.some.inj h
    exact k220
noncomputable def s_X12_bag_l75 (l1 l2 : Int) (s : (Int × fM)) : Option fM := fLp (fun s => s_X12_bag_b75 s.2 l1 l2 s.1) s
theorem s_X12_bag_l75_ok {d L : Nat} {M : fM} {l1 l2 l4 : Int} {o5 o6 o7 o8 o9 o10 o11 : Option fV} {r : fM} {Q : fO → fH → Prop} (h : s_X12_bag_l75 l1 l2 (l4, M) = some r) (hE : ∀ (e : fM) (o4' o5' o6' o7' o8' o9' o10' o11' : Option fV), r = e → Wp (d + 6, 303, 266, 0, 0, [some (fA 122), some (fI l1), some (fJ l2), none, o4', o5', o6', o7', o8', o9', o10', o11'], []) (156, fjl L, e) Q) : Wp (d + 6, 303, 75, 0, 0, [some (fA 122), some (fI l1), some (fJ l2), none, some (fI l4), o5, o6, o7, o8, o9, o10, o11], []) (156, fjl L, M) Q := by
  refine fLp_wp (W := fun s => ∀ (o5 o6 o7 o8 o9 o10 o11 : Option fV), Wp (d + 6, 303, 75, 0, 0, [some (fA 122), some (fI l1), some (fJ l2), none, some (fI s.1), o5, o6, o7, o8, o9, o10, o11], []) (156, fjl L, s.2) Q) (e := r) ?_ h _ _ _ _ _ _ _
  intro s r1 h hC hX o5 o6 o7 o8 o9 o10 o11
  refine s_X12_bag_b75_ok (d := d) h (fun a0 a1 _ _ _ _ _ _ _ e1 => ?_) (fun e u0 u1 u2 u3 u4 u5 u6 u7 e1 => hE e u0 u1 u2 u3 u4 u5 u6 u7 (hX _ e1).symm)
  exact hC _ e1 _ _ _ _ _ _ _
theorem s_X12_bag_l75_fr {M : fM} {l1 l2 l4 : Int} {r : fM} (h : s_X12_bag_l75 l1 l2 (l4, M) = some r) : fSame s_X12_bag_mods M ((fun e => e) r) := by
  refine fLp_inv (I := fun s => fSame s_X12_bag_mods M s.2) (J := fun r => fSame s_X12_bag_mods M ((fun e => e) r)) h fs_refl (fun s s1 hs hb => ?_) (fun s e hs hb => ?_)
  · exact fs_trans hs (s_X12_bag_b75_fr hb)
  · exact fs_trans hs (s_X12_bag_b75_fr hb)
noncomputable def s_X12_bag_b279 (M : fM) (l1 l2 l4 l5 : Int) : Option ((Int × Int × fM) ⊕ (Int × fM)) :=
  if 6561 ≤ l5 then
    some (.inr (l4, M))
  else
    if fin ((fdiv l5 729) + (frem (fdiv l5 81) 9)) ∧ fin (((fdiv l5 729) + (frem (fdiv l5 81) 9)) + (frem (fdiv l5 9) 9)) ∧ fin ((((fdiv l5 729) + (frem (fdiv l5 81) 9)) + (frem (fdiv l5 9) 9)) + (frem l5 9)) then
      if ((((fdiv l5 729) + (frem (fdiv l5 81) 9)) + (frem (fdiv l5 9) 9)) + (frem l5 9)) ≤ l1 then
        if (0 ≤ (fdiv l5 729) ∧ (fdiv l5 729) < 36) then
          (s_X12_part M 1000000000000000 (M 146 (fdiv l5 729).toNat) l2).bind fun y351 =>
            if fin (9 + (frem (fdiv l5 81) 9)) ∧ (0 ≤ (9 + (frem (fdiv l5 81) 9)) ∧ (9 + (frem (fdiv l5 81) 9)) < 36) then
              (s_X12_part M y351 (M 146 (9 + (frem (fdiv l5 81) 9)).toNat) l2).bind fun y369 =>
                if fin (18 + (frem (fdiv l5 9) 9)) ∧ (0 ≤ (18 + (frem (fdiv l5 9) 9)) ∧ (18 + (frem (fdiv l5 9) 9)) < 36) then
                  (s_X12_part M y369 (M 146 (18 + (frem (fdiv l5 9) 9)).toNat) l2).bind fun y387 =>
                    if fin (27 + (frem l5 9)) ∧ (0 ≤ (27 + (frem l5 9)) ∧ (27 + (frem l5 9)) < 36) then
                      (s_X12_part M y387 (M 146 (27 + (frem l5 9)).toNat) l2).bind fun y405 =>
                        if (M 122 57) < y405 then
                          if fin (1000 * (fdiv l5 729)) ∧ fin (100 * (frem (fdiv l5 81) 9)) ∧ fin ((1000 * (fdiv l5 729)) + (100 * (frem (fdiv l5 81) 9))) ∧ fin (10 * (frem (fdiv l5 9) 9)) ∧ fin (((1000 * (fdiv l5 729)) + (100 * (frem (fdiv l5 81) 9))) + (10 * (frem (fdiv l5 9) 9))) ∧ fin ((((1000 * (fdiv l5 729)) + (100 * (frem (fdiv l5 81) 9))) + (10 * (frem (fdiv l5 9) 9))) + (frem l5 9)) then
                            if fin (l5 + 1) then
                              some (.inl (((((1000 * (fdiv l5 729)) + (100 * (frem (fdiv l5 81) 9))) + (10 * (frem (fdiv l5 9) 9))) + (frem l5 9)), (l5 + 1), (fup M 122 57 y405)))
                            else none
                          else none
                        else
                          if fin (l5 + 1) then
                            some (.inl (l4, (l5 + 1), M))
                          else none
                    else none
                else none
            else none
        else none
      else
        if fin (l5 + 1) then
          some (.inl (l4, (l5 + 1), M))
        else none
    else none
theorem s_X12_bag_b279_ok {d L : Nat} {M : fM} {l1 l2 l4 l5 : Int} {o6 o7 o8 o9 o10 o11 : Option fV} {r : ((Int × Int × fM) ⊕ (Int × fM))} {Q : fO → fH → Prop} (h : s_X12_bag_b279 M l1 l2 l4 l5 = some r) (hC : ∀ (l4' l5' : Int) (M' : fM) (o6' o7' o8' o9' o10' o11' : Option fV), r = .inl (l4', l5', M') → Wp (d + 6, 303, 279, 0, 0, [some (fA 122), some (fI l1), some (fJ l2), none, some (fI l4'), some (fI l5'), o6', o7', o8', o9', o10', o11'], []) (156, fjl L, M') Q) (hE : ∀ (e : (Int × fM)) (o0' o1' o2' o3' o5' o6' o7' o8' o9' o10' o11' : Option fV), r = .inr e → Wp (d + 6, 303, 458, 0, 0, [o0', o1', o2', o3', some (fI e.1), o5', o6', o7', o8', o9', o10', o11'], []) (156, fjl L, e.2) Q) : Wp (d + 6, 303, 279, 0, 0, [some (fA 122), some (fI l1), some (fJ l2), none, some (fI l4), some (fI l5), o6, o7, o8, o9, o10, o11], []) (156, fjl L, M) Q := by
  unfold s_X12_bag_b279 at h
  refine Wp.run 2 (f' := (d + 6, 303, 284, 0, 0, [some (fA 122), some (fI l1), some (fJ l2), none, some (fI l4), some (fI l5), _, _, _, _, _, _], [fI 6561, fI l5])) (h' := (156, fjl L, M)) rfl trivial ?_
  refine Wp.br rfl (fun (c : 6561 ≤ l5) => ?_) (fun (c : ¬ (6561 ≤ l5)) => ?_)
  · replace h := fps c h
    exact hE _ _ _ _ _ _ _ _ _ _ _ _ (Option.some.inj h).symm
  · replace h := fng c h
    refine Wp.run 16 (P := [(729 : Int) ≠ 0, (81 : Int) ≠ 0, (9 : Int) ≠ 0, (9 : Int) ≠ 0, (9 : Int) ≠ 0]) (f' := (d + 6, 303, 315, 0, 0, [some (fA 122), some (fI l1), some (fJ l2), none, some (fI l4), some (fI l5), some (fI (fdiv l5 729)), some (fI (frem (fdiv l5 81) 9)), some (fI (frem (fdiv l5 9) 9)), _, _, _], [])) (h' := (156, fjl L, M)) rfl ?_ ?_
    · exact ⟨(by decide : (729 : Int) ≠ 0), (by decide : (81 : Int) ≠ 0), (by decide : (9 : Int) ≠ 0), (by decide : (9 : Int) ≠ 0), (by decide : (9 : Int) ≠ 0)⟩
    obtain ⟨⟨g0, g1, g2⟩, h⟩ := fgd h
    refine Wp.run 12 (P := [(9 : Int) ≠ 0]) (f' := (d + 6, 303, 334, 0, 0, [some (fA 122), some (fI l1), some (fJ l2), none, some (fI l4), some (fI l5), some (fI (fdiv l5 729)), some (fI (frem (fdiv l5 81) 9)), some (fI (frem (fdiv l5 9) 9)), some (fI (frem l5 9)), _, _], [fI l1, fI (fw ((fw ((fw ((fdiv l5 729) + (frem (fdiv l5 81) 9))) + (frem (fdiv l5 9) 9))) + (frem l5 9)))])) (h' := (156, fjl L, M)) rfl ?_ ?_
    · exact (by decide : (9 : Int) ≠ 0)
    rw [fw_id g0, fw_id g1, fw_id g2]
    refine Wp.br rfl (fun (c : ((((fdiv l5 729) + (frem (fdiv l5 81) 9)) + (frem (fdiv l5 9) 9)) + (frem l5 9)) ≤ l1) => ?_) (fun (c : ¬ (((((fdiv l5 729) + (frem (fdiv l5 81) 9)) + (frem (fdiv l5 9) 9)) + (frem l5 9)) ≤ l1)) => ?_)
    · replace h := fps c h
      obtain ⟨g0, h⟩ := fgd h
      refine Wp.run 6 (P := [0 ≤ (fdiv l5 729) ∧ (fdiv l5 729) < 36]) (f' := (d + 6, 303, 351, 0, 0, [some (fA 122), some (fI l1), some (fJ l2), none, some (fI l4), some (fI l5), some (fI (fdiv l5 729)), some (fI (frem (fdiv l5 81) 9)), some (fI (frem (fdiv l5 9) 9)), some (fI (frem l5 9)), _, _], [fJ l2, fJ (M 146 (fdiv l5 729).toNat), fJ 1000000000000000])) (h' := (156, fjl L, M)) rfl ?_ ?_
      · exact g0
      obtain ⟨y351, hy, h⟩ := fbd h
      refine Wp.call rfl (by decide) (s_X12_part_ok (d := d + 5) hy ?_)
      show Wp (d + 6, 303, 354, 0, 0, [some (fA 122), some (fI l1), some (fJ l2), none, some (fI l4), some (fI l5), some (fI (fdiv l5 729)), some (fI (frem (fdiv l5 81) 9)), some (fI (frem (fdiv l5 9) 9)), some (fI (frem l5 9)), _, _], [fJ y351]) (156, fjl L, M) Q
      obtain ⟨⟨g0, g1⟩, h⟩ := fgd h
      refine Wp.run 9 (P := [0 ≤ (fw (9 + (frem (fdiv l5 81) 9))) ∧ (fw (9 + (frem (fdiv l5 81) 9))) < 36]) (f' := (d + 6, 303, 369, 0, 0, [some (fA 122), some (fI l1), some (fJ l2), none, some (fI l4), some (fI l5), some (fI (fdiv l5 729)), some (fI (frem (fdiv l5 81) 9)), some (fI (frem (fdiv l5 9) 9)), some (fI (frem l5 9)), _, _], [fJ l2, fJ (M 146 (fw (9 + (frem (fdiv l5 81) 9))).toNat), fJ y351])) (h' := (156, fjl L, M)) rfl ?_ ?_
      · rw [fw_id g0]; exact g1
      rw [fw_id g0]
      obtain ⟨y369, hy, h⟩ := fbd h
      refine Wp.call rfl (by decide) (s_X12_part_ok (d := d + 5) hy ?_)
      show Wp (d + 6, 303, 372, 0, 0, [some (fA 122), some (fI l1), some (fJ l2), none, some (fI l4), some (fI l5), some (fI (fdiv l5 729)), some (fI (frem (fdiv l5 81) 9)), some (fI (frem (fdiv l5 9) 9)), some (fI (frem l5 9)), _, _], [fJ y369]) (156, fjl L, M) Q
      obtain ⟨⟨g0, g1⟩, h⟩ := fgd h
      refine Wp.run 9 (P := [0 ≤ (fw (18 + (frem (fdiv l5 9) 9))) ∧ (fw (18 + (frem (fdiv l5 9) 9))) < 36]) (f' := (d + 6, 303, 387, 0, 0, [some (fA 122), some (fI l1), some (fJ l2), none, some (fI l4), some (fI l5), some (fI (fdiv l5 729)), some (fI (frem (fdiv l5 81) 9)), some (fI (frem (fdiv l5 9) 9)), some (fI (frem l5 9)), _, _], [fJ l2, fJ (M 146 (fw (18 + (frem (fdiv l5 9) 9))).toNat), fJ y369])) (h' := (156, fjl L, M)) rfl ?_ ?_
      · rw [fw_id g0]; exact g1
      rw [fw_id g0]
      obtain ⟨y387, hy, h⟩ := fbd h
      refine Wp.call rfl (by decide) (s_X12_part_ok (d := d + 5) hy ?_)
      show Wp (d + 6, 303, 390, 0, 0, [some (fA 122), some (fI l1), some (fJ l2), none, some (fI l4), some (fI l5), some (fI (fdiv l5 729)), some (fI (frem (fdiv l5 81) 9)), some (fI (frem (fdiv l5 9) 9)), some (fI (frem l5 9)), _, _], [fJ y387]) (156, fjl L, M) Q
      obtain ⟨⟨g0, g1⟩, h⟩ := fgd h
      refine Wp.run 9 (P := [0 ≤ (fw (27 + (frem l5 9))) ∧ (fw (27 + (frem l5 9))) < 36]) (f' := (d + 6, 303, 405, 0, 0, [some (fA 122), some (fI l1), some (fJ l2), none, some (fI l4), some (fI l5), some (fI (fdiv l5 729)), some (fI (frem (fdiv l5 81) 9)), some (fI (frem (fdiv l5 9) 9)), some (fI (frem l5 9)), _, _], [fJ l2, fJ (M 146 (fw (27 + (frem l5 9))).toNat), fJ y387])) (h' := (156, fjl L, M)) rfl ?_ ?_
      · rw [fw_id g0]; exact g1
      rw [fw_id g0]
      obtain ⟨y405, hy, h⟩ := fbd h
      refine Wp.call rfl (by decide) (s_X12_part_ok (d := d + 5) hy ?_)
      show Wp (d + 6, 303, 408, 0, 0, [some (fA 122), some (fI l1), some (fJ l2), none, some (fI l4), some (fI l5), some (fI (fdiv l5 729)), some (fI (frem (fdiv l5 81) 9)), some (fI (frem (fdiv l5 9) 9)), some (fI (frem l5 9)), _, _], [fJ y405]) (156, fjl L, M) Q
      refine Wp.run 5 (f' := (d + 6, 303, 417, 0, 0, [some (fA 122), some (fI l1), some (fJ l2), none, some (fI l4), some (fI l5), some (fI (fdiv l5 729)), some (fI (frem (fdiv l5 81) 9)), some (fI (frem (fdiv l5 9) 9)), some (fI (frem l5 9)), some (fJ y405), none], [fI (fcm y405 (M 122 57))])) (h' := (156, fjl L, M)) rfl trivial ?_
      refine Wp.br rfl (fun (c : 0 < (fcm y405 (M 122 57))) => ?_) (fun (c : ¬ (0 < (fcm y405 (M 122 57)))) => ?_)
      · replace c := (fcm_gt _ _).mp c
        replace h := fps c h
        obtain ⟨⟨g0, g1, g2, g3, g4, g5⟩, h⟩ := fgd h
        refine Wp.run 17 (f' := (d + 6, 303, 452, 0, 0, [some (fA 122), some (fI l1), some (fJ l2), none, some (fI (fw ((fw ((fw ((fw (1000 * (fdiv l5 729))) + (fw (100 * (frem (fdiv l5 81) 9))))) + (fw (10 * (frem (fdiv l5 9) 9))))) + (frem l5 9)))), some (fI l5), _, _, _, _, _, _], [])) (h' := (156, fjl L, (fup M 122 57 y405))) rfl trivial ?_
        rw [fw_id g0, fw_id g1, fw_id g2, fw_id g3, fw_id g4, fw_id g5]
        obtain ⟨g0, h⟩ := fgd h
        refine Wp.run 2 (f' := (d + 6, 303, 279, 0, 0, [some (fA 122), some (fI l1), some (fJ l2), none, some (fI ((((1000 * (fdiv l5 729)) + (100 * (frem (fdiv l5 81) 9))) + (10 * (frem (fdiv l5 9) 9))) + (frem l5 9))), some (fI (fw (l5 + 1))), _, _, _, _, _, _], [])) (h' := (156, fjl L, (fup M 122 57 y405))) rfl trivial ?_
        rw [fw_id g0]
        exact hC _ _ _ _ _ _ _ _ _ (Option.some.inj h).symm
      · replace c := fun z => c ((fcm_gt _ _).mpr z)
        replace h := fng c h
        obtain ⟨g0, h⟩ := fgd h
        refine Wp.run 3 (f' := (d + 6, 303, 279, 0, 0, [some (fA 122), some (fI l1), some (fJ l2), none, some (fI l4), some (fI (fw (l5 + 1))), _, _, _, _, _, _], [])) (h' := (156, fjl L, M)) rfl trivial ?_
        rw [fw_id g0]
        exact hC _ _ _ _ _ _ _ _ _ (Option.some.inj h).symm
    · replace h := fng c h
      obtain ⟨g0, h⟩ := fgd h
      refine Wp.run 3 (f' := (d + 6, 303, 279, 0, 0, [some (fA 122), some (fI l1), some (fJ l2), none, some (fI l4), some (fI (fw (l5 + 1))), _, _, _, _, _, _], [])) (h' := (156, fjl L, M)) rfl trivial ?_
      rw [fw_id g0]
      exact hC _ _ _ _ _ _ _ _ _ (Option.some.inj h).symm
theorem s_X12_bag_b279_fr {M : fM} {l1 l2 l4 l5 : Int} {r : ((Int × Int × fM) ⊕ (Int × fM))} (h : s_X12_bag_b279 M l1 l2 l4 l5 = some r) : fSame s_X12_bag_mods M (Sum.elim (fun s => s.2.2) (fun e => e.2) r) := by
  unfold s_X12_bag_b279 at h
  by_cases c : 6561 ≤ l5
  · replace h := fps c h
    obtain rfl := Option.some.inj h
    exact fs_refl
  · replace h := fng c h
    replace h := (fgd h).2
    by_cases c : ((((fdiv l5 729) + (frem (fdiv l5 81) 9)) + (frem (fdiv l5 9) 9)) + (frem l5 9)) ≤ l1
    · replace h := fps c h
      replace h := (fgd h).2
      obtain ⟨y351, hy, h⟩ := fbd h
      replace h := (fgd h).2
      obtain ⟨y369, hy, h⟩ := fbd h
      replace h := (fgd h).2
      obtain ⟨y387, hy, h⟩ := fbd h
      replace h := (fgd h).2
      obtain ⟨y405, hy, h⟩ := fbd h
      by_cases c : (M 122 57) < y405
      · replace h := fps c h
        replace h := (fgd h).2
        replace h := (fgd h).2
        obtain rfl := Option.some.inj h
        exact fs_up fs_refl (.inr (by decide))
      · replace h := fng c h
        replace h := (fgd h).2
        obtain rfl := Option.some.inj h
        exact fs_refl
    · replace h := fng c h
      replace h := (fgd h).2
      obtain rfl := Option.some.inj h
      exact fs_refl
noncomputable def s_X12_bag_l279 (l1 l2 : Int) (s : (Int × Int × fM)) : Option (Int × fM) := fLp (fun s => s_X12_bag_b279 s.2.2 l1 l2 s.1 s.2.1) s
theorem s_X12_bag_l279_ok {d L : Nat} {M : fM} {l1 l2 l4 l5 : Int} {o6 o7 o8 o9 o10 o11 : Option fV} {r : (Int × fM)} {Q : fO → fH → Prop} (h : s_X12_bag_l279 l1 l2 (l4, l5, M) = some r) (hE : ∀ (e : (Int × fM)) (o0' o1' o2' o3' o5' o6' o7' o8' o9' o10' o11' : Option fV), r = e → Wp (d + 6, 303, 458, 0, 0, [o0', o1', o2', o3', some (fI e.1), o5', o6', o7', o8', o9', o10', o11'], []) (156, fjl L, e.2) Q) : Wp (d + 6, 303, 279, 0, 0, [some (fA 122), some (fI l1), some (fJ l2), none, some (fI l4), some (fI l5), o6, o7, o8, o9, o10, o11], []) (156, fjl L, M) Q := by
  refine fLp_wp (W := fun s => ∀ (o6 o7 o8 o9 o10 o11 : Option fV), Wp (d + 6, 303, 279, 0, 0, [some (fA 122), some (fI l1), some (fJ l2), none, some (fI s.1), some (fI s.2.1), o6, o7, o8, o9, o10, o11], []) (156, fjl L, s.2.2) Q) (e := r) ?_ h _ _ _ _ _ _
  intro s r1 h hC hX o6 o7 o8 o9 o10 o11
  refine s_X12_bag_b279_ok (d := d) h (fun a0 a1 a2 _ _ _ _ _ _ e1 => ?_) (fun e u0 u1 u2 u3 u4 u5 u6 u7 u8 u9 u10 e1 => hE e u0 u1 u2 u3 u4 u5 u6 u7 u8 u9 u10 (hX _ e1).symm)
  exact hC _ e1 _ _ _ _ _ _
theorem s_X12_bag_l279_fr {M : fM} {l1 l2 l4 l5 : Int} {r : (Int × fM)} (h : s_X12_bag_l279 l1 l2 (l4, l5, M) = some r) : fSame s_X12_bag_mods M ((fun e => e.2) r) := by
  refine fLp_inv (I := fun s => fSame s_X12_bag_mods M s.2.2) (J := fun r => fSame s_X12_bag_mods M ((fun e => e.2) r)) h fs_refl (fun s s1 hs hb => ?_) (fun s e hs hb => ?_)
  · exact fs_trans hs (s_X12_bag_b279_fr hb)
  · exact fs_trans hs (s_X12_bag_b279_fr hb)
noncomputable def s_X12_bag (M : fM) (l1 : Int) : Option (Int × fM) :=
  (s_X12_taken (fup M 122 0 0) 1240).bind fun y9 =>
    (s_X12_isIn y9.2 l1 0 12).bind fun y16 =>
      if y16 = 0 then
        some ((-1), y9.2)
      else
        (s_X12_isIn y9.2 (y9.2 122 3) 1 8).bind fun y29 =>
          if y29 = 0 then
            some ((-1), y9.2)
          else
            (s_X12_tells y9.2 0 0).bind fun y38 =>
              if ¬ y38.1 = 0 then
                (s_X12_bag_l51 y38.2 l1 (1, 0)).bind fun e51 =>
                  (s_X12_bag_l75 l1 e51 (0, y38.2)).bind fun e75 =>
                    (s_X12_bag_l279 l1 e51 (0, 0, (fup e75 122 57 (-1)))).bind fun e279 =>
                      some (e279.1, e279.2)
              else
                some ((-1), y38.2)
theorem s_X12_bag_ok {d L : Nat} {M : fM} {l1 : Int} {r : (Int × fM)} {Q : fO → fH → Prop} (h : s_X12_bag M l1 = some r) (H : Q (oI r.1) (156, fjl L, r.2)) : Wp (d + 6, 303, 0, 0, 0, [some (fA 122), some (fI l1), none, none, none, none, none, none, none, none, none, none], []) (156, fjl L, M) Q := by
  unfold s_X12_bag at h
  refine Wp.run 5 (f' := (d + 6, 303, 9, 0, 0, [some (fA 122), some (fI l1), _, _, _, _, _, _, _, _, _, _], [fI 1240, fA 122])) (h' := (156, fjl L, (fup M 122 0 0))) rfl trivial ?_
  obtain ⟨y9, hy, h⟩ := fbd h
  refine Wp.call rfl (by decide) (s_X12_taken_ok (d := d + 5) hy ?_)
  show Wp (d + 6, 303, 12, 0, 0, [some (fA 122), some (fI l1), _, _, _, _, _, _, _, _, _, _], []) (156, fjl L, y9.2) Q
  refine Wp.run 3 (f' := (d + 6, 303, 16, 0, 0, [some (fA 122), some (fI l1), _, _, _, _, _, _, _, _, _, _], [fI 12, fI 0, fI l1])) (h' := (156, fjl L, y9.2)) rfl trivial ?_
  obtain ⟨y16, hy, h⟩ := fbd h
  refine Wp.call rfl (by decide) (s_X12_isIn_ok (d := d + 5) hy ?_)
  show Wp (d + 6, 303, 19, 0, 0, [some (fA 122), some (fI l1), _, _, _, _, _, _, _, _, _, _], [fI y16]) (156, fjl L, y9.2) Q
  refine Wp.br rfl (fun (c : y16 = 0) => ?_) (fun (c : ¬ (y16 = 0)) => ?_)
  · replace h := fps c h
    refine Wp.run 1 (f' := (d + 6, 303, 45, 0, 0, [_, _, _, _, _, _, _, _, _, _, _, _], [fI (-1)])) (h' := (156, fjl L, y9.2)) rfl trivial ?_
    obtain rfl := Option.some.inj h
    exact Wp.done rfl (by decide) H
  · replace h := fng c h
    refine Wp.run 4 (f' := (d + 6, 303, 29, 0, 0, [some (fA 122), some (fI l1), _, _, _, _, _, _, _, _, _, _], [fI 8, fI 1, fI (y9.2 122 3)])) (h' := (156, fjl L, y9.2)) rfl trivial ?_
    obtain ⟨y29, hy, h⟩ := fbd h
    refine Wp.call rfl (by decide) (s_X12_isIn_ok (d := d + 5) hy ?_)
    show Wp (d + 6, 303, 32, 0, 0, [some (fA 122), some (fI l1), _, _, _, _, _, _, _, _, _, _], [fI y29]) (156, fjl L, y9.2) Q
    refine Wp.br rfl (fun (c : y29 = 0) => ?_) (fun (c : ¬ (y29 = 0)) => ?_)
    · replace h := fps c h
      refine Wp.run 1 (f' := (d + 6, 303, 45, 0, 0, [_, _, _, _, _, _, _, _, _, _, _, _], [fI (-1)])) (h' := (156, fjl L, y9.2)) rfl trivial ?_
      obtain rfl := Option.some.inj h
      exact Wp.done rfl (by decide) H
    · replace h := fng c h
      refine Wp.run 3 (f' := (d + 6, 303, 38, 0, 0, [some (fA 122), some (fI l1), _, _, _, _, _, _, _, _, _, _], [fI 0, fI 0, fA 122])) (h' := (156, fjl L, y9.2)) rfl trivial ?_
      obtain ⟨y38, hy, h⟩ := fbd h
      refine Wp.call rfl (by decide) (s_X12_tells_ok (d := d + 0) hy ?_)
      show Wp (d + 6, 303, 41, 0, 0, [some (fA 122), some (fI l1), _, _, _, _, _, _, _, _, _, _], [fI y38.1]) (156, fjl L, y38.2) Q
      refine Wp.br rfl (fun (c : ¬ y38.1 = 0) => ?_) (fun (c : ¬ (¬ y38.1 = 0)) => ?_)
      · replace h := fps c h
        refine Wp.run 4 (f' := (d + 6, 303, 51, 0, 0, [some (fA 122), some (fI l1), some (fJ 1), none, some (fI 0), _, _, _, _, _, _, _], [])) (h' := (156, fjl L, y38.2)) rfl trivial ?_
        obtain ⟨e51, hy, h⟩ := fbd h
        refine s_X12_bag_l51_ok hy (fun x u4 u5 u6 u7 u8 u9 u10 u11 ex => ?_)
        cases ex
        show Wp (d + 6, 303, 72, 0, 0, [some (fA 122), some (fI l1), some (fJ e51), none, u4, u5, u6, u7, u8, u9, u10, u11], []) (156, fjl L, y38.2) Q
        refine Wp.run 2 (f' := (d + 6, 303, 75, 0, 0, [some (fA 122), some (fI l1), some (fJ e51), none, some (fI 0), _, _, _, _, _, _, _], [])) (h' := (156, fjl L, y38.2)) rfl trivial ?_
        obtain ⟨e75, hy, h⟩ := fbd h
        refine s_X12_bag_l75_ok hy (fun x u4 u5 u6 u7 u8 u9 u10 u11 ex => ?_)
        cases ex
        show Wp (d + 6, 303, 266, 0, 0, [some (fA 122), some (fI l1), some (fJ e51), none, u4, u5, u6, u7, u8, u9, u10, u11], []) (156, fjl L, e75) Q
        refine Wp.run 7 (f' := (d + 6, 303, 279, 0, 0, [some (fA 122), some (fI l1), some (fJ e51), none, some (fI 0), some (fI 0), _, _, _, _, _, _], [])) (h' := (156, fjl L, (fup e75 122 57 (-1)))) rfl trivial ?_
        obtain ⟨e279, hy, h⟩ := fbd h
        refine s_X12_bag_l279_ok hy (fun x u0 u1 u2 u3 u5 u6 u7 u8 u9 u10 u11 ex => ?_)
        cases ex
        show Wp (d + 6, 303, 458, 0, 0, [u0, u1, u2, u3, some (fI e279.1), u5, u6, u7, u8, u9, u10, u11], []) (156, fjl L, e279.2) Q
        refine Wp.run 1 (f' := (d + 6, 303, 460, 0, 0, [_, _, _, _, _, _, _, _, _, _, _, _], [fI e279.1])) (h' := (156, fjl L, e279.2)) rfl trivial ?_
        obtain rfl := Option.some.inj h
        exact Wp.done rfl (by decide) H
      · replace h := fng c h
        refine Wp.run 1 (f' := (d + 6, 303, 45, 0, 0, [_, _, _, _, _, _, _, _, _, _, _, _], [fI (-1)])) (h' := (156, fjl L, y38.2)) rfl trivial ?_
        obtain rfl := Option.some.inj h
        exact Wp.done rfl (by decide) H
theorem s_X12_bag_fr {M : fM} {l1 : Int} {r : (Int × fM)} (h : s_X12_bag M l1 = some r) : fSame s_X12_bag_mods M r.2 := by
  unfold s_X12_bag at h
  obtain ⟨y9, hy, h⟩ := fbd h
  have k9 := fs_trans (l := s_X12_bag_mods) (fs_up fs_refl (.inr (by decide))) (fs_mono (l := s_X12_taken_mods) (by decide) (s_X12_taken_fr hy))
  obtain ⟨y16, hy, h⟩ := fbd h
  by_cases c : y16 = 0
  · replace h := fps c h
    obtain rfl := Option.some.inj h
    exact k9
  · replace h := fng c h
    obtain ⟨y29, hy, h⟩ := fbd h
    by_cases c : y29 = 0
    · replace h := fps c h
      obtain rfl := Option.some.inj h
      exact k9
    · replace h := fng c h
      obtain ⟨y38, hy, h⟩ := fbd h
      have k38 := fs_trans (l := s_X12_bag_mods) k9 (fs_mono (l := s_X12_tells_mods) (by decide) (s_X12_tells_fr hy))
      by_cases c : ¬ y38.1 = 0
      · replace h := fps c h
        obtain ⟨e51, hy, h⟩ := fbd h
        obtain ⟨e75, hy, h⟩ := fbd h
        have k75 := fs_trans (l := s_X12_bag_mods) k38 (s_X12_bag_l75_fr hy)
        obtain ⟨e279, hy, h⟩ := fbd h
        have k279 := fs_trans (l := s_X12_bag_mods) (fs_up k75 (.inr (by decide))) (s_X12_bag_l279_fr hy)
        obtain rfl := Option.some.inj h
        exact k279
      · replace h := fng c h
        obtain rfl := Option.some.inj h
        exact k38
noncomputable def s_X11_chance (M : fM) : Option Int :=
  some (M 67 5)
theorem s_X11_chance_ok {d L : Nat} {M : fM} {r : Int} {Q : fO → fH → Prop} (h : s_X11_chance M = some r) (H : Q (oJ r) (156, fjl L, M)) : Wp (d + 0, 184, 0, 0, 0, [some (fA 0)], []) (156, fjl L, M) Q := by
  unfold s_X11_chance at h
  refine Wp.run 3 (f' := (d + 0, 184, 7, 0, 0, [_], [fJ (M 67 5)])) (h' := (156, fjl L, M)) rfl trivial ?_
  obtain rfl := Option.some.inj h
  exact Wp.done rfl (by decide) H
abbrev s_X12_chance_mods : List (Nat × Option Nat) := [(122, some 0)]
noncomputable def s_X12_chance (M : fM) : Option (Int × fM) :=
  some ((M 122 57), (fup M 122 0 0))
theorem s_X12_chance_ok {d L : Nat} {M : fM} {r : (Int × fM)} {Q : fO → fH → Prop} (h : s_X12_chance M = some r) (H : Q (oJ r.1) (156, fjl L, r.2)) : Wp (d + 0, 304, 0, 0, 0, [some (fA 122)], []) (156, fjl L, M) Q := by
  unfold s_X12_chance at h
  refine Wp.run 5 (f' := (d + 0, 304, 9, 0, 0, [_], [fJ (M 122 57)])) (h' := (156, fjl L, (fup M 122 0 0))) rfl trivial ?_
  obtain rfl := Option.some.inj h
  exact Wp.done rfl (by decide) H
theorem s_X12_chance_fr {M : fM} {r : (Int × fM)} (h : s_X12_chance M = some r) : fSame s_X12_chance_mods M r.2 := by
  unfold s_X12_chance at h
  obtain rfl := Option.some.inj h
  exact fs_up fs_refl (.inr (by decide))
noncomputable def s_X4_sumWith (M : fM) (l1 l2 l3 : Int) : Option Int :=
  if fin (l3 * 6) ∧ fin ((l3 * 6) + l1) ∧ (0 ≤ ((l3 * 6) + l1) ∧ ((l3 * 6) + l1) < 36) ∧ fin (l1 + 1) ∧ fin ((l1 + 1) * 64) then
    if fin (((l1 + 1) * 64) + (fior l2 (fshl 1 l3))) ∧ (0 ≤ (((l1 + 1) * 64) + (fior l2 (fshl 1 l3))) ∧ (((l1 + 1) * 64) + (fior l2 (fshl 1 l3))) < 448) ∧ fin ((M 14 ((l3 * 6) + l1).toNat) + (M 71 (((l1 + 1) * 64) + (fior l2 (fshl 1 l3))).toNat)) then
      some ((M 14 ((l3 * 6) + l1).toNat) + (M 71 (((l1 + 1) * 64) + (fior l2 (fshl 1 l3))).toNat))
    else none
  else none
theorem s_X4_sumWith_ok {d L : Nat} {M : fM} {l1 l2 l3 : Int} {r : Int} {Q : fO → fH → Prop} (h : s_X4_sumWith M l1 l2 l3 = some r) (H : Q (oI r) (156, fjl L, M)) : Wp (d + 0, 65, 0, 0, 0, [some (fA 70), some (fI l1), some (fI l2), some (fI l3)], []) (156, fjl L, M) Q := by
  unfold s_X4_sumWith at h
  obtain ⟨⟨g0, g1, g2, g3, g4⟩, h⟩ := fgd h
  refine Wp.run 20 (P := [0 ≤ (fw ((fw (l3 * 6)) + l1)) ∧ (fw ((fw (l3 * 6)) + l1)) < 36]) (f' := (d + 0, 65, 28, 0, 0, [_, _, _, _], [fI (fshl 1 l3), fI l2, fI (fw ((fw (l1 + 1)) * 64)), fA 71, fI (M 14 (fw ((fw (l3 * 6)) + l1)).toNat)])) (h' := (156, fjl L, M)) rfl ?_ ?_
  · rw [fw_id g0, fw_id g1]; exact g2
  rw [fw_id g0, fw_id g1, fw_id g3, fw_id g4]
  obtain ⟨⟨g0, g1, g2⟩, h⟩ := fgd h
  refine Wp.run 4 (P := [0 ≤ (fw (((l1 + 1) * 64) + (fior l2 (fshl 1 l3)))) ∧ (fw (((l1 + 1) * 64) + (fior l2 (fshl 1 l3)))) < 448]) (f' := (d + 0, 65, 32, 0, 0, [_, _, _, _], [fI (fw ((M 14 ((l3 * 6) + l1).toNat) + (M 71 (fw (((l1 + 1) * 64) + (fior l2 (fshl 1 l3)))).toNat)))])) (h' := (156, fjl L, M)) rfl ?_ ?_
  · rw [fw_id g0]; exact g1
  rw [fw_id g0, fw_id g2]
  obtain rfl := Option.some.inj h
  exact Wp.done rfl (by decide) H
noncomputable def s_X4_greatest_b5 (M : fM) (l1 l2 l3 l4 : Int) : Option ((Int × Int) ⊕ Int) :=
  if (M 4 14) ≤ l4 then
    some (.inr l3)
  else
    if ¬ (fand (fshr l2 l4) 1) = 0 then
      if fin (l4 + 1) then
        some (.inl (l3, (l4 + 1)))
      else none
    else
      (s_X4_sumWith M l1 l2 l4).bind fun y32 =>
        (s_J9_max M l3 y32).bind fun y35 =>
          if fin (l4 + 1) then
            some (.inl (y35, (l4 + 1)))
          else none
theorem s_X4_greatest_b5_ok {d L : Nat} {M : fM} {l1 l2 l3 l4 : Int} {r : ((Int × Int) ⊕ Int)} {Q : fO → fH → Prop} (h : s_X4_greatest_b5 M l1 l2 l3 l4 = some r) (hC : ∀ (l3' l4' : Int), r = .inl (l3', l4') → Wp (d + 1, 66, 5, 0, 0, [some (fA 70), some (fI l1), some (fI l2), some (fI l3'), some (fI l4')], []) (156, fjl L, M) Q) (hE : ∀ (e : Int) (o0' o1' o2' o4' : Option fV), r = .inr e → Wp (d + 1, 66, 45, 0, 0, [o0', o1', o2', some (fI e), o4'], []) (156, fjl L, M) Q) : Wp (d + 1, 66, 5, 0, 0, [some (fA 70), some (fI l1), some (fI l2), some (fI l3), some (fI l4)], []) (156, fjl L, M) Q := by
  unfold s_X4_greatest_b5 at h
  refine Wp.run 4 (f' := (d + 1, 66, 14, 0, 0, [some (fA 70), some (fI l1), some (fI l2), some (fI l3), some (fI l4)], [fI (M 4 14), fI l4])) (h' := (156, fjl L, M)) rfl trivial ?_
  refine Wp.br rfl (fun (c : (M 4 14) ≤ l4) => ?_) (fun (c : ¬ ((M 4 14) ≤ l4)) => ?_)
  · replace h := fps c h
    exact hE _ _ _ _ _ (Option.some.inj h).symm
  · replace h := fng c h
    refine Wp.run 5 (f' := (d + 1, 66, 23, 0, 0, [some (fA 70), some (fI l1), some (fI l2), some (fI l3), some (fI l4)], [fI (fand (fshr l2 l4) 1)])) (h' := (156, fjl L, M)) rfl trivial ?_
    refine Wp.br rfl (fun (c : ¬ (fand (fshr l2 l4) 1) = 0) => ?_) (fun (c : ¬ (¬ (fand (fshr l2 l4) 1) = 0)) => ?_)
    · replace h := fps c h
      obtain ⟨g0, h⟩ := fgd h
      refine Wp.run 2 (f' := (d + 1, 66, 5, 0, 0, [some (fA 70), some (fI l1), some (fI l2), some (fI l3), some (fI (fw (l4 + 1)))], [])) (h' := (156, fjl L, M)) rfl trivial ?_
      rw [fw_id g0]
      exact hC _ _ (Option.some.inj h).symm
    · replace h := fng c h
      refine Wp.run 5 (f' := (d + 1, 66, 32, 0, 0, [some (fA 70), some (fI l1), some (fI l2), _, some (fI l4)], [fI l4, fI l2, fI l1, fA 70, fI l3])) (h' := (156, fjl L, M)) rfl trivial ?_
      obtain ⟨y32, hy, h⟩ := fbd h
      refine Wp.call rfl (by decide) (s_X4_sumWith_ok (d := d + 0) hy ?_)
      show Wp (d + 1, 66, 35, 0, 0, [some (fA 70), some (fI l1), some (fI l2), _, some (fI l4)], [fI y32, fI l3]) (156, fjl L, M) Q
      obtain ⟨y35, hy, h⟩ := fbd h
      refine Wp.call rfl (by decide) (s_J9_max_ok (d := d + 0) hy ?_)
      show Wp (d + 1, 66, 38, 0, 0, [some (fA 70), some (fI l1), some (fI l2), _, some (fI l4)], [fI y35]) (156, fjl L, M) Q
      obtain ⟨g0, h⟩ := fgd h
      refine Wp.run 3 (f' := (d + 1, 66, 5, 0, 0, [some (fA 70), some (fI l1), some (fI l2), some (fI y35), some (fI (fw (l4 + 1)))], [])) (h' := (156, fjl L, M)) rfl trivial ?_
      rw [fw_id g0]
      exact hC _ _ (Option.some.inj h).symm
noncomputable def s_X4_greatest_l5 (M : fM) (l1 l2 : Int) (s : (Int × Int)) : Option Int := fLp (fun s => s_X4_greatest_b5 M l1 l2 s.1 s.2) s
theorem s_X4_greatest_l5_ok {d L : Nat} {M : fM} {l1 l2 l3 l4 : Int} {r : Int} {Q : fO → fH → Prop} (h : s_X4_greatest_l5 M l1 l2 (l3, l4) = some r) (hE : ∀ (e : Int) (o0' o1' o2' o4' : Option fV), r = e → Wp (d + 1, 66, 45, 0, 0, [o0', o1', o2', some (fI e), o4'], []) (156, fjl L, M) Q) : Wp (d + 1, 66, 5, 0, 0, [some (fA 70), some (fI l1), some (fI l2), some (fI l3), some (fI l4)], []) (156, fjl L, M) Q := by
  refine fLp_wp (W := fun s => Wp (d + 1, 66, 5, 0, 0, [some (fA 70), some (fI l1), some (fI l2), some (fI s.1), some (fI s.2)], []) (156, fjl L, M) Q) (e := r) ?_ h
  intro s r1 h hC hX
  refine s_X4_greatest_b5_ok (d := d) h (fun a0 a1 e1 => ?_) (fun e u0 u1 u2 u3 e1 => hE e u0 u1 u2 u3 (hX _ e1).symm)
  exact hC _ e1
noncomputable def s_X4_greatest (M : fM) (l1 l2 : Int) : Option Int :=
  (s_X4_greatest_l5 M l1 l2 (0, 0)).bind fun e5 =>
    some e5
theorem s_X4_greatest_ok {d L : Nat} {M : fM} {l1 l2 : Int} {r : Int} {Q : fO → fH → Prop} (h : s_X4_greatest M l1 l2 = some r) (H : Q (oI r) (156, fjl L, M)) : Wp (d + 1, 66, 0, 0, 0, [some (fA 70), some (fI l1), some (fI l2), none, none], []) (156, fjl L, M) Q := by
  unfold s_X4_greatest at h
  refine Wp.run 4 (f' := (d + 1, 66, 5, 0, 0, [some (fA 70), some (fI l1), some (fI l2), some (fI 0), some (fI 0)], [])) (h' := (156, fjl L, M)) rfl trivial ?_
  obtain ⟨e5, hy, h⟩ := fbd h
  refine s_X4_greatest_l5_ok hy (fun x u0 u1 u2 u4 ex => ?_)
  cases ex
  show Wp (d + 1, 66, 45, 0, 0, [u0, u1, u2, some (fI e5), u4], []) (156, fjl L, M) Q
  refine Wp.run 1 (f' := (d + 1, 66, 46, 0, 0, [_, _, _, _, _], [fI e5])) (h' := (156, fjl L, M)) rfl trivial ?_
  obtain rfl := Option.some.inj h
  exact Wp.done rfl (by decide) H
noncomputable def s_X4_firstGreatest_b2 (M : fM) (l1 l2 l3 : Int) : Option (Int ⊕ (Unit ⊕ Int)) :=
  if (M 4 14) ≤ l3 then
    some (.inr (.inl ()))
  else
    if ¬ (fand (fshr l2 l3) 1) = 0 then
      if fin (l3 + 1) then
        some (.inl (l3 + 1))
      else none
    else
      (s_X4_sumWith M l1 l2 l3).bind fun y25 =>
        if fin (l1 * 64) ∧ fin ((l1 * 64) + l2) ∧ (0 ≤ ((l1 * 64) + l2) ∧ ((l1 * 64) + l2) < 448) then
          if ¬ y25 = (M 71 ((l1 * 64) + l2).toNat) then
            if fin (l3 + 1) then
              some (.inl (l3 + 1))
            else none
          else
            some (.inr (.inr l3))
        else none
theorem s_X4_firstGreatest_b2_ok {d L : Nat} {M : fM} {l1 l2 l3 : Int} {r : (Int ⊕ (Unit ⊕ Int))} {Q : fO → fH → Prop} (h : s_X4_firstGreatest_b2 M l1 l2 l3 = some r) (hC : ∀ (l3' : Int), r = .inl l3' → Wp (d + 1, 68, 2, 0, 0, [some (fA 70), some (fI l1), some (fI l2), some (fI l3')], []) (156, fjl L, M) Q) (hE : ∀ (e : Unit) (o0' o1' o2' o3' : Option fV), r = .inr (.inl e) → Wp (d + 1, 68, 50, 0, 0, [o0', o1', o2', o3'], []) (156, fjl L, M) Q) (hR : ∀ (v : Int), r = .inr (.inr v) → Q (oI v) (156, fjl L, M)) : Wp (d + 1, 68, 2, 0, 0, [some (fA 70), some (fI l1), some (fI l2), some (fI l3)], []) (156, fjl L, M) Q := by
  unfold s_X4_firstGreatest_b2 at h
  refine Wp.run 4 (f' := (d + 1, 68, 10, 0, 0, [some (fA 70), some (fI l1), some (fI l2), some (fI l3)], [fI (M 4 14), fI l3])) (h' := (156, fjl L, M)) rfl trivial ?_
  refine Wp.br rfl (fun (c : (M 4 14) ≤ l3) => ?_) (fun (c : ¬ ((M 4 14) ≤ l3)) => ?_)
  · replace h := fps c h
    exact hE _ _ _ _ _ (Option.some.inj h).symm
  · replace h := fng c h
    refine Wp.run 5 (f' := (d + 1, 68, 18, 0, 0, [some (fA 70), some (fI l1), some (fI l2), some (fI l3)], [fI (fand (fshr l2 l3) 1)])) (h' := (156, fjl L, M)) rfl trivial ?_
    refine Wp.br rfl (fun (c : ¬ (fand (fshr l2 l3) 1) = 0) => ?_) (fun (c : ¬ (¬ (fand (fshr l2 l3) 1) = 0)) => ?_)
    · replace h := fps c h
      obtain ⟨g0, h⟩ := fgd h
      refine Wp.run 2 (f' := (d + 1, 68, 2, 0, 0, [some (fA 70), some (fI l1), some (fI l2), some (fI (fw (l3 + 1)))], [])) (h' := (156, fjl L, M)) rfl trivial ?_
      rw [fw_id g0]
      exact hC _ (Option.some.inj h).symm
    · replace h := fng c h
      refine Wp.run 4 (f' := (d + 1, 68, 25, 0, 0, [some (fA 70), some (fI l1), some (fI l2), some (fI l3)], [fI l3, fI l2, fI l1, fA 70])) (h' := (156, fjl L, M)) rfl trivial ?_
      obtain ⟨y25, hy, h⟩ := fbd h
      refine Wp.call rfl (by decide) (s_X4_sumWith_ok (d := d + 0) hy ?_)
      show Wp (d + 1, 68, 28, 0, 0, [some (fA 70), some (fI l1), some (fI l2), some (fI l3)], [fI y25]) (156, fjl L, M) Q
      obtain ⟨⟨g0, g1, g2⟩, h⟩ := fgd h
      refine Wp.run 8 (P := [0 ≤ (fw ((fw (l1 * 64)) + l2)) ∧ (fw ((fw (l1 * 64)) + l2)) < 448]) (f' := (d + 1, 68, 39, 0, 0, [some (fA 70), some (fI l1), some (fI l2), some (fI l3)], [fI (M 71 (fw ((fw (l1 * 64)) + l2)).toNat), fI y25])) (h' := (156, fjl L, M)) rfl ?_ ?_
      · rw [fw_id g0, fw_id g1]; exact g2
      rw [fw_id g0, fw_id g1]
      refine Wp.br rfl (fun (c : ¬ y25 = (M 71 ((l1 * 64) + l2).toNat)) => ?_) (fun (c : ¬ (¬ y25 = (M 71 ((l1 * 64) + l2).toNat))) => ?_)
      · replace h := fps c h
        obtain ⟨g0, h⟩ := fgd h
        refine Wp.run 2 (f' := (d + 1, 68, 2, 0, 0, [some (fA 70), some (fI l1), some (fI l2), some (fI (fw (l3 + 1)))], [])) (h' := (156, fjl L, M)) rfl trivial ?_
        rw [fw_id g0]
        exact hC _ (Option.some.inj h).symm
      · replace h := fng c h
        refine Wp.run 1 (f' := (d + 1, 68, 43, 0, 0, [_, _, _, _], [fI l3])) (h' := (156, fjl L, M)) rfl trivial ?_
        exact Wp.done rfl (by decide) (hR _ (Option.some.inj h).symm)
noncomputable def s_X4_firstGreatest_l2 (M : fM) (l1 l2 : Int) (s : Int) : Option (Unit ⊕ Int) := fLp (fun s => s_X4_firstGreatest_b2 M l1 l2 s) s
theorem s_X4_firstGreatest_l2_ok {d L : Nat} {M : fM} {l1 l2 l3 : Int} {r : (Unit ⊕ Int)} {Q : fO → fH → Prop} (h : s_X4_firstGreatest_l2 M l1 l2 l3 = some r) (hE : ∀ (e : Unit) (o0' o1' o2' o3' : Option fV), r = .inl e → Wp (d + 1, 68, 50, 0, 0, [o0', o1', o2', o3'], []) (156, fjl L, M) Q) (hR : ∀ (v : Int), r = .inr v → Q (oI v) (156, fjl L, M)) : Wp (d + 1, 68, 2, 0, 0, [some (fA 70), some (fI l1), some (fI l2), some (fI l3)], []) (156, fjl L, M) Q := by
  refine fLp_wp (W := fun s => Wp (d + 1, 68, 2, 0, 0, [some (fA 70), some (fI l1), some (fI l2), some (fI s)], []) (156, fjl L, M) Q) (e := r) ?_ h
  intro s r1 h hC hX
  refine s_X4_firstGreatest_b2_ok (d := d) h (fun a0 e1 => ?_) (fun e u0 u1 u2 u3 e1 => hE e u0 u1 u2 u3 (hX _ e1).symm) (fun v e1 => hR v (hX _ e1).symm)
  exact hC _ e1
noncomputable def s_X4_firstGreatest (M : fM) (l1 l2 : Int) : Option Int :=
  (s_X4_firstGreatest_l2 M l1 l2 0).bind fun e2 =>
    Sum.elim (fun x2 =>
      some 0)
      (fun v2 => some v2) e2
theorem s_X4_firstGreatest_ok {d L : Nat} {M : fM} {l1 l2 : Int} {r : Int} {Q : fO → fH → Prop} (h : s_X4_firstGreatest M l1 l2 = some r) (H : Q (oI r) (156, fjl L, M)) : Wp (d + 1, 68, 0, 0, 0, [some (fA 70), some (fI l1), some (fI l2), none], []) (156, fjl L, M) Q := by
  unfold s_X4_firstGreatest at h
  refine Wp.run 2 (f' := (d + 1, 68, 2, 0, 0, [some (fA 70), some (fI l1), some (fI l2), some (fI 0)], [])) (h' := (156, fjl L, M)) rfl trivial ?_
  obtain ⟨e2, hy, h⟩ := fbd h
  refine s_X4_firstGreatest_l2_ok hy (fun x2 u0 u1 u2 u3 ex => ?_) (fun v2 ex => ?_)
  · subst ex
    replace h := fsl h
    show Wp (d + 1, 68, 50, 0, 0, [u0, u1, u2, u3], []) (156, fjl L, M) Q
    refine Wp.run 1 (f' := (d + 1, 68, 51, 0, 0, [_, _, _, _], [fI 0])) (h' := (156, fjl L, M)) rfl trivial ?_
    obtain rfl := Option.some.inj h
    exact Wp.done rfl (by decide) H
  · subst ex
    replace h := fsr h
    obtain rfl := Option.some.inj h
    exact H
abbrev s_X4_pickTuners_mods : List (Nat × Option Nat) := [(72, none)]
noncomputable def s_X4_pickTuners_b4 (M : fM) (l1 l2 : Int) : Option ((Int × Int × fM) ⊕ fM) :=
  if (M 70 3) ≤ l2 then
    some (.inr M)
  else
    (s_X4_firstGreatest M l2 l1).bind fun y15 =>
      if (0 ≤ l2 ∧ l2 < 6) then
        if fin (l2 + 1) then
          some (.inl ((fior l1 (fshl 1 y15)), (l2 + 1), (fup M 72 (l2).toNat y15)))
        else none
      else none
theorem s_X4_pickTuners_b4_ok {d L : Nat} {M : fM} {l1 l2 : Int} {o3 : Option fV} {r : ((Int × Int × fM) ⊕ fM)} {Q : fO → fH → Prop} (h : s_X4_pickTuners_b4 M l1 l2 = some r) (hC : ∀ (l1' l2' : Int) (M' : fM) (o3' : Option fV), r = .inl (l1', l2', M') → Wp (d + 2, 67, 4, 0, 0, [some (fA 70), some (fI l1'), some (fI l2'), o3'], []) (156, fjl L, M') Q) (hE : ∀ (e : fM) (o0' o1' o2' o3' : Option fV), r = .inr e → Wp (d + 2, 67, 38, 0, 0, [o0', o1', o2', o3'], []) (156, fjl L, e) Q) : Wp (d + 2, 67, 4, 0, 0, [some (fA 70), some (fI l1), some (fI l2), o3], []) (156, fjl L, M) Q := by
  unfold s_X4_pickTuners_b4 at h
  refine Wp.run 3 (f' := (d + 2, 67, 9, 0, 0, [some (fA 70), some (fI l1), some (fI l2), _], [fI (M 70 3), fI l2])) (h' := (156, fjl L, M)) rfl trivial ?_
  refine Wp.br rfl (fun (c : (M 70 3) ≤ l2) => ?_) (fun (c : ¬ ((M 70 3) ≤ l2)) => ?_)
  · replace h := fps c h
    exact hE _ _ _ _ _ (Option.some.inj h).symm
  · replace h := fng c h
    refine Wp.run 3 (f' := (d + 2, 67, 15, 0, 0, [some (fA 70), some (fI l1), some (fI l2), _], [fI l1, fI l2, fA 70])) (h' := (156, fjl L, M)) rfl trivial ?_
    obtain ⟨y15, hy, h⟩ := fbd h
    refine Wp.call rfl (by decide) (s_X4_firstGreatest_ok (d := d + 0) hy ?_)
    show Wp (d + 2, 67, 18, 0, 0, [some (fA 70), some (fI l1), some (fI l2), _], [fI y15]) (156, fjl L, M) Q
    obtain ⟨g0, h⟩ := fgd h
    refine Wp.run 12 (P := [0 ≤ l2 ∧ l2 < 6]) (f' := (d + 2, 67, 32, 0, 0, [some (fA 70), some (fI (fior l1 (fshl 1 y15))), some (fI l2), _], [])) (h' := (156, fjl L, (fup M 72 (l2).toNat y15))) rfl ?_ ?_
    · exact g0
    obtain ⟨g0, h⟩ := fgd h
    refine Wp.run 2 (f' := (d + 2, 67, 4, 0, 0, [some (fA 70), some (fI (fior l1 (fshl 1 y15))), some (fI (fw (l2 + 1))), _], [])) (h' := (156, fjl L, (fup M 72 (l2).toNat y15))) rfl trivial ?_
    rw [fw_id g0]
    exact hC _ _ _ _ (Option.some.inj h).symm
theorem s_X4_pickTuners_b4_fr {M : fM} {l1 l2 : Int} {r : ((Int × Int × fM) ⊕ fM)} (h : s_X4_pickTuners_b4 M l1 l2 = some r) : fSame s_X4_pickTuners_mods M (Sum.elim (fun s => s.2.2) (fun e => e) r) := by
  unfold s_X4_pickTuners_b4 at h
  by_cases c : (M 70 3) ≤ l2
  · replace h := fps c h
    obtain rfl := Option.some.inj h
    exact fs_refl
  · replace h := fng c h
    obtain ⟨y15, hy, h⟩ := fbd h
    replace h := (fgd h).2
    replace h := (fgd h).2
    obtain rfl := Option.some.inj h
    exact fs_up fs_refl (.inl (by decide))
noncomputable def s_X4_pickTuners_l4 (s : (Int × Int × fM)) : Option fM := fLp (fun s => s_X4_pickTuners_b4 s.2.2 s.1 s.2.1) s
theorem s_X4_pickTuners_l4_ok {d L : Nat} {M : fM} {l1 l2 : Int} {o3 : Option fV} {r : fM} {Q : fO → fH → Prop} (h : s_X4_pickTuners_l4 (l1, l2, M) = some r) (hE : ∀ (e : fM) (o0' o1' o2' o3' : Option fV), r = e → Wp (d + 2, 67, 38, 0, 0, [o0', o1', o2', o3'], []) (156, fjl L, e) Q) : Wp (d + 2, 67, 4, 0, 0, [some (fA 70), some (fI l1), some (fI l2), o3], []) (156, fjl L, M) Q := by
  refine fLp_wp (W := fun s => ∀ (o3 : Option fV), Wp (d + 2, 67, 4, 0, 0, [some (fA 70), some (fI s.1), some (fI s.2.1), o3], []) (156, fjl L, s.2.2) Q) (e := r) ?_ h _
  intro s r1 h hC hX o3
  refine s_X4_pickTuners_b4_ok (d := d) h (fun a0 a1 a2 _ e1 => ?_) (fun e u0 u1 u2 u3 e1 => hE e u0 u1 u2 u3 (hX _ e1).symm)
  exact hC _ e1 _
theorem s_X4_pickTuners_l4_fr {M : fM} {l1 l2 : Int} {r : fM} (h : s_X4_pickTuners_l4 (l1, l2, M) = some r) : fSame s_X4_pickTuners_mods M ((fun e => e) r) := by
  refine fLp_inv (I := fun s => fSame s_X4_pickTuners_mods M s.2.2) (J := fun r => fSame s_X4_pickTuners_mods M ((fun e => e) r)) h fs_refl (fun s s1 hs hb => ?_) (fun s e hs hb => ?_)
  · exact fs_trans hs (s_X4_pickTuners_b4_fr hb)
  · exact fs_trans hs (s_X4_pickTuners_b4_fr hb)
noncomputable def s_X4_pickTuners (M : fM) : Option (Unit × fM) :=
  (s_X4_pickTuners_l4 (0, 0, M)).bind fun e4 =>
    some ((), e4)
theorem s_X4_pickTuners_ok {d L : Nat} {M : fM} {r : (Unit × fM)} {Q : fO → fH → Prop} (h : s_X4_pickTuners M = some r) (H : Q (oV r.1) (156, fjl L, r.2)) : Wp (d + 2, 67, 0, 0, 0, [some (fA 70), none, none, none], []) (156, fjl L, M) Q := by
  unfold s_X4_pickTuners at h
  refine Wp.run 4 (f' := (d + 2, 67, 4, 0, 0, [some (fA 70), some (fI 0), some (fI 0), _], [])) (h' := (156, fjl L, M)) rfl trivial ?_
  obtain ⟨e4, hy, h⟩ := fbd h
  refine s_X4_pickTuners_l4_ok hy (fun x u0 u1 u2 u3 ex => ?_)
  cases ex
  show Wp (d + 2, 67, 38, 0, 0, [u0, u1, u2, u3], []) (156, fjl L, e4) Q
  obtain rfl := Option.some.inj h
  exact Wp.done rfl (by decide) H
theorem s_X4_pickTuners_fr {M : fM} {r : (Unit × fM)} (h : s_X4_pickTuners M = some r) : fSame s_X4_pickTuners_mods M r.2 := by
  unfold s_X4_pickTuners at h
  obtain ⟨e4, hy, h⟩ := fbd h
  have k4 := fs_trans (l := s_X4_pickTuners_mods) fs_refl (s_X4_pickTuners_l4_fr hy)
  obtain rfl := Option.some.inj h
  exact k4
abbrev s_X4_share_mods : List (Nat × Option Nat) := [(70, some 3), (71, none), (72, none)]
noncomputable def s_X4_share_b33 (M : fM) (l1 l2 : Int) : Option ((Int × fM) ⊕ fM) :=
  if l1 ≤ l2 then
    some (.inr M)
  else
    if fin ((M 70 3) * 64) ∧ fin (((M 70 3) * 64) + l2) ∧ (0 ≤ (((M 70 3) * 64) + l2) ∧ (((M 70 3) * 64) + l2) < 448) ∧ fin (l2 + 1) then
      some (.inl ((l2 + 1), (fup M 71 (((M 70 3) * 64) + l2).toNat 0)))
    else none
theorem s_X4_share_b33_ok {d L : Nat} {M : fM} {l1 l2 : Int} {o3 : Option fV} {r : ((Int × fM) ⊕ fM)} {Q : fO → fH → Prop} (h : s_X4_share_b33 M l1 l2 = some r) (hC : ∀ (l2' : Int) (M' : fM) (o3' : Option fV), r = .inl (l2', M') → Wp (d + 3, 64, 33, 0, 0, [some (fA 70), some (fI l1), some (fI l2'), o3'], []) (156, fjl L, M') Q) (hE : ∀ (e : fM) (o2' o3' : Option fV), r = .inr e → Wp (d + 3, 64, 59, 0, 0, [some (fA 70), some (fI l1), o2', o3'], []) (156, fjl L, e) Q) : Wp (d + 3, 64, 33, 0, 0, [some (fA 70), some (fI l1), some (fI l2), o3], []) (156, fjl L, M) Q := by
  unfold s_X4_share_b33 at h
  refine Wp.run 2 (f' := (d + 3, 64, 35, 0, 0, [some (fA 70), some (fI l1), some (fI l2), _], [fI l1, fI l2])) (h' := (156, fjl L, M)) rfl trivial ?_
  refine Wp.br rfl (fun (c : l1 ≤ l2) => ?_) (fun (c : ¬ (l1 ≤ l2)) => ?_)
  · replace h := fps c h
    exact hE _ _ _ (Option.some.inj h).symm
  · replace h := fng c h
    obtain ⟨⟨g0, g1, g2, g3⟩, h⟩ := fgd h
    refine Wp.run 12 (P := [0 ≤ (fw ((fw ((M 70 3) * 64)) + l2)) ∧ (fw ((fw ((M 70 3) * 64)) + l2)) < 448]) (f' := (d + 3, 64, 33, 0, 0, [some (fA 70), some (fI l1), some (fI (fw (l2 + 1))), _], [])) (h' := (156, fjl L, (fup M 71 (fw ((fw ((M 70 3) * 64)) + l2)).toNat 0))) rfl ?_ ?_
    · rw [fw_id g0, fw_id g1]; exact g2
    rw [fw_id g3, fw_id g0, fw_id g1]
    exact hC _ _ _ (Option.some.inj h).symm
theorem s_X4_share_b33_fr {M : fM} {l1 l2 : Int} {r : ((Int × fM) ⊕ fM)} (h : s_X4_share_b33 M l1 l2 = some r) : fSame s_X4_share_mods M (Sum.elim (fun s => s.2) (fun e => e) r) := by
  unfold s_X4_share_b33 at h
  by_cases c : l1 ≤ l2
  · replace h := fps c h
    obtain rfl := Option.some.inj h
    exact fs_refl
  · replace h := fng c h
    replace h := (fgd h).2
    obtain rfl := Option.some.inj h
    exact fs_up fs_refl (.inl (by decide))
noncomputable def s_X4_share_l33 (l1 : Int) (s : (Int × fM)) : Option fM := fLp (fun s => s_X4_share_b33 s.2 l1 s.1) s
theorem s_X4_share_l33_ok {d L : Nat} {M : fM} {l1 l2 : Int} {o3 : Option fV} {r : fM} {Q : fO → fH → Prop} (h : s_X4_share_l33 l1 (l2, M) = some r) (hE : ∀ (e : fM) (o2' o3' : Option fV), r = e → Wp (d + 3, 64, 59, 0, 0, [some (fA 70), some (fI l1), o2', o3'], []) (156, fjl L, e) Q) : Wp (d + 3, 64, 33, 0, 0, [some (fA 70), some (fI l1), some (fI l2), o3], []) (156, fjl L, M) Q := by
  refine fLp_wp (W := fun s => ∀ (o3 : Option fV), Wp (d + 3, 64, 33, 0, 0, [some (fA 70), some (fI l1), some (fI s.1), o3], []) (156, fjl L, s.2) Q) (e := r) ?_ h _
  intro s r1 h hC hX o3
  refine s_X4_share_b33_ok (d := d) h (fun a0 a1 _ e1 => ?_) (fun e u0 u1 e1 => hE e u0 u1 (hX _ e1).symm)
  exact hC _ e1 _
theorem s_X4_share_l33_fr {M : fM} {l1 l2 : Int} {r : fM} (h : s_X4_share_l33 l1 (l2, M) = some r) : fSame s_X4_share_mods M ((fun e => e) r) := by
  refine fLp_inv (I := fun s => fSame s_X4_share_mods M s.2) (J := fun r => fSame s_X4_share_mods M ((fun e => e) r)) h fs_refl (fun s s1 hs hb => ?_) (fun s e hs hb => ?_)
  · exact fs_trans hs (s_X4_share_b33_fr hb)
  · exact fs_trans hs (s_X4_share_b33_fr hb)
noncomputable def s_X4_share_b72 (M : fM) (l1 l2 l3 : Int) : Option ((Int × fM) ⊕ fM) :=
  if l1 ≤ l3 then
    some (.inr M)
  else
    if fin (l2 * 64) ∧ fin ((l2 * 64) + l3) then
      (s_X4_greatest M l2 l3).bind fun y90 =>
        if (0 ≤ ((l2 * 64) + l3) ∧ ((l2 * 64) + l3) < 448) ∧ fin (l3 + 1) then
          some (.inl ((l3 + 1), (fup M 71 ((l2 * 64) + l3).toNat y90)))
        else none
    else none
theorem s_X4_share_b72_ok {d L : Nat} {M : fM} {l1 l2 l3 : Int} {r : ((Int × fM) ⊕ fM)} {Q : fO → fH → Prop} (h : s_X4_share_b72 M l1 l2 l3 = some r) (hC : ∀ (l3' : Int) (M' : fM), r = .inl (l3', M') → Wp (d + 3, 64, 72, 0, 0, [some (fA 70), some (fI l1), some (fI l2), some (fI l3')], []) (156, fjl L, M') Q) (hE : ∀ (e : fM) (o3' : Option fV), r = .inr e → Wp (d + 3, 64, 100, 0, 0, [some (fA 70), some (fI l1), some (fI l2), o3'], []) (156, fjl L, e) Q) : Wp (d + 3, 64, 72, 0, 0, [some (fA 70), some (fI l1), some (fI l2), some (fI l3)], []) (156, fjl L, M) Q := by
  unfold s_X4_share_b72 at h
  refine Wp.run 2 (f' := (d + 3, 64, 74, 0, 0, [some (fA 70), some (fI l1), some (fI l2), some (fI l3)], [fI l1, fI l3])) (h' := (156, fjl L, M)) rfl trivial ?_
  refine Wp.br rfl (fun (c : l1 ≤ l3) => ?_) (fun (c : ¬ (l1 ≤ l3)) => ?_)
  · replace h := fps c h
    exact hE _ _ (Option.some.inj h).symm
  · replace h := fng c h
    obtain ⟨⟨g0, g1⟩, h⟩ := fgd h
    refine Wp.run 10 (f' := (d + 3, 64, 90, 0, 0, [some (fA 70), some (fI l1), some (fI l2), some (fI l3)], [fI l3, fI l2, fA 70, fI (fw ((fw (l2 * 64)) + l3)), fA 71])) (h' := (156, fjl L, M)) rfl trivial ?_
    rw [fw_id g0, fw_id g1]
    obtain ⟨y90, hy, h⟩ := fbd h
    refine Wp.call rfl (by decide) (s_X4_greatest_ok (d := d + 1) hy ?_)
    show Wp (d + 3, 64, 93, 0, 0, [some (fA 70), some (fI l1), some (fI l2), some (fI l3)], [fI y90, fI ((l2 * 64) + l3), fA 71]) (156, fjl L, M) Q
    obtain ⟨⟨g0, g1⟩, h⟩ := fgd h
    refine Wp.run 3 (P := [0 ≤ ((l2 * 64) + l3) ∧ ((l2 * 64) + l3) < 448]) (f' := (d + 3, 64, 72, 0, 0, [some (fA 70), some (fI l1), some (fI l2), some (fI (fw (l3 + 1)))], [])) (h' := (156, fjl L, (fup M 71 ((l2 * 64) + l3).toNat y90))) rfl ?_ ?_
    · exact g0
    rw [fw_id g1]
    exact hC _ _ (Option.some.inj h).symm
theorem s_X4_share_b72_fr {M : fM} {l1 l2 l3 : Int} {r : ((Int × fM) ⊕ fM)} (h : s_X4_share_b72 M l1 l2 l3 = some r) : fSame s_X4_share_mods M (Sum.elim (fun s => s.2) (fun e => e) r) := by
  unfold s_X4_share_b72 at h
  by_cases c : l1 ≤ l3
  · replace h := fps c h
    obtain rfl := Option.some.inj h
    exact fs_refl
  · replace h := fng c h
    replace h := (fgd h).2
    obtain ⟨y90, hy, h⟩ := fbd h
    replace h := (fgd h).2
    obtain rfl := Option.some.inj h
    exact fs_up fs_refl (.inl (by decide))
noncomputable def s_X4_share_l72 (l1 l2 : Int) (s : (Int × fM)) : Option fM := fLp (fun s => s_X4_share_b72 s.2 l1 l2 s.1) s
theorem s_X4_share_l72_ok {d L : Nat} {M : fM} {l1 l2 l3 : Int} {r : fM} {Q : fO → fH → Prop} (h : s_X4_share_l72 l1 l2 (l3, M) = some r) (hE : ∀ (e : fM) (o3' : Option fV), r = e → Wp (d + 3, 64, 100, 0, 0, [some (fA 70), some (fI l1), some (fI l2), o3'], []) (156, fjl L, e) Q) : Wp (d + 3, 64, 72, 0, 0, [some (fA 70), some (fI l1), some (fI l2), some (fI l3)], []) (156, fjl L, M) Q := by
  refine fLp_wp (W := fun s => Wp (d + 3, 64, 72, 0, 0, [some (fA 70), some (fI l1), some (fI l2), some (fI s.1)], []) (156, fjl L, s.2) Q) (e := r) ?_ h
  intro s r1 h hC hX
  refine s_X4_share_b72_ok (d := d) h (fun a0 a1 e1 => ?_) (fun e u0 e1 => hE e u0 (hX _ e1).symm)
  exact hC _ e1
theorem s_X4_share_l72_fr {M : fM} {l1 l2 l3 : Int} {r : fM} (h : s_X4_share_l72 l1 l2 (l3, M) = some r) : fSame s_X4_share_mods M ((fun e => e) r) := by
  refine fLp_inv (I := fun s => fSame s_X4_share_mods M s.2) (J := fun r => fSame s_X4_share_mods M ((fun e => e) r)) h fs_refl (fun s s1 hs hb => ?_) (fun s e hs hb => ?_)
  · exact fs_trans hs (s_X4_share_b72_fr hb)
  · exact fs_trans hs (s_X4_share_b72_fr hb)
noncomputable def s_X4_share_b66 (M : fM) (l1 l2 : Int) : Option ((Int × fM) ⊕ fM) :=
  if l2 < 0 then
    some (.inr M)
  else
    (s_X4_share_l72 l1 l2 (0, M)).bind fun e72 =>
      if fin (l2 + (-1)) then
        some (.inl ((l2 + (-1)), e72))
      else none
theorem s_X4_share_b66_ok {d L : Nat} {M : fM} {l1 l2 : Int} {o3 : Option fV} {r : ((Int × fM) ⊕ fM)} {Q : fO → fH → Prop} (h : s_X4_share_b66 M l1 l2 = some r) (hC : ∀ (l2' : Int) (M' : fM) (o3' : Option fV), r = .inl (l2', M') → Wp (d + 3, 64, 66, 0, 0, [some (fA 70), some (fI l1), some (fI l2'), o3'], []) (156, fjl L, M') Q) (hE : ∀ (e : fM) (o1' o2' o3' : Option fV), r = .inr e → Wp (d + 3, 64, 106, 0, 0, [some (fA 70), o1', o2', o3'], []) (156, fjl L, e) Q) : Wp (d + 3, 64, 66, 0, 0, [some (fA 70), some (fI l1), some (fI l2), o3], []) (156, fjl L, M) Q := by
  unfold s_X4_share_b66 at h
  refine Wp.run 1 (f' := (d + 3, 64, 67, 0, 0, [some (fA 70), some (fI l1), some (fI l2), _], [fI l2])) (h' := (156, fjl L, M)) rfl trivial ?_
  refine Wp.br rfl (fun (c : l2 < 0) => ?_) (fun (c : ¬ (l2 < 0)) => ?_)
  · replace h := fps c h
    exact hE _ _ _ _ (Option.some.inj h).symm
  · replace h := fng c h
    refine Wp.run 2 (f' := (d + 3, 64, 72, 0, 0, [some (fA 70), some (fI l1), some (fI l2), some (fI 0)], [])) (h' := (156, fjl L, M)) rfl trivial ?_
    obtain ⟨e72, hy, h⟩ := fbd h
    refine s_X4_share_l72_ok hy (fun x u3 ex => ?_)
    cases ex
    show Wp (d + 3, 64, 100, 0, 0, [some (fA 70), some (fI l1), some (fI l2), u3], []) (156, fjl L, e72) Q
    obtain ⟨g0, h⟩ := fgd h
    refine Wp.run 2 (f' := (d + 3, 64, 66, 0, 0, [some (fA 70), some (fI l1), some (fI (fw (l2 + (-1)))), _], [])) (h' := (156, fjl L, e72)) rfl trivial ?_
    rw [fw_id g0]
    exact hC _ _ _ (Option.some.inj h).symm
theorem s_X4_share_b66_fr {M : fM} {l1 l2 : Int} {r : ((Int × fM) ⊕ fM)} (h : s_X4_share_b66 M l1 l2 = some r) : fSame s_X4_share_mods M (Sum.elim (fun s => s.2) (fun e => e) r) := by
  unfold s_X4_share_b66 at h
  by_cases c : l2 < 0
  · replace h := fps c h
    obtain rfl := Option.some.inj h
    exact fs_refl
  · replace h := fng c h
    obtain ⟨e72, hy, h⟩ := fbd h
    have k72 := fs_trans (l := s_X4_share_mods) fs_refl (s_X4_share_l72_fr hy)
    replace h := (fgd h).2
    obtain rfl := Option.some.inj h
    exact k72
noncomputable def s_X4_share_l66 (l1 : Int) (s : (Int × fM)) : Option fM := fLp (fun s => s_X4_share_b66 s.2 l1 s.1) s
theorem s_X4_share_l66_ok {d L : Nat} {M : fM} {l1 l2 : Int} {o3 : Option fV} {r : fM} {Q : fO → fH → Prop} (h : s_X4_share_l66 l1 (l2, M) = some r) (hE : ∀ (e : fM) (o1' o2' o3' : Option fV), r = e → Wp (d + 3, 64, 106, 0, 0, [some (fA 70), o1', o2', o3'], []) (156, fjl L, e) Q) : Wp (d + 3, 64, 66, 0, 0, [some (fA 70), some (fI l1), some (fI l2), o3], []) (156, fjl L, M) Q := by
  refine fLp_wp (W := fun s => ∀ (o3 : Option fV), Wp (d + 3, 64, 66, 0, 0, [some (fA 70), some (fI l1), some (fI s.1), o3], []) (156, fjl L, s.2) Q) (e := r) ?_ h _
  intro s r1 h hC hX o3
  refine s_X4_share_b66_ok (d := d) h (fun a0 a1 _ e1 => ?_) (fun e u0 u1 u2 e1 => hE e u0 u1 u2 (hX _ e1).symm)
  exact hC _ e1 _
theorem s_X4_share_l66_fr {M : fM} {l1 l2 : Int} {r : fM} (h : s_X4_share_l66 l1 (l2, M) = some r) : fSame s_X4_share_mods M ((fun e => e) r) := by
  refine fLp_inv (I := fun s => fSame s_X4_share_mods M s.2) (J := fun r => fSame s_X4_share_mods M ((fun e => e) r)) h fs_refl (fun s s1 hs hb => ?_) (fun s e hs hb => ?_)
  · exact fs_trans hs (s_X4_share_b66_fr hb)
  · exact fs_trans hs (s_X4_share_b66_fr hb)
noncomputable def s_X4_share (M : fM) : Option (Int × fM) :=
  (s_J9_min M (M 4 15) (M 4 14)).bind fun y15 =>
    (s_X4_share_l33 (fshl 1 (M 4 14)) (0, (fup M 70 3 y15))).bind fun e33 =>
      if fin ((e33 70 3) - 1) then
        (s_X4_share_l66 (fshl 1 (M 4 14)) (((e33 70 3) - 1), e33)).bind fun e66 =>
          (s_X4_pickTuners e66).bind fun y107 =>
            some ((y107.2 71 0), y107.2)
      else none
theorem s_X4_share_ok {d L : Nat} {M : fM} {r : (Int × fM)} {Q : fO → fH → Prop} (h : s_X4_share M = some r) (H : Q (oI r.1) (156, fjl L, r.2)) : Wp (d + 3, 64, 0, 0, 0, [some (fA 70), none, none, none], []) (156, fjl L, M) Q := by
  unfold s_X4_share at h
  refine Wp.run 7 (f' := (d + 3, 64, 15, 0, 0, [some (fA 70), _, _, _], [fI (M 4 14), fI (M 4 15), fA 70])) (h' := (156, fjl L, M)) rfl trivial ?_
  obtain ⟨y15, hy, h⟩ := fbd h
  refine Wp.call rfl (by decide) (s_J9_min_ok (d := d + 2) hy ?_)
  show Wp (d + 3, 64, 18, 0, 0, [some (fA 70), _, _, _], [fI y15, fA 70]) (156, fjl L, M) Q
  refine Wp.run 9 (f' := (d + 3, 64, 33, 0, 0, [some (fA 70), some (fI (fshl 1 (M 4 14))), some (fI 0), _], [])) (h' := (156, fjl L, (fup M 70 3 y15))) rfl trivial ?_
  obtain ⟨e33, hy, h⟩ := fbd h
  refine s_X4_share_l33_ok hy (fun x u2 u3 ex => ?_)
  cases ex
  show Wp (d + 3, 64, 59, 0, 0, [some (fA 70), some (fI (fshl 1 (M 4 14))), u2, u3], []) (156, fjl L, e33) Q
  obtain ⟨g0, h⟩ := fgd h
  refine Wp.run 5 (f' := (d + 3, 64, 66, 0, 0, [some (fA 70), some (fI (fshl 1 (M 4 14))), some (fI (fw ((e33 70 3) - 1))), _], [])) (h' := (156, fjl L, e33)) rfl trivial ?_
  rw [fw_id g0]
  obtain ⟨e66, hy, h⟩ := fbd h
  refine s_X4_share_l66_ok hy (fun x u1 u2 u3 ex => ?_)
  cases ex
  show Wp (d + 3, 64, 106, 0, 0, [some (fA 70), u1, u2, u3], []) (156, fjl L, e66) Q
  refine Wp.run 1 (f' := (d + 3, 64, 107, 0, 0, [some (fA 70), _, _, _], [fA 70])) (h' := (156, fjl L, e66)) rfl trivial ?_
  obtain ⟨y107, hy, h⟩ := fbd h
  refine Wp.call rfl (by decide) (s_X4_pickTuners_ok (d := d + 0) hy ?_)
  show Wp (d + 3, 64, 110, 0, 0, [some (fA 70), _, _, _], []) (156, fjl L, y107.2) Q
  refine Wp.run 4 (P := [(0 : Int) ≤ 0 ∧ (0 : Int) < 448]) (f' := (d + 3, 64, 116, 0, 0, [_, _, _, _], [fI (y107.2 71 0)])) (h' := (156, fjl L, y107.2)) rfl ?_ ?_
  · exact (by decide : (0 : Int) ≤ 0 ∧ (0 : Int) < 448)
  obtain rfl := Option.some.inj h
  exact Wp.done rfl (by decide) H
theorem s_X4_share_fr {M : fM} {r : (Int × fM)} (h : s_X4_share M = some r) : fSame s_X4_share_mods M r.2 := by
  unfold s_X4_share at h
  obtain ⟨y15, hy, h⟩ := fbd h
  obtain ⟨e33, hy, h⟩ := fbd h
  have k33 := fs_trans (l := s_X4_share_mods) (fs_up fs_refl (.inr (by decide))) (s_X4_share_l33_fr hy)
  replace h := (fgd h).2
  obtain ⟨e66, hy, h⟩ := fbd h
  have k66 := fs_trans (l := s_X4_share_mods) k33 (s_X4_share_l66_fr hy)
  obtain ⟨y107, hy, h⟩ := fbd h
  have k107 := fs_trans (l := s_X4_share_mods) k66 (fs_mono (l := s_X4_pickTuners_mods) (by decide) (s_X4_pickTuners_fr hy))
  obtain rfl := Option.some.inj h
  exact k107
abbrev s_X11_pupils_mods : List (Nat × Option Nat) := [(70, some 3), (71, none), (72, none)]
noncomputable def s_X11_pupils (M : fM) : Option (Int × fM) :=
  if (M 4 15) = 0 then
    some ((-1), M)
  else
    if ¬ (M 4 14) = 0 then
      (s_X4_share M).bind fun y26 =>
        some (y26.1, y26.2)
    else
      some ((-1), M)
theorem s_X11_pupils_ok {d L : Nat} {M : fM} {r : (Int × fM)} {Q : fO → fH → Prop} (h : s_X11_pupils M = some r) (H : Q (oI r.1) (156, fjl L, r.2)) : Wp (d + 4, 185, 0, 0, 0, [some (fA 0)], []) (156, fjl L, M) Q := by
  unfold s_X11_pupils at h
  refine Wp.run 3 (f' := (d + 4, 185, 7, 0, 0, [some (fA 0)], [fI (M 4 15)])) (h' := (156, fjl L, M)) rfl trivial ?_
  refine Wp.br rfl (fun (c : (M 4 15) = 0) => ?_) (fun (c : ¬ ((M 4 15) = 0)) => ?_)
  · replace h := fps c h
    refine Wp.run 1 (f' := (d + 4, 185, 21, 0, 0, [_], [fI (-1)])) (h' := (156, fjl L, M)) rfl trivial ?_
    obtain rfl := Option.some.inj h
    exact Wp.done rfl (by decide) H
  · replace h := fng c h
    refine Wp.run 3 (f' := (d + 4, 185, 17, 0, 0, [some (fA 0)], [fI (M 4 14)])) (h' := (156, fjl L, M)) rfl trivial ?_
    refine Wp.br rfl (fun (c : ¬ (M 4 14) = 0) => ?_) (fun (c : ¬ (¬ (M 4 14) = 0)) => ?_)
    · replace h := fps c h
      refine Wp.run 2 (f' := (d + 4, 185, 26, 0, 0, [_], [fA 70])) (h' := (156, fjl L, M)) rfl trivial ?_
      obtain ⟨y26, hy, h⟩ := fbd h
      refine Wp.call rfl (by decide) (s_X4_share_ok (d := d + 0) hy ?_)
      show Wp (d + 4, 185, 29, 0, 0, [_], [fI y26.1]) (156, fjl L, y26.2) Q
      obtain rfl := Option.some.inj h
      exact Wp.done rfl (by decide) H
    · replace h := fng c h
      refine Wp.run 1 (f' := (d + 4, 185, 21, 0, 0, [_], [fI (-1)])) (h' := (156, fjl L, M)) rfl trivial ?_
      obtain rfl := Option.some.inj h
      exact Wp.done rfl (by decide) H
theorem s_X11_pupils_fr {M : fM} {r : (Int × fM)} (h : s_X11_pupils M = some r) : fSame s_X11_pupils_mods M r.2 := by
  unfold s_X11_pupils at h
  by_cases c : (M 4 15) = 0
  · replace h := fps c h
    obtain rfl := Option.some.inj h
    exact fs_refl
  · replace h := fng c h
    by_cases c : ¬ (M 4 14) = 0
    · replace h := fps c h
      obtain ⟨y26, hy, h⟩ := fbd h
      have k26 := fs_trans (l := s_X11_pupils_mods) fs_refl (fs_mono (l := s_X4_share_mods) (by decide) (s_X4_share_fr hy))
      obtain rfl := Option.some.inj h
      exact k26
    · replace h := fng c h
      obtain rfl := Option.some.inj h
      exact fs_refl
abbrev s_X12_pupils_mods : List (Nat × Option Nat) := [(122, some 0), (122, some 60), (148, none), (149, none)]
noncomputable def s_X12_pupils_b50 (M : fM) (l1 l2 l3 l4 : Int) : Option ((Int × Int) ⊕ Int) :=
  if l2 ≤ l4 then
    some (.inr l3)
  else
    if fin (l3 * l1) ∧ fin (l4 + 1) then
      some (.inl ((l3 * l1), (l4 + 1)))
    else none
theorem s_X12_pupils_b50_ok {d L : Nat} {M : fM} {l1 l2 l3 l4 : Int} {o5 o6 o7 o8 o9 : Option fV} {r : ((Int × Int) ⊕ Int)} {Q : fO → fH → Prop} (h : s_X12_pupils_b50 M l1 l2 l3 l4 = some r) (hC : ∀ (l3' l4' : Int) (o5' o6' o7' o8' o9' : Option fV), r = .inl (l3', l4') → Wp (d + 1, 305, 50, 0, 0, [some (fA 122), some (fI l1), some (fI l2), some (fI l3'), some (fI l4'), o5', o6', o7', o8', o9'], []) (156, fjl L, M) Q) (hE : ∀ (e : Int) (o4' o5' o6' o7' o8' o9' : Option fV), r = .inr e → Wp (d + 1, 305, 66, 0, 0, [some (fA 122), some (fI l1), some (fI l2), some (fI e), o4', o5', o6', o7', o8', o9'], []) (156, fjl L, M) Q) : Wp (d + 1, 305, 50, 0, 0, [some (fA 122), some (fI l1), some (fI l2), some (fI l3), some (fI l4), o5, o6, o7, o8, o9], []) (156, fjl L, M) Q := by
  unfold s_X12_pupils_b50 at h
  refine Wp.run 2 (f' := (d + 1, 305, 53, 0, 0, [some (fA 122), some (fI l1), some (fI l2), some (fI l3), some (fI l4), _, _, _, _, _], [fI l2, fI l4])) (h' := (156, fjl L, M)) rfl trivial ?_
  refine Wp.br rfl (fun (c : l2 ≤ l4) => ?_) (fun (c : ¬ (l2 ≤ l4)) => ?_)
  · replace h := fps c h
    exact hE _ _ _ _ _ _ _ (Option.some.inj h).symm
  · replace h := fng c h
    obtain ⟨⟨g0, g1⟩, h⟩ := fgd h
    refine Wp.run 6 (f' := (d + 1, 305, 50, 0, 0, [some (fA 122), some (fI l1), some (fI l2), some (fI (fw (l3 * l1))), some (fI (fw (l4 + 1))), _, _, _, _, _], [])) (h' := (156, fjl L, M)) rfl trivial ?_
    rw [fw_id g0, fw_id g1]
    exact hC _ _ _ _ _ _ _ (Option.some.inj h).symm
theorem s_X12_pupils_b50_fr {M : fM} {l1 l2 l3 l4 : Int} {r : ((Int × Int) ⊕ Int)} (h : s_X12_pupils_b50 M l1 l2 l3 l4 = some r) : fSame s_X12_pupils_mods M (Sum.elim (fun _ => M) (fun _ => M) r) := by
  unfold s_X12_pupils_b50 at h
  by_cases c : l2 ≤ l4
  · replace h := fps c h
    obtain rfl := Option.some.inj h
    exact fs_refl
  · replace h := fng c h
    replace h := (fgd h).2
    obtain rfl := Option.some.inj h
    exact fs_refl
noncomputable def s_X12_pupils_l50 (M : fM) (l1 l2 : Int) (s : (Int × Int)) : Option Int := fLp (fun s => s_X12_pupils_b50 M l1 l2 s.1 s.2) s
theorem s_X12_pupils_l50_ok {d L : Nat} {M : fM} {l1 l2 l3 l4 : Int} {o5 o6 o7 o8 o9 : Option fV} {r : Int} {Q : fO → fH → Prop} (h : s_X12_pupils_l50 M l1 l2 (l3, l4) = some r) (hE : ∀ (e : Int) (o4' o5' o6' o7' o8' o9' : Option fV), r = e → Wp (d + 1, 305, 66, 0, 0, [some (fA 122), some (fI l1), some (fI l2), some (fI e), o4', o5', o6', o7', o8', o9'], []) (156, fjl L, M) Q) : Wp (d + 1, 305, 50, 0, 0, [some (fA 122), some (fI l1), some (fI l2), some (fI l3), some (fI l4), o5, o6, o7, o8, o9], []) (156, fjl L, M) Q := by
  refine fLp_wp (W := fun s => ∀ (o5 o6 o7 o8 o9 : Option fV), Wp (d + 1, 305, 50, 0, 0, [some (fA 122), some (fI l1), some (fI l2), some (fI s.1), some (fI s.2), o5, o6, o7, o8, o9], []) (156, fjl L, M) Q) (e := r) ?_ h _ _ _ _ _
  intro s r1 h hC hX o5 o6 o7 o8 o9
  refine s_X12_pupils_b50_ok (d := d) h (fun a0 a1 _ _ _ _ _ e1 => ?_) (fun e u0 u1 u2 u3 u4 u5 e1 => hE e u0 u1 u2 u3 u4 u5 (hX _ e1).symm)
  exact hC _ e1 _ _ _ _ _
noncomputable def s_X12_pupils_b93 (M : fM) (l1 l2 l3 l4 l5 l6 l7 l8 l9 : Int) : Option ((Int × Int × Int × Int × fM) ⊕ (Int × Int × fM)) :=
  if l9 < 0 then
    some (.inr (l7, l8, M))
  else
    if l1 ≠ 0 ∧ (0 ≤ l9 ∧ l9 < 6) then
      if (0 ≤ l9 ∧ l9 < 6) ∧ fin (6 * ((fup M 149 (l9).toNat (frem l6 l1)) 149 (l9).toNat)) ∧ fin (609 + (6 * ((fup M 149 (l9).toNat (frem l6 l1)) 149 (l9).toNat))) ∧ fin ((609 + (6 * ((fup M 149 (l9).toNat (frem l6 l1)) 149 (l9).toNat))) + l9) ∧ (0 ≤ ((609 + (6 * ((fup M 149 (l9).toNat (frem l6 l1)) 149 (l9).toNat))) + l9) ∧ ((609 + (6 * ((fup M 149 (l9).toNat (frem l6 l1)) 149 (l9).toNat))) + l9) < 1290) ∧ fin (l8 + (M 124 ((609 + (6 * ((fup M 149 (l9).toNat (frem l6 l1)) 149 (l9).toNat))) + l9).toNat)) then
        if fin (l9 + (-1)) then
          some (.inl ((fdiv l6 l1), (fior l7 (fshl 1 ((fup M 149 (l9).toNat (frem l6 l1)) 149 (l9).toNat))), (l8 + (M 124 ((609 + (6 * ((fup M 149 (l9).toNat (frem l6 l1)) 149 (l9).toNat))) + l9).toNat)), (l9 + (-1)), (fup M 149 (l9).toNat (frem l6 l1))))
        else none
      else none
    else none
theorem s_X12_pupils_b93_ok {d L : Nat} {M : fM} {l1 l2 l3 l4 l5 l6 l7 l8 l9 : Int} {r : ((Int × Int × Int × Int × fM) ⊕ (Int × Int × fM))} {Q : fO → fH → Prop} (h : s_X12_pupils_b93 M l1 l2 l3 l4 l5 l6 l7 l8 l9 = some r) (hC : ∀ (l6' l7' l8' l9' : Int) (M' : fM), r = .inl (l6', l7', l8', l9', M') → Wp (d + 1, 305, 93, 0, 0, [some (fA 122), some (fI l1), some (fI l2), some (fI l3), some (fI l4), some (fI l5), some (fI l6'), some (fI l7'), some (fI l8'), some (fI l9')], []) (156, fjl L, M') Q) (hE : ∀ (e : (Int × Int × fM)) (o6' o9' : Option fV), r = .inr e → Wp (d + 1, 305, 162, 0, 0, [some (fA 122), some (fI l1), some (fI l2), some (fI l3), some (fI l4), some (fI l5), o6', some (fI e.1), some (fI e.2.1), o9'], []) (156, fjl L, e.2.2) Q) : Wp (d + 1, 305, 93, 0, 0, [some (fA 122), some (fI l1), some (fI l2), some (fI l3), some (fI l4), some (fI l5), some (fI l6), some (fI l7), some (fI l8), some (fI l9)], []) (156, fjl L, M) Q := by
  unfold s_X12_pupils_b93 at h
  refine Wp.run 1 (f' := (d + 1, 305, 95, 0, 0, [some (fA 122), some (fI l1), some (fI l2), some (fI l3), some (fI l4), some (fI l5), some (fI l6), some (fI l7), some (fI l8), some (fI l9)], [fI l9])) (h' := (156, fjl L, M)) rfl trivial ?_
  refine Wp.br rfl (fun (c : l9 < 0) => ?_) (fun (c : ¬ (l9 < 0)) => ?_)
  · replace h := fps c h
    exact hE _ _ _ (Option.some.inj h).symm
  · replace h := fng c h
    obtain ⟨⟨g0, g1⟩, h⟩ := fgd h
    refine Wp.run 20 (P := [l1 ≠ 0, 0 ≤ l9 ∧ l9 < 6, l1 ≠ 0, 0 ≤ l9 ∧ l9 < 6]) (f' := (d + 1, 305, 129, 0, 0, [some (fA 122), some (fI l1), some (fI l2), some (fI l3), some (fI l4), some (fI l5), some (fI (fdiv l6 l1)), some (fI (fior l7 (fshl 1 ((fup M 149 (l9).toNat (frem l6 l1)) 149 (l9).toNat)))), some (fI l8), some (fI l9)], [])) (h' := (156, fjl L, (fup M 149 (l9).toNat (frem l6 l1)))) rfl ?_ ?_
    · exact ⟨g0, g1, g0, g1⟩
    obtain ⟨⟨g0, g1, g2, g3, g4, g5⟩, h⟩ := fgd h
    refine Wp.run 16 (P := [0 ≤ l9 ∧ l9 < 6, 0 ≤ (fw ((fw (609 + (fw (6 * ((fup M 149 (l9).toNat (frem l6 l1)) 149 (l9).toNat))))) + l9)) ∧ (fw ((fw (609 + (fw (6 * ((fup M 149 (l9).toNat (frem l6 l1)) 149 (l9).toNat))))) + l9)) < 1290]) (f' := (d + 1, 305, 156, 0, 0, [some (fA 122), some (fI l1), some (fI l2), some (fI l3), some (fI l4), some (fI l5), some (fI (fdiv l6 l1)), some (fI (fior l7 (fshl 1 ((fup M 149 (l9).toNat (frem l6 l1)) 149 (l9).toNat)))), some (fI (fw (l8 + (M 124 (fw ((fw (609 + (fw (6 * ((fup M 149 (l9).toNat (frem l6 l1)) 149 (l9).toNat))))) + l9)).toNat)))), some (fI l9)], [])) (h' := (156, fjl L, (fup M 149 (l9).toNat (frem l6 l1)))) rfl ?_ ?_
    · rw [fw_id g1, fw_id g2, fw_id g3]; exact ⟨g0, g4⟩
    rw [fw_id g1, fw_id g2, fw_id g3, fw_id g5]
    obtain ⟨g0, h⟩ := fgd h
    refine Wp.run 2 (f' := (d + 1, 305, 93, 0, 0, [some (fA 122), some (fI l1), some (fI l2), some (fI l3), some (fI l4), some (fI l5), some (fI (fdiv l6 l1)), some (fI (fior l7 (fshl 1 ((fup M 149 (l9).toNat (frem l6 l1)) 149 (l9).toNat)))), some (fI (l8 + (M 124 ((609 + (6 * ((fup M 149 (l9).toNat (frem l6 l1)) 149 (l9).toNat))) + l9).toNat))), some (fI (fw (l9 + (-1))))], [])) (h' := (156, fjl L, (fup M 149 (l9).toNat (frem l6 l1)))) rfl trivial ?_
    rw [fw_id g0]
    exact hC _ _ _ _ _ (Option.some.inj h).symm
theorem s_X12_pupils_b93_fr {M : fM} {l1 l2 l3 l4 l5 l6 l7 l8 l9 : Int} {r : ((Int × Int × Int × Int × fM) ⊕ (Int × Int × fM))} (h : s_X12_pupils_b93 M l1 l2 l3 l4 l5 l6 l7 l8 l9 = some r) : fSame s_X12_pupils_mods M (Sum.elim (fun s => s.2.2.2.2) (fun e => e.2.2) r) := by
  unfold s_X12_pupils_b93 at h
  by_cases c : l9 < 0
  · replace h := fps c h
    obtain rfl := Option.some.inj h
    exact fs_refl
  · replace h := fng c h
    replace h := (fgd h).2
    replace h := (fgd h).2
    replace h := (fgd h).2
    obtain rfl := Option.some.inj h
    exact fs_up fs_refl (.inl (by decide))
noncomputable def s_X12_pupils_l93 (l1 l2 l3 l4 l5 : Int) (s : (Int × Int × Int × Int × fM)) : Option (Int × Int × fM) := fLp (fun s => s_X12_pupils_b93 s.2.2.2.2 l1 l2 l3 l4 l5 s.1 s.2.1 s.2.2.1 s.2.2.2.1) s
theorem s_X12_pupils_l93_ok {d L : Nat} {M : fM} {l1 l2 l3 l4 l5 l6 l7 l8 l9 : Int} {r : (Int × Int × fM)} {Q : fO → fH → Prop} (h : s_X12_pupils_l93 l1 l2 l3 l4 l5 (l6, l7, l8, l9, M) = some r) (hE : ∀ (e : (Int × Int × fM)) (o6' o9' : Option fV), r = e → Wp (d + 1, 305, 162, 0, 0, [some (fA 122), some (fI l1), some (fI l2), some (fI l3), some (fI l4), some (fI l5), o6', some (fI e.1), some (fI e.2.1), o9'], []) (156, fjl L, e.2.2) Q) : Wp (d + 1, 305, 93, 0, 0, [some (fA 122), some (fI l1), some (fI l2), some (fI l3), some (fI l4), some (fI l5), some (fI l6), some (fI l7), some (fI l8), some (fI l9)], []) (156, fjl L, M) Q := by
  refine fLp_wp (W := fun s => Wp (d + 1, 305, 93, 0, 0, [some (fA 122), some (fI l1), some (fI l2), some (fI l3), some (fI l4), some (fI l5), some (fI s.1), some (fI s.2.1), some (fI s.2.2.1), some (fI s.2.2.2.1)], []) (156, fjl L, s.2.2.2.2) Q) (e := r) ?_ h
  intro s r1 h hC hX
  refine s_X12_pupils_b93_ok (d := d) h (fun a0 a1 a2 a3 a4 e1 => ?_) (fun e u0 u1 e1 => hE e u0 u1 (hX _ e1).symm)
  exact hC _ e1
theorem s_X12_pupils_l93_fr {M : fM} {l1 l2 l3 l4 l5 l6 l7 l8 l9 : Int} {r : (Int × Int × fM)} (h : s_X12_pupils_l93 l1 l2 l3 l4 l5 (l6, l7, l8, l9, M) = some r) : fSame s_X12_pupils_mods M ((fun e => e.2.2) r) := by
  refine fLp_inv (I := fun s => fSame s_X12_pupils_mods M s.2.2.2.2) (J := fun r => fSame s_X12_pupils_mods M ((fun e => e.2.2) r)) h fs_refl (fun s s1 hs hb => ?_) (fun s e hs hb => ?_)
  · exact fs_trans hs (s_X12_pupils_b93_fr hb)
  · exact fs_trans hs (s_X12_pupils_b93_fr hb)
noncomputable def s_X12_pupils_b188 (M : fM) (l1 l2 l3 l4 l5 l9 : Int) : Option ((Int × fM) ⊕ fM) :=
  if l2 ≤ l9 then
    some (.inr M)
  else
    if (0 ≤ l9 ∧ l9 < 6) ∧ fin (l9 + 1) then
      some (.inl ((l9 + 1), (fup M 148 (l9).toNat (M 149 (l9).toNat))))
    else none
theorem s_X12_pupils_b188_ok {d L : Nat} {M : fM} {l1 l2 l3 l4 l5 l9 : Int} {o6 o7 o8 : Option fV} {r : ((Int × fM) ⊕ fM)} {Q : fO → fH → Prop} (h : s_X12_pupils_b188 M l1 l2 l3 l4 l5 l9 = some r) (hC : ∀ (l9' : Int) (M' : fM) (o6' o7' o8' : Option fV), r = .inl (l9', M') → Wp (d + 1, 305, 188, 0, 0, [some (fA 122), some (fI l1), some (fI l2), some (fI l3), some (fI l4), some (fI l5), o6', o7', o8', some (fI l9')], []) (156, fjl L, M') Q) (hE : ∀ (e : fM) (o6' o7' o8' o9' : Option fV), r = .inr e → Wp (d + 1, 305, 214, 0, 0, [some (fA 122), some (fI l1), some (fI l2), some (fI l3), some (fI l4), some (fI l5), o6', o7', o8', o9'], []) (156, fjl L, e) Q) : Wp (d + 1, 305, 188, 0, 0, [some (fA 122), some (fI l1), some (fI l2), some (fI l3), some (fI l4), some (fI l5), o6, o7, o8, some (fI l9)], []) (156, fjl L, M) Q := by
  unfold s_X12_pupils_b188 at h
  refine Wp.run 2 (f' := (d + 1, 305, 191, 0, 0, [some (fA 122), some (fI l1), some (fI l2), some (fI l3), some (fI l4), some (fI l5), _, _, _, some (fI l9)], [fI l2, fI l9])) (h' := (156, fjl L, M)) rfl trivial ?_
  refine Wp.br rfl (fun (c : l2 ≤ l9) => ?_) (fun (c : ¬ (l2 ≤ l9)) => ?_)
  · replace h := fps c h
    exact hE _ _ _ _ _ (Option.some.inj h).symm
  · replace h := fng c h
    obtain ⟨⟨g0, g1⟩, h⟩ := fgd h
    refine Wp.run 10 (P := [0 ≤ l9 ∧ l9 < 6, 0 ≤ l9 ∧ l9 < 6]) (f' := (d + 1, 305, 188, 0, 0, [some (fA 122), some (fI l1), some (fI l2), some (fI l3), some (fI l4), some (fI l5), _, _, _, some (fI (fw (l9 + 1)))], [])) (h' := (156, fjl L, (fup M 148 (l9).toNat (M 149 (l9).toNat)))) rfl ?_ ?_
    · exact ⟨g0, g0⟩
    rw [fw_id g1]
    exact hC _ _ _ _ _ (Option.some.inj h).symm
theorem s_X12_pupils_b188_fr {M : fM} {l1 l2 l3 l4 l5 l9 : Int} {r : ((Int × fM) ⊕ fM)} (h : s_X12_pupils_b188 M l1 l2 l3 l4 l5 l9 = some r) : fSame s_X12_pupils_mods M (Sum.elim (fun s => s.2) (fun e => e) r) := by
  unfold s_X12_pupils_b188 at h
  by_cases c : l2 ≤ l9
  · replace h := fps c h
    obtain rfl := Option.some.inj h
    exact fs_refl
  · replace h := fng c h
    replace h := (fgd h).2
    obtain rfl := Option.some.inj h
    exact fs_up fs_refl (.inl (by decide))
noncomputable def s_X12_pupils_l188 (l1 l2 l3 l4 l5 : Int) (s : (Int × fM)) : Option fM := fLp (fun s => s_X12_pupils_b188 s.2 l1 l2 l3 l4 l5 s.1) s
theorem s_X12_pupils_l188_ok {d L : Nat} {M : fM} {l1 l2 l3 l4 l5 l9 : Int} {o6 o7 o8 : Option fV} {r : fM} {Q : fO → fH → Prop} (h : s_X12_pupils_l188 l1 l2 l3 l4 l5 (l9, M) = some r) (hE : ∀ (e : fM) (o6' o7' o8' o9' : Option fV), r = e → Wp (d + 1, 305, 214, 0, 0, [some (fA 122), some (fI l1), some (fI l2), some (fI l3), some (fI l4), some (fI l5), o6', o7', o8', o9'], []) (156, fjl L, e) Q) : Wp (d + 1, 305, 188, 0, 0, [some (fA 122), some (fI l1), some (fI l2), some (fI l3), some (fI l4), some (fI l5), o6, o7, o8, some (fI l9)], []) (156, fjl L, M) Q := by
  refine fLp_wp (W := fun s => ∀ (o6 o7 o8 : Option fV), Wp (d + 1, 305, 188, 0, 0, [some (fA 122), some (fI l1), some (fI l2), some (fI l3), some (fI l4), some (fI l5), o6, o7, o8, some (fI s.1)], []) (156, fjl L, s.2) Q) (e := r) ?_ h _ _ _
  intro s r1 h hC hX o6 o7 o8
  refine s_X12_pupils_b188_ok (d := d) h (fun a0 a1 _ _ _ e1 => ?_) (fun e u0 u1 u2 u3 e1 => hE e u0 u1 u2 u3 (hX _ e1).symm)
  exact hC _ e1 _ _ _
theorem s_X12_pupils_l188_fr {M : fM} {l1 l2 l3 l4 l5 l9 : Int} {r : fM} (h : s_X12_pupils_l188 l1 l2 l3 l4 l5 (l9, M) = some r) : fSame s_X12_pupils_mods M ((fun e => e) r) := by
  refine fLp_inv (I := fun s => fSame s_X12_pupils_mods M s.2) (J := fun r => fSame s_X12_pupils_mods M ((fun e => e) r)) h fs_refl (fun s s1 hs hb => ?_) (fun s e hs hb => ?_)
  · exact fs_trans hs (s_X12_pupils_b188_fr hb)
  · exact fs_trans hs (s_X12_pupils_b188_fr hb)
noncomputable def s_X12_pupils_b72 (M : fM) (l1 l2 l3 l4 l5 : Int) : Option ((Int × Int × fM) ⊕ (Int × fM)) :=
  if l3 ≤ l5 then
    some (.inr (l4, M))
  else
    if fin (l2 - 1) then
      (s_X12_pupils_l93 l1 l2 l3 l4 l5 (l5, 0, 0, (l2 - 1), M)).bind fun e93 =>
        (s_X12_bits e93.2.2 e93.1).bind fun y164 =>
          if ¬ y164 = l2 then
            if fin (l5 + 1) then
              some (.inl (l4, (l5 + 1), e93.2.2))
            else none
          else
            if l4 < e93.2.1 then
              (s_X12_pupils_l188 l1 l2 l3 e93.2.1 l5 (0, e93.2.2)).bind fun e188 =>
                if fin (l5 + 1) then
                  some (.inl (e93.2.1, (l5 + 1), e188))
                else none
            else
              if fin (l5 + 1) then
                some (.inl (l4, (l5 + 1), e93.2.2))
              else none
    else none
theorem s_X12_pupils_b72_ok {d L : Nat} {M : fM} {l1 l2 l3 l4 l5 : Int} {o6 o7 o8 o9 : Option fV} {r : ((Int × Int × fM) ⊕ (Int × fM))} {Q : fO → fH → Prop} (h : s_X12_pupils_b72 M l1 l2 l3 l4 l5 = some r) (hC : ∀ (l4' l5' : Int) (M' : fM) (o6' o7' o8' o9' : Option fV), r = .inl (l4', l5', M') → Wp (d + 1, 305, 72, 0, 0, [some (fA 122), some (fI l1), some (fI l2), some (fI l3), some (fI l4'), some (fI l5'), o6', o7', o8', o9'], []) (156, fjl L, M') Q) (hE : ∀ (e : (Int × fM)) (o1' o3' o5' o6' o7' o8' o9' : Option fV), r = .inr e → Wp (d + 1, 305, 220, 0, 0, [some (fA 122), o1', some (fI l2), o3', some (fI e.1), o5', o6', o7', o8', o9'], []) (156, fjl L, e.2) Q) : Wp (d + 1, 305, 72, 0, 0, [some (fA 122), some (fI l1), some (fI l2), some (fI l3), some (fI l4), some (fI l5), o6, o7, o8, o9], []) (156, fjl L, M) Q := by
  unfold s_X12_pupils_b72 at h
  refine Wp.run 2 (f' := (d + 1, 305, 75, 0, 0, [some (fA 122), some (fI l1), some (fI l2), some (fI l3), some (fI l4), some (fI l5), _, _, _, _], [fI l3, fI l5])) (h' := (156, fjl L, M)) rfl trivial ?_
  refine Wp.br rfl (fun (c : l3 ≤ l5) => ?_) (fun (c : ¬ (l3 ≤ l5)) => ?_)
  · replace h := fps c h
    exact hE _ _ _ _ _ _ _ _ (Option.some.inj h).symm
  · replace h := fng c h
    obtain ⟨g0, h⟩ := fgd h
    refine Wp.run 10 (f' := (d + 1, 305, 93, 0, 0, [some (fA 122), some (fI l1), some (fI l2), some (fI l3), some (fI l4), some (fI l5), some (fI l5), some (fI 0), some (fI 0), some (fI (fw (l2 - 1)))], [])) (h' := (156, fjl L, M)) rfl trivial ?_
    rw [fw_id g0]
    obtain ⟨e93, hy, h⟩ := fbd h
    refine s_X12_pupils_l93_ok hy (fun x u6 u9 ex => ?_)
    cases ex
    show Wp (d + 1, 305, 162, 0, 0, [some (fA 122), some (fI l1), some (fI l2), some (fI l3), some (fI l4), some (fI l5), u6, some (fI e93.1), some (fI e93.2.1), u9], []) (156, fjl L, e93.2.2) Q
    refine Wp.run 1 (f' := (d + 1, 305, 164, 0, 0, [some (fA 122), some (fI l1), some (fI l2), some (fI l3), some (fI l4), some (fI l5), _, _, some (fI e93.2.1), _], [fI e93.1])) (h' := (156, fjl L, e93.2.2)) rfl trivial ?_
    obtain ⟨y164, hy, h⟩ := fbd h
    refine Wp.call rfl (by decide) (s_X12_bits_ok (d := d + 0) hy ?_)
    show Wp (d + 1, 305, 167, 0, 0, [some (fA 122), some (fI l1), some (fI l2), some (fI l3), some (fI l4), some (fI l5), _, _, some (fI e93.2.1), _], [fI y164]) (156, fjl L, e93.2.2) Q
    refine Wp.run 1 (f' := (d + 1, 305, 168, 0, 0, [some (fA 122), some (fI l1), some (fI l2), some (fI l3), some (fI l4), some (fI l5), _, _, some (fI e93.2.1), _], [fI l2, fI y164])) (h' := (156, fjl L, e93.2.2)) rfl trivial ?_
    refine Wp.br rfl (fun (c : ¬ y164 = l2) => ?_) (fun (c : ¬ (¬ y164 = l2)) => ?_)
    · replace h := fps c h
      obtain ⟨g0, h⟩ := fgd h
      refine Wp.run 2 (f' := (d + 1, 305, 72, 0, 0, [some (fA 122), some (fI l1), some (fI l2), some (fI l3), some (fI l4), some (fI (fw (l5 + 1))), _, _, _, _], [])) (h' := (156, fjl L, e93.2.2)) rfl trivial ?_
      rw [fw_id g0]
      exact hC _ _ _ _ _ _ _ (Option.some.inj h).symm
    · replace h := fng c h
      refine Wp.run 2 (f' := (d + 1, 305, 175, 0, 0, [some (fA 122), some (fI l1), some (fI l2), some (fI l3), some (fI l4), some (fI l5), _, _, some (fI e93.2.1), _], [fI l4, fI e93.2.1])) (h' := (156, fjl L, e93.2.2)) rfl trivial ?_
      refine Wp.br rfl (fun (c : l4 < e93.2.1) => ?_) (fun (c : ¬ (l4 < e93.2.1)) => ?_)
      · replace h := fps c h
        refine Wp.run 4 (f' := (d + 1, 305, 188, 0, 0, [some (fA 122), some (fI l1), some (fI l2), some (fI l3), some (fI e93.2.1), some (fI l5), _, _, _, some (fI 0)], [])) (h' := (156, fjl L, e93.2.2)) rfl trivial ?_
        obtain ⟨e188, hy, h⟩ := fbd h
        refine s_X12_pupils_l188_ok hy (fun x u6 u7 u8 u9 ex => ?_)
        cases ex
        show Wp (d + 1, 305, 214, 0, 0, [some (fA 122), some (fI l1), some (fI l2), some (fI l3), some (fI e93.2.1), some (fI l5), u6, u7, u8, u9], []) (156, fjl L, e188) Q
        obtain ⟨g0, h⟩ := fgd h
        refine Wp.run 2 (f' := (d + 1, 305, 72, 0, 0, [some (fA 122), some (fI l1), some (fI l2), some (fI l3), some (fI e93.2.1), some (fI (fw (l5 + 1))), _, _, _, _], [])) (h' := (156, fjl L, e188)) rfl trivial ?_
        rw [fw_id g0]
        exact hC _ _ _ _ _ _ _ (Option.some.inj h).symm
      · replace h := fng c h
        obtain ⟨g0, h⟩ := fgd h
        refine Wp.run 3 (f' := (d + 1, 305, 72, 0, 0, [some (fA 122), some (fI l1), some (fI l2), some (fI l3), some (fI l4), some (fI (fw (l5 + 1))), _, _, _, _], [])) (h' := (156, fjl L, e93.2.2)) rfl trivial ?_
        rw [fw_id g0]
        exact hC _ _ _ _ _ _ _ (Option.some.inj h).symm
theorem s_X12_pupils_b72_fr {M : fM} {l1 l2 l3 l4 l5 : Int} {r : ((Int × Int × fM) ⊕ (Int × fM))} (h : s_X12_pupils_b72 M l1 l2 l3 l4 l5 = some r) : fSame s_X12_pupils_mods M (Sum.elim (fun s => s.2.2) (fun e => e.2) r) := by
  unfold s_X12_pupils_b72 at h
  by_cases c : l3 ≤ l5
  · replace h := fps c h
    obtain rfl := Option.some.inj h
    exact fs_refl
  · replace h := fng c h
    replace h := (fgd h).2
    obtain ⟨e93, hy, h⟩ := fbd h
    have k93 := fs_trans (l := s_X12_pupils_mods) fs_refl (s_X12_pupils_l93_fr hy)
    obtain ⟨y164, hy, h⟩ := fbd h
    by_cases c : ¬ y164 = l2
    · replace h := fps c h
      replace h := (fgd h).2
      obtain rfl := Option.some.inj h
      exact k93
    · replace h := fng c h
      by_cases c : l4 < e93.2.1
      · replace h := fps c h
        obtain ⟨e188, hy, h⟩ := fbd h
        have k188 := fs_trans (l := s_X12_pupils_mods) k93 (s_X12_pupils_l188_fr hy)
        replace h := (fgd h).2
        obtain rfl := Option.some.inj h
        exact k188
      · replace h := fng c h
        replace h := (fgd h).2
        obtain rfl := Option.some.inj h
        exact k93
noncomputable def s_X12_pupils_l72 (l1 l2 l3 : Int) (s : (Int × Int × fM)) : Option (Int × fM) := fLp (fun s => s_X12_pupils_b72 s.2.2 l1 l2 l3 s.1 s.2.1) s
theorem s_X12_pupils_l72_ok {d L : Nat} {M : fM} {l1 l2 l3 l4 l5 : Int} {o6 o7 o8 o9 : Option fV} {r : (Int × fM)} {Q : fO → fH → Prop} (h : s_X12_pupils_l72 l1 l2 l3 (l4, l5, M) = some r) (hE : ∀ (e : (Int × fM)) (o1' o3' o5' o6' o7' o8' o9' : Option fV), r = e → Wp (d + 1, 305, 220, 0, 0, [some (fA 122), o1', some (fI l2), o3', some (fI e.1), o5', o6', o7', o8', o9'], []) (156, fjl L, e.2) Q) : Wp (d + 1, 305, 72, 0, 0, [some (fA 122), some (fI l1), some (fI l2), some (fI l3), some (fI l4), some (fI l5), o6, o7, o8, o9], []) (156, fjl L, M) Q := by
  refine fLp_wp (W := fun s => ∀ (o6 o7 o8 o9 : Option fV), Wp (d + 1, 305, 72, 0, 0, [some (fA 122), some (fI l1), some (fI l2), some (fI l3), some (fI s.1), some (fI s.2.1), o6, o7, o8, o9], []) (156, fjl L, s.2.2) Q) (e := r) ?_ h _ _ _ _
  intro s r1 h hC hX o6 o7 o8 o9
  refine s_X12_pupils_b72_ok (d := d) h (fun a0 a1 a2 _ _ _ _ e1 => ?_) (fun e u0 u1 u2 u3 u4 u5 u6 e1 => hE e u0 u1 u2 u3 u4 u5 u6 (hX _ e1).symm)
  exact hC _ e1 _ _ _ _
theorem s_X12_pupils_l72_fr {M : fM} {l1 l2 l3 l4 l5 : Int} {r : (Int × fM)} (h : s_X12_pupils_l72 l1 l2 l3 (l4, l5, M) = some r) : fSame s_X12_pupils_mods M ((fun e => e.2) r) := by
  refine fLp_inv (I := fun s => fSame s_X12_pupils_mods M s.2.2) (J := fun r => fSame s_X12_pupils_mods M ((fun e => e.2) r)) h fs_refl (fun s s1 hs hb => ?_) (fun s e hs hb => ?_)
  · exact fs_trans hs (s_X12_pupils_b72_fr hb)
  · exact fs_trans hs (s_X12_pupils_b72_fr hb)
noncomputable def s_X12_pupils_j38 (M : fM) (l1 t0 : Int) : Option (Int × fM) :=
  if ¬ t0 = 0 then
    (s_X12_pupils_l50 M l1 t0 (1, 0)).bind fun e50 =>
      (s_X12_pupils_l72 l1 t0 e50 ((-1), 0, M)).bind fun e72 =>
        some (e72.1, (fup e72.2 122 60 t0))
  else
    some ((-1), M)
theorem s_X12_pupils_j38_ok {d L : Nat} {M : fM} {l1 t0 : Int} {o2 o3 o4 o5 o6 o7 o8 o9 : Option fV} {r : (Int × fM)} {Q : fO → fH → Prop} (h : s_X12_pupils_j38 M l1 t0 = some r) (H : Q (oI r.1) (156, fjl L, r.2)) : Wp (d + 1, 305, 38, 0, 0, [some (fA 122), some (fI l1), o2, o3, o4, o5, o6, o7, o8, o9], [fI t0]) (156, fjl L, M) Q := by
  unfold s_X12_pupils_j38 at h
  refine Wp.run 2 (f' := (d + 1, 305, 40, 0, 0, [some (fA 122), some (fI l1), some (fI t0), _, _, _, _, _, _, _], [fI t0])) (h' := (156, fjl L, M)) rfl trivial ?_
  refine Wp.br rfl (fun (c : ¬ t0 = 0) => ?_) (fun (c : ¬ (¬ t0 = 0)) => ?_)
  · replace h := fps c h
    refine Wp.run 4 (f' := (d + 1, 305, 50, 0, 0, [some (fA 122), some (fI l1), some (fI t0), some (fI 1), some (fI 0), _, _, _, _, _], [])) (h' := (156, fjl L, M)) rfl trivial ?_
    obtain ⟨e50, hy, h⟩ := fbd h
    refine s_X12_pupils_l50_ok hy (fun x u4 u5 u6 u7 u8 u9 ex => ?_)
    cases ex
    show Wp (d + 1, 305, 66, 0, 0, [some (fA 122), some (fI l1), some (fI t0), some (fI e50), u4, u5, u6, u7, u8, u9], []) (156, fjl L, M) Q
    refine Wp.run 4 (f' := (d + 1, 305, 72, 0, 0, [some (fA 122), some (fI l1), some (fI t0), some (fI e50), some (fI (-1)), some (fI 0), _, _, _, _], [])) (h' := (156, fjl L, M)) rfl trivial ?_
    obtain ⟨e72, hy, h⟩ := fbd h
    refine s_X12_pupils_l72_ok hy (fun x u1 u3 u5 u6 u7 u8 u9 ex => ?_)
    cases ex
    show Wp (d + 1, 305, 220, 0, 0, [some (fA 122), u1, some (fI t0), u3, some (fI e72.1), u5, u6, u7, u8, u9], []) (156, fjl L, e72.2) Q
    refine Wp.run 4 (f' := (d + 1, 305, 227, 0, 0, [_, _, _, _, _, _, _, _, _, _], [fI e72.1])) (h' := (156, fjl L, (fup e72.2 122 60 t0))) rfl trivial ?_
    obtain rfl := Option.some.inj h
    exact Wp.done rfl (by decide) H
  · replace h := fng c h
    refine Wp.run 1 (f' := (d + 1, 305, 44, 0, 0, [_, _, _, _, _, _, _, _, _, _], [fI (-1)])) (h' := (156, fjl L, M)) rfl trivial ?_
    obtain rfl := Option.some.inj h
    exact Wp.done rfl (by decide) H
theorem s_X12_pupils_j38_fr {M : fM} {l1 t0 : Int} {r : (Int × fM)} (h : s_X12_pupils_j38 M l1 t0 = some r) : fSame s_X12_pupils_mods M r.2 := by
  unfold s_X12_pupils_j38 at h
  by_cases c : ¬ t0 = 0
  · replace h := fps c h
    obtain ⟨e50, hy, h⟩ := fbd h
    obtain ⟨e72, hy, h⟩ := fbd h
    have k72 := fs_trans (l := s_X12_pupils_mods) fs_refl (s_X12_pupils_l72_fr hy)
    obtain rfl := Option.some.inj h
    exact fs_up k72 (.inr (by decide))
  · replace h := fng c h
    obtain rfl := Option.some.inj h
    exact fs_refl
noncomputable def s_X12_pupils (M : fM) : Option (Int × fM) :=
  if (M 124 173) ≤ (M 124 174) then
    s_X12_pupils_j38 (fup M 122 0 0) (M 124 173) (M 124 173)
  else
    s_X12_pupils_j38 (fup M 122 0 0) (M 124 173) (M 124 174)
theorem s_X12_pupils_ok {d L : Nat} {M : fM} {r : (Int × fM)} {Q : fO → fH → Prop} (h : s_X12_pupils M = some r) (H : Q (oI r.1) (156, fjl L, r.2)) : Wp (d + 1, 305, 0, 0, 0, [some (fA 122), none, none, none, none, none, none, none, none, none], []) (156, fjl L, M) Q := by
  unfold s_X12_pupils at h
  refine Wp.run 13 (P := [(0 : Int) ≤ 173 ∧ (173 : Int) < 1290, (0 : Int) ≤ 174 ∧ (174 : Int) < 1290]) (f' := (d + 1, 305, 23, 0, 0, [some (fA 122), some (fI (M 124 173)), _, _, _, _, _, _, _, _], [fI (M 124 173), fI (M 124 174)])) (h' := (156, fjl L, (fup M 122 0 0))) rfl ?_ ?_
  · exact ⟨(by decide : (0 : Int) ≤ 173 ∧ (173 : Int) < 1290), (by decide : (0 : Int) ≤ 174 ∧ (174 : Int) < 1290)⟩
  refine Wp.br rfl (fun (c : (M 124 173) ≤ (M 124 174)) => ?_) (fun (c : ¬ ((M 124 173) ≤ (M 124 174))) => ?_)
  · replace h := fps c h
    refine Wp.run 1 (f' := (d + 1, 305, 38, 0, 0, [some (fA 122), some (fI (M 124 173)), _, _, _, _, _, _, _, _], [fI (M 124 173)])) (h' := (156, fjl L, (fup M 122 0 0))) rfl trivial ?_
    exact s_X12_pupils_j38_ok h H
  · replace h := fng c h
    refine Wp.run 5 (P := [(0 : Int) ≤ 174 ∧ (174 : Int) < 1290]) (f' := (d + 1, 305, 38, 0, 0, [some (fA 122), some (fI (M 124 173)), _, _, _, _, _, _, _, _], [fI (M 124 174)])) (h' := (156, fjl L, (fup M 122 0 0))) rfl ?_ ?_
    · exact (by decide : (0 : Int) ≤ 174 ∧ (174 : Int) < 1290)
    exact s_X12_pupils_j38_ok h H
theorem s_X12_pupils_fr {M : fM} {r : (Int × fM)} (h : s_X12_pupils M = some r) : fSame s_X12_pupils_mods M r.2 := by
  unfold s_X12_pupils at h
  by_cases c : (M 124 173) ≤ (M 124 174)
  · replace h := fps c h
    exact fs_trans (fs_up fs_refl (.inr (by decide))) (s_X12_pupils_j38_fr h)
  · replace h := fng c h
    exact fs_trans (fs_up fs_refl (.inr (by decide))) (s_X12_pupils_j38_fr h)
noncomputable def s_X11_pupilOf (M : fM) (l1 : Int) : Option Int :=
  (s_X11_isWithin M l1 (M 70 3)).bind fun y8 =>
    if y8 = 0 then
      some (-1)
    else
      if (0 ≤ l1 ∧ l1 < 6) then
        some (M 72 (l1).toNat)
      else none
theorem s_X11_pupilOf_ok {d L : Nat} {M : fM} {l1 : Int} {r : Int} {Q : fO → fH → Prop} (h : s_X11_pupilOf M l1 = some r) (H : Q (oI r) (156, fjl L, M)) : Wp (d + 1, 186, 0, 0, 0, [some (fA 0), some (fI l1)], []) (156, fjl L, M) Q := by
  unfold s_X11_pupilOf at h
  refine Wp.run 4 (f' := (d + 1, 186, 8, 0, 0, [some (fA 0), some (fI l1)], [fI (M 70 3), fI l1])) (h' := (156, fjl L, M)) rfl trivial ?_
  obtain ⟨y8, hy, h⟩ := fbd h
  refine Wp.call rfl (by decide) (s_X11_isWithin_ok (d := d + 0) hy ?_)
  show Wp (d + 1, 186, 11, 0, 0, [some (fA 0), some (fI l1)], [fI y8]) (156, fjl L, M) Q
  refine Wp.br rfl (fun (c : y8 = 0) => ?_) (fun (c : ¬ (y8 = 0)) => ?_)
  · replace h := fps c h
    refine Wp.run 1 (f' := (d + 1, 186, 27, 0, 0, [_, _], [fI (-1)])) (h' := (156, fjl L, M)) rfl trivial ?_
    obtain rfl := Option.some.inj h
    exact Wp.done rfl (by decide) H
  · replace h := fng c h
    obtain ⟨g0, h⟩ := fgd h
    refine Wp.run 6 (P := [0 ≤ l1 ∧ l1 < 6]) (f' := (d + 1, 186, 27, 0, 0, [_, _], [fI (M 72 (l1).toNat)])) (h' := (156, fjl L, M)) rfl ?_ ?_
    · exact g0
    obtain rfl := Option.some.inj h
    exact Wp.done rfl (by decide) H
