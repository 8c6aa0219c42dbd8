/-! ===== functions of the methods (printed by genfun.py) ===== -/
noncomputable def s_X2_placeOf_41_b3 (M : fM) (l1 l2 l4 : Int) : Option (Int ⊕ (Unit ⊕ Int)) :=
  if l1 ≤ l4 then
    some (.inr (.inl ()))
  else
    if (0 ≤ l4 ∧ l4 < 6) then
      if ¬ (M 41 (l4).toNat) = l2 then
        if fin (l4 + 1) then
          some (.inl (l4 + 1))
        else none
      else
        some (.inr (.inr l4))
    else none
theorem s_X2_placeOf_41_b3_ok {d L : Nat} {M : fM} {l1 l2 l4 : Int} {r : (Int ⊕ (Unit ⊕ Int))} {Q : fO → fH → Prop} (h : s_X2_placeOf_41_b3 M l1 l2 l4 = some r) (hC : ∀ (l4' : Int), r = .inl l4' → Wp (d + 0, 41, 3, 0, 0, [some (fA 41), some (fI l1), some (fJ l2), none, some (fI l4')], []) (156, fjl L, M) Q) (hE : ∀ (e : Unit) (o0' o1' o2' o3' o4' : Option fV), r = .inr (.inl e) → Wp (d + 0, 41, 27, 0, 0, [o0', o1', o2', o3', o4'], []) (156, fjl L, M) Q) (hR : ∀ (v : Int), r = .inr (.inr v) → Q (oI v) (156, fjl L, M)) : Wp (d + 0, 41, 3, 0, 0, [some (fA 41), some (fI l1), some (fJ l2), none, some (fI l4)], []) (156, fjl L, M) Q := by
  unfold s_X2_placeOf_41_b3 at h
  refine Wp.run 2 (f' := (d + 0, 41, 6, 0, 0, [some (fA 41), some (fI l1), some (fJ l2), none, some (fI l4)], [fI l1, fI l4])) (h' := (156, fjl L, M)) rfl trivial ?_
  refine Wp.br rfl (fun (c : l1 ≤ l4) => ?_) (fun (c : ¬ (l1 ≤ l4)) => ?_)
  · replace h := fps c h
    exact hE _ _ _ _ _ _ (Option.some.inj h).symm
  · replace h := fng c h
    obtain ⟨g0, h⟩ := fgd h
    refine Wp.run 5 (P := [0 ≤ l4 ∧ l4 < 6]) (f' := (d + 0, 41, 15, 0, 0, [some (fA 41), some (fI l1), some (fJ l2), none, some (fI l4)], [fI (fcm (M 41 (l4).toNat) l2)])) (h' := (156, fjl L, M)) rfl ?_ ?_
    · exact g0
    refine Wp.br rfl (fun (c : ¬ (fcm (M 41 (l4).toNat) l2) = 0) => ?_) (fun (c : ¬ (¬ (fcm (M 41 (l4).toNat) l2) = 0)) => ?_)
    · replace c := (fcm_ne _ _).mp c
      replace h := fps c h
      obtain ⟨g0, h⟩ := fgd h
      refine Wp.run 2 (f' := (d + 0, 41, 3, 0, 0, [some (fA 41), some (fI l1), some (fJ l2), none, some (fI (fw (l4 + 1)))], [])) (h' := (156, fjl L, M)) rfl trivial ?_
      rw [fw_id g0]
      exact hC _ (Option.some.inj h).symm
    · replace c := fun z => c ((fcm_ne _ _).mpr z)
      replace h := fng c h
      refine Wp.run 1 (f' := (d + 0, 41, 20, 0, 0, [_, _, _, _, _], [fI l4])) (h' := (156, fjl L, M)) rfl trivial ?_
      exact Wp.done rfl (by decide) (hR _ (Option.some.inj h).symm)
noncomputable def s_X2_placeOf_41_l3 (M : fM) (l1 l2 : Int) (s : Int) : Option (Unit ⊕ Int) := fLp (fun s => s_X2_placeOf_41_b3 M l1 l2 s) s
theorem s_X2_placeOf_41_l3_ok {d L : Nat} {M : fM} {l1 l2 l4 : Int} {r : (Unit ⊕ Int)} {Q : fO → fH → Prop} (h : s_X2_placeOf_41_l3 M l1 l2 l4 = some r) (hE : ∀ (e : Unit) (o0' o1' o2' o3' o4' : Option fV), r = .inl e → Wp (d + 0, 41, 27, 0, 0, [o0', o1', o2', o3', o4'], []) (156, fjl L, M) Q) (hR : ∀ (v : Int), r = .inr v → Q (oI v) (156, fjl L, M)) : Wp (d + 0, 41, 3, 0, 0, [some (fA 41), some (fI l1), some (fJ l2), none, some (fI l4)], []) (156, fjl L, M) Q := by
  refine fLp_wp (W := fun s => Wp (d + 0, 41, 3, 0, 0, [some (fA 41), some (fI l1), some (fJ l2), none, some (fI s)], []) (156, fjl L, M) Q) (e := r) ?_ h
  intro s r1 h hC hX
  refine s_X2_placeOf_41_b3_ok (d := d) h (fun a0 e1 => ?_) (fun e u0 u1 u2 u3 u4 e1 => hE e u0 u1 u2 u3 u4 (hX _ e1).symm) (fun v e1 => hR v (hX _ e1).symm)
  exact hC _ e1
noncomputable def s_X2_placeOf_41 (M : fM) (l1 l2 : Int) : Option Int :=
  (s_X2_placeOf_41_l3 M l1 l2 0).bind fun e3 =>
    Sum.elim (fun x3 =>
      some (-1))
      (fun v3 => some v3) e3
theorem s_X2_placeOf_41_ok {d L : Nat} {M : fM} {l1 l2 : Int} {r : Int} {Q : fO → fH → Prop} (h : s_X2_placeOf_41 M l1 l2 = some r) (H : Q (oI r) (156, fjl L, M)) : Wp (d + 0, 41, 0, 0, 0, [some (fA 41), some (fI l1), some (fJ l2), none, none], []) (156, fjl L, M) Q := by
  unfold s_X2_placeOf_41 at h
  refine Wp.run 2 (f' := (d + 0, 41, 3, 0, 0, [some (fA 41), some (fI l1), some (fJ l2), none, some (fI 0)], [])) (h' := (156, fjl L, M)) rfl trivial ?_
  obtain ⟨e3, hy, h⟩ := fbd h
  refine s_X2_placeOf_41_l3_ok hy (fun x3 u0 u1 u2 u3 u4 ex => ?_) (fun v3 ex => ?_)
  · subst ex
    replace h := fsl h
    show Wp (d + 0, 41, 27, 0, 0, [u0, u1, u2, u3, u4], []) (156, fjl L, M) Q
    refine Wp.run 1 (f' := (d + 0, 41, 28, 0, 0, [_, _, _, _, _], [fI (-1)])) (h' := (156, fjl L, M)) rfl trivial ?_
    obtain rfl := Option.some.inj h
    exact Wp.done rfl (by decide) H
  · subst ex
    replace h := fsr h
    obtain rfl := Option.some.inj h
    exact H
noncomputable def s_X2_pupilNamed_28 (M : fM) (l1 : Int) : Option Int :=
  (s_X2_placeOf_41 M (M 28 15) l1).bind fun y9 =>
    some y9
theorem s_X2_pupilNamed_28_ok {d L : Nat} {M : fM} {l1 : Int} {r : Int} {Q : fO → fH → Prop} (h : s_X2_pupilNamed_28 M l1 = some r) (H : Q (oI r) (156, fjl L, M)) : Wp (d + 1, 39, 0, 0, 0, [some (fA 28), some (fJ l1), none], []) (156, fjl L, M) Q := by
  unfold s_X2_pupilNamed_28 at h
  refine Wp.run 5 (f' := (d + 1, 39, 9, 0, 0, [_, _, _], [fJ l1, fI (M 28 15), fA 41])) (h' := (156, fjl L, M)) rfl trivial ?_
  obtain ⟨y9, hy, h⟩ := fbd h
  refine Wp.call rfl (by decide) (s_X2_placeOf_41_ok (d := d + 0) hy ?_)
  show Wp (d + 1, 39, 12, 0, 0, [_, _, _], [fI y9]) (156, fjl L, M) Q
  obtain rfl := Option.some.inj h
  exact Wp.done rfl (by decide) H
abbrev s_X3_readTeach_mods : List (Nat × Option Nat) := [(1, some 4), (1, some 5), (1, some 6), (1, some 7), (1, some 8), (1, some 9), (1, some 10), (38, none)]
noncomputable def s_X3_readTeach_j54 (M : fM) (l1 l2 : Int) : Option ((Unit ⊕ Unit) × fM) :=
  if fin (l1 * 6) ∧ fin ((l1 * 6) + l2) then
    (s_X10_takeNumber M 0 99).bind fun y74 =>
      fel y74.1
        (fun w74 =>
          if (0 ≤ ((l1 * 6) + l2) ∧ ((l1 * 6) + l2) < 36) then
            (s_X10_take (fup y74.2 38 ((l1 * 6) + l2).toNat w74)).bind fun y82 =>
              some (.inl (), y82.2)
          else none)
        (some (.inr (), y74.2))
  else none
theorem s_X3_readTeach_j54_ok {d L : Nat} {M : fM} {l1 l2 : Int} {r : ((Unit ⊕ Unit) × fM)} {Q : fO → fH → Prop} (h : s_X3_readTeach_j54 M l1 l2 = some r) (H : Q (oT oV 1 r.1) (156, fjl L, r.2)) : Wp (d + 10, 62, 54, 0, 0, [some (fA 27), some (fI l1), some (fI l2)], []) (156, fjl L, M) Q := by
  unfold s_X3_readTeach_j54 at h
  obtain ⟨⟨g0, g1⟩, h⟩ := fgd h
  refine Wp.run 12 (f' := (d + 10, 62, 74, 0, 0, [some (fA 27), _, _], [fI 99, fI 0, fA 1, fI (fw ((fw (l1 * 6)) + l2)), fA 38])) (h' := (156, fjl L, M)) rfl trivial ?_
  rw [fw_id g0, fw_id g1]
  obtain ⟨y74, hy, h⟩ := fbd h
  refine Wp.call rfl (by decide) (s_X10_takeNumber_ok (d := d + 0) hy ?_)
  obtain ⟨w74, ew, h⟩ | ⟨ew, h⟩ := fel_of h
  · rw [ew]
    show Wp (d + 10, 62, 77, 0, 0, [some (fA 27), _, _], [fI w74, fI ((l1 * 6) + l2), fA 38]) (156, fjl L, y74.2) Q
    obtain ⟨g0, h⟩ := fgd h
    refine Wp.run 3 (P := [0 ≤ ((l1 * 6) + l2) ∧ ((l1 * 6) + l2) < 36]) (f' := (d + 10, 62, 82, 0, 0, [_, _, _], [fA 1])) (h' := (156, fjl L, (fup y74.2 38 ((l1 * 6) + l2).toNat w74))) rfl ?_ ?_
    · exact g0
    obtain ⟨y82, hy, h⟩ := fbd h
    refine Wp.call rfl (by decide) (s_X10_take_ok (d := d + 7) hy ?_)
    show Wp (d + 10, 62, 85, 0, 0, [_, _, _], []) (156, fjl L, y82.2) Q
    obtain rfl := Option.some.inj h
    exact Wp.done rfl (by decide) H
  · rw [ew]
    obtain rfl := Option.some.inj h
    exact ⟨⟨rfl, rfl⟩, H⟩
theorem s_X3_readTeach_j54_fr {M : fM} {l1 l2 : Int} {r : ((Unit ⊕ Unit) × fM)} (h : s_X3_readTeach_j54 M l1 l2 = some r) : fSame s_X3_readTeach_mods M r.2 := by
  unfold s_X3_readTeach_j54 at h
  replace h := (fgd h).2
  obtain ⟨y74, hy, h⟩ := fbd h
  have k74 := fs_trans (l := s_X3_readTeach_mods) fs_refl (fs_mono (l := s_X10_takeNumber_mods) (by decide) (s_X10_takeNumber_fr hy))
  obtain ⟨w74, ew, h⟩ | ⟨ew, h⟩ := fel_of h
  · replace h := (fgd h).2
    obtain ⟨y82, hy, h⟩ := fbd h
    have k82 := fs_trans (l := s_X3_readTeach_mods) (fs_up k74 (.inl (by decide))) (fs_mono (l := s_X10_take_mods) (by decide) (s_X10_take_fr hy))
    obtain rfl := Option.some.inj h
    exact k82
  · obtain rfl := Option.some.inj h
    exact k74
noncomputable def s_X3_readTeach_j27 (M : fM) (l1 : Int) : Option ((Unit ⊕ Unit) × fM) :=
  (s_X10_takeName M).bind fun y35 =>
    fel y35.1
      (fun w35 =>
        (s_X2_pupilNamed_28 y35.2 w35).bind fun y38 =>
          if 0 ≤ y38 then
            s_X3_readTeach_j54 y35.2 l1 y38
          else
            (s_X10_fail y35.2 3).bind fun y51 =>
              fel y51.1
                (fun w51 =>
                  s_X3_readTeach_j54 y51.2 l1 y38)
                (some (.inr (), y51.2)))
      (some (.inr (), y35.2))
theorem s_X3_readTeach_j27_ok {d L : Nat} {M : fM} {l1 : Int} {o2 : Option fV} {r : ((Unit ⊕ Unit) × fM)} {Q : fO → fH → Prop} (h : s_X3_readTeach_j27 M l1 = some r) (H : Q (oT oV 1 r.1) (156, fjl L, r.2)) : Wp (d + 10, 62, 27, 0, 0, [some (fA 27), some (fI l1), o2], []) (156, fjl L, M) Q := by
  unfold s_X3_readTeach_j27 at h
  refine Wp.run 4 (f' := (d + 10, 62, 35, 0, 0, [some (fA 27), some (fI l1), _], [fA 1, fA 28])) (h' := (156, fjl L, M)) rfl trivial ?_
  obtain ⟨y35, hy, h⟩ := fbd h
  refine Wp.call rfl (by decide) (s_X10_takeName_ok (d := d + 1) hy ?_)
  obtain ⟨w35, ew, h⟩ | ⟨ew, h⟩ := fel_of h
  · rw [ew]
    show Wp (d + 10, 62, 38, 0, 0, [some (fA 27), some (fI l1), _], [fJ w35, fA 28]) (156, fjl L, y35.2) Q
    obtain ⟨y38, hy, h⟩ := fbd h
    refine Wp.call rfl (by decide) (s_X2_pupilNamed_28_ok (d := d + 8) hy ?_)
    show Wp (d + 10, 62, 41, 0, 0, [some (fA 27), some (fI l1), _], [fI y38]) (156, fjl L, y35.2) Q
    refine Wp.run 2 (f' := (d + 10, 62, 43, 0, 0, [some (fA 27), some (fI l1), some (fI y38)], [fI y38])) (h' := (156, fjl L, y35.2)) rfl trivial ?_
    refine Wp.br rfl (fun (c : 0 ≤ y38) => ?_) (fun (c : ¬ (0 ≤ y38)) => ?_)
    · replace h := fps c h
      exact s_X3_readTeach_j54_ok h H
    · replace h := fng c h
      refine Wp.run 3 (f' := (d + 10, 62, 51, 0, 0, [some (fA 27), some (fI l1), some (fI y38)], [fI 3, fA 1])) (h' := (156, fjl L, y35.2)) rfl trivial ?_
      obtain ⟨y51, hy, h⟩ := fbd h
      refine Wp.call rfl (by decide) (s_X10_fail_ok (d := d + 2) hy ?_)
      obtain ⟨w51, ew, h⟩ | ⟨ew, h⟩ := fel_of h
      · rw [ew]
        show Wp (d + 10, 62, 54, 0, 0, [some (fA 27), some (fI l1), some (fI y38)], []) (156, fjl L, y51.2) Q
        exact s_X3_readTeach_j54_ok h H
      · rw [ew]
        obtain rfl := Option.some.inj h
        exact ⟨⟨rfl, rfl⟩, H⟩
  · rw [ew]
    obtain rfl := Option.some.inj h
    exact ⟨⟨rfl, rfl⟩, H⟩
theorem s_X3_readTeach_j27_fr {M : fM} {l1 : Int} {r : ((Unit ⊕ Unit) × fM)} (h : s_X3_readTeach_j27 M l1 = some r) : fSame s_X3_readTeach_mods M r.2 := by
  unfold s_X3_readTeach_j27 at h
  obtain ⟨y35, hy, h⟩ := fbd h
  have k35 := fs_trans (l := s_X3_readTeach_mods) fs_refl (fs_mono (l := s_X10_takeName_mods) (by decide) (s_X10_takeName_fr hy))
  obtain ⟨w35, ew, h⟩ | ⟨ew, h⟩ := fel_of h
  · obtain ⟨y38, hy, h⟩ := fbd h
    by_cases c : 0 ≤ y38
    · replace h := fps c h
      exact fs_trans k35 (s_X3_readTeach_j54_fr h)
    · replace h := fng c h
      obtain ⟨y51, hy, h⟩ := fbd h
      have k51 := fs_trans (l := s_X3_readTeach_mods) k35 (fs_mono (l := s_X10_fail_mods) (by decide) (s_X10_fail_fr hy))
      obtain ⟨w51, ew, h⟩ | ⟨ew, h⟩ := fel_of h
      · exact fs_trans k51 (s_X3_readTeach_j54_fr h)
      · obtain rfl := Option.some.inj h
        exact k51
  · obtain rfl := Option.some.inj h
    exact k35
noncomputable def s_X3_readTeach (M : fM) : Option ((Unit ⊕ Unit) × fM) :=
  (s_X10_takeName M).bind fun y8 =>
    fel y8.1
      (fun w8 =>
        (s_X2_tunerNamed_28 y8.2 w8).bind fun y11 =>
          if 0 ≤ y11 then
            s_X3_readTeach_j27 y8.2 y11
          else
            (s_X10_fail y8.2 3).bind fun y24 =>
              fel y24.1
                (fun w24 =>
                  s_X3_readTeach_j27 y24.2 y11)
                (some (.inr (), y24.2)))
      (some (.inr (), y8.2))
theorem s_X3_readTeach_ok {d L : Nat} {M : fM} {r : ((Unit ⊕ Unit) × fM)} {Q : fO → fH → Prop} (h : s_X3_readTeach M = some r) (H : Q (oT oV 1 r.1) (156, fjl L, r.2)) : Wp (d + 10, 62, 0, 0, 0, [some (fA 27), none, none], []) (156, fjl L, M) Q := by
  unfold s_X3_readTeach at h
  refine Wp.run 4 (f' := (d + 10, 62, 8, 0, 0, [some (fA 27), _, _], [fA 1, fA 28])) (h' := (156, fjl L, M)) rfl trivial ?_
  obtain ⟨y8, hy, h⟩ := fbd h
  refine Wp.call rfl (by decide) (s_X10_takeName_ok (d := d + 1) hy ?_)
  obtain ⟨w8, ew, h⟩ | ⟨ew, h⟩ := fel_of h
  · rw [ew]
    show Wp (d + 10, 62, 11, 0, 0, [some (fA 27), _, _], [fJ w8, fA 28]) (156, fjl L, y8.2) Q
    obtain ⟨y11, hy, h⟩ := fbd h
    refine Wp.call rfl (by decide) (s_X2_tunerNamed_28_ok (d := d + 8) hy ?_)
    show Wp (d + 10, 62, 14, 0, 0, [some (fA 27), _, _], [fI y11]) (156, fjl L, y8.2) Q
    refine Wp.run 2 (f' := (d + 10, 62, 16, 0, 0, [some (fA 27), some (fI y11), _], [fI y11])) (h' := (156, fjl L, y8.2)) rfl trivial ?_
    refine Wp.br rfl (fun (c : 0 ≤ y11) => ?_) (fun (c : ¬ (0 ≤ y11)) => ?_)
    · replace h := fps c h
      exact s_X3_readTeach_j27_ok h H
    · replace h := fng c h
      refine Wp.run 3 (f' := (d + 10, 62, 24, 0, 0, [some (fA 27), some (fI y11), _], [fI 3, fA 1])) (h' := (156, fjl L, y8.2)) rfl trivial ?_
      obtain ⟨y24, hy, h⟩ := fbd h
      refine Wp.call rfl (by decide) (s_X10_fail_ok (d := d + 2) hy ?_)
      obtain ⟨w24, ew, h⟩ | ⟨ew, h⟩ := fel_of h
      · rw [ew]
        show Wp (d + 10, 62, 27, 0, 0, [some (fA 27), some (fI y11), _], []) (156, fjl L, y24.2) Q
        exact s_X3_readTeach_j27_ok h H
      · rw [ew]
        obtain rfl := Option.some.inj h
        exact ⟨⟨rfl, rfl⟩, H⟩
  · rw [ew]
    obtain rfl := Option.some.inj h
    exact ⟨⟨rfl, rfl⟩, H⟩
theorem s_X3_readTeach_fr {M : fM} {r : ((Unit ⊕ Unit) × fM)} (h : s_X3_readTeach M = some r) : fSame s_X3_readTeach_mods M r.2 := by
  unfold s_X3_readTeach at h
  obtain ⟨y8, hy, h⟩ := fbd h
  have k8 := fs_trans (l := s_X3_readTeach_mods) fs_refl (fs_mono (l := s_X10_takeName_mods) (by decide) (s_X10_takeName_fr hy))
  obtain ⟨w8, ew, h⟩ | ⟨ew, h⟩ := fel_of h
  · obtain ⟨y11, hy, h⟩ := fbd h
    by_cases c : 0 ≤ y11
    · replace h := fps c h
      exact fs_trans k8 (s_X3_readTeach_j27_fr h)
    · replace h := fng c h
      obtain ⟨y24, hy, h⟩ := fbd h
      have k24 := fs_trans (l := s_X3_readTeach_mods) k8 (fs_mono (l := s_X10_fail_mods) (by decide) (s_X10_fail_fr hy))
      obtain ⟨w24, ew, h⟩ | ⟨ew, h⟩ := fel_of h
      · exact fs_trans k24 (s_X3_readTeach_j27_fr h)
      · obtain rfl := Option.some.inj h
        exact k24
  · obtain rfl := Option.some.inj h
    exact k8
noncomputable def s_X2_placeOf_39_b3 (M : fM) (l1 l2 l4 : Int) : Option (Int ⊕ (Unit ⊕ Int)) :=
  if l1 ≤ l4 then
    some (.inr (.inl ()))
  else
    if (0 ≤ l4 ∧ l4 < 16) then
      if ¬ (M 39 (l4).toNat) = l2 then
        if fin (l4 + 1) then
          some (.inl (l4 + 1))
        else none
      else
        some (.inr (.inr l4))
    else none
theorem s_X2_placeOf_39_b3_ok {d L : Nat} {M : fM} {l1 l2 l4 : Int} {r : (Int ⊕ (Unit ⊕ Int))} {Q : fO → fH → Prop} (h : s_X2_placeOf_39_b3 M l1 l2 l4 = some r) (hC : ∀ (l4' : Int), r = .inl l4' → Wp (d + 0, 41, 3, 0, 0, [some (fA 39), some (fI l1), some (fJ l2), none, some (fI l4')], []) (156, fjl L, M) Q) (hE : ∀ (e : Unit) (o0' o1' o2' o3' o4' : Option fV), r = .inr (.inl e) → Wp (d + 0, 41, 27, 0, 0, [o0', o1', o2', o3', o4'], []) (156, fjl L, M) Q) (hR : ∀ (v : Int), r = .inr (.inr v) → Q (oI v) (156, fjl L, M)) : Wp (d + 0, 41, 3, 0, 0, [some (fA 39), some (fI l1), some (fJ l2), none, some (fI l4)], []) (156, fjl L, M) Q := by
  unfold s_X2_placeOf_39_b3 at h
  refine Wp.run 2 (f' := (d + 0, 41, 6, 0, 0, [some (fA 39), some (fI l1), some (fJ l2), none, some (fI l4)], [fI l1, fI l4])) (h' := (156, fjl L, M)) rfl trivial ?_
  refine Wp.br rfl (fun (c : l1 ≤ l4) => ?_) (fun (c : ¬ (l1 ≤ l4)) => ?_)
  · replace h := fps c h
    exact hE _ _ _ _ _ _ (Option.some.inj h).symm
  · replace h := fng c h
    obtain ⟨g0, h⟩ := fgd h
    refine Wp.run 5 (P := [0 ≤ l4 ∧ l4 < 16]) (f' := (d + 0, 41, 15, 0, 0, [some (fA 39), some (fI l1), some (fJ l2), none, some (fI l4)], [fI (fcm (M 39 (l4).toNat) l2)])) (h' := (156, fjl L, M)) rfl ?_ ?_
    · exact g0
    refine Wp.br rfl (fun (c : ¬ (fcm (M 39 (l4).toNat) l2) = 0) => ?_) (fun (c : ¬ (¬ (fcm (M 39 (l4).toNat) l2) = 0)) => ?_)
    · replace c := (fcm_ne _ _).mp c
      replace h := fps c h
      obtain ⟨g0, h⟩ := fgd h
      refine Wp.run 2 (f' := (d + 0, 41, 3, 0, 0, [some (fA 39), some (fI l1), some (fJ l2), none, some (fI (fw (l4 + 1)))], [])) (h' := (156, fjl L, M)) rfl trivial ?_
      rw [fw_id g0]
      exact hC _ (Option.some.inj h).symm
    · replace c := fun z => c ((fcm_ne _ _).mpr z)
      replace h := fng c h
      refine Wp.run 1 (f' := (d + 0, 41, 20, 0, 0, [_, _, _, _, _], [fI l4])) (h' := (156, fjl L, M)) rfl trivial ?_
      exact Wp.done rfl (by decide) (hR _ (Option.some.inj h).symm)
noncomputable def s_X2_placeOf_39_l3 (M : fM) (l1 l2 : Int) (s : Int) : Option (Unit ⊕ Int) := fLp (fun s => s_X2_placeOf_39_b3 M l1 l2 s) s
theorem s_X2_placeOf_39_l3_ok {d L : Nat} {M : fM} {l1 l2 l4 : Int} {r : (Unit ⊕ Int)} {Q : fO → fH → Prop} (h : s_X2_placeOf_39_l3 M l1 l2 l4 = some r) (hE : ∀ (e : Unit) (o0' o1' o2' o3' o4' : Option fV), r = .inl e → Wp (d + 0, 41, 27, 0, 0, [o0', o1', o2', o3', o4'], []) (156, fjl L, M) Q) (hR : ∀ (v : Int), r = .inr v → Q (oI v) (156, fjl L, M)) : Wp (d + 0, 41, 3, 0, 0, [some (fA 39), some (fI l1), some (fJ l2), none, some (fI l4)], []) (156, fjl L, M) Q := by
  refine fLp_wp (W := fun s => Wp (d + 0, 41, 3, 0, 0, [some (fA 39), some (fI l1), some (fJ l2), none, some (fI s)], []) (156, fjl L, M) Q) (e := r) ?_ h
  intro s r1 h hC hX
  refine s_X2_placeOf_39_b3_ok (d := d) h (fun a0 e1 => ?_) (fun e u0 u1 u2 u3 u4 e1 => hE e u0 u1 u2 u3 u4 (hX _ e1).symm) (fun v e1 => hR v (hX _ e1).symm)
  exact hC _ e1
noncomputable def s_X2_placeOf_39 (M : fM) (l1 l2 : Int) : Option Int :=
  (s_X2_placeOf_39_l3 M l1 l2 0).bind fun e3 =>
    Sum.elim (fun x3 =>
      some (-1))
      (fun v3 => some v3) e3
theorem s_X2_placeOf_39_ok {d L : Nat} {M : fM} {l1 l2 : Int} {r : Int} {Q : fO → fH → Prop} (h : s_X2_placeOf_39 M l1 l2 = some r) (H : Q (oI r) (156, fjl L, M)) : Wp (d + 0, 41, 0, 0, 0, [some (fA 39), some (fI l1), some (fJ l2), none, none], []) (156, fjl L, M) Q := by
  unfold s_X2_placeOf_39 at h
  refine Wp.run 2 (f' := (d + 0, 41, 3, 0, 0, [some (fA 39), some (fI l1), some (fJ l2), none, some (fI 0)], [])) (h' := (156, fjl L, M)) rfl trivial ?_
  obtain ⟨e3, hy, h⟩ := fbd h
  refine s_X2_placeOf_39_l3_ok hy (fun x3 u0 u1 u2 u3 u4 ex => ?_) (fun v3 ex => ?_)
  · subst ex
    replace h := fsl h
    show Wp (d + 0, 41, 27, 0, 0, [u0, u1, u2, u3, u4], []) (156, fjl L, M) Q
    refine Wp.run 1 (f' := (d + 0, 41, 28, 0, 0, [_, _, _, _, _], [fI (-1)])) (h' := (156, fjl L, M)) rfl trivial ?_
    obtain rfl := Option.some.inj h
    exact Wp.done rfl (by decide) H
  · subst ex
    replace h := fsr h
    obtain rfl := Option.some.inj h
    exact H
noncomputable def s_X2_pianoNamed_28 (M : fM) (l1 : Int) : Option Int :=
  (s_X2_placeOf_39 M (M 28 13) l1).bind fun y9 =>
    some y9
theorem s_X2_pianoNamed_28_ok {d L : Nat} {M : fM} {l1 : Int} {r : Int} {Q : fO → fH → Prop} (h : s_X2_pianoNamed_28 M l1 = some r) (H : Q (oI r) (156, fjl L, M)) : Wp (d + 1, 37, 0, 0, 0, [some (fA 28), some (fJ l1), none], []) (156, fjl L, M) Q := by
  unfold s_X2_pianoNamed_28 at h
  refine Wp.run 5 (f' := (d + 1, 37, 9, 0, 0, [_, _, _], [fJ l1, fI (M 28 13), fA 39])) (h' := (156, fjl L, M)) rfl trivial ?_
  obtain ⟨y9, hy, h⟩ := fbd h
  refine Wp.call rfl (by decide) (s_X2_placeOf_39_ok (d := d + 0) hy ?_)
  show Wp (d + 1, 37, 12, 0, 0, [_, _, _], [fI y9]) (156, fjl L, M) Q
  obtain rfl := Option.some.inj h
  exact Wp.done rfl (by decide) H
noncomputable def s_X2_isNameTold_28 (M : fM) (l1 : Int) : Option Int :=
  (s_X2_pianoNamed_28 M l1).bind fun y2 =>
    if 0 ≤ y2 then
      some 1
    else
      (s_X2_tunerNamed_28 M l1).bind fun y10 =>
        if 0 ≤ y10 then
          some 1
        else
          (s_X2_pupilNamed_28 M l1).bind fun y18 =>
            if y18 < 0 then
              some 0
            else
              some 1
theorem s_X2_isNameTold_28_ok {d L : Nat} {M : fM} {l1 : Int} {r : Int} {Q : fO → fH → Prop} (h : s_X2_isNameTold_28 M l1 = some r) (H : Q (oI r) (156, fjl L, M)) : Wp (d + 2, 40, 0, 0, 0, [some (fA 28), some (fJ l1), none], []) (156, fjl L, M) Q := by
  unfold s_X2_isNameTold_28 at h
  refine Wp.run 2 (f' := (d + 2, 40, 2, 0, 0, [some (fA 28), some (fJ l1), none], [fJ l1, fA 28])) (h' := (156, fjl L, M)) rfl trivial ?_
  obtain ⟨y2, hy, h⟩ := fbd h
  refine Wp.call rfl (by decide) (s_X2_pianoNamed_28_ok (d := d + 0) hy ?_)
  show Wp (d + 2, 40, 5, 0, 0, [some (fA 28), some (fJ l1), none], [fI y2]) (156, fjl L, M) Q
  refine Wp.br rfl (fun (c : 0 ≤ y2) => ?_) (fun (c : ¬ (0 ≤ y2)) => ?_)
  · replace h := fps c h
    refine Wp.run 2 (f' := (d + 2, 40, 29, 0, 0, [_, _, _], [fI 1])) (h' := (156, fjl L, M)) rfl trivial ?_
    obtain rfl := Option.some.inj h
    exact Wp.done rfl (by decide) H
  · replace h := fng c h
    refine Wp.run 2 (f' := (d + 2, 40, 10, 0, 0, [some (fA 28), some (fJ l1), none], [fJ l1, fA 28])) (h' := (156, fjl L, M)) rfl trivial ?_
    obtain ⟨y10, hy, h⟩ := fbd h
    refine Wp.call rfl (by decide) (s_X2_tunerNamed_28_ok (d := d + 0) hy ?_)
    show Wp (d + 2, 40, 13, 0, 0, [some (fA 28), some (fJ l1), none], [fI y10]) (156, fjl L, M) Q
    refine Wp.br rfl (fun (c : 0 ≤ y10) => ?_) (fun (c : ¬ (0 ≤ y10)) => ?_)
    · replace h := fps c h
      refine Wp.run 2 (f' := (d + 2, 40, 29, 0, 0, [_, _, _], [fI 1])) (h' := (156, fjl L, M)) rfl trivial ?_
      obtain rfl := Option.some.inj h
      exact Wp.done rfl (by decide) H
    · replace h := fng c h
      refine Wp.run 2 (f' := (d + 2, 40, 18, 0, 0, [_, _, _], [fJ l1, fA 28])) (h' := (156, fjl L, M)) rfl trivial ?_
      obtain ⟨y18, hy, h⟩ := fbd h
      refine Wp.call rfl (by decide) (s_X2_pupilNamed_28_ok (d := d + 0) hy ?_)
      show Wp (d + 2, 40, 21, 0, 0, [_, _, _], [fI y18]) (156, fjl L, M) Q
      refine Wp.br rfl (fun (c : y18 < 0) => ?_) (fun (c : ¬ (y18 < 0)) => ?_)
      · replace h := fps c h
        refine Wp.run 1 (f' := (d + 2, 40, 29, 0, 0, [_, _, _], [fI 0])) (h' := (156, fjl L, M)) rfl trivial ?_
        obtain rfl := Option.some.inj h
        exact Wp.done rfl (by decide) H
      · replace h := fng c h
        refine Wp.run 2 (f' := (d + 2, 40, 29, 0, 0, [_, _, _], [fI 1])) (h' := (156, fjl L, M)) rfl trivial ?_
        obtain rfl := Option.some.inj h
        exact Wp.done rfl (by decide) H
abbrev s_X3_takeNewName_mods : List (Nat × Option Nat) := [(1, some 4), (1, some 5), (1, some 6), (1, some 7), (1, some 8), (1, some 9), (1, some 10)]
noncomputable def s_X3_takeNewName (M : fM) : Option ((Int ⊕ Unit) × fM) :=
  (s_X10_takeName M).bind fun y4 =>
    fel y4.1
      (fun w4 =>
        (s_X2_isNameTold_28 y4.2 w4).bind fun y13 =>
          if y13 = 0 then
            some (.inl w4, y4.2)
          else
            (s_X10_fail y4.2 3).bind fun y24 =>
              fel y24.1
                (fun w24 =>
                  some (.inl w4, y24.2))
                (some (.inr (), y24.2)))
      (some (.inr (), y4.2))
theorem s_X3_takeNewName_ok {d L : Nat} {M : fM} {r : ((Int ⊕ Unit) × fM)} {Q : fO → fH → Prop} (h : s_X3_takeNewName M = some r) (H : Q (oT oJ 1 r.1) (156, fjl L, r.2)) : Wp (d + 9, 57, 0, 0, 0, [some (fA 27), none, none], []) (156, fjl L, M) Q := by
  unfold s_X3_takeNewName at h
  refine Wp.run 2 (f' := (d + 9, 57, 4, 0, 0, [some (fA 27), _, _], [fA 1])) (h' := (156, fjl L, M)) rfl trivial ?_
  obtain ⟨y4, hy, h⟩ := fbd h
  refine Wp.call rfl (by decide) (s_X10_takeName_ok (d := d + 0) hy ?_)
  obtain ⟨w4, ew, h⟩ | ⟨ew, h⟩ := fel_of h
  · rw [ew]
    show Wp (d + 9, 57, 7, 0, 0, [some (fA 27), _, _], [fJ w4]) (156, fjl L, y4.2) Q
    refine Wp.run 4 (f' := (d + 9, 57, 13, 0, 0, [some (fA 27), some (fJ w4), none], [fJ w4, fA 28])) (h' := (156, fjl L, y4.2)) rfl trivial ?_
    obtain ⟨y13, hy, h⟩ := fbd h
    refine Wp.call rfl (by decide) (s_X2_isNameTold_28_ok (d := d + 6) hy ?_)
    show Wp (d + 9, 57, 16, 0, 0, [some (fA 27), some (fJ w4), none], [fI y13]) (156, fjl L, y4.2) Q
    refine Wp.br rfl (fun (c : y13 = 0) => ?_) (fun (c : ¬ (y13 = 0)) => ?_)
    · replace h := fps c h
      refine Wp.run 1 (f' := (d + 9, 57, 28, 0, 0, [_, _, _], [fJ w4])) (h' := (156, fjl L, y4.2)) rfl trivial ?_
      obtain rfl := Option.some.inj h
      exact Wp.done rfl (by decide) H
    · replace h := fng c h
      refine Wp.run 3 (f' := (d + 9, 57, 24, 0, 0, [_, some (fJ w4), none], [fI 3, fA 1])) (h' := (156, fjl L, y4.2)) rfl trivial ?_
      obtain ⟨y24, hy, h⟩ := fbd h
      refine Wp.call rfl (by decide) (s_X10_fail_ok (d := d + 1) hy ?_)
      obtain ⟨w24, ew, h⟩ | ⟨ew, h⟩ := fel_of h
      · rw [ew]
        show Wp (d + 9, 57, 27, 0, 0, [_, some (fJ w4), none], []) (156, fjl L, y24.2) Q
        refine Wp.run 1 (f' := (d + 9, 57, 28, 0, 0, [_, _, _], [fJ w4])) (h' := (156, fjl L, y24.2)) rfl trivial ?_
        obtain rfl := Option.some.inj h
        exact Wp.done rfl (by decide) H
      · rw [ew]
        obtain rfl := Option.some.inj h
        exact ⟨⟨rfl, rfl⟩, H⟩
  · rw [ew]
    obtain rfl := Option.some.inj h
    exact ⟨⟨rfl, rfl⟩, H⟩
theorem s_X3_takeNewName_fr {M : fM} {r : ((Int ⊕ Unit) × fM)} (h : s_X3_takeNewName M = some r) : fSame s_X3_takeNewName_mods M r.2 := by
  unfold s_X3_takeNewName at h
  obtain ⟨y4, hy, h⟩ := fbd h
  have k4 := fs_trans (l := s_X3_takeNewName_mods) fs_refl (fs_mono (l := s_X10_takeName_mods) (by decide) (s_X10_takeName_fr hy))
  obtain ⟨w4, ew, h⟩ | ⟨ew, h⟩ := fel_of h
  · obtain ⟨y13, hy, h⟩ := fbd h
    by_cases c : y13 = 0
    · replace h := fps c h
      obtain rfl := Option.some.inj h
      exact k4
    · replace h := fng c h
      obtain ⟨y24, hy, h⟩ := fbd h
      have k24 := fs_trans (l := s_X3_takeNewName_mods) k4 (fs_mono (l := s_X10_fail_mods) (by decide) (s_X10_fail_fr hy))
      obtain ⟨w24, ew, h⟩ | ⟨ew, h⟩ := fel_of h
      · obtain rfl := Option.some.inj h
        exact k24
      · obtain rfl := Option.some.inj h
        exact k24
  · obtain rfl := Option.some.inj h
    exact k4
abbrev s_X10_takeSigned_mods : List (Nat × Option Nat) := [(1, some 4), (1, some 5), (1, some 6), (1, some 7), (1, some 8), (1, some 9), (1, some 10)]
noncomputable def s_X10_takeSigned_j26 (M : fM) (l1 l2 : Int) : Option ((Int ⊕ Unit) × fM) :=
  (s_X10_numberHere M 0 l1).bind fun y29 =>
    fel y29.1
      (fun w29 =>
        if l2 = 0 then
          some (.inl w29, y29.2)
        else
          if fin (-w29) then
            some (.inl (-w29), y29.2)
          else none)
      (some (.inr (), y29.2))
theorem s_X10_takeSigned_j26_ok {d L : Nat} {M : fM} {l1 l2 : Int} {o3 : Option fV} {r : ((Int ⊕ Unit) × fM)} {Q : fO → fH → Prop} (h : s_X10_takeSigned_j26 M l1 l2 = some r) (H : Q (oT oI 1 r.1) (156, fjl L, r.2)) : Wp (d + 9, 143, 26, 0, 0, [some (fA 1), some (fI l1), some (fI l2), o3], []) (156, fjl L, M) Q := by
  unfold s_X10_takeSigned_j26 at h
  refine Wp.run 3 (f' := (d + 9, 143, 29, 0, 0, [_, _, some (fI l2), _], [fI l1, fI 0, fA 1])) (h' := (156, fjl L, M)) rfl trivial ?_
  obtain ⟨y29, hy, h⟩ := fbd h
  refine Wp.call rfl (by decide) (s_X10_numberHere_ok (d := d + 0) hy ?_)
  obtain ⟨w29, ew, h⟩ | ⟨ew, h⟩ := fel_of h
  · rw [ew]
    show Wp (d + 9, 143, 32, 0, 0, [_, _, some (fI l2), _], [fI w29]) (156, fjl L, y29.2) Q
    refine Wp.run 2 (f' := (d + 9, 143, 34, 0, 0, [_, _, _, some (fI w29)], [fI l2])) (h' := (156, fjl L, y29.2)) rfl trivial ?_
    refine Wp.br rfl (fun (c : l2 = 0) => ?_) (fun (c : ¬ (l2 = 0)) => ?_)
    · replace h := fps c h
      refine Wp.run 1 (f' := (d + 9, 143, 43, 0, 0, [_, _, _, _], [fI w29])) (h' := (156, fjl L, y29.2)) rfl trivial ?_
      obtain rfl := Option.some.inj h
      exact Wp.done rfl (by decide) H
    · replace h := fng c h
      obtain ⟨g0, h⟩ := fgd h
      refine Wp.run 3 (f' := (d + 9, 143, 43, 0, 0, [_, _, _, _], [fI (fw (-w29))])) (h' := (156, fjl L, y29.2)) rfl trivial ?_
      rw [fw_id g0]
      obtain rfl := Option.some.inj h
      exact Wp.done rfl (by decide) H
  · rw [ew]
    obtain rfl := Option.some.inj h
    exact ⟨⟨rfl, rfl⟩, H⟩
theorem s_X10_takeSigned_j26_fr {M : fM} {l1 l2 : Int} {r : ((Int ⊕ Unit) × fM)} (h : s_X10_takeSigned_j26 M l1 l2 = some r) : fSame s_X10_takeSigned_mods M r.2 := by
  unfold s_X10_takeSigned_j26 at h
  obtain ⟨y29, hy, h⟩ := fbd h
  have k29 := fs_trans (l := s_X10_takeSigned_mods) fs_refl (fs_mono (l := s_X10_numberHere_mods) (by decide) (s_X10_numberHere_fr hy))
  obtain ⟨w29, ew, h⟩ | ⟨ew, h⟩ := fel_of h
  · by_cases c : l2 = 0
    · replace h := fps c h
      obtain rfl := Option.some.inj h
      exact k29
    · replace h := fng c h
      replace h := (fgd h).2
      obtain rfl := Option.some.inj h
      exact k29
  · obtain rfl := Option.some.inj h
    exact k29
noncomputable def s_X10_takeSigned_j17 (M : fM) (l1 t0 : Int) : Option ((Int ⊕ Unit) × fM) :=
  if t0 = 0 then
    s_X10_takeSigned_j26 M l1 t0
  else
    (s_X10_take M).bind fun y23 =>
      s_X10_takeSigned_j26 y23.2 l1 t0
theorem s_X10_takeSigned_j17_ok {d L : Nat} {M : fM} {l1 t0 : Int} {o2 o3 : Option fV} {r : ((Int ⊕ Unit) × fM)} {Q : fO → fH → Prop} (h : s_X10_takeSigned_j17 M l1 t0 = some r) (H : Q (oT oI 1 r.1) (156, fjl L, r.2)) : Wp (d + 9, 143, 17, 0, 0, [some (fA 1), some (fI l1), o2, o3], [fI t0]) (156, fjl L, M) Q := by
  unfold s_X10_takeSigned_j17 at h
  refine Wp.run 2 (f' := (d + 9, 143, 19, 0, 0, [some (fA 1), some (fI l1), some (fI t0), _], [fI t0])) (h' := (156, fjl L, M)) rfl trivial ?_
  refine Wp.br rfl (fun (c : t0 = 0) => ?_) (fun (c : ¬ (t0 = 0)) => ?_)
  · replace h := fps c h
    exact s_X10_takeSigned_j26_ok h H
  · replace h := fng c h
    refine Wp.run 1 (f' := (d + 9, 143, 23, 0, 0, [some (fA 1), some (fI l1), some (fI t0), _], [fA 1])) (h' := (156, fjl L, M)) rfl trivial ?_
    obtain ⟨y23, hy, h⟩ := fbd h
    refine Wp.call rfl (by decide) (s_X10_take_ok (d := d + 6) hy ?_)
    show Wp (d + 9, 143, 26, 0, 0, [some (fA 1), some (fI l1), some (fI t0), _], []) (156, fjl L, y23.2) Q
    exact s_X10_takeSigned_j26_ok h H
theorem s_X10_takeSigned_j17_fr {M : fM} {l1 t0 : Int} {r : ((Int ⊕ Unit) × fM)} (h : s_X10_takeSigned_j17 M l1 t0 = some r) : fSame s_X10_takeSigned_mods M r.2 := by
  unfold s_X10_takeSigned_j17 at h
  by_cases c : t0 = 0
  · replace h := fps c h
    exact fs_trans fs_refl (s_X10_takeSigned_j26_fr h)
  · replace h := fng c h
    obtain ⟨y23, hy, h⟩ := fbd h
    have k23 := fs_trans (l := s_X10_takeSigned_mods) fs_refl (fs_mono (l := s_X10_take_mods) (by decide) (s_X10_take_fr hy))
    exact fs_trans k23 (s_X10_takeSigned_j26_fr h)
noncomputable def s_X10_takeSigned (M : fM) (l1 : Int) : Option ((Int ⊕ Unit) × fM) :=
  (s_X10_take M).bind fun y1 =>
    if ¬ (y1.2 1 6) = 5 then
      s_X10_takeSigned_j17 y1.2 l1 0
    else
      s_X10_takeSigned_j17 y1.2 l1 1
theorem s_X10_takeSigned_ok {d L : Nat} {M : fM} {l1 : Int} {r : ((Int ⊕ Unit) × fM)} {Q : fO → fH → Prop} (h : s_X10_takeSigned M l1 = some r) (H : Q (oT oI 1 r.1) (156, fjl L, r.2)) : Wp (d + 9, 143, 0, 0, 0, [some (fA 1), some (fI l1), none, none], []) (156, fjl L, M) Q := by
  unfold s_X10_takeSigned at h
  refine Wp.run 1 (f' := (d + 9, 143, 1, 0, 0, [some (fA 1), some (fI l1), _, _], [fA 1])) (h' := (156, fjl L, M)) rfl trivial ?_
  obtain ⟨y1, hy, h⟩ := fbd h
  refine Wp.call rfl (by decide) (s_X10_take_ok (d := d + 6) hy ?_)
  show Wp (d + 9, 143, 4, 0, 0, [some (fA 1), some (fI l1), _, _], []) (156, fjl L, y1.2) Q
  refine Wp.run 3 (f' := (d + 9, 143, 9, 0, 0, [some (fA 1), some (fI l1), _, _], [fI 5, fI (y1.2 1 6)])) (h' := (156, fjl L, y1.2)) rfl trivial ?_
  refine Wp.br rfl (fun (c : ¬ (y1.2 1 6) = 5) => ?_) (fun (c : ¬ (¬ (y1.2 1 6) = 5)) => ?_)
  · replace h := fps c h
    refine Wp.run 1 (f' := (d + 9, 143, 17, 0, 0, [some (fA 1), some (fI l1), _, _], [fI 0])) (h' := (156, fjl L, y1.2)) rfl trivial ?_
    exact s_X10_takeSigned_j17_ok h H
  · replace h := fng c h
    refine Wp.run 2 (f' := (d + 9, 143, 17, 0, 0, [some (fA 1), some (fI l1), _, _], [fI 1])) (h' := (156, fjl L, y1.2)) rfl trivial ?_
    exact s_X10_takeSigned_j17_ok h H
theorem s_X10_takeSigned_fr {M : fM} {l1 : Int} {r : ((Int ⊕ Unit) × fM)} (h : s_X10_takeSigned M l1 = some r) : fSame s_X10_takeSigned_mods M r.2 := by
  unfold s_X10_takeSigned at h
  obtain ⟨y1, hy, h⟩ := fbd h
  have k1 := fs_trans (l := s_X10_takeSigned_mods) fs_refl (fs_mono (l := s_X10_take_mods) (by decide) (s_X10_take_fr hy))
  by_cases c : ¬ (y1.2 1 6) = 5
  · replace h := fps c h
    exact fs_trans k1 (s_X10_takeSigned_j17_fr h)
  · replace h := fng c h
    exact fs_trans k1 (s_X10_takeSigned_j17_fr h)
abbrev s_X3_readTuner_mods : List (Nat × Option Nat) := [(1, some 4), (1, some 5), (1, some 6), (1, some 7), (1, some 8), (1, some 9), (1, some 10), (28, some 14), (37, none), (40, none)]
noncomputable def s_X3_readTuner (M : fM) (l1 : Int) : Option ((Unit ⊕ Unit) × fM) :=
  if (0 ≤ (M 28 14) ∧ (M 28 14) < 6) ∧ fin ((M 28 14) + 1) ∧ fin ((M 28 14) * 3) then
    (s_X10_takeNumber (fup (fup M 40 (M 28 14).toNat l1) 28 14 ((M 28 14) + 1)) 0 99).bind fun y48 =>
      fel y48.1
        (fun w48 =>
          if (0 ≤ ((M 28 14) * 3) ∧ ((M 28 14) * 3) < 18) ∧ fin ((M 28 14) * 3) ∧ fin (((M 28 14) * 3) + 1) then
            (s_X10_takeNumber (fup y48.2 37 ((M 28 14) * 3).toNat w48) 0 99).bind fun y71 =>
              fel y71.1
                (fun w71 =>
                  if (0 ≤ (((M 28 14) * 3) + 1) ∧ (((M 28 14) * 3) + 1) < 18) ∧ fin ((M 28 14) * 3) ∧ fin (((M 28 14) * 3) + 2) ∧ (0 ≤ (((M 28 14) * 3) + 2) ∧ (((M 28 14) * 3) + 2) < 18) then
                    (s_X10_take (fup (fup y71.2 37 (((M 28 14) * 3) + 1).toNat w71) 37 (((M 28 14) * 3) + 2).toNat 0)).bind fun y93 =>
                      (s_X10_keywordHere y93.2).bind fun y100 =>
                        if ¬ y100 = 13 then
                          some (.inl (), y93.2)
                        else
                          if fin ((M 28 14) * 3) ∧ fin (((M 28 14) * 3) + 2) then
                            (s_X10_takeSigned y93.2 99).bind fun y126 =>
                              fel y126.1
                                (fun w126 =>
                                  if (0 ≤ (((M 28 14) * 3) + 2) ∧ (((M 28 14) * 3) + 2) < 18) then
                                    (s_X10_take (fup y126.2 37 (((M 28 14) * 3) + 2).toNat w126)).bind fun y134 =>
                                      some (.inl (), y134.2)
                                  else none)
                                (some (.inr (), y126.2))
                          else none
                  else none)
                (some (.inr (), y71.2))
          else none)
        (some (.inr (), y48.2))
  else none
theorem s_X3_readTuner_ok {d L : Nat} {M : fM} {l1 : Int} {r : ((Unit ⊕ Unit) × fM)} {Q : fO → fH → Prop} (h : s_X3_readTuner M l1 = some r) (H : Q (oT oV 1 r.1) (156, fjl L, r.2)) : Wp (d + 10, 61, 0, 0, 0, [some (fA 27), some (fJ l1), none, none], []) (156, fjl L, M) Q := by
  unfold s_X3_readTuner at h
  obtain ⟨⟨g0, g1, g2⟩, h⟩ := fgd h
  refine Wp.run 27 (P := [0 ≤ (M 28 14) ∧ (M 28 14) < 6]) (f' := (d + 10, 61, 48, 0, 0, [some (fA 27), _, _, some (fI (M 28 14))], [fI 99, fI 0, fA 1, fI (fw ((M 28 14) * 3)), fA 37])) (h' := (156, fjl L, (fup (fup M 40 (M 28 14).toNat l1) 28 14 (fw ((M 28 14) + 1))))) rfl ?_ ?_
  · exact g0
  rw [fw_id g2, fw_id g1]
  obtain ⟨y48, hy, h⟩ := fbd h
  refine Wp.call rfl (by decide) (s_X10_takeNumber_ok (d := d + 0) hy ?_)
  obtain ⟨w48, ew, h⟩ | ⟨ew, h⟩ := fel_of h
  · rw [ew]
    show Wp (d + 10, 61, 51, 0, 0, [some (fA 27), _, _, some (fI (M 28 14))], [fI w48, fI ((M 28 14) * 3), fA 37]) (156, fjl L, y48.2) Q
    obtain ⟨⟨g0, g1, g2⟩, h⟩ := fgd h
    refine Wp.run 13 (P := [0 ≤ ((M 28 14) * 3) ∧ ((M 28 14) * 3) < 18]) (f' := (d + 10, 61, 71, 0, 0, [some (fA 27), _, _, some (fI (M 28 14))], [fI 99, fI 0, fA 1, fI (fw ((fw ((M 28 14) * 3)) + 1)), fA 37])) (h' := (156, fjl L, (fup y48.2 37 ((M 28 14) * 3).toNat w48))) rfl ?_ ?_
    · exact g0
    rw [fw_id g1, fw_id g2]
    obtain ⟨y71, hy, h⟩ := fbd h
    refine Wp.call rfl (by decide) (s_X10_takeNumber_ok (d := d + 0) hy ?_)
    obtain ⟨w71, ew, h⟩ | ⟨ew, h⟩ := fel_of h
    · rw [ew]
      show Wp (d + 10, 61, 74, 0, 0, [some (fA 27), _, _, some (fI (M 28 14))], [fI w71, fI (((M 28 14) * 3) + 1), fA 37]) (156, fjl L, y71.2) Q
      obtain ⟨⟨g0, g1, g2, g3⟩, h⟩ := fgd h
      refine Wp.run 13 (P := [0 ≤ (((M 28 14) * 3) + 1) ∧ (((M 28 14) * 3) + 1) < 18, 0 ≤ (fw ((fw ((M 28 14) * 3)) + 2)) ∧ (fw ((fw ((M 28 14) * 3)) + 2)) < 18]) (f' := (d + 10, 61, 93, 0, 0, [some (fA 27), _, _, some (fI (M 28 14))], [fA 1])) (h' := (156, fjl L, (fup (fup y71.2 37 (((M 28 14) * 3) + 1).toNat w71) 37 (fw ((fw ((M 28 14) * 3)) + 2)).toNat 0))) rfl ?_ ?_
      · rw [fw_id g1, fw_id g2]; exact ⟨g0, g3⟩
      rw [fw_id g1, fw_id g2]
      obtain ⟨y93, hy, h⟩ := fbd h
      refine Wp.call rfl (by decide) (s_X10_take_ok (d := d + 7) hy ?_)
      show Wp (d + 10, 61, 96, 0, 0, [some (fA 27), _, _, some (fI (M 28 14))], []) (156, fjl L, y93.2) Q
      refine Wp.run 2 (f' := (d + 10, 61, 100, 0, 0, [some (fA 27), _, _, some (fI (M 28 14))], [fA 1])) (h' := (156, fjl L, y93.2)) rfl trivial ?_
      obtain ⟨y100, hy, h⟩ := fbd h
      refine Wp.call rfl (by decide) (s_X10_keywordHere_ok (d := d + 9) hy ?_)
      show Wp (d + 10, 61, 103, 0, 0, [some (fA 27), _, _, some (fI (M 28 14))], [fI y100]) (156, fjl L, y93.2) Q
      refine Wp.run 1 (f' := (d + 10, 61, 105, 0, 0, [some (fA 27), _, _, some (fI (M 28 14))], [fI 13, fI y100])) (h' := (156, fjl L, y93.2)) rfl trivial ?_
      refine Wp.br rfl (fun (c : ¬ y100 = 13) => ?_) (fun (c : ¬ (¬ y100 = 13)) => ?_)
      · replace h := fps c h
        obtain rfl := Option.some.inj h
        exact Wp.done rfl (by decide) H
      · replace h := fng c h
        obtain ⟨⟨g0, g1⟩, h⟩ := fgd h
        refine Wp.run 11 (f' := (d + 10, 61, 126, 0, 0, [some (fA 27), _, _, _], [fI 99, fA 1, fI (fw ((fw ((M 28 14) * 3)) + 2)), fA 37])) (h' := (156, fjl L, y93.2)) rfl trivial ?_
        rw [fw_id g0, fw_id g1]
        obtain ⟨y126, hy, h⟩ := fbd h
        refine Wp.call rfl (by decide) (s_X10_takeSigned_ok (d := d + 0) hy ?_)
        obtain ⟨w126, ew, h⟩ | ⟨ew, h⟩ := fel_of h
        · rw [ew]
          show Wp (d + 10, 61, 129, 0, 0, [some (fA 27), _, _, _], [fI w126, fI (((M 28 14) * 3) + 2), fA 37]) (156, fjl L, y126.2) Q
          obtain ⟨g0, h⟩ := fgd h
          refine Wp.run 3 (P := [0 ≤ (((M 28 14) * 3) + 2) ∧ (((M 28 14) * 3) + 2) < 18]) (f' := (d + 10, 61, 134, 0, 0, [_, _, _, _], [fA 1])) (h' := (156, fjl L, (fup y126.2 37 (((M 28 14) * 3) + 2).toNat w126))) rfl ?_ ?_
          · exact g0
          obtain ⟨y134, hy, h⟩ := fbd h
          refine Wp.call rfl (by decide) (s_X10_take_ok (d := d + 7) hy ?_)
          show Wp (d + 10, 61, 137, 0, 0, [_, _, _, _], []) (156, fjl L, y134.2) Q
          obtain rfl := Option.some.inj h
          exact Wp.done rfl (by decide) H
        · rw [ew]
          obtain rfl := Option.some.inj h
          exact ⟨⟨rfl, rfl⟩, H⟩
    · rw [ew]
      obtain rfl := Option.some.inj h
      exact ⟨⟨rfl, rfl⟩, H⟩
  · rw [ew]
    obtain rfl := Option.some.inj h
    exact ⟨⟨rfl, rfl⟩, H⟩
theorem s_X3_readTuner_fr {M : fM} {l1 : Int} {r : ((Unit ⊕ Unit) × fM)} (h : s_X3_readTuner M l1 = some r) : fSame s_X3_readTuner_mods M r.2 := by
  unfold s_X3_readTuner at h
  replace h := (fgd h).2
  obtain ⟨y48, hy, h⟩ := fbd h
  have k48 := fs_trans (l := s_X3_readTuner_mods) (fs_up (fs_up fs_refl (.inl (by decide))) (.inr (by decide))) (fs_mono (l := s_X10_takeNumber_mods) (by decide) (s_X10_takeNumber_fr hy))
  obtain ⟨w48, ew, h⟩ | ⟨ew, h⟩ := fel_of h
  · replace h := (fgd h).2
    obtain ⟨y71, hy, h⟩ := fbd h
    have k71 := fs_trans (l := s_X3_readTuner_mods) (fs_up k48 (.inl (by decide))) (fs_mono (l := s_X10_takeNumber_mods) (by decide) (s_X10_takeNumber_fr hy))
    obtain ⟨w71, ew, h⟩ | ⟨ew, h⟩ := fel_of h
    · replace h := (fgd h).2
      obtain ⟨y93, hy, h⟩ := fbd h
      have k93 := fs_trans (l := s_X3_readTuner_mods) (fs_up (fs_up k71 (.inl (by decide))) (.inl (by decide))) (fs_mono (l := s_X10_take_mods) (by decide) (s_X10_take_fr hy))
      obtain ⟨y100, hy, h⟩ := fbd h
      by_cases c : ¬ y100 = 13
      · replace h := fps c h
        obtain rfl := Option.some.inj h
        exact k93
      · replace h := fng c h
        replace h := (fgd h).2
        obtain ⟨y126, hy, h⟩ := fbd h
        have k126 := fs_trans (l := s_X3_readTuner_mods) k93 (fs_mono (l := s_X10_takeSigned_mods) (by decide) (s_X10_takeSigned_fr hy))
        obtain ⟨w126, ew, h⟩ | ⟨ew, h⟩ := fel_of h
        · replace h := (fgd h).2
          obtain ⟨y134, hy, h⟩ := fbd h
          have k134 := fs_trans (l := s_X3_readTuner_mods) (fs_up k126 (.inl (by decide))) (fs_mono (l := s_X10_take_mods) (by decide) (s_X10_take_fr hy))
          obtain rfl := Option.some.inj h
          exact k134
        · obtain rfl := Option.some.inj h
          exact k126
    · obtain rfl := Option.some.inj h
      exact k71
  · obtain rfl := Option.some.inj h
    exact k48
abbrev s_X2_tell_28_mods : List (Nat × Option Nat) := [(34, none)]
noncomputable def s_X2_tell_28 (M : fM) (l1 l2 l3 : Int) : Option (Unit × fM) :=
  if fin (l1 * 10) ∧ fin ((l1 * 10) + l2) ∧ (0 ≤ ((l1 * 10) + l2) ∧ ((l1 * 10) + l2) < 160) then
    some ((), (fup M 34 ((l1 * 10) + l2).toNat l3))
  else none
theorem s_X2_tell_28_ok {d L : Nat} {M : fM} {l1 l2 l3 : Int} {r : (Unit × fM)} {Q : fO → fH → Prop} (h : s_X2_tell_28 M l1 l2 l3 = some r) (H : Q (oV r.1) (156, fjl L, r.2)) : Wp (d + 0, 28, 0, 0, 0, [some (fA 28), some (fI l1), some (fI l2), some (fI l3)], []) (156, fjl L, M) Q := by
  unfold s_X2_tell_28 at h
  obtain ⟨⟨g0, g1, g2⟩, h⟩ := fgd h
  refine Wp.run 9 (P := [0 ≤ (fw ((fw (l1 * 10)) + l2)) ∧ (fw ((fw (l1 * 10)) + l2)) < 160]) (f' := (d + 0, 28, 12, 0, 0, [_, _, _, _], [])) (h' := (156, fjl L, (fup M 34 (fw ((fw (l1 * 10)) + l2)).toNat l3))) rfl ?_ ?_
  · rw [fw_id g0, fw_id g1]; exact g2
  rw [fw_id g0, fw_id g1]
  obtain rfl := Option.some.inj h
  exact Wp.done rfl (by decide) H
theorem s_X2_tell_28_fr {M : fM} {l1 l2 l3 : Int} {r : (Unit × fM)} (h : s_X2_tell_28 M l1 l2 l3 = some r) : fSame s_X2_tell_28_mods M r.2 := by
  unfold s_X2_tell_28 at h
  replace h := (fgd h).2
  obtain rfl := Option.some.inj h
  exact fs_up fs_refl (.inl (by decide))
abbrev s_X2_addPiano_28_mods : List (Nat × Option Nat) := [(28, some 13), (34, none), (35, none), (36, none), (39, none)]
noncomputable def s_X2_addPiano_28_b25 (M : fM) (l3 l4 : Int) : Option ((Int × fM) ⊕ fM) :=
  if 12 ≤ l4 then
    some (.inr M)
  else
    if fin (l3 * 12) ∧ fin ((l3 * 12) + l4) ∧ (0 ≤ ((l3 * 12) + l4) ∧ ((l3 * 12) + l4) < 192) ∧ fin (l4 + 1) then
      some (.inl ((l4 + 1), (fup M 35 ((l3 * 12) + l4).toNat 1)))
    else none
theorem s_X2_addPiano_28_b25_ok {d L : Nat} {M : fM} {l3 l4 : Int} {o1 o2 : Option fV} {r : ((Int × fM) ⊕ fM)} {Q : fO → fH → Prop} (h : s_X2_addPiano_28_b25 M l3 l4 = some r) (hC : ∀ (l4' : Int) (M' : fM) (o1' o2' : Option fV), r = .inl (l4', M') → Wp (d + 1, 27, 25, 0, 0, [some (fA 28), o1', o2', some (fI l3), some (fI l4')], []) (156, fjl L, M') Q) (hE : ∀ (e : fM) (o1' o2' o4' : Option fV), r = .inr e → Wp (d + 1, 27, 51, 0, 0, [some (fA 28), o1', o2', some (fI l3), o4'], []) (156, fjl L, e) Q) : Wp (d + 1, 27, 25, 0, 0, [some (fA 28), o1, o2, some (fI l3), some (fI l4)], []) (156, fjl L, M) Q := by
  unfold s_X2_addPiano_28_b25 at h
  refine Wp.run 2 (f' := (d + 1, 27, 29, 0, 0, [some (fA 28), _, _, some (fI l3), some (fI l4)], [fI 12, fI l4])) (h' := (156, fjl L, M)) rfl trivial ?_
  refine Wp.br rfl (fun (c : 12 ≤ l4) => ?_) (fun (c : ¬ (12 ≤ l4)) => ?_)
  · replace h := fps c h
    exact hE _ _ _ _ (Option.some.inj h).symm
  · replace h := fng c h
    obtain ⟨⟨g0, g1, g2, g3⟩, h⟩ := fgd h
    refine Wp.run 11 (P := [0 ≤ (fw ((fw (l3 * 12)) + l4)) ∧ (fw ((fw (l3 * 12)) + l4)) < 192]) (f' := (d + 1, 27, 25, 0, 0, [some (fA 28), _, _, some (fI l3), some (fI (fw (l4 + 1)))], [])) (h' := (156, fjl L, (fup M 35 (fw ((fw (l3 * 12)) + l4)).toNat 1))) rfl ?_ ?_
    · rw [fw_id g0, fw_id g1]; exact g2
    rw [fw_id g3, fw_id g0, fw_id g1]
    exact hC _ _ _ _ (Option.some.inj h).symm
theorem s_X2_addPiano_28_b25_fr {M : fM} {l3 l4 : Int} {r : ((Int × fM) ⊕ fM)} (h : s_X2_addPiano_28_b25 M l3 l4 = some r) : fSame s_X2_addPiano_28_mods M (Sum.elim (fun s => s.2) (fun e => e) r) := by
  unfold s_X2_addPiano_28_b25 at h
  by_cases c : 12 ≤ l4
  · replace h := fps c h
    obtain rfl := Option.some.inj h
    exact fs_refl
  · replace h := fng c h
    replace h := (fgd h).2
    obtain rfl := Option.some.inj h
    exact fs_up fs_refl (.inl (by decide))
noncomputable def s_X2_addPiano_28_l25 (l3 : Int) (s : (Int × fM)) : Option fM := fLp (fun s => s_X2_addPiano_28_b25 s.2 l3 s.1) s
theorem s_X2_addPiano_28_l25_ok {d L : Nat} {M : fM} {l3 l4 : Int} {o1 o2 : Option fV} {r : fM} {Q : fO → fH → Prop} (h : s_X2_addPiano_28_l25 l3 (l4, M) = some r) (hE : ∀ (e : fM) (o1' o2' o4' : Option fV), r = e → Wp (d + 1, 27, 51, 0, 0, [some (fA 28), o1', o2', some (fI l3), o4'], []) (156, fjl L, e) Q) : Wp (d + 1, 27, 25, 0, 0, [some (fA 28), o1, o2, some (fI l3), some (fI l4)], []) (156, fjl L, M) Q := by
  refine fLp_wp (W := fun s => ∀ (o1 o2 : Option fV), Wp (d + 1, 27, 25, 0, 0, [some (fA 28), o1, o2, some (fI l3), some (fI s.1)], []) (156, fjl L, s.2) Q) (e := r) ?_ h _ _
  intro s r1 h hC hX o1 o2
  refine s_X2_addPiano_28_b25_ok (d := d) h (fun a0 a1 _ _ e1 => ?_) (fun e u0 u1 u2 e1 => hE e u0 u1 u2 (hX _ e1).symm)
  exact hC _ e1 _ _
theorem s_X2_addPiano_28_l25_fr {M : fM} {l3 l4 : Int} {r : fM} (h : s_X2_addPiano_28_l25 l3 (l4, M) = some r) : fSame s_X2_addPiano_28_mods M ((fun e => e) r) := by
  refine fLp_inv (I := fun s => fSame s_X2_addPiano_28_mods M s.2) (J := fun r => fSame s_X2_addPiano_28_mods M ((fun e => e) r)) h fs_refl (fun s s1 hs hb => ?_) (fun s e hs hb => ?_)
  · exact fs_trans hs (s_X2_addPiano_28_b25_fr hb)
  · exact fs_trans hs (s_X2_addPiano_28_b25_fr hb)
noncomputable def s_X2_addPiano_28_b54 (M : fM) (l3 l4 : Int) : Option ((Int × fM) ⊕ fM) :=
  if 4 ≤ l4 then
    some (.inr M)
  else
    if fin (l3 * 4) ∧ fin ((l3 * 4) + l4) ∧ (0 ≤ ((l3 * 4) + l4) ∧ ((l3 * 4) + l4) < 64) ∧ fin (l4 + 1) then
      some (.inl ((l4 + 1), (fup M 36 ((l3 * 4) + l4).toNat 0)))
    else none
theorem s_X2_addPiano_28_b54_ok {d L : Nat} {M : fM} {l3 l4 : Int} {o1 o2 : Option fV} {r : ((Int × fM) ⊕ fM)} {Q : fO → fH → Prop} (h : s_X2_addPiano_28_b54 M l3 l4 = some r) (hC : ∀ (l4' : Int) (M' : fM) (o1' o2' : Option fV), r = .inl (l4', M') → Wp (d + 1, 27, 54, 0, 0, [some (fA 28), o1', o2', some (fI l3), some (fI l4')], []) (156, fjl L, M') Q) (hE : ∀ (e : fM) (o1' o2' o4' : Option fV), r = .inr e → Wp (d + 1, 27, 78, 0, 0, [some (fA 28), o1', o2', some (fI l3), o4'], []) (156, fjl L, e) Q) : Wp (d + 1, 27, 54, 0, 0, [some (fA 28), o1, o2, some (fI l3), some (fI l4)], []) (156, fjl L, M) Q := by
  unfold s_X2_addPiano_28_b54 at h
  refine Wp.run 2 (f' := (d + 1, 27, 57, 0, 0, [some (fA 28), _, _, some (fI l3), some (fI l4)], [fI 4, fI l4])) (h' := (156, fjl L, M)) rfl trivial ?_
  refine Wp.br rfl (fun (c : 4 ≤ l4) => ?_) (fun (c : ¬ (4 ≤ l4)) => ?_)
  · replace h := fps c h
    exact hE _ _ _ _ (Option.some.inj h).symm
  · replace h := fng c h
    obtain ⟨⟨g0, g1, g2, g3⟩, h⟩ := fgd h
    refine Wp.run 11 (P := [0 ≤ (fw ((fw (l3 * 4)) + l4)) ∧ (fw ((fw (l3 * 4)) + l4)) < 64]) (f' := (d + 1, 27, 54, 0, 0, [some (fA 28), _, _, some (fI l3), some (fI (fw (l4 + 1)))], [])) (h' := (156, fjl L, (fup M 36 (fw ((fw (l3 * 4)) + l4)).toNat 0))) rfl ?_ ?_
    · rw [fw_id g0, fw_id g1]; exact g2
    rw [fw_id g3, fw_id g0, fw_id g1]
    exact hC _ _ _ _ (Option.some.inj h).symm
theorem s_X2_addPiano_28_b54_fr {M : fM} {l3 l4 : Int} {r : ((Int × fM) ⊕ fM)} (h : s_X2_addPiano_28_b54 M l3 l4 = some r) : fSame s_X2_addPiano_28_mods M (Sum.elim (fun s => s.2) (fun e => e) r) := by
  unfold s_X2_addPiano_28_b54 at h
  by_cases c : 4 ≤ l4
  · replace h := fps c h
    obtain rfl := Option.some.inj h
    exact fs_refl
  · replace h := fng c h
    replace h := (fgd h).2
    obtain rfl := Option.some.inj h
    exact fs_up fs_refl (.inl (by decide))
noncomputable def s_X2_addPiano_28_l54 (l3 : Int) (s : (Int × fM)) : Option fM := fLp (fun s => s_X2_addPiano_28_b54 s.2 l3 s.1) s
theorem s_X2_addPiano_28_l54_ok {d L : Nat} {M : fM} {l3 l4 : Int} {o1 o2 : Option fV} {r : fM} {Q : fO → fH → Prop} (h : s_X2_addPiano_28_l54 l3 (l4, M) = some r) (hE : ∀ (e : fM) (o1' o2' o4' : Option fV), r = e → Wp (d + 1, 27, 78, 0, 0, [some (fA 28), o1', o2', some (fI l3), o4'], []) (156, fjl L, e) Q) : Wp (d + 1, 27, 54, 0, 0, [some (fA 28), o1, o2, some (fI l3), some (fI l4)], []) (156, fjl L, M) Q := by
  refine fLp_wp (W := fun s => ∀ (o1 o2 : Option fV), Wp (d + 1, 27, 54, 0, 0, [some (fA 28), o1, o2, some (fI l3), some (fI s.1)], []) (156, fjl L, s.2) Q) (e := r) ?_ h _ _
  intro s r1 h hC hX o1 o2
  refine s_X2_addPiano_28_b54_ok (d := d) h (fun a0 a1 _ _ e1 => ?_) (fun e u0 u1 u2 e1 => hE e u0 u1 u2 (hX _ e1).symm)
  exact hC _ e1 _ _
theorem s_X2_addPiano_28_l54_fr {M : fM} {l3 l4 : Int} {r : fM} (h : s_X2_addPiano_28_l54 l3 (l4, M) = some r) : fSame s_X2_addPiano_28_mods M ((fun e => e) r) := by
  refine fLp_inv (I := fun s => fSame s_X2_addPiano_28_mods M s.2) (J := fun r => fSame s_X2_addPiano_28_mods M ((fun e => e) r)) h fs_refl (fun s s1 hs hb => ?_) (fun s e hs hb => ?_)
  · exact fs_trans hs (s_X2_addPiano_28_b54_fr hb)
  · exact fs_trans hs (s_X2_addPiano_28_b54_fr hb)
noncomputable def s_X2_addPiano_28 (M : fM) (l1 : Int) : Option (Int × fM) :=
  if (0 ≤ (M 28 13) ∧ (M 28 13) < 16) ∧ fin ((M 28 13) + 1) then
    (s_X2_addPiano_28_l25 (M 28 13) (0, (fup (fup M 39 (M 28 13).toNat l1) 28 13 ((M 28 13) + 1)))).bind fun e25 =>
      (s_X2_addPiano_28_l54 (M 28 13) (0, e25)).bind fun e54 =>
        (s_X2_tell_28 e54 (M 28 13) 7 0).bind fun y83 =>
          (s_X2_tell_28 y83.2 (M 28 13) 8 0).bind fun y91 =>
            (s_X2_tell_28 y91.2 (M 28 13) 9 1440).bind fun y101 =>
              some ((M 28 13), y101.2)
  else none
theorem s_X2_addPiano_28_ok {d L : Nat} {M : fM} {l1 : Int} {r : (Int × fM)} {Q : fO → fH → Prop} (h : s_X2_addPiano_28 M l1 = some r) (H : Q (oI r.1) (156, fjl L, r.2)) : Wp (d + 1, 27, 0, 0, 0, [some (fA 28), some (fJ l1), none, none, none], []) (156, fjl L, M) Q := by
  unfold s_X2_addPiano_28 at h
  obtain ⟨⟨g0, g1⟩, h⟩ := fgd h
  refine Wp.run 16 (P := [0 ≤ (M 28 13) ∧ (M 28 13) < 16]) (f' := (d + 1, 27, 25, 0, 0, [some (fA 28), _, _, some (fI (M 28 13)), some (fI 0)], [])) (h' := (156, fjl L, (fup (fup M 39 (M 28 13).toNat l1) 28 13 (fw ((M 28 13) + 1))))) rfl ?_ ?_
  · exact g0
  rw [fw_id g1]
  obtain ⟨e25, hy, h⟩ := fbd h
  refine s_X2_addPiano_28_l25_ok hy (fun x u1 u2 u4 ex => ?_)
  cases ex
  show Wp (d + 1, 27, 51, 0, 0, [some (fA 28), u1, u2, some (fI (M 28 13)), u4], []) (156, fjl L, e25) Q
  refine Wp.run 2 (f' := (d + 1, 27, 54, 0, 0, [some (fA 28), _, _, some (fI (M 28 13)), some (fI 0)], [])) (h' := (156, fjl L, e25)) rfl trivial ?_
  obtain ⟨e54, hy, h⟩ := fbd h
  refine s_X2_addPiano_28_l54_ok hy (fun x u1 u2 u4 ex => ?_)
  cases ex
  show Wp (d + 1, 27, 78, 0, 0, [some (fA 28), u1, u2, some (fI (M 28 13)), u4], []) (156, fjl L, e54) Q
  refine Wp.run 4 (f' := (d + 1, 27, 83, 0, 0, [some (fA 28), _, _, some (fI (M 28 13)), _], [fI 0, fI 7, fI (M 28 13), fA 28])) (h' := (156, fjl L, e54)) rfl trivial ?_
  obtain ⟨y83, hy, h⟩ := fbd h
  refine Wp.call rfl (by decide) (s_X2_tell_28_ok (d := d + 0) hy ?_)
  show Wp (d + 1, 27, 86, 0, 0, [some (fA 28), _, _, some (fI (M 28 13)), _], []) (156, fjl L, y83.2) Q
  refine Wp.run 4 (f' := (d + 1, 27, 91, 0, 0, [some (fA 28), _, _, some (fI (M 28 13)), _], [fI 0, fI 8, fI (M 28 13), fA 28])) (h' := (156, fjl L, y83.2)) rfl trivial ?_
  obtain ⟨y91, hy, h⟩ := fbd h
  refine Wp.call rfl (by decide) (s_X2_tell_28_ok (d := d + 0) hy ?_)
  show Wp (d + 1, 27, 94, 0, 0, [some (fA 28), _, _, some (fI (M 28 13)), _], []) (156, fjl L, y91.2) Q
  refine Wp.run 4 (f' := (d + 1, 27, 101, 0, 0, [_, _, _, some (fI (M 28 13)), _], [fI 1440, fI 9, fI (M 28 13), fA 28])) (h' := (156, fjl L, y91.2)) rfl trivial ?_
  obtain ⟨y101, hy, h⟩ := fbd h
  refine Wp.call rfl (by decide) (s_X2_tell_28_ok (d := d + 0) hy ?_)
  show Wp (d + 1, 27, 104, 0, 0, [_, _, _, some (fI (M 28 13)), _], []) (156, fjl L, y101.2) Q
  refine Wp.run 1 (f' := (d + 1, 27, 105, 0, 0, [_, _, _, _, _], [fI (M 28 13)])) (h' := (156, fjl L, y101.2)) rfl trivial ?_
  obtain rfl := Option.some.inj h
  exact Wp.done rfl (by decide) H
theorem s_X2_addPiano_28_fr {M : fM} {l1 : Int} {r : (Int × fM)} (h : s_X2_addPiano_28 M l1 = some r) : fSame s_X2_addPiano_28_mods M r.2 := by
  unfold s_X2_addPiano_28 at h
  replace h := (fgd h).2
  obtain ⟨e25, hy, h⟩ := fbd h
  have k25 := fs_trans (l := s_X2_addPiano_28_mods) (fs_up (fs_up fs_refl (.inl (by decide))) (.inr (by decide))) (s_X2_addPiano_28_l25_fr hy)
  obtain ⟨e54, hy, h⟩ := fbd h
  have k54 := fs_trans (l := s_X2_addPiano_28_mods) k25 (s_X2_addPiano_28_l54_fr hy)
  obtain ⟨y83, hy, h⟩ := fbd h
  have k83 := fs_trans (l := s_X2_addPiano_28_mods) k54 (fs_mono (l := s_X2_tell_28_mods) (by decide) (s_X2_tell_28_fr hy))
  obtain ⟨y91, hy, h⟩ := fbd h
  have k91 := fs_trans (l := s_X2_addPiano_28_mods) k83 (fs_mono (l := s_X2_tell_28_mods) (by decide) (s_X2_tell_28_fr hy))
  obtain ⟨y101, hy, h⟩ := fbd h
  have k101 := fs_trans (l := s_X2_addPiano_28_mods) k91 (fs_mono (l := s_X2_tell_28_mods) (by decide) (s_X2_tell_28_fr hy))
  obtain rfl := Option.some.inj h
  exact k101
