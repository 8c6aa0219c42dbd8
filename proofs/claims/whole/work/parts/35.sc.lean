/-! ===== functions of the methods (printed by genfun.py) ===== -/
abbrev s_X11_house_mods : List (Nat × Option Nat) := [(0, some 14), (1, some 2), (1, some 3), (1, some 4), (1, some 5), (1, some 6), (1, some 7), (1, some 8), (1, some 9), (1, some 10), (4, some 13), (4, some 14), (4, some 15), (4, some 16), (4, some 17), (5, none), (6, none), (7, none), (8, none), (9, none), (10, none), (11, none), (12, none), (13, none), (14, none), (15, none), (16, none), (17, none), (18, some 8), (27, some 2), (28, some 13), (28, some 14), (28, some 15), (28, some 16), (28, some 17), (29, none), (30, none), (31, none), (32, none), (33, none), (34, none), (35, none), (36, none), (37, none), (38, none), (39, none), (40, none), (41, none)]
noncomputable def s_X11_house_j33 (M : fM) : Option (Int × fM) :=
  (s_X10_empty M).bind fun y37 =>
    if ¬ (y37.2 1 9) = 0 then
      if fin ((-1) - (y37.2 1 10)) then
        some (((-1) - (y37.2 1 10)), (fup y37.2 0 14 (y37.2 1 9)))
      else none
    else
      some ((y37.2 4 17), (fup y37.2 0 14 (y37.2 1 9)))
theorem s_X11_house_j33_ok {d L : Nat} {M : fM} {o1 : Option fV} {r : (Int × fM)} {Q : fO → fH → Prop} (h : s_X11_house_j33 M = some r) (H : Q (oI r.1) (156, fjl L, r.2)) : Wp (d + 13, 153, 33, 0, 0, [some (fA 0), o1], []) (156, fjl L, M) Q := by
  unfold s_X11_house_j33 at h
  refine Wp.run 2 (f' := (d + 13, 153, 37, 0, 0, [some (fA 0), _], [fA 1])) (h' := (156, fjl L, M)) rfl trivial ?_
  obtain ⟨y37, hy, h⟩ := fbd h
  refine Wp.call rfl (by decide) (s_X10_empty_ok (d := d + 12) hy ?_)
  show Wp (d + 13, 153, 40, 0, 0, [some (fA 0), _], []) (156, fjl L, y37.2) Q
  refine Wp.run 7 (f' := (d + 13, 153, 55, 0, 0, [some (fA 0), _], [fI (y37.2 1 9)])) (h' := (156, fjl L, (fup y37.2 0 14 (y37.2 1 9)))) rfl trivial ?_
  refine Wp.br rfl (fun (c : ¬ (y37.2 1 9) = 0) => ?_) (fun (c : ¬ (¬ (y37.2 1 9) = 0)) => ?_)
  · replace h := fps c h
    obtain ⟨g0, h⟩ := fgd h
    refine Wp.run 5 (f' := (d + 13, 153, 77, 0, 0, [_, _], [fI (fw ((-1) - (y37.2 1 10)))])) (h' := (156, fjl L, (fup y37.2 0 14 (y37.2 1 9)))) rfl trivial ?_
    rw [fw_id g0]
    obtain rfl := Option.some.inj h
    exact Wp.done rfl (by decide) H
  · replace h := fng c h
    refine Wp.run 4 (f' := (d + 13, 153, 77, 0, 0, [_, _], [fI (y37.2 4 17)])) (h' := (156, fjl L, (fup y37.2 0 14 (y37.2 1 9)))) rfl trivial ?_
    obtain rfl := Option.some.inj h
    exact Wp.done rfl (by decide) H
theorem s_X11_house_j33_fr {M : fM} {r : (Int × fM)} (h : s_X11_house_j33 M = some r) : fSame s_X11_house_mods M r.2 := by
  unfold s_X11_house_j33 at h
  obtain ⟨y37, hy, h⟩ := fbd h
  have k37 := fs_trans (l := s_X11_house_mods) fs_refl (fs_mono (l := s_X10_empty_mods) (by decide) (s_X10_empty_fr hy))
  by_cases c : ¬ (y37.2 1 9) = 0
  · replace h := fps c h
    replace h := (fgd h).2
    obtain rfl := Option.some.inj h
    exact fs_up k37 (.inr (by decide))
  · replace h := fng c h
    obtain rfl := Option.some.inj h
    exact fs_up k37 (.inr (by decide))
noncomputable def s_X11_house_j33x (M : fM) : Option (Int × fM) :=
  (s_X10_empty M).bind fun y37 =>
    if ¬ (y37.2 1 9) = 0 then
      if fin ((-1) - (y37.2 1 10)) then
        some (((-1) - (y37.2 1 10)), (fup y37.2 0 14 (y37.2 1 9)))
      else none
    else
      some ((y37.2 4 17), (fup y37.2 0 14 (y37.2 1 9)))
theorem s_X11_house_j33x_ok {d L : Nat} {M : fM} {o1 : Option fV} {r : (Int × fM)} {Q : fO → fH → Prop} (h : s_X11_house_j33x M = some r) (H : Q (oI r.1) (156, fjl L, r.2)) : Wp (d + 13, 153, 33, 1, 6, [some (fA 0), o1], []) (156, fjl L, M) Q := by
  unfold s_X11_house_j33x at h
  refine Wp.run 2 (f' := (d + 13, 153, 37, 1, 6, [some (fA 0), _], [fA 1])) (h' := (156, fjl L, M)) rfl trivial ?_
  obtain ⟨y37, hy, h⟩ := fbd h
  refine Wp.call rfl (by decide) (s_X10_empty_ok (d := d + 12) hy ?_)
  show Wp (d + 13, 153, 40, 1, 6, [some (fA 0), _], []) (156, fjl L, y37.2) Q
  refine Wp.run 7 (f' := (d + 13, 153, 55, 1, 6, [some (fA 0), _], [fI (y37.2 1 9)])) (h' := (156, fjl L, (fup y37.2 0 14 (y37.2 1 9)))) rfl trivial ?_
  refine Wp.br rfl (fun (c : ¬ (y37.2 1 9) = 0) => ?_) (fun (c : ¬ (¬ (y37.2 1 9) = 0)) => ?_)
  · replace h := fps c h
    obtain ⟨g0, h⟩ := fgd h
    refine Wp.run 5 (f' := (d + 13, 153, 77, 1, 6, [_, _], [fI (fw ((-1) - (y37.2 1 10)))])) (h' := (156, fjl L, (fup y37.2 0 14 (y37.2 1 9)))) rfl trivial ?_
    rw [fw_id g0]
    obtain rfl := Option.some.inj h
    exact Wp.done rfl (by decide) H
  · replace h := fng c h
    refine Wp.run 4 (f' := (d + 13, 153, 77, 1, 6, [_, _], [fI (y37.2 4 17)])) (h' := (156, fjl L, (fup y37.2 0 14 (y37.2 1 9)))) rfl trivial ?_
    obtain rfl := Option.some.inj h
    exact Wp.done rfl (by decide) H
theorem s_X11_house_j33x_fr {M : fM} {r : (Int × fM)} (h : s_X11_house_j33x M = some r) : fSame s_X11_house_mods M r.2 := by
  unfold s_X11_house_j33x at h
  obtain ⟨y37, hy, h⟩ := fbd h
  have k37 := fs_trans (l := s_X11_house_mods) fs_refl (fs_mono (l := s_X10_empty_mods) (by decide) (s_X10_empty_fr hy))
  by_cases c : ¬ (y37.2 1 9) = 0
  · replace h := fps c h
    replace h := (fgd h).2
    obtain rfl := Option.some.inj h
    exact fs_up k37 (.inr (by decide))
  · replace h := fng c h
    obtain rfl := Option.some.inj h
    exact fs_up k37 (.inr (by decide))
noncomputable def s_X11_house_j32 (M : fM) : Option (Int × fM) :=
  s_X11_house_j33x M
theorem s_X11_house_j32_ok {d L : Nat} {M : fM} {o1 : Option fV} {r : (Int × fM)} {Q : fO → fH → Prop} (h : s_X11_house_j32 M = some r) (H : Q (oI r.1) (156, fjl L, r.2)) : Wp (d + 13, 153, 32, 1, 6, [some (fA 0), o1], [fA 9999]) (156, fjl L, M) Q := by
  unfold s_X11_house_j32 at h
  refine Wp.run 1 (f' := (d + 13, 153, 33, 1, 6, [some (fA 0), _], [])) (h' := (156, fjl L, M)) rfl trivial ?_
  exact s_X11_house_j33x_ok h H
theorem s_X11_house_j32_fr {M : fM} {r : (Int × fM)} (h : s_X11_house_j32 M = some r) : fSame s_X11_house_mods M r.2 := by
  unfold s_X11_house_j32 at h
  exact fs_trans fs_refl (s_X11_house_j33x_fr h)
noncomputable def s_X11_house (M : fM) : Option (Int × fM) :=
  (s_X3_readAll M).bind fun y4 =>
    fel y4.1
      (fun w4 =>
        (s_X2_copyFrom_4_28 y4.2).bind fun y18 =>
          s_X11_house_j33 (fup y18.2 18 8 0))
      (s_X11_house_j32 y4.2)
theorem s_X11_house_ok {d L : Nat} {M : fM} {r : (Int × fM)} {Q : fO → fH → Prop} (h : s_X11_house M = some r) (H : Q (oI r.1) (156, fjl L, r.2)) : Wp (d + 13, 153, 0, 0, 0, [some (fA 0), none], []) (156, fjl L, M) Q := by
  unfold s_X11_house at h
  refine Wp.run 2 (f' := (d + 13, 153, 4, 0, 0, [some (fA 0), _], [fA 27])) (h' := (156, fjl L, M)) rfl trivial ?_
  obtain ⟨y4, hy, h⟩ := fbd h
  refine Wp.call rfl (by decide) (s_X3_readAll_ok (d := d + 0) hy ?_)
  obtain ⟨w4, ew, h⟩ | ⟨ew, h⟩ := fel_of h
  · rw [ew]
    show Wp (d + 13, 153, 7, 0, 0, [some (fA 0), _], []) (156, fjl L, y4.2) Q
    refine Wp.run 5 (f' := (d + 13, 153, 18, 0, 0, [some (fA 0), _], [fA 28, fA 4])) (h' := (156, fjl L, y4.2)) rfl trivial ?_
    obtain ⟨y18, hy, h⟩ := fbd h
    refine Wp.call rfl (by decide) (s_X2_copyFrom_4_28_ok (d := d + 11) hy ?_)
    show Wp (d + 13, 153, 21, 0, 0, [some (fA 0), _], []) (156, fjl L, y18.2) Q
    refine Wp.run 5 (f' := (d + 13, 153, 33, 0, 0, [some (fA 0), _], [])) (h' := (156, fjl L, (fup y18.2 18 8 0))) rfl trivial ?_
    exact s_X11_house_j33_ok h H
  · rw [ew]
    refine ⟨⟨rfl, by decide, by decide⟩, ?_⟩
    show Wp (d + 13, 153, 32, 1, 6, [some (fA 0), _], [fA 9999]) (156, fjl L, y4.2) Q
    exact s_X11_house_j32_ok h H
theorem s_X11_house_fr {M : fM} {r : (Int × fM)} (h : s_X11_house M = some r) : fSame s_X11_house_mods M r.2 := by
  unfold s_X11_house at h
  obtain ⟨y4, hy, h⟩ := fbd h
  have k4 := fs_trans (l := s_X11_house_mods) fs_refl (fs_mono (l := s_X3_readAll_mods) (by decide) (s_X3_readAll_fr hy))
  obtain ⟨w4, ew, h⟩ | ⟨ew, h⟩ := fel_of h
  · obtain ⟨y18, hy, h⟩ := fbd h
    have k18 := fs_trans (l := s_X11_house_mods) k4 (fs_mono (l := s_X2_copyFrom_4_28_mods) (by decide) (s_X2_copyFrom_4_28_fr hy))
    exact fs_trans (fs_up k18 (.inr (by decide))) (s_X11_house_j33_fr h)
  · exact fs_trans k4 (s_X11_house_j32_fr h)
abbrev s_X12_taken_mods : List (Nat × Option Nat) := [(122, some 2), (122, some 3), (122, some 4), (122, some 5)]
noncomputable def s_X12_taken (M : fM) (l1 : Int) : Option (Unit × fM) :=
  some ((), (fup (fup (fup (fup M 122 3 (M 122 2)) 122 2 0) 122 4 0) 122 5 l1))
theorem s_X12_taken_ok {d L : Nat} {M : fM} {l1 : Int} {r : (Unit × fM)} {Q : fO → fH → Prop} (h : s_X12_taken M l1 = some r) (H : Q (oV r.1) (156, fjl L, r.2)) : Wp (d + 0, 199, 0, 0, 0, [some (fA 122), some (fI l1)], []) (156, fjl L, M) Q := by
  unfold s_X12_taken at h
  refine Wp.run 13 (f' := (d + 0, 199, 23, 0, 0, [_, _], [])) (h' := (156, fjl L, (fup (fup (fup (fup M 122 3 (M 122 2)) 122 2 0) 122 4 0) 122 5 l1))) rfl trivial ?_
  obtain rfl := Option.some.inj h
  exact Wp.done rfl (by decide) H
theorem s_X12_taken_fr {M : fM} {l1 : Int} {r : (Unit × fM)} (h : s_X12_taken M l1 = some r) : fSame s_X12_taken_mods M r.2 := by
  unfold s_X12_taken at h
  obtain rfl := Option.some.inj h
  exact fs_up (fs_up (fs_up (fs_up fs_refl (.inr (by decide))) (.inr (by decide))) (.inr (by decide))) (.inr (by decide))
abbrev s_X12_begin_mods : List (Nat × Option Nat) := [(124, none)]
noncomputable def s_X12_begin_b2 (M : fM) (l1 l2 : Int) : Option ((Int × fM) ⊕ fM) :=
  if 645 ≤ l2 then
    some (.inr M)
  else
    if fin (l1 + l2) ∧ (0 ≤ (l1 + l2) ∧ (l1 + l2) < 1290) ∧ fin (l2 + 1) then
      some (.inl ((l2 + 1), (fup M 124 (l1 + l2).toNat 0)))
    else none
theorem s_X12_begin_b2_ok {d L : Nat} {M : fM} {l1 l2 : Int} {r : ((Int × fM) ⊕ fM)} {Q : fO → fH → Prop} (h : s_X12_begin_b2 M l1 l2 = some r) (hC : ∀ (l2' : Int) (M' : fM), r = .inl (l2', M') → Wp (d + 0, 204, 2, 0, 0, [some (fA 122), some (fI l1), some (fI l2')], []) (156, fjl L, M') Q) (hE : ∀ (e : fM) (o2' : Option fV), r = .inr e → Wp (d + 0, 204, 24, 0, 0, [some (fA 122), some (fI l1), o2'], []) (156, fjl L, e) Q) : Wp (d + 0, 204, 2, 0, 0, [some (fA 122), some (fI l1), some (fI l2)], []) (156, fjl L, M) Q := by
  unfold s_X12_begin_b2 at h
  refine Wp.run 2 (f' := (d + 0, 204, 6, 0, 0, [some (fA 122), some (fI l1), some (fI l2)], [fI 645, fI l2])) (h' := (156, fjl L, M)) rfl trivial ?_
  refine Wp.br rfl (fun (c : 645 ≤ l2) => ?_) (fun (c : ¬ (645 ≤ l2)) => ?_)
  · replace h := fps c h
    exact hE _ _ (Option.some.inj h).symm
  · replace h := fng c h
    obtain ⟨⟨g0, g1, g2⟩, h⟩ := fgd h
    refine Wp.run 9 (P := [0 ≤ (fw (l1 + l2)) ∧ (fw (l1 + l2)) < 1290]) (f' := (d + 0, 204, 2, 0, 0, [some (fA 122), some (fI l1), some (fI (fw (l2 + 1)))], [])) (h' := (156, fjl L, (fup M 124 (fw (l1 + l2)).toNat 0))) rfl ?_ ?_
    · rw [fw_id g0]; exact g1
    rw [fw_id g2, fw_id g0]
    exact hC _ _ (Option.some.inj h).symm
theorem s_X12_begin_b2_fr {M : fM} {l1 l2 : Int} {r : ((Int × fM) ⊕ fM)} (h : s_X12_begin_b2 M l1 l2 = some r) : fSame s_X12_begin_mods M (Sum.elim (fun s => s.2) (fun e => e) r) := by
  unfold s_X12_begin_b2 at h
  by_cases c : 645 ≤ l2
  · replace h := fps c h
    obtain rfl := Option.some.inj h
    exact fs_refl
  · replace h := fng c h
    replace h := (fgd h).2
    obtain rfl := Option.some.inj h
    exact fs_up fs_refl (.inl (by decide))
noncomputable def s_X12_begin_l2 (l1 : Int) (s : (Int × fM)) : Option fM := fLp (fun s => s_X12_begin_b2 s.2 l1 s.1) s
theorem s_X12_begin_l2_ok {d L : Nat} {M : fM} {l1 l2 : Int} {r : fM} {Q : fO → fH → Prop} (h : s_X12_begin_l2 l1 (l2, M) = some r) (hE : ∀ (e : fM) (o2' : Option fV), r = e → Wp (d + 0, 204, 24, 0, 0, [some (fA 122), some (fI l1), o2'], []) (156, fjl L, e) Q) : Wp (d + 0, 204, 2, 0, 0, [some (fA 122), some (fI l1), some (fI l2)], []) (156, fjl L, M) Q := by
  refine fLp_wp (W := fun s => Wp (d + 0, 204, 2, 0, 0, [some (fA 122), some (fI l1), some (fI s.1)], []) (156, fjl L, s.2) Q) (e := r) ?_ h
  intro s r1 h hC hX
  refine s_X12_begin_b2_ok (d := d) h (fun a0 a1 e1 => ?_) (fun e u0 e1 => hE e u0 (hX _ e1).symm)
  exact hC _ e1
theorem s_X12_begin_l2_fr {M : fM} {l1 l2 : Int} {r : fM} (h : s_X12_begin_l2 l1 (l2, M) = some r) : fSame s_X12_begin_mods M ((fun e => e) r) := by
  refine fLp_inv (I := fun s => fSame s_X12_begin_mods M s.2) (J := fun r => fSame s_X12_begin_mods M ((fun e => e) r)) h fs_refl (fun s s1 hs hb => ?_) (fun s e hs hb => ?_)
  · exact fs_trans hs (s_X12_begin_b2_fr hb)
  · exact fs_trans hs (s_X12_begin_b2_fr hb)
noncomputable def s_X12_begin_b26 (M : fM) (l1 l2 : Int) : Option ((Int × fM) ⊕ fM) :=
  if 52 ≤ l2 then
    some (.inr M)
  else
    if fin (l1 + 13) ∧ fin ((l1 + 13) + l2) ∧ (0 ≤ ((l1 + 13) + l2) ∧ ((l1 + 13) + l2) < 1290) ∧ fin (l2 + 1) then
      some (.inl ((l2 + 1), (fup M 124 ((l1 + 13) + l2).toNat 20)))
    else none
theorem s_X12_begin_b26_ok {d L : Nat} {M : fM} {l1 l2 : Int} {r : ((Int × fM) ⊕ fM)} {Q : fO → fH → Prop} (h : s_X12_begin_b26 M l1 l2 = some r) (hC : ∀ (l2' : Int) (M' : fM), r = .inl (l2', M') → Wp (d + 0, 204, 26, 0, 0, [some (fA 122), some (fI l1), some (fI l2')], []) (156, fjl L, M') Q) (hE : ∀ (e : fM) (o2' : Option fV), r = .inr e → Wp (d + 0, 204, 51, 0, 0, [some (fA 122), some (fI l1), o2'], []) (156, fjl L, e) Q) : Wp (d + 0, 204, 26, 0, 0, [some (fA 122), some (fI l1), some (fI l2)], []) (156, fjl L, M) Q := by
  unfold s_X12_begin_b26 at h
  refine Wp.run 2 (f' := (d + 0, 204, 29, 0, 0, [some (fA 122), some (fI l1), some (fI l2)], [fI 52, fI l2])) (h' := (156, fjl L, M)) rfl trivial ?_
  refine Wp.br rfl (fun (c : 52 ≤ l2) => ?_) (fun (c : ¬ (52 ≤ l2)) => ?_)
  · replace h := fps c h
    exact hE _ _ (Option.some.inj h).symm
  · replace h := fng c h
    obtain ⟨⟨g0, g1, g2, g3⟩, h⟩ := fgd h
    refine Wp.run 11 (P := [0 ≤ (fw ((fw (l1 + 13)) + l2)) ∧ (fw ((fw (l1 + 13)) + l2)) < 1290]) (f' := (d + 0, 204, 26, 0, 0, [some (fA 122), some (fI l1), some (fI (fw (l2 + 1)))], [])) (h' := (156, fjl L, (fup M 124 (fw ((fw (l1 + 13)) + l2)).toNat 20))) rfl ?_ ?_
    · rw [fw_id g0, fw_id g1]; exact g2
    rw [fw_id g3, fw_id g0, fw_id g1]
    exact hC _ _ (Option.some.inj h).symm
theorem s_X12_begin_b26_fr {M : fM} {l1 l2 : Int} {r : ((Int × fM) ⊕ fM)} (h : s_X12_begin_b26 M l1 l2 = some r) : fSame s_X12_begin_mods M (Sum.elim (fun s => s.2) (fun e => e) r) := by
  unfold s_X12_begin_b26 at h
  by_cases c : 52 ≤ l2
  · replace h := fps c h
    obtain rfl := Option.some.inj h
    exact fs_refl
  · replace h := fng c h
    replace h := (fgd h).2
    obtain rfl := Option.some.inj h
    exact fs_up fs_refl (.inl (by decide))
noncomputable def s_X12_begin_l26 (l1 : Int) (s : (Int × fM)) : Option fM := fLp (fun s => s_X12_begin_b26 s.2 l1 s.1) s
theorem s_X12_begin_l26_ok {d L : Nat} {M : fM} {l1 l2 : Int} {r : fM} {Q : fO → fH → Prop} (h : s_X12_begin_l26 l1 (l2, M) = some r) (hE : ∀ (e : fM) (o2' : Option fV), r = e → Wp (d + 0, 204, 51, 0, 0, [some (fA 122), some (fI l1), o2'], []) (156, fjl L, e) Q) : Wp (d + 0, 204, 26, 0, 0, [some (fA 122), some (fI l1), some (fI l2)], []) (156, fjl L, M) Q := by
  refine fLp_wp (W := fun s => Wp (d + 0, 204, 26, 0, 0, [some (fA 122), some (fI l1), some (fI s.1)], []) (156, fjl L, s.2) Q) (e := r) ?_ h
  intro s r1 h hC hX
  refine s_X12_begin_b26_ok (d := d) h (fun a0 a1 e1 => ?_) (fun e u0 e1 => hE e u0 (hX _ e1).symm)
  exact hC _ e1
theorem s_X12_begin_l26_fr {M : fM} {l1 l2 : Int} {r : fM} (h : s_X12_begin_l26 l1 (l2, M) = some r) : fSame s_X12_begin_mods M ((fun e => e) r) := by
  refine fLp_inv (I := fun s => fSame s_X12_begin_mods M s.2) (J := fun r => fSame s_X12_begin_mods M ((fun e => e) r)) h fs_refl (fun s s1 hs hb => ?_) (fun s e hs hb => ?_)
  · exact fs_trans hs (s_X12_begin_b26_fr hb)
  · exact fs_trans hs (s_X12_begin_b26_fr hb)
noncomputable def s_X12_begin_b53 (M : fM) (l1 l2 : Int) : Option ((Int × fM) ⊕ fM) :=
  if 192 ≤ l2 then
    some (.inr M)
  else
    if fin (l1 + 335) ∧ fin ((l1 + 335) + l2) ∧ (0 ≤ ((l1 + 335) + l2) ∧ ((l1 + 335) + l2) < 1290) ∧ fin (l2 + 1) then
      some (.inl ((l2 + 1), (fup M 124 ((l1 + 335) + l2).toNat 1)))
    else none
theorem s_X12_begin_b53_ok {d L : Nat} {M : fM} {l1 l2 : Int} {r : ((Int × fM) ⊕ fM)} {Q : fO → fH → Prop} (h : s_X12_begin_b53 M l1 l2 = some r) (hC : ∀ (l2' : Int) (M' : fM), r = .inl (l2', M') → Wp (d + 0, 204, 53, 0, 0, [some (fA 122), some (fI l1), some (fI l2')], []) (156, fjl L, M') Q) (hE : ∀ (e : fM) (o2' : Option fV), r = .inr e → Wp (d + 0, 204, 79, 0, 0, [some (fA 122), some (fI l1), o2'], []) (156, fjl L, e) Q) : Wp (d + 0, 204, 53, 0, 0, [some (fA 122), some (fI l1), some (fI l2)], []) (156, fjl L, M) Q := by
  unfold s_X12_begin_b53 at h
  refine Wp.run 2 (f' := (d + 0, 204, 57, 0, 0, [some (fA 122), some (fI l1), some (fI l2)], [fI 192, fI l2])) (h' := (156, fjl L, M)) rfl trivial ?_
  refine Wp.br rfl (fun (c : 192 ≤ l2) => ?_) (fun (c : ¬ (192 ≤ l2)) => ?_)
  · replace h := fps c h
    exact hE _ _ (Option.some.inj h).symm
  · replace h := fng c h
    obtain ⟨⟨g0, g1, g2, g3⟩, h⟩ := fgd h
    refine Wp.run 11 (P := [0 ≤ (fw ((fw (l1 + 335)) + l2)) ∧ (fw ((fw (l1 + 335)) + l2)) < 1290]) (f' := (d + 0, 204, 53, 0, 0, [some (fA 122), some (fI l1), some (fI (fw (l2 + 1)))], [])) (h' := (156, fjl L, (fup M 124 (fw ((fw (l1 + 335)) + l2)).toNat 1))) rfl ?_ ?_
    · rw [fw_id g0, fw_id g1]; exact g2
    rw [fw_id g3, fw_id g0, fw_id g1]
    exact hC _ _ (Option.some.inj h).symm
theorem s_X12_begin_b53_fr {M : fM} {l1 l2 : Int} {r : ((Int × fM) ⊕ fM)} (h : s_X12_begin_b53 M l1 l2 = some r) : fSame s_X12_begin_mods M (Sum.elim (fun s => s.2) (fun e => e) r) := by
  unfold s_X12_begin_b53 at h
  by_cases c : 192 ≤ l2
  · replace h := fps c h
    obtain rfl := Option.some.inj h
    exact fs_refl
  · replace h := fng c h
    replace h := (fgd h).2
    obtain rfl := Option.some.inj h
    exact fs_up fs_refl (.inl (by decide))
noncomputable def s_X12_begin_l53 (l1 : Int) (s : (Int × fM)) : Option fM := fLp (fun s => s_X12_begin_b53 s.2 l1 s.1) s
theorem s_X12_begin_l53_ok {d L : Nat} {M : fM} {l1 l2 : Int} {r : fM} {Q : fO → fH → Prop} (h : s_X12_begin_l53 l1 (l2, M) = some r) (hE : ∀ (e : fM) (o2' : Option fV), r = e → Wp (d + 0, 204, 79, 0, 0, [some (fA 122), some (fI l1), o2'], []) (156, fjl L, e) Q) : Wp (d + 0, 204, 53, 0, 0, [some (fA 122), some (fI l1), some (fI l2)], []) (156, fjl L, M) Q := by
  refine fLp_wp (W := fun s => Wp (d + 0, 204, 53, 0, 0, [some (fA 122), some (fI l1), some (fI s.1)], []) (156, fjl L, s.2) Q) (e := r) ?_ h
  intro s r1 h hC hX
  refine s_X12_begin_b53_ok (d := d) h (fun a0 a1 e1 => ?_) (fun e u0 e1 => hE e u0 (hX _ e1).symm)
  exact hC _ e1
theorem s_X12_begin_l53_fr {M : fM} {l1 l2 : Int} {r : fM} (h : s_X12_begin_l53 l1 (l2, M) = some r) : fSame s_X12_begin_mods M ((fun e => e) r) := by
  refine fLp_inv (I := fun s => fSame s_X12_begin_mods M s.2) (J := fun r => fSame s_X12_begin_mods M ((fun e => e) r)) h fs_refl (fun s s1 hs hb => ?_) (fun s e hs hb => ?_)
  · exact fs_trans hs (s_X12_begin_b53_fr hb)
  · exact fs_trans hs (s_X12_begin_b53_fr hb)
noncomputable def s_X12_begin (M : fM) (l1 : Int) : Option (Unit × fM) :=
  (s_X12_begin_l2 l1 (0, M)).bind fun e2 =>
    (s_X12_begin_l26 l1 (0, e2)).bind fun e26 =>
      (s_X12_begin_l53 l1 (0, e26)).bind fun e53 =>
        if fin (l1 + 168) ∧ (0 ≤ (l1 + 168) ∧ (l1 + 168) < 1290) ∧ fin (l1 + 169) ∧ (0 ≤ (l1 + 169) ∧ (l1 + 169) < 1290) then
          if fin (l1 + 170) ∧ (0 ≤ (l1 + 170) ∧ (l1 + 170) < 1290) ∧ fin (l1 + 171) ∧ (0 ≤ (l1 + 171) ∧ (l1 + 171) < 1290) then
            some ((), (fup (fup (fup (fup e53 124 (l1 + 168).toNat 5) 124 (l1 + 169).toNat 60) 124 (l1 + 170).toNat 480) 124 (l1 + 171).toNat 1080))
          else none
        else none
theorem s_X12_begin_ok {d L : Nat} {M : fM} {l1 : Int} {r : (Unit × fM)} {Q : fO → fH → Prop} (h : s_X12_begin M l1 = some r) (H : Q (oV r.1) (156, fjl L, r.2)) : Wp (d + 0, 204, 0, 0, 0, [some (fA 122), some (fI l1), none], []) (156, fjl L, M) Q := by
  unfold s_X12_begin at h
  refine Wp.run 2 (f' := (d + 0, 204, 2, 0, 0, [some (fA 122), some (fI l1), some (fI 0)], [])) (h' := (156, fjl L, M)) rfl trivial ?_
  obtain ⟨e2, hy, h⟩ := fbd h
  refine s_X12_begin_l2_ok hy (fun x u2 ex => ?_)
  cases ex
  show Wp (d + 0, 204, 24, 0, 0, [some (fA 122), some (fI l1), u2], []) (156, fjl L, e2) Q
  refine Wp.run 2 (f' := (d + 0, 204, 26, 0, 0, [some (fA 122), some (fI l1), some (fI 0)], [])) (h' := (156, fjl L, e2)) rfl trivial ?_
  obtain ⟨e26, hy, h⟩ := fbd h
  refine s_X12_begin_l26_ok hy (fun x u2 ex => ?_)
  cases ex
  show Wp (d + 0, 204, 51, 0, 0, [some (fA 122), some (fI l1), u2], []) (156, fjl L, e26) Q
  refine Wp.run 2 (f' := (d + 0, 204, 53, 0, 0, [some (fA 122), some (fI l1), some (fI 0)], [])) (h' := (156, fjl L, e26)) rfl trivial ?_
  obtain ⟨e53, hy, h⟩ := fbd h
  refine s_X12_begin_l53_ok hy (fun x u2 ex => ?_)
  cases ex
  show Wp (d + 0, 204, 79, 0, 0, [some (fA 122), some (fI l1), u2], []) (156, fjl L, e53) Q
  obtain ⟨⟨g0, g1, g2, g3⟩, h⟩ := fgd h
  refine Wp.run 14 (P := [0 ≤ (fw (l1 + 168)) ∧ (fw (l1 + 168)) < 1290, 0 ≤ (fw (l1 + 169)) ∧ (fw (l1 + 169)) < 1290]) (f' := (d + 0, 204, 102, 0, 0, [some (fA 122), some (fI l1), _], [])) (h' := (156, fjl L, (fup (fup e53 124 (fw (l1 + 168)).toNat 5) 124 (fw (l1 + 169)).toNat 60))) rfl ?_ ?_
  · rw [fw_id g0, fw_id g2]; exact ⟨g1, g3⟩
  rw [fw_id g0, fw_id g2]
  obtain ⟨⟨g0, g1, g2, g3⟩, h⟩ := fgd h
  refine Wp.run 14 (P := [0 ≤ (fw (l1 + 170)) ∧ (fw (l1 + 170)) < 1290, 0 ≤ (fw (l1 + 171)) ∧ (fw (l1 + 171)) < 1290]) (f' := (d + 0, 204, 128, 0, 0, [_, _, _], [])) (h' := (156, fjl L, (fup (fup (fup (fup e53 124 (l1 + 168).toNat 5) 124 (l1 + 169).toNat 60) 124 (fw (l1 + 170)).toNat 480) 124 (fw (l1 + 171)).toNat 1080))) rfl ?_ ?_
  · rw [fw_id g0, fw_id g2]; exact ⟨g1, g3⟩
  rw [fw_id g0, fw_id g2]
  obtain rfl := Option.some.inj h
  exact Wp.done rfl (by decide) H
theorem s_X12_begin_fr {M : fM} {l1 : Int} {r : (Unit × fM)} (h : s_X12_begin M l1 = some r) : fSame s_X12_begin_mods M r.2 := by
  unfold s_X12_begin at h
  obtain ⟨e2, hy, h⟩ := fbd h
  have k2 := fs_trans (l := s_X12_begin_mods) fs_refl (s_X12_begin_l2_fr hy)
  obtain ⟨e26, hy, h⟩ := fbd h
  have k26 := fs_trans (l := s_X12_begin_mods) k2 (s_X12_begin_l26_fr hy)
  obtain ⟨e53, hy, h⟩ := fbd h
  have k53 := fs_trans (l := s_X12_begin_mods) k26 (s_X12_begin_l53_fr hy)
  replace h := (fgd h).2
  replace h := (fgd h).2
  obtain rfl := Option.some.inj h
  exact fs_up (fs_up (fs_up (fs_up k53 (.inl (by decide))) (.inl (by decide))) (.inl (by decide))) (.inl (by decide))
noncomputable def s_X12_peek (M : fM) : Option Int :=
  if (M 122 3) ≤ (M 122 4) then
    some (-1)
  else
    if (0 ≤ (M 122 4) ∧ (M 122 4) < 1240) then
      some (fand (M 123 (M 122 4).toNat) 255)
    else none
theorem s_X12_peek_ok {d L : Nat} {M : fM} {r : Int} {Q : fO → fH → Prop} (h : s_X12_peek M = some r) (H : Q (oI r) (156, fjl L, M)) : Wp (d + 0, 205, 0, 0, 0, [some (fA 122)], []) (156, fjl L, M) Q := by
  unfold s_X12_peek at h
  refine Wp.run 4 (f' := (d + 0, 205, 8, 0, 0, [some (fA 122)], [fI (M 122 3), fI (M 122 4)])) (h' := (156, fjl L, M)) rfl trivial ?_
  refine Wp.br rfl (fun (c : (M 122 3) ≤ (M 122 4)) => ?_) (fun (c : ¬ ((M 122 3) ≤ (M 122 4))) => ?_)
  · replace h := fps c h
    refine Wp.run 1 (f' := (d + 0, 205, 28, 0, 0, [_], [fI (-1)])) (h' := (156, fjl L, M)) rfl trivial ?_
    obtain rfl := Option.some.inj h
    exact Wp.done rfl (by decide) H
  · replace h := fng c h
    obtain ⟨g0, h⟩ := fgd h
    refine Wp.run 8 (P := [0 ≤ (M 122 4) ∧ (M 122 4) < 1240]) (f' := (d + 0, 205, 28, 0, 0, [_], [fI (fand (M 123 (M 122 4).toNat) 255)])) (h' := (156, fjl L, M)) rfl ?_ ?_
    · exact g0
    obtain rfl := Option.some.inj h
    exact Wp.done rfl (by decide) H
noncomputable def s_X12_isSmall (M : fM) (l0 : Int) : Option Int :=
  if l0 < 97 then
    some 0
  else
    if 122 < l0 then
      some 0
    else
      some 1
theorem s_X12_isSmall_ok {d L : Nat} {M : fM} {l0 : Int} {r : Int} {Q : fO → fH → Prop} (h : s_X12_isSmall M l0 = some r) (H : Q (oI r) (156, fjl L, M)) : Wp (d + 0, 206, 0, 0, 0, [some (fI l0)], []) (156, fjl L, M) Q := by
  unfold s_X12_isSmall at h
  refine Wp.run 2 (f' := (d + 0, 206, 3, 0, 0, [some (fI l0)], [fI 97, fI l0])) (h' := (156, fjl L, M)) rfl trivial ?_
  refine Wp.br rfl (fun (c : l0 < 97) => ?_) (fun (c : ¬ (l0 < 97)) => ?_)
  · replace h := fps c h
    refine Wp.run 1 (f' := (d + 0, 206, 17, 0, 0, [_], [fI 0])) (h' := (156, fjl L, M)) rfl trivial ?_
    obtain rfl := Option.some.inj h
    exact Wp.done rfl (by decide) H
  · replace h := fng c h
    refine Wp.run 2 (f' := (d + 0, 206, 9, 0, 0, [_], [fI 122, fI l0])) (h' := (156, fjl L, M)) rfl trivial ?_
    refine Wp.br rfl (fun (c : 122 < l0) => ?_) (fun (c : ¬ (122 < l0)) => ?_)
    · replace h := fps c h
      refine Wp.run 1 (f' := (d + 0, 206, 17, 0, 0, [_], [fI 0])) (h' := (156, fjl L, M)) rfl trivial ?_
      obtain rfl := Option.some.inj h
      exact Wp.done rfl (by decide) H
    · replace h := fng c h
      refine Wp.run 2 (f' := (d + 0, 206, 17, 0, 0, [_], [fI 1])) (h' := (156, fjl L, M)) rfl trivial ?_
      obtain rfl := Option.some.inj h
      exact Wp.done rfl (by decide) H
noncomputable def s_X12_isDigit (M : fM) (l0 : Int) : Option Int :=
  if l0 < 48 then
    some 0
  else
    if 57 < l0 then
      some 0
    else
      some 1
theorem s_X12_isDigit_ok {d L : Nat} {M : fM} {l0 : Int} {r : Int} {Q : fO → fH → Prop} (h : s_X12_isDigit M l0 = some r) (H : Q (oI r) (156, fjl L, M)) : Wp (d + 0, 207, 0, 0, 0, [some (fI l0)], []) (156, fjl L, M) Q := by
  unfold s_X12_isDigit at h
  refine Wp.run 2 (f' := (d + 0, 207, 3, 0, 0, [some (fI l0)], [fI 48, fI l0])) (h' := (156, fjl L, M)) rfl trivial ?_
  refine Wp.br rfl (fun (c : l0 < 48) => ?_) (fun (c : ¬ (l0 < 48)) => ?_)
  · replace h := fps c h
    refine Wp.run 1 (f' := (d + 0, 207, 17, 0, 0, [_], [fI 0])) (h' := (156, fjl L, M)) rfl trivial ?_
    obtain rfl := Option.some.inj h
    exact Wp.done rfl (by decide) H
  · replace h := fng c h
    refine Wp.run 2 (f' := (d + 0, 207, 9, 0, 0, [_], [fI 57, fI l0])) (h' := (156, fjl L, M)) rfl trivial ?_
    refine Wp.br rfl (fun (c : 57 < l0) => ?_) (fun (c : ¬ (57 < l0)) => ?_)
    · replace h := fps c h
      refine Wp.run 1 (f' := (d + 0, 207, 17, 0, 0, [_], [fI 0])) (h' := (156, fjl L, M)) rfl trivial ?_
      obtain rfl := Option.some.inj h
      exact Wp.done rfl (by decide) H
    · replace h := fng c h
      refine Wp.run 2 (f' := (d + 0, 207, 17, 0, 0, [_], [fI 1])) (h' := (156, fjl L, M)) rfl trivial ?_
      obtain rfl := Option.some.inj h
      exact Wp.done rfl (by decide) H
abbrev s_X12_next_mods : List (Nat × Option Nat) := [(122, some 4), (122, some 11), (122, some 12), (122, some 13), (122, some 14), (122, some 17)]
noncomputable def s_X12_next_b0 (M : fM) : Option (fM ⊕ fM) :=
  (s_X12_peek M).bind fun y1 =>
    if y1 = 32 then
      if fin ((M 122 4) + 1) then
        some (.inl (fup M 122 4 ((M 122 4) + 1)))
      else none
    else
      (s_X12_peek M).bind fun y10 =>
        if ¬ y10 = 10 then
          some (.inr M)
        else
          if fin ((M 122 4) + 1) then
            some (.inl (fup M 122 4 ((M 122 4) + 1)))
          else none
theorem s_X12_next_b0_ok {d L : Nat} {M : fM} {o1 o2 o3 : Option fV} {r : (fM ⊕ fM)} {Q : fO → fH → Prop} (h : s_X12_next_b0 M = some r) (hC : ∀ (M' : fM) (o1' o2' o3' : Option fV), r = .inl M' → Wp (d + 1, 208, 0, 0, 0, [some (fA 122), o1', o2', o3'], []) (156, fjl L, M') Q) (hE : ∀ (e : fM) (o1' o2' o3' : Option fV), r = .inr e → Wp (d + 1, 208, 31, 0, 0, [some (fA 122), o1', o2', o3'], []) (156, fjl L, e) Q) : Wp (d + 1, 208, 0, 0, 0, [some (fA 122), o1, o2, o3], []) (156, fjl L, M) Q := by
  unfold s_X12_next_b0 at h
  refine Wp.run 1 (f' := (d + 1, 208, 1, 0, 0, [some (fA 122), _, _, _], [fA 122])) (h' := (156, fjl L, M)) rfl trivial ?_
  obtain ⟨y1, hy, h⟩ := fbd h
  refine Wp.call rfl (by decide) (s_X12_peek_ok (d := d + 0) hy ?_)
  show Wp (d + 1, 208, 4, 0, 0, [some (fA 122), _, _, _], [fI y1]) (156, fjl L, M) Q
  refine Wp.run 1 (f' := (d + 1, 208, 6, 0, 0, [some (fA 122), _, _, _], [fI 32, fI y1])) (h' := (156, fjl L, M)) rfl trivial ?_
  refine Wp.br rfl (fun (c : y1 = 32) => ?_) (fun (c : ¬ (y1 = 32)) => ?_)
  · replace h := fps c h
    obtain ⟨g0, h⟩ := fgd h
    refine Wp.run 7 (f' := (d + 1, 208, 0, 0, 0, [some (fA 122), _, _, _], [])) (h' := (156, fjl L, (fup M 122 4 (fw ((M 122 4) + 1))))) rfl trivial ?_
    rw [fw_id g0]
    exact hC _ _ _ _ (Option.some.inj h).symm
  · replace h := fng c h
    refine Wp.run 1 (f' := (d + 1, 208, 10, 0, 0, [some (fA 122), _, _, _], [fA 122])) (h' := (156, fjl L, M)) rfl trivial ?_
    obtain ⟨y10, hy, h⟩ := fbd h
    refine Wp.call rfl (by decide) (s_X12_peek_ok (d := d + 0) hy ?_)
    show Wp (d + 1, 208, 13, 0, 0, [some (fA 122), _, _, _], [fI y10]) (156, fjl L, M) Q
    refine Wp.run 1 (f' := (d + 1, 208, 15, 0, 0, [some (fA 122), _, _, _], [fI 10, fI y10])) (h' := (156, fjl L, M)) rfl trivial ?_
    refine Wp.br rfl (fun (c : ¬ y10 = 10) => ?_) (fun (c : ¬ (¬ y10 = 10)) => ?_)
    · replace h := fps c h
      exact hE _ _ _ _ (Option.some.inj h).symm
    · replace h := fng c h
      obtain ⟨g0, h⟩ := fgd h
      refine Wp.run 7 (f' := (d + 1, 208, 0, 0, 0, [some (fA 122), _, _, _], [])) (h' := (156, fjl L, (fup M 122 4 (fw ((M 122 4) + 1))))) rfl trivial ?_
      rw [fw_id g0]
      exact hC _ _ _ _ (Option.some.inj h).symm
theorem s_X12_next_b0_fr {M : fM} {r : (fM ⊕ fM)} (h : s_X12_next_b0 M = some r) : fSame s_X12_next_mods M (Sum.elim (fun s => s) (fun e => e) r) := by
  unfold s_X12_next_b0 at h
  obtain ⟨y1, hy, h⟩ := fbd h
  by_cases c : y1 = 32
  · replace h := fps c h
    replace h := (fgd h).2
    obtain rfl := Option.some.inj h
    exact fs_up fs_refl (.inr (by decide))
  · replace h := fng c h
    obtain ⟨y10, hy, h⟩ := fbd h
    by_cases c : ¬ y10 = 10
    · replace h := fps c h
      obtain rfl := Option.some.inj h
      exact fs_refl
    · replace h := fng c h
      replace h := (fgd h).2
      obtain rfl := Option.some.inj h
      exact fs_up fs_refl (.inr (by decide))
noncomputable def s_X12_next_l0 (s : fM) : Option fM := fLp (fun s => s_X12_next_b0 s) s
theorem s_X12_next_l0_ok {d L : Nat} {M : fM} {o1 o2 o3 : Option fV} {r : fM} {Q : fO → fH → Prop} (h : s_X12_next_l0 M = some r) (hE : ∀ (e : fM) (o1' o2' o3' : Option fV), r = e → Wp (d + 1, 208, 31, 0, 0, [some (fA 122), o1', o2', o3'], []) (156, fjl L, e) Q) : Wp (d + 1, 208, 0, 0, 0, [some (fA 122), o1, o2, o3], []) (156, fjl L, M) Q := by
  refine fLp_wp (W := fun s => ∀ (o1 o2 o3 : Option fV), Wp (d + 1, 208, 0, 0, 0, [some (fA 122), o1, o2, o3], []) (156, fjl L, s) Q) (e := r) ?_ h _ _ _
  intro s r1 h hC hX o1 o2 o3
  refine s_X12_next_b0_ok (d := d) h (fun a0 _ _ _ e1 => ?_) (fun e u0 u1 u2 e1 => hE e u0 u1 u2 (hX _ e1).symm)
  exact hC _ e1 _ _ _
theorem s_X12_next_l0_fr {M : fM} {r : fM} (h : s_X12_next_l0 M = some r) : fSame s_X12_next_mods M ((fun e => e) r) := by
  refine fLp_inv (I := fun s => fSame s_X12_next_mods M s) (J := fun r => fSame s_X12_next_mods M ((fun e => e) r)) h fs_refl (fun s s1 hs hb => ?_) (fun s e hs hb => ?_)
  · exact fs_trans hs (s_X12_next_b0_fr hb)
  · exact fs_trans hs (s_X12_next_b0_fr hb)
noncomputable def s_X12_next_j263 (M : fM) (l2 l3 : Int) : Option ((Int × fM) ⊕ (Int × fM)) :=
  if fin ((M 122 13) + 1) ∧ fin ((M 122 4) + 1) then
    some (.inl (l3, (fup (fup M 122 13 ((M 122 13) + 1)) 122 4 ((M 122 4) + 1))))
  else none
theorem s_X12_next_j263_ok {d L : Nat} {M : fM} {l2 l3 : Int} {o1 : Option fV} {r : ((Int × fM) ⊕ (Int × fM))} {Q : fO → fH → Prop} (h : s_X12_next_j263 M l2 l3 = some r) (hC : ∀ (l3' : Int) (M' : fM) (o1' : Option fV), r = .inl (l3', M') → Wp (d + 1, 208, 169, 0, 0, [some (fA 122), o1', some (fI l2), some (fI l3')], []) (156, fjl L, M') Q) (hE : ∀ (e : (Int × fM)) (o1' : Option fV), r = .inr e → Wp (d + 1, 208, 286, 0, 0, [some (fA 122), o1', some (fI l2), some (fI e.1)], []) (156, fjl L, e.2) Q) : Wp (d + 1, 208, 263, 0, 0, [some (fA 122), o1, some (fI l2), some (fI l3)], []) (156, fjl L, M) Q := by
  unfold s_X12_next_j263 at h
  obtain ⟨⟨g0, g1⟩, h⟩ := fgd h
  refine Wp.run 12 (f' := (d + 1, 208, 283, 0, 0, [some (fA 122), _, some (fI l2), some (fI l3)], [])) (h' := (156, fjl L, (fup (fup M 122 13 (fw ((M 122 13) + 1))) 122 4 (fw ((M 122 4) + 1))))) rfl trivial ?_
  rw [fw_id g0, fw_id g1]
  refine Wp.run 1 (f' := (d + 1, 208, 169, 0, 0, [some (fA 122), _, some (fI l2), some (fI l3)], [])) (h' := (156, fjl L, (fup (fup M 122 13 ((M 122 13) + 1)) 122 4 ((M 122 4) + 1)))) rfl trivial ?_
  exact hC _ _ _ (Option.some.inj h).symm
theorem s_X12_next_j263_fr {M : fM} {l2 l3 : Int} {r : ((Int × fM) ⊕ (Int × fM))} (h : s_X12_next_j263 M l2 l3 = some r) : fSame s_X12_next_mods M (Sum.elim (fun s => s.2) (fun e => e.2) r) := by
  unfold s_X12_next_j263 at h
  replace h := (fgd h).2
  obtain rfl := Option.some.inj h
  exact fs_up (fs_up fs_refl (.inr (by decide))) (.inr (by decide))
noncomputable def s_X12_next_j236 (M : fM) (l2 l3 : Int) : Option ((Int × fM) ⊕ (Int × fM)) :=
  if 5 ≤ (M 122 13) then
    s_X12_next_j263 M l2 l3
  else
    if fin (10 * (M 122 14)) then
      (s_X12_peek M).bind fun y253 =>
        if fin ((10 * (M 122 14)) + y253) ∧ fin (((10 * (M 122 14)) + y253) - 48) then
          s_X12_next_j263 (fup M 122 14 (((10 * (M 122 14)) + y253) - 48)) l2 l3
        else none
    else none
theorem s_X12_next_j236_ok {d L : Nat} {M : fM} {l2 l3 : Int} {o1 : Option fV} {r : ((Int × fM) ⊕ (Int × fM))} {Q : fO → fH → Prop} (h : s_X12_next_j236 M l2 l3 = some r) (hC : ∀ (l3' : Int) (M' : fM) (o1' : Option fV), r = .inl (l3', M') → Wp (d + 1, 208, 169, 0, 0, [some (fA 122), o1', some (fI l2), some (fI l3')], []) (156, fjl L, M') Q) (hE : ∀ (e : (Int × fM)) (o1' : Option fV), r = .inr e → Wp (d + 1, 208, 286, 0, 0, [some (fA 122), o1', some (fI l2), some (fI e.1)], []) (156, fjl L, e.2) Q) : Wp (d + 1, 208, 236, 0, 0, [some (fA 122), o1, some (fI l2), some (fI l3)], []) (156, fjl L, M) Q := by
  unfold s_X12_next_j236 at h
  refine Wp.run 3 (f' := (d + 1, 208, 241, 0, 0, [some (fA 122), _, some (fI l2), some (fI l3)], [fI 5, fI (M 122 13)])) (h' := (156, fjl L, M)) rfl trivial ?_
  refine Wp.br rfl (fun (c : 5 ≤ (M 122 13)) => ?_) (fun (c : ¬ (5 ≤ (M 122 13))) => ?_)
  · replace h := fps c h
    exact s_X12_next_j263_ok h hC hE
  · replace h := fng c h
    obtain ⟨g0, h⟩ := fgd h
    refine Wp.run 6 (f' := (d + 1, 208, 253, 0, 0, [some (fA 122), _, some (fI l2), some (fI l3)], [fA 122, fI (fw (10 * (M 122 14))), fA 122])) (h' := (156, fjl L, M)) rfl trivial ?_
    rw [fw_id g0]
    obtain ⟨y253, hy, h⟩ := fbd h
    refine Wp.call rfl (by decide) (s_X12_peek_ok (d := d + 0) hy ?_)
    show Wp (d + 1, 208, 256, 0, 0, [some (fA 122), _, some (fI l2), some (fI l3)], [fI y253, fI (10 * (M 122 14)), fA 122]) (156, fjl L, M) Q
    obtain ⟨⟨g0, g1⟩, h⟩ := fgd h
    refine Wp.run 4 (f' := (d + 1, 208, 263, 0, 0, [some (fA 122), _, some (fI l2), some (fI l3)], [])) (h' := (156, fjl L, (fup M 122 14 (fw ((fw ((10 * (M 122 14)) + y253)) - 48))))) rfl trivial ?_
    rw [fw_id g0, fw_id g1]
    exact s_X12_next_j263_ok h hC hE
theorem s_X12_next_j236_fr {M : fM} {l2 l3 : Int} {r : ((Int × fM) ⊕ (Int × fM))} (h : s_X12_next_j236 M l2 l3 = some r) : fSame s_X12_next_mods M (Sum.elim (fun s => s.2) (fun e => e.2) r) := by
  unfold s_X12_next_j236 at h
  by_cases c : 5 ≤ (M 122 13)
  · replace h := fps c h
    exact fs_trans fs_refl (s_X12_next_j263_fr h)
  · replace h := fng c h
    replace h := (fgd h).2
    obtain ⟨y253, hy, h⟩ := fbd h
    replace h := (fgd h).2
    exact fs_trans (fs_up fs_refl (.inr (by decide))) (s_X12_next_j263_fr h)
noncomputable def s_X12_next_j209 (M : fM) (l2 t0 : Int) : Option ((Int × fM) ⊕ (Int × fM)) :=
  if 8 ≤ (M 122 13) then
    s_X12_next_j236 M l2 t0
  else
    (s_X12_peek M).bind fun y228 =>
      s_X12_next_j236 (fup M 122 17 (flor (fls (M 122 17) 8) y228)) l2 t0
theorem s_X12_next_j209_ok {d L : Nat} {M : fM} {l2 t0 : Int} {o1 o3 : Option fV} {r : ((Int × fM) ⊕ (Int × fM))} {Q : fO → fH → Prop} (h : s_X12_next_j209 M l2 t0 = some r) (hC : ∀ (l3' : Int) (M' : fM) (o1' : Option fV), r = .inl (l3', M') → Wp (d + 1, 208, 169, 0, 0, [some (fA 122), o1', some (fI l2), some (fI l3')], []) (156, fjl L, M') Q) (hE : ∀ (e : (Int × fM)) (o1' : Option fV), r = .inr e → Wp (d + 1, 208, 286, 0, 0, [some (fA 122), o1', some (fI l2), some (fI e.1)], []) (156, fjl L, e.2) Q) : Wp (d + 1, 208, 209, 0, 0, [some (fA 122), o1, some (fI l2), o3], [fI t0]) (156, fjl L, M) Q := by
  unfold s_X12_next_j209 at h
  refine Wp.run 4 (f' := (d + 1, 208, 216, 0, 0, [some (fA 122), _, some (fI l2), some (fI t0)], [fI 8, fI (M 122 13)])) (h' := (156, fjl L, M)) rfl trivial ?_
  refine Wp.br rfl (fun (c : 8 ≤ (M 122 13)) => ?_) (fun (c : ¬ (8 ≤ (M 122 13))) => ?_)
  · replace h := fps c h
    exact s_X12_next_j236_ok h hC hE
  · replace h := fng c h
    refine Wp.run 6 (f' := (d + 1, 208, 228, 0, 0, [some (fA 122), _, some (fI l2), some (fI t0)], [fA 122, fJ (fls (M 122 17) 8), fA 122])) (h' := (156, fjl L, M)) rfl trivial ?_
    obtain ⟨y228, hy, h⟩ := fbd h
    refine Wp.call rfl (by decide) (s_X12_peek_ok (d := d + 0) hy ?_)
    show Wp (d + 1, 208, 231, 0, 0, [some (fA 122), _, some (fI l2), some (fI t0)], [fI y228, fJ (fls (M 122 17) 8), fA 122]) (156, fjl L, M) Q
    refine Wp.run 3 (f' := (d + 1, 208, 236, 0, 0, [some (fA 122), _, some (fI l2), some (fI t0)], [])) (h' := (156, fjl L, (fup M 122 17 (flor (fls (M 122 17) 8) y228)))) rfl trivial ?_
    exact s_X12_next_j236_ok h hC hE
theorem s_X12_next_j209_fr {M : fM} {l2 t0 : Int} {r : ((Int × fM) ⊕ (Int × fM))} (h : s_X12_next_j209 M l2 t0 = some r) : fSame s_X12_next_mods M (Sum.elim (fun s => s.2) (fun e => e.2) r) := by
  unfold s_X12_next_j209 at h
  by_cases c : 8 ≤ (M 122 13)
  · replace h := fps c h
    exact fs_trans fs_refl (s_X12_next_j236_fr h)
  · replace h := fng c h
    obtain ⟨y228, hy, h⟩ := fbd h
    exact fs_trans (fs_up fs_refl (.inr (by decide))) (s_X12_next_j236_fr h)
noncomputable def s_X12_next_j208 (M : fM) (l2 : Int) : Option ((Int × fM) ⊕ (Int × fM)) :=
  s_X12_next_j209 M l2 0
theorem s_X12_next_j208_ok {d L : Nat} {M : fM} {l2 : Int} {o1 o3 : Option fV} {r : ((Int × fM) ⊕ (Int × fM))} {Q : fO → fH → Prop} (h : s_X12_next_j208 M l2 = some r) (hC : ∀ (l3' : Int) (M' : fM) (o1' : Option fV), r = .inl (l3', M') → Wp (d + 1, 208, 169, 0, 0, [some (fA 122), o1', some (fI l2), some (fI l3')], []) (156, fjl L, M') Q) (hE : ∀ (e : (Int × fM)) (o1' : Option fV), r = .inr e → Wp (d + 1, 208, 286, 0, 0, [some (fA 122), o1', some (fI l2), some (fI e.1)], []) (156, fjl L, e.2) Q) : Wp (d + 1, 208, 208, 0, 0, [some (fA 122), o1, some (fI l2), o3], []) (156, fjl L, M) Q := by
  unfold s_X12_next_j208 at h
  refine Wp.run 1 (f' := (d + 1, 208, 209, 0, 0, [some (fA 122), _, some (fI l2), _], [fI 0])) (h' := (156, fjl L, M)) rfl trivial ?_
  exact s_X12_next_j209_ok h hC hE
theorem s_X12_next_j208_fr {M : fM} {l2 : Int} {r : ((Int × fM) ⊕ (Int × fM))} (h : s_X12_next_j208 M l2 = some r) : fSame s_X12_next_mods M (Sum.elim (fun s => s.2) (fun e => e.2) r) := by
  unfold s_X12_next_j208 at h
  exact fs_trans fs_refl (s_X12_next_j209_fr h)
noncomputable def s_X12_next_j189 (M : fM) (l2 l3 : Int) : Option ((Int × fM) ⊕ (Int × fM)) :=
  if l3 = 0 then
    s_X12_next_j208 M l2
  else
    (s_X12_peek M).bind fun y194 =>
      (s_X12_isSmall M y194).bind fun y197 =>
        if ¬ y197 = l2 then
          s_X12_next_j208 M l2
        else
          s_X12_next_j209 M l2 1
theorem s_X12_next_j189_ok {d L : Nat} {M : fM} {l2 l3 : Int} {o1 : Option fV} {r : ((Int × fM) ⊕ (Int × fM))} {Q : fO → fH → Prop} (h : s_X12_next_j189 M l2 l3 = some r) (hC : ∀ (l3' : Int) (M' : fM) (o1' : Option fV), r = .inl (l3', M') → Wp (d + 1, 208, 169, 0, 0, [some (fA 122), o1', some (fI l2), some (fI l3')], []) (156, fjl L, M') Q) (hE : ∀ (e : (Int × fM)) (o1' : Option fV), r = .inr e → Wp (d + 1, 208, 286, 0, 0, [some (fA 122), o1', some (fI l2), some (fI e.1)], []) (156, fjl L, e.2) Q) : Wp (d + 1, 208, 189, 0, 0, [some (fA 122), o1, some (fI l2), some (fI l3)], []) (156, fjl L, M) Q := by
  unfold s_X12_next_j189 at h
  refine Wp.run 1 (f' := (d + 1, 208, 190, 0, 0, [some (fA 122), _, some (fI l2), _], [fI l3])) (h' := (156, fjl L, M)) rfl trivial ?_
  refine Wp.br rfl (fun (c : l3 = 0) => ?_) (fun (c : ¬ (l3 = 0)) => ?_)
  · replace h := fps c h
    exact s_X12_next_j208_ok h hC hE
  · replace h := fng c h
    refine Wp.run 1 (f' := (d + 1, 208, 194, 0, 0, [some (fA 122), _, some (fI l2), _], [fA 122])) (h' := (156, fjl L, M)) rfl trivial ?_
    obtain ⟨y194, hy, h⟩ := fbd h
    refine Wp.call rfl (by decide) (s_X12_peek_ok (d := d + 0) hy ?_)
    show Wp (d + 1, 208, 197, 0, 0, [some (fA 122), _, some (fI l2), _], [fI y194]) (156, fjl L, M) Q
    obtain ⟨y197, hy, h⟩ := fbd h
    refine Wp.call rfl (by decide) (s_X12_isSmall_ok (d := d + 0) hy ?_)
    show Wp (d + 1, 208, 200, 0, 0, [some (fA 122), _, some (fI l2), _], [fI y197]) (156, fjl L, M) Q
    refine Wp.run 1 (f' := (d + 1, 208, 201, 0, 0, [some (fA 122), _, some (fI l2), _], [fI l2, fI y197])) (h' := (156, fjl L, M)) rfl trivial ?_
    refine Wp.br rfl (fun (c : ¬ y197 = l2) => ?_) (fun (c : ¬ (¬ y197 = l2)) => ?_)
    · replace h := fps c h
      exact s_X12_next_j208_ok h hC hE
    · replace h := fng c h
      refine Wp.run 2 (f' := (d + 1, 208, 209, 0, 0, [some (fA 122), _, some (fI l2), _], [fI 1])) (h' := (156, fjl L, M)) rfl trivial ?_
      exact s_X12_next_j209_ok h hC hE
theorem s_X12_next_j189_fr {M : fM} {l2 l3 : Int} {r : ((Int × fM) ⊕ (Int × fM))} (h : s_X12_next_j189 M l2 l3 = some r) : fSame s_X12_next_mods M (Sum.elim (fun s => s.2) (fun e => e.2) r) := by
  unfold s_X12_next_j189 at h
  by_cases c : l3 = 0
  · replace h := fps c h
    exact fs_trans fs_refl (s_X12_next_j208_fr h)
  · replace h := fng c h
    obtain ⟨y194, hy, h⟩ := fbd h
    obtain ⟨y197, hy, h⟩ := fbd h
    by_cases c : ¬ y197 = l2
    · replace h := fps c h
      exact fs_trans fs_refl (s_X12_next_j208_fr h)
    · replace h := fng c h
      exact fs_trans fs_refl (s_X12_next_j209_fr h)
noncomputable def s_X12_next_b169 (M : fM) (l2 l3 : Int) : Option ((Int × fM) ⊕ (Int × fM)) :=
  (s_X12_peek M).bind fun y170 =>
    (s_X12_isSmall M y170).bind fun y173 =>
      if ¬ y173 = 0 then
        s_X12_next_j189 M l2 l3
      else
        (s_X12_peek M).bind fun y180 =>
          (s_X12_isDigit M y180).bind fun y183 =>
            if y183 = 0 then
              some (.inr (l3, M))
            else
              s_X12_next_j189 M l2 l3
theorem s_X12_next_b169_ok {d L : Nat} {M : fM} {l2 l3 : Int} {o1 : Option fV} {r : ((Int × fM) ⊕ (Int × fM))} {Q : fO → fH → Prop} (h : s_X12_next_b169 M l2 l3 = some r) (hC : ∀ (l3' : Int) (M' : fM) (o1' : Option fV), r = .inl (l3', M') → Wp (d + 1, 208, 169, 0, 0, [some (fA 122), o1', some (fI l2), some (fI l3')], []) (156, fjl L, M') Q) (hE : ∀ (e : (Int × fM)) (o1' : Option fV), r = .inr e → Wp (d + 1, 208, 286, 0, 0, [some (fA 122), o1', some (fI l2), some (fI e.1)], []) (156, fjl L, e.2) Q) : Wp (d + 1, 208, 169, 0, 0, [some (fA 122), o1, some (fI l2), some (fI l3)], []) (156, fjl L, M) Q := by
  unfold s_X12_next_b169 at h
  refine Wp.run 1 (f' := (d + 1, 208, 170, 0, 0, [some (fA 122), _, some (fI l2), some (fI l3)], [fA 122])) (h' := (156, fjl L, M)) rfl trivial ?_
  obtain ⟨y170, hy, h⟩ := fbd h
  refine Wp.call rfl (by decide) (s_X12_peek_ok (d := d + 0) hy ?_)
  show Wp (d + 1, 208, 173, 0, 0, [some (fA 122), _, some (fI l2), some (fI l3)], [fI y170]) (156, fjl L, M) Q
  obtain ⟨y173, hy, h⟩ := fbd h
  refine Wp.call rfl (by decide) (s_X12_isSmall_ok (d := d + 0) hy ?_)
  show Wp (d + 1, 208, 176, 0, 0, [some (fA 122), _, some (fI l2), some (fI l3)], [fI y173]) (156, fjl L, M) Q
  refine Wp.br rfl (fun (c : ¬ y173 = 0) => ?_) (fun (c : ¬ (¬ y173 = 0)) => ?_)
  · replace h := fps c h
    exact s_X12_next_j189_ok h hC hE
  · replace h := fng c h
    refine Wp.run 1 (f' := (d + 1, 208, 180, 0, 0, [some (fA 122), _, some (fI l2), some (fI l3)], [fA 122])) (h' := (156, fjl L, M)) rfl trivial ?_
    obtain ⟨y180, hy, h⟩ := fbd h
    refine Wp.call rfl (by decide) (s_X12_peek_ok (d := d + 0) hy ?_)
    show Wp (d + 1, 208, 183, 0, 0, [some (fA 122), _, some (fI l2), some (fI l3)], [fI y180]) (156, fjl L, M) Q
    obtain ⟨y183, hy, h⟩ := fbd h
    refine Wp.call rfl (by decide) (s_X12_isDigit_ok (d := d + 0) hy ?_)
    show Wp (d + 1, 208, 186, 0, 0, [some (fA 122), _, some (fI l2), some (fI l3)], [fI y183]) (156, fjl L, M) Q
    refine Wp.br rfl (fun (c : y183 = 0) => ?_) (fun (c : ¬ (y183 = 0)) => ?_)
    · replace h := fps c h
      exact hE _ _ (Option.some.inj h).symm
    · replace h := fng c h
      exact s_X12_next_j189_ok h hC hE
theorem s_X12_next_b169_fr {M : fM} {l2 l3 : Int} {r : ((Int × fM) ⊕ (Int × fM))} (h : s_X12_next_b169 M l2 l3 = some r) : fSame s_X12_next_mods M (Sum.elim (fun s => s.2) (fun e => e.2) r) := by
  unfold s_X12_next_b169 at h
  obtain ⟨y170, hy, h⟩ := fbd h
  obtain ⟨y173, hy, h⟩ := fbd h
  by_cases c : ¬ y173 = 0
  · replace h := fps c h
    exact fs_trans fs_refl (s_X12_next_j189_fr h)
  · replace h := fng c h
    obtain ⟨y180, hy, h⟩ := fbd h
    obtain ⟨y183, hy, h⟩ := fbd h
    by_cases c : y183 = 0
    · replace h := fps c h
      obtain rfl := Option.some.inj h
      exact fs_refl
    · replace h := fng c h
      exact fs_trans fs_refl (s_X12_next_j189_fr h)
noncomputable def s_X12_next_l169 (l2 : Int) (s : (Int × fM)) : Option (Int × fM) := fLp (fun s => s_X12_next_b169 s.2 l2 s.1) s
theorem s_X12_next_l169_ok {d L : Nat} {M : fM} {l2 l3 : Int} {o1 : Option fV} {r : (Int × fM)} {Q : fO → fH → Prop} (h : s_X12_next_l169 l2 (l3, M) = some r) (hE : ∀ (e : (Int × fM)) (o1' : Option fV), r = e → Wp (d + 1, 208, 286, 0, 0, [some (fA 122), o1', some (fI l2), some (fI e.1)], []) (156, fjl L, e.2) Q) : Wp (d + 1, 208, 169, 0, 0, [some (fA 122), o1, some (fI l2), some (fI l3)], []) (156, fjl L, M) Q := by
  refine fLp_wp (W := fun s => ∀ (o1 : Option fV), Wp (d + 1, 208, 169, 0, 0, [some (fA 122), o1, some (fI l2), some (fI s.1)], []) (156, fjl L, s.2) Q) (e := r) ?_ h _
  intro s r1 h hC hX o1
  refine s_X12_next_b169_ok (d := d) h (fun a0 a1 _ e1 => ?_) (fun e u0 e1 => hE e u0 (hX _ e1).symm)
  exact hC _ e1 _
theorem s_X12_next_l169_fr {M : fM} {l2 l3 : Int} {r : (Int × fM)} (h : s_X12_next_l169 l2 (l3, M) = some r) : fSame s_X12_next_mods M ((fun e => e.2) r) := by
  refine fLp_inv (I := fun s => fSame s_X12_next_mods M s.2) (J := fun r => fSame s_X12_next_mods M ((fun e => e.2) r)) h fs_refl (fun s s1 hs hb => ?_) (fun s e hs hb => ?_)
  · exact fs_trans hs (s_X12_next_b169_fr hb)
  · exact fs_trans hs (s_X12_next_b169_fr hb)
noncomputable def s_X12_next_j305 (M : fM) (l2 t1 t2 : Int) : Option (Unit × fM) :=
  if t1 ≤ t2 then
    if l2 = 0 then
      some ((), (fup M 122 11 2))
    else
      some ((), (fup M 122 11 1))
  else
    some ((), (fup M 122 11 4))
theorem s_X12_next_j305_ok {d L : Nat} {M : fM} {l2 t1 t2 : Int} {o0 o1 o3 : Option fV} {r : (Unit × fM)} {Q : fO → fH → Prop} (h : s_X12_next_j305 M l2 t1 t2 = some r) (H : Q (oV r.1) (156, fjl L, r.2)) : Wp (d + 1, 208, 305, 0, 0, [o0, o1, some (fI l2), o3], [fI t2, fI t1, fA 122]) (156, fjl L, M) Q := by
  unfold s_X12_next_j305 at h
  refine Wp.br rfl (fun (c : t1 ≤ t2) => ?_) (fun (c : ¬ (t1 ≤ t2)) => ?_)
  · replace h := fps c h
    refine Wp.run 1 (f' := (d + 1, 208, 313, 0, 0, [_, _, _, _], [fI l2, fA 122])) (h' := (156, fjl L, M)) rfl trivial ?_
    refine Wp.br rfl (fun (c : l2 = 0) => ?_) (fun (c : ¬ (l2 = 0)) => ?_)
    · replace h := fps c h
      refine Wp.run 2 (f' := (d + 1, 208, 324, 0, 0, [_, _, _, _], [])) (h' := (156, fjl L, (fup M 122 11 2))) rfl trivial ?_
      obtain rfl := Option.some.inj h
      exact Wp.done rfl (by decide) H
    · replace h := fng c h
      refine Wp.run 3 (f' := (d + 1, 208, 324, 0, 0, [_, _, _, _], [])) (h' := (156, fjl L, (fup M 122 11 1))) rfl trivial ?_
      obtain rfl := Option.some.inj h
      exact Wp.done rfl (by decide) H
  · replace h := fng c h
    refine Wp.run 3 (f' := (d + 1, 208, 324, 0, 0, [_, _, _, _], [])) (h' := (156, fjl L, (fup M 122 11 4))) rfl trivial ?_
    obtain rfl := Option.some.inj h
    exact Wp.done rfl (by decide) H
theorem s_X12_next_j305_fr {M : fM} {l2 t1 t2 : Int} {r : (Unit × fM)} (h : s_X12_next_j305 M l2 t1 t2 = some r) : fSame s_X12_next_mods M r.2 := by
  unfold s_X12_next_j305 at h
  by_cases c : t1 ≤ t2
  · replace h := fps c h
    by_cases c : l2 = 0
    · replace h := fps c h
      obtain rfl := Option.some.inj h
      exact fs_up fs_refl (.inr (by decide))
    · replace h := fng c h
      obtain rfl := Option.some.inj h
      exact fs_up fs_refl (.inr (by decide))
  · replace h := fng c h
    obtain rfl := Option.some.inj h
    exact fs_up fs_refl (.inr (by decide))
noncomputable def s_X12_next_j152 (M : fM) (l1 : Int) : Option (Unit × fM) :=
  (s_X12_isSmall M l1).bind fun y153 =>
    (s_X12_next_l169 y153 (1, (fup (fup M 122 17 0) 122 14 0))).bind fun e169 =>
      if e169.1 = 0 then
        some ((), (fup e169.2 122 11 4))
      else
        if y153 = 0 then
          s_X12_next_j305 e169.2 y153 (e169.2 122 13) 5
        else
          s_X12_next_j305 e169.2 y153 (e169.2 122 13) 8
theorem s_X12_next_j152_ok {d L : Nat} {M : fM} {l1 : Int} {o2 o3 : Option fV} {r : (Unit × fM)} {Q : fO → fH → Prop} (h : s_X12_next_j152 M l1 = some r) (H : Q (oV r.1) (156, fjl L, r.2)) : Wp (d + 1, 208, 152, 0, 0, [some (fA 122), some (fI l1), o2, o3], []) (156, fjl L, M) Q := by
  unfold s_X12_next_j152 at h
  refine Wp.run 1 (f' := (d + 1, 208, 153, 0, 0, [some (fA 122), _, _, _], [fI l1])) (h' := (156, fjl L, M)) rfl trivial ?_
  obtain ⟨y153, hy, h⟩ := fbd h
  refine Wp.call rfl (by decide) (s_X12_isSmall_ok (d := d + 0) hy ?_)
  show Wp (d + 1, 208, 156, 0, 0, [some (fA 122), _, _, _], [fI y153]) (156, fjl L, M) Q
  refine Wp.run 9 (f' := (d + 1, 208, 169, 0, 0, [some (fA 122), _, some (fI y153), some (fI 1)], [])) (h' := (156, fjl L, (fup (fup M 122 17 0) 122 14 0))) rfl trivial ?_
  obtain ⟨e169, hy, h⟩ := fbd h
  refine s_X12_next_l169_ok hy (fun x u1 ex => ?_)
  cases ex
  show Wp (d + 1, 208, 286, 0, 0, [some (fA 122), u1, some (fI y153), some (fI e169.1)], []) (156, fjl L, e169.2) Q
  refine Wp.run 2 (f' := (d + 1, 208, 288, 0, 0, [some (fA 122), _, some (fI y153), _], [fI e169.1, fA 122])) (h' := (156, fjl L, e169.2)) rfl trivial ?_
  refine Wp.br rfl (fun (c : e169.1 = 0) => ?_) (fun (c : ¬ (e169.1 = 0)) => ?_)
  · replace h := fps c h
    refine Wp.run 3 (f' := (d + 1, 208, 324, 0, 0, [_, _, _, _], [])) (h' := (156, fjl L, (fup e169.2 122 11 4))) rfl trivial ?_
    obtain rfl := Option.some.inj h
    exact Wp.done rfl (by decide) H
  · replace h := fng c h
    refine Wp.run 3 (f' := (d + 1, 208, 296, 0, 0, [_, _, some (fI y153), _], [fI y153, fI (e169.2 122 13), fA 122])) (h' := (156, fjl L, e169.2)) rfl trivial ?_
    refine Wp.br rfl (fun (c : y153 = 0) => ?_) (fun (c : ¬ (y153 = 0)) => ?_)
    · replace h := fps c h
      refine Wp.run 1 (f' := (d + 1, 208, 305, 0, 0, [_, _, some (fI y153), _], [fI 5, fI (e169.2 122 13), fA 122])) (h' := (156, fjl L, e169.2)) rfl trivial ?_
      exact s_X12_next_j305_ok h H
    · replace h := fng c h
      refine Wp.run 2 (f' := (d + 1, 208, 305, 0, 0, [_, _, some (fI y153), _], [fI 8, fI (e169.2 122 13), fA 122])) (h' := (156, fjl L, e169.2)) rfl trivial ?_
      exact s_X12_next_j305_ok h H
theorem s_X12_next_j152_fr {M : fM} {l1 : Int} {r : (Unit × fM)} (h : s_X12_next_j152 M l1 = some r) : fSame s_X12_next_mods M r.2 := by
  unfold s_X12_next_j152 at h
  obtain ⟨y153, hy, h⟩ := fbd h
  obtain ⟨e169, hy, h⟩ := fbd h
  have k169 := fs_trans (l := s_X12_next_mods) (fs_up (fs_up fs_refl (.inr (by decide))) (.inr (by decide))) (s_X12_next_l169_fr hy)
  by_cases c : e169.1 = 0
  · replace h := fps c h
    obtain rfl := Option.some.inj h
    exact fs_up k169 (.inr (by decide))
  · replace h := fng c h
    by_cases c : y153 = 0
    · replace h := fps c h
      exact fs_trans k169 (s_X12_next_j305_fr h)
    · replace h := fng c h
      exact fs_trans k169 (s_X12_next_j305_fr h)
noncomputable def s_X12_next_j133 (M : fM) (l1 t1 : Int) : Option (Unit × fM) :=
  if fin ((M 122 4) + 1) then
    some ((), (fup (fup (fup M 122 11 t1) 122 14 l1) 122 4 ((M 122 4) + 1)))
  else none
theorem s_X12_next_j133_ok {d L : Nat} {M : fM} {l1 t1 : Int} {o2 o3 : Option fV} {r : (Unit × fM)} {Q : fO → fH → Prop} (h : s_X12_next_j133 M l1 t1 = some r) (H : Q (oV r.1) (156, fjl L, r.2)) : Wp (d + 1, 208, 133, 0, 0, [some (fA 122), some (fI l1), o2, o3], [fI t1, fA 122]) (156, fjl L, M) Q := by
  unfold s_X12_next_j133 at h
  obtain ⟨g0, h⟩ := fgd h
  refine Wp.run 10 (f' := (d + 1, 208, 151, 0, 0, [_, _, _, _], [])) (h' := (156, fjl L, (fup (fup (fup M 122 11 t1) 122 14 l1) 122 4 (fw ((M 122 4) + 1))))) rfl trivial ?_
  rw [fw_id g0]
  obtain rfl := Option.some.inj h
  exact Wp.done rfl (by decide) H
theorem s_X12_next_j133_fr {M : fM} {l1 t1 : Int} {r : (Unit × fM)} (h : s_X12_next_j133 M l1 t1 = some r) : fSame s_X12_next_mods M r.2 := by
  unfold s_X12_next_j133 at h
  replace h := (fgd h).2
  obtain rfl := Option.some.inj h
  exact fs_up (fs_up (fs_up fs_refl (.inr (by decide))) (.inr (by decide))) (.inr (by decide))
noncomputable def s_X12_next_j128 (M : fM) (l1 : Int) : Option (Unit × fM) :=
  s_X12_next_j133 M l1 3
theorem s_X12_next_j128_ok {d L : Nat} {M : fM} {l1 : Int} {o2 o3 : Option fV} {r : (Unit × fM)} {Q : fO → fH → Prop} (h : s_X12_next_j128 M l1 = some r) (H : Q (oV r.1) (156, fjl L, r.2)) : Wp (d + 1, 208, 128, 0, 0, [some (fA 122), some (fI l1), o2, o3], [fA 122]) (156, fjl L, M) Q := by
  unfold s_X12_next_j128 at h
  refine Wp.run 2 (f' := (d + 1, 208, 133, 0, 0, [some (fA 122), some (fI l1), _, _], [fI 3, fA 122])) (h' := (156, fjl L, M)) rfl trivial ?_
  exact s_X12_next_j133_ok h H
theorem s_X12_next_j128_fr {M : fM} {l1 : Int} {r : (Unit × fM)} (h : s_X12_next_j128 M l1 = some r) : fSame s_X12_next_mods M r.2 := by
  unfold s_X12_next_j128 at h
  exact fs_trans fs_refl (s_X12_next_j133_fr h)
noncomputable def s_X12_next_j80 (M : fM) : Option (Unit × fM) :=
  (s_X12_peek M).bind fun y81 =>
    if 0 ≤ y81 then
      (s_X12_isSmall M y81).bind fun y96 =>
        if ¬ y96 = 0 then
          s_X12_next_j152 M y81
        else
          (s_X12_isDigit M y81).bind fun y103 =>
            if ¬ y103 = 0 then
              s_X12_next_j152 M y81
            else
              if y81 = 59 then
                s_X12_next_j128 M y81
              else
                if y81 = 45 then
                  s_X12_next_j128 M y81
                else
                  if ¬ y81 = 46 then
                    s_X12_next_j133 M y81 4
                  else
                    s_X12_next_j128 M y81
    else
      some ((), (fup M 122 11 0))
theorem s_X12_next_j80_ok {d L : Nat} {M : fM} {o1 o2 o3 : Option fV} {r : (Unit × fM)} {Q : fO → fH → Prop} (h : s_X12_next_j80 M = some r) (H : Q (oV r.1) (156, fjl L, r.2)) : Wp (d + 1, 208, 80, 0, 0, [some (fA 122), o1, o2, o3], []) (156, fjl L, M) Q := by
  unfold s_X12_next_j80 at h
  refine Wp.run 1 (f' := (d + 1, 208, 81, 0, 0, [some (fA 122), _, _, _], [fA 122])) (h' := (156, fjl L, M)) rfl trivial ?_
  obtain ⟨y81, hy, h⟩ := fbd h
  refine Wp.call rfl (by decide) (s_X12_peek_ok (d := d + 0) hy ?_)
  show Wp (d + 1, 208, 84, 0, 0, [some (fA 122), _, _, _], [fI y81]) (156, fjl L, M) Q
  refine Wp.run 2 (f' := (d + 1, 208, 86, 0, 0, [some (fA 122), some (fI y81), _, _], [fI y81])) (h' := (156, fjl L, M)) rfl trivial ?_
  refine Wp.br rfl (fun (c : 0 ≤ y81) => ?_) (fun (c : ¬ (0 ≤ y81)) => ?_)
  · replace h := fps c h
    refine Wp.run 1 (f' := (d + 1, 208, 96, 0, 0, [some (fA 122), some (fI y81), _, _], [fI y81])) (h' := (156, fjl L, M)) rfl trivial ?_
    obtain ⟨y96, hy, h⟩ := fbd h
    refine Wp.call rfl (by decide) (s_X12_isSmall_ok (d := d + 0) hy ?_)
    show Wp (d + 1, 208, 99, 0, 0, [some (fA 122), some (fI y81), _, _], [fI y96]) (156, fjl L, M) Q
    refine Wp.br rfl (fun (c : ¬ y96 = 0) => ?_) (fun (c : ¬ (¬ y96 = 0)) => ?_)
    · replace h := fps c h
      exact s_X12_next_j152_ok h H
    · replace h := fng c h
      refine Wp.run 1 (f' := (d + 1, 208, 103, 0, 0, [some (fA 122), some (fI y81), _, _], [fI y81])) (h' := (156, fjl L, M)) rfl trivial ?_
      obtain ⟨y103, hy, h⟩ := fbd h
      refine Wp.call rfl (by decide) (s_X12_isDigit_ok (d := d + 0) hy ?_)
      show Wp (d + 1, 208, 106, 0, 0, [some (fA 122), some (fI y81), _, _], [fI y103]) (156, fjl L, M) Q
      refine Wp.br rfl (fun (c : ¬ y103 = 0) => ?_) (fun (c : ¬ (¬ y103 = 0)) => ?_)
      · replace h := fps c h
        exact s_X12_next_j152_ok h H
      · replace h := fng c h
        refine Wp.run 3 (f' := (d + 1, 208, 113, 0, 0, [some (fA 122), some (fI y81), _, _], [fI 59, fI y81, fA 122])) (h' := (156, fjl L, M)) rfl trivial ?_
        refine Wp.br rfl (fun (c : y81 = 59) => ?_) (fun (c : ¬ (y81 = 59)) => ?_)
        · replace h := fps c h
          exact s_X12_next_j128_ok h H
        · replace h := fng c h
          refine Wp.run 2 (f' := (d + 1, 208, 119, 0, 0, [some (fA 122), some (fI y81), _, _], [fI 45, fI y81, fA 122])) (h' := (156, fjl L, M)) rfl trivial ?_
          refine Wp.br rfl (fun (c : y81 = 45) => ?_) (fun (c : ¬ (y81 = 45)) => ?_)
          · replace h := fps c h
            exact s_X12_next_j128_ok h H
          · replace h := fng c h
            refine Wp.run 2 (f' := (d + 1, 208, 125, 0, 0, [some (fA 122), some (fI y81), _, _], [fI 46, fI y81, fA 122])) (h' := (156, fjl L, M)) rfl trivial ?_
            refine Wp.br rfl (fun (c : ¬ y81 = 46) => ?_) (fun (c : ¬ (¬ y81 = 46)) => ?_)
            · replace h := fps c h
              refine Wp.run 1 (f' := (d + 1, 208, 133, 0, 0, [some (fA 122), some (fI y81), _, _], [fI 4, fA 122])) (h' := (156, fjl L, M)) rfl trivial ?_
              exact s_X12_next_j133_ok h H
            · replace h := fng c h
              exact s_X12_next_j128_ok h H
  · replace h := fng c h
    refine Wp.run 3 (f' := (d + 1, 208, 94, 0, 0, [_, _, _, _], [])) (h' := (156, fjl L, (fup M 122 11 0))) rfl trivial ?_
    obtain rfl := Option.some.inj h
    exact Wp.done rfl (by decide) H
theorem s_X12_next_j80_fr {M : fM} {r : (Unit × fM)} (h : s_X12_next_j80 M = some r) : fSame s_X12_next_mods M r.2 := by
  unfold s_X12_next_j80 at h
  obtain ⟨y81, hy, h⟩ := fbd h
  by_cases c : 0 ≤ y81
  · replace h := fps c h
    obtain ⟨y96, hy, h⟩ := fbd h
    by_cases c : ¬ y96 = 0
    · replace h := fps c h
      exact fs_trans fs_refl (s_X12_next_j152_fr h)
    · replace h := fng c h
      obtain ⟨y103, hy, h⟩ := fbd h
      by_cases c : ¬ y103 = 0
      · replace h := fps c h
        exact fs_trans fs_refl (s_X12_next_j152_fr h)
      · replace h := fng c h
        by_cases c : y81 = 59
        · replace h := fps c h
          exact fs_trans fs_refl (s_X12_next_j128_fr h)
        · replace h := fng c h
          by_cases c : y81 = 45
          · replace h := fps c h
            exact fs_trans fs_refl (s_X12_next_j128_fr h)
          · replace h := fng c h
            by_cases c : ¬ y81 = 46
            · replace h := fps c h
              exact fs_trans fs_refl (s_X12_next_j133_fr h)
            · replace h := fng c h
              exact fs_trans fs_refl (s_X12_next_j128_fr h)
  · replace h := fng c h
    obtain rfl := Option.some.inj h
    exact fs_up fs_refl (.inr (by decide))
noncomputable def s_X12_next (M : fM) : Option (Unit × fM) :=
  (s_X12_next_l0 M).bind fun e0 =>
    if (e0 122 3) ≤ (e0 122 5) then
      s_X12_next_j80 (fup (fup e0 122 12 (e0 122 4)) 122 13 0)
    else
      if (e0 122 4) < (e0 122 5) then
        s_X12_next_j80 (fup (fup e0 122 12 (e0 122 4)) 122 13 0)
      else
        some ((), (fup (fup (fup (fup e0 122 12 (e0 122 4)) 122 13 0) 122 12 (e0 122 5)) 122 11 4))
theorem s_X12_next_ok {d L : Nat} {M : fM} {r : (Unit × fM)} {Q : fO → fH → Prop} (h : s_X12_next M = some r) (H : Q (oV r.1) (156, fjl L, r.2)) : Wp (d + 1, 208, 0, 0, 0, [some (fA 122), none, none, none], []) (156, fjl L, M) Q := by
  unfold s_X12_next at h
  obtain ⟨e0, hy, h⟩ := fbd h
  refine s_X12_next_l0_ok hy (fun x u1 u2 u3 ex => ?_)
  cases ex
  show Wp (d + 1, 208, 31, 0, 0, [some (fA 122), u1, u2, u3], []) (156, fjl L, e0) Q
  refine Wp.run 11 (f' := (d + 1, 208, 52, 0, 0, [some (fA 122), _, _, _], [fI (e0 122 5), fI (e0 122 3)])) (h' := (156, fjl L, (fup (fup e0 122 12 (e0 122 4)) 122 13 0))) rfl trivial ?_
  refine Wp.br rfl (fun (c : (e0 122 3) ≤ (e0 122 5)) => ?_) (fun (c : ¬ ((e0 122 3) ≤ (e0 122 5))) => ?_)
  · replace h := fps c h
    exact s_X12_next_j80_ok h H
  · replace h := fng c h
    refine Wp.run 4 (f' := (d + 1, 208, 63, 0, 0, [some (fA 122), _, _, _], [fI (e0 122 5), fI (e0 122 4)])) (h' := (156, fjl L, (fup (fup e0 122 12 (e0 122 4)) 122 13 0))) rfl trivial ?_
    refine Wp.br rfl (fun (c : (e0 122 4) < (e0 122 5)) => ?_) (fun (c : ¬ ((e0 122 4) < (e0 122 5))) => ?_)
    · replace h := fps c h
      exact s_X12_next_j80_ok h H
    · replace h := fng c h
      refine Wp.run 7 (f' := (d + 1, 208, 79, 0, 0, [_, _, _, _], [])) (h' := (156, fjl L, (fup (fup (fup (fup e0 122 12 (e0 122 4)) 122 13 0) 122 12 (e0 122 5)) 122 11 4))) rfl trivial ?_
      obtain rfl := Option.some.inj h
      exact Wp.done rfl (by decide) H
theorem s_X12_next_fr {M : fM} {r : (Unit × fM)} (h : s_X12_next M = some r) : fSame s_X12_next_mods M r.2 := by
  unfold s_X12_next at h
  obtain ⟨e0, hy, h⟩ := fbd h
  have k0 := fs_trans (l := s_X12_next_mods) fs_refl (s_X12_next_l0_fr hy)
  by_cases c : (e0 122 3) ≤ (e0 122 5)
  · replace h := fps c h
    exact fs_trans (fs_up (fs_up k0 (.inr (by decide))) (.inr (by decide))) (s_X12_next_j80_fr h)
  · replace h := fng c h
    by_cases c : (e0 122 4) < (e0 122 5)
    · replace h := fps c h
      exact fs_trans (fs_up (fs_up k0 (.inr (by decide))) (.inr (by decide))) (s_X12_next_j80_fr h)
    · replace h := fng c h
      obtain rfl := Option.some.inj h
      exact fs_up (fs_up (fs_up (fs_up k0 (.inr (by decide))) (.inr (by decide))) (.inr (by decide))) (.inr (by decide))
noncomputable def s_X12_isWord (M : fM) (l1 : Int) : Option Int :=
  if ¬ (M 122 11) = 1 then
    some 0
  else
    if ¬ (M 122 17) = l1 then
      some 0
    else
      some 1
theorem s_X12_isWord_ok {d L : Nat} {M : fM} {l1 : Int} {r : Int} {Q : fO → fH → Prop} (h : s_X12_isWord M l1 = some r) (H : Q (oI r) (156, fjl L, M)) : Wp (d + 0, 210, 0, 0, 0, [some (fA 122), some (fJ l1), none], []) (156, fjl L, M) Q := by
  unfold s_X12_isWord at h
  refine Wp.run 3 (f' := (d + 0, 210, 5, 0, 0, [some (fA 122), some (fJ l1), none], [fI 1, fI (M 122 11)])) (h' := (156, fjl L, M)) rfl trivial ?_
  refine Wp.br rfl (fun (c : ¬ (M 122 11) = 1) => ?_) (fun (c : ¬ (¬ (M 122 11) = 1)) => ?_)
  · replace h := fps c h
    refine Wp.run 1 (f' := (d + 0, 210, 22, 0, 0, [_, _, _], [fI 0])) (h' := (156, fjl L, M)) rfl trivial ?_
    obtain rfl := Option.some.inj h
    exact Wp.done rfl (by decide) H
  · replace h := fng c h
    refine Wp.run 4 (f' := (d + 0, 210, 14, 0, 0, [_, _, _], [fI (fcm (M 122 17) l1)])) (h' := (156, fjl L, M)) rfl trivial ?_
    refine Wp.br rfl (fun (c : ¬ (fcm (M 122 17) l1) = 0) => ?_) (fun (c : ¬ (¬ (fcm (M 122 17) l1) = 0)) => ?_)
    · replace c := (fcm_ne _ _).mp c
      replace h := fps c h
      refine Wp.run 1 (f' := (d + 0, 210, 22, 0, 0, [_, _, _], [fI 0])) (h' := (156, fjl L, M)) rfl trivial ?_
      obtain rfl := Option.some.inj h
      exact Wp.done rfl (by decide) H
    · replace c := fun z => c ((fcm_ne _ _).mpr z)
      replace h := fng c h
      refine Wp.run 2 (f' := (d + 0, 210, 22, 0, 0, [_, _, _], [fI 1])) (h' := (156, fjl L, M)) rfl trivial ?_
      obtain rfl := Option.some.inj h
      exact Wp.done rfl (by decide) H
abbrev s_X12_bad_mods : List (Nat × Option Nat) := [(122, some 15), (122, some 16)]
noncomputable def s_X12_bad (M : fM) (l1 : Int) : Option (Int × fM) :=
  some (0, (fup (fup M 122 15 l1) 122 16 (M 122 12)))
theorem s_X12_bad_ok {d L : Nat} {M : fM} {l1 : Int} {r : (Int × fM)} {Q : fO → fH → Prop} (h : s_X12_bad M l1 = some r) (H : Q (oI r.1) (156, fjl L, r.2)) : Wp (d + 0, 209, 0, 0, 0, [some (fA 122), some (fI l1)], []) (156, fjl L, M) Q := by
  unfold s_X12_bad at h
  refine Wp.run 8 (f' := (d + 0, 209, 14, 0, 0, [_, _], [fI 0])) (h' := (156, fjl L, (fup (fup M 122 15 l1) 122 16 (M 122 12)))) rfl trivial ?_
  obtain rfl := Option.some.inj h
  exact Wp.done rfl (by decide) H
theorem s_X12_bad_fr {M : fM} {l1 : Int} {r : (Int × fM)} (h : s_X12_bad M l1 = some r) : fSame s_X12_bad_mods M r.2 := by
  unfold s_X12_bad at h
  obtain rfl := Option.some.inj h
  exact fs_up (fs_up fs_refl (.inr (by decide))) (.inr (by decide))
abbrev s_X12_once_mods : List (Nat × Option Nat) := [(122, some 4), (122, some 11), (122, some 12), (122, some 13), (122, some 14), (122, some 15), (122, some 16), (122, some 17), (122, some 19)]
noncomputable def s_X12_once (M : fM) (l1 : Int) : Option (Int × fM) :=
  if ¬ (fand (fshr (M 122 19) l1) 1) = 1 then
    (s_X12_next (fup M 122 19 (fior (M 122 19) (fshl 1 l1)))).bind fun y31 =>
      some (1, y31.2)
  else
    (s_X12_bad M 3).bind fun y14 =>
      if b01 y14.1 then
        some (y14.1, y14.2)
      else none
theorem s_X12_once_ok {d L : Nat} {M : fM} {l1 : Int} {r : (Int × fM)} {Q : fO → fH → Prop} (h : s_X12_once M l1 = some r) (H : Q (oI r.1) (156, fjl L, r.2)) : Wp (d + 2, 219, 0, 0, 0, [some (fA 122), some (fI l1)], []) (156, fjl L, M) Q := by
  unfold s_X12_once at h
  refine Wp.run 7 (f' := (d + 2, 219, 9, 0, 0, [some (fA 122), some (fI l1)], [fI 1, fI (fand (fshr (M 122 19) l1) 1)])) (h' := (156, fjl L, M)) rfl trivial ?_
  refine Wp.br rfl (fun (c : ¬ (fand (fshr (M 122 19) l1) 1) = 1) => ?_) (fun (c : ¬ (¬ (fand (fshr (M 122 19) l1) 1) = 1)) => ?_)
  · replace h := fps c h
    refine Wp.run 9 (f' := (d + 2, 219, 31, 0, 0, [_, _], [fA 122])) (h' := (156, fjl L, (fup M 122 19 (fior (M 122 19) (fshl 1 l1))))) rfl trivial ?_
    obtain ⟨y31, hy, h⟩ := fbd h
    refine Wp.call rfl (by decide) (s_X12_next_ok (d := d + 0) hy ?_)
    show Wp (d + 2, 219, 34, 0, 0, [_, _], []) (156, fjl L, y31.2) Q
    refine Wp.run 1 (f' := (d + 2, 219, 35, 0, 0, [_, _], [fI 1])) (h' := (156, fjl L, y31.2)) rfl trivial ?_
    obtain rfl := Option.some.inj h
    exact Wp.done rfl (by decide) H
  · replace h := fng c h
    refine Wp.run 2 (f' := (d + 2, 219, 14, 0, 0, [_, _], [fI 3, fA 122])) (h' := (156, fjl L, M)) rfl trivial ?_
    obtain ⟨y14, hy, h⟩ := fbd h
    refine Wp.call rfl (by decide) (s_X12_bad_ok (d := d + 1) hy ?_)
    show Wp (d + 2, 219, 17, 0, 0, [_, _], [fI y14.1]) (156, fjl L, y14.2) Q
    obtain ⟨g0, h⟩ := fgd h
    obtain rfl := Option.some.inj h
    exact Wp.done rfl ⟨g0, by decide, by decide, by decide⟩ H
theorem s_X12_once_fr {M : fM} {l1 : Int} {r : (Int × fM)} (h : s_X12_once M l1 = some r) : fSame s_X12_once_mods M r.2 := by
  unfold s_X12_once at h
  by_cases c : ¬ (fand (fshr (M 122 19) l1) 1) = 1
  · replace h := fps c h
    obtain ⟨y31, hy, h⟩ := fbd h
    have k31 := fs_trans (l := s_X12_once_mods) (fs_up fs_refl (.inr (by decide))) (fs_mono (l := s_X12_next_mods) (by decide) (s_X12_next_fr hy))
    obtain rfl := Option.some.inj h
    exact k31
  · replace h := fng c h
    obtain ⟨y14, hy, h⟩ := fbd h
    have k14 := fs_trans (l := s_X12_once_mods) fs_refl (fs_mono (l := s_X12_bad_mods) (by decide) (s_X12_bad_fr hy))
    replace h := (fgd h).2
    obtain rfl := Option.some.inj h
    exact k14
noncomputable def s_X12_isIn (M : fM) (l0 l1 l2 : Int) : Option Int :=
  if l0 < l1 then
    some 0
  else
    if l2 < l0 then
      some 0
    else
      some 1
theorem s_X12_isIn_ok {d L : Nat} {M : fM} {l0 l1 l2 : Int} {r : Int} {Q : fO → fH → Prop} (h : s_X12_isIn M l0 l1 l2 = some r) (H : Q (oI r) (156, fjl L, M)) : Wp (d + 0, 200, 0, 0, 0, [some (fI l0), some (fI l1), some (fI l2)], []) (156, fjl L, M) Q := by
  unfold s_X12_isIn at h
  refine Wp.run 2 (f' := (d + 0, 200, 2, 0, 0, [some (fI l0), _, some (fI l2)], [fI l1, fI l0])) (h' := (156, fjl L, M)) rfl trivial ?_
  refine Wp.br rfl (fun (c : l0 < l1) => ?_) (fun (c : ¬ (l0 < l1)) => ?_)
  · replace h := fps c h
    refine Wp.run 1 (f' := (d + 0, 200, 15, 0, 0, [_, _, _], [fI 0])) (h' := (156, fjl L, M)) rfl trivial ?_
    obtain rfl := Option.some.inj h
    exact Wp.done rfl (by decide) H
  · replace h := fng c h
    refine Wp.run 2 (f' := (d + 0, 200, 7, 0, 0, [_, _, _], [fI l2, fI l0])) (h' := (156, fjl L, M)) rfl trivial ?_
    refine Wp.br rfl (fun (c : l2 < l0) => ?_) (fun (c : ¬ (l2 < l0)) => ?_)
    · replace h := fps c h
      refine Wp.run 1 (f' := (d + 0, 200, 15, 0, 0, [_, _, _], [fI 0])) (h' := (156, fjl L, M)) rfl trivial ?_
      obtain rfl := Option.some.inj h
      exact Wp.done rfl (by decide) H
    · replace h := fng c h
      refine Wp.run 2 (f' := (d + 0, 200, 15, 0, 0, [_, _, _], [fI 1])) (h' := (156, fjl L, M)) rfl trivial ?_
      obtain rfl := Option.some.inj h
      exact Wp.done rfl (by decide) H
abbrev s_X12_table_mods : List (Nat × Option Nat) := [(122, some 4), (122, some 11), (122, some 12), (122, some 13), (122, some 14), (122, some 15), (122, some 16), (122, some 17), (122, some 19), (124, none)]
noncomputable def s_X12_table_j91 (M : fM) (l1 t0 : Int) : Option ((Int × fM) ⊕ (fM ⊕ (Int × fM))) :=
  if ¬ t0 = 0 then
    if fin (646 + l1) ∧ (0 ≤ (646 + l1) ∧ (646 + l1) < 1290) then
      (s_X12_next (fup M 124 (646 + l1).toNat (M 122 14))).bind fun y117 =>
        if fin (l1 + 1) then
          some (.inl ((l1 + 1), y117.2))
        else none
    else none
  else
    (s_X12_bad M 2).bind fun y98 =>
      if b01 y98.1 then
        some (.inr (.inr (y98.1, y98.2)))
      else none
theorem s_X12_table_j91_ok {d L : Nat} {M : fM} {l1 t0 : Int} {o2 : Option fV} {r : ((Int × fM) ⊕ (fM ⊕ (Int × fM)))} {Q : fO → fH → Prop} (h : s_X12_table_j91 M l1 t0 = some r) (hC : ∀ (l1' : Int) (M' : fM) (o2' : Option fV), r = .inl (l1', M') → Wp (d + 3, 224, 12, 0, 0, [some (fA 122), some (fI l1'), o2'], []) (156, fjl L, M') Q) (hE : ∀ (e : fM) (o1' o2' : Option fV), r = .inr (.inl e) → Wp (d + 3, 224, 126, 0, 0, [some (fA 122), o1', o2'], []) (156, fjl L, e) Q) (hR : ∀ (v : (Int × fM)), r = .inr (.inr v) → Q (oI v.1) (156, fjl L, v.2)) : Wp (d + 3, 224, 91, 0, 0, [some (fA 122), some (fI l1), o2], [fI t0]) (156, fjl L, M) Q := by
  unfold s_X12_table_j91 at h
  refine Wp.run 2 (f' := (d + 3, 224, 93, 0, 0, [some (fA 122), some (fI l1), _], [fI t0])) (h' := (156, fjl L, M)) rfl trivial ?_
  refine Wp.br rfl (fun (c : ¬ t0 = 0) => ?_) (fun (c : ¬ (¬ t0 = 0)) => ?_)
  · replace h := fps c h
    obtain ⟨⟨g0, g1⟩, h⟩ := fgd h
    refine Wp.run 9 (P := [0 ≤ (fw (646 + l1)) ∧ (fw (646 + l1)) < 1290]) (f' := (d + 3, 224, 117, 0, 0, [some (fA 122), some (fI l1), _], [fA 122])) (h' := (156, fjl L, (fup M 124 (fw (646 + l1)).toNat (M 122 14)))) rfl ?_ ?_
    · rw [fw_id g0]; exact g1
    rw [fw_id g0]
    obtain ⟨y117, hy, h⟩ := fbd h
    refine Wp.call rfl (by decide) (s_X12_next_ok (d := d + 1) hy ?_)
    show Wp (d + 3, 224, 120, 0, 0, [some (fA 122), some (fI l1), _], []) (156, fjl L, y117.2) Q
    obtain ⟨g0, h⟩ := fgd h
    refine Wp.run 2 (f' := (d + 3, 224, 12, 0, 0, [some (fA 122), some (fI (fw (l1 + 1))), _], [])) (h' := (156, fjl L, y117.2)) rfl trivial ?_
    rw [fw_id g0]
    exact hC _ _ _ (Option.some.inj h).symm
  · replace h := fng c h
    refine Wp.run 2 (f' := (d + 3, 224, 98, 0, 0, [_, _, _], [fI 2, fA 122])) (h' := (156, fjl L, M)) rfl trivial ?_
    obtain ⟨y98, hy, h⟩ := fbd h
    refine Wp.call rfl (by decide) (s_X12_bad_ok (d := d + 2) hy ?_)
    show Wp (d + 3, 224, 101, 0, 0, [_, _, _], [fI y98.1]) (156, fjl L, y98.2) Q
    obtain ⟨g0, h⟩ := fgd h
    exact Wp.done rfl ⟨g0, by decide, by decide, by decide⟩ (hR _ (Option.some.inj h).symm)
theorem s_X12_table_j91_fr {M : fM} {l1 t0 : Int} {r : ((Int × fM) ⊕ (fM ⊕ (Int × fM)))} (h : s_X12_table_j91 M l1 t0 = some r) : fSame s_X12_table_mods M (Sum.elim (fun s => s.2) (Sum.elim (fun e => e) (fun v => v.2)) r) := by
  unfold s_X12_table_j91 at h
  by_cases c : ¬ t0 = 0
  · replace h := fps c h
    replace h := (fgd h).2
    obtain ⟨y117, hy, h⟩ := fbd h
    have k117 := fs_trans (l := s_X12_table_mods) (fs_up fs_refl (.inl (by decide))) (fs_mono (l := s_X12_next_mods) (by decide) (s_X12_next_fr hy))
    replace h := (fgd h).2
    obtain rfl := Option.some.inj h
    exact k117
  · replace h := fng c h
    obtain ⟨y98, hy, h⟩ := fbd h
    have k98 := fs_trans (l := s_X12_table_mods) fs_refl (fs_mono (l := s_X12_bad_mods) (by decide) (s_X12_bad_fr hy))
    replace h := (fgd h).2
    obtain rfl := Option.some.inj h
    exact k98
noncomputable def s_X12_table_j90 (M : fM) (l1 : Int) : Option ((Int × fM) ⊕ (fM ⊕ (Int × fM))) :=
  s_X12_table_j91 M l1 0
theorem s_X12_table_j90_ok {d L : Nat} {M : fM} {l1 : Int} {o2 : Option fV} {r : ((Int × fM) ⊕ (fM ⊕ (Int × fM)))} {Q : fO → fH → Prop} (h : s_X12_table_j90 M l1 = some r) (hC : ∀ (l1' : Int) (M' : fM) (o2' : Option fV), r = .inl (l1', M') → Wp (d + 3, 224, 12, 0, 0, [some (fA 122), some (fI l1'), o2'], []) (156, fjl L, M') Q) (hE : ∀ (e : fM) (o1' o2' : Option fV), r = .inr (.inl e) → Wp (d + 3, 224, 126, 0, 0, [some (fA 122), o1', o2'], []) (156, fjl L, e) Q) (hR : ∀ (v : (Int × fM)), r = .inr (.inr v) → Q (oI v.1) (156, fjl L, v.2)) : Wp (d + 3, 224, 90, 0, 0, [some (fA 122), some (fI l1), o2], []) (156, fjl L, M) Q := by
  unfold s_X12_table_j90 at h
  refine Wp.run 1 (f' := (d + 3, 224, 91, 0, 0, [some (fA 122), some (fI l1), _], [fI 0])) (h' := (156, fjl L, M)) rfl trivial ?_
  exact s_X12_table_j91_ok h hC hE hR
theorem s_X12_table_j90_fr {M : fM} {l1 : Int} {r : ((Int × fM) ⊕ (fM ⊕ (Int × fM)))} (h : s_X12_table_j90 M l1 = some r) : fSame s_X12_table_mods M (Sum.elim (fun s => s.2) (Sum.elim (fun e => e) (fun v => v.2)) r) := by
  unfold s_X12_table_j90 at h
  exact fs_trans fs_refl (s_X12_table_j91_fr h)
noncomputable def s_X12_table_j86 (M : fM) (l1 : Int) : Option ((Int × fM) ⊕ (fM ⊕ (Int × fM))) :=
  s_X12_table_j91 M l1 1
theorem s_X12_table_j86_ok {d L : Nat} {M : fM} {l1 : Int} {o2 : Option fV} {r : ((Int × fM) ⊕ (fM ⊕ (Int × fM)))} {Q : fO → fH → Prop} (h : s_X12_table_j86 M l1 = some r) (hC : ∀ (l1' : Int) (M' : fM) (o2' : Option fV), r = .inl (l1', M') → Wp (d + 3, 224, 12, 0, 0, [some (fA 122), some (fI l1'), o2'], []) (156, fjl L, M') Q) (hE : ∀ (e : fM) (o1' o2' : Option fV), r = .inr (.inl e) → Wp (d + 3, 224, 126, 0, 0, [some (fA 122), o1', o2'], []) (156, fjl L, e) Q) (hR : ∀ (v : (Int × fM)), r = .inr (.inr v) → Q (oI v.1) (156, fjl L, v.2)) : Wp (d + 3, 224, 86, 0, 0, [some (fA 122), some (fI l1), o2], []) (156, fjl L, M) Q := by
  unfold s_X12_table_j86 at h
  refine Wp.run 2 (f' := (d + 3, 224, 91, 0, 0, [some (fA 122), some (fI l1), _], [fI 1])) (h' := (156, fjl L, M)) rfl trivial ?_
  exact s_X12_table_j91_ok h hC hE hR
theorem s_X12_table_j86_fr {M : fM} {l1 : Int} {r : ((Int × fM) ⊕ (fM ⊕ (Int × fM)))} (h : s_X12_table_j86 M l1 = some r) : fSame s_X12_table_mods M (Sum.elim (fun s => s.2) (Sum.elim (fun e => e) (fun v => v.2)) r) := by
  unfold s_X12_table_j86 at h
  exact fs_trans fs_refl (s_X12_table_j91_fr h)
noncomputable def s_X12_table_b12 (M : fM) (l1 : Int) : Option ((Int × fM) ⊕ (fM ⊕ (Int × fM))) :=
  if 12 ≤ l1 then
    some (.inr (.inl M))
  else
    if (M 122 11) = 2 then
      (s_X12_isIn M (M 122 14) 1000 99999).bind fun y42 =>
        if y42 = 0 then
          s_X12_table_j90 M l1
        else
          if l1 = 0 then
            s_X12_table_j86 M l1
          else
            if fin (645 + l1) ∧ (0 ≤ (645 + l1) ∧ (645 + l1) < 1290) then
              if (M 122 14) ≤ (M 124 (645 + l1).toNat) then
                s_X12_table_j90 M l1
              else
                if fin (2 * (M 124 646)) then
                  if (2 * (M 124 646)) ≤ (M 122 14) then
                    s_X12_table_j90 M l1
                  else
                    s_X12_table_j86 M l1
                else none
            else none
    else
      (s_X12_bad M 1).bind fun y28 =>
        if b01 y28.1 then
          some (.inr (.inr (y28.1, y28.2)))
        else none
theorem s_X12_table_b12_ok {d L : Nat} {M : fM} {l1 : Int} {o2 : Option fV} {r : ((Int × fM) ⊕ (fM ⊕ (Int × fM)))} {Q : fO → fH → Prop} (h : s_X12_table_b12 M l1 = some r) (hC : ∀ (l1' : Int) (M' : fM) (o2' : Option fV), r = .inl (l1', M') → Wp (d + 3, 224, 12, 0, 0, [some (fA 122), some (fI l1'), o2'], []) (156, fjl L, M') Q) (hE : ∀ (e : fM) (o1' o2' : Option fV), r = .inr (.inl e) → Wp (d + 3, 224, 126, 0, 0, [some (fA 122), o1', o2'], []) (156, fjl L, e) Q) (hR : ∀ (v : (Int × fM)), r = .inr (.inr v) → Q (oI v.1) (156, fjl L, v.2)) : Wp (d + 3, 224, 12, 0, 0, [some (fA 122), some (fI l1), o2], []) (156, fjl L, M) Q := by
  unfold s_X12_table_b12 at h
  refine Wp.run 2 (f' := (d + 3, 224, 15, 0, 0, [some (fA 122), some (fI l1), _], [fI 12, fI l1])) (h' := (156, fjl L, M)) rfl trivial ?_
  refine Wp.br rfl (fun (c : 12 ≤ l1) => ?_) (fun (c : ¬ (12 ≤ l1)) => ?_)
  · replace h := fps c h
    exact hE _ _ _ (Option.some.inj h).symm
  · replace h := fng c h
    refine Wp.run 3 (f' := (d + 3, 224, 23, 0, 0, [some (fA 122), some (fI l1), _], [fI 2, fI (M 122 11)])) (h' := (156, fjl L, M)) rfl trivial ?_
    refine Wp.br rfl (fun (c : (M 122 11) = 2) => ?_) (fun (c : ¬ ((M 122 11) = 2)) => ?_)
    · replace h := fps c h
      refine Wp.run 4 (f' := (d + 3, 224, 42, 0, 0, [some (fA 122), some (fI l1), _], [fI 99999, fI 1000, fI (M 122 14)])) (h' := (156, fjl L, M)) rfl trivial ?_
      obtain ⟨y42, hy, h⟩ := fbd h
      refine Wp.call rfl (by decide) (s_X12_isIn_ok (d := d + 2) hy ?_)
      show Wp (d + 3, 224, 45, 0, 0, [some (fA 122), some (fI l1), _], [fI y42]) (156, fjl L, M) Q
      refine Wp.br rfl (fun (c : y42 = 0) => ?_) (fun (c : ¬ (y42 = 0)) => ?_)
      · replace h := fps c h
        exact s_X12_table_j90_ok h hC hE hR
      · replace h := fng c h
        refine Wp.run 1 (f' := (d + 3, 224, 49, 0, 0, [some (fA 122), some (fI l1), _], [fI l1])) (h' := (156, fjl L, M)) rfl trivial ?_
        refine Wp.br rfl (fun (c : l1 = 0) => ?_) (fun (c : ¬ (l1 = 0)) => ?_)
        · replace h := fps c h
          exact s_X12_table_j86_ok h hC hE hR
        · replace h := fng c h
          obtain ⟨⟨g0, g1⟩, h⟩ := fgd h
          refine Wp.run 8 (P := [0 ≤ (fw (645 + l1)) ∧ (fw (645 + l1)) < 1290]) (f' := (d + 3, 224, 66, 0, 0, [some (fA 122), some (fI l1), _], [fI (M 124 (fw (645 + l1)).toNat), fI (M 122 14)])) (h' := (156, fjl L, M)) rfl ?_ ?_
          · rw [fw_id g0]; exact g1
          rw [fw_id g0]
          refine Wp.br rfl (fun (c : (M 122 14) ≤ (M 124 (645 + l1).toNat)) => ?_) (fun (c : ¬ ((M 122 14) ≤ (M 124 (645 + l1).toNat))) => ?_)
          · replace h := fps c h
            exact s_X12_table_j90_ok h hC hE hR
          · replace h := fng c h
            obtain ⟨g0, h⟩ := fgd h
            refine Wp.run 8 (P := [(0 : Int) ≤ 646 ∧ (646 : Int) < 1290]) (f' := (d + 3, 224, 83, 0, 0, [some (fA 122), some (fI l1), _], [fI (fw (2 * (M 124 646))), fI (M 122 14)])) (h' := (156, fjl L, M)) rfl ?_ ?_
            · exact (by decide : (0 : Int) ≤ 646 ∧ (646 : Int) < 1290)
            rw [fw_id g0]
            refine Wp.br rfl (fun (c : (2 * (M 124 646)) ≤ (M 122 14)) => ?_) (fun (c : ¬ ((2 * (M 124 646)) ≤ (M 122 14))) => ?_)
            · replace h := fps c h
              exact s_X12_table_j90_ok h hC hE hR
            · replace h := fng c h
              exact s_X12_table_j86_ok h hC hE hR
    · replace h := fng c h
      refine Wp.run 2 (f' := (d + 3, 224, 28, 0, 0, [_, _, _], [fI 1, fA 122])) (h' := (156, fjl L, M)) rfl trivial ?_
      obtain ⟨y28, hy, h⟩ := fbd h
      refine Wp.call rfl (by decide) (s_X12_bad_ok (d := d + 2) hy ?_)
      show Wp (d + 3, 224, 31, 0, 0, [_, _, _], [fI y28.1]) (156, fjl L, y28.2) Q
      obtain ⟨g0, h⟩ := fgd h
      exact Wp.done rfl ⟨g0, by decide, by decide, by decide⟩ (hR _ (Option.some.inj h).symm)
theorem s_X12_table_b12_fr {M : fM} {l1 : Int} {r : ((Int × fM) ⊕ (fM ⊕ (Int × fM)))} (h : s_X12_table_b12 M l1 = some r) : fSame s_X12_table_mods M (Sum.elim (fun s => s.2) (Sum.elim (fun e => e) (fun v => v.2)) r) := by
  unfold s_X12_table_b12 at h
  by_cases c : 12 ≤ l1
  · replace h := fps c h
    obtain rfl := Option.some.inj h
    exact fs_refl
  · replace h := fng c h
    by_cases c : (M 122 11) = 2
    · replace h := fps c h
      obtain ⟨y42, hy, h⟩ := fbd h
      by_cases c : y42 = 0
      · replace h := fps c h
        exact fs_trans fs_refl (s_X12_table_j90_fr h)
      · replace h := fng c h
        by_cases c : l1 = 0
        · replace h := fps c h
          exact fs_trans fs_refl (s_X12_table_j86_fr h)
        · replace h := fng c h
          replace h := (fgd h).2
          by_cases c : (M 122 14) ≤ (M 124 (645 + l1).toNat)
          · replace h := fps c h
            exact fs_trans fs_refl (s_X12_table_j90_fr h)
          · replace h := fng c h
            replace h := (fgd h).2
            by_cases c : (2 * (M 124 646)) ≤ (M 122 14)
            · replace h := fps c h
              exact fs_trans fs_refl (s_X12_table_j90_fr h)
            · replace h := fng c h
              exact fs_trans fs_refl (s_X12_table_j86_fr h)
    · replace h := fng c h
      obtain ⟨y28, hy, h⟩ := fbd h
      have k28 := fs_trans (l := s_X12_table_mods) fs_refl (fs_mono (l := s_X12_bad_mods) (by decide) (s_X12_bad_fr hy))
      replace h := (fgd h).2
      obtain rfl := Option.some.inj h
      exact k28
noncomputable def s_X12_table_l12 (s : (Int × fM)) : Option (fM ⊕ (Int × fM)) := fLp (fun s => s_X12_table_b12 s.2 s.1) s
theorem s_X12_table_l12_ok {d L : Nat} {M : fM} {l1 : Int} {o2 : Option fV} {r : (fM ⊕ (Int × fM))} {Q : fO → fH → Prop} (h : s_X12_table_l12 (l1, M) = some r) (hE : ∀ (e : fM) (o1' o2' : Option fV), r = .inl e → Wp (d + 3, 224, 126, 0, 0, [some (fA 122), o1', o2'], []) (156, fjl L, e) Q) (hR : ∀ (v : (Int × fM)), r = .inr v → Q (oI v.1) (156, fjl L, v.2)) : Wp (d + 3, 224, 12, 0, 0, [some (fA 122), some (fI l1), o2], []) (156, fjl L, M) Q := by
  refine fLp_wp (W := fun s => ∀ (o2 : Option fV), Wp (d + 3, 224, 12, 0, 0, [some (fA 122), some (fI s.1), o2], []) (156, fjl L, s.2) Q) (e := r) ?_ h _
  intro s r1 h hC hX o2
  refine s_X12_table_b12_ok (d := d) h (fun a0 a1 _ e1 => ?_) (fun e u0 u1 e1 => hE e u0 u1 (hX _ e1).symm) (fun v e1 => hR v (hX _ e1).symm)
  exact hC _ e1 _
theorem s_X12_table_l12_fr {M : fM} {l1 : Int} {r : (fM ⊕ (Int × fM))} (h : s_X12_table_l12 (l1, M) = some r) : fSame s_X12_table_mods M ((Sum.elim (fun e => e) (fun v => v.2)) r) := by
  refine fLp_inv (I := fun s => fSame s_X12_table_mods M s.2) (J := fun r => fSame s_X12_table_mods M ((Sum.elim (fun e => e) (fun v => v.2)) r)) h fs_refl (fun s s1 hs hb => ?_) (fun s e hs hb => ?_)
  · exact fs_trans hs (s_X12_table_b12_fr hb)
  · exact fs_trans hs (s_X12_table_b12_fr hb)
noncomputable def s_X12_table (M : fM) : Option (Int × fM) :=
  (s_X12_once M 0).bind fun y2 =>
    if ¬ y2.1 = 0 then
      (s_X12_table_l12 (0, y2.2)).bind fun e12 =>
        Sum.elim (fun x12 =>
          some (1, (fup x12 124 645 1)))
          (fun v12 => some v12) e12
    else
      some (0, y2.2)
theorem s_X12_table_ok {d L : Nat} {M : fM} {r : (Int × fM)} {Q : fO → fH → Prop} (h : s_X12_table M = some r) (H : Q (oI r.1) (156, fjl L, r.2)) : Wp (d + 3, 224, 0, 0, 0, [some (fA 122), none, none], []) (156, fjl L, M) Q := by
  unfold s_X12_table at h
  refine Wp.run 2 (f' := (d + 3, 224, 2, 0, 0, [some (fA 122), _, _], [fI 0, fA 122])) (h' := (156, fjl L, M)) rfl trivial ?_
  obtain ⟨y2, hy, h⟩ := fbd h
  refine Wp.call rfl (by decide) (s_X12_once_ok (d := d + 0) hy ?_)
  show Wp (d + 3, 224, 5, 0, 0, [some (fA 122), _, _], [fI y2.1]) (156, fjl L, y2.2) Q
  refine Wp.br rfl (fun (c : ¬ y2.1 = 0) => ?_) (fun (c : ¬ (¬ y2.1 = 0)) => ?_)
  · replace h := fps c h
    refine Wp.run 2 (f' := (d + 3, 224, 12, 0, 0, [some (fA 122), some (fI 0), _], [])) (h' := (156, fjl L, y2.2)) rfl trivial ?_
    obtain ⟨e12, hy, h⟩ := fbd h
    refine s_X12_table_l12_ok hy (fun x12 u1 u2 ex => ?_) (fun v12 ex => ?_)
    · subst ex
      replace h := fsl h
      show Wp (d + 3, 224, 126, 0, 0, [some (fA 122), u1, u2], []) (156, fjl L, x12) Q
      refine Wp.run 6 (P := [(0 : Int) ≤ 645 ∧ (645 : Int) < 1290]) (f' := (d + 3, 224, 136, 0, 0, [_, _, _], [fI 1])) (h' := (156, fjl L, (fup x12 124 645 1))) rfl ?_ ?_
      · exact (by decide : (0 : Int) ≤ 645 ∧ (645 : Int) < 1290)
      obtain rfl := Option.some.inj h
      exact Wp.done rfl (by decide) H
    · subst ex
      replace h := fsr h
      obtain rfl := Option.some.inj h
      exact H
  · replace h := fng c h
    refine Wp.run 1 (f' := (d + 3, 224, 9, 0, 0, [_, _, _], [fI 0])) (h' := (156, fjl L, y2.2)) rfl trivial ?_
    obtain rfl := Option.some.inj h
    exact Wp.done rfl (by decide) H
theorem s_X12_table_fr {M : fM} {r : (Int × fM)} (h : s_X12_table M = some r) : fSame s_X12_table_mods M r.2 := by
  unfold s_X12_table at h
  obtain ⟨y2, hy, h⟩ := fbd h
  have k2 := fs_trans (l := s_X12_table_mods) fs_refl (fs_mono (l := s_X12_once_mods) (by decide) (s_X12_once_fr hy))
  by_cases c : ¬ y2.1 = 0
  · replace h := fps c h
    obtain ⟨e12, hy, h⟩ := fbd h
    have k12 := fs_trans (l := s_X12_table_mods) k2 (s_X12_table_l12_fr hy)
    rcases e12 with x12 | v12
    · replace h := fsl h
      obtain rfl := Option.some.inj h
      exact fs_up k12 (.inl (by decide))
    · replace h := fsr h
      obtain rfl := Option.some.inj h
      exact k12
  · replace h := fng c h
    obtain rfl := Option.some.inj h
    exact k2
abbrev s_X12_takes_mods : List (Nat × Option Nat) := [(122, some 4), (122, some 11), (122, some 12), (122, some 13), (122, some 14), (122, some 15), (122, some 16), (122, some 17), (122, some 18)]
noncomputable def s_X12_takes (M : fM) (l1 l2 : Int) : Option (Int × fM) :=
  if (M 122 11) = 2 then
    (s_X12_isIn M (M 122 14) l1 l2).bind fun y20 =>
      if ¬ y20 = 0 then
        (s_X12_next (fup M 122 18 (M 122 14))).bind fun y41 =>
          some (1, y41.2)
      else
        (s_X12_bad M 2).bind fun y28 =>
          if b01 y28.1 then
            some (y28.1, y28.2)
          else none
  else
    (s_X12_bad M 1).bind fun y10 =>
      if b01 y10.1 then
        some (y10.1, y10.2)
      else none
theorem s_X12_takes_ok {d L : Nat} {M : fM} {l1 l2 : Int} {r : (Int × fM)} {Q : fO → fH → Prop} (h : s_X12_takes M l1 l2 = some r) (H : Q (oI r.1) (156, fjl L, r.2)) : Wp (d + 2, 215, 0, 0, 0, [some (fA 122), some (fI l1), some (fI l2)], []) (156, fjl L, M) Q := by
  unfold s_X12_takes at h
  refine Wp.run 3 (f' := (d + 2, 215, 5, 0, 0, [some (fA 122), some (fI l1), some (fI l2)], [fI 2, fI (M 122 11)])) (h' := (156, fjl L, M)) rfl trivial ?_
  refine Wp.br rfl (fun (c : (M 122 11) = 2) => ?_) (fun (c : ¬ ((M 122 11) = 2)) => ?_)
  · replace h := fps c h
    refine Wp.run 4 (f' := (d + 2, 215, 20, 0, 0, [some (fA 122), _, _], [fI l2, fI l1, fI (M 122 14)])) (h' := (156, fjl L, M)) rfl trivial ?_
    obtain ⟨y20, hy, h⟩ := fbd h
    refine Wp.call rfl (by decide) (s_X12_isIn_ok (d := d + 1) hy ?_)
    show Wp (d + 2, 215, 23, 0, 0, [some (fA 122), _, _], [fI y20]) (156, fjl L, M) Q
    refine Wp.br rfl (fun (c : ¬ y20 = 0) => ?_) (fun (c : ¬ (¬ y20 = 0)) => ?_)
    · replace h := fps c h
      refine Wp.run 5 (f' := (d + 2, 215, 41, 0, 0, [_, _, _], [fA 122])) (h' := (156, fjl L, (fup M 122 18 (M 122 14)))) rfl trivial ?_
      obtain ⟨y41, hy, h⟩ := fbd h
      refine Wp.call rfl (by decide) (s_X12_next_ok (d := d + 0) hy ?_)
      show Wp (d + 2, 215, 44, 0, 0, [_, _, _], []) (156, fjl L, y41.2) Q
      refine Wp.run 1 (f' := (d + 2, 215, 45, 0, 0, [_, _, _], [fI 1])) (h' := (156, fjl L, y41.2)) rfl trivial ?_
      obtain rfl := Option.some.inj h
      exact Wp.done rfl (by decide) H
    · replace h := fng c h
      refine Wp.run 2 (f' := (d + 2, 215, 28, 0, 0, [_, _, _], [fI 2, fA 122])) (h' := (156, fjl L, M)) rfl trivial ?_
      obtain ⟨y28, hy, h⟩ := fbd h
      refine Wp.call rfl (by decide) (s_X12_bad_ok (d := d + 1) hy ?_)
      show Wp (d + 2, 215, 31, 0, 0, [_, _, _], [fI y28.1]) (156, fjl L, y28.2) Q
      obtain ⟨g0, h⟩ := fgd h
      obtain rfl := Option.some.inj h
      exact Wp.done rfl ⟨g0, by decide, by decide, by decide⟩ H
  · replace h := fng c h
    refine Wp.run 2 (f' := (d + 2, 215, 10, 0, 0, [_, _, _], [fI 1, fA 122])) (h' := (156, fjl L, M)) rfl trivial ?_
    obtain ⟨y10, hy, h⟩ := fbd h
    refine Wp.call rfl (by decide) (s_X12_bad_ok (d := d + 1) hy ?_)
    show Wp (d + 2, 215, 13, 0, 0, [_, _, _], [fI y10.1]) (156, fjl L, y10.2) Q
    obtain ⟨g0, h⟩ := fgd h
    obtain rfl := Option.some.inj h
    exact Wp.done rfl ⟨g0, by decide, by decide, by decide⟩ H
theorem s_X12_takes_fr {M : fM} {l1 l2 : Int} {r : (Int × fM)} (h : s_X12_takes M l1 l2 = some r) : fSame s_X12_takes_mods M r.2 := by
  unfold s_X12_takes at h
  by_cases c : (M 122 11) = 2
  · replace h := fps c h
    obtain ⟨y20, hy, h⟩ := fbd h
    by_cases c : ¬ y20 = 0
    · replace h := fps c h
      obtain ⟨y41, hy, h⟩ := fbd h
      have k41 := fs_trans (l := s_X12_takes_mods) (fs_up fs_refl (.inr (by decide))) (fs_mono (l := s_X12_next_mods) (by decide) (s_X12_next_fr hy))
      obtain rfl := Option.some.inj h
      exact k41
    · replace h := fng c h
      obtain ⟨y28, hy, h⟩ := fbd h
      have k28 := fs_trans (l := s_X12_takes_mods) fs_refl (fs_mono (l := s_X12_bad_mods) (by decide) (s_X12_bad_fr hy))
      replace h := (fgd h).2
      obtain rfl := Option.some.inj h
      exact k28
  · replace h := fng c h
    obtain ⟨y10, hy, h⟩ := fbd h
    have k10 := fs_trans (l := s_X12_takes_mods) fs_refl (fs_mono (l := s_X12_bad_mods) (by decide) (s_X12_bad_fr hy))
    replace h := (fgd h).2
    obtain rfl := Option.some.inj h
    exact k10
abbrev s_X12_weeks_mods : List (Nat × Option Nat) := [(122, some 4), (122, some 11), (122, some 12), (122, some 13), (122, some 14), (122, some 15), (122, some 16), (122, some 17), (122, some 18), (124, none)]
noncomputable def s_X12_weeks_j81 (M : fM) (l1 l3 l4 t1 t2 : Int) : Option ((Int × fM) ⊕ fM) :=
  if fin (t1 + t2) ∧ fin ((t1 + t2) + l4) then
    if l1 = 0 then
      if (0 ≤ ((t1 + t2) + l4) ∧ ((t1 + t2) + l4) < 1290) ∧ fin (l4 + 1) then
        some (.inl ((l4 + 1), (fup M 124 ((t1 + t2) + l4).toNat 1)))
      else none
    else
      if (0 ≤ ((t1 + t2) + l4) ∧ ((t1 + t2) + l4) < 1290) ∧ fin (l4 + 1) then
        some (.inl ((l4 + 1), (fup M 124 ((t1 + t2) + l4).toNat (M 122 18))))
      else none
  else none
theorem s_X12_weeks_j81_ok {d L : Nat} {M : fM} {l1 l3 l4 t1 t2 : Int} {o2 : Option fV} {r : ((Int × fM) ⊕ fM)} {Q : fO → fH → Prop} (h : s_X12_weeks_j81 M l1 l3 l4 t1 t2 = some r) (hC : ∀ (l4' : Int) (M' : fM) (o2' : Option fV), r = .inl (l4', M') → Wp (d + 3, 225, 57, 0, 0, [some (fA 122), some (fI l1), o2', some (fI l3), some (fI l4')], []) (156, fjl L, M') Q) (hE : ∀ (e : fM) (o0' o1' o2' o3' o4' : Option fV), r = .inr e → Wp (d + 3, 225, 104, 0, 0, [o0', o1', o2', o3', o4'], []) (156, fjl L, e) Q) : Wp (d + 3, 225, 81, 0, 0, [some (fA 122), some (fI l1), o2, some (fI l3), some (fI l4)], [fI t2, fI t1, fA 124]) (156, fjl L, M) Q := by
  unfold s_X12_weeks_j81 at h
  obtain ⟨⟨g0, g1⟩, h⟩ := fgd h
  refine Wp.run 4 (f' := (d + 3, 225, 86, 0, 0, [some (fA 122), some (fI l1), _, some (fI l3), some (fI l4)], [fI l1, fI (fw ((fw (t1 + t2)) + l4)), fA 124])) (h' := (156, fjl L, M)) rfl trivial ?_
  rw [fw_id g0, fw_id g1]
  refine Wp.br rfl (fun (c : l1 = 0) => ?_) (fun (c : ¬ (l1 = 0)) => ?_)
  · replace h := fps c h
    obtain ⟨⟨g0, g1⟩, h⟩ := fgd h
    refine Wp.run 4 (P := [0 ≤ ((t1 + t2) + l4) ∧ ((t1 + t2) + l4) < 1290]) (f' := (d + 3, 225, 57, 0, 0, [some (fA 122), some (fI l1), _, some (fI l3), some (fI (fw (l4 + 1)))], [])) (h' := (156, fjl L, (fup M 124 ((t1 + t2) + l4).toNat 1))) rfl ?_ ?_
    · exact g0
    rw [fw_id g1]
    exact hC _ _ _ (Option.some.inj h).symm
  · replace h := fng c h
    obtain ⟨⟨g0, g1⟩, h⟩ := fgd h
    refine Wp.run 6 (P := [0 ≤ ((t1 + t2) + l4) ∧ ((t1 + t2) + l4) < 1290]) (f' := (d + 3, 225, 57, 0, 0, [some (fA 122), some (fI l1), _, some (fI l3), some (fI (fw (l4 + 1)))], [])) (h' := (156, fjl L, (fup M 124 ((t1 + t2) + l4).toNat (M 122 18)))) rfl ?_ ?_
    · exact g0
    rw [fw_id g1]
    exact hC _ _ _ (Option.some.inj h).symm
theorem s_X12_weeks_j81_fr {M : fM} {l1 l3 l4 t1 t2 : Int} {r : ((Int × fM) ⊕ fM)} (h : s_X12_weeks_j81 M l1 l3 l4 t1 t2 = some r) : fSame s_X12_weeks_mods M (Sum.elim (fun s => s.2) (fun e => e) r) := by
  unfold s_X12_weeks_j81 at h
  replace h := (fgd h).2
  by_cases c : l1 = 0
  · replace h := fps c h
    replace h := (fgd h).2
    obtain rfl := Option.some.inj h
    exact fs_up fs_refl (.inl (by decide))
  · replace h := fng c h
    replace h := (fgd h).2
    obtain rfl := Option.some.inj h
    exact fs_up fs_refl (.inl (by decide))
noncomputable def s_X12_weeks_b57 (M : fM) (l1 l3 l4 : Int) : Option ((Int × fM) ⊕ fM) :=
  if l3 < l4 then
    some (.inr M)
  else
    if l1 = 0 then
      s_X12_weeks_j81 M l1 l3 l4 645 65
    else
      s_X12_weeks_j81 M l1 l3 l4 645 13
theorem s_X12_weeks_b57_ok {d L : Nat} {M : fM} {l1 l3 l4 : Int} {o2 : Option fV} {r : ((Int × fM) ⊕ fM)} {Q : fO → fH → Prop} (h : s_X12_weeks_b57 M l1 l3 l4 = some r) (hC : ∀ (l4' : Int) (M' : fM) (o2' : Option fV), r = .inl (l4', M') → Wp (d + 3, 225, 57, 0, 0, [some (fA 122), some (fI l1), o2', some (fI l3), some (fI l4')], []) (156, fjl L, M') Q) (hE : ∀ (e : fM) (o0' o1' o2' o3' o4' : Option fV), r = .inr e → Wp (d + 3, 225, 104, 0, 0, [o0', o1', o2', o3', o4'], []) (156, fjl L, e) Q) : Wp (d + 3, 225, 57, 0, 0, [some (fA 122), some (fI l1), o2, some (fI l3), some (fI l4)], []) (156, fjl L, M) Q := by
  unfold s_X12_weeks_b57 at h
  refine Wp.run 2 (f' := (d + 3, 225, 60, 0, 0, [some (fA 122), some (fI l1), _, some (fI l3), some (fI l4)], [fI l3, fI l4])) (h' := (156, fjl L, M)) rfl trivial ?_
  refine Wp.br rfl (fun (c : l3 < l4) => ?_) (fun (c : ¬ (l3 < l4)) => ?_)
  · replace h := fps c h
    exact hE _ _ _ _ _ _ (Option.some.inj h).symm
  · replace h := fng c h
    refine Wp.run 4 (f' := (d + 3, 225, 71, 0, 0, [some (fA 122), some (fI l1), _, some (fI l3), some (fI l4)], [fI l1, fI 645, fA 124])) (h' := (156, fjl L, M)) rfl trivial ?_
    refine Wp.br rfl (fun (c : l1 = 0) => ?_) (fun (c : ¬ (l1 = 0)) => ?_)
    · replace h := fps c h
      refine Wp.run 1 (f' := (d + 3, 225, 81, 0, 0, [some (fA 122), some (fI l1), _, some (fI l3), some (fI l4)], [fI 65, fI 645, fA 124])) (h' := (156, fjl L, M)) rfl trivial ?_
      exact s_X12_weeks_j81_ok h hC hE
    · replace h := fng c h
      refine Wp.run 2 (f' := (d + 3, 225, 81, 0, 0, [some (fA 122), some (fI l1), _, some (fI l3), some (fI l4)], [fI 13, fI 645, fA 124])) (h' := (156, fjl L, M)) rfl trivial ?_
      exact s_X12_weeks_j81_ok h hC hE
theorem s_X12_weeks_b57_fr {M : fM} {l1 l3 l4 : Int} {r : ((Int × fM) ⊕ fM)} (h : s_X12_weeks_b57 M l1 l3 l4 = some r) : fSame s_X12_weeks_mods M (Sum.elim (fun s => s.2) (fun e => e) r) := by
  unfold s_X12_weeks_b57 at h
  by_cases c : l3 < l4
  · replace h := fps c h
    obtain rfl := Option.some.inj h
    exact fs_refl
  · replace h := fng c h
    by_cases c : l1 = 0
    · replace h := fps c h
      exact fs_trans fs_refl (s_X12_weeks_j81_fr h)
    · replace h := fng c h
      exact fs_trans fs_refl (s_X12_weeks_j81_fr h)
noncomputable def s_X12_weeks_l57 (l1 l3 : Int) (s : (Int × fM)) : Option fM := fLp (fun s => s_X12_weeks_b57 s.2 l1 l3 s.1) s
theorem s_X12_weeks_l57_ok {d L : Nat} {M : fM} {l1 l3 l4 : Int} {o2 : Option fV} {r : fM} {Q : fO → fH → Prop} (h : s_X12_weeks_l57 l1 l3 (l4, M) = some r) (hE : ∀ (e : fM) (o0' o1' o2' o3' o4' : Option fV), r = e → Wp (d + 3, 225, 104, 0, 0, [o0', o1', o2', o3', o4'], []) (156, fjl L, e) Q) : Wp (d + 3, 225, 57, 0, 0, [some (fA 122), some (fI l1), o2, some (fI l3), some (fI l4)], []) (156, fjl L, M) Q := by
  refine fLp_wp (W := fun s => ∀ (o2 : Option fV), Wp (d + 3, 225, 57, 0, 0, [some (fA 122), some (fI l1), o2, some (fI l3), some (fI s.1)], []) (156, fjl L, s.2) Q) (e := r) ?_ h _
  intro s r1 h hC hX o2
  refine s_X12_weeks_b57_ok (d := d) h (fun a0 a1 _ e1 => ?_) (fun e u0 u1 u2 u3 u4 e1 => hE e u0 u1 u2 u3 u4 (hX _ e1).symm)
  exact hC _ e1 _
theorem s_X12_weeks_l57_fr {M : fM} {l1 l3 l4 : Int} {r : fM} (h : s_X12_weeks_l57 l1 l3 (l4, M) = some r) : fSame s_X12_weeks_mods M ((fun e => e) r) := by
  refine fLp_inv (I := fun s => fSame s_X12_weeks_mods M s.2) (J := fun r => fSame s_X12_weeks_mods M ((fun e => e) r)) h fs_refl (fun s s1 hs hb => ?_) (fun s e hs hb => ?_)
  · exact fs_trans hs (s_X12_weeks_b57_fr hb)
  · exact fs_trans hs (s_X12_weeks_b57_fr hb)
noncomputable def s_X12_weeks_j54 (M : fM) (l1 l2 l3 : Int) : Option (Int × fM) :=
  (s_X12_weeks_l57 l1 l3 (l2, M)).bind fun e57 =>
    some (1, e57)
theorem s_X12_weeks_j54_ok {d L : Nat} {M : fM} {l1 l2 l3 : Int} {o4 : Option fV} {r : (Int × fM)} {Q : fO → fH → Prop} (h : s_X12_weeks_j54 M l1 l2 l3 = some r) (H : Q (oI r.1) (156, fjl L, r.2)) : Wp (d + 3, 225, 54, 0, 0, [some (fA 122), some (fI l1), some (fI l2), some (fI l3), o4], []) (156, fjl L, M) Q := by
  unfold s_X12_weeks_j54 at h
  refine Wp.run 2 (f' := (d + 3, 225, 57, 0, 0, [some (fA 122), some (fI l1), _, some (fI l3), some (fI l2)], [])) (h' := (156, fjl L, M)) rfl trivial ?_
  obtain ⟨e57, hy, h⟩ := fbd h
  refine s_X12_weeks_l57_ok hy (fun x u0 u1 u2 u3 u4 ex => ?_)
  cases ex
  show Wp (d + 3, 225, 104, 0, 0, [u0, u1, u2, u3, u4], []) (156, fjl L, e57) Q
  refine Wp.run 1 (f' := (d + 3, 225, 105, 0, 0, [_, _, _, _, _], [fI 1])) (h' := (156, fjl L, e57)) rfl trivial ?_
  obtain rfl := Option.some.inj h
  exact Wp.done rfl (by decide) H
theorem s_X12_weeks_j54_fr {M : fM} {l1 l2 l3 : Int} {r : (Int × fM)} (h : s_X12_weeks_j54 M l1 l2 l3 = some r) : fSame s_X12_weeks_mods M r.2 := by
  unfold s_X12_weeks_j54 at h
  obtain ⟨e57, hy, h⟩ := fbd h
  have k57 := fs_trans (l := s_X12_weeks_mods) fs_refl (s_X12_weeks_l57_fr hy)
  obtain rfl := Option.some.inj h
  exact k57
noncomputable def s_X12_weeks (M : fM) (l1 : Int) : Option (Int × fM) :=
  (s_X12_next M).bind fun y1 =>
    (s_X12_takes y1.2 0 51).bind fun y8 =>
      if ¬ y8.1 = 0 then
        (s_X12_takes y8.2 (y8.2 122 18) 51).bind fun y25 =>
          if ¬ y25.1 = 0 then
            if l1 = 0 then
              s_X12_weeks_j54 y25.2 l1 (y8.2 122 18) (y25.2 122 18)
            else
              (s_X12_takes y25.2 0 40).bind fun y46 =>
                if ¬ y46.1 = 0 then
                  s_X12_weeks_j54 y46.2 l1 (y8.2 122 18) (y25.2 122 18)
                else
                  some (0, y46.2)
          else
            some (0, y25.2)
      else
        some (0, y8.2)
theorem s_X12_weeks_ok {d L : Nat} {M : fM} {l1 : Int} {r : (Int × fM)} {Q : fO → fH → Prop} (h : s_X12_weeks M l1 = some r) (H : Q (oI r.1) (156, fjl L, r.2)) : Wp (d + 3, 225, 0, 0, 0, [some (fA 122), some (fI l1), none, none, none], []) (156, fjl L, M) Q := by
  unfold s_X12_weeks at h
  refine Wp.run 1 (f' := (d + 3, 225, 1, 0, 0, [some (fA 122), some (fI l1), _, _, _], [fA 122])) (h' := (156, fjl L, M)) rfl trivial ?_
  obtain ⟨y1, hy, h⟩ := fbd h
  refine Wp.call rfl (by decide) (s_X12_next_ok (d := d + 1) hy ?_)
  show Wp (d + 3, 225, 4, 0, 0, [some (fA 122), some (fI l1), _, _, _], []) (156, fjl L, y1.2) Q
  refine Wp.run 3 (f' := (d + 3, 225, 8, 0, 0, [some (fA 122), some (fI l1), _, _, _], [fI 51, fI 0, fA 122])) (h' := (156, fjl L, y1.2)) rfl trivial ?_
  obtain ⟨y8, hy, h⟩ := fbd h
  refine Wp.call rfl (by decide) (s_X12_takes_ok (d := d + 0) hy ?_)
  show Wp (d + 3, 225, 11, 0, 0, [some (fA 122), some (fI l1), _, _, _], [fI y8.1]) (156, fjl L, y8.2) Q
  refine Wp.br rfl (fun (c : ¬ y8.1 = 0) => ?_) (fun (c : ¬ (¬ y8.1 = 0)) => ?_)
  · replace h := fps c h
    refine Wp.run 6 (f' := (d + 3, 225, 25, 0, 0, [some (fA 122), some (fI l1), some (fI (y8.2 122 18)), _, _], [fI 51, fI (y8.2 122 18), fA 122])) (h' := (156, fjl L, y8.2)) rfl trivial ?_
    obtain ⟨y25, hy, h⟩ := fbd h
    refine Wp.call rfl (by decide) (s_X12_takes_ok (d := d + 0) hy ?_)
    show Wp (d + 3, 225, 28, 0, 0, [some (fA 122), some (fI l1), some (fI (y8.2 122 18)), _, _], [fI y25.1]) (156, fjl L, y25.2) Q
    refine Wp.br rfl (fun (c : ¬ y25.1 = 0) => ?_) (fun (c : ¬ (¬ y25.1 = 0)) => ?_)
    · replace h := fps c h
      refine Wp.run 4 (f' := (d + 3, 225, 39, 0, 0, [some (fA 122), some (fI l1), some (fI (y8.2 122 18)), some (fI (y25.2 122 18)), _], [fI l1])) (h' := (156, fjl L, y25.2)) rfl trivial ?_
      refine Wp.br rfl (fun (c : l1 = 0) => ?_) (fun (c : ¬ (l1 = 0)) => ?_)
      · replace h := fps c h
        exact s_X12_weeks_j54_ok h H
      · replace h := fng c h
        refine Wp.run 3 (f' := (d + 3, 225, 46, 0, 0, [some (fA 122), some (fI l1), some (fI (y8.2 122 18)), some (fI (y25.2 122 18)), _], [fI 40, fI 0, fA 122])) (h' := (156, fjl L, y25.2)) rfl trivial ?_
        obtain ⟨y46, hy, h⟩ := fbd h
        refine Wp.call rfl (by decide) (s_X12_takes_ok (d := d + 0) hy ?_)
        show Wp (d + 3, 225, 49, 0, 0, [some (fA 122), some (fI l1), some (fI (y8.2 122 18)), some (fI (y25.2 122 18)), _], [fI y46.1]) (156, fjl L, y46.2) Q
        refine Wp.br rfl (fun (c : ¬ y46.1 = 0) => ?_) (fun (c : ¬ (¬ y46.1 = 0)) => ?_)
        · replace h := fps c h
          exact s_X12_weeks_j54_ok h H
        · replace h := fng c h
          refine Wp.run 1 (f' := (d + 3, 225, 53, 0, 0, [_, _, _, _, _], [fI 0])) (h' := (156, fjl L, y46.2)) rfl trivial ?_
          obtain rfl := Option.some.inj h
          exact Wp.done rfl (by decide) H
    · replace h := fng c h
      refine Wp.run 1 (f' := (d + 3, 225, 32, 0, 0, [_, _, _, _, _], [fI 0])) (h' := (156, fjl L, y25.2)) rfl trivial ?_
      obtain rfl := Option.some.inj h
      exact Wp.done rfl (by decide) H
  · replace h := fng c h
    refine Wp.run 1 (f' := (d + 3, 225, 15, 0, 0, [_, _, _, _, _], [fI 0])) (h' := (156, fjl L, y8.2)) rfl trivial ?_
    obtain rfl := Option.some.inj h
    exact Wp.done rfl (by decide) H
theorem s_X12_weeks_fr {M : fM} {l1 : Int} {r : (Int × fM)} (h : s_X12_weeks M l1 = some r) : fSame s_X12_weeks_mods M r.2 := by
  unfold s_X12_weeks at h
  obtain ⟨y1, hy, h⟩ := fbd h
  have k1 := fs_trans (l := s_X12_weeks_mods) fs_refl (fs_mono (l := s_X12_next_mods) (by decide) (s_X12_next_fr hy))
  obtain ⟨y8, hy, h⟩ := fbd h
  have k8 := fs_trans (l := s_X12_weeks_mods) k1 (fs_mono (l := s_X12_takes_mods) (by decide) (s_X12_takes_fr hy))
  by_cases c : ¬ y8.1 = 0
  · replace h := fps c h
    obtain ⟨y25, hy, h⟩ := fbd h
    have k25 := fs_trans (l := s_X12_weeks_mods) k8 (fs_mono (l := s_X12_takes_mods) (by decide) (s_X12_takes_fr hy))
    by_cases c : ¬ y25.1 = 0
    · replace h := fps c h
      by_cases c : l1 = 0
      · replace h := fps c h
        exact fs_trans k25 (s_X12_weeks_j54_fr h)
      · replace h := fng c h
        obtain ⟨y46, hy, h⟩ := fbd h
        have k46 := fs_trans (l := s_X12_weeks_mods) k25 (fs_mono (l := s_X12_takes_mods) (by decide) (s_X12_takes_fr hy))
        by_cases c : ¬ y46.1 = 0
        · replace h := fps c h
          exact fs_trans k46 (s_X12_weeks_j54_fr h)
        · replace h := fng c h
          obtain rfl := Option.some.inj h
          exact k46
    · replace h := fng c h
      obtain rfl := Option.some.inj h
      exact k25
  · replace h := fng c h
    obtain rfl := Option.some.inj h
    exact k8
noncomputable def s_X12_kind (M : fM) : Option Int :=
  (s_X12_isWord M 1752132965).bind fun y4 =>
    if y4 = 0 then
      (s_X12_isWord M 126870791090028).bind fun y18 =>
        if y18 = 0 then
          (s_X12_isWord M 1751215212).bind fun y32 =>
            if y32 = 0 then
              some (-1)
            else
              some 2
        else
          some 1
    else
      some 0
theorem s_X12_kind_ok {d L : Nat} {M : fM} {r : Int} {Q : fO → fH → Prop} (h : s_X12_kind M = some r) (H : Q (oI r) (156, fjl L, M)) : Wp (d + 1, 218, 0, 0, 0, [some (fA 122)], []) (156, fjl L, M) Q := by
  unfold s_X12_kind at h
  refine Wp.run 2 (f' := (d + 1, 218, 4, 0, 0, [some (fA 122)], [fJ 1752132965, fA 122])) (h' := (156, fjl L, M)) rfl trivial ?_
  obtain ⟨y4, hy, h⟩ := fbd h
  refine Wp.call rfl (by decide) (s_X12_isWord_ok (d := d + 0) hy ?_)
  show Wp (d + 1, 218, 7, 0, 0, [some (fA 122)], [fI y4]) (156, fjl L, M) Q
  refine Wp.br rfl (fun (c : y4 = 0) => ?_) (fun (c : ¬ (y4 = 0)) => ?_)
  · replace h := fps c h
    refine Wp.run 2 (f' := (d + 1, 218, 18, 0, 0, [some (fA 122)], [fJ 126870791090028, fA 122])) (h' := (156, fjl L, M)) rfl trivial ?_
    obtain ⟨y18, hy, h⟩ := fbd h
    refine Wp.call rfl (by decide) (s_X12_isWord_ok (d := d + 0) hy ?_)
    show Wp (d + 1, 218, 21, 0, 0, [some (fA 122)], [fI y18]) (156, fjl L, M) Q
    refine Wp.br rfl (fun (c : y18 = 0) => ?_) (fun (c : ¬ (y18 = 0)) => ?_)
    · replace h := fps c h
      refine Wp.run 2 (f' := (d + 1, 218, 32, 0, 0, [_], [fJ 1751215212, fA 122])) (h' := (156, fjl L, M)) rfl trivial ?_
      obtain ⟨y32, hy, h⟩ := fbd h
      refine Wp.call rfl (by decide) (s_X12_isWord_ok (d := d + 0) hy ?_)
      show Wp (d + 1, 218, 35, 0, 0, [_], [fI y32]) (156, fjl L, M) Q
      refine Wp.br rfl (fun (c : y32 = 0) => ?_) (fun (c : ¬ (y32 = 0)) => ?_)
      · replace h := fps c h
        refine Wp.run 1 (f' := (d + 1, 218, 43, 0, 0, [_], [fI (-1)])) (h' := (156, fjl L, M)) rfl trivial ?_
        obtain rfl := Option.some.inj h
        exact Wp.done rfl (by decide) H
      · replace h := fng c h
        refine Wp.run 2 (f' := (d + 1, 218, 43, 0, 0, [_], [fI 2])) (h' := (156, fjl L, M)) rfl trivial ?_
        obtain rfl := Option.some.inj h
        exact Wp.done rfl (by decide) H
    · replace h := fng c h
      refine Wp.run 2 (f' := (d + 1, 218, 43, 0, 0, [_], [fI 1])) (h' := (156, fjl L, M)) rfl trivial ?_
      obtain rfl := Option.some.inj h
      exact Wp.done rfl (by decide) H
  · replace h := fng c h
    refine Wp.run 2 (f' := (d + 1, 218, 43, 0, 0, [_], [fI 0])) (h' := (156, fjl L, M)) rfl trivial ?_
    obtain rfl := Option.some.inj h
    exact Wp.done rfl (by decide) H
abbrev s_X12_readFee_mods : List (Nat × Option Nat) := [(122, some 4), (122, some 11), (122, some 12), (122, some 13), (122, some 14), (122, some 15), (122, some 16), (122, some 17), (122, some 18), (124, none)]
noncomputable def s_X12_readFee (M : fM) : Option (Int × fM) :=
  if ¬ (M 124 762) = 16 then
    (s_X12_next M).bind fun y20 =>
      (s_X12_kind y20.2).bind fun y24 =>
        if 0 ≤ y24 then
          (s_X12_next y20.2).bind fun y39 =>
            (s_X12_takes y39.2 0 9999).bind fun y47 =>
              if ¬ y47.1 = 0 then
                (s_X12_takes y47.2 0 363).bind fun y65 =>
                  if ¬ y65.1 = 0 then
                    if fin (3 * (y65.2 124 762)) ∧ fin (763 + (3 * (y65.2 124 762))) ∧ (0 ≤ (763 + (3 * (y65.2 124 762))) ∧ (763 + (3 * (y65.2 124 762))) < 1290) then
                      if fin ((763 + (3 * (y65.2 124 762))) + 1) ∧ (0 ≤ ((763 + (3 * (y65.2 124 762))) + 1) ∧ ((763 + (3 * (y65.2 124 762))) + 1) < 1290) ∧ fin ((763 + (3 * (y65.2 124 762))) + 2) ∧ (0 ≤ ((763 + (3 * (y65.2 124 762))) + 2) ∧ ((763 + (3 * (y65.2 124 762))) + 2) < 1290) then
                        if fin (((fup (fup (fup y65.2 124 (763 + (3 * (y65.2 124 762))).toNat y24) 124 ((763 + (3 * (y65.2 124 762))) + 1).toNat (y47.2 122 18)) 124 ((763 + (3 * (y65.2 124 762))) + 2).toNat (y65.2 122 18)) 124 762) + 1) then
                          some (1, (fup (fup (fup (fup y65.2 124 (763 + (3 * (y65.2 124 762))).toNat y24) 124 ((763 + (3 * (y65.2 124 762))) + 1).toNat (y47.2 122 18)) 124 ((763 + (3 * (y65.2 124 762))) + 2).toNat (y65.2 122 18)) 124 762 (((fup (fup (fup y65.2 124 (763 + (3 * (y65.2 124 762))).toNat y24) 124 ((763 + (3 * (y65.2 124 762))) + 1).toNat (y47.2 122 18)) 124 ((763 + (3 * (y65.2 124 762))) + 2).toNat (y65.2 122 18)) 124 762) + 1)))
                        else none
                      else none
                    else none
                  else
                    some (0, y65.2)
              else
                some (0, y47.2)
        else
          (s_X12_bad y20.2 1).bind fun y34 =>
            if b01 y34.1 then
              some (y34.1, y34.2)
            else none
  else
    (s_X12_bad M 4).bind fun y15 =>
      if b01 y15.1 then
        some (y15.1, y15.2)
      else none
theorem s_X12_readFee_ok {d L : Nat} {M : fM} {r : (Int × fM)} {Q : fO → fH → Prop} (h : s_X12_readFee M = some r) (H : Q (oI r.1) (156, fjl L, r.2)) : Wp (d + 3, 226, 0, 0, 0, [some (fA 122), none, none, none], []) (156, fjl L, M) Q := by
  unfold s_X12_readFee at h
  refine Wp.run 5 (P := [(0 : Int) ≤ 762 ∧ (762 : Int) < 1290]) (f' := (d + 3, 226, 10, 0, 0, [some (fA 122), _, _, _], [fI 16, fI (M 124 762)])) (h' := (156, fjl L, M)) rfl ?_ ?_
  · exact (by decide : (0 : Int) ≤ 762 ∧ (762 : Int) < 1290)
  refine Wp.br rfl (fun (c : ¬ (M 124 762) = 16) => ?_) (fun (c : ¬ (¬ (M 124 762) = 16)) => ?_)
  · replace h := fps c h
    refine Wp.run 1 (f' := (d + 3, 226, 20, 0, 0, [some (fA 122), _, _, _], [fA 122])) (h' := (156, fjl L, M)) rfl trivial ?_
    obtain ⟨y20, hy, h⟩ := fbd h
    refine Wp.call rfl (by decide) (s_X12_next_ok (d := d + 1) hy ?_)
    show Wp (d + 3, 226, 23, 0, 0, [some (fA 122), _, _, _], []) (156, fjl L, y20.2) Q
    refine Wp.run 1 (f' := (d + 3, 226, 24, 0, 0, [some (fA 122), _, _, _], [fA 122])) (h' := (156, fjl L, y20.2)) rfl trivial ?_
    obtain ⟨y24, hy, h⟩ := fbd h
    refine Wp.call rfl (by decide) (s_X12_kind_ok (d := d + 1) hy ?_)
    show Wp (d + 3, 226, 27, 0, 0, [some (fA 122), _, _, _], [fI y24]) (156, fjl L, y20.2) Q
    refine Wp.run 2 (f' := (d + 3, 226, 29, 0, 0, [some (fA 122), some (fI y24), _, _], [fI y24])) (h' := (156, fjl L, y20.2)) rfl trivial ?_
    refine Wp.br rfl (fun (c : 0 ≤ y24) => ?_) (fun (c : ¬ (0 ≤ y24)) => ?_)
    · replace h := fps c h
      refine Wp.run 1 (f' := (d + 3, 226, 39, 0, 0, [some (fA 122), some (fI y24), _, _], [fA 122])) (h' := (156, fjl L, y20.2)) rfl trivial ?_
      obtain ⟨y39, hy, h⟩ := fbd h
      refine Wp.call rfl (by decide) (s_X12_next_ok (d := d + 1) hy ?_)
      show Wp (d + 3, 226, 42, 0, 0, [some (fA 122), some (fI y24), _, _], []) (156, fjl L, y39.2) Q
      refine Wp.run 3 (f' := (d + 3, 226, 47, 0, 0, [some (fA 122), some (fI y24), _, _], [fI 9999, fI 0, fA 122])) (h' := (156, fjl L, y39.2)) rfl trivial ?_
      obtain ⟨y47, hy, h⟩ := fbd h
      refine Wp.call rfl (by decide) (s_X12_takes_ok (d := d + 0) hy ?_)
      show Wp (d + 3, 226, 50, 0, 0, [some (fA 122), some (fI y24), _, _], [fI y47.1]) (156, fjl L, y47.2) Q
      refine Wp.br rfl (fun (c : ¬ y47.1 = 0) => ?_) (fun (c : ¬ (¬ y47.1 = 0)) => ?_)
      · replace h := fps c h
        refine Wp.run 6 (f' := (d + 3, 226, 65, 0, 0, [some (fA 122), some (fI y24), some (fI (y47.2 122 18)), _], [fI 363, fI 0, fA 122])) (h' := (156, fjl L, y47.2)) rfl trivial ?_
        obtain ⟨y65, hy, h⟩ := fbd h
        refine Wp.call rfl (by decide) (s_X12_takes_ok (d := d + 0) hy ?_)
        show Wp (d + 3, 226, 68, 0, 0, [some (fA 122), some (fI y24), some (fI (y47.2 122 18)), _], [fI y65.1]) (156, fjl L, y65.2) Q
        refine Wp.br rfl (fun (c : ¬ y65.1 = 0) => ?_) (fun (c : ¬ (¬ y65.1 = 0)) => ?_)
        · replace h := fps c h
          obtain ⟨⟨g0, g1, g2⟩, h⟩ := fgd h
          refine Wp.run 14 (P := [(0 : Int) ≤ 762 ∧ (762 : Int) < 1290, 0 ≤ (fw (763 + (fw (3 * (y65.2 124 762))))) ∧ (fw (763 + (fw (3 * (y65.2 124 762))))) < 1290]) (f' := (d + 3, 226, 95, 0, 0, [some (fA 122), _, some (fI (y47.2 122 18)), some (fI (fw (763 + (fw (3 * (y65.2 124 762))))))], [])) (h' := (156, fjl L, (fup y65.2 124 (fw (763 + (fw (3 * (y65.2 124 762))))).toNat y24))) rfl ?_ ?_
          · rw [fw_id g0, fw_id g1]; exact ⟨(by decide : (0 : Int) ≤ 762 ∧ (762 : Int) < 1290), g2⟩
          rw [fw_id g0, fw_id g1]
          obtain ⟨⟨g0, g1, g2, g3⟩, h⟩ := fgd h
          refine Wp.run 15 (P := [0 ≤ (fw ((763 + (3 * (y65.2 124 762))) + 1)) ∧ (fw ((763 + (3 * (y65.2 124 762))) + 1)) < 1290, 0 ≤ (fw ((763 + (3 * (y65.2 124 762))) + 2)) ∧ (fw ((763 + (3 * (y65.2 124 762))) + 2)) < 1290]) (f' := (d + 3, 226, 116, 0, 0, [some (fA 122), _, _, _], [])) (h' := (156, fjl L, (fup (fup (fup y65.2 124 (763 + (3 * (y65.2 124 762))).toNat y24) 124 (fw ((763 + (3 * (y65.2 124 762))) + 1)).toNat (y47.2 122 18)) 124 (fw ((763 + (3 * (y65.2 124 762))) + 2)).toNat (y65.2 122 18)))) rfl ?_ ?_
          · rw [fw_id g0, fw_id g2]; exact ⟨g1, g3⟩
          rw [fw_id g0, fw_id g2]
          obtain ⟨g0, h⟩ := fgd h
          refine Wp.run 9 (P := [(0 : Int) ≤ 762 ∧ (762 : Int) < 1290, (0 : Int) ≤ 762 ∧ (762 : Int) < 1290]) (f' := (d + 3, 226, 129, 0, 0, [_, _, _, _], [fI 1])) (h' := (156, fjl L, (fup (fup (fup (fup y65.2 124 (763 + (3 * (y65.2 124 762))).toNat y24) 124 ((763 + (3 * (y65.2 124 762))) + 1).toNat (y47.2 122 18)) 124 ((763 + (3 * (y65.2 124 762))) + 2).toNat (y65.2 122 18)) 124 762 (fw (((fup (fup (fup y65.2 124 (763 + (3 * (y65.2 124 762))).toNat y24) 124 ((763 + (3 * (y65.2 124 762))) + 1).toNat (y47.2 122 18)) 124 ((763 + (3 * (y65.2 124 762))) + 2).toNat (y65.2 122 18)) 124 762) + 1))))) rfl ?_ ?_
          · exact ⟨(by decide : (0 : Int) ≤ 762 ∧ (762 : Int) < 1290), (by decide : (0 : Int) ≤ 762 ∧ (762 : Int) < 1290)⟩
          rw [fw_id g0]
          obtain rfl := Option.some.inj h
          exact Wp.done rfl (by decide) H
        · replace h := fng c h
          refine Wp.run 1 (f' := (d + 3, 226, 72, 0, 0, [_, _, _, _], [fI 0])) (h' := (156, fjl L, y65.2)) rfl trivial ?_
          obtain rfl := Option.some.inj h
          exact Wp.done rfl (by decide) H
      · replace h := fng c h
        refine Wp.run 1 (f' := (d + 3, 226, 54, 0, 0, [_, _, _, _], [fI 0])) (h' := (156, fjl L, y47.2)) rfl trivial ?_
        obtain rfl := Option.some.inj h
        exact Wp.done rfl (by decide) H
    · replace h := fng c h
      refine Wp.run 2 (f' := (d + 3, 226, 34, 0, 0, [_, _, _, _], [fI 1, fA 122])) (h' := (156, fjl L, y20.2)) rfl trivial ?_
      obtain ⟨y34, hy, h⟩ := fbd h
      refine Wp.call rfl (by decide) (s_X12_bad_ok (d := d + 2) hy ?_)
      show Wp (d + 3, 226, 37, 0, 0, [_, _, _, _], [fI y34.1]) (156, fjl L, y34.2) Q
      obtain ⟨g0, h⟩ := fgd h
      obtain rfl := Option.some.inj h
      exact Wp.done rfl ⟨g0, by decide, by decide, by decide⟩ H
  · replace h := fng c h
    refine Wp.run 2 (f' := (d + 3, 226, 15, 0, 0, [_, _, _, _], [fI 4, fA 122])) (h' := (156, fjl L, M)) rfl trivial ?_
    obtain ⟨y15, hy, h⟩ := fbd h
    refine Wp.call rfl (by decide) (s_X12_bad_ok (d := d + 2) hy ?_)
    show Wp (d + 3, 226, 18, 0, 0, [_, _, _, _], [fI y15.1]) (156, fjl L, y15.2) Q
    obtain ⟨g0, h⟩ := fgd h
    obtain rfl := Option.some.inj h
    exact Wp.done rfl ⟨g0, by decide, by decide, by decide⟩ H
theorem s_X12_readFee_fr {M : fM} {r : (Int × fM)} (h : s_X12_readFee M = some r) : fSame s_X12_readFee_mods M r.2 := by
  unfold s_X12_readFee at h
  by_cases c : ¬ (M 124 762) = 16
  · replace h := fps c h
    obtain ⟨y20, hy, h⟩ := fbd h
    have k20 := fs_trans (l := s_X12_readFee_mods) fs_refl (fs_mono (l := s_X12_next_mods) (by decide) (s_X12_next_fr hy))
    obtain ⟨y24, hy, h⟩ := fbd h
    by_cases c : 0 ≤ y24
    · replace h := fps c h
      obtain ⟨y39, hy, h⟩ := fbd h
      have k39 := fs_trans (l := s_X12_readFee_mods) k20 (fs_mono (l := s_X12_next_mods) (by decide) (s_X12_next_fr hy))
      obtain ⟨y47, hy, h⟩ := fbd h
      have k47 := fs_trans (l := s_X12_readFee_mods) k39 (fs_mono (l := s_X12_takes_mods) (by decide) (s_X12_takes_fr hy))
      by_cases c : ¬ y47.1 = 0
      · replace h := fps c h
        obtain ⟨y65, hy, h⟩ := fbd h
        have k65 := fs_trans (l := s_X12_readFee_mods) k47 (fs_mono (l := s_X12_takes_mods) (by decide) (s_X12_takes_fr hy))
        by_cases c : ¬ y65.1 = 0
        · replace h := fps c h
          replace h := (fgd h).2
          replace h := (fgd h).2
          replace h := (fgd h).2
          obtain rfl := Option.some.inj h
          exact fs_up (fs_up (fs_up (fs_up k65 (.inl (by decide))) (.inl (by decide))) (.inl (by decide))) (.inl (by decide))
        · replace h := fng c h
          obtain rfl := Option.some.inj h
          exact k65
      · replace h := fng c h
        obtain rfl := Option.some.inj h
        exact k47
    · replace h := fng c h
      obtain ⟨y34, hy, h⟩ := fbd h
      have k34 := fs_trans (l := s_X12_readFee_mods) k20 (fs_mono (l := s_X12_bad_mods) (by decide) (s_X12_bad_fr hy))
      replace h := (fgd h).2
      obtain rfl := Option.some.inj h
      exact k34
  · replace h := fng c h
    obtain ⟨y15, hy, h⟩ := fbd h
    have k15 := fs_trans (l := s_X12_readFee_mods) fs_refl (fs_mono (l := s_X12_bad_mods) (by decide) (s_X12_bad_fr hy))
    replace h := (fgd h).2
    obtain rfl := Option.some.inj h
    exact k15
abbrev s_X12_oneNumber_mods : List (Nat × Option Nat) := [(122, some 4), (122, some 11), (122, some 12), (122, some 13), (122, some 14), (122, some 15), (122, some 16), (122, some 17), (122, some 18), (122, some 19), (124, none)]
noncomputable def s_X12_oneNumber (M : fM) (l1 l2 l3 l4 : Int) : Option (Int × fM) :=
  (s_X12_once M l1).bind fun y2 =>
    if y2.1 = 0 then
      some (0, y2.2)
    else
      (s_X12_takes y2.2 l2 l3).bind fun y11 =>
        if ¬ y11.1 = 0 then
          if fin (645 + l4) ∧ (0 ≤ (645 + l4) ∧ (645 + l4) < 1290) then
            some (1, (fup y11.2 124 (645 + l4).toNat (y11.2 122 18)))
          else none
        else
          some (0, y11.2)
theorem s_X12_oneNumber_ok {d L : Nat} {M : fM} {l1 l2 l3 l4 : Int} {r : (Int × fM)} {Q : fO → fH → Prop} (h : s_X12_oneNumber M l1 l2 l3 l4 = some r) (H : Q (oI r.1) (156, fjl L, r.2)) : Wp (d + 3, 220, 0, 0, 0, [some (fA 122), some (fI l1), some (fI l2), some (fI l3), some (fI l4)], []) (156, fjl L, M) Q := by
  unfold s_X12_oneNumber at h
  refine Wp.run 2 (f' := (d + 3, 220, 2, 0, 0, [some (fA 122), _, some (fI l2), some (fI l3), some (fI l4)], [fI l1, fA 122])) (h' := (156, fjl L, M)) rfl trivial ?_
  obtain ⟨y2, hy, h⟩ := fbd h
  refine Wp.call rfl (by decide) (s_X12_once_ok (d := d + 0) hy ?_)
  show Wp (d + 3, 220, 5, 0, 0, [some (fA 122), _, some (fI l2), some (fI l3), some (fI l4)], [fI y2.1]) (156, fjl L, y2.2) Q
  refine Wp.br rfl (fun (c : y2.1 = 0) => ?_) (fun (c : ¬ (y2.1 = 0)) => ?_)
  · replace h := fps c h
    refine Wp.run 1 (f' := (d + 3, 220, 18, 0, 0, [_, _, _, _, _], [fI 0])) (h' := (156, fjl L, y2.2)) rfl trivial ?_
    obtain rfl := Option.some.inj h
    exact Wp.done rfl (by decide) H
  · replace h := fng c h
    refine Wp.run 3 (f' := (d + 3, 220, 11, 0, 0, [some (fA 122), _, _, _, some (fI l4)], [fI l3, fI l2, fA 122])) (h' := (156, fjl L, y2.2)) rfl trivial ?_
    obtain ⟨y11, hy, h⟩ := fbd h
    refine Wp.call rfl (by decide) (s_X12_takes_ok (d := d + 0) hy ?_)
    show Wp (d + 3, 220, 14, 0, 0, [some (fA 122), _, _, _, some (fI l4)], [fI y11.1]) (156, fjl L, y11.2) Q
    refine Wp.br rfl (fun (c : ¬ y11.1 = 0) => ?_) (fun (c : ¬ (¬ y11.1 = 0)) => ?_)
    · replace h := fps c h
      obtain ⟨⟨g0, g1⟩, h⟩ := fgd h
      refine Wp.run 9 (P := [0 ≤ (fw (645 + l4)) ∧ (fw (645 + l4)) < 1290]) (f' := (d + 3, 220, 35, 0, 0, [_, _, _, _, _], [fI 1])) (h' := (156, fjl L, (fup y11.2 124 (fw (645 + l4)).toNat (y11.2 122 18)))) rfl ?_ ?_
      · rw [fw_id g0]; exact g1
      rw [fw_id g0]
      obtain rfl := Option.some.inj h
      exact Wp.done rfl (by decide) H
    · replace h := fng c h
      refine Wp.run 1 (f' := (d + 3, 220, 18, 0, 0, [_, _, _, _, _], [fI 0])) (h' := (156, fjl L, y11.2)) rfl trivial ?_
      obtain rfl := Option.some.inj h
      exact Wp.done rfl (by decide) H
theorem s_X12_oneNumber_fr {M : fM} {l1 l2 l3 l4 : Int} {r : (Int × fM)} (h : s_X12_oneNumber M l1 l2 l3 l4 = some r) : fSame s_X12_oneNumber_mods M r.2 := by
  unfold s_X12_oneNumber at h
  obtain ⟨y2, hy, h⟩ := fbd h
  have k2 := fs_trans (l := s_X12_oneNumber_mods) fs_refl (fs_mono (l := s_X12_once_mods) (by decide) (s_X12_once_fr hy))
  by_cases c : y2.1 = 0
  · replace h := fps c h
    obtain rfl := Option.some.inj h
    exact k2
  · replace h := fng c h
    obtain ⟨y11, hy, h⟩ := fbd h
    have k11 := fs_trans (l := s_X12_oneNumber_mods) k2 (fs_mono (l := s_X12_takes_mods) (by decide) (s_X12_takes_fr hy))
    by_cases c : ¬ y11.1 = 0
    · replace h := fps c h
      replace h := (fgd h).2
      obtain rfl := Option.some.inj h
      exact fs_up k11 (.inl (by decide))
    · replace h := fng c h
      obtain rfl := Option.some.inj h
      exact k11
abbrev s_X12_span_mods : List (Nat × Option Nat) := [(122, some 4), (122, some 11), (122, some 12), (122, some 13), (122, some 14), (122, some 15), (122, some 16), (122, some 17), (122, some 18), (124, none)]
noncomputable def s_X12_span (M : fM) (l1 : Int) : Option (Int × fM) :=
  (s_X12_takes M 0 1440).bind fun y5 =>
    if ¬ y5.1 = 0 then
      if fin ((y5.2 122 18) + 1) then
        (s_X12_takes y5.2 ((y5.2 122 18) + 1) 1440).bind fun y25 =>
          if ¬ y25.1 = 0 then
            if fin (645 + l1) ∧ (0 ≤ (645 + l1) ∧ (645 + l1) < 1290) ∧ fin ((645 + l1) + 1) ∧ (0 ≤ ((645 + l1) + 1) ∧ ((645 + l1) + 1) < 1290) then
              some (1, (fup (fup y25.2 124 (645 + l1).toNat (y5.2 122 18)) 124 ((645 + l1) + 1).toNat (y25.2 122 18)))
            else none
          else
            some (0, y25.2)
      else none
    else
      some (0, y5.2)
theorem s_X12_span_ok {d L : Nat} {M : fM} {l1 : Int} {r : (Int × fM)} {Q : fO → fH → Prop} (h : s_X12_span M l1 = some r) (H : Q (oI r.1) (156, fjl L, r.2)) : Wp (d + 3, 221, 0, 0, 0, [some (fA 122), some (fI l1), none], []) (156, fjl L, M) Q := by
  unfold s_X12_span at h
  refine Wp.run 3 (f' := (d + 3, 221, 5, 0, 0, [some (fA 122), some (fI l1), _], [fI 1440, fI 0, fA 122])) (h' := (156, fjl L, M)) rfl trivial ?_
  obtain ⟨y5, hy, h⟩ := fbd h
  refine Wp.call rfl (by decide) (s_X12_takes_ok (d := d + 0) hy ?_)
  show Wp (d + 3, 221, 8, 0, 0, [some (fA 122), some (fI l1), _], [fI y5.1]) (156, fjl L, y5.2) Q
  refine Wp.br rfl (fun (c : ¬ y5.1 = 0) => ?_) (fun (c : ¬ (¬ y5.1 = 0)) => ?_)
  · replace h := fps c h
    obtain ⟨g0, h⟩ := fgd h
    refine Wp.run 8 (f' := (d + 3, 221, 25, 0, 0, [some (fA 122), some (fI l1), some (fI (y5.2 122 18))], [fI 1440, fI (fw ((y5.2 122 18) + 1)), fA 122])) (h' := (156, fjl L, y5.2)) rfl trivial ?_
    rw [fw_id g0]
    obtain ⟨y25, hy, h⟩ := fbd h
    refine Wp.call rfl (by decide) (s_X12_takes_ok (d := d + 0) hy ?_)
    show Wp (d + 3, 221, 28, 0, 0, [some (fA 122), some (fI l1), some (fI (y5.2 122 18))], [fI y25.1]) (156, fjl L, y25.2) Q
    refine Wp.br rfl (fun (c : ¬ y25.1 = 0) => ?_) (fun (c : ¬ (¬ y25.1 = 0)) => ?_)
    · replace h := fps c h
      obtain ⟨⟨g0, g1, g2, g3⟩, h⟩ := fgd h
      refine Wp.run 17 (P := [0 ≤ (fw (645 + l1)) ∧ (fw (645 + l1)) < 1290, 0 ≤ (fw ((fw (645 + l1)) + 1)) ∧ (fw ((fw (645 + l1)) + 1)) < 1290]) (f' := (d + 3, 221, 60, 0, 0, [_, _, _], [])) (h' := (156, fjl L, (fup (fup y25.2 124 (fw (645 + l1)).toNat (y5.2 122 18)) 124 (fw ((fw (645 + l1)) + 1)).toNat (y25.2 122 18)))) rfl ?_ ?_
      · rw [fw_id g0, fw_id g2]; exact ⟨g1, g3⟩
      rw [fw_id g0, fw_id g2]
      refine Wp.run 1 (f' := (d + 3, 221, 61, 0, 0, [_, _, _], [fI 1])) (h' := (156, fjl L, (fup (fup y25.2 124 (645 + l1).toNat (y5.2 122 18)) 124 ((645 + l1) + 1).toNat (y25.2 122 18)))) rfl trivial ?_
      obtain rfl := Option.some.inj h
      exact Wp.done rfl (by decide) H
    · replace h := fng c h
      refine Wp.run 1 (f' := (d + 3, 221, 32, 0, 0, [_, _, _], [fI 0])) (h' := (156, fjl L, y25.2)) rfl trivial ?_
      obtain rfl := Option.some.inj h
      exact Wp.done rfl (by decide) H
  · replace h := fng c h
    refine Wp.run 1 (f' := (d + 3, 221, 12, 0, 0, [_, _, _], [fI 0])) (h' := (156, fjl L, y5.2)) rfl trivial ?_
    obtain rfl := Option.some.inj h
    exact Wp.done rfl (by decide) H
theorem s_X12_span_fr {M : fM} {l1 : Int} {r : (Int × fM)} (h : s_X12_span M l1 = some r) : fSame s_X12_span_mods M r.2 := by
  unfold s_X12_span at h
  obtain ⟨y5, hy, h⟩ := fbd h
  have k5 := fs_trans (l := s_X12_span_mods) fs_refl (fs_mono (l := s_X12_takes_mods) (by decide) (s_X12_takes_fr hy))
  by_cases c : ¬ y5.1 = 0
  · replace h := fps c h
    replace h := (fgd h).2
    obtain ⟨y25, hy, h⟩ := fbd h
    have k25 := fs_trans (l := s_X12_span_mods) k5 (fs_mono (l := s_X12_takes_mods) (by decide) (s_X12_takes_fr hy))
    by_cases c : ¬ y25.1 = 0
    · replace h := fps c h
      replace h := (fgd h).2
      obtain rfl := Option.some.inj h
      exact fs_up (fs_up k25 (.inl (by decide))) (.inl (by decide))
    · replace h := fng c h
      obtain rfl := Option.some.inj h
      exact k25
  · replace h := fng c h
    obtain rfl := Option.some.inj h
    exact k5
noncomputable def s_X12_isName_b16 (M : fM) (l1 l2 : Int) : Option ((Int × Int) ⊕ Int) :=
  if 30 ≤ l2 then
    some (.inr l1)
  else
    if l1 = 0 then
      if fin (l2 + 1) then
        some (.inl (0, (l2 + 1)))
      else none
    else
      if (0 ≤ l2 ∧ l2 < 30) then
        if (M 122 17) = (M 127 (l2).toNat) then
          if fin (l2 + 1) then
            some (.inl (0, (l2 + 1)))
          else none
        else
          if fin (l2 + 1) then
            some (.inl (1, (l2 + 1)))
          else none
      else none
theorem s_X12_isName_b16_ok {d L : Nat} {M : fM} {l1 l2 : Int} {r : ((Int × Int) ⊕ Int)} {Q : fO → fH → Prop} (h : s_X12_isName_b16 M l1 l2 = some r) (hC : ∀ (l1' l2' : Int), r = .inl (l1', l2') → Wp (d + 0, 213, 16, 0, 0, [some (fA 122), some (fI l1'), some (fI l2')], []) (156, fjl L, M) Q) (hE : ∀ (e : Int) (o0' o2' : Option fV), r = .inr e → Wp (d + 0, 213, 52, 0, 0, [o0', some (fI e), o2'], []) (156, fjl L, M) Q) : Wp (d + 0, 213, 16, 0, 0, [some (fA 122), some (fI l1), some (fI l2)], []) (156, fjl L, M) Q := by
  unfold s_X12_isName_b16 at h
  refine Wp.run 2 (f' := (d + 0, 213, 19, 0, 0, [some (fA 122), some (fI l1), some (fI l2)], [fI 30, fI l2])) (h' := (156, fjl L, M)) rfl trivial ?_
  refine Wp.br rfl (fun (c : 30 ≤ l2) => ?_) (fun (c : ¬ (30 ≤ l2)) => ?_)
  · replace h := fps c h
    exact hE _ _ _ (Option.some.inj h).symm
  · replace h := fng c h
    refine Wp.run 1 (f' := (d + 0, 213, 23, 0, 0, [some (fA 122), _, some (fI l2)], [fI l1])) (h' := (156, fjl L, M)) rfl trivial ?_
    refine Wp.br rfl (fun (c : l1 = 0) => ?_) (fun (c : ¬ (l1 = 0)) => ?_)
    · replace h := fps c h
      obtain ⟨g0, h⟩ := fgd h
      refine Wp.run 4 (f' := (d + 0, 213, 16, 0, 0, [some (fA 122), some (fI 0), some (fI (fw (l2 + 1)))], [])) (h' := (156, fjl L, M)) rfl trivial ?_
      rw [fw_id g0]
      exact hC _ _ (Option.some.inj h).symm
    · replace h := fng c h
      obtain ⟨g0, h⟩ := fgd h
      refine Wp.run 7 (P := [0 ≤ l2 ∧ l2 < 30]) (f' := (d + 0, 213, 37, 0, 0, [some (fA 122), _, some (fI l2)], [fI (fcm (M 122 17) (M 127 (l2).toNat))])) (h' := (156, fjl L, M)) rfl ?_ ?_
      · exact g0
      refine Wp.br rfl (fun (c : (fcm (M 122 17) (M 127 (l2).toNat)) = 0) => ?_) (fun (c : ¬ ((fcm (M 122 17) (M 127 (l2).toNat)) = 0)) => ?_)
      · replace c := (fcm_eq _ _).mp c
        replace h := fps c h
        obtain ⟨g0, h⟩ := fgd h
        refine Wp.run 4 (f' := (d + 0, 213, 16, 0, 0, [some (fA 122), some (fI 0), some (fI (fw (l2 + 1)))], [])) (h' := (156, fjl L, M)) rfl trivial ?_
        rw [fw_id g0]
        exact hC _ _ (Option.some.inj h).symm
      · replace c := fun z => c ((fcm_eq _ _).mpr z)
        replace h := fng c h
        obtain ⟨g0, h⟩ := fgd h
        refine Wp.run 5 (f' := (d + 0, 213, 16, 0, 0, [some (fA 122), some (fI 1), some (fI (fw (l2 + 1)))], [])) (h' := (156, fjl L, M)) rfl trivial ?_
        rw [fw_id g0]
        exact hC _ _ (Option.some.inj h).symm
noncomputable def s_X12_isName_l16 (M : fM) (s : (Int × Int)) : Option Int := fLp (fun s => s_X12_isName_b16 M s.1 s.2) s
theorem s_X12_isName_l16_ok {d L : Nat} {M : fM} {l1 l2 : Int} {r : Int} {Q : fO → fH → Prop} (h : s_X12_isName_l16 M (l1, l2) = some r) (hE : ∀ (e : Int) (o0' o2' : Option fV), r = e → Wp (d + 0, 213, 52, 0, 0, [o0', some (fI e), o2'], []) (156, fjl L, M) Q) : Wp (d + 0, 213, 16, 0, 0, [some (fA 122), some (fI l1), some (fI l2)], []) (156, fjl L, M) Q := by
  refine fLp_wp (W := fun s => Wp (d + 0, 213, 16, 0, 0, [some (fA 122), some (fI s.1), some (fI s.2)], []) (156, fjl L, M) Q) (e := r) ?_ h
  intro s r1 h hC hX
  refine s_X12_isName_b16_ok (d := d) h (fun a0 a1 e1 => ?_) (fun e u0 u1 e1 => hE e u0 u1 (hX _ e1).symm)
  exact hC _ e1
noncomputable def s_X12_isName_j13 (M : fM) (t0 : Int) : Option Int :=
  (s_X12_isName_l16 M (t0, 0)).bind fun e16 =>
    if b01 e16 then
      some e16
    else none
theorem s_X12_isName_j13_ok {d L : Nat} {M : fM} {t0 : Int} {o1 o2 : Option fV} {r : Int} {Q : fO → fH → Prop} (h : s_X12_isName_j13 M t0 = some r) (H : Q (oI r) (156, fjl L, M)) : Wp (d + 0, 213, 13, 0, 0, [some (fA 122), o1, o2], [fI t0]) (156, fjl L, M) Q := by
  unfold s_X12_isName_j13 at h
  refine Wp.run 3 (f' := (d + 0, 213, 16, 0, 0, [some (fA 122), some (fI t0), some (fI 0)], [])) (h' := (156, fjl L, M)) rfl trivial ?_
  obtain ⟨e16, hy, h⟩ := fbd h
  refine s_X12_isName_l16_ok hy (fun x u0 u2 ex => ?_)
  cases ex
  show Wp (d + 0, 213, 52, 0, 0, [u0, some (fI e16), u2], []) (156, fjl L, M) Q
  obtain ⟨g0, h⟩ := fgd h
  refine Wp.run 1 (f' := (d + 0, 213, 53, 0, 0, [_, _, _], [fI e16])) (h' := (156, fjl L, M)) rfl trivial ?_
  obtain rfl := Option.some.inj h
  exact Wp.done rfl ⟨g0, by decide, by decide, by decide⟩ H
noncomputable def s_X12_isName (M : fM) : Option Int :=
  if ¬ (M 122 11) = 1 then
    s_X12_isName_j13 M 0
  else
    s_X12_isName_j13 M 1
theorem s_X12_isName_ok {d L : Nat} {M : fM} {r : Int} {Q : fO → fH → Prop} (h : s_X12_isName M = some r) (H : Q (oI r) (156, fjl L, M)) : Wp (d + 0, 213, 0, 0, 0, [some (fA 122), none, none], []) (156, fjl L, M) Q := by
  unfold s_X12_isName at h
  refine Wp.run 3 (f' := (d + 0, 213, 5, 0, 0, [some (fA 122), _, _], [fI 1, fI (M 122 11)])) (h' := (156, fjl L, M)) rfl trivial ?_
  refine Wp.br rfl (fun (c : ¬ (M 122 11) = 1) => ?_) (fun (c : ¬ (¬ (M 122 11) = 1)) => ?_)
  · replace h := fps c h
    refine Wp.run 1 (f' := (d + 0, 213, 13, 0, 0, [some (fA 122), _, _], [fI 0])) (h' := (156, fjl L, M)) rfl trivial ?_
    exact s_X12_isName_j13_ok h H
  · replace h := fng c h
    refine Wp.run 2 (f' := (d + 0, 213, 13, 0, 0, [some (fA 122), _, _], [fI 1])) (h' := (156, fjl L, M)) rfl trivial ?_
    exact s_X12_isName_j13_ok h H
noncomputable def s_X12_find_b29 (M : fM) (l1 l2 l3 l4 : Int) : Option (Int ⊕ (Unit ⊕ Int)) :=
  if fin (645 * l1) ∧ fin ((645 * l1) + 172) ∧ fin (((645 * l1) + 172) + l2) ∧ (0 ≤ (((645 * l1) + 172) + l2) ∧ (((645 * l1) + 172) + l2) < 1290) then
    if (M 124 (((645 * l1) + 172) + l2).toNat) ≤ l4 then
      some (.inr (.inl ()))
    else
      if fin (l3 + l4) ∧ (0 ≤ (l3 + l4) ∧ (l3 + l4) < 56) then
        if ¬ (M 126 (l3 + l4).toNat) = (M 122 17) then
          if fin (l4 + 1) then
            some (.inl (l4 + 1))
          else none
        else
          some (.inr (.inr l4))
      else none
  else none
theorem s_X12_find_b29_ok {d L : Nat} {M : fM} {l1 l2 l3 l4 : Int} {r : (Int ⊕ (Unit ⊕ Int))} {Q : fO → fH → Prop} (h : s_X12_find_b29 M l1 l2 l3 l4 = some r) (hC : ∀ (l4' : Int), r = .inl l4' → Wp (d + 0, 214, 29, 0, 0, [some (fA 122), some (fI l1), some (fI l2), some (fI l3), some (fI l4')], []) (156, fjl L, M) Q) (hE : ∀ (e : Unit) (o0' o1' o2' o3' o4' : Option fV), r = .inr (.inl e) → Wp (d + 0, 214, 76, 0, 0, [o0', o1', o2', o3', o4'], []) (156, fjl L, M) Q) (hR : ∀ (v : Int), r = .inr (.inr v) → Q (oI v) (156, fjl L, M)) : Wp (d + 0, 214, 29, 0, 0, [some (fA 122), some (fI l1), some (fI l2), some (fI l3), some (fI l4)], []) (156, fjl L, M) Q := by
  unfold s_X12_find_b29 at h
  obtain ⟨⟨g0, g1, g2, g3⟩, h⟩ := fgd h
  refine Wp.run 11 (P := [0 ≤ (fw ((fw ((fw (645 * l1)) + 172)) + l2)) ∧ (fw ((fw ((fw (645 * l1)) + 172)) + l2)) < 1290]) (f' := (d + 0, 214, 47, 0, 0, [some (fA 122), some (fI l1), some (fI l2), some (fI l3), some (fI l4)], [fI (M 124 (fw ((fw ((fw (645 * l1)) + 172)) + l2)).toNat), fI l4])) (h' := (156, fjl L, M)) rfl ?_ ?_
  · rw [fw_id g0, fw_id g1, fw_id g2]; exact g3
  rw [fw_id g0, fw_id g1, fw_id g2]
  refine Wp.br rfl (fun (c : (M 124 (((645 * l1) + 172) + l2).toNat) ≤ l4) => ?_) (fun (c : ¬ ((M 124 (((645 * l1) + 172) + l2).toNat) ≤ l4)) => ?_)
  · replace h := fps c h
    exact hE _ _ _ _ _ _ (Option.some.inj h).symm
  · replace h := fng c h
    obtain ⟨⟨g0, g1⟩, h⟩ := fgd h
    refine Wp.run 9 (P := [0 ≤ (fw (l3 + l4)) ∧ (fw (l3 + l4)) < 56]) (f' := (d + 0, 214, 64, 0, 0, [some (fA 122), some (fI l1), some (fI l2), some (fI l3), some (fI l4)], [fI (fcm (M 126 (fw (l3 + l4)).toNat) (M 122 17))])) (h' := (156, fjl L, M)) rfl ?_ ?_
    · rw [fw_id g0]; exact g1
    rw [fw_id g0]
    refine Wp.br rfl (fun (c : ¬ (fcm (M 126 (l3 + l4).toNat) (M 122 17)) = 0) => ?_) (fun (c : ¬ (¬ (fcm (M 126 (l3 + l4).toNat) (M 122 17)) = 0)) => ?_)
    · replace c := (fcm_ne _ _).mp c
      replace h := fps c h
      obtain ⟨g0, h⟩ := fgd h
      refine Wp.run 2 (f' := (d + 0, 214, 29, 0, 0, [some (fA 122), some (fI l1), some (fI l2), some (fI l3), some (fI (fw (l4 + 1)))], [])) (h' := (156, fjl L, M)) rfl trivial ?_
      rw [fw_id g0]
      exact hC _ (Option.some.inj h).symm
    · replace c := fun z => c ((fcm_ne _ _).mpr z)
      replace h := fng c h
      refine Wp.run 1 (f' := (d + 0, 214, 69, 0, 0, [_, _, _, _, _], [fI l4])) (h' := (156, fjl L, M)) rfl trivial ?_
      exact Wp.done rfl (by decide) (hR _ (Option.some.inj h).symm)
noncomputable def s_X12_find_l29 (M : fM) (l1 l2 l3 : Int) (s : Int) : Option (Unit ⊕ Int) := fLp (fun s => s_X12_find_b29 M l1 l2 l3 s) s
theorem s_X12_find_l29_ok {d L : Nat} {M : fM} {l1 l2 l3 l4 : Int} {r : (Unit ⊕ Int)} {Q : fO → fH → Prop} (h : s_X12_find_l29 M l1 l2 l3 l4 = some r) (hE : ∀ (e : Unit) (o0' o1' o2' o3' o4' : Option fV), r = .inl e → Wp (d + 0, 214, 76, 0, 0, [o0', o1', o2', o3', o4'], []) (156, fjl L, M) Q) (hR : ∀ (v : Int), r = .inr v → Q (oI v) (156, fjl L, M)) : Wp (d + 0, 214, 29, 0, 0, [some (fA 122), some (fI l1), some (fI l2), some (fI l3), some (fI l4)], []) (156, fjl L, M) Q := by
  refine fLp_wp (W := fun s => Wp (d + 0, 214, 29, 0, 0, [some (fA 122), some (fI l1), some (fI l2), some (fI l3), some (fI s)], []) (156, fjl L, M) Q) (e := r) ?_ h
  intro s r1 h hC hX
  refine s_X12_find_b29_ok (d := d) h (fun a0 e1 => ?_) (fun e u0 u1 u2 u3 u4 e1 => hE e u0 u1 u2 u3 u4 (hX _ e1).symm) (fun v e1 => hR v (hX _ e1).symm)
  exact hC _ e1
noncomputable def s_X12_find_j24 (M : fM) (l1 l2 t0 t1 : Int) : Option Int :=
  if fin (t0 + t1) then
    (s_X12_find_l29 M l1 l2 (t0 + t1) 0).bind fun e29 =>
      Sum.elim (fun x29 =>
        some (-1))
        (fun v29 => some v29) e29
  else none
theorem s_X12_find_j24_ok {d L : Nat} {M : fM} {l1 l2 t0 t1 : Int} {o3 o4 : Option fV} {r : Int} {Q : fO → fH → Prop} (h : s_X12_find_j24 M l1 l2 t0 t1 = some r) (H : Q (oI r) (156, fjl L, M)) : Wp (d + 0, 214, 24, 0, 0, [some (fA 122), some (fI l1), some (fI l2), o3, o4], [fI t1, fI t0]) (156, fjl L, M) Q := by
  unfold s_X12_find_j24 at h
  obtain ⟨g0, h⟩ := fgd h
  refine Wp.run 4 (f' := (d + 0, 214, 29, 0, 0, [some (fA 122), some (fI l1), some (fI l2), some (fI (fw (t0 + t1))), some (fI 0)], [])) (h' := (156, fjl L, M)) rfl trivial ?_
  rw [fw_id g0]
  obtain ⟨e29, hy, h⟩ := fbd h
  refine s_X12_find_l29_ok hy (fun x29 u0 u1 u2 u3 u4 ex => ?_) (fun v29 ex => ?_)
  · subst ex
    replace h := fsl h
    show Wp (d + 0, 214, 76, 0, 0, [u0, u1, u2, u3, u4], []) (156, fjl L, M) Q
    refine Wp.run 1 (f' := (d + 0, 214, 77, 0, 0, [_, _, _, _, _], [fI (-1)])) (h' := (156, fjl L, M)) rfl trivial ?_
    obtain rfl := Option.some.inj h
    exact Wp.done rfl (by decide) H
  · subst ex
    replace h := fsr h
    obtain rfl := Option.some.inj h
    exact H
noncomputable def s_X12_find (M : fM) (l1 l2 : Int) : Option Int :=
  if fin (28 * l1) then
    if ¬ l2 = 0 then
      if ¬ l2 = 1 then
        s_X12_find_j24 M l1 l2 (28 * l1) 22
      else
        s_X12_find_j24 M l1 l2 (28 * l1) 16
    else
      s_X12_find_j24 M l1 l2 (28 * l1) 0
  else none
theorem s_X12_find_ok {d L : Nat} {M : fM} {l1 l2 : Int} {r : Int} {Q : fO → fH → Prop} (h : s_X12_find M l1 l2 = some r) (H : Q (oI r) (156, fjl L, M)) : Wp (d + 0, 214, 0, 0, 0, [some (fA 122), some (fI l1), some (fI l2), none, none], []) (156, fjl L, M) Q := by
  unfold s_X12_find at h
  obtain ⟨g0, h⟩ := fgd h
  refine Wp.run 4 (f' := (d + 0, 214, 5, 0, 0, [some (fA 122), some (fI l1), some (fI l2), _, _], [fI l2, fI (fw (28 * l1))])) (h' := (156, fjl L, M)) rfl trivial ?_
  rw [fw_id g0]
  refine Wp.br rfl (fun (c : ¬ l2 = 0) => ?_) (fun (c : ¬ (¬ l2 = 0)) => ?_)
  · replace h := fps c h
    refine Wp.run 2 (f' := (d + 0, 214, 14, 0, 0, [some (fA 122), some (fI l1), some (fI l2), _, _], [fI 1, fI l2, fI (28 * l1)])) (h' := (156, fjl L, M)) rfl trivial ?_
    refine Wp.br rfl (fun (c : ¬ l2 = 1) => ?_) (fun (c : ¬ (¬ l2 = 1)) => ?_)
    · replace h := fps c h
      refine Wp.run 1 (f' := (d + 0, 214, 24, 0, 0, [some (fA 122), some (fI l1), some (fI l2), _, _], [fI 22, fI (28 * l1)])) (h' := (156, fjl L, M)) rfl trivial ?_
      exact s_X12_find_j24_ok h H
    · replace h := fng c h
      refine Wp.run 2 (f' := (d + 0, 214, 24, 0, 0, [some (fA 122), some (fI l1), some (fI l2), _, _], [fI 16, fI (28 * l1)])) (h' := (156, fjl L, M)) rfl trivial ?_
      exact s_X12_find_j24_ok h H
  · replace h := fng c h
    refine Wp.run 2 (f' := (d + 0, 214, 24, 0, 0, [some (fA 122), some (fI l1), some (fI l2), _, _], [fI 0, fI (28 * l1)])) (h' := (156, fjl L, M)) rfl trivial ?_
    exact s_X12_find_j24_ok h H
abbrev s_X12_fresh_mods : List (Nat × Option Nat) := [(122, some 15), (122, some 16)]
noncomputable def s_X12_fresh_j40 (M : fM) : Option (Int × fM) :=
  (s_X12_bad M 3).bind fun y42 =>
    if y42.1 = 0 then
      some (0, y42.2)
    else
      some (1, y42.2)
theorem s_X12_fresh_j40_ok {d L : Nat} {M : fM} {r : (Int × fM)} {Q : fO → fH → Prop} (h : s_X12_fresh_j40 M = some r) (H : Q (oI r.1) (156, fjl L, r.2)) : Wp (d + 1, 227, 40, 0, 0, [some (fA 122)], []) (156, fjl L, M) Q := by
  unfold s_X12_fresh_j40 at h
  refine Wp.run 2 (f' := (d + 1, 227, 42, 0, 0, [_], [fI 3, fA 122])) (h' := (156, fjl L, M)) rfl trivial ?_
  obtain ⟨y42, hy, h⟩ := fbd h
  refine Wp.call rfl (by decide) (s_X12_bad_ok (d := d + 0) hy ?_)
  show Wp (d + 1, 227, 45, 0, 0, [_], [fI y42.1]) (156, fjl L, y42.2) Q
  refine Wp.br rfl (fun (c : y42.1 = 0) => ?_) (fun (c : ¬ (y42.1 = 0)) => ?_)
  · replace h := fps c h
    refine Wp.run 1 (f' := (d + 1, 227, 53, 0, 0, [_], [fI 0])) (h' := (156, fjl L, y42.2)) rfl trivial ?_
    obtain rfl := Option.some.inj h
    exact Wp.done rfl (by decide) H
  · replace h := fng c h
    refine Wp.run 2 (f' := (d + 1, 227, 53, 0, 0, [_], [fI 1])) (h' := (156, fjl L, y42.2)) rfl trivial ?_
    obtain rfl := Option.some.inj h
    exact Wp.done rfl (by decide) H
theorem s_X12_fresh_j40_fr {M : fM} {r : (Int × fM)} (h : s_X12_fresh_j40 M = some r) : fSame s_X12_fresh_mods M r.2 := by
  unfold s_X12_fresh_j40 at h
  obtain ⟨y42, hy, h⟩ := fbd h
  have k42 := fs_trans (l := s_X12_fresh_mods) fs_refl (fs_mono (l := s_X12_bad_mods) (by decide) (s_X12_bad_fr hy))
  by_cases c : y42.1 = 0
  · replace h := fps c h
    obtain rfl := Option.some.inj h
    exact k42
  · replace h := fng c h
    obtain rfl := Option.some.inj h
    exact k42
noncomputable def s_X12_fresh (M : fM) : Option (Int × fM) :=
  (s_X12_isName M).bind fun y1 =>
    if ¬ y1 = 0 then
      (s_X12_find M 1 0).bind fun y16 =>
        if 0 ≤ y16 then
          s_X12_fresh_j40 M
        else
          (s_X12_find M 1 1).bind fun y25 =>
            if 0 ≤ y25 then
              s_X12_fresh_j40 M
            else
              (s_X12_find M 1 2).bind fun y34 =>
                if y34 < 0 then
                  some (1, M)
                else
                  s_X12_fresh_j40 M
    else
      (s_X12_bad M 1).bind fun y9 =>
        if b01 y9.1 then
          some (y9.1, y9.2)
        else none
theorem s_X12_fresh_ok {d L : Nat} {M : fM} {r : (Int × fM)} {Q : fO → fH → Prop} (h : s_X12_fresh M = some r) (H : Q (oI r.1) (156, fjl L, r.2)) : Wp (d + 1, 227, 0, 0, 0, [some (fA 122)], []) (156, fjl L, M) Q := by
  unfold s_X12_fresh at h
  refine Wp.run 1 (f' := (d + 1, 227, 1, 0, 0, [some (fA 122)], [fA 122])) (h' := (156, fjl L, M)) rfl trivial ?_
  obtain ⟨y1, hy, h⟩ := fbd h
  refine Wp.call rfl (by decide) (s_X12_isName_ok (d := d + 0) hy ?_)
  show Wp (d + 1, 227, 4, 0, 0, [some (fA 122)], [fI y1]) (156, fjl L, M) Q
  refine Wp.br rfl (fun (c : ¬ y1 = 0) => ?_) (fun (c : ¬ (¬ y1 = 0)) => ?_)
  · replace h := fps c h
    refine Wp.run 3 (f' := (d + 1, 227, 16, 0, 0, [some (fA 122)], [fI 0, fI 1, fA 122])) (h' := (156, fjl L, M)) rfl trivial ?_
    obtain ⟨y16, hy, h⟩ := fbd h
    refine Wp.call rfl (by decide) (s_X12_find_ok (d := d + 0) hy ?_)
    show Wp (d + 1, 227, 19, 0, 0, [some (fA 122)], [fI y16]) (156, fjl L, M) Q
    refine Wp.br rfl (fun (c : 0 ≤ y16) => ?_) (fun (c : ¬ (0 ≤ y16)) => ?_)
    · replace h := fps c h
      exact s_X12_fresh_j40_ok h H
    · replace h := fng c h
      refine Wp.run 3 (f' := (d + 1, 227, 25, 0, 0, [some (fA 122)], [fI 1, fI 1, fA 122])) (h' := (156, fjl L, M)) rfl trivial ?_
      obtain ⟨y25, hy, h⟩ := fbd h
      refine Wp.call rfl (by decide) (s_X12_find_ok (d := d + 0) hy ?_)
      show Wp (d + 1, 227, 28, 0, 0, [some (fA 122)], [fI y25]) (156, fjl L, M) Q
      refine Wp.br rfl (fun (c : 0 ≤ y25) => ?_) (fun (c : ¬ (0 ≤ y25)) => ?_)
      · replace h := fps c h
        exact s_X12_fresh_j40_ok h H
      · replace h := fng c h
        refine Wp.run 3 (f' := (d + 1, 227, 34, 0, 0, [some (fA 122)], [fI 2, fI 1, fA 122])) (h' := (156, fjl L, M)) rfl trivial ?_
        obtain ⟨y34, hy, h⟩ := fbd h
        refine Wp.call rfl (by decide) (s_X12_find_ok (d := d + 0) hy ?_)
        show Wp (d + 1, 227, 37, 0, 0, [some (fA 122)], [fI y34]) (156, fjl L, M) Q
        refine Wp.br rfl (fun (c : y34 < 0) => ?_) (fun (c : ¬ (y34 < 0)) => ?_)
        · replace h := fps c h
          refine Wp.run 2 (f' := (d + 1, 227, 53, 0, 0, [_], [fI 1])) (h' := (156, fjl L, M)) rfl trivial ?_
          obtain rfl := Option.some.inj h
          exact Wp.done rfl (by decide) H
        · replace h := fng c h
          exact s_X12_fresh_j40_ok h H
  · replace h := fng c h
    refine Wp.run 2 (f' := (d + 1, 227, 9, 0, 0, [_], [fI 1, fA 122])) (h' := (156, fjl L, M)) rfl trivial ?_
    obtain ⟨y9, hy, h⟩ := fbd h
    refine Wp.call rfl (by decide) (s_X12_bad_ok (d := d + 0) hy ?_)
    show Wp (d + 1, 227, 12, 0, 0, [_], [fI y9.1]) (156, fjl L, y9.2) Q
    obtain ⟨g0, h⟩ := fgd h
    obtain rfl := Option.some.inj h
    exact Wp.done rfl ⟨g0, by decide, by decide, by decide⟩ H
theorem s_X12_fresh_fr {M : fM} {r : (Int × fM)} (h : s_X12_fresh M = some r) : fSame s_X12_fresh_mods M r.2 := by
  unfold s_X12_fresh at h
  obtain ⟨y1, hy, h⟩ := fbd h
  by_cases c : ¬ y1 = 0
  · replace h := fps c h
    obtain ⟨y16, hy, h⟩ := fbd h
    by_cases c : 0 ≤ y16
    · replace h := fps c h
      exact fs_trans fs_refl (s_X12_fresh_j40_fr h)
    · replace h := fng c h
      obtain ⟨y25, hy, h⟩ := fbd h
      by_cases c : 0 ≤ y25
      · replace h := fps c h
        exact fs_trans fs_refl (s_X12_fresh_j40_fr h)
      · replace h := fng c h
        obtain ⟨y34, hy, h⟩ := fbd h
        by_cases c : y34 < 0
        · replace h := fps c h
          obtain rfl := Option.some.inj h
          exact fs_refl
        · replace h := fng c h
          exact fs_trans fs_refl (s_X12_fresh_j40_fr h)
  · replace h := fng c h
    obtain ⟨y9, hy, h⟩ := fbd h
    have k9 := fs_trans (l := s_X12_fresh_mods) fs_refl (fs_mono (l := s_X12_bad_mods) (by decide) (s_X12_bad_fr hy))
    replace h := (fgd h).2
    obtain rfl := Option.some.inj h
    exact k9
