/-! ===== functions of the methods (printed by genfun.py) ===== -/
noncomputable def s_X10_hasRoom (M : fM) (l1 : Int) : Option Int :=
  if fin ((M 1 2) + l1) then
    if 1240 < ((M 1 2) + l1) then
      some 0
    else
      some 1
  else none
theorem s_X10_hasRoom_ok {d L : Nat} {M : fM} {l1 : Int} {r : Int} {Q : fO → fH → Prop} (h : s_X10_hasRoom M l1 = some r) (H : Q (oI r) (156, fjl L, M)) : Wp (d + 0, 132, 0, 0, 0, [some (fA 1), some (fI l1)], []) (156, fjl L, M) Q := by
  unfold s_X10_hasRoom at h
  obtain ⟨g0, h⟩ := fgd h
  refine Wp.run 5 (f' := (d + 0, 132, 9, 0, 0, [_, _], [fI 1240, fI (fw ((M 1 2) + l1))])) (h' := (156, fjl L, M)) rfl trivial ?_
  rw [fw_id g0]
  refine Wp.br rfl (fun (c : 1240 < ((M 1 2) + l1)) => ?_) (fun (c : ¬ (1240 < ((M 1 2) + l1))) => ?_)
  · replace h := fps c h
    refine Wp.run 1 (f' := (d + 0, 132, 17, 0, 0, [_, _], [fI 0])) (h' := (156, fjl L, M)) rfl trivial ?_
    obtain rfl := Option.some.inj h
    exact Wp.done rfl (by decide) H
  · replace h := fng c h
    refine Wp.run 2 (f' := (d + 0, 132, 17, 0, 0, [_, _], [fI 1])) (h' := (156, fjl L, M)) rfl trivial ?_
    obtain rfl := Option.some.inj h
    exact Wp.done rfl (by decide) H
abbrev s_X10_add_mods : List (Nat × Option Nat) := [(1, some 2), (2, none)]
noncomputable def s_X10_add_b3 (M : fM) (l1 l2 : Int) : Option ((Int × fM) ⊕ fM) :=
  if l2 < 0 then
    some (.inr M)
  else
    if 1240 ≤ (M 1 2) then
      some (.inr M)
    else
      if (0 ≤ (M 1 2) ∧ (M 1 2) < 1240) ∧ fin ((M 1 2) + 1) then
        if fin (l2 + (-8)) then
          some (.inl ((l2 + (-8)), (fup (fup M 2 (M 1 2).toNat (fi2b (fi2b (fush l1 l2)))) 1 2 ((M 1 2) + 1))))
        else none
      else none
theorem s_X10_add_b3_ok {d L : Nat} {M : fM} {l1 l2 : Int} {r : ((Int × fM) ⊕ fM)} {Q : fO → fH → Prop} (h : s_X10_add_b3 M l1 l2 = some r) (hC : ∀ (l2' : Int) (M' : fM), r = .inl (l2', M') → Wp (d + 0, 133, 3, 0, 0, [some (fA 1), some (fI l1), some (fI l2')], []) (156, fjl L, M') Q) (hE : ∀ (e : fM) (o0' o1' o2' : Option fV), r = .inr e → Wp (d + 0, 133, 46, 0, 0, [o0', o1', o2'], []) (156, fjl L, e) Q) : Wp (d + 0, 133, 3, 0, 0, [some (fA 1), some (fI l1), some (fI l2)], []) (156, fjl L, M) Q := by
  unfold s_X10_add_b3 at h
  refine Wp.run 1 (f' := (d + 0, 133, 4, 0, 0, [some (fA 1), some (fI l1), some (fI l2)], [fI l2])) (h' := (156, fjl L, M)) rfl trivial ?_
  refine Wp.br rfl (fun (c : l2 < 0) => ?_) (fun (c : ¬ (l2 < 0)) => ?_)
  · replace h := fps c h
    exact hE _ _ _ _ (Option.some.inj h).symm
  · replace h := fng c h
    refine Wp.run 3 (f' := (d + 0, 133, 14, 0, 0, [some (fA 1), some (fI l1), some (fI l2)], [fI 1240, fI (M 1 2)])) (h' := (156, fjl L, M)) rfl trivial ?_
    refine Wp.br rfl (fun (c : 1240 ≤ (M 1 2)) => ?_) (fun (c : ¬ (1240 ≤ (M 1 2))) => ?_)
    · replace h := fps c h
      exact hE _ _ _ _ (Option.some.inj h).symm
    · replace h := fng c h
      obtain ⟨⟨g0, g1⟩, h⟩ := fgd h
      refine Wp.run 15 (P := [0 ≤ (M 1 2) ∧ (M 1 2) < 1240]) (f' := (d + 0, 133, 40, 0, 0, [some (fA 1), some (fI l1), some (fI l2)], [])) (h' := (156, fjl L, (fup (fup M 2 (M 1 2).toNat (fi2b (fi2b (fush l1 l2)))) 1 2 (fw ((M 1 2) + 1))))) rfl ?_ ?_
      · exact g0
      rw [fw_id g1]
      obtain ⟨g0, h⟩ := fgd h
      refine Wp.run 2 (f' := (d + 0, 133, 3, 0, 0, [some (fA 1), some (fI l1), some (fI (fw (l2 + (-8))))], [])) (h' := (156, fjl L, (fup (fup M 2 (M 1 2).toNat (fi2b (fi2b (fush l1 l2)))) 1 2 ((M 1 2) + 1)))) rfl trivial ?_
      rw [fw_id g0]
      exact hC _ _ (Option.some.inj h).symm
theorem s_X10_add_b3_fr {M : fM} {l1 l2 : Int} {r : ((Int × fM) ⊕ fM)} (h : s_X10_add_b3 M l1 l2 = some r) : fSame s_X10_add_mods M (Sum.elim (fun s => s.2) (fun e => e) r) := by
  unfold s_X10_add_b3 at h
  by_cases c : l2 < 0
  · replace h := fps c h
    obtain rfl := Option.some.inj h
    exact fs_refl
  · replace h := fng c h
    by_cases c : 1240 ≤ (M 1 2)
    · replace h := fps c h
      obtain rfl := Option.some.inj h
      exact fs_refl
    · replace h := fng c h
      replace h := (fgd h).2
      replace h := (fgd h).2
      obtain rfl := Option.some.inj h
      exact fs_up (fs_up fs_refl (.inl (by decide))) (.inr (by decide))
noncomputable def s_X10_add_l3 (l1 : Int) (s : (Int × fM)) : Option fM := fLp (fun s => s_X10_add_b3 s.2 l1 s.1) s
theorem s_X10_add_l3_ok {d L : Nat} {M : fM} {l1 l2 : Int} {r : fM} {Q : fO → fH → Prop} (h : s_X10_add_l3 l1 (l2, M) = some r) (hE : ∀ (e : fM) (o0' o1' o2' : Option fV), r = e → Wp (d + 0, 133, 46, 0, 0, [o0', o1', o2'], []) (156, fjl L, e) Q) : Wp (d + 0, 133, 3, 0, 0, [some (fA 1), some (fI l1), some (fI l2)], []) (156, fjl L, M) Q := by
  refine fLp_wp (W := fun s => Wp (d + 0, 133, 3, 0, 0, [some (fA 1), some (fI l1), some (fI s.1)], []) (156, fjl L, s.2) Q) (e := r) ?_ h
  intro s r1 h hC hX
  refine s_X10_add_b3_ok (d := d) h (fun a0 a1 e1 => ?_) (fun e u0 u1 u2 e1 => hE e u0 u1 u2 (hX _ e1).symm)
  exact hC _ e1
theorem s_X10_add_l3_fr {M : fM} {l1 l2 : Int} {r : fM} (h : s_X10_add_l3 l1 (l2, M) = some r) : fSame s_X10_add_mods M ((fun e => e) r) := by
  refine fLp_inv (I := fun s => fSame s_X10_add_mods M s.2) (J := fun r => fSame s_X10_add_mods M ((fun e => e) r)) h fs_refl (fun s s1 hs hb => ?_) (fun s e hs hb => ?_)
  · exact fs_trans hs (s_X10_add_b3_fr hb)
  · exact fs_trans hs (s_X10_add_b3_fr hb)
noncomputable def s_X10_add (M : fM) (l1 : Int) : Option (Unit × fM) :=
  (s_X10_add_l3 l1 (24, M)).bind fun e3 =>
    some ((), e3)
theorem s_X10_add_ok {d L : Nat} {M : fM} {l1 : Int} {r : (Unit × fM)} {Q : fO → fH → Prop} (h : s_X10_add M l1 = some r) (H : Q (oV r.1) (156, fjl L, r.2)) : Wp (d + 0, 133, 0, 0, 0, [some (fA 1), some (fI l1), none], []) (156, fjl L, M) Q := by
  unfold s_X10_add at h
  refine Wp.run 2 (f' := (d + 0, 133, 3, 0, 0, [some (fA 1), some (fI l1), some (fI 24)], [])) (h' := (156, fjl L, M)) rfl trivial ?_
  obtain ⟨e3, hy, h⟩ := fbd h
  refine s_X10_add_l3_ok hy (fun x u0 u1 u2 ex => ?_)
  cases ex
  show Wp (d + 0, 133, 46, 0, 0, [u0, u1, u2], []) (156, fjl L, e3) Q
  obtain rfl := Option.some.inj h
  exact Wp.done rfl (by decide) H
theorem s_X10_add_fr {M : fM} {l1 : Int} {r : (Unit × fM)} (h : s_X10_add M l1 = some r) : fSame s_X10_add_mods M r.2 := by
  unfold s_X10_add at h
  obtain ⟨e3, hy, h⟩ := fbd h
  have k3 := fs_trans (l := s_X10_add_mods) fs_refl (s_X10_add_l3_fr hy)
  obtain rfl := Option.some.inj h
  exact k3
abbrev s_X11_feed_mods : List (Nat × Option Nat) := [(1, some 2), (2, none)]
noncomputable def s_X11_feed (M : fM) (l1 l2 l3 l4 l5 : Int) : Option (Int × fM) :=
  (s_X10_hasRoom M 20).bind fun y6 =>
    if ¬ y6 = 0 then
      (s_X10_add M l1).bind fun y19 =>
        (s_X10_add y19.2 l2).bind fun y27 =>
          (s_X10_add y27.2 l3).bind fun y35 =>
            (s_X10_add y35.2 l4).bind fun y44 =>
              (s_X10_add y44.2 l5).bind fun y53 =>
                some ((y53.2 1 2), y53.2)
    else
      some ((-1), M)
theorem s_X11_feed_ok {d L : Nat} {M : fM} {l1 l2 l3 l4 l5 : Int} {r : (Int × fM)} {Q : fO → fH → Prop} (h : s_X11_feed M l1 l2 l3 l4 l5 = some r) (H : Q (oI r.1) (156, fjl L, r.2)) : Wp (d + 1, 151, 0, 0, 0, [some (fA 0), some (fI l1), some (fI l2), some (fI l3), some (fI l4), some (fI l5)], []) (156, fjl L, M) Q := by
  unfold s_X11_feed at h
  refine Wp.run 3 (f' := (d + 1, 151, 6, 0, 0, [some (fA 0), some (fI l1), some (fI l2), some (fI l3), some (fI l4), some (fI l5)], [fI 20, fA 1])) (h' := (156, fjl L, M)) rfl trivial ?_
  obtain ⟨y6, hy, h⟩ := fbd h
  refine Wp.call rfl (by decide) (s_X10_hasRoom_ok (d := d + 0) hy ?_)
  show Wp (d + 1, 151, 9, 0, 0, [some (fA 0), some (fI l1), some (fI l2), some (fI l3), some (fI l4), some (fI l5)], [fI y6]) (156, fjl L, M) Q
  refine Wp.br rfl (fun (c : ¬ y6 = 0) => ?_) (fun (c : ¬ (¬ y6 = 0)) => ?_)
  · replace h := fps c h
    refine Wp.run 3 (f' := (d + 1, 151, 19, 0, 0, [some (fA 0), _, some (fI l2), some (fI l3), some (fI l4), some (fI l5)], [fI l1, fA 1])) (h' := (156, fjl L, M)) rfl trivial ?_
    obtain ⟨y19, hy, h⟩ := fbd h
    refine Wp.call rfl (by decide) (s_X10_add_ok (d := d + 0) hy ?_)
    show Wp (d + 1, 151, 22, 0, 0, [some (fA 0), _, some (fI l2), some (fI l3), some (fI l4), some (fI l5)], []) (156, fjl L, y19.2) Q
    refine Wp.run 3 (f' := (d + 1, 151, 27, 0, 0, [some (fA 0), _, _, some (fI l3), some (fI l4), some (fI l5)], [fI l2, fA 1])) (h' := (156, fjl L, y19.2)) rfl trivial ?_
    obtain ⟨y27, hy, h⟩ := fbd h
    refine Wp.call rfl (by decide) (s_X10_add_ok (d := d + 0) hy ?_)
    show Wp (d + 1, 151, 30, 0, 0, [some (fA 0), _, _, some (fI l3), some (fI l4), some (fI l5)], []) (156, fjl L, y27.2) Q
    refine Wp.run 3 (f' := (d + 1, 151, 35, 0, 0, [some (fA 0), _, _, _, some (fI l4), some (fI l5)], [fI l3, fA 1])) (h' := (156, fjl L, y27.2)) rfl trivial ?_
    obtain ⟨y35, hy, h⟩ := fbd h
    refine Wp.call rfl (by decide) (s_X10_add_ok (d := d + 0) hy ?_)
    show Wp (d + 1, 151, 38, 0, 0, [some (fA 0), _, _, _, some (fI l4), some (fI l5)], []) (156, fjl L, y35.2) Q
    refine Wp.run 3 (f' := (d + 1, 151, 44, 0, 0, [some (fA 0), _, _, _, _, some (fI l5)], [fI l4, fA 1])) (h' := (156, fjl L, y35.2)) rfl trivial ?_
    obtain ⟨y44, hy, h⟩ := fbd h
    refine Wp.call rfl (by decide) (s_X10_add_ok (d := d + 0) hy ?_)
    show Wp (d + 1, 151, 47, 0, 0, [some (fA 0), _, _, _, _, some (fI l5)], []) (156, fjl L, y44.2) Q
    refine Wp.run 3 (f' := (d + 1, 151, 53, 0, 0, [some (fA 0), _, _, _, _, _], [fI l5, fA 1])) (h' := (156, fjl L, y44.2)) rfl trivial ?_
    obtain ⟨y53, hy, h⟩ := fbd h
    refine Wp.call rfl (by decide) (s_X10_add_ok (d := d + 0) hy ?_)
    show Wp (d + 1, 151, 56, 0, 0, [some (fA 0), _, _, _, _, _], []) (156, fjl L, y53.2) Q
    refine Wp.run 3 (f' := (d + 1, 151, 63, 0, 0, [_, _, _, _, _, _], [fI (y53.2 1 2)])) (h' := (156, fjl L, y53.2)) rfl trivial ?_
    obtain rfl := Option.some.inj h
    exact Wp.done rfl (by decide) H
  · replace h := fng c h
    refine Wp.run 1 (f' := (d + 1, 151, 13, 0, 0, [_, _, _, _, _, _], [fI (-1)])) (h' := (156, fjl L, M)) rfl trivial ?_
    obtain rfl := Option.some.inj h
    exact Wp.done rfl (by decide) H
theorem s_X11_feed_fr {M : fM} {l1 l2 l3 l4 l5 : Int} {r : (Int × fM)} (h : s_X11_feed M l1 l2 l3 l4 l5 = some r) : fSame s_X11_feed_mods M r.2 := by
  unfold s_X11_feed at h
  obtain ⟨y6, hy, h⟩ := fbd h
  by_cases c : ¬ y6 = 0
  · replace h := fps c h
    obtain ⟨y19, hy, h⟩ := fbd h
    have k19 := fs_trans (l := s_X11_feed_mods) fs_refl (fs_mono (l := s_X10_add_mods) (by decide) (s_X10_add_fr hy))
    obtain ⟨y27, hy, h⟩ := fbd h
    have k27 := fs_trans (l := s_X11_feed_mods) k19 (fs_mono (l := s_X10_add_mods) (by decide) (s_X10_add_fr hy))
    obtain ⟨y35, hy, h⟩ := fbd h
    have k35 := fs_trans (l := s_X11_feed_mods) k27 (fs_mono (l := s_X10_add_mods) (by decide) (s_X10_add_fr hy))
    obtain ⟨y44, hy, h⟩ := fbd h
    have k44 := fs_trans (l := s_X11_feed_mods) k35 (fs_mono (l := s_X10_add_mods) (by decide) (s_X10_add_fr hy))
    obtain ⟨y53, hy, h⟩ := fbd h
    have k53 := fs_trans (l := s_X11_feed_mods) k44 (fs_mono (l := s_X10_add_mods) (by decide) (s_X10_add_fr hy))
    obtain rfl := Option.some.inj h
    exact k53
  · replace h := fng c h
    obtain rfl := Option.some.inj h
    exact fs_refl
abbrev s_X12_four_mods : List (Nat × Option Nat) := [(122, some 2), (123, none)]
noncomputable def s_X12_four_b3 (M : fM) (l1 l2 : Int) : Option ((Int × fM) ⊕ fM) :=
  if l2 < 0 then
    some (.inr M)
  else
    if (0 ≤ (M 122 2) ∧ (M 122 2) < 1240) ∧ fin ((M 122 2) + 1) then
      if fin (l2 + (-8)) then
        some (.inl ((l2 + (-8)), (fup (fup M 123 (M 122 2).toNat (fi2b (fi2b (fshr l1 l2)))) 122 2 ((M 122 2) + 1))))
      else none
    else none
theorem s_X12_four_b3_ok {d L : Nat} {M : fM} {l1 l2 : Int} {r : ((Int × fM) ⊕ fM)} {Q : fO → fH → Prop} (h : s_X12_four_b3 M l1 l2 = some r) (hC : ∀ (l2' : Int) (M' : fM), r = .inl (l2', M') → Wp (d + 0, 197, 3, 0, 0, [some (fA 122), some (fI l1), some (fI l2')], []) (156, fjl L, M') Q) (hE : ∀ (e : fM) (o0' o1' o2' : Option fV), r = .inr e → Wp (d + 0, 197, 36, 0, 0, [o0', o1', o2'], []) (156, fjl L, e) Q) : Wp (d + 0, 197, 3, 0, 0, [some (fA 122), some (fI l1), some (fI l2)], []) (156, fjl L, M) Q := by
  unfold s_X12_four_b3 at h
  refine Wp.run 1 (f' := (d + 0, 197, 4, 0, 0, [some (fA 122), some (fI l1), some (fI l2)], [fI l2])) (h' := (156, fjl L, M)) rfl trivial ?_
  refine Wp.br rfl (fun (c : l2 < 0) => ?_) (fun (c : ¬ (l2 < 0)) => ?_)
  · replace h := fps c h
    exact hE _ _ _ _ (Option.some.inj h).symm
  · replace h := fng c h
    obtain ⟨⟨g0, g1⟩, h⟩ := fgd h
    refine Wp.run 15 (P := [0 ≤ (M 122 2) ∧ (M 122 2) < 1240]) (f' := (d + 0, 197, 30, 0, 0, [some (fA 122), some (fI l1), some (fI l2)], [])) (h' := (156, fjl L, (fup (fup M 123 (M 122 2).toNat (fi2b (fi2b (fshr l1 l2)))) 122 2 (fw ((M 122 2) + 1))))) rfl ?_ ?_
    · exact g0
    rw [fw_id g1]
    obtain ⟨g0, h⟩ := fgd h
    refine Wp.run 2 (f' := (d + 0, 197, 3, 0, 0, [some (fA 122), some (fI l1), some (fI (fw (l2 + (-8))))], [])) (h' := (156, fjl L, (fup (fup M 123 (M 122 2).toNat (fi2b (fi2b (fshr l1 l2)))) 122 2 ((M 122 2) + 1)))) rfl trivial ?_
    rw [fw_id g0]
    exact hC _ _ (Option.some.inj h).symm
theorem s_X12_four_b3_fr {M : fM} {l1 l2 : Int} {r : ((Int × fM) ⊕ fM)} (h : s_X12_four_b3 M l1 l2 = some r) : fSame s_X12_four_mods M (Sum.elim (fun s => s.2) (fun e => e) r) := by
  unfold s_X12_four_b3 at h
  by_cases c : l2 < 0
  · replace h := fps c h
    obtain rfl := Option.some.inj h
    exact fs_refl
  · replace h := fng c h
    replace h := (fgd h).2
    replace h := (fgd h).2
    obtain rfl := Option.some.inj h
    exact fs_up (fs_up fs_refl (.inl (by decide))) (.inr (by decide))
noncomputable def s_X12_four_l3 (l1 : Int) (s : (Int × fM)) : Option fM := fLp (fun s => s_X12_four_b3 s.2 l1 s.1) s
theorem s_X12_four_l3_ok {d L : Nat} {M : fM} {l1 l2 : Int} {r : fM} {Q : fO → fH → Prop} (h : s_X12_four_l3 l1 (l2, M) = some r) (hE : ∀ (e : fM) (o0' o1' o2' : Option fV), r = e → Wp (d + 0, 197, 36, 0, 0, [o0', o1', o2'], []) (156, fjl L, e) Q) : Wp (d + 0, 197, 3, 0, 0, [some (fA 122), some (fI l1), some (fI l2)], []) (156, fjl L, M) Q := by
  refine fLp_wp (W := fun s => Wp (d + 0, 197, 3, 0, 0, [some (fA 122), some (fI l1), some (fI s.1)], []) (156, fjl L, s.2) Q) (e := r) ?_ h
  intro s r1 h hC hX
  refine s_X12_four_b3_ok (d := d) h (fun a0 a1 e1 => ?_) (fun e u0 u1 u2 e1 => hE e u0 u1 u2 (hX _ e1).symm)
  exact hC _ e1
theorem s_X12_four_l3_fr {M : fM} {l1 l2 : Int} {r : fM} (h : s_X12_four_l3 l1 (l2, M) = some r) : fSame s_X12_four_mods M ((fun e => e) r) := by
  refine fLp_inv (I := fun s => fSame s_X12_four_mods M s.2) (J := fun r => fSame s_X12_four_mods M ((fun e => e) r)) h fs_refl (fun s s1 hs hb => ?_) (fun s e hs hb => ?_)
  · exact fs_trans hs (s_X12_four_b3_fr hb)
  · exact fs_trans hs (s_X12_four_b3_fr hb)
noncomputable def s_X12_four (M : fM) (l1 : Int) : Option (Unit × fM) :=
  (s_X12_four_l3 l1 (24, M)).bind fun e3 =>
    some ((), e3)
theorem s_X12_four_ok {d L : Nat} {M : fM} {l1 : Int} {r : (Unit × fM)} {Q : fO → fH → Prop} (h : s_X12_four M l1 = some r) (H : Q (oV r.1) (156, fjl L, r.2)) : Wp (d + 0, 197, 0, 0, 0, [some (fA 122), some (fI l1), none], []) (156, fjl L, M) Q := by
  unfold s_X12_four at h
  refine Wp.run 2 (f' := (d + 0, 197, 3, 0, 0, [some (fA 122), some (fI l1), some (fI 24)], [])) (h' := (156, fjl L, M)) rfl trivial ?_
  obtain ⟨e3, hy, h⟩ := fbd h
  refine s_X12_four_l3_ok hy (fun x u0 u1 u2 ex => ?_)
  cases ex
  show Wp (d + 0, 197, 36, 0, 0, [u0, u1, u2], []) (156, fjl L, e3) Q
  obtain rfl := Option.some.inj h
  exact Wp.done rfl (by decide) H
theorem s_X12_four_fr {M : fM} {l1 : Int} {r : (Unit × fM)} (h : s_X12_four M l1 = some r) : fSame s_X12_four_mods M r.2 := by
  unfold s_X12_four at h
  obtain ⟨e3, hy, h⟩ := fbd h
  have k3 := fs_trans (l := s_X12_four_mods) fs_refl (s_X12_four_l3_fr hy)
  obtain rfl := Option.some.inj h
  exact k3
abbrev s_X12_feed_mods : List (Nat × Option Nat) := [(122, some 0), (122, some 2), (123, none)]
noncomputable def s_X12_feed (M : fM) (l1 l2 l3 l4 l5 : Int) : Option (Int × fM) :=
  if fin ((M 122 2) + 20) then
    if ((M 122 2) + 20) ≤ 1240 then
      (s_X12_four (fup M 122 0 0) l1).bind fun y22 =>
        (s_X12_four y22.2 l2).bind fun y27 =>
          (s_X12_four y27.2 l3).bind fun y32 =>
            (s_X12_four y32.2 l4).bind fun y38 =>
              (s_X12_four y38.2 l5).bind fun y44 =>
                some ((y44.2 122 2), y44.2)
    else
      some ((-1), (fup M 122 0 0))
  else none
theorem s_X12_feed_ok {d L : Nat} {M : fM} {l1 l2 l3 l4 l5 : Int} {r : (Int × fM)} {Q : fO → fH → Prop} (h : s_X12_feed M l1 l2 l3 l4 l5 = some r) (H : Q (oI r.1) (156, fjl L, r.2)) : Wp (d + 1, 196, 0, 0, 0, [some (fA 122), some (fI l1), some (fI l2), some (fI l3), some (fI l4), some (fI l5)], []) (156, fjl L, M) Q := by
  unfold s_X12_feed at h
  obtain ⟨g0, h⟩ := fgd h
  refine Wp.run 8 (f' := (d + 1, 196, 15, 0, 0, [some (fA 122), some (fI l1), some (fI l2), some (fI l3), some (fI l4), some (fI l5)], [fI 1240, fI (fw ((M 122 2) + 20))])) (h' := (156, fjl L, (fup M 122 0 0))) rfl trivial ?_
  rw [fw_id g0]
  refine Wp.br rfl (fun (c : ((M 122 2) + 20) ≤ 1240) => ?_) (fun (c : ¬ (((M 122 2) + 20) ≤ 1240)) => ?_)
  · replace h := fps c h
    refine Wp.run 2 (f' := (d + 1, 196, 22, 0, 0, [some (fA 122), _, some (fI l2), some (fI l3), some (fI l4), some (fI l5)], [fI l1, fA 122])) (h' := (156, fjl L, (fup M 122 0 0))) rfl trivial ?_
    obtain ⟨y22, hy, h⟩ := fbd h
    refine Wp.call rfl (by decide) (s_X12_four_ok (d := d + 0) hy ?_)
    show Wp (d + 1, 196, 25, 0, 0, [some (fA 122), _, some (fI l2), some (fI l3), some (fI l4), some (fI l5)], []) (156, fjl L, y22.2) Q
    refine Wp.run 2 (f' := (d + 1, 196, 27, 0, 0, [some (fA 122), _, _, some (fI l3), some (fI l4), some (fI l5)], [fI l2, fA 122])) (h' := (156, fjl L, y22.2)) rfl trivial ?_
    obtain ⟨y27, hy, h⟩ := fbd h
    refine Wp.call rfl (by decide) (s_X12_four_ok (d := d + 0) hy ?_)
    show Wp (d + 1, 196, 30, 0, 0, [some (fA 122), _, _, some (fI l3), some (fI l4), some (fI l5)], []) (156, fjl L, y27.2) Q
    refine Wp.run 2 (f' := (d + 1, 196, 32, 0, 0, [some (fA 122), _, _, _, some (fI l4), some (fI l5)], [fI l3, fA 122])) (h' := (156, fjl L, y27.2)) rfl trivial ?_
    obtain ⟨y32, hy, h⟩ := fbd h
    refine Wp.call rfl (by decide) (s_X12_four_ok (d := d + 0) hy ?_)
    show Wp (d + 1, 196, 35, 0, 0, [some (fA 122), _, _, _, some (fI l4), some (fI l5)], []) (156, fjl L, y32.2) Q
    refine Wp.run 2 (f' := (d + 1, 196, 38, 0, 0, [some (fA 122), _, _, _, _, some (fI l5)], [fI l4, fA 122])) (h' := (156, fjl L, y32.2)) rfl trivial ?_
    obtain ⟨y38, hy, h⟩ := fbd h
    refine Wp.call rfl (by decide) (s_X12_four_ok (d := d + 0) hy ?_)
    show Wp (d + 1, 196, 41, 0, 0, [some (fA 122), _, _, _, _, some (fI l5)], []) (156, fjl L, y38.2) Q
    refine Wp.run 2 (f' := (d + 1, 196, 44, 0, 0, [some (fA 122), _, _, _, _, _], [fI l5, fA 122])) (h' := (156, fjl L, y38.2)) rfl trivial ?_
    obtain ⟨y44, hy, h⟩ := fbd h
    refine Wp.call rfl (by decide) (s_X12_four_ok (d := d + 0) hy ?_)
    show Wp (d + 1, 196, 47, 0, 0, [some (fA 122), _, _, _, _, _], []) (156, fjl L, y44.2) Q
    refine Wp.run 2 (f' := (d + 1, 196, 51, 0, 0, [_, _, _, _, _, _], [fI (y44.2 122 2)])) (h' := (156, fjl L, y44.2)) rfl trivial ?_
    obtain rfl := Option.some.inj h
    exact Wp.done rfl (by decide) H
  · replace h := fng c h
    refine Wp.run 1 (f' := (d + 1, 196, 19, 0, 0, [_, _, _, _, _, _], [fI (-1)])) (h' := (156, fjl L, (fup M 122 0 0))) rfl trivial ?_
    obtain rfl := Option.some.inj h
    exact Wp.done rfl (by decide) H
theorem s_X12_feed_fr {M : fM} {l1 l2 l3 l4 l5 : Int} {r : (Int × fM)} (h : s_X12_feed M l1 l2 l3 l4 l5 = some r) : fSame s_X12_feed_mods M r.2 := by
  unfold s_X12_feed at h
  replace h := (fgd h).2
  by_cases c : ((M 122 2) + 20) ≤ 1240
  · replace h := fps c h
    obtain ⟨y22, hy, h⟩ := fbd h
    have k22 := fs_trans (l := s_X12_feed_mods) (fs_up fs_refl (.inr (by decide))) (fs_mono (l := s_X12_four_mods) (by decide) (s_X12_four_fr hy))
    obtain ⟨y27, hy, h⟩ := fbd h
    have k27 := fs_trans (l := s_X12_feed_mods) k22 (fs_mono (l := s_X12_four_mods) (by decide) (s_X12_four_fr hy))
    obtain ⟨y32, hy, h⟩ := fbd h
    have k32 := fs_trans (l := s_X12_feed_mods) k27 (fs_mono (l := s_X12_four_mods) (by decide) (s_X12_four_fr hy))
    obtain ⟨y38, hy, h⟩ := fbd h
    have k38 := fs_trans (l := s_X12_feed_mods) k32 (fs_mono (l := s_X12_four_mods) (by decide) (s_X12_four_fr hy))
    obtain ⟨y44, hy, h⟩ := fbd h
    have k44 := fs_trans (l := s_X12_feed_mods) k38 (fs_mono (l := s_X12_four_mods) (by decide) (s_X12_four_fr hy))
    obtain rfl := Option.some.inj h
    exact k44
  · replace h := fng c h
    obtain rfl := Option.some.inj h
    exact fs_up fs_refl (.inr (by decide))
abbrev s_X10_isCut_mods : List (Nat × Option Nat) := [(1, some 2)]
noncomputable def s_X10_isCut (M : fM) (l1 : Int) : Option (Int × fM) :=
  if l1 < 0 then
    some (0, M)
  else
    if l1 ≤ (M 1 2) then
      some (1, (fup M 1 2 l1))
    else
      some (0, M)
theorem s_X10_isCut_ok {d L : Nat} {M : fM} {l1 : Int} {r : (Int × fM)} {Q : fO → fH → Prop} (h : s_X10_isCut M l1 = some r) (H : Q (oI r.1) (156, fjl L, r.2)) : Wp (d + 0, 134, 0, 0, 0, [some (fA 1), some (fI l1)], []) (156, fjl L, M) Q := by
  unfold s_X10_isCut at h
  refine Wp.run 1 (f' := (d + 0, 134, 1, 0, 0, [some (fA 1), some (fI l1)], [fI l1])) (h' := (156, fjl L, M)) rfl trivial ?_
  refine Wp.br rfl (fun (c : l1 < 0) => ?_) (fun (c : ¬ (l1 < 0)) => ?_)
  · replace h := fps c h
    refine Wp.run 1 (f' := (d + 0, 134, 13, 0, 0, [_, _], [fI 0])) (h' := (156, fjl L, M)) rfl trivial ?_
    obtain rfl := Option.some.inj h
    exact Wp.done rfl (by decide) H
  · replace h := fng c h
    refine Wp.run 3 (f' := (d + 0, 134, 9, 0, 0, [some (fA 1), some (fI l1)], [fI (M 1 2), fI l1])) (h' := (156, fjl L, M)) rfl trivial ?_
    refine Wp.br rfl (fun (c : l1 ≤ (M 1 2)) => ?_) (fun (c : ¬ (l1 ≤ (M 1 2))) => ?_)
    · replace h := fps c h
      refine Wp.run 4 (f' := (d + 0, 134, 20, 0, 0, [_, _], [fI 1])) (h' := (156, fjl L, (fup M 1 2 l1))) rfl trivial ?_
      obtain rfl := Option.some.inj h
      exact Wp.done rfl (by decide) H
    · replace h := fng c h
      refine Wp.run 1 (f' := (d + 0, 134, 13, 0, 0, [_, _], [fI 0])) (h' := (156, fjl L, M)) rfl trivial ?_
      obtain rfl := Option.some.inj h
      exact Wp.done rfl (by decide) H
theorem s_X10_isCut_fr {M : fM} {l1 : Int} {r : (Int × fM)} (h : s_X10_isCut M l1 = some r) : fSame s_X10_isCut_mods M r.2 := by
  unfold s_X10_isCut at h
  by_cases c : l1 < 0
  · replace h := fps c h
    obtain rfl := Option.some.inj h
    exact fs_refl
  · replace h := fng c h
    by_cases c : l1 ≤ (M 1 2)
    · replace h := fps c h
      obtain rfl := Option.some.inj h
      exact fs_up fs_refl (.inr (by decide))
    · replace h := fng c h
      obtain rfl := Option.some.inj h
      exact fs_refl
abbrev s_X11_end_mods : List (Nat × Option Nat) := [(1, some 2)]
noncomputable def s_X11_end (M : fM) (l1 : Int) : Option (Int × fM) :=
  (s_X10_isCut M l1).bind fun y5 =>
    if b01 y5.1 then
      some (y5.1, y5.2)
    else none
theorem s_X11_end_ok {d L : Nat} {M : fM} {l1 : Int} {r : (Int × fM)} {Q : fO → fH → Prop} (h : s_X11_end M l1 = some r) (H : Q (oI r.1) (156, fjl L, r.2)) : Wp (d + 1, 152, 0, 0, 0, [some (fA 0), some (fI l1)], []) (156, fjl L, M) Q := by
  unfold s_X11_end at h
  refine Wp.run 3 (f' := (d + 1, 152, 5, 0, 0, [_, _], [fI l1, fA 1])) (h' := (156, fjl L, M)) rfl trivial ?_
  obtain ⟨y5, hy, h⟩ := fbd h
  refine Wp.call rfl (by decide) (s_X10_isCut_ok (d := d + 0) hy ?_)
  show Wp (d + 1, 152, 8, 0, 0, [_, _], [fI y5.1]) (156, fjl L, y5.2) Q
  obtain ⟨g0, h⟩ := fgd h
  obtain rfl := Option.some.inj h
  exact Wp.done rfl ⟨g0, by decide, by decide, by decide⟩ H
theorem s_X11_end_fr {M : fM} {l1 : Int} {r : (Int × fM)} (h : s_X11_end M l1 = some r) : fSame s_X11_end_mods M r.2 := by
  unfold s_X11_end at h
  obtain ⟨y5, hy, h⟩ := fbd h
  have k5 := fs_trans (l := s_X11_end_mods) fs_refl (fs_mono (l := s_X10_isCut_mods) (by decide) (s_X10_isCut_fr hy))
  replace h := (fgd h).2
  obtain rfl := Option.some.inj h
  exact k5
abbrev s_X12_end_mods : List (Nat × Option Nat) := [(122, some 0), (122, some 2)]
noncomputable def s_X12_end (M : fM) (l1 : Int) : Option (Int × fM) :=
  if l1 < 0 then
    some (0, (fup M 122 0 0))
  else
    if l1 ≤ (M 122 2) then
      some (1, (fup (fup M 122 0 0) 122 2 l1))
    else
      some (0, (fup M 122 0 0))
theorem s_X12_end_ok {d L : Nat} {M : fM} {l1 : Int} {r : (Int × fM)} {Q : fO → fH → Prop} (h : s_X12_end M l1 = some r) (H : Q (oI r.1) (156, fjl L, r.2)) : Wp (d + 0, 198, 0, 0, 0, [some (fA 122), some (fI l1)], []) (156, fjl L, M) Q := by
  unfold s_X12_end at h
  refine Wp.run 4 (f' := (d + 0, 198, 6, 0, 0, [some (fA 122), some (fI l1)], [fI l1])) (h' := (156, fjl L, (fup M 122 0 0))) rfl trivial ?_
  refine Wp.br rfl (fun (c : l1 < 0) => ?_) (fun (c : ¬ (l1 < 0)) => ?_)
  · replace h := fps c h
    refine Wp.run 1 (f' := (d + 0, 198, 18, 0, 0, [_, _], [fI 0])) (h' := (156, fjl L, (fup M 122 0 0))) rfl trivial ?_
    obtain rfl := Option.some.inj h
    exact Wp.done rfl (by decide) H
  · replace h := fng c h
    refine Wp.run 3 (f' := (d + 0, 198, 14, 0, 0, [some (fA 122), some (fI l1)], [fI (M 122 2), fI l1])) (h' := (156, fjl L, (fup M 122 0 0))) rfl trivial ?_
    refine Wp.br rfl (fun (c : l1 ≤ (M 122 2)) => ?_) (fun (c : ¬ (l1 ≤ (M 122 2))) => ?_)
    · replace h := fps c h
      refine Wp.run 4 (f' := (d + 0, 198, 25, 0, 0, [_, _], [fI 1])) (h' := (156, fjl L, (fup (fup M 122 0 0) 122 2 l1))) rfl trivial ?_
      obtain rfl := Option.some.inj h
      exact Wp.done rfl (by decide) H
    · replace h := fng c h
      refine Wp.run 1 (f' := (d + 0, 198, 18, 0, 0, [_, _], [fI 0])) (h' := (156, fjl L, (fup M 122 0 0))) rfl trivial ?_
      obtain rfl := Option.some.inj h
      exact Wp.done rfl (by decide) H
theorem s_X12_end_fr {M : fM} {l1 : Int} {r : (Int × fM)} (h : s_X12_end M l1 = some r) : fSame s_X12_end_mods M r.2 := by
  unfold s_X12_end at h
  by_cases c : l1 < 0
  · replace h := fps c h
    obtain rfl := Option.some.inj h
    exact fs_up fs_refl (.inr (by decide))
  · replace h := fng c h
    by_cases c : l1 ≤ (M 122 2)
    · replace h := fps c h
      obtain rfl := Option.some.inj h
      exact fs_up (fs_up fs_refl (.inr (by decide))) (.inr (by decide))
    · replace h := fng c h
      obtain rfl := Option.some.inj h
      exact fs_up fs_refl (.inr (by decide))
abbrev s_J7_fill_29_mods : List (Nat × Option Nat) := [(29, none)]
noncomputable def s_J7_fill_29_b5 (M : fM) (l1 l2 l3 : Int) : Option ((Int × fM) ⊕ fM) :=
  if l3 ≤ l2 then
    some (.inr M)
  else
    if (0 ≤ l2 ∧ l2 < 12) ∧ fin (l2 + 1) then
      some (.inl ((l2 + 1), (fup M 29 (l2).toNat l1)))
    else none
theorem s_J7_fill_29_b5_ok {d L : Nat} {M : fM} {l1 l2 l3 : Int} {r : ((Int × fM) ⊕ fM)} {Q : fO → fH → Prop} (h : s_J7_fill_29_b5 M l1 l2 l3 = some r) (hC : ∀ (l2' : Int) (M' : fM), r = .inl (l2', M') → Wp (d + 0, 315, 5, 0, 0, [some (fA 29), some (fI l1), some (fI l2'), some (fI l3)], []) (156, fjl L, M') Q) (hE : ∀ (e : fM) (o0' o1' o2' o3' : Option fV), r = .inr e → Wp (d + 0, 315, 20, 0, 0, [o0', o1', o2', o3'], []) (156, fjl L, e) Q) : Wp (d + 0, 315, 5, 0, 0, [some (fA 29), some (fI l1), some (fI l2), some (fI l3)], []) (156, fjl L, M) Q := by
  unfold s_J7_fill_29_b5 at h
  refine Wp.run 2 (f' := (d + 0, 315, 7, 0, 0, [some (fA 29), some (fI l1), some (fI l2), some (fI l3)], [fI l3, fI l2])) (h' := (156, fjl L, M)) rfl trivial ?_
  refine Wp.br rfl (fun (c : l3 ≤ l2) => ?_) (fun (c : ¬ (l3 ≤ l2)) => ?_)
  · replace h := fps c h
    exact hE _ _ _ _ _ (Option.some.inj h).symm
  · replace h := fng c h
    obtain ⟨⟨g0, g1⟩, h⟩ := fgd h
    refine Wp.run 6 (P := [0 ≤ l2 ∧ l2 < 12]) (f' := (d + 0, 315, 5, 0, 0, [some (fA 29), some (fI l1), some (fI (fw (l2 + 1))), some (fI l3)], [])) (h' := (156, fjl L, (fup M 29 (l2).toNat l1))) rfl ?_ ?_
    · exact g0
    rw [fw_id g1]
    exact hC _ _ (Option.some.inj h).symm
theorem s_J7_fill_29_b5_fr {M : fM} {l1 l2 l3 : Int} {r : ((Int × fM) ⊕ fM)} (h : s_J7_fill_29_b5 M l1 l2 l3 = some r) : fSame s_J7_fill_29_mods M (Sum.elim (fun s => s.2) (fun e => e) r) := by
  unfold s_J7_fill_29_b5 at h
  by_cases c : l3 ≤ l2
  · replace h := fps c h
    obtain rfl := Option.some.inj h
    exact fs_refl
  · replace h := fng c h
    replace h := (fgd h).2
    obtain rfl := Option.some.inj h
    exact fs_up fs_refl (.inl (by decide))
noncomputable def s_J7_fill_29_l5 (l1 l3 : Int) (s : (Int × fM)) : Option fM := fLp (fun s => s_J7_fill_29_b5 s.2 l1 s.1 l3) s
theorem s_J7_fill_29_l5_ok {d L : Nat} {M : fM} {l1 l2 l3 : Int} {r : fM} {Q : fO → fH → Prop} (h : s_J7_fill_29_l5 l1 l3 (l2, M) = some r) (hE : ∀ (e : fM) (o0' o1' o2' o3' : Option fV), r = e → Wp (d + 0, 315, 20, 0, 0, [o0', o1', o2', o3'], []) (156, fjl L, e) Q) : Wp (d + 0, 315, 5, 0, 0, [some (fA 29), some (fI l1), some (fI l2), some (fI l3)], []) (156, fjl L, M) Q := by
  refine fLp_wp (W := fun s => Wp (d + 0, 315, 5, 0, 0, [some (fA 29), some (fI l1), some (fI s.1), some (fI l3)], []) (156, fjl L, s.2) Q) (e := r) ?_ h
  intro s r1 h hC hX
  refine s_J7_fill_29_b5_ok (d := d) h (fun a0 a1 e1 => ?_) (fun e u0 u1 u2 u3 e1 => hE e u0 u1 u2 u3 (hX _ e1).symm)
  exact hC _ e1
theorem s_J7_fill_29_l5_fr {M : fM} {l1 l2 l3 : Int} {r : fM} (h : s_J7_fill_29_l5 l1 l3 (l2, M) = some r) : fSame s_J7_fill_29_mods M ((fun e => e) r) := by
  refine fLp_inv (I := fun s => fSame s_J7_fill_29_mods M s.2) (J := fun r => fSame s_J7_fill_29_mods M ((fun e => e) r)) h fs_refl (fun s s1 hs hb => ?_) (fun s e hs hb => ?_)
  · exact fs_trans hs (s_J7_fill_29_b5_fr hb)
  · exact fs_trans hs (s_J7_fill_29_b5_fr hb)
noncomputable def s_J7_fill_29 (M : fM) (l1 : Int) : Option (Unit × fM) :=
  (s_J7_fill_29_l5 l1 12 (0, M)).bind fun e5 =>
    some ((), e5)
theorem s_J7_fill_29_ok {d L : Nat} {M : fM} {l1 : Int} {r : (Unit × fM)} {Q : fO → fH → Prop} (h : s_J7_fill_29 M l1 = some r) (H : Q (oV r.1) (156, fjl L, r.2)) : Wp (d + 0, 315, 0, 0, 0, [some (fA 29), some (fI l1), none, none], []) (156, fjl L, M) Q := by
  unfold s_J7_fill_29 at h
  refine Wp.run 5 (f' := (d + 0, 315, 5, 0, 0, [some (fA 29), some (fI l1), some (fI 0), some (fI 12)], [])) (h' := (156, fjl L, M)) rfl trivial ?_
  obtain ⟨e5, hy, h⟩ := fbd h
  refine s_J7_fill_29_l5_ok hy (fun x u0 u1 u2 u3 ex => ?_)
  cases ex
  show Wp (d + 0, 315, 20, 0, 0, [u0, u1, u2, u3], []) (156, fjl L, e5) Q
  obtain rfl := Option.some.inj h
  exact Wp.done rfl (by decide) H
theorem s_J7_fill_29_fr {M : fM} {l1 : Int} {r : (Unit × fM)} (h : s_J7_fill_29 M l1 = some r) : fSame s_J7_fill_29_mods M r.2 := by
  unfold s_J7_fill_29 at h
  obtain ⟨e5, hy, h⟩ := fbd h
  have k5 := fs_trans (l := s_J7_fill_29_mods) fs_refl (s_J7_fill_29_l5_fr hy)
  obtain rfl := Option.some.inj h
  exact k5
abbrev s_J7_fill_30_mods : List (Nat × Option Nat) := [(30, none)]
noncomputable def s_J7_fill_30_b5 (M : fM) (l1 l2 l3 : Int) : Option ((Int × fM) ⊕ fM) :=
  if l3 ≤ l2 then
    some (.inr M)
  else
    if (0 ≤ l2 ∧ l2 < 52) ∧ fin (l2 + 1) then
      some (.inl ((l2 + 1), (fup M 30 (l2).toNat l1)))
    else none
theorem s_J7_fill_30_b5_ok {d L : Nat} {M : fM} {l1 l2 l3 : Int} {r : ((Int × fM) ⊕ fM)} {Q : fO → fH → Prop} (h : s_J7_fill_30_b5 M l1 l2 l3 = some r) (hC : ∀ (l2' : Int) (M' : fM), r = .inl (l2', M') → Wp (d + 0, 315, 5, 0, 0, [some (fA 30), some (fI l1), some (fI l2'), some (fI l3)], []) (156, fjl L, M') Q) (hE : ∀ (e : fM) (o0' o1' o2' o3' : Option fV), r = .inr e → Wp (d + 0, 315, 20, 0, 0, [o0', o1', o2', o3'], []) (156, fjl L, e) Q) : Wp (d + 0, 315, 5, 0, 0, [some (fA 30), some (fI l1), some (fI l2), some (fI l3)], []) (156, fjl L, M) Q := by
  unfold s_J7_fill_30_b5 at h
  refine Wp.run 2 (f' := (d + 0, 315, 7, 0, 0, [some (fA 30), some (fI l1), some (fI l2), some (fI l3)], [fI l3, fI l2])) (h' := (156, fjl L, M)) rfl trivial ?_
  refine Wp.br rfl (fun (c : l3 ≤ l2) => ?_) (fun (c : ¬ (l3 ≤ l2)) => ?_)
  · replace h := fps c h
    exact hE _ _ _ _ _ (Option.some.inj h).symm
  · replace h := fng c h
    obtain ⟨⟨g0, g1⟩, h⟩ := fgd h
    refine Wp.run 6 (P := [0 ≤ l2 ∧ l2 < 52]) (f' := (d + 0, 315, 5, 0, 0, [some (fA 30), some (fI l1), some (fI (fw (l2 + 1))), some (fI l3)], [])) (h' := (156, fjl L, (fup M 30 (l2).toNat l1))) rfl ?_ ?_
    · exact g0
    rw [fw_id g1]
    exact hC _ _ (Option.some.inj h).symm
theorem s_J7_fill_30_b5_fr {M : fM} {l1 l2 l3 : Int} {r : ((Int × fM) ⊕ fM)} (h : s_J7_fill_30_b5 M l1 l2 l3 = some r) : fSame s_J7_fill_30_mods M (Sum.elim (fun s => s.2) (fun e => e) r) := by
  unfold s_J7_fill_30_b5 at h
  by_cases c : l3 ≤ l2
  · replace h := fps c h
    obtain rfl := Option.some.inj h
    exact fs_refl
  · replace h := fng c h
    replace h := (fgd h).2
    obtain rfl := Option.some.inj h
    exact fs_up fs_refl (.inl (by decide))
noncomputable def s_J7_fill_30_l5 (l1 l3 : Int) (s : (Int × fM)) : Option fM := fLp (fun s => s_J7_fill_30_b5 s.2 l1 s.1 l3) s
theorem s_J7_fill_30_l5_ok {d L : Nat} {M : fM} {l1 l2 l3 : Int} {r : fM} {Q : fO → fH → Prop} (h : s_J7_fill_30_l5 l1 l3 (l2, M) = some r) (hE : ∀ (e : fM) (o0' o1' o2' o3' : Option fV), r = e → Wp (d + 0, 315, 20, 0, 0, [o0', o1', o2', o3'], []) (156, fjl L, e) Q) : Wp (d + 0, 315, 5, 0, 0, [some (fA 30), some (fI l1), some (fI l2), some (fI l3)], []) (156, fjl L, M) Q := by
  refine fLp_wp (W := fun s => Wp (d + 0, 315, 5, 0, 0, [some (fA 30), some (fI l1), some (fI s.1), some (fI l3)], []) (156, fjl L, s.2) Q) (e := r) ?_ h
  intro s r1 h hC hX
  refine s_J7_fill_30_b5_ok (d := d) h (fun a0 a1 e1 => ?_) (fun e u0 u1 u2 u3 e1 => hE e u0 u1 u2 u3 (hX _ e1).symm)
  exact hC _ e1
theorem s_J7_fill_30_l5_fr {M : fM} {l1 l2 l3 : Int} {r : fM} (h : s_J7_fill_30_l5 l1 l3 (l2, M) = some r) : fSame s_J7_fill_30_mods M ((fun e => e) r) := by
  refine fLp_inv (I := fun s => fSame s_J7_fill_30_mods M s.2) (J := fun r => fSame s_J7_fill_30_mods M ((fun e => e) r)) h fs_refl (fun s s1 hs hb => ?_) (fun s e hs hb => ?_)
  · exact fs_trans hs (s_J7_fill_30_b5_fr hb)
  · exact fs_trans hs (s_J7_fill_30_b5_fr hb)
noncomputable def s_J7_fill_30 (M : fM) (l1 : Int) : Option (Unit × fM) :=
  (s_J7_fill_30_l5 l1 52 (0, M)).bind fun e5 =>
    some ((), e5)
theorem s_J7_fill_30_ok {d L : Nat} {M : fM} {l1 : Int} {r : (Unit × fM)} {Q : fO → fH → Prop} (h : s_J7_fill_30 M l1 = some r) (H : Q (oV r.1) (156, fjl L, r.2)) : Wp (d + 0, 315, 0, 0, 0, [some (fA 30), some (fI l1), none, none], []) (156, fjl L, M) Q := by
  unfold s_J7_fill_30 at h
  refine Wp.run 5 (f' := (d + 0, 315, 5, 0, 0, [some (fA 30), some (fI l1), some (fI 0), some (fI 52)], [])) (h' := (156, fjl L, M)) rfl trivial ?_
  obtain ⟨e5, hy, h⟩ := fbd h
  refine s_J7_fill_30_l5_ok hy (fun x u0 u1 u2 u3 ex => ?_)
  cases ex
  show Wp (d + 0, 315, 20, 0, 0, [u0, u1, u2, u3], []) (156, fjl L, e5) Q
  obtain rfl := Option.some.inj h
  exact Wp.done rfl (by decide) H
theorem s_J7_fill_30_fr {M : fM} {l1 : Int} {r : (Unit × fM)} (h : s_J7_fill_30 M l1 = some r) : fSame s_J7_fill_30_mods M r.2 := by
  unfold s_J7_fill_30 at h
  obtain ⟨e5, hy, h⟩ := fbd h
  have k5 := fs_trans (l := s_J7_fill_30_mods) fs_refl (s_J7_fill_30_l5_fr hy)
  obtain rfl := Option.some.inj h
  exact k5
abbrev s_J7_fill_31_mods : List (Nat × Option Nat) := [(31, none)]
noncomputable def s_J7_fill_31_b5 (M : fM) (l1 l2 l3 : Int) : Option ((Int × fM) ⊕ fM) :=
  if l3 ≤ l2 then
    some (.inr M)
  else
    if (0 ≤ l2 ∧ l2 < 52) ∧ fin (l2 + 1) then
      some (.inl ((l2 + 1), (fup M 31 (l2).toNat l1)))
    else none
theorem s_J7_fill_31_b5_ok {d L : Nat} {M : fM} {l1 l2 l3 : Int} {r : ((Int × fM) ⊕ fM)} {Q : fO → fH → Prop} (h : s_J7_fill_31_b5 M l1 l2 l3 = some r) (hC : ∀ (l2' : Int) (M' : fM), r = .inl (l2', M') → Wp (d + 0, 315, 5, 0, 0, [some (fA 31), some (fI l1), some (fI l2'), some (fI l3)], []) (156, fjl L, M') Q) (hE : ∀ (e : fM) (o0' o1' o2' o3' : Option fV), r = .inr e → Wp (d + 0, 315, 20, 0, 0, [o0', o1', o2', o3'], []) (156, fjl L, e) Q) : Wp (d + 0, 315, 5, 0, 0, [some (fA 31), some (fI l1), some (fI l2), some (fI l3)], []) (156, fjl L, M) Q := by
  unfold s_J7_fill_31_b5 at h
  refine Wp.run 2 (f' := (d + 0, 315, 7, 0, 0, [some (fA 31), some (fI l1), some (fI l2), some (fI l3)], [fI l3, fI l2])) (h' := (156, fjl L, M)) rfl trivial ?_
  refine Wp.br rfl (fun (c : l3 ≤ l2) => ?_) (fun (c : ¬ (l3 ≤ l2)) => ?_)
  · replace h := fps c h
    exact hE _ _ _ _ _ (Option.some.inj h).symm
  · replace h := fng c h
    obtain ⟨⟨g0, g1⟩, h⟩ := fgd h
    refine Wp.run 6 (P := [0 ≤ l2 ∧ l2 < 52]) (f' := (d + 0, 315, 5, 0, 0, [some (fA 31), some (fI l1), some (fI (fw (l2 + 1))), some (fI l3)], [])) (h' := (156, fjl L, (fup M 31 (l2).toNat l1))) rfl ?_ ?_
    · exact g0
    rw [fw_id g1]
    exact hC _ _ (Option.some.inj h).symm
theorem s_J7_fill_31_b5_fr {M : fM} {l1 l2 l3 : Int} {r : ((Int × fM) ⊕ fM)} (h : s_J7_fill_31_b5 M l1 l2 l3 = some r) : fSame s_J7_fill_31_mods M (Sum.elim (fun s => s.2) (fun e => e) r) := by
  unfold s_J7_fill_31_b5 at h
  by_cases c : l3 ≤ l2
  · replace h := fps c h
    obtain rfl := Option.some.inj h
    exact fs_refl
  · replace h := fng c h
    replace h := (fgd h).2
    obtain rfl := Option.some.inj h
    exact fs_up fs_refl (.inl (by decide))
noncomputable def s_J7_fill_31_l5 (l1 l3 : Int) (s : (Int × fM)) : Option fM := fLp (fun s => s_J7_fill_31_b5 s.2 l1 s.1 l3) s
theorem s_J7_fill_31_l5_ok {d L : Nat} {M : fM} {l1 l2 l3 : Int} {r : fM} {Q : fO → fH → Prop} (h : s_J7_fill_31_l5 l1 l3 (l2, M) = some r) (hE : ∀ (e : fM) (o0' o1' o2' o3' : Option fV), r = e → Wp (d + 0, 315, 20, 0, 0, [o0', o1', o2', o3'], []) (156, fjl L, e) Q) : Wp (d + 0, 315, 5, 0, 0, [some (fA 31), some (fI l1), some (fI l2), some (fI l3)], []) (156, fjl L, M) Q := by
  refine fLp_wp (W := fun s => Wp (d + 0, 315, 5, 0, 0, [some (fA 31), some (fI l1), some (fI s.1), some (fI l3)], []) (156, fjl L, s.2) Q) (e := r) ?_ h
  intro s r1 h hC hX
  refine s_J7_fill_31_b5_ok (d := d) h (fun a0 a1 e1 => ?_) (fun e u0 u1 u2 u3 e1 => hE e u0 u1 u2 u3 (hX _ e1).symm)
  exact hC _ e1
theorem s_J7_fill_31_l5_fr {M : fM} {l1 l2 l3 : Int} {r : fM} (h : s_J7_fill_31_l5 l1 l3 (l2, M) = some r) : fSame s_J7_fill_31_mods M ((fun e => e) r) := by
  refine fLp_inv (I := fun s => fSame s_J7_fill_31_mods M s.2) (J := fun r => fSame s_J7_fill_31_mods M ((fun e => e) r)) h fs_refl (fun s s1 hs hb => ?_) (fun s e hs hb => ?_)
  · exact fs_trans hs (s_J7_fill_31_b5_fr hb)
  · exact fs_trans hs (s_J7_fill_31_b5_fr hb)
noncomputable def s_J7_fill_31 (M : fM) (l1 : Int) : Option (Unit × fM) :=
  (s_J7_fill_31_l5 l1 52 (0, M)).bind fun e5 =>
    some ((), e5)
theorem s_J7_fill_31_ok {d L : Nat} {M : fM} {l1 : Int} {r : (Unit × fM)} {Q : fO → fH → Prop} (h : s_J7_fill_31 M l1 = some r) (H : Q (oV r.1) (156, fjl L, r.2)) : Wp (d + 0, 315, 0, 0, 0, [some (fA 31), some (fI l1), none, none], []) (156, fjl L, M) Q := by
  unfold s_J7_fill_31 at h
  refine Wp.run 5 (f' := (d + 0, 315, 5, 0, 0, [some (fA 31), some (fI l1), some (fI 0), some (fI 52)], [])) (h' := (156, fjl L, M)) rfl trivial ?_
  obtain ⟨e5, hy, h⟩ := fbd h
  refine s_J7_fill_31_l5_ok hy (fun x u0 u1 u2 u3 ex => ?_)
  cases ex
  show Wp (d + 0, 315, 20, 0, 0, [u0, u1, u2, u3], []) (156, fjl L, e5) Q
  obtain rfl := Option.some.inj h
  exact Wp.done rfl (by decide) H
theorem s_J7_fill_31_fr {M : fM} {l1 : Int} {r : (Unit × fM)} (h : s_J7_fill_31 M l1 = some r) : fSame s_J7_fill_31_mods M r.2 := by
  unfold s_J7_fill_31 at h
  obtain ⟨e5, hy, h⟩ := fbd h
  have k5 := fs_trans (l := s_J7_fill_31_mods) fs_refl (s_J7_fill_31_l5_fr hy)
  obtain rfl := Option.some.inj h
  exact k5
abbrev s_J7_fill_38_mods : List (Nat × Option Nat) := [(38, none)]
noncomputable def s_J7_fill_38_b5 (M : fM) (l1 l2 l3 : Int) : Option ((Int × fM) ⊕ fM) :=
  if l3 ≤ l2 then
    some (.inr M)
  else
    if (0 ≤ l2 ∧ l2 < 36) ∧ fin (l2 + 1) then
      some (.inl ((l2 + 1), (fup M 38 (l2).toNat l1)))
    else none
theorem s_J7_fill_38_b5_ok {d L : Nat} {M : fM} {l1 l2 l3 : Int} {r : ((Int × fM) ⊕ fM)} {Q : fO → fH → Prop} (h : s_J7_fill_38_b5 M l1 l2 l3 = some r) (hC : ∀ (l2' : Int) (M' : fM), r = .inl (l2', M') → Wp (d + 0, 315, 5, 0, 0, [some (fA 38), some (fI l1), some (fI l2'), some (fI l3)], []) (156, fjl L, M') Q) (hE : ∀ (e : fM) (o0' o1' o2' o3' : Option fV), r = .inr e → Wp (d + 0, 315, 20, 0, 0, [o0', o1', o2', o3'], []) (156, fjl L, e) Q) : Wp (d + 0, 315, 5, 0, 0, [some (fA 38), some (fI l1), some (fI l2), some (fI l3)], []) (156, fjl L, M) Q := by
  unfold s_J7_fill_38_b5 at h
  refine Wp.run 2 (f' := (d + 0, 315, 7, 0, 0, [some (fA 38), some (fI l1), some (fI l2), some (fI l3)], [fI l3, fI l2])) (h' := (156, fjl L, M)) rfl trivial ?_
  refine Wp.br rfl (fun (c : l3 ≤ l2) => ?_) (fun (c : ¬ (l3 ≤ l2)) => ?_)
  · replace h := fps c h
    exact hE _ _ _ _ _ (Option.some.inj h).symm
  · replace h := fng c h
    obtain ⟨⟨g0, g1⟩, h⟩ := fgd h
    refine Wp.run 6 (P := [0 ≤ l2 ∧ l2 < 36]) (f' := (d + 0, 315, 5, 0, 0, [some (fA 38), some (fI l1), some (fI (fw (l2 + 1))), some (fI l3)], [])) (h' := (156, fjl L, (fup M 38 (l2).toNat l1))) rfl ?_ ?_
    · exact g0
    rw [fw_id g1]
    exact hC _ _ (Option.some.inj h).symm
theorem s_J7_fill_38_b5_fr {M : fM} {l1 l2 l3 : Int} {r : ((Int × fM) ⊕ fM)} (h : s_J7_fill_38_b5 M l1 l2 l3 = some r) : fSame s_J7_fill_38_mods M (Sum.elim (fun s => s.2) (fun e => e) r) := by
  unfold s_J7_fill_38_b5 at h
  by_cases c : l3 ≤ l2
  · replace h := fps c h
    obtain rfl := Option.some.inj h
    exact fs_refl
  · replace h := fng c h
    replace h := (fgd h).2
    obtain rfl := Option.some.inj h
    exact fs_up fs_refl (.inl (by decide))
noncomputable def s_J7_fill_38_l5 (l1 l3 : Int) (s : (Int × fM)) : Option fM := fLp (fun s => s_J7_fill_38_b5 s.2 l1 s.1 l3) s
theorem s_J7_fill_38_l5_ok {d L : Nat} {M : fM} {l1 l2 l3 : Int} {r : fM} {Q : fO → fH → Prop} (h : s_J7_fill_38_l5 l1 l3 (l2, M) = some r) (hE : ∀ (e : fM) (o0' o1' o2' o3' : Option fV), r = e → Wp (d + 0, 315, 20, 0, 0, [o0', o1', o2', o3'], []) (156, fjl L, e) Q) : Wp (d + 0, 315, 5, 0, 0, [some (fA 38), some (fI l1), some (fI l2), some (fI l3)], []) (156, fjl L, M) Q := by
  refine fLp_wp (W := fun s => Wp (d + 0, 315, 5, 0, 0, [some (fA 38), some (fI l1), some (fI s.1), some (fI l3)], []) (156, fjl L, s.2) Q) (e := r) ?_ h
  intro s r1 h hC hX
  refine s_J7_fill_38_b5_ok (d := d) h (fun a0 a1 e1 => ?_) (fun e u0 u1 u2 u3 e1 => hE e u0 u1 u2 u3 (hX _ e1).symm)
  exact hC _ e1
theorem s_J7_fill_38_l5_fr {M : fM} {l1 l2 l3 : Int} {r : fM} (h : s_J7_fill_38_l5 l1 l3 (l2, M) = some r) : fSame s_J7_fill_38_mods M ((fun e => e) r) := by
  refine fLp_inv (I := fun s => fSame s_J7_fill_38_mods M s.2) (J := fun r => fSame s_J7_fill_38_mods M ((fun e => e) r)) h fs_refl (fun s s1 hs hb => ?_) (fun s e hs hb => ?_)
  · exact fs_trans hs (s_J7_fill_38_b5_fr hb)
  · exact fs_trans hs (s_J7_fill_38_b5_fr hb)
noncomputable def s_J7_fill_38 (M : fM) (l1 : Int) : Option (Unit × fM) :=
  (s_J7_fill_38_l5 l1 36 (0, M)).bind fun e5 =>
    some ((), e5)
theorem s_J7_fill_38_ok {d L : Nat} {M : fM} {l1 : Int} {r : (Unit × fM)} {Q : fO → fH → Prop} (h : s_J7_fill_38 M l1 = some r) (H : Q (oV r.1) (156, fjl L, r.2)) : Wp (d + 0, 315, 0, 0, 0, [some (fA 38), some (fI l1), none, none], []) (156, fjl L, M) Q := by
  unfold s_J7_fill_38 at h
  refine Wp.run 5 (f' := (d + 0, 315, 5, 0, 0, [some (fA 38), some (fI l1), some (fI 0), some (fI 36)], [])) (h' := (156, fjl L, M)) rfl trivial ?_
  obtain ⟨e5, hy, h⟩ := fbd h
  refine s_J7_fill_38_l5_ok hy (fun x u0 u1 u2 u3 ex => ?_)
  cases ex
  show Wp (d + 0, 315, 20, 0, 0, [u0, u1, u2, u3], []) (156, fjl L, e5) Q
  obtain rfl := Option.some.inj h
  exact Wp.done rfl (by decide) H
theorem s_J7_fill_38_fr {M : fM} {l1 : Int} {r : (Unit × fM)} (h : s_J7_fill_38 M l1 = some r) : fSame s_J7_fill_38_mods M r.2 := by
  unfold s_J7_fill_38 at h
  obtain ⟨e5, hy, h⟩ := fbd h
  have k5 := fs_trans (l := s_J7_fill_38_mods) fs_refl (s_J7_fill_38_l5_fr hy)
  obtain rfl := Option.some.inj h
  exact k5
abbrev s_X2_clear_28_mods : List (Nat × Option Nat) := [(28, some 13), (28, some 14), (28, some 15), (28, some 16), (28, some 17), (29, none), (30, none), (31, none), (32, none), (38, none)]
noncomputable def s_X2_clear_28 (M : fM) : Option (Unit × fM) :=
  (s_J7_fill_29 M 0).bind fun y5 =>
    (s_J7_fill_30 y5.2 20).bind fun y14 =>
      (s_J7_fill_31 y14.2 0).bind fun y22 =>
        (s_J7_fill_38 y22.2 0).bind fun y30 =>
          some ((), (fup (fup (fup (fup (fup (fcpy y30.2 1001 0 32 0 6) 28 13 0) 28 14 0) 28 15 0) 28 16 0) 28 17 0))
theorem s_X2_clear_28_ok {d L : Nat} {M : fM} {r : (Unit × fM)} {Q : fO → fH → Prop} (h : s_X2_clear_28 M = some r) (H : Q (oV r.1) (156, fjl L, r.2)) : Wp (d + 1, 25, 0, 0, 0, [some (fA 28)], []) (156, fjl L, M) Q := by
  unfold s_X2_clear_28 at h
  refine Wp.run 3 (f' := (d + 1, 25, 5, 0, 0, [some (fA 28)], [fI 0, fA 29])) (h' := (156, fjl L, M)) rfl trivial ?_
  obtain ⟨y5, hy, h⟩ := fbd h
  refine Wp.call rfl (by decide) (s_J7_fill_29_ok (d := d + 0) hy ?_)
  show Wp (d + 1, 25, 8, 0, 0, [some (fA 28)], []) (156, fjl L, y5.2) Q
  refine Wp.run 3 (f' := (d + 1, 25, 14, 0, 0, [some (fA 28)], [fI 20, fA 30])) (h' := (156, fjl L, y5.2)) rfl trivial ?_
  obtain ⟨y14, hy, h⟩ := fbd h
  refine Wp.call rfl (by decide) (s_J7_fill_30_ok (d := d + 0) hy ?_)
  show Wp (d + 1, 25, 17, 0, 0, [some (fA 28)], []) (156, fjl L, y14.2) Q
  refine Wp.run 3 (f' := (d + 1, 25, 22, 0, 0, [some (fA 28)], [fI 0, fA 31])) (h' := (156, fjl L, y14.2)) rfl trivial ?_
  obtain ⟨y22, hy, h⟩ := fbd h
  refine Wp.call rfl (by decide) (s_J7_fill_31_ok (d := d + 0) hy ?_)
  show Wp (d + 1, 25, 25, 0, 0, [some (fA 28)], []) (156, fjl L, y22.2) Q
  refine Wp.run 3 (f' := (d + 1, 25, 30, 0, 0, [some (fA 28)], [fI 0, fA 38])) (h' := (156, fjl L, y22.2)) rfl trivial ?_
  obtain ⟨y30, hy, h⟩ := fbd h
  refine Wp.call rfl (by decide) (s_J7_fill_38_ok (d := d + 0) hy ?_)
  show Wp (d + 1, 25, 33, 0, 0, [some (fA 28)], []) (156, fjl L, y30.2) Q
  refine Wp.run 13 (P := [1 ≤ d + 1, (0 : Int) ≤ 0 ∧ (0 : Int) ≤ 0 ∧ (0 : Int) ≤ 6 ∧ (0 : Int) + 6 ≤ 6 ∧ (0 : Int) + 6 ≤ 6 ∧ 1001 ≠ 32]) (f' := (d + 1, 25, 57, 0, 0, [some (fA 28)], [])) (h' := (156, fjl L, (fup (fup (fcpy y30.2 1001 0 32 0 6) 28 13 0) 28 14 0))) rfl ?_ ?_
  · exact ⟨Nat.le_add_left_of_le (by decide), ⟨by decide, by decide, by decide, by decide, by decide, by decide⟩⟩
  refine Wp.run 9 (f' := (d + 1, 25, 72, 0, 0, [_], [])) (h' := (156, fjl L, (fup (fup (fup (fup (fup (fcpy y30.2 1001 0 32 0 6) 28 13 0) 28 14 0) 28 15 0) 28 16 0) 28 17 0))) rfl trivial ?_
  obtain rfl := Option.some.inj h
  exact Wp.done rfl (by decide) H
theorem s_X2_clear_28_fr {M : fM} {r : (Unit × fM)} (h : s_X2_clear_28 M = some r) : fSame s_X2_clear_28_mods M r.2 := by
  unfold s_X2_clear_28 at h
  obtain ⟨y5, hy, h⟩ := fbd h
  have k5 := fs_trans (l := s_X2_clear_28_mods) fs_refl (fs_mono (l := s_J7_fill_29_mods) (by decide) (s_J7_fill_29_fr hy))
  obtain ⟨y14, hy, h⟩ := fbd h
  have k14 := fs_trans (l := s_X2_clear_28_mods) k5 (fs_mono (l := s_J7_fill_30_mods) (by decide) (s_J7_fill_30_fr hy))
  obtain ⟨y22, hy, h⟩ := fbd h
  have k22 := fs_trans (l := s_X2_clear_28_mods) k14 (fs_mono (l := s_J7_fill_31_mods) (by decide) (s_J7_fill_31_fr hy))
  obtain ⟨y30, hy, h⟩ := fbd h
  have k30 := fs_trans (l := s_X2_clear_28_mods) k22 (fs_mono (l := s_J7_fill_38_mods) (by decide) (s_J7_fill_38_fr hy))
  obtain rfl := Option.some.inj h
  exact fs_up (fs_up (fs_up (fs_up (fs_up (fs_cpy k30 (by decide)) (.inr (by decide))) (.inr (by decide))) (.inr (by decide))) (.inr (by decide))) (.inr (by decide))
abbrev s_X10_begin_mods : List (Nat × Option Nat) := [(1, some 3), (1, some 4), (1, some 5), (1, some 9), (1, some 10)]
noncomputable def s_X10_begin (M : fM) (l1 : Int) : Option (Unit × fM) :=
  some ((), (fup (fup (fup (fup (fup M 1 3 l1) 1 4 0) 1 5 0) 1 9 0) 1 10 0))
theorem s_X10_begin_ok {d L : Nat} {M : fM} {l1 : Int} {r : (Unit × fM)} {Q : fO → fH → Prop} (h : s_X10_begin M l1 = some r) (H : Q (oV r.1) (156, fjl L, r.2)) : Wp (d + 0, 137, 0, 0, 0, [some (fA 1), some (fI l1)], []) (156, fjl L, M) Q := by
  unfold s_X10_begin at h
  refine Wp.run 12 (f' := (d + 0, 137, 20, 0, 0, [some (fA 1), _], [])) (h' := (156, fjl L, (fup (fup (fup (fup M 1 3 l1) 1 4 0) 1 5 0) 1 9 0))) rfl trivial ?_
  refine Wp.run 3 (f' := (d + 0, 137, 25, 0, 0, [_, _], [])) (h' := (156, fjl L, (fup (fup (fup (fup (fup M 1 3 l1) 1 4 0) 1 5 0) 1 9 0) 1 10 0))) rfl trivial ?_
  obtain rfl := Option.some.inj h
  exact Wp.done rfl (by decide) H
theorem s_X10_begin_fr {M : fM} {l1 : Int} {r : (Unit × fM)} (h : s_X10_begin M l1 = some r) : fSame s_X10_begin_mods M r.2 := by
  unfold s_X10_begin at h
  obtain rfl := Option.some.inj h
  exact fs_up (fs_up (fs_up (fs_up (fs_up fs_refl (.inr (by decide))) (.inr (by decide))) (.inr (by decide))) (.inr (by decide))) (.inr (by decide))
noncomputable def s_X10_isBlank (M : fM) (l0 : Int) : Option Int :=
  if l0 = 32 then
    some 1
  else
    if ¬ l0 = 10 then
      some 0
    else
      some 1
theorem s_X10_isBlank_ok {d L : Nat} {M : fM} {l0 : Int} {r : Int} {Q : fO → fH → Prop} (h : s_X10_isBlank M l0 = some r) (H : Q (oI r) (156, fjl L, M)) : Wp (d + 0, 140, 0, 0, 0, [some (fI l0)], []) (156, fjl L, M) Q := by
  unfold s_X10_isBlank at h
  refine Wp.run 2 (f' := (d + 0, 140, 3, 0, 0, [some (fI l0)], [fI 32, fI l0])) (h' := (156, fjl L, M)) rfl trivial ?_
  refine Wp.br rfl (fun (c : l0 = 32) => ?_) (fun (c : ¬ (l0 = 32)) => ?_)
  · replace h := fps c h
    refine Wp.run 2 (f' := (d + 0, 140, 17, 0, 0, [_], [fI 1])) (h' := (156, fjl L, M)) rfl trivial ?_
    obtain rfl := Option.some.inj h
    exact Wp.done rfl (by decide) H
  · replace h := fng c h
    refine Wp.run 2 (f' := (d + 0, 140, 9, 0, 0, [_], [fI 10, fI l0])) (h' := (156, fjl L, M)) rfl trivial ?_
    refine Wp.br rfl (fun (c : ¬ l0 = 10) => ?_) (fun (c : ¬ (¬ l0 = 10)) => ?_)
    · replace h := fps c h
      refine Wp.run 1 (f' := (d + 0, 140, 17, 0, 0, [_], [fI 0])) (h' := (156, fjl L, M)) rfl trivial ?_
      obtain rfl := Option.some.inj h
      exact Wp.done rfl (by decide) H
    · replace h := fng c h
      refine Wp.run 2 (f' := (d + 0, 140, 17, 0, 0, [_], [fI 1])) (h' := (156, fjl L, M)) rfl trivial ?_
      obtain rfl := Option.some.inj h
      exact Wp.done rfl (by decide) H
noncomputable def s_X10_isLetter (M : fM) (l0 : Int) : Option Int :=
  if l0 < 97 then
    some 0
  else
    if 122 < l0 then
      some 0
    else
      some 1
theorem s_X10_isLetter_ok {d L : Nat} {M : fM} {l0 : Int} {r : Int} {Q : fO → fH → Prop} (h : s_X10_isLetter M l0 = some r) (H : Q (oI r) (156, fjl L, M)) : Wp (d + 0, 141, 0, 0, 0, [some (fI l0)], []) (156, fjl L, M) Q := by
  unfold s_X10_isLetter at h
  refine Wp.run 2 (f' := (d + 0, 141, 3, 0, 0, [some (fI l0)], [fI 97, fI l0])) (h' := (156, fjl L, M)) rfl trivial ?_
  refine Wp.br rfl (fun (c : l0 < 97) => ?_) (fun (c : ¬ (l0 < 97)) => ?_)
  · replace h := fps c h
    refine Wp.run 1 (f' := (d + 0, 141, 17, 0, 0, [_], [fI 0])) (h' := (156, fjl L, M)) rfl trivial ?_
    obtain rfl := Option.some.inj h
    exact Wp.done rfl (by decide) H
  · replace h := fng c h
    refine Wp.run 2 (f' := (d + 0, 141, 9, 0, 0, [_], [fI 122, fI l0])) (h' := (156, fjl L, M)) rfl trivial ?_
    refine Wp.br rfl (fun (c : 122 < l0) => ?_) (fun (c : ¬ (122 < l0)) => ?_)
    · replace h := fps c h
      refine Wp.run 1 (f' := (d + 0, 141, 17, 0, 0, [_], [fI 0])) (h' := (156, fjl L, M)) rfl trivial ?_
      obtain rfl := Option.some.inj h
      exact Wp.done rfl (by decide) H
    · replace h := fng c h
      refine Wp.run 2 (f' := (d + 0, 141, 17, 0, 0, [_], [fI 1])) (h' := (156, fjl L, M)) rfl trivial ?_
      obtain rfl := Option.some.inj h
      exact Wp.done rfl (by decide) H
noncomputable def s_X10_isDigit (M : fM) (l0 : Int) : Option Int :=
  if l0 < 48 then
    some 0
  else
    if 57 < l0 then
      some 0
    else
      some 1
theorem s_X10_isDigit_ok {d L : Nat} {M : fM} {l0 : Int} {r : Int} {Q : fO → fH → Prop} (h : s_X10_isDigit M l0 = some r) (H : Q (oI r) (156, fjl L, M)) : Wp (d + 0, 142, 0, 0, 0, [some (fI l0)], []) (156, fjl L, M) Q := by
  unfold s_X10_isDigit at h
  refine Wp.run 2 (f' := (d + 0, 142, 3, 0, 0, [some (fI l0)], [fI 48, fI l0])) (h' := (156, fjl L, M)) rfl trivial ?_
  refine Wp.br rfl (fun (c : l0 < 48) => ?_) (fun (c : ¬ (l0 < 48)) => ?_)
  · replace h := fps c h
    refine Wp.run 1 (f' := (d + 0, 142, 17, 0, 0, [_], [fI 0])) (h' := (156, fjl L, M)) rfl trivial ?_
    obtain rfl := Option.some.inj h
    exact Wp.done rfl (by decide) H
  · replace h := fng c h
    refine Wp.run 2 (f' := (d + 0, 142, 9, 0, 0, [_], [fI 57, fI l0])) (h' := (156, fjl L, M)) rfl trivial ?_
    refine Wp.br rfl (fun (c : 57 < l0) => ?_) (fun (c : ¬ (57 < l0)) => ?_)
    · replace h := fps c h
      refine Wp.run 1 (f' := (d + 0, 142, 17, 0, 0, [_], [fI 0])) (h' := (156, fjl L, M)) rfl trivial ?_
      obtain rfl := Option.some.inj h
      exact Wp.done rfl (by decide) H
    · replace h := fng c h
      refine Wp.run 2 (f' := (d + 0, 142, 17, 0, 0, [_], [fI 1])) (h' := (156, fjl L, M)) rfl trivial ?_
      obtain rfl := Option.some.inj h
      exact Wp.done rfl (by decide) H
noncomputable def s_X10_withLetter (M : fM) (l0 l2 : Int) : Option Int :=
  if fin (l2 - 97) ∧ fin ((l2 - 97) + 1) then
    some (fwl ((fwl (l0 * 32)) + ((l2 - 97) + 1)))
  else none
theorem s_X10_withLetter_ok {d L : Nat} {M : fM} {l0 l2 : Int} {r : Int} {Q : fO → fH → Prop} (h : s_X10_withLetter M l0 l2 = some r) (H : Q (oJ r) (156, fjl L, M)) : Wp (d + 0, 131, 0, 0, 0, [some (fJ l0), none, some (fI l2)], []) (156, fjl L, M) Q := by
  unfold s_X10_withLetter at h
  obtain ⟨⟨g0, g1⟩, h⟩ := fgd h
  refine Wp.run 10 (f' := (d + 0, 131, 13, 0, 0, [_, _, _], [fJ (fwl ((fwl (l0 * 32)) + (fw ((fw (l2 - 97)) + 1))))])) (h' := (156, fjl L, M)) rfl trivial ?_
  rw [fw_id g0, fw_id g1]
  obtain rfl := Option.some.inj h
  exact Wp.done rfl (by decide) H
abbrev s_X10_takeRun_mods : List (Nat × Option Nat) := [(1, some 4), (1, some 6), (1, some 7), (1, some 8)]
noncomputable def s_X10_takeRun_b14 (M : fM) (l1 l2 : Int) : Option ((Int × Int × fM) ⊕ (Int × Int × fM)) :=
  if (M 1 2) ≤ (M 1 4) then
    some (.inr (l1, l2, M))
  else
    if (0 ≤ (M 1 4) ∧ (M 1 4) < 1240) then
      (s_X10_isLetter M (M 2 (M 1 4).toNat)).bind fun y36 =>
        if y36 = 0 then
          (s_X10_isDigit M (M 2 (M 1 4).toNat)).bind fun y61 =>
            if y61 = 0 then
              some (.inr (l1, l2, M))
            else
              if fin (l2 + 1) ∧ fin ((M 2 (M 1 4).toNat) - 48) ∧ fin ((M 1 4) + 1) then
                some (.inl (l1, (l2 + 1), (fup (fup M 1 7 (fw ((fw ((M 1 7) * 10)) + ((M 2 (M 1 4).toNat) - 48)))) 1 4 ((M 1 4) + 1))))
              else none
        else
          if fin (l1 + 1) then
            (s_X10_withLetter M (M 1 8) (M 2 (M 1 4).toNat)).bind fun y51 =>
              if fin ((M 1 4) + 1) then
                some (.inl ((l1 + 1), l2, (fup (fup M 1 8 y51) 1 4 ((M 1 4) + 1))))
              else none
          else none
    else none
theorem s_X10_takeRun_b14_ok {d L : Nat} {M : fM} {l1 l2 : Int} {o3 : Option fV} {r : ((Int × Int × fM) ⊕ (Int × Int × fM))} {Q : fO → fH → Prop} (h : s_X10_takeRun_b14 M l1 l2 = some r) (hC : ∀ (l1' l2' : Int) (M' : fM) (o3' : Option fV), r = .inl (l1', l2', M') → Wp (d + 1, 139, 14, 0, 0, [some (fA 1), some (fI l1'), some (fI l2'), o3'], []) (156, fjl L, M') Q) (hE : ∀ (e : (Int × Int × fM)) (o3' : Option fV), r = .inr e → Wp (d + 1, 139, 99, 0, 0, [some (fA 1), some (fI e.1), some (fI e.2.1), o3'], []) (156, fjl L, e.2.2) Q) : Wp (d + 1, 139, 14, 0, 0, [some (fA 1), some (fI l1), some (fI l2), o3], []) (156, fjl L, M) Q := by
  unfold s_X10_takeRun_b14 at h
  refine Wp.run 4 (f' := (d + 1, 139, 22, 0, 0, [some (fA 1), some (fI l1), some (fI l2), _], [fI (M 1 2), fI (M 1 4)])) (h' := (156, fjl L, M)) rfl trivial ?_
  refine Wp.br rfl (fun (c : (M 1 2) ≤ (M 1 4)) => ?_) (fun (c : ¬ ((M 1 2) ≤ (M 1 4))) => ?_)
  · replace h := fps c h
    exact hE _ _ (Option.some.inj h).symm
  · replace h := fng c h
    obtain ⟨g0, h⟩ := fgd h
    refine Wp.run 7 (P := [0 ≤ (M 1 4) ∧ (M 1 4) < 1240]) (f' := (d + 1, 139, 36, 0, 0, [some (fA 1), some (fI l1), some (fI l2), some (fI (M 2 (M 1 4).toNat))], [fI (M 2 (M 1 4).toNat)])) (h' := (156, fjl L, M)) rfl ?_ ?_
    · exact g0
    obtain ⟨y36, hy, h⟩ := fbd h
    refine Wp.call rfl (by decide) (s_X10_isLetter_ok (d := d + 0) hy ?_)
    show Wp (d + 1, 139, 39, 0, 0, [some (fA 1), some (fI l1), some (fI l2), some (fI (M 2 (M 1 4).toNat))], [fI y36]) (156, fjl L, M) Q
    refine Wp.br rfl (fun (c : y36 = 0) => ?_) (fun (c : ¬ (y36 = 0)) => ?_)
    · replace h := fps c h
      refine Wp.run 1 (f' := (d + 1, 139, 61, 0, 0, [some (fA 1), some (fI l1), some (fI l2), some (fI (M 2 (M 1 4).toNat))], [fI (M 2 (M 1 4).toNat)])) (h' := (156, fjl L, M)) rfl trivial ?_
      obtain ⟨y61, hy, h⟩ := fbd h
      refine Wp.call rfl (by decide) (s_X10_isDigit_ok (d := d + 0) hy ?_)
      show Wp (d + 1, 139, 64, 0, 0, [some (fA 1), some (fI l1), some (fI l2), some (fI (M 2 (M 1 4).toNat))], [fI y61]) (156, fjl L, M) Q
      refine Wp.br rfl (fun (c : y61 = 0) => ?_) (fun (c : ¬ (y61 = 0)) => ?_)
      · replace h := fps c h
        exact hE _ _ (Option.some.inj h).symm
      · replace h := fng c h
        obtain ⟨⟨g0, g1, g2⟩, h⟩ := fgd h
        refine Wp.run 17 (f' := (d + 1, 139, 96, 0, 0, [some (fA 1), some (fI l1), some (fI (fw (l2 + 1))), _], [])) (h' := (156, fjl L, (fup (fup M 1 7 (fw ((fw ((M 1 7) * 10)) + (fw ((M 2 (M 1 4).toNat) - 48))))) 1 4 (fw ((M 1 4) + 1))))) rfl trivial ?_
        rw [fw_id g0, fw_id g1, fw_id g2]
        refine Wp.run 1 (f' := (d + 1, 139, 14, 0, 0, [some (fA 1), some (fI l1), some (fI (l2 + 1)), _], [])) (h' := (156, fjl L, (fup (fup M 1 7 (fw ((fw ((M 1 7) * 10)) + ((M 2 (M 1 4).toNat) - 48)))) 1 4 ((M 1 4) + 1)))) rfl trivial ?_
        exact hC _ _ _ _ (Option.some.inj h).symm
    · replace h := fng c h
      obtain ⟨g0, h⟩ := fgd h
      refine Wp.run 5 (f' := (d + 1, 139, 51, 0, 0, [some (fA 1), some (fI (fw (l1 + 1))), some (fI l2), _], [fI (M 2 (M 1 4).toNat), fJ (M 1 8), fA 1])) (h' := (156, fjl L, M)) rfl trivial ?_
      rw [fw_id g0]
      obtain ⟨y51, hy, h⟩ := fbd h
      refine Wp.call rfl (by decide) (s_X10_withLetter_ok (d := d + 0) hy ?_)
      show Wp (d + 1, 139, 54, 0, 0, [some (fA 1), some (fI (l1 + 1)), some (fI l2), _], [fJ y51, fA 1]) (156, fjl L, M) Q
      obtain ⟨g0, h⟩ := fgd h
      refine Wp.run 9 (f' := (d + 1, 139, 14, 0, 0, [some (fA 1), some (fI (l1 + 1)), some (fI l2), _], [])) (h' := (156, fjl L, (fup (fup M 1 8 y51) 1 4 (fw ((M 1 4) + 1))))) rfl trivial ?_
      rw [fw_id g0]
      exact hC _ _ _ _ (Option.some.inj h).symm
theorem s_X10_takeRun_b14_fr {M : fM} {l1 l2 : Int} {r : ((Int × Int × fM) ⊕ (Int × Int × fM))} (h : s_X10_takeRun_b14 M l1 l2 = some r) : fSame s_X10_takeRun_mods M (Sum.elim (fun s => s.2.2) (fun e => e.2.2) r) := by
  unfold s_X10_takeRun_b14 at h
  by_cases c : (M 1 2) ≤ (M 1 4)
  · replace h := fps c h
    obtain rfl := Option.some.inj h
    exact fs_refl
  · replace h := fng c h
    replace h := (fgd h).2
    obtain ⟨y36, hy, h⟩ := fbd h
    by_cases c : y36 = 0
    · replace h := fps c h
      obtain ⟨y61, hy, h⟩ := fbd h
      by_cases c : y61 = 0
      · replace h := fps c h
        obtain rfl := Option.some.inj h
        exact fs_refl
      · replace h := fng c h
        replace h := (fgd h).2
        obtain rfl := Option.some.inj h
        exact fs_up (fs_up fs_refl (.inr (by decide))) (.inr (by decide))
    · replace h := fng c h
      replace h := (fgd h).2
      obtain ⟨y51, hy, h⟩ := fbd h
      replace h := (fgd h).2
      obtain rfl := Option.some.inj h
      exact fs_up (fs_up fs_refl (.inr (by decide))) (.inr (by decide))
noncomputable def s_X10_takeRun_l14 (s : (Int × Int × fM)) : Option (Int × Int × fM) := fLp (fun s => s_X10_takeRun_b14 s.2.2 s.1 s.2.1) s
theorem s_X10_takeRun_l14_ok {d L : Nat} {M : fM} {l1 l2 : Int} {o3 : Option fV} {r : (Int × Int × fM)} {Q : fO → fH → Prop} (h : s_X10_takeRun_l14 (l1, l2, M) = some r) (hE : ∀ (e : (Int × Int × fM)) (o3' : Option fV), r = e → Wp (d + 1, 139, 99, 0, 0, [some (fA 1), some (fI e.1), some (fI e.2.1), o3'], []) (156, fjl L, e.2.2) Q) : Wp (d + 1, 139, 14, 0, 0, [some (fA 1), some (fI l1), some (fI l2), o3], []) (156, fjl L, M) Q := by
  refine fLp_wp (W := fun s => ∀ (o3 : Option fV), Wp (d + 1, 139, 14, 0, 0, [some (fA 1), some (fI s.1), some (fI s.2.1), o3], []) (156, fjl L, s.2.2) Q) (e := r) ?_ h _
  intro s r1 h hC hX o3
  refine s_X10_takeRun_b14_ok (d := d) h (fun a0 a1 a2 _ e1 => ?_) (fun e u0 e1 => hE e u0 (hX _ e1).symm)
  exact hC _ e1 _
theorem s_X10_takeRun_l14_fr {M : fM} {l1 l2 : Int} {r : (Int × Int × fM)} (h : s_X10_takeRun_l14 (l1, l2, M) = some r) : fSame s_X10_takeRun_mods M ((fun e => e.2.2) r) := by
  refine fLp_inv (I := fun s => fSame s_X10_takeRun_mods M s.2.2) (J := fun r => fSame s_X10_takeRun_mods M ((fun e => e.2.2) r)) h fs_refl (fun s s1 hs hb => ?_) (fun s e hs hb => ?_)
  · exact fs_trans hs (s_X10_takeRun_b14_fr hb)
  · exact fs_trans hs (s_X10_takeRun_b14_fr hb)
noncomputable def s_X10_takeRun_j117 (M : fM) (l1 l2 : Int) : Option (Unit × fM) :=
  if ¬ l1 = 0 then
    some ((), (fup M 1 6 1))
  else
    if 5 < l2 then
      some ((), (fup M 1 6 1))
    else
      some ((), (fup M 1 6 3))
theorem s_X10_takeRun_j117_ok {d L : Nat} {M : fM} {l1 l2 : Int} {o3 : Option fV} {r : (Unit × fM)} {Q : fO → fH → Prop} (h : s_X10_takeRun_j117 M l1 l2 = some r) (H : Q (oV r.1) (156, fjl L, r.2)) : Wp (d + 1, 139, 117, 0, 0, [some (fA 1), some (fI l1), some (fI l2), o3], []) (156, fjl L, M) Q := by
  unfold s_X10_takeRun_j117 at h
  refine Wp.run 1 (f' := (d + 1, 139, 118, 0, 0, [some (fA 1), _, some (fI l2), _], [fI l1])) (h' := (156, fjl L, M)) rfl trivial ?_
  refine Wp.br rfl (fun (c : ¬ l1 = 0) => ?_) (fun (c : ¬ (¬ l1 = 0)) => ?_)
  · replace h := fps c h
    refine Wp.run 3 (f' := (d + 1, 139, 139, 0, 0, [_, _, _, _], [])) (h' := (156, fjl L, (fup M 1 6 1))) rfl trivial ?_
    obtain rfl := Option.some.inj h
    exact Wp.done rfl (by decide) H
  · replace h := fng c h
    refine Wp.run 2 (f' := (d + 1, 139, 123, 0, 0, [some (fA 1), _, _, _], [fI 5, fI l2])) (h' := (156, fjl L, M)) rfl trivial ?_
    refine Wp.br rfl (fun (c : 5 < l2) => ?_) (fun (c : ¬ (5 < l2)) => ?_)
    · replace h := fps c h
      refine Wp.run 3 (f' := (d + 1, 139, 139, 0, 0, [_, _, _, _], [])) (h' := (156, fjl L, (fup M 1 6 1))) rfl trivial ?_
      obtain rfl := Option.some.inj h
      exact Wp.done rfl (by decide) H
    · replace h := fng c h
      refine Wp.run 4 (f' := (d + 1, 139, 139, 0, 0, [_, _, _, _], [])) (h' := (156, fjl L, (fup M 1 6 3))) rfl trivial ?_
      obtain rfl := Option.some.inj h
      exact Wp.done rfl (by decide) H
theorem s_X10_takeRun_j117_fr {M : fM} {l1 l2 : Int} {r : (Unit × fM)} (h : s_X10_takeRun_j117 M l1 l2 = some r) : fSame s_X10_takeRun_mods M r.2 := by
  unfold s_X10_takeRun_j117 at h
  by_cases c : ¬ l1 = 0
  · replace h := fps c h
    obtain rfl := Option.some.inj h
    exact fs_up fs_refl (.inr (by decide))
  · replace h := fng c h
    by_cases c : 5 < l2
    · replace h := fps c h
      obtain rfl := Option.some.inj h
      exact fs_up fs_refl (.inr (by decide))
    · replace h := fng c h
      obtain rfl := Option.some.inj h
      exact fs_up fs_refl (.inr (by decide))
noncomputable def s_X10_takeRun_j99 (M : fM) (l1 l2 : Int) : Option (Unit × fM) :=
  if ¬ l2 = 0 then
    s_X10_takeRun_j117 M l1 l2
  else
    if 8 < l1 then
      s_X10_takeRun_j117 M l1 l2
    else
      some ((), (fup M 1 6 2))
theorem s_X10_takeRun_j99_ok {d L : Nat} {M : fM} {l1 l2 : Int} {o3 : Option fV} {r : (Unit × fM)} {Q : fO → fH → Prop} (h : s_X10_takeRun_j99 M l1 l2 = some r) (H : Q (oV r.1) (156, fjl L, r.2)) : Wp (d + 1, 139, 99, 0, 0, [some (fA 1), some (fI l1), some (fI l2), o3], []) (156, fjl L, M) Q := by
  unfold s_X10_takeRun_j99 at h
  refine Wp.run 1 (f' := (d + 1, 139, 100, 0, 0, [some (fA 1), some (fI l1), some (fI l2), _], [fI l2])) (h' := (156, fjl L, M)) rfl trivial ?_
  refine Wp.br rfl (fun (c : ¬ l2 = 0) => ?_) (fun (c : ¬ (¬ l2 = 0)) => ?_)
  · replace h := fps c h
    exact s_X10_takeRun_j117_ok h H
  · replace h := fng c h
    refine Wp.run 2 (f' := (d + 1, 139, 106, 0, 0, [some (fA 1), some (fI l1), some (fI l2), _], [fI 8, fI l1])) (h' := (156, fjl L, M)) rfl trivial ?_
    refine Wp.br rfl (fun (c : 8 < l1) => ?_) (fun (c : ¬ (8 < l1)) => ?_)
    · replace h := fps c h
      exact s_X10_takeRun_j117_ok h H
    · replace h := fng c h
      refine Wp.run 4 (f' := (d + 1, 139, 139, 0, 0, [_, _, _, _], [])) (h' := (156, fjl L, (fup M 1 6 2))) rfl trivial ?_
      obtain rfl := Option.some.inj h
      exact Wp.done rfl (by decide) H
theorem s_X10_takeRun_j99_fr {M : fM} {l1 l2 : Int} {r : (Unit × fM)} (h : s_X10_takeRun_j99 M l1 l2 = some r) : fSame s_X10_takeRun_mods M r.2 := by
  unfold s_X10_takeRun_j99 at h
  by_cases c : ¬ l2 = 0
  · replace h := fps c h
    exact fs_trans fs_refl (s_X10_takeRun_j117_fr h)
  · replace h := fng c h
    by_cases c : 8 < l1
    · replace h := fps c h
      exact fs_trans fs_refl (s_X10_takeRun_j117_fr h)
    · replace h := fng c h
      obtain rfl := Option.some.inj h
      exact fs_up fs_refl (.inr (by decide))
noncomputable def s_X10_takeRun (M : fM) : Option (Unit × fM) :=
  (s_X10_takeRun_l14 (0, 0, (fup (fup M 1 8 0) 1 7 0))).bind fun e14 =>
    s_X10_takeRun_j99 e14.2.2 e14.1 e14.2.1
theorem s_X10_takeRun_ok {d L : Nat} {M : fM} {r : (Unit × fM)} {Q : fO → fH → Prop} (h : s_X10_takeRun M = some r) (H : Q (oV r.1) (156, fjl L, r.2)) : Wp (d + 1, 139, 0, 0, 0, [some (fA 1), none, none, none], []) (156, fjl L, M) Q := by
  unfold s_X10_takeRun at h
  refine Wp.run 10 (f' := (d + 1, 139, 14, 0, 0, [some (fA 1), some (fI 0), some (fI 0), _], [])) (h' := (156, fjl L, (fup (fup M 1 8 0) 1 7 0))) rfl trivial ?_
  obtain ⟨e14, hy, h⟩ := fbd h
  refine s_X10_takeRun_l14_ok hy (fun x u3 ex => ?_)
  cases ex
  show Wp (d + 1, 139, 99, 0, 0, [some (fA 1), some (fI e14.1), some (fI e14.2.1), u3], []) (156, fjl L, e14.2.2) Q
  exact s_X10_takeRun_j99_ok h H
theorem s_X10_takeRun_fr {M : fM} {r : (Unit × fM)} (h : s_X10_takeRun M = some r) : fSame s_X10_takeRun_mods M r.2 := by
  unfold s_X10_takeRun at h
  obtain ⟨e14, hy, h⟩ := fbd h
  have k14 := fs_trans (l := s_X10_takeRun_mods) (fs_up (fs_up fs_refl (.inr (by decide))) (.inr (by decide))) (s_X10_takeRun_l14_fr hy)
  exact fs_trans k14 (s_X10_takeRun_j99_fr h)
abbrev s_X10_take_mods : List (Nat × Option Nat) := [(1, some 4), (1, some 5), (1, some 6), (1, some 7), (1, some 8)]
noncomputable def s_X10_take_b0 (M : fM) : Option (fM ⊕ fM) :=
  if (M 1 2) ≤ (M 1 4) then
    some (.inr M)
  else
    if (0 ≤ (M 1 4) ∧ (M 1 4) < 1240) then
      (s_X10_isBlank M (M 2 (M 1 4).toNat)).bind fun y20 =>
        if y20 = 0 then
          some (.inr M)
        else
          if fin ((M 1 4) + 1) then
            some (.inl (fup M 1 4 ((M 1 4) + 1)))
          else none
    else none
theorem s_X10_take_b0_ok {d L : Nat} {M : fM} {o1 : Option fV} {r : (fM ⊕ fM)} {Q : fO → fH → Prop} (h : s_X10_take_b0 M = some r) (hC : ∀ (M' : fM) (o1' : Option fV), r = .inl M' → Wp (d + 2, 138, 0, 0, 0, [some (fA 1), o1'], []) (156, fjl L, M') Q) (hE : ∀ (e : fM) (o1' : Option fV), r = .inr e → Wp (d + 2, 138, 39, 0, 0, [some (fA 1), o1'], []) (156, fjl L, e) Q) : Wp (d + 2, 138, 0, 0, 0, [some (fA 1), o1], []) (156, fjl L, M) Q := by
  unfold s_X10_take_b0 at h
  refine Wp.run 4 (f' := (d + 2, 138, 8, 0, 0, [some (fA 1), _], [fI (M 1 2), fI (M 1 4)])) (h' := (156, fjl L, M)) rfl trivial ?_
  refine Wp.br rfl (fun (c : (M 1 2) ≤ (M 1 4)) => ?_) (fun (c : ¬ ((M 1 2) ≤ (M 1 4))) => ?_)
  · replace h := fps c h
    exact hE _ _ (Option.some.inj h).symm
  · replace h := fng c h
    obtain ⟨g0, h⟩ := fgd h
    refine Wp.run 5 (P := [0 ≤ (M 1 4) ∧ (M 1 4) < 1240]) (f' := (d + 2, 138, 20, 0, 0, [some (fA 1), _], [fI (M 2 (M 1 4).toNat)])) (h' := (156, fjl L, M)) rfl ?_ ?_
    · exact g0
    obtain ⟨y20, hy, h⟩ := fbd h
    refine Wp.call rfl (by decide) (s_X10_isBlank_ok (d := d + 1) hy ?_)
    show Wp (d + 2, 138, 23, 0, 0, [some (fA 1), _], [fI y20]) (156, fjl L, M) Q
    refine Wp.br rfl (fun (c : y20 = 0) => ?_) (fun (c : ¬ (y20 = 0)) => ?_)
    · replace h := fps c h
      exact hE _ _ (Option.some.inj h).symm
    · replace h := fng c h
      obtain ⟨g0, h⟩ := fgd h
      refine Wp.run 7 (f' := (d + 2, 138, 0, 0, 0, [some (fA 1), _], [])) (h' := (156, fjl L, (fup M 1 4 (fw ((M 1 4) + 1))))) rfl trivial ?_
      rw [fw_id g0]
      exact hC _ _ (Option.some.inj h).symm
theorem s_X10_take_b0_fr {M : fM} {r : (fM ⊕ fM)} (h : s_X10_take_b0 M = some r) : fSame s_X10_take_mods M (Sum.elim (fun s => s) (fun e => e) r) := by
  unfold s_X10_take_b0 at h
  by_cases c : (M 1 2) ≤ (M 1 4)
  · replace h := fps c h
    obtain rfl := Option.some.inj h
    exact fs_refl
  · replace h := fng c h
    replace h := (fgd h).2
    obtain ⟨y20, hy, h⟩ := fbd h
    by_cases c : y20 = 0
    · replace h := fps c h
      obtain rfl := Option.some.inj h
      exact fs_refl
    · replace h := fng c h
      replace h := (fgd h).2
      obtain rfl := Option.some.inj h
      exact fs_up fs_refl (.inr (by decide))
noncomputable def s_X10_take_l0 (s : fM) : Option fM := fLp (fun s => s_X10_take_b0 s) s
theorem s_X10_take_l0_ok {d L : Nat} {M : fM} {o1 : Option fV} {r : fM} {Q : fO → fH → Prop} (h : s_X10_take_l0 M = some r) (hE : ∀ (e : fM) (o1' : Option fV), r = e → Wp (d + 2, 138, 39, 0, 0, [some (fA 1), o1'], []) (156, fjl L, e) Q) : Wp (d + 2, 138, 0, 0, 0, [some (fA 1), o1], []) (156, fjl L, M) Q := by
  refine fLp_wp (W := fun s => ∀ (o1 : Option fV), Wp (d + 2, 138, 0, 0, 0, [some (fA 1), o1], []) (156, fjl L, s) Q) (e := r) ?_ h _
  intro s r1 h hC hX o1
  refine s_X10_take_b0_ok (d := d) h (fun a0 _ e1 => ?_) (fun e u0 e1 => hE e u0 (hX _ e1).symm)
  exact hC _ e1 _
theorem s_X10_take_l0_fr {M : fM} {r : fM} (h : s_X10_take_l0 M = some r) : fSame s_X10_take_mods M ((fun e => e) r) := by
  refine fLp_inv (I := fun s => fSame s_X10_take_mods M s) (J := fun r => fSame s_X10_take_mods M ((fun e => e) r)) h fs_refl (fun s s1 hs hb => ?_) (fun s e hs hb => ?_)
  · exact fs_trans hs (s_X10_take_b0_fr hb)
  · exact fs_trans hs (s_X10_take_b0_fr hb)
noncomputable def s_X10_take_j124 (M : fM) : Option (Unit × fM) :=
  (s_X10_takeRun M).bind fun y125 =>
    some ((), y125.2)
theorem s_X10_take_j124_ok {d L : Nat} {M : fM} {o1 : Option fV} {r : (Unit × fM)} {Q : fO → fH → Prop} (h : s_X10_take_j124 M = some r) (H : Q (oV r.1) (156, fjl L, r.2)) : Wp (d + 2, 138, 124, 0, 0, [some (fA 1), o1], []) (156, fjl L, M) Q := by
  unfold s_X10_take_j124 at h
  refine Wp.run 1 (f' := (d + 2, 138, 125, 0, 0, [_, _], [fA 1])) (h' := (156, fjl L, M)) rfl trivial ?_
  obtain ⟨y125, hy, h⟩ := fbd h
  refine Wp.call rfl (by decide) (s_X10_takeRun_ok (d := d + 0) hy ?_)
  show Wp (d + 2, 138, 128, 0, 0, [_, _], []) (156, fjl L, y125.2) Q
  obtain rfl := Option.some.inj h
  exact Wp.done rfl (by decide) H
theorem s_X10_take_j124_fr {M : fM} {r : (Unit × fM)} (h : s_X10_take_j124 M = some r) : fSame s_X10_take_mods M r.2 := by
  unfold s_X10_take_j124 at h
  obtain ⟨y125, hy, h⟩ := fbd h
  have k125 := fs_trans (l := s_X10_take_mods) fs_refl (fs_mono (l := s_X10_takeRun_mods) (by decide) (s_X10_takeRun_fr hy))
  obtain rfl := Option.some.inj h
  exact k125
noncomputable def s_X10_take_j75 (M : fM) : Option (Unit × fM) :=
  if (M 1 4) < (M 1 2) then
    if (0 ≤ (M 1 4) ∧ (M 1 4) < 1240) then
      (s_X10_isLetter (fup M 1 5 (M 1 4)) (M 2 (M 1 4).toNat)).bind fun y111 =>
        if ¬ y111 = 0 then
          s_X10_take_j124 (fup M 1 5 (M 1 4))
        else
          (s_X10_isDigit (fup M 1 5 (M 1 4)) (M 2 (M 1 4).toNat)).bind fun y118 =>
            if y118 = 0 then
              if fin ((M 1 4) + 1) then
                if ¬ (M 2 (M 1 4).toNat) = 59 then
                  if ¬ (M 2 (M 1 4).toNat) = 45 then
                    some ((), (fup (fup (fup M 1 5 (M 1 4)) 1 4 ((M 1 4) + 1)) 1 6 1))
                  else
                    some ((), (fup (fup (fup M 1 5 (M 1 4)) 1 4 ((M 1 4) + 1)) 1 6 5))
                else
                  some ((), (fup (fup (fup M 1 5 (M 1 4)) 1 4 ((M 1 4) + 1)) 1 6 4))
              else none
            else
              s_X10_take_j124 (fup M 1 5 (M 1 4))
    else none
  else
    some ((), (fup (fup M 1 5 (M 1 4)) 1 6 0))
theorem s_X10_take_j75_ok {d L : Nat} {M : fM} {o1 : Option fV} {r : (Unit × fM)} {Q : fO → fH → Prop} (h : s_X10_take_j75 M = some r) (H : Q (oV r.1) (156, fjl L, r.2)) : Wp (d + 2, 138, 75, 0, 0, [some (fA 1), o1], []) (156, fjl L, M) Q := by
  unfold s_X10_take_j75 at h
  refine Wp.run 8 (f' := (d + 2, 138, 91, 0, 0, [some (fA 1), _], [fI (M 1 2), fI (M 1 4)])) (h' := (156, fjl L, (fup M 1 5 (M 1 4)))) rfl trivial ?_
  refine Wp.br rfl (fun (c : (M 1 4) < (M 1 2)) => ?_) (fun (c : ¬ ((M 1 4) < (M 1 2))) => ?_)
  · replace h := fps c h
    obtain ⟨g0, h⟩ := fgd h
    refine Wp.run 7 (P := [0 ≤ (M 1 4) ∧ (M 1 4) < 1240]) (f' := (d + 2, 138, 111, 0, 0, [some (fA 1), some (fI (M 2 (M 1 4).toNat))], [fI (M 2 (M 1 4).toNat)])) (h' := (156, fjl L, (fup M 1 5 (M 1 4)))) rfl ?_ ?_
    · exact g0
    obtain ⟨y111, hy, h⟩ := fbd h
    refine Wp.call rfl (by decide) (s_X10_isLetter_ok (d := d + 1) hy ?_)
    show Wp (d + 2, 138, 114, 0, 0, [some (fA 1), some (fI (M 2 (M 1 4).toNat))], [fI y111]) (156, fjl L, (fup M 1 5 (M 1 4))) Q
    refine Wp.br rfl (fun (c : ¬ y111 = 0) => ?_) (fun (c : ¬ (¬ y111 = 0)) => ?_)
    · replace h := fps c h
      exact s_X10_take_j124_ok h H
    · replace h := fng c h
      refine Wp.run 1 (f' := (d + 2, 138, 118, 0, 0, [some (fA 1), some (fI (M 2 (M 1 4).toNat))], [fI (M 2 (M 1 4).toNat)])) (h' := (156, fjl L, (fup M 1 5 (M 1 4)))) rfl trivial ?_
      obtain ⟨y118, hy, h⟩ := fbd h
      refine Wp.call rfl (by decide) (s_X10_isDigit_ok (d := d + 1) hy ?_)
      show Wp (d + 2, 138, 121, 0, 0, [some (fA 1), some (fI (M 2 (M 1 4).toNat))], [fI y118]) (156, fjl L, (fup M 1 5 (M 1 4))) Q
      refine Wp.br rfl (fun (c : y118 = 0) => ?_) (fun (c : ¬ (y118 = 0)) => ?_)
      · replace h := fps c h
        obtain ⟨g0, h⟩ := fgd h
        refine Wp.run 9 (f' := (d + 2, 138, 143, 0, 0, [_, some (fI (M 2 (M 1 4).toNat))], [fI 59, fI (M 2 (M 1 4).toNat), fA 1])) (h' := (156, fjl L, (fup (fup M 1 5 (M 1 4)) 1 4 (fw ((M 1 4) + 1))))) rfl trivial ?_
        rw [fw_id g0]
        refine Wp.br rfl (fun (c : ¬ (M 2 (M 1 4).toNat) = 59) => ?_) (fun (c : ¬ (¬ (M 2 (M 1 4).toNat) = 59)) => ?_)
        · replace h := fps c h
          refine Wp.run 2 (f' := (d + 2, 138, 153, 0, 0, [_, _], [fI 45, fI (M 2 (M 1 4).toNat), fA 1])) (h' := (156, fjl L, (fup (fup M 1 5 (M 1 4)) 1 4 ((M 1 4) + 1)))) rfl trivial ?_
          refine Wp.br rfl (fun (c : ¬ (M 2 (M 1 4).toNat) = 45) => ?_) (fun (c : ¬ (¬ (M 2 (M 1 4).toNat) = 45)) => ?_)
          · replace h := fps c h
            refine Wp.run 2 (f' := (d + 2, 138, 164, 0, 0, [_, _], [])) (h' := (156, fjl L, (fup (fup (fup M 1 5 (M 1 4)) 1 4 ((M 1 4) + 1)) 1 6 1))) rfl trivial ?_
            obtain rfl := Option.some.inj h
            exact Wp.done rfl (by decide) H
          · replace h := fng c h
            refine Wp.run 3 (f' := (d + 2, 138, 164, 0, 0, [_, _], [])) (h' := (156, fjl L, (fup (fup (fup M 1 5 (M 1 4)) 1 4 ((M 1 4) + 1)) 1 6 5))) rfl trivial ?_
            obtain rfl := Option.some.inj h
            exact Wp.done rfl (by decide) H
        · replace h := fng c h
          refine Wp.run 3 (f' := (d + 2, 138, 164, 0, 0, [_, _], [])) (h' := (156, fjl L, (fup (fup (fup M 1 5 (M 1 4)) 1 4 ((M 1 4) + 1)) 1 6 4))) rfl trivial ?_
          obtain rfl := Option.some.inj h
          exact Wp.done rfl (by decide) H
      · replace h := fng c h
        exact s_X10_take_j124_ok h H
  · replace h := fng c h
    refine Wp.run 3 (f' := (d + 2, 138, 99, 0, 0, [_, _], [])) (h' := (156, fjl L, (fup (fup M 1 5 (M 1 4)) 1 6 0))) rfl trivial ?_
    obtain rfl := Option.some.inj h
    exact Wp.done rfl (by decide) H
theorem s_X10_take_j75_fr {M : fM} {r : (Unit × fM)} (h : s_X10_take_j75 M = some r) : fSame s_X10_take_mods M r.2 := by
  unfold s_X10_take_j75 at h
  by_cases c : (M 1 4) < (M 1 2)
  · replace h := fps c h
    replace h := (fgd h).2
    obtain ⟨y111, hy, h⟩ := fbd h
    by_cases c : ¬ y111 = 0
    · replace h := fps c h
      exact fs_trans (fs_up fs_refl (.inr (by decide))) (s_X10_take_j124_fr h)
    · replace h := fng c h
      obtain ⟨y118, hy, h⟩ := fbd h
      by_cases c : y118 = 0
      · replace h := fps c h
        replace h := (fgd h).2
        by_cases c : ¬ (M 2 (M 1 4).toNat) = 59
        · replace h := fps c h
          by_cases c : ¬ (M 2 (M 1 4).toNat) = 45
          · replace h := fps c h
            obtain rfl := Option.some.inj h
            exact fs_up (fs_up (fs_up fs_refl (.inr (by decide))) (.inr (by decide))) (.inr (by decide))
          · replace h := fng c h
            obtain rfl := Option.some.inj h
            exact fs_up (fs_up (fs_up fs_refl (.inr (by decide))) (.inr (by decide))) (.inr (by decide))
        · replace h := fng c h
          obtain rfl := Option.some.inj h
          exact fs_up (fs_up (fs_up fs_refl (.inr (by decide))) (.inr (by decide))) (.inr (by decide))
      · replace h := fng c h
        exact fs_trans (fs_up fs_refl (.inr (by decide))) (s_X10_take_j124_fr h)
  · replace h := fng c h
    obtain rfl := Option.some.inj h
    exact fs_up (fs_up fs_refl (.inr (by decide))) (.inr (by decide))
noncomputable def s_X10_take_j39 (M : fM) : Option (Unit × fM) :=
  if (M 1 2) ≤ (M 1 3) then
    s_X10_take_j75 M
  else
    if (M 1 4) < (M 1 3) then
      s_X10_take_j75 M
    else
      some ((), (fup (fup M 1 5 (M 1 3)) 1 6 1))
theorem s_X10_take_j39_ok {d L : Nat} {M : fM} {o1 : Option fV} {r : (Unit × fM)} {Q : fO → fH → Prop} (h : s_X10_take_j39 M = some r) (H : Q (oV r.1) (156, fjl L, r.2)) : Wp (d + 2, 138, 39, 0, 0, [some (fA 1), o1], []) (156, fjl L, M) Q := by
  unfold s_X10_take_j39 at h
  refine Wp.run 4 (f' := (d + 2, 138, 47, 0, 0, [some (fA 1), _], [fI (M 1 3), fI (M 1 2)])) (h' := (156, fjl L, M)) rfl trivial ?_
  refine Wp.br rfl (fun (c : (M 1 2) ≤ (M 1 3)) => ?_) (fun (c : ¬ ((M 1 2) ≤ (M 1 3))) => ?_)
  · replace h := fps c h
    exact s_X10_take_j75_ok h H
  · replace h := fng c h
    refine Wp.run 4 (f' := (d + 2, 138, 58, 0, 0, [some (fA 1), _], [fI (M 1 3), fI (M 1 4)])) (h' := (156, fjl L, M)) rfl trivial ?_
    refine Wp.br rfl (fun (c : (M 1 4) < (M 1 3)) => ?_) (fun (c : ¬ ((M 1 4) < (M 1 3))) => ?_)
    · replace h := fps c h
      exact s_X10_take_j75_ok h H
    · replace h := fng c h
      refine Wp.run 7 (f' := (d + 2, 138, 74, 0, 0, [_, _], [])) (h' := (156, fjl L, (fup (fup M 1 5 (M 1 3)) 1 6 1))) rfl trivial ?_
      obtain rfl := Option.some.inj h
      exact Wp.done rfl (by decide) H
theorem s_X10_take_j39_fr {M : fM} {r : (Unit × fM)} (h : s_X10_take_j39 M = some r) : fSame s_X10_take_mods M r.2 := by
  unfold s_X10_take_j39 at h
  by_cases c : (M 1 2) ≤ (M 1 3)
  · replace h := fps c h
    exact fs_trans fs_refl (s_X10_take_j75_fr h)
  · replace h := fng c h
    by_cases c : (M 1 4) < (M 1 3)
    · replace h := fps c h
      exact fs_trans fs_refl (s_X10_take_j75_fr h)
    · replace h := fng c h
      obtain rfl := Option.some.inj h
      exact fs_up (fs_up fs_refl (.inr (by decide))) (.inr (by decide))
noncomputable def s_X10_take (M : fM) : Option (Unit × fM) :=
  (s_X10_take_l0 M).bind fun e0 =>
    s_X10_take_j39 e0
theorem s_X10_take_ok {d L : Nat} {M : fM} {r : (Unit × fM)} {Q : fO → fH → Prop} (h : s_X10_take M = some r) (H : Q (oV r.1) (156, fjl L, r.2)) : Wp (d + 2, 138, 0, 0, 0, [some (fA 1), none], []) (156, fjl L, M) Q := by
  unfold s_X10_take at h
  obtain ⟨e0, hy, h⟩ := fbd h
  refine s_X10_take_l0_ok hy (fun x u1 ex => ?_)
  cases ex
  show Wp (d + 2, 138, 39, 0, 0, [some (fA 1), u1], []) (156, fjl L, e0) Q
  exact s_X10_take_j39_ok h H
theorem s_X10_take_fr {M : fM} {r : (Unit × fM)} (h : s_X10_take M = some r) : fSame s_X10_take_mods M r.2 := by
  unfold s_X10_take at h
  obtain ⟨e0, hy, h⟩ := fbd h
  have k0 := fs_trans (l := s_X10_take_mods) fs_refl (s_X10_take_l0_fr hy)
  exact fs_trans k0 (s_X10_take_j39_fr h)
noncomputable def s_X10_keywordHere_b12 (M : fM) (l1 : Int) : Option (Int ⊕ (Unit ⊕ Int)) :=
  if 30 ≤ l1 then
    some (.inr (.inl ()))
  else
    if (0 ≤ l1 ∧ l1 < 30) then
      if ¬ (M 3 (l1).toNat) = (M 1 8) then
        if fin (l1 + 1) then
          some (.inl (l1 + 1))
        else none
      else
        some (.inr (.inr l1))
    else none
theorem s_X10_keywordHere_b12_ok {d L : Nat} {M : fM} {l1 : Int} {r : (Int ⊕ (Unit ⊕ Int))} {Q : fO → fH → Prop} (h : s_X10_keywordHere_b12 M l1 = some r) (hC : ∀ (l1' : Int), r = .inl l1' → Wp (d + 0, 146, 12, 0, 0, [some (fA 1), some (fI l1')], []) (156, fjl L, M) Q) (hE : ∀ (e : Unit) (o0' o1' : Option fV), r = .inr (.inl e) → Wp (d + 0, 146, 40, 0, 0, [o0', o1'], []) (156, fjl L, M) Q) (hR : ∀ (v : Int), r = .inr (.inr v) → Q (oI v) (156, fjl L, M)) : Wp (d + 0, 146, 12, 0, 0, [some (fA 1), some (fI l1)], []) (156, fjl L, M) Q := by
  unfold s_X10_keywordHere_b12 at h
  refine Wp.run 2 (f' := (d + 0, 146, 15, 0, 0, [some (fA 1), some (fI l1)], [fI 30, fI l1])) (h' := (156, fjl L, M)) rfl trivial ?_
  refine Wp.br rfl (fun (c : 30 ≤ l1) => ?_) (fun (c : ¬ (30 ≤ l1)) => ?_)
  · replace h := fps c h
    exact hE _ _ _ (Option.some.inj h).symm
  · replace h := fng c h
    obtain ⟨g0, h⟩ := fgd h
    refine Wp.run 7 (P := [0 ≤ l1 ∧ l1 < 30]) (f' := (d + 0, 146, 29, 0, 0, [some (fA 1), some (fI l1)], [fI (fcm (M 3 (l1).toNat) (M 1 8))])) (h' := (156, fjl L, M)) rfl ?_ ?_
    · exact g0
    refine Wp.br rfl (fun (c : ¬ (fcm (M 3 (l1).toNat) (M 1 8)) = 0) => ?_) (fun (c : ¬ (¬ (fcm (M 3 (l1).toNat) (M 1 8)) = 0)) => ?_)
    · replace c := (fcm_ne _ _).mp c
      replace h := fps c h
      obtain ⟨g0, h⟩ := fgd h
      refine Wp.run 2 (f' := (d + 0, 146, 12, 0, 0, [some (fA 1), some (fI (fw (l1 + 1)))], [])) (h' := (156, fjl L, M)) rfl trivial ?_
      rw [fw_id g0]
      exact hC _ (Option.some.inj h).symm
    · replace c := fun z => c ((fcm_ne _ _).mpr z)
      replace h := fng c h
      refine Wp.run 1 (f' := (d + 0, 146, 33, 0, 0, [_, _], [fI l1])) (h' := (156, fjl L, M)) rfl trivial ?_
      exact Wp.done rfl (by decide) (hR _ (Option.some.inj h).symm)
noncomputable def s_X10_keywordHere_l12 (M : fM) (s : Int) : Option (Unit ⊕ Int) := fLp (fun s => s_X10_keywordHere_b12 M s) s
theorem s_X10_keywordHere_l12_ok {d L : Nat} {M : fM} {l1 : Int} {r : (Unit ⊕ Int)} {Q : fO → fH → Prop} (h : s_X10_keywordHere_l12 M l1 = some r) (hE : ∀ (e : Unit) (o0' o1' : Option fV), r = .inl e → Wp (d + 0, 146, 40, 0, 0, [o0', o1'], []) (156, fjl L, M) Q) (hR : ∀ (v : Int), r = .inr v → Q (oI v) (156, fjl L, M)) : Wp (d + 0, 146, 12, 0, 0, [some (fA 1), some (fI l1)], []) (156, fjl L, M) Q := by
  refine fLp_wp (W := fun s => Wp (d + 0, 146, 12, 0, 0, [some (fA 1), some (fI s)], []) (156, fjl L, M) Q) (e := r) ?_ h
  intro s r1 h hC hX
  refine s_X10_keywordHere_b12_ok (d := d) h (fun a0 e1 => ?_) (fun e u0 u1 e1 => hE e u0 u1 (hX _ e1).symm) (fun v e1 => hR v (hX _ e1).symm)
  exact hC _ e1
noncomputable def s_X10_keywordHere (M : fM) : Option Int :=
  if (M 1 6) = 2 then
    (s_X10_keywordHere_l12 M 0).bind fun e12 =>
      Sum.elim (fun x12 =>
        some (-1))
        (fun v12 => some v12) e12
  else
    some (-1)
theorem s_X10_keywordHere_ok {d L : Nat} {M : fM} {r : Int} {Q : fO → fH → Prop} (h : s_X10_keywordHere M = some r) (H : Q (oI r) (156, fjl L, M)) : Wp (d + 0, 146, 0, 0, 0, [some (fA 1), none], []) (156, fjl L, M) Q := by
  unfold s_X10_keywordHere at h
  refine Wp.run 3 (f' := (d + 0, 146, 5, 0, 0, [some (fA 1), _], [fI 2, fI (M 1 6)])) (h' := (156, fjl L, M)) rfl trivial ?_
  refine Wp.br rfl (fun (c : (M 1 6) = 2) => ?_) (fun (c : ¬ ((M 1 6) = 2)) => ?_)
  · replace h := fps c h
    refine Wp.run 2 (f' := (d + 0, 146, 12, 0, 0, [some (fA 1), some (fI 0)], [])) (h' := (156, fjl L, M)) rfl trivial ?_
    obtain ⟨e12, hy, h⟩ := fbd h
    refine s_X10_keywordHere_l12_ok hy (fun x12 u0 u1 ex => ?_) (fun v12 ex => ?_)
    · subst ex
      replace h := fsl h
      show Wp (d + 0, 146, 40, 0, 0, [u0, u1], []) (156, fjl L, M) Q
      refine Wp.run 1 (f' := (d + 0, 146, 41, 0, 0, [_, _], [fI (-1)])) (h' := (156, fjl L, M)) rfl trivial ?_
      obtain rfl := Option.some.inj h
      exact Wp.done rfl (by decide) H
    · subst ex
      replace h := fsr h
      obtain rfl := Option.some.inj h
      exact H
  · replace h := fng c h
    refine Wp.run 1 (f' := (d + 0, 146, 9, 0, 0, [_, _], [fI (-1)])) (h' := (156, fjl L, M)) rfl trivial ?_
    obtain rfl := Option.some.inj h
    exact Wp.done rfl (by decide) H
abbrev s_X10_fail_mods : List (Nat × Option Nat) := [(1, some 9), (1, some 10)]
noncomputable def s_X10_fail (M : fM) (l1 : Int) : Option ((Unit ⊕ Unit) × fM) :=
  some (.inr (), (fup (fup M 1 9 l1) 1 10 (M 1 5)))
theorem s_X10_fail_ok {d L : Nat} {M : fM} {l1 : Int} {r : ((Unit ⊕ Unit) × fM)} {Q : fO → fH → Prop} (h : s_X10_fail M l1 = some r) (H : Q (oT oV 1 r.1) (156, fjl L, r.2)) : Wp (d + 7, 149, 0, 0, 0, [some (fA 1), some (fI l1)], []) (156, fjl L, M) Q := by
  unfold s_X10_fail at h
  refine Wp.run 7 (f' := (d + 7, 149, 13, 0, 0, [_, _], [])) (h' := (156, fjl L, (fup (fup M 1 9 l1) 1 10 (M 1 5)))) rfl trivial ?_
  obtain rfl := Option.some.inj h
  exact Wp.done rfl ⟨Nat.le_add_left_of_le (by decide), rfl, rfl⟩ H
theorem s_X10_fail_fr {M : fM} {l1 : Int} {r : ((Unit ⊕ Unit) × fM)} (h : s_X10_fail M l1 = some r) : fSame s_X10_fail_mods M r.2 := by
  unfold s_X10_fail at h
  obtain rfl := Option.some.inj h
  exact fs_up (fs_up fs_refl (.inr (by decide))) (.inr (by decide))
abbrev s_X3_withTold_mods : List (Nat × Option Nat) := [(1, some 9), (1, some 10)]
noncomputable def s_X3_withTold (M : fM) (l1 l2 : Int) : Option ((Int ⊕ Unit) × fM) :=
  if ¬ (fand (fshr l1 l2) 1) = 1 then
    some (.inl (fior l1 (fshl 1 l2)), M)
  else
    (s_X10_fail M 3).bind fun y14 =>
      fel y14.1
        (fun w14 =>
          some (.inl (fior l1 (fshl 1 l2)), y14.2))
        (some (.inr (), y14.2))
theorem s_X3_withTold_ok {d L : Nat} {M : fM} {l1 l2 : Int} {r : ((Int ⊕ Unit) × fM)} {Q : fO → fH → Prop} (h : s_X3_withTold M l1 l2 = some r) (H : Q (oT oI 1 r.1) (156, fjl L, r.2)) : Wp (d + 8, 60, 0, 0, 0, [some (fA 27), some (fI l1), some (fI l2)], []) (156, fjl L, M) Q := by
  unfold s_X3_withTold at h
  refine Wp.run 6 (f' := (d + 8, 60, 6, 0, 0, [some (fA 27), some (fI l1), some (fI l2)], [fI 1, fI (fand (fshr l1 l2) 1)])) (h' := (156, fjl L, M)) rfl trivial ?_
  refine Wp.br rfl (fun (c : ¬ (fand (fshr l1 l2) 1) = 1) => ?_) (fun (c : ¬ (¬ (fand (fshr l1 l2) 1) = 1)) => ?_)
  · replace h := fps c h
    refine Wp.run 5 (f' := (d + 8, 60, 22, 0, 0, [_, _, _], [fI (fior l1 (fshl 1 l2))])) (h' := (156, fjl L, M)) rfl trivial ?_
    obtain rfl := Option.some.inj h
    exact Wp.done rfl (by decide) H
  · replace h := fng c h
    refine Wp.run 3 (f' := (d + 8, 60, 14, 0, 0, [_, some (fI l1), some (fI l2)], [fI 3, fA 1])) (h' := (156, fjl L, M)) rfl trivial ?_
    obtain ⟨y14, hy, h⟩ := fbd h
    refine Wp.call rfl (by decide) (s_X10_fail_ok (d := d + 0) hy ?_)
    obtain ⟨w14, ew, h⟩ | ⟨ew, h⟩ := fel_of h
    · rw [ew]
      show Wp (d + 8, 60, 17, 0, 0, [_, some (fI l1), some (fI l2)], []) (156, fjl L, y14.2) Q
      refine Wp.run 5 (f' := (d + 8, 60, 22, 0, 0, [_, _, _], [fI (fior l1 (fshl 1 l2))])) (h' := (156, fjl L, y14.2)) rfl trivial ?_
      obtain rfl := Option.some.inj h
      exact Wp.done rfl (by decide) H
    · rw [ew]
      obtain rfl := Option.some.inj h
      exact ⟨⟨rfl, rfl⟩, H⟩
theorem s_X3_withTold_fr {M : fM} {l1 l2 : Int} {r : ((Int ⊕ Unit) × fM)} (h : s_X3_withTold M l1 l2 = some r) : fSame s_X3_withTold_mods M r.2 := by
  unfold s_X3_withTold at h
  by_cases c : ¬ (fand (fshr l1 l2) 1) = 1
  · replace h := fps c h
    obtain rfl := Option.some.inj h
    exact fs_refl
  · replace h := fng c h
    obtain ⟨y14, hy, h⟩ := fbd h
    have k14 := fs_trans (l := s_X3_withTold_mods) fs_refl (fs_mono (l := s_X10_fail_mods) (by decide) (s_X10_fail_fr hy))
    obtain ⟨w14, ew, h⟩ | ⟨ew, h⟩ := fel_of h
    · obtain rfl := Option.some.inj h
      exact k14
    · obtain rfl := Option.some.inj h
      exact k14
abbrev s_X10_numberHere_mods : List (Nat × Option Nat) := [(1, some 9), (1, some 10)]
noncomputable def s_X10_numberHere_j29 (M : fM) : Option ((Int ⊕ Unit) × fM) :=
  (s_X10_fail M 2).bind fun y31 =>
    fel y31.1
      (fun w31 =>
        some (.inl (y31.2 1 7), y31.2))
      (some (.inr (), y31.2))
theorem s_X10_numberHere_j29_ok {d L : Nat} {M : fM} {o1 o2 : Option fV} {r : ((Int ⊕ Unit) × fM)} {Q : fO → fH → Prop} (h : s_X10_numberHere_j29 M = some r) (H : Q (oT oI 1 r.1) (156, fjl L, r.2)) : Wp (d + 8, 145, 29, 0, 0, [some (fA 1), o1, o2], []) (156, fjl L, M) Q := by
  unfold s_X10_numberHere_j29 at h
  refine Wp.run 2 (f' := (d + 8, 145, 31, 0, 0, [some (fA 1), _, _], [fI 2, fA 1])) (h' := (156, fjl L, M)) rfl trivial ?_
  obtain ⟨y31, hy, h⟩ := fbd h
  refine Wp.call rfl (by decide) (s_X10_fail_ok (d := d + 0) hy ?_)
  obtain ⟨w31, ew, h⟩ | ⟨ew, h⟩ := fel_of h
  · rw [ew]
    show Wp (d + 8, 145, 34, 0, 0, [some (fA 1), _, _], []) (156, fjl L, y31.2) Q
    refine Wp.run 2 (f' := (d + 8, 145, 38, 0, 0, [_, _, _], [fI (y31.2 1 7)])) (h' := (156, fjl L, y31.2)) rfl trivial ?_
    obtain rfl := Option.some.inj h
    exact Wp.done rfl (by decide) H
  · rw [ew]
    obtain rfl := Option.some.inj h
    exact ⟨⟨rfl, rfl⟩, H⟩
theorem s_X10_numberHere_j29_fr {M : fM} {r : ((Int ⊕ Unit) × fM)} (h : s_X10_numberHere_j29 M = some r) : fSame s_X10_numberHere_mods M r.2 := by
  unfold s_X10_numberHere_j29 at h
  obtain ⟨y31, hy, h⟩ := fbd h
  have k31 := fs_trans (l := s_X10_numberHere_mods) fs_refl (fs_mono (l := s_X10_fail_mods) (by decide) (s_X10_fail_fr hy))
  obtain ⟨w31, ew, h⟩ | ⟨ew, h⟩ := fel_of h
  · obtain rfl := Option.some.inj h
    exact k31
  · obtain rfl := Option.some.inj h
    exact k31
noncomputable def s_X10_numberHere_j13 (M : fM) (l1 l2 : Int) : Option ((Int ⊕ Unit) × fM) :=
  if (M 1 7) < l1 then
    s_X10_numberHere_j29 M
  else
    if (M 1 7) ≤ l2 then
      some (.inl (M 1 7), M)
    else
      s_X10_numberHere_j29 M
theorem s_X10_numberHere_j13_ok {d L : Nat} {M : fM} {l1 l2 : Int} {r : ((Int ⊕ Unit) × fM)} {Q : fO → fH → Prop} (h : s_X10_numberHere_j13 M l1 l2 = some r) (H : Q (oT oI 1 r.1) (156, fjl L, r.2)) : Wp (d + 8, 145, 13, 0, 0, [some (fA 1), some (fI l1), some (fI l2)], []) (156, fjl L, M) Q := by
  unfold s_X10_numberHere_j13 at h
  refine Wp.run 3 (f' := (d + 8, 145, 18, 0, 0, [some (fA 1), _, some (fI l2)], [fI l1, fI (M 1 7)])) (h' := (156, fjl L, M)) rfl trivial ?_
  refine Wp.br rfl (fun (c : (M 1 7) < l1) => ?_) (fun (c : ¬ ((M 1 7) < l1)) => ?_)
  · replace h := fps c h
    exact s_X10_numberHere_j29_ok h H
  · replace h := fng c h
    refine Wp.run 3 (f' := (d + 8, 145, 26, 0, 0, [some (fA 1), _, _], [fI l2, fI (M 1 7)])) (h' := (156, fjl L, M)) rfl trivial ?_
    refine Wp.br rfl (fun (c : (M 1 7) ≤ l2) => ?_) (fun (c : ¬ ((M 1 7) ≤ l2)) => ?_)
    · replace h := fps c h
      refine Wp.run 2 (f' := (d + 8, 145, 38, 0, 0, [_, _, _], [fI (M 1 7)])) (h' := (156, fjl L, M)) rfl trivial ?_
      obtain rfl := Option.some.inj h
      exact Wp.done rfl (by decide) H
    · replace h := fng c h
      exact s_X10_numberHere_j29_ok h H
theorem s_X10_numberHere_j13_fr {M : fM} {l1 l2 : Int} {r : ((Int ⊕ Unit) × fM)} (h : s_X10_numberHere_j13 M l1 l2 = some r) : fSame s_X10_numberHere_mods M r.2 := by
  unfold s_X10_numberHere_j13 at h
  by_cases c : (M 1 7) < l1
  · replace h := fps c h
    exact fs_trans fs_refl (s_X10_numberHere_j29_fr h)
  · replace h := fng c h
    by_cases c : (M 1 7) ≤ l2
    · replace h := fps c h
      obtain rfl := Option.some.inj h
      exact fs_refl
    · replace h := fng c h
      exact fs_trans fs_refl (s_X10_numberHere_j29_fr h)
noncomputable def s_X10_numberHere (M : fM) (l1 l2 : Int) : Option ((Int ⊕ Unit) × fM) :=
  if (M 1 6) = 3 then
    s_X10_numberHere_j13 M l1 l2
  else
    (s_X10_fail M 1).bind fun y10 =>
      fel y10.1
        (fun w10 =>
          s_X10_numberHere_j13 y10.2 l1 l2)
        (some (.inr (), y10.2))
theorem s_X10_numberHere_ok {d L : Nat} {M : fM} {l1 l2 : Int} {r : ((Int ⊕ Unit) × fM)} {Q : fO → fH → Prop} (h : s_X10_numberHere M l1 l2 = some r) (H : Q (oT oI 1 r.1) (156, fjl L, r.2)) : Wp (d + 8, 145, 0, 0, 0, [some (fA 1), some (fI l1), some (fI l2)], []) (156, fjl L, M) Q := by
  unfold s_X10_numberHere at h
  refine Wp.run 3 (f' := (d + 8, 145, 5, 0, 0, [some (fA 1), some (fI l1), some (fI l2)], [fI 3, fI (M 1 6)])) (h' := (156, fjl L, M)) rfl trivial ?_
  refine Wp.br rfl (fun (c : (M 1 6) = 3) => ?_) (fun (c : ¬ ((M 1 6) = 3)) => ?_)
  · replace h := fps c h
    exact s_X10_numberHere_j13_ok h H
  · replace h := fng c h
    refine Wp.run 2 (f' := (d + 8, 145, 10, 0, 0, [some (fA 1), some (fI l1), some (fI l2)], [fI 1, fA 1])) (h' := (156, fjl L, M)) rfl trivial ?_
    obtain ⟨y10, hy, h⟩ := fbd h
    refine Wp.call rfl (by decide) (s_X10_fail_ok (d := d + 0) hy ?_)
    obtain ⟨w10, ew, h⟩ | ⟨ew, h⟩ := fel_of h
    · rw [ew]
      show Wp (d + 8, 145, 13, 0, 0, [some (fA 1), some (fI l1), some (fI l2)], []) (156, fjl L, y10.2) Q
      exact s_X10_numberHere_j13_ok h H
    · rw [ew]
      obtain rfl := Option.some.inj h
      exact ⟨⟨rfl, rfl⟩, H⟩
theorem s_X10_numberHere_fr {M : fM} {l1 l2 : Int} {r : ((Int ⊕ Unit) × fM)} (h : s_X10_numberHere M l1 l2 = some r) : fSame s_X10_numberHere_mods M r.2 := by
  unfold s_X10_numberHere at h
  by_cases c : (M 1 6) = 3
  · replace h := fps c h
    exact fs_trans fs_refl (s_X10_numberHere_j13_fr h)
  · replace h := fng c h
    obtain ⟨y10, hy, h⟩ := fbd h
    have k10 := fs_trans (l := s_X10_numberHere_mods) fs_refl (fs_mono (l := s_X10_fail_mods) (by decide) (s_X10_fail_fr hy))
    obtain ⟨w10, ew, h⟩ | ⟨ew, h⟩ := fel_of h
    · exact fs_trans k10 (s_X10_numberHere_j13_fr h)
    · obtain rfl := Option.some.inj h
      exact k10
abbrev s_X10_takeNumber_mods : List (Nat × Option Nat) := [(1, some 4), (1, some 5), (1, some 6), (1, some 7), (1, some 8), (1, some 9), (1, some 10)]
noncomputable def s_X10_takeNumber (M : fM) (l1 l2 : Int) : Option ((Int ⊕ Unit) × fM) :=
  (s_X10_take M).bind fun y1 =>
    (s_X10_numberHere y1.2 l1 l2).bind fun y7 =>
      fel y7.1
        (fun w7 =>
          some (.inl w7, y7.2))
        (some (.inr (), y7.2))
theorem s_X10_takeNumber_ok {d L : Nat} {M : fM} {l1 l2 : Int} {r : ((Int ⊕ Unit) × fM)} {Q : fO → fH → Prop} (h : s_X10_takeNumber M l1 l2 = some r) (H : Q (oT oI 1 r.1) (156, fjl L, r.2)) : Wp (d + 9, 143, 0, 0, 0, [some (fA 1), some (fI l1), some (fI l2)], []) (156, fjl L, M) Q := by
  unfold s_X10_takeNumber at h
  refine Wp.run 1 (f' := (d + 9, 143, 1, 0, 0, [some (fA 1), some (fI l1), some (fI l2)], [fA 1])) (h' := (156, fjl L, M)) rfl trivial ?_
  obtain ⟨y1, hy, h⟩ := fbd h
  refine Wp.call rfl (by decide) (s_X10_take_ok (d := d + 6) hy ?_)
  show Wp (d + 9, 143, 4, 0, 0, [some (fA 1), some (fI l1), some (fI l2)], []) (156, fjl L, y1.2) Q
  refine Wp.run 3 (f' := (d + 9, 143, 7, 0, 0, [_, _, _], [fI l2, fI l1, fA 1])) (h' := (156, fjl L, y1.2)) rfl trivial ?_
  obtain ⟨y7, hy, h⟩ := fbd h
  refine Wp.call rfl (by decide) (s_X10_numberHere_ok (d := d + 0) hy ?_)
  obtain ⟨w7, ew, h⟩ | ⟨ew, h⟩ := fel_of h
  · rw [ew]
    show Wp (d + 9, 143, 10, 0, 0, [_, _, _], [fI w7]) (156, fjl L, y7.2) Q
    obtain rfl := Option.some.inj h
    exact Wp.done rfl (by decide) H
  · rw [ew]
    obtain rfl := Option.some.inj h
    exact ⟨⟨rfl, rfl⟩, H⟩
theorem s_X10_takeNumber_fr {M : fM} {l1 l2 : Int} {r : ((Int ⊕ Unit) × fM)} (h : s_X10_takeNumber M l1 l2 = some r) : fSame s_X10_takeNumber_mods M r.2 := by
  unfold s_X10_takeNumber at h
  obtain ⟨y1, hy, h⟩ := fbd h
  have k1 := fs_trans (l := s_X10_takeNumber_mods) fs_refl (fs_mono (l := s_X10_take_mods) (by decide) (s_X10_take_fr hy))
  obtain ⟨y7, hy, h⟩ := fbd h
  have k7 := fs_trans (l := s_X10_takeNumber_mods) k1 (fs_mono (l := s_X10_numberHere_mods) (by decide) (s_X10_numberHere_fr hy))
  obtain ⟨w7, ew, h⟩ | ⟨ew, h⟩ := fel_of h
  · obtain rfl := Option.some.inj h
    exact k7
  · obtain rfl := Option.some.inj h
    exact k7
abbrev s_X3_readDay_mods : List (Nat × Option Nat) := [(1, some 4), (1, some 5), (1, some 6), (1, some 7), (1, some 8), (1, some 9), (1, some 10), (27, some 2), (32, none)]
noncomputable def s_X3_readDay (M : fM) : Option ((Unit ⊕ Unit) × fM) :=
  (s_X3_withTold M (M 27 2) 8).bind fun y8 =>
    fel y8.1
      (fun w8 =>
        (s_X10_takeNumber (fup y8.2 27 2 w8) 0 1440).bind fun y22 =>
          fel y22.1
            (fun w22 =>
              if fin (w22 + 1) then
                (s_X10_takeNumber (fup y22.2 32 4 w22) (w22 + 1) 1440).bind fun y54 =>
                  fel y54.1
                    (fun w54 =>
                      (s_X10_take (fup y54.2 32 5 w54)).bind fun y62 =>
                        some (.inl (), y62.2))
                    (some (.inr (), y54.2))
              else none)
            (some (.inr (), y22.2)))
      (some (.inr (), y8.2))
theorem s_X3_readDay_ok {d L : Nat} {M : fM} {r : ((Unit ⊕ Unit) × fM)} {Q : fO → fH → Prop} (h : s_X3_readDay M = some r) (H : Q (oT oV 1 r.1) (156, fjl L, r.2)) : Wp (d + 10, 55, 0, 0, 0, [some (fA 27), none], []) (156, fjl L, M) Q := by
  unfold s_X3_readDay at h
  refine Wp.run 5 (f' := (d + 10, 55, 8, 0, 0, [some (fA 27), _], [fI 8, fI (M 27 2), fA 27, fA 27])) (h' := (156, fjl L, M)) rfl trivial ?_
  obtain ⟨y8, hy, h⟩ := fbd h
  refine Wp.call rfl (by decide) (s_X3_withTold_ok (d := d + 1) hy ?_)
  obtain ⟨w8, ew, h⟩ | ⟨ew, h⟩ := fel_of h
  · rw [ew]
    show Wp (d + 10, 55, 11, 0, 0, [some (fA 27), _], [fI w8, fA 27]) (156, fjl L, y8.2) Q
    refine Wp.run 5 (f' := (d + 10, 55, 22, 0, 0, [some (fA 27), _], [fI 1440, fI 0, fA 1])) (h' := (156, fjl L, (fup y8.2 27 2 w8))) rfl trivial ?_
    obtain ⟨y22, hy, h⟩ := fbd h
    refine Wp.call rfl (by decide) (s_X10_takeNumber_ok (d := d + 0) hy ?_)
    obtain ⟨w22, ew, h⟩ | ⟨ew, h⟩ := fel_of h
    · rw [ew]
      show Wp (d + 10, 55, 25, 0, 0, [some (fA 27), _], [fI w22]) (156, fjl L, y22.2) Q
      obtain ⟨g0, h⟩ := fgd h
      refine Wp.run 17 (P := [(0 : Int) ≤ 4 ∧ (4 : Int) < 6]) (f' := (d + 10, 55, 54, 0, 0, [some (fA 27), _], [fI 1440, fI (fw (w22 + 1)), fA 1, fI 5, fA 32])) (h' := (156, fjl L, (fup y22.2 32 4 w22))) rfl ?_ ?_
      · exact (by decide : (0 : Int) ≤ 4 ∧ (4 : Int) < 6)
      rw [fw_id g0]
      obtain ⟨y54, hy, h⟩ := fbd h
      refine Wp.call rfl (by decide) (s_X10_takeNumber_ok (d := d + 0) hy ?_)
      obtain ⟨w54, ew, h⟩ | ⟨ew, h⟩ := fel_of h
      · rw [ew]
        show Wp (d + 10, 55, 57, 0, 0, [some (fA 27), _], [fI w54, fI 5, fA 32]) (156, fjl L, y54.2) Q
        refine Wp.run 3 (P := [(0 : Int) ≤ 5 ∧ (5 : Int) < 6]) (f' := (d + 10, 55, 62, 0, 0, [_, _], [fA 1])) (h' := (156, fjl L, (fup y54.2 32 5 w54))) rfl ?_ ?_
        · exact (by decide : (0 : Int) ≤ 5 ∧ (5 : Int) < 6)
        obtain ⟨y62, hy, h⟩ := fbd h
        refine Wp.call rfl (by decide) (s_X10_take_ok (d := d + 7) hy ?_)
        show Wp (d + 10, 55, 65, 0, 0, [_, _], []) (156, fjl L, y62.2) Q
        obtain rfl := Option.some.inj h
        exact Wp.done rfl (by decide) H
      · rw [ew]
        obtain rfl := Option.some.inj h
        exact ⟨⟨rfl, rfl⟩, H⟩
    · rw [ew]
      obtain rfl := Option.some.inj h
      exact ⟨⟨rfl, rfl⟩, H⟩
  · rw [ew]
    obtain rfl := Option.some.inj h
    exact ⟨⟨rfl, rfl⟩, H⟩
theorem s_X3_readDay_fr {M : fM} {r : ((Unit ⊕ Unit) × fM)} (h : s_X3_readDay M = some r) : fSame s_X3_readDay_mods M r.2 := by
  unfold s_X3_readDay at h
  obtain ⟨y8, hy, h⟩ := fbd h
  have k8 := fs_trans (l := s_X3_readDay_mods) fs_refl (fs_mono (l := s_X3_withTold_mods) (by decide) (s_X3_withTold_fr hy))
  obtain ⟨w8, ew, h⟩ | ⟨ew, h⟩ := fel_of h
  · obtain ⟨y22, hy, h⟩ := fbd h
    have k22 := fs_trans (l := s_X3_readDay_mods) (fs_up k8 (.inr (by decide))) (fs_mono (l := s_X10_takeNumber_mods) (by decide) (s_X10_takeNumber_fr hy))
    obtain ⟨w22, ew, h⟩ | ⟨ew, h⟩ := fel_of h
    · replace h := (fgd h).2
      obtain ⟨y54, hy, h⟩ := fbd h
      have k54 := fs_trans (l := s_X3_readDay_mods) (fs_up k22 (.inl (by decide))) (fs_mono (l := s_X10_takeNumber_mods) (by decide) (s_X10_takeNumber_fr hy))
      obtain ⟨w54, ew, h⟩ | ⟨ew, h⟩ := fel_of h
      · obtain ⟨y62, hy, h⟩ := fbd h
        have k62 := fs_trans (l := s_X3_readDay_mods) (fs_up k54 (.inl (by decide))) (fs_mono (l := s_X10_take_mods) (by decide) (s_X10_take_fr hy))
        obtain rfl := Option.some.inj h
        exact k62
      · obtain rfl := Option.some.inj h
        exact k54
    · obtain rfl := Option.some.inj h
      exact k22
  · obtain rfl := Option.some.inj h
    exact k8
abbrev s_X3_readRule_mods : List (Nat × Option Nat) := [(1, some 4), (1, some 5), (1, some 6), (1, some 7), (1, some 8), (1, some 9), (1, some 10), (27, some 2), (32, none)]
noncomputable def s_X3_readRule (M : fM) (l1 l2 l3 l4 : Int) : Option ((Unit ⊕ Unit) × fM) :=
  (s_X3_withTold M (M 27 2) l1).bind fun y7 =>
    fel y7.1
      (fun w7 =>
        (s_X10_takeNumber (fup y7.2 27 2 w7) l3 l4).bind fun y28 =>
          fel y28.1
            (fun w28 =>
              if (0 ≤ l2 ∧ l2 < 6) then
                (s_X10_take (fup y28.2 32 (l2).toNat w28)).bind fun y36 =>
                  some (.inl (), y36.2)
              else none)
            (some (.inr (), y28.2)))
      (some (.inr (), y7.2))
theorem s_X3_readRule_ok {d L : Nat} {M : fM} {l1 l2 l3 l4 : Int} {r : ((Unit ⊕ Unit) × fM)} {Q : fO → fH → Prop} (h : s_X3_readRule M l1 l2 l3 l4 = some r) (H : Q (oT oV 1 r.1) (156, fjl L, r.2)) : Wp (d + 10, 54, 0, 0, 0, [some (fA 27), some (fI l1), some (fI l2), some (fI l3), some (fI l4)], []) (156, fjl L, M) Q := by
  unfold s_X3_readRule at h
  refine Wp.run 5 (f' := (d + 10, 54, 7, 0, 0, [some (fA 27), _, some (fI l2), some (fI l3), some (fI l4)], [fI l1, fI (M 27 2), fA 27, fA 27])) (h' := (156, fjl L, M)) rfl trivial ?_
  obtain ⟨y7, hy, h⟩ := fbd h
  refine Wp.call rfl (by decide) (s_X3_withTold_ok (d := d + 1) hy ?_)
  obtain ⟨w7, ew, h⟩ | ⟨ew, h⟩ := fel_of h
  · rw [ew]
    show Wp (d + 10, 54, 10, 0, 0, [some (fA 27), _, some (fI l2), some (fI l3), some (fI l4)], [fI w7, fA 27]) (156, fjl L, y7.2) Q
    refine Wp.run 9 (f' := (d + 10, 54, 28, 0, 0, [some (fA 27), _, _, _, _], [fI l4, fI l3, fA 1, fI l2, fA 32])) (h' := (156, fjl L, (fup y7.2 27 2 w7))) rfl trivial ?_
    obtain ⟨y28, hy, h⟩ := fbd h
    refine Wp.call rfl (by decide) (s_X10_takeNumber_ok (d := d + 0) hy ?_)
    obtain ⟨w28, ew, h⟩ | ⟨ew, h⟩ := fel_of h
    · rw [ew]
      show Wp (d + 10, 54, 31, 0, 0, [some (fA 27), _, _, _, _], [fI w28, fI l2, fA 32]) (156, fjl L, y28.2) Q
      obtain ⟨g0, h⟩ := fgd h
      refine Wp.run 3 (P := [0 ≤ l2 ∧ l2 < 6]) (f' := (d + 10, 54, 36, 0, 0, [_, _, _, _, _], [fA 1])) (h' := (156, fjl L, (fup y28.2 32 (l2).toNat w28))) rfl ?_ ?_
      · exact g0
      obtain ⟨y36, hy, h⟩ := fbd h
      refine Wp.call rfl (by decide) (s_X10_take_ok (d := d + 7) hy ?_)
      show Wp (d + 10, 54, 39, 0, 0, [_, _, _, _, _], []) (156, fjl L, y36.2) Q
      obtain rfl := Option.some.inj h
      exact Wp.done rfl (by decide) H
    · rw [ew]
      obtain rfl := Option.some.inj h
      exact ⟨⟨rfl, rfl⟩, H⟩
  · rw [ew]
    obtain rfl := Option.some.inj h
    exact ⟨⟨rfl, rfl⟩, H⟩
theorem s_X3_readRule_fr {M : fM} {l1 l2 l3 l4 : Int} {r : ((Unit ⊕ Unit) × fM)} (h : s_X3_readRule M l1 l2 l3 l4 = some r) : fSame s_X3_readRule_mods M r.2 := by
  unfold s_X3_readRule at h
  obtain ⟨y7, hy, h⟩ := fbd h
  have k7 := fs_trans (l := s_X3_readRule_mods) fs_refl (fs_mono (l := s_X3_withTold_mods) (by decide) (s_X3_withTold_fr hy))
  obtain ⟨w7, ew, h⟩ | ⟨ew, h⟩ := fel_of h
  · obtain ⟨y28, hy, h⟩ := fbd h
    have k28 := fs_trans (l := s_X3_readRule_mods) (fs_up k7 (.inr (by decide))) (fs_mono (l := s_X10_takeNumber_mods) (by decide) (s_X10_takeNumber_fr hy))
    obtain ⟨w28, ew, h⟩ | ⟨ew, h⟩ := fel_of h
    · replace h := (fgd h).2
      obtain ⟨y36, hy, h⟩ := fbd h
      have k36 := fs_trans (l := s_X3_readRule_mods) (fs_up k28 (.inl (by decide))) (fs_mono (l := s_X10_take_mods) (by decide) (s_X10_take_fr hy))
      obtain rfl := Option.some.inj h
      exact k36
    · obtain rfl := Option.some.inj h
      exact k28
  · obtain rfl := Option.some.inj h
    exact k7
abbrev s_X3_mustHaveRoom_mods : List (Nat × Option Nat) := [(1, some 9), (1, some 10)]
noncomputable def s_X3_mustHaveRoom (M : fM) (l1 l2 : Int) : Option ((Unit ⊕ Unit) × fM) :=
  if l1 < l2 then
    some (.inl (), M)
  else
    (s_X10_fail M 4).bind fun y10 =>
      fel y10.1
        (fun w10 =>
          some (.inl (), y10.2))
        (some (.inr (), y10.2))
theorem s_X3_mustHaveRoom_ok {d L : Nat} {M : fM} {l1 l2 : Int} {r : ((Unit ⊕ Unit) × fM)} {Q : fO → fH → Prop} (h : s_X3_mustHaveRoom M l1 l2 = some r) (H : Q (oT oV 1 r.1) (156, fjl L, r.2)) : Wp (d + 8, 56, 0, 0, 0, [some (fA 27), some (fI l1), some (fI l2)], []) (156, fjl L, M) Q := by
  unfold s_X3_mustHaveRoom at h
  refine Wp.run 2 (f' := (d + 8, 56, 2, 0, 0, [some (fA 27), _, _], [fI l2, fI l1])) (h' := (156, fjl L, M)) rfl trivial ?_
  refine Wp.br rfl (fun (c : l1 < l2) => ?_) (fun (c : ¬ (l1 < l2)) => ?_)
  · replace h := fps c h
    obtain rfl := Option.some.inj h
    exact Wp.done rfl (by decide) H
  · replace h := fng c h
    refine Wp.run 3 (f' := (d + 8, 56, 10, 0, 0, [_, _, _], [fI 4, fA 1])) (h' := (156, fjl L, M)) rfl trivial ?_
    obtain ⟨y10, hy, h⟩ := fbd h
    refine Wp.call rfl (by decide) (s_X10_fail_ok (d := d + 0) hy ?_)
    obtain ⟨w10, ew, h⟩ | ⟨ew, h⟩ := fel_of h
    · rw [ew]
      show Wp (d + 8, 56, 13, 0, 0, [_, _, _], []) (156, fjl L, y10.2) Q
      obtain rfl := Option.some.inj h
      exact Wp.done rfl (by decide) H
    · rw [ew]
      obtain rfl := Option.some.inj h
      exact ⟨⟨rfl, rfl⟩, H⟩
theorem s_X3_mustHaveRoom_fr {M : fM} {l1 l2 : Int} {r : ((Unit ⊕ Unit) × fM)} (h : s_X3_mustHaveRoom M l1 l2 = some r) : fSame s_X3_mustHaveRoom_mods M r.2 := by
  unfold s_X3_mustHaveRoom at h
  by_cases c : l1 < l2
  · replace h := fps c h
    obtain rfl := Option.some.inj h
    exact fs_refl
  · replace h := fng c h
    obtain ⟨y10, hy, h⟩ := fbd h
    have k10 := fs_trans (l := s_X3_mustHaveRoom_mods) fs_refl (fs_mono (l := s_X10_fail_mods) (by decide) (s_X10_fail_fr hy))
    obtain ⟨w10, ew, h⟩ | ⟨ew, h⟩ := fel_of h
    · obtain rfl := Option.some.inj h
      exact k10
    · obtain rfl := Option.some.inj h
      exact k10
abbrev s_X10_takeKind_mods : List (Nat × Option Nat) := [(1, some 4), (1, some 5), (1, some 6), (1, some 7), (1, some 8), (1, some 9), (1, some 10)]
noncomputable def s_X10_takeKind_j21 (M : fM) (l1 : Int) : Option ((Int ⊕ Unit) × fM) :=
  (s_X10_fail M 1).bind fun y23 =>
    fel y23.1
      (fun w23 =>
        if fin (l1 - 14) then
          some (.inl (l1 - 14), y23.2)
        else none)
      (some (.inr (), y23.2))
theorem s_X10_takeKind_j21_ok {d L : Nat} {M : fM} {l1 : Int} {r : ((Int ⊕ Unit) × fM)} {Q : fO → fH → Prop} (h : s_X10_takeKind_j21 M l1 = some r) (H : Q (oT oI 1 r.1) (156, fjl L, r.2)) : Wp (d + 8, 147, 21, 0, 0, [some (fA 1), some (fI l1)], []) (156, fjl L, M) Q := by
  unfold s_X10_takeKind_j21 at h
  refine Wp.run 2 (f' := (d + 8, 147, 23, 0, 0, [_, some (fI l1)], [fI 1, fA 1])) (h' := (156, fjl L, M)) rfl trivial ?_
  obtain ⟨y23, hy, h⟩ := fbd h
  refine Wp.call rfl (by decide) (s_X10_fail_ok (d := d + 0) hy ?_)
  obtain ⟨w23, ew, h⟩ | ⟨ew, h⟩ := fel_of h
  · rw [ew]
    show Wp (d + 8, 147, 26, 0, 0, [_, some (fI l1)], []) (156, fjl L, y23.2) Q
    obtain ⟨g0, h⟩ := fgd h
    refine Wp.run 3 (f' := (d + 8, 147, 30, 0, 0, [_, _], [fI (fw (l1 - 14))])) (h' := (156, fjl L, y23.2)) rfl trivial ?_
    rw [fw_id g0]
    obtain rfl := Option.some.inj h
    exact Wp.done rfl (by decide) H
  · rw [ew]
    obtain rfl := Option.some.inj h
    exact ⟨⟨rfl, rfl⟩, H⟩
theorem s_X10_takeKind_j21_fr {M : fM} {l1 : Int} {r : ((Int ⊕ Unit) × fM)} (h : s_X10_takeKind_j21 M l1 = some r) : fSame s_X10_takeKind_mods M r.2 := by
  unfold s_X10_takeKind_j21 at h
  obtain ⟨y23, hy, h⟩ := fbd h
  have k23 := fs_trans (l := s_X10_takeKind_mods) fs_refl (fs_mono (l := s_X10_fail_mods) (by decide) (s_X10_fail_fr hy))
  obtain ⟨w23, ew, h⟩ | ⟨ew, h⟩ := fel_of h
  · replace h := (fgd h).2
    obtain rfl := Option.some.inj h
    exact k23
  · obtain rfl := Option.some.inj h
    exact k23
noncomputable def s_X10_takeKind (M : fM) : Option ((Int ⊕ Unit) × fM) :=
  (s_X10_take M).bind fun y1 =>
    (s_X10_keywordHere y1.2).bind fun y5 =>
      if y5 < 14 then
        s_X10_takeKind_j21 y1.2 y5
      else
        if y5 ≤ 16 then
          if fin (y5 - 14) then
            some (.inl (y5 - 14), y1.2)
          else none
        else
          s_X10_takeKind_j21 y1.2 y5
theorem s_X10_takeKind_ok {d L : Nat} {M : fM} {r : ((Int ⊕ Unit) × fM)} {Q : fO → fH → Prop} (h : s_X10_takeKind M = some r) (H : Q (oT oI 1 r.1) (156, fjl L, r.2)) : Wp (d + 8, 147, 0, 0, 0, [some (fA 1), none], []) (156, fjl L, M) Q := by
  unfold s_X10_takeKind at h
  refine Wp.run 1 (f' := (d + 8, 147, 1, 0, 0, [some (fA 1), _], [fA 1])) (h' := (156, fjl L, M)) rfl trivial ?_
  obtain ⟨y1, hy, h⟩ := fbd h
  refine Wp.call rfl (by decide) (s_X10_take_ok (d := d + 5) hy ?_)
  show Wp (d + 8, 147, 4, 0, 0, [some (fA 1), _], []) (156, fjl L, y1.2) Q
  refine Wp.run 1 (f' := (d + 8, 147, 5, 0, 0, [some (fA 1), _], [fA 1])) (h' := (156, fjl L, y1.2)) rfl trivial ?_
  obtain ⟨y5, hy, h⟩ := fbd h
  refine Wp.call rfl (by decide) (s_X10_keywordHere_ok (d := d + 7) hy ?_)
  show Wp (d + 8, 147, 8, 0, 0, [some (fA 1), _], [fI y5]) (156, fjl L, y1.2) Q
  refine Wp.run 3 (f' := (d + 8, 147, 12, 0, 0, [some (fA 1), some (fI y5)], [fI 14, fI y5])) (h' := (156, fjl L, y1.2)) rfl trivial ?_
  refine Wp.br rfl (fun (c : y5 < 14) => ?_) (fun (c : ¬ (y5 < 14)) => ?_)
  · replace h := fps c h
    exact s_X10_takeKind_j21_ok h H
  · replace h := fng c h
    refine Wp.run 2 (f' := (d + 8, 147, 18, 0, 0, [some (fA 1), some (fI y5)], [fI 16, fI y5])) (h' := (156, fjl L, y1.2)) rfl trivial ?_
    refine Wp.br rfl (fun (c : y5 ≤ 16) => ?_) (fun (c : ¬ (y5 ≤ 16)) => ?_)
    · replace h := fps c h
      obtain ⟨g0, h⟩ := fgd h
      refine Wp.run 3 (f' := (d + 8, 147, 30, 0, 0, [_, _], [fI (fw (y5 - 14))])) (h' := (156, fjl L, y1.2)) rfl trivial ?_
      rw [fw_id g0]
      obtain rfl := Option.some.inj h
      exact Wp.done rfl (by decide) H
    · replace h := fng c h
      exact s_X10_takeKind_j21_ok h H
theorem s_X10_takeKind_fr {M : fM} {r : ((Int ⊕ Unit) × fM)} (h : s_X10_takeKind M = some r) : fSame s_X10_takeKind_mods M r.2 := by
  unfold s_X10_takeKind at h
  obtain ⟨y1, hy, h⟩ := fbd h
  have k1 := fs_trans (l := s_X10_takeKind_mods) fs_refl (fs_mono (l := s_X10_take_mods) (by decide) (s_X10_take_fr hy))
  obtain ⟨y5, hy, h⟩ := fbd h
  by_cases c : y5 < 14
  · replace h := fps c h
    exact fs_trans k1 (s_X10_takeKind_j21_fr h)
  · replace h := fng c h
    by_cases c : y5 ≤ 16
    · replace h := fps c h
      replace h := (fgd h).2
      obtain rfl := Option.some.inj h
      exact k1
    · replace h := fng c h
      exact fs_trans k1 (s_X10_takeKind_j21_fr h)
abbrev s_X3_readFee_mods : List (Nat × Option Nat) := [(1, some 4), (1, some 5), (1, some 6), (1, some 7), (1, some 8), (1, some 9), (1, some 10), (28, some 16), (33, none)]
noncomputable def s_X3_readFee (M : fM) : Option ((Unit ⊕ Unit) × fM) :=
  (s_X3_mustHaveRoom M (M 28 16) 16).bind fun y10 =>
    fel y10.1
      (fun w10 =>
        if fin ((y10.2 28 16) * 3) then
          (s_X10_takeKind y10.2).bind fun y35 =>
            fel y35.1
              (fun w35 =>
                if (0 ≤ ((y10.2 28 16) * 3) ∧ ((y10.2 28 16) * 3) < 48) ∧ fin (((y10.2 28 16) * 3) + 1) then
                  (s_X10_takeNumber (fup y35.2 33 ((y10.2 28 16) * 3).toNat w35) 0 9999).bind fun y57 =>
                    fel y57.1
                      (fun w57 =>
                        if (0 ≤ (((y10.2 28 16) * 3) + 1) ∧ (((y10.2 28 16) * 3) + 1) < 48) ∧ fin (((y10.2 28 16) * 3) + 2) then
                          (s_X10_takeNumber (fup y57.2 33 (((y10.2 28 16) * 3) + 1).toNat w57) 0 363).bind fun y79 =>
                            fel y79.1
                              (fun w79 =>
                                if (0 ≤ (((y10.2 28 16) * 3) + 2) ∧ (((y10.2 28 16) * 3) + 2) < 48) ∧ fin ((y79.2 28 16) + 1) then
                                  (s_X10_take (fup (fup y79.2 33 (((y10.2 28 16) * 3) + 2).toNat w79) 28 16 ((y79.2 28 16) + 1))).bind fun y100 =>
                                    some (.inl (), y100.2)
                                else none)
                              (some (.inr (), y79.2))
                        else none)
                      (some (.inr (), y57.2))
                else none)
              (some (.inr (), y35.2))
        else none)
      (some (.inr (), y10.2))
theorem s_X3_readFee_ok {d L : Nat} {M : fM} {r : ((Unit ⊕ Unit) × fM)} {Q : fO → fH → Prop} (h : s_X3_readFee M = some r) (H : Q (oT oV 1 r.1) (156, fjl L, r.2)) : Wp (d + 10, 53, 0, 0, 0, [some (fA 27), none], []) (156, fjl L, M) Q := by
  unfold s_X3_readFee at h
  refine Wp.run 5 (f' := (d + 10, 53, 10, 0, 0, [some (fA 27), _], [fI 16, fI (M 28 16), fA 27])) (h' := (156, fjl L, M)) rfl trivial ?_
  obtain ⟨y10, hy, h⟩ := fbd h
  refine Wp.call rfl (by decide) (s_X3_mustHaveRoom_ok (d := d + 1) hy ?_)
  obtain ⟨w10, ew, h⟩ | ⟨ew, h⟩ := fel_of h
  · rw [ew]
    show Wp (d + 10, 53, 13, 0, 0, [some (fA 27), _], []) (156, fjl L, y10.2) Q
    obtain ⟨g0, h⟩ := fgd h
    refine Wp.run 12 (f' := (d + 10, 53, 35, 0, 0, [some (fA 27), some (fI (fw ((y10.2 28 16) * 3)))], [fA 1, fI (fw ((y10.2 28 16) * 3)), fA 33])) (h' := (156, fjl L, y10.2)) rfl trivial ?_
    rw [fw_id g0]
    obtain ⟨y35, hy, h⟩ := fbd h
    refine Wp.call rfl (by decide) (s_X10_takeKind_ok (d := d + 1) hy ?_)
    obtain ⟨w35, ew, h⟩ | ⟨ew, h⟩ := fel_of h
    · rw [ew]
      show Wp (d + 10, 53, 38, 0, 0, [some (fA 27), some (fI ((y10.2 28 16) * 3))], [fI w35, fI ((y10.2 28 16) * 3), fA 33]) (156, fjl L, y35.2) Q
      obtain ⟨⟨g0, g1⟩, h⟩ := fgd h
      refine Wp.run 11 (P := [0 ≤ ((y10.2 28 16) * 3) ∧ ((y10.2 28 16) * 3) < 48]) (f' := (d + 10, 53, 57, 0, 0, [some (fA 27), some (fI ((y10.2 28 16) * 3))], [fI 9999, fI 0, fA 1, fI (fw (((y10.2 28 16) * 3) + 1)), fA 33])) (h' := (156, fjl L, (fup y35.2 33 ((y10.2 28 16) * 3).toNat w35))) rfl ?_ ?_
      · exact g0
      rw [fw_id g1]
      obtain ⟨y57, hy, h⟩ := fbd h
      refine Wp.call rfl (by decide) (s_X10_takeNumber_ok (d := d + 0) hy ?_)
      obtain ⟨w57, ew, h⟩ | ⟨ew, h⟩ := fel_of h
      · rw [ew]
        show Wp (d + 10, 53, 60, 0, 0, [some (fA 27), some (fI ((y10.2 28 16) * 3))], [fI w57, fI (((y10.2 28 16) * 3) + 1), fA 33]) (156, fjl L, y57.2) Q
        obtain ⟨⟨g0, g1⟩, h⟩ := fgd h
        refine Wp.run 11 (P := [0 ≤ (((y10.2 28 16) * 3) + 1) ∧ (((y10.2 28 16) * 3) + 1) < 48]) (f' := (d + 10, 53, 79, 0, 0, [some (fA 27), _], [fI 363, fI 0, fA 1, fI (fw (((y10.2 28 16) * 3) + 2)), fA 33])) (h' := (156, fjl L, (fup y57.2 33 (((y10.2 28 16) * 3) + 1).toNat w57))) rfl ?_ ?_
        · exact g0
        rw [fw_id g1]
        obtain ⟨y79, hy, h⟩ := fbd h
        refine Wp.call rfl (by decide) (s_X10_takeNumber_ok (d := d + 0) hy ?_)
        obtain ⟨w79, ew, h⟩ | ⟨ew, h⟩ := fel_of h
        · rw [ew]
          show Wp (d + 10, 53, 82, 0, 0, [some (fA 27), _], [fI w79, fI (((y10.2 28 16) * 3) + 2), fA 33]) (156, fjl L, y79.2) Q
          obtain ⟨⟨g0, g1⟩, h⟩ := fgd h
          refine Wp.run 10 (P := [0 ≤ (((y10.2 28 16) * 3) + 2) ∧ (((y10.2 28 16) * 3) + 2) < 48]) (f' := (d + 10, 53, 100, 0, 0, [_, _], [fA 1])) (h' := (156, fjl L, (fup (fup y79.2 33 (((y10.2 28 16) * 3) + 2).toNat w79) 28 16 (fw ((y79.2 28 16) + 1))))) rfl ?_ ?_
          · exact g0
          rw [fw_id g1]
          obtain ⟨y100, hy, h⟩ := fbd h
          refine Wp.call rfl (by decide) (s_X10_take_ok (d := d + 7) hy ?_)
          show Wp (d + 10, 53, 103, 0, 0, [_, _], []) (156, fjl L, y100.2) Q
          obtain rfl := Option.some.inj h
          exact Wp.done rfl (by decide) H
        · rw [ew]
          obtain rfl := Option.some.inj h
          exact ⟨⟨rfl, rfl⟩, H⟩
      · rw [ew]
        obtain rfl := Option.some.inj h
        exact ⟨⟨rfl, rfl⟩, H⟩
    · rw [ew]
      obtain rfl := Option.some.inj h
      exact ⟨⟨rfl, rfl⟩, H⟩
  · rw [ew]
    obtain rfl := Option.some.inj h
    exact ⟨⟨rfl, rfl⟩, H⟩
theorem s_X3_readFee_fr {M : fM} {r : ((Unit ⊕ Unit) × fM)} (h : s_X3_readFee M = some r) : fSame s_X3_readFee_mods M r.2 := by
  unfold s_X3_readFee at h
  obtain ⟨y10, hy, h⟩ := fbd h
  have k10 := fs_trans (l := s_X3_readFee_mods) fs_refl (fs_mono (l := s_X3_mustHaveRoom_mods) (by decide) (s_X3_mustHaveRoom_fr hy))
  obtain ⟨w10, ew, h⟩ | ⟨ew, h⟩ := fel_of h
  · replace h := (fgd h).2
    obtain ⟨y35, hy, h⟩ := fbd h
    have k35 := fs_trans (l := s_X3_readFee_mods) k10 (fs_mono (l := s_X10_takeKind_mods) (by decide) (s_X10_takeKind_fr hy))
    obtain ⟨w35, ew, h⟩ | ⟨ew, h⟩ := fel_of h
    · replace h := (fgd h).2
      obtain ⟨y57, hy, h⟩ := fbd h
      have k57 := fs_trans (l := s_X3_readFee_mods) (fs_up k35 (.inl (by decide))) (fs_mono (l := s_X10_takeNumber_mods) (by decide) (s_X10_takeNumber_fr hy))
      obtain ⟨w57, ew, h⟩ | ⟨ew, h⟩ := fel_of h
      · replace h := (fgd h).2
        obtain ⟨y79, hy, h⟩ := fbd h
        have k79 := fs_trans (l := s_X3_readFee_mods) (fs_up k57 (.inl (by decide))) (fs_mono (l := s_X10_takeNumber_mods) (by decide) (s_X10_takeNumber_fr hy))
        obtain ⟨w79, ew, h⟩ | ⟨ew, h⟩ := fel_of h
        · replace h := (fgd h).2
          obtain ⟨y100, hy, h⟩ := fbd h
          have k100 := fs_trans (l := s_X3_readFee_mods) (fs_up (fs_up k79 (.inl (by decide))) (.inr (by decide))) (fs_mono (l := s_X10_take_mods) (by decide) (s_X10_take_fr hy))
          obtain rfl := Option.some.inj h
          exact k100
        · obtain rfl := Option.some.inj h
          exact k79
      · obtain rfl := Option.some.inj h
        exact k57
    · obtain rfl := Option.some.inj h
      exact k35
  · obtain rfl := Option.some.inj h
    exact k10
abbrev s_X3_readTerm_mods : List (Nat × Option Nat) := [(1, some 4), (1, some 5), (1, some 6), (1, some 7), (1, some 8), (1, some 9), (1, some 10), (31, none)]
noncomputable def s_X3_readTerm_b24 (M : fM) (l2 l3 : Int) : Option ((Int × fM) ⊕ fM) :=
  if l2 < l3 then
    some (.inr M)
  else
    if (0 ≤ l3 ∧ l3 < 52) ∧ fin (l3 + 1) then
      some (.inl ((l3 + 1), (fup M 31 (l3).toNat 1)))
    else none
theorem s_X3_readTerm_b24_ok {d L : Nat} {M : fM} {l2 l3 : Int} {o1 : Option fV} {r : ((Int × fM) ⊕ fM)} {Q : fO → fH → Prop} (h : s_X3_readTerm_b24 M l2 l3 = some r) (hC : ∀ (l3' : Int) (M' : fM) (o1' : Option fV), r = .inl (l3', M') → Wp (d + 10, 52, 24, 0, 0, [some (fA 27), o1', some (fI l2), some (fI l3')], []) (156, fjl L, M') Q) (hE : ∀ (e : fM) (o1' o2' o3' : Option fV), r = .inr e → Wp (d + 10, 52, 45, 0, 0, [some (fA 27), o1', o2', o3'], []) (156, fjl L, e) Q) : Wp (d + 10, 52, 24, 0, 0, [some (fA 27), o1, some (fI l2), some (fI l3)], []) (156, fjl L, M) Q := by
  unfold s_X3_readTerm_b24 at h
  refine Wp.run 2 (f' := (d + 10, 52, 26, 0, 0, [some (fA 27), _, some (fI l2), some (fI l3)], [fI l2, fI l3])) (h' := (156, fjl L, M)) rfl trivial ?_
  refine Wp.br rfl (fun (c : l2 < l3) => ?_) (fun (c : ¬ (l2 < l3)) => ?_)
  · replace h := fps c h
    exact hE _ _ _ _ (Option.some.inj h).symm
  · replace h := fng c h
    obtain ⟨⟨g0, g1⟩, h⟩ := fgd h
    refine Wp.run 8 (P := [0 ≤ l3 ∧ l3 < 52]) (f' := (d + 10, 52, 24, 0, 0, [some (fA 27), _, some (fI l2), some (fI (fw (l3 + 1)))], [])) (h' := (156, fjl L, (fup M 31 (l3).toNat 1))) rfl ?_ ?_
    · exact g0
    rw [fw_id g1]
    exact hC _ _ _ (Option.some.inj h).symm
theorem s_X3_readTerm_b24_fr {M : fM} {l2 l3 : Int} {r : ((Int × fM) ⊕ fM)} (h : s_X3_readTerm_b24 M l2 l3 = some r) : fSame s_X3_readTerm_mods M (Sum.elim (fun s => s.2) (fun e => e) r) := by
  unfold s_X3_readTerm_b24 at h
  by_cases c : l2 < l3
  · replace h := fps c h
    obtain rfl := Option.some.inj h
    exact fs_refl
  · replace h := fng c h
    replace h := (fgd h).2
    obtain rfl := Option.some.inj h
    exact fs_up fs_refl (.inl (by decide))
noncomputable def s_X3_readTerm_l24 (l2 : Int) (s : (Int × fM)) : Option fM := fLp (fun s => s_X3_readTerm_b24 s.2 l2 s.1) s
theorem s_X3_readTerm_l24_ok {d L : Nat} {M : fM} {l2 l3 : Int} {o1 : Option fV} {r : fM} {Q : fO → fH → Prop} (h : s_X3_readTerm_l24 l2 (l3, M) = some r) (hE : ∀ (e : fM) (o1' o2' o3' : Option fV), r = e → Wp (d + 10, 52, 45, 0, 0, [some (fA 27), o1', o2', o3'], []) (156, fjl L, e) Q) : Wp (d + 10, 52, 24, 0, 0, [some (fA 27), o1, some (fI l2), some (fI l3)], []) (156, fjl L, M) Q := by
  refine fLp_wp (W := fun s => ∀ (o1 : Option fV), Wp (d + 10, 52, 24, 0, 0, [some (fA 27), o1, some (fI l2), some (fI s.1)], []) (156, fjl L, s.2) Q) (e := r) ?_ h _
  intro s r1 h hC hX o1
  refine s_X3_readTerm_b24_ok (d := d) h (fun a0 a1 _ e1 => ?_) (fun e u0 u1 u2 e1 => hE e u0 u1 u2 (hX _ e1).symm)
  exact hC _ e1 _
theorem s_X3_readTerm_l24_fr {M : fM} {l2 l3 : Int} {r : fM} (h : s_X3_readTerm_l24 l2 (l3, M) = some r) : fSame s_X3_readTerm_mods M ((fun e => e) r) := by
  refine fLp_inv (I := fun s => fSame s_X3_readTerm_mods M s.2) (J := fun r => fSame s_X3_readTerm_mods M ((fun e => e) r)) h fs_refl (fun s s1 hs hb => ?_) (fun s e hs hb => ?_)
  · exact fs_trans hs (s_X3_readTerm_b24_fr hb)
  · exact fs_trans hs (s_X3_readTerm_b24_fr hb)
noncomputable def s_X3_readTerm (M : fM) : Option ((Unit ⊕ Unit) × fM) :=
  (s_X10_takeNumber M 0 51).bind fun y7 =>
    fel y7.1
      (fun w7 =>
        (s_X10_takeNumber y7.2 w7 51).bind fun y18 =>
          fel y18.1
            (fun w18 =>
              (s_X3_readTerm_l24 w18 (w7, y18.2)).bind fun e24 =>
                (s_X10_take e24).bind fun y49 =>
                  some (.inl (), y49.2))
            (some (.inr (), y18.2)))
      (some (.inr (), y7.2))
theorem s_X3_readTerm_ok {d L : Nat} {M : fM} {r : ((Unit ⊕ Unit) × fM)} {Q : fO → fH → Prop} (h : s_X3_readTerm M = some r) (H : Q (oT oV 1 r.1) (156, fjl L, r.2)) : Wp (d + 10, 52, 0, 0, 0, [some (fA 27), none, none, none], []) (156, fjl L, M) Q := by
  unfold s_X3_readTerm at h
  refine Wp.run 4 (f' := (d + 10, 52, 7, 0, 0, [some (fA 27), _, _, _], [fI 51, fI 0, fA 1])) (h' := (156, fjl L, M)) rfl trivial ?_
  obtain ⟨y7, hy, h⟩ := fbd h
  refine Wp.call rfl (by decide) (s_X10_takeNumber_ok (d := d + 0) hy ?_)
  obtain ⟨w7, ew, h⟩ | ⟨ew, h⟩ := fel_of h
  · rw [ew]
    show Wp (d + 10, 52, 10, 0, 0, [some (fA 27), _, _, _], [fI w7]) (156, fjl L, y7.2) Q
    refine Wp.run 5 (f' := (d + 10, 52, 18, 0, 0, [some (fA 27), some (fI w7), _, _], [fI 51, fI w7, fA 1])) (h' := (156, fjl L, y7.2)) rfl trivial ?_
    obtain ⟨y18, hy, h⟩ := fbd h
    refine Wp.call rfl (by decide) (s_X10_takeNumber_ok (d := d + 0) hy ?_)
    obtain ⟨w18, ew, h⟩ | ⟨ew, h⟩ := fel_of h
    · rw [ew]
      show Wp (d + 10, 52, 21, 0, 0, [some (fA 27), some (fI w7), _, _], [fI w18]) (156, fjl L, y18.2) Q
      refine Wp.run 3 (f' := (d + 10, 52, 24, 0, 0, [some (fA 27), _, some (fI w18), some (fI w7)], [])) (h' := (156, fjl L, y18.2)) rfl trivial ?_
      obtain ⟨e24, hy, h⟩ := fbd h
      refine s_X3_readTerm_l24_ok hy (fun x u1 u2 u3 ex => ?_)
      cases ex
      show Wp (d + 10, 52, 45, 0, 0, [some (fA 27), u1, u2, u3], []) (156, fjl L, e24) Q
      refine Wp.run 2 (f' := (d + 10, 52, 49, 0, 0, [_, _, _, _], [fA 1])) (h' := (156, fjl L, e24)) rfl trivial ?_
      obtain ⟨y49, hy, h⟩ := fbd h
      refine Wp.call rfl (by decide) (s_X10_take_ok (d := d + 7) hy ?_)
      show Wp (d + 10, 52, 52, 0, 0, [_, _, _, _], []) (156, fjl L, y49.2) Q
      obtain rfl := Option.some.inj h
      exact Wp.done rfl (by decide) H
    · rw [ew]
      obtain rfl := Option.some.inj h
      exact ⟨⟨rfl, rfl⟩, H⟩
  · rw [ew]
    obtain rfl := Option.some.inj h
    exact ⟨⟨rfl, rfl⟩, H⟩
theorem s_X3_readTerm_fr {M : fM} {r : ((Unit ⊕ Unit) × fM)} (h : s_X3_readTerm M = some r) : fSame s_X3_readTerm_mods M r.2 := by
  unfold s_X3_readTerm at h
  obtain ⟨y7, hy, h⟩ := fbd h
  have k7 := fs_trans (l := s_X3_readTerm_mods) fs_refl (fs_mono (l := s_X10_takeNumber_mods) (by decide) (s_X10_takeNumber_fr hy))
  obtain ⟨w7, ew, h⟩ | ⟨ew, h⟩ := fel_of h
  · obtain ⟨y18, hy, h⟩ := fbd h
    have k18 := fs_trans (l := s_X3_readTerm_mods) k7 (fs_mono (l := s_X10_takeNumber_mods) (by decide) (s_X10_takeNumber_fr hy))
    obtain ⟨w18, ew, h⟩ | ⟨ew, h⟩ := fel_of h
    · obtain ⟨e24, hy, h⟩ := fbd h
      have k24 := fs_trans (l := s_X3_readTerm_mods) k18 (s_X3_readTerm_l24_fr hy)
      obtain ⟨y49, hy, h⟩ := fbd h
      have k49 := fs_trans (l := s_X3_readTerm_mods) k24 (fs_mono (l := s_X10_take_mods) (by decide) (s_X10_take_fr hy))
      obtain rfl := Option.some.inj h
      exact k49
    · obtain rfl := Option.some.inj h
      exact k18
  · obtain rfl := Option.some.inj h
    exact k7
abbrev s_X3_readDamp_mods : List (Nat × Option Nat) := [(1, some 4), (1, some 5), (1, some 6), (1, some 7), (1, some 8), (1, some 9), (1, some 10), (30, none)]
noncomputable def s_X3_readDamp_b36 (M : fM) (l2 l3 l4 : Int) : Option ((Int × fM) ⊕ fM) :=
  if l2 < l4 then
    some (.inr M)
  else
    if (0 ≤ l4 ∧ l4 < 52) ∧ fin (l4 + 1) then
      some (.inl ((l4 + 1), (fup M 30 (l4).toNat l3)))
    else none
theorem s_X3_readDamp_b36_ok {d L : Nat} {M : fM} {l2 l3 l4 : Int} {o1 : Option fV} {r : ((Int × fM) ⊕ fM)} {Q : fO → fH → Prop} (h : s_X3_readDamp_b36 M l2 l3 l4 = some r) (hC : ∀ (l4' : Int) (M' : fM) (o1' : Option fV), r = .inl (l4', M') → Wp (d + 10, 51, 36, 0, 0, [some (fA 27), o1', some (fI l2), some (fI l3), some (fI l4')], []) (156, fjl L, M') Q) (hE : ∀ (e : fM) (o1' o2' o3' o4' : Option fV), r = .inr e → Wp (d + 10, 51, 59, 0, 0, [some (fA 27), o1', o2', o3', o4'], []) (156, fjl L, e) Q) : Wp (d + 10, 51, 36, 0, 0, [some (fA 27), o1, some (fI l2), some (fI l3), some (fI l4)], []) (156, fjl L, M) Q := by
  unfold s_X3_readDamp_b36 at h
  refine Wp.run 2 (f' := (d + 10, 51, 39, 0, 0, [some (fA 27), _, some (fI l2), some (fI l3), some (fI l4)], [fI l2, fI l4])) (h' := (156, fjl L, M)) rfl trivial ?_
  refine Wp.br rfl (fun (c : l2 < l4) => ?_) (fun (c : ¬ (l2 < l4)) => ?_)
  · replace h := fps c h
    exact hE _ _ _ _ _ (Option.some.inj h).symm
  · replace h := fng c h
    obtain ⟨⟨g0, g1⟩, h⟩ := fgd h
    refine Wp.run 8 (P := [0 ≤ l4 ∧ l4 < 52]) (f' := (d + 10, 51, 36, 0, 0, [some (fA 27), _, some (fI l2), some (fI l3), some (fI (fw (l4 + 1)))], [])) (h' := (156, fjl L, (fup M 30 (l4).toNat l3))) rfl ?_ ?_
    · exact g0
    rw [fw_id g1]
    exact hC _ _ _ (Option.some.inj h).symm
theorem s_X3_readDamp_b36_fr {M : fM} {l2 l3 l4 : Int} {r : ((Int × fM) ⊕ fM)} (h : s_X3_readDamp_b36 M l2 l3 l4 = some r) : fSame s_X3_readDamp_mods M (Sum.elim (fun s => s.2) (fun e => e) r) := by
  unfold s_X3_readDamp_b36 at h
  by_cases c : l2 < l4
  · replace h := fps c h
    obtain rfl := Option.some.inj h
    exact fs_refl
  · replace h := fng c h
    replace h := (fgd h).2
    obtain rfl := Option.some.inj h
    exact fs_up fs_refl (.inl (by decide))
noncomputable def s_X3_readDamp_l36 (l2 l3 : Int) (s : (Int × fM)) : Option fM := fLp (fun s => s_X3_readDamp_b36 s.2 l2 l3 s.1) s
theorem s_X3_readDamp_l36_ok {d L : Nat} {M : fM} {l2 l3 l4 : Int} {o1 : Option fV} {r : fM} {Q : fO → fH → Prop} (h : s_X3_readDamp_l36 l2 l3 (l4, M) = some r) (hE : ∀ (e : fM) (o1' o2' o3' o4' : Option fV), r = e → Wp (d + 10, 51, 59, 0, 0, [some (fA 27), o1', o2', o3', o4'], []) (156, fjl L, e) Q) : Wp (d + 10, 51, 36, 0, 0, [some (fA 27), o1, some (fI l2), some (fI l3), some (fI l4)], []) (156, fjl L, M) Q := by
  refine fLp_wp (W := fun s => ∀ (o1 : Option fV), Wp (d + 10, 51, 36, 0, 0, [some (fA 27), o1, some (fI l2), some (fI l3), some (fI s.1)], []) (156, fjl L, s.2) Q) (e := r) ?_ h _
  intro s r1 h hC hX o1
  refine s_X3_readDamp_b36_ok (d := d) h (fun a0 a1 _ e1 => ?_) (fun e u0 u1 u2 u3 e1 => hE e u0 u1 u2 u3 (hX _ e1).symm)
  exact hC _ e1 _
theorem s_X3_readDamp_l36_fr {M : fM} {l2 l3 l4 : Int} {r : fM} (h : s_X3_readDamp_l36 l2 l3 (l4, M) = some r) : fSame s_X3_readDamp_mods M ((fun e => e) r) := by
  refine fLp_inv (I := fun s => fSame s_X3_readDamp_mods M s.2) (J := fun r => fSame s_X3_readDamp_mods M ((fun e => e) r)) h fs_refl (fun s s1 hs hb => ?_) (fun s e hs hb => ?_)
  · exact fs_trans hs (s_X3_readDamp_b36_fr hb)
  · exact fs_trans hs (s_X3_readDamp_b36_fr hb)
noncomputable def s_X3_readDamp (M : fM) : Option ((Unit ⊕ Unit) × fM) :=
  (s_X10_takeNumber M 0 51).bind fun y7 =>
    fel y7.1
      (fun w7 =>
        (s_X10_takeNumber y7.2 w7 51).bind fun y18 =>
          fel y18.1
            (fun w18 =>
              (s_X10_takeNumber y18.2 0 40).bind fun y29 =>
                fel y29.1
                  (fun w29 =>
                    (s_X3_readDamp_l36 w18 w29 (w7, y29.2)).bind fun e36 =>
                      (s_X10_take e36).bind fun y63 =>
                        some (.inl (), y63.2))
                  (some (.inr (), y29.2)))
            (some (.inr (), y18.2)))
      (some (.inr (), y7.2))
theorem s_X3_readDamp_ok {d L : Nat} {M : fM} {r : ((Unit ⊕ Unit) × fM)} {Q : fO → fH → Prop} (h : s_X3_readDamp M = some r) (H : Q (oT oV 1 r.1) (156, fjl L, r.2)) : Wp (d + 10, 51, 0, 0, 0, [some (fA 27), none, none, none, none], []) (156, fjl L, M) Q := by
  unfold s_X3_readDamp at h
  refine Wp.run 4 (f' := (d + 10, 51, 7, 0, 0, [some (fA 27), _, _, _, _], [fI 51, fI 0, fA 1])) (h' := (156, fjl L, M)) rfl trivial ?_
  obtain ⟨y7, hy, h⟩ := fbd h
  refine Wp.call rfl (by decide) (s_X10_takeNumber_ok (d := d + 0) hy ?_)
  obtain ⟨w7, ew, h⟩ | ⟨ew, h⟩ := fel_of h
  · rw [ew]
    show Wp (d + 10, 51, 10, 0, 0, [some (fA 27), _, _, _, _], [fI w7]) (156, fjl L, y7.2) Q
    refine Wp.run 5 (f' := (d + 10, 51, 18, 0, 0, [some (fA 27), some (fI w7), _, _, _], [fI 51, fI w7, fA 1])) (h' := (156, fjl L, y7.2)) rfl trivial ?_
    obtain ⟨y18, hy, h⟩ := fbd h
    refine Wp.call rfl (by decide) (s_X10_takeNumber_ok (d := d + 0) hy ?_)
    obtain ⟨w18, ew, h⟩ | ⟨ew, h⟩ := fel_of h
    · rw [ew]
      show Wp (d + 10, 51, 21, 0, 0, [some (fA 27), some (fI w7), _, _, _], [fI w18]) (156, fjl L, y18.2) Q
      refine Wp.run 5 (f' := (d + 10, 51, 29, 0, 0, [some (fA 27), some (fI w7), some (fI w18), _, _], [fI 40, fI 0, fA 1])) (h' := (156, fjl L, y18.2)) rfl trivial ?_
      obtain ⟨y29, hy, h⟩ := fbd h
      refine Wp.call rfl (by decide) (s_X10_takeNumber_ok (d := d + 0) hy ?_)
      obtain ⟨w29, ew, h⟩ | ⟨ew, h⟩ := fel_of h
      · rw [ew]
        show Wp (d + 10, 51, 32, 0, 0, [some (fA 27), some (fI w7), some (fI w18), _, _], [fI w29]) (156, fjl L, y29.2) Q
        refine Wp.run 3 (f' := (d + 10, 51, 36, 0, 0, [some (fA 27), _, some (fI w18), some (fI w29), some (fI w7)], [])) (h' := (156, fjl L, y29.2)) rfl trivial ?_
        obtain ⟨e36, hy, h⟩ := fbd h
        refine s_X3_readDamp_l36_ok hy (fun x u1 u2 u3 u4 ex => ?_)
        cases ex
        show Wp (d + 10, 51, 59, 0, 0, [some (fA 27), u1, u2, u3, u4], []) (156, fjl L, e36) Q
        refine Wp.run 2 (f' := (d + 10, 51, 63, 0, 0, [_, _, _, _, _], [fA 1])) (h' := (156, fjl L, e36)) rfl trivial ?_
        obtain ⟨y63, hy, h⟩ := fbd h
        refine Wp.call rfl (by decide) (s_X10_take_ok (d := d + 7) hy ?_)
        show Wp (d + 10, 51, 66, 0, 0, [_, _, _, _, _], []) (156, fjl L, y63.2) Q
        obtain rfl := Option.some.inj h
        exact Wp.done rfl (by decide) H
      · rw [ew]
        obtain rfl := Option.some.inj h
        exact ⟨⟨rfl, rfl⟩, H⟩
    · rw [ew]
      obtain rfl := Option.some.inj h
      exact ⟨⟨rfl, rfl⟩, H⟩
  · rw [ew]
    obtain rfl := Option.some.inj h
    exact ⟨⟨rfl, rfl⟩, H⟩
theorem s_X3_readDamp_fr {M : fM} {r : ((Unit ⊕ Unit) × fM)} (h : s_X3_readDamp M = some r) : fSame s_X3_readDamp_mods M r.2 := by
  unfold s_X3_readDamp at h
  obtain ⟨y7, hy, h⟩ := fbd h
  have k7 := fs_trans (l := s_X3_readDamp_mods) fs_refl (fs_mono (l := s_X10_takeNumber_mods) (by decide) (s_X10_takeNumber_fr hy))
  obtain ⟨w7, ew, h⟩ | ⟨ew, h⟩ := fel_of h
  · obtain ⟨y18, hy, h⟩ := fbd h
    have k18 := fs_trans (l := s_X3_readDamp_mods) k7 (fs_mono (l := s_X10_takeNumber_mods) (by decide) (s_X10_takeNumber_fr hy))
    obtain ⟨w18, ew, h⟩ | ⟨ew, h⟩ := fel_of h
    · obtain ⟨y29, hy, h⟩ := fbd h
      have k29 := fs_trans (l := s_X3_readDamp_mods) k18 (fs_mono (l := s_X10_takeNumber_mods) (by decide) (s_X10_takeNumber_fr hy))
      obtain ⟨w29, ew, h⟩ | ⟨ew, h⟩ := fel_of h
      · obtain ⟨e36, hy, h⟩ := fbd h
        have k36 := fs_trans (l := s_X3_readDamp_mods) k29 (s_X3_readDamp_l36_fr hy)
        obtain ⟨y63, hy, h⟩ := fbd h
        have k63 := fs_trans (l := s_X3_readDamp_mods) k36 (fs_mono (l := s_X10_take_mods) (by decide) (s_X10_take_fr hy))
        obtain rfl := Option.some.inj h
        exact k63
      · obtain rfl := Option.some.inj h
        exact k29
    · obtain rfl := Option.some.inj h
      exact k18
  · obtain rfl := Option.some.inj h
    exact k7
noncomputable def s_J9_min (M : fM) (l0 l1 : Int) : Option Int :=
  if l1 < l0 then
    some l1
  else
    some l0
theorem s_J9_min_ok {d L : Nat} {M : fM} {l0 l1 : Int} {r : Int} {Q : fO → fH → Prop} (h : s_J9_min M l0 l1 = some r) (H : Q (oI r) (156, fjl L, M)) : Wp (d + 0, 314, 0, 0, 0, [some (fI l0), some (fI l1)], []) (156, fjl L, M) Q := by
  unfold s_J9_min at h
  refine Wp.run 2 (f' := (d + 0, 314, 2, 0, 0, [some (fI l0), some (fI l1)], [fI l1, fI l0])) (h' := (156, fjl L, M)) rfl trivial ?_
  refine Wp.br rfl (fun (c : l1 < l0) => ?_) (fun (c : ¬ (l1 < l0)) => ?_)
  · replace h := fps c h
    refine Wp.run 1 (f' := (d + 0, 314, 10, 0, 0, [_, _], [fI l1])) (h' := (156, fjl L, M)) rfl trivial ?_
    obtain rfl := Option.some.inj h
    exact Wp.done rfl (by decide) H
  · replace h := fng c h
    refine Wp.run 2 (f' := (d + 0, 314, 10, 0, 0, [_, _], [fI l0])) (h' := (156, fjl L, M)) rfl trivial ?_
    obtain rfl := Option.some.inj h
    exact Wp.done rfl (by decide) H
abbrev s_X3_readTable_mods : List (Nat × Option Nat) := [(1, some 4), (1, some 5), (1, some 6), (1, some 7), (1, some 8), (1, some 9), (1, some 10), (27, some 2), (29, none)]
noncomputable def s_X3_readTable_b49 (M : fM) (l1 l2 l3 : Int) : Option ((Int × Int × fM) ⊕ (fM ⊕ ((Unit ⊕ Unit) × fM))) :=
  if 12 ≤ l3 then
    some (.inr (.inl M))
  else
    if fin (l1 + 1) then
      (s_X10_takeNumber M (l1 + 1) l2).bind fun y63 =>
        fel y63.1
          (fun w63 =>
            if (0 ≤ l3 ∧ l3 < 12) ∧ fin (l3 + 1) then
              some (.inl (w63, (l3 + 1), (fup y63.2 29 (l3).toNat w63)))
            else none)
          (some (.inr (.inr (.inr (), y63.2))))
    else none
theorem s_X3_readTable_b49_ok {d L : Nat} {M : fM} {l1 l2 l3 : Int} {r : ((Int × Int × fM) ⊕ (fM ⊕ ((Unit ⊕ Unit) × fM)))} {Q : fO → fH → Prop} (h : s_X3_readTable_b49 M l1 l2 l3 = some r) (hC : ∀ (l1' l3' : Int) (M' : fM), r = .inl (l1', l3', M') → Wp (d + 10, 50, 49, 0, 0, [some (fA 27), some (fI l1'), some (fI l2), some (fI l3')], []) (156, fjl L, M') Q) (hE : ∀ (e : fM) (o1' o2' o3' : Option fV), r = .inr (.inl e) → Wp (d + 10, 50, 83, 0, 0, [some (fA 27), o1', o2', o3'], []) (156, fjl L, e) Q) (hR : ∀ (v : ((Unit ⊕ Unit) × fM)), r = .inr (.inr v) → Q (oT oV 1 v.1) (156, fjl L, v.2)) : Wp (d + 10, 50, 49, 0, 0, [some (fA 27), some (fI l1), some (fI l2), some (fI l3)], []) (156, fjl L, M) Q := by
  unfold s_X3_readTable_b49 at h
  refine Wp.run 2 (f' := (d + 10, 50, 52, 0, 0, [some (fA 27), some (fI l1), some (fI l2), some (fI l3)], [fI 12, fI l3])) (h' := (156, fjl L, M)) rfl trivial ?_
  refine Wp.br rfl (fun (c : 12 ≤ l3) => ?_) (fun (c : ¬ (12 ≤ l3)) => ?_)
  · replace h := fps c h
    exact hE _ _ _ _ (Option.some.inj h).symm
  · replace h := fng c h
    obtain ⟨g0, h⟩ := fgd h
    refine Wp.run 6 (f' := (d + 10, 50, 63, 0, 0, [some (fA 27), _, some (fI l2), some (fI l3)], [fI l2, fI (fw (l1 + 1)), fA 1])) (h' := (156, fjl L, M)) rfl trivial ?_
    rw [fw_id g0]
    obtain ⟨y63, hy, h⟩ := fbd h
    refine Wp.call rfl (by decide) (s_X10_takeNumber_ok (d := d + 0) hy ?_)
    obtain ⟨w63, ew, h⟩ | ⟨ew, h⟩ := fel_of h
    · rw [ew]
      show Wp (d + 10, 50, 66, 0, 0, [some (fA 27), _, some (fI l2), some (fI l3)], [fI w63]) (156, fjl L, y63.2) Q
      obtain ⟨⟨g0, g1⟩, h⟩ := fgd h
      refine Wp.run 9 (P := [0 ≤ l3 ∧ l3 < 12]) (f' := (d + 10, 50, 49, 0, 0, [some (fA 27), some (fI w63), some (fI l2), some (fI (fw (l3 + 1)))], [])) (h' := (156, fjl L, (fup y63.2 29 (l3).toNat w63))) rfl ?_ ?_
      · exact g0
      rw [fw_id g1]
      exact hC _ _ _ (Option.some.inj h).symm
    · rw [ew]
      exact ⟨⟨rfl, rfl⟩, hR _ (Option.some.inj h).symm⟩
theorem s_X3_readTable_b49_fr {M : fM} {l1 l2 l3 : Int} {r : ((Int × Int × fM) ⊕ (fM ⊕ ((Unit ⊕ Unit) × fM)))} (h : s_X3_readTable_b49 M l1 l2 l3 = some r) : fSame s_X3_readTable_mods M (Sum.elim (fun s => s.2.2) (Sum.elim (fun e => e) (fun v => v.2)) r) := by
  unfold s_X3_readTable_b49 at h
  by_cases c : 12 ≤ l3
  · replace h := fps c h
    obtain rfl := Option.some.inj h
    exact fs_refl
  · replace h := fng c h
    replace h := (fgd h).2
    obtain ⟨y63, hy, h⟩ := fbd h
    have k63 := fs_trans (l := s_X3_readTable_mods) fs_refl (fs_mono (l := s_X10_takeNumber_mods) (by decide) (s_X10_takeNumber_fr hy))
    obtain ⟨w63, ew, h⟩ | ⟨ew, h⟩ := fel_of h
    · replace h := (fgd h).2
      obtain rfl := Option.some.inj h
      exact fs_up k63 (.inl (by decide))
    · obtain rfl := Option.some.inj h
      exact k63
noncomputable def s_X3_readTable_l49 (l2 : Int) (s : (Int × Int × fM)) : Option (fM ⊕ ((Unit ⊕ Unit) × fM)) := fLp (fun s => s_X3_readTable_b49 s.2.2 s.1 l2 s.2.1) s
theorem s_X3_readTable_l49_ok {d L : Nat} {M : fM} {l1 l2 l3 : Int} {r : (fM ⊕ ((Unit ⊕ Unit) × fM))} {Q : fO → fH → Prop} (h : s_X3_readTable_l49 l2 (l1, l3, M) = some r) (hE : ∀ (e : fM) (o1' o2' o3' : Option fV), r = .inl e → Wp (d + 10, 50, 83, 0, 0, [some (fA 27), o1', o2', o3'], []) (156, fjl L, e) Q) (hR : ∀ (v : ((Unit ⊕ Unit) × fM)), r = .inr v → Q (oT oV 1 v.1) (156, fjl L, v.2)) : Wp (d + 10, 50, 49, 0, 0, [some (fA 27), some (fI l1), some (fI l2), some (fI l3)], []) (156, fjl L, M) Q := by
  refine fLp_wp (W := fun s => Wp (d + 10, 50, 49, 0, 0, [some (fA 27), some (fI s.1), some (fI l2), some (fI s.2.1)], []) (156, fjl L, s.2.2) Q) (e := r) ?_ h
  intro s r1 h hC hX
  refine s_X3_readTable_b49_ok (d := d) h (fun a0 a1 a2 e1 => ?_) (fun e u0 u1 u2 e1 => hE e u0 u1 u2 (hX _ e1).symm) (fun v e1 => hR v (hX _ e1).symm)
  exact hC _ e1
theorem s_X3_readTable_l49_fr {M : fM} {l1 l2 l3 : Int} {r : (fM ⊕ ((Unit ⊕ Unit) × fM))} (h : s_X3_readTable_l49 l2 (l1, l3, M) = some r) : fSame s_X3_readTable_mods M ((Sum.elim (fun e => e) (fun v => v.2)) r) := by
  refine fLp_inv (I := fun s => fSame s_X3_readTable_mods M s.2.2) (J := fun r => fSame s_X3_readTable_mods M ((Sum.elim (fun e => e) (fun v => v.2)) r)) h fs_refl (fun s s1 hs hb => ?_) (fun s e hs hb => ?_)
  · exact fs_trans hs (s_X3_readTable_b49_fr hb)
  · exact fs_trans hs (s_X3_readTable_b49_fr hb)
noncomputable def s_X3_readTable (M : fM) : Option ((Unit ⊕ Unit) × fM) :=
  (s_X3_withTold M (M 27 2) 0).bind fun y7 =>
    fel y7.1
      (fun w7 =>
        (s_X10_takeNumber (fup y7.2 27 2 w7) 1000 99999).bind fun y22 =>
          fel y22.1
            (fun w22 =>
              if fin (2 * w22) ∧ fin ((2 * w22) - 1) then
                (s_J9_min y22.2 99999 ((2 * w22) - 1)).bind fun y33 =>
                  (s_X3_readTable_l49 y33 (w22, 1, (fup y22.2 29 0 w22))).bind fun e49 =>
                    Sum.elim (fun x49 =>
                      (s_X10_take x49).bind fun y87 =>
                        some (.inl (), y87.2))
                      (fun v49 => some v49) e49
              else none)
            (some (.inr (), y22.2)))
      (some (.inr (), y7.2))
theorem s_X3_readTable_ok {d L : Nat} {M : fM} {r : ((Unit ⊕ Unit) × fM)} {Q : fO → fH → Prop} (h : s_X3_readTable M = some r) (H : Q (oT oV 1 r.1) (156, fjl L, r.2)) : Wp (d + 10, 50, 0, 0, 0, [some (fA 27), none, none, none], []) (156, fjl L, M) Q := by
  unfold s_X3_readTable at h
  refine Wp.run 5 (f' := (d + 10, 50, 7, 0, 0, [some (fA 27), _, _, _], [fI 0, fI (M 27 2), fA 27, fA 27])) (h' := (156, fjl L, M)) rfl trivial ?_
  obtain ⟨y7, hy, h⟩ := fbd h
  refine Wp.call rfl (by decide) (s_X3_withTold_ok (d := d + 1) hy ?_)
  obtain ⟨w7, ew, h⟩ | ⟨ew, h⟩ := fel_of h
  · rw [ew]
    show Wp (d + 10, 50, 10, 0, 0, [some (fA 27), _, _, _], [fI w7, fA 27]) (156, fjl L, y7.2) Q
    refine Wp.run 5 (f' := (d + 10, 50, 22, 0, 0, [some (fA 27), _, _, _], [fI 99999, fI 1000, fA 1])) (h' := (156, fjl L, (fup y7.2 27 2 w7))) rfl trivial ?_
    obtain ⟨y22, hy, h⟩ := fbd h
    refine Wp.call rfl (by decide) (s_X10_takeNumber_ok (d := d + 0) hy ?_)
    obtain ⟨w22, ew, h⟩ | ⟨ew, h⟩ := fel_of h
    · rw [ew]
      show Wp (d + 10, 50, 25, 0, 0, [some (fA 27), _, _, _], [fI w22]) (156, fjl L, y22.2) Q
      obtain ⟨⟨g0, g1⟩, h⟩ := fgd h
      refine Wp.run 7 (f' := (d + 10, 50, 33, 0, 0, [some (fA 27), some (fI w22), _, _], [fI (fw ((fw (2 * w22)) - 1)), fI 99999])) (h' := (156, fjl L, y22.2)) rfl trivial ?_
      rw [fw_id g0, fw_id g1]
      obtain ⟨y33, hy, h⟩ := fbd h
      refine Wp.call rfl (by decide) (s_J9_min_ok (d := d + 9) hy ?_)
      show Wp (d + 10, 50, 36, 0, 0, [some (fA 27), some (fI w22), _, _], [fI y33]) (156, fjl L, y22.2) Q
      refine Wp.run 9 (P := [(0 : Int) ≤ 0 ∧ (0 : Int) < 12]) (f' := (d + 10, 50, 49, 0, 0, [some (fA 27), some (fI w22), some (fI y33), some (fI 1)], [])) (h' := (156, fjl L, (fup y22.2 29 0 w22))) rfl ?_ ?_
      · exact (by decide : (0 : Int) ≤ 0 ∧ (0 : Int) < 12)
      obtain ⟨e49, hy, h⟩ := fbd h
      refine s_X3_readTable_l49_ok hy (fun x49 u1 u2 u3 ex => ?_) (fun v49 ex => ?_)
      · subst ex
        replace h := fsl h
        show Wp (d + 10, 50, 83, 0, 0, [some (fA 27), u1, u2, u3], []) (156, fjl L, x49) Q
        refine Wp.run 2 (f' := (d + 10, 50, 87, 0, 0, [_, _, _, _], [fA 1])) (h' := (156, fjl L, x49)) rfl trivial ?_
        obtain ⟨y87, hy, h⟩ := fbd h
        refine Wp.call rfl (by decide) (s_X10_take_ok (d := d + 7) hy ?_)
        show Wp (d + 10, 50, 90, 0, 0, [_, _, _, _], []) (156, fjl L, y87.2) Q
        obtain rfl := Option.some.inj h
        exact Wp.done rfl (by decide) H
      · subst ex
        replace h := fsr h
        obtain rfl := Option.some.inj h
        exact H
    · rw [ew]
      obtain rfl := Option.some.inj h
      exact ⟨⟨rfl, rfl⟩, H⟩
  · rw [ew]
    obtain rfl := Option.some.inj h
    exact ⟨⟨rfl, rfl⟩, H⟩
theorem s_X3_readTable_fr {M : fM} {r : ((Unit ⊕ Unit) × fM)} (h : s_X3_readTable M = some r) : fSame s_X3_readTable_mods M r.2 := by
  unfold s_X3_readTable at h
  obtain ⟨y7, hy, h⟩ := fbd h
  have k7 := fs_trans (l := s_X3_readTable_mods) fs_refl (fs_mono (l := s_X3_withTold_mods) (by decide) (s_X3_withTold_fr hy))
  obtain ⟨w7, ew, h⟩ | ⟨ew, h⟩ := fel_of h
  · obtain ⟨y22, hy, h⟩ := fbd h
    have k22 := fs_trans (l := s_X3_readTable_mods) (fs_up k7 (.inr (by decide))) (fs_mono (l := s_X10_takeNumber_mods) (by decide) (s_X10_takeNumber_fr hy))
    obtain ⟨w22, ew, h⟩ | ⟨ew, h⟩ := fel_of h
    · replace h := (fgd h).2
      obtain ⟨y33, hy, h⟩ := fbd h
      obtain ⟨e49, hy, h⟩ := fbd h
      have k49 := fs_trans (l := s_X3_readTable_mods) (fs_up k22 (.inl (by decide))) (s_X3_readTable_l49_fr hy)
      rcases e49 with x49 | v49
      · replace h := fsl h
        obtain ⟨y87, hy, h⟩ := fbd h
        have k87 := fs_trans (l := s_X3_readTable_mods) k49 (fs_mono (l := s_X10_take_mods) (by decide) (s_X10_take_fr hy))
        obtain rfl := Option.some.inj h
        exact k87
      · replace h := fsr h
        obtain rfl := Option.some.inj h
        exact k49
    · obtain rfl := Option.some.inj h
      exact k22
  · obtain rfl := Option.some.inj h
    exact k7
