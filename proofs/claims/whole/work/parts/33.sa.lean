/-! ===== functions of the methods (printed by genfun.py) ===== -/
noncomputable def s_X10_hasRoom (M : fM) (l1 : Int) : Option Int :=
  if fin ((M 1 2) + l1) then
    if 1240 < ((M 1 2) + l1) then
      some 0
    else
      some 1
  else none
theorem s_X10_hasRoom_ok {d L : Nat} {M : fM} {l1 : Int} {r : Int} {Q : fO → fH → Prop} (h : s_X10_hasRoom M l1 = some r) (H : Q (oI r) (156, fjl L, M)) : Wp (d + 0, 131, 0, 0, 0, [some (fA 1), some (fI l1)], []) (156, fjl L, M) Q := by
  unfold s_X10_hasRoom at h
  obtain ⟨g0, h⟩ := fgd h
  refine Wp.run 5 (f' := (d + 0, 131, 9, 0, 0, [_, _], [fI 1240, fI (fw ((M 1 2) + l1))])) (h' := (156, fjl L, M)) rfl trivial ?_
  rw [fw_id g0]
  refine Wp.br rfl (fun (c : 1240 < ((M 1 2) + l1)) => ?_) (fun (c : ¬ (1240 < ((M 1 2) + l1))) => ?_)
  · replace h := fps c h
    refine Wp.run 1 (f' := (d + 0, 131, 17, 0, 0, [_, _], [fI 0])) (h' := (156, fjl L, M)) rfl trivial ?_
    obtain rfl := Option.some.inj h
    exact Wp.done rfl (by decide) H
  · replace h := fng c h
    refine Wp.run 2 (f' := (d + 0, 131, 17, 0, 0, [_, _], [fI 1])) (h' := (156, fjl L, M)) rfl trivial ?_
    obtain rfl := Option.some.inj h
    exact Wp.done rfl (by decide) H
abbrev s_X10_add_mods : List (Nat × Option Nat) := [(1, some 2), (2, none)]
noncomputable def s_X10_add_b3 (M : fM) (l1 l2 : Int) : Option ((Int × fM) ⊕ fM) :=
  if l2 < 0 then
    some (.inr M)
  else
    if 1240 ≤ (M 1 2) then
      some (.inr M)
    else
      if (0 ≤ (M 1 2) ∧ (M 1 2) < 1240) ∧ fin ((M 1 2) + 1) ∧ fin (l2 + (-8)) then
        some (.inl ((l2 + (-8)), (fup (fup M 2 (M 1 2).toNat (fi2b (fi2b (fush l1 l2)))) 1 2 ((M 1 2) + 1))))
      else none
theorem s_X10_add_b3_ok {d L : Nat} {M : fM} {l1 l2 : Int} {r : ((Int × fM) ⊕ fM)} {Q : fO → fH → Prop} (h : s_X10_add_b3 M l1 l2 = some r) (hC : ∀ (l2' : Int) (M' : fM), r = .inl (l2', M') → Wp (d + 0, 132, 3, 0, 0, [some (fA 1), some (fI l1), some (fI l2')], []) (156, fjl L, M') Q) (hE : ∀ (e : fM) (o0' o1' o2' : Option fV), r = .inr e → Wp (d + 0, 132, 46, 0, 0, [o0', o1', o2'], []) (156, fjl L, e) Q) : Wp (d + 0, 132, 3, 0, 0, [some (fA 1), some (fI l1), some (fI l2)], []) (156, fjl L, M) Q := by
  unfold s_X10_add_b3 at h
  refine Wp.run 1 (f' := (d + 0, 132, 4, 0, 0, [some (fA 1), some (fI l1), some (fI l2)], [fI l2])) (h' := (156, fjl L, M)) rfl trivial ?_
  refine Wp.br rfl (fun (c : l2 < 0) => ?_) (fun (c : ¬ (l2 < 0)) => ?_)
  · replace h := fps c h
    exact hE _ _ _ _ (Option.some.inj h).symm
  · replace h := fng c h
    refine Wp.run 3 (f' := (d + 0, 132, 14, 0, 0, [some (fA 1), some (fI l1), some (fI l2)], [fI 1240, fI (M 1 2)])) (h' := (156, fjl L, M)) rfl trivial ?_
    refine Wp.br rfl (fun (c : 1240 ≤ (M 1 2)) => ?_) (fun (c : ¬ (1240 ≤ (M 1 2))) => ?_)
    · replace h := fps c h
      exact hE _ _ _ _ (Option.some.inj h).symm
    · replace h := fng c h
      obtain ⟨⟨g0, g1, g2⟩, h⟩ := fgd h
      refine Wp.run 17 (P := [0 ≤ (M 1 2) ∧ (M 1 2) < 1240]) (f' := (d + 0, 132, 3, 0, 0, [some (fA 1), some (fI l1), some (fI (fw (l2 + (-8))))], [])) (h' := (156, fjl L, (fup (fup M 2 (M 1 2).toNat (fi2b (fi2b (fush l1 l2)))) 1 2 (fw ((M 1 2) + 1))))) rfl ?_ ?_
      · exact g0
      rw [fw_id g2, fw_id g1]
      exact hC _ _ (Option.some.inj h).symm
theorem s_X10_add_b3_fr {M : fM} {l1 l2 : Int} {r : ((Int × fM) ⊕ fM)} (h : s_X10_add_b3 M l1 l2 = some r) : fSame s_X10_add_mods M (Sum.elim (fun s => s.2) (fun e => e) r) := by
  unfold s_X10_add_b3 at h
  by_cases c : l2 < 0
  · replace h := fps c h
    obtain rfl := Option.some.inj h
    exact fs_refl
  · replace h := fng c h
    by_cases c : 1240 ≤ (M 1 2)
    · replace h := fps c h
      obtain rfl := Option.some.inj h
      exact fs_refl
    · replace h := fng c h
      replace h := (fgd h).2
      obtain rfl := Option.some.inj h
      exact fs_up (fs_up fs_refl (.inl (by decide))) (.inr (by decide))
noncomputable def s_X10_add_l3 (l1 : Int) (s : (Int × fM)) : Option fM := fLp (fun s => s_X10_add_b3 s.2 l1 s.1) s
theorem s_X10_add_l3_ok {d L : Nat} {M : fM} {l1 l2 : Int} {r : fM} {Q : fO → fH → Prop} (h : s_X10_add_l3 l1 (l2, M) = some r) (hE : ∀ (e : fM) (o0' o1' o2' : Option fV), r = e → Wp (d + 0, 132, 46, 0, 0, [o0', o1', o2'], []) (156, fjl L, e) Q) : Wp (d + 0, 132, 3, 0, 0, [some (fA 1), some (fI l1), some (fI l2)], []) (156, fjl L, M) Q := by
  refine fLp_wp (W := fun s => Wp (d + 0, 132, 3, 0, 0, [some (fA 1), some (fI l1), some (fI s.1)], []) (156, fjl L, s.2) Q) (e := r) ?_ h
  intro s r1 h hC hX
  refine s_X10_add_b3_ok (d := d) h (fun a0 a1 e1 => ?_) (fun e u0 u1 u2 e1 => hE e u0 u1 u2 (hX _ e1).symm)
  exact hC _ e1
theorem s_X10_add_l3_fr {M : fM} {l1 l2 : Int} {r : fM} (h : s_X10_add_l3 l1 (l2, M) = some r) : fSame s_X10_add_mods M ((fun e => e) r) := by
  refine fLp_inv (I := fun s => fSame s_X10_add_mods M s.2) (J := fun r => fSame s_X10_add_mods M ((fun e => e) r)) h fs_refl (fun s s1 hs hb => ?_) (fun s e hs hb => ?_)
  · exact fs_trans hs (s_X10_add_b3_fr hb)
  · exact fs_trans hs (s_X10_add_b3_fr hb)
noncomputable def s_X10_add (M : fM) (l1 : Int) : Option (Unit × fM) :=
  (s_X10_add_l3 l1 (24, M)).bind fun e3 =>
    some ((), e3)
theorem s_X10_add_ok {d L : Nat} {M : fM} {l1 : Int} {r : (Unit × fM)} {Q : fO → fH → Prop} (h : s_X10_add M l1 = some r) (H : Q (oV r.1) (156, fjl L, r.2)) : Wp (d + 0, 132, 0, 0, 0, [some (fA 1), some (fI l1), none], []) (156, fjl L, M) Q := by
  unfold s_X10_add at h
  refine Wp.run 2 (f' := (d + 0, 132, 3, 0, 0, [some (fA 1), some (fI l1), some (fI 24)], [])) (h' := (156, fjl L, M)) rfl trivial ?_
  obtain ⟨e3, hy, h⟩ := fbd h
  refine s_X10_add_l3_ok hy (fun x u0 u1 u2 ex => ?_)
  cases ex
  show Wp (d + 0, 132, 46, 0, 0, [u0, u1, u2], []) (156, fjl L, e3) Q
  obtain rfl := Option.some.inj h
  exact Wp.done rfl (by decide) H
theorem s_X10_add_fr {M : fM} {l1 : Int} {r : (Unit × fM)} (h : s_X10_add M l1 = some r) : fSame s_X10_add_mods M r.2 := by
  unfold s_X10_add at h
  obtain ⟨e3, hy, h⟩ := fbd h
  have k3 := fs_trans (l := s_X10_add_mods) fs_refl (s_X10_add_l3_fr hy)
  obtain rfl := Option.some.inj h
  exact k3
abbrev s_X11_feed_mods : List (Nat × Option Nat) := [(1, some 2), (2, none)]
noncomputable def s_X11_feed (M : fM) (l1 l2 l3 l4 l5 : Int) : Option (Int × fM) :=
  (s_X10_hasRoom M 20).bind fun y6 =>
    if ¬ y6 = 0 then
      (s_X10_add M l1).bind fun y19 =>
        (s_X10_add y19.2 l2).bind fun y27 =>
          (s_X10_add y27.2 l3).bind fun y35 =>
            (s_X10_add y35.2 l4).bind fun y44 =>
              (s_X10_add y44.2 l5).bind fun y53 =>
                some ((y53.2 1 2), y53.2)
    else
      some ((-1), M)
theorem s_X11_feed_ok {d L : Nat} {M : fM} {l1 l2 l3 l4 l5 : Int} {r : (Int × fM)} {Q : fO → fH → Prop} (h : s_X11_feed M l1 l2 l3 l4 l5 = some r) (H : Q (oI r.1) (156, fjl L, r.2)) : Wp (d + 1, 150, 0, 0, 0, [some (fA 0), some (fI l1), some (fI l2), some (fI l3), some (fI l4), some (fI l5)], []) (156, fjl L, M) Q := by
  unfold s_X11_feed at h
  refine Wp.run 3 (f' := (d + 1, 150, 6, 0, 0, [some (fA 0), some (fI l1), some (fI l2), some (fI l3), some (fI l4), some (fI l5)], [fI 20, fA 1])) (h' := (156, fjl L, M)) rfl trivial ?_
  obtain ⟨y6, hy, h⟩ := fbd h
  refine Wp.call rfl (by decide) (s_X10_hasRoom_ok (d := d + 0) hy ?_)
  show Wp (d + 1, 150, 9, 0, 0, [some (fA 0), some (fI l1), some (fI l2), some (fI l3), some (fI l4), some (fI l5)], [fI y6]) (156, fjl L, M) Q
  refine Wp.br rfl (fun (c : ¬ y6 = 0) => ?_) (fun (c : ¬ (¬ y6 = 0)) => ?_)
  · replace h := fps c h
    refine Wp.run 3 (f' := (d + 1, 150, 19, 0, 0, [some (fA 0), _, some (fI l2), some (fI l3), some (fI l4), some (fI l5)], [fI l1, fA 1])) (h' := (156, fjl L, M)) rfl trivial ?_
    obtain ⟨y19, hy, h⟩ := fbd h
    refine Wp.call rfl (by decide) (s_X10_add_ok (d := d + 0) hy ?_)
    show Wp (d + 1, 150, 22, 0, 0, [some (fA 0), _, some (fI l2), some (fI l3), some (fI l4), some (fI l5)], []) (156, fjl L, y19.2) Q
    refine Wp.run 3 (f' := (d + 1, 150, 27, 0, 0, [some (fA 0), _, _, some (fI l3), some (fI l4), some (fI l5)], [fI l2, fA 1])) (h' := (156, fjl L, y19.2)) rfl trivial ?_
    obtain ⟨y27, hy, h⟩ := fbd h
    refine Wp.call rfl (by decide) (s_X10_add_ok (d := d + 0) hy ?_)
    show Wp (d + 1, 150, 30, 0, 0, [some (fA 0), _, _, some (fI l3), some (fI l4), some (fI l5)], []) (156, fjl L, y27.2) Q
    refine Wp.run 3 (f' := (d + 1, 150, 35, 0, 0, [some (fA 0), _, _, _, some (fI l4), some (fI l5)], [fI l3, fA 1])) (h' := (156, fjl L, y27.2)) rfl trivial ?_
    obtain ⟨y35, hy, h⟩ := fbd h
    refine Wp.call rfl (by decide) (s_X10_add_ok (d := d + 0) hy ?_)
    show Wp (d + 1, 150, 38, 0, 0, [some (fA 0), _, _, _, some (fI l4), some (fI l5)], []) (156, fjl L, y35.2) Q
    refine Wp.run 3 (f' := (d + 1, 150, 44, 0, 0, [some (fA 0), _, _, _, _, some (fI l5)], [fI l4, fA 1])) (h' := (156, fjl L, y35.2)) rfl trivial ?_
    obtain ⟨y44, hy, h⟩ := fbd h
    refine Wp.call rfl (by decide) (s_X10_add_ok (d := d + 0) hy ?_)
    show Wp (d + 1, 150, 47, 0, 0, [some (fA 0), _, _, _, _, some (fI l5)], []) (156, fjl L, y44.2) Q
    refine Wp.run 3 (f' := (d + 1, 150, 53, 0, 0, [some (fA 0), _, _, _, _, _], [fI l5, fA 1])) (h' := (156, fjl L, y44.2)) rfl trivial ?_
    obtain ⟨y53, hy, h⟩ := fbd h
    refine Wp.call rfl (by decide) (s_X10_add_ok (d := d + 0) hy ?_)
    show Wp (d + 1, 150, 56, 0, 0, [some (fA 0), _, _, _, _, _], []) (156, fjl L, y53.2) Q
    refine Wp.run 3 (f' := (d + 1, 150, 63, 0, 0, [_, _, _, _, _, _], [fI (y53.2 1 2)])) (h' := (156, fjl L, y53.2)) rfl trivial ?_
    obtain rfl := Option.some.inj h
    exact Wp.done rfl (by decide) H
  · replace h := fng c h
    refine Wp.run 1 (f' := (d + 1, 150, 13, 0, 0, [_, _, _, _, _, _], [fI (-1)])) (h' := (156, fjl L, M)) rfl trivial ?_
    obtain rfl := Option.some.inj h
    exact Wp.done rfl (by decide) H
theorem s_X11_feed_fr {M : fM} {l1 l2 l3 l4 l5 : Int} {r : (Int × fM)} (h : s_X11_feed M l1 l2 l3 l4 l5 = some r) : fSame s_X11_feed_mods M r.2 := by
  unfold s_X11_feed at h
  obtain ⟨y6, hy, h⟩ := fbd h
  by_cases c : ¬ y6 = 0
  · replace h := fps c h
    obtain ⟨y19, hy, h⟩ := fbd h
    have k19 := fs_trans (l := s_X11_feed_mods) fs_refl (fs_mono (l := s_X10_add_mods) (by decide) (s_X10_add_fr hy))
    obtain ⟨y27, hy, h⟩ := fbd h
    have k27 := fs_trans (l := s_X11_feed_mods) k19 (fs_mono (l := s_X10_add_mods) (by decide) (s_X10_add_fr hy))
    obtain ⟨y35, hy, h⟩ := fbd h
    have k35 := fs_trans (l := s_X11_feed_mods) k27 (fs_mono (l := s_X10_add_mods) (by decide) (s_X10_add_fr hy))
    obtain ⟨y44, hy, h⟩ := fbd h
    have k44 := fs_trans (l := s_X11_feed_mods) k35 (fs_mono (l := s_X10_add_mods) (by decide) (s_X10_add_fr hy))
    obtain ⟨y53, hy, h⟩ := fbd h
    have k53 := fs_trans (l := s_X11_feed_mods) k44 (fs_mono (l := s_X10_add_mods) (by decide) (s_X10_add_fr hy))
    obtain rfl := Option.some.inj h
    exact k53
  · replace h := fng c h
    obtain rfl := Option.some.inj h
    exact fs_refl
abbrev s_X12_four_mods : List (Nat × Option Nat) := [(122, some 2), (123, none)]
noncomputable def s_X12_four_b3 (M : fM) (l1 l2 : Int) : Option ((Int × fM) ⊕ fM) :=
  if l2 < 0 then
    some (.inr M)
  else
    if (0 ≤ (M 122 2) ∧ (M 122 2) < 1240) ∧ fin ((M 122 2) + 1) ∧ fin (l2 + (-8)) then
      some (.inl ((l2 + (-8)), (fup (fup M 123 (M 122 2).toNat (fi2b (fi2b (fshr l1 l2)))) 122 2 ((M 122 2) + 1))))
    else none
theorem s_X12_four_b3_ok {d L : Nat} {M : fM} {l1 l2 : Int} {r : ((Int × fM) ⊕ fM)} {Q : fO → fH → Prop} (h : s_X12_four_b3 M l1 l2 = some r) (hC : ∀ (l2' : Int) (M' : fM), r = .inl (l2', M') → Wp (d + 0, 196, 3, 0, 0, [some (fA 122), some (fI l1), some (fI l2')], []) (156, fjl L, M') Q) (hE : ∀ (e : fM) (o0' o1' o2' : Option fV), r = .inr e → Wp (d + 0, 196, 36, 0, 0, [o0', o1', o2'], []) (156, fjl L, e) Q) : Wp (d + 0, 196, 3, 0, 0, [some (fA 122), some (fI l1), some (fI l2)], []) (156, fjl L, M) Q := by
  unfold s_X12_four_b3 at h
  refine Wp.run 1 (f' := (d + 0, 196, 4, 0, 0, [some (fA 122), some (fI l1), some (fI l2)], [fI l2])) (h' := (156, fjl L, M)) rfl trivial ?_
  refine Wp.br rfl (fun (c : l2 < 0) => ?_) (fun (c : ¬ (l2 < 0)) => ?_)
  · replace h := fps c h
    exact hE _ _ _ _ (Option.some.inj h).symm
  · replace h := fng c h
    obtain ⟨⟨g0, g1, g2⟩, h⟩ := fgd h
    refine Wp.run 17 (P := [0 ≤ (M 122 2) ∧ (M 122 2) < 1240]) (f' := (d + 0, 196, 3, 0, 0, [some (fA 122), some (fI l1), some (fI (fw (l2 + (-8))))], [])) (h' := (156, fjl L, (fup (fup M 123 (M 122 2).toNat (fi2b (fi2b (fshr l1 l2)))) 122 2 (fw ((M 122 2) + 1))))) rfl ?_ ?_
    · exact g0
    rw [fw_id g2, fw_id g1]
    exact hC _ _ (Option.some.inj h).symm
theorem s_X12_four_b3_fr {M : fM} {l1 l2 : Int} {r : ((Int × fM) ⊕ fM)} (h : s_X12_four_b3 M l1 l2 = some r) : fSame s_X12_four_mods M (Sum.elim (fun s => s.2) (fun e => e) r) := by
  unfold s_X12_four_b3 at h
  by_cases c : l2 < 0
  · replace h := fps c h
    obtain rfl := Option.some.inj h
    exact fs_refl
  · replace h := fng c h
    replace h := (fgd h).2
    obtain rfl := Option.some.inj h
    exact fs_up (fs_up fs_refl (.inl (by decide))) (.inr (by decide))
noncomputable def s_X12_four_l3 (l1 : Int) (s : (Int × fM)) : Option fM := fLp (fun s => s_X12_four_b3 s.2 l1 s.1) s
theorem s_X12_four_l3_ok {d L : Nat} {M : fM} {l1 l2 : Int} {r : fM} {Q : fO → fH → Prop} (h : s_X12_four_l3 l1 (l2, M) = some r) (hE : ∀ (e : fM) (o0' o1' o2' : Option fV), r = e → Wp (d + 0, 196, 36, 0, 0, [o0', o1', o2'], []) (156, fjl L, e) Q) : Wp (d + 0, 196, 3, 0, 0, [some (fA 122), some (fI l1), some (fI l2)], []) (156, fjl L, M) Q := by
  refine fLp_wp (W := fun s => Wp (d + 0, 196, 3, 0, 0, [some (fA 122), some (fI l1), some (fI s.1)], []) (156, fjl L, s.2) Q) (e := r) ?_ h
  intro s r1 h hC hX
  refine s_X12_four_b3_ok (d := d) h (fun a0 a1 e1 => ?_) (fun e u0 u1 u2 e1 => hE e u0 u1 u2 (hX _ e1).symm)
  exact hC _ e1
theorem s_X12_four_l3_fr {M : fM} {l1 l2 : Int} {r : fM} (h : s_X12_four_l3 l1 (l2, M) = some r) : fSame s_X12_four_mods M ((fun e => e) r) := by
  refine fLp_inv (I := fun s => fSame s_X12_four_mods M s.2) (J := fun r => fSame s_X12_four_mods M ((fun e => e) r)) h fs_refl (fun s s1 hs hb => ?_) (fun s e hs hb => ?_)
  · exact fs_trans hs (s_X12_four_b3_fr hb)
  · exact fs_trans hs (s_X12_four_b3_fr hb)
noncomputable def s_X12_four (M : fM) (l1 : Int) : Option (Unit × fM) :=
  (s_X12_four_l3 l1 (24, M)).bind fun e3 =>
    some ((), e3)
theorem s_X12_four_ok {d L : Nat} {M : fM} {l1 : Int} {r : (Unit × fM)} {Q : fO → fH → Prop} (h : s_X12_four M l1 = some r) (H : Q (oV r.1) (156, fjl L, r.2)) : Wp (d + 0, 196, 0, 0, 0, [some (fA 122), some (fI l1), none], []) (156, fjl L, M) Q := by
  unfold s_X12_four at h
  refine Wp.run 2 (f' := (d + 0, 196, 3, 0, 0, [some (fA 122), some (fI l1), some (fI 24)], [])) (h' := (156, fjl L, M)) rfl trivial ?_
  obtain ⟨e3, hy, h⟩ := fbd h
  refine s_X12_four_l3_ok hy (fun x u0 u1 u2 ex => ?_)
  cases ex
  show Wp (d + 0, 196, 36, 0, 0, [u0, u1, u2], []) (156, fjl L, e3) Q
  obtain rfl := Option.some.inj h
  exact Wp.done rfl (by decide) H
theorem s_X12_four_fr {M : fM} {l1 : Int} {r : (Unit × fM)} (h : s_X12_four M l1 = some r) : fSame s_X12_four_mods M r.2 := by
  unfold s_X12_four at h
  obtain ⟨e3, hy, h⟩ := fbd h
  have k3 := fs_trans (l := s_X12_four_mods) fs_refl (s_X12_four_l3_fr hy)
  obtain rfl := Option.some.inj h
  exact k3
abbrev s_X12_feed_mods : List (Nat × Option Nat) := [(122, some 0), (122, some 2), (123, none)]
noncomputable def s_X12_feed (M : fM) (l1 l2 l3 l4 l5 : Int) : Option (Int × fM) :=
  if fin ((M 122 2) + 20) then
    if ((M 122 2) + 20) ≤ 1240 then
      (s_X12_four (fup M 122 0 0) l1).bind fun y22 =>
        (s_X12_four y22.2 l2).bind fun y27 =>
          (s_X12_four y27.2 l3).bind fun y32 =>
            (s_X12_four y32.2 l4).bind fun y38 =>
              (s_X12_four y38.2 l5).bind fun y44 =>
                some ((y44.2 122 2), y44.2)
    else
      some ((-1), (fup M 122 0 0))
  else none
theorem s_X12_feed_ok {d L : Nat} {M : fM} {l1 l2 l3 l4 l5 : Int} {r : (Int × fM)} {Q : fO → fH → Prop} (h : s_X12_feed M l1 l2 l3 l4 l5 = some r) (H : Q (oI r.1) (156, fjl L, r.2)) : Wp (d + 1, 195, 0, 0, 0, [some (fA 122), some (fI l1), some (fI l2), some (fI l3), some (fI l4), some (fI l5)], []) (156, fjl L, M) Q := by
  unfold s_X12_feed at h
  obtain ⟨g0, h⟩ := fgd h
  refine Wp.run 8 (f' := (d + 1, 195, 15, 0, 0, [some (fA 122), some (fI l1), some (fI l2), some (fI l3), some (fI l4), some (fI l5)], [fI 1240, fI (fw ((M 122 2) + 20))])) (h' := (156, fjl L, (fup M 122 0 0))) rfl trivial ?_
  rw [fw_id g0]
  refine Wp.br rfl (fun (c : ((M 122 2) + 20) ≤ 1240) => ?_) (fun (c : ¬ (((M 122 2) + 20) ≤ 1240)) => ?_)
  · replace h := fps c h
    refine Wp.run 2 (f' := (d + 1, 195, 22, 0, 0, [some (fA 122), _, some (fI l2), some (fI l3), some (fI l4), some (fI l5)], [fI l1, fA 122])) (h' := (156, fjl L, (fup M 122 0 0))) rfl trivial ?_
    obtain ⟨y22, hy, h⟩ := fbd h
    refine Wp.call rfl (by decide) (s_X12_four_ok (d := d + 0) hy ?_)
    show Wp (d + 1, 195, 25, 0, 0, [some (fA 122), _, some (fI l2), some (fI l3), some (fI l4), some (fI l5)], []) (156, fjl L, y22.2) Q
    refine Wp.run 2 (f' := (d + 1, 195, 27, 0, 0, [some (fA 122), _, _, some (fI l3), some (fI l4), some (fI l5)], [fI l2, fA 122])) (h' := (156, fjl L, y22.2)) rfl trivial ?_
    obtain ⟨y27, hy, h⟩ := fbd h
    refine Wp.call rfl (by decide) (s_X12_four_ok (d := d + 0) hy ?_)
    show Wp (d + 1, 195, 30, 0, 0, [some (fA 122), _, _, some (fI l3), some (fI l4), some (fI l5)], []) (156, fjl L, y27.2) Q
    refine Wp.run 2 (f' := (d + 1, 195, 32, 0, 0, [some (fA 122), _, _, _, some (fI l4), some (fI l5)], [fI l3, fA 122])) (h' := (156, fjl L, y27.2)) rfl trivial ?_
    obtain ⟨y32, hy, h⟩ := fbd h
    refine Wp.call rfl (by decide) (s_X12_four_ok (d := d + 0) hy ?_)
    show Wp (d + 1, 195, 35, 0, 0, [some (fA 122), _, _, _, some (fI l4), some (fI l5)], []) (156, fjl L, y32.2) Q
    refine Wp.run 2 (f' := (d + 1, 195, 38, 0, 0, [some (fA 122), _, _, _, _, some (fI l5)], [fI l4, fA 122])) (h' := (156, fjl L, y32.2)) rfl trivial ?_
    obtain ⟨y38, hy, h⟩ := fbd h
    refine Wp.call rfl (by decide) (s_X12_four_ok (d := d + 0) hy ?_)
    show Wp (d + 1, 195, 41, 0, 0, [some (fA 122), _, _, _, _, some (fI l5)], []) (156, fjl L, y38.2) Q
    refine Wp.run 2 (f' := (d + 1, 195, 44, 0, 0, [some (fA 122), _, _, _, _, _], [fI l5, fA 122])) (h' := (156, fjl L, y38.2)) rfl trivial ?_
    obtain ⟨y44, hy, h⟩ := fbd h
    refine Wp.call rfl (by decide) (s_X12_four_ok (d := d + 0) hy ?_)
    show Wp (d + 1, 195, 47, 0, 0, [some (fA 122), _, _, _, _, _], []) (156, fjl L, y44.2) Q
    refine Wp.run 2 (f' := (d + 1, 195, 51, 0, 0, [_, _, _, _, _, _], [fI (y44.2 122 2)])) (h' := (156, fjl L, y44.2)) rfl trivial ?_
    obtain rfl := Option.some.inj h
    exact Wp.done rfl (by decide) H
  · replace h := fng c h
    refine Wp.run 1 (f' := (d + 1, 195, 19, 0, 0, [_, _, _, _, _, _], [fI (-1)])) (h' := (156, fjl L, (fup M 122 0 0))) rfl trivial ?_
    obtain rfl := Option.some.inj h
    exact Wp.done rfl (by decide) H
theorem s_X12_feed_fr {M : fM} {l1 l2 l3 l4 l5 : Int} {r : (Int × fM)} (h : s_X12_feed M l1 l2 l3 l4 l5 = some r) : fSame s_X12_feed_mods M r.2 := by
  unfold s_X12_feed at h
  replace h := (fgd h).2
  by_cases c : ((M 122 2) + 20) ≤ 1240
  · replace h := fps c h
    obtain ⟨y22, hy, h⟩ := fbd h
    have k22 := fs_trans (l := s_X12_feed_mods) (fs_up fs_refl (.inr (by decide))) (fs_mono (l := s_X12_four_mods) (by decide) (s_X12_four_fr hy))
    obtain ⟨y27, hy, h⟩ := fbd h
    have k27 := fs_trans (l := s_X12_feed_mods) k22 (fs_mono (l := s_X12_four_mods) (by decide) (s_X12_four_fr hy))
    obtain ⟨y32, hy, h⟩ := fbd h
    have k32 := fs_trans (l := s_X12_feed_mods) k27 (fs_mono (l := s_X12_four_mods) (by decide) (s_X12_four_fr hy))
    obtain ⟨y38, hy, h⟩ := fbd h
    have k38 := fs_trans (l := s_X12_feed_mods) k32 (fs_mono (l := s_X12_four_mods) (by decide) (s_X12_four_fr hy))
    obtain ⟨y44, hy, h⟩ := fbd h
    have k44 := fs_trans (l := s_X12_feed_mods) k38 (fs_mono (l := s_X12_four_mods) (by decide) (s_X12_four_fr hy))
    obtain rfl := Option.some.inj h
    exact k44
  · replace h := fng c h
    obtain rfl := Option.some.inj h
    exact fs_up fs_refl (.inr (by decide))
abbrev s_X10_isCut_mods : List (Nat × Option Nat) := [(1, some 2)]
noncomputable def s_X10_isCut (M : fM) (l1 : Int) : Option (Int × fM) :=
  if l1 < 0 then
    some (0, M)
  else
    if l1 ≤ (M 1 2) then
      some (1, (fup M 1 2 l1))
    else
      some (0, M)
theorem s_X10_isCut_ok {d L : Nat} {M : fM} {l1 : Int} {r : (Int × fM)} {Q : fO → fH → Prop} (h : s_X10_isCut M l1 = some r) (H : Q (oI r.1) (156, fjl L, r.2)) : Wp (d + 0, 133, 0, 0, 0, [some (fA 1), some (fI l1)], []) (156, fjl L, M) Q := by
  unfold s_X10_isCut at h
  refine Wp.run 1 (f' := (d + 0, 133, 1, 0, 0, [some (fA 1), some (fI l1)], [fI l1])) (h' := (156, fjl L, M)) rfl trivial ?_
  refine Wp.br rfl (fun (c : l1 < 0) => ?_) (fun (c : ¬ (l1 < 0)) => ?_)
  · replace h := fps c h
    refine Wp.run 1 (f' := (d + 0, 133, 13, 0, 0, [_, _], [fI 0])) (h' := (156, fjl L, M)) rfl trivial ?_
    obtain rfl := Option.some.inj h
    exact Wp.done rfl (by decide) H
  · replace h := fng c h
    refine Wp.run 3 (f' := (d + 0, 133, 9, 0, 0, [some (fA 1), some (fI l1)], [fI (M 1 2), fI l1])) (h' := (156, fjl L, M)) rfl trivial ?_
    refine Wp.br rfl (fun (c : l1 ≤ (M 1 2)) => ?_) (fun (c : ¬ (l1 ≤ (M 1 2))) => ?_)
    · replace h := fps c h
      refine Wp.run 4 (f' := (d + 0, 133, 20, 0, 0, [_, _], [fI 1])) (h' := (156, fjl L, (fup M 1 2 l1))) rfl trivial ?_
      obtain rfl := Option.some.inj h
      exact Wp.done rfl (by decide) H
    · replace h := fng c h
      refine Wp.run 1 (f' := (d + 0, 133, 13, 0, 0, [_, _], [fI 0])) (h' := (156, fjl L, M)) rfl trivial ?_
      obtain rfl := Option.some.inj h
      exact Wp.done rfl (by decide) H
theorem s_X10_isCut_fr {M : fM} {l1 : Int} {r : (Int × fM)} (h : s_X10_isCut M l1 = some r) : fSame s_X10_isCut_mods M r.2 := by
  unfold s_X10_isCut at h
  by_cases c : l1 < 0
  · replace h := fps c h
    obtain rfl := Option.some.inj h
    exact fs_refl
  · replace h := fng c h
    by_cases c : l1 ≤ (M 1 2)
    · replace h := fps c h
      obtain rfl := Option.some.inj h
      exact fs_up fs_refl (.inr (by decide))
    · replace h := fng c h
      obtain rfl := Option.some.inj h
      exact fs_refl
abbrev s_X11_end_mods : List (Nat × Option Nat) := [(1, some 2)]
noncomputable def s_X11_end (M : fM) (l1 : Int) : Option (Int × fM) :=
  (s_X10_isCut M l1).bind fun y5 =>
    if b01 y5.1 then
      some (y5.1, y5.2)
    else none
theorem s_X11_end_ok {d L : Nat} {M : fM} {l1 : Int} {r : (Int × fM)} {Q : fO → fH → Prop} (h : s_X11_end M l1 = some r) (H : Q (oI r.1) (156, fjl L, r.2)) : Wp (d + 1, 151, 0, 0, 0, [some (fA 0), some (fI l1)], []) (156, fjl L, M) Q := by
  unfold s_X11_end at h
  refine Wp.run 3 (f' := (d + 1, 151, 5, 0, 0, [_, _], [fI l1, fA 1])) (h' := (156, fjl L, M)) rfl trivial ?_
  obtain ⟨y5, hy, h⟩ := fbd h
  refine Wp.call rfl (by decide) (s_X10_isCut_ok (d := d + 0) hy ?_)
  show Wp (d + 1, 151, 8, 0, 0, [_, _], [fI y5.1]) (156, fjl L, y5.2) Q
  obtain ⟨g0, h⟩ := fgd h
  obtain rfl := Option.some.inj h
  exact Wp.done rfl ⟨g0, by decide, by decide, by decide⟩ H
theorem s_X11_end_fr {M : fM} {l1 : Int} {r : (Int × fM)} (h : s_X11_end M l1 = some r) : fSame s_X11_end_mods M r.2 := by
  unfold s_X11_end at h
  obtain ⟨y5, hy, h⟩ := fbd h
  have k5 := fs_trans (l := s_X11_end_mods) fs_refl (fs_mono (l := s_X10_isCut_mods) (by decide) (s_X10_isCut_fr hy))
  replace h := (fgd h).2
  obtain rfl := Option.some.inj h
  exact k5
abbrev s_X12_end_mods : List (Nat × Option Nat) := [(122, some 0), (122, some 2)]
noncomputable def s_X12_end (M : fM) (l1 : Int) : Option (Int × fM) :=
  if l1 < 0 then
    some (0, (fup M 122 0 0))
  else
    if l1 ≤ (M 122 2) then
      some (1, (fup (fup M 122 0 0) 122 2 l1))
    else
      some (0, (fup M 122 0 0))
theorem s_X12_end_ok {d L : Nat} {M : fM} {l1 : Int} {r : (Int × fM)} {Q : fO → fH → Prop} (h : s_X12_end M l1 = some r) (H : Q (oI r.1) (156, fjl L, r.2)) : Wp (d + 0, 197, 0, 0, 0, [some (fA 122), some (fI l1)], []) (156, fjl L, M) Q := by
  unfold s_X12_end at h
  refine Wp.run 4 (f' := (d + 0, 197, 6, 0, 0, [some (fA 122), some (fI l1)], [fI l1])) (h' := (156, fjl L, (fup M 122 0 0))) rfl trivial ?_
  refine Wp.br rfl (fun (c : l1 < 0) => ?_) (fun (c : ¬ (l1 < 0)) => ?_)
  · replace h := fps c h
    refine Wp.run 1 (f' := (d + 0, 197, 18, 0, 0, [_, _], [fI 0])) (h' := (156, fjl L, (fup M 122 0 0))) rfl trivial ?_
    obtain rfl := Option.some.inj h
    exact Wp.done rfl (by decide) H
  · replace h := fng c h
    refine Wp.run 3 (f' := (d + 0, 197, 14, 0, 0, [some (fA 122), some (fI l1)], [fI (M 122 2), fI l1])) (h' := (156, fjl L, (fup M 122 0 0))) rfl trivial ?_
    refine Wp.br rfl (fun (c : l1 ≤ (M 122 2)) => ?_) (fun (c : ¬ (l1 ≤ (M 122 2))) => ?_)
    · replace h := fps c h
      refine Wp.run 4 (f' := (d + 0, 197, 25, 0, 0, [_, _], [fI 1])) (h' := (156, fjl L, (fup (fup M 122 0 0) 122 2 l1))) rfl trivial ?_
      obtain rfl := Option.some.inj h
      exact Wp.done rfl (by decide) H
    · replace h := fng c h
      refine Wp.run 1 (f' := (d + 0, 197, 18, 0, 0, [_, _], [fI 0])) (h' := (156, fjl L, (fup M 122 0 0))) rfl trivial ?_
      obtain rfl := Option.some.inj h
      exact Wp.done rfl (by decide) H
theorem s_X12_end_fr {M : fM} {l1 : Int} {r : (Int × fM)} (h : s_X12_end M l1 = some r) : fSame s_X12_end_mods M r.2 := by
  unfold s_X12_end at h
  by_cases c : l1 < 0
  · replace h := fps c h
    obtain rfl := Option.some.inj h
    exact fs_up fs_refl (.inr (by decide))
  · replace h := fng c h
    by_cases c : l1 ≤ (M 122 2)
    · replace h := fps c h
      obtain rfl := Option.some.inj h
      exact fs_up (fs_up fs_refl (.inr (by decide))) (.inr (by decide))
    · replace h := fng c h
      obtain rfl := Option.some.inj h
      exact fs_up fs_refl (.inr (by decide))
abbrev s_J7_fill_29_mods : List (Nat × Option Nat) := [(29, none)]
noncomputable def s_J7_fill_29_b5 (M : fM) (l1 l2 l3 : Int) : Option ((Int × fM) ⊕ fM) :=
  if l3 ≤ l2 then
    some (.inr M)
  else
    if (0 ≤ l2 ∧ l2 < 12) ∧ fin (l2 + 1) then
      some (.inl ((l2 + 1), (fup M 29 (l2).toNat l1)))
    else none
theorem s_J7_fill_29_b5_ok {d L : Nat} {M : fM} {l1 l2 l3 : Int} {r : ((Int × fM) ⊕ fM)} {Q : fO → fH → Prop} (h : s_J7_fill_29_b5 M l1 l2 l3 = some r) (hC : ∀ (l2' : Int) (M' : fM), r = .inl (l2', M') → Wp (d + 0, 314, 5, 0, 0, [some (fA 29), some (fI l1), some (fI l2'), some (fI l3)], []) (156, fjl L, M') Q) (hE : ∀ (e : fM) (o0' o1' o2' o3' : Option fV), r = .inr e → Wp (d + 0, 314, 20, 0, 0, [o0', o1', o2', o3'], []) (156, fjl L, e) Q) : Wp (d + 0, 314, 5, 0, 0, [some (fA 29), some (fI l1), some (fI l2), some (fI l3)], []) (156, fjl L, M) Q := by
  unfold s_J7_fill_29_b5 at h
  refine Wp.run 2 (f' := (d + 0, 314, 7, 0, 0, [some (fA 29), some (fI l1), some (fI l2), some (fI l3)], [fI l3, fI l2])) (h' := (156, fjl L, M)) rfl trivial ?_
  refine Wp.br rfl (fun (c : l3 ≤ l2) => ?_) (fun (c : ¬ (l3 ≤ l2)) => ?_)
  · replace h := fps c h
    exact hE _ _ _ _ _ (Option.some.inj h).symm
  · replace h := fng c h
    obtain ⟨⟨g0, g1⟩, h⟩ := fgd h
    refine Wp.run 6 (P := [0 ≤ l2 ∧ l2 < 12]) (f' := (d + 0, 314, 5, 0, 0, [some (fA 29), some (fI l1), some (fI (fw (l2 + 1))), some (fI l3)], [])) (h' := (156, fjl L, (fup M 29 (l2).toNat l1))) rfl ?_ ?_
    · exact g0
    rw [fw_id g1]
    exact hC _ _ (Option.some.inj h).symm
theorem s_J7_fill_29_b5_fr {M : fM} {l1 l2 l3 : Int} {r : ((Int × fM) ⊕ fM)} (h : s_J7_fill_29_b5 M l1 l2 l3 = some r) : fSame s_J7_fill_29_mods M (Sum.elim (fun s => s.2) (fun e => e) r) := by
  unfold s_J7_fill_29_b5 at h
  by_cases c : l3 ≤ l2
  · replace h := fps c h
    obtain rfl := Option.some.inj h
    exact fs_refl
  · replace h := fng c h
    replace h := (fgd h).2
    obtain rfl := Option.some.inj h
    exact fs_up fs_refl (.inl (by decide))
noncomputable def s_J7_fill_29_l5 (l1 l3 : Int) (s : (Int × fM)) : Option fM := fLp (fun s => s_J7_fill_29_b5 s.2 l1 s.1 l3) s
theorem s_J7_fill_29_l5_ok {d L : Nat} {M : fM} {l1 l2 l3 : Int} {r : fM} {Q : fO → fH → Prop} (h : s_J7_fill_29_l5 l1 l3 (l2, M) = some r) (hE : ∀ (e : fM) (o0' o1' o2' o3' : Option fV), r = e → Wp (d + 0, 314, 20, 0, 0, [o0', o1', o2', o3'], []) (156, fjl L, e) Q) : Wp (d + 0, 314, 5, 0, 0, [some (fA 29), some (fI l1), some (fI l2), some (fI l3)], []) (156, fjl L, M) Q := by
  refine fLp_wp (W := fun s => Wp (d + 0, 314, 5, 0, 0, [some (fA 29), some (fI l1), some (fI s.1), some (fI l3)], []) (156, fjl L, s.2) Q) (e := r) ?_ h
  intro s r1 h hC hX
  refine s_J7_fill_29_b5_ok (d := d) h (fun a0 a1 e1 => ?_) (fun e u0 u1 u2 u3 e1 => hE e u0 u1 u2 u3 (hX _ e1).symm)
  exact hC _ e1
theorem s_J7_fill_29_l5_fr {M : fM} {l1 l2 l3 : Int} {r : fM} (h : s_J7_fill_29_l5 l1 l3 (l2, M) = some r) : fSame s_J7_fill_29_mods M ((fun e => e) r) := by
  refine fLp_inv (I := fun s => fSame s_J7_fill_29_mods M s.2) (J := fun r => fSame s_J7_fill_29_mods M ((fun e => e) r)) h fs_refl (fun s s1 hs hb => ?_) (fun s e hs hb => ?_)
  · exact fs_trans hs (s_J7_fill_29_b5_fr hb)
  · exact fs_trans hs (s_J7_fill_29_b5_fr hb)
noncomputable def s_J7_fill_29 (M : fM) (l1 : Int) : Option (Unit × fM) :=
  (s_J7_fill_29_l5 l1 12 (0, M)).bind fun e5 =>
    some ((), e5)
theorem s_J7_fill_29_ok {d L : Nat} {M : fM} {l1 : Int} {r : (Unit × fM)} {Q : fO → fH → Prop} (h : s_J7_fill_29 M l1 = some r) (H : Q (oV r.1) (156, fjl L, r.2)) : Wp (d + 0, 314, 0, 0, 0, [some (fA 29), some (fI l1), none, none], []) (156, fjl L, M) Q := by
  unfold s_J7_fill_29 at h
  refine Wp.run 5 (f' := (d + 0, 314, 5, 0, 0, [some (fA 29), some (fI l1), some (fI 0), some (fI 12)], [])) (h' := (156, fjl L, M)) rfl trivial ?_
  obtain ⟨e5, hy, h⟩ := fbd h
  refine s_J7_fill_29_l5_ok hy (fun x u0 u1 u2 u3 ex => ?_)
  cases ex
  show Wp (d + 0, 314, 20, 0, 0, [u0, u1, u2, u3], []) (156, fjl L, e5) Q
  obtain rfl := Option.some.inj h
  exact Wp.done rfl (by decide) H
theorem s_J7_fill_29_fr {M : fM} {l1 : Int} {r : (Unit × fM)} (h : s_J7_fill_29 M l1 = some r) : fSame s_J7_fill_29_mods M r.2 := by
  unfold s_J7_fill_29 at h
  obtain ⟨e5, hy, h⟩ := fbd h
  have k5 := fs_trans (l := s_J7_fill_29_mods) fs_refl (s_J7_fill_29_l5_fr hy)
  obtain rfl := Option.some.inj h
  exact k5
abbrev s_J7_fill_30_mods : List (Nat × Option Nat) := [(30, none)]
noncomputable def s_J7_fill_30_b5 (M : fM) (l1 l2 l3 : Int) : Option ((Int × fM) ⊕ fM) :=
  if l3 ≤ l2 then
    some (.inr M)
  else
    if (0 ≤ l2 ∧ l2 < 52) ∧ fin (l2 + 1) then
      some (.inl ((l2 + 1), (fup M 30 (l2).toNat l1)))
    else none
theorem s_J7_fill_30_b5_ok {d L : Nat} {M : fM} {l1 l2 l3 : Int} {r : ((Int × fM) ⊕ fM)} {Q : fO → fH → Prop} (h : s_J7_fill_30_b5 M l1 l2 l3 = some r) (hC : ∀ (l2' : Int) (M' : fM), r = .inl (l2', M') → Wp (d + 0, 314, 5, 0, 0, [some (fA 30), some (fI l1), some (fI l2'), some (fI l3)], []) (156, fjl L, M') Q) (hE : ∀ (e : fM) (o0' o1' o2' o3' : Option fV), r = .inr e → Wp (d + 0, 314, 20, 0, 0, [o0', o1', o2', o3'], []) (156, fjl L, e) Q) : Wp (d + 0, 314, 5, 0, 0, [some (fA 30), some (fI l1), some (fI l2), some (fI l3)], []) (156, fjl L, M) Q := by
  unfold s_J7_fill_30_b5 at h
  refine Wp.run 2 (f' := (d + 0, 314, 7, 0, 0, [some (fA 30), some (fI l1), some (fI l2), some (fI l3)], [fI l3, fI l2])) (h' := (156, fjl L, M)) rfl trivial ?_
  refine Wp.br rfl (fun (c : l3 ≤ l2) => ?_) (fun (c : ¬ (l3 ≤ l2)) => ?_)
  · replace h := fps c h
    exact hE _ _ _ _ _ (Option.some.inj h).symm
  · replace h := fng c h
    obtain ⟨⟨g0, g1⟩, h⟩ := fgd h
    refine Wp.run 6 (P := [0 ≤ l2 ∧ l2 < 52]) (f' := (d + 0, 314, 5, 0, 0, [some (fA 30), some (fI l1), some (fI (fw (l2 + 1))), some (fI l3)], [])) (h' := (156, fjl L, (fup M 30 (l2).toNat l1))) rfl ?_ ?_
    · exact g0
    rw [fw_id g1]
    exact hC _ _ (Option.some.inj h).symm
theorem s_J7_fill_30_b5_fr {M : fM} {l1 l2 l3 : Int} {r : ((Int × fM) ⊕ fM)} (h : s_J7_fill_30_b5 M l1 l2 l3 = some r) : fSame s_J7_fill_30_mods M (Sum.elim (fun s => s.2) (fun e => e) r) := by
  unfold s_J7_fill_30_b5 at h
  by_cases c : l3 ≤ l2
  · replace h := fps c h
    obtain rfl := Option.some.inj h
    exact fs_refl
  · replace h := fng c h
    replace h := (fgd h).2
    obtain rfl := Option.some.inj h
    exact fs_up fs_refl (.inl (by decide))
noncomputable def s_J7_fill_30_l5 (l1 l3 : Int) (s : (Int × fM)) : Option fM := fLp (fun s => s_J7_fill_30_b5 s.2 l1 s.1 l3) s
theorem s_J7_fill_30_l5_ok {d L : Nat} {M : fM} {l1 l2 l3 : Int} {r : fM} {Q : fO → fH → Prop} (h : s_J7_fill_30_l5 l1 l3 (l2, M) = some r) (hE : ∀ (e : fM) (o0' o1' o2' o3' : Option fV), r = e → Wp (d + 0, 314, 20, 0, 0, [o0', o1', o2', o3'], []) (156, fjl L, e) Q) : Wp (d + 0, 314, 5, 0, 0, [some (fA 30), some (fI l1), some (fI l2), some (fI l3)], []) (156, fjl L, M) Q := by
  refine fLp_wp (W := fun s => Wp (d + 0, 314, 5, 0, 0, [some (fA 30), some (fI l1), some (fI s.1), some (fI l3)], []) (156, fjl L, s.2) Q) (e := r) ?_ h
  intro s r1 h hC hX
  refine s_J7_fill_30_b5_ok (d := d) h (fun a0 a1 e1 => ?_) (fun e u0 u1 u2 u3 e1 => hE e u0 u1 u2 u3 (hX _ e1).symm)
  exact hC _ e1
theorem s_J7_fill_30_l5_fr {M : fM} {l1 l2 l3 : Int} {r : fM} (h : s_J7_fill_30_l5 l1 l3 (l2, M) = some r) : fSame s_J7_fill_30_mods M ((fun e => e) r) := by
  refine fLp_inv (I := fun s => fSame s_J7_fill_30_mods M s.2) (J := fun r => fSame s_J7_fill_30_mods M ((fun e => e) r)) h fs_refl (fun s s1 hs hb => ?_) (fun s e hs hb => ?_)
  · exact fs_trans hs (s_J7_fill_30_b5_fr hb)
  · exact fs_trans hs (s_J7_fill_30_b5_fr hb)
noncomputable def s_J7_fill_30 (M : fM) (l1 : Int) : Option (Unit × fM) :=
  (s_J7_fill_30_l5 l1 52 (0, M)).bind fun e5 =>
    some ((), e5)
theorem s_J7_fill_30_ok {d L : Nat} {M : fM} {l1 : Int} {r : (Unit × fM)} {Q : fO → fH → Prop} (h : s_J7_fill_30 M l1 = some r) (H : Q (oV r.1) (156, fjl L, r.2)) : Wp (d + 0, 314, 0, 0, 0, [some (fA 30), some (fI l1), none, none], []) (156, fjl L, M) Q := by
  unfold s_J7_fill_30 at h
  refine Wp.run 5 (f' := (d + 0, 314, 5, 0, 0, [some (fA 30), some (fI l1), some (fI 0), some (fI 52)], [])) (h' := (156, fjl L, M)) rfl trivial ?_
  obtain ⟨e5, hy, h⟩ := fbd h
  refine s_J7_fill_30_l5_ok hy (fun x u0 u1 u2 u3 ex => ?_)
  cases ex
  show Wp (d + 0, 314, 20, 0, 0, [u0, u1, u2, u3], []) (156, fjl L, e5) Q
  obtain rfl := Option.some.inj h
  exact Wp.done rfl (by decide) H
theorem s_J7_fill_30_fr {M : fM} {l1 : Int} {r : (Unit × fM)} (h : s_J7_fill_30 M l1 = some r) : fSame s_J7_fill_30_mods M r.2 := by
  unfold s_J7_fill_30 at h
  obtain ⟨e5, hy, h⟩ := fbd h
  have k5 := fs_trans (l := s_J7_fill_30_mods) fs_refl (s_J7_fill_30_l5_fr hy)
  obtain rfl := Option.some.inj h
  exact k5
abbrev s_J7_fill_31_mods : List (Nat × Option Nat) := [(31, none)]
noncomputable def s_J7_fill_31_b5 (M : fM) (l1 l2 l3 : Int) : Option ((Int × fM) ⊕ fM) :=
  if l3 ≤ l2 then
    some (.inr M)
  else
    if (0 ≤ l2 ∧ l2 < 52) ∧ fin (l2 + 1) then
      some (.inl ((l2 + 1), (fup M 31 (l2).toNat l1)))
    else none
theorem s_J7_fill_31_b5_ok {d L : Nat} {M : fM} {l1 l2 l3 : Int} {r : ((Int × fM) ⊕ fM)} {Q : fO → fH → Prop} (h : s_J7_fill_31_b5 M l1 l2 l3 = some r) (hC : ∀ (l2' : Int) (M' : fM), r = .inl (l2', M') → Wp (d + 0, 314, 5, 0, 0, [some (fA 31), some (fI l1), some (fI l2'), some (fI l3)], []) (156, fjl L, M') Q) (hE : ∀ (e : fM) (o0' o1' o2' o3' : Option fV), r = .inr e → Wp (d + 0, 314, 20, 0, 0, [o0', o1', o2', o3'], []) (156, fjl L, e) Q) : Wp (d + 0, 314, 5, 0, 0, [some (fA 31), some (fI l1), some (fI l2), some (fI l3)], []) (156, fjl L, M) Q := by
  unfold s_J7_fill_31_b5 at h
  refine Wp.run 2 (f' := (d + 0, 314, 7, 0, 0, [some (fA 31), some (fI l1), some (fI l2), some (fI l3)], [fI l3, fI l2])) (h' := (156, fjl L, M)) rfl trivial ?_
  refine Wp.br rfl (fun (c : l3 ≤ l2) => ?_) (fun (c : ¬ (l3 ≤ l2)) => ?_)
  · replace h := fps c h
    exact hE _ _ _ _ _ (Option.some.inj h).symm
  · replace h := fng c h
    obtain ⟨⟨g0, g1⟩, h⟩ := fgd h
    refine Wp.run 6 (P := [0 ≤ l2 ∧ l2 < 52]) (f' := (d + 0, 314, 5, 0, 0, [some (fA 31), some (fI l1), some (fI (fw (l2 + 1))), some (fI l3)], [])) (h' := (156, fjl L, (fup M 31 (l2).toNat l1))) rfl ?_ ?_
    · exact g0
    rw [fw_id g1]
    exact hC _ _ (Option.some.inj h).symm
theorem s_J7_fill_31_b5_fr {M : fM} {l1 l2 l3 : Int} {r : ((Int × fM) ⊕ fM)} (h : s_J7_fill_31_b5 M l1 l2 l3 = some r) : fSame s_J7_fill_31_mods M (Sum.elim (fun s => s.2) (fun e => e) r) := by
  unfold s_J7_fill_31_b5 at h
  by_cases c : l3 ≤ l2
  · replace h := fps c h
    obtain rfl := Option.some.inj h
    exact fs_refl
  · replace h := fng c h
    replace h := (fgd h).2
    obtain rfl := Option.some.inj h
    exact fs_up fs_refl (.inl (by decide))
noncomputable def s_J7_fill_31_l5 (l1 l3 : Int) (s : (Int × fM)) : Option fM := fLp (fun s => s_J7_fill_31_b5 s.2 l1 s.1 l3) s
theorem s_J7_fill_31_l5_ok {d L : Nat} {M : fM} {l1 l2 l3 : Int} {r : fM} {Q : fO → fH → Prop} (h : s_J7_fill_31_l5 l1 l3 (l2, M) = some r) (hE : ∀ (e : fM) (o0' o1' o2' o3' : Option fV), r = e → Wp (d + 0, 314, 20, 0, 0, [o0', o1', o2', o3'], []) (156, fjl L, e) Q) : Wp (d + 0, 314, 5, 0, 0, [some (fA 31), some (fI l1), some (fI l2), some (fI l3)], []) (156, fjl L, M) Q := by
  refine fLp_wp (W := fun s => Wp (d + 0, 314, 5, 0, 0, [some (fA 31), some (fI l1), some (fI s.1), some (fI l3)], []) (156, fjl L, s.2) Q) (e := r) ?_ h
  intro s r1 h hC hX
  refine s_J7_fill_31_b5_ok (d := d) h (fun a0 a1 e1 => ?_) (fun e u0 u1 u2 u3 e1 => hE e u0 u1 u2 u3 (hX _ e1).symm)
  exact hC _ e1
theorem s_J7_fill_31_l5_fr {M : fM} {l1 l2 l3 : Int} {r : fM} (h : s_J7_fill_31_l5 l1 l3 (l2, M) = some r) : fSame s_J7_fill_31_mods M ((fun e => e) r) := by
  refine fLp_inv (I := fun s => fSame s_J7_fill_31_mods M s.2) (J := fun r => fSame s_J7_fill_31_mods M ((fun e => e) r)) h fs_refl (fun s s1 hs hb => ?_) (fun s e hs hb => ?_)
  · exact fs_trans hs (s_J7_fill_31_b5_fr hb)
  · exact fs_trans hs (s_J7_fill_31_b5_fr hb)
noncomputable def s_J7_fill_31 (M : fM) (l1 : Int) : Option (Unit × fM) :=
  (s_J7_fill_31_l5 l1 52 (0, M)).bind fun e5 =>
    some ((), e5)
theorem s_J7_fill_31_ok {d L : Nat} {M : fM} {l1 : Int} {r : (Unit × fM)} {Q : fO → fH → Prop} (h : s_J7_fill_31 M l1 = some r) (H : Q (oV r.1) (156, fjl L, r.2)) : Wp (d + 0, 314, 0, 0, 0, [some (fA 31), some (fI l1), none, none], []) (156, fjl L, M) Q := by
  unfold s_J7_fill_31 at h
  refine Wp.run 5 (f' := (d + 0, 314, 5, 0, 0, [some (fA 31), some (fI l1), some (fI 0), some (fI 52)], [])) (h' := (156, fjl L, M)) rfl trivial ?_
  obtain ⟨e5, hy, h⟩ := fbd h
  refine s_J7_fill_31_l5_ok hy (fun x u0 u1 u2 u3 ex => ?_)
  cases ex
  show Wp (d + 0, 314, 20, 0, 0, [u0, u1, u2, u3], []) (156, fjl L, e5) Q
  obtain rfl := Option.some.inj h
  exact Wp.done rfl (by decide) H
theorem s_J7_fill_31_fr {M : fM} {l1 : Int} {r : (Unit × fM)} (h : s_J7_fill_31 M l1 = some r) : fSame s_J7_fill_31_mods M r.2 := by
  unfold s_J7_fill_31 at h
  obtain ⟨e5, hy, h⟩ := fbd h
  have k5 := fs_trans (l := s_J7_fill_31_mods) fs_refl (s_J7_fill_31_l5_fr hy)
  obtain rfl := Option.some.inj h
  exact k5
abbrev s_J7_fill_38_mods : List (Nat × Option Nat) := [(38, none)]
noncomputable def s_J7_fill_38_b5 (M : fM) (l1 l2 l3 : Int) : Option ((Int × fM) ⊕ fM) :=
  if l3 ≤ l2 then
    some (.inr M)
  else
    if (0 ≤ l2 ∧ l2 < 36) ∧ fin (l2 + 1) then
      some (.inl ((l2 + 1), (fup M 38 (l2).toNat l1)))
    else none
theorem s_J7_fill_38_b5_ok {d L : Nat} {M : fM} {l1 l2 l3 : Int} {r : ((Int × fM) ⊕ fM)} {Q : fO → fH → Prop} (h : s_J7_fill_38_b5 M l1 l2 l3 = some r) (hC : ∀ (l2' : Int) (M' : fM), r = .inl (l2', M') → Wp (d + 0, 314, 5, 0, 0, [some (fA 38), some (fI l1), some (fI l2'), some (fI l3)], []) (156, fjl L, M') Q) (hE : ∀ (e : fM) (o0' o1' o2' o3' : Option fV), r = .inr e → Wp (d + 0, 314, 20, 0, 0, [o0', o1', o2', o3'], []) (156, fjl L, e) Q) : Wp (d + 0, 314, 5, 0, 0, [some (fA 38), some (fI l1), some (fI l2), some (fI l3)], []) (156, fjl L, M) Q := by
  unfold s_J7_fill_38_b5 at h
  refine Wp.run 2 (f' := (d + 0, 314, 7, 0, 0, [some (fA 38), some (fI l1), some (fI l2), some (fI l3)], [fI l3, fI l2])) (h' := (156, fjl L, M)) rfl trivial ?_
  refine Wp.br rfl (fun (c : l3 ≤ l2) => ?_) (fun (c : ¬ (l3 ≤ l2)) => ?_)
  · replace h := fps c h
    exact hE _ _ _ _ _ (Option.some.inj h).symm
  · replace h := fng c h
    obtain ⟨⟨g0, g1⟩, h⟩ := fgd h
    refine Wp.run 6 (P := [0 ≤ l2 ∧ l2 < 36]) (f' := (d + 0, 314, 5, 0, 0, [some (fA 38), some (fI l1), some (fI (fw (l2 + 1))), some (fI l3)], [])) (h' := (156, fjl L, (fup M 38 (l2).toNat l1))) rfl ?_ ?_
    · exact g0
    rw [fw_id g1]
    exact hC _ _ (Option.some.inj h).symm
theorem s_J7_fill_38_b5_fr {M : fM} {l1 l2 l3 : Int} {r : ((Int × fM) ⊕ fM)} (h : s_J7_fill_38_b5 M l1 l2 l3 = some r) : fSame s_J7_fill_38_mods M (Sum.elim (fun s => s.2) (fun e => e) r) := by
  unfold s_J7_fill_38_b5 at h
  by_cases c : l3 ≤ l2
  · replace h := fps c h
    obtain rfl := Option.some.inj h
    exact fs_refl
  · replace h := fng c h
    replace h := (fgd h).2
    obtain rfl := Option.some.inj h
    exact fs_up fs_refl (.inl (by decide))
noncomputable def s_J7_fill_38_l5 (l1 l3 : Int) (s : (Int × fM)) : Option fM := fLp (fun s => s_J7_fill_38_b5 s.2 l1 s.1 l3) s
theorem s_J7_fill_38_l5_ok {d L : Nat} {M : fM} {l1 l2 l3 : Int} {r : fM} {Q : fO → fH → Prop} (h : s_J7_fill_38_l5 l1 l3 (l2, M) = some r) (hE : ∀ (e : fM) (o0' o1' o2' o3' : Option fV), r = e → Wp (d + 0, 314, 20, 0, 0, [o0', o1', o2', o3'], []) (156, fjl L, e) Q) : Wp (d + 0, 314, 5, 0, 0, [some (fA 38), some (fI l1), some (fI l2), some (fI l3)], []) (156, fjl L, M) Q := by
  refine fLp_wp (W := fun s => Wp (d + 0, 314, 5, 0, 0, [some (fA 38), some (fI l1), some (fI s.1), some (fI l3)], []) (156, fjl L, s.2) Q) (e := r) ?_ h
  intro s r1 h hC hX
  refine s_J7_fill_38_b5_ok (d := d) h (fun a0 a1 e1 => ?_) (fun e u0 u1 u2 u3 e1 => hE e u0 u1 u2 u3 (hX _ e1).symm)
  exact hC _ e1
theorem s_J7_fill_38_l5_fr {M : fM} {l1 l2 l3 : Int} {r : fM} (h : s_J7_fill_38_l5 l1 l3 (l2, M) = some r) : fSame s_J7_fill_38_mods M ((fun e => e) r) := by
  refine fLp_inv (I := fun s => fSame s_J7_fill_38_mods M s.2) (J := fun r => fSame s_J7_fill_38_mods M ((fun e => e) r)) h fs_refl (fun s s1 hs hb => ?_) (fun s e hs hb => ?_)
  · exact fs_trans hs (s_J7_fill_38_b5_fr hb)
  · exact fs_trans hs (s_J7_fill_38_b5_fr hb)
noncomputable def s_J7_fill_38 (M : fM) (l1 : Int) : Option (Unit × fM) :=
  (s_J7_fill_38_l5 l1 36 (0, M)).bind fun e5 =>
    some ((), e5)
theorem s_J7_fill_38_ok {d L : Nat} {M : fM} {l1 : Int} {r : (Unit × fM)} {Q : fO → fH → Prop} (h : s_J7_fill_38 M l1 = some r) (H : Q (oV r.1) (156, fjl L, r.2)) : Wp (d + 0, 314, 0, 0, 0, [some (fA 38), some (fI l1), none, none], []) (156, fjl L, M) Q := by
  unfold s_J7_fill_38 at h
  refine Wp.run 5 (f' := (d + 0, 314, 5, 0, 0, [some (fA 38), some (fI l1), some (fI 0), some (fI 36)], [])) (h' := (156, fjl L, M)) rfl trivial ?_
  obtain ⟨e5, hy, h⟩ := fbd h
  refine s_J7_fill_38_l5_ok hy (fun x u0 u1 u2 u3 ex => ?_)
  cases ex
  show Wp (d + 0, 314, 20, 0, 0, [u0, u1, u2, u3], []) (156, fjl L, e5) Q
  obtain rfl := Option.some.inj h
  exact Wp.done rfl (by decide) H
theorem s_J7_fill_38_fr {M : fM} {l1 : Int} {r : (Unit × fM)} (h : s_J7_fill_38 M l1 = some r) : fSame s_J7_fill_38_mods M r.2 := by
  unfold s_J7_fill_38 at h
  obtain ⟨e5, hy, h⟩ := fbd h
  have k5 := fs_trans (l := s_J7_fill_38_mods) fs_refl (s_J7_fill_38_l5_fr hy)
  obtain rfl := Option.some.inj h
  exact k5
abbrev s_X2_clear_28_mods : List (Nat × Option Nat) := [(28, some 13), (28, some 14), (28, some 15), (28, some 16), (28, some 17), (29, none), (30, none), (31, none), (32, none), (38, none)]
noncomputable def s_X2_clear_28 (M : fM) : Option (Unit × fM) :=
  (s_J7_fill_29 M 0).bind fun y5 =>
    (s_J7_fill_30 y5.2 20).bind fun y14 =>
      (s_J7_fill_31 y14.2 0).bind fun y22 =>
        (s_J7_fill_38 y22.2 0).bind fun y30 =>
          some ((), (fup (fup (fup (fup (fup (fcpy y30.2 1001 0 32 0 6) 28 13 0) 28 14 0) 28 15 0) 28 16 0) 28 17 0))
theorem s_X2_clear_28_ok {d L : Nat} {M : fM} {r : (Unit × fM)} {Q : fO → fH → Prop} (h : s_X2_clear_28 M = some r) (H : Q (oV r.1) (156, fjl L, r.2)) : Wp (d + 1, 25, 0, 0, 0, [some (fA 28)], []) (156, fjl L, M) Q := by
  unfold s_X2_clear_28 at h
  refine Wp.run 3 (f' := (d + 1, 25, 5, 0, 0, [some (fA 28)], [fI 0, fA 29])) (h' := (156, fjl L, M)) rfl trivial ?_
  obtain ⟨y5, hy, h⟩ := fbd h
  refine Wp.call rfl (by decide) (s_J7_fill_29_ok (d := d + 0) hy ?_)
  show Wp (d + 1, 25, 8, 0, 0, [some (fA 28)], []) (156, fjl L, y5.2) Q
  refine Wp.run 3 (f' := (d + 1, 25, 14, 0, 0, [some (fA 28)], [fI 20, fA 30])) (h' := (156, fjl L, y5.2)) rfl trivial ?_
  obtain ⟨y14, hy, h⟩ := fbd h
  refine Wp.call rfl (by decide) (s_J7_fill_30_ok (d := d + 0) hy ?_)
  show Wp (d + 1, 25, 17, 0, 0, [some (fA 28)], []) (156, fjl L, y14.2) Q
  refine Wp.run 3 (f' := (d + 1, 25, 22, 0, 0, [some (fA 28)], [fI 0, fA 31])) (h' := (156, fjl L, y14.2)) rfl trivial ?_
  obtain ⟨y22, hy, h⟩ := fbd h
  refine Wp.call rfl (by decide) (s_J7_fill_31_ok (d := d + 0) hy ?_)
  show Wp (d + 1, 25, 25, 0, 0, [some (fA 28)], []) (156, fjl L, y22.2) Q
  refine Wp.run 3 (f' := (d + 1, 25, 30, 0, 0, [some (fA 28)], [fI 0, fA 38])) (h' := (156, fjl L, y22.2)) rfl trivial ?_
  obtain ⟨y30, hy, h⟩ := fbd h
  refine Wp.call rfl (by decide) (s_J7_fill_38_ok (d := d + 0) hy ?_)
  show Wp (d + 1, 25, 33, 0, 0, [some (fA 28)], []) (156, fjl L, y30.2) Q
  refine Wp.run 22 (P := [1 ≤ d + 1, (0 : Int) ≤ 0 ∧ (0 : Int) ≤ 0 ∧ (0 : Int) ≤ 6 ∧ (0 : Int) + 6 ≤ 6 ∧ (0 : Int) + 6 ≤ 6 ∧ 1001 ≠ 32]) (f' := (d + 1, 25, 72, 0, 0, [_], [])) (h' := (156, fjl L, (fup (fup (fup (fup (fup (fcpy y30.2 1001 0 32 0 6) 28 13 0) 28 14 0) 28 15 0) 28 16 0) 28 17 0))) rfl ?_ ?_
  · exact ⟨Nat.le_add_left_of_le (by decide), ⟨by decide, by decide, by decide, by decide, by decide, by decide⟩⟩
  obtain rfl := Option.some.inj h
  exact Wp.done rfl (by decide) H
theorem s_X2_clear_28_fr {M : fM} {r : (Unit × fM)} (h : s_X2_clear_28 M = some r) : fSame s_X2_clear_28_mods M r.2 := by
  unfold s_X2_clear_28 at h
  obtain ⟨y5, hy, h⟩ := fbd h
  have k5 := fs_trans (l := s_X2_clear_28_mods) fs_refl (fs_mono (l := s_J7_fill_29_mods) (by decide) (s_J7_fill_29_fr hy))
  obtain ⟨y14, hy, h⟩ := fbd h
  have k14 := fs_trans (l := s_X2_clear_28_mods) k5 (fs_mono (l := s_J7_fill_30_mods) (by decide) (s_J7_fill_30_fr hy))
  obtain ⟨y22, hy, h⟩ := fbd h
  have k22 := fs_trans (l := s_X2_clear_28_mods) k14 (fs_mono (l := s_J7_fill_31_mods) (by decide) (s_J7_fill_31_fr hy))
  obtain ⟨y30, hy, h⟩ := fbd h
  have k30 := fs_trans (l := s_X2_clear_28_mods) k22 (fs_mono (l := s_J7_fill_38_mods) (by decide) (s_J7_fill_38_fr hy))
  obtain rfl := Option.some.inj h
  exact fs_up (fs_up (fs_up (fs_up (fs_up (fs_cpy k30 (by decide)) (.inr (by decide))) (.inr (by decide))) (.inr (by decide))) (.inr (by decide))) (.inr (by decide))
abbrev s_X10_begin_mods : List (Nat × Option Nat) := [(1, some 3), (1, some 4), (1, some 5), (1, some 9), (1, some 10)]
noncomputable def s_X10_begin (M : fM) (l1 : Int) : Option (Unit × fM) :=
  some ((), (fup (fup (fup (fup (fup M 1 3 l1) 1 4 0) 1 5 0) 1 9 0) 1 10 0))
theorem s_X10_begin_ok {d L : Nat} {M : fM} {l1 : Int} {r : (Unit × fM)} {Q : fO → fH → Prop} (h : s_X10_begin M l1 = some r) (H : Q (oV r.1) (156, fjl L, r.2)) : Wp (d + 0, 136, 0, 0, 0, [some (fA 1), some (fI l1)], []) (156, fjl L, M) Q := by
  unfold s_X10_begin at h
  refine Wp.run 15 (f' := (d + 0, 136, 25, 0, 0, [_, _], [])) (h' := (156, fjl L, (fup (fup (fup (fup (fup M 1 3 l1) 1 4 0) 1 5 0) 1 9 0) 1 10 0))) rfl trivial ?_
  obtain rfl := Option.some.inj h
  exact Wp.done rfl (by decide) H
theorem s_X10_begin_fr {M : fM} {l1 : Int} {r : (Unit × fM)} (h : s_X10_begin M l1 = some r) : fSame s_X10_begin_mods M r.2 := by
  unfold s_X10_begin at h
  obtain rfl := Option.some.inj h
  exact fs_up (fs_up (fs_up (fs_up (fs_up fs_refl (.inr (by decide))) (.inr (by decide))) (.inr (by decide))) (.inr (by decide))) (.inr (by decide))
noncomputable def s_X10_isBlank (M : fM) (l0 : Int) : Option Int :=
  if l0 = 32 then
    some 1
  else
    if ¬ l0 = 10 then
      some 0
    else
      some 1
theorem s_X10_isBlank_ok {d L : Nat} {M : fM} {l0 : Int} {r : Int} {Q : fO → fH → Prop} (h : s_X10_isBlank M l0 = some r) (H : Q (oI r) (156, fjl L, M)) : Wp (d + 0, 139, 0, 0, 0, [some (fI l0)], []) (156, fjl L, M) Q := by
  unfold s_X10_isBlank at h
  refine Wp.run 2 (f' := (d + 0, 139, 3, 0, 0, [some (fI l0)], [fI 32, fI l0])) (h' := (156, fjl L, M)) rfl trivial ?_
  refine Wp.br rfl (fun (c : l0 = 32) => ?_) (fun (c : ¬ (l0 = 32)) => ?_)
  · replace h := fps c h
    refine Wp.run 2 (f' := (d + 0, 139, 17, 0, 0, [_], [fI 1])) (h' := (156, fjl L, M)) rfl trivial ?_
    obtain rfl := Option.some.inj h
    exact Wp.done rfl (by decide) H
  · replace h := fng c h
    refine Wp.run 2 (f' := (d + 0, 139, 9, 0, 0, [_], [fI 10, fI l0])) (h' := (156, fjl L, M)) rfl trivial ?_
    refine Wp.br rfl (fun (c : ¬ l0 = 10) => ?_) (fun (c : ¬ (¬ l0 = 10)) => ?_)
    · replace h := fps c h
      refine Wp.run 1 (f' := (d + 0, 139, 17, 0, 0, [_], [fI 0])) (h' := (156, fjl L, M)) rfl trivial ?_
      obtain rfl := Option.some.inj h
      exact Wp.done rfl (by decide) H
    · replace h := fng c h
      refine Wp.run 2 (f' := (d + 0, 139, 17, 0, 0, [_], [fI 1])) (h' := (156, fjl L, M)) rfl trivial ?_
      obtain rfl := Option.some.inj h
      exact Wp.done rfl (by decide) H
noncomputable def s_X10_isLetter (M : fM) (l0 : Int) : Option Int :=
  if l0 < 97 then
    some 0
  else
    if 122 < l0 then
      some 0
    else
      some 1
theorem s_X10_isLetter_ok {d L : Nat} {M : fM} {l0 : Int} {r : Int} {Q : fO → fH → Prop} (h : s_X10_isLetter M l0 = some r) (H : Q (oI r) (156, fjl L, M)) : Wp (d + 0, 140, 0, 0, 0, [some (fI l0)], []) (156, fjl L, M) Q := by
  unfold s_X10_isLetter at h
  refine Wp.run 2 (f' := (d + 0, 140, 3, 0, 0, [some (fI l0)], [fI 97, fI l0])) (h' := (156, fjl L, M)) rfl trivial ?_
  refine Wp.br rfl (fun (c : l0 < 97) => ?_) (fun (c : ¬ (l0 < 97)) => ?_)
  · replace h := fps c h
    refine Wp.run 1 (f' := (d + 0, 140, 17, 0, 0, [_], [fI 0])) (h' := (156, fjl L, M)) rfl trivial ?_
    obtain rfl := Option.some.inj h
    exact Wp.done rfl (by decide) H
  · replace h := fng c h
    refine Wp.run 2 (f' := (d + 0, 140, 9, 0, 0, [_], [fI 122, fI l0])) (h' := (156, fjl L, M)) rfl trivial ?_
    refine Wp.br rfl (fun (c : 122 < l0) => ?_) (fun (c : ¬ (122 < l0)) => ?_)
    · replace h := fps c h
      refine Wp.run 1 (f' := (d + 0, 140, 17, 0, 0, [_], [fI 0])) (h' := (156, fjl L, M)) rfl trivial ?_
      obtain rfl := Option.some.inj h
      exact Wp.done rfl (by decide) H
    · replace h := fng c h
      refine Wp.run 2 (f' := (d + 0, 140, 17, 0, 0, [_], [fI 1])) (h' := (156, fjl L, M)) rfl trivial ?_
      obtain rfl := Option.some.inj h
      exact Wp.done rfl (by decide) H
noncomputable def s_X10_isDigit (M : fM) (l0 : Int) : Option Int :=
  if l0 < 48 then
    some 0
  else
    if 57 < l0 then
      some 0
    else
      some 1
theorem s_X10_isDigit_ok {d L : Nat} {M : fM} {l0 : Int} {r : Int} {Q : fO → fH → Prop} (h : s_X10_isDigit M l0 = some r) (H : Q (oI r) (156, fjl L, M)) : Wp (d + 0, 141, 0, 0, 0, [some (fI l0)], []) (156, fjl L, M) Q := by
  unfold s_X10_isDigit at h
  refine Wp.run 2 (f' := (d + 0, 141, 3, 0, 0, [some (fI l0)], [fI 48, fI l0])) (h' := (156, fjl L, M)) rfl trivial ?_
  refine Wp.br rfl (fun (c : l0 < 48) => ?_) (fun (c : ¬ (l0 < 48)) => ?_)
  · replace h := fps c h
    refine Wp.run 1 (f' := (d + 0, 141, 17, 0, 0, [_], [fI 0])) (h' := (156, fjl L, M)) rfl trivial ?_
    obtain rfl := Option.some.inj h
    exact Wp.done rfl (by decide) H
  · replace h := fng c h
    refine Wp.run 2 (f' := (d + 0, 141, 9, 0, 0, [_], [fI 57, fI l0])) (h' := (156, fjl L, M)) rfl trivial ?_
    refine Wp.br rfl (fun (c : 57 < l0) => ?_) (fun (c : ¬ (57 < l0)) => ?_)
    · replace h := fps c h
      refine Wp.run 1 (f' := (d + 0, 141, 17, 0, 0, [_], [fI 0])) (h' := (156, fjl L, M)) rfl trivial ?_
      obtain rfl := Option.some.inj h
      exact Wp.done rfl (by decide) H
    · replace h := fng c h
      refine Wp.run 2 (f' := (d + 0, 141, 17, 0, 0, [_], [fI 1])) (h' := (156, fjl L, M)) rfl trivial ?_
      obtain rfl := Option.some.inj h
      exact Wp.done rfl (by decide) H
noncomputable def s_X10_withLetter (M : fM) (l0 l2 : Int) : Option Int :=
  if fin (l2 - 97) ∧ fin ((l2 - 97) + 1) then
    some (fwl ((fwl (l0 * 32)) + ((l2 - 97) + 1)))
  else none
theorem s_X10_withLetter_ok {d L : Nat} {M : fM} {l0 l2 : Int} {r : Int} {Q : fO → fH → Prop} (h : s_X10_withLetter M l0 l2 = some r) (H : Q (oJ r) (156, fjl L, M)) : Wp (d + 0, 130, 0, 0, 0, [some (fJ l0), none, some (fI l2)], []) (156, fjl L, M) Q := by
  unfold s_X10_withLetter at h
  obtain ⟨⟨g0, g1⟩, h⟩ := fgd h
  refine Wp.run 10 (f' := (d + 0, 130, 13, 0, 0, [_, _, _], [fJ (fwl ((fwl (l0 * 32)) + (fw ((fw (l2 - 97)) + 1))))])) (h' := (156, fjl L, M)) rfl trivial ?_
  rw [fw_id g0, fw_id g1]
  obtain rfl := Option.some.inj h
  exact Wp.done rfl (by decide) H
