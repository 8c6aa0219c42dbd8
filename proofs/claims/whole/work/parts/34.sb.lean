/-! ===== functions of the methods (printed by genfun.py) ===== -/
abbrev s_X10_takeRun_mods : List (Nat × Option Nat) := [(1, some 4), (1, some 6), (1, some 7), (1, some 8)]
noncomputable def s_X10_takeRun_b14 (M : fM) (l1 l2 : Int) : Option ((Int × Int × fM) ⊕ (Int × Int × fM)) :=
  if (M 1 2) ≤ (M 1 4) then
    some (.inr (l1, l2, M))
  else
    if (0 ≤ (M 1 4) ∧ (M 1 4) < 1240) then
      (s_X10_isLetter M (M 2 (M 1 4).toNat)).bind fun y36 =>
        if y36 = 0 then
          (s_X10_isDigit M (M 2 (M 1 4).toNat)).bind fun y61 =>
            if y61 = 0 then
              some (.inr (l1, l2, M))
            else
              if fin (l2 + 1) ∧ fin ((M 2 (M 1 4).toNat) - 48) ∧ fin ((M 1 4) + 1) then
                some (.inl (l1, (l2 + 1), (fup (fup M 1 7 (fw ((fw ((M 1 7) * 10)) + ((M 2 (M 1 4).toNat) - 48)))) 1 4 ((M 1 4) + 1))))
              else none
        else
          if fin (l1 + 1) then
            (s_X10_withLetter M (M 1 8) (M 2 (M 1 4).toNat)).bind fun y51 =>
              if fin ((M 1 4) + 1) then
                some (.inl ((l1 + 1), l2, (fup (fup M 1 8 y51) 1 4 ((M 1 4) + 1))))
              else none
          else none
    else none
theorem s_X10_takeRun_b14_ok {d L : Nat} {M : fM} {l1 l2 : Int} {o3 : Option fV} {r : ((Int × Int × fM) ⊕ (Int × Int × fM))} {Q : fO → fH → Prop} (h : s_X10_takeRun_b14 M l1 l2 = some r) (hC : ∀ (l1' l2' : Int) (M' : fM) (o3' : Option fV), r = .inl (l1', l2', M') → Wp (d + 1, 138, 14, 0, 0, [some (fA 1), some (fI l1'), some (fI l2'), o3'], []) (156, fjl L, M') Q) (hE : ∀ (e : (Int × Int × fM)) (o3' : Option fV), r = .inr e → Wp (d + 1, 138, 99, 0, 0, [some (fA 1), some (fI e.1), some (fI e.2.1), o3'], []) (156, fjl L, e.2.2) Q) : Wp (d + 1, 138, 14, 0, 0, [some (fA 1), some (fI l1), some (fI l2), o3], []) (156, fjl L, M) Q := by
  unfold s_X10_takeRun_b14 at h
  refine Wp.run 4 (f' := (d + 1, 138, 22, 0, 0, [some (fA 1), some (fI l1), some (fI l2), _], [fI (M 1 2), fI (M 1 4)])) (h' := (156, fjl L, M)) rfl trivial ?_
  refine Wp.br rfl (fun (c : (M 1 2) ≤ (M 1 4)) => ?_) (fun (c : ¬ ((M 1 2) ≤ (M 1 4))) => ?_)
  · replace h := fps c h
    exact hE _ _ (Option.some.inj h).symm
  · replace h := fng c h
    obtain ⟨g0, h⟩ := fgd h
    refine Wp.run 7 (P := [0 ≤ (M 1 4) ∧ (M 1 4) < 1240]) (f' := (d + 1, 138, 36, 0, 0, [some (fA 1), some (fI l1), some (fI l2), some (fI (M 2 (M 1 4).toNat))], [fI (M 2 (M 1 4).toNat)])) (h' := (156, fjl L, M)) rfl ?_ ?_
    · exact g0
    obtain ⟨y36, hy, h⟩ := fbd h
    refine Wp.call rfl (by decide) (s_X10_isLetter_ok (d := d + 0) hy ?_)
    show Wp (d + 1, 138, 39, 0, 0, [some (fA 1), some (fI l1), some (fI l2), some (fI (M 2 (M 1 4).toNat))], [fI y36]) (156, fjl L, M) Q
    refine Wp.br rfl (fun (c : y36 = 0) => ?_) (fun (c : ¬ (y36 = 0)) => ?_)
    · replace h := fps c h
      refine Wp.run 1 (f' := (d + 1, 138, 61, 0, 0, [some (fA 1), some (fI l1), some (fI l2), some (fI (M 2 (M 1 4).toNat))], [fI (M 2 (M 1 4).toNat)])) (h' := (156, fjl L, M)) rfl trivial ?_
      obtain ⟨y61, hy, h⟩ := fbd h
      refine Wp.call rfl (by decide) (s_X10_isDigit_ok (d := d + 0) hy ?_)
      show Wp (d + 1, 138, 64, 0, 0, [some (fA 1), some (fI l1), some (fI l2), some (fI (M 2 (M 1 4).toNat))], [fI y61]) (156, fjl L, M) Q
      refine Wp.br rfl (fun (c : y61 = 0) => ?_) (fun (c : ¬ (y61 = 0)) => ?_)
      · replace h := fps c h
        exact hE _ _ (Option.some.inj h).symm
      · replace h := fng c h
        obtain ⟨⟨g0, g1, g2⟩, h⟩ := fgd h
        refine Wp.run 18 (f' := (d + 1, 138, 14, 0, 0, [some (fA 1), some (fI l1), some (fI (fw (l2 + 1))), _], [])) (h' := (156, fjl L, (fup (fup M 1 7 (fw ((fw ((M 1 7) * 10)) + (fw ((M 2 (M 1 4).toNat) - 48))))) 1 4 (fw ((M 1 4) + 1))))) rfl trivial ?_
        rw [fw_id g0, fw_id g1, fw_id g2]
        exact hC _ _ _ _ (Option.some.inj h).symm
    · replace h := fng c h
      obtain ⟨g0, h⟩ := fgd h
      refine Wp.run 5 (f' := (d + 1, 138, 51, 0, 0, [some (fA 1), some (fI (fw (l1 + 1))), some (fI l2), _], [fI (M 2 (M 1 4).toNat), fJ (M 1 8), fA 1])) (h' := (156, fjl L, M)) rfl trivial ?_
      rw [fw_id g0]
      obtain ⟨y51, hy, h⟩ := fbd h
      refine Wp.call rfl (by decide) (s_X10_withLetter_ok (d := d + 0) hy ?_)
      show Wp (d + 1, 138, 54, 0, 0, [some (fA 1), some (fI (l1 + 1)), some (fI l2), _], [fJ y51, fA 1]) (156, fjl L, M) Q
      obtain ⟨g0, h⟩ := fgd h
      refine Wp.run 9 (f' := (d + 1, 138, 14, 0, 0, [some (fA 1), some (fI (l1 + 1)), some (fI l2), _], [])) (h' := (156, fjl L, (fup (fup M 1 8 y51) 1 4 (fw ((M 1 4) + 1))))) rfl trivial ?_
      rw [fw_id g0]
      exact hC _ _ _ _ (Option.some.inj h).symm
theorem s_X10_takeRun_b14_fr {M : fM} {l1 l2 : Int} {r : ((Int × Int × fM) ⊕ (Int × Int × fM))} (h : s_X10_takeRun_b14 M l1 l2 = some r) : fSame s_X10_takeRun_mods M (Sum.elim (fun s => s.2.2) (fun e => e.2.2) r) := by
  unfold s_X10_takeRun_b14 at h
  by_cases c : (M 1 2) ≤ (M 1 4)
  · replace h := fps c h
    obtain rfl := Option.some.inj h
    exact fs_refl
  · replace h := fng c h
    replace h := (fgd h).2
    obtain ⟨y36, hy, h⟩ := fbd h
    by_cases c : y36 = 0
    · replace h := fps c h
      obtain ⟨y61, hy, h⟩ := fbd h
      by_cases c : y61 = 0
      · replace h := fps c h
        obtain rfl := Option.some.inj h
        exact fs_refl
      · replace h := fng c h
        replace h := (fgd h).2
        obtain rfl := Option.some.inj h
        exact fs_up (fs_up fs_refl (.inr (by decide))) (.inr (by decide))
    · replace h := fng c h
      replace h := (fgd h).2
      obtain ⟨y51, hy, h⟩ := fbd h
      replace h := (fgd h).2
      obtain rfl := Option.some.inj h
      exact fs_up (fs_up fs_refl (.inr (by decide))) (.inr (by decide))
noncomputable def s_X10_takeRun_l14 (s : (Int × Int × fM)) : Option (Int × Int × fM) := fLp (fun s => s_X10_takeRun_b14 s.2.2 s.1 s.2.1) s
theorem s_X10_takeRun_l14_ok {d L : Nat} {M : fM} {l1 l2 : Int} {o3 : Option fV} {r : (Int × Int × fM)} {Q : fO → fH → Prop} (h : s_X10_takeRun_l14 (l1, l2, M) = some r) (hE : ∀ (e : (Int × Int × fM)) (o3' : Option fV), r = e → Wp (d + 1, 138, 99, 0, 0, [some (fA 1), some (fI e.1), some (fI e.2.1), o3'], []) (156, fjl L, e.2.2) Q) : Wp (d + 1, 138, 14, 0, 0, [some (fA 1), some (fI l1), some (fI l2), o3], []) (156, fjl L, M) Q := by
  refine fLp_wp (W := fun s => ∀ (o3 : Option fV), Wp (d + 1, 138, 14, 0, 0, [some (fA 1), some (fI s.1), some (fI s.2.1), o3], []) (156, fjl L, s.2.2) Q) (e := r) ?_ h _
  intro s r1 h hC hX o3
  refine s_X10_takeRun_b14_ok (d := d) h (fun a0 a1 a2 _ e1 => ?_) (fun e u0 e1 => hE e u0 (hX _ e1).symm)
  exact hC _ e1 _
theorem s_X10_takeRun_l14_fr {M : fM} {l1 l2 : Int} {r : (Int × Int × fM)} (h : s_X10_takeRun_l14 (l1, l2, M) = some r) : fSame s_X10_takeRun_mods M ((fun e => e.2.2) r) := by
  refine fLp_inv (I := fun s => fSame s_X10_takeRun_mods M s.2.2) (J := fun r => fSame s_X10_takeRun_mods M ((fun e => e.2.2) r)) h fs_refl (fun s s1 hs hb => ?_) (fun s e hs hb => ?_)
  · exact fs_trans hs (s_X10_takeRun_b14_fr hb)
  · exact fs_trans hs (s_X10_takeRun_b14_fr hb)
noncomputable def s_X10_takeRun_j117 (M : fM) (l1 l2 : Int) : Option (Unit × fM) :=
  if ¬ l1 = 0 then
    some ((), (fup M 1 6 1))
  else
    if 5 < l2 then
      some ((), (fup M 1 6 1))
    else
      some ((), (fup M 1 6 3))
theorem s_X10_takeRun_j117_ok {d L : Nat} {M : fM} {l1 l2 : Int} {o3 : Option fV} {r : (Unit × fM)} {Q : fO → fH → Prop} (h : s_X10_takeRun_j117 M l1 l2 = some r) (H : Q (oV r.1) (156, fjl L, r.2)) : Wp (d + 1, 138, 117, 0, 0, [some (fA 1), some (fI l1), some (fI l2), o3], []) (156, fjl L, M) Q := by
  unfold s_X10_takeRun_j117 at h
  refine Wp.run 1 (f' := (d + 1, 138, 118, 0, 0, [some (fA 1), _, some (fI l2), _], [fI l1])) (h' := (156, fjl L, M)) rfl trivial ?_
  refine Wp.br rfl (fun (c : ¬ l1 = 0) => ?_) (fun (c : ¬ (¬ l1 = 0)) => ?_)
  · replace h := fps c h
    refine Wp.run 3 (f' := (d + 1, 138, 139, 0, 0, [_, _, _, _], [])) (h' := (156, fjl L, (fup M 1 6 1))) rfl trivial ?_
    obtain rfl := Option.some.inj h
    exact Wp.done rfl (by decide) H
  · replace h := fng c h
    refine Wp.run 2 (f' := (d + 1, 138, 123, 0, 0, [some (fA 1), _, _, _], [fI 5, fI l2])) (h' := (156, fjl L, M)) rfl trivial ?_
    refine Wp.br rfl (fun (c : 5 < l2) => ?_) (fun (c : ¬ (5 < l2)) => ?_)
    · replace h := fps c h
      refine Wp.run 3 (f' := (d + 1, 138, 139, 0, 0, [_, _, _, _], [])) (h' := (156, fjl L, (fup M 1 6 1))) rfl trivial ?_
      obtain rfl := Option.some.inj h
      exact Wp.done rfl (by decide) H
    · replace h := fng c h
      refine Wp.run 4 (f' := (d + 1, 138, 139, 0, 0, [_, _, _, _], [])) (h' := (156, fjl L, (fup M 1 6 3))) rfl trivial ?_
      obtain rfl := Option.some.inj h
      exact Wp.done rfl (by decide) H
theorem s_X10_takeRun_j117_fr {M : fM} {l1 l2 : Int} {r : (Unit × fM)} (h : s_X10_takeRun_j117 M l1 l2 = some r) : fSame s_X10_takeRun_mods M r.2 := by
  unfold s_X10_takeRun_j117 at h
  by_cases c : ¬ l1 = 0
  · replace h := fps c h
    obtain rfl := Option.some.inj h
    exact fs_up fs_refl (.inr (by decide))
  · replace h := fng c h
    by_cases c : 5 < l2
    · replace h := fps c h
      obtain rfl := Option.some.inj h
      exact fs_up fs_refl (.inr (by decide))
    · replace h := fng c h
      obtain rfl := Option.some.inj h
      exact fs_up fs_refl (.inr (by decide))
noncomputable def s_X10_takeRun_j99 (M : fM) (l1 l2 : Int) : Option (Unit × fM) :=
  if ¬ l2 = 0 then
    s_X10_takeRun_j117 M l1 l2
  else
    if 8 < l1 then
      s_X10_takeRun_j117 M l1 l2
    else
      some ((), (fup M 1 6 2))
theorem s_X10_takeRun_j99_ok {d L : Nat} {M : fM} {l1 l2 : Int} {o3 : Option fV} {r : (Unit × fM)} {Q : fO → fH → Prop} (h : s_X10_takeRun_j99 M l1 l2 = some r) (H : Q (oV r.1) (156, fjl L, r.2)) : Wp (d + 1, 138, 99, 0, 0, [some (fA 1), some (fI l1), some (fI l2), o3], []) (156, fjl L, M) Q := by
  unfold s_X10_takeRun_j99 at h
  refine Wp.run 1 (f' := (d + 1, 138, 100, 0, 0, [some (fA 1), some (fI l1), some (fI l2), _], [fI l2])) (h' := (156, fjl L, M)) rfl trivial ?_
  refine Wp.br rfl (fun (c : ¬ l2 = 0) => ?_) (fun (c : ¬ (¬ l2 = 0)) => ?_)
  · replace h := fps c h
    exact s_X10_takeRun_j117_ok h H
  · replace h := fng c h
    refine Wp.run 2 (f' := (d + 1, 138, 106, 0, 0, [some (fA 1), some (fI l1), some (fI l2), _], [fI 8, fI l1])) (h' := (156, fjl L, M)) rfl trivial ?_
    refine Wp.br rfl (fun (c : 8 < l1) => ?_) (fun (c : ¬ (8 < l1)) => ?_)
    · replace h := fps c h
      exact s_X10_takeRun_j117_ok h H
    · replace h := fng c h
      refine Wp.run 4 (f' := (d + 1, 138, 139, 0, 0, [_, _, _, _], [])) (h' := (156, fjl L, (fup M 1 6 2))) rfl trivial ?_
      obtain rfl := Option.some.inj h
      exact Wp.done rfl (by decide) H
theorem s_X10_takeRun_j99_fr {M : fM} {l1 l2 : Int} {r : (Unit × fM)} (h : s_X10_takeRun_j99 M l1 l2 = some r) : fSame s_X10_takeRun_mods M r.2 := by
  unfold s_X10_takeRun_j99 at h
  by_cases c : ¬ l2 = 0
  · replace h := fps c h
    exact fs_trans fs_refl (s_X10_takeRun_j117_fr h)
  · replace h := fng c h
    by_cases c : 8 < l1
    · replace h := fps c h
      exact fs_trans fs_refl (s_X10_takeRun_j117_fr h)
    · replace h := fng c h
      obtain rfl := Option.some.inj h
      exact fs_up fs_refl (.inr (by decide))
noncomputable def s_X10_takeRun (M : fM) : Option (Unit × fM) :=
  (s_X10_takeRun_l14 (0, 0, (fup (fup M 1 8 0) 1 7 0))).bind fun e14 =>
    s_X10_takeRun_j99 e14.2.2 e14.1 e14.2.1
theorem s_X10_takeRun_ok {d L : Nat} {M : fM} {r : (Unit × fM)} {Q : fO → fH → Prop} (h : s_X10_takeRun M = some r) (H : Q (oV r.1) (156, fjl L, r.2)) : Wp (d + 1, 138, 0, 0, 0, [some (fA 1), none, none, none], []) (156, fjl L, M) Q := by
  unfold s_X10_takeRun at h
  refine Wp.run 10 (f' := (d + 1, 138, 14, 0, 0, [some (fA 1), some (fI 0), some (fI 0), _], [])) (h' := (156, fjl L, (fup (fup M 1 8 0) 1 7 0))) rfl trivial ?_
  obtain ⟨e14, hy, h⟩ := fbd h
  refine s_X10_takeRun_l14_ok hy (fun x u3 ex => ?_)
  cases ex
  show Wp (d + 1, 138, 99, 0, 0, [some (fA 1), some (fI e14.1), some (fI e14.2.1), u3], []) (156, fjl L, e14.2.2) Q
  exact s_X10_takeRun_j99_ok h H
theorem s_X10_takeRun_fr {M : fM} {r : (Unit × fM)} (h : s_X10_takeRun M = some r) : fSame s_X10_takeRun_mods M r.2 := by
  unfold s_X10_takeRun at h
  obtain ⟨e14, hy, h⟩ := fbd h
  have k14 := fs_trans (l := s_X10_takeRun_mods) (fs_up (fs_up fs_refl (.inr (by decide))) (.inr (by decide))) (s_X10_takeRun_l14_fr hy)
  exact fs_trans k14 (s_X10_takeRun_j99_fr h)
abbrev s_X10_take_mods : List (Nat × Option Nat) := [(1, some 4), (1, some 5), (1, some 6), (1, some 7), (1, some 8)]
noncomputable def s_X10_take_b0 (M : fM) : Option (fM ⊕ fM) :=
  if (M 1 2) ≤ (M 1 4) then
    some (.inr M)
  else
    if (0 ≤ (M 1 4) ∧ (M 1 4) < 1240) then
      (s_X10_isBlank M (M 2 (M 1 4).toNat)).bind fun y20 =>
        if y20 = 0 then
          some (.inr M)
        else
          if fin ((M 1 4) + 1) then
            some (.inl (fup M 1 4 ((M 1 4) + 1)))
          else none
    else none
theorem s_X10_take_b0_ok {d L : Nat} {M : fM} {o1 : Option fV} {r : (fM ⊕ fM)} {Q : fO → fH → Prop} (h : s_X10_take_b0 M = some r) (hC : ∀ (M' : fM) (o1' : Option fV), r = .inl M' → Wp (d + 2, 137, 0, 0, 0, [some (fA 1), o1'], []) (156, fjl L, M') Q) (hE : ∀ (e : fM) (o1' : Option fV), r = .inr e → Wp (d + 2, 137, 39, 0, 0, [some (fA 1), o1'], []) (156, fjl L, e) Q) : Wp (d + 2, 137, 0, 0, 0, [some (fA 1), o1], []) (156, fjl L, M) Q := by
  unfold s_X10_take_b0 at h
  refine Wp.run 4 (f' := (d + 2, 137, 8, 0, 0, [some (fA 1), _], [fI (M 1 2), fI (M 1 4)])) (h' := (156, fjl L, M)) rfl trivial ?_
  refine Wp.br rfl (fun (c : (M 1 2) ≤ (M 1 4)) => ?_) (fun (c : ¬ ((M 1 2) ≤ (M 1 4))) => ?_)
  · replace h := fps c h
    exact hE _ _ (Option.some.inj h).symm
  · replace h := fng c h
    obtain ⟨g0, h⟩ := fgd h
    refine Wp.run 5 (P := [0 ≤ (M 1 4) ∧ (M 1 4) < 1240]) (f' := (d + 2, 137, 20, 0, 0, [some (fA 1), _], [fI (M 2 (M 1 4).toNat)])) (h' := (156, fjl L, M)) rfl ?_ ?_
    · exact g0
    obtain ⟨y20, hy, h⟩ := fbd h
    refine Wp.call rfl (by decide) (s_X10_isBlank_ok (d := d + 1) hy ?_)
    show Wp (d + 2, 137, 23, 0, 0, [some (fA 1), _], [fI y20]) (156, fjl L, M) Q
    refine Wp.br rfl (fun (c : y20 = 0) => ?_) (fun (c : ¬ (y20 = 0)) => ?_)
    · replace h := fps c h
      exact hE _ _ (Option.some.inj h).symm
    · replace h := fng c h
      obtain ⟨g0, h⟩ := fgd h
      refine Wp.run 7 (f' := (d + 2, 137, 0, 0, 0, [some (fA 1), _], [])) (h' := (156, fjl L, (fup M 1 4 (fw ((M 1 4) + 1))))) rfl trivial ?_
      rw [fw_id g0]
      exact hC _ _ (Option.some.inj h).symm
theorem s_X10_take_b0_fr {M : fM} {r : (fM ⊕ fM)} (h : s_X10_take_b0 M = some r) : fSame s_X10_take_mods M (Sum.elim (fun s => s) (fun e => e) r) := by
  unfold s_X10_take_b0 at h
  by_cases c : (M 1 2) ≤ (M 1 4)
  · replace h := fps c h
    obtain rfl := Option.some.inj h
    exact fs_refl
  · replace h := fng c h
    replace h := (fgd h).2
    obtain ⟨y20, hy, h⟩ := fbd h
    by_cases c : y20 = 0
    · replace h := fps c h
      obtain rfl := Option.some.inj h
      exact fs_refl
    · replace h := fng c h
      replace h := (fgd h).2
      obtain rfl := Option.some.inj h
      exact fs_up fs_refl (.inr (by decide))
noncomputable def s_X10_take_l0 (s : fM) : Option fM := fLp (fun s => s_X10_take_b0 s) s
theorem s_X10_take_l0_ok {d L : Nat} {M : fM} {o1 : Option fV} {r : fM} {Q : fO → fH → Prop} (h : s_X10_take_l0 M = some r) (hE : ∀ (e : fM) (o1' : Option fV), r = e → Wp (d + 2, 137, 39, 0, 0, [some (fA 1), o1'], []) (156, fjl L, e) Q) : Wp (d + 2, 137, 0, 0, 0, [some (fA 1), o1], []) (156, fjl L, M) Q := by
  refine fLp_wp (W := fun s => ∀ (o1 : Option fV), Wp (d + 2, 137, 0, 0, 0, [some (fA 1), o1], []) (156, fjl L, s) Q) (e := r) ?_ h _
  intro s r1 h hC hX o1
  refine s_X10_take_b0_ok (d := d) h (fun a0 _ e1 => ?_) (fun e u0 e1 => hE e u0 (hX _ e1).symm)
  exact hC _ e1 _
theorem s_X10_take_l0_fr {M : fM} {r : fM} (h : s_X10_take_l0 M = some r) : fSame s_X10_take_mods M ((fun e => e) r) := by
  refine fLp_inv (I := fun s => fSame s_X10_take_mods M s) (J := fun r => fSame s_X10_take_mods M ((fun e => e) r)) h fs_refl (fun s s1 hs hb => ?_) (fun s e hs hb => ?_)
  · exact fs_trans hs (s_X10_take_b0_fr hb)
  · exact fs_trans hs (s_X10_take_b0_fr hb)
noncomputable def s_X10_take_j124 (M : fM) : Option (Unit × fM) :=
  (s_X10_takeRun M).bind fun y125 =>
    some ((), y125.2)
theorem s_X10_take_j124_ok {d L : Nat} {M : fM} {o1 : Option fV} {r : (Unit × fM)} {Q : fO → fH → Prop} (h : s_X10_take_j124 M = some r) (H : Q (oV r.1) (156, fjl L, r.2)) : Wp (d + 2, 137, 124, 0, 0, [some (fA 1), o1], []) (156, fjl L, M) Q := by
  unfold s_X10_take_j124 at h
  refine Wp.run 1 (f' := (d + 2, 137, 125, 0, 0, [_, _], [fA 1])) (h' := (156, fjl L, M)) rfl trivial ?_
  obtain ⟨y125, hy, h⟩ := fbd h
  refine Wp.call rfl (by decide) (s_X10_takeRun_ok (d := d + 0) hy ?_)
  show Wp (d + 2, 137, 128, 0, 0, [_, _], []) (156, fjl L, y125.2) Q
  obtain rfl := Option.some.inj h
  exact Wp.done rfl (by decide) H
theorem s_X10_take_j124_fr {M : fM} {r : (Unit × fM)} (h : s_X10_take_j124 M = some r) : fSame s_X10_take_mods M r.2 := by
  unfold s_X10_take_j124 at h
  obtain ⟨y125, hy, h⟩ := fbd h
  have k125 := fs_trans (l := s_X10_take_mods) fs_refl (fs_mono (l := s_X10_takeRun_mods) (by decide) (s_X10_takeRun_fr hy))
  obtain rfl := Option.some.inj h
  exact k125
noncomputable def s_X10_take_j75 (M : fM) : Option (Unit × fM) :=
  if (M 1 4) < (M 1 2) then
    if (0 ≤ (M 1 4) ∧ (M 1 4) < 1240) then
      (s_X10_isLetter (fup M 1 5 (M 1 4)) (M 2 (M 1 4).toNat)).bind fun y111 =>
        if ¬ y111 = 0 then
          s_X10_take_j124 (fup M 1 5 (M 1 4))
        else
          (s_X10_isDigit (fup M 1 5 (M 1 4)) (M 2 (M 1 4).toNat)).bind fun y118 =>
            if y118 = 0 then
              if fin ((M 1 4) + 1) then
                if ¬ (M 2 (M 1 4).toNat) = 59 then
                  if ¬ (M 2 (M 1 4).toNat) = 45 then
                    some ((), (fup (fup (fup M 1 5 (M 1 4)) 1 4 ((M 1 4) + 1)) 1 6 1))
                  else
                    some ((), (fup (fup (fup M 1 5 (M 1 4)) 1 4 ((M 1 4) + 1)) 1 6 5))
                else
                  some ((), (fup (fup (fup M 1 5 (M 1 4)) 1 4 ((M 1 4) + 1)) 1 6 4))
              else none
            else
              s_X10_take_j124 (fup M 1 5 (M 1 4))
    else none
  else
    some ((), (fup (fup M 1 5 (M 1 4)) 1 6 0))
theorem s_X10_take_j75_ok {d L : Nat} {M : fM} {o1 : Option fV} {r : (Unit × fM)} {Q : fO → fH → Prop} (h : s_X10_take_j75 M = some r) (H : Q (oV r.1) (156, fjl L, r.2)) : Wp (d + 2, 137, 75, 0, 0, [some (fA 1), o1], []) (156, fjl L, M) Q := by
  unfold s_X10_take_j75 at h
  refine Wp.run 8 (f' := (d + 2, 137, 91, 0, 0, [some (fA 1), _], [fI (M 1 2), fI (M 1 4)])) (h' := (156, fjl L, (fup M 1 5 (M 1 4)))) rfl trivial ?_
  refine Wp.br rfl (fun (c : (M 1 4) < (M 1 2)) => ?_) (fun (c : ¬ ((M 1 4) < (M 1 2))) => ?_)
  · replace h := fps c h
    obtain ⟨g0, h⟩ := fgd h
    refine Wp.run 7 (P := [0 ≤ (M 1 4) ∧ (M 1 4) < 1240]) (f' := (d + 2, 137, 111, 0, 0, [some (fA 1), some (fI (M 2 (M 1 4).toNat))], [fI (M 2 (M 1 4).toNat)])) (h' := (156, fjl L, (fup M 1 5 (M 1 4)))) rfl ?_ ?_
    · exact g0
    obtain ⟨y111, hy, h⟩ := fbd h
    refine Wp.call rfl (by decide) (s_X10_isLetter_ok (d := d + 1) hy ?_)
    show Wp (d + 2, 137, 114, 0, 0, [some (fA 1), some (fI (M 2 (M 1 4).toNat))], [fI y111]) (156, fjl L, (fup M 1 5 (M 1 4))) Q
    refine Wp.br rfl (fun (c : ¬ y111 = 0) => ?_) (fun (c : ¬ (¬ y111 = 0)) => ?_)
    · replace h := fps c h
      exact s_X10_take_j124_ok h H
    · replace h := fng c h
      refine Wp.run 1 (f' := (d + 2, 137, 118, 0, 0, [some (fA 1), some (fI (M 2 (M 1 4).toNat))], [fI (M 2 (M 1 4).toNat)])) (h' := (156, fjl L, (fup M 1 5 (M 1 4)))) rfl trivial ?_
      obtain ⟨y118, hy, h⟩ := fbd h
      refine Wp.call rfl (by decide) (s_X10_isDigit_ok (d := d + 1) hy ?_)
      show Wp (d + 2, 137, 121, 0, 0, [some (fA 1), some (fI (M 2 (M 1 4).toNat))], [fI y118]) (156, fjl L, (fup M 1 5 (M 1 4))) Q
      refine Wp.br rfl (fun (c : y118 = 0) => ?_) (fun (c : ¬ (y118 = 0)) => ?_)
      · replace h := fps c h
        obtain ⟨g0, h⟩ := fgd h
        refine Wp.run 9 (f' := (d + 2, 137, 143, 0, 0, [_, some (fI (M 2 (M 1 4).toNat))], [fI 59, fI (M 2 (M 1 4).toNat), fA 1])) (h' := (156, fjl L, (fup (fup M 1 5 (M 1 4)) 1 4 (fw ((M 1 4) + 1))))) rfl trivial ?_
        rw [fw_id g0]
        refine Wp.br rfl (fun (c : ¬ (M 2 (M 1 4).toNat) = 59) => ?_) (fun (c : ¬ (¬ (M 2 (M 1 4).toNat) = 59)) => ?_)
        · replace h := fps c h
          refine Wp.run 2 (f' := (d + 2, 137, 153, 0, 0, [_, _], [fI 45, fI (M 2 (M 1 4).toNat), fA 1])) (h' := (156, fjl L, (fup (fup M 1 5 (M 1 4)) 1 4 ((M 1 4) + 1)))) rfl trivial ?_
          refine Wp.br rfl (fun (c : ¬ (M 2 (M 1 4).toNat) = 45) => ?_) (fun (c : ¬ (¬ (M 2 (M 1 4).toNat) = 45)) => ?_)
          · replace h := fps c h
            refine Wp.run 2 (f' := (d + 2, 137, 164, 0, 0, [_, _], [])) (h' := (156, fjl L, (fup (fup (fup M 1 5 (M 1 4)) 1 4 ((M 1 4) + 1)) 1 6 1))) rfl trivial ?_
            obtain rfl := Option.some.inj h
            exact Wp.done rfl (by decide) H
          · replace h := fng c h
            refine Wp.run 3 (f' := (d + 2, 137, 164, 0, 0, [_, _], [])) (h' := (156, fjl L, (fup (fup (fup M 1 5 (M 1 4)) 1 4 ((M 1 4) + 1)) 1 6 5))) rfl trivial ?_
            obtain rfl := Option.some.inj h
            exact Wp.done rfl (by decide) H
        · replace h := fng c h
          refine Wp.run 3 (f' := (d + 2, 137, 164, 0, 0, [_, _], [])) (h' := (156, fjl L, (fup (fup (fup M 1 5 (M 1 4)) 1 4 ((M 1 4) + 1)) 1 6 4))) rfl trivial ?_
          obtain rfl := Option.some.inj h
          exact Wp.done rfl (by decide) H
      · replace h := fng c h
        exact s_X10_take_j124_ok h H
  · replace h := fng c h
    refine Wp.run 3 (f' := (d + 2, 137, 99, 0, 0, [_, _], [])) (h' := (156, fjl L, (fup (fup M 1 5 (M 1 4)) 1 6 0))) rfl trivial ?_
    obtain rfl := Option.some.inj h
    exact Wp.done rfl (by decide) H
theorem s_X10_take_j75_fr {M : fM} {r : (Unit × fM)} (h : s_X10_take_j75 M = some r) : fSame s_X10_take_mods M r.2 := by
  unfold s_X10_take_j75 at h
  by_cases c : (M 1 4) < (M 1 2)
  · replace h := fps c h
    replace h := (fgd h).2
    obtain ⟨y111, hy, h⟩ := fbd h
    by_cases c : ¬ y111 = 0
    · replace h := fps c h
      exact fs_trans (fs_up fs_refl (.inr (by decide))) (s_X10_take_j124_fr h)
    · replace h := fng c h
      obtain ⟨y118, hy, h⟩ := fbd h
      by_cases c : y118 = 0
      · replace h := fps c h
        replace h := (fgd h).2
        by_cases c : ¬ (M 2 (M 1 4).toNat) = 59
        · replace h := fps c h
          by_cases c : ¬ (M 2 (M 1 4).toNat) = 45
          · replace h := fps c h
            obtain rfl := Option.some.inj h
            exact fs_up (fs_up (fs_up fs_refl (.inr (by decide))) (.inr (by decide))) (.inr (by decide))
          · replace h := fng c h
            obtain rfl := Option.some.inj h
            exact fs_up (fs_up (fs_up fs_refl (.inr (by decide))) (.inr (by decide))) (.inr (by decide))
        · replace h := fng c h
          obtain rfl := Option.some.inj h
          exact fs_up (fs_up (fs_up fs_refl (.inr (by decide))) (.inr (by decide))) (.inr (by decide))
      · replace h := fng c h
        exact fs_trans (fs_up fs_refl (.inr (by decide))) (s_X10_take_j124_fr h)
  · replace h := fng c h
    obtain rfl := Option.some.inj h
    exact fs_up (fs_up fs_refl (.inr (by decide))) (.inr (by decide))
noncomputable def s_X10_take_j39 (M : fM) : Option (Unit × fM) :=
  if (M 1 2) ≤ (M 1 3) then
    s_X10_take_j75 M
  else
    if (M 1 4) < (M 1 3) then
      s_X10_take_j75 M
    else
      some ((), (fup (fup M 1 5 (M 1 3)) 1 6 1))
theorem s_X10_take_j39_ok {d L : Nat} {M : fM} {o1 : Option fV} {r : (Unit × fM)} {Q : fO → fH → Prop} (h : s_X10_take_j39 M = some r) (H : Q (oV r.1) (156, fjl L, r.2)) : Wp (d + 2, 137, 39, 0, 0, [some (fA 1), o1], []) (156, fjl L, M) Q := by
  unfold s_X10_take_j39 at h
  refine Wp.run 4 (f' := (d + 2, 137, 47, 0, 0, [some (fA 1), _], [fI (M 1 3), fI (M 1 2)])) (h' := (156, fjl L, M)) rfl trivial ?_
  refine Wp.br rfl (fun (c : (M 1 2) ≤ (M 1 3)) => ?_) (fun (c : ¬ ((M 1 2) ≤ (M 1 3))) => ?_)
  · replace h := fps c h
    exact s_X10_take_j75_ok h H
  · replace h := fng c h
    refine Wp.run 4 (f' := (d + 2, 137, 58, 0, 0, [some (fA 1), _], [fI (M 1 3), fI (M 1 4)])) (h' := (156, fjl L, M)) rfl trivial ?_
    refine Wp.br rfl (fun (c : (M 1 4) < (M 1 3)) => ?_) (fun (c : ¬ ((M 1 4) < (M 1 3))) => ?_)
    · replace h := fps c h
      exact s_X10_take_j75_ok h H
    · replace h := fng c h
      refine Wp.run 7 (f' := (d + 2, 137, 74, 0, 0, [_, _], [])) (h' := (156, fjl L, (fup (fup M 1 5 (M 1 3)) 1 6 1))) rfl trivial ?_
      obtain rfl := Option.some.inj h
      exact Wp.done rfl (by decide) H
theorem s_X10_take_j39_fr {M : fM} {r : (Unit × fM)} (h : s_X10_take_j39 M = some r) : fSame s_X10_take_mods M r.2 := by
  unfold s_X10_take_j39 at h
  by_cases c : (M 1 2) ≤ (M 1 3)
  · replace h := fps c h
    exact fs_trans fs_refl (s_X10_take_j75_fr h)
  · replace h := fng c h
    by_cases c : (M 1 4) < (M 1 3)
    · replace h := fps c h
      exact fs_trans fs_refl (s_X10_take_j75_fr h)
    · replace h := fng c h
      obtain rfl := Option.some.inj h
      exact fs_up (fs_up fs_refl (.inr (by decide))) (.inr (by decide))
noncomputable def s_X10_take (M : fM) : Option (Unit × fM) :=
  (s_X10_take_l0 M).bind fun e0 =>
    s_X10_take_j39 e0
theorem s_X10_take_ok {d L : Nat} {M : fM} {r : (Unit × fM)} {Q : fO → fH → Prop} (h : s_X10_take M = some r) (H : Q (oV r.1) (156, fjl L, r.2)) : Wp (d + 2, 137, 0, 0, 0, [some (fA 1), none], []) (156, fjl L, M) Q := by
  unfold s_X10_take at h
  obtain ⟨e0, hy, h⟩ := fbd h
  refine s_X10_take_l0_ok hy (fun x u1 ex => ?_)
  cases ex
  show Wp (d + 2, 137, 39, 0, 0, [some (fA 1), u1], []) (156, fjl L, e0) Q
  exact s_X10_take_j39_ok h H
theorem s_X10_take_fr {M : fM} {r : (Unit × fM)} (h : s_X10_take M = some r) : fSame s_X10_take_mods M r.2 := by
  unfold s_X10_take at h
  obtain ⟨e0, hy, h⟩ := fbd h
  have k0 := fs_trans (l := s_X10_take_mods) fs_refl (s_X10_take_l0_fr hy)
  exact fs_trans k0 (s_X10_take_j39_fr h)
noncomputable def s_X10_keywordHere_b12 (M : fM) (l1 : Int) : Option (Int ⊕ (Unit ⊕ Int)) :=
  if 30 ≤ l1 then
    some (.inr (.inl ()))
  else
    if (0 ≤ l1 ∧ l1 < 30) then
      if ¬ (M 3 (l1).toNat) = (M 1 8) then
        if fin (l1 + 1) then
          some (.inl (l1 + 1))
        else none
      else
        some (.inr (.inr l1))
    else none
theorem s_X10_keywordHere_b12_ok {d L : Nat} {M : fM} {l1 : Int} {r : (Int ⊕ (Unit ⊕ Int))} {Q : fO → fH → Prop} (h : s_X10_keywordHere_b12 M l1 = some r) (hC : ∀ (l1' : Int), r = .inl l1' → Wp (d + 0, 145, 12, 0, 0, [some (fA 1), some (fI l1')], []) (156, fjl L, M) Q) (hE : ∀ (e : Unit) (o0' o1' : Option fV), r = .inr (.inl e) → Wp (d + 0, 145, 40, 0, 0, [o0', o1'], []) (156, fjl L, M) Q) (hR : ∀ (v : Int), r = .inr (.inr v) → Q (oI v) (156, fjl L, M)) : Wp (d + 0, 145, 12, 0, 0, [some (fA 1), some (fI l1)], []) (156, fjl L, M) Q := by
  unfold s_X10_keywordHere_b12 at h
  refine Wp.run 2 (f' := (d + 0, 145, 15, 0, 0, [some (fA 1), some (fI l1)], [fI 30, fI l1])) (h' := (156, fjl L, M)) rfl trivial ?_
  refine Wp.br rfl (fun (c : 30 ≤ l1) => ?_) (fun (c : ¬ (30 ≤ l1)) => ?_)
  · replace h := fps c h
    exact hE _ _ _ (Option.some.inj h).symm
  · replace h := fng c h
    obtain ⟨g0, h⟩ := fgd h
    refine Wp.run 7 (P := [0 ≤ l1 ∧ l1 < 30]) (f' := (d + 0, 145, 29, 0, 0, [some (fA 1), some (fI l1)], [fI (fcm (M 3 (l1).toNat) (M 1 8))])) (h' := (156, fjl L, M)) rfl ?_ ?_
    · exact g0
    refine Wp.br rfl (fun (c : ¬ (fcm (M 3 (l1).toNat) (M 1 8)) = 0) => ?_) (fun (c : ¬ (¬ (fcm (M 3 (l1).toNat) (M 1 8)) = 0)) => ?_)
    · replace c := (fcm_ne _ _).mp c
      replace h := fps c h
      obtain ⟨g0, h⟩ := fgd h
      refine Wp.run 2 (f' := (d + 0, 145, 12, 0, 0, [some (fA 1), some (fI (fw (l1 + 1)))], [])) (h' := (156, fjl L, M)) rfl trivial ?_
      rw [fw_id g0]
      exact hC _ (Option.some.inj h).symm
    · replace c := fun z => c ((fcm_ne _ _).mpr z)
      replace h := fng c h
      refine Wp.run 1 (f' := (d + 0, 145, 33, 0, 0, [_, _], [fI l1])) (h' := (156, fjl L, M)) rfl trivial ?_
      exact Wp.done rfl (by decide) (hR _ (Option.some.inj h).symm)
noncomputable def s_X10_keywordHere_l12 (M : fM) (s : Int) : Option (Unit ⊕ Int) := fLp (fun s => s_X10_keywordHere_b12 M s) s
theorem s_X10_keywordHere_l12_ok {d L : Nat} {M : fM} {l1 : Int} {r : (Unit ⊕ Int)} {Q : fO → fH → Prop} (h : s_X10_keywordHere_l12 M l1 = some r) (hE : ∀ (e : Unit) (o0' o1' : Option fV), r = .inl e → Wp (d + 0, 145, 40, 0, 0, [o0', o1'], []) (156, fjl L, M) Q) (hR : ∀ (v : Int), r = .inr v → Q (oI v) (156, fjl L, M)) : Wp (d + 0, 145, 12, 0, 0, [some (fA 1), some (fI l1)], []) (156, fjl L, M) Q := by
  refine fLp_wp (W := fun s => Wp (d + 0, 145, 12, 0, 0, [some (fA 1), some (fI s)], []) (156, fjl L, M) Q) (e := r) ?_ h
  intro s r1 h hC hX
  refine s_X10_keywordHere_b12_ok (d := d) h (fun a0 e1 => ?_) (fun e u0 u1 e1 => hE e u0 u1 (hX _ e1).symm) (fun v e1 => hR v (hX _ e1).symm)
  exact hC _ e1
noncomputable def s_X10_keywordHere (M : fM) : Option Int :=
  if (M 1 6) = 2 then
    (s_X10_keywordHere_l12 M 0).bind fun e12 =>
      Sum.elim (fun x12 =>
        some (-1))
        (fun v12 => some v12) e12
  else
    some (-1)
theorem s_X10_keywordHere_ok {d L : Nat} {M : fM} {r : Int} {Q : fO → fH → Prop} (h : s_X10_keywordHere M = some r) (H : Q (oI r) (156, fjl L, M)) : Wp (d + 0, 145, 0, 0, 0, [some (fA 1), none], []) (156, fjl L, M) Q := by
  unfold s_X10_keywordHere at h
  refine Wp.run 3 (f' := (d + 0, 145, 5, 0, 0, [some (fA 1), _], [fI 2, fI (M 1 6)])) (h' := (156, fjl L, M)) rfl trivial ?_
  refine Wp.br rfl (fun (c : (M 1 6) = 2) => ?_) (fun (c : ¬ ((M 1 6) = 2)) => ?_)
  · replace h := fps c h
    refine Wp.run 2 (f' := (d + 0, 145, 12, 0, 0, [some (fA 1), some (fI 0)], [])) (h' := (156, fjl L, M)) rfl trivial ?_
    obtain ⟨e12, hy, h⟩ := fbd h
    refine s_X10_keywordHere_l12_ok hy (fun x12 u0 u1 ex => ?_) (fun v12 ex => ?_)
    · subst ex
      replace h := fsl h
      show Wp (d + 0, 145, 40, 0, 0, [u0, u1], []) (156, fjl L, M) Q
      refine Wp.run 1 (f' := (d + 0, 145, 41, 0, 0, [_, _], [fI (-1)])) (h' := (156, fjl L, M)) rfl trivial ?_
      obtain rfl := Option.some.inj h
      exact Wp.done rfl (by decide) H
    · subst ex
      replace h := fsr h
      obtain rfl := Option.some.inj h
      exact H
  · replace h := fng c h
    refine Wp.run 1 (f' := (d + 0, 145, 9, 0, 0, [_, _], [fI (-1)])) (h' := (156, fjl L, M)) rfl trivial ?_
    obtain rfl := Option.some.inj h
    exact Wp.done rfl (by decide) H
abbrev s_X10_fail_mods : List (Nat × Option Nat) := [(1, some 9), (1, some 10)]
noncomputable def s_X10_fail (M : fM) (l1 : Int) : Option ((Unit ⊕ Unit) × fM) :=
  some (.inr (), (fup (fup M 1 9 l1) 1 10 (M 1 5)))
theorem s_X10_fail_ok {d L : Nat} {M : fM} {l1 : Int} {r : ((Unit ⊕ Unit) × fM)} {Q : fO → fH → Prop} (h : s_X10_fail M l1 = some r) (H : Q (oT oV 1 r.1) (156, fjl L, r.2)) : Wp (d + 7, 148, 0, 0, 0, [some (fA 1), some (fI l1)], []) (156, fjl L, M) Q := by
  unfold s_X10_fail at h
  refine Wp.run 7 (f' := (d + 7, 148, 13, 0, 0, [_, _], [])) (h' := (156, fjl L, (fup (fup M 1 9 l1) 1 10 (M 1 5)))) rfl trivial ?_
  obtain rfl := Option.some.inj h
  exact Wp.done rfl ⟨Nat.le_add_left_of_le (by decide), rfl, rfl⟩ H
theorem s_X10_fail_fr {M : fM} {l1 : Int} {r : ((Unit ⊕ Unit) × fM)} (h : s_X10_fail M l1 = some r) : fSame s_X10_fail_mods M r.2 := by
  unfold s_X10_fail at h
  obtain rfl := Option.some.inj h
  exact fs_up (fs_up fs_refl (.inr (by decide))) (.inr (by decide))
abbrev s_X3_withTold_mods : List (Nat × Option Nat) := [(1, some 9), (1, some 10)]
noncomputable def s_X3_withTold (M : fM) (l1 l2 : Int) : Option ((Int ⊕ Unit) × fM) :=
  if ¬ (fand (fshr l1 l2) 1) = 1 then
    some (.inl (fior l1 (fshl 1 l2)), M)
  else
    (s_X10_fail M 3).bind fun y14 =>
      fel y14.1
        (fun w14 =>
          some (.inl (fior l1 (fshl 1 l2)), y14.2))
        (some (.inr (), y14.2))
theorem s_X3_withTold_ok {d L : Nat} {M : fM} {l1 l2 : Int} {r : ((Int ⊕ Unit) × fM)} {Q : fO → fH → Prop} (h : s_X3_withTold M l1 l2 = some r) (H : Q (oT oI 1 r.1) (156, fjl L, r.2)) : Wp (d + 8, 60, 0, 0, 0, [some (fA 27), some (fI l1), some (fI l2)], []) (156, fjl L, M) Q := by
  unfold s_X3_withTold at h
  refine Wp.run 6 (f' := (d + 8, 60, 6, 0, 0, [some (fA 27), some (fI l1), some (fI l2)], [fI 1, fI (fand (fshr l1 l2) 1)])) (h' := (156, fjl L, M)) rfl trivial ?_
  refine Wp.br rfl (fun (c : ¬ (fand (fshr l1 l2) 1) = 1) => ?_) (fun (c : ¬ (¬ (fand (fshr l1 l2) 1) = 1)) => ?_)
  · replace h := fps c h
    refine Wp.run 5 (f' := (d + 8, 60, 22, 0, 0, [_, _, _], [fI (fior l1 (fshl 1 l2))])) (h' := (156, fjl L, M)) rfl trivial ?_
    obtain rfl := Option.some.inj h
    exact Wp.done rfl (by decide) H
  · replace h := fng c h
    refine Wp.run 3 (f' := (d + 8, 60, 14, 0, 0, [_, some (fI l1), some (fI l2)], [fI 3, fA 1])) (h' := (156, fjl L, M)) rfl trivial ?_
    obtain ⟨y14, hy, h⟩ := fbd h
    refine Wp.call rfl (by decide) (s_X10_fail_ok (d := d + 0) hy ?_)
    obtain ⟨w14, ew, h⟩ | ⟨ew, h⟩ := fel_of h
    · rw [ew]
      show Wp (d + 8, 60, 17, 0, 0, [_, some (fI l1), some (fI l2)], []) (156, fjl L, y14.2) Q
      refine Wp.run 5 (f' := (d + 8, 60, 22, 0, 0, [_, _, _], [fI (fior l1 (fshl 1 l2))])) (h' := (156, fjl L, y14.2)) rfl trivial ?_
      obtain rfl := Option.some.inj h
      exact Wp.done rfl (by decide) H
    · rw [ew]
      obtain rfl := Option.some.inj h
      exact ⟨⟨rfl, rfl⟩, H⟩
theorem s_X3_withTold_fr {M : fM} {l1 l2 : Int} {r : ((Int ⊕ Unit) × fM)} (h : s_X3_withTold M l1 l2 = some r) : fSame s_X3_withTold_mods M r.2 := by
  unfold s_X3_withTold at h
  by_cases c : ¬ (fand (fshr l1 l2) 1) = 1
  · replace h := fps c h
    obtain rfl := Option.some.inj h
    exact fs_refl
  · replace h := fng c h
    obtain ⟨y14, hy, h⟩ := fbd h
    have k14 := fs_trans (l := s_X3_withTold_mods) fs_refl (fs_mono (l := s_X10_fail_mods) (by decide) (s_X10_fail_fr hy))
    obtain ⟨w14, ew, h⟩ | ⟨ew, h⟩ := fel_of h
    · obtain rfl := Option.some.inj h
      exact k14
    · obtain rfl := Option.some.inj h
      exact k14
abbrev s_X10_numberHere_mods : List (Nat × Option Nat) := [(1, some 9), (1, some 10)]
noncomputable def s_X10_numberHere_j29 (M : fM) : Option ((Int ⊕ Unit) × fM) :=
  (s_X10_fail M 2).bind fun y31 =>
    fel y31.1
      (fun w31 =>
        some (.inl (y31.2 1 7), y31.2))
      (some (.inr (), y31.2))
theorem s_X10_numberHere_j29_ok {d L : Nat} {M : fM} {o1 o2 : Option fV} {r : ((Int ⊕ Unit) × fM)} {Q : fO → fH → Prop} (h : s_X10_numberHere_j29 M = some r) (H : Q (oT oI 1 r.1) (156, fjl L, r.2)) : Wp (d + 8, 144, 29, 0, 0, [some (fA 1), o1, o2], []) (156, fjl L, M) Q := by
  unfold s_X10_numberHere_j29 at h
  refine Wp.run 2 (f' := (d + 8, 144, 31, 0, 0, [some (fA 1), _, _], [fI 2, fA 1])) (h' := (156, fjl L, M)) rfl trivial ?_
  obtain ⟨y31, hy, h⟩ := fbd h
  refine Wp.call rfl (by decide) (s_X10_fail_ok (d := d + 0) hy ?_)
  obtain ⟨w31, ew, h⟩ | ⟨ew, h⟩ := fel_of h
  · rw [ew]
    show Wp (d + 8, 144, 34, 0, 0, [some (fA 1), _, _], []) (156, fjl L, y31.2) Q
    refine Wp.run 2 (f' := (d + 8, 144, 38, 0, 0, [_, _, _], [fI (y31.2 1 7)])) (h' := (156, fjl L, y31.2)) rfl trivial ?_
    obtain rfl := Option.some.inj h
    exact Wp.done rfl (by decide) H
  · rw [ew]
    obtain rfl := Option.some.inj h
    exact ⟨⟨rfl, rfl⟩, H⟩
theorem s_X10_numberHere_j29_fr {M : fM} {r : ((Int ⊕ Unit) × fM)} (h : s_X10_numberHere_j29 M = some r) : fSame s_X10_numberHere_mods M r.2 := by
  unfold s_X10_numberHere_j29 at h
  obtain ⟨y31, hy, h⟩ := fbd h
  have k31 := fs_trans (l := s_X10_numberHere_mods) fs_refl (fs_mono (l := s_X10_fail_mods) (by decide) (s_X10_fail_fr hy))
  obtain ⟨w31, ew, h⟩ | ⟨ew, h⟩ := fel_of h
  · obtain rfl := Option.some.inj h
    exact k31
  · obtain rfl := Option.some.inj h
    exact k31
noncomputable def s_X10_numberHere_j13 (M : fM) (l1 l2 : Int) : Option ((Int ⊕ Unit) × fM) :=
  if (M 1 7) < l1 then
    s_X10_numberHere_j29 M
  else
    if (M 1 7) ≤ l2 then
      some (.inl (M 1 7), M)
    else
      s_X10_numberHere_j29 M
theorem s_X10_numberHere_j13_ok {d L : Nat} {M : fM} {l1 l2 : Int} {r : ((Int ⊕ Unit) × fM)} {Q : fO → fH → Prop} (h : s_X10_numberHere_j13 M l1 l2 = some r) (H : Q (oT oI 1 r.1) (156, fjl L, r.2)) : Wp (d + 8, 144, 13, 0, 0, [some (fA 1), some (fI l1), some (fI l2)], []) (156, fjl L, M) Q := by
  unfold s_X10_numberHere_j13 at h
  refine Wp.run 3 (f' := (d + 8, 144, 18, 0, 0, [some (fA 1), _, some (fI l2)], [fI l1, fI (M 1 7)])) (h' := (156, fjl L, M)) rfl trivial ?_
  refine Wp.br rfl (fun (c : (M 1 7) < l1) => ?_) (fun (c : ¬ ((M 1 7) < l1)) => ?_)
  · replace h := fps c h
    exact s_X10_numberHere_j29_ok h H
  · replace h := fng c h
    refine Wp.run 3 (f' := (d + 8, 144, 26, 0, 0, [some (fA 1), _, _], [fI l2, fI (M 1 7)])) (h' := (156, fjl L, M)) rfl trivial ?_
    refine Wp.br rfl (fun (c : (M 1 7) ≤ l2) => ?_) (fun (c : ¬ ((M 1 7) ≤ l2)) => ?_)
    · replace h := fps c h
      refine Wp.run 2 (f' := (d + 8, 144, 38, 0, 0, [_, _, _], [fI (M 1 7)])) (h' := (156, fjl L, M)) rfl trivial ?_
      obtain rfl := Option.some.inj h
      exact Wp.done rfl (by decide) H
    · replace h := fng c h
      exact s_X10_numberHere_j29_ok h H
theorem s_X10_numberHere_j13_fr {M : fM} {l1 l2 : Int} {r : ((Int ⊕ Unit) × fM)} (h : s_X10_numberHere_j13 M l1 l2 = some r) : fSame s_X10_numberHere_mods M r.2 := by
  unfold s_X10_numberHere_j13 at h
  by_cases c : (M 1 7) < l1
  · replace h := fps c h
    exact fs_trans fs_refl (s_X10_numberHere_j29_fr h)
  · replace h := fng c h
    by_cases c : (M 1 7) ≤ l2
    · replace h := fps c h
      obtain rfl := Option.some.inj h
      exact fs_refl
    · replace h := fng c h
      exact fs_trans fs_refl (s_X10_numberHere_j29_fr h)
noncomputable def s_X10_numberHere (M : fM) (l1 l2 : Int) : Option ((Int ⊕ Unit) × fM) :=
  if (M 1 6) = 3 then
    s_X10_numberHere_j13 M l1 l2
  else
    (s_X10_fail M 1).bind fun y10 =>
      fel y10.1
        (fun w10 =>
          s_X10_numberHere_j13 y10.2 l1 l2)
        (some (.inr (), y10.2))
theorem s_X10_numberHere_ok {d L : Nat} {M : fM} {l1 l2 : Int} {r : ((Int ⊕ Unit) × fM)} {Q : fO → fH → Prop} (h : s_X10_numberHere M l1 l2 = some r) (H : Q (oT oI 1 r.1) (156, fjl L, r.2)) : Wp (d + 8, 144, 0, 0, 0, [some (fA 1), some (fI l1), some (fI l2)], []) (156, fjl L, M) Q := by
  unfold s_X10_numberHere at h
  refine Wp.run 3 (f' := (d + 8, 144, 5, 0, 0, [some (fA 1), some (fI l1), some (fI l2)], [fI 3, fI (M 1 6)])) (h' := (156, fjl L, M)) rfl trivial ?_
  refine Wp.br rfl (fun (c : (M 1 6) = 3) => ?_) (fun (c : ¬ ((M 1 6) = 3)) => ?_)
  · replace h := fps c h
    exact s_X10_numberHere_j13_ok h H
  · replace h := fng c h
    refine Wp.run 2 (f' := (d + 8, 144, 10, 0, 0, [some (fA 1), some (fI l1), some (fI l2)], [fI 1, fA 1])) (h' := (156, fjl L, M)) rfl trivial ?_
    obtain ⟨y10, hy, h⟩ := fbd h
    refine Wp.call rfl (by decide) (s_X10_fail_ok (d := d + 0) hy ?_)
    obtain ⟨w10, ew, h⟩ | ⟨ew, h⟩ := fel_of h
    · rw [ew]
      show Wp (d + 8, 144, 13, 0, 0, [some (fA 1), some (fI l1), some (fI l2)], []) (156, fjl L, y10.2) Q
      exact s_X10_numberHere_j13_ok h H
    · rw [ew]
      obtain rfl := Option.some.inj h
      exact ⟨⟨rfl, rfl⟩, H⟩
theorem s_X10_numberHere_fr {M : fM} {l1 l2 : Int} {r : ((Int ⊕ Unit) × fM)} (h : s_X10_numberHere M l1 l2 = some r) : fSame s_X10_numberHere_mods M r.2 := by
  unfold s_X10_numberHere at h
  by_cases c : (M 1 6) = 3
  · replace h := fps c h
    exact fs_trans fs_refl (s_X10_numberHere_j13_fr h)
  · replace h := fng c h
    obtain ⟨y10, hy, h⟩ := fbd h
    have k10 := fs_trans (l := s_X10_numberHere_mods) fs_refl (fs_mono (l := s_X10_fail_mods) (by decide) (s_X10_fail_fr hy))
    obtain ⟨w10, ew, h⟩ | ⟨ew, h⟩ := fel_of h
    · exact fs_trans k10 (s_X10_numberHere_j13_fr h)
    · obtain rfl := Option.some.inj h
      exact k10
abbrev s_X10_takeNumber_mods : List (Nat × Option Nat) := [(1, some 4), (1, some 5), (1, some 6), (1, some 7), (1, some 8), (1, some 9), (1, some 10)]
noncomputable def s_X10_takeNumber (M : fM) (l1 l2 : Int) : Option ((Int ⊕ Unit) × fM) :=
  (s_X10_take M).bind fun y1 =>
    (s_X10_numberHere y1.2 l1 l2).bind fun y7 =>
      fel y7.1
        (fun w7 =>
          some (.inl w7, y7.2))
        (some (.inr (), y7.2))
theorem s_X10_takeNumber_ok {d L : Nat} {M : fM} {l1 l2 : Int} {r : ((Int ⊕ Unit) × fM)} {Q : fO → fH → Prop} (h : s_X10_takeNumber M l1 l2 = some r) (H : Q (oT oI 1 r.1) (156, fjl L, r.2)) : Wp (d + 9, 142, 0, 0, 0, [some (fA 1), some (fI l1), some (fI l2)], []) (156, fjl L, M) Q := by
  unfold s_X10_takeNumber at h
  refine Wp.run 1 (f' := (d + 9, 142, 1, 0, 0, [some (fA 1), some (fI l1), some (fI l2)], [fA 1])) (h' := (156, fjl L, M)) rfl trivial ?_
  obtain ⟨y1, hy, h⟩ := fbd h
  refine Wp.call rfl (by decide) (s_X10_take_ok (d := d + 6) hy ?_)
  show Wp (d + 9, 142, 4, 0, 0, [some (fA 1), some (fI l1), some (fI l2)], []) (156, fjl L, y1.2) Q
  refine Wp.run 3 (f' := (d + 9, 142, 7, 0, 0, [_, _, _], [fI l2, fI l1, fA 1])) (h' := (156, fjl L, y1.2)) rfl trivial ?_
  obtain ⟨y7, hy, h⟩ := fbd h
  refine Wp.call rfl (by decide) (s_X10_numberHere_ok (d := d + 0) hy ?_)
  obtain ⟨w7, ew, h⟩ | ⟨ew, h⟩ := fel_of h
  · rw [ew]
    show Wp (d + 9, 142, 10, 0, 0, [_, _, _], [fI w7]) (156, fjl L, y7.2) Q
    obtain rfl := Option.some.inj h
    exact Wp.done rfl (by decide) H
  · rw [ew]
    obtain rfl := Option.some.inj h
    exact ⟨⟨rfl, rfl⟩, H⟩
theorem s_X10_takeNumber_fr {M : fM} {l1 l2 : Int} {r : ((Int ⊕ Unit) × fM)} (h : s_X10_takeNumber M l1 l2 = some r) : fSame s_X10_takeNumber_mods M r.2 := by
  unfold s_X10_takeNumber at h
  obtain ⟨y1, hy, h⟩ := fbd h
  have k1 := fs_trans (l := s_X10_takeNumber_mods) fs_refl (fs_mono (l := s_X10_take_mods) (by decide) (s_X10_take_fr hy))
  obtain ⟨y7, hy, h⟩ := fbd h
  have k7 := fs_trans (l := s_X10_takeNumber_mods) k1 (fs_mono (l := s_X10_numberHere_mods) (by decide) (s_X10_numberHere_fr hy))
  obtain ⟨w7, ew, h⟩ | ⟨ew, h⟩ := fel_of h
  · obtain rfl := Option.some.inj h
    exact k7
  · obtain rfl := Option.some.inj h
    exact k7
abbrev s_X3_readDay_mods : List (Nat × Option Nat) := [(1, some 4), (1, some 5), (1, some 6), (1, some 7), (1, some 8), (1, some 9), (1, some 10), (27, some 2), (32, none)]
noncomputable def s_X3_readDay (M : fM) : Option ((Unit ⊕ Unit) × fM) :=
  (s_X3_withTold M (M 27 2) 8).bind fun y8 =>
    fel y8.1
      (fun w8 =>
        (s_X10_takeNumber (fup y8.2 27 2 w8) 0 1440).bind fun y22 =>
          fel y22.1
            (fun w22 =>
              if fin (w22 + 1) then
                (s_X10_takeNumber (fup y22.2 32 4 w22) (w22 + 1) 1440).bind fun y54 =>
                  fel y54.1
                    (fun w54 =>
                      (s_X10_take (fup y54.2 32 5 w54)).bind fun y62 =>
                        some (.inl (), y62.2))
                    (some (.inr (), y54.2))
              else none)
            (some (.inr (), y22.2)))
      (some (.inr (), y8.2))
theorem s_X3_readDay_ok {d L : Nat} {M : fM} {r : ((Unit ⊕ Unit) × fM)} {Q : fO → fH → Prop} (h : s_X3_readDay M = some r) (H : Q (oT oV 1 r.1) (156, fjl L, r.2)) : Wp (d + 10, 55, 0, 0, 0, [some (fA 27), none], []) (156, fjl L, M) Q := by
  unfold s_X3_readDay at h
  refine Wp.run 5 (f' := (d + 10, 55, 8, 0, 0, [some (fA 27), _], [fI 8, fI (M 27 2), fA 27, fA 27])) (h' := (156, fjl L, M)) rfl trivial ?_
  obtain ⟨y8, hy, h⟩ := fbd h
  refine Wp.call rfl (by decide) (s_X3_withTold_ok (d := d + 1) hy ?_)
  obtain ⟨w8, ew, h⟩ | ⟨ew, h⟩ := fel_of h
  · rw [ew]
    show Wp (d + 10, 55, 11, 0, 0, [some (fA 27), _], [fI w8, fA 27]) (156, fjl L, y8.2) Q
    refine Wp.run 5 (f' := (d + 10, 55, 22, 0, 0, [some (fA 27), _], [fI 1440, fI 0, fA 1])) (h' := (156, fjl L, (fup y8.2 27 2 w8))) rfl trivial ?_
    obtain ⟨y22, hy, h⟩ := fbd h
    refine Wp.call rfl (by decide) (s_X10_takeNumber_ok (d := d + 0) hy ?_)
    obtain ⟨w22, ew, h⟩ | ⟨ew, h⟩ := fel_of h
    · rw [ew]
      show Wp (d + 10, 55, 25, 0, 0, [some (fA 27), _], [fI w22]) (156, fjl L, y22.2) Q
      obtain ⟨g0, h⟩ := fgd h
      refine Wp.run 17 (P := [(0 : Int) ≤ 4 ∧ (4 : Int) < 6]) (f' := (d + 10, 55, 54, 0, 0, [some (fA 27), _], [fI 1440, fI (fw (w22 + 1)), fA 1, fI 5, fA 32])) (h' := (156, fjl L, (fup y22.2 32 4 w22))) rfl ?_ ?_
      · exact (by decide : (0 : Int) ≤ 4 ∧ (4 : Int) < 6)
      rw [fw_id g0]
      obtain ⟨y54, hy, h⟩ := fbd h
      refine Wp.call rfl (by decide) (s_X10_takeNumber_ok (d := d + 0) hy ?_)
      obtain ⟨w54, ew, h⟩ | ⟨ew, h⟩ := fel_of h
      · rw [ew]
        show Wp (d + 10, 55, 57, 0, 0, [some (fA 27), _], [fI w54, fI 5, fA 32]) (156, fjl L, y54.2) Q
        refine Wp.run 3 (P := [(0 : Int) ≤ 5 ∧ (5 : Int) < 6]) (f' := (d + 10, 55, 62, 0, 0, [_, _], [fA 1])) (h' := (156, fjl L, (fup y54.2 32 5 w54))) rfl ?_ ?_
        · exact (by decide : (0 : Int) ≤ 5 ∧ (5 : Int) < 6)
        obtain ⟨y62, hy, h⟩ := fbd h
        refine Wp.call rfl (by decide) (s_X10_take_ok (d := d + 7) hy ?_)
        show Wp (d + 10, 55, 65, 0, 0, [_, _], []) (156, fjl L, y62.2) Q
        obtain rfl := Option.some.inj h
        exact Wp.done rfl (by decide) H
      · rw [ew]
        obtain rfl := Option.some.inj h
        exact ⟨⟨rfl, rfl⟩, H⟩
    · rw [ew]
      obtain rfl := Option.some.inj h
      exact ⟨⟨rfl, rfl⟩, H⟩
  · rw [ew]
    obtain rfl := Option.some.inj h
    exact ⟨⟨rfl, rfl⟩, H⟩
theorem s_X3_readDay_fr {M : fM} {r : ((Unit ⊕ Unit) × fM)} (h : s_X3_readDay M = some r) : fSame s_X3_readDay_mods M r.2 := by
  unfold s_X3_readDay at h
  obtain ⟨y8, hy, h⟩ := fbd h
  have k8 := fs_trans (l := s_X3_readDay_mods) fs_refl (fs_mono (l := s_X3_withTold_mods) (by decide) (s_X3_withTold_fr hy))
  obtain ⟨w8, ew, h⟩ | ⟨ew, h⟩ := fel_of h
  · obtain ⟨y22, hy, h⟩ := fbd h
    have k22 := fs_trans (l := s_X3_readDay_mods) (fs_up k8 (.inr (by decide))) (fs_mono (l := s_X10_takeNumber_mods) (by decide) (s_X10_takeNumber_fr hy))
    obtain ⟨w22, ew, h⟩ | ⟨ew, h⟩ := fel_of h
    · replace h := (fgd h).2
      obtain ⟨y54, hy, h⟩ := fbd h
      have k54 := fs_trans (l := s_X3_readDay_mods) (fs_up k22 (.inl (by decide))) (fs_mono (l := s_X10_takeNumber_mods) (by decide) (s_X10_takeNumber_fr hy))
      obtain ⟨w54, ew, h⟩ | ⟨ew, h⟩ := fel_of h
      · obtain ⟨y62, hy, h⟩ := fbd h
        have k62 := fs_trans (l := s_X3_readDay_mods) (fs_up k54 (.inl (by decide))) (fs_mono (l := s_X10_take_mods) (by decide) (s_X10_take_fr hy))
        obtain rfl := Option.some.inj h
        exact k62
      · obtain rfl := Option.some.inj h
        exact k54
    · obtain rfl := Option.some.inj h
      exact k22
  · obtain rfl := Option.some.inj h
    exact k8
abbrev s_X3_readRule_mods : List (Nat × Option Nat) := [(1, some 4), (1, some 5), (1, some 6), (1, some 7), (1, some 8), (1, some 9), (1, some 10), (27, some 2), (32, none)]
noncomputable def s_X3_readRule (M : fM) (l1 l2 l3 l4 : Int) : Option ((Unit ⊕ Unit) × fM) :=
  (s_X3_withTold M (M 27 2) l1).bind fun y7 =>
    fel y7.1
      (fun w7 =>
        (s_X10_takeNumber (fup y7.2 27 2 w7) l3 l4).bind fun y28 =>
          fel y28.1
            (fun w28 =>
              if (0 ≤ l2 ∧ l2 < 6) then
                (s_X10_take (fup y28.2 32 (l2).toNat w28)).bind fun y36 =>
                  some (.inl (), y36.2)
              else none)
            (some (.inr (), y28.2)))
      (some (.inr (), y7.2))
theorem s_X3_readRule_ok {d L : Nat} {M : fM} {l1 l2 l3 l4 : Int} {r : ((Unit ⊕ Unit) × fM)} {Q : fO → fH → Prop} (h : s_X3_readRule M l1 l2 l3 l4 = some r) (H : Q (oT oV 1 r.1) (156, fjl L, r.2)) : Wp (d + 10, 54, 0, 0, 0, [some (fA 27), some (fI l1), some (fI l2), some (fI l3), some (fI l4)], []) (156, fjl L, M) Q := by
  unfold s_X3_readRule at h
  refine Wp.run 5 (f' := (d + 10, 54, 7, 0, 0, [some (fA 27), _, some (fI l2), some (fI l3), some (fI l4)], [fI l1, fI (M 27 2), fA 27, fA 27])) (h' := (156, fjl L, M)) rfl trivial ?_
  obtain ⟨y7, hy, h⟩ := fbd h
  refine Wp.call rfl (by decide) (s_X3_withTold_ok (d := d + 1) hy ?_)
  obtain ⟨w7, ew, h⟩ | ⟨ew, h⟩ := fel_of h
  · rw [ew]
    show Wp (d + 10, 54, 10, 0, 0, [some (fA 27), _, some (fI l2), some (fI l3), some (fI l4)], [fI w7, fA 27]) (156, fjl L, y7.2) Q
    refine Wp.run 9 (f' := (d + 10, 54, 28, 0, 0, [some (fA 27), _, _, _, _], [fI l4, fI l3, fA 1, fI l2, fA 32])) (h' := (156, fjl L, (fup y7.2 27 2 w7))) rfl trivial ?_
    obtain ⟨y28, hy, h⟩ := fbd h
    refine Wp.call rfl (by decide) (s_X10_takeNumber_ok (d := d + 0) hy ?_)
    obtain ⟨w28, ew, h⟩ | ⟨ew, h⟩ := fel_of h
    · rw [ew]
      show Wp (d + 10, 54, 31, 0, 0, [some (fA 27), _, _, _, _], [fI w28, fI l2, fA 32]) (156, fjl L, y28.2) Q
      obtain ⟨g0, h⟩ := fgd h
      refine Wp.run 3 (P := [0 ≤ l2 ∧ l2 < 6]) (f' := (d + 10, 54, 36, 0, 0, [_, _, _, _, _], [fA 1])) (h' := (156, fjl L, (fup y28.2 32 (l2).toNat w28))) rfl ?_ ?_
      · exact g0
      obtain ⟨y36, hy, h⟩ := fbd h
      refine Wp.call rfl (by decide) (s_X10_take_ok (d := d + 7) hy ?_)
      show Wp (d + 10, 54, 39, 0, 0, [_, _, _, _, _], []) (156, fjl L, y36.2) Q
      obtain rfl := Option.some.inj h
      exact Wp.done rfl (by decide) H
    · rw [ew]
      obtain rfl := Option.some.inj h
      exact ⟨⟨rfl, rfl⟩, H⟩
  · rw [ew]
    obtain rfl := Option.some.inj h
    exact ⟨⟨rfl, rfl⟩, H⟩
theorem s_X3_readRule_fr {M : fM} {l1 l2 l3 l4 : Int} {r : ((Unit ⊕ Unit) × fM)} (h : s_X3_readRule M l1 l2 l3 l4 = some r) : fSame s_X3_readRule_mods M r.2 := by
  unfold s_X3_readRule at h
  obtain ⟨y7, hy, h⟩ := fbd h
  have k7 := fs_trans (l := s_X3_readRule_mods) fs_refl (fs_mono (l := s_X3_withTold_mods) (by decide) (s_X3_withTold_fr hy))
  obtain ⟨w7, ew, h⟩ | ⟨ew, h⟩ := fel_of h
  · obtain ⟨y28, hy, h⟩ := fbd h
    have k28 := fs_trans (l := s_X3_readRule_mods) (fs_up k7 (.inr (by decide))) (fs_mono (l := s_X10_takeNumber_mods) (by decide) (s_X10_takeNumber_fr hy))
    obtain ⟨w28, ew, h⟩ | ⟨ew, h⟩ := fel_of h
    · replace h := (fgd h).2
      obtain ⟨y36, hy, h⟩ := fbd h
      have k36 := fs_trans (l := s_X3_readRule_mods) (fs_up k28 (.inl (by decide))) (fs_mono (l := s_X10_take_mods) (by decide) (s_X10_take_fr hy))
      obtain rfl := Option.some.inj h
      exact k36
    · obtain rfl := Option.some.inj h
      exact k28
  · obtain rfl := Option.some.inj h
    exact k7
abbrev s_X3_mustHaveRoom_mods : List (Nat × Option Nat) := [(1, some 9), (1, some 10)]
noncomputable def s_X3_mustHaveRoom (M : fM) (l1 l2 : Int) : Option ((Unit ⊕ Unit) × fM) :=
  if l1 < l2 then
    some (.inl (), M)
  else
    (s_X10_fail M 4).bind fun y10 =>
      fel y10.1
        (fun w10 =>
          some (.inl (), y10.2))
        (some (.inr (), y10.2))
theorem s_X3_mustHaveRoom_ok {d L : Nat} {M : fM} {l1 l2 : Int} {r : ((Unit ⊕ Unit) × fM)} {Q : fO → fH → Prop} (h : s_X3_mustHaveRoom M l1 l2 = some r) (H : Q (oT oV 1 r.1) (156, fjl L, r.2)) : Wp (d + 8, 56, 0, 0, 0, [some (fA 27), some (fI l1), some (fI l2)], []) (156, fjl L, M) Q := by
  unfold s_X3_mustHaveRoom at h
  refine Wp.run 2 (f' := (d + 8, 56, 2, 0, 0, [some (fA 27), _, _], [fI l2, fI l1])) (h' := (156, fjl L, M)) rfl trivial ?_
  refine Wp.br rfl (fun (c : l1 < l2) => ?_) (fun (c : ¬ (l1 < l2)) => ?_)
  · replace h := fps c h
    obtain rfl := Option.some.inj h
    exact Wp.done rfl (by decide) H
  · replace h := fng c h
    refine Wp.run 3 (f' := (d + 8, 56, 10, 0, 0, [_, _, _], [fI 4, fA 1])) (h' := (156, fjl L, M)) rfl trivial ?_
    obtain ⟨y10, hy, h⟩ := fbd h
    refine Wp.call rfl (by decide) (s_X10_fail_ok (d := d + 0) hy ?_)
    obtain ⟨w10, ew, h⟩ | ⟨ew, h⟩ := fel_of h
    · rw [ew]
      show Wp (d + 8, 56, 13, 0, 0, [_, _, _], []) (156, fjl L, y10.2) Q
      obtain rfl := Option.some.inj h
      exact Wp.done rfl (by decide) H
    · rw [ew]
      obtain rfl := Option.some.inj h
      exact ⟨⟨rfl, rfl⟩, H⟩
theorem s_X3_mustHaveRoom_fr {M : fM} {l1 l2 : Int} {r : ((Unit ⊕ Unit) × fM)} (h : s_X3_mustHaveRoom M l1 l2 = some r) : fSame s_X3_mustHaveRoom_mods M r.2 := by
  unfold s_X3_mustHaveRoom at h
  by_cases c : l1 < l2
  · replace h := fps c h
    obtain rfl := Option.some.inj h
    exact fs_refl
  · replace h := fng c h
    obtain ⟨y10, hy, h⟩ := fbd h
    have k10 := fs_trans (l := s_X3_mustHaveRoom_mods) fs_refl (fs_mono (l := s_X10_fail_mods) (by decide) (s_X10_fail_fr hy))
    obtain ⟨w10, ew, h⟩ | ⟨ew, h⟩ := fel_of h
    · obtain rfl := Option.some.inj h
      exact k10
    · obtain rfl := Option.some.inj h
      exact k10
abbrev s_X10_takeKind_mods : List (Nat × Option Nat) := [(1, some 4), (1, some 5), (1, some 6), (1, some 7), (1, some 8), (1, some 9), (1, some 10)]
noncomputable def s_X10_takeKind_j21 (M : fM) (l1 : Int) : Option ((Int ⊕ Unit) × fM) :=
  (s_X10_fail M 1).bind fun y23 =>
    fel y23.1
      (fun w23 =>
        if fin (l1 - 14) then
          some (.inl (l1 - 14), y23.2)
        else none)
      (some (.inr (), y23.2))
theorem s_X10_takeKind_j21_ok {d L : Nat} {M : fM} {l1 : Int} {r : ((Int ⊕ Unit) × fM)} {Q : fO → fH → Prop} (h : s_X10_takeKind_j21 M l1 = some r) (H : Q (oT oI 1 r.1) (156, fjl L, r.2)) : Wp (d + 8, 146, 21, 0, 0, [some (fA 1), some (fI l1)], []) (156, fjl L, M) Q := by
  unfold s_X10_takeKind_j21 at h
  refine Wp.run 2 (f' := (d + 8, 146, 23, 0, 0, [_, some (fI l1)], [fI 1, fA 1])) (h' := (156, fjl L, M)) rfl trivial ?_
  obtain ⟨y23, hy, h⟩ := fbd h
  refine Wp.call rfl (by decide) (s_X10_fail_ok (d := d + 0) hy ?_)
  obtain ⟨w23, ew, h⟩ | ⟨ew, h⟩ := fel_of h
  · rw [ew]
    show Wp (d + 8, 146, 26, 0, 0, [_, some (fI l1)], []) (156, fjl L, y23.2) Q
    obtain ⟨g0, h⟩ := fgd h
    refine Wp.run 3 (f' := (d + 8, 146, 30, 0, 0, [_, _], [fI (fw (l1 - 14))])) (h' := (156, fjl L, y23.2)) rfl trivial ?_
    rw [fw_id g0]
    obtain rfl := Option.some.inj h
    exact Wp.done rfl (by decide) H
  · rw [ew]
    obtain rfl := Option.some.inj h
    exact ⟨⟨rfl, rfl⟩, H⟩
theorem s_X10_takeKind_j21_fr {M : fM} {l1 : Int} {r : ((Int ⊕ Unit) × fM)} (h : s_X10_takeKind_j21 M l1 = some r) : fSame s_X10_takeKind_mods M r.2 := by
  unfold s_X10_takeKind_j21 at h
  obtain ⟨y23, hy, h⟩ := fbd h
  have k23 := fs_trans (l := s_X10_takeKind_mods) fs_refl (fs_mono (l := s_X10_fail_mods) (by decide) (s_X10_fail_fr hy))
  obtain ⟨w23, ew, h⟩ | ⟨ew, h⟩ := fel_of h
  · replace h := (fgd h).2
    obtain rfl := Option.some.inj h
    exact k23
  · obtain rfl := Option.some.inj h
    exact k23
noncomputable def s_X10_takeKind (M : fM) : Option ((Int ⊕ Unit) × fM) :=
  (s_X10_take M).bind fun y1 =>
    (s_X10_keywordHere y1.2).bind fun y5 =>
      if y5 < 14 then
        s_X10_takeKind_j21 y1.2 y5
      else
        if y5 ≤ 16 then
          if fin (y5 - 14) then
            some (.inl (y5 - 14), y1.2)
          else none
        else
          s_X10_takeKind_j21 y1.2 y5
theorem s_X10_takeKind_ok {d L : Nat} {M : fM} {r : ((Int ⊕ Unit) × fM)} {Q : fO → fH → Prop} (h : s_X10_takeKind M = some r) (H : Q (oT oI 1 r.1) (156, fjl L, r.2)) : Wp (d + 8, 146, 0, 0, 0, [some (fA 1), none], []) (156, fjl L, M) Q := by
  unfold s_X10_takeKind at h
  refine Wp.run 1 (f' := (d + 8, 146, 1, 0, 0, [some (fA 1), _], [fA 1])) (h' := (156, fjl L, M)) rfl trivial ?_
  obtain ⟨y1, hy, h⟩ := fbd h
  refine Wp.call rfl (by decide) (s_X10_take_ok (d := d + 5) hy ?_)
  show Wp (d + 8, 146, 4, 0, 0, [some (fA 1), _], []) (156, fjl L, y1.2) Q
  refine Wp.run 1 (f' := (d + 8, 146, 5, 0, 0, [some (fA 1), _], [fA 1])) (h' := (156, fjl L, y1.2)) rfl trivial ?_
  obtain ⟨y5, hy, h⟩ := fbd h
  refine Wp.call rfl (by decide) (s_X10_keywordHere_ok (d := d + 7) hy ?_)
  show Wp (d + 8, 146, 8, 0, 0, [some (fA 1), _], [fI y5]) (156, fjl L, y1.2) Q
  refine Wp.run 3 (f' := (d + 8, 146, 12, 0, 0, [some (fA 1), some (fI y5)], [fI 14, fI y5])) (h' := (156, fjl L, y1.2)) rfl trivial ?_
  refine Wp.br rfl (fun (c : y5 < 14) => ?_) (fun (c : ¬ (y5 < 14)) => ?_)
  · replace h := fps c h
    exact s_X10_takeKind_j21_ok h H
  · replace h := fng c h
    refine Wp.run 2 (f' := (d + 8, 146, 18, 0, 0, [some (fA 1), some (fI y5)], [fI 16, fI y5])) (h' := (156, fjl L, y1.2)) rfl trivial ?_
    refine Wp.br rfl (fun (c : y5 ≤ 16) => ?_) (fun (c : ¬ (y5 ≤ 16)) => ?_)
    · replace h := fps c h
      obtain ⟨g0, h⟩ := fgd h
      refine Wp.run 3 (f' := (d + 8, 146, 30, 0, 0, [_, _], [fI (fw (y5 - 14))])) (h' := (156, fjl L, y1.2)) rfl trivial ?_
      rw [fw_id g0]
      obtain rfl := Option.some.inj h
      exact Wp.done rfl (by decide) H
    · replace h := fng c h
      exact s_X10_takeKind_j21_ok h H
theorem s_X10_takeKind_fr {M : fM} {r : ((Int ⊕ Unit) × fM)} (h : s_X10_takeKind M = some r) : fSame s_X10_takeKind_mods M r.2 := by
  unfold s_X10_takeKind at h
  obtain ⟨y1, hy, h⟩ := fbd h
  have k1 := fs_trans (l := s_X10_takeKind_mods) fs_refl (fs_mono (l := s_X10_take_mods) (by decide) (s_X10_take_fr hy))
  obtain ⟨y5, hy, h⟩ := fbd h
  by_cases c : y5 < 14
  · replace h := fps c h
    exact fs_trans k1 (s_X10_takeKind_j21_fr h)
  · replace h := fng c h
    by_cases c : y5 ≤ 16
    · replace h := fps c h
      replace h := (fgd h).2
      obtain rfl := Option.some.inj h
      exact k1
    · replace h := fng c h
      exact fs_trans k1 (s_X10_takeKind_j21_fr h)
