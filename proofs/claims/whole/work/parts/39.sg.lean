/-! ===== functions of the methods (printed by genfun.py) ===== -/
noncomputable def s_X12_isOf (M : fM) (l1 l2 l3 l4 l5 : Int) : Option Int :=
  if fin (19 * l1) ∧ (0 ≤ (19 * l1) ∧ (19 * l1) < 3800) then
    if ¬ (M 125 (19 * l1).toNat) = l2 then
      some 0
    else
      if fin ((19 * l1) + 1) ∧ (0 ≤ ((19 * l1) + 1) ∧ ((19 * l1) + 1) < 3800) then
        if ¬ (M 125 ((19 * l1) + 1).toNat) = l3 then
          some 0
        else
          if fin ((19 * l1) + 2) ∧ (0 ≤ ((19 * l1) + 2) ∧ ((19 * l1) + 2) < 3800) then
            if l4 < (M 125 ((19 * l1) + 2).toNat) then
              some 0
            else
              if l5 = (-1) then
                some 1
              else
                if fin ((19 * l1) + 3) ∧ (0 ≤ ((19 * l1) + 3) ∧ ((19 * l1) + 3) < 3800) then
                  if l5 < (M 125 ((19 * l1) + 3).toNat) then
                    some 0
                  else
                    some 1
                else none
          else none
      else none
  else none
theorem s_X12_isOf_ok {d L : Nat} {M : fM} {l1 l2 l3 l4 l5 : Int} {r : Int} {Q : fO → fH → Prop} (h : s_X12_isOf M l1 l2 l3 l4 l5 = some r) (H : Q (oI r) (156, fjl L, M)) : Wp (d + 0, 251, 0, 0, 0, [some (fA 122), some (fI l1), some (fI l2), some (fI l3), some (fI l4), some (fI l5), none], []) (156, fjl L, M) Q := by
  unfold s_X12_isOf at h
  obtain ⟨⟨g0, g1⟩, h⟩ := fgd h
  refine Wp.run 9 (P := [0 ≤ (fw (19 * l1)) ∧ (fw (19 * l1)) < 3800]) (f' := (d + 0, 251, 14, 0, 0, [some (fA 122), _, _, some (fI l3), some (fI l4), some (fI l5), some (fI (fw (19 * l1)))], [fI l2, fI (M 125 (fw (19 * l1)).toNat)])) (h' := (156, fjl L, M)) rfl ?_ ?_
  · rw [fw_id g0]; exact g1
  rw [fw_id g0]
  refine Wp.br rfl (fun (c : ¬ (M 125 (19 * l1).toNat) = l2) => ?_) (fun (c : ¬ (¬ (M 125 (19 * l1).toNat) = l2)) => ?_)
  · replace h := fps c h
    refine Wp.run 1 (f' := (d + 0, 251, 69, 0, 0, [_, _, _, _, _, _, _], [fI 0])) (h' := (156, fjl L, M)) rfl trivial ?_
    obtain rfl := Option.some.inj h
    exact Wp.done rfl (by decide) H
  · replace h := fng c h
    obtain ⟨⟨g0, g1⟩, h⟩ := fgd h
    refine Wp.run 7 (P := [0 ≤ (fw ((19 * l1) + 1)) ∧ (fw ((19 * l1) + 1)) < 3800]) (f' := (d + 0, 251, 27, 0, 0, [some (fA 122), _, _, _, some (fI l4), some (fI l5), some (fI (19 * l1))], [fI l3, fI (M 125 (fw ((19 * l1) + 1)).toNat)])) (h' := (156, fjl L, M)) rfl ?_ ?_
    · rw [fw_id g0]; exact g1
    rw [fw_id g0]
    refine Wp.br rfl (fun (c : ¬ (M 125 ((19 * l1) + 1).toNat) = l3) => ?_) (fun (c : ¬ (¬ (M 125 ((19 * l1) + 1).toNat) = l3)) => ?_)
    · replace h := fps c h
      refine Wp.run 1 (f' := (d + 0, 251, 69, 0, 0, [_, _, _, _, _, _, _], [fI 0])) (h' := (156, fjl L, M)) rfl trivial ?_
      obtain rfl := Option.some.inj h
      exact Wp.done rfl (by decide) H
    · replace h := fng c h
      obtain ⟨⟨g0, g1⟩, h⟩ := fgd h
      refine Wp.run 7 (P := [0 ≤ (fw ((19 * l1) + 2)) ∧ (fw ((19 * l1) + 2)) < 3800]) (f' := (d + 0, 251, 41, 0, 0, [some (fA 122), _, _, _, _, some (fI l5), some (fI (19 * l1))], [fI l4, fI (M 125 (fw ((19 * l1) + 2)).toNat)])) (h' := (156, fjl L, M)) rfl ?_ ?_
      · rw [fw_id g0]; exact g1
      rw [fw_id g0]
      refine Wp.br rfl (fun (c : l4 < (M 125 ((19 * l1) + 2).toNat)) => ?_) (fun (c : ¬ (l4 < (M 125 ((19 * l1) + 2).toNat))) => ?_)
      · replace h := fps c h
        refine Wp.run 1 (f' := (d + 0, 251, 69, 0, 0, [_, _, _, _, _, _, _], [fI 0])) (h' := (156, fjl L, M)) rfl trivial ?_
        obtain rfl := Option.some.inj h
        exact Wp.done rfl (by decide) H
      · replace h := fng c h
        refine Wp.run 2 (f' := (d + 0, 251, 47, 0, 0, [some (fA 122), _, _, _, _, some (fI l5), some (fI (19 * l1))], [fI (-1), fI l5])) (h' := (156, fjl L, M)) rfl trivial ?_
        refine Wp.br rfl (fun (c : l5 = (-1)) => ?_) (fun (c : ¬ (l5 = (-1))) => ?_)
        · replace h := fps c h
          refine Wp.run 2 (f' := (d + 0, 251, 69, 0, 0, [_, _, _, _, _, _, _], [fI 1])) (h' := (156, fjl L, M)) rfl trivial ?_
          obtain rfl := Option.some.inj h
          exact Wp.done rfl (by decide) H
        · replace h := fng c h
          obtain ⟨⟨g0, g1⟩, h⟩ := fgd h
          refine Wp.run 7 (P := [0 ≤ (fw ((19 * l1) + 3)) ∧ (fw ((19 * l1) + 3)) < 3800]) (f' := (d + 0, 251, 61, 0, 0, [_, _, _, _, _, _, _], [fI l5, fI (M 125 (fw ((19 * l1) + 3)).toNat)])) (h' := (156, fjl L, M)) rfl ?_ ?_
          · rw [fw_id g0]; exact g1
          rw [fw_id g0]
          refine Wp.br rfl (fun (c : l5 < (M 125 ((19 * l1) + 3).toNat)) => ?_) (fun (c : ¬ (l5 < (M 125 ((19 * l1) + 3).toNat))) => ?_)
          · replace h := fps c h
            refine Wp.run 1 (f' := (d + 0, 251, 69, 0, 0, [_, _, _, _, _, _, _], [fI 0])) (h' := (156, fjl L, M)) rfl trivial ?_
            obtain rfl := Option.some.inj h
            exact Wp.done rfl (by decide) H
          · replace h := fng c h
            refine Wp.run 2 (f' := (d + 0, 251, 69, 0, 0, [_, _, _, _, _, _, _], [fI 1])) (h' := (156, fjl L, M)) rfl trivial ?_
            obtain rfl := Option.some.inj h
            exact Wp.done rfl (by decide) H
noncomputable def s_X12_latest_b6 (M : fM) (l1 l2 l3 l4 l5 l6 : Int) : Option ((Int × Int) ⊕ Int) :=
  if (M 122 10) ≤ l6 then
    some (.inr l5)
  else
    (s_X12_isOf M l6 l1 l2 l3 l4).bind fun y23 =>
      if y23 = 0 then
        if fin (l6 + 1) then
          some (.inl (l5, (l6 + 1)))
        else none
      else
        if l5 < 0 then
          if fin (l6 + 1) then
            some (.inl (l6, (l6 + 1)))
          else none
        else
          if fin (19 * l6) ∧ fin ((19 * l6) + 2) ∧ (0 ≤ ((19 * l6) + 2) ∧ ((19 * l6) + 2) < 3800) ∧ fin (19 * l5) ∧ fin ((19 * l5) + 2) ∧ (0 ≤ ((19 * l5) + 2) ∧ ((19 * l5) + 2) < 3800) then
            if (M 125 ((19 * l6) + 2).toNat) < (M 125 ((19 * l5) + 2).toNat) then
              if fin (l6 + 1) then
                some (.inl (l5, (l6 + 1)))
              else none
            else
              if fin (l6 + 1) then
                some (.inl (l6, (l6 + 1)))
              else none
          else none
theorem s_X12_latest_b6_ok {d L : Nat} {M : fM} {l1 l2 l3 l4 l5 l6 : Int} {r : ((Int × Int) ⊕ Int)} {Q : fO → fH → Prop} (h : s_X12_latest_b6 M l1 l2 l3 l4 l5 l6 = some r) (hC : ∀ (l5' l6' : Int), r = .inl (l5', l6') → Wp (d + 1, 252, 6, 0, 0, [some (fA 122), some (fI l1), some (fI l2), some (fI l3), some (fI l4), some (fI l5'), some (fI l6')], []) (156, fjl L, M) Q) (hE : ∀ (e : Int) (o0' o1' o2' o3' o4' o6' : Option fV), r = .inr e → Wp (d + 1, 252, 71, 0, 0, [o0', o1', o2', o3', o4', some (fI e), o6'], []) (156, fjl L, M) Q) : Wp (d + 1, 252, 6, 0, 0, [some (fA 122), some (fI l1), some (fI l2), some (fI l3), some (fI l4), some (fI l5), some (fI l6)], []) (156, fjl L, M) Q := by
  unfold s_X12_latest_b6 at h
  refine Wp.run 3 (f' := (d + 1, 252, 12, 0, 0, [some (fA 122), some (fI l1), some (fI l2), some (fI l3), some (fI l4), some (fI l5), some (fI l6)], [fI (M 122 10), fI l6])) (h' := (156, fjl L, M)) rfl trivial ?_
  refine Wp.br rfl (fun (c : (M 122 10) ≤ l6) => ?_) (fun (c : ¬ ((M 122 10) ≤ l6)) => ?_)
  · replace h := fps c h
    exact hE _ _ _ _ _ _ _ (Option.some.inj h).symm
  · replace h := fng c h
    refine Wp.run 6 (f' := (d + 1, 252, 23, 0, 0, [some (fA 122), some (fI l1), some (fI l2), some (fI l3), some (fI l4), some (fI l5), some (fI l6)], [fI l4, fI l3, fI l2, fI l1, fI l6, fA 122])) (h' := (156, fjl L, M)) rfl trivial ?_
    obtain ⟨y23, hy, h⟩ := fbd h
    refine Wp.call rfl (by decide) (s_X12_isOf_ok (d := d + 0) hy ?_)
    show Wp (d + 1, 252, 26, 0, 0, [some (fA 122), some (fI l1), some (fI l2), some (fI l3), some (fI l4), some (fI l5), some (fI l6)], [fI y23]) (156, fjl L, M) Q
    refine Wp.br rfl (fun (c : y23 = 0) => ?_) (fun (c : ¬ (y23 = 0)) => ?_)
    · replace h := fps c h
      obtain ⟨g0, h⟩ := fgd h
      refine Wp.run 2 (f' := (d + 1, 252, 6, 0, 0, [some (fA 122), some (fI l1), some (fI l2), some (fI l3), some (fI l4), some (fI l5), some (fI (fw (l6 + 1)))], [])) (h' := (156, fjl L, M)) rfl trivial ?_
      rw [fw_id g0]
      exact hC _ _ (Option.some.inj h).symm
    · replace h := fng c h
      refine Wp.run 1 (f' := (d + 1, 252, 31, 0, 0, [some (fA 122), some (fI l1), some (fI l2), some (fI l3), some (fI l4), some (fI l5), some (fI l6)], [fI l5])) (h' := (156, fjl L, M)) rfl trivial ?_
      refine Wp.br rfl (fun (c : l5 < 0) => ?_) (fun (c : ¬ (l5 < 0)) => ?_)
      · replace h := fps c h
        obtain ⟨g0, h⟩ := fgd h
        refine Wp.run 4 (f' := (d + 1, 252, 6, 0, 0, [some (fA 122), some (fI l1), some (fI l2), some (fI l3), some (fI l4), some (fI l6), some (fI (fw (l6 + 1)))], [])) (h' := (156, fjl L, M)) rfl trivial ?_
        rw [fw_id g0]
        exact hC _ _ (Option.some.inj h).symm
      · replace h := fng c h
        obtain ⟨⟨g0, g1, g2, g3, g4, g5⟩, h⟩ := fgd h
        refine Wp.run 16 (P := [0 ≤ (fw ((fw (19 * l6)) + 2)) ∧ (fw ((fw (19 * l6)) + 2)) < 3800, 0 ≤ (fw ((fw (19 * l5)) + 2)) ∧ (fw ((fw (19 * l5)) + 2)) < 3800]) (f' := (d + 1, 252, 58, 0, 0, [some (fA 122), some (fI l1), some (fI l2), some (fI l3), some (fI l4), some (fI l5), some (fI l6)], [fI (M 125 (fw ((fw (19 * l5)) + 2)).toNat), fI (M 125 (fw ((fw (19 * l6)) + 2)).toNat)])) (h' := (156, fjl L, M)) rfl ?_ ?_
        · rw [fw_id g0, fw_id g1, fw_id g3, fw_id g4]; exact ⟨g2, g5⟩
        rw [fw_id g0, fw_id g1, fw_id g3, fw_id g4]
        refine Wp.br rfl (fun (c : (M 125 ((19 * l6) + 2).toNat) < (M 125 ((19 * l5) + 2).toNat)) => ?_) (fun (c : ¬ ((M 125 ((19 * l6) + 2).toNat) < (M 125 ((19 * l5) + 2).toNat))) => ?_)
        · replace h := fps c h
          obtain ⟨g0, h⟩ := fgd h
          refine Wp.run 2 (f' := (d + 1, 252, 6, 0, 0, [some (fA 122), some (fI l1), some (fI l2), some (fI l3), some (fI l4), some (fI l5), some (fI (fw (l6 + 1)))], [])) (h' := (156, fjl L, M)) rfl trivial ?_
          rw [fw_id g0]
          exact hC _ _ (Option.some.inj h).symm
        · replace h := fng c h
          obtain ⟨g0, h⟩ := fgd h
          refine Wp.run 4 (f' := (d + 1, 252, 6, 0, 0, [some (fA 122), some (fI l1), some (fI l2), some (fI l3), some (fI l4), some (fI l6), some (fI (fw (l6 + 1)))], [])) (h' := (156, fjl L, M)) rfl trivial ?_
          rw [fw_id g0]
          exact hC _ _ (Option.some.inj h).symm
noncomputable def s_X12_latest_l6 (M : fM) (l1 l2 l3 l4 : Int) (s : (Int × Int)) : Option Int := fLp (fun s => s_X12_latest_b6 M l1 l2 l3 l4 s.1 s.2) s
theorem s_X12_latest_l6_ok {d L : Nat} {M : fM} {l1 l2 l3 l4 l5 l6 : Int} {r : Int} {Q : fO → fH → Prop} (h : s_X12_latest_l6 M l1 l2 l3 l4 (l5, l6) = some r) (hE : ∀ (e : Int) (o0' o1' o2' o3' o4' o6' : Option fV), r = e → Wp (d + 1, 252, 71, 0, 0, [o0', o1', o2', o3', o4', some (fI e), o6'], []) (156, fjl L, M) Q) : Wp (d + 1, 252, 6, 0, 0, [some (fA 122), some (fI l1), some (fI l2), some (fI l3), some (fI l4), some (fI l5), some (fI l6)], []) (156, fjl L, M) Q := by
  refine fLp_wp (W := fun s => Wp (d + 1, 252, 6, 0, 0, [some (fA 122), some (fI l1), some (fI l2), some (fI l3), some (fI l4), some (fI s.1), some (fI s.2)], []) (156, fjl L, M) Q) (e := r) ?_ h
  intro s r1 h hC hX
  refine s_X12_latest_b6_ok (d := d) h (fun a0 a1 e1 => ?_) (fun e u0 u1 u2 u3 u4 u5 e1 => hE e u0 u1 u2 u3 u4 u5 (hX _ e1).symm)
  exact hC _ e1
noncomputable def s_X12_latest (M : fM) (l1 l2 l3 l4 : Int) : Option Int :=
  (s_X12_latest_l6 M l1 l2 l3 l4 ((-1), 0)).bind fun e6 =>
    some e6
theorem s_X12_latest_ok {d L : Nat} {M : fM} {l1 l2 l3 l4 : Int} {r : Int} {Q : fO → fH → Prop} (h : s_X12_latest M l1 l2 l3 l4 = some r) (H : Q (oI r) (156, fjl L, M)) : Wp (d + 1, 252, 0, 0, 0, [some (fA 122), some (fI l1), some (fI l2), some (fI l3), some (fI l4), none, none], []) (156, fjl L, M) Q := by
  unfold s_X12_latest at h
  refine Wp.run 4 (f' := (d + 1, 252, 6, 0, 0, [some (fA 122), some (fI l1), some (fI l2), some (fI l3), some (fI l4), some (fI (-1)), some (fI 0)], [])) (h' := (156, fjl L, M)) rfl trivial ?_
  obtain ⟨e6, hy, h⟩ := fbd h
  refine s_X12_latest_l6_ok hy (fun x u0 u1 u2 u3 u4 u6 ex => ?_)
  cases ex
  show Wp (d + 1, 252, 71, 0, 0, [u0, u1, u2, u3, u4, some (fI e6), u6], []) (156, fjl L, M) Q
  refine Wp.run 1 (f' := (d + 1, 252, 73, 0, 0, [_, _, _, _, _, _, _], [fI e6])) (h' := (156, fjl L, M)) rfl trivial ?_
  obtain rfl := Option.some.inj h
  exact Wp.done rfl (by decide) H
abbrev s_X12_tune_mods : List (Nat × Option Nat) := [(122, some 24), (122, some 25), (122, some 26), (122, some 28)]
noncomputable def s_X12_tune (M : fM) (l1 : Int) : Option (Unit × fM) :=
  if fin (13 + (fdiv l1 7)) ∧ (0 ≤ (13 + (fdiv l1 7)) ∧ (13 + (fdiv l1 7)) < 1290) then
    some ((), (fup (fup (fup (fup M 122 24 l1) 122 25 0) 122 26 0) 122 28 (M 124 (13 + (fdiv l1 7)).toNat)))
  else none
theorem s_X12_tune_ok {d L : Nat} {M : fM} {l1 : Int} {r : (Unit × fM)} {Q : fO → fH → Prop} (h : s_X12_tune M l1 = some r) (H : Q (oV r.1) (156, fjl L, r.2)) : Wp (d + 0, 254, 0, 0, 0, [some (fA 122), some (fI l1)], []) (156, fjl L, M) Q := by
  unfold s_X12_tune at h
  obtain ⟨⟨g0, g1⟩, h⟩ := fgd h
  refine Wp.run 19 (P := [(7 : Int) ≠ 0, 0 ≤ (fw (13 + (fdiv l1 7))) ∧ (fw (13 + (fdiv l1 7))) < 1290]) (f' := (d + 0, 254, 31, 0, 0, [_, _], [])) (h' := (156, fjl L, (fup (fup (fup (fup M 122 24 l1) 122 25 0) 122 26 0) 122 28 (M 124 (fw (13 + (fdiv l1 7))).toNat)))) rfl ?_ ?_
  · rw [fw_id g0]; exact ⟨(by decide : (7 : Int) ≠ 0), g1⟩
  rw [fw_id g0]
  obtain rfl := Option.some.inj h
  exact Wp.done rfl (by decide) H
theorem s_X12_tune_fr {M : fM} {l1 : Int} {r : (Unit × fM)} (h : s_X12_tune M l1 = some r) : fSame s_X12_tune_mods M r.2 := by
  unfold s_X12_tune at h
  replace h := (fgd h).2
  obtain rfl := Option.some.inj h
  exact fs_up (fs_up (fs_up (fs_up fs_refl (.inr (by decide))) (.inr (by decide))) (.inr (by decide))) (.inr (by decide))
abbrev s_X12_course_mods : List (Nat × Option Nat) := [(122, some 24), (122, some 25), (122, some 26), (122, some 27), (122, some 28), (128, none), (129, none)]
noncomputable def s_X12_course_b8 (M : fM) (l1 l2 l3 l4 : Int) : Option ((Int × fM) ⊕ fM) :=
  if 386 ≤ l4 then
    some (.inr M)
  else
    if (0 ≤ l4 ∧ l4 < 386) ∧ fin (l4 + 1) then
      some (.inl ((l4 + 1), (fup M 128 (l4).toNat 0)))
    else none
theorem s_X12_course_b8_ok {d L : Nat} {M : fM} {l1 l2 l3 l4 : Int} {o5 : Option fV} {r : ((Int × fM) ⊕ fM)} {Q : fO → fH → Prop} (h : s_X12_course_b8 M l1 l2 l3 l4 = some r) (hC : ∀ (l4' : Int) (M' : fM) (o5' : Option fV), r = .inl (l4', M') → Wp (d + 2, 253, 8, 0, 0, [some (fA 122), some (fI l1), some (fI l2), some (fI l3), some (fI l4'), o5'], []) (156, fjl L, M') Q) (hE : ∀ (e : fM) (o4' o5' : Option fV), r = .inr e → Wp (d + 2, 253, 30, 0, 0, [some (fA 122), some (fI l1), some (fI l2), some (fI l3), o4', o5'], []) (156, fjl L, e) Q) : Wp (d + 2, 253, 8, 0, 0, [some (fA 122), some (fI l1), some (fI l2), some (fI l3), some (fI l4), o5], []) (156, fjl L, M) Q := by
  unfold s_X12_course_b8 at h
  refine Wp.run 2 (f' := (d + 2, 253, 13, 0, 0, [some (fA 122), some (fI l1), some (fI l2), some (fI l3), some (fI l4), _], [fI 386, fI l4])) (h' := (156, fjl L, M)) rfl trivial ?_
  refine Wp.br rfl (fun (c : 386 ≤ l4) => ?_) (fun (c : ¬ (386 ≤ l4)) => ?_)
  · replace h := fps c h
    exact hE _ _ _ (Option.some.inj h).symm
  · replace h := fng c h
    obtain ⟨⟨g0, g1⟩, h⟩ := fgd h
    refine Wp.run 7 (P := [0 ≤ l4 ∧ l4 < 386]) (f' := (d + 2, 253, 8, 0, 0, [some (fA 122), some (fI l1), some (fI l2), some (fI l3), some (fI (fw (l4 + 1))), _], [])) (h' := (156, fjl L, (fup M 128 (l4).toNat 0))) rfl ?_ ?_
    · exact g0
    rw [fw_id g1]
    exact hC _ _ _ (Option.some.inj h).symm
theorem s_X12_course_b8_fr {M : fM} {l1 l2 l3 l4 : Int} {r : ((Int × fM) ⊕ fM)} (h : s_X12_course_b8 M l1 l2 l3 l4 = some r) : fSame s_X12_course_mods M (Sum.elim (fun s => s.2) (fun e => e) r) := by
  unfold s_X12_course_b8 at h
  by_cases c : 386 ≤ l4
  · replace h := fps c h
    obtain rfl := Option.some.inj h
    exact fs_refl
  · replace h := fng c h
    replace h := (fgd h).2
    obtain rfl := Option.some.inj h
    exact fs_up fs_refl (.inl (by decide))
noncomputable def s_X12_course_l8 (l1 l2 l3 : Int) (s : (Int × fM)) : Option fM := fLp (fun s => s_X12_course_b8 s.2 l1 l2 l3 s.1) s
theorem s_X12_course_l8_ok {d L : Nat} {M : fM} {l1 l2 l3 l4 : Int} {o5 : Option fV} {r : fM} {Q : fO → fH → Prop} (h : s_X12_course_l8 l1 l2 l3 (l4, M) = some r) (hE : ∀ (e : fM) (o4' o5' : Option fV), r = e → Wp (d + 2, 253, 30, 0, 0, [some (fA 122), some (fI l1), some (fI l2), some (fI l3), o4', o5'], []) (156, fjl L, e) Q) : Wp (d + 2, 253, 8, 0, 0, [some (fA 122), some (fI l1), some (fI l2), some (fI l3), some (fI l4), o5], []) (156, fjl L, M) Q := by
  refine fLp_wp (W := fun s => ∀ (o5 : Option fV), Wp (d + 2, 253, 8, 0, 0, [some (fA 122), some (fI l1), some (fI l2), some (fI l3), some (fI s.1), o5], []) (156, fjl L, s.2) Q) (e := r) ?_ h _
  intro s r1 h hC hX o5
  refine s_X12_course_b8_ok (d := d) h (fun a0 a1 _ e1 => ?_) (fun e u0 u1 e1 => hE e u0 u1 (hX _ e1).symm)
  exact hC _ e1 _
theorem s_X12_course_l8_fr {M : fM} {l1 l2 l3 l4 : Int} {r : fM} (h : s_X12_course_l8 l1 l2 l3 (l4, M) = some r) : fSame s_X12_course_mods M ((fun e => e) r) := by
  refine fLp_inv (I := fun s => fSame s_X12_course_mods M s.2) (J := fun r => fSame s_X12_course_mods M ((fun e => e) r)) h fs_refl (fun s s1 hs hb => ?_) (fun s e hs hb => ?_)
  · exact fs_trans hs (s_X12_course_b8_fr hb)
  · exact fs_trans hs (s_X12_course_b8_fr hb)
noncomputable def s_X12_course_b59 (M : fM) (l1 l2 l3 l4 l5 : Int) : Option ((Int × fM) ⊕ fM) :=
  if 21 < l5 then
    some (.inr M)
  else
    if fin (19 * l4) ∧ fin ((19 * l4) + 2) ∧ (0 ≤ ((19 * l4) + 2) ∧ ((19 * l4) + 2) < 3800) ∧ fin ((M 125 ((19 * l4) + 2).toNat) + l5) ∧ (0 ≤ ((M 125 ((19 * l4) + 2).toNat) + l5) ∧ ((M 125 ((19 * l4) + 2).toNat) + l5) < 386) then
      if fin (l5 + 1) then
        some (.inl ((l5 + 1), (fup M 128 ((M 125 ((19 * l4) + 2).toNat) + l5).toNat 1)))
      else none
    else none
theorem s_X12_course_b59_ok {d L : Nat} {M : fM} {l1 l2 l3 l4 l5 : Int} {r : ((Int × fM) ⊕ fM)} {Q : fO → fH → Prop} (h : s_X12_course_b59 M l1 l2 l3 l4 l5 = some r) (hC : ∀ (l5' : Int) (M' : fM), r = .inl (l5', M') → Wp (d + 2, 253, 59, 0, 0, [some (fA 122), some (fI l1), some (fI l2), some (fI l3), some (fI l4), some (fI l5')], []) (156, fjl L, M') Q) (hE : ∀ (e : fM) (o5' : Option fV), r = .inr e → Wp (d + 2, 253, 93, 0, 0, [some (fA 122), some (fI l1), some (fI l2), some (fI l3), some (fI l4), o5'], []) (156, fjl L, e) Q) : Wp (d + 2, 253, 59, 0, 0, [some (fA 122), some (fI l1), some (fI l2), some (fI l3), some (fI l4), some (fI l5)], []) (156, fjl L, M) Q := by
  unfold s_X12_course_b59 at h
  refine Wp.run 2 (f' := (d + 2, 253, 63, 0, 0, [some (fA 122), some (fI l1), some (fI l2), some (fI l3), some (fI l4), some (fI l5)], [fI 21, fI l5])) (h' := (156, fjl L, M)) rfl trivial ?_
  refine Wp.br rfl (fun (c : 21 < l5) => ?_) (fun (c : ¬ (21 < l5)) => ?_)
  · replace h := fps c h
    exact hE _ _ (Option.some.inj h).symm
  · replace h := fng c h
    obtain ⟨⟨g0, g1, g2, g3, g4⟩, h⟩ := fgd h
    refine Wp.run 14 (P := [0 ≤ (fw ((fw (19 * l4)) + 2)) ∧ (fw ((fw (19 * l4)) + 2)) < 3800, 0 ≤ (fw ((M 125 (fw ((fw (19 * l4)) + 2)).toNat) + l5)) ∧ (fw ((M 125 (fw ((fw (19 * l4)) + 2)).toNat) + l5)) < 386]) (f' := (d + 2, 253, 87, 0, 0, [some (fA 122), some (fI l1), some (fI l2), some (fI l3), some (fI l4), some (fI l5)], [])) (h' := (156, fjl L, (fup M 128 (fw ((M 125 (fw ((fw (19 * l4)) + 2)).toNat) + l5)).toNat 1))) rfl ?_ ?_
    · rw [fw_id g0, fw_id g1, fw_id g3]; exact ⟨g2, g4⟩
    rw [fw_id g0, fw_id g1, fw_id g3]
    obtain ⟨g0, h⟩ := fgd h
    refine Wp.run 2 (f' := (d + 2, 253, 59, 0, 0, [some (fA 122), some (fI l1), some (fI l2), some (fI l3), some (fI l4), some (fI (fw (l5 + 1)))], [])) (h' := (156, fjl L, (fup M 128 ((M 125 ((19 * l4) + 2).toNat) + l5).toNat 1))) rfl trivial ?_
    rw [fw_id g0]
    exact hC _ _ (Option.some.inj h).symm
theorem s_X12_course_b59_fr {M : fM} {l1 l2 l3 l4 l5 : Int} {r : ((Int × fM) ⊕ fM)} (h : s_X12_course_b59 M l1 l2 l3 l4 l5 = some r) : fSame s_X12_course_mods M (Sum.elim (fun s => s.2) (fun e => e) r) := by
  unfold s_X12_course_b59 at h
  by_cases c : 21 < l5
  · replace h := fps c h
    obtain rfl := Option.some.inj h
    exact fs_refl
  · replace h := fng c h
    replace h := (fgd h).2
    replace h := (fgd h).2
    obtain rfl := Option.some.inj h
    exact fs_up fs_refl (.inl (by decide))
noncomputable def s_X12_course_l59 (l1 l2 l3 l4 : Int) (s : (Int × fM)) : Option fM := fLp (fun s => s_X12_course_b59 s.2 l1 l2 l3 l4 s.1) s
theorem s_X12_course_l59_ok {d L : Nat} {M : fM} {l1 l2 l3 l4 l5 : Int} {r : fM} {Q : fO → fH → Prop} (h : s_X12_course_l59 l1 l2 l3 l4 (l5, M) = some r) (hE : ∀ (e : fM) (o5' : Option fV), r = e → Wp (d + 2, 253, 93, 0, 0, [some (fA 122), some (fI l1), some (fI l2), some (fI l3), some (fI l4), o5'], []) (156, fjl L, e) Q) : Wp (d + 2, 253, 59, 0, 0, [some (fA 122), some (fI l1), some (fI l2), some (fI l3), some (fI l4), some (fI l5)], []) (156, fjl L, M) Q := by
  refine fLp_wp (W := fun s => Wp (d + 2, 253, 59, 0, 0, [some (fA 122), some (fI l1), some (fI l2), some (fI l3), some (fI l4), some (fI s.1)], []) (156, fjl L, s.2) Q) (e := r) ?_ h
  intro s r1 h hC hX
  refine s_X12_course_b59_ok (d := d) h (fun a0 a1 e1 => ?_) (fun e u0 e1 => hE e u0 (hX _ e1).symm)
  exact hC _ e1
theorem s_X12_course_l59_fr {M : fM} {l1 l2 l3 l4 l5 : Int} {r : fM} (h : s_X12_course_l59 l1 l2 l3 l4 (l5, M) = some r) : fSame s_X12_course_mods M ((fun e => e) r) := by
  refine fLp_inv (I := fun s => fSame s_X12_course_mods M s.2) (J := fun r => fSame s_X12_course_mods M ((fun e => e) r)) h fs_refl (fun s s1 hs hb => ?_) (fun s e hs hb => ?_)
  · exact fs_trans hs (s_X12_course_b59_fr hb)
  · exact fs_trans hs (s_X12_course_b59_fr hb)
noncomputable def s_X12_course_b33 (M : fM) (l1 l2 l3 l4 : Int) : Option ((Int × fM) ⊕ fM) :=
  if (M 122 10) ≤ l4 then
    some (.inr M)
  else
    (s_X12_isOf M l4 6 l1 l2 l3).bind fun y50 =>
      if y50 = 0 then
        if fin (l4 + 1) then
          some (.inl ((l4 + 1), M))
        else none
      else
        (s_X12_course_l59 l1 l2 l3 l4 (1, M)).bind fun e59 =>
          if fin (l4 + 1) then
            some (.inl ((l4 + 1), e59))
          else none
theorem s_X12_course_b33_ok {d L : Nat} {M : fM} {l1 l2 l3 l4 : Int} {o5 : Option fV} {r : ((Int × fM) ⊕ fM)} {Q : fO → fH → Prop} (h : s_X12_course_b33 M l1 l2 l3 l4 = some r) (hC : ∀ (l4' : Int) (M' : fM) (o5' : Option fV), r = .inl (l4', M') → Wp (d + 2, 253, 33, 0, 0, [some (fA 122), some (fI l1), some (fI l2), some (fI l3), some (fI l4'), o5'], []) (156, fjl L, M') Q) (hE : ∀ (e : fM) (o4' o5' : Option fV), r = .inr e → Wp (d + 2, 253, 99, 0, 0, [some (fA 122), some (fI l1), some (fI l2), some (fI l3), o4', o5'], []) (156, fjl L, e) Q) : Wp (d + 2, 253, 33, 0, 0, [some (fA 122), some (fI l1), some (fI l2), some (fI l3), some (fI l4), o5], []) (156, fjl L, M) Q := by
  unfold s_X12_course_b33 at h
  refine Wp.run 3 (f' := (d + 2, 253, 39, 0, 0, [some (fA 122), some (fI l1), some (fI l2), some (fI l3), some (fI l4), _], [fI (M 122 10), fI l4])) (h' := (156, fjl L, M)) rfl trivial ?_
  refine Wp.br rfl (fun (c : (M 122 10) ≤ l4) => ?_) (fun (c : ¬ ((M 122 10) ≤ l4)) => ?_)
  · replace h := fps c h
    exact hE _ _ _ (Option.some.inj h).symm
  · replace h := fng c h
    refine Wp.run 6 (f' := (d + 2, 253, 50, 0, 0, [some (fA 122), some (fI l1), some (fI l2), some (fI l3), some (fI l4), _], [fI l3, fI l2, fI l1, fI 6, fI l4, fA 122])) (h' := (156, fjl L, M)) rfl trivial ?_
    obtain ⟨y50, hy, h⟩ := fbd h
    refine Wp.call rfl (by decide) (s_X12_isOf_ok (d := d + 1) hy ?_)
    show Wp (d + 2, 253, 53, 0, 0, [some (fA 122), some (fI l1), some (fI l2), some (fI l3), some (fI l4), _], [fI y50]) (156, fjl L, M) Q
    refine Wp.br rfl (fun (c : y50 = 0) => ?_) (fun (c : ¬ (y50 = 0)) => ?_)
    · replace h := fps c h
      obtain ⟨g0, h⟩ := fgd h
      refine Wp.run 2 (f' := (d + 2, 253, 33, 0, 0, [some (fA 122), some (fI l1), some (fI l2), some (fI l3), some (fI (fw (l4 + 1))), _], [])) (h' := (156, fjl L, M)) rfl trivial ?_
      rw [fw_id g0]
      exact hC _ _ _ (Option.some.inj h).symm
    · replace h := fng c h
      refine Wp.run 2 (f' := (d + 2, 253, 59, 0, 0, [some (fA 122), some (fI l1), some (fI l2), some (fI l3), some (fI l4), some (fI 1)], [])) (h' := (156, fjl L, M)) rfl trivial ?_
      obtain ⟨e59, hy, h⟩ := fbd h
      refine s_X12_course_l59_ok hy (fun x u5 ex => ?_)
      cases ex
      show Wp (d + 2, 253, 93, 0, 0, [some (fA 122), some (fI l1), some (fI l2), some (fI l3), some (fI l4), u5], []) (156, fjl L, e59) Q
      obtain ⟨g0, h⟩ := fgd h
      refine Wp.run 2 (f' := (d + 2, 253, 33, 0, 0, [some (fA 122), some (fI l1), some (fI l2), some (fI l3), some (fI (fw (l4 + 1))), _], [])) (h' := (156, fjl L, e59)) rfl trivial ?_
      rw [fw_id g0]
      exact hC _ _ _ (Option.some.inj h).symm
theorem s_X12_course_b33_fr {M : fM} {l1 l2 l3 l4 : Int} {r : ((Int × fM) ⊕ fM)} (h : s_X12_course_b33 M l1 l2 l3 l4 = some r) : fSame s_X12_course_mods M (Sum.elim (fun s => s.2) (fun e => e) r) := by
  unfold s_X12_course_b33 at h
  by_cases c : (M 122 10) ≤ l4
  · replace h := fps c h
    obtain rfl := Option.some.inj h
    exact fs_refl
  · replace h := fng c h
    obtain ⟨y50, hy, h⟩ := fbd h
    by_cases c : y50 = 0
    · replace h := fps c h
      replace h := (fgd h).2
      obtain rfl := Option.some.inj h
      exact fs_refl
    · replace h := fng c h
      obtain ⟨e59, hy, h⟩ := fbd h
      have k59 := fs_trans (l := s_X12_course_mods) fs_refl (s_X12_course_l59_fr hy)
      replace h := (fgd h).2
      obtain rfl := Option.some.inj h
      exact k59
noncomputable def s_X12_course_l33 (l1 l2 l3 : Int) (s : (Int × fM)) : Option fM := fLp (fun s => s_X12_course_b33 s.2 l1 l2 l3 s.1) s
theorem s_X12_course_l33_ok {d L : Nat} {M : fM} {l1 l2 l3 l4 : Int} {o5 : Option fV} {r : fM} {Q : fO → fH → Prop} (h : s_X12_course_l33 l1 l2 l3 (l4, M) = some r) (hE : ∀ (e : fM) (o4' o5' : Option fV), r = e → Wp (d + 2, 253, 99, 0, 0, [some (fA 122), some (fI l1), some (fI l2), some (fI l3), o4', o5'], []) (156, fjl L, e) Q) : Wp (d + 2, 253, 33, 0, 0, [some (fA 122), some (fI l1), some (fI l2), some (fI l3), some (fI l4), o5], []) (156, fjl L, M) Q := by
  refine fLp_wp (W := fun s => ∀ (o5 : Option fV), Wp (d + 2, 253, 33, 0, 0, [some (fA 122), some (fI l1), some (fI l2), some (fI l3), some (fI s.1), o5], []) (156, fjl L, s.2) Q) (e := r) ?_ h _
  intro s r1 h hC hX o5
  refine s_X12_course_b33_ok (d := d) h (fun a0 a1 _ e1 => ?_) (fun e u0 u1 e1 => hE e u0 u1 (hX _ e1).symm)
  exact hC _ e1 _
theorem s_X12_course_l33_fr {M : fM} {l1 l2 l3 l4 : Int} {r : fM} (h : s_X12_course_l33 l1 l2 l3 (l4, M) = some r) : fSame s_X12_course_mods M ((fun e => e) r) := by
  refine fLp_inv (I := fun s => fSame s_X12_course_mods M s.2) (J := fun r => fSame s_X12_course_mods M ((fun e => e) r)) h fs_refl (fun s s1 hs hb => ?_) (fun s e hs hb => ?_)
  · exact fs_trans hs (s_X12_course_b33_fr hb)
  · exact fs_trans hs (s_X12_course_b33_fr hb)
noncomputable def s_X12_course_b119 (M : fM) (l4 l5 : Int) : Option ((Int × fM) ⊕ fM) :=
  if 12 ≤ l5 then
    some (.inr M)
  else
    if fin (19 * l4) ∧ fin ((19 * l4) + 7) ∧ fin (((19 * l4) + 7) + l5) ∧ (0 ≤ (((19 * l4) + 7) + l5) ∧ (((19 * l4) + 7) + l5) < 3800) then
      if fin (19 * l4) ∧ fin ((19 * l4) + 4) ∧ (0 ≤ ((19 * l4) + 4) ∧ ((19 * l4) + 4) < 3800) ∧ fin (3 * (M 125 ((19 * l4) + 4).toNat)) ∧ fin (591 + (3 * (M 125 ((19 * l4) + 4).toNat))) ∧ fin ((591 + (3 * (M 125 ((19 * l4) + 4).toNat))) + 2) ∧ (0 ≤ ((591 + (3 * (M 125 ((19 * l4) + 4).toNat))) + 2) ∧ ((591 + (3 * (M 125 ((19 * l4) + 4).toNat))) + 2) < 1290) ∧ fin ((M 125 (((19 * l4) + 7) + l5).toNat) + (M 124 ((591 + (3 * (M 125 ((19 * l4) + 4).toNat))) + 2).toNat)) ∧ (0 ≤ l5 ∧ l5 < 12) then
        if fin (l5 + 1) then
          some (.inl ((l5 + 1), (fup M 129 (l5).toNat ((M 125 (((19 * l4) + 7) + l5).toNat) + (M 124 ((591 + (3 * (M 125 ((19 * l4) + 4).toNat))) + 2).toNat)))))
        else none
      else none
    else none
theorem s_X12_course_b119_ok {d L : Nat} {M : fM} {l4 l5 : Int} {o1 o2 o3 : Option fV} {r : ((Int × fM) ⊕ fM)} {Q : fO → fH → Prop} (h : s_X12_course_b119 M l4 l5 = some r) (hC : ∀ (l5' : Int) (M' : fM) (o1' o2' o3' : Option fV), r = .inl (l5', M') → Wp (d + 2, 253, 119, 0, 0, [some (fA 122), o1', o2', o3', some (fI l4), some (fI l5')], []) (156, fjl L, M') Q) (hE : ∀ (e : fM) (o1' o2' o3' o5' : Option fV), r = .inr e → Wp (d + 2, 253, 181, 0, 0, [some (fA 122), o1', o2', o3', some (fI l4), o5'], []) (156, fjl L, e) Q) : Wp (d + 2, 253, 119, 0, 0, [some (fA 122), o1, o2, o3, some (fI l4), some (fI l5)], []) (156, fjl L, M) Q := by
  unfold s_X12_course_b119 at h
  refine Wp.run 2 (f' := (d + 2, 253, 123, 0, 0, [some (fA 122), _, _, _, some (fI l4), some (fI l5)], [fI 12, fI l5])) (h' := (156, fjl L, M)) rfl trivial ?_
  refine Wp.br rfl (fun (c : 12 ≤ l5) => ?_) (fun (c : ¬ (12 ≤ l5)) => ?_)
  · replace h := fps c h
    exact hE _ _ _ _ _ (Option.some.inj h).symm
  · replace h := fng c h
    obtain ⟨⟨g0, g1, g2, g3⟩, h⟩ := fgd h
    refine Wp.run 20 (P := [0 ≤ (fw ((fw ((fw (19 * l4)) + 7)) + l5)) ∧ (fw ((fw ((fw (19 * l4)) + 7)) + l5)) < 3800]) (f' := (d + 2, 253, 162, 0, 0, [some (fA 122), _, _, _, some (fI l4), some (fI l5)], [fI 19, fA 125, fI 3, fI 591, fA 124, fI (M 125 (fw ((fw ((fw (19 * l4)) + 7)) + l5)).toNat), fI l5, fA 129])) (h' := (156, fjl L, M)) rfl ?_ ?_
    · rw [fw_id g0, fw_id g1, fw_id g2]; exact g3
    rw [fw_id g0, fw_id g1, fw_id g2]
    obtain ⟨⟨g0, g1, g2, g3, g4, g5, g6, g7, g8⟩, h⟩ := fgd h
    refine Wp.run 12 (P := [0 ≤ (fw ((fw (19 * l4)) + 4)) ∧ (fw ((fw (19 * l4)) + 4)) < 3800, 0 ≤ (fw ((fw (591 + (fw (3 * (M 125 (fw ((fw (19 * l4)) + 4)).toNat))))) + 2)) ∧ (fw ((fw (591 + (fw (3 * (M 125 (fw ((fw (19 * l4)) + 4)).toNat))))) + 2)) < 1290, 0 ≤ l5 ∧ l5 < 12]) (f' := (d + 2, 253, 175, 0, 0, [some (fA 122), _, _, _, some (fI l4), some (fI l5)], [])) (h' := (156, fjl L, (fup M 129 (l5).toNat (fw ((M 125 (((19 * l4) + 7) + l5).toNat) + (M 124 (fw ((fw (591 + (fw (3 * (M 125 (fw ((fw (19 * l4)) + 4)).toNat))))) + 2)).toNat)))))) rfl ?_ ?_
    · rw [fw_id g0, fw_id g1, fw_id g3, fw_id g4, fw_id g5]; exact ⟨g2, g6, g8⟩
    rw [fw_id g0, fw_id g1, fw_id g3, fw_id g4, fw_id g5, fw_id g7]
    obtain ⟨g0, h⟩ := fgd h
    refine Wp.run 2 (f' := (d + 2, 253, 119, 0, 0, [some (fA 122), _, _, _, some (fI l4), some (fI (fw (l5 + 1)))], [])) (h' := (156, fjl L, (fup M 129 (l5).toNat ((M 125 (((19 * l4) + 7) + l5).toNat) + (M 124 ((591 + (3 * (M 125 ((19 * l4) + 4).toNat))) + 2).toNat))))) rfl trivial ?_
    rw [fw_id g0]
    exact hC _ _ _ _ _ (Option.some.inj h).symm
theorem s_X12_course_b119_fr {M : fM} {l4 l5 : Int} {r : ((Int × fM) ⊕ fM)} (h : s_X12_course_b119 M l4 l5 = some r) : fSame s_X12_course_mods M (Sum.elim (fun s => s.2) (fun e => e) r) := by
  unfold s_X12_course_b119 at h
  by_cases c : 12 ≤ l5
  · replace h := fps c h
    obtain rfl := Option.some.inj h
    exact fs_refl
  · replace h := fng c h
    replace h := (fgd h).2
    replace h := (fgd h).2
    replace h := (fgd h).2
    obtain rfl := Option.some.inj h
    exact fs_up fs_refl (.inl (by decide))
noncomputable def s_X12_course_l119 (l4 : Int) (s : (Int × fM)) : Option fM := fLp (fun s => s_X12_course_b119 s.2 l4 s.1) s
theorem s_X12_course_l119_ok {d L : Nat} {M : fM} {l4 l5 : Int} {o1 o2 o3 : Option fV} {r : fM} {Q : fO → fH → Prop} (h : s_X12_course_l119 l4 (l5, M) = some r) (hE : ∀ (e : fM) (o1' o2' o3' o5' : Option fV), r = e → Wp (d + 2, 253, 181, 0, 0, [some (fA 122), o1', o2', o3', some (fI l4), o5'], []) (156, fjl L, e) Q) : Wp (d + 2, 253, 119, 0, 0, [some (fA 122), o1, o2, o3, some (fI l4), some (fI l5)], []) (156, fjl L, M) Q := by
  refine fLp_wp (W := fun s => ∀ (o1 o2 o3 : Option fV), Wp (d + 2, 253, 119, 0, 0, [some (fA 122), o1, o2, o3, some (fI l4), some (fI s.1)], []) (156, fjl L, s.2) Q) (e := r) ?_ h _ _ _
  intro s r1 h hC hX o1 o2 o3
  refine s_X12_course_b119_ok (d := d) h (fun a0 a1 _ _ _ e1 => ?_) (fun e u0 u1 u2 u3 e1 => hE e u0 u1 u2 u3 (hX _ e1).symm)
  exact hC _ e1 _ _ _
theorem s_X12_course_l119_fr {M : fM} {l4 l5 : Int} {r : fM} (h : s_X12_course_l119 l4 (l5, M) = some r) : fSame s_X12_course_mods M ((fun e => e) r) := by
  refine fLp_inv (I := fun s => fSame s_X12_course_mods M s.2) (J := fun r => fSame s_X12_course_mods M ((fun e => e) r)) h fs_refl (fun s s1 hs hb => ?_) (fun s e hs hb => ?_)
  · exact fs_trans hs (s_X12_course_b119_fr hb)
  · exact fs_trans hs (s_X12_course_b119_fr hb)
noncomputable def s_X12_course (M : fM) (l1 l2 l3 : Int) : Option (Int × fM) :=
  (s_X12_course_l8 l1 l2 l3 (0, (fup M 122 27 l1))).bind fun e8 =>
    (s_X12_course_l33 l1 l2 l3 (0, e8)).bind fun e33 =>
      (s_X12_latest e33 0 l1 l2 l3).bind fun y104 =>
        if 0 ≤ y104 then
          (s_X12_course_l119 y104 (0, e33)).bind fun e119 =>
            if fin (19 * y104) ∧ fin ((19 * y104) + 2) ∧ (0 ≤ ((19 * y104) + 2) ∧ ((19 * y104) + 2) < 3800) then
              (s_X12_tune e119 (e119 125 ((19 * y104) + 2).toNat)).bind fun y194 =>
                some (1, y194.2)
            else none
        else
          some (0, e33)
theorem s_X12_course_ok {d L : Nat} {M : fM} {l1 l2 l3 : Int} {r : (Int × fM)} {Q : fO → fH → Prop} (h : s_X12_course M l1 l2 l3 = some r) (H : Q (oI r.1) (156, fjl L, r.2)) : Wp (d + 2, 253, 0, 0, 0, [some (fA 122), some (fI l1), some (fI l2), some (fI l3), none, none], []) (156, fjl L, M) Q := by
  unfold s_X12_course at h
  refine Wp.run 5 (f' := (d + 2, 253, 8, 0, 0, [some (fA 122), some (fI l1), some (fI l2), some (fI l3), some (fI 0), _], [])) (h' := (156, fjl L, (fup M 122 27 l1))) rfl trivial ?_
  obtain ⟨e8, hy, h⟩ := fbd h
  refine s_X12_course_l8_ok hy (fun x u4 u5 ex => ?_)
  cases ex
  show Wp (d + 2, 253, 30, 0, 0, [some (fA 122), some (fI l1), some (fI l2), some (fI l3), u4, u5], []) (156, fjl L, e8) Q
  refine Wp.run 2 (f' := (d + 2, 253, 33, 0, 0, [some (fA 122), some (fI l1), some (fI l2), some (fI l3), some (fI 0), _], [])) (h' := (156, fjl L, e8)) rfl trivial ?_
  obtain ⟨e33, hy, h⟩ := fbd h
  refine s_X12_course_l33_ok hy (fun x u4 u5 ex => ?_)
  cases ex
  show Wp (d + 2, 253, 99, 0, 0, [some (fA 122), some (fI l1), some (fI l2), some (fI l3), u4, u5], []) (156, fjl L, e33) Q
  refine Wp.run 5 (f' := (d + 2, 253, 104, 0, 0, [some (fA 122), _, _, _, _, _], [fI l3, fI l2, fI l1, fI 0, fA 122])) (h' := (156, fjl L, e33)) rfl trivial ?_
  obtain ⟨y104, hy, h⟩ := fbd h
  refine Wp.call rfl (by decide) (s_X12_latest_ok (d := d + 0) hy ?_)
  show Wp (d + 2, 253, 107, 0, 0, [some (fA 122), _, _, _, _, _], [fI y104]) (156, fjl L, e33) Q
  refine Wp.run 2 (f' := (d + 2, 253, 111, 0, 0, [some (fA 122), _, _, _, some (fI y104), _], [fI y104])) (h' := (156, fjl L, e33)) rfl trivial ?_
  refine Wp.br rfl (fun (c : 0 ≤ y104) => ?_) (fun (c : ¬ (0 ≤ y104)) => ?_)
  · replace h := fps c h
    refine Wp.run 2 (f' := (d + 2, 253, 119, 0, 0, [some (fA 122), _, _, _, some (fI y104), some (fI 0)], [])) (h' := (156, fjl L, e33)) rfl trivial ?_
    obtain ⟨e119, hy, h⟩ := fbd h
    refine s_X12_course_l119_ok hy (fun x u1 u2 u3 u5 ex => ?_)
    cases ex
    show Wp (d + 2, 253, 181, 0, 0, [some (fA 122), u1, u2, u3, some (fI y104), u5], []) (156, fjl L, e119) Q
    obtain ⟨⟨g0, g1, g2⟩, h⟩ := fgd h
    refine Wp.run 9 (P := [0 ≤ (fw ((fw (19 * y104)) + 2)) ∧ (fw ((fw (19 * y104)) + 2)) < 3800]) (f' := (d + 2, 253, 194, 0, 0, [_, _, _, _, _, _], [fI (e119 125 (fw ((fw (19 * y104)) + 2)).toNat), fA 122])) (h' := (156, fjl L, e119)) rfl ?_ ?_
    · rw [fw_id g0, fw_id g1]; exact g2
    rw [fw_id g0, fw_id g1]
    obtain ⟨y194, hy, h⟩ := fbd h
    refine Wp.call rfl (by decide) (s_X12_tune_ok (d := d + 1) hy ?_)
    show Wp (d + 2, 253, 197, 0, 0, [_, _, _, _, _, _], []) (156, fjl L, y194.2) Q
    refine Wp.run 1 (f' := (d + 2, 253, 198, 0, 0, [_, _, _, _, _, _], [fI 1])) (h' := (156, fjl L, y194.2)) rfl trivial ?_
    obtain rfl := Option.some.inj h
    exact Wp.done rfl (by decide) H
  · replace h := fng c h
    refine Wp.run 1 (f' := (d + 2, 253, 115, 0, 0, [_, _, _, _, _, _], [fI 0])) (h' := (156, fjl L, e33)) rfl trivial ?_
    obtain rfl := Option.some.inj h
    exact Wp.done rfl (by decide) H
theorem s_X12_course_fr {M : fM} {l1 l2 l3 : Int} {r : (Int × fM)} (h : s_X12_course M l1 l2 l3 = some r) : fSame s_X12_course_mods M r.2 := by
  unfold s_X12_course at h
  obtain ⟨e8, hy, h⟩ := fbd h
  have k8 := fs_trans (l := s_X12_course_mods) (fs_up fs_refl (.inr (by decide))) (s_X12_course_l8_fr hy)
  obtain ⟨e33, hy, h⟩ := fbd h
  have k33 := fs_trans (l := s_X12_course_mods) k8 (s_X12_course_l33_fr hy)
  obtain ⟨y104, hy, h⟩ := fbd h
  by_cases c : 0 ≤ y104
  · replace h := fps c h
    obtain ⟨e119, hy, h⟩ := fbd h
    have k119 := fs_trans (l := s_X12_course_mods) k33 (s_X12_course_l119_fr hy)
    replace h := (fgd h).2
    obtain ⟨y194, hy, h⟩ := fbd h
    have k194 := fs_trans (l := s_X12_course_mods) k119 (fs_mono (l := s_X12_tune_mods) (by decide) (s_X12_tune_fr hy))
    obtain rfl := Option.some.inj h
    exact k194
  · replace h := fng c h
    obtain rfl := Option.some.inj h
    exact k33
abbrev s_X12_pass_mods : List (Nat × Option Nat) := [(122, some 25), (122, some 26)]
noncomputable def s_X12_pass_j24 (M : fM) (l2 t1 t2 : Int) : Option (Unit × fM) :=
  if fin (t1 + t2) then
    (s_X12_of (fup M 122 25 (t1 + t2)) (M 122 27) 7).bind fun y40 =>
      if ¬ y40 = 1 then
        if fin ((M 122 26) + 0) then
          some ((), (fup (fup M 122 25 (t1 + t2)) 122 26 ((M 122 26) + 0)))
        else none
      else
        if l2 ≤ 8 then
          if fin ((M 122 26) + 2) then
            some ((), (fup (fup M 122 25 (t1 + t2)) 122 26 ((M 122 26) + 2)))
          else none
        else
          if l2 < 44 then
            if fin ((M 122 26) + 0) then
              some ((), (fup (fup M 122 25 (t1 + t2)) 122 26 ((M 122 26) + 0)))
            else none
          else
            if fin ((M 122 26) + 2) then
              some ((), (fup (fup M 122 25 (t1 + t2)) 122 26 ((M 122 26) + 2)))
            else none
  else none
theorem s_X12_pass_j24_ok {d L : Nat} {M : fM} {l2 t1 t2 : Int} {o1 : Option fV} {r : (Unit × fM)} {Q : fO → fH → Prop} (h : s_X12_pass_j24 M l2 t1 t2 = some r) (H : Q (oV r.1) (156, fjl L, r.2)) : Wp (d + 1, 255, 24, 0, 0, [some (fA 122), o1, some (fI l2)], [fI t2, fI t1, fA 122]) (156, fjl L, M) Q := by
  unfold s_X12_pass_j24 at h
  obtain ⟨g0, h⟩ := fgd h
  refine Wp.run 9 (f' := (d + 1, 255, 40, 0, 0, [_, _, some (fI l2)], [fI 7, fI (M 122 27), fA 122, fI (M 122 26), fA 122])) (h' := (156, fjl L, (fup M 122 25 (fw (t1 + t2))))) rfl trivial ?_
  rw [fw_id g0]
  obtain ⟨y40, hy, h⟩ := fbd h
  refine Wp.call rfl (by decide) (s_X12_of_ok (d := d + 0) hy ?_)
  show Wp (d + 1, 255, 43, 0, 0, [_, _, some (fI l2)], [fI y40, fI (M 122 26), fA 122]) (156, fjl L, (fup M 122 25 (t1 + t2))) Q
  refine Wp.run 1 (f' := (d + 1, 255, 44, 0, 0, [_, _, some (fI l2)], [fI 1, fI y40, fI (M 122 26), fA 122])) (h' := (156, fjl L, (fup M 122 25 (t1 + t2)))) rfl trivial ?_
  refine Wp.br rfl (fun (c : ¬ y40 = 1) => ?_) (fun (c : ¬ (¬ y40 = 1)) => ?_)
  · replace h := fps c h
    obtain ⟨g0, h⟩ := fgd h
    refine Wp.run 3 (f' := (d + 1, 255, 68, 0, 0, [_, _, _], [])) (h' := (156, fjl L, (fup (fup M 122 25 (t1 + t2)) 122 26 (fw ((M 122 26) + 0))))) rfl trivial ?_
    rw [fw_id g0]
    obtain rfl := Option.some.inj h
    exact Wp.done rfl (by decide) H
  · replace h := fng c h
    refine Wp.run 2 (f' := (d + 1, 255, 50, 0, 0, [_, _, some (fI l2)], [fI 8, fI l2, fI (M 122 26), fA 122])) (h' := (156, fjl L, (fup M 122 25 (t1 + t2)))) rfl trivial ?_
    refine Wp.br rfl (fun (c : l2 ≤ 8) => ?_) (fun (c : ¬ (l2 ≤ 8)) => ?_)
    · replace h := fps c h
      obtain ⟨g0, h⟩ := fgd h
      refine Wp.run 4 (f' := (d + 1, 255, 68, 0, 0, [_, _, _], [])) (h' := (156, fjl L, (fup (fup M 122 25 (t1 + t2)) 122 26 (fw ((M 122 26) + 2))))) rfl trivial ?_
      rw [fw_id g0]
      obtain rfl := Option.some.inj h
      exact Wp.done rfl (by decide) H
    · replace h := fng c h
      refine Wp.run 2 (f' := (d + 1, 255, 56, 0, 0, [_, _, _], [fI 44, fI l2, fI (M 122 26), fA 122])) (h' := (156, fjl L, (fup M 122 25 (t1 + t2)))) rfl trivial ?_
      refine Wp.br rfl (fun (c : l2 < 44) => ?_) (fun (c : ¬ (l2 < 44)) => ?_)
      · replace h := fps c h
        obtain ⟨g0, h⟩ := fgd h
        refine Wp.run 3 (f' := (d + 1, 255, 68, 0, 0, [_, _, _], [])) (h' := (156, fjl L, (fup (fup M 122 25 (t1 + t2)) 122 26 (fw ((M 122 26) + 0))))) rfl trivial ?_
        rw [fw_id g0]
        obtain rfl := Option.some.inj h
        exact Wp.done rfl (by decide) H
      · replace h := fng c h
        obtain ⟨g0, h⟩ := fgd h
        refine Wp.run 4 (f' := (d + 1, 255, 68, 0, 0, [_, _, _], [])) (h' := (156, fjl L, (fup (fup M 122 25 (t1 + t2)) 122 26 (fw ((M 122 26) + 2))))) rfl trivial ?_
        rw [fw_id g0]
        obtain rfl := Option.some.inj h
        exact Wp.done rfl (by decide) H
theorem s_X12_pass_j24_fr {M : fM} {l2 t1 t2 : Int} {r : (Unit × fM)} (h : s_X12_pass_j24 M l2 t1 t2 = some r) : fSame s_X12_pass_mods M r.2 := by
  unfold s_X12_pass_j24 at h
  replace h := (fgd h).2
  obtain ⟨y40, hy, h⟩ := fbd h
  by_cases c : ¬ y40 = 1
  · replace h := fps c h
    replace h := (fgd h).2
    obtain rfl := Option.some.inj h
    exact fs_up (fs_up fs_refl (.inr (by decide))) (.inr (by decide))
  · replace h := fng c h
    by_cases c : l2 ≤ 8
    · replace h := fps c h
      replace h := (fgd h).2
      obtain rfl := Option.some.inj h
      exact fs_up (fs_up fs_refl (.inr (by decide))) (.inr (by decide))
    · replace h := fng c h
      by_cases c : l2 < 44
      · replace h := fps c h
        replace h := (fgd h).2
        obtain rfl := Option.some.inj h
        exact fs_up (fs_up fs_refl (.inr (by decide))) (.inr (by decide))
      · replace h := fng c h
        replace h := (fgd h).2
        obtain rfl := Option.some.inj h
        exact fs_up (fs_up fs_refl (.inr (by decide))) (.inr (by decide))
noncomputable def s_X12_pass (M : fM) (l1 : Int) : Option (Unit × fM) :=
  if (0 ≤ l1 ∧ l1 < 386) then
    if (M 128 (l1).toNat) = 0 then
      s_X12_pass_j24 M (fdiv l1 7) (M 122 25) 1
    else
      s_X12_pass_j24 M (fdiv l1 7) (M 122 25) 3
  else none
theorem s_X12_pass_ok {d L : Nat} {M : fM} {l1 : Int} {r : (Unit × fM)} {Q : fO → fH → Prop} (h : s_X12_pass M l1 = some r) (H : Q (oV r.1) (156, fjl L, r.2)) : Wp (d + 1, 255, 0, 0, 0, [some (fA 122), some (fI l1), none], []) (156, fjl L, M) Q := by
  unfold s_X12_pass at h
  obtain ⟨g0, h⟩ := fgd h
  refine Wp.run 11 (P := [(7 : Int) ≠ 0, 0 ≤ l1 ∧ l1 < 386]) (f' := (d + 1, 255, 16, 0, 0, [some (fA 122), _, some (fI (fdiv l1 7))], [fI (M 128 (l1).toNat), fI (M 122 25), fA 122])) (h' := (156, fjl L, M)) rfl ?_ ?_
  · exact ⟨(by decide : (7 : Int) ≠ 0), g0⟩
  refine Wp.br rfl (fun (c : (M 128 (l1).toNat) = 0) => ?_) (fun (c : ¬ ((M 128 (l1).toNat) = 0)) => ?_)
  · replace h := fps c h
    refine Wp.run 1 (f' := (d + 1, 255, 24, 0, 0, [some (fA 122), _, some (fI (fdiv l1 7))], [fI 1, fI (M 122 25), fA 122])) (h' := (156, fjl L, M)) rfl trivial ?_
    exact s_X12_pass_j24_ok h H
  · replace h := fng c h
    refine Wp.run 2 (f' := (d + 1, 255, 24, 0, 0, [some (fA 122), _, some (fI (fdiv l1 7))], [fI 3, fI (M 122 25), fA 122])) (h' := (156, fjl L, M)) rfl trivial ?_
    exact s_X12_pass_j24_ok h H
theorem s_X12_pass_fr {M : fM} {l1 : Int} {r : (Unit × fM)} (h : s_X12_pass M l1 = some r) : fSame s_X12_pass_mods M r.2 := by
  unfold s_X12_pass at h
  replace h := (fgd h).2
  by_cases c : (M 128 (l1).toNat) = 0
  · replace h := fps c h
    exact fs_trans fs_refl (s_X12_pass_j24_fr h)
  · replace h := fng c h
    exact fs_trans fs_refl (s_X12_pass_j24_fr h)
abbrev s_X12_passTo_mods : List (Nat × Option Nat) := [(122, some 25), (122, some 26)]
noncomputable def s_X12_passTo_b7 (M : fM) (l1 l2 : Int) : Option ((Int × fM) ⊕ fM) :=
  if l1 < l2 then
    some (.inr M)
  else
    (s_X12_pass M l2).bind fun y14 =>
      if fin (l2 + 1) then
        some (.inl ((l2 + 1), y14.2))
      else none
theorem s_X12_passTo_b7_ok {d L : Nat} {M : fM} {l1 l2 : Int} {r : ((Int × fM) ⊕ fM)} {Q : fO → fH → Prop} (h : s_X12_passTo_b7 M l1 l2 = some r) (hC : ∀ (l2' : Int) (M' : fM), r = .inl (l2', M') → Wp (d + 2, 256, 7, 0, 0, [some (fA 122), some (fI l1), some (fI l2')], []) (156, fjl L, M') Q) (hE : ∀ (e : fM) (o0' o1' o2' : Option fV), r = .inr e → Wp (d + 2, 256, 23, 0, 0, [o0', o1', o2'], []) (156, fjl L, e) Q) : Wp (d + 2, 256, 7, 0, 0, [some (fA 122), some (fI l1), some (fI l2)], []) (156, fjl L, M) Q := by
  unfold s_X12_passTo_b7 at h
  refine Wp.run 2 (f' := (d + 2, 256, 9, 0, 0, [some (fA 122), some (fI l1), some (fI l2)], [fI l1, fI l2])) (h' := (156, fjl L, M)) rfl trivial ?_
  refine Wp.br rfl (fun (c : l1 < l2) => ?_) (fun (c : ¬ (l1 < l2)) => ?_)
  · replace h := fps c h
    exact hE _ _ _ _ (Option.some.inj h).symm
  · replace h := fng c h
    refine Wp.run 2 (f' := (d + 2, 256, 14, 0, 0, [some (fA 122), some (fI l1), some (fI l2)], [fI l2, fA 122])) (h' := (156, fjl L, M)) rfl trivial ?_
    obtain ⟨y14, hy, h⟩ := fbd h
    refine Wp.call rfl (by decide) (s_X12_pass_ok (d := d + 0) hy ?_)
    show Wp (d + 2, 256, 17, 0, 0, [some (fA 122), some (fI l1), some (fI l2)], []) (156, fjl L, y14.2) Q
    obtain ⟨g0, h⟩ := fgd h
    refine Wp.run 2 (f' := (d + 2, 256, 7, 0, 0, [some (fA 122), some (fI l1), some (fI (fw (l2 + 1)))], [])) (h' := (156, fjl L, y14.2)) rfl trivial ?_
    rw [fw_id g0]
    exact hC _ _ (Option.some.inj h).symm
theorem s_X12_passTo_b7_fr {M : fM} {l1 l2 : Int} {r : ((Int × fM) ⊕ fM)} (h : s_X12_passTo_b7 M l1 l2 = some r) : fSame s_X12_passTo_mods M (Sum.elim (fun s => s.2) (fun e => e) r) := by
  unfold s_X12_passTo_b7 at h
  by_cases c : l1 < l2
  · replace h := fps c h
    obtain rfl := Option.some.inj h
    exact fs_refl
  · replace h := fng c h
    obtain ⟨y14, hy, h⟩ := fbd h
    have k14 := fs_trans (l := s_X12_passTo_mods) fs_refl (fs_mono (l := s_X12_pass_mods) (by decide) (s_X12_pass_fr hy))
    replace h := (fgd h).2
    obtain rfl := Option.some.inj h
    exact k14
noncomputable def s_X12_passTo_l7 (l1 : Int) (s : (Int × fM)) : Option fM := fLp (fun s => s_X12_passTo_b7 s.2 l1 s.1) s
theorem s_X12_passTo_l7_ok {d L : Nat} {M : fM} {l1 l2 : Int} {r : fM} {Q : fO → fH → Prop} (h : s_X12_passTo_l7 l1 (l2, M) = some r) (hE : ∀ (e : fM) (o0' o1' o2' : Option fV), r = e → Wp (d + 2, 256, 23, 0, 0, [o0', o1', o2'], []) (156, fjl L, e) Q) : Wp (d + 2, 256, 7, 0, 0, [some (fA 122), some (fI l1), some (fI l2)], []) (156, fjl L, M) Q := by
  refine fLp_wp (W := fun s => Wp (d + 2, 256, 7, 0, 0, [some (fA 122), some (fI l1), some (fI s.1)], []) (156, fjl L, s.2) Q) (e := r) ?_ h
  intro s r1 h hC hX
  refine s_X12_passTo_b7_ok (d := d) h (fun a0 a1 e1 => ?_) (fun e u0 u1 u2 e1 => hE e u0 u1 u2 (hX _ e1).symm)
  exact hC _ e1
theorem s_X12_passTo_l7_fr {M : fM} {l1 l2 : Int} {r : fM} (h : s_X12_passTo_l7 l1 (l2, M) = some r) : fSame s_X12_passTo_mods M ((fun e => e) r) := by
  refine fLp_inv (I := fun s => fSame s_X12_passTo_mods M s.2) (J := fun r => fSame s_X12_passTo_mods M ((fun e => e) r)) h fs_refl (fun s s1 hs hb => ?_) (fun s e hs hb => ?_)
  · exact fs_trans hs (s_X12_passTo_b7_fr hb)
  · exact fs_trans hs (s_X12_passTo_b7_fr hb)
noncomputable def s_X12_passTo (M : fM) (l1 : Int) : Option (Unit × fM) :=
  if fin ((M 122 24) + 1) then
    (s_X12_passTo_l7 l1 (((M 122 24) + 1), M)).bind fun e7 =>
      some ((), e7)
  else none
theorem s_X12_passTo_ok {d L : Nat} {M : fM} {l1 : Int} {r : (Unit × fM)} {Q : fO → fH → Prop} (h : s_X12_passTo M l1 = some r) (H : Q (oV r.1) (156, fjl L, r.2)) : Wp (d + 2, 256, 0, 0, 0, [some (fA 122), some (fI l1), none], []) (156, fjl L, M) Q := by
  unfold s_X12_passTo at h
  obtain ⟨g0, h⟩ := fgd h
  refine Wp.run 5 (f' := (d + 2, 256, 7, 0, 0, [some (fA 122), some (fI l1), some (fI (fw ((M 122 24) + 1)))], [])) (h' := (156, fjl L, M)) rfl trivial ?_
  rw [fw_id g0]
  obtain ⟨e7, hy, h⟩ := fbd h
  refine s_X12_passTo_l7_ok hy (fun x u0 u1 u2 ex => ?_)
  cases ex
  show Wp (d + 2, 256, 23, 0, 0, [u0, u1, u2], []) (156, fjl L, e7) Q
  obtain rfl := Option.some.inj h
  exact Wp.done rfl (by decide) H
theorem s_X12_passTo_fr {M : fM} {l1 : Int} {r : (Unit × fM)} (h : s_X12_passTo M l1 = some r) : fSame s_X12_passTo_mods M r.2 := by
  unfold s_X12_passTo at h
  replace h := (fgd h).2
  obtain ⟨e7, hy, h⟩ := fbd h
  have k7 := fs_trans (l := s_X12_passTo_mods) fs_refl (s_X12_passTo_l7_fr hy)
  obtain rfl := Option.some.inj h
  exact k7
noncomputable def s_X12_offsetOf_j39 (M : fM) (l2 t0 t1 : Int) : Option Int :=
  if fin (t1 * (M 122 25)) ∧ fin (t0 - (t1 * (M 122 25))) ∧ fin ((t0 - (t1 * (M 122 25))) - (M 122 26)) ∧ fin (13 + (fdiv l2 7)) ∧ (0 ≤ (13 + (fdiv l2 7)) ∧ (13 + (fdiv l2 7)) < 1290) ∧ fin ((M 124 (13 + (fdiv l2 7)).toNat) - (M 122 28)) ∧ fin (5 * ((M 124 (13 + (fdiv l2 7)).toNat) - (M 122 28))) then
    if fin (((t0 - (t1 * (M 122 25))) - (M 122 26)) + (5 * ((M 124 (13 + (fdiv l2 7)).toNat) - (M 122 28)))) then
      some (((t0 - (t1 * (M 122 25))) - (M 122 26)) + (5 * ((M 124 (13 + (fdiv l2 7)).toNat) - (M 122 28))))
    else none
  else none
theorem s_X12_offsetOf_j39_ok {d L : Nat} {M : fM} {l2 t0 t1 : Int} {o1 o3 o4 : Option fV} {r : Int} {Q : fO → fH → Prop} (h : s_X12_offsetOf_j39 M l2 t0 t1 = some r) (H : Q (oI r) (156, fjl L, M)) : Wp (d + 0, 257, 39, 0, 0, [some (fA 122), o1, some (fI l2), o3, o4], [fI t1, fI t0]) (156, fjl L, M) Q := by
  unfold s_X12_offsetOf_j39 at h
  obtain ⟨⟨g0, g1, g2, g3, g4, g5, g6⟩, h⟩ := fgd h
  refine Wp.run 20 (P := [(7 : Int) ≠ 0, 0 ≤ (fw (13 + (fdiv l2 7))) ∧ (fw (13 + (fdiv l2 7))) < 1290]) (f' := (d + 0, 257, 69, 0, 0, [_, _, _, _, _], [fI (fw (5 * (fw ((M 124 (fw (13 + (fdiv l2 7))).toNat) - (M 122 28))))), fI (fw ((fw (t0 - (fw (t1 * (M 122 25))))) - (M 122 26)))])) (h' := (156, fjl L, M)) rfl ?_ ?_
  · rw [fw_id g3]; exact ⟨(by decide : (7 : Int) ≠ 0), g4⟩
  rw [fw_id g0, fw_id g1, fw_id g2, fw_id g3, fw_id g5, fw_id g6]
  obtain ⟨g0, h⟩ := fgd h
  refine Wp.run 1 (f' := (d + 0, 257, 70, 0, 0, [_, _, _, _, _], [fI (fw (((t0 - (t1 * (M 122 25))) - (M 122 26)) + (5 * ((M 124 (13 + (fdiv l2 7)).toNat) - (M 122 28)))))])) (h' := (156, fjl L, M)) rfl trivial ?_
  rw [fw_id g0]
  obtain rfl := Option.some.inj h
  exact Wp.done rfl (by decide) H
noncomputable def s_X12_offsetOf (M : fM) (l1 l2 l3 : Int) : Option Int :=
  if fin (12 * (M 122 27)) ∧ fin (335 + (12 * (M 122 27))) ∧ fin ((335 + (12 * (M 122 27))) + l1) ∧ (0 ≤ ((335 + (12 * (M 122 27))) + l1) ∧ ((335 + (12 * (M 122 27))) + l1) < 1290) ∧ fin ((M 124 ((335 + (12 * (M 122 27))) + l1).toNat) + l3) then
    if (0 ≤ l1 ∧ l1 < 12) then
      if 0 ≤ ((M 124 ((335 + (12 * (M 122 27))) + l1).toNat) + l3) then
        s_X12_offsetOf_j39 M l2 (M 129 (l1).toNat) ((M 124 ((335 + (12 * (M 122 27))) + l1).toNat) + l3)
      else
        s_X12_offsetOf_j39 M l2 (M 129 (l1).toNat) 0
    else none
  else none
theorem s_X12_offsetOf_ok {d L : Nat} {M : fM} {l1 l2 l3 : Int} {r : Int} {Q : fO → fH → Prop} (h : s_X12_offsetOf M l1 l2 l3 = some r) (H : Q (oI r) (156, fjl L, M)) : Wp (d + 0, 257, 0, 0, 0, [some (fA 122), some (fI l1), some (fI l2), some (fI l3), none], []) (156, fjl L, M) Q := by
  unfold s_X12_offsetOf at h
  obtain ⟨⟨g0, g1, g2, g3, g4⟩, h⟩ := fgd h
  refine Wp.run 14 (P := [0 ≤ (fw ((fw (335 + (fw (12 * (M 122 27))))) + l1)) ∧ (fw ((fw (335 + (fw (12 * (M 122 27))))) + l1)) < 1290]) (f' := (d + 0, 257, 22, 0, 0, [some (fA 122), some (fI l1), some (fI l2), _, some (fI (fw ((M 124 (fw ((fw (335 + (fw (12 * (M 122 27))))) + l1)).toNat) + l3)))], [])) (h' := (156, fjl L, M)) rfl ?_ ?_
  · rw [fw_id g0, fw_id g1, fw_id g2]; exact g3
  rw [fw_id g0, fw_id g1, fw_id g2, fw_id g4]
  obtain ⟨g0, h⟩ := fgd h
  refine Wp.run 5 (P := [0 ≤ l1 ∧ l1 < 12]) (f' := (d + 0, 257, 30, 0, 0, [some (fA 122), _, some (fI l2), _, some (fI ((M 124 ((335 + (12 * (M 122 27))) + l1).toNat) + l3))], [fI ((M 124 ((335 + (12 * (M 122 27))) + l1).toNat) + l3), fI (M 129 (l1).toNat)])) (h' := (156, fjl L, M)) rfl ?_ ?_
  · exact g0
  refine Wp.br rfl (fun (c : 0 ≤ ((M 124 ((335 + (12 * (M 122 27))) + l1).toNat) + l3)) => ?_) (fun (c : ¬ (0 ≤ ((M 124 ((335 + (12 * (M 122 27))) + l1).toNat) + l3))) => ?_)
  · replace h := fps c h
    refine Wp.run 1 (f' := (d + 0, 257, 39, 0, 0, [some (fA 122), _, some (fI l2), _, _], [fI ((M 124 ((335 + (12 * (M 122 27))) + l1).toNat) + l3), fI (M 129 (l1).toNat)])) (h' := (156, fjl L, M)) rfl trivial ?_
    exact s_X12_offsetOf_j39_ok h H
  · replace h := fng c h
    refine Wp.run 2 (f' := (d + 0, 257, 39, 0, 0, [some (fA 122), _, some (fI l2), _, _], [fI 0, fI (M 129 (l1).toNat)])) (h' := (156, fjl L, M)) rfl trivial ?_
    exact s_X12_offsetOf_j39_ok h H
abbrev s_X12_offset_mods : List (Nat × Option Nat) := [(122, some 0), (122, some 24), (122, some 25), (122, some 26), (122, some 27), (122, some 28), (128, none), (129, none)]
noncomputable def s_X12_offset (M : fM) (l1 l2 l3 l4 : Int) : Option (Int × fM) :=
  (s_X12_isPiano (fup M 122 0 1) l1).bind fun y7 =>
    if y7 = 0 then
      some (0, (fup M 122 0 1))
    else
      (s_X12_isIn (fup M 122 0 1) l2 0 11).bind fun y17 =>
        if y17 = 0 then
          some (0, (fup M 122 0 1))
        else
          (s_X12_isDay (fup M 122 0 1) l3).bind fun y24 =>
            if y24 = 0 then
              some (0, (fup M 122 0 1))
            else
              (s_X12_isKnown (fup M 122 0 1) l4).bind fun y32 =>
                if y32 = 0 then
                  some (0, (fup M 122 0 1))
                else
                  (s_X12_course (fup M 122 0 1) l1 l3 l4).bind fun y43 =>
                    if ¬ y43.1 = 0 then
                      (s_X12_passTo (fup y43.2 122 0 0) l3).bind fun y58 =>
                        (s_X12_offsetOf y58.2 l2 l3 0).bind fun y65 =>
                          some (y65, y58.2)
                    else
                      some (0, y43.2)
theorem s_X12_offset_ok {d L : Nat} {M : fM} {l1 l2 l3 l4 : Int} {r : (Int × fM)} {Q : fO → fH → Prop} (h : s_X12_offset M l1 l2 l3 l4 = some r) (H : Q (oI r.1) (156, fjl L, r.2)) : Wp (d + 3, 259, 0, 0, 0, [some (fA 122), some (fI l1), some (fI l2), some (fI l3), some (fI l4)], []) (156, fjl L, M) Q := by
  unfold s_X12_offset at h
  refine Wp.run 5 (f' := (d + 3, 259, 7, 0, 0, [some (fA 122), some (fI l1), some (fI l2), some (fI l3), some (fI l4)], [fI l1, fA 122])) (h' := (156, fjl L, (fup M 122 0 1))) rfl trivial ?_
  obtain ⟨y7, hy, h⟩ := fbd h
  refine Wp.call rfl (by decide) (s_X12_isPiano_ok (d := d + 1) hy ?_)
  show Wp (d + 3, 259, 10, 0, 0, [some (fA 122), some (fI l1), some (fI l2), some (fI l3), some (fI l4)], [fI y7]) (156, fjl L, (fup M 122 0 1)) Q
  refine Wp.br rfl (fun (c : y7 = 0) => ?_) (fun (c : ¬ (y7 = 0)) => ?_)
  · replace h := fps c h
    refine Wp.run 1 (f' := (d + 3, 259, 50, 0, 0, [_, _, _, _, _], [fI 0])) (h' := (156, fjl L, (fup M 122 0 1))) rfl trivial ?_
    obtain rfl := Option.some.inj h
    exact Wp.done rfl (by decide) H
  · replace h := fng c h
    refine Wp.run 3 (f' := (d + 3, 259, 17, 0, 0, [some (fA 122), some (fI l1), some (fI l2), some (fI l3), some (fI l4)], [fI 11, fI 0, fI l2])) (h' := (156, fjl L, (fup M 122 0 1))) rfl trivial ?_
    obtain ⟨y17, hy, h⟩ := fbd h
    refine Wp.call rfl (by decide) (s_X12_isIn_ok (d := d + 2) hy ?_)
    show Wp (d + 3, 259, 20, 0, 0, [some (fA 122), some (fI l1), some (fI l2), some (fI l3), some (fI l4)], [fI y17]) (156, fjl L, (fup M 122 0 1)) Q
    refine Wp.br rfl (fun (c : y17 = 0) => ?_) (fun (c : ¬ (y17 = 0)) => ?_)
    · replace h := fps c h
      refine Wp.run 1 (f' := (d + 3, 259, 50, 0, 0, [_, _, _, _, _], [fI 0])) (h' := (156, fjl L, (fup M 122 0 1))) rfl trivial ?_
      obtain rfl := Option.some.inj h
      exact Wp.done rfl (by decide) H
    · replace h := fng c h
      refine Wp.run 1 (f' := (d + 3, 259, 24, 0, 0, [some (fA 122), some (fI l1), some (fI l2), some (fI l3), some (fI l4)], [fI l3])) (h' := (156, fjl L, (fup M 122 0 1))) rfl trivial ?_
      obtain ⟨y24, hy, h⟩ := fbd h
      refine Wp.call rfl (by decide) (s_X12_isDay_ok (d := d + 1) hy ?_)
      show Wp (d + 3, 259, 27, 0, 0, [some (fA 122), some (fI l1), some (fI l2), some (fI l3), some (fI l4)], [fI y24]) (156, fjl L, (fup M 122 0 1)) Q
      refine Wp.br rfl (fun (c : y24 = 0) => ?_) (fun (c : ¬ (y24 = 0)) => ?_)
      · replace h := fps c h
        refine Wp.run 1 (f' := (d + 3, 259, 50, 0, 0, [_, _, _, _, _], [fI 0])) (h' := (156, fjl L, (fup M 122 0 1))) rfl trivial ?_
        obtain rfl := Option.some.inj h
        exact Wp.done rfl (by decide) H
      · replace h := fng c h
        refine Wp.run 1 (f' := (d + 3, 259, 32, 0, 0, [some (fA 122), some (fI l1), some (fI l2), some (fI l3), some (fI l4)], [fI l4])) (h' := (156, fjl L, (fup M 122 0 1))) rfl trivial ?_
        obtain ⟨y32, hy, h⟩ := fbd h
        refine Wp.call rfl (by decide) (s_X12_isKnown_ok (d := d + 1) hy ?_)
        show Wp (d + 3, 259, 35, 0, 0, [some (fA 122), some (fI l1), some (fI l2), some (fI l3), some (fI l4)], [fI y32]) (156, fjl L, (fup M 122 0 1)) Q
        refine Wp.br rfl (fun (c : y32 = 0) => ?_) (fun (c : ¬ (y32 = 0)) => ?_)
        · replace h := fps c h
          refine Wp.run 1 (f' := (d + 3, 259, 50, 0, 0, [_, _, _, _, _], [fI 0])) (h' := (156, fjl L, (fup M 122 0 1))) rfl trivial ?_
          obtain rfl := Option.some.inj h
          exact Wp.done rfl (by decide) H
        · replace h := fng c h
          refine Wp.run 4 (f' := (d + 3, 259, 43, 0, 0, [some (fA 122), _, some (fI l2), some (fI l3), _], [fI l4, fI l3, fI l1, fA 122])) (h' := (156, fjl L, (fup M 122 0 1))) rfl trivial ?_
          obtain ⟨y43, hy, h⟩ := fbd h
          refine Wp.call rfl (by decide) (s_X12_course_ok (d := d + 0) hy ?_)
          show Wp (d + 3, 259, 46, 0, 0, [some (fA 122), _, some (fI l2), some (fI l3), _], [fI y43.1]) (156, fjl L, y43.2) Q
          refine Wp.br rfl (fun (c : ¬ y43.1 = 0) => ?_) (fun (c : ¬ (¬ y43.1 = 0)) => ?_)
          · replace h := fps c h
            refine Wp.run 5 (f' := (d + 3, 259, 58, 0, 0, [some (fA 122), _, some (fI l2), some (fI l3), _], [fI l3, fA 122])) (h' := (156, fjl L, (fup y43.2 122 0 0))) rfl trivial ?_
            obtain ⟨y58, hy, h⟩ := fbd h
            refine Wp.call rfl (by decide) (s_X12_passTo_ok (d := d + 0) hy ?_)
            show Wp (d + 3, 259, 61, 0, 0, [some (fA 122), _, some (fI l2), some (fI l3), _], []) (156, fjl L, y58.2) Q
            refine Wp.run 4 (f' := (d + 3, 259, 65, 0, 0, [_, _, _, _, _], [fI 0, fI l3, fI l2, fA 122])) (h' := (156, fjl L, y58.2)) rfl trivial ?_
            obtain ⟨y65, hy, h⟩ := fbd h
            refine Wp.call rfl (by decide) (s_X12_offsetOf_ok (d := d + 2) hy ?_)
            show Wp (d + 3, 259, 68, 0, 0, [_, _, _, _, _], [fI y65]) (156, fjl L, y58.2) Q
            obtain rfl := Option.some.inj h
            exact Wp.done rfl (by decide) H
          · replace h := fng c h
            refine Wp.run 1 (f' := (d + 3, 259, 50, 0, 0, [_, _, _, _, _], [fI 0])) (h' := (156, fjl L, y43.2)) rfl trivial ?_
            obtain rfl := Option.some.inj h
            exact Wp.done rfl (by decide) H
theorem s_X12_offset_fr {M : fM} {l1 l2 l3 l4 : Int} {r : (Int × fM)} (h : s_X12_offset M l1 l2 l3 l4 = some r) : fSame s_X12_offset_mods M r.2 := by
  unfold s_X12_offset at h
  obtain ⟨y7, hy, h⟩ := fbd h
  by_cases c : y7 = 0
  · replace h := fps c h
    obtain rfl := Option.some.inj h
    exact fs_up fs_refl (.inr (by decide))
  · replace h := fng c h
    obtain ⟨y17, hy, h⟩ := fbd h
    by_cases c : y17 = 0
    · replace h := fps c h
      obtain rfl := Option.some.inj h
      exact fs_up fs_refl (.inr (by decide))
    · replace h := fng c h
      obtain ⟨y24, hy, h⟩ := fbd h
      by_cases c : y24 = 0
      · replace h := fps c h
        obtain rfl := Option.some.inj h
        exact fs_up fs_refl (.inr (by decide))
      · replace h := fng c h
        obtain ⟨y32, hy, h⟩ := fbd h
        by_cases c : y32 = 0
        · replace h := fps c h
          obtain rfl := Option.some.inj h
          exact fs_up fs_refl (.inr (by decide))
        · replace h := fng c h
          obtain ⟨y43, hy, h⟩ := fbd h
          have k43 := fs_trans (l := s_X12_offset_mods) (fs_up fs_refl (.inr (by decide))) (fs_mono (l := s_X12_course_mods) (by decide) (s_X12_course_fr hy))
          by_cases c : ¬ y43.1 = 0
          · replace h := fps c h
            obtain ⟨y58, hy, h⟩ := fbd h
            have k58 := fs_trans (l := s_X12_offset_mods) (fs_up k43 (.inr (by decide))) (fs_mono (l := s_X12_passTo_mods) (by decide) (s_X12_passTo_fr hy))
            obtain ⟨y65, hy, h⟩ := fbd h
            obtain rfl := Option.some.inj h
            exact k58
          · replace h := fng c h
            obtain rfl := Option.some.inj h
            exact k43
noncomputable def s_X8_greatestAt_b12 (M : fM) (l1 l2 l3 l4 l5 : Int) : Option ((Int × Int) ⊕ Int) :=
  if 12 ≤ l5 then
    some (.inr l4)
  else
    (s_X8_offsetUndamped M l5 l1 l2).bind fun y26 =>
      if fin (y26 + l3) then
        (s_J9_abs M (y26 + l3)).bind fun y31 =>
          (s_J9_max M l4 y31).bind fun y34 =>
            if fin (l5 + 1) then
              some (.inl (y34, (l5 + 1)))
            else none
      else none
theorem s_X8_greatestAt_b12_ok {d L : Nat} {M : fM} {l1 l2 l3 l4 l5 : Int} {r : ((Int × Int) ⊕ Int)} {Q : fO → fH → Prop} (h : s_X8_greatestAt_b12 M l1 l2 l3 l4 l5 = some r) (hC : ∀ (l4' l5' : Int), r = .inl (l4', l5') → Wp (d + 2, 119, 12, 0, 0, [some (fA 43), some (fI l1), some (fI l2), some (fI l3), some (fI l4'), some (fI l5')], []) (156, fjl L, M) Q) (hE : ∀ (e : Int) (o0' o1' o2' o3' o5' : Option fV), r = .inr e → Wp (d + 2, 119, 45, 0, 0, [o0', o1', o2', o3', some (fI e), o5'], []) (156, fjl L, M) Q) : Wp (d + 2, 119, 12, 0, 0, [some (fA 43), some (fI l1), some (fI l2), some (fI l3), some (fI l4), some (fI l5)], []) (156, fjl L, M) Q := by
  unfold s_X8_greatestAt_b12 at h
  refine Wp.run 2 (f' := (d + 2, 119, 16, 0, 0, [some (fA 43), some (fI l1), some (fI l2), some (fI l3), some (fI l4), some (fI l5)], [fI 12, fI l5])) (h' := (156, fjl L, M)) rfl trivial ?_
  refine Wp.br rfl (fun (c : 12 ≤ l5) => ?_) (fun (c : ¬ (12 ≤ l5)) => ?_)
  · replace h := fps c h
    exact hE _ _ _ _ _ _ (Option.some.inj h).symm
  · replace h := fng c h
    refine Wp.run 5 (f' := (d + 2, 119, 26, 0, 0, [some (fA 43), some (fI l1), some (fI l2), some (fI l3), _, some (fI l5)], [fI l2, fI l1, fI l5, fA 43, fI l4])) (h' := (156, fjl L, M)) rfl trivial ?_
    obtain ⟨y26, hy, h⟩ := fbd h
    refine Wp.call rfl (by decide) (s_X8_offsetUndamped_ok (d := d + 0) hy ?_)
    show Wp (d + 2, 119, 29, 0, 0, [some (fA 43), some (fI l1), some (fI l2), some (fI l3), _, some (fI l5)], [fI y26, fI l4]) (156, fjl L, M) Q
    obtain ⟨g0, h⟩ := fgd h
    refine Wp.run 2 (f' := (d + 2, 119, 31, 0, 0, [some (fA 43), some (fI l1), some (fI l2), some (fI l3), _, some (fI l5)], [fI (fw (y26 + l3)), fI l4])) (h' := (156, fjl L, M)) rfl trivial ?_
    rw [fw_id g0]
    obtain ⟨y31, hy, h⟩ := fbd h
    refine Wp.call rfl (by decide) (s_J9_abs_ok (d := d + 1) hy ?_)
    show Wp (d + 2, 119, 34, 0, 0, [some (fA 43), some (fI l1), some (fI l2), some (fI l3), _, some (fI l5)], [fI y31, fI l4]) (156, fjl L, M) Q
    obtain ⟨y34, hy, h⟩ := fbd h
    refine Wp.call rfl (by decide) (s_J9_max_ok (d := d + 1) hy ?_)
    show Wp (d + 2, 119, 37, 0, 0, [some (fA 43), some (fI l1), some (fI l2), some (fI l3), _, some (fI l5)], [fI y34]) (156, fjl L, M) Q
    obtain ⟨g0, h⟩ := fgd h
    refine Wp.run 3 (f' := (d + 2, 119, 12, 0, 0, [some (fA 43), some (fI l1), some (fI l2), some (fI l3), some (fI y34), some (fI (fw (l5 + 1)))], [])) (h' := (156, fjl L, M)) rfl trivial ?_
    rw [fw_id g0]
    exact hC _ _ (Option.some.inj h).symm
noncomputable def s_X8_greatestAt_l12 (M : fM) (l1 l2 l3 : Int) (s : (Int × Int)) : Option Int := fLp (fun s => s_X8_greatestAt_b12 M l1 l2 l3 s.1 s.2) s
theorem s_X8_greatestAt_l12_ok {d L : Nat} {M : fM} {l1 l2 l3 l4 l5 : Int} {r : Int} {Q : fO → fH → Prop} (h : s_X8_greatestAt_l12 M l1 l2 l3 (l4, l5) = some r) (hE : ∀ (e : Int) (o0' o1' o2' o3' o5' : Option fV), r = e → Wp (d + 2, 119, 45, 0, 0, [o0', o1', o2', o3', some (fI e), o5'], []) (156, fjl L, M) Q) : Wp (d + 2, 119, 12, 0, 0, [some (fA 43), some (fI l1), some (fI l2), some (fI l3), some (fI l4), some (fI l5)], []) (156, fjl L, M) Q := by
  refine fLp_wp (W := fun s => Wp (d + 2, 119, 12, 0, 0, [some (fA 43), some (fI l1), some (fI l2), some (fI l3), some (fI s.1), some (fI s.2)], []) (156, fjl L, M) Q) (e := r) ?_ h
  intro s r1 h hC hX
  refine s_X8_greatestAt_b12_ok (d := d) h (fun a0 a1 e1 => ?_) (fun e u0 u1 u2 u3 u4 e1 => hE e u0 u1 u2 u3 u4 (hX _ e1).symm)
  exact hC _ e1
noncomputable def s_X8_greatestAt (M : fM) (l1 l2 : Int) : Option Int :=
  (s_X8_dampFrom M l1).bind fun y2 =>
    (s_X8_greatestAt_l12 M l1 l2 y2 (0, 0)).bind fun e12 =>
      some e12
theorem s_X8_greatestAt_ok {d L : Nat} {M : fM} {l1 l2 : Int} {r : Int} {Q : fO → fH → Prop} (h : s_X8_greatestAt M l1 l2 = some r) (H : Q (oI r) (156, fjl L, M)) : Wp (d + 2, 119, 0, 0, 0, [some (fA 43), some (fI l1), some (fI l2), none, none, none], []) (156, fjl L, M) Q := by
  unfold s_X8_greatestAt at h
  refine Wp.run 2 (f' := (d + 2, 119, 2, 0, 0, [some (fA 43), some (fI l1), some (fI l2), _, _, _], [fI l1, fA 43])) (h' := (156, fjl L, M)) rfl trivial ?_
  obtain ⟨y2, hy, h⟩ := fbd h
  refine Wp.call rfl (by decide) (s_X8_dampFrom_ok (d := d + 0) hy ?_)
  show Wp (d + 2, 119, 5, 0, 0, [some (fA 43), some (fI l1), some (fI l2), _, _, _], [fI y2]) (156, fjl L, M) Q
  refine Wp.run 5 (f' := (d + 2, 119, 12, 0, 0, [some (fA 43), some (fI l1), some (fI l2), some (fI y2), some (fI 0), some (fI 0)], [])) (h' := (156, fjl L, M)) rfl trivial ?_
  obtain ⟨e12, hy, h⟩ := fbd h
  refine s_X8_greatestAt_l12_ok hy (fun x u0 u1 u2 u3 u5 ex => ?_)
  cases ex
  show Wp (d + 2, 119, 45, 0, 0, [u0, u1, u2, u3, some (fI e12), u5], []) (156, fjl L, M) Q
  refine Wp.run 1 (f' := (d + 2, 119, 47, 0, 0, [_, _, _, _, _, _], [fI e12])) (h' := (156, fjl L, M)) rfl trivial ?_
  obtain rfl := Option.some.inj h
  exact Wp.done rfl (by decide) H
abbrev s_X11_off_mods : List (Nat × Option Nat) := [(43, some 5), (43, some 6), (44, none), (45, none), (46, none)]
noncomputable def s_X11_off (M : fM) (l1 l2 l3 : Int) : Option (Int × fM) :=
  (s_X11_isAsked M l1 l2 l3).bind fun y4 =>
    if ¬ y4 = 0 then
      (s_X8_look M l1 l2 l3).bind fun y20 =>
        (s_X8_wasTuned y20.2).bind fun y27 =>
          if y27 = 0 then
            some ((-1), y20.2)
          else
            (s_X8_greatestAt y20.2 l2 0).bind fun y39 =>
              some (y39, y20.2)
    else
      some ((-2), M)
theorem s_X11_off_ok {d L : Nat} {M : fM} {l1 l2 l3 : Int} {r : (Int × fM)} {Q : fO → fH → Prop} (h : s_X11_off M l1 l2 l3 = some r) (H : Q (oI r.1) (156, fjl L, r.2)) : Wp (d + 3, 161, 0, 0, 0, [some (fA 0), some (fI l1), some (fI l2), some (fI l3)], []) (156, fjl L, M) Q := by
  unfold s_X11_off at h
  refine Wp.run 4 (f' := (d + 3, 161, 4, 0, 0, [some (fA 0), some (fI l1), some (fI l2), some (fI l3)], [fI l3, fI l2, fI l1, fA 0])) (h' := (156, fjl L, M)) rfl trivial ?_
  obtain ⟨y4, hy, h⟩ := fbd h
  refine Wp.call rfl (by decide) (s_X11_isAsked_ok (d := d + 0) hy ?_)
  show Wp (d + 3, 161, 7, 0, 0, [some (fA 0), some (fI l1), some (fI l2), some (fI l3)], [fI y4]) (156, fjl L, M) Q
  refine Wp.br rfl (fun (c : ¬ y4 = 0) => ?_) (fun (c : ¬ (¬ y4 = 0)) => ?_)
  · replace h := fps c h
    refine Wp.run 5 (f' := (d + 3, 161, 20, 0, 0, [some (fA 0), _, some (fI l2), _], [fI l3, fI l2, fI l1, fA 43])) (h' := (156, fjl L, M)) rfl trivial ?_
    obtain ⟨y20, hy, h⟩ := fbd h
    refine Wp.call rfl (by decide) (s_X8_look_ok (d := d + 0) hy ?_)
    show Wp (d + 3, 161, 23, 0, 0, [some (fA 0), _, some (fI l2), _], []) (156, fjl L, y20.2) Q
    refine Wp.run 2 (f' := (d + 3, 161, 27, 0, 0, [some (fA 0), _, some (fI l2), _], [fA 43])) (h' := (156, fjl L, y20.2)) rfl trivial ?_
    obtain ⟨y27, hy, h⟩ := fbd h
    refine Wp.call rfl (by decide) (s_X8_wasTuned_ok (d := d + 2) hy ?_)
    show Wp (d + 3, 161, 30, 0, 0, [some (fA 0), _, some (fI l2), _], [fI y27]) (156, fjl L, y20.2) Q
    refine Wp.br rfl (fun (c : y27 = 0) => ?_) (fun (c : ¬ (y27 = 0)) => ?_)
    · replace h := fps c h
      refine Wp.run 1 (f' := (d + 3, 161, 46, 0, 0, [_, _, _, _], [fI (-1)])) (h' := (156, fjl L, y20.2)) rfl trivial ?_
      obtain rfl := Option.some.inj h
      exact Wp.done rfl (by decide) H
    · replace h := fng c h
      refine Wp.run 4 (f' := (d + 3, 161, 39, 0, 0, [_, _, _, _], [fI 0, fI l2, fA 43])) (h' := (156, fjl L, y20.2)) rfl trivial ?_
      obtain ⟨y39, hy, h⟩ := fbd h
      refine Wp.call rfl (by decide) (s_X8_greatestAt_ok (d := d + 0) hy ?_)
      show Wp (d + 3, 161, 42, 0, 0, [_, _, _, _], [fI y39]) (156, fjl L, y20.2) Q
      refine Wp.run 1 (f' := (d + 3, 161, 46, 0, 0, [_, _, _, _], [fI y39])) (h' := (156, fjl L, y20.2)) rfl trivial ?_
      obtain rfl := Option.some.inj h
      exact Wp.done rfl (by decide) H
  · replace h := fng c h
    refine Wp.run 1 (f' := (d + 3, 161, 12, 0, 0, [_, _, _, _], [fI (-2)])) (h' := (156, fjl L, M)) rfl trivial ?_
    obtain rfl := Option.some.inj h
    exact Wp.done rfl (by decide) H
theorem s_X11_off_fr {M : fM} {l1 l2 l3 : Int} {r : (Int × fM)} (h : s_X11_off M l1 l2 l3 = some r) : fSame s_X11_off_mods M r.2 := by
  unfold s_X11_off at h
  obtain ⟨y4, hy, h⟩ := fbd h
  by_cases c : ¬ y4 = 0
  · replace h := fps c h
    obtain ⟨y20, hy, h⟩ := fbd h
    have k20 := fs_trans (l := s_X11_off_mods) fs_refl (fs_mono (l := s_X8_look_mods) (by decide) (s_X8_look_fr hy))
    obtain ⟨y27, hy, h⟩ := fbd h
    by_cases c : y27 = 0
    · replace h := fps c h
      obtain rfl := Option.some.inj h
      exact k20
    · replace h := fng c h
      obtain ⟨y39, hy, h⟩ := fbd h
      obtain rfl := Option.some.inj h
      exact k20
  · replace h := fng c h
    obtain rfl := Option.some.inj h
    exact fs_refl
noncomputable def s_X12_offOf_b5 (M : fM) (l1 l2 l3 l4 : Int) : Option ((Int × Int) ⊕ Int) :=
  if 12 ≤ l4 then
    some (.inr l3)
  else
    (s_X12_offsetOf M l4 l1 l2).bind fun y17 =>
      (s_X12_plain M y17).bind fun y20 =>
        if y20 ≤ l3 then
          if fin (l4 + 1) then
            some (.inl (l3, (l4 + 1)))
          else none
        else
          (s_X12_offsetOf M l4 l1 l2).bind fun y32 =>
            (s_X12_plain M y32).bind fun y35 =>
              if fin (l4 + 1) then
                some (.inl (y35, (l4 + 1)))
              else none
theorem s_X12_offOf_b5_ok {d L : Nat} {M : fM} {l1 l2 l3 l4 : Int} {r : ((Int × Int) ⊕ Int)} {Q : fO → fH → Prop} (h : s_X12_offOf_b5 M l1 l2 l3 l4 = some r) (hC : ∀ (l3' l4' : Int), r = .inl (l3', l4') → Wp (d + 1, 258, 5, 0, 0, [some (fA 122), some (fI l1), some (fI l2), some (fI l3'), some (fI l4')], []) (156, fjl L, M) Q) (hE : ∀ (e : Int) (o0' o1' o2' o4' : Option fV), r = .inr e → Wp (d + 1, 258, 49, 0, 0, [o0', o1', o2', some (fI e), o4'], []) (156, fjl L, M) Q) : Wp (d + 1, 258, 5, 0, 0, [some (fA 122), some (fI l1), some (fI l2), some (fI l3), some (fI l4)], []) (156, fjl L, M) Q := by
  unfold s_X12_offOf_b5 at h
  refine Wp.run 2 (f' := (d + 1, 258, 9, 0, 0, [some (fA 122), some (fI l1), some (fI l2), some (fI l3), some (fI l4)], [fI 12, fI l4])) (h' := (156, fjl L, M)) rfl trivial ?_
  refine Wp.br rfl (fun (c : 12 ≤ l4) => ?_) (fun (c : ¬ (12 ≤ l4)) => ?_)
  · replace h := fps c h
    exact hE _ _ _ _ _ (Option.some.inj h).symm
  · replace h := fng c h
    refine Wp.run 4 (f' := (d + 1, 258, 17, 0, 0, [some (fA 122), some (fI l1), some (fI l2), some (fI l3), some (fI l4)], [fI l2, fI l1, fI l4, fA 122])) (h' := (156, fjl L, M)) rfl trivial ?_
    obtain ⟨y17, hy, h⟩ := fbd h
    refine Wp.call rfl (by decide) (s_X12_offsetOf_ok (d := d + 0) hy ?_)
    show Wp (d + 1, 258, 20, 0, 0, [some (fA 122), some (fI l1), some (fI l2), some (fI l3), some (fI l4)], [fI y17]) (156, fjl L, M) Q
    obtain ⟨y20, hy, h⟩ := fbd h
    refine Wp.call rfl (by decide) (s_X12_plain_ok (d := d + 0) hy ?_)
    show Wp (d + 1, 258, 23, 0, 0, [some (fA 122), some (fI l1), some (fI l2), some (fI l3), some (fI l4)], [fI y20]) (156, fjl L, M) Q
    refine Wp.run 1 (f' := (d + 1, 258, 24, 0, 0, [some (fA 122), some (fI l1), some (fI l2), some (fI l3), some (fI l4)], [fI l3, fI y20])) (h' := (156, fjl L, M)) rfl trivial ?_
    refine Wp.br rfl (fun (c : y20 ≤ l3) => ?_) (fun (c : ¬ (y20 ≤ l3)) => ?_)
    · replace h := fps c h
      obtain ⟨g0, h⟩ := fgd h
      refine Wp.run 4 (f' := (d + 1, 258, 5, 0, 0, [some (fA 122), some (fI l1), some (fI l2), some (fI l3), some (fI (fw (l4 + 1)))], [])) (h' := (156, fjl L, M)) rfl trivial ?_
      rw [fw_id g0]
      exact hC _ _ (Option.some.inj h).symm
    · replace h := fng c h
      refine Wp.run 4 (f' := (d + 1, 258, 32, 0, 0, [some (fA 122), some (fI l1), some (fI l2), _, some (fI l4)], [fI l2, fI l1, fI l4, fA 122])) (h' := (156, fjl L, M)) rfl trivial ?_
      obtain ⟨y32, hy, h⟩ := fbd h
      refine Wp.call rfl (by decide) (s_X12_offsetOf_ok (d := d + 0) hy ?_)
      show Wp (d + 1, 258, 35, 0, 0, [some (fA 122), some (fI l1), some (fI l2), _, some (fI l4)], [fI y32]) (156, fjl L, M) Q
      obtain ⟨y35, hy, h⟩ := fbd h
      refine Wp.call rfl (by decide) (s_X12_plain_ok (d := d + 0) hy ?_)
      show Wp (d + 1, 258, 38, 0, 0, [some (fA 122), some (fI l1), some (fI l2), _, some (fI l4)], [fI y35]) (156, fjl L, M) Q
      obtain ⟨g0, h⟩ := fgd h
      refine Wp.run 4 (f' := (d + 1, 258, 5, 0, 0, [some (fA 122), some (fI l1), some (fI l2), some (fI y35), some (fI (fw (l4 + 1)))], [])) (h' := (156, fjl L, M)) rfl trivial ?_
      rw [fw_id g0]
      exact hC _ _ (Option.some.inj h).symm
noncomputable def s_X12_offOf_l5 (M : fM) (l1 l2 : Int) (s : (Int × Int)) : Option Int := fLp (fun s => s_X12_offOf_b5 M l1 l2 s.1 s.2) s
theorem s_X12_offOf_l5_ok {d L : Nat} {M : fM} {l1 l2 l3 l4 : Int} {r : Int} {Q : fO → fH → Prop} (h : s_X12_offOf_l5 M l1 l2 (l3, l4) = some r) (hE : ∀ (e : Int) (o0' o1' o2' o4' : Option fV), r = e → Wp (d + 1, 258, 49, 0, 0, [o0', o1', o2', some (fI e), o4'], []) (156, fjl L, M) Q) : Wp (d + 1, 258, 5, 0, 0, [some (fA 122), some (fI l1), some (fI l2), some (fI l3), some (fI l4)], []) (156, fjl L, M) Q := by
  refine fLp_wp (W := fun s => Wp (d + 1, 258, 5, 0, 0, [some (fA 122), some (fI l1), some (fI l2), some (fI s.1), some (fI s.2)], []) (156, fjl L, M) Q) (e := r) ?_ h
  intro s r1 h hC hX
  refine s_X12_offOf_b5_ok (d := d) h (fun a0 a1 e1 => ?_) (fun e u0 u1 u2 u3 e1 => hE e u0 u1 u2 u3 (hX _ e1).symm)
  exact hC _ e1
noncomputable def s_X12_offOf (M : fM) (l1 l2 : Int) : Option Int :=
  (s_X12_offOf_l5 M l1 l2 (0, 0)).bind fun e5 =>
    some e5
theorem s_X12_offOf_ok {d L : Nat} {M : fM} {l1 l2 : Int} {r : Int} {Q : fO → fH → Prop} (h : s_X12_offOf M l1 l2 = some r) (H : Q (oI r) (156, fjl L, M)) : Wp (d + 1, 258, 0, 0, 0, [some (fA 122), some (fI l1), some (fI l2), none, none], []) (156, fjl L, M) Q := by
  unfold s_X12_offOf at h
  refine Wp.run 4 (f' := (d + 1, 258, 5, 0, 0, [some (fA 122), some (fI l1), some (fI l2), some (fI 0), some (fI 0)], [])) (h' := (156, fjl L, M)) rfl trivial ?_
  obtain ⟨e5, hy, h⟩ := fbd h
  refine s_X12_offOf_l5_ok hy (fun x u0 u1 u2 u4 ex => ?_)
  cases ex
  show Wp (d + 1, 258, 49, 0, 0, [u0, u1, u2, some (fI e5), u4], []) (156, fjl L, M) Q
  refine Wp.run 1 (f' := (d + 1, 258, 50, 0, 0, [_, _, _, _, _], [fI e5])) (h' := (156, fjl L, M)) rfl trivial ?_
  obtain rfl := Option.some.inj h
  exact Wp.done rfl (by decide) H
abbrev s_X12_off_mods : List (Nat × Option Nat) := [(122, some 0), (122, some 24), (122, some 25), (122, some 26), (122, some 27), (122, some 28), (128, none), (129, none)]
noncomputable def s_X12_off (M : fM) (l1 l2 l3 : Int) : Option (Int × fM) :=
  (s_X12_isPiano (fup M 122 0 0) l1).bind fun y7 =>
    if y7 = 0 then
      some ((-2), (fup M 122 0 0))
    else
      (s_X12_isDay (fup M 122 0 0) l2).bind fun y14 =>
        if y14 = 0 then
          some ((-2), (fup M 122 0 0))
        else
          (s_X12_isKnown (fup M 122 0 0) l3).bind fun y21 =>
            if ¬ y21 = 0 then
              (s_X12_course (fup M 122 0 0) l1 l2 l3).bind fun y34 =>
                if ¬ y34.1 = 0 then
                  (s_X12_passTo y34.2 l2).bind fun y44 =>
                    (s_X12_offOf y44.2 l2 0).bind fun y50 =>
                      some (y50, y44.2)
                else
                  some ((-1), y34.2)
            else
              some ((-2), (fup M 122 0 0))
theorem s_X12_off_ok {d L : Nat} {M : fM} {l1 l2 l3 : Int} {r : (Int × fM)} {Q : fO → fH → Prop} (h : s_X12_off M l1 l2 l3 = some r) (H : Q (oI r.1) (156, fjl L, r.2)) : Wp (d + 3, 260, 0, 0, 0, [some (fA 122), some (fI l1), some (fI l2), some (fI l3)], []) (156, fjl L, M) Q := by
  unfold s_X12_off at h
  refine Wp.run 5 (f' := (d + 3, 260, 7, 0, 0, [some (fA 122), some (fI l1), some (fI l2), some (fI l3)], [fI l1, fA 122])) (h' := (156, fjl L, (fup M 122 0 0))) rfl trivial ?_
  obtain ⟨y7, hy, h⟩ := fbd h
  refine Wp.call rfl (by decide) (s_X12_isPiano_ok (d := d + 1) hy ?_)
  show Wp (d + 3, 260, 10, 0, 0, [some (fA 122), some (fI l1), some (fI l2), some (fI l3)], [fI y7]) (156, fjl L, (fup M 122 0 0)) Q
  refine Wp.br rfl (fun (c : y7 = 0) => ?_) (fun (c : ¬ (y7 = 0)) => ?_)
  · replace h := fps c h
    refine Wp.run 1 (f' := (d + 3, 260, 29, 0, 0, [_, _, _, _], [fI (-2)])) (h' := (156, fjl L, (fup M 122 0 0))) rfl trivial ?_
    obtain rfl := Option.some.inj h
    exact Wp.done rfl (by decide) H
  · replace h := fng c h
    refine Wp.run 1 (f' := (d + 3, 260, 14, 0, 0, [some (fA 122), some (fI l1), some (fI l2), some (fI l3)], [fI l2])) (h' := (156, fjl L, (fup M 122 0 0))) rfl trivial ?_
    obtain ⟨y14, hy, h⟩ := fbd h
    refine Wp.call rfl (by decide) (s_X12_isDay_ok (d := d + 1) hy ?_)
    show Wp (d + 3, 260, 17, 0, 0, [some (fA 122), some (fI l1), some (fI l2), some (fI l3)], [fI y14]) (156, fjl L, (fup M 122 0 0)) Q
    refine Wp.br rfl (fun (c : y14 = 0) => ?_) (fun (c : ¬ (y14 = 0)) => ?_)
    · replace h := fps c h
      refine Wp.run 1 (f' := (d + 3, 260, 29, 0, 0, [_, _, _, _], [fI (-2)])) (h' := (156, fjl L, (fup M 122 0 0))) rfl trivial ?_
      obtain rfl := Option.some.inj h
      exact Wp.done rfl (by decide) H
    · replace h := fng c h
      refine Wp.run 1 (f' := (d + 3, 260, 21, 0, 0, [some (fA 122), some (fI l1), some (fI l2), some (fI l3)], [fI l3])) (h' := (156, fjl L, (fup M 122 0 0))) rfl trivial ?_
      obtain ⟨y21, hy, h⟩ := fbd h
      refine Wp.call rfl (by decide) (s_X12_isKnown_ok (d := d + 1) hy ?_)
      show Wp (d + 3, 260, 24, 0, 0, [some (fA 122), some (fI l1), some (fI l2), some (fI l3)], [fI y21]) (156, fjl L, (fup M 122 0 0)) Q
      refine Wp.br rfl (fun (c : ¬ y21 = 0) => ?_) (fun (c : ¬ (¬ y21 = 0)) => ?_)
      · replace h := fps c h
        refine Wp.run 4 (f' := (d + 3, 260, 34, 0, 0, [some (fA 122), _, some (fI l2), _], [fI l3, fI l2, fI l1, fA 122])) (h' := (156, fjl L, (fup M 122 0 0))) rfl trivial ?_
        obtain ⟨y34, hy, h⟩ := fbd h
        refine Wp.call rfl (by decide) (s_X12_course_ok (d := d + 0) hy ?_)
        show Wp (d + 3, 260, 37, 0, 0, [some (fA 122), _, some (fI l2), _], [fI y34.1]) (156, fjl L, y34.2) Q
        refine Wp.br rfl (fun (c : ¬ y34.1 = 0) => ?_) (fun (c : ¬ (¬ y34.1 = 0)) => ?_)
        · replace h := fps c h
          refine Wp.run 2 (f' := (d + 3, 260, 44, 0, 0, [some (fA 122), _, some (fI l2), _], [fI l2, fA 122])) (h' := (156, fjl L, y34.2)) rfl trivial ?_
          obtain ⟨y44, hy, h⟩ := fbd h
          refine Wp.call rfl (by decide) (s_X12_passTo_ok (d := d + 0) hy ?_)
          show Wp (d + 3, 260, 47, 0, 0, [some (fA 122), _, some (fI l2), _], []) (156, fjl L, y44.2) Q
          refine Wp.run 3 (f' := (d + 3, 260, 50, 0, 0, [_, _, _, _], [fI 0, fI l2, fA 122])) (h' := (156, fjl L, y44.2)) rfl trivial ?_
          obtain ⟨y50, hy, h⟩ := fbd h
          refine Wp.call rfl (by decide) (s_X12_offOf_ok (d := d + 1) hy ?_)
          show Wp (d + 3, 260, 53, 0, 0, [_, _, _, _], [fI y50]) (156, fjl L, y44.2) Q
          obtain rfl := Option.some.inj h
          exact Wp.done rfl (by decide) H
        · replace h := fng c h
          refine Wp.run 1 (f' := (d + 3, 260, 41, 0, 0, [_, _, _, _], [fI (-1)])) (h' := (156, fjl L, y34.2)) rfl trivial ?_
          obtain rfl := Option.some.inj h
          exact Wp.done rfl (by decide) H
      · replace h := fng c h
        refine Wp.run 1 (f' := (d + 3, 260, 29, 0, 0, [_, _, _, _], [fI (-2)])) (h' := (156, fjl L, (fup M 122 0 0))) rfl trivial ?_
        obtain rfl := Option.some.inj h
        exact Wp.done rfl (by decide) H
theorem s_X12_off_fr {M : fM} {l1 l2 l3 : Int} {r : (Int × fM)} (h : s_X12_off M l1 l2 l3 = some r) : fSame s_X12_off_mods M r.2 := by
  unfold s_X12_off at h
  obtain ⟨y7, hy, h⟩ := fbd h
  by_cases c : y7 = 0
  · replace h := fps c h
    obtain rfl := Option.some.inj h
    exact fs_up fs_refl (.inr (by decide))
  · replace h := fng c h
    obtain ⟨y14, hy, h⟩ := fbd h
    by_cases c : y14 = 0
    · replace h := fps c h
      obtain rfl := Option.some.inj h
      exact fs_up fs_refl (.inr (by decide))
    · replace h := fng c h
      obtain ⟨y21, hy, h⟩ := fbd h
      by_cases c : ¬ y21 = 0
      · replace h := fps c h
        obtain ⟨y34, hy, h⟩ := fbd h
        have k34 := fs_trans (l := s_X12_off_mods) (fs_up fs_refl (.inr (by decide))) (fs_mono (l := s_X12_course_mods) (by decide) (s_X12_course_fr hy))
        by_cases c : ¬ y34.1 = 0
        · replace h := fps c h
          obtain ⟨y44, hy, h⟩ := fbd h
          have k44 := fs_trans (l := s_X12_off_mods) k34 (fs_mono (l := s_X12_passTo_mods) (by decide) (s_X12_passTo_fr hy))
          obtain ⟨y50, hy, h⟩ := fbd h
          obtain rfl := Option.some.inj h
          exact k44
        · replace h := fng c h
          obtain rfl := Option.some.inj h
          exact k34
      · replace h := fng c h
        obtain rfl := Option.some.inj h
        exact fs_up fs_refl (.inr (by decide))
noncomputable def s_X8_ear (M : fM) : Option Int :=
  (s_X2_fact_4 M (M 43 5) 3).bind fun y9 =>
    some y9
theorem s_X8_ear_ok {d L : Nat} {M : fM} {r : Int} {Q : fO → fH → Prop} (h : s_X8_ear M = some r) (H : Q (oI r) (156, fjl L, M)) : Wp (d + 1, 115, 0, 0, 0, [some (fA 43)], []) (156, fjl L, M) Q := by
  unfold s_X8_ear at h
  refine Wp.run 5 (f' := (d + 1, 115, 9, 0, 0, [_], [fI 3, fI (M 43 5), fA 4])) (h' := (156, fjl L, M)) rfl trivial ?_
  obtain ⟨y9, hy, h⟩ := fbd h
  refine Wp.call rfl (by decide) (s_X2_fact_4_ok (d := d + 0) hy ?_)
  show Wp (d + 1, 115, 12, 0, 0, [_], [fI y9]) (156, fjl L, M) Q
  obtain rfl := Option.some.inj h
  exact Wp.done rfl (by decide) H
noncomputable def s_X8_isBeyond (M : fM) (l1 l2 : Int) : Option Int :=
  if (M 43 6) < 0 then
    some 1
  else
    (s_X8_greatestAt M l1 l2).bind fun y10 =>
      (s_X8_ear M).bind fun y14 =>
        if y10 ≤ y14 then
          some 0
        else
          some 1
theorem s_X8_isBeyond_ok {d L : Nat} {M : fM} {l1 l2 : Int} {r : Int} {Q : fO → fH → Prop} (h : s_X8_isBeyond M l1 l2 = some r) (H : Q (oI r) (156, fjl L, M)) : Wp (d + 3, 121, 0, 0, 0, [some (fA 43), some (fI l1), some (fI l2)], []) (156, fjl L, M) Q := by
  unfold s_X8_isBeyond at h
  refine Wp.run 2 (f' := (d + 3, 121, 4, 0, 0, [some (fA 43), some (fI l1), some (fI l2)], [fI (M 43 6)])) (h' := (156, fjl L, M)) rfl trivial ?_
  refine Wp.br rfl (fun (c : (M 43 6) < 0) => ?_) (fun (c : ¬ ((M 43 6) < 0)) => ?_)
  · replace h := fps c h
    refine Wp.run 2 (f' := (d + 3, 121, 25, 0, 0, [_, _, _], [fI 1])) (h' := (156, fjl L, M)) rfl trivial ?_
    obtain rfl := Option.some.inj h
    exact Wp.done rfl (by decide) H
  · replace h := fng c h
    refine Wp.run 3 (f' := (d + 3, 121, 10, 0, 0, [some (fA 43), _, _], [fI l2, fI l1, fA 43])) (h' := (156, fjl L, M)) rfl trivial ?_
    obtain ⟨y10, hy, h⟩ := fbd h
    refine Wp.call rfl (by decide) (s_X8_greatestAt_ok (d := d + 0) hy ?_)
    show Wp (d + 3, 121, 13, 0, 0, [some (fA 43), _, _], [fI y10]) (156, fjl L, M) Q
    refine Wp.run 1 (f' := (d + 3, 121, 14, 0, 0, [_, _, _], [fA 43, fI y10])) (h' := (156, fjl L, M)) rfl trivial ?_
    obtain ⟨y14, hy, h⟩ := fbd h
    refine Wp.call rfl (by decide) (s_X8_ear_ok (d := d + 1) hy ?_)
    show Wp (d + 3, 121, 17, 0, 0, [_, _, _], [fI y14, fI y10]) (156, fjl L, M) Q
    refine Wp.br rfl (fun (c : y10 ≤ y14) => ?_) (fun (c : ¬ (y10 ≤ y14)) => ?_)
    · replace h := fps c h
      refine Wp.run 1 (f' := (d + 3, 121, 25, 0, 0, [_, _, _], [fI 0])) (h' := (156, fjl L, M)) rfl trivial ?_
      obtain rfl := Option.some.inj h
      exact Wp.done rfl (by decide) H
    · replace h := fng c h
      refine Wp.run 2 (f' := (d + 3, 121, 25, 0, 0, [_, _, _], [fI 1])) (h' := (156, fjl L, M)) rfl trivial ?_
      obtain rfl := Option.some.inj h
      exact Wp.done rfl (by decide) H
noncomputable def s_X8_firstBeyond_b2 (M : fM) (l2 l3 : Int) : Option (Int ⊕ (Unit ⊕ Int)) :=
  if 364 ≤ l3 then
    some (.inr (.inl ()))
  else
    (s_X8_isBeyond M l3 l2).bind fun y12 =>
      if y12 = 0 then
        if fin (l3 + 1) then
          some (.inl (l3 + 1))
        else none
      else
        some (.inr (.inr l3))
theorem s_X8_firstBeyond_b2_ok {d L : Nat} {M : fM} {l2 l3 : Int} {o1 : Option fV} {r : (Int ⊕ (Unit ⊕ Int))} {Q : fO → fH → Prop} (h : s_X8_firstBeyond_b2 M l2 l3 = some r) (hC : ∀ (l3' : Int) (o1' : Option fV), r = .inl l3' → Wp (d + 4, 122, 2, 0, 0, [some (fA 43), o1', some (fI l2), some (fI l3')], []) (156, fjl L, M) Q) (hE : ∀ (e : Unit) (o0' o1' o2' o3' : Option fV), r = .inr (.inl e) → Wp (d + 4, 122, 26, 0, 0, [o0', o1', o2', o3'], []) (156, fjl L, M) Q) (hR : ∀ (v : Int), r = .inr (.inr v) → Q (oI v) (156, fjl L, M)) : Wp (d + 4, 122, 2, 0, 0, [some (fA 43), o1, some (fI l2), some (fI l3)], []) (156, fjl L, M) Q := by
  unfold s_X8_firstBeyond_b2 at h
  refine Wp.run 2 (f' := (d + 4, 122, 6, 0, 0, [some (fA 43), _, some (fI l2), some (fI l3)], [fI 364, fI l3])) (h' := (156, fjl L, M)) rfl trivial ?_
  refine Wp.br rfl (fun (c : 364 ≤ l3) => ?_) (fun (c : ¬ (364 ≤ l3)) => ?_)
  · replace h := fps c h
    exact hE _ _ _ _ _ (Option.some.inj h).symm
  · replace h := fng c h
    refine Wp.run 3 (f' := (d + 4, 122, 12, 0, 0, [some (fA 43), _, some (fI l2), some (fI l3)], [fI l2, fI l3, fA 43])) (h' := (156, fjl L, M)) rfl trivial ?_
    obtain ⟨y12, hy, h⟩ := fbd h
    refine Wp.call rfl (by decide) (s_X8_isBeyond_ok (d := d + 0) hy ?_)
    show Wp (d + 4, 122, 15, 0, 0, [some (fA 43), _, some (fI l2), some (fI l3)], [fI y12]) (156, fjl L, M) Q
    refine Wp.br rfl (fun (c : y12 = 0) => ?_) (fun (c : ¬ (y12 = 0)) => ?_)
    · replace h := fps c h
      obtain ⟨g0, h⟩ := fgd h
      refine Wp.run 2 (f' := (d + 4, 122, 2, 0, 0, [some (fA 43), _, some (fI l2), some (fI (fw (l3 + 1)))], [])) (h' := (156, fjl L, M)) rfl trivial ?_
      rw [fw_id g0]
      exact hC _ _ (Option.some.inj h).symm
    · replace h := fng c h
      refine Wp.run 1 (f' := (d + 4, 122, 19, 0, 0, [_, _, _, _], [fI l3])) (h' := (156, fjl L, M)) rfl trivial ?_
      exact Wp.done rfl (by decide) (hR _ (Option.some.inj h).symm)
noncomputable def s_X8_firstBeyond_l2 (M : fM) (l2 : Int) (s : Int) : Option (Unit ⊕ Int) := fLp (fun s => s_X8_firstBeyond_b2 M l2 s) s
theorem s_X8_firstBeyond_l2_ok {d L : Nat} {M : fM} {l2 l3 : Int} {o1 : Option fV} {r : (Unit ⊕ Int)} {Q : fO → fH → Prop} (h : s_X8_firstBeyond_l2 M l2 l3 = some r) (hE : ∀ (e : Unit) (o0' o1' o2' o3' : Option fV), r = .inl e → Wp (d + 4, 122, 26, 0, 0, [o0', o1', o2', o3'], []) (156, fjl L, M) Q) (hR : ∀ (v : Int), r = .inr v → Q (oI v) (156, fjl L, M)) : Wp (d + 4, 122, 2, 0, 0, [some (fA 43), o1, some (fI l2), some (fI l3)], []) (156, fjl L, M) Q := by
  refine fLp_wp (W := fun s => ∀ (o1 : Option fV), Wp (d + 4, 122, 2, 0, 0, [some (fA 43), o1, some (fI l2), some (fI s)], []) (156, fjl L, M) Q) (e := r) ?_ h _
  intro s r1 h hC hX o1
  refine s_X8_firstBeyond_b2_ok (d := d) h (fun a0 _ e1 => ?_) (fun e u0 u1 u2 u3 e1 => hE e u0 u1 u2 u3 (hX _ e1).symm) (fun v e1 => hR v (hX _ e1).symm)
  exact hC _ e1 _
noncomputable def s_X8_firstBeyond (M : fM) (l1 l2 : Int) : Option Int :=
  (s_X8_firstBeyond_l2 M l2 l1).bind fun e2 =>
    Sum.elim (fun x2 =>
      some (-1))
      (fun v2 => some v2) e2
theorem s_X8_firstBeyond_ok {d L : Nat} {M : fM} {l1 l2 : Int} {r : Int} {Q : fO → fH → Prop} (h : s_X8_firstBeyond M l1 l2 = some r) (H : Q (oI r) (156, fjl L, M)) : Wp (d + 4, 122, 0, 0, 0, [some (fA 43), some (fI l1), some (fI l2), none], []) (156, fjl L, M) Q := by
  unfold s_X8_firstBeyond at h
  refine Wp.run 2 (f' := (d + 4, 122, 2, 0, 0, [some (fA 43), _, some (fI l2), some (fI l1)], [])) (h' := (156, fjl L, M)) rfl trivial ?_
  obtain ⟨e2, hy, h⟩ := fbd h
  refine s_X8_firstBeyond_l2_ok hy (fun x2 u0 u1 u2 u3 ex => ?_) (fun v2 ex => ?_)
  · subst ex
    replace h := fsl h
    show Wp (d + 4, 122, 26, 0, 0, [u0, u1, u2, u3], []) (156, fjl L, M) Q
    refine Wp.run 1 (f' := (d + 4, 122, 27, 0, 0, [_, _, _, _], [fI (-1)])) (h' := (156, fjl L, M)) rfl trivial ?_
    obtain rfl := Option.some.inj h
    exact Wp.done rfl (by decide) H
  · subst ex
    replace h := fsr h
    obtain rfl := Option.some.inj h
    exact H
abbrev s_X11_due_mods : List (Nat × Option Nat) := [(43, some 5), (43, some 6), (44, none), (45, none), (46, none)]
noncomputable def s_X11_due_j49 (M : fM) (t1 t2 : Int) : Option (Int × fM) :=
  (s_X8_firstBeyond M t1 t2).bind fun y49 =>
    some (y49, M)
theorem s_X11_due_j49_ok {d L : Nat} {M : fM} {t1 t2 : Int} {o0 o1 o2 o3 o4 : Option fV} {r : (Int × fM)} {Q : fO → fH → Prop} (h : s_X11_due_j49 M t1 t2 = some r) (H : Q (oI r.1) (156, fjl L, r.2)) : Wp (d + 5, 162, 49, 0, 0, [o0, o1, o2, o3, o4], [fI t2, fI t1, fA 43]) (156, fjl L, M) Q := by
  unfold s_X11_due_j49 at h
  obtain ⟨y49, hy, h⟩ := fbd h
  refine Wp.call rfl (by decide) (s_X8_firstBeyond_ok (d := d + 0) hy ?_)
  show Wp (d + 5, 162, 52, 0, 0, [_, _, _, _, _], [fI y49]) (156, fjl L, M) Q
  obtain rfl := Option.some.inj h
  exact Wp.done rfl (by decide) H
theorem s_X11_due_j49_fr {M : fM} {t1 t2 : Int} {r : (Int × fM)} (h : s_X11_due_j49 M t1 t2 = some r) : fSame s_X11_due_mods M r.2 := by
  unfold s_X11_due_j49 at h
  obtain ⟨y49, hy, h⟩ := fbd h
  obtain rfl := Option.some.inj h
  exact fs_refl
noncomputable def s_X11_due (M : fM) (l1 l2 l3 l4 : Int) : Option (Int × fM) :=
  (s_X11_isAsked M l1 l2 l3).bind fun y4 =>
    if y4 = 0 then
      some ((-2), M)
    else
      (s_X11_isWithin M l4 3).bind fun y13 =>
        if ¬ y13 = 0 then
          (s_X8_look M l1 l2 l3).bind fun y29 =>
            if ¬ l4 = 2 then
              s_X11_due_j49 y29.2 l2 l4
            else
              s_X11_due_j49 y29.2 l2 (-1)
        else
          some ((-2), M)
theorem s_X11_due_ok {d L : Nat} {M : fM} {l1 l2 l3 l4 : Int} {r : (Int × fM)} {Q : fO → fH → Prop} (h : s_X11_due M l1 l2 l3 l4 = some r) (H : Q (oI r.1) (156, fjl L, r.2)) : Wp (d + 5, 162, 0, 0, 0, [some (fA 0), some (fI l1), some (fI l2), some (fI l3), some (fI l4)], []) (156, fjl L, M) Q := by
  unfold s_X11_due at h
  refine Wp.run 4 (f' := (d + 5, 162, 4, 0, 0, [some (fA 0), some (fI l1), some (fI l2), some (fI l3), some (fI l4)], [fI l3, fI l2, fI l1, fA 0])) (h' := (156, fjl L, M)) rfl trivial ?_
  obtain ⟨y4, hy, h⟩ := fbd h
  refine Wp.call rfl (by decide) (s_X11_isAsked_ok (d := d + 2) hy ?_)
  show Wp (d + 5, 162, 7, 0, 0, [some (fA 0), some (fI l1), some (fI l2), some (fI l3), some (fI l4)], [fI y4]) (156, fjl L, M) Q
  refine Wp.br rfl (fun (c : y4 = 0) => ?_) (fun (c : ¬ (y4 = 0)) => ?_)
  · replace h := fps c h
    refine Wp.run 1 (f' := (d + 5, 162, 21, 0, 0, [_, _, _, _, _], [fI (-2)])) (h' := (156, fjl L, M)) rfl trivial ?_
    obtain rfl := Option.some.inj h
    exact Wp.done rfl (by decide) H
  · replace h := fng c h
    refine Wp.run 2 (f' := (d + 5, 162, 13, 0, 0, [some (fA 0), some (fI l1), some (fI l2), some (fI l3), some (fI l4)], [fI 3, fI l4])) (h' := (156, fjl L, M)) rfl trivial ?_
    obtain ⟨y13, hy, h⟩ := fbd h
    refine Wp.call rfl (by decide) (s_X11_isWithin_ok (d := d + 4) hy ?_)
    show Wp (d + 5, 162, 16, 0, 0, [some (fA 0), some (fI l1), some (fI l2), some (fI l3), some (fI l4)], [fI y13]) (156, fjl L, M) Q
    refine Wp.br rfl (fun (c : ¬ y13 = 0) => ?_) (fun (c : ¬ (¬ y13 = 0)) => ?_)
    · replace h := fps c h
      refine Wp.run 5 (f' := (d + 5, 162, 29, 0, 0, [some (fA 0), _, some (fI l2), _, some (fI l4)], [fI l3, fI l2, fI l1, fA 43])) (h' := (156, fjl L, M)) rfl trivial ?_
      obtain ⟨y29, hy, h⟩ := fbd h
      refine Wp.call rfl (by decide) (s_X8_look_ok (d := d + 2) hy ?_)
      show Wp (d + 5, 162, 32, 0, 0, [some (fA 0), _, some (fI l2), _, some (fI l4)], []) (156, fjl L, y29.2) Q
      refine Wp.run 5 (f' := (d + 5, 162, 40, 0, 0, [_, _, _, _, some (fI l4)], [fI 2, fI l4, fI l2, fA 43])) (h' := (156, fjl L, y29.2)) rfl trivial ?_
      refine Wp.br rfl (fun (c : ¬ l4 = 2) => ?_) (fun (c : ¬ (¬ l4 = 2)) => ?_)
      · replace h := fps c h
        refine Wp.run 1 (f' := (d + 5, 162, 49, 0, 0, [_, _, _, _, _], [fI l4, fI l2, fA 43])) (h' := (156, fjl L, y29.2)) rfl trivial ?_
        exact s_X11_due_j49_ok h H
      · replace h := fng c h
        refine Wp.run 2 (f' := (d + 5, 162, 49, 0, 0, [_, _, _, _, _], [fI (-1), fI l2, fA 43])) (h' := (156, fjl L, y29.2)) rfl trivial ?_
        exact s_X11_due_j49_ok h H
    · replace h := fng c h
      refine Wp.run 1 (f' := (d + 5, 162, 21, 0, 0, [_, _, _, _, _], [fI (-2)])) (h' := (156, fjl L, M)) rfl trivial ?_
      obtain rfl := Option.some.inj h
      exact Wp.done rfl (by decide) H
theorem s_X11_due_fr {M : fM} {l1 l2 l3 l4 : Int} {r : (Int × fM)} (h : s_X11_due M l1 l2 l3 l4 = some r) : fSame s_X11_due_mods M r.2 := by
  unfold s_X11_due at h
  obtain ⟨y4, hy, h⟩ := fbd h
  by_cases c : y4 = 0
  · replace h := fps c h
    obtain rfl := Option.some.inj h
    exact fs_refl
  · replace h := fng c h
    obtain ⟨y13, hy, h⟩ := fbd h
    by_cases c : ¬ y13 = 0
    · replace h := fps c h
      obtain ⟨y29, hy, h⟩ := fbd h
      have k29 := fs_trans (l := s_X11_due_mods) fs_refl (fs_mono (l := s_X8_look_mods) (by decide) (s_X8_look_fr hy))
      by_cases c : ¬ l4 = 2
      · replace h := fps c h
        exact fs_trans k29 (s_X11_due_j49_fr h)
      · replace h := fng c h
        exact fs_trans k29 (s_X11_due_j49_fr h)
    · replace h := fng c h
      obtain rfl := Option.some.inj h
      exact fs_refl
abbrev s_X12_due_mods : List (Nat × Option Nat) := [(122, some 0), (122, some 24), (122, some 25), (122, some 26), (122, some 27), (122, some 28), (128, none), (129, none)]
noncomputable def s_X12_due_j103 (M : fM) (l1 l2 l5 l6 : Int) : Option ((Int × fM) ⊕ (fM ⊕ (Int × fM))) :=
  (s_X12_offOf M l6 l5).bind fun y108 =>
    (s_X12_of M l1 3).bind fun y114 =>
      if y108 ≤ y114 then
        if fin (l6 + 1) then
          some (.inl ((l6 + 1), M))
        else none
      else
        some (.inr (.inr (l6, M)))
theorem s_X12_due_j103_ok {d L : Nat} {M : fM} {l1 l2 l5 l6 : Int} {o3 o4 : Option fV} {r : ((Int × fM) ⊕ (fM ⊕ (Int × fM)))} {Q : fO → fH → Prop} (h : s_X12_due_j103 M l1 l2 l5 l6 = some r) (hC : ∀ (l6' : Int) (M' : fM) (o3' o4' : Option fV), r = .inl (l6', M') → Wp (d + 3, 262, 83, 0, 0, [some (fA 122), some (fI l1), some (fI l2), o3', o4', some (fI l5), some (fI l6')], []) (156, fjl L, M') Q) (hE : ∀ (e : fM) (o0' o1' o2' o3' o4' o5' o6' : Option fV), r = .inr (.inl e) → Wp (d + 3, 262, 129, 0, 0, [o0', o1', o2', o3', o4', o5', o6'], []) (156, fjl L, e) Q) (hR : ∀ (v : (Int × fM)), r = .inr (.inr v) → Q (oI v.1) (156, fjl L, v.2)) : Wp (d + 3, 262, 103, 0, 0, [some (fA 122), some (fI l1), some (fI l2), o3, o4, some (fI l5), some (fI l6)], []) (156, fjl L, M) Q := by
  unfold s_X12_due_j103 at h
  refine Wp.run 3 (f' := (d + 3, 262, 108, 0, 0, [some (fA 122), some (fI l1), some (fI l2), _, _, some (fI l5), some (fI l6)], [fI l5, fI l6, fA 122])) (h' := (156, fjl L, M)) rfl trivial ?_
  obtain ⟨y108, hy, h⟩ := fbd h
  refine Wp.call rfl (by decide) (s_X12_offOf_ok (d := d + 1) hy ?_)
  show Wp (d + 3, 262, 111, 0, 0, [some (fA 122), some (fI l1), some (fI l2), _, _, some (fI l5), some (fI l6)], [fI y108]) (156, fjl L, M) Q
  refine Wp.run 3 (f' := (d + 3, 262, 114, 0, 0, [some (fA 122), some (fI l1), some (fI l2), _, _, some (fI l5), some (fI l6)], [fI 3, fI l1, fA 122, fI y108])) (h' := (156, fjl L, M)) rfl trivial ?_
  obtain ⟨y114, hy, h⟩ := fbd h
  refine Wp.call rfl (by decide) (s_X12_of_ok (d := d + 2) hy ?_)
  show Wp (d + 3, 262, 117, 0, 0, [some (fA 122), some (fI l1), some (fI l2), _, _, some (fI l5), some (fI l6)], [fI y114, fI y108]) (156, fjl L, M) Q
  refine Wp.br rfl (fun (c : y108 ≤ y114) => ?_) (fun (c : ¬ (y108 ≤ y114)) => ?_)
  · replace h := fps c h
    obtain ⟨g0, h⟩ := fgd h
    refine Wp.run 2 (f' := (d + 3, 262, 83, 0, 0, [some (fA 122), some (fI l1), some (fI l2), _, _, some (fI l5), some (fI (fw (l6 + 1)))], [])) (h' := (156, fjl L, M)) rfl trivial ?_
    rw [fw_id g0]
    exact hC _ _ _ _ (Option.some.inj h).symm
  · replace h := fng c h
    refine Wp.run 1 (f' := (d + 3, 262, 122, 0, 0, [_, _, _, _, _, _, _], [fI l6])) (h' := (156, fjl L, M)) rfl trivial ?_
    exact Wp.done rfl (by decide) (hR _ (Option.some.inj h).symm)
theorem s_X12_due_j103_fr {M : fM} {l1 l2 l5 l6 : Int} {r : ((Int × fM) ⊕ (fM ⊕ (Int × fM)))} (h : s_X12_due_j103 M l1 l2 l5 l6 = some r) : fSame s_X12_due_mods M (Sum.elim (fun s => s.2) (Sum.elim (fun e => e) (fun v => v.2)) r) := by
  unfold s_X12_due_j103 at h
  obtain ⟨y108, hy, h⟩ := fbd h
  obtain ⟨y114, hy, h⟩ := fbd h
  by_cases c : y108 ≤ y114
  · replace h := fps c h
    replace h := (fgd h).2
    obtain rfl := Option.some.inj h
    exact fs_refl
  · replace h := fng c h
    obtain rfl := Option.some.inj h
    exact fs_refl
noncomputable def s_X12_due_b83 (M : fM) (l1 l2 l5 l6 : Int) : Option ((Int × fM) ⊕ (fM ⊕ (Int × fM))) :=
  if 364 ≤ l6 then
    some (.inr (.inl M))
  else
    if l6 ≤ l2 then
      s_X12_due_j103 M l1 l2 l5 l6
    else
      (s_X12_pass M l6).bind fun y100 =>
        s_X12_due_j103 y100.2 l1 l2 l5 l6
theorem s_X12_due_b83_ok {d L : Nat} {M : fM} {l1 l2 l5 l6 : Int} {o3 o4 : Option fV} {r : ((Int × fM) ⊕ (fM ⊕ (Int × fM)))} {Q : fO → fH → Prop} (h : s_X12_due_b83 M l1 l2 l5 l6 = some r) (hC : ∀ (l6' : Int) (M' : fM) (o3' o4' : Option fV), r = .inl (l6', M') → Wp (d + 3, 262, 83, 0, 0, [some (fA 122), some (fI l1), some (fI l2), o3', o4', some (fI l5), some (fI l6')], []) (156, fjl L, M') Q) (hE : ∀ (e : fM) (o0' o1' o2' o3' o4' o5' o6' : Option fV), r = .inr (.inl e) → Wp (d + 3, 262, 129, 0, 0, [o0', o1', o2', o3', o4', o5', o6'], []) (156, fjl L, e) Q) (hR : ∀ (v : (Int × fM)), r = .inr (.inr v) → Q (oI v.1) (156, fjl L, v.2)) : Wp (d + 3, 262, 83, 0, 0, [some (fA 122), some (fI l1), some (fI l2), o3, o4, some (fI l5), some (fI l6)], []) (156, fjl L, M) Q := by
  unfold s_X12_due_b83 at h
  refine Wp.run 2 (f' := (d + 3, 262, 88, 0, 0, [some (fA 122), some (fI l1), some (fI l2), _, _, some (fI l5), some (fI l6)], [fI 364, fI l6])) (h' := (156, fjl L, M)) rfl trivial ?_
  refine Wp.br rfl (fun (c : 364 ≤ l6) => ?_) (fun (c : ¬ (364 ≤ l6)) => ?_)
  · replace h := fps c h
    exact hE _ _ _ _ _ _ _ _ (Option.some.inj h).symm
  · replace h := fng c h
    refine Wp.run 2 (f' := (d + 3, 262, 94, 0, 0, [some (fA 122), some (fI l1), some (fI l2), _, _, some (fI l5), some (fI l6)], [fI l2, fI l6])) (h' := (156, fjl L, M)) rfl trivial ?_
    refine Wp.br rfl (fun (c : l6 ≤ l2) => ?_) (fun (c : ¬ (l6 ≤ l2)) => ?_)
    · replace h := fps c h
      exact s_X12_due_j103_ok h hC hE hR
    · replace h := fng c h
      refine Wp.run 2 (f' := (d + 3, 262, 100, 0, 0, [some (fA 122), some (fI l1), some (fI l2), _, _, some (fI l5), some (fI l6)], [fI l6, fA 122])) (h' := (156, fjl L, M)) rfl trivial ?_
      obtain ⟨y100, hy, h⟩ := fbd h
      refine Wp.call rfl (by decide) (s_X12_pass_ok (d := d + 1) hy ?_)
      show Wp (d + 3, 262, 103, 0, 0, [some (fA 122), some (fI l1), some (fI l2), _, _, some (fI l5), some (fI l6)], []) (156, fjl L, y100.2) Q
      exact s_X12_due_j103_ok h hC hE hR
theorem s_X12_due_b83_fr {M : fM} {l1 l2 l5 l6 : Int} {r : ((Int × fM) ⊕ (fM ⊕ (Int × fM)))} (h : s_X12_due_b83 M l1 l2 l5 l6 = some r) : fSame s_X12_due_mods M (Sum.elim (fun s => s.2) (Sum.elim (fun e => e) (fun v => v.2)) r) := by
  unfold s_X12_due_b83 at h
  by_cases c : 364 ≤ l6
  · replace h := fps c h
    obtain rfl := Option.some.inj h
    exact fs_refl
  · replace h := fng c h
    by_cases c : l6 ≤ l2
    · replace h := fps c h
      exact fs_trans fs_refl (s_X12_due_j103_fr h)
    · replace h := fng c h
      obtain ⟨y100, hy, h⟩ := fbd h
      have k100 := fs_trans (l := s_X12_due_mods) fs_refl (fs_mono (l := s_X12_pass_mods) (by decide) (s_X12_pass_fr hy))
      exact fs_trans k100 (s_X12_due_j103_fr h)
noncomputable def s_X12_due_l83 (l1 l2 l5 : Int) (s : (Int × fM)) : Option (fM ⊕ (Int × fM)) := fLp (fun s => s_X12_due_b83 s.2 l1 l2 l5 s.1) s
theorem s_X12_due_l83_ok {d L : Nat} {M : fM} {l1 l2 l5 l6 : Int} {o3 o4 : Option fV} {r : (fM ⊕ (Int × fM))} {Q : fO → fH → Prop} (h : s_X12_due_l83 l1 l2 l5 (l6, M) = some r) (hE : ∀ (e : fM) (o0' o1' o2' o3' o4' o5' o6' : Option fV), r = .inl e → Wp (d + 3, 262, 129, 0, 0, [o0', o1', o2', o3', o4', o5', o6'], []) (156, fjl L, e) Q) (hR : ∀ (v : (Int × fM)), r = .inr v → Q (oI v.1) (156, fjl L, v.2)) : Wp (d + 3, 262, 83, 0, 0, [some (fA 122), some (fI l1), some (fI l2), o3, o4, some (fI l5), some (fI l6)], []) (156, fjl L, M) Q := by
  refine fLp_wp (W := fun s => ∀ (o3 o4 : Option fV), Wp (d + 3, 262, 83, 0, 0, [some (fA 122), some (fI l1), some (fI l2), o3, o4, some (fI l5), some (fI s.1)], []) (156, fjl L, s.2) Q) (e := r) ?_ h _ _
  intro s r1 h hC hX o3 o4
  refine s_X12_due_b83_ok (d := d) h (fun a0 a1 _ _ e1 => ?_) (fun e u0 u1 u2 u3 u4 u5 u6 e1 => hE e u0 u1 u2 u3 u4 u5 u6 (hX _ e1).symm) (fun v e1 => hR v (hX _ e1).symm)
  exact hC _ e1 _ _
theorem s_X12_due_l83_fr {M : fM} {l1 l2 l5 l6 : Int} {r : (fM ⊕ (Int × fM))} (h : s_X12_due_l83 l1 l2 l5 (l6, M) = some r) : fSame s_X12_due_mods M ((Sum.elim (fun e => e) (fun v => v.2)) r) := by
  refine fLp_inv (I := fun s => fSame s_X12_due_mods M s.2) (J := fun r => fSame s_X12_due_mods M ((Sum.elim (fun e => e) (fun v => v.2)) r)) h fs_refl (fun s s1 hs hb => ?_) (fun s e hs hb => ?_)
  · exact fs_trans hs (s_X12_due_b83_fr hb)
  · exact fs_trans hs (s_X12_due_b83_fr hb)
noncomputable def s_X12_due_j78 (M : fM) (l1 l2 t0 : Int) : Option (Int × fM) :=
  (s_X12_due_l83 l1 l2 t0 (l2, M)).bind fun e83 =>
    Sum.elim (fun x83 =>
      some ((-1), x83))
      (fun v83 => some v83) e83
theorem s_X12_due_j78_ok {d L : Nat} {M : fM} {l1 l2 t0 : Int} {o3 o4 o5 o6 : Option fV} {r : (Int × fM)} {Q : fO → fH → Prop} (h : s_X12_due_j78 M l1 l2 t0 = some r) (H : Q (oI r.1) (156, fjl L, r.2)) : Wp (d + 3, 262, 78, 0, 0, [some (fA 122), some (fI l1), some (fI l2), o3, o4, o5, o6], [fI t0]) (156, fjl L, M) Q := by
  unfold s_X12_due_j78 at h
  refine Wp.run 3 (f' := (d + 3, 262, 83, 0, 0, [some (fA 122), some (fI l1), some (fI l2), _, _, some (fI t0), some (fI l2)], [])) (h' := (156, fjl L, M)) rfl trivial ?_
  obtain ⟨e83, hy, h⟩ := fbd h
  refine s_X12_due_l83_ok hy (fun x83 u0 u1 u2 u3 u4 u5 u6 ex => ?_) (fun v83 ex => ?_)
  · subst ex
    replace h := fsl h
    show Wp (d + 3, 262, 129, 0, 0, [u0, u1, u2, u3, u4, u5, u6], []) (156, fjl L, x83) Q
    refine Wp.run 1 (f' := (d + 3, 262, 130, 0, 0, [_, _, _, _, _, _, _], [fI (-1)])) (h' := (156, fjl L, x83)) rfl trivial ?_
    obtain rfl := Option.some.inj h
    exact Wp.done rfl (by decide) H
  · subst ex
    replace h := fsr h
    obtain rfl := Option.some.inj h
    exact H
theorem s_X12_due_j78_fr {M : fM} {l1 l2 t0 : Int} {r : (Int × fM)} (h : s_X12_due_j78 M l1 l2 t0 = some r) : fSame s_X12_due_mods M r.2 := by
  unfold s_X12_due_j78 at h
  obtain ⟨e83, hy, h⟩ := fbd h
  have k83 := fs_trans (l := s_X12_due_mods) fs_refl (s_X12_due_l83_fr hy)
  rcases e83 with x83 | v83
  · replace h := fsl h
    obtain rfl := Option.some.inj h
    exact k83
  · replace h := fsr h
    obtain rfl := Option.some.inj h
    exact k83
noncomputable def s_X12_due (M : fM) (l1 l2 l3 l4 : Int) : Option (Int × fM) :=
  (s_X12_isPiano (fup M 122 0 0) l1).bind fun y7 =>
    if y7 = 0 then
      some ((-2), (fup M 122 0 0))
    else
      (s_X12_isDay (fup M 122 0 0) l2).bind fun y14 =>
        if y14 = 0 then
          some ((-2), (fup M 122 0 0))
        else
          (s_X12_isKnown (fup M 122 0 0) l3).bind fun y21 =>
            if y21 = 0 then
              some ((-2), (fup M 122 0 0))
            else
              (s_X12_isIn (fup M 122 0 0) l4 0 2).bind fun y31 =>
                if ¬ y31 = 0 then
                  (s_X12_course (fup M 122 0 0) l1 l2 l3).bind fun y44 =>
                    if ¬ y44.1 = 0 then
                      (s_X12_passTo y44.2 l2).bind fun y54 =>
                        if ¬ l4 = 1 then
                          if ¬ l4 = 2 then
                            s_X12_due_j78 y54.2 l1 l2 0
                          else
                            s_X12_due_j78 y54.2 l1 l2 (-1)
                        else
                          s_X12_due_j78 y54.2 l1 l2 1
                    else
                      some (l2, y44.2)
                else
                  some ((-2), (fup M 122 0 0))
theorem s_X12_due_ok {d L : Nat} {M : fM} {l1 l2 l3 l4 : Int} {r : (Int × fM)} {Q : fO → fH → Prop} (h : s_X12_due M l1 l2 l3 l4 = some r) (H : Q (oI r.1) (156, fjl L, r.2)) : Wp (d + 3, 262, 0, 0, 0, [some (fA 122), some (fI l1), some (fI l2), some (fI l3), some (fI l4), none, none], []) (156, fjl L, M) Q := by
  unfold s_X12_due at h
  refine Wp.run 5 (f' := (d + 3, 262, 7, 0, 0, [some (fA 122), some (fI l1), some (fI l2), some (fI l3), some (fI l4), _, _], [fI l1, fA 122])) (h' := (156, fjl L, (fup M 122 0 0))) rfl trivial ?_
  obtain ⟨y7, hy, h⟩ := fbd h
  refine Wp.call rfl (by decide) (s_X12_isPiano_ok (d := d + 1) hy ?_)
  show Wp (d + 3, 262, 10, 0, 0, [some (fA 122), some (fI l1), some (fI l2), some (fI l3), some (fI l4), _, _], [fI y7]) (156, fjl L, (fup M 122 0 0)) Q
  refine Wp.br rfl (fun (c : y7 = 0) => ?_) (fun (c : ¬ (y7 = 0)) => ?_)
  · replace h := fps c h
    refine Wp.run 1 (f' := (d + 3, 262, 39, 0, 0, [_, _, _, _, _, _, _], [fI (-2)])) (h' := (156, fjl L, (fup M 122 0 0))) rfl trivial ?_
    obtain rfl := Option.some.inj h
    exact Wp.done rfl (by decide) H
  · replace h := fng c h
    refine Wp.run 1 (f' := (d + 3, 262, 14, 0, 0, [some (fA 122), some (fI l1), some (fI l2), some (fI l3), some (fI l4), _, _], [fI l2])) (h' := (156, fjl L, (fup M 122 0 0))) rfl trivial ?_
    obtain ⟨y14, hy, h⟩ := fbd h
    refine Wp.call rfl (by decide) (s_X12_isDay_ok (d := d + 1) hy ?_)
    show Wp (d + 3, 262, 17, 0, 0, [some (fA 122), some (fI l1), some (fI l2), some (fI l3), some (fI l4), _, _], [fI y14]) (156, fjl L, (fup M 122 0 0)) Q
    refine Wp.br rfl (fun (c : y14 = 0) => ?_) (fun (c : ¬ (y14 = 0)) => ?_)
    · replace h := fps c h
      refine Wp.run 1 (f' := (d + 3, 262, 39, 0, 0, [_, _, _, _, _, _, _], [fI (-2)])) (h' := (156, fjl L, (fup M 122 0 0))) rfl trivial ?_
      obtain rfl := Option.some.inj h
      exact Wp.done rfl (by decide) H
    · replace h := fng c h
      refine Wp.run 1 (f' := (d + 3, 262, 21, 0, 0, [some (fA 122), some (fI l1), some (fI l2), some (fI l3), some (fI l4), _, _], [fI l3])) (h' := (156, fjl L, (fup M 122 0 0))) rfl trivial ?_
      obtain ⟨y21, hy, h⟩ := fbd h
      refine Wp.call rfl (by decide) (s_X12_isKnown_ok (d := d + 1) hy ?_)
      show Wp (d + 3, 262, 24, 0, 0, [some (fA 122), some (fI l1), some (fI l2), some (fI l3), some (fI l4), _, _], [fI y21]) (156, fjl L, (fup M 122 0 0)) Q
      refine Wp.br rfl (fun (c : y21 = 0) => ?_) (fun (c : ¬ (y21 = 0)) => ?_)
      · replace h := fps c h
        refine Wp.run 1 (f' := (d + 3, 262, 39, 0, 0, [_, _, _, _, _, _, _], [fI (-2)])) (h' := (156, fjl L, (fup M 122 0 0))) rfl trivial ?_
        obtain rfl := Option.some.inj h
        exact Wp.done rfl (by decide) H
      · replace h := fng c h
        refine Wp.run 3 (f' := (d + 3, 262, 31, 0, 0, [some (fA 122), some (fI l1), some (fI l2), some (fI l3), some (fI l4), _, _], [fI 2, fI 0, fI l4])) (h' := (156, fjl L, (fup M 122 0 0))) rfl trivial ?_
        obtain ⟨y31, hy, h⟩ := fbd h
        refine Wp.call rfl (by decide) (s_X12_isIn_ok (d := d + 2) hy ?_)
        show Wp (d + 3, 262, 34, 0, 0, [some (fA 122), some (fI l1), some (fI l2), some (fI l3), some (fI l4), _, _], [fI y31]) (156, fjl L, (fup M 122 0 0)) Q
        refine Wp.br rfl (fun (c : ¬ y31 = 0) => ?_) (fun (c : ¬ (¬ y31 = 0)) => ?_)
        · replace h := fps c h
          refine Wp.run 4 (f' := (d + 3, 262, 44, 0, 0, [some (fA 122), some (fI l1), some (fI l2), _, some (fI l4), _, _], [fI l3, fI l2, fI l1, fA 122])) (h' := (156, fjl L, (fup M 122 0 0))) rfl trivial ?_
          obtain ⟨y44, hy, h⟩ := fbd h
          refine Wp.call rfl (by decide) (s_X12_course_ok (d := d + 0) hy ?_)
          show Wp (d + 3, 262, 47, 0, 0, [some (fA 122), some (fI l1), some (fI l2), _, some (fI l4), _, _], [fI y44.1]) (156, fjl L, y44.2) Q
          refine Wp.br rfl (fun (c : ¬ y44.1 = 0) => ?_) (fun (c : ¬ (¬ y44.1 = 0)) => ?_)
          · replace h := fps c h
            refine Wp.run 2 (f' := (d + 3, 262, 54, 0, 0, [some (fA 122), some (fI l1), some (fI l2), _, some (fI l4), _, _], [fI l2, fA 122])) (h' := (156, fjl L, y44.2)) rfl trivial ?_
            obtain ⟨y54, hy, h⟩ := fbd h
            refine Wp.call rfl (by decide) (s_X12_passTo_ok (d := d + 0) hy ?_)
            show Wp (d + 3, 262, 57, 0, 0, [some (fA 122), some (fI l1), some (fI l2), _, some (fI l4), _, _], []) (156, fjl L, y54.2) Q
            refine Wp.run 2 (f' := (d + 3, 262, 60, 0, 0, [some (fA 122), some (fI l1), some (fI l2), _, some (fI l4), _, _], [fI 1, fI l4])) (h' := (156, fjl L, y54.2)) rfl trivial ?_
            refine Wp.br rfl (fun (c : ¬ l4 = 1) => ?_) (fun (c : ¬ (¬ l4 = 1)) => ?_)
            · replace h := fps c h
              refine Wp.run 2 (f' := (d + 3, 262, 70, 0, 0, [some (fA 122), some (fI l1), some (fI l2), _, _, _, _], [fI 2, fI l4])) (h' := (156, fjl L, y54.2)) rfl trivial ?_
              refine Wp.br rfl (fun (c : ¬ l4 = 2) => ?_) (fun (c : ¬ (¬ l4 = 2)) => ?_)
              · replace h := fps c h
                refine Wp.run 1 (f' := (d + 3, 262, 78, 0, 0, [some (fA 122), some (fI l1), some (fI l2), _, _, _, _], [fI 0])) (h' := (156, fjl L, y54.2)) rfl trivial ?_
                exact s_X12_due_j78_ok h H
              · replace h := fng c h
                refine Wp.run 2 (f' := (d + 3, 262, 78, 0, 0, [some (fA 122), some (fI l1), some (fI l2), _, _, _, _], [fI (-1)])) (h' := (156, fjl L, y54.2)) rfl trivial ?_
                exact s_X12_due_j78_ok h H
            · replace h := fng c h
              refine Wp.run 2 (f' := (d + 3, 262, 78, 0, 0, [some (fA 122), some (fI l1), some (fI l2), _, _, _, _], [fI 1])) (h' := (156, fjl L, y54.2)) rfl trivial ?_
              exact s_X12_due_j78_ok h H
          · replace h := fng c h
            refine Wp.run 1 (f' := (d + 3, 262, 51, 0, 0, [_, _, _, _, _, _, _], [fI l2])) (h' := (156, fjl L, y44.2)) rfl trivial ?_
            obtain rfl := Option.some.inj h
            exact Wp.done rfl (by decide) H
        · replace h := fng c h
          refine Wp.run 1 (f' := (d + 3, 262, 39, 0, 0, [_, _, _, _, _, _, _], [fI (-2)])) (h' := (156, fjl L, (fup M 122 0 0))) rfl trivial ?_
          obtain rfl := Option.some.inj h
          exact Wp.done rfl (by decide) H
theorem s_X12_due_fr {M : fM} {l1 l2 l3 l4 : Int} {r : (Int × fM)} (h : s_X12_due M l1 l2 l3 l4 = some r) : fSame s_X12_due_mods M r.2 := by
  unfold s_X12_due at h
  obtain ⟨y7, hy, h⟩ := fbd h
  by_cases c : y7 = 0
  · replace h := fps c h
    obtain rfl := Option.some.inj h
    exact fs_up fs_refl (.inr (by decide))
  · replace h := fng c h
    obtain ⟨y14, hy, h⟩ := fbd h
    by_cases c : y14 = 0
    · replace h := fps c h
      obtain rfl := Option.some.inj h
      exact fs_up fs_refl (.inr (by decide))
    · replace h := fng c h
      obtain ⟨y21, hy, h⟩ := fbd h
      by_cases c : y21 = 0
      · replace h := fps c h
        obtain rfl := Option.some.inj h
        exact fs_up fs_refl (.inr (by decide))
      · replace h := fng c h
        obtain ⟨y31, hy, h⟩ := fbd h
        by_cases c : ¬ y31 = 0
        · replace h := fps c h
          obtain ⟨y44, hy, h⟩ := fbd h
          have k44 := fs_trans (l := s_X12_due_mods) (fs_up fs_refl (.inr (by decide))) (fs_mono (l := s_X12_course_mods) (by decide) (s_X12_course_fr hy))
          by_cases c : ¬ y44.1 = 0
          · replace h := fps c h
            obtain ⟨y54, hy, h⟩ := fbd h
            have k54 := fs_trans (l := s_X12_due_mods) k44 (fs_mono (l := s_X12_passTo_mods) (by decide) (s_X12_passTo_fr hy))
            by_cases c : ¬ l4 = 1
            · replace h := fps c h
              by_cases c : ¬ l4 = 2
              · replace h := fps c h
                exact fs_trans k54 (s_X12_due_j78_fr h)
              · replace h := fng c h
                exact fs_trans k54 (s_X12_due_j78_fr h)
            · replace h := fng c h
              exact fs_trans k54 (s_X12_due_j78_fr h)
          · replace h := fng c h
            obtain rfl := Option.some.inj h
            exact k44
        · replace h := fng c h
          obtain rfl := Option.some.inj h
          exact fs_up fs_refl (.inr (by decide))
abbrev s_J7_fill_48_mods : List (Nat × Option Nat) := [(48, none)]
noncomputable def s_J7_fill_48_b5 (M : fM) (l1 l2 l3 : Int) : Option ((Int × fM) ⊕ fM) :=
  if l3 ≤ l2 then
    some (.inr M)
  else
    if (0 ≤ l2 ∧ l2 < 12) ∧ fin (l2 + 1) then
      some (.inl ((l2 + 1), (fup M 48 (l2).toNat l1)))
    else none
theorem s_J7_fill_48_b5_ok {d L : Nat} {M : fM} {l1 l2 l3 : Int} {r : ((Int × fM) ⊕ fM)} {Q : fO → fH → Prop} (h : s_J7_fill_48_b5 M l1 l2 l3 = some r) (hC : ∀ (l2' : Int) (M' : fM), r = .inl (l2', M') → Wp (d + 0, 315, 5, 0, 0, [some (fA 48), some (fI l1), some (fI l2'), some (fI l3)], []) (156, fjl L, M') Q) (hE : ∀ (e : fM) (o0' o1' o2' o3' : Option fV), r = .inr e → Wp (d + 0, 315, 20, 0, 0, [o0', o1', o2', o3'], []) (156, fjl L, e) Q) : Wp (d + 0, 315, 5, 0, 0, [some (fA 48), some (fI l1), some (fI l2), some (fI l3)], []) (156, fjl L, M) Q := by
  unfold s_J7_fill_48_b5 at h
  refine Wp.run 2 (f' := (d + 0, 315, 7, 0, 0, [some (fA 48), some (fI l1), some (fI l2), some (fI l3)], [fI l3, fI l2])) (h' := (156, fjl L, M)) rfl trivial ?_
  refine Wp.br rfl (fun (c : l3 ≤ l2) => ?_) (fun (c : ¬ (l3 ≤ l2)) => ?_)
  · replace h := fps c h
    exact hE _ _ _ _ _ (Option.some.inj h).symm
  · replace h := fng c h
    obtain ⟨⟨g0, g1⟩, h⟩ := fgd h
    refine Wp.run 6 (P := [0 ≤ l2 ∧ l2 < 12]) (f' := (d + 0, 315, 5, 0, 0, [some (fA 48), some (fI l1), some (fI (fw (l2 + 1))), some (fI l3)], [])) (h' := (156, fjl L, (fup M 48 (l2).toNat l1))) rfl ?_ ?_
    · exact g0
    rw [fw_id g1]
    exact hC _ _ (Option.some.inj h).symm
theorem s_J7_fill_48_b5_fr {M : fM} {l1 l2 l3 : Int} {r : ((Int × fM) ⊕ fM)} (h : s_J7_fill_48_b5 M l1 l2 l3 = some r) : fSame s_J7_fill_48_mods M (Sum.elim (fun s => s.2) (fun e => e) r) := by
  unfold s_J7_fill_48_b5 at h
  by_cases c : l3 ≤ l2
  · replace h := fps c h
    obtain rfl := Option.some.inj h
    exact fs_refl
  · replace h := fng c h
    replace h := (fgd h).2
    obtain rfl := Option.some.inj h
    exact fs_up fs_refl (.inl (by decide))
noncomputable def s_J7_fill_48_l5 (l1 l3 : Int) (s : (Int × fM)) : Option fM := fLp (fun s => s_J7_fill_48_b5 s.2 l1 s.1 l3) s
theorem s_J7_fill_48_l5_ok {d L : Nat} {M : fM} {l1 l2 l3 : Int} {r : fM} {Q : fO → fH → Prop} (h : s_J7_fill_48_l5 l1 l3 (l2, M) = some r) (hE : ∀ (e : fM) (o0' o1' o2' o3' : Option fV), r = e → Wp (d + 0, 315, 20, 0, 0, [o0', o1', o2', o3'], []) (156, fjl L, e) Q) : Wp (d + 0, 315, 5, 0, 0, [some (fA 48), some (fI l1), some (fI l2), some (fI l3)], []) (156, fjl L, M) Q := by
  refine fLp_wp (W := fun s => Wp (d + 0, 315, 5, 0, 0, [some (fA 48), some (fI l1), some (fI s.1), some (fI l3)], []) (156, fjl L, s.2) Q) (e := r) ?_ h
  intro s r1 h hC hX
  refine s_J7_fill_48_b5_ok (d := d) h (fun a0 a1 e1 => ?_) (fun e u0 u1 u2 u3 e1 => hE e u0 u1 u2 u3 (hX _ e1).symm)
  exact hC _ e1
theorem s_J7_fill_48_l5_fr {M : fM} {l1 l2 l3 : Int} {r : fM} (h : s_J7_fill_48_l5 l1 l3 (l2, M) = some r) : fSame s_J7_fill_48_mods M ((fun e => e) r) := by
  refine fLp_inv (I := fun s => fSame s_J7_fill_48_mods M s.2) (J := fun r => fSame s_J7_fill_48_mods M ((fun e => e) r)) h fs_refl (fun s s1 hs hb => ?_) (fun s e hs hb => ?_)
  · exact fs_trans hs (s_J7_fill_48_b5_fr hb)
  · exact fs_trans hs (s_J7_fill_48_b5_fr hb)
noncomputable def s_J7_fill_48 (M : fM) (l1 : Int) : Option (Unit × fM) :=
  (s_J7_fill_48_l5 l1 12 (0, M)).bind fun e5 =>
    some ((), e5)
theorem s_J7_fill_48_ok {d L : Nat} {M : fM} {l1 : Int} {r : (Unit × fM)} {Q : fO → fH → Prop} (h : s_J7_fill_48 M l1 = some r) (H : Q (oV r.1) (156, fjl L, r.2)) : Wp (d + 0, 315, 0, 0, 0, [some (fA 48), some (fI l1), none, none], []) (156, fjl L, M) Q := by
  unfold s_J7_fill_48 at h
  refine Wp.run 5 (f' := (d + 0, 315, 5, 0, 0, [some (fA 48), some (fI l1), some (fI 0), some (fI 12)], [])) (h' := (156, fjl L, M)) rfl trivial ?_
  obtain ⟨e5, hy, h⟩ := fbd h
  refine s_J7_fill_48_l5_ok hy (fun x u0 u1 u2 u3 ex => ?_)
  cases ex
  show Wp (d + 0, 315, 20, 0, 0, [u0, u1, u2, u3], []) (156, fjl L, e5) Q
  obtain rfl := Option.some.inj h
  exact Wp.done rfl (by decide) H
theorem s_J7_fill_48_fr {M : fM} {l1 : Int} {r : (Unit × fM)} (h : s_J7_fill_48 M l1 = some r) : fSame s_J7_fill_48_mods M r.2 := by
  unfold s_J7_fill_48 at h
  obtain ⟨e5, hy, h⟩ := fbd h
  have k5 := fs_trans (l := s_J7_fill_48_mods) fs_refl (s_J7_fill_48_l5_fr hy)
  obtain rfl := Option.some.inj h
  exact k5
abbrev s_J7_fill_49_mods : List (Nat × Option Nat) := [(49, none)]
noncomputable def s_J7_fill_49_b5 (M : fM) (l1 l2 l3 : Int) : Option ((Int × fM) ⊕ fM) :=
  if l3 ≤ l2 then
    some (.inr M)
  else
    if (0 ≤ l2 ∧ l2 < 12) ∧ fin (l2 + 1) then
      some (.inl ((l2 + 1), (fup M 49 (l2).toNat l1)))
    else none
theorem s_J7_fill_49_b5_ok {d L : Nat} {M : fM} {l1 l2 l3 : Int} {r : ((Int × fM) ⊕ fM)} {Q : fO → fH → Prop} (h : s_J7_fill_49_b5 M l1 l2 l3 = some r) (hC : ∀ (l2' : Int) (M' : fM), r = .inl (l2', M') → Wp (d + 0, 315, 5, 0, 0, [some (fA 49), some (fI l1), some (fI l2'), some (fI l3)], []) (156, fjl L, M') Q) (hE : ∀ (e : fM) (o0' o1' o2' o3' : Option fV), r = .inr e → Wp (d + 0, 315, 20, 0, 0, [o0', o1', o2', o3'], []) (156, fjl L, e) Q) : Wp (d + 0, 315, 5, 0, 0, [some (fA 49), some (fI l1), some (fI l2), some (fI l3)], []) (156, fjl L, M) Q := by
  unfold s_J7_fill_49_b5 at h
  refine Wp.run 2 (f' := (d + 0, 315, 7, 0, 0, [some (fA 49), some (fI l1), some (fI l2), some (fI l3)], [fI l3, fI l2])) (h' := (156, fjl L, M)) rfl trivial ?_
  refine Wp.br rfl (fun (c : l3 ≤ l2) => ?_) (fun (c : ¬ (l3 ≤ l2)) => ?_)
  · replace h := fps c h
    exact hE _ _ _ _ _ (Option.some.inj h).symm
  · replace h := fng c h
    obtain ⟨⟨g0, g1⟩, h⟩ := fgd h
    refine Wp.run 6 (P := [0 ≤ l2 ∧ l2 < 12]) (f' := (d + 0, 315, 5, 0, 0, [some (fA 49), some (fI l1), some (fI (fw (l2 + 1))), some (fI l3)], [])) (h' := (156, fjl L, (fup M 49 (l2).toNat l1))) rfl ?_ ?_
    · exact g0
    rw [fw_id g1]
    exact hC _ _ (Option.some.inj h).symm
theorem s_J7_fill_49_b5_fr {M : fM} {l1 l2 l3 : Int} {r : ((Int × fM) ⊕ fM)} (h : s_J7_fill_49_b5 M l1 l2 l3 = some r) : fSame s_J7_fill_49_mods M (Sum.elim (fun s => s.2) (fun e => e) r) := by
  unfold s_J7_fill_49_b5 at h
  by_cases c : l3 ≤ l2
  · replace h := fps c h
    obtain rfl := Option.some.inj h
    exact fs_refl
  · replace h := fng c h
    replace h := (fgd h).2
    obtain rfl := Option.some.inj h
    exact fs_up fs_refl (.inl (by decide))
noncomputable def s_J7_fill_49_l5 (l1 l3 : Int) (s : (Int × fM)) : Option fM := fLp (fun s => s_J7_fill_49_b5 s.2 l1 s.1 l3) s
theorem s_J7_fill_49_l5_ok {d L : Nat} {M : fM} {l1 l2 l3 : Int} {r : fM} {Q : fO → fH → Prop} (h : s_J7_fill_49_l5 l1 l3 (l2, M) = some r) (hE : ∀ (e : fM) (o0' o1' o2' o3' : Option fV), r = e → Wp (d + 0, 315, 20, 0, 0, [o0', o1', o2', o3'], []) (156, fjl L, e) Q) : Wp (d + 0, 315, 5, 0, 0, [some (fA 49), some (fI l1), some (fI l2), some (fI l3)], []) (156, fjl L, M) Q := by
  refine fLp_wp (W := fun s => Wp (d + 0, 315, 5, 0, 0, [some (fA 49), some (fI l1), some (fI s.1), some (fI l3)], []) (156, fjl L, s.2) Q) (e := r) ?_ h
  intro s r1 h hC hX
  refine s_J7_fill_49_b5_ok (d := d) h (fun a0 a1 e1 => ?_) (fun e u0 u1 u2 u3 e1 => hE e u0 u1 u2 u3 (hX _ e1).symm)
  exact hC _ e1
theorem s_J7_fill_49_l5_fr {M : fM} {l1 l2 l3 : Int} {r : fM} (h : s_J7_fill_49_l5 l1 l3 (l2, M) = some r) : fSame s_J7_fill_49_mods M ((fun e => e) r) := by
  refine fLp_inv (I := fun s => fSame s_J7_fill_49_mods M s.2) (J := fun r => fSame s_J7_fill_49_mods M ((fun e => e) r)) h fs_refl (fun s s1 hs hb => ?_) (fun s e hs hb => ?_)
  · exact fs_trans hs (s_J7_fill_49_b5_fr hb)
  · exact fs_trans hs (s_J7_fill_49_b5_fr hb)
noncomputable def s_J7_fill_49 (M : fM) (l1 : Int) : Option (Unit × fM) :=
  (s_J7_fill_49_l5 l1 12 (0, M)).bind fun e5 =>
    some ((), e5)
theorem s_J7_fill_49_ok {d L : Nat} {M : fM} {l1 : Int} {r : (Unit × fM)} {Q : fO → fH → Prop} (h : s_J7_fill_49 M l1 = some r) (H : Q (oV r.1) (156, fjl L, r.2)) : Wp (d + 0, 315, 0, 0, 0, [some (fA 49), some (fI l1), none, none], []) (156, fjl L, M) Q := by
  unfold s_J7_fill_49 at h
  refine Wp.run 5 (f' := (d + 0, 315, 5, 0, 0, [some (fA 49), some (fI l1), some (fI 0), some (fI 12)], [])) (h' := (156, fjl L, M)) rfl trivial ?_
  obtain ⟨e5, hy, h⟩ := fbd h
  refine s_J7_fill_49_l5_ok hy (fun x u0 u1 u2 u3 ex => ?_)
  cases ex
  show Wp (d + 0, 315, 20, 0, 0, [u0, u1, u2, u3], []) (156, fjl L, e5) Q
  obtain rfl := Option.some.inj h
  exact Wp.done rfl (by decide) H
theorem s_J7_fill_49_fr {M : fM} {l1 : Int} {r : (Unit × fM)} (h : s_J7_fill_49 M l1 = some r) : fSame s_J7_fill_49_mods M r.2 := by
  unfold s_J7_fill_49 at h
  obtain ⟨e5, hy, h⟩ := fbd h
  have k5 := fs_trans (l := s_J7_fill_49_mods) fs_refl (s_J7_fill_49_l5_fr hy)
  obtain rfl := Option.some.inj h
  exact k5
abbrev s_X1_clearFalls_mods : List (Nat × Option Nat) := [(48, none), (49, none)]
noncomputable def s_X1_clearFalls (M : fM) : Option (Unit × fM) :=
  (s_J7_fill_48 M 0).bind fun y5 =>
    (s_J7_fill_49 y5.2 0).bind fun y13 =>
      some ((), y13.2)
theorem s_X1_clearFalls_ok {d L : Nat} {M : fM} {r : (Unit × fM)} {Q : fO → fH → Prop} (h : s_X1_clearFalls M = some r) (H : Q (oV r.1) (156, fjl L, r.2)) : Wp (d + 1, 11, 0, 0, 0, [some (fA 47)], []) (156, fjl L, M) Q := by
  unfold s_X1_clearFalls at h
  refine Wp.run 3 (f' := (d + 1, 11, 5, 0, 0, [some (fA 47)], [fI 0, fA 48])) (h' := (156, fjl L, M)) rfl trivial ?_
  obtain ⟨y5, hy, h⟩ := fbd h
  refine Wp.call rfl (by decide) (s_J7_fill_48_ok (d := d + 0) hy ?_)
  show Wp (d + 1, 11, 8, 0, 0, [some (fA 47)], []) (156, fjl L, y5.2) Q
  refine Wp.run 3 (f' := (d + 1, 11, 13, 0, 0, [_], [fI 0, fA 49])) (h' := (156, fjl L, y5.2)) rfl trivial ?_
  obtain ⟨y13, hy, h⟩ := fbd h
  refine Wp.call rfl (by decide) (s_J7_fill_49_ok (d := d + 0) hy ?_)
  show Wp (d + 1, 11, 16, 0, 0, [_], []) (156, fjl L, y13.2) Q
  obtain rfl := Option.some.inj h
  exact Wp.done rfl (by decide) H
theorem s_X1_clearFalls_fr {M : fM} {r : (Unit × fM)} (h : s_X1_clearFalls M = some r) : fSame s_X1_clearFalls_mods M r.2 := by
  unfold s_X1_clearFalls at h
  obtain ⟨y5, hy, h⟩ := fbd h
  have k5 := fs_trans (l := s_X1_clearFalls_mods) fs_refl (fs_mono (l := s_J7_fill_48_mods) (by decide) (s_J7_fill_48_fr hy))
  obtain ⟨y13, hy, h⟩ := fbd h
  have k13 := fs_trans (l := s_X1_clearFalls_mods) k5 (fs_mono (l := s_J7_fill_49_mods) (by decide) (s_J7_fill_49_fr hy))
  obtain rfl := Option.some.inj h
  exact k13
abbrev s_X1_addPair_mods : List (Nat × Option Nat) := [(48, none), (49, none)]
noncomputable def s_X1_addPair_b2 (M : fM) (l1 l2 l3 : Int) : Option ((Int × fM) ⊕ fM) :=
  if 12 ≤ l3 then
    some (.inr M)
  else
    (s_X6_isTold_18 M l2 l3).bind fun y14 =>
      if y14 = 0 then
        if fin (l3 + 1) then
          some (.inl ((l3 + 1), M))
        else none
      else
        if (0 ≤ l3 ∧ l3 < 12) then
          (s_X6_leftOf_18 M l1 l3).bind fun y33 =>
            (s_X6_leftOf_18 M l2 l3).bind fun y42 =>
              if fin (y33 - y42) ∧ fin ((M 48 (l3).toNat) + (y33 - y42)) ∧ (0 ≤ l3 ∧ l3 < 12) ∧ (0 ≤ l2 ∧ l2 < 200) ∧ (0 ≤ l1 ∧ l1 < 200) ∧ fin ((M 21 (l2).toNat) - (M 21 (l1).toNat)) ∧ fin ((M 49 (l3).toNat) + ((M 21 (l2).toNat) - (M 21 (l1).toNat))) then
                if (0 ≤ l3 ∧ l3 < 12) ∧ fin (l3 + 1) then
                  some (.inl ((l3 + 1), (fup (fup M 48 (l3).toNat ((M 48 (l3).toNat) + (y33 - y42))) 49 (l3).toNat ((M 49 (l3).toNat) + ((M 21 (l2).toNat) - (M 21 (l1).toNat))))))
                else none
              else none
        else none
theorem s_X1_addPair_b2_ok {d L : Nat} {M : fM} {l1 l2 l3 : Int} {r : ((Int × fM) ⊕ fM)} {Q : fO → fH → Prop} (h : s_X1_addPair_b2 M l1 l2 l3 = some r) (hC : ∀ (l3' : Int) (M' : fM), r = .inl (l3', M') → Wp (d + 1, 13, 2, 0, 0, [some (fA 47), some (fI l1), some (fI l2), some (fI l3')], []) (156, fjl L, M') Q) (hE : ∀ (e : fM) (o0' o1' o2' o3' : Option fV), r = .inr e → Wp (d + 1, 13, 82, 0, 0, [o0', o1', o2', o3'], []) (156, fjl L, e) Q) : Wp (d + 1, 13, 2, 0, 0, [some (fA 47), some (fI l1), some (fI l2), some (fI l3)], []) (156, fjl L, M) Q := by
  unfold s_X1_addPair_b2 at h
  refine Wp.run 2 (f' := (d + 1, 13, 5, 0, 0, [some (fA 47), some (fI l1), some (fI l2), some (fI l3)], [fI 12, fI l3])) (h' := (156, fjl L, M)) rfl trivial ?_
  refine Wp.br rfl (fun (c : 12 ≤ l3) => ?_) (fun (c : ¬ (12 ≤ l3)) => ?_)
  · replace h := fps c h
    exact hE _ _ _ _ _ (Option.some.inj h).symm
  · replace h := fng c h
    refine Wp.run 4 (f' := (d + 1, 13, 14, 0, 0, [some (fA 47), some (fI l1), some (fI l2), some (fI l3)], [fI l3, fI l2, fA 18])) (h' := (156, fjl L, M)) rfl trivial ?_
    obtain ⟨y14, hy, h⟩ := fbd h
    refine Wp.call rfl (by decide) (s_X6_isTold_18_ok (d := d + 0) hy ?_)
    show Wp (d + 1, 13, 17, 0, 0, [some (fA 47), some (fI l1), some (fI l2), some (fI l3)], [fI y14]) (156, fjl L, M) Q
    refine Wp.br rfl (fun (c : y14 = 0) => ?_) (fun (c : ¬ (y14 = 0)) => ?_)
    · replace h := fps c h
      obtain ⟨g0, h⟩ := fgd h
      refine Wp.run 2 (f' := (d + 1, 13, 2, 0, 0, [some (fA 47), some (fI l1), some (fI l2), some (fI (fw (l3 + 1)))], [])) (h' := (156, fjl L, M)) rfl trivial ?_
      rw [fw_id g0]
      exact hC _ _ (Option.some.inj h).symm
    · replace h := fng c h
      obtain ⟨g0, h⟩ := fgd h
      refine Wp.run 9 (P := [0 ≤ l3 ∧ l3 < 12]) (f' := (d + 1, 13, 33, 0, 0, [some (fA 47), some (fI l1), some (fI l2), some (fI l3)], [fI l3, fI l1, fA 18, fI (M 48 (l3).toNat), fI l3, fA 48])) (h' := (156, fjl L, M)) rfl ?_ ?_
      · exact g0
      obtain ⟨y33, hy, h⟩ := fbd h
      refine Wp.call rfl (by decide) (s_X6_leftOf_18_ok (d := d + 0) hy ?_)
      show Wp (d + 1, 13, 36, 0, 0, [some (fA 47), some (fI l1), some (fI l2), some (fI l3)], [fI y33, fI (M 48 (l3).toNat), fI l3, fA 48]) (156, fjl L, M) Q
      refine Wp.run 4 (f' := (d + 1, 13, 42, 0, 0, [some (fA 47), some (fI l1), some (fI l2), some (fI l3)], [fI l3, fI l2, fA 18, fI y33, fI (M 48 (l3).toNat), fI l3, fA 48])) (h' := (156, fjl L, M)) rfl trivial ?_
      obtain ⟨y42, hy, h⟩ := fbd h
      refine Wp.call rfl (by decide) (s_X6_leftOf_18_ok (d := d + 0) hy ?_)
      show Wp (d + 1, 13, 45, 0, 0, [some (fA 47), some (fI l1), some (fI l2), some (fI l3)], [fI y42, fI y33, fI (M 48 (l3).toNat), fI l3, fA 48]) (156, fjl L, M) Q
      obtain ⟨⟨g0, g1, g2, g3, g4, g5, g6⟩, h⟩ := fgd h
      refine Wp.run 20 (P := [0 ≤ l3 ∧ l3 < 12, 0 ≤ l3 ∧ l3 < 12, 0 ≤ l2 ∧ l2 < 200, 0 ≤ l1 ∧ l1 < 200]) (f' := (d + 1, 13, 75, 0, 0, [some (fA 47), some (fI l1), some (fI l2), some (fI l3)], [fI (fw ((M 49 (l3).toNat) + (fw ((M 21 (l2).toNat) - (M 21 (l1).toNat))))), fI l3, fA 49])) (h' := (156, fjl L, (fup M 48 (l3).toNat (fw ((M 48 (l3).toNat) + (fw (y33 - y42))))))) rfl ?_ ?_
      · exact ⟨g2, g2, g3, g4⟩
      rw [fw_id g5, fw_id g6, fw_id g0, fw_id g1]
      obtain ⟨⟨g0, g1⟩, h⟩ := fgd h
      refine Wp.run 3 (P := [0 ≤ l3 ∧ l3 < 12]) (f' := (d + 1, 13, 2, 0, 0, [some (fA 47), some (fI l1), some (fI l2), some (fI (fw (l3 + 1)))], [])) (h' := (156, fjl L, (fup (fup M 48 (l3).toNat ((M 48 (l3).toNat) + (y33 - y42))) 49 (l3).toNat ((M 49 (l3).toNat) + ((M 21 (l2).toNat) - (M 21 (l1).toNat)))))) rfl ?_ ?_
      · exact g0
      rw [fw_id g1]
      exact hC _ _ (Option.some.inj h).symm
theorem s_X1_addPair_b2_fr {M : fM} {l1 l2 l3 : Int} {r : ((Int × fM) ⊕ fM)} (h : s_X1_addPair_b2 M l1 l2 l3 = some r) : fSame s_X1_addPair_mods M (Sum.elim (fun s => s.2) (fun e => e) r) := by
  unfold s_X1_addPair_b2 at h
  by_cases c : 12 ≤ l3
  · replace h := fps c h
    obtain rfl := Option.some.inj h
    exact fs_refl
  · replace h := fng c h
    obtain ⟨y14, hy, h⟩ := fbd h
    by_cases c : y14 = 0
    · replace h := fps c h
      replace h := (fgd h).2
      obtain rfl := Option.some.inj h
      exact fs_refl
    · replace h := fng c h
      replace h := (fgd h).2
      obtain ⟨y33, hy, h⟩ := fbd h
      obtain ⟨y42, hy, h⟩ := fbd h
      replace h := (fgd h).2
      replace h := (fgd h).2
      obtain rfl := Option.some.inj h
      exact fs_up (fs_up fs_refl (.inl (by decide))) (.inl (by decide))
noncomputable def s_X1_addPair_l2 (l1 l2 : Int) (s : (Int × fM)) : Option fM := fLp (fun s => s_X1_addPair_b2 s.2 l1 l2 s.1) s
theorem s_X1_addPair_l2_ok {d L : Nat} {M : fM} {l1 l2 l3 : Int} {r : fM} {Q : fO → fH → Prop} (h : s_X1_addPair_l2 l1 l2 (l3, M) = some r) (hE : ∀ (e : fM) (o0' o1' o2' o3' : Option fV), r = e → Wp (d + 1, 13, 82, 0, 0, [o0', o1', o2', o3'], []) (156, fjl L, e) Q) : Wp (d + 1, 13, 2, 0, 0, [some (fA 47), some (fI l1), some (fI l2), some (fI l3)], []) (156, fjl L, M) Q := by
  refine fLp_wp (W := fun s => Wp (d + 1, 13, 2, 0, 0, [some (fA 47), some (fI l1), some (fI l2), some (fI s.1)], []) (156, fjl L, s.2) Q) (e := r) ?_ h
  intro s r1 h hC hX
  refine s_X1_addPair_b2_ok (d := d) h (fun a0 a1 e1 => ?_) (fun e u0 u1 u2 u3 e1 => hE e u0 u1 u2 u3 (hX _ e1).symm)
  exact hC _ e1
theorem s_X1_addPair_l2_fr {M : fM} {l1 l2 l3 : Int} {r : fM} (h : s_X1_addPair_l2 l1 l2 (l3, M) = some r) : fSame s_X1_addPair_mods M ((fun e => e) r) := by
  refine fLp_inv (I := fun s => fSame s_X1_addPair_mods M s.2) (J := fun r => fSame s_X1_addPair_mods M ((fun e => e) r)) h fs_refl (fun s s1 hs hb => ?_) (fun s e hs hb => ?_)
  · exact fs_trans hs (s_X1_addPair_b2_fr hb)
  · exact fs_trans hs (s_X1_addPair_b2_fr hb)
noncomputable def s_X1_addPair (M : fM) (l1 l2 : Int) : Option (Unit × fM) :=
  (s_X1_addPair_l2 l1 l2 (0, M)).bind fun e2 =>
    some ((), e2)
theorem s_X1_addPair_ok {d L : Nat} {M : fM} {l1 l2 : Int} {r : (Unit × fM)} {Q : fO → fH → Prop} (h : s_X1_addPair M l1 l2 = some r) (H : Q (oV r.1) (156, fjl L, r.2)) : Wp (d + 1, 13, 0, 0, 0, [some (fA 47), some (fI l1), some (fI l2), none], []) (156, fjl L, M) Q := by
  unfold s_X1_addPair at h
  refine Wp.run 2 (f' := (d + 1, 13, 2, 0, 0, [some (fA 47), some (fI l1), some (fI l2), some (fI 0)], [])) (h' := (156, fjl L, M)) rfl trivial ?_
  obtain ⟨e2, hy, h⟩ := fbd h
  refine s_X1_addPair_l2_ok hy (fun x u0 u1 u2 u3 ex => ?_)
  cases ex
  show Wp (d + 1, 13, 82, 0, 0, [u0, u1, u2, u3], []) (156, fjl L, e2) Q
  obtain rfl := Option.some.inj h
  exact Wp.done rfl (by decide) H
theorem s_X1_addPair_fr {M : fM} {l1 l2 : Int} {r : (Unit × fM)} (h : s_X1_addPair M l1 l2 = some r) : fSame s_X1_addPair_mods M r.2 := by
  unfold s_X1_addPair at h
  obtain ⟨e2, hy, h⟩ := fbd h
  have k2 := fs_trans (l := s_X1_addPair_mods) fs_refl (s_X1_addPair_l2_fr hy)
  obtain rfl := Option.some.inj h
  exact k2
abbrev s_X1_addPairs_mods : List (Nat × Option Nat) := [(48, none), (49, none)]
noncomputable def s_X1_addPairs_b2 (M : fM) (l1 l2 l3 : Int) : Option ((Int × fM) ⊕ fM) :=
  if (M 18 8) ≤ l3 then
    some (.inr M)
  else
    (s_X6_isOf_18 M l3 1 l1 l2).bind fun y21 =>
      if y21 = 0 then
        if fin (l3 + 1) then
          some (.inl ((l3 + 1), M))
        else none
      else
        if (0 ≤ l3 ∧ l3 < 200) then
          (s_X6_latest_18 M 0 l1 (M 21 (l3).toNat) l2).bind fun y43 =>
            if y43 < 0 then
              if fin (l3 + 1) then
                some (.inl ((l3 + 1), M))
              else none
            else
              if (0 ≤ y43 ∧ y43 < 200) ∧ (0 ≤ l3 ∧ l3 < 200) then
                if (M 21 (l3).toNat) ≤ (M 21 (y43).toNat) then
                  if fin (l3 + 1) then
                    some (.inl ((l3 + 1), M))
                  else none
                else
                  (s_X1_addPair M y43 l3).bind fun y79 =>
                    if fin (l3 + 1) then
                      some (.inl ((l3 + 1), y79.2))
                    else none
              else none
        else none
theorem s_X1_addPairs_b2_ok {d L : Nat} {M : fM} {l1 l2 l3 : Int} {o4 : Option fV} {r : ((Int × fM) ⊕ fM)} {Q : fO → fH → Prop} (h : s_X1_addPairs_b2 M l1 l2 l3 = some r) (hC : ∀ (l3' : Int) (M' : fM) (o4' : Option fV), r = .inl (l3', M') → Wp (d + 2, 12, 2, 0, 0, [some (fA 47), some (fI l1), some (fI l2), some (fI l3'), o4'], []) (156, fjl L, M') Q) (hE : ∀ (e : fM) (o0' o1' o2' o3' o4' : Option fV), r = .inr e → Wp (d + 2, 12, 88, 0, 0, [o0', o1', o2', o3', o4'], []) (156, fjl L, e) Q) : Wp (d + 2, 12, 2, 0, 0, [some (fA 47), some (fI l1), some (fI l2), some (fI l3), o4], []) (156, fjl L, M) Q := by
  unfold s_X1_addPairs_b2 at h
  refine Wp.run 4 (f' := (d + 2, 12, 10, 0, 0, [some (fA 47), some (fI l1), some (fI l2), some (fI l3), _], [fI (M 18 8), fI l3])) (h' := (156, fjl L, M)) rfl trivial ?_
  refine Wp.br rfl (fun (c : (M 18 8) ≤ l3) => ?_) (fun (c : ¬ ((M 18 8) ≤ l3)) => ?_)
  · replace h := fps c h
    exact hE _ _ _ _ _ _ (Option.some.inj h).symm
  · replace h := fng c h
    refine Wp.run 6 (f' := (d + 2, 12, 21, 0, 0, [some (fA 47), some (fI l1), some (fI l2), some (fI l3), _], [fI l2, fI l1, fI 1, fI l3, fA 18])) (h' := (156, fjl L, M)) rfl trivial ?_
    obtain ⟨y21, hy, h⟩ := fbd h
    refine Wp.call rfl (by decide) (s_X6_isOf_18_ok (d := d + 1) hy ?_)
    show Wp (d + 2, 12, 24, 0, 0, [some (fA 47), some (fI l1), some (fI l2), some (fI l3), _], [fI y21]) (156, fjl L, M) Q
    refine Wp.br rfl (fun (c : y21 = 0) => ?_) (fun (c : ¬ (y21 = 0)) => ?_)
    · replace h := fps c h
      obtain ⟨g0, h⟩ := fgd h
      refine Wp.run 2 (f' := (d + 2, 12, 2, 0, 0, [some (fA 47), some (fI l1), some (fI l2), some (fI (fw (l3 + 1))), _], [])) (h' := (156, fjl L, M)) rfl trivial ?_
      rw [fw_id g0]
      exact hC _ _ _ (Option.some.inj h).symm
    · replace h := fng c h
      obtain ⟨g0, h⟩ := fgd h
      refine Wp.run 10 (P := [0 ≤ l3 ∧ l3 < 200]) (f' := (d + 2, 12, 43, 0, 0, [some (fA 47), some (fI l1), some (fI l2), some (fI l3), _], [fI l2, fI (M 21 (l3).toNat), fI l1, fI 0, fA 18])) (h' := (156, fjl L, M)) rfl ?_ ?_
      · exact g0
      obtain ⟨y43, hy, h⟩ := fbd h
      refine Wp.call rfl (by decide) (s_X6_latest_18_ok (d := d + 0) hy ?_)
      show Wp (d + 2, 12, 46, 0, 0, [some (fA 47), some (fI l1), some (fI l2), some (fI l3), _], [fI y43]) (156, fjl L, M) Q
      refine Wp.run 2 (f' := (d + 2, 12, 50, 0, 0, [some (fA 47), some (fI l1), some (fI l2), some (fI l3), some (fI y43)], [fI y43])) (h' := (156, fjl L, M)) rfl trivial ?_
      refine Wp.br rfl (fun (c : y43 < 0) => ?_) (fun (c : ¬ (y43 < 0)) => ?_)
      · replace h := fps c h
        obtain ⟨g0, h⟩ := fgd h
        refine Wp.run 2 (f' := (d + 2, 12, 2, 0, 0, [some (fA 47), some (fI l1), some (fI l2), some (fI (fw (l3 + 1))), _], [])) (h' := (156, fjl L, M)) rfl trivial ?_
        rw [fw_id g0]
        exact hC _ _ _ (Option.some.inj h).symm
      · replace h := fng c h
        obtain ⟨⟨g0, g1⟩, h⟩ := fgd h
        refine Wp.run 10 (P := [0 ≤ y43 ∧ y43 < 200, 0 ≤ l3 ∧ l3 < 200]) (f' := (d + 2, 12, 72, 0, 0, [some (fA 47), some (fI l1), some (fI l2), some (fI l3), some (fI y43)], [fI (M 21 (l3).toNat), fI (M 21 (y43).toNat)])) (h' := (156, fjl L, M)) rfl ?_ ?_
        · exact ⟨g0, g1⟩
        refine Wp.br rfl (fun (c : (M 21 (l3).toNat) ≤ (M 21 (y43).toNat)) => ?_) (fun (c : ¬ ((M 21 (l3).toNat) ≤ (M 21 (y43).toNat))) => ?_)
        · replace h := fps c h
          obtain ⟨g0, h⟩ := fgd h
          refine Wp.run 2 (f' := (d + 2, 12, 2, 0, 0, [some (fA 47), some (fI l1), some (fI l2), some (fI (fw (l3 + 1))), _], [])) (h' := (156, fjl L, M)) rfl trivial ?_
          rw [fw_id g0]
          exact hC _ _ _ (Option.some.inj h).symm
        · replace h := fng c h
          refine Wp.run 3 (f' := (d + 2, 12, 79, 0, 0, [some (fA 47), some (fI l1), some (fI l2), some (fI l3), _], [fI l3, fI y43, fA 47])) (h' := (156, fjl L, M)) rfl trivial ?_
          obtain ⟨y79, hy, h⟩ := fbd h
          refine Wp.call rfl (by decide) (s_X1_addPair_ok (d := d + 0) hy ?_)
          show Wp (d + 2, 12, 82, 0, 0, [some (fA 47), some (fI l1), some (fI l2), some (fI l3), _], []) (156, fjl L, y79.2) Q
          obtain ⟨g0, h⟩ := fgd h
          refine Wp.run 2 (f' := (d + 2, 12, 2, 0, 0, [some (fA 47), some (fI l1), some (fI l2), some (fI (fw (l3 + 1))), _], [])) (h' := (156, fjl L, y79.2)) rfl trivial ?_
          rw [fw_id g0]
          exact hC _ _ _ (Option.some.inj h).symm
theorem s_X1_addPairs_b2_fr {M : fM} {l1 l2 l3 : Int} {r : ((Int × fM) ⊕ fM)} (h : s_X1_addPairs_b2 M l1 l2 l3 = some r) : fSame s_X1_addPairs_mods M (Sum.elim (fun s => s.2) (fun e => e) r) := by
  unfold s_X1_addPairs_b2 at h
  by_cases c : (M 18 8) ≤ l3
  · replace h := fps c h
    obtain rfl := Option.some.inj h
    exact fs_refl
  · replace h := fng c h
    obtain ⟨y21, hy, h⟩ := fbd h
    by_cases c : y21 = 0
    · replace h := fps c h
      replace h := (fgd h).2
      obtain rfl := Option.some.inj h
      exact fs_refl
    · replace h := fng c h
      replace h := (fgd h).2
      obtain ⟨y43, hy, h⟩ := fbd h
      by_cases c : y43 < 0
      · replace h := fps c h
        replace h := (fgd h).2
        obtain rfl := Option.some.inj h
        exact fs_refl
      · replace h := fng c h
        replace h := (fgd h).2
        by_cases c : (M 21 (l3).toNat) ≤ (M 21 (y43).toNat)
        · replace h := fps c h
          replace h := (fgd h).2
          obtain rfl := Option.some.inj h
          exact fs_refl
        · replace h := fng c h
          obtain ⟨y79, hy, h⟩ := fbd h
          have k79 := fs_trans (l := s_X1_addPairs_mods) fs_refl (fs_mono (l := s_X1_addPair_mods) (by decide) (s_X1_addPair_fr hy))
          replace h := (fgd h).2
          obtain rfl := Option.some.inj h
          exact k79
noncomputable def s_X1_addPairs_l2 (l1 l2 : Int) (s : (Int × fM)) : Option fM := fLp (fun s => s_X1_addPairs_b2 s.2 l1 l2 s.1) s
theorem s_X1_addPairs_l2_ok {d L : Nat} {M : fM} {l1 l2 l3 : Int} {o4 : Option fV} {r : fM} {Q : fO → fH → Prop} (h : s_X1_addPairs_l2 l1 l2 (l3, M) = some r) (hE : ∀ (e : fM) (o0' o1' o2' o3' o4' : Option fV), r = e → Wp (d + 2, 12, 88, 0, 0, [o0', o1', o2', o3', o4'], []) (156, fjl L, e) Q) : Wp (d + 2, 12, 2, 0, 0, [some (fA 47), some (fI l1), some (fI l2), some (fI l3), o4], []) (156, fjl L, M) Q := by
  refine fLp_wp (W := fun s => ∀ (o4 : Option fV), Wp (d + 2, 12, 2, 0, 0, [some (fA 47), some (fI l1), some (fI l2), some (fI s.1), o4], []) (156, fjl L, s.2) Q) (e := r) ?_ h _
  intro s r1 h hC hX o4
  refine s_X1_addPairs_b2_ok (d := d) h (fun a0 a1 _ e1 => ?_) (fun e u0 u1 u2 u3 u4 e1 => hE e u0 u1 u2 u3 u4 (hX _ e1).symm)
  exact hC _ e1 _
theorem s_X1_addPairs_l2_fr {M : fM} {l1 l2 l3 : Int} {r : fM} (h : s_X1_addPairs_l2 l1 l2 (l3, M) = some r) : fSame s_X1_addPairs_mods M ((fun e => e) r) := by
  refine fLp_inv (I := fun s => fSame s_X1_addPairs_mods M s.2) (J := fun r => fSame s_X1_addPairs_mods M ((fun e => e) r)) h fs_refl (fun s s1 hs hb => ?_) (fun s e hs hb => ?_)
  · exact fs_trans hs (s_X1_addPairs_b2_fr hb)
  · exact fs_trans hs (s_X1_addPairs_b2_fr hb)
noncomputable def s_X1_addPairs (M : fM) (l1 l2 : Int) : Option (Unit × fM) :=
  (s_X1_addPairs_l2 l1 l2 (0, M)).bind fun e2 =>
    some ((), e2)
theorem s_X1_addPairs_ok {d L : Nat} {M : fM} {l1 l2 : Int} {r : (Unit × fM)} {Q : fO → fH → Prop} (h : s_X1_addPairs M l1 l2 = some r) (H : Q (oV r.1) (156, fjl L, r.2)) : Wp (d + 2, 12, 0, 0, 0, [some (fA 47), some (fI l1), some (fI l2), none, none], []) (156, fjl L, M) Q := by
  unfold s_X1_addPairs at h
  refine Wp.run 2 (f' := (d + 2, 12, 2, 0, 0, [some (fA 47), some (fI l1), some (fI l2), some (fI 0), _], [])) (h' := (156, fjl L, M)) rfl trivial ?_
  obtain ⟨e2, hy, h⟩ := fbd h
  refine s_X1_addPairs_l2_ok hy (fun x u0 u1 u2 u3 u4 ex => ?_)
  cases ex
  show Wp (d + 2, 12, 88, 0, 0, [u0, u1, u2, u3, u4], []) (156, fjl L, e2) Q
  obtain rfl := Option.some.inj h
  exact Wp.done rfl (by decide) H
theorem s_X1_addPairs_fr {M : fM} {l1 l2 : Int} {r : (Unit × fM)} (h : s_X1_addPairs M l1 l2 = some r) : fSame s_X1_addPairs_mods M r.2 := by
  unfold s_X1_addPairs at h
  obtain ⟨e2, hy, h⟩ := fbd h
  have k2 := fs_trans (l := s_X1_addPairs_mods) fs_refl (s_X1_addPairs_l2_fr hy)
  obtain rfl := Option.some.inj h
  exact k2
noncomputable def s_X1_isFaster (M : fM) (l1 l2 : Int) : Option Int :=
  if (0 ≤ l1 ∧ l1 < 12) ∧ (0 ≤ l2 ∧ l2 < 12) ∧ finl ((M 48 (l1).toNat) * (M 49 (l2).toNat)) then
    if finl ((M 48 (l2).toNat) * (M 49 (l1).toNat)) then
      if ((M 48 (l1).toNat) * (M 49 (l2).toNat)) ≤ ((M 48 (l2).toNat) * (M 49 (l1).toNat)) then
        some 0
      else
        some 1
    else none
  else none
theorem s_X1_isFaster_ok {d L : Nat} {M : fM} {l1 l2 : Int} {r : Int} {Q : fO → fH → Prop} (h : s_X1_isFaster M l1 l2 = some r) (H : Q (oI r) (156, fjl L, M)) : Wp (d + 0, 15, 0, 0, 0, [some (fA 47), some (fI l1), some (fI l2)], []) (156, fjl L, M) Q := by
  unfold s_X1_isFaster at h
  obtain ⟨⟨g0, g1, g2⟩, h⟩ := fgd h
  refine Wp.run 20 (P := [0 ≤ l1 ∧ l1 < 12, 0 ≤ l2 ∧ l2 < 12, 0 ≤ l2 ∧ l2 < 12, 0 ≤ l1 ∧ l1 < 12]) (f' := (d + 0, 15, 28, 0, 0, [_, _, _], [fI (M 49 (l1).toNat), fJ (M 48 (l2).toNat), fJ (fwl ((M 48 (l1).toNat) * (M 49 (l2).toNat)))])) (h' := (156, fjl L, M)) rfl ?_ ?_
  · exact ⟨g0, g1, g1, g0⟩
  rw [fwl_id g2]
  obtain ⟨g0, h⟩ := fgd h
  refine Wp.run 3 (f' := (d + 0, 15, 31, 0, 0, [_, _, _], [fI (fcm ((M 48 (l1).toNat) * (M 49 (l2).toNat)) (fwl ((M 48 (l2).toNat) * (M 49 (l1).toNat))))])) (h' := (156, fjl L, M)) rfl trivial ?_
  rw [fwl_id g0]
  refine Wp.br rfl (fun (c : (fcm ((M 48 (l1).toNat) * (M 49 (l2).toNat)) ((M 48 (l2).toNat) * (M 49 (l1).toNat))) ≤ 0) => ?_) (fun (c : ¬ ((fcm ((M 48 (l1).toNat) * (M 49 (l2).toNat)) ((M 48 (l2).toNat) * (M 49 (l1).toNat))) ≤ 0)) => ?_)
  · replace c := (fcm_le _ _).mp c
    replace h := fps c h
    refine Wp.run 1 (f' := (d + 0, 15, 39, 0, 0, [_, _, _], [fI 0])) (h' := (156, fjl L, M)) rfl trivial ?_
    obtain rfl := Option.some.inj h
    exact Wp.done rfl (by decide) H
  · replace c := fun z => c ((fcm_le _ _).mpr z)
    replace h := fng c h
    refine Wp.run 2 (f' := (d + 0, 15, 39, 0, 0, [_, _, _], [fI 1])) (h' := (156, fjl L, M)) rfl trivial ?_
    obtain rfl := Option.some.inj h
    exact Wp.done rfl (by decide) H
noncomputable def s_J9_absl (M : fM) (l0 : Int) : Option Int :=
  if 0 ≤ l0 then
    some l0
  else
    if finl (-l0) then
      some (-l0)
    else none
theorem s_J9_absl_ok {d L : Nat} {M : fM} {l0 : Int} {r : Int} {Q : fO → fH → Prop} (h : s_J9_absl M l0 = some r) (H : Q (oJ r) (156, fjl L, M)) : Wp (d + 0, 312, 0, 0, 0, [some (fJ l0), none], []) (156, fjl L, M) Q := by
  unfold s_J9_absl at h
  refine Wp.run 3 (f' := (d + 0, 312, 3, 0, 0, [some (fJ l0), none], [fI (fcm l0 0)])) (h' := (156, fjl L, M)) rfl trivial ?_
  refine Wp.br rfl (fun (c : 0 ≤ (fcm l0 0)) => ?_) (fun (c : ¬ (0 ≤ (fcm l0 0))) => ?_)
  · replace c := (fcm_ge _ _).mp c
    replace h := fps c h
    refine Wp.run 1 (f' := (d + 0, 312, 12, 0, 0, [_, _], [fJ l0])) (h' := (156, fjl L, M)) rfl trivial ?_
    obtain rfl := Option.some.inj h
    exact Wp.done rfl (by decide) H
  · replace c := fun z => c ((fcm_ge _ _).mpr z)
    replace h := fng c h
    obtain ⟨g0, h⟩ := fgd h
    refine Wp.run 3 (f' := (d + 0, 312, 12, 0, 0, [_, _], [fJ (fwl (-l0))])) (h' := (156, fjl L, M)) rfl trivial ?_
    rw [fwl_id g0]
    obtain rfl := Option.some.inj h
    exact Wp.done rfl (by decide) H
abbrev s_X1_keepLeast_mods : List (Nat × Option Nat) := [(47, some 9), (47, some 10)]
noncomputable def s_X1_keepLeast_b12 (M : fM) (l1 l3 l5 l7 l9 : Int) : Option ((Int × Int × Int) ⊕ Int) :=
  if 200 ≤ l9 then
    some (.inr l5)
  else
    if l7 = 0 then
      some (.inr l5)
    else
      if l7 ≠ 0 ∧ fin (l9 + 1) then
        some (.inl (l7, (flrm l5 l7), (l9 + 1)))
      else none
theorem s_X1_keepLeast_b12_ok {d L : Nat} {M : fM} {l1 l3 l5 l7 l9 : Int} {o10 o11 : Option fV} {r : ((Int × Int × Int) ⊕ Int)} {Q : fO → fH → Prop} (h : s_X1_keepLeast_b12 M l1 l3 l5 l7 l9 = some r) (hC : ∀ (l5' l7' l9' : Int) (o10' o11' : Option fV), r = .inl (l5', l7', l9') → Wp (d + 1, 10, 12, 0, 0, [some (fA 47), some (fJ l1), none, some (fJ l3), none, some (fJ l5'), none, some (fJ l7'), none, some (fI l9'), o10', o11'], []) (156, fjl L, M) Q) (hE : ∀ (e : Int) (o7' o8' o9' o10' o11' : Option fV), r = .inr e → Wp (d + 1, 10, 48, 0, 0, [some (fA 47), some (fJ l1), none, some (fJ l3), none, some (fJ e), none, o7', o8', o9', o10', o11'], []) (156, fjl L, M) Q) : Wp (d + 1, 10, 12, 0, 0, [some (fA 47), some (fJ l1), none, some (fJ l3), none, some (fJ l5), none, some (fJ l7), none, some (fI l9), o10, o11], []) (156, fjl L, M) Q := by
  unfold s_X1_keepLeast_b12 at h
  refine Wp.run 2 (f' := (d + 1, 10, 17, 0, 0, [some (fA 47), some (fJ l1), none, some (fJ l3), none, some (fJ l5), none, some (fJ l7), none, some (fI l9), _, _], [fI 200, fI l9])) (h' := (156, fjl L, M)) rfl trivial ?_
  refine Wp.br rfl (fun (c : 200 ≤ l9) => ?_) (fun (c : ¬ (200 ≤ l9)) => ?_)
  · replace h := fps c h
    exact hE _ _ _ _ _ _ (Option.some.inj h).symm
  · replace h := fng c h
    refine Wp.run 3 (f' := (d + 1, 10, 24, 0, 0, [some (fA 47), some (fJ l1), none, some (fJ l3), none, some (fJ l5), none, some (fJ l7), none, some (fI l9), _, _], [fI (fcm l7 0)])) (h' := (156, fjl L, M)) rfl trivial ?_
    refine Wp.br rfl (fun (c : (fcm l7 0) = 0) => ?_) (fun (c : ¬ ((fcm l7 0) = 0)) => ?_)
    · replace c := (fcm_eq _ _).mp c
      replace h := fps c h
      exact hE _ _ _ _ _ _ (Option.some.inj h).symm
    · replace c := fun z => c ((fcm_eq _ _).mpr z)
      replace h := fng c h
      obtain ⟨⟨g0, g1⟩, h⟩ := fgd h
      refine Wp.run 10 (P := [l7 ≠ 0]) (f' := (d + 1, 10, 12, 0, 0, [some (fA 47), some (fJ l1), none, some (fJ l3), none, some (fJ l7), none, some (fJ (flrm l5 l7)), none, some (fI (fw (l9 + 1))), _, _], [])) (h' := (156, fjl L, M)) rfl ?_ ?_
      · exact g0
      rw [fw_id g1]
      exact hC _ _ _ _ _ (Option.some.inj h).symm
theorem s_X1_keepLeast_b12_fr {M : fM} {l1 l3 l5 l7 l9 : Int} {r : ((Int × Int × Int) ⊕ Int)} (h : s_X1_keepLeast_b12 M l1 l3 l5 l7 l9 = some r) : fSame s_X1_keepLeast_mods M (Sum.elim (fun _ => M) (fun _ => M) r) := by
  unfold s_X1_keepLeast_b12 at h
  by_cases c : 200 ≤ l9
  · replace h := fps c h
    obtain rfl := Option.some.inj h
    exact fs_refl
  · replace h := fng c h
    by_cases c : l7 = 0
    · replace h := fps c h
      obtain rfl := Option.some.inj h
      exact fs_refl
    · replace h := fng c h
      replace h := (fgd h).2
      obtain rfl := Option.some.inj h
      exact fs_refl
noncomputable def s_X1_keepLeast_l12 (M : fM) (l1 l3 : Int) (s : (Int × Int × Int)) : Option Int := fLp (fun s => s_X1_keepLeast_b12 M l1 l3 s.1 s.2.1 s.2.2) s
theorem s_X1_keepLeast_l12_ok {d L : Nat} {M : fM} {l1 l3 l5 l7 l9 : Int} {o10 o11 : Option fV} {r : Int} {Q : fO → fH → Prop} (h : s_X1_keepLeast_l12 M l1 l3 (l5, l7, l9) = some r) (hE : ∀ (e : Int) (o7' o8' o9' o10' o11' : Option fV), r = e → Wp (d + 1, 10, 48, 0, 0, [some (fA 47), some (fJ l1), none, some (fJ l3), none, some (fJ e), none, o7', o8', o9', o10', o11'], []) (156, fjl L, M) Q) : Wp (d + 1, 10, 12, 0, 0, [some (fA 47), some (fJ l1), none, some (fJ l3), none, some (fJ l5), none, some (fJ l7), none, some (fI l9), o10, o11], []) (156, fjl L, M) Q := by
  refine fLp_wp (W := fun s => ∀ (o10 o11 : Option fV), Wp (d + 1, 10, 12, 0, 0, [some (fA 47), some (fJ l1), none, some (fJ l3), none, some (fJ s.1), none, some (fJ s.2.1), none, some (fI s.2.2), o10, o11], []) (156, fjl L, M) Q) (e := r) ?_ h _ _
  intro s r1 h hC hX o10 o11
  refine s_X1_keepLeast_b12_ok (d := d) h (fun a0 a1 a2 _ _ e1 => ?_) (fun e u0 u1 u2 u3 u4 e1 => hE e u0 u1 u2 u3 u4 (hX _ e1).symm)
  exact hC _ e1 _ _
noncomputable def s_X1_keepLeast_j64 (M : fM) (l3 l5 t1 : Int) : Option (Unit × fM) :=
  if ¬ l5 = 0 then
    if l5 ≠ 0 then
      some ((), (fup (fup M 47 9 t1) 47 10 (fldv l3 l5)))
    else none
  else
    some ((), (fup (fup M 47 9 t1) 47 10 l3))
theorem s_X1_keepLeast_j64_ok {d L : Nat} {M : fM} {l3 l5 t1 : Int} {o1 o2 o7 o8 o9 o10 o11 : Option fV} {r : (Unit × fM)} {Q : fO → fH → Prop} (h : s_X1_keepLeast_j64 M l3 l5 t1 = some r) (H : Q (oV r.1) (156, fjl L, r.2)) : Wp (d + 1, 10, 64, 0, 0, [some (fA 47), o1, o2, some (fJ l3), none, some (fJ l5), none, o7, o8, o9, o10, o11], [fJ t1, fA 47]) (156, fjl L, M) Q := by
  unfold s_X1_keepLeast_j64 at h
  refine Wp.run 5 (f' := (d + 1, 10, 72, 0, 0, [_, _, _, some (fJ l3), none, some (fJ l5), none, _, _, _, _, _], [fI (fcm l5 0), fA 47])) (h' := (156, fjl L, (fup M 47 9 t1))) rfl trivial ?_
  refine Wp.br rfl (fun (c : ¬ (fcm l5 0) = 0) => ?_) (fun (c : ¬ (¬ (fcm l5 0) = 0)) => ?_)
  · replace c := (fcm_ne _ _).mp c
    replace h := fps c h
    obtain ⟨g0, h⟩ := fgd h
    refine Wp.run 4 (P := [l5 ≠ 0]) (f' := (d + 1, 10, 86, 0, 0, [_, _, _, _, _, _, _, _, _, _, _, _], [])) (h' := (156, fjl L, (fup (fup M 47 9 t1) 47 10 (fldv l3 l5)))) rfl ?_ ?_
    · exact g0
    obtain rfl := Option.some.inj h
    exact Wp.done rfl (by decide) H
  · replace c := fun z => c ((fcm_ne _ _).mpr z)
    replace h := fng c h
    refine Wp.run 3 (f' := (d + 1, 10, 86, 0, 0, [_, _, _, _, _, _, _, _, _, _, _, _], [])) (h' := (156, fjl L, (fup (fup M 47 9 t1) 47 10 l3))) rfl trivial ?_
    obtain rfl := Option.some.inj h
    exact Wp.done rfl (by decide) H
theorem s_X1_keepLeast_j64_fr {M : fM} {l3 l5 t1 : Int} {r : (Unit × fM)} (h : s_X1_keepLeast_j64 M l3 l5 t1 = some r) : fSame s_X1_keepLeast_mods M r.2 := by
  unfold s_X1_keepLeast_j64 at h
  by_cases c : ¬ l5 = 0
  · replace h := fps c h
    replace h := (fgd h).2
    obtain rfl := Option.some.inj h
    exact fs_up (fs_up fs_refl (.inr (by decide))) (.inr (by decide))
  · replace h := fng c h
    obtain rfl := Option.some.inj h
    exact fs_up (fs_up fs_refl (.inr (by decide))) (.inr (by decide))
noncomputable def s_X1_keepLeast_j48 (M : fM) (l1 l3 l5 : Int) : Option (Unit × fM) :=
  if ¬ l5 = 0 then
    if l5 ≠ 0 then
      s_X1_keepLeast_j64 M l3 l5 (fldv l1 l5)
    else none
  else
    s_X1_keepLeast_j64 M l3 l5 l1
theorem s_X1_keepLeast_j48_ok {d L : Nat} {M : fM} {l1 l3 l5 : Int} {o7 o8 o9 o10 o11 : Option fV} {r : (Unit × fM)} {Q : fO → fH → Prop} (h : s_X1_keepLeast_j48 M l1 l3 l5 = some r) (H : Q (oV r.1) (156, fjl L, r.2)) : Wp (d + 1, 10, 48, 0, 0, [some (fA 47), some (fJ l1), none, some (fJ l3), none, some (fJ l5), none, o7, o8, o9, o10, o11], []) (156, fjl L, M) Q := by
  unfold s_X1_keepLeast_j48 at h
  refine Wp.run 4 (f' := (d + 1, 10, 53, 0, 0, [some (fA 47), some (fJ l1), none, some (fJ l3), none, some (fJ l5), none, _, _, _, _, _], [fI (fcm l5 0), fA 47])) (h' := (156, fjl L, M)) rfl trivial ?_
  refine Wp.br rfl (fun (c : ¬ (fcm l5 0) = 0) => ?_) (fun (c : ¬ (¬ (fcm l5 0) = 0)) => ?_)
  · replace c := (fcm_ne _ _).mp c
    replace h := fps c h
    obtain ⟨g0, h⟩ := fgd h
    refine Wp.run 3 (P := [l5 ≠ 0]) (f' := (d + 1, 10, 64, 0, 0, [some (fA 47), _, _, some (fJ l3), none, some (fJ l5), none, _, _, _, _, _], [fJ (fldv l1 l5), fA 47])) (h' := (156, fjl L, M)) rfl ?_ ?_
    · exact g0
    exact s_X1_keepLeast_j64_ok h H
  · replace c := fun z => c ((fcm_ne _ _).mpr z)
    replace h := fng c h
    refine Wp.run 2 (f' := (d + 1, 10, 64, 0, 0, [some (fA 47), _, _, some (fJ l3), none, some (fJ l5), none, _, _, _, _, _], [fJ l1, fA 47])) (h' := (156, fjl L, M)) rfl trivial ?_
    exact s_X1_keepLeast_j64_ok h H
theorem s_X1_keepLeast_j48_fr {M : fM} {l1 l3 l5 : Int} {r : (Unit × fM)} (h : s_X1_keepLeast_j48 M l1 l3 l5 = some r) : fSame s_X1_keepLeast_mods M r.2 := by
  unfold s_X1_keepLeast_j48 at h
  by_cases c : ¬ l5 = 0
  · replace h := fps c h
    replace h := (fgd h).2
    exact fs_trans fs_refl (s_X1_keepLeast_j64_fr h)
  · replace h := fng c h
    exact fs_trans fs_refl (s_X1_keepLeast_j64_fr h)
noncomputable def s_X1_keepLeast (M : fM) (l1 l3 : Int) : Option (Unit × fM) :=
  (s_J9_absl M l1).bind fun y1 =>
    (s_X1_keepLeast_l12 M l1 l3 (y1, l3, 0)).bind fun e12 =>
      s_X1_keepLeast_j48 M l1 l3 e12
theorem s_X1_keepLeast_ok {d L : Nat} {M : fM} {l1 l3 : Int} {r : (Unit × fM)} {Q : fO → fH → Prop} (h : s_X1_keepLeast M l1 l3 = some r) (H : Q (oV r.1) (156, fjl L, r.2)) : Wp (d + 1, 10, 0, 0, 0, [some (fA 47), some (fJ l1), none, some (fJ l3), none, none, none, none, none, none, none, none], []) (156, fjl L, M) Q := by
  unfold s_X1_keepLeast at h
  refine Wp.run 1 (f' := (d + 1, 10, 1, 0, 0, [some (fA 47), some (fJ l1), none, some (fJ l3), none, _, _, _, _, _, _, _], [fJ l1])) (h' := (156, fjl L, M)) rfl trivial ?_
  obtain ⟨y1, hy, h⟩ := fbd h
  refine Wp.call rfl (by decide) (s_J9_absl_ok (d := d + 0) hy ?_)
  show Wp (d + 1, 10, 4, 0, 0, [some (fA 47), some (fJ l1), none, some (fJ l3), none, _, _, _, _, _, _, _], [fJ y1]) (156, fjl L, M) Q
  refine Wp.run 5 (f' := (d + 1, 10, 12, 0, 0, [some (fA 47), some (fJ l1), none, some (fJ l3), none, some (fJ y1), none, some (fJ l3), none, some (fI 0), _, _], [])) (h' := (156, fjl L, M)) rfl trivial ?_
  obtain ⟨e12, hy, h⟩ := fbd h
  refine s_X1_keepLeast_l12_ok hy (fun x u7 u8 u9 u10 u11 ex => ?_)
  cases ex
  show Wp (d + 1, 10, 48, 0, 0, [some (fA 47), some (fJ l1), none, some (fJ l3), none, some (fJ e12), none, u7, u8, u9, u10, u11], []) (156, fjl L, M) Q
  exact s_X1_keepLeast_j48_ok h H
theorem s_X1_keepLeast_fr {M : fM} {l1 l3 : Int} {r : (Unit × fM)} (h : s_X1_keepLeast M l1 l3 = some r) : fSame s_X1_keepLeast_mods M r.2 := by
  unfold s_X1_keepLeast at h
  obtain ⟨y1, hy, h⟩ := fbd h
  obtain ⟨e12, hy, h⟩ := fbd h
  exact fs_trans fs_refl (s_X1_keepLeast_j48_fr h)
