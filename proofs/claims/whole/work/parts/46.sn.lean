/-! ===== functions of the methods (printed by genfun.py) ===== -/
noncomputable def s_X0_isFree (M : fM) (l1 l2 : Int) : Option Int :=
  if (0 ≤ l1 ∧ l1 < 200) then
    if (M 8 0) ≤ 0 then
      some 0
    else
      if (0 ≤ l1 ∧ l1 < 200) ∧ fin ((M 21 (l1).toNat) - (M 8 0)) ∧ fin ((M 21 (l1).toNat) - 1) then
        (s_X6_hasWithin_18 M 0 (M 20 (l1).toNat) ((M 21 (l1).toNat) - (M 8 0)) ((M 21 (l1).toNat) - 1) l2).bind fun y48 =>
          if y48 = 0 then
            some 0
          else
            some 1
      else none
  else none
theorem s_X0_isFree_ok {d L : Nat} {M : fM} {l1 l2 : Int} {r : Int} {Q : fO → fH → Prop} (h : s_X0_isFree M l1 l2 = some r) (H : Q (oI r) (156, fjl L, M)) : Wp (d + 2, 5, 0, 0, 0, [some (fA 53), some (fI l1), some (fI l2), none, none], []) (156, fjl L, M) Q := by
  unfold s_X0_isFree at h
  obtain ⟨g0, h⟩ := fgd h
  refine Wp.run 12 (P := [(0 : Int) ≤ 0 ∧ (0 : Int) < 6, 0 ≤ l1 ∧ l1 < 200]) (f' := (d + 2, 5, 21, 0, 0, [some (fA 53), some (fI l1), some (fI l2), some (fI (M 8 0)), some (fI (M 21 (l1).toNat))], [])) (h' := (156, fjl L, M)) rfl ?_ ?_
  · exact ⟨(by decide : (0 : Int) ≤ 0 ∧ (0 : Int) < 6), g0⟩
  refine Wp.run 1 (f' := (d + 2, 5, 22, 0, 0, [some (fA 53), some (fI l1), some (fI l2), some (fI (M 8 0)), some (fI (M 21 (l1).toNat))], [fI (M 8 0)])) (h' := (156, fjl L, M)) rfl trivial ?_
  refine Wp.br rfl (fun (c : (M 8 0) ≤ 0) => ?_) (fun (c : ¬ ((M 8 0) ≤ 0)) => ?_)
  · replace h := fps c h
    refine Wp.run 1 (f' := (d + 2, 5, 59, 0, 0, [_, _, _, _, _], [fI 0])) (h' := (156, fjl L, M)) rfl trivial ?_
    obtain rfl := Option.some.inj h
    exact Wp.done rfl (by decide) H
  · replace h := fng c h
    obtain ⟨⟨g0, g1, g2⟩, h⟩ := fgd h
    refine Wp.run 15 (P := [0 ≤ l1 ∧ l1 < 200]) (f' := (d + 2, 5, 48, 0, 0, [_, _, _, _, _], [fI l2, fI (fw ((M 21 (l1).toNat) - 1)), fI (fw ((M 21 (l1).toNat) - (M 8 0))), fI (M 20 (l1).toNat), fI 0, fA 18])) (h' := (156, fjl L, M)) rfl ?_ ?_
    · exact g0
    rw [fw_id g1, fw_id g2]
    obtain ⟨y48, hy, h⟩ := fbd h
    refine Wp.call rfl (by decide) (s_X6_hasWithin_18_ok (d := d + 0) hy ?_)
    show Wp (d + 2, 5, 51, 0, 0, [_, _, _, _, _], [fI y48]) (156, fjl L, M) Q
    refine Wp.br rfl (fun (c : y48 = 0) => ?_) (fun (c : ¬ (y48 = 0)) => ?_)
    · replace h := fps c h
      refine Wp.run 1 (f' := (d + 2, 5, 59, 0, 0, [_, _, _, _, _], [fI 0])) (h' := (156, fjl L, M)) rfl trivial ?_
      obtain rfl := Option.some.inj h
      exact Wp.done rfl (by decide) H
    · replace h := fng c h
      refine Wp.run 2 (f' := (d + 2, 5, 59, 0, 0, [_, _, _, _, _], [fI 1])) (h' := (156, fjl L, M)) rfl trivial ?_
      obtain rfl := Option.some.inj h
      exact Wp.done rfl (by decide) H
noncomputable def s_X0_debtBy (M : fM) (l1 l2 : Int) : Option Int :=
  if (0 ≤ l1 ∧ l1 < 200) then
    if (M 19 (l1).toNat) = 0 then
      (s_X0_isFree M l1 l2).bind fun y47 =>
        if y47 = 0 then
          if (0 ≤ l1 ∧ l1 < 200) then
            (s_X2_feeOf_4 M (M 20 (l1).toNat) (M 21 (l1).toNat)).bind fun y79 =>
              some y79
          else none
        else
          some 0
    else
      if (M 19 (l1).toNat) = 1 then
        some 0
      else
        if (M 19 (l1).toNat) = 2 then
          some 0
        else
          if (M 19 (l1).toNat) = 3 then
            if (0 ≤ l1 ∧ l1 < 200) ∧ fin (-(M 23 (l1).toNat)) then
              some (-(M 23 (l1).toNat))
            else none
          else
            if (M 19 (l1).toNat) = 4 then
              if fin (-(M 8 1)) then
                some (-(M 8 1))
              else none
            else
              some 0
  else none
theorem s_X0_debtBy_ok {d L : Nat} {M : fM} {l1 l2 : Int} {r : Int} {Q : fO → fH → Prop} (h : s_X0_debtBy M l1 l2 = some r) (H : Q (oI r) (156, fjl L, M)) : Wp (d + 3, 8, 0, 0, 0, [some (fA 53), some (fI l1), some (fI l2)], []) (156, fjl L, M) Q := by
  unfold s_X0_debtBy at h
  obtain ⟨g0, h⟩ := fgd h
  refine Wp.run 5 (P := [0 ≤ l1 ∧ l1 < 200]) (f' := (d + 3, 8, 9, 0, 0, [some (fA 53), some (fI l1), some (fI l2)], [fI (M 19 (l1).toNat)])) (h' := (156, fjl L, M)) rfl ?_ ?_
  · exact g0
  refine Wp.sw rfl ?_
  refine ⟨fun (c : (M 19 (l1).toNat) = 0) => ?_, fun (c : ¬ ((M 19 (l1).toNat) = 0)) => ?_⟩
  · replace h := fps c h
    show Wp (d + 3, 8, 44, 0, 0, [some (fA 53), some (fI l1), some (fI l2)], []) (156, fjl L, M) Q
    refine Wp.run 3 (f' := (d + 3, 8, 47, 0, 0, [some (fA 53), some (fI l1), _], [fI l2, fI l1, fA 53])) (h' := (156, fjl L, M)) rfl trivial ?_
    obtain ⟨y47, hy, h⟩ := fbd h
    refine Wp.call rfl (by decide) (s_X0_isFree_ok (d := d + 0) hy ?_)
    show Wp (d + 3, 8, 50, 0, 0, [some (fA 53), some (fI l1), _], [fI y47]) (156, fjl L, M) Q
    refine Wp.br rfl (fun (c : y47 = 0) => ?_) (fun (c : ¬ (y47 = 0)) => ?_)
    · replace h := fps c h
      obtain ⟨g0, h⟩ := fgd h
      refine Wp.run 12 (P := [0 ≤ l1 ∧ l1 < 200, 0 ≤ l1 ∧ l1 < 200]) (f' := (d + 3, 8, 79, 0, 0, [_, _, _], [fI (M 21 (l1).toNat), fI (M 20 (l1).toNat), fA 4])) (h' := (156, fjl L, M)) rfl ?_ ?_
      · exact ⟨g0, g0⟩
      obtain ⟨y79, hy, h⟩ := fbd h
      refine Wp.call rfl (by decide) (s_X2_feeOf_4_ok (d := d + 1) hy ?_)
      show Wp (d + 3, 8, 82, 0, 0, [_, _, _], [fI y79]) (156, fjl L, M) Q
      obtain rfl := Option.some.inj h
      exact Wp.done rfl (by decide) H
    · replace h := fng c h
      refine Wp.run 2 (f' := (d + 3, 8, 82, 0, 0, [_, _, _], [fI 0])) (h' := (156, fjl L, M)) rfl trivial ?_
      obtain rfl := Option.some.inj h
      exact Wp.done rfl (by decide) H
  · replace h := fng c h
    refine ⟨fun (c : (M 19 (l1).toNat) = 1) => ?_, fun (c : ¬ ((M 19 (l1).toNat) = 1)) => ?_⟩
    · replace h := fps c h
      show Wp (d + 3, 8, 105, 0, 0, [_, _, _], []) (156, fjl L, M) Q
      refine Wp.run 1 (f' := (d + 3, 8, 106, 0, 0, [_, _, _], [fI 0])) (h' := (156, fjl L, M)) rfl trivial ?_
      obtain rfl := Option.some.inj h
      exact Wp.done rfl (by decide) H
    · replace h := fng c h
      refine ⟨fun (c : (M 19 (l1).toNat) = 2) => ?_, fun (c : ¬ ((M 19 (l1).toNat) = 2)) => ?_⟩
      · replace h := fps c h
        show Wp (d + 3, 8, 105, 0, 0, [_, _, _], []) (156, fjl L, M) Q
        refine Wp.run 1 (f' := (d + 3, 8, 106, 0, 0, [_, _, _], [fI 0])) (h' := (156, fjl L, M)) rfl trivial ?_
        obtain rfl := Option.some.inj h
        exact Wp.done rfl (by decide) H
      · replace h := fng c h
        refine ⟨fun (c : (M 19 (l1).toNat) = 3) => ?_, fun (c : ¬ ((M 19 (l1).toNat) = 3)) => ?_⟩
        · replace h := fps c h
          show Wp (d + 3, 8, 83, 0, 0, [some (fA 53), some (fI l1), _], []) (156, fjl L, M) Q
          obtain ⟨⟨g0, g1⟩, h⟩ := fgd h
          refine Wp.run 6 (P := [0 ≤ l1 ∧ l1 < 200]) (f' := (d + 3, 8, 93, 0, 0, [_, _, _], [fI (fw (-(M 23 (l1).toNat)))])) (h' := (156, fjl L, M)) rfl ?_ ?_
          · exact g0
          rw [fw_id g1]
          obtain rfl := Option.some.inj h
          exact Wp.done rfl (by decide) H
        · replace h := fng c h
          refine ⟨fun (c : (M 19 (l1).toNat) = 4) => ?_, fun (c : ¬ ((M 19 (l1).toNat) = 4)) => ?_⟩
          · replace h := fps c h
            show Wp (d + 3, 8, 94, 0, 0, [some (fA 53), _, _], []) (156, fjl L, M) Q
            obtain ⟨g0, h⟩ := fgd h
            refine Wp.run 6 (P := [(0 : Int) ≤ 1 ∧ (1 : Int) < 6]) (f' := (d + 3, 8, 104, 0, 0, [_, _, _], [fI (fw (-(M 8 1)))])) (h' := (156, fjl L, M)) rfl ?_ ?_
            · exact (by decide : (0 : Int) ≤ 1 ∧ (1 : Int) < 6)
            rw [fw_id g0]
            obtain rfl := Option.some.inj h
            exact Wp.done rfl (by decide) H
          · replace h := fng c h
            show Wp (d + 3, 8, 105, 0, 0, [_, _, _], []) (156, fjl L, M) Q
            refine Wp.run 1 (f' := (d + 3, 8, 106, 0, 0, [_, _, _], [fI 0])) (h' := (156, fjl L, M)) rfl trivial ?_
            obtain rfl := Option.some.inj h
            exact Wp.done rfl (by decide) H
noncomputable def s_X0_debt_b6 (M : fM) (l1 l2 l3 l4 l5 : Int) : Option ((Int × Int) ⊕ Int) :=
  if (M 18 8) ≤ l5 then
    some (.inr l4)
  else
    if (0 ≤ l5 ∧ l5 < 200) then
      if ¬ (M 20 (l5).toNat) = l1 then
        if fin (l5 + 1) then
          some (.inl (l4, (l5 + 1)))
        else none
      else
        if (0 ≤ l5 ∧ l5 < 200) then
          if l2 < (M 21 (l5).toNat) then
            if fin (l5 + 1) then
              some (.inl (l4, (l5 + 1)))
            else none
          else
            (s_X6_isKnown_18 M l5 l3).bind fun y53 =>
              if y53 = 0 then
                if fin (l5 + 1) then
                  some (.inl (l4, (l5 + 1)))
                else none
              else
                (s_X0_debtBy M l5 l3).bind fun y65 =>
                  if fin (l4 + y65) ∧ fin (l5 + 1) then
                    some (.inl ((l4 + y65), (l5 + 1)))
                  else none
        else none
    else none
theorem s_X0_debt_b6_ok {d L : Nat} {M : fM} {l1 l2 l3 l4 l5 : Int} {r : ((Int × Int) ⊕ Int)} {Q : fO → fH → Prop} (h : s_X0_debt_b6 M l1 l2 l3 l4 l5 = some r) (hC : ∀ (l4' l5' : Int), r = .inl (l4', l5') → Wp (d + 4, 7, 6, 0, 0, [some (fA 53), some (fI l1), some (fI l2), some (fI l3), some (fI l4'), some (fI l5')], []) (156, fjl L, M) Q) (hE : ∀ (e : Int) (o0' o1' o2' o3' o5' : Option fV), r = .inr e → Wp (d + 4, 7, 77, 0, 0, [o0', o1', o2', o3', some (fI e), o5'], []) (156, fjl L, M) Q) : Wp (d + 4, 7, 6, 0, 0, [some (fA 53), some (fI l1), some (fI l2), some (fI l3), some (fI l4), some (fI l5)], []) (156, fjl L, M) Q := by
  unfold s_X0_debt_b6 at h
  refine Wp.run 4 (f' := (d + 4, 7, 15, 0, 0, [some (fA 53), some (fI l1), some (fI l2), some (fI l3), some (fI l4), some (fI l5)], [fI (M 18 8), fI l5])) (h' := (156, fjl L, M)) rfl trivial ?_
  refine Wp.br rfl (fun (c : (M 18 8) ≤ l5) => ?_) (fun (c : ¬ ((M 18 8) ≤ l5)) => ?_)
  · replace h := fps c h
    exact hE _ _ _ _ _ _ (Option.some.inj h).symm
  · replace h := fng c h
    obtain ⟨g0, h⟩ := fgd h
    refine Wp.run 6 (P := [0 ≤ l5 ∧ l5 < 200]) (f' := (d + 4, 7, 29, 0, 0, [some (fA 53), some (fI l1), some (fI l2), some (fI l3), some (fI l4), some (fI l5)], [fI l1, fI (M 20 (l5).toNat)])) (h' := (156, fjl L, M)) rfl ?_ ?_
    · exact g0
    refine Wp.br rfl (fun (c : ¬ (M 20 (l5).toNat) = l1) => ?_) (fun (c : ¬ (¬ (M 20 (l5).toNat) = l1)) => ?_)
    · replace h := fps c h
      obtain ⟨g0, h⟩ := fgd h
      refine Wp.run 2 (f' := (d + 4, 7, 6, 0, 0, [some (fA 53), some (fI l1), some (fI l2), some (fI l3), some (fI l4), some (fI (fw (l5 + 1)))], [])) (h' := (156, fjl L, M)) rfl trivial ?_
      rw [fw_id g0]
      exact hC _ _ (Option.some.inj h).symm
    · replace h := fng c h
      obtain ⟨g0, h⟩ := fgd h
      refine Wp.run 6 (P := [0 ≤ l5 ∧ l5 < 200]) (f' := (d + 4, 7, 43, 0, 0, [some (fA 53), some (fI l1), some (fI l2), some (fI l3), some (fI l4), some (fI l5)], [fI l2, fI (M 21 (l5).toNat)])) (h' := (156, fjl L, M)) rfl ?_ ?_
      · exact g0
      refine Wp.br rfl (fun (c : l2 < (M 21 (l5).toNat)) => ?_) (fun (c : ¬ (l2 < (M 21 (l5).toNat))) => ?_)
      · replace h := fps c h
        obtain ⟨g0, h⟩ := fgd h
        refine Wp.run 2 (f' := (d + 4, 7, 6, 0, 0, [some (fA 53), some (fI l1), some (fI l2), some (fI l3), some (fI l4), some (fI (fw (l5 + 1)))], [])) (h' := (156, fjl L, M)) rfl trivial ?_
        rw [fw_id g0]
        exact hC _ _ (Option.some.inj h).symm
      · replace h := fng c h
        refine Wp.run 4 (f' := (d + 4, 7, 53, 0, 0, [some (fA 53), some (fI l1), some (fI l2), some (fI l3), some (fI l4), some (fI l5)], [fI l3, fI l5, fA 18])) (h' := (156, fjl L, M)) rfl trivial ?_
        obtain ⟨y53, hy, h⟩ := fbd h
        refine Wp.call rfl (by decide) (s_X6_isKnown_18_ok (d := d + 3) hy ?_)
        show Wp (d + 4, 7, 56, 0, 0, [some (fA 53), some (fI l1), some (fI l2), some (fI l3), some (fI l4), some (fI l5)], [fI y53]) (156, fjl L, M) Q
        refine Wp.br rfl (fun (c : y53 = 0) => ?_) (fun (c : ¬ (y53 = 0)) => ?_)
        · replace h := fps c h
          obtain ⟨g0, h⟩ := fgd h
          refine Wp.run 2 (f' := (d + 4, 7, 6, 0, 0, [some (fA 53), some (fI l1), some (fI l2), some (fI l3), some (fI l4), some (fI (fw (l5 + 1)))], [])) (h' := (156, fjl L, M)) rfl trivial ?_
          rw [fw_id g0]
          exact hC _ _ (Option.some.inj h).symm
        · replace h := fng c h
          refine Wp.run 4 (f' := (d + 4, 7, 65, 0, 0, [some (fA 53), some (fI l1), some (fI l2), some (fI l3), _, some (fI l5)], [fI l3, fI l5, fA 53, fI l4])) (h' := (156, fjl L, M)) rfl trivial ?_
          obtain ⟨y65, hy, h⟩ := fbd h
          refine Wp.call rfl (by decide) (s_X0_debtBy_ok (d := d + 0) hy ?_)
          show Wp (d + 4, 7, 68, 0, 0, [some (fA 53), some (fI l1), some (fI l2), some (fI l3), _, some (fI l5)], [fI y65, fI l4]) (156, fjl L, M) Q
          obtain ⟨⟨g0, g1⟩, h⟩ := fgd h
          refine Wp.run 4 (f' := (d + 4, 7, 6, 0, 0, [some (fA 53), some (fI l1), some (fI l2), some (fI l3), some (fI (fw (l4 + y65))), some (fI (fw (l5 + 1)))], [])) (h' := (156, fjl L, M)) rfl trivial ?_
          rw [fw_id g0, fw_id g1]
          exact hC _ _ (Option.some.inj h).symm
noncomputable def s_X0_debt_l6 (M : fM) (l1 l2 l3 : Int) (s : (Int × Int)) : Option Int := fLp (fun s => s_X0_debt_b6 M l1 l2 l3 s.1 s.2) s
theorem s_X0_debt_l6_ok {d L : Nat} {M : fM} {l1 l2 l3 l4 l5 : Int} {r : Int} {Q : fO → fH → Prop} (h : s_X0_debt_l6 M l1 l2 l3 (l4, l5) = some r) (hE : ∀ (e : Int) (o0' o1' o2' o3' o5' : Option fV), r = e → Wp (d + 4, 7, 77, 0, 0, [o0', o1', o2', o3', some (fI e), o5'], []) (156, fjl L, M) Q) : Wp (d + 4, 7, 6, 0, 0, [some (fA 53), some (fI l1), some (fI l2), some (fI l3), some (fI l4), some (fI l5)], []) (156, fjl L, M) Q := by
  refine fLp_wp (W := fun s => Wp (d + 4, 7, 6, 0, 0, [some (fA 53), some (fI l1), some (fI l2), some (fI l3), some (fI s.1), some (fI s.2)], []) (156, fjl L, M) Q) (e := r) ?_ h
  intro s r1 h hC hX
  refine s_X0_debt_b6_ok (d := d) h (fun a0 a1 e1 => ?_) (fun e u0 u1 u2 u3 u4 e1 => hE e u0 u1 u2 u3 u4 (hX _ e1).symm)
  exact hC _ e1
noncomputable def s_X0_debt (M : fM) (l1 l2 l3 : Int) : Option Int :=
  (s_X0_debt_l6 M l1 l2 l3 (0, 0)).bind fun e6 =>
    some e6
theorem s_X0_debt_ok {d L : Nat} {M : fM} {l1 l2 l3 : Int} {r : Int} {Q : fO → fH → Prop} (h : s_X0_debt M l1 l2 l3 = some r) (H : Q (oI r) (156, fjl L, M)) : Wp (d + 4, 7, 0, 0, 0, [some (fA 53), some (fI l1), some (fI l2), some (fI l3), none, none], []) (156, fjl L, M) Q := by
  unfold s_X0_debt at h
  refine Wp.run 4 (f' := (d + 4, 7, 6, 0, 0, [some (fA 53), some (fI l1), some (fI l2), some (fI l3), some (fI 0), some (fI 0)], [])) (h' := (156, fjl L, M)) rfl trivial ?_
  obtain ⟨e6, hy, h⟩ := fbd h
  refine s_X0_debt_l6_ok hy (fun x u0 u1 u2 u3 u5 ex => ?_)
  cases ex
  show Wp (d + 4, 7, 77, 0, 0, [u0, u1, u2, u3, some (fI e6), u5], []) (156, fjl L, M) Q
  refine Wp.run 1 (f' := (d + 4, 7, 79, 0, 0, [_, _, _, _, _, _], [fI e6])) (h' := (156, fjl L, M)) rfl trivial ?_
  obtain rfl := Option.some.inj h
  exact Wp.done rfl (by decide) H
noncomputable def s_X11_owed (M : fM) (l1 l2 l3 : Int) : Option (Int ⊕ Unit) :=
  (s_X11_isAsked M l1 l2 l3).bind fun y4 =>
    if ¬ y4 = 0 then
      (s_X0_debt M l1 l2 l3).bind fun y25 =>
        some (.inl y25)
    else
      some (.inr ())
theorem s_X11_owed_ok {d L : Nat} {M : fM} {l1 l2 l3 : Int} {r : (Int ⊕ Unit)} {Q : fO → fH → Prop} (h : s_X11_owed M l1 l2 l3 = some r) (H : Q (oT oI 0 r) (156, fjl L, M)) : Wp (d + 7, 179, 0, 0, 0, [some (fA 0), some (fI l1), some (fI l2), some (fI l3)], []) (156, fjl L, M) Q := by
  unfold s_X11_owed at h
  refine Wp.run 4 (f' := (d + 7, 179, 4, 0, 0, [some (fA 0), some (fI l1), some (fI l2), some (fI l3)], [fI l3, fI l2, fI l1, fA 0])) (h' := (156, fjl L, M)) rfl trivial ?_
  obtain ⟨y4, hy, h⟩ := fbd h
  refine Wp.call rfl (by decide) (s_X11_isAsked_ok (d := d + 4) hy ?_)
  show Wp (d + 7, 179, 7, 0, 0, [some (fA 0), some (fI l1), some (fI l2), some (fI l3)], [fI y4]) (156, fjl L, M) Q
  refine Wp.br rfl (fun (c : ¬ y4 = 0) => ?_) (fun (c : ¬ (¬ y4 = 0)) => ?_)
  · replace h := fps c h
    refine Wp.run 5 (f' := (d + 7, 179, 25, 0, 0, [_, _, _, _], [fI l3, fI l2, fI l1, fA 53])) (h' := (156, fjl L, M)) rfl trivial ?_
    obtain ⟨y25, hy, h⟩ := fbd h
    refine Wp.call rfl (by decide) (s_X0_debt_ok (d := d + 2) hy ?_)
    show Wp (d + 7, 179, 28, 0, 0, [_, _, _, _], [fI y25]) (156, fjl L, M) Q
    obtain rfl := Option.some.inj h
    exact Wp.done rfl (by decide) H
  · replace h := fng c h
    obtain rfl := Option.some.inj h
    exact Wp.done rfl ⟨Nat.le_add_left_of_le (by decide), rfl, rfl⟩ H
abbrev s_L_owed_0_155_mods : List (Nat × Option Nat) := [(155, none)]
noncomputable def s_L_owed_0_155 (M : fM) (l1 l2 l3 : Int) : Option (Int × fM) :=
  (s_X11_owed M l1 l2 l3).bind fun y7 =>
    fel y7
      (fun w7 =>
        some (0, (fup M 155 0 w7)))
      (some (1, M))
theorem s_L_owed_0_155_ok {d L : Nat} {M : fM} {l1 l2 l3 : Int} {r : (Int × fM)} {Q : fO → fH → Prop} (h : s_L_owed_0_155 M l1 l2 l3 = some r) (H : Q (oI r.1) (156, fjl L, r.2)) : Wp (d + 8, 321, 0, 0, 0, [some (fA 0), some (fI l1), some (fI l2), some (fI l3), some (fA 155), none], []) (156, fjl L, M) Q := by
  unfold s_L_owed_0_155 at h
  refine Wp.run 6 (f' := (d + 8, 321, 7, 0, 0, [_, _, _, _, _, _], [fI l3, fI l2, fI l1, fA 0, fI 0, fA 155])) (h' := (156, fjl L, M)) rfl trivial ?_
  obtain ⟨y7, hy, h⟩ := fbd h
  refine Wp.call rfl (by decide) (s_X11_owed_ok (d := d + 0) hy ?_)
  obtain ⟨w7, ew, h⟩ | ⟨ew, h⟩ := fel_of h
  · rw [ew]
    show Wp (d + 8, 321, 10, 0, 0, [_, _, _, _, _, _], [fI w7, fI 0, fA 155]) (156, fjl L, M) Q
    refine Wp.run 4 (P := [(0 : Int) ≤ 0 ∧ (0 : Int) < 1]) (f' := (d + 8, 321, 20, 0, 0, [_, _, _, _, _, _], [fI 0])) (h' := (156, fjl L, (fup M 155 0 w7))) rfl ?_ ?_
    · exact (by decide : (0 : Int) ≤ 0 ∧ (0 : Int) < 1)
    obtain rfl := Option.some.inj h
    exact Wp.done rfl (by decide) H
  · rw [ew]
    refine ⟨⟨rfl, by decide, by decide⟩, ?_⟩
    show Wp (d + 8, 321, 15, 1, 6, [_, _, _, _, _, _], [fA 9999]) (156, fjl L, M) Q
    refine Wp.run 2 (f' := (d + 8, 321, 18, 1, 6, [_, _, _, _, _, _], [fI 1])) (h' := (156, fjl L, M)) rfl trivial ?_
    obtain rfl := Option.some.inj h
    exact Wp.done rfl (by decide) H
theorem s_L_owed_0_155_fr {M : fM} {l1 l2 l3 : Int} {r : (Int × fM)} (h : s_L_owed_0_155 M l1 l2 l3 = some r) : fSame s_L_owed_0_155_mods M r.2 := by
  unfold s_L_owed_0_155 at h
  obtain ⟨y7, hy, h⟩ := fbd h
  obtain ⟨w7, ew, h⟩ | ⟨ew, h⟩ := fel_of h
  · obtain rfl := Option.some.inj h
    exact fs_up fs_refl (.inl (by decide))
  · obtain rfl := Option.some.inj h
    exact fs_refl
noncomputable def s_X12_isFree (M : fM) (l1 l2 : Int) : Option Int :=
  if fin (19 * l1) ∧ fin ((19 * l1) + 1) ∧ (0 ≤ ((19 * l1) + 1) ∧ ((19 * l1) + 1) < 3800) ∧ fin ((19 * l1) + 2) ∧ (0 ≤ ((19 * l1) + 2) ∧ ((19 * l1) + 2) < 3800) then
    if (M 124 166) ≤ 0 then
      some 0
    else
      if fin ((M 125 ((19 * l1) + 2).toNat) - (M 124 166)) ∧ fin ((M 125 ((19 * l1) + 2).toNat) - 1) then
        (s_X12_isTunedIn M (M 125 ((19 * l1) + 1).toNat) ((M 125 ((19 * l1) + 2).toNat) - (M 124 166)) ((M 125 ((19 * l1) + 2).toNat) - 1) l2).bind fun y54 =>
          if y54 = 0 then
            some 0
          else
            some 1
      else none
  else none
theorem s_X12_isFree_ok {d L : Nat} {M : fM} {l1 l2 : Int} {r : Int} {Q : fO → fH → Prop} (h : s_X12_isFree M l1 l2 = some r) (H : Q (oI r) (156, fjl L, M)) : Wp (d + 2, 299, 0, 0, 0, [some (fA 122), some (fI l1), some (fI l2), none, none], []) (156, fjl L, M) Q := by
  unfold s_X12_isFree at h
  obtain ⟨⟨g0, g1, g2, g3, g4⟩, h⟩ := fgd h
  refine Wp.run 18 (P := [0 ≤ (fw ((fw (19 * l1)) + 1)) ∧ (fw ((fw (19 * l1)) + 1)) < 3800, 0 ≤ (fw ((fw (19 * l1)) + 2)) ∧ (fw ((fw (19 * l1)) + 2)) < 3800]) (f' := (d + 2, 299, 25, 0, 0, [some (fA 122), _, some (fI l2), some (fI (M 125 (fw ((fw (19 * l1)) + 1)).toNat)), some (fI (M 125 (fw ((fw (19 * l1)) + 2)).toNat))], [])) (h' := (156, fjl L, M)) rfl ?_ ?_
  · rw [fw_id g0, fw_id g1, fw_id g3]; exact ⟨g2, g4⟩
  rw [fw_id g0, fw_id g1, fw_id g3]
  refine Wp.run 4 (P := [(0 : Int) ≤ 166 ∧ (166 : Int) < 1290]) (f' := (d + 2, 299, 33, 0, 0, [some (fA 122), _, some (fI l2), some (fI (M 125 ((19 * l1) + 1).toNat)), some (fI (M 125 ((19 * l1) + 2).toNat))], [fI (M 124 166)])) (h' := (156, fjl L, M)) rfl ?_ ?_
  · exact (by decide : (0 : Int) ≤ 166 ∧ (166 : Int) < 1290)
  refine Wp.br rfl (fun (c : (M 124 166) ≤ 0) => ?_) (fun (c : ¬ ((M 124 166) ≤ 0)) => ?_)
  · replace h := fps c h
    refine Wp.run 1 (f' := (d + 2, 299, 65, 0, 0, [_, _, _, _, _], [fI 0])) (h' := (156, fjl L, M)) rfl trivial ?_
    obtain rfl := Option.some.inj h
    exact Wp.done rfl (by decide) H
  · replace h := fng c h
    obtain ⟨⟨g0, g1⟩, h⟩ := fgd h
    refine Wp.run 12 (P := [(0 : Int) ≤ 166 ∧ (166 : Int) < 1290]) (f' := (d + 2, 299, 54, 0, 0, [_, _, _, _, _], [fI l2, fI (fw ((M 125 ((19 * l1) + 2).toNat) - 1)), fI (fw ((M 125 ((19 * l1) + 2).toNat) - (M 124 166))), fI (M 125 ((19 * l1) + 1).toNat), fA 122])) (h' := (156, fjl L, M)) rfl ?_ ?_
    · exact (by decide : (0 : Int) ≤ 166 ∧ (166 : Int) < 1290)
    rw [fw_id g0, fw_id g1]
    obtain ⟨y54, hy, h⟩ := fbd h
    refine Wp.call rfl (by decide) (s_X12_isTunedIn_ok (d := d + 0) hy ?_)
    show Wp (d + 2, 299, 57, 0, 0, [_, _, _, _, _], [fI y54]) (156, fjl L, M) Q
    refine Wp.br rfl (fun (c : y54 = 0) => ?_) (fun (c : ¬ (y54 = 0)) => ?_)
    · replace h := fps c h
      refine Wp.run 1 (f' := (d + 2, 299, 65, 0, 0, [_, _, _, _, _], [fI 0])) (h' := (156, fjl L, M)) rfl trivial ?_
      obtain rfl := Option.some.inj h
      exact Wp.done rfl (by decide) H
    · replace h := fng c h
      refine Wp.run 2 (f' := (d + 2, 299, 65, 0, 0, [_, _, _, _, _], [fI 1])) (h' := (156, fjl L, M)) rfl trivial ?_
      obtain rfl := Option.some.inj h
      exact Wp.done rfl (by decide) H
abbrev s_X12_owed_mods : List (Nat × Option Nat) := [(122, some 0)]
noncomputable def s_X12_owed_j131 (M : fM) (l1 l2 l3 l5 t0 t1 : Int) : Option ((Int × Int) ⊕ Int) :=
  if fin (t0 - t1) then
    (s_X12_isOf M l5 4 l1 l2 l3).bind fun y143 =>
      if y143 = 0 then
        if fin ((t0 - t1) - 0) ∧ fin (l5 + 1) then
          some (.inl (((t0 - t1) - 0), (l5 + 1)))
        else none
      else
        if fin ((t0 - t1) - (M 124 167)) ∧ fin (l5 + 1) then
          some (.inl (((t0 - t1) - (M 124 167)), (l5 + 1)))
        else none
  else none
theorem s_X12_owed_j131_ok {d L : Nat} {M : fM} {l1 l2 l3 l5 t0 t1 : Int} {o4 : Option fV} {r : ((Int × Int) ⊕ Int)} {Q : fO → fH → Prop} (h : s_X12_owed_j131 M l1 l2 l3 l5 t0 t1 = some r) (hC : ∀ (l4' l5' : Int), r = .inl (l4', l5') → Wp (d + 3, 300, 42, 0, 0, [some (fA 122), some (fI l1), some (fI l2), some (fI l3), some (fI l4'), some (fI l5')], []) (156, fjl L, M) Q) (hE : ∀ (e : Int) (o0' o1' o2' o3' o5' : Option fV), r = .inr e → Wp (d + 3, 300, 170, 0, 0, [o0', o1', o2', o3', some (fI e), o5'], []) (156, fjl L, M) Q) : Wp (d + 3, 300, 131, 0, 0, [some (fA 122), some (fI l1), some (fI l2), some (fI l3), o4, some (fI l5)], [fI t1, fI t0]) (156, fjl L, M) Q := by
  unfold s_X12_owed_j131 at h
  obtain ⟨g0, h⟩ := fgd h
  refine Wp.run 9 (f' := (d + 3, 300, 143, 0, 0, [some (fA 122), some (fI l1), some (fI l2), some (fI l3), _, some (fI l5)], [fI l3, fI l2, fI l1, fI 4, fI l5, fA 122, fI (fw (t0 - t1))])) (h' := (156, fjl L, M)) rfl trivial ?_
  rw [fw_id g0]
  obtain ⟨y143, hy, h⟩ := fbd h
  refine Wp.call rfl (by decide) (s_X12_isOf_ok (d := d + 2) hy ?_)
  show Wp (d + 3, 300, 146, 0, 0, [some (fA 122), some (fI l1), some (fI l2), some (fI l3), _, some (fI l5)], [fI y143, fI (t0 - t1)]) (156, fjl L, M) Q
  refine Wp.br rfl (fun (c : y143 = 0) => ?_) (fun (c : ¬ (y143 = 0)) => ?_)
  · replace h := fps c h
    obtain ⟨⟨g0, g1⟩, h⟩ := fgd h
    refine Wp.run 5 (f' := (d + 3, 300, 42, 0, 0, [some (fA 122), some (fI l1), some (fI l2), some (fI l3), some (fI (fw ((t0 - t1) - 0))), some (fI (fw (l5 + 1)))], [])) (h' := (156, fjl L, M)) rfl trivial ?_
    rw [fw_id g0, fw_id g1]
    exact hC _ _ (Option.some.inj h).symm
  · replace h := fng c h
    obtain ⟨⟨g0, g1⟩, h⟩ := fgd h
    refine Wp.run 9 (P := [(0 : Int) ≤ 167 ∧ (167 : Int) < 1290]) (f' := (d + 3, 300, 42, 0, 0, [some (fA 122), some (fI l1), some (fI l2), some (fI l3), some (fI (fw ((t0 - t1) - (M 124 167)))), some (fI (fw (l5 + 1)))], [])) (h' := (156, fjl L, M)) rfl ?_ ?_
    · exact (by decide : (0 : Int) ≤ 167 ∧ (167 : Int) < 1290)
    rw [fw_id g0, fw_id g1]
    exact hC _ _ (Option.some.inj h).symm
theorem s_X12_owed_j131_fr {M : fM} {l1 l2 l3 l5 t0 t1 : Int} {r : ((Int × Int) ⊕ Int)} (h : s_X12_owed_j131 M l1 l2 l3 l5 t0 t1 = some r) : fSame s_X12_owed_mods M (Sum.elim (fun _ => M) (fun _ => M) r) := by
  unfold s_X12_owed_j131 at h
  replace h := (fgd h).2
  obtain ⟨y143, hy, h⟩ := fbd h
  by_cases c : y143 = 0
  · replace h := fps c h
    replace h := (fgd h).2
    obtain rfl := Option.some.inj h
    exact fs_refl
  · replace h := fng c h
    replace h := (fgd h).2
    obtain rfl := Option.some.inj h
    exact fs_refl
noncomputable def s_X12_owed_j97 (M : fM) (l1 l2 l3 l5 t0 t1 : Int) : Option ((Int × Int) ⊕ Int) :=
  if fin (t0 + t1) then
    (s_X12_isOf M l5 3 l1 l2 l3).bind fun y109 =>
      if y109 = 0 then
        s_X12_owed_j131 M l1 l2 l3 l5 (t0 + t1) 0
      else
        if fin (19 * l5) ∧ fin ((19 * l5) + 4) ∧ (0 ≤ ((19 * l5) + 4) ∧ ((19 * l5) + 4) < 3800) then
          s_X12_owed_j131 M l1 l2 l3 l5 (t0 + t1) (M 125 ((19 * l5) + 4).toNat)
        else none
  else none
theorem s_X12_owed_j97_ok {d L : Nat} {M : fM} {l1 l2 l3 l5 t0 t1 : Int} {o4 : Option fV} {r : ((Int × Int) ⊕ Int)} {Q : fO → fH → Prop} (h : s_X12_owed_j97 M l1 l2 l3 l5 t0 t1 = some r) (hC : ∀ (l4' l5' : Int), r = .inl (l4', l5') → Wp (d + 3, 300, 42, 0, 0, [some (fA 122), some (fI l1), some (fI l2), some (fI l3), some (fI l4'), some (fI l5')], []) (156, fjl L, M) Q) (hE : ∀ (e : Int) (o0' o1' o2' o3' o5' : Option fV), r = .inr e → Wp (d + 3, 300, 170, 0, 0, [o0', o1', o2', o3', some (fI e), o5'], []) (156, fjl L, M) Q) : Wp (d + 3, 300, 97, 0, 0, [some (fA 122), some (fI l1), some (fI l2), some (fI l3), o4, some (fI l5)], [fI t1, fI t0]) (156, fjl L, M) Q := by
  unfold s_X12_owed_j97 at h
  obtain ⟨g0, h⟩ := fgd h
  refine Wp.run 9 (f' := (d + 3, 300, 109, 0, 0, [some (fA 122), some (fI l1), some (fI l2), some (fI l3), _, some (fI l5)], [fI l3, fI l2, fI l1, fI 3, fI l5, fA 122, fI (fw (t0 + t1))])) (h' := (156, fjl L, M)) rfl trivial ?_
  rw [fw_id g0]
  obtain ⟨y109, hy, h⟩ := fbd h
  refine Wp.call rfl (by decide) (s_X12_isOf_ok (d := d + 2) hy ?_)
  show Wp (d + 3, 300, 112, 0, 0, [some (fA 122), some (fI l1), some (fI l2), some (fI l3), _, some (fI l5)], [fI y109, fI (t0 + t1)]) (156, fjl L, M) Q
  refine Wp.br rfl (fun (c : y109 = 0) => ?_) (fun (c : ¬ (y109 = 0)) => ?_)
  · replace h := fps c h
    refine Wp.run 1 (f' := (d + 3, 300, 131, 0, 0, [some (fA 122), some (fI l1), some (fI l2), some (fI l3), _, some (fI l5)], [fI 0, fI (t0 + t1)])) (h' := (156, fjl L, M)) rfl trivial ?_
    exact s_X12_owed_j131_ok h hC hE
  · replace h := fng c h
    obtain ⟨⟨g0, g1, g2⟩, h⟩ := fgd h
    refine Wp.run 9 (P := [0 ≤ (fw ((fw (19 * l5)) + 4)) ∧ (fw ((fw (19 * l5)) + 4)) < 3800]) (f' := (d + 3, 300, 131, 0, 0, [some (fA 122), some (fI l1), some (fI l2), some (fI l3), _, some (fI l5)], [fI (M 125 (fw ((fw (19 * l5)) + 4)).toNat), fI (t0 + t1)])) (h' := (156, fjl L, M)) rfl ?_ ?_
    · rw [fw_id g0, fw_id g1]; exact g2
    rw [fw_id g0, fw_id g1]
    exact s_X12_owed_j131_ok h hC hE
theorem s_X12_owed_j97_fr {M : fM} {l1 l2 l3 l5 t0 t1 : Int} {r : ((Int × Int) ⊕ Int)} (h : s_X12_owed_j97 M l1 l2 l3 l5 t0 t1 = some r) : fSame s_X12_owed_mods M (Sum.elim (fun _ => M) (fun _ => M) r) := by
  unfold s_X12_owed_j97 at h
  replace h := (fgd h).2
  obtain ⟨y109, hy, h⟩ := fbd h
  by_cases c : y109 = 0
  · replace h := fps c h
    exact fs_trans fs_refl (s_X12_owed_j131_fr h)
  · replace h := fng c h
    replace h := (fgd h).2
    exact fs_trans fs_refl (s_X12_owed_j131_fr h)
noncomputable def s_X12_owed_j96 (M : fM) (l1 l2 l3 l5 t0 : Int) : Option ((Int × Int) ⊕ Int) :=
  s_X12_owed_j97 M l1 l2 l3 l5 t0 0
theorem s_X12_owed_j96_ok {d L : Nat} {M : fM} {l1 l2 l3 l5 t0 : Int} {o4 : Option fV} {r : ((Int × Int) ⊕ Int)} {Q : fO → fH → Prop} (h : s_X12_owed_j96 M l1 l2 l3 l5 t0 = some r) (hC : ∀ (l4' l5' : Int), r = .inl (l4', l5') → Wp (d + 3, 300, 42, 0, 0, [some (fA 122), some (fI l1), some (fI l2), some (fI l3), some (fI l4'), some (fI l5')], []) (156, fjl L, M) Q) (hE : ∀ (e : Int) (o0' o1' o2' o3' o5' : Option fV), r = .inr e → Wp (d + 3, 300, 170, 0, 0, [o0', o1', o2', o3', some (fI e), o5'], []) (156, fjl L, M) Q) : Wp (d + 3, 300, 96, 0, 0, [some (fA 122), some (fI l1), some (fI l2), some (fI l3), o4, some (fI l5)], [fI t0]) (156, fjl L, M) Q := by
  unfold s_X12_owed_j96 at h
  refine Wp.run 1 (f' := (d + 3, 300, 97, 0, 0, [some (fA 122), some (fI l1), some (fI l2), some (fI l3), _, some (fI l5)], [fI 0, fI t0])) (h' := (156, fjl L, M)) rfl trivial ?_
  exact s_X12_owed_j97_ok h hC hE
theorem s_X12_owed_j96_fr {M : fM} {l1 l2 l3 l5 t0 : Int} {r : ((Int × Int) ⊕ Int)} (h : s_X12_owed_j96 M l1 l2 l3 l5 t0 = some r) : fSame s_X12_owed_mods M (Sum.elim (fun _ => M) (fun _ => M) r) := by
  unfold s_X12_owed_j96 at h
  exact fs_trans fs_refl (s_X12_owed_j97_fr h)
noncomputable def s_X12_owed_b42 (M : fM) (l1 l2 l3 l4 l5 : Int) : Option ((Int × Int) ⊕ Int) :=
  if (M 122 10) ≤ l5 then
    some (.inr l4)
  else
    (s_X12_isOf M l5 0 l1 l2 l3).bind fun y60 =>
      if y60 = 0 then
        s_X12_owed_j96 M l1 l2 l3 l5 l4
      else
        (s_X12_isFree M l5 l3).bind fun y70 =>
          if ¬ y70 = 0 then
            s_X12_owed_j96 M l1 l2 l3 l5 l4
          else
            if fin (19 * l5) ∧ fin ((19 * l5) + 2) ∧ (0 ≤ ((19 * l5) + 2) ∧ ((19 * l5) + 2) < 3800) then
              (s_X12_feeOf M l1 (M 125 ((19 * l5) + 2).toNat)).bind fun y90 =>
                s_X12_owed_j97 M l1 l2 l3 l5 l4 y90
            else none
theorem s_X12_owed_b42_ok {d L : Nat} {M : fM} {l1 l2 l3 l4 l5 : Int} {r : ((Int × Int) ⊕ Int)} {Q : fO → fH → Prop} (h : s_X12_owed_b42 M l1 l2 l3 l4 l5 = some r) (hC : ∀ (l4' l5' : Int), r = .inl (l4', l5') → Wp (d + 3, 300, 42, 0, 0, [some (fA 122), some (fI l1), some (fI l2), some (fI l3), some (fI l4'), some (fI l5')], []) (156, fjl L, M) Q) (hE : ∀ (e : Int) (o0' o1' o2' o3' o5' : Option fV), r = .inr e → Wp (d + 3, 300, 170, 0, 0, [o0', o1', o2', o3', some (fI e), o5'], []) (156, fjl L, M) Q) : Wp (d + 3, 300, 42, 0, 0, [some (fA 122), some (fI l1), some (fI l2), some (fI l3), some (fI l4), some (fI l5)], []) (156, fjl L, M) Q := by
  unfold s_X12_owed_b42 at h
  refine Wp.run 3 (f' := (d + 3, 300, 48, 0, 0, [some (fA 122), some (fI l1), some (fI l2), some (fI l3), some (fI l4), some (fI l5)], [fI (M 122 10), fI l5])) (h' := (156, fjl L, M)) rfl trivial ?_
  refine Wp.br rfl (fun (c : (M 122 10) ≤ l5) => ?_) (fun (c : ¬ ((M 122 10) ≤ l5)) => ?_)
  · replace h := fps c h
    exact hE _ _ _ _ _ _ (Option.some.inj h).symm
  · replace h := fng c h
    refine Wp.run 7 (f' := (d + 3, 300, 60, 0, 0, [some (fA 122), some (fI l1), some (fI l2), some (fI l3), _, some (fI l5)], [fI l3, fI l2, fI l1, fI 0, fI l5, fA 122, fI l4])) (h' := (156, fjl L, M)) rfl trivial ?_
    obtain ⟨y60, hy, h⟩ := fbd h
    refine Wp.call rfl (by decide) (s_X12_isOf_ok (d := d + 2) hy ?_)
    show Wp (d + 3, 300, 63, 0, 0, [some (fA 122), some (fI l1), some (fI l2), some (fI l3), _, some (fI l5)], [fI y60, fI l4]) (156, fjl L, M) Q
    refine Wp.br rfl (fun (c : y60 = 0) => ?_) (fun (c : ¬ (y60 = 0)) => ?_)
    · replace h := fps c h
      exact s_X12_owed_j96_ok h hC hE
    · replace h := fng c h
      refine Wp.run 3 (f' := (d + 3, 300, 70, 0, 0, [some (fA 122), some (fI l1), some (fI l2), some (fI l3), _, some (fI l5)], [fI l3, fI l5, fA 122, fI l4])) (h' := (156, fjl L, M)) rfl trivial ?_
      obtain ⟨y70, hy, h⟩ := fbd h
      refine Wp.call rfl (by decide) (s_X12_isFree_ok (d := d + 0) hy ?_)
      show Wp (d + 3, 300, 73, 0, 0, [some (fA 122), some (fI l1), some (fI l2), some (fI l3), _, some (fI l5)], [fI y70, fI l4]) (156, fjl L, M) Q
      refine Wp.br rfl (fun (c : ¬ y70 = 0) => ?_) (fun (c : ¬ (¬ y70 = 0)) => ?_)
      · replace h := fps c h
        exact s_X12_owed_j96_ok h hC hE
      · replace h := fng c h
        obtain ⟨⟨g0, g1, g2⟩, h⟩ := fgd h
        refine Wp.run 10 (P := [0 ≤ (fw ((fw (19 * l5)) + 2)) ∧ (fw ((fw (19 * l5)) + 2)) < 3800]) (f' := (d + 3, 300, 90, 0, 0, [some (fA 122), some (fI l1), some (fI l2), some (fI l3), _, some (fI l5)], [fI (M 125 (fw ((fw (19 * l5)) + 2)).toNat), fI l1, fA 122, fI l4])) (h' := (156, fjl L, M)) rfl ?_ ?_
        · rw [fw_id g0, fw_id g1]; exact g2
        rw [fw_id g0, fw_id g1]
        obtain ⟨y90, hy, h⟩ := fbd h
        refine Wp.call rfl (by decide) (s_X12_feeOf_ok (d := d + 1) hy ?_)
        show Wp (d + 3, 300, 93, 0, 0, [some (fA 122), some (fI l1), some (fI l2), some (fI l3), _, some (fI l5)], [fI y90, fI l4]) (156, fjl L, M) Q
        refine Wp.run 1 (f' := (d + 3, 300, 97, 0, 0, [some (fA 122), some (fI l1), some (fI l2), some (fI l3), _, some (fI l5)], [fI y90, fI l4])) (h' := (156, fjl L, M)) rfl trivial ?_
        exact s_X12_owed_j97_ok h hC hE
theorem s_X12_owed_b42_fr {M : fM} {l1 l2 l3 l4 l5 : Int} {r : ((Int × Int) ⊕ Int)} (h : s_X12_owed_b42 M l1 l2 l3 l4 l5 = some r) : fSame s_X12_owed_mods M (Sum.elim (fun _ => M) (fun _ => M) r) := by
  unfold s_X12_owed_b42 at h
  by_cases c : (M 122 10) ≤ l5
  · replace h := fps c h
    obtain rfl := Option.some.inj h
    exact fs_refl
  · replace h := fng c h
    obtain ⟨y60, hy, h⟩ := fbd h
    by_cases c : y60 = 0
    · replace h := fps c h
      exact fs_trans fs_refl (s_X12_owed_j96_fr h)
    · replace h := fng c h
      obtain ⟨y70, hy, h⟩ := fbd h
      by_cases c : ¬ y70 = 0
      · replace h := fps c h
        exact fs_trans fs_refl (s_X12_owed_j96_fr h)
      · replace h := fng c h
        replace h := (fgd h).2
        obtain ⟨y90, hy, h⟩ := fbd h
        exact fs_trans fs_refl (s_X12_owed_j97_fr h)
noncomputable def s_X12_owed_l42 (M : fM) (l1 l2 l3 : Int) (s : (Int × Int)) : Option Int := fLp (fun s => s_X12_owed_b42 M l1 l2 l3 s.1 s.2) s
theorem s_X12_owed_l42_ok {d L : Nat} {M : fM} {l1 l2 l3 l4 l5 : Int} {r : Int} {Q : fO → fH → Prop} (h : s_X12_owed_l42 M l1 l2 l3 (l4, l5) = some r) (hE : ∀ (e : Int) (o0' o1' o2' o3' o5' : Option fV), r = e → Wp (d + 3, 300, 170, 0, 0, [o0', o1', o2', o3', some (fI e), o5'], []) (156, fjl L, M) Q) : Wp (d + 3, 300, 42, 0, 0, [some (fA 122), some (fI l1), some (fI l2), some (fI l3), some (fI l4), some (fI l5)], []) (156, fjl L, M) Q := by
  refine fLp_wp (W := fun s => Wp (d + 3, 300, 42, 0, 0, [some (fA 122), some (fI l1), some (fI l2), some (fI l3), some (fI s.1), some (fI s.2)], []) (156, fjl L, M) Q) (e := r) ?_ h
  intro s r1 h hC hX
  refine s_X12_owed_b42_ok (d := d) h (fun a0 a1 e1 => ?_) (fun e u0 u1 u2 u3 u4 e1 => hE e u0 u1 u2 u3 u4 (hX _ e1).symm)
  exact hC _ e1
noncomputable def s_X12_owed_j28 (M : fM) (l1 l2 l3 t1 : Int) : Option (Int × fM) :=
  (s_X12_throwsIf M t1).bind fun y28 =>
    if y28.1 = 0 then
      (s_X12_owed_l42 y28.2 l1 l2 l3 (0, 0)).bind fun e42 =>
        some (e42, y28.2)
    else
      some (0, y28.2)
theorem s_X12_owed_j28_ok {d L : Nat} {M : fM} {l1 l2 l3 t1 : Int} {o4 o5 : Option fV} {r : (Int × fM)} {Q : fO → fH → Prop} (h : s_X12_owed_j28 M l1 l2 l3 t1 = some r) (H : Q (oI r.1) (156, fjl L, r.2)) : Wp (d + 3, 300, 28, 0, 0, [some (fA 122), some (fI l1), some (fI l2), some (fI l3), o4, o5], [fI t1, fA 122]) (156, fjl L, M) Q := by
  unfold s_X12_owed_j28 at h
  obtain ⟨y28, hy, h⟩ := fbd h
  refine Wp.call rfl (by decide) (s_X12_throwsIf_ok (d := d + 2) hy ?_)
  show Wp (d + 3, 300, 31, 0, 0, [some (fA 122), some (fI l1), some (fI l2), some (fI l3), _, _], [fI y28.1]) (156, fjl L, y28.2) Q
  refine Wp.br rfl (fun (c : y28.1 = 0) => ?_) (fun (c : ¬ (y28.1 = 0)) => ?_)
  · replace h := fps c h
    refine Wp.run 4 (f' := (d + 3, 300, 42, 0, 0, [some (fA 122), some (fI l1), some (fI l2), some (fI l3), some (fI 0), some (fI 0)], [])) (h' := (156, fjl L, y28.2)) rfl trivial ?_
    obtain ⟨e42, hy, h⟩ := fbd h
    refine s_X12_owed_l42_ok hy (fun x u0 u1 u2 u3 u5 ex => ?_)
    cases ex
    show Wp (d + 3, 300, 170, 0, 0, [u0, u1, u2, u3, some (fI e42), u5], []) (156, fjl L, y28.2) Q
    refine Wp.run 1 (f' := (d + 3, 300, 172, 0, 0, [_, _, _, _, _, _], [fI e42])) (h' := (156, fjl L, y28.2)) rfl trivial ?_
    obtain rfl := Option.some.inj h
    exact Wp.done rfl (by decide) H
  · replace h := fng c h
    refine Wp.run 1 (f' := (d + 3, 300, 35, 0, 0, [_, _, _, _, _, _], [fI 0])) (h' := (156, fjl L, y28.2)) rfl trivial ?_
    obtain rfl := Option.some.inj h
    exact Wp.done rfl (by decide) H
theorem s_X12_owed_j28_fr {M : fM} {l1 l2 l3 t1 : Int} {r : (Int × fM)} (h : s_X12_owed_j28 M l1 l2 l3 t1 = some r) : fSame s_X12_owed_mods M r.2 := by
  unfold s_X12_owed_j28 at h
  obtain ⟨y28, hy, h⟩ := fbd h
  have k28 := fs_trans (l := s_X12_owed_mods) fs_refl (fs_mono (l := s_X12_throwsIf_mods) (by decide) (s_X12_throwsIf_fr hy))
  by_cases c : y28.1 = 0
  · replace h := fps c h
    obtain ⟨e42, hy, h⟩ := fbd h
    obtain rfl := Option.some.inj h
    exact k28
  · replace h := fng c h
    obtain rfl := Option.some.inj h
    exact k28
noncomputable def s_X12_owed_j23 (M : fM) (l1 l2 l3 : Int) : Option (Int × fM) :=
  s_X12_owed_j28 M l1 l2 l3 1
theorem s_X12_owed_j23_ok {d L : Nat} {M : fM} {l1 l2 l3 : Int} {o4 o5 : Option fV} {r : (Int × fM)} {Q : fO → fH → Prop} (h : s_X12_owed_j23 M l1 l2 l3 = some r) (H : Q (oI r.1) (156, fjl L, r.2)) : Wp (d + 3, 300, 23, 0, 0, [some (fA 122), some (fI l1), some (fI l2), some (fI l3), o4, o5], [fA 122]) (156, fjl L, M) Q := by
  unfold s_X12_owed_j23 at h
  refine Wp.run 2 (f' := (d + 3, 300, 28, 0, 0, [some (fA 122), some (fI l1), some (fI l2), some (fI l3), _, _], [fI 1, fA 122])) (h' := (156, fjl L, M)) rfl trivial ?_
  exact s_X12_owed_j28_ok h H
theorem s_X12_owed_j23_fr {M : fM} {l1 l2 l3 : Int} {r : (Int × fM)} (h : s_X12_owed_j23 M l1 l2 l3 = some r) : fSame s_X12_owed_mods M r.2 := by
  unfold s_X12_owed_j23 at h
  exact fs_trans fs_refl (s_X12_owed_j28_fr h)
noncomputable def s_X12_owed (M : fM) (l1 l2 l3 : Int) : Option (Int × fM) :=
  (s_X12_isPiano M l1).bind fun y3 =>
    if y3 = 0 then
      s_X12_owed_j23 M l1 l2 l3
    else
      (s_X12_isDay M l2).bind fun y10 =>
        if y10 = 0 then
          s_X12_owed_j23 M l1 l2 l3
        else
          (s_X12_isKnown M l3).bind fun y17 =>
            if ¬ y17 = 0 then
              s_X12_owed_j28 M l1 l2 l3 0
            else
              s_X12_owed_j23 M l1 l2 l3
theorem s_X12_owed_ok {d L : Nat} {M : fM} {l1 l2 l3 : Int} {r : (Int × fM)} {Q : fO → fH → Prop} (h : s_X12_owed M l1 l2 l3 = some r) (H : Q (oI r.1) (156, fjl L, r.2)) : Wp (d + 3, 300, 0, 0, 0, [some (fA 122), some (fI l1), some (fI l2), some (fI l3), none, none], []) (156, fjl L, M) Q := by
  unfold s_X12_owed at h
  refine Wp.run 3 (f' := (d + 3, 300, 3, 0, 0, [some (fA 122), some (fI l1), some (fI l2), some (fI l3), _, _], [fI l1, fA 122, fA 122])) (h' := (156, fjl L, M)) rfl trivial ?_
  obtain ⟨y3, hy, h⟩ := fbd h
  refine Wp.call rfl (by decide) (s_X12_isPiano_ok (d := d + 1) hy ?_)
  show Wp (d + 3, 300, 6, 0, 0, [some (fA 122), some (fI l1), some (fI l2), some (fI l3), _, _], [fI y3, fA 122]) (156, fjl L, M) Q
  refine Wp.br rfl (fun (c : y3 = 0) => ?_) (fun (c : ¬ (y3 = 0)) => ?_)
  · replace h := fps c h
    exact s_X12_owed_j23_ok h H
  · replace h := fng c h
    refine Wp.run 1 (f' := (d + 3, 300, 10, 0, 0, [some (fA 122), some (fI l1), some (fI l2), some (fI l3), _, _], [fI l2, fA 122])) (h' := (156, fjl L, M)) rfl trivial ?_
    obtain ⟨y10, hy, h⟩ := fbd h
    refine Wp.call rfl (by decide) (s_X12_isDay_ok (d := d + 1) hy ?_)
    show Wp (d + 3, 300, 13, 0, 0, [some (fA 122), some (fI l1), some (fI l2), some (fI l3), _, _], [fI y10, fA 122]) (156, fjl L, M) Q
    refine Wp.br rfl (fun (c : y10 = 0) => ?_) (fun (c : ¬ (y10 = 0)) => ?_)
    · replace h := fps c h
      exact s_X12_owed_j23_ok h H
    · replace h := fng c h
      refine Wp.run 1 (f' := (d + 3, 300, 17, 0, 0, [some (fA 122), some (fI l1), some (fI l2), some (fI l3), _, _], [fI l3, fA 122])) (h' := (156, fjl L, M)) rfl trivial ?_
      obtain ⟨y17, hy, h⟩ := fbd h
      refine Wp.call rfl (by decide) (s_X12_isKnown_ok (d := d + 1) hy ?_)
      show Wp (d + 3, 300, 20, 0, 0, [some (fA 122), some (fI l1), some (fI l2), some (fI l3), _, _], [fI y17, fA 122]) (156, fjl L, M) Q
      refine Wp.br rfl (fun (c : ¬ y17 = 0) => ?_) (fun (c : ¬ (¬ y17 = 0)) => ?_)
      · replace h := fps c h
        refine Wp.run 1 (f' := (d + 3, 300, 28, 0, 0, [some (fA 122), some (fI l1), some (fI l2), some (fI l3), _, _], [fI 0, fA 122])) (h' := (156, fjl L, M)) rfl trivial ?_
        exact s_X12_owed_j28_ok h H
      · replace h := fng c h
        exact s_X12_owed_j23_ok h H
theorem s_X12_owed_fr {M : fM} {l1 l2 l3 : Int} {r : (Int × fM)} (h : s_X12_owed M l1 l2 l3 = some r) : fSame s_X12_owed_mods M r.2 := by
  unfold s_X12_owed at h
  obtain ⟨y3, hy, h⟩ := fbd h
  by_cases c : y3 = 0
  · replace h := fps c h
    exact fs_trans fs_refl (s_X12_owed_j23_fr h)
  · replace h := fng c h
    obtain ⟨y10, hy, h⟩ := fbd h
    by_cases c : y10 = 0
    · replace h := fps c h
      exact fs_trans fs_refl (s_X12_owed_j23_fr h)
    · replace h := fng c h
      obtain ⟨y17, hy, h⟩ := fbd h
      by_cases c : ¬ y17 = 0
      · replace h := fps c h
        exact fs_trans fs_refl (s_X12_owed_j28_fr h)
      · replace h := fng c h
        exact fs_trans fs_refl (s_X12_owed_j23_fr h)
noncomputable def s_X0_freeTunings_b6 (M : fM) (l1 l2 l3 l4 l5 : Int) : Option ((Int × Int) ⊕ Int) :=
  if (M 18 8) ≤ l5 then
    some (.inr l4)
  else
    (s_X6_isOf_18 M l5 0 l1 l3).bind fun y27 =>
      if y27 = 0 then
        if fin (l5 + 1) then
          some (.inl (l4, (l5 + 1)))
        else none
      else
        if (0 ≤ l5 ∧ l5 < 200) then
          if l2 < (M 21 (l5).toNat) then
            if fin (l5 + 1) then
              some (.inl (l4, (l5 + 1)))
            else none
          else
            (s_X0_isFree M l5 l3).bind fun y51 =>
              if y51 = 0 then
                if fin (l5 + 1) then
                  some (.inl (l4, (l5 + 1)))
                else none
              else
                if fin (l4 + 1) ∧ fin (l5 + 1) then
                  some (.inl ((l4 + 1), (l5 + 1)))
                else none
        else none
theorem s_X0_freeTunings_b6_ok {d L : Nat} {M : fM} {l1 l2 l3 l4 l5 : Int} {r : ((Int × Int) ⊕ Int)} {Q : fO → fH → Prop} (h : s_X0_freeTunings_b6 M l1 l2 l3 l4 l5 = some r) (hC : ∀ (l4' l5' : Int), r = .inl (l4', l5') → Wp (d + 3, 6, 6, 0, 0, [some (fA 53), some (fI l1), some (fI l2), some (fI l3), some (fI l4'), some (fI l5')], []) (156, fjl L, M) Q) (hE : ∀ (e : Int) (o0' o1' o2' o3' o5' : Option fV), r = .inr e → Wp (d + 3, 6, 66, 0, 0, [o0', o1', o2', o3', some (fI e), o5'], []) (156, fjl L, M) Q) : Wp (d + 3, 6, 6, 0, 0, [some (fA 53), some (fI l1), some (fI l2), some (fI l3), some (fI l4), some (fI l5)], []) (156, fjl L, M) Q := by
  unfold s_X0_freeTunings_b6 at h
  refine Wp.run 4 (f' := (d + 3, 6, 15, 0, 0, [some (fA 53), some (fI l1), some (fI l2), some (fI l3), some (fI l4), some (fI l5)], [fI (M 18 8), fI l5])) (h' := (156, fjl L, M)) rfl trivial ?_
  refine Wp.br rfl (fun (c : (M 18 8) ≤ l5) => ?_) (fun (c : ¬ ((M 18 8) ≤ l5)) => ?_)
  · replace h := fps c h
    exact hE _ _ _ _ _ _ (Option.some.inj h).symm
  · replace h := fng c h
    refine Wp.run 6 (f' := (d + 3, 6, 27, 0, 0, [some (fA 53), some (fI l1), some (fI l2), some (fI l3), some (fI l4), some (fI l5)], [fI l3, fI l1, fI 0, fI l5, fA 18])) (h' := (156, fjl L, M)) rfl trivial ?_
    obtain ⟨y27, hy, h⟩ := fbd h
    refine Wp.call rfl (by decide) (s_X6_isOf_18_ok (d := d + 2) hy ?_)
    show Wp (d + 3, 6, 30, 0, 0, [some (fA 53), some (fI l1), some (fI l2), some (fI l3), some (fI l4), some (fI l5)], [fI y27]) (156, fjl L, M) Q
    refine Wp.br rfl (fun (c : y27 = 0) => ?_) (fun (c : ¬ (y27 = 0)) => ?_)
    · replace h := fps c h
      obtain ⟨g0, h⟩ := fgd h
      refine Wp.run 2 (f' := (d + 3, 6, 6, 0, 0, [some (fA 53), some (fI l1), some (fI l2), some (fI l3), some (fI l4), some (fI (fw (l5 + 1)))], [])) (h' := (156, fjl L, M)) rfl trivial ?_
      rw [fw_id g0]
      exact hC _ _ (Option.some.inj h).symm
    · replace h := fng c h
      obtain ⟨g0, h⟩ := fgd h
      refine Wp.run 6 (P := [0 ≤ l5 ∧ l5 < 200]) (f' := (d + 3, 6, 44, 0, 0, [some (fA 53), some (fI l1), some (fI l2), some (fI l3), some (fI l4), some (fI l5)], [fI l2, fI (M 21 (l5).toNat)])) (h' := (156, fjl L, M)) rfl ?_ ?_
      · exact g0
      refine Wp.br rfl (fun (c : l2 < (M 21 (l5).toNat)) => ?_) (fun (c : ¬ (l2 < (M 21 (l5).toNat))) => ?_)
      · replace h := fps c h
        obtain ⟨g0, h⟩ := fgd h
        refine Wp.run 2 (f' := (d + 3, 6, 6, 0, 0, [some (fA 53), some (fI l1), some (fI l2), some (fI l3), some (fI l4), some (fI (fw (l5 + 1)))], [])) (h' := (156, fjl L, M)) rfl trivial ?_
        rw [fw_id g0]
        exact hC _ _ (Option.some.inj h).symm
      · replace h := fng c h
        refine Wp.run 3 (f' := (d + 3, 6, 51, 0, 0, [some (fA 53), some (fI l1), some (fI l2), some (fI l3), some (fI l4), some (fI l5)], [fI l3, fI l5, fA 53])) (h' := (156, fjl L, M)) rfl trivial ?_
        obtain ⟨y51, hy, h⟩ := fbd h
        refine Wp.call rfl (by decide) (s_X0_isFree_ok (d := d + 0) hy ?_)
        show Wp (d + 3, 6, 54, 0, 0, [some (fA 53), some (fI l1), some (fI l2), some (fI l3), some (fI l4), some (fI l5)], [fI y51]) (156, fjl L, M) Q
        refine Wp.br rfl (fun (c : y51 = 0) => ?_) (fun (c : ¬ (y51 = 0)) => ?_)
        · replace h := fps c h
          obtain ⟨g0, h⟩ := fgd h
          refine Wp.run 2 (f' := (d + 3, 6, 6, 0, 0, [some (fA 53), some (fI l1), some (fI l2), some (fI l3), some (fI l4), some (fI (fw (l5 + 1)))], [])) (h' := (156, fjl L, M)) rfl trivial ?_
          rw [fw_id g0]
          exact hC _ _ (Option.some.inj h).symm
        · replace h := fng c h
          obtain ⟨⟨g0, g1⟩, h⟩ := fgd h
          refine Wp.run 3 (f' := (d + 3, 6, 6, 0, 0, [some (fA 53), some (fI l1), some (fI l2), some (fI l3), some (fI (fw (l4 + 1))), some (fI (fw (l5 + 1)))], [])) (h' := (156, fjl L, M)) rfl trivial ?_
          rw [fw_id g0, fw_id g1]
          exact hC _ _ (Option.some.inj h).symm
noncomputable def s_X0_freeTunings_l6 (M : fM) (l1 l2 l3 : Int) (s : (Int × Int)) : Option Int := fLp (fun s => s_X0_freeTunings_b6 M l1 l2 l3 s.1 s.2) s
theorem s_X0_freeTunings_l6_ok {d L : Nat} {M : fM} {l1 l2 l3 l4 l5 : Int} {r : Int} {Q : fO → fH → Prop} (h : s_X0_freeTunings_l6 M l1 l2 l3 (l4, l5) = some r) (hE : ∀ (e : Int) (o0' o1' o2' o3' o5' : Option fV), r = e → Wp (d + 3, 6, 66, 0, 0, [o0', o1', o2', o3', some (fI e), o5'], []) (156, fjl L, M) Q) : Wp (d + 3, 6, 6, 0, 0, [some (fA 53), some (fI l1), some (fI l2), some (fI l3), some (fI l4), some (fI l5)], []) (156, fjl L, M) Q := by
  refine fLp_wp (W := fun s => Wp (d + 3, 6, 6, 0, 0, [some (fA 53), some (fI l1), some (fI l2), some (fI l3), some (fI s.1), some (fI s.2)], []) (156, fjl L, M) Q) (e := r) ?_ h
  intro s r1 h hC hX
  refine s_X0_freeTunings_b6_ok (d := d) h (fun a0 a1 e1 => ?_) (fun e u0 u1 u2 u3 u4 e1 => hE e u0 u1 u2 u3 u4 (hX _ e1).symm)
  exact hC _ e1
noncomputable def s_X0_freeTunings (M : fM) (l1 l2 l3 : Int) : Option Int :=
  (s_X0_freeTunings_l6 M l1 l2 l3 (0, 0)).bind fun e6 =>
    some e6
theorem s_X0_freeTunings_ok {d L : Nat} {M : fM} {l1 l2 l3 : Int} {r : Int} {Q : fO → fH → Prop} (h : s_X0_freeTunings M l1 l2 l3 = some r) (H : Q (oI r) (156, fjl L, M)) : Wp (d + 3, 6, 0, 0, 0, [some (fA 53), some (fI l1), some (fI l2), some (fI l3), none, none], []) (156, fjl L, M) Q := by
  unfold s_X0_freeTunings at h
  refine Wp.run 4 (f' := (d + 3, 6, 6, 0, 0, [some (fA 53), some (fI l1), some (fI l2), some (fI l3), some (fI 0), some (fI 0)], [])) (h' := (156, fjl L, M)) rfl trivial ?_
  obtain ⟨e6, hy, h⟩ := fbd h
  refine s_X0_freeTunings_l6_ok hy (fun x u0 u1 u2 u3 u5 ex => ?_)
  cases ex
  show Wp (d + 3, 6, 66, 0, 0, [u0, u1, u2, u3, some (fI e6), u5], []) (156, fjl L, M) Q
  refine Wp.run 1 (f' := (d + 3, 6, 68, 0, 0, [_, _, _, _, _, _], [fI e6])) (h' := (156, fjl L, M)) rfl trivial ?_
  obtain rfl := Option.some.inj h
  exact Wp.done rfl (by decide) H
noncomputable def s_X11_free (M : fM) (l1 l2 l3 : Int) : Option Int :=
  (s_X11_isAsked M l1 l2 l3).bind fun y4 =>
    if y4 = 0 then
      some (-1)
    else
      (s_X0_freeTunings M l1 l2 l3).bind fun y17 =>
        some y17
theorem s_X11_free_ok {d L : Nat} {M : fM} {l1 l2 l3 : Int} {r : Int} {Q : fO → fH → Prop} (h : s_X11_free M l1 l2 l3 = some r) (H : Q (oI r) (156, fjl L, M)) : Wp (d + 4, 180, 0, 0, 0, [some (fA 0), some (fI l1), some (fI l2), some (fI l3)], []) (156, fjl L, M) Q := by
  unfold s_X11_free at h
  refine Wp.run 4 (f' := (d + 4, 180, 4, 0, 0, [some (fA 0), some (fI l1), some (fI l2), some (fI l3)], [fI l3, fI l2, fI l1, fA 0])) (h' := (156, fjl L, M)) rfl trivial ?_
  obtain ⟨y4, hy, h⟩ := fbd h
  refine Wp.call rfl (by decide) (s_X11_isAsked_ok (d := d + 1) hy ?_)
  show Wp (d + 4, 180, 7, 0, 0, [some (fA 0), some (fI l1), some (fI l2), some (fI l3)], [fI y4]) (156, fjl L, M) Q
  refine Wp.br rfl (fun (c : y4 = 0) => ?_) (fun (c : ¬ (y4 = 0)) => ?_)
  · replace h := fps c h
    refine Wp.run 1 (f' := (d + 4, 180, 24, 0, 0, [_, _, _, _], [fI (-1)])) (h' := (156, fjl L, M)) rfl trivial ?_
    obtain rfl := Option.some.inj h
    exact Wp.done rfl (by decide) H
  · replace h := fng c h
    refine Wp.run 5 (f' := (d + 4, 180, 17, 0, 0, [_, _, _, _], [fI l3, fI l2, fI l1, fA 53])) (h' := (156, fjl L, M)) rfl trivial ?_
    obtain ⟨y17, hy, h⟩ := fbd h
    refine Wp.call rfl (by decide) (s_X0_freeTunings_ok (d := d + 0) hy ?_)
    show Wp (d + 4, 180, 20, 0, 0, [_, _, _, _], [fI y17]) (156, fjl L, M) Q
    refine Wp.run 1 (f' := (d + 4, 180, 24, 0, 0, [_, _, _, _], [fI y17])) (h' := (156, fjl L, M)) rfl trivial ?_
    obtain rfl := Option.some.inj h
    exact Wp.done rfl (by decide) H
abbrev s_X12_free_mods : List (Nat × Option Nat) := [(122, some 0)]
noncomputable def s_X12_free_b35 (M : fM) (l1 l2 l3 l4 l5 : Int) : Option ((Int × Int) ⊕ Int) :=
  if (M 122 10) ≤ l5 then
    some (.inr l4)
  else
    (s_X12_isOf M l5 0 l1 l2 l3).bind fun y53 =>
      if y53 = 0 then
        if fin (l4 + 0) ∧ fin (l5 + 1) then
          some (.inl ((l4 + 0), (l5 + 1)))
        else none
      else
        (s_X12_isFree M l5 l3).bind fun y63 =>
          if y63 = 0 then
            if fin (l4 + 0) ∧ fin (l5 + 1) then
              some (.inl ((l4 + 0), (l5 + 1)))
            else none
          else
            if fin (l4 + 1) ∧ fin (l5 + 1) then
              some (.inl ((l4 + 1), (l5 + 1)))
            else none
theorem s_X12_free_b35_ok {d L : Nat} {M : fM} {l1 l2 l3 l4 l5 : Int} {r : ((Int × Int) ⊕ Int)} {Q : fO → fH → Prop} (h : s_X12_free_b35 M l1 l2 l3 l4 l5 = some r) (hC : ∀ (l4' l5' : Int), r = .inl (l4', l5') → Wp (d + 3, 301, 35, 0, 0, [some (fA 122), some (fI l1), some (fI l2), some (fI l3), some (fI l4'), some (fI l5')], []) (156, fjl L, M) Q) (hE : ∀ (e : Int) (o0' o1' o2' o3' o5' : Option fV), r = .inr e → Wp (d + 3, 301, 83, 0, 0, [o0', o1', o2', o3', some (fI e), o5'], []) (156, fjl L, M) Q) : Wp (d + 3, 301, 35, 0, 0, [some (fA 122), some (fI l1), some (fI l2), some (fI l3), some (fI l4), some (fI l5)], []) (156, fjl L, M) Q := by
  unfold s_X12_free_b35 at h
  refine Wp.run 3 (f' := (d + 3, 301, 41, 0, 0, [some (fA 122), some (fI l1), some (fI l2), some (fI l3), some (fI l4), some (fI l5)], [fI (M 122 10), fI l5])) (h' := (156, fjl L, M)) rfl trivial ?_
  refine Wp.br rfl (fun (c : (M 122 10) ≤ l5) => ?_) (fun (c : ¬ ((M 122 10) ≤ l5)) => ?_)
  · replace h := fps c h
    exact hE _ _ _ _ _ _ (Option.some.inj h).symm
  · replace h := fng c h
    refine Wp.run 7 (f' := (d + 3, 301, 53, 0, 0, [some (fA 122), some (fI l1), some (fI l2), some (fI l3), _, some (fI l5)], [fI l3, fI l2, fI l1, fI 0, fI l5, fA 122, fI l4])) (h' := (156, fjl L, M)) rfl trivial ?_
    obtain ⟨y53, hy, h⟩ := fbd h
    refine Wp.call rfl (by decide) (s_X12_isOf_ok (d := d + 2) hy ?_)
    show Wp (d + 3, 301, 56, 0, 0, [some (fA 122), some (fI l1), some (fI l2), some (fI l3), _, some (fI l5)], [fI y53, fI l4]) (156, fjl L, M) Q
    refine Wp.br rfl (fun (c : y53 = 0) => ?_) (fun (c : ¬ (y53 = 0)) => ?_)
    · replace h := fps c h
      obtain ⟨⟨g0, g1⟩, h⟩ := fgd h
      refine Wp.run 5 (f' := (d + 3, 301, 35, 0, 0, [some (fA 122), some (fI l1), some (fI l2), some (fI l3), some (fI (fw (l4 + 0))), some (fI (fw (l5 + 1)))], [])) (h' := (156, fjl L, M)) rfl trivial ?_
      rw [fw_id g0, fw_id g1]
      exact hC _ _ (Option.some.inj h).symm
    · replace h := fng c h
      refine Wp.run 3 (f' := (d + 3, 301, 63, 0, 0, [some (fA 122), some (fI l1), some (fI l2), some (fI l3), _, some (fI l5)], [fI l3, fI l5, fA 122, fI l4])) (h' := (156, fjl L, M)) rfl trivial ?_
      obtain ⟨y63, hy, h⟩ := fbd h
      refine Wp.call rfl (by decide) (s_X12_isFree_ok (d := d + 0) hy ?_)
      show Wp (d + 3, 301, 66, 0, 0, [some (fA 122), some (fI l1), some (fI l2), some (fI l3), _, some (fI l5)], [fI y63, fI l4]) (156, fjl L, M) Q
      refine Wp.br rfl (fun (c : y63 = 0) => ?_) (fun (c : ¬ (y63 = 0)) => ?_)
      · replace h := fps c h
        obtain ⟨⟨g0, g1⟩, h⟩ := fgd h
        refine Wp.run 5 (f' := (d + 3, 301, 35, 0, 0, [some (fA 122), some (fI l1), some (fI l2), some (fI l3), some (fI (fw (l4 + 0))), some (fI (fw (l5 + 1)))], [])) (h' := (156, fjl L, M)) rfl trivial ?_
        rw [fw_id g0, fw_id g1]
        exact hC _ _ (Option.some.inj h).symm
      · replace h := fng c h
        obtain ⟨⟨g0, g1⟩, h⟩ := fgd h
        refine Wp.run 6 (f' := (d + 3, 301, 35, 0, 0, [some (fA 122), some (fI l1), some (fI l2), some (fI l3), some (fI (fw (l4 + 1))), some (fI (fw (l5 + 1)))], [])) (h' := (156, fjl L, M)) rfl trivial ?_
        rw [fw_id g0, fw_id g1]
        exact hC _ _ (Option.some.inj h).symm
theorem s_X12_free_b35_fr {M : fM} {l1 l2 l3 l4 l5 : Int} {r : ((Int × Int) ⊕ Int)} (h : s_X12_free_b35 M l1 l2 l3 l4 l5 = some r) : fSame s_X12_free_mods M (Sum.elim (fun _ => M) (fun _ => M) r) := by
  unfold s_X12_free_b35 at h
  by_cases c : (M 122 10) ≤ l5
  · replace h := fps c h
    obtain rfl := Option.some.inj h
    exact fs_refl
  · replace h := fng c h
    obtain ⟨y53, hy, h⟩ := fbd h
    by_cases c : y53 = 0
    · replace h := fps c h
      replace h := (fgd h).2
      obtain rfl := Option.some.inj h
      exact fs_refl
    · replace h := fng c h
      obtain ⟨y63, hy, h⟩ := fbd h
      by_cases c : y63 = 0
      · replace h := fps c h
        replace h := (fgd h).2
        obtain rfl := Option.some.inj h
        exact fs_refl
      · replace h := fng c h
        replace h := (fgd h).2
        obtain rfl := Option.some.inj h
        exact fs_refl
noncomputable def s_X12_free_l35 (M : fM) (l1 l2 l3 : Int) (s : (Int × Int)) : Option Int := fLp (fun s => s_X12_free_b35 M l1 l2 l3 s.1 s.2) s
theorem s_X12_free_l35_ok {d L : Nat} {M : fM} {l1 l2 l3 l4 l5 : Int} {r : Int} {Q : fO → fH → Prop} (h : s_X12_free_l35 M l1 l2 l3 (l4, l5) = some r) (hE : ∀ (e : Int) (o0' o1' o2' o3' o5' : Option fV), r = e → Wp (d + 3, 301, 83, 0, 0, [o0', o1', o2', o3', some (fI e), o5'], []) (156, fjl L, M) Q) : Wp (d + 3, 301, 35, 0, 0, [some (fA 122), some (fI l1), some (fI l2), some (fI l3), some (fI l4), some (fI l5)], []) (156, fjl L, M) Q := by
  refine fLp_wp (W := fun s => Wp (d + 3, 301, 35, 0, 0, [some (fA 122), some (fI l1), some (fI l2), some (fI l3), some (fI s.1), some (fI s.2)], []) (156, fjl L, M) Q) (e := r) ?_ h
  intro s r1 h hC hX
  refine s_X12_free_b35_ok (d := d) h (fun a0 a1 e1 => ?_) (fun e u0 u1 u2 u3 u4 e1 => hE e u0 u1 u2 u3 u4 (hX _ e1).symm)
  exact hC _ e1
noncomputable def s_X12_free (M : fM) (l1 l2 l3 : Int) : Option (Int × fM) :=
  (s_X12_isPiano (fup M 122 0 0) l1).bind fun y7 =>
    if y7 = 0 then
      some ((-1), (fup M 122 0 0))
    else
      (s_X12_isDay (fup M 122 0 0) l2).bind fun y14 =>
        if y14 = 0 then
          some ((-1), (fup M 122 0 0))
        else
          (s_X12_isKnown (fup M 122 0 0) l3).bind fun y21 =>
            if ¬ y21 = 0 then
              (s_X12_free_l35 (fup M 122 0 0) l1 l2 l3 (0, 0)).bind fun e35 =>
                some (e35, (fup M 122 0 0))
            else
              some ((-1), (fup M 122 0 0))
theorem s_X12_free_ok {d L : Nat} {M : fM} {l1 l2 l3 : Int} {r : (Int × fM)} {Q : fO → fH → Prop} (h : s_X12_free M l1 l2 l3 = some r) (H : Q (oI r.1) (156, fjl L, r.2)) : Wp (d + 3, 301, 0, 0, 0, [some (fA 122), some (fI l1), some (fI l2), some (fI l3), none, none], []) (156, fjl L, M) Q := by
  unfold s_X12_free at h
  refine Wp.run 5 (f' := (d + 3, 301, 7, 0, 0, [some (fA 122), some (fI l1), some (fI l2), some (fI l3), _, _], [fI l1, fA 122])) (h' := (156, fjl L, (fup M 122 0 0))) rfl trivial ?_
  obtain ⟨y7, hy, h⟩ := fbd h
  refine Wp.call rfl (by decide) (s_X12_isPiano_ok (d := d + 1) hy ?_)
  show Wp (d + 3, 301, 10, 0, 0, [some (fA 122), some (fI l1), some (fI l2), some (fI l3), _, _], [fI y7]) (156, fjl L, (fup M 122 0 0)) Q
  refine Wp.br rfl (fun (c : y7 = 0) => ?_) (fun (c : ¬ (y7 = 0)) => ?_)
  · replace h := fps c h
    refine Wp.run 1 (f' := (d + 3, 301, 28, 0, 0, [_, _, _, _, _, _], [fI (-1)])) (h' := (156, fjl L, (fup M 122 0 0))) rfl trivial ?_
    obtain rfl := Option.some.inj h
    exact Wp.done rfl (by decide) H
  · replace h := fng c h
    refine Wp.run 1 (f' := (d + 3, 301, 14, 0, 0, [some (fA 122), some (fI l1), some (fI l2), some (fI l3), _, _], [fI l2])) (h' := (156, fjl L, (fup M 122 0 0))) rfl trivial ?_
    obtain ⟨y14, hy, h⟩ := fbd h
    refine Wp.call rfl (by decide) (s_X12_isDay_ok (d := d + 1) hy ?_)
    show Wp (d + 3, 301, 17, 0, 0, [some (fA 122), some (fI l1), some (fI l2), some (fI l3), _, _], [fI y14]) (156, fjl L, (fup M 122 0 0)) Q
    refine Wp.br rfl (fun (c : y14 = 0) => ?_) (fun (c : ¬ (y14 = 0)) => ?_)
    · replace h := fps c h
      refine Wp.run 1 (f' := (d + 3, 301, 28, 0, 0, [_, _, _, _, _, _], [fI (-1)])) (h' := (156, fjl L, (fup M 122 0 0))) rfl trivial ?_
      obtain rfl := Option.some.inj h
      exact Wp.done rfl (by decide) H
    · replace h := fng c h
      refine Wp.run 1 (f' := (d + 3, 301, 21, 0, 0, [some (fA 122), some (fI l1), some (fI l2), some (fI l3), _, _], [fI l3])) (h' := (156, fjl L, (fup M 122 0 0))) rfl trivial ?_
      obtain ⟨y21, hy, h⟩ := fbd h
      refine Wp.call rfl (by decide) (s_X12_isKnown_ok (d := d + 1) hy ?_)
      show Wp (d + 3, 301, 24, 0, 0, [some (fA 122), some (fI l1), some (fI l2), some (fI l3), _, _], [fI y21]) (156, fjl L, (fup M 122 0 0)) Q
      refine Wp.br rfl (fun (c : ¬ y21 = 0) => ?_) (fun (c : ¬ (¬ y21 = 0)) => ?_)
      · replace h := fps c h
        refine Wp.run 4 (f' := (d + 3, 301, 35, 0, 0, [some (fA 122), some (fI l1), some (fI l2), some (fI l3), some (fI 0), some (fI 0)], [])) (h' := (156, fjl L, (fup M 122 0 0))) rfl trivial ?_
        obtain ⟨e35, hy, h⟩ := fbd h
        refine s_X12_free_l35_ok hy (fun x u0 u1 u2 u3 u5 ex => ?_)
        cases ex
        show Wp (d + 3, 301, 83, 0, 0, [u0, u1, u2, u3, some (fI e35), u5], []) (156, fjl L, (fup M 122 0 0)) Q
        refine Wp.run 1 (f' := (d + 3, 301, 85, 0, 0, [_, _, _, _, _, _], [fI e35])) (h' := (156, fjl L, (fup M 122 0 0))) rfl trivial ?_
        obtain rfl := Option.some.inj h
        exact Wp.done rfl (by decide) H
      · replace h := fng c h
        refine Wp.run 1 (f' := (d + 3, 301, 28, 0, 0, [_, _, _, _, _, _], [fI (-1)])) (h' := (156, fjl L, (fup M 122 0 0))) rfl trivial ?_
        obtain rfl := Option.some.inj h
        exact Wp.done rfl (by decide) H
theorem s_X12_free_fr {M : fM} {l1 l2 l3 : Int} {r : (Int × fM)} (h : s_X12_free M l1 l2 l3 = some r) : fSame s_X12_free_mods M r.2 := by
  unfold s_X12_free at h
  obtain ⟨y7, hy, h⟩ := fbd h
  by_cases c : y7 = 0
  · replace h := fps c h
    obtain rfl := Option.some.inj h
    exact fs_up fs_refl (.inr (by decide))
  · replace h := fng c h
    obtain ⟨y14, hy, h⟩ := fbd h
    by_cases c : y14 = 0
    · replace h := fps c h
      obtain rfl := Option.some.inj h
      exact fs_up fs_refl (.inr (by decide))
    · replace h := fng c h
      obtain ⟨y21, hy, h⟩ := fbd h
      by_cases c : ¬ y21 = 0
      · replace h := fps c h
        obtain ⟨e35, hy, h⟩ := fbd h
        obtain rfl := Option.some.inj h
        exact fs_up fs_refl (.inr (by decide))
      · replace h := fng c h
        obtain rfl := Option.some.inj h
        exact fs_up fs_refl (.inr (by decide))
abbrev s_J7_fill_46_mods : List (Nat × Option Nat) := [(46, none)]
noncomputable def s_J7_fill_46_b5 (M : fM) (l1 l2 l3 : Int) : Option ((Int × fM) ⊕ fM) :=
  if l3 ≤ l2 then
    some (.inr M)
  else
    if (0 ≤ l2 ∧ l2 < 12) ∧ fin (l2 + 1) then
      some (.inl ((l2 + 1), (fup M 46 (l2).toNat l1)))
    else none
theorem s_J7_fill_46_b5_ok {d L : Nat} {M : fM} {l1 l2 l3 : Int} {r : ((Int × fM) ⊕ fM)} {Q : fO → fH → Prop} (h : s_J7_fill_46_b5 M l1 l2 l3 = some r) (hC : ∀ (l2' : Int) (M' : fM), r = .inl (l2', M') → Wp (d + 0, 315, 5, 0, 0, [some (fA 46), some (fI l1), some (fI l2'), some (fI l3)], []) (156, fjl L, M') Q) (hE : ∀ (e : fM) (o0' o1' o2' o3' : Option fV), r = .inr e → Wp (d + 0, 315, 20, 0, 0, [o0', o1', o2', o3'], []) (156, fjl L, e) Q) : Wp (d + 0, 315, 5, 0, 0, [some (fA 46), some (fI l1), some (fI l2), some (fI l3)], []) (156, fjl L, M) Q := by
  unfold s_J7_fill_46_b5 at h
  refine Wp.run 2 (f' := (d + 0, 315, 7, 0, 0, [some (fA 46), some (fI l1), some (fI l2), some (fI l3)], [fI l3, fI l2])) (h' := (156, fjl L, M)) rfl trivial ?_
  refine Wp.br rfl (fun (c : l3 ≤ l2) => ?_) (fun (c : ¬ (l3 ≤ l2)) => ?_)
  · replace h := fps c h
    exact hE _ _ _ _ _ (Option.some.inj h).symm
  · replace h := fng c h
    obtain ⟨⟨g0, g1⟩, h⟩ := fgd h
    refine Wp.run 6 (P := [0 ≤ l2 ∧ l2 < 12]) (f' := (d + 0, 315, 5, 0, 0, [some (fA 46), some (fI l1), some (fI (fw (l2 + 1))), some (fI l3)], [])) (h' := (156, fjl L, (fup M 46 (l2).toNat l1))) rfl ?_ ?_
    · exact g0
    rw [fw_id g1]
    exact hC _ _ (Option.some.inj h).symm
theorem s_J7_fill_46_b5_fr {M : fM} {l1 l2 l3 : Int} {r : ((Int × fM) ⊕ fM)} (h : s_J7_fill_46_b5 M l1 l2 l3 = some r) : fSame s_J7_fill_46_mods M (Sum.elim (fun s => s.2) (fun e => e) r) := by
  unfold s_J7_fill_46_b5 at h
  by_cases c : l3 ≤ l2
  · replace h := fps c h
    obtain rfl := Option.some.inj h
    exact fs_refl
  · replace h := fng c h
    replace h := (fgd h).2
    obtain rfl := Option.some.inj h
    exact fs_up fs_refl (.inl (by decide))
noncomputable def s_J7_fill_46_l5 (l1 l3 : Int) (s : (Int × fM)) : Option fM := fLp (fun s => s_J7_fill_46_b5 s.2 l1 s.1 l3) s
theorem s_J7_fill_46_l5_ok {d L : Nat} {M : fM} {l1 l2 l3 : Int} {r : fM} {Q : fO → fH → Prop} (h : s_J7_fill_46_l5 l1 l3 (l2, M) = some r) (hE : ∀ (e : fM) (o0' o1' o2' o3' : Option fV), r = e → Wp (d + 0, 315, 20, 0, 0, [o0', o1', o2', o3'], []) (156, fjl L, e) Q) : Wp (d + 0, 315, 5, 0, 0, [some (fA 46), some (fI l1), some (fI l2), some (fI l3)], []) (156, fjl L, M) Q := by
  refine fLp_wp (W := fun s => Wp (d + 0, 315, 5, 0, 0, [some (fA 46), some (fI l1), some (fI s.1), some (fI l3)], []) (156, fjl L, s.2) Q) (e := r) ?_ h
  intro s r1 h hC hX
  refine s_J7_fill_46_b5_ok (d := d) h (fun a0 a1 e1 => ?_) (fun e u0 u1 u2 u3 e1 => hE e u0 u1 u2 u3 (hX _ e1).symm)
  exact hC _ e1
theorem s_J7_fill_46_l5_fr {M : fM} {l1 l2 l3 : Int} {r : fM} (h : s_J7_fill_46_l5 l1 l3 (l2, M) = some r) : fSame s_J7_fill_46_mods M ((fun e => e) r) := by
  refine fLp_inv (I := fun s => fSame s_J7_fill_46_mods M s.2) (J := fun r => fSame s_J7_fill_46_mods M ((fun e => e) r)) h fs_refl (fun s s1 hs hb => ?_) (fun s e hs hb => ?_)
  · exact fs_trans hs (s_J7_fill_46_b5_fr hb)
  · exact fs_trans hs (s_J7_fill_46_b5_fr hb)
noncomputable def s_J7_fill_46 (M : fM) (l1 : Int) : Option (Unit × fM) :=
  (s_J7_fill_46_l5 l1 12 (0, M)).bind fun e5 =>
    some ((), e5)
theorem s_J7_fill_46_ok {d L : Nat} {M : fM} {l1 : Int} {r : (Unit × fM)} {Q : fO → fH → Prop} (h : s_J7_fill_46 M l1 = some r) (H : Q (oV r.1) (156, fjl L, r.2)) : Wp (d + 0, 315, 0, 0, 0, [some (fA 46), some (fI l1), none, none], []) (156, fjl L, M) Q := by
  unfold s_J7_fill_46 at h
  refine Wp.run 5 (f' := (d + 0, 315, 5, 0, 0, [some (fA 46), some (fI l1), some (fI 0), some (fI 12)], [])) (h' := (156, fjl L, M)) rfl trivial ?_
  obtain ⟨e5, hy, h⟩ := fbd h
  refine s_J7_fill_46_l5_ok hy (fun x u0 u1 u2 u3 ex => ?_)
  cases ex
  show Wp (d + 0, 315, 20, 0, 0, [u0, u1, u2, u3], []) (156, fjl L, e5) Q
  obtain rfl := Option.some.inj h
  exact Wp.done rfl (by decide) H
theorem s_J7_fill_46_fr {M : fM} {l1 : Int} {r : (Unit × fM)} (h : s_J7_fill_46 M l1 = some r) : fSame s_J7_fill_46_mods M r.2 := by
  unfold s_J7_fill_46 at h
  obtain ⟨e5, hy, h⟩ := fbd h
  have k5 := fs_trans (l := s_J7_fill_46_mods) fs_refl (s_J7_fill_46_l5_fr hy)
  obtain rfl := Option.some.inj h
  exact k5
abbrev s_X8_tuningsFrom_mods : List (Nat × Option Nat) := [(43, some 5), (43, some 6), (44, none), (45, none), (46, none)]
noncomputable def s_X8_tuningsFrom_b13 (M : fM) (l4 l5 : Int) : Option ((Int × Int × fM) ⊕ (Int × fM)) :=
  if 364 ≤ l5 then
    some (.inr (l4, M))
  else
    (s_X8_isBeyond M l5 0).bind fun y25 =>
      if y25 = 0 then
        if fin (l5 + 1) then
          some (.inl (l4, (l5 + 1), M))
        else none
      else
        if fin (l4 + 1) then
          (s_J7_fill_46 (fup M 43 6 l5) 0).bind fun y45 =>
            if fin (l5 + 1) then
              some (.inl ((l4 + 1), (l5 + 1), y45.2))
            else none
        else none
theorem s_X8_tuningsFrom_b13_ok {d L : Nat} {M : fM} {l4 l5 : Int} {o1 o2 o3 : Option fV} {r : ((Int × Int × fM) ⊕ (Int × fM))} {Q : fO → fH → Prop} (h : s_X8_tuningsFrom_b13 M l4 l5 = some r) (hC : ∀ (l4' l5' : Int) (M' : fM) (o1' o2' o3' : Option fV), r = .inl (l4', l5', M') → Wp (d + 4, 123, 13, 0, 0, [some (fA 43), o1', o2', o3', some (fI l4'), some (fI l5')], []) (156, fjl L, M') Q) (hE : ∀ (e : (Int × fM)) (o0' o1' o2' o3' o5' : Option fV), r = .inr e → Wp (d + 4, 123, 54, 0, 0, [o0', o1', o2', o3', some (fI e.1), o5'], []) (156, fjl L, e.2) Q) : Wp (d + 4, 123, 13, 0, 0, [some (fA 43), o1, o2, o3, some (fI l4), some (fI l5)], []) (156, fjl L, M) Q := by
  unfold s_X8_tuningsFrom_b13 at h
  refine Wp.run 2 (f' := (d + 4, 123, 18, 0, 0, [some (fA 43), _, _, _, some (fI l4), some (fI l5)], [fI 364, fI l5])) (h' := (156, fjl L, M)) rfl trivial ?_
  refine Wp.br rfl (fun (c : 364 ≤ l5) => ?_) (fun (c : ¬ (364 ≤ l5)) => ?_)
  · replace h := fps c h
    exact hE _ _ _ _ _ _ (Option.some.inj h).symm
  · replace h := fng c h
    refine Wp.run 3 (f' := (d + 4, 123, 25, 0, 0, [some (fA 43), _, _, _, some (fI l4), some (fI l5)], [fI 0, fI l5, fA 43])) (h' := (156, fjl L, M)) rfl trivial ?_
    obtain ⟨y25, hy, h⟩ := fbd h
    refine Wp.call rfl (by decide) (s_X8_isBeyond_ok (d := d + 0) hy ?_)
    show Wp (d + 4, 123, 28, 0, 0, [some (fA 43), _, _, _, some (fI l4), some (fI l5)], [fI y25]) (156, fjl L, M) Q
    refine Wp.br rfl (fun (c : y25 = 0) => ?_) (fun (c : ¬ (y25 = 0)) => ?_)
    · replace h := fps c h
      obtain ⟨g0, h⟩ := fgd h
      refine Wp.run 2 (f' := (d + 4, 123, 13, 0, 0, [some (fA 43), _, _, _, some (fI l4), some (fI (fw (l5 + 1)))], [])) (h' := (156, fjl L, M)) rfl trivial ?_
      rw [fw_id g0]
      exact hC _ _ _ _ _ _ (Option.some.inj h).symm
    · replace h := fng c h
      obtain ⟨g0, h⟩ := fgd h
      refine Wp.run 7 (f' := (d + 4, 123, 45, 0, 0, [some (fA 43), _, _, _, some (fI (fw (l4 + 1))), some (fI l5)], [fI 0, fA 46])) (h' := (156, fjl L, (fup M 43 6 l5))) rfl trivial ?_
      rw [fw_id g0]
      obtain ⟨y45, hy, h⟩ := fbd h
      refine Wp.call rfl (by decide) (s_J7_fill_46_ok (d := d + 3) hy ?_)
      show Wp (d + 4, 123, 48, 0, 0, [some (fA 43), _, _, _, some (fI (l4 + 1)), some (fI l5)], []) (156, fjl L, y45.2) Q
      obtain ⟨g0, h⟩ := fgd h
      refine Wp.run 2 (f' := (d + 4, 123, 13, 0, 0, [some (fA 43), _, _, _, some (fI (l4 + 1)), some (fI (fw (l5 + 1)))], [])) (h' := (156, fjl L, y45.2)) rfl trivial ?_
      rw [fw_id g0]
      exact hC _ _ _ _ _ _ (Option.some.inj h).symm
theorem s_X8_tuningsFrom_b13_fr {M : fM} {l4 l5 : Int} {r : ((Int × Int × fM) ⊕ (Int × fM))} (h : s_X8_tuningsFrom_b13 M l4 l5 = some r) : fSame s_X8_tuningsFrom_mods M (Sum.elim (fun s => s.2.2) (fun e => e.2) r) := by
  unfold s_X8_tuningsFrom_b13 at h
  by_cases c : 364 ≤ l5
  · replace h := fps c h
    obtain rfl := Option.some.inj h
    exact fs_refl
  · replace h := fng c h
    obtain ⟨y25, hy, h⟩ := fbd h
    by_cases c : y25 = 0
    · replace h := fps c h
      replace h := (fgd h).2
      obtain rfl := Option.some.inj h
      exact fs_refl
    · replace h := fng c h
      replace h := (fgd h).2
      obtain ⟨y45, hy, h⟩ := fbd h
      have k45 := fs_trans (l := s_X8_tuningsFrom_mods) (fs_up fs_refl (.inr (by decide))) (fs_mono (l := s_J7_fill_46_mods) (by decide) (s_J7_fill_46_fr hy))
      replace h := (fgd h).2
      obtain rfl := Option.some.inj h
      exact k45
noncomputable def s_X8_tuningsFrom_l13 (s : (Int × Int × fM)) : Option (Int × fM) := fLp (fun s => s_X8_tuningsFrom_b13 s.2.2 s.1 s.2.1) s
theorem s_X8_tuningsFrom_l13_ok {d L : Nat} {M : fM} {l4 l5 : Int} {o1 o2 o3 : Option fV} {r : (Int × fM)} {Q : fO → fH → Prop} (h : s_X8_tuningsFrom_l13 (l4, l5, M) = some r) (hE : ∀ (e : (Int × fM)) (o0' o1' o2' o3' o5' : Option fV), r = e → Wp (d + 4, 123, 54, 0, 0, [o0', o1', o2', o3', some (fI e.1), o5'], []) (156, fjl L, e.2) Q) : Wp (d + 4, 123, 13, 0, 0, [some (fA 43), o1, o2, o3, some (fI l4), some (fI l5)], []) (156, fjl L, M) Q := by
  refine fLp_wp (W := fun s => ∀ (o1 o2 o3 : Option fV), Wp (d + 4, 123, 13, 0, 0, [some (fA 43), o1, o2, o3, some (fI s.1), some (fI s.2.1)], []) (156, fjl L, s.2.2) Q) (e := r) ?_ h _ _ _
  intro s r1 h hC hX o1 o2 o3
  refine s_X8_tuningsFrom_b13_ok (d := d) h (fun a0 a1 a2 _ _ _ e1 => ?_) (fun e u0 u1 u2 u3 u4 e1 => hE e u0 u1 u2 u3 u4 (hX _ e1).symm)
  exact hC _ e1 _ _ _
theorem s_X8_tuningsFrom_l13_fr {M : fM} {l4 l5 : Int} {r : (Int × fM)} (h : s_X8_tuningsFrom_l13 (l4, l5, M) = some r) : fSame s_X8_tuningsFrom_mods M ((fun e => e.2) r) := by
  refine fLp_inv (I := fun s => fSame s_X8_tuningsFrom_mods M s.2.2) (J := fun r => fSame s_X8_tuningsFrom_mods M ((fun e => e.2) r)) h fs_refl (fun s s1 hs hb => ?_) (fun s e hs hb => ?_)
  · exact fs_trans hs (s_X8_tuningsFrom_b13_fr hb)
  · exact fs_trans hs (s_X8_tuningsFrom_b13_fr hb)
noncomputable def s_X8_tuningsFrom (M : fM) (l1 l2 l3 : Int) : Option (Int × fM) :=
  (s_X8_look M l1 l2 l3).bind fun y4 =>
    (s_X8_tuningsFrom_l13 (0, l2, y4.2)).bind fun e13 =>
      some (e13.1, e13.2)
theorem s_X8_tuningsFrom_ok {d L : Nat} {M : fM} {l1 l2 l3 : Int} {r : (Int × fM)} {Q : fO → fH → Prop} (h : s_X8_tuningsFrom M l1 l2 l3 = some r) (H : Q (oI r.1) (156, fjl L, r.2)) : Wp (d + 4, 123, 0, 0, 0, [some (fA 43), some (fI l1), some (fI l2), some (fI l3), none, none], []) (156, fjl L, M) Q := by
  unfold s_X8_tuningsFrom at h
  refine Wp.run 4 (f' := (d + 4, 123, 4, 0, 0, [some (fA 43), _, some (fI l2), _, _, _], [fI l3, fI l2, fI l1, fA 43])) (h' := (156, fjl L, M)) rfl trivial ?_
  obtain ⟨y4, hy, h⟩ := fbd h
  refine Wp.call rfl (by decide) (s_X8_look_ok (d := d + 1) hy ?_)
  show Wp (d + 4, 123, 7, 0, 0, [some (fA 43), _, some (fI l2), _, _, _], []) (156, fjl L, y4.2) Q
  refine Wp.run 4 (f' := (d + 4, 123, 13, 0, 0, [some (fA 43), _, _, _, some (fI 0), some (fI l2)], [])) (h' := (156, fjl L, y4.2)) rfl trivial ?_
  obtain ⟨e13, hy, h⟩ := fbd h
  refine s_X8_tuningsFrom_l13_ok hy (fun x u0 u1 u2 u3 u5 ex => ?_)
  cases ex
  show Wp (d + 4, 123, 54, 0, 0, [u0, u1, u2, u3, some (fI e13.1), u5], []) (156, fjl L, e13.2) Q
  refine Wp.run 1 (f' := (d + 4, 123, 56, 0, 0, [_, _, _, _, _, _], [fI e13.1])) (h' := (156, fjl L, e13.2)) rfl trivial ?_
  obtain rfl := Option.some.inj h
  exact Wp.done rfl (by decide) H
theorem s_X8_tuningsFrom_fr {M : fM} {l1 l2 l3 : Int} {r : (Int × fM)} (h : s_X8_tuningsFrom M l1 l2 l3 = some r) : fSame s_X8_tuningsFrom_mods M r.2 := by
  unfold s_X8_tuningsFrom at h
  obtain ⟨y4, hy, h⟩ := fbd h
  have k4 := fs_trans (l := s_X8_tuningsFrom_mods) fs_refl (fs_mono (l := s_X8_look_mods) (by decide) (s_X8_look_fr hy))
  obtain ⟨e13, hy, h⟩ := fbd h
  have k13 := fs_trans (l := s_X8_tuningsFrom_mods) k4 (s_X8_tuningsFrom_l13_fr hy)
  obtain rfl := Option.some.inj h
  exact k13
abbrev s_X11_tunings_mods : List (Nat × Option Nat) := [(43, some 5), (43, some 6), (44, none), (45, none), (46, none)]
noncomputable def s_X11_tunings (M : fM) (l1 l2 l3 : Int) : Option (Int × fM) :=
  (s_X11_isAsked M l1 l2 l3).bind fun y4 =>
    if y4 = 0 then
      some ((-1), M)
    else
      (s_X8_tuningsFrom M l1 l2 l3).bind fun y17 =>
        some (y17.1, y17.2)
theorem s_X11_tunings_ok {d L : Nat} {M : fM} {l1 l2 l3 : Int} {r : (Int × fM)} {Q : fO → fH → Prop} (h : s_X11_tunings M l1 l2 l3 = some r) (H : Q (oI r.1) (156, fjl L, r.2)) : Wp (d + 5, 181, 0, 0, 0, [some (fA 0), some (fI l1), some (fI l2), some (fI l3)], []) (156, fjl L, M) Q := by
  unfold s_X11_tunings at h
  refine Wp.run 4 (f' := (d + 5, 181, 4, 0, 0, [some (fA 0), some (fI l1), some (fI l2), some (fI l3)], [fI l3, fI l2, fI l1, fA 0])) (h' := (156, fjl L, M)) rfl trivial ?_
  obtain ⟨y4, hy, h⟩ := fbd h
  refine Wp.call rfl (by decide) (s_X11_isAsked_ok (d := d + 2) hy ?_)
  show Wp (d + 5, 181, 7, 0, 0, [some (fA 0), some (fI l1), some (fI l2), some (fI l3)], [fI y4]) (156, fjl L, M) Q
  refine Wp.br rfl (fun (c : y4 = 0) => ?_) (fun (c : ¬ (y4 = 0)) => ?_)
  · replace h := fps c h
    refine Wp.run 1 (f' := (d + 5, 181, 24, 0, 0, [_, _, _, _], [fI (-1)])) (h' := (156, fjl L, M)) rfl trivial ?_
    obtain rfl := Option.some.inj h
    exact Wp.done rfl (by decide) H
  · replace h := fng c h
    refine Wp.run 5 (f' := (d + 5, 181, 17, 0, 0, [_, _, _, _], [fI l3, fI l2, fI l1, fA 43])) (h' := (156, fjl L, M)) rfl trivial ?_
    obtain ⟨y17, hy, h⟩ := fbd h
    refine Wp.call rfl (by decide) (s_X8_tuningsFrom_ok (d := d + 0) hy ?_)
    show Wp (d + 5, 181, 20, 0, 0, [_, _, _, _], [fI y17.1]) (156, fjl L, y17.2) Q
    refine Wp.run 1 (f' := (d + 5, 181, 24, 0, 0, [_, _, _, _], [fI y17.1])) (h' := (156, fjl L, y17.2)) rfl trivial ?_
    obtain rfl := Option.some.inj h
    exact Wp.done rfl (by decide) H
theorem s_X11_tunings_fr {M : fM} {l1 l2 l3 : Int} {r : (Int × fM)} (h : s_X11_tunings M l1 l2 l3 = some r) : fSame s_X11_tunings_mods M r.2 := by
  unfold s_X11_tunings at h
  obtain ⟨y4, hy, h⟩ := fbd h
  by_cases c : y4 = 0
  · replace h := fps c h
    obtain rfl := Option.some.inj h
    exact fs_refl
  · replace h := fng c h
    obtain ⟨y17, hy, h⟩ := fbd h
    have k17 := fs_trans (l := s_X11_tunings_mods) fs_refl (fs_mono (l := s_X8_tuningsFrom_mods) (by decide) (s_X8_tuningsFrom_fr hy))
    obtain rfl := Option.some.inj h
    exact k17
abbrev s_X12_tuningsOf_mods : List (Nat × Option Nat) := [(122, some 24), (122, some 25), (122, some 26), (122, some 27), (122, some 28), (128, none), (129, none)]
noncomputable def s_X12_tuningsOf_b78 (M : fM) (l1 l2 l4 l5 l6 l7 : Int) : Option ((Int × fM) ⊕ fM) :=
  if 12 ≤ l7 then
    some (.inr M)
  else
    if (0 ≤ l7 ∧ l7 < 12) ∧ fin (l7 + 1) then
      some (.inl ((l7 + 1), (fup M 129 (l7).toNat 0)))
    else none
theorem s_X12_tuningsOf_b78_ok {d L : Nat} {M : fM} {l1 l2 l4 l5 l6 l7 : Int} {o3 : Option fV} {r : ((Int × fM) ⊕ fM)} {Q : fO → fH → Prop} (h : s_X12_tuningsOf_b78 M l1 l2 l4 l5 l6 l7 = some r) (hC : ∀ (l7' : Int) (M' : fM) (o3' : Option fV), r = .inl (l7', M') → Wp (d + 3, 263, 78, 0, 0, [some (fA 122), some (fI l1), some (fI l2), o3', some (fI l4), some (fI l5), some (fI l6), some (fI l7')], []) (156, fjl L, M') Q) (hE : ∀ (e : fM) (o3' o7' : Option fV), r = .inr e → Wp (d + 3, 263, 99, 0, 0, [some (fA 122), some (fI l1), some (fI l2), o3', some (fI l4), some (fI l5), some (fI l6), o7'], []) (156, fjl L, e) Q) : Wp (d + 3, 263, 78, 0, 0, [some (fA 122), some (fI l1), some (fI l2), o3, some (fI l4), some (fI l5), some (fI l6), some (fI l7)], []) (156, fjl L, M) Q := by
  unfold s_X12_tuningsOf_b78 at h
  refine Wp.run 2 (f' := (d + 3, 263, 82, 0, 0, [some (fA 122), some (fI l1), some (fI l2), _, some (fI l4), some (fI l5), some (fI l6), some (fI l7)], [fI 12, fI l7])) (h' := (156, fjl L, M)) rfl trivial ?_
  refine Wp.br rfl (fun (c : 12 ≤ l7) => ?_) (fun (c : ¬ (12 ≤ l7)) => ?_)
  · replace h := fps c h
    exact hE _ _ _ (Option.some.inj h).symm
  · replace h := fng c h
    obtain ⟨⟨g0, g1⟩, h⟩ := fgd h
    refine Wp.run 7 (P := [0 ≤ l7 ∧ l7 < 12]) (f' := (d + 3, 263, 78, 0, 0, [some (fA 122), some (fI l1), some (fI l2), _, some (fI l4), some (fI l5), some (fI l6), some (fI (fw (l7 + 1)))], [])) (h' := (156, fjl L, (fup M 129 (l7).toNat 0))) rfl ?_ ?_
    · exact g0
    rw [fw_id g1]
    exact hC _ _ _ (Option.some.inj h).symm
theorem s_X12_tuningsOf_b78_fr {M : fM} {l1 l2 l4 l5 l6 l7 : Int} {r : ((Int × fM) ⊕ fM)} (h : s_X12_tuningsOf_b78 M l1 l2 l4 l5 l6 l7 = some r) : fSame s_X12_tuningsOf_mods M (Sum.elim (fun s => s.2) (fun e => e) r) := by
  unfold s_X12_tuningsOf_b78 at h
  by_cases c : 12 ≤ l7
  · replace h := fps c h
    obtain rfl := Option.some.inj h
    exact fs_refl
  · replace h := fng c h
    replace h := (fgd h).2
    obtain rfl := Option.some.inj h
    exact fs_up fs_refl (.inl (by decide))
noncomputable def s_X12_tuningsOf_l78 (l1 l2 l4 l5 l6 : Int) (s : (Int × fM)) : Option fM := fLp (fun s => s_X12_tuningsOf_b78 s.2 l1 l2 l4 l5 l6 s.1) s
theorem s_X12_tuningsOf_l78_ok {d L : Nat} {M : fM} {l1 l2 l4 l5 l6 l7 : Int} {o3 : Option fV} {r : fM} {Q : fO → fH → Prop} (h : s_X12_tuningsOf_l78 l1 l2 l4 l5 l6 (l7, M) = some r) (hE : ∀ (e : fM) (o3' o7' : Option fV), r = e → Wp (d + 3, 263, 99, 0, 0, [some (fA 122), some (fI l1), some (fI l2), o3', some (fI l4), some (fI l5), some (fI l6), o7'], []) (156, fjl L, e) Q) : Wp (d + 3, 263, 78, 0, 0, [some (fA 122), some (fI l1), some (fI l2), o3, some (fI l4), some (fI l5), some (fI l6), some (fI l7)], []) (156, fjl L, M) Q := by
  refine fLp_wp (W := fun s => ∀ (o3 : Option fV), Wp (d + 3, 263, 78, 0, 0, [some (fA 122), some (fI l1), some (fI l2), o3, some (fI l4), some (fI l5), some (fI l6), some (fI s.1)], []) (156, fjl L, s.2) Q) (e := r) ?_ h _
  intro s r1 h hC hX o3
  refine s_X12_tuningsOf_b78_ok (d := d) h (fun a0 a1 _ e1 => ?_) (fun e u0 u1 e1 => hE e u0 u1 (hX _ e1).symm)
  exact hC _ e1 _
theorem s_X12_tuningsOf_l78_fr {M : fM} {l1 l2 l4 l5 l6 l7 : Int} {r : fM} (h : s_X12_tuningsOf_l78 l1 l2 l4 l5 l6 (l7, M) = some r) : fSame s_X12_tuningsOf_mods M ((fun e => e) r) := by
  refine fLp_inv (I := fun s => fSame s_X12_tuningsOf_mods M s.2) (J := fun r => fSame s_X12_tuningsOf_mods M ((fun e => e) r)) h fs_refl (fun s s1 hs hb => ?_) (fun s e hs hb => ?_)
  · exact fs_trans hs (s_X12_tuningsOf_b78_fr hb)
  · exact fs_trans hs (s_X12_tuningsOf_b78_fr hb)
noncomputable def s_X12_tuningsOf_j69 (M : fM) (l1 l2 l5 l6 : Int) : Option ((Int × Int × Int × fM) ⊕ (Int × fM)) :=
  if fin (l5 + 1) then
    (s_X12_tuningsOf_l78 l1 l2 1 (l5 + 1) l6 (0, M)).bind fun e78 =>
      (s_X12_tune e78 l6).bind fun y102 =>
        if fin (l6 + 1) then
          some (.inl (1, (l5 + 1), (l6 + 1), y102.2))
        else none
  else none
theorem s_X12_tuningsOf_j69_ok {d L : Nat} {M : fM} {l1 l2 l5 l6 : Int} {o3 o4 o7 : Option fV} {r : ((Int × Int × Int × fM) ⊕ (Int × fM))} {Q : fO → fH → Prop} (h : s_X12_tuningsOf_j69 M l1 l2 l5 l6 = some r) (hC : ∀ (l4' l5' l6' : Int) (M' : fM) (o3' o7' : Option fV), r = .inl (l4', l5', l6', M') → Wp (d + 3, 263, 25, 0, 0, [some (fA 122), some (fI l1), some (fI l2), o3', some (fI l4'), some (fI l5'), some (fI l6'), o7'], []) (156, fjl L, M') Q) (hE : ∀ (e : (Int × fM)) (o0' o1' o2' o3' o4' o6' o7' : Option fV), r = .inr e → Wp (d + 3, 263, 111, 0, 0, [o0', o1', o2', o3', o4', some (fI e.1), o6', o7'], []) (156, fjl L, e.2) Q) : Wp (d + 3, 263, 69, 0, 0, [some (fA 122), some (fI l1), some (fI l2), o3, o4, some (fI l5), some (fI l6), o7], []) (156, fjl L, M) Q := by
  unfold s_X12_tuningsOf_j69 at h
  obtain ⟨g0, h⟩ := fgd h
  refine Wp.run 5 (f' := (d + 3, 263, 78, 0, 0, [some (fA 122), some (fI l1), some (fI l2), _, some (fI 1), some (fI (fw (l5 + 1))), some (fI l6), some (fI 0)], [])) (h' := (156, fjl L, M)) rfl trivial ?_
  rw [fw_id g0]
  obtain ⟨e78, hy, h⟩ := fbd h
  refine s_X12_tuningsOf_l78_ok hy (fun x u3 u7 ex => ?_)
  cases ex
  show Wp (d + 3, 263, 99, 0, 0, [some (fA 122), some (fI l1), some (fI l2), u3, some (fI 1), some (fI (l5 + 1)), some (fI l6), u7], []) (156, fjl L, e78) Q
  refine Wp.run 2 (f' := (d + 3, 263, 102, 0, 0, [some (fA 122), some (fI l1), some (fI l2), _, some (fI 1), some (fI (l5 + 1)), some (fI l6), _], [fI l6, fA 122])) (h' := (156, fjl L, e78)) rfl trivial ?_
  obtain ⟨y102, hy, h⟩ := fbd h
  refine Wp.call rfl (by decide) (s_X12_tune_ok (d := d + 2) hy ?_)
  show Wp (d + 3, 263, 105, 0, 0, [some (fA 122), some (fI l1), some (fI l2), _, some (fI 1), some (fI (l5 + 1)), some (fI l6), _], []) (156, fjl L, y102.2) Q
  obtain ⟨g0, h⟩ := fgd h
  refine Wp.run 2 (f' := (d + 3, 263, 25, 0, 0, [some (fA 122), some (fI l1), some (fI l2), _, some (fI 1), some (fI (l5 + 1)), some (fI (fw (l6 + 1))), _], [])) (h' := (156, fjl L, y102.2)) rfl trivial ?_
  rw [fw_id g0]
  exact hC _ _ _ _ _ _ (Option.some.inj h).symm
theorem s_X12_tuningsOf_j69_fr {M : fM} {l1 l2 l5 l6 : Int} {r : ((Int × Int × Int × fM) ⊕ (Int × fM))} (h : s_X12_tuningsOf_j69 M l1 l2 l5 l6 = some r) : fSame s_X12_tuningsOf_mods M (Sum.elim (fun s => s.2.2.2) (fun e => e.2) r) := by
  unfold s_X12_tuningsOf_j69 at h
  replace h := (fgd h).2
  obtain ⟨e78, hy, h⟩ := fbd h
  have k78 := fs_trans (l := s_X12_tuningsOf_mods) fs_refl (s_X12_tuningsOf_l78_fr hy)
  obtain ⟨y102, hy, h⟩ := fbd h
  have k102 := fs_trans (l := s_X12_tuningsOf_mods) k78 (fs_mono (l := s_X12_tune_mods) (by decide) (s_X12_tune_fr hy))
  replace h := (fgd h).2
  obtain rfl := Option.some.inj h
  exact k102
noncomputable def s_X12_tuningsOf_j45 (M : fM) (l1 l2 l4 l5 l6 : Int) : Option ((Int × Int × Int × fM) ⊕ (Int × fM)) :=
  if l4 = 0 then
    s_X12_tuningsOf_j69 M l1 l2 l5 l6
  else
    (s_X12_offOf M l6 0).bind fun y54 =>
      (s_X12_of M l1 3).bind fun y60 =>
        if y60 < y54 then
          s_X12_tuningsOf_j69 M l1 l2 l5 l6
        else
          if fin (l6 + 1) then
            some (.inl (l4, l5, (l6 + 1), M))
          else none
theorem s_X12_tuningsOf_j45_ok {d L : Nat} {M : fM} {l1 l2 l4 l5 l6 : Int} {o3 o7 : Option fV} {r : ((Int × Int × Int × fM) ⊕ (Int × fM))} {Q : fO → fH → Prop} (h : s_X12_tuningsOf_j45 M l1 l2 l4 l5 l6 = some r) (hC : ∀ (l4' l5' l6' : Int) (M' : fM) (o3' o7' : Option fV), r = .inl (l4', l5', l6', M') → Wp (d + 3, 263, 25, 0, 0, [some (fA 122), some (fI l1), some (fI l2), o3', some (fI l4'), some (fI l5'), some (fI l6'), o7'], []) (156, fjl L, M') Q) (hE : ∀ (e : (Int × fM)) (o0' o1' o2' o3' o4' o6' o7' : Option fV), r = .inr e → Wp (d + 3, 263, 111, 0, 0, [o0', o1', o2', o3', o4', some (fI e.1), o6', o7'], []) (156, fjl L, e.2) Q) : Wp (d + 3, 263, 45, 0, 0, [some (fA 122), some (fI l1), some (fI l2), o3, some (fI l4), some (fI l5), some (fI l6), o7], []) (156, fjl L, M) Q := by
  unfold s_X12_tuningsOf_j45 at h
  refine Wp.run 1 (f' := (d + 3, 263, 47, 0, 0, [some (fA 122), some (fI l1), some (fI l2), _, some (fI l4), some (fI l5), some (fI l6), _], [fI l4])) (h' := (156, fjl L, M)) rfl trivial ?_
  refine Wp.br rfl (fun (c : l4 = 0) => ?_) (fun (c : ¬ (l4 = 0)) => ?_)
  · replace h := fps c h
    exact s_X12_tuningsOf_j69_ok h hC hE
  · replace h := fng c h
    refine Wp.run 3 (f' := (d + 3, 263, 54, 0, 0, [some (fA 122), some (fI l1), some (fI l2), _, some (fI l4), some (fI l5), some (fI l6), _], [fI 0, fI l6, fA 122])) (h' := (156, fjl L, M)) rfl trivial ?_
    obtain ⟨y54, hy, h⟩ := fbd h
    refine Wp.call rfl (by decide) (s_X12_offOf_ok (d := d + 1) hy ?_)
    show Wp (d + 3, 263, 57, 0, 0, [some (fA 122), some (fI l1), some (fI l2), _, some (fI l4), some (fI l5), some (fI l6), _], [fI y54]) (156, fjl L, M) Q
    refine Wp.run 3 (f' := (d + 3, 263, 60, 0, 0, [some (fA 122), some (fI l1), some (fI l2), _, some (fI l4), some (fI l5), some (fI l6), _], [fI 3, fI l1, fA 122, fI y54])) (h' := (156, fjl L, M)) rfl trivial ?_
    obtain ⟨y60, hy, h⟩ := fbd h
    refine Wp.call rfl (by decide) (s_X12_of_ok (d := d + 2) hy ?_)
    show Wp (d + 3, 263, 63, 0, 0, [some (fA 122), some (fI l1), some (fI l2), _, some (fI l4), some (fI l5), some (fI l6), _], [fI y60, fI y54]) (156, fjl L, M) Q
    refine Wp.br rfl (fun (c : y60 < y54) => ?_) (fun (c : ¬ (y60 < y54)) => ?_)
    · replace h := fps c h
      exact s_X12_tuningsOf_j69_ok h hC hE
    · replace h := fng c h
      obtain ⟨g0, h⟩ := fgd h
      refine Wp.run 3 (f' := (d + 3, 263, 25, 0, 0, [some (fA 122), some (fI l1), some (fI l2), _, some (fI l4), some (fI l5), some (fI (fw (l6 + 1))), _], [])) (h' := (156, fjl L, M)) rfl trivial ?_
      rw [fw_id g0]
      exact hC _ _ _ _ _ _ (Option.some.inj h).symm
theorem s_X12_tuningsOf_j45_fr {M : fM} {l1 l2 l4 l5 l6 : Int} {r : ((Int × Int × Int × fM) ⊕ (Int × fM))} (h : s_X12_tuningsOf_j45 M l1 l2 l4 l5 l6 = some r) : fSame s_X12_tuningsOf_mods M (Sum.elim (fun s => s.2.2.2) (fun e => e.2) r) := by
  unfold s_X12_tuningsOf_j45 at h
  by_cases c : l4 = 0
  · replace h := fps c h
    exact fs_trans fs_refl (s_X12_tuningsOf_j69_fr h)
  · replace h := fng c h
    obtain ⟨y54, hy, h⟩ := fbd h
    obtain ⟨y60, hy, h⟩ := fbd h
    by_cases c : y60 < y54
    · replace h := fps c h
      exact fs_trans fs_refl (s_X12_tuningsOf_j69_fr h)
    · replace h := fng c h
      replace h := (fgd h).2
      obtain rfl := Option.some.inj h
      exact fs_refl
noncomputable def s_X12_tuningsOf_b25 (M : fM) (l1 l2 l4 l5 l6 : Int) : Option ((Int × Int × Int × fM) ⊕ (Int × fM)) :=
  if 364 ≤ l6 then
    some (.inr (l5, M))
  else
    if l6 ≤ l2 then
      s_X12_tuningsOf_j45 M l1 l2 l4 l5 l6
    else
      (s_X12_pass M l6).bind fun y42 =>
        s_X12_tuningsOf_j45 y42.2 l1 l2 l4 l5 l6
theorem s_X12_tuningsOf_b25_ok {d L : Nat} {M : fM} {l1 l2 l4 l5 l6 : Int} {o3 o7 : Option fV} {r : ((Int × Int × Int × fM) ⊕ (Int × fM))} {Q : fO → fH → Prop} (h : s_X12_tuningsOf_b25 M l1 l2 l4 l5 l6 = some r) (hC : ∀ (l4' l5' l6' : Int) (M' : fM) (o3' o7' : Option fV), r = .inl (l4', l5', l6', M') → Wp (d + 3, 263, 25, 0, 0, [some (fA 122), some (fI l1), some (fI l2), o3', some (fI l4'), some (fI l5'), some (fI l6'), o7'], []) (156, fjl L, M') Q) (hE : ∀ (e : (Int × fM)) (o0' o1' o2' o3' o4' o6' o7' : Option fV), r = .inr e → Wp (d + 3, 263, 111, 0, 0, [o0', o1', o2', o3', o4', some (fI e.1), o6', o7'], []) (156, fjl L, e.2) Q) : Wp (d + 3, 263, 25, 0, 0, [some (fA 122), some (fI l1), some (fI l2), o3, some (fI l4), some (fI l5), some (fI l6), o7], []) (156, fjl L, M) Q := by
  unfold s_X12_tuningsOf_b25 at h
  refine Wp.run 2 (f' := (d + 3, 263, 30, 0, 0, [some (fA 122), some (fI l1), some (fI l2), _, some (fI l4), some (fI l5), some (fI l6), _], [fI 364, fI l6])) (h' := (156, fjl L, M)) rfl trivial ?_
  refine Wp.br rfl (fun (c : 364 ≤ l6) => ?_) (fun (c : ¬ (364 ≤ l6)) => ?_)
  · replace h := fps c h
    exact hE _ _ _ _ _ _ _ _ (Option.some.inj h).symm
  · replace h := fng c h
    refine Wp.run 2 (f' := (d + 3, 263, 36, 0, 0, [some (fA 122), some (fI l1), some (fI l2), _, some (fI l4), some (fI l5), some (fI l6), _], [fI l2, fI l6])) (h' := (156, fjl L, M)) rfl trivial ?_
    refine Wp.br rfl (fun (c : l6 ≤ l2) => ?_) (fun (c : ¬ (l6 ≤ l2)) => ?_)
    · replace h := fps c h
      exact s_X12_tuningsOf_j45_ok h hC hE
    · replace h := fng c h
      refine Wp.run 2 (f' := (d + 3, 263, 42, 0, 0, [some (fA 122), some (fI l1), some (fI l2), _, some (fI l4), some (fI l5), some (fI l6), _], [fI l6, fA 122])) (h' := (156, fjl L, M)) rfl trivial ?_
      obtain ⟨y42, hy, h⟩ := fbd h
      refine Wp.call rfl (by decide) (s_X12_pass_ok (d := d + 1) hy ?_)
      show Wp (d + 3, 263, 45, 0, 0, [some (fA 122), some (fI l1), some (fI l2), _, some (fI l4), some (fI l5), some (fI l6), _], []) (156, fjl L, y42.2) Q
      exact s_X12_tuningsOf_j45_ok h hC hE
theorem s_X12_tuningsOf_b25_fr {M : fM} {l1 l2 l4 l5 l6 : Int} {r : ((Int × Int × Int × fM) ⊕ (Int × fM))} (h : s_X12_tuningsOf_b25 M l1 l2 l4 l5 l6 = some r) : fSame s_X12_tuningsOf_mods M (Sum.elim (fun s => s.2.2.2) (fun e => e.2) r) := by
  unfold s_X12_tuningsOf_b25 at h
  by_cases c : 364 ≤ l6
  · replace h := fps c h
    obtain rfl := Option.some.inj h
    exact fs_refl
  · replace h := fng c h
    by_cases c : l6 ≤ l2
    · replace h := fps c h
      exact fs_trans fs_refl (s_X12_tuningsOf_j45_fr h)
    · replace h := fng c h
      obtain ⟨y42, hy, h⟩ := fbd h
      have k42 := fs_trans (l := s_X12_tuningsOf_mods) fs_refl (fs_mono (l := s_X12_pass_mods) (by decide) (s_X12_pass_fr hy))
      exact fs_trans k42 (s_X12_tuningsOf_j45_fr h)
noncomputable def s_X12_tuningsOf_l25 (l1 l2 : Int) (s : (Int × Int × Int × fM)) : Option (Int × fM) := fLp (fun s => s_X12_tuningsOf_b25 s.2.2.2 l1 l2 s.1 s.2.1 s.2.2.1) s
theorem s_X12_tuningsOf_l25_ok {d L : Nat} {M : fM} {l1 l2 l4 l5 l6 : Int} {o3 o7 : Option fV} {r : (Int × fM)} {Q : fO → fH → Prop} (h : s_X12_tuningsOf_l25 l1 l2 (l4, l5, l6, M) = some r) (hE : ∀ (e : (Int × fM)) (o0' o1' o2' o3' o4' o6' o7' : Option fV), r = e → Wp (d + 3, 263, 111, 0, 0, [o0', o1', o2', o3', o4', some (fI e.1), o6', o7'], []) (156, fjl L, e.2) Q) : Wp (d + 3, 263, 25, 0, 0, [some (fA 122), some (fI l1), some (fI l2), o3, some (fI l4), some (fI l5), some (fI l6), o7], []) (156, fjl L, M) Q := by
  refine fLp_wp (W := fun s => ∀ (o3 o7 : Option fV), Wp (d + 3, 263, 25, 0, 0, [some (fA 122), some (fI l1), some (fI l2), o3, some (fI s.1), some (fI s.2.1), some (fI s.2.2.1), o7], []) (156, fjl L, s.2.2.2) Q) (e := r) ?_ h _ _
  intro s r1 h hC hX o3 o7
  refine s_X12_tuningsOf_b25_ok (d := d) h (fun a0 a1 a2 a3 _ _ e1 => ?_) (fun e u0 u1 u2 u3 u4 u5 u6 e1 => hE e u0 u1 u2 u3 u4 u5 u6 (hX _ e1).symm)
  exact hC _ e1 _ _
theorem s_X12_tuningsOf_l25_fr {M : fM} {l1 l2 l4 l5 l6 : Int} {r : (Int × fM)} (h : s_X12_tuningsOf_l25 l1 l2 (l4, l5, l6, M) = some r) : fSame s_X12_tuningsOf_mods M ((fun e => e.2) r) := by
  refine fLp_inv (I := fun s => fSame s_X12_tuningsOf_mods M s.2.2.2) (J := fun r => fSame s_X12_tuningsOf_mods M ((fun e => e.2) r)) h fs_refl (fun s s1 hs hb => ?_) (fun s e hs hb => ?_)
  · exact fs_trans hs (s_X12_tuningsOf_b25_fr hb)
  · exact fs_trans hs (s_X12_tuningsOf_b25_fr hb)
noncomputable def s_X12_tuningsOf_j19 (M : fM) (l1 l2 l4 : Int) : Option (Int × fM) :=
  (s_X12_tuningsOf_l25 l1 l2 (l4, 0, l2, M)).bind fun e25 =>
    some (e25.1, e25.2)
theorem s_X12_tuningsOf_j19_ok {d L : Nat} {M : fM} {l1 l2 l4 : Int} {o3 o5 o6 o7 : Option fV} {r : (Int × fM)} {Q : fO → fH → Prop} (h : s_X12_tuningsOf_j19 M l1 l2 l4 = some r) (H : Q (oI r.1) (156, fjl L, r.2)) : Wp (d + 3, 263, 19, 0, 0, [some (fA 122), some (fI l1), some (fI l2), o3, some (fI l4), o5, o6, o7], []) (156, fjl L, M) Q := by
  unfold s_X12_tuningsOf_j19 at h
  refine Wp.run 4 (f' := (d + 3, 263, 25, 0, 0, [some (fA 122), some (fI l1), some (fI l2), _, some (fI l4), some (fI 0), some (fI l2), _], [])) (h' := (156, fjl L, M)) rfl trivial ?_
  obtain ⟨e25, hy, h⟩ := fbd h
  refine s_X12_tuningsOf_l25_ok hy (fun x u0 u1 u2 u3 u4 u6 u7 ex => ?_)
  cases ex
  show Wp (d + 3, 263, 111, 0, 0, [u0, u1, u2, u3, u4, some (fI e25.1), u6, u7], []) (156, fjl L, e25.2) Q
  refine Wp.run 1 (f' := (d + 3, 263, 113, 0, 0, [_, _, _, _, _, _, _, _], [fI e25.1])) (h' := (156, fjl L, e25.2)) rfl trivial ?_
  obtain rfl := Option.some.inj h
  exact Wp.done rfl (by decide) H
theorem s_X12_tuningsOf_j19_fr {M : fM} {l1 l2 l4 : Int} {r : (Int × fM)} (h : s_X12_tuningsOf_j19 M l1 l2 l4 = some r) : fSame s_X12_tuningsOf_mods M r.2 := by
  unfold s_X12_tuningsOf_j19 at h
  obtain ⟨e25, hy, h⟩ := fbd h
  have k25 := fs_trans (l := s_X12_tuningsOf_mods) fs_refl (s_X12_tuningsOf_l25_fr hy)
  obtain rfl := Option.some.inj h
  exact k25
noncomputable def s_X12_tuningsOf (M : fM) (l1 l2 l3 : Int) : Option (Int × fM) :=
  (s_X12_course M l1 l2 l3).bind fun y4 =>
    if y4.1 = 0 then
      s_X12_tuningsOf_j19 y4.2 l1 l2 y4.1
    else
      (s_X12_passTo y4.2 l2).bind fun y16 =>
        s_X12_tuningsOf_j19 y16.2 l1 l2 y4.1
theorem s_X12_tuningsOf_ok {d L : Nat} {M : fM} {l1 l2 l3 : Int} {r : (Int × fM)} {Q : fO → fH → Prop} (h : s_X12_tuningsOf M l1 l2 l3 = some r) (H : Q (oI r.1) (156, fjl L, r.2)) : Wp (d + 3, 263, 0, 0, 0, [some (fA 122), some (fI l1), some (fI l2), some (fI l3), none, none, none, none], []) (156, fjl L, M) Q := by
  unfold s_X12_tuningsOf at h
  refine Wp.run 4 (f' := (d + 3, 263, 4, 0, 0, [some (fA 122), some (fI l1), some (fI l2), _, _, _, _, _], [fI l3, fI l2, fI l1, fA 122])) (h' := (156, fjl L, M)) rfl trivial ?_
  obtain ⟨y4, hy, h⟩ := fbd h
  refine Wp.call rfl (by decide) (s_X12_course_ok (d := d + 0) hy ?_)
  show Wp (d + 3, 263, 7, 0, 0, [some (fA 122), some (fI l1), some (fI l2), _, _, _, _, _], [fI y4.1]) (156, fjl L, y4.2) Q
  refine Wp.run 2 (f' := (d + 3, 263, 11, 0, 0, [some (fA 122), some (fI l1), some (fI l2), _, some (fI y4.1), _, _, _], [fI y4.1])) (h' := (156, fjl L, y4.2)) rfl trivial ?_
  refine Wp.br rfl (fun (c : y4.1 = 0) => ?_) (fun (c : ¬ (y4.1 = 0)) => ?_)
  · replace h := fps c h
    exact s_X12_tuningsOf_j19_ok h H
  · replace h := fng c h
    refine Wp.run 2 (f' := (d + 3, 263, 16, 0, 0, [some (fA 122), some (fI l1), some (fI l2), _, some (fI y4.1), _, _, _], [fI l2, fA 122])) (h' := (156, fjl L, y4.2)) rfl trivial ?_
    obtain ⟨y16, hy, h⟩ := fbd h
    refine Wp.call rfl (by decide) (s_X12_passTo_ok (d := d + 0) hy ?_)
    show Wp (d + 3, 263, 19, 0, 0, [some (fA 122), some (fI l1), some (fI l2), _, some (fI y4.1), _, _, _], []) (156, fjl L, y16.2) Q
    exact s_X12_tuningsOf_j19_ok h H
theorem s_X12_tuningsOf_fr {M : fM} {l1 l2 l3 : Int} {r : (Int × fM)} (h : s_X12_tuningsOf M l1 l2 l3 = some r) : fSame s_X12_tuningsOf_mods M r.2 := by
  unfold s_X12_tuningsOf at h
  obtain ⟨y4, hy, h⟩ := fbd h
  have k4 := fs_trans (l := s_X12_tuningsOf_mods) fs_refl (fs_mono (l := s_X12_course_mods) (by decide) (s_X12_course_fr hy))
  by_cases c : y4.1 = 0
  · replace h := fps c h
    exact fs_trans k4 (s_X12_tuningsOf_j19_fr h)
  · replace h := fng c h
    obtain ⟨y16, hy, h⟩ := fbd h
    have k16 := fs_trans (l := s_X12_tuningsOf_mods) k4 (fs_mono (l := s_X12_passTo_mods) (by decide) (s_X12_passTo_fr hy))
    exact fs_trans k16 (s_X12_tuningsOf_j19_fr h)
abbrev s_X12_tunings_mods : List (Nat × Option Nat) := [(122, some 0), (122, some 24), (122, some 25), (122, some 26), (122, some 27), (122, some 28), (128, none), (129, none)]
noncomputable def s_X12_tunings (M : fM) (l1 l2 l3 : Int) : Option (Int × fM) :=
  (s_X12_isPiano (fup M 122 0 0) l1).bind fun y7 =>
    if y7 = 0 then
      some ((-1), (fup M 122 0 0))
    else
      (s_X12_isDay (fup M 122 0 0) l2).bind fun y14 =>
        if y14 = 0 then
          some ((-1), (fup M 122 0 0))
        else
          (s_X12_isKnown (fup M 122 0 0) l3).bind fun y21 =>
            if y21 = 0 then
              some ((-1), (fup M 122 0 0))
            else
              (s_X12_tuningsOf (fup M 122 0 0) l1 l2 l3).bind fun y31 =>
                some (y31.1, y31.2)
theorem s_X12_tunings_ok {d L : Nat} {M : fM} {l1 l2 l3 : Int} {r : (Int × fM)} {Q : fO → fH → Prop} (h : s_X12_tunings M l1 l2 l3 = some r) (H : Q (oI r.1) (156, fjl L, r.2)) : Wp (d + 4, 264, 0, 0, 0, [some (fA 122), some (fI l1), some (fI l2), some (fI l3)], []) (156, fjl L, M) Q := by
  unfold s_X12_tunings at h
  refine Wp.run 5 (f' := (d + 4, 264, 7, 0, 0, [some (fA 122), some (fI l1), some (fI l2), some (fI l3)], [fI l1, fA 122])) (h' := (156, fjl L, (fup M 122 0 0))) rfl trivial ?_
  obtain ⟨y7, hy, h⟩ := fbd h
  refine Wp.call rfl (by decide) (s_X12_isPiano_ok (d := d + 2) hy ?_)
  show Wp (d + 4, 264, 10, 0, 0, [some (fA 122), some (fI l1), some (fI l2), some (fI l3)], [fI y7]) (156, fjl L, (fup M 122 0 0)) Q
  refine Wp.br rfl (fun (c : y7 = 0) => ?_) (fun (c : ¬ (y7 = 0)) => ?_)
  · replace h := fps c h
    refine Wp.run 1 (f' := (d + 4, 264, 38, 0, 0, [_, _, _, _], [fI (-1)])) (h' := (156, fjl L, (fup M 122 0 0))) rfl trivial ?_
    obtain rfl := Option.some.inj h
    exact Wp.done rfl (by decide) H
  · replace h := fng c h
    refine Wp.run 1 (f' := (d + 4, 264, 14, 0, 0, [some (fA 122), some (fI l1), some (fI l2), some (fI l3)], [fI l2])) (h' := (156, fjl L, (fup M 122 0 0))) rfl trivial ?_
    obtain ⟨y14, hy, h⟩ := fbd h
    refine Wp.call rfl (by decide) (s_X12_isDay_ok (d := d + 2) hy ?_)
    show Wp (d + 4, 264, 17, 0, 0, [some (fA 122), some (fI l1), some (fI l2), some (fI l3)], [fI y14]) (156, fjl L, (fup M 122 0 0)) Q
    refine Wp.br rfl (fun (c : y14 = 0) => ?_) (fun (c : ¬ (y14 = 0)) => ?_)
    · replace h := fps c h
      refine Wp.run 1 (f' := (d + 4, 264, 38, 0, 0, [_, _, _, _], [fI (-1)])) (h' := (156, fjl L, (fup M 122 0 0))) rfl trivial ?_
      obtain rfl := Option.some.inj h
      exact Wp.done rfl (by decide) H
    · replace h := fng c h
      refine Wp.run 1 (f' := (d + 4, 264, 21, 0, 0, [some (fA 122), some (fI l1), some (fI l2), some (fI l3)], [fI l3])) (h' := (156, fjl L, (fup M 122 0 0))) rfl trivial ?_
      obtain ⟨y21, hy, h⟩ := fbd h
      refine Wp.call rfl (by decide) (s_X12_isKnown_ok (d := d + 2) hy ?_)
      show Wp (d + 4, 264, 24, 0, 0, [some (fA 122), some (fI l1), some (fI l2), some (fI l3)], [fI y21]) (156, fjl L, (fup M 122 0 0)) Q
      refine Wp.br rfl (fun (c : y21 = 0) => ?_) (fun (c : ¬ (y21 = 0)) => ?_)
      · replace h := fps c h
        refine Wp.run 1 (f' := (d + 4, 264, 38, 0, 0, [_, _, _, _], [fI (-1)])) (h' := (156, fjl L, (fup M 122 0 0))) rfl trivial ?_
        obtain rfl := Option.some.inj h
        exact Wp.done rfl (by decide) H
      · replace h := fng c h
        refine Wp.run 4 (f' := (d + 4, 264, 31, 0, 0, [_, _, _, _], [fI l3, fI l2, fI l1, fA 122])) (h' := (156, fjl L, (fup M 122 0 0))) rfl trivial ?_
        obtain ⟨y31, hy, h⟩ := fbd h
        refine Wp.call rfl (by decide) (s_X12_tuningsOf_ok (d := d + 0) hy ?_)
        show Wp (d + 4, 264, 34, 0, 0, [_, _, _, _], [fI y31.1]) (156, fjl L, y31.2) Q
        refine Wp.run 1 (f' := (d + 4, 264, 38, 0, 0, [_, _, _, _], [fI y31.1])) (h' := (156, fjl L, y31.2)) rfl trivial ?_
        obtain rfl := Option.some.inj h
        exact Wp.done rfl (by decide) H
theorem s_X12_tunings_fr {M : fM} {l1 l2 l3 : Int} {r : (Int × fM)} (h : s_X12_tunings M l1 l2 l3 = some r) : fSame s_X12_tunings_mods M r.2 := by
  unfold s_X12_tunings at h
  obtain ⟨y7, hy, h⟩ := fbd h
  by_cases c : y7 = 0
  · replace h := fps c h
    obtain rfl := Option.some.inj h
    exact fs_up fs_refl (.inr (by decide))
  · replace h := fng c h
    obtain ⟨y14, hy, h⟩ := fbd h
    by_cases c : y14 = 0
    · replace h := fps c h
      obtain rfl := Option.some.inj h
      exact fs_up fs_refl (.inr (by decide))
    · replace h := fng c h
      obtain ⟨y21, hy, h⟩ := fbd h
      by_cases c : y21 = 0
      · replace h := fps c h
        obtain rfl := Option.some.inj h
        exact fs_up fs_refl (.inr (by decide))
      · replace h := fng c h
        obtain ⟨y31, hy, h⟩ := fbd h
        have k31 := fs_trans (l := s_X12_tunings_mods) (fs_up fs_refl (.inr (by decide))) (fs_mono (l := s_X12_tuningsOf_mods) (by decide) (s_X12_tuningsOf_fr hy))
        obtain rfl := Option.some.inj h
        exact k31
abbrev s_X11_past_mods : List (Nat × Option Nat) := [(43, some 5), (43, some 6), (44, none), (45, none), (46, none)]
noncomputable def s_X11_past (M : fM) (l1 l2 l3 : Int) : Option (Int × fM) :=
  (s_X11_isAsked M l1 l2 l3).bind fun y4 =>
    if ¬ y4 = 0 then
      (s_X8_tuningsFrom M l1 l2 l3).bind fun y19 =>
        (s_X2_feeOf_4 y19.2 l1 l2).bind fun y28 =>
          if fin (y19.1 * y28) then
            (s_X2_fact_4 y19.2 l1 5).bind fun y42 =>
              if (y19.1 * y28) ≤ y42 then
                some (0, y19.2)
              else
                some (1, y19.2)
          else none
    else
      some ((-1), M)
theorem s_X11_past_ok {d L : Nat} {M : fM} {l1 l2 l3 : Int} {r : (Int × fM)} {Q : fO → fH → Prop} (h : s_X11_past M l1 l2 l3 = some r) (H : Q (oI r.1) (156, fjl L, r.2)) : Wp (d + 5, 182, 0, 0, 0, [some (fA 0), some (fI l1), some (fI l2), some (fI l3), none], []) (156, fjl L, M) Q := by
  unfold s_X11_past at h
  refine Wp.run 4 (f' := (d + 5, 182, 4, 0, 0, [some (fA 0), some (fI l1), some (fI l2), some (fI l3), _], [fI l3, fI l2, fI l1, fA 0])) (h' := (156, fjl L, M)) rfl trivial ?_
  obtain ⟨y4, hy, h⟩ := fbd h
  refine Wp.call rfl (by decide) (s_X11_isAsked_ok (d := d + 2) hy ?_)
  show Wp (d + 5, 182, 7, 0, 0, [some (fA 0), some (fI l1), some (fI l2), some (fI l3), _], [fI y4]) (156, fjl L, M) Q
  refine Wp.br rfl (fun (c : ¬ y4 = 0) => ?_) (fun (c : ¬ (¬ y4 = 0)) => ?_)
  · replace h := fps c h
    refine Wp.run 5 (f' := (d + 5, 182, 19, 0, 0, [some (fA 0), some (fI l1), some (fI l2), _, _], [fI l3, fI l2, fI l1, fA 43])) (h' := (156, fjl L, M)) rfl trivial ?_
    obtain ⟨y19, hy, h⟩ := fbd h
    refine Wp.call rfl (by decide) (s_X8_tuningsFrom_ok (d := d + 0) hy ?_)
    show Wp (d + 5, 182, 22, 0, 0, [some (fA 0), some (fI l1), some (fI l2), _, _], [fI y19.1]) (156, fjl L, y19.2) Q
    refine Wp.run 4 (f' := (d + 5, 182, 28, 0, 0, [some (fA 0), some (fI l1), _, _, _], [fI l2, fI l1, fA 4, fI y19.1])) (h' := (156, fjl L, y19.2)) rfl trivial ?_
    obtain ⟨y28, hy, h⟩ := fbd h
    refine Wp.call rfl (by decide) (s_X2_feeOf_4_ok (d := d + 3) hy ?_)
    show Wp (d + 5, 182, 31, 0, 0, [some (fA 0), some (fI l1), _, _, _], [fI y28, fI y19.1]) (156, fjl L, y19.2) Q
    obtain ⟨g0, h⟩ := fgd h
    refine Wp.run 7 (f' := (d + 5, 182, 42, 0, 0, [_, _, _, _, _], [fI 5, fI l1, fA 4, fI (fw (y19.1 * y28))])) (h' := (156, fjl L, y19.2)) rfl trivial ?_
    rw [fw_id g0]
    obtain ⟨y42, hy, h⟩ := fbd h
    refine Wp.call rfl (by decide) (s_X2_fact_4_ok (d := d + 4) hy ?_)
    show Wp (d + 5, 182, 45, 0, 0, [_, _, _, _, _], [fI y42, fI (y19.1 * y28)]) (156, fjl L, y19.2) Q
    refine Wp.br rfl (fun (c : (y19.1 * y28) ≤ y42) => ?_) (fun (c : ¬ ((y19.1 * y28) ≤ y42)) => ?_)
    · replace h := fps c h
      refine Wp.run 1 (f' := (d + 5, 182, 53, 0, 0, [_, _, _, _, _], [fI 0])) (h' := (156, fjl L, y19.2)) rfl trivial ?_
      obtain rfl := Option.some.inj h
      exact Wp.done rfl (by decide) H
    · replace h := fng c h
      refine Wp.run 2 (f' := (d + 5, 182, 53, 0, 0, [_, _, _, _, _], [fI 1])) (h' := (156, fjl L, y19.2)) rfl trivial ?_
      obtain rfl := Option.some.inj h
      exact Wp.done rfl (by decide) H
  · replace h := fng c h
    refine Wp.run 1 (f' := (d + 5, 182, 11, 0, 0, [_, _, _, _, _], [fI (-1)])) (h' := (156, fjl L, M)) rfl trivial ?_
    obtain rfl := Option.some.inj h
    exact Wp.done rfl (by decide) H
theorem s_X11_past_fr {M : fM} {l1 l2 l3 : Int} {r : (Int × fM)} (h : s_X11_past M l1 l2 l3 = some r) : fSame s_X11_past_mods M r.2 := by
  unfold s_X11_past at h
  obtain ⟨y4, hy, h⟩ := fbd h
  by_cases c : ¬ y4 = 0
  · replace h := fps c h
    obtain ⟨y19, hy, h⟩ := fbd h
    have k19 := fs_trans (l := s_X11_past_mods) fs_refl (fs_mono (l := s_X8_tuningsFrom_mods) (by decide) (s_X8_tuningsFrom_fr hy))
    obtain ⟨y28, hy, h⟩ := fbd h
    replace h := (fgd h).2
    obtain ⟨y42, hy, h⟩ := fbd h
    by_cases c : (y19.1 * y28) ≤ y42
    · replace h := fps c h
      obtain rfl := Option.some.inj h
      exact k19
    · replace h := fng c h
      obtain rfl := Option.some.inj h
      exact k19
  · replace h := fng c h
    obtain rfl := Option.some.inj h
    exact fs_refl
abbrev s_X12_past_mods : List (Nat × Option Nat) := [(122, some 0), (122, some 24), (122, some 25), (122, some 26), (122, some 27), (122, some 28), (128, none), (129, none)]
noncomputable def s_X12_past (M : fM) (l1 l2 l3 : Int) : Option (Int × fM) :=
  (s_X12_isPiano (fup M 122 0 0) l1).bind fun y7 =>
    if y7 = 0 then
      some ((-1), (fup M 122 0 0))
    else
      (s_X12_isDay (fup M 122 0 0) l2).bind fun y14 =>
        if y14 = 0 then
          some ((-1), (fup M 122 0 0))
        else
          (s_X12_isKnown (fup M 122 0 0) l3).bind fun y21 =>
            if ¬ y21 = 0 then
              (s_X12_tuningsOf (fup M 122 0 0) l1 l2 l3).bind fun y33 =>
                (s_X12_feeOf y33.2 l1 l2).bind fun y39 =>
                  if fin (y33.1 * y39) then
                    (s_X12_of y33.2 l1 5).bind fun y46 =>
                      if (y33.1 * y39) ≤ y46 then
                        some (0, y33.2)
                      else
                        some (1, y33.2)
                  else none
            else
              some ((-1), (fup M 122 0 0))
theorem s_X12_past_ok {d L : Nat} {M : fM} {l1 l2 l3 : Int} {r : (Int × fM)} {Q : fO → fH → Prop} (h : s_X12_past M l1 l2 l3 = some r) (H : Q (oI r.1) (156, fjl L, r.2)) : Wp (d + 4, 265, 0, 0, 0, [some (fA 122), some (fI l1), some (fI l2), some (fI l3)], []) (156, fjl L, M) Q := by
  unfold s_X12_past at h
  refine Wp.run 5 (f' := (d + 4, 265, 7, 0, 0, [some (fA 122), some (fI l1), some (fI l2), some (fI l3)], [fI l1, fA 122])) (h' := (156, fjl L, (fup M 122 0 0))) rfl trivial ?_
  obtain ⟨y7, hy, h⟩ := fbd h
  refine Wp.call rfl (by decide) (s_X12_isPiano_ok (d := d + 2) hy ?_)
  show Wp (d + 4, 265, 10, 0, 0, [some (fA 122), some (fI l1), some (fI l2), some (fI l3)], [fI y7]) (156, fjl L, (fup M 122 0 0)) Q
  refine Wp.br rfl (fun (c : y7 = 0) => ?_) (fun (c : ¬ (y7 = 0)) => ?_)
  · replace h := fps c h
    refine Wp.run 1 (f' := (d + 4, 265, 28, 0, 0, [_, _, _, _], [fI (-1)])) (h' := (156, fjl L, (fup M 122 0 0))) rfl trivial ?_
    obtain rfl := Option.some.inj h
    exact Wp.done rfl (by decide) H
  · replace h := fng c h
    refine Wp.run 1 (f' := (d + 4, 265, 14, 0, 0, [some (fA 122), some (fI l1), some (fI l2), some (fI l3)], [fI l2])) (h' := (156, fjl L, (fup M 122 0 0))) rfl trivial ?_
    obtain ⟨y14, hy, h⟩ := fbd h
    refine Wp.call rfl (by decide) (s_X12_isDay_ok (d := d + 2) hy ?_)
    show Wp (d + 4, 265, 17, 0, 0, [some (fA 122), some (fI l1), some (fI l2), some (fI l3)], [fI y14]) (156, fjl L, (fup M 122 0 0)) Q
    refine Wp.br rfl (fun (c : y14 = 0) => ?_) (fun (c : ¬ (y14 = 0)) => ?_)
    · replace h := fps c h
      refine Wp.run 1 (f' := (d + 4, 265, 28, 0, 0, [_, _, _, _], [fI (-1)])) (h' := (156, fjl L, (fup M 122 0 0))) rfl trivial ?_
      obtain rfl := Option.some.inj h
      exact Wp.done rfl (by decide) H
    · replace h := fng c h
      refine Wp.run 1 (f' := (d + 4, 265, 21, 0, 0, [some (fA 122), some (fI l1), some (fI l2), some (fI l3)], [fI l3])) (h' := (156, fjl L, (fup M 122 0 0))) rfl trivial ?_
      obtain ⟨y21, hy, h⟩ := fbd h
      refine Wp.call rfl (by decide) (s_X12_isKnown_ok (d := d + 2) hy ?_)
      show Wp (d + 4, 265, 24, 0, 0, [some (fA 122), some (fI l1), some (fI l2), some (fI l3)], [fI y21]) (156, fjl L, (fup M 122 0 0)) Q
      refine Wp.br rfl (fun (c : ¬ y21 = 0) => ?_) (fun (c : ¬ (¬ y21 = 0)) => ?_)
      · replace h := fps c h
        refine Wp.run 4 (f' := (d + 4, 265, 33, 0, 0, [some (fA 122), some (fI l1), some (fI l2), _], [fI l3, fI l2, fI l1, fA 122])) (h' := (156, fjl L, (fup M 122 0 0))) rfl trivial ?_
        obtain ⟨y33, hy, h⟩ := fbd h
        refine Wp.call rfl (by decide) (s_X12_tuningsOf_ok (d := d + 0) hy ?_)
        show Wp (d + 4, 265, 36, 0, 0, [some (fA 122), some (fI l1), some (fI l2), _], [fI y33.1]) (156, fjl L, y33.2) Q
        refine Wp.run 3 (f' := (d + 4, 265, 39, 0, 0, [some (fA 122), some (fI l1), _, _], [fI l2, fI l1, fA 122, fI y33.1])) (h' := (156, fjl L, y33.2)) rfl trivial ?_
        obtain ⟨y39, hy, h⟩ := fbd h
        refine Wp.call rfl (by decide) (s_X12_feeOf_ok (d := d + 2) hy ?_)
        show Wp (d + 4, 265, 42, 0, 0, [some (fA 122), some (fI l1), _, _], [fI y39, fI y33.1]) (156, fjl L, y33.2) Q
        obtain ⟨g0, h⟩ := fgd h
        refine Wp.run 4 (f' := (d + 4, 265, 46, 0, 0, [_, _, _, _], [fI 5, fI l1, fA 122, fI (fw (y33.1 * y39))])) (h' := (156, fjl L, y33.2)) rfl trivial ?_
        rw [fw_id g0]
        obtain ⟨y46, hy, h⟩ := fbd h
        refine Wp.call rfl (by decide) (s_X12_of_ok (d := d + 3) hy ?_)
        show Wp (d + 4, 265, 49, 0, 0, [_, _, _, _], [fI y46, fI (y33.1 * y39)]) (156, fjl L, y33.2) Q
        refine Wp.br rfl (fun (c : (y33.1 * y39) ≤ y46) => ?_) (fun (c : ¬ ((y33.1 * y39) ≤ y46)) => ?_)
        · replace h := fps c h
          refine Wp.run 1 (f' := (d + 4, 265, 57, 0, 0, [_, _, _, _], [fI 0])) (h' := (156, fjl L, y33.2)) rfl trivial ?_
          obtain rfl := Option.some.inj h
          exact Wp.done rfl (by decide) H
        · replace h := fng c h
          refine Wp.run 2 (f' := (d + 4, 265, 57, 0, 0, [_, _, _, _], [fI 1])) (h' := (156, fjl L, y33.2)) rfl trivial ?_
          obtain rfl := Option.some.inj h
          exact Wp.done rfl (by decide) H
      · replace h := fng c h
        refine Wp.run 1 (f' := (d + 4, 265, 28, 0, 0, [_, _, _, _], [fI (-1)])) (h' := (156, fjl L, (fup M 122 0 0))) rfl trivial ?_
        obtain rfl := Option.some.inj h
        exact Wp.done rfl (by decide) H
theorem s_X12_past_fr {M : fM} {l1 l2 l3 : Int} {r : (Int × fM)} (h : s_X12_past M l1 l2 l3 = some r) : fSame s_X12_past_mods M r.2 := by
  unfold s_X12_past at h
  obtain ⟨y7, hy, h⟩ := fbd h
  by_cases c : y7 = 0
  · replace h := fps c h
    obtain rfl := Option.some.inj h
    exact fs_up fs_refl (.inr (by decide))
  · replace h := fng c h
    obtain ⟨y14, hy, h⟩ := fbd h
    by_cases c : y14 = 0
    · replace h := fps c h
      obtain rfl := Option.some.inj h
      exact fs_up fs_refl (.inr (by decide))
    · replace h := fng c h
      obtain ⟨y21, hy, h⟩ := fbd h
      by_cases c : ¬ y21 = 0
      · replace h := fps c h
        obtain ⟨y33, hy, h⟩ := fbd h
        have k33 := fs_trans (l := s_X12_past_mods) (fs_up fs_refl (.inr (by decide))) (fs_mono (l := s_X12_tuningsOf_mods) (by decide) (s_X12_tuningsOf_fr hy))
        obtain ⟨y39, hy, h⟩ := fbd h
        replace h := (fgd h).2
        obtain ⟨y46, hy, h⟩ := fbd h
        by_cases c : (y33.1 * y39) ≤ y46
        · replace h := fps c h
          obtain rfl := Option.some.inj h
          exact k33
        · replace h := fng c h
          obtain rfl := Option.some.inj h
          exact k33
      · replace h := fng c h
        obtain rfl := Option.some.inj h
        exact fs_up fs_refl (.inr (by decide))
abbrev s_X10_movePianos_68_mods : List (Nat × Option Nat) := [(1, some 2), (68, none)]
noncomputable def s_X10_movePianos_68_b24 (M : fM) (l2 l3 l4 l5 : Int) : Option ((Int × Int × fM) ⊕ (fM ⊕ (Int × fM))) :=
  if l3 ≤ l5 then
    some (.inr (.inl M))
  else
    if (0 ≤ l5 ∧ l5 < 1240) then
      if l2 ≤ (fand (M 2 (l5).toNat) 255) then
        some (.inr (.inr ((-1), M)))
      else
        if ¬ (fand (fshr l4 (fand (M 2 (l5).toNat) 255)) 1) = 1 then
          if (0 ≤ l5 ∧ l5 < 8) ∧ fin (l5 + 1) then
            some (.inl ((fior l4 (fshl 1 (fand (M 2 (l5).toNat) 255))), (l5 + 1), (fup M 68 (l5).toNat (fand (M 2 (l5).toNat) 255))))
          else none
        else
          some (.inr (.inr ((-1), M)))
    else none
theorem s_X10_movePianos_68_b24_ok {d L : Nat} {M : fM} {l2 l3 l4 l5 : Int} {o6 : Option fV} {r : ((Int × Int × fM) ⊕ (fM ⊕ (Int × fM)))} {Q : fO → fH → Prop} (h : s_X10_movePianos_68_b24 M l2 l3 l4 l5 = some r) (hC : ∀ (l4' l5' : Int) (M' : fM) (o6' : Option fV), r = .inl (l4', l5', M') → Wp (d + 0, 136, 24, 0, 0, [some (fA 1), some (fA 68), some (fI l2), some (fI l3), some (fI l4'), some (fI l5'), o6'], []) (156, fjl L, M') Q) (hE : ∀ (e : fM) (o0' o1' o2' o4' o5' o6' : Option fV), r = .inr (.inl e) → Wp (d + 0, 136, 83, 0, 0, [o0', o1', o2', some (fI l3), o4', o5', o6'], []) (156, fjl L, e) Q) (hR : ∀ (v : (Int × fM)), r = .inr (.inr v) → Q (oI v.1) (156, fjl L, v.2)) : Wp (d + 0, 136, 24, 0, 0, [some (fA 1), some (fA 68), some (fI l2), some (fI l3), some (fI l4), some (fI l5), o6], []) (156, fjl L, M) Q := by
  unfold s_X10_movePianos_68_b24 at h
  refine Wp.run 2 (f' := (d + 0, 136, 27, 0, 0, [some (fA 1), some (fA 68), some (fI l2), some (fI l3), some (fI l4), some (fI l5), _], [fI l3, fI l5])) (h' := (156, fjl L, M)) rfl trivial ?_
  refine Wp.br rfl (fun (c : l3 ≤ l5) => ?_) (fun (c : ¬ (l3 ≤ l5)) => ?_)
  · replace h := fps c h
    exact hE _ _ _ _ _ _ _ (Option.some.inj h).symm
  · replace h := fng c h
    obtain ⟨g0, h⟩ := fgd h
    refine Wp.run 9 (P := [0 ≤ l5 ∧ l5 < 1240]) (f' := (d + 0, 136, 46, 0, 0, [some (fA 1), some (fA 68), some (fI l2), some (fI l3), some (fI l4), some (fI l5), some (fI (fand (M 2 (l5).toNat) 255))], [fI l2, fI (fand (M 2 (l5).toNat) 255)])) (h' := (156, fjl L, M)) rfl ?_ ?_
    · exact g0
    refine Wp.br rfl (fun (c : l2 ≤ (fand (M 2 (l5).toNat) 255)) => ?_) (fun (c : ¬ (l2 ≤ (fand (M 2 (l5).toNat) 255))) => ?_)
    · replace h := fps c h
      refine Wp.run 1 (f' := (d + 0, 136, 61, 0, 0, [_, _, _, _, _, _, _], [fI (-1)])) (h' := (156, fjl L, M)) rfl trivial ?_
      exact Wp.done rfl (by decide) (hR _ (Option.some.inj h).symm)
    · replace h := fng c h
      refine Wp.run 6 (f' := (d + 0, 136, 57, 0, 0, [some (fA 1), some (fA 68), some (fI l2), some (fI l3), some (fI l4), some (fI l5), some (fI (fand (M 2 (l5).toNat) 255))], [fI 1, fI (fand (fshr l4 (fand (M 2 (l5).toNat) 255)) 1)])) (h' := (156, fjl L, M)) rfl trivial ?_
      refine Wp.br rfl (fun (c : ¬ (fand (fshr l4 (fand (M 2 (l5).toNat) 255)) 1) = 1) => ?_) (fun (c : ¬ (¬ (fand (fshr l4 (fand (M 2 (l5).toNat) 255)) 1) = 1)) => ?_)
      · replace h := fps c h
        obtain ⟨⟨g0, g1⟩, h⟩ := fgd h
        refine Wp.run 12 (P := [0 ≤ l5 ∧ l5 < 8]) (f' := (d + 0, 136, 24, 0, 0, [some (fA 1), some (fA 68), some (fI l2), some (fI l3), some (fI (fior l4 (fshl 1 (fand (M 2 (l5).toNat) 255)))), some (fI (fw (l5 + 1))), _], [])) (h' := (156, fjl L, (fup M 68 (l5).toNat (fand (M 2 (l5).toNat) 255)))) rfl ?_ ?_
        · exact g0
        rw [fw_id g1]
        exact hC _ _ _ _ (Option.some.inj h).symm
      · replace h := fng c h
        refine Wp.run 1 (f' := (d + 0, 136, 61, 0, 0, [_, _, _, _, _, _, _], [fI (-1)])) (h' := (156, fjl L, M)) rfl trivial ?_
        exact Wp.done rfl (by decide) (hR _ (Option.some.inj h).symm)
theorem s_X10_movePianos_68_b24_fr {M : fM} {l2 l3 l4 l5 : Int} {r : ((Int × Int × fM) ⊕ (fM ⊕ (Int × fM)))} (h : s_X10_movePianos_68_b24 M l2 l3 l4 l5 = some r) : fSame s_X10_movePianos_68_mods M (Sum.elim (fun s => s.2.2) (Sum.elim (fun e => e) (fun v => v.2)) r) := by
  unfold s_X10_movePianos_68_b24 at h
  by_cases c : l3 ≤ l5
  · replace h := fps c h
    obtain rfl := Option.some.inj h
    exact fs_refl
  · replace h := fng c h
    replace h := (fgd h).2
    by_cases c : l2 ≤ (fand (M 2 (l5).toNat) 255)
    · replace h := fps c h
      obtain rfl := Option.some.inj h
      exact fs_refl
    · replace h := fng c h
      by_cases c : ¬ (fand (fshr l4 (fand (M 2 (l5).toNat) 255)) 1) = 1
      · replace h := fps c h
        replace h := (fgd h).2
        obtain rfl := Option.some.inj h
        exact fs_up fs_refl (.inl (by decide))
      · replace h := fng c h
        obtain rfl := Option.some.inj h
        exact fs_refl
noncomputable def s_X10_movePianos_68_l24 (l2 l3 : Int) (s : (Int × Int × fM)) : Option (fM ⊕ (Int × fM)) := fLp (fun s => s_X10_movePianos_68_b24 s.2.2 l2 l3 s.1 s.2.1) s
theorem s_X10_movePianos_68_l24_ok {d L : Nat} {M : fM} {l2 l3 l4 l5 : Int} {o6 : Option fV} {r : (fM ⊕ (Int × fM))} {Q : fO → fH → Prop} (h : s_X10_movePianos_68_l24 l2 l3 (l4, l5, M) = some r) (hE : ∀ (e : fM) (o0' o1' o2' o4' o5' o6' : Option fV), r = .inl e → Wp (d + 0, 136, 83, 0, 0, [o0', o1', o2', some (fI l3), o4', o5', o6'], []) (156, fjl L, e) Q) (hR : ∀ (v : (Int × fM)), r = .inr v → Q (oI v.1) (156, fjl L, v.2)) : Wp (d + 0, 136, 24, 0, 0, [some (fA 1), some (fA 68), some (fI l2), some (fI l3), some (fI l4), some (fI l5), o6], []) (156, fjl L, M) Q := by
  refine fLp_wp (W := fun s => ∀ (o6 : Option fV), Wp (d + 0, 136, 24, 0, 0, [some (fA 1), some (fA 68), some (fI l2), some (fI l3), some (fI s.1), some (fI s.2.1), o6], []) (156, fjl L, s.2.2) Q) (e := r) ?_ h _
  intro s r1 h hC hX o6
  refine s_X10_movePianos_68_b24_ok (d := d) h (fun a0 a1 a2 _ e1 => ?_) (fun e u0 u1 u2 u3 u4 u5 e1 => hE e u0 u1 u2 u3 u4 u5 (hX _ e1).symm) (fun v e1 => hR v (hX _ e1).symm)
  exact hC _ e1 _
theorem s_X10_movePianos_68_l24_fr {M : fM} {l2 l3 l4 l5 : Int} {r : (fM ⊕ (Int × fM))} (h : s_X10_movePianos_68_l24 l2 l3 (l4, l5, M) = some r) : fSame s_X10_movePianos_68_mods M ((Sum.elim (fun e => e) (fun v => v.2)) r) := by
  refine fLp_inv (I := fun s => fSame s_X10_movePianos_68_mods M s.2.2) (J := fun r => fSame s_X10_movePianos_68_mods M ((Sum.elim (fun e => e) (fun v => v.2)) r)) h fs_refl (fun s s1 hs hb => ?_) (fun s e hs hb => ?_)
  · exact fs_trans hs (s_X10_movePianos_68_b24_fr hb)
  · exact fs_trans hs (s_X10_movePianos_68_b24_fr hb)
noncomputable def s_X10_movePianos_68 (M : fM) (l2 : Int) : Option (Int × fM) :=
  if (M 1 2) ≤ 8 then
    (s_X10_movePianos_68_l24 l2 (M 1 2) (0, 0, (fup M 1 2 0))).bind fun e24 =>
      Sum.elim (fun x24 =>
        some ((M 1 2), x24))
        (fun v24 => some v24) e24
  else
    some ((-1), (fup M 1 2 0))
theorem s_X10_movePianos_68_ok {d L : Nat} {M : fM} {l2 : Int} {r : (Int × fM)} {Q : fO → fH → Prop} (h : s_X10_movePianos_68 M l2 = some r) (H : Q (oI r.1) (156, fjl L, r.2)) : Wp (d + 0, 136, 0, 0, 0, [some (fA 1), some (fA 68), some (fI l2), none, none, none, none], []) (156, fjl L, M) Q := by
  unfold s_X10_movePianos_68 at h
  refine Wp.run 9 (f' := (d + 0, 136, 13, 0, 0, [some (fA 1), some (fA 68), some (fI l2), some (fI (M 1 2)), _, _, _], [fI 8, fI (M 1 2)])) (h' := (156, fjl L, (fup M 1 2 0))) rfl trivial ?_
  refine Wp.br rfl (fun (c : (M 1 2) ≤ 8) => ?_) (fun (c : ¬ ((M 1 2) ≤ 8)) => ?_)
  · replace h := fps c h
    refine Wp.run 4 (f' := (d + 0, 136, 24, 0, 0, [some (fA 1), some (fA 68), some (fI l2), some (fI (M 1 2)), some (fI 0), some (fI 0), _], [])) (h' := (156, fjl L, (fup M 1 2 0))) rfl trivial ?_
    obtain ⟨e24, hy, h⟩ := fbd h
    refine s_X10_movePianos_68_l24_ok hy (fun x24 u0 u1 u2 u4 u5 u6 ex => ?_) (fun v24 ex => ?_)
    · subst ex
      replace h := fsl h
      show Wp (d + 0, 136, 83, 0, 0, [u0, u1, u2, some (fI (M 1 2)), u4, u5, u6], []) (156, fjl L, x24) Q
      refine Wp.run 1 (f' := (d + 0, 136, 84, 0, 0, [_, _, _, _, _, _, _], [fI (M 1 2)])) (h' := (156, fjl L, x24)) rfl trivial ?_
      obtain rfl := Option.some.inj h
      exact Wp.done rfl (by decide) H
    · subst ex
      replace h := fsr h
      obtain rfl := Option.some.inj h
      exact H
  · replace h := fng c h
    refine Wp.run 1 (f' := (d + 0, 136, 17, 0, 0, [_, _, _, _, _, _, _], [fI (-1)])) (h' := (156, fjl L, (fup M 1 2 0))) rfl trivial ?_
    obtain rfl := Option.some.inj h
    exact Wp.done rfl (by decide) H
theorem s_X10_movePianos_68_fr {M : fM} {l2 : Int} {r : (Int × fM)} (h : s_X10_movePianos_68 M l2 = some r) : fSame s_X10_movePianos_68_mods M r.2 := by
  unfold s_X10_movePianos_68 at h
  by_cases c : (M 1 2) ≤ 8
  · replace h := fps c h
    obtain ⟨e24, hy, h⟩ := fbd h
    have k24 := fs_trans (l := s_X10_movePianos_68_mods) (fs_up fs_refl (.inr (by decide))) (s_X10_movePianos_68_l24_fr hy)
    rcases e24 with x24 | v24
    · replace h := fsl h
      obtain rfl := Option.some.inj h
      exact k24
    · replace h := fsr h
      obtain rfl := Option.some.inj h
      exact k24
  · replace h := fng c h
    obtain rfl := Option.some.inj h
    exact fs_up fs_refl (.inr (by decide))
abbrev s_X9_countParts_mods : List (Nat × Option Nat) := [(69, none)]
noncomputable def s_X9_countParts_b7 (M : fM) (l1 l2 l3 : Int) : Option ((Int × fM) ⊕ fM) :=
  if 9 ≤ l3 then
    some (.inr M)
  else
    if fin (l2 + l3) then
      if ¬ l3 = 0 then
        if (0 ≤ (l2 + l3) ∧ (l2 + l3) < 36) ∧ fin (l3 + 1) then
          some (.inl ((l3 + 1), (fup M 69 (l2 + l3).toNat 0)))
        else none
      else
        if (0 ≤ (l2 + l3) ∧ (l2 + l3) < 36) ∧ fin (l3 + 1) then
          some (.inl ((l3 + 1), (fup M 69 (l2 + l3).toNat 1)))
        else none
    else none
theorem s_X9_countParts_b7_ok {d L : Nat} {M : fM} {l1 l2 l3 : Int} {o4 o5 o6 o7 : Option fV} {r : ((Int × fM) ⊕ fM)} {Q : fO → fH → Prop} (h : s_X9_countParts_b7 M l1 l2 l3 = some r) (hC : ∀ (l3' : Int) (M' : fM) (o4' o5' o6' o7' : Option fV), r = .inl (l3', M') → Wp (d + 0, 128, 7, 0, 0, [some (fA 67), some (fI l1), some (fI l2), some (fI l3'), o4', o5', o6', o7'], []) (156, fjl L, M') Q) (hE : ∀ (e : fM) (o3' o4' o5' o6' o7' : Option fV), r = .inr e → Wp (d + 0, 128, 36, 0, 0, [some (fA 67), some (fI l1), some (fI l2), o3', o4', o5', o6', o7'], []) (156, fjl L, e) Q) : Wp (d + 0, 128, 7, 0, 0, [some (fA 67), some (fI l1), some (fI l2), some (fI l3), o4, o5, o6, o7], []) (156, fjl L, M) Q := by
  unfold s_X9_countParts_b7 at h
  refine Wp.run 2 (f' := (d + 0, 128, 10, 0, 0, [some (fA 67), some (fI l1), some (fI l2), some (fI l3), _, _, _, _], [fI 9, fI l3])) (h' := (156, fjl L, M)) rfl trivial ?_
  refine Wp.br rfl (fun (c : 9 ≤ l3) => ?_) (fun (c : ¬ (9 ≤ l3)) => ?_)
  · replace h := fps c h
    exact hE _ _ _ _ _ _ (Option.some.inj h).symm
  · replace h := fng c h
    obtain ⟨g0, h⟩ := fgd h
    refine Wp.run 6 (f' := (d + 0, 128, 21, 0, 0, [some (fA 67), some (fI l1), some (fI l2), some (fI l3), _, _, _, _], [fI l3, fI (fw (l2 + l3)), fA 69])) (h' := (156, fjl L, M)) rfl trivial ?_
    rw [fw_id g0]
    refine Wp.br rfl (fun (c : ¬ l3 = 0) => ?_) (fun (c : ¬ (¬ l3 = 0)) => ?_)
    · replace h := fps c h
      obtain ⟨⟨g0, g1⟩, h⟩ := fgd h
      refine Wp.run 4 (P := [0 ≤ (l2 + l3) ∧ (l2 + l3) < 36]) (f' := (d + 0, 128, 7, 0, 0, [some (fA 67), some (fI l1), some (fI l2), some (fI (fw (l3 + 1))), _, _, _, _], [])) (h' := (156, fjl L, (fup M 69 (l2 + l3).toNat 0))) rfl ?_ ?_
      · exact g0
      rw [fw_id g1]
      exact hC _ _ _ _ _ _ (Option.some.inj h).symm
    · replace h := fng c h
      obtain ⟨⟨g0, g1⟩, h⟩ := fgd h
      refine Wp.run 5 (P := [0 ≤ (l2 + l3) ∧ (l2 + l3) < 36]) (f' := (d + 0, 128, 7, 0, 0, [some (fA 67), some (fI l1), some (fI l2), some (fI (fw (l3 + 1))), _, _, _, _], [])) (h' := (156, fjl L, (fup M 69 (l2 + l3).toNat 1))) rfl ?_ ?_
      · exact g0
      rw [fw_id g1]
      exact hC _ _ _ _ _ _ (Option.some.inj h).symm
theorem s_X9_countParts_b7_fr {M : fM} {l1 l2 l3 : Int} {r : ((Int × fM) ⊕ fM)} (h : s_X9_countParts_b7 M l1 l2 l3 = some r) : fSame s_X9_countParts_mods M (Sum.elim (fun s => s.2) (fun e => e) r) := by
  unfold s_X9_countParts_b7 at h
  by_cases c : 9 ≤ l3
  · replace h := fps c h
    obtain rfl := Option.some.inj h
    exact fs_refl
  · replace h := fng c h
    replace h := (fgd h).2
    by_cases c : ¬ l3 = 0
    · replace h := fps c h
      replace h := (fgd h).2
      obtain rfl := Option.some.inj h
      exact fs_up fs_refl (.inl (by decide))
    · replace h := fng c h
      replace h := (fgd h).2
      obtain rfl := Option.some.inj h
      exact fs_up fs_refl (.inl (by decide))
noncomputable def s_X9_countParts_l7 (l1 l2 : Int) (s : (Int × fM)) : Option fM := fLp (fun s => s_X9_countParts_b7 s.2 l1 l2 s.1) s
theorem s_X9_countParts_l7_ok {d L : Nat} {M : fM} {l1 l2 l3 : Int} {o4 o5 o6 o7 : Option fV} {r : fM} {Q : fO → fH → Prop} (h : s_X9_countParts_l7 l1 l2 (l3, M) = some r) (hE : ∀ (e : fM) (o3' o4' o5' o6' o7' : Option fV), r = e → Wp (d + 0, 128, 36, 0, 0, [some (fA 67), some (fI l1), some (fI l2), o3', o4', o5', o6', o7'], []) (156, fjl L, e) Q) : Wp (d + 0, 128, 7, 0, 0, [some (fA 67), some (fI l1), some (fI l2), some (fI l3), o4, o5, o6, o7], []) (156, fjl L, M) Q := by
  refine fLp_wp (W := fun s => ∀ (o4 o5 o6 o7 : Option fV), Wp (d + 0, 128, 7, 0, 0, [some (fA 67), some (fI l1), some (fI l2), some (fI s.1), o4, o5, o6, o7], []) (156, fjl L, s.2) Q) (e := r) ?_ h _ _ _ _
  intro s r1 h hC hX o4 o5 o6 o7
  refine s_X9_countParts_b7_ok (d := d) h (fun a0 a1 _ _ _ _ e1 => ?_) (fun e u0 u1 u2 u3 u4 e1 => hE e u0 u1 u2 u3 u4 (hX _ e1).symm)
  exact hC _ e1 _ _ _ _
theorem s_X9_countParts_l7_fr {M : fM} {l1 l2 l3 : Int} {r : fM} (h : s_X9_countParts_l7 l1 l2 (l3, M) = some r) : fSame s_X9_countParts_mods M ((fun e => e) r) := by
  refine fLp_inv (I := fun s => fSame s_X9_countParts_mods M s.2) (J := fun r => fSame s_X9_countParts_mods M ((fun e => e) r)) h fs_refl (fun s s1 hs hb => ?_) (fun s e hs hb => ?_)
  · exact fs_trans hs (s_X9_countParts_b7_fr hb)
  · exact fs_trans hs (s_X9_countParts_b7_fr hb)
noncomputable def s_X9_countParts_j96 (M : fM) (l1 l2 l3 l4 l5 t0 : Int) : Option ((Int × fM) ⊕ fM) :=
  if fin (l2 + l5) ∧ (0 ≤ (l2 + l5) ∧ (l2 + l5) < 36) ∧ fin (20 - l4) ∧ finl ((M 69 (l2 + l5).toNat) * (20 - l4)) then
    if finl (t0 * l4) ∧ finl (((M 69 (l2 + l5).toNat) * (20 - l4)) + (t0 * l4)) ∧ (0 ≤ (l2 + l5) ∧ (l2 + l5) < 36) ∧ fin (l5 + (-1)) then
      some (.inl ((l5 + (-1)), (fup M 69 (l2 + l5).toNat (((M 69 (l2 + l5).toNat) * (20 - l4)) + (t0 * l4)))))
    else none
  else none
theorem s_X9_countParts_j96_ok {d L : Nat} {M : fM} {l1 l2 l3 l4 l5 t0 : Int} {o6 o7 : Option fV} {r : ((Int × fM) ⊕ fM)} {Q : fO → fH → Prop} (h : s_X9_countParts_j96 M l1 l2 l3 l4 l5 t0 = some r) (hC : ∀ (l5' : Int) (M' : fM) (o6' o7' : Option fV), r = .inl (l5', M') → Wp (d + 0, 128, 71, 0, 0, [some (fA 67), some (fI l1), some (fI l2), some (fI l3), some (fI l4), some (fI l5'), o6', o7'], []) (156, fjl L, M') Q) (hE : ∀ (e : fM) (o4' o5' o6' o7' : Option fV), r = .inr e → Wp (d + 0, 128, 136, 0, 0, [some (fA 67), some (fI l1), some (fI l2), some (fI l3), o4', o5', o6', o7'], []) (156, fjl L, e) Q) : Wp (d + 0, 128, 96, 0, 0, [some (fA 67), some (fI l1), some (fI l2), some (fI l3), some (fI l4), some (fI l5), o6, o7], [fJ t0]) (156, fjl L, M) Q := by
  unfold s_X9_countParts_j96 at h
  obtain ⟨⟨g0, g1, g2, g3⟩, h⟩ := fgd h
  refine Wp.run 20 (P := [0 ≤ (fw (l2 + l5)) ∧ (fw (l2 + l5)) < 36]) (f' := (d + 0, 128, 127, 0, 0, [some (fA 67), some (fI l1), some (fI l2), some (fI l3), some (fI l4), some (fI l5), _, _], [fJ l4, fJ t0, fJ (fwl ((M 69 (fw (l2 + l5)).toNat) * (fw (20 - l4)))), fI (fw (l2 + l5)), fA 69])) (h' := (156, fjl L, M)) rfl ?_ ?_
  · rw [fw_id g0]; exact g1
  rw [fw_id g0, fw_id g2, fwl_id g3]
  obtain ⟨⟨g0, g1, g2, g3⟩, h⟩ := fgd h
  refine Wp.run 5 (P := [0 ≤ (l2 + l5) ∧ (l2 + l5) < 36]) (f' := (d + 0, 128, 71, 0, 0, [some (fA 67), some (fI l1), some (fI l2), some (fI l3), some (fI l4), some (fI (fw (l5 + (-1)))), _, _], [])) (h' := (156, fjl L, (fup M 69 (l2 + l5).toNat (fwl (((M 69 (l2 + l5).toNat) * (20 - l4)) + (fwl (t0 * l4))))))) rfl ?_ ?_
  · exact g2
  rw [fw_id g3, fwl_id g0, fwl_id g1]
  exact hC _ _ _ _ (Option.some.inj h).symm
theorem s_X9_countParts_j96_fr {M : fM} {l1 l2 l3 l4 l5 t0 : Int} {r : ((Int × fM) ⊕ fM)} (h : s_X9_countParts_j96 M l1 l2 l3 l4 l5 t0 = some r) : fSame s_X9_countParts_mods M (Sum.elim (fun s => s.2) (fun e => e) r) := by
  unfold s_X9_countParts_j96 at h
  replace h := (fgd h).2
  replace h := (fgd h).2
  obtain rfl := Option.some.inj h
  exact fs_up fs_refl (.inl (by decide))
noncomputable def s_X9_countParts_b71 (M : fM) (l1 l2 l3 l4 l5 : Int) : Option ((Int × fM) ⊕ fM) :=
  if l5 < 0 then
    some (.inr M)
  else
    if ¬ l5 = 0 then
      if fin (l2 + l5) ∧ fin ((l2 + l5) - 1) ∧ (0 ≤ ((l2 + l5) - 1) ∧ ((l2 + l5) - 1) < 36) then
        s_X9_countParts_j96 M l1 l2 l3 l4 l5 (M 69 ((l2 + l5) - 1).toNat)
      else none
    else
      s_X9_countParts_j96 M l1 l2 l3 l4 l5 0
theorem s_X9_countParts_b71_ok {d L : Nat} {M : fM} {l1 l2 l3 l4 l5 : Int} {o6 o7 : Option fV} {r : ((Int × fM) ⊕ fM)} {Q : fO → fH → Prop} (h : s_X9_countParts_b71 M l1 l2 l3 l4 l5 = some r) (hC : ∀ (l5' : Int) (M' : fM) (o6' o7' : Option fV), r = .inl (l5', M') → Wp (d + 0, 128, 71, 0, 0, [some (fA 67), some (fI l1), some (fI l2), some (fI l3), some (fI l4), some (fI l5'), o6', o7'], []) (156, fjl L, M') Q) (hE : ∀ (e : fM) (o4' o5' o6' o7' : Option fV), r = .inr e → Wp (d + 0, 128, 136, 0, 0, [some (fA 67), some (fI l1), some (fI l2), some (fI l3), o4', o5', o6', o7'], []) (156, fjl L, e) Q) : Wp (d + 0, 128, 71, 0, 0, [some (fA 67), some (fI l1), some (fI l2), some (fI l3), some (fI l4), some (fI l5), o6, o7], []) (156, fjl L, M) Q := by
  unfold s_X9_countParts_b71 at h
  refine Wp.run 1 (f' := (d + 0, 128, 73, 0, 0, [some (fA 67), some (fI l1), some (fI l2), some (fI l3), some (fI l4), some (fI l5), _, _], [fI l5])) (h' := (156, fjl L, M)) rfl trivial ?_
  refine Wp.br rfl (fun (c : l5 < 0) => ?_) (fun (c : ¬ (l5 < 0)) => ?_)
  · replace h := fps c h
    exact hE _ _ _ _ _ (Option.some.inj h).symm
  · replace h := fng c h
    refine Wp.run 1 (f' := (d + 0, 128, 78, 0, 0, [some (fA 67), some (fI l1), some (fI l2), some (fI l3), some (fI l4), some (fI l5), _, _], [fI l5])) (h' := (156, fjl L, M)) rfl trivial ?_
    refine Wp.br rfl (fun (c : ¬ l5 = 0) => ?_) (fun (c : ¬ (¬ l5 = 0)) => ?_)
    · replace h := fps c h
      obtain ⟨⟨g0, g1, g2⟩, h⟩ := fgd h
      refine Wp.run 8 (P := [0 ≤ (fw ((fw (l2 + l5)) - 1)) ∧ (fw ((fw (l2 + l5)) - 1)) < 36]) (f' := (d + 0, 128, 96, 0, 0, [some (fA 67), some (fI l1), some (fI l2), some (fI l3), some (fI l4), some (fI l5), _, _], [fJ (M 69 (fw ((fw (l2 + l5)) - 1)).toNat)])) (h' := (156, fjl L, M)) rfl ?_ ?_
      · rw [fw_id g0, fw_id g1]; exact g2
      rw [fw_id g0, fw_id g1]
      exact s_X9_countParts_j96_ok h hC hE
    · replace h := fng c h
      refine Wp.run 2 (f' := (d + 0, 128, 96, 0, 0, [some (fA 67), some (fI l1), some (fI l2), some (fI l3), some (fI l4), some (fI l5), _, _], [fJ 0])) (h' := (156, fjl L, M)) rfl trivial ?_
      exact s_X9_countParts_j96_ok h hC hE
theorem s_X9_countParts_b71_fr {M : fM} {l1 l2 l3 l4 l5 : Int} {r : ((Int × fM) ⊕ fM)} (h : s_X9_countParts_b71 M l1 l2 l3 l4 l5 = some r) : fSame s_X9_countParts_mods M (Sum.elim (fun s => s.2) (fun e => e) r) := by
  unfold s_X9_countParts_b71 at h
  by_cases c : l5 < 0
  · replace h := fps c h
    obtain rfl := Option.some.inj h
    exact fs_refl
  · replace h := fng c h
    by_cases c : ¬ l5 = 0
    · replace h := fps c h
      replace h := (fgd h).2
      exact fs_trans fs_refl (s_X9_countParts_j96_fr h)
    · replace h := fng c h
      exact fs_trans fs_refl (s_X9_countParts_j96_fr h)
noncomputable def s_X9_countParts_l71 (l1 l2 l3 l4 : Int) (s : (Int × fM)) : Option fM := fLp (fun s => s_X9_countParts_b71 s.2 l1 l2 l3 l4 s.1) s
theorem s_X9_countParts_l71_ok {d L : Nat} {M : fM} {l1 l2 l3 l4 l5 : Int} {o6 o7 : Option fV} {r : fM} {Q : fO → fH → Prop} (h : s_X9_countParts_l71 l1 l2 l3 l4 (l5, M) = some r) (hE : ∀ (e : fM) (o4' o5' o6' o7' : Option fV), r = e → Wp (d + 0, 128, 136, 0, 0, [some (fA 67), some (fI l1), some (fI l2), some (fI l3), o4', o5', o6', o7'], []) (156, fjl L, e) Q) : Wp (d + 0, 128, 71, 0, 0, [some (fA 67), some (fI l1), some (fI l2), some (fI l3), some (fI l4), some (fI l5), o6, o7], []) (156, fjl L, M) Q := by
  refine fLp_wp (W := fun s => ∀ (o6 o7 : Option fV), Wp (d + 0, 128, 71, 0, 0, [some (fA 67), some (fI l1), some (fI l2), some (fI l3), some (fI l4), some (fI s.1), o6, o7], []) (156, fjl L, s.2) Q) (e := r) ?_ h _ _
  intro s r1 h hC hX o6 o7
  refine s_X9_countParts_b71_ok (d := d) h (fun a0 a1 _ _ e1 => ?_) (fun e u0 u1 u2 u3 e1 => hE e u0 u1 u2 u3 (hX _ e1).symm)
  exact hC _ e1 _ _
theorem s_X9_countParts_l71_fr {M : fM} {l1 l2 l3 l4 l5 : Int} {r : fM} (h : s_X9_countParts_l71 l1 l2 l3 l4 (l5, M) = some r) : fSame s_X9_countParts_mods M ((fun e => e) r) := by
  refine fLp_inv (I := fun s => fSame s_X9_countParts_mods M s.2) (J := fun r => fSame s_X9_countParts_mods M ((fun e => e) r)) h fs_refl (fun s s1 hs hb => ?_) (fun s e hs hb => ?_)
  · exact fs_trans hs (s_X9_countParts_b71_fr hb)
  · exact fs_trans hs (s_X9_countParts_b71_fr hb)
noncomputable def s_X9_countParts_b38 (M : fM) (l1 l2 l3 : Int) : Option ((Int × fM) ⊕ fM) :=
  if (M 67 3) ≤ l3 then
    some (.inr M)
  else
    if (0 ≤ l3 ∧ l3 < 8) ∧ fin ((M 68 (l3).toNat) * 4) ∧ fin (((M 68 (l3).toNat) * 4) + l1) ∧ (0 ≤ (((M 68 (l3).toNat) * 4) + l1) ∧ (((M 68 (l3).toNat) * 4) + l1) < 64) then
      if fin (l3 + 1) then
        (s_X9_countParts_l71 l1 l2 l3 (M 12 (((M 68 (l3).toNat) * 4) + l1).toNat) ((l3 + 1), M)).bind fun e71 =>
          if fin (l3 + 1) then
            some (.inl ((l3 + 1), e71))
          else none
      else none
    else none
theorem s_X9_countParts_b38_ok {d L : Nat} {M : fM} {l1 l2 l3 : Int} {o4 o5 o6 o7 : Option fV} {r : ((Int × fM) ⊕ fM)} {Q : fO → fH → Prop} (h : s_X9_countParts_b38 M l1 l2 l3 = some r) (hC : ∀ (l3' : Int) (M' : fM) (o4' o5' o6' o7' : Option fV), r = .inl (l3', M') → Wp (d + 0, 128, 38, 0, 0, [some (fA 67), some (fI l1), some (fI l2), some (fI l3'), o4', o5', o6', o7'], []) (156, fjl L, M') Q) (hE : ∀ (e : fM) (o1' o3' o4' o5' o6' o7' : Option fV), r = .inr e → Wp (d + 0, 128, 142, 0, 0, [some (fA 67), o1', some (fI l2), o3', o4', o5', o6', o7'], []) (156, fjl L, e) Q) : Wp (d + 0, 128, 38, 0, 0, [some (fA 67), some (fI l1), some (fI l2), some (fI l3), o4, o5, o6, o7], []) (156, fjl L, M) Q := by
  unfold s_X9_countParts_b38 at h
  refine Wp.run 3 (f' := (d + 0, 128, 43, 0, 0, [some (fA 67), some (fI l1), some (fI l2), some (fI l3), _, _, _, _], [fI (M 67 3), fI l3])) (h' := (156, fjl L, M)) rfl trivial ?_
  refine Wp.br rfl (fun (c : (M 67 3) ≤ l3) => ?_) (fun (c : ¬ ((M 67 3) ≤ l3)) => ?_)
  · replace h := fps c h
    exact hE _ _ _ _ _ _ _ (Option.some.inj h).symm
  · replace h := fng c h
    obtain ⟨⟨g0, g1, g2, g3⟩, h⟩ := fgd h
    refine Wp.run 13 (P := [0 ≤ l3 ∧ l3 < 8, 0 ≤ (fw ((fw ((M 68 (l3).toNat) * 4)) + l1)) ∧ (fw ((fw ((M 68 (l3).toNat) * 4)) + l1)) < 64]) (f' := (d + 0, 128, 66, 0, 0, [some (fA 67), some (fI l1), some (fI l2), some (fI l3), some (fI (M 12 (fw ((fw ((M 68 (l3).toNat) * 4)) + l1)).toNat)), _, _, _], [])) (h' := (156, fjl L, M)) rfl ?_ ?_
    · rw [fw_id g1, fw_id g2]; exact ⟨g0, g3⟩
    rw [fw_id g1, fw_id g2]
    obtain ⟨g0, h⟩ := fgd h
    refine Wp.run 4 (f' := (d + 0, 128, 71, 0, 0, [some (fA 67), some (fI l1), some (fI l2), some (fI l3), some (fI (M 12 (((M 68 (l3).toNat) * 4) + l1).toNat)), some (fI (fw (l3 + 1))), _, _], [])) (h' := (156, fjl L, M)) rfl trivial ?_
    rw [fw_id g0]
    obtain ⟨e71, hy, h⟩ := fbd h
    refine s_X9_countParts_l71_ok hy (fun x u4 u5 u6 u7 ex => ?_)
    cases ex
    show Wp (d + 0, 128, 136, 0, 0, [some (fA 67), some (fI l1), some (fI l2), some (fI l3), u4, u5, u6, u7], []) (156, fjl L, e71) Q
    obtain ⟨g0, h⟩ := fgd h
    refine Wp.run 2 (f' := (d + 0, 128, 38, 0, 0, [some (fA 67), some (fI l1), some (fI l2), some (fI (fw (l3 + 1))), _, _, _, _], [])) (h' := (156, fjl L, e71)) rfl trivial ?_
    rw [fw_id g0]
    exact hC _ _ _ _ _ _ (Option.some.inj h).symm
theorem s_X9_countParts_b38_fr {M : fM} {l1 l2 l3 : Int} {r : ((Int × fM) ⊕ fM)} (h : s_X9_countParts_b38 M l1 l2 l3 = some r) : fSame s_X9_countParts_mods M (Sum.elim (fun s => s.2) (fun e => e) r) := by
  unfold s_X9_countParts_b38 at h
  by_cases c : (M 67 3) ≤ l3
  · replace h := fps c h
    obtain rfl := Option.some.inj h
    exact fs_refl
  · replace h := fng c h
    replace h := (fgd h).2
    replace h := (fgd h).2
    obtain ⟨e71, hy, h⟩ := fbd h
    have k71 := fs_trans (l := s_X9_countParts_mods) fs_refl (s_X9_countParts_l71_fr hy)
    replace h := (fgd h).2
    obtain rfl := Option.some.inj h
    exact k71
noncomputable def s_X9_countParts_l38 (l1 l2 : Int) (s : (Int × fM)) : Option fM := fLp (fun s => s_X9_countParts_b38 s.2 l1 l2 s.1) s
theorem s_X9_countParts_l38_ok {d L : Nat} {M : fM} {l1 l2 l3 : Int} {o4 o5 o6 o7 : Option fV} {r : fM} {Q : fO → fH → Prop} (h : s_X9_countParts_l38 l1 l2 (l3, M) = some r) (hE : ∀ (e : fM) (o1' o3' o4' o5' o6' o7' : Option fV), r = e → Wp (d + 0, 128, 142, 0, 0, [some (fA 67), o1', some (fI l2), o3', o4', o5', o6', o7'], []) (156, fjl L, e) Q) : Wp (d + 0, 128, 38, 0, 0, [some (fA 67), some (fI l1), some (fI l2), some (fI l3), o4, o5, o6, o7], []) (156, fjl L, M) Q := by
  refine fLp_wp (W := fun s => ∀ (o4 o5 o6 o7 : Option fV), Wp (d + 0, 128, 38, 0, 0, [some (fA 67), some (fI l1), some (fI l2), some (fI s.1), o4, o5, o6, o7], []) (156, fjl L, s.2) Q) (e := r) ?_ h _ _ _ _
  intro s r1 h hC hX o4 o5 o6 o7
  refine s_X9_countParts_b38_ok (d := d) h (fun a0 a1 _ _ _ _ e1 => ?_) (fun e u0 u1 u2 u3 u4 u5 e1 => hE e u0 u1 u2 u3 u4 u5 (hX _ e1).symm)
  exact hC _ e1 _ _ _ _
theorem s_X9_countParts_l38_fr {M : fM} {l1 l2 l3 : Int} {r : fM} (h : s_X9_countParts_l38 l1 l2 (l3, M) = some r) : fSame s_X9_countParts_mods M ((fun e => e) r) := by
  refine fLp_inv (I := fun s => fSame s_X9_countParts_mods M s.2) (J := fun r => fSame s_X9_countParts_mods M ((fun e => e) r)) h fs_refl (fun s s1 hs hb => ?_) (fun s e hs hb => ?_)
  · exact fs_trans hs (s_X9_countParts_b38_fr hb)
  · exact fs_trans hs (s_X9_countParts_b38_fr hb)
noncomputable def s_X9_countParts_b144 (M : fM) (l2 l3 : Int) : Option ((Int × fM) ⊕ fM) :=
  if 9 ≤ l3 then
    some (.inr M)
  else
    if fin (l2 + l3) ∧ (0 ≤ (l2 + l3) ∧ (l2 + l3) < 36) ∧ fin ((l2 + l3) - 1) ∧ (0 ≤ ((l2 + l3) - 1) ∧ ((l2 + l3) - 1) < 36) ∧ finl ((M 69 (l2 + l3).toNat) + (M 69 ((l2 + l3) - 1).toNat)) then
      if fin (l3 + 1) then
        some (.inl ((l3 + 1), (fup M 69 (l2 + l3).toNat ((M 69 (l2 + l3).toNat) + (M 69 ((l2 + l3) - 1).toNat)))))
      else none
    else none
theorem s_X9_countParts_b144_ok {d L : Nat} {M : fM} {l2 l3 : Int} {o1 o4 o5 o6 o7 : Option fV} {r : ((Int × fM) ⊕ fM)} {Q : fO → fH → Prop} (h : s_X9_countParts_b144 M l2 l3 = some r) (hC : ∀ (l3' : Int) (M' : fM) (o1' o4' o5' o6' o7' : Option fV), r = .inl (l3', M') → Wp (d + 0, 128, 144, 0, 0, [some (fA 67), o1', some (fI l2), some (fI l3'), o4', o5', o6', o7'], []) (156, fjl L, M') Q) (hE : ∀ (e : fM) (o0' o1' o2' o3' o4' o5' o6' o7' : Option fV), r = .inr e → Wp (d + 0, 128, 177, 0, 0, [o0', o1', o2', o3', o4', o5', o6', o7'], []) (156, fjl L, e) Q) : Wp (d + 0, 128, 144, 0, 0, [some (fA 67), o1, some (fI l2), some (fI l3), o4, o5, o6, o7], []) (156, fjl L, M) Q := by
  unfold s_X9_countParts_b144 at h
  refine Wp.run 2 (f' := (d + 0, 128, 147, 0, 0, [some (fA 67), _, some (fI l2), some (fI l3), _, _, _, _], [fI 9, fI l3])) (h' := (156, fjl L, M)) rfl trivial ?_
  refine Wp.br rfl (fun (c : 9 ≤ l3) => ?_) (fun (c : ¬ (9 ≤ l3)) => ?_)
  · replace h := fps c h
    exact hE _ _ _ _ _ _ _ _ _ (Option.some.inj h).symm
  · replace h := fng c h
    obtain ⟨⟨g0, g1, g2, g3, g4⟩, h⟩ := fgd h
    refine Wp.run 17 (P := [0 ≤ (fw (l2 + l3)) ∧ (fw (l2 + l3)) < 36, 0 ≤ (fw ((fw (l2 + l3)) - 1)) ∧ (fw ((fw (l2 + l3)) - 1)) < 36, 0 ≤ (fw (l2 + l3)) ∧ (fw (l2 + l3)) < 36]) (f' := (d + 0, 128, 171, 0, 0, [some (fA 67), _, some (fI l2), some (fI l3), _, _, _, _], [])) (h' := (156, fjl L, (fup M 69 (fw (l2 + l3)).toNat (fwl ((M 69 (fw (l2 + l3)).toNat) + (M 69 (fw ((fw (l2 + l3)) - 1)).toNat)))))) rfl ?_ ?_
    · rw [fw_id g0, fw_id g2]; exact ⟨g1, g3, g1⟩
    rw [fw_id g0, fw_id g2, fwl_id g4]
    obtain ⟨g0, h⟩ := fgd h
    refine Wp.run 2 (f' := (d + 0, 128, 144, 0, 0, [some (fA 67), _, some (fI l2), some (fI (fw (l3 + 1))), _, _, _, _], [])) (h' := (156, fjl L, (fup M 69 (l2 + l3).toNat ((M 69 (l2 + l3).toNat) + (M 69 ((l2 + l3) - 1).toNat))))) rfl trivial ?_
    rw [fw_id g0]
    exact hC _ _ _ _ _ _ _ (Option.some.inj h).symm
theorem s_X9_countParts_b144_fr {M : fM} {l2 l3 : Int} {r : ((Int × fM) ⊕ fM)} (h : s_X9_countParts_b144 M l2 l3 = some r) : fSame s_X9_countParts_mods M (Sum.elim (fun s => s.2) (fun e => e) r) := by
  unfold s_X9_countParts_b144 at h
  by_cases c : 9 ≤ l3
  · replace h := fps c h
    obtain rfl := Option.some.inj h
    exact fs_refl
  · replace h := fng c h
    replace h := (fgd h).2
    replace h := (fgd h).2
    obtain rfl := Option.some.inj h
    exact fs_up fs_refl (.inl (by decide))
noncomputable def s_X9_countParts_l144 (l2 : Int) (s : (Int × fM)) : Option fM := fLp (fun s => s_X9_countParts_b144 s.2 l2 s.1) s
theorem s_X9_countParts_l144_ok {d L : Nat} {M : fM} {l2 l3 : Int} {o1 o4 o5 o6 o7 : Option fV} {r : fM} {Q : fO → fH → Prop} (h : s_X9_countParts_l144 l2 (l3, M) = some r) (hE : ∀ (e : fM) (o0' o1' o2' o3' o4' o5' o6' o7' : Option fV), r = e → Wp (d + 0, 128, 177, 0, 0, [o0', o1', o2', o3', o4', o5', o6', o7'], []) (156, fjl L, e) Q) : Wp (d + 0, 128, 144, 0, 0, [some (fA 67), o1, some (fI l2), some (fI l3), o4, o5, o6, o7], []) (156, fjl L, M) Q := by
  refine fLp_wp (W := fun s => ∀ (o1 o4 o5 o6 o7 : Option fV), Wp (d + 0, 128, 144, 0, 0, [some (fA 67), o1, some (fI l2), some (fI s.1), o4, o5, o6, o7], []) (156, fjl L, s.2) Q) (e := r) ?_ h _ _ _ _ _
  intro s r1 h hC hX o1 o4 o5 o6 o7
  refine s_X9_countParts_b144_ok (d := d) h (fun a0 a1 _ _ _ _ _ e1 => ?_) (fun e u0 u1 u2 u3 u4 u5 u6 u7 e1 => hE e u0 u1 u2 u3 u4 u5 u6 u7 (hX _ e1).symm)
  exact hC _ e1 _ _ _ _ _
theorem s_X9_countParts_l144_fr {M : fM} {l2 l3 : Int} {r : fM} (h : s_X9_countParts_l144 l2 (l3, M) = some r) : fSame s_X9_countParts_mods M ((fun e => e) r) := by
  refine fLp_inv (I := fun s => fSame s_X9_countParts_mods M s.2) (J := fun r => fSame s_X9_countParts_mods M ((fun e => e) r)) h fs_refl (fun s s1 hs hb => ?_) (fun s e hs hb => ?_)
  · exact fs_trans hs (s_X9_countParts_b144_fr hb)
  · exact fs_trans hs (s_X9_countParts_b144_fr hb)
noncomputable def s_X9_countParts (M : fM) (l1 : Int) : Option (Unit × fM) :=
  if fin (l1 * 9) then
    (s_X9_countParts_l7 l1 (l1 * 9) (0, M)).bind fun e7 =>
      (s_X9_countParts_l38 l1 (l1 * 9) (0, e7)).bind fun e38 =>
        (s_X9_countParts_l144 (l1 * 9) (1, e38)).bind fun e144 =>
          some ((), e144)
  else none
theorem s_X9_countParts_ok {d L : Nat} {M : fM} {l1 : Int} {r : (Unit × fM)} {Q : fO → fH → Prop} (h : s_X9_countParts M l1 = some r) (H : Q (oV r.1) (156, fjl L, r.2)) : Wp (d + 0, 128, 0, 0, 0, [some (fA 67), some (fI l1), none, none, none, none, none, none], []) (156, fjl L, M) Q := by
  unfold s_X9_countParts at h
  obtain ⟨g0, h⟩ := fgd h
  refine Wp.run 6 (f' := (d + 0, 128, 7, 0, 0, [some (fA 67), some (fI l1), some (fI (fw (l1 * 9))), some (fI 0), _, _, _, _], [])) (h' := (156, fjl L, M)) rfl trivial ?_
  rw [fw_id g0]
  obtain ⟨e7, hy, h⟩ := fbd h
  refine s_X9_countParts_l7_ok hy (fun x u3 u4 u5 u6 u7 ex => ?_)
  cases ex
  show Wp (d + 0, 128, 36, 0, 0, [some (fA 67), some (fI l1), some (fI (l1 * 9)), u3, u4, u5, u6, u7], []) (156, fjl L, e7) Q
  refine Wp.run 2 (f' := (d + 0, 128, 38, 0, 0, [some (fA 67), some (fI l1), some (fI (l1 * 9)), some (fI 0), _, _, _, _], [])) (h' := (156, fjl L, e7)) rfl trivial ?_
  obtain ⟨e38, hy, h⟩ := fbd h
  refine s_X9_countParts_l38_ok hy (fun x u1 u3 u4 u5 u6 u7 ex => ?_)
  cases ex
  show Wp (d + 0, 128, 142, 0, 0, [some (fA 67), u1, some (fI (l1 * 9)), u3, u4, u5, u6, u7], []) (156, fjl L, e38) Q
  refine Wp.run 2 (f' := (d + 0, 128, 144, 0, 0, [some (fA 67), _, some (fI (l1 * 9)), some (fI 1), _, _, _, _], [])) (h' := (156, fjl L, e38)) rfl trivial ?_
  obtain ⟨e144, hy, h⟩ := fbd h
  refine s_X9_countParts_l144_ok hy (fun x u0 u1 u2 u3 u4 u5 u6 u7 ex => ?_)
  cases ex
  show Wp (d + 0, 128, 177, 0, 0, [u0, u1, u2, u3, u4, u5, u6, u7], []) (156, fjl L, e144) Q
  obtain rfl := Option.some.inj h
  exact Wp.done rfl (by decide) H
theorem s_X9_countParts_fr {M : fM} {l1 : Int} {r : (Unit × fM)} (h : s_X9_countParts M l1 = some r) : fSame s_X9_countParts_mods M r.2 := by
  unfold s_X9_countParts at h
  replace h := (fgd h).2
  obtain ⟨e7, hy, h⟩ := fbd h
  have k7 := fs_trans (l := s_X9_countParts_mods) fs_refl (s_X9_countParts_l7_fr hy)
  obtain ⟨e38, hy, h⟩ := fbd h
  have k38 := fs_trans (l := s_X9_countParts_mods) k7 (s_X9_countParts_l38_fr hy)
  obtain ⟨e144, hy, h⟩ := fbd h
  have k144 := fs_trans (l := s_X9_countParts_mods) k38 (s_X9_countParts_l144_fr hy)
  obtain rfl := Option.some.inj h
  exact k144
noncomputable def s_X9_mostOf (M : fM) (l1 : Int) : Option Int :=
  (s_J9_min M l1 (M 67 3)).bind fun y5 =>
    some y5
theorem s_X9_mostOf_ok {d L : Nat} {M : fM} {l1 : Int} {r : Int} {Q : fO → fH → Prop} (h : s_X9_mostOf M l1 = some r) (H : Q (oI r) (156, fjl L, M)) : Wp (d + 1, 126, 0, 0, 0, [some (fA 67), some (fI l1)], []) (156, fjl L, M) Q := by
  unfold s_X9_mostOf at h
  refine Wp.run 3 (f' := (d + 1, 126, 5, 0, 0, [_, _], [fI (M 67 3), fI l1])) (h' := (156, fjl L, M)) rfl trivial ?_
  obtain ⟨y5, hy, h⟩ := fbd h
  refine Wp.call rfl (by decide) (s_J9_min_ok (d := d + 0) hy ?_)
  show Wp (d + 1, 126, 8, 0, 0, [_, _], [fI y5]) (156, fjl L, M) Q
  obtain rfl := Option.some.inj h
  exact Wp.done rfl (by decide) H
noncomputable def s_X9_chanceWith_b20 (M : fM) (l1 l5 l7 l9 : Int) : Option ((Int × Int × Int) ⊕ (Int × Int)) :=
  if (M 67 3) ≤ l9 then
    some (.inr (l5, l7))
  else
    if finl (l1 * (flrm l5 20)) ∧ finl (l7 + (l1 * (flrm l5 20))) then
      if fin (l9 + 1) then
        some (.inl ((fldv l5 20), (fldv (l7 + (l1 * (flrm l5 20))) 20), (l9 + 1)))
      else none
    else none
theorem s_X9_chanceWith_b20_ok {d L : Nat} {M : fM} {l1 l5 l7 l9 : Int} {o3 o4 : Option fV} {r : ((Int × Int × Int) ⊕ (Int × Int))} {Q : fO → fH → Prop} (h : s_X9_chanceWith_b20 M l1 l5 l7 l9 = some r) (hC : ∀ (l5' l7' l9' : Int) (o3' o4' : Option fV), r = .inl (l5', l7', l9') → Wp (d + 0, 129, 20, 0, 0, [some (fA 67), some (fJ l1), none, o3', o4', some (fJ l5'), none, some (fJ l7'), none, some (fI l9')], []) (156, fjl L, M) Q) (hE : ∀ (e : (Int × Int)) (o0' o3' o4' o9' : Option fV), r = .inr e → Wp (d + 0, 129, 60, 0, 0, [o0', some (fJ l1), none, o3', o4', some (fJ e.1), none, some (fJ e.2), none, o9'], []) (156, fjl L, M) Q) : Wp (d + 0, 129, 20, 0, 0, [some (fA 67), some (fJ l1), none, o3, o4, some (fJ l5), none, some (fJ l7), none, some (fI l9)], []) (156, fjl L, M) Q := by
  unfold s_X9_chanceWith_b20 at h
  refine Wp.run 3 (f' := (d + 0, 129, 26, 0, 0, [some (fA 67), some (fJ l1), none, _, _, some (fJ l5), none, some (fJ l7), none, some (fI l9)], [fI (M 67 3), fI l9])) (h' := (156, fjl L, M)) rfl trivial ?_
  refine Wp.br rfl (fun (c : (M 67 3) ≤ l9) => ?_) (fun (c : ¬ ((M 67 3) ≤ l9)) => ?_)
  · replace h := fps c h
    exact hE _ _ _ _ _ (Option.some.inj h).symm
  · replace h := fng c h
    obtain ⟨⟨g0, g1⟩, h⟩ := fgd h
    refine Wp.run 14 (P := [(20 : Int) ≠ 0, (20 : Int) ≠ 0, (20 : Int) ≠ 0]) (f' := (d + 0, 129, 54, 0, 0, [some (fA 67), some (fJ l1), none, _, _, some (fJ (fldv l5 20)), none, some (fJ (fldv (fwl (l7 + (fwl (l1 * (flrm l5 20))))) 20)), none, some (fI l9)], [])) (h' := (156, fjl L, M)) rfl ?_ ?_
    · exact ⟨(by decide : (20 : Int) ≠ 0), (by decide : (20 : Int) ≠ 0), (by decide : (20 : Int) ≠ 0)⟩
    rw [fwl_id g0, fwl_id g1]
    obtain ⟨g0, h⟩ := fgd h
    refine Wp.run 2 (f' := (d + 0, 129, 20, 0, 0, [some (fA 67), some (fJ l1), none, _, _, some (fJ (fldv l5 20)), none, some (fJ (fldv (l7 + (l1 * (flrm l5 20))) 20)), none, some (fI (fw (l9 + 1)))], [])) (h' := (156, fjl L, M)) rfl trivial ?_
    rw [fw_id g0]
    exact hC _ _ _ _ _ (Option.some.inj h).symm
noncomputable def s_X9_chanceWith_l20 (M : fM) (l1 : Int) (s : (Int × Int × Int)) : Option (Int × Int) := fLp (fun s => s_X9_chanceWith_b20 M l1 s.1 s.2.1 s.2.2) s
theorem s_X9_chanceWith_l20_ok {d L : Nat} {M : fM} {l1 l5 l7 l9 : Int} {o3 o4 : Option fV} {r : (Int × Int)} {Q : fO → fH → Prop} (h : s_X9_chanceWith_l20 M l1 (l5, l7, l9) = some r) (hE : ∀ (e : (Int × Int)) (o0' o3' o4' o9' : Option fV), r = e → Wp (d + 0, 129, 60, 0, 0, [o0', some (fJ l1), none, o3', o4', some (fJ e.1), none, some (fJ e.2), none, o9'], []) (156, fjl L, M) Q) : Wp (d + 0, 129, 20, 0, 0, [some (fA 67), some (fJ l1), none, o3, o4, some (fJ l5), none, some (fJ l7), none, some (fI l9)], []) (156, fjl L, M) Q := by
  refine fLp_wp (W := fun s => ∀ (o3 o4 : Option fV), Wp (d + 0, 129, 20, 0, 0, [some (fA 67), some (fJ l1), none, o3, o4, some (fJ s.1), none, some (fJ s.2.1), none, some (fI s.2.2)], []) (156, fjl L, M) Q) (e := r) ?_ h _ _
  intro s r1 h hC hX o3 o4
  refine s_X9_chanceWith_b20_ok (d := d) h (fun a0 a1 a2 _ _ e1 => ?_) (fun e u0 u1 u2 u3 e1 => hE e u0 u1 u2 u3 (hX _ e1).symm)
  exact hC _ e1 _ _
noncomputable def s_X9_chanceWith (M : fM) (l1 l3 l4 : Int) : Option Int :=
  if fin (l3 * 9) ∧ fin ((l3 * 9) + l4) ∧ (0 ≤ ((l3 * 9) + l4) ∧ ((l3 * 9) + l4) < 36) then
    (s_X9_chanceWith_l20 M l1 ((M 69 ((l3 * 9) + l4).toNat), 0, 0)).bind fun e20 =>
      if finl (l1 * e20.1) ∧ finl (e20.2 + (l1 * e20.1)) then
        some (e20.2 + (l1 * e20.1))
      else none
  else none
theorem s_X9_chanceWith_ok {d L : Nat} {M : fM} {l1 l3 l4 : Int} {r : Int} {Q : fO → fH → Prop} (h : s_X9_chanceWith M l1 l3 l4 = some r) (H : Q (oJ r) (156, fjl L, M)) : Wp (d + 0, 129, 0, 0, 0, [some (fA 67), some (fJ l1), none, some (fI l3), some (fI l4), none, none, none, none, none], []) (156, fjl L, M) Q := by
  unfold s_X9_chanceWith at h
  obtain ⟨⟨g0, g1, g2⟩, h⟩ := fgd h
  refine Wp.run 13 (P := [0 ≤ (fw ((fw (l3 * 9)) + l4)) ∧ (fw ((fw (l3 * 9)) + l4)) < 36]) (f' := (d + 0, 129, 20, 0, 0, [some (fA 67), some (fJ l1), none, _, _, some (fJ (M 69 (fw ((fw (l3 * 9)) + l4)).toNat)), none, some (fJ 0), none, some (fI 0)], [])) (h' := (156, fjl L, M)) rfl ?_ ?_
  · rw [fw_id g0, fw_id g1]; exact g2
  rw [fw_id g0, fw_id g1]
  obtain ⟨e20, hy, h⟩ := fbd h
  refine s_X9_chanceWith_l20_ok hy (fun x u0 u3 u4 u9 ex => ?_)
  cases ex
  show Wp (d + 0, 129, 60, 0, 0, [u0, some (fJ l1), none, u3, u4, some (fJ e20.1), none, some (fJ e20.2), none, u9], []) (156, fjl L, M) Q
  obtain ⟨⟨g0, g1⟩, h⟩ := fgd h
  refine Wp.run 5 (f' := (d + 0, 129, 67, 0, 0, [_, _, _, _, _, _, _, _, _, _], [fJ (fwl (e20.2 + (fwl (l1 * e20.1))))])) (h' := (156, fjl L, M)) rfl trivial ?_
  rw [fwl_id g0, fwl_id g1]
  obtain rfl := Option.some.inj h
  exact Wp.done rfl (by decide) H
