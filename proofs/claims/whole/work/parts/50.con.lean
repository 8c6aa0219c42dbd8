/-! ===== constructors (printed by genlaw.py) ===== -/
noncomputable def s_X10_withLetter_c4 (M : fM) (l0 l2 : Int) : Option Int :=
  if fin (l2 - 97) ∧ fin ((l2 - 97) + 1) then
    some (fwl ((fwl (l0 * 32)) + ((l2 - 97) + 1)))
  else none
theorem s_X10_withLetter_c4_ok {d : Nat} {J : Nat → Nat → Nat} {M : fM} {l0 l2 : Int} {r : Int} {Q : fO → fH → Prop} (h : s_X10_withLetter_c4 M l0 l2 = some r) (H : Q (oJ r) (4, J, M)) : Wp (d + 0, 131, 0, 0, 0, [some (fJ l0), none, some (fI l2)], []) (4, J, M) Q := by
  unfold s_X10_withLetter_c4 at h
  obtain ⟨⟨g0, g1⟩, h⟩ := fgd h
  refine Wp.run 10 (f' := (d + 0, 131, 13, 0, 0, [_, _, _], [fJ (fwl ((fwl (l0 * 32)) + (fw ((fw (l2 - 97)) + 1))))])) (h' := (4, J, M)) rfl trivial ?_
  rw [fw_id g0, fw_id g1]
  obtain rfl := Option.some.inj h
  exact Wp.done rfl (by decide) H
noncomputable def s_X10_init_c2_b28 (M : fM) (l1 l3 l4 : Int) : Option ((Int × Int × Int × fM) ⊕ fM) :=
  if 162 ≤ l4 then
    some (.inr M)
  else
    if 30 ≤ l3 then
      some (.inr M)
    else
      if (0 ≤ l4 ∧ l4 < 162) then
        if ¬ (M 1004 (l4).toNat) = 32 then
          (s_X10_withLetter_c4 M l1 (M 1004 (l4).toNat)).bind fun y78 =>
            if fin (l4 + 1) then
              some (.inl (y78, l3, (l4 + 1), M))
            else none
        else
          if (0 ≤ l3 ∧ l3 < 30) ∧ fin (l3 + 1) ∧ fin (l4 + 1) then
            some (.inl (0, (l3 + 1), (l4 + 1), (fup M 3 (l3).toNat l1)))
          else none
      else none
theorem s_X10_init_c2_b28_ok {d : Nat} {J : Nat → Nat → Nat} {M : fM} {l1 l3 l4 : Int} {o5 : Option fV} {r : ((Int × Int × Int × fM) ⊕ fM)} {Q : fO → fH → Prop} (h : s_X10_init_c2_b28 M l1 l3 l4 = some r) (hC : ∀ (l1' l3' l4' : Int) (M' : fM) (o5' : Option fV), r = .inl (l1', l3', l4', M') → Wp (d + 4, 130, 28, 2, 1270, [some (fA 1), some (fJ l1'), none, some (fI l3'), some (fI l4'), o5'], []) (4, (fupN (fclN (fupN (fclN J 2) 1 0 3) 3) 1 1 4), M') Q) (hE : ∀ (e : fM) (o0' o1' o2' o3' o4' o5' : Option fV), r = .inr e → Wp (d + 4, 130, 88, 2, 1270, [o0', o1', o2', o3', o4', o5'], []) (4, (fupN (fclN (fupN (fclN J 2) 1 0 3) 3) 1 1 4), e) Q) : Wp (d + 4, 130, 28, 2, 1270, [some (fA 1), some (fJ l1), none, some (fI l3), some (fI l4), o5], []) (4, (fupN (fclN (fupN (fclN J 2) 1 0 3) 3) 1 1 4), M) Q := by
  unfold s_X10_init_c2_b28 at h
  refine Wp.run 3 (P := [4 ≤ d + 4 ∧ 2 ≤ 2 ∧ 1270 ≤ 1270]) (f' := (d + 4, 130, 35, 2, 1270, [some (fA 1), some (fJ l1), none, some (fI l3), some (fI l4), _], [fI 162, fI l4])) (h' := (4, (fupN (fclN (fupN (fclN J 2) 1 0 3) 3) 1 1 4), M)) rfl ?_ ?_
  · exact ⟨Nat.le_add_left_of_le (by decide), by decide, by decide⟩
  refine Wp.br rfl (fun (c : 162 ≤ l4) => ?_) (fun (c : ¬ (162 ≤ l4)) => ?_)
  · replace h := fps c h
    exact hE _ _ _ _ _ _ _ (Option.some.inj h).symm
  · replace h := fng c h
    refine Wp.run 2 (f' := (d + 4, 130, 41, 2, 1270, [some (fA 1), some (fJ l1), none, some (fI l3), some (fI l4), _], [fI 30, fI l3])) (h' := (4, (fupN (fclN (fupN (fclN J 2) 1 0 3) 3) 1 1 4), M)) rfl trivial ?_
    refine Wp.br rfl (fun (c : 30 ≤ l3) => ?_) (fun (c : ¬ (30 ≤ l3)) => ?_)
    · replace h := fps c h
      exact hE _ _ _ _ _ _ _ (Option.some.inj h).symm
    · replace h := fng c h
      obtain ⟨g0, h⟩ := fgd h
      refine Wp.run 6 (P := [4 ≤ d + 4 ∧ 2 ≤ 2 ∧ 1270 ≤ 1270, 0 ≤ l4 ∧ l4 < 162]) (f' := (d + 4, 130, 57, 2, 1270, [some (fA 1), some (fJ l1), none, some (fI l3), some (fI l4), some (fI (M 1004 (l4).toNat))], [fI 32, fI (M 1004 (l4).toNat)])) (h' := (4, (fupN (fclN (fupN (fclN J 2) 1 0 3) 3) 1 1 4), M)) rfl ?_ ?_
      · exact ⟨⟨Nat.le_add_left_of_le (by decide), by decide, by decide⟩, g0⟩
      refine Wp.br rfl (fun (c : ¬ (M 1004 (l4).toNat) = 32) => ?_) (fun (c : ¬ (¬ (M 1004 (l4).toNat) = 32)) => ?_)
      · replace h := fps c h
        refine Wp.run 2 (f' := (d + 4, 130, 78, 2, 1270, [some (fA 1), _, _, some (fI l3), some (fI l4), _], [fI (M 1004 (l4).toNat), fJ l1])) (h' := (4, (fupN (fclN (fupN (fclN J 2) 1 0 3) 3) 1 1 4), M)) rfl trivial ?_
        obtain ⟨y78, hy, h⟩ := fbd h
        refine Wp.call rfl (by decide) (s_X10_withLetter_c4_ok (d := d + 3) hy ?_)
        show Wp (d + 4, 130, 81, 2, 1270, [some (fA 1), _, _, some (fI l3), some (fI l4), _], [fJ y78]) (4, (fupN (fclN (fupN (fclN J 2) 1 0 3) 3) 1 1 4), M) Q
        obtain ⟨g0, h⟩ := fgd h
        refine Wp.run 3 (f' := (d + 4, 130, 28, 2, 1270, [some (fA 1), some (fJ y78), none, some (fI l3), some (fI (fw (l4 + 1))), _], [])) (h' := (4, (fupN (fclN (fupN (fclN J 2) 1 0 3) 3) 1 1 4), M)) rfl trivial ?_
        rw [fw_id g0]
        exact hC _ _ _ _ _ (Option.some.inj h).symm
      · replace h := fng c h
        obtain ⟨⟨g0, g1, g2⟩, h⟩ := fgd h
        refine Wp.run 11 (P := [0 ≤ l3 ∧ l3 < 30]) (f' := (d + 4, 130, 28, 2, 1270, [some (fA 1), some (fJ 0), none, some (fI (fw (l3 + 1))), some (fI (fw (l4 + 1))), _], [])) (h' := (4, (fupN (fclN (fupN (fclN J 2) 1 0 3) 3) 1 1 4), (fup M 3 (l3).toNat l1))) rfl ?_ ?_
        · exact g0
        rw [fw_id g1, fw_id g2]
        exact hC _ _ _ _ _ (Option.some.inj h).symm
noncomputable def s_X10_init_c2_l28 (s : (Int × Int × Int × fM)) : Option fM := fLp (fun s => s_X10_init_c2_b28 s.2.2.2 s.1 s.2.1 s.2.2.1) s
theorem s_X10_init_c2_l28_ok {d : Nat} {J : Nat → Nat → Nat} {M : fM} {l1 l3 l4 : Int} {o5 : Option fV} {r : fM} {Q : fO → fH → Prop} (h : s_X10_init_c2_l28 (l1, l3, l4, M) = some r) (hE : ∀ (e : fM) (o0' o1' o2' o3' o4' o5' : Option fV), r = e → Wp (d + 4, 130, 88, 2, 1270, [o0', o1', o2', o3', o4', o5'], []) (4, (fupN (fclN (fupN (fclN J 2) 1 0 3) 3) 1 1 4), e) Q) : Wp (d + 4, 130, 28, 2, 1270, [some (fA 1), some (fJ l1), none, some (fI l3), some (fI l4), o5], []) (4, (fupN (fclN (fupN (fclN J 2) 1 0 3) 3) 1 1 4), M) Q := by
  refine fLp_wp (W := fun s => ∀ (o5 : Option fV), Wp (d + 4, 130, 28, 2, 1270, [some (fA 1), some (fJ s.1), none, some (fI s.2.1), some (fI s.2.2.1), o5], []) (4, (fupN (fclN (fupN (fclN J 2) 1 0 3) 3) 1 1 4), s.2.2.2) Q) (e := r) ?_ h _
  intro s r1 h hC hX o5
  refine s_X10_init_c2_b28_ok (d := d) h (fun a0 a1 a2 a3 _ e1 => ?_) (fun e u0 u1 u2 u3 u4 u5 e1 => hE e u0 u1 u2 u3 u4 u5 (hX _ e1).symm)
  exact hC _ e1 _
noncomputable def s_X10_init_c2_j23 (M : fM) (l1 : Int) : Option (Unit × fM) :=
  (s_X10_init_c2_l28 (l1, 0, 0, M)).bind fun e28 =>
    some ((), e28)
theorem s_X10_init_c2_j23_ok {d : Nat} {J : Nat → Nat → Nat} {M : fM} {l1 : Int} {o3 o4 o5 : Option fV} {r : (Unit × fM)} {Q : fO → fH → Prop} (h : s_X10_init_c2_j23 M l1 = some r) (H : Q (oV r.1) (4, (fupN (fclN (fupN (fclN J 2) 1 0 3) 3) 1 1 4), r.2)) : Wp (d + 4, 130, 23, 2, 1270, [some (fA 1), some (fJ l1), none, o3, o4, o5], []) (4, (fupN (fclN (fupN (fclN J 2) 1 0 3) 3) 1 1 4), M) Q := by
  unfold s_X10_init_c2_j23 at h
  refine Wp.run 4 (f' := (d + 4, 130, 28, 2, 1270, [some (fA 1), some (fJ l1), none, some (fI 0), some (fI 0), _], [])) (h' := (4, (fupN (fclN (fupN (fclN J 2) 1 0 3) 3) 1 1 4), M)) rfl trivial ?_
  obtain ⟨e28, hy, h⟩ := fbd h
  refine s_X10_init_c2_l28_ok hy (fun x u0 u1 u2 u3 u4 u5 ex => ?_)
  cases ex
  show Wp (d + 4, 130, 88, 2, 1270, [u0, u1, u2, u3, u4, u5], []) (4, (fupN (fclN (fupN (fclN J 2) 1 0 3) 3) 1 1 4), e28) Q
  obtain rfl := Option.some.inj h
  exact Wp.done rfl (by decide) H
noncomputable def s_X10_init_c2 (M : fM) : Option (Unit × fM) :=
  s_X10_init_c2_j23 (fclr (fclr M 2) 3) 0
theorem s_X10_init_c2_ok {d : Nat} {J : Nat → Nat → Nat} {M : fM} {r : (Unit × fM)} {Q : fO → fH → Prop} (h : s_X10_init_c2 M = some r) (H : Q (oV r.1) (4, (fupN (fclN (fupN (fclN J 2) 1 0 3) 3) 1 1 4), r.2)) : Wp (d + 4, 130, 0, 0, 0, [some (fA 1), none, none, none, none, none], []) (2, J, M) Q := by
  unfold s_X10_init_c2 at h
  refine Wp.run 12 (P := [1 ≤ d + 4, (1240 : Int) = 1240 ∧ 0 + 1 ≤ 2 ∧ 0 + 1240 ≤ 1270, (30 : Int) = 30 ∧ 1 + 1 ≤ 2 ∧ 1240 + 30 ≤ 1270]) (f' := (d + 4, 130, 23, 2, 1270, [some (fA 1), some (fJ 0), none, _, _, _], [])) (h' := (4, (fupN (fclN (fupN (fclN J 2) 1 0 3) 3) 1 1 4), (fclr (fclr M 2) 3))) rfl ?_ ?_
  · exact ⟨Nat.le_add_left_of_le (by decide), (by decide : (1240 : Int) = 1240 ∧ 0 + 1 ≤ 2 ∧ 0 + 1240 ≤ 1270), (by decide : (30 : Int) = 30 ∧ 1 + 1 ≤ 2 ∧ 1240 + 30 ≤ 1270)⟩
  exact s_X10_init_c2_j23_ok h H
abbrev jo_s_X10_init_c2 (J : Nat → Nat → Nat) : Nat → Nat → Nat := (fupN (fclN (fupN (fclN J 2) 1 0 3) 3) 1 1 4)
noncomputable def s_J7_fill_5_c18_b5 (M : fM) (l1 l2 l3 : Int) : Option ((Int × fM) ⊕ fM) :=
  if l3 ≤ l2 then
    some (.inr M)
  else
    if (0 ≤ l2 ∧ l2 < 12) ∧ fin (l2 + 1) then
      some (.inl ((l2 + 1), (fup M 5 (l2).toNat l1)))
    else none
theorem s_J7_fill_5_c18_b5_ok {d : Nat} {J : Nat → Nat → Nat} {M : fM} {l1 l2 l3 : Int} {r : ((Int × fM) ⊕ fM)} {Q : fO → fH → Prop} (h : s_J7_fill_5_c18_b5 M l1 l2 l3 = some r) (hC : ∀ (l2' : Int) (M' : fM), r = .inl (l2', M') → Wp (d + 0, 315, 5, 0, 0, [some (fA 5), some (fI l1), some (fI l2'), some (fI l3)], []) (18, J, M') Q) (hE : ∀ (e : fM) (o0' o1' o2' o3' : Option fV), r = .inr e → Wp (d + 0, 315, 20, 0, 0, [o0', o1', o2', o3'], []) (18, J, e) Q) : Wp (d + 0, 315, 5, 0, 0, [some (fA 5), some (fI l1), some (fI l2), some (fI l3)], []) (18, J, M) Q := by
  unfold s_J7_fill_5_c18_b5 at h
  refine Wp.run 2 (f' := (d + 0, 315, 7, 0, 0, [some (fA 5), some (fI l1), some (fI l2), some (fI l3)], [fI l3, fI l2])) (h' := (18, J, M)) rfl trivial ?_
  refine Wp.br rfl (fun (c : l3 ≤ l2) => ?_) (fun (c : ¬ (l3 ≤ l2)) => ?_)
  · replace h := fps c h
    exact hE _ _ _ _ _ (Option.some.inj h).symm
  · replace h := fng c h
    obtain ⟨⟨g0, g1⟩, h⟩ := fgd h
    refine Wp.run 6 (P := [0 ≤ l2 ∧ l2 < 12]) (f' := (d + 0, 315, 5, 0, 0, [some (fA 5), some (fI l1), some (fI (fw (l2 + 1))), some (fI l3)], [])) (h' := (18, J, (fup M 5 (l2).toNat l1))) rfl ?_ ?_
    · exact g0
    rw [fw_id g1]
    exact hC _ _ (Option.some.inj h).symm
noncomputable def s_J7_fill_5_c18_l5 (l1 l3 : Int) (s : (Int × fM)) : Option fM := fLp (fun s => s_J7_fill_5_c18_b5 s.2 l1 s.1 l3) s
theorem s_J7_fill_5_c18_l5_ok {d : Nat} {J : Nat → Nat → Nat} {M : fM} {l1 l2 l3 : Int} {r : fM} {Q : fO → fH → Prop} (h : s_J7_fill_5_c18_l5 l1 l3 (l2, M) = some r) (hE : ∀ (e : fM) (o0' o1' o2' o3' : Option fV), r = e → Wp (d + 0, 315, 20, 0, 0, [o0', o1', o2', o3'], []) (18, J, e) Q) : Wp (d + 0, 315, 5, 0, 0, [some (fA 5), some (fI l1), some (fI l2), some (fI l3)], []) (18, J, M) Q := by
  refine fLp_wp (W := fun s => Wp (d + 0, 315, 5, 0, 0, [some (fA 5), some (fI l1), some (fI s.1), some (fI l3)], []) (18, J, s.2) Q) (e := r) ?_ h
  intro s r1 h hC hX
  refine s_J7_fill_5_c18_b5_ok (d := d) h (fun a0 a1 e1 => ?_) (fun e u0 u1 u2 u3 e1 => hE e u0 u1 u2 u3 (hX _ e1).symm)
  exact hC _ e1
noncomputable def s_J7_fill_5_c18 (M : fM) (l1 : Int) : Option (Unit × fM) :=
  (s_J7_fill_5_c18_l5 l1 12 (0, M)).bind fun e5 =>
    some ((), e5)
theorem s_J7_fill_5_c18_ok {d : Nat} {J : Nat → Nat → Nat} {M : fM} {l1 : Int} {r : (Unit × fM)} {Q : fO → fH → Prop} (h : s_J7_fill_5_c18 M l1 = some r) (H : Q (oV r.1) (18, J, r.2)) : Wp (d + 0, 315, 0, 0, 0, [some (fA 5), some (fI l1), none, none], []) (18, J, M) Q := by
  unfold s_J7_fill_5_c18 at h
  refine Wp.run 5 (f' := (d + 0, 315, 5, 0, 0, [some (fA 5), some (fI l1), some (fI 0), some (fI 12)], [])) (h' := (18, J, M)) rfl trivial ?_
  obtain ⟨e5, hy, h⟩ := fbd h
  refine s_J7_fill_5_c18_l5_ok hy (fun x u0 u1 u2 u3 ex => ?_)
  cases ex
  show Wp (d + 0, 315, 20, 0, 0, [u0, u1, u2, u3], []) (18, J, e5) Q
  obtain rfl := Option.some.inj h
  exact Wp.done rfl (by decide) H
noncomputable def s_J7_fill_6_c18_b5 (M : fM) (l1 l2 l3 : Int) : Option ((Int × fM) ⊕ fM) :=
  if l3 ≤ l2 then
    some (.inr M)
  else
    if (0 ≤ l2 ∧ l2 < 52) ∧ fin (l2 + 1) then
      some (.inl ((l2 + 1), (fup M 6 (l2).toNat l1)))
    else none
theorem s_J7_fill_6_c18_b5_ok {d : Nat} {J : Nat → Nat → Nat} {M : fM} {l1 l2 l3 : Int} {r : ((Int × fM) ⊕ fM)} {Q : fO → fH → Prop} (h : s_J7_fill_6_c18_b5 M l1 l2 l3 = some r) (hC : ∀ (l2' : Int) (M' : fM), r = .inl (l2', M') → Wp (d + 0, 315, 5, 0, 0, [some (fA 6), some (fI l1), some (fI l2'), some (fI l3)], []) (18, J, M') Q) (hE : ∀ (e : fM) (o0' o1' o2' o3' : Option fV), r = .inr e → Wp (d + 0, 315, 20, 0, 0, [o0', o1', o2', o3'], []) (18, J, e) Q) : Wp (d + 0, 315, 5, 0, 0, [some (fA 6), some (fI l1), some (fI l2), some (fI l3)], []) (18, J, M) Q := by
  unfold s_J7_fill_6_c18_b5 at h
  refine Wp.run 2 (f' := (d + 0, 315, 7, 0, 0, [some (fA 6), some (fI l1), some (fI l2), some (fI l3)], [fI l3, fI l2])) (h' := (18, J, M)) rfl trivial ?_
  refine Wp.br rfl (fun (c : l3 ≤ l2) => ?_) (fun (c : ¬ (l3 ≤ l2)) => ?_)
  · replace h := fps c h
    exact hE _ _ _ _ _ (Option.some.inj h).symm
  · replace h := fng c h
    obtain ⟨⟨g0, g1⟩, h⟩ := fgd h
    refine Wp.run 6 (P := [0 ≤ l2 ∧ l2 < 52]) (f' := (d + 0, 315, 5, 0, 0, [some (fA 6), some (fI l1), some (fI (fw (l2 + 1))), some (fI l3)], [])) (h' := (18, J, (fup M 6 (l2).toNat l1))) rfl ?_ ?_
    · exact g0
    rw [fw_id g1]
    exact hC _ _ (Option.some.inj h).symm
noncomputable def s_J7_fill_6_c18_l5 (l1 l3 : Int) (s : (Int × fM)) : Option fM := fLp (fun s => s_J7_fill_6_c18_b5 s.2 l1 s.1 l3) s
theorem s_J7_fill_6_c18_l5_ok {d : Nat} {J : Nat → Nat → Nat} {M : fM} {l1 l2 l3 : Int} {r : fM} {Q : fO → fH → Prop} (h : s_J7_fill_6_c18_l5 l1 l3 (l2, M) = some r) (hE : ∀ (e : fM) (o0' o1' o2' o3' : Option fV), r = e → Wp (d + 0, 315, 20, 0, 0, [o0', o1', o2', o3'], []) (18, J, e) Q) : Wp (d + 0, 315, 5, 0, 0, [some (fA 6), some (fI l1), some (fI l2), some (fI l3)], []) (18, J, M) Q := by
  refine fLp_wp (W := fun s => Wp (d + 0, 315, 5, 0, 0, [some (fA 6), some (fI l1), some (fI s.1), some (fI l3)], []) (18, J, s.2) Q) (e := r) ?_ h
  intro s r1 h hC hX
  refine s_J7_fill_6_c18_b5_ok (d := d) h (fun a0 a1 e1 => ?_) (fun e u0 u1 u2 u3 e1 => hE e u0 u1 u2 u3 (hX _ e1).symm)
  exact hC _ e1
noncomputable def s_J7_fill_6_c18 (M : fM) (l1 : Int) : Option (Unit × fM) :=
  (s_J7_fill_6_c18_l5 l1 52 (0, M)).bind fun e5 =>
    some ((), e5)
theorem s_J7_fill_6_c18_ok {d : Nat} {J : Nat → Nat → Nat} {M : fM} {l1 : Int} {r : (Unit × fM)} {Q : fO → fH → Prop} (h : s_J7_fill_6_c18 M l1 = some r) (H : Q (oV r.1) (18, J, r.2)) : Wp (d + 0, 315, 0, 0, 0, [some (fA 6), some (fI l1), none, none], []) (18, J, M) Q := by
  unfold s_J7_fill_6_c18 at h
  refine Wp.run 5 (f' := (d + 0, 315, 5, 0, 0, [some (fA 6), some (fI l1), some (fI 0), some (fI 52)], [])) (h' := (18, J, M)) rfl trivial ?_
  obtain ⟨e5, hy, h⟩ := fbd h
  refine s_J7_fill_6_c18_l5_ok hy (fun x u0 u1 u2 u3 ex => ?_)
  cases ex
  show Wp (d + 0, 315, 20, 0, 0, [u0, u1, u2, u3], []) (18, J, e5) Q
  obtain rfl := Option.some.inj h
  exact Wp.done rfl (by decide) H
noncomputable def s_J7_fill_7_c18_b5 (M : fM) (l1 l2 l3 : Int) : Option ((Int × fM) ⊕ fM) :=
  if l3 ≤ l2 then
    some (.inr M)
  else
    if (0 ≤ l2 ∧ l2 < 52) ∧ fin (l2 + 1) then
      some (.inl ((l2 + 1), (fup M 7 (l2).toNat l1)))
    else none
theorem s_J7_fill_7_c18_b5_ok {d : Nat} {J : Nat → Nat → Nat} {M : fM} {l1 l2 l3 : Int} {r : ((Int × fM) ⊕ fM)} {Q : fO → fH → Prop} (h : s_J7_fill_7_c18_b5 M l1 l2 l3 = some r) (hC : ∀ (l2' : Int) (M' : fM), r = .inl (l2', M') → Wp (d + 0, 315, 5, 0, 0, [some (fA 7), some (fI l1), some (fI l2'), some (fI l3)], []) (18, J, M') Q) (hE : ∀ (e : fM) (o0' o1' o2' o3' : Option fV), r = .inr e → Wp (d + 0, 315, 20, 0, 0, [o0', o1', o2', o3'], []) (18, J, e) Q) : Wp (d + 0, 315, 5, 0, 0, [some (fA 7), some (fI l1), some (fI l2), some (fI l3)], []) (18, J, M) Q := by
  unfold s_J7_fill_7_c18_b5 at h
  refine Wp.run 2 (f' := (d + 0, 315, 7, 0, 0, [some (fA 7), some (fI l1), some (fI l2), some (fI l3)], [fI l3, fI l2])) (h' := (18, J, M)) rfl trivial ?_
  refine Wp.br rfl (fun (c : l3 ≤ l2) => ?_) (fun (c : ¬ (l3 ≤ l2)) => ?_)
  · replace h := fps c h
    exact hE _ _ _ _ _ (Option.some.inj h).symm
  · replace h := fng c h
    obtain ⟨⟨g0, g1⟩, h⟩ := fgd h
    refine Wp.run 6 (P := [0 ≤ l2 ∧ l2 < 52]) (f' := (d + 0, 315, 5, 0, 0, [some (fA 7), some (fI l1), some (fI (fw (l2 + 1))), some (fI l3)], [])) (h' := (18, J, (fup M 7 (l2).toNat l1))) rfl ?_ ?_
    · exact g0
    rw [fw_id g1]
    exact hC _ _ (Option.some.inj h).symm
noncomputable def s_J7_fill_7_c18_l5 (l1 l3 : Int) (s : (Int × fM)) : Option fM := fLp (fun s => s_J7_fill_7_c18_b5 s.2 l1 s.1 l3) s
theorem s_J7_fill_7_c18_l5_ok {d : Nat} {J : Nat → Nat → Nat} {M : fM} {l1 l2 l3 : Int} {r : fM} {Q : fO → fH → Prop} (h : s_J7_fill_7_c18_l5 l1 l3 (l2, M) = some r) (hE : ∀ (e : fM) (o0' o1' o2' o3' : Option fV), r = e → Wp (d + 0, 315, 20, 0, 0, [o0', o1', o2', o3'], []) (18, J, e) Q) : Wp (d + 0, 315, 5, 0, 0, [some (fA 7), some (fI l1), some (fI l2), some (fI l3)], []) (18, J, M) Q := by
  refine fLp_wp (W := fun s => Wp (d + 0, 315, 5, 0, 0, [some (fA 7), some (fI l1), some (fI s.1), some (fI l3)], []) (18, J, s.2) Q) (e := r) ?_ h
  intro s r1 h hC hX
  refine s_J7_fill_7_c18_b5_ok (d := d) h (fun a0 a1 e1 => ?_) (fun e u0 u1 u2 u3 e1 => hE e u0 u1 u2 u3 (hX _ e1).symm)
  exact hC _ e1
noncomputable def s_J7_fill_7_c18 (M : fM) (l1 : Int) : Option (Unit × fM) :=
  (s_J7_fill_7_c18_l5 l1 52 (0, M)).bind fun e5 =>
    some ((), e5)
theorem s_J7_fill_7_c18_ok {d : Nat} {J : Nat → Nat → Nat} {M : fM} {l1 : Int} {r : (Unit × fM)} {Q : fO → fH → Prop} (h : s_J7_fill_7_c18 M l1 = some r) (H : Q (oV r.1) (18, J, r.2)) : Wp (d + 0, 315, 0, 0, 0, [some (fA 7), some (fI l1), none, none], []) (18, J, M) Q := by
  unfold s_J7_fill_7_c18 at h
  refine Wp.run 5 (f' := (d + 0, 315, 5, 0, 0, [some (fA 7), some (fI l1), some (fI 0), some (fI 52)], [])) (h' := (18, J, M)) rfl trivial ?_
  obtain ⟨e5, hy, h⟩ := fbd h
  refine s_J7_fill_7_c18_l5_ok hy (fun x u0 u1 u2 u3 ex => ?_)
  cases ex
  show Wp (d + 0, 315, 20, 0, 0, [u0, u1, u2, u3], []) (18, J, e5) Q
  obtain rfl := Option.some.inj h
  exact Wp.done rfl (by decide) H
noncomputable def s_J7_fill_14_c18_b5 (M : fM) (l1 l2 l3 : Int) : Option ((Int × fM) ⊕ fM) :=
  if l3 ≤ l2 then
    some (.inr M)
  else
    if (0 ≤ l2 ∧ l2 < 36) ∧ fin (l2 + 1) then
      some (.inl ((l2 + 1), (fup M 14 (l2).toNat l1)))
    else none
theorem s_J7_fill_14_c18_b5_ok {d : Nat} {J : Nat → Nat → Nat} {M : fM} {l1 l2 l3 : Int} {r : ((Int × fM) ⊕ fM)} {Q : fO → fH → Prop} (h : s_J7_fill_14_c18_b5 M l1 l2 l3 = some r) (hC : ∀ (l2' : Int) (M' : fM), r = .inl (l2', M') → Wp (d + 0, 315, 5, 0, 0, [some (fA 14), some (fI l1), some (fI l2'), some (fI l3)], []) (18, J, M') Q) (hE : ∀ (e : fM) (o0' o1' o2' o3' : Option fV), r = .inr e → Wp (d + 0, 315, 20, 0, 0, [o0', o1', o2', o3'], []) (18, J, e) Q) : Wp (d + 0, 315, 5, 0, 0, [some (fA 14), some (fI l1), some (fI l2), some (fI l3)], []) (18, J, M) Q := by
  unfold s_J7_fill_14_c18_b5 at h
  refine Wp.run 2 (f' := (d + 0, 315, 7, 0, 0, [some (fA 14), some (fI l1), some (fI l2), some (fI l3)], [fI l3, fI l2])) (h' := (18, J, M)) rfl trivial ?_
  refine Wp.br rfl (fun (c : l3 ≤ l2) => ?_) (fun (c : ¬ (l3 ≤ l2)) => ?_)
  · replace h := fps c h
    exact hE _ _ _ _ _ (Option.some.inj h).symm
  · replace h := fng c h
    obtain ⟨⟨g0, g1⟩, h⟩ := fgd h
    refine Wp.run 6 (P := [0 ≤ l2 ∧ l2 < 36]) (f' := (d + 0, 315, 5, 0, 0, [some (fA 14), some (fI l1), some (fI (fw (l2 + 1))), some (fI l3)], [])) (h' := (18, J, (fup M 14 (l2).toNat l1))) rfl ?_ ?_
    · exact g0
    rw [fw_id g1]
    exact hC _ _ (Option.some.inj h).symm
noncomputable def s_J7_fill_14_c18_l5 (l1 l3 : Int) (s : (Int × fM)) : Option fM := fLp (fun s => s_J7_fill_14_c18_b5 s.2 l1 s.1 l3) s
theorem s_J7_fill_14_c18_l5_ok {d : Nat} {J : Nat → Nat → Nat} {M : fM} {l1 l2 l3 : Int} {r : fM} {Q : fO → fH → Prop} (h : s_J7_fill_14_c18_l5 l1 l3 (l2, M) = some r) (hE : ∀ (e : fM) (o0' o1' o2' o3' : Option fV), r = e → Wp (d + 0, 315, 20, 0, 0, [o0', o1', o2', o3'], []) (18, J, e) Q) : Wp (d + 0, 315, 5, 0, 0, [some (fA 14), some (fI l1), some (fI l2), some (fI l3)], []) (18, J, M) Q := by
  refine fLp_wp (W := fun s => Wp (d + 0, 315, 5, 0, 0, [some (fA 14), some (fI l1), some (fI s.1), some (fI l3)], []) (18, J, s.2) Q) (e := r) ?_ h
  intro s r1 h hC hX
  refine s_J7_fill_14_c18_b5_ok (d := d) h (fun a0 a1 e1 => ?_) (fun e u0 u1 u2 u3 e1 => hE e u0 u1 u2 u3 (hX _ e1).symm)
  exact hC _ e1
noncomputable def s_J7_fill_14_c18 (M : fM) (l1 : Int) : Option (Unit × fM) :=
  (s_J7_fill_14_c18_l5 l1 36 (0, M)).bind fun e5 =>
    some ((), e5)
theorem s_J7_fill_14_c18_ok {d : Nat} {J : Nat → Nat → Nat} {M : fM} {l1 : Int} {r : (Unit × fM)} {Q : fO → fH → Prop} (h : s_J7_fill_14_c18 M l1 = some r) (H : Q (oV r.1) (18, J, r.2)) : Wp (d + 0, 315, 0, 0, 0, [some (fA 14), some (fI l1), none, none], []) (18, J, M) Q := by
  unfold s_J7_fill_14_c18 at h
  refine Wp.run 5 (f' := (d + 0, 315, 5, 0, 0, [some (fA 14), some (fI l1), some (fI 0), some (fI 36)], [])) (h' := (18, J, M)) rfl trivial ?_
  obtain ⟨e5, hy, h⟩ := fbd h
  refine s_J7_fill_14_c18_l5_ok hy (fun x u0 u1 u2 u3 ex => ?_)
  cases ex
  show Wp (d + 0, 315, 20, 0, 0, [u0, u1, u2, u3], []) (18, J, e5) Q
  obtain rfl := Option.some.inj h
  exact Wp.done rfl (by decide) H
noncomputable def s_X2_clear_4_c18_j57 (M : fM) : Option (Unit × fM) :=
  some ((), (fup (fup (fup M 4 15 0) 4 16 0) 4 17 0))
theorem s_X2_clear_4_c18_j57_ok {d : Nat} {J : Nat → Nat → Nat} {M : fM} {r : (Unit × fM)} {Q : fO → fH → Prop} (h : s_X2_clear_4_c18_j57 M = some r) (H : Q (oV r.1) (18, (fupN (fclN (fupN (fclN (fupN (fclN (fupN (fclN (fupN (fclN (fupN (fclN (fupN (fclN (fupN (fclN (fupN (fclN (fupN (fclN (fupN (fclN (fupN (fclN (fupN (fclN J 5) 4 0 6) 6) 4 1 7) 7) 4 2 8) 8) 4 3 9) 9) 4 4 10) 10) 4 5 11) 11) 4 6 12) 12) 4 7 13) 13) 4 8 14) 14) 4 9 15) 15) 4 10 16) 16) 4 11 17) 17) 4 12 18), r.2)) : Wp (d + 1, 25, 57, 0, 0, [some (fA 4)], []) (18, (fupN (fclN (fupN (fclN (fupN (fclN (fupN (fclN (fupN (fclN (fupN (fclN (fupN (fclN (fupN (fclN (fupN (fclN (fupN (fclN (fupN (fclN (fupN (fclN (fupN (fclN J 5) 4 0 6) 6) 4 1 7) 7) 4 2 8) 8) 4 3 9) 9) 4 4 10) 10) 4 5 11) 11) 4 6 12) 12) 4 7 13) 13) 4 8 14) 14) 4 9 15) 15) 4 10 16) 16) 4 11 17) 17) 4 12 18), M) Q := by
  unfold s_X2_clear_4_c18_j57 at h
  refine Wp.run 9 (f' := (d + 1, 25, 72, 0, 0, [_], [])) (h' := (18, (fupN (fclN (fupN (fclN (fupN (fclN (fupN (fclN (fupN (fclN (fupN (fclN (fupN (fclN (fupN (fclN (fupN (fclN (fupN (fclN (fupN (fclN (fupN (fclN (fupN (fclN J 5) 4 0 6) 6) 4 1 7) 7) 4 2 8) 8) 4 3 9) 9) 4 4 10) 10) 4 5 11) 11) 4 6 12) 12) 4 7 13) 13) 4 8 14) 14) 4 9 15) 15) 4 10 16) 16) 4 11 17) 17) 4 12 18), (fup (fup (fup M 4 15 0) 4 16 0) 4 17 0))) rfl trivial ?_
  obtain rfl := Option.some.inj h
  exact Wp.done rfl (by decide) H
noncomputable def s_X2_clear_4_c18 (M : fM) : Option (Unit × fM) :=
  (s_J7_fill_5_c18 M 0).bind fun y5 =>
    (s_J7_fill_6_c18 y5.2 20).bind fun y14 =>
      (s_J7_fill_7_c18 y14.2 0).bind fun y22 =>
        (s_J7_fill_14_c18 y22.2 0).bind fun y30 =>
          s_X2_clear_4_c18_j57 (fup (fup (fcpy y30.2 1001 0 8 0 6) 4 13 0) 4 14 0)
theorem s_X2_clear_4_c18_ok {d : Nat} {J : Nat → Nat → Nat} {M : fM} {r : (Unit × fM)} {Q : fO → fH → Prop} (h : s_X2_clear_4_c18 M = some r) (H : Q (oV r.1) (18, (fupN (fclN (fupN (fclN (fupN (fclN (fupN (fclN (fupN (fclN (fupN (fclN (fupN (fclN (fupN (fclN (fupN (fclN (fupN (fclN (fupN (fclN (fupN (fclN (fupN (fclN J 5) 4 0 6) 6) 4 1 7) 7) 4 2 8) 8) 4 3 9) 9) 4 4 10) 10) 4 5 11) 11) 4 6 12) 12) 4 7 13) 13) 4 8 14) 14) 4 9 15) 15) 4 10 16) 16) 4 11 17) 17) 4 12 18), r.2)) : Wp (d + 1, 25, 0, 0, 0, [some (fA 4)], []) (18, (fupN (fclN (fupN (fclN (fupN (fclN (fupN (fclN (fupN (fclN (fupN (fclN (fupN (fclN (fupN (fclN (fupN (fclN (fupN (fclN (fupN (fclN (fupN (fclN (fupN (fclN J 5) 4 0 6) 6) 4 1 7) 7) 4 2 8) 8) 4 3 9) 9) 4 4 10) 10) 4 5 11) 11) 4 6 12) 12) 4 7 13) 13) 4 8 14) 14) 4 9 15) 15) 4 10 16) 16) 4 11 17) 17) 4 12 18), M) Q := by
  unfold s_X2_clear_4_c18 at h
  refine Wp.run 3 (f' := (d + 1, 25, 5, 0, 0, [some (fA 4)], [fI 0, fA 5])) (h' := (18, (fupN (fclN (fupN (fclN (fupN (fclN (fupN (fclN (fupN (fclN (fupN (fclN (fupN (fclN (fupN (fclN (fupN (fclN (fupN (fclN (fupN (fclN (fupN (fclN (fupN (fclN J 5) 4 0 6) 6) 4 1 7) 7) 4 2 8) 8) 4 3 9) 9) 4 4 10) 10) 4 5 11) 11) 4 6 12) 12) 4 7 13) 13) 4 8 14) 14) 4 9 15) 15) 4 10 16) 16) 4 11 17) 17) 4 12 18), M)) rfl trivial ?_
  obtain ⟨y5, hy, h⟩ := fbd h
  refine Wp.call rfl (by decide) (s_J7_fill_5_c18_ok (d := d + 0) hy ?_)
  show Wp (d + 1, 25, 8, 0, 0, [some (fA 4)], []) (18, (fupN (fclN (fupN (fclN (fupN (fclN (fupN (fclN (fupN (fclN (fupN (fclN (fupN (fclN (fupN (fclN (fupN (fclN (fupN (fclN (fupN (fclN (fupN (fclN (fupN (fclN J 5) 4 0 6) 6) 4 1 7) 7) 4 2 8) 8) 4 3 9) 9) 4 4 10) 10) 4 5 11) 11) 4 6 12) 12) 4 7 13) 13) 4 8 14) 14) 4 9 15) 15) 4 10 16) 16) 4 11 17) 17) 4 12 18), y5.2) Q
  refine Wp.run 3 (f' := (d + 1, 25, 14, 0, 0, [some (fA 4)], [fI 20, fA 6])) (h' := (18, (fupN (fclN (fupN (fclN (fupN (fclN (fupN (fclN (fupN (fclN (fupN (fclN (fupN (fclN (fupN (fclN (fupN (fclN (fupN (fclN (fupN (fclN (fupN (fclN (fupN (fclN J 5) 4 0 6) 6) 4 1 7) 7) 4 2 8) 8) 4 3 9) 9) 4 4 10) 10) 4 5 11) 11) 4 6 12) 12) 4 7 13) 13) 4 8 14) 14) 4 9 15) 15) 4 10 16) 16) 4 11 17) 17) 4 12 18), y5.2)) rfl trivial ?_
  obtain ⟨y14, hy, h⟩ := fbd h
  refine Wp.call rfl (by decide) (s_J7_fill_6_c18_ok (d := d + 0) hy ?_)
  show Wp (d + 1, 25, 17, 0, 0, [some (fA 4)], []) (18, (fupN (fclN (fupN (fclN (fupN (fclN (fupN (fclN (fupN (fclN (fupN (fclN (fupN (fclN (fupN (fclN (fupN (fclN (fupN (fclN (fupN (fclN (fupN (fclN (fupN (fclN J 5) 4 0 6) 6) 4 1 7) 7) 4 2 8) 8) 4 3 9) 9) 4 4 10) 10) 4 5 11) 11) 4 6 12) 12) 4 7 13) 13) 4 8 14) 14) 4 9 15) 15) 4 10 16) 16) 4 11 17) 17) 4 12 18), y14.2) Q
  refine Wp.run 3 (f' := (d + 1, 25, 22, 0, 0, [some (fA 4)], [fI 0, fA 7])) (h' := (18, (fupN (fclN (fupN (fclN (fupN (fclN (fupN (fclN (fupN (fclN (fupN (fclN (fupN (fclN (fupN (fclN (fupN (fclN (fupN (fclN (fupN (fclN (fupN (fclN (fupN (fclN J 5) 4 0 6) 6) 4 1 7) 7) 4 2 8) 8) 4 3 9) 9) 4 4 10) 10) 4 5 11) 11) 4 6 12) 12) 4 7 13) 13) 4 8 14) 14) 4 9 15) 15) 4 10 16) 16) 4 11 17) 17) 4 12 18), y14.2)) rfl trivial ?_
  obtain ⟨y22, hy, h⟩ := fbd h
  refine Wp.call rfl (by decide) (s_J7_fill_7_c18_ok (d := d + 0) hy ?_)
  show Wp (d + 1, 25, 25, 0, 0, [some (fA 4)], []) (18, (fupN (fclN (fupN (fclN (fupN (fclN (fupN (fclN (fupN (fclN (fupN (fclN (fupN (fclN (fupN (fclN (fupN (fclN (fupN (fclN (fupN (fclN (fupN (fclN (fupN (fclN J 5) 4 0 6) 6) 4 1 7) 7) 4 2 8) 8) 4 3 9) 9) 4 4 10) 10) 4 5 11) 11) 4 6 12) 12) 4 7 13) 13) 4 8 14) 14) 4 9 15) 15) 4 10 16) 16) 4 11 17) 17) 4 12 18), y22.2) Q
  refine Wp.run 3 (f' := (d + 1, 25, 30, 0, 0, [some (fA 4)], [fI 0, fA 14])) (h' := (18, (fupN (fclN (fupN (fclN (fupN (fclN (fupN (fclN (fupN (fclN (fupN (fclN (fupN (fclN (fupN (fclN (fupN (fclN (fupN (fclN (fupN (fclN (fupN (fclN (fupN (fclN J 5) 4 0 6) 6) 4 1 7) 7) 4 2 8) 8) 4 3 9) 9) 4 4 10) 10) 4 5 11) 11) 4 6 12) 12) 4 7 13) 13) 4 8 14) 14) 4 9 15) 15) 4 10 16) 16) 4 11 17) 17) 4 12 18), y22.2)) rfl trivial ?_
  obtain ⟨y30, hy, h⟩ := fbd h
  refine Wp.call rfl (by decide) (s_J7_fill_14_c18_ok (d := d + 0) hy ?_)
  show Wp (d + 1, 25, 33, 0, 0, [some (fA 4)], []) (18, (fupN (fclN (fupN (fclN (fupN (fclN (fupN (fclN (fupN (fclN (fupN (fclN (fupN (fclN (fupN (fclN (fupN (fclN (fupN (fclN (fupN (fclN (fupN (fclN (fupN (fclN J 5) 4 0 6) 6) 4 1 7) 7) 4 2 8) 8) 4 3 9) 9) 4 4 10) 10) 4 5 11) 11) 4 6 12) 12) 4 7 13) 13) 4 8 14) 14) 4 9 15) 15) 4 10 16) 16) 4 11 17) 17) 4 12 18), y30.2) Q
  refine Wp.run 13 (P := [1 ≤ d + 1, (0 : Int) ≤ 0 ∧ (0 : Int) ≤ 0 ∧ (0 : Int) ≤ 6 ∧ (0 : Int) + 6 ≤ 6 ∧ (0 : Int) + 6 ≤ 6 ∧ 1001 ≠ 8]) (f' := (d + 1, 25, 57, 0, 0, [some (fA 4)], [])) (h' := (18, (fupN (fclN (fupN (fclN (fupN (fclN (fupN (fclN (fupN (fclN (fupN (fclN (fupN (fclN (fupN (fclN (fupN (fclN (fupN (fclN (fupN (fclN (fupN (fclN (fupN (fclN J 5) 4 0 6) 6) 4 1 7) 7) 4 2 8) 8) 4 3 9) 9) 4 4 10) 10) 4 5 11) 11) 4 6 12) 12) 4 7 13) 13) 4 8 14) 14) 4 9 15) 15) 4 10 16) 16) 4 11 17) 17) 4 12 18), (fup (fup (fcpy y30.2 1001 0 8 0 6) 4 13 0) 4 14 0))) rfl ?_ ?_
  · exact ⟨Nat.le_add_left_of_le (by decide), ⟨by decide, by decide, by decide, by decide, by decide, by decide⟩⟩
  exact s_X2_clear_4_c18_j57_ok h H
abbrev jn_s_X2_init_4_c5_j53 (J : Nat → Nat → Nat) : Nat → Nat → Nat := (fupN (fclN (fupN (fclN (fupN (fclN (fupN (fclN (fupN (fclN (fupN (fclN J 5) 4 0 6) 6) 4 1 7) 7) 4 2 8) 8) 4 3 9) 9) 4 4 10) 10) 4 5 11)
abbrev jn_s_X2_init_4_c5_j102 (J : Nat → Nat → Nat) : Nat → Nat → Nat := (fupN (fclN (fupN (fclN (fupN (fclN (fupN (fclN (fupN (fclN (fupN (fclN (jn_s_X2_init_4_c5_j53 J) 11) 4 6 12) 12) 4 7 13) 13) 4 8 14) 14) 4 9 15) 15) 4 10 16) 16) 4 11 17)
noncomputable def s_X2_init_4_c5_j102 (M : fM) : Option (Unit × fM) :=
  (s_X2_clear_4_c18 (fclr M 17)).bind fun y111 =>
    some ((), y111.2)
theorem s_X2_init_4_c5_j102_ok {d : Nat} {J : Nat → Nat → Nat} {M : fM} {r : (Unit × fM)} {Q : fO → fH → Prop} (h : s_X2_init_4_c5_j102 M = some r) (H : Q (oV r.1) (18, (fupN (fclN (jn_s_X2_init_4_c5_j102 J) 17) 4 12 18), r.2)) : Wp (d + 2, 24, 102, 12, 662, [some (fA 4)], []) (17, (jn_s_X2_init_4_c5_j102 J), M) Q := by
  unfold s_X2_init_4_c5_j102 at h
  refine Wp.run 5 (P := [(6 : Int) = 6 ∧ 12 + 1 ≤ 13 ∧ 662 + 6 ≤ 668]) (f' := (d + 2, 24, 111, 13, 668, [_], [fA 4])) (h' := (18, (fupN (fclN (jn_s_X2_init_4_c5_j102 J) 17) 4 12 18), (fclr M 17))) rfl ?_ ?_
  · exact (by decide : (6 : Int) = 6 ∧ 12 + 1 ≤ 13 ∧ 662 + 6 ≤ 668)
  obtain ⟨y111, hy, h⟩ := fbd h
  refine Wp.call rfl (by decide) (s_X2_clear_4_c18_ok (d := d + 0) hy ?_)
  show Wp (d + 2, 24, 114, 13, 668, [_], []) (18, (fupN (fclN (jn_s_X2_init_4_c5_j102 J) 17) 4 12 18), y111.2) Q
  obtain rfl := Option.some.inj h
  exact Wp.done rfl (by decide) H
noncomputable def s_X2_init_4_c5_j78 (M : fM) : Option (Unit × fM) :=
  s_X2_init_4_c5_j102 (fclr (fclr (fclr M 14) 15) 16)
theorem s_X2_init_4_c5_j78_ok {d : Nat} {J : Nat → Nat → Nat} {M : fM} {r : (Unit × fM)} {Q : fO → fH → Prop} (h : s_X2_init_4_c5_j78 M = some r) (H : Q (oV r.1) (18, (fupN (fclN (jn_s_X2_init_4_c5_j102 J) 17) 4 12 18), r.2)) : Wp (d + 2, 24, 78, 9, 604, [some (fA 4)], []) (14, (fupN (fclN (fupN (fclN (fupN (fclN (jn_s_X2_init_4_c5_j53 J) 11) 4 6 12) 12) 4 7 13) 13) 4 8 14), M) Q := by
  unfold s_X2_init_4_c5_j78 at h
  refine Wp.run 12 (P := [(36 : Int) = 36 ∧ 9 + 1 ≤ 13 ∧ 604 + 36 ≤ 668, (16 : Int) = 16 ∧ 10 + 1 ≤ 13 ∧ 640 + 16 ≤ 668, (6 : Int) = 6 ∧ 11 + 1 ≤ 13 ∧ 656 + 6 ≤ 668]) (f' := (d + 2, 24, 102, 12, 662, [some (fA 4)], [])) (h' := (17, (fupN (fclN (fupN (fclN (fupN (fclN (fupN (fclN (fupN (fclN (fupN (fclN (jn_s_X2_init_4_c5_j53 J) 11) 4 6 12) 12) 4 7 13) 13) 4 8 14) 14) 4 9 15) 15) 4 10 16) 16) 4 11 17), (fclr (fclr (fclr M 14) 15) 16))) rfl ?_ ?_
  · exact ⟨(by decide : (36 : Int) = 36 ∧ 9 + 1 ≤ 13 ∧ 604 + 36 ≤ 668), (by decide : (16 : Int) = 16 ∧ 10 + 1 ≤ 13 ∧ 640 + 16 ≤ 668), (by decide : (6 : Int) = 6 ∧ 11 + 1 ≤ 13 ∧ 656 + 6 ≤ 668)⟩
  exact s_X2_init_4_c5_j102_ok h H
noncomputable def s_X2_init_4_c5_j53 (M : fM) : Option (Unit × fM) :=
  s_X2_init_4_c5_j78 (fclr (fclr (fclr M 11) 12) 13)
theorem s_X2_init_4_c5_j53_ok {d : Nat} {J : Nat → Nat → Nat} {M : fM} {r : (Unit × fM)} {Q : fO → fH → Prop} (h : s_X2_init_4_c5_j53 M = some r) (H : Q (oV r.1) (18, (fupN (fclN (jn_s_X2_init_4_c5_j102 J) 17) 4 12 18), r.2)) : Wp (d + 2, 24, 53, 6, 330, [some (fA 4)], []) (11, (jn_s_X2_init_4_c5_j53 J), M) Q := by
  unfold s_X2_init_4_c5_j53 at h
  refine Wp.run 12 (P := [(192 : Int) = 192 ∧ 6 + 1 ≤ 13 ∧ 330 + 192 ≤ 668, (64 : Int) = 64 ∧ 7 + 1 ≤ 13 ∧ 522 + 64 ≤ 668, (18 : Int) = 18 ∧ 8 + 1 ≤ 13 ∧ 586 + 18 ≤ 668]) (f' := (d + 2, 24, 78, 9, 604, [some (fA 4)], [])) (h' := (14, (fupN (fclN (fupN (fclN (fupN (fclN (jn_s_X2_init_4_c5_j53 J) 11) 4 6 12) 12) 4 7 13) 13) 4 8 14), (fclr (fclr (fclr M 11) 12) 13))) rfl ?_ ?_
  · exact ⟨(by decide : (192 : Int) = 192 ∧ 6 + 1 ≤ 13 ∧ 330 + 192 ≤ 668), (by decide : (64 : Int) = 64 ∧ 7 + 1 ≤ 13 ∧ 522 + 64 ≤ 668), (by decide : (18 : Int) = 18 ∧ 8 + 1 ≤ 13 ∧ 586 + 18 ≤ 668)⟩
  exact s_X2_init_4_c5_j78_ok h H
noncomputable def s_X2_init_4_c5_j28 (M : fM) : Option (Unit × fM) :=
  s_X2_init_4_c5_j53 (fclr (fclr (fclr M 8) 9) 10)
theorem s_X2_init_4_c5_j28_ok {d : Nat} {J : Nat → Nat → Nat} {M : fM} {r : (Unit × fM)} {Q : fO → fH → Prop} (h : s_X2_init_4_c5_j28 M = some r) (H : Q (oV r.1) (18, (fupN (fclN (jn_s_X2_init_4_c5_j102 J) 17) 4 12 18), r.2)) : Wp (d + 2, 24, 28, 3, 116, [some (fA 4)], []) (8, (fupN (fclN (fupN (fclN (fupN (fclN J 5) 4 0 6) 6) 4 1 7) 7) 4 2 8), M) Q := by
  unfold s_X2_init_4_c5_j28 at h
  refine Wp.run 12 (P := [(6 : Int) = 6 ∧ 3 + 1 ≤ 13 ∧ 116 + 6 ≤ 668, (48 : Int) = 48 ∧ 4 + 1 ≤ 13 ∧ 122 + 48 ≤ 668, (160 : Int) = 160 ∧ 5 + 1 ≤ 13 ∧ 170 + 160 ≤ 668]) (f' := (d + 2, 24, 53, 6, 330, [some (fA 4)], [])) (h' := (11, (fupN (fclN (fupN (fclN (fupN (fclN (fupN (fclN (fupN (fclN (fupN (fclN J 5) 4 0 6) 6) 4 1 7) 7) 4 2 8) 8) 4 3 9) 9) 4 4 10) 10) 4 5 11), (fclr (fclr (fclr M 8) 9) 10))) rfl ?_ ?_
  · exact ⟨(by decide : (6 : Int) = 6 ∧ 3 + 1 ≤ 13 ∧ 116 + 6 ≤ 668), (by decide : (48 : Int) = 48 ∧ 4 + 1 ≤ 13 ∧ 122 + 48 ≤ 668), (by decide : (160 : Int) = 160 ∧ 5 + 1 ≤ 13 ∧ 170 + 160 ≤ 668)⟩
  exact s_X2_init_4_c5_j53_ok h H
noncomputable def s_X2_init_4_c5 (M : fM) : Option (Unit × fM) :=
  s_X2_init_4_c5_j28 (fclr (fclr (fclr M 5) 6) 7)
theorem s_X2_init_4_c5_ok {d : Nat} {J : Nat → Nat → Nat} {M : fM} {r : (Unit × fM)} {Q : fO → fH → Prop} (h : s_X2_init_4_c5 M = some r) (H : Q (oV r.1) (18, (fupN (fclN (jn_s_X2_init_4_c5_j102 J) 17) 4 12 18), r.2)) : Wp (d + 2, 24, 0, 0, 0, [some (fA 4)], []) (5, J, M) Q := by
  unfold s_X2_init_4_c5 at h
  refine Wp.run 14 (P := [1 ≤ d + 2, (12 : Int) = 12 ∧ 0 + 1 ≤ 13 ∧ 0 + 12 ≤ 668, (52 : Int) = 52 ∧ 1 + 1 ≤ 13 ∧ 12 + 52 ≤ 668, (52 : Int) = 52 ∧ 2 + 1 ≤ 13 ∧ 64 + 52 ≤ 668]) (f' := (d + 2, 24, 28, 3, 116, [some (fA 4)], [])) (h' := (8, (fupN (fclN (fupN (fclN (fupN (fclN J 5) 4 0 6) 6) 4 1 7) 7) 4 2 8), (fclr (fclr (fclr M 5) 6) 7))) rfl ?_ ?_
  · exact ⟨Nat.le_add_left_of_le (by decide), (by decide : (12 : Int) = 12 ∧ 0 + 1 ≤ 13 ∧ 0 + 12 ≤ 668), (by decide : (52 : Int) = 52 ∧ 1 + 1 ≤ 13 ∧ 12 + 52 ≤ 668), (by decide : (52 : Int) = 52 ∧ 2 + 1 ≤ 13 ∧ 64 + 52 ≤ 668)⟩
  exact s_X2_init_4_c5_j28_ok h H
abbrev jo_s_X2_init_4_c5 (J : Nat → Nat → Nat) : Nat → Nat → Nat := (fupN (fclN (jn_s_X2_init_4_c5_j102 J) 17) 4 12 18)
abbrev jn_s_X6_init_18_c19_j58 (J : Nat → Nat → Nat) : Nat → Nat → Nat := (fupN (fclN (fupN (fclN (fupN (fclN (fupN (fclN (fupN (fclN (fupN (fclN J 19) 18 0 20) 20) 18 1 21) 21) 18 2 22) 22) 18 3 23) 23) 18 4 24) 24) 18 5 25)
noncomputable def s_X6_init_18_c19_j58 (M : fM) : Option (Unit × fM) :=
  some ((), (fclr (fclr M 25) 26))
theorem s_X6_init_18_c19_j58_ok {d : Nat} {J : Nat → Nat → Nat} {M : fM} {r : (Unit × fM)} {Q : fO → fH → Prop} (h : s_X6_init_18_c19_j58 M = some r) (H : Q (oV r.1) (27, (fupN (fclN (fupN (fclN (jn_s_X6_init_18_c19_j58 J) 25) 18 6 26) 26) 18 7 27), r.2)) : Wp (d + 1, 76, 58, 6, 1200, [some (fA 18)], []) (25, (jn_s_X6_init_18_c19_j58 J), M) Q := by
  unfold s_X6_init_18_c19_j58 at h
  refine Wp.run 8 (P := [(200 : Int) = 200 ∧ 6 + 1 ≤ 8 ∧ 1200 + 200 ≤ 3800, (2400 : Int) = 2400 ∧ 7 + 1 ≤ 8 ∧ 1400 + 2400 ≤ 3800]) (f' := (d + 1, 76, 76, 8, 3800, [_], [])) (h' := (27, (fupN (fclN (fupN (fclN (jn_s_X6_init_18_c19_j58 J) 25) 18 6 26) 26) 18 7 27), (fclr (fclr M 25) 26))) rfl ?_ ?_
  · exact ⟨(by decide : (200 : Int) = 200 ∧ 6 + 1 ≤ 8 ∧ 1200 + 200 ≤ 3800), (by decide : (2400 : Int) = 2400 ∧ 7 + 1 ≤ 8 ∧ 1400 + 2400 ≤ 3800)⟩
  obtain rfl := Option.some.inj h
  exact Wp.done rfl (by decide) H
noncomputable def s_X6_init_18_c19_j31 (M : fM) : Option (Unit × fM) :=
  s_X6_init_18_c19_j58 (fclr (fclr (fclr M 22) 23) 24)
theorem s_X6_init_18_c19_j31_ok {d : Nat} {J : Nat → Nat → Nat} {M : fM} {r : (Unit × fM)} {Q : fO → fH → Prop} (h : s_X6_init_18_c19_j31 M = some r) (H : Q (oV r.1) (27, (fupN (fclN (fupN (fclN (jn_s_X6_init_18_c19_j58 J) 25) 18 6 26) 26) 18 7 27), r.2)) : Wp (d + 1, 76, 31, 3, 600, [some (fA 18)], []) (22, (fupN (fclN (fupN (fclN (fupN (fclN J 19) 18 0 20) 20) 18 1 21) 21) 18 2 22), M) Q := by
  unfold s_X6_init_18_c19_j31 at h
  refine Wp.run 12 (P := [(200 : Int) = 200 ∧ 3 + 1 ≤ 8 ∧ 600 + 200 ≤ 3800, (200 : Int) = 200 ∧ 4 + 1 ≤ 8 ∧ 800 + 200 ≤ 3800, (200 : Int) = 200 ∧ 5 + 1 ≤ 8 ∧ 1000 + 200 ≤ 3800]) (f' := (d + 1, 76, 58, 6, 1200, [some (fA 18)], [])) (h' := (25, (fupN (fclN (fupN (fclN (fupN (fclN (fupN (fclN (fupN (fclN (fupN (fclN J 19) 18 0 20) 20) 18 1 21) 21) 18 2 22) 22) 18 3 23) 23) 18 4 24) 24) 18 5 25), (fclr (fclr (fclr M 22) 23) 24))) rfl ?_ ?_
  · exact ⟨(by decide : (200 : Int) = 200 ∧ 3 + 1 ≤ 8 ∧ 600 + 200 ≤ 3800), (by decide : (200 : Int) = 200 ∧ 4 + 1 ≤ 8 ∧ 800 + 200 ≤ 3800), (by decide : (200 : Int) = 200 ∧ 5 + 1 ≤ 8 ∧ 1000 + 200 ≤ 3800)⟩
  exact s_X6_init_18_c19_j58_ok h H
noncomputable def s_X6_init_18_c19 (M : fM) : Option (Unit × fM) :=
  s_X6_init_18_c19_j31 (fclr (fclr (fclr M 19) 20) 21)
theorem s_X6_init_18_c19_ok {d : Nat} {J : Nat → Nat → Nat} {M : fM} {r : (Unit × fM)} {Q : fO → fH → Prop} (h : s_X6_init_18_c19 M = some r) (H : Q (oV r.1) (27, (fupN (fclN (fupN (fclN (jn_s_X6_init_18_c19_j58 J) 25) 18 6 26) 26) 18 7 27), r.2)) : Wp (d + 1, 76, 0, 0, 0, [some (fA 18)], []) (19, J, M) Q := by
  unfold s_X6_init_18_c19 at h
  refine Wp.run 14 (P := [1 ≤ d + 1, (200 : Int) = 200 ∧ 0 + 1 ≤ 8 ∧ 0 + 200 ≤ 3800, (200 : Int) = 200 ∧ 1 + 1 ≤ 8 ∧ 200 + 200 ≤ 3800, (200 : Int) = 200 ∧ 2 + 1 ≤ 8 ∧ 400 + 200 ≤ 3800]) (f' := (d + 1, 76, 31, 3, 600, [some (fA 18)], [])) (h' := (22, (fupN (fclN (fupN (fclN (fupN (fclN J 19) 18 0 20) 20) 18 1 21) 21) 18 2 22), (fclr (fclr (fclr M 19) 20) 21))) rfl ?_ ?_
  · exact ⟨Nat.le_add_left_of_le (by decide), (by decide : (200 : Int) = 200 ∧ 0 + 1 ≤ 8 ∧ 0 + 200 ≤ 3800), (by decide : (200 : Int) = 200 ∧ 1 + 1 ≤ 8 ∧ 200 + 200 ≤ 3800), (by decide : (200 : Int) = 200 ∧ 2 + 1 ≤ 8 ∧ 400 + 200 ≤ 3800)⟩
  exact s_X6_init_18_c19_j31_ok h H
abbrev jo_s_X6_init_18_c19 (J : Nat → Nat → Nat) : Nat → Nat → Nat := (fupN (fclN (fupN (fclN (jn_s_X6_init_18_c19_j58 J) 25) 18 6 26) 26) 18 7 27)
noncomputable def s_J7_fill_29_c42_b5 (M : fM) (l1 l2 l3 : Int) : Option ((Int × fM) ⊕ fM) :=
  if l3 ≤ l2 then
    some (.inr M)
  else
    if (0 ≤ l2 ∧ l2 < 12) ∧ fin (l2 + 1) then
      some (.inl ((l2 + 1), (fup M 29 (l2).toNat l1)))
    else none
theorem s_J7_fill_29_c42_b5_ok {d : Nat} {J : Nat → Nat → Nat} {M : fM} {l1 l2 l3 : Int} {r : ((Int × fM) ⊕ fM)} {Q : fO → fH → Prop} (h : s_J7_fill_29_c42_b5 M l1 l2 l3 = some r) (hC : ∀ (l2' : Int) (M' : fM), r = .inl (l2', M') → Wp (d + 0, 315, 5, 0, 0, [some (fA 29), some (fI l1), some (fI l2'), some (fI l3)], []) (42, J, M') Q) (hE : ∀ (e : fM) (o0' o1' o2' o3' : Option fV), r = .inr e → Wp (d + 0, 315, 20, 0, 0, [o0', o1', o2', o3'], []) (42, J, e) Q) : Wp (d + 0, 315, 5, 0, 0, [some (fA 29), some (fI l1), some (fI l2), some (fI l3)], []) (42, J, M) Q := by
  unfold s_J7_fill_29_c42_b5 at h
  refine Wp.run 2 (f' := (d + 0, 315, 7, 0, 0, [some (fA 29), some (fI l1), some (fI l2), some (fI l3)], [fI l3, fI l2])) (h' := (42, J, M)) rfl trivial ?_
  refine Wp.br rfl (fun (c : l3 ≤ l2) => ?_) (fun (c : ¬ (l3 ≤ l2)) => ?_)
  · replace h := fps c h
    exact hE _ _ _ _ _ (Option.some.inj h).symm
  · replace h := fng c h
    obtain ⟨⟨g0, g1⟩, h⟩ := fgd h
    refine Wp.run 6 (P := [0 ≤ l2 ∧ l2 < 12]) (f' := (d + 0, 315, 5, 0, 0, [some (fA 29), some (fI l1), some (fI (fw (l2 + 1))), some (fI l3)], [])) (h' := (42, J, (fup M 29 (l2).toNat l1))) rfl ?_ ?_
    · exact g0
    rw [fw_id g1]
    exact hC _ _ (Option.some.inj h).symm
noncomputable def s_J7_fill_29_c42_l5 (l1 l3 : Int) (s : (Int × fM)) : Option fM := fLp (fun s => s_J7_fill_29_c42_b5 s.2 l1 s.1 l3) s
theorem s_J7_fill_29_c42_l5_ok {d : Nat} {J : Nat → Nat → Nat} {M : fM} {l1 l2 l3 : Int} {r : fM} {Q : fO → fH → Prop} (h : s_J7_fill_29_c42_l5 l1 l3 (l2, M) = some r) (hE : ∀ (e : fM) (o0' o1' o2' o3' : Option fV), r = e → Wp (d + 0, 315, 20, 0, 0, [o0', o1', o2', o3'], []) (42, J, e) Q) : Wp (d + 0, 315, 5, 0, 0, [some (fA 29), some (fI l1), some (fI l2), some (fI l3)], []) (42, J, M) Q := by
  refine fLp_wp (W := fun s => Wp (d + 0, 315, 5, 0, 0, [some (fA 29), some (fI l1), some (fI s.1), some (fI l3)], []) (42, J, s.2) Q) (e := r) ?_ h
  intro s r1 h hC hX
  refine s_J7_fill_29_c42_b5_ok (d := d) h (fun a0 a1 e1 => ?_) (fun e u0 u1 u2 u3 e1 => hE e u0 u1 u2 u3 (hX _ e1).symm)
  exact hC _ e1
noncomputable def s_J7_fill_29_c42 (M : fM) (l1 : Int) : Option (Unit × fM) :=
  (s_J7_fill_29_c42_l5 l1 12 (0, M)).bind fun e5 =>
    some ((), e5)
theorem s_J7_fill_29_c42_ok {d : Nat} {J : Nat → Nat → Nat} {M : fM} {l1 : Int} {r : (Unit × fM)} {Q : fO → fH → Prop} (h : s_J7_fill_29_c42 M l1 = some r) (H : Q (oV r.1) (42, J, r.2)) : Wp (d + 0, 315, 0, 0, 0, [some (fA 29), some (fI l1), none, none], []) (42, J, M) Q := by
  unfold s_J7_fill_29_c42 at h
  refine Wp.run 5 (f' := (d + 0, 315, 5, 0, 0, [some (fA 29), some (fI l1), some (fI 0), some (fI 12)], [])) (h' := (42, J, M)) rfl trivial ?_
  obtain ⟨e5, hy, h⟩ := fbd h
  refine s_J7_fill_29_c42_l5_ok hy (fun x u0 u1 u2 u3 ex => ?_)
  cases ex
  show Wp (d + 0, 315, 20, 0, 0, [u0, u1, u2, u3], []) (42, J, e5) Q
  obtain rfl := Option.some.inj h
  exact Wp.done rfl (by decide) H
noncomputable def s_J7_fill_30_c42_b5 (M : fM) (l1 l2 l3 : Int) : Option ((Int × fM) ⊕ fM) :=
  if l3 ≤ l2 then
    some (.inr M)
  else
    if (0 ≤ l2 ∧ l2 < 52) ∧ fin (l2 + 1) then
      some (.inl ((l2 + 1), (fup M 30 (l2).toNat l1)))
    else none
theorem s_J7_fill_30_c42_b5_ok {d : Nat} {J : Nat → Nat → Nat} {M : fM} {l1 l2 l3 : Int} {r : ((Int × fM) ⊕ fM)} {Q : fO → fH → Prop} (h : s_J7_fill_30_c42_b5 M l1 l2 l3 = some r) (hC : ∀ (l2' : Int) (M' : fM), r = .inl (l2', M') → Wp (d + 0, 315, 5, 0, 0, [some (fA 30), some (fI l1), some (fI l2'), some (fI l3)], []) (42, J, M') Q) (hE : ∀ (e : fM) (o0' o1' o2' o3' : Option fV), r = .inr e → Wp (d + 0, 315, 20, 0, 0, [o0', o1', o2', o3'], []) (42, J, e) Q) : Wp (d + 0, 315, 5, 0, 0, [some (fA 30), some (fI l1), some (fI l2), some (fI l3)], []) (42, J, M) Q := by
  unfold s_J7_fill_30_c42_b5 at h
  refine Wp.run 2 (f' := (d + 0, 315, 7, 0, 0, [some (fA 30), some (fI l1), some (fI l2), some (fI l3)], [fI l3, fI l2])) (h' := (42, J, M)) rfl trivial ?_
  refine Wp.br rfl (fun (c : l3 ≤ l2) => ?_) (fun (c : ¬ (l3 ≤ l2)) => ?_)
  · replace h := fps c h
    exact hE _ _ _ _ _ (Option.some.inj h).symm
  · replace h := fng c h
    obtain ⟨⟨g0, g1⟩, h⟩ := fgd h
    refine Wp.run 6 (P := [0 ≤ l2 ∧ l2 < 52]) (f' := (d + 0, 315, 5, 0, 0, [some (fA 30), some (fI l1), some (fI (fw (l2 + 1))), some (fI l3)], [])) (h' := (42, J, (fup M 30 (l2).toNat l1))) rfl ?_ ?_
    · exact g0
    rw [fw_id g1]
    exact hC _ _ (Option.some.inj h).symm
noncomputable def s_J7_fill_30_c42_l5 (l1 l3 : Int) (s : (Int × fM)) : Option fM := fLp (fun s => s_J7_fill_30_c42_b5 s.2 l1 s.1 l3) s
theorem s_J7_fill_30_c42_l5_ok {d : Nat} {J : Nat → Nat → Nat} {M : fM} {l1 l2 l3 : Int} {r : fM} {Q : fO → fH → Prop} (h : s_J7_fill_30_c42_l5 l1 l3 (l2, M) = some r) (hE : ∀ (e : fM) (o0' o1' o2' o3' : Option fV), r = e → Wp (d + 0, 315, 20, 0, 0, [o0', o1', o2', o3'], []) (42, J, e) Q) : Wp (d + 0, 315, 5, 0, 0, [some (fA 30), some (fI l1), some (fI l2), some (fI l3)], []) (42, J, M) Q := by
  refine fLp_wp (W := fun s => Wp (d + 0, 315, 5, 0, 0, [some (fA 30), some (fI l1), some (fI s.1), some (fI l3)], []) (42, J, s.2) Q) (e := r) ?_ h
  intro s r1 h hC hX
  refine s_J7_fill_30_c42_b5_ok (d := d) h (fun a0 a1 e1 => ?_) (fun e u0 u1 u2 u3 e1 => hE e u0 u1 u2 u3 (hX _ e1).symm)
  exact hC _ e1
noncomputable def s_J7_fill_30_c42 (M : fM) (l1 : Int) : Option (Unit × fM) :=
  (s_J7_fill_30_c42_l5 l1 52 (0, M)).bind fun e5 =>
    some ((), e5)
theorem s_J7_fill_30_c42_ok {d : Nat} {J : Nat → Nat → Nat} {M : fM} {l1 : Int} {r : (Unit × fM)} {Q : fO → fH → Prop} (h : s_J7_fill_30_c42 M l1 = some r) (H : Q (oV r.1) (42, J, r.2)) : Wp (d + 0, 315, 0, 0, 0, [some (fA 30), some (fI l1), none, none], []) (42, J, M) Q := by
  unfold s_J7_fill_30_c42 at h
  refine Wp.run 5 (f' := (d + 0, 315, 5, 0, 0, [some (fA 30), some (fI l1), some (fI 0), some (fI 52)], [])) (h' := (42, J, M)) rfl trivial ?_
  obtain ⟨e5, hy, h⟩ := fbd h
  refine s_J7_fill_30_c42_l5_ok hy (fun x u0 u1 u2 u3 ex => ?_)
  cases ex
  show Wp (d + 0, 315, 20, 0, 0, [u0, u1, u2, u3], []) (42, J, e5) Q
  obtain rfl := Option.some.inj h
  exact Wp.done rfl (by decide) H
noncomputable def s_J7_fill_31_c42_b5 (M : fM) (l1 l2 l3 : Int) : Option ((Int × fM) ⊕ fM) :=
  if l3 ≤ l2 then
    some (.inr M)
  else
    if (0 ≤ l2 ∧ l2 < 52) ∧ fin (l2 + 1) then
      some (.inl ((l2 + 1), (fup M 31 (l2).toNat l1)))
    else none
theorem s_J7_fill_31_c42_b5_ok {d : Nat} {J : Nat → Nat → Nat} {M : fM} {l1 l2 l3 : Int} {r : ((Int × fM) ⊕ fM)} {Q : fO → fH → Prop} (h : s_J7_fill_31_c42_b5 M l1 l2 l3 = some r) (hC : ∀ (l2' : Int) (M' : fM), r = .inl (l2', M') → Wp (d + 0, 315, 5, 0, 0, [some (fA 31), some (fI l1), some (fI l2'), some (fI l3)], []) (42, J, M') Q) (hE : ∀ (e : fM) (o0' o1' o2' o3' : Option fV), r = .inr e → Wp (d + 0, 315, 20, 0, 0, [o0', o1', o2', o3'], []) (42, J, e) Q) : Wp (d + 0, 315, 5, 0, 0, [some (fA 31), some (fI l1), some (fI l2), some (fI l3)], []) (42, J, M) Q := by
  unfold s_J7_fill_31_c42_b5 at h
  refine Wp.run 2 (f' := (d + 0, 315, 7, 0, 0, [some (fA 31), some (fI l1), some (fI l2), some (fI l3)], [fI l3, fI l2])) (h' := (42, J, M)) rfl trivial ?_
  refine Wp.br rfl (fun (c : l3 ≤ l2) => ?_) (fun (c : ¬ (l3 ≤ l2)) => ?_)
  · replace h := fps c h
    exact hE _ _ _ _ _ (Option.some.inj h).symm
  · replace h := fng c h
    obtain ⟨⟨g0, g1⟩, h⟩ := fgd h
    refine Wp.run 6 (P := [0 ≤ l2 ∧ l2 < 52]) (f' := (d + 0, 315, 5, 0, 0, [some (fA 31), some (fI l1), some (fI (fw (l2 + 1))), some (fI l3)], [])) (h' := (42, J, (fup M 31 (l2).toNat l1))) rfl ?_ ?_
    · exact g0
    rw [fw_id g1]
    exact hC _ _ (Option.some.inj h).symm
noncomputable def s_J7_fill_31_c42_l5 (l1 l3 : Int) (s : (Int × fM)) : Option fM := fLp (fun s => s_J7_fill_31_c42_b5 s.2 l1 s.1 l3) s
theorem s_J7_fill_31_c42_l5_ok {d : Nat} {J : Nat → Nat → Nat} {M : fM} {l1 l2 l3 : Int} {r : fM} {Q : fO → fH → Prop} (h : s_J7_fill_31_c42_l5 l1 l3 (l2, M) = some r) (hE : ∀ (e : fM) (o0' o1' o2' o3' : Option fV), r = e → Wp (d + 0, 315, 20, 0, 0, [o0', o1', o2', o3'], []) (42, J, e) Q) : Wp (d + 0, 315, 5, 0, 0, [some (fA 31), some (fI l1), some (fI l2), some (fI l3)], []) (42, J, M) Q := by
  refine fLp_wp (W := fun s => Wp (d + 0, 315, 5, 0, 0, [some (fA 31), some (fI l1), some (fI s.1), some (fI l3)], []) (42, J, s.2) Q) (e := r) ?_ h
  intro s r1 h hC hX
  refine s_J7_fill_31_c42_b5_ok (d := d) h (fun a0 a1 e1 => ?_) (fun e u0 u1 u2 u3 e1 => hE e u0 u1 u2 u3 (hX _ e1).symm)
  exact hC _ e1
noncomputable def s_J7_fill_31_c42 (M : fM) (l1 : Int) : Option (Unit × fM) :=
  (s_J7_fill_31_c42_l5 l1 52 (0, M)).bind fun e5 =>
    some ((), e5)
theorem s_J7_fill_31_c42_ok {d : Nat} {J : Nat → Nat → Nat} {M : fM} {l1 : Int} {r : (Unit × fM)} {Q : fO → fH → Prop} (h : s_J7_fill_31_c42 M l1 = some r) (H : Q (oV r.1) (42, J, r.2)) : Wp (d + 0, 315, 0, 0, 0, [some (fA 31), some (fI l1), none, none], []) (42, J, M) Q := by
  unfold s_J7_fill_31_c42 at h
  refine Wp.run 5 (f' := (d + 0, 315, 5, 0, 0, [some (fA 31), some (fI l1), some (fI 0), some (fI 52)], [])) (h' := (42, J, M)) rfl trivial ?_
  obtain ⟨e5, hy, h⟩ := fbd h
  refine s_J7_fill_31_c42_l5_ok hy (fun x u0 u1 u2 u3 ex => ?_)
  cases ex
  show Wp (d + 0, 315, 20, 0, 0, [u0, u1, u2, u3], []) (42, J, e5) Q
  obtain rfl := Option.some.inj h
  exact Wp.done rfl (by decide) H
noncomputable def s_J7_fill_38_c42_b5 (M : fM) (l1 l2 l3 : Int) : Option ((Int × fM) ⊕ fM) :=
  if l3 ≤ l2 then
    some (.inr M)
  else
    if (0 ≤ l2 ∧ l2 < 36) ∧ fin (l2 + 1) then
      some (.inl ((l2 + 1), (fup M 38 (l2).toNat l1)))
    else none
theorem s_J7_fill_38_c42_b5_ok {d : Nat} {J : Nat → Nat → Nat} {M : fM} {l1 l2 l3 : Int} {r : ((Int × fM) ⊕ fM)} {Q : fO → fH → Prop} (h : s_J7_fill_38_c42_b5 M l1 l2 l3 = some r) (hC : ∀ (l2' : Int) (M' : fM), r = .inl (l2', M') → Wp (d + 0, 315, 5, 0, 0, [some (fA 38), some (fI l1), some (fI l2'), some (fI l3)], []) (42, J, M') Q) (hE : ∀ (e : fM) (o0' o1' o2' o3' : Option fV), r = .inr e → Wp (d + 0, 315, 20, 0, 0, [o0', o1', o2', o3'], []) (42, J, e) Q) : Wp (d + 0, 315, 5, 0, 0, [some (fA 38), some (fI l1), some (fI l2), some (fI l3)], []) (42, J, M) Q := by
  unfold s_J7_fill_38_c42_b5 at h
  refine Wp.run 2 (f' := (d + 0, 315, 7, 0, 0, [some (fA 38), some (fI l1), some (fI l2), some (fI l3)], [fI l3, fI l2])) (h' := (42, J, M)) rfl trivial ?_
  refine Wp.br rfl (fun (c : l3 ≤ l2) => ?_) (fun (c : ¬ (l3 ≤ l2)) => ?_)
  · replace h := fps c h
    exact hE _ _ _ _ _ (Option.some.inj h).symm
  · replace h := fng c h
    obtain ⟨⟨g0, g1⟩, h⟩ := fgd h
    refine Wp.run 6 (P := [0 ≤ l2 ∧ l2 < 36]) (f' := (d + 0, 315, 5, 0, 0, [some (fA 38), some (fI l1), some (fI (fw (l2 + 1))), some (fI l3)], [])) (h' := (42, J, (fup M 38 (l2).toNat l1))) rfl ?_ ?_
    · exact g0
    rw [fw_id g1]
    exact hC _ _ (Option.some.inj h).symm
noncomputable def s_J7_fill_38_c42_l5 (l1 l3 : Int) (s : (Int × fM)) : Option fM := fLp (fun s => s_J7_fill_38_c42_b5 s.2 l1 s.1 l3) s
theorem s_J7_fill_38_c42_l5_ok {d : Nat} {J : Nat → Nat → Nat} {M : fM} {l1 l2 l3 : Int} {r : fM} {Q : fO → fH → Prop} (h : s_J7_fill_38_c42_l5 l1 l3 (l2, M) = some r) (hE : ∀ (e : fM) (o0' o1' o2' o3' : Option fV), r = e → Wp (d + 0, 315, 20, 0, 0, [o0', o1', o2', o3'], []) (42, J, e) Q) : Wp (d + 0, 315, 5, 0, 0, [some (fA 38), some (fI l1), some (fI l2), some (fI l3)], []) (42, J, M) Q := by
  refine fLp_wp (W := fun s => Wp (d + 0, 315, 5, 0, 0, [some (fA 38), some (fI l1), some (fI s.1), some (fI l3)], []) (42, J, s.2) Q) (e := r) ?_ h
  intro s r1 h hC hX
  refine s_J7_fill_38_c42_b5_ok (d := d) h (fun a0 a1 e1 => ?_) (fun e u0 u1 u2 u3 e1 => hE e u0 u1 u2 u3 (hX _ e1).symm)
  exact hC _ e1
noncomputable def s_J7_fill_38_c42 (M : fM) (l1 : Int) : Option (Unit × fM) :=
  (s_J7_fill_38_c42_l5 l1 36 (0, M)).bind fun e5 =>
    some ((), e5)
theorem s_J7_fill_38_c42_ok {d : Nat} {J : Nat → Nat → Nat} {M : fM} {l1 : Int} {r : (Unit × fM)} {Q : fO → fH → Prop} (h : s_J7_fill_38_c42 M l1 = some r) (H : Q (oV r.1) (42, J, r.2)) : Wp (d + 0, 315, 0, 0, 0, [some (fA 38), some (fI l1), none, none], []) (42, J, M) Q := by
  unfold s_J7_fill_38_c42 at h
  refine Wp.run 5 (f' := (d + 0, 315, 5, 0, 0, [some (fA 38), some (fI l1), some (fI 0), some (fI 36)], [])) (h' := (42, J, M)) rfl trivial ?_
  obtain ⟨e5, hy, h⟩ := fbd h
  refine s_J7_fill_38_c42_l5_ok hy (fun x u0 u1 u2 u3 ex => ?_)
  cases ex
  show Wp (d + 0, 315, 20, 0, 0, [u0, u1, u2, u3], []) (42, J, e5) Q
  obtain rfl := Option.some.inj h
  exact Wp.done rfl (by decide) H
noncomputable def s_X2_clear_28_c42_j57 (M : fM) : Option (Unit × fM) :=
  some ((), (fup (fup (fup M 28 15 0) 28 16 0) 28 17 0))
theorem s_X2_clear_28_c42_j57_ok {d : Nat} {J : Nat → Nat → Nat} {M : fM} {r : (Unit × fM)} {Q : fO → fH → Prop} (h : s_X2_clear_28_c42_j57 M = some r) (H : Q (oV r.1) (42, (fupN (fclN (fupN (fclN (fupN (fclN (fupN (fclN (fupN (fclN (fupN (fclN (fupN (fclN (fupN (fclN (fupN (fclN (fupN (fclN (fupN (fclN (fupN (fclN (fupN (fclN J 29) 28 0 30) 30) 28 1 31) 31) 28 2 32) 32) 28 3 33) 33) 28 4 34) 34) 28 5 35) 35) 28 6 36) 36) 28 7 37) 37) 28 8 38) 38) 28 9 39) 39) 28 10 40) 40) 28 11 41) 41) 28 12 42), r.2)) : Wp (d + 1, 25, 57, 0, 0, [some (fA 28)], []) (42, (fupN (fclN (fupN (fclN (fupN (fclN (fupN (fclN (fupN (fclN (fupN (fclN (fupN (fclN (fupN (fclN (fupN (fclN (fupN (fclN (fupN (fclN (fupN (fclN (fupN (fclN J 29) 28 0 30) 30) 28 1 31) 31) 28 2 32) 32) 28 3 33) 33) 28 4 34) 34) 28 5 35) 35) 28 6 36) 36) 28 7 37) 37) 28 8 38) 38) 28 9 39) 39) 28 10 40) 40) 28 11 41) 41) 28 12 42), M) Q := by
  unfold s_X2_clear_28_c42_j57 at h
  refine Wp.run 9 (f' := (d + 1, 25, 72, 0, 0, [_], [])) (h' := (42, (fupN (fclN (fupN (fclN (fupN (fclN (fupN (fclN (fupN (fclN (fupN (fclN (fupN (fclN (fupN (fclN (fupN (fclN (fupN (fclN (fupN (fclN (fupN (fclN (fupN (fclN J 29) 28 0 30) 30) 28 1 31) 31) 28 2 32) 32) 28 3 33) 33) 28 4 34) 34) 28 5 35) 35) 28 6 36) 36) 28 7 37) 37) 28 8 38) 38) 28 9 39) 39) 28 10 40) 40) 28 11 41) 41) 28 12 42), (fup (fup (fup M 28 15 0) 28 16 0) 28 17 0))) rfl trivial ?_
  obtain rfl := Option.some.inj h
  exact Wp.done rfl (by decide) H
noncomputable def s_X2_clear_28_c42 (M : fM) : Option (Unit × fM) :=
  (s_J7_fill_29_c42 M 0).bind fun y5 =>
    (s_J7_fill_30_c42 y5.2 20).bind fun y14 =>
      (s_J7_fill_31_c42 y14.2 0).bind fun y22 =>
        (s_J7_fill_38_c42 y22.2 0).bind fun y30 =>
          s_X2_clear_28_c42_j57 (fup (fup (fcpy y30.2 1001 0 32 0 6) 28 13 0) 28 14 0)
theorem s_X2_clear_28_c42_ok {d : Nat} {J : Nat → Nat → Nat} {M : fM} {r : (Unit × fM)} {Q : fO → fH → Prop} (h : s_X2_clear_28_c42 M = some r) (H : Q (oV r.1) (42, (fupN (fclN (fupN (fclN (fupN (fclN (fupN (fclN (fupN (fclN (fupN (fclN (fupN (fclN (fupN (fclN (fupN (fclN (fupN (fclN (fupN (fclN (fupN (fclN (fupN (fclN J 29) 28 0 30) 30) 28 1 31) 31) 28 2 32) 32) 28 3 33) 33) 28 4 34) 34) 28 5 35) 35) 28 6 36) 36) 28 7 37) 37) 28 8 38) 38) 28 9 39) 39) 28 10 40) 40) 28 11 41) 41) 28 12 42), r.2)) : Wp (d + 1, 25, 0, 0, 0, [some (fA 28)], []) (42, (fupN (fclN (fupN (fclN (fupN (fclN (fupN (fclN (fupN (fclN (fupN (fclN (fupN (fclN (fupN (fclN (fupN (fclN (fupN (fclN (fupN (fclN (fupN (fclN (fupN (fclN J 29) 28 0 30) 30) 28 1 31) 31) 28 2 32) 32) 28 3 33) 33) 28 4 34) 34) 28 5 35) 35) 28 6 36) 36) 28 7 37) 37) 28 8 38) 38) 28 9 39) 39) 28 10 40) 40) 28 11 41) 41) 28 12 42), M) Q := by
  unfold s_X2_clear_28_c42 at h
  refine Wp.run 3 (f' := (d + 1, 25, 5, 0, 0, [some (fA 28)], [fI 0, fA 29])) (h' := (42, (fupN (fclN (fupN (fclN (fupN (fclN (fupN (fclN (fupN (fclN (fupN (fclN (fupN (fclN (fupN (fclN (fupN (fclN (fupN (fclN (fupN (fclN (fupN (fclN (fupN (fclN J 29) 28 0 30) 30) 28 1 31) 31) 28 2 32) 32) 28 3 33) 33) 28 4 34) 34) 28 5 35) 35) 28 6 36) 36) 28 7 37) 37) 28 8 38) 38) 28 9 39) 39) 28 10 40) 40) 28 11 41) 41) 28 12 42), M)) rfl trivial ?_
  obtain ⟨y5, hy, h⟩ := fbd h
  refine Wp.call rfl (by decide) (s_J7_fill_29_c42_ok (d := d + 0) hy ?_)
  show Wp (d + 1, 25, 8, 0, 0, [some (fA 28)], []) (42, (fupN (fclN (fupN (fclN (fupN (fclN (fupN (fclN (fupN (fclN (fupN (fclN (fupN (fclN (fupN (fclN (fupN (fclN (fupN (fclN (fupN (fclN (fupN (fclN (fupN (fclN J 29) 28 0 30) 30) 28 1 31) 31) 28 2 32) 32) 28 3 33) 33) 28 4 34) 34) 28 5 35) 35) 28 6 36) 36) 28 7 37) 37) 28 8 38) 38) 28 9 39) 39) 28 10 40) 40) 28 11 41) 41) 28 12 42), y5.2) Q
  refine Wp.run 3 (f' := (d + 1, 25, 14, 0, 0, [some (fA 28)], [fI 20, fA 30])) (h' := (42, (fupN (fclN (fupN (fclN (fupN (fclN (fupN (fclN (fupN (fclN (fupN (fclN (fupN (fclN (fupN (fclN (fupN (fclN (fupN (fclN (fupN (fclN (fupN (fclN (fupN (fclN J 29) 28 0 30) 30) 28 1 31) 31) 28 2 32) 32) 28 3 33) 33) 28 4 34) 34) 28 5 35) 35) 28 6 36) 36) 28 7 37) 37) 28 8 38) 38) 28 9 39) 39) 28 10 40) 40) 28 11 41) 41) 28 12 42), y5.2)) rfl trivial ?_
  obtain ⟨y14, hy, h⟩ := fbd h
  refine Wp.call rfl (by decide) (s_J7_fill_30_c42_ok (d := d + 0) hy ?_)
  show Wp (d + 1, 25, 17, 0, 0, [some (fA 28)], []) (42, (fupN (fclN (fupN (fclN (fupN (fclN (fupN (fclN (fupN (fclN (fupN (fclN (fupN (fclN (fupN (fclN (fupN (fclN (fupN (fclN (fupN (fclN (fupN (fclN (fupN (fclN J 29) 28 0 30) 30) 28 1 31) 31) 28 2 32) 32) 28 3 33) 33) 28 4 34) 34) 28 5 35) 35) 28 6 36) 36) 28 7 37) 37) 28 8 38) 38) 28 9 39) 39) 28 10 40) 40) 28 11 41) 41) 28 12 42), y14.2) Q
  refine Wp.run 3 (f' := (d + 1, 25, 22, 0, 0, [some (fA 28)], [fI 0, fA 31])) (h' := (42, (fupN (fclN (fupN (fclN (fupN (fclN (fupN (fclN (fupN (fclN (fupN (fclN (fupN (fclN (fupN (fclN (fupN (fclN (fupN (fclN (fupN (fclN (fupN (fclN (fupN (fclN J 29) 28 0 30) 30) 28 1 31) 31) 28 2 32) 32) 28 3 33) 33) 28 4 34) 34) 28 5 35) 35) 28 6 36) 36) 28 7 37) 37) 28 8 38) 38) 28 9 39) 39) 28 10 40) 40) 28 11 41) 41) 28 12 42), y14.2)) rfl trivial ?_
  obtain ⟨y22, hy, h⟩ := fbd h
  refine Wp.call rfl (by decide) (s_J7_fill_31_c42_ok (d := d + 0) hy ?_)
  show Wp (d + 1, 25, 25, 0, 0, [some (fA 28)], []) (42, (fupN (fclN (fupN (fclN (fupN (fclN (fupN (fclN (fupN (fclN (fupN (fclN (fupN (fclN (fupN (fclN (fupN (fclN (fupN (fclN (fupN (fclN (fupN (fclN (fupN (fclN J 29) 28 0 30) 30) 28 1 31) 31) 28 2 32) 32) 28 3 33) 33) 28 4 34) 34) 28 5 35) 35) 28 6 36) 36) 28 7 37) 37) 28 8 38) 38) 28 9 39) 39) 28 10 40) 40) 28 11 41) 41) 28 12 42), y22.2) Q
  refine Wp.run 3 (f' := (d + 1, 25, 30, 0, 0, [some (fA 28)], [fI 0, fA 38])) (h' := (42, (fupN (fclN (fupN (fclN (fupN (fclN (fupN (fclN (fupN (fclN (fupN (fclN (fupN (fclN (fupN (fclN (fupN (fclN (fupN (fclN (fupN (fclN (fupN (fclN (fupN (fclN J 29) 28 0 30) 30) 28 1 31) 31) 28 2 32) 32) 28 3 33) 33) 28 4 34) 34) 28 5 35) 35) 28 6 36) 36) 28 7 37) 37) 28 8 38) 38) 28 9 39) 39) 28 10 40) 40) 28 11 41) 41) 28 12 42), y22.2)) rfl trivial ?_
  obtain ⟨y30, hy, h⟩ := fbd h
  refine Wp.call rfl (by decide) (s_J7_fill_38_c42_ok (d := d + 0) hy ?_)
  show Wp (d + 1, 25, 33, 0, 0, [some (fA 28)], []) (42, (fupN (fclN (fupN (fclN (fupN (fclN (fupN (fclN (fupN (fclN (fupN (fclN (fupN (fclN (fupN (fclN (fupN (fclN (fupN (fclN (fupN (fclN (fupN (fclN (fupN (fclN J 29) 28 0 30) 30) 28 1 31) 31) 28 2 32) 32) 28 3 33) 33) 28 4 34) 34) 28 5 35) 35) 28 6 36) 36) 28 7 37) 37) 28 8 38) 38) 28 9 39) 39) 28 10 40) 40) 28 11 41) 41) 28 12 42), y30.2) Q
  refine Wp.run 13 (P := [1 ≤ d + 1, (0 : Int) ≤ 0 ∧ (0 : Int) ≤ 0 ∧ (0 : Int) ≤ 6 ∧ (0 : Int) + 6 ≤ 6 ∧ (0 : Int) + 6 ≤ 6 ∧ 1001 ≠ 32]) (f' := (d + 1, 25, 57, 0, 0, [some (fA 28)], [])) (h' := (42, (fupN (fclN (fupN (fclN (fupN (fclN (fupN (fclN (fupN (fclN (fupN (fclN (fupN (fclN (fupN (fclN (fupN (fclN (fupN (fclN (fupN (fclN (fupN (fclN (fupN (fclN J 29) 28 0 30) 30) 28 1 31) 31) 28 2 32) 32) 28 3 33) 33) 28 4 34) 34) 28 5 35) 35) 28 6 36) 36) 28 7 37) 37) 28 8 38) 38) 28 9 39) 39) 28 10 40) 40) 28 11 41) 41) 28 12 42), (fup (fup (fcpy y30.2 1001 0 32 0 6) 28 13 0) 28 14 0))) rfl ?_ ?_
  · exact ⟨Nat.le_add_left_of_le (by decide), ⟨by decide, by decide, by decide, by decide, by decide, by decide⟩⟩
  exact s_X2_clear_28_c42_j57_ok h H
abbrev jn_s_X2_init_28_c29_j53 (J : Nat → Nat → Nat) : Nat → Nat → Nat := (fupN (fclN (fupN (fclN (fupN (fclN (fupN (fclN (fupN (fclN (fupN (fclN J 29) 28 0 30) 30) 28 1 31) 31) 28 2 32) 32) 28 3 33) 33) 28 4 34) 34) 28 5 35)
abbrev jn_s_X2_init_28_c29_j78 (J : Nat → Nat → Nat) : Nat → Nat → Nat := (fupN (fclN (fupN (fclN (fupN (fclN (jn_s_X2_init_28_c29_j53 J) 35) 28 6 36) 36) 28 7 37) 37) 28 8 38)
abbrev jn_s_X2_init_28_c29_j102 (J : Nat → Nat → Nat) : Nat → Nat → Nat := (fupN (fclN (fupN (fclN (fupN (fclN (jn_s_X2_init_28_c29_j78 J) 38) 28 9 39) 39) 28 10 40) 40) 28 11 41)
noncomputable def s_X2_init_28_c29_j102 (M : fM) : Option (Unit × fM) :=
  (s_X2_clear_28_c42 (fclr M 41)).bind fun y111 =>
    some ((), y111.2)
theorem s_X2_init_28_c29_j102_ok {d : Nat} {J : Nat → Nat → Nat} {M : fM} {r : (Unit × fM)} {Q : fO → fH → Prop} (h : s_X2_init_28_c29_j102 M = some r) (H : Q (oV r.1) (42, (fupN (fclN (jn_s_X2_init_28_c29_j102 J) 41) 28 12 42), r.2)) : Wp (d + 2, 24, 102, 12, 662, [some (fA 28)], []) (41, (jn_s_X2_init_28_c29_j102 J), M) Q := by
  unfold s_X2_init_28_c29_j102 at h
  refine Wp.run 5 (P := [(6 : Int) = 6 ∧ 12 + 1 ≤ 13 ∧ 662 + 6 ≤ 668]) (f' := (d + 2, 24, 111, 13, 668, [_], [fA 28])) (h' := (42, (fupN (fclN (jn_s_X2_init_28_c29_j102 J) 41) 28 12 42), (fclr M 41))) rfl ?_ ?_
  · exact (by decide : (6 : Int) = 6 ∧ 12 + 1 ≤ 13 ∧ 662 + 6 ≤ 668)
  obtain ⟨y111, hy, h⟩ := fbd h
  refine Wp.call rfl (by decide) (s_X2_clear_28_c42_ok (d := d + 0) hy ?_)
  show Wp (d + 2, 24, 114, 13, 668, [_], []) (42, (fupN (fclN (jn_s_X2_init_28_c29_j102 J) 41) 28 12 42), y111.2) Q
  obtain rfl := Option.some.inj h
  exact Wp.done rfl (by decide) H
noncomputable def s_X2_init_28_c29_j78 (M : fM) : Option (Unit × fM) :=
  s_X2_init_28_c29_j102 (fclr (fclr (fclr M 38) 39) 40)
theorem s_X2_init_28_c29_j78_ok {d : Nat} {J : Nat → Nat → Nat} {M : fM} {r : (Unit × fM)} {Q : fO → fH → Prop} (h : s_X2_init_28_c29_j78 M = some r) (H : Q (oV r.1) (42, (fupN (fclN (jn_s_X2_init_28_c29_j102 J) 41) 28 12 42), r.2)) : Wp (d + 2, 24, 78, 9, 604, [some (fA 28)], []) (38, (jn_s_X2_init_28_c29_j78 J), M) Q := by
  unfold s_X2_init_28_c29_j78 at h
  refine Wp.run 12 (P := [(36 : Int) = 36 ∧ 9 + 1 ≤ 13 ∧ 604 + 36 ≤ 668, (16 : Int) = 16 ∧ 10 + 1 ≤ 13 ∧ 640 + 16 ≤ 668, (6 : Int) = 6 ∧ 11 + 1 ≤ 13 ∧ 656 + 6 ≤ 668]) (f' := (d + 2, 24, 102, 12, 662, [some (fA 28)], [])) (h' := (41, (fupN (fclN (fupN (fclN (fupN (fclN (jn_s_X2_init_28_c29_j78 J) 38) 28 9 39) 39) 28 10 40) 40) 28 11 41), (fclr (fclr (fclr M 38) 39) 40))) rfl ?_ ?_
  · exact ⟨(by decide : (36 : Int) = 36 ∧ 9 + 1 ≤ 13 ∧ 604 + 36 ≤ 668), (by decide : (16 : Int) = 16 ∧ 10 + 1 ≤ 13 ∧ 640 + 16 ≤ 668), (by decide : (6 : Int) = 6 ∧ 11 + 1 ≤ 13 ∧ 656 + 6 ≤ 668)⟩
  exact s_X2_init_28_c29_j102_ok h H
noncomputable def s_X2_init_28_c29_j53 (M : fM) : Option (Unit × fM) :=
  s_X2_init_28_c29_j78 (fclr (fclr (fclr M 35) 36) 37)
theorem s_X2_init_28_c29_j53_ok {d : Nat} {J : Nat → Nat → Nat} {M : fM} {r : (Unit × fM)} {Q : fO → fH → Prop} (h : s_X2_init_28_c29_j53 M = some r) (H : Q (oV r.1) (42, (fupN (fclN (jn_s_X2_init_28_c29_j102 J) 41) 28 12 42), r.2)) : Wp (d + 2, 24, 53, 6, 330, [some (fA 28)], []) (35, (jn_s_X2_init_28_c29_j53 J), M) Q := by
  unfold s_X2_init_28_c29_j53 at h
  refine Wp.run 12 (P := [(192 : Int) = 192 ∧ 6 + 1 ≤ 13 ∧ 330 + 192 ≤ 668, (64 : Int) = 64 ∧ 7 + 1 ≤ 13 ∧ 522 + 64 ≤ 668, (18 : Int) = 18 ∧ 8 + 1 ≤ 13 ∧ 586 + 18 ≤ 668]) (f' := (d + 2, 24, 78, 9, 604, [some (fA 28)], [])) (h' := (38, (fupN (fclN (fupN (fclN (fupN (fclN (jn_s_X2_init_28_c29_j53 J) 35) 28 6 36) 36) 28 7 37) 37) 28 8 38), (fclr (fclr (fclr M 35) 36) 37))) rfl ?_ ?_
  · exact ⟨(by decide : (192 : Int) = 192 ∧ 6 + 1 ≤ 13 ∧ 330 + 192 ≤ 668), (by decide : (64 : Int) = 64 ∧ 7 + 1 ≤ 13 ∧ 522 + 64 ≤ 668), (by decide : (18 : Int) = 18 ∧ 8 + 1 ≤ 13 ∧ 586 + 18 ≤ 668)⟩
  exact s_X2_init_28_c29_j78_ok h H
noncomputable def s_X2_init_28_c29_j28 (M : fM) : Option (Unit × fM) :=
  s_X2_init_28_c29_j53 (fclr (fclr (fclr M 32) 33) 34)
theorem s_X2_init_28_c29_j28_ok {d : Nat} {J : Nat → Nat → Nat} {M : fM} {r : (Unit × fM)} {Q : fO → fH → Prop} (h : s_X2_init_28_c29_j28 M = some r) (H : Q (oV r.1) (42, (fupN (fclN (jn_s_X2_init_28_c29_j102 J) 41) 28 12 42), r.2)) : Wp (d + 2, 24, 28, 3, 116, [some (fA 28)], []) (32, (fupN (fclN (fupN (fclN (fupN (fclN J 29) 28 0 30) 30) 28 1 31) 31) 28 2 32), M) Q := by
  unfold s_X2_init_28_c29_j28 at h
  refine Wp.run 12 (P := [(6 : Int) = 6 ∧ 3 + 1 ≤ 13 ∧ 116 + 6 ≤ 668, (48 : Int) = 48 ∧ 4 + 1 ≤ 13 ∧ 122 + 48 ≤ 668, (160 : Int) = 160 ∧ 5 + 1 ≤ 13 ∧ 170 + 160 ≤ 668]) (f' := (d + 2, 24, 53, 6, 330, [some (fA 28)], [])) (h' := (35, (fupN (fclN (fupN (fclN (fupN (fclN (fupN (fclN (fupN (fclN (fupN (fclN J 29) 28 0 30) 30) 28 1 31) 31) 28 2 32) 32) 28 3 33) 33) 28 4 34) 34) 28 5 35), (fclr (fclr (fclr M 32) 33) 34))) rfl ?_ ?_
  · exact ⟨(by decide : (6 : Int) = 6 ∧ 3 + 1 ≤ 13 ∧ 116 + 6 ≤ 668), (by decide : (48 : Int) = 48 ∧ 4 + 1 ≤ 13 ∧ 122 + 48 ≤ 668), (by decide : (160 : Int) = 160 ∧ 5 + 1 ≤ 13 ∧ 170 + 160 ≤ 668)⟩
  exact s_X2_init_28_c29_j53_ok h H
noncomputable def s_X2_init_28_c29 (M : fM) : Option (Unit × fM) :=
  s_X2_init_28_c29_j28 (fclr (fclr (fclr M 29) 30) 31)
theorem s_X2_init_28_c29_ok {d : Nat} {J : Nat → Nat → Nat} {M : fM} {r : (Unit × fM)} {Q : fO → fH → Prop} (h : s_X2_init_28_c29 M = some r) (H : Q (oV r.1) (42, (fupN (fclN (jn_s_X2_init_28_c29_j102 J) 41) 28 12 42), r.2)) : Wp (d + 2, 24, 0, 0, 0, [some (fA 28)], []) (29, J, M) Q := by
  unfold s_X2_init_28_c29 at h
  refine Wp.run 14 (P := [1 ≤ d + 2, (12 : Int) = 12 ∧ 0 + 1 ≤ 13 ∧ 0 + 12 ≤ 668, (52 : Int) = 52 ∧ 1 + 1 ≤ 13 ∧ 12 + 52 ≤ 668, (52 : Int) = 52 ∧ 2 + 1 ≤ 13 ∧ 64 + 52 ≤ 668]) (f' := (d + 2, 24, 28, 3, 116, [some (fA 28)], [])) (h' := (32, (fupN (fclN (fupN (fclN (fupN (fclN J 29) 28 0 30) 30) 28 1 31) 31) 28 2 32), (fclr (fclr (fclr M 29) 30) 31))) rfl ?_ ?_
  · exact ⟨Nat.le_add_left_of_le (by decide), (by decide : (12 : Int) = 12 ∧ 0 + 1 ≤ 13 ∧ 0 + 12 ≤ 668), (by decide : (52 : Int) = 52 ∧ 1 + 1 ≤ 13 ∧ 12 + 52 ≤ 668), (by decide : (52 : Int) = 52 ∧ 2 + 1 ≤ 13 ∧ 64 + 52 ≤ 668)⟩
  exact s_X2_init_28_c29_j28_ok h H
abbrev jo_s_X2_init_28_c29 (J : Nat → Nat → Nat) : Nat → Nat → Nat := (fupN (fclN (jn_s_X2_init_28_c29_j102 J) 41) 28 12 42)
noncomputable def s_X3_init_1_c28 (M : fM) : Option (Unit × fM) :=
  (s_X2_init_28_c29 (fclr M 28)).bind fun y14 =>
    some ((), y14.2)
theorem s_X3_init_1_c28_ok {d : Nat} {J : Nat → Nat → Nat} {M : fM} {r : (Unit × fM)} {Q : fO → fH → Prop} (h : s_X3_init_1_c28 M = some r) (H : Q (oV r.1) (42, (fupN (jo_s_X2_init_28_c29 (fclN (fupN J 27 0 2) 28)) 27 1 29), r.2)) : Wp (d + 3, 46, 0, 0, 0, [some (fA 27), some (fA 1)], []) (28, J, M) Q := by
  unfold s_X3_init_1_c28 at h
  refine Wp.run 8 (P := [1 ≤ d + 3, 0 + 1 ≤ 14 ∧ 0 + 18 ≤ 686]) (f' := (d + 3, 46, 14, 1, 18, [_, _], [fA 28, fA 28, fA 27])) (h' := (29, (fclN (fupN J 27 0 2) 28), (fclr M 28))) rfl ?_ ?_
  · exact ⟨Nat.le_add_left_of_le (by decide), (by decide : 0 + 1 ≤ 14 ∧ 0 + 18 ≤ 686)⟩
  obtain ⟨y14, hy, h⟩ := fbd h
  refine Wp.call rfl (by decide) (s_X2_init_28_c29_ok (d := d + 0) hy ?_)
  show Wp (d + 3, 46, 17, 14, 686, [_, _], [fA 28, fA 27]) (42, (jo_s_X2_init_28_c29 (fclN (fupN J 27 0 2) 28)), y14.2) Q
  refine Wp.run 1 (f' := (d + 3, 46, 20, 14, 686, [_, _], [])) (h' := (42, (fupN (jo_s_X2_init_28_c29 (fclN (fupN J 27 0 2) 28)) 27 1 29), y14.2)) rfl trivial ?_
  obtain rfl := Option.some.inj h
  exact Wp.done rfl (by decide) H
abbrev jo_s_X3_init_1_c28 (J : Nat → Nat → Nat) : Nat → Nat → Nat := (fupN (jo_s_X2_init_28_c29 (fclN (fupN J 27 0 2) 28)) 27 1 29)
noncomputable def s_X5_init_1_4_18_c43 (M : fM) : Option (Unit × fM) :=
  some ((), M)
theorem s_X5_init_1_4_18_c43_ok {d : Nat} {J : Nat → Nat → Nat} {M : fM} {r : (Unit × fM)} {Q : fO → fH → Prop} (h : s_X5_init_1_4_18_c43 M = some r) (H : Q (oV r.1) (43, (fupN (fupN (fupN J 42 0 2) 42 1 5) 42 2 19), r.2)) : Wp (d + 1, 69, 0, 0, 0, [some (fA 42), some (fA 1), some (fA 4), some (fA 18)], []) (43, J, M) Q := by
  unfold s_X5_init_1_4_18_c43 at h
  refine Wp.run 11 (P := [1 ≤ d + 1]) (f' := (d + 1, 69, 19, 0, 0, [_, _, _, _], [])) (h' := (43, (fupN (fupN (fupN J 42 0 2) 42 1 5) 42 2 19), M)) rfl ?_ ?_
  · exact Nat.le_add_left_of_le (by decide)
  obtain rfl := Option.some.inj h
  exact Wp.done rfl (by decide) H
abbrev jo_s_X5_init_1_4_18_c43 (J : Nat → Nat → Nat) : Nat → Nat → Nat := (fupN (fupN (fupN J 42 0 2) 42 1 5) 42 2 19)
noncomputable def s_X8_init_4_18_c44_j30 (M : fM) : Option (Unit × fM) :=
  some ((), M)
theorem s_X8_init_4_18_c44_j30_ok {d : Nat} {J : Nat → Nat → Nat} {M : fM} {r : (Unit × fM)} {Q : fO → fH → Prop} (h : s_X8_init_4_18_c44_j30 M = some r) (H : Q (oV r.1) (47, (fupN (fupN (fupN (fclN (fupN (fclN (fupN (fclN J 44) 43 2 45) 45) 43 3 46) 46) 43 4 47) 43 0 5) 43 1 19), r.2)) : Wp (d + 1, 108, 30, 3, 740, [some (fA 43), some (fA 4), some (fA 18)], []) (47, (fupN (fclN (fupN (fclN (fupN (fclN J 44) 43 2 45) 45) 43 3 46) 46) 43 4 47), M) Q := by
  unfold s_X8_init_4_18_c44_j30 at h
  refine Wp.run 6 (f' := (d + 1, 108, 40, 3, 740, [_, _, _], [])) (h' := (47, (fupN (fupN (fupN (fclN (fupN (fclN (fupN (fclN J 44) 43 2 45) 45) 43 3 46) 46) 43 4 47) 43 0 5) 43 1 19), M)) rfl trivial ?_
  obtain rfl := Option.some.inj h
  exact Wp.done rfl (by decide) H
noncomputable def s_X8_init_4_18_c44 (M : fM) : Option (Unit × fM) :=
  s_X8_init_4_18_c44_j30 (fclr (fclr (fclr M 44) 45) 46)
theorem s_X8_init_4_18_c44_ok {d : Nat} {J : Nat → Nat → Nat} {M : fM} {r : (Unit × fM)} {Q : fO → fH → Prop} (h : s_X8_init_4_18_c44 M = some r) (H : Q (oV r.1) (47, (fupN (fupN (fupN (fclN (fupN (fclN (fupN (fclN J 44) 43 2 45) 45) 43 3 46) 46) 43 4 47) 43 0 5) 43 1 19), r.2)) : Wp (d + 1, 108, 0, 0, 0, [some (fA 43), some (fA 4), some (fA 18)], []) (44, J, M) Q := by
  unfold s_X8_init_4_18_c44 at h
  refine Wp.run 14 (P := [1 ≤ d + 1, (364 : Int) = 364 ∧ 0 + 1 ≤ 3 ∧ 0 + 364 ≤ 740, (364 : Int) = 364 ∧ 1 + 1 ≤ 3 ∧ 364 + 364 ≤ 740, (12 : Int) = 12 ∧ 2 + 1 ≤ 3 ∧ 728 + 12 ≤ 740]) (f' := (d + 1, 108, 30, 3, 740, [some (fA 43), some (fA 4), some (fA 18)], [])) (h' := (47, (fupN (fclN (fupN (fclN (fupN (fclN J 44) 43 2 45) 45) 43 3 46) 46) 43 4 47), (fclr (fclr (fclr M 44) 45) 46))) rfl ?_ ?_
  · exact ⟨Nat.le_add_left_of_le (by decide), (by decide : (364 : Int) = 364 ∧ 0 + 1 ≤ 3 ∧ 0 + 364 ≤ 740), (by decide : (364 : Int) = 364 ∧ 1 + 1 ≤ 3 ∧ 364 + 364 ≤ 740), (by decide : (12 : Int) = 12 ∧ 2 + 1 ≤ 3 ∧ 728 + 12 ≤ 740)⟩
  exact s_X8_init_4_18_c44_j30_ok h H
abbrev jo_s_X8_init_4_18_c44 (J : Nat → Nat → Nat) : Nat → Nat → Nat := (fupN (fupN (fupN (fclN (fupN (fclN (fupN (fclN J 44) 43 2 45) 45) 43 3 46) 46) 43 4 47) 43 0 5) 43 1 19)
abbrev jn_s_X1_init_4_18_c48_j55 (J : Nat → Nat → Nat) : Nat → Nat → Nat := (fupN (fupN (fupN (fclN (fupN (fclN (fupN (fclN (fupN (fclN (fupN (fclN J 48) 47 2 49) 49) 47 3 50) 50) 47 4 51) 51) 47 5 52) 52) 47 6 53) 47 0 5) 47 1 19)
noncomputable def s_X1_init_4_18_c48_j55 (M : fM) : Option (Unit × fM) :=
  some ((), M)
theorem s_X1_init_4_18_c48_j55_ok {d : Nat} {J : Nat → Nat → Nat} {M : fM} {o0 o1 o2 : Option fV} {r : (Unit × fM)} {Q : fO → fH → Prop} (h : s_X1_init_4_18_c48_j55 M = some r) (H : Q (oV r.1) (53, (jn_s_X1_init_4_18_c48_j55 J), r.2)) : Wp (d + 1, 9, 55, 5, 244, [o0, o1, o2], []) (53, (jn_s_X1_init_4_18_c48_j55 J), M) Q := by
  unfold s_X1_init_4_18_c48_j55 at h
  obtain rfl := Option.some.inj h
  exact Wp.done rfl (by decide) H
noncomputable def s_X1_init_4_18_c48_j28 (M : fM) : Option (Unit × fM) :=
  s_X1_init_4_18_c48_j55 (fclr (fclr M 51) 52)
theorem s_X1_init_4_18_c48_j28_ok {d : Nat} {J : Nat → Nat → Nat} {M : fM} {r : (Unit × fM)} {Q : fO → fH → Prop} (h : s_X1_init_4_18_c48_j28 M = some r) (H : Q (oV r.1) (53, (jn_s_X1_init_4_18_c48_j55 J), r.2)) : Wp (d + 1, 9, 28, 3, 34, [some (fA 47), some (fA 4), some (fA 18)], []) (51, (fupN (fclN (fupN (fclN (fupN (fclN J 48) 47 2 49) 49) 47 3 50) 50) 47 4 51), M) Q := by
  unfold s_X1_init_4_18_c48_j28 at h
  refine Wp.run 14 (P := [(10 : Int) = 10 ∧ 3 + 1 ≤ 5 ∧ 34 + 10 ≤ 244, (200 : Int) = 200 ∧ 4 + 1 ≤ 5 ∧ 44 + 200 ≤ 244]) (f' := (d + 1, 9, 55, 5, 244, [_, _, _], [])) (h' := (53, (fupN (fupN (fupN (fclN (fupN (fclN (fupN (fclN (fupN (fclN (fupN (fclN J 48) 47 2 49) 49) 47 3 50) 50) 47 4 51) 51) 47 5 52) 52) 47 6 53) 47 0 5) 47 1 19), (fclr (fclr M 51) 52))) rfl ?_ ?_
  · exact ⟨(by decide : (10 : Int) = 10 ∧ 3 + 1 ≤ 5 ∧ 34 + 10 ≤ 244), (by decide : (200 : Int) = 200 ∧ 4 + 1 ≤ 5 ∧ 44 + 200 ≤ 244)⟩
  exact s_X1_init_4_18_c48_j55_ok h H
noncomputable def s_X1_init_4_18_c48 (M : fM) : Option (Unit × fM) :=
  s_X1_init_4_18_c48_j28 (fclr (fclr (fclr M 48) 49) 50)
theorem s_X1_init_4_18_c48_ok {d : Nat} {J : Nat → Nat → Nat} {M : fM} {r : (Unit × fM)} {Q : fO → fH → Prop} (h : s_X1_init_4_18_c48 M = some r) (H : Q (oV r.1) (53, (jn_s_X1_init_4_18_c48_j55 J), r.2)) : Wp (d + 1, 9, 0, 0, 0, [some (fA 47), some (fA 4), some (fA 18)], []) (48, J, M) Q := by
  unfold s_X1_init_4_18_c48 at h
  refine Wp.run 14 (P := [1 ≤ d + 1, (12 : Int) = 12 ∧ 0 + 1 ≤ 5 ∧ 0 + 12 ≤ 244, (12 : Int) = 12 ∧ 1 + 1 ≤ 5 ∧ 12 + 12 ≤ 244, (10 : Int) = 10 ∧ 2 + 1 ≤ 5 ∧ 24 + 10 ≤ 244]) (f' := (d + 1, 9, 28, 3, 34, [some (fA 47), some (fA 4), some (fA 18)], [])) (h' := (51, (fupN (fclN (fupN (fclN (fupN (fclN J 48) 47 2 49) 49) 47 3 50) 50) 47 4 51), (fclr (fclr (fclr M 48) 49) 50))) rfl ?_ ?_
  · exact ⟨Nat.le_add_left_of_le (by decide), (by decide : (12 : Int) = 12 ∧ 0 + 1 ≤ 5 ∧ 0 + 12 ≤ 244), (by decide : (12 : Int) = 12 ∧ 1 + 1 ≤ 5 ∧ 12 + 12 ≤ 244), (by decide : (10 : Int) = 10 ∧ 2 + 1 ≤ 5 ∧ 24 + 10 ≤ 244)⟩
  exact s_X1_init_4_18_c48_j28_ok h H
abbrev jo_s_X1_init_4_18_c48 (J : Nat → Nat → Nat) : Nat → Nat → Nat := (jn_s_X1_init_4_18_c48_j55 J)
noncomputable def s_X0_init_4_18_43_c54 (M : fM) : Option (Unit × fM) :=
  some ((), M)
theorem s_X0_init_4_18_43_c54_ok {d : Nat} {J : Nat → Nat → Nat} {M : fM} {r : (Unit × fM)} {Q : fO → fH → Prop} (h : s_X0_init_4_18_43_c54 M = some r) (H : Q (oV r.1) (54, (fupN (fupN (fupN J 53 0 5) 53 1 19) 53 2 44), r.2)) : Wp (d + 1, 0, 0, 0, 0, [some (fA 53), some (fA 4), some (fA 18), some (fA 43)], []) (54, J, M) Q := by
  unfold s_X0_init_4_18_43_c54 at h
  refine Wp.run 11 (P := [1 ≤ d + 1]) (f' := (d + 1, 0, 19, 0, 0, [_, _, _, _], [])) (h' := (54, (fupN (fupN (fupN J 53 0 5) 53 1 19) 53 2 44), M)) rfl ?_ ?_
  · exact Nat.le_add_left_of_le (by decide)
  obtain rfl := Option.some.inj h
  exact Wp.done rfl (by decide) H
abbrev jo_s_X0_init_4_18_43_c54 (J : Nat → Nat → Nat) : Nat → Nat → Nat := (fupN (fupN (fupN J 53 0 5) 53 1 19) 53 2 44)
abbrev jn_s_X7_init_4_18_43_c55_j52 (J : Nat → Nat → Nat) : Nat → Nat → Nat := (fupN (fclN (fupN (fclN (fupN (fclN (fupN (fclN (fupN (fclN (fupN (fclN J 55) 54 3 56) 56) 54 4 57) 57) 54 5 58) 58) 54 6 59) 59) 54 7 60) 60) 54 8 61)
abbrev jn_s_X7_init_4_18_43_c55_j79 (J : Nat → Nat → Nat) : Nat → Nat → Nat := (fupN (fclN (fupN (fclN (fupN (fclN (jn_s_X7_init_4_18_43_c55_j52 J) 61) 54 9 62) 62) 54 10 63) 63) 54 11 64)
abbrev jn_s_X7_init_4_18_43_c55_j105 (J : Nat → Nat → Nat) : Nat → Nat → Nat := (fupN (fclN (fupN (fclN (fupN (fclN (jn_s_X7_init_4_18_43_c55_j79 J) 64) 54 12 65) 65) 54 13 66) 66) 54 14 67)
noncomputable def s_X7_init_4_18_43_c55_j125 (M : fM) : Option (Unit × fM) :=
  some ((), (fup M 54 16 (-1)))
theorem s_X7_init_4_18_43_c55_j125_ok {d : Nat} {J : Nat → Nat → Nat} {M : fM} {o1 o2 o3 : Option fV} {r : (Unit × fM)} {Q : fO → fH → Prop} (h : s_X7_init_4_18_43_c55_j125 M = some r) (H : Q (oV r.1) (67, (fupN (fupN (fupN (jn_s_X7_init_4_18_43_c55_j105 J) 54 0 5) 54 1 19) 54 2 44), r.2)) : Wp (d + 1, 86, 125, 12, 9281, [some (fA 54), o1, o2, o3], []) (67, (fupN (fupN (fupN (jn_s_X7_init_4_18_43_c55_j105 J) 54 0 5) 54 1 19) 54 2 44), M) Q := by
  unfold s_X7_init_4_18_43_c55_j125 at h
  refine Wp.run 3 (f' := (d + 1, 86, 130, 12, 9281, [_, _, _, _], [])) (h' := (67, (fupN (fupN (fupN (jn_s_X7_init_4_18_43_c55_j105 J) 54 0 5) 54 1 19) 54 2 44), (fup M 54 16 (-1)))) rfl trivial ?_
  obtain rfl := Option.some.inj h
  exact Wp.done rfl (by decide) H
noncomputable def s_X7_init_4_18_43_c55_j105 (M : fM) : Option (Unit × fM) :=
  s_X7_init_4_18_43_c55_j125 (fup M 54 15 0)
theorem s_X7_init_4_18_43_c55_j105_ok {d : Nat} {J : Nat → Nat → Nat} {M : fM} {r : (Unit × fM)} {Q : fO → fH → Prop} (h : s_X7_init_4_18_43_c55_j105 M = some r) (H : Q (oV r.1) (67, (fupN (fupN (fupN (jn_s_X7_init_4_18_43_c55_j105 J) 54 0 5) 54 1 19) 54 2 44), r.2)) : Wp (d + 1, 86, 105, 12, 9281, [some (fA 54), some (fA 4), some (fA 18), some (fA 43)], []) (67, (jn_s_X7_init_4_18_43_c55_j105 J), M) Q := by
  unfold s_X7_init_4_18_43_c55_j105 at h
  refine Wp.run 12 (f' := (d + 1, 86, 125, 12, 9281, [some (fA 54), _, _, _], [])) (h' := (67, (fupN (fupN (fupN (jn_s_X7_init_4_18_43_c55_j105 J) 54 0 5) 54 1 19) 54 2 44), (fup M 54 15 0))) rfl trivial ?_
  exact s_X7_init_4_18_43_c55_j125_ok h H
noncomputable def s_X7_init_4_18_43_c55_j79 (M : fM) : Option (Unit × fM) :=
  s_X7_init_4_18_43_c55_j105 (fclr (fclr (fclr M 64) 65) 66)
theorem s_X7_init_4_18_43_c55_j79_ok {d : Nat} {J : Nat → Nat → Nat} {M : fM} {r : (Unit × fM)} {Q : fO → fH → Prop} (h : s_X7_init_4_18_43_c55_j79 M = some r) (H : Q (oV r.1) (67, (fupN (fupN (fupN (jn_s_X7_init_4_18_43_c55_j105 J) 54 0 5) 54 1 19) 54 2 44), r.2)) : Wp (d + 1, 86, 79, 9, 5688, [some (fA 54), some (fA 4), some (fA 18), some (fA 43)], []) (64, (jn_s_X7_init_4_18_43_c55_j79 J), M) Q := by
  unfold s_X7_init_4_18_43_c55_j79 at h
  refine Wp.run 12 (P := [(512 : Int) = 512 ∧ 9 + 1 ≤ 12 ∧ 5688 + 512 ≤ 9281, (3072 : Int) = 3072 ∧ 10 + 1 ≤ 12 ∧ 6200 + 3072 ≤ 9281, (9 : Int) = 9 ∧ 11 + 1 ≤ 12 ∧ 9272 + 9 ≤ 9281]) (f' := (d + 1, 86, 105, 12, 9281, [some (fA 54), some (fA 4), some (fA 18), some (fA 43)], [])) (h' := (67, (fupN (fclN (fupN (fclN (fupN (fclN (jn_s_X7_init_4_18_43_c55_j79 J) 64) 54 12 65) 65) 54 13 66) 66) 54 14 67), (fclr (fclr (fclr M 64) 65) 66))) rfl ?_ ?_
  · exact ⟨(by decide : (512 : Int) = 512 ∧ 9 + 1 ≤ 12 ∧ 5688 + 512 ≤ 9281), (by decide : (3072 : Int) = 3072 ∧ 10 + 1 ≤ 12 ∧ 6200 + 3072 ≤ 9281), (by decide : (9 : Int) = 9 ∧ 11 + 1 ≤ 12 ∧ 9272 + 9 ≤ 9281)⟩
  exact s_X7_init_4_18_43_c55_j105_ok h H
noncomputable def s_X7_init_4_18_43_c55_j52 (M : fM) : Option (Unit × fM) :=
  s_X7_init_4_18_43_c55_j79 (fclr (fclr (fclr M 61) 62) 63)
theorem s_X7_init_4_18_43_c55_j52_ok {d : Nat} {J : Nat → Nat → Nat} {M : fM} {r : (Unit × fM)} {Q : fO → fH → Prop} (h : s_X7_init_4_18_43_c55_j52 M = some r) (H : Q (oV r.1) (67, (fupN (fupN (fupN (jn_s_X7_init_4_18_43_c55_j105 J) 54 0 5) 54 1 19) 54 2 44), r.2)) : Wp (d + 1, 86, 52, 6, 56, [some (fA 54), some (fA 4), some (fA 18), some (fA 43)], []) (61, (jn_s_X7_init_4_18_43_c55_j52 J), M) Q := by
  unfold s_X7_init_4_18_43_c55_j52 at h
  refine Wp.run 12 (P := [(512 : Int) = 512 ∧ 6 + 1 ≤ 12 ∧ 56 + 512 ≤ 9281, (4608 : Int) = 4608 ∧ 7 + 1 ≤ 12 ∧ 568 + 4608 ≤ 9281, (512 : Int) = 512 ∧ 8 + 1 ≤ 12 ∧ 5176 + 512 ≤ 9281]) (f' := (d + 1, 86, 79, 9, 5688, [some (fA 54), some (fA 4), some (fA 18), some (fA 43)], [])) (h' := (64, (fupN (fclN (fupN (fclN (fupN (fclN (jn_s_X7_init_4_18_43_c55_j52 J) 61) 54 9 62) 62) 54 10 63) 63) 54 11 64), (fclr (fclr (fclr M 61) 62) 63))) rfl ?_ ?_
  · exact ⟨(by decide : (512 : Int) = 512 ∧ 6 + 1 ≤ 12 ∧ 56 + 512 ≤ 9281), (by decide : (4608 : Int) = 4608 ∧ 7 + 1 ≤ 12 ∧ 568 + 4608 ≤ 9281), (by decide : (512 : Int) = 512 ∧ 8 + 1 ≤ 12 ∧ 5176 + 512 ≤ 9281)⟩
  exact s_X7_init_4_18_43_c55_j79_ok h H
noncomputable def s_X7_init_4_18_43_c55_j28 (M : fM) : Option (Unit × fM) :=
  s_X7_init_4_18_43_c55_j52 (fclr (fclr (fclr M 58) 59) 60)
theorem s_X7_init_4_18_43_c55_j28_ok {d : Nat} {J : Nat → Nat → Nat} {M : fM} {r : (Unit × fM)} {Q : fO → fH → Prop} (h : s_X7_init_4_18_43_c55_j28 M = some r) (H : Q (oV r.1) (67, (fupN (fupN (fupN (jn_s_X7_init_4_18_43_c55_j105 J) 54 0 5) 54 1 19) 54 2 44), r.2)) : Wp (d + 1, 86, 28, 3, 29, [some (fA 54), some (fA 4), some (fA 18), some (fA 43)], []) (58, (fupN (fclN (fupN (fclN (fupN (fclN J 55) 54 3 56) 56) 54 4 57) 57) 54 5 58), M) Q := by
  unfold s_X7_init_4_18_43_c55_j28 at h
  refine Wp.run 12 (P := [(9 : Int) = 9 ∧ 3 + 1 ≤ 12 ∧ 29 + 9 ≤ 9281, (9 : Int) = 9 ∧ 4 + 1 ≤ 12 ∧ 38 + 9 ≤ 9281, (9 : Int) = 9 ∧ 5 + 1 ≤ 12 ∧ 47 + 9 ≤ 9281]) (f' := (d + 1, 86, 52, 6, 56, [some (fA 54), some (fA 4), some (fA 18), some (fA 43)], [])) (h' := (61, (fupN (fclN (fupN (fclN (fupN (fclN (fupN (fclN (fupN (fclN (fupN (fclN J 55) 54 3 56) 56) 54 4 57) 57) 54 5 58) 58) 54 6 59) 59) 54 7 60) 60) 54 8 61), (fclr (fclr (fclr M 58) 59) 60))) rfl ?_ ?_
  · exact ⟨(by decide : (9 : Int) = 9 ∧ 3 + 1 ≤ 12 ∧ 29 + 9 ≤ 9281), (by decide : (9 : Int) = 9 ∧ 4 + 1 ≤ 12 ∧ 38 + 9 ≤ 9281), (by decide : (9 : Int) = 9 ∧ 5 + 1 ≤ 12 ∧ 47 + 9 ≤ 9281)⟩
  exact s_X7_init_4_18_43_c55_j52_ok h H
noncomputable def s_X7_init_4_18_43_c55 (M : fM) : Option (Unit × fM) :=
  s_X7_init_4_18_43_c55_j28 (fclr (fclr (fclr M 55) 56) 57)
theorem s_X7_init_4_18_43_c55_ok {d : Nat} {J : Nat → Nat → Nat} {M : fM} {r : (Unit × fM)} {Q : fO → fH → Prop} (h : s_X7_init_4_18_43_c55 M = some r) (H : Q (oV r.1) (67, (fupN (fupN (fupN (jn_s_X7_init_4_18_43_c55_j105 J) 54 0 5) 54 1 19) 54 2 44), r.2)) : Wp (d + 1, 86, 0, 0, 0, [some (fA 54), some (fA 4), some (fA 18), some (fA 43)], []) (55, J, M) Q := by
  unfold s_X7_init_4_18_43_c55 at h
  refine Wp.run 14 (P := [1 ≤ d + 1, (9 : Int) = 9 ∧ 0 + 1 ≤ 12 ∧ 0 + 9 ≤ 9281, (10 : Int) = 10 ∧ 1 + 1 ≤ 12 ∧ 9 + 10 ≤ 9281, (10 : Int) = 10 ∧ 2 + 1 ≤ 12 ∧ 19 + 10 ≤ 9281]) (f' := (d + 1, 86, 28, 3, 29, [some (fA 54), some (fA 4), some (fA 18), some (fA 43)], [])) (h' := (58, (fupN (fclN (fupN (fclN (fupN (fclN J 55) 54 3 56) 56) 54 4 57) 57) 54 5 58), (fclr (fclr (fclr M 55) 56) 57))) rfl ?_ ?_
  · exact ⟨Nat.le_add_left_of_le (by decide), (by decide : (9 : Int) = 9 ∧ 0 + 1 ≤ 12 ∧ 0 + 9 ≤ 9281), (by decide : (10 : Int) = 10 ∧ 1 + 1 ≤ 12 ∧ 9 + 10 ≤ 9281), (by decide : (10 : Int) = 10 ∧ 2 + 1 ≤ 12 ∧ 19 + 10 ≤ 9281)⟩
  exact s_X7_init_4_18_43_c55_j28_ok h H
abbrev jo_s_X7_init_4_18_43_c55 (J : Nat → Nat → Nat) : Nat → Nat → Nat := (fupN (fupN (fupN (jn_s_X7_init_4_18_43_c55_j105 J) 54 0 5) 54 1 19) 54 2 44)
noncomputable def s_X9_init_4_c68_j25 (M : fM) : Option (Unit × fM) :=
  some ((), M)
theorem s_X9_init_4_c68_j25_ok {d : Nat} {J : Nat → Nat → Nat} {M : fM} {o0 o1 : Option fV} {r : (Unit × fM)} {Q : fO → fH → Prop} (h : s_X9_init_4_c68_j25 M = some r) (H : Q (oV r.1) (70, (fupN (fupN (fclN (fupN (fclN J 68) 67 1 69) 69) 67 2 70) 67 0 5), r.2)) : Wp (d + 1, 124, 25, 2, 44, [o0, o1], []) (70, (fupN (fupN (fclN (fupN (fclN J 68) 67 1 69) 69) 67 2 70) 67 0 5), M) Q := by
  unfold s_X9_init_4_c68_j25 at h
  obtain rfl := Option.some.inj h
  exact Wp.done rfl (by decide) H
noncomputable def s_X9_init_4_c68 (M : fM) : Option (Unit × fM) :=
  s_X9_init_4_c68_j25 (fclr (fclr M 68) 69)
theorem s_X9_init_4_c68_ok {d : Nat} {J : Nat → Nat → Nat} {M : fM} {r : (Unit × fM)} {Q : fO → fH → Prop} (h : s_X9_init_4_c68 M = some r) (H : Q (oV r.1) (70, (fupN (fupN (fclN (fupN (fclN J 68) 67 1 69) 69) 67 2 70) 67 0 5), r.2)) : Wp (d + 1, 124, 0, 0, 0, [some (fA 67), some (fA 4)], []) (68, J, M) Q := by
  unfold s_X9_init_4_c68 at h
  refine Wp.run 13 (P := [1 ≤ d + 1, (8 : Int) = 8 ∧ 0 + 1 ≤ 2 ∧ 0 + 8 ≤ 44, (36 : Int) = 36 ∧ 1 + 1 ≤ 2 ∧ 8 + 36 ≤ 44]) (f' := (d + 1, 124, 25, 2, 44, [_, _], [])) (h' := (70, (fupN (fupN (fclN (fupN (fclN J 68) 67 1 69) 69) 67 2 70) 67 0 5), (fclr (fclr M 68) 69))) rfl ?_ ?_
  · exact ⟨Nat.le_add_left_of_le (by decide), (by decide : (8 : Int) = 8 ∧ 0 + 1 ≤ 2 ∧ 0 + 8 ≤ 44), (by decide : (36 : Int) = 36 ∧ 1 + 1 ≤ 2 ∧ 8 + 36 ≤ 44)⟩
  exact s_X9_init_4_c68_j25_ok h H
abbrev jo_s_X9_init_4_c68 (J : Nat → Nat → Nat) : Nat → Nat → Nat := (fupN (fupN (fclN (fupN (fclN J 68) 67 1 69) 69) 67 2 70) 67 0 5)
noncomputable def s_X4_init_4_c71_j26 (M : fM) : Option (Unit × fM) :=
  some ((), M)
theorem s_X4_init_4_c71_j26_ok {d : Nat} {J : Nat → Nat → Nat} {M : fM} {o0 o1 : Option fV} {r : (Unit × fM)} {Q : fO → fH → Prop} (h : s_X4_init_4_c71_j26 M = some r) (H : Q (oV r.1) (73, (fupN (fupN (fclN (fupN (fclN J 71) 70 1 72) 72) 70 2 73) 70 0 5), r.2)) : Wp (d + 1, 63, 26, 2, 454, [o0, o1], []) (73, (fupN (fupN (fclN (fupN (fclN J 71) 70 1 72) 72) 70 2 73) 70 0 5), M) Q := by
  unfold s_X4_init_4_c71_j26 at h
  obtain rfl := Option.some.inj h
  exact Wp.done rfl (by decide) H
noncomputable def s_X4_init_4_c71 (M : fM) : Option (Unit × fM) :=
  s_X4_init_4_c71_j26 (fclr (fclr M 71) 72)
theorem s_X4_init_4_c71_ok {d : Nat} {J : Nat → Nat → Nat} {M : fM} {r : (Unit × fM)} {Q : fO → fH → Prop} (h : s_X4_init_4_c71 M = some r) (H : Q (oV r.1) (73, (fupN (fupN (fclN (fupN (fclN J 71) 70 1 72) 72) 70 2 73) 70 0 5), r.2)) : Wp (d + 1, 63, 0, 0, 0, [some (fA 70), some (fA 4)], []) (71, J, M) Q := by
  unfold s_X4_init_4_c71 at h
  refine Wp.run 13 (P := [1 ≤ d + 1, (448 : Int) = 448 ∧ 0 + 1 ≤ 2 ∧ 0 + 448 ≤ 454, (6 : Int) = 6 ∧ 1 + 1 ≤ 2 ∧ 448 + 6 ≤ 454]) (f' := (d + 1, 63, 26, 2, 454, [_, _], [])) (h' := (73, (fupN (fupN (fclN (fupN (fclN J 71) 70 1 72) 72) 70 2 73) 70 0 5), (fclr (fclr M 71) 72))) rfl ?_ ?_
  · exact ⟨Nat.le_add_left_of_le (by decide), (by decide : (448 : Int) = 448 ∧ 0 + 1 ≤ 2 ∧ 0 + 448 ≤ 454), (by decide : (6 : Int) = 6 ∧ 1 + 1 ≤ 2 ∧ 448 + 6 ≤ 454)⟩
  exact s_X4_init_4_c71_j26_ok h H
abbrev jo_s_X4_init_4_c71 (J : Nat → Nat → Nat) : Nat → Nat → Nat := (fupN (fupN (fclN (fupN (fclN J 71) 70 1 72) 72) 70 2 73) 70 0 5)
noncomputable def s_J7_fill_77_c90_b5 (M : fM) (l1 l2 l3 : Int) : Option ((Int × fM) ⊕ fM) :=
  if l3 ≤ l2 then
    some (.inr M)
  else
    if (0 ≤ l2 ∧ l2 < 12) ∧ fin (l2 + 1) then
      some (.inl ((l2 + 1), (fup M 77 (l2).toNat l1)))
    else none
theorem s_J7_fill_77_c90_b5_ok {d : Nat} {J : Nat → Nat → Nat} {M : fM} {l1 l2 l3 : Int} {r : ((Int × fM) ⊕ fM)} {Q : fO → fH → Prop} (h : s_J7_fill_77_c90_b5 M l1 l2 l3 = some r) (hC : ∀ (l2' : Int) (M' : fM), r = .inl (l2', M') → Wp (d + 0, 315, 5, 0, 0, [some (fA 77), some (fI l1), some (fI l2'), some (fI l3)], []) (90, J, M') Q) (hE : ∀ (e : fM) (o0' o1' o2' o3' : Option fV), r = .inr e → Wp (d + 0, 315, 20, 0, 0, [o0', o1', o2', o3'], []) (90, J, e) Q) : Wp (d + 0, 315, 5, 0, 0, [some (fA 77), some (fI l1), some (fI l2), some (fI l3)], []) (90, J, M) Q := by
  unfold s_J7_fill_77_c90_b5 at h
  refine Wp.run 2 (f' := (d + 0, 315, 7, 0, 0, [some (fA 77), some (fI l1), some (fI l2), some (fI l3)], [fI l3, fI l2])) (h' := (90, J, M)) rfl trivial ?_
  refine Wp.br rfl (fun (c : l3 ≤ l2) => ?_) (fun (c : ¬ (l3 ≤ l2)) => ?_)
  · replace h := fps c h
    exact hE _ _ _ _ _ (Option.some.inj h).symm
  · replace h := fng c h
    obtain ⟨⟨g0, g1⟩, h⟩ := fgd h
    refine Wp.run 6 (P := [0 ≤ l2 ∧ l2 < 12]) (f' := (d + 0, 315, 5, 0, 0, [some (fA 77), some (fI l1), some (fI (fw (l2 + 1))), some (fI l3)], [])) (h' := (90, J, (fup M 77 (l2).toNat l1))) rfl ?_ ?_
    · exact g0
    rw [fw_id g1]
    exact hC _ _ (Option.some.inj h).symm
noncomputable def s_J7_fill_77_c90_l5 (l1 l3 : Int) (s : (Int × fM)) : Option fM := fLp (fun s => s_J7_fill_77_c90_b5 s.2 l1 s.1 l3) s
theorem s_J7_fill_77_c90_l5_ok {d : Nat} {J : Nat → Nat → Nat} {M : fM} {l1 l2 l3 : Int} {r : fM} {Q : fO → fH → Prop} (h : s_J7_fill_77_c90_l5 l1 l3 (l2, M) = some r) (hE : ∀ (e : fM) (o0' o1' o2' o3' : Option fV), r = e → Wp (d + 0, 315, 20, 0, 0, [o0', o1', o2', o3'], []) (90, J, e) Q) : Wp (d + 0, 315, 5, 0, 0, [some (fA 77), some (fI l1), some (fI l2), some (fI l3)], []) (90, J, M) Q := by
  refine fLp_wp (W := fun s => Wp (d + 0, 315, 5, 0, 0, [some (fA 77), some (fI l1), some (fI s.1), some (fI l3)], []) (90, J, s.2) Q) (e := r) ?_ h
  intro s r1 h hC hX
  refine s_J7_fill_77_c90_b5_ok (d := d) h (fun a0 a1 e1 => ?_) (fun e u0 u1 u2 u3 e1 => hE e u0 u1 u2 u3 (hX _ e1).symm)
  exact hC _ e1
noncomputable def s_J7_fill_77_c90 (M : fM) (l1 : Int) : Option (Unit × fM) :=
  (s_J7_fill_77_c90_l5 l1 12 (0, M)).bind fun e5 =>
    some ((), e5)
theorem s_J7_fill_77_c90_ok {d : Nat} {J : Nat → Nat → Nat} {M : fM} {l1 : Int} {r : (Unit × fM)} {Q : fO → fH → Prop} (h : s_J7_fill_77_c90 M l1 = some r) (H : Q (oV r.1) (90, J, r.2)) : Wp (d + 0, 315, 0, 0, 0, [some (fA 77), some (fI l1), none, none], []) (90, J, M) Q := by
  unfold s_J7_fill_77_c90 at h
  refine Wp.run 5 (f' := (d + 0, 315, 5, 0, 0, [some (fA 77), some (fI l1), some (fI 0), some (fI 12)], [])) (h' := (90, J, M)) rfl trivial ?_
  obtain ⟨e5, hy, h⟩ := fbd h
  refine s_J7_fill_77_c90_l5_ok hy (fun x u0 u1 u2 u3 ex => ?_)
  cases ex
  show Wp (d + 0, 315, 20, 0, 0, [u0, u1, u2, u3], []) (90, J, e5) Q
  obtain rfl := Option.some.inj h
  exact Wp.done rfl (by decide) H
noncomputable def s_J7_fill_78_c90_b5 (M : fM) (l1 l2 l3 : Int) : Option ((Int × fM) ⊕ fM) :=
  if l3 ≤ l2 then
    some (.inr M)
  else
    if (0 ≤ l2 ∧ l2 < 52) ∧ fin (l2 + 1) then
      some (.inl ((l2 + 1), (fup M 78 (l2).toNat l1)))
    else none
theorem s_J7_fill_78_c90_b5_ok {d : Nat} {J : Nat → Nat → Nat} {M : fM} {l1 l2 l3 : Int} {r : ((Int × fM) ⊕ fM)} {Q : fO → fH → Prop} (h : s_J7_fill_78_c90_b5 M l1 l2 l3 = some r) (hC : ∀ (l2' : Int) (M' : fM), r = .inl (l2', M') → Wp (d + 0, 315, 5, 0, 0, [some (fA 78), some (fI l1), some (fI l2'), some (fI l3)], []) (90, J, M') Q) (hE : ∀ (e : fM) (o0' o1' o2' o3' : Option fV), r = .inr e → Wp (d + 0, 315, 20, 0, 0, [o0', o1', o2', o3'], []) (90, J, e) Q) : Wp (d + 0, 315, 5, 0, 0, [some (fA 78), some (fI l1), some (fI l2), some (fI l3)], []) (90, J, M) Q := by
  unfold s_J7_fill_78_c90_b5 at h
  refine Wp.run 2 (f' := (d + 0, 315, 7, 0, 0, [some (fA 78), some (fI l1), some (fI l2), some (fI l3)], [fI l3, fI l2])) (h' := (90, J, M)) rfl trivial ?_
  refine Wp.br rfl (fun (c : l3 ≤ l2) => ?_) (fun (c : ¬ (l3 ≤ l2)) => ?_)
  · replace h := fps c h
    exact hE _ _ _ _ _ (Option.some.inj h).symm
  · replace h := fng c h
    obtain ⟨⟨g0, g1⟩, h⟩ := fgd h
    refine Wp.run 6 (P := [0 ≤ l2 ∧ l2 < 52]) (f' := (d + 0, 315, 5, 0, 0, [some (fA 78), some (fI l1), some (fI (fw (l2 + 1))), some (fI l3)], [])) (h' := (90, J, (fup M 78 (l2).toNat l1))) rfl ?_ ?_
    · exact g0
    rw [fw_id g1]
    exact hC _ _ (Option.some.inj h).symm
noncomputable def s_J7_fill_78_c90_l5 (l1 l3 : Int) (s : (Int × fM)) : Option fM := fLp (fun s => s_J7_fill_78_c90_b5 s.2 l1 s.1 l3) s
theorem s_J7_fill_78_c90_l5_ok {d : Nat} {J : Nat → Nat → Nat} {M : fM} {l1 l2 l3 : Int} {r : fM} {Q : fO → fH → Prop} (h : s_J7_fill_78_c90_l5 l1 l3 (l2, M) = some r) (hE : ∀ (e : fM) (o0' o1' o2' o3' : Option fV), r = e → Wp (d + 0, 315, 20, 0, 0, [o0', o1', o2', o3'], []) (90, J, e) Q) : Wp (d + 0, 315, 5, 0, 0, [some (fA 78), some (fI l1), some (fI l2), some (fI l3)], []) (90, J, M) Q := by
  refine fLp_wp (W := fun s => Wp (d + 0, 315, 5, 0, 0, [some (fA 78), some (fI l1), some (fI s.1), some (fI l3)], []) (90, J, s.2) Q) (e := r) ?_ h
  intro s r1 h hC hX
  refine s_J7_fill_78_c90_b5_ok (d := d) h (fun a0 a1 e1 => ?_) (fun e u0 u1 u2 u3 e1 => hE e u0 u1 u2 u3 (hX _ e1).symm)
  exact hC _ e1
noncomputable def s_J7_fill_78_c90 (M : fM) (l1 : Int) : Option (Unit × fM) :=
  (s_J7_fill_78_c90_l5 l1 52 (0, M)).bind fun e5 =>
    some ((), e5)
theorem s_J7_fill_78_c90_ok {d : Nat} {J : Nat → Nat → Nat} {M : fM} {l1 : Int} {r : (Unit × fM)} {Q : fO → fH → Prop} (h : s_J7_fill_78_c90 M l1 = some r) (H : Q (oV r.1) (90, J, r.2)) : Wp (d + 0, 315, 0, 0, 0, [some (fA 78), some (fI l1), none, none], []) (90, J, M) Q := by
  unfold s_J7_fill_78_c90 at h
  refine Wp.run 5 (f' := (d + 0, 315, 5, 0, 0, [some (fA 78), some (fI l1), some (fI 0), some (fI 52)], [])) (h' := (90, J, M)) rfl trivial ?_
  obtain ⟨e5, hy, h⟩ := fbd h
  refine s_J7_fill_78_c90_l5_ok hy (fun x u0 u1 u2 u3 ex => ?_)
  cases ex
  show Wp (d + 0, 315, 20, 0, 0, [u0, u1, u2, u3], []) (90, J, e5) Q
  obtain rfl := Option.some.inj h
  exact Wp.done rfl (by decide) H
noncomputable def s_J7_fill_79_c90_b5 (M : fM) (l1 l2 l3 : Int) : Option ((Int × fM) ⊕ fM) :=
  if l3 ≤ l2 then
    some (.inr M)
  else
    if (0 ≤ l2 ∧ l2 < 52) ∧ fin (l2 + 1) then
      some (.inl ((l2 + 1), (fup M 79 (l2).toNat l1)))
    else none
theorem s_J7_fill_79_c90_b5_ok {d : Nat} {J : Nat → Nat → Nat} {M : fM} {l1 l2 l3 : Int} {r : ((Int × fM) ⊕ fM)} {Q : fO → fH → Prop} (h : s_J7_fill_79_c90_b5 M l1 l2 l3 = some r) (hC : ∀ (l2' : Int) (M' : fM), r = .inl (l2', M') → Wp (d + 0, 315, 5, 0, 0, [some (fA 79), some (fI l1), some (fI l2'), some (fI l3)], []) (90, J, M') Q) (hE : ∀ (e : fM) (o0' o1' o2' o3' : Option fV), r = .inr e → Wp (d + 0, 315, 20, 0, 0, [o0', o1', o2', o3'], []) (90, J, e) Q) : Wp (d + 0, 315, 5, 0, 0, [some (fA 79), some (fI l1), some (fI l2), some (fI l3)], []) (90, J, M) Q := by
  unfold s_J7_fill_79_c90_b5 at h
  refine Wp.run 2 (f' := (d + 0, 315, 7, 0, 0, [some (fA 79), some (fI l1), some (fI l2), some (fI l3)], [fI l3, fI l2])) (h' := (90, J, M)) rfl trivial ?_
  refine Wp.br rfl (fun (c : l3 ≤ l2) => ?_) (fun (c : ¬ (l3 ≤ l2)) => ?_)
  · replace h := fps c h
    exact hE _ _ _ _ _ (Option.some.inj h).symm
  · replace h := fng c h
    obtain ⟨⟨g0, g1⟩, h⟩ := fgd h
    refine Wp.run 6 (P := [0 ≤ l2 ∧ l2 < 52]) (f' := (d + 0, 315, 5, 0, 0, [some (fA 79), some (fI l1), some (fI (fw (l2 + 1))), some (fI l3)], [])) (h' := (90, J, (fup M 79 (l2).toNat l1))) rfl ?_ ?_
    · exact g0
    rw [fw_id g1]
    exact hC _ _ (Option.some.inj h).symm
noncomputable def s_J7_fill_79_c90_l5 (l1 l3 : Int) (s : (Int × fM)) : Option fM := fLp (fun s => s_J7_fill_79_c90_b5 s.2 l1 s.1 l3) s
theorem s_J7_fill_79_c90_l5_ok {d : Nat} {J : Nat → Nat → Nat} {M : fM} {l1 l2 l3 : Int} {r : fM} {Q : fO → fH → Prop} (h : s_J7_fill_79_c90_l5 l1 l3 (l2, M) = some r) (hE : ∀ (e : fM) (o0' o1' o2' o3' : Option fV), r = e → Wp (d + 0, 315, 20, 0, 0, [o0', o1', o2', o3'], []) (90, J, e) Q) : Wp (d + 0, 315, 5, 0, 0, [some (fA 79), some (fI l1), some (fI l2), some (fI l3)], []) (90, J, M) Q := by
  refine fLp_wp (W := fun s => Wp (d + 0, 315, 5, 0, 0, [some (fA 79), some (fI l1), some (fI s.1), some (fI l3)], []) (90, J, s.2) Q) (e := r) ?_ h
  intro s r1 h hC hX
  refine s_J7_fill_79_c90_b5_ok (d := d) h (fun a0 a1 e1 => ?_) (fun e u0 u1 u2 u3 e1 => hE e u0 u1 u2 u3 (hX _ e1).symm)
  exact hC _ e1
noncomputable def s_J7_fill_79_c90 (M : fM) (l1 : Int) : Option (Unit × fM) :=
  (s_J7_fill_79_c90_l5 l1 52 (0, M)).bind fun e5 =>
    some ((), e5)
theorem s_J7_fill_79_c90_ok {d : Nat} {J : Nat → Nat → Nat} {M : fM} {l1 : Int} {r : (Unit × fM)} {Q : fO → fH → Prop} (h : s_J7_fill_79_c90 M l1 = some r) (H : Q (oV r.1) (90, J, r.2)) : Wp (d + 0, 315, 0, 0, 0, [some (fA 79), some (fI l1), none, none], []) (90, J, M) Q := by
  unfold s_J7_fill_79_c90 at h
  refine Wp.run 5 (f' := (d + 0, 315, 5, 0, 0, [some (fA 79), some (fI l1), some (fI 0), some (fI 52)], [])) (h' := (90, J, M)) rfl trivial ?_
  obtain ⟨e5, hy, h⟩ := fbd h
  refine s_J7_fill_79_c90_l5_ok hy (fun x u0 u1 u2 u3 ex => ?_)
  cases ex
  show Wp (d + 0, 315, 20, 0, 0, [u0, u1, u2, u3], []) (90, J, e5) Q
  obtain rfl := Option.some.inj h
  exact Wp.done rfl (by decide) H
noncomputable def s_J7_fill_86_c90_b5 (M : fM) (l1 l2 l3 : Int) : Option ((Int × fM) ⊕ fM) :=
  if l3 ≤ l2 then
    some (.inr M)
  else
    if (0 ≤ l2 ∧ l2 < 36) ∧ fin (l2 + 1) then
      some (.inl ((l2 + 1), (fup M 86 (l2).toNat l1)))
    else none
theorem s_J7_fill_86_c90_b5_ok {d : Nat} {J : Nat → Nat → Nat} {M : fM} {l1 l2 l3 : Int} {r : ((Int × fM) ⊕ fM)} {Q : fO → fH → Prop} (h : s_J7_fill_86_c90_b5 M l1 l2 l3 = some r) (hC : ∀ (l2' : Int) (M' : fM), r = .inl (l2', M') → Wp (d + 0, 315, 5, 0, 0, [some (fA 86), some (fI l1), some (fI l2'), some (fI l3)], []) (90, J, M') Q) (hE : ∀ (e : fM) (o0' o1' o2' o3' : Option fV), r = .inr e → Wp (d + 0, 315, 20, 0, 0, [o0', o1', o2', o3'], []) (90, J, e) Q) : Wp (d + 0, 315, 5, 0, 0, [some (fA 86), some (fI l1), some (fI l2), some (fI l3)], []) (90, J, M) Q := by
  unfold s_J7_fill_86_c90_b5 at h
  refine Wp.run 2 (f' := (d + 0, 315, 7, 0, 0, [some (fA 86), some (fI l1), some (fI l2), some (fI l3)], [fI l3, fI l2])) (h' := (90, J, M)) rfl trivial ?_
  refine Wp.br rfl (fun (c : l3 ≤ l2) => ?_) (fun (c : ¬ (l3 ≤ l2)) => ?_)
  · replace h := fps c h
    exact hE _ _ _ _ _ (Option.some.inj h).symm
  · replace h := fng c h
    obtain ⟨⟨g0, g1⟩, h⟩ := fgd h
    refine Wp.run 6 (P := [0 ≤ l2 ∧ l2 < 36]) (f' := (d + 0, 315, 5, 0, 0, [some (fA 86), some (fI l1), some (fI (fw (l2 + 1))), some (fI l3)], [])) (h' := (90, J, (fup M 86 (l2).toNat l1))) rfl ?_ ?_
    · exact g0
    rw [fw_id g1]
    exact hC _ _ (Option.some.inj h).symm
noncomputable def s_J7_fill_86_c90_l5 (l1 l3 : Int) (s : (Int × fM)) : Option fM := fLp (fun s => s_J7_fill_86_c90_b5 s.2 l1 s.1 l3) s
theorem s_J7_fill_86_c90_l5_ok {d : Nat} {J : Nat → Nat → Nat} {M : fM} {l1 l2 l3 : Int} {r : fM} {Q : fO → fH → Prop} (h : s_J7_fill_86_c90_l5 l1 l3 (l2, M) = some r) (hE : ∀ (e : fM) (o0' o1' o2' o3' : Option fV), r = e → Wp (d + 0, 315, 20, 0, 0, [o0', o1', o2', o3'], []) (90, J, e) Q) : Wp (d + 0, 315, 5, 0, 0, [some (fA 86), some (fI l1), some (fI l2), some (fI l3)], []) (90, J, M) Q := by
  refine fLp_wp (W := fun s => Wp (d + 0, 315, 5, 0, 0, [some (fA 86), some (fI l1), some (fI s.1), some (fI l3)], []) (90, J, s.2) Q) (e := r) ?_ h
  intro s r1 h hC hX
  refine s_J7_fill_86_c90_b5_ok (d := d) h (fun a0 a1 e1 => ?_) (fun e u0 u1 u2 u3 e1 => hE e u0 u1 u2 u3 (hX _ e1).symm)
  exact hC _ e1
noncomputable def s_J7_fill_86_c90 (M : fM) (l1 : Int) : Option (Unit × fM) :=
  (s_J7_fill_86_c90_l5 l1 36 (0, M)).bind fun e5 =>
    some ((), e5)
theorem s_J7_fill_86_c90_ok {d : Nat} {J : Nat → Nat → Nat} {M : fM} {l1 : Int} {r : (Unit × fM)} {Q : fO → fH → Prop} (h : s_J7_fill_86_c90 M l1 = some r) (H : Q (oV r.1) (90, J, r.2)) : Wp (d + 0, 315, 0, 0, 0, [some (fA 86), some (fI l1), none, none], []) (90, J, M) Q := by
  unfold s_J7_fill_86_c90 at h
  refine Wp.run 5 (f' := (d + 0, 315, 5, 0, 0, [some (fA 86), some (fI l1), some (fI 0), some (fI 36)], [])) (h' := (90, J, M)) rfl trivial ?_
  obtain ⟨e5, hy, h⟩ := fbd h
  refine s_J7_fill_86_c90_l5_ok hy (fun x u0 u1 u2 u3 ex => ?_)
  cases ex
  show Wp (d + 0, 315, 20, 0, 0, [u0, u1, u2, u3], []) (90, J, e5) Q
  obtain rfl := Option.some.inj h
  exact Wp.done rfl (by decide) H
noncomputable def s_X2_clear_76_c90_j57 (M : fM) : Option (Unit × fM) :=
  some ((), (fup (fup (fup M 76 15 0) 76 16 0) 76 17 0))
theorem s_X2_clear_76_c90_j57_ok {d : Nat} {J : Nat → Nat → Nat} {M : fM} {r : (Unit × fM)} {Q : fO → fH → Prop} (h : s_X2_clear_76_c90_j57 M = some r) (H : Q (oV r.1) (90, (fupN (fclN (fupN (fclN (fupN (fclN (fupN (fclN (fupN (fclN (fupN (fclN (fupN (fclN (fupN (fclN (fupN (fclN (fupN (fclN (fupN (fclN (fupN (fclN (fupN (fclN J 77) 76 0 78) 78) 76 1 79) 79) 76 2 80) 80) 76 3 81) 81) 76 4 82) 82) 76 5 83) 83) 76 6 84) 84) 76 7 85) 85) 76 8 86) 86) 76 9 87) 87) 76 10 88) 88) 76 11 89) 89) 76 12 90), r.2)) : Wp (d + 1, 25, 57, 0, 0, [some (fA 76)], []) (90, (fupN (fclN (fupN (fclN (fupN (fclN (fupN (fclN (fupN (fclN (fupN (fclN (fupN (fclN (fupN (fclN (fupN (fclN (fupN (fclN (fupN (fclN (fupN (fclN (fupN (fclN J 77) 76 0 78) 78) 76 1 79) 79) 76 2 80) 80) 76 3 81) 81) 76 4 82) 82) 76 5 83) 83) 76 6 84) 84) 76 7 85) 85) 76 8 86) 86) 76 9 87) 87) 76 10 88) 88) 76 11 89) 89) 76 12 90), M) Q := by
  unfold s_X2_clear_76_c90_j57 at h
  refine Wp.run 9 (f' := (d + 1, 25, 72, 0, 0, [_], [])) (h' := (90, (fupN (fclN (fupN (fclN (fupN (fclN (fupN (fclN (fupN (fclN (fupN (fclN (fupN (fclN (fupN (fclN (fupN (fclN (fupN (fclN (fupN (fclN (fupN (fclN (fupN (fclN J 77) 76 0 78) 78) 76 1 79) 79) 76 2 80) 80) 76 3 81) 81) 76 4 82) 82) 76 5 83) 83) 76 6 84) 84) 76 7 85) 85) 76 8 86) 86) 76 9 87) 87) 76 10 88) 88) 76 11 89) 89) 76 12 90), (fup (fup (fup M 76 15 0) 76 16 0) 76 17 0))) rfl trivial ?_
  obtain rfl := Option.some.inj h
  exact Wp.done rfl (by decide) H
noncomputable def s_X2_clear_76_c90 (M : fM) : Option (Unit × fM) :=
  (s_J7_fill_77_c90 M 0).bind fun y5 =>
    (s_J7_fill_78_c90 y5.2 20).bind fun y14 =>
      (s_J7_fill_79_c90 y14.2 0).bind fun y22 =>
        (s_J7_fill_86_c90 y22.2 0).bind fun y30 =>
          s_X2_clear_76_c90_j57 (fup (fup (fcpy y30.2 1001 0 80 0 6) 76 13 0) 76 14 0)
theorem s_X2_clear_76_c90_ok {d : Nat} {J : Nat → Nat → Nat} {M : fM} {r : (Unit × fM)} {Q : fO → fH → Prop} (h : s_X2_clear_76_c90 M = some r) (H : Q (oV r.1) (90, (fupN (fclN (fupN (fclN (fupN (fclN (fupN (fclN (fupN (fclN (fupN (fclN (fupN (fclN (fupN (fclN (fupN (fclN (fupN (fclN (fupN (fclN (fupN (fclN (fupN (fclN J 77) 76 0 78) 78) 76 1 79) 79) 76 2 80) 80) 76 3 81) 81) 76 4 82) 82) 76 5 83) 83) 76 6 84) 84) 76 7 85) 85) 76 8 86) 86) 76 9 87) 87) 76 10 88) 88) 76 11 89) 89) 76 12 90), r.2)) : Wp (d + 1, 25, 0, 0, 0, [some (fA 76)], []) (90, (fupN (fclN (fupN (fclN (fupN (fclN (fupN (fclN (fupN (fclN (fupN (fclN (fupN (fclN (fupN (fclN (fupN (fclN (fupN (fclN (fupN (fclN (fupN (fclN (fupN (fclN J 77) 76 0 78) 78) 76 1 79) 79) 76 2 80) 80) 76 3 81) 81) 76 4 82) 82) 76 5 83) 83) 76 6 84) 84) 76 7 85) 85) 76 8 86) 86) 76 9 87) 87) 76 10 88) 88) 76 11 89) 89) 76 12 90), M) Q := by
  unfold s_X2_clear_76_c90 at h
  refine Wp.run 3 (f' := (d + 1, 25, 5, 0, 0, [some (fA 76)], [fI 0, fA 77])) (h' := (90, (fupN (fclN (fupN (fclN (fupN (fclN (fupN (fclN (fupN (fclN (fupN (fclN (fupN (fclN (fupN (fclN (fupN (fclN (fupN (fclN (fupN (fclN (fupN (fclN (fupN (fclN J 77) 76 0 78) 78) 76 1 79) 79) 76 2 80) 80) 76 3 81) 81) 76 4 82) 82) 76 5 83) 83) 76 6 84) 84) 76 7 85) 85) 76 8 86) 86) 76 9 87) 87) 76 10 88) 88) 76 11 89) 89) 76 12 90), M)) rfl trivial ?_
  obtain ⟨y5, hy, h⟩ := fbd h
  refine Wp.call rfl (by decide) (s_J7_fill_77_c90_ok (d := d + 0) hy ?_)
  show Wp (d + 1, 25, 8, 0, 0, [some (fA 76)], []) (90, (fupN (fclN (fupN (fclN (fupN (fclN (fupN (fclN (fupN (fclN (fupN (fclN (fupN (fclN (fupN (fclN (fupN (fclN (fupN (fclN (fupN (fclN (fupN (fclN (fupN (fclN J 77) 76 0 78) 78) 76 1 79) 79) 76 2 80) 80) 76 3 81) 81) 76 4 82) 82) 76 5 83) 83) 76 6 84) 84) 76 7 85) 85) 76 8 86) 86) 76 9 87) 87) 76 10 88) 88) 76 11 89) 89) 76 12 90), y5.2) Q
  refine Wp.run 3 (f' := (d + 1, 25, 14, 0, 0, [some (fA 76)], [fI 20, fA 78])) (h' := (90, (fupN (fclN (fupN (fclN (fupN (fclN (fupN (fclN (fupN (fclN (fupN (fclN (fupN (fclN (fupN (fclN (fupN (fclN (fupN (fclN (fupN (fclN (fupN (fclN (fupN (fclN J 77) 76 0 78) 78) 76 1 79) 79) 76 2 80) 80) 76 3 81) 81) 76 4 82) 82) 76 5 83) 83) 76 6 84) 84) 76 7 85) 85) 76 8 86) 86) 76 9 87) 87) 76 10 88) 88) 76 11 89) 89) 76 12 90), y5.2)) rfl trivial ?_
  obtain ⟨y14, hy, h⟩ := fbd h
  refine Wp.call rfl (by decide) (s_J7_fill_78_c90_ok (d := d + 0) hy ?_)
  show Wp (d + 1, 25, 17, 0, 0, [some (fA 76)], []) (90, (fupN (fclN (fupN (fclN (fupN (fclN (fupN (fclN (fupN (fclN (fupN (fclN (fupN (fclN (fupN (fclN (fupN (fclN (fupN (fclN (fupN (fclN (fupN (fclN (fupN (fclN J 77) 76 0 78) 78) 76 1 79) 79) 76 2 80) 80) 76 3 81) 81) 76 4 82) 82) 76 5 83) 83) 76 6 84) 84) 76 7 85) 85) 76 8 86) 86) 76 9 87) 87) 76 10 88) 88) 76 11 89) 89) 76 12 90), y14.2) Q
  refine Wp.run 3 (f' := (d + 1, 25, 22, 0, 0, [some (fA 76)], [fI 0, fA 79])) (h' := (90, (fupN (fclN (fupN (fclN (fupN (fclN (fupN (fclN (fupN (fclN (fupN (fclN (fupN (fclN (fupN (fclN (fupN (fclN (fupN (fclN (fupN (fclN (fupN (fclN (fupN (fclN J 77) 76 0 78) 78) 76 1 79) 79) 76 2 80) 80) 76 3 81) 81) 76 4 82) 82) 76 5 83) 83) 76 6 84) 84) 76 7 85) 85) 76 8 86) 86) 76 9 87) 87) 76 10 88) 88) 76 11 89) 89) 76 12 90), y14.2)) rfl trivial ?_
  obtain ⟨y22, hy, h⟩ := fbd h
  refine Wp.call rfl (by decide) (s_J7_fill_79_c90_ok (d := d + 0) hy ?_)
  show Wp (d + 1, 25, 25, 0, 0, [some (fA 76)], []) (90, (fupN (fclN (fupN (fclN (fupN (fclN (fupN (fclN (fupN (fclN (fupN (fclN (fupN (fclN (fupN (fclN (fupN (fclN (fupN (fclN (fupN (fclN (fupN (fclN (fupN (fclN J 77) 76 0 78) 78) 76 1 79) 79) 76 2 80) 80) 76 3 81) 81) 76 4 82) 82) 76 5 83) 83) 76 6 84) 84) 76 7 85) 85) 76 8 86) 86) 76 9 87) 87) 76 10 88) 88) 76 11 89) 89) 76 12 90), y22.2) Q
  refine Wp.run 3 (f' := (d + 1, 25, 30, 0, 0, [some (fA 76)], [fI 0, fA 86])) (h' := (90, (fupN (fclN (fupN (fclN (fupN (fclN (fupN (fclN (fupN (fclN (fupN (fclN (fupN (fclN (fupN (fclN (fupN (fclN (fupN (fclN (fupN (fclN (fupN (fclN (fupN (fclN J 77) 76 0 78) 78) 76 1 79) 79) 76 2 80) 80) 76 3 81) 81) 76 4 82) 82) 76 5 83) 83) 76 6 84) 84) 76 7 85) 85) 76 8 86) 86) 76 9 87) 87) 76 10 88) 88) 76 11 89) 89) 76 12 90), y22.2)) rfl trivial ?_
  obtain ⟨y30, hy, h⟩ := fbd h
  refine Wp.call rfl (by decide) (s_J7_fill_86_c90_ok (d := d + 0) hy ?_)
  show Wp (d + 1, 25, 33, 0, 0, [some (fA 76)], []) (90, (fupN (fclN (fupN (fclN (fupN (fclN (fupN (fclN (fupN (fclN (fupN (fclN (fupN (fclN (fupN (fclN (fupN (fclN (fupN (fclN (fupN (fclN (fupN (fclN (fupN (fclN J 77) 76 0 78) 78) 76 1 79) 79) 76 2 80) 80) 76 3 81) 81) 76 4 82) 82) 76 5 83) 83) 76 6 84) 84) 76 7 85) 85) 76 8 86) 86) 76 9 87) 87) 76 10 88) 88) 76 11 89) 89) 76 12 90), y30.2) Q
  refine Wp.run 13 (P := [1 ≤ d + 1, (0 : Int) ≤ 0 ∧ (0 : Int) ≤ 0 ∧ (0 : Int) ≤ 6 ∧ (0 : Int) + 6 ≤ 6 ∧ (0 : Int) + 6 ≤ 6 ∧ 1001 ≠ 80]) (f' := (d + 1, 25, 57, 0, 0, [some (fA 76)], [])) (h' := (90, (fupN (fclN (fupN (fclN (fupN (fclN (fupN (fclN (fupN (fclN (fupN (fclN (fupN (fclN (fupN (fclN (fupN (fclN (fupN (fclN (fupN (fclN (fupN (fclN (fupN (fclN J 77) 76 0 78) 78) 76 1 79) 79) 76 2 80) 80) 76 3 81) 81) 76 4 82) 82) 76 5 83) 83) 76 6 84) 84) 76 7 85) 85) 76 8 86) 86) 76 9 87) 87) 76 10 88) 88) 76 11 89) 89) 76 12 90), (fup (fup (fcpy y30.2 1001 0 80 0 6) 76 13 0) 76 14 0))) rfl ?_ ?_
  · exact ⟨Nat.le_add_left_of_le (by decide), ⟨by decide, by decide, by decide, by decide, by decide, by decide⟩⟩
  exact s_X2_clear_76_c90_j57_ok h H
abbrev jn_s_X2_init_76_c77_j53 (J : Nat → Nat → Nat) : Nat → Nat → Nat := (fupN (fclN (fupN (fclN (fupN (fclN (fupN (fclN (fupN (fclN (fupN (fclN J 77) 76 0 78) 78) 76 1 79) 79) 76 2 80) 80) 76 3 81) 81) 76 4 82) 82) 76 5 83)
abbrev jn_s_X2_init_76_c77_j78 (J : Nat → Nat → Nat) : Nat → Nat → Nat := (fupN (fclN (fupN (fclN (fupN (fclN (jn_s_X2_init_76_c77_j53 J) 83) 76 6 84) 84) 76 7 85) 85) 76 8 86)
abbrev jn_s_X2_init_76_c77_j102 (J : Nat → Nat → Nat) : Nat → Nat → Nat := (fupN (fclN (fupN (fclN (fupN (fclN (jn_s_X2_init_76_c77_j78 J) 86) 76 9 87) 87) 76 10 88) 88) 76 11 89)
noncomputable def s_X2_init_76_c77_j102 (M : fM) : Option (Unit × fM) :=
  (s_X2_clear_76_c90 (fclr M 89)).bind fun y111 =>
    some ((), y111.2)
theorem s_X2_init_76_c77_j102_ok {d : Nat} {J : Nat → Nat → Nat} {M : fM} {r : (Unit × fM)} {Q : fO → fH → Prop} (h : s_X2_init_76_c77_j102 M = some r) (H : Q (oV r.1) (90, (fupN (fclN (jn_s_X2_init_76_c77_j102 J) 89) 76 12 90), r.2)) : Wp (d + 2, 24, 102, 12, 662, [some (fA 76)], []) (89, (jn_s_X2_init_76_c77_j102 J), M) Q := by
  unfold s_X2_init_76_c77_j102 at h
  refine Wp.run 5 (P := [(6 : Int) = 6 ∧ 12 + 1 ≤ 13 ∧ 662 + 6 ≤ 668]) (f' := (d + 2, 24, 111, 13, 668, [_], [fA 76])) (h' := (90, (fupN (fclN (jn_s_X2_init_76_c77_j102 J) 89) 76 12 90), (fclr M 89))) rfl ?_ ?_
  · exact (by decide : (6 : Int) = 6 ∧ 12 + 1 ≤ 13 ∧ 662 + 6 ≤ 668)
  obtain ⟨y111, hy, h⟩ := fbd h
  refine Wp.call rfl (by decide) (s_X2_clear_76_c90_ok (d := d + 0) hy ?_)
  show Wp (d + 2, 24, 114, 13, 668, [_], []) (90, (fupN (fclN (jn_s_X2_init_76_c77_j102 J) 89) 76 12 90), y111.2) Q
  obtain rfl := Option.some.inj h
  exact Wp.done rfl (by decide) H
noncomputable def s_X2_init_76_c77_j78 (M : fM) : Option (Unit × fM) :=
  s_X2_init_76_c77_j102 (fclr (fclr (fclr M 86) 87) 88)
theorem s_X2_init_76_c77_j78_ok {d : Nat} {J : Nat → Nat → Nat} {M : fM} {r : (Unit × fM)} {Q : fO → fH → Prop} (h : s_X2_init_76_c77_j78 M = some r) (H : Q (oV r.1) (90, (fupN (fclN (jn_s_X2_init_76_c77_j102 J) 89) 76 12 90), r.2)) : Wp (d + 2, 24, 78, 9, 604, [some (fA 76)], []) (86, (jn_s_X2_init_76_c77_j78 J), M) Q := by
  unfold s_X2_init_76_c77_j78 at h
  refine Wp.run 12 (P := [(36 : Int) = 36 ∧ 9 + 1 ≤ 13 ∧ 604 + 36 ≤ 668, (16 : Int) = 16 ∧ 10 + 1 ≤ 13 ∧ 640 + 16 ≤ 668, (6 : Int) = 6 ∧ 11 + 1 ≤ 13 ∧ 656 + 6 ≤ 668]) (f' := (d + 2, 24, 102, 12, 662, [some (fA 76)], [])) (h' := (89, (fupN (fclN (fupN (fclN (fupN (fclN (jn_s_X2_init_76_c77_j78 J) 86) 76 9 87) 87) 76 10 88) 88) 76 11 89), (fclr (fclr (fclr M 86) 87) 88))) rfl ?_ ?_
  · exact ⟨(by decide : (36 : Int) = 36 ∧ 9 + 1 ≤ 13 ∧ 604 + 36 ≤ 668), (by decide : (16 : Int) = 16 ∧ 10 + 1 ≤ 13 ∧ 640 + 16 ≤ 668), (by decide : (6 : Int) = 6 ∧ 11 + 1 ≤ 13 ∧ 656 + 6 ≤ 668)⟩
  exact s_X2_init_76_c77_j102_ok h H
noncomputable def s_X2_init_76_c77_j53 (M : fM) : Option (Unit × fM) :=
  s_X2_init_76_c77_j78 (fclr (fclr (fclr M 83) 84) 85)
theorem s_X2_init_76_c77_j53_ok {d : Nat} {J : Nat → Nat → Nat} {M : fM} {r : (Unit × fM)} {Q : fO → fH → Prop} (h : s_X2_init_76_c77_j53 M = some r) (H : Q (oV r.1) (90, (fupN (fclN (jn_s_X2_init_76_c77_j102 J) 89) 76 12 90), r.2)) : Wp (d + 2, 24, 53, 6, 330, [some (fA 76)], []) (83, (jn_s_X2_init_76_c77_j53 J), M) Q := by
  unfold s_X2_init_76_c77_j53 at h
  refine Wp.run 12 (P := [(192 : Int) = 192 ∧ 6 + 1 ≤ 13 ∧ 330 + 192 ≤ 668, (64 : Int) = 64 ∧ 7 + 1 ≤ 13 ∧ 522 + 64 ≤ 668, (18 : Int) = 18 ∧ 8 + 1 ≤ 13 ∧ 586 + 18 ≤ 668]) (f' := (d + 2, 24, 78, 9, 604, [some (fA 76)], [])) (h' := (86, (fupN (fclN (fupN (fclN (fupN (fclN (jn_s_X2_init_76_c77_j53 J) 83) 76 6 84) 84) 76 7 85) 85) 76 8 86), (fclr (fclr (fclr M 83) 84) 85))) rfl ?_ ?_
  · exact ⟨(by decide : (192 : Int) = 192 ∧ 6 + 1 ≤ 13 ∧ 330 + 192 ≤ 668), (by decide : (64 : Int) = 64 ∧ 7 + 1 ≤ 13 ∧ 522 + 64 ≤ 668), (by decide : (18 : Int) = 18 ∧ 8 + 1 ≤ 13 ∧ 586 + 18 ≤ 668)⟩
  exact s_X2_init_76_c77_j78_ok h H
noncomputable def s_X2_init_76_c77_j28 (M : fM) : Option (Unit × fM) :=
  s_X2_init_76_c77_j53 (fclr (fclr (fclr M 80) 81) 82)
theorem s_X2_init_76_c77_j28_ok {d : Nat} {J : Nat → Nat → Nat} {M : fM} {r : (Unit × fM)} {Q : fO → fH → Prop} (h : s_X2_init_76_c77_j28 M = some r) (H : Q (oV r.1) (90, (fupN (fclN (jn_s_X2_init_76_c77_j102 J) 89) 76 12 90), r.2)) : Wp (d + 2, 24, 28, 3, 116, [some (fA 76)], []) (80, (fupN (fclN (fupN (fclN (fupN (fclN J 77) 76 0 78) 78) 76 1 79) 79) 76 2 80), M) Q := by
  unfold s_X2_init_76_c77_j28 at h
  refine Wp.run 12 (P := [(6 : Int) = 6 ∧ 3 + 1 ≤ 13 ∧ 116 + 6 ≤ 668, (48 : Int) = 48 ∧ 4 + 1 ≤ 13 ∧ 122 + 48 ≤ 668, (160 : Int) = 160 ∧ 5 + 1 ≤ 13 ∧ 170 + 160 ≤ 668]) (f' := (d + 2, 24, 53, 6, 330, [some (fA 76)], [])) (h' := (83, (fupN (fclN (fupN (fclN (fupN (fclN (fupN (fclN (fupN (fclN (fupN (fclN J 77) 76 0 78) 78) 76 1 79) 79) 76 2 80) 80) 76 3 81) 81) 76 4 82) 82) 76 5 83), (fclr (fclr (fclr M 80) 81) 82))) rfl ?_ ?_
  · exact ⟨(by decide : (6 : Int) = 6 ∧ 3 + 1 ≤ 13 ∧ 116 + 6 ≤ 668), (by decide : (48 : Int) = 48 ∧ 4 + 1 ≤ 13 ∧ 122 + 48 ≤ 668), (by decide : (160 : Int) = 160 ∧ 5 + 1 ≤ 13 ∧ 170 + 160 ≤ 668)⟩
  exact s_X2_init_76_c77_j53_ok h H
noncomputable def s_X2_init_76_c77 (M : fM) : Option (Unit × fM) :=
  s_X2_init_76_c77_j28 (fclr (fclr (fclr M 77) 78) 79)
theorem s_X2_init_76_c77_ok {d : Nat} {J : Nat → Nat → Nat} {M : fM} {r : (Unit × fM)} {Q : fO → fH → Prop} (h : s_X2_init_76_c77 M = some r) (H : Q (oV r.1) (90, (fupN (fclN (jn_s_X2_init_76_c77_j102 J) 89) 76 12 90), r.2)) : Wp (d + 2, 24, 0, 0, 0, [some (fA 76)], []) (77, J, M) Q := by
  unfold s_X2_init_76_c77 at h
  refine Wp.run 14 (P := [1 ≤ d + 2, (12 : Int) = 12 ∧ 0 + 1 ≤ 13 ∧ 0 + 12 ≤ 668, (52 : Int) = 52 ∧ 1 + 1 ≤ 13 ∧ 12 + 52 ≤ 668, (52 : Int) = 52 ∧ 2 + 1 ≤ 13 ∧ 64 + 52 ≤ 668]) (f' := (d + 2, 24, 28, 3, 116, [some (fA 76)], [])) (h' := (80, (fupN (fclN (fupN (fclN (fupN (fclN J 77) 76 0 78) 78) 76 1 79) 79) 76 2 80), (fclr (fclr (fclr M 77) 78) 79))) rfl ?_ ?_
  · exact ⟨Nat.le_add_left_of_le (by decide), (by decide : (12 : Int) = 12 ∧ 0 + 1 ≤ 13 ∧ 0 + 12 ≤ 668), (by decide : (52 : Int) = 52 ∧ 1 + 1 ≤ 13 ∧ 12 + 52 ≤ 668), (by decide : (52 : Int) = 52 ∧ 2 + 1 ≤ 13 ∧ 64 + 52 ≤ 668)⟩
  exact s_X2_init_76_c77_j28_ok h H
abbrev jo_s_X2_init_76_c77 (J : Nat → Nat → Nat) : Nat → Nat → Nat := (fupN (fclN (jn_s_X2_init_76_c77_j102 J) 89) 76 12 90)
abbrev jn_s_X6_init_90_c91_j58 (J : Nat → Nat → Nat) : Nat → Nat → Nat := (fupN (fclN (fupN (fclN (fupN (fclN (fupN (fclN (fupN (fclN (fupN (fclN J 91) 90 0 92) 92) 90 1 93) 93) 90 2 94) 94) 90 3 95) 95) 90 4 96) 96) 90 5 97)
noncomputable def s_X6_init_90_c91_j58 (M : fM) : Option (Unit × fM) :=
  some ((), (fclr (fclr M 97) 98))
theorem s_X6_init_90_c91_j58_ok {d : Nat} {J : Nat → Nat → Nat} {M : fM} {r : (Unit × fM)} {Q : fO → fH → Prop} (h : s_X6_init_90_c91_j58 M = some r) (H : Q (oV r.1) (99, (fupN (fclN (fupN (fclN (jn_s_X6_init_90_c91_j58 J) 97) 90 6 98) 98) 90 7 99), r.2)) : Wp (d + 1, 76, 58, 6, 1200, [some (fA 90)], []) (97, (jn_s_X6_init_90_c91_j58 J), M) Q := by
  unfold s_X6_init_90_c91_j58 at h
  refine Wp.run 8 (P := [(200 : Int) = 200 ∧ 6 + 1 ≤ 8 ∧ 1200 + 200 ≤ 3800, (2400 : Int) = 2400 ∧ 7 + 1 ≤ 8 ∧ 1400 + 2400 ≤ 3800]) (f' := (d + 1, 76, 76, 8, 3800, [_], [])) (h' := (99, (fupN (fclN (fupN (fclN (jn_s_X6_init_90_c91_j58 J) 97) 90 6 98) 98) 90 7 99), (fclr (fclr M 97) 98))) rfl ?_ ?_
  · exact ⟨(by decide : (200 : Int) = 200 ∧ 6 + 1 ≤ 8 ∧ 1200 + 200 ≤ 3800), (by decide : (2400 : Int) = 2400 ∧ 7 + 1 ≤ 8 ∧ 1400 + 2400 ≤ 3800)⟩
  obtain rfl := Option.some.inj h
  exact Wp.done rfl (by decide) H
noncomputable def s_X6_init_90_c91_j31 (M : fM) : Option (Unit × fM) :=
  s_X6_init_90_c91_j58 (fclr (fclr (fclr M 94) 95) 96)
theorem s_X6_init_90_c91_j31_ok {d : Nat} {J : Nat → Nat → Nat} {M : fM} {r : (Unit × fM)} {Q : fO → fH → Prop} (h : s_X6_init_90_c91_j31 M = some r) (H : Q (oV r.1) (99, (fupN (fclN (fupN (fclN (jn_s_X6_init_90_c91_j58 J) 97) 90 6 98) 98) 90 7 99), r.2)) : Wp (d + 1, 76, 31, 3, 600, [some (fA 90)], []) (94, (fupN (fclN (fupN (fclN (fupN (fclN J 91) 90 0 92) 92) 90 1 93) 93) 90 2 94), M) Q := by
  unfold s_X6_init_90_c91_j31 at h
  refine Wp.run 12 (P := [(200 : Int) = 200 ∧ 3 + 1 ≤ 8 ∧ 600 + 200 ≤ 3800, (200 : Int) = 200 ∧ 4 + 1 ≤ 8 ∧ 800 + 200 ≤ 3800, (200 : Int) = 200 ∧ 5 + 1 ≤ 8 ∧ 1000 + 200 ≤ 3800]) (f' := (d + 1, 76, 58, 6, 1200, [some (fA 90)], [])) (h' := (97, (fupN (fclN (fupN (fclN (fupN (fclN (fupN (fclN (fupN (fclN (fupN (fclN J 91) 90 0 92) 92) 90 1 93) 93) 90 2 94) 94) 90 3 95) 95) 90 4 96) 96) 90 5 97), (fclr (fclr (fclr M 94) 95) 96))) rfl ?_ ?_
  · exact ⟨(by decide : (200 : Int) = 200 ∧ 3 + 1 ≤ 8 ∧ 600 + 200 ≤ 3800), (by decide : (200 : Int) = 200 ∧ 4 + 1 ≤ 8 ∧ 800 + 200 ≤ 3800), (by decide : (200 : Int) = 200 ∧ 5 + 1 ≤ 8 ∧ 1000 + 200 ≤ 3800)⟩
  exact s_X6_init_90_c91_j58_ok h H
noncomputable def s_X6_init_90_c91 (M : fM) : Option (Unit × fM) :=
  s_X6_init_90_c91_j31 (fclr (fclr (fclr M 91) 92) 93)
theorem s_X6_init_90_c91_ok {d : Nat} {J : Nat → Nat → Nat} {M : fM} {r : (Unit × fM)} {Q : fO → fH → Prop} (h : s_X6_init_90_c91 M = some r) (H : Q (oV r.1) (99, (fupN (fclN (fupN (fclN (jn_s_X6_init_90_c91_j58 J) 97) 90 6 98) 98) 90 7 99), r.2)) : Wp (d + 1, 76, 0, 0, 0, [some (fA 90)], []) (91, J, M) Q := by
  unfold s_X6_init_90_c91 at h
  refine Wp.run 14 (P := [1 ≤ d + 1, (200 : Int) = 200 ∧ 0 + 1 ≤ 8 ∧ 0 + 200 ≤ 3800, (200 : Int) = 200 ∧ 1 + 1 ≤ 8 ∧ 200 + 200 ≤ 3800, (200 : Int) = 200 ∧ 2 + 1 ≤ 8 ∧ 400 + 200 ≤ 3800]) (f' := (d + 1, 76, 31, 3, 600, [some (fA 90)], [])) (h' := (94, (fupN (fclN (fupN (fclN (fupN (fclN J 91) 90 0 92) 92) 90 1 93) 93) 90 2 94), (fclr (fclr (fclr M 91) 92) 93))) rfl ?_ ?_
  · exact ⟨Nat.le_add_left_of_le (by decide), (by decide : (200 : Int) = 200 ∧ 0 + 1 ≤ 8 ∧ 0 + 200 ≤ 3800), (by decide : (200 : Int) = 200 ∧ 1 + 1 ≤ 8 ∧ 200 + 200 ≤ 3800), (by decide : (200 : Int) = 200 ∧ 2 + 1 ≤ 8 ∧ 400 + 200 ≤ 3800)⟩
  exact s_X6_init_90_c91_j31_ok h H
abbrev jo_s_X6_init_90_c91 (J : Nat → Nat → Nat) : Nat → Nat → Nat := (fupN (fclN (fupN (fclN (jn_s_X6_init_90_c91_j58 J) 97) 90 6 98) 98) 90 7 99)
noncomputable def s_J7_fill_100_c113_b5 (M : fM) (l1 l2 l3 : Int) : Option ((Int × fM) ⊕ fM) :=
  if l3 ≤ l2 then
    some (.inr M)
  else
    if (0 ≤ l2 ∧ l2 < 12) ∧ fin (l2 + 1) then
      some (.inl ((l2 + 1), (fup M 100 (l2).toNat l1)))
    else none
theorem s_J7_fill_100_c113_b5_ok {d : Nat} {J : Nat → Nat → Nat} {M : fM} {l1 l2 l3 : Int} {r : ((Int × fM) ⊕ fM)} {Q : fO → fH → Prop} (h : s_J7_fill_100_c113_b5 M l1 l2 l3 = some r) (hC : ∀ (l2' : Int) (M' : fM), r = .inl (l2', M') → Wp (d + 0, 315, 5, 0, 0, [some (fA 100), some (fI l1), some (fI l2'), some (fI l3)], []) (113, J, M') Q) (hE : ∀ (e : fM) (o0' o1' o2' o3' : Option fV), r = .inr e → Wp (d + 0, 315, 20, 0, 0, [o0', o1', o2', o3'], []) (113, J, e) Q) : Wp (d + 0, 315, 5, 0, 0, [some (fA 100), some (fI l1), some (fI l2), some (fI l3)], []) (113, J, M) Q := by
  unfold s_J7_fill_100_c113_b5 at h
  refine Wp.run 2 (f' := (d + 0, 315, 7, 0, 0, [some (fA 100), some (fI l1), some (fI l2), some (fI l3)], [fI l3, fI l2])) (h' := (113, J, M)) rfl trivial ?_
  refine Wp.br rfl (fun (c : l3 ≤ l2) => ?_) (fun (c : ¬ (l3 ≤ l2)) => ?_)
  · replace h := fps c h
    exact hE _ _ _ _ _ (Option.some.inj h).symm
  · replace h := fng c h
    obtain ⟨⟨g0, g1⟩, h⟩ := fgd h
    refine Wp.run 6 (P := [0 ≤ l2 ∧ l2 < 12]) (f' := (d + 0, 315, 5, 0, 0, [some (fA 100), some (fI l1), some (fI (fw (l2 + 1))), some (fI l3)], [])) (h' := (113, J, (fup M 100 (l2).toNat l1))) rfl ?_ ?_
    · exact g0
    rw [fw_id g1]
    exact hC _ _ (Option.some.inj h).symm
noncomputable def s_J7_fill_100_c113_l5 (l1 l3 : Int) (s : (Int × fM)) : Option fM := fLp (fun s => s_J7_fill_100_c113_b5 s.2 l1 s.1 l3) s
theorem s_J7_fill_100_c113_l5_ok {d : Nat} {J : Nat → Nat → Nat} {M : fM} {l1 l2 l3 : Int} {r : fM} {Q : fO → fH → Prop} (h : s_J7_fill_100_c113_l5 l1 l3 (l2, M) = some r) (hE : ∀ (e : fM) (o0' o1' o2' o3' : Option fV), r = e → Wp (d + 0, 315, 20, 0, 0, [o0', o1', o2', o3'], []) (113, J, e) Q) : Wp (d + 0, 315, 5, 0, 0, [some (fA 100), some (fI l1), some (fI l2), some (fI l3)], []) (113, J, M) Q := by
  refine fLp_wp (W := fun s => Wp (d + 0, 315, 5, 0, 0, [some (fA 100), some (fI l1), some (fI s.1), some (fI l3)], []) (113, J, s.2) Q) (e := r) ?_ h
  intro s r1 h hC hX
  refine s_J7_fill_100_c113_b5_ok (d := d) h (fun a0 a1 e1 => ?_) (fun e u0 u1 u2 u3 e1 => hE e u0 u1 u2 u3 (hX _ e1).symm)
  exact hC _ e1
noncomputable def s_J7_fill_100_c113 (M : fM) (l1 : Int) : Option (Unit × fM) :=
  (s_J7_fill_100_c113_l5 l1 12 (0, M)).bind fun e5 =>
    some ((), e5)
theorem s_J7_fill_100_c113_ok {d : Nat} {J : Nat → Nat → Nat} {M : fM} {l1 : Int} {r : (Unit × fM)} {Q : fO → fH → Prop} (h : s_J7_fill_100_c113 M l1 = some r) (H : Q (oV r.1) (113, J, r.2)) : Wp (d + 0, 315, 0, 0, 0, [some (fA 100), some (fI l1), none, none], []) (113, J, M) Q := by
  unfold s_J7_fill_100_c113 at h
  refine Wp.run 5 (f' := (d + 0, 315, 5, 0, 0, [some (fA 100), some (fI l1), some (fI 0), some (fI 12)], [])) (h' := (113, J, M)) rfl trivial ?_
  obtain ⟨e5, hy, h⟩ := fbd h
  refine s_J7_fill_100_c113_l5_ok hy (fun x u0 u1 u2 u3 ex => ?_)
  cases ex
  show Wp (d + 0, 315, 20, 0, 0, [u0, u1, u2, u3], []) (113, J, e5) Q
  obtain rfl := Option.some.inj h
  exact Wp.done rfl (by decide) H
noncomputable def s_J7_fill_101_c113_b5 (M : fM) (l1 l2 l3 : Int) : Option ((Int × fM) ⊕ fM) :=
  if l3 ≤ l2 then
    some (.inr M)
  else
    if (0 ≤ l2 ∧ l2 < 52) ∧ fin (l2 + 1) then
      some (.inl ((l2 + 1), (fup M 101 (l2).toNat l1)))
    else none
theorem s_J7_fill_101_c113_b5_ok {d : Nat} {J : Nat → Nat → Nat} {M : fM} {l1 l2 l3 : Int} {r : ((Int × fM) ⊕ fM)} {Q : fO → fH → Prop} (h : s_J7_fill_101_c113_b5 M l1 l2 l3 = some r) (hC : ∀ (l2' : Int) (M' : fM), r = .inl (l2', M') → Wp (d + 0, 315, 5, 0, 0, [some (fA 101), some (fI l1), some (fI l2'), some (fI l3)], []) (113, J, M') Q) (hE : ∀ (e : fM) (o0' o1' o2' o3' : Option fV), r = .inr e → Wp (d + 0, 315, 20, 0, 0, [o0', o1', o2', o3'], []) (113, J, e) Q) : Wp (d + 0, 315, 5, 0, 0, [some (fA 101), some (fI l1), some (fI l2), some (fI l3)], []) (113, J, M) Q := by
  unfold s_J7_fill_101_c113_b5 at h
  refine Wp.run 2 (f' := (d + 0, 315, 7, 0, 0, [some (fA 101), some (fI l1), some (fI l2), some (fI l3)], [fI l3, fI l2])) (h' := (113, J, M)) rfl trivial ?_
  refine Wp.br rfl (fun (c : l3 ≤ l2) => ?_) (fun (c : ¬ (l3 ≤ l2)) => ?_)
  · replace h := fps c h
    exact hE _ _ _ _ _ (Option.some.inj h).symm
  · replace h := fng c h
    obtain ⟨⟨g0, g1⟩, h⟩ := fgd h
    refine Wp.run 6 (P := [0 ≤ l2 ∧ l2 < 52]) (f' := (d + 0, 315, 5, 0, 0, [some (fA 101), some (fI l1), some (fI (fw (l2 + 1))), some (fI l3)], [])) (h' := (113, J, (fup M 101 (l2).toNat l1))) rfl ?_ ?_
    · exact g0
    rw [fw_id g1]
    exact hC _ _ (Option.some.inj h).symm
noncomputable def s_J7_fill_101_c113_l5 (l1 l3 : Int) (s : (Int × fM)) : Option fM := fLp (fun s => s_J7_fill_101_c113_b5 s.2 l1 s.1 l3) s
theorem s_J7_fill_101_c113_l5_ok {d : Nat} {J : Nat → Nat → Nat} {M : fM} {l1 l2 l3 : Int} {r : fM} {Q : fO → fH → Prop} (h : s_J7_fill_101_c113_l5 l1 l3 (l2, M) = some r) (hE : ∀ (e : fM) (o0' o1' o2' o3' : Option fV), r = e → Wp (d + 0, 315, 20, 0, 0, [o0', o1', o2', o3'], []) (113, J, e) Q) : Wp (d + 0, 315, 5, 0, 0, [some (fA 101), some (fI l1), some (fI l2), some (fI l3)], []) (113, J, M) Q := by
  refine fLp_wp (W := fun s => Wp (d + 0, 315, 5, 0, 0, [some (fA 101), some (fI l1), some (fI s.1), some (fI l3)], []) (113, J, s.2) Q) (e := r) ?_ h
  intro s r1 h hC hX
  refine s_J7_fill_101_c113_b5_ok (d := d) h (fun a0 a1 e1 => ?_) (fun e u0 u1 u2 u3 e1 => hE e u0 u1 u2 u3 (hX _ e1).symm)
  exact hC _ e1
noncomputable def s_J7_fill_101_c113 (M : fM) (l1 : Int) : Option (Unit × fM) :=
  (s_J7_fill_101_c113_l5 l1 52 (0, M)).bind fun e5 =>
    some ((), e5)
theorem s_J7_fill_101_c113_ok {d : Nat} {J : Nat → Nat → Nat} {M : fM} {l1 : Int} {r : (Unit × fM)} {Q : fO → fH → Prop} (h : s_J7_fill_101_c113 M l1 = some r) (H : Q (oV r.1) (113, J, r.2)) : Wp (d + 0, 315, 0, 0, 0, [some (fA 101), some (fI l1), none, none], []) (113, J, M) Q := by
  unfold s_J7_fill_101_c113 at h
  refine Wp.run 5 (f' := (d + 0, 315, 5, 0, 0, [some (fA 101), some (fI l1), some (fI 0), some (fI 52)], [])) (h' := (113, J, M)) rfl trivial ?_
  obtain ⟨e5, hy, h⟩ := fbd h
  refine s_J7_fill_101_c113_l5_ok hy (fun x u0 u1 u2 u3 ex => ?_)
  cases ex
  show Wp (d + 0, 315, 20, 0, 0, [u0, u1, u2, u3], []) (113, J, e5) Q
  obtain rfl := Option.some.inj h
  exact Wp.done rfl (by decide) H
noncomputable def s_J7_fill_102_c113_b5 (M : fM) (l1 l2 l3 : Int) : Option ((Int × fM) ⊕ fM) :=
  if l3 ≤ l2 then
    some (.inr M)
  else
    if (0 ≤ l2 ∧ l2 < 52) ∧ fin (l2 + 1) then
      some (.inl ((l2 + 1), (fup M 102 (l2).toNat l1)))
    else none
theorem s_J7_fill_102_c113_b5_ok {d : Nat} {J : Nat → Nat → Nat} {M : fM} {l1 l2 l3 : Int} {r : ((Int × fM) ⊕ fM)} {Q : fO → fH → Prop} (h : s_J7_fill_102_c113_b5 M l1 l2 l3 = some r) (hC : ∀ (l2' : Int) (M' : fM), r = .inl (l2', M') → Wp (d + 0, 315, 5, 0, 0, [some (fA 102), some (fI l1), some (fI l2'), some (fI l3)], []) (113, J, M') Q) (hE : ∀ (e : fM) (o0' o1' o2' o3' : Option fV), r = .inr e → Wp (d + 0, 315, 20, 0, 0, [o0', o1', o2', o3'], []) (113, J, e) Q) : Wp (d + 0, 315, 5, 0, 0, [some (fA 102), some (fI l1), some (fI l2), some (fI l3)], []) (113, J, M) Q := by
  unfold s_J7_fill_102_c113_b5 at h
  refine Wp.run 2 (f' := (d + 0, 315, 7, 0, 0, [some (fA 102), some (fI l1), some (fI l2), some (fI l3)], [fI l3, fI l2])) (h' := (113, J, M)) rfl trivial ?_
  refine Wp.br rfl (fun (c : l3 ≤ l2) => ?_) (fun (c : ¬ (l3 ≤ l2)) => ?_)
  · replace h := fps c h
    exact hE _ _ _ _ _ (Option.some.inj h).symm
  · replace h := fng c h
    obtain ⟨⟨g0, g1⟩, h⟩ := fgd h
    refine Wp.run 6 (P := [0 ≤ l2 ∧ l2 < 52]) (f' := (d + 0, 315, 5, 0, 0, [some (fA 102), some (fI l1), some (fI (fw (l2 + 1))), some (fI l3)], [])) (h' := (113, J, (fup M 102 (l2).toNat l1))) rfl ?_ ?_
    · exact g0
    rw [fw_id g1]
    exact hC _ _ (Option.some.inj h).symm
noncomputable def s_J7_fill_102_c113_l5 (l1 l3 : Int) (s : (Int × fM)) : Option fM := fLp (fun s => s_J7_fill_102_c113_b5 s.2 l1 s.1 l3) s
theorem s_J7_fill_102_c113_l5_ok {d : Nat} {J : Nat → Nat → Nat} {M : fM} {l1 l2 l3 : Int} {r : fM} {Q : fO → fH → Prop} (h : s_J7_fill_102_c113_l5 l1 l3 (l2, M) = some r) (hE : ∀ (e : fM) (o0' o1' o2' o3' : Option fV), r = e → Wp (d + 0, 315, 20, 0, 0, [o0', o1', o2', o3'], []) (113, J, e) Q) : Wp (d + 0, 315, 5, 0, 0, [some (fA 102), some (fI l1), some (fI l2), some (fI l3)], []) (113, J, M) Q := by
  refine fLp_wp (W := fun s => Wp (d + 0, 315, 5, 0, 0, [some (fA 102), some (fI l1), some (fI s.1), some (fI l3)], []) (113, J, s.2) Q) (e := r) ?_ h
  intro s r1 h hC hX
  refine s_J7_fill_102_c113_b5_ok (d := d) h (fun a0 a1 e1 => ?_) (fun e u0 u1 u2 u3 e1 => hE e u0 u1 u2 u3 (hX _ e1).symm)
  exact hC _ e1
noncomputable def s_J7_fill_102_c113 (M : fM) (l1 : Int) : Option (Unit × fM) :=
  (s_J7_fill_102_c113_l5 l1 52 (0, M)).bind fun e5 =>
    some ((), e5)
theorem s_J7_fill_102_c113_ok {d : Nat} {J : Nat → Nat → Nat} {M : fM} {l1 : Int} {r : (Unit × fM)} {Q : fO → fH → Prop} (h : s_J7_fill_102_c113 M l1 = some r) (H : Q (oV r.1) (113, J, r.2)) : Wp (d + 0, 315, 0, 0, 0, [some (fA 102), some (fI l1), none, none], []) (113, J, M) Q := by
  unfold s_J7_fill_102_c113 at h
  refine Wp.run 5 (f' := (d + 0, 315, 5, 0, 0, [some (fA 102), some (fI l1), some (fI 0), some (fI 52)], [])) (h' := (113, J, M)) rfl trivial ?_
  obtain ⟨e5, hy, h⟩ := fbd h
  refine s_J7_fill_102_c113_l5_ok hy (fun x u0 u1 u2 u3 ex => ?_)
  cases ex
  show Wp (d + 0, 315, 20, 0, 0, [u0, u1, u2, u3], []) (113, J, e5) Q
  obtain rfl := Option.some.inj h
  exact Wp.done rfl (by decide) H
noncomputable def s_J7_fill_109_c113_b5 (M : fM) (l1 l2 l3 : Int) : Option ((Int × fM) ⊕ fM) :=
  if l3 ≤ l2 then
    some (.inr M)
  else
    if (0 ≤ l2 ∧ l2 < 36) ∧ fin (l2 + 1) then
      some (.inl ((l2 + 1), (fup M 109 (l2).toNat l1)))
    else none
theorem s_J7_fill_109_c113_b5_ok {d : Nat} {J : Nat → Nat → Nat} {M : fM} {l1 l2 l3 : Int} {r : ((Int × fM) ⊕ fM)} {Q : fO → fH → Prop} (h : s_J7_fill_109_c113_b5 M l1 l2 l3 = some r) (hC : ∀ (l2' : Int) (M' : fM), r = .inl (l2', M') → Wp (d + 0, 315, 5, 0, 0, [some (fA 109), some (fI l1), some (fI l2'), some (fI l3)], []) (113, J, M') Q) (hE : ∀ (e : fM) (o0' o1' o2' o3' : Option fV), r = .inr e → Wp (d + 0, 315, 20, 0, 0, [o0', o1', o2', o3'], []) (113, J, e) Q) : Wp (d + 0, 315, 5, 0, 0, [some (fA 109), some (fI l1), some (fI l2), some (fI l3)], []) (113, J, M) Q := by
  unfold s_J7_fill_109_c113_b5 at h
  refine Wp.run 2 (f' := (d + 0, 315, 7, 0, 0, [some (fA 109), some (fI l1), some (fI l2), some (fI l3)], [fI l3, fI l2])) (h' := (113, J, M)) rfl trivial ?_
  refine Wp.br rfl (fun (c : l3 ≤ l2) => ?_) (fun (c : ¬ (l3 ≤ l2)) => ?_)
  · replace h := fps c h
    exact hE _ _ _ _ _ (Option.some.inj h).symm
  · replace h := fng c h
    obtain ⟨⟨g0, g1⟩, h⟩ := fgd h
    refine Wp.run 6 (P := [0 ≤ l2 ∧ l2 < 36]) (f' := (d + 0, 315, 5, 0, 0, [some (fA 109), some (fI l1), some (fI (fw (l2 + 1))), some (fI l3)], [])) (h' := (113, J, (fup M 109 (l2).toNat l1))) rfl ?_ ?_
    · exact g0
    rw [fw_id g1]
    exact hC _ _ (Option.some.inj h).symm
noncomputable def s_J7_fill_109_c113_l5 (l1 l3 : Int) (s : (Int × fM)) : Option fM := fLp (fun s => s_J7_fill_109_c113_b5 s.2 l1 s.1 l3) s
theorem s_J7_fill_109_c113_l5_ok {d : Nat} {J : Nat → Nat → Nat} {M : fM} {l1 l2 l3 : Int} {r : fM} {Q : fO → fH → Prop} (h : s_J7_fill_109_c113_l5 l1 l3 (l2, M) = some r) (hE : ∀ (e : fM) (o0' o1' o2' o3' : Option fV), r = e → Wp (d + 0, 315, 20, 0, 0, [o0', o1', o2', o3'], []) (113, J, e) Q) : Wp (d + 0, 315, 5, 0, 0, [some (fA 109), some (fI l1), some (fI l2), some (fI l3)], []) (113, J, M) Q := by
  refine fLp_wp (W := fun s => Wp (d + 0, 315, 5, 0, 0, [some (fA 109), some (fI l1), some (fI s.1), some (fI l3)], []) (113, J, s.2) Q) (e := r) ?_ h
  intro s r1 h hC hX
  refine s_J7_fill_109_c113_b5_ok (d := d) h (fun a0 a1 e1 => ?_) (fun e u0 u1 u2 u3 e1 => hE e u0 u1 u2 u3 (hX _ e1).symm)
  exact hC _ e1
noncomputable def s_J7_fill_109_c113 (M : fM) (l1 : Int) : Option (Unit × fM) :=
  (s_J7_fill_109_c113_l5 l1 36 (0, M)).bind fun e5 =>
    some ((), e5)
theorem s_J7_fill_109_c113_ok {d : Nat} {J : Nat → Nat → Nat} {M : fM} {l1 : Int} {r : (Unit × fM)} {Q : fO → fH → Prop} (h : s_J7_fill_109_c113 M l1 = some r) (H : Q (oV r.1) (113, J, r.2)) : Wp (d + 0, 315, 0, 0, 0, [some (fA 109), some (fI l1), none, none], []) (113, J, M) Q := by
  unfold s_J7_fill_109_c113 at h
  refine Wp.run 5 (f' := (d + 0, 315, 5, 0, 0, [some (fA 109), some (fI l1), some (fI 0), some (fI 36)], [])) (h' := (113, J, M)) rfl trivial ?_
  obtain ⟨e5, hy, h⟩ := fbd h
  refine s_J7_fill_109_c113_l5_ok hy (fun x u0 u1 u2 u3 ex => ?_)
  cases ex
  show Wp (d + 0, 315, 20, 0, 0, [u0, u1, u2, u3], []) (113, J, e5) Q
  obtain rfl := Option.some.inj h
  exact Wp.done rfl (by decide) H
noncomputable def s_X2_clear_99_c113_j57 (M : fM) : Option (Unit × fM) :=
  some ((), (fup (fup (fup M 99 15 0) 99 16 0) 99 17 0))
theorem s_X2_clear_99_c113_j57_ok {d : Nat} {J : Nat → Nat → Nat} {M : fM} {r : (Unit × fM)} {Q : fO → fH → Prop} (h : s_X2_clear_99_c113_j57 M = some r) (H : Q (oV r.1) (113, (fupN (fclN (fupN (fclN (fupN (fclN (fupN (fclN (fupN (fclN (fupN (fclN (fupN (fclN (fupN (fclN (fupN (fclN (fupN (fclN (fupN (fclN (fupN (fclN (fupN (fclN J 100) 99 0 101) 101) 99 1 102) 102) 99 2 103) 103) 99 3 104) 104) 99 4 105) 105) 99 5 106) 106) 99 6 107) 107) 99 7 108) 108) 99 8 109) 109) 99 9 110) 110) 99 10 111) 111) 99 11 112) 112) 99 12 113), r.2)) : Wp (d + 1, 25, 57, 0, 0, [some (fA 99)], []) (113, (fupN (fclN (fupN (fclN (fupN (fclN (fupN (fclN (fupN (fclN (fupN (fclN (fupN (fclN (fupN (fclN (fupN (fclN (fupN (fclN (fupN (fclN (fupN (fclN (fupN (fclN J 100) 99 0 101) 101) 99 1 102) 102) 99 2 103) 103) 99 3 104) 104) 99 4 105) 105) 99 5 106) 106) 99 6 107) 107) 99 7 108) 108) 99 8 109) 109) 99 9 110) 110) 99 10 111) 111) 99 11 112) 112) 99 12 113), M) Q := by
  unfold s_X2_clear_99_c113_j57 at h
  refine Wp.run 9 (f' := (d + 1, 25, 72, 0, 0, [_], [])) (h' := (113, (fupN (fclN (fupN (fclN (fupN (fclN (fupN (fclN (fupN (fclN (fupN (fclN (fupN (fclN (fupN (fclN (fupN (fclN (fupN (fclN (fupN (fclN (fupN (fclN (fupN (fclN J 100) 99 0 101) 101) 99 1 102) 102) 99 2 103) 103) 99 3 104) 104) 99 4 105) 105) 99 5 106) 106) 99 6 107) 107) 99 7 108) 108) 99 8 109) 109) 99 9 110) 110) 99 10 111) 111) 99 11 112) 112) 99 12 113), (fup (fup (fup M 99 15 0) 99 16 0) 99 17 0))) rfl trivial ?_
  obtain rfl := Option.some.inj h
  exact Wp.done rfl (by decide) H
noncomputable def s_X2_clear_99_c113 (M : fM) : Option (Unit × fM) :=
  (s_J7_fill_100_c113 M 0).bind fun y5 =>
    (s_J7_fill_101_c113 y5.2 20).bind fun y14 =>
      (s_J7_fill_102_c113 y14.2 0).bind fun y22 =>
        (s_J7_fill_109_c113 y22.2 0).bind fun y30 =>
          s_X2_clear_99_c113_j57 (fup (fup (fcpy y30.2 1001 0 103 0 6) 99 13 0) 99 14 0)
theorem s_X2_clear_99_c113_ok {d : Nat} {J : Nat → Nat → Nat} {M : fM} {r : (Unit × fM)} {Q : fO → fH → Prop} (h : s_X2_clear_99_c113 M = some r) (H : Q (oV r.1) (113, (fupN (fclN (fupN (fclN (fupN (fclN (fupN (fclN (fupN (fclN (fupN (fclN (fupN (fclN (fupN (fclN (fupN (fclN (fupN (fclN (fupN (fclN (fupN (fclN (fupN (fclN J 100) 99 0 101) 101) 99 1 102) 102) 99 2 103) 103) 99 3 104) 104) 99 4 105) 105) 99 5 106) 106) 99 6 107) 107) 99 7 108) 108) 99 8 109) 109) 99 9 110) 110) 99 10 111) 111) 99 11 112) 112) 99 12 113), r.2)) : Wp (d + 1, 25, 0, 0, 0, [some (fA 99)], []) (113, (fupN (fclN (fupN (fclN (fupN (fclN (fupN (fclN (fupN (fclN (fupN (fclN (fupN (fclN (fupN (fclN (fupN (fclN (fupN (fclN (fupN (fclN (fupN (fclN (fupN (fclN J 100) 99 0 101) 101) 99 1 102) 102) 99 2 103) 103) 99 3 104) 104) 99 4 105) 105) 99 5 106) 106) 99 6 107) 107) 99 7 108) 108) 99 8 109) 109) 99 9 110) 110) 99 10 111) 111) 99 11 112) 112) 99 12 113), M) Q := by
  unfold s_X2_clear_99_c113 at h
  refine Wp.run 3 (f' := (d + 1, 25, 5, 0, 0, [some (fA 99)], [fI 0, fA 100])) (h' := (113, (fupN (fclN (fupN (fclN (fupN (fclN (fupN (fclN (fupN (fclN (fupN (fclN (fupN (fclN (fupN (fclN (fupN (fclN (fupN (fclN (fupN (fclN (fupN (fclN (fupN (fclN J 100) 99 0 101) 101) 99 1 102) 102) 99 2 103) 103) 99 3 104) 104) 99 4 105) 105) 99 5 106) 106) 99 6 107) 107) 99 7 108) 108) 99 8 109) 109) 99 9 110) 110) 99 10 111) 111) 99 11 112) 112) 99 12 113), M)) rfl trivial ?_
  obtain ⟨y5, hy, h⟩ := fbd h
  refine Wp.call rfl (by decide) (s_J7_fill_100_c113_ok (d := d + 0) hy ?_)
  show Wp (d + 1, 25, 8, 0, 0, [some (fA 99)], []) (113, (fupN (fclN (fupN (fclN (fupN (fclN (fupN (fclN (fupN (fclN (fupN (fclN (fupN (fclN (fupN (fclN (fupN (fclN (fupN (fclN (fupN (fclN (fupN (fclN (fupN (fclN J 100) 99 0 101) 101) 99 1 102) 102) 99 2 103) 103) 99 3 104) 104) 99 4 105) 105) 99 5 106) 106) 99 6 107) 107) 99 7 108) 108) 99 8 109) 109) 99 9 110) 110) 99 10 111) 111) 99 11 112) 112) 99 12 113), y5.2) Q
  refine Wp.run 3 (f' := (d + 1, 25, 14, 0, 0, [some (fA 99)], [fI 20, fA 101])) (h' := (113, (fupN (fclN (fupN (fclN (fupN (fclN (fupN (fclN (fupN (fclN (fupN (fclN (fupN (fclN (fupN (fclN (fupN (fclN (fupN (fclN (fupN (fclN (fupN (fclN (fupN (fclN J 100) 99 0 101) 101) 99 1 102) 102) 99 2 103) 103) 99 3 104) 104) 99 4 105) 105) 99 5 106) 106) 99 6 107) 107) 99 7 108) 108) 99 8 109) 109) 99 9 110) 110) 99 10 111) 111) 99 11 112) 112) 99 12 113), y5.2)) rfl trivial ?_
  obtain ⟨y14, hy, h⟩ := fbd h
  refine Wp.call rfl (by decide) (s_J7_fill_101_c113_ok (d := d + 0) hy ?_)
  show Wp (d + 1, 25, 17, 0, 0, [some (fA 99)], []) (113, (fupN (fclN (fupN (fclN (fupN (fclN (fupN (fclN (fupN (fclN (fupN (fclN (fupN (fclN (fupN (fclN (fupN (fclN (fupN (fclN (fupN (fclN (fupN (fclN (fupN (fclN J 100) 99 0 101) 101) 99 1 102) 102) 99 2 103) 103) 99 3 104) 104) 99 4 105) 105) 99 5 106) 106) 99 6 107) 107) 99 7 108) 108) 99 8 109) 109) 99 9 110) 110) 99 10 111) 111) 99 11 112) 112) 99 12 113), y14.2) Q
  refine Wp.run 3 (f' := (d + 1, 25, 22, 0, 0, [some (fA 99)], [fI 0, fA 102])) (h' := (113, (fupN (fclN (fupN (fclN (fupN (fclN (fupN (fclN (fupN (fclN (fupN (fclN (fupN (fclN (fupN (fclN (fupN (fclN (fupN (fclN (fupN (fclN (fupN (fclN (fupN (fclN J 100) 99 0 101) 101) 99 1 102) 102) 99 2 103) 103) 99 3 104) 104) 99 4 105) 105) 99 5 106) 106) 99 6 107) 107) 99 7 108) 108) 99 8 109) 109) 99 9 110) 110) 99 10 111) 111) 99 11 112) 112) 99 12 113), y14.2)) rfl trivial ?_
  obtain ⟨y22, hy, h⟩ := fbd h
  refine Wp.call rfl (by decide) (s_J7_fill_102_c113_ok (d := d + 0) hy ?_)
  show Wp (d + 1, 25, 25, 0, 0, [some (fA 99)], []) (113, (fupN (fclN (fupN (fclN (fupN (fclN (fupN (fclN (fupN (fclN (fupN (fclN (fupN (fclN (fupN (fclN (fupN (fclN (fupN (fclN (fupN (fclN (fupN (fclN (fupN (fclN J 100) 99 0 101) 101) 99 1 102) 102) 99 2 103) 103) 99 3 104) 104) 99 4 105) 105) 99 5 106) 106) 99 6 107) 107) 99 7 108) 108) 99 8 109) 109) 99 9 110) 110) 99 10 111) 111) 99 11 112) 112) 99 12 113), y22.2) Q
  refine Wp.run 3 (f' := (d + 1, 25, 30, 0, 0, [some (fA 99)], [fI 0, fA 109])) (h' := (113, (fupN (fclN (fupN (fclN (fupN (fclN (fupN (fclN (fupN (fclN (fupN (fclN (fupN (fclN (fupN (fclN (fupN (fclN (fupN (fclN (fupN (fclN (fupN (fclN (fupN (fclN J 100) 99 0 101) 101) 99 1 102) 102) 99 2 103) 103) 99 3 104) 104) 99 4 105) 105) 99 5 106) 106) 99 6 107) 107) 99 7 108) 108) 99 8 109) 109) 99 9 110) 110) 99 10 111) 111) 99 11 112) 112) 99 12 113), y22.2)) rfl trivial ?_
  obtain ⟨y30, hy, h⟩ := fbd h
  refine Wp.call rfl (by decide) (s_J7_fill_109_c113_ok (d := d + 0) hy ?_)
  show Wp (d + 1, 25, 33, 0, 0, [some (fA 99)], []) (113, (fupN (fclN (fupN (fclN (fupN (fclN (fupN (fclN (fupN (fclN (fupN (fclN (fupN (fclN (fupN (fclN (fupN (fclN (fupN (fclN (fupN (fclN (fupN (fclN (fupN (fclN J 100) 99 0 101) 101) 99 1 102) 102) 99 2 103) 103) 99 3 104) 104) 99 4 105) 105) 99 5 106) 106) 99 6 107) 107) 99 7 108) 108) 99 8 109) 109) 99 9 110) 110) 99 10 111) 111) 99 11 112) 112) 99 12 113), y30.2) Q
  refine Wp.run 13 (P := [1 ≤ d + 1, (0 : Int) ≤ 0 ∧ (0 : Int) ≤ 0 ∧ (0 : Int) ≤ 6 ∧ (0 : Int) + 6 ≤ 6 ∧ (0 : Int) + 6 ≤ 6 ∧ 1001 ≠ 103]) (f' := (d + 1, 25, 57, 0, 0, [some (fA 99)], [])) (h' := (113, (fupN (fclN (fupN (fclN (fupN (fclN (fupN (fclN (fupN (fclN (fupN (fclN (fupN (fclN (fupN (fclN (fupN (fclN (fupN (fclN (fupN (fclN (fupN (fclN (fupN (fclN J 100) 99 0 101) 101) 99 1 102) 102) 99 2 103) 103) 99 3 104) 104) 99 4 105) 105) 99 5 106) 106) 99 6 107) 107) 99 7 108) 108) 99 8 109) 109) 99 9 110) 110) 99 10 111) 111) 99 11 112) 112) 99 12 113), (fup (fup (fcpy y30.2 1001 0 103 0 6) 99 13 0) 99 14 0))) rfl ?_ ?_
  · exact ⟨Nat.le_add_left_of_le (by decide), ⟨by decide, by decide, by decide, by decide, by decide, by decide⟩⟩
  exact s_X2_clear_99_c113_j57_ok h H
abbrev jn_s_X2_init_99_c100_j53 (J : Nat → Nat → Nat) : Nat → Nat → Nat := (fupN (fclN (fupN (fclN (fupN (fclN (fupN (fclN (fupN (fclN (fupN (fclN J 100) 99 0 101) 101) 99 1 102) 102) 99 2 103) 103) 99 3 104) 104) 99 4 105) 105) 99 5 106)
abbrev jn_s_X2_init_99_c100_j78 (J : Nat → Nat → Nat) : Nat → Nat → Nat := (fupN (fclN (fupN (fclN (fupN (fclN (jn_s_X2_init_99_c100_j53 J) 106) 99 6 107) 107) 99 7 108) 108) 99 8 109)
abbrev jn_s_X2_init_99_c100_j102 (J : Nat → Nat → Nat) : Nat → Nat → Nat := (fupN (fclN (fupN (fclN (fupN (fclN (jn_s_X2_init_99_c100_j78 J) 109) 99 9 110) 110) 99 10 111) 111) 99 11 112)
noncomputable def s_X2_init_99_c100_j102 (M : fM) : Option (Unit × fM) :=
  (s_X2_clear_99_c113 (fclr M 112)).bind fun y111 =>
    some ((), y111.2)
theorem s_X2_init_99_c100_j102_ok {d : Nat} {J : Nat → Nat → Nat} {M : fM} {r : (Unit × fM)} {Q : fO → fH → Prop} (h : s_X2_init_99_c100_j102 M = some r) (H : Q (oV r.1) (113, (fupN (fclN (jn_s_X2_init_99_c100_j102 J) 112) 99 12 113), r.2)) : Wp (d + 2, 24, 102, 12, 662, [some (fA 99)], []) (112, (jn_s_X2_init_99_c100_j102 J), M) Q := by
  unfold s_X2_init_99_c100_j102 at h
  refine Wp.run 5 (P := [(6 : Int) = 6 ∧ 12 + 1 ≤ 13 ∧ 662 + 6 ≤ 668]) (f' := (d + 2, 24, 111, 13, 668, [_], [fA 99])) (h' := (113, (fupN (fclN (jn_s_X2_init_99_c100_j102 J) 112) 99 12 113), (fclr M 112))) rfl ?_ ?_
  · exact (by decide : (6 : Int) = 6 ∧ 12 + 1 ≤ 13 ∧ 662 + 6 ≤ 668)
  obtain ⟨y111, hy, h⟩ := fbd h
  refine Wp.call rfl (by decide) (s_X2_clear_99_c113_ok (d := d + 0) hy ?_)
  show Wp (d + 2, 24, 114, 13, 668, [_], []) (113, (fupN (fclN (jn_s_X2_init_99_c100_j102 J) 112) 99 12 113), y111.2) Q
  obtain rfl := Option.some.inj h
  exact Wp.done rfl (by decide) H
noncomputable def s_X2_init_99_c100_j78 (M : fM) : Option (Unit × fM) :=
  s_X2_init_99_c100_j102 (fclr (fclr (fclr M 109) 110) 111)
theorem s_X2_init_99_c100_j78_ok {d : Nat} {J : Nat → Nat → Nat} {M : fM} {r : (Unit × fM)} {Q : fO → fH → Prop} (h : s_X2_init_99_c100_j78 M = some r) (H : Q (oV r.1) (113, (fupN (fclN (jn_s_X2_init_99_c100_j102 J) 112) 99 12 113), r.2)) : Wp (d + 2, 24, 78, 9, 604, [some (fA 99)], []) (109, (jn_s_X2_init_99_c100_j78 J), M) Q := by
  unfold s_X2_init_99_c100_j78 at h
  refine Wp.run 12 (P := [(36 : Int) = 36 ∧ 9 + 1 ≤ 13 ∧ 604 + 36 ≤ 668, (16 : Int) = 16 ∧ 10 + 1 ≤ 13 ∧ 640 + 16 ≤ 668, (6 : Int) = 6 ∧ 11 + 1 ≤ 13 ∧ 656 + 6 ≤ 668]) (f' := (d + 2, 24, 102, 12, 662, [some (fA 99)], [])) (h' := (112, (fupN (fclN (fupN (fclN (fupN (fclN (jn_s_X2_init_99_c100_j78 J) 109) 99 9 110) 110) 99 10 111) 111) 99 11 112), (fclr (fclr (fclr M 109) 110) 111))) rfl ?_ ?_
  · exact ⟨(by decide : (36 : Int) = 36 ∧ 9 + 1 ≤ 13 ∧ 604 + 36 ≤ 668), (by decide : (16 : Int) = 16 ∧ 10 + 1 ≤ 13 ∧ 640 + 16 ≤ 668), (by decide : (6 : Int) = 6 ∧ 11 + 1 ≤ 13 ∧ 656 + 6 ≤ 668)⟩
  exact s_X2_init_99_c100_j102_ok h H
noncomputable def s_X2_init_99_c100_j53 (M : fM) : Option (Unit × fM) :=
  s_X2_init_99_c100_j78 (fclr (fclr (fclr M 106) 107) 108)
theorem s_X2_init_99_c100_j53_ok {d : Nat} {J : Nat → Nat → Nat} {M : fM} {r : (Unit × fM)} {Q : fO → fH → Prop} (h : s_X2_init_99_c100_j53 M = some r) (H : Q (oV r.1) (113, (fupN (fclN (jn_s_X2_init_99_c100_j102 J) 112) 99 12 113), r.2)) : Wp (d + 2, 24, 53, 6, 330, [some (fA 99)], []) (106, (jn_s_X2_init_99_c100_j53 J), M) Q := by
  unfold s_X2_init_99_c100_j53 at h
  refine Wp.run 12 (P := [(192 : Int) = 192 ∧ 6 + 1 ≤ 13 ∧ 330 + 192 ≤ 668, (64 : Int) = 64 ∧ 7 + 1 ≤ 13 ∧ 522 + 64 ≤ 668, (18 : Int) = 18 ∧ 8 + 1 ≤ 13 ∧ 586 + 18 ≤ 668]) (f' := (d + 2, 24, 78, 9, 604, [some (fA 99)], [])) (h' := (109, (fupN (fclN (fupN (fclN (fupN (fclN (jn_s_X2_init_99_c100_j53 J) 106) 99 6 107) 107) 99 7 108) 108) 99 8 109), (fclr (fclr (fclr M 106) 107) 108))) rfl ?_ ?_
  · exact ⟨(by decide : (192 : Int) = 192 ∧ 6 + 1 ≤ 13 ∧ 330 + 192 ≤ 668), (by decide : (64 : Int) = 64 ∧ 7 + 1 ≤ 13 ∧ 522 + 64 ≤ 668), (by decide : (18 : Int) = 18 ∧ 8 + 1 ≤ 13 ∧ 586 + 18 ≤ 668)⟩
  exact s_X2_init_99_c100_j78_ok h H
noncomputable def s_X2_init_99_c100_j28 (M : fM) : Option (Unit × fM) :=
  s_X2_init_99_c100_j53 (fclr (fclr (fclr M 103) 104) 105)
theorem s_X2_init_99_c100_j28_ok {d : Nat} {J : Nat → Nat → Nat} {M : fM} {r : (Unit × fM)} {Q : fO → fH → Prop} (h : s_X2_init_99_c100_j28 M = some r) (H : Q (oV r.1) (113, (fupN (fclN (jn_s_X2_init_99_c100_j102 J) 112) 99 12 113), r.2)) : Wp (d + 2, 24, 28, 3, 116, [some (fA 99)], []) (103, (fupN (fclN (fupN (fclN (fupN (fclN J 100) 99 0 101) 101) 99 1 102) 102) 99 2 103), M) Q := by
  unfold s_X2_init_99_c100_j28 at h
  refine Wp.run 12 (P := [(6 : Int) = 6 ∧ 3 + 1 ≤ 13 ∧ 116 + 6 ≤ 668, (48 : Int) = 48 ∧ 4 + 1 ≤ 13 ∧ 122 + 48 ≤ 668, (160 : Int) = 160 ∧ 5 + 1 ≤ 13 ∧ 170 + 160 ≤ 668]) (f' := (d + 2, 24, 53, 6, 330, [some (fA 99)], [])) (h' := (106, (fupN (fclN (fupN (fclN (fupN (fclN (fupN (fclN (fupN (fclN (fupN (fclN J 100) 99 0 101) 101) 99 1 102) 102) 99 2 103) 103) 99 3 104) 104) 99 4 105) 105) 99 5 106), (fclr (fclr (fclr M 103) 104) 105))) rfl ?_ ?_
  · exact ⟨(by decide : (6 : Int) = 6 ∧ 3 + 1 ≤ 13 ∧ 116 + 6 ≤ 668), (by decide : (48 : Int) = 48 ∧ 4 + 1 ≤ 13 ∧ 122 + 48 ≤ 668), (by decide : (160 : Int) = 160 ∧ 5 + 1 ≤ 13 ∧ 170 + 160 ≤ 668)⟩
  exact s_X2_init_99_c100_j53_ok h H
noncomputable def s_X2_init_99_c100 (M : fM) : Option (Unit × fM) :=
  s_X2_init_99_c100_j28 (fclr (fclr (fclr M 100) 101) 102)
theorem s_X2_init_99_c100_ok {d : Nat} {J : Nat → Nat → Nat} {M : fM} {r : (Unit × fM)} {Q : fO → fH → Prop} (h : s_X2_init_99_c100 M = some r) (H : Q (oV r.1) (113, (fupN (fclN (jn_s_X2_init_99_c100_j102 J) 112) 99 12 113), r.2)) : Wp (d + 2, 24, 0, 0, 0, [some (fA 99)], []) (100, J, M) Q := by
  unfold s_X2_init_99_c100 at h
  refine Wp.run 14 (P := [1 ≤ d + 2, (12 : Int) = 12 ∧ 0 + 1 ≤ 13 ∧ 0 + 12 ≤ 668, (52 : Int) = 52 ∧ 1 + 1 ≤ 13 ∧ 12 + 52 ≤ 668, (52 : Int) = 52 ∧ 2 + 1 ≤ 13 ∧ 64 + 52 ≤ 668]) (f' := (d + 2, 24, 28, 3, 116, [some (fA 99)], [])) (h' := (103, (fupN (fclN (fupN (fclN (fupN (fclN J 100) 99 0 101) 101) 99 1 102) 102) 99 2 103), (fclr (fclr (fclr M 100) 101) 102))) rfl ?_ ?_
  · exact ⟨Nat.le_add_left_of_le (by decide), (by decide : (12 : Int) = 12 ∧ 0 + 1 ≤ 13 ∧ 0 + 12 ≤ 668), (by decide : (52 : Int) = 52 ∧ 1 + 1 ≤ 13 ∧ 12 + 52 ≤ 668), (by decide : (52 : Int) = 52 ∧ 2 + 1 ≤ 13 ∧ 64 + 52 ≤ 668)⟩
  exact s_X2_init_99_c100_j28_ok h H
abbrev jo_s_X2_init_99_c100 (J : Nat → Nat → Nat) : Nat → Nat → Nat := (fupN (fclN (jn_s_X2_init_99_c100_j102 J) 112) 99 12 113)
abbrev jn_s_X6_init_113_c114_j58 (J : Nat → Nat → Nat) : Nat → Nat → Nat := (fupN (fclN (fupN (fclN (fupN (fclN (fupN (fclN (fupN (fclN (fupN (fclN J 114) 113 0 115) 115) 113 1 116) 116) 113 2 117) 117) 113 3 118) 118) 113 4 119) 119) 113 5 120)
noncomputable def s_X6_init_113_c114_j58 (M : fM) : Option (Unit × fM) :=
  some ((), (fclr (fclr M 120) 121))
theorem s_X6_init_113_c114_j58_ok {d : Nat} {J : Nat → Nat → Nat} {M : fM} {r : (Unit × fM)} {Q : fO → fH → Prop} (h : s_X6_init_113_c114_j58 M = some r) (H : Q (oV r.1) (122, (fupN (fclN (fupN (fclN (jn_s_X6_init_113_c114_j58 J) 120) 113 6 121) 121) 113 7 122), r.2)) : Wp (d + 1, 76, 58, 6, 1200, [some (fA 113)], []) (120, (jn_s_X6_init_113_c114_j58 J), M) Q := by
  unfold s_X6_init_113_c114_j58 at h
  refine Wp.run 8 (P := [(200 : Int) = 200 ∧ 6 + 1 ≤ 8 ∧ 1200 + 200 ≤ 3800, (2400 : Int) = 2400 ∧ 7 + 1 ≤ 8 ∧ 1400 + 2400 ≤ 3800]) (f' := (d + 1, 76, 76, 8, 3800, [_], [])) (h' := (122, (fupN (fclN (fupN (fclN (jn_s_X6_init_113_c114_j58 J) 120) 113 6 121) 121) 113 7 122), (fclr (fclr M 120) 121))) rfl ?_ ?_
  · exact ⟨(by decide : (200 : Int) = 200 ∧ 6 + 1 ≤ 8 ∧ 1200 + 200 ≤ 3800), (by decide : (2400 : Int) = 2400 ∧ 7 + 1 ≤ 8 ∧ 1400 + 2400 ≤ 3800)⟩
  obtain rfl := Option.some.inj h
  exact Wp.done rfl (by decide) H
noncomputable def s_X6_init_113_c114_j31 (M : fM) : Option (Unit × fM) :=
  s_X6_init_113_c114_j58 (fclr (fclr (fclr M 117) 118) 119)
theorem s_X6_init_113_c114_j31_ok {d : Nat} {J : Nat → Nat → Nat} {M : fM} {r : (Unit × fM)} {Q : fO → fH → Prop} (h : s_X6_init_113_c114_j31 M = some r) (H : Q (oV r.1) (122, (fupN (fclN (fupN (fclN (jn_s_X6_init_113_c114_j58 J) 120) 113 6 121) 121) 113 7 122), r.2)) : Wp (d + 1, 76, 31, 3, 600, [some (fA 113)], []) (117, (fupN (fclN (fupN (fclN (fupN (fclN J 114) 113 0 115) 115) 113 1 116) 116) 113 2 117), M) Q := by
  unfold s_X6_init_113_c114_j31 at h
  refine Wp.run 12 (P := [(200 : Int) = 200 ∧ 3 + 1 ≤ 8 ∧ 600 + 200 ≤ 3800, (200 : Int) = 200 ∧ 4 + 1 ≤ 8 ∧ 800 + 200 ≤ 3800, (200 : Int) = 200 ∧ 5 + 1 ≤ 8 ∧ 1000 + 200 ≤ 3800]) (f' := (d + 1, 76, 58, 6, 1200, [some (fA 113)], [])) (h' := (120, (fupN (fclN (fupN (fclN (fupN (fclN (fupN (fclN (fupN (fclN (fupN (fclN J 114) 113 0 115) 115) 113 1 116) 116) 113 2 117) 117) 113 3 118) 118) 113 4 119) 119) 113 5 120), (fclr (fclr (fclr M 117) 118) 119))) rfl ?_ ?_
  · exact ⟨(by decide : (200 : Int) = 200 ∧ 3 + 1 ≤ 8 ∧ 600 + 200 ≤ 3800), (by decide : (200 : Int) = 200 ∧ 4 + 1 ≤ 8 ∧ 800 + 200 ≤ 3800), (by decide : (200 : Int) = 200 ∧ 5 + 1 ≤ 8 ∧ 1000 + 200 ≤ 3800)⟩
  exact s_X6_init_113_c114_j58_ok h H
noncomputable def s_X6_init_113_c114 (M : fM) : Option (Unit × fM) :=
  s_X6_init_113_c114_j31 (fclr (fclr (fclr M 114) 115) 116)
theorem s_X6_init_113_c114_ok {d : Nat} {J : Nat → Nat → Nat} {M : fM} {r : (Unit × fM)} {Q : fO → fH → Prop} (h : s_X6_init_113_c114 M = some r) (H : Q (oV r.1) (122, (fupN (fclN (fupN (fclN (jn_s_X6_init_113_c114_j58 J) 120) 113 6 121) 121) 113 7 122), r.2)) : Wp (d + 1, 76, 0, 0, 0, [some (fA 113)], []) (114, J, M) Q := by
  unfold s_X6_init_113_c114 at h
  refine Wp.run 14 (P := [1 ≤ d + 1, (200 : Int) = 200 ∧ 0 + 1 ≤ 8 ∧ 0 + 200 ≤ 3800, (200 : Int) = 200 ∧ 1 + 1 ≤ 8 ∧ 200 + 200 ≤ 3800, (200 : Int) = 200 ∧ 2 + 1 ≤ 8 ∧ 400 + 200 ≤ 3800]) (f' := (d + 1, 76, 31, 3, 600, [some (fA 113)], [])) (h' := (117, (fupN (fclN (fupN (fclN (fupN (fclN J 114) 113 0 115) 115) 113 1 116) 116) 113 2 117), (fclr (fclr (fclr M 114) 115) 116))) rfl ?_ ?_
  · exact ⟨Nat.le_add_left_of_le (by decide), (by decide : (200 : Int) = 200 ∧ 0 + 1 ≤ 8 ∧ 0 + 200 ≤ 3800), (by decide : (200 : Int) = 200 ∧ 1 + 1 ≤ 8 ∧ 200 + 200 ≤ 3800), (by decide : (200 : Int) = 200 ∧ 2 + 1 ≤ 8 ∧ 400 + 200 ≤ 3800)⟩
  exact s_X6_init_113_c114_j31_ok h H
abbrev jo_s_X6_init_113_c114 (J : Nat → Nat → Nat) : Nat → Nat → Nat := (fupN (fclN (fupN (fclN (jn_s_X6_init_113_c114_j58 J) 120) 113 6 121) 121) 113 7 122)
abbrev jn_s_X11_init_c1_j212 (J : Nat → Nat → Nat) : Nat → Nat → Nat := (fupN (fclN (fupN (fclN (fupN (fclN (fupN (jo_s_X4_init_4_c71 (fclN (fupN (jo_s_X9_init_4_c68 (fclN (fupN (jo_s_X7_init_4_18_43_c55 (fclN (fupN (jo_s_X0_init_4_18_43_c54 (fclN (fupN (jo_s_X1_init_4_18_c48 (fclN (fupN (jo_s_X8_init_4_18_c44 (fclN (fupN (jo_s_X5_init_1_4_18_c43 (fclN (fupN (jo_s_X3_init_1_c28 (fclN (fupN (jo_s_X6_init_18_c19 (fclN (fupN (jo_s_X2_init_4_c5 (fclN (fupN (jo_s_X10_init_c2 (fclN J 1)) 0 0 2) 4)) 0 1 5) 18)) 0 2 19) 27)) 0 3 28) 42)) 0 4 43) 43)) 0 5 44) 47)) 0 6 48) 53)) 0 7 54) 54)) 0 8 55) 67)) 0 9 68) 70)) 0 10 71) 73) 0 11 74) 74) 0 12 75) 75) 0 13 76)
noncomputable def s_X11_init_c1_j212 (M : fM) : Option (Unit × fM) :=
  (s_X2_init_76_c77 (fclr M 76)).bind fun y228 =>
    (s_X6_init_90_c91 (fclr y228.2 90)).bind fun y241 =>
      (s_X2_init_99_c100 (fclr y241.2 99)).bind fun y228 =>
        (s_X6_init_113_c114 (fclr y228.2 113)).bind fun y241 =>
          some ((), (fup y241.2 0 14 0))
set_option maxRecDepth 100000 in
theorem s_X11_init_c1_j212_ok {d : Nat} {J : Nat → Nat → Nat} {M : fM} {o1 : Option fV} {r : (Unit × fM)} {Q : fO → fH → Prop} (h : s_X11_init_c1_j212 M = some r) (H : Q (oV r.1) (122, (fupN (jo_s_X6_init_113_c114 (fclN (fupN (jo_s_X2_init_99_c100 (fclN (fupN (jo_s_X6_init_90_c91 (fclN (fupN (jo_s_X2_init_76_c77 (fclN (jn_s_X11_init_c1_j212 J) 76)) 73 0 77) 90)) 74 0 91) 99)) 73 1 100) 113)) 74 1 114), r.2)) : Wp (d + 5, 150, 212, 75, 17287, [some (fA 0), o1], []) (76, (jn_s_X11_init_c1_j212 J), M) Q := by
  unfold s_X11_init_c1_j212 at h
  refine Wp.run 4 (f' := (d + 5, 150, 216, 75, 17287, [some (fA 0), some (fI 0)], [fI 2, fI 0])) (h' := (76, (jn_s_X11_init_c1_j212 J), M)) rfl trivial ?_
  refine Wp.br rfl (fun (c : ((2 : Int) ≤ 0 : Prop)) => ?_) (fun (c : ¬ ((2 : Int) ≤ 0 : Prop)) => ?_)
  · exact absurd c (by decide)
  · refine Wp.run 5 (P := [75 + 1 ≤ 121 ∧ 17287 + 18 ≤ 26277]) (f' := (d + 5, 150, 228, 76, 17305, [some (fA 0), some (fI 0)], [fA 76, fA 76, fI 0, fA 73])) (h' := (77, (fclN (jn_s_X11_init_c1_j212 J) 76), (fclr M 76))) rfl ?_ ?_
    · exact (by decide : 75 + 1 ≤ 121 ∧ 17287 + 18 ≤ 26277)
    obtain ⟨y228, hy, h⟩ := fbd h
    refine Wp.call rfl (by decide) (s_X2_init_76_c77_ok (d := d + 2) hy ?_)
    show Wp (d + 5, 150, 231, 89, 17973, [some (fA 0), some (fI 0)], [fA 76, fI 0, fA 73]) (90, (jo_s_X2_init_76_c77 (fclN (jn_s_X11_init_c1_j212 J) 76)), y228.2) Q
    refine Wp.run 6 (P := [(0 : Int) ≤ 0 ∧ (0 : Int) < 2, 89 + 1 ≤ 121 ∧ 17973 + 9 ≤ 26277]) (f' := (d + 5, 150, 241, 90, 17982, [some (fA 0), some (fI 0)], [fA 90, fA 90, fI 0, fA 74])) (h' := (91, (fclN (fupN (jo_s_X2_init_76_c77 (fclN (jn_s_X11_init_c1_j212 J) 76)) 73 0 77) 90), (fclr y228.2 90))) rfl ?_ ?_
    · exact ⟨(by decide : (0 : Int) ≤ 0 ∧ (0 : Int) < 2), (by decide : 89 + 1 ≤ 121 ∧ 17973 + 9 ≤ 26277)⟩
    obtain ⟨y241, hy, h⟩ := fbd h
    refine Wp.call rfl (by decide) (s_X6_init_90_c91_ok (d := d + 3) hy ?_)
    show Wp (d + 5, 150, 244, 98, 21782, [some (fA 0), some (fI 0)], [fA 90, fI 0, fA 74]) (99, (jo_s_X6_init_90_c91 (fclN (fupN (jo_s_X2_init_76_c77 (fclN (jn_s_X11_init_c1_j212 J) 76)) 73 0 77) 90)), y241.2) Q
    refine Wp.run 5 (P := [(0 : Int) ≤ 0 ∧ (0 : Int) < 2]) (f' := (d + 5, 150, 216, 98, 21782, [some (fA 0), some (fI 1)], [fI 2, fI 1])) (h' := (99, (fupN (jo_s_X6_init_90_c91 (fclN (fupN (jo_s_X2_init_76_c77 (fclN (jn_s_X11_init_c1_j212 J) 76)) 73 0 77) 90)) 74 0 91), y241.2)) rfl ?_ ?_
    · exact (by decide : (0 : Int) ≤ 0 ∧ (0 : Int) < 2)
    refine Wp.br rfl (fun (c : ((2 : Int) ≤ 1 : Prop)) => ?_) (fun (c : ¬ ((2 : Int) ≤ 1 : Prop)) => ?_)
    · exact absurd c (by decide)
    · refine Wp.run 5 (P := [98 + 1 ≤ 121 ∧ 21782 + 18 ≤ 26277]) (f' := (d + 5, 150, 228, 99, 21800, [some (fA 0), some (fI 1)], [fA 99, fA 99, fI 1, fA 73])) (h' := (100, (fclN (fupN (jo_s_X6_init_90_c91 (fclN (fupN (jo_s_X2_init_76_c77 (fclN (jn_s_X11_init_c1_j212 J) 76)) 73 0 77) 90)) 74 0 91) 99), (fclr y241.2 99))) rfl ?_ ?_
      · exact (by decide : 98 + 1 ≤ 121 ∧ 21782 + 18 ≤ 26277)
      obtain ⟨y228, hy, h⟩ := fbd h
      refine Wp.call rfl (by decide) (s_X2_init_99_c100_ok (d := d + 2) hy ?_)
      show Wp (d + 5, 150, 231, 112, 22468, [some (fA 0), some (fI 1)], [fA 99, fI 1, fA 73]) (113, (jo_s_X2_init_99_c100 (fclN (fupN (jo_s_X6_init_90_c91 (fclN (fupN (jo_s_X2_init_76_c77 (fclN (jn_s_X11_init_c1_j212 J) 76)) 73 0 77) 90)) 74 0 91) 99)), y228.2) Q
      refine Wp.run 6 (P := [(0 : Int) ≤ 1 ∧ (1 : Int) < 2, 112 + 1 ≤ 121 ∧ 22468 + 9 ≤ 26277]) (f' := (d + 5, 150, 241, 113, 22477, [some (fA 0), some (fI 1)], [fA 113, fA 113, fI 1, fA 74])) (h' := (114, (fclN (fupN (jo_s_X2_init_99_c100 (fclN (fupN (jo_s_X6_init_90_c91 (fclN (fupN (jo_s_X2_init_76_c77 (fclN (jn_s_X11_init_c1_j212 J) 76)) 73 0 77) 90)) 74 0 91) 99)) 73 1 100) 113), (fclr y228.2 113))) rfl ?_ ?_
      · exact ⟨(by decide : (0 : Int) ≤ 1 ∧ (1 : Int) < 2), (by decide : 112 + 1 ≤ 121 ∧ 22468 + 9 ≤ 26277)⟩
      obtain ⟨y241, hy, h⟩ := fbd h
      refine Wp.call rfl (by decide) (s_X6_init_113_c114_ok (d := d + 3) hy ?_)
      show Wp (d + 5, 150, 244, 121, 26277, [some (fA 0), some (fI 1)], [fA 113, fI 1, fA 74]) (122, (jo_s_X6_init_113_c114 (fclN (fupN (jo_s_X2_init_99_c100 (fclN (fupN (jo_s_X6_init_90_c91 (fclN (fupN (jo_s_X2_init_76_c77 (fclN (jn_s_X11_init_c1_j212 J) 76)) 73 0 77) 90)) 74 0 91) 99)) 73 1 100) 113)), y241.2) Q
      refine Wp.run 5 (P := [(0 : Int) ≤ 1 ∧ (1 : Int) < 2]) (f' := (d + 5, 150, 216, 121, 26277, [some (fA 0), some (fI 2)], [fI 2, fI 2])) (h' := (122, (fupN (jo_s_X6_init_113_c114 (fclN (fupN (jo_s_X2_init_99_c100 (fclN (fupN (jo_s_X6_init_90_c91 (fclN (fupN (jo_s_X2_init_76_c77 (fclN (jn_s_X11_init_c1_j212 J) 76)) 73 0 77) 90)) 74 0 91) 99)) 73 1 100) 113)) 74 1 114), y241.2)) rfl ?_ ?_
      · exact (by decide : (0 : Int) ≤ 1 ∧ (1 : Int) < 2)
      refine Wp.br rfl (fun (c : ((2 : Int) ≤ 2 : Prop)) => ?_) (fun (c : ¬ ((2 : Int) ≤ 2 : Prop)) => ?_)
      · refine Wp.run 3 (f' := (d + 5, 150, 256, 121, 26277, [_, _], [])) (h' := (122, (fupN (jo_s_X6_init_113_c114 (fclN (fupN (jo_s_X2_init_99_c100 (fclN (fupN (jo_s_X6_init_90_c91 (fclN (fupN (jo_s_X2_init_76_c77 (fclN (jn_s_X11_init_c1_j212 J) 76)) 73 0 77) 90)) 74 0 91) 99)) 73 1 100) 113)) 74 1 114), (fup y241.2 0 14 0))) rfl trivial ?_
        obtain rfl := Option.some.inj h
        exact Wp.done rfl (by decide) H
      · exact absurd (by decide) c
noncomputable def s_X11_init_c1 (M : fM) : Option (Unit × fM) :=
  (s_X10_init_c2 (fclr M 1)).bind fun y9 =>
    (s_X2_init_4_c5 (fclr y9.2 4)).bind fun y20 =>
      (s_X6_init_18_c19 (fclr y20.2 18)).bind fun y31 =>
        (s_X3_init_1_c28 (fclr y31.2 27)).bind fun y46 =>
          (s_X5_init_1_4_18_c43 (fclr y46.2 42)).bind fun y69 =>
            (s_X8_init_4_18_c44 (fclr y69.2 43)).bind fun y88 =>
              (s_X1_init_4_18_c48 (fclr y88.2 47)).bind fun y107 =>
                (s_X0_init_4_18_43_c54 (fclr y107.2 53)).bind fun y130 =>
                  (s_X7_init_4_18_43_c55 (fclr y130.2 54)).bind fun y153 =>
                    (s_X9_init_4_c68 (fclr y153.2 67)).bind fun y168 =>
                      (s_X4_init_4_c71 (fclr y168.2 70)).bind fun y183 =>
                        s_X11_init_c1_j212 (fclr (fclr (fclr y183.2 73) 74) 75)
set_option maxRecDepth 100000 in
theorem s_X11_init_c1_ok {d : Nat} {J : Nat → Nat → Nat} {M : fM} {r : (Unit × fM)} {Q : fO → fH → Prop} (h : s_X11_init_c1 M = some r) (H : Q (oV r.1) (122, (fupN (jo_s_X6_init_113_c114 (fclN (fupN (jo_s_X2_init_99_c100 (fclN (fupN (jo_s_X6_init_90_c91 (fclN (fupN (jo_s_X2_init_76_c77 (fclN (jn_s_X11_init_c1_j212 J) 76)) 73 0 77) 90)) 74 0 91) 99)) 73 1 100) 113)) 74 1 114), r.2)) : Wp (d + 5, 150, 0, 0, 0, [some (fA 0), none], []) (1, J, M) Q := by
  unfold s_X11_init_c1 at h
  refine Wp.run 5 (P := [1 ≤ d + 5, 0 + 1 ≤ 121 ∧ 0 + 11 ≤ 26277]) (f' := (d + 5, 150, 9, 1, 11, [some (fA 0), _], [fA 1, fA 1, fA 0])) (h' := (2, (fclN J 1), (fclr M 1))) rfl ?_ ?_
  · exact ⟨Nat.le_add_left_of_le (by decide), (by decide : 0 + 1 ≤ 121 ∧ 0 + 11 ≤ 26277)⟩
  obtain ⟨y9, hy, h⟩ := fbd h
  refine Wp.call rfl (by decide) (s_X10_init_c2_ok (d := d + 0) hy ?_)
  show Wp (d + 5, 150, 12, 3, 1281, [some (fA 0), _], [fA 1, fA 0]) (4, (jo_s_X10_init_c2 (fclN J 1)), y9.2) Q
  refine Wp.run 4 (P := [3 + 1 ≤ 121 ∧ 1281 + 18 ≤ 26277]) (f' := (d + 5, 150, 20, 4, 1299, [some (fA 0), _], [fA 4, fA 4, fA 0])) (h' := (5, (fclN (fupN (jo_s_X10_init_c2 (fclN J 1)) 0 0 2) 4), (fclr y9.2 4))) rfl ?_ ?_
  · exact (by decide : 3 + 1 ≤ 121 ∧ 1281 + 18 ≤ 26277)
  obtain ⟨y20, hy, h⟩ := fbd h
  refine Wp.call rfl (by decide) (s_X2_init_4_c5_ok (d := d + 2) hy ?_)
  show Wp (d + 5, 150, 23, 17, 1967, [some (fA 0), _], [fA 4, fA 0]) (18, (jo_s_X2_init_4_c5 (fclN (fupN (jo_s_X10_init_c2 (fclN J 1)) 0 0 2) 4)), y20.2) Q
  refine Wp.run 4 (P := [17 + 1 ≤ 121 ∧ 1967 + 9 ≤ 26277]) (f' := (d + 5, 150, 31, 18, 1976, [some (fA 0), _], [fA 18, fA 18, fA 0])) (h' := (19, (fclN (fupN (jo_s_X2_init_4_c5 (fclN (fupN (jo_s_X10_init_c2 (fclN J 1)) 0 0 2) 4)) 0 1 5) 18), (fclr y20.2 18))) rfl ?_ ?_
  · exact (by decide : 17 + 1 ≤ 121 ∧ 1967 + 9 ≤ 26277)
  obtain ⟨y31, hy, h⟩ := fbd h
  refine Wp.call rfl (by decide) (s_X6_init_18_c19_ok (d := d + 3) hy ?_)
  show Wp (d + 5, 150, 34, 26, 5776, [some (fA 0), _], [fA 18, fA 0]) (27, (jo_s_X6_init_18_c19 (fclN (fupN (jo_s_X2_init_4_c5 (fclN (fupN (jo_s_X10_init_c2 (fclN J 1)) 0 0 2) 4)) 0 1 5) 18)), y31.2) Q
  refine Wp.run 6 (P := [26 + 1 ≤ 121 ∧ 5776 + 3 ≤ 26277]) (f' := (d + 5, 150, 46, 27, 5779, [some (fA 0), _], [fA 1, fA 27, fA 27, fA 0])) (h' := (28, (fclN (fupN (jo_s_X6_init_18_c19 (fclN (fupN (jo_s_X2_init_4_c5 (fclN (fupN (jo_s_X10_init_c2 (fclN J 1)) 0 0 2) 4)) 0 1 5) 18)) 0 2 19) 27), (fclr y31.2 27))) rfl ?_ ?_
  · exact (by decide : 26 + 1 ≤ 121 ∧ 5776 + 3 ≤ 26277)
  obtain ⟨y46, hy, h⟩ := fbd h
  refine Wp.call rfl (by decide) (s_X3_init_1_c28_ok (d := d + 1) hy ?_)
  show Wp (d + 5, 150, 49, 41, 6465, [some (fA 0), _], [fA 27, fA 0]) (42, (jo_s_X3_init_1_c28 (fclN (fupN (jo_s_X6_init_18_c19 (fclN (fupN (jo_s_X2_init_4_c5 (fclN (fupN (jo_s_X10_init_c2 (fclN J 1)) 0 0 2) 4)) 0 1 5) 18)) 0 2 19) 27)), y46.2) Q
  refine Wp.run 10 (P := [41 + 1 ≤ 121 ∧ 6465 + 3 ≤ 26277]) (f' := (d + 5, 150, 69, 42, 6468, [some (fA 0), _], [fA 18, fA 4, fA 1, fA 42, fA 42, fA 0])) (h' := (43, (fclN (fupN (jo_s_X3_init_1_c28 (fclN (fupN (jo_s_X6_init_18_c19 (fclN (fupN (jo_s_X2_init_4_c5 (fclN (fupN (jo_s_X10_init_c2 (fclN J 1)) 0 0 2) 4)) 0 1 5) 18)) 0 2 19) 27)) 0 3 28) 42), (fclr y46.2 42))) rfl ?_ ?_
  · exact (by decide : 41 + 1 ≤ 121 ∧ 6465 + 3 ≤ 26277)
  obtain ⟨y69, hy, h⟩ := fbd h
  refine Wp.call rfl (by decide) (s_X5_init_1_4_18_c43_ok (d := d + 3) hy ?_)
  show Wp (d + 5, 150, 72, 42, 6468, [some (fA 0), _], [fA 42, fA 0]) (43, (jo_s_X5_init_1_4_18_c43 (fclN (fupN (jo_s_X3_init_1_c28 (fclN (fupN (jo_s_X6_init_18_c19 (fclN (fupN (jo_s_X2_init_4_c5 (fclN (fupN (jo_s_X10_init_c2 (fclN J 1)) 0 0 2) 4)) 0 1 5) 18)) 0 2 19) 27)) 0 3 28) 42)), y69.2) Q
  refine Wp.run 8 (P := [42 + 1 ≤ 121 ∧ 6468 + 7 ≤ 26277]) (f' := (d + 5, 150, 88, 43, 6475, [some (fA 0), _], [fA 18, fA 4, fA 43, fA 43, fA 0])) (h' := (44, (fclN (fupN (jo_s_X5_init_1_4_18_c43 (fclN (fupN (jo_s_X3_init_1_c28 (fclN (fupN (jo_s_X6_init_18_c19 (fclN (fupN (jo_s_X2_init_4_c5 (fclN (fupN (jo_s_X10_init_c2 (fclN J 1)) 0 0 2) 4)) 0 1 5) 18)) 0 2 19) 27)) 0 3 28) 42)) 0 4 43) 43), (fclr y69.2 43))) rfl ?_ ?_
  · exact (by decide : 42 + 1 ≤ 121 ∧ 6468 + 7 ≤ 26277)
  obtain ⟨y88, hy, h⟩ := fbd h
  refine Wp.call rfl (by decide) (s_X8_init_4_18_c44_ok (d := d + 3) hy ?_)
  show Wp (d + 5, 150, 91, 46, 7215, [some (fA 0), _], [fA 43, fA 0]) (47, (jo_s_X8_init_4_18_c44 (fclN (fupN (jo_s_X5_init_1_4_18_c43 (fclN (fupN (jo_s_X3_init_1_c28 (fclN (fupN (jo_s_X6_init_18_c19 (fclN (fupN (jo_s_X2_init_4_c5 (fclN (fupN (jo_s_X10_init_c2 (fclN J 1)) 0 0 2) 4)) 0 1 5) 18)) 0 2 19) 27)) 0 3 28) 42)) 0 4 43) 43)), y88.2) Q
  refine Wp.run 8 (P := [46 + 1 ≤ 121 ∧ 7215 + 11 ≤ 26277]) (f' := (d + 5, 150, 107, 47, 7226, [some (fA 0), _], [fA 18, fA 4, fA 47, fA 47, fA 0])) (h' := (48, (fclN (fupN (jo_s_X8_init_4_18_c44 (fclN (fupN (jo_s_X5_init_1_4_18_c43 (fclN (fupN (jo_s_X3_init_1_c28 (fclN (fupN (jo_s_X6_init_18_c19 (fclN (fupN (jo_s_X2_init_4_c5 (fclN (fupN (jo_s_X10_init_c2 (fclN J 1)) 0 0 2) 4)) 0 1 5) 18)) 0 2 19) 27)) 0 3 28) 42)) 0 4 43) 43)) 0 5 44) 47), (fclr y88.2 47))) rfl ?_ ?_
  · exact (by decide : 46 + 1 ≤ 121 ∧ 7215 + 11 ≤ 26277)
  obtain ⟨y107, hy, h⟩ := fbd h
  refine Wp.call rfl (by decide) (s_X1_init_4_18_c48_ok (d := d + 3) hy ?_)
  show Wp (d + 5, 150, 110, 52, 7470, [some (fA 0), _], [fA 47, fA 0]) (53, (jo_s_X1_init_4_18_c48 (fclN (fupN (jo_s_X8_init_4_18_c44 (fclN (fupN (jo_s_X5_init_1_4_18_c43 (fclN (fupN (jo_s_X3_init_1_c28 (fclN (fupN (jo_s_X6_init_18_c19 (fclN (fupN (jo_s_X2_init_4_c5 (fclN (fupN (jo_s_X10_init_c2 (fclN J 1)) 0 0 2) 4)) 0 1 5) 18)) 0 2 19) 27)) 0 3 28) 42)) 0 4 43) 43)) 0 5 44) 47)), y107.2) Q
  refine Wp.run 10 (P := [52 + 1 ≤ 121 ∧ 7470 + 3 ≤ 26277]) (f' := (d + 5, 150, 130, 53, 7473, [some (fA 0), _], [fA 43, fA 18, fA 4, fA 53, fA 53, fA 0])) (h' := (54, (fclN (fupN (jo_s_X1_init_4_18_c48 (fclN (fupN (jo_s_X8_init_4_18_c44 (fclN (fupN (jo_s_X5_init_1_4_18_c43 (fclN (fupN (jo_s_X3_init_1_c28 (fclN (fupN (jo_s_X6_init_18_c19 (fclN (fupN (jo_s_X2_init_4_c5 (fclN (fupN (jo_s_X10_init_c2 (fclN J 1)) 0 0 2) 4)) 0 1 5) 18)) 0 2 19) 27)) 0 3 28) 42)) 0 4 43) 43)) 0 5 44) 47)) 0 6 48) 53), (fclr y107.2 53))) rfl ?_ ?_
  · exact (by decide : 52 + 1 ≤ 121 ∧ 7470 + 3 ≤ 26277)
  obtain ⟨y130, hy, h⟩ := fbd h
  refine Wp.call rfl (by decide) (s_X0_init_4_18_43_c54_ok (d := d + 3) hy ?_)
  show Wp (d + 5, 150, 133, 53, 7473, [some (fA 0), _], [fA 53, fA 0]) (54, (jo_s_X0_init_4_18_43_c54 (fclN (fupN (jo_s_X1_init_4_18_c48 (fclN (fupN (jo_s_X8_init_4_18_c44 (fclN (fupN (jo_s_X5_init_1_4_18_c43 (fclN (fupN (jo_s_X3_init_1_c28 (fclN (fupN (jo_s_X6_init_18_c19 (fclN (fupN (jo_s_X2_init_4_c5 (fclN (fupN (jo_s_X10_init_c2 (fclN J 1)) 0 0 2) 4)) 0 1 5) 18)) 0 2 19) 27)) 0 3 28) 42)) 0 4 43) 43)) 0 5 44) 47)) 0 6 48) 53)), y130.2) Q
  refine Wp.run 10 (P := [53 + 1 ≤ 121 ∧ 7473 + 19 ≤ 26277]) (f' := (d + 5, 150, 153, 54, 7492, [some (fA 0), _], [fA 43, fA 18, fA 4, fA 54, fA 54, fA 0])) (h' := (55, (fclN (fupN (jo_s_X0_init_4_18_43_c54 (fclN (fupN (jo_s_X1_init_4_18_c48 (fclN (fupN (jo_s_X8_init_4_18_c44 (fclN (fupN (jo_s_X5_init_1_4_18_c43 (fclN (fupN (jo_s_X3_init_1_c28 (fclN (fupN (jo_s_X6_init_18_c19 (fclN (fupN (jo_s_X2_init_4_c5 (fclN (fupN (jo_s_X10_init_c2 (fclN J 1)) 0 0 2) 4)) 0 1 5) 18)) 0 2 19) 27)) 0 3 28) 42)) 0 4 43) 43)) 0 5 44) 47)) 0 6 48) 53)) 0 7 54) 54), (fclr y130.2 54))) rfl ?_ ?_
  · exact (by decide : 53 + 1 ≤ 121 ∧ 7473 + 19 ≤ 26277)
  obtain ⟨y153, hy, h⟩ := fbd h
  refine Wp.call rfl (by decide) (s_X7_init_4_18_43_c55_ok (d := d + 3) hy ?_)
  show Wp (d + 5, 150, 156, 66, 16773, [some (fA 0), _], [fA 54, fA 0]) (67, (jo_s_X7_init_4_18_43_c55 (fclN (fupN (jo_s_X0_init_4_18_43_c54 (fclN (fupN (jo_s_X1_init_4_18_c48 (fclN (fupN (jo_s_X8_init_4_18_c44 (fclN (fupN (jo_s_X5_init_1_4_18_c43 (fclN (fupN (jo_s_X3_init_1_c28 (fclN (fupN (jo_s_X6_init_18_c19 (fclN (fupN (jo_s_X2_init_4_c5 (fclN (fupN (jo_s_X10_init_c2 (fclN J 1)) 0 0 2) 4)) 0 1 5) 18)) 0 2 19) 27)) 0 3 28) 42)) 0 4 43) 43)) 0 5 44) 47)) 0 6 48) 53)) 0 7 54) 54)), y153.2) Q
  refine Wp.run 6 (P := [66 + 1 ≤ 121 ∧ 16773 + 6 ≤ 26277]) (f' := (d + 5, 150, 168, 67, 16779, [some (fA 0), _], [fA 4, fA 67, fA 67, fA 0])) (h' := (68, (fclN (fupN (jo_s_X7_init_4_18_43_c55 (fclN (fupN (jo_s_X0_init_4_18_43_c54 (fclN (fupN (jo_s_X1_init_4_18_c48 (fclN (fupN (jo_s_X8_init_4_18_c44 (fclN (fupN (jo_s_X5_init_1_4_18_c43 (fclN (fupN (jo_s_X3_init_1_c28 (fclN (fupN (jo_s_X6_init_18_c19 (fclN (fupN (jo_s_X2_init_4_c5 (fclN (fupN (jo_s_X10_init_c2 (fclN J 1)) 0 0 2) 4)) 0 1 5) 18)) 0 2 19) 27)) 0 3 28) 42)) 0 4 43) 43)) 0 5 44) 47)) 0 6 48) 53)) 0 7 54) 54)) 0 8 55) 67), (fclr y153.2 67))) rfl ?_ ?_
  · exact (by decide : 66 + 1 ≤ 121 ∧ 16773 + 6 ≤ 26277)
  obtain ⟨y168, hy, h⟩ := fbd h
  refine Wp.call rfl (by decide) (s_X9_init_4_c68_ok (d := d + 3) hy ?_)
  show Wp (d + 5, 150, 171, 69, 16823, [some (fA 0), _], [fA 67, fA 0]) (70, (jo_s_X9_init_4_c68 (fclN (fupN (jo_s_X7_init_4_18_43_c55 (fclN (fupN (jo_s_X0_init_4_18_43_c54 (fclN (fupN (jo_s_X1_init_4_18_c48 (fclN (fupN (jo_s_X8_init_4_18_c44 (fclN (fupN (jo_s_X5_init_1_4_18_c43 (fclN (fupN (jo_s_X3_init_1_c28 (fclN (fupN (jo_s_X6_init_18_c19 (fclN (fupN (jo_s_X2_init_4_c5 (fclN (fupN (jo_s_X10_init_c2 (fclN J 1)) 0 0 2) 4)) 0 1 5) 18)) 0 2 19) 27)) 0 3 28) 42)) 0 4 43) 43)) 0 5 44) 47)) 0 6 48) 53)) 0 7 54) 54)) 0 8 55) 67)), y168.2) Q
  refine Wp.run 6 (P := [69 + 1 ≤ 121 ∧ 16823 + 4 ≤ 26277]) (f' := (d + 5, 150, 183, 70, 16827, [some (fA 0), _], [fA 4, fA 70, fA 70, fA 0])) (h' := (71, (fclN (fupN (jo_s_X9_init_4_c68 (fclN (fupN (jo_s_X7_init_4_18_43_c55 (fclN (fupN (jo_s_X0_init_4_18_43_c54 (fclN (fupN (jo_s_X1_init_4_18_c48 (fclN (fupN (jo_s_X8_init_4_18_c44 (fclN (fupN (jo_s_X5_init_1_4_18_c43 (fclN (fupN (jo_s_X3_init_1_c28 (fclN (fupN (jo_s_X6_init_18_c19 (fclN (fupN (jo_s_X2_init_4_c5 (fclN (fupN (jo_s_X10_init_c2 (fclN J 1)) 0 0 2) 4)) 0 1 5) 18)) 0 2 19) 27)) 0 3 28) 42)) 0 4 43) 43)) 0 5 44) 47)) 0 6 48) 53)) 0 7 54) 54)) 0 8 55) 67)) 0 9 68) 70), (fclr y168.2 70))) rfl ?_ ?_
  · exact (by decide : 69 + 1 ≤ 121 ∧ 16823 + 4 ≤ 26277)
  obtain ⟨y183, hy, h⟩ := fbd h
  refine Wp.call rfl (by decide) (s_X4_init_4_c71_ok (d := d + 3) hy ?_)
  show Wp (d + 5, 150, 186, 72, 17281, [some (fA 0), _], [fA 70, fA 0]) (73, (jo_s_X4_init_4_c71 (fclN (fupN (jo_s_X9_init_4_c68 (fclN (fupN (jo_s_X7_init_4_18_43_c55 (fclN (fupN (jo_s_X0_init_4_18_43_c54 (fclN (fupN (jo_s_X1_init_4_18_c48 (fclN (fupN (jo_s_X8_init_4_18_c44 (fclN (fupN (jo_s_X5_init_1_4_18_c43 (fclN (fupN (jo_s_X3_init_1_c28 (fclN (fupN (jo_s_X6_init_18_c19 (fclN (fupN (jo_s_X2_init_4_c5 (fclN (fupN (jo_s_X10_init_c2 (fclN J 1)) 0 0 2) 4)) 0 1 5) 18)) 0 2 19) 27)) 0 3 28) 42)) 0 4 43) 43)) 0 5 44) 47)) 0 6 48) 53)) 0 7 54) 54)) 0 8 55) 67)) 0 9 68) 70)), y183.2) Q
  refine Wp.run 13 (P := [(2 : Int) = 2 ∧ 72 + 1 ≤ 121 ∧ 17281 + 2 ≤ 26277, (2 : Int) = 2 ∧ 73 + 1 ≤ 121 ∧ 17283 + 2 ≤ 26277, (2 : Int) = 2 ∧ 74 + 1 ≤ 121 ∧ 17285 + 2 ≤ 26277]) (f' := (d + 5, 150, 212, 75, 17287, [some (fA 0), _], [])) (h' := (76, (fupN (fclN (fupN (fclN (fupN (fclN (fupN (jo_s_X4_init_4_c71 (fclN (fupN (jo_s_X9_init_4_c68 (fclN (fupN (jo_s_X7_init_4_18_43_c55 (fclN (fupN (jo_s_X0_init_4_18_43_c54 (fclN (fupN (jo_s_X1_init_4_18_c48 (fclN (fupN (jo_s_X8_init_4_18_c44 (fclN (fupN (jo_s_X5_init_1_4_18_c43 (fclN (fupN (jo_s_X3_init_1_c28 (fclN (fupN (jo_s_X6_init_18_c19 (fclN (fupN (jo_s_X2_init_4_c5 (fclN (fupN (jo_s_X10_init_c2 (fclN J 1)) 0 0 2) 4)) 0 1 5) 18)) 0 2 19) 27)) 0 3 28) 42)) 0 4 43) 43)) 0 5 44) 47)) 0 6 48) 53)) 0 7 54) 54)) 0 8 55) 67)) 0 9 68) 70)) 0 10 71) 73) 0 11 74) 74) 0 12 75) 75) 0 13 76), (fclr (fclr (fclr y183.2 73) 74) 75))) rfl ?_ ?_
  · exact ⟨(by decide : (2 : Int) = 2 ∧ 72 + 1 ≤ 121 ∧ 17281 + 2 ≤ 26277), (by decide : (2 : Int) = 2 ∧ 73 + 1 ≤ 121 ∧ 17283 + 2 ≤ 26277), (by decide : (2 : Int) = 2 ∧ 74 + 1 ≤ 121 ∧ 17285 + 2 ≤ 26277)⟩
  exact s_X11_init_c1_j212_ok h H
abbrev jo_s_X11_init_c1 (J : Nat → Nat → Nat) : Nat → Nat → Nat := (fupN (jo_s_X6_init_113_c114 (fclN (fupN (jo_s_X2_init_99_c100 (fclN (fupN (jo_s_X6_init_90_c91 (fclN (fupN (jo_s_X2_init_76_c77 (fclN (jn_s_X11_init_c1_j212 J) 76)) 73 0 77) 90)) 74 0 91) 99)) 73 1 100) 113)) 74 1 114)
noncomputable def s_X12_begin_c155_b2 (M : fM) (l1 l2 : Int) : Option ((Int × fM) ⊕ fM) :=
  if 645 ≤ l2 then
    some (.inr M)
  else
    if fin (l1 + l2) ∧ (0 ≤ (l1 + l2) ∧ (l1 + l2) < 1290) ∧ fin (l2 + 1) then
      some (.inl ((l2 + 1), (fup M 124 (l1 + l2).toNat 0)))
    else none
theorem s_X12_begin_c155_b2_ok {d : Nat} {J : Nat → Nat → Nat} {M : fM} {l1 l2 : Int} {r : ((Int × fM) ⊕ fM)} {Q : fO → fH → Prop} (h : s_X12_begin_c155_b2 M l1 l2 = some r) (hC : ∀ (l2' : Int) (M' : fM), r = .inl (l2', M') → Wp (d + 0, 204, 2, 0, 0, [some (fA 122), some (fI l1), some (fI l2')], []) (155, (fupN (fclN (fupN (fclN (fupN (fclN (fupN (fclN (fupN (fclN (fupN (fclN (fupN (fclN (fupN (fclN (fupN (fclN (fupN (fclN (fupN (fclN (fupN (fclN (fupN (fclN (fupN (fclN (fupN (fclN (fupN (fclN (fupN (fclN (fupN (fclN (fupN (fclN (fupN (fclN (fupN (fclN (fupN (fclN (fupN (fclN (fupN (fclN (fupN (fclN (fupN (fclN (fupN (fclN (fupN (fclN (fupN (fclN (fupN (fclN (fupN (fclN (fupN (fclN J 123) 122 1 124) 124) 122 6 125) 125) 122 7 126) 126) 122 8 127) 127) 122 9 128) 128) 122 22 129) 129) 122 23 130) 130) 122 29 131) 131) 122 30 132) 132) 122 33 133) 133) 122 34 134) 134) 122 35 135) 135) 122 36 136) 136) 122 37 137) 137) 122 38 138) 138) 122 42 139) 139) 122 43 140) 140) 122 44 141) 141) 122 45 142) 142) 122 50 143) 143) 122 52 144) 144) 122 53 145) 145) 122 54 146) 146) 122 55 147) 147) 122 56 148) 148) 122 58 149) 149) 122 59 150) 150) 122 61 151) 151) 122 62 152) 152) 122 63 153) 153) 122 64 154) 154) 122 65 155), M') Q) (hE : ∀ (e : fM) (o2' : Option fV), r = .inr e → Wp (d + 0, 204, 24, 0, 0, [some (fA 122), some (fI l1), o2'], []) (155, (fupN (fclN (fupN (fclN (fupN (fclN (fupN (fclN (fupN (fclN (fupN (fclN (fupN (fclN (fupN (fclN (fupN (fclN (fupN (fclN (fupN (fclN (fupN (fclN (fupN (fclN (fupN (fclN (fupN (fclN (fupN (fclN (fupN (fclN (fupN (fclN (fupN (fclN (fupN (fclN (fupN (fclN (fupN (fclN (fupN (fclN (fupN (fclN (fupN (fclN (fupN (fclN (fupN (fclN (fupN (fclN (fupN (fclN (fupN (fclN (fupN (fclN (fupN (fclN J 123) 122 1 124) 124) 122 6 125) 125) 122 7 126) 126) 122 8 127) 127) 122 9 128) 128) 122 22 129) 129) 122 23 130) 130) 122 29 131) 131) 122 30 132) 132) 122 33 133) 133) 122 34 134) 134) 122 35 135) 135) 122 36 136) 136) 122 37 137) 137) 122 38 138) 138) 122 42 139) 139) 122 43 140) 140) 122 44 141) 141) 122 45 142) 142) 122 50 143) 143) 122 52 144) 144) 122 53 145) 145) 122 54 146) 146) 122 55 147) 147) 122 56 148) 148) 122 58 149) 149) 122 59 150) 150) 122 61 151) 151) 122 62 152) 152) 122 63 153) 153) 122 64 154) 154) 122 65 155), e) Q) : Wp (d + 0, 204, 2, 0, 0, [some (fA 122), some (fI l1), some (fI l2)], []) (155, (fupN (fclN (fupN (fclN (fupN (fclN (fupN (fclN (fupN (fclN (fupN (fclN (fupN (fclN (fupN (fclN (fupN (fclN (fupN (fclN (fupN (fclN (fupN (fclN (fupN (fclN (fupN (fclN (fupN (fclN (fupN (fclN (fupN (fclN (fupN (fclN (fupN (fclN (fupN (fclN (fupN (fclN (fupN (fclN (fupN (fclN (fupN (fclN (fupN (fclN (fupN (fclN (fupN (fclN (fupN (fclN (fupN (fclN (fupN (fclN (fupN (fclN (fupN (fclN J 123) 122 1 124) 124) 122 6 125) 125) 122 7 126) 126) 122 8 127) 127) 122 9 128) 128) 122 22 129) 129) 122 23 130) 130) 122 29 131) 131) 122 30 132) 132) 122 33 133) 133) 122 34 134) 134) 122 35 135) 135) 122 36 136) 136) 122 37 137) 137) 122 38 138) 138) 122 42 139) 139) 122 43 140) 140) 122 44 141) 141) 122 45 142) 142) 122 50 143) 143) 122 52 144) 144) 122 53 145) 145) 122 54 146) 146) 122 55 147) 147) 122 56 148) 148) 122 58 149) 149) 122 59 150) 150) 122 61 151) 151) 122 62 152) 152) 122 63 153) 153) 122 64 154) 154) 122 65 155), M) Q := by
  unfold s_X12_begin_c155_b2 at h
  refine Wp.run 2 (f' := (d + 0, 204, 6, 0, 0, [some (fA 122), some (fI l1), some (fI l2)], [fI 645, fI l2])) (h' := (155, (fupN (fclN (fupN (fclN (fupN (fclN (fupN (fclN (fupN (fclN (fupN (fclN (fupN (fclN (fupN (fclN (fupN (fclN (fupN (fclN (fupN (fclN (fupN (fclN (fupN (fclN (fupN (fclN (fupN (fclN (fupN (fclN (fupN (fclN (fupN (fclN (fupN (fclN (fupN (fclN (fupN (fclN (fupN (fclN (fupN (fclN (fupN (fclN (fupN (fclN (fupN (fclN (fupN (fclN (fupN (fclN (fupN (fclN (fupN (fclN (fupN (fclN (fupN (fclN J 123) 122 1 124) 124) 122 6 125) 125) 122 7 126) 126) 122 8 127) 127) 122 9 128) 128) 122 22 129) 129) 122 23 130) 130) 122 29 131) 131) 122 30 132) 132) 122 33 133) 133) 122 34 134) 134) 122 35 135) 135) 122 36 136) 136) 122 37 137) 137) 122 38 138) 138) 122 42 139) 139) 122 43 140) 140) 122 44 141) 141) 122 45 142) 142) 122 50 143) 143) 122 52 144) 144) 122 53 145) 145) 122 54 146) 146) 122 55 147) 147) 122 56 148) 148) 122 58 149) 149) 122 59 150) 150) 122 61 151) 151) 122 62 152) 152) 122 63 153) 153) 122 64 154) 154) 122 65 155), M)) rfl trivial ?_
  refine Wp.br rfl (fun (c : 645 ≤ l2) => ?_) (fun (c : ¬ (645 ≤ l2)) => ?_)
  · replace h := fps c h
    exact hE _ _ (Option.some.inj h).symm
  · replace h := fng c h
    obtain ⟨⟨g0, g1, g2⟩, h⟩ := fgd h
    refine Wp.run 9 (P := [0 ≤ (fw (l1 + l2)) ∧ (fw (l1 + l2)) < 1290]) (f' := (d + 0, 204, 2, 0, 0, [some (fA 122), some (fI l1), some (fI (fw (l2 + 1)))], [])) (h' := (155, (fupN (fclN (fupN (fclN (fupN (fclN (fupN (fclN (fupN (fclN (fupN (fclN (fupN (fclN (fupN (fclN (fupN (fclN (fupN (fclN (fupN (fclN (fupN (fclN (fupN (fclN (fupN (fclN (fupN (fclN (fupN (fclN (fupN (fclN (fupN (fclN (fupN (fclN (fupN (fclN (fupN (fclN (fupN (fclN (fupN (fclN (fupN (fclN (fupN (fclN (fupN (fclN (fupN (fclN (fupN (fclN (fupN (fclN (fupN (fclN (fupN (fclN (fupN (fclN J 123) 122 1 124) 124) 122 6 125) 125) 122 7 126) 126) 122 8 127) 127) 122 9 128) 128) 122 22 129) 129) 122 23 130) 130) 122 29 131) 131) 122 30 132) 132) 122 33 133) 133) 122 34 134) 134) 122 35 135) 135) 122 36 136) 136) 122 37 137) 137) 122 38 138) 138) 122 42 139) 139) 122 43 140) 140) 122 44 141) 141) 122 45 142) 142) 122 50 143) 143) 122 52 144) 144) 122 53 145) 145) 122 54 146) 146) 122 55 147) 147) 122 56 148) 148) 122 58 149) 149) 122 59 150) 150) 122 61 151) 151) 122 62 152) 152) 122 63 153) 153) 122 64 154) 154) 122 65 155), (fup M 124 (fw (l1 + l2)).toNat 0))) rfl ?_ ?_
    · rw [fw_id g0]; exact g1
    rw [fw_id g2, fw_id g0]
    exact hC _ _ (Option.some.inj h).symm
noncomputable def s_X12_begin_c155_l2 (l1 : Int) (s : (Int × fM)) : Option fM := fLp (fun s => s_X12_begin_c155_b2 s.2 l1 s.1) s
theorem s_X12_begin_c155_l2_ok {d : Nat} {J : Nat → Nat → Nat} {M : fM} {l1 l2 : Int} {r : fM} {Q : fO → fH → Prop} (h : s_X12_begin_c155_l2 l1 (l2, M) = some r) (hE : ∀ (e : fM) (o2' : Option fV), r = e → Wp (d + 0, 204, 24, 0, 0, [some (fA 122), some (fI l1), o2'], []) (155, (fupN (fclN (fupN (fclN (fupN (fclN (fupN (fclN (fupN (fclN (fupN (fclN (fupN (fclN (fupN (fclN (fupN (fclN (fupN (fclN (fupN (fclN (fupN (fclN (fupN (fclN (fupN (fclN (fupN (fclN (fupN (fclN (fupN (fclN (fupN (fclN (fupN (fclN (fupN (fclN (fupN (fclN (fupN (fclN (fupN (fclN (fupN (fclN (fupN (fclN (fupN (fclN (fupN (fclN (fupN (fclN (fupN (fclN (fupN (fclN (fupN (fclN (fupN (fclN J 123) 122 1 124) 124) 122 6 125) 125) 122 7 126) 126) 122 8 127) 127) 122 9 128) 128) 122 22 129) 129) 122 23 130) 130) 122 29 131) 131) 122 30 132) 132) 122 33 133) 133) 122 34 134) 134) 122 35 135) 135) 122 36 136) 136) 122 37 137) 137) 122 38 138) 138) 122 42 139) 139) 122 43 140) 140) 122 44 141) 141) 122 45 142) 142) 122 50 143) 143) 122 52 144) 144) 122 53 145) 145) 122 54 146) 146) 122 55 147) 147) 122 56 148) 148) 122 58 149) 149) 122 59 150) 150) 122 61 151) 151) 122 62 152) 152) 122 63 153) 153) 122 64 154) 154) 122 65 155), e) Q) : Wp (d + 0, 204, 2, 0, 0, [some (fA 122), some (fI l1), some (fI l2)], []) (155, (fupN (fclN (fupN (fclN (fupN (fclN (fupN (fclN (fupN (fclN (fupN (fclN (fupN (fclN (fupN (fclN (fupN (fclN (fupN (fclN (fupN (fclN (fupN (fclN (fupN (fclN (fupN (fclN (fupN (fclN (fupN (fclN (fupN (fclN (fupN (fclN (fupN (fclN (fupN (fclN (fupN (fclN (fupN (fclN (fupN (fclN (fupN (fclN (fupN (fclN (fupN (fclN (fupN (fclN (fupN (fclN (fupN (fclN (fupN (fclN (fupN (fclN (fupN (fclN J 123) 122 1 124) 124) 122 6 125) 125) 122 7 126) 126) 122 8 127) 127) 122 9 128) 128) 122 22 129) 129) 122 23 130) 130) 122 29 131) 131) 122 30 132) 132) 122 33 133) 133) 122 34 134) 134) 122 35 135) 135) 122 36 136) 136) 122 37 137) 137) 122 38 138) 138) 122 42 139) 139) 122 43 140) 140) 122 44 141) 141) 122 45 142) 142) 122 50 143) 143) 122 52 144) 144) 122 53 145) 145) 122 54 146) 146) 122 55 147) 147) 122 56 148) 148) 122 58 149) 149) 122 59 150) 150) 122 61 151) 151) 122 62 152) 152) 122 63 153) 153) 122 64 154) 154) 122 65 155), M) Q := by
  refine fLp_wp (W := fun s => Wp (d + 0, 204, 2, 0, 0, [some (fA 122), some (fI l1), some (fI s.1)], []) (155, (fupN (fclN (fupN (fclN (fupN (fclN (fupN (fclN (fupN (fclN (fupN (fclN (fupN (fclN (fupN (fclN (fupN (fclN (fupN (fclN (fupN (fclN (fupN (fclN (fupN (fclN (fupN (fclN (fupN (fclN (fupN (fclN (fupN (fclN (fupN (fclN (fupN (fclN (fupN (fclN (fupN (fclN (fupN (fclN (fupN (fclN (fupN (fclN (fupN (fclN (fupN (fclN (fupN (fclN (fupN (fclN (fupN (fclN (fupN (fclN (fupN (fclN (fupN (fclN J 123) 122 1 124) 124) 122 6 125) 125) 122 7 126) 126) 122 8 127) 127) 122 9 128) 128) 122 22 129) 129) 122 23 130) 130) 122 29 131) 131) 122 30 132) 132) 122 33 133) 133) 122 34 134) 134) 122 35 135) 135) 122 36 136) 136) 122 37 137) 137) 122 38 138) 138) 122 42 139) 139) 122 43 140) 140) 122 44 141) 141) 122 45 142) 142) 122 50 143) 143) 122 52 144) 144) 122 53 145) 145) 122 54 146) 146) 122 55 147) 147) 122 56 148) 148) 122 58 149) 149) 122 59 150) 150) 122 61 151) 151) 122 62 152) 152) 122 63 153) 153) 122 64 154) 154) 122 65 155), s.2) Q) (e := r) ?_ h
  intro s r1 h hC hX
  refine s_X12_begin_c155_b2_ok (d := d) h (fun a0 a1 e1 => ?_) (fun e u0 e1 => hE e u0 (hX _ e1).symm)
  exact hC _ e1
noncomputable def s_X12_begin_c155_b26 (M : fM) (l1 l2 : Int) : Option ((Int × fM) ⊕ fM) :=
  if 52 ≤ l2 then
    some (.inr M)
  else
    if fin (l1 + 13) ∧ fin ((l1 + 13) + l2) ∧ (0 ≤ ((l1 + 13) + l2) ∧ ((l1 + 13) + l2) < 1290) ∧ fin (l2 + 1) then
      some (.inl ((l2 + 1), (fup M 124 ((l1 + 13) + l2).toNat 20)))
    else none
theorem s_X12_begin_c155_b26_ok {d : Nat} {J : Nat → Nat → Nat} {M : fM} {l1 l2 : Int} {r : ((Int × fM) ⊕ fM)} {Q : fO → fH → Prop} (h : s_X12_begin_c155_b26 M l1 l2 = some r) (hC : ∀ (l2' : Int) (M' : fM), r = .inl (l2', M') → Wp (d + 0, 204, 26, 0, 0, [some (fA 122), some (fI l1), some (fI l2')], []) (155, (fupN (fclN (fupN (fclN (fupN (fclN (fupN (fclN (fupN (fclN (fupN (fclN (fupN (fclN (fupN (fclN (fupN (fclN (fupN (fclN (fupN (fclN (fupN (fclN (fupN (fclN (fupN (fclN (fupN (fclN (fupN (fclN (fupN (fclN (fupN (fclN (fupN (fclN (fupN (fclN (fupN (fclN (fupN (fclN (fupN (fclN (fupN (fclN (fupN (fclN (fupN (fclN (fupN (fclN (fupN (fclN (fupN (fclN (fupN (fclN (fupN (fclN (fupN (fclN J 123) 122 1 124) 124) 122 6 125) 125) 122 7 126) 126) 122 8 127) 127) 122 9 128) 128) 122 22 129) 129) 122 23 130) 130) 122 29 131) 131) 122 30 132) 132) 122 33 133) 133) 122 34 134) 134) 122 35 135) 135) 122 36 136) 136) 122 37 137) 137) 122 38 138) 138) 122 42 139) 139) 122 43 140) 140) 122 44 141) 141) 122 45 142) 142) 122 50 143) 143) 122 52 144) 144) 122 53 145) 145) 122 54 146) 146) 122 55 147) 147) 122 56 148) 148) 122 58 149) 149) 122 59 150) 150) 122 61 151) 151) 122 62 152) 152) 122 63 153) 153) 122 64 154) 154) 122 65 155), M') Q) (hE : ∀ (e : fM) (o2' : Option fV), r = .inr e → Wp (d + 0, 204, 51, 0, 0, [some (fA 122), some (fI l1), o2'], []) (155, (fupN (fclN (fupN (fclN (fupN (fclN (fupN (fclN (fupN (fclN (fupN (fclN (fupN (fclN (fupN (fclN (fupN (fclN (fupN (fclN (fupN (fclN (fupN (fclN (fupN (fclN (fupN (fclN (fupN (fclN (fupN (fclN (fupN (fclN (fupN (fclN (fupN (fclN (fupN (fclN (fupN (fclN (fupN (fclN (fupN (fclN (fupN (fclN (fupN (fclN (fupN (fclN (fupN (fclN (fupN (fclN (fupN (fclN (fupN (fclN (fupN (fclN (fupN (fclN J 123) 122 1 124) 124) 122 6 125) 125) 122 7 126) 126) 122 8 127) 127) 122 9 128) 128) 122 22 129) 129) 122 23 130) 130) 122 29 131) 131) 122 30 132) 132) 122 33 133) 133) 122 34 134) 134) 122 35 135) 135) 122 36 136) 136) 122 37 137) 137) 122 38 138) 138) 122 42 139) 139) 122 43 140) 140) 122 44 141) 141) 122 45 142) 142) 122 50 143) 143) 122 52 144) 144) 122 53 145) 145) 122 54 146) 146) 122 55 147) 147) 122 56 148) 148) 122 58 149) 149) 122 59 150) 150) 122 61 151) 151) 122 62 152) 152) 122 63 153) 153) 122 64 154) 154) 122 65 155), e) Q) : Wp (d + 0, 204, 26, 0, 0, [some (fA 122), some (fI l1), some (fI l2)], []) (155, (fupN (fclN (fupN (fclN (fupN (fclN (fupN (fclN (fupN (fclN (fupN (fclN (fupN (fclN (fupN (fclN (fupN (fclN (fupN (fclN (fupN (fclN (fupN (fclN (fupN (fclN (fupN (fclN (fupN (fclN (fupN (fclN (fupN (fclN (fupN (fclN (fupN (fclN (fupN (fclN (fupN (fclN (fupN (fclN (fupN (fclN (fupN (fclN (fupN (fclN (fupN (fclN (fupN (fclN (fupN (fclN (fupN (fclN (fupN (fclN (fupN (fclN (fupN (fclN J 123) 122 1 124) 124) 122 6 125) 125) 122 7 126) 126) 122 8 127) 127) 122 9 128) 128) 122 22 129) 129) 122 23 130) 130) 122 29 131) 131) 122 30 132) 132) 122 33 133) 133) 122 34 134) 134) 122 35 135) 135) 122 36 136) 136) 122 37 137) 137) 122 38 138) 138) 122 42 139) 139) 122 43 140) 140) 122 44 141) 141) 122 45 142) 142) 122 50 143) 143) 122 52 144) 144) 122 53 145) 145) 122 54 146) 146) 122 55 147) 147) 122 56 148) 148) 122 58 149) 149) 122 59 150) 150) 122 61 151) 151) 122 62 152) 152) 122 63 153) 153) 122 64 154) 154) 122 65 155), M) Q := by
  unfold s_X12_begin_c155_b26 at h
  refine Wp.run 2 (f' := (d + 0, 204, 29, 0, 0, [some (fA 122), some (fI l1), some (fI l2)], [fI 52, fI l2])) (h' := (155, (fupN (fclN (fupN (fclN (fupN (fclN (fupN (fclN (fupN (fclN (fupN (fclN (fupN (fclN (fupN (fclN (fupN (fclN (fupN (fclN (fupN (fclN (fupN (fclN (fupN (fclN (fupN (fclN (fupN (fclN (fupN (fclN (fupN (fclN (fupN (fclN (fupN (fclN (fupN (fclN (fupN (fclN (fupN (fclN (fupN (fclN (fupN (fclN (fupN (fclN (fupN (fclN (fupN (fclN (fupN (fclN (fupN (fclN (fupN (fclN (fupN (fclN (fupN (fclN J 123) 122 1 124) 124) 122 6 125) 125) 122 7 126) 126) 122 8 127) 127) 122 9 128) 128) 122 22 129) 129) 122 23 130) 130) 122 29 131) 131) 122 30 132) 132) 122 33 133) 133) 122 34 134) 134) 122 35 135) 135) 122 36 136) 136) 122 37 137) 137) 122 38 138) 138) 122 42 139) 139) 122 43 140) 140) 122 44 141) 141) 122 45 142) 142) 122 50 143) 143) 122 52 144) 144) 122 53 145) 145) 122 54 146) 146) 122 55 147) 147) 122 56 148) 148) 122 58 149) 149) 122 59 150) 150) 122 61 151) 151) 122 62 152) 152) 122 63 153) 153) 122 64 154) 154) 122 65 155), M)) rfl trivial ?_
  refine Wp.br rfl (fun (c : 52 ≤ l2) => ?_) (fun (c : ¬ (52 ≤ l2)) => ?_)
  · replace h := fps c h
    exact hE _ _ (Option.some.inj h).symm
  · replace h := fng c h
    obtain ⟨⟨g0, g1, g2, g3⟩, h⟩ := fgd h
    refine Wp.run 11 (P := [0 ≤ (fw ((fw (l1 + 13)) + l2)) ∧ (fw ((fw (l1 + 13)) + l2)) < 1290]) (f' := (d + 0, 204, 26, 0, 0, [some (fA 122), some (fI l1), some (fI (fw (l2 + 1)))], [])) (h' := (155, (fupN (fclN (fupN (fclN (fupN (fclN (fupN (fclN (fupN (fclN (fupN (fclN (fupN (fclN (fupN (fclN (fupN (fclN (fupN (fclN (fupN (fclN (fupN (fclN (fupN (fclN (fupN (fclN (fupN (fclN (fupN (fclN (fupN (fclN (fupN (fclN (fupN (fclN (fupN (fclN (fupN (fclN (fupN (fclN (fupN (fclN (fupN (fclN (fupN (fclN (fupN (fclN (fupN (fclN (fupN (fclN (fupN (fclN (fupN (fclN (fupN (fclN (fupN (fclN J 123) 122 1 124) 124) 122 6 125) 125) 122 7 126) 126) 122 8 127) 127) 122 9 128) 128) 122 22 129) 129) 122 23 130) 130) 122 29 131) 131) 122 30 132) 132) 122 33 133) 133) 122 34 134) 134) 122 35 135) 135) 122 36 136) 136) 122 37 137) 137) 122 38 138) 138) 122 42 139) 139) 122 43 140) 140) 122 44 141) 141) 122 45 142) 142) 122 50 143) 143) 122 52 144) 144) 122 53 145) 145) 122 54 146) 146) 122 55 147) 147) 122 56 148) 148) 122 58 149) 149) 122 59 150) 150) 122 61 151) 151) 122 62 152) 152) 122 63 153) 153) 122 64 154) 154) 122 65 155), (fup M 124 (fw ((fw (l1 + 13)) + l2)).toNat 20))) rfl ?_ ?_
    · rw [fw_id g0, fw_id g1]; exact g2
    rw [fw_id g3, fw_id g0, fw_id g1]
    exact hC _ _ (Option.some.inj h).symm
noncomputable def s_X12_begin_c155_l26 (l1 : Int) (s : (Int × fM)) : Option fM := fLp (fun s => s_X12_begin_c155_b26 s.2 l1 s.1) s
theorem s_X12_begin_c155_l26_ok {d : Nat} {J : Nat → Nat → Nat} {M : fM} {l1 l2 : Int} {r : fM} {Q : fO → fH → Prop} (h : s_X12_begin_c155_l26 l1 (l2, M) = some r) (hE : ∀ (e : fM) (o2' : Option fV), r = e → Wp (d + 0, 204, 51, 0, 0, [some (fA 122), some (fI l1), o2'], []) (155, (fupN (fclN (fupN (fclN (fupN (fclN (fupN (fclN (fupN (fclN (fupN (fclN (fupN (fclN (fupN (fclN (fupN (fclN (fupN (fclN (fupN (fclN (fupN (fclN (fupN (fclN (fupN (fclN (fupN (fclN (fupN (fclN (fupN (fclN (fupN (fclN (fupN (fclN (fupN (fclN (fupN (fclN (fupN (fclN (fupN (fclN (fupN (fclN (fupN (fclN (fupN (fclN (fupN (fclN (fupN (fclN (fupN (fclN (fupN (fclN (fupN (fclN (fupN (fclN J 123) 122 1 124) 124) 122 6 125) 125) 122 7 126) 126) 122 8 127) 127) 122 9 128) 128) 122 22 129) 129) 122 23 130) 130) 122 29 131) 131) 122 30 132) 132) 122 33 133) 133) 122 34 134) 134) 122 35 135) 135) 122 36 136) 136) 122 37 137) 137) 122 38 138) 138) 122 42 139) 139) 122 43 140) 140) 122 44 141) 141) 122 45 142) 142) 122 50 143) 143) 122 52 144) 144) 122 53 145) 145) 122 54 146) 146) 122 55 147) 147) 122 56 148) 148) 122 58 149) 149) 122 59 150) 150) 122 61 151) 151) 122 62 152) 152) 122 63 153) 153) 122 64 154) 154) 122 65 155), e) Q) : Wp (d + 0, 204, 26, 0, 0, [some (fA 122), some (fI l1), some (fI l2)], []) (155, (fupN (fclN (fupN (fclN (fupN (fclN (fupN (fclN (fupN (fclN (fupN (fclN (fupN (fclN (fupN (fclN (fupN (fclN (fupN (fclN (fupN (fclN (fupN (fclN (fupN (fclN (fupN (fclN (fupN (fclN (fupN (fclN (fupN (fclN (fupN (fclN (fupN (fclN (fupN (fclN (fupN (fclN (fupN (fclN (fupN (fclN (fupN (fclN (fupN (fclN (fupN (fclN (fupN (fclN (fupN (fclN (fupN (fclN (fupN (fclN (fupN (fclN (fupN (fclN J 123) 122 1 124) 124) 122 6 125) 125) 122 7 126) 126) 122 8 127) 127) 122 9 128) 128) 122 22 129) 129) 122 23 130) 130) 122 29 131) 131) 122 30 132) 132) 122 33 133) 133) 122 34 134) 134) 122 35 135) 135) 122 36 136) 136) 122 37 137) 137) 122 38 138) 138) 122 42 139) 139) 122 43 140) 140) 122 44 141) 141) 122 45 142) 142) 122 50 143) 143) 122 52 144) 144) 122 53 145) 145) 122 54 146) 146) 122 55 147) 147) 122 56 148) 148) 122 58 149) 149) 122 59 150) 150) 122 61 151) 151) 122 62 152) 152) 122 63 153) 153) 122 64 154) 154) 122 65 155), M) Q := by
  refine fLp_wp (W := fun s => Wp (d + 0, 204, 26, 0, 0, [some (fA 122), some (fI l1), some (fI s.1)], []) (155, (fupN (fclN (fupN (fclN (fupN (fclN (fupN (fclN (fupN (fclN (fupN (fclN (fupN (fclN (fupN (fclN (fupN (fclN (fupN (fclN (fupN (fclN (fupN (fclN (fupN (fclN (fupN (fclN (fupN (fclN (fupN (fclN (fupN (fclN (fupN (fclN (fupN (fclN (fupN (fclN (fupN (fclN (fupN (fclN (fupN (fclN (fupN (fclN (fupN (fclN (fupN (fclN (fupN (fclN (fupN (fclN (fupN (fclN (fupN (fclN (fupN (fclN (fupN (fclN J 123) 122 1 124) 124) 122 6 125) 125) 122 7 126) 126) 122 8 127) 127) 122 9 128) 128) 122 22 129) 129) 122 23 130) 130) 122 29 131) 131) 122 30 132) 132) 122 33 133) 133) 122 34 134) 134) 122 35 135) 135) 122 36 136) 136) 122 37 137) 137) 122 38 138) 138) 122 42 139) 139) 122 43 140) 140) 122 44 141) 141) 122 45 142) 142) 122 50 143) 143) 122 52 144) 144) 122 53 145) 145) 122 54 146) 146) 122 55 147) 147) 122 56 148) 148) 122 58 149) 149) 122 59 150) 150) 122 61 151) 151) 122 62 152) 152) 122 63 153) 153) 122 64 154) 154) 122 65 155), s.2) Q) (e := r) ?_ h
  intro s r1 h hC hX
  refine s_X12_begin_c155_b26_ok (d := d) h (fun a0 a1 e1 => ?_) (fun e u0 e1 => hE e u0 (hX _ e1).symm)
  exact hC _ e1
noncomputable def s_X12_begin_c155_b53 (M : fM) (l1 l2 : Int) : Option ((Int × fM) ⊕ fM) :=
  if 192 ≤ l2 then
    some (.inr M)
  else
    if fin (l1 + 335) ∧ fin ((l1 + 335) + l2) ∧ (0 ≤ ((l1 + 335) + l2) ∧ ((l1 + 335) + l2) < 1290) ∧ fin (l2 + 1) then
      some (.inl ((l2 + 1), (fup M 124 ((l1 + 335) + l2).toNat 1)))
    else none
theorem s_X12_begin_c155_b53_ok {d : Nat} {J : Nat → Nat → Nat} {M : fM} {l1 l2 : Int} {r : ((Int × fM) ⊕ fM)} {Q : fO → fH → Prop} (h : s_X12_begin_c155_b53 M l1 l2 = some r) (hC : ∀ (l2' : Int) (M' : fM), r = .inl (l2', M') → Wp (d + 0, 204, 53, 0, 0, [some (fA 122), some (fI l1), some (fI l2')], []) (155, (fupN (fclN (fupN (fclN (fupN (fclN (fupN (fclN (fupN (fclN (fupN (fclN (fupN (fclN (fupN (fclN (fupN (fclN (fupN (fclN (fupN (fclN (fupN (fclN (fupN (fclN (fupN (fclN (fupN (fclN (fupN (fclN (fupN (fclN (fupN (fclN (fupN (fclN (fupN (fclN (fupN (fclN (fupN (fclN (fupN (fclN (fupN (fclN (fupN (fclN (fupN (fclN (fupN (fclN (fupN (fclN (fupN (fclN (fupN (fclN (fupN (fclN (fupN (fclN J 123) 122 1 124) 124) 122 6 125) 125) 122 7 126) 126) 122 8 127) 127) 122 9 128) 128) 122 22 129) 129) 122 23 130) 130) 122 29 131) 131) 122 30 132) 132) 122 33 133) 133) 122 34 134) 134) 122 35 135) 135) 122 36 136) 136) 122 37 137) 137) 122 38 138) 138) 122 42 139) 139) 122 43 140) 140) 122 44 141) 141) 122 45 142) 142) 122 50 143) 143) 122 52 144) 144) 122 53 145) 145) 122 54 146) 146) 122 55 147) 147) 122 56 148) 148) 122 58 149) 149) 122 59 150) 150) 122 61 151) 151) 122 62 152) 152) 122 63 153) 153) 122 64 154) 154) 122 65 155), M') Q) (hE : ∀ (e : fM) (o2' : Option fV), r = .inr e → Wp (d + 0, 204, 79, 0, 0, [some (fA 122), some (fI l1), o2'], []) (155, (fupN (fclN (fupN (fclN (fupN (fclN (fupN (fclN (fupN (fclN (fupN (fclN (fupN (fclN (fupN (fclN (fupN (fclN (fupN (fclN (fupN (fclN (fupN (fclN (fupN (fclN (fupN (fclN (fupN (fclN (fupN (fclN (fupN (fclN (fupN (fclN (fupN (fclN (fupN (fclN (fupN (fclN (fupN (fclN (fupN (fclN (fupN (fclN (fupN (fclN (fupN (fclN (fupN (fclN (fupN (fclN (fupN (fclN (fupN (fclN (fupN (fclN (fupN (fclN J 123) 122 1 124) 124) 122 6 125) 125) 122 7 126) 126) 122 8 127) 127) 122 9 128) 128) 122 22 129) 129) 122 23 130) 130) 122 29 131) 131) 122 30 132) 132) 122 33 133) 133) 122 34 134) 134) 122 35 135) 135) 122 36 136) 136) 122 37 137) 137) 122 38 138) 138) 122 42 139) 139) 122 43 140) 140) 122 44 141) 141) 122 45 142) 142) 122 50 143) 143) 122 52 144) 144) 122 53 145) 145) 122 54 146) 146) 122 55 147) 147) 122 56 148) 148) 122 58 149) 149) 122 59 150) 150) 122 61 151) 151) 122 62 152) 152) 122 63 153) 153) 122 64 154) 154) 122 65 155), e) Q) : Wp (d + 0, 204, 53, 0, 0, [some (fA 122), some (fI l1), some (fI l2)], []) (155, (fupN (fclN (fupN (fclN (fupN (fclN (fupN (fclN (fupN (fclN (fupN (fclN (fupN (fclN (fupN (fclN (fupN (fclN (fupN (fclN (fupN (fclN (fupN (fclN (fupN (fclN (fupN (fclN (fupN (fclN (fupN (fclN (fupN (fclN (fupN (fclN (fupN (fclN (fupN (fclN (fupN (fclN (fupN (fclN (fupN (fclN (fupN (fclN (fupN (fclN (fupN (fclN (fupN (fclN (fupN (fclN (fupN (fclN (fupN (fclN (fupN (fclN (fupN (fclN J 123) 122 1 124) 124) 122 6 125) 125) 122 7 126) 126) 122 8 127) 127) 122 9 128) 128) 122 22 129) 129) 122 23 130) 130) 122 29 131) 131) 122 30 132) 132) 122 33 133) 133) 122 34 134) 134) 122 35 135) 135) 122 36 136) 136) 122 37 137) 137) 122 38 138) 138) 122 42 139) 139) 122 43 140) 140) 122 44 141) 141) 122 45 142) 142) 122 50 143) 143) 122 52 144) 144) 122 53 145) 145) 122 54 146) 146) 122 55 147) 147) 122 56 148) 148) 122 58 149) 149) 122 59 150) 150) 122 61 151) 151) 122 62 152) 152) 122 63 153) 153) 122 64 154) 154) 122 65 155), M) Q := by
  unfold s_X12_begin_c155_b53 at h
  refine Wp.run 2 (f' := (d + 0, 204, 57, 0, 0, [some (fA 122), some (fI l1), some (fI l2)], [fI 192, fI l2])) (h' := (155, (fupN (fclN (fupN (fclN (fupN (fclN (fupN (fclN (fupN (fclN (fupN (fclN (fupN (fclN (fupN (fclN (fupN (fclN (fupN (fclN (fupN (fclN (fupN (fclN (fupN (fclN (fupN (fclN (fupN (fclN (fupN (fclN (fupN (fclN (fupN (fclN (fupN (fclN (fupN (fclN (fupN (fclN (fupN (fclN (fupN (fclN (fupN (fclN (fupN (fclN (fupN (fclN (fupN (fclN (fupN (fclN (fupN (fclN (fupN (fclN (fupN (fclN (fupN (fclN J 123) 122 1 124) 124) 122 6 125) 125) 122 7 126) 126) 122 8 127) 127) 122 9 128) 128) 122 22 129) 129) 122 23 130) 130) 122 29 131) 131) 122 30 132) 132) 122 33 133) 133) 122 34 134) 134) 122 35 135) 135) 122 36 136) 136) 122 37 137) 137) 122 38 138) 138) 122 42 139) 139) 122 43 140) 140) 122 44 141) 141) 122 45 142) 142) 122 50 143) 143) 122 52 144) 144) 122 53 145) 145) 122 54 146) 146) 122 55 147) 147) 122 56 148) 148) 122 58 149) 149) 122 59 150) 150) 122 61 151) 151) 122 62 152) 152) 122 63 153) 153) 122 64 154) 154) 122 65 155), M)) rfl trivial ?_
  refine Wp.br rfl (fun (c : 192 ≤ l2) => ?_) (fun (c : ¬ (192 ≤ l2)) => ?_)
  · replace h := fps c h
    exact hE _ _ (Option.some.inj h).symm
  · replace h := fng c h
    obtain ⟨⟨g0, g1, g2, g3⟩, h⟩ := fgd h
    refine Wp.run 11 (P := [0 ≤ (fw ((fw (l1 + 335)) + l2)) ∧ (fw ((fw (l1 + 335)) + l2)) < 1290]) (f' := (d + 0, 204, 53, 0, 0, [some (fA 122), some (fI l1), some (fI (fw (l2 + 1)))], [])) (h' := (155, (fupN (fclN (fupN (fclN (fupN (fclN (fupN (fclN (fupN (fclN (fupN (fclN (fupN (fclN (fupN (fclN (fupN (fclN (fupN (fclN (fupN (fclN (fupN (fclN (fupN (fclN (fupN (fclN (fupN (fclN (fupN (fclN (fupN (fclN (fupN (fclN (fupN (fclN (fupN (fclN (fupN (fclN (fupN (fclN (fupN (fclN (fupN (fclN (fupN (fclN (fupN (fclN (fupN (fclN (fupN (fclN (fupN (fclN (fupN (fclN (fupN (fclN (fupN (fclN J 123) 122 1 124) 124) 122 6 125) 125) 122 7 126) 126) 122 8 127) 127) 122 9 128) 128) 122 22 129) 129) 122 23 130) 130) 122 29 131) 131) 122 30 132) 132) 122 33 133) 133) 122 34 134) 134) 122 35 135) 135) 122 36 136) 136) 122 37 137) 137) 122 38 138) 138) 122 42 139) 139) 122 43 140) 140) 122 44 141) 141) 122 45 142) 142) 122 50 143) 143) 122 52 144) 144) 122 53 145) 145) 122 54 146) 146) 122 55 147) 147) 122 56 148) 148) 122 58 149) 149) 122 59 150) 150) 122 61 151) 151) 122 62 152) 152) 122 63 153) 153) 122 64 154) 154) 122 65 155), (fup M 124 (fw ((fw (l1 + 335)) + l2)).toNat 1))) rfl ?_ ?_
    · rw [fw_id g0, fw_id g1]; exact g2
    rw [fw_id g3, fw_id g0, fw_id g1]
    exact hC _ _ (Option.some.inj h).symm
noncomputable def s_X12_begin_c155_l53 (l1 : Int) (s : (Int × fM)) : Option fM := fLp (fun s => s_X12_begin_c155_b53 s.2 l1 s.1) s
theorem s_X12_begin_c155_l53_ok {d : Nat} {J : Nat → Nat → Nat} {M : fM} {l1 l2 : Int} {r : fM} {Q : fO → fH → Prop} (h : s_X12_begin_c155_l53 l1 (l2, M) = some r) (hE : ∀ (e : fM) (o2' : Option fV), r = e → Wp (d + 0, 204, 79, 0, 0, [some (fA 122), some (fI l1), o2'], []) (155, (fupN (fclN (fupN (fclN (fupN (fclN (fupN (fclN (fupN (fclN (fupN (fclN (fupN (fclN (fupN (fclN (fupN (fclN (fupN (fclN (fupN (fclN (fupN (fclN (fupN (fclN (fupN (fclN (fupN (fclN (fupN (fclN (fupN (fclN (fupN (fclN (fupN (fclN (fupN (fclN (fupN (fclN (fupN (fclN (fupN (fclN (fupN (fclN (fupN (fclN (fupN (fclN (fupN (fclN (fupN (fclN (fupN (fclN (fupN (fclN (fupN (fclN (fupN (fclN J 123) 122 1 124) 124) 122 6 125) 125) 122 7 126) 126) 122 8 127) 127) 122 9 128) 128) 122 22 129) 129) 122 23 130) 130) 122 29 131) 131) 122 30 132) 132) 122 33 133) 133) 122 34 134) 134) 122 35 135) 135) 122 36 136) 136) 122 37 137) 137) 122 38 138) 138) 122 42 139) 139) 122 43 140) 140) 122 44 141) 141) 122 45 142) 142) 122 50 143) 143) 122 52 144) 144) 122 53 145) 145) 122 54 146) 146) 122 55 147) 147) 122 56 148) 148) 122 58 149) 149) 122 59 150) 150) 122 61 151) 151) 122 62 152) 152) 122 63 153) 153) 122 64 154) 154) 122 65 155), e) Q) : Wp (d + 0, 204, 53, 0, 0, [some (fA 122), some (fI l1), some (fI l2)], []) (155, (fupN (fclN (fupN (fclN (fupN (fclN (fupN (fclN (fupN (fclN (fupN (fclN (fupN (fclN (fupN (fclN (fupN (fclN (fupN (fclN (fupN (fclN (fupN (fclN (fupN (fclN (fupN (fclN (fupN (fclN (fupN (fclN (fupN (fclN (fupN (fclN (fupN (fclN (fupN (fclN (fupN (fclN (fupN (fclN (fupN (fclN (fupN (fclN (fupN (fclN (fupN (fclN (fupN (fclN (fupN (fclN (fupN (fclN (fupN (fclN (fupN (fclN (fupN (fclN J 123) 122 1 124) 124) 122 6 125) 125) 122 7 126) 126) 122 8 127) 127) 122 9 128) 128) 122 22 129) 129) 122 23 130) 130) 122 29 131) 131) 122 30 132) 132) 122 33 133) 133) 122 34 134) 134) 122 35 135) 135) 122 36 136) 136) 122 37 137) 137) 122 38 138) 138) 122 42 139) 139) 122 43 140) 140) 122 44 141) 141) 122 45 142) 142) 122 50 143) 143) 122 52 144) 144) 122 53 145) 145) 122 54 146) 146) 122 55 147) 147) 122 56 148) 148) 122 58 149) 149) 122 59 150) 150) 122 61 151) 151) 122 62 152) 152) 122 63 153) 153) 122 64 154) 154) 122 65 155), M) Q := by
  refine fLp_wp (W := fun s => Wp (d + 0, 204, 53, 0, 0, [some (fA 122), some (fI l1), some (fI s.1)], []) (155, (fupN (fclN (fupN (fclN (fupN (fclN (fupN (fclN (fupN (fclN (fupN (fclN (fupN (fclN (fupN (fclN (fupN (fclN (fupN (fclN (fupN (fclN (fupN (fclN (fupN (fclN (fupN (fclN (fupN (fclN (fupN (fclN (fupN (fclN (fupN (fclN (fupN (fclN (fupN (fclN (fupN (fclN (fupN (fclN (fupN (fclN (fupN (fclN (fupN (fclN (fupN (fclN (fupN (fclN (fupN (fclN (fupN (fclN (fupN (fclN (fupN (fclN (fupN (fclN J 123) 122 1 124) 124) 122 6 125) 125) 122 7 126) 126) 122 8 127) 127) 122 9 128) 128) 122 22 129) 129) 122 23 130) 130) 122 29 131) 131) 122 30 132) 132) 122 33 133) 133) 122 34 134) 134) 122 35 135) 135) 122 36 136) 136) 122 37 137) 137) 122 38 138) 138) 122 42 139) 139) 122 43 140) 140) 122 44 141) 141) 122 45 142) 142) 122 50 143) 143) 122 52 144) 144) 122 53 145) 145) 122 54 146) 146) 122 55 147) 147) 122 56 148) 148) 122 58 149) 149) 122 59 150) 150) 122 61 151) 151) 122 62 152) 152) 122 63 153) 153) 122 64 154) 154) 122 65 155), s.2) Q) (e := r) ?_ h
  intro s r1 h hC hX
  refine s_X12_begin_c155_b53_ok (d := d) h (fun a0 a1 e1 => ?_) (fun e u0 e1 => hE e u0 (hX _ e1).symm)
  exact hC _ e1
noncomputable def s_X12_begin_c155_j128 (M : fM) : Option (Unit × fM) :=
  some ((), M)
theorem s_X12_begin_c155_j128_ok {d : Nat} {J : Nat → Nat → Nat} {M : fM} {o0 o1 o2 : Option fV} {r : (Unit × fM)} {Q : fO → fH → Prop} (h : s_X12_begin_c155_j128 M = some r) (H : Q (oV r.1) (155, (fupN (fclN (fupN (fclN (fupN (fclN (fupN (fclN (fupN (fclN (fupN (fclN (fupN (fclN (fupN (fclN (fupN (fclN (fupN (fclN (fupN (fclN (fupN (fclN (fupN (fclN (fupN (fclN (fupN (fclN (fupN (fclN (fupN (fclN (fupN (fclN (fupN (fclN (fupN (fclN (fupN (fclN (fupN (fclN (fupN (fclN (fupN (fclN (fupN (fclN (fupN (fclN (fupN (fclN (fupN (fclN (fupN (fclN (fupN (fclN (fupN (fclN (fupN (fclN J 123) 122 1 124) 124) 122 6 125) 125) 122 7 126) 126) 122 8 127) 127) 122 9 128) 128) 122 22 129) 129) 122 23 130) 130) 122 29 131) 131) 122 30 132) 132) 122 33 133) 133) 122 34 134) 134) 122 35 135) 135) 122 36 136) 136) 122 37 137) 137) 122 38 138) 138) 122 42 139) 139) 122 43 140) 140) 122 44 141) 141) 122 45 142) 142) 122 50 143) 143) 122 52 144) 144) 122 53 145) 145) 122 54 146) 146) 122 55 147) 147) 122 56 148) 148) 122 58 149) 149) 122 59 150) 150) 122 61 151) 151) 122 62 152) 152) 122 63 153) 153) 122 64 154) 154) 122 65 155), r.2)) : Wp (d + 0, 204, 128, 0, 0, [o0, o1, o2], []) (155, (fupN (fclN (fupN (fclN (fupN (fclN (fupN (fclN (fupN (fclN (fupN (fclN (fupN (fclN (fupN (fclN (fupN (fclN (fupN (fclN (fupN (fclN (fupN (fclN (fupN (fclN (fupN (fclN (fupN (fclN (fupN (fclN (fupN (fclN (fupN (fclN (fupN (fclN (fupN (fclN (fupN (fclN (fupN (fclN (fupN (fclN (fupN (fclN (fupN (fclN (fupN (fclN (fupN (fclN (fupN (fclN (fupN (fclN (fupN (fclN (fupN (fclN (fupN (fclN J 123) 122 1 124) 124) 122 6 125) 125) 122 7 126) 126) 122 8 127) 127) 122 9 128) 128) 122 22 129) 129) 122 23 130) 130) 122 29 131) 131) 122 30 132) 132) 122 33 133) 133) 122 34 134) 134) 122 35 135) 135) 122 36 136) 136) 122 37 137) 137) 122 38 138) 138) 122 42 139) 139) 122 43 140) 140) 122 44 141) 141) 122 45 142) 142) 122 50 143) 143) 122 52 144) 144) 122 53 145) 145) 122 54 146) 146) 122 55 147) 147) 122 56 148) 148) 122 58 149) 149) 122 59 150) 150) 122 61 151) 151) 122 62 152) 152) 122 63 153) 153) 122 64 154) 154) 122 65 155), M) Q := by
  unfold s_X12_begin_c155_j128 at h
  obtain rfl := Option.some.inj h
  exact Wp.done rfl (by decide) H
noncomputable def s_X12_begin_c155_j102 (M : fM) (l1 : Int) : Option (Unit × fM) :=
  if fin (l1 + 170) ∧ (0 ≤ (l1 + 170) ∧ (l1 + 170) < 1290) ∧ fin (l1 + 171) ∧ (0 ≤ (l1 + 171) ∧ (l1 + 171) < 1290) then
    s_X12_begin_c155_j128 (fup (fup M 124 (l1 + 170).toNat 480) 124 (l1 + 171).toNat 1080)
  else none
theorem s_X12_begin_c155_j102_ok {d : Nat} {J : Nat → Nat → Nat} {M : fM} {l1 : Int} {o2 : Option fV} {r : (Unit × fM)} {Q : fO → fH → Prop} (h : s_X12_begin_c155_j102 M l1 = some r) (H : Q (oV r.1) (155, (fupN (fclN (fupN (fclN (fupN (fclN (fupN (fclN (fupN (fclN (fupN (fclN (fupN (fclN (fupN (fclN (fupN (fclN (fupN (fclN (fupN (fclN (fupN (fclN (fupN (fclN (fupN (fclN (fupN (fclN (fupN (fclN (fupN (fclN (fupN (fclN (fupN (fclN (fupN (fclN (fupN (fclN (fupN (fclN (fupN (fclN (fupN (fclN (fupN (fclN (fupN (fclN (fupN (fclN (fupN (fclN (fupN (fclN (fupN (fclN (fupN (fclN (fupN (fclN J 123) 122 1 124) 124) 122 6 125) 125) 122 7 126) 126) 122 8 127) 127) 122 9 128) 128) 122 22 129) 129) 122 23 130) 130) 122 29 131) 131) 122 30 132) 132) 122 33 133) 133) 122 34 134) 134) 122 35 135) 135) 122 36 136) 136) 122 37 137) 137) 122 38 138) 138) 122 42 139) 139) 122 43 140) 140) 122 44 141) 141) 122 45 142) 142) 122 50 143) 143) 122 52 144) 144) 122 53 145) 145) 122 54 146) 146) 122 55 147) 147) 122 56 148) 148) 122 58 149) 149) 122 59 150) 150) 122 61 151) 151) 122 62 152) 152) 122 63 153) 153) 122 64 154) 154) 122 65 155), r.2)) : Wp (d + 0, 204, 102, 0, 0, [some (fA 122), some (fI l1), o2], []) (155, (fupN (fclN (fupN (fclN (fupN (fclN (fupN (fclN (fupN (fclN (fupN (fclN (fupN (fclN (fupN (fclN (fupN (fclN (fupN (fclN (fupN (fclN (fupN (fclN (fupN (fclN (fupN (fclN (fupN (fclN (fupN (fclN (fupN (fclN (fupN (fclN (fupN (fclN (fupN (fclN (fupN (fclN (fupN (fclN (fupN (fclN (fupN (fclN (fupN (fclN (fupN (fclN (fupN (fclN (fupN (fclN (fupN (fclN (fupN (fclN (fupN (fclN (fupN (fclN J 123) 122 1 124) 124) 122 6 125) 125) 122 7 126) 126) 122 8 127) 127) 122 9 128) 128) 122 22 129) 129) 122 23 130) 130) 122 29 131) 131) 122 30 132) 132) 122 33 133) 133) 122 34 134) 134) 122 35 135) 135) 122 36 136) 136) 122 37 137) 137) 122 38 138) 138) 122 42 139) 139) 122 43 140) 140) 122 44 141) 141) 122 45 142) 142) 122 50 143) 143) 122 52 144) 144) 122 53 145) 145) 122 54 146) 146) 122 55 147) 147) 122 56 148) 148) 122 58 149) 149) 122 59 150) 150) 122 61 151) 151) 122 62 152) 152) 122 63 153) 153) 122 64 154) 154) 122 65 155), M) Q := by
  unfold s_X12_begin_c155_j102 at h
  obtain ⟨⟨g0, g1, g2, g3⟩, h⟩ := fgd h
  refine Wp.run 14 (P := [0 ≤ (fw (l1 + 170)) ∧ (fw (l1 + 170)) < 1290, 0 ≤ (fw (l1 + 171)) ∧ (fw (l1 + 171)) < 1290]) (f' := (d + 0, 204, 128, 0, 0, [_, _, _], [])) (h' := (155, (fupN (fclN (fupN (fclN (fupN (fclN (fupN (fclN (fupN (fclN (fupN (fclN (fupN (fclN (fupN (fclN (fupN (fclN (fupN (fclN (fupN (fclN (fupN (fclN (fupN (fclN (fupN (fclN (fupN (fclN (fupN (fclN (fupN (fclN (fupN (fclN (fupN (fclN (fupN (fclN (fupN (fclN (fupN (fclN (fupN (fclN (fupN (fclN (fupN (fclN (fupN (fclN (fupN (fclN (fupN (fclN (fupN (fclN (fupN (fclN (fupN (fclN (fupN (fclN J 123) 122 1 124) 124) 122 6 125) 125) 122 7 126) 126) 122 8 127) 127) 122 9 128) 128) 122 22 129) 129) 122 23 130) 130) 122 29 131) 131) 122 30 132) 132) 122 33 133) 133) 122 34 134) 134) 122 35 135) 135) 122 36 136) 136) 122 37 137) 137) 122 38 138) 138) 122 42 139) 139) 122 43 140) 140) 122 44 141) 141) 122 45 142) 142) 122 50 143) 143) 122 52 144) 144) 122 53 145) 145) 122 54 146) 146) 122 55 147) 147) 122 56 148) 148) 122 58 149) 149) 122 59 150) 150) 122 61 151) 151) 122 62 152) 152) 122 63 153) 153) 122 64 154) 154) 122 65 155), (fup (fup M 124 (fw (l1 + 170)).toNat 480) 124 (fw (l1 + 171)).toNat 1080))) rfl ?_ ?_
  · rw [fw_id g0, fw_id g2]; exact ⟨g1, g3⟩
  rw [fw_id g0, fw_id g2]
  exact s_X12_begin_c155_j128_ok h H
noncomputable def s_X12_begin_c155 (M : fM) (l1 : Int) : Option (Unit × fM) :=
  (s_X12_begin_c155_l2 l1 (0, M)).bind fun e2 =>
    (s_X12_begin_c155_l26 l1 (0, e2)).bind fun e26 =>
      (s_X12_begin_c155_l53 l1 (0, e26)).bind fun e53 =>
        if fin (l1 + 168) ∧ (0 ≤ (l1 + 168) ∧ (l1 + 168) < 1290) ∧ fin (l1 + 169) ∧ (0 ≤ (l1 + 169) ∧ (l1 + 169) < 1290) then
          s_X12_begin_c155_j102 (fup (fup e53 124 (l1 + 168).toNat 5) 124 (l1 + 169).toNat 60) l1
        else none
theorem s_X12_begin_c155_ok {d : Nat} {J : Nat → Nat → Nat} {M : fM} {l1 : Int} {r : (Unit × fM)} {Q : fO → fH → Prop} (h : s_X12_begin_c155 M l1 = some r) (H : Q (oV r.1) (155, (fupN (fclN (fupN (fclN (fupN (fclN (fupN (fclN (fupN (fclN (fupN (fclN (fupN (fclN (fupN (fclN (fupN (fclN (fupN (fclN (fupN (fclN (fupN (fclN (fupN (fclN (fupN (fclN (fupN (fclN (fupN (fclN (fupN (fclN (fupN (fclN (fupN (fclN (fupN (fclN (fupN (fclN (fupN (fclN (fupN (fclN (fupN (fclN (fupN (fclN (fupN (fclN (fupN (fclN (fupN (fclN (fupN (fclN (fupN (fclN (fupN (fclN (fupN (fclN J 123) 122 1 124) 124) 122 6 125) 125) 122 7 126) 126) 122 8 127) 127) 122 9 128) 128) 122 22 129) 129) 122 23 130) 130) 122 29 131) 131) 122 30 132) 132) 122 33 133) 133) 122 34 134) 134) 122 35 135) 135) 122 36 136) 136) 122 37 137) 137) 122 38 138) 138) 122 42 139) 139) 122 43 140) 140) 122 44 141) 141) 122 45 142) 142) 122 50 143) 143) 122 52 144) 144) 122 53 145) 145) 122 54 146) 146) 122 55 147) 147) 122 56 148) 148) 122 58 149) 149) 122 59 150) 150) 122 61 151) 151) 122 62 152) 152) 122 63 153) 153) 122 64 154) 154) 122 65 155), r.2)) : Wp (d + 0, 204, 0, 0, 0, [some (fA 122), some (fI l1), none], []) (155, (fupN (fclN (fupN (fclN (fupN (fclN (fupN (fclN (fupN (fclN (fupN (fclN (fupN (fclN (fupN (fclN (fupN (fclN (fupN (fclN (fupN (fclN (fupN (fclN (fupN (fclN (fupN (fclN (fupN (fclN (fupN (fclN (fupN (fclN (fupN (fclN (fupN (fclN (fupN (fclN (fupN (fclN (fupN (fclN (fupN (fclN (fupN (fclN (fupN (fclN (fupN (fclN (fupN (fclN (fupN (fclN (fupN (fclN (fupN (fclN (fupN (fclN (fupN (fclN J 123) 122 1 124) 124) 122 6 125) 125) 122 7 126) 126) 122 8 127) 127) 122 9 128) 128) 122 22 129) 129) 122 23 130) 130) 122 29 131) 131) 122 30 132) 132) 122 33 133) 133) 122 34 134) 134) 122 35 135) 135) 122 36 136) 136) 122 37 137) 137) 122 38 138) 138) 122 42 139) 139) 122 43 140) 140) 122 44 141) 141) 122 45 142) 142) 122 50 143) 143) 122 52 144) 144) 122 53 145) 145) 122 54 146) 146) 122 55 147) 147) 122 56 148) 148) 122 58 149) 149) 122 59 150) 150) 122 61 151) 151) 122 62 152) 152) 122 63 153) 153) 122 64 154) 154) 122 65 155), M) Q := by
  unfold s_X12_begin_c155 at h
  refine Wp.run 2 (f' := (d + 0, 204, 2, 0, 0, [some (fA 122), some (fI l1), some (fI 0)], [])) (h' := (155, (fupN (fclN (fupN (fclN (fupN (fclN (fupN (fclN (fupN (fclN (fupN (fclN (fupN (fclN (fupN (fclN (fupN (fclN (fupN (fclN (fupN (fclN (fupN (fclN (fupN (fclN (fupN (fclN (fupN (fclN (fupN (fclN (fupN (fclN (fupN (fclN (fupN (fclN (fupN (fclN (fupN (fclN (fupN (fclN (fupN (fclN (fupN (fclN (fupN (fclN (fupN (fclN (fupN (fclN (fupN (fclN (fupN (fclN (fupN (fclN (fupN (fclN (fupN (fclN J 123) 122 1 124) 124) 122 6 125) 125) 122 7 126) 126) 122 8 127) 127) 122 9 128) 128) 122 22 129) 129) 122 23 130) 130) 122 29 131) 131) 122 30 132) 132) 122 33 133) 133) 122 34 134) 134) 122 35 135) 135) 122 36 136) 136) 122 37 137) 137) 122 38 138) 138) 122 42 139) 139) 122 43 140) 140) 122 44 141) 141) 122 45 142) 142) 122 50 143) 143) 122 52 144) 144) 122 53 145) 145) 122 54 146) 146) 122 55 147) 147) 122 56 148) 148) 122 58 149) 149) 122 59 150) 150) 122 61 151) 151) 122 62 152) 152) 122 63 153) 153) 122 64 154) 154) 122 65 155), M)) rfl trivial ?_
  obtain ⟨e2, hy, h⟩ := fbd h
  refine s_X12_begin_c155_l2_ok hy (fun x u2 ex => ?_)
  cases ex
  show Wp (d + 0, 204, 24, 0, 0, [some (fA 122), some (fI l1), u2], []) (155, (fupN (fclN (fupN (fclN (fupN (fclN (fupN (fclN (fupN (fclN (fupN (fclN (fupN (fclN (fupN (fclN (fupN (fclN (fupN (fclN (fupN (fclN (fupN (fclN (fupN (fclN (fupN (fclN (fupN (fclN (fupN (fclN (fupN (fclN (fupN (fclN (fupN (fclN (fupN (fclN (fupN (fclN (fupN (fclN (fupN (fclN (fupN (fclN (fupN (fclN (fupN (fclN (fupN (fclN (fupN (fclN (fupN (fclN (fupN (fclN (fupN (fclN (fupN (fclN J 123) 122 1 124) 124) 122 6 125) 125) 122 7 126) 126) 122 8 127) 127) 122 9 128) 128) 122 22 129) 129) 122 23 130) 130) 122 29 131) 131) 122 30 132) 132) 122 33 133) 133) 122 34 134) 134) 122 35 135) 135) 122 36 136) 136) 122 37 137) 137) 122 38 138) 138) 122 42 139) 139) 122 43 140) 140) 122 44 141) 141) 122 45 142) 142) 122 50 143) 143) 122 52 144) 144) 122 53 145) 145) 122 54 146) 146) 122 55 147) 147) 122 56 148) 148) 122 58 149) 149) 122 59 150) 150) 122 61 151) 151) 122 62 152) 152) 122 63 153) 153) 122 64 154) 154) 122 65 155), e2) Q
  refine Wp.run 2 (f' := (d + 0, 204, 26, 0, 0, [some (fA 122), some (fI l1), some (fI 0)], [])) (h' := (155, (fupN (fclN (fupN (fclN (fupN (fclN (fupN (fclN (fupN (fclN (fupN (fclN (fupN (fclN (fupN (fclN (fupN (fclN (fupN (fclN (fupN (fclN (fupN (fclN (fupN (fclN (fupN (fclN (fupN (fclN (fupN (fclN (fupN (fclN (fupN (fclN (fupN (fclN (fupN (fclN (fupN (fclN (fupN (fclN (fupN (fclN (fupN (fclN (fupN (fclN (fupN (fclN (fupN (fclN (fupN (fclN (fupN (fclN (fupN (fclN (fupN (fclN (fupN (fclN J 123) 122 1 124) 124) 122 6 125) 125) 122 7 126) 126) 122 8 127) 127) 122 9 128) 128) 122 22 129) 129) 122 23 130) 130) 122 29 131) 131) 122 30 132) 132) 122 33 133) 133) 122 34 134) 134) 122 35 135) 135) 122 36 136) 136) 122 37 137) 137) 122 38 138) 138) 122 42 139) 139) 122 43 140) 140) 122 44 141) 141) 122 45 142) 142) 122 50 143) 143) 122 52 144) 144) 122 53 145) 145) 122 54 146) 146) 122 55 147) 147) 122 56 148) 148) 122 58 149) 149) 122 59 150) 150) 122 61 151) 151) 122 62 152) 152) 122 63 153) 153) 122 64 154) 154) 122 65 155), e2)) rfl trivial ?_
  obtain ⟨e26, hy, h⟩ := fbd h
  refine s_X12_begin_c155_l26_ok hy (fun x u2 ex => ?_)
  cases ex
  show Wp (d + 0, 204, 51, 0, 0, [some (fA 122), some (fI l1), u2], []) (155, (fupN (fclN (fupN (fclN (fupN (fclN (fupN (fclN (fupN (fclN (fupN (fclN (fupN (fclN (fupN (fclN (fupN (fclN (fupN (fclN (fupN (fclN (fupN (fclN (fupN (fclN (fupN (fclN (fupN (fclN (fupN (fclN (fupN (fclN (fupN (fclN (fupN (fclN (fupN (fclN (fupN (fclN (fupN (fclN (fupN (fclN (fupN (fclN (fupN (fclN (fupN (fclN (fupN (fclN (fupN (fclN (fupN (fclN (fupN (fclN (fupN (fclN (fupN (fclN J 123) 122 1 124) 124) 122 6 125) 125) 122 7 126) 126) 122 8 127) 127) 122 9 128) 128) 122 22 129) 129) 122 23 130) 130) 122 29 131) 131) 122 30 132) 132) 122 33 133) 133) 122 34 134) 134) 122 35 135) 135) 122 36 136) 136) 122 37 137) 137) 122 38 138) 138) 122 42 139) 139) 122 43 140) 140) 122 44 141) 141) 122 45 142) 142) 122 50 143) 143) 122 52 144) 144) 122 53 145) 145) 122 54 146) 146) 122 55 147) 147) 122 56 148) 148) 122 58 149) 149) 122 59 150) 150) 122 61 151) 151) 122 62 152) 152) 122 63 153) 153) 122 64 154) 154) 122 65 155), e26) Q
  refine Wp.run 2 (f' := (d + 0, 204, 53, 0, 0, [some (fA 122), some (fI l1), some (fI 0)], [])) (h' := (155, (fupN (fclN (fupN (fclN (fupN (fclN (fupN (fclN (fupN (fclN (fupN (fclN (fupN (fclN (fupN (fclN (fupN (fclN (fupN (fclN (fupN (fclN (fupN (fclN (fupN (fclN (fupN (fclN (fupN (fclN (fupN (fclN (fupN (fclN (fupN (fclN (fupN (fclN (fupN (fclN (fupN (fclN (fupN (fclN (fupN (fclN (fupN (fclN (fupN (fclN (fupN (fclN (fupN (fclN (fupN (fclN (fupN (fclN (fupN (fclN (fupN (fclN (fupN (fclN J 123) 122 1 124) 124) 122 6 125) 125) 122 7 126) 126) 122 8 127) 127) 122 9 128) 128) 122 22 129) 129) 122 23 130) 130) 122 29 131) 131) 122 30 132) 132) 122 33 133) 133) 122 34 134) 134) 122 35 135) 135) 122 36 136) 136) 122 37 137) 137) 122 38 138) 138) 122 42 139) 139) 122 43 140) 140) 122 44 141) 141) 122 45 142) 142) 122 50 143) 143) 122 52 144) 144) 122 53 145) 145) 122 54 146) 146) 122 55 147) 147) 122 56 148) 148) 122 58 149) 149) 122 59 150) 150) 122 61 151) 151) 122 62 152) 152) 122 63 153) 153) 122 64 154) 154) 122 65 155), e26)) rfl trivial ?_
  obtain ⟨e53, hy, h⟩ := fbd h
  refine s_X12_begin_c155_l53_ok hy (fun x u2 ex => ?_)
  cases ex
  show Wp (d + 0, 204, 79, 0, 0, [some (fA 122), some (fI l1), u2], []) (155, (fupN (fclN (fupN (fclN (fupN (fclN (fupN (fclN (fupN (fclN (fupN (fclN (fupN (fclN (fupN (fclN (fupN (fclN (fupN (fclN (fupN (fclN (fupN (fclN (fupN (fclN (fupN (fclN (fupN (fclN (fupN (fclN (fupN (fclN (fupN (fclN (fupN (fclN (fupN (fclN (fupN (fclN (fupN (fclN (fupN (fclN (fupN (fclN (fupN (fclN (fupN (fclN (fupN (fclN (fupN (fclN (fupN (fclN (fupN (fclN (fupN (fclN (fupN (fclN J 123) 122 1 124) 124) 122 6 125) 125) 122 7 126) 126) 122 8 127) 127) 122 9 128) 128) 122 22 129) 129) 122 23 130) 130) 122 29 131) 131) 122 30 132) 132) 122 33 133) 133) 122 34 134) 134) 122 35 135) 135) 122 36 136) 136) 122 37 137) 137) 122 38 138) 138) 122 42 139) 139) 122 43 140) 140) 122 44 141) 141) 122 45 142) 142) 122 50 143) 143) 122 52 144) 144) 122 53 145) 145) 122 54 146) 146) 122 55 147) 147) 122 56 148) 148) 122 58 149) 149) 122 59 150) 150) 122 61 151) 151) 122 62 152) 152) 122 63 153) 153) 122 64 154) 154) 122 65 155), e53) Q
  obtain ⟨⟨g0, g1, g2, g3⟩, h⟩ := fgd h
  refine Wp.run 14 (P := [0 ≤ (fw (l1 + 168)) ∧ (fw (l1 + 168)) < 1290, 0 ≤ (fw (l1 + 169)) ∧ (fw (l1 + 169)) < 1290]) (f' := (d + 0, 204, 102, 0, 0, [some (fA 122), some (fI l1), _], [])) (h' := (155, (fupN (fclN (fupN (fclN (fupN (fclN (fupN (fclN (fupN (fclN (fupN (fclN (fupN (fclN (fupN (fclN (fupN (fclN (fupN (fclN (fupN (fclN (fupN (fclN (fupN (fclN (fupN (fclN (fupN (fclN (fupN (fclN (fupN (fclN (fupN (fclN (fupN (fclN (fupN (fclN (fupN (fclN (fupN (fclN (fupN (fclN (fupN (fclN (fupN (fclN (fupN (fclN (fupN (fclN (fupN (fclN (fupN (fclN (fupN (fclN (fupN (fclN (fupN (fclN J 123) 122 1 124) 124) 122 6 125) 125) 122 7 126) 126) 122 8 127) 127) 122 9 128) 128) 122 22 129) 129) 122 23 130) 130) 122 29 131) 131) 122 30 132) 132) 122 33 133) 133) 122 34 134) 134) 122 35 135) 135) 122 36 136) 136) 122 37 137) 137) 122 38 138) 138) 122 42 139) 139) 122 43 140) 140) 122 44 141) 141) 122 45 142) 142) 122 50 143) 143) 122 52 144) 144) 122 53 145) 145) 122 54 146) 146) 122 55 147) 147) 122 56 148) 148) 122 58 149) 149) 122 59 150) 150) 122 61 151) 151) 122 62 152) 152) 122 63 153) 153) 122 64 154) 154) 122 65 155), (fup (fup e53 124 (fw (l1 + 168)).toNat 5) 124 (fw (l1 + 169)).toNat 60))) rfl ?_ ?_
  · rw [fw_id g0, fw_id g2]; exact ⟨g1, g3⟩
  rw [fw_id g0, fw_id g2]
  exact s_X12_begin_c155_j102_ok h H
abbrev jn_s_X12_init_c123_j56 (J : Nat → Nat → Nat) : Nat → Nat → Nat := (fupN (fclN (fupN (fclN (fupN (fclN (fupN (fclN (fupN (fclN (fupN (fclN J 123) 122 1 124) 124) 122 6 125) 125) 122 7 126) 126) 122 8 127) 127) 122 9 128) 128) 122 22 129)
abbrev jn_s_X12_init_c123_j80 (J : Nat → Nat → Nat) : Nat → Nat → Nat := (fupN (fclN (fupN (fclN (fupN (fclN (jn_s_X12_init_c123_j56 J) 129) 122 23 130) 130) 122 29 131) 131) 122 30 132)
abbrev jn_s_X12_init_c123_j105 (J : Nat → Nat → Nat) : Nat → Nat → Nat := (fupN (fclN (fupN (fclN (fupN (fclN (jn_s_X12_init_c123_j80 J) 132) 122 33 133) 133) 122 34 134) 134) 122 35 135)
abbrev jn_s_X12_init_c123_j129 (J : Nat → Nat → Nat) : Nat → Nat → Nat := (fupN (fclN (fupN (fclN (fupN (fclN (jn_s_X12_init_c123_j105 J) 135) 122 36 136) 136) 122 37 137) 137) 122 38 138)
abbrev jn_s_X12_init_c123_j153 (J : Nat → Nat → Nat) : Nat → Nat → Nat := (fupN (fclN (fupN (fclN (fupN (fclN (jn_s_X12_init_c123_j129 J) 138) 122 42 139) 139) 122 43 140) 140) 122 44 141)
abbrev jn_s_X12_init_c123_j183 (J : Nat → Nat → Nat) : Nat → Nat → Nat := (fupN (fclN (fupN (fclN (fupN (fclN (jn_s_X12_init_c123_j153 J) 141) 122 45 142) 142) 122 50 143) 143) 122 52 144)
abbrev jn_s_X12_init_c123_j208 (J : Nat → Nat → Nat) : Nat → Nat → Nat := (fupN (fclN (fupN (fclN (fupN (fclN (jn_s_X12_init_c123_j183 J) 144) 122 53 145) 145) 122 54 146) 146) 122 55 147)
abbrev jn_s_X12_init_c123_j232 (J : Nat → Nat → Nat) : Nat → Nat → Nat := (fupN (fclN (fupN (fclN (fupN (fclN (jn_s_X12_init_c123_j208 J) 147) 122 56 148) 148) 122 58 149) 149) 122 59 150)
abbrev jn_s_X12_init_c123_j257 (J : Nat → Nat → Nat) : Nat → Nat → Nat := (fupN (fclN (fupN (fclN (fupN (fclN (jn_s_X12_init_c123_j232 J) 150) 122 61 151) 151) 122 62 152) 152) 122 63 153)
noncomputable def s_X12_init_c123_j546 (M : fM) : Option (Unit × fM) :=
  (s_X12_begin_c155 (fup (fup M 127 28 28526) 127 29 461414299502) 0).bind fun y568 =>
    some ((), y568.2)
set_option maxRecDepth 100000 in
theorem s_X12_init_c123_j546_ok {d : Nat} {J : Nat → Nat → Nat} {M : fM} {r : (Unit × fM)} {Q : fO → fH → Prop} (h : s_X12_init_c123_j546 M = some r) (H : Q (oV r.1) (155, (fupN (fclN (fupN (fclN (jn_s_X12_init_c123_j257 J) 153) 122 64 154) 154) 122 65 155), r.2)) : Wp (d + 1, 203, 546, 32, 56586, [some (fA 122)], []) (155, (fupN (fclN (fupN (fclN (jn_s_X12_init_c123_j257 J) 153) 122 64 154) 154) 122 65 155), M) Q := by
  unfold s_X12_init_c123_j546 at h
  refine Wp.run 12 (P := [(0 : Int) ≤ 28 ∧ (28 : Int) < 30, (0 : Int) ≤ 29 ∧ (29 : Int) < 30]) (f' := (d + 1, 203, 568, 32, 56586, [_], [fI 0, fA 122])) (h' := (155, (fupN (fclN (fupN (fclN (jn_s_X12_init_c123_j257 J) 153) 122 64 154) 154) 122 65 155), (fup (fup M 127 28 28526) 127 29 461414299502))) rfl ?_ ?_
  · exact ⟨(by decide : (0 : Int) ≤ 28 ∧ (28 : Int) < 30), (by decide : (0 : Int) ≤ 29 ∧ (29 : Int) < 30)⟩
  obtain ⟨y568, hy, h⟩ := fbd h
  refine Wp.call rfl (by decide) (s_X12_begin_c155_ok (d := d + 0) hy ?_)
  show Wp (d + 1, 203, 571, 32, 56586, [_], []) (155, (fupN (fclN (fupN (fclN (jn_s_X12_init_c123_j257 J) 153) 122 64 154) 154) 122 65 155), y568.2) Q
  obtain rfl := Option.some.inj h
  exact Wp.done rfl (by decide) H
noncomputable def s_X12_init_c123_j516 (M : fM) : Option (Unit × fM) :=
  s_X12_init_c123_j546 (fup (fup (fup M 127 25 6386789) 127 26 27988542599033460) 127 27 470021465444)
set_option maxRecDepth 100000 in
theorem s_X12_init_c123_j516_ok {d : Nat} {J : Nat → Nat → Nat} {M : fM} {r : (Unit × fM)} {Q : fO → fH → Prop} (h : s_X12_init_c123_j516 M = some r) (H : Q (oV r.1) (155, (fupN (fclN (fupN (fclN (jn_s_X12_init_c123_j257 J) 153) 122 64 154) 154) 122 65 155), r.2)) : Wp (d + 1, 203, 516, 32, 56586, [some (fA 122)], []) (155, (fupN (fclN (fupN (fclN (jn_s_X12_init_c123_j257 J) 153) 122 64 154) 154) 122 65 155), M) Q := by
  unfold s_X12_init_c123_j516 at h
  refine Wp.run 15 (P := [(0 : Int) ≤ 25 ∧ (25 : Int) < 30, (0 : Int) ≤ 26 ∧ (26 : Int) < 30, (0 : Int) ≤ 27 ∧ (27 : Int) < 30]) (f' := (d + 1, 203, 546, 32, 56586, [some (fA 122)], [])) (h' := (155, (fupN (fclN (fupN (fclN (jn_s_X12_init_c123_j257 J) 153) 122 64 154) 154) 122 65 155), (fup (fup (fup M 127 25 6386789) 127 26 27988542599033460) 127 27 470021465444))) rfl ?_ ?_
  · exact ⟨(by decide : (0 : Int) ≤ 25 ∧ (25 : Int) < 30), (by decide : (0 : Int) ≤ 26 ∧ (26 : Int) < 30), (by decide : (0 : Int) ≤ 27 ∧ (27 : Int) < 30)⟩
  exact s_X12_init_c123_j546_ok h H
noncomputable def s_X12_init_c123_j486 (M : fM) : Option (Unit × fM) :=
  s_X12_init_c123_j516 (fup (fup (fup M 127 22 439956631140) 127 23 422826699621) 127 24 1885432164)
set_option maxRecDepth 100000 in
theorem s_X12_init_c123_j486_ok {d : Nat} {J : Nat → Nat → Nat} {M : fM} {r : (Unit × fM)} {Q : fO → fH → Prop} (h : s_X12_init_c123_j486 M = some r) (H : Q (oV r.1) (155, (fupN (fclN (fupN (fclN (jn_s_X12_init_c123_j257 J) 153) 122 64 154) 154) 122 65 155), r.2)) : Wp (d + 1, 203, 486, 32, 56586, [some (fA 122)], []) (155, (fupN (fclN (fupN (fclN (jn_s_X12_init_c123_j257 J) 153) 122 64 154) 154) 122 65 155), M) Q := by
  unfold s_X12_init_c123_j486 at h
  refine Wp.run 15 (P := [(0 : Int) ≤ 22 ∧ (22 : Int) < 30, (0 : Int) ≤ 23 ∧ (23 : Int) < 30, (0 : Int) ≤ 24 ∧ (24 : Int) < 30]) (f' := (d + 1, 203, 516, 32, 56586, [some (fA 122)], [])) (h' := (155, (fupN (fclN (fupN (fclN (jn_s_X12_init_c123_j257 J) 153) 122 64 154) 154) 122 65 155), (fup (fup (fup M 127 22 439956631140) 127 23 422826699621) 127 24 1885432164))) rfl ?_ ?_
  · exact ⟨(by decide : (0 : Int) ≤ 22 ∧ (22 : Int) < 30), (by decide : (0 : Int) ≤ 23 ∧ (23 : Int) < 30), (by decide : (0 : Int) ≤ 24 ∧ (24 : Int) < 30)⟩
  exact s_X12_init_c123_j516_ok h H
noncomputable def s_X12_init_c123_j456 (M : fM) : Option (Unit × fM) :=
  s_X12_init_c123_j486 (fup (fup (fup M 127 19 440005650796) 127 20 1869636974) 127 21 500186375524)
set_option maxRecDepth 100000 in
theorem s_X12_init_c123_j456_ok {d : Nat} {J : Nat → Nat → Nat} {M : fM} {r : (Unit × fM)} {Q : fO → fH → Prop} (h : s_X12_init_c123_j456 M = some r) (H : Q (oV r.1) (155, (fupN (fclN (fupN (fclN (jn_s_X12_init_c123_j257 J) 153) 122 64 154) 154) 122 65 155), r.2)) : Wp (d + 1, 203, 456, 32, 56586, [some (fA 122)], []) (155, (fupN (fclN (fupN (fclN (jn_s_X12_init_c123_j257 J) 153) 122 64 154) 154) 122 65 155), M) Q := by
  unfold s_X12_init_c123_j456 at h
  refine Wp.run 15 (P := [(0 : Int) ≤ 19 ∧ (19 : Int) < 30, (0 : Int) ≤ 20 ∧ (20 : Int) < 30, (0 : Int) ≤ 21 ∧ (21 : Int) < 30]) (f' := (d + 1, 203, 486, 32, 56586, [some (fA 122)], [])) (h' := (155, (fupN (fclN (fupN (fclN (jn_s_X12_init_c123_j257 J) 153) 122 64 154) 154) 122 65 155), (fup (fup (fup M 127 19 440005650796) 127 20 1869636974) 127 21 500186375524))) rfl ?_ ?_
  · exact ⟨(by decide : (0 : Int) ≤ 19 ∧ (19 : Int) < 30), (by decide : (0 : Int) ≤ 20 ∧ (20 : Int) < 30), (by decide : (0 : Int) ≤ 21 ∧ (21 : Int) < 30)⟩
  exact s_X12_init_c123_j486_ok h H
noncomputable def s_X12_init_c123_j426 (M : fM) : Option (Unit × fM) :=
  s_X12_init_c123_j456 (fup (fup (fup M 127 16 1751215212) 127 17 495874700901) 127 18 1936484720)
set_option maxRecDepth 100000 in
theorem s_X12_init_c123_j426_ok {d : Nat} {J : Nat → Nat → Nat} {M : fM} {r : (Unit × fM)} {Q : fO → fH → Prop} (h : s_X12_init_c123_j426 M = some r) (H : Q (oV r.1) (155, (fupN (fclN (fupN (fclN (jn_s_X12_init_c123_j257 J) 153) 122 64 154) 154) 122 65 155), r.2)) : Wp (d + 1, 203, 426, 32, 56586, [some (fA 122)], []) (155, (fupN (fclN (fupN (fclN (jn_s_X12_init_c123_j257 J) 153) 122 64 154) 154) 122 65 155), M) Q := by
  unfold s_X12_init_c123_j426 at h
  refine Wp.run 15 (P := [(0 : Int) ≤ 16 ∧ (16 : Int) < 30, (0 : Int) ≤ 17 ∧ (17 : Int) < 30, (0 : Int) ≤ 18 ∧ (18 : Int) < 30]) (f' := (d + 1, 203, 456, 32, 56586, [some (fA 122)], [])) (h' := (155, (fupN (fclN (fupN (fclN (jn_s_X12_init_c123_j257 J) 153) 122 64 154) 154) 122 65 155), (fup (fup (fup M 127 16 1751215212) 127 17 495874700901) 127 18 1936484720))) rfl ?_ ?_
  · exact ⟨(by decide : (0 : Int) ≤ 16 ∧ (16 : Int) < 30), (by decide : (0 : Int) ≤ 17 ∧ (17 : Int) < 30), (by decide : (0 : Int) ≤ 18 ∧ (18 : Int) < 30)⟩
  exact s_X12_init_c123_j456_ok h H
noncomputable def s_X12_init_c123_j396 (M : fM) : Option (Unit × fM) :=
  s_X12_init_c123_j426 (fup (fup (fup M 127 13 499917087592) 127 14 1752132965) 127 15 126870791090028)
set_option maxRecDepth 100000 in
theorem s_X12_init_c123_j396_ok {d : Nat} {J : Nat → Nat → Nat} {M : fM} {r : (Unit × fM)} {Q : fO → fH → Prop} (h : s_X12_init_c123_j396 M = some r) (H : Q (oV r.1) (155, (fupN (fclN (fupN (fclN (jn_s_X12_init_c123_j257 J) 153) 122 64 154) 154) 122 65 155), r.2)) : Wp (d + 1, 203, 396, 32, 56586, [some (fA 122)], []) (155, (fupN (fclN (fupN (fclN (jn_s_X12_init_c123_j257 J) 153) 122 64 154) 154) 122 65 155), M) Q := by
  unfold s_X12_init_c123_j396 at h
  refine Wp.run 15 (P := [(0 : Int) ≤ 13 ∧ (13 : Int) < 30, (0 : Int) ≤ 14 ∧ (14 : Int) < 30, (0 : Int) ≤ 15 ∧ (15 : Int) < 30]) (f' := (d + 1, 203, 426, 32, 56586, [some (fA 122)], [])) (h' := (155, (fupN (fclN (fupN (fclN (jn_s_X12_init_c123_j257 J) 153) 122 64 154) 154) 122 65 155), (fup (fup (fup M 127 13 499917087592) 127 14 1752132965) 127 15 126870791090028))) rfl ?_ ?_
  · exact ⟨(by decide : (0 : Int) ≤ 13 ∧ (13 : Int) < 30), (by decide : (0 : Int) ≤ 14 ∧ (14 : Int) < 30), (by decide : (0 : Int) ≤ 15 ∧ (15 : Int) < 30)⟩
  exact s_X12_init_c123_j426_ok h H
noncomputable def s_X12_init_c123_j366 (M : fM) : Option (Unit × fM) :=
  s_X12_init_c123_j396 (fup (fup (fup M 127 10 500186375538) 127 11 1718579819) 127 12 483006638444)
set_option maxRecDepth 100000 in
theorem s_X12_init_c123_j366_ok {d : Nat} {J : Nat → Nat → Nat} {M : fM} {r : (Unit × fM)} {Q : fO → fH → Prop} (h : s_X12_init_c123_j366 M = some r) (H : Q (oV r.1) (155, (fupN (fclN (fupN (fclN (jn_s_X12_init_c123_j257 J) 153) 122 64 154) 154) 122 65 155), r.2)) : Wp (d + 1, 203, 366, 32, 56586, [some (fA 122)], []) (155, (fupN (fclN (fupN (fclN (jn_s_X12_init_c123_j257 J) 153) 122 64 154) 154) 122 65 155), M) Q := by
  unfold s_X12_init_c123_j366 at h
  refine Wp.run 15 (P := [(0 : Int) ≤ 10 ∧ (10 : Int) < 30, (0 : Int) ≤ 11 ∧ (11 : Int) < 30, (0 : Int) ≤ 12 ∧ (12 : Int) < 30]) (f' := (d + 1, 203, 396, 32, 56586, [some (fA 122)], [])) (h' := (155, (fupN (fclN (fupN (fclN (jn_s_X12_init_c123_j257 J) 153) 122 64 154) 154) 122 65 155), (fup (fup (fup M 127 10 500186375538) 127 11 1718579819) 127 12 483006638444))) rfl ?_ ?_
  · exact ⟨(by decide : (0 : Int) ≤ 10 ∧ (10 : Int) < 30), (by decide : (0 : Int) ≤ 11 ∧ (11 : Int) < 30), (by decide : (0 : Int) ≤ 12 ∧ (12 : Int) < 30)⟩
  exact s_X12_init_c123_j396_ok h H
noncomputable def s_X12_init_c123_j336 (M : fM) : Option (Unit × fM) :=
  s_X12_init_c123_j366 (fup (fup (fup M 127 7 2003792491) 127 8 6578553) 127 9 482804330095)
set_option maxRecDepth 100000 in
theorem s_X12_init_c123_j336_ok {d : Nat} {J : Nat → Nat → Nat} {M : fM} {r : (Unit × fM)} {Q : fO → fH → Prop} (h : s_X12_init_c123_j336 M = some r) (H : Q (oV r.1) (155, (fupN (fclN (fupN (fclN (jn_s_X12_init_c123_j257 J) 153) 122 64 154) 154) 122 65 155), r.2)) : Wp (d + 1, 203, 336, 32, 56586, [some (fA 122)], []) (155, (fupN (fclN (fupN (fclN (jn_s_X12_init_c123_j257 J) 153) 122 64 154) 154) 122 65 155), M) Q := by
  unfold s_X12_init_c123_j336 at h
  refine Wp.run 15 (P := [(0 : Int) ≤ 7 ∧ (7 : Int) < 30, (0 : Int) ≤ 8 ∧ (8 : Int) < 30, (0 : Int) ≤ 9 ∧ (9 : Int) < 30]) (f' := (d + 1, 203, 366, 32, 56586, [some (fA 122)], [])) (h' := (155, (fupN (fclN (fupN (fclN (jn_s_X12_init_c123_j257 J) 153) 122 64 154) 154) 122 65 155), (fup (fup (fup M 127 7 2003792491) 127 8 6578553) 127 9 482804330095))) rfl ?_ ?_
  · exact ⟨(by decide : (0 : Int) ≤ 7 ∧ (7 : Int) < 30), (by decide : (0 : Int) ≤ 8 ∧ (8 : Int) < 30), (by decide : (0 : Int) ≤ 9 ∧ (9 : Int) < 30)⟩
  exact s_X12_init_c123_j366_ok h H
noncomputable def s_X12_init_c123_j308 (M : fM) : Option (Unit × fM) :=
  s_X12_init_c123_j336 (fup (fup (fup M 127 4 1937076837) 127 5 1667328869) 127 6 2002873451)
set_option maxRecDepth 100000 in
theorem s_X12_init_c123_j308_ok {d : Nat} {J : Nat → Nat → Nat} {M : fM} {r : (Unit × fM)} {Q : fO → fH → Prop} (h : s_X12_init_c123_j308 M = some r) (H : Q (oV r.1) (155, (fupN (fclN (fupN (fclN (jn_s_X12_init_c123_j257 J) 153) 122 64 154) 154) 122 65 155), r.2)) : Wp (d + 1, 203, 308, 32, 56586, [some (fA 122)], []) (155, (fupN (fclN (fupN (fclN (jn_s_X12_init_c123_j257 J) 153) 122 64 154) 154) 122 65 155), M) Q := by
  unfold s_X12_init_c123_j308 at h
  refine Wp.run 15 (P := [(0 : Int) ≤ 4 ∧ (4 : Int) < 30, (0 : Int) ≤ 5 ∧ (5 : Int) < 30, (0 : Int) ≤ 6 ∧ (6 : Int) < 30]) (f' := (d + 1, 203, 336, 32, 56586, [some (fA 122)], [])) (h' := (155, (fupN (fclN (fupN (fclN (jn_s_X12_init_c123_j257 J) 153) 122 64 154) 154) 122 65 155), (fup (fup (fup M 127 4 1937076837) 127 5 1667328869) 127 6 2002873451))) rfl ?_ ?_
  · exact ⟨(by decide : (0 : Int) ≤ 4 ∧ (4 : Int) < 30), (by decide : (0 : Int) ≤ 5 ∧ (5 : Int) < 30), (by decide : (0 : Int) ≤ 6 ∧ (6 : Int) < 30)⟩
  exact s_X12_init_c123_j336_ok h H
noncomputable def s_X12_init_c123_j281 (M : fM) : Option (Unit × fM) :=
  s_X12_init_c123_j308 (fup (fup (fup M 127 1 1684106608) 127 2 1952805485) 127 3 6710629)
set_option maxRecDepth 100000 in
theorem s_X12_init_c123_j281_ok {d : Nat} {J : Nat → Nat → Nat} {M : fM} {r : (Unit × fM)} {Q : fO → fH → Prop} (h : s_X12_init_c123_j281 M = some r) (H : Q (oV r.1) (155, (fupN (fclN (fupN (fclN (jn_s_X12_init_c123_j257 J) 153) 122 64 154) 154) 122 65 155), r.2)) : Wp (d + 1, 203, 281, 32, 56586, [some (fA 122)], []) (155, (fupN (fclN (fupN (fclN (jn_s_X12_init_c123_j257 J) 153) 122 64 154) 154) 122 65 155), M) Q := by
  unfold s_X12_init_c123_j281 at h
  refine Wp.run 15 (P := [(0 : Int) ≤ 1 ∧ (1 : Int) < 30, (0 : Int) ≤ 2 ∧ (2 : Int) < 30, (0 : Int) ≤ 3 ∧ (3 : Int) < 30]) (f' := (d + 1, 203, 308, 32, 56586, [some (fA 122)], [])) (h' := (155, (fupN (fclN (fupN (fclN (jn_s_X12_init_c123_j257 J) 153) 122 64 154) 154) 122 65 155), (fup (fup (fup M 127 1 1684106608) 127 2 1952805485) 127 3 6710629))) rfl ?_ ?_
  · exact ⟨(by decide : (0 : Int) ≤ 1 ∧ (1 : Int) < 30), (by decide : (0 : Int) ≤ 2 ∧ (2 : Int) < 30), (by decide : (0 : Int) ≤ 3 ∧ (3 : Int) < 30)⟩
  exact s_X12_init_c123_j308_ok h H
noncomputable def s_X12_init_c123_j257 (M : fM) : Option (Unit × fM) :=
  s_X12_init_c123_j281 (fup (fclr (fclr M 153) 154) 127 0 499850046565)
set_option maxRecDepth 100000 in
theorem s_X12_init_c123_j257_ok {d : Nat} {J : Nat → Nat → Nat} {M : fM} {r : (Unit × fM)} {Q : fO → fH → Prop} (h : s_X12_init_c123_j257 M = some r) (H : Q (oV r.1) (155, (fupN (fclN (fupN (fclN (jn_s_X12_init_c123_j257 J) 153) 122 64 154) 154) 122 65 155), r.2)) : Wp (d + 1, 203, 257, 30, 56528, [some (fA 122)], []) (153, (jn_s_X12_init_c123_j257 J), M) Q := by
  unfold s_X12_init_c123_j257 at h
  refine Wp.run 13 (P := [(56 : Int) = 56 ∧ 30 + 1 ≤ 32 ∧ 56528 + 56 ≤ 56586, (2 : Int) = 2 ∧ 31 + 1 ≤ 32 ∧ 56584 + 2 ≤ 56586, (0 : Int) ≤ 0 ∧ (0 : Int) < 30]) (f' := (d + 1, 203, 281, 32, 56586, [some (fA 122)], [])) (h' := (155, (fupN (fclN (fupN (fclN (jn_s_X12_init_c123_j257 J) 153) 122 64 154) 154) 122 65 155), (fup (fclr (fclr M 153) 154) 127 0 499850046565))) rfl ?_ ?_
  · exact ⟨(by decide : (56 : Int) = 56 ∧ 30 + 1 ≤ 32 ∧ 56528 + 56 ≤ 56586), (by decide : (2 : Int) = 2 ∧ 31 + 1 ≤ 32 ∧ 56584 + 2 ≤ 56586), (by decide : (0 : Int) ≤ 0 ∧ (0 : Int) < 30)⟩
  exact s_X12_init_c123_j281_ok h H
noncomputable def s_X12_init_c123_j232 (M : fM) : Option (Unit × fM) :=
  s_X12_init_c123_j257 (fclr (fclr (fclr M 150) 151) 152)
set_option maxRecDepth 100000 in
theorem s_X12_init_c123_j232_ok {d : Nat} {J : Nat → Nat → Nat} {M : fM} {r : (Unit × fM)} {Q : fO → fH → Prop} (h : s_X12_init_c123_j232 M = some r) (H : Q (oV r.1) (155, (fupN (fclN (fupN (fclN (jn_s_X12_init_c123_j257 J) 153) 122 64 154) 154) 122 65 155), r.2)) : Wp (d + 1, 203, 232, 27, 47636, [some (fA 122)], []) (150, (jn_s_X12_init_c123_j232 J), M) Q := by
  unfold s_X12_init_c123_j232 at h
  refine Wp.run 12 (P := [(1290 : Int) = 1290 ∧ 27 + 1 ≤ 32 ∧ 47636 + 1290 ≤ 56586, (7600 : Int) = 7600 ∧ 28 + 1 ≤ 32 ∧ 48926 + 7600 ≤ 56586, (2 : Int) = 2 ∧ 29 + 1 ≤ 32 ∧ 56526 + 2 ≤ 56586]) (f' := (d + 1, 203, 257, 30, 56528, [some (fA 122)], [])) (h' := (153, (fupN (fclN (fupN (fclN (fupN (fclN (jn_s_X12_init_c123_j232 J) 150) 122 61 151) 151) 122 62 152) 152) 122 63 153), (fclr (fclr (fclr M 150) 151) 152))) rfl ?_ ?_
  · exact ⟨(by decide : (1290 : Int) = 1290 ∧ 27 + 1 ≤ 32 ∧ 47636 + 1290 ≤ 56586), (by decide : (7600 : Int) = 7600 ∧ 28 + 1 ≤ 32 ∧ 48926 + 7600 ≤ 56586), (by decide : (2 : Int) = 2 ∧ 29 + 1 ≤ 32 ∧ 56526 + 2 ≤ 56586)⟩
  exact s_X12_init_c123_j257_ok h H
noncomputable def s_X12_init_c123_j208 (M : fM) : Option (Unit × fM) :=
  s_X12_init_c123_j232 (fclr (fclr (fclr M 147) 148) 149)
set_option maxRecDepth 100000 in
theorem s_X12_init_c123_j208_ok {d : Nat} {J : Nat → Nat → Nat} {M : fM} {r : (Unit × fM)} {Q : fO → fH → Prop} (h : s_X12_init_c123_j208 M = some r) (H : Q (oV r.1) (155, (fupN (fclN (fupN (fclN (jn_s_X12_init_c123_j257 J) 153) 122 64 154) 154) 122 65 155), r.2)) : Wp (d + 1, 203, 208, 24, 47615, [some (fA 122)], []) (147, (jn_s_X12_init_c123_j208 J), M) Q := by
  unfold s_X12_init_c123_j208 at h
  refine Wp.run 12 (P := [(9 : Int) = 9 ∧ 24 + 1 ≤ 32 ∧ 47615 + 9 ≤ 56586, (6 : Int) = 6 ∧ 25 + 1 ≤ 32 ∧ 47624 + 6 ≤ 56586, (6 : Int) = 6 ∧ 26 + 1 ≤ 32 ∧ 47630 + 6 ≤ 56586]) (f' := (d + 1, 203, 232, 27, 47636, [some (fA 122)], [])) (h' := (150, (fupN (fclN (fupN (fclN (fupN (fclN (jn_s_X12_init_c123_j208 J) 147) 122 56 148) 148) 122 58 149) 149) 122 59 150), (fclr (fclr (fclr M 147) 148) 149))) rfl ?_ ?_
  · exact ⟨(by decide : (9 : Int) = 9 ∧ 24 + 1 ≤ 32 ∧ 47615 + 9 ≤ 56586), (by decide : (6 : Int) = 6 ∧ 25 + 1 ≤ 32 ∧ 47624 + 6 ≤ 56586), (by decide : (6 : Int) = 6 ∧ 26 + 1 ≤ 32 ∧ 47630 + 6 ≤ 56586)⟩
  exact s_X12_init_c123_j232_ok h H
noncomputable def s_X12_init_c123_j183 (M : fM) : Option (Unit × fM) :=
  s_X12_init_c123_j208 (fclr (fclr (fclr M 144) 145) 146)
set_option maxRecDepth 100000 in
theorem s_X12_init_c123_j183_ok {d : Nat} {J : Nat → Nat → Nat} {M : fM} {r : (Unit × fM)} {Q : fO → fH → Prop} (h : s_X12_init_c123_j183 M = some r) (H : Q (oV r.1) (155, (fupN (fclN (fupN (fclN (jn_s_X12_init_c123_j257 J) 153) 122 64 154) 154) 122 65 155), r.2)) : Wp (d + 1, 203, 183, 21, 10203, [some (fA 122)], []) (144, (jn_s_X12_init_c123_j183 J), M) Q := by
  unfold s_X12_init_c123_j183 at h
  refine Wp.run 12 (P := [(4608 : Int) = 4608 ∧ 21 + 1 ≤ 32 ∧ 10203 + 4608 ≤ 56586, (32768 : Int) = 32768 ∧ 22 + 1 ≤ 32 ∧ 14811 + 32768 ≤ 56586, (36 : Int) = 36 ∧ 23 + 1 ≤ 32 ∧ 47579 + 36 ≤ 56586]) (f' := (d + 1, 203, 208, 24, 47615, [some (fA 122)], [])) (h' := (147, (fupN (fclN (fupN (fclN (fupN (fclN (jn_s_X12_init_c123_j183 J) 144) 122 53 145) 145) 122 54 146) 146) 122 55 147), (fclr (fclr (fclr M 144) 145) 146))) rfl ?_ ?_
  · exact ⟨(by decide : (4608 : Int) = 4608 ∧ 21 + 1 ≤ 32 ∧ 10203 + 4608 ≤ 56586), (by decide : (32768 : Int) = 32768 ∧ 22 + 1 ≤ 32 ∧ 14811 + 32768 ≤ 56586), (by decide : (36 : Int) = 36 ∧ 23 + 1 ≤ 32 ∧ 47579 + 36 ≤ 56586)⟩
  exact s_X12_init_c123_j208_ok h H
noncomputable def s_X12_init_c123_j153 (M : fM) : Option (Unit × fM) :=
  s_X12_init_c123_j183 (fclr (fclr (fup (fclr M 141) 122 49 (-1)) 142) 143)
set_option maxRecDepth 100000 in
theorem s_X12_init_c123_j153_ok {d : Nat} {J : Nat → Nat → Nat} {M : fM} {r : (Unit × fM)} {Q : fO → fH → Prop} (h : s_X12_init_c123_j153 M = some r) (H : Q (oV r.1) (155, (fupN (fclN (fupN (fclN (jn_s_X12_init_c123_j257 J) 153) 122 64 154) 154) 122 65 155), r.2)) : Wp (d + 1, 203, 153, 18, 7113, [some (fA 122)], []) (141, (jn_s_X12_init_c123_j153 J), M) Q := by
  unfold s_X12_init_c123_j153 at h
  refine Wp.run 15 (P := [(9 : Int) = 9 ∧ 18 + 1 ≤ 32 ∧ 7113 + 9 ≤ 56586, (9 : Int) = 9 ∧ 19 + 1 ≤ 32 ∧ 7122 + 9 ≤ 56586, (3072 : Int) = 3072 ∧ 20 + 1 ≤ 32 ∧ 7131 + 3072 ≤ 56586]) (f' := (d + 1, 203, 183, 21, 10203, [some (fA 122)], [])) (h' := (144, (fupN (fclN (fupN (fclN (fupN (fclN (jn_s_X12_init_c123_j153 J) 141) 122 45 142) 142) 122 50 143) 143) 122 52 144), (fclr (fclr (fup (fclr M 141) 122 49 (-1)) 142) 143))) rfl ?_ ?_
  · exact ⟨(by decide : (9 : Int) = 9 ∧ 18 + 1 ≤ 32 ∧ 7113 + 9 ≤ 56586), (by decide : (9 : Int) = 9 ∧ 19 + 1 ≤ 32 ∧ 7122 + 9 ≤ 56586), (by decide : (3072 : Int) = 3072 ∧ 20 + 1 ≤ 32 ∧ 7131 + 3072 ≤ 56586)⟩
  exact s_X12_init_c123_j183_ok h H
noncomputable def s_X12_init_c123_j129 (M : fM) : Option (Unit × fM) :=
  s_X12_init_c123_j153 (fclr (fclr (fclr M 138) 139) 140)
set_option maxRecDepth 100000 in
theorem s_X12_init_c123_j129_ok {d : Nat} {J : Nat → Nat → Nat} {M : fM} {r : (Unit × fM)} {Q : fO → fH → Prop} (h : s_X12_init_c123_j129 M = some r) (H : Q (oV r.1) (155, (fupN (fclN (fupN (fclN (jn_s_X12_init_c123_j257 J) 153) 122 64 154) 154) 122 65 155), r.2)) : Wp (d + 1, 203, 129, 15, 7083, [some (fA 122)], []) (138, (jn_s_X12_init_c123_j129 J), M) Q := by
  unfold s_X12_init_c123_j129 at h
  refine Wp.run 12 (P := [(10 : Int) = 10 ∧ 15 + 1 ≤ 32 ∧ 7083 + 10 ≤ 56586, (10 : Int) = 10 ∧ 16 + 1 ≤ 32 ∧ 7093 + 10 ≤ 56586, (10 : Int) = 10 ∧ 17 + 1 ≤ 32 ∧ 7103 + 10 ≤ 56586]) (f' := (d + 1, 203, 153, 18, 7113, [some (fA 122)], [])) (h' := (141, (fupN (fclN (fupN (fclN (fupN (fclN (jn_s_X12_init_c123_j129 J) 138) 122 42 139) 139) 122 43 140) 140) 122 44 141), (fclr (fclr (fclr M 138) 139) 140))) rfl ?_ ?_
  · exact ⟨(by decide : (10 : Int) = 10 ∧ 15 + 1 ≤ 32 ∧ 7083 + 10 ≤ 56586), (by decide : (10 : Int) = 10 ∧ 16 + 1 ≤ 32 ∧ 7093 + 10 ≤ 56586), (by decide : (10 : Int) = 10 ∧ 17 + 1 ≤ 32 ∧ 7103 + 10 ≤ 56586)⟩
  exact s_X12_init_c123_j153_ok h H
noncomputable def s_X12_init_c123_j105 (M : fM) : Option (Unit × fM) :=
  s_X12_init_c123_j129 (fclr (fclr (fclr M 135) 136) 137)
set_option maxRecDepth 100000 in
theorem s_X12_init_c123_j105_ok {d : Nat} {J : Nat → Nat → Nat} {M : fM} {r : (Unit × fM)} {Q : fO → fH → Prop} (h : s_X12_init_c123_j105 M = some r) (H : Q (oV r.1) (155, (fupN (fclN (fupN (fclN (jn_s_X12_init_c123_j257 J) 153) 122 64 154) 154) 122 65 155), r.2)) : Wp (d + 1, 203, 105, 12, 7056, [some (fA 122)], []) (135, (jn_s_X12_init_c123_j105 J), M) Q := by
  unfold s_X12_init_c123_j105 at h
  refine Wp.run 12 (P := [(9 : Int) = 9 ∧ 12 + 1 ≤ 32 ∧ 7056 + 9 ≤ 56586, (9 : Int) = 9 ∧ 13 + 1 ≤ 32 ∧ 7065 + 9 ≤ 56586, (9 : Int) = 9 ∧ 14 + 1 ≤ 32 ∧ 7074 + 9 ≤ 56586]) (f' := (d + 1, 203, 129, 15, 7083, [some (fA 122)], [])) (h' := (138, (fupN (fclN (fupN (fclN (fupN (fclN (jn_s_X12_init_c123_j105 J) 135) 122 36 136) 136) 122 37 137) 137) 122 38 138), (fclr (fclr (fclr M 135) 136) 137))) rfl ?_ ?_
  · exact ⟨(by decide : (9 : Int) = 9 ∧ 12 + 1 ≤ 32 ∧ 7056 + 9 ≤ 56586), (by decide : (9 : Int) = 9 ∧ 13 + 1 ≤ 32 ∧ 7065 + 9 ≤ 56586), (by decide : (9 : Int) = 9 ∧ 14 + 1 ≤ 32 ∧ 7074 + 9 ≤ 56586)⟩
  exact s_X12_init_c123_j129_ok h H
noncomputable def s_X12_init_c123_j80 (M : fM) : Option (Unit × fM) :=
  s_X12_init_c123_j105 (fclr (fclr (fclr M 132) 133) 134)
set_option maxRecDepth 100000 in
theorem s_X12_init_c123_j80_ok {d : Nat} {J : Nat → Nat → Nat} {M : fM} {r : (Unit × fM)} {Q : fO → fH → Prop} (h : s_X12_init_c123_j80 M = some r) (H : Q (oV r.1) (155, (fupN (fclN (fupN (fclN (jn_s_X12_init_c123_j257 J) 153) 122 64 154) 154) 122 65 155), r.2)) : Wp (d + 1, 203, 80, 9, 6838, [some (fA 122)], []) (132, (jn_s_X12_init_c123_j80 J), M) Q := by
  unfold s_X12_init_c123_j80 at h
  refine Wp.run 12 (P := [(200 : Int) = 200 ∧ 9 + 1 ≤ 32 ∧ 6838 + 200 ≤ 56586, (9 : Int) = 9 ∧ 10 + 1 ≤ 32 ∧ 7038 + 9 ≤ 56586, (9 : Int) = 9 ∧ 11 + 1 ≤ 32 ∧ 7047 + 9 ≤ 56586]) (f' := (d + 1, 203, 105, 12, 7056, [some (fA 122)], [])) (h' := (135, (fupN (fclN (fupN (fclN (fupN (fclN (jn_s_X12_init_c123_j80 J) 132) 122 33 133) 133) 122 34 134) 134) 122 35 135), (fclr (fclr (fclr M 132) 133) 134))) rfl ?_ ?_
  · exact ⟨(by decide : (200 : Int) = 200 ∧ 9 + 1 ≤ 32 ∧ 6838 + 200 ≤ 56586), (by decide : (9 : Int) = 9 ∧ 10 + 1 ≤ 32 ∧ 7038 + 9 ≤ 56586), (by decide : (9 : Int) = 9 ∧ 11 + 1 ≤ 32 ∧ 7047 + 9 ≤ 56586)⟩
  exact s_X12_init_c123_j105_ok h H
noncomputable def s_X12_init_c123_j56 (M : fM) : Option (Unit × fM) :=
  s_X12_init_c123_j80 (fclr (fclr (fclr M 129) 130) 131)
set_option maxRecDepth 100000 in
theorem s_X12_init_c123_j56_ok {d : Nat} {J : Nat → Nat → Nat} {M : fM} {r : (Unit × fM)} {Q : fO → fH → Prop} (h : s_X12_init_c123_j56 M = some r) (H : Q (oV r.1) (155, (fupN (fclN (fupN (fclN (jn_s_X12_init_c123_j257 J) 153) 122 64 154) 154) 122 65 155), r.2)) : Wp (d + 1, 203, 56, 6, 6802, [some (fA 122)], []) (129, (jn_s_X12_init_c123_j56 J), M) Q := by
  unfold s_X12_init_c123_j56 at h
  refine Wp.run 12 (P := [(12 : Int) = 12 ∧ 6 + 1 ≤ 32 ∧ 6802 + 12 ≤ 56586, (12 : Int) = 12 ∧ 7 + 1 ≤ 32 ∧ 6814 + 12 ≤ 56586, (12 : Int) = 12 ∧ 8 + 1 ≤ 32 ∧ 6826 + 12 ≤ 56586]) (f' := (d + 1, 203, 80, 9, 6838, [some (fA 122)], [])) (h' := (132, (fupN (fclN (fupN (fclN (fupN (fclN (jn_s_X12_init_c123_j56 J) 129) 122 23 130) 130) 122 29 131) 131) 122 30 132), (fclr (fclr (fclr M 129) 130) 131))) rfl ?_ ?_
  · exact ⟨(by decide : (12 : Int) = 12 ∧ 6 + 1 ≤ 32 ∧ 6802 + 12 ≤ 56586), (by decide : (12 : Int) = 12 ∧ 7 + 1 ≤ 32 ∧ 6814 + 12 ≤ 56586), (by decide : (12 : Int) = 12 ∧ 8 + 1 ≤ 32 ∧ 6826 + 12 ≤ 56586)⟩
  exact s_X12_init_c123_j80_ok h H
noncomputable def s_X12_init_c123_j31 (M : fM) : Option (Unit × fM) :=
  s_X12_init_c123_j56 (fclr (fclr (fclr M 126) 127) 128)
set_option maxRecDepth 100000 in
theorem s_X12_init_c123_j31_ok {d : Nat} {J : Nat → Nat → Nat} {M : fM} {r : (Unit × fM)} {Q : fO → fH → Prop} (h : s_X12_init_c123_j31 M = some r) (H : Q (oV r.1) (155, (fupN (fclN (fupN (fclN (jn_s_X12_init_c123_j257 J) 153) 122 64 154) 154) 122 65 155), r.2)) : Wp (d + 1, 203, 31, 3, 6330, [some (fA 122)], []) (126, (fupN (fclN (fupN (fclN (fupN (fclN J 123) 122 1 124) 124) 122 6 125) 125) 122 7 126), M) Q := by
  unfold s_X12_init_c123_j31 at h
  refine Wp.run 12 (P := [(56 : Int) = 56 ∧ 3 + 1 ≤ 32 ∧ 6330 + 56 ≤ 56586, (30 : Int) = 30 ∧ 4 + 1 ≤ 32 ∧ 6386 + 30 ≤ 56586, (386 : Int) = 386 ∧ 5 + 1 ≤ 32 ∧ 6416 + 386 ≤ 56586]) (f' := (d + 1, 203, 56, 6, 6802, [some (fA 122)], [])) (h' := (129, (fupN (fclN (fupN (fclN (fupN (fclN (fupN (fclN (fupN (fclN (fupN (fclN J 123) 122 1 124) 124) 122 6 125) 125) 122 7 126) 126) 122 8 127) 127) 122 9 128) 128) 122 22 129), (fclr (fclr (fclr M 126) 127) 128))) rfl ?_ ?_
  · exact ⟨(by decide : (56 : Int) = 56 ∧ 3 + 1 ≤ 32 ∧ 6330 + 56 ≤ 56586), (by decide : (30 : Int) = 30 ∧ 4 + 1 ≤ 32 ∧ 6386 + 30 ≤ 56586), (by decide : (386 : Int) = 386 ∧ 5 + 1 ≤ 32 ∧ 6416 + 386 ≤ 56586)⟩
  exact s_X12_init_c123_j56_ok h H
noncomputable def s_X12_init_c123 (M : fM) : Option (Unit × fM) :=
  s_X12_init_c123_j31 (fclr (fclr (fclr M 123) 124) 125)
set_option maxRecDepth 100000 in
theorem s_X12_init_c123_ok {d : Nat} {J : Nat → Nat → Nat} {M : fM} {r : (Unit × fM)} {Q : fO → fH → Prop} (h : s_X12_init_c123 M = some r) (H : Q (oV r.1) (155, (fupN (fclN (fupN (fclN (jn_s_X12_init_c123_j257 J) 153) 122 64 154) 154) 122 65 155), r.2)) : Wp (d + 1, 203, 0, 0, 0, [some (fA 122)], []) (123, J, M) Q := by
  unfold s_X12_init_c123 at h
  refine Wp.run 14 (P := [1 ≤ d + 1, (1240 : Int) = 1240 ∧ 0 + 1 ≤ 32 ∧ 0 + 1240 ≤ 56586, (1290 : Int) = 1290 ∧ 1 + 1 ≤ 32 ∧ 1240 + 1290 ≤ 56586, (3800 : Int) = 3800 ∧ 2 + 1 ≤ 32 ∧ 2530 + 3800 ≤ 56586]) (f' := (d + 1, 203, 31, 3, 6330, [some (fA 122)], [])) (h' := (126, (fupN (fclN (fupN (fclN (fupN (fclN J 123) 122 1 124) 124) 122 6 125) 125) 122 7 126), (fclr (fclr (fclr M 123) 124) 125))) rfl ?_ ?_
  · exact ⟨Nat.le_add_left_of_le (by decide), (by decide : (1240 : Int) = 1240 ∧ 0 + 1 ≤ 32 ∧ 0 + 1240 ≤ 56586), (by decide : (1290 : Int) = 1290 ∧ 1 + 1 ≤ 32 ∧ 1240 + 1290 ≤ 56586), (by decide : (3800 : Int) = 3800 ∧ 2 + 1 ≤ 32 ∧ 2530 + 3800 ≤ 56586)⟩
  exact s_X12_init_c123_j31_ok h H
abbrev jo_s_X12_init_c123 (J : Nat → Nat → Nat) : Nat → Nat → Nat := (fupN (fclN (fupN (fclN (jn_s_X12_init_c123_j257 J) 153) 122 64 154) 154) 122 65 155)
