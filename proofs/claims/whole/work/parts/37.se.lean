/-! ===== functions of the methods (printed by genfun.py) ===== -/
noncomputable def s_X2_hasPiano_4 (M : fM) (l1 : Int) : Option Int :=
  if l1 < 0 then
    some 0
  else
    if (M 4 13) ≤ l1 then
      some 0
    else
      some 1
theorem s_X2_hasPiano_4_ok {d L : Nat} {M : fM} {l1 : Int} {r : Int} {Q : fO → fH → Prop} (h : s_X2_hasPiano_4 M l1 = some r) (H : Q (oI r) (156, fjl L, M)) : Wp (d + 0, 30, 0, 0, 0, [some (fA 4), some (fI l1)], []) (156, fjl L, M) Q := by
  unfold s_X2_hasPiano_4 at h
  refine Wp.run 1 (f' := (d + 0, 30, 1, 0, 0, [some (fA 4), some (fI l1)], [fI l1])) (h' := (156, fjl L, M)) rfl trivial ?_
  refine Wp.br rfl (fun (c : l1 < 0) => ?_) (fun (c : ¬ (l1 < 0)) => ?_)
  · replace h := fps c h
    refine Wp.run 1 (f' := (d + 0, 30, 17, 0, 0, [_, _], [fI 0])) (h' := (156, fjl L, M)) rfl trivial ?_
    obtain rfl := Option.some.inj h
    exact Wp.done rfl (by decide) H
  · replace h := fng c h
    refine Wp.run 3 (f' := (d + 0, 30, 9, 0, 0, [_, _], [fI (M 4 13), fI l1])) (h' := (156, fjl L, M)) rfl trivial ?_
    refine Wp.br rfl (fun (c : (M 4 13) ≤ l1) => ?_) (fun (c : ¬ ((M 4 13) ≤ l1)) => ?_)
    · replace h := fps c h
      refine Wp.run 1 (f' := (d + 0, 30, 17, 0, 0, [_, _], [fI 0])) (h' := (156, fjl L, M)) rfl trivial ?_
      obtain rfl := Option.some.inj h
      exact Wp.done rfl (by decide) H
    · replace h := fng c h
      refine Wp.run 2 (f' := (d + 0, 30, 17, 0, 0, [_, _], [fI 1])) (h' := (156, fjl L, M)) rfl trivial ?_
      obtain rfl := Option.some.inj h
      exact Wp.done rfl (by decide) H
noncomputable def s_X2_fact_4 (M : fM) (l1 l2 : Int) : Option Int :=
  if fin (l1 * 10) ∧ fin ((l1 * 10) + l2) ∧ (0 ≤ ((l1 * 10) + l2) ∧ ((l1 * 10) + l2) < 160) then
    some (M 10 ((l1 * 10) + l2).toNat)
  else none
theorem s_X2_fact_4_ok {d L : Nat} {M : fM} {l1 l2 : Int} {r : Int} {Q : fO → fH → Prop} (h : s_X2_fact_4 M l1 l2 = some r) (H : Q (oI r) (156, fjl L, M)) : Wp (d + 0, 29, 0, 0, 0, [some (fA 4), some (fI l1), some (fI l2)], []) (156, fjl L, M) Q := by
  unfold s_X2_fact_4 at h
  obtain ⟨⟨g0, g1, g2⟩, h⟩ := fgd h
  refine Wp.run 8 (P := [0 ≤ (fw ((fw (l1 * 10)) + l2)) ∧ (fw ((fw (l1 * 10)) + l2)) < 160]) (f' := (d + 0, 29, 11, 0, 0, [_, _, _], [fI (M 10 (fw ((fw (l1 * 10)) + l2)).toNat)])) (h' := (156, fjl L, M)) rfl ?_ ?_
  · rw [fw_id g0, fw_id g1]; exact g2
  rw [fw_id g0, fw_id g1]
  obtain rfl := Option.some.inj h
  exact Wp.done rfl (by decide) H
noncomputable def s_X2_isHall_4 (M : fM) (l1 : Int) : Option Int :=
  (s_X2_hasPiano_4 M l1).bind fun y2 =>
    if y2 = 0 then
      some 0
    else
      (s_X2_fact_4 M l1 0).bind fun y11 =>
        if ¬ y11 = 2 then
          some 0
        else
          some 1
theorem s_X2_isHall_4_ok {d L : Nat} {M : fM} {l1 : Int} {r : Int} {Q : fO → fH → Prop} (h : s_X2_isHall_4 M l1 = some r) (H : Q (oI r) (156, fjl L, M)) : Wp (d + 1, 32, 0, 0, 0, [some (fA 4), some (fI l1)], []) (156, fjl L, M) Q := by
  unfold s_X2_isHall_4 at h
  refine Wp.run 2 (f' := (d + 1, 32, 2, 0, 0, [some (fA 4), some (fI l1)], [fI l1, fA 4])) (h' := (156, fjl L, M)) rfl trivial ?_
  obtain ⟨y2, hy, h⟩ := fbd h
  refine Wp.call rfl (by decide) (s_X2_hasPiano_4_ok (d := d + 0) hy ?_)
  show Wp (d + 1, 32, 5, 0, 0, [some (fA 4), some (fI l1)], [fI y2]) (156, fjl L, M) Q
  refine Wp.br rfl (fun (c : y2 = 0) => ?_) (fun (c : ¬ (y2 = 0)) => ?_)
  · replace h := fps c h
    refine Wp.run 1 (f' := (d + 1, 32, 23, 0, 0, [_, _], [fI 0])) (h' := (156, fjl L, M)) rfl trivial ?_
    obtain rfl := Option.some.inj h
    exact Wp.done rfl (by decide) H
  · replace h := fng c h
    refine Wp.run 3 (f' := (d + 1, 32, 11, 0, 0, [_, _], [fI 0, fI l1, fA 4])) (h' := (156, fjl L, M)) rfl trivial ?_
    obtain ⟨y11, hy, h⟩ := fbd h
    refine Wp.call rfl (by decide) (s_X2_fact_4_ok (d := d + 0) hy ?_)
    show Wp (d + 1, 32, 14, 0, 0, [_, _], [fI y11]) (156, fjl L, M) Q
    refine Wp.run 1 (f' := (d + 1, 32, 15, 0, 0, [_, _], [fI 2, fI y11])) (h' := (156, fjl L, M)) rfl trivial ?_
    refine Wp.br rfl (fun (c : ¬ y11 = 2) => ?_) (fun (c : ¬ (¬ y11 = 2)) => ?_)
    · replace h := fps c h
      refine Wp.run 1 (f' := (d + 1, 32, 23, 0, 0, [_, _], [fI 0])) (h' := (156, fjl L, M)) rfl trivial ?_
      obtain rfl := Option.some.inj h
      exact Wp.done rfl (by decide) H
    · replace h := fng c h
      refine Wp.run 2 (f' := (d + 1, 32, 23, 0, 0, [_, _], [fI 1])) (h' := (156, fjl L, M)) rfl trivial ?_
      obtain rfl := Option.some.inj h
      exact Wp.done rfl (by decide) H
abbrev s_X5_takePiano_mods : List (Nat × Option Nat) := [(1, some 4), (1, some 5), (1, some 6), (1, some 7), (1, some 8), (1, some 9), (1, some 10)]
noncomputable def s_X5_takePiano_j34 (M : fM) (l2 : Int) : Option ((Int ⊕ Unit) × fM) :=
  (s_X10_fail M 3).bind fun y39 =>
    fel y39.1
      (fun w39 =>
        some (.inl l2, y39.2))
      (some (.inr (), y39.2))
theorem s_X5_takePiano_j34_ok {d L : Nat} {M : fM} {l2 : Int} {o1 : Option fV} {r : ((Int ⊕ Unit) × fM)} {Q : fO → fH → Prop} (h : s_X5_takePiano_j34 M l2 = some r) (H : Q (oT oI 1 r.1) (156, fjl L, r.2)) : Wp (d + 9, 72, 34, 0, 0, [some (fA 42), o1, some (fI l2)], []) (156, fjl L, M) Q := by
  unfold s_X5_takePiano_j34 at h
  refine Wp.run 3 (f' := (d + 9, 72, 39, 0, 0, [_, _, some (fI l2)], [fI 3, fA 1])) (h' := (156, fjl L, M)) rfl trivial ?_
  obtain ⟨y39, hy, h⟩ := fbd h
  refine Wp.call rfl (by decide) (s_X10_fail_ok (d := d + 1) hy ?_)
  obtain ⟨w39, ew, h⟩ | ⟨ew, h⟩ := fel_of h
  · rw [ew]
    show Wp (d + 9, 72, 42, 0, 0, [_, _, some (fI l2)], []) (156, fjl L, y39.2) Q
    refine Wp.run 1 (f' := (d + 9, 72, 43, 0, 0, [_, _, _], [fI l2])) (h' := (156, fjl L, y39.2)) rfl trivial ?_
    obtain rfl := Option.some.inj h
    exact Wp.done rfl (by decide) H
  · rw [ew]
    obtain rfl := Option.some.inj h
    exact ⟨⟨rfl, rfl⟩, H⟩
theorem s_X5_takePiano_j34_fr {M : fM} {l2 : Int} {r : ((Int ⊕ Unit) × fM)} (h : s_X5_takePiano_j34 M l2 = some r) : fSame s_X5_takePiano_mods M r.2 := by
  unfold s_X5_takePiano_j34 at h
  obtain ⟨y39, hy, h⟩ := fbd h
  have k39 := fs_trans (l := s_X5_takePiano_mods) fs_refl (fs_mono (l := s_X10_fail_mods) (by decide) (s_X10_fail_fr hy))
  obtain ⟨w39, ew, h⟩ | ⟨ew, h⟩ := fel_of h
  · obtain rfl := Option.some.inj h
    exact k39
  · obtain rfl := Option.some.inj h
    exact k39
noncomputable def s_X5_takePiano (M : fM) (l1 : Int) : Option ((Int ⊕ Unit) × fM) :=
  (s_X10_takeName M).bind fun y8 =>
    fel y8.1
      (fun w8 =>
        (s_X2_pianoNamed_4 y8.2 w8).bind fun y11 =>
          if y11 < 0 then
            s_X5_takePiano_j34 y8.2 y11
          else
            if l1 = 0 then
              some (.inl y11, y8.2)
            else
              (s_X2_isHall_4 y8.2 y11).bind fun y28 =>
                if ¬ y28 = 0 then
                  some (.inl y11, y8.2)
                else
                  s_X5_takePiano_j34 y8.2 y11)
      (some (.inr (), y8.2))
theorem s_X5_takePiano_ok {d L : Nat} {M : fM} {l1 : Int} {r : ((Int ⊕ Unit) × fM)} {Q : fO → fH → Prop} (h : s_X5_takePiano M l1 = some r) (H : Q (oT oI 1 r.1) (156, fjl L, r.2)) : Wp (d + 9, 72, 0, 0, 0, [some (fA 42), some (fI l1), none], []) (156, fjl L, M) Q := by
  unfold s_X5_takePiano at h
  refine Wp.run 4 (f' := (d + 9, 72, 8, 0, 0, [some (fA 42), some (fI l1), _], [fA 1, fA 4])) (h' := (156, fjl L, M)) rfl trivial ?_
  obtain ⟨y8, hy, h⟩ := fbd h
  refine Wp.call rfl (by decide) (s_X10_takeName_ok (d := d + 0) hy ?_)
  obtain ⟨w8, ew, h⟩ | ⟨ew, h⟩ := fel_of h
  · rw [ew]
    show Wp (d + 9, 72, 11, 0, 0, [some (fA 42), some (fI l1), _], [fJ w8, fA 4]) (156, fjl L, y8.2) Q
    obtain ⟨y11, hy, h⟩ := fbd h
    refine Wp.call rfl (by decide) (s_X2_pianoNamed_4_ok (d := d + 7) hy ?_)
    show Wp (d + 9, 72, 14, 0, 0, [some (fA 42), some (fI l1), _], [fI y11]) (156, fjl L, y8.2) Q
    refine Wp.run 2 (f' := (d + 9, 72, 16, 0, 0, [some (fA 42), some (fI l1), some (fI y11)], [fI y11])) (h' := (156, fjl L, y8.2)) rfl trivial ?_
    refine Wp.br rfl (fun (c : y11 < 0) => ?_) (fun (c : ¬ (y11 < 0)) => ?_)
    · replace h := fps c h
      exact s_X5_takePiano_j34_ok h H
    · replace h := fng c h
      refine Wp.run 1 (f' := (d + 9, 72, 20, 0, 0, [some (fA 42), _, some (fI y11)], [fI l1])) (h' := (156, fjl L, y8.2)) rfl trivial ?_
      refine Wp.br rfl (fun (c : l1 = 0) => ?_) (fun (c : ¬ (l1 = 0)) => ?_)
      · replace h := fps c h
        refine Wp.run 1 (f' := (d + 9, 72, 43, 0, 0, [_, _, _], [fI y11])) (h' := (156, fjl L, y8.2)) rfl trivial ?_
        obtain rfl := Option.some.inj h
        exact Wp.done rfl (by decide) H
      · replace h := fng c h
        refine Wp.run 3 (f' := (d + 9, 72, 28, 0, 0, [some (fA 42), _, some (fI y11)], [fI y11, fA 4])) (h' := (156, fjl L, y8.2)) rfl trivial ?_
        obtain ⟨y28, hy, h⟩ := fbd h
        refine Wp.call rfl (by decide) (s_X2_isHall_4_ok (d := d + 7) hy ?_)
        show Wp (d + 9, 72, 31, 0, 0, [some (fA 42), _, some (fI y11)], [fI y28]) (156, fjl L, y8.2) Q
        refine Wp.br rfl (fun (c : ¬ y28 = 0) => ?_) (fun (c : ¬ (¬ y28 = 0)) => ?_)
        · replace h := fps c h
          refine Wp.run 1 (f' := (d + 9, 72, 43, 0, 0, [_, _, _], [fI y11])) (h' := (156, fjl L, y8.2)) rfl trivial ?_
          obtain rfl := Option.some.inj h
          exact Wp.done rfl (by decide) H
        · replace h := fng c h
          exact s_X5_takePiano_j34_ok h H
  · rw [ew]
    obtain rfl := Option.some.inj h
    exact ⟨⟨rfl, rfl⟩, H⟩
theorem s_X5_takePiano_fr {M : fM} {l1 : Int} {r : ((Int ⊕ Unit) × fM)} (h : s_X5_takePiano M l1 = some r) : fSame s_X5_takePiano_mods M r.2 := by
  unfold s_X5_takePiano at h
  obtain ⟨y8, hy, h⟩ := fbd h
  have k8 := fs_trans (l := s_X5_takePiano_mods) fs_refl (fs_mono (l := s_X10_takeName_mods) (by decide) (s_X10_takeName_fr hy))
  obtain ⟨w8, ew, h⟩ | ⟨ew, h⟩ := fel_of h
  · obtain ⟨y11, hy, h⟩ := fbd h
    by_cases c : y11 < 0
    · replace h := fps c h
      exact fs_trans k8 (s_X5_takePiano_j34_fr h)
    · replace h := fng c h
      by_cases c : l1 = 0
      · replace h := fps c h
        obtain rfl := Option.some.inj h
        exact k8
      · replace h := fng c h
        obtain ⟨y28, hy, h⟩ := fbd h
        by_cases c : ¬ y28 = 0
        · replace h := fps c h
          obtain rfl := Option.some.inj h
          exact k8
        · replace h := fng c h
          exact fs_trans k8 (s_X5_takePiano_j34_fr h)
  · obtain rfl := Option.some.inj h
    exact k8
abbrev s_X6_begin_18_mods : List (Nat × Option Nat) := [(19, none), (20, none), (23, none), (24, none), (25, none), (26, none)]
noncomputable def s_X6_begin_18_b38 (M : fM) (l1 l4 : Int) : Option ((Int × fM) ⊕ fM) :=
  if 12 ≤ l4 then
    some (.inr M)
  else
    if fin (l1 * 12) ∧ fin ((l1 * 12) + l4) ∧ (0 ≤ ((l1 * 12) + l4) ∧ ((l1 * 12) + l4) < 2400) ∧ fin (l4 + 1) then
      some (.inl ((l4 + 1), (fup M 26 ((l1 * 12) + l4).toNat 0)))
    else none
theorem s_X6_begin_18_b38_ok {d L : Nat} {M : fM} {l1 l4 : Int} {o2 o3 : Option fV} {r : ((Int × fM) ⊕ fM)} {Q : fO → fH → Prop} (h : s_X6_begin_18_b38 M l1 l4 = some r) (hC : ∀ (l4' : Int) (M' : fM) (o2' o3' : Option fV), r = .inl (l4', M') → Wp (d + 0, 78, 38, 0, 0, [some (fA 18), some (fI l1), o2', o3', some (fI l4')], []) (156, fjl L, M') Q) (hE : ∀ (e : fM) (o0' o1' o2' o3' o4' : Option fV), r = .inr e → Wp (d + 0, 78, 64, 0, 0, [o0', o1', o2', o3', o4'], []) (156, fjl L, e) Q) : Wp (d + 0, 78, 38, 0, 0, [some (fA 18), some (fI l1), o2, o3, some (fI l4)], []) (156, fjl L, M) Q := by
  unfold s_X6_begin_18_b38 at h
  refine Wp.run 2 (f' := (d + 0, 78, 42, 0, 0, [some (fA 18), some (fI l1), _, _, some (fI l4)], [fI 12, fI l4])) (h' := (156, fjl L, M)) rfl trivial ?_
  refine Wp.br rfl (fun (c : 12 ≤ l4) => ?_) (fun (c : ¬ (12 ≤ l4)) => ?_)
  · replace h := fps c h
    exact hE _ _ _ _ _ _ (Option.some.inj h).symm
  · replace h := fng c h
    obtain ⟨⟨g0, g1, g2, g3⟩, h⟩ := fgd h
    refine Wp.run 11 (P := [0 ≤ (fw ((fw (l1 * 12)) + l4)) ∧ (fw ((fw (l1 * 12)) + l4)) < 2400]) (f' := (d + 0, 78, 38, 0, 0, [some (fA 18), some (fI l1), _, _, some (fI (fw (l4 + 1)))], [])) (h' := (156, fjl L, (fup M 26 (fw ((fw (l1 * 12)) + l4)).toNat 0))) rfl ?_ ?_
    · rw [fw_id g0, fw_id g1]; exact g2
    rw [fw_id g3, fw_id g0, fw_id g1]
    exact hC _ _ _ _ (Option.some.inj h).symm
theorem s_X6_begin_18_b38_fr {M : fM} {l1 l4 : Int} {r : ((Int × fM) ⊕ fM)} (h : s_X6_begin_18_b38 M l1 l4 = some r) : fSame s_X6_begin_18_mods M (Sum.elim (fun s => s.2) (fun e => e) r) := by
  unfold s_X6_begin_18_b38 at h
  by_cases c : 12 ≤ l4
  · replace h := fps c h
    obtain rfl := Option.some.inj h
    exact fs_refl
  · replace h := fng c h
    replace h := (fgd h).2
    obtain rfl := Option.some.inj h
    exact fs_up fs_refl (.inl (by decide))
noncomputable def s_X6_begin_18_l38 (l1 : Int) (s : (Int × fM)) : Option fM := fLp (fun s => s_X6_begin_18_b38 s.2 l1 s.1) s
theorem s_X6_begin_18_l38_ok {d L : Nat} {M : fM} {l1 l4 : Int} {o2 o3 : Option fV} {r : fM} {Q : fO → fH → Prop} (h : s_X6_begin_18_l38 l1 (l4, M) = some r) (hE : ∀ (e : fM) (o0' o1' o2' o3' o4' : Option fV), r = e → Wp (d + 0, 78, 64, 0, 0, [o0', o1', o2', o3', o4'], []) (156, fjl L, e) Q) : Wp (d + 0, 78, 38, 0, 0, [some (fA 18), some (fI l1), o2, o3, some (fI l4)], []) (156, fjl L, M) Q := by
  refine fLp_wp (W := fun s => ∀ (o2 o3 : Option fV), Wp (d + 0, 78, 38, 0, 0, [some (fA 18), some (fI l1), o2, o3, some (fI s.1)], []) (156, fjl L, s.2) Q) (e := r) ?_ h _ _
  intro s r1 h hC hX o2 o3
  refine s_X6_begin_18_b38_ok (d := d) h (fun a0 a1 _ _ e1 => ?_) (fun e u0 u1 u2 u3 u4 e1 => hE e u0 u1 u2 u3 u4 (hX _ e1).symm)
  exact hC _ e1 _ _
theorem s_X6_begin_18_l38_fr {M : fM} {l1 l4 : Int} {r : fM} (h : s_X6_begin_18_l38 l1 (l4, M) = some r) : fSame s_X6_begin_18_mods M ((fun e => e) r) := by
  refine fLp_inv (I := fun s => fSame s_X6_begin_18_mods M s.2) (J := fun r => fSame s_X6_begin_18_mods M ((fun e => e) r)) h fs_refl (fun s s1 hs hb => ?_) (fun s e hs hb => ?_)
  · exact fs_trans hs (s_X6_begin_18_b38_fr hb)
  · exact fs_trans hs (s_X6_begin_18_b38_fr hb)
noncomputable def s_X6_begin_18 (M : fM) (l1 l2 l3 : Int) : Option (Unit × fM) :=
  if (0 ≤ l1 ∧ l1 < 200) then
    if (0 ≤ l1 ∧ l1 < 200) then
      (s_X6_begin_18_l38 l1 (0, (fup (fup (fup (fup (fup M 19 (l1).toNat l2) 20 (l1).toNat l3) 23 (l1).toNat 0) 24 (l1).toNat 0) 25 (l1).toNat 0))).bind fun e38 =>
        some ((), e38)
    else none
  else none
theorem s_X6_begin_18_ok {d L : Nat} {M : fM} {l1 l2 l3 : Int} {r : (Unit × fM)} {Q : fO → fH → Prop} (h : s_X6_begin_18 M l1 l2 l3 = some r) (H : Q (oV r.1) (156, fjl L, r.2)) : Wp (d + 0, 78, 0, 0, 0, [some (fA 18), some (fI l1), some (fI l2), some (fI l3), none], []) (156, fjl L, M) Q := by
  unfold s_X6_begin_18 at h
  obtain ⟨g0, h⟩ := fgd h
  refine Wp.run 15 (P := [0 ≤ l1 ∧ l1 < 200, 0 ≤ l1 ∧ l1 < 200, 0 ≤ l1 ∧ l1 < 200]) (f' := (d + 0, 78, 21, 0, 0, [some (fA 18), some (fI l1), _, _, _], [])) (h' := (156, fjl L, (fup (fup (fup M 19 (l1).toNat l2) 20 (l1).toNat l3) 23 (l1).toNat 0))) rfl ?_ ?_
  · exact ⟨g0, g0, g0⟩
  obtain ⟨g0, h⟩ := fgd h
  refine Wp.run 12 (P := [0 ≤ l1 ∧ l1 < 200, 0 ≤ l1 ∧ l1 < 200]) (f' := (d + 0, 78, 38, 0, 0, [some (fA 18), some (fI l1), _, _, some (fI 0)], [])) (h' := (156, fjl L, (fup (fup (fup (fup (fup M 19 (l1).toNat l2) 20 (l1).toNat l3) 23 (l1).toNat 0) 24 (l1).toNat 0) 25 (l1).toNat 0))) rfl ?_ ?_
  · exact ⟨g0, g0⟩
  obtain ⟨e38, hy, h⟩ := fbd h
  refine s_X6_begin_18_l38_ok hy (fun x u0 u1 u2 u3 u4 ex => ?_)
  cases ex
  show Wp (d + 0, 78, 64, 0, 0, [u0, u1, u2, u3, u4], []) (156, fjl L, e38) Q
  obtain rfl := Option.some.inj h
  exact Wp.done rfl (by decide) H
theorem s_X6_begin_18_fr {M : fM} {l1 l2 l3 : Int} {r : (Unit × fM)} (h : s_X6_begin_18 M l1 l2 l3 = some r) : fSame s_X6_begin_18_mods M r.2 := by
  unfold s_X6_begin_18 at h
  replace h := (fgd h).2
  replace h := (fgd h).2
  obtain ⟨e38, hy, h⟩ := fbd h
  have k38 := fs_trans (l := s_X6_begin_18_mods) (fs_up (fs_up (fs_up (fs_up (fs_up fs_refl (.inl (by decide))) (.inl (by decide))) (.inl (by decide))) (.inl (by decide))) (.inl (by decide))) (s_X6_begin_18_l38_fr hy)
  obtain rfl := Option.some.inj h
  exact k38
noncomputable def s_X2_placeOf_16_b3 (M : fM) (l1 l2 l4 : Int) : Option (Int ⊕ (Unit ⊕ Int)) :=
  if l1 ≤ l4 then
    some (.inr (.inl ()))
  else
    if (0 ≤ l4 ∧ l4 < 6) then
      if ¬ (M 16 (l4).toNat) = l2 then
        if fin (l4 + 1) then
          some (.inl (l4 + 1))
        else none
      else
        some (.inr (.inr l4))
    else none
theorem s_X2_placeOf_16_b3_ok {d L : Nat} {M : fM} {l1 l2 l4 : Int} {r : (Int ⊕ (Unit ⊕ Int))} {Q : fO → fH → Prop} (h : s_X2_placeOf_16_b3 M l1 l2 l4 = some r) (hC : ∀ (l4' : Int), r = .inl l4' → Wp (d + 0, 41, 3, 0, 0, [some (fA 16), some (fI l1), some (fJ l2), none, some (fI l4')], []) (156, fjl L, M) Q) (hE : ∀ (e : Unit) (o0' o1' o2' o3' o4' : Option fV), r = .inr (.inl e) → Wp (d + 0, 41, 27, 0, 0, [o0', o1', o2', o3', o4'], []) (156, fjl L, M) Q) (hR : ∀ (v : Int), r = .inr (.inr v) → Q (oI v) (156, fjl L, M)) : Wp (d + 0, 41, 3, 0, 0, [some (fA 16), some (fI l1), some (fJ l2), none, some (fI l4)], []) (156, fjl L, M) Q := by
  unfold s_X2_placeOf_16_b3 at h
  refine Wp.run 2 (f' := (d + 0, 41, 6, 0, 0, [some (fA 16), some (fI l1), some (fJ l2), none, some (fI l4)], [fI l1, fI l4])) (h' := (156, fjl L, M)) rfl trivial ?_
  refine Wp.br rfl (fun (c : l1 ≤ l4) => ?_) (fun (c : ¬ (l1 ≤ l4)) => ?_)
  · replace h := fps c h
    exact hE _ _ _ _ _ _ (Option.some.inj h).symm
  · replace h := fng c h
    obtain ⟨g0, h⟩ := fgd h
    refine Wp.run 5 (P := [0 ≤ l4 ∧ l4 < 6]) (f' := (d + 0, 41, 15, 0, 0, [some (fA 16), some (fI l1), some (fJ l2), none, some (fI l4)], [fI (fcm (M 16 (l4).toNat) l2)])) (h' := (156, fjl L, M)) rfl ?_ ?_
    · exact g0
    refine Wp.br rfl (fun (c : ¬ (fcm (M 16 (l4).toNat) l2) = 0) => ?_) (fun (c : ¬ (¬ (fcm (M 16 (l4).toNat) l2) = 0)) => ?_)
    · replace c := (fcm_ne _ _).mp c
      replace h := fps c h
      obtain ⟨g0, h⟩ := fgd h
      refine Wp.run 2 (f' := (d + 0, 41, 3, 0, 0, [some (fA 16), some (fI l1), some (fJ l2), none, some (fI (fw (l4 + 1)))], [])) (h' := (156, fjl L, M)) rfl trivial ?_
      rw [fw_id g0]
      exact hC _ (Option.some.inj h).symm
    · replace c := fun z => c ((fcm_ne _ _).mpr z)
      replace h := fng c h
      refine Wp.run 1 (f' := (d + 0, 41, 20, 0, 0, [_, _, _, _, _], [fI l4])) (h' := (156, fjl L, M)) rfl trivial ?_
      exact Wp.done rfl (by decide) (hR _ (Option.some.inj h).symm)
noncomputable def s_X2_placeOf_16_l3 (M : fM) (l1 l2 : Int) (s : Int) : Option (Unit ⊕ Int) := fLp (fun s => s_X2_placeOf_16_b3 M l1 l2 s) s
theorem s_X2_placeOf_16_l3_ok {d L : Nat} {M : fM} {l1 l2 l4 : Int} {r : (Unit ⊕ Int)} {Q : fO → fH → Prop} (h : s_X2_placeOf_16_l3 M l1 l2 l4 = some r) (hE : ∀ (e : Unit) (o0' o1' o2' o3' o4' : Option fV), r = .inl e → Wp (d + 0, 41, 27, 0, 0, [o0', o1', o2', o3', o4'], []) (156, fjl L, M) Q) (hR : ∀ (v : Int), r = .inr v → Q (oI v) (156, fjl L, M)) : Wp (d + 0, 41, 3, 0, 0, [some (fA 16), some (fI l1), some (fJ l2), none, some (fI l4)], []) (156, fjl L, M) Q := by
  refine fLp_wp (W := fun s => Wp (d + 0, 41, 3, 0, 0, [some (fA 16), some (fI l1), some (fJ l2), none, some (fI s)], []) (156, fjl L, M) Q) (e := r) ?_ h
  intro s r1 h hC hX
  refine s_X2_placeOf_16_b3_ok (d := d) h (fun a0 e1 => ?_) (fun e u0 u1 u2 u3 u4 e1 => hE e u0 u1 u2 u3 u4 (hX _ e1).symm) (fun v e1 => hR v (hX _ e1).symm)
  exact hC _ e1
noncomputable def s_X2_placeOf_16 (M : fM) (l1 l2 : Int) : Option Int :=
  (s_X2_placeOf_16_l3 M l1 l2 0).bind fun e3 =>
    Sum.elim (fun x3 =>
      some (-1))
      (fun v3 => some v3) e3
theorem s_X2_placeOf_16_ok {d L : Nat} {M : fM} {l1 l2 : Int} {r : Int} {Q : fO → fH → Prop} (h : s_X2_placeOf_16 M l1 l2 = some r) (H : Q (oI r) (156, fjl L, M)) : Wp (d + 0, 41, 0, 0, 0, [some (fA 16), some (fI l1), some (fJ l2), none, none], []) (156, fjl L, M) Q := by
  unfold s_X2_placeOf_16 at h
  refine Wp.run 2 (f' := (d + 0, 41, 3, 0, 0, [some (fA 16), some (fI l1), some (fJ l2), none, some (fI 0)], [])) (h' := (156, fjl L, M)) rfl trivial ?_
  obtain ⟨e3, hy, h⟩ := fbd h
  refine s_X2_placeOf_16_l3_ok hy (fun x3 u0 u1 u2 u3 u4 ex => ?_) (fun v3 ex => ?_)
  · subst ex
    replace h := fsl h
    show Wp (d + 0, 41, 27, 0, 0, [u0, u1, u2, u3, u4], []) (156, fjl L, M) Q
    refine Wp.run 1 (f' := (d + 0, 41, 28, 0, 0, [_, _, _, _, _], [fI (-1)])) (h' := (156, fjl L, M)) rfl trivial ?_
    obtain rfl := Option.some.inj h
    exact Wp.done rfl (by decide) H
  · subst ex
    replace h := fsr h
    obtain rfl := Option.some.inj h
    exact H
noncomputable def s_X2_tunerNamed_4 (M : fM) (l1 : Int) : Option Int :=
  (s_X2_placeOf_16 M (M 4 14) l1).bind fun y9 =>
    some y9
theorem s_X2_tunerNamed_4_ok {d L : Nat} {M : fM} {l1 : Int} {r : Int} {Q : fO → fH → Prop} (h : s_X2_tunerNamed_4 M l1 = some r) (H : Q (oI r) (156, fjl L, M)) : Wp (d + 1, 38, 0, 0, 0, [some (fA 4), some (fJ l1), none], []) (156, fjl L, M) Q := by
  unfold s_X2_tunerNamed_4 at h
  refine Wp.run 5 (f' := (d + 1, 38, 9, 0, 0, [_, _, _], [fJ l1, fI (M 4 14), fA 16])) (h' := (156, fjl L, M)) rfl trivial ?_
  obtain ⟨y9, hy, h⟩ := fbd h
  refine Wp.call rfl (by decide) (s_X2_placeOf_16_ok (d := d + 0) hy ?_)
  show Wp (d + 1, 38, 12, 0, 0, [_, _, _], [fI y9]) (156, fjl L, M) Q
  obtain rfl := Option.some.inj h
  exact Wp.done rfl (by decide) H
abbrev s_X5_takeTuner_mods : List (Nat × Option Nat) := [(1, some 4), (1, some 5), (1, some 6), (1, some 7), (1, some 8), (1, some 9), (1, some 10)]
noncomputable def s_X5_takeTuner (M : fM) : Option ((Int ⊕ Unit) × fM) :=
  (s_X10_takeName M).bind fun y8 =>
    fel y8.1
      (fun w8 =>
        (s_X2_tunerNamed_4 y8.2 w8).bind fun y11 =>
          if 0 ≤ y11 then
            some (.inl y11, y8.2)
          else
            (s_X10_fail y8.2 3).bind fun y24 =>
              fel y24.1
                (fun w24 =>
                  some (.inl y11, y24.2))
                (some (.inr (), y24.2)))
      (some (.inr (), y8.2))
theorem s_X5_takeTuner_ok {d L : Nat} {M : fM} {r : ((Int ⊕ Unit) × fM)} {Q : fO → fH → Prop} (h : s_X5_takeTuner M = some r) (H : Q (oT oI 1 r.1) (156, fjl L, r.2)) : Wp (d + 9, 73, 0, 0, 0, [some (fA 42), none], []) (156, fjl L, M) Q := by
  unfold s_X5_takeTuner at h
  refine Wp.run 4 (f' := (d + 9, 73, 8, 0, 0, [some (fA 42), _], [fA 1, fA 4])) (h' := (156, fjl L, M)) rfl trivial ?_
  obtain ⟨y8, hy, h⟩ := fbd h
  refine Wp.call rfl (by decide) (s_X10_takeName_ok (d := d + 0) hy ?_)
  obtain ⟨w8, ew, h⟩ | ⟨ew, h⟩ := fel_of h
  · rw [ew]
    show Wp (d + 9, 73, 11, 0, 0, [some (fA 42), _], [fJ w8, fA 4]) (156, fjl L, y8.2) Q
    obtain ⟨y11, hy, h⟩ := fbd h
    refine Wp.call rfl (by decide) (s_X2_tunerNamed_4_ok (d := d + 7) hy ?_)
    show Wp (d + 9, 73, 14, 0, 0, [some (fA 42), _], [fI y11]) (156, fjl L, y8.2) Q
    refine Wp.run 2 (f' := (d + 9, 73, 16, 0, 0, [some (fA 42), some (fI y11)], [fI y11])) (h' := (156, fjl L, y8.2)) rfl trivial ?_
    refine Wp.br rfl (fun (c : 0 ≤ y11) => ?_) (fun (c : ¬ (0 ≤ y11)) => ?_)
    · replace h := fps c h
      refine Wp.run 1 (f' := (d + 9, 73, 28, 0, 0, [_, _], [fI y11])) (h' := (156, fjl L, y8.2)) rfl trivial ?_
      obtain rfl := Option.some.inj h
      exact Wp.done rfl (by decide) H
    · replace h := fng c h
      refine Wp.run 3 (f' := (d + 9, 73, 24, 0, 0, [_, some (fI y11)], [fI 3, fA 1])) (h' := (156, fjl L, y8.2)) rfl trivial ?_
      obtain ⟨y24, hy, h⟩ := fbd h
      refine Wp.call rfl (by decide) (s_X10_fail_ok (d := d + 1) hy ?_)
      obtain ⟨w24, ew, h⟩ | ⟨ew, h⟩ := fel_of h
      · rw [ew]
        show Wp (d + 9, 73, 27, 0, 0, [_, some (fI y11)], []) (156, fjl L, y24.2) Q
        refine Wp.run 1 (f' := (d + 9, 73, 28, 0, 0, [_, _], [fI y11])) (h' := (156, fjl L, y24.2)) rfl trivial ?_
        obtain rfl := Option.some.inj h
        exact Wp.done rfl (by decide) H
      · rw [ew]
        obtain rfl := Option.some.inj h
        exact ⟨⟨rfl, rfl⟩, H⟩
  · rw [ew]
    obtain rfl := Option.some.inj h
    exact ⟨⟨rfl, rfl⟩, H⟩
theorem s_X5_takeTuner_fr {M : fM} {r : ((Int ⊕ Unit) × fM)} (h : s_X5_takeTuner M = some r) : fSame s_X5_takeTuner_mods M r.2 := by
  unfold s_X5_takeTuner at h
  obtain ⟨y8, hy, h⟩ := fbd h
  have k8 := fs_trans (l := s_X5_takeTuner_mods) fs_refl (fs_mono (l := s_X10_takeName_mods) (by decide) (s_X10_takeName_fr hy))
  obtain ⟨w8, ew, h⟩ | ⟨ew, h⟩ := fel_of h
  · obtain ⟨y11, hy, h⟩ := fbd h
    by_cases c : 0 ≤ y11
    · replace h := fps c h
      obtain rfl := Option.some.inj h
      exact k8
    · replace h := fng c h
      obtain ⟨y24, hy, h⟩ := fbd h
      have k24 := fs_trans (l := s_X5_takeTuner_mods) k8 (fs_mono (l := s_X10_fail_mods) (by decide) (s_X10_fail_fr hy))
      obtain ⟨w24, ew, h⟩ | ⟨ew, h⟩ := fel_of h
      · obtain rfl := Option.some.inj h
        exact k24
      · obtain rfl := Option.some.inj h
        exact k24
  · obtain rfl := Option.some.inj h
    exact k8
abbrev s_X5_readWhen_mods : List (Nat × Option Nat) := [(1, some 4), (1, some 5), (1, some 6), (1, some 7), (1, some 8), (1, some 9), (1, some 10), (21, none), (22, none)]
noncomputable def s_X5_readWhen_j48 (M : fM) (l1 l3 t0 : Int) : Option ((Unit ⊕ Unit) × fM) :=
  if (0 ≤ l1 ∧ l1 < 200) then
    (s_X10_take (fup (fup M 21 (l1).toNat l3) 22 (l1).toNat t0)).bind fun y75 =>
      (s_X10_keywordHere y75.2).bind fun y82 =>
        if ¬ y82 = 29 then
          some (.inl (), y75.2)
        else
          (s_X10_takeNumber y75.2 t0 363).bind fun y107 =>
            fel y107.1
              (fun w107 =>
                if (0 ≤ l1 ∧ l1 < 200) then
                  (s_X10_take (fup y107.2 22 (l1).toNat w107)).bind fun y115 =>
                    some (.inl (), y115.2)
                else none)
              (some (.inr (), y107.2))
  else none
theorem s_X5_readWhen_j48_ok {d L : Nat} {M : fM} {l1 l3 t0 : Int} {o2 o4 : Option fV} {r : ((Unit ⊕ Unit) × fM)} {Q : fO → fH → Prop} (h : s_X5_readWhen_j48 M l1 l3 t0 = some r) (H : Q (oT oV 1 r.1) (156, fjl L, r.2)) : Wp (d + 10, 74, 48, 0, 0, [some (fA 42), some (fI l1), o2, some (fI l3), o4], [fI t0]) (156, fjl L, M) Q := by
  unfold s_X5_readWhen_j48 at h
  obtain ⟨g0, h⟩ := fgd h
  refine Wp.run 13 (P := [0 ≤ l1 ∧ l1 < 200, 0 ≤ l1 ∧ l1 < 200]) (f' := (d + 10, 74, 71, 0, 0, [some (fA 42), some (fI l1), _, _, some (fI t0)], [])) (h' := (156, fjl L, (fup (fup M 21 (l1).toNat l3) 22 (l1).toNat t0))) rfl ?_ ?_
  · exact ⟨g0, g0⟩
  refine Wp.run 2 (f' := (d + 10, 74, 75, 0, 0, [some (fA 42), some (fI l1), _, _, some (fI t0)], [fA 1])) (h' := (156, fjl L, (fup (fup M 21 (l1).toNat l3) 22 (l1).toNat t0))) rfl trivial ?_
  obtain ⟨y75, hy, h⟩ := fbd h
  refine Wp.call rfl (by decide) (s_X10_take_ok (d := d + 7) hy ?_)
  show Wp (d + 10, 74, 78, 0, 0, [some (fA 42), some (fI l1), _, _, some (fI t0)], []) (156, fjl L, y75.2) Q
  refine Wp.run 2 (f' := (d + 10, 74, 82, 0, 0, [some (fA 42), some (fI l1), _, _, some (fI t0)], [fA 1])) (h' := (156, fjl L, y75.2)) rfl trivial ?_
  obtain ⟨y82, hy, h⟩ := fbd h
  refine Wp.call rfl (by decide) (s_X10_keywordHere_ok (d := d + 9) hy ?_)
  show Wp (d + 10, 74, 85, 0, 0, [some (fA 42), some (fI l1), _, _, some (fI t0)], [fI y82]) (156, fjl L, y75.2) Q
  refine Wp.run 1 (f' := (d + 10, 74, 87, 0, 0, [some (fA 42), some (fI l1), _, _, some (fI t0)], [fI 29, fI y82])) (h' := (156, fjl L, y75.2)) rfl trivial ?_
  refine Wp.br rfl (fun (c : ¬ y82 = 29) => ?_) (fun (c : ¬ (¬ y82 = 29)) => ?_)
  · replace h := fps c h
    obtain rfl := Option.some.inj h
    exact Wp.done rfl (by decide) H
  · replace h := fng c h
    refine Wp.run 8 (f' := (d + 10, 74, 107, 0, 0, [some (fA 42), _, _, _, _], [fI 363, fI t0, fA 1, fI l1, fA 22])) (h' := (156, fjl L, y75.2)) rfl trivial ?_
    obtain ⟨y107, hy, h⟩ := fbd h
    refine Wp.call rfl (by decide) (s_X10_takeNumber_ok (d := d + 0) hy ?_)
    obtain ⟨w107, ew, h⟩ | ⟨ew, h⟩ := fel_of h
    · rw [ew]
      show Wp (d + 10, 74, 110, 0, 0, [some (fA 42), _, _, _, _], [fI w107, fI l1, fA 22]) (156, fjl L, y107.2) Q
      obtain ⟨g0, h⟩ := fgd h
      refine Wp.run 3 (P := [0 ≤ l1 ∧ l1 < 200]) (f' := (d + 10, 74, 115, 0, 0, [_, _, _, _, _], [fA 1])) (h' := (156, fjl L, (fup y107.2 22 (l1).toNat w107))) rfl ?_ ?_
      · exact g0
      obtain ⟨y115, hy, h⟩ := fbd h
      refine Wp.call rfl (by decide) (s_X10_take_ok (d := d + 7) hy ?_)
      show Wp (d + 10, 74, 118, 0, 0, [_, _, _, _, _], []) (156, fjl L, y115.2) Q
      obtain rfl := Option.some.inj h
      exact Wp.done rfl (by decide) H
    · rw [ew]
      obtain rfl := Option.some.inj h
      exact ⟨⟨rfl, rfl⟩, H⟩
theorem s_X5_readWhen_j48_fr {M : fM} {l1 l3 t0 : Int} {r : ((Unit ⊕ Unit) × fM)} (h : s_X5_readWhen_j48 M l1 l3 t0 = some r) : fSame s_X5_readWhen_mods M r.2 := by
  unfold s_X5_readWhen_j48 at h
  replace h := (fgd h).2
  obtain ⟨y75, hy, h⟩ := fbd h
  have k75 := fs_trans (l := s_X5_readWhen_mods) (fs_up (fs_up fs_refl (.inl (by decide))) (.inl (by decide))) (fs_mono (l := s_X10_take_mods) (by decide) (s_X10_take_fr hy))
  obtain ⟨y82, hy, h⟩ := fbd h
  by_cases c : ¬ y82 = 29
  · replace h := fps c h
    obtain rfl := Option.some.inj h
    exact k75
  · replace h := fng c h
    obtain ⟨y107, hy, h⟩ := fbd h
    have k107 := fs_trans (l := s_X5_readWhen_mods) k75 (fs_mono (l := s_X10_takeNumber_mods) (by decide) (s_X10_takeNumber_fr hy))
    obtain ⟨w107, ew, h⟩ | ⟨ew, h⟩ := fel_of h
    · replace h := (fgd h).2
      obtain ⟨y115, hy, h⟩ := fbd h
      have k115 := fs_trans (l := s_X5_readWhen_mods) (fs_up k107 (.inl (by decide))) (fs_mono (l := s_X10_take_mods) (by decide) (s_X10_take_fr hy))
      obtain rfl := Option.some.inj h
      exact k115
    · obtain rfl := Option.some.inj h
      exact k107
noncomputable def s_X5_readWhen_j27 (M : fM) (l1 l2 : Int) : Option ((Unit ⊕ Unit) × fM) :=
  (s_X10_takeNumber M 0 363).bind fun y35 =>
    fel y35.1
      (fun w35 =>
        if l2 = 0 then
          s_X5_readWhen_j48 y35.2 l1 w35 w35
        else
          s_X5_readWhen_j48 y35.2 l1 w35 0)
      (some (.inr (), y35.2))
theorem s_X5_readWhen_j27_ok {d L : Nat} {M : fM} {l1 l2 : Int} {o3 o4 : Option fV} {r : ((Unit ⊕ Unit) × fM)} {Q : fO → fH → Prop} (h : s_X5_readWhen_j27 M l1 l2 = some r) (H : Q (oT oV 1 r.1) (156, fjl L, r.2)) : Wp (d + 10, 74, 27, 0, 0, [some (fA 42), some (fI l1), some (fI l2), o3, o4], []) (156, fjl L, M) Q := by
  unfold s_X5_readWhen_j27 at h
  refine Wp.run 4 (f' := (d + 10, 74, 35, 0, 0, [some (fA 42), some (fI l1), some (fI l2), _, _], [fI 363, fI 0, fA 1])) (h' := (156, fjl L, M)) rfl trivial ?_
  obtain ⟨y35, hy, h⟩ := fbd h
  refine Wp.call rfl (by decide) (s_X10_takeNumber_ok (d := d + 0) hy ?_)
  obtain ⟨w35, ew, h⟩ | ⟨ew, h⟩ := fel_of h
  · rw [ew]
    show Wp (d + 10, 74, 38, 0, 0, [some (fA 42), some (fI l1), some (fI l2), _, _], [fI w35]) (156, fjl L, y35.2) Q
    refine Wp.run 2 (f' := (d + 10, 74, 40, 0, 0, [some (fA 42), some (fI l1), _, some (fI w35), _], [fI l2])) (h' := (156, fjl L, y35.2)) rfl trivial ?_
    refine Wp.br rfl (fun (c : l2 = 0) => ?_) (fun (c : ¬ (l2 = 0)) => ?_)
    · replace h := fps c h
      refine Wp.run 1 (f' := (d + 10, 74, 48, 0, 0, [some (fA 42), some (fI l1), _, some (fI w35), _], [fI w35])) (h' := (156, fjl L, y35.2)) rfl trivial ?_
      exact s_X5_readWhen_j48_ok h H
    · replace h := fng c h
      refine Wp.run 2 (f' := (d + 10, 74, 48, 0, 0, [some (fA 42), some (fI l1), _, some (fI w35), _], [fI 0])) (h' := (156, fjl L, y35.2)) rfl trivial ?_
      exact s_X5_readWhen_j48_ok h H
  · rw [ew]
    obtain rfl := Option.some.inj h
    exact ⟨⟨rfl, rfl⟩, H⟩
theorem s_X5_readWhen_j27_fr {M : fM} {l1 l2 : Int} {r : ((Unit ⊕ Unit) × fM)} (h : s_X5_readWhen_j27 M l1 l2 = some r) : fSame s_X5_readWhen_mods M r.2 := by
  unfold s_X5_readWhen_j27 at h
  obtain ⟨y35, hy, h⟩ := fbd h
  have k35 := fs_trans (l := s_X5_readWhen_mods) fs_refl (fs_mono (l := s_X10_takeNumber_mods) (by decide) (s_X10_takeNumber_fr hy))
  obtain ⟨w35, ew, h⟩ | ⟨ew, h⟩ := fel_of h
  · by_cases c : l2 = 0
    · replace h := fps c h
      exact fs_trans k35 (s_X5_readWhen_j48_fr h)
    · replace h := fng c h
      exact fs_trans k35 (s_X5_readWhen_j48_fr h)
  · obtain rfl := Option.some.inj h
    exact k35
noncomputable def s_X5_readWhen (M : fM) (l1 l2 : Int) : Option ((Unit ⊕ Unit) × fM) :=
  (s_X10_take M).bind fun y4 =>
    (s_X10_keywordHere y4.2).bind fun y11 =>
      if y11 = 28 then
        s_X5_readWhen_j27 y4.2 l1 l2
      else
        (s_X10_fail y4.2 1).bind fun y24 =>
          fel y24.1
            (fun w24 =>
              s_X5_readWhen_j27 y24.2 l1 l2)
            (some (.inr (), y24.2))
theorem s_X5_readWhen_ok {d L : Nat} {M : fM} {l1 l2 : Int} {r : ((Unit ⊕ Unit) × fM)} {Q : fO → fH → Prop} (h : s_X5_readWhen M l1 l2 = some r) (H : Q (oT oV 1 r.1) (156, fjl L, r.2)) : Wp (d + 10, 74, 0, 0, 0, [some (fA 42), some (fI l1), some (fI l2), none, none], []) (156, fjl L, M) Q := by
  unfold s_X5_readWhen at h
  refine Wp.run 2 (f' := (d + 10, 74, 4, 0, 0, [some (fA 42), some (fI l1), some (fI l2), _, _], [fA 1])) (h' := (156, fjl L, M)) rfl trivial ?_
  obtain ⟨y4, hy, h⟩ := fbd h
  refine Wp.call rfl (by decide) (s_X10_take_ok (d := d + 7) hy ?_)
  show Wp (d + 10, 74, 7, 0, 0, [some (fA 42), some (fI l1), some (fI l2), _, _], []) (156, fjl L, y4.2) Q
  refine Wp.run 2 (f' := (d + 10, 74, 11, 0, 0, [some (fA 42), some (fI l1), some (fI l2), _, _], [fA 1])) (h' := (156, fjl L, y4.2)) rfl trivial ?_
  obtain ⟨y11, hy, h⟩ := fbd h
  refine Wp.call rfl (by decide) (s_X10_keywordHere_ok (d := d + 9) hy ?_)
  show Wp (d + 10, 74, 14, 0, 0, [some (fA 42), some (fI l1), some (fI l2), _, _], [fI y11]) (156, fjl L, y4.2) Q
  refine Wp.run 1 (f' := (d + 10, 74, 16, 0, 0, [some (fA 42), some (fI l1), some (fI l2), _, _], [fI 28, fI y11])) (h' := (156, fjl L, y4.2)) rfl trivial ?_
  refine Wp.br rfl (fun (c : y11 = 28) => ?_) (fun (c : ¬ (y11 = 28)) => ?_)
  · replace h := fps c h
    exact s_X5_readWhen_j27_ok h H
  · replace h := fng c h
    refine Wp.run 3 (f' := (d + 10, 74, 24, 0, 0, [some (fA 42), some (fI l1), some (fI l2), _, _], [fI 1, fA 1])) (h' := (156, fjl L, y4.2)) rfl trivial ?_
    obtain ⟨y24, hy, h⟩ := fbd h
    refine Wp.call rfl (by decide) (s_X10_fail_ok (d := d + 2) hy ?_)
    obtain ⟨w24, ew, h⟩ | ⟨ew, h⟩ := fel_of h
    · rw [ew]
      show Wp (d + 10, 74, 27, 0, 0, [some (fA 42), some (fI l1), some (fI l2), _, _], []) (156, fjl L, y24.2) Q
      exact s_X5_readWhen_j27_ok h H
    · rw [ew]
      obtain rfl := Option.some.inj h
      exact ⟨⟨rfl, rfl⟩, H⟩
theorem s_X5_readWhen_fr {M : fM} {l1 l2 : Int} {r : ((Unit ⊕ Unit) × fM)} (h : s_X5_readWhen M l1 l2 = some r) : fSame s_X5_readWhen_mods M r.2 := by
  unfold s_X5_readWhen at h
  obtain ⟨y4, hy, h⟩ := fbd h
  have k4 := fs_trans (l := s_X5_readWhen_mods) fs_refl (fs_mono (l := s_X10_take_mods) (by decide) (s_X10_take_fr hy))
  obtain ⟨y11, hy, h⟩ := fbd h
  by_cases c : y11 = 28
  · replace h := fps c h
    exact fs_trans k4 (s_X5_readWhen_j27_fr h)
  · replace h := fng c h
    obtain ⟨y24, hy, h⟩ := fbd h
    have k24 := fs_trans (l := s_X5_readWhen_mods) k4 (fs_mono (l := s_X10_fail_mods) (by decide) (s_X10_fail_fr hy))
    obtain ⟨w24, ew, h⟩ | ⟨ew, h⟩ := fel_of h
    · exact fs_trans k24 (s_X5_readWhen_j27_fr h)
    · obtain rfl := Option.some.inj h
      exact k24
noncomputable def s_X6_isTold_18 (M : fM) (l1 l2 : Int) : Option Int :=
  if (0 ≤ l1 ∧ l1 < 200) then
    if ¬ (fand (fshr (M 25 (l1).toNat) l2) 1) = 1 then
      some 0
    else
      some 1
  else none
theorem s_X6_isTold_18_ok {d L : Nat} {M : fM} {l1 l2 : Int} {r : Int} {Q : fO → fH → Prop} (h : s_X6_isTold_18 M l1 l2 = some r) (H : Q (oI r) (156, fjl L, M)) : Wp (d + 0, 79, 0, 0, 0, [some (fA 18), some (fI l1), some (fI l2)], []) (156, fjl L, M) Q := by
  unfold s_X6_isTold_18 at h
  obtain ⟨g0, h⟩ := fgd h
  refine Wp.run 9 (P := [0 ≤ l1 ∧ l1 < 200]) (f' := (d + 0, 79, 11, 0, 0, [_, _, _], [fI 1, fI (fand (fshr (M 25 (l1).toNat) l2) 1)])) (h' := (156, fjl L, M)) rfl ?_ ?_
  · exact g0
  refine Wp.br rfl (fun (c : ¬ (fand (fshr (M 25 (l1).toNat) l2) 1) = 1) => ?_) (fun (c : ¬ (¬ (fand (fshr (M 25 (l1).toNat) l2) 1) = 1)) => ?_)
  · replace h := fps c h
    refine Wp.run 1 (f' := (d + 0, 79, 19, 0, 0, [_, _, _], [fI 0])) (h' := (156, fjl L, M)) rfl trivial ?_
    obtain rfl := Option.some.inj h
    exact Wp.done rfl (by decide) H
  · replace h := fng c h
    refine Wp.run 2 (f' := (d + 0, 79, 19, 0, 0, [_, _, _], [fI 1])) (h' := (156, fjl L, M)) rfl trivial ?_
    obtain rfl := Option.some.inj h
    exact Wp.done rfl (by decide) H
abbrev s_X5_readNote_mods : List (Nat × Option Nat) := [(1, some 4), (1, some 5), (1, some 6), (1, some 7), (1, some 8), (1, some 9), (1, some 10), (25, none), (26, none)]
noncomputable def s_X5_readNote_j31 (M : fM) (l1 l2 : Int) : Option ((Unit ⊕ Unit) × fM) :=
  if (0 ≤ l1 ∧ l1 < 200) ∧ fin (l1 * 12) ∧ fin ((l1 * 12) + l2) then
    (s_X10_takeSigned (fup M 25 (l1).toNat (fior (M 25 (l1).toNat) (fshl 1 l2))) 999).bind fun y66 =>
      fel y66.1
        (fun w66 =>
          if (0 ≤ ((l1 * 12) + l2) ∧ ((l1 * 12) + l2) < 2400) then
            (s_X10_take (fup y66.2 26 ((l1 * 12) + l2).toNat w66)).bind fun y74 =>
              some (.inl (), y74.2)
          else none)
        (some (.inr (), y66.2))
  else none
theorem s_X5_readNote_j31_ok {d L : Nat} {M : fM} {l1 l2 : Int} {r : ((Unit ⊕ Unit) × fM)} {Q : fO → fH → Prop} (h : s_X5_readNote_j31 M l1 l2 = some r) (H : Q (oT oV 1 r.1) (156, fjl L, r.2)) : Wp (d + 10, 75, 31, 0, 0, [some (fA 42), some (fI l1), some (fI l2)], []) (156, fjl L, M) Q := by
  unfold s_X5_readNote_j31 at h
  obtain ⟨⟨g0, g1, g2⟩, h⟩ := fgd h
  refine Wp.run 20 (P := [0 ≤ l1 ∧ l1 < 200, 0 ≤ l1 ∧ l1 < 200]) (f' := (d + 10, 75, 60, 0, 0, [some (fA 42), _, _], [fA 42, fI (fw ((fw (l1 * 12)) + l2)), fA 26])) (h' := (156, fjl L, (fup M 25 (l1).toNat (fior (M 25 (l1).toNat) (fshl 1 l2))))) rfl ?_ ?_
  · exact ⟨g0, g0⟩
  rw [fw_id g1, fw_id g2]
  refine Wp.run 2 (f' := (d + 10, 75, 66, 0, 0, [some (fA 42), _, _], [fI 999, fA 1, fI ((l1 * 12) + l2), fA 26])) (h' := (156, fjl L, (fup M 25 (l1).toNat (fior (M 25 (l1).toNat) (fshl 1 l2))))) rfl trivial ?_
  obtain ⟨y66, hy, h⟩ := fbd h
  refine Wp.call rfl (by decide) (s_X10_takeSigned_ok (d := d + 0) hy ?_)
  obtain ⟨w66, ew, h⟩ | ⟨ew, h⟩ := fel_of h
  · rw [ew]
    show Wp (d + 10, 75, 69, 0, 0, [some (fA 42), _, _], [fI w66, fI ((l1 * 12) + l2), fA 26]) (156, fjl L, y66.2) Q
    obtain ⟨g0, h⟩ := fgd h
    refine Wp.run 3 (P := [0 ≤ ((l1 * 12) + l2) ∧ ((l1 * 12) + l2) < 2400]) (f' := (d + 10, 75, 74, 0, 0, [_, _, _], [fA 1])) (h' := (156, fjl L, (fup y66.2 26 ((l1 * 12) + l2).toNat w66))) rfl ?_ ?_
    · exact g0
    obtain ⟨y74, hy, h⟩ := fbd h
    refine Wp.call rfl (by decide) (s_X10_take_ok (d := d + 7) hy ?_)
    show Wp (d + 10, 75, 77, 0, 0, [_, _, _], []) (156, fjl L, y74.2) Q
    obtain rfl := Option.some.inj h
    exact Wp.done rfl (by decide) H
  · rw [ew]
    obtain rfl := Option.some.inj h
    exact ⟨⟨rfl, rfl⟩, H⟩
theorem s_X5_readNote_j31_fr {M : fM} {l1 l2 : Int} {r : ((Unit ⊕ Unit) × fM)} (h : s_X5_readNote_j31 M l1 l2 = some r) : fSame s_X5_readNote_mods M r.2 := by
  unfold s_X5_readNote_j31 at h
  replace h := (fgd h).2
  obtain ⟨y66, hy, h⟩ := fbd h
  have k66 := fs_trans (l := s_X5_readNote_mods) (fs_up fs_refl (.inl (by decide))) (fs_mono (l := s_X10_takeSigned_mods) (by decide) (s_X10_takeSigned_fr hy))
  obtain ⟨w66, ew, h⟩ | ⟨ew, h⟩ := fel_of h
  · replace h := (fgd h).2
    obtain ⟨y74, hy, h⟩ := fbd h
    have k74 := fs_trans (l := s_X5_readNote_mods) (fs_up k66 (.inl (by decide))) (fs_mono (l := s_X10_take_mods) (by decide) (s_X10_take_fr hy))
    obtain rfl := Option.some.inj h
    exact k74
  · obtain rfl := Option.some.inj h
    exact k66
noncomputable def s_X5_readNote (M : fM) (l1 : Int) : Option ((Unit ⊕ Unit) × fM) :=
  (s_X10_numberHere M 0 11).bind fun y7 =>
    fel y7.1
      (fun w7 =>
        (s_X6_isTold_18 y7.2 l1 w7).bind fun y17 =>
          if y17 = 0 then
            s_X5_readNote_j31 y7.2 l1 w7
          else
            (s_X10_fail y7.2 3).bind fun y28 =>
              fel y28.1
                (fun w28 =>
                  s_X5_readNote_j31 y28.2 l1 w7)
                (some (.inr (), y28.2)))
      (some (.inr (), y7.2))
theorem s_X5_readNote_ok {d L : Nat} {M : fM} {l1 : Int} {r : ((Unit ⊕ Unit) × fM)} {Q : fO → fH → Prop} (h : s_X5_readNote M l1 = some r) (H : Q (oT oV 1 r.1) (156, fjl L, r.2)) : Wp (d + 10, 75, 0, 0, 0, [some (fA 42), some (fI l1), none], []) (156, fjl L, M) Q := by
  unfold s_X5_readNote at h
  refine Wp.run 4 (f' := (d + 10, 75, 7, 0, 0, [some (fA 42), some (fI l1), _], [fI 11, fI 0, fA 1])) (h' := (156, fjl L, M)) rfl trivial ?_
  obtain ⟨y7, hy, h⟩ := fbd h
  refine Wp.call rfl (by decide) (s_X10_numberHere_ok (d := d + 1) hy ?_)
  obtain ⟨w7, ew, h⟩ | ⟨ew, h⟩ := fel_of h
  · rw [ew]
    show Wp (d + 10, 75, 10, 0, 0, [some (fA 42), some (fI l1), _], [fI w7]) (156, fjl L, y7.2) Q
    refine Wp.run 5 (f' := (d + 10, 75, 17, 0, 0, [some (fA 42), some (fI l1), some (fI w7)], [fI w7, fI l1, fA 18])) (h' := (156, fjl L, y7.2)) rfl trivial ?_
    obtain ⟨y17, hy, h⟩ := fbd h
    refine Wp.call rfl (by decide) (s_X6_isTold_18_ok (d := d + 9) hy ?_)
    show Wp (d + 10, 75, 20, 0, 0, [some (fA 42), some (fI l1), some (fI w7)], [fI y17]) (156, fjl L, y7.2) Q
    refine Wp.br rfl (fun (c : y17 = 0) => ?_) (fun (c : ¬ (y17 = 0)) => ?_)
    · replace h := fps c h
      exact s_X5_readNote_j31_ok h H
    · replace h := fng c h
      refine Wp.run 3 (f' := (d + 10, 75, 28, 0, 0, [some (fA 42), some (fI l1), some (fI w7)], [fI 3, fA 1])) (h' := (156, fjl L, y7.2)) rfl trivial ?_
      obtain ⟨y28, hy, h⟩ := fbd h
      refine Wp.call rfl (by decide) (s_X10_fail_ok (d := d + 2) hy ?_)
      obtain ⟨w28, ew, h⟩ | ⟨ew, h⟩ := fel_of h
      · rw [ew]
        show Wp (d + 10, 75, 31, 0, 0, [some (fA 42), some (fI l1), some (fI w7)], []) (156, fjl L, y28.2) Q
        exact s_X5_readNote_j31_ok h H
      · rw [ew]
        obtain rfl := Option.some.inj h
        exact ⟨⟨rfl, rfl⟩, H⟩
  · rw [ew]
    obtain rfl := Option.some.inj h
    exact ⟨⟨rfl, rfl⟩, H⟩
theorem s_X5_readNote_fr {M : fM} {l1 : Int} {r : ((Unit ⊕ Unit) × fM)} (h : s_X5_readNote M l1 = some r) : fSame s_X5_readNote_mods M r.2 := by
  unfold s_X5_readNote at h
  obtain ⟨y7, hy, h⟩ := fbd h
  have k7 := fs_trans (l := s_X5_readNote_mods) fs_refl (fs_mono (l := s_X10_numberHere_mods) (by decide) (s_X10_numberHere_fr hy))
  obtain ⟨w7, ew, h⟩ | ⟨ew, h⟩ := fel_of h
  · obtain ⟨y17, hy, h⟩ := fbd h
    by_cases c : y17 = 0
    · replace h := fps c h
      exact fs_trans k7 (s_X5_readNote_j31_fr h)
    · replace h := fng c h
      obtain ⟨y28, hy, h⟩ := fbd h
      have k28 := fs_trans (l := s_X5_readNote_mods) k7 (fs_mono (l := s_X10_fail_mods) (by decide) (s_X10_fail_fr hy))
      obtain ⟨w28, ew, h⟩ | ⟨ew, h⟩ := fel_of h
      · exact fs_trans k28 (s_X5_readNote_j31_fr h)
      · obtain rfl := Option.some.inj h
        exact k28
  · obtain rfl := Option.some.inj h
    exact k7
abbrev s_X5_readLine_mods : List (Nat × Option Nat) := [(1, some 4), (1, some 5), (1, some 6), (1, some 7), (1, some 8), (1, some 9), (1, some 10), (19, none), (20, none), (21, none), (22, none), (23, none), (24, none), (25, none), (26, none)]
noncomputable def s_X5_readLine_b187 (M : fM) (l1 l4 l5 : Int) : Option ((Int × fM) ⊕ (fM ⊕ ((Unit ⊕ Unit) × fM))) :=
  if 12 < l5 then
    some (.inr (.inl M))
  else
    if l4 = 0 then
      some (.inr (.inl M))
    else
      if ¬ (M 1 6) = 3 then
        some (.inr (.inl M))
      else
        (s_X5_readNote M l1).bind fun y212 =>
          fel y212.1
            (fun w212 =>
              if fin (l5 + 1) then
                some (.inl ((l5 + 1), y212.2))
              else none)
            (some (.inr (.inr (.inr (), y212.2))))
theorem s_X5_readLine_b187_ok {d L : Nat} {M : fM} {l1 l4 l5 : Int} {o2 o3 : Option fV} {r : ((Int × fM) ⊕ (fM ⊕ ((Unit ⊕ Unit) × fM)))} {Q : fO → fH → Prop} (h : s_X5_readLine_b187 M l1 l4 l5 = some r) (hC : ∀ (l5' : Int) (M' : fM) (o2' o3' : Option fV), r = .inl (l5', M') → Wp (d + 11, 71, 187, 0, 0, [some (fA 42), some (fI l1), o2', o3', some (fI l4), some (fI l5')], []) (156, fjl L, M') Q) (hE : ∀ (e : fM) (o0' o1' o2' o3' o4' o5' : Option fV), r = .inr (.inl e) → Wp (d + 11, 71, 221, 0, 0, [o0', o1', o2', o3', o4', o5'], []) (156, fjl L, e) Q) (hR : ∀ (v : ((Unit ⊕ Unit) × fM)), r = .inr (.inr v) → Q (oT oV 1 v.1) (156, fjl L, v.2)) : Wp (d + 11, 71, 187, 0, 0, [some (fA 42), some (fI l1), o2, o3, some (fI l4), some (fI l5)], []) (156, fjl L, M) Q := by
  unfold s_X5_readLine_b187 at h
  refine Wp.run 2 (f' := (d + 11, 71, 191, 0, 0, [some (fA 42), some (fI l1), _, _, some (fI l4), some (fI l5)], [fI 12, fI l5])) (h' := (156, fjl L, M)) rfl trivial ?_
  refine Wp.br rfl (fun (c : 12 < l5) => ?_) (fun (c : ¬ (12 < l5)) => ?_)
  · replace h := fps c h
    exact hE _ _ _ _ _ _ _ (Option.some.inj h).symm
  · replace h := fng c h
    refine Wp.run 1 (f' := (d + 11, 71, 196, 0, 0, [some (fA 42), some (fI l1), _, _, some (fI l4), some (fI l5)], [fI l4])) (h' := (156, fjl L, M)) rfl trivial ?_
    refine Wp.br rfl (fun (c : l4 = 0) => ?_) (fun (c : ¬ (l4 = 0)) => ?_)
    · replace h := fps c h
      exact hE _ _ _ _ _ _ _ (Option.some.inj h).symm
    · replace h := fng c h
      refine Wp.run 4 (f' := (d + 11, 71, 207, 0, 0, [some (fA 42), some (fI l1), _, _, some (fI l4), some (fI l5)], [fI 3, fI (M 1 6)])) (h' := (156, fjl L, M)) rfl trivial ?_
      refine Wp.br rfl (fun (c : ¬ (M 1 6) = 3) => ?_) (fun (c : ¬ (¬ (M 1 6) = 3)) => ?_)
      · replace h := fps c h
        exact hE _ _ _ _ _ _ _ (Option.some.inj h).symm
      · replace h := fng c h
        refine Wp.run 2 (f' := (d + 11, 71, 212, 0, 0, [some (fA 42), some (fI l1), _, _, some (fI l4), some (fI l5)], [fI l1, fA 42])) (h' := (156, fjl L, M)) rfl trivial ?_
        obtain ⟨y212, hy, h⟩ := fbd h
        refine Wp.call rfl (by decide) (s_X5_readNote_ok (d := d + 0) hy ?_)
        obtain ⟨w212, ew, h⟩ | ⟨ew, h⟩ := fel_of h
        · rw [ew]
          show Wp (d + 11, 71, 215, 0, 0, [some (fA 42), some (fI l1), _, _, some (fI l4), some (fI l5)], []) (156, fjl L, y212.2) Q
          obtain ⟨g0, h⟩ := fgd h
          refine Wp.run 2 (f' := (d + 11, 71, 187, 0, 0, [some (fA 42), some (fI l1), _, _, some (fI l4), some (fI (fw (l5 + 1)))], [])) (h' := (156, fjl L, y212.2)) rfl trivial ?_
          rw [fw_id g0]
          exact hC _ _ _ _ (Option.some.inj h).symm
        · rw [ew]
          exact ⟨⟨rfl, rfl⟩, hR _ (Option.some.inj h).symm⟩
theorem s_X5_readLine_b187_fr {M : fM} {l1 l4 l5 : Int} {r : ((Int × fM) ⊕ (fM ⊕ ((Unit ⊕ Unit) × fM)))} (h : s_X5_readLine_b187 M l1 l4 l5 = some r) : fSame s_X5_readLine_mods M (Sum.elim (fun s => s.2) (Sum.elim (fun e => e) (fun v => v.2)) r) := by
  unfold s_X5_readLine_b187 at h
  by_cases c : 12 < l5
  · replace h := fps c h
    obtain rfl := Option.some.inj h
    exact fs_refl
  · replace h := fng c h
    by_cases c : l4 = 0
    · replace h := fps c h
      obtain rfl := Option.some.inj h
      exact fs_refl
    · replace h := fng c h
      by_cases c : ¬ (M 1 6) = 3
      · replace h := fps c h
        obtain rfl := Option.some.inj h
        exact fs_refl
      · replace h := fng c h
        obtain ⟨y212, hy, h⟩ := fbd h
        have k212 := fs_trans (l := s_X5_readLine_mods) fs_refl (fs_mono (l := s_X5_readNote_mods) (by decide) (s_X5_readNote_fr hy))
        obtain ⟨w212, ew, h⟩ | ⟨ew, h⟩ := fel_of h
        · replace h := (fgd h).2
          obtain rfl := Option.some.inj h
          exact k212
        · obtain rfl := Option.some.inj h
          exact k212
noncomputable def s_X5_readLine_l187 (l1 l4 : Int) (s : (Int × fM)) : Option (fM ⊕ ((Unit ⊕ Unit) × fM)) := fLp (fun s => s_X5_readLine_b187 s.2 l1 l4 s.1) s
theorem s_X5_readLine_l187_ok {d L : Nat} {M : fM} {l1 l4 l5 : Int} {o2 o3 : Option fV} {r : (fM ⊕ ((Unit ⊕ Unit) × fM))} {Q : fO → fH → Prop} (h : s_X5_readLine_l187 l1 l4 (l5, M) = some r) (hE : ∀ (e : fM) (o0' o1' o2' o3' o4' o5' : Option fV), r = .inl e → Wp (d + 11, 71, 221, 0, 0, [o0', o1', o2', o3', o4', o5'], []) (156, fjl L, e) Q) (hR : ∀ (v : ((Unit ⊕ Unit) × fM)), r = .inr v → Q (oT oV 1 v.1) (156, fjl L, v.2)) : Wp (d + 11, 71, 187, 0, 0, [some (fA 42), some (fI l1), o2, o3, some (fI l4), some (fI l5)], []) (156, fjl L, M) Q := by
  refine fLp_wp (W := fun s => ∀ (o2 o3 : Option fV), Wp (d + 11, 71, 187, 0, 0, [some (fA 42), some (fI l1), o2, o3, some (fI l4), some (fI s.1)], []) (156, fjl L, s.2) Q) (e := r) ?_ h _ _
  intro s r1 h hC hX o2 o3
  refine s_X5_readLine_b187_ok (d := d) h (fun a0 a1 _ _ e1 => ?_) (fun e u0 u1 u2 u3 u4 u5 e1 => hE e u0 u1 u2 u3 u4 u5 (hX _ e1).symm) (fun v e1 => hR v (hX _ e1).symm)
  exact hC _ e1 _ _
theorem s_X5_readLine_l187_fr {M : fM} {l1 l4 l5 : Int} {r : (fM ⊕ ((Unit ⊕ Unit) × fM))} (h : s_X5_readLine_l187 l1 l4 (l5, M) = some r) : fSame s_X5_readLine_mods M ((Sum.elim (fun e => e) (fun v => v.2)) r) := by
  refine fLp_inv (I := fun s => fSame s_X5_readLine_mods M s.2) (J := fun r => fSame s_X5_readLine_mods M ((Sum.elim (fun e => e) (fun v => v.2)) r)) h fs_refl (fun s s1 hs hb => ?_) (fun s e hs hb => ?_)
  · exact fs_trans hs (s_X5_readLine_b187_fr hb)
  · exact fs_trans hs (s_X5_readLine_b187_fr hb)
noncomputable def s_X5_readLine_j182 (M : fM) (l1 t0 : Int) : Option ((Unit ⊕ Unit) × fM) :=
  (s_X5_readLine_l187 l1 t0 (0, M)).bind fun e187 =>
    Sum.elim (fun x187 =>
      some (.inl (), x187))
      (fun v187 => some v187) e187
theorem s_X5_readLine_j182_ok {d L : Nat} {M : fM} {l1 t0 : Int} {o2 o3 o4 o5 : Option fV} {r : ((Unit ⊕ Unit) × fM)} {Q : fO → fH → Prop} (h : s_X5_readLine_j182 M l1 t0 = some r) (H : Q (oT oV 1 r.1) (156, fjl L, r.2)) : Wp (d + 11, 71, 182, 0, 0, [some (fA 42), some (fI l1), o2, o3, o4, o5], [fI t0]) (156, fjl L, M) Q := by
  unfold s_X5_readLine_j182 at h
  refine Wp.run 3 (f' := (d + 11, 71, 187, 0, 0, [some (fA 42), some (fI l1), _, _, some (fI t0), some (fI 0)], [])) (h' := (156, fjl L, M)) rfl trivial ?_
  obtain ⟨e187, hy, h⟩ := fbd h
  refine s_X5_readLine_l187_ok hy (fun x187 u0 u1 u2 u3 u4 u5 ex => ?_) (fun v187 ex => ?_)
  · subst ex
    replace h := fsl h
    show Wp (d + 11, 71, 221, 0, 0, [u0, u1, u2, u3, u4, u5], []) (156, fjl L, x187) Q
    obtain rfl := Option.some.inj h
    exact Wp.done rfl (by decide) H
  · subst ex
    replace h := fsr h
    obtain rfl := Option.some.inj h
    exact H
theorem s_X5_readLine_j182_fr {M : fM} {l1 t0 : Int} {r : ((Unit ⊕ Unit) × fM)} (h : s_X5_readLine_j182 M l1 t0 = some r) : fSame s_X5_readLine_mods M r.2 := by
  unfold s_X5_readLine_j182 at h
  obtain ⟨e187, hy, h⟩ := fbd h
  have k187 := fs_trans (l := s_X5_readLine_mods) fs_refl (s_X5_readLine_l187_fr hy)
  rcases e187 with x187 | v187
  · replace h := fsl h
    obtain rfl := Option.some.inj h
    exact k187
  · replace h := fsr h
    obtain rfl := Option.some.inj h
    exact k187
noncomputable def s_X5_readLine_j177 (M : fM) (l1 : Int) : Option ((Unit ⊕ Unit) × fM) :=
  s_X5_readLine_j182 M l1 1
theorem s_X5_readLine_j177_ok {d L : Nat} {M : fM} {l1 : Int} {o2 o3 o4 o5 : Option fV} {r : ((Unit ⊕ Unit) × fM)} {Q : fO → fH → Prop} (h : s_X5_readLine_j177 M l1 = some r) (H : Q (oT oV 1 r.1) (156, fjl L, r.2)) : Wp (d + 11, 71, 177, 0, 0, [some (fA 42), some (fI l1), o2, o3, o4, o5], []) (156, fjl L, M) Q := by
  unfold s_X5_readLine_j177 at h
  refine Wp.run 2 (f' := (d + 11, 71, 182, 0, 0, [some (fA 42), some (fI l1), _, _, _, _], [fI 1])) (h' := (156, fjl L, M)) rfl trivial ?_
  exact s_X5_readLine_j182_ok h H
theorem s_X5_readLine_j177_fr {M : fM} {l1 : Int} {r : ((Unit ⊕ Unit) × fM)} (h : s_X5_readLine_j177 M l1 = some r) : fSame s_X5_readLine_mods M r.2 := by
  unfold s_X5_readLine_j177 at h
  exact fs_trans fs_refl (s_X5_readLine_j182_fr h)
noncomputable def s_X5_readLine_j168 (M : fM) (l1 l2 : Int) : Option ((Unit ⊕ Unit) × fM) :=
  if l2 = 0 then
    s_X5_readLine_j177 M l1
  else
    if ¬ l2 = 1 then
      s_X5_readLine_j182 M l1 0
    else
      s_X5_readLine_j177 M l1
theorem s_X5_readLine_j168_ok {d L : Nat} {M : fM} {l1 l2 : Int} {o3 o4 o5 : Option fV} {r : ((Unit ⊕ Unit) × fM)} {Q : fO → fH → Prop} (h : s_X5_readLine_j168 M l1 l2 = some r) (H : Q (oT oV 1 r.1) (156, fjl L, r.2)) : Wp (d + 11, 71, 168, 0, 0, [some (fA 42), some (fI l1), some (fI l2), o3, o4, o5], []) (156, fjl L, M) Q := by
  unfold s_X5_readLine_j168 at h
  refine Wp.run 1 (f' := (d + 11, 71, 169, 0, 0, [some (fA 42), some (fI l1), some (fI l2), _, _, _], [fI l2])) (h' := (156, fjl L, M)) rfl trivial ?_
  refine Wp.br rfl (fun (c : l2 = 0) => ?_) (fun (c : ¬ (l2 = 0)) => ?_)
  · replace h := fps c h
    exact s_X5_readLine_j177_ok h H
  · replace h := fng c h
    refine Wp.run 2 (f' := (d + 11, 71, 174, 0, 0, [some (fA 42), some (fI l1), _, _, _, _], [fI 1, fI l2])) (h' := (156, fjl L, M)) rfl trivial ?_
    refine Wp.br rfl (fun (c : ¬ l2 = 1) => ?_) (fun (c : ¬ (¬ l2 = 1)) => ?_)
    · replace h := fps c h
      refine Wp.run 1 (f' := (d + 11, 71, 182, 0, 0, [some (fA 42), some (fI l1), _, _, _, _], [fI 0])) (h' := (156, fjl L, M)) rfl trivial ?_
      exact s_X5_readLine_j182_ok h H
    · replace h := fng c h
      exact s_X5_readLine_j177_ok h H
theorem s_X5_readLine_j168_fr {M : fM} {l1 l2 : Int} {r : ((Unit ⊕ Unit) × fM)} (h : s_X5_readLine_j168 M l1 l2 = some r) : fSame s_X5_readLine_mods M r.2 := by
  unfold s_X5_readLine_j168 at h
  by_cases c : l2 = 0
  · replace h := fps c h
    exact fs_trans fs_refl (s_X5_readLine_j177_fr h)
  · replace h := fng c h
    by_cases c : ¬ l2 = 1
    · replace h := fps c h
      exact fs_trans fs_refl (s_X5_readLine_j182_fr h)
    · replace h := fng c h
      exact fs_trans fs_refl (s_X5_readLine_j177_fr h)
noncomputable def s_X5_readLine_j155 (M : fM) (l1 l2 t1 t2 : Int) : Option ((Unit ⊕ Unit) × fM) :=
  (s_X5_readWhen M t1 t2).bind fun y155 =>
    fel y155.1
      (fun w155 =>
        if ¬ l2 = 1 then
          s_X5_readLine_j168 y155.2 l1 l2
        else
          (s_X5_readNote y155.2 l1).bind fun y165 =>
            fel y165.1
              (fun w165 =>
                s_X5_readLine_j168 y165.2 l1 l2)
              (some (.inr (), y165.2)))
      (some (.inr (), y155.2))
theorem s_X5_readLine_j155_ok {d L : Nat} {M : fM} {l1 l2 t1 t2 : Int} {o3 o4 o5 : Option fV} {r : ((Unit ⊕ Unit) × fM)} {Q : fO → fH → Prop} (h : s_X5_readLine_j155 M l1 l2 t1 t2 = some r) (H : Q (oT oV 1 r.1) (156, fjl L, r.2)) : Wp (d + 11, 71, 155, 0, 0, [some (fA 42), some (fI l1), some (fI l2), o3, o4, o5], [fI t2, fI t1, fA 42]) (156, fjl L, M) Q := by
  unfold s_X5_readLine_j155 at h
  obtain ⟨y155, hy, h⟩ := fbd h
  refine Wp.call rfl (by decide) (s_X5_readWhen_ok (d := d + 0) hy ?_)
  obtain ⟨w155, ew, h⟩ | ⟨ew, h⟩ := fel_of h
  · rw [ew]
    show Wp (d + 11, 71, 158, 0, 0, [some (fA 42), some (fI l1), some (fI l2), _, _, _], []) (156, fjl L, y155.2) Q
    refine Wp.run 2 (f' := (d + 11, 71, 160, 0, 0, [some (fA 42), some (fI l1), some (fI l2), _, _, _], [fI 1, fI l2])) (h' := (156, fjl L, y155.2)) rfl trivial ?_
    refine Wp.br rfl (fun (c : ¬ l2 = 1) => ?_) (fun (c : ¬ (¬ l2 = 1)) => ?_)
    · replace h := fps c h
      exact s_X5_readLine_j168_ok h H
    · replace h := fng c h
      refine Wp.run 2 (f' := (d + 11, 71, 165, 0, 0, [some (fA 42), some (fI l1), some (fI l2), _, _, _], [fI l1, fA 42])) (h' := (156, fjl L, y155.2)) rfl trivial ?_
      obtain ⟨y165, hy, h⟩ := fbd h
      refine Wp.call rfl (by decide) (s_X5_readNote_ok (d := d + 0) hy ?_)
      obtain ⟨w165, ew, h⟩ | ⟨ew, h⟩ := fel_of h
      · rw [ew]
        show Wp (d + 11, 71, 168, 0, 0, [some (fA 42), some (fI l1), some (fI l2), _, _, _], []) (156, fjl L, y165.2) Q
        exact s_X5_readLine_j168_ok h H
      · rw [ew]
        obtain rfl := Option.some.inj h
        exact ⟨⟨rfl, rfl⟩, H⟩
  · rw [ew]
    obtain rfl := Option.some.inj h
    exact ⟨⟨rfl, rfl⟩, H⟩
theorem s_X5_readLine_j155_fr {M : fM} {l1 l2 t1 t2 : Int} {r : ((Unit ⊕ Unit) × fM)} (h : s_X5_readLine_j155 M l1 l2 t1 t2 = some r) : fSame s_X5_readLine_mods M r.2 := by
  unfold s_X5_readLine_j155 at h
  obtain ⟨y155, hy, h⟩ := fbd h
  have k155 := fs_trans (l := s_X5_readLine_mods) fs_refl (fs_mono (l := s_X5_readWhen_mods) (by decide) (s_X5_readWhen_fr hy))
  obtain ⟨w155, ew, h⟩ | ⟨ew, h⟩ := fel_of h
  · by_cases c : ¬ l2 = 1
    · replace h := fps c h
      exact fs_trans k155 (s_X5_readLine_j168_fr h)
    · replace h := fng c h
      obtain ⟨y165, hy, h⟩ := fbd h
      have k165 := fs_trans (l := s_X5_readLine_mods) k155 (fs_mono (l := s_X5_readNote_mods) (by decide) (s_X5_readNote_fr hy))
      obtain ⟨w165, ew, h⟩ | ⟨ew, h⟩ := fel_of h
      · exact fs_trans k165 (s_X5_readLine_j168_fr h)
      · obtain rfl := Option.some.inj h
        exact k165
  · obtain rfl := Option.some.inj h
    exact k155
noncomputable def s_X5_readLine_j143 (M : fM) (l1 l2 : Int) : Option ((Unit ⊕ Unit) × fM) :=
  if ¬ l2 = 5 then
    s_X5_readLine_j155 M l1 l2 l1 0
  else
    s_X5_readLine_j155 M l1 l2 l1 1
theorem s_X5_readLine_j143_ok {d L : Nat} {M : fM} {l1 l2 : Int} {o3 o4 o5 : Option fV} {r : ((Unit ⊕ Unit) × fM)} {Q : fO → fH → Prop} (h : s_X5_readLine_j143 M l1 l2 = some r) (H : Q (oT oV 1 r.1) (156, fjl L, r.2)) : Wp (d + 11, 71, 143, 0, 0, [some (fA 42), some (fI l1), some (fI l2), o3, o4, o5], []) (156, fjl L, M) Q := by
  unfold s_X5_readLine_j143 at h
  refine Wp.run 4 (f' := (d + 11, 71, 147, 0, 0, [some (fA 42), some (fI l1), some (fI l2), _, _, _], [fI 5, fI l2, fI l1, fA 42])) (h' := (156, fjl L, M)) rfl trivial ?_
  refine Wp.br rfl (fun (c : ¬ l2 = 5) => ?_) (fun (c : ¬ (¬ l2 = 5)) => ?_)
  · replace h := fps c h
    refine Wp.run 1 (f' := (d + 11, 71, 155, 0, 0, [some (fA 42), some (fI l1), some (fI l2), _, _, _], [fI 0, fI l1, fA 42])) (h' := (156, fjl L, M)) rfl trivial ?_
    exact s_X5_readLine_j155_ok h H
  · replace h := fng c h
    refine Wp.run 2 (f' := (d + 11, 71, 155, 0, 0, [some (fA 42), some (fI l1), some (fI l2), _, _, _], [fI 1, fI l1, fA 42])) (h' := (156, fjl L, M)) rfl trivial ?_
    exact s_X5_readLine_j155_ok h H
theorem s_X5_readLine_j143_fr {M : fM} {l1 l2 : Int} {r : ((Unit ⊕ Unit) × fM)} (h : s_X5_readLine_j143 M l1 l2 = some r) : fSame s_X5_readLine_mods M r.2 := by
  unfold s_X5_readLine_j143 at h
  by_cases c : ¬ l2 = 5
  · replace h := fps c h
    exact fs_trans fs_refl (s_X5_readLine_j155_fr h)
  · replace h := fng c h
    exact fs_trans fs_refl (s_X5_readLine_j155_fr h)
noncomputable def s_X5_readLine_j11 (M : fM) (l1 l2 t1 : Int) : Option ((Unit ⊕ Unit) × fM) :=
  (s_X5_takePiano M t1).bind fun y11 =>
    fel y11.1
      (fun w11 =>
        (s_X6_begin_18 y11.2 l1 l2 w11).bind fun y22 =>
          if ¬ l2 = 0 then
            if ¬ l2 = 2 then
              if ¬ l2 = 3 then
                if ¬ l2 = 6 then
                  s_X5_readLine_j143 y22.2 l1 l2
                else
                  (s_X10_takeNumber y22.2 0 99).bind fun y120 =>
                    fel y120.1
                      (fun w120 =>
                        if (0 ≤ l1 ∧ l1 < 200) then
                          (s_X10_takeNumber (fup y120.2 23 (l1).toNat w120) 0 99).bind fun y139 =>
                            fel y139.1
                              (fun w139 =>
                                if (0 ≤ l1 ∧ l1 < 200) then
                                  s_X5_readLine_j143 (fup y139.2 24 (l1).toNat w139) l1 l2
                                else none)
                              (some (.inr (), y139.2))
                        else none)
                      (some (.inr (), y120.2))
              else
                (s_X10_takeNumber y22.2 1 9999).bind fun y92 =>
                  fel y92.1
                    (fun w92 =>
                      if (0 ≤ l1 ∧ l1 < 200) then
                        s_X5_readLine_j143 (fup y92.2 23 (l1).toNat w92) l1 l2
                      else none)
                    (some (.inr (), y92.2))
            else
              (s_X10_takeNumber y22.2 0 3).bind fun y64 =>
                fel y64.1
                  (fun w64 =>
                    if (0 ≤ l1 ∧ l1 < 200) then
                      s_X5_readLine_j143 (fup y64.2 23 (l1).toNat w64) l1 l2
                    else none)
                  (some (.inr (), y64.2))
          else
            (s_X5_takeTuner y22.2).bind fun y38 =>
              fel y38.1
                (fun w38 =>
                  if (0 ≤ l1 ∧ l1 < 200) then
                    s_X5_readLine_j143 (fup y38.2 23 (l1).toNat w38) l1 l2
                  else none)
                (some (.inr (), y38.2)))
      (some (.inr (), y11.2))
theorem s_X5_readLine_j11_ok {d L : Nat} {M : fM} {l1 l2 t1 : Int} {o3 o4 o5 : Option fV} {r : ((Unit ⊕ Unit) × fM)} {Q : fO → fH → Prop} (h : s_X5_readLine_j11 M l1 l2 t1 = some r) (H : Q (oT oV 1 r.1) (156, fjl L, r.2)) : Wp (d + 11, 71, 11, 0, 0, [some (fA 42), some (fI l1), some (fI l2), o3, o4, o5], [fI t1, fA 42]) (156, fjl L, M) Q := by
  unfold s_X5_readLine_j11 at h
  obtain ⟨y11, hy, h⟩ := fbd h
  refine Wp.call rfl (by decide) (s_X5_takePiano_ok (d := d + 1) hy ?_)
  obtain ⟨w11, ew, h⟩ | ⟨ew, h⟩ := fel_of h
  · rw [ew]
    show Wp (d + 11, 71, 14, 0, 0, [some (fA 42), some (fI l1), some (fI l2), _, _, _], [fI w11]) (156, fjl L, y11.2) Q
    refine Wp.run 6 (f' := (d + 11, 71, 22, 0, 0, [some (fA 42), some (fI l1), some (fI l2), _, _, _], [fI w11, fI l2, fI l1, fA 18])) (h' := (156, fjl L, y11.2)) rfl trivial ?_
    obtain ⟨y22, hy, h⟩ := fbd h
    refine Wp.call rfl (by decide) (s_X6_begin_18_ok (d := d + 10) hy ?_)
    show Wp (d + 11, 71, 25, 0, 0, [some (fA 42), some (fI l1), some (fI l2), _, _, _], []) (156, fjl L, y22.2) Q
    refine Wp.run 1 (f' := (d + 11, 71, 26, 0, 0, [some (fA 42), some (fI l1), some (fI l2), _, _, _], [fI l2])) (h' := (156, fjl L, y22.2)) rfl trivial ?_
    refine Wp.br rfl (fun (c : ¬ l2 = 0) => ?_) (fun (c : ¬ (¬ l2 = 0)) => ?_)
    · replace h := fps c h
      refine Wp.run 2 (f' := (d + 11, 71, 47, 0, 0, [some (fA 42), some (fI l1), some (fI l2), _, _, _], [fI 2, fI l2])) (h' := (156, fjl L, y22.2)) rfl trivial ?_
      refine Wp.br rfl (fun (c : ¬ l2 = 2) => ?_) (fun (c : ¬ (¬ l2 = 2)) => ?_)
      · replace h := fps c h
        refine Wp.run 2 (f' := (d + 11, 71, 73, 0, 0, [some (fA 42), some (fI l1), some (fI l2), _, _, _], [fI 3, fI l2])) (h' := (156, fjl L, y22.2)) rfl trivial ?_
        refine Wp.br rfl (fun (c : ¬ l2 = 3) => ?_) (fun (c : ¬ (¬ l2 = 3)) => ?_)
        · replace h := fps c h
          refine Wp.run 2 (f' := (d + 11, 71, 102, 0, 0, [some (fA 42), some (fI l1), some (fI l2), _, _, _], [fI 6, fI l2])) (h' := (156, fjl L, y22.2)) rfl trivial ?_
          refine Wp.br rfl (fun (c : ¬ l2 = 6) => ?_) (fun (c : ¬ (¬ l2 = 6)) => ?_)
          · replace h := fps c h
            exact s_X5_readLine_j143_ok h H
          · replace h := fng c h
            refine Wp.run 8 (f' := (d + 11, 71, 120, 0, 0, [some (fA 42), some (fI l1), some (fI l2), _, _, _], [fI 99, fI 0, fA 1, fI l1, fA 23])) (h' := (156, fjl L, y22.2)) rfl trivial ?_
            obtain ⟨y120, hy, h⟩ := fbd h
            refine Wp.call rfl (by decide) (s_X10_takeNumber_ok (d := d + 1) hy ?_)
            obtain ⟨w120, ew, h⟩ | ⟨ew, h⟩ := fel_of h
            · rw [ew]
              show Wp (d + 11, 71, 123, 0, 0, [some (fA 42), some (fI l1), some (fI l2), _, _, _], [fI w120, fI l1, fA 23]) (156, fjl L, y120.2) Q
              obtain ⟨g0, h⟩ := fgd h
              refine Wp.run 9 (P := [0 ≤ l1 ∧ l1 < 200]) (f' := (d + 11, 71, 139, 0, 0, [some (fA 42), some (fI l1), some (fI l2), _, _, _], [fI 99, fI 0, fA 1, fI l1, fA 24])) (h' := (156, fjl L, (fup y120.2 23 (l1).toNat w120))) rfl ?_ ?_
              · exact g0
              obtain ⟨y139, hy, h⟩ := fbd h
              refine Wp.call rfl (by decide) (s_X10_takeNumber_ok (d := d + 1) hy ?_)
              obtain ⟨w139, ew, h⟩ | ⟨ew, h⟩ := fel_of h
              · rw [ew]
                show Wp (d + 11, 71, 142, 0, 0, [some (fA 42), some (fI l1), some (fI l2), _, _, _], [fI w139, fI l1, fA 24]) (156, fjl L, y139.2) Q
                obtain ⟨g0, h⟩ := fgd h
                refine Wp.run 1 (P := [0 ≤ l1 ∧ l1 < 200]) (f' := (d + 11, 71, 143, 0, 0, [some (fA 42), some (fI l1), some (fI l2), _, _, _], [])) (h' := (156, fjl L, (fup y139.2 24 (l1).toNat w139))) rfl ?_ ?_
                · exact g0
                exact s_X5_readLine_j143_ok h H
              · rw [ew]
                obtain rfl := Option.some.inj h
                exact ⟨⟨rfl, rfl⟩, H⟩
            · rw [ew]
              obtain rfl := Option.some.inj h
              exact ⟨⟨rfl, rfl⟩, H⟩
        · replace h := fng c h
          refine Wp.run 8 (f' := (d + 11, 71, 92, 0, 0, [some (fA 42), some (fI l1), some (fI l2), _, _, _], [fI 9999, fI 1, fA 1, fI l1, fA 23])) (h' := (156, fjl L, y22.2)) rfl trivial ?_
          obtain ⟨y92, hy, h⟩ := fbd h
          refine Wp.call rfl (by decide) (s_X10_takeNumber_ok (d := d + 1) hy ?_)
          obtain ⟨w92, ew, h⟩ | ⟨ew, h⟩ := fel_of h
          · rw [ew]
            show Wp (d + 11, 71, 95, 0, 0, [some (fA 42), some (fI l1), some (fI l2), _, _, _], [fI w92, fI l1, fA 23]) (156, fjl L, y92.2) Q
            obtain ⟨g0, h⟩ := fgd h
            refine Wp.run 2 (P := [0 ≤ l1 ∧ l1 < 200]) (f' := (d + 11, 71, 143, 0, 0, [some (fA 42), some (fI l1), some (fI l2), _, _, _], [])) (h' := (156, fjl L, (fup y92.2 23 (l1).toNat w92))) rfl ?_ ?_
            · exact g0
            exact s_X5_readLine_j143_ok h H
          · rw [ew]
            obtain rfl := Option.some.inj h
            exact ⟨⟨rfl, rfl⟩, H⟩
      · replace h := fng c h
        refine Wp.run 8 (f' := (d + 11, 71, 64, 0, 0, [some (fA 42), some (fI l1), some (fI l2), _, _, _], [fI 3, fI 0, fA 1, fI l1, fA 23])) (h' := (156, fjl L, y22.2)) rfl trivial ?_
        obtain ⟨y64, hy, h⟩ := fbd h
        refine Wp.call rfl (by decide) (s_X10_takeNumber_ok (d := d + 1) hy ?_)
        obtain ⟨w64, ew, h⟩ | ⟨ew, h⟩ := fel_of h
        · rw [ew]
          show Wp (d + 11, 71, 67, 0, 0, [some (fA 42), some (fI l1), some (fI l2), _, _, _], [fI w64, fI l1, fA 23]) (156, fjl L, y64.2) Q
          obtain ⟨g0, h⟩ := fgd h
          refine Wp.run 2 (P := [0 ≤ l1 ∧ l1 < 200]) (f' := (d + 11, 71, 143, 0, 0, [some (fA 42), some (fI l1), some (fI l2), _, _, _], [])) (h' := (156, fjl L, (fup y64.2 23 (l1).toNat w64))) rfl ?_ ?_
          · exact g0
          exact s_X5_readLine_j143_ok h H
        · rw [ew]
          obtain rfl := Option.some.inj h
          exact ⟨⟨rfl, rfl⟩, H⟩
    · replace h := fng c h
      refine Wp.run 5 (f' := (d + 11, 71, 38, 0, 0, [some (fA 42), some (fI l1), some (fI l2), _, _, _], [fA 42, fI l1, fA 23])) (h' := (156, fjl L, y22.2)) rfl trivial ?_
      obtain ⟨y38, hy, h⟩ := fbd h
      refine Wp.call rfl (by decide) (s_X5_takeTuner_ok (d := d + 1) hy ?_)
      obtain ⟨w38, ew, h⟩ | ⟨ew, h⟩ := fel_of h
      · rw [ew]
        show Wp (d + 11, 71, 41, 0, 0, [some (fA 42), some (fI l1), some (fI l2), _, _, _], [fI w38, fI l1, fA 23]) (156, fjl L, y38.2) Q
        obtain ⟨g0, h⟩ := fgd h
        refine Wp.run 2 (P := [0 ≤ l1 ∧ l1 < 200]) (f' := (d + 11, 71, 143, 0, 0, [some (fA 42), some (fI l1), some (fI l2), _, _, _], [])) (h' := (156, fjl L, (fup y38.2 23 (l1).toNat w38))) rfl ?_ ?_
        · exact g0
        exact s_X5_readLine_j143_ok h H
      · rw [ew]
        obtain rfl := Option.some.inj h
        exact ⟨⟨rfl, rfl⟩, H⟩
  · rw [ew]
    obtain rfl := Option.some.inj h
    exact ⟨⟨rfl, rfl⟩, H⟩
theorem s_X5_readLine_j11_fr {M : fM} {l1 l2 t1 : Int} {r : ((Unit ⊕ Unit) × fM)} (h : s_X5_readLine_j11 M l1 l2 t1 = some r) : fSame s_X5_readLine_mods M r.2 := by
  unfold s_X5_readLine_j11 at h
  obtain ⟨y11, hy, h⟩ := fbd h
  have k11 := fs_trans (l := s_X5_readLine_mods) fs_refl (fs_mono (l := s_X5_takePiano_mods) (by decide) (s_X5_takePiano_fr hy))
  obtain ⟨w11, ew, h⟩ | ⟨ew, h⟩ := fel_of h
  · obtain ⟨y22, hy, h⟩ := fbd h
    have k22 := fs_trans (l := s_X5_readLine_mods) k11 (fs_mono (l := s_X6_begin_18_mods) (by decide) (s_X6_begin_18_fr hy))
    by_cases c : ¬ l2 = 0
    · replace h := fps c h
      by_cases c : ¬ l2 = 2
      · replace h := fps c h
        by_cases c : ¬ l2 = 3
        · replace h := fps c h
          by_cases c : ¬ l2 = 6
          · replace h := fps c h
            exact fs_trans k22 (s_X5_readLine_j143_fr h)
          · replace h := fng c h
            obtain ⟨y120, hy, h⟩ := fbd h
            have k120 := fs_trans (l := s_X5_readLine_mods) k22 (fs_mono (l := s_X10_takeNumber_mods) (by decide) (s_X10_takeNumber_fr hy))
            obtain ⟨w120, ew, h⟩ | ⟨ew, h⟩ := fel_of h
            · replace h := (fgd h).2
              obtain ⟨y139, hy, h⟩ := fbd h
              have k139 := fs_trans (l := s_X5_readLine_mods) (fs_up k120 (.inl (by decide))) (fs_mono (l := s_X10_takeNumber_mods) (by decide) (s_X10_takeNumber_fr hy))
              obtain ⟨w139, ew, h⟩ | ⟨ew, h⟩ := fel_of h
              · replace h := (fgd h).2
                exact fs_trans (fs_up k139 (.inl (by decide))) (s_X5_readLine_j143_fr h)
              · obtain rfl := Option.some.inj h
                exact k139
            · obtain rfl := Option.some.inj h
              exact k120
        · replace h := fng c h
          obtain ⟨y92, hy, h⟩ := fbd h
          have k92 := fs_trans (l := s_X5_readLine_mods) k22 (fs_mono (l := s_X10_takeNumber_mods) (by decide) (s_X10_takeNumber_fr hy))
          obtain ⟨w92, ew, h⟩ | ⟨ew, h⟩ := fel_of h
          · replace h := (fgd h).2
            exact fs_trans (fs_up k92 (.inl (by decide))) (s_X5_readLine_j143_fr h)
          · obtain rfl := Option.some.inj h
            exact k92
      · replace h := fng c h
        obtain ⟨y64, hy, h⟩ := fbd h
        have k64 := fs_trans (l := s_X5_readLine_mods) k22 (fs_mono (l := s_X10_takeNumber_mods) (by decide) (s_X10_takeNumber_fr hy))
        obtain ⟨w64, ew, h⟩ | ⟨ew, h⟩ := fel_of h
        · replace h := (fgd h).2
          exact fs_trans (fs_up k64 (.inl (by decide))) (s_X5_readLine_j143_fr h)
        · obtain rfl := Option.some.inj h
          exact k64
    · replace h := fng c h
      obtain ⟨y38, hy, h⟩ := fbd h
      have k38 := fs_trans (l := s_X5_readLine_mods) k22 (fs_mono (l := s_X5_takeTuner_mods) (by decide) (s_X5_takeTuner_fr hy))
      obtain ⟨w38, ew, h⟩ | ⟨ew, h⟩ := fel_of h
      · replace h := (fgd h).2
        exact fs_trans (fs_up k38 (.inl (by decide))) (s_X5_readLine_j143_fr h)
      · obtain rfl := Option.some.inj h
        exact k38
  · obtain rfl := Option.some.inj h
    exact k11
noncomputable def s_X5_readLine (M : fM) (l1 l2 : Int) : Option ((Unit ⊕ Unit) × fM) :=
  if ¬ l2 = 5 then
    s_X5_readLine_j11 M l1 l2 0
  else
    s_X5_readLine_j11 M l1 l2 1
theorem s_X5_readLine_ok {d L : Nat} {M : fM} {l1 l2 : Int} {r : ((Unit ⊕ Unit) × fM)} {Q : fO → fH → Prop} (h : s_X5_readLine M l1 l2 = some r) (H : Q (oT oV 1 r.1) (156, fjl L, r.2)) : Wp (d + 11, 71, 0, 0, 0, [some (fA 42), some (fI l1), some (fI l2), none, none, none], []) (156, fjl L, M) Q := by
  unfold s_X5_readLine at h
  refine Wp.run 3 (f' := (d + 11, 71, 3, 0, 0, [some (fA 42), some (fI l1), some (fI l2), _, _, _], [fI 5, fI l2, fA 42])) (h' := (156, fjl L, M)) rfl trivial ?_
  refine Wp.br rfl (fun (c : ¬ l2 = 5) => ?_) (fun (c : ¬ (¬ l2 = 5)) => ?_)
  · replace h := fps c h
    refine Wp.run 1 (f' := (d + 11, 71, 11, 0, 0, [some (fA 42), some (fI l1), some (fI l2), _, _, _], [fI 0, fA 42])) (h' := (156, fjl L, M)) rfl trivial ?_
    exact s_X5_readLine_j11_ok h H
  · replace h := fng c h
    refine Wp.run 2 (f' := (d + 11, 71, 11, 0, 0, [some (fA 42), some (fI l1), some (fI l2), _, _, _], [fI 1, fA 42])) (h' := (156, fjl L, M)) rfl trivial ?_
    exact s_X5_readLine_j11_ok h H
theorem s_X5_readLine_fr {M : fM} {l1 l2 : Int} {r : ((Unit ⊕ Unit) × fM)} (h : s_X5_readLine M l1 l2 = some r) : fSame s_X5_readLine_mods M r.2 := by
  unfold s_X5_readLine at h
  by_cases c : ¬ l2 = 5
  · replace h := fps c h
    exact fs_trans fs_refl (s_X5_readLine_j11_fr h)
  · replace h := fng c h
    exact fs_trans fs_refl (s_X5_readLine_j11_fr h)
abbrev s_X5_readAll_mods : List (Nat × Option Nat) := [(1, some 3), (1, some 4), (1, some 5), (1, some 6), (1, some 7), (1, some 8), (1, some 9), (1, some 10), (19, none), (20, none), (21, none), (22, none), (23, none), (24, none), (25, none), (26, none)]
noncomputable def s_X5_readAll_j89 (M : fM) (l1 l2 l3 : Int) : Option ((Int × Int × fM) ⊕ ((Int × fM) ⊕ ((Int ⊕ Unit) × fM))) :=
  if fin (l3 - 21) then
    (s_X5_readLine M l1 (l3 - 21)).bind fun y95 =>
      fel y95.1
        (fun w95 =>
          if (y95.2 1 6) = 4 then
            if fin (l1 + 1) ∧ fin (l2 + 1) then
              some (.inl ((l1 + 1), (l2 + 1), y95.2))
            else none
          else
            (s_X10_fail y95.2 1).bind fun y114 =>
              fel y114.1
                (fun w114 =>
                  if fin (l1 + 1) ∧ fin (l2 + 1) then
                    some (.inl ((l1 + 1), (l2 + 1), y114.2))
                  else none)
                (some (.inr (.inr (.inr (), y114.2)))))
        (some (.inr (.inr (.inr (), y95.2))))
  else none
theorem s_X5_readAll_j89_ok {d L : Nat} {M : fM} {l1 l2 l3 : Int} {r : ((Int × Int × fM) ⊕ ((Int × fM) ⊕ ((Int ⊕ Unit) × fM)))} {Q : fO → fH → Prop} (h : s_X5_readAll_j89 M l1 l2 l3 = some r) (hC : ∀ (l1' l2' : Int) (M' : fM) (o3' : Option fV), r = .inl (l1', l2', M') → Wp (d + 12, 70, 20, 0, 0, [some (fA 42), some (fI l1'), some (fI l2'), o3'], []) (156, fjl L, M') Q) (hE : ∀ (e : (Int × fM)) (o0' o2' o3' : Option fV), r = .inr (.inl e) → Wp (d + 12, 70, 126, 0, 0, [o0', some (fI e.1), o2', o3'], []) (156, fjl L, e.2) Q) (hR : ∀ (v : ((Int ⊕ Unit) × fM)), r = .inr (.inr v) → Q (oT oI 1 v.1) (156, fjl L, v.2)) : Wp (d + 12, 70, 89, 0, 0, [some (fA 42), some (fI l1), some (fI l2), some (fI l3)], []) (156, fjl L, M) Q := by
  unfold s_X5_readAll_j89 at h
  obtain ⟨g0, h⟩ := fgd h
  refine Wp.run 5 (f' := (d + 12, 70, 95, 0, 0, [some (fA 42), some (fI l1), some (fI l2), _], [fI (fw (l3 - 21)), fI l1, fA 42])) (h' := (156, fjl L, M)) rfl trivial ?_
  rw [fw_id g0]
  obtain ⟨y95, hy, h⟩ := fbd h
  refine Wp.call rfl (by decide) (s_X5_readLine_ok (d := d + 0) hy ?_)
  obtain ⟨w95, ew, h⟩ | ⟨ew, h⟩ := fel_of h
  · rw [ew]
    show Wp (d + 12, 70, 98, 0, 0, [some (fA 42), some (fI l1), some (fI l2), _], []) (156, fjl L, y95.2) Q
    refine Wp.run 4 (f' := (d + 12, 70, 106, 0, 0, [some (fA 42), some (fI l1), some (fI l2), _], [fI 4, fI (y95.2 1 6)])) (h' := (156, fjl L, y95.2)) rfl trivial ?_
    refine Wp.br rfl (fun (c : (y95.2 1 6) = 4) => ?_) (fun (c : ¬ ((y95.2 1 6) = 4)) => ?_)
    · replace h := fps c h
      obtain ⟨⟨g0, g1⟩, h⟩ := fgd h
      refine Wp.run 3 (f' := (d + 12, 70, 20, 0, 0, [some (fA 42), some (fI (fw (l1 + 1))), some (fI (fw (l2 + 1))), _], [])) (h' := (156, fjl L, y95.2)) rfl trivial ?_
      rw [fw_id g0, fw_id g1]
      exact hC _ _ _ _ (Option.some.inj h).symm
    · replace h := fng c h
      refine Wp.run 3 (f' := (d + 12, 70, 114, 0, 0, [some (fA 42), some (fI l1), some (fI l2), _], [fI 1, fA 1])) (h' := (156, fjl L, y95.2)) rfl trivial ?_
      obtain ⟨y114, hy, h⟩ := fbd h
      refine Wp.call rfl (by decide) (s_X10_fail_ok (d := d + 4) hy ?_)
      obtain ⟨w114, ew, h⟩ | ⟨ew, h⟩ := fel_of h
      · rw [ew]
        show Wp (d + 12, 70, 117, 0, 0, [some (fA 42), some (fI l1), some (fI l2), _], []) (156, fjl L, y114.2) Q
        obtain ⟨⟨g0, g1⟩, h⟩ := fgd h
        refine Wp.run 3 (f' := (d + 12, 70, 20, 0, 0, [some (fA 42), some (fI (fw (l1 + 1))), some (fI (fw (l2 + 1))), _], [])) (h' := (156, fjl L, y114.2)) rfl trivial ?_
        rw [fw_id g0, fw_id g1]
        exact hC _ _ _ _ (Option.some.inj h).symm
      · rw [ew]
        exact ⟨⟨rfl, rfl⟩, hR _ (Option.some.inj h).symm⟩
  · rw [ew]
    exact ⟨⟨rfl, rfl⟩, hR _ (Option.some.inj h).symm⟩
theorem s_X5_readAll_j89_fr {M : fM} {l1 l2 l3 : Int} {r : ((Int × Int × fM) ⊕ ((Int × fM) ⊕ ((Int ⊕ Unit) × fM)))} (h : s_X5_readAll_j89 M l1 l2 l3 = some r) : fSame s_X5_readAll_mods M (Sum.elim (fun s => s.2.2) (Sum.elim (fun e => e.2) (fun v => v.2)) r) := by
  unfold s_X5_readAll_j89 at h
  replace h := (fgd h).2
  obtain ⟨y95, hy, h⟩ := fbd h
  have k95 := fs_trans (l := s_X5_readAll_mods) fs_refl (fs_mono (l := s_X5_readLine_mods) (by decide) (s_X5_readLine_fr hy))
  obtain ⟨w95, ew, h⟩ | ⟨ew, h⟩ := fel_of h
  · by_cases c : (y95.2 1 6) = 4
    · replace h := fps c h
      replace h := (fgd h).2
      obtain rfl := Option.some.inj h
      exact k95
    · replace h := fng c h
      obtain ⟨y114, hy, h⟩ := fbd h
      have k114 := fs_trans (l := s_X5_readAll_mods) k95 (fs_mono (l := s_X10_fail_mods) (by decide) (s_X10_fail_fr hy))
      obtain ⟨w114, ew, h⟩ | ⟨ew, h⟩ := fel_of h
      · replace h := (fgd h).2
        obtain rfl := Option.some.inj h
        exact k114
      · obtain rfl := Option.some.inj h
        exact k114
  · obtain rfl := Option.some.inj h
    exact k95
noncomputable def s_X5_readAll_j74 (M : fM) (l1 l2 l3 : Int) : Option ((Int × Int × fM) ⊕ ((Int × fM) ⊕ ((Int ⊕ Unit) × fM))) :=
  if l1 < 200 then
    s_X5_readAll_j89 M l1 l2 l3
  else
    (s_X10_fail M 4).bind fun y86 =>
      fel y86.1
        (fun w86 =>
          s_X5_readAll_j89 y86.2 l1 l2 l3)
        (some (.inr (.inr (.inr (), y86.2))))
theorem s_X5_readAll_j74_ok {d L : Nat} {M : fM} {l1 l2 l3 : Int} {r : ((Int × Int × fM) ⊕ ((Int × fM) ⊕ ((Int ⊕ Unit) × fM)))} {Q : fO → fH → Prop} (h : s_X5_readAll_j74 M l1 l2 l3 = some r) (hC : ∀ (l1' l2' : Int) (M' : fM) (o3' : Option fV), r = .inl (l1', l2', M') → Wp (d + 12, 70, 20, 0, 0, [some (fA 42), some (fI l1'), some (fI l2'), o3'], []) (156, fjl L, M') Q) (hE : ∀ (e : (Int × fM)) (o0' o2' o3' : Option fV), r = .inr (.inl e) → Wp (d + 12, 70, 126, 0, 0, [o0', some (fI e.1), o2', o3'], []) (156, fjl L, e.2) Q) (hR : ∀ (v : ((Int ⊕ Unit) × fM)), r = .inr (.inr v) → Q (oT oI 1 v.1) (156, fjl L, v.2)) : Wp (d + 12, 70, 74, 0, 0, [some (fA 42), some (fI l1), some (fI l2), some (fI l3)], []) (156, fjl L, M) Q := by
  unfold s_X5_readAll_j74 at h
  refine Wp.run 2 (f' := (d + 12, 70, 78, 0, 0, [some (fA 42), some (fI l1), some (fI l2), some (fI l3)], [fI 200, fI l1])) (h' := (156, fjl L, M)) rfl trivial ?_
  refine Wp.br rfl (fun (c : l1 < 200) => ?_) (fun (c : ¬ (l1 < 200)) => ?_)
  · replace h := fps c h
    exact s_X5_readAll_j89_ok h hC hE hR
  · replace h := fng c h
    refine Wp.run 3 (f' := (d + 12, 70, 86, 0, 0, [some (fA 42), some (fI l1), some (fI l2), some (fI l3)], [fI 4, fA 1])) (h' := (156, fjl L, M)) rfl trivial ?_
    obtain ⟨y86, hy, h⟩ := fbd h
    refine Wp.call rfl (by decide) (s_X10_fail_ok (d := d + 4) hy ?_)
    obtain ⟨w86, ew, h⟩ | ⟨ew, h⟩ := fel_of h
    · rw [ew]
      show Wp (d + 12, 70, 89, 0, 0, [some (fA 42), some (fI l1), some (fI l2), some (fI l3)], []) (156, fjl L, y86.2) Q
      exact s_X5_readAll_j89_ok h hC hE hR
    · rw [ew]
      exact ⟨⟨rfl, rfl⟩, hR _ (Option.some.inj h).symm⟩
theorem s_X5_readAll_j74_fr {M : fM} {l1 l2 l3 : Int} {r : ((Int × Int × fM) ⊕ ((Int × fM) ⊕ ((Int ⊕ Unit) × fM)))} (h : s_X5_readAll_j74 M l1 l2 l3 = some r) : fSame s_X5_readAll_mods M (Sum.elim (fun s => s.2.2) (Sum.elim (fun e => e.2) (fun v => v.2)) r) := by
  unfold s_X5_readAll_j74 at h
  by_cases c : l1 < 200
  · replace h := fps c h
    exact fs_trans fs_refl (s_X5_readAll_j89_fr h)
  · replace h := fng c h
    obtain ⟨y86, hy, h⟩ := fbd h
    have k86 := fs_trans (l := s_X5_readAll_mods) fs_refl (fs_mono (l := s_X10_fail_mods) (by decide) (s_X10_fail_fr hy))
    obtain ⟨w86, ew, h⟩ | ⟨ew, h⟩ := fel_of h
    · exact fs_trans k86 (s_X5_readAll_j89_fr h)
    · obtain rfl := Option.some.inj h
      exact k86
noncomputable def s_X5_readAll_j66 (M : fM) (l1 l2 l3 : Int) : Option ((Int × Int × fM) ⊕ ((Int × fM) ⊕ ((Int ⊕ Unit) × fM))) :=
  (s_X10_fail M 1).bind fun y71 =>
    fel y71.1
      (fun w71 =>
        s_X5_readAll_j74 y71.2 l1 l2 l3)
      (some (.inr (.inr (.inr (), y71.2))))
theorem s_X5_readAll_j66_ok {d L : Nat} {M : fM} {l1 l2 l3 : Int} {r : ((Int × Int × fM) ⊕ ((Int × fM) ⊕ ((Int ⊕ Unit) × fM)))} {Q : fO → fH → Prop} (h : s_X5_readAll_j66 M l1 l2 l3 = some r) (hC : ∀ (l1' l2' : Int) (M' : fM) (o3' : Option fV), r = .inl (l1', l2', M') → Wp (d + 12, 70, 20, 0, 0, [some (fA 42), some (fI l1'), some (fI l2'), o3'], []) (156, fjl L, M') Q) (hE : ∀ (e : (Int × fM)) (o0' o2' o3' : Option fV), r = .inr (.inl e) → Wp (d + 12, 70, 126, 0, 0, [o0', some (fI e.1), o2', o3'], []) (156, fjl L, e.2) Q) (hR : ∀ (v : ((Int ⊕ Unit) × fM)), r = .inr (.inr v) → Q (oT oI 1 v.1) (156, fjl L, v.2)) : Wp (d + 12, 70, 66, 0, 0, [some (fA 42), some (fI l1), some (fI l2), some (fI l3)], []) (156, fjl L, M) Q := by
  unfold s_X5_readAll_j66 at h
  refine Wp.run 3 (f' := (d + 12, 70, 71, 0, 0, [some (fA 42), some (fI l1), some (fI l2), some (fI l3)], [fI 1, fA 1])) (h' := (156, fjl L, M)) rfl trivial ?_
  obtain ⟨y71, hy, h⟩ := fbd h
  refine Wp.call rfl (by decide) (s_X10_fail_ok (d := d + 4) hy ?_)
  obtain ⟨w71, ew, h⟩ | ⟨ew, h⟩ := fel_of h
  · rw [ew]
    show Wp (d + 12, 70, 74, 0, 0, [some (fA 42), some (fI l1), some (fI l2), some (fI l3)], []) (156, fjl L, y71.2) Q
    exact s_X5_readAll_j74_ok h hC hE hR
  · rw [ew]
    exact ⟨⟨rfl, rfl⟩, hR _ (Option.some.inj h).symm⟩
theorem s_X5_readAll_j66_fr {M : fM} {l1 l2 l3 : Int} {r : ((Int × Int × fM) ⊕ ((Int × fM) ⊕ ((Int ⊕ Unit) × fM)))} (h : s_X5_readAll_j66 M l1 l2 l3 = some r) : fSame s_X5_readAll_mods M (Sum.elim (fun s => s.2.2) (Sum.elim (fun e => e.2) (fun v => v.2)) r) := by
  unfold s_X5_readAll_j66 at h
  obtain ⟨y71, hy, h⟩ := fbd h
  have k71 := fs_trans (l := s_X5_readAll_mods) fs_refl (fs_mono (l := s_X10_fail_mods) (by decide) (s_X10_fail_fr hy))
  obtain ⟨w71, ew, h⟩ | ⟨ew, h⟩ := fel_of h
  · exact fs_trans k71 (s_X5_readAll_j74_fr h)
  · obtain rfl := Option.some.inj h
    exact k71
noncomputable def s_X5_readAll_b20 (M : fM) (l1 l2 : Int) : Option ((Int × Int × fM) ⊕ ((Int × fM) ⊕ ((Int ⊕ Unit) × fM))) :=
  if 700 ≤ l2 then
    some (.inr (.inl (l1, M)))
  else
    (s_X10_take M).bind fun y31 =>
      if ¬ (y31.2 1 6) = 0 then
        (s_X10_keywordHere y31.2).bind fun y50 =>
          if y50 < 21 then
            s_X5_readAll_j66 y31.2 l1 l2 y50
          else
            if y50 ≤ 27 then
              s_X5_readAll_j74 y31.2 l1 l2 y50
            else
              s_X5_readAll_j66 y31.2 l1 l2 y50
      else
        some (.inr (.inr (.inl l1, y31.2)))
theorem s_X5_readAll_b20_ok {d L : Nat} {M : fM} {l1 l2 : Int} {o3 : Option fV} {r : ((Int × Int × fM) ⊕ ((Int × fM) ⊕ ((Int ⊕ Unit) × fM)))} {Q : fO → fH → Prop} (h : s_X5_readAll_b20 M l1 l2 = some r) (hC : ∀ (l1' l2' : Int) (M' : fM) (o3' : Option fV), r = .inl (l1', l2', M') → Wp (d + 12, 70, 20, 0, 0, [some (fA 42), some (fI l1'), some (fI l2'), o3'], []) (156, fjl L, M') Q) (hE : ∀ (e : (Int × fM)) (o0' o2' o3' : Option fV), r = .inr (.inl e) → Wp (d + 12, 70, 126, 0, 0, [o0', some (fI e.1), o2', o3'], []) (156, fjl L, e.2) Q) (hR : ∀ (v : ((Int ⊕ Unit) × fM)), r = .inr (.inr v) → Q (oT oI 1 v.1) (156, fjl L, v.2)) : Wp (d + 12, 70, 20, 0, 0, [some (fA 42), some (fI l1), some (fI l2), o3], []) (156, fjl L, M) Q := by
  unfold s_X5_readAll_b20 at h
  refine Wp.run 2 (f' := (d + 12, 70, 24, 0, 0, [some (fA 42), some (fI l1), some (fI l2), _], [fI 700, fI l2])) (h' := (156, fjl L, M)) rfl trivial ?_
  refine Wp.br rfl (fun (c : 700 ≤ l2) => ?_) (fun (c : ¬ (700 ≤ l2)) => ?_)
  · replace h := fps c h
    exact hE _ _ _ _ (Option.some.inj h).symm
  · replace h := fng c h
    refine Wp.run 2 (f' := (d + 12, 70, 31, 0, 0, [some (fA 42), some (fI l1), some (fI l2), _], [fA 1])) (h' := (156, fjl L, M)) rfl trivial ?_
    obtain ⟨y31, hy, h⟩ := fbd h
    refine Wp.call rfl (by decide) (s_X10_take_ok (d := d + 9) hy ?_)
    show Wp (d + 12, 70, 34, 0, 0, [some (fA 42), some (fI l1), some (fI l2), _], []) (156, fjl L, y31.2) Q
    refine Wp.run 3 (f' := (d + 12, 70, 41, 0, 0, [some (fA 42), some (fI l1), some (fI l2), _], [fI (y31.2 1 6)])) (h' := (156, fjl L, y31.2)) rfl trivial ?_
    refine Wp.br rfl (fun (c : ¬ (y31.2 1 6) = 0) => ?_) (fun (c : ¬ (¬ (y31.2 1 6) = 0)) => ?_)
    · replace h := fps c h
      refine Wp.run 2 (f' := (d + 12, 70, 50, 0, 0, [some (fA 42), some (fI l1), some (fI l2), _], [fA 1])) (h' := (156, fjl L, y31.2)) rfl trivial ?_
      obtain ⟨y50, hy, h⟩ := fbd h
      refine Wp.call rfl (by decide) (s_X10_keywordHere_ok (d := d + 11) hy ?_)
      show Wp (d + 12, 70, 53, 0, 0, [some (fA 42), some (fI l1), some (fI l2), _], [fI y50]) (156, fjl L, y31.2) Q
      refine Wp.run 3 (f' := (d + 12, 70, 57, 0, 0, [some (fA 42), some (fI l1), some (fI l2), some (fI y50)], [fI 21, fI y50])) (h' := (156, fjl L, y31.2)) rfl trivial ?_
      refine Wp.br rfl (fun (c : y50 < 21) => ?_) (fun (c : ¬ (y50 < 21)) => ?_)
      · replace h := fps c h
        exact s_X5_readAll_j66_ok h hC hE hR
      · replace h := fng c h
        refine Wp.run 2 (f' := (d + 12, 70, 63, 0, 0, [some (fA 42), some (fI l1), some (fI l2), some (fI y50)], [fI 27, fI y50])) (h' := (156, fjl L, y31.2)) rfl trivial ?_
        refine Wp.br rfl (fun (c : y50 ≤ 27) => ?_) (fun (c : ¬ (y50 ≤ 27)) => ?_)
        · replace h := fps c h
          exact s_X5_readAll_j74_ok h hC hE hR
        · replace h := fng c h
          exact s_X5_readAll_j66_ok h hC hE hR
    · replace h := fng c h
      refine Wp.run 1 (f' := (d + 12, 70, 45, 0, 0, [_, _, _, _], [fI l1])) (h' := (156, fjl L, y31.2)) rfl trivial ?_
      exact Wp.done rfl (by decide) (hR _ (Option.some.inj h).symm)
theorem s_X5_readAll_b20_fr {M : fM} {l1 l2 : Int} {r : ((Int × Int × fM) ⊕ ((Int × fM) ⊕ ((Int ⊕ Unit) × fM)))} (h : s_X5_readAll_b20 M l1 l2 = some r) : fSame s_X5_readAll_mods M (Sum.elim (fun s => s.2.2) (Sum.elim (fun e => e.2) (fun v => v.2)) r) := by
  unfold s_X5_readAll_b20 at h
  by_cases c : 700 ≤ l2
  · replace h := fps c h
    obtain rfl := Option.some.inj h
    exact fs_refl
  · replace h := fng c h
    obtain ⟨y31, hy, h⟩ := fbd h
    have k31 := fs_trans (l := s_X5_readAll_mods) fs_refl (fs_mono (l := s_X10_take_mods) (by decide) (s_X10_take_fr hy))
    by_cases c : ¬ (y31.2 1 6) = 0
    · replace h := fps c h
      obtain ⟨y50, hy, h⟩ := fbd h
      by_cases c : y50 < 21
      · replace h := fps c h
        exact fs_trans k31 (s_X5_readAll_j66_fr h)
      · replace h := fng c h
        by_cases c : y50 ≤ 27
        · replace h := fps c h
          exact fs_trans k31 (s_X5_readAll_j74_fr h)
        · replace h := fng c h
          exact fs_trans k31 (s_X5_readAll_j66_fr h)
    · replace h := fng c h
      obtain rfl := Option.some.inj h
      exact k31
noncomputable def s_X5_readAll_l20 (s : (Int × Int × fM)) : Option ((Int × fM) ⊕ ((Int ⊕ Unit) × fM)) := fLp (fun s => s_X5_readAll_b20 s.2.2 s.1 s.2.1) s
theorem s_X5_readAll_l20_ok {d L : Nat} {M : fM} {l1 l2 : Int} {o3 : Option fV} {r : ((Int × fM) ⊕ ((Int ⊕ Unit) × fM))} {Q : fO → fH → Prop} (h : s_X5_readAll_l20 (l1, l2, M) = some r) (hE : ∀ (e : (Int × fM)) (o0' o2' o3' : Option fV), r = .inl e → Wp (d + 12, 70, 126, 0, 0, [o0', some (fI e.1), o2', o3'], []) (156, fjl L, e.2) Q) (hR : ∀ (v : ((Int ⊕ Unit) × fM)), r = .inr v → Q (oT oI 1 v.1) (156, fjl L, v.2)) : Wp (d + 12, 70, 20, 0, 0, [some (fA 42), some (fI l1), some (fI l2), o3], []) (156, fjl L, M) Q := by
  refine fLp_wp (W := fun s => ∀ (o3 : Option fV), Wp (d + 12, 70, 20, 0, 0, [some (fA 42), some (fI s.1), some (fI s.2.1), o3], []) (156, fjl L, s.2.2) Q) (e := r) ?_ h _
  intro s r1 h hC hX o3
  refine s_X5_readAll_b20_ok (d := d) h (fun a0 a1 a2 _ e1 => ?_) (fun e u0 u1 u2 e1 => hE e u0 u1 u2 (hX _ e1).symm) (fun v e1 => hR v (hX _ e1).symm)
  exact hC _ e1 _
theorem s_X5_readAll_l20_fr {M : fM} {l1 l2 : Int} {r : ((Int × fM) ⊕ ((Int ⊕ Unit) × fM))} (h : s_X5_readAll_l20 (l1, l2, M) = some r) : fSame s_X5_readAll_mods M ((Sum.elim (fun e => e.2) (fun v => v.2)) r) := by
  refine fLp_inv (I := fun s => fSame s_X5_readAll_mods M s.2.2) (J := fun r => fSame s_X5_readAll_mods M ((Sum.elim (fun e => e.2) (fun v => v.2)) r)) h fs_refl (fun s s1 hs hb => ?_) (fun s e hs hb => ?_)
  · exact fs_trans hs (s_X5_readAll_b20_fr hb)
  · exact fs_trans hs (s_X5_readAll_b20_fr hb)
noncomputable def s_X5_readAll (M : fM) : Option ((Int ⊕ Unit) × fM) :=
  (s_X10_begin M 700).bind fun y7 =>
    (s_X5_readAll_l20 ((y7.2 18 8), 0, y7.2)).bind fun e20 =>
      Sum.elim (fun x20 =>
        some (.inl x20.1, x20.2))
        (fun v20 => some v20) e20
theorem s_X5_readAll_ok {d L : Nat} {M : fM} {r : ((Int ⊕ Unit) × fM)} {Q : fO → fH → Prop} (h : s_X5_readAll M = some r) (H : Q (oT oI 1 r.1) (156, fjl L, r.2)) : Wp (d + 12, 70, 0, 0, 0, [some (fA 42), none, none, none], []) (156, fjl L, M) Q := by
  unfold s_X5_readAll at h
  refine Wp.run 3 (f' := (d + 12, 70, 7, 0, 0, [some (fA 42), _, _, _], [fI 700, fA 1])) (h' := (156, fjl L, M)) rfl trivial ?_
  obtain ⟨y7, hy, h⟩ := fbd h
  refine Wp.call rfl (by decide) (s_X10_begin_ok (d := d + 11) hy ?_)
  show Wp (d + 12, 70, 10, 0, 0, [some (fA 42), _, _, _], []) (156, fjl L, y7.2) Q
  refine Wp.run 6 (f' := (d + 12, 70, 20, 0, 0, [some (fA 42), some (fI (y7.2 18 8)), some (fI 0), _], [])) (h' := (156, fjl L, y7.2)) rfl trivial ?_
  obtain ⟨e20, hy, h⟩ := fbd h
  refine s_X5_readAll_l20_ok hy (fun x20 u0 u2 u3 ex => ?_) (fun v20 ex => ?_)
  · subst ex
    replace h := fsl h
    show Wp (d + 12, 70, 126, 0, 0, [u0, some (fI x20.1), u2, u3], []) (156, fjl L, x20.2) Q
    refine Wp.run 1 (f' := (d + 12, 70, 127, 0, 0, [_, _, _, _], [fI x20.1])) (h' := (156, fjl L, x20.2)) rfl trivial ?_
    obtain rfl := Option.some.inj h
    exact Wp.done rfl (by decide) H
  · subst ex
    replace h := fsr h
    obtain rfl := Option.some.inj h
    exact H
theorem s_X5_readAll_fr {M : fM} {r : ((Int ⊕ Unit) × fM)} (h : s_X5_readAll M = some r) : fSame s_X5_readAll_mods M r.2 := by
  unfold s_X5_readAll at h
  obtain ⟨y7, hy, h⟩ := fbd h
  have k7 := fs_trans (l := s_X5_readAll_mods) fs_refl (fs_mono (l := s_X10_begin_mods) (by decide) (s_X10_begin_fr hy))
  obtain ⟨e20, hy, h⟩ := fbd h
  have k20 := fs_trans (l := s_X5_readAll_mods) k7 (s_X5_readAll_l20_fr hy)
  rcases e20 with x20 | v20
  · replace h := fsl h
    obtain rfl := Option.some.inj h
    exact k20
  · replace h := fsr h
    obtain rfl := Option.some.inj h
    exact k20
abbrev s_X11_records_mods : List (Nat × Option Nat) := [(0, some 14), (1, some 2), (1, some 3), (1, some 4), (1, some 5), (1, some 6), (1, some 7), (1, some 8), (1, some 9), (1, some 10), (18, some 8), (19, none), (20, none), (21, none), (22, none), (23, none), (24, none), (25, none), (26, none)]
noncomputable def s_X11_records_j18 (M : fM) : Option (Int × fM) :=
  (s_X10_empty M).bind fun y22 =>
    if ¬ (y22.2 1 9) = 0 then
      if fin ((-1) - (y22.2 1 10)) then
        some (((-1) - (y22.2 1 10)), (fup y22.2 0 14 (y22.2 1 9)))
      else none
    else
      some ((y22.2 18 8), (fup y22.2 0 14 (y22.2 1 9)))
theorem s_X11_records_j18_ok {d L : Nat} {M : fM} {o1 : Option fV} {r : (Int × fM)} {Q : fO → fH → Prop} (h : s_X11_records_j18 M = some r) (H : Q (oI r.1) (156, fjl L, r.2)) : Wp (d + 13, 154, 18, 0, 0, [some (fA 0), o1], []) (156, fjl L, M) Q := by
  unfold s_X11_records_j18 at h
  refine Wp.run 2 (f' := (d + 13, 154, 22, 0, 0, [some (fA 0), _], [fA 1])) (h' := (156, fjl L, M)) rfl trivial ?_
  obtain ⟨y22, hy, h⟩ := fbd h
  refine Wp.call rfl (by decide) (s_X10_empty_ok (d := d + 12) hy ?_)
  show Wp (d + 13, 154, 25, 0, 0, [some (fA 0), _], []) (156, fjl L, y22.2) Q
  refine Wp.run 7 (f' := (d + 13, 154, 40, 0, 0, [some (fA 0), _], [fI (y22.2 1 9)])) (h' := (156, fjl L, (fup y22.2 0 14 (y22.2 1 9)))) rfl trivial ?_
  refine Wp.br rfl (fun (c : ¬ (y22.2 1 9) = 0) => ?_) (fun (c : ¬ (¬ (y22.2 1 9) = 0)) => ?_)
  · replace h := fps c h
    obtain ⟨g0, h⟩ := fgd h
    refine Wp.run 5 (f' := (d + 13, 154, 62, 0, 0, [_, _], [fI (fw ((-1) - (y22.2 1 10)))])) (h' := (156, fjl L, (fup y22.2 0 14 (y22.2 1 9)))) rfl trivial ?_
    rw [fw_id g0]
    obtain rfl := Option.some.inj h
    exact Wp.done rfl (by decide) H
  · replace h := fng c h
    refine Wp.run 4 (f' := (d + 13, 154, 62, 0, 0, [_, _], [fI (y22.2 18 8)])) (h' := (156, fjl L, (fup y22.2 0 14 (y22.2 1 9)))) rfl trivial ?_
    obtain rfl := Option.some.inj h
    exact Wp.done rfl (by decide) H
theorem s_X11_records_j18_fr {M : fM} {r : (Int × fM)} (h : s_X11_records_j18 M = some r) : fSame s_X11_records_mods M r.2 := by
  unfold s_X11_records_j18 at h
  obtain ⟨y22, hy, h⟩ := fbd h
  have k22 := fs_trans (l := s_X11_records_mods) fs_refl (fs_mono (l := s_X10_empty_mods) (by decide) (s_X10_empty_fr hy))
  by_cases c : ¬ (y22.2 1 9) = 0
  · replace h := fps c h
    replace h := (fgd h).2
    obtain rfl := Option.some.inj h
    exact fs_up k22 (.inr (by decide))
  · replace h := fng c h
    obtain rfl := Option.some.inj h
    exact fs_up k22 (.inr (by decide))
noncomputable def s_X11_records_j18x (M : fM) : Option (Int × fM) :=
  (s_X10_empty M).bind fun y22 =>
    if ¬ (y22.2 1 9) = 0 then
      if fin ((-1) - (y22.2 1 10)) then
        some (((-1) - (y22.2 1 10)), (fup y22.2 0 14 (y22.2 1 9)))
      else none
    else
      some ((y22.2 18 8), (fup y22.2 0 14 (y22.2 1 9)))
theorem s_X11_records_j18x_ok {d L : Nat} {M : fM} {o1 : Option fV} {r : (Int × fM)} {Q : fO → fH → Prop} (h : s_X11_records_j18x M = some r) (H : Q (oI r.1) (156, fjl L, r.2)) : Wp (d + 13, 154, 18, 1, 6, [some (fA 0), o1], []) (156, fjl L, M) Q := by
  unfold s_X11_records_j18x at h
  refine Wp.run 2 (f' := (d + 13, 154, 22, 1, 6, [some (fA 0), _], [fA 1])) (h' := (156, fjl L, M)) rfl trivial ?_
  obtain ⟨y22, hy, h⟩ := fbd h
  refine Wp.call rfl (by decide) (s_X10_empty_ok (d := d + 12) hy ?_)
  show Wp (d + 13, 154, 25, 1, 6, [some (fA 0), _], []) (156, fjl L, y22.2) Q
  refine Wp.run 7 (f' := (d + 13, 154, 40, 1, 6, [some (fA 0), _], [fI (y22.2 1 9)])) (h' := (156, fjl L, (fup y22.2 0 14 (y22.2 1 9)))) rfl trivial ?_
  refine Wp.br rfl (fun (c : ¬ (y22.2 1 9) = 0) => ?_) (fun (c : ¬ (¬ (y22.2 1 9) = 0)) => ?_)
  · replace h := fps c h
    obtain ⟨g0, h⟩ := fgd h
    refine Wp.run 5 (f' := (d + 13, 154, 62, 1, 6, [_, _], [fI (fw ((-1) - (y22.2 1 10)))])) (h' := (156, fjl L, (fup y22.2 0 14 (y22.2 1 9)))) rfl trivial ?_
    rw [fw_id g0]
    obtain rfl := Option.some.inj h
    exact Wp.done rfl (by decide) H
  · replace h := fng c h
    refine Wp.run 4 (f' := (d + 13, 154, 62, 1, 6, [_, _], [fI (y22.2 18 8)])) (h' := (156, fjl L, (fup y22.2 0 14 (y22.2 1 9)))) rfl trivial ?_
    obtain rfl := Option.some.inj h
    exact Wp.done rfl (by decide) H
theorem s_X11_records_j18x_fr {M : fM} {r : (Int × fM)} (h : s_X11_records_j18x M = some r) : fSame s_X11_records_mods M r.2 := by
  unfold s_X11_records_j18x at h
  obtain ⟨y22, hy, h⟩ := fbd h
  have k22 := fs_trans (l := s_X11_records_mods) fs_refl (fs_mono (l := s_X10_empty_mods) (by decide) (s_X10_empty_fr hy))
  by_cases c : ¬ (y22.2 1 9) = 0
  · replace h := fps c h
    replace h := (fgd h).2
    obtain rfl := Option.some.inj h
    exact fs_up k22 (.inr (by decide))
  · replace h := fng c h
    obtain rfl := Option.some.inj h
    exact fs_up k22 (.inr (by decide))
noncomputable def s_X11_records (M : fM) : Option (Int × fM) :=
  (s_X5_readAll M).bind fun y8 =>
    fel y8.1
      (fun w8 =>
        s_X11_records_j18 (fup y8.2 18 8 w8))
      (s_X11_records_j18x y8.2)
theorem s_X11_records_ok {d L : Nat} {M : fM} {r : (Int × fM)} {Q : fO → fH → Prop} (h : s_X11_records M = some r) (H : Q (oI r.1) (156, fjl L, r.2)) : Wp (d + 13, 154, 0, 0, 0, [some (fA 0), none], []) (156, fjl L, M) Q := by
  unfold s_X11_records at h
  refine Wp.run 4 (f' := (d + 13, 154, 8, 0, 0, [some (fA 0), _], [fA 42, fA 18])) (h' := (156, fjl L, M)) rfl trivial ?_
  obtain ⟨y8, hy, h⟩ := fbd h
  refine Wp.call rfl (by decide) (s_X5_readAll_ok (d := d + 0) hy ?_)
  obtain ⟨w8, ew, h⟩ | ⟨ew, h⟩ := fel_of h
  · rw [ew]
    show Wp (d + 13, 154, 11, 0, 0, [some (fA 0), _], [fI w8, fA 18]) (156, fjl L, y8.2) Q
    refine Wp.run 2 (f' := (d + 13, 154, 18, 0, 0, [some (fA 0), _], [])) (h' := (156, fjl L, (fup y8.2 18 8 w8))) rfl trivial ?_
    exact s_X11_records_j18_ok h H
  · rw [ew]
    refine ⟨⟨rfl, by decide, by decide⟩, ?_⟩
    show Wp (d + 13, 154, 17, 1, 6, [some (fA 0), _], [fA 9999]) (156, fjl L, y8.2) Q
    refine Wp.run 1 (f' := (d + 13, 154, 18, 1, 6, [some (fA 0), _], [])) (h' := (156, fjl L, y8.2)) rfl trivial ?_
    exact s_X11_records_j18x_ok h H
theorem s_X11_records_fr {M : fM} {r : (Int × fM)} (h : s_X11_records M = some r) : fSame s_X11_records_mods M r.2 := by
  unfold s_X11_records at h
  obtain ⟨y8, hy, h⟩ := fbd h
  have k8 := fs_trans (l := s_X11_records_mods) fs_refl (fs_mono (l := s_X5_readAll_mods) (by decide) (s_X5_readAll_fr hy))
  obtain ⟨w8, ew, h⟩ | ⟨ew, h⟩ := fel_of h
  · exact fs_trans (fs_up k8 (.inr (by decide))) (s_X11_records_j18_fr h)
  · exact fs_trans k8 (s_X11_records_j18x_fr h)
abbrev s_X12_when_mods : List (Nat × Option Nat) := [(122, some 4), (122, some 11), (122, some 12), (122, some 13), (122, some 14), (122, some 15), (122, some 16), (122, some 17), (122, some 18), (125, none)]
noncomputable def s_X12_when_j100 (M : fM) (l2 t1 : Int) : Option (Int × fM) :=
  (s_X12_takes M t1 363).bind fun y103 =>
    if ¬ y103.1 = 0 then
      if fin (l2 + 3) ∧ (0 ≤ (l2 + 3) ∧ (l2 + 3) < 3800) then
        some (1, (fup y103.2 125 (l2 + 3).toNat (y103.2 122 18)))
      else none
    else
      some (0, y103.2)
theorem s_X12_when_j100_ok {d L : Nat} {M : fM} {l2 t1 : Int} {o1 : Option fV} {r : (Int × fM)} {Q : fO → fH → Prop} (h : s_X12_when_j100 M l2 t1 = some r) (H : Q (oI r.1) (156, fjl L, r.2)) : Wp (d + 3, 236, 100, 0, 0, [some (fA 122), o1, some (fI l2)], [fI t1, fA 122]) (156, fjl L, M) Q := by
  unfold s_X12_when_j100 at h
  refine Wp.run 1 (f' := (d + 3, 236, 103, 0, 0, [some (fA 122), _, some (fI l2)], [fI 363, fI t1, fA 122])) (h' := (156, fjl L, M)) rfl trivial ?_
  obtain ⟨y103, hy, h⟩ := fbd h
  refine Wp.call rfl (by decide) (s_X12_takes_ok (d := d + 0) hy ?_)
  show Wp (d + 3, 236, 106, 0, 0, [some (fA 122), _, some (fI l2)], [fI y103.1]) (156, fjl L, y103.2) Q
  refine Wp.br rfl (fun (c : ¬ y103.1 = 0) => ?_) (fun (c : ¬ (¬ y103.1 = 0)) => ?_)
  · replace h := fps c h
    obtain ⟨⟨g0, g1⟩, h⟩ := fgd h
    refine Wp.run 9 (P := [0 ≤ (fw (l2 + 3)) ∧ (fw (l2 + 3)) < 3800]) (f' := (d + 3, 236, 124, 0, 0, [_, _, _], [fI 1])) (h' := (156, fjl L, (fup y103.2 125 (fw (l2 + 3)).toNat (y103.2 122 18)))) rfl ?_ ?_
    · rw [fw_id g0]; exact g1
    rw [fw_id g0]
    obtain rfl := Option.some.inj h
    exact Wp.done rfl (by decide) H
  · replace h := fng c h
    refine Wp.run 1 (f' := (d + 3, 236, 110, 0, 0, [_, _, _], [fI 0])) (h' := (156, fjl L, y103.2)) rfl trivial ?_
    obtain rfl := Option.some.inj h
    exact Wp.done rfl (by decide) H
theorem s_X12_when_j100_fr {M : fM} {l2 t1 : Int} {r : (Int × fM)} (h : s_X12_when_j100 M l2 t1 = some r) : fSame s_X12_when_mods M r.2 := by
  unfold s_X12_when_j100 at h
  obtain ⟨y103, hy, h⟩ := fbd h
  have k103 := fs_trans (l := s_X12_when_mods) fs_refl (fs_mono (l := s_X12_takes_mods) (by decide) (s_X12_takes_fr hy))
  by_cases c : ¬ y103.1 = 0
  · replace h := fps c h
    replace h := (fgd h).2
    obtain rfl := Option.some.inj h
    exact fs_up k103 (.inl (by decide))
  · replace h := fng c h
    obtain rfl := Option.some.inj h
    exact k103
noncomputable def s_X12_when_j65 (M : fM) (l1 l2 t1 t2 : Int) : Option (Int × fM) :=
  if (0 ≤ t1 ∧ t1 < 3800) then
    (s_X12_isWord (fup M 125 (t1).toNat t2) 461414299502).bind fun y70 =>
      if ¬ y70 = 0 then
        (s_X12_next (fup M 125 (t1).toNat t2)).bind fun y79 =>
          if ¬ l1 = 5 then
            if fin (l2 + 2) ∧ (0 ≤ (l2 + 2) ∧ (l2 + 2) < 3800) then
              s_X12_when_j100 y79.2 l2 (y79.2 125 (l2 + 2).toNat)
            else none
          else
            s_X12_when_j100 y79.2 l2 0
      else
        some (1, (fup M 125 (t1).toNat t2))
  else none
theorem s_X12_when_j65_ok {d L : Nat} {M : fM} {l1 l2 t1 t2 : Int} {r : (Int × fM)} {Q : fO → fH → Prop} (h : s_X12_when_j65 M l1 l2 t1 t2 = some r) (H : Q (oI r.1) (156, fjl L, r.2)) : Wp (d + 3, 236, 65, 0, 0, [some (fA 122), some (fI l1), some (fI l2)], [fI t2, fI t1, fA 125]) (156, fjl L, M) Q := by
  unfold s_X12_when_j65 at h
  obtain ⟨g0, h⟩ := fgd h
  refine Wp.run 3 (P := [0 ≤ t1 ∧ t1 < 3800]) (f' := (d + 3, 236, 70, 0, 0, [some (fA 122), some (fI l1), some (fI l2)], [fJ 461414299502, fA 122])) (h' := (156, fjl L, (fup M 125 (t1).toNat t2))) rfl ?_ ?_
  · exact g0
  obtain ⟨y70, hy, h⟩ := fbd h
  refine Wp.call rfl (by decide) (s_X12_isWord_ok (d := d + 2) hy ?_)
  show Wp (d + 3, 236, 73, 0, 0, [some (fA 122), some (fI l1), some (fI l2)], [fI y70]) (156, fjl L, (fup M 125 (t1).toNat t2)) Q
  refine Wp.br rfl (fun (c : ¬ y70 = 0) => ?_) (fun (c : ¬ (¬ y70 = 0)) => ?_)
  · replace h := fps c h
    refine Wp.run 1 (f' := (d + 3, 236, 79, 0, 0, [some (fA 122), some (fI l1), some (fI l2)], [fA 122])) (h' := (156, fjl L, (fup M 125 (t1).toNat t2))) rfl trivial ?_
    obtain ⟨y79, hy, h⟩ := fbd h
    refine Wp.call rfl (by decide) (s_X12_next_ok (d := d + 1) hy ?_)
    show Wp (d + 3, 236, 82, 0, 0, [some (fA 122), some (fI l1), some (fI l2)], []) (156, fjl L, y79.2) Q
    refine Wp.run 3 (f' := (d + 3, 236, 85, 0, 0, [some (fA 122), _, some (fI l2)], [fI 5, fI l1, fA 122])) (h' := (156, fjl L, y79.2)) rfl trivial ?_
    refine Wp.br rfl (fun (c : ¬ l1 = 5) => ?_) (fun (c : ¬ (¬ l1 = 5)) => ?_)
    · replace h := fps c h
      obtain ⟨⟨g0, g1⟩, h⟩ := fgd h
      refine Wp.run 6 (P := [0 ≤ (fw (l2 + 2)) ∧ (fw (l2 + 2)) < 3800]) (f' := (d + 3, 236, 100, 0, 0, [some (fA 122), _, some (fI l2)], [fI (y79.2 125 (fw (l2 + 2)).toNat), fA 122])) (h' := (156, fjl L, y79.2)) rfl ?_ ?_
      · rw [fw_id g0]; exact g1
      rw [fw_id g0]
      exact s_X12_when_j100_ok h H
    · replace h := fng c h
      refine Wp.run 2 (f' := (d + 3, 236, 100, 0, 0, [some (fA 122), _, some (fI l2)], [fI 0, fA 122])) (h' := (156, fjl L, y79.2)) rfl trivial ?_
      exact s_X12_when_j100_ok h H
  · replace h := fng c h
    refine Wp.run 1 (f' := (d + 3, 236, 77, 0, 0, [_, _, _], [fI 1])) (h' := (156, fjl L, (fup M 125 (t1).toNat t2))) rfl trivial ?_
    obtain rfl := Option.some.inj h
    exact Wp.done rfl (by decide) H
theorem s_X12_when_j65_fr {M : fM} {l1 l2 t1 t2 : Int} {r : (Int × fM)} (h : s_X12_when_j65 M l1 l2 t1 t2 = some r) : fSame s_X12_when_mods M r.2 := by
  unfold s_X12_when_j65 at h
  replace h := (fgd h).2
  obtain ⟨y70, hy, h⟩ := fbd h
  by_cases c : ¬ y70 = 0
  · replace h := fps c h
    obtain ⟨y79, hy, h⟩ := fbd h
    have k79 := fs_trans (l := s_X12_when_mods) (fs_up fs_refl (.inl (by decide))) (fs_mono (l := s_X12_next_mods) (by decide) (s_X12_next_fr hy))
    by_cases c : ¬ l1 = 5
    · replace h := fps c h
      replace h := (fgd h).2
      exact fs_trans k79 (s_X12_when_j100_fr h)
    · replace h := fng c h
      exact fs_trans k79 (s_X12_when_j100_fr h)
  · replace h := fng c h
    obtain rfl := Option.some.inj h
    exact fs_up fs_refl (.inl (by decide))
noncomputable def s_X12_when (M : fM) (l1 l2 : Int) : Option (Int × fM) :=
  (s_X12_isWord M 28526).bind fun y4 =>
    if ¬ y4 = 0 then
      (s_X12_next M).bind fun y17 =>
        (s_X12_takes y17.2 0 363).bind fun y25 =>
          if ¬ y25.1 = 0 then
            if fin (l2 + 2) ∧ (0 ≤ (l2 + 2) ∧ (l2 + 2) < 3800) ∧ fin (l2 + 3) then
              if ¬ l1 = 5 then
                s_X12_when_j65 (fup y25.2 125 (l2 + 2).toNat (y25.2 122 18)) l1 l2 (l2 + 3) (y25.2 122 18)
              else
                s_X12_when_j65 (fup y25.2 125 (l2 + 2).toNat (y25.2 122 18)) l1 l2 (l2 + 3) 0
            else none
          else
            some (0, y25.2)
    else
      (s_X12_bad M 1).bind fun y12 =>
        if b01 y12.1 then
          some (y12.1, y12.2)
        else none
theorem s_X12_when_ok {d L : Nat} {M : fM} {l1 l2 : Int} {r : (Int × fM)} {Q : fO → fH → Prop} (h : s_X12_when M l1 l2 = some r) (H : Q (oI r.1) (156, fjl L, r.2)) : Wp (d + 3, 236, 0, 0, 0, [some (fA 122), some (fI l1), some (fI l2)], []) (156, fjl L, M) Q := by
  unfold s_X12_when at h
  refine Wp.run 2 (f' := (d + 3, 236, 4, 0, 0, [some (fA 122), some (fI l1), some (fI l2)], [fJ 28526, fA 122])) (h' := (156, fjl L, M)) rfl trivial ?_
  obtain ⟨y4, hy, h⟩ := fbd h
  refine Wp.call rfl (by decide) (s_X12_isWord_ok (d := d + 2) hy ?_)
  show Wp (d + 3, 236, 7, 0, 0, [some (fA 122), some (fI l1), some (fI l2)], [fI y4]) (156, fjl L, M) Q
  refine Wp.br rfl (fun (c : ¬ y4 = 0) => ?_) (fun (c : ¬ (¬ y4 = 0)) => ?_)
  · replace h := fps c h
    refine Wp.run 1 (f' := (d + 3, 236, 17, 0, 0, [some (fA 122), some (fI l1), some (fI l2)], [fA 122])) (h' := (156, fjl L, M)) rfl trivial ?_
    obtain ⟨y17, hy, h⟩ := fbd h
    refine Wp.call rfl (by decide) (s_X12_next_ok (d := d + 1) hy ?_)
    show Wp (d + 3, 236, 20, 0, 0, [some (fA 122), some (fI l1), some (fI l2)], []) (156, fjl L, y17.2) Q
    refine Wp.run 3 (f' := (d + 3, 236, 25, 0, 0, [some (fA 122), some (fI l1), some (fI l2)], [fI 363, fI 0, fA 122])) (h' := (156, fjl L, y17.2)) rfl trivial ?_
    obtain ⟨y25, hy, h⟩ := fbd h
    refine Wp.call rfl (by decide) (s_X12_takes_ok (d := d + 0) hy ?_)
    show Wp (d + 3, 236, 28, 0, 0, [some (fA 122), some (fI l1), some (fI l2)], [fI y25.1]) (156, fjl L, y25.2) Q
    refine Wp.br rfl (fun (c : ¬ y25.1 = 0) => ?_) (fun (c : ¬ (¬ y25.1 = 0)) => ?_)
    · replace h := fps c h
      obtain ⟨⟨g0, g1, g2⟩, h⟩ := fgd h
      refine Wp.run 15 (P := [0 ≤ (fw (l2 + 2)) ∧ (fw (l2 + 2)) < 3800]) (f' := (d + 3, 236, 54, 0, 0, [some (fA 122), some (fI l1), some (fI l2)], [fI 5, fI l1, fI (fw (l2 + 3)), fA 125])) (h' := (156, fjl L, (fup y25.2 125 (fw (l2 + 2)).toNat (y25.2 122 18)))) rfl ?_ ?_
      · rw [fw_id g0]; exact g1
      rw [fw_id g2, fw_id g0]
      refine Wp.br rfl (fun (c : ¬ l1 = 5) => ?_) (fun (c : ¬ (¬ l1 = 5)) => ?_)
      · replace h := fps c h
        refine Wp.run 2 (f' := (d + 3, 236, 65, 0, 0, [some (fA 122), some (fI l1), some (fI l2)], [fI (y25.2 122 18), fI (l2 + 3), fA 125])) (h' := (156, fjl L, (fup y25.2 125 (l2 + 2).toNat (y25.2 122 18)))) rfl trivial ?_
        exact s_X12_when_j65_ok h H
      · replace h := fng c h
        refine Wp.run 2 (f' := (d + 3, 236, 65, 0, 0, [some (fA 122), some (fI l1), some (fI l2)], [fI 0, fI (l2 + 3), fA 125])) (h' := (156, fjl L, (fup y25.2 125 (l2 + 2).toNat (y25.2 122 18)))) rfl trivial ?_
        exact s_X12_when_j65_ok h H
    · replace h := fng c h
      refine Wp.run 1 (f' := (d + 3, 236, 32, 0, 0, [_, _, _], [fI 0])) (h' := (156, fjl L, y25.2)) rfl trivial ?_
      obtain rfl := Option.some.inj h
      exact Wp.done rfl (by decide) H
  · replace h := fng c h
    refine Wp.run 2 (f' := (d + 3, 236, 12, 0, 0, [_, _, _], [fI 1, fA 122])) (h' := (156, fjl L, M)) rfl trivial ?_
    obtain ⟨y12, hy, h⟩ := fbd h
    refine Wp.call rfl (by decide) (s_X12_bad_ok (d := d + 2) hy ?_)
    show Wp (d + 3, 236, 15, 0, 0, [_, _, _], [fI y12.1]) (156, fjl L, y12.2) Q
    obtain ⟨g0, h⟩ := fgd h
    obtain rfl := Option.some.inj h
    exact Wp.done rfl ⟨g0, by decide, by decide, by decide⟩ H
theorem s_X12_when_fr {M : fM} {l1 l2 : Int} {r : (Int × fM)} (h : s_X12_when M l1 l2 = some r) : fSame s_X12_when_mods M r.2 := by
  unfold s_X12_when at h
  obtain ⟨y4, hy, h⟩ := fbd h
  by_cases c : ¬ y4 = 0
  · replace h := fps c h
    obtain ⟨y17, hy, h⟩ := fbd h
    have k17 := fs_trans (l := s_X12_when_mods) fs_refl (fs_mono (l := s_X12_next_mods) (by decide) (s_X12_next_fr hy))
    obtain ⟨y25, hy, h⟩ := fbd h
    have k25 := fs_trans (l := s_X12_when_mods) k17 (fs_mono (l := s_X12_takes_mods) (by decide) (s_X12_takes_fr hy))
    by_cases c : ¬ y25.1 = 0
    · replace h := fps c h
      replace h := (fgd h).2
      by_cases c : ¬ l1 = 5
      · replace h := fps c h
        exact fs_trans (fs_up k25 (.inl (by decide))) (s_X12_when_j65_fr h)
      · replace h := fng c h
        exact fs_trans (fs_up k25 (.inl (by decide))) (s_X12_when_j65_fr h)
    · replace h := fng c h
      obtain rfl := Option.some.inj h
      exact k25
  · replace h := fng c h
    obtain ⟨y12, hy, h⟩ := fbd h
    have k12 := fs_trans (l := s_X12_when_mods) fs_refl (fs_mono (l := s_X12_bad_mods) (by decide) (s_X12_bad_fr hy))
    replace h := (fgd h).2
    obtain rfl := Option.some.inj h
    exact k12
abbrev s_X12_notes_mods : List (Nat × Option Nat) := [(122, some 4), (122, some 11), (122, some 12), (122, some 13), (122, some 14), (122, some 15), (122, some 16), (122, some 17), (122, some 18), (125, none)]
noncomputable def s_X12_notes_b19 (M : fM) (l2 : Int) : Option (fM ⊕ (fM ⊕ (Int × fM))) :=
  if ¬ (M 122 11) = 2 then
    some (.inr (.inl M))
  else
    if (M 122 14) ≤ 11 then
      if fin (l2 + 6) ∧ (0 ≤ (l2 + 6) ∧ (l2 + 6) < 3800) then
        if ¬ (fand (fshr (M 125 (l2 + 6).toNat) (M 122 14)) 1) = 1 then
          if fin (l2 + 6) ∧ (0 ≤ (l2 + 6) ∧ (l2 + 6) < 3800) then
            (s_X12_next (fup M 125 (l2 + 6).toNat (fior (M 125 (l2 + 6).toNat) (fshl 1 (M 122 14))))).bind fun y93 =>
              (s_X12_takesSigned y93.2 999).bind fun y100 =>
                if ¬ y100.1 = 0 then
                  if fin (l2 + 7) ∧ fin ((l2 + 7) + (M 122 14)) ∧ (0 ≤ ((l2 + 7) + (M 122 14)) ∧ ((l2 + 7) + (M 122 14)) < 3800) then
                    some (.inl (fup y100.2 125 ((l2 + 7) + (M 122 14)).toNat (y100.2 122 18)))
                  else none
                else
                  some (.inr (.inr (0, y100.2)))
          else none
        else
          (s_X12_bad M 3).bind fun y66 =>
            if b01 y66.1 then
              some (.inr (.inr (y66.1, y66.2)))
            else none
      else none
    else
      (s_X12_bad M 2).bind fun y38 =>
        if b01 y38.1 then
          some (.inr (.inr (y38.1, y38.2)))
        else none
theorem s_X12_notes_b19_ok {d L : Nat} {M : fM} {l2 : Int} {o1 o3 : Option fV} {r : (fM ⊕ (fM ⊕ (Int × fM)))} {Q : fO → fH → Prop} (h : s_X12_notes_b19 M l2 = some r) (hC : ∀ (M' : fM) (o1' o3' : Option fV), r = .inl M' → Wp (d + 4, 237, 19, 0, 0, [some (fA 122), o1', some (fI l2), o3'], []) (156, fjl L, M') Q) (hE : ∀ (e : fM) (o0' o1' o2' o3' : Option fV), r = .inr (.inl e) → Wp (d + 4, 237, 126, 0, 0, [o0', o1', o2', o3'], []) (156, fjl L, e) Q) (hR : ∀ (v : (Int × fM)), r = .inr (.inr v) → Q (oI v.1) (156, fjl L, v.2)) : Wp (d + 4, 237, 19, 0, 0, [some (fA 122), o1, some (fI l2), o3], []) (156, fjl L, M) Q := by
  unfold s_X12_notes_b19 at h
  refine Wp.run 3 (f' := (d + 4, 237, 24, 0, 0, [some (fA 122), _, some (fI l2), _], [fI 2, fI (M 122 11)])) (h' := (156, fjl L, M)) rfl trivial ?_
  refine Wp.br rfl (fun (c : ¬ (M 122 11) = 2) => ?_) (fun (c : ¬ (¬ (M 122 11) = 2)) => ?_)
  · replace h := fps c h
    exact hE _ _ _ _ _ (Option.some.inj h).symm
  · replace h := fng c h
    refine Wp.run 3 (f' := (d + 4, 237, 33, 0, 0, [some (fA 122), _, some (fI l2), _], [fI 11, fI (M 122 14)])) (h' := (156, fjl L, M)) rfl trivial ?_
    refine Wp.br rfl (fun (c : (M 122 14) ≤ 11) => ?_) (fun (c : ¬ ((M 122 14) ≤ 11)) => ?_)
    · replace h := fps c h
      obtain ⟨⟨g0, g1⟩, h⟩ := fgd h
      refine Wp.run 14 (P := [0 ≤ (fw (l2 + 6)) ∧ (fw (l2 + 6)) < 3800]) (f' := (d + 4, 237, 61, 0, 0, [some (fA 122), _, some (fI l2), some (fI (M 122 14))], [fI 1, fI (fand (fshr (M 125 (fw (l2 + 6)).toNat) (M 122 14)) 1)])) (h' := (156, fjl L, M)) rfl ?_ ?_
      · rw [fw_id g0]; exact g1
      rw [fw_id g0]
      refine Wp.br rfl (fun (c : ¬ (fand (fshr (M 125 (l2 + 6).toNat) (M 122 14)) 1) = 1) => ?_) (fun (c : ¬ (¬ (fand (fshr (M 125 (l2 + 6).toNat) (M 122 14)) 1) = 1)) => ?_)
      · replace h := fps c h
        obtain ⟨⟨g0, g1⟩, h⟩ := fgd h
        refine Wp.run 16 (P := [0 ≤ (fw (l2 + 6)) ∧ (fw (l2 + 6)) < 3800, 0 ≤ (fw (l2 + 6)) ∧ (fw (l2 + 6)) < 3800]) (f' := (d + 4, 237, 92, 0, 0, [some (fA 122), _, some (fI l2), some (fI (M 122 14))], [])) (h' := (156, fjl L, (fup M 125 (fw (l2 + 6)).toNat (fior (M 125 (fw (l2 + 6)).toNat) (fshl 1 (M 122 14)))))) rfl ?_ ?_
        · rw [fw_id g0]; exact ⟨g1, g1⟩
        rw [fw_id g0]
        refine Wp.run 1 (f' := (d + 4, 237, 93, 0, 0, [some (fA 122), _, some (fI l2), some (fI (M 122 14))], [fA 122])) (h' := (156, fjl L, (fup M 125 (l2 + 6).toNat (fior (M 125 (l2 + 6).toNat) (fshl 1 (M 122 14)))))) rfl trivial ?_
        obtain ⟨y93, hy, h⟩ := fbd h
        refine Wp.call rfl (by decide) (s_X12_next_ok (d := d + 2) hy ?_)
        show Wp (d + 4, 237, 96, 0, 0, [some (fA 122), _, some (fI l2), some (fI (M 122 14))], []) (156, fjl L, y93.2) Q
        refine Wp.run 2 (f' := (d + 4, 237, 100, 0, 0, [some (fA 122), _, some (fI l2), some (fI (M 122 14))], [fI 999, fA 122])) (h' := (156, fjl L, y93.2)) rfl trivial ?_
        obtain ⟨y100, hy, h⟩ := fbd h
        refine Wp.call rfl (by decide) (s_X12_takesSigned_ok (d := d + 0) hy ?_)
        show Wp (d + 4, 237, 103, 0, 0, [some (fA 122), _, some (fI l2), some (fI (M 122 14))], [fI y100.1]) (156, fjl L, y100.2) Q
        refine Wp.br rfl (fun (c : ¬ y100.1 = 0) => ?_) (fun (c : ¬ (¬ y100.1 = 0)) => ?_)
        · replace h := fps c h
          obtain ⟨⟨g0, g1, g2⟩, h⟩ := fgd h
          refine Wp.run 11 (P := [0 ≤ (fw ((fw (l2 + 7)) + (M 122 14))) ∧ (fw ((fw (l2 + 7)) + (M 122 14))) < 3800]) (f' := (d + 4, 237, 19, 0, 0, [some (fA 122), _, some (fI l2), _], [])) (h' := (156, fjl L, (fup y100.2 125 (fw ((fw (l2 + 7)) + (M 122 14))).toNat (y100.2 122 18)))) rfl ?_ ?_
          · rw [fw_id g0, fw_id g1]; exact g2
          rw [fw_id g0, fw_id g1]
          exact hC _ _ _ (Option.some.inj h).symm
        · replace h := fng c h
          refine Wp.run 1 (f' := (d + 4, 237, 107, 0, 0, [_, _, _, _], [fI 0])) (h' := (156, fjl L, y100.2)) rfl trivial ?_
          exact Wp.done rfl (by decide) (hR _ (Option.some.inj h).symm)
      · replace h := fng c h
        refine Wp.run 2 (f' := (d + 4, 237, 66, 0, 0, [_, _, _, _], [fI 3, fA 122])) (h' := (156, fjl L, M)) rfl trivial ?_
        obtain ⟨y66, hy, h⟩ := fbd h
        refine Wp.call rfl (by decide) (s_X12_bad_ok (d := d + 3) hy ?_)
        show Wp (d + 4, 237, 69, 0, 0, [_, _, _, _], [fI y66.1]) (156, fjl L, y66.2) Q
        obtain ⟨g0, h⟩ := fgd h
        exact Wp.done rfl ⟨g0, by decide, by decide, by decide⟩ (hR _ (Option.some.inj h).symm)
    · replace h := fng c h
      refine Wp.run 2 (f' := (d + 4, 237, 38, 0, 0, [_, _, _, _], [fI 2, fA 122])) (h' := (156, fjl L, M)) rfl trivial ?_
      obtain ⟨y38, hy, h⟩ := fbd h
      refine Wp.call rfl (by decide) (s_X12_bad_ok (d := d + 3) hy ?_)
      show Wp (d + 4, 237, 41, 0, 0, [_, _, _, _], [fI y38.1]) (156, fjl L, y38.2) Q
      obtain ⟨g0, h⟩ := fgd h
      exact Wp.done rfl ⟨g0, by decide, by decide, by decide⟩ (hR _ (Option.some.inj h).symm)
theorem s_X12_notes_b19_fr {M : fM} {l2 : Int} {r : (fM ⊕ (fM ⊕ (Int × fM)))} (h : s_X12_notes_b19 M l2 = some r) : fSame s_X12_notes_mods M (Sum.elim (fun s => s) (Sum.elim (fun e => e) (fun v => v.2)) r) := by
  unfold s_X12_notes_b19 at h
  by_cases c : ¬ (M 122 11) = 2
  · replace h := fps c h
    obtain rfl := Option.some.inj h
    exact fs_refl
  · replace h := fng c h
    by_cases c : (M 122 14) ≤ 11
    · replace h := fps c h
      replace h := (fgd h).2
      by_cases c : ¬ (fand (fshr (M 125 (l2 + 6).toNat) (M 122 14)) 1) = 1
      · replace h := fps c h
        replace h := (fgd h).2
        obtain ⟨y93, hy, h⟩ := fbd h
        have k93 := fs_trans (l := s_X12_notes_mods) (fs_up fs_refl (.inl (by decide))) (fs_mono (l := s_X12_next_mods) (by decide) (s_X12_next_fr hy))
        obtain ⟨y100, hy, h⟩ := fbd h
        have k100 := fs_trans (l := s_X12_notes_mods) k93 (fs_mono (l := s_X12_takesSigned_mods) (by decide) (s_X12_takesSigned_fr hy))
        by_cases c : ¬ y100.1 = 0
        · replace h := fps c h
          replace h := (fgd h).2
          obtain rfl := Option.some.inj h
          exact fs_up k100 (.inl (by decide))
        · replace h := fng c h
          obtain rfl := Option.some.inj h
          exact k100
      · replace h := fng c h
        obtain ⟨y66, hy, h⟩ := fbd h
        have k66 := fs_trans (l := s_X12_notes_mods) fs_refl (fs_mono (l := s_X12_bad_mods) (by decide) (s_X12_bad_fr hy))
        replace h := (fgd h).2
        obtain rfl := Option.some.inj h
        exact k66
    · replace h := fng c h
      obtain ⟨y38, hy, h⟩ := fbd h
      have k38 := fs_trans (l := s_X12_notes_mods) fs_refl (fs_mono (l := s_X12_bad_mods) (by decide) (s_X12_bad_fr hy))
      replace h := (fgd h).2
      obtain rfl := Option.some.inj h
      exact k38
noncomputable def s_X12_notes_l19 (l2 : Int) (s : fM) : Option (fM ⊕ (Int × fM)) := fLp (fun s => s_X12_notes_b19 s l2) s
theorem s_X12_notes_l19_ok {d L : Nat} {M : fM} {l2 : Int} {o1 o3 : Option fV} {r : (fM ⊕ (Int × fM))} {Q : fO → fH → Prop} (h : s_X12_notes_l19 l2 M = some r) (hE : ∀ (e : fM) (o0' o1' o2' o3' : Option fV), r = .inl e → Wp (d + 4, 237, 126, 0, 0, [o0', o1', o2', o3'], []) (156, fjl L, e) Q) (hR : ∀ (v : (Int × fM)), r = .inr v → Q (oI v.1) (156, fjl L, v.2)) : Wp (d + 4, 237, 19, 0, 0, [some (fA 122), o1, some (fI l2), o3], []) (156, fjl L, M) Q := by
  refine fLp_wp (W := fun s => ∀ (o1 o3 : Option fV), Wp (d + 4, 237, 19, 0, 0, [some (fA 122), o1, some (fI l2), o3], []) (156, fjl L, s) Q) (e := r) ?_ h _ _
  intro s r1 h hC hX o1 o3
  refine s_X12_notes_b19_ok (d := d) h (fun a0 _ _ e1 => ?_) (fun e u0 u1 u2 u3 e1 => hE e u0 u1 u2 u3 (hX _ e1).symm) (fun v e1 => hR v (hX _ e1).symm)
  exact hC _ e1 _ _
theorem s_X12_notes_l19_fr {M : fM} {l2 : Int} {r : (fM ⊕ (Int × fM))} (h : s_X12_notes_l19 l2 M = some r) : fSame s_X12_notes_mods M ((Sum.elim (fun e => e) (fun v => v.2)) r) := by
  refine fLp_inv (I := fun s => fSame s_X12_notes_mods M s) (J := fun r => fSame s_X12_notes_mods M ((Sum.elim (fun e => e) (fun v => v.2)) r)) h fs_refl (fun s s1 hs hb => ?_) (fun s e hs hb => ?_)
  · exact fs_trans hs (s_X12_notes_b19_fr hb)
  · exact fs_trans hs (s_X12_notes_b19_fr hb)
noncomputable def s_X12_notes_b19x (M : fM) (l2 : Int) : Option (fM ⊕ (fM ⊕ (Int × fM))) :=
  if ¬ (M 122 11) = 2 then
    some (.inr (.inl M))
  else
    if (M 122 14) ≤ 11 then
      if fin (l2 + 6) ∧ (0 ≤ (l2 + 6) ∧ (l2 + 6) < 3800) then
        if ¬ (fand (fshr (M 125 (l2 + 6).toNat) (M 122 14)) 1) = 1 then
          if fin (l2 + 6) ∧ (0 ≤ (l2 + 6) ∧ (l2 + 6) < 3800) then
            (s_X12_next (fup M 125 (l2 + 6).toNat (fior (M 125 (l2 + 6).toNat) (fshl 1 (M 122 14))))).bind fun y93 =>
              (s_X12_takesSigned y93.2 999).bind fun y100 =>
                if ¬ y100.1 = 0 then
                  if fin (l2 + 7) ∧ fin ((l2 + 7) + (M 122 14)) ∧ (0 ≤ ((l2 + 7) + (M 122 14)) ∧ ((l2 + 7) + (M 122 14)) < 3800) then
                    some (.inl (fup y100.2 125 ((l2 + 7) + (M 122 14)).toNat (y100.2 122 18)))
                  else none
                else
                  some (.inr (.inr (0, y100.2)))
          else none
        else
          (s_X12_bad M 3).bind fun y66 =>
            if b01 y66.1 then
              some (.inr (.inr (y66.1, y66.2)))
            else none
      else none
    else
      (s_X12_bad M 2).bind fun y38 =>
        if b01 y38.1 then
          some (.inr (.inr (y38.1, y38.2)))
        else none
theorem s_X12_notes_b19x_ok {d L : Nat} {M : fM} {l2 : Int} {o1 o3 : Option fV} {r : (fM ⊕ (fM ⊕ (Int × fM)))} {Q : fO → fH → Prop} (h : s_X12_notes_b19x M l2 = some r) (hC : ∀ (M' : fM) (o1' o3' : Option fV), r = .inl M' → Wp (d + 4, 237, 19, 0, 0, [some (fA 122), o1', some (fI l2), o3'], []) (156, fjl L, M') Q) (hE : ∀ (e : fM) (o0' o1' o2' o3' : Option fV), r = .inr (.inl e) → Wp (d + 4, 237, 126, 0, 0, [o0', o1', o2', o3'], []) (156, fjl L, e) Q) (hR : ∀ (v : (Int × fM)), r = .inr (.inr v) → Q (oI v.1) (156, fjl L, v.2)) : Wp (d + 4, 237, 19, 0, 0, [some (fA 122), o1, some (fI l2), o3], []) (156, fjl L, M) Q := by
  unfold s_X12_notes_b19x at h
  refine Wp.run 3 (f' := (d + 4, 237, 24, 0, 0, [some (fA 122), _, some (fI l2), _], [fI 2, fI (M 122 11)])) (h' := (156, fjl L, M)) rfl trivial ?_
  refine Wp.br rfl (fun (c : ¬ (M 122 11) = 2) => ?_) (fun (c : ¬ (¬ (M 122 11) = 2)) => ?_)
  · replace h := fps c h
    exact hE _ _ _ _ _ (Option.some.inj h).symm
  · replace h := fng c h
    refine Wp.run 3 (f' := (d + 4, 237, 33, 0, 0, [some (fA 122), _, some (fI l2), _], [fI 11, fI (M 122 14)])) (h' := (156, fjl L, M)) rfl trivial ?_
    refine Wp.br rfl (fun (c : (M 122 14) ≤ 11) => ?_) (fun (c : ¬ ((M 122 14) ≤ 11)) => ?_)
    · replace h := fps c h
      obtain ⟨⟨g0, g1⟩, h⟩ := fgd h
      refine Wp.run 14 (P := [0 ≤ (fw (l2 + 6)) ∧ (fw (l2 + 6)) < 3800]) (f' := (d + 4, 237, 61, 0, 0, [some (fA 122), _, some (fI l2), some (fI (M 122 14))], [fI 1, fI (fand (fshr (M 125 (fw (l2 + 6)).toNat) (M 122 14)) 1)])) (h' := (156, fjl L, M)) rfl ?_ ?_
      · rw [fw_id g0]; exact g1
      rw [fw_id g0]
      refine Wp.br rfl (fun (c : ¬ (fand (fshr (M 125 (l2 + 6).toNat) (M 122 14)) 1) = 1) => ?_) (fun (c : ¬ (¬ (fand (fshr (M 125 (l2 + 6).toNat) (M 122 14)) 1) = 1)) => ?_)
      · replace h := fps c h
        obtain ⟨⟨g0, g1⟩, h⟩ := fgd h
        refine Wp.run 16 (P := [0 ≤ (fw (l2 + 6)) ∧ (fw (l2 + 6)) < 3800, 0 ≤ (fw (l2 + 6)) ∧ (fw (l2 + 6)) < 3800]) (f' := (d + 4, 237, 92, 0, 0, [some (fA 122), _, some (fI l2), some (fI (M 122 14))], [])) (h' := (156, fjl L, (fup M 125 (fw (l2 + 6)).toNat (fior (M 125 (fw (l2 + 6)).toNat) (fshl 1 (M 122 14)))))) rfl ?_ ?_
        · rw [fw_id g0]; exact ⟨g1, g1⟩
        rw [fw_id g0]
        refine Wp.run 1 (f' := (d + 4, 237, 93, 0, 0, [some (fA 122), _, some (fI l2), some (fI (M 122 14))], [fA 122])) (h' := (156, fjl L, (fup M 125 (l2 + 6).toNat (fior (M 125 (l2 + 6).toNat) (fshl 1 (M 122 14)))))) rfl trivial ?_
        obtain ⟨y93, hy, h⟩ := fbd h
        refine Wp.call rfl (by decide) (s_X12_next_ok (d := d + 2) hy ?_)
        show Wp (d + 4, 237, 96, 0, 0, [some (fA 122), _, some (fI l2), some (fI (M 122 14))], []) (156, fjl L, y93.2) Q
        refine Wp.run 2 (f' := (d + 4, 237, 100, 0, 0, [some (fA 122), _, some (fI l2), some (fI (M 122 14))], [fI 999, fA 122])) (h' := (156, fjl L, y93.2)) rfl trivial ?_
        obtain ⟨y100, hy, h⟩ := fbd h
        refine Wp.call rfl (by decide) (s_X12_takesSigned_ok (d := d + 0) hy ?_)
        show Wp (d + 4, 237, 103, 0, 0, [some (fA 122), _, some (fI l2), some (fI (M 122 14))], [fI y100.1]) (156, fjl L, y100.2) Q
        refine Wp.br rfl (fun (c : ¬ y100.1 = 0) => ?_) (fun (c : ¬ (¬ y100.1 = 0)) => ?_)
        · replace h := fps c h
          obtain ⟨⟨g0, g1, g2⟩, h⟩ := fgd h
          refine Wp.run 11 (P := [0 ≤ (fw ((fw (l2 + 7)) + (M 122 14))) ∧ (fw ((fw (l2 + 7)) + (M 122 14))) < 3800]) (f' := (d + 4, 237, 19, 0, 0, [some (fA 122), _, some (fI l2), _], [])) (h' := (156, fjl L, (fup y100.2 125 (fw ((fw (l2 + 7)) + (M 122 14))).toNat (y100.2 122 18)))) rfl ?_ ?_
          · rw [fw_id g0, fw_id g1]; exact g2
          rw [fw_id g0, fw_id g1]
          exact hC _ _ _ (Option.some.inj h).symm
        · replace h := fng c h
          refine Wp.run 1 (f' := (d + 4, 237, 107, 0, 0, [_, _, _, _], [fI 0])) (h' := (156, fjl L, y100.2)) rfl trivial ?_
          exact Wp.done rfl (by decide) (hR _ (Option.some.inj h).symm)
      · replace h := fng c h
        refine Wp.run 2 (f' := (d + 4, 237, 66, 0, 0, [_, _, _, _], [fI 3, fA 122])) (h' := (156, fjl L, M)) rfl trivial ?_
        obtain ⟨y66, hy, h⟩ := fbd h
        refine Wp.call rfl (by decide) (s_X12_bad_ok (d := d + 3) hy ?_)
        show Wp (d + 4, 237, 69, 0, 0, [_, _, _, _], [fI y66.1]) (156, fjl L, y66.2) Q
        obtain ⟨g0, h⟩ := fgd h
        exact Wp.done rfl ⟨g0, by decide, by decide, by decide⟩ (hR _ (Option.some.inj h).symm)
    · replace h := fng c h
      refine Wp.run 2 (f' := (d + 4, 237, 38, 0, 0, [_, _, _, _], [fI 2, fA 122])) (h' := (156, fjl L, M)) rfl trivial ?_
      obtain ⟨y38, hy, h⟩ := fbd h
      refine Wp.call rfl (by decide) (s_X12_bad_ok (d := d + 3) hy ?_)
      show Wp (d + 4, 237, 41, 0, 0, [_, _, _, _], [fI y38.1]) (156, fjl L, y38.2) Q
      obtain ⟨g0, h⟩ := fgd h
      exact Wp.done rfl ⟨g0, by decide, by decide, by decide⟩ (hR _ (Option.some.inj h).symm)
theorem s_X12_notes_b19x_fr {M : fM} {l2 : Int} {r : (fM ⊕ (fM ⊕ (Int × fM)))} (h : s_X12_notes_b19x M l2 = some r) : fSame s_X12_notes_mods M (Sum.elim (fun s => s) (Sum.elim (fun e => e) (fun v => v.2)) r) := by
  unfold s_X12_notes_b19x at h
  by_cases c : ¬ (M 122 11) = 2
  · replace h := fps c h
    obtain rfl := Option.some.inj h
    exact fs_refl
  · replace h := fng c h
    by_cases c : (M 122 14) ≤ 11
    · replace h := fps c h
      replace h := (fgd h).2
      by_cases c : ¬ (fand (fshr (M 125 (l2 + 6).toNat) (M 122 14)) 1) = 1
      · replace h := fps c h
        replace h := (fgd h).2
        obtain ⟨y93, hy, h⟩ := fbd h
        have k93 := fs_trans (l := s_X12_notes_mods) (fs_up fs_refl (.inl (by decide))) (fs_mono (l := s_X12_next_mods) (by decide) (s_X12_next_fr hy))
        obtain ⟨y100, hy, h⟩ := fbd h
        have k100 := fs_trans (l := s_X12_notes_mods) k93 (fs_mono (l := s_X12_takesSigned_mods) (by decide) (s_X12_takesSigned_fr hy))
        by_cases c : ¬ y100.1 = 0
        · replace h := fps c h
          replace h := (fgd h).2
          obtain rfl := Option.some.inj h
          exact fs_up k100 (.inl (by decide))
        · replace h := fng c h
          obtain rfl := Option.some.inj h
          exact k100
      · replace h := fng c h
        obtain ⟨y66, hy, h⟩ := fbd h
        have k66 := fs_trans (l := s_X12_notes_mods) fs_refl (fs_mono (l := s_X12_bad_mods) (by decide) (s_X12_bad_fr hy))
        replace h := (fgd h).2
        obtain rfl := Option.some.inj h
        exact k66
    · replace h := fng c h
      obtain ⟨y38, hy, h⟩ := fbd h
      have k38 := fs_trans (l := s_X12_notes_mods) fs_refl (fs_mono (l := s_X12_bad_mods) (by decide) (s_X12_bad_fr hy))
      replace h := (fgd h).2
      obtain rfl := Option.some.inj h
      exact k38
noncomputable def s_X12_notes_l19x (l2 : Int) (s : fM) : Option (fM ⊕ (Int × fM)) := fLp (fun s => s_X12_notes_b19x s l2) s
theorem s_X12_notes_l19x_ok {d L : Nat} {M : fM} {l2 : Int} {o1 o3 : Option fV} {r : (fM ⊕ (Int × fM))} {Q : fO → fH → Prop} (h : s_X12_notes_l19x l2 M = some r) (hE : ∀ (e : fM) (o0' o1' o2' o3' : Option fV), r = .inl e → Wp (d + 4, 237, 126, 0, 0, [o0', o1', o2', o3'], []) (156, fjl L, e) Q) (hR : ∀ (v : (Int × fM)), r = .inr v → Q (oI v.1) (156, fjl L, v.2)) : Wp (d + 4, 237, 19, 0, 0, [some (fA 122), o1, some (fI l2), o3], []) (156, fjl L, M) Q := by
  refine fLp_wp (W := fun s => ∀ (o1 o3 : Option fV), Wp (d + 4, 237, 19, 0, 0, [some (fA 122), o1, some (fI l2), o3], []) (156, fjl L, s) Q) (e := r) ?_ h _ _
  intro s r1 h hC hX o1 o3
  refine s_X12_notes_b19x_ok (d := d) h (fun a0 _ _ e1 => ?_) (fun e u0 u1 u2 u3 e1 => hE e u0 u1 u2 u3 (hX _ e1).symm) (fun v e1 => hR v (hX _ e1).symm)
  exact hC _ e1 _ _
theorem s_X12_notes_l19x_fr {M : fM} {l2 : Int} {r : (fM ⊕ (Int × fM))} (h : s_X12_notes_l19x l2 M = some r) : fSame s_X12_notes_mods M ((Sum.elim (fun e => e) (fun v => v.2)) r) := by
  refine fLp_inv (I := fun s => fSame s_X12_notes_mods M s) (J := fun r => fSame s_X12_notes_mods M ((Sum.elim (fun e => e) (fun v => v.2)) r)) h fs_refl (fun s s1 hs hb => ?_) (fun s e hs hb => ?_)
  · exact fs_trans hs (s_X12_notes_b19x_fr hb)
  · exact fs_trans hs (s_X12_notes_b19x_fr hb)
noncomputable def s_X12_notes (M : fM) (l1 l2 : Int) : Option (Int × fM) :=
  if ¬ l1 = 1 then
    (s_X12_notes_l19 l2 M).bind fun e19 =>
      Sum.elim (fun x19 =>
        some (1, x19))
        (fun v19 => some v19) e19
  else
    if (M 122 11) = 2 then
      (s_X12_notes_l19x l2 M).bind fun e19 =>
        Sum.elim (fun x19 =>
          some (1, x19))
          (fun v19 => some v19) e19
    else
      (s_X12_bad M 1).bind fun y15 =>
        if b01 y15.1 then
          some (y15.1, y15.2)
        else none
theorem s_X12_notes_ok {d L : Nat} {M : fM} {l1 l2 : Int} {r : (Int × fM)} {Q : fO → fH → Prop} (h : s_X12_notes M l1 l2 = some r) (H : Q (oI r.1) (156, fjl L, r.2)) : Wp (d + 4, 237, 0, 0, 0, [some (fA 122), some (fI l1), some (fI l2), none], []) (156, fjl L, M) Q := by
  unfold s_X12_notes at h
  refine Wp.run 2 (f' := (d + 4, 237, 2, 0, 0, [some (fA 122), _, some (fI l2), _], [fI 1, fI l1])) (h' := (156, fjl L, M)) rfl trivial ?_
  refine Wp.br rfl (fun (c : ¬ l1 = 1) => ?_) (fun (c : ¬ (¬ l1 = 1)) => ?_)
  · replace h := fps c h
    obtain ⟨e19, hy, h⟩ := fbd h
    refine s_X12_notes_l19_ok hy (fun x19 u0 u1 u2 u3 ex => ?_) (fun v19 ex => ?_)
    · subst ex
      replace h := fsl h
      show Wp (d + 4, 237, 126, 0, 0, [u0, u1, u2, u3], []) (156, fjl L, x19) Q
      refine Wp.run 1 (f' := (d + 4, 237, 127, 0, 0, [_, _, _, _], [fI 1])) (h' := (156, fjl L, x19)) rfl trivial ?_
      obtain rfl := Option.some.inj h
      exact Wp.done rfl (by decide) H
    · subst ex
      replace h := fsr h
      obtain rfl := Option.some.inj h
      exact H
  · replace h := fng c h
    refine Wp.run 3 (f' := (d + 4, 237, 10, 0, 0, [some (fA 122), _, some (fI l2), _], [fI 2, fI (M 122 11)])) (h' := (156, fjl L, M)) rfl trivial ?_
    refine Wp.br rfl (fun (c : (M 122 11) = 2) => ?_) (fun (c : ¬ ((M 122 11) = 2)) => ?_)
    · replace h := fps c h
      obtain ⟨e19, hy, h⟩ := fbd h
      refine s_X12_notes_l19x_ok hy (fun x19 u0 u1 u2 u3 ex => ?_) (fun v19 ex => ?_)
      · subst ex
        replace h := fsl h
        show Wp (d + 4, 237, 126, 0, 0, [u0, u1, u2, u3], []) (156, fjl L, x19) Q
        refine Wp.run 1 (f' := (d + 4, 237, 127, 0, 0, [_, _, _, _], [fI 1])) (h' := (156, fjl L, x19)) rfl trivial ?_
        obtain rfl := Option.some.inj h
        exact Wp.done rfl (by decide) H
      · subst ex
        replace h := fsr h
        obtain rfl := Option.some.inj h
        exact H
    · replace h := fng c h
      refine Wp.run 2 (f' := (d + 4, 237, 15, 0, 0, [_, _, _, _], [fI 1, fA 122])) (h' := (156, fjl L, M)) rfl trivial ?_
      obtain ⟨y15, hy, h⟩ := fbd h
      refine Wp.call rfl (by decide) (s_X12_bad_ok (d := d + 3) hy ?_)
      show Wp (d + 4, 237, 18, 0, 0, [_, _, _, _], [fI y15.1]) (156, fjl L, y15.2) Q
      obtain ⟨g0, h⟩ := fgd h
      obtain rfl := Option.some.inj h
      exact Wp.done rfl ⟨g0, by decide, by decide, by decide⟩ H
theorem s_X12_notes_fr {M : fM} {l1 l2 : Int} {r : (Int × fM)} (h : s_X12_notes M l1 l2 = some r) : fSame s_X12_notes_mods M r.2 := by
  unfold s_X12_notes at h
  by_cases c : ¬ l1 = 1
  · replace h := fps c h
    obtain ⟨e19, hy, h⟩ := fbd h
    have k19 := fs_trans (l := s_X12_notes_mods) fs_refl (s_X12_notes_l19_fr hy)
    rcases e19 with x19 | v19
    · replace h := fsl h
      obtain rfl := Option.some.inj h
      exact k19
    · replace h := fsr h
      obtain rfl := Option.some.inj h
      exact k19
  · replace h := fng c h
    by_cases c : (M 122 11) = 2
    · replace h := fps c h
      obtain ⟨e19, hy, h⟩ := fbd h
      have k19 := fs_trans (l := s_X12_notes_mods) fs_refl (s_X12_notes_l19x_fr hy)
      rcases e19 with x19 | v19
      · replace h := fsl h
        obtain rfl := Option.some.inj h
        exact k19
      · replace h := fsr h
        obtain rfl := Option.some.inj h
        exact k19
    · replace h := fng c h
      obtain ⟨y15, hy, h⟩ := fbd h
      have k15 := fs_trans (l := s_X12_notes_mods) fs_refl (fs_mono (l := s_X12_bad_mods) (by decide) (s_X12_bad_fr hy))
      replace h := (fgd h).2
      obtain rfl := Option.some.inj h
      exact k15
abbrev s_X12_record_mods : List (Nat × Option Nat) := [(122, some 4), (122, some 11), (122, some 12), (122, some 13), (122, some 14), (122, some 15), (122, some 16), (122, some 17), (122, some 18), (125, none)]
noncomputable def s_X12_record_b2 (M : fM) (l1 l2 l3 : Int) : Option ((Int × fM) ⊕ fM) :=
  if 19 ≤ l3 then
    some (.inr M)
  else
    if fin (l2 + l3) ∧ (0 ≤ (l2 + l3) ∧ (l2 + l3) < 3800) ∧ fin (l3 + 1) then
      some (.inl ((l3 + 1), (fup M 125 (l2 + l3).toNat 0)))
    else none
theorem s_X12_record_b2_ok {d L : Nat} {M : fM} {l1 l2 l3 : Int} {r : ((Int × fM) ⊕ fM)} {Q : fO → fH → Prop} (h : s_X12_record_b2 M l1 l2 l3 = some r) (hC : ∀ (l3' : Int) (M' : fM), r = .inl (l3', M') → Wp (d + 5, 235, 2, 0, 0, [some (fA 122), some (fI l1), some (fI l2), some (fI l3')], []) (156, fjl L, M') Q) (hE : ∀ (e : fM) (o3' : Option fV), r = .inr e → Wp (d + 5, 235, 23, 0, 0, [some (fA 122), some (fI l1), some (fI l2), o3'], []) (156, fjl L, e) Q) : Wp (d + 5, 235, 2, 0, 0, [some (fA 122), some (fI l1), some (fI l2), some (fI l3)], []) (156, fjl L, M) Q := by
  unfold s_X12_record_b2 at h
  refine Wp.run 2 (f' := (d + 5, 235, 5, 0, 0, [some (fA 122), some (fI l1), some (fI l2), some (fI l3)], [fI 19, fI l3])) (h' := (156, fjl L, M)) rfl trivial ?_
  refine Wp.br rfl (fun (c : 19 ≤ l3) => ?_) (fun (c : ¬ (19 ≤ l3)) => ?_)
  · replace h := fps c h
    exact hE _ _ (Option.some.inj h).symm
  · replace h := fng c h
    obtain ⟨⟨g0, g1, g2⟩, h⟩ := fgd h
    refine Wp.run 9 (P := [0 ≤ (fw (l2 + l3)) ∧ (fw (l2 + l3)) < 3800]) (f' := (d + 5, 235, 2, 0, 0, [some (fA 122), some (fI l1), some (fI l2), some (fI (fw (l3 + 1)))], [])) (h' := (156, fjl L, (fup M 125 (fw (l2 + l3)).toNat 0))) rfl ?_ ?_
    · rw [fw_id g0]; exact g1
    rw [fw_id g2, fw_id g0]
    exact hC _ _ (Option.some.inj h).symm
theorem s_X12_record_b2_fr {M : fM} {l1 l2 l3 : Int} {r : ((Int × fM) ⊕ fM)} (h : s_X12_record_b2 M l1 l2 l3 = some r) : fSame s_X12_record_mods M (Sum.elim (fun s => s.2) (fun e => e) r) := by
  unfold s_X12_record_b2 at h
  by_cases c : 19 ≤ l3
  · replace h := fps c h
    obtain rfl := Option.some.inj h
    exact fs_refl
  · replace h := fng c h
    replace h := (fgd h).2
    obtain rfl := Option.some.inj h
    exact fs_up fs_refl (.inl (by decide))
noncomputable def s_X12_record_l2 (l1 l2 : Int) (s : (Int × fM)) : Option fM := fLp (fun s => s_X12_record_b2 s.2 l1 l2 s.1) s
theorem s_X12_record_l2_ok {d L : Nat} {M : fM} {l1 l2 l3 : Int} {r : fM} {Q : fO → fH → Prop} (h : s_X12_record_l2 l1 l2 (l3, M) = some r) (hE : ∀ (e : fM) (o3' : Option fV), r = e → Wp (d + 5, 235, 23, 0, 0, [some (fA 122), some (fI l1), some (fI l2), o3'], []) (156, fjl L, e) Q) : Wp (d + 5, 235, 2, 0, 0, [some (fA 122), some (fI l1), some (fI l2), some (fI l3)], []) (156, fjl L, M) Q := by
  refine fLp_wp (W := fun s => Wp (d + 5, 235, 2, 0, 0, [some (fA 122), some (fI l1), some (fI l2), some (fI s.1)], []) (156, fjl L, s.2) Q) (e := r) ?_ h
  intro s r1 h hC hX
  refine s_X12_record_b2_ok (d := d) h (fun a0 a1 e1 => ?_) (fun e u0 e1 => hE e u0 (hX _ e1).symm)
  exact hC _ e1
theorem s_X12_record_l2_fr {M : fM} {l1 l2 l3 : Int} {r : fM} (h : s_X12_record_l2 l1 l2 (l3, M) = some r) : fSame s_X12_record_mods M ((fun e => e) r) := by
  refine fLp_inv (I := fun s => fSame s_X12_record_mods M s.2) (J := fun r => fSame s_X12_record_mods M ((fun e => e) r)) h fs_refl (fun s s1 hs hb => ?_) (fun s e hs hb => ?_)
  · exact fs_trans hs (s_X12_record_b2_fr hb)
  · exact fs_trans hs (s_X12_record_b2_fr hb)
noncomputable def s_X12_record_j80 (M : fM) : Option (Int × fM) :=
  (s_X12_bad M 3).bind fun y82 =>
    if b01 y82.1 then
      some (y82.1, y82.2)
    else none
theorem s_X12_record_j80_ok {d L : Nat} {M : fM} {o1 o2 o3 : Option fV} {r : (Int × fM)} {Q : fO → fH → Prop} (h : s_X12_record_j80 M = some r) (H : Q (oI r.1) (156, fjl L, r.2)) : Wp (d + 5, 235, 80, 0, 0, [some (fA 122), o1, o2, o3], []) (156, fjl L, M) Q := by
  unfold s_X12_record_j80 at h
  refine Wp.run 2 (f' := (d + 5, 235, 82, 0, 0, [_, _, _, _], [fI 3, fA 122])) (h' := (156, fjl L, M)) rfl trivial ?_
  obtain ⟨y82, hy, h⟩ := fbd h
  refine Wp.call rfl (by decide) (s_X12_bad_ok (d := d + 4) hy ?_)
  show Wp (d + 5, 235, 85, 0, 0, [_, _, _, _], [fI y82.1]) (156, fjl L, y82.2) Q
  obtain ⟨g0, h⟩ := fgd h
  obtain rfl := Option.some.inj h
  exact Wp.done rfl ⟨g0, by decide, by decide, by decide⟩ H
theorem s_X12_record_j80_fr {M : fM} {r : (Int × fM)} (h : s_X12_record_j80 M = some r) : fSame s_X12_record_mods M r.2 := by
  unfold s_X12_record_j80 at h
  obtain ⟨y82, hy, h⟩ := fbd h
  have k82 := fs_trans (l := s_X12_record_mods) fs_refl (fs_mono (l := s_X12_bad_mods) (by decide) (s_X12_bad_fr hy))
  replace h := (fgd h).2
  obtain rfl := Option.some.inj h
  exact k82
noncomputable def s_X12_record_j192 (M : fM) (l1 l2 : Int) : Option (Int × fM) :=
  if fin (l2 + 5) ∧ (0 ≤ (l2 + 5) ∧ (l2 + 5) < 3800) then
    (s_X12_when (fup M 125 (l2 + 5).toNat (M 122 18)) l1 l2).bind fun y207 =>
      if y207.1 = 0 then
        some (0, y207.2)
      else
        if 1 < l1 then
          some (1, y207.2)
        else
          (s_X12_notes y207.2 l1 l2).bind fun y221 =>
            if y221.1 = 0 then
              some (0, y221.2)
            else
              some (1, y221.2)
  else none
theorem s_X12_record_j192_ok {d L : Nat} {M : fM} {l1 l2 : Int} {o3 : Option fV} {r : (Int × fM)} {Q : fO → fH → Prop} (h : s_X12_record_j192 M l1 l2 = some r) (H : Q (oI r.1) (156, fjl L, r.2)) : Wp (d + 5, 235, 192, 0, 0, [some (fA 122), some (fI l1), some (fI l2), o3], []) (156, fjl L, M) Q := by
  unfold s_X12_record_j192 at h
  obtain ⟨⟨g0, g1⟩, h⟩ := fgd h
  refine Wp.run 11 (P := [0 ≤ (fw (l2 + 5)) ∧ (fw (l2 + 5)) < 3800]) (f' := (d + 5, 235, 207, 0, 0, [some (fA 122), some (fI l1), some (fI l2), _], [fI l2, fI l1, fA 122])) (h' := (156, fjl L, (fup M 125 (fw (l2 + 5)).toNat (M 122 18)))) rfl ?_ ?_
  · rw [fw_id g0]; exact g1
  rw [fw_id g0]
  obtain ⟨y207, hy, h⟩ := fbd h
  refine Wp.call rfl (by decide) (s_X12_when_ok (d := d + 1) hy ?_)
  show Wp (d + 5, 235, 210, 0, 0, [some (fA 122), some (fI l1), some (fI l2), _], [fI y207.1]) (156, fjl L, y207.2) Q
  refine Wp.br rfl (fun (c : y207.1 = 0) => ?_) (fun (c : ¬ (y207.1 = 0)) => ?_)
  · replace h := fps c h
    refine Wp.run 1 (f' := (d + 5, 235, 232, 0, 0, [_, _, _, _], [fI 0])) (h' := (156, fjl L, y207.2)) rfl trivial ?_
    obtain rfl := Option.some.inj h
    exact Wp.done rfl (by decide) H
  · replace h := fng c h
    refine Wp.run 2 (f' := (d + 5, 235, 215, 0, 0, [some (fA 122), some (fI l1), some (fI l2), _], [fI 1, fI l1])) (h' := (156, fjl L, y207.2)) rfl trivial ?_
    refine Wp.br rfl (fun (c : 1 < l1) => ?_) (fun (c : ¬ (1 < l1)) => ?_)
    · replace h := fps c h
      refine Wp.run 2 (f' := (d + 5, 235, 232, 0, 0, [_, _, _, _], [fI 1])) (h' := (156, fjl L, y207.2)) rfl trivial ?_
      obtain rfl := Option.some.inj h
      exact Wp.done rfl (by decide) H
    · replace h := fng c h
      refine Wp.run 3 (f' := (d + 5, 235, 221, 0, 0, [_, _, _, _], [fI l2, fI l1, fA 122])) (h' := (156, fjl L, y207.2)) rfl trivial ?_
      obtain ⟨y221, hy, h⟩ := fbd h
      refine Wp.call rfl (by decide) (s_X12_notes_ok (d := d + 0) hy ?_)
      show Wp (d + 5, 235, 224, 0, 0, [_, _, _, _], [fI y221.1]) (156, fjl L, y221.2) Q
      refine Wp.br rfl (fun (c : y221.1 = 0) => ?_) (fun (c : ¬ (y221.1 = 0)) => ?_)
      · replace h := fps c h
        refine Wp.run 1 (f' := (d + 5, 235, 232, 0, 0, [_, _, _, _], [fI 0])) (h' := (156, fjl L, y221.2)) rfl trivial ?_
        obtain rfl := Option.some.inj h
        exact Wp.done rfl (by decide) H
      · replace h := fng c h
        refine Wp.run 2 (f' := (d + 5, 235, 232, 0, 0, [_, _, _, _], [fI 1])) (h' := (156, fjl L, y221.2)) rfl trivial ?_
        obtain rfl := Option.some.inj h
        exact Wp.done rfl (by decide) H
theorem s_X12_record_j192_fr {M : fM} {l1 l2 : Int} {r : (Int × fM)} (h : s_X12_record_j192 M l1 l2 = some r) : fSame s_X12_record_mods M r.2 := by
  unfold s_X12_record_j192 at h
  replace h := (fgd h).2
  obtain ⟨y207, hy, h⟩ := fbd h
  have k207 := fs_trans (l := s_X12_record_mods) (fs_up fs_refl (.inl (by decide))) (fs_mono (l := s_X12_when_mods) (by decide) (s_X12_when_fr hy))
  by_cases c : y207.1 = 0
  · replace h := fps c h
    obtain rfl := Option.some.inj h
    exact k207
  · replace h := fng c h
    by_cases c : 1 < l1
    · replace h := fps c h
      obtain rfl := Option.some.inj h
      exact k207
    · replace h := fng c h
      obtain ⟨y221, hy, h⟩ := fbd h
      have k221 := fs_trans (l := s_X12_record_mods) k207 (fs_mono (l := s_X12_notes_mods) (by decide) (s_X12_notes_fr hy))
      by_cases c : y221.1 = 0
      · replace h := fps c h
        obtain rfl := Option.some.inj h
        exact k221
      · replace h := fng c h
        obtain rfl := Option.some.inj h
        exact k221
noncomputable def s_X12_record_j162 (M : fM) (l1 l2 : Int) : Option (Int × fM) :=
  if fin (l2 + 4) ∧ (0 ≤ (l2 + 4) ∧ (l2 + 4) < 3800) then
    if ¬ l1 = 6 then
      s_X12_record_j192 (fup M 125 (l2 + 4).toNat (M 122 18)) l1 l2
    else
      (s_X12_takes (fup M 125 (l2 + 4).toNat (M 122 18)) 0 99).bind fun y184 =>
        if ¬ y184.1 = 0 then
          s_X12_record_j192 y184.2 l1 l2
        else
          some (0, y184.2)
  else none
theorem s_X12_record_j162_ok {d L : Nat} {M : fM} {l1 l2 : Int} {o3 : Option fV} {r : (Int × fM)} {Q : fO → fH → Prop} (h : s_X12_record_j162 M l1 l2 = some r) (H : Q (oI r.1) (156, fjl L, r.2)) : Wp (d + 5, 235, 162, 0, 0, [some (fA 122), some (fI l1), some (fI l2), o3], []) (156, fjl L, M) Q := by
  unfold s_X12_record_j162 at h
  obtain ⟨⟨g0, g1⟩, h⟩ := fgd h
  refine Wp.run 10 (P := [0 ≤ (fw (l2 + 4)) ∧ (fw (l2 + 4)) < 3800]) (f' := (d + 5, 235, 177, 0, 0, [some (fA 122), some (fI l1), some (fI l2), _], [fI 6, fI l1])) (h' := (156, fjl L, (fup M 125 (fw (l2 + 4)).toNat (M 122 18)))) rfl ?_ ?_
  · rw [fw_id g0]; exact g1
  rw [fw_id g0]
  refine Wp.br rfl (fun (c : ¬ l1 = 6) => ?_) (fun (c : ¬ (¬ l1 = 6)) => ?_)
  · replace h := fps c h
    exact s_X12_record_j192_ok h H
  · replace h := fng c h
    refine Wp.run 3 (f' := (d + 5, 235, 184, 0, 0, [some (fA 122), some (fI l1), some (fI l2), _], [fI 99, fI 0, fA 122])) (h' := (156, fjl L, (fup M 125 (l2 + 4).toNat (M 122 18)))) rfl trivial ?_
    obtain ⟨y184, hy, h⟩ := fbd h
    refine Wp.call rfl (by decide) (s_X12_takes_ok (d := d + 2) hy ?_)
    show Wp (d + 5, 235, 187, 0, 0, [some (fA 122), some (fI l1), some (fI l2), _], [fI y184.1]) (156, fjl L, y184.2) Q
    refine Wp.br rfl (fun (c : ¬ y184.1 = 0) => ?_) (fun (c : ¬ (¬ y184.1 = 0)) => ?_)
    · replace h := fps c h
      exact s_X12_record_j192_ok h H
    · replace h := fng c h
      refine Wp.run 1 (f' := (d + 5, 235, 191, 0, 0, [_, _, _, _], [fI 0])) (h' := (156, fjl L, y184.2)) rfl trivial ?_
      obtain rfl := Option.some.inj h
      exact Wp.done rfl (by decide) H
theorem s_X12_record_j162_fr {M : fM} {l1 l2 : Int} {r : (Int × fM)} (h : s_X12_record_j162 M l1 l2 = some r) : fSame s_X12_record_mods M r.2 := by
  unfold s_X12_record_j162 at h
  replace h := (fgd h).2
  by_cases c : ¬ l1 = 6
  · replace h := fps c h
    exact fs_trans (fs_up fs_refl (.inl (by decide))) (s_X12_record_j192_fr h)
  · replace h := fng c h
    obtain ⟨y184, hy, h⟩ := fbd h
    have k184 := fs_trans (l := s_X12_record_mods) (fs_up fs_refl (.inl (by decide))) (fs_mono (l := s_X12_takes_mods) (by decide) (s_X12_takes_fr hy))
    by_cases c : ¬ y184.1 = 0
    · replace h := fps c h
      exact fs_trans k184 (s_X12_record_j192_fr h)
    · replace h := fng c h
      obtain rfl := Option.some.inj h
      exact k184
noncomputable def s_X12_record_j144 (M : fM) (l1 l2 : Int) : Option (Int × fM) :=
  if ¬ l1 = 6 then
    s_X12_record_j162 M l1 l2
  else
    (s_X12_takes M 0 99).bind fun y154 =>
      if ¬ y154.1 = 0 then
        s_X12_record_j162 y154.2 l1 l2
      else
        some (0, y154.2)
theorem s_X12_record_j144_ok {d L : Nat} {M : fM} {l1 l2 : Int} {o3 : Option fV} {r : (Int × fM)} {Q : fO → fH → Prop} (h : s_X12_record_j144 M l1 l2 = some r) (H : Q (oI r.1) (156, fjl L, r.2)) : Wp (d + 5, 235, 144, 0, 0, [some (fA 122), some (fI l1), some (fI l2), o3], []) (156, fjl L, M) Q := by
  unfold s_X12_record_j144 at h
  refine Wp.run 2 (f' := (d + 5, 235, 147, 0, 0, [some (fA 122), some (fI l1), some (fI l2), _], [fI 6, fI l1])) (h' := (156, fjl L, M)) rfl trivial ?_
  refine Wp.br rfl (fun (c : ¬ l1 = 6) => ?_) (fun (c : ¬ (¬ l1 = 6)) => ?_)
  · replace h := fps c h
    exact s_X12_record_j162_ok h H
  · replace h := fng c h
    refine Wp.run 3 (f' := (d + 5, 235, 154, 0, 0, [some (fA 122), some (fI l1), some (fI l2), _], [fI 99, fI 0, fA 122])) (h' := (156, fjl L, M)) rfl trivial ?_
    obtain ⟨y154, hy, h⟩ := fbd h
    refine Wp.call rfl (by decide) (s_X12_takes_ok (d := d + 2) hy ?_)
    show Wp (d + 5, 235, 157, 0, 0, [some (fA 122), some (fI l1), some (fI l2), _], [fI y154.1]) (156, fjl L, y154.2) Q
    refine Wp.br rfl (fun (c : ¬ y154.1 = 0) => ?_) (fun (c : ¬ (¬ y154.1 = 0)) => ?_)
    · replace h := fps c h
      exact s_X12_record_j162_ok h H
    · replace h := fng c h
      refine Wp.run 1 (f' := (d + 5, 235, 161, 0, 0, [_, _, _, _], [fI 0])) (h' := (156, fjl L, y154.2)) rfl trivial ?_
      obtain rfl := Option.some.inj h
      exact Wp.done rfl (by decide) H
theorem s_X12_record_j144_fr {M : fM} {l1 l2 : Int} {r : (Int × fM)} (h : s_X12_record_j144 M l1 l2 = some r) : fSame s_X12_record_mods M r.2 := by
  unfold s_X12_record_j144 at h
  by_cases c : ¬ l1 = 6
  · replace h := fps c h
    exact fs_trans fs_refl (s_X12_record_j162_fr h)
  · replace h := fng c h
    obtain ⟨y154, hy, h⟩ := fbd h
    have k154 := fs_trans (l := s_X12_record_mods) fs_refl (fs_mono (l := s_X12_takes_mods) (by decide) (s_X12_takes_fr hy))
    by_cases c : ¬ y154.1 = 0
    · replace h := fps c h
      exact fs_trans k154 (s_X12_record_j162_fr h)
    · replace h := fng c h
      obtain rfl := Option.some.inj h
      exact k154
noncomputable def s_X12_record_j128 (M : fM) (l1 l2 : Int) : Option (Int × fM) :=
  if ¬ l1 = 3 then
    s_X12_record_j144 M l1 l2
  else
    (s_X12_takes M 1 9999).bind fun y138 =>
      if y138.1 = 0 then
        some (0, y138.2)
      else
        s_X12_record_j144 y138.2 l1 l2
theorem s_X12_record_j128_ok {d L : Nat} {M : fM} {l1 l2 : Int} {o3 : Option fV} {r : (Int × fM)} {Q : fO → fH → Prop} (h : s_X12_record_j128 M l1 l2 = some r) (H : Q (oI r.1) (156, fjl L, r.2)) : Wp (d + 5, 235, 128, 0, 0, [some (fA 122), some (fI l1), some (fI l2), o3], []) (156, fjl L, M) Q := by
  unfold s_X12_record_j128 at h
  refine Wp.run 2 (f' := (d + 5, 235, 130, 0, 0, [some (fA 122), some (fI l1), some (fI l2), _], [fI 3, fI l1])) (h' := (156, fjl L, M)) rfl trivial ?_
  refine Wp.br rfl (fun (c : ¬ l1 = 3) => ?_) (fun (c : ¬ (¬ l1 = 3)) => ?_)
  · replace h := fps c h
    exact s_X12_record_j144_ok h H
  · replace h := fng c h
    refine Wp.run 3 (f' := (d + 5, 235, 138, 0, 0, [some (fA 122), some (fI l1), some (fI l2), _], [fI 9999, fI 1, fA 122])) (h' := (156, fjl L, M)) rfl trivial ?_
    obtain ⟨y138, hy, h⟩ := fbd h
    refine Wp.call rfl (by decide) (s_X12_takes_ok (d := d + 2) hy ?_)
    show Wp (d + 5, 235, 141, 0, 0, [some (fA 122), some (fI l1), some (fI l2), _], [fI y138.1]) (156, fjl L, y138.2) Q
    refine Wp.br rfl (fun (c : y138.1 = 0) => ?_) (fun (c : ¬ (y138.1 = 0)) => ?_)
    · replace h := fps c h
      refine Wp.run 1 (f' := (d + 5, 235, 161, 0, 0, [_, _, _, _], [fI 0])) (h' := (156, fjl L, y138.2)) rfl trivial ?_
      obtain rfl := Option.some.inj h
      exact Wp.done rfl (by decide) H
    · replace h := fng c h
      exact s_X12_record_j144_ok h H
theorem s_X12_record_j128_fr {M : fM} {l1 l2 : Int} {r : (Int × fM)} (h : s_X12_record_j128 M l1 l2 = some r) : fSame s_X12_record_mods M r.2 := by
  unfold s_X12_record_j128 at h
  by_cases c : ¬ l1 = 3
  · replace h := fps c h
    exact fs_trans fs_refl (s_X12_record_j144_fr h)
  · replace h := fng c h
    obtain ⟨y138, hy, h⟩ := fbd h
    have k138 := fs_trans (l := s_X12_record_mods) fs_refl (fs_mono (l := s_X12_takes_mods) (by decide) (s_X12_takes_fr hy))
    by_cases c : y138.1 = 0
    · replace h := fps c h
      obtain rfl := Option.some.inj h
      exact k138
    · replace h := fng c h
      exact fs_trans k138 (s_X12_record_j144_fr h)
noncomputable def s_X12_record_j114 (M : fM) (l1 l2 : Int) : Option (Int × fM) :=
  if ¬ l1 = 2 then
    s_X12_record_j128 M l1 l2
  else
    (s_X12_takes M 0 3).bind fun y122 =>
      if y122.1 = 0 then
        some (0, y122.2)
      else
        s_X12_record_j128 y122.2 l1 l2
theorem s_X12_record_j114_ok {d L : Nat} {M : fM} {l1 l2 : Int} {o3 : Option fV} {r : (Int × fM)} {Q : fO → fH → Prop} (h : s_X12_record_j114 M l1 l2 = some r) (H : Q (oI r.1) (156, fjl L, r.2)) : Wp (d + 5, 235, 114, 0, 0, [some (fA 122), some (fI l1), some (fI l2), o3], []) (156, fjl L, M) Q := by
  unfold s_X12_record_j114 at h
  refine Wp.run 2 (f' := (d + 5, 235, 116, 0, 0, [some (fA 122), some (fI l1), some (fI l2), _], [fI 2, fI l1])) (h' := (156, fjl L, M)) rfl trivial ?_
  refine Wp.br rfl (fun (c : ¬ l1 = 2) => ?_) (fun (c : ¬ (¬ l1 = 2)) => ?_)
  · replace h := fps c h
    exact s_X12_record_j128_ok h H
  · replace h := fng c h
    refine Wp.run 3 (f' := (d + 5, 235, 122, 0, 0, [some (fA 122), some (fI l1), some (fI l2), _], [fI 3, fI 0, fA 122])) (h' := (156, fjl L, M)) rfl trivial ?_
    obtain ⟨y122, hy, h⟩ := fbd h
    refine Wp.call rfl (by decide) (s_X12_takes_ok (d := d + 2) hy ?_)
    show Wp (d + 5, 235, 125, 0, 0, [some (fA 122), some (fI l1), some (fI l2), _], [fI y122.1]) (156, fjl L, y122.2) Q
    refine Wp.br rfl (fun (c : y122.1 = 0) => ?_) (fun (c : ¬ (y122.1 = 0)) => ?_)
    · replace h := fps c h
      refine Wp.run 1 (f' := (d + 5, 235, 161, 0, 0, [_, _, _, _], [fI 0])) (h' := (156, fjl L, y122.2)) rfl trivial ?_
      obtain rfl := Option.some.inj h
      exact Wp.done rfl (by decide) H
    · replace h := fng c h
      exact s_X12_record_j128_ok h H
theorem s_X12_record_j114_fr {M : fM} {l1 l2 : Int} {r : (Int × fM)} (h : s_X12_record_j114 M l1 l2 = some r) : fSame s_X12_record_mods M r.2 := by
  unfold s_X12_record_j114 at h
  by_cases c : ¬ l1 = 2
  · replace h := fps c h
    exact fs_trans fs_refl (s_X12_record_j128_fr h)
  · replace h := fng c h
    obtain ⟨y122, hy, h⟩ := fbd h
    have k122 := fs_trans (l := s_X12_record_mods) fs_refl (fs_mono (l := s_X12_takes_mods) (by decide) (s_X12_takes_fr hy))
    by_cases c : y122.1 = 0
    · replace h := fps c h
      obtain rfl := Option.some.inj h
      exact k122
    · replace h := fng c h
      exact fs_trans k122 (s_X12_record_j128_fr h)
noncomputable def s_X12_record_j86 (M : fM) (l1 l2 l3 : Int) : Option (Int × fM) :=
  if fin (l2 + 1) ∧ (0 ≤ (l2 + 1) ∧ (l2 + 1) < 3800) then
    (s_X12_next (fup M 125 (l2 + 1).toNat l3)).bind fun y96 =>
      if ¬ l1 = 0 then
        s_X12_record_j114 y96.2 l1 l2
      else
        (s_X12_takesName y96.2 0 1).bind fun y106 =>
          if ¬ y106.1 = 0 then
            s_X12_record_j114 y106.2 l1 l2
          else
            some (0, y106.2)
  else none
theorem s_X12_record_j86_ok {d L : Nat} {M : fM} {l1 l2 l3 : Int} {r : (Int × fM)} {Q : fO → fH → Prop} (h : s_X12_record_j86 M l1 l2 l3 = some r) (H : Q (oI r.1) (156, fjl L, r.2)) : Wp (d + 5, 235, 86, 0, 0, [some (fA 122), some (fI l1), some (fI l2), some (fI l3)], []) (156, fjl L, M) Q := by
  unfold s_X12_record_j86 at h
  obtain ⟨⟨g0, g1⟩, h⟩ := fgd h
  refine Wp.run 8 (P := [0 ≤ (fw (l2 + 1)) ∧ (fw (l2 + 1)) < 3800]) (f' := (d + 5, 235, 96, 0, 0, [some (fA 122), some (fI l1), some (fI l2), _], [fA 122])) (h' := (156, fjl L, (fup M 125 (fw (l2 + 1)).toNat l3))) rfl ?_ ?_
  · rw [fw_id g0]; exact g1
  rw [fw_id g0]
  obtain ⟨y96, hy, h⟩ := fbd h
  refine Wp.call rfl (by decide) (s_X12_next_ok (d := d + 3) hy ?_)
  show Wp (d + 5, 235, 99, 0, 0, [some (fA 122), some (fI l1), some (fI l2), _], []) (156, fjl L, y96.2) Q
  refine Wp.run 1 (f' := (d + 5, 235, 100, 0, 0, [some (fA 122), some (fI l1), some (fI l2), _], [fI l1])) (h' := (156, fjl L, y96.2)) rfl trivial ?_
  refine Wp.br rfl (fun (c : ¬ l1 = 0) => ?_) (fun (c : ¬ (¬ l1 = 0)) => ?_)
  · replace h := fps c h
    exact s_X12_record_j114_ok h H
  · replace h := fng c h
    refine Wp.run 3 (f' := (d + 5, 235, 106, 0, 0, [some (fA 122), some (fI l1), some (fI l2), _], [fI 1, fI 0, fA 122])) (h' := (156, fjl L, y96.2)) rfl trivial ?_
    obtain ⟨y106, hy, h⟩ := fbd h
    refine Wp.call rfl (by decide) (s_X12_takesName_ok (d := d + 2) hy ?_)
    show Wp (d + 5, 235, 109, 0, 0, [some (fA 122), some (fI l1), some (fI l2), _], [fI y106.1]) (156, fjl L, y106.2) Q
    refine Wp.br rfl (fun (c : ¬ y106.1 = 0) => ?_) (fun (c : ¬ (¬ y106.1 = 0)) => ?_)
    · replace h := fps c h
      exact s_X12_record_j114_ok h H
    · replace h := fng c h
      refine Wp.run 1 (f' := (d + 5, 235, 113, 0, 0, [_, _, _, _], [fI 0])) (h' := (156, fjl L, y106.2)) rfl trivial ?_
      obtain rfl := Option.some.inj h
      exact Wp.done rfl (by decide) H
theorem s_X12_record_j86_fr {M : fM} {l1 l2 l3 : Int} {r : (Int × fM)} (h : s_X12_record_j86 M l1 l2 l3 = some r) : fSame s_X12_record_mods M r.2 := by
  unfold s_X12_record_j86 at h
  replace h := (fgd h).2
  obtain ⟨y96, hy, h⟩ := fbd h
  have k96 := fs_trans (l := s_X12_record_mods) (fs_up fs_refl (.inl (by decide))) (fs_mono (l := s_X12_next_mods) (by decide) (s_X12_next_fr hy))
  by_cases c : ¬ l1 = 0
  · replace h := fps c h
    exact fs_trans k96 (s_X12_record_j114_fr h)
  · replace h := fng c h
    obtain ⟨y106, hy, h⟩ := fbd h
    have k106 := fs_trans (l := s_X12_record_mods) k96 (fs_mono (l := s_X12_takesName_mods) (by decide) (s_X12_takesName_fr hy))
    by_cases c : ¬ y106.1 = 0
    · replace h := fps c h
      exact fs_trans k106 (s_X12_record_j114_fr h)
    · replace h := fng c h
      obtain rfl := Option.some.inj h
      exact k106
noncomputable def s_X12_record (M : fM) (l1 l2 : Int) : Option (Int × fM) :=
  (s_X12_record_l2 l1 l2 (0, M)).bind fun e2 =>
    if (0 ≤ l2 ∧ l2 < 3800) then
      (s_X12_next (fup e2 125 (l2).toNat l1)).bind fun y31 =>
        (s_X12_isName y31.2).bind fun y35 =>
          if ¬ y35 = 0 then
            (s_X12_find y31.2 0 0).bind fun y50 =>
              if y50 < 0 then
                s_X12_record_j80 y31.2
              else
                if ¬ l1 = 5 then
                  s_X12_record_j86 y31.2 l1 l2 y50
                else
                  if fin (10 * y50) ∧ fin (175 + (10 * y50)) ∧ (0 ≤ (175 + (10 * y50)) ∧ (175 + (10 * y50)) < 1290) then
                    if (y31.2 124 (175 + (10 * y50)).toNat) = 2 then
                      s_X12_record_j86 y31.2 l1 l2 y50
                    else
                      s_X12_record_j80 y31.2
                  else none
          else
            (s_X12_bad y31.2 1).bind fun y43 =>
              if b01 y43.1 then
                some (y43.1, y43.2)
              else none
    else none
theorem s_X12_record_ok {d L : Nat} {M : fM} {l1 l2 : Int} {r : (Int × fM)} {Q : fO → fH → Prop} (h : s_X12_record M l1 l2 = some r) (H : Q (oI r.1) (156, fjl L, r.2)) : Wp (d + 5, 235, 0, 0, 0, [some (fA 122), some (fI l1), some (fI l2), none], []) (156, fjl L, M) Q := by
  unfold s_X12_record at h
  refine Wp.run 2 (f' := (d + 5, 235, 2, 0, 0, [some (fA 122), some (fI l1), some (fI l2), some (fI 0)], [])) (h' := (156, fjl L, M)) rfl trivial ?_
  obtain ⟨e2, hy, h⟩ := fbd h
  refine s_X12_record_l2_ok hy (fun x u3 ex => ?_)
  cases ex
  show Wp (d + 5, 235, 23, 0, 0, [some (fA 122), some (fI l1), some (fI l2), u3], []) (156, fjl L, e2) Q
  obtain ⟨g0, h⟩ := fgd h
  refine Wp.run 6 (P := [0 ≤ l2 ∧ l2 < 3800]) (f' := (d + 5, 235, 31, 0, 0, [some (fA 122), some (fI l1), some (fI l2), _], [fA 122])) (h' := (156, fjl L, (fup e2 125 (l2).toNat l1))) rfl ?_ ?_
  · exact g0
  obtain ⟨y31, hy, h⟩ := fbd h
  refine Wp.call rfl (by decide) (s_X12_next_ok (d := d + 3) hy ?_)
  show Wp (d + 5, 235, 34, 0, 0, [some (fA 122), some (fI l1), some (fI l2), _], []) (156, fjl L, y31.2) Q
  refine Wp.run 1 (f' := (d + 5, 235, 35, 0, 0, [some (fA 122), some (fI l1), some (fI l2), _], [fA 122])) (h' := (156, fjl L, y31.2)) rfl trivial ?_
  obtain ⟨y35, hy, h⟩ := fbd h
  refine Wp.call rfl (by decide) (s_X12_isName_ok (d := d + 4) hy ?_)
  show Wp (d + 5, 235, 38, 0, 0, [some (fA 122), some (fI l1), some (fI l2), _], [fI y35]) (156, fjl L, y31.2) Q
  refine Wp.br rfl (fun (c : ¬ y35 = 0) => ?_) (fun (c : ¬ (¬ y35 = 0)) => ?_)
  · replace h := fps c h
    refine Wp.run 3 (f' := (d + 5, 235, 50, 0, 0, [some (fA 122), some (fI l1), some (fI l2), _], [fI 0, fI 0, fA 122])) (h' := (156, fjl L, y31.2)) rfl trivial ?_
    obtain ⟨y50, hy, h⟩ := fbd h
    refine Wp.call rfl (by decide) (s_X12_find_ok (d := d + 4) hy ?_)
    show Wp (d + 5, 235, 53, 0, 0, [some (fA 122), some (fI l1), some (fI l2), _], [fI y50]) (156, fjl L, y31.2) Q
    refine Wp.run 2 (f' := (d + 5, 235, 55, 0, 0, [some (fA 122), some (fI l1), some (fI l2), some (fI y50)], [fI y50])) (h' := (156, fjl L, y31.2)) rfl trivial ?_
    refine Wp.br rfl (fun (c : y50 < 0) => ?_) (fun (c : ¬ (y50 < 0)) => ?_)
    · replace h := fps c h
      exact s_X12_record_j80_ok h H
    · replace h := fng c h
      refine Wp.run 2 (f' := (d + 5, 235, 60, 0, 0, [some (fA 122), some (fI l1), some (fI l2), some (fI y50)], [fI 5, fI l1])) (h' := (156, fjl L, y31.2)) rfl trivial ?_
      refine Wp.br rfl (fun (c : ¬ l1 = 5) => ?_) (fun (c : ¬ (¬ l1 = 5)) => ?_)
      · replace h := fps c h
        exact s_X12_record_j86_ok h H
      · replace h := fng c h
        obtain ⟨⟨g0, g1, g2⟩, h⟩ := fgd h
        refine Wp.run 9 (P := [0 ≤ (fw (175 + (fw (10 * y50)))) ∧ (fw (175 + (fw (10 * y50)))) < 1290]) (f' := (d + 5, 235, 77, 0, 0, [some (fA 122), some (fI l1), some (fI l2), some (fI y50)], [fI 2, fI (y31.2 124 (fw (175 + (fw (10 * y50)))).toNat)])) (h' := (156, fjl L, y31.2)) rfl ?_ ?_
        · rw [fw_id g0, fw_id g1]; exact g2
        rw [fw_id g0, fw_id g1]
        refine Wp.br rfl (fun (c : (y31.2 124 (175 + (10 * y50)).toNat) = 2) => ?_) (fun (c : ¬ ((y31.2 124 (175 + (10 * y50)).toNat) = 2)) => ?_)
        · replace h := fps c h
          exact s_X12_record_j86_ok h H
        · replace h := fng c h
          exact s_X12_record_j80_ok h H
  · replace h := fng c h
    refine Wp.run 2 (f' := (d + 5, 235, 43, 0, 0, [_, _, _, _], [fI 1, fA 122])) (h' := (156, fjl L, y31.2)) rfl trivial ?_
    obtain ⟨y43, hy, h⟩ := fbd h
    refine Wp.call rfl (by decide) (s_X12_bad_ok (d := d + 4) hy ?_)
    show Wp (d + 5, 235, 46, 0, 0, [_, _, _, _], [fI y43.1]) (156, fjl L, y43.2) Q
    obtain ⟨g0, h⟩ := fgd h
    obtain rfl := Option.some.inj h
    exact Wp.done rfl ⟨g0, by decide, by decide, by decide⟩ H
theorem s_X12_record_fr {M : fM} {l1 l2 : Int} {r : (Int × fM)} (h : s_X12_record M l1 l2 = some r) : fSame s_X12_record_mods M r.2 := by
  unfold s_X12_record at h
  obtain ⟨e2, hy, h⟩ := fbd h
  have k2 := fs_trans (l := s_X12_record_mods) fs_refl (s_X12_record_l2_fr hy)
  replace h := (fgd h).2
  obtain ⟨y31, hy, h⟩ := fbd h
  have k31 := fs_trans (l := s_X12_record_mods) (fs_up k2 (.inl (by decide))) (fs_mono (l := s_X12_next_mods) (by decide) (s_X12_next_fr hy))
  obtain ⟨y35, hy, h⟩ := fbd h
  by_cases c : ¬ y35 = 0
  · replace h := fps c h
    obtain ⟨y50, hy, h⟩ := fbd h
    by_cases c : y50 < 0
    · replace h := fps c h
      exact fs_trans k31 (s_X12_record_j80_fr h)
    · replace h := fng c h
      by_cases c : ¬ l1 = 5
      · replace h := fps c h
        exact fs_trans k31 (s_X12_record_j86_fr h)
      · replace h := fng c h
        replace h := (fgd h).2
        by_cases c : (y31.2 124 (175 + (10 * y50)).toNat) = 2
        · replace h := fps c h
          exact fs_trans k31 (s_X12_record_j86_fr h)
        · replace h := fng c h
          exact fs_trans k31 (s_X12_record_j80_fr h)
  · replace h := fng c h
    obtain ⟨y43, hy, h⟩ := fbd h
    have k43 := fs_trans (l := s_X12_record_mods) k31 (fs_mono (l := s_X12_bad_mods) (by decide) (s_X12_bad_fr hy))
    replace h := (fgd h).2
    obtain rfl := Option.some.inj h
    exact k43
