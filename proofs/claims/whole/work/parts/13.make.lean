/-! ===== making cells, copying, constants, switches, ends ===== -/
theorem fR_ref {G : fG} {k : Nat} (h : k < fNC) : fR G (fA k) (.ref (gN G + k)) := by
  have h156 : fNC = 156 := rfl
  show if k = 9999 then ∃ q, Value.ref (gN G + k) = .ref q else Value.ref (gN G + k) = .ref (fAd G k)
  rw [if_neg (by omega), fAd_lt h (Nat.le_refl _)]
/-- the next cell's address -/
theorem f_next {G : fG} {h : fH} {H1 : Heap} {q : Nat} {x : va_E} {s T : State} {p : Program} {l : Launch} {e : Env} {R : Room} {m : MethodId} {args : Array Value} {below : List Frame} {meth : Method} {c : Code} {locs : List Loc} {cells slots : Nat} (hP : va_P (gD G) vwCl (fWs G h ++ [(q, x)]) H1) (hD : va_D (fIn G) (fWs G h ++ [(q, x)])) (hc : s.heap.size + cells ≤ gN G + h.1) (hT : T.heap = H1) (X : Stand p l e R s m args below meth c T locs (cells + 1) slots) : q = gN G + h.1 := by
  have hl : (fWs G h).length = h.1 := by simp [fWs]
  have hq : (fWs G h ++ [(q, x)])[h.1]? = some (q, x) := by
    rw [List.getElem?_append_right (by rw [hl]; exact Nat.le_refl _), hl, Nat.sub_self]
    rfl
  have h1 : q < H1.size := (hP h.1 _ hq).lt
  have h2 : gN G ≤ q := hD.2 h.1 _ hq
  have h3 := X.heapSize
  rw [hT] at h3
  rcases Nat.lt_or_ge (q - gN G) h.1 with h4 | h4
  · have h5 : (fWs G h ++ [(q, x)])[q - gN G]? = some (gN G + (q - gN G), fE G h (q - gN G)) := by
      rw [List.getElem?_append_left (by rw [hl]; exact h4), fWs_get h4]
    have h6 := hD.1 _ _ _ _ h5 hq (by show gN G + (q - gN G) = q; omega)
    omega
  · omega
theorem fRg_clr {G : fG} {n k : Nat} {J : Nat → Nat → Nat} {M : fM} (hr : fRg G (n, J, M)) (hk : k < 1000) : fRg G (n + 1, fclN J k, fclr M k) := by
  refine ⟨fun a b => ?_, fun a b ha => ?_, ?_⟩
  · show (fkd a b = 1 → (Int64.ofInt (fclr M k a b)).toInt = fclr M k a b) ∧ (fkd a b ≠ 1 → (Int32.ofInt (fclr M k a b)).toInt = fclr M k a b)
    unfold fclr
    by_cases hab : a = k
    · rw [if_pos hab]
      exact ⟨fun _ => rfl, fun _ => rfl⟩
    · rw [if_neg hab]
      exact hr.1 a b
  · show fclr M k a b = _
    unfold fclr
    rw [if_neg (by omega)]
    exact hr.2.1 a b ha
  · show fclN J k 1000 0 = _
    unfold fclN
    rw [if_neg (by omega)]
    exact hr.2.2
theorem fclr_ne (M : fM) {k j : Nat} (h : j ≠ k) : fclr M k j = M j := by
  funext b
  simp [fclr, h]
theorem fclN_ne (J : Nat → Nat → Nat) {k j : Nat} (h : j ≠ k) : fclN J k j = J j := by
  funext b
  simp [fclN, h]
theorem fobj_clr {G : fG} {n : Nat} {J : Nat → Nat → Nat} {M : fM} {k : Nat} : ∀ (ks : List Nat) (f j kd : Nat), ks[j]? = some kd → (fobj G (n + 1, fclN J k, fclr M k) k f ks)[j]? = some (match kd with
  | 0 => .int 0
  | 1 => .long 0
  | _ => .null) := by
  intro ks f j kd hj
  rw [fobj_get ks f j kd hj]
  unfold fval
  rw [show (n + 1, fclN J k, fclr M k).2.2 k (f + j) = 0 from by simp [fclr], show (n + 1, fclN J k, fclr M k).2.1 k (f + j) = 0 from by simp [fclN]]
  rcases kd with _ | _ | kd <;> rfl
section FMK
variable {G : fG} {md : fD} {p : Program} {l : Launch} {e : Env} {R : Room} {s : State} {m : MethodId} {args : Array Value} {below : List Frame} {meth : Method} {c : Code} {Q : fO → fH → Prop} {cu su pc : Nat} {ls : fL} {t : List fV} {n : Nat} {J : Nat → Nat → Nat} {M : fM}
/-- entry x of own's pool is a class of ours -/
def fCls (own : String) (x ci ns : Nat) : Prop := ∃ (C : String) (T : u_T), fCl ci C T ns ∧ Cond.classLink own x C ∈ fTb ∧ Cond.instantiable C ns ∈ fTb ∧ Cond.initialized C ∈ fTb ∧ ∃ ty : Nat → FieldType, ∀ k, k < ns → parseFieldDescriptor (T k).2.2.1 = some (ty k) ∧ ∃ kd, (fkin ci)[k]? = some kd ∧ fTyk kd (ty k)
theorem fs_new (C : fCx G md p l s m args meth c) {x ci ns : Nat} (hX : fCls md.1.cls x ci ns) (hd : decode md.2.1 pc = .ok (.new x, 3)) (hn : n < fNC) (hl : flay n = some (.inl ci)) (hr1 : cu + 1 ≤ R.cells) (hr2 : su + ns ≤ R.slots) (k : fGo G md p l e R s m args below meth c Q (cu + 1) (su + ns) (pc + 3) ls (fA n :: t) (n + 1, fclN J n, fclr M n)) : fGo G md p l e R s m args below meth c Q cu su pc ls t (n, J, M) := by
  intro hc H locs A S hW hS hL hR
  obtain ⟨hx, hb, -, -, -, hown, hts, hK, hOld, hN0, -⟩ := id C
  obtain ⟨hP, hrg, hnc⟩ := id hW
  obtain ⟨Cn, T, hC, h1, h2, h3, ty, hty⟩ := hX
  have h156 : fNC = 156 := rfl
  refine va_new (D := gD G) (ci := ci) (C := Cn) (T := T) (N := ns) (fs := fobj G (n + 1, fclN J n, fclr M n) n 0 (fkin ci)) hx hb hts hC.2.1 ty (fun k hk => (hty k hk).1) hown (hts _ h1) (hts _ h2) (hts _ h3) hK hP (fWs_D G _) hS (fun q hq => Nat.le_trans hN0 hq) hC.1 (fun j hj => ?_) hr1 hr2 hd (fun q H1 hP1 hD1 hS1 => ?_)
  · obtain ⟨-, kd, hkd, htk⟩ := hty j hj
    have e1 := fobj_clr (G := G) (n := n) (J := J) (M := M) (k := n) (fkin ci) 0 j kd hkd
    unfold vp_V
    rw [List.getD_eq_getElem?_getD, e1]
    rcases kd with _ | _ | kd
    · rw [show ty j = .int from htk]; rfl
    · rw [show ty j = .long from htk]; rfl
    · rcases (show (∃ n, ty j = .object n) ∨ ∃ t, ty j = .array t from htk) with ⟨a, ha⟩ | ⟨a, ha⟩ <;> rw [ha] <;> rfl
  · intro T1 hT1 X1
    have hq := f_next hP1 hD1 (hc hn) hT1 X1
    subst hq
    rw [fWs_push (h := (n, J, M)) (h' := (n + 1, fclN J n, fclr M n)) rfl (fE_o hl) (fun j hj => ⟨fclN_ne J (by have : j < n := hj; omega), fclr_ne M (by have : j < n := hj; omega)⟩)] at hP1
    refine k (fun _ => by have := hc hn; show s.heap.size + (cu + 1) ≤ gN G + (n + 1); have e9 : (n, J, M).1 = n := rfl; omega) H1 locs A (Value.ref (gN G + n) :: S) ⟨hP1, fRg_clr hrg (by omega), by show n + 1 ≤ fNC; omega⟩ hS1 hL ⟨?_, hR⟩ T1 hT1 X1
    exact fR_ref hn
theorem f_K5 {G : fG} {cA : ClassId} {ty : FieldType} {s : State} (hK : va_K (gD G) vwCl (fTys G ++ [(cA, ty)]) s) {i : Nat} (hi : (fTys G)[i]? = some (gC G i, ty)) (hn : ∀ C, ty ≠ .object C) : cA = gC G i := by
  have hl : (fTys G).length = 6 := rfl
  have h1 := (hK.2 6 (cA, ty) (by rw [List.getElem?_append_right (by rw [hl]; exact Nat.le_refl _), hl]; rfl)).2
  have hlt : i < 6 := (List.getElem?_eq_some_iff.mp hi).1
  have h2 := (hK.2 i (gC G i, ty) (by rw [List.getElem?_append_left (by rw [hl]; exact hlt)]; exact hi)).2
  unfold va_RA at h1 h2
  cases ty
  all_goals first | exact Option.some.inj (h1.symm.trans h2) | exact absurd rfl (hn _)
theorem f_K6 {G : fG} {cA : ClassId} {C : String} {s : State} (hK : va_K (gD G) vwCl (fTys G ++ [(cA, .object C)]) s) {i : Nat} (hi : (fTys G)[i]? = some (gC G i, .object C)) : cA = gC G i := by
  have hl : (fTys G).length = 6 := rfl
  obtain ⟨-, -, -, -, -, h1⟩ := (hK.2 6 (cA, .object C) (by rw [List.getElem?_append_right (by rw [hl]; exact Nat.le_refl _), hl]; rfl)).2
  have hlt : i < 6 := (List.getElem?_eq_some_iff.mp hi).1
  obtain ⟨-, -, -, -, -, h2⟩ := (hK.2 i (gC G i, .object C) (by rw [List.getElem?_append_left (by rw [hl]; exact hlt)]; exact hi)).2
  exact Option.some.inj (h1.symm.trans h2)
theorem fs_newa_int (C : fCx G md p l s m args meth c) {z : Int} {len : Nat} (hd : decode md.2.1 pc = .ok (.newarray .int, 2)) (hw : Cond.arrayClass .int ∈ fTb) (hn : n < fNC) (hl : flay n = some (.inr (0, len))) (hz : z = (len : Int)) (hbig : len ≤ 40000) (hr1 : cu + 1 ≤ R.cells) (hr2 : su + len ≤ R.slots) (k : fGo G md p l e R s m args below meth c Q (cu + 1) (su + len) (pc + 2) ls (fA n :: t) (n + 1, fclN J n, fclr M n)) : fGo G md p l e R s m args below meth c Q cu su pc ls (fI z :: t) (n, J, M) := by
  intro hc H locs A S hW hS hL hR
  obtain ⟨a, U, rfl, ha1, hR1⟩ := fSR_c hR
  obtain ⟨hx, hb, -, -, -, hown, hts, hK, hOld, hN0, -⟩ := id C
  obtain ⟨hP, hrg, hnc⟩ := id hW
  obtain ⟨i, rfl, rfl⟩ := fR_i ha1
  have h156 : fNC = 156 := rfl
  have hi1 : ¬ i < 0 := by
    intro q
    have := Int32.lt_iff_toInt_lt.mp q
    have z0 : (0 : Int32).toInt = 0 := rfl
    omega
  have hi2 : i.toNatClampNeg = len := by rw [← f_nat]; omega
  refine va_newa (atype := .int) (ty := .int) (N' := len) (a0 := (len, .inl (fun _ => 0))) hx hb (hts _ hw) rfl hK hP (fWs_D G _) hS (fun q hq => Nat.le_trans hN0 hq) (fun cA => rfl) hi1 hi2 (by show len * 4 ≤ _; omega) hr1 hr2 hd (fun q cA H1 hK1 hP1 hD1 hS1 => ?_)
  intro T1 hT1 X1
  have hq := f_next hP1 hD1 (hc hn) hT1 X1
  subst hq
  obtain rfl := f_K5 (i := 0) hK1 rfl (fun C q => by cases q)
  rw [fWs_push (h := (n, J, M)) (h' := (n + 1, fclN J n, fclr M n)) rfl (by
    rw [fE_a hl]
    refine congrArg (fun f => Sum.inl (gC G 0, len, f)) ?_
    show farr G _ n 0 = Sum.inl _
    rw [farr_i (by decide) (by decide) (by decide)]
    refine congrArg Sum.inl (funext fun j => ?_)
    show Int32.ofInt (fclr M n n j) = 0
    simp [fclr]) (fun j hj => ⟨fclN_ne J (by have : j < n := hj; omega), fclr_ne M (by have : j < n := hj; omega)⟩)] at hP1
  refine k (fun _ => by have := hc hn; show s.heap.size + (cu + 1) ≤ gN G + (n + 1); have e9 : (n, J, M).1 = n := rfl; omega) H1 locs A (Value.ref (gN G + n) :: U) ⟨hP1, fRg_clr hrg (by omega), by show n + 1 ≤ fNC; omega⟩ hS1 hL ⟨?_, hR1⟩ T1 hT1 X1
  exact fR_ref hn
theorem fs_newa_long (C : fCx G md p l s m args meth c) {z : Int} {len : Nat} (hd : decode md.2.1 pc = .ok (.newarray .long, 2)) (hw : Cond.arrayClass .long ∈ fTb) (hn : n < fNC) (hl : flay n = some (.inr (1, len))) (hz : z = (len : Int)) (hbig : len ≤ 40000) (hr1 : cu + 1 ≤ R.cells) (hr2 : su + len ≤ R.slots) (k : fGo G md p l e R s m args below meth c Q (cu + 1) (su + len) (pc + 2) ls (fA n :: t) (n + 1, fclN J n, fclr M n)) : fGo G md p l e R s m args below meth c Q cu su pc ls (fI z :: t) (n, J, M) := by
  intro hc H locs A S hW hS hL hR
  obtain ⟨a, U, rfl, ha1, hR1⟩ := fSR_c hR
  obtain ⟨hx, hb, -, -, -, hown, hts, hK, hOld, hN0, -⟩ := id C
  obtain ⟨hP, hrg, hnc⟩ := id hW
  obtain ⟨i, rfl, rfl⟩ := fR_i ha1
  have h156 : fNC = 156 := rfl
  have hi1 : ¬ i < 0 := by
    intro q
    have := Int32.lt_iff_toInt_lt.mp q
    have z0 : (0 : Int32).toInt = 0 := rfl
    omega
  have hi2 : i.toNatClampNeg = len := by rw [← f_nat]; omega
  refine va_newa (atype := .long) (ty := .long) (N' := len) (a0 := (len, .inr (.inl (fun _ => 0)))) hx hb (hts _ hw) rfl hK hP (fWs_D G _) hS (fun q hq => Nat.le_trans hN0 hq) (fun cA => rfl) hi1 hi2 (by show len * 8 ≤ _; omega) hr1 hr2 hd (fun q cA H1 hK1 hP1 hD1 hS1 => ?_)
  intro T1 hT1 X1
  have hq := f_next hP1 hD1 (hc hn) hT1 X1
  subst hq
  obtain rfl := f_K5 (i := 1) hK1 rfl (fun C q => by cases q)
  rw [fWs_push (h := (n, J, M)) (h' := (n + 1, fclN J n, fclr M n)) rfl (by
    rw [fE_a hl]
    refine congrArg (fun f => Sum.inl (gC G 1, len, f)) ?_
    show Sum.inr (Sum.inl _) = Sum.inr (Sum.inl _)
    refine congrArg (fun f => Sum.inr (Sum.inl f)) (funext fun j => ?_)
    show Int64.ofInt (fclr M n n j) = 0
    simp [fclr]) (fun j hj => ⟨fclN_ne J (by have : j < n := hj; omega), fclr_ne M (by have : j < n := hj; omega)⟩)] at hP1
  refine k (fun _ => by have := hc hn; show s.heap.size + (cu + 1) ≤ gN G + (n + 1); have e9 : (n, J, M).1 = n := rfl; omega) H1 locs A (Value.ref (gN G + n) :: U) ⟨hP1, fRg_clr hrg (by omega), by show n + 1 ≤ fNC; omega⟩ hS1 hL ⟨?_, hR1⟩ T1 hT1 X1
  exact fR_ref hn
theorem fs_newa_byte (C : fCx G md p l s m args meth c) {z : Int} {len : Nat} (hd : decode md.2.1 pc = .ok (.newarray .byte, 2)) (hw : Cond.arrayClass .byte ∈ fTb) (hn : n < fNC) (hl : flay n = some (.inr (2, len))) (hz : z = (len : Int)) (hbig : len ≤ 40000) (hr1 : cu + 1 ≤ R.cells) (hr2 : su + len ≤ R.slots) (k : fGo G md p l e R s m args below meth c Q (cu + 1) (su + len) (pc + 2) ls (fA n :: t) (n + 1, fclN J n, fclr M n)) : fGo G md p l e R s m args below meth c Q cu su pc ls (fI z :: t) (n, J, M) := by
  intro hc H locs A S hW hS hL hR
  obtain ⟨a, U, rfl, ha1, hR1⟩ := fSR_c hR
  obtain ⟨hx, hb, -, -, -, hown, hts, hK, hOld, hN0, -⟩ := id C
  obtain ⟨hP, hrg, hnc⟩ := id hW
  obtain ⟨i, rfl, rfl⟩ := fR_i ha1
  have h156 : fNC = 156 := rfl
  have hi1 : ¬ i < 0 := by
    intro q
    have := Int32.lt_iff_toInt_lt.mp q
    have z0 : (0 : Int32).toInt = 0 := rfl
    omega
  have hi2 : i.toNatClampNeg = len := by rw [← f_nat]; omega
  refine va_newa (atype := .byte) (ty := .byte) (N' := len) (a0 := (len, .inl (fun _ => 0))) hx hb (hts _ hw) rfl hK hP (fWs_D G _) hS (fun q hq => Nat.le_trans hN0 hq) (fun cA => rfl) hi1 hi2 (by show len * 1 ≤ _; omega) hr1 hr2 hd (fun q cA H1 hK1 hP1 hD1 hS1 => ?_)
  intro T1 hT1 X1
  have hq := f_next hP1 hD1 (hc hn) hT1 X1
  subst hq
  obtain rfl := f_K5 (i := 2) hK1 rfl (fun C q => by cases q)
  rw [fWs_push (h := (n, J, M)) (h' := (n + 1, fclN J n, fclr M n)) rfl (by
    rw [fE_a hl]
    refine congrArg (fun f => Sum.inl (gC G 2, len, f)) ?_
    show farr G _ n 2 = Sum.inl _
    rw [farr_i (by decide) (by decide) (by decide)]
    refine congrArg Sum.inl (funext fun j => ?_)
    show Int32.ofInt (fclr M n n j) = 0
    simp [fclr]) (fun j hj => ⟨fclN_ne J (by have : j < n := hj; omega), fclr_ne M (by have : j < n := hj; omega)⟩)] at hP1
  refine k (fun _ => by have := hc hn; show s.heap.size + (cu + 1) ≤ gN G + (n + 1); have e9 : (n, J, M).1 = n := rfl; omega) H1 locs A (Value.ref (gN G + n) :: U) ⟨hP1, fRg_clr hrg (by omega), by show n + 1 ≤ fNC; omega⟩ hS1 hL ⟨?_, hR1⟩ T1 hT1 X1
  exact fR_ref hn
theorem fs_newa_boolean (C : fCx G md p l s m args meth c) {z : Int} {len : Nat} (hd : decode md.2.1 pc = .ok (.newarray .boolean, 2)) (hw : Cond.arrayClass .boolean ∈ fTb) (hn : n < fNC) (hl : flay n = some (.inr (3, len))) (hz : z = (len : Int)) (hbig : len ≤ 40000) (hr1 : cu + 1 ≤ R.cells) (hr2 : su + len ≤ R.slots) (k : fGo G md p l e R s m args below meth c Q (cu + 1) (su + len) (pc + 2) ls (fA n :: t) (n + 1, fclN J n, fclr M n)) : fGo G md p l e R s m args below meth c Q cu su pc ls (fI z :: t) (n, J, M) := by
  intro hc H locs A S hW hS hL hR
  obtain ⟨a, U, rfl, ha1, hR1⟩ := fSR_c hR
  obtain ⟨hx, hb, -, -, -, hown, hts, hK, hOld, hN0, -⟩ := id C
  obtain ⟨hP, hrg, hnc⟩ := id hW
  obtain ⟨i, rfl, rfl⟩ := fR_i ha1
  have h156 : fNC = 156 := rfl
  have hi1 : ¬ i < 0 := by
    intro q
    have := Int32.lt_iff_toInt_lt.mp q
    have z0 : (0 : Int32).toInt = 0 := rfl
    omega
  have hi2 : i.toNatClampNeg = len := by rw [← f_nat]; omega
  refine va_newa (atype := .boolean) (ty := .boolean) (N' := len) (a0 := (len, .inl (fun _ => 0))) hx hb (hts _ hw) rfl hK hP (fWs_D G _) hS (fun q hq => Nat.le_trans hN0 hq) (fun cA => rfl) hi1 hi2 (by show len * 1 ≤ _; omega) hr1 hr2 hd (fun q cA H1 hK1 hP1 hD1 hS1 => ?_)
  intro T1 hT1 X1
  have hq := f_next hP1 hD1 (hc hn) hT1 X1
  subst hq
  obtain rfl := f_K5 (i := 3) hK1 rfl (fun C q => by cases q)
  rw [fWs_push (h := (n, J, M)) (h' := (n + 1, fclN J n, fclr M n)) rfl (by
    rw [fE_a hl]
    refine congrArg (fun f => Sum.inl (gC G 3, len, f)) ?_
    show farr G _ n 3 = Sum.inl _
    rw [farr_i (by decide) (by decide) (by decide)]
    refine congrArg Sum.inl (funext fun j => ?_)
    show Int32.ofInt (fclr M n n j) = 0
    simp [fclr]) (fun j hj => ⟨fclN_ne J (by have : j < n := hj; omega), fclr_ne M (by have : j < n := hj; omega)⟩)] at hP1
  refine k (fun _ => by have := hc hn; show s.heap.size + (cu + 1) ≤ gN G + (n + 1); have e9 : (n, J, M).1 = n := rfl; omega) H1 locs A (Value.ref (gN G + n) :: U) ⟨hP1, fRg_clr hrg (by omega), by show n + 1 ≤ fNC; omega⟩ hS1 hL ⟨?_, hR1⟩ T1 hT1 X1
  exact fR_ref hn
theorem fs_newq_4 (C : fCx G md p l s m args meth c) {z : Int} {len x : Nat} (hd : decode md.2.1 pc = .ok (.anewarray x, 3)) (hw : Cond.classLink md.1.cls x "TunerRounds$House" ∈ fTb) (hn : n < fNC) (hl : flay n = some (.inr (4, len))) (hz : z = (len : Int)) (hbig : len ≤ 40000) (hr1 : cu + 1 ≤ R.cells) (hr2 : su + len ≤ R.slots) (k : fGo G md p l e R s m args below meth c Q (cu + 1) (su + len) (pc + 3) ls (fA n :: t) (n + 1, fclN J n, fclr M n)) : fGo G md p l e R s m args below meth c Q cu su pc ls (fI z :: t) (n, J, M) := by
  intro hc H locs A S hW hS hL hR
  obtain ⟨a, U, rfl, ha1, hR1⟩ := fSR_c hR
  obtain ⟨hx, hb, -, -, -, hown, hts, hK, hOld, hN0, -⟩ := id C
  obtain ⟨hP, hrg, hnc⟩ := id hW
  obtain ⟨i, rfl, rfl⟩ := fR_i ha1
  have h156 : fNC = 156 := rfl
  have hi1 : ¬ i < 0 := by
    intro q
    have := Int32.lt_iff_toInt_lt.mp q
    have z0 : (0 : Int32).toInt = 0 := rfl
    omega
  have hi2 : i.toNatClampNeg = len := by rw [← f_nat]; omega
  refine va_newq (C := "TunerRounds$House") (N' := len) hx hb hown (hts _ hw) hOld.2.2.2.2.2.1.1 hK hP (fWs_D G _) hS (fun q hq => Nat.le_trans hN0 hq) hi1 hi2 (by omega) hr1 hr2 hd (fun q cA H1 hK1 hP1 hD1 hS1 => ?_)
  intro T1 hT1 X1
  have hq := f_next hP1 hD1 (hc hn) hT1 X1
  subst hq
  obtain rfl := f_K6 (i := 4) hK1 rfl
  rw [fWs_push (h := (n, J, M)) (h' := (n + 1, fclN J n, fclr M n)) rfl (by
    rw [fE_a hl]
    refine congrArg (fun f => Sum.inl (gC G 4, len, f)) ?_
    show Sum.inr (Sum.inr (Sum.inr (Sum.inr _))) = Sum.inr (Sum.inr (Sum.inr (Sum.inr _)))
    refine congrArg (fun f => Sum.inr (Sum.inr (Sum.inr (Sum.inr f)))) (funext fun j => ?_)
    unfold fref
    rw [show (n + 1, fclN J n, fclr M n).2.1 n j = 0 from by simp [fclN]]) (fun j hj => ⟨fclN_ne J (by have : j < n := hj; omega), fclr_ne M (by have : j < n := hj; omega)⟩)] at hP1
  refine k (fun _ => by have := hc hn; show s.heap.size + (cu + 1) ≤ gN G + (n + 1); have e9 : (n, J, M).1 = n := rfl; omega) H1 locs A (Value.ref (gN G + n) :: U) ⟨hP1, fRg_clr hrg (by omega), by show n + 1 ≤ fNC; omega⟩ hS1 hL ⟨?_, hR1⟩ T1 hT1 X1
  exact fR_ref hn
theorem fs_newq_5 (C : fCx G md p l s m args meth c) {z : Int} {len x : Nat} (hd : decode md.2.1 pc = .ok (.anewarray x, 3)) (hw : Cond.classLink md.1.cls x "TunerRounds$Records" ∈ fTb) (hn : n < fNC) (hl : flay n = some (.inr (5, len))) (hz : z = (len : Int)) (hbig : len ≤ 40000) (hr1 : cu + 1 ≤ R.cells) (hr2 : su + len ≤ R.slots) (k : fGo G md p l e R s m args below meth c Q (cu + 1) (su + len) (pc + 3) ls (fA n :: t) (n + 1, fclN J n, fclr M n)) : fGo G md p l e R s m args below meth c Q cu su pc ls (fI z :: t) (n, J, M) := by
  intro hc H locs A S hW hS hL hR
  obtain ⟨a, U, rfl, ha1, hR1⟩ := fSR_c hR
  obtain ⟨hx, hb, -, -, -, hown, hts, hK, hOld, hN0, -⟩ := id C
  obtain ⟨hP, hrg, hnc⟩ := id hW
  obtain ⟨i, rfl, rfl⟩ := fR_i ha1
  have h156 : fNC = 156 := rfl
  have hi1 : ¬ i < 0 := by
    intro q
    have := Int32.lt_iff_toInt_lt.mp q
    have z0 : (0 : Int32).toInt = 0 := rfl
    omega
  have hi2 : i.toNatClampNeg = len := by rw [← f_nat]; omega
  refine va_newq (C := "TunerRounds$Records") (N' := len) hx hb hown (hts _ hw) hOld.2.2.2.2.2.1.2.1 hK hP (fWs_D G _) hS (fun q hq => Nat.le_trans hN0 hq) hi1 hi2 (by omega) hr1 hr2 hd (fun q cA H1 hK1 hP1 hD1 hS1 => ?_)
  intro T1 hT1 X1
  have hq := f_next hP1 hD1 (hc hn) hT1 X1
  subst hq
  obtain rfl := f_K6 (i := 5) hK1 rfl
  rw [fWs_push (h := (n, J, M)) (h' := (n + 1, fclN J n, fclr M n)) rfl (by
    rw [fE_a hl]
    refine congrArg (fun f => Sum.inl (gC G 5, len, f)) ?_
    show Sum.inr (Sum.inr (Sum.inr (Sum.inr _))) = Sum.inr (Sum.inr (Sum.inr (Sum.inr _)))
    refine congrArg (fun f => Sum.inr (Sum.inr (Sum.inr (Sum.inr f)))) (funext fun j => ?_)
    unfold fref
    rw [show (n + 1, fclN J n, fclr M n).2.1 n j = 0 from by simp [fclN]]) (fun j hj => ⟨fclN_ne J (by have : j < n := hj; omega), fclr_ne M (by have : j < n := hj; omega)⟩)] at hP1
  refine k (fun _ => by have := hc hn; show s.heap.size + (cu + 1) ≤ gN G + (n + 1); have e9 : (n, J, M).1 = n := rfl; omega) H1 locs A (Value.ref (gN G + n) :: U) ⟨hP1, fRg_clr hrg (by omega), by show n + 1 ≤ fNC; omega⟩ hS1 hL ⟨?_, hR1⟩ T1 hT1 X1
  exact fR_ref hn
theorem f_nneg {i : Int32} (h : 0 ≤ i.toInt) : ¬ i < 0 := by
  intro q
  have := Int32.lt_iff_toInt_lt.mp q
  have z0 : (0 : Int32).toInt = 0 := rfl
  omega
theorem fcpy_ne (M : fM) {k i q j n a : Nat} (h : a ≠ q) : fcpy M k i q j n a = M a := by
  funext b
  simp [fcpy, h]
theorem fRg_cpy {G : fG} {n : Nat} {J : Nat → Nat → Nat} {M : fM} {o i q j c : Nat} (hr : fRg G (n, J, M)) (hq : q < 1000) (hk : ∀ a b, fkd q a = 1 ↔ fkd o b = 1) : fRg G (n, J, fcpy M o i q j c) := by
  refine ⟨fun a b => ?_, fun a b ha => ?_, hr.2.2⟩
  · show (fkd a b = 1 → (Int64.ofInt (fcpy M o i q j c a b)).toInt = fcpy M o i q j c a b) ∧ (fkd a b ≠ 1 → (Int32.ofInt (fcpy M o i q j c a b)).toInt = fcpy M o i q j c a b)
    by_cases hab : a = q ∧ j ≤ b ∧ b < j + c
    · have e1 : fcpy M o i q j c a b = M o (i + (b - j)) := by simp [fcpy, hab]
      rw [e1]
      obtain ⟨rfl, -, -⟩ := hab
      exact ⟨fun w => (hr.1 o _).1 ((hk b _).mp w), fun w => (hr.1 o _).2 (fun w2 => w ((hk b _).mpr w2))⟩
    · have e1 : fcpy M o i q j c a b = M a b := by simp [fcpy, hab]
      rw [e1]
      exact hr.1 a b
  · show fcpy M o i q j c a b = _
    rw [fcpy_ne M (by omega)]
    exact hr.2.1 a b ha
theorem fSR_sum {G : fG} : ∀ {st : List fV} {S : List Value}, fSR G st S → (S.map fun v => v.category).sum = fsum st
  | [], [], _ => rfl
  | v :: t, x :: u, h => by
    rw [List.map_cons, List.sum_cons, fR_c h.1, fSR_sum h.2]
    rfl
  | [], _ :: _, h => h.elim
  | _ :: _, [], h => h.elim
def fAcp (own : String) (x : Nat) : Prop := Cond.methodLink own x arraycopyName ∈ fTb ∧ Cond.native arraycopyName ∈ fTb ∧ Cond.static arraycopyName ∈ fTb ∧ Cond.initialized "java/lang/System" ∈ fTb
theorem fs_copyi (C : fCx G md p l s m args meth c) {x q o : Nat} {i j cc : Int} (hX : fAcp md.1.cls x) (hd : decode md.2.1 pc = .ok (.invokestatic x, 3)) (hst : fsum t ≤ 8) (hRf : 1 ≤ R.frames) (hRl : 8 + (nativeFrameWords "java/lang/System" "arraycopy" 5 + 11) ≤ R.locals) (hq : q < n) {len lq : Nat} (hlq : flay q = some (.inr (0, lq))) (ho : o < n) (hl : flay o = some (.inr (0, len))) (hz : 0 ≤ i ∧ 0 ≤ j ∧ 0 ≤ cc ∧ i + cc ≤ (flenJ J o : Int) ∧ j + cc ≤ (flenJ J q : Int) ∧ o ≠ q) (k : fGo G md p l e R s m args below meth c Q cu su (pc + 3) ls t (n, J, fcpy M o i.toNat q j.toNat cc.toNat)) : fGo G md p l e R s m args below meth c Q cu su pc ls (fI cc :: fI j :: fA q :: fI i :: fA o :: t) (n, J, M) := by
  intro hc H locs A S hW hS hL hR
  obtain ⟨a5, U, rfl, h5, hR1⟩ := fSR_c hR
  obtain ⟨a4, U, rfl, h4, hR2⟩ := fSR_c hR1
  obtain ⟨a3, U, rfl, h3, hR3⟩ := fSR_c hR2
  obtain ⟨a2, U, rfl, h2, hR4⟩ := fSR_c hR3
  obtain ⟨a1, U, rfl, h1, hR5⟩ := fSR_c hR4
  obtain ⟨hx, hb, hml, -, -, hown, hts, hK, hOld, hN0, -⟩ := id C
  obtain ⟨hP, hrg, hnc⟩ := id hW
  obtain ⟨cn, rfl, rfl⟩ := fR_i h5
  obtain ⟨dp, rfl, rfl⟩ := fR_i h4
  obtain ⟨sp, rfl, rfl⟩ := fR_i h2
  obtain rfl := fR_a h3 (f_ne99 hq hnc)
  rw [fAd_lt hq hnc]
  have h156 : fNC = 156 := rfl
  obtain ⟨z1, z2, z3, z4, z5, z6⟩ := hz
  have hgq := fWs_get (G := G) (h := (n, J, M)) hq
  rw [fE_a hlq] at hgq
  rw [flenJ_a hlq (by decide)] at z5
  have hlo : (U.map fun v => v.category).sum + (nativeFrameWords "java/lang/System" "arraycopy" 5 + 11) ≤ R.locals := by
    rw [fSR_sum hR5]
    exact Nat.le_trans (Nat.add_le_add_right hst _) hRl
  obtain rfl := fR_a h1 (f_ne99 ho hnc)
  rw [fAd_lt ho hnc]
  have hgo := fWs_get (G := G) (h := (n, J, M)) ho
  rw [fE_a hl] at hgo
  rw [flenJ_a hl (by decide)] at z4
  rw [farr_i (by decide) (by decide) (by decide)] at hgo hgq
  refine va_copyi hx hb (by rw [hml]; exact hL.1.symm) hown (hts _ hX.1) (hts _ hX.2.1) (hts _ hX.2.2.1) (hts _ hX.2.2.2) hK hP (fWs_D G _) hS o q 0 0 hgo hgq rfl rfl rfl (f_nneg z1) (f_nneg z2) (f_nneg z3) (by rw [← f_nat, ← f_nat]; omega) (by rw [← f_nat, ← f_nat]; omega) (fun _ _ => rfl) hRf hlo hd (fun H1 locs1 hP1 _ hS1 => k hc H1 locs1 A _ ⟨?_, fRg_cpy hrg (by omega) (fun a b => by rw [fkd_a _ hl, fkd_a _ hlq]), hnc⟩ hS1 hL hR5)
  rw [fWs_set (h := (n, J, M)) (h' := (n, J, fcpy M o sp.toInt.toNat q dp.toInt.toNat cn.toInt.toNat)) hq rfl ?_ (fun a ha => ⟨rfl, fcpy_ne M ha⟩)] at hP1
  · exact hP1
  · rw [fE_a hlq, farr_i (by decide) (by decide) (by decide)]
    refine congrArg (fun f => Sum.inl (gC G 0, lq, Sum.inl f)) (funext fun b => ?_)
    show Int32.ofInt (fcpy M o sp.toInt.toNat q dp.toInt.toNat cn.toInt.toNat q b) = va_cpy _ _ _ _ _ b
    unfold fcpy va_cpy
    by_cases hb : dp.toNatClampNeg ≤ b ∧ b < dp.toNatClampNeg + cn.toNatClampNeg
    · rw [if_pos hb, if_pos ⟨rfl, hb⟩]; rfl
    · rw [if_neg hb, if_neg (fun w => hb w.2)]
theorem fs_copyl (C : fCx G md p l s m args meth c) {x q o : Nat} {i j cc : Int} (hX : fAcp md.1.cls x) (hd : decode md.2.1 pc = .ok (.invokestatic x, 3)) (hst : fsum t ≤ 8) (hRf : 1 ≤ R.frames) (hRl : 8 + (nativeFrameWords "java/lang/System" "arraycopy" 5 + 11) ≤ R.locals) (hq : q < n) {len lq : Nat} (hlq : flay q = some (.inr (1, lq))) (ho : o < n) (hl : flay o = some (.inr (1, len))) (hz : 0 ≤ i ∧ 0 ≤ j ∧ 0 ≤ cc ∧ i + cc ≤ (flenJ J o : Int) ∧ j + cc ≤ (flenJ J q : Int) ∧ o ≠ q) (k : fGo G md p l e R s m args below meth c Q cu su (pc + 3) ls t (n, J, fcpy M o i.toNat q j.toNat cc.toNat)) : fGo G md p l e R s m args below meth c Q cu su pc ls (fI cc :: fI j :: fA q :: fI i :: fA o :: t) (n, J, M) := by
  intro hc H locs A S hW hS hL hR
  obtain ⟨a5, U, rfl, h5, hR1⟩ := fSR_c hR
  obtain ⟨a4, U, rfl, h4, hR2⟩ := fSR_c hR1
  obtain ⟨a3, U, rfl, h3, hR3⟩ := fSR_c hR2
  obtain ⟨a2, U, rfl, h2, hR4⟩ := fSR_c hR3
  obtain ⟨a1, U, rfl, h1, hR5⟩ := fSR_c hR4
  obtain ⟨hx, hb, hml, -, -, hown, hts, hK, hOld, hN0, -⟩ := id C
  obtain ⟨hP, hrg, hnc⟩ := id hW
  obtain ⟨cn, rfl, rfl⟩ := fR_i h5
  obtain ⟨dp, rfl, rfl⟩ := fR_i h4
  obtain ⟨sp, rfl, rfl⟩ := fR_i h2
  obtain rfl := fR_a h3 (f_ne99 hq hnc)
  rw [fAd_lt hq hnc]
  have h156 : fNC = 156 := rfl
  obtain ⟨z1, z2, z3, z4, z5, z6⟩ := hz
  have hgq := fWs_get (G := G) (h := (n, J, M)) hq
  rw [fE_a hlq] at hgq
  rw [flenJ_a hlq (by decide)] at z5
  have hlo : (U.map fun v => v.category).sum + (nativeFrameWords "java/lang/System" "arraycopy" 5 + 11) ≤ R.locals := by
    rw [fSR_sum hR5]
    exact Nat.le_trans (Nat.add_le_add_right hst _) hRl
  obtain rfl := fR_a h1 (f_ne99 ho hnc)
  rw [fAd_lt ho hnc]
  have hgo := fWs_get (G := G) (h := (n, J, M)) ho
  rw [fE_a hl] at hgo
  rw [flenJ_a hl (by decide)] at z4
  refine va_copyl hx hb (by rw [hml]; exact hL.1.symm) hown (hts _ hX.1) (hts _ hX.2.1) (hts _ hX.2.2.1) (hts _ hX.2.2.2) hK hP (fWs_D G _) hS o q 1 1 hgo hgq rfl rfl rfl (f_nneg z1) (f_nneg z2) (f_nneg z3) (by rw [← f_nat, ← f_nat]; omega) (by rw [← f_nat, ← f_nat]; omega) (fun _ _ => rfl) hRf hlo hd (fun H1 locs1 hP1 _ hS1 => k hc H1 locs1 A _ ⟨?_, fRg_cpy hrg (by omega) (fun a b => by rw [fkd_a _ hl, fkd_a _ hlq]), hnc⟩ hS1 hL hR5)
  rw [fWs_set (h := (n, J, M)) (h' := (n, J, fcpy M o sp.toInt.toNat q dp.toInt.toNat cn.toInt.toNat)) hq rfl ?_ (fun a ha => ⟨rfl, fcpy_ne M ha⟩)] at hP1
  · exact hP1
  · rw [fE_a hlq]
    refine congrArg (fun f => Sum.inl (gC G 1, lq, Sum.inr (Sum.inl f))) (funext fun b => ?_)
    show Int64.ofInt (fcpy M o sp.toInt.toNat q dp.toInt.toNat cn.toInt.toNat q b) = va_cpy _ _ _ _ _ b
    unfold fcpy va_cpy
    by_cases hb : dp.toNatClampNeg ≤ b ∧ b < dp.toNatClampNeg + cn.toNatClampNeg
    · rw [if_pos hb, if_pos ⟨rfl, hb⟩]; rfl
    · rw [if_neg hb, if_neg (fun w => hb w.2)]
theorem fs_copyo (C : fCx G md p l s m args meth c) {x q o : Nat} {i j cc : Int} (hX : fAcp md.1.cls x) (hd : decode md.2.1 pc = .ok (.invokestatic x, 3)) (hst : fsum t ≤ 8) (hRf : 1 ≤ R.frames) (hRl : 8 + (nativeFrameWords "java/lang/System" "arraycopy" 5 + 11) ≤ R.locals) (hq : q < n) {lq : Nat} (hlq : flay q = some (.inr (0, lq))) (ho : 1000 ≤ o ∧ o < 1004) (hko : ∀ b, fkd o b ≠ 1) (hlen : J 1000 0 = gL G → flenJ J o = fol G o) (hz : 0 ≤ i ∧ 0 ≤ j ∧ 0 ≤ cc ∧ i + cc ≤ (flenJ J o : Int) ∧ j + cc ≤ (flenJ J q : Int) ∧ o ≠ q) (k : fGo G md p l e R s m args below meth c Q cu su (pc + 3) ls t (n, J, fcpy M o i.toNat q j.toNat cc.toNat)) : fGo G md p l e R s m args below meth c Q cu su pc ls (fI cc :: fI j :: fA q :: fI i :: fA o :: t) (n, J, M) := by
  intro hc H locs A S hW hS hL hR
  obtain ⟨a5, U, rfl, h5, hR1⟩ := fSR_c hR
  obtain ⟨a4, U, rfl, h4, hR2⟩ := fSR_c hR1
  obtain ⟨a3, U, rfl, h3, hR3⟩ := fSR_c hR2
  obtain ⟨a2, U, rfl, h2, hR4⟩ := fSR_c hR3
  obtain ⟨a1, U, rfl, h1, hR5⟩ := fSR_c hR4
  obtain ⟨hx, hb, hml, -, -, hown, hts, hK, hOld, hN0, -⟩ := id C
  obtain ⟨hP, hrg, hnc⟩ := id hW
  obtain ⟨cn, rfl, rfl⟩ := fR_i h5
  obtain ⟨dp, rfl, rfl⟩ := fR_i h4
  obtain ⟨sp, rfl, rfl⟩ := fR_i h2
  obtain rfl := fR_a h3 (f_ne99 hq hnc)
  rw [fAd_lt hq hnc]
  have h156 : fNC = 156 := rfl
  obtain ⟨z1, z2, z3, z4, z5, z6⟩ := hz
  have hgq := fWs_get (G := G) (h := (n, J, M)) hq
  rw [fE_a hlq] at hgq
  rw [flenJ_a hlq (by decide)] at z5
  have hlo : (U.map fun v => v.category).sum + (nativeFrameWords "java/lang/System" "arraycopy" 5 + 11) ≤ R.locals := by
    rw [fSR_sum hR5]
    exact Nat.le_trans (Nat.add_le_add_right hst _) hRl
  obtain rfl := fR_a h1 (by omega)
  have e0 : fAd G o = gO G o := by unfold fAd; rw [if_neg (by omega)]
  rw [e0]
  rw [hlen hrg.2.2] at z4
  obtain ⟨⟨nX, hX4, hX5, hX2⟩, hlt⟩ := hOld.1 o ho.1 ho.2
  rw [farr_i (by decide) (by decide) (by decide)] at hgq
  refine va_copyx hx hb (by rw [hml]; exact hL.1.symm) hown (hts _ hX.1) (hts _ hX.2.1) (hts _ hX.2.2.1) (hts _ hX.2.2.2) hK hP (fWs_D G _) hS hX2 (Nat.lt_of_lt_of_le hlt hN0) (Nat.not_le.mpr hlt) q 0 hgq rfl (f_nneg z1) (f_nneg z2) (f_nneg z3) (by rw [← f_nat, ← f_nat]; omega) (by rw [← f_nat, ← f_nat]; omega) hRf hlo hd (fun H1 locs1 hP1 _ hS1 => k hc H1 locs1 A _ ⟨?_, fRg_cpy hrg (by omega) (fun a b => ⟨fun w => absurd (w.symm.trans (fkd_a _ hlq)) (by decide), fun w => absurd w (hko b)⟩), hnc⟩ hS1 hL hR5)
  rw [fWs_set (h := (n, J, M)) (h' := (n, J, fcpy M o sp.toInt.toNat q dp.toInt.toNat cn.toInt.toNat)) hq rfl ?_ (fun a ha => ⟨rfl, fcpy_ne M ha⟩)] at hP1
  · exact hP1
  · rw [fE_a hlq, farr_i (by decide) (by decide) (by decide)]
    refine congrArg (fun f => Sum.inl (gC G 0, lq, Sum.inl f)) (funext fun b => ?_)
    show Int32.ofInt (fcpy M o sp.toInt.toNat q dp.toInt.toNat cn.toInt.toNat q b) = va_cpy _ _ _ _ _ b
    unfold fcpy va_cpy
    by_cases hb : dp.toNatClampNeg ≤ b ∧ b < dp.toNatClampNeg + cn.toNatClampNeg
    · rw [if_pos hb, if_pos ⟨rfl, hb⟩, show M o (sp.toInt.toNat + (b - dp.toInt.toNat)) = (gX G o (sp.toInt.toNat + (b - dp.toInt.toNat))).toInt from hrg.2.1 o _ ho.1, f_oi]; rfl
    · rw [if_neg hb, if_neg (fun w => hb w.2)]
end FMK
