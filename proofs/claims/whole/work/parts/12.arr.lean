/-! ===== arrays ===== -/
theorem f_nat {i : Int32} : i.toInt.toNat = i.toNatClampNeg := rfl
theorem f_in {i : Int32} {n : Nat} (h : 0 ≤ i.toInt ∧ i.toInt < (n : Int)) : vp_in i n := vp_in_iff.mpr h
theorem flenJ_a {J : Nat → Nat → Nat} {o ty len : Nat} (hl : flay o = some (.inr (ty, len))) (ht : ty ≠ 10) : flenJ J o = len := by
  unfold flenJ
  rw [hl]
  split
  · rename_i x hx
    cases hx
    exact absurd rfl ht
  · rename_i hx
    cases hx
    rfl
  · rename_i hx
    exact absurd rfl (hx ty len)
theorem farr_i {G : fG} {h : fH} {k ty : Nat} (h1 : ty ≠ 1) (h4 : ty ≠ 4) (h5 : ty ≠ 5) : farr G h k ty = .inl (fun j => Int32.ofInt (h.2.2 k j)) := by
  unfold farr
  split <;> first | omega | rfl
theorem farr_up {G : fG} {n : Nat} {J : Nat → Nat → Nat} {M : fM} {o : Nat} {i : Int32} {z : Int} {x : Int32} (hz : Int32.ofInt z = x) : (fun j => Int32.ofInt (fup M o i.toInt.toNat z o j)) = upd (fun j => Int32.ofInt (M o j)) i.toNatClampNeg x := by
  funext j
  unfold upd
  by_cases hj : j = i.toNatClampNeg
  · subst hj
    rw [if_pos rfl, f_nat, fup_s, hz]
  · rw [if_neg hj, fup_i M o z (by rw [f_nat]; exact hj)]
theorem farr_upL {M : fM} {o : Nat} {i : Int32} {z : Int} {x : Int64} (hz : Int64.ofInt z = x) : (fun j => Int64.ofInt (fup M o i.toInt.toNat z o j)) = vp_updL (fun j => Int64.ofInt (M o j)) i.toNatClampNeg x := by
  funext j
  unfold vp_updL
  by_cases hj : j = i.toNatClampNeg
  · subst hj
    rw [if_pos rfl, f_nat, fup_s, hz]
  · rw [if_neg hj, fup_i M o z (by rw [f_nat]; exact hj)]
theorem f_zb (x : Int32) : Int32.ofInt (fand x.toInt 1) = vp_nar .boolean x := by
  unfold fand
  rw [f_oi, f_oi]
  rfl
section FAR
variable {G : fG} {md : fD} {p : Program} {l : Launch} {e : Env} {R : Room} {s : State} {m : MethodId} {args : Array Value} {below : List Frame} {meth : Method} {c : Code} {Q : fO → fH → Prop} {cu su pc : Nat} {ls : fL} {t : List fV} {n : Nat} {J : Nat → Nat → Nat} {M : fM}
theorem fs_iald (C : fCx G md p l s m args meth c) {z : Int} {o len : Nat} (hd : decode md.2.1 pc = .ok (.iaload, 1)) (ho : o < n) (hl : flay o = some (.inr (0, len))) (hz : 0 ≤ z ∧ z < (flenJ J o : Int)) (k : fGo G md p l e R s m args below meth c Q cu su (pc + 1) ls (fI (M o z.toNat) :: t) (n, J, M)) : fGo G md p l e R s m args below meth c Q cu su pc ls (fI z :: fA o :: t) (n, J, M) := by
  intro hc H locs A S hW hS hL hR
  obtain ⟨b, U, rfl, hb1, hR1⟩ := fSR_c hR
  obtain ⟨a, U, rfl, ha1, hR2⟩ := fSR_c hR1
  obtain ⟨hx, hb, -, -, -, hown, hts, hK, hOld, hN0, -⟩ := id C
  obtain ⟨hP, hrg, hnc⟩ := id hW
  obtain ⟨i, rfl, rfl⟩ := fR_i hb1
  obtain rfl := fR_a ha1 (f_ne99 ho hnc)
  rw [fAd_lt ho hnc]
  have hg := fWs_get (G := G) (h := (n, J, M)) ho
  rw [fE_a hl] at hg
  rw [flenJ_a hl (by decide)] at hz
  refine va_iald hx hb hK hP o 0 hg rfl (f_in hz) hd (k hc H locs A _ hW hS hL ⟨⟨_, rfl, ?_⟩, hR2⟩)
  exact (hrg.1 o i.toInt.toNat).2 (by rw [fkd_a _ hl]; decide)
theorem fs_bald (C : fCx G md p l s m args meth c) {z : Int} {o len : Nat} (hd : decode md.2.1 pc = .ok (.baload, 1)) (ho : o < n) (hl : flay o = some (.inr (2, len))) (hz : 0 ≤ z ∧ z < (flenJ J o : Int)) (k : fGo G md p l e R s m args below meth c Q cu su (pc + 1) ls (fI (M o z.toNat) :: t) (n, J, M)) : fGo G md p l e R s m args below meth c Q cu su pc ls (fI z :: fA o :: t) (n, J, M) := by
  intro hc H locs A S hW hS hL hR
  obtain ⟨b, U, rfl, hb1, hR1⟩ := fSR_c hR
  obtain ⟨a, U, rfl, ha1, hR2⟩ := fSR_c hR1
  obtain ⟨hx, hb, -, -, -, hown, hts, hK, hOld, hN0, -⟩ := id C
  obtain ⟨hP, hrg, hnc⟩ := id hW
  obtain ⟨i, rfl, rfl⟩ := fR_i hb1
  obtain rfl := fR_a ha1 (f_ne99 ho hnc)
  rw [fAd_lt ho hnc]
  have hg := fWs_get (G := G) (h := (n, J, M)) ho
  rw [fE_a hl] at hg
  rw [flenJ_a hl (by decide)] at hz
  refine va_bald hx hb hK hP o 2 hg rfl (f_in hz) hd (k hc H locs A _ hW hS hL ⟨⟨_, rfl, ?_⟩, hR2⟩)
  exact (hrg.1 o i.toInt.toNat).2 (by rw [fkd_a _ hl]; decide)
theorem fs_zald (C : fCx G md p l s m args meth c) {z : Int} {o len : Nat} (hd : decode md.2.1 pc = .ok (.baload, 1)) (ho : o < n) (hl : flay o = some (.inr (3, len))) (hz : 0 ≤ z ∧ z < (flenJ J o : Int)) (k : fGo G md p l e R s m args below meth c Q cu su (pc + 1) ls (fI (M o z.toNat) :: t) (n, J, M)) : fGo G md p l e R s m args below meth c Q cu su pc ls (fI z :: fA o :: t) (n, J, M) := by
  intro hc H locs A S hW hS hL hR
  obtain ⟨b, U, rfl, hb1, hR1⟩ := fSR_c hR
  obtain ⟨a, U, rfl, ha1, hR2⟩ := fSR_c hR1
  obtain ⟨hx, hb, -, -, -, hown, hts, hK, hOld, hN0, -⟩ := id C
  obtain ⟨hP, hrg, hnc⟩ := id hW
  obtain ⟨i, rfl, rfl⟩ := fR_i hb1
  obtain rfl := fR_a ha1 (f_ne99 ho hnc)
  rw [fAd_lt ho hnc]
  have hg := fWs_get (G := G) (h := (n, J, M)) ho
  rw [fE_a hl] at hg
  rw [flenJ_a hl (by decide)] at hz
  refine va_zald hx hb hK hP o 3 hg rfl (f_in hz) hd (k hc H locs A _ hW hS hL ⟨⟨_, rfl, ?_⟩, hR2⟩)
  exact (hrg.1 o i.toInt.toNat).2 (by rw [fkd_a _ hl]; decide)
theorem fs_lald (C : fCx G md p l s m args meth c) {z : Int} {o len : Nat} (hd : decode md.2.1 pc = .ok (.laload, 1)) (ho : o < n) (hl : flay o = some (.inr (1, len))) (hz : 0 ≤ z ∧ z < (flenJ J o : Int)) (k : fGo G md p l e R s m args below meth c Q cu su (pc + 1) ls (fJ (M o z.toNat) :: t) (n, J, M)) : fGo G md p l e R s m args below meth c Q cu su pc ls (fI z :: fA o :: t) (n, J, M) := by
  intro hc H locs A S hW hS hL hR
  obtain ⟨b, U, rfl, hb1, hR1⟩ := fSR_c hR
  obtain ⟨a, U, rfl, ha1, hR2⟩ := fSR_c hR1
  obtain ⟨hx, hb, -, -, -, hown, hts, hK, hOld, hN0, -⟩ := id C
  obtain ⟨hP, hrg, hnc⟩ := id hW
  obtain ⟨i, rfl, rfl⟩ := fR_i hb1
  obtain rfl := fR_a ha1 (f_ne99 ho hnc)
  rw [fAd_lt ho hnc]
  have hg := fWs_get (G := G) (h := (n, J, M)) ho
  rw [fE_a hl] at hg
  rw [flenJ_a hl (by decide)] at hz
  refine va_lald hx hb hK hP o 1 hg rfl (f_in hz) hd (k hc H locs A _ hW hS hL ⟨⟨_, rfl, ?_⟩, hR2⟩)
  exact (hrg.1 o i.toInt.toNat).1 (fkd_a _ hl)
theorem fs_ialdo (C : fCx G md p l s m args meth c) {z : Int} {o : Nat} (hd : decode md.2.1 pc = .ok (.iaload, 1)) (ho : 1000 ≤ o ∧ o < 1004) (hz : 0 ≤ z ∧ z < (flenJ J o : Int)) (hlen : J 1000 0 = gL G → flenJ J o = fol G o) (k : fGo G md p l e R s m args below meth c Q cu su (pc + 1) ls (fI (M o z.toNat) :: t) (n, J, M)) : fGo G md p l e R s m args below meth c Q cu su pc ls (fI z :: fA o :: t) (n, J, M) := by
  intro hc H locs A S hW hS hL hR
  obtain ⟨b, U, rfl, hb1, hR1⟩ := fSR_c hR
  obtain ⟨a, U, rfl, ha1, hR2⟩ := fSR_c hR1
  obtain ⟨hx, hb, -, -, -, hown, hts, hK, hOld, hN0, -⟩ := id C
  obtain ⟨hP, hrg, hnc⟩ := id hW
  obtain ⟨i, rfl, rfl⟩ := fR_i hb1
  obtain rfl := fR_a ha1 (by omega)
  have e0 : fAd G o = gO G o := by unfold fAd; rw [if_neg (by omega)]
  rw [e0]
  rw [hlen hrg.2.2] at hz
  obtain ⟨⟨nX, hX1, hX2, hX⟩, hlt⟩ := hOld.1 o ho.1 ho.2
  refine va_sld hx hb hX (Nat.lt_of_lt_of_le hlt hN0) (Nat.not_le.mpr hlt) hS (f_in ⟨hz.1, Int.lt_of_lt_of_le hz.2 (Int.ofNat_le.mpr hX1)⟩) hd (k hc H locs A _ hW hS hL ⟨⟨_, rfl, ?_⟩, hR2⟩)
  exact (hrg.2.1 o i.toInt.toNat ho.1).symm
theorem fs_iast (C : fCx G md p l s m args meth c) {z v : Int} {o len : Nat} (hd : decode md.2.1 pc = .ok (.iastore, 1)) (ho : o < n) (hl : flay o = some (.inr (0, len))) (hz : 0 ≤ z ∧ z < (flenJ J o : Int)) (k : fGo G md p l e R s m args below meth c Q cu su (pc + 1) ls t (n, J, fup M o z.toNat (v))) : fGo G md p l e R s m args below meth c Q cu su pc ls (fI v :: fI z :: fA o :: t) (n, J, M) := by
  intro hc H locs A S hW hS hL hR
  obtain ⟨w, U, rfl, hw1, hR1⟩ := fSR_c hR
  obtain ⟨b, U, rfl, hb1, hR2⟩ := fSR_c hR1
  obtain ⟨a, U, rfl, ha1, hR3⟩ := fSR_c hR2
  obtain ⟨hx, hb, -, -, -, hown, hts, hK, hOld, hN0, -⟩ := id C
  obtain ⟨hP, hrg, hnc⟩ := id hW
  obtain ⟨i, rfl, rfl⟩ := fR_i hb1
  obtain ⟨x, rfl, rfl⟩ := fR_i hw1
  obtain rfl := fR_a ha1 (f_ne99 ho hnc)
  rw [fAd_lt ho hnc]
  have hg := fWs_get (G := G) (h := (n, J, M)) ho
  rw [fE_a hl] at hg
  rw [flenJ_a hl (by decide)] at hz
  rw [farr_i (by decide) (by decide) (by decide)] at hg
  refine va_iast hx hb hK hP (fWs_D G _) hS o 0 hg rfl (f_in hz) hd (fun H1 locs1 hP1 _ hS1 => k hc H1 locs1 A _ ⟨?_, ?_, hnc⟩ hS1 hL hR3)
  · rw [fWs_set (h := (n, J, M)) (h' := (n, J, fup M o i.toInt.toNat (x.toInt))) ho rfl ?_ (fun j hj => ⟨rfl, fup_k M _ _ hj⟩)] at hP1
    · exact hP1
    · rw [fE_a hl, farr_i (by decide) (by decide) (by decide)]
      exact congrArg (fun f => Sum.inl (gC G 0, len, Sum.inl f)) (farr_up (G := G) (n := n) (J := J) (f_oi x))
  · refine fRg_up hrg (by have : fNC = 156 := rfl; omega) (fun q => by rw [fkd_a _ hl] at q; cases q) (fun _ => ?_)
    exact congrArg Int32.toInt (f_oi _)
theorem fs_bast (C : fCx G md p l s m args meth c) {z v : Int} {o len : Nat} (hd : decode md.2.1 pc = .ok (.bastore, 1)) (ho : o < n) (hl : flay o = some (.inr (2, len))) (hz : 0 ≤ z ∧ z < (flenJ J o : Int)) (k : fGo G md p l e R s m args below meth c Q cu su (pc + 1) ls t (n, J, fup M o z.toNat (fi2b v))) : fGo G md p l e R s m args below meth c Q cu su pc ls (fI v :: fI z :: fA o :: t) (n, J, M) := by
  intro hc H locs A S hW hS hL hR
  obtain ⟨w, U, rfl, hw1, hR1⟩ := fSR_c hR
  obtain ⟨b, U, rfl, hb1, hR2⟩ := fSR_c hR1
  obtain ⟨a, U, rfl, ha1, hR3⟩ := fSR_c hR2
  obtain ⟨hx, hb, -, -, -, hown, hts, hK, hOld, hN0, -⟩ := id C
  obtain ⟨hP, hrg, hnc⟩ := id hW
  obtain ⟨i, rfl, rfl⟩ := fR_i hb1
  obtain ⟨x, rfl, rfl⟩ := fR_i hw1
  obtain rfl := fR_a ha1 (f_ne99 ho hnc)
  rw [fAd_lt ho hnc]
  have hg := fWs_get (G := G) (h := (n, J, M)) ho
  rw [fE_a hl] at hg
  rw [flenJ_a hl (by decide)] at hz
  rw [farr_i (by decide) (by decide) (by decide)] at hg
  refine va_bast hx hb hK hP (fWs_D G _) hS o 2 hg rfl (f_in hz) hd (fun H1 locs1 hP1 _ hS1 => k hc H1 locs1 A _ ⟨?_, ?_, hnc⟩ hS1 hL hR3)
  · rw [fWs_set (h := (n, J, M)) (h' := (n, J, fup M o i.toInt.toNat (fi2b x.toInt))) ho rfl ?_ (fun j hj => ⟨rfl, fup_k M _ _ hj⟩)] at hP1
    · exact hP1
    · rw [fE_a hl, farr_i (by decide) (by decide) (by decide)]
      exact congrArg (fun f => Sum.inl (gC G 2, len, Sum.inl f)) (farr_up (G := G) (n := n) (J := J) (by rw [vp_nar_byte]; unfold fi2b; rw [f_oi, f_oi]))
  · refine fRg_up hrg (by have : fNC = 156 := rfl; omega) (fun q => by rw [fkd_a _ hl] at q; cases q) (fun _ => ?_)
    exact congrArg Int32.toInt (f_oi _)
theorem fs_zast (C : fCx G md p l s m args meth c) {z v : Int} {o len : Nat} (hd : decode md.2.1 pc = .ok (.bastore, 1)) (ho : o < n) (hl : flay o = some (.inr (3, len))) (hz : 0 ≤ z ∧ z < (flenJ J o : Int)) (k : fGo G md p l e R s m args below meth c Q cu su (pc + 1) ls t (n, J, fup M o z.toNat (fand v 1))) : fGo G md p l e R s m args below meth c Q cu su pc ls (fI v :: fI z :: fA o :: t) (n, J, M) := by
  intro hc H locs A S hW hS hL hR
  obtain ⟨w, U, rfl, hw1, hR1⟩ := fSR_c hR
  obtain ⟨b, U, rfl, hb1, hR2⟩ := fSR_c hR1
  obtain ⟨a, U, rfl, ha1, hR3⟩ := fSR_c hR2
  obtain ⟨hx, hb, -, -, -, hown, hts, hK, hOld, hN0, -⟩ := id C
  obtain ⟨hP, hrg, hnc⟩ := id hW
  obtain ⟨i, rfl, rfl⟩ := fR_i hb1
  obtain ⟨x, rfl, rfl⟩ := fR_i hw1
  obtain rfl := fR_a ha1 (f_ne99 ho hnc)
  rw [fAd_lt ho hnc]
  have hg := fWs_get (G := G) (h := (n, J, M)) ho
  rw [fE_a hl] at hg
  rw [flenJ_a hl (by decide)] at hz
  rw [farr_i (by decide) (by decide) (by decide)] at hg
  refine va_zast hx hb hK hP (fWs_D G _) hS o 3 hg rfl (f_in hz) hd (fun H1 locs1 hP1 _ hS1 => k hc H1 locs1 A _ ⟨?_, ?_, hnc⟩ hS1 hL hR3)
  · rw [fWs_set (h := (n, J, M)) (h' := (n, J, fup M o i.toInt.toNat (fand x.toInt 1))) ho rfl ?_ (fun j hj => ⟨rfl, fup_k M _ _ hj⟩)] at hP1
    · exact hP1
    · rw [fE_a hl, farr_i (by decide) (by decide) (by decide)]
      exact congrArg (fun f => Sum.inl (gC G 3, len, Sum.inl f)) (farr_up (G := G) (n := n) (J := J) (f_zb x))
  · refine fRg_up hrg (by have : fNC = 156 := rfl; omega) (fun q => by rw [fkd_a _ hl] at q; cases q) (fun _ => ?_)
    exact congrArg Int32.toInt (f_oi _)
theorem fs_last (C : fCx G md p l s m args meth c) {z v : Int} {o len : Nat} (hd : decode md.2.1 pc = .ok (.lastore, 1)) (ho : o < n) (hl : flay o = some (.inr (1, len))) (hz : 0 ≤ z ∧ z < (flenJ J o : Int)) (k : fGo G md p l e R s m args below meth c Q cu su (pc + 1) ls t (n, J, fup M o z.toNat v)) : fGo G md p l e R s m args below meth c Q cu su pc ls (fJ v :: fI z :: fA o :: t) (n, J, M) := by
  intro hc H locs A S hW hS hL hR
  obtain ⟨w, U, rfl, hw1, hR1⟩ := fSR_c hR
  obtain ⟨b, U, rfl, hb1, hR2⟩ := fSR_c hR1
  obtain ⟨a, U, rfl, ha1, hR3⟩ := fSR_c hR2
  obtain ⟨hx, hb, -, -, -, hown, hts, hK, hOld, hN0, -⟩ := id C
  obtain ⟨hP, hrg, hnc⟩ := id hW
  obtain ⟨i, rfl, rfl⟩ := fR_i hb1
  obtain ⟨x, rfl, rfl⟩ := fR_j hw1
  obtain rfl := fR_a ha1 (f_ne99 ho hnc)
  rw [fAd_lt ho hnc]
  have hg := fWs_get (G := G) (h := (n, J, M)) ho
  rw [fE_a hl] at hg
  rw [flenJ_a hl (by decide)] at hz
  refine va_last hx hb hK hP (fWs_D G _) hS o 1 hg rfl (f_in hz) hd (fun H1 locs1 hP1 _ hS1 => k hc H1 locs1 A _ ⟨?_, ?_, hnc⟩ hS1 hL hR3)
  · rw [fWs_set (h := (n, J, M)) (h' := (n, J, fup M o i.toInt.toNat x.toInt)) ho rfl ?_ (fun j hj => ⟨rfl, fup_k M _ _ hj⟩)] at hP1
    · exact hP1
    · rw [fE_a hl]
      exact congrArg (fun f => Sum.inl (gC G 1, len, Sum.inr (Sum.inl f))) (farr_upL (f_ol x))
  · exact fRg_up hrg (by have : fNC = 156 := rfl; omega) (fun _ => by rw [f_ol]) (fun q => absurd (fkd_a _ hl) q)
theorem fs_aald (C : fCx G md p l s m args meth c) {z : Int} {o len ty q : Nat} (hty : ty = 4 ∨ ty = 5) (hd : decode md.2.1 pc = .ok (.aaload, 1)) (ho : o < n) (hl : flay o = some (.inr (ty, len))) (hz : 0 ≤ z ∧ z < (flenJ J o : Int)) (hq : J o z.toNat = q + 1) (hqn : q < n) (k : fGo G md p l e R s m args below meth c Q cu su (pc + 1) ls (fA q :: t) (n, J, M)) : fGo G md p l e R s m args below meth c Q cu su pc ls (fI z :: fA o :: t) (n, J, M) := by
  intro hc H locs A S hW hS hL hR
  obtain ⟨b, U, rfl, hb1, hR1⟩ := fSR_c hR
  obtain ⟨a, U, rfl, ha1, hR2⟩ := fSR_c hR1
  obtain ⟨hx, hb, -, -, -, hown, hts, hK, hOld, hN0, -⟩ := id C
  obtain ⟨hP, hrg, hnc⟩ := id hW
  obtain ⟨i, rfl, rfl⟩ := fR_i hb1
  obtain rfl := fR_a ha1 (f_ne99 ho hnc)
  rw [fAd_lt ho hnc]
  have hg := fWs_get (G := G) (h := (n, J, M)) ho
  rw [fE_a hl] at hg
  rw [flenJ_a hl (by omega)] at hz
  have e2 : va_rf (fref G (n, J, M) o i.toNatClampNeg) = .ref (fAd G q) := by
    rw [fAd_lt hqn hnc]
    unfold fref
    rw [show (n, J, M).2.1 o i.toNatClampNeg = q + 1 from hq]
    rfl
  have hr9 : fR G (fA q) (.ref (fAd G q)) := by
    unfold fR
    simp [f_ne99 hqn hnc]
  rcases hty with rfl | rfl
  · refine va_aldq (C := "TunerRounds$House") hx hb hK hP o 4 hg rfl (f_in hz) hd ?_
    rw [e2]
    exact k hc H locs A _ hW hS hL ⟨hr9, hR2⟩
  · refine va_aldq (C := "TunerRounds$Records") hx hb hK hP o 5 hg rfl (f_in hz) hd ?_
    rw [e2]
    exact k hc H locs A _ hW hS hL ⟨hr9, hR2⟩
theorem fs_aast (C : fCx G md p l s m args meth c) {z : Int} {o len ty q ci : Nat} (hty : (ty = 4 ∧ ci = 2) ∨ (ty = 5 ∧ ci = 6)) (hd : decode md.2.1 pc = .ok (.aastore, 1)) (ho : o < n) (hl : flay o = some (.inr (ty, len))) (hz : 0 ≤ z ∧ z < (flenJ J o : Int)) (hqn : q < n) (hlq : flay q = some (.inl ci)) (k : fGo G md p l e R s m args below meth c Q cu su (pc + 1) ls t (n, fupN J o z.toNat (q + 1), M)) : fGo G md p l e R s m args below meth c Q cu su pc ls (fA q :: fI z :: fA o :: t) (n, J, M) := by
  intro hc H locs A S hW hS hL hR
  obtain ⟨w, U, rfl, hw1, hR1⟩ := fSR_c hR
  obtain ⟨b, U, rfl, hb1, hR2⟩ := fSR_c hR1
  obtain ⟨a, U, rfl, ha1, hR3⟩ := fSR_c hR2
  obtain ⟨hx, hb, -, -, -, hown, hts, hK, hOld, hN0, -⟩ := id C
  obtain ⟨hP, hrg, hnc⟩ := id hW
  obtain ⟨i, rfl, rfl⟩ := fR_i hb1
  obtain rfl := fR_a hw1 (f_ne99 hqn hnc)
  rw [fAd_lt hqn hnc]
  have hgq := fWs_get (G := G) (h := (n, J, M)) hqn
  rw [fE_o hlq] at hgq
  obtain rfl := fR_a ha1 (f_ne99 ho hnc)
  rw [fAd_lt ho hnc]
  have hg := fWs_get (G := G) (h := (n, J, M)) ho
  rw [fE_a hl] at hg
  rw [flenJ_a hl (by omega)] at hz
  have hrg2 : fRg G (n, fupN J o i.toInt.toNat (q + 1), M) := ⟨hrg.1, hrg.2.1, by
    show fupN J o i.toInt.toNat (q + 1) 1000 0 = _
    rw [fupN_k J _ _ (by have : fNC = 156 := rfl; omega)]
    exact hrg.2.2⟩
  have hfn : fref G (n, fupN J o i.toInt.toNat (q + 1), M) o = va_up (fref G (n, J, M) o) i.toNatClampNeg (some (gN G + q)) := by
    funext j
    unfold fref va_up
    by_cases hj : j = i.toNatClampNeg
    · subst hj
      rw [if_pos rfl, show (n, fupN J o i.toInt.toNat (q + 1), M).2.1 o i.toNatClampNeg = q + 1 from fupN_s J o _ _]
    · rw [if_neg hj, show (n, fupN J o i.toInt.toNat (q + 1), M).2.1 o j = J o j from fupN_i J o (q + 1) hj]
  rcases hty with ⟨rfl, rfl⟩ | ⟨rfl, rfl⟩
  · refine va_astq (r := (RX2, TX2, 18)) hx hb hK hP (fWs_D G _) hS o 4 q 2 hg rfl hgq rfl (f_in hz) hd (fun H1 locs1 hP1 _ hS1 => k hc H1 locs1 A _ ⟨?_, hrg2, hnc⟩ hS1 hL hR3)
    rw [fWs_set (h := (n, J, M)) (h' := (n, fupN J o i.toInt.toNat (q + 1), M)) ho rfl ?_ (fun j hj => ⟨fupN_k J _ _ hj, rfl⟩)] at hP1
    · exact hP1
    · rw [fE_a hl]
      exact congrArg (fun f => Sum.inl (gC G 4, len, Sum.inr (Sum.inr (Sum.inr (Sum.inr f))))) hfn
  · refine va_astq (r := (RX6, TX6, 9)) hx hb hK hP (fWs_D G _) hS o 5 q 6 hg rfl hgq rfl (f_in hz) hd (fun H1 locs1 hP1 _ hS1 => k hc H1 locs1 A _ ⟨?_, hrg2, hnc⟩ hS1 hL hR3)
    rw [fWs_set (h := (n, J, M)) (h' := (n, fupN J o i.toInt.toNat (q + 1), M)) ho rfl ?_ (fun j hj => ⟨fupN_k J _ _ hj, rfl⟩)] at hP1
    · exact hP1
    · rw [fE_a hl]
      exact congrArg (fun f => Sum.inl (gC G 5, len, Sum.inr (Sum.inr (Sum.inr (Sum.inr f))))) hfn
theorem fs_alen (C : fCx G md p l s m args meth c) {o len : Nat} (hd : decode md.2.1 pc = .ok (.arraylength, 1)) (ho : o < n) (hl : flay o = some (.inr (0, len))) (hle : len < 2 ^ 31) (k : fGo G md p l e R s m args below meth c Q cu su (pc + 1) ls (fI (flenJ J o) :: t) (n, J, M)) : fGo G md p l e R s m args below meth c Q cu su pc ls (fA o :: t) (n, J, M) := by
  intro hc H locs A S hW hS hL hR
  obtain ⟨a, U, rfl, ha1, hR1⟩ := fSR_c hR
  obtain ⟨hx, hb, -, -, -, hown, hts, hK, hOld, hN0, -⟩ := id C
  obtain ⟨hP, hrg, hnc⟩ := id hW
  obtain rfl := fR_a ha1 (f_ne99 ho hnc)
  rw [fAd_lt ho hnc]
  have hg := fWs_get (G := G) (h := (n, J, M)) ho
  rw [fE_a hl] at hg
  rw [flenJ_a hl (by decide)] at k
  exact va_alen hx hb hK hP o 0 hg rfl rfl hd (k hc H locs A _ hW hS hL ⟨⟨_, rfl, nI_toInt hle⟩, hR1⟩)
theorem fs_aleno (C : fCx G md p l s m args meth c) {o : Nat} (hd : decode md.2.1 pc = .ok (.arraylength, 1)) (ho : 1000 ≤ o ∧ o < 1004) (hle : gL G < 2 ^ 31) (hlen : J 1000 0 = gL G → flenJ J o = fol G o) (k : fGo G md p l e R s m args below meth c Q cu su (pc + 1) ls (fI (flenJ J o) :: t) (n, J, M)) : fGo G md p l e R s m args below meth c Q cu su pc ls (fA o :: t) (n, J, M) := by
  intro hc H locs A S hW hS hL hR
  obtain ⟨a, U, rfl, ha1, hR1⟩ := fSR_c hR
  obtain ⟨hx, hb, -, -, -, hown, hts, hK, hOld, hN0, -⟩ := id C
  obtain ⟨hP, hrg, hnc⟩ := id hW
  obtain rfl := fR_a ha1 (by omega)
  have e0 : fAd G o = gO G o := by unfold fAd; rw [if_neg (by omega)]
  rw [e0]
  rw [hlen hrg.2.2] at k
  obtain ⟨⟨nX, hX1, hX2, hX⟩, hlt⟩ := hOld.1 o ho.1 ho.2
  have hle2 : fol G o < 2 ^ 31 := by
    unfold fol
    split
    · exact hle
    · split <;> decide
  exact va_slen hx hb hX (Nat.lt_of_lt_of_le hlt hN0) (Nat.not_le.mpr hlt) hS hd (k hc H locs A _ hW hS hL ⟨⟨_, rfl, (congrArg Int32.toInt hX2).trans (nI_toInt hle2)⟩, hR1⟩)
end FAR
