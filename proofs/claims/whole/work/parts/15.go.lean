/-! ===== a call, the ends, a throw ===== -/
theorem fWd.ofS {G : fG} {h : fH} {s U : State} {H : Heap} {locs : List Loc} (hW : s.WarmedH U.vm) (hH : U.heap = H) (hw : fWh G h H) (hK : va_K (gD G) vwCl (fTys G) s) (hO : fOld G s s.heap) (hN : gN G ≤ s.heap.size) (hS : va_S (fIn G) s.heap H locs) (hsz : h.1 < fNC → H.size ≤ gN G + h.1) : fWd G h U := by
  subst hH
  exact ⟨hw, hK.moved hW.alike, hO.at hW hN hS.2.1, Nat.le_trans hN hS.1, hsz⟩
/-- what is caught here: the one row that covers this place -/
def fHd (md : fD) (pc e9 x : Nat) : Prop := ∃ a b ct, fmH md = [(a, b, x, ct, e9)] ∧ a ≤ pc ∧ pc < b ∧ ct ≠ 0 ∧ Cond.classLink md.1.cls ct (fXn e9) ∈ fTb
theorem fR_99 {G : fG} (q : Nat) : fR G (fA 9999) (.ref q) := by
  unfold fR
  simp
section FGO
variable {G : fG} {md : fD} {p : Program} {l : Launch} {e : Env} {R : Room} {s : State} {m : MethodId} {args : Array Value} {below : List Frame} {meth : Method} {c : Code} {Q : fO → fH → Prop} {cu su pc : Nat} {ls : fL} {h : fH}
theorem fs_call (C : fCx G md p l s m args meth c) {md' : fD} {d : Nat} {as rest st : List fV} {Q' : fO → fH → Prop}
    (hen : ∀ (T : State) (H : Heap) (locs : List Loc) (A : Array Slot) (S : List Value), T.heap = H → Stand p l e R s m args below meth c T locs cu su → fWh G h H → fLR G ls (fmL md) A → fSR G st S → ∃ av rs, fSR G as av ∧ fSR G rest rs ∧ fEnt p l e R s m args below meth c T locs cu su (F0 m pc A S) rs md'.1 av.toArray)
    (hM : ∀ av, fSR G as av → fMt G l d md' h av Q') (hfr : d + 1 ≤ R.frames) (hlo : 8 + (fmL md' + 11) + 40 * d ≤ R.locals) (hcl : cu + (fmC md' + 1) ≤ R.cells) (hsl : su + (fmS md' + 6) ≤ R.slots) (hcode : fCt md' ∈ fTb) (hini : Cond.initialized md'.1.cls ∈ fTb) (hsum : fsum rest ≤ 8)
    (hk : ∀ v h', Q' (.inl v) h' → fGo G md p l e R s m args below meth c Q (cu + fmC md') (su + fmS md') (pc + 3) ls (v.toList ++ rest) h')
    (hx : ∀ e9 h', e9 < 2 → Q' (.inr e9) h' → ((∀ a b x ct e0, (a, b, x, ct, e0) ∈ fmH md → ¬ (a ≤ pc ∧ pc < b)) ∧ cu = 0 ∧ su = 0 ∧ Q (.inr e9) h') ∨ ∃ x, fHd md pc e9 x ∧ fGo G md p l e R s m args below meth c Q (cu + 1) (su + 6) x ls [fA 9999] h') :
    fGo G md p l e R s m args below meth c Q cu su pc ls st h := by
  intro hc H locs A S hW hS hL hR T hT X
  obtain ⟨hex, hb, hml, hret, hlk, hown, hts, hK, hOld, hN0, hnm, htab, htr⟩ := id C
  obtain ⟨av, rs, hav, hrs, vm₁, mk, ig, hW₁, X₁, hnamed, hdg, hsteps⟩ := hen T H locs A S hT X hW hL hR
  have hB := f_back (p := p) (e := e) (below := below) (s := s) (sargs := args) (len := 3) (W9 := 8) (hM av hav) hfr hlo hts hcode hini
  have hHs : gN G + h.1 ≤ H.size := fWh_sz hW (Nat.le_trans hN0 hS.1)
  have hsz : h.1 < fNC → H.size ≤ gN G + h.1 := fun q => by
    have h1 := X.heapSize
    have h2 := hc q
    rw [hT] at h1
    omega
  have hroom : 2 * ({ F0 m pc A S with stack := rs } : JFrame).monitorRoom + (({ F0 m pc A S with stack := rs } : JFrame).stack.map fun v => v.category).sum ≤ 8 := by
    refine lv_room (m := m) (pc := pc) (ls := A) (rest := rs) (st := rs) ?_
    rw [fSR_sum hrs]
    exact hsum
  rcases hB m meth c ⟨T.setVm vm₁, locs, cu, su⟩ { F0 m pc A S with stack := rs } ig mk av.toArray X₁ rfl (by rw [hml]; exact hL.1) hdg hroom hnamed ⟨hcl, hsl, rfl, fWd.ofS (U := T.setVm vm₁) hW₁ hT hW hK hOld hN0 hS hsz⟩ with ⟨v, B, X', hpost, hst⟩ | ⟨q, B, X', hpost, hst⟩
  · obtain ⟨v0, h', t, L, e1, e2, hv, hQ, hWd, hl1, hL1, hc1, hs1, hal, hsz1, hk1⟩ := hpost
    obtain ⟨BU, Bl, Bc, Bs⟩ := B
    dsimp only [Pt.U, Pt.locs, Pt.cells, Pt.slots] at X' e1 e2 hl1 hc1 hs1 hal hsz1 hk1 hst
    subst hl1; subst hc1; subst hs1
    have hTs : (T.setVm vm₁).heap = H := hT
    rw [hTs] at hal hsz1 hk1
    have hS2 : va_S (fIn G) s.heap BU.heap (locs ++ L) := by
      rw [e1]
      refine ⟨Nat.le_trans hS.1 hsz1, fun q h1 h2 => ?_, fun z hz => ?_⟩
      · rw [hk1 q (Nat.lt_of_lt_of_le h1 hS.1) h2]
        exact hS.2.1 q h1 h2
      · rcases List.mem_append.mp hz with h9 | h9
        · exact hS.2.2 z h9
        · exact hL1 z h9
    have hRR : fSR G (v0.toList ++ rest) (v.toList ++ rs) := by
      rcases v0 with _ | w <;> rcases v with _ | w'
      · exact hrs
      · exact hv.elim
      · exact hv.elim
      · exact ⟨hv, hrs⟩
    obtain ⟨t2, a1, b1⟩ := hk v0 h' hQ (fun q => by
      have h1 := hal q
      have h2 := hc (by omega)
      omega) BU.heap (locs ++ L) A (v.toList ++ rs) (by rw [e1]; exact hWd.1) hS2 hL hRR BU rfl X'
    exact ⟨t2, hsteps _ (hst.trans a1), b1⟩
  · obtain ⟨e9, ce, h', t, L, e1, e2, hQ, he9, hn9, hWd, hce, hcv, hcls, hl1, hL1, hc1, hs1, hsz1, hk1⟩ := hpost
    obtain ⟨BU, Bl, Bc, Bs⟩ := B
    dsimp only [Pt.U, Pt.locs, Pt.cells, Pt.slots] at X' e1 e2 hl1 hc1 hs1 hsz1 hk1 hst hcls
    subst hl1; subst hc1; subst hs1
    have hTs : (T.setVm vm₁).heap = H := hT
    rw [hTs] at hsz1 hk1
    have hcls2 : s.vm.findClass (fXn e9) = some ce.cls := vx_cls hW₁ hcls
    have hS2 : va_S (fIn G) s.heap BU.heap (locs ++ L) := by
      rw [e1]
      refine ⟨Nat.le_trans hS.1 hsz1, fun q h1 h2 => ?_, fun z hz => ?_⟩
      · rw [hk1 q (Nat.lt_of_lt_of_le h1 hS.1) h2]
        exact hS.2.1 q h1 h2
      · rcases List.mem_append.mp hz with h9 | h9
        · exact hS.2.2 z h9
        · exact hL1 z h9
    rcases hx e9 h' he9 hQ with ⟨hno, rfl, rfl, hQ2⟩ | ⟨x, ⟨a, b, ct, hh, ha, hb2, hct, hlink⟩, hgo⟩
    · have hout : ∀ x ∈ c.exceptionTable.toList, covers x pc = false := by
        rw [htab]
        intro x hx
        unfold tableOf at hx
        obtain ⟨y, hy, rfl⟩ := List.mem_map.mp hx
        obtain ⟨⟨a, b, x, ct, e0⟩, hz, rfl⟩ := List.mem_map.mp hy
        have h9 := hno a b x ct e0 hz
        simp only [covers, Bool.and_eq_false_iff, decide_eq_false_iff_not]
        by_cases q1 : a ≤ pc
        · exact Or.inr (fun q2 => h9 ⟨q1, q2⟩)
        · exact Or.inl q1
      obtain ⟨st1, hrun, hend, hW3, hsm⟩ := X'.leaveThrown q (g := F0 m pc A rs) rfl rfl rfl hout hlk
      refine ⟨_, hsteps _ (hst.trans st1), .threw q, hrun, hend, Or.inr ⟨q, e9, ce, h', locs ++ L, rfl, hQ2, he9, hn9, ?_, ?_, hcv, hcls2, hW3, ?_, hS2.2.2, ?_⟩⟩
      · refine fWd.ofS (s := s) (H := BU.heap) (locs := locs ++ L) hW3 rfl (by rw [e1]; exact hWd.1) hK hOld hN0 hS2 (fun q => absurd q (Nat.not_lt.mpr hn9))
      · show BU.heap[q]? = some ce
        rw [e1]
        exact hce
      · exact hsm.mono (by omega) (by omega)
      · exact hS2.F (t := BU.setFrames (.throwing q :: below)) rfl
    · have hrow : c.exceptionTable.toList = [] ++ ({ startPc := a, endPc := b, handlerPc := x, catchType := ct } : ExceptionTableEntry) :: [] := by
        rw [htab, hh]
        rfl
      have hcast : (Cond.castable (fXn e9) (fXn e9)).before args s = true := by
        unfold fXn
        split
        · exact hOld.2.2.2.2.1.1.use rfl
        · exact hOld.2.2.2.2.1.2.use rfl
      have hV : vx_W p l e R s m args below meth c BU.heap (locs ++ L) (cu + 1) (su + 6) (fEnd G md Q below s) (F0 m pc A rs) q := by
        refine vx_catch (own := md.1.cls) (name := fXn e9) (E := fXn e9) (ce := ce) hown [] _ [] hrow (fun z hz => absurd hz List.not_mem_nil) (by simp [covers, ha, hb2]) hct (hts _ hlink) hcast (by rw [e1]; exact hce) hcv hcls2 ?_
        exact hgo (fun q => absurd q (Nat.not_lt.mpr hn9)) BU.heap (locs ++ L) A _ (by rw [e1]; exact hWd.1) hS2 hL ⟨fR_99 q, trivial⟩
      obtain ⟨t2, a1, b1⟩ := hV BU rfl X'
      exact ⟨t2, hsteps _ (hst.trans a1), b1⟩
theorem W.imp {p : Program} {l : Launch} {e : Env} {R : Room} {s : State} {m : MethodId} {args : Array Value} {below : List Frame} {meth : Method} {c : Code} {H : Heap} {locs : List Loc} {cells slots : Nat} {Q Q' : State → Prop} {g : JFrame} (hQ : ∀ t, Q t → Q' t) (k : W p l e R s m args below meth c H locs cells slots Q g) : W p l e R s m args below meth c H locs cells slots Q' g := by
  intro T hT X
  obtain ⟨t, a, b⟩ := k T hT X
  exact ⟨t, a, hQ t b⟩
/-- the ends -/
theorem f_ret (C : fCx G md p l s m args meth c) {v : Option fV} {v' : Option Value} {H : Heap} {locs : List Loc} {g : JFrame} (hv : fRo G v v') (hQ : Q (.inl v) h) (hW : fWh G h H) (hS : va_S (fIn G) s.heap H locs) (hc : h.1 < fNC → s.heap.size + cu ≤ gN G + h.1) (h1 : cu ≤ fmC md) (h2 : su ≤ fmS md) (h3 : h.1 < fNC → cu = fmC md)
    (hr : W p l e R s m args below meth c H locs cu su (MQ below (fun _ st o t => o = .returned v' ∧ t.heap = H ∧ s.WarmedH t.vm) args s cu su (fIn G)) g) : W p l e R s m args below meth c H locs cu su (fEnd G md Q below s) g := by
  obtain ⟨hex, hb, hml, hret, hlk, hown, hts, hK, hOld, hN0, hnm, htab, htr⟩ := id C
  intro T hT X
  have hsz : h.1 < fNC → H.size ≤ gN G + h.1 := fun q => by
    have h1 := X.heapSize
    have h2 := hc q
    rw [hT] at h1
    omega
  obtain ⟨t, a1, o, b1, b2, ⟨rfl, b4, b5⟩, L, b6, b7⟩ := hr T hT X
  refine ⟨t, a1, .returned v', b1, b2, Or.inl ⟨v, v', h, L, rfl, hv, hQ, fWd.ofS b5 b4 hW hK hOld hN0 hS hsz, ⟨b6.1, b6.2.1, b6.2.2.mono h1 h2⟩, b7, hS.F b4, fun q => ?_⟩⟩
  have := hc q
  rw [← h3 q]
  exact this
theorem fs_iret (C : fCx G md p l s m args meth c) {z : Int} (hd : decode md.2.1 pc = .ok (.ireturn, 1)) (hrt : fmR md = some .int) (hQ : Q (.inl (some (fI z))) h) (hP : cu ≤ fmC md ∧ su ≤ fmS md ∧ (h.1 < fNC → cu = fmC md)) : fGo G md p l e R s m args below meth c Q cu su pc ls [fI z] h := by
  intro hc H locs A S hW hS hL hR
  obtain ⟨a, U, rfl, ha, hR1⟩ := fSR_c hR
  obtain rfl := fSR_n hR1
  obtain ⟨i, rfl, hi⟩ := fR_i ha
  obtain ⟨hex, hb, hml, hret, hlk, hown, hts, hK, hOld, hN0, hnm, htab, htr⟩ := id C
  exact f_ret C (v := some (fI z)) (v' := some (.int i)) ⟨i, rfl, hi⟩ hQ hW hS hc hP.1 hP.2.1 hP.2.2 (W.iret hex hb (hret.trans hrt) (fun t ht hw => ⟨rfl, ht, hw⟩) hS.2.2 hd hlk)
theorem fs_zret (C : fCx G md p l s m args meth c) {z : Int} (hd : decode md.2.1 pc = .ok (.ireturn, 1)) (hrt : fmR md = some .boolean) (hz : z = 0 ∨ z = 1) (hQ : Q (.inl (some (fI z))) h) (hP : cu ≤ fmC md ∧ su ≤ fmS md ∧ (h.1 < fNC → cu = fmC md)) : fGo G md p l e R s m args below meth c Q cu su pc ls [fI z] h := by
  intro hc H locs A S hW hS hL hR
  obtain ⟨a, U, rfl, ha, hR1⟩ := fSR_c hR
  obtain rfl := fSR_n hR1
  obtain ⟨i, rfl, hi⟩ := fR_i ha
  obtain ⟨hex, hb, hml, hret, hlk, hown, hts, hK, hOld, hN0, hnm, htab, htr⟩ := id C
  have hn : narrow .boolean (.int i) = .int i := by
    rcases hz with rfl | rfl
    · have : i = 0 := Int32.toInt_inj.mp hi
      subst this
      rfl
    · have : i = 1 := Int32.toInt_inj.mp hi
      subst this
      rfl
  exact f_ret C (v := some (fI z)) (v' := some (.int i)) ⟨i, rfl, hi⟩ hQ hW hS hc hP.1 hP.2.1 hP.2.2 (W.zret hex hb (hret.trans hrt) hn (fun t ht hw => ⟨rfl, ht, hw⟩) hS.2.2 hd hlk)
theorem fs_lret (C : fCx G md p l s m args meth c) {z : Int} (hd : decode md.2.1 pc = .ok (.lreturn, 1)) (hrt : fmR md = some .long) (hQ : Q (.inl (some (fJ z))) h) (hP : cu ≤ fmC md ∧ su ≤ fmS md ∧ (h.1 < fNC → cu = fmC md)) : fGo G md p l e R s m args below meth c Q cu su pc ls [fJ z] h := by
  intro hc H locs A S hW hS hL hR
  obtain ⟨a, U, rfl, ha, hR1⟩ := fSR_c hR
  obtain rfl := fSR_n hR1
  obtain ⟨i, rfl, hi⟩ := fR_j ha
  obtain ⟨hex, hb, hml, hret, hlk, hown, hts, hK, hOld, hN0, hnm, htab, htr⟩ := id C
  exact f_ret C (v := some (fJ z)) (v' := some (.long i)) ⟨i, rfl, hi⟩ hQ hW hS hc hP.1 hP.2.1 hP.2.2 (W.lret hex hb (hret.trans hrt) (fun t ht hw => ⟨rfl, ht, hw⟩) hS.2.2 hd hlk)
theorem fs_vret (C : fCx G md p l s m args meth c) (hd : decode md.2.1 pc = .ok (.return_, 1)) (hrt : fmR md = none) (hQ : Q (.inl none) h) (hP : cu ≤ fmC md ∧ su ≤ fmS md ∧ (h.1 < fNC → cu = fmC md)) : fGo G md p l e R s m args below meth c Q cu su pc ls [] h := by
  intro hc H locs A S hW hS hL hR
  obtain rfl := fSR_n hR
  obtain ⟨hex, hb, hml, hret, hlk, hown, hts, hK, hOld, hN0, hnm, htab, htr⟩ := id C
  exact f_ret C (v := none) (v' := none) trivial hQ hW hS hc hP.1 hP.2.1 hP.2.2 (W.vret hex hb (hret.trans hrt) (fun t ht hw => ⟨rfl, ht, hw⟩) hS.2.2 hd hlk)
/-- 'throw new E()' -/
def fThr (own : String) (x ic e9 : Nat) : Prop := Cond.classLink own x (fXn e9) ∈ fTb ∧ Cond.initialized (fXn e9) ∈ fTb ∧ (∀ w ∈ (vx_at0 own ic (fXn e9) ["java/lang/RuntimeException", "java/lang/Exception"]).filter goodWord, w ∈ fTb) ∧ (∀ w ∈ (vx_at0 own ic (fXn e9) ["java/lang/RuntimeException", "java/lang/Exception"]).filter (fun w => !goodWord w), w ∈ [Cond.castable (fXn e9) (fXn e9), Cond.declares ⟨"java/lang/RuntimeException", "<init>", "()V"⟩, Cond.declares ⟨"java/lang/Exception", "<init>", "()V"⟩, Cond.declares ⟨"java/lang/Throwable", "<init>", "()V"⟩]) ∧ (∀ w ∈ Cond.classLink own x (fXn e9) :: Cond.initialized (fXn e9) :: vx_at0 own ic (fXn e9) ["java/lang/RuntimeException", "java/lang/Exception"], vx_ot w = true)
theorem fs_throw (C : fCx G md p l s m args meth c) {x ic e9 : Nat} {t : List fV} (he : e9 < 2) (hT : fThr md.1.cls x ic e9) (d0 : decode md.2.1 pc = .ok (.new x, 3)) (d3 : decode md.2.1 (pc + 3) = .ok (.dup, 1)) (d4 : decode md.2.1 (pc + 4) = .ok (.invokespecial ic, 3)) (d7 : decode md.2.1 (pc + 7) = .ok (.athrow, 1))
    (hno : fmH md = []) (hsum : fsum t ≤ 8) (hRf : 6 ≤ R.frames) (hRl : 100 ≤ R.locals) (hRc : 1 ≤ R.cells) (hRs : 6 ≤ R.slots) (hn : fNC ≤ h.1) (hQ : Q (.inr e9) h) : fGo G md p l e R s m args below meth c Q 0 0 pc ls t h := by
  intro hc H locs A S hW hS hL hR
  obtain ⟨hex, hb, hml, hret, hlk, hown, hts, hK, hOld, hN0, hnm, htab, htr⟩ := id C
  obtain ⟨t1, t2, t3, t4, t5⟩ := hT
  have hcast : (Cond.castable (fXn e9) (fXn e9)).before args s = true := by
    unfold fXn
    split
    · exact hOld.2.2.2.2.1.1.use rfl
    · exact hOld.2.2.2.2.1.2.use rfl
  have hout : ∀ x ∈ c.exceptionTable.toList, covers x (pc + 7) = false := by
    rw [htab, hno]
    intro x hx
    cases hx
  refine W.imp ?_ (vx_throw0 (p := p) (l := l) (e := e) (R := R) (s := s) (m := m) (args := args) (below := below) (meth := meth) (c := c) (H := H) (locs := locs) (cells := 0) (slots := 0) (Qc := fun _ _ _ _ => False) (XC := fun E st t => E = fXn e9 ∧ s.vm.Alike t.vm ∧ H.size ≤ t.heap.size ∧ ∀ q : Nat, q < H.size → t.heap[q]? = H[q]?) (free := fIn G) (mc := 1) (ms := 6) (A := fIn G) hex hb htr hown (cls := fXn e9) (names := ["java/lang/RuntimeException", "java/lang/Exception"]) (ik := x) (ic := ic)
    (by unfold fXn; split <;> decide +kernel) (by decide +kernel) (hts _ t1) (hts _ t2) (vx_hat (fun w hw => hts _ (t3 w hw)) (B := [Cond.castable (fXn e9) (fXn e9), Cond.declares ⟨"java/lang/RuntimeException", "<init>", "()V"⟩, Cond.declares ⟨"java/lang/Exception", "<init>", "()V"⟩, Cond.declares ⟨"java/lang/Throwable", "<init>", "()V"⟩]) t4 (vx_c hcast (vx_c (hOld.2.2.2.2.2.1.2.2.1.use rfl) (vx_c (hOld.2.2.2.2.2.1.2.2.2.1.use rfl) (vx_c (hOld.2.2.2.2.2.1.2.2.2.2.use rfl) vx_n))))) t5 hOld.2.2.1.1 hOld.2.2.1.2 hS (by rw [hml]; exact hL.1) d0 d3 d4 d7 hout hRf (by rw [fSR_sum hR]; show _ + (13 * (2 + 1) + 42) ≤ _; omega) hRc hRs hlk (fun t h1 h2 h3 => ⟨rfl, h1, h2, h3⟩) hS.2.2 (Nat.le_refl _) (Nat.le_refl _))
  rintro t ⟨o, hrun, hend, hq⟩
  refine ⟨o, hrun, hend, ?_⟩
  rcases hq with ⟨hf, -⟩ | ⟨q, rfl, E, ce, L, ⟨rfl, hal, hsz, hkp⟩, hce, hcv, hcl, hW3, hsm, hL9⟩
  · exact hf.elim
  · have hSt : va_S (fIn G) s.heap t.heap L := ⟨Nat.le_trans hS.1 hsz, fun q h1 h2 => by rw [hkp q (Nat.lt_of_lt_of_le h1 hS.1)]; exact hS.2.1 q h1 h2, hL9⟩
    have hWt : fWh G h t.heap := ⟨hW.1.kept (fun k x hx => hkp x.1 ((hW.1 k x hx).lt)), hW.2⟩
    exact Or.inr ⟨q, e9, ce, h, L, rfl, hQ, he, hn, fWd.ofS hW3 rfl hWt hK hOld hN0 hSt (fun q => absurd q (Nat.not_lt.mpr hn)), hce, hcv, hcl, hW3, hsm, hL9, hSt.F rfl⟩
/-- constants, statics, Object's constructor -/
theorem fs_ldc (C : fCx G md p l s m args meth c) {x : Nat} {z : Int32} {t : List fV} (hw : Cond.constant md.1.cls x z ∈ fTb) (hd : decode md.2.1 pc = .ok (.ldc x, 2)) (k : fGo G md p l e R s m args below meth c Q cu su (pc + 2) ls (fI z.toInt :: t) h) : fGo G md p l e R s m args below meth c Q cu su pc ls t h := by
  intro hc H locs A S hW hS hL hR
  obtain ⟨hex, hb, hml, hret, hlk, hown, hts, -⟩ := id C
  exact lv_ldc hex hb hown (hts _ hw) hd (k hc H locs A _ hW hS hL ⟨⟨z, rfl, rfl⟩, hR⟩)
theorem fs_ldcw (C : fCx G md p l s m args meth c) {x : Nat} {z : Int32} {t : List fV} (hw : Cond.constant md.1.cls x z ∈ fTb) (hd : decode md.2.1 pc = .ok (.ldc_w x, 3)) (k : fGo G md p l e R s m args below meth c Q cu su (pc + 3) ls (fI z.toInt :: t) h) : fGo G md p l e R s m args below meth c Q cu su pc ls t h := by
  intro hc H locs A S hW hS hL hR
  obtain ⟨hex, hb, hml, hret, hlk, hown, hts, -⟩ := id C
  exact lv_ldcw hex hb hown (hts _ hw) hd (k hc H locs A _ hW hS hL ⟨⟨z, rfl, rfl⟩, hR⟩)
theorem fs_ldc2 (C : fCx G md p l s m args meth c) {x : Nat} {z : Int64} {t : List fV} (hw : Cond.constantLong md.1.cls x z ∈ fTb) (hd : decode md.2.1 pc = .ok (.ldc2_w x, 3)) (k : fGo G md p l e R s m args below meth c Q cu su (pc + 3) ls (fJ z.toInt :: t) h) : fGo G md p l e R s m args below meth c Q cu su pc ls t h := by
  intro hc H locs A S hW hS hL hR
  obtain ⟨hex, hb, hml, hret, hlk, hown, hts, -⟩ := id C
  exact lv_ldc2 hex hb hown (hts _ hw) hd (k hc H locs A _ hW hS hL ⟨⟨z, rfl, rfl⟩, hR⟩)
theorem fR_old {G : fG} {k : Nat} (h : 1000 ≤ k) (h2 : k < 9999) : fR G (fA k) (.ref (gO G k)) := by
  show if k = 9999 then ∃ q, Value.ref (gO G k) = .ref q else Value.ref (gO G k) = .ref (fAd G k)
  rw [if_neg (by omega)]
  unfold fAd
  rw [if_neg (by omega)]
theorem fs_ldcS (C : fCx G md p l s m args meth c) {t : List fV} (hcn : md.1.cls = "TunerRounds$Tape") (hd : decode md.2.1 pc = .ok (.ldc 19, 2)) (k : fGo G md p l e R s m args below meth c Q cu su (pc + 2) ls (fA 1004 :: t) h) : fGo G md p l e R s m args below meth c Q cu su pc ls t h := by
  intro hc H locs A S hW hS hL hR
  obtain ⟨hex, hb, hml, hret, hlk, hown, hts, hK, hOld, -⟩ := id C
  rw [hcn] at hown
  exact va_ldcS hex hb hown hOld.2.2.2.2.2.2.1 hd (k hc H locs A _ hW hS hL ⟨fR_old (by decide) (by decide), hR⟩)
def fStn (k : Nat) : String := if k = 1001 then "RULES_UNTOLD" else if k = 1002 then "CHORD_STEPS" else "CHORD_TIMES"
theorem fs_gets (C : fCx G md p l s m args meth c) {x k : Nat} {t : List fV} (hk : k = 1001 ∨ k = 1002 ∨ k = 1003) (hw : Cond.fieldLink md.1.cls x "TunerRounds$House" (fStn k) "[I" ∈ fTb) (hd : decode md.2.1 pc = .ok (.getstatic x, 3)) (kk : fGo G md p l e R s m args below meth c Q cu su (pc + 3) ls (fA k :: t) h) : fGo G md p l e R s m args below meth c Q cu su pc ls t h := by
  intro hc H locs A S hW hS hL hR
  obtain ⟨hex, hb, hml, hret, hlk, hown, hts, hK, hOld, -⟩ := id C
  have hZ : va_Z "TunerRounds$House" (fStn k) "[I" (.ref (gO G k)) (fIn G) s s.heap := by
    rcases hk with rfl | rfl | rfl
    · exact hOld.2.1.1
    · exact hOld.2.1.2.1
    · exact hOld.2.1.2.2
  exact va_gets hex hb hZ hS hown (hts _ hw) (fun _ z => z) hd (kk hc H locs A _ hW hS hL ⟨fR_old (by omega) (by omega), hR⟩)
theorem fs_obj (C : fCx G md p l s m args meth c) {x o : Nat} {t : List fV} (h1 : Cond.methodLink md.1.cls x Lib.objectInit ∈ fTb) (h2 : Cond.instanceMethod Lib.objectInit ∈ fTb) (h3 : Cond.code Lib.objectInit ⟨#[0xb1]⟩ 1 none ∈ fTb) (hd : decode md.2.1 pc = .ok (.invokespecial x, 3)) (hsum : fsum t ≤ 8) (hRf : 1 ≤ R.frames) (hRl : 20 ≤ R.locals) (k : fGo G md p l e R s m args below meth c Q cu su (pc + 3) ls t h) : fGo G md p l e R s m args below meth c Q cu su pc ls (fA o :: t) h := by
  intro hc H locs A S hW hS hL hR
  obtain ⟨a, U, rfl, ha, hR1⟩ := fSR_c hR
  obtain ⟨q, rfl⟩ := fR_r ha
  obtain ⟨hex, hb, hml, hret, hlk, hown, hts, -⟩ := id C
  refine W.objInit hex hb hown (hts _ h1) (hts _ h2) (hts _ h3) rfl (by rw [hml]; exact hL.1) rfl hd hRf ?_ (k hc H locs A _ hW hS hL hR1)
  rw [fSR_sum hR1]
  show 2 * 0 + _ + 12 ≤ _
  omega
theorem fs_switch (C : fCx G md p l s m args meth c) {df lo hi : Int} {offs : Array Int} {len : Nat} {z : Int} {t : List fV} {dt : Nat} {ts : List Nat} (hd : decode md.2.1 pc = .ok (.tableswitch df lo hi offs, len)) (hdt : (pc : Int) + df = (dt : Int)) (hts : offs.toList.map (fun o => (pc : Int) + o) = ts.map (fun x : Nat => (x : Int))) (hhi : hi + 1 = lo + (ts.length : Int)) (hk : fsw (fun x => fGo G md p l e R s m args below meth c Q cu su x ls t h) z lo ts dt) : fGo G md p l e R s m args below meth c Q cu su pc ls (fI z :: t) h := by
  intro hc H locs A S hW hS hL hR
  obtain ⟨a, U, rfl, ha, hR1⟩ := fSR_c hR
  obtain ⟨i, rfl, rfl⟩ := fR_i ha
  have key : ∀ (ts : List Nat) (lo : Int), fsw (fun x => fGo G md p l e R s m args below meth c Q cu su x ls t h) i.toInt lo ts dt → (∀ (j : Nat) (x : Nat), ts[j]? = some x → i.toInt = lo + (j : Int) → fGo G md p l e R s m args below meth c Q cu su x ls t h) ∧ ((i.toInt < lo ∨ lo + (ts.length : Int) ≤ i.toInt) → fGo G md p l e R s m args below meth c Q cu su dt ls t h) := by
    intro ts
    induction ts with
    | nil => intro lo hk; exact ⟨fun j x hj => by simp at hj, fun _ => hk⟩
    | cons y ts ih =>
      intro lo hk
      refine ⟨fun j x hj he => ?_, fun ho => ?_⟩
      · cases j with
        | zero =>
          simp only [List.getElem?_cons_zero, Option.some.injEq] at hj
          subst hj
          exact hk.1 (by simpa using he)
        | succ j =>
          rw [List.getElem?_cons_succ] at hj
          refine (ih (lo + 1) (hk.2 (by push_cast at he; omega))).1 j x hj (by push_cast at he; omega)
      · rw [List.length_cons] at ho
        refine (ih (lo + 1) (hk.2 (by push_cast at ho; omega))).2 (by push_cast at ho; omega)
  obtain ⟨k1, k2⟩ := key ts lo hk
  by_cases ho : i.toInt < lo ∨ hi < i.toInt
  · exact lv_tableOut C.1 C.2.1 hd ho hdt (k2 (by omega) hc H locs A _ hW hS hL hR1)
  · have hj : (i.toInt - lo).toNat < ts.length := by omega
    obtain ⟨x, hx⟩ : ∃ x, ts[(i.toInt - lo).toNat]? = some x := ⟨_, List.getElem?_eq_getElem hj⟩
    have hof : (offs.toList.map (fun o => (pc : Int) + o))[(i.toInt - lo).toNat]? = some (x : Int) := by
      rw [hts, List.getElem?_map, hx]
      rfl
    rw [List.getElem?_map] at hof
    cases ho2 : offs.toList[(i.toInt - lo).toNat]? with
    | none => rw [ho2] at hof; cases hof
    | some off =>
      rw [ho2] at hof
      have e1 : (pc : Int) + off = (x : Int) := Option.some.inj hof
      exact lv_tableIn C.1 C.2.1 hd (by omega) (by omega) (by rw [← Array.getElem?_toList]; exact ho2) e1 (k1 _ x hx (by omega) hc H locs A _ hW hS hL hR1)
end FGO
