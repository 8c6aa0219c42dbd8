/-! ===== calls ===== -/
/-- what the tables say of a method of ours -/
theorem fCt_spec {md : fD} {args : Array Value} {s : State} (h : (fCt md).before args s = true) : ∃ mk meth c, s.methodNamed? md.1 = some mk ∧ s.vm.method? mk = some meth ∧ meth.code = some c ∧ c.code = md.2.1 ∧ c.maxLocals = fmL md ∧ meth.sig.returnType = fmR md ∧ meth.locks = false ∧ c.exceptionTable.toList = tableOf ((fmH md).map fun q => (q.1, q.2.1, q.2.2.1, q.2.2.2.1)) ∧ parseMethodDescriptor md.1.desc = some meth.sig := by
  unfold fCt at h
  cases hh : fmH md with
  | nil =>
    rw [hh] at h
    obtain ⟨mk, hn⟩ := Cond.code_named h
    obtain ⟨meth, c, h1, h2, h3, h4, h5, h6, h7, h8⟩ := Cond.code_spec hn h
    refine ⟨mk, meth, c, hn, h1, h2, h3, h4, h5, h6, ?_, h8⟩
    rw [Array.isEmpty_iff.mp h7]
    rfl
  | cons q t =>
    rw [hh] at h
    obtain ⟨mk, meth, c, hn, h1, h2, h3, h4, h5, h6, h7, h8⟩ := Cond.codeWith_spec h
    refine ⟨mk, meth, c, hn, h1, h2, h3, h4, h6, h7, ?_, h8⟩
    rw [← h5, table_eq]
theorem fWd.calling {G : fG} {h : fH} {U : State} (hw : fWd G h U) (g : JFrame) (mk : MethodId) (a : Array Value) : fWd G h (U.calling g mk a) := by
  obtain ⟨h1, h2, h3, h4, h5⟩ := hw
  exact ⟨h1, va_K.moved (u := U) (U := U.calling g mk a) (Vm.Alike.refl U.vm) h2, fOld.at (s := U) (U := U.calling g mk a) (State.WarmedH.refl U) h3 h4 (fun _ _ _ => rfl), h4, h5⟩
def fPre (G : fG) (R : Room) (md : fD) (h : fH) (av : List Value) : Pt → Array Value → Prop := fun A a => A.cells + (fmC md + 1) ≤ R.cells ∧ A.slots + (fmS md + 6) ≤ R.slots ∧ a = av.toArray ∧ fWd G h A.U
def fPost (G : fG) (md : fD) (Q : fO → fH → Prop) : Pt → Array Value → Option Value → Pt → Prop := fun A _ v B =>
  ∃ (v0 : Option fV) (h' : fH) (t : State) (L : List Loc), B.U.heap = t.heap ∧ B.U.vm = t.vm ∧ fRo G v0 v ∧ Q (.inl v0) h' ∧ fWd G h' t ∧ B.locs = A.locs ++ L ∧ (∀ q ∈ L, fIn G q.base) ∧ B.cells = A.cells + fmC md ∧ B.slots = A.slots + fmS md ∧ (h'.1 < fNC → A.U.heap.size + fmC md ≤ gN G + h'.1) ∧ A.U.heap.size ≤ t.heap.size ∧ ∀ q : Nat, q < A.U.heap.size → ¬ fIn G q → t.heap[q]? = A.U.heap[q]?
def fPosX (G : fG) (Q : fO → fH → Prop) : Pt → Array Value → Addr → Pt → Prop := fun A _ q B =>
  ∃ (e : Nat) (ce : Cell) (h' : fH) (t : State) (L : List Loc), B.U.heap = t.heap ∧ B.U.vm = t.vm ∧ Q (.inr e) h' ∧ e < 2 ∧ fNC ≤ h'.1 ∧ fWd G h' t ∧ t.heap[q]? = some ce ∧ ce.vm = .none ∧ A.U.vm.findClass (fXn e) = some ce.cls ∧ B.locs = A.locs ++ L ∧ (∀ q ∈ L, fIn G q.base) ∧ B.cells = A.cells + 1 ∧ B.slots = A.slots + 6 ∧ A.U.heap.size ≤ t.heap.size ∧ ∀ q : Nat, q < A.U.heap.size → ¬ fIn G q → t.heap[q]? = A.U.heap[q]?
theorem f_back {G : fG} {l : Launch} {R : Room} {p : Program} {e : Env} {below : List Frame} {s : State} {sargs : Array Value} {len W9 d : Nat} {md : fD} {h : fH} {av : List Value} {Q : fO → fH → Prop}
    (hM : fMt G l d md h av Q) (hframes : d + 1 ≤ R.frames) (hlocals : W9 + (fmL md + 11) + 40 * d ≤ R.locals) (hts : ∀ w ∈ fTb, w.before sargs s = true) (hcode : fCt md ∈ fTb) (hini : Cond.initialized md.1.cls ∈ fTb) :
    vx_Back l R p e below s sargs md.1 len W9 (fPre G R md h av) (fPost G md Q) (fPosX G Q) := by
  intro m meth c A g ig mk a X hg hsize hdg hW hn hp
  have hts1 := fTb_at hts X.warmed a
  have h1 : (headSpec fTb (fRm d md)).pre.before a A.U = true := atoms_intro hts1
  have h3 : (Cond.initialized md.1.cls).before a A.U = true := hts1 _ hini
  have h4 : A.cells + (headSpec fTb (fRm d md)).room.cells ≤ R.cells := hp.1
  have h5 : A.slots + (headSpec fTb (fRm d md)).room.slots ≤ R.slots := hp.2.1
  have hPc : a = av.toArray ∧ fWd G h (A.U.calling g mk a) := ⟨hp.2.2.1, hp.2.2.2.calling g mk a⟩
  obtain ⟨mk9, methY, cY, hn9, hmY, hcY, -, hlY, -, -, -, -⟩ := fCt_spec (hts1 _ hcode)
  cases Option.some.inj (hn9.symm.trans hn)
  obtain ⟨U, Ls, c0, s0⟩ := A
  dsimp only [Pt.U, Pt.locs, Pt.cells, Pt.slots] at h1 h3 h4 h5 X hn hPc hmY hcY ⊢
  obtain ⟨kY, hkY, -⟩ := className_of_methodNamed hn
  have hinitY : kY.init = .initialized := Cond.initialized_spec (findClass_of_methodNamed hn) hkY h3
  have h : At U g.method c below := by rw [hg]; exact X.here
  have happ : (headSpec fTb (fRm d md)).appliesLoose md.1 e.platform (U.calling g mk a) = true :=
    Spec.appliesLoose_calling (g := g) h hdg hn hkY hinitY
      (X.room_calling (g := g) (R' := (headSpec fTb (fRm d md)).room) hsize hmY hcY hframes (by rw [hlY]; show _ + _ + 40 * d ≤ _; omega) h4 h5) h1
  obtain ⟨mid, hmid⟩ := h.above
  have hfr : (U.setTop g).frames = (.java g :: mid) ++ below := by rw [State.frames_setTop' g h.top, hmid]; rfl
  obtain ⟨o, s₂, hsteps, -, hend, hq⟩ := Steps.callFree hM p X.admits X.cas X.clock (acts := []) hfr happ hPc trivial
  have hq' : fPo G md Q (U.calling g mk a) o s₂ := hq
  rw [State.frames_setTop' g h.top] at hend
  obtain ⟨g₀, hg0⟩ := Option.isSome_iff_exists.mp h.top
  obtain ⟨r, hr⟩ := State.topJava?_eq_some.mp hg0
  have hr' : (({ U with heap := s₂.heap, slotsUsed := s₂.slotsUsed } : State).setVm s₂.vm).frames = .java g₀ :: r := hr
  rcases hq' with ⟨v0, v, h', L, rfl, hv, hQ, hWd, hfe, hL, hF, hal⟩ | ⟨q, e9, ce, h', L, rfl, hQ, he9, hn9, hWd, hce, hcv, hcl, hW₂, hsm, hL, hF⟩
  · obtain ⟨-, hW₂, e2, q2, q3, q4, q5, q6⟩ := id hfe
    have e3 : s₂ = ({ (U.calling g mk a).setFrames s₂.frames with heap := s₂.heap, slotsUsed := s₂.slotsUsed } : State).setVm s₂.vm := by
      have : s₂ = ({ s₂ with vm := (U.calling g mk a).vm } : State).setVm s₂.vm := rfl
      rw [e2] at this
      exact this
    obtain ⟨c₂, i₂, len₂, hc₂, hd₂, hf₂⟩ := hend
    have hW' : U.WarmedH s₂.vm := hW₂
    have hcc : c₂ = c := by
      have h1 : s₂.code? g.method = U.code? g.method := by
        rw [State.code?_eq, State.code?_eq, hW'.alike.method?]
      exact Option.some.inj (hc₂.symm.trans (h1.trans h.code))
    subst hcc
    have hlen : len₂ = len := by rw [hdg] at hd₂; cases hd₂; rfl
    subst hlen
    have hs₂ : s₂ = (({ U with heap := s₂.heap, slotsUsed := s₂.slotsUsed } : State).setVm s₂.vm).setTop { g with pc := g.pc + len₂, stack := v.toList ++ g.stack } := by
      refine e3.trans ?_
      rw [hf₂, State.calling_eq h.top, State.setFrames_setFrames, State.setTop_of_frames _ hr', hr]
      rfl
    have hsame : U.sameButNew ({ U with heap := s₂.heap, slotsUsed := s₂.slotsUsed } : State) L (fmC md) (fmS md) := by
      refine ⟨?_, q2, q3, q4, q5, q6⟩
      obtain ⟨t, ht, -⟩ := State.frames_cons hr
      show ({ U with heap := s₂.heap, slotsUsed := s₂.slotsUsed } : State) = { U.setFrames U.frames with heap := s₂.heap, slotsUsed := s₂.slotsUsed }
      rw [State.setFrames_self ht]
    subst hg
    refine Or.inl ⟨v, ⟨(({ U with heap := s₂.heap, slotsUsed := s₂.slotsUsed } : State).setVm s₂.vm), Ls ++ L, c0 + fmC md, s0 + fmS md⟩,
      ⟨X.admits, X.cas, X.clock, X.frames, X.room, X.hears, X.method, X.code, (X.here.setHeapUsed s₂.heap s₂.slotsUsed).setVm hW'.alike, X.tail, State.WarmedH.trans X.warmed hW', X.limits, X.bytes, X.same.trans (hsame.setVm s.vm)⟩,
      ⟨v0, h', s₂, L, rfl, rfl, hv, hQ, hWd, rfl, hL, rfl, rfl, hal, hF.1, hF.2⟩, ?_⟩
    show Steps p.tables e below _ ((({ U with heap := s₂.heap, slotsUsed := s₂.slotsUsed } : State).setVm s₂.vm).setTop { g with pc := g.pc + len₂, stack := v.toList ++ g.stack })
    rw [← hs₂]
    exact hsteps
  · obtain ⟨e2, q2, q3, q4, q5, q6⟩ := id hsm
    have e3 : s₂ = ({ (U.calling g mk a).setFrames s₂.frames with heap := s₂.heap, slotsUsed := s₂.slotsUsed } : State).setVm s₂.vm := by
      have : s₂ = ({ s₂ with vm := (U.calling g mk a).vm } : State).setVm s₂.vm := rfl
      rw [e2] at this
      exact this
    have hf₂ : s₂.frames = .throwing q :: .java g :: U.frames.tail := hend
    have hW' : U.WarmedH s₂.vm := hW₂
    have hs₂ : s₂ = ((({ U with heap := s₂.heap, slotsUsed := s₂.slotsUsed } : State).setVm s₂.vm).setTop g).pushFrame (.throwing q) := by
      refine e3.trans ?_
      rw [hf₂, State.calling_eq h.top, State.setFrames_setFrames, State.pushFrame, State.frames_setTop _ hr', State.setTop_of_frames _ hr', State.setFrames_setFrames, hr]
      rfl
    have hsame : U.sameButNew ({ U with heap := s₂.heap, slotsUsed := s₂.slotsUsed } : State) L 1 6 := by
      refine ⟨?_, q2, q3, q4, q5, q6⟩
      obtain ⟨t, ht, -⟩ := State.frames_cons hr
      show ({ U with heap := s₂.heap, slotsUsed := s₂.slotsUsed } : State) = { U.setFrames U.frames with heap := s₂.heap, slotsUsed := s₂.slotsUsed }
      rw [State.setFrames_self ht]
    subst hg
    refine Or.inr ⟨q, ⟨(({ U with heap := s₂.heap, slotsUsed := s₂.slotsUsed } : State).setVm s₂.vm), Ls ++ L, c0 + 1, s0 + 6⟩,
      ⟨X.admits, X.cas, X.clock, X.frames, X.room, X.hears, X.method, X.code, (X.here.setHeapUsed s₂.heap s₂.slotsUsed).setVm hW'.alike, X.tail, State.WarmedH.trans X.warmed hW', X.limits, X.bytes, X.same.trans (hsame.setVm s.vm)⟩,
      ⟨e9, ce, h', s₂, L, rfl, rfl, hQ, he9, hn9, hWd, hce, hcv, hcl, rfl, hL, rfl, rfl, hF.1, hF.2⟩, ?_⟩
    show Steps p.tables e below _ (((({ U with heap := s₂.heap, slotsUsed := s₂.slotsUsed } : State).setVm s₂.vm).setTop g).pushFrame (.throwing q))
    rw [← hs₂]
    exact hsteps
/-- an invoking instruction has come to the callee's entry -/
def fEnt (p : Program) (l : Launch) (e : Env) (R : Room) (s : State) (m : MethodId) (args : Array Value) (below : List Frame) (meth : Method) (c : Code) (T : State) (locs : List Loc) (cells slots : Nat) (g : JFrame) (rest : List Value) (y : MethodName) (av : Array Value) : Prop :=
  ∃ (vm₁ : Vm) (mk : MethodId) (ig : Instr), s.WarmedH vm₁ ∧ Stand p l e R s m args below meth c (T.setVm vm₁) locs cells slots ∧ (T.setVm vm₁).methodNamed? y = some mk ∧ decode c.code g.pc = .ok (ig, 3) ∧
    ∀ target, Steps p.tables e below (doInvoke e ((T.setVm vm₁).setTop { g with stack := rest }) [] mk av).1 target → Steps p.tables e below (T.setTop g) target
section FEN
variable {p : Program} {l : Launch} {e : Env} {R : Room} {s : State} {m : MethodId} {args : Array Value} {below : List Frame} {meth : Method} {c : Code} {T : State} {locs : List Loc} {cells slots : Nat}
theorem f_enV {md : fD} (X : Stand p l e R s m args below meth c T locs cells slots) (hexec : p.tables.exec = Jvm.exec) {own C : String} {index : Nat} (hown : s.vm.findClass own = some m.cls) (hlink : (Cond.methodLink own index md.1).before args s = true) (hinst : (Cond.instanceMethod md.1).before args s = true) (hsel : (Cond.selects C md.1 md.1).before args s = true)
    (hcode : (fCt md).before args s = true) (hy : md.1.cls ≠ "java/lang/invoke/MethodHandle" ∧ md.1.cls ≠ "java/lang/invoke/VarHandle") {b : Addr} {cellB : Cell} (hcell : T.heap[b]? = some cellB) (hobj : cellB.vm.isStatics = false) (hcls : s.vm.findClass C = some cellB.cls)
    {g : JFrame} (hg : g.method = m) {argsL rest : List Value} (hlen : ∀ sig, parseMethodDescriptor md.1.desc = some sig → argsL.length = sig.parameters.length) (hstack : g.stack = argsL.reverse ++ .ref b :: rest) (hdg : decode c.code g.pc = .ok (.invokevirtual index, 3)) :
    fEnt p l e R s m args below meth c T locs cells slots g rest md.1 (Value.ref b :: argsL).toArray := by
  obtain ⟨mk, methM, hnamed, hmethM, hstM, habM⟩ := Cond.instanceMethod_spec hinst
  obtain ⟨mk9, methM', cM, hn9, hmethM', -, -, -, -, -, -, hsigM⟩ := fCt_spec hcode
  cases Option.some.inj (hn9.symm.trans hnamed)
  cases hmethM.symm.trans hmethM'
  obtain ⟨c2, r2, m2, q1, q2, q3, q4, kP, hkP, hkPi⟩ := Cond.selects_spec hsel
  cases hcls.symm.trans q1
  cases (State.methodFound?_of_named hnamed hy).symm.trans q2
  cases hnamed.symm.trans q3
  have hselP : selectMethod e.platform s.vm cellB.cls mk = .method mk := by rw [Launch.admits_selectMethod X.admits]; exact q4
  obtain ⟨vm₁, X₁, hstep₁⟩ := X.invokevirtual hexec hown hlink hnamed hmethM hstM hkP hkPi hy (a := b) (cell := cellB) hcell
    (fun z h => by rw [h] at hobj; cases hobj) hselP hmethM habM hkP hkPi (g := g) hg (argsL := argsL) (rest := rest) (hlen _ hsigM) hstack hdg
  exact ⟨vm₁, mk, _, X₁.warmed, X₁, X₁.named hnamed, hdg, fun target h => hstep₁ _ fun acts => by rw [doInvoke_state]; exact h⟩
theorem f_enS {md : fD} (X : Stand p l e R s m args below meth c T locs cells slots) (hexec : p.tables.exec = Jvm.exec) {own : String} {index : Nat} (hown : s.vm.findClass own = some m.cls) (hlink : (Cond.methodLink own index md.1).before args s = true) (hstat : (Cond.static md.1).before args s = true) (hinit : (Cond.initialized md.1.cls).before args s = true)
    (hcode : (fCt md).before args s = true) (hy : md.1.cls ≠ "java/lang/invoke/MethodHandle" ∧ md.1.cls ≠ "java/lang/invoke/VarHandle") {g : JFrame} (hg : g.method = m) {argsL rest : List Value} (hlen : ∀ sig, parseMethodDescriptor md.1.desc = some sig → argsL.length = sig.parameters.length) (hstack : g.stack = argsL.reverse ++ rest) (hdg : decode c.code g.pc = .ok (.invokestatic index, 3)) :
    fEnt p l e R s m args below meth c T locs cells slots g rest md.1 argsL.toArray := by
  obtain ⟨mk, methM, cM, hnamed, hmethM, -, -, -, -, -, -, hsigM⟩ := fCt_spec hcode
  have hstatic : methM.isStatic = true := Cond.static_spec hnamed hmethM hstat
  obtain ⟨kP, hkP, -⟩ := className_of_methodNamed hnamed
  have hinitP : kP.init = .initialized := Cond.initialized_spec (findClass_of_methodNamed hnamed) hkP hinit
  obtain ⟨vm₁, X₁, hstep₁⟩ := X.invokestatic hexec hown hlink hnamed hmethM hstatic hkP hinitP hy (g := g) hg (argsL := argsL) (rest := rest) (hlen _ hsigM) hstack hdg
  exact ⟨vm₁, mk, _, X₁.warmed, X₁, X₁.named hnamed, hdg, fun target h => hstep₁ _ fun acts => by rw [doInvoke_state]; exact h⟩
theorem f_enSN {md : fD} (X : Stand p l e R s m args below meth c T locs cells slots) (hexec : p.tables.exec = Jvm.exec) {own host : String} {index : Nat} (hown : s.vm.findClass own = some m.cls) (hlink : (Cond.methodLinkNest own index md.1 host).before args s = true) (hstat : (Cond.static md.1).before args s = true) (hinit : (Cond.initialized md.1.cls).before args s = true)
    (hcode : (fCt md).before args s = true) (hy : md.1.cls ≠ "java/lang/invoke/MethodHandle" ∧ md.1.cls ≠ "java/lang/invoke/VarHandle") {g : JFrame} (hg : g.method = m) {argsL rest : List Value} (hlen : ∀ sig, parseMethodDescriptor md.1.desc = some sig → argsL.length = sig.parameters.length) (hstack : g.stack = argsL.reverse ++ rest) (hdg : decode c.code g.pc = .ok (.invokestatic index, 3)) :
    fEnt p l e R s m args below meth c T locs cells slots g rest md.1 argsL.toArray := by
  obtain ⟨mk, methM, cM, hnamed, hmethM, -, -, -, -, -, -, hsigM⟩ := fCt_spec hcode
  have hstatic : methM.isStatic = true := Cond.static_spec hnamed hmethM hstat
  obtain ⟨kP, hkP, -⟩ := className_of_methodNamed hnamed
  have hinitP : kP.init = .initialized := Cond.initialized_spec (findClass_of_methodNamed hnamed) hkP hinit
  obtain ⟨vm₁, X₁, hstep₁⟩ := X.invokestaticNest hexec hown hlink hnamed hmethM hstatic hkP hinitP hy (g := g) hg (argsL := argsL) (rest := rest) (hlen _ hsigM) hstack hdg
  exact ⟨vm₁, mk, _, X₁.warmed, X₁, X₁.named hnamed, hdg, fun target h => hstep₁ _ fun acts => by rw [doInvoke_state]; exact h⟩
theorem f_enI {md : fD} (X : Stand p l e R s m args below meth c T locs cells slots) (hexec : p.tables.exec = Jvm.exec) {own : String} {index : Nat} (hown : s.vm.findClass own = some m.cls) (hy1 : md.1.name = "<init>") (hlink : (Cond.methodLink own index md.1).before args s = true) (hinst : (Cond.instanceMethod md.1).before args s = true)
    (hcode : (Cond.code md.1 md.2.1 (fmL md) none).before args s = true) (hy : md.1.cls ≠ "java/lang/invoke/MethodHandle" ∧ md.1.cls ≠ "java/lang/invoke/VarHandle") {g : JFrame} (hg : g.method = m) {a : Addr} {argsL rest : List Value} (hlen : ∀ sig, parseMethodDescriptor md.1.desc = some sig → argsL.length = sig.parameters.length) (hstack : g.stack = argsL.reverse ++ .ref a :: rest) (hdg : decode c.code g.pc = .ok (.invokespecial index, 3)) :
    fEnt p l e R s m args below meth c T locs cells slots g rest md.1 (Value.ref a :: argsL).toArray := by
  subst hg
  have hpl : e.platform.magicAccessors = ({} : Platform).magicAccessors := by rw [X.admits.platform]
  obtain ⟨mk, methM, cM, kP, vm₁, hnamed, hmethM, hcodeM, -, hlocalsM, -, hkP, -, hW₁, hstep₁⟩ := Steps.initColdArgs (e := e) X.here hexec X.warmed hpl hown hy1 hy hlink hinst hcode (f := g) rfl hlen hstack hdg
  have X₁ := X.noted hW₁
  exact ⟨vm₁, mk, _, X₁.warmed, X₁, X₁.named hnamed, hdg, fun target h => hstep₁ _ fun acts => by rw [doInvoke_state]; exact h⟩
theorem f_enIN {md : fD} (X : Stand p l e R s m args below meth c T locs cells slots) (hexec : p.tables.exec = Jvm.exec) {own host : String} {index : Nat} (hown : s.vm.findClass own = some m.cls) (hy1 : md.1.name = "<init>") (hlink : (Cond.methodLinkNest own index md.1 host).before args s = true) (hinst : (Cond.instanceMethod md.1).before args s = true)
    (hcode : (Cond.code md.1 md.2.1 (fmL md) none).before args s = true) (hy : md.1.cls ≠ "java/lang/invoke/MethodHandle" ∧ md.1.cls ≠ "java/lang/invoke/VarHandle") {g : JFrame} (hg : g.method = m) {a : Addr} {argsL rest : List Value} (hlen : ∀ sig, parseMethodDescriptor md.1.desc = some sig → argsL.length = sig.parameters.length) (hstack : g.stack = argsL.reverse ++ .ref a :: rest) (hdg : decode c.code g.pc = .ok (.invokespecial index, 3)) :
    fEnt p l e R s m args below meth c T locs cells slots g rest md.1 (Value.ref a :: argsL).toArray := by
  subst hg
  have hpl : e.platform.magicAccessors = ({} : Platform).magicAccessors := by rw [X.admits.platform]
  obtain ⟨mk, methM, cM, kP, vm₁, hnamed, hmethM, hcodeM, -, hlocalsM, -, hkP, -, hW₁, hstep₁⟩ := Steps.initColdArgsNest (e := e) X.here hexec X.warmed hpl hown hy1 hy hlink hinst hcode (f := g) rfl hlen hstack hdg
  have X₁ := X.noted hW₁
  exact ⟨vm₁, mk, _, X₁.warmed, X₁, X₁.named hnamed, hdg, fun target h => hstep₁ _ fun acts => by rw [doInvoke_state]; exact h⟩
end FEN
