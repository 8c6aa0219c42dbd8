/-! ===== what stands about the flat machine: words, old cells ===== -/
def fTb : List Cond := lw_tbl.filter goodWord
theorem fTb_of {w : Cond} (h : w ∈ lw_tbl) (hg : goodWord w = true) : w ∈ fTb := List.mem_filter.mpr ⟨h, hg⟩
theorem fTb_at {args : Array Value} {s U : State} (hts : ∀ w ∈ fTb, w.before args s = true) (hW : s.WarmedH U.vm) (a' : Array Value) : ∀ w ∈ fTb, w.before a' U = true := fun w hw => word_at hW (good_of_word (List.mem_filter.mp hw).2) (hts w hw)
def ftext : String := "table damp term fee sure cake walk work day piano tuner pupil teach fork home school hall stove slip frail open tuned found broke paid ate concert moved on known "
def ftextB : List Int32 := [116, 97, 98, 108, 101, 32, 100, 97, 109, 112, 32, 116, 101, 114, 109, 32, 102, 101, 101, 32, 115, 117, 114, 101, 32, 99, 97, 107, 101, 32, 119, 97, 108, 107, 32, 119, 111, 114, 107, 32, 100, 97, 121, 32, 112, 105, 97, 110, 111, 32, 116, 117, 110, 101, 114, 32, 112, 117, 112, 105, 108, 32, 116, 101, 97, 99, 104, 32, 102, 111, 114, 107, 32, 104, 111, 109, 101, 32, 115, 99, 104, 111, 111, 108, 32, 104, 97, 108, 108, 32, 115, 116, 111, 118, 101, 32, 115, 108, 105, 112, 32, 102, 114, 97, 105, 108, 32, 111, 112, 101, 110, 32, 116, 117, 110, 101, 100, 32, 102, 111, 117, 110, 100, 32, 98, 114, 111, 107, 101, 32, 112, 97, 105, 100, 32, 97, 116, 101, 32, 99, 111, 110, 99, 101, 114, 116, 32, 109, 111, 118, 101, 100, 32, 111, 110, 32, 107, 110, 111, 119, 110, 32]
def fol (G : fG) (k : Nat) : Nat := if k = 1000 then gL G else if k = 1001 then 6 else 4
def fXo (G : fG) (k : Nat) (U : State) (H : Heap) : Prop := ∃ n : Nat, fol G k ≤ n ∧ Int32.ofNat n = Int32.ofNat (fol G k) ∧ va_X (gO G k) n (gX G k) U H
theorem fXo.moved {G : fG} {k : Nat} {u U : State} {H : Heap} (hvm : u.vm.Alike U.vm) (h : fXo G k u H) : fXo G k U H := by
  obtain ⟨n, a, b, c⟩ := h
  exact ⟨n, a, b, c.moved hvm⟩
theorem fXo.kept {G : fG} {k : Nat} {U : State} {H H1 : Heap} (h : fXo G k U H) (hq : H1[gO G k]? = H[gO G k]?) : fXo G k U H1 := by
  obtain ⟨n, a, b, c⟩ := h
  exact ⟨n, a, b, c.kept hq⟩
def fOld (G : fG) (U : State) (H : Heap) : Prop :=
  (∀ k, 1000 ≤ k → k < 1004 → fXo G k U H ∧ gO G k < gN G) ∧
  (va_Z "TunerRounds$House" "RULES_UNTOLD" "[I" (.ref (gO G 1001)) (fIn G) U H ∧ va_Z "TunerRounds$House" "CHORD_STEPS" "[I" (.ref (gO G 1002)) (fIn G) U H ∧ va_Z "TunerRounds$House" "CHORD_TIMES" "[I" (.ref (gO G 1003)) (fIn G) U H) ∧
  (vx_Zq Bundle.tN "UNASSIGNED_STACK" Bundle.steD (fIn G) U H ∧ vx_Zq Bundle.tN "SUPPRESSED_SENTINEL" Bundle.listD (fIn G) U H) ∧
  (va_Nw (.methodLinkNest "TunerRounds" 25 ⟨"TunerRounds$Records", "<init>", "()V"⟩ "TunerRounds") U ∧ va_Nw (.methodLinkNest "TunerRounds$Standing" 86 ⟨"TunerRounds", "weekOf", "(I)I"⟩ "TunerRounds") U ∧ va_Nw (.methodLinkNest "TunerRounds$House" 98 ⟨"TunerRounds", "weekOf", "(I)I"⟩ "TunerRounds") U) ∧
  (va_Nw (.castable "java/util/NoSuchElementException" "java/util/NoSuchElementException") U ∧ va_Nw (.castable "java/lang/IllegalStateException" "java/lang/IllegalStateException") U) ∧
  (va_AO "TunerRounds$House" U ∧ va_AO "TunerRounds$Records" U ∧ va_Nw (.declares ⟨"java/lang/RuntimeException", "<init>", "()V"⟩) U ∧ va_Nw (.declares ⟨"java/lang/Exception", "<init>", "()V"⟩) U ∧ va_Nw (.declares ⟨"java/lang/Throwable", "<init>", "()V"⟩) U) ∧
  (vk_R "TunerRounds$Tape" 19 ftext (gO G 1004) U ∧ (va_Z "java/lang/String" "COMPACT_STRINGS" "Z" (.int 1) (fIn G) U H ∧ va_Zq "jdk/internal/util/Preconditions" "SIOOBE_FORMATTER" "Ljava/util/function/BiFunction;" (fIn G) U H) ∧ ∃ adV, vk_S 1 [162] [ftextB] (fun _ => gO G 1004) adV (fIn G) U H)
theorem fOld.at {G : fG} {s U : State} {H H1 : Heap} (hW : s.WarmedH U.vm) (h : fOld G s H) (hN : gN G ≤ H.size) (hq : ∀ a : Nat, a < H.size → ¬ fIn G a → H1[a]? = H[a]?) : fOld G U H1 := by
  obtain ⟨h1, ⟨h2, h3, h4⟩, ⟨h5, h6⟩, ⟨h7, h8, h9⟩, ⟨h10, h11⟩, ⟨h14, h15, h16, h17, h18⟩, h12, ⟨h19, h20⟩, adV, h13⟩ := h
  have hvm := hW.alike
  refine ⟨fun k a b => ⟨((h1 k a b).1.moved hvm).kept (hq _ (Nat.lt_of_lt_of_le (h1 k a b).2 hN) (Nat.not_le.mpr (h1 k a b).2)), (h1 k a b).2⟩, ⟨(h2.moved hvm).kept hq, (h3.moved hvm).kept hq, (h4.moved hvm).kept hq⟩, ⟨(h5.moved hvm).kept hq, (h6.moved hvm).kept hq⟩, ⟨h7.warmM hW, h8.warmM hW, h9.warmM hW⟩, ⟨h10.warmC hW, h11.warmC hW⟩, ⟨h14.moved hvm, h15.moved hvm, h16.warmD hW, h17.warmD hW, h18.warmD hW⟩, h12.warm hW, ⟨(h19.moved hvm).kept hq, (va_Zq.moved hvm h20).kept hq⟩, adV, (h13.moved hvm).kept hq⟩
/-- the whole of it in a state -/
def fWd (G : fG) (h : fH) (U : State) : Prop := fWh G h U.heap ∧ va_K (gD G) vwCl (fTys G) U ∧ fOld G U U.heap ∧ gN G ≤ U.heap.size ∧ (h.1 < fNC → U.heap.size ≤ gN G + h.1)
def fXn (e : Nat) : String := if e = 0 then "java/util/NoSuchElementException" else "java/lang/IllegalStateException"
def fCt (m : fD) : Cond := match fmH m with
  | [] => .code m.1 m.2.1 (fmL m) (fmR m)
  | hh => .codeWith m.1 m.2.1 (fmL m) (fmR m) (hh.map fun q => (q.1, q.2.1, q.2.2.1, q.2.2.2.1))
/-- what a method comes to, seen from its start s -/
def fPo (G : fG) (m : fD) (Q : fO → fH → Prop) (s : State) (o : Outcome) (t : State) : Prop :=
  (∃ (v : Option fV) (v' : Option Value) (h' : fH) (L : List Loc), o = .returned v' ∧ fRo G v v' ∧ Q (.inl v) h' ∧ fWd G h' t ∧ FrameEnd s o t L (fmC m) (fmS m) ∧ (∀ q ∈ L, fIn G q.base) ∧ va_F (fIn G) s t ∧ (h'.1 < fNC → s.heap.size + fmC m ≤ gN G + h'.1)) ∨
  (∃ (q : Addr) (e : Nat) (ce : Cell) (h' : fH) (L : List Loc), o = .threw q ∧ Q (.inr e) h' ∧ e < 2 ∧ fNC ≤ h'.1 ∧ fWd G h' t ∧ t.heap[q]? = some ce ∧ ce.vm = .none ∧ s.vm.findClass (fXn e) = some ce.cls ∧ s.WarmedH t.vm ∧ s.sameButNew ({ t with vm := s.vm } : State) L 1 6 ∧ (∀ z ∈ L, fIn G z.base) ∧ va_F (fIn G) s t)
def fEnd (G : fG) (m : fD) (Q : fO → fH → Prop) (below : List Frame) (s : State) : State → Prop := fun t => ∃ o, t.status = .running ∧ Ended t below o ∧ fPo G m Q s o t
/-- a method's frame -/
def fCx (G : fG) (md : fD) (p : Program) (l : Launch) (s : State) (m : MethodId) (args : Array Value) (meth : Method) (c : Code) : Prop :=
  p.tables.exec = Jvm.exec ∧ c.code = md.2.1 ∧ c.maxLocals = fmL md ∧ meth.sig.returnType = fmR md ∧ meth.locks = false ∧ s.vm.findClass md.1.cls = some m.cls ∧ (∀ w ∈ fTb, w.before args s = true) ∧
  va_K (gD G) vwCl (fTys G) s ∧ fOld G s s.heap ∧ gN G ≤ s.heap.size ∧ meth.name = md.1.name ∧ c.exceptionTable.toList = tableOf ((fmH md).map fun q => (q.1, q.2.1, q.2.2.1, q.2.2.2.1)) ∧ l.stackTraces = false
def fRm (d : Nat) (m : fD) : Room := { frames := d, cells := fmC m + 1, slots := fmS m + 6, locals := 40 * d }
/-- a method's contract -/
def fMt (G : fG) (l : Launch) (d : Nat) (m : fD) (h : fH) (av : List Value) (Q : fO → fH → Prop) : Prop :=
  MetFree l m.1 (headSpec fTb (fRm d m)) (fun a U => a = av.toArray ∧ fWd G h U) (fun _ _ _ _ _ => True) (fun _ st o t => fPo G m Q st o t)
