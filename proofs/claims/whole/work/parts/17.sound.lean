/-- what is asked of String's two methods at the one text -/
def fStrOK (G : fG) (l : Launch) : Prop :=
  (∀ (md : fD) (p : Program) (e : Env) (R : Room) (s : State) (m : MethodId) (args : Array Value) (below : List Frame) (meth : Method) (c : Code) (Q : fO → fH → Prop) (cu su pc x : Nat) (ls : fL) (t : List fV) (h : fH), fCx G md p l s m args meth c → md.1.cls = "TunerRounds$Tape" → Cond.methodLink md.1.cls x yJ0_length_8abf5 ∈ fTb → decode md.2.1 pc = .ok (.invokevirtual x, 3) → fsum t ≤ 8 → 4 ≤ R.frames → 160 ≤ R.locals → cu ≤ R.cells → su ≤ R.slots →
    fGo G md p l e R s m args below meth c Q cu su (pc + 3) ls (fI 162 :: t) h → fGo G md p l e R s m args below meth c Q cu su pc ls (fA 1004 :: t) h) ∧
  (∀ (md : fD) (p : Program) (e : Env) (R : Room) (s : State) (m : MethodId) (args : Array Value) (below : List Frame) (meth : Method) (c : Code) (Q : fO → fH → Prop) (cu su pc x : Nat) (ls : fL) (t : List fV) (h : fH) (z : Int), fCx G md p l s m args meth c → md.1.cls = "TunerRounds$Tape" → Cond.methodLink md.1.cls x yJ0_charAt_5068e ∈ fTb → decode md.2.1 pc = .ok (.invokevirtual x, 3) → fsum t ≤ 8 → 4 ≤ R.frames → 160 ≤ R.locals → cu ≤ R.cells → su ≤ R.slots → 0 ≤ z ∧ z < 162 →
    fGo G md p l e R s m args below meth c Q cu su (pc + 3) ls (fI (h.2.2 1004 z.toNat) :: t) h → fGo G md p l e R s m args below meth c Q cu su pc ls (fI z :: fA 1004 :: t) h)
theorem fbT {α : Type} {b : Bool} {x : Option α} {y : Option α} {P : Option α → Prop} (hy : ¬ P y) (h : P (bif b then x else y)) : b = true ∧ P x := by
  cases b
  · exact absurd h hy
  · exact ⟨rfl, h⟩
theorem f_and {a b : Bool} (h : (a && b) = true) : a = true ∧ b = true := by simpa using h
theorem f_or2 {a b : Bool} (h : (a || b) = true) : a = true ∨ b = true := by simpa using h
/-- one step's outcome, and what is owed of it -/
def fres (n : Nat) (Q : fO → fH → Prop) (h : fH) (r : fRs) : Prop := match r with
    | none => False
    | some (.inl (P, f', h')) => fall P ∧ fwp fmth n f' h' Q
    | some (.inr (.inl (c, f1, f2))) => (c → fwp fmth n f1 h Q) ∧ (¬ c → fwp fmth n f2 h Q)
    | some (.inr (.inr (.inl (v, lo, ts, dt, f')))) => fsw (fun x => fwp fmth n (fpc f' x) h Q) v lo ts dt
    | some (.inr (.inr (.inr (.inl (P, fc, fr, hd))))) => P ∧ fwp fmth n fc h (fbk fmth (fun f h => fwp fmth n f h Q) Q fc.2.1 fr hd)
    | some (.inr (.inr (.inr (.inr (P, o))))) => P ∧ Q o h
theorem fres_b {n : Nat} {Q : fO → fH → Prop} {h : fH} {b : Bool} {x : fRs} (H : fres n Q h (bif b then x else none)) : b = true ∧ fres n Q h x := by
  cases b
  · exact H.elim
  · exact ⟨rfl, H⟩
/-- THE FLAT MACHINE IS RIGHT -/
def fSnd (G : fG) (l : Launch) (n : Nat) : Prop := ∀ (d mid pc cu su : Nat) (ls : fL) (st : List fV) (h : fH) (Q : fO → fH → Prop), fwp fmth n (d, mid, pc, cu, su, ls, st) h Q → ∀ (p : Program) (e : Env) (R : Room) (s : State) (m : MethodId) (args : Array Value) (below : List Frame) (meth : Method) (c : Code), fCx G (fmth mid) p l s m args meth c → d ≤ R.frames → 40 * d ≤ R.locals → fmC (fmth mid) + 1 ≤ R.cells → fmS (fmth mid) + 6 ≤ R.slots → fGo G (fmth mid) p l e R s m args below meth c Q cu su pc ls st h
theorem flay_99 (k len : Nat) : ¬ flay k = some (.inr (99, len)) := by
  intro h
  have h1 := flay_ok k
  rw [h] at h1
  exact h1
theorem fwA0 : Cond.arrayClass .int ∈ fTb := fTb_of (List.mem_append_right _ (List.mem_of_getElem? (i := 241) (by decide +kernel))) (by decide +kernel)
theorem fwA1 : Cond.arrayClass .long ∈ fTb := fTb_of (List.mem_append_right _ (List.mem_of_getElem? (i := 134) (by decide +kernel))) (by decide +kernel)
theorem fwA2 : Cond.arrayClass .byte ∈ fTb := fTb_of (List.mem_append_right _ (List.mem_of_getElem? (i := 133) (by decide +kernel))) (by decide +kernel)
theorem fwA3 : Cond.arrayClass .boolean ∈ fTb := fTb_of (List.mem_append_right _ (List.mem_of_getElem? (i := 1736) (by decide +kernel))) (by decide +kernel)
section FMN
variable {G : fG} {l : Launch} {n : Nat} {mid pc cu su d : Nat} {ls : fL} {st : List fV} {N : Nat} {J : Nat → Nat → Nat} {M : fM} {Q : fO → fH → Prop} {p : Program} {e : Env} {R : Room} {s : State} {m : MethodId} {args : Array Value} {below : List Frame} {meth : Method} {c : Code}
/-- a call, whatever way it is done -/
theorem f_callgo (ih : fSnd G l n) (C : fCx G (fmth mid) p l s m args meth c) {q np : Nat} {as rest : List fV} (hR1 : d ≤ R.frames) (hR2 : 40 * d ≤ R.locals) (hR3 : fmC (fmth mid) + 1 ≤ R.cells) (hR4 : fmS (fmth mid) + 6 ≤ R.slots) (hok : fMok (fmth q)) (hnp : np = pc + 3)
    (H : fres n Q (N, J, M) (fcall fmth (fmth mid) d mid pc np cu su ls q as rest))
    (hlk : ∀ (x : Nat) (e9 : Nat), fhan (fmH (fmth mid)) pc = some (x, e9) → fHd (fmth mid) pc e9 x) (hnh : fhan (fmH (fmth mid)) pc = none → ∀ a b x ct e0, (a, b, x, ct, e0) ∈ fmH (fmth mid) → ¬ (a ≤ pc ∧ pc < b))
    (hen : ∀ (T : State) (H : Heap) (locs : List Loc) (A : Array Slot) (S : List Value), T.heap = H → Stand p l e R s m args below meth c T locs cu su → fWh G (N, J, M) H → fLR G ls (fmL (fmth mid)) A → fSR G st S → ∃ av rs, fSR G as av ∧ fSR G rest rs ∧ fEnt p l e R s m args below meth c T locs cu su (F0 m pc A S) rs (fmth q).1 av.toArray) :
    fGo G (fmth mid) p l e R s m args below meth c Q cu su pc ls st (N, J, M) := by
  unfold fcall at H
  rcases d with _ | d
  · exact H.elim
  obtain ⟨hb, H⟩ := fres_b H
  obtain ⟨hb1, hb2⟩ := f_and hb
  have hsum : fsum rest ≤ 8 := Nat.le_of_ble_eq_true hb1
  have hlen : (fent as).length ≤ fmL (fmth q) := Nat.le_of_ble_eq_true hb2
  obtain ⟨⟨hc1, hc2⟩, H⟩ := H
  have hml := hok.2.2.2.2
  have htr : l.stackTraces = false := C.2.2.2.2.2.2.2.2.2.2.2.2
  refine fs_call C (md' := fmth q) (d := d) (as := as) (rest := rest) hen (fun av hav => f_met htr hav hok hlen (fun p e R s m args below meth c C9 r1 r2 r3 r4 => ih d q 0 0 0 _ [] (N, J, M) _ H p e R s m args below meth c C9 r1 r2 r3 r4)) (by omega) (by omega) (by omega) (by omega) hok.1 hok.2.1 hsum (fun v h' hq => ?_) (fun e9 h' he hq => ?_)
  · have hq2 : fwp fmth n (d + 1, mid, np, cu + fmC (fmth q), su + fmS (fmth q), ls, v.toList ++ rest) h' Q := hq
    rw [← hnp]
    exact ih _ _ _ _ _ _ _ _ _ hq2 p e R s m args below meth c C hR1 hR2 hR3 hR4
  · cases hh : fhan (fmH (fmth mid)) pc with
    | none =>
      rw [hh] at hq
      have hq2 : (cu = 0 ∧ su = 0) ∧ Q (.inr e9) h' := hq
      exact Or.inl ⟨hnh hh, hq2.1.1, hq2.1.2, hq2.2⟩
    | some xe =>
      obtain ⟨x, e0⟩ := xe
      rw [hh] at hq
      have hq2 : (e9 = e0 ∧ cu + 1 ≤ fmC (fmth mid) ∧ su + 6 ≤ fmS (fmth mid)) ∧ fwp fmth n (d + 1, mid, x, cu + 1, su + 6, ls, [fA 9999]) h' Q := hq
      obtain ⟨⟨rfl, -, -⟩, hq3⟩ := hq2
      exact Or.inr ⟨x, hlk x e9 hh, ih _ _ _ _ _ _ _ _ _ hq3 p e R s m args below meth c C hR1 hR2 hR3 hR4⟩
/-- what is asked of a method's own handlers -/
def fHok (md : fD) : Prop := (∀ pc x e9, fhan (fmH md) pc = some (x, e9) → fHd md pc e9 x) ∧ ∀ pc, fhan (fmH md) pc = none → ∀ a b x ct e0, (a, b, x, ct, e0) ∈ fmH md → ¬ (a ≤ pc ∧ pc < b)
set_option maxHeartbeats 4000000 in
set_option maxRecDepth 100000 in
theorem f_step (hstr : fStrOK G l) (hL31 : gL G < 2 ^ 31) (hgood : ∀ k, fMg (fmth k)) (hhok : ∀ k, fHok (fmth k)) (ih : fSnd G l n) {i : Instr} {np : Nat} {tg : List Nat} (hE : fEok (fmth mid) pc i np tg) (C : fCx G (fmth mid) p l s m args meth c) (hR1 : d ≤ R.frames) (hR2 : 40 * d ≤ R.locals) (hR3 : fmC (fmth mid) + 1 ≤ R.cells) (hR4 : fmS (fmth mid) + 6 ≤ R.slots)
    (H : fres n Q (N, J, M) (fexec fmth (fmth mid) i np tg d mid pc cu su ls st N J M)) : fGo G (fmth mid) p l e R s m args below meth c Q cu su pc ls st (N, J, M) := by
  have go : ∀ {pc cu su : Nat} {ls : fL} {st : List fV} {h : fH}, fwp fmth n (d, mid, pc, cu, su, ls, st) h Q → fGo G (fmth mid) p l e R s m args below meth c Q cu su pc ls st h := fun H => ih _ _ _ _ _ _ _ _ _ H p e R s m args below meth c C hR1 hR2 hR3 hR4
  have hLk := (hgood mid).2
  cases i with
  | iconst z =>
    obtain ⟨hd, rfl, hn⟩ := hE
    exact fs_iconst C hd hn (go H.2)
  | bipush z =>
    obtain ⟨hd, rfl, hn⟩ := hE
    exact fs_bipush C hd hn (go H.2)
  | sipush z =>
    obtain ⟨hd, rfl, hn⟩ := hE
    exact fs_sipush C hd hn (go H.2)
  | lconst z =>
    obtain ⟨hd, rfl⟩ := hE
    exact fs_lconst C hd (go H.2)
  | iload k =>
    obtain ⟨hd, rfl⟩ := hE
    simp only [fexec] at H
    rcases hg : fget ls k with _ | (z | z | z) <;> rw [hg] at H <;> first | exact False.elim H | exact fs_iload C hd hg (go H.2)
  | iload_n k =>
    obtain ⟨hd, rfl⟩ := hE
    simp only [fexec] at H
    rcases hg : fget ls k.val with _ | (z | z | z) <;> rw [hg] at H <;> first | exact False.elim H | exact fs_iload_n C hd hg (go H.2)
  | lload k =>
    obtain ⟨hd, rfl⟩ := hE
    simp only [fexec] at H
    rcases hg : fget ls k with _ | (z | z | z) <;> rw [hg] at H <;> first | exact False.elim H | exact fs_lload C hd hg (go H.2)
  | lload_n k =>
    obtain ⟨hd, rfl⟩ := hE
    simp only [fexec] at H
    rcases hg : fget ls k.val with _ | (z | z | z) <;> rw [hg] at H <;> first | exact False.elim H | exact fs_lload_n C hd hg (go H.2)
  | aload k =>
    obtain ⟨hd, rfl⟩ := hE
    simp only [fexec] at H
    rcases hg : fget ls k with _ | (z | z | z) <;> rw [hg] at H <;> first | exact False.elim H | exact fs_aload C hd hg (go H.2)
  | aload_n k =>
    obtain ⟨hd, rfl⟩ := hE
    simp only [fexec] at H
    rcases hg : fget ls k.val with _ | (z | z | z) <;> rw [hg] at H <;> first | exact False.elim H | exact fs_aload_n C hd hg (go H.2)
  | istore k =>
    obtain ⟨hd, rfl⟩ := hE
    rcases st with _ | ⟨(z | z | z), t⟩ <;> first | exact False.elim H | (obtain ⟨hb, H⟩ := fres_b H; exact fs_istore C hd (Nat.blt_eq.mp hb) (go H.2))
  | istore_n k =>
    obtain ⟨hd, rfl⟩ := hE
    rcases st with _ | ⟨(z | z | z), t⟩ <;> first | exact False.elim H | (obtain ⟨hb, H⟩ := fres_b H; exact fs_istore_n C hd (Nat.blt_eq.mp hb) (go H.2))
  | lstore k =>
    obtain ⟨hd, rfl⟩ := hE
    rcases st with _ | ⟨(z | z | z), t⟩ <;> first | exact False.elim H | (obtain ⟨hb, H⟩ := fres_b H; exact fs_lstore C hd (Nat.blt_eq.mp hb) (go H.2))
  | lstore_n k =>
    obtain ⟨hd, rfl⟩ := hE
    rcases st with _ | ⟨(z | z | z), t⟩ <;> first | exact False.elim H | (obtain ⟨hb, H⟩ := fres_b H; exact fs_lstore_n C hd (Nat.blt_eq.mp hb) (go H.2))
  | astore k =>
    obtain ⟨hd, rfl⟩ := hE
    rcases st with _ | ⟨(z | z | z), t⟩ <;> first | exact False.elim H | (obtain ⟨hb, H⟩ := fres_b H; exact fs_astore C hd (Nat.blt_eq.mp hb) (go H.2))
  | astore_n k =>
    obtain ⟨hd, rfl⟩ := hE
    rcases st with _ | ⟨(z | z | z), t⟩ <;> first | exact False.elim H | (obtain ⟨hb, H⟩ := fres_b H; exact fs_astore_n C hd (Nat.blt_eq.mp hb) (go H.2))
  | iinc k z0 =>
    obtain ⟨hd, rfl, hn⟩ := hE
    simp only [fexec] at H
    rcases hg : fget ls k with _ | (z | z | z) <;> rw [hg] at H <;> first | exact False.elim H | (obtain ⟨hb, H⟩ := fres_b H; exact fs_iinc C hd hg (Nat.blt_eq.mp hb) hn (go H.2))
  | iadd =>
    obtain ⟨hd, rfl⟩ := hE
    rcases st with _ | ⟨(y | y | y), _ | ⟨(x | x | x), t⟩⟩ <;> first | exact False.elim H | exact fs_iadd C hd (go H.2)
  | isub =>
    obtain ⟨hd, rfl⟩ := hE
    rcases st with _ | ⟨(y | y | y), _ | ⟨(x | x | x), t⟩⟩ <;> first | exact False.elim H | exact fs_isub C hd (go H.2)
  | imul =>
    obtain ⟨hd, rfl⟩ := hE
    rcases st with _ | ⟨(y | y | y), _ | ⟨(x | x | x), t⟩⟩ <;> first | exact False.elim H | exact fs_imul C hd (go H.2)
  | iand =>
    obtain ⟨hd, rfl⟩ := hE
    rcases st with _ | ⟨(y | y | y), _ | ⟨(x | x | x), t⟩⟩ <;> first | exact False.elim H | exact fs_iand C hd (go H.2)
  | ior =>
    obtain ⟨hd, rfl⟩ := hE
    rcases st with _ | ⟨(y | y | y), _ | ⟨(x | x | x), t⟩⟩ <;> first | exact False.elim H | exact fs_ior C hd (go H.2)
  | ixor =>
    obtain ⟨hd, rfl⟩ := hE
    rcases st with _ | ⟨(y | y | y), _ | ⟨(x | x | x), t⟩⟩ <;> first | exact False.elim H | exact fs_ixor C hd (go H.2)
  | ishl =>
    obtain ⟨hd, rfl⟩ := hE
    rcases st with _ | ⟨(y | y | y), _ | ⟨(x | x | x), t⟩⟩ <;> first | exact False.elim H | exact fs_ishl C hd (go H.2)
  | ishr =>
    obtain ⟨hd, rfl⟩ := hE
    rcases st with _ | ⟨(y | y | y), _ | ⟨(x | x | x), t⟩⟩ <;> first | exact False.elim H | exact fs_ishr C hd (go H.2)
  | iushr =>
    obtain ⟨hd, rfl⟩ := hE
    rcases st with _ | ⟨(y | y | y), _ | ⟨(x | x | x), t⟩⟩ <;> first | exact False.elim H | exact fs_iushr C hd (go H.2)
  | ladd =>
    obtain ⟨hd, rfl⟩ := hE
    rcases st with _ | ⟨(y | y | y), _ | ⟨(x | x | x), t⟩⟩ <;> first | exact False.elim H | exact fs_ladd C hd (go H.2)
  | lsub =>
    obtain ⟨hd, rfl⟩ := hE
    rcases st with _ | ⟨(y | y | y), _ | ⟨(x | x | x), t⟩⟩ <;> first | exact False.elim H | exact fs_lsub C hd (go H.2)
  | lmul =>
    obtain ⟨hd, rfl⟩ := hE
    rcases st with _ | ⟨(y | y | y), _ | ⟨(x | x | x), t⟩⟩ <;> first | exact False.elim H | exact fs_lmul C hd (go H.2)
  | land =>
    obtain ⟨hd, rfl⟩ := hE
    rcases st with _ | ⟨(y | y | y), _ | ⟨(x | x | x), t⟩⟩ <;> first | exact False.elim H | exact fs_land C hd (go H.2)
  | lor =>
    obtain ⟨hd, rfl⟩ := hE
    rcases st with _ | ⟨(y | y | y), _ | ⟨(x | x | x), t⟩⟩ <;> first | exact False.elim H | exact fs_lor C hd (go H.2)
  | lshl =>
    obtain ⟨hd, rfl⟩ := hE
    rcases st with _ | ⟨(y | y | y), _ | ⟨(x | x | x), t⟩⟩ <;> first | exact False.elim H | exact fs_lshl C hd (go H.2)
  | lshr =>
    obtain ⟨hd, rfl⟩ := hE
    rcases st with _ | ⟨(y | y | y), _ | ⟨(x | x | x), t⟩⟩ <;> first | exact False.elim H | exact fs_lshr C hd (go H.2)
  | lcmp =>
    obtain ⟨hd, rfl⟩ := hE
    rcases st with _ | ⟨(y | y | y), _ | ⟨(x | x | x), t⟩⟩ <;> first | exact False.elim H | exact fs_lcmp C hd (go H.2)
  | idiv =>
    obtain ⟨hd, rfl⟩ := hE
    rcases st with _ | ⟨(y | y | y), _ | ⟨(x | x | x), t⟩⟩ <;> first | exact False.elim H | exact fs_idiv C hd H.1 (go H.2)
  | irem =>
    obtain ⟨hd, rfl⟩ := hE
    rcases st with _ | ⟨(y | y | y), _ | ⟨(x | x | x), t⟩⟩ <;> first | exact False.elim H | exact fs_irem C hd H.1 (go H.2)
  | ldiv =>
    obtain ⟨hd, rfl⟩ := hE
    rcases st with _ | ⟨(y | y | y), _ | ⟨(x | x | x), t⟩⟩ <;> first | exact False.elim H | exact fs_ldiv C hd H.1 (go H.2)
  | lrem =>
    obtain ⟨hd, rfl⟩ := hE
    rcases st with _ | ⟨(y | y | y), _ | ⟨(x | x | x), t⟩⟩ <;> first | exact False.elim H | exact fs_lrem C hd H.1 (go H.2)
  | ineg =>
    obtain ⟨hd, rfl⟩ := hE
    rcases st with _ | ⟨(x | x | x), t⟩ <;> first | exact False.elim H | exact fs_ineg C hd (go H.2)
  | lneg =>
    obtain ⟨hd, rfl⟩ := hE
    rcases st with _ | ⟨(x | x | x), t⟩ <;> first | exact False.elim H | exact fs_lneg C hd (go H.2)
  | i2l =>
    obtain ⟨hd, rfl⟩ := hE
    rcases st with _ | ⟨(x | x | x), t⟩ <;> first | exact False.elim H | exact fs_i2l C hd (go H.2)
  | l2i =>
    obtain ⟨hd, rfl⟩ := hE
    rcases st with _ | ⟨(x | x | x), t⟩ <;> first | exact False.elim H | exact fs_l2i C hd (go H.2)
  | i2b =>
    obtain ⟨hd, rfl⟩ := hE
    rcases st with _ | ⟨(x | x | x), t⟩ <;> first | exact False.elim H | exact fs_i2b C hd (go H.2)
  | dup =>
    obtain ⟨hd, rfl⟩ := hE
    rcases st with _ | ⟨(x | x | x), t⟩ <;> first | exact False.elim H | exact fs_dup_i C hd (go H.2) | exact fs_dup_a C hd (go H.2)
  | pop =>
    obtain ⟨hd, rfl⟩ := hE
    rcases st with _ | ⟨(x | x | x), t⟩ <;> first | exact False.elim H | exact fs_pop_i C hd (go H.2) | exact fs_pop_a C hd (go H.2)
  | dup2 =>
    obtain ⟨hd, rfl⟩ := hE
    rcases st with _ | ⟨(y | y | y), _ | ⟨(x | x | x), t⟩⟩ <;> first | exact False.elim H | exact fs_dup2 C hd (go H.2)
  | goto off =>
    obtain ⟨hd, x, rfl, hx⟩ := hE
    exact fs_goto C hd hx (go H.2)
  | ifCond cd off =>
    obtain ⟨hd, rfl, x, rfl, hx⟩ := hE
    rcases st with _ | ⟨(z | z | z), t⟩ <;> first | exact False.elim H | exact fs_if C hd hx (fun q => go (H.1 q)) (fun q => go (H.2 q))
  | if_icmp cd off =>
    obtain ⟨hd, rfl, x, rfl, hx⟩ := hE
    rcases st with _ | ⟨(y | y | y), _ | ⟨(z | z | z), t⟩⟩ <;> first | exact False.elim H | exact fs_icmp C hd hx (fun q => go (H.1 q)) (fun q => go (H.2 q))
  | tableswitch df lo hi offs =>
    obtain ⟨⟨len, hd⟩, dt, ts, rfl, h1, h2, h3⟩ := hE
    rcases st with _ | ⟨(z | z | z), t⟩ <;> first | exact False.elim H | exact fs_switch C hd h1 h2 h3 (fsw_mono (fun x hx => go hx) ts lo dt H)
  | getfield x =>
    obtain ⟨hd, rfl⟩ := hE
    simp only [fexec] at H
    rcases st with _ | ⟨(z | z | o), t⟩ <;> try exact False.elim H
    cases hk : flk1 (fmK (fmth mid)) x with
    | none => rw [hk] at H; exact False.elim H
    | some q =>
      have hF := hLk x q hk
      rw [hk] at H
      obtain ⟨tag, ci, k, kd, zz⟩ := q
      rcases tag with _ | tag
      · obtain ⟨hb, H⟩ := fres_b H
        obtain ⟨hb1, hb2⟩ := f_and hb
        have ho : o < N := Nat.blt_eq.mp hb1
        have hl := fisO_spec hb2
        rcases kd with _ | _ | kd
        · exact fs_getf0 C hF hd ho hl (go H.2)
        · exact fs_getf1 C hF hd ho hl (go H.2)
        · cases hJ : J o k with
          | zero => simp only [hJ] at H; exact False.elim H
          | succ q =>
            simp only [hJ] at H
            obtain ⟨hb3, H⟩ := fres_b H
            intro hc HH locs A S hW hS hL hR
            have hnc : N ≤ 156 := hW.2.2
            have hq : q < N := Nat.blt_eq.mp hb3
            exact fs_getf2 C (by omega) hF hd ho hl hJ (by omega) (go H.2) hc HH locs A S hW hS hL hR
      · exact False.elim H
  | putfield x =>
    obtain ⟨hd, rfl, hfin⟩ := hE
    simp only [fexec] at H
    cases hk : flk1 (fmK (fmth mid)) x with
    | none => rcases st with _ | ⟨(z | z | z), _ | ⟨(o | o | o), t⟩⟩ <;> rw [hk] at H <;> exact False.elim H
    | some q =>
      have hF := hLk x q hk
      obtain ⟨tag, ci, k, kd, zz⟩ := q
      rcases tag with _ | tag
      · have hfn := hfin ci k kd zz hk
        rcases st with _ | ⟨(z | z | z), _ | ⟨(o | o | o), t⟩⟩ <;> rw [hk] at H <;> try exact False.elim H
        · rcases kd with _ | _ | kd <;> try exact False.elim H
          obtain ⟨hb, H⟩ := fres_b H
          obtain ⟨hb1, hb2⟩ := f_and hb
          exact fs_putf0 C hF hfn hd (Nat.blt_eq.mp hb1) (fisO_spec hb2) (go H.2)
        · rcases kd with _ | _ | kd <;> try exact False.elim H
          obtain ⟨hb, H⟩ := fres_b H
          obtain ⟨hb1, hb2⟩ := f_and hb
          exact fs_putf1 C hF hfn hd (Nat.blt_eq.mp hb1) (fisO_spec hb2) (go H.2)
        · rcases kd with _ | _ | kd <;> try exact False.elim H
          obtain ⟨hb, H⟩ := fres_b H
          obtain ⟨hb0, hb3⟩ := f_and hb
          obtain ⟨hb1, hb2⟩ := f_and hb0
          exact fs_putf2 C (by omega) hF hfn hd (Nat.blt_eq.mp hb1) (fisO_spec hb2) (Nat.blt_eq.mp hb3) (go H.2)
      · rcases st with _ | ⟨(z | z | z), _ | ⟨(o | o | o), t⟩⟩ <;> rw [hk] at H <;> exact False.elim H
  | getstatic x =>
    obtain ⟨hd, rfl⟩ := hE
    simp only [fexec] at H
    cases hk : flk1 (fmK (fmth mid)) x with
    | none => simp only [hk] at H; exact False.elim H
    | some q =>
      have hF := hLk x q hk
      simp only [hk] at H
      obtain ⟨tag, a1, a2, a3, zz⟩ := q
      rcases tag with _ | _ | _ | _ | _ | _ | _ | _ | _ | _ | _ | _ | _ | _ | _ | _ | _ | tag
      · exact False.elim H
      · exact False.elim H
      · exact False.elim H
      · exact False.elim H
      · exact False.elim H
      · exact False.elim H
      · exact False.elim H
      · exact False.elim H
      · exact False.elim H
      · exact fs_gets C hF.1 hF.2 hd (go H.2)
      · exact False.elim H
      · exact False.elim H
      · exact False.elim H
      · exact False.elim H
      · exact False.elim H
      · exact False.elim H
      · exact False.elim H
      · exact False.elim H
  | ldc x =>
    obtain ⟨hd, rfl⟩ := hE
    simp only [fexec] at H
    cases hk : flk1 (fmK (fmth mid)) x with
    | none => simp only [hk] at H; exact False.elim H
    | some q =>
      have hF := hLk x q hk
      simp only [hk] at H
      obtain ⟨tag, a1, a2, a3, zz⟩ := q
      rcases tag with _ | _ | _ | _ | _ | _ | _ | _ | _ | _ | _ | _ | _ | _ | _ | _ | _ | tag
      · exact False.elim H
      · exact False.elim H
      · exact False.elim H
      · exact False.elim H
      · exact False.elim H
      · exact False.elim H
      · exact False.elim H
      · obtain ⟨w, rfl, hw⟩ := hF
        exact fs_ldc C hw hd (go H.2)
      · exact False.elim H
      · exact False.elim H
      · exact False.elim H
      · exact False.elim H
      · exact False.elim H
      · exact False.elim H
      · obtain ⟨h1, rfl, rfl⟩ := hF
        exact fs_ldcS C h1 hd (go H.2)
      · exact False.elim H
      · exact False.elim H
      · exact False.elim H
  | ldc_w x =>
    obtain ⟨hd, rfl⟩ := hE
    simp only [fexec] at H
    cases hk : flk1 (fmK (fmth mid)) x with
    | none => simp only [hk] at H; exact False.elim H
    | some q =>
      have hF := hLk x q hk
      simp only [hk] at H
      obtain ⟨tag, a1, a2, a3, zz⟩ := q
      rcases tag with _ | _ | _ | _ | _ | _ | _ | _ | _ | _ | _ | _ | _ | _ | _ | _ | _ | tag
      · exact False.elim H
      · exact False.elim H
      · exact False.elim H
      · exact False.elim H
      · exact False.elim H
      · exact False.elim H
      · exact False.elim H
      · obtain ⟨w, rfl, hw⟩ := hF
        exact fs_ldcw C hw hd (go H.2)
      · exact False.elim H
      · exact False.elim H
      · exact False.elim H
      · exact False.elim H
      · exact False.elim H
      · exact False.elim H
      · exact False.elim H
      · exact False.elim H
      · exact False.elim H
      · exact False.elim H
  | ldc2_w x =>
    obtain ⟨hd, rfl⟩ := hE
    simp only [fexec] at H
    cases hk : flk1 (fmK (fmth mid)) x with
    | none => simp only [hk] at H; exact False.elim H
    | some q =>
      have hF := hLk x q hk
      simp only [hk] at H
      obtain ⟨tag, a1, a2, a3, zz⟩ := q
      rcases tag with _ | _ | _ | _ | _ | _ | _ | _ | _ | _ | _ | _ | _ | _ | _ | _ | _ | tag
      · exact False.elim H
      · exact False.elim H
      · exact False.elim H
      · exact False.elim H
      · exact False.elim H
      · exact False.elim H
      · exact False.elim H
      · exact False.elim H
      · obtain ⟨w, rfl, hw⟩ := hF
        exact fs_ldc2 C hw hd (go H.2)
      · exact False.elim H
      · exact False.elim H
      · exact False.elim H
      · exact False.elim H
      · exact False.elim H
      · exact False.elim H
      · exact False.elim H
      · exact False.elim H
      · exact False.elim H
  | iaload =>
    obtain ⟨hd, rfl⟩ := hE
    rcases st with _ | ⟨(z | z | z), _ | ⟨(o | o | o), t⟩⟩ <;> try exact False.elim H
    obtain ⟨hb, H⟩ := fres_b H
    rcases fisI_spec hb with ⟨len, hl, ho⟩ | ⟨len, hl⟩ | ⟨len, hl⟩
    · exact fs_iald C hd ho hl H.1 (go H.2)
    · obtain ⟨h1, h2, h3, -⟩ := flay_9 hl
      exact fs_ialdo C hd ⟨h1, h2⟩ H.1 (h3 J G) (go H.2)
    · obtain ⟨h1, h2, h3, -⟩ := flay_10 hl
      exact fs_ialdo C hd ⟨h1, h2⟩ H.1 (h3 J G) (go H.2)
  | baload =>
    obtain ⟨hd, rfl⟩ := hE
    rcases st with _ | ⟨(z | z | z), _ | ⟨(o | o | o), t⟩⟩ <;> try exact False.elim H
    obtain ⟨hb, H⟩ := fres_b H
    obtain ⟨hb1, hb2⟩ := f_and hb
    rcases f_or2 hb2 with hb3 | hb3
    · obtain ⟨len, hl⟩ := fisT_spec hb3
      exact fs_bald C hd (Nat.blt_eq.mp hb1) hl H.1 (go H.2)
    · obtain ⟨len, hl⟩ := fisT_spec hb3
      exact fs_zald C hd (Nat.blt_eq.mp hb1) hl H.1 (go H.2)
  | laload =>
    obtain ⟨hd, rfl⟩ := hE
    rcases st with _ | ⟨(z | z | z), _ | ⟨(o | o | o), t⟩⟩ <;> try exact False.elim H
    obtain ⟨hb, H⟩ := fres_b H
    obtain ⟨hb1, hb2⟩ := f_and hb
    obtain ⟨len, hl⟩ := fisT_spec hb2
    exact fs_lald C hd (Nat.blt_eq.mp hb1) hl H.1 (go H.2)
  | aaload =>
    obtain ⟨hd, rfl⟩ := hE
    rcases st with _ | ⟨(z | z | z), _ | ⟨(o | o | o), t⟩⟩ <;> try exact False.elim H
    obtain ⟨hb, H⟩ := fres_b H
    obtain ⟨hb1, hb2⟩ := f_and hb
    obtain ⟨ty, len, hty, hl⟩ : ∃ ty len, (ty = 4 ∨ ty = 5) ∧ flay o = some (.inr (ty, len)) := by
      rcases f_or2 hb2 with hb3 | hb3
      · obtain ⟨len, hl⟩ := fisT_spec hb3
        exact ⟨4, len, Or.inl rfl, hl⟩
      · obtain ⟨len, hl⟩ := fisT_spec hb3
        exact ⟨5, len, Or.inr rfl, hl⟩
    cases hJ : J o z.toNat with
    | zero => simp only [hJ] at H; exact False.elim H
    | succ q =>
      simp only [hJ] at H
      obtain ⟨hb4, H⟩ := fres_b H
      exact fs_aald C hty hd (Nat.blt_eq.mp hb1) hl H.1 hJ (Nat.blt_eq.mp hb4) (go H.2)
  | iastore =>
    obtain ⟨hd, rfl⟩ := hE
    rcases st with _ | ⟨(v | v | v), _ | ⟨(z | z | z), _ | ⟨(o | o | o), t⟩⟩⟩ <;> try exact False.elim H
    obtain ⟨hb, H⟩ := fres_b H
    obtain ⟨hb1, hb2⟩ := f_and hb
    obtain ⟨len, hl⟩ := fisT_spec hb2
    exact fs_iast C hd (Nat.blt_eq.mp hb1) hl H.1 (go H.2)
  | lastore =>
    obtain ⟨hd, rfl⟩ := hE
    rcases st with _ | ⟨(v | v | v), _ | ⟨(z | z | z), _ | ⟨(o | o | o), t⟩⟩⟩ <;> try exact False.elim H
    obtain ⟨hb, H⟩ := fres_b H
    obtain ⟨hb1, hb2⟩ := f_and hb
    obtain ⟨len, hl⟩ := fisT_spec hb2
    exact fs_last C hd (Nat.blt_eq.mp hb1) hl H.1 (go H.2)
  | bastore =>
    obtain ⟨hd, rfl⟩ := hE
    rcases st with _ | ⟨(v | v | v), _ | ⟨(z | z | z), _ | ⟨(o | o | o), t⟩⟩⟩ <;> try exact False.elim H
    simp only [fexec] at H
    cases hb : (Nat.blt o N && fisT (flay o) 2) with
    | true =>
      simp only [hb] at H
      obtain ⟨hb1, hb2⟩ := f_and hb
      obtain ⟨len, hl⟩ := fisT_spec hb2
      exact fs_bast C hd (Nat.blt_eq.mp hb1) hl H.1 (go H.2)
    | false =>
      simp only [hb] at H
      obtain ⟨hb, H⟩ := fres_b H
      obtain ⟨hb1, hb2⟩ := f_and hb
      obtain ⟨len, hl⟩ := fisT_spec hb2
      exact fs_zast C hd (Nat.blt_eq.mp hb1) hl H.1 (go H.2)
  | aastore =>
    obtain ⟨hd, rfl⟩ := hE
    rcases st with _ | ⟨(v | v | v), _ | ⟨(z | z | z), _ | ⟨(o | o | o), t⟩⟩⟩ <;> try exact False.elim H
    obtain ⟨hb, H⟩ := fres_b H
    obtain ⟨hb0, hb4⟩ := f_and hb
    obtain ⟨hb1, hb2⟩ := f_and hb0
    rcases f_or2 hb4 with hb3 | hb3
    · obtain ⟨hb5, hb6⟩ := f_and hb3
      obtain ⟨len, hl⟩ := fisT_spec hb5
      exact fs_aast C (Or.inl ⟨rfl, rfl⟩) hd (Nat.blt_eq.mp hb1) hl H.1 (Nat.blt_eq.mp hb2) (fisO_spec hb6) (go H.2)
    · obtain ⟨hb5, hb6⟩ := f_and hb3
      obtain ⟨len, hl⟩ := fisT_spec hb5
      exact fs_aast C (Or.inr ⟨rfl, rfl⟩) hd (Nat.blt_eq.mp hb1) hl H.1 (Nat.blt_eq.mp hb2) (fisO_spec hb6) (go H.2)
  | arraylength =>
    obtain ⟨hd, rfl⟩ := hE
    rcases st with _ | ⟨(o | o | o), t⟩ <;> try exact False.elim H
    obtain ⟨hb, H⟩ := fres_b H
    rcases fisI_spec hb with ⟨len, hl, ho⟩ | ⟨len, hl⟩ | ⟨len, hl⟩
    · exact fs_alen C hd ho hl (by have := flay_len hl (by decide); omega) (go H.2)
    · obtain ⟨h1, h2, h3, -⟩ := flay_9 hl
      exact fs_aleno C hd ⟨h1, h2⟩ hL31 (h3 J G) (go H.2)
    · obtain ⟨h1, h2, h3, -⟩ := flay_10 hl
      exact fs_aleno C hd ⟨h1, h2⟩ hL31 (h3 J G) (go H.2)
  | new x =>
    obtain ⟨hd, rfl, hthr⟩ := hE
    simp only [fexec] at H
    cases hk : flk1 (fmK (fmth mid)) x with
    | none => simp only [hk] at H; exact False.elim H
    | some q =>
      have hF := hLk x q hk
      simp only [hk] at H
      obtain ⟨tag, a1, a2, a3, zz⟩ := q
      rcases tag with _ | _ | _ | _ | _ | _ | _ | _ | _ | _ | _ | _ | _ | _ | _ | _ | _ | tag
      · exact False.elim H
      · exact False.elim H
      · exact False.elim H
      · exact False.elim H
      · exact False.elim H
      · obtain ⟨hb, H⟩ := fres_b H
        obtain ⟨hb1, hb2⟩ := f_and hb
        obtain ⟨⟨hc1, hc2⟩, H⟩ := H
        exact fs_new C hF.1 hd (Nat.blt_eq.mp hb1) (fisO_spec hb2) (by omega) (by omega) (go H)
      · obtain ⟨hb, H⟩ := fres_b H
        obtain ⟨hb0, hb3⟩ := f_and hb
        obtain ⟨hb1, hb2⟩ := f_and hb0
        obtain ⟨⟨hd7, rfl, rfl⟩, hQ⟩ := H
        obtain ⟨d3, d4, d7, hno⟩ := hthr a1 a2 a3 zz hk
        exact fs_throw C (Nat.blt_eq.mp hb3) hF hd d3 d4 d7 hno (Nat.le_of_ble_eq_true hb1) (by omega) (by omega) (by omega) (by omega) (Nat.le_of_ble_eq_true hb2) hQ
      · exact False.elim H
      · exact False.elim H
      · exact False.elim H
      · exact False.elim H
      · exact False.elim H
      · exact False.elim H
      · exact False.elim H
      · exact False.elim H
      · exact False.elim H
      · exact False.elim H
      · exact False.elim H
  | newarray ty =>
    obtain ⟨hd, rfl⟩ := hE
    rcases st with _ | ⟨(z | z | z), t⟩ <;> try exact False.elim H
    obtain ⟨hb, H⟩ := fres_b H
    obtain ⟨hb1, hb2⟩ := f_and hb
    obtain ⟨len, hl⟩ := fisT_spec hb2
    obtain ⟨⟨hc0, hc1, hc2⟩, H⟩ := H
    have hn := Nat.blt_eq.mp hb1
    cases ty <;> try (exfalso; have h1 := flay_ok N; rw [hl] at h1; exact absurd hl (flay_99 N len))
    · have e1 : flenJ J N = len := flenJ_a hl (by decide)
      rw [e1] at hc0 hc2 H
      exact fs_newa_boolean C hd fwA3 hn hl hc0 (flay_len hl (by decide)) (by omega) (by omega) (go H)
    · have e1 : flenJ J N = len := flenJ_a hl (by decide)
      rw [e1] at hc0 hc2 H
      exact fs_newa_byte C hd fwA2 hn hl hc0 (flay_len hl (by decide)) (by omega) (by omega) (go H)
    · have e1 : flenJ J N = len := flenJ_a hl (by decide)
      rw [e1] at hc0 hc2 H
      exact fs_newa_int C hd fwA0 hn hl hc0 (flay_len hl (by decide)) (by omega) (by omega) (go H)
    · have e1 : flenJ J N = len := flenJ_a hl (by decide)
      rw [e1] at hc0 hc2 H
      exact fs_newa_long C hd fwA1 hn hl hc0 (flay_len hl (by decide)) (by omega) (by omega) (go H)
  | anewarray x =>
    obtain ⟨hd, rfl⟩ := hE
    simp only [fexec] at H
    rcases st with _ | ⟨(z | z | z), t⟩ <;> try exact False.elim H
    cases hk : flk1 (fmK (fmth mid)) x with
    | none => simp only [hk] at H; exact False.elim H
    | some q =>
      have hF := hLk x q hk
      simp only [hk] at H
      obtain ⟨tag, a1, a2, a3, zz⟩ := q
      rcases tag with _ | _ | _ | _ | _ | _ | _ | _ | _ | _ | _ | _ | _ | _ | _ | _ | _ | tag
      · exact False.elim H
      · exact False.elim H
      · exact False.elim H
      · exact False.elim H
      · exact False.elim H
      · obtain ⟨hb, H⟩ := fres_b H
        obtain ⟨hb0, hb3⟩ := f_and hb
        obtain ⟨hb1, hb2⟩ := f_and hb0
        obtain ⟨len, hl⟩ := fisT_spec hb2
        obtain ⟨⟨hc0, hc1, hc2⟩, H1⟩ := H
        have hn := Nat.blt_eq.mp hb1
        rcases f_or2 hb3 with hb4 | hb4
        · have e0 : a3 = 4 := Nat.eq_of_beq_eq_true hb4
          rw [e0] at hl hF
          have e1 : flenJ J N = len := flenJ_a hl (by decide)
          rw [e1] at hc0 hc2 H1
          exact fs_newq_4 C hd (hF.2.1 rfl) hn hl hc0 (flay_len hl (by decide)) (by omega) (by omega) (go H1)
        · have e0 : a3 = 5 := Nat.eq_of_beq_eq_true hb4
          rw [e0] at hl hF
          have e1 : flenJ J N = len := flenJ_a hl (by decide)
          rw [e1] at hc0 hc2 H1
          exact fs_newq_5 C hd (hF.2.2 rfl) hn hl hc0 (flay_len hl (by decide)) (by omega) (by omega) (go H1)
      · exact False.elim H
      · exact False.elim H
      · exact False.elim H
      · exact False.elim H
      · exact False.elim H
      · exact False.elim H
      · exact False.elim H
      · exact False.elim H
      · exact False.elim H
      · exact False.elim H
      · exact False.elim H
      · exact False.elim H
  | invokevirtual x =>
    obtain ⟨hd, rfl⟩ := hE
    simp only [fexec] at H
    cases hk : flk1 (fmK (fmth mid)) x with
    | none => simp only [hk] at H; exact False.elim H
    | some q =>
      have hF := hLk x q hk
      simp only [hk] at H
      obtain ⟨tag, a1, a2, a3, zz⟩ := q
      rcases tag with _ | _ | _ | _ | _ | _ | _ | _ | _ | _ | _ | _ | _ | _ | _ | _ | _ | tag
      · exact False.elim H
      · cases hpp : fpop a2 st [] with
        | none => simp only [hpp] at H; exact False.elim H
        | some ap =>
          obtain ⟨as, rst⟩ := ap
          simp only [hpp] at H
          rcases rst with _ | ⟨(o | o | o), t⟩ <;> try exact False.elim H
          obtain ⟨hb, H⟩ := fres_b H
          obtain ⟨hb1, hb2⟩ := f_and hb
          have ho := Nat.blt_eq.mp hb1
          have hl := fisO_spec hb2
          obtain ⟨hok, hpar, hl1, hl2, Cn, T0, N0, hcl, hl3⟩ := hF
          refine f_callgo ih C hR1 hR2 hR3 hR4 hok rfl H (fun x e9 hx => (hhok mid).1 pc x e9 hx) ((hhok mid).2 pc) (fun T HH locs A S hT X hW hL hR => ?_)
          obtain ⟨kR, restR, h1, h2, h3, h4⟩ := fpop_spec a2 st [] as (fA o :: t) S [] hpp hR trivial
          rw [List.append_nil] at h1
          obtain ⟨b, U, rfl, hb9, hU⟩ := fSR_c h3
          have hnc := hW.2.2
          obtain rfl := fR_a hb9 (f_ne99 ho hnc)
          refine ⟨Value.ref (fAd G o) :: kR, U, ⟨hb9, h1⟩, hU, ?_⟩
          have hpl : ∀ sig, parseMethodDescriptor (fmth a1).1.desc = some sig → kR.length = sig.parameters.length := fun sig hs => by
            have h9 := hpar
            unfold fPar at h9
            rw [hs] at h9
            rw [h4]
            exact (Option.some.inj h9).symm
          obtain ⟨hx, hb0, -, -, -, hown, hts, hK, hOld, -⟩ := id C
          have hg := fWs_get (G := G) (h := (N, J, M)) ho
          rw [fE_o hl] at hg
          obtain ⟨cell, g1, g2, g3⟩ := va_recv hK hW.1 hcl hg
          refine f_enV X hx hown (hts _ hl1) (hts _ hl2) (hts _ hl3) (hts _ hok.1) hok.2.2.2.1 (by rw [hT, fAd_lt ho hnc]; exact g1) g2 g3 rfl hpl (by rw [h2]) (by rw [hb0]; exact hd)
      · exact False.elim H
      · exact False.elim H
      · exact False.elim H
      · exact False.elim H
      · exact False.elim H
      · exact False.elim H
      · exact False.elim H
      · exact False.elim H
      · exact False.elim H
      · exact False.elim H
      · rcases st with _ | ⟨(o | o | o), t⟩ <;> try exact False.elim H
        obtain ⟨hb, H⟩ := fres_b H
        obtain ⟨hb1, hb2⟩ := f_and hb
        obtain ⟨len, hl⟩ := fisT_spec hb1
        have h9 := flay_ok o
        rw [hl] at h9
        obtain ⟨rfl, rfl⟩ : o = 1004 ∧ len = 162 := h9
        have e1 : flenJ J 1004 = 162 := flenJ_a hl (by decide)
        obtain ⟨⟨h4d, h4c, h4s⟩, H⟩ := H
        rw [e1] at H
        exact hstr.1 _ p e R s m args below meth c Q cu su pc x ls t _ C hF.1 hF.2 hd (Nat.le_of_ble_eq_true hb2) (by omega) (by omega) (by omega) (by omega) (go H)
      · rcases st with _ | ⟨(z | z | z), _ | ⟨(o | o | o), t⟩⟩ <;> try exact False.elim H
        obtain ⟨hb, H⟩ := fres_b H
        obtain ⟨hb1, hb2⟩ := f_and hb
        obtain ⟨len, hl⟩ := fisT_spec hb1
        have h9 := flay_ok o
        rw [hl] at h9
        obtain ⟨rfl, rfl⟩ : o = 1004 ∧ len = 162 := h9
        have e1 : flenJ J 1004 = 162 := flenJ_a hl (by decide)
        obtain ⟨⟨⟨h4d, h4c, h4s⟩, hz⟩, H⟩ := H
        rw [e1] at hz
        exact hstr.2 _ p e R s m args below meth c Q cu su pc x ls t (N, J, M) z C hF.1 hF.2 hd (Nat.le_of_ble_eq_true hb2) (by omega) (by omega) (by omega) (by omega) hz (go H)
      · exact False.elim H
      · exact False.elim H
      · exact False.elim H
      · exact False.elim H
  | invokestatic x =>
    obtain ⟨hd, rfl⟩ := hE
    simp only [fexec] at H
    cases hk : flk1 (fmK (fmth mid)) x with
    | none => simp only [hk] at H; exact False.elim H
    | some q =>
      have hF := hLk x q hk
      simp only [hk] at H
      obtain ⟨tag, a1, a2, a3, zz⟩ := q
      rcases tag with _ | _ | _ | _ | _ | _ | _ | _ | _ | _ | _ | _ | _ | _ | _ | _ | _ | tag
      · exact False.elim H
      · exact False.elim H
      · cases hpp : fpop a2 st [] with
        | none => simp only [hpp] at H; exact False.elim H
        | some ap =>
          obtain ⟨as, t⟩ := ap
          simp only [hpp] at H
          obtain ⟨hok, hpar, hl1, hl2⟩ := hF
          refine f_callgo ih C hR1 hR2 hR3 hR4 hok rfl H (fun x e9 hx => (hhok mid).1 pc x e9 hx) ((hhok mid).2 pc) (fun T HH locs A S hT X hW hL hR => ?_)
          obtain ⟨kR, restR, h1, h2, h3, h4⟩ := fpop_spec a2 st [] as t S [] hpp hR trivial
          rw [List.append_nil] at h1
          refine ⟨kR, restR, h1, h3, ?_⟩
          have hpl : ∀ sig, parseMethodDescriptor (fmth a1).1.desc = some sig → kR.length = sig.parameters.length := fun sig hs => by
            have h9 := hpar
            unfold fPar at h9
            rw [hs] at h9
            rw [h4]
            exact (Option.some.inj h9).symm
          obtain ⟨hx, hb0, -, -, -, hown, hts, hK, hOld, -⟩ := id C
          exact f_enS X hx hown (hts _ hl1) (hts _ hl2) (hts _ hok.2.1) (hts _ hok.1) hok.2.2.2.1 rfl hpl (by rw [h2]) (by rw [hb0]; exact hd)
      · exact False.elim H
      · exact False.elim H
      · exact False.elim H
      · exact False.elim H
      · exact False.elim H
      · exact False.elim H
      · exact False.elim H
      · rcases st with _ | ⟨(cn | cn | cn), _ | ⟨(j | j | j), _ | ⟨(q | q | q), _ | ⟨(i | i | i), _ | ⟨(o | o | o), t⟩⟩⟩⟩⟩ <;> try exact False.elim H
        obtain ⟨hb, H⟩ := fres_b H
        obtain ⟨hb0, hb3⟩ := f_and hb
        obtain ⟨hb1, hb2⟩ := f_and hb0
        have hsum := Nat.le_of_ble_eq_true hb1
        have hq := Nat.blt_eq.mp hb2
        obtain ⟨⟨hd1, hz⟩, H⟩ := H
        have hd1 : 1 ≤ d := hd1
        have hw : nativeFrameWords "java/lang/System" "arraycopy" 5 ≤ 21 := by decide +kernel
        rcases f_or2 hb3 with hb4 | hb4
        · obtain ⟨hb5, hb6⟩ := f_and hb4
          obtain ⟨lq, hlq⟩ := fisT_spec hb6
          rcases fisI_spec hb5 with ⟨len, hl, ho⟩ | ⟨len, hl⟩ | ⟨len, hl⟩
          · exact fs_copyi C hF hd hsum (by omega) (by omega) hq hlq ho hl hz (go H)
          · obtain ⟨h1, h2, h3, h4⟩ := flay_9 hl
            exact fs_copyo C hF hd hsum (by omega) (by omega) hq hlq ⟨h1, h2⟩ h4 (h3 J G) hz (go H)
          · obtain ⟨h1, h2, h3, h4⟩ := flay_10 hl
            exact fs_copyo C hF hd hsum (by omega) (by omega) hq hlq ⟨h1, h2⟩ h4 (h3 J G) hz (go H)
        · obtain ⟨hb5, hb6⟩ := f_and hb4
          obtain ⟨hb7, hb8⟩ := f_and hb5
          obtain ⟨lq, hlq⟩ := fisT_spec hb6
          obtain ⟨len, hl⟩ := fisT_spec hb8
          exact fs_copyl C hF hd hsum (by omega) (by omega) hq hlq (Nat.blt_eq.mp hb7) hl hz (go H)
      · exact False.elim H
      · exact False.elim H
      · exact False.elim H
      · exact False.elim H
      · cases hpp : fpop a2 st [] with
        | none => simp only [hpp] at H; exact False.elim H
        | some ap =>
          obtain ⟨as, t⟩ := ap
          simp only [hpp] at H
          obtain ⟨hok, hpar, hy, hox, hl2⟩ := hF
          refine f_callgo ih C hR1 hR2 hR3 hR4 hok rfl H (fun x e9 hx => (hhok mid).1 pc x e9 hx) ((hhok mid).2 pc) (fun T HH locs A S hT X hW hL hR => ?_)
          obtain ⟨kR, restR, h1, h2, h3, h4⟩ := fpop_spec a2 st [] as t S [] hpp hR trivial
          rw [List.append_nil] at h1
          refine ⟨kR, restR, h1, h3, ?_⟩
          have hpl : ∀ sig, parseMethodDescriptor (fmth a1).1.desc = some sig → kR.length = sig.parameters.length := fun sig hs => by
            have h9 := hpar
            unfold fPar at h9
            rw [hs] at h9
            rw [h4]
            exact (Option.some.inj h9).symm
          obtain ⟨hx, hb0, -, -, -, hown, hts, hK, hOld, -⟩ := id C
          have hnw : (Cond.methodLinkNest (fmth mid).1.cls x (fmth a1).1 "TunerRounds").before args s = true := by
              rw [hy]
              rcases hox with ⟨h5, rfl⟩ | ⟨h5, rfl⟩
              · rw [h5]; exact hOld.2.2.2.1.2.1.use rfl
              · rw [h5]; exact hOld.2.2.2.1.2.2.use rfl
          exact f_enSN X hx hown hnw (hts _ hl2) (hts _ hok.2.1) (hts _ hok.1) hok.2.2.2.1 rfl hpl (by rw [h2]) (by rw [hb0]; exact hd)
      · exact False.elim H
      · exact False.elim H
  | invokespecial x =>
    obtain ⟨hd, rfl⟩ := hE
    simp only [fexec] at H
    cases hk : flk1 (fmK (fmth mid)) x with
    | none => simp only [hk] at H; exact False.elim H
    | some q =>
      have hF := hLk x q hk
      simp only [hk] at H
      obtain ⟨tag, a1, a2, a3, zz⟩ := q
      rcases tag with _ | _ | _ | _ | _ | _ | _ | _ | _ | _ | _ | _ | _ | _ | _ | _ | _ | tag
      · exact False.elim H
      · exact False.elim H
      · exact False.elim H
      · cases hpp : fpop a2 st [] with
        | none => simp only [hpp] at H; exact False.elim H
        | some ap =>
          obtain ⟨as, rst⟩ := ap
          simp only [hpp] at H
          rcases rst with _ | ⟨(o | o | o), t⟩ <;> try exact False.elim H
          obtain ⟨hb, H⟩ := fres_b H
          obtain ⟨hb1, hb2⟩ := f_and hb
          have ho := Nat.blt_eq.mp hb1
          have hl := fisO_spec hb2
          obtain ⟨hok, hpar, hl1, hl2, hnm, hrt, hnh⟩ := hF
          refine f_callgo ih C hR1 hR2 hR3 hR4 hok rfl H (fun x e9 hx => (hhok mid).1 pc x e9 hx) ((hhok mid).2 pc) (fun T HH locs A S hT X hW hL hR => ?_)
          obtain ⟨kR, restR, h1, h2, h3, h4⟩ := fpop_spec a2 st [] as (fA o :: t) S [] hpp hR trivial
          rw [List.append_nil] at h1
          obtain ⟨b, U, rfl, hb9, hU⟩ := fSR_c h3
          have hnc := hW.2.2
          obtain rfl := fR_a hb9 (f_ne99 ho hnc)
          refine ⟨Value.ref (fAd G o) :: kR, U, ⟨hb9, h1⟩, hU, ?_⟩
          have hpl : ∀ sig, parseMethodDescriptor (fmth a1).1.desc = some sig → kR.length = sig.parameters.length := fun sig hs => by
            have h9 := hpar
            unfold fPar at h9
            rw [hs] at h9
            rw [h4]
            exact (Option.some.inj h9).symm
          obtain ⟨hx, hb0, -, -, -, hown, hts, hK, hOld, -⟩ := id C
          have hcd : (Cond.code (fmth a1).1 (fmth a1).2.1 (fmL (fmth a1)) none).before args s = true := by
              have h9 := hts _ hok.1
              unfold fCt at h9
              rw [hnh, hrt] at h9
              exact h9
          exact f_enI X hx hown hnm (hts _ hl1) (hts _ hl2) hcd hok.2.2.2.1 rfl hpl (by rw [h2]) (by rw [hb0]; exact hd)
      · rcases st with _ | ⟨(o | o | o), t⟩ <;> try exact False.elim H
        obtain ⟨hb, H⟩ := fres_b H
        obtain ⟨hd1, H⟩ := H
        have hd1 : 1 ≤ d := hd1
        have hs7 := Nat.le_of_ble_eq_true hb
        exact fs_obj C hF.1 hF.2.1 hF.2.2 hd (by omega) (by omega) (by omega) (go H)
      · exact False.elim H
      · exact False.elim H
      · exact False.elim H
      · exact False.elim H
      · exact False.elim H
      · exact False.elim H
      · exact False.elim H
      · exact False.elim H
      · exact False.elim H
      · exact False.elim H
      · exact False.elim H
      · cases hpp : fpop a2 st [] with
        | none => simp only [hpp] at H; exact False.elim H
        | some ap =>
          obtain ⟨as, rst⟩ := ap
          simp only [hpp] at H
          rcases rst with _ | ⟨(o | o | o), t⟩ <;> try exact False.elim H
          obtain ⟨hb, H⟩ := fres_b H
          obtain ⟨hb1, hb2⟩ := f_and hb
          have ho := Nat.blt_eq.mp hb1
          have hl := fisO_spec hb2
          obtain ⟨hok, hpar, hy, hown2, rfl, hl2, hrt, hnh⟩ := hF
          refine f_callgo ih C hR1 hR2 hR3 hR4 hok rfl H (fun x e9 hx => (hhok mid).1 pc x e9 hx) ((hhok mid).2 pc) (fun T HH locs A S hT X hW hL hR => ?_)
          obtain ⟨kR, restR, h1, h2, h3, h4⟩ := fpop_spec a2 st [] as (fA o :: t) S [] hpp hR trivial
          rw [List.append_nil] at h1
          obtain ⟨b, U, rfl, hb9, hU⟩ := fSR_c h3
          have hnc := hW.2.2
          obtain rfl := fR_a hb9 (f_ne99 ho hnc)
          refine ⟨Value.ref (fAd G o) :: kR, U, ⟨hb9, h1⟩, hU, ?_⟩
          have hpl : ∀ sig, parseMethodDescriptor (fmth a1).1.desc = some sig → kR.length = sig.parameters.length := fun sig hs => by
            have h9 := hpar
            unfold fPar at h9
            rw [hs] at h9
            rw [h4]
            exact (Option.some.inj h9).symm
          obtain ⟨hx, hb0, -, -, -, hown, hts, hK, hOld, -⟩ := id C
          have hcd : (Cond.code (fmth a1).1 (fmth a1).2.1 (fmL (fmth a1)) none).before args s = true := by
              have h9 := hts _ hok.1
              unfold fCt at h9
              rw [hnh, hrt] at h9
              exact h9
          have hnm : (fmth a1).1.name = "<init>" := by rw [hy]
          have hnw : (Cond.methodLinkNest (fmth mid).1.cls 25 (fmth a1).1 "TunerRounds").before args s = true := by
              rw [hy, hown2]
              exact hOld.2.2.2.1.1.use rfl
          exact f_enIN X hx hown hnm hnw (hts _ hl2) hcd hok.2.2.2.1 rfl hpl (by rw [h2]) (by rw [hb0]; exact hd)
      · exact False.elim H
  | ireturn =>
    obtain ⟨hd, rfl⟩ := hE
    simp only [fexec] at H
    rcases st with _ | ⟨(z | z | z), _ | ⟨w, t⟩⟩ <;> try exact False.elim H
    cases hr : fmR (fmth mid) with
    | none => simp only [hr] at H; exact False.elim H
    | some ty =>
      simp only [hr] at H
      cases ty <;> first | exact False.elim H | exact fs_iret C hd hr H.2 H.1 | exact fs_zret C hd hr H.1.1 H.2 H.1.2
  | lreturn =>
    obtain ⟨hd, rfl⟩ := hE
    simp only [fexec] at H
    rcases st with _ | ⟨(z | z | z), _ | ⟨w, t⟩⟩ <;> try exact False.elim H
    cases hr : fmR (fmth mid) with
    | none => simp only [hr] at H; exact False.elim H
    | some ty =>
      simp only [hr] at H
      cases ty <;> first | exact False.elim H | exact fs_lret C hd hr H.2 H.1
  | return_ =>
    obtain ⟨hd, rfl⟩ := hE
    simp only [fexec] at H
    rcases st with _ | ⟨w, t⟩ <;> try exact False.elim H
    cases hr : fmR (fmth mid) with
    | some ty => simp only [hr] at H; exact False.elim H
    | none => simp only [hr] at H; exact fs_vret C hd hr H.2 H.1
  | _ => exact False.elim H
theorem f_sound (hstr : fStrOK G l) (hL31 : gL G < 2 ^ 31) (hgood : ∀ k, fMg (fmth k)) (hhok : ∀ k, fHok (fmth k)) : ∀ n, fSnd G l n
  | 0 => fun d mid pc cu su ls st h Q H => H.elim
  | n + 1 => by
    intro d mid pc cu su ls st h Q H p e R s m args below meth c C hR1 hR2 hR3 hR4
    have ih := f_sound hstr hL31 hgood hhok n
    obtain ⟨N, J, M⟩ := h
    have H2 : fres n Q (N, J, M) (fstep fmth (d, mid, pc, cu, su, ls, st) (N, J, M)) := by
      unfold fwp at H
      unfold fres
      exact H
    rcases hfl : flk2 (fmT (fmth mid)) pc with _ | ⟨i, np, tg⟩
    · have e1 : fstep fmth (d, mid, pc, cu, su, ls, st) (N, J, M) = none := by
        unfold fstep
        simp only [hfl]
      rw [e1] at H2
      exact H2.elim
    · have e1 : fstep fmth (d, mid, pc, cu, su, ls, st) (N, J, M) = fexec fmth (fmth mid) i np tg d mid pc cu su ls st N J M := by
        unfold fstep
        simp only [hfl]
      rw [e1] at H2
      exact f_step hstr hL31 hgood hhok ih ((hgood mid).1 pc i np tg hfl) C hR1 hR2 hR3 hR4 H2
end FMN
