/-! ===== the flat machine is right ===== -/
def filn (i : Instr) : Nat := match i with
  | .aaload => 1
  | .aastore => 1
  | .aload _ => 2
  | .aload_n _ => 1
  | .arraylength => 1
  | .astore _ => 2
  | .astore_n _ => 1
  | .baload => 1
  | .bastore => 1
  | .dup => 1
  | .dup2 => 1
  | .getfield _ => 3
  | .getstatic _ => 3
  | .i2b => 1
  | .i2l => 1
  | .iadd => 1
  | .iaload => 1
  | .iand => 1
  | .iastore => 1
  | .idiv => 1
  | .iload _ => 2
  | .iload_n _ => 1
  | .imul => 1
  | .ineg => 1
  | .invokespecial _ => 3
  | .invokestatic _ => 3
  | .invokevirtual _ => 3
  | .ior => 1
  | .irem => 1
  | .ireturn => 1
  | .ishl => 1
  | .ishr => 1
  | .istore _ => 2
  | .istore_n _ => 1
  | .isub => 1
  | .iushr => 1
  | .ixor => 1
  | .l2i => 1
  | .ladd => 1
  | .laload => 1
  | .land => 1
  | .lastore => 1
  | .lcmp => 1
  | .lconst _ => 1
  | .ldc _ => 2
  | .ldc_w _ => 3
  | .ldc2_w _ => 3
  | .ldiv => 1
  | .lload _ => 2
  | .lload_n _ => 1
  | .lmul => 1
  | .lneg => 1
  | .lor => 1
  | .lrem => 1
  | .lreturn => 1
  | .lshl => 1
  | .lshr => 1
  | .lstore _ => 2
  | .lstore_n _ => 1
  | .lsub => 1
  | .newarray _ => 2
  | .anewarray _ => 3
  | .pop => 1
  | .return_ => 1
  | .athrow => 1
  | _ => 0
/-- an entry of a method's table is as its code has it -/
def fEok (md : fD) (pc : Nat) (i : Instr) (np : Nat) (tg : List Nat) : Prop := match i with
  | .tableswitch df lo hi offs => (∃ len, decode md.2.1 pc = .ok (i, len)) ∧ ∃ dt ts, tg = dt :: ts ∧ (pc : Int) + df = (dt : Int) ∧ offs.toList.map (fun o => (pc : Int) + o) = ts.map (fun x : Nat => (x : Int)) ∧ hi + 1 = lo + (ts.length : Int)
  | .goto off => decode md.2.1 pc = .ok (i, 3) ∧ ∃ x, tg = [x] ∧ (pc : Int) + off = (x : Int)
  | .ifCond _ off => decode md.2.1 pc = .ok (i, 3) ∧ np = pc + 3 ∧ ∃ x, tg = [x] ∧ (pc : Int) + off = (x : Int)
  | .if_icmp _ off => decode md.2.1 pc = .ok (i, 3) ∧ np = pc + 3 ∧ ∃ x, tg = [x] ∧ (pc : Int) + off = (x : Int)
  | .iinc _ n => decode md.2.1 pc = .ok (i, 3) ∧ np = pc + 3 ∧ (Int32.ofInt n).toInt = n
  | .iconst n => decode md.2.1 pc = .ok (i, 1) ∧ np = pc + 1 ∧ (Int32.ofInt n).toInt = n
  | .bipush n => decode md.2.1 pc = .ok (i, 2) ∧ np = pc + 2 ∧ ((Int8.ofInt n).toInt32).toInt = n
  | .sipush n => decode md.2.1 pc = .ok (i, 3) ∧ np = pc + 3 ∧ ((Int16.ofInt n).toInt32).toInt = n
  | .putfield x => decode md.2.1 pc = .ok (i, 3) ∧ np = pc + 3 ∧ ∀ ci k kd z, flk1 (fmK md) x = some (0, ci, k, kd, z) → fFin ci k md.1
  | .new x => decode md.2.1 pc = .ok (i, 3) ∧ np = pc + 3 ∧ ∀ e9 ic a z, flk1 (fmK md) x = some (6, e9, ic, a, z) → decode md.2.1 (pc + 3) = .ok (.dup, 1) ∧ decode md.2.1 (pc + 4) = .ok (.invokespecial ic, 3) ∧ decode md.2.1 (pc + 7) = .ok (.athrow, 1) ∧ fmH md = []
  | _ => decode md.2.1 pc = .ok (i, filn i) ∧ np = pc + filn i
/-- what the tables say of a method -/
def fMok (md : fD) : Prop := fCt md ∈ fTb ∧ Cond.initialized md.1.cls ∈ fTb ∧ plainFor md.1 = true ∧ (md.1.cls ≠ "java/lang/invoke/MethodHandle" ∧ md.1.cls ≠ "java/lang/invoke/VarHandle") ∧ fmL md ≤ 21
def fPar (md : fD) (na : Nat) : Prop := (parseMethodDescriptor md.1.desc).map (fun d => d.parameters.length) = some na
/-- an entry of a pool is what the tables say -/
def fLok (own : String) (x : Nat) (q : fK1) : Prop := match q with
  | (0, ci, k, kd, _) => fFld own x ci k kd
  | (1, q, na, ci, _) => fMok (fmth q) ∧ fPar (fmth q) na ∧ Cond.methodLink own x (fmth q).1 ∈ fTb ∧ Cond.instanceMethod (fmth q).1 ∈ fTb ∧ ∃ C T N, vwCl[ci]? = some (C, T, N) ∧ Cond.selects C (fmth q).1 (fmth q).1 ∈ fTb
  | (2, q, na, _, _) => fMok (fmth q) ∧ fPar (fmth q) na ∧ Cond.methodLink own x (fmth q).1 ∈ fTb ∧ Cond.static (fmth q).1 ∈ fTb
  | (15, q, na, _, _) => fMok (fmth q) ∧ fPar (fmth q) na ∧ (fmth q).1 = ⟨"TunerRounds", "weekOf", "(I)I"⟩ ∧ ((own = "TunerRounds$Standing" ∧ x = 86) ∨ (own = "TunerRounds$House" ∧ x = 98)) ∧ Cond.static (fmth q).1 ∈ fTb
  | (3, q, na, _, _) => fMok (fmth q) ∧ fPar (fmth q) na ∧ Cond.methodLink own x (fmth q).1 ∈ fTb ∧ Cond.instanceMethod (fmth q).1 ∈ fTb ∧ (fmth q).1.name = "<init>" ∧ fmR (fmth q) = none ∧ fmH (fmth q) = []
  | (16, q, na, _, _) => fMok (fmth q) ∧ fPar (fmth q) na ∧ (fmth q).1 = ⟨"TunerRounds$Records", "<init>", "()V"⟩ ∧ own = "TunerRounds" ∧ x = 25 ∧ Cond.instanceMethod (fmth q).1 ∈ fTb ∧ fmR (fmth q) = none ∧ fmH (fmth q) = []
  | (4, _, _, _, _) => Cond.methodLink own x Lib.objectInit ∈ fTb ∧ Cond.instanceMethod Lib.objectInit ∈ fTb ∧ Cond.code Lib.objectInit ⟨#[0xb1]⟩ 1 none ∈ fTb
  | (5, ci, ns, ty, _) => fCls own x ci ns ∧ (ty = 4 → Cond.classLink own x "TunerRounds$House" ∈ fTb) ∧ (ty = 5 → Cond.classLink own x "TunerRounds$Records" ∈ fTb)
  | (6, e9, ic, _, _) => fThr own x ic e9
  | (7, _, _, _, z) => ∃ w : Int32, w.toInt = z ∧ Cond.constant own x w ∈ fTb
  | (8, _, _, _, z) => ∃ w : Int64, w.toInt = z ∧ Cond.constantLong own x w ∈ fTb
  | (9, k, _, _, _) => (k = 1001 ∨ k = 1002 ∨ k = 1003) ∧ Cond.fieldLink own x "TunerRounds$House" (fStn k) "[I" ∈ fTb
  | (10, _, _, _, _) => fAcp own x
  | (12, _, _, _, _) => own = "TunerRounds$Tape" ∧ Cond.methodLink own x yJ0_length_8abf5 ∈ fTb
  | (13, _, _, _, _) => own = "TunerRounds$Tape" ∧ Cond.methodLink own x yJ0_charAt_5068e ∈ fTb
  | (14, k, _, _, _) => own = "TunerRounds$Tape" ∧ x = 19 ∧ k = 1004
  | _ => True
def fMg (md : fD) : Prop := (∀ pc i np tg, flk2 (fmT md) pc = some (i, np, tg) → fEok md pc i np tg) ∧ ∀ x q, flk1 (fmK md) x = some q → fLok md.1.cls x q
theorem fisO_spec {q : Option (Nat ⊕ (Nat × Nat))} {ci : Nat} (h : fisO q ci = true) : q = some (.inl ci) := by
  unfold fisO at h
  split at h
  · rw [Nat.eq_of_beq_eq_true h]
  · cases h
theorem fisT_spec {q : Option (Nat ⊕ (Nat × Nat))} {t : Nat} (h : fisT q t = true) : ∃ len, q = some (.inr (t, len)) := by
  unfold fisT at h
  split at h
  · rename_i c len
    exact ⟨len, by rw [Nat.eq_of_beq_eq_true h]⟩
  · cases h
theorem fisI_spec {q : Option (Nat ⊕ (Nat × Nat))} {n k : Nat} (h : fisI q n k = true) : (∃ len, q = some (.inr (0, len)) ∧ k < n) ∨ (∃ len, q = some (.inr (9, len))) ∨ (∃ len, q = some (.inr (10, len))) := by
  unfold fisI at h
  split at h
  · rename_i len
    exact Or.inl ⟨len, rfl, Nat.blt_eq.mp h⟩
  · rename_i len
    exact Or.inr (Or.inl ⟨len, rfl⟩)
  · rename_i len
    exact Or.inr (Or.inr ⟨len, rfl⟩)
  · cases h
/-- the layout: what is old lies from 1000 on, lengths are small -/
def fLyP (k : Nat) (q : Option (Nat ⊕ (Nat × Nat))) : Prop := match q with
  | some (.inr (9, len)) => (k = 1001 ∧ len = 6) ∨ (k = 1002 ∧ len = 4) ∨ (k = 1003 ∧ len = 4)
  | some (.inr (10, _)) => k = 1000
  | some (.inr (11, len)) => k = 1004 ∧ len = 162
  | some (.inr (99, _)) => False
  | some (.inr (_, len)) => len ≤ 40000
  | _ => True
theorem fly_c {k : Nat} {b : Bool} {x y : Option (Nat ⊕ (Nat × Nat))} (hx : fLyP k x) (hy : fLyP k y) : fLyP k (bif b then x else y) := by
  cases b
  · exact hy
  · exact hx
theorem fly_l {k c : Nat} {v : Nat ⊕ (Nat × Nat)} (h : fLyP c (some v)) : fLyP k (bif Nat.beq k c then some v else none) := by
  cases hb : Nat.beq k c
  · exact trivial
  · rw [Nat.eq_of_beq_eq_true hb]
    exact h
theorem flay_ok (k : Nat) : fLyP k (flay k) := by
  unfold flay
  repeat' (first | refine fly_l ?_ | refine fly_c ?_ ?_)
  all_goals first | trivial | (show _ ≤ _; decide) | (show _ ∧ _; decide) | (show _ ∨ _; decide) | (show _ = _; decide)
theorem flay_9 {k len : Nat} (h : flay k = some (.inr (9, len))) : 1000 ≤ k ∧ k < 1004 ∧ (∀ J : Nat → Nat → Nat, ∀ G, J 1000 0 = gL G → flenJ J k = fol G k) ∧ ∀ b, fkd k b ≠ 1 := by
  have h1 := flay_ok k
  rw [h] at h1
  have h2 : (k = 1001 ∧ len = 6) ∨ (k = 1002 ∧ len = 4) ∨ (k = 1003 ∧ len = 4) := h1
  have h4 : ∀ b, fkd k b ≠ 1 := fun b => by rw [fkd_a b h]; decide
  have h3 : ∀ J : Nat → Nat → Nat, flenJ J k = len := fun J => flenJ_a h (by decide)
  refine ⟨by omega, by omega, fun J G _ => ?_, h4⟩
  rw [h3]
  rcases h2 with ⟨rfl, rfl⟩ | ⟨rfl, rfl⟩ | ⟨rfl, rfl⟩ <;> rfl
theorem flay_10 {k len : Nat} (h : flay k = some (.inr (10, len))) : 1000 ≤ k ∧ k < 1004 ∧ (∀ J : Nat → Nat → Nat, ∀ G, J 1000 0 = gL G → flenJ J k = fol G k) ∧ ∀ b, fkd k b ≠ 1 := by
  have h1 := flay_ok k
  rw [h] at h1
  have h2 : k = 1000 := h1
  have h4 : ∀ b, fkd k b ≠ 1 := fun b => by rw [fkd_a b h]; decide
  subst h2
  refine ⟨by omega, by omega, fun J G hJ => ?_, h4⟩
  unfold flenJ
  rw [h]
  exact hJ
theorem flay_len {k ty len : Nat} (h : flay k = some (.inr (ty, len))) (h9 : ty < 9) : len ≤ 40000 := by
  have h1 := flay_ok k
  rw [h] at h1
  unfold fLyP at h1
  rcases ty with _ | _ | _ | _ | _ | _ | _ | _ | _ | ty <;> first | exact h1 | omega
/-- arguments -/
theorem fpop_spec {G : fG} : ∀ (n : Nat) (st acc as rest : List fV) (S accR : List Value), fpop n st acc = some (as, rest) → fSR G st S → fSR G acc accR → ∃ kR restR, fSR G as (kR ++ accR) ∧ S = kR.reverse ++ restR ∧ fSR G rest restR ∧ kR.length = n
  | 0, st, acc, as, rest, S, accR, h, hS, hA => by
    unfold fpop at h
    cases h
    exact ⟨[], S, hA, rfl, hS, rfl⟩
  | n + 1, [], acc, as, rest, S, accR, h, hS, hA => by
    unfold fpop at h
    cases h
  | n + 1, v :: st, acc, as, rest, S, accR, h, hS, hA => by
    obtain ⟨x, U, rfl, hx, hU⟩ := fSR_c hS
    unfold fpop at h
    obtain ⟨kR, restR, h1, h2, h3, h4⟩ := fpop_spec n st (v :: acc) as rest U (x :: accR) h hU ⟨hx, hA⟩
    refine ⟨kR ++ [x], restR, ?_, ?_, h3, by simp [h4]⟩
    · rw [List.append_assoc]
      exact h1
    · rw [h2]
      simp
theorem fent_len {G : fG} : ∀ (as : List fV) (av : List Value), fSR G as av → (lg_sl av).length = (fent as).length
  | [], [], _ => rfl
  | v :: t, x :: u, h => by
    have ih := fent_len t u h.2
    have hc := fR_c h.1
    have e1 : (lg_sl (x :: u)).length = (if x.category = 2 then 2 else 1) + (lg_sl u).length := by
      unfold lg_sl
      rw [List.flatMap_cons, List.length_append]
      split <;> rfl
    rw [e1, ih, hc, show fent (v :: t) = bif flg (some v) then some v :: none :: fent t else some v :: fent t from rfl]
    unfold fcat
    cases flg (some v)
    · show (if (1 : Nat) = 2 then 2 else 1) + (fent t).length = (fent t).length + 1
      rw [if_neg (by decide)]
      omega
    · show (if (2 : Nat) = 2 then 2 else 1) + (fent t).length = (fent t).length + 1 + 1
      rw [if_pos rfl]
      omega
  | [], _ :: _, h => h.elim
  | _ :: _, [], h => h.elim
theorem fpad_get : ∀ (n : Nat) (l : fL) (i : Nat) (v : fV), fget (fpad n l) i = some v → fget l i = some v
  | 0, _, _, _, h => h
  | n + 1, [], 0, v, h => by simp [fpad, fget] at h
  | n + 1, [], i + 1, v, h => by
    have h1 : fget (fpad n []) i = some v := h
    have := fpad_get n [] i v h1
    simp [fget] at this
  | n + 1, x :: t, 0, v, h => h
  | n + 1, x :: t, i + 1, v, h => fpad_get n t i v h
theorem fent_get {G : fG} : ∀ (as : List fV) (av : List Value) (i0 i : Nat) (v : fV), fSR G as av → fget (fent as) i = some v → ∃ x, (i0 + i, x) ∈ lv_args i0 av ∧ fR G v x
  | [], _, _, _, _, _, h => by simp [fent, fget] at h
  | _ :: _, [], _, _, _, hS, _ => hS.elim
  | w :: t, x :: u, i0, i, v, hS, h => by
    have hc := fR_c hS.1
    unfold fent at h
    unfold lv_args
    rw [hc]
    unfold fcat
    cases hf : flg (some w) with
    | true =>
      rw [hf] at h
      rcases i with _ | _ | i
      · have e1 : w = v := Option.some.inj h
        subst e1
        exact ⟨x, List.mem_cons_self, hS.1⟩
      · cases h
      · obtain ⟨y, hy, hr⟩ := fent_get t u (i0 + 2) i v hS.2 h
        refine ⟨y, List.mem_cons_of_mem _ ?_, hr⟩
        rw [show i0 + (i + 1 + 1) = i0 + 2 + i by omega]
        exact hy
    | false =>
      rw [hf] at h
      rcases i with _ | i
      · have e1 : w = v := Option.some.inj h
        subst e1
        exact ⟨x, List.mem_cons_self, hS.1⟩
      · obtain ⟨y, hy, hr⟩ := fent_get t u (i0 + 1) i v hS.2 h
        refine ⟨y, List.mem_cons_of_mem _ ?_, hr⟩
        rw [show i0 + (i + 1) = i0 + 1 + i by omega]
        exact hy
theorem f_met {G : fG} {l : Launch} {d : Nat} {md : fD} {h : fH} {as : List fV} {av : List Value} {Q : fO → fH → Prop} (htr : l.stackTraces = false) (hav : fSR G as av) (hok : fMok md) (hlen : (fent as).length ≤ fmL md)
    (IH : ∀ (p : Program) (e : Env) (R : Room) (s : State) (m : MethodId) (args : Array Value) (below : List Frame) (meth : Method) (c : Code), fCx G md p l s m args meth c → d ≤ R.frames → 40 * d ≤ R.locals → fmC md + 1 ≤ R.cells → fmS md + 6 ≤ R.slots → fGo G md p l e R s m args below meth c Q 0 0 0 (fpad (fmL md) (fent as)) [] h) : fMt G l d md h av Q := by
  unfold fMt
  refine MetFree.of_bodySF (code := md.2.1) (maxLocals := fmL md) (ret := fmR md) hok.2.2.1 ?_ ?_
  · intro args s m hp hn
    obtain ⟨mk, meth, c, h0, h1, h2, h3, h4, h5, h6, -, -⟩ := fCt_spec (atoms_spec (ws := fTb) hp _ hok.1)
    cases hn.symm.trans h0
    exact ⟨meth, c, h1, h2, h3, h4, h5, h6⟩
  · intro p e s m args below meth c s₁ B hml hP _
    obtain ⟨rfl, hWh, hK, hOld, hN, hsz⟩ := hP
    have hh0 : s₁.heap = s.heap := by rw [B.state]; rfl
    have hts := atoms_spec (ws := fTb) B.pre
    have htab : c.exceptionTable.toList = tableOf ((fmH md).map fun q => (q.1, q.2.1, q.2.2.1, q.2.2.2.1)) := by
      obtain ⟨mk, meth9, c9, h0, h1, h2, -, -, -, -, h7, -⟩ := fCt_spec (hts _ hok.1)
      cases Option.some.inj (h0.symm.trans B.named)
      cases Option.some.inj (h1.symm.trans B.method)
      cases Option.some.inj (h2.symm.trans (Stand.of_body B).code)
      exact h7
    have C : fCx G md p l s m av.toArray meth c := ⟨B.exec, B.bytes, hml, B.returns, B.notSynchronized, findClass_of_methodNamed B.named, hts, hK, hOld, hN, (name_of_methodNamed B.named B.method).1, htab, htr⟩
    have hl := lv_entry av (n := fmL md) (by rw [fent_len as av hav]; exact hlen)
    have key := IH p e (headSpec fTb (fRm d md)).room s m av.toArray below meth c C (Nat.le_refl _) (Nat.le_refl _) (Nat.le_refl _) (Nat.le_refl _) (fun q => hsz q) s.heap [] _ [] hWh va_S.rf ⟨hl.1, hl.2.1, fun i v hv => by
      obtain ⟨x, hx, hr⟩ := fent_get as av 0 i v hav (fpad_get _ _ _ _ hv)
      rw [Nat.zero_add] at hx
      exact ⟨x, hl.2.2 _ hx, hr⟩⟩ trivial
    rw [← lg_entry_eq] at key
    obtain ⟨t, a1, o, b1, b2, b3⟩ := key s₁ hh0 (Stand.of_body B)
    exact ⟨t, o, a1, b1, b2, b3⟩

