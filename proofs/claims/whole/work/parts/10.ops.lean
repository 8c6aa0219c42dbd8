/-! ===== the instructions, one by one ===== -/
/-- from here the method comes to its end as the flat machine says -/
def fGo (G : fG) (md : fD) (p : Program) (l : Launch) (e : Env) (R : Room) (s : State) (m : MethodId) (args : Array Value) (below : List Frame) (meth : Method) (c : Code) (Q : fO → fH → Prop) (cu su pc : Nat) (ls : fL) (st : List fV) (h : fH) : Prop :=
  (h.1 < fNC → s.heap.size + cu ≤ gN G + h.1) → ∀ (H : Heap) (locs : List Loc) (A : Array Slot) (S : List Value), fWh G h H → va_S (fIn G) s.heap H locs → fLR G ls (fmL md) A → fSR G st S → W p l e R s m args below meth c H locs cu su (fEnd G md Q below s) (F0 m pc A S)
theorem fR_i {G : fG} {z : Int} {x : Value} (h : fR G (fI z) x) : ∃ i : Int32, x = .int i ∧ i.toInt = z := h
theorem fR_j {G : fG} {z : Int} {x : Value} (h : fR G (fJ z) x) : ∃ i : Int64, x = .long i ∧ i.toInt = z := h
theorem fR_a {G : fG} {k : Nat} {x : Value} (h : fR G (fA k) x) (hk : k ≠ 9999) : x = .ref (fAd G k) := by
  unfold fR at h
  simpa [hk] using h
theorem fR_r {G : fG} {k : Nat} {x : Value} (h : fR G (fA k) x) : ∃ q, x = .ref q := by
  unfold fR at h
  by_cases hk : k = 9999
  · simpa [hk] using h
  · exact ⟨fAd G k, by simpa [hk] using h⟩
theorem fSR_c {G : fG} {v : fV} {t : List fV} {S : List Value} (h : fSR G (v :: t) S) : ∃ x U, S = x :: U ∧ fR G v x ∧ fSR G t U := by
  cases S with
  | nil => exact h.elim
  | cons x U => exact ⟨x, U, rfl, h.1, h.2⟩
theorem fSR_n {G : fG} {S : List Value} (h : fSR G [] S) : S = [] := by
  cases S with
  | nil => rfl
  | cons x U => exact h.elim
theorem fR_c {G : fG} {v : fV} {x : Value} (h : fR G v x) : x.category = fcat v := by
  rcases v with z | z | k
  · obtain ⟨i, rfl, -⟩ := h; rfl
  · obtain ⟨i, rfl, -⟩ := h; rfl
  · obtain ⟨q, rfl⟩ := fR_r (G := G) h; rfl
theorem fR_l {G : fG} {v : fV} {x : Value} (h : fR G v x) (hc : x.category = 2) : flg (some v) = true := by
  rw [fR_c h] at hc
  rcases v with z | z | k
  · cases hc
  · rfl
  · cases hc
/-- all that the locals hold -/
def flvs (A : Array Slot) : List (Nat × Value) := (List.range A.size).filterMap fun i => match (A[i]? : Option Slot) with
  | some (.val x) => some (i, x)
  | _ => none
theorem flvs_in {A : Array Slot} {i : Nat} {x : Value} : (i, x) ∈ flvs A ↔ A[i]? = some (.val x) := by
  unfold flvs
  rw [List.mem_filterMap]
  constructor
  · rintro ⟨j, -, hj⟩
    split at hj
    · rename_i y hy
      cases hj
      exact hy
    · cases hj
  · intro h
    refine ⟨i, List.mem_range.mpr (lv_lt h), ?_⟩
    rw [h]
theorem flvs_has {A : Array Slot} {n : Nat} (hs : A.size = n) (hw : lv_wf A) : lv_has A n (flvs A) := ⟨hs, hw, fun _ h => flvs_in.mp h⟩
theorem fst1_get : ∀ (ls : fL) (k : Nat) (v : fV) (i : Nat) (w : fV), fget (fst1 ls k v) i = some w → (i = k ∧ w = v) ∨ (i ≠ k ∧ fget ls i = some w ∧ ¬ (i + 1 = k ∧ flg (some w) = true))
  | [], _, _, _, _, h => by simp [fst1, fget] at h
  | x :: t, 0, v, 0, w, h => by
    simp only [fst1, fget, Option.some.injEq] at h
    exact Or.inl ⟨rfl, h.symm⟩
  | x :: t, 0, v, i + 1, w, h => by
    simp only [fst1, fget] at h
    exact Or.inr ⟨by omega, h, by omega⟩
  | x :: t, 1, v, 0, w, h => by
    simp only [fst1, fget] at h
    refine Or.inr ⟨by omega, ?_, ?_⟩
    · cases hx : flg x with
      | true => rw [hx] at h; cases h
      | false => rw [hx] at h; exact h
    · rintro ⟨-, h2⟩
      cases hx : flg x with
      | true => rw [hx] at h; cases h
      | false =>
        rw [hx] at h
        have h' : x = some w := h
        rw [h'] at hx
        rw [hx] at h2
        cases h2
  | x :: t, 1, v, i + 1, w, h => by
    simp only [fst1, fget] at h
    rcases fst1_get t 0 v i w h with ⟨a, b⟩ | ⟨a, b, c⟩
    · exact Or.inl ⟨by omega, b⟩
    · exact Or.inr ⟨by omega, b, by omega⟩
  | x :: t, k + 2, v, 0, w, h => by
    simp only [fst1, fget] at h
    exact Or.inr ⟨by omega, h, by omega⟩
  | x :: t, k + 2, v, i + 1, w, h => by
    simp only [fst1, fget] at h
    rcases fst1_get t (k + 1) v i w h with ⟨a, b⟩ | ⟨a, b, c⟩
    · exact Or.inl ⟨by omega, b⟩
    · exact Or.inr ⟨by omega, b, fun q => c ⟨by omega, q.2⟩⟩
theorem fst2_get : ∀ (ls : fL) (k : Nat) (v : fV) (i : Nat) (w : fV), fget (fst2 ls k v) i = some w → (i = k ∧ w = v) ∨ (i ≠ k ∧ i ≠ k + 1 ∧ fget ls i = some w ∧ ¬ (i + 1 = k ∧ flg (some w) = true))
  | [], _, _, _, _, h => by simp [fst2, fget] at h
  | [x], 0, v, 0, w, h => by
    simp only [fst2, fget, Option.some.injEq] at h
    exact Or.inl ⟨rfl, h.symm⟩
  | [x], 0, v, i + 1, w, h => by simp [fst2, fget] at h
  | x :: y :: t, 0, v, 0, w, h => by
    simp only [fst2, fget, Option.some.injEq] at h
    exact Or.inl ⟨rfl, h.symm⟩
  | x :: y :: t, 0, v, 1, w, h => by simp [fst2, fget] at h
  | x :: y :: t, 0, v, i + 2, w, h => by
    simp only [fst2, fget] at h
    exact Or.inr ⟨by omega, by omega, h, by omega⟩
  | x :: t, 1, v, 0, w, h => by
    simp only [fst2, fget] at h
    refine Or.inr ⟨by omega, by omega, ?_, ?_⟩
    · cases hx : flg x with
      | true => rw [hx] at h; cases h
      | false => rw [hx] at h; exact h
    · rintro ⟨-, h2⟩
      cases hx : flg x with
      | true => rw [hx] at h; cases h
      | false =>
        rw [hx] at h
        have h' : x = some w := h
        rw [h'] at hx
        rw [hx] at h2
        cases h2
  | x :: t, 1, v, i + 1, w, h => by
    simp only [fst2, fget] at h
    rcases fst2_get t 0 v i w h with ⟨a, b⟩ | ⟨a, b, c, d⟩
    · exact Or.inl ⟨by omega, b⟩
    · exact Or.inr ⟨by omega, by omega, c, by omega⟩
  | x :: t, k + 2, v, 0, w, h => by
    simp only [fst2, fget] at h
    exact Or.inr ⟨by omega, by omega, h, by omega⟩
  | x :: t, k + 2, v, i + 1, w, h => by
    simp only [fst2, fget] at h
    rcases fst2_get t (k + 1) v i w h with ⟨a, b⟩ | ⟨a, b, c, d⟩
    · exact Or.inl ⟨by omega, b⟩
    · exact Or.inr ⟨by omega, by omega, c, fun q => d ⟨by omega, q.2⟩⟩
theorem fLR_st1 {G : fG} {ls : fL} {nL : Nat} {A A' : Array Slot} {k : Nat} {v : fV} {x : Value} (hL : fLR G ls nL A) (hv : fR G v x) (h : lv_has A' nL ((k, x) :: (flvs A).filter (fun q => !(q.1 == k) && !(q.1 + 1 == k && q.2.category == 2)))) : fLR G (fst1 ls k v) nL A' := by
  refine ⟨h.1, h.2.1, fun i w hw => ?_⟩
  rcases fst1_get ls k v i w hw with ⟨rfl, rfl⟩ | ⟨h1, h2, h3⟩
  · exact ⟨x, h.2.2 _ List.mem_cons_self, hv⟩
  · obtain ⟨y, hy, hr⟩ := hL.2.2 i w h2
    refine ⟨y, h.2.2 (i, y) (List.mem_cons_of_mem _ (List.mem_filter.mpr ⟨flvs_in.mpr hy, ?_⟩)), hr⟩
    simp only [Bool.and_eq_true, Bool.not_eq_true', beq_eq_false_iff_ne, ne_eq, h1, not_false_eq_true, true_and]
    cases hc : (i + 1 == k && y.category == 2) with
    | false => rfl
    | true =>
      simp only [Bool.and_eq_true, beq_iff_eq] at hc
      exact absurd ⟨hc.1, fR_l hr hc.2⟩ h3
theorem fLR_st2 {G : fG} {ls : fL} {nL : Nat} {A A' : Array Slot} {k : Nat} {v : fV} {x : Value} (hL : fLR G ls nL A) (hv : fR G v x) (h : lv_has A' nL ((k, x) :: (flvs A).filter (fun q => !(q.1 == k) && (!(q.1 == k + 1) && !(q.1 + 1 == k && q.2.category == 2))))) : fLR G (fst2 ls k v) nL A' := by
  refine ⟨h.1, h.2.1, fun i w hw => ?_⟩
  rcases fst2_get ls k v i w hw with ⟨rfl, rfl⟩ | ⟨h1, h1', h2, h3⟩
  · exact ⟨x, h.2.2 _ List.mem_cons_self, hv⟩
  · obtain ⟨y, hy, hr⟩ := hL.2.2 i w h2
    refine ⟨y, h.2.2 (i, y) (List.mem_cons_of_mem _ (List.mem_filter.mpr ⟨flvs_in.mpr hy, ?_⟩)), hr⟩
    simp only [Bool.and_eq_true, Bool.not_eq_true', beq_eq_false_iff_ne, ne_eq, h1, h1', not_false_eq_true, true_and]
    cases hc : (i + 1 == k && y.category == 2) with
    | false => rfl
    | true =>
      simp only [Bool.and_eq_true, beq_iff_eq] at hc
      exact absurd ⟨hc.1, fR_l hr hc.2⟩ h3
theorem f_add (x y : Int32) : (x + y).toInt = fw (x.toInt + y.toInt) := Int32.toInt_add x y
theorem f_sub (x y : Int32) : (x - y).toInt = fw (x.toInt - y.toInt) := Int32.toInt_sub x y
theorem f_mul (x y : Int32) : (x * y).toInt = fw (x.toInt * y.toInt) := Int32.toInt_mul x y
theorem f_neg (x : Int32) : (-x).toInt = fw (-x.toInt) := Int32.toInt_neg x
theorem f_divv (x y : Int32) : (x / y).toInt = fdiv x.toInt y.toInt := Int32.toInt_div x y
theorem f_remm (x y : Int32) : (x - x / y * y).toInt = frem x.toInt y.toInt := by
  rw [f_sub, f_mul, f_divv]; rfl
theorem f_addl (x y : Int64) : (x + y).toInt = fwl (x.toInt + y.toInt) := Int64.toInt_add x y
theorem f_subl (x y : Int64) : (x - y).toInt = fwl (x.toInt - y.toInt) := Int64.toInt_sub x y
theorem f_mull (x y : Int64) : (x * y).toInt = fwl (x.toInt * y.toInt) := Int64.toInt_mul x y
theorem f_negl (x : Int64) : (-x).toInt = fwl (-x.toInt) := Int64.toInt_neg x
theorem f_divl (x y : Int64) : (x / y).toInt = fldv x.toInt y.toInt := Int64.toInt_div x y
theorem f_reml (x y : Int64) : (x - x / y * y).toInt = flrm x.toInt y.toInt := by
  rw [f_subl, f_mull, f_divl]; rfl
theorem f_oi (x : Int32) : Int32.ofInt x.toInt = x := Int32.ofInt_toInt x
theorem f_ol (x : Int64) : Int64.ofInt x.toInt = x := Int64.ofInt_toInt x
theorem f_ne0 {x : Int32} (h : x.toInt ≠ 0) : ¬ x = 0 := fun e => h (by rw [e]; rfl)
theorem f_ne0l {x : Int64} (h : x.toInt ≠ 0) : ¬ x = 0 := fun e => h (by rw [e]; rfl)
section FOP
variable {G : fG} {md : fD} {p : Program} {l : Launch} {e : Env} {R : Room} {s : State} {m : MethodId} {args : Array Value} {below : List Frame} {meth : Method} {c : Code} {Q : fO → fH → Prop} {cu su pc : Nat} {ls : fL} {t : List fV} {h : fH}
theorem fs_iconst (C : fCx G md p l s m args meth c) {n : Int} (hd : decode md.2.1 pc = .ok (.iconst n, 1)) (hn : (Int32.ofInt n).toInt = n) (k : fGo G md p l e R s m args below meth c Q cu su (pc + 1) ls (fI n :: t) h) : fGo G md p l e R s m args below meth c Q cu su pc ls t h := by
  intro hc H locs A S hW hS hL hR
  exact lv_iconst C.1 C.2.1 hd rfl (k hc H locs A _ hW hS hL ⟨⟨_, rfl, hn⟩, hR⟩)
theorem fs_bipush (C : fCx G md p l s m args meth c) {n : Int} (hd : decode md.2.1 pc = .ok (.bipush n, 2)) (hn : ((Int8.ofInt n).toInt32).toInt = n) (k : fGo G md p l e R s m args below meth c Q cu su (pc + 2) ls (fI n :: t) h) : fGo G md p l e R s m args below meth c Q cu su pc ls t h := by
  intro hc H locs A S hW hS hL hR
  exact lv_bipush C.1 C.2.1 hd rfl (k hc H locs A _ hW hS hL ⟨⟨_, rfl, hn⟩, hR⟩)
theorem fs_sipush (C : fCx G md p l s m args meth c) {n : Int} (hd : decode md.2.1 pc = .ok (.sipush n, 3)) (hn : ((Int16.ofInt n).toInt32).toInt = n) (k : fGo G md p l e R s m args below meth c Q cu su (pc + 3) ls (fI n :: t) h) : fGo G md p l e R s m args below meth c Q cu su pc ls t h := by
  intro hc H locs A S hW hS hL hR
  exact lv_sipush C.1 C.2.1 hd rfl (k hc H locs A _ hW hS hL ⟨⟨_, rfl, hn⟩, hR⟩)
theorem fs_lconst (C : fCx G md p l s m args meth c) {n : Fin 2} (hd : decode md.2.1 pc = .ok (.lconst n, 1)) (k : fGo G md p l e R s m args below meth c Q cu su (pc + 1) ls (fJ (n.val : Int) :: t) h) : fGo G md p l e R s m args below meth c Q cu su pc ls t h := by
  intro hc H locs A S hW hS hL hR
  refine lv_lconst C.1 C.2.1 hd rfl (k hc H locs A _ hW hS hL ⟨⟨_, rfl, ?_⟩, hR⟩)
  rcases n with ⟨_ | _ | n, hn⟩
  · rfl
  · rfl
  · omega
theorem fs_iload (C : fCx G md p l s m args meth c) {k0 : Nat} {z : Int} (hd : decode md.2.1 pc = .ok (.iload k0, 2)) (hg : fget ls k0 = some (fI z)) (k : fGo G md p l e R s m args below meth c Q cu su (pc + 2) ls (fI z :: t) h) : fGo G md p l e R s m args below meth c Q cu su pc ls t h := by
  intro hc H locs A S hW hS hL hR
  obtain ⟨x, hx, i, rfl, hi⟩ := hL.2.2 k0 _ hg
  exact lv_iload C.1 C.2.1 hd hx (k hc H locs A _ hW hS hL ⟨⟨i, rfl, hi⟩, hR⟩)
theorem fs_iload_n (C : fCx G md p l s m args meth c) {k0 : Fin 4} {z : Int} (hd : decode md.2.1 pc = .ok (.iload_n k0, 1)) (hg : fget ls k0.val = some (fI z)) (k : fGo G md p l e R s m args below meth c Q cu su (pc + 1) ls (fI z :: t) h) : fGo G md p l e R s m args below meth c Q cu su pc ls t h := by
  intro hc H locs A S hW hS hL hR
  obtain ⟨x, hx, i, rfl, hi⟩ := hL.2.2 k0.val _ hg
  exact lv_iload_n C.1 C.2.1 hd rfl hx (k hc H locs A _ hW hS hL ⟨⟨i, rfl, hi⟩, hR⟩)
theorem fs_lload (C : fCx G md p l s m args meth c) {k0 : Nat} {z : Int} (hd : decode md.2.1 pc = .ok (.lload k0, 2)) (hg : fget ls k0 = some (fJ z)) (k : fGo G md p l e R s m args below meth c Q cu su (pc + 2) ls (fJ z :: t) h) : fGo G md p l e R s m args below meth c Q cu su pc ls t h := by
  intro hc H locs A S hW hS hL hR
  obtain ⟨x, hx, i, rfl, hi⟩ := hL.2.2 k0 _ hg
  exact lv_lload C.1 C.2.1 hd hx (k hc H locs A _ hW hS hL ⟨⟨i, rfl, hi⟩, hR⟩)
theorem fs_lload_n (C : fCx G md p l s m args meth c) {k0 : Fin 4} {z : Int} (hd : decode md.2.1 pc = .ok (.lload_n k0, 1)) (hg : fget ls k0.val = some (fJ z)) (k : fGo G md p l e R s m args below meth c Q cu su (pc + 1) ls (fJ z :: t) h) : fGo G md p l e R s m args below meth c Q cu su pc ls t h := by
  intro hc H locs A S hW hS hL hR
  obtain ⟨x, hx, i, rfl, hi⟩ := hL.2.2 k0.val _ hg
  exact lv_lload_n C.1 C.2.1 hd rfl hx (k hc H locs A _ hW hS hL ⟨⟨i, rfl, hi⟩, hR⟩)
theorem fs_aload (C : fCx G md p l s m args meth c) {k0 : Nat} {z : Nat} (hd : decode md.2.1 pc = .ok (.aload k0, 2)) (hg : fget ls k0 = some (fA z)) (k : fGo G md p l e R s m args below meth c Q cu su (pc + 2) ls (fA z :: t) h) : fGo G md p l e R s m args below meth c Q cu su pc ls t h := by
  intro hc H locs A S hW hS hL hR
  obtain ⟨x, hx, hr⟩ := hL.2.2 k0 _ hg
  obtain ⟨q, rfl⟩ := fR_r hr
  exact lv_aload C.1 C.2.1 hd hx (k hc H locs A _ hW hS hL ⟨hr, hR⟩)
theorem fs_aload_n (C : fCx G md p l s m args meth c) {k0 : Fin 4} {z : Nat} (hd : decode md.2.1 pc = .ok (.aload_n k0, 1)) (hg : fget ls k0.val = some (fA z)) (k : fGo G md p l e R s m args below meth c Q cu su (pc + 1) ls (fA z :: t) h) : fGo G md p l e R s m args below meth c Q cu su pc ls t h := by
  intro hc H locs A S hW hS hL hR
  obtain ⟨x, hx, hr⟩ := hL.2.2 k0.val _ hg
  obtain ⟨q, rfl⟩ := fR_r hr
  exact lv_aload_n C.1 C.2.1 hd rfl hx (k hc H locs A _ hW hS hL ⟨hr, hR⟩)
theorem fs_istore (C : fCx G md p l s m args meth c) {k0 : Nat} {z : Int} (hd : decode md.2.1 pc = .ok (.istore k0, 2)) (hk : k0 < fmL md) (k : fGo G md p l e R s m args below meth c Q cu su (pc + 2) (fst1 ls k0 (fI z)) t h) : fGo G md p l e R s m args below meth c Q cu su pc ls (fI z :: t) h := by
  intro hc H locs A S hW hS hL hR
  obtain ⟨x, U, rfl, hv, hR1⟩ := fSR_c hR
  have hv0 := hv
  obtain ⟨i, rfl, hi⟩ := fR_i hv
  exact lv_istore C.1 C.2.1 hd (flvs_has hL.1 hL.2.1) hk rfl (fun A1 hA1 => k hc H locs A1 _ hW hS (fLR_st1 hL hv0 hA1) hR1)
theorem fs_lstore (C : fCx G md p l s m args meth c) {k0 : Nat} {z : Int} (hd : decode md.2.1 pc = .ok (.lstore k0, 2)) (hk : k0 + 1 < fmL md) (k : fGo G md p l e R s m args below meth c Q cu su (pc + 2) (fst2 ls k0 (fJ z)) t h) : fGo G md p l e R s m args below meth c Q cu su pc ls (fJ z :: t) h := by
  intro hc H locs A S hW hS hL hR
  obtain ⟨x, U, rfl, hv, hR1⟩ := fSR_c hR
  have hv0 := hv
  obtain ⟨i, rfl, hi⟩ := fR_j hv
  exact lv_lstore C.1 C.2.1 hd (flvs_has hL.1 hL.2.1) hk rfl (fun A1 hA1 => k hc H locs A1 _ hW hS (fLR_st2 hL hv0 hA1) hR1)
theorem fs_astore (C : fCx G md p l s m args meth c) {k0 : Nat} {z : Nat} (hd : decode md.2.1 pc = .ok (.astore k0, 2)) (hk : k0 < fmL md) (k : fGo G md p l e R s m args below meth c Q cu su (pc + 2) (fst1 ls k0 (fA z)) t h) : fGo G md p l e R s m args below meth c Q cu su pc ls (fA z :: t) h := by
  intro hc H locs A S hW hS hL hR
  obtain ⟨x, U, rfl, hv, hR1⟩ := fSR_c hR
  have hv0 := hv
  obtain ⟨q, rfl⟩ := fR_r hv
  exact lv_astore C.1 C.2.1 hd (flvs_has hL.1 hL.2.1) hk rfl (fun A1 hA1 => k hc H locs A1 _ hW hS (fLR_st1 hL hv0 hA1) hR1)
theorem fs_istore_n (C : fCx G md p l s m args meth c) {k0 : Fin 4} {z : Int} (hd : decode md.2.1 pc = .ok (.istore_n k0, 1)) (hk : k0.val < fmL md) (k : fGo G md p l e R s m args below meth c Q cu su (pc + 1) (fst1 ls k0.val (fI z)) t h) : fGo G md p l e R s m args below meth c Q cu su pc ls (fI z :: t) h := by
  intro hc H locs A S hW hS hL hR
  obtain ⟨x, U, rfl, hv, hR1⟩ := fSR_c hR
  have hv0 := hv
  obtain ⟨i, rfl, hi⟩ := fR_i hv
  exact lv_istore_n C.1 C.2.1 hd rfl (flvs_has hL.1 hL.2.1) hk rfl (fun A1 hA1 => k hc H locs A1 _ hW hS (fLR_st1 hL hv0 hA1) hR1)
theorem fs_lstore_n (C : fCx G md p l s m args meth c) {k0 : Fin 4} {z : Int} (hd : decode md.2.1 pc = .ok (.lstore_n k0, 1)) (hk : k0.val + 1 < fmL md) (k : fGo G md p l e R s m args below meth c Q cu su (pc + 1) (fst2 ls k0.val (fJ z)) t h) : fGo G md p l e R s m args below meth c Q cu su pc ls (fJ z :: t) h := by
  intro hc H locs A S hW hS hL hR
  obtain ⟨x, U, rfl, hv, hR1⟩ := fSR_c hR
  have hv0 := hv
  obtain ⟨i, rfl, hi⟩ := fR_j hv
  exact lv_lstore_n C.1 C.2.1 hd rfl (flvs_has hL.1 hL.2.1) hk rfl (fun A1 hA1 => k hc H locs A1 _ hW hS (fLR_st2 hL hv0 hA1) hR1)
theorem fs_astore_n (C : fCx G md p l s m args meth c) {k0 : Fin 4} {z : Nat} (hd : decode md.2.1 pc = .ok (.astore_n k0, 1)) (hk : k0.val < fmL md) (k : fGo G md p l e R s m args below meth c Q cu su (pc + 1) (fst1 ls k0.val (fA z)) t h) : fGo G md p l e R s m args below meth c Q cu su pc ls (fA z :: t) h := by
  intro hc H locs A S hW hS hL hR
  obtain ⟨x, U, rfl, hv, hR1⟩ := fSR_c hR
  have hv0 := hv
  obtain ⟨q, rfl⟩ := fR_r hv
  exact lv_astore_n C.1 C.2.1 hd rfl (flvs_has hL.1 hL.2.1) hk rfl (fun A1 hA1 => k hc H locs A1 _ hW hS (fLR_st1 hL hv0 hA1) hR1)
theorem fs_iinc (C : fCx G md p l s m args meth c) {k0 : Nat} {n z : Int} (hd : decode md.2.1 pc = .ok (.iinc k0 n, 3)) (hg : fget ls k0 = some (fI z)) (hk : k0 < fmL md) (hn : (Int32.ofInt n).toInt = n) (k : fGo G md p l e R s m args below meth c Q cu su (pc + 3) (fst1 ls k0 (fI (fw (z + n)))) t h) : fGo G md p l e R s m args below meth c Q cu su pc ls t h := by
  intro hc H locs A S hW hS hL hR
  obtain ⟨x, hx, i, rfl, hi⟩ := hL.2.2 k0 _ hg
  obtain ⟨j, hj⟩ := List.mem_iff_getElem?.mp (flvs_in.mpr hx)
  exact lv_iinc C.1 C.2.1 hd (flvs_has hL.1 hL.2.1) hj rfl hk rfl (fun A1 hA1 => k hc H locs A1 _ hW hS (fLR_st1 hL ⟨_, rfl, by rw [f_add, hi, hn]⟩ hA1) hR)
theorem fs_iadd (C : fCx G md p l s m args meth c) {x y : Int} (hd : decode md.2.1 pc = .ok (.iadd, 1)) (k : fGo G md p l e R s m args below meth c Q cu su (pc + 1) ls (fI ((fun x y => fw (x + y)) x y) :: t) h) : fGo G md p l e R s m args below meth c Q cu su pc ls (fI y :: fI x :: t) h := by
  intro hc H locs A S hW hS hL hR
  obtain ⟨b, U, rfl, hb, hR1⟩ := fSR_c hR
  obtain ⟨a, U, rfl, ha, hR2⟩ := fSR_c hR1
  obtain ⟨j, rfl, rfl⟩ := fR_i hb
  obtain ⟨i, rfl, rfl⟩ := fR_i ha
  exact lv_iadd C.1 C.2.1 hd (k hc H locs A _ hW hS hL ⟨⟨_, rfl, f_add i j⟩, hR2⟩)
theorem fs_isub (C : fCx G md p l s m args meth c) {x y : Int} (hd : decode md.2.1 pc = .ok (.isub, 1)) (k : fGo G md p l e R s m args below meth c Q cu su (pc + 1) ls (fI ((fun x y => fw (x - y)) x y) :: t) h) : fGo G md p l e R s m args below meth c Q cu su pc ls (fI y :: fI x :: t) h := by
  intro hc H locs A S hW hS hL hR
  obtain ⟨b, U, rfl, hb, hR1⟩ := fSR_c hR
  obtain ⟨a, U, rfl, ha, hR2⟩ := fSR_c hR1
  obtain ⟨j, rfl, rfl⟩ := fR_i hb
  obtain ⟨i, rfl, rfl⟩ := fR_i ha
  exact lv_isub C.1 C.2.1 hd (k hc H locs A _ hW hS hL ⟨⟨_, rfl, f_sub i j⟩, hR2⟩)
theorem fs_imul (C : fCx G md p l s m args meth c) {x y : Int} (hd : decode md.2.1 pc = .ok (.imul, 1)) (k : fGo G md p l e R s m args below meth c Q cu su (pc + 1) ls (fI ((fun x y => fw (x * y)) x y) :: t) h) : fGo G md p l e R s m args below meth c Q cu su pc ls (fI y :: fI x :: t) h := by
  intro hc H locs A S hW hS hL hR
  obtain ⟨b, U, rfl, hb, hR1⟩ := fSR_c hR
  obtain ⟨a, U, rfl, ha, hR2⟩ := fSR_c hR1
  obtain ⟨j, rfl, rfl⟩ := fR_i hb
  obtain ⟨i, rfl, rfl⟩ := fR_i ha
  exact lv_imul C.1 C.2.1 hd (k hc H locs A _ hW hS hL ⟨⟨_, rfl, f_mul i j⟩, hR2⟩)
theorem fs_idiv (C : fCx G md p l s m args meth c) {x y : Int} (hd : decode md.2.1 pc = .ok (.idiv, 1)) (hy : y ≠ 0) (k : fGo G md p l e R s m args below meth c Q cu su (pc + 1) ls (fI (fdiv x y) :: t) h) : fGo G md p l e R s m args below meth c Q cu su pc ls (fI y :: fI x :: t) h := by
  intro hc H locs A S hW hS hL hR
  obtain ⟨b, U, rfl, hb, hR1⟩ := fSR_c hR
  obtain ⟨a, U, rfl, ha, hR2⟩ := fSR_c hR1
  obtain ⟨j, rfl, rfl⟩ := fR_i hb
  obtain ⟨i, rfl, rfl⟩ := fR_i ha
  exact lv_idiv C.1 C.2.1 hd (f_ne0 hy) (k hc H locs A _ hW hS hL ⟨⟨_, rfl, f_divv i j⟩, hR2⟩)
theorem fs_irem (C : fCx G md p l s m args meth c) {x y : Int} (hd : decode md.2.1 pc = .ok (.irem, 1)) (hy : y ≠ 0) (k : fGo G md p l e R s m args below meth c Q cu su (pc + 1) ls (fI (frem x y) :: t) h) : fGo G md p l e R s m args below meth c Q cu su pc ls (fI y :: fI x :: t) h := by
  intro hc H locs A S hW hS hL hR
  obtain ⟨b, U, rfl, hb, hR1⟩ := fSR_c hR
  obtain ⟨a, U, rfl, ha, hR2⟩ := fSR_c hR1
  obtain ⟨j, rfl, rfl⟩ := fR_i hb
  obtain ⟨i, rfl, rfl⟩ := fR_i ha
  exact lv_irem C.1 C.2.1 hd (f_ne0 hy) (k hc H locs A _ hW hS hL ⟨⟨_, rfl, f_remm i j⟩, hR2⟩)
theorem fs_iand (C : fCx G md p l s m args meth c) {x y : Int} (hd : decode md.2.1 pc = .ok (.iand, 1)) (k : fGo G md p l e R s m args below meth c Q cu su (pc + 1) ls (fI (fand x y) :: t) h) : fGo G md p l e R s m args below meth c Q cu su pc ls (fI y :: fI x :: t) h := by
  intro hc H locs A S hW hS hL hR
  obtain ⟨b, U, rfl, hb, hR1⟩ := fSR_c hR
  obtain ⟨a, U, rfl, ha, hR2⟩ := fSR_c hR1
  obtain ⟨j, rfl, rfl⟩ := fR_i hb
  obtain ⟨i, rfl, rfl⟩ := fR_i ha
  exact lv_iand C.1 C.2.1 hd (k hc H locs A _ hW hS hL ⟨⟨_, rfl, by unfold fand; rw [f_oi, f_oi]⟩, hR2⟩)
theorem fs_ior (C : fCx G md p l s m args meth c) {x y : Int} (hd : decode md.2.1 pc = .ok (.ior, 1)) (k : fGo G md p l e R s m args below meth c Q cu su (pc + 1) ls (fI (fior x y) :: t) h) : fGo G md p l e R s m args below meth c Q cu su pc ls (fI y :: fI x :: t) h := by
  intro hc H locs A S hW hS hL hR
  obtain ⟨b, U, rfl, hb, hR1⟩ := fSR_c hR
  obtain ⟨a, U, rfl, ha, hR2⟩ := fSR_c hR1
  obtain ⟨j, rfl, rfl⟩ := fR_i hb
  obtain ⟨i, rfl, rfl⟩ := fR_i ha
  exact lv_ior C.1 C.2.1 hd (k hc H locs A _ hW hS hL ⟨⟨_, rfl, by unfold fior; rw [f_oi, f_oi]⟩, hR2⟩)
theorem fs_ixor (C : fCx G md p l s m args meth c) {x y : Int} (hd : decode md.2.1 pc = .ok (.ixor, 1)) (k : fGo G md p l e R s m args below meth c Q cu su (pc + 1) ls (fI (fxor x y) :: t) h) : fGo G md p l e R s m args below meth c Q cu su pc ls (fI y :: fI x :: t) h := by
  intro hc H locs A S hW hS hL hR
  obtain ⟨b, U, rfl, hb, hR1⟩ := fSR_c hR
  obtain ⟨a, U, rfl, ha, hR2⟩ := fSR_c hR1
  obtain ⟨j, rfl, rfl⟩ := fR_i hb
  obtain ⟨i, rfl, rfl⟩ := fR_i ha
  exact lv_ixor C.1 C.2.1 hd (k hc H locs A _ hW hS hL ⟨⟨_, rfl, by unfold fxor; rw [f_oi, f_oi]⟩, hR2⟩)
theorem fs_ishl (C : fCx G md p l s m args meth c) {x y : Int} (hd : decode md.2.1 pc = .ok (.ishl, 1)) (k : fGo G md p l e R s m args below meth c Q cu su (pc + 1) ls (fI (fshl x y) :: t) h) : fGo G md p l e R s m args below meth c Q cu su pc ls (fI y :: fI x :: t) h := by
  intro hc H locs A S hW hS hL hR
  obtain ⟨b, U, rfl, hb, hR1⟩ := fSR_c hR
  obtain ⟨a, U, rfl, ha, hR2⟩ := fSR_c hR1
  obtain ⟨j, rfl, rfl⟩ := fR_i hb
  obtain ⟨i, rfl, rfl⟩ := fR_i ha
  exact lv_ishl C.1 C.2.1 hd (k hc H locs A _ hW hS hL ⟨⟨_, rfl, by unfold fshl; rw [f_oi, f_oi]⟩, hR2⟩)
theorem fs_ishr (C : fCx G md p l s m args meth c) {x y : Int} (hd : decode md.2.1 pc = .ok (.ishr, 1)) (k : fGo G md p l e R s m args below meth c Q cu su (pc + 1) ls (fI (fshr x y) :: t) h) : fGo G md p l e R s m args below meth c Q cu su pc ls (fI y :: fI x :: t) h := by
  intro hc H locs A S hW hS hL hR
  obtain ⟨b, U, rfl, hb, hR1⟩ := fSR_c hR
  obtain ⟨a, U, rfl, ha, hR2⟩ := fSR_c hR1
  obtain ⟨j, rfl, rfl⟩ := fR_i hb
  obtain ⟨i, rfl, rfl⟩ := fR_i ha
  exact lv_ishr C.1 C.2.1 hd (k hc H locs A _ hW hS hL ⟨⟨_, rfl, by unfold fshr; rw [f_oi, f_oi]⟩, hR2⟩)
theorem fs_iushr (C : fCx G md p l s m args meth c) {x y : Int} (hd : decode md.2.1 pc = .ok (.iushr, 1)) (k : fGo G md p l e R s m args below meth c Q cu su (pc + 1) ls (fI (fush x y) :: t) h) : fGo G md p l e R s m args below meth c Q cu su pc ls (fI y :: fI x :: t) h := by
  intro hc H locs A S hW hS hL hR
  obtain ⟨b, U, rfl, hb, hR1⟩ := fSR_c hR
  obtain ⟨a, U, rfl, ha, hR2⟩ := fSR_c hR1
  obtain ⟨j, rfl, rfl⟩ := fR_i hb
  obtain ⟨i, rfl, rfl⟩ := fR_i ha
  exact lv_iushr C.1 C.2.1 hd rfl (k hc H locs A _ hW hS hL ⟨⟨_, rfl, by unfold fush; rw [f_oi, f_oi]⟩, hR2⟩)
theorem fs_ladd (C : fCx G md p l s m args meth c) {x y : Int} (hd : decode md.2.1 pc = .ok (.ladd, 1)) (k : fGo G md p l e R s m args below meth c Q cu su (pc + 1) ls (fJ ((fun x y => fwl (x + y)) x y) :: t) h) : fGo G md p l e R s m args below meth c Q cu su pc ls (fJ y :: fJ x :: t) h := by
  intro hc H locs A S hW hS hL hR
  obtain ⟨b, U, rfl, hb, hR1⟩ := fSR_c hR
  obtain ⟨a, U, rfl, ha, hR2⟩ := fSR_c hR1
  obtain ⟨j, rfl, rfl⟩ := fR_j hb
  obtain ⟨i, rfl, rfl⟩ := fR_j ha
  exact lv_ladd C.1 C.2.1 hd (k hc H locs A _ hW hS hL ⟨⟨_, rfl, f_addl i j⟩, hR2⟩)
theorem fs_lsub (C : fCx G md p l s m args meth c) {x y : Int} (hd : decode md.2.1 pc = .ok (.lsub, 1)) (k : fGo G md p l e R s m args below meth c Q cu su (pc + 1) ls (fJ ((fun x y => fwl (x - y)) x y) :: t) h) : fGo G md p l e R s m args below meth c Q cu su pc ls (fJ y :: fJ x :: t) h := by
  intro hc H locs A S hW hS hL hR
  obtain ⟨b, U, rfl, hb, hR1⟩ := fSR_c hR
  obtain ⟨a, U, rfl, ha, hR2⟩ := fSR_c hR1
  obtain ⟨j, rfl, rfl⟩ := fR_j hb
  obtain ⟨i, rfl, rfl⟩ := fR_j ha
  exact lv_lsub C.1 C.2.1 hd (k hc H locs A _ hW hS hL ⟨⟨_, rfl, f_subl i j⟩, hR2⟩)
theorem fs_lmul (C : fCx G md p l s m args meth c) {x y : Int} (hd : decode md.2.1 pc = .ok (.lmul, 1)) (k : fGo G md p l e R s m args below meth c Q cu su (pc + 1) ls (fJ ((fun x y => fwl (x * y)) x y) :: t) h) : fGo G md p l e R s m args below meth c Q cu su pc ls (fJ y :: fJ x :: t) h := by
  intro hc H locs A S hW hS hL hR
  obtain ⟨b, U, rfl, hb, hR1⟩ := fSR_c hR
  obtain ⟨a, U, rfl, ha, hR2⟩ := fSR_c hR1
  obtain ⟨j, rfl, rfl⟩ := fR_j hb
  obtain ⟨i, rfl, rfl⟩ := fR_j ha
  exact lv_lmul C.1 C.2.1 hd (k hc H locs A _ hW hS hL ⟨⟨_, rfl, f_mull i j⟩, hR2⟩)
theorem fs_ldiv (C : fCx G md p l s m args meth c) {x y : Int} (hd : decode md.2.1 pc = .ok (.ldiv, 1)) (hy : y ≠ 0) (k : fGo G md p l e R s m args below meth c Q cu su (pc + 1) ls (fJ (fldv x y) :: t) h) : fGo G md p l e R s m args below meth c Q cu su pc ls (fJ y :: fJ x :: t) h := by
  intro hc H locs A S hW hS hL hR
  obtain ⟨b, U, rfl, hb, hR1⟩ := fSR_c hR
  obtain ⟨a, U, rfl, ha, hR2⟩ := fSR_c hR1
  obtain ⟨j, rfl, rfl⟩ := fR_j hb
  obtain ⟨i, rfl, rfl⟩ := fR_j ha
  exact lv_ldiv C.1 C.2.1 hd (f_ne0l hy) (k hc H locs A _ hW hS hL ⟨⟨_, rfl, f_divl i j⟩, hR2⟩)
theorem fs_lrem (C : fCx G md p l s m args meth c) {x y : Int} (hd : decode md.2.1 pc = .ok (.lrem, 1)) (hy : y ≠ 0) (k : fGo G md p l e R s m args below meth c Q cu su (pc + 1) ls (fJ (flrm x y) :: t) h) : fGo G md p l e R s m args below meth c Q cu su pc ls (fJ y :: fJ x :: t) h := by
  intro hc H locs A S hW hS hL hR
  obtain ⟨b, U, rfl, hb, hR1⟩ := fSR_c hR
  obtain ⟨a, U, rfl, ha, hR2⟩ := fSR_c hR1
  obtain ⟨j, rfl, rfl⟩ := fR_j hb
  obtain ⟨i, rfl, rfl⟩ := fR_j ha
  exact lv_lrem C.1 C.2.1 hd (f_ne0l hy) (k hc H locs A _ hW hS hL ⟨⟨_, rfl, f_reml i j⟩, hR2⟩)
theorem fs_land (C : fCx G md p l s m args meth c) {x y : Int} (hd : decode md.2.1 pc = .ok (.land, 1)) (k : fGo G md p l e R s m args below meth c Q cu su (pc + 1) ls (fJ (flan x y) :: t) h) : fGo G md p l e R s m args below meth c Q cu su pc ls (fJ y :: fJ x :: t) h := by
  intro hc H locs A S hW hS hL hR
  obtain ⟨b, U, rfl, hb, hR1⟩ := fSR_c hR
  obtain ⟨a, U, rfl, ha, hR2⟩ := fSR_c hR1
  obtain ⟨j, rfl, rfl⟩ := fR_j hb
  obtain ⟨i, rfl, rfl⟩ := fR_j ha
  exact lv_land C.1 C.2.1 hd (k hc H locs A _ hW hS hL ⟨⟨_, rfl, by unfold flan; rw [f_ol, f_ol]⟩, hR2⟩)
theorem fs_lor (C : fCx G md p l s m args meth c) {x y : Int} (hd : decode md.2.1 pc = .ok (.lor, 1)) (k : fGo G md p l e R s m args below meth c Q cu su (pc + 1) ls (fJ (flor x y) :: t) h) : fGo G md p l e R s m args below meth c Q cu su pc ls (fJ y :: fJ x :: t) h := by
  intro hc H locs A S hW hS hL hR
  obtain ⟨b, U, rfl, hb, hR1⟩ := fSR_c hR
  obtain ⟨a, U, rfl, ha, hR2⟩ := fSR_c hR1
  obtain ⟨j, rfl, rfl⟩ := fR_j hb
  obtain ⟨i, rfl, rfl⟩ := fR_j ha
  exact lv_lor C.1 C.2.1 hd (k hc H locs A _ hW hS hL ⟨⟨_, rfl, by unfold flor; rw [f_ol, f_ol]⟩, hR2⟩)
theorem fs_lcmp (C : fCx G md p l s m args meth c) {x y : Int} (hd : decode md.2.1 pc = .ok (.lcmp, 1)) (k : fGo G md p l e R s m args below meth c Q cu su (pc + 1) ls (fI (fcm x y) :: t) h) : fGo G md p l e R s m args below meth c Q cu su pc ls (fJ y :: fJ x :: t) h := by
  intro hc H locs A S hW hS hL hR
  obtain ⟨b, U, rfl, hb, hR1⟩ := fSR_c hR
  obtain ⟨a, U, rfl, ha, hR2⟩ := fSR_c hR1
  obtain ⟨j, rfl, rfl⟩ := fR_j hb
  obtain ⟨i, rfl, rfl⟩ := fR_j ha
  exact W.lcmp C.1 C.2.1 hd (k hc H locs A _ hW hS hL ⟨⟨_, rfl, by
    unfold lg_cmp fcm
    simp only [gt_iff_lt, Int64.lt_iff_toInt_lt, ← Int64.toInt_inj]
    split
    · rfl
    · split <;> rfl⟩, hR2⟩)
theorem fs_lshl (C : fCx G md p l s m args meth c) {x y : Int} (hd : decode md.2.1 pc = .ok (.lshl, 1)) (k : fGo G md p l e R s m args below meth c Q cu su (pc + 1) ls (fJ (fls x y) :: t) h) : fGo G md p l e R s m args below meth c Q cu su pc ls (fI y :: fJ x :: t) h := by
  intro hc H locs A S hW hS hL hR
  obtain ⟨b, U, rfl, hb, hR1⟩ := fSR_c hR
  obtain ⟨a, U, rfl, ha, hR2⟩ := fSR_c hR1
  obtain ⟨j, rfl, rfl⟩ := fR_i hb
  obtain ⟨i, rfl, rfl⟩ := fR_j ha
  exact lv_lshl C.1 C.2.1 hd rfl (k hc H locs A _ hW hS hL ⟨⟨_, rfl, by unfold fls; rw [f_oi, f_ol]⟩, hR2⟩)
theorem fs_lshr (C : fCx G md p l s m args meth c) {x y : Int} (hd : decode md.2.1 pc = .ok (.lshr, 1)) (k : fGo G md p l e R s m args below meth c Q cu su (pc + 1) ls (fJ (flr x y) :: t) h) : fGo G md p l e R s m args below meth c Q cu su pc ls (fI y :: fJ x :: t) h := by
  intro hc H locs A S hW hS hL hR
  obtain ⟨b, U, rfl, hb, hR1⟩ := fSR_c hR
  obtain ⟨a, U, rfl, ha, hR2⟩ := fSR_c hR1
  obtain ⟨j, rfl, rfl⟩ := fR_i hb
  obtain ⟨i, rfl, rfl⟩ := fR_j ha
  exact lv_lshr C.1 C.2.1 hd rfl (k hc H locs A _ hW hS hL ⟨⟨_, rfl, by unfold flr; rw [f_oi, f_ol]⟩, hR2⟩)
theorem fs_ineg (C : fCx G md p l s m args meth c) {x : Int} (hd : decode md.2.1 pc = .ok (.ineg, 1)) (k : fGo G md p l e R s m args below meth c Q cu su (pc + 1) ls (fI ((fun x => fw (-x)) x) :: t) h) : fGo G md p l e R s m args below meth c Q cu su pc ls (fI x :: t) h := by
  intro hc H locs A S hW hS hL hR
  obtain ⟨a, U, rfl, ha, hR1⟩ := fSR_c hR
  obtain ⟨i, rfl, rfl⟩ := fR_i ha
  exact lv_ineg C.1 C.2.1 hd (k hc H locs A _ hW hS hL ⟨⟨_, rfl, f_neg i⟩, hR1⟩)
theorem fs_lneg (C : fCx G md p l s m args meth c) {x : Int} (hd : decode md.2.1 pc = .ok (.lneg, 1)) (k : fGo G md p l e R s m args below meth c Q cu su (pc + 1) ls (fJ ((fun x => fwl (-x)) x) :: t) h) : fGo G md p l e R s m args below meth c Q cu su pc ls (fJ x :: t) h := by
  intro hc H locs A S hW hS hL hR
  obtain ⟨a, U, rfl, ha, hR1⟩ := fSR_c hR
  obtain ⟨i, rfl, rfl⟩ := fR_j ha
  exact lv_lneg C.1 C.2.1 hd (k hc H locs A _ hW hS hL ⟨⟨_, rfl, f_negl i⟩, hR1⟩)
theorem fs_i2l (C : fCx G md p l s m args meth c) {x : Int} (hd : decode md.2.1 pc = .ok (.i2l, 1)) (k : fGo G md p l e R s m args below meth c Q cu su (pc + 1) ls (fJ ((fun x => x) x) :: t) h) : fGo G md p l e R s m args below meth c Q cu su pc ls (fI x :: t) h := by
  intro hc H locs A S hW hS hL hR
  obtain ⟨a, U, rfl, ha, hR1⟩ := fSR_c hR
  obtain ⟨i, rfl, rfl⟩ := fR_i ha
  exact lv_i2l C.1 C.2.1 hd rfl (k hc H locs A _ hW hS hL ⟨⟨_, rfl, Int32.toInt_toInt64 i⟩, hR1⟩)
theorem fs_l2i (C : fCx G md p l s m args meth c) {x : Int} (hd : decode md.2.1 pc = .ok (.l2i, 1)) (k : fGo G md p l e R s m args below meth c Q cu su (pc + 1) ls (fI (fw x) :: t) h) : fGo G md p l e R s m args below meth c Q cu su pc ls (fJ x :: t) h := by
  intro hc H locs A S hW hS hL hR
  obtain ⟨a, U, rfl, ha, hR1⟩ := fSR_c hR
  obtain ⟨i, rfl, rfl⟩ := fR_j ha
  exact lv_l2i C.1 C.2.1 hd rfl (k hc H locs A _ hW hS hL ⟨⟨_, rfl, Int64.toInt_toInt32 i⟩, hR1⟩)
theorem fs_i2b (C : fCx G md p l s m args meth c) {x : Int} (hd : decode md.2.1 pc = .ok (.i2b, 1)) (k : fGo G md p l e R s m args below meth c Q cu su (pc + 1) ls (fI (fi2b x) :: t) h) : fGo G md p l e R s m args below meth c Q cu su pc ls (fI x :: t) h := by
  intro hc H locs A S hW hS hL hR
  obtain ⟨a, U, rfl, ha, hR1⟩ := fSR_c hR
  obtain ⟨i, rfl, rfl⟩ := fR_i ha
  exact lv_i2b C.1 C.2.1 hd rfl (k hc H locs A _ hW hS hL ⟨⟨_, rfl, by unfold fi2b; rw [f_oi]⟩, hR1⟩)
theorem fs_dup_i (C : fCx G md p l s m args meth c) {x : Int} (hd : decode md.2.1 pc = .ok (.dup, 1)) (k : fGo G md p l e R s m args below meth c Q cu su (pc + 1) ls (fI x :: fI x :: t) h) : fGo G md p l e R s m args below meth c Q cu su pc ls (fI x :: t) h := by
  intro hc H locs A S hW hS hL hR
  obtain ⟨a, U, rfl, ha, hR1⟩ := fSR_c hR
  exact lv_dup C.1 C.2.1 hd (fR_c ha) (k hc H locs A _ hW hS hL ⟨ha, ha, hR1⟩)
theorem fs_pop_i (C : fCx G md p l s m args meth c) {x : Int} (hd : decode md.2.1 pc = .ok (.pop, 1)) (k : fGo G md p l e R s m args below meth c Q cu su (pc + 1) ls t h) : fGo G md p l e R s m args below meth c Q cu su pc ls (fI x :: t) h := by
  intro hc H locs A S hW hS hL hR
  obtain ⟨a, U, rfl, ha, hR1⟩ := fSR_c hR
  exact lv_pop C.1 C.2.1 hd (fR_c ha) (k hc H locs A _ hW hS hL hR1)
theorem fs_dup_a (C : fCx G md p l s m args meth c) {x : Nat} (hd : decode md.2.1 pc = .ok (.dup, 1)) (k : fGo G md p l e R s m args below meth c Q cu su (pc + 1) ls (fA x :: fA x :: t) h) : fGo G md p l e R s m args below meth c Q cu su pc ls (fA x :: t) h := by
  intro hc H locs A S hW hS hL hR
  obtain ⟨a, U, rfl, ha, hR1⟩ := fSR_c hR
  exact lv_dup C.1 C.2.1 hd (fR_c ha) (k hc H locs A _ hW hS hL ⟨ha, ha, hR1⟩)
theorem fs_pop_a (C : fCx G md p l s m args meth c) {x : Nat} (hd : decode md.2.1 pc = .ok (.pop, 1)) (k : fGo G md p l e R s m args below meth c Q cu su (pc + 1) ls t h) : fGo G md p l e R s m args below meth c Q cu su pc ls (fA x :: t) h := by
  intro hc H locs A S hW hS hL hR
  obtain ⟨a, U, rfl, ha, hR1⟩ := fSR_c hR
  exact lv_pop C.1 C.2.1 hd (fR_c ha) (k hc H locs A _ hW hS hL hR1)
theorem fs_dup2 (C : fCx G md p l s m args meth c) {x : Nat} {y : Int} (hd : decode md.2.1 pc = .ok (.dup2, 1)) (k : fGo G md p l e R s m args below meth c Q cu su (pc + 1) ls (fI y :: fA x :: fI y :: fA x :: t) h) : fGo G md p l e R s m args below meth c Q cu su pc ls (fI y :: fA x :: t) h := by
  intro hc H locs A S hW hS hL hR
  obtain ⟨b, U, rfl, hb, hR1⟩ := fSR_c hR
  obtain ⟨a, U, rfl, ha, hR2⟩ := fSR_c hR1
  exact lv_dup2_11 C.1 C.2.1 hd (fR_c hb) (fR_c ha) (k hc H locs A _ hW hS hL ⟨hb, ha, hb, ha, hR2⟩)
theorem fs_goto (C : fCx G md p l s m args meth c) {off : Int} {x : Nat} (hd : decode md.2.1 pc = .ok (.goto off, 3)) (hx : (pc : Int) + off = (x : Int)) (k : fGo G md p l e R s m args below meth c Q cu su x ls t h) : fGo G md p l e R s m args below meth c Q cu su pc ls t h := by
  intro hc H locs A S hW hS hL hR
  exact lv_goto C.1 C.2.1 hd hx (k hc H locs A _ hW hS hL hR)
theorem fs_if (C : fCx G md p l s m args meth c) {cd : ClassFile.Cond} {off z : Int} {x : Nat} (hd : decode md.2.1 pc = .ok (.ifCond cd off, 3)) (hx : (pc : Int) + off = (x : Int)) (k1 : fcd cd z 0 → fGo G md p l e R s m args below meth c Q cu su x ls t h) (k2 : ¬ fcd cd z 0 → fGo G md p l e R s m args below meth c Q cu su (pc + 3) ls t h) : fGo G md p l e R s m args below meth c Q cu su pc ls (fI z :: t) h := by
  intro hc H locs A S hW hS hL hR
  obtain ⟨a, U, rfl, ha, hR1⟩ := fSR_c hR
  obtain ⟨i, rfl, rfl⟩ := fR_i ha
  have z0 : (0 : Int32).toInt = 0 := rfl
  cases cd
  · refine lv_if_eq C.1 C.2.1 hd hx (fun q => k1 ?_ hc H locs A _ hW hS hL hR1) (fun q => k2 ?_ hc H locs A _ hW hS hL hR1) <;> simp only [fcd, Int32.lt_iff_toInt_lt, Int32.le_iff_toInt_le, ← Int32.toInt_inj, z0, gt_iff_lt, ge_iff_le, ne_eq] at q ⊢ <;> omega
  · refine lv_if_ne C.1 C.2.1 hd hx (fun q => k1 ?_ hc H locs A _ hW hS hL hR1) (fun q => k2 ?_ hc H locs A _ hW hS hL hR1) <;> simp only [fcd, Int32.lt_iff_toInt_lt, Int32.le_iff_toInt_le, ← Int32.toInt_inj, z0, gt_iff_lt, ge_iff_le, ne_eq] at q ⊢ <;> omega
  · refine lv_if_lt C.1 C.2.1 hd hx (fun q => k1 ?_ hc H locs A _ hW hS hL hR1) (fun q => k2 ?_ hc H locs A _ hW hS hL hR1) <;> simp only [fcd, Int32.lt_iff_toInt_lt, Int32.le_iff_toInt_le, ← Int32.toInt_inj, z0, gt_iff_lt, ge_iff_le, ne_eq] at q ⊢ <;> omega
  · refine lv_if_ge C.1 C.2.1 hd hx (fun q => k1 ?_ hc H locs A _ hW hS hL hR1) (fun q => k2 ?_ hc H locs A _ hW hS hL hR1) <;> simp only [fcd, Int32.lt_iff_toInt_lt, Int32.le_iff_toInt_le, ← Int32.toInt_inj, z0, gt_iff_lt, ge_iff_le, ne_eq] at q ⊢ <;> omega
  · refine lv_if_gt C.1 C.2.1 hd hx (fun q => k1 ?_ hc H locs A _ hW hS hL hR1) (fun q => k2 ?_ hc H locs A _ hW hS hL hR1) <;> simp only [fcd, Int32.lt_iff_toInt_lt, Int32.le_iff_toInt_le, ← Int32.toInt_inj, z0, gt_iff_lt, ge_iff_le, ne_eq] at q ⊢ <;> omega
  · refine lv_if_le C.1 C.2.1 hd hx (fun q => k1 ?_ hc H locs A _ hW hS hL hR1) (fun q => k2 ?_ hc H locs A _ hW hS hL hR1) <;> simp only [fcd, Int32.lt_iff_toInt_lt, Int32.le_iff_toInt_le, ← Int32.toInt_inj, z0, gt_iff_lt, ge_iff_le, ne_eq] at q ⊢ <;> omega
theorem fs_icmp (C : fCx G md p l s m args meth c) {cd : ClassFile.Cond} {off z y : Int} {x : Nat} (hd : decode md.2.1 pc = .ok (.if_icmp cd off, 3)) (hx : (pc : Int) + off = (x : Int)) (k1 : fcd cd z y → fGo G md p l e R s m args below meth c Q cu su x ls t h) (k2 : ¬ fcd cd z y → fGo G md p l e R s m args below meth c Q cu su (pc + 3) ls t h) : fGo G md p l e R s m args below meth c Q cu su pc ls (fI y :: fI z :: t) h := by
  intro hc H locs A S hW hS hL hR
  obtain ⟨b, U, rfl, hb, hR1⟩ := fSR_c hR
  obtain ⟨a, U, rfl, ha, hR2⟩ := fSR_c hR1
  obtain ⟨j, rfl, rfl⟩ := fR_i hb
  obtain ⟨i, rfl, rfl⟩ := fR_i ha
  cases cd
  · refine lv_icmp_eq C.1 C.2.1 hd hx (fun q => k1 ?_ hc H locs A _ hW hS hL hR2) (fun q => k2 ?_ hc H locs A _ hW hS hL hR2) <;> simp only [fcd, Int32.lt_iff_toInt_lt, Int32.le_iff_toInt_le, ← Int32.toInt_inj, gt_iff_lt, ge_iff_le, ne_eq] at q ⊢ <;> omega
  · refine lv_icmp_ne C.1 C.2.1 hd hx (fun q => k1 ?_ hc H locs A _ hW hS hL hR2) (fun q => k2 ?_ hc H locs A _ hW hS hL hR2) <;> simp only [fcd, Int32.lt_iff_toInt_lt, Int32.le_iff_toInt_le, ← Int32.toInt_inj, gt_iff_lt, ge_iff_le, ne_eq] at q ⊢ <;> omega
  · refine lv_icmp_lt C.1 C.2.1 hd hx (fun q => k1 ?_ hc H locs A _ hW hS hL hR2) (fun q => k2 ?_ hc H locs A _ hW hS hL hR2) <;> simp only [fcd, Int32.lt_iff_toInt_lt, Int32.le_iff_toInt_le, ← Int32.toInt_inj, gt_iff_lt, ge_iff_le, ne_eq] at q ⊢ <;> omega
  · refine lv_icmp_ge C.1 C.2.1 hd hx (fun q => k1 ?_ hc H locs A _ hW hS hL hR2) (fun q => k2 ?_ hc H locs A _ hW hS hL hR2) <;> simp only [fcd, Int32.lt_iff_toInt_lt, Int32.le_iff_toInt_le, ← Int32.toInt_inj, gt_iff_lt, ge_iff_le, ne_eq] at q ⊢ <;> omega
  · refine lv_icmp_gt C.1 C.2.1 hd hx (fun q => k1 ?_ hc H locs A _ hW hS hL hR2) (fun q => k2 ?_ hc H locs A _ hW hS hL hR2) <;> simp only [fcd, Int32.lt_iff_toInt_lt, Int32.le_iff_toInt_le, ← Int32.toInt_inj, gt_iff_lt, ge_iff_le, ne_eq] at q ⊢ <;> omega
  · refine lv_icmp_le C.1 C.2.1 hd hx (fun q => k1 ?_ hc H locs A _ hW hS hL hR2) (fun q => k2 ?_ hc H locs A _ hW hS hL hR2) <;> simp only [fcd, Int32.lt_iff_toInt_lt, Int32.le_iff_toInt_le, ← Int32.toInt_inj, gt_iff_lt, ge_iff_le, ne_eq] at q ⊢ <;> omega
end FOP
