/-! ===== what the flat heap is in the machine ===== -/
/-- the first number of a cell of ours, the old cells' addresses, the array classes, the classes, what the old arrays hold, the script's length -/
abbrev fG : Type := Nat × (Nat → Nat) × (Nat → ClassId) × va_G × (Nat → Nat → Int32) × Nat
abbrev gN (G : fG) : Nat := G.1
abbrev gO (G : fG) : Nat → Nat := G.2.1
abbrev gC (G : fG) : Nat → ClassId := G.2.2.1
abbrev gD (G : fG) : va_G := G.2.2.2.1
abbrev gX (G : fG) : Nat → Nat → Int32 := G.2.2.2.2.1
abbrev gL (G : fG) : Nat := G.2.2.2.2.2
def fAd (G : fG) (k : Nat) : Nat := if k < 1000 then gN G + k else gO G k
abbrev fIn (G : fG) : Nat → Prop := fun q => gN G ≤ q
def fR (G : fG) (v : fV) (x : Value) : Prop := match v with
  | .inl z => ∃ i : Int32, x = .int i ∧ i.toInt = z
  | .inr (.inl z) => ∃ i : Int64, x = .long i ∧ i.toInt = z
  | .inr (.inr k) => if k = 9999 then ∃ q, x = .ref q else x = .ref (fAd G k)
def fRo (G : fG) (v : Option fV) (x : Option Value) : Prop := match v, x with
  | none, none => True
  | some v, some x => fR G v x
  | _, _ => False
def fSR (G : fG) : List fV → List Value → Prop
  | [], [] => True
  | v :: t, x :: u => fR G v x ∧ fSR G t u
  | _, _ => False
def fLR (G : fG) (ls : fL) (nL : Nat) (A : Array Slot) : Prop := A.size = nL ∧ lv_wf A ∧ ∀ i v, fget ls i = some v → ∃ x, A[i]? = some (.val x) ∧ fR G v x
def fval (G : fG) (h : fH) (k f kd : Nat) : Value := match kd with
  | 0 => .int (Int32.ofInt (h.2.2 k f))
  | 1 => .long (Int64.ofInt (h.2.2 k f))
  | _ => match h.2.1 k f with
    | 0 => .null
    | q + 1 => .ref (gN G + q)
def fobj (G : fG) (h : fH) (k : Nat) : Nat → List Nat → List Value
  | _, [] => []
  | f, kd :: t => fval G h k f kd :: fobj G h k (f + 1) t
def fref (G : fG) (h : fH) (k j : Nat) : Option Nat := match h.2.1 k j with
  | 0 => none
  | q + 1 => some (gN G + q)
def farr (G : fG) (h : fH) (k ty : Nat) : (Nat → Int32) ⊕ (Nat → Int64) ⊕ (Nat → UInt32) ⊕ (Nat → UInt64) ⊕ (Nat → Option Nat) := match ty with
  | 1 => .inr (.inl (fun j => Int64.ofInt (h.2.2 k j)))
  | 4 => .inr (.inr (.inr (.inr (fref G h k))))
  | 5 => .inr (.inr (.inr (.inr (fref G h k))))
  | _ => .inl (fun j => Int32.ofInt (h.2.2 k j))
def fE (G : fG) (h : fH) (k : Nat) : va_E := match flay k with
  | some (.inl ci) => .inr (ci, fobj G h k 0 (fkin ci))
  | some (.inr (ty, len)) => .inl (gC G ty, len, farr G h k ty)
  | none => .inr (0, [])
def fWs (G : fG) (h : fH) : va_W := (List.range h.1).map (fun k => (gN G + k, fE G h k))
theorem fWs_get {G : fG} {h : fH} {k : Nat} (hk : k < h.1) : (fWs G h)[k]? = some (gN G + k, fE G h k) := by
  simp [fWs, hk]
theorem fWs_at {G : fG} {h : fH} {k : Nat} {q : Nat × va_E} (hq : (fWs G h)[k]? = some q) : k < h.1 ∧ q = (gN G + k, fE G h k) := by
  have hk : k < h.1 := by
    have := (List.getElem?_eq_some_iff.mp hq).1
    simpa [fWs] using this
  rw [fWs_get hk] at hq
  exact ⟨hk, (Option.some.inj hq).symm⟩
theorem fWs_D (G : fG) (h : fH) : va_D (fIn G) (fWs G h) := by
  refine ⟨fun i j p q hp hq e => ?_, fun k q hq => ?_⟩
  · obtain ⟨-, rfl⟩ := fWs_at hp
    obtain ⟨-, rfl⟩ := fWs_at hq
    have e' : gN G + i = gN G + j := e
    omega
  · obtain ⟨-, rfl⟩ := fWs_at hq
    exact Nat.le_add_right _ _
theorem fobj_cong {G : fG} {h h' : fH} {k : Nat} (e1 : h'.2.1 k = h.2.1 k) (e2 : h'.2.2 k = h.2.2 k) : ∀ (ks : List Nat) (f : Nat), fobj G h' k f ks = fobj G h k f ks
  | [], _ => rfl
  | kd :: t, f => by
    have ih := fobj_cong (G := G) e1 e2 t (f + 1)
    unfold fobj
    rw [ih]
    congr 1
    unfold fval
    rw [e1, e2]
theorem fE_cong {G : fG} {h h' : fH} {k : Nat} (e1 : h'.2.1 k = h.2.1 k) (e2 : h'.2.2 k = h.2.2 k) : fE G h' k = fE G h k := by
  unfold fE
  rcases flay k with _ | (ci | ⟨ty, len⟩)
  · rfl
  · show Sum.inr (ci, _) = Sum.inr (ci, _)
    rw [fobj_cong e1 e2]
  · have e3 : farr G h' k ty = farr G h k ty := by
      unfold farr
      have e4 : fref G h' k = fref G h k := by
        funext j
        unfold fref
        rw [e1]
      rw [e4, e2]
    show Sum.inl (_, len, _) = Sum.inl (_, len, _)
    rw [e3]
theorem fWs_set {G : fG} {h h' : fH} {k : Nat} {e : va_E} (hk : k < h.1) (hn : h'.1 = h.1) (he : fE G h' k = e) (ho : ∀ j, j ≠ k → h'.2.1 j = h.2.1 j ∧ h'.2.2 j = h.2.2 j) : (fWs G h).set k (gN G + k, e) = fWs G h' := by
  apply List.ext_getElem?
  intro j
  rw [List.getElem?_set]
  by_cases hj : k = j
  · subst hj
    rw [if_pos rfl, if_pos (by simpa [fWs] using hk), fWs_get (by rw [hn]; exact hk), he]
  · rw [if_neg hj]
    by_cases hj2 : j < h.1
    · rw [fWs_get hj2, fWs_get (by rw [hn]; exact hj2), fE_cong (ho j (Ne.symm hj)).1 (ho j (Ne.symm hj)).2]
    · have e1 : (fWs G h)[j]? = none := List.getElem?_eq_none (by simpa [fWs] using hj2)
      have e2 : (fWs G h')[j]? = none := List.getElem?_eq_none (by simpa [fWs, hn] using hj2)
      rw [e1, e2]
theorem fWs_push {G : fG} {h h' : fH} {e : va_E} (hn : h'.1 = h.1 + 1) (he : fE G h' h.1 = e) (ho : ∀ j, j < h.1 → h'.2.1 j = h.2.1 j ∧ h'.2.2 j = h.2.2 j) : fWs G h ++ [(gN G + h.1, e)] = fWs G h' := by
  apply List.ext_getElem?
  intro j
  have hl : (fWs G h).length = h.1 := by simp [fWs]
  rcases Nat.lt_trichotomy j h.1 with hj | hj | hj
  · rw [List.getElem?_append_left (by rw [hl]; exact hj), fWs_get hj, fWs_get (by omega), fE_cong (ho j hj).1 (ho j hj).2]
  · subst hj
    rw [List.getElem?_append_right (by rw [hl]; exact Nat.le_refl _), hl, Nat.sub_self, fWs_get (by omega), he]
    rfl
  · have e1 : (fWs G h ++ [(gN G + h.1, e)])[j]? = none := List.getElem?_eq_none (by simp [hl]; omega)
    have e2 : (fWs G h')[j]? = none := List.getElem?_eq_none (by simp [fWs, hn]; omega)
    rw [e1, e2]
theorem fobj_get {G : fG} {h : fH} {k : Nat} : ∀ (ks : List Nat) (f j kd : Nat), ks[j]? = some kd → (fobj G h k f ks)[j]? = some (fval G h k (f + j) kd)
  | [], _, _, _, hj => by simp at hj
  | kd0 :: t, f, 0, kd, hj => by
    simp only [List.getElem?_cons_zero, Option.some.injEq] at hj
    subst hj
    rfl
  | kd0 :: t, f, j + 1, kd, hj => by
    rw [List.getElem?_cons_succ] at hj
    have ih := fobj_get (G := G) (h := h) (k := k) t (f + 1) j kd hj
    show (fobj G h k (f + 1) t)[j]? = _
    rw [ih, show f + 1 + j = f + (j + 1) by omega]
theorem fobj_len {G : fG} {h : fH} {k : Nat} : ∀ (ks : List Nat) (f : Nat), (fobj G h k f ks).length = ks.length
  | [], _ => rfl
  | _ :: t, f => by
    show (fobj G h k (f + 1) t).length + 1 = t.length + 1
    rw [fobj_len t (f + 1)]
theorem fobj_set {G : fG} {h h' : fH} {k : Nat} : ∀ (ks : List Nat) (f j kd : Nat) (v : Value), ks[j]? = some kd → v = fval G h' k (f + j) kd → (∀ i kd', i ≠ f + j → fval G h' k i kd' = fval G h k i kd') → (fobj G h k f ks).set j v = fobj G h' k f ks
  | [], _, _, _, _, hj, _, _ => by simp at hj
  | kd0 :: t, f, 0, kd, v, hj, hv, ho => by
    simp only [List.getElem?_cons_zero, Option.some.injEq] at hj
    subst hj
    show v :: fobj G h k (f + 1) t = fval G h' k f kd0 :: fobj G h' k (f + 1) t
    rw [hv]
    congr 1
    have key : ∀ (t : List Nat) (f' : Nat), f < f' → fobj G h k f' t = fobj G h' k f' t := by
      intro t
      induction t with
      | nil => intro f' _; rfl
      | cons a t ih =>
        intro f' hf
        show fval G h k f' a :: fobj G h k (f' + 1) t = fval G h' k f' a :: fobj G h' k (f' + 1) t
        rw [ih (f' + 1) (by omega), ho f' a (by omega)]
    exact key t (f + 1) (by omega)
  | kd0 :: t, f, j + 1, kd, v, hj, hv, ho => by
    rw [List.getElem?_cons_succ] at hj
    show fval G h k f kd0 :: (fobj G h k (f + 1) t).set j v = fval G h' k f kd0 :: fobj G h' k (f + 1) t
    rw [fobj_set t (f + 1) j kd v hj (by rw [hv, show f + (j + 1) = f + 1 + j by omega]) (fun i kd' hi => ho i kd' (by omega)), ho f kd0 (by omega)]
/-- the numbers are such as their cells can hold; the old arrays are as they are -/
def fkd (k f : Nat) : Nat := match flay k with
  | some (.inl ci) => (fkin ci).getD f 0
  | some (.inr (ty, _)) => ty
  | none => 0
def fRg (G : fG) (h : fH) : Prop := (∀ k f, (fkd k f = 1 → (Int64.ofInt (h.2.2 k f)).toInt = h.2.2 k f) ∧ (fkd k f ≠ 1 → (Int32.ofInt (h.2.2 k f)).toInt = h.2.2 k f)) ∧ (∀ k j, 1000 ≤ k → h.2.2 k j = (gX G k j).toInt) ∧ h.2.1 1000 0 = gL G
/-- the heap holds it -/
def fWh (G : fG) (h : fH) (H : Heap) : Prop := va_P (gD G) vwCl (fWs G h) H ∧ fRg G h ∧ h.1 ≤ fNC
theorem fWh_sz {G : fG} {h : fH} {H : Heap} (hw : fWh G h H) (h0 : gN G ≤ H.size) : gN G + h.1 ≤ H.size := by
  rcases Nat.eq_zero_or_pos h.1 with e | e
  · omega
  · have := (hw.1 (h.1 - 1) _ (fWs_get (by omega))).lt
    have e2 : gN G + (h.1 - 1) < H.size := this
    omega
def fTys (G : fG) : List (ClassId × FieldType) := [(gC G 0, .int), (gC G 1, .long), (gC G 2, .byte), (gC G 3, .boolean), (gC G 4, .object "TunerRounds$House"), (gC G 5, .object "TunerRounds$Records")]
