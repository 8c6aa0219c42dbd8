/-! ===== the instructions that read and write cells ===== -/
/-- a class of ours: its words, its fields' names and types -/
def fCl (ci : Nat) (C : String) (T : u_T) (N : Nat) : Prop := vwCl[ci]? = some (C, T, N) ∧ (∀ w ∈ u_ws C T N, w ∈ fTb) ∧ (∀ a, a < N → ∀ b, b < N → a ≠ b → (T a).2.1 ≠ (T b).2.1) ∧ (∃ ty0 : Nat → FieldType, ∀ k, k < N → parseFieldDescriptor (T k).2.2.1 = some (ty0 k)) ∧ (fkin ci).length = N
def fTyk (kd : Nat) (ty : FieldType) : Prop := match kd with
  | 0 => ty = .int
  | 1 => ty = .long
  | _ => (∃ n, ty = .object n) ∨ ∃ t, ty = .array t
/-- entry x of own's pool is field k of class ci, of kind kd -/
def fFld (own : String) (x ci k kd : Nat) : Prop := ∃ (C : String) (T : u_T) (N : Nat), fCl ci C T N ∧ k < N ∧ Cond.fieldLink own x (T k).1 (T k).2.1 (T k).2.2.1 ∈ fTb ∧ (fkin ci)[k]? = some kd ∧ ∃ ty, parseFieldDescriptor (T k).2.2.1 = some ty ∧ fTyk kd ty
/-- it isn't final, or this is a constructor -/
def fFin (ci k : Nat) (y : MethodName) : Prop := ∀ q, vwCl[ci]? = some q → (q.2.1 k).2.2.2 = true → y.name = "<init>" ∧ (q.2.1 k).1 = y.cls
theorem fE_o {G : fG} {h : fH} {o ci : Nat} (hl : flay o = some (.inl ci)) : fE G h o = .inr (ci, fobj G h o 0 (fkin ci)) := by
  unfold fE
  rw [hl]
theorem fE_a {G : fG} {h : fH} {o ty len : Nat} (hl : flay o = some (.inr (ty, len))) : fE G h o = .inl (gC G ty, len, farr G h o ty) := by
  unfold fE
  rw [hl]
theorem fkd_o {o ci k kd : Nat} (hl : flay o = some (.inl ci)) (hk : (fkin ci)[k]? = some kd) : fkd o k = kd := by
  unfold fkd
  rw [hl]
  show (fkin ci).getD k 0 = kd
  rw [List.getD_eq_getElem?_getD, hk]
  rfl
theorem fkd_a {o ty len : Nat} (k : Nat) (hl : flay o = some (.inr (ty, len))) : fkd o k = ty := by
  unfold fkd
  rw [hl]
theorem fAd_lt {G : fG} {k n : Nat} (h : k < n) (hn : n ≤ fNC) : fAd G k = gN G + k := by
  unfold fAd
  have : fNC = 156 := rfl
  rw [if_pos (by omega)]
theorem f_ne99 {k n : Nat} (h : k < n) (hn : n ≤ fNC) : k ≠ 9999 := by
  have : fNC = 156 := rfl
  omega
theorem fup_s (M : fM) (k i : Nat) (v : Int) : fup M k i v k i = v := by simp [fup]
theorem fup_k (M : fM) {k j : Nat} (i : Nat) (v : Int) (h : j ≠ k) : fup M k i v j = M j := by
  funext b
  simp [fup, h]
theorem fup_i (M : fM) (k : Nat) {i j : Nat} (v : Int) (h : j ≠ i) : fup M k i v k j = M k j := by simp [fup, h]
theorem fupN_s (J : Nat → Nat → Nat) (k i v : Nat) : fupN J k i v k i = v := by simp [fupN]
theorem fupN_k (J : Nat → Nat → Nat) {k j : Nat} (i v : Nat) (h : j ≠ k) : fupN J k i v j = J j := by
  funext b
  simp [fupN, h]
theorem fupN_i (J : Nat → Nat → Nat) (k : Nat) {i j : Nat} (v : Nat) (h : j ≠ i) : fupN J k i v k j = J k j := by simp [fupN, h]
theorem fRg_up {G : fG} {n : Nat} {J : Nat → Nat → Nat} {M : fM} {k i : Nat} {v : Int} (hr : fRg G (n, J, M)) (hk : k < 1000) (h1 : fkd k i = 1 → (Int64.ofInt v).toInt = v) (h2 : fkd k i ≠ 1 → (Int32.ofInt v).toInt = v) : fRg G (n, J, fup M k i v) := by
  refine ⟨fun a b => ?_, fun a b ha => ?_, hr.2.2⟩
  · show (fkd a b = 1 → (Int64.ofInt (fup M k i v a b)).toInt = fup M k i v a b) ∧ (fkd a b ≠ 1 → (Int32.ofInt (fup M k i v a b)).toInt = fup M k i v a b)
    by_cases hab : a = k ∧ b = i
    · obtain ⟨rfl, rfl⟩ := hab
      rw [fup_s]
      exact ⟨h1, h2⟩
    · have e1 : fup M k i v a b = M a b := by simp [fup, hab]
      rw [e1]
      exact hr.1 a b
  · show fup M k i v a b = _
    rw [fup_k M i v (by omega)]
    exact hr.2.1 a b ha
section FHP
variable {G : fG} {md : fD} {p : Program} {l : Launch} {e : Env} {R : Room} {s : State} {m : MethodId} {args : Array Value} {below : List Frame} {meth : Method} {c : Code} {Q : fO → fH → Prop} {cu su pc : Nat} {ls : fL} {t : List fV} {n : Nat} {J : Nat → Nat → Nat} {M : fM}
theorem fs_getfield (C : fCx G md p l s m args meth c) {x o ci k kd : Nat} {v : fV} (hF : fFld md.1.cls x ci k kd) (hd : decode md.2.1 pc = .ok (.getfield x, 3)) (ho : o < n) (hl : flay o = some (.inl ci)) (hv : fRg G (n, J, M) → n ≤ fNC → fR G v (fval G (n, J, M) o k kd)) (kk : fGo G md p l e R s m args below meth c Q cu su (pc + 3) ls (v :: t) (n, J, M)) : fGo G md p l e R s m args below meth c Q cu su pc ls (fA o :: t) (n, J, M) := by
  intro hc H locs A S hW hS hL hR
  obtain ⟨a, U, rfl, ha, hR1⟩ := fSR_c hR
  obtain ⟨hx, hb, -, -, -, hown, hts, hK, -⟩ := id C
  obtain ⟨hP, hrg, hnc⟩ := id hW
  obtain rfl := fR_a ha (f_ne99 ho hnc)
  rw [fAd_lt ho hnc]
  obtain ⟨Cn, T, N, hC, hk, hln, hkd, -⟩ := hF
  have hg := fWs_get (G := G) (h := (n, J, M)) ho
  rw [fE_o hl] at hg
  refine va_get (D := gD G) (ci := ci) (C := Cn) (T := T) (N := N) hx hb hts hC.2.1 hown hK hP o hg hC.1 k hk (hts _ hln) (fun _ z => z) (v := fval G (n, J, M) o k kd) ?_ hd (kk hc H locs A _ hW hS hL ⟨hv hrg hnc, hR1⟩)
  have := fobj_get (G := G) (h := (n, J, M)) (k := o) (fkin ci) 0 k kd hkd
  rw [Nat.zero_add] at this
  exact this
theorem fs_getf0 (C : fCx G md p l s m args meth c) {x o ci k : Nat} (hF : fFld md.1.cls x ci k 0) (hd : decode md.2.1 pc = .ok (.getfield x, 3)) (ho : o < n) (hl : flay o = some (.inl ci)) (kk : fGo G md p l e R s m args below meth c Q cu su (pc + 3) ls (fI (M o k) :: t) (n, J, M)) : fGo G md p l e R s m args below meth c Q cu su pc ls (fA o :: t) (n, J, M) := by
  refine fs_getfield C hF hd ho hl (fun hr _ => ?_) kk
  obtain ⟨_, _, _, -, -, -, hkd, -⟩ := hF
  exact ⟨_, rfl, (hr.1 o k).2 (by rw [fkd_o hl hkd]; decide)⟩
theorem fs_getf1 (C : fCx G md p l s m args meth c) {x o ci k : Nat} (hF : fFld md.1.cls x ci k 1) (hd : decode md.2.1 pc = .ok (.getfield x, 3)) (ho : o < n) (hl : flay o = some (.inl ci)) (kk : fGo G md p l e R s m args below meth c Q cu su (pc + 3) ls (fJ (M o k) :: t) (n, J, M)) : fGo G md p l e R s m args below meth c Q cu su pc ls (fA o :: t) (n, J, M) := by
  refine fs_getfield C hF hd ho hl (fun hr _ => ?_) kk
  obtain ⟨_, _, _, -, -, -, hkd, -⟩ := hF
  exact ⟨_, rfl, (hr.1 o k).1 (fkd_o hl hkd)⟩
theorem fs_getf2 (C : fCx G md p l s m args meth c) {x o ci k kd q : Nat} (hkd2 : 2 ≤ kd) (hF : fFld md.1.cls x ci k kd) (hd : decode md.2.1 pc = .ok (.getfield x, 3)) (ho : o < n) (hl : flay o = some (.inl ci)) (hq : J o k = q + 1) (hqn : q < 1000) (kk : fGo G md p l e R s m args below meth c Q cu su (pc + 3) ls (fA q :: t) (n, J, M)) : fGo G md p l e R s m args below meth c Q cu su pc ls (fA o :: t) (n, J, M) := by
  refine fs_getfield C hF hd ho hl (fun _ _ => ?_) kk
  have e1 : fval G (n, J, M) o k kd = .ref (gN G + q) := by
    rcases kd with _ | _ | kd
    · omega
    · omega
    · show (match J o k with
        | 0 => Value.null
        | q + 1 => Value.ref (gN G + q)) = _
      rw [hq]
  rw [e1]
  unfold fR
  simp [fAd, hqn]
theorem fs_put (C : fCx G md p l s m args meth c) {x o ci k kd : Nat} {v : fV} {J' : Nat → Nat → Nat} {M' : fM} (hF : fFld md.1.cls x ci k kd) (hfin : fFin ci k md.1) (hd : decode md.2.1 pc = .ok (.putfield x, 3)) (ho : o < n) (hl : flay o = some (.inl ci))
    (hv : ∀ (a : Value) (ty : FieldType), fRg G (n, J, M) → n ≤ fNC → fR G v a → fTyk kd ty → narrow ty a = a ∧ fits ty a = true ∧ a = fval G (n, J', M') o k kd ∧ fRg G (n, J', M'))
    (ho1 : ∀ i kd', i ≠ k → fval G (n, J', M') o i kd' = fval G (n, J, M) o i kd') (ho2 : ∀ j, j ≠ o → J' j = J j ∧ M' j = M j)
    (kk : fGo G md p l e R s m args below meth c Q cu su (pc + 3) ls t (n, J', M')) : fGo G md p l e R s m args below meth c Q cu su pc ls (v :: fA o :: t) (n, J, M) := by
  intro hc H locs A S hW hS hL hR
  obtain ⟨a, U, rfl, ha, hR1⟩ := fSR_c hR
  obtain ⟨b, U, rfl, hb1, hR2⟩ := fSR_c hR1
  obtain ⟨hx, hb, -, -, -, hown, hts, hK, -, -, hnm, -⟩ := id C
  obtain ⟨hP, hrg, hnc⟩ := id hW
  obtain rfl := fR_a hb1 (f_ne99 ho hnc)
  rw [fAd_lt ho hnc]
  obtain ⟨Cn, T, N, hC, hk, hln, hkd, ty, hty, htk⟩ := id hF
  obtain ⟨h1, h2, h3, h4⟩ := hv a ty hrg hnc ha htk
  have hg := fWs_get (G := G) (h := (n, J, M)) ho
  rw [fE_o hl] at hg
  obtain ⟨ty0, hty0⟩ := hC.2.2.2.1
  have hset : (fobj G (n, J, M) o 0 (fkin ci)).set k a = fobj G (n, J', M') o 0 (fkin ci) := fobj_set (fkin ci) 0 k kd a hkd (by rw [Nat.zero_add]; exact h3) (fun i kd' hi => ho1 i kd' (by omega))
  have hlen : k < (fobj G (n, J, M) o 0 (fkin ci)).length := by rw [fobj_len, hC.2.2.2.2]; exact hk
  have hws : (fWs G (n, J, M)).set o (gN G + o, .inr (ci, (fobj G (n, J, M) o 0 (fkin ci)).set k a)) = fWs G (n, J', M') := fWs_set ho rfl (by rw [fE_o hl, hset]) ho2
  cases hff : (T k).2.2.2 with
  | false =>
    refine va_put (D := gD G) (ci := ci) (C := Cn) (T := T) (N := N) hx hb hts hC.2.1 ty0 hty0 hC.2.2.1 hown hK hP (fWs_D G _) hS o hg hC.1 k hk (hts _ hln) (fun _ z => z) hff hty h1 h2 hlen hd (fun H1 locs1 hP1 _ hS1 => ?_)
    rw [hws] at hP1
    exact kk hc H1 locs1 A _ ⟨hP1, h4, hnc⟩ hS1 hL hR2
  | true =>
    refine va_putF (D := gD G) (ci := ci) (C := Cn) (T := T) (N := N) hx hb hts hC.2.1 ty0 hty0 hC.2.2.1 hown hK hP (fWs_D G _) hS o hg hC.1 k hk (hts _ hln) (fun _ z => z) hff (hnm.trans (hfin _ hC.1 hff).1) (hfin _ hC.1 hff).2 hty h1 h2 hlen hd (fun H1 locs1 hP1 _ hS1 => ?_)
    rw [hws] at hP1
    exact kk hc H1 locs1 A _ ⟨hP1, h4, hnc⟩ hS1 hL hR2
theorem fs_putf0 (C : fCx G md p l s m args meth c) {x o ci k : Nat} {z : Int} (hF : fFld md.1.cls x ci k 0) (hfin : fFin ci k md.1) (hd : decode md.2.1 pc = .ok (.putfield x, 3)) (ho : o < n) (hl : flay o = some (.inl ci)) (kk : fGo G md p l e R s m args below meth c Q cu su (pc + 3) ls t (n, J, fup M o k z)) : fGo G md p l e R s m args below meth c Q cu su pc ls (fI z :: fA o :: t) (n, J, M) := by
  obtain ⟨_, _, _, -, -, -, hkd, -⟩ := id hF
  have h99 : fkd o k = 0 := fkd_o hl hkd
  refine fs_put C hF hfin hd ho hl (fun a ty hr hn ha hty => ?_) (fun i kd' hi => ?_) (fun j hj => ⟨rfl, fup_k M k z hj⟩) kk
  · obtain ⟨i, rfl, rfl⟩ := fR_i ha
    cases hty
    refine ⟨rfl, rfl, ?_, fRg_up hr (by have : fNC = 156 := rfl; omega) (fun e => by rw [h99] at e; cases e) (fun _ => by rw [f_oi])⟩
    show _ = Value.int (Int32.ofInt (fup M o k i.toInt o k))
    rw [fup_s, f_oi]
  · unfold fval
    rw [show (n, J, fup M o k z).2.2 o i = M o i from fup_i M o z hi]
theorem fs_putf1 (C : fCx G md p l s m args meth c) {x o ci k : Nat} {z : Int} (hF : fFld md.1.cls x ci k 1) (hfin : fFin ci k md.1) (hd : decode md.2.1 pc = .ok (.putfield x, 3)) (ho : o < n) (hl : flay o = some (.inl ci)) (kk : fGo G md p l e R s m args below meth c Q cu su (pc + 3) ls t (n, J, fup M o k z)) : fGo G md p l e R s m args below meth c Q cu su pc ls (fJ z :: fA o :: t) (n, J, M) := by
  obtain ⟨_, _, _, -, -, -, hkd, -⟩ := id hF
  have h99 : fkd o k = 1 := fkd_o hl hkd
  refine fs_put C hF hfin hd ho hl (fun a ty hr hn ha hty => ?_) (fun i kd' hi => ?_) (fun j hj => ⟨rfl, fup_k M k z hj⟩) kk
  · obtain ⟨i, rfl, rfl⟩ := fR_j ha
    cases hty
    refine ⟨rfl, rfl, ?_, fRg_up hr (by have : fNC = 156 := rfl; omega) (fun _ => by rw [f_ol]) (fun e => absurd h99 e)⟩
    show _ = Value.long (Int64.ofInt (fup M o k i.toInt o k))
    rw [fup_s, f_ol]
  · unfold fval
    rw [show (n, J, fup M o k z).2.2 o i = M o i from fup_i M o z hi]
theorem fs_putf2 (C : fCx G md p l s m args meth c) {x o ci k kd q : Nat} (hkd2 : 2 ≤ kd) (hF : fFld md.1.cls x ci k kd) (hfin : fFin ci k md.1) (hd : decode md.2.1 pc = .ok (.putfield x, 3)) (ho : o < n) (hl : flay o = some (.inl ci)) (hq : q < n) (kk : fGo G md p l e R s m args below meth c Q cu su (pc + 3) ls t (n, fupN J o k (q + 1), M)) : fGo G md p l e R s m args below meth c Q cu su pc ls (fA q :: fA o :: t) (n, J, M) := by
  refine fs_put C hF hfin hd ho hl (fun a ty hr hn ha hty => ?_) (fun i kd' hi => ?_) (fun j hj => ⟨fupN_k J k (q + 1) hj, rfl⟩) kk
  · obtain rfl := fR_a ha (f_ne99 hq hn)
    rw [fAd_lt hq hn]
    have h3 : (∃ n, ty = .object n) ∨ ∃ t, ty = .array t := by
      rcases kd with _ | _ | kd
      · omega
      · omega
      · exact hty
    have e1 : Value.ref (gN G + q) = fval G (n, fupN J o k (q + 1), M) o k kd := by
      rcases kd with _ | _ | kd
      · omega
      · omega
      · show _ = (match fupN J o k (q + 1) o k with
          | 0 => Value.null
          | q + 1 => Value.ref (gN G + q))
        rw [fupN_s]
    have hr2 : fRg G (n, fupN J o k (q + 1), M) := ⟨hr.1, hr.2.1, by
      show fupN J o k (q + 1) 1000 0 = _
      rw [fupN_k J k (q + 1) (by have : fNC = 156 := rfl; omega)]
      exact hr.2.2⟩
    rcases h3 with ⟨nn, rfl⟩ | ⟨tt, rfl⟩
    · exact ⟨rfl, rfl, e1, hr2⟩
    · exact ⟨rfl, rfl, e1, hr2⟩
  · unfold fval
    rw [show (n, fupN J o k (q + 1), M).2.1 o i = J o i from fupN_i J o (q + 1) hi]
end FHP
