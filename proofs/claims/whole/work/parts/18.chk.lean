/-! ===== the tables are as the code and the Statement have them ===== -/
theorem fmj_0 {w : Cond} (i : Nat) (h : (k2_sels lw_privs)[i]? = some w) (hg : goodWord w = true) : w ∈ fTb := fTb_of (List.mem_append_left _ (List.mem_of_getElem? h)) hg
theorem fmj_1 {w : Cond} (i : Nat) (h : tables_1_1[i]? = some w) (hg : goodWord w = true) : w ∈ fTb := fTb_of (List.mem_append_right _ (show w ∈ tables_1 from List.mem_append_left _ (List.mem_of_getElem? h))) hg
theorem fmj_2 {w : Cond} (i : Nat) (h : tables_1_2[i]? = some w) (hg : goodWord w = true) : w ∈ fTb := fTb_of (List.mem_append_right _ (show w ∈ tables_1 from List.mem_append_right _ (List.mem_append_left _ (List.mem_of_getElem? h)))) hg
theorem fmj_3 {w : Cond} (i : Nat) (h : tables_1_3[i]? = some w) (hg : goodWord w = true) : w ∈ fTb := fTb_of (List.mem_append_right _ (show w ∈ tables_1 from List.mem_append_right _ (List.mem_append_right _ (List.mem_append_left _ (List.mem_of_getElem? h))))) hg
theorem fmj_4 {w : Cond} (i : Nat) (h : tables_1_4[i]? = some w) (hg : goodWord w = true) : w ∈ fTb := fTb_of (List.mem_append_right _ (show w ∈ tables_1 from List.mem_append_right _ (List.mem_append_right _ (List.mem_append_right _ (List.mem_append_left _ (List.mem_of_getElem? h)))))) hg
theorem fmj_5 {w : Cond} (i : Nat) (h : tables_1_5[i]? = some w) (hg : goodWord w = true) : w ∈ fTb := fTb_of (List.mem_append_right _ (show w ∈ tables_1 from List.mem_append_right _ (List.mem_append_right _ (List.mem_append_right _ (List.mem_append_right _ (List.mem_append_left _ (List.mem_of_getElem? h))))))) hg
theorem fmj_6 {w : Cond} (i : Nat) (h : tables_1_6[i]? = some w) (hg : goodWord w = true) : w ∈ fTb := fTb_of (List.mem_append_right _ (show w ∈ tables_1 from List.mem_append_right _ (List.mem_append_right _ (List.mem_append_right _ (List.mem_append_right _ (List.mem_append_right _ (List.mem_append_left _ (List.mem_of_getElem? h)))))))) hg
theorem fmj_7 {w : Cond} (i : Nat) (h : tables_1_7[i]? = some w) (hg : goodWord w = true) : w ∈ fTb := fTb_of (List.mem_append_right _ (show w ∈ tables_1 from List.mem_append_right _ (List.mem_append_right _ (List.mem_append_right _ (List.mem_append_right _ (List.mem_append_right _ (List.mem_append_right _ (List.mem_append_left _ (List.mem_of_getElem? h))))))))) hg
theorem fmj_8 {w : Cond} (i : Nat) (h : tables_1_8[i]? = some w) (hg : goodWord w = true) : w ∈ fTb := fTb_of (List.mem_append_right _ (show w ∈ tables_1 from List.mem_append_right _ (List.mem_append_right _ (List.mem_append_right _ (List.mem_append_right _ (List.mem_append_right _ (List.mem_append_right _ (List.mem_append_right _ (List.mem_append_left _ (List.mem_of_getElem? h)))))))))) hg
theorem fmj_9 {w : Cond} (i : Nat) (h : tables_1_9[i]? = some w) (hg : goodWord w = true) : w ∈ fTb := fTb_of (List.mem_append_right _ (show w ∈ tables_1 from List.mem_append_right _ (List.mem_append_right _ (List.mem_append_right _ (List.mem_append_right _ (List.mem_append_right _ (List.mem_append_right _ (List.mem_append_right _ (List.mem_append_right _ (List.mem_append_left _ (List.mem_of_getElem? h))))))))))) hg
theorem fmj_10 {w : Cond} (i : Nat) (h : tables_1_10[i]? = some w) (hg : goodWord w = true) : w ∈ fTb := fTb_of (List.mem_append_right _ (show w ∈ tables_1 from List.mem_append_right _ (List.mem_append_right _ (List.mem_append_right _ (List.mem_append_right _ (List.mem_append_right _ (List.mem_append_right _ (List.mem_append_right _ (List.mem_append_right _ (List.mem_append_right _ (List.mem_of_getElem? h))))))))))) hg
def fEokb (md : fD) (pc : Nat) (i : Instr) (np : Nat) (tg : List Nat) : Bool := match i with
  | .tableswitch df lo hi offs => decide (decode md.2.1 pc = .ok (i, np - pc)) && (match tg with
    | [] => false
    | dt :: ts => decide ((pc : Int) + df = (dt : Int)) && decide (offs.toList.map (fun o => (pc : Int) + o) = ts.map (fun x : Nat => (x : Int))) && decide (hi + 1 = lo + (ts.length : Int)))
  | .goto off => decide (decode md.2.1 pc = .ok (i, 3)) && (match tg with | [x] => decide ((pc : Int) + off = (x : Int)) | _ => false)
  | .ifCond _ off => decide (decode md.2.1 pc = .ok (i, 3)) && decide (np = pc + 3) && (match tg with | [x] => decide ((pc : Int) + off = (x : Int)) | _ => false)
  | .if_icmp _ off => decide (decode md.2.1 pc = .ok (i, 3)) && decide (np = pc + 3) && (match tg with | [x] => decide ((pc : Int) + off = (x : Int)) | _ => false)
  | .iinc _ n => decide (decode md.2.1 pc = .ok (i, 3)) && decide (np = pc + 3) && decide ((Int32.ofInt n).toInt = n)
  | .iconst n => decide (decode md.2.1 pc = .ok (i, 1)) && decide (np = pc + 1) && decide ((Int32.ofInt n).toInt = n)
  | .bipush n => decide (decode md.2.1 pc = .ok (i, 2)) && decide (np = pc + 2) && decide (((Int8.ofInt n).toInt32).toInt = n)
  | .sipush n => decide (decode md.2.1 pc = .ok (i, 3)) && decide (np = pc + 3) && decide (((Int16.ofInt n).toInt32).toInt = n)
  | .putfield x => decide (decode md.2.1 pc = .ok (i, 3)) && decide (np = pc + 3) && (match flk1 (fmK md) x with
    | some (0, ci, k, _, _) => (match vwCl[ci]? with | some q => !(q.2.1 k).2.2.2 || decide (md.1.name = "<init>" ∧ (q.2.1 k).1 = md.1.cls) | none => true)
    | _ => true)
  | .new x => decide (decode md.2.1 pc = .ok (i, 3)) && decide (np = pc + 3) && (match flk1 (fmK md) x with
    | some (6, _, ic, _, _) => decide (decode md.2.1 (pc + 3) = .ok (.dup, 1)) && decide (decode md.2.1 (pc + 4) = .ok (.invokespecial ic, 3)) && decide (decode md.2.1 (pc + 7) = .ok (.athrow, 1)) && (match fmH md with | [] => true | _ => false)
    | _ => true)
  | _ => decide (decode md.2.1 pc = .ok (i, filn i)) && decide (np = pc + filn i)
theorem fEokb_spec {md : fD} {pc : Nat} {i : Instr} {np : Nat} {tg : List Nat} (h : fEokb md pc i np tg = true) : fEok md pc i np tg := by
  cases i
  case tableswitch df lo hi offs =>
    simp only [fEokb, Bool.and_eq_true, decide_eq_true_eq] at h
    refine ⟨⟨_, h.1⟩, ?_⟩
    rcases tg with _ | ⟨dt, ts⟩
    · exact absurd (show false = true from h.2) (by decide)
    · have h2 := h.2
      simp only [Bool.and_eq_true, decide_eq_true_eq] at h2
      exact ⟨dt, ts, rfl, h2.1.1, h2.1.2, h2.2⟩
  case goto off =>
    simp only [fEokb, Bool.and_eq_true, decide_eq_true_eq] at h
    rcases tg with _ | ⟨x, _ | ⟨y, t⟩⟩
    · exact absurd (show false = true from h.2) (by decide)
    · exact ⟨h.1, x, rfl, of_decide_eq_true h.2⟩
    · exact absurd (show false = true from h.2) (by decide)
  case ifCond cd off =>
    simp only [fEokb, Bool.and_eq_true, decide_eq_true_eq] at h
    rcases tg with _ | ⟨x, _ | ⟨y, t⟩⟩
    · exact absurd (show false = true from h.2) (by decide)
    · exact ⟨h.1.1, h.1.2, x, rfl, of_decide_eq_true h.2⟩
    · exact absurd (show false = true from h.2) (by decide)
  case if_icmp cd off =>
    simp only [fEokb, Bool.and_eq_true, decide_eq_true_eq] at h
    rcases tg with _ | ⟨x, _ | ⟨y, t⟩⟩
    · exact absurd (show false = true from h.2) (by decide)
    · exact ⟨h.1.1, h.1.2, x, rfl, of_decide_eq_true h.2⟩
    · exact absurd (show false = true from h.2) (by decide)
  case putfield x =>
    simp only [fEokb, Bool.and_eq_true, decide_eq_true_eq] at h
    refine ⟨h.1.1, h.1.2, fun ci k kd z hk => ?_⟩
    have h2 := h.2
    rw [hk] at h2
    intro q hq hfin
    have h3 : (match vwCl[ci]? with | some q => !(q.2.1 k).2.2.2 || decide (md.1.name = "<init>" ∧ (q.2.1 k).1 = md.1.cls) | none => true) = true := h2
    rw [hq] at h3
    have h4 : (!(q.2.1 k).2.2.2 || decide (md.1.name = "<init>" ∧ (q.2.1 k).1 = md.1.cls)) = true := h3
    rw [hfin] at h4
    simpa using h4
  case new x =>
    simp only [fEokb, Bool.and_eq_true, decide_eq_true_eq] at h
    refine ⟨h.1.1, h.1.2, fun e9 ic a z hk => ?_⟩
    have h2 := h.2
    rw [hk] at h2
    have h3 : (decide (decode md.2.1 (pc + 3) = .ok (.dup, 1)) && decide (decode md.2.1 (pc + 4) = .ok (.invokespecial ic, 3)) && decide (decode md.2.1 (pc + 7) = .ok (.athrow, 1)) && (match fmH md with | [] => true | _ => false)) = true := h2
    simp only [Bool.and_eq_true, decide_eq_true_eq] at h3
    refine ⟨h3.1.1.1, h3.1.1.2, h3.1.2, ?_⟩
    have h4 := h3.2
    cases hh : fmH md with
    | nil => rfl
    | cons a t => rw [hh] at h4; exact absurd (show false = true from h4) (by decide)
  all_goals first
    | (simp only [fEokb, Bool.and_eq_true, decide_eq_true_eq] at h; exact ⟨h.1.1, h.1.2, h.2⟩)
    | (simp only [fEokb, Bool.and_eq_true, decide_eq_true_eq] at h; exact h)
def fchk (md : fD) : Bool := (fmT md).all fun ch => ch.2.all fun q => fEokb md q.1 q.2.1 q.2.2.1 q.2.2.2
theorem flk1_mem {α : Type} : ∀ (K : List (Nat × α)) (x : Nat) (q : α), flk1 K x = some q → (x, q) ∈ K
  | [], _, _, h => by simp [flk1] at h
  | p :: t, x, q, h => by
    unfold flk1 at h
    cases hb : Nat.beq p.1 x
    · rw [hb] at h
      exact List.mem_cons_of_mem _ (flk1_mem t x q h)
    · rw [hb] at h
      have e1 : p.2 = q := Option.some.inj h
      rw [← Nat.eq_of_beq_eq_true hb, ← e1]
      exact List.mem_cons_self
theorem fchk_spec {md : fD} (h : fchk md = true) : ∀ pc i np tg, flk2 (fmT md) pc = some (i, np, tg) → fEok md pc i np tg := by
  have key : ∀ (T : fT), (T.all fun ch => ch.2.all fun q => fEokb md q.1 q.2.1 q.2.2.1 q.2.2.2) = true → ∀ pc i np tg, flk2 T pc = some (i, np, tg) → fEok md pc i np tg := by
    intro T
    induction T with
    | nil => intro _ pc i np tg h; simp [flk2] at h
    | cons ch t ih =>
      intro hT pc i np tg h
      simp only [List.all_cons, Bool.and_eq_true] at hT
      unfold flk2 at h
      cases hb : Nat.ble pc ch.1
      · rw [hb] at h
        exact ih hT.2 pc i np tg h
      · rw [hb] at h
        have h1 := flk1_mem _ _ _ (show flk1 ch.2 pc = some (i, np, tg) from h)
        exact fEokb_spec (List.all_eq_true.mp hT.1 _ h1)
  exact key (fmT md) h
theorem fMg_of {md : fD} {own : String} {K : fK} (h : fchk md = true) (hK : fmK md = K) (ho : md.1.cls = own) (hl : ∀ q ∈ K, fLok own q.1 q.2) : fMg md := by
  subst hK; subst ho
  exact ⟨fchk_spec h, fun x q hx => hl _ (flk1_mem _ _ _ hx)⟩
theorem fHok_0 {md : fD} (h : fmH md = []) : fHok md := by
  refine ⟨fun pc x e9 hx => ?_, fun pc _ a b x ct e0 hm => ?_⟩
  · rw [h] at hx; cases hx
  · rw [h] at hm; cases hm
theorem fHok_1 {md : fD} {a b x ct e9 : Nat} (h : fmH md = [(a, b, x, ct, e9)]) (hct : ct ≠ 0) (hl : Cond.classLink md.1.cls ct (fXn e9) ∈ fTb) : fHok md := by
  refine ⟨fun pc x' e' hx => ?_, fun pc hx a' b' x' ct' e0 hm => ?_⟩
  · rw [h] at hx
    unfold fhan at hx
    cases hb : (Nat.ble a pc && Nat.blt pc b)
    · rw [hb] at hx; cases hx
    · rw [hb] at hx
      have e1 : (x, e9) = (x', e') := Option.some.inj hx
      cases e1
      obtain ⟨h1, h2⟩ := f_and hb
      exact ⟨a, b, ct, h, Nat.le_of_ble_eq_true h1, Nat.blt_eq.mp h2, hct, hl⟩
  · rw [h] at hm hx
    have e1 : (a', b', x', ct', e0) = (a, b, x, ct, e9) := by simpa using hm
    cases e1
    unfold fhan at hx
    cases hb : (Nat.ble a pc && Nat.blt pc b)
    · rintro ⟨h1, h2⟩
      rw [Nat.ble_eq_true_of_le h1, show Nat.blt pc b = true from Nat.ble_eq_true_of_le h2] at hb
      cases hb
    · rw [hb] at hx; cases hx
def fTykb (kd : Nat) (ty : FieldType) : Bool := match kd, ty with
  | 0, .int => true
  | 1, .long => true
  | _ + 2, .object _ => true
  | _ + 2, .array _ => true
  | _, _ => false
theorem fTykb_spec {kd : Nat} {ty : FieldType} (h : fTykb kd ty = true) : fTyk kd ty := by
  rcases kd with _ | _ | kd <;> cases ty <;> first | exact absurd (show false = true from h) (by decide) | rfl | exact Or.inl ⟨_, rfl⟩ | exact Or.inr ⟨_, rfl⟩
theorem fu_ws {C : String} {T : u_T} {N : Nat} (ps : List Nat) (h : ∀ k, k < N → tables_1[ps.getD k 0]? = some (u_lay C T k) ∧ goodWord (u_lay C T k) = true) : ∀ w ∈ u_ws C T N, w ∈ fTb := by
  intro w hw
  obtain ⟨k, hk, rfl⟩ := List.mem_map.mp hw
  obtain ⟨h1, h2⟩ := h k (List.mem_range.mp hk)
  exact fTb_of (List.mem_append_right _ (List.mem_of_getElem? h1)) h2
theorem fty_of {ci N : Nat} {T : u_T} {ty : Nat → FieldType} (hty : ∀ k, k < N → parseFieldDescriptor (T k).2.2.1 = some (ty k)) (h : ∀ k, k < N → (match (fkin ci)[k]? with | some kd => fTykb kd (ty k) | none => false) = true) : ∀ k, k < N → parseFieldDescriptor (T k).2.2.1 = some (ty k) ∧ ∃ kd, (fkin ci)[k]? = some kd ∧ fTyk kd (ty k) := by
  intro k hk
  refine ⟨hty k hk, ?_⟩
  have h1 := h k hk
  cases hf : (fkin ci)[k]? with
  | none => rw [hf] at h1; cases h1
  | some kd =>
    rw [hf] at h1
    exact ⟨kd, rfl, fTykb_spec h1⟩
theorem fcl_0 : fCl 0 RX0 TX0 3 := ⟨rfl, fu_ws [415, 417, 419] (by decide +kernel), nmX0, ⟨tyX0, tyX0_ok⟩, rfl⟩
theorem fty_0 : ∀ k, k < 3 → parseFieldDescriptor (TX0 k).2.2.1 = some (tyX0 k) ∧ ∃ kd, (fkin 0)[k]? = some kd ∧ fTyk kd (tyX0 k) := fty_of tyX0_ok (by decide +kernel)
theorem fcl_1 : fCl 1 RX1 TX1 11 := ⟨rfl, fu_ws [383, 385, 387, 389, 391, 393, 395, 397, 399, 401, 403] (by decide +kernel), nmX1, ⟨tyX1, tyX1_ok⟩, rfl⟩
theorem fty_1 : ∀ k, k < 11 → parseFieldDescriptor (TX1 k).2.2.1 = some (tyX1 k) ∧ ∃ kd, (fkin 1)[k]? = some kd ∧ fTyk kd (tyX1 k) := fty_of tyX1_ok (by decide +kernel)
theorem fcl_2 : fCl 2 RX2 TX2 18 := ⟨rfl, fu_ws [204, 206, 208, 210, 212, 214, 216, 218, 220, 222, 224, 226, 228, 230, 232, 234, 236, 238] (by decide +kernel), nmX2, ⟨tyX2, tyX2_ok⟩, rfl⟩
theorem fty_2 : ∀ k, k < 18 → parseFieldDescriptor (TX2 k).2.2.1 = some (tyX2 k) ∧ ∃ kd, (fkin 2)[k]? = some kd ∧ fTyk kd (tyX2 k) := fty_of tyX2_ok (by decide +kernel)
theorem fcl_3 : fCl 3 RX3 TX3 3 := ⟨rfl, fu_ws [311, 313, 315] (by decide +kernel), nmX3, ⟨tyX3, tyX3_ok⟩, rfl⟩
theorem fty_3 : ∀ k, k < 3 → parseFieldDescriptor (TX3 k).2.2.1 = some (tyX3 k) ∧ ∃ kd, (fkin 3)[k]? = some kd ∧ fTyk kd (tyX3 k) := fty_of tyX3_ok (by decide +kernel)
theorem fcl_4 : fCl 4 RX4 TX4 4 := ⟨rfl, fu_ws [529, 531, 533, 535] (by decide +kernel), nmX4, ⟨tyX4, tyX4_ok⟩, rfl⟩
theorem fty_4 : ∀ k, k < 4 → parseFieldDescriptor (TX4 k).2.2.1 = some (tyX4 k) ∧ ∃ kd, (fkin 4)[k]? = some kd ∧ fTyk kd (tyX4 k) := fty_of tyX4_ok (by decide +kernel)
theorem fcl_5 : fCl 5 RX5 TX5 3 := ⟨rfl, fu_ws [327, 329, 331] (by decide +kernel), nmX5, ⟨tyX5, tyX5_ok⟩, rfl⟩
theorem fty_5 : ∀ k, k < 3 → parseFieldDescriptor (TX5 k).2.2.1 = some (tyX5 k) ∧ ∃ kd, (fkin 5)[k]? = some kd ∧ fTyk kd (tyX5 k) := fty_of tyX5_ok (by decide +kernel)
theorem fcl_6 : fCl 6 RX6 TX6 9 := ⟨rfl, fu_ws [280, 282, 284, 286, 288, 290, 292, 294, 296] (by decide +kernel), nmX6, ⟨tyX6, tyX6_ok⟩, rfl⟩
theorem fty_6 : ∀ k, k < 9 → parseFieldDescriptor (TX6 k).2.2.1 = some (tyX6 k) ∧ ∃ kd, (fkin 6)[k]? = some kd ∧ fTyk kd (tyX6 k) := fty_of tyX6_ok (by decide +kernel)
theorem fcl_7 : fCl 7 RX7 TX7 19 := ⟨rfl, fu_ws [451, 453, 455, 457, 459, 461, 463, 465, 467, 469, 471, 473, 475, 477, 479, 481, 483, 485, 487] (by decide +kernel), nmX7, ⟨tyX7, tyX7_ok⟩, rfl⟩
theorem fty_7 : ∀ k, k < 19 → parseFieldDescriptor (TX7 k).2.2.1 = some (tyX7 k) ∧ ∃ kd, (fkin 7)[k]? = some kd ∧ fTyk kd (tyX7 k) := fty_of tyX7_ok (by decide +kernel)
theorem fcl_8 : fCl 8 RX8 TX8 7 := ⟨rfl, fu_ws [347, 349, 351, 353, 355, 357, 359] (by decide +kernel), nmX8, ⟨tyX8, tyX8_ok⟩, rfl⟩
theorem fty_8 : ∀ k, k < 7 → parseFieldDescriptor (TX8 k).2.2.1 = some (tyX8 k) ∧ ∃ kd, (fkin 8)[k]? = some kd ∧ fTyk kd (tyX8 k) := fty_of tyX8_ok (by decide +kernel)
theorem fcl_9 : fCl 9 RX9 TX9 6 := ⟨rfl, fu_ws [504, 506, 508, 510, 512, 514] (by decide +kernel), nmX9, ⟨tyX9, tyX9_ok⟩, rfl⟩
theorem fty_9 : ∀ k, k < 6 → parseFieldDescriptor (TX9 k).2.2.1 = some (tyX9 k) ∧ ∃ kd, (fkin 9)[k]? = some kd ∧ fTyk kd (tyX9 k) := fty_of tyX9_ok (by decide +kernel)
theorem fcl_10 : fCl 10 RX10 TX10 11 := ⟨rfl, fu_ws [110, 112, 114, 116, 118, 120, 122, 124, 126, 128, 130] (by decide +kernel), nmX10, ⟨tyX10, tyX10_ok⟩, rfl⟩
theorem fty_10 : ∀ k, k < 11 → parseFieldDescriptor (TX10 k).2.2.1 = some (tyX10 k) ∧ ∃ kd, (fkin 10)[k]? = some kd ∧ fTyk kd (tyX10 k) := fty_of tyX10_ok (by decide +kernel)
theorem fcl_11 : fCl 11 RX11 TX11 15 := ⟨rfl, fu_ws [555, 557, 559, 561, 563, 565, 567, 569, 571, 573, 575, 577, 579, 581, 583] (by decide +kernel), nmX11, ⟨tyX11, tyX11_ok⟩, rfl⟩
theorem fty_11 : ∀ k, k < 15 → parseFieldDescriptor (TX11 k).2.2.1 = some (tyX11 k) ∧ ∃ kd, (fkin 11)[k]? = some kd ∧ fTyk kd (tyX11 k) := fty_of tyX11_ok (by decide +kernel)
theorem fcl_12 : fCl 12 RX12 TX12 66 := ⟨rfl, fu_ws [1603, 1605, 1607, 1609, 1611, 1613, 1615, 1617, 1619, 1621, 1623, 1625, 1627, 1629, 1631, 1633, 1635, 1637, 1639, 1641, 1643, 1645, 1647, 1649, 1651, 1653, 1655, 1657, 1659, 1661, 1663, 1665, 1667, 1669, 1671, 1673, 1675, 1677, 1679, 1681, 1683, 1685, 1687, 1689, 1691, 1693, 1695, 1697, 1699, 1701, 1703, 1705, 1707, 1709, 1711, 1713, 1715, 1717, 1719, 1721, 1723, 1725, 1727, 1729, 1731, 1733] (by decide +kernel), nmX12, ⟨tyX12, tyX12_ok⟩, rfl⟩
theorem fty_12 : ∀ k, k < 66 → parseFieldDescriptor (TX12 k).2.2.1 = some (tyX12 k) ∧ ∃ kd, (fkin 12)[k]? = some kd ∧ fTyk kd (tyX12 k) := fty_of tyX12_ok (by decide +kernel)
