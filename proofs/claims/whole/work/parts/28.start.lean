def R_law : String := "TunerRoundsLaw"
def lw_P (b : Addr) (xs : List Int32) (args : Array Value) (s : State) : Prop := args = #[.ref b] ∧ s.IntsAt b xs ∧ xs.length ≤ 3072 ∧ (Jvm.Cond.and given_1 narrow_1).before args s = true ∧ heapFits s = true
def lw_Q (_ : Array Value) (s : State) (o : Outcome) (t : State) : Prop := o = .returned (some (.int 1)) ∧ Framed s o t [] 601024 7293034
def lw_Z (below : List Frame) (a : Array Value) (s : State) : State → Prop := fun t => ∃ o, t.status = .running ∧ Ended t below o ∧ lw_Q a s o t
def lw_At (p : Program) (s : State) (m : MethodId) (meth : Method) (c : Code) (b L : Nat) (xs : Nat → Int32) : Prop :=
  p.tables.exec = Jvm.exec ∧ c.code = code ∧ meth.sig.returnType = ret ∧ c.maxLocals = 8 ∧ s.vm.findClass R_law = some m.cls ∧ (∀ w ∈ lw_tbl, w.before #[Value.ref b] s = true) ∧ va_X b L xs s s.heap ∧ b < s.heap.size ∧ meth.locks = false ∧ (Jvm.Cond.and given_1 narrow_1).before #[Value.ref b] s = true
theorem lmj_1 {w : Cond} (i : Nat) (h : tables_1_1[i]? = some w) : w ∈ lw_tbl := List.mem_append_right _ (show w ∈ tables_1 from (List.mem_append_left _ (List.mem_of_getElem? h)))
theorem lmj_2 {w : Cond} (i : Nat) (h : tables_1_2[i]? = some w) : w ∈ lw_tbl := List.mem_append_right _ (show w ∈ tables_1 from (List.mem_append_right _ (List.mem_append_left _ (List.mem_of_getElem? h))))
theorem lmj_3 {w : Cond} (i : Nat) (h : tables_1_3[i]? = some w) : w ∈ lw_tbl := List.mem_append_right _ (show w ∈ tables_1 from (List.mem_append_right _ (List.mem_append_right _ (List.mem_append_left _ (List.mem_of_getElem? h)))))
theorem lmj_4 {w : Cond} (i : Nat) (h : tables_1_4[i]? = some w) : w ∈ lw_tbl := List.mem_append_right _ (show w ∈ tables_1 from (List.mem_append_right _ (List.mem_append_right _ (List.mem_append_right _ (List.mem_append_left _ (List.mem_of_getElem? h))))))
theorem lmj_5 {w : Cond} (i : Nat) (h : tables_1_5[i]? = some w) : w ∈ lw_tbl := List.mem_append_right _ (show w ∈ tables_1 from (List.mem_append_right _ (List.mem_append_right _ (List.mem_append_right _ (List.mem_append_right _ (List.mem_append_left _ (List.mem_of_getElem? h)))))))
theorem lmj_6 {w : Cond} (i : Nat) (h : tables_1_6[i]? = some w) : w ∈ lw_tbl := List.mem_append_right _ (show w ∈ tables_1 from (List.mem_append_right _ (List.mem_append_right _ (List.mem_append_right _ (List.mem_append_right _ (List.mem_append_right _ (List.mem_append_left _ (List.mem_of_getElem? h))))))))
set_option maxRecDepth 100000 in
theorem st_c {args : Array Value} {s : State} (h : (Jvm.Cond.and given_1 narrow_1).before args s = true) {w : Cond} (i : Nat) (hi : (flatC (Jvm.Cond.and given_1 narrow_1))[i]? = some w) : w.before args s = true := flat_of_before _ h _ (List.mem_of_getElem? hi)
theorem st_arr {args : Array Value} {s : State} {ty : FieldType} (h : (Cond.arrayClass ty).before args s = true) (hp : ∀ C, ty ≠ .object C) : ∃ cA : ClassId, ArrOfT s cA ty ∧ va_RA s cA ty := by
  obtain ⟨c, k, comp, h1, h2, h3⟩ := Cond.arrayClass_spec (args := args) (first := s) (o := none) (s := s) (idx := []) h
  refine ⟨c, fun n z => ⟨fun k h => (by cases h), k, h2, comp, h3⟩, ?_⟩
  cases ty <;> first | exact h1 | exact absurd rfl (hp _)
theorem st_obj {args : Array Value} {s : State} {C : String} (h : (Cond.arrayOver (.object C)).before args s = true) : ∃ cA : ClassId, ArrOfT s cA (.object C) ∧ va_RA s cA (.object C) := by
  obtain ⟨comp, c, k, h1, h2, h3, h4, h5⟩ := Cond.arrayOver_spec (args := args) (first := s) (o := none) (s := s) (idx := []) h
  exact ⟨c, fun n z => ⟨fun k h => (by cases h), k, h3, comp, h4⟩, k, comp, h3, h4, h1, h5⟩
theorem st_X {args : Array Value} {s : State} {tm : Term} {N : Nat} {f : Nat → Int32} (hfit : heapFits s = true) (hN : N < 2 ^ 31) (harr : (Cond.arrayOf tm .int).before args s = true) (hlen : (Cond.eq (.length tm) (.int (Int32.ofNat N))).before args s = true) (hel : ∀ j : Nat, j < N → (Cond.eq (.elem tm (.int (Int32.ofNat j))) (.int (f j))).before args s = true) : ∃ (t n : Nat) (xs : Nat → Int32), tm.eval args s none [] s = some (.ref t) ∧ t < s.heap.size ∧ N ≤ n ∧ Int32.ofNat n = Int32.ofNat N ∧ va_X t n xs s s.heap ∧ ∀ j, j < N → xs j = f j := by
  obtain ⟨t, ht, cell, h1, h2, h3, h4, h5, h6, -⟩ := va_Tof (f := fun j => .int (f j)) (A := fun _ => False) hN harr (va_eqt hlen) (fun j hj => va_eqt (hel j hj)) (fun _ _ h => h)
  have hlt := (Array.getElem?_eq_some_iff.mp h1).1
  have hcell : s.heap[t] = cell := (Array.getElem?_eq_some_iff.mp h1).2
  have key : ∀ j, j < cell.slots.size → ∃ x : Int32, cell.slots[j]? = some (.int x) := by
    intro j hj
    have hf : cellFits s cell = true := by
      rw [← hcell]
      exact (Array.all_eq_true.mp hfit) t hlt
    have hv := List.all_eq_true.mp hf j (List.mem_range.mpr hj)
    have e : cell.slots[j]? = some cell.slots[j] := Array.getElem?_eq_getElem hj
    rw [e] at hv
    obtain ⟨hst, k, hk, comp, hkind⟩ := h2
    have htype : s.slotType? cell.cls cell.vm j = some .int := by
      cases hvm : cell.vm <;> first | exact absurd hvm (hst _) | simp [State.slotType?, hk, hkind]
    simp only [State.fitsSlot, htype] at hv
    cases hx : cell.slots[j] <;> rw [hx] at hv <;> first | exact ⟨_, by rw [e, hx]⟩ | simp [fits] at hv
  refine ⟨t, cell.slots.size, fun j => (match cell.slots[j]? with | some (.int x) => x | _ => 0), ht, hlt, h4, h5, ⟨cell, h1, h2, h3, rfl, fun j hj => ?_⟩, fun j hj => ?_⟩
  · obtain ⟨x, hx⟩ := key j hj
    simp [hx]
  · simp [h6 j hj]
def fR1 : List Int32 := [0, 0, 5, 60, 480, 1080]
def fR2 : List Int32 := [7, 4, 3, 5]
def fR3 : List Int32 := [3, 5, 6, 4]
theorem st_cl {args : Array Value} {s : State} (hts : ∀ w ∈ fTb, w.before args s = true) : ∀ k : Nat, ∃ q : ClassId × (Nat → Nat), ∀ r, vwCl[k]? = some r → u_Kn s r.1 r.2.1 r.2.2 q.1 q.2
  | 0 => by
    obtain ⟨c, i, h⟩ := u_known (C := RX0) (T := TX0) (N := 3) (n := 3) hts fcl_0.2.1 (hts _ (fmj_2 167 rfl rfl))
    exact ⟨(c, i), fun r hr => by cases hr; exact h⟩
  | 1 => by
    obtain ⟨c, i, h⟩ := u_known (C := RX1) (T := TX1) (N := 11) (n := 11) hts fcl_1.2.1 (hts _ (fmj_2 123 rfl rfl))
    exact ⟨(c, i), fun r hr => by cases hr; exact h⟩
  | 2 => by
    obtain ⟨c, i, h⟩ := u_known (C := RX2) (T := TX2) (N := 18) (n := 18) hts fcl_2.2.1 (hts _ (fmj_1 136 rfl rfl))
    exact ⟨(c, i), fun r hr => by cases hr; exact h⟩
  | 3 => by
    obtain ⟨c, i, h⟩ := u_known (C := RX3) (T := TX3) (N := 3) (n := 3) hts fcl_3.2.1 (hts _ (fmj_2 60 rfl rfl))
    exact ⟨(c, i), fun r hr => by cases hr; exact h⟩
  | 4 => by
    obtain ⟨c, i, h⟩ := u_known (C := RX4) (T := TX4) (N := 4) (n := 4) hts fcl_4.2.1 (hts _ (fmj_3 38 rfl rfl))
    exact ⟨(c, i), fun r hr => by cases hr; exact h⟩
  | 5 => by
    obtain ⟨c, i, h⟩ := u_known (C := RX5) (T := TX5) (N := 3) (n := 3) hts fcl_5.2.1 (hts _ (fmj_2 79 rfl rfl))
    exact ⟨(c, i), fun r hr => by cases hr; exact h⟩
  | 6 => by
    obtain ⟨c, i, h⟩ := u_known (C := RX6) (T := TX6) (N := 9) (n := 9) hts fcl_6.2.1 (hts _ (fmj_2 3 rfl rfl))
    exact ⟨(c, i), fun r hr => by cases hr; exact h⟩
  | 7 => by
    obtain ⟨c, i, h⟩ := u_known (C := RX7) (T := TX7) (N := 19) (n := 19) hts fcl_7.2.1 (hts _ (fmj_2 183 rfl rfl))
    exact ⟨(c, i), fun r hr => by cases hr; exact h⟩
  | 8 => by
    obtain ⟨c, i, h⟩ := u_known (C := RX8) (T := TX8) (N := 7) (n := 7) hts fcl_8.2.1 (hts _ (fmj_2 95 rfl rfl))
    exact ⟨(c, i), fun r hr => by cases hr; exact h⟩
  | 9 => by
    obtain ⟨c, i, h⟩ := u_known (C := RX9) (T := TX9) (N := 6) (n := 6) hts fcl_9.2.1 (hts _ (fmj_3 11 rfl rfl))
    exact ⟨(c, i), fun r hr => by cases hr; exact h⟩
  | 10 => by
    obtain ⟨c, i, h⟩ := u_known (C := RX10) (T := TX10) (N := 11) (n := 11) hts fcl_10.2.1 (hts _ (fmj_1 36 rfl rfl))
    exact ⟨(c, i), fun r hr => by cases hr; exact h⟩
  | 11 => by
    obtain ⟨c, i, h⟩ := u_known (C := RX11) (T := TX11) (N := 15) (n := 15) hts fcl_11.2.1 (hts _ (fmj_1 28 rfl rfl))
    exact ⟨(c, i), fun r hr => by cases hr; exact h⟩
  | 12 => by
    obtain ⟨c, i, h⟩ := u_known (C := RX12) (T := TX12) (N := 66) (n := 66) hts fcl_12.2.1 (hts _ (fmj_7 51 rfl rfl))
    exact ⟨(c, i), fun r hr => by cases hr; exact h⟩
  | k + 13 => by
    obtain ⟨c, i, h⟩ := u_known (C := RX0) (T := TX0) (N := 3) (n := 3) hts fcl_0.2.1 (hts _ (fmj_2 167 rfl rfl))
    exact ⟨(c, i), fun r hr => by simp [vwCl] at hr⟩
set_option maxRecDepth 100000 in
theorem st_tx : ∀ j : Nat, j < 162 → (flatC (Jvm.Cond.and given_1 narrow_1))[98 + j]? = some (Cond.eq (.elem (Term.field (.string "TunerRounds$Tape" 19) "java/lang/String" "value" "[B") (.int (Int32.ofNat j))) (.int (ftextB.getD j 0))) := by decide +kernel
set_option maxRecDepth 100000 in
set_option maxHeartbeats 4000000 in
theorem f_begin {p : Program} {s : State} {m : MethodId} {meth : Method} {c : Code} (l : Launch) {b L : Nat} {xs : Nat → Int32} (hst : l.stackTraces = false) (hfit : heapFits s = true) (C0 : lw_At p s m meth c b L xs) (hname : meth.name = "law") (hex : c.exceptionTable.toList = tableOf []) :
    ∃ G : fG, gN G = s.heap.size ∧ gL G = L ∧ gO G 1000 = b ∧ (∀ j, gX G 1000 j = xs j) ∧ (∀ j, j < 6 → gX G 1001 j = fR1.getD j 0) ∧ (∀ j, j < 4 → gX G 1002 j = fR2.getD j 0) ∧ (∀ j, j < 4 → gX G 1003 j = fR3.getD j 0) ∧ (∀ j, j < 162 → gX G 1004 j = ftextB.getD j 0) ∧ fCx G fd_L_law p l s m #[Value.ref b] meth c := by
  obtain ⟨hx, hb, hr, hml, hown, hts0, hX, hbl, hlocks, hgv⟩ := id C0
  have hts : ∀ w ∈ fTb, w.before #[Value.ref b] s = true := fun w hw => hts0 w (List.mem_filter.mp hw).1
  have hA : ∀ a : Nat, a < s.heap.size → ¬ (fun q : Nat => s.heap.size ≤ q) a := fun a h => Nat.not_le.mpr h
  obtain ⟨t1, n1, x1, e1, b1, l1, i1, X1, v1⟩ := st_X (tm := .static "TunerRounds$House" "RULES_UNTOLD" "[I") (N := 6) (f := fun j => fR1.getD j 0) hfit (by decide) (st_c hgv 10 rfl) (st_c hgv 11 rfl) (fun j hj => by
    match j, hj with
    | 0, _ => exact st_c hgv 12 rfl
    | 1, _ => exact st_c hgv 13 rfl
    | 2, _ => exact st_c hgv 14 rfl
    | 3, _ => exact st_c hgv 15 rfl
    | 4, _ => exact st_c hgv 16 rfl
    | 5, _ => exact st_c hgv 17 rfl)
  obtain ⟨t2, n2, x2, e2, b2, l2, i2, X2, v2⟩ := st_X (tm := .static "TunerRounds$House" "CHORD_STEPS" "[I") (N := 4) (f := fun j => fR2.getD j 0) hfit (by decide) (st_c hgv 21 rfl) (st_c hgv 22 rfl) (fun j hj => by
    match j, hj with
    | 0, _ => exact st_c hgv 23 rfl
    | 1, _ => exact st_c hgv 24 rfl
    | 2, _ => exact st_c hgv 25 rfl
    | 3, _ => exact st_c hgv 26 rfl)
  obtain ⟨t3, n3, x3, e3, b3, l3, i3, X3, v3⟩ := st_X (tm := .static "TunerRounds$House" "CHORD_TIMES" "[I") (N := 4) (f := fun j => fR3.getD j 0) hfit (by decide) (st_c hgv 28 rfl) (st_c hgv 29 rfl) (fun j hj => by
    match j, hj with
    | 0, _ => exact st_c hgv 30 rfl
    | 1, _ => exact st_c hgv 31 rfl
    | 2, _ => exact st_c hgv 32 rfl
    | 3, _ => exact st_c hgv 33 rfl)
  have o1 : ∀ i : Nat, i < 1 → i = 0 := fun i h => by omega
  obtain ⟨adK, adV, hSt, hStE⟩ := vk_Sof (args := #[Value.ref b]) (s := s) (N := 1) (tm := fun _ => .string "TunerRounds$Tape" 19) (len := [162]) (byt := [ftextB]) (A := fun q : Nat => s.heap.size ≤ q) (fun i hi => by rw [o1 i hi]; decide) (fun _ _ => (st_c hgv 94 rfl)) (fun _ _ => (st_c hgv 95 rfl)) (fun _ _ => (st_c hgv 96 rfl)) (fun i hi => by rw [o1 i hi]; exact (st_c hgv 97 rfl)) (fun i hi => by rw [o1 i hi]; exact fun j hj => st_c hgv (98 + j) (st_tx j hj)) (fun i j hi hj hne => absurd ((o1 i hi).trans (o1 j hj).symm) hne) hA
  obtain ⟨ch, hch⟩ := Classical.axiomOfChoice (st_cl hts)
  obtain ⟨a0, A0⟩ := st_arr (hts _ fwA0) (fun C h => by cases h)
  obtain ⟨a1, A1⟩ := st_arr (hts _ fwA1) (fun C h => by cases h)
  obtain ⟨a2, A2⟩ := st_arr (hts _ fwA2) (fun C h => by cases h)
  obtain ⟨a3, A3⟩ := st_arr (hts _ fwA3) (fun C h => by cases h)
  obtain ⟨a4, A4⟩ := st_obj (hts0 _ (lmj_3 58 rfl))
  obtain ⟨a5, A5⟩ := st_obj (hts0 _ (lmj_3 59 rfl))
  obtain ⟨G, hG⟩ : ∃ G : fG, G = (s.heap.size, fun k => (match k with | 1000 => b | 1001 => t1 | 1002 => t2 | 1003 => t3 | _ => adK 0), fun k => (match k with | 0 => a0 | 1 => a1 | 2 => a2 | 3 => a3 | 4 => a4 | _ => a5), (fun k => (ch k).1, fun k => (ch k).2), fun k j => (match k with | 1000 => xs j | 1001 => x1 j | 1002 => x2 j | 1003 => x3 j | _ => ftextB.getD j 0), L) := ⟨_, rfl⟩
  have gI : fIn G = fun q : Nat => s.heap.size ≤ q := by rw [hG]
  have hOld : fOld G s s.heap := by
    refine ⟨fun k h1 h2 => ?_, ⟨?_, ?_, ?_⟩, ⟨?_, ?_⟩, ⟨va_Nw.of rfl (hts0 _ (lmj_2 4 rfl)), va_Nw.of rfl (hts0 _ (lmj_5 13 rfl)), va_Nw.of rfl (hts0 _ (lmj_5 163 rfl))⟩, ⟨va_Nw.of rfl (hts0 _ (lmj_6 203 rfl)), va_Nw.of rfl (hts0 _ (lmj_3 179 rfl))⟩, ⟨va_AO.of (hts0 _ (lmj_3 58 rfl)), va_AO.of (hts0 _ (lmj_3 59 rfl)), va_Nw.of rfl (hts0 _ (lmj_3 180 rfl)), va_Nw.of rfl (hts0 _ (lmj_3 182 rfl)), va_Nw.of rfl (hts0 _ (lmj_3 184 rfl))⟩, ?_, ⟨?_, ?_⟩, adV, ?_⟩
    · rcases (show k = 1000 ∨ k = 1001 ∨ k = 1002 ∨ k = 1003 by omega) with rfl | rfl | rfl | rfl
      · rw [hG]; exact ⟨⟨L, Nat.le_refl _, rfl, hX⟩, hbl⟩
      · rw [hG]; exact ⟨⟨n1, l1, i1, X1⟩, b1⟩
      · rw [hG]; exact ⟨⟨n2, l2, i2, X2⟩, b2⟩
      · rw [hG]; exact ⟨⟨n3, l3, i3, X3⟩, b3⟩
    · rw [gI, hG]; exact va_Zof (hts0 _ (lmj_1 149 rfl)) (hts _ (fmj_1 7 rfl rfl)) e1 hA
    · rw [gI, hG]; exact va_Zof (hts0 _ (lmj_4 194 rfl)) (hts _ (fmj_1 7 rfl rfl)) e2 hA
    · rw [gI, hG]; exact va_Zof (hts0 _ (lmj_4 196 rfl)) (hts _ (fmj_1 7 rfl rfl)) e3 hA
    · rw [gI]; exact vx_Zqof (hts0 _ (lmj_3 204 rfl)) (hts _ (fmj_1 20 rfl rfl)) (st_c hgv 18 rfl) hA
    · rw [gI]; exact vx_Zqof (hts0 _ (lmj_3 206 rfl)) (hts _ (fmj_1 20 rfl rfl)) (st_c hgv 19 rfl) hA
    · rw [hG]; exact vk_R.of (hts0 _ (lmj_1 41 rfl)) (hStE 0 (by decide))
    · rw [gI]; exact va_Zof (hts0 _ (lmj_1 51 rfl)) (hts _ (fmj_1 3 rfl rfl)) (va_eqt (st_c hgv 4 rfl)) hA
    · rw [gI]; exact va_Zqof (hts0 _ (lmj_1 67 rfl)) (hts _ (fmj_1 5 rfl rfl)) (st_c hgv 5 rfl) hA
    · rw [gI, hG]
      exact ⟨fun i hi => by obtain rfl : i = 0 := by omega
                            exact hSt.1 0 (by decide), fun i j hi hj _ => by omega⟩
  have hK : va_K (gD G) vwCl (fTys G) s := by
    rw [hG]
    refine ⟨fun k q h => hch k q h, fun k q h => ?_⟩
    match k, h with
    | 0, h => cases h; exact A0
    | 1, h => cases h; exact A1
    | 2, h => cases h; exact A2
    | 3, h => cases h; exact A3
    | 4, h => cases h; exact A4
    | 5, h => cases h; exact A5
    | k + 6, h => simp [fTys] at h
  refine ⟨G, by rw [hG] <;> rfl, by rw [hG] <;> rfl, by rw [hG] <;> rfl, fun j => by rw [hG] <;> rfl, fun j hj => ?_, fun j hj => ?_, fun j hj => ?_, fun j hj => by rw [hG] <;> rfl, hx, hb, hml, hr, hlocks, hown, hts, hK, hOld, ?_, hname, hex, hst⟩
  · rw [hG]; exact v1 j hj
  · rw [hG]; exact v2 j hj
  · rw [hG]; exact v3 j hj
  · rw [hG]; exact Nat.le_refl _
