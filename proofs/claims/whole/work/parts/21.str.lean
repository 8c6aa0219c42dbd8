/-! ===== String's two methods at the one text ===== -/
def sMt (G : fG) (l : Launch) (y : MethodName) (bytes : ByteArray) (maxL : Nat) (ret : Option FieldType) (fr : Nat) (av : List Value) (v : Option Value) : Prop :=
  Met l y (Cond.code y bytes maxL ret :: fTb) { frames := fr, cells := 0, slots := 0, locals := 40 * fr } (fun a U => a = av.toArray ∧ fOld G U U.heap ∧ gN G ≤ U.heap.size) (fun _ st o t => o = .returned v ∧ t.heap = st.heap) 0 0 (fun _ => False)
theorem s_blind {G : fG} {av : List Value} : FrameBlind (fun a U => a = av.toArray ∧ fOld G U U.heap ∧ gN G ≤ U.heap.size) := fun a U g mk h => ⟨h.1, fOld.at (s := U) (U := U.calling g mk a) (State.WarmedH.refl U) h.2.1 h.2.2 (fun _ _ _ => rfl), h.2.2⟩
theorem s_ofW {l : Launch} {y : MethodName} {ws ws' : List Cond} {rm : Room} {Pc : Array Value → State → Prop} {Qc : Array Value → State → Outcome → State → Prop} {mc ms : Nat} {free : Addr → Prop} {cc : ByteArray} {maxL : Nat} {ret : Option FieldType}
    (hy : plainFor y = true) (hw : ws = Cond.code y cc maxL ret :: ws')
    (body : ∀ p e s m args below meth c s₁, BodyLoose p l y (headSpec ws rm) cc maxL ret e s m args below meth c s₁ → c.maxLocals = maxL → Pc args s →
      W p l e (headSpec ws rm).room s m args below meth c s.heap [] 0 0 (MQ below Qc args s mc ms free) (entryFrame m args maxL)) : Met l y ws rm Pc Qc mc ms free := by
  refine MetFree.of_bodySF (code := cc) (maxLocals := maxL) (ret := ret) hy ?_ ?_
  · intro args s m h hn
    obtain ⟨meth, c, h1, h2, h3, h4, h5, h6, -, -⟩ := Cond.code_spec hn (atoms_spec (ws := ws) h _ (by rw [hw]; exact List.mem_cons_self))
    exact ⟨meth, c, h1, h2, h3, h4, h5, h6⟩
  · intro p e s m args below meth c s₁ B hml hP _
    have hh0 : s₁.heap = s.heap := by rw [B.state]; rfl
    obtain ⟨t, a1, o, b1, b2, b3⟩ := body p e s m args below meth c s₁ B hml hP s₁ hh0 (Stand.of_body B)
    exact ⟨t, o, a1, b1, b2, ⟨b3.1, b3.2⟩⟩
section SST
variable {p : Program} {l : Launch} {e : Env} {R : Room} {s : State} {m : MethodId} {args : Array Value} {below : List Frame} {meth : Method} {c : Code} {H : Heap} {locs : List Loc} {cells slots : Nat} {Q : State → Prop} {pc : Nat} {ls : Array Slot} {rest st0 : List Value}
theorem s_cb {own : String} {index fr n : Nat} {y : MethodName} {bytes : ByteArray} {maxL : Nat} {ret : Option FieldType} (hts : ∀ w ∈ fTb, w.before args s = true) (hc : Cond.code y bytes maxL ret ∈ fTb) (hini : Cond.initialized y.cls ∈ fTb) (hl : Cond.methodLink own index y ∈ fTb) (hy : y.cls ≠ "java/lang/invoke/MethodHandle" ∧ y.cls ≠ "java/lang/invoke/VarHandle") (hn : (parseMethodDescriptor y.desc).map (fun d => d.parameters.length) = some n) (hfr : fr + 1 ≤ R.frames) (hlo : 8 + (maxL + 11) + 40 * fr ≤ R.locals) :
    CallB R s args own index y bytes maxL ret (Cond.code y bytes maxL ret :: fTb) { frames := fr, cells := 0, slots := 0, locals := 40 * fr } 0 0 n := by
  refine ⟨rfl, rfl, hfr, hlo, fun w hw a' U hW => ?_, List.mem_cons_self, hts _ hc, hts _ hini, hy, fun sig h => ?_, hts _ hl⟩
  · rcases List.mem_cons.mp hw with rfl | hw
    · exact fTb_at hts hW a' _ hc
    · exact fTb_at hts hW a' _ hw
  · rw [h] at hn
    exact (Option.some.inj hn).symm
theorem s_go {v : Option Value} (hr : CallRun p l e R s m args below meth c H locs cells slots 0 0 (F0 m pc ls st0) rest (fun st o t => o = .returned v ∧ t.heap = st.heap) (fun _ => False)) (kk : W p l e R s m args below meth c H locs cells slots Q (F0 m (pc + 3) ls (v.toList ++ rest))) : W p l e R s m args below meth c H locs cells slots Q (F0 m pc ls st0) := by
  intro T hT X
  obtain ⟨v9, st₀, t, T', L, h0, X', hL, e1, ⟨hv, hh⟩, st⟩ := hr T hT X
  cases hv
  obtain ⟨t2, a1, b1⟩ := kk T' (by rw [e1, hh, h0]) (Stand.forget X' (fun q h => (hL q h).elim))
  exact ⟨t2, st t2 a1, b1⟩
theorem s_pre {G : fG} (hO : fOld G s s.heap) (hN : gN G ≤ s.heap.size) (hS : va_S (fIn G) s.heap H locs) (av : List Value) : ∀ U : State, U.heap = H → s.WarmedH U.vm → (fun (a : Array Value) (U : State) => a = av.toArray ∧ fOld G U U.heap ∧ gN G ≤ U.heap.size) av.toArray U := fun U hU hW => ⟨rfl, by rw [hU]; exact hO.at hW hN hS.2.1, by rw [hU]; exact Nat.le_trans hN hS.1⟩
end SST
theorem ds_J0_length_8abf5_0 : decode cJ0_length_8abf5 0 = .ok (.aload_n 0, 1) := by decide +kernel
theorem ds_J0_length_8abf5_1 : decode cJ0_length_8abf5 1 = .ok (.getfield 9, 3) := by decide +kernel
theorem ds_J0_length_8abf5_4 : decode cJ0_length_8abf5 4 = .ok (.arraylength, 1) := by decide +kernel
theorem ds_J0_length_8abf5_5 : decode cJ0_length_8abf5 5 = .ok (.aload_n 0, 1) := by decide +kernel
theorem ds_J0_length_8abf5_6 : decode cJ0_length_8abf5 6 = .ok (.invokevirtual 335, 3) := by decide +kernel
theorem ds_J0_length_8abf5_9 : decode cJ0_length_8abf5 9 = .ok (.ishr, 1) := by decide +kernel
theorem ds_J0_length_8abf5_10 : decode cJ0_length_8abf5 10 = .ok (.ireturn, 1) := by decide +kernel
theorem ds_J0_coder_7d493_0 : decode cJ0_coder_7d493 0 = .ok (.getstatic 38, 3) := by decide +kernel
theorem ds_J0_coder_7d493_3 : decode cJ0_coder_7d493 3 = .ok (.ifCond .eq 10, 3) := by decide +kernel
theorem ds_J0_coder_7d493_6 : decode cJ0_coder_7d493 6 = .ok (.aload_n 0, 1) := by decide +kernel
theorem ds_J0_coder_7d493_7 : decode cJ0_coder_7d493 7 = .ok (.getfield 15, 3) := by decide +kernel
theorem ds_J0_coder_7d493_10 : decode cJ0_coder_7d493 10 = .ok (.goto 4, 3) := by decide +kernel
theorem ds_J0_coder_7d493_13 : decode cJ0_coder_7d493 13 = .ok (.iconst 1, 1) := by decide +kernel
theorem ds_J0_coder_7d493_14 : decode cJ0_coder_7d493 14 = .ok (.ireturn, 1) := by decide +kernel
theorem ds_J0_isLatin1_aae02_0 : decode cJ0_isLatin1_aae02 0 = .ok (.getstatic 38, 3) := by decide +kernel
theorem ds_J0_isLatin1_aae02_3 : decode cJ0_isLatin1_aae02 3 = .ok (.ifCond .eq 14, 3) := by decide +kernel
theorem ds_J0_isLatin1_aae02_6 : decode cJ0_isLatin1_aae02 6 = .ok (.aload_n 0, 1) := by decide +kernel
theorem ds_J0_isLatin1_aae02_7 : decode cJ0_isLatin1_aae02 7 = .ok (.getfield 15, 3) := by decide +kernel
theorem ds_J0_isLatin1_aae02_10 : decode cJ0_isLatin1_aae02 10 = .ok (.ifCond .ne 7, 3) := by decide +kernel
theorem ds_J0_isLatin1_aae02_13 : decode cJ0_isLatin1_aae02 13 = .ok (.iconst 1, 1) := by decide +kernel
theorem ds_J0_isLatin1_aae02_14 : decode cJ0_isLatin1_aae02 14 = .ok (.goto 4, 3) := by decide +kernel
theorem ds_J0_isLatin1_aae02_17 : decode cJ0_isLatin1_aae02 17 = .ok (.iconst 0, 1) := by decide +kernel
theorem ds_J0_isLatin1_aae02_18 : decode cJ0_isLatin1_aae02 18 = .ok (.ireturn, 1) := by decide +kernel
theorem ds_J0_charAt_5068e_0 : decode cJ0_charAt_5068e 0 = .ok (.aload_n 0, 1) := by decide +kernel
theorem ds_J0_charAt_5068e_1 : decode cJ0_charAt_5068e 1 = .ok (.invokevirtual 492, 3) := by decide +kernel
theorem ds_J0_charAt_5068e_4 : decode cJ0_charAt_5068e 4 = .ok (.ifCond .eq 12, 3) := by decide +kernel
theorem ds_J0_charAt_5068e_7 : decode cJ0_charAt_5068e 7 = .ok (.aload_n 0, 1) := by decide +kernel
theorem ds_J0_charAt_5068e_8 : decode cJ0_charAt_5068e 8 = .ok (.getfield 9, 3) := by decide +kernel
theorem ds_J0_charAt_5068e_11 : decode cJ0_charAt_5068e 11 = .ok (.iload_n 1, 1) := by decide +kernel
theorem ds_J0_charAt_5068e_12 : decode cJ0_charAt_5068e 12 = .ok (.invokestatic 495, 3) := by decide +kernel
theorem ds_J0_charAt_5068e_15 : decode cJ0_charAt_5068e 15 = .ok (.ireturn, 1) := by decide +kernel
theorem ds_J0_charAt_5068e_16 : decode cJ0_charAt_5068e 16 = .ok (.aload_n 0, 1) := by decide +kernel
theorem ds_J0_charAt_5068e_17 : decode cJ0_charAt_5068e 17 = .ok (.getfield 9, 3) := by decide +kernel
theorem ds_J0_charAt_5068e_20 : decode cJ0_charAt_5068e 20 = .ok (.iload_n 1, 1) := by decide +kernel
theorem ds_J0_charAt_5068e_21 : decode cJ0_charAt_5068e 21 = .ok (.invokestatic 498, 3) := by decide +kernel
theorem ds_J0_charAt_5068e_24 : decode cJ0_charAt_5068e 24 = .ok (.ireturn, 1) := by decide +kernel
theorem ds_J0_checkIndex_df160_0 : decode cJ0_checkIndex_df160 0 = .ok (.iload_n 0, 1) := by decide +kernel
theorem ds_J0_checkIndex_df160_1 : decode cJ0_checkIndex_df160 1 = .ok (.iload_n 1, 1) := by decide +kernel
theorem ds_J0_checkIndex_df160_2 : decode cJ0_checkIndex_df160 2 = .ok (.getstatic 1053, 3) := by decide +kernel
theorem ds_J0_checkIndex_df160_5 : decode cJ0_checkIndex_df160 5 = .ok (.invokestatic 1059, 3) := by decide +kernel
theorem ds_J0_checkIndex_df160_8 : decode cJ0_checkIndex_df160 8 = .ok (.pop, 1) := by decide +kernel
theorem ds_J0_checkIndex_df160_9 : decode cJ0_checkIndex_df160 9 = .ok (.return_, 1) := by decide +kernel
theorem ds_J3_checkIndex_8e157_0 : decode cJ3_checkIndex_8e157 0 = .ok (.iload_n 0, 1) := by decide +kernel
theorem ds_J3_checkIndex_8e157_1 : decode cJ3_checkIndex_8e157 1 = .ok (.ifCond .lt 8, 3) := by decide +kernel
theorem ds_J3_checkIndex_8e157_4 : decode cJ3_checkIndex_8e157 4 = .ok (.iload_n 0, 1) := by decide +kernel
theorem ds_J3_checkIndex_8e157_5 : decode cJ3_checkIndex_8e157 5 = .ok (.iload_n 1, 1) := by decide +kernel
theorem ds_J3_checkIndex_8e157_6 : decode cJ3_checkIndex_8e157 6 = .ok (.if_icmp .lt 10, 3) := by decide +kernel
theorem ds_J3_checkIndex_8e157_9 : decode cJ3_checkIndex_8e157 9 = .ok (.aload_n 2, 1) := by decide +kernel
theorem ds_J3_checkIndex_8e157_10 : decode cJ3_checkIndex_8e157 10 = .ok (.iload_n 0, 1) := by decide +kernel
theorem ds_J3_checkIndex_8e157_11 : decode cJ3_checkIndex_8e157 11 = .ok (.iload_n 1, 1) := by decide +kernel
theorem ds_J3_checkIndex_8e157_12 : decode cJ3_checkIndex_8e157 12 = .ok (.invokestatic 95, 3) := by decide +kernel
theorem ds_J3_checkIndex_8e157_15 : decode cJ3_checkIndex_8e157 15 = .ok (.athrow, 1) := by decide +kernel
theorem ds_J3_checkIndex_8e157_16 : decode cJ3_checkIndex_8e157 16 = .ok (.iload_n 0, 1) := by decide +kernel
theorem ds_J3_checkIndex_8e157_17 : decode cJ3_checkIndex_8e157 17 = .ok (.ireturn, 1) := by decide +kernel
theorem ds_J1_charAt_3b067_0 : decode cJ1_charAt_3b067 0 = .ok (.iload_n 1, 1) := by decide +kernel
theorem ds_J1_charAt_3b067_1 : decode cJ1_charAt_3b067 1 = .ok (.aload_n 0, 1) := by decide +kernel
theorem ds_J1_charAt_3b067_2 : decode cJ1_charAt_3b067 2 = .ok (.arraylength, 1) := by decide +kernel
theorem ds_J1_charAt_3b067_3 : decode cJ1_charAt_3b067 3 = .ok (.invokestatic 9, 3) := by decide +kernel
theorem ds_J1_charAt_3b067_6 : decode cJ1_charAt_3b067 6 = .ok (.aload_n 0, 1) := by decide +kernel
theorem ds_J1_charAt_3b067_7 : decode cJ1_charAt_3b067 7 = .ok (.iload_n 1, 1) := by decide +kernel
theorem ds_J1_charAt_3b067_8 : decode cJ1_charAt_3b067 8 = .ok (.baload, 1) := by decide +kernel
theorem ds_J1_charAt_3b067_9 : decode cJ1_charAt_3b067 9 = .ok (.sipush 255, 3) := by decide +kernel
theorem ds_J1_charAt_3b067_12 : decode cJ1_charAt_3b067 12 = .ok (.iand, 1) := by decide +kernel
theorem ds_J1_charAt_3b067_13 : decode cJ1_charAt_3b067 13 = .ok (.i2c, 1) := by decide +kernel
theorem ds_J1_charAt_3b067_14 : decode cJ1_charAt_3b067 14 = .ok (.ireturn, 1) := by decide +kernel
set_option maxRecDepth 100000 in
theorem c_coder (G : fG) (l : Launch) : sMt G l yJ0_coder_7d493 cJ0_coder_7d493 1 (some .byte) 0 [.ref (gO G 1004)] (some (.int 0)) := by
  refine s_ofW (cc := cJ0_coder_7d493) (maxL := 1) (ret := (some .byte)) (by decide +kernel) rfl ?_
  intro p e s m args below meth c s₁ B hml hv
  obtain ⟨rfl, hO, hN⟩ := hv
  have hx := B.exec
  have hb := B.bytes
  have hr := B.returns
  have hts0 := atoms_spec (ws := Cond.code yJ0_coder_7d493 cJ0_coder_7d493 1 (some .byte) :: fTb) B.pre
  have hts : ∀ w ∈ fTb, w.before _ s = true := fun w h => hts0 w (List.mem_cons_of_mem _ h)
  have hown : s.vm.findClass RJ0 = some m.cls := findClass_of_methodNamed B.named
  have hlocks := B.notSynchronized
  have hS : va_S (fIn G) s.heap s.heap [] := va_S.rf
  have hl := lv_entry ([.ref (gO G 1004)]) (n := 1) (Nat.le_of_ble_eq_true rfl)
  rw [lg_entry_eq]
  generalize (lg_sl ([.ref (gO G 1004)]) ++ List.replicate (1 - (lg_sl ([.ref (gO G 1004)])).length) Slot.unset).toArray = ls at hl ⊢
  have hl : lv_has ls 1 [(0, .ref (gO G 1004))] := hl
  obtain ⟨-, ⟨hC, -⟩, adV, hSt⟩ := hO.2.2.2.2.2.2
  refine va_gets hx hb hC hS hown (hts _ (fmj_1 50 rfl rfl)) (fun _ z => z) ds_J0_coder_7d493_0 ?_
  refine lv_if_eq (tgt := 13) hx hb ds_J0_coder_7d493_3 (by decide) (fun q => absurd q (by decide)) (fun _ => ?_)
  refine lv_aload_n hx hb ds_J0_coder_7d493_6 rfl (lv_at hl 0 rfl) ?_
  refine vk_getf hx hb (hSt.1 0 (by decide)).2.1 hS hown (hts _ (fmj_10 33 rfl rfl)) (fun _ z => z) ds_J0_coder_7d493_7 ?_
  refine lv_goto (tgt := 14) hx hb ds_J0_coder_7d493_10 (by decide) ?_
  exact W.zret hx hb hr rfl (fun t ht _ => ⟨rfl, ht⟩) t_nil ds_J0_coder_7d493_14 hlocks
set_option maxRecDepth 100000 in
theorem c_latin (G : fG) (l : Launch) : sMt G l yJ0_isLatin1_aae02 cJ0_isLatin1_aae02 1 (some .boolean) 0 [.ref (gO G 1004)] (some (.int 1)) := by
  refine s_ofW (cc := cJ0_isLatin1_aae02) (maxL := 1) (ret := (some .boolean)) (by decide +kernel) rfl ?_
  intro p e s m args below meth c s₁ B hml hv
  obtain ⟨rfl, hO, hN⟩ := hv
  have hx := B.exec
  have hb := B.bytes
  have hr := B.returns
  have hts0 := atoms_spec (ws := Cond.code yJ0_isLatin1_aae02 cJ0_isLatin1_aae02 1 (some .boolean) :: fTb) B.pre
  have hts : ∀ w ∈ fTb, w.before _ s = true := fun w h => hts0 w (List.mem_cons_of_mem _ h)
  have hown : s.vm.findClass RJ0 = some m.cls := findClass_of_methodNamed B.named
  have hlocks := B.notSynchronized
  have hS : va_S (fIn G) s.heap s.heap [] := va_S.rf
  have hl := lv_entry ([.ref (gO G 1004)]) (n := 1) (Nat.le_of_ble_eq_true rfl)
  rw [lg_entry_eq]
  generalize (lg_sl ([.ref (gO G 1004)]) ++ List.replicate (1 - (lg_sl ([.ref (gO G 1004)])).length) Slot.unset).toArray = ls at hl ⊢
  have hl : lv_has ls 1 [(0, .ref (gO G 1004))] := hl
  obtain ⟨-, ⟨hC, -⟩, adV, hSt⟩ := hO.2.2.2.2.2.2
  refine va_gets hx hb hC hS hown (hts _ (fmj_1 50 rfl rfl)) (fun _ z => z) ds_J0_isLatin1_aae02_0 ?_
  refine lv_if_eq (tgt := 17) hx hb ds_J0_isLatin1_aae02_3 (by decide) (fun q => absurd q (by decide)) (fun _ => ?_)
  refine lv_aload_n hx hb ds_J0_isLatin1_aae02_6 rfl (lv_at hl 0 rfl) ?_
  refine vk_getf hx hb (hSt.1 0 (by decide)).2.1 hS hown (hts _ (fmj_10 33 rfl rfl)) (fun _ z => z) ds_J0_isLatin1_aae02_7 ?_
  refine lv_if_ne (tgt := 17) hx hb ds_J0_isLatin1_aae02_10 (by decide) (fun q => absurd rfl q) (fun _ => ?_)
  refine lv_iconst (v := 1) hx hb ds_J0_isLatin1_aae02_13 (by decide) ?_
  refine lv_goto (tgt := 18) hx hb ds_J0_isLatin1_aae02_14 (by decide) ?_
  exact W.zret hx hb hr rfl (fun t ht _ => ⟨rfl, ht⟩) t_nil ds_J0_isLatin1_aae02_18 hlocks
set_option maxRecDepth 100000 in
theorem c_pixN (G : fG) (l : Launch) {a b : Int32} (h0 : ¬ a < 0) (h1 : a < b) : sMt G l yJ3_checkIndex_8e157 cJ3_checkIndex_8e157 3 (some .int) 0 [.int a, .int b, .null] (some (.int a)) := by
  refine s_ofW (cc := cJ3_checkIndex_8e157) (maxL := 3) (ret := (some .int)) (by decide +kernel) rfl ?_
  intro p e s m args below meth c s₁ B hml hv
  obtain ⟨rfl, hO, hN⟩ := hv
  have hx := B.exec
  have hb := B.bytes
  have hr := B.returns
  have hts0 := atoms_spec (ws := Cond.code yJ3_checkIndex_8e157 cJ3_checkIndex_8e157 3 (some .int) :: fTb) B.pre
  have hts : ∀ w ∈ fTb, w.before _ s = true := fun w h => hts0 w (List.mem_cons_of_mem _ h)
  have hown : s.vm.findClass RJ3 = some m.cls := findClass_of_methodNamed B.named
  have hlocks := B.notSynchronized
  have hS : va_S (fIn G) s.heap s.heap [] := va_S.rf
  have hl := lv_entry ([.int a, .int b, .null]) (n := 3) (Nat.le_of_ble_eq_true rfl)
  rw [lg_entry_eq]
  generalize (lg_sl ([.int a, .int b, .null]) ++ List.replicate (3 - (lg_sl ([.int a, .int b, .null])).length) Slot.unset).toArray = ls at hl ⊢
  have hl : lv_has ls 3 [(0, .int a), (1, .int b), (2, .null)] := hl
  refine lv_iload_n hx hb ds_J3_checkIndex_8e157_0 rfl (lv_at hl 0 rfl) ?_
  refine lv_if_lt (tgt := 9) hx hb ds_J3_checkIndex_8e157_1 (by decide) (fun q => absurd q h0) (fun _ => ?_)
  refine lv_iload_n hx hb ds_J3_checkIndex_8e157_4 rfl (lv_at hl 0 rfl) ?_
  refine lv_iload_n hx hb ds_J3_checkIndex_8e157_5 rfl (lv_at hl 1 rfl) ?_
  refine lv_icmp_lt (tgt := 16) hx hb ds_J3_checkIndex_8e157_6 (by decide) (fun _ => ?_) (fun q => absurd h1 q)
  refine lv_iload_n hx hb ds_J3_checkIndex_8e157_16 rfl (lv_at hl 0 rfl) ?_
  exact W.iret hx hb hr (fun t ht _ => ⟨rfl, ht⟩) t_nil ds_J3_checkIndex_8e157_17 hlocks
set_option maxRecDepth 100000 in
theorem c_pixR (G : fG) (l : Launch) {a b : Int32} {q : Nat} (h0 : ¬ a < 0) (h1 : a < b) : sMt G l yJ3_checkIndex_8e157 cJ3_checkIndex_8e157 3 (some .int) 0 [.int a, .int b, .ref q] (some (.int a)) := by
  refine s_ofW (cc := cJ3_checkIndex_8e157) (maxL := 3) (ret := (some .int)) (by decide +kernel) rfl ?_
  intro p e s m args below meth c s₁ B hml hv
  obtain ⟨rfl, hO, hN⟩ := hv
  have hx := B.exec
  have hb := B.bytes
  have hr := B.returns
  have hts0 := atoms_spec (ws := Cond.code yJ3_checkIndex_8e157 cJ3_checkIndex_8e157 3 (some .int) :: fTb) B.pre
  have hts : ∀ w ∈ fTb, w.before _ s = true := fun w h => hts0 w (List.mem_cons_of_mem _ h)
  have hown : s.vm.findClass RJ3 = some m.cls := findClass_of_methodNamed B.named
  have hlocks := B.notSynchronized
  have hS : va_S (fIn G) s.heap s.heap [] := va_S.rf
  have hl := lv_entry ([.int a, .int b, .ref q]) (n := 3) (Nat.le_of_ble_eq_true rfl)
  rw [lg_entry_eq]
  generalize (lg_sl ([.int a, .int b, .ref q]) ++ List.replicate (3 - (lg_sl ([.int a, .int b, .ref q])).length) Slot.unset).toArray = ls at hl ⊢
  have hl : lv_has ls 3 [(0, .int a), (1, .int b), (2, .ref q)] := hl
  refine lv_iload_n hx hb ds_J3_checkIndex_8e157_0 rfl (lv_at hl 0 rfl) ?_
  refine lv_if_lt (tgt := 9) hx hb ds_J3_checkIndex_8e157_1 (by decide) (fun q => absurd q h0) (fun _ => ?_)
  refine lv_iload_n hx hb ds_J3_checkIndex_8e157_4 rfl (lv_at hl 0 rfl) ?_
  refine lv_iload_n hx hb ds_J3_checkIndex_8e157_5 rfl (lv_at hl 1 rfl) ?_
  refine lv_icmp_lt (tgt := 16) hx hb ds_J3_checkIndex_8e157_6 (by decide) (fun _ => ?_) (fun q => absurd h1 q)
  refine lv_iload_n hx hb ds_J3_checkIndex_8e157_16 rfl (lv_at hl 0 rfl) ?_
  exact W.iret hx hb hr (fun t ht _ => ⟨rfl, ht⟩) t_nil ds_J3_checkIndex_8e157_17 hlocks
set_option maxRecDepth 100000 in
theorem c_cix (G : fG) (l : Launch) {a b : Int32} (h0 : ¬ a < 0) (h1 : a < b) : sMt G l yJ0_checkIndex_df160 cJ0_checkIndex_df160 2 none 1 [.int a, .int b] none := by
  refine s_ofW (cc := cJ0_checkIndex_df160) (maxL := 2) (ret := none) (by decide +kernel) rfl ?_
  intro p e s m args below meth c s₁ B hml hv
  obtain ⟨rfl, hO, hN⟩ := hv
  have hx := B.exec
  have hb := B.bytes
  have hr := B.returns
  have hts0 := atoms_spec (ws := Cond.code yJ0_checkIndex_df160 cJ0_checkIndex_df160 2 none :: fTb) B.pre
  have hts : ∀ w ∈ fTb, w.before _ s = true := fun w h => hts0 w (List.mem_cons_of_mem _ h)
  have hown : s.vm.findClass RJ0 = some m.cls := findClass_of_methodNamed B.named
  have hlocks := B.notSynchronized
  have hS : va_S (fIn G) s.heap s.heap [] := va_S.rf
  have hl := lv_entry ([.int a, .int b]) (n := 2) (Nat.le_of_ble_eq_true rfl)
  rw [lg_entry_eq]
  generalize (lg_sl ([.int a, .int b]) ++ List.replicate (2 - (lg_sl ([.int a, .int b])).length) Slot.unset).toArray = ls at hl ⊢
  have hl : lv_has ls 2 [(0, .int a), (1, .int b)] := hl
  obtain ⟨-, ⟨-, hZ⟩, -⟩ := hO.2.2.2.2.2.2
  refine lv_iload_n hx hb ds_J0_checkIndex_df160_0 rfl (lv_at hl 0 rfl) ?_
  refine lv_iload_n hx hb ds_J0_checkIndex_df160_1 rfl (lv_at hl 1 rfl) ?_
  have key : ∀ w : Value, sMt G l yJ3_checkIndex_8e157 cJ3_checkIndex_8e157 3 (some .int) 0 [.int a, .int b, w] (some (.int a)) → w.category = 1 → W p l e (headSpec (Cond.code yJ0_checkIndex_df160 cJ0_checkIndex_df160 2 none :: fTb) { frames := 1, cells := 0, slots := 0, locals := 40 * 1 }).room s m [Value.int a, Value.int b].toArray below meth c s.heap [] 0 0 (MQ below (fun _ st o t => o = .returned none ∧ t.heap = st.heap) [Value.int a, Value.int b].toArray s 0 0 (fun _ => False)) (F0 m 5 ls (w :: .int b :: .int a :: [])) := by
    intro w hm hw
    refine s_go (v := some (.int a)) (rest := []) (W.runS (cc := cJ0_checkIndex_df160) (nL := 2) (Ts := fTb) (own := RJ0) (As := [.int a, .int b, w]) ⟨hx, hb, hml, hown, hts⟩ hm ⟨s_cb hts (fmj_1 70 rfl rfl) (fmj_1 5 rfl rfl) (fmj_1 68 rfl rfl) ⟨by decide +kernel, by decide +kernel⟩ (by decide +kernel) (by decide) (by decide), hts _ (fmj_1 69 rfl rfl)⟩ ⟨s_blind, s_pre hO hN hS _⟩ rfl (n := 3) rfl hl.1 rfl (lv_room (Nat.le_of_ble_eq_true rfl)) ds_J0_checkIndex_df160_5 ⟨Nat.le_refl _, Nat.le_refl _⟩) ?_
    refine lv_pop hx hb ds_J0_checkIndex_df160_8 rfl ?_
    exact W.vret hx hb hr (fun t ht _ => ⟨rfl, ht⟩) t_nil ds_J0_checkIndex_df160_9 hlocks
  rcases hZ with hZ | ⟨q, hZ⟩
  · exact va_gets hx hb hZ hS hown (hts _ (fmj_1 66 rfl rfl)) (fun _ z => z) ds_J0_checkIndex_df160_2 (key _ (c_pixN G l h0 h1) rfl)
  · exact va_gets hx hb hZ hS hown (hts _ (fmj_1 66 rfl rfl)) (fun _ z => z) ds_J0_checkIndex_df160_2 (key _ (c_pixR G l h0 h1) rfl)
theorem s_at (k : Nat) (hk : k < 162) : ftextB.getD k 0 &&& 255 = ftextB.getD k 0 ∧ ((ftextB.getD k 0 &&& 255).toUInt32 % 65536).toInt32 = ftextB.getD k 0 ∧ narrow .char (.int (ftextB.getD k 0)) = .int (ftextB.getD k 0) := by
  have h : ∀ k, k < 162 → ftextB.getD k 0 &&& 255 = ftextB.getD k 0 ∧ ((ftextB.getD k 0 &&& 255).toUInt32 % 65536).toInt32 = ftextB.getD k 0 ∧ narrow .char (.int (ftextB.getD k 0)) = .int (ftextB.getD k 0) := by decide +kernel
  exact h k hk
def sV (G : fG) (t : Nat) (U : State) (H : Heap) : Prop := va_T .byte t 162 (fun j => .int (ftextB.getD j 0)) (fIn G) U H
set_option maxRecDepth 100000 in
theorem c_l1 (G : fG) (l : Launch) {t k : Nat} (hk : k < 162) : Met l yJ1_charAt_3b067 (Cond.code yJ1_charAt_3b067 cJ1_charAt_3b067 2 (some .char) :: fTb) { frames := 2, cells := 0, slots := 0, locals := 40 * 2 } (fun a U => a = [Value.ref t, .int (nI k)].toArray ∧ (fOld G U U.heap ∧ gN G ≤ U.heap.size) ∧ sV G t U U.heap) (fun _ st o u => o = .returned (some (.int (ftextB.getD k 0))) ∧ u.heap = st.heap) 0 0 (fun _ => False) := by
  refine s_ofW (cc := cJ1_charAt_3b067) (maxL := 2) (ret := (some .char)) (by decide +kernel) rfl ?_
  intro p e s m args below meth c s₁ B hml hv
  obtain ⟨rfl, ⟨hO, hN⟩, hV⟩ := hv
  have hx := B.exec
  have hb := B.bytes
  have hr := B.returns
  have hts0 := atoms_spec (ws := Cond.code yJ1_charAt_3b067 cJ1_charAt_3b067 2 (some .char) :: fTb) B.pre
  have hts : ∀ w ∈ fTb, w.before _ s = true := fun w h => hts0 w (List.mem_cons_of_mem _ h)
  have hown : s.vm.findClass RJ1 = some m.cls := findClass_of_methodNamed B.named
  have hlocks := B.notSynchronized
  have hS : va_S (fIn G) s.heap s.heap [] := va_S.rf
  have hl := lv_entry ([.ref t, .int (nI k)]) (n := 2) (Nat.le_of_ble_eq_true rfl)
  rw [lg_entry_eq]
  generalize (lg_sl ([.ref t, .int (nI k)]) ++ List.replicate (2 - (lg_sl ([.ref t, .int (nI k)])).length) Slot.unset).toArray = ls at hl ⊢
  have hl : lv_has ls 2 [(0, .ref t), (1, .int (nI k))] := hl
  obtain ⟨s1, s2, s3⟩ := s_at k hk
  refine lv_iload_n hx hb ds_J1_charAt_3b067_0 rfl (lv_at hl 1 rfl) ?_
  refine lv_aload_n hx hb ds_J1_charAt_3b067_1 rfl (lv_at hl 0 rfl) ?_
  refine va_tlen (v := 162) hx hb hV hS rfl ds_J1_charAt_3b067_2 ?_
  refine s_go (v := none) (rest := []) (W.runS (cc := cJ1_charAt_3b067) (nL := 2) (Ts := fTb) (own := RJ1) (As := [.int (nI k), .int 162]) ⟨hx, hb, hml, hown, hts⟩ (c_cix G l (nI_pos (by omega)) (show nI k < nI 162 from nI_lt hk (by decide))) ⟨s_cb hts (fmj_1 65 rfl rfl) (fmj_1 3 rfl rfl) (fmj_1 63 rfl rfl) ⟨by decide +kernel, by decide +kernel⟩ (by decide +kernel) (by decide) (by decide), hts _ (fmj_1 64 rfl rfl)⟩ ⟨s_blind, s_pre hO hN hS _⟩ rfl (n := 2) rfl hl.1 rfl (lv_room (Nat.le_of_ble_eq_true rfl)) ds_J1_charAt_3b067_3 ⟨Nat.le_refl _, Nat.le_refl _⟩) ?_
  refine lv_aload_n hx hb ds_J1_charAt_3b067_6 rfl (lv_at hl 0 rfl) ?_
  refine lv_iload_n hx hb ds_J1_charAt_3b067_7 rfl (lv_at hl 1 rfl) ?_
  refine va_tb (v := .int (ftextB.getD k 0)) hx hb hV hS (vp_in_nI hk (by decide)) (by show Value.int _ = _; rw [nI_clamp (by omega)]) ds_J1_charAt_3b067_8 ?_
  refine lv_sipush (v := 255) hx hb ds_J1_charAt_3b067_9 (by decide) ?_
  refine lv_iand hx hb ds_J1_charAt_3b067_12 ?_
  refine lv_i2c hx hb ds_J1_charAt_3b067_13 s2 ?_
  exact W.zret hx hb hr s3 (fun t ht _ => ⟨rfl, ht⟩) t_nil ds_J1_charAt_3b067_14 hlocks
set_option maxRecDepth 100000 in
theorem c_length (G : fG) (l : Launch) : sMt G l yJ0_length_8abf5 cJ0_length_8abf5 1 (some .int) 1 [.ref (gO G 1004)] (some (.int 162)) := by
  refine s_ofW (cc := cJ0_length_8abf5) (maxL := 1) (ret := (some .int)) (by decide +kernel) rfl ?_
  intro p e s m args below meth c s₁ B hml hv
  obtain ⟨rfl, hO, hN⟩ := hv
  have hx := B.exec
  have hb := B.bytes
  have hr := B.returns
  have hts0 := atoms_spec (ws := Cond.code yJ0_length_8abf5 cJ0_length_8abf5 1 (some .int) :: fTb) B.pre
  have hts : ∀ w ∈ fTb, w.before _ s = true := fun w h => hts0 w (List.mem_cons_of_mem _ h)
  have hown : s.vm.findClass RJ0 = some m.cls := findClass_of_methodNamed B.named
  have hlocks := B.notSynchronized
  have hS : va_S (fIn G) s.heap s.heap [] := va_S.rf
  have hl := lv_entry ([.ref (gO G 1004)]) (n := 1) (Nat.le_of_ble_eq_true rfl)
  rw [lg_entry_eq]
  generalize (lg_sl ([.ref (gO G 1004)]) ++ List.replicate (1 - (lg_sl ([.ref (gO G 1004)])).length) Slot.unset).toArray = ls at hl ⊢
  have hl : lv_has ls 1 [(0, .ref (gO G 1004))] := hl
  obtain ⟨-, -, adV, hSt⟩ := id hO.2.2.2.2.2.2
  refine lv_aload_n hx hb ds_J0_length_8abf5_0 rfl (lv_at hl 0 rfl) ?_
  refine vk_getf hx hb (hSt.1 0 (by decide)).2.2.1 hS hown (hts _ (fmj_10 32 rfl rfl)) (fun _ z => z) ds_J0_length_8abf5_1 ?_
  refine va_tlen (v := 162) hx hb (hSt.1 0 (by decide)).2.2.2 hS rfl ds_J0_length_8abf5_4 ?_
  refine lv_aload_n hx hb ds_J0_length_8abf5_5 rfl (lv_at hl 0 rfl) ?_
  refine s_go (v := some (.int 0)) (rest := [.int 162]) (W.runV (cc := cJ0_length_8abf5) (nL := 1) (Ts := fTb) (own := RJ0) (C := RJ0) (As := []) (b := gO G 1004) ⟨hx, hb, hml, hown, hts⟩ (c_coder G l) ⟨s_cb hts (fmj_1 49 rfl rfl) (fmj_1 3 rfl rfl) (fmj_1 46 rfl rfl) ⟨by decide +kernel, by decide +kernel⟩ (by decide +kernel) (by decide) (by decide), hts _ (fmj_1 47 rfl rfl), hts _ (fmj_1 48 rfl rfl)⟩ ⟨s_blind, vk_recv hSt (i := 0) (by decide) hS, s_pre hO hN hS _⟩ rfl (n := 0) rfl hl.1 rfl (lv_room (Nat.le_of_ble_eq_true rfl)) ds_J0_length_8abf5_6 ⟨Nat.le_refl _, Nat.le_refl _⟩) ?_
  refine lv_ishr hx hb ds_J0_length_8abf5_9 ?_
  exact W.iret (v := (162 : Int32) >>> ((0 : Int32) &&& 31)) hx hb hr (fun t ht _ => ⟨by rw [show ((162 : Int32) >>> ((0 : Int32) &&& 31)) = 162 by decide +kernel], ht⟩) t_nil ds_J0_length_8abf5_10 hlocks
set_option maxRecDepth 100000 in
theorem c_charAt (G : fG) (l : Launch) {k : Nat} (hk : k < 162) : sMt G l yJ0_charAt_5068e cJ0_charAt_5068e 2 (some .char) 3 [.ref (gO G 1004), .int (nI k)] (some (.int (ftextB.getD k 0))) := by
  refine s_ofW (cc := cJ0_charAt_5068e) (maxL := 2) (ret := (some .char)) (by decide +kernel) rfl ?_
  intro p e s m args below meth c s₁ B hml hv
  obtain ⟨rfl, hO, hN⟩ := hv
  have hx := B.exec
  have hb := B.bytes
  have hr := B.returns
  have hts0 := atoms_spec (ws := Cond.code yJ0_charAt_5068e cJ0_charAt_5068e 2 (some .char) :: fTb) B.pre
  have hts : ∀ w ∈ fTb, w.before _ s = true := fun w h => hts0 w (List.mem_cons_of_mem _ h)
  have hown : s.vm.findClass RJ0 = some m.cls := findClass_of_methodNamed B.named
  have hlocks := B.notSynchronized
  have hS : va_S (fIn G) s.heap s.heap [] := va_S.rf
  have hl := lv_entry ([.ref (gO G 1004), .int (nI k)]) (n := 2) (Nat.le_of_ble_eq_true rfl)
  rw [lg_entry_eq]
  generalize (lg_sl ([.ref (gO G 1004), .int (nI k)]) ++ List.replicate (2 - (lg_sl ([.ref (gO G 1004), .int (nI k)])).length) Slot.unset).toArray = ls at hl ⊢
  have hl : lv_has ls 2 [(0, .ref (gO G 1004)), (1, .int (nI k))] := hl
  obtain ⟨-, -, adV, hSt⟩ := id hO.2.2.2.2.2.2
  obtain ⟨s1, s2, s3⟩ := s_at k hk
  refine lv_aload_n hx hb ds_J0_charAt_5068e_0 rfl (lv_at hl 0 rfl) ?_
  refine s_go (v := some (.int 1)) (rest := []) (W.runV (cc := cJ0_charAt_5068e) (nL := 2) (Ts := fTb) (own := RJ0) (C := RJ0) (As := []) (b := gO G 1004) ⟨hx, hb, hml, hown, hts⟩ (c_latin G l) ⟨s_cb hts (fmj_1 59 rfl rfl) (fmj_1 3 rfl rfl) (fmj_1 56 rfl rfl) ⟨by decide +kernel, by decide +kernel⟩ (by decide +kernel) (by decide) (by decide), hts _ (fmj_1 57 rfl rfl), hts _ (fmj_1 58 rfl rfl)⟩ ⟨s_blind, vk_recv hSt (i := 0) (by decide) hS, s_pre hO hN hS _⟩ rfl (n := 0) rfl hl.1 rfl (lv_room (Nat.le_of_ble_eq_true rfl)) ds_J0_charAt_5068e_1 ⟨Nat.le_refl _, Nat.le_refl _⟩) ?_
  refine lv_if_eq (tgt := 16) hx hb ds_J0_charAt_5068e_4 (by decide) (fun q => absurd q (by decide)) (fun _ => ?_)
  refine lv_aload_n hx hb ds_J0_charAt_5068e_7 rfl (lv_at hl 0 rfl) ?_
  refine vk_getf hx hb (hSt.1 0 (by decide)).2.2.1 hS hown (hts _ (fmj_10 32 rfl rfl)) (fun _ z => z) ds_J0_charAt_5068e_8 ?_
  refine lv_iload_n hx hb ds_J0_charAt_5068e_11 rfl (lv_at hl 1 rfl) ?_
  refine s_go (v := some (.int (ftextB.getD k 0))) (rest := []) (W.runS (cc := cJ0_charAt_5068e) (nL := 2) (Ts := fTb) (own := RJ0) (As := [.ref (adV 0), .int (nI k)]) ⟨hx, hb, hml, hown, hts⟩ (c_l1 G l (t := adV 0) hk) ⟨s_cb hts (fmj_1 62 rfl rfl) (fmj_1 4 rfl rfl) (fmj_1 60 rfl rfl) ⟨by decide +kernel, by decide +kernel⟩ (by decide +kernel) (by decide) (by decide), hts _ (fmj_1 61 rfl rfl)⟩ ⟨fun a U g mk h => ⟨h.1, ⟨fOld.at (s := U) (U := U.calling g mk a) (State.WarmedH.refl U) h.2.1.1 h.2.1.2 (fun _ _ _ => rfl), h.2.1.2⟩, va_T.moved (u := U) (U := U.calling g mk a) (Vm.Alike.refl U.vm) h.2.2⟩, fun U hU hW => ⟨rfl, (s_pre hO hN hS [] U hU hW).2, by rw [hU]; exact va_T.moved hW.alike (hSt.1 0 (by decide)).2.2.2⟩⟩ rfl (n := 2) rfl hl.1 rfl (lv_room (Nat.le_of_ble_eq_true rfl)) ds_J0_charAt_5068e_12 ⟨Nat.le_refl _, Nat.le_refl _⟩) ?_
  exact W.zret hx hb hr s3 (fun t ht _ => ⟨rfl, ht⟩) t_nil ds_J0_charAt_5068e_15 hlocks
set_option maxRecDepth 100000 in
theorem f_str {G : fG} {l : Launch} (hgx : ∀ j, j < 162 → gX G 1004 j = ftextB.getD j 0) : fStrOK G l := by
  refine ⟨fun md p e R s m args below meth c Q cu su pc x ls t h C hcn hlk hd hsum hf hlo hcu hsu k => ?_, fun md p e R s m args below meth c Q cu su pc x ls t h z C hcn hlk hd hsum hf hlo hcu hsu hz k => ?_⟩
  · intro hc H locs A S hW hS hL hR
    obtain ⟨a, U, rfl, ha, hR1⟩ := fSR_c hR
    obtain rfl := fR_a ha (by decide)
    obtain ⟨hx, hb, hml, hret, hlk2, hown, hts, hK, hOld, hN0, hnm, htab, htr⟩ := id C
    obtain ⟨-, -, adV, hSt⟩ := id hOld.2.2.2.2.2.2
    have e0 : fAd G 1004 = gO G 1004 := rfl
    rw [e0]
    refine s_go (v := some (.int 162)) (rest := U) (W.runV (cc := md.2.1) (nL := fmL md) (Ts := fTb) (own := md.1.cls) (C := RJ0) (As := []) (b := gO G 1004) ⟨hx, hb, hml, hown, hts⟩ (c_length G l) ⟨s_cb hts (fmj_1 45 rfl rfl) (fmj_1 3 rfl rfl) hlk ⟨by decide +kernel, by decide +kernel⟩ (by decide +kernel) (by omega) (by omega), hts _ (fmj_1 43 rfl rfl), hts _ (fmj_1 44 rfl rfl)⟩ ⟨s_blind, vk_recv hSt (i := 0) (by decide) hS, s_pre hOld hN0 hS _⟩ rfl (n := 0) rfl hL.1 rfl (lv_room (by rw [fSR_sum hR1]; exact hsum)) hd ⟨by omega, by omega⟩) ?_
    exact k hc H locs A _ hW hS hL ⟨⟨_, rfl, by decide⟩, hR1⟩
  · intro hc H locs A S hW hS hL hR
    obtain ⟨b, U, rfl, hb1, hR1⟩ := fSR_c hR
    obtain ⟨a, U, rfl, ha, hR2⟩ := fSR_c hR1
    obtain rfl := fR_a ha (by decide)
    obtain ⟨i, rfl, rfl⟩ := fR_i hb1
    obtain ⟨hx, hb, hml, hret, hlk2, hown, hts, hK, hOld, hN0, hnm, htab, htr⟩ := id C
    obtain ⟨-, -, adV, hSt⟩ := id hOld.2.2.2.2.2.2
    have e0 : fAd G 1004 = gO G 1004 := rfl
    rw [e0]
    obtain ⟨j, hj, rfl⟩ := vp_in_of (f_in (n := 162) hz) (by decide)
    refine s_go (v := some (.int (ftextB.getD j 0))) (rest := U) (W.runV (cc := md.2.1) (nL := fmL md) (Ts := fTb) (own := md.1.cls) (C := RJ0) (As := [.int (nI j)]) (b := gO G 1004) ⟨hx, hb, hml, hown, hts⟩ (c_charAt G l hj) ⟨s_cb hts (fmj_1 55 rfl rfl) (fmj_1 3 rfl rfl) hlk ⟨by decide +kernel, by decide +kernel⟩ (by decide +kernel) (by omega) (by omega), hts _ (fmj_1 53 rfl rfl), hts _ (fmj_1 54 rfl rfl)⟩ ⟨s_blind, vk_recv hSt (i := 0) (by decide) hS, s_pre hOld hN0 hS _⟩ rfl (n := 1) rfl hL.1 rfl (lv_room (by rw [fSR_sum hR2]; exact hsum)) hd ⟨by omega, by omega⟩) ?_
    refine k hc H locs A _ hW hS hL ⟨⟨_, rfl, ?_⟩, hR2⟩
    rw [hW.2.1.2.1 1004 _ (by decide), nI_toInt (by omega)]
    show _ = (gX G 1004 j).toInt
    rw [hgx j hj]
