def fh0 (L : Nat) (X : Nat → Nat → Int) : fH := (0, fun k i => if k = 1000 then (if i = 0 then L else 0) else 0, fun k j => if 1000 ≤ k then X k j else 0)
/-- what is left: the law, run in the flat machine, answers true -/
def fLaw : Prop := ∀ (L : Nat) (X : Nat → Nat → Int), L ≤ 3072 → (∀ k j, -2147483648 ≤ X k j ∧ X k j < 2147483648) → (∀ j, j < 6 → X 1001 j = (fR1.getD j 0).toInt) → (∀ j, j < 4 → X 1002 j = (fR2.getD j 0).toInt) → (∀ j, j < 4 → X 1003 j = (fR3.getD j 0).toInt) → (∀ j, j < 162 → X 1004 j = (ftextB.getD j 0).toInt) → Wp (14, 322, 0, 0, 0, fpad 8 (fent [fA 1000]), []) (fh0 L X) (fun o _ => o = .inl (some (fI 1)))
theorem f_32 (i : Int32) : -2147483648 ≤ i.toInt ∧ i.toInt < 2147483648 := ⟨i.le_toInt, i.toInt_lt⟩
theorem f_o64 (i : Int32) : (Int64.ofInt i.toInt).toInt = i.toInt := by
  have h := f_32 i
  have hz : Int64.size = 18446744073709551616 := rfl
  rw [Int64.toInt_ofInt, hz]
  exact Int.bmod_eq_of_le (by omega) (by omega)
theorem fh0_rg {G : fG} {L : Nat} (hL : gL G = L) : fRg G (fh0 L (fun k j => (gX G k j).toInt)) := by
  refine ⟨fun k f => ?_, fun k j hk => ?_, ?_⟩
  · show (fkd k f = 1 → (Int64.ofInt (if 1000 ≤ k then (gX G k f).toInt else 0)).toInt = (if 1000 ≤ k then (gX G k f).toInt else 0)) ∧ (fkd k f ≠ 1 → (Int32.ofInt (if 1000 ≤ k then (gX G k f).toInt else 0)).toInt = (if 1000 ≤ k then (gX G k f).toInt else 0))
    split
    · exact ⟨fun _ => f_o64 _, fun _ => by rw [f_oi]⟩
    · exact ⟨fun _ => rfl, fun _ => rfl⟩
  · show (if 1000 ≤ k then (gX G k j).toInt else 0) = _
    rw [if_pos hk]
  · exact hL.symm
set_option maxRecDepth 100000 in
set_option maxHeartbeats 4000000 in
theorem whole_start (HL : fLaw) {p : Program} {e : Env} {s : State} {m : MethodId} {below : List Frame} {meth : Method} {c : Code} (l : Launch) {b L : Nat} {xs : Nat → Int32} (hst : l.stackTraces = false) (hfit : heapFits s = true) (hname : meth.name = "law") (hex : c.exceptionTable.toList = tableOf []) (hL : L ≤ 3072) (C0 : lw_At p s m meth c b L xs) : W p l e room_1 s m #[Value.ref b] below meth c s.heap [] 0 0 (lw_Z below #[Value.ref b] s) (entryFrame m ([Value.ref b] : List Value).toArray 8) := by
  obtain ⟨G, gN', gL', gO', g0, g1, g2, g3, g4, C⟩ := f_begin l hst hfit C0 hname hex
  obtain ⟨n, hn⟩ := HL L (fun k j => (gX G k j).toInt) hL (fun k j => f_32 _) (fun j hj => by rw [g1 j hj]) (fun j hj => by rw [g2 j hj]) (fun j hj => by rw [g3 j hj]) (fun j hj => by rw [g4 j hj])
  have hav : fSR G [fA 1000] [Value.ref b] := by
    refine ⟨?_, trivial⟩
    show (if 1000 = 9999 then ∃ q, Value.ref b = .ref q else Value.ref b = .ref (fAd G 1000))
    rw [if_neg (by decide), show fAd G 1000 = gO G 1000 from rfl, gO']
  have hl := lv_entry [Value.ref b] (n := 8) (Nat.le_of_ble_eq_true rfl)
  have hWh : fWh G (fh0 L (fun k j => (gX G k j).toInt)) s.heap := ⟨fun k q h => by simp [fWs, fh0] at h, fh0_rg gL', Nat.zero_le _⟩
  have key := f_sound (f_str (l := l) g4) (by rw [gL']; omega) (fun k => (fg_all k).1) (fun k => (fg_all k).2) n 14 322 0 0 0 _ _ _ _ hn p e room_1 s m #[Value.ref b] below meth c C (Nat.le_of_ble_eq_true rfl) (Nat.le_of_ble_eq_true rfl) (Nat.le_of_ble_eq_true rfl) (Nat.le_of_ble_eq_true rfl) (fun _ => by rw [gN']; exact Nat.le_refl _) s.heap [] _ [] hWh va_S.rf ⟨hl.1, hl.2.1, fun i v hv => by
      obtain ⟨x, hx, hr⟩ := fent_get [fA 1000] [Value.ref b] 0 i v hav (fpad_get _ _ _ _ hv)
      rw [Nat.zero_add] at hx
      exact ⟨x, hl.2.2 _ hx, hr⟩⟩ trivial
  rw [← lg_entry_eq] at key
  intro T hT X
  obtain ⟨t, a1, o, b1, b2, b3⟩ := key T hT X
  refine ⟨t, a1, o, b1, b2, ?_⟩
  rcases b3 with ⟨v, v', h', Lc, rfl, hv, hq, hwd, ⟨-, hW, e1, e2, e3, e4, e5, e6⟩, hin, -, -⟩ | ⟨q, ee, ce, h', Lc, rfl, hq, -⟩
  · cases hq
    cases v' with
    | none => exact hv.elim
    | some x =>
      obtain ⟨i, rfl, hi⟩ := fR_i (show fR G (fI 1) x from hv)
      have hi1 : i = 1 := Int32.toInt_inj.mp hi
      subst hi1
      refine ⟨rfl, ⟨_, rfl⟩, hW, e1, e2, Nat.le_trans e3 (Nat.add_le_add_left (Nat.le_of_ble_eq_true rfl) _), e4, Nat.le_trans e5 (Nat.le_of_ble_eq_true rfl), fun a c hc => ?_⟩
      obtain ⟨c', f1, f2, f3, f4⟩ := e6 a c hc
      refine ⟨c', f1, f2, f3, fun i _ => f4 i fun hm => ?_⟩
      have h1 : gN G ≤ a := hin _ hm
      have h2 : a < s.heap.size := (Array.getElem?_eq_some_iff.mp hc).1
      rw [gN'] at h1
      exact absurd h2 (Nat.not_lt.mpr h1)
  · cases hq
set_option maxHeartbeats 4000000 in
theorem lw_walk (HL : fLaw) (l : Launch) (hst : l.stackTraces = false) (b : Addr) (xs : List Int32) : MetFree l x (headSpec (Jvm.Cond.code x code maxLocals ret :: tables_1) room_1) (lw_P b xs) (fun _ _ _ _ _ => True) lw_Q := by
  refine MetFree.of_bodyS (code := code) (maxLocals := maxLocals) (ret := ret) (by decide) ?_ ?_
  · intro args s m h hn
    obtain ⟨meth, c, h1, h2, h3, h4, h5, h6, -, -⟩ := Cond.code_spec hn (atoms_spec (ws := Jvm.Cond.code x code maxLocals ret :: tables_1) h _ List.mem_cons_self)
    exact ⟨meth, c, h1, h2, h3, h4, h5, h6⟩
  · intro p e s m args below meth c s₁ B hml0 hP _
    obtain ⟨rfl, hx, hbd, hgv, hfit⟩ := hP
    obtain ⟨scr, harrAt, hlist, hof, hsmall⟩ := hx
    obtain ⟨hcb, hkn, -, -⟩ := State.arrayAt?_spec harrAt
    have hown : s.vm.findClass R_law = some m.cls := findClass_of_methodNamed B.named
    have hts0 : ∀ c ∈ (Jvm.Cond.code x code maxLocals ret :: tables_1), c.before #[Value.ref b] s = true := atoms_spec (ws := Jvm.Cond.code x code maxLocals ret :: tables_1) B.pre
    have hts : ∀ w ∈ lw_tbl, w.before #[Value.ref b] s = true := k2_hts_sels lw_privs (fun w hw => hts0 w (List.mem_cons_of_mem _ hw)) lw_privs_ok
    have hml : c.maxLocals = 8 := B.maxLocals_eq (hts0 _ List.mem_cons_self)
    have X₀ : Stand p l e room_1 s m #[Value.ref b] below meth c s₁ [] 0 0 := Stand.of_body B
    have hh0 : s₁.heap = s.heap := by rw [B.state]; rfl
    have htab : c.exceptionTable.toList = tableOf [] := by
      obtain ⟨mk, meth9, c9, h0, h1, h2, -, -, -, -, h7, -⟩ := fCt_spec (md := fd_L_law) (args := #[Value.ref b]) (s := s) (hts0 _ List.mem_cons_self)
      cases Option.some.inj (h0.symm.trans B.named)
      cases Option.some.inj (h1.symm.trans B.method)
      cases Option.some.inj (h2.symm.trans X₀.code)
      exact h7
    have hsz : scr.slots.size = xs.length := by rw [← Array.length_toList, hlist, List.length_map]
    have hval : ∀ j : Nat, j < xs.length → scr.slots[j]? = some (.int (xs.getD j 0)) := fun j hj => by
      rw [← Array.getElem?_toList, hlist]
      simp [hj]
    have hbl : b < s.heap.size := (Array.getElem?_eq_some_iff.mp hcb).1
    have hX : va_X b xs.length (fun j => xs.getD j 0) s s.heap := ⟨scr, hcb, hof, hkn, hsz, hval⟩
    have K : W p l e room_1 s m #[Value.ref b] below meth c s₁.heap [] 0 0 (lw_Z below #[Value.ref b] s) (entryFrame m ([Value.ref b] : List Value).toArray 8) := by
      rw [hh0]
      exact whole_start HL l hst hfit (name_of_methodNamed B.named B.method).1 htab hbd ⟨B.exec, B.bytes, B.returns, hml, hown, hts, hX, hbl, B.notSynchronized, hgv⟩
    obtain ⟨t, a1, o, b1, b2, b3⟩ := K s₁ rfl X₀
    exact ⟨t, o, a1, b1, b2, b3⟩
theorem lw_pre_spec {args : Array Value} {s : State} (h : (Jvm.Cond.and given_1 narrow_1).before args s = true) (hr : rest_1_c.before args s = true) (hfit : heapFits s = true) : ∃ (b : Addr) (xs : List Int32), lw_P b xs args s := by
  have hs := flat_of_before _ h
  have hq := flat_of_before _ hr
  have hc : (Cond.count 1).before args s = true := hs _ (by decide +kernel)
  have harr : (Cond.arrayOf (.arg 0) .int).before args s = true := hs _ (by decide +kernel)
  have hle : (Cond.le (.length (.arg 0)) (.int 3072)).before args s = true := hs _ (by decide +kernel)
  have hlen : (Cond.isInt (.length (.arg 0))).before args s = true := hq _ (by decide +kernel)
  have hall : (Cond.all (.arg 0) (.isInt (.elem (.arg 0) (.index 0)))).before args s = true := hq _ (by decide +kernel)
  obtain ⟨b, xs, hb, hx⟩ := State.ints_of_pre rfl harr hlen hall
  have hsm : xs.length < 2 ^ 31 := hx.choose_spec.2.2.2
  have hev : (Term.length (.arg 0)).eval args s none [] s = some (.int xs.length.toInt32) := hx.length_eval hb
  have hv := Cond.le_ints hev (show (Term.int 3072).eval args s none [] s = some (.int 3072) from rfl)
  have hd : xs.length.toInt32 ≤ 3072 := by
    simpa [Cond.before, Cond.holds, hv] using hle
  have hN : xs.length ≤ 3072 := (Int32.ofNat_le_ofNat hsm (by decide)).mp (show Int32.ofNat xs.length ≤ Int32.ofNat 3072 from hd)
  exact ⟨b, xs, Cond.one_arg hc (show args[0]? = some (.ref b) from hb), hx, hN, h, hfit⟩
theorem lw_comes (HL : fLaw) (l : Launch) (hst : l.stackTraces = false) : Comes l x (Jvm.Cond.code x code maxLocals ret :: tables_1) room_1 (fun tb e args s => Calls_1 tb e args s ∧ rest_1 tb e args s ∧ Pre_1 tb e args s)
    (fun _ _ args s o t => lw_Q args s o t) := by
  intro p e ha hc hk s m args below hf hfit hheap happ hpre
  obtain ⟨b, xs, hP⟩ := lw_pre_spec hpre.2.2 hpre.2.1 hheap
  obtain ⟨k, o, h1, h2, h3, hQ⟩ := lw_walk HL l hst b xs p e ha hc hk s m args below hf ((Spec.applies_iff_loose hf).mp happ).1 hP trivial
  exact ⟨k, o, h1, h2, h3, hQ⟩
theorem lw_frame {s t : State} {o : Outcome} {args : Array Value} (h : Framed s o t [] 601024 7293034) :
    Framed s o t (fieldLocs frame_1_writes args s ++ arrayLocs frame_1_arrays args s ++ staticLocs frame_1_statics s) 601024 7293034 := h
theorem lw_limb (HL : fLaw) (L : Cond) (hL : ∀ (args : Array Value) (s t : State), L.after args s (.returned (some (.int 1))) t = true) :
    ArmFor flags0 classFile x code maxLocals ret World_1 tables_1 room_1 Calls_1 rest_1 Pre_1
      (fun tb e a s o t => postC L tb e a s o t ∧ Framed s o t (fieldLocs frame_1_writes a s ++ arrayLocs frame_1_arrays a s ++ staticLocs frame_1_statics s) 601024 7293034) := by
  intro l hfl _ _ p e ha hc hk s m args below hf hfit hheap happ hpre
  obtain ⟨k, o, h1, h2, h3, rfl, hF⟩ := lw_comes HL l (by unfold Launch.stackTraces; rw [hfl]; decide) p e ha hc hk s m args below hf hfit hheap happ hpre
  exact ⟨k, _, h1, h2, h3, hL args s _, lw_frame hF⟩
theorem i_vc_of (HL : fLaw) : Claimed_1_1 ∧ Claimed_1_2 := ⟨lw_limb HL limb_1_1 (fun args s t => by simp [limb_1_1, Cond.after, Cond.holds, Cond.value]), lw_limb HL limb_1_2 (fun args s t => Cond.after_iff.mpr (by
  first | (rw [show limb_1_2 = Cond.eq .result (.int 1) from rfl, Cond.eq_ints (x := 1) (y := 1) rfl rfl]; simp; done) | (simp [limb_1_2, Cond.value, Term.eval]; done)))⟩
