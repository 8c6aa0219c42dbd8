/-! ===== round: the class picks an order ===== -/
def Gd (S : Sc) (w : Nat → Int) (sum Hm : Int) (x : List Nat) : Prop := x.Nodup ∧ (∀ q ∈ x, q < S.n) ∧ wl w x = sum ∧ hm S x ≤ Hm
def PI (S : Sc) (w : Nat → Int) (sum Hm : Int) (v : List Nat) : Prop := (∃ t, Gd S w sum Hm (v ++ t)) ∧ ∀ x, Gd S w sum Hm x → (∃ t, x = v ++ t) ∨ ∀ t, lxl (v ++ t) x
theorem nd_app : ∀ {v t : List Nat}, v.Nodup → t.Nodup → (∀ x ∈ v, x ∉ t) → (v ++ t).Nodup
  | [], _, _, h2, _ => h2
  | a :: v, t, h1, h2, h3 => by
    rw [List.nodup_cons] at h1
    show (a :: (v ++ t)).Nodup
    rw [List.nodup_cons, List.mem_append]
    exact ⟨fun h => h.elim h1.1 (h3 a List.mem_cons_self), nd_app h1.2 h2 (fun x hx => h3 x (List.mem_cons_of_mem _ hx))⟩
theorem nd_inv : ∀ {v t : List Nat}, (v ++ t).Nodup → v.Nodup ∧ t.Nodup ∧ ∀ x ∈ v, x ∉ t
  | [], _, h => ⟨List.nodup_nil, h, fun x hx => absurd hx (by simp)⟩
  | a :: v, t, h => by
    have h' : (a :: (v ++ t)).Nodup := h
    rw [List.nodup_cons, List.mem_append] at h'
    obtain ⟨h1, h2⟩ := h'
    obtain ⟨i1, i2, i3⟩ := nd_inv h2
    refine ⟨List.nodup_cons.2 ⟨fun e => h1 (.inl e), i1⟩, i2, fun x hx => ?_⟩
    rcases List.mem_cons.1 hx with e | e
    · rw [e]; exact fun e2 => h1 (.inr e2)
    · exact i3 x e
theorem and0_t {a b x : Nat} (h : a &&& b = 0) (hb : Nat.testBit b x = true) : Nat.testBit a x = false := by
  have : Nat.testBit (a &&& b) x = false := by rw [h, Nat.zero_testBit]
  rw [Nat.testBit_and, hb, Bool.and_true] at this
  exact this
theorem nx_iff {K : fM} {S : Sc} (hS : S.ok) {w : Nat → Int} {sum Hm : Int} (h0 : 0 ≤ Hm) (h1 : Hm ≤ 1440) (h61 : ∀ m, m < 2 ^ S.n → K 61 m = wtm w m S.n) (hL : ∀ rest i, rest < 2 ^ S.n → i < S.n → Nat.testBit rest i = false → LQ S Hm (tab62 K) rest i) {v : List Nat} (hv : v.Nodup) (hvn : ∀ q ∈ v, q < S.n) {q : Nat} (hq : q < S.n) : NxC K S (mk v) (run S (p0 S) v).1 (run S (p0 S) v).2 sum q ↔ ∃ t, Gd S w sum Hm (v ++ q :: t) := by
  have hp := okP_r hS v (p0 S) (okP_0 hS) hvn
  generalize hpe : run S (p0 S) v = p at hp ⊢
  have hp0 : 0 ≤ p.2 := by rcases hp.2 with e | e <;> omega
  have hwb := wy_bd hS hp.1 (.inl hq : S.at q)
  have hrun : ∀ t, run S (p0 S) (v ++ q :: t) = run S (q, dn S q (p.2 + wy S p.1 q)) t := fun t => by
    rw [run_app, hpe]
    rfl
  have hd0 : 0 ≤ dn S q (p.2 + wy S p.1 q) := by rcases dn_bd hS hq (show 0 ≤ p.2 + wy S p.1 q by omega) with f | f <;> omega
  have hok : okP S (q, dn S q (p.2 + wy S p.1 q)) := okP_s hS hp hq
  have mask : ∀ t, (v ++ q :: t).Nodup → (∀ x ∈ t, x < S.n) → K 61 ((mk v ||| 2 ^ q) ||| mk t) = wl w (v ++ q :: t) := by
    intro t ht htn
    have hall : ∀ x ∈ v ++ q :: t, x < S.n := fun x hx => by
      rcases List.mem_append.1 hx with e | e
      · exact hvn x e
      · rcases List.mem_cons.1 e with e | e
        · rw [e]; exact hq
        · exact htn x e
    have e : (mk v ||| 2 ^ q) ||| mk t = mk (v ++ q :: t) := Nat.eq_of_testBit_eq fun x => by
      rw [Nat.testBit_or, tb_or]
      have a1 := mk_t v x
      have a2 := mk_t t x
      have a3 := mk_t (v ++ q :: t) x
      rw [List.mem_append, List.mem_cons] at a3
      cases h3 : Nat.testBit (mk (v ++ q :: t)) x with
      | true =>
        rw [h3] at a3
        rcases a3.1 rfl with e | e | e
        · rw [a1.2 e]; rfl
        · rw [decide_eq_true e.symm]; simp
        · rw [a2.2 e]; simp
      | false =>
        rw [h3] at a3
        have n1 : Nat.testBit (mk v) x = false := by
          cases hh : Nat.testBit (mk v) x with
          | false => rfl
          | true => exact absurd (a3.2 (.inl (a1.1 hh))) (by decide)
        have n2 : Nat.testBit (mk t) x = false := by
          cases hh : Nat.testBit (mk t) x with
          | false => rfl
          | true => exact absurd (a3.2 (.inr (.inr (a2.1 hh)))) (by decide)
        have n3 : ¬ q = x := fun e => absurd (a3.2 (.inr (.inl e.symm))) (by decide)
        rw [n1, n2, decide_eq_false n3]
        rfl
    rw [e, h61 _ (mk_lt hall), ← wl_wtm _ _ (mk_lt hall) (mk_set ht)]
  constructor
  · rintro ⟨a1, a2, rest, b1, b2, b3, b4⟩
    have hqv : q ∉ v := fun e => by rw [(mk_t v q).2 e] at a1; exact absurd a1 (by decide)
    have hrq : Nat.testBit rest q = false := and0_t b2 (by rw [tb_or, decide_eq_true rfl]; simp)
    have hrv : ∀ x ∈ v, Nat.testBit rest x = false := fun x hx => and0_t b2 (by rw [tb_or, (mk_t v x).2 hx]; rfl)
    have hdle : dn S q (p.2 + wy S p.1 q) ≤ 1440 := by rcases dn_bd hS hq (show 0 ≤ p.2 + wy S p.1 q by omega) with f | f <;> omega
    obtain ⟨s, s1, s2⟩ := (L_ok hS h0 h1 hL (rest + 1) rest (by omega) b1 q hq hrq _ hd0 hdle).1 b4
    have hsn := isSet_lt s1 b1
    have hqs : q ∉ s := fun e => by rw [(s1.2 q).1 e] at hrq; exact absurd hrq (by decide)
    have hnd : (v ++ q :: s).Nodup := nd_app hv (List.nodup_cons.2 ⟨hqs, s1.1⟩) (fun x hx e => by
      rcases List.mem_cons.1 e with e | e
      · exact hqv (e ▸ hx)
      · have := hrv x hx
        rw [(s1.2 x).1 e] at this
        exact absurd this (by decide))
    refine ⟨s, hnd, fun x hx => ?_, ?_, ?_⟩
    · rcases List.mem_append.1 hx with e | e
      · exact hvn x e
      · rcases List.mem_cons.1 e with e | e
        · rw [e]; exact hq
        · exact hsn x e
    · rw [← mask s hnd hsn, ← set_mk s1]
      exact b3
    · unfold hm
      rw [hrun]
      exact s2
  · rintro ⟨t, c1, c2, c3, c4⟩
    obtain ⟨d1, d2, d3⟩ := nd_inv c1
    rw [List.nodup_cons] at d2
    have htn : ∀ x ∈ t, x < S.n := fun x hx => c2 x (List.mem_append_right _ (List.mem_cons_of_mem _ hx))
    unfold hm at c4
    rw [hrun] at c4
    have hh := home_run hS h1 t _ hok htn c4
    have w9 := wy_bd hS (.inl hq : S.at q) (.inr rfl : S.at 9)
    have hh' : dn S q (p.2 + wy S p.1 q) + wy S q 9 ≤ Hm := hh
    refine ⟨?_, by omega, mk t, mk_lt htn, ?_, ?_, ?_⟩
    · cases hb : Nat.testBit (mk v) q with
      | false => rfl
      | true => exact absurd List.mem_cons_self (d3 q ((mk_t v q).1 hb))
    · refine zero_bits fun x => ?_
      rw [Nat.testBit_and, tb_or]
      cases hb : Nat.testBit (mk t) x with
      | false => rfl
      | true =>
        have hxt := (mk_t t x).1 hb
        have n1 : Nat.testBit (mk v) x = false := by
          cases hh : Nat.testBit (mk v) x with
          | false => rfl
          | true => exact absurd (List.mem_cons_of_mem _ hxt) (d3 x ((mk_t v x).1 hh))
        have n3 : ¬ q = x := fun e => d2.1 (e ▸ hxt)
        rw [n1, decide_eq_false n3]
        rfl
    · rw [mask t c1 htn, c3]
    · have hrq : Nat.testBit (mk t) q = false := by
        cases hb : Nat.testBit (mk t) q with
        | false => rfl
        | true => exact absurd ((mk_t t q).1 hb) d2.1
      exact (L_ok hS h0 h1 hL (mk t + 1) (mk t) (by omega) (mk_lt htn) q hq hrq _ hd0 (by omega)).2 ⟨t, mk_set d2.2, c4⟩
theorem PI_end {S : Sc} {w : Nat → Int} {sum Hm : Int} {v : List Nat} (hp : PI S w sum Hm v) (he : ∀ t, Gd S w sum Hm (v ++ t) → t = []) : Gd S w sum Hm v ∧ ∀ x, Gd S w sum Hm x → lxl v x := by
  obtain ⟨⟨t, ht⟩, h2⟩ := hp
  have e := he t ht
  subst e
  rw [List.append_nil] at ht
  refine ⟨ht, fun x hx => ?_⟩
  rcases h2 x hx with ⟨t, e⟩ | h
  · subst e
    have := he t hx
    subst this
    rw [List.append_nil]
    exact lxl_refl v
  · have := h []
    rw [List.append_nil] at this
    exact this
theorem mk_snoc (v : List Nat) (q : Nat) : mk (v ++ [q]) = mk v ||| 2 ^ q := Nat.eq_of_testBit_eq fun x => by
  rw [tb_or]
  have a1 := mk_t v x
  have a3 := mk_t (v ++ [q]) x
  rw [List.mem_append, List.mem_singleton] at a3
  cases h3 : Nat.testBit (mk (v ++ [q])) x with
  | true =>
    rw [h3] at a3
    rcases a3.1 rfl with e | e
    · rw [a1.2 e]; rfl
    · rw [decide_eq_true e.symm]; simp
  | false =>
    rw [h3] at a3
    have n1 : Nat.testBit (mk v) x = false := by
      cases hh : Nat.testBit (mk v) x with
      | false => rfl
      | true => exact absurd (a3.2 (.inl (a1.1 hh))) (by decide)
    have n3 : ¬ q = x := fun e => absurd (a3.2 (.inr e.symm)) (by decide)
    rw [n1, decide_eq_false n3]
    rfl
theorem c_pick {K : fM} {S : Sc} (hS : S.ok) (hK : SC K S) {w : Nat → Int} (hw1 : ∀ i, 1 ≤ w i) {sum Hm : Int} (h0 : 0 ≤ Hm) (h1 : Hm ≤ 1440) (h61 : ∀ m, m < 2 ^ S.n → K 61 m = wtm w m S.n) (hL : ∀ rest i, rest < 2 ^ S.n → i < S.n → Nat.testBit rest i = false → LQ S Hm (tab62 K) rest i) (h55 : ∀ i, i < S.n → K 55 i = S.r i) (hex : ∃ t, Gd S w sum Hm t) : ∃ K' v, s_X7_pickOrder K sum = some ((), K') ∧ Gd S w sum Hm v ∧ (∀ x, Gd S w sum Hm x → lxl v x) ∧ K' 54 15 = v.length ∧ (∀ j, j < v.length → K' 66 j = S.r (nth v j)) ∧ (∀ a, a ≠ 66 → a ≠ 54 → K' a = K a) ∧ ∀ f, f ≠ 15 → K' 54 f = K 54 f := by
  have hn := hS.2.1
  have E0 := E_bd hS
  have p512 : 2 ^ S.n ≤ 2 ^ 9 := Nat.pow_le_pow_right (n := 2) (by decide) hn
  have loop : ∀ (d : Nat) (v : List Nat) (Q : fM), v.length + d = S.n → v.Nodup → (∀ q ∈ v, q < S.n) → PI S w sum Hm v → (∀ a, a ≠ 66 → a ≠ 54 → Q a = K a) → (∀ f, f ≠ 15 → Q 54 f = K 54 f) → Q 54 15 = v.length → (∀ j, j < v.length → Q 66 j = S.r (nth v j)) → ∃ K' u, fLp (fun s : Int × Int × Int × Int × fM => s_X7_pickOrder_b24 s.2.2.2.2 sum s.1 s.2.1 s.2.2.1 s.2.2.2.1) (((mk v : Nat) : Int), (((run S (p0 S) v).1 : Nat) : Int), (run S (p0 S) v).2, (v.length : Int), Q) = some (.inl K') ∧ Gd S w sum Hm u ∧ (∀ x, Gd S w sum Hm x → lxl u x) ∧ K' 54 15 = u.length ∧ (∀ j, j < u.length → K' 66 j = S.r (nth u j)) ∧ (∀ a, a ≠ 66 → a ≠ 54 → K' a = K a) ∧ ∀ f, f ≠ 15 → K' 54 f = K 54 f := by
    intro d
    induction d with
    | zero =>
      intro v Q hd hv hvn hp r1 r2 r3 r4
      have h17 : Q 54 17 = (S.n : Int) := by rw [r2 17 (by decide)]; exact hK.2.1.2.1
      obtain ⟨g1, g2⟩ := PI_end hp (fun t ht => by
        have := set_len ht.1 ht.2.1
        rw [List.length_append] at this
        exact List.length_eq_zero_iff.1 (by omega))
      refine ⟨Q, v, ?_, g1, g2, r3, r4, r1, r2⟩
      rw [fLp_eq]
      show (s_X7_pickOrder_b24 Q sum ((mk v : Nat) : Int) _ _ (v.length : Int)).bind _ = _
      unfold s_X7_pickOrder_b24
      rw [h17, if_pos (by omega)]
      rfl
    | succ d ih =>
      intro v Q hd hv hvn hp r1 r2 r3 r4
      have h17 : Q 54 17 = (S.n : Int) := by rw [r2 17 (by decide)]; exact hK.2.1.2.1
      have hmv := mk_lt hvn
      have q61 : Q 61 (mk v) = wl w v := by rw [r1 61 (by decide) (by decide), h61 _ hmv, ← wl_wtm v _ hmv (mk_set hv)]
      by_cases hs : sum ≤ wl w v
      · obtain ⟨g1, g2⟩ := PI_end hp (fun t ht => by
          have h3 := ht.2.2.1
          rw [wl_app] at h3
          have := wl_nn hw1 t
          exact List.length_eq_zero_iff.1 (by omega))
        refine ⟨Q, v, ?_, g1, g2, r3, r4, r1, r2⟩
        rw [fLp_eq]
        show (s_X7_pickOrder_b24 Q sum ((mk v : Nat) : Int) _ _ (v.length : Int)).bind _ = _
        unfold s_X7_pickOrder_b24
        rw [h17, if_neg (by omega), if_pos (by omega), show ((mk v : Nat) : Int).toNat = mk v from rfl, q61, if_pos hs]
        rfl
      · have hQ : SC Q S := by
          obtain ⟨k1, ⟨k2, k3, k4⟩, k5, k6⟩ := hK
          refine ⟨fun k a b => ?_, ⟨fun i hi => ?_, ?_, ?_⟩, ?_, ?_⟩
          · show Q k = _
            rw [r1 k (by omega) (by omega)]
            exact k1 k a b
          · rw [r1 56 (by decide) (by decide), r1 57 (by decide) (by decide), r1 58 (by decide) (by decide), r1 59 (by decide) (by decide)]
            exact k2 i hi
          · rw [r2 17 (by decide)]; exact k3
          · rw [r2 18 (by decide)]; exact k4
          · rw [r1 56 (by decide) (by decide)]; exact k5
          · rw [r1 57 (by decide) (by decide)]; exact k6
        have h61Q : ∀ m, m < 2 ^ S.n → Q 61 m = wtm w m S.n := fun m hm => by rw [r1 61 (by decide) (by decide)]; exact h61 m hm
        have htab : tab62 Q = tab62 K := by
          funext m l
          unfold tab62
          rw [r1 62 (by decide) (by decide)]
        have hLQ : ∀ rest i, rest < 2 ^ S.n → i < S.n → Nat.testBit rest i = false → LQ S Hm (tab62 Q) rest i := by rw [htab]; exact hL
        have hpv := okP_r hS v (p0 S) (okP_0 hS) hvn
        have hpb : 0 ≤ (run S (p0 S) v).2 ∧ (run S (p0 S) v).2 ≤ 1440 := by
          obtain ⟨t, ht⟩ := hp.1
          have h4 := ht.2.2.2
          unfold hm at h4
          rw [run_app] at h4
          have hh := home_run hS h1 t _ hpv (fun q hq => ht.2.1 q (List.mem_append_right _ hq)) h4
          have hw9 := wy_bd hS hpv.1 (.inr rfl : S.at 9)
          unfold hmt at hh
          rcases hpv.2 with e | e <;> omega
        -- there is a next one
        have hnx : ∃ q, q < S.n ∧ ∃ t, Gd S w sum Hm (v ++ q :: t) := by
          obtain ⟨t, ht⟩ := hp.1
          cases t with
          | nil =>
            rw [List.append_nil] at ht
            have := ht.2.2.1
            omega
          | cons q t => exact ⟨q, ht.2.1 q (List.mem_append_right _ List.mem_cons_self), t, ht⟩
        obtain ⟨q, hq, hqt, hql⟩ := first_of S.n hnx
        have nx := fun i (hi : i < S.n) => nx_iff (K := Q) hS (sum := sum) h0 h1 h61Q hLQ hv hvn hi
        have hfirst := c_nxt hS hQ hmv hpv.1 hpb.1 hpb.2 sum hq ((nx q hq).2 hqt) (fun i hi h => hql i hi ((nx i (by omega)).1 h))
        have hwb := wy_bd hS hpv.1 (.inl hq : S.at q)
        have hrs : run S (p0 S) (v ++ [q]) = (q, dn S q ((run S (p0 S) v).2 + wy S (run S (p0 S) v).1 q)) := run_snoc S (p0 S) q v
        obtain ⟨tq, htq⟩ := hqt
        obtain ⟨nd1, nd2, nd3⟩ := nd_inv htq.1
        have hqv : q ∉ v := fun e => nd3 q e List.mem_cons_self
        have hPI2 : PI S w sum Hm (v ++ [q]) := by
          refine ⟨⟨tq, by rw [List.append_assoc]; exact htq⟩, fun x hx => ?_⟩
          rcases hp.2 x hx with ⟨t, e⟩ | h
          · cases t with
            | nil =>
              rw [List.append_nil] at e
              subst e
              have := hx.2.2.1
              omega
            | cons q' t' =>
              subst e
              have hq' : q' < S.n := hx.2.1 q' (List.mem_append_right _ List.mem_cons_self)
              have hle : ¬ q' < q := fun hlt => hql q' hlt ⟨t', hx⟩
              by_cases e : q' = q
              · subst e
                exact .inl ⟨t', by rw [List.append_assoc]; rfl⟩
              · refine .inr fun t => ?_
                rw [List.append_assoc]
                exact lxl_lt v t t' (by omega)
          · refine .inr fun t => ?_
            rw [List.append_assoc]
            exact h ([q] ++ t)
        have hlen : (v ++ [q]).length = v.length + 1 := by rw [List.length_append]; rfl
        obtain ⟨K', u, k1, k2⟩ := ih (v ++ [q]) (fup (fup Q 66 v.length (S.r q)) 54 15 ((v.length : Int) + 1)) (by omega) (nd_app hv (List.nodup_cons.2 ⟨by simp, List.nodup_nil⟩) (fun x hx e => hqv (by rw [← List.mem_singleton.1 e]; exact hx))) (fun x hx => by
            rcases List.mem_append.1 hx with e | e
            · exact hvn x e
            · rw [List.mem_singleton.1 e]; exact hq) hPI2 (fun a ha hb => by rw [fup_ne hb, fup_ne ha, r1 a ha hb]) (fun f hf => by rw [fup_eq, upd1_ne hf, fup_ne (by decide), r2 f hf]) (by rw [fup_eq, upd1_at, hlen]; simp) (fun j hj => by
            rw [fup_ne (by decide), fup_eq]
            by_cases e : j = v.length
            · subst e
              rw [upd1_at, nth_n]
            · rw [upd1_ne e, nth_l v [q] j (by omega)]
              exact r4 j (by omega))
        refine ⟨K', u, ?_, k2⟩
        rw [← k1, fLp_eq, mk_snoc, hrs, hlen]
        show (s_X7_pickOrder_b24 Q sum ((mk v : Nat) : Int) (((run S (p0 S) v).1 : Nat) : Int) (run S (p0 S) v).2 (v.length : Int)).bind _ = _
        have ev : s_X7_pickOrder_b24 Q sum ((mk v : Nat) : Int) (((run S (p0 S) v).1 : Nat) : Int) (run S (p0 S) v).2 (v.length : Int) = some (.inl (((mk v ||| 2 ^ q : Nat) : Int), (q : Int), dn S q ((run S (p0 S) v).2 + wy S (run S (p0 S) v).1 q), (v.length : Int) + 1, fup (fup Q 66 v.length (S.r q)) 54 15 ((v.length : Int) + 1))) := by
          unfold s_X7_pickOrder_b24
          rw [h17, if_neg (by omega), if_pos (by omega), show ((mk v : Nat) : Int).toNat = mk v from rfl, q61, if_neg hs, hfirst, Option.bind_some, if_pos (by omega), c_minutes hS hQ hpv.1 (.inl hq), Option.bind_some, if_pos (by unfold fin; omega), c_doneAt hS hQ hq (by omega) (by omega), Option.bind_some, if_pos (by omega), if_pos (by unfold fin; omega), b_or9 (mk v) (by omega) q (by omega), show (q : Int).toNat = q from rfl, show (v.length : Int).toNat = v.length from rfl, r1 55 (by decide) (by decide), h55 q hq]
        rw [ev]
        rfl
  have hn0 : PI S w sum Hm [] := ⟨hex, fun x _ => .inl ⟨x, rfl⟩⟩
  obtain ⟨K', u, k1, k2, k3, k4, k5, k6, k7⟩ := loop S.n [] (fup K 54 15 0) (by simp) List.nodup_nil (fun q hq => absurd hq (by simp)) hn0 (fun a _ hb => fup_ne hb) (fun f hf => by rw [fup_eq, upd1_ne hf]) (by rw [fup_eq, upd1_at]; rfl) (fun j hj => absurd hj (by simp))
  refine ⟨K', u, ?_, k2, k3, k4, k5, k6, k7⟩
  unfold s_X7_pickOrder s_X7_pickOrder_l24
  rw [CR_r hK.1 8 (by decide) (by decide)]
  show (fLp (fun s : Int × Int × Int × Int × fM => s_X7_pickOrder_b24 s.2.2.2.2 sum s.1 s.2.1 s.2.2.1 s.2.2.2.1) (((mk [] : Nat) : Int), (((run S (p0 S) []).1 : Nat) : Int), (run S (p0 S) []).2, (([] : List Nat).length : Int), fup K 54 15 0)).bind _ = _
  rw [k1]
  rfl
theorem c_round {K D : fM} (hc : CR K 0 D) (hw : WF D) {d : Int} (hd : 0 ≤ d ∧ d < 364) {n : Nat} (hn : n ≤ 9) {b : Nat → Int} (hb : ∀ i, i < n → K 55 i = b i ∧ 0 ≤ b i ∧ b i < D 4 13) {t : Int} (ht : 0 ≤ t ∧ t < D 4 14) : ∃ K' v, s_X7_best K (n : Int) t d = some (wl (fun i => wgV D (srt b (n - 1) i) d) v, K') ∧ Opt (Sc.to D d (srt b (n - 1)) n t) (fun i => wgV D (srt b (n - 1) i) d) v ∧ K' 54 15 = v.length ∧ K' 54 16 = hm (Sc.to D d (srt b (n - 1)) n t) v ∧ ∀ j, j < v.length → K' 66 j = srt b (n - 1) (nth v j) := by
  obtain ⟨K1, s1, s2, s3⟩ := c_sort (M := K) hn
  have hcK1 : CR K1 0 D := fun k h1 h2 => by
    show K1 k = _
    rw [s3 k (by omega)]
    exact hc k h1 h2
  have hr1 : ∀ i, i < n → K1 55 i = srt b (n - 1) i ∧ 0 ≤ srt b (n - 1) i ∧ srt b (n - 1) i < D 4 13 := fun i hi => by
    refine ⟨?_, srt_all (C := fun x => 0 ≤ x ∧ x < D 4 13) (fun i hi => (hb i hi).2) (n - 1) (by omega) i hi⟩
    rw [s2]
    exact srt_congr (fun i hi => (hb i hi).1) (n - 1) (by omega) i hi
  generalize srt b (n - 1) = r at hr1 ⊢
  have hrr : ∀ i, i < n → 0 ≤ r i ∧ r i < D 4 13 := fun i hi => (hr1 i hi).2
  have w1 : ∀ i, 1 ≤ (fun i => wgV D (r i) d) i := fun i => (wgV_bd D (r i) d).1
  obtain ⟨K2, b1, b2⟩ := c_place hcK1 hw hn (r := r) hr1 hd.1 hd.2
  have fb : fSame s_X7_place_mods K1 K2 := s_X7_place_fr b1
  have hcK2 : CR K2 0 D := CR_same fb (by decide) hcK1
  obtain ⟨K3, d1, d2⟩ := c_weigh hcK2 hw hd hn (r := r) (fun i hi => ⟨by rw [fs_row fb 55 (by decide)]; exact (hr1 i hi).1, hrr i hi⟩) b2.2.1
  have fd : fSame s_X7_weigh_mods K2 K3 := s_X7_weigh_fr d1
  have hcK3 : CR K3 0 D := CR_same fd (by decide) hcK2
  have hpK3 : PlC K3 D d r n := PlC_row b2 (fs_row fd 54 (by decide)) (fs_row fd 56 (by decide)) (fs_row fd 57 (by decide)) (fs_row fd 58 (by decide)) (fs_row fd 59 (by decide))
  obtain ⟨K4, g1, g2, g3, g4⟩ := c_homes hcK3 hw hd hn hrr hpK3 ht.1 ht.2
  have fg : fSame s_X7_fillHomes_mods K3 K4 := s_X7_fillHomes_fr g1
  have hS := to_ok hw hd hn hrr ht.1 ht.2
  have h61 : ∀ m, m < 2 ^ n → K4 61 m = wtm (fun i => wgV D (r i) d) m n := fun m hm => by rw [fs_row fg 61 (by decide)]; exact d2 m hm
  have h55 : ∀ i, i < n → K4 55 i = r i := fun i hi => by rw [fs_row fg 55 (by decide), fs_row fd 55 (by decide), fs_row fb 55 (by decide)]; exact (hr1 i hi).1
  have sn : (Sc.to D d r n t).n = n := rfl
  have sr : (Sc.to D d r n t).r = r := rfl
  have sD : (Sc.to D d r n t).D = D := rfl
  generalize Sc.to D d r n t = S at g2 g3 g4 hS sn sr sD ⊢
  subst sn sr sD
  have E0 := E_bd hS
  have p512 : 2 ^ S.n ≤ 2 ^ 9 := Nat.pow_le_pow_right (n := 2) (by decide) hn
  have p1 : 1 ≤ 2 ^ S.n := Nat.one_le_two_pow
  obtain ⟨c, c1, c2, c3, c4⟩ := c_chosen (K := K4) hn g2.2.1.2.2 (by rw [g4.1]; omega)
  obtain ⟨hcH, hcL⟩ := H_ok hS g3 g4 c2
  have hHb : 0 ≤ K4 63 c ∧ K4 63 c ≤ S.D 8 5 ∧ ∃ s, IsSet s c ∧ hm S s = K4 63 c := by
    rcases hcH with e | ⟨e, s, e1, e2⟩
    · omega
    · refine ⟨?_, e, s, e1, e2⟩
      have hok := okP_r hS s (p0 S) (okP_0 hS) (isSet_lt e1 c2)
      have hw9 := wy_bd hS hok.1 (.inr rfl : S.at 9)
      have h2 := hok.2
      rw [← e2]
      unfold hmt
      rcases h2 with f | f <;> omega
  obtain ⟨hH0, hHE, s0, hs0, hs0h⟩ := hHb
  obtain ⟨Hm, hHm⟩ : ∃ Hm, Hm = K4 63 c := ⟨_, rfl⟩
  obtain ⟨K5, hK5⟩ : ∃ K5, K5 = fup K4 54 16 (K4 63 c) := ⟨_, rfl⟩
  have k5a : ∀ a, a ≠ 54 → K5 a = K4 a := fun a ha => by rw [hK5, fup_ne ha]
  have k5f : ∀ f, f ≠ 16 → K5 54 f = K4 54 f := fun f hf => by rw [hK5, fup_eq, upd1_ne hf]
  have k516 : K5 54 16 = Hm := by rw [hK5, fup_eq, upd1_at, hHm]
  have hSC5 : SC K5 S := by
    obtain ⟨k1, ⟨k2, k3, k4⟩, k5, k6⟩ := g2
    refine ⟨fun k a b => ?_, ⟨fun i hi => ?_, ?_, ?_⟩, ?_, ?_⟩
    · show K5 k = _
      rw [k5a k (by omega)]
      exact k1 k a b
    · rw [k5a 56 (by decide), k5a 57 (by decide), k5a 58 (by decide), k5a 59 (by decide)]
      exact k2 i hi
    · rw [k5f 17 (by decide)]; exact k3
    · rw [k5f 18 (by decide)]; exact k4
    · rw [k5a 56 (by decide)]; exact k5
    · rw [k5a 57 (by decide)]; exact k6
  rw [← hHm] at hH0 hHE hs0h c3 c4
  obtain ⟨K6, l1, l2, l3⟩ := c_late hS hSC5 hH0 (show Hm ≤ 1440 by omega)
  have hSC6 : SC K6 S := SC_rows hSC5 (fun a h _ => l3 a h)
  have h616 : ∀ m, m < 2 ^ S.n → K6 61 m = wtm (fun i => wgV S.D (S.r i) d) m S.n := fun m hm => by rw [l3 61 (by decide), k5a 61 (by decide)]; exact h61 m hm
  have hs0n := isSet_lt hs0 c2
  obtain ⟨K7, v, v1, v2, v3, v4, v5, v6, v7⟩ := c_pick hS hSC6 (w := fun i => wgV S.D (S.r i) d) w1 (sum := K4 61 c) hH0 (by omega) h616 l2 (fun i hi => by rw [l3 55 (by decide), k5a 55 (by decide)]; exact h55 i hi) ⟨s0, hs0.1, hs0n, by rw [h61 c c2]; exact wl_wtm s0 c c2 hs0, by omega⟩
  have hv3 : wl (fun i => wgV S.D (S.r i) d) v = K4 61 c := v2.2.2.1
  have cmp : ∀ x, Gs S x → wl (fun i => wgV S.D (S.r i) d) x < K4 61 c ∨ (wl (fun i => wgV S.D (S.r i) d) x = K4 61 c ∧ Hm ≤ hm S x) := by
    intro x hx
    have hmx := mk_lt hx.2.1
    have hset := mk_set hx.1
    have hle := (H_ok hS g3 g4 hmx).2 x hset hx.2.2
    have hx3 := hx.2.2
    have hle' : K4 63 (mk x) ≤ hm S x := hle
    have := c4 (mk x) hmx (by omega)
    rw [h61 (mk x) hmx, ← wl_wtm x _ hmx hset] at this
    rcases this with e | ⟨e1, e2⟩
    · exact .inl e
    · exact .inr ⟨e1, by omega⟩
  have hvG : Gs S v := ⟨v2.1, v2.2.1, by have := v2.2.2.2; omega⟩
  have hvh : hm S v = Hm := by
    have h1 := v2.2.2.2
    rcases cmp v hvG with e | ⟨-, e⟩ <;> omega
  have h7c : K7 61 c = K4 61 c := by rw [v6 61 (by decide) (by decide), l3 61 (by decide), k5a 61 (by decide)]
  have h6c : K6 61 c = K4 61 c := by rw [l3 61 (by decide), k5a 61 (by decide)]
  refine ⟨K7, v, ?_, ⟨hvG, fun x hx => ?_⟩, v4, ?_, v5⟩
  · unfold s_X7_best
    rw [s1, Option.bind_some]
    show (s_X7_place K1 (S.n : Int) d).bind _ = _
    rw [b1, Option.bind_some]
    show (s_X7_weigh K2 d).bind _ = _
    rw [d1, Option.bind_some]
    show (s_X7_fillHomes K3 t).bind _ = _
    rw [g1, Option.bind_some]
    show (s_X7_best_l27 K4 (0, 1)).bind _ = _
    rw [c1, Option.bind_some]
    have g512 : 0 ≤ (c : Int) ∧ (c : Int) < 512 := by omega
    rw [if_pos g512, show (c : Int).toNat = c from rfl]
    show (s_X7_fillLatest (fup K4 54 16 (K4 63 c)) (K4 63 c)).bind _ = _
    rw [← hK5, ← hHm, l1, Option.bind_some, if_pos g512]
    show (s_X7_pickOrder K6 (K6 61 c)).bind _ = _
    rw [h6c, v1, Option.bind_some, if_pos g512]
    show some (K7 61 c, K7) = _
    rw [h7c, hv3]
  · unfold bt
    rw [hv3, hvh]
    rcases cmp x hx with e | ⟨e1, e2⟩
    · exact .inl e
    · refine .inr ⟨e1, ?_⟩
      by_cases h : Hm < hm S x
      · exact .inl h
      · exact .inr ⟨by omega, v3 x ⟨hx.1, hx.2.1, e1, by omega⟩⟩
  · rw [v7 16 (by decide), l3 54 (by decide), k516, hvh]
