/-! ===== festival: the reference ===== -/
def flt (a : Nat) : List Nat → List Nat
  | [] => []
  | q :: s => if Nat.testBit a q then q :: flt a s else flt a s
theorem flt_m (a : Nat) : ∀ (s : List Nat) (x : Nat), x ∈ flt a s ↔ x ∈ s ∧ Nat.testBit a x = true
  | [], x => by
    show x ∈ ([] : List Nat) ↔ _
    simp
  | q :: s, x => by
    have ih := flt_m a s x
    unfold flt
    by_cases h : Nat.testBit a q = true
    · rw [if_pos h, List.mem_cons, List.mem_cons, ih]
      constructor
      · rintro (e | e)
        · exact ⟨.inl e, by rw [e]; exact h⟩
        · exact ⟨.inr e.1, e.2⟩
      · rintro ⟨e | e, e2⟩
        · exact .inl e
        · exact .inr ⟨e, e2⟩
    · rw [if_neg h, ih, List.mem_cons]
      constructor
      · rintro ⟨e, e2⟩
        exact ⟨.inr e, e2⟩
      · rintro ⟨e | e, e2⟩
        · rw [e] at e2; exact absurd e2 h
        · exact ⟨e, e2⟩
theorem flt_n (a : Nat) : ∀ s : List Nat, s.Nodup → (flt a s).Nodup
  | [], _ => List.nodup_nil
  | q :: s, h => by
    rw [List.nodup_cons] at h
    unfold flt
    split
    · exact List.nodup_cons.2 ⟨fun e => h.1 ((flt_m a s q).1 e).1, flt_n a s h.2⟩
    · exact flt_n a s h.2
theorem flt_home {S : Sc} (hS : S.ok) (a : Nat) {E : Int} (hE : E ≤ 1440) : ∀ (s : List Nat) (p p' : Nat × Int), okP S p → S.at p'.1 → 0 ≤ p'.2 → (∀ q ∈ s, q < S.n) → (∀ x, S.at x → p'.2 + wy S p'.1 x ≤ p.2 + wy S p.1 x) → hmt S (run S p s) ≤ E → hmt S (run S p' (flt a s)) ≤ E
  | [], p, p', hp, hp', h0, hs, hle, h => by
    have h1 : p.2 + wy S p.1 9 ≤ E := h
    have := hle 9 (.inr rfl)
    show p'.2 + wy S p'.1 9 ≤ E
    omega
  | q :: s, p, p', hp, hp', h0, hs, hle, h => by
    have hq := hs q List.mem_cons_self
    have hsn : ∀ x ∈ s, x < S.n := fun x hx => hs x (List.mem_cons_of_mem _ hx)
    have hok := okP_s hS hp hq
    have hh := home_run hS hE s (stp S p q) hok hsn h
    have w9 := wy_bd hS (.inl hq : S.at q) (.inr rfl : S.at 9)
    have hh' : dn S q (p.2 + wy S p.1 q) + wy S q 9 ≤ E := hh
    have hp0 : 0 ≤ p.2 := by rcases hp.2 with e | e <;> omega
    have hwq := wy_bd hS hp.1 (.inl hq : S.at q)
    have hwq' := wy_bd hS hp' (.inl hq : S.at q)
    have hdn : p.2 + wy S p.1 q + 10 ≤ dn S q (p.2 + wy S p.1 q) := by
      rcases dn_bd hS hq (show 0 ≤ p.2 + wy S p.1 q by omega) with f | f <;> omega
    unfold flt
    by_cases hb : Nat.testBit a q = true
    · rw [if_pos hb]
      have hm := dn_mono hS hq (t := p'.2 + wy S p'.1 q) (t' := p.2 + wy S p.1 q) (by omega) (hle q (.inl hq))
      have h00 : 0 ≤ dn S q (p'.2 + wy S p'.1 q) := by rcases dn_bd hS hq (show 0 ≤ p'.2 + wy S p'.1 q by omega) with f | f <;> omega
      refine flt_home hS a hE s (stp S p q) (stp S p' q) hok (.inl hq) h00 hsn (fun x hx => ?_) h
      show dn S q (p'.2 + wy S p'.1 q) + wy S q x ≤ dn S q (p.2 + wy S p.1 q) + wy S q x
      omega
    · rw [if_neg hb]
      refine flt_home hS a hE s (stp S p q) p' hok hp' h0 hsn (fun x hx => ?_) h
      have h1 := hle x hx
      have h2 := wy_tri hS p.1 q x
      show p'.2 + wy S p'.1 x ≤ dn S q (p.2 + wy S p.1 q) + wy S q x
      omega
theorem feas_sub {S : Sc} (hS : S.ok) {a b : Nat} (hb : b < 2 ^ S.n) (h : sub a b) (hF : Feas S b) : Feas S a := by
  have E0 := E_bd hS
  obtain ⟨s, h1, h2⟩ := hF
  have hsn := isSet_lt h1 hb
  refine ⟨flt a s, ⟨flt_n a s h1.1, fun x => ?_⟩, ?_⟩
  · rw [flt_m, h1.2 x]
    exact ⟨fun e => e.2, fun e => ⟨h x e, e⟩⟩
  · exact flt_home hS a (by omega) s (p0 S) (p0 S) (okP_0 hS) (.inr rfl) (by show 0 ≤ S.D 8 4; omega) hsn (fun x _ => Int.le_refl _) h2
theorem df_sub (s a : Nat) : sub (df s a) s := fun x hx => by
  rw [df_t, Bool.and_eq_true] at hx
  exact hx.1
theorem cvr_0 {n T : Nat} {F : Nat → Nat → Prop} {u : Nat} : Cvr n F 0 T u ↔ u = 0 := by
  constructor
  · rintro ⟨A, _, h2⟩
    refine zero_bits fun x => ?_
    cases hb : Nat.testBit u x with
    | false => rfl
    | true =>
      obtain ⟨t, _, h3, _⟩ := (h2 x).1 hb
      rw [Nat.zero_testBit] at h3
      exact absurd h3 (by decide)
  · intro h
    subst h
    refine ⟨fun _ => 0, fun t _ h => by rw [Nat.zero_testBit] at h; exact absurd h (by decide), fun x => ?_⟩
    rw [Nat.zero_testBit]
    exact ⟨fun e => absurd e (by decide), fun ⟨t, _, h, _⟩ => by rw [Nat.zero_testBit] at h; exact absurd h (by decide)⟩
theorem cvr_rec {n T : Nat} {F : Nat → Nat → Prop} (F0 : ∀ t, t < T → F t 0) (Fs : ∀ t a b, t < T → b < 2 ^ n → sub a b → F t b → F t a) {team t0 u : Nat} (ht : t0 < T) (hb : Nat.testBit team t0 = true) (hu : u < 2 ^ n) : Cvr n F team T u ↔ u = 0 ∨ (∃ a, a ≠ 0 ∧ sub a u ∧ F t0 a ∧ Cvr n F (mw team t0) T (df u a)) ∨ Cvr n F (mw team t0) T u := by
  constructor
  · rintro ⟨A, h1, h2⟩
    have hA := h1 t0 ht hb
    by_cases ha : A t0 = 0
    · refine .inr (.inr ⟨A, fun t h3 h4 => h1 t h3 (mw_sub team t0 t h4), fun x => ?_⟩)
      rw [h2 x]
      constructor
      · rintro ⟨t, e1, e2, e3⟩
        have : t0 ≠ t := fun e => by rw [← e, ha, Nat.zero_testBit] at e3; exact absurd e3 (by decide)
        exact ⟨t, e1, by rw [mw_t, e2, decide_eq_false this]; rfl, e3⟩
      · rintro ⟨t, e1, e2, e3⟩
        exact ⟨t, e1, mw_sub team t0 t e2, e3⟩
    · refine .inr (.inl ⟨A t0, ha, fun x hx => (h2 x).2 ⟨t0, ht, hb, hx⟩, hA.1, fun t => df (A t) (A t0), fun t h3 h4 => ?_, fun x => ?_⟩)
      · have := h1 t h3 (mw_sub team t0 t h4)
        exact ⟨Fs t _ _ h3 this.2 (df_sub _ _) this.1, df_lt this.2⟩
      · rw [df_t, Bool.and_eq_true, h2 x]
        constructor
        · rintro ⟨⟨t, e1, e2, e3⟩, e4⟩
          have : t0 ≠ t := fun e => by rw [e, e3] at e4; exact absurd e4 (by decide)
          refine ⟨t, e1, by rw [mw_t, e2, decide_eq_false this]; rfl, ?_⟩
          rw [df_t, e3, e4]
          rfl
        · rintro ⟨t, e1, e2, e3⟩
          rw [df_t, Bool.and_eq_true] at e3
          exact ⟨⟨t, e1, mw_sub team t0 t e2, e3.1⟩, e3.2⟩
  · have new : ∀ (a v : Nat), F t0 a → a < 2 ^ n → Cvr n F (mw team t0) T v → (∀ x, Nat.testBit u x = true ↔ Nat.testBit a x = true ∨ Nat.testBit v x = true) → Cvr n F team T u := by
      rintro a v hF ha ⟨A, h1, h2⟩ hux
      refine ⟨fun t => if t = t0 then a else A t, fun t h3 h4 => ?_, fun x => ?_⟩
      · by_cases e : t = t0
        · subst e
          show F t (if t = t then a else A t) ∧ (if t = t then a else A t) < 2 ^ n
          rw [if_pos rfl]
          exact ⟨hF, ha⟩
        · show F t (if t = t0 then a else A t) ∧ (if t = t0 then a else A t) < 2 ^ n
          rw [if_neg e]
          exact h1 t h3 (by rw [mw_t, h4, decide_eq_false (fun e2 => e e2.symm)]; rfl)
      · rw [hux x, h2 x]
        constructor
        · rintro (e | ⟨t, e1, e2, e3⟩)
          · refine ⟨t0, ht, hb, ?_⟩
            show Nat.testBit (if t0 = t0 then a else A t0) x = true
            rw [if_pos rfl]
            exact e
          · have : t ≠ t0 := fun e => by rw [e, mw_no] at e2; exact absurd e2 (by decide)
            refine ⟨t, e1, mw_sub team t0 t e2, ?_⟩
            show Nat.testBit (if t = t0 then a else A t) x = true
            rw [if_neg this]
            exact e3
        · rintro ⟨t, e1, e2, e3⟩
          by_cases e : t = t0
          · subst e
            have e3' : Nat.testBit (if t = t then a else A t) x = true := e3
            rw [if_pos rfl] at e3'
            exact .inl e3'
          · have e3' : Nat.testBit (if t = t0 then a else A t) x = true := e3
            rw [if_neg e] at e3'
            exact .inr ⟨t, e1, by rw [mw_t, e2, decide_eq_false (fun e2 => e e2.symm)]; rfl, e3'⟩
    rintro (h | ⟨a, h1, h2, h3, h4⟩ | h)
    · subst h
      refine ⟨fun _ => 0, fun t h3 _ => ⟨F0 t h3, Nat.two_pow_pos n⟩, fun x => ?_⟩
      rw [Nat.zero_testBit]
      exact ⟨fun e => absurd e (by decide), fun ⟨t, _, _, h⟩ => by
        have h' : Nat.testBit 0 x = true := h
        rw [Nat.zero_testBit] at h'
        exact absurd h' (by decide)⟩
    · refine new a (df u a) h3 (sub_lt h2 hu) h4 (fun x => ?_)
      rw [df_t, Bool.and_eq_true]
      constructor
      · intro e
        cases hx : Nat.testBit a x with
        | true => exact .inl rfl
        | false => exact .inr ⟨e, rfl⟩
      · rintro (e | e)
        · exact h2 x e
        · exact e.1
    · refine new 0 u (F0 t0 ht) (Nat.two_pow_pos n) h (fun x => ?_)
      rw [Nat.zero_testBit]
      exact ⟨fun e => .inr e, fun e => e.resolve_left (by decide)⟩
theorem m_fsets {N D : fM} (hmr : MRh N 124 0 D) (hw : WF D) {d : Int} (hd : 0 ≤ d ∧ d < 364) {r : Nat → Int} {n : Nat} (hn : n ≤ 9) (hr : ∀ i, i < n → 0 ≤ r i ∧ r i < D 4 13) (hp : PlM N D d r n) {T : Nat} (hT : D 4 14 = T) (l2 : Int) : ∃ N', s_X12_festival_l35 l2 (0, N) = some N' ∧ MRh N' 124 0 D ∧ PlM N' D d r n ∧ (∀ t, t < T → CanR N' t (Sc.to D d r n (t : Int))) ∧ N' 122 2 = N 122 2 := by
  have p512 : 2 ^ n ≤ 2 ^ 9 := Nat.pow_le_pow_right (n := 2) (by decide) hn
  unfold s_X12_festival_l35
  refine fLp_ex (P := fun i s => s.1 = (i : Int) ∧ MRh s.2 124 0 D ∧ PlM s.2 D d r n ∧ (∀ t, t < i → CanR s.2 t (Sc.to D d r n (t : Int))) ∧ s.2 122 2 = N 122 2) T ⟨rfl, hmr, hp, fun t h => by omega, rfl⟩ (fun i s hi hp => ?_) (fun s hp => ?_)
  · obtain ⟨z, Q⟩ := s
    obtain ⟨q1, q2, q3, q4, q5⟩ := hp
    simp only at q1 q2 q3 q4 q5
    subst q1
    obtain ⟨B, b1, b2, b3, b4⟩ := m_sets q2 hw hd hn hr q3 (t := i) (by omega)
    have fb : fSame s_X12_sets_mods Q B := s_X12_sets_fr b1
    refine ⟨((i : Int) + 1, B), ?_, by simp, b2.1, b2.2.1, fun t ht => ?_, ?_⟩
    · show s_X12_festival_b35 Q l2 (i : Int) = _
      unfold s_X12_festival_b35
      rw [(mh_n q2).2.1, if_neg (by omega), b1, Option.bind_some, if_pos (by unfold fin; have := hw.1.2.1; omega)]
    · by_cases e : t = i
      · subst e; exact b3
      · intro m hm
        have hm' : m < 2 ^ n := hm
        show (_ → B 143 (512 * t + m) = 1) ∧ (_ → B 143 (512 * t + m) = 0)
        rw [b4 _ (by omega)]
        exact q4 t (by omega) m hm
    · show B 122 2 = _
      rw [fs_at fb 122 2 (by decide), q5]
  · obtain ⟨z, Q⟩ := s
    obtain ⟨q1, q2, q3, q4, q5⟩ := hp
    simp only at q1 q2 q3 q4 q5
    subst q1
    refine ⟨Q, ?_, q2, q3, q4, q5⟩
    show s_X12_festival_b35 Q l2 (T : Int) = _
    unfold s_X12_festival_b35
    rw [(mh_n q2).2.1, hT, if_pos (Int.le_refl _)]
def HvR (N : fM) (n T : Nat) (F : Nat → Nat → Prop) (team u : Nat) : Prop := (Cvr n F team T u → N 145 (512 * team + u) = 1) ∧ (¬ Cvr n F team T u → N 145 (512 * team + u) = 0)
theorem m_low {M : fM} (l2 l3 : Int) {team : Nat} (h : team < 512) : (team = 0 → s_X12_festival_l81 M l2 l3 (team : Int) 0 = some 0) ∧ ∀ t0, t0 < 9 → Nat.testBit team t0 = true → (∀ i, i < t0 → Nat.testBit team i = false) → s_X12_festival_l81 M l2 l3 (team : Int) 0 = some (t0 : Int) := by
  unfold s_X12_festival_l81
  constructor
  · intro h0
    rw [fLp_eq]
    show (s_X12_festival_b81 M l2 l3 (team : Int) 0).bind _ = _
    unfold s_X12_festival_b81
    rw [if_pos (by omega)]
    rfl
  · intro t0 h9 h1 h2
    have hpos : team ≠ 0 := fun e => by rw [e, Nat.zero_testBit] at h1; exact absurd h1 (by decide)
    have := fLp_for (b := fun s : Int => s_X12_festival_b81 M l2 l3 (team : Int) s) (fun i => (i : Int)) t0 (e := (t0 : Int)) (fun i hi => ?_) ?_
    · exact this
    · show s_X12_festival_b81 M l2 l3 (team : Int) (i : Int) = some (.inl ((i + 1 : Nat) : Int))
      unfold s_X12_festival_b81
      rw [if_neg (by omega), b_test9 team h i (by omega), h2 i hi, if_neg (by decide), if_pos (by unfold fin; omega)]
      rfl
    · show s_X12_festival_b81 M l2 l3 (team : Int) (t0 : Int) = _
      unfold s_X12_festival_b81
      rw [if_neg (by omega), b_test9 team h t0 h9, h1, if_pos (by decide)]
/-- the subsets of u from a on -/
theorem m_subs {N : fM} {n T : Nat} (hn : n ≤ 9) (hT6 : T ≤ 6) {F : Nat → Nat → Prop} {team t0 u : Nat} (l2 l3 : Int) (ht : t0 < T) (htm : team < 2 ^ T) (hb : Nat.testBit team t0 = true) (hu : u < 2 ^ n) (hcan : ∀ m, m < 2 ^ n → (F t0 m → N 143 (512 * t0 + m) = 1) ∧ (¬ F t0 m → N 143 (512 * t0 + m) = 0)) (hhv : ∀ v, v < 2 ^ n → HvR N n T F (mw team t0) v) : ∀ (k a : Nat), a ≤ k → sub a u → (∀ c, sub c u → a < c → ¬ (F t0 c ∧ Cvr n F (mw team t0) T (df u c))) → ((∃ c, c ≠ 0 ∧ sub c u ∧ F t0 c ∧ Cvr n F (mw team t0) T (df u c)) → fLp (fun s : Int × Int => s_X12_festival_b127 N l2 l3 (team : Int) (t0 : Int) (u : Int) s.1 s.2) (0, (a : Int)) = some 1) ∧ (¬ (∃ c, c ≠ 0 ∧ sub c u ∧ F t0 c ∧ Cvr n F (mw team t0) T (df u c)) → fLp (fun s : Int × Int => s_X12_festival_b127 N l2 l3 (team : Int) (t0 : Int) (u : Int) s.1 s.2) (0, (a : Int)) = some 0) := by
  have p512 : 2 ^ n ≤ 2 ^ 9 := Nat.pow_le_pow_right (n := 2) (by decide) hn
  have p64 : 2 ^ T ≤ 2 ^ 6 := Nat.pow_le_pow_right (n := 2) (by decide) hT6
  have hpos : team ≠ 0 := fun e => by rw [e, Nat.zero_testBit] at hb; exact absurd hb (by decide)
  have hmw := (mw_f9 team (by omega) t0 (by omega))
  have end0 : ∀ s : Int, s_X12_festival_b127 N l2 l3 (team : Int) (t0 : Int) (u : Int) s 0 = some (.inr s) := fun s => by
    unfold s_X12_festival_b127
    rw [if_pos (by decide)]
  have end1 : ∀ a : Nat, s_X12_festival_b127 N l2 l3 (team : Int) (t0 : Int) (u : Int) 1 (a : Int) = some (.inr 1) := fun a => by
    unfold s_X12_festival_b127
    by_cases h : (a : Int) ≤ 0
    · rw [if_pos h]
    · rw [if_neg h, if_pos (by decide)]
  intro k
  induction k with
  | zero =>
    intro a hk ha hno
    have : a = 0 := by omega
    subst this
    have e : fLp (fun s : Int × Int => s_X12_festival_b127 N l2 l3 (team : Int) (t0 : Int) (u : Int) s.1 s.2) (0, ((0 : Nat) : Int)) = some 0 := by
      rw [fLp_eq]
      show (s_X12_festival_b127 N l2 l3 (team : Int) (t0 : Int) (u : Int) 0 0).bind _ = _
      rw [end0]
      rfl
    exact ⟨fun ⟨c, c1, c2, c3⟩ => absurd c3 (hno c c2 (by omega)), fun _ => e⟩
  | succ k ih =>
    intro a hk ha hno
    by_cases hk2 : a ≤ k
    · exact ih a hk2 ha hno
    · have hal := sub_lt ha hu
      obtain ⟨n1, n2, n3⟩ := sub_next ha (by omega)
      have hnx : fand ((a : Int) - 1) (u : Int) = (((a - 1) &&& u : Nat) : Int) := by
        rw [show (a : Int) - 1 = ((a - 1 : Nat) : Int) by omega]
        exact fand_nat (by omega) (by omega)
      have hfb : fin ((a : Int) - 1) := by unfold fin; omega
      have g1 : fin (512 * (t0 : Int)) ∧ fin (512 * (t0 : Int) + (a : Int)) ∧ (0 ≤ 512 * (t0 : Int) + (a : Int) ∧ 512 * (t0 : Int) + (a : Int) < 3072) := by unfold fin; omega
      have gi1 : (512 * (t0 : Int) + (a : Int)).toNat = 512 * t0 + a := by omega
      have hdl : df u a < 2 ^ n := df_lt hu
      have g2 : fin (512 * ((mw team t0 : Nat) : Int)) ∧ fin (512 * ((mw team t0 : Nat) : Int) + ((df u a : Nat) : Int)) ∧ (0 ≤ 512 * ((mw team t0 : Nat) : Int) + ((df u a : Nat) : Int) ∧ 512 * ((mw team t0 : Nat) : Int) + ((df u a : Nat) : Int) < 32768) := by unfold fin; omega
      have gi2 : (512 * ((mw team t0 : Nat) : Int) + ((df u a : Nat) : Int)).toNat = 512 * mw team t0 + df u a := by omega
      have ev : ∀ b : Prop, (F t0 a ∧ Cvr n F (mw team t0) T (df u a) → s_X12_festival_b127 N l2 l3 (team : Int) (t0 : Int) (u : Int) 0 (a : Int) = some (.inl (1, (((a - 1) &&& u : Nat) : Int)))) ∧ (¬ (F t0 a ∧ Cvr n F (mw team t0) T (df u a)) → s_X12_festival_b127 N l2 l3 (team : Int) (t0 : Int) (u : Int) 0 (a : Int) = some (.inl (0, (((a - 1) &&& u : Nat) : Int)))) := by
        intro _
        unfold s_X12_festival_b127 s_X12_festival_j192
        rw [if_neg (by omega), if_neg (by decide), if_neg (by omega), if_pos g1, gi1, hmw.1, fandn_nat (by omega), hnx, if_pos g2, gi2, if_pos hfb]
        by_cases hF : F t0 a
        · rw [(hcan a hal).1 hF, if_neg (by decide)]
          by_cases hC : Cvr n F (mw team t0) T (df u a)
          · rw [(hhv (df u a) hdl).1 hC, if_neg (show ¬ (1 : Int) = 0 by decide), if_pos hfb]
            exact ⟨fun _ => rfl, fun h => absurd ⟨hF, hC⟩ h⟩
          · rw [(hhv (df u a) hdl).2 hC, if_pos rfl]
            exact ⟨fun h => absurd h.2 hC, fun _ => rfl⟩
        · rw [(hcan a hal).2 hF, if_pos rfl]
          exact ⟨fun h => absurd h.1 hF, fun _ => rfl⟩
      by_cases hg : F t0 a ∧ Cvr n F (mw team t0) T (df u a)
      · have e : fLp (fun s : Int × Int => s_X12_festival_b127 N l2 l3 (team : Int) (t0 : Int) (u : Int) s.1 s.2) (0, (a : Int)) = some 1 := by
          rw [fLp_stp (b := fun s : Int × Int => s_X12_festival_b127 N l2 l3 (team : Int) (t0 : Int) (u : Int) s.1 s.2) (s := (0, (a : Int))) ((ev True).1 hg), fLp_eq]
          show (s_X12_festival_b127 N l2 l3 (team : Int) (t0 : Int) (u : Int) 1 _).bind _ = _
          rw [end1]
          rfl
        exact ⟨fun _ => e, fun h => absurd ⟨a, by omega, ha, hg⟩ h⟩
      · rw [fLp_stp (b := fun s : Int × Int => s_X12_festival_b127 N l2 l3 (team : Int) (t0 : Int) (u : Int) s.1 s.2) (s := (0, (a : Int))) ((ev True).2 hg)]
        refine ih ((a - 1) &&& u) (by omega) n1 (fun c hc hlt => ?_)
        by_cases e : c = a
        · subst e; exact hg
        · by_cases hca : c < a
          · have := n3 c hc hca
            omega
          · exact hno c hc (by omega)
theorem m_team {N : fM} {n T : Nat} (hn : n ≤ 9) (hT6 : T ≤ 6) {F : Nat → Nat → Prop} (F0 : ∀ t, t < T → F t 0) (Fs : ∀ t a b, t < T → b < 2 ^ n → sub a b → F t b → F t a) {team : Nat} (l3 : Int) (htm : team < 2 ^ T) (hcan : ∀ t, t < T → ∀ m, m < 2 ^ n → (F t m → N 143 (512 * t + m) = 1) ∧ (¬ F t m → N 143 (512 * t + m) = 0)) (hhv : ∀ b v, b < team → v < 2 ^ n → HvR N n T F b v) : ∃ t0 : Int, s_X12_festival_l81 N (((2 ^ n : Nat) : Int) - 1) l3 (team : Int) 0 = some t0 ∧ ∃ N', s_X12_festival_l105 (((2 ^ n : Nat) : Int) - 1) l3 (team : Int) t0 (0, N) = some N' ∧ (∀ v, v < 2 ^ n → HvR N' n T F team v) ∧ (∀ x, x < 512 * team → N' 145 x = N 145 x) ∧ ∀ a, a ≠ 145 → N' a = N a := by
  have p512 : 2 ^ n ≤ 2 ^ 9 := Nat.pow_le_pow_right (n := 2) (by decide) hn
  have p1 : 1 ≤ 2 ^ n := Nat.one_le_two_pow
  have p64 : 2 ^ T ≤ 2 ^ 6 := Nat.pow_le_pow_right (n := 2) (by decide) hT6
  obtain ⟨low1, low2⟩ := m_low (M := N) (((2 ^ n : Nat) : Int) - 1) l3 (team := team) (by omega)
  -- what one set wants
  have outer : ∀ (t0 : Int), (∀ (Q : fM) (u : Nat), u < 2 ^ n → (∀ b v, b < team → v < 2 ^ n → HvR Q n T F b v) → (∀ a, a ≠ 145 → Q a = N a) → ∃ z : Int, s_X12_festival_b105 Q (((2 ^ n : Nat) : Int) - 1) l3 (team : Int) t0 (u : Int) = some (.inl ((u : Int) + 1, fup Q 145 (512 * team + u) z)) ∧ (Cvr n F team T u → z = 1) ∧ (¬ Cvr n F team T u → z = 0)) → ∃ N', s_X12_festival_l105 (((2 ^ n : Nat) : Int) - 1) l3 (team : Int) t0 (0, N) = some N' ∧ (∀ v, v < 2 ^ n → HvR N' n T F team v) ∧ (∀ x, x < 512 * team → N' 145 x = N 145 x) ∧ ∀ a, a ≠ 145 → N' a = N a := by
    intro t0 one
    unfold s_X12_festival_l105
    refine fLp_ex (P := fun i s => s.1 = (i : Int) ∧ (∀ v, v < i → HvR s.2 n T F team v) ∧ (∀ x, x < 512 * team → s.2 145 x = N 145 x) ∧ ∀ a, a ≠ 145 → s.2 a = N a) (2 ^ n) ⟨rfl, fun v h => by omega, fun x _ => rfl, fun a _ => rfl⟩ (fun i s hi hp => ?_) (fun s hp => ?_)
    · obtain ⟨z, Q⟩ := s
      obtain ⟨q1, q2, q3, q4⟩ := hp
      simp only at q1 q2 q3 q4
      subst q1
      obtain ⟨z, z1, z2, z3⟩ := one Q i hi (fun b v h1 h2 => by
        have := hhv b v h1 h2
        unfold HvR at this ⊢
        rw [q3 _ (by omega)]
        exact this) q4
      refine ⟨_, z1, by simp, fun v hv => ?_, fun x hx => ?_, fun a ha => ?_⟩
      · unfold HvR
        show (_ → fup Q 145 (512 * team + i) z 145 (512 * team + v) = 1) ∧ (_ → fup Q 145 (512 * team + i) z 145 (512 * team + v) = 0)
        rw [fup_eq]
        by_cases e : v = i
        · subst e; rw [upd1_at]; exact ⟨z2, z3⟩
        · rw [upd1_ne (by omega)]
          exact q2 v (by omega)
      · show fup Q 145 (512 * team + i) z 145 x = _
        rw [fup_eq, upd1_ne (by omega), q3 x hx]
      · show fup Q 145 (512 * team + i) z a = _
        rw [fup_ne ha, q4 a ha]
    · obtain ⟨z, Q⟩ := s
      obtain ⟨q1, q2, q3, q4⟩ := hp
      simp only at q1 q2 q3 q4
      subst q1
      refine ⟨Q, ?_, q2, q3, q4⟩
      show s_X12_festival_b105 Q (((2 ^ n : Nat) : Int) - 1) l3 (team : Int) t0 ((2 ^ n : Nat) : Int) = _
      unfold s_X12_festival_b105
      rw [if_pos (by omega)]
  have gu : ∀ u : Nat, u < 2 ^ n → (fin (512 * (team : Int)) ∧ fin (512 * (team : Int) + (u : Int))) ∧ ((0 ≤ 512 * (team : Int) + (u : Int) ∧ 512 * (team : Int) + (u : Int) < 32768) ∧ fin ((u : Int) + 1)) ∧ (512 * (team : Int) + (u : Int)).toNat = 512 * team + u := fun u hu => by unfold fin; omega
  by_cases h0 : team = 0
  · refine ⟨0, low1 h0, outer 0 (fun Q u hu hQ hQa => ?_)⟩
    obtain ⟨g1, g2, g3⟩ := gu u hu
    have hc : Cvr n F team T u ↔ u = 0 := by rw [h0]; exact cvr_0
    by_cases hu0 : u = 0
    · refine ⟨1, ?_, fun _ => rfl, fun h => absurd (hc.2 hu0) h⟩
      have e127 : s_X12_festival_l127 Q (((2 ^ n : Nat) : Int) - 1) l3 (team : Int) 0 (u : Int) (1, (u : Int)) = some 1 := by
        unfold s_X12_festival_l127
        rw [fLp_eq]
        show (s_X12_festival_b127 Q _ l3 (team : Int) 0 (u : Int) 1 (u : Int)).bind _ = _
        unfold s_X12_festival_b127
        rw [if_pos (by omega)]
        rfl
      unfold s_X12_festival_b105
      rw [if_neg (by omega), if_neg (by omega)]
      unfold s_X12_festival_j121
      rw [e127, Option.bind_some]
      unfold s_X12_festival_j207
      rw [if_pos g1, if_pos (by decide), if_pos g2, g3]
    · refine ⟨0, ?_, fun h => absurd (hc.1 h) hu0, fun _ => rfl⟩
      have e127 : s_X12_festival_l127 Q (((2 ^ n : Nat) : Int) - 1) l3 (team : Int) 0 (u : Int) (0, (u : Int)) = some 0 := by
        unfold s_X12_festival_l127
        rw [fLp_eq]
        show (s_X12_festival_b127 Q _ l3 (team : Int) 0 (u : Int) 0 (u : Int)).bind _ = _
        unfold s_X12_festival_b127
        rw [if_neg (by omega), if_neg (by decide), if_pos (by omega)]
        rfl
      unfold s_X12_festival_b105
      rw [if_neg (by omega), if_pos (by omega)]
      unfold s_X12_festival_j121
      rw [e127, Option.bind_some]
      unfold s_X12_festival_j207
      rw [if_pos g1, if_neg (by decide), if_pos (by omega), if_pos g2, g3]
  · obtain ⟨t1, ht1, hb1, hlow⟩ : ∃ t, t < T ∧ Nat.testBit team t = true ∧ ∀ i, i < t → Nat.testBit team i = false := by
      obtain ⟨t, h1, h2, h3⟩ := first_of T (ex_bit htm h0)
      refine ⟨t, h1, h2, fun i hi => ?_⟩
      cases hb : Nat.testBit team i with
      | false => rfl
      | true => exact absurd hb (h3 i hi)
    refine ⟨(t1 : Int), low2 t1 (by omega) hb1 hlow, outer (t1 : Int) (fun Q u hu hQ hQa => ?_)⟩
    obtain ⟨g1, g2, g3⟩ := gu u hu
    have hmw := mw_f9 team (by omega) t1 (by omega)
    have hml := hmw.2.2 hb1
    have hrec := cvr_rec (n := n) (T := T) F0 Fs (team := team) (u := u) ht1 hb1 hu
    have hcanQ : ∀ m, m < 2 ^ n → (F t1 m → Q 143 (512 * t1 + m) = 1) ∧ (¬ F t1 m → Q 143 (512 * t1 + m) = 0) := fun m hm => by rw [hQa 143 (by decide)]; exact hcan t1 ht1 m hm
    have hsub := m_subs (N := Q) hn hT6 (((2 ^ n : Nat) : Int) - 1) l3 ht1 htm hb1 hu hcanQ (fun v hv => hQ (mw team t1) v hml hv) u u (Nat.le_refl _) (fun _ h => h) (fun c hc hlt => by have := sub_le hc; omega)
    have gm : fin (512 * ((mw team t1 : Nat) : Int)) ∧ fin (512 * ((mw team t1 : Nat) : Int) + (u : Int)) ∧ (0 ≤ 512 * ((mw team t1 : Nat) : Int) + (u : Int) ∧ 512 * ((mw team t1 : Nat) : Int) + (u : Int) < 32768) := by unfold fin; omega
    have gmi : (512 * ((mw team t1 : Nat) : Int) + (u : Int)).toNat = 512 * mw team t1 + u := by omega
    by_cases hu0 : u = 0
    · refine ⟨1, ?_, fun _ => rfl, fun h => absurd (hrec.2 (.inl hu0)) h⟩
      have e127 : s_X12_festival_l127 Q (((2 ^ n : Nat) : Int) - 1) l3 (team : Int) (t1 : Int) (u : Int) (1, (u : Int)) = some 1 := by
        unfold s_X12_festival_l127
        rw [fLp_eq]
        show (s_X12_festival_b127 Q _ l3 (team : Int) (t1 : Int) (u : Int) 1 (u : Int)).bind _ = _
        unfold s_X12_festival_b127
        rw [if_pos (by omega)]
        rfl
      unfold s_X12_festival_b105
      rw [if_neg (by omega), if_neg (by omega)]
      unfold s_X12_festival_j121
      rw [e127, Option.bind_some]
      unfold s_X12_festival_j207
      rw [if_pos g1, if_pos (by decide), if_pos g2, g3]
    · by_cases hex : ∃ c, c ≠ 0 ∧ sub c u ∧ F t1 c ∧ Cvr n F (mw team t1) T (df u c)
      · refine ⟨1, ?_, fun _ => rfl, fun h => absurd (hrec.2 (.inr (.inl hex))) h⟩
        unfold s_X12_festival_b105
        rw [if_neg (by omega), if_pos (by omega)]
        unfold s_X12_festival_j121 s_X12_festival_l127
        rw [hsub.1 hex, Option.bind_some]
        unfold s_X12_festival_j207
        rw [if_pos g1, if_pos (by decide), if_pos g2, g3]
      · have h145 := hQ (mw team t1) u hml hu
        unfold HvR at h145
        by_cases hC : Cvr n F (mw team t1) T u
        · refine ⟨1, ?_, fun _ => rfl, fun h => absurd (hrec.2 (.inr (.inr hC))) h⟩
          unfold s_X12_festival_b105
          rw [if_neg (by omega), if_pos (by omega)]
          unfold s_X12_festival_j121 s_X12_festival_l127
          rw [hsub.2 hex, Option.bind_some]
          unfold s_X12_festival_j207
          rw [if_pos g1, if_neg (by decide), if_neg (by omega), hmw.1, if_pos gm, gmi, h145.1 hC, if_neg (by decide), if_pos g2, g3]
        · refine ⟨0, ?_, fun h => ?_, fun _ => rfl⟩
          · unfold s_X12_festival_b105
            rw [if_neg (by omega), if_pos (by omega)]
            unfold s_X12_festival_j121 s_X12_festival_l127
            rw [hsub.2 hex, Option.bind_some]
            unfold s_X12_festival_j207
            rw [if_pos g1, if_neg (by decide), if_neg (by omega), hmw.1, if_pos gm, gmi, h145.2 hC, if_pos rfl, if_pos g2, g3]
          · rcases hrec.1 h with h | h | h
            · exact absurd h hu0
            · exact absurd h hex
            · exact absurd h hC
theorem m_fest {N : fM} {n T : Nat} (hn : n ≤ 9) (hT6 : T ≤ 6) (hT : N 124 173 = T) {F : Nat → Nat → Prop} (F0 : ∀ t, t < T → F t 0) (Fs : ∀ t a b, t < T → b < 2 ^ n → sub a b → F t b → F t a) (hcan : ∀ t, t < T → ∀ m, m < 2 ^ n → (F t m → N 143 (512 * t + m) = 1) ∧ (¬ F t m → N 143 (512 * t + m) = 0)) : ∃ N', s_X12_festival_l63 (((2 ^ n : Nat) : Int) - 1) (-1, 0, N) = some (pick (fun team => Cvr n F team T (2 ^ n - 1)) (2 ^ T), N') ∧ ∀ a, a ≠ 145 → N' a = N a := by
  have p512 : 2 ^ n ≤ 2 ^ 9 := Nat.pow_le_pow_right (n := 2) (by decide) hn
  have p1 : 1 ≤ 2 ^ n := Nat.one_le_two_pow
  have p64 : 2 ^ T ≤ 2 ^ 6 := Nat.pow_le_pow_right (n := 2) (by decide) hT6
  obtain ⟨⟨v, N'⟩, e1, e2, e3⟩ : ∃ e, s_X12_festival_l63 (((2 ^ n : Nat) : Int) - 1) (-1, 0, N) = some e ∧ e.1 = pick (fun team => Cvr n F team T (2 ^ n - 1)) (2 ^ T) ∧ ∀ a, a ≠ 145 → e.2 a = N a := by
    unfold s_X12_festival_l63
    refine fLp_ex (P := fun i s => s.1 = pick (fun team => Cvr n F team T (2 ^ n - 1)) i ∧ s.2.1 = (i : Int) ∧ (∀ b v, b < i → v < 2 ^ n → HvR s.2.2 n T F b v) ∧ ∀ a, a ≠ 145 → s.2.2 a = N a) (2 ^ T) ⟨rfl, rfl, fun b v h => by omega, fun a _ => rfl⟩ (fun i s hi hp => ?_) (fun s hp => ?_)
    · obtain ⟨v, z, Q⟩ := s
      obtain ⟨q1, q2, q3, q4⟩ := hp
      simp only at q1 q2 q3 q4
      subst q2
      have hb := pick_bd (fun team => Cvr n F team T (2 ^ n - 1)) i
      rw [← q1] at hb
      obtain ⟨t0, t1, B, b1, b2, b3, b4⟩ := m_team (N := Q) hn hT6 F0 Fs (team := i) v hi (fun t ht m hm => by rw [q4 143 (by decide)]; exact hcan t ht m hm) q3
      have hfi : fin ((i : Int) + 1) := by unfold fin; omega
      have hhB : ∀ b v, b < i + 1 → v < 2 ^ n → HvR B n T F b v := fun b v h1 h2 => by
        by_cases e : b = i
        · subst e; exact b2 v h2
        · have := q3 b v (by omega) h2
          unfold HvR at this ⊢
          rw [b3 _ (by omega)]
          exact this
      have hB : ∀ a, a ≠ 145 → B a = N a := fun a ha => by rw [b4 a ha, q4 a ha]
      have hal := b2 (2 ^ n - 1) (by omega)
      unfold HvR at hal
      have gi : (512 * (i : Int) + (((2 ^ n : Nat) : Int) - 1)).toNat = 512 * i + (2 ^ n - 1) := by omega
      have pre : ∀ w : Int, (pick (fun team => Cvr n F team T (2 ^ n - 1)) (i + 1) = w) → s_X12_festival_j102 Q (((2 ^ n : Nat) : Int) - 1) v (i : Int) t0 = some (.inl (w, (i : Int) + 1, B)) → ∃ s', s_X12_festival_b63 Q (((2 ^ n : Nat) : Int) - 1) v (i : Int) = some (.inl s') ∧ (s'.1 = pick (fun team => Cvr n F team T (2 ^ n - 1)) (i + 1) ∧ s'.2.1 = ((i + 1 : Nat) : Int) ∧ (∀ b v, b < i + 1 → v < 2 ^ n → HvR s'.2.2 n T F b v) ∧ ∀ a, a ≠ 145 → s'.2.2 a = N a) := by
        intro w hw hj
        refine ⟨(w, (i : Int) + 1, B), ?_, hw.symm, by simp, hhB, hB⟩
        unfold s_X12_festival_b63
        rw [q4 124 (by decide), hT, b_shl T (by omega), if_neg (by omega), t1, Option.bind_some]
        exact hj
      have ev : s_X12_festival_j102 Q (((2 ^ n : Nat) : Int) - 1) v (i : Int) t0 = (if B 145 (512 * i + (2 ^ n - 1)) = 0 then some (.inl (v, (i : Int) + 1, B)) else if v < 0 then some (.inl ((i : Int), (i : Int) + 1, B)) else (s_X12_bits B (i : Int)).bind fun y288 => (s_X12_bits B v).bind fun y292 => if y292 ≤ y288 then some (.inl (v, (i : Int) + 1, B)) else some (.inl ((i : Int), (i : Int) + 1, B))) := by
        unfold s_X12_festival_j102
        rw [b1, Option.bind_some, if_pos (by unfold fin; omega), gi]
        simp only [if_pos hfi]
      by_cases hG : Cvr n F i T (2 ^ n - 1)
      · rw [hal.1 hG, if_neg (by decide)] at ev
        by_cases hneg : v < 0
        · rw [if_pos hneg] at ev
          exact pre (i : Int) (pick_y (G := (fun team => Cvr n F team T (2 ^ n - 1))) (k := i) ⟨hG, .inl (by rw [← q1]; exact hneg)⟩) ev
        · obtain ⟨vn, hvn⟩ : ∃ vn : Nat, v = (vn : Int) := ⟨v.toNat, by omega⟩
          rw [if_neg hneg, m_bits B (by omega), Option.bind_some, hvn, m_bits B (by omega), Option.bind_some, ← hvn] at ev
          have hpn : (pick (fun team => Cvr n F team T (2 ^ n - 1)) i).toNat = vn := by rw [← q1, hvn]; rfl
          by_cases hle : pc vn 9 ≤ pc i 9
          · rw [if_pos (by omega)] at ev
            exact pre v (by rw [pick_n (G := (fun team => Cvr n F team T (2 ^ n - 1))) (k := i) (fun e => by rw [hpn, ← q1] at e; rcases e.2 with e | e <;> omega)]; exact q1.symm) ev
          · rw [if_neg (by omega)] at ev
            exact pre (i : Int) (pick_y (G := (fun team => Cvr n F team T (2 ^ n - 1))) (k := i) ⟨hG, .inr (by rw [hpn]; omega)⟩) ev
      · rw [hal.2 hG, if_pos rfl] at ev
        exact pre v (by rw [pick_n (G := (fun team => Cvr n F team T (2 ^ n - 1))) (k := i) (fun e => hG e.1)]; exact q1.symm) ev
    · obtain ⟨v, z, Q⟩ := s
      obtain ⟨q1, q2, q3, q4⟩ := hp
      simp only at q1 q2 q3 q4
      subst q2
      refine ⟨(v, Q), ?_, q1, q4⟩
      show s_X12_festival_b63 Q _ v ((2 ^ T : Nat) : Int) = _
      unfold s_X12_festival_b63
      rw [q4 124 (by decide), hT, b_shl T (by omega), if_pos (Int.le_refl _)]
  have e2' : v = pick (fun team => Cvr n F team T (2 ^ n - 1)) (2 ^ T) := e2
  rw [← e2']
  exact ⟨N', e1, e3⟩
theorem k_festival {M : fM} (hI : Iv M) (d : Int) : ∃ v M1 M2, s_X11_festival M d = some (v, M1) ∧ M1 1000 = M 1000 ∧ s_X12_festival M1 d = some (v, M2) ∧ Iv M2 := by
  have hI0 := hI
  obtain ⟨q1, q2, q3, ⟨D, hc, hw, hm, hnm, hr, hn0⟩, -, -⟩ := hI
  obtain ⟨n, hn⟩ : ∃ n : Nat, M 1 2 = (n : Int) := ⟨(M 1 2).toNat, by have := q2.2.1; omega⟩
  have r4 : M 4 = D 4 := CR_r hc 4 (by decide) (by decide)
  have hP := hw.1.1
  have fin1 : ∀ (v : Int) (M1 M2 : fM), s_X11_festival M d = some (v, M1) → M1 1 2 = 0 → s_X12_festival M1 d = some (v, M2) → M2 122 2 = 0 → ∃ v M1 M2, s_X11_festival M d = some (v, M1) ∧ M1 1000 = M 1000 ∧ s_X12_festival M1 d = some (v, M2) ∧ Iv M2 := by
    intro v M1 M2 h1 h2 h3 h4
    have f1 : fSame s_X11_festival_mods M M1 := s_X11_festival_fr h1
    have f2 : fSame s_X12_festival_mods M1 M2 := s_X12_festival_fr h3
    have fAll : fSame (s_X11_festival_mods ++ s_X12_festival_mods) M M2 := fs_trans (fs_mono (fun x hx => List.mem_append_left _ hx) f1) (fs_mono (fun x hx => List.mem_append_right _ hx) f2)
    exact ⟨v, M1, M2, h1, fs_row f1 1000 (by decide), h3, Iv_mk hI0 fAll (by decide) (by decide) (Tp_taken fAll (by decide) (by rw [fs_row f2 1 (by decide), h2]) h4 q2) (Ou_same fAll (by decide) q3)⟩
  obtain ⟨K, hmv⟩ := c_move55 q2 hn (P := D 4 13) (by omega)
  by_cases hgood : (n ≤ 9 ∧ okAll (D 4 13) (oct M) n) ∧ (0 ≤ d ∧ d < 364)
  · obtain ⟨⟨hn9, hall⟩, hd⟩ := hgood
    rcases hmv with ⟨a1, -, -, a4, a5⟩ | ⟨-, a2, -⟩
    · have ht6 := hw.1.2.1
      obtain ⟨T, hT⟩ : ∃ T : Nat, D 4 14 = (T : Int) := ⟨(D 4 14).toNat, by omega⟩
      have p512 : 2 ^ n ≤ 2 ^ 9 := Nat.pow_le_pow_right (n := 2) (by decide) hn9
      have hcK : CR K 0 D := fun k h1 h2 => by
        show K k = _
        rw [a5 k (by omega), fup_ne (by omega)]
        exact hc k h1 h2
      have hrr : ∀ i, i < n → 0 ≤ oct M i ∧ oct M i < D 4 13 := fun i hi => ⟨(oct_b q2 i).1, (hall i hi).1⟩
      have hSt : ∀ t : Nat, t < T → (Sc.to D d (oct M) n (t : Int)).ok := fun t ht => to_ok hw hd hn9 hrr (by omega) (by omega)
      obtain ⟨K1, b1, b2⟩ := c_place hcK hw hn9 (r := oct M) (fun i hi => ⟨a4 i hi, hrr i hi⟩) hd.1 hd.2
      have fb : fSame s_X7_place_mods K K1 := s_X7_place_fr b1
      have hcK1 : CR K1 0 D := CR_same fb (by decide) hcK
      obtain ⟨K2, g1, g2, g3, g4, g5⟩ := c_fest hcK1 hw hd hn9 hrr b2 hT
      have hfew := c_fewest (K := K2) (T := T) hn9 g3.2.1 g3.2.2 (by rw [CR_r g2 4 (by decide) (by decide), hT]) (by omega) (F := fun t => Feas (Sc.to D d (oct M) n (t : Int))) g5
      have hcl : s_X11_festival M d = some (pick (fun team => Cvr n (fun t => Feas (Sc.to D d (oct M) n (t : Int))) team T (2 ^ n - 1)) (2 ^ T), K2) := by
        unfold s_X11_festival
        rw [r4, a1, Option.bind_some]
        show (if (n : Int) < 0 then _ else (s_X11_isWithin K d 364).bind _) = _
        rw [if_neg (by omega), c_isWithin, Option.bind_some, bit_ifn, if_pos hd]
        show (s_X7_fewestTuners K (n : Int) d).bind _ = _
        unfold s_X7_fewestTuners
        rw [b1, Option.bind_some]
        show ((s_X7_fewestTuners_l8 (0, K1)).bind _).bind _ = _
        rw [g1, Option.bind_some, hfew]
        rfl
      have f1 : fSame s_X11_festival_mods M K2 := s_X11_festival_fr hcl
      obtain ⟨N, n1, n2, n3, n4, n5, n6, n7⟩ := tk_same q2 hm hr hn0 hn (fs_row f1 122 (by decide)) (fs_row f1 123 (by decide)) (fs_row f1 124 (by decide)) (fs_row f1 125 (by decide))
      obtain ⟨N1, t1, t2⟩ := (m_tells n4 n5 n6 hw n2 (fun i => by rw [n7]; exact oct_b q2 i) d 0).1 ⟨hn9, hd, by rw [n7]; exact hall⟩
      rw [if_pos rfl, n7] at t2
      have ft : fSame s_X12_tells_mods N N1 := s_X12_tells_fr t1
      have hmN1 : MRh N1 124 0 D := MRh_row (fs_row ft 124 (by decide)) n4
      obtain ⟨N2, x1, x2, x3, x4, x5⟩ := m_fsets hmN1 hw hd hn9 hrr t2 hT (((2 ^ n : Nat) : Int) - 1)
      obtain ⟨N3, y1, y2⟩ := m_fest (N := N2) hn9 (T := T) (by omega) (by rw [(mh_n x2).2.1, hT]) (F := fun t => Feas (Sc.to D d (oct M) n (t : Int))) (fun t ht => feas0 (hSt t ht)) (fun t a b ht hb hs hF => feas_sub (hSt t ht) hb hs hF) (fun t ht => x4 t ht)
      have h39 : N1 122 39 = n := t2.2
      refine fin1 _ K2 N3 hcl ?_ ?_ ?_
      · rw [g4, fs_row fb 1 (by decide), a5 1 (by decide)]
        rfl
      · unfold s_X12_festival
        rw [n1, Option.bind_some]
        show (s_X12_tells N d 0).bind _ = _
        rw [t1, Option.bind_some]
        show (if ¬ (1 : Int) = 0 then (if fin (fshl 1 (N1 122 39) - 1) then (s_X12_festival_l35 (fshl 1 (N1 122 39) - 1) (0, N1)).bind (fun e35 => (s_X12_festival_l63 (fshl 1 (N1 122 39) - 1) (-1, 0, e35)).bind fun e63 => some (e63.1, e63.2)) else none) else _) = _
        have hfin : fin (((2 ^ n : Nat) : Int) - 1) := by
          have h1 : 2 ^ n ≤ 512 := p512
          generalize 2 ^ n = c at h1 ⊢
          unfold fin
          omega
        rw [if_pos (by decide), h39, b_shl n (by omega), if_pos hfin, x1, Option.bind_some, y1]
        rfl
      · rw [y2 122 (by decide), x5, fs_at ft 122 2 (by decide), n3]
    · exact absurd ⟨hn9, hall⟩ a2
  · have hcl : s_X11_festival M d = some (-2, K) ∧ ∀ a, a ≠ 55 → K a = fup M 1 2 0 a := by
      unfold s_X11_festival
      rw [r4]
      rcases hmv with ⟨a1, a2, a3, a4, a5⟩ | ⟨a1, a2, a5⟩
      · refine ⟨?_, a5⟩
        rw [a1, Option.bind_some]
        show (if (n : Int) < 0 then _ else (s_X11_isWithin K d 364).bind _) = _
        rw [if_neg (by omega), c_isWithin, Option.bind_some, bit_ifn, if_neg (fun e => hgood ⟨⟨a2, a3⟩, e⟩)]
      · refine ⟨?_, a5⟩
        rw [a1, Option.bind_some]
        show (if (-1 : Int) < 0 then _ else _) = _
        rw [if_pos (by decide)]
    obtain ⟨hcl, a5⟩ := hcl
    obtain ⟨N, n1, n2, n3, n4, n5, n6, n7⟩ := tk_same (M1 := K) q2 hm hr hn0 hn (by rw [a5 122 (by decide), fup_ne (by decide)]) (by rw [a5 123 (by decide), fup_ne (by decide)]) (by rw [a5 124 (by decide), fup_ne (by decide)]) (by rw [a5 125 (by decide), fup_ne (by decide)])
    have z1 : K 1 2 = 0 := by rw [a5 1 (by decide)]; rfl
    obtain ⟨N1, t1⟩ := (m_tells n4 n5 n6 hw n2 (fun i => by rw [n7]; exact oct_b q2 i) d 0).2 (by rw [n7]; exact fun e => hgood ⟨⟨e.1, e.2.2⟩, e.2.1⟩)
    have ft : fSame s_X12_tells_mods N N1 := s_X12_tells_fr t1
    refine fin1 (-2) K N1 hcl z1 ?_ (by rw [fs_at ft 122 2 (by decide), n3])
    unfold s_X12_festival
    rw [n1, Option.bind_some]
    show (s_X12_tells N d 0).bind _ = _
    rw [t1, Option.bind_some]
    show (if ¬ (0 : Int) = 0 then _ else _) = _
    rw [if_neg (by decide)]
