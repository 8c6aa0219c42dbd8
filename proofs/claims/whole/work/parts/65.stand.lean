/-! ===== where the strings stand: what both work out (by hand) ===== -/
abbrev shkP (D : fM) (p q kn x i : Int) : Prop := (isK D i 6 p kn ∧ D 21 i.toNat ≤ q) ∧ D 21 i.toNat + 1 ≤ x ∧ x ≤ D 21 i.toNat + 21
/-- how many times the slip falls on day x -/
def tms (D : fM) (p q kn x : Int) : Int := if anyI (shkP D p q kn x) (nR D) = 1 then 3 else 1
/-- what the stove takes on day x -/
def stv (D : fM) (p x : Int) : Int := if D 10 (p * 10 + 7).toNat = 1 ∧ (x / 7 ≤ 8 ∨ 44 ≤ x / 7) then 2 else 0
abbrev sT (D : fM) (p q kn x : Int) : Int := sumI (tms D p q kn) (x + 1).toNat
abbrev sS (D : fM) (p x : Int) : Int := sumI (stv D p) (x + 1).toNat
theorem tms_b (D : fM) (p q kn x : Int) : 1 ≤ tms D p q kn x ∧ tms D p q kn x ≤ 3 := by
  unfold tms; split <;> omega
theorem stv_b (D : fM) (p x : Int) : 0 ≤ stv D p x ∧ stv D p x ≤ 2 := by
  unfold stv; split <;> omega
theorem sT_s (D : fM) (p q kn x : Int) (h : 0 ≤ x) : sT D p q kn x = sT D p q kn (x - 1) + tms D p q kn x := by
  unfold sT
  rw [show (x + 1).toNat = (x - 1 + 1).toNat + 1 by omega, sumI_s, show (((x - 1 + 1).toNat : Nat) : Int) = x by omega]
theorem sS_s (D : fM) (p x : Int) (h : 0 ≤ x) : sS D p x = sS D p (x - 1) + stv D p x := by
  unfold sS
  rw [show (x + 1).toNat = (x - 1 + 1).toNat + 1 by omega, sumI_s, show (((x - 1 + 1).toNat : Nat) : Int) = x by omega]
theorem sum_mono {g : Int → Int} {hi : Int} (hg : ∀ x, 0 ≤ g x ∧ g x ≤ hi) : ∀ a b : Nat, a ≤ b → 0 ≤ sumI g b - sumI g a ∧ sumI g b - sumI g a ≤ hi * ((b : Int) - a)
  | a, 0, h => by
    have : a = 0 := by omega
    subst this
    simp
  | a, b + 1, h => by
    by_cases e : a = b + 1
    · subst e; simp
    · have ih := sum_mono hg a b (by omega)
      have := hg b
      rw [sumI_s]
      have e2 : hi * (((b + 1 : Nat) : Int) - a) = hi * ((b : Int) - a) + hi := by
        rw [show (((b + 1 : Nat) : Int) - a) = ((b : Int) - a) + 1 by omega, Int.mul_add, Int.mul_one]
      omega
theorem sT_d (D : fM) (p q kn : Int) {t x : Int} (h1 : 0 ≤ t) (h2 : t ≤ x) (h3 : x < 364) : 0 ≤ sT D p q kn x - sT D p q kn t ∧ sT D p q kn x - sT D p q kn t ≤ 1092 := by
  have := sum_mono (g := tms D p q kn) (hi := 3) (fun x => by have := tms_b D p q kn x; omega) (t + 1).toNat (x + 1).toNat (by omega)
  unfold sT
  omega
theorem sS_d (D : fM) (p : Int) {t x : Int} (h1 : 0 ≤ t) (h2 : t ≤ x) (h3 : x < 364) : 0 ≤ sS D p x - sS D p t ∧ sS D p x - sS D p t ≤ 728 := by
  have := sum_mono (g := stv D p) (hi := 2) (fun x => stv_b D p x) (t + 1).toNat (x + 1).toNat (by omega)
  unfold sS
  omega
theorem sT_b (D : fM) (p q kn : Int) {x : Int} (h2 : -1 ≤ x) (h3 : x < 364) : 0 ≤ sT D p q kn x ∧ sT D p q kn x ≤ 1092 := by
  have := sum_mono (g := tms D p q kn) (hi := 3) (fun x => by have := tms_b D p q kn x; omega) 0 (x + 1).toNat (by omega)
  rw [show sumI (tms D p q kn) 0 = 0 from rfl] at this
  unfold sT
  omega
theorem sS_b (D : fM) (p : Int) {x : Int} (h2 : -1 ≤ x) (h3 : x < 364) : 0 ≤ sS D p x ∧ sS D p x ≤ 728 := by
  have := sum_mono (g := stv D p) (hi := 2) (fun x => stv_b D p x) 0 (x + 1).toNat (by omega)
  rw [show sumI (stv D p) 0 = 0 from rfl] at this
  unfold sS
  omega
/-- the offset without the damp, tuned on day t with b left -/
def udV (D : fM) (p q kn t : Int) (b : Int → Int) (n day more : Int) : Int := b n - (if 0 ≤ D 11 (p * 12 + n).toNat + more then D 11 (p * 12 + n).toNat + more else 0) * (sT D p q kn day - sT D p q kn t) - (sS D p day - sS D p t)
def dmV (D : fM) (t day : Int) : Int := 5 * (D 6 (day / 7).toNat - D 6 (t / 7).toNat)
abbrev ofV (D : fM) (p q kn t : Int) (b : Int → Int) (n day more : Int) : Int := udV D p q kn t b n day more + dmV D t day
/-- what was left with the fork -/
def lfV (D : fM) (L n : Int) : Int := if 0 ≤ L then D 26 (L * 12 + n).toNat + D 13 (D 23 L.toNat * 3 + 2).toNat else 0
def tdV (D : fM) (L : Int) : Int := if 0 ≤ L then D 21 L.toNat else -1
theorem udV_b {D : fM} (hw : WF D) {p q kn t n day more : Int} {b : Int → Int} (hp : 0 ≤ p) (hp2 : p < D 4 13) (hn : 0 ≤ n) (hn2 : n < 12) (ht : 0 ≤ t) (htd : t ≤ day) (hd : day < 364) (hm : -1 ≤ more ∧ more ≤ 1) (hb : -1098 ≤ b n ∧ b n ≤ 1098) : (-111026 ≤ udV D p q kn t b n day more ∧ udV D p q kn t b n day more ≤ 1098) ∧ (0 ≤ (if 0 ≤ D 11 (p * 12 + n).toNat + more then D 11 (p * 12 + n).toNat + more else 0) * (sT D p q kn day - sT D p q kn t) ∧ (if 0 ≤ D 11 (p * 12 + n).toNat + more then D 11 (p * 12 + n).toNat + more else 0) * (sT D p q kn day - sT D p q kn t) ≤ 109200) := by
  have s1 := (hw.2.2.2.2.2.2.1 p hp hp2).1 n hn hn2
  have d1 := sT_d D p q kn ht htd hd
  have d2 := sS_d D p ht htd hd
  unfold udV
  generalize hs : (if 0 ≤ D 11 (p * 12 + n).toNat + more then D 11 (p * 12 + n).toNat + more else 0) = s
  have hs2 : 0 ≤ s ∧ s ≤ 100 := by
    rw [← hs]; split <;> omega
  have m1 : 0 ≤ s * (sT D p q kn day - sT D p q kn t) := Int.mul_nonneg hs2.1 d1.1
  have m2 := mul_bd (x := s) (y := sT D p q kn day - sT D p q kn t) (A := 100) (B := 1092) (by omega) (by omega) hs2.2 d1.1 d1.2
  omega
theorem dmV_b {D : fM} (hw : WF D) {t day : Int} (ht : 0 ≤ t) (ht2 : t < 364) (hd : 0 ≤ day) (hd2 : day < 364) : -200 ≤ dmV D t day ∧ dmV D t day ≤ 200 := by
  have a1 := (hw.2.2.1 (day / 7) (by omega) (by omega)).1
  have a2 := (hw.2.2.1 (t / 7) (by omega) (by omega)).1
  unfold dmV
  omega
/-- the greatest of the twelve -/
def grV (f : Int → Int) : Nat → Int
  | 0 => 0
  | n + 1 => if grV f n < absI (f n) then absI (f n) else grV f n
theorem grV_s (f : Int → Int) (n : Nat) : grV f (n + 1) = if grV f n < absI (f n) then absI (f n) else grV f n := rfl
theorem fdiv7 {x : Int} (h1 : 0 ≤ x) (h2 : x < 1000000) : fdiv x 7 = x / 7 := by
  rw [fdiv_eq (by omega) (by omega) (by decide), Int.tdiv_eq_ediv_of_nonneg h1]
theorem c_weekOf (M : fM) {x : Int} (h1 : 0 ≤ x) (h2 : x < 1000000) : s_X11_weekOf M x = some (x / 7) := by
  unfold s_X11_weekOf
  rw [fdiv7 h1 h2]
theorem c_max (M : fM) (a b : Int) : s_J9_max M a b = some (if a < b then b else a) := by
  unfold s_J9_max; split <;> rfl
theorem c_min (M : fM) (a b : Int) : s_J9_min M a b = some (if b < a then b else a) := by
  unfold s_J9_min; split <;> rfl
/-- the class looks at a piano -/
def Lk (M D : fM) (p q kn t : Int) (b : Int → Int) : Prop := CR M 0 D ∧ M 43 5 = p ∧ M 43 6 = t ∧ (∀ x : Nat, x < 364 → M 44 x = sT D p q kn x) ∧ (∀ x : Nat, x < 364 → M 45 x = sS D p x) ∧ (∀ n : Nat, n < 12 → M 46 n = b n)
theorem c_undamped {M D : fM} (hw : WF D) {p q kn t : Int} {b : Int → Int} (hl : Lk M D p q kn t b) {n day more : Int} (hp : 0 ≤ p) (hp2 : p < D 4 13) (hn : 0 ≤ n) (hn2 : n < 12) (ht : 0 ≤ t) (htd : t ≤ day) (hd : day < 364) (hm : -1 ≤ more ∧ more ≤ 1) (hb : -1098 ≤ b n ∧ b n ≤ 1098) : s_X8_offsetUndamped M n day more = some (udV D p q kn t b n day more) := by
  obtain ⟨hc, e5, e6, e44, e45, e46⟩ := hl
  have hw13 := hw.1.1
  have s1 := (hw.2.2.2.2.2.2.1 p hp hp2).1 n hn hn2
  have bb := udV_b hw (q := q) (kn := kn) hp hp2 hn hn2 ht htd hd hm hb
  have x1 : M 44 day.toNat = sT D p q kn day := by rw [e44 day.toNat (by omega), Int.toNat_of_nonneg (by omega)]
  have x2 : M 44 t.toNat = sT D p q kn t := by rw [e44 t.toNat (by omega), Int.toNat_of_nonneg ht]
  have x3 : M 45 day.toNat = sS D p day := by rw [e45 day.toNat (by omega), Int.toNat_of_nonneg (by omega)]
  have x4 : M 45 t.toNat = sS D p t := by rw [e45 t.toNat (by omega), Int.toNat_of_nonneg ht]
  have x5 : M 46 n.toNat = b n := by rw [e46 n.toNat (by omega), Int.toNat_of_nonneg hn]
  have b1 := sT_b D p q kn (x := day) (by omega) hd
  have b2 := sT_b D p q kn (x := t) (by omega) (by omega)
  have b3 := sS_b D p (x := day) (by omega) hd
  have b4 := sS_b D p (x := t) (by omega) (by omega)
  have d2 := sS_d D p ht htd hd
  unfold s_X8_offsetUndamped
  rw [e5, e6, CR_r hc 11 (by decide) (by decide), if_pos ht, if_pos (by unfold fin; omega), c_max, Option.bind_some, x1, x2, x3, x4, x5, if_pos (by unfold fin; omega)]
  have em : (if 0 < D 11 (p * 12 + n).toNat + more then D 11 (p * 12 + n).toNat + more else 0) = (if 0 ≤ D 11 (p * 12 + n).toNat + more then D 11 (p * 12 + n).toNat + more else 0) := by
    split <;> split <;> omega
  rw [em]
  unfold udV at bb ⊢
  rw [if_pos (by unfold fin; omega)]
theorem c_damp {M D : fM} (hw : WF D) {p q kn t : Int} {b : Int → Int} (hl : Lk M D p q kn t b) {day : Int} (ht : 0 ≤ t) (ht2 : t < 364) (hd : 0 ≤ day) (hd2 : day < 364) : s_X8_dampFrom M day = some (dmV D t day) := by
  obtain ⟨hc, e5, e6, -⟩ := hl
  have a1 := (hw.2.2.1 (day / 7) (by omega) (by omega)).1
  have a2 := (hw.2.2.1 (t / 7) (by omega) (by omega)).1
  unfold s_X8_dampFrom dmV
  rw [e6, if_pos ht, c_weekOf M hd (by omega), c_weekOf M ht (by omega), CR_r hc 6 (by decide) (by decide), Option.bind_some, if_pos (by omega), Option.bind_some, if_pos (by unfold fin; omega)]
theorem c_greatest {M D : fM} (hw : WF D) {p q kn t : Int} {b : Int → Int} (hl : Lk M D p q kn t b) {day more : Int} (hp : 0 ≤ p) (hp2 : p < D 4 13) (ht : 0 ≤ t) (htd : t ≤ day) (hd : day < 364) (hm : -1 ≤ more ∧ more ≤ 1) (hb : ∀ n : Nat, n < 12 → -1098 ≤ b n ∧ b n ≤ 1098) : s_X8_greatestAt M day more = some (grV (fun n => ofV D p q kn t b n day more) 12) := by
  have dm := dmV_b hw ht (show t < 364 by omega) (show 0 ≤ day by omega) hd
  have key : s_X8_greatestAt_l12 M day more (dmV D t day) (0, 0) = some (grV (fun n => ofV D p q kn t b n day more) 12) := by
    unfold s_X8_greatestAt_l12
    refine fLp_for (fun i => (grV (fun n => ofV D p q kn t b n day more) i, (i : Int))) 12 (fun i hi => ?_) rfl
    have bb := (udV_b hw (q := q) (kn := kn) hp hp2 (n := (i : Int)) (by omega) (by omega) ht htd hd hm (hb i hi)).1
    show s_X8_greatestAt_b12 M day more (dmV D t day) (grV (fun n => ofV D p q kn t b n day more) i) (i : Int) = some (Sum.inl (grV (fun n => ofV D p q kn t b n day more) (i + 1), (i : Int) + 1))
    rw [grV_s]
    unfold s_X8_greatestAt_b12
    rw [if_neg (by omega), c_undamped hw hl hp hp2 (by omega) (by omega) ht htd hd hm (hb i hi), Option.bind_some, if_pos (by unfold fin; omega), c_abs M (by omega) (by omega), Option.bind_some, c_max, Option.bind_some, if_pos (by unfold fin; omega)]
  unfold s_X8_greatestAt
  rw [c_damp hw hl ht (by omega) (by omega) hd, Option.bind_some, key]
  rfl
theorem c_greatestU {M D : fM} (hw : WF D) {p q kn t : Int} {b : Int → Int} (hl : Lk M D p q kn t b) {day : Int} (hp : 0 ≤ p) (hp2 : p < D 4 13) (ht : 0 ≤ t) (htd : t ≤ day) (hd : day < 364) (hb : ∀ n : Nat, n < 12 → -1098 ≤ b n ∧ b n ≤ 1098) : s_X8_greatestUndamped M day = some (grV (fun n => udV D p q kn t b n day 0) 12) := by
  have key : s_X8_greatestUndamped_l4 M day (0, 0) = some (grV (fun n => udV D p q kn t b n day 0) 12) := by
    unfold s_X8_greatestUndamped_l4
    refine fLp_for (fun i => (grV (fun n => udV D p q kn t b n day 0) i, (i : Int))) 12 (fun i hi => ?_) rfl
    have bb := (udV_b hw (q := q) (kn := kn) (more := 0) hp hp2 (n := (i : Int)) (by omega) (by omega) ht htd hd (by omega) (hb i hi)).1
    show s_X8_greatestUndamped_b4 M day (grV (fun n => udV D p q kn t b n day 0) i) (i : Int) = some (Sum.inl (grV (fun n => udV D p q kn t b n day 0) (i + 1), (i : Int) + 1))
    rw [grV_s]
    unfold s_X8_greatestUndamped_b4
    rw [if_neg (by omega), c_undamped hw hl hp hp2 (by omega) (by omega) ht htd hd (by omega) (hb i hi), Option.bind_some, c_abs M (by omega) (by omega), Option.bind_some, c_max, Option.bind_some, if_pos (by unfold fin; omega)]
  unfold s_X8_greatestUndamped
  rw [key]
  rfl
abbrev byP (D : fM) (p q kn t : Int) (b : Int → Int) (day more : Int) : Prop := t < 0 ∨ D 10 (p * 10 + 3).toNat < grV (fun n => ofV D p q kn t b n day more) 12
theorem c_isBeyond {M D : fM} (hw : WF D) {p q kn t : Int} {b : Int → Int} (hl : Lk M D p q kn t b) {day more : Int} (hp : 0 ≤ p) (hp2 : p < D 4 13) (htd : t ≤ day) (hd : day < 364) (hm : -1 ≤ more ∧ more ≤ 1) (hb : ∀ n : Nat, n < 12 → -1098 ≤ b n ∧ b n ≤ 1098) : s_X8_isBeyond M day more = some (bit (byP D p q kn t b day more)) := by
  unfold s_X8_isBeyond bit byP
  rw [hl.2.2.1]
  by_cases ht : t < 0
  · rw [if_pos ht, if_pos (.inl ht)]
  · unfold s_X8_ear
    rw [if_neg ht, c_greatest hw hl hp hp2 (by omega) htd hd hm hb, Option.bind_some, hl.2.1, c_fact hl.1 hw.1 hp hp2 (by decide) (by decide), Option.bind_some, Option.bind_some]
    by_cases h : grV (fun n => ofV D p q kn t b n day more) 12 ≤ D 10 (p * 10 + 3).toNat
    · rw [if_pos h, if_neg (by omega)]
    · rw [if_neg h, if_pos (by omega)]
/-- the reference goes along with a piano: it has passed day -/
def Co (M D : fM) (p q kn t : Int) (b : Int → Int) (day : Int) : Prop := MRh M 124 0 D ∧ MRr M 125 0 D ∧ M 122 10 = D 18 8 ∧ M 122 27 = p ∧ M 122 24 = t ∧ M 122 25 = sT D p q kn day - sT D p q kn t ∧ M 122 26 = sS D p day - sS D p t ∧ M 122 28 = D 6 (t / 7).toNat ∧ (∀ x : Nat, x < 386 → M 128 x = anyI (shkP D p q kn x) (nR D)) ∧ (∀ n : Nat, n < 12 → M 129 n = b n)
theorem m_offsetOf {M D : fM} (hw : WF D) {p q kn t : Int} {b : Int → Int} {day : Int} (hl : Co M D p q kn t b day) {n more : Int} (hp : 0 ≤ p) (hp2 : p < D 4 13) (hn : 0 ≤ n) (hn2 : n < 12) (ht : 0 ≤ t) (htd : t ≤ day) (hd : day < 364) (hm : -1 ≤ more ∧ more ≤ 1) (hb : -1098 ≤ b n ∧ b n ≤ 1098) : s_X12_offsetOf M n day more = some (ofV D p q kn t b n day more) := by
  obtain ⟨mh, mr, e10, e27, e24, e25, e26, e28, e128, e129⟩ := hl
  have hw13 := hw.1.1
  have s1 := (hw.2.2.2.2.2.2.1 p hp hp2).1 n hn hn2
  have bb := udV_b hw (q := q) (kn := kn) hp hp2 hn hn2 ht htd hd hm hb
  have a1 := (hw.2.2.1 (day / 7) (by omega) (by omega)).1
  have a2 := (hw.2.2.1 (t / 7) (by omega) (by omega)).1
  have d1 := sT_d D p q kn ht htd hd
  have d2 := sS_d D p ht htd hd
  have x1 : M 124 (13 + day / 7).toNat = D 6 (day / 7).toNat := mh_damp mh (day / 7) rfl (by omega) (by omega)
  have x5 : M 129 n.toNat = b n := by rw [e129 n.toNat (by omega), Int.toNat_of_nonneg hn]
  have j39 : ∀ s : Int, s = (if 0 ≤ D 11 (p * 12 + n).toNat + more then D 11 (p * 12 + n).toNat + more else 0) → s_X12_offsetOf_j39 M day (b n) s = some (ofV D p q kn t b n day more) := by
    intro s hs
    unfold s_X12_offsetOf_j39 ofV
    rw [fdiv7 (by omega) (by omega), x1, e25, e26, e28]
    unfold udV at bb ⊢
    rw [← hs] at bb ⊢
    unfold dmV
    rw [if_pos (by unfold fin; omega), if_pos (by unfold fin; omega)]
  unfold s_X12_offsetOf
  rw [e27, mh_slip mh p n rfl hp hp2 hn hn2, x5, if_pos (by unfold fin; omega), if_pos (by omega)]
  by_cases h : 0 ≤ D 11 (p * 12 + n).toNat + more
  · rw [if_pos h, j39 _ (if_pos h).symm]
  · rw [if_neg h, j39 _ (if_neg h).symm]
theorem m_offOf {M D : fM} (hw : WF D) {p q kn t : Int} {b : Int → Int} {day : Int} (hl : Co M D p q kn t b day) {more : Int} (hp : 0 ≤ p) (hp2 : p < D 4 13) (ht : 0 ≤ t) (htd : t ≤ day) (hd : day < 364) (hm : -1 ≤ more ∧ more ≤ 1) (hb : ∀ n : Nat, n < 12 → -1098 ≤ b n ∧ b n ≤ 1098) : s_X12_offOf M day more = some (grV (fun n => ofV D p q kn t b n day more) 12) := by
  have dm := dmV_b hw ht (show t < 364 by omega) (show 0 ≤ day by omega) hd
  have key : s_X12_offOf_l5 M day more (0, 0) = some (grV (fun n => ofV D p q kn t b n day more) 12) := by
    unfold s_X12_offOf_l5
    refine fLp_for (fun i => (grV (fun n => ofV D p q kn t b n day more) i, (i : Int))) 12 (fun i hi => ?_) rfl
    have bb := (udV_b hw (q := q) (kn := kn) hp hp2 (n := (i : Int)) (by omega) (by omega) ht htd hd hm (hb i hi)).1
    have bo : -2147483647 ≤ ofV D p q kn t b i day more ∧ ofV D p q kn t b i day more < 2147483648 := by unfold ofV; omega
    show s_X12_offOf_b5 M day more (grV (fun n => ofV D p q kn t b n day more) i) (i : Int) = some (Sum.inl (grV (fun n => ofV D p q kn t b n day more) (i + 1), (i : Int) + 1))
    rw [grV_s]
    unfold s_X12_offOf_b5
    rw [if_neg (by omega), m_offsetOf hw hl hp hp2 (by omega) (by omega) ht htd hd hm (hb i hi), Option.bind_some, m_plain M bo.1 bo.2, Option.bind_some, Option.bind_some, m_plain M bo.1 bo.2, Option.bind_some]
    have hf : fin ((i : Int) + 1) := by unfold fin; omega
    rw [if_pos hf, if_pos hf]
    by_cases h : absI (ofV D p q kn t b i day more) ≤ grV (fun n => ofV D p q kn t b n day more) i
    · rw [if_pos h, if_neg (by omega)]
    · rw [if_neg h, if_pos (by omega)]
  unfold s_X12_offOf
  rw [key]
  rfl
