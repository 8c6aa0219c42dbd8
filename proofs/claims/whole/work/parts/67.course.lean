/-! ===== the reference's course (by hand) ===== -/
theorem ffill_s (M : fM) (c i : Nat) (v : Int) : fup (ffill M c i v) c i v = ffill M c (i + 1) v := by
  funext a j
  show (if a = c ∧ j = i then v else if a = c ∧ j < i then v else M a j) = if a = c ∧ j < i + 1 then v else M a j
  by_cases h1 : a = c
  · by_cases h2 : j = i
    · rw [if_pos ⟨h1, h2⟩, if_pos ⟨h1, by omega⟩]
    · rw [if_neg (fun e => h2 e.2)]
      by_cases h3 : j < i
      · rw [if_pos ⟨h1, h3⟩, if_pos ⟨h1, by omega⟩]
      · rw [if_neg (fun e => h3 e.2), if_neg (by omega)]
  · rw [if_neg (fun e => h1 e.1), if_neg (fun e => h1 e.1), if_neg (fun e => h1 e.1)]
/-- what of Co stands without a tuning -/
def Cp (M D : fM) (p q kn : Int) : Prop := MRh M 124 0 D ∧ MRr M 125 0 D ∧ M 122 10 = D 18 8 ∧ M 122 27 = p ∧ (∀ x : Nat, x < 386 → M 128 x = anyI (shkP D p q kn x) (nR D))
theorem Co_Cp {M D : fM} {p q kn t : Int} {b : Int → Int} {day : Int} (h : Co M D p q kn t b day) : Cp M D p q kn := ⟨h.1, h.2.1, h.2.2.1, h.2.2.2.1, h.2.2.2.2.2.2.2.2.1⟩
theorem m_mark {M D : fM} (hr : MRr M 125 0 D) (hw : WF D) (l1 l2 l3 : Int) {i : Int} (h1 : 0 ≤ i) (h2 : i < D 18 8) : s_X12_course_l59 l1 l2 l3 i (1, M) = some (frng M 128 (D 21 i.toNat + 1) (D 21 i.toNat + 21) 1) := by
  have on := (hw.2.2.2.2.2.2.2.2.2 i h1 h2).2.2.1
  have hn := hw.1.2.2.2.2
  generalize hO : D 21 i.toNat = O at on
  unfold s_X12_course_l59
  have := fLp_for (b := fun s : Int × fM => s_X12_course_b59 s.2 l1 l2 l3 i s.1) (fun j => ((j : Int) + 1, frng M 128 (O + 1) (O + j) 1)) 21 (e := frng M 128 (O + 1) (O + 21) 1) (fun j hj => ?_) rfl
  · rw [frng_0 M 128 (O + 1) (O + ((0 : Nat) : Int)) 1 (by omega)] at this
    exact this
  · show s_X12_course_b59 (frng M 128 (O + 1) (O + j) 1) l1 l2 l3 i ((j : Int) + 1) = some (Sum.inl ((j : Int) + 1 + 1, frng M 128 (O + 1) (O + ((j + 1 : Nat) : Int)) 1))
    have fs := frng_s M 128 (O + 1) (O + j) 1 (by omega) (by omega)
    unfold s_X12_course_b59
    rw [frng_ne (show (125 : Nat) ≠ 128 by decide), mr_on hr i rfl h1 h2, hO, if_neg (by omega), if_pos (by unfold fin; omega), if_pos (by unfold fin; omega), show O + ((j : Int) + 1) = O + j + 1 by omega, fs, show O + ((j + 1 : Nat) : Int) = O + j + 1 by omega]
theorem m_tune {M D : fM} (hw : WF D) {p q kn : Int} (hl : Cp M D p q kn) {b : Int → Int} (hb : ∀ n : Nat, n < 12 → M 129 n = b n) {d : Int} (h1 : 0 ≤ d) (h2 : d < 364) : ∃ M', s_X12_tune M d = some ((), M') ∧ Co M' D p q kn d b d ∧ fSame [(122, some 24), (122, some 25), (122, some 26), (122, some 28)] M M' := by
  obtain ⟨mh, mr, e10, e27, e128⟩ := hl
  refine ⟨_, by unfold s_X12_tune; rw [fdiv7 h1 (by omega), if_pos (by unfold fin; omega), mh_damp mh (d / 7) rfl (by omega) (by omega)], ?_, fs_up (fs_up (fs_up (fs_up fs_refl (.inr (by decide))) (.inr (by decide))) (.inr (by decide))) (.inr (by decide))⟩
  refine ⟨MRh_row (by rw [fup_ne (by decide), fup_ne (by decide), fup_ne (by decide), fup_ne (by decide)]) mh, MRr_row (by rw [fup_ne (by decide), fup_ne (by decide), fup_ne (by decide), fup_ne (by decide)]) mr, e10, e27, rfl, ?_, ?_, rfl, fun x hx => by rw [fup_ne (by decide), fup_ne (by decide), fup_ne (by decide), fup_ne (by decide)]; exact e128 x hx, fun n hn => by rw [fup_ne (by decide), fup_ne (by decide), fup_ne (by decide), fup_ne (by decide)]; exact hb n hn⟩
  · show (0 : Int) = _
    omega
  · show (0 : Int) = _
    omega
theorem m_course {N D : fM} (hm : MRh N 124 0 D) (hr : MRr N 125 0 D) (hn0 : N 122 10 = D 18 8) (hw : WF D) {p : Int} (hp : 0 ≤ p) (hp2 : p < D 4 13) (q kn : Int) : ∃ N', s_X12_course N p q kn = some (bit (0 ≤ lat D 0 p q kn), N') ∧ Cp N' D p q kn ∧ (0 ≤ lat D 0 p q kn → Co N' D p q kn (tdV D (lat D 0 p q kn)) (lfV D (lat D 0 p q kn)) (tdV D (lat D 0 p q kn))) ∧ fSame [(122, some 24), (122, some 25), (122, some 26), (122, some 27), (122, some 28), (128, none), (129, none)] N N' := by
  obtain ⟨hnn, hn2⟩ := nR_c hw.1
  generalize hL : lat D 0 p q kn = L
  have hLc := lat_c hw 0 p q kn
  rw [hL] at hLc
  -- nothing shaken
  have k0 : s_X12_course_l8 p q kn (0, fup N 122 27 p) = some (ffill (fup N 122 27 p) 128 386 0) := by
    unfold s_X12_course_l8
    have e0 : fup N 122 27 p = ffill (fup N 122 27 p) 128 0 0 := by
      funext a j
      unfold ffill
      rw [if_neg (by omega)]
    have key := fLp_for (b := fun s : Int × fM => s_X12_course_b8 s.2 p q kn s.1) (fun i => ((i : Int), ffill (fup N 122 27 p) 128 i 0)) 386 (e := ffill (fup N 122 27 p) 128 386 0) (fun i hi => ?_) rfl
    · rw [← e0] at key
      exact key
    · show s_X12_course_b8 (ffill (fup N 122 27 p) 128 i 0) p q kn (i : Int) = some (Sum.inl ((i : Int) + 1, ffill (fup N 122 27 p) 128 (i + 1) 0))
      unfold s_X12_course_b8
      rw [if_neg (by omega), if_pos (by unfold fin; omega)]
      rw [Int.toNat_natCast, ffill_s]
  -- the marks
  have mk : ∀ i : Nat, i ≤ nR D → ∃ Ni : fM, (∀ k, k ≠ 128 → Ni k = fup N 122 27 p k) ∧ (∀ x : Nat, x < 386 → Ni 128 x = anyI (shkP D p q kn x) i) ∧ ∀ r, fLp (fun s : Int × fM => s_X12_course_b33 s.2 p q kn s.1) ((i : Int), Ni) = some r → s_X12_course_l33 p q kn (0, ffill (fup N 122 27 p) 128 386 0) = some r := by
    intro i
    induction i with
    | zero =>
      intro _
      exact ⟨ffill (fup N 122 27 p) 128 386 0, fun k hk => ffill_ne hk, fun x hx => ffill_at _ _ _ _ hx, fun r hr => hr⟩
    | succ i ih =>
      intro hi
      obtain ⟨Ni, e1, e2, e3⟩ := ih (by omega)
      have hri : MRr Ni 125 0 D := MRr_row (by rw [e1 125 (by decide), fup_ne (by decide)]) hr
      have hni : Ni 122 10 = D 18 8 := by rw [e1 122 (by decide)]; exact hn0
      by_cases hk : isK D i 6 p kn ∧ D 21 (i : Int).toNat ≤ q
      · refine ⟨frng Ni 128 (D 21 (i : Int).toNat + 1) (D 21 (i : Int).toNat + 21) 1, fun k hk => by rw [frng_ne hk, e1 k hk], fun x hx => ?_, fun r hr' => e3 r ?_⟩
        · rw [frng_at, e2 x hx, anyI_s]
          by_cases hs : D 21 (i : Int).toNat + 1 ≤ (x : Int) ∧ (x : Int) ≤ D 21 (i : Int).toNat + 21
          · have hb : bit (shkP D p q kn x i) = 1 := bit1.mpr ⟨hk, hs⟩
            rw [if_pos hs, hb]
            split <;> rfl
          · have hb : bit (shkP D p q kn x i) = 0 := bit0.mpr (fun e => hs e.2)
            rw [if_neg hs, hb]
            have := (anyI_iff (shkP D p q kn x) i).2
            split
            · assumption
            · omega
        · rw [fLp_eq]
          show (s_X12_course_b33 Ni p q kn (i : Int)).bind _ = _
          unfold s_X12_course_b33
          rw [hni, if_neg (by omega), m_isOf hri hw.1 (by omega) (by omega), Option.bind_some, bit_if, if_pos hk, m_mark hri hw p q kn (by omega) (by omega), Option.bind_some, if_pos (by unfold fin; omega)]
          exact hr'
      · refine ⟨Ni, e1, fun x hx => ?_, fun r hr' => e3 r ?_⟩
        · have hb : bit (shkP D p q kn x i) = 0 := bit0.mpr (fun e => hk e.1)
          rw [e2 x hx, anyI_s, hb]
          have := (anyI_iff (shkP D p q kn x) i).2
          split
          · assumption
          · omega
        · rw [fLp_eq]
          show (s_X12_course_b33 Ni p q kn (i : Int)).bind _ = _
          unfold s_X12_course_b33
          rw [hni, if_neg (by omega), m_isOf hri hw.1 (by omega) (by omega), Option.bind_some, bit_if, if_neg hk, if_pos (by unfold fin; omega)]
          exact hr'
  obtain ⟨Nt, t1, t2, t3⟩ := mk (nR D) (Nat.le_refl _)
  have hmt : MRh Nt 124 0 D := MRh_row (by rw [t1 124 (by decide), fup_ne (by decide)]) hm
  have hrt : MRr Nt 125 0 D := MRr_row (by rw [t1 125 (by decide), fup_ne (by decide)]) hr
  have hnt : Nt 122 10 = D 18 8 := by rw [t1 122 (by decide)]; exact hn0
  have t4 : s_X12_course_l33 p q kn (0, ffill (fup N 122 27 p) 128 386 0) = some Nt := by
    refine t3 _ ?_
    rw [fLp_eq]
    show (s_X12_course_b33 Nt p q kn ((nR D : Nat) : Int)).bind _ = _
    unfold s_X12_course_b33
    rw [hnt, if_pos (by omega)]
    rfl
  have hCp : Cp Nt D p q kn := ⟨hmt, hrt, hnt, by rw [t1 122 (by decide)]; rfl, t2⟩
  have hs0 : fSame [(122, some 24), (122, some 25), (122, some 26), (122, some 27), (122, some 28), (128, none), (129, none)] N Nt := by
    intro k j hnm
    rw [t1 k (fun e => hnm (.inl (by rw [e]; decide)))]
    unfold fup
    rw [if_neg (fun e => hnm (.inr (by rw [e.1, e.2]; decide)))]
  by_cases h0 : 0 ≤ L
  · obtain ⟨h1, h2, h3, h4⟩ : 0 ≤ L ∧ L < D 18 8 ∧ D 19 L.toNat = 0 ∧ D 21 L.toNat ≤ q := by
      rcases hLc with e | e
      · omega
      · exact e
    have q1 := hw.2.2.2.2.2.2.2.2.2 L h1 h2
    have a2 := q1.2.2.2.2.2.2.1 h3
    have ht := hw.1.2.1
    have hn200 := hw.1.2.2.2.2
    have kb : s_X12_course_l119 L (0, Nt) = some (set1 Nt 129 (fun j => if j < 12 then lfV D L j else Nt 129 j)) := by
      unfold s_X12_course_l119
      have := fLp_for (b := fun s : Int × fM => s_X12_course_b119 s.2 L s.1) (fun i => ((i : Int), set1 Nt 129 (fun j => if j < i then lfV D L j else Nt 129 j))) 12 (e := set1 Nt 129 (fun j => if j < 12 then lfV D L j else Nt 129 j)) (fun i hi => ?_) rfl
      · rw [show (set1 Nt 129 (fun j => if j < 0 then lfV D L j else Nt 129 j)) = Nt from by
          funext k
          by_cases h : k = 129
          · subst h
            rw [set1_at]
            funext j
            exact if_neg (by omega)
          · rw [set1_ne h]] at this
        exact this
      · have e1 : upd1 (fun j => if j < i then lfV D L j else Nt 129 j) i (lfV D L i) = fun j => if j < i + 1 then lfV D L j else Nt 129 j := by
          funext j
          unfold upd1
          by_cases hj : j = i
          · subst hj
            rw [if_pos rfl, if_pos (by omega)]
          · rw [if_neg hj]
            show (if j < i then lfV D L j else Nt 129 j) = _
            by_cases hj2 : j < i
            · rw [if_pos hj2, if_pos (by omega)]
            · rw [if_neg hj2, if_neg (by omega)]
        show s_X12_course_b119 (set1 Nt 129 (fun j => if j < i then lfV D L j else Nt 129 j)) L (i : Int) = some (Sum.inl ((i : Int) + 1, set1 Nt 129 (fun j => if j < i + 1 then lfV D L j else Nt 129 j)))
        rw [← e1, ← set1_up]
        have lb := lfV_b hw (L := L) (n := (i : Int)) (.inr ⟨h1, h2, h3⟩) (by omega) (by omega)
        have el : D 26 (L * 12 + (i : Int)).toNat + D 13 (D 23 L.toNat * 3 + 2).toNat = lfV D L i := by unfold lfV; rw [if_pos h0]
        unfold s_X12_course_b119
        rw [set1_ne (show (125 : Nat) ≠ 129 by decide), set1_ne (show (124 : Nat) ≠ 129 by decide), mr_first hrt L rfl h1 h2 (.inl h3), mr_left hrt L (i : Int) rfl h1 h2 (by omega) (by omega), mh_tuner hmt (D 23 L.toNat) 2 (by omega) a2.1 a2.2 (by decide) (by decide), el, if_neg (by omega), if_pos (by unfold fin; omega), if_pos (by unfold fin; omega), if_pos (by unfold fin; omega), Int.toNat_natCast]
    have eT : tdV D L = D 21 L.toNat := by unfold tdV; rw [if_pos h0]
    obtain ⟨N2, w1, w2, w3⟩ := m_tune hw (p := p) (q := q) (kn := kn) (M := set1 Nt 129 (fun j => if j < 12 then lfV D L j else Nt 129 j)) ⟨MRh_row (set1_ne (by decide)) hmt, MRr_row (set1_ne (by decide)) hrt, by rw [set1_ne (by decide)]; exact hnt, by rw [set1_ne (by decide)]; exact hCp.2.2.2.1, fun x hx => by rw [set1_ne (by decide)]; exact t2 x hx⟩ (b := lfV D L) (fun n hn => by rw [set1_at, if_pos hn]) (d := D 21 L.toNat) (by have := q1.2.2.1; omega) (by have := q1.2.2.1; omega)
    refine ⟨N2, ?_, Co_Cp w2, fun _ => by rw [eT]; exact w2, ?_⟩
    · unfold s_X12_course
      rw [k0, Option.bind_some, t4, Option.bind_some, m_latest hrt hnt hw.1, hL, Option.bind_some, if_pos h0, kb, Option.bind_some, if_pos (by unfold fin; omega), set1_ne (show (125 : Nat) ≠ 129 by decide), mr_on hrt L rfl h1 h2, w1, show bit (0 ≤ L) = 1 from bit1.mpr h0]
      rfl
    · refine fs_trans hs0 (fs_trans (M1 := set1 Nt 129 (fun j => if j < 12 then lfV D L j else Nt 129 j)) ?_ (fs_mono (by decide) w3))
      intro k j hnm
      rw [set1_ne (fun e => hnm (.inl (by rw [e]; decide)))]
  · refine ⟨Nt, ?_, hCp, fun h => absurd h h0, hs0⟩
    unfold s_X12_course
    rw [k0, Option.bind_some, t4, Option.bind_some, m_latest hrt hnt hw.1, hL, Option.bind_some, if_neg h0, show bit (0 ≤ L) = 0 from bit0.mpr h0]
theorem m_pass {M D : fM} (hw : WF D) {p q kn t : Int} {b : Int → Int} {day : Int} (hl : Co M D p q kn t b (day - 1)) (hp : 0 ≤ p) (hp2 : p < D 4 13) (ht : 0 ≤ t) (htd : t ≤ day - 1) (hd : day < 364) : ∃ M', s_X12_pass M day = some ((), M') ∧ Co M' D p q kn t b day ∧ fSame [(122, some 25), (122, some 26)] M M' := by
  obtain ⟨mh, mr, e10, e27, e24, e25, e26, e28, e128, e129⟩ := hl
  have d1 := sT_d D p q kn ht htd (show day - 1 < 364 by omega)
  have d2 := sS_d D p ht htd (show day - 1 < 364 by omega)
  have s1 := sT_s D p q kn day (by omega)
  have s2 := sS_s D p day (by omega)
  have tb := tms_b D p q kn day
  have sb := stv_b D p day
  have hany := (anyI_iff (shkP D p q kn day) (nR D)).2
  have j24 : ∀ u, u = tms D p q kn day → s_X12_pass_j24 M (day / 7) (M 122 25) u = some ((), fup (fup M 122 25 (M 122 25 + u)) 122 26 (M 122 26 + stv D p day)) := by
    intro u hu
    unfold s_X12_pass_j24
    have mh' : MRh (fup M 122 25 (M 122 25 + u)) 124 0 D := MRh_row (fup_ne (by decide)) mh
    rw [if_pos (by rw [e25]; unfold fin; omega), e27, m_of mh' hw.1 hp hp2 (by decide) (by decide), Option.bind_some]
    unfold stv at sb ⊢
    by_cases w0 : D 10 (p * 10 + 7).toNat = 1
    · rw [if_neg (fun e => e w0)]
      by_cases w1 : day / 7 ≤ 8
      · rw [if_pos w1, if_pos (by rw [e26]; unfold fin; omega), if_pos (show (D 10 (p * 10 + 7).toNat = 1 ∧ (day / 7 ≤ 8 ∨ 44 ≤ day / 7)) from ⟨w0, .inl w1⟩)]
      · rw [if_neg w1]
        by_cases w2 : day / 7 < 44
        · rw [if_pos w2, if_pos (by rw [e26]; unfold fin; omega), if_neg (show ¬ (D 10 (p * 10 + 7).toNat = 1 ∧ (day / 7 ≤ 8 ∨ 44 ≤ day / 7)) from fun e => by omega)]
        · rw [if_neg w2, if_pos (by rw [e26]; unfold fin; omega), if_pos (show (D 10 (p * 10 + 7).toNat = 1 ∧ (day / 7 ≤ 8 ∨ 44 ≤ day / 7)) from ⟨w0, .inr (by omega)⟩)]
    · rw [if_pos w0, if_pos (by rw [e26]; unfold fin; omega), if_neg (show ¬ (D 10 (p * 10 + 7).toNat = 1 ∧ (day / 7 ≤ 8 ∨ 44 ≤ day / 7)) from fun e => w0 e.1)]
  refine ⟨fup (fup M 122 25 (M 122 25 + tms D p q kn day)) 122 26 (M 122 26 + stv D p day), ?_, ?_, fs_up (fs_up fs_refl (.inr (by decide))) (.inr (by decide))⟩
  · unfold s_X12_pass
    rw [if_pos (by omega), e128 day.toNat (by omega), Int.toNat_of_nonneg (by omega), fdiv7 (by omega) (by omega)]
    by_cases h : anyI (shkP D p q kn day) (nR D) = 0
    · rw [if_pos h, j24 1 (by unfold tms; rw [if_neg (by omega)]), show tms D p q kn day = 1 by unfold tms; rw [if_neg (by omega)]]
    · rw [if_neg h, j24 3 (by unfold tms; rw [if_pos (by omega)]), show tms D p q kn day = 3 by unfold tms; rw [if_pos (by omega)]]
  · refine ⟨MRh_row (by rw [fup_ne (by decide), fup_ne (by decide)]) mh, MRr_row (by rw [fup_ne (by decide), fup_ne (by decide)]) mr, e10, e27, e24, ?_, ?_, e28, fun x hx => by rw [fup_ne (by decide), fup_ne (by decide)]; exact e128 x hx, fun n hn => by rw [fup_ne (by decide), fup_ne (by decide)]; exact e129 n hn⟩
    · show M 122 25 + tms D p q kn day = _
      omega
    · show M 122 26 + stv D p day = _
      omega
theorem m_passTo {M D : fM} (hw : WF D) {p q kn t : Int} {b : Int → Int} {day : Int} (hl : Co M D p q kn t b t) (hp : 0 ≤ p) (hp2 : p < D 4 13) (ht : 0 ≤ t) (htd : t ≤ day) (hd : day < 364) : ∃ M', s_X12_passTo M day = some ((), M') ∧ Co M' D p q kn t b day ∧ fSame [(122, some 25), (122, some 26)] M M' := by
  have key : ∀ (m : Nat) (x : Int) (N : fM), day - x = m → t ≤ x → Co N D p q kn t b x → ∃ N', fLp (fun s : Int × fM => s_X12_passTo_b7 s.2 day s.1) (x + 1, N) = some N' ∧ Co N' D p q kn t b day ∧ fSame [(122, some 25), (122, some 26)] N N' := by
    intro m
    induction m with
    | zero =>
      intro x N hx htx hN
      have : x = day := by omega
      subst this
      refine ⟨N, ?_, hN, fs_refl⟩
      rw [fLp_eq]
      show (s_X12_passTo_b7 N x (x + 1)).bind _ = _
      unfold s_X12_passTo_b7
      rw [if_pos (by omega)]
      rfl
    | succ m ih =>
      intro x N hx htx hN
      obtain ⟨N1, p1, p2, p3⟩ := m_pass hw (day := x + 1) (by rw [show x + 1 - 1 = x by omega]; exact hN) hp hp2 ht (by omega) (by omega)
      obtain ⟨N2, q1, q2, q3⟩ := ih (x + 1) N1 (by omega) (by omega) p2
      refine ⟨N2, ?_, q2, fs_trans p3 q3⟩
      rw [fLp_eq]
      show (s_X12_passTo_b7 N day (x + 1)).bind _ = _
      unfold s_X12_passTo_b7
      rw [if_neg (by omega), p1, Option.bind_some, if_pos (by unfold fin; omega)]
      exact q1
  obtain ⟨N', a1, a2, a3⟩ := key (day - t).toNat t M (by omega) (by omega) hl
  refine ⟨N', ?_, a2, a3⟩
  unfold s_X12_passTo s_X12_passTo_l7
  rw [hl.2.2.2.2.1, if_pos (by unfold fin; omega), a1]
  rfl
