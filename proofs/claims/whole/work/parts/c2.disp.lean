/-! ===== lines of a house: which line, all lines ===== -/
theorem w_c {c : Option ((Unit ⊕ Unit) × fM)} : c.bind (fun y : (Unit ⊕ Unit) × fM => fel y.1 (fun _ => some (Sum.inl (), y.2)) (some (Sum.inr (), y.2))) = c := by
  cases c with
  | none => rfl
  | some y =>
    obtain ⟨y1, y2⟩ := y
    cases y1 with
    | inl u => rfl
    | inr u => rfl
theorem LnO_m {c : Option ((Unit ⊕ Unit) × fM)} {m : Option (Int × fM)} {K N : fM} {b : Nat → Int} {L lim p : Nat} (h : LnO c m K N b L lim p) : LnO c (m.bind (fun y : Int × fM => if b01 y.1 then some (y.1, y.2) else none)) K N b L lim p := by
  rcases h with ⟨K', N', p', h1, h2, h3⟩ | ⟨K', N', h1, h2, h3⟩
  · left
    refine ⟨K', N', p', h1, ?_, h3⟩
    rw [h2, Option.bind_some]
    exact if_pos (.inr rfl)
  · right
    refine ⟨K', N', h1, ?_, h3⟩
    rw [h2, Option.bind_some]
    exact if_pos (.inl rfl)
noncomputable def cLine (K : fM) (x : Int) : Option ((Unit ⊕ Unit) × fM) := if 8 < x then s_X3_readNameLine K x else s_X3_readRuleLine K x
theorem ln_line {K N : fM} {b : Nat → Int} {L lim p : Nat} (hA : StA K N b L lim p) (hH : HD (dr K) N) (hT : Tb K N) : LnO (cLine K (kx b L lim p)) (s_X12_line N) K N b L lim p := by
  have hw := fun (q : Nat) (hq : q < 30) (z : Int) (hz : z = enc8 (kwW q)) => m_word hA.2.2.2.1 hA.2.2.2.2.1 q hq z hz
  have w0 := hw 0 (by decide) 499850046565 (by decide +kernel)
  have w1 := hw 1 (by decide) 1684106608 (by decide +kernel)
  have w2 := hw 2 (by decide) 1952805485 (by decide +kernel)
  have w3 := hw 3 (by decide) 6710629 (by decide +kernel)
  have w4 := hw 4 (by decide) 1937076837 (by decide +kernel)
  have w5 := hw 5 (by decide) 1667328869 (by decide +kernel)
  have w6 := hw 6 (by decide) 2002873451 (by decide +kernel)
  have w7 := hw 7 (by decide) 2003792491 (by decide +kernel)
  have w8 := hw 8 (by decide) 6578553 (by decide +kernel)
  have w9 := hw 9 (by decide) 482804330095 (by decide +kernel)
  have w10 := hw 10 (by decide) 500186375538 (by decide +kernel)
  have w11 := hw 11 (by decide) 483006638444 (by decide +kernel)
  have w12 := hw 12 (by decide) 499917087592 (by decide +kernel)
  obtain ⟨x, hx⟩ : ∃ x, x = kx b L lim p := ⟨_, rfl⟩
  rw [← hx] at w0 w1 w2 w3 w4 w5 w6 w7 w8 w9 w10 w11 w12 ⊢
  have hl : s_X12_line N = s_X12_line N := rfl
  conv at hl => rhs; unfold s_X12_line
  rw [w0, Option.bind_some, bit_if, w1, Option.bind_some, bit_if, w2, Option.bind_some, bit_if, w3, Option.bind_some, bit_if, w4, Option.bind_some, bit_if, w5, Option.bind_some, bit_if, w6, Option.bind_some, bit_if, w7, Option.bind_some, bit_if, w8, Option.bind_some, bit_if, w9, Option.bind_some, bit_if, w10, Option.bind_some, bit_if, w11, Option.bind_some, bit_if, w12, Option.bind_some, bit_if] at hl
  by_cases e0 : x = 0
  · rw [if_pos (show x = ((0 : Nat) : Int) from e0)] at hl
    have hc : cLine K x = s_X3_readTable K := by
      unfold cLine
      rw [if_neg (show ¬ 8 < x by omega)]
      unfold s_X3_readRuleLine
      rw [if_pos e0]
      exact w_c
    rw [hl, hc]
    rw [hx] at e0
    exact LnO_m (ln_table hA hH hT e0)
  · skip
    by_cases e1 : x = 1
    · rw [if_neg (show ¬ x = ((0 : Nat) : Int) from e0), if_pos (show x = ((1 : Nat) : Int) from e1)] at hl
      have hc : cLine K x = s_X3_readDamp K := by
        unfold cLine
        rw [if_neg (show ¬ 8 < x by omega)]
        unfold s_X3_readRuleLine
        rw [if_neg e0, if_pos e1]
        exact w_c
      rw [hl, hc]
      rw [hx] at e1
      exact LnO_m (ln_damp hA hH hT e1)
    · skip
      by_cases e2 : x = 2
      · rw [if_neg (show ¬ x = ((0 : Nat) : Int) from e0), if_neg (show ¬ x = ((1 : Nat) : Int) from e1), if_pos (show x = ((2 : Nat) : Int) from e2)] at hl
        have hc : cLine K x = s_X3_readTerm K := by
          unfold cLine
          rw [if_neg (show ¬ 8 < x by omega)]
          unfold s_X3_readRuleLine
          rw [if_neg e0, if_neg e1, if_pos e2]
          exact w_c
        rw [hl, hc]
        rw [hx] at e2
        exact LnO_m (ln_term hA hH hT e2)
      · skip
        by_cases e3 : x = 3
        · rw [if_neg (show ¬ x = ((0 : Nat) : Int) from e0), if_neg (show ¬ x = ((1 : Nat) : Int) from e1), if_neg (show ¬ x = ((2 : Nat) : Int) from e2), if_pos (show x = ((3 : Nat) : Int) from e3)] at hl
          have hc : cLine K x = s_X3_readFee K := by
            unfold cLine
            rw [if_neg (show ¬ 8 < x by omega)]
            unfold s_X3_readRuleLine
            rw [if_neg e0, if_neg e1, if_neg e2, if_pos e3]
            exact w_c
          rw [hl, hc]
          rw [hx] at e3
          exact LnO_m (ln_fee hA hH hT e3)
        · skip
          by_cases e4 : x = 4
          · rw [if_neg (show ¬ x = ((0 : Nat) : Int) from e0), if_neg (show ¬ x = ((1 : Nat) : Int) from e1), if_neg (show ¬ x = ((2 : Nat) : Int) from e2), if_neg (show ¬ x = ((3 : Nat) : Int) from e3), if_pos (show x = ((4 : Nat) : Int) from e4)] at hl
            have hc : cLine K x = s_X3_readRule K 4 0 0 99 := by
              unfold cLine
              rw [if_neg (show ¬ 8 < x by omega)]
              unfold s_X3_readRuleLine
              rw [if_neg e0, if_neg e1, if_neg e2, if_neg e3, if_pos e4, e4]
              exact w_c
            rw [hl, hc]
            rw [hx] at e4
            exact LnO_m (ln_rule hA hH hT (kw := 4) (bit := 1) (j := 0) (by unfold prK; decide) (by decide) (fun v v0 v1 => by omega) e4 (by decide))
          · skip
            by_cases e5 : x = 5
            · rw [if_neg (show ¬ x = ((0 : Nat) : Int) from e0), if_neg (show ¬ x = ((1 : Nat) : Int) from e1), if_neg (show ¬ x = ((2 : Nat) : Int) from e2), if_neg (show ¬ x = ((3 : Nat) : Int) from e3), if_neg (show ¬ x = ((4 : Nat) : Int) from e4), if_pos (show x = ((5 : Nat) : Int) from e5)] at hl
              have hc : cLine K x = s_X3_readRule K 5 1 0 999 := by
                unfold cLine
                rw [if_neg (show ¬ 8 < x by omega)]
                unfold s_X3_readRuleLine
                rw [if_neg e0, if_neg e1, if_neg e2, if_neg e3, if_neg e4, if_pos e5, e5]
                exact w_c
              rw [hl, hc]
              rw [hx] at e5
              exact LnO_m (ln_rule hA hH hT (kw := 5) (bit := 2) (j := 1) (by unfold prK; decide) (by decide) (fun v v0 v1 => by omega) e5 (by decide))
            · skip
              by_cases e6 : x = 6
              · rw [if_neg (show ¬ x = ((0 : Nat) : Int) from e0), if_neg (show ¬ x = ((1 : Nat) : Int) from e1), if_neg (show ¬ x = ((2 : Nat) : Int) from e2), if_neg (show ¬ x = ((3 : Nat) : Int) from e3), if_neg (show ¬ x = ((4 : Nat) : Int) from e4), if_neg (show ¬ x = ((5 : Nat) : Int) from e5), if_pos (show x = ((6 : Nat) : Int) from e6)] at hl
                have hc : cLine K x = s_X3_readRule K 6 2 1 20 := by
                  unfold cLine
                  rw [if_neg (show ¬ 8 < x by omega)]
                  unfold s_X3_readRuleLine
                  rw [if_neg e0, if_neg e1, if_neg e2, if_neg e3, if_neg e4, if_neg e5, if_pos e6, e6]
                  exact w_c
                rw [hl, hc]
                rw [hx] at e6
                exact LnO_m (ln_rule hA hH hT (kw := 6) (bit := 3) (j := 2) (by unfold prK; decide) (by decide) (fun v v0 v1 => by omega) e6 (by decide))
              · skip
                by_cases e7 : x = 7
                · rw [if_neg (show ¬ x = ((0 : Nat) : Int) from e0), if_neg (show ¬ x = ((1 : Nat) : Int) from e1), if_neg (show ¬ x = ((2 : Nat) : Int) from e2), if_neg (show ¬ x = ((3 : Nat) : Int) from e3), if_neg (show ¬ x = ((4 : Nat) : Int) from e4), if_neg (show ¬ x = ((5 : Nat) : Int) from e5), if_neg (show ¬ x = ((6 : Nat) : Int) from e6), if_pos (show x = ((7 : Nat) : Int) from e7)] at hl
                  have hc : cLine K x = s_X3_readRule K 7 3 10 120 := by
                    unfold cLine
                    rw [if_neg (show ¬ 8 < x by omega)]
                    unfold s_X3_readRuleLine
                    rw [if_neg e0, if_neg e1, if_neg e2, if_neg e3, if_neg e4, if_neg e5, if_neg e6, if_pos e7, e7]
                    exact w_c
                  rw [hl, hc]
                  rw [hx] at e7
                  exact LnO_m (ln_rule hA hH hT (kw := 7) (bit := 4) (j := 3) (by unfold prK; decide) (by decide) (fun v v0 v1 => by omega) e7 (by decide))
                · skip
                  by_cases e8 : x = 8
                  · rw [if_neg (show ¬ x = ((0 : Nat) : Int) from e0), if_neg (show ¬ x = ((1 : Nat) : Int) from e1), if_neg (show ¬ x = ((2 : Nat) : Int) from e2), if_neg (show ¬ x = ((3 : Nat) : Int) from e3), if_neg (show ¬ x = ((4 : Nat) : Int) from e4), if_neg (show ¬ x = ((5 : Nat) : Int) from e5), if_neg (show ¬ x = ((6 : Nat) : Int) from e6), if_neg (show ¬ x = ((7 : Nat) : Int) from e7), if_pos (show x = ((8 : Nat) : Int) from e8)] at hl
                    have hc : cLine K x = s_X3_readDay K := by
                      unfold cLine
                      rw [if_neg (show ¬ 8 < x by omega)]
                      unfold s_X3_readRuleLine
                      rw [if_neg e0, if_neg e1, if_neg e2, if_neg e3, if_neg e4, if_neg e5, if_neg e6, if_neg e7, if_pos e8]
                      exact w_c
                    rw [hl, hc]
                    rw [hx] at e8
                    exact ln_day hA hH hT e8 rfl
                  · skip
                    by_cases e9 : x = 9
                    · rw [if_neg (show ¬ x = ((0 : Nat) : Int) from e0), if_neg (show ¬ x = ((1 : Nat) : Int) from e1), if_neg (show ¬ x = ((2 : Nat) : Int) from e2), if_neg (show ¬ x = ((3 : Nat) : Int) from e3), if_neg (show ¬ x = ((4 : Nat) : Int) from e4), if_neg (show ¬ x = ((5 : Nat) : Int) from e5), if_neg (show ¬ x = ((6 : Nat) : Int) from e6), if_neg (show ¬ x = ((7 : Nat) : Int) from e7), if_neg (show ¬ x = ((8 : Nat) : Int) from e8), if_pos (show x = ((9 : Nat) : Int) from e9)] at hl
                      have hc : cLine K x = cPiano K := by
                        unfold cLine
                        rw [if_pos (show 8 < x by omega)]
                        unfold s_X3_readNameLine
                        rw [if_pos e9]
                        rfl
                      rw [hl, hc]
                      rw [hx] at e9
                      exact LnO_m (ln_piano hA hH hT e9)
                    · skip
                      by_cases e10 : x = 10
                      · rw [if_neg (show ¬ x = ((0 : Nat) : Int) from e0), if_neg (show ¬ x = ((1 : Nat) : Int) from e1), if_neg (show ¬ x = ((2 : Nat) : Int) from e2), if_neg (show ¬ x = ((3 : Nat) : Int) from e3), if_neg (show ¬ x = ((4 : Nat) : Int) from e4), if_neg (show ¬ x = ((5 : Nat) : Int) from e5), if_neg (show ¬ x = ((6 : Nat) : Int) from e6), if_neg (show ¬ x = ((7 : Nat) : Int) from e7), if_neg (show ¬ x = ((8 : Nat) : Int) from e8), if_neg (show ¬ x = ((9 : Nat) : Int) from e9), if_pos (show x = ((10 : Nat) : Int) from e10)] at hl
                        have hc : cLine K x = cTuner K := by
                          unfold cLine
                          rw [if_pos (show 8 < x by omega)]
                          unfold s_X3_readNameLine
                          rw [if_neg e9, if_pos e10]
                          rfl
                        rw [hl, hc]
                        rw [hx] at e10
                        exact LnO_m (ln_tuner hA hH hT e10)
                      · skip
                        by_cases e11 : x = 11
                        · rw [if_neg (show ¬ x = ((0 : Nat) : Int) from e0), if_neg (show ¬ x = ((1 : Nat) : Int) from e1), if_neg (show ¬ x = ((2 : Nat) : Int) from e2), if_neg (show ¬ x = ((3 : Nat) : Int) from e3), if_neg (show ¬ x = ((4 : Nat) : Int) from e4), if_neg (show ¬ x = ((5 : Nat) : Int) from e5), if_neg (show ¬ x = ((6 : Nat) : Int) from e6), if_neg (show ¬ x = ((7 : Nat) : Int) from e7), if_neg (show ¬ x = ((8 : Nat) : Int) from e8), if_neg (show ¬ x = ((9 : Nat) : Int) from e9), if_neg (show ¬ x = ((10 : Nat) : Int) from e10), if_pos (show x = ((11 : Nat) : Int) from e11)] at hl
                          have hc : cLine K x = cPupil K := by
                            unfold cLine
                            rw [if_pos (show 8 < x by omega)]
                            unfold s_X3_readNameLine
                            rw [if_neg e9, if_neg e10, if_pos e11]
                            rfl
                          rw [hl, hc]
                          rw [hx] at e11
                          exact LnO_m (ln_pupil hA hH hT e11)
                        · skip
                          by_cases e12 : x = 12
                          · rw [if_neg (show ¬ x = ((0 : Nat) : Int) from e0), if_neg (show ¬ x = ((1 : Nat) : Int) from e1), if_neg (show ¬ x = ((2 : Nat) : Int) from e2), if_neg (show ¬ x = ((3 : Nat) : Int) from e3), if_neg (show ¬ x = ((4 : Nat) : Int) from e4), if_neg (show ¬ x = ((5 : Nat) : Int) from e5), if_neg (show ¬ x = ((6 : Nat) : Int) from e6), if_neg (show ¬ x = ((7 : Nat) : Int) from e7), if_neg (show ¬ x = ((8 : Nat) : Int) from e8), if_neg (show ¬ x = ((9 : Nat) : Int) from e9), if_neg (show ¬ x = ((10 : Nat) : Int) from e10), if_neg (show ¬ x = ((11 : Nat) : Int) from e11), if_pos (show x = ((12 : Nat) : Int) from e12)] at hl
                            have hc : cLine K x = s_X3_readTeach K := by
                              unfold cLine
                              rw [if_pos (show 8 < x by omega)]
                              unfold s_X3_readNameLine
                              rw [if_neg e9, if_neg e10, if_neg e11, if_pos e12]
                              exact w_c
                            rw [hl, hc]
                            rw [hx] at e12
                            exact LnO_m (ln_teach hA hH hT e12)
                          · skip
                            rw [if_neg (show ¬ x = ((0 : Nat) : Int) from e0), if_neg (show ¬ x = ((1 : Nat) : Int) from e1), if_neg (show ¬ x = ((2 : Nat) : Int) from e2), if_neg (show ¬ x = ((3 : Nat) : Int) from e3), if_neg (show ¬ x = ((4 : Nat) : Int) from e4), if_neg (show ¬ x = ((5 : Nat) : Int) from e5), if_neg (show ¬ x = ((6 : Nat) : Int) from e6), if_neg (show ¬ x = ((7 : Nat) : Int) from e7), if_neg (show ¬ x = ((8 : Nat) : Int) from e8), if_neg (show ¬ x = ((9 : Nat) : Int) from e9), if_neg (show ¬ x = ((10 : Nat) : Int) from e10), if_neg (show ¬ x = ((11 : Nat) : Int) from e11), if_neg (show ¬ x = ((12 : Nat) : Int) from e12)] at hl
                            obtain ⟨Kf, Nf, q1, q2, q3⟩ := sim_fail hA 1 (by decide)
                            have hc : cLine K x = s_X10_fail K 1 := by
                              unfold cLine
                              by_cases g : 8 < x
                              · rw [if_pos g]
                                unfold s_X3_readNameLine
                                rw [if_neg e9, if_neg e10, if_neg e11, if_neg e12]
                                exact w_c
                              · rw [if_neg g]
                                unfold s_X3_readRuleLine
                                rw [if_neg e0, if_neg e1, if_neg e2, if_neg e3, if_neg e4, if_neg e5, if_neg e6, if_neg e7, if_neg e8]
                                exact w_c
                            rw [hl, hc]
                            exact LnO_m (.inr ⟨Kf, Nf, q1, q2, q3⟩)
