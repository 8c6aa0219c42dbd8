/-! ===== the law, reduced to its start and one call ===== -/
def fjs : List (Nat × Option (Nat × Nat)) := [(0, none), (1, none), (2, none), (1, some (0, 3)), (3, none), (1, some (1, 4)), (0, some (0, 2)), (4, none), (5, none), (4, some (0, 6)), (6, none), (4, some (1, 7)), (7, none), (4, some (2, 8)), (8, none), (4, some (3, 9)), (9, none), (4, some (4, 10)), (10, none), (4, some (5, 11)), (11, none), (4, some (6, 12)), (12, none), (4, some (7, 13)), (13, none), (4, some (8, 14)), (14, none), (4, some (9, 15)), (15, none), (4, some (10, 16)), (16, none), (4, some (11, 17)), (17, none), (4, some (12, 18)), (0, some (1, 5)), (18, none), (19, none), (18, some (0, 20)), (20, none), (18, some (1, 21)), (21, none), (18, some (2, 22)), (22, none), (18, some (3, 23)), (23, none), (18, some (4, 24)), (24, none), (18, some (5, 25)), (25, none), (18, some (6, 26)), (26, none), (18, some (7, 27)), (0, some (2, 19)), (27, none), (27, some (0, 2)), (28, none), (29, none), (28, some (0, 30)), (30, none), (28, some (1, 31)), (31, none), (28, some (2, 32)), (32, none), (28, some (3, 33)), (33, none), (28, some (4, 34)), (34, none), (28, some (5, 35)), (35, none), (28, some (6, 36)), (36, none), (28, some (7, 37)), (37, none), (28, some (8, 38)), (38, none), (28, some (9, 39)), (39, none), (28, some (10, 40)), (40, none), (28, some (11, 41)), (41, none), (28, some (12, 42)), (27, some (1, 29)), (0, some (3, 28)), (42, none), (42, some (0, 2)), (42, some (1, 5)), (42, some (2, 19)), (0, some (4, 43)), (43, none), (44, none), (43, some (2, 45)), (45, none), (43, some (3, 46)), (46, none), (43, some (4, 47)), (43, some (0, 5)), (43, some (1, 19)), (0, some (5, 44)), (47, none), (48, none), (47, some (2, 49)), (49, none), (47, some (3, 50)), (50, none), (47, some (4, 51)), (51, none), (47, some (5, 52)), (52, none), (47, some (6, 53)), (47, some (0, 5)), (47, some (1, 19)), (0, some (6, 48)), (53, none), (53, some (0, 5)), (53, some (1, 19)), (53, some (2, 44)), (0, some (7, 54)), (54, none), (55, none), (54, some (3, 56)), (56, none), (54, some (4, 57)), (57, none), (54, some (5, 58)), (58, none), (54, some (6, 59)), (59, none), (54, some (7, 60)), (60, none), (54, some (8, 61)), (61, none), (54, some (9, 62)), (62, none), (54, some (10, 63)), (63, none), (54, some (11, 64)), (64, none), (54, some (12, 65)), (65, none), (54, some (13, 66)), (66, none), (54, some (14, 67)), (54, some (0, 5)), (54, some (1, 19)), (54, some (2, 44)), (0, some (8, 55)), (67, none), (68, none), (67, some (1, 69)), (69, none), (67, some (2, 70)), (67, some (0, 5)), (0, some (9, 68)), (70, none), (71, none), (70, some (1, 72)), (72, none), (70, some (2, 73)), (70, some (0, 5)), (0, some (10, 71)), (73, none), (0, some (11, 74)), (74, none), (0, some (12, 75)), (75, none), (0, some (13, 76)), (76, none), (77, none), (76, some (0, 78)), (78, none), (76, some (1, 79)), (79, none), (76, some (2, 80)), (80, none), (76, some (3, 81)), (81, none), (76, some (4, 82)), (82, none), (76, some (5, 83)), (83, none), (76, some (6, 84)), (84, none), (76, some (7, 85)), (85, none), (76, some (8, 86)), (86, none), (76, some (9, 87)), (87, none), (76, some (10, 88)), (88, none), (76, some (11, 89)), (89, none), (76, some (12, 90)), (73, some (0, 77)), (90, none), (91, none), (90, some (0, 92)), (92, none), (90, some (1, 93)), (93, none), (90, some (2, 94)), (94, none), (90, some (3, 95)), (95, none), (90, some (4, 96)), (96, none), (90, some (5, 97)), (97, none), (90, some (6, 98)), (98, none), (90, some (7, 99)), (74, some (0, 91)), (99, none), (100, none), (99, some (0, 101)), (101, none), (99, some (1, 102)), (102, none), (99, some (2, 103)), (103, none), (99, some (3, 104)), (104, none), (99, some (4, 105)), (105, none), (99, some (5, 106)), (106, none), (99, some (6, 107)), (107, none), (99, some (7, 108)), (108, none), (99, some (8, 109)), (109, none), (99, some (9, 110)), (110, none), (99, some (10, 111)), (111, none), (99, some (11, 112)), (112, none), (99, some (12, 113)), (73, some (1, 100)), (113, none), (114, none), (113, some (0, 115)), (115, none), (113, some (1, 116)), (116, none), (113, some (2, 117)), (117, none), (113, some (3, 118)), (118, none), (113, some (4, 119)), (119, none), (113, some (5, 120)), (120, none), (113, some (6, 121)), (121, none), (113, some (7, 122)), (74, some (1, 114)), (122, none), (123, none), (122, some (1, 124)), (124, none), (122, some (6, 125)), (125, none), (122, some (7, 126)), (126, none), (122, some (8, 127)), (127, none), (122, some (9, 128)), (128, none), (122, some (22, 129)), (129, none), (122, some (23, 130)), (130, none), (122, some (29, 131)), (131, none), (122, some (30, 132)), (132, none), (122, some (33, 133)), (133, none), (122, some (34, 134)), (134, none), (122, some (35, 135)), (135, none), (122, some (36, 136)), (136, none), (122, some (37, 137)), (137, none), (122, some (38, 138)), (138, none), (122, some (42, 139)), (139, none), (122, some (43, 140)), (140, none), (122, some (44, 141)), (141, none), (122, some (45, 142)), (142, none), (122, some (50, 143)), (143, none), (122, some (52, 144)), (144, none), (122, some (53, 145)), (145, none), (122, some (54, 146)), (146, none), (122, some (55, 147)), (147, none), (122, some (56, 148)), (148, none), (122, some (58, 149)), (149, none), (122, some (59, 150)), (150, none), (122, some (61, 151)), (151, none), (122, some (62, 152)), (152, none), (122, some (63, 153)), (153, none), (122, some (64, 154)), (154, none), (122, some (65, 155)), (155, none)]
abbrev jfin (J : Nat → Nat → Nat) : Nat → Nat → Nat := (fclN (jo_s_X12_init_c123 (fclN (jo_s_X11_init_c1 (fclN J 0)) 122)) 155)
def fjop (J : Nat → Nat → Nat) (o : Nat × Option (Nat × Nat)) : Nat → Nat → Nat := match o with
  | (k, none) => fclN J k
  | (k, some (f, v)) => fupN J k f v
theorem fjop_at (J : Nat → Nat → Nat) (o : Nat × Option (Nat × Nat)) (k f : Nat) (h : o.1 ≠ k) : fjop J o k f = J k f := by
  obtain ⟨a, _ | ⟨b, v⟩⟩ := o
  · unfold fjop fclN
    exact if_neg (fun e => h e.symm)
  · unfold fjop fupN
    exact if_neg (fun e => h e.1.symm)
theorem fjop_c (J J' : Nat → Nat → Nat) (o : Nat × Option (Nat × Nat)) (k f : Nat) (h : J k f = J' k f) : fjop J o k f = fjop J' o k f := by
  obtain ⟨a, _ | ⟨b, v⟩⟩ := o
  · show (if k = a then 0 else J k f) = (if k = a then 0 else J' k f)
    rw [h]
  · show (if k = a ∧ f = b then v else J k f) = (if k = a ∧ f = b then v else J' k f)
    rw [h]
theorem fj_c : ∀ (l : List (Nat × Option (Nat × Nat))) (J J' : Nat → Nat → Nat) (k f : Nat), J k f = J' k f → l.foldl fjop J k f = l.foldl fjop J' k f
  | [], _, _, _, _, h => h
  | o :: l, J, J', k, f, h => fj_c l (fjop J o) (fjop J' o) k f (fjop_c J J' o k f h)
theorem fj_filter : ∀ (l : List (Nat × Option (Nat × Nat))) (J : Nat → Nat → Nat) (k f : Nat), l.foldl fjop J k f = (l.filter (fun o => Nat.beq o.1 k)).foldl fjop J k f
  | [], _, _, _ => rfl
  | o :: l, J, k, f => by
    by_cases h : o.1 = k
    · have hb : Nat.beq o.1 k = true := Nat.beq_eq.mpr h
      rw [List.filter_cons_of_pos (by exact hb)]
      exact fj_filter l (fjop J o) k f
    · have hb : ¬ (Nat.beq o.1 k = true) := fun e => h (Nat.eq_of_beq_eq_true e)
      rw [List.filter_cons_of_neg (by exact hb)]
      rw [← fj_filter l J k f]
      exact fj_c l (fjop J o) J k f (fjop_at J o k f h)
theorem fj_cl : ∀ (l : List (Nat × Option (Nat × Nat))) (J J' : Nat → Nat → Nat) (k f : Nat), (k, none) ∈ l → l.foldl fjop J k f = l.foldl fjop J' k f
  | [], _, _, _, _, h => absurd h (by simp)
  | o :: l, J, J', k, f, h => by
    rcases List.mem_cons.mp h with h | h
    · subst h
      refine fj_c l _ _ k f ?_
      show fclN J k k f = fclN J' k k f
      unfold fclN
      rw [if_pos rfl, if_pos rfl]
    · exact fj_cl l _ _ k f h
theorem fj_hi : ∀ (l : List (Nat × Option (Nat × Nat))) (J : Nat → Nat → Nat) (k f : Nat), J k f = 0 → (∀ o ∈ l, ∀ b v, o.2 = some (b, v) → b ≠ f) → l.foldl fjop J k f = 0
  | [], _, _, _, h, _ => h
  | o :: l, J, k, f, h, hl => by
    refine fj_hi l _ k f ?_ (fun o ho => hl o (List.mem_cons_of_mem _ ho))
    obtain ⟨a, _ | ⟨b, v⟩⟩ := o
    · show fclN J a k f = 0
      unfold fclN
      split <;> first | rfl | exact h
    · show fupN J a b v k f = 0
      unfold fupN
      rw [if_neg (fun e => hl _ List.mem_cons_self b v rfl e.2.symm)]
      exact h
theorem fjs_chk : ∀ k, k < 156 → (k, none) ∈ fjs ∧ ∀ f, f < 66 → (fjs.filter (fun o => Nat.beq o.1 k)).foldl fjop (fun _ _ => 0) k f = fj0 k f := by decide +kernel
theorem fjs_lo : ∀ o ∈ fjs, o.1 < 156 ∧ (∀ b v, o.2 = some (b, v) → b < 66) := by
  have h : (fjs.all fun o => Nat.blt o.1 156 && (match o.2 with | none => true | some (b, _) => Nat.blt b 66)) = true := by decide +kernel
  intro o ho
  have h1 := List.all_eq_true.mp h o ho
  rw [Bool.and_eq_true] at h1
  refine ⟨Nat.le_of_ble_eq_true h1.1, fun b v e => ?_⟩
  have h2 := h1.2
  rw [e] at h2
  exact Nat.le_of_ble_eq_true h2
theorem fble_f {g n c : Nat} (h : c < n) : Nat.ble (g + n) c = false := by
  cases hb : Nat.ble (g + n) c with
  | false => rfl
  | true => have := Nat.le_of_ble_eq_true hb; omega
theorem fbeq_f {g n c : Nat} (h : c < n) : Nat.beq (g + n) c = false := by
  cases hb : Nat.beq (g + n) c with
  | false => rfl
  | true => have := Nat.eq_of_beq_eq_true hb; omega
theorem fj0_hi (k g : Nat) : fj0 k (g + 66) = 0 := by
  unfold fj0
  have hb : ∀ c, c < 66 → Nat.ble (g + 66) c = false := fun c h => fble_f h
  have hq : ∀ c, c < 66 → Nat.beq (g + 66) c = false := fun c h => fbeq_f h
  simp only [hb, hq, Nat.reduceLT, cond_false, Bool.cond_self]
theorem fj0_far (g f : Nat) : fj0 (g + 156) f = 0 := by
  unfold fj0
  have hb : ∀ c, c < 156 → Nat.ble (g + 156) c = false := fun c h => fble_f h
  have hq : ∀ c, c < 156 → Nat.beq (g + 156) c = false := fun c h => fbeq_f h
  simp only [hb, hq, Nat.reduceLT, cond_false]
abbrev fj00 (L : Nat) : Nat → Nat → Nat := fun k i => if k = 1000 then (if i = 0 then L else 0) else 0
set_option maxRecDepth 100000 in
theorem jfin_eq (J : Nat → Nat → Nat) : jfin J = fjs.foldl fjop J := rfl
theorem jfin_fjl (L : Nat) : jfin (fj00 L) = fjl L := by
  rw [jfin_eq]
  funext k f
  unfold fjl
  by_cases hk : k < 156
  · obtain ⟨h1, h2⟩ := fjs_chk k hk
    rw [show Nat.beq k 1000 = false from by cases hb : Nat.beq k 1000 with | false => rfl | true => have := Nat.eq_of_beq_eq_true hb; omega, cond_false]
    by_cases hf : f < 66
    · rw [fj_cl fjs (fj00 L) (fun _ _ => 0) k f h1, fj_filter]
      exact h2 f hf
    · obtain ⟨g, rfl⟩ : ∃ g, f = g + 66 := ⟨f - 66, by omega⟩
      rw [fj0_hi]
      rw [fj_cl fjs (fj00 L) (fun _ _ => 0) k _ h1]
      exact fj_hi fjs _ k _ rfl (fun o ho b v e => by have := (fjs_lo o ho).2 b v e; omega)
  · have h3 : fjs.foldl fjop (fj00 L) k f = fj00 L k f := by
      rw [fj_filter, List.filter_eq_nil_iff.mpr (fun o ho e => by
        have h4 := (fjs_lo o ho).1
        have h5 := Nat.eq_of_beq_eq_true e
        omega)]
      rfl
    rw [h3]
    by_cases h1 : k = 1000
    · subst h1
      show (if 1000 = 1000 then (if f = 0 then L else 0) else 0) = bif Nat.beq 1000 1000 then (bif Nat.beq f 0 then L else 0) else fj0 1000 f
      rw [if_pos rfl]
      rw [show Nat.beq 1000 1000 = true from Nat.beq_eq.mpr rfl, cond_true]
      by_cases hf : f = 0
      · subst hf; rfl
      · rw [if_neg hf]
        cases hb : Nat.beq f 0 with
        | false => rfl
        | true => exact absurd (Nat.eq_of_beq_eq_true hb) hf
    · rw [show Nat.beq k 1000 = false from by cases hb : Nat.beq k 1000 with | false => rfl | true => have := Nat.eq_of_beq_eq_true hb; omega, cond_false]
      obtain ⟨g, rfl⟩ : ∃ g, k = g + 156 := ⟨k - 156, by omega⟩
      rw [fj0_far]
      exact if_neg h1
/-- all rounds of the law, when each keeps I -/
theorem law_loop {I : fM → Prop} {L : Nat} (hL : L ≤ 3072) (step : ∀ (M : fM) (i : Int), I M → 0 ≤ i → i + 6 ≤ L → ∃ M', s_L_law_b23 M (L : Int) i = some (.inl (i + 6, M')) ∧ I M') : ∀ (n : Nat) (M : fM) (i : Int) (cu su : Nat) (o5 o6 o7 : Option fV), I M → 0 ≤ i → (L : Int) - i ≤ n → cu + n ≤ 601022 → su + 6 * n ≤ 7293022 →
    Wp (14, 322, 23, cu, su, [some (fA 1000), some (fA 0), some (fA 122), some (fA 155), some (fI i), o5, o6, o7], []) (156, fjl L, M) (fun o _ => o = .inl (some (fI 1)))
  | n, M, i, cu, su, o5, o6, o7, hI, hi, hn, hc, hs => by
    by_cases hx : i + 6 ≤ L
    · obtain ⟨M', hb, hI'⟩ := step M i hI hi hx
      cases n with
      | zero => omega
      | succ n =>
        refine s_L_law_b23_ok (d := 0) ⟨by omega, by omega⟩ hb ?_ ?_
        · intro i' M2 o5' o6' o7' cu' su' h1 h2 e
          cases e
          exact law_loop hL step n M' (i + 6) cu' su' o5' o6' o7' hI' (by omega) (by omega) (by omega) (by omega)
        · intro e o0' o1' o2' o3' o4' o5' o6' o7' e1
          cases e1
    · have hb : s_L_law_b23 M (L : Int) i = some (.inr M) := by
        unfold s_L_law_b23
        rw [if_pos (by constructor <;> omega), if_pos (by omega)]
      refine s_L_law_b23_ok (d := 0) ⟨by omega, by omega⟩ hb ?_ ?_
      · intro i' M2 o5' o6' o7' cu' su' h1 h2 e
        cases e
      · intro e o0' o1' o2' o3' o4' o5' o6' o7' e1
        refine Wp.run 1 (f' := (14, 322, 1764, cu, su, [_, _, _, _, _, _, _, _], [fI 1])) (h' := (156, fjl L, e)) rfl trivial ?_
        refine Wp.done rfl ⟨.inr rfl, ?_, ?_, fun h => absurd h (by decide)⟩ rfl
        · show cu ≤ 601023
          omega
        · show su ≤ 7293028
          omega
abbrev fm00 (X : Nat → Nat → Int) : fM := fun k j => if 1000 ≤ k then X k j else 0
/-- the law from its first instruction on -/
theorem law_of {I : Nat → fM → Prop} (hinit : ∀ (L : Nat) (X : Nat → Nat → Int), L ≤ 3072 → (∀ k j, -2147483648 ≤ X k j ∧ X k j < 2147483648) → (∀ j, j < 6 → X 1001 j = (fR1.getD j 0).toInt) → (∀ j, j < 4 → X 1002 j = (fR2.getD j 0).toInt) → (∀ j, j < 4 → X 1003 j = (fR3.getD j 0).toInt) → (∀ j, j < 162 → X 1004 j = (ftextB.getD j 0).toInt) →
      ∃ M1 M2, s_X11_init_c1 (fclr (fm00 X) 0) = some ((), M1) ∧ s_X12_init_c123 (fclr M1 122) = some ((), M2) ∧ I L (fclr M2 155))
    (step : ∀ (L : Nat) (M : fM) (i : Int), L ≤ 3072 → I L M → 0 ≤ i → i + 6 ≤ L → ∃ M', s_L_law_b23 M (L : Int) i = some (.inl (i + 6, M')) ∧ I L M') : fLaw := by
  intro L X hL hX x1 x2 x3 x4
  obtain ⟨M1, M2, h1, h2, hI⟩ := hinit L X hL hX x1 x2 x3 x4
  show Wp _ (0, fj00 L, fm00 X) _
  refine Wp.run 2 (P := [0 + 1 ≤ 601023 ∧ 0 + 15 ≤ 7293028]) (f' := (14, 322, 4, 1, 15, [some (fA 1000), none, none, none, none, none, none, none], [fA 0, fA 0])) (h' := (1, fclN (fj00 L) 0, fclr (fm00 X) 0)) rfl (by decide : 0 + 1 ≤ 601023 ∧ 0 + 15 ≤ 7293028) ?_
  refine Wp.call rfl (by decide) (s_X11_init_c1_ok (d := 8) h1 ?_)
  show Wp (14, 322, 7, 122, 26292, [some (fA 1000), none, none, none, none, none, none, none], [fA 0]) (122, jo_s_X11_init_c1 (fclN (fj00 L) 0), M1) _
  refine Wp.run 3 (P := [122 + 1 ≤ 601023 ∧ 26292 + 66 ≤ 7293028]) (f' := (14, 322, 12, 123, 26358, [some (fA 1000), some (fA 0), none, none, none, none, none, none], [fA 122, fA 122])) (h' := (123, fclN (jo_s_X11_init_c1 (fclN (fj00 L) 0)) 122, fclr M1 122)) rfl (by decide : 122 + 1 ≤ 601023 ∧ 26292 + 66 ≤ 7293028) ?_
  refine Wp.call rfl (by decide) (s_X12_init_c123_ok (d := 12) h2 ?_)
  show Wp (14, 322, 15, 155, 82944, [some (fA 1000), some (fA 0), none, none, none, none, none, none], [fA 122]) (155, jo_s_X12_init_c123 (fclN (jo_s_X11_init_c1 (fclN (fj00 L) 0)) 122), M2) _
  refine Wp.run 6 (P := [(1 : Int) = 1 ∧ 155 + 1 ≤ 601023 ∧ 82944 + 1 ≤ 7293028]) (f' := (14, 322, 23, 156, 82945, [some (fA 1000), some (fA 0), some (fA 122), some (fA 155), some (fI 0), none, none, none], [])) (h' := (156, jfin (fj00 L), fclr M2 155)) rfl (by decide : (1 : Int) = 1 ∧ 155 + 1 ≤ 601023 ∧ 82944 + 1 ≤ 7293028) ?_
  rw [jfin_fjl]
  exact law_loop hL (fun M i => step L M i hL) L _ 0 156 82945 _ _ _ hI (by omega) (by omega) (by omega) (by omega)
