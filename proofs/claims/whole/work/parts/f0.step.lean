/-! ===== one call of the law ===== -/
theorem th_fin {M2 : fM} {k v n0 l4 : Int} (h0 : 0 ≤ l4) (h1 : l4 + 6 ≤ n0) (hn : n0 ≤ 3072) (e4 : M2 122 0 = k) (e5 : k = 0 → M2 155 0 = v) : ((s_X12_thrown M2).bind fun y387 => if y387 = k then (if ¬ k = 0 then (if fin (l4 + 6) then some (.inl ((l4 + 6), M2)) else none) else (if (M2 155 0) = v then (if fin (l4 + 6) then some (.inl ((l4 + 6), M2)) else none) else none)) else none : Option ((Int × fM) ⊕ fM)) = some (.inl (l4 + 6, M2)) := by
  have hth : s_X12_thrown M2 = some (M2 122 0) := rfl
  rw [hth, Option.bind_some, if_pos e4]
  by_cases hk : k = 0
  · rw [if_neg (fun e => e hk), if_pos (e5 hk), if_pos (by unfold fin; omega)]
  · rw [if_pos hk, if_pos (by unfold fin; omega)]
noncomputable def cs_0 (M : fM) (n0 l4 : Int) : Option ((Int × fM) ⊕ fM) :=
  if fin (l4 + 1) ∧ (0 ≤ (l4 + 1) ∧ (l4 + 1) < n0) ∧ fin (l4 + 2) ∧ (0 ≤ (l4 + 2) ∧ (l4 + 2) < n0) ∧ fin (l4 + 3) ∧ (0 ≤ (l4 + 3) ∧ (l4 + 3) < n0) ∧ fin (l4 + 4) then
    if (0 ≤ (l4 + 4) ∧ (l4 + 4) < n0) ∧ fin (l4 + 5) ∧ (0 ≤ (l4 + 5) ∧ (l4 + 5) < n0) then
      (s_X11_feed M (M 1000 (l4 + 1).toNat) (M 1000 (l4 + 2).toNat) (M 1000 (l4 + 3).toNat) (M 1000 (l4 + 4).toNat) (M 1000 (l4 + 5).toNat)).bind fun y243 =>
        if fin (l4 + 1) ∧ (0 ≤ (l4 + 1) ∧ (l4 + 1) < n0) ∧ fin (l4 + 2) ∧ (0 ≤ (l4 + 2) ∧ (l4 + 2) < n0) ∧ fin (l4 + 3) ∧ (0 ≤ (l4 + 3) ∧ (l4 + 3) < n0) ∧ fin (l4 + 4) then
          if (0 ≤ (l4 + 4) ∧ (l4 + 4) < n0) ∧ fin (l4 + 5) ∧ (0 ≤ (l4 + 5) ∧ (l4 + 5) < n0) then
            (s_X12_feed y243.2 (y243.2 1000 (l4 + 1).toNat) (y243.2 1000 (l4 + 2).toNat) (y243.2 1000 (l4 + 3).toNat) (y243.2 1000 (l4 + 4).toNat) (y243.2 1000 (l4 + 5).toNat)).bind fun y277 =>
              if y243.1 = y277.1 then
                if fin (l4 + 6) then
                  some (.inl ((l4 + 6), y277.2))
                else none
              else
                none
          else none
        else none
    else none
  else none
theorem st_0 {M : fM} {n0 l4 : Int} (hI : Iv M) (hn : n0 ≤ 3072) (h0 : 0 ≤ l4) (h1 : l4 + 6 ≤ n0) : ∃ M', cs_0 M n0 l4 = some (.inl (l4 + 6, M')) ∧ Iv M' := by
  obtain ⟨v, M1, M2, e1, e0, e2, e3⟩ := k_feed hI (M 1000 (l4 + 1).toNat) (M 1000 (l4 + 2).toNat) (M 1000 (l4 + 3).toNat) (M 1000 (l4 + 4).toNat) (M 1000 (l4 + 5).toNat)
  refine ⟨M2, ?_, e3⟩
  unfold cs_0
  rw [if_pos (by first | (unfold fin; omega) | omega), if_pos (by first | (unfold fin; omega) | omega), e1, Option.bind_some, if_pos (by first | (unfold fin; omega) | omega), if_pos (by first | (unfold fin; omega) | omega)]
  show (s_X12_feed M1 (M1 1000 (l4 + 1).toNat) (M1 1000 (l4 + 2).toNat) (M1 1000 (l4 + 3).toNat) (M1 1000 (l4 + 4).toNat) (M1 1000 (l4 + 5).toNat)).bind _ = _
  rw [e0, e2, Option.bind_some, if_pos (show v = v from rfl), if_pos (by first | (unfold fin; omega) | omega)]
noncomputable def cs_1 (M : fM) (n0 l4 : Int) : Option ((Int × fM) ⊕ fM) :=
  if fin (l4 + 1) ∧ (0 ≤ (l4 + 1) ∧ (l4 + 1) < n0) then
    (s_X11_end M (M 1000 (l4 + 1).toNat)).bind fun y292 =>
      if fin (l4 + 1) ∧ (0 ≤ (l4 + 1) ∧ (l4 + 1) < n0) then
        (s_X12_end y292.2 (y292.2 1000 (l4 + 1).toNat)).bind fun y302 =>
          if y292.1 = y302.1 then
            if fin (l4 + 6) then
              some (.inl ((l4 + 6), y302.2))
            else none
          else
            none
      else none
  else none
theorem st_1 {M : fM} {n0 l4 : Int} (hI : Iv M) (hn : n0 ≤ 3072) (h0 : 0 ≤ l4) (h1 : l4 + 6 ≤ n0) : ∃ M', cs_1 M n0 l4 = some (.inl (l4 + 6, M')) ∧ Iv M' := by
  obtain ⟨v, M1, M2, e1, e0, e2, e3⟩ := k_end hI (M 1000 (l4 + 1).toNat)
  refine ⟨M2, ?_, e3⟩
  unfold cs_1
  rw [if_pos (by first | (unfold fin; omega) | omega), e1, Option.bind_some, if_pos (by first | (unfold fin; omega) | omega)]
  show (s_X12_end M1 (M1 1000 (l4 + 1).toNat)).bind _ = _
  rw [e0, e2, Option.bind_some, if_pos (show v = v from rfl), if_pos (by first | (unfold fin; omega) | omega)]
noncomputable def cs_2 (M : fM) (n0 l4 : Int) : Option ((Int × fM) ⊕ fM) :=
  (s_X11_house M).bind fun y311 =>
    (s_X12_house y311.2).bind fun y315 =>
      if y311.1 = y315.1 then
        if fin (l4 + 6) then
          some (.inl ((l4 + 6), y315.2))
        else none
      else
        none
theorem st_2 {M : fM} {n0 l4 : Int} (hI : Iv M) (hn : n0 ≤ 3072) (h0 : 0 ≤ l4) (h1 : l4 + 6 ≤ n0) : ∃ M', cs_2 M n0 l4 = some (.inl (l4 + 6, M')) ∧ Iv M' := by
  obtain ⟨v, M1, M2, e1, e0, e2, e3⟩ := k_house hI 
  refine ⟨M2, ?_, e3⟩
  unfold cs_2
  rw [e1, Option.bind_some]
  show (s_X12_house M1 ).bind _ = _
  rw [e2, Option.bind_some, if_pos (show v = v from rfl), if_pos (by first | (unfold fin; omega) | omega)]
noncomputable def cs_3 (M : fM) (n0 l4 : Int) : Option ((Int × fM) ⊕ fM) :=
  (s_X11_records M).bind fun y324 =>
    (s_X12_records y324.2).bind fun y328 =>
      if y324.1 = y328.1 then
        if fin (l4 + 6) then
          some (.inl ((l4 + 6), y328.2))
        else none
      else
        none
theorem st_3 {M : fM} {n0 l4 : Int} (hI : Iv M) (hn : n0 ≤ 3072) (h0 : 0 ≤ l4) (h1 : l4 + 6 ≤ n0) : ∃ M', cs_3 M n0 l4 = some (.inl (l4 + 6, M')) ∧ Iv M' := by
  obtain ⟨v, M1, M2, e1, e0, e2, e3⟩ := k_records hI 
  refine ⟨M2, ?_, e3⟩
  unfold cs_3
  rw [e1, Option.bind_some]
  show (s_X12_records M1 ).bind _ = _
  rw [e2, Option.bind_some, if_pos (show v = v from rfl), if_pos (by first | (unfold fin; omega) | omega)]
noncomputable def cs_4 (M : fM) (n0 l4 : Int) : Option ((Int × fM) ⊕ fM) :=
  (s_X11_fault M).bind fun y337 =>
    (s_X12_fault M).bind fun y341 =>
      if y337 = y341.1 then
        if fin (l4 + 6) then
          some (.inl ((l4 + 6), y341.2))
        else none
      else
        none
theorem st_4 {M : fM} {n0 l4 : Int} (hI : Iv M) (hn : n0 ≤ 3072) (h0 : 0 ≤ l4) (h1 : l4 + 6 ≤ n0) : ∃ M', cs_4 M n0 l4 = some (.inl (l4 + 6, M')) ∧ Iv M' := by
  obtain ⟨v, M2, e1, e2, e3⟩ := k_fault hI 
  refine ⟨M2, ?_, e3⟩
  unfold cs_4
  rw [e1, Option.bind_some, e2, Option.bind_some, if_pos (show v = v from rfl), if_pos (by first | (unfold fin; omega) | omega)]
noncomputable def cs_5 (M : fM) (n0 l4 : Int) : Option ((Int × fM) ⊕ fM) :=
  if fin (l4 + 1) ∧ (0 ≤ (l4 + 1) ∧ (l4 + 1) < n0) ∧ fin (l4 + 2) ∧ (0 ≤ (l4 + 2) ∧ (l4 + 2) < n0) then
    (s_L_piano_0_155 M (M 1000 (l4 + 1).toNat) (M 1000 (l4 + 2).toNat)).bind fun y363 =>
      if fin (l4 + 1) ∧ (0 ≤ (l4 + 1) ∧ (l4 + 1) < n0) ∧ fin (l4 + 2) ∧ (0 ≤ (l4 + 2) ∧ (l4 + 2) < n0) then
        (s_X12_piano y363.2 (y363.2 1000 (l4 + 1).toNat) (y363.2 1000 (l4 + 2).toNat)).bind fun y381 =>
          (s_X12_thrown y381.2).bind fun y387 =>
            if y387 = y363.1 then
              if ¬ y363.1 = 0 then
                if fin (l4 + 6) then
                  some (.inl ((l4 + 6), y381.2))
                else none
              else
                if (y381.2 155 0) = y381.1 then
                  if fin (l4 + 6) then
                    some (.inl ((l4 + 6), y381.2))
                  else none
                else
                  none
            else
              none
      else none
  else none
theorem st_5 {M : fM} {n0 l4 : Int} (hI : Iv M) (hn : n0 ≤ 3072) (h0 : 0 ≤ l4) (h1 : l4 + 6 ≤ n0) : ∃ M', cs_5 M n0 l4 = some (.inl (l4 + 6, M')) ∧ Iv M' := by
  obtain ⟨k, M1, v, M2, e1, e0, e2, e4, e5, e3⟩ := k_piano hI (M 1000 (l4 + 1).toNat) (M 1000 (l4 + 2).toNat)
  refine ⟨M2, ?_, e3⟩
  unfold cs_5
  rw [if_pos (by first | (unfold fin; omega) | omega), e1, Option.bind_some, if_pos (by first | (unfold fin; omega) | omega)]
  show (s_X12_piano M1 (M1 1000 (l4 + 1).toNat) (M1 1000 (l4 + 2).toNat)).bind _ = _
  rw [e0, e2, Option.bind_some]
  exact th_fin h0 h1 hn e4 e5
noncomputable def cs_6 (M : fM) (n0 l4 : Int) : Option ((Int × fM) ⊕ fM) :=
  if fin (l4 + 1) ∧ (0 ≤ (l4 + 1) ∧ (l4 + 1) < n0) ∧ fin (l4 + 2) ∧ (0 ≤ (l4 + 2) ∧ (l4 + 2) < n0) then
    (s_X11_week M (M 1000 (l4 + 1).toNat) (M 1000 (l4 + 2).toNat)).bind fun y430 =>
      if fin (l4 + 1) ∧ (0 ≤ (l4 + 1) ∧ (l4 + 1) < n0) ∧ fin (l4 + 2) ∧ (0 ≤ (l4 + 2) ∧ (l4 + 2) < n0) then
        (s_X12_week M (M 1000 (l4 + 1).toNat) (M 1000 (l4 + 2).toNat)).bind fun y446 =>
          if y430 = y446.1 then
            if fin (l4 + 6) then
              some (.inl ((l4 + 6), y446.2))
            else none
          else
            none
      else none
  else none
theorem st_6 {M : fM} {n0 l4 : Int} (hI : Iv M) (hn : n0 ≤ 3072) (h0 : 0 ≤ l4) (h1 : l4 + 6 ≤ n0) : ∃ M', cs_6 M n0 l4 = some (.inl (l4 + 6, M')) ∧ Iv M' := by
  obtain ⟨v, M2, e1, e2, e3⟩ := k_week hI (M 1000 (l4 + 1).toNat) (M 1000 (l4 + 2).toNat)
  refine ⟨M2, ?_, e3⟩
  unfold cs_6
  rw [if_pos (by first | (unfold fin; omega) | omega), e1, Option.bind_some, if_pos (by first | (unfold fin; omega) | omega), e2, Option.bind_some, if_pos (show v = v from rfl), if_pos (by first | (unfold fin; omega) | omega)]
noncomputable def cs_7 (M : fM) (n0 l4 : Int) : Option ((Int × fM) ⊕ fM) :=
  if fin (l4 + 1) ∧ (0 ≤ (l4 + 1) ∧ (l4 + 1) < n0) ∧ fin (l4 + 2) ∧ (0 ≤ (l4 + 2) ∧ (l4 + 2) < n0) then
    (s_X11_beats M (M 1000 (l4 + 1).toNat) (M 1000 (l4 + 2).toNat)).bind fun y467 =>
      if fin (l4 + 1) ∧ (0 ≤ (l4 + 1) ∧ (l4 + 1) < n0) ∧ fin (l4 + 2) ∧ (0 ≤ (l4 + 2) ∧ (l4 + 2) < n0) then
        (s_X12_beats M (M 1000 (l4 + 1).toNat) (M 1000 (l4 + 2).toNat)).bind fun y483 =>
          if y467 = y483.1 then
            if fin (l4 + 6) then
              some (.inl ((l4 + 6), y483.2))
            else none
          else
            none
      else none
  else none
theorem st_7 {M : fM} {n0 l4 : Int} (hI : Iv M) (hn : n0 ≤ 3072) (h0 : 0 ≤ l4) (h1 : l4 + 6 ≤ n0) : ∃ M', cs_7 M n0 l4 = some (.inl (l4 + 6, M')) ∧ Iv M' := by
  obtain ⟨v, M2, e1, e2, e3⟩ := k_beats hI (M 1000 (l4 + 1).toNat) (M 1000 (l4 + 2).toNat)
  refine ⟨M2, ?_, e3⟩
  unfold cs_7
  rw [if_pos (by first | (unfold fin; omega) | omega), e1, Option.bind_some, if_pos (by first | (unfold fin; omega) | omega), e2, Option.bind_some, if_pos (show v = v from rfl), if_pos (by first | (unfold fin; omega) | omega)]
noncomputable def cs_8 (M : fM) (n0 l4 : Int) : Option ((Int × fM) ⊕ fM) :=
  if fin (l4 + 1) ∧ (0 ≤ (l4 + 1) ∧ (l4 + 1) < n0) then
    (s_X11_wolf M (M 1000 (l4 + 1).toNat)).bind fun y498 =>
      if fin (l4 + 1) ∧ (0 ≤ (l4 + 1) ∧ (l4 + 1) < n0) then
        (s_X12_wolf M (M 1000 (l4 + 1).toNat)).bind fun y508 =>
          if y498 = y508.1 then
            if fin (l4 + 6) then
              some (.inl ((l4 + 6), y508.2))
            else none
          else
            none
      else none
  else none
theorem st_8 {M : fM} {n0 l4 : Int} (hI : Iv M) (hn : n0 ≤ 3072) (h0 : 0 ≤ l4) (h1 : l4 + 6 ≤ n0) : ∃ M', cs_8 M n0 l4 = some (.inl (l4 + 6, M')) ∧ Iv M' := by
  obtain ⟨v, M2, e1, e2, e3⟩ := k_wolf hI (M 1000 (l4 + 1).toNat)
  refine ⟨M2, ?_, e3⟩
  unfold cs_8
  rw [if_pos (by first | (unfold fin; omega) | omega), e1, Option.bind_some, if_pos (by first | (unfold fin; omega) | omega), e2, Option.bind_some, if_pos (show v = v from rfl), if_pos (by first | (unfold fin; omega) | omega)]
noncomputable def cs_9 (M : fM) (n0 l4 : Int) : Option ((Int × fM) ⊕ fM) :=
  if fin (l4 + 1) ∧ (0 ≤ (l4 + 1) ∧ (l4 + 1) < n0) ∧ fin (l4 + 2) ∧ (0 ≤ (l4 + 2) ∧ (l4 + 2) < n0) ∧ fin (l4 + 3) ∧ (0 ≤ (l4 + 3) ∧ (l4 + 3) < n0) ∧ fin (l4 + 4) then
    if (0 ≤ (l4 + 4) ∧ (l4 + 4) < n0) then
      (s_L_offset_0_155 M (M 1000 (l4 + 1).toNat) (M 1000 (l4 + 2).toNat) (M 1000 (l4 + 3).toNat) (M 1000 (l4 + 4).toNat)).bind fun y542 =>
        if fin (l4 + 1) ∧ (0 ≤ (l4 + 1) ∧ (l4 + 1) < n0) ∧ fin (l4 + 2) ∧ (0 ≤ (l4 + 2) ∧ (l4 + 2) < n0) ∧ fin (l4 + 3) ∧ (0 ≤ (l4 + 3) ∧ (l4 + 3) < n0) then
          if fin (l4 + 4) ∧ (0 ≤ (l4 + 4) ∧ (l4 + 4) < n0) then
            (s_X12_offset y542.2 (y542.2 1000 (l4 + 1).toNat) (y542.2 1000 (l4 + 2).toNat) (y542.2 1000 (l4 + 3).toNat) (y542.2 1000 (l4 + 4).toNat)).bind fun y572 =>
              (s_X12_thrown y572.2).bind fun y578 =>
                if y578 = y542.1 then
                  if ¬ y542.1 = 0 then
                    if fin (l4 + 6) then
                      some (.inl ((l4 + 6), y572.2))
                    else none
                  else
                    if (y572.2 155 0) = y572.1 then
                      if fin (l4 + 6) then
                        some (.inl ((l4 + 6), y572.2))
                      else none
                    else
                      none
                else
                  none
          else none
        else none
    else none
  else none
theorem st_9 {M : fM} {n0 l4 : Int} (hI : Iv M) (hn : n0 ≤ 3072) (h0 : 0 ≤ l4) (h1 : l4 + 6 ≤ n0) : ∃ M', cs_9 M n0 l4 = some (.inl (l4 + 6, M')) ∧ Iv M' := by
  obtain ⟨k, M1, v, M2, e1, e0, e2, e4, e5, e3⟩ := k_offset hI (M 1000 (l4 + 1).toNat) (M 1000 (l4 + 2).toNat) (M 1000 (l4 + 3).toNat) (M 1000 (l4 + 4).toNat)
  refine ⟨M2, ?_, e3⟩
  unfold cs_9
  rw [if_pos (by first | (unfold fin; omega) | omega), if_pos (by first | (unfold fin; omega) | omega), e1, Option.bind_some, if_pos (by first | (unfold fin; omega) | omega), if_pos (by first | (unfold fin; omega) | omega)]
  show (s_X12_offset M1 (M1 1000 (l4 + 1).toNat) (M1 1000 (l4 + 2).toNat) (M1 1000 (l4 + 3).toNat) (M1 1000 (l4 + 4).toNat)).bind _ = _
  rw [e0, e2, Option.bind_some]
  exact th_fin h0 h1 hn e4 e5
noncomputable def cs_10 (M : fM) (n0 l4 : Int) : Option ((Int × fM) ⊕ fM) :=
  if fin (l4 + 1) ∧ (0 ≤ (l4 + 1) ∧ (l4 + 1) < n0) ∧ fin (l4 + 2) ∧ (0 ≤ (l4 + 2) ∧ (l4 + 2) < n0) ∧ fin (l4 + 3) ∧ (0 ≤ (l4 + 3) ∧ (l4 + 3) < n0) then
    (s_X11_off M (M 1000 (l4 + 1).toNat) (M 1000 (l4 + 2).toNat) (M 1000 (l4 + 3).toNat)).bind fun y627 =>
      if fin (l4 + 1) ∧ (0 ≤ (l4 + 1) ∧ (l4 + 1) < n0) ∧ fin (l4 + 2) ∧ (0 ≤ (l4 + 2) ∧ (l4 + 2) < n0) ∧ fin (l4 + 3) ∧ (0 ≤ (l4 + 3) ∧ (l4 + 3) < n0) then
        (s_X12_off y627.2 (y627.2 1000 (l4 + 1).toNat) (y627.2 1000 (l4 + 2).toNat) (y627.2 1000 (l4 + 3).toNat)).bind fun y649 =>
          if y627.1 = y649.1 then
            if fin (l4 + 6) then
              some (.inl ((l4 + 6), y649.2))
            else none
          else
            none
      else none
  else none
theorem st_10 {M : fM} {n0 l4 : Int} (hI : Iv M) (hn : n0 ≤ 3072) (h0 : 0 ≤ l4) (h1 : l4 + 6 ≤ n0) : ∃ M', cs_10 M n0 l4 = some (.inl (l4 + 6, M')) ∧ Iv M' := by
  obtain ⟨v, M1, M2, e1, e0, e2, e3⟩ := k_off hI (M 1000 (l4 + 1).toNat) (M 1000 (l4 + 2).toNat) (M 1000 (l4 + 3).toNat)
  refine ⟨M2, ?_, e3⟩
  unfold cs_10
  rw [if_pos (by first | (unfold fin; omega) | omega), e1, Option.bind_some, if_pos (by first | (unfold fin; omega) | omega)]
  show (s_X12_off M1 (M1 1000 (l4 + 1).toNat) (M1 1000 (l4 + 2).toNat) (M1 1000 (l4 + 3).toNat)).bind _ = _
  rw [e0, e2, Option.bind_some, if_pos (show v = v from rfl), if_pos (by first | (unfold fin; omega) | omega)]
noncomputable def cs_11 (M : fM) (n0 l4 : Int) : Option ((Int × fM) ⊕ fM) :=
  if fin (l4 + 1) ∧ (0 ≤ (l4 + 1) ∧ (l4 + 1) < n0) ∧ fin (l4 + 2) ∧ (0 ≤ (l4 + 2) ∧ (l4 + 2) < n0) ∧ fin (l4 + 3) ∧ (0 ≤ (l4 + 3) ∧ (l4 + 3) < n0) ∧ fin (l4 + 4) then
    if (0 ≤ (l4 + 4) ∧ (l4 + 4) < n0) then
      (s_X11_due M (M 1000 (l4 + 1).toNat) (M 1000 (l4 + 2).toNat) (M 1000 (l4 + 3).toNat) (M 1000 (l4 + 4).toNat)).bind fun y682 =>
        if fin (l4 + 1) ∧ (0 ≤ (l4 + 1) ∧ (l4 + 1) < n0) ∧ fin (l4 + 2) ∧ (0 ≤ (l4 + 2) ∧ (l4 + 2) < n0) ∧ fin (l4 + 3) ∧ (0 ≤ (l4 + 3) ∧ (l4 + 3) < n0) ∧ fin (l4 + 4) then
          if (0 ≤ (l4 + 4) ∧ (l4 + 4) < n0) then
            (s_X12_due y682.2 (y682.2 1000 (l4 + 1).toNat) (y682.2 1000 (l4 + 2).toNat) (y682.2 1000 (l4 + 3).toNat) (y682.2 1000 (l4 + 4).toNat)).bind fun y710 =>
              if y682.1 = y710.1 then
                if fin (l4 + 6) then
                  some (.inl ((l4 + 6), y710.2))
                else none
              else
                none
          else none
        else none
    else none
  else none
theorem st_11 {M : fM} {n0 l4 : Int} (hI : Iv M) (hn : n0 ≤ 3072) (h0 : 0 ≤ l4) (h1 : l4 + 6 ≤ n0) : ∃ M', cs_11 M n0 l4 = some (.inl (l4 + 6, M')) ∧ Iv M' := by
  obtain ⟨v, M1, M2, e1, e0, e2, e3⟩ := k_due hI (M 1000 (l4 + 1).toNat) (M 1000 (l4 + 2).toNat) (M 1000 (l4 + 3).toNat) (M 1000 (l4 + 4).toNat)
  refine ⟨M2, ?_, e3⟩
  unfold cs_11
  rw [if_pos (by first | (unfold fin; omega) | omega), if_pos (by first | (unfold fin; omega) | omega), e1, Option.bind_some, if_pos (by first | (unfold fin; omega) | omega), if_pos (by first | (unfold fin; omega) | omega)]
  show (s_X12_due M1 (M1 1000 (l4 + 1).toNat) (M1 1000 (l4 + 2).toNat) (M1 1000 (l4 + 3).toNat) (M1 1000 (l4 + 4).toNat)).bind _ = _
  rw [e0, e2, Option.bind_some, if_pos (show v = v from rfl), if_pos (by first | (unfold fin; omega) | omega)]
noncomputable def cs_12 (M : fM) (n0 l4 : Int) : Option ((Int × fM) ⊕ fM) :=
  if fin (l4 + 1) ∧ (0 ≤ (l4 + 1) ∧ (l4 + 1) < n0) ∧ fin (l4 + 2) ∧ (0 ≤ (l4 + 2) ∧ (l4 + 2) < n0) then
    (s_X11_slips M (M 1000 (l4 + 1).toNat) (M 1000 (l4 + 2).toNat)).bind fun y731 =>
      if fin (l4 + 1) ∧ (0 ≤ (l4 + 1) ∧ (l4 + 1) < n0) ∧ fin (l4 + 2) ∧ (0 ≤ (l4 + 2) ∧ (l4 + 2) < n0) then
        (s_X12_slips y731.2 (y731.2 1000 (l4 + 1).toNat) (y731.2 1000 (l4 + 2).toNat)).bind fun y747 =>
          if y731.1 = y747.1 then
            if fin (l4 + 6) then
              some (.inl ((l4 + 6), y747.2))
            else none
          else
            none
      else none
  else none
theorem st_12 {M : fM} {n0 l4 : Int} (hI : Iv M) (hn : n0 ≤ 3072) (h0 : 0 ≤ l4) (h1 : l4 + 6 ≤ n0) : ∃ M', cs_12 M n0 l4 = some (.inl (l4 + 6, M')) ∧ Iv M' := by
  obtain ⟨v, M1, M2, e1, e0, e2, e3⟩ := k_slips hI (M 1000 (l4 + 1).toNat) (M 1000 (l4 + 2).toNat)
  refine ⟨M2, ?_, e3⟩
  unfold cs_12
  rw [if_pos (by first | (unfold fin; omega) | omega), e1, Option.bind_some, if_pos (by first | (unfold fin; omega) | omega)]
  show (s_X12_slips M1 (M1 1000 (l4 + 1).toNat) (M1 1000 (l4 + 2).toNat)).bind _ = _
  rw [e0, e2, Option.bind_some, if_pos (show v = v from rfl), if_pos (by first | (unfold fin; omega) | omega)]
noncomputable def cs_13 (M : fM) (n0 l4 : Int) : Option ((Int × fM) ⊕ fM) :=
  if fin (l4 + 1) ∧ (0 ≤ (l4 + 1) ∧ (l4 + 1) < n0) then
    (s_L_slipped_0_155 M (M 1000 (l4 + 1).toNat)).bind fun y763 =>
      if fin (l4 + 1) ∧ (0 ≤ (l4 + 1) ∧ (l4 + 1) < n0) then
        (s_X12_slipped y763.2 (y763.2 1000 (l4 + 1).toNat)).bind fun y775 =>
          (s_X12_thrown y775.2).bind fun y781 =>
            if y781 = y763.1 then
              if ¬ y763.1 = 0 then
                if fin (l4 + 6) then
                  some (.inl ((l4 + 6), y775.2))
                else none
              else
                if (y775.2 155 0) = y775.1 then
                  if fin (l4 + 6) then
                    some (.inl ((l4 + 6), y775.2))
                  else none
                else
                  none
            else
              none
      else none
  else none
theorem st_13 {M : fM} {n0 l4 : Int} (hI : Iv M) (hn : n0 ≤ 3072) (h0 : 0 ≤ l4) (h1 : l4 + 6 ≤ n0) : ∃ M', cs_13 M n0 l4 = some (.inl (l4 + 6, M')) ∧ Iv M' := by
  obtain ⟨k, M1, v, M2, e1, e0, e2, e4, e5, e3⟩ := k_slipped hI (M 1000 (l4 + 1).toNat)
  refine ⟨M2, ?_, e3⟩
  unfold cs_13
  rw [if_pos (by first | (unfold fin; omega) | omega), e1, Option.bind_some, if_pos (by first | (unfold fin; omega) | omega)]
  show (s_X12_slipped M1 (M1 1000 (l4 + 1).toNat)).bind _ = _
  rw [e0, e2, Option.bind_some]
  exact th_fin h0 h1 hn e4 e5
noncomputable def cs_14 (M : fM) (n0 l4 : Int) : Option ((Int × fM) ⊕ fM) :=
  if fin (l4 + 1) ∧ (0 ≤ (l4 + 1) ∧ (l4 + 1) < n0) ∧ fin (l4 + 2) ∧ (0 ≤ (l4 + 2) ∧ (l4 + 2) < n0) then
    (s_L_stove_0_155 M (M 1000 (l4 + 1).toNat) (M 1000 (l4 + 2).toNat)).bind fun y825 =>
      if fin (l4 + 1) ∧ (0 ≤ (l4 + 1) ∧ (l4 + 1) < n0) ∧ fin (l4 + 2) ∧ (0 ≤ (l4 + 2) ∧ (l4 + 2) < n0) then
        (s_X12_stove y825.2 (y825.2 1000 (l4 + 1).toNat) (y825.2 1000 (l4 + 2).toNat)).bind fun y843 =>
          (s_X12_thrown y843.2).bind fun y849 =>
            if y849 = y825.1 then
              if ¬ y825.1 = 0 then
                if fin (l4 + 6) then
                  some (.inl ((l4 + 6), y843.2))
                else none
              else
                if (y843.2 155 0) = y843.1 then
                  if fin (l4 + 6) then
                    some (.inl ((l4 + 6), y843.2))
                  else none
                else
                  none
            else
              none
      else none
  else none
theorem st_14 {M : fM} {n0 l4 : Int} (hI : Iv M) (hn : n0 ≤ 3072) (h0 : 0 ≤ l4) (h1 : l4 + 6 ≤ n0) : ∃ M', cs_14 M n0 l4 = some (.inl (l4 + 6, M')) ∧ Iv M' := by
  obtain ⟨k, M1, v, M2, e1, e0, e2, e4, e5, e3⟩ := k_stove hI (M 1000 (l4 + 1).toNat) (M 1000 (l4 + 2).toNat)
  refine ⟨M2, ?_, e3⟩
  unfold cs_14
  rw [if_pos (by first | (unfold fin; omega) | omega), e1, Option.bind_some, if_pos (by first | (unfold fin; omega) | omega)]
  show (s_X12_stove M1 (M1 1000 (l4 + 1).toNat) (M1 1000 (l4 + 2).toNat)).bind _ = _
  rw [e0, e2, Option.bind_some]
  exact th_fin h0 h1 hn e4 e5
noncomputable def cs_15 (M : fM) (n0 l4 : Int) : Option ((Int × fM) ⊕ fM) :=
  if fin (l4 + 1) ∧ (0 ≤ (l4 + 1) ∧ (l4 + 1) < n0) ∧ fin (l4 + 2) ∧ (0 ≤ (l4 + 2) ∧ (l4 + 2) < n0) ∧ fin (l4 + 3) ∧ (0 ≤ (l4 + 3) ∧ (l4 + 3) < n0) ∧ fin (l4 + 4) then
    if (0 ≤ (l4 + 4) ∧ (l4 + 4) < n0) then
      (s_L_lean_0_155 M (M 1000 (l4 + 1).toNat) (M 1000 (l4 + 2).toNat) (M 1000 (l4 + 3).toNat) (M 1000 (l4 + 4).toNat)).bind fun y904 =>
        if fin (l4 + 1) ∧ (0 ≤ (l4 + 1) ∧ (l4 + 1) < n0) ∧ fin (l4 + 2) ∧ (0 ≤ (l4 + 2) ∧ (l4 + 2) < n0) ∧ fin (l4 + 3) ∧ (0 ≤ (l4 + 3) ∧ (l4 + 3) < n0) then
          if fin (l4 + 4) ∧ (0 ≤ (l4 + 4) ∧ (l4 + 4) < n0) then
            (s_X12_lean y904.2 (y904.2 1000 (l4 + 1).toNat) (y904.2 1000 (l4 + 2).toNat) (y904.2 1000 (l4 + 3).toNat) (y904.2 1000 (l4 + 4).toNat)).bind fun y934 =>
              (s_X12_thrown y934.2).bind fun y940 =>
                if y940 = y904.1 then
                  if ¬ y904.1 = 0 then
                    if fin (l4 + 6) then
                      some (.inl ((l4 + 6), y934.2))
                    else none
                  else
                    if (y934.2 155 0) = y934.1 then
                      if fin (l4 + 6) then
                        some (.inl ((l4 + 6), y934.2))
                      else none
                    else
                      none
                else
                  none
          else none
        else none
    else none
  else none
theorem st_15 {M : fM} {n0 l4 : Int} (hI : Iv M) (hn : n0 ≤ 3072) (h0 : 0 ≤ l4) (h1 : l4 + 6 ≤ n0) : ∃ M', cs_15 M n0 l4 = some (.inl (l4 + 6, M')) ∧ Iv M' := by
  obtain ⟨k, M1, v, M2, e1, e0, e2, e4, e5, e3⟩ := k_lean hI (M 1000 (l4 + 1).toNat) (M 1000 (l4 + 2).toNat) (M 1000 (l4 + 3).toNat) (M 1000 (l4 + 4).toNat)
  refine ⟨M2, ?_, e3⟩
  unfold cs_15
  rw [if_pos (by first | (unfold fin; omega) | omega), if_pos (by first | (unfold fin; omega) | omega), e1, Option.bind_some, if_pos (by first | (unfold fin; omega) | omega), if_pos (by first | (unfold fin; omega) | omega)]
  show (s_X12_lean M1 (M1 1000 (l4 + 1).toNat) (M1 1000 (l4 + 2).toNat) (M1 1000 (l4 + 3).toNat) (M1 1000 (l4 + 4).toNat)).bind _ = _
  rw [e0, e2, Option.bind_some]
  exact th_fin h0 h1 hn e4 e5
noncomputable def cs_16 (M : fM) (n0 l4 : Int) : Option ((Int × fM) ⊕ fM) :=
  if fin (l4 + 1) ∧ (0 ≤ (l4 + 1) ∧ (l4 + 1) < n0) then
    (s_X11_batch M (M 1000 (l4 + 1).toNat)).bind fun y977 =>
      if fin (l4 + 1) ∧ (0 ≤ (l4 + 1) ∧ (l4 + 1) < n0) then
        (s_X12_batch y977.2 (y977.2 1000 (l4 + 1).toNat)).bind fun y987 =>
          if y977.1 = y987.1 then
            if fin (l4 + 6) then
              some (.inl ((l4 + 6), y987.2))
            else none
          else
            none
      else none
  else none
theorem st_16 {M : fM} {n0 l4 : Int} (hI : Iv M) (hn : n0 ≤ 3072) (h0 : 0 ≤ l4) (h1 : l4 + 6 ≤ n0) : ∃ M', cs_16 M n0 l4 = some (.inl (l4 + 6, M')) ∧ Iv M' := by
  obtain ⟨v, M1, M2, e1, e0, e2, e3⟩ := k_batch hI (M 1000 (l4 + 1).toNat)
  refine ⟨M2, ?_, e3⟩
  unfold cs_16
  rw [if_pos (by first | (unfold fin; omega) | omega), e1, Option.bind_some, if_pos (by first | (unfold fin; omega) | omega)]
  show (s_X12_batch M1 (M1 1000 (l4 + 1).toNat)).bind _ = _
  rw [e0, e2, Option.bind_some, if_pos (show v = v from rfl), if_pos (by first | (unfold fin; omega) | omega)]
noncomputable def cs_17 (M : fM) (n0 l4 : Int) : Option ((Int × fM) ⊕ fM) :=
  if fin (l4 + 1) ∧ (0 ≤ (l4 + 1) ∧ (l4 + 1) < n0) ∧ fin (l4 + 2) ∧ (0 ≤ (l4 + 2) ∧ (l4 + 2) < n0) then
    (s_X11_cracked M (M 1000 (l4 + 1).toNat) (M 1000 (l4 + 2).toNat)).bind fun y1008 =>
      if fin (l4 + 1) ∧ (0 ≤ (l4 + 1) ∧ (l4 + 1) < n0) ∧ fin (l4 + 2) ∧ (0 ≤ (l4 + 2) ∧ (l4 + 2) < n0) then
        (s_X12_cracked y1008.2 (y1008.2 1000 (l4 + 1).toNat) (y1008.2 1000 (l4 + 2).toNat)).bind fun y1024 =>
          if y1008.1 = y1024.1 then
            if fin (l4 + 6) then
              some (.inl ((l4 + 6), y1024.2))
            else none
          else
            none
      else none
  else none
theorem st_17 {M : fM} {n0 l4 : Int} (hI : Iv M) (hn : n0 ≤ 3072) (h0 : 0 ≤ l4) (h1 : l4 + 6 ≤ n0) : ∃ M', cs_17 M n0 l4 = some (.inl (l4 + 6, M')) ∧ Iv M' := by
  obtain ⟨v, M1, M2, e1, e0, e2, e3⟩ := k_cracked hI (M 1000 (l4 + 1).toNat) (M 1000 (l4 + 2).toNat)
  refine ⟨M2, ?_, e3⟩
  unfold cs_17
  rw [if_pos (by first | (unfold fin; omega) | omega), e1, Option.bind_some, if_pos (by first | (unfold fin; omega) | omega)]
  show (s_X12_cracked M1 (M1 1000 (l4 + 1).toNat) (M1 1000 (l4 + 2).toNat)).bind _ = _
  rw [e0, e2, Option.bind_some, if_pos (show v = v from rfl), if_pos (by first | (unfold fin; omega) | omega)]
noncomputable def cs_18 (M : fM) (n0 l4 : Int) : Option ((Int × fM) ⊕ fM) :=
  if fin (l4 + 1) ∧ (0 ≤ (l4 + 1) ∧ (l4 + 1) < n0) ∧ fin (l4 + 2) ∧ (0 ≤ (l4 + 2) ∧ (l4 + 2) < n0) then
    (s_X11_weight M (M 1000 (l4 + 1).toNat) (M 1000 (l4 + 2).toNat)).bind fun y1045 =>
      if fin (l4 + 1) ∧ (0 ≤ (l4 + 1) ∧ (l4 + 1) < n0) ∧ fin (l4 + 2) ∧ (0 ≤ (l4 + 2) ∧ (l4 + 2) < n0) then
        (s_X12_weight y1045.2 (y1045.2 1000 (l4 + 1).toNat) (y1045.2 1000 (l4 + 2).toNat)).bind fun y1061 =>
          if y1045.1 = y1061.1 then
            if fin (l4 + 6) then
              some (.inl ((l4 + 6), y1061.2))
            else none
          else
            none
      else none
  else none
theorem st_18 {M : fM} {n0 l4 : Int} (hI : Iv M) (hn : n0 ≤ 3072) (h0 : 0 ≤ l4) (h1 : l4 + 6 ≤ n0) : ∃ M', cs_18 M n0 l4 = some (.inl (l4 + 6, M')) ∧ Iv M' := by
  obtain ⟨v, M1, M2, e1, e0, e2, e3⟩ := k_weight hI (M 1000 (l4 + 1).toNat) (M 1000 (l4 + 2).toNat)
  refine ⟨M2, ?_, e3⟩
  unfold cs_18
  rw [if_pos (by first | (unfold fin; omega) | omega), e1, Option.bind_some, if_pos (by first | (unfold fin; omega) | omega)]
  show (s_X12_weight M1 (M1 1000 (l4 + 1).toNat) (M1 1000 (l4 + 2).toNat)).bind _ = _
  rw [e0, e2, Option.bind_some, if_pos (show v = v from rfl), if_pos (by first | (unfold fin; omega) | omega)]
noncomputable def cs_19 (M : fM) (n0 l4 : Int) : Option ((Int × fM) ⊕ fM) :=
  if fin (l4 + 1) ∧ (0 ≤ (l4 + 1) ∧ (l4 + 1) < n0) ∧ fin (l4 + 2) ∧ (0 ≤ (l4 + 2) ∧ (l4 + 2) < n0) then
    (s_X11_round M (M 1000 (l4 + 1).toNat) (M 1000 (l4 + 2).toNat)).bind fun y1082 =>
      if fin (l4 + 1) ∧ (0 ≤ (l4 + 1) ∧ (l4 + 1) < n0) ∧ fin (l4 + 2) ∧ (0 ≤ (l4 + 2) ∧ (l4 + 2) < n0) then
        (s_X12_round y1082.2 (y1082.2 1000 (l4 + 1).toNat) (y1082.2 1000 (l4 + 2).toNat)).bind fun y1098 =>
          if y1082.1 = y1098.1 then
            if fin (l4 + 6) then
              some (.inl ((l4 + 6), y1098.2))
            else none
          else
            none
      else none
  else none
theorem st_19 {M : fM} {n0 l4 : Int} (hI : Iv M) (hn : n0 ≤ 3072) (h0 : 0 ≤ l4) (h1 : l4 + 6 ≤ n0) : ∃ M', cs_19 M n0 l4 = some (.inl (l4 + 6, M')) ∧ Iv M' := by
  obtain ⟨v, M1, M2, e1, e0, e2, e3⟩ := k_round hI (M 1000 (l4 + 1).toNat) (M 1000 (l4 + 2).toNat)
  refine ⟨M2, ?_, e3⟩
  unfold cs_19
  rw [if_pos (by first | (unfold fin; omega) | omega), e1, Option.bind_some, if_pos (by first | (unfold fin; omega) | omega)]
  show (s_X12_round M1 (M1 1000 (l4 + 1).toNat) (M1 1000 (l4 + 2).toNat)).bind _ = _
  rw [e0, e2, Option.bind_some, if_pos (show v = v from rfl), if_pos (by first | (unfold fin; omega) | omega)]
noncomputable def cs_20 (M : fM) (n0 l4 : Int) : Option ((Int × fM) ⊕ fM) :=
  if fin (l4 + 1) ∧ (0 ≤ (l4 + 1) ∧ (l4 + 1) < n0) then
    (s_X11_roundAt M (M 1000 (l4 + 1).toNat)).bind fun y1113 =>
      if fin (l4 + 1) ∧ (0 ≤ (l4 + 1) ∧ (l4 + 1) < n0) then
        (s_X12_roundAt M (M 1000 (l4 + 1).toNat)).bind fun y1123 =>
          if y1113 = y1123.1 then
            if fin (l4 + 6) then
              some (.inl ((l4 + 6), y1123.2))
            else none
          else
            none
      else none
  else none
theorem st_20 {M : fM} {n0 l4 : Int} (hI : Iv M) (hn : n0 ≤ 3072) (h0 : 0 ≤ l4) (h1 : l4 + 6 ≤ n0) : ∃ M', cs_20 M n0 l4 = some (.inl (l4 + 6, M')) ∧ Iv M' := by
  obtain ⟨v, M2, e1, e2, e3⟩ := k_roundAt hI (M 1000 (l4 + 1).toNat)
  refine ⟨M2, ?_, e3⟩
  unfold cs_20
  rw [if_pos (by first | (unfold fin; omega) | omega), e1, Option.bind_some, if_pos (by first | (unfold fin; omega) | omega), e2, Option.bind_some, if_pos (show v = v from rfl), if_pos (by first | (unfold fin; omega) | omega)]
noncomputable def cs_21 (M : fM) (n0 l4 : Int) : Option ((Int × fM) ⊕ fM) :=
  (s_X11_home M).bind fun y1132 =>
    (s_X12_home M).bind fun y1136 =>
      if y1132 = y1136.1 then
        if fin (l4 + 6) then
          some (.inl ((l4 + 6), y1136.2))
        else none
      else
        none
theorem st_21 {M : fM} {n0 l4 : Int} (hI : Iv M) (hn : n0 ≤ 3072) (h0 : 0 ≤ l4) (h1 : l4 + 6 ≤ n0) : ∃ M', cs_21 M n0 l4 = some (.inl (l4 + 6, M')) ∧ Iv M' := by
  obtain ⟨v, M2, e1, e2, e3⟩ := k_home hI 
  refine ⟨M2, ?_, e3⟩
  unfold cs_21
  rw [e1, Option.bind_some, e2, Option.bind_some, if_pos (show v = v from rfl), if_pos (by first | (unfold fin; omega) | omega)]
noncomputable def cs_22 (M : fM) (n0 l4 : Int) : Option ((Int × fM) ⊕ fM) :=
  if fin (l4 + 1) ∧ (0 ≤ (l4 + 1) ∧ (l4 + 1) < n0) ∧ fin (l4 + 2) ∧ (0 ≤ (l4 + 2) ∧ (l4 + 2) < n0) then
    (s_X11_walked M (M 1000 (l4 + 1).toNat) (M 1000 (l4 + 2).toNat)).bind fun y1157 =>
      if fin (l4 + 1) ∧ (0 ≤ (l4 + 1) ∧ (l4 + 1) < n0) ∧ fin (l4 + 2) ∧ (0 ≤ (l4 + 2) ∧ (l4 + 2) < n0) then
        (s_X12_walked y1157.2 (y1157.2 1000 (l4 + 1).toNat) (y1157.2 1000 (l4 + 2).toNat)).bind fun y1173 =>
          if y1157.1 = y1173.1 then
            if fin (l4 + 6) then
              some (.inl ((l4 + 6), y1173.2))
            else none
          else
            none
      else none
  else none
theorem st_22 {M : fM} {n0 l4 : Int} (hI : Iv M) (hn : n0 ≤ 3072) (h0 : 0 ≤ l4) (h1 : l4 + 6 ≤ n0) : ∃ M', cs_22 M n0 l4 = some (.inl (l4 + 6, M')) ∧ Iv M' := by
  obtain ⟨v, M1, M2, e1, e0, e2, e3⟩ := k_walked hI (M 1000 (l4 + 1).toNat) (M 1000 (l4 + 2).toNat)
  refine ⟨M2, ?_, e3⟩
  unfold cs_22
  rw [if_pos (by first | (unfold fin; omega) | omega), e1, Option.bind_some, if_pos (by first | (unfold fin; omega) | omega)]
  show (s_X12_walked M1 (M1 1000 (l4 + 1).toNat) (M1 1000 (l4 + 2).toNat)).bind _ = _
  rw [e0, e2, Option.bind_some, if_pos (show v = v from rfl), if_pos (by first | (unfold fin; omega) | omega)]
noncomputable def cs_23 (M : fM) (n0 l4 : Int) : Option ((Int × fM) ⊕ fM) :=
  if fin (l4 + 1) ∧ (0 ≤ (l4 + 1) ∧ (l4 + 1) < n0) ∧ fin (l4 + 2) ∧ (0 ≤ (l4 + 2) ∧ (l4 + 2) < n0) ∧ fin (l4 + 3) ∧ (0 ≤ (l4 + 3) ∧ (l4 + 3) < n0) then
    (s_X11_two M (M 1000 (l4 + 1).toNat) (M 1000 (l4 + 2).toNat) (M 1000 (l4 + 3).toNat)).bind fun y1200 =>
      if fin (l4 + 1) ∧ (0 ≤ (l4 + 1) ∧ (l4 + 1) < n0) ∧ fin (l4 + 2) ∧ (0 ≤ (l4 + 2) ∧ (l4 + 2) < n0) ∧ fin (l4 + 3) ∧ (0 ≤ (l4 + 3) ∧ (l4 + 3) < n0) then
        (s_X12_two y1200.2 (y1200.2 1000 (l4 + 1).toNat) (y1200.2 1000 (l4 + 2).toNat) (y1200.2 1000 (l4 + 3).toNat)).bind fun y1222 =>
          if y1200.1 = y1222.1 then
            if fin (l4 + 6) then
              some (.inl ((l4 + 6), y1222.2))
            else none
          else
            none
      else none
  else none
theorem st_23 {M : fM} {n0 l4 : Int} (hI : Iv M) (hn : n0 ≤ 3072) (h0 : 0 ≤ l4) (h1 : l4 + 6 ≤ n0) : ∃ M', cs_23 M n0 l4 = some (.inl (l4 + 6, M')) ∧ Iv M' := by
  obtain ⟨v, M1, M2, e1, e0, e2, e3⟩ := k_two hI (M 1000 (l4 + 1).toNat) (M 1000 (l4 + 2).toNat) (M 1000 (l4 + 3).toNat)
  refine ⟨M2, ?_, e3⟩
  unfold cs_23
  rw [if_pos (by first | (unfold fin; omega) | omega), e1, Option.bind_some, if_pos (by first | (unfold fin; omega) | omega)]
  show (s_X12_two M1 (M1 1000 (l4 + 1).toNat) (M1 1000 (l4 + 2).toNat) (M1 1000 (l4 + 3).toNat)).bind _ = _
  rw [e0, e2, Option.bind_some, if_pos (show v = v from rfl), if_pos (by first | (unfold fin; omega) | omega)]
noncomputable def cs_24 (M : fM) (n0 l4 : Int) : Option ((Int × fM) ⊕ fM) :=
  if fin (l4 + 1) ∧ (0 ≤ (l4 + 1) ∧ (l4 + 1) < n0) then
    (s_X11_festival M (M 1000 (l4 + 1).toNat)).bind fun y1237 =>
      if fin (l4 + 1) ∧ (0 ≤ (l4 + 1) ∧ (l4 + 1) < n0) then
        (s_X12_festival y1237.2 (y1237.2 1000 (l4 + 1).toNat)).bind fun y1247 =>
          if y1237.1 = y1247.1 then
            if fin (l4 + 6) then
              some (.inl ((l4 + 6), y1247.2))
            else none
          else
            none
      else none
  else none
theorem st_24 {M : fM} {n0 l4 : Int} (hI : Iv M) (hn : n0 ≤ 3072) (h0 : 0 ≤ l4) (h1 : l4 + 6 ≤ n0) : ∃ M', cs_24 M n0 l4 = some (.inl (l4 + 6, M')) ∧ Iv M' := by
  obtain ⟨v, M1, M2, e1, e0, e2, e3⟩ := k_festival hI (M 1000 (l4 + 1).toNat)
  refine ⟨M2, ?_, e3⟩
  unfold cs_24
  rw [if_pos (by first | (unfold fin; omega) | omega), e1, Option.bind_some, if_pos (by first | (unfold fin; omega) | omega)]
  show (s_X12_festival M1 (M1 1000 (l4 + 1).toNat)).bind _ = _
  rw [e0, e2, Option.bind_some, if_pos (show v = v from rfl), if_pos (by first | (unfold fin; omega) | omega)]
noncomputable def cs_25 (M : fM) (n0 l4 : Int) : Option ((Int × fM) ⊕ fM) :=
  if fin (l4 + 1) ∧ (0 ≤ (l4 + 1) ∧ (l4 + 1) < n0) ∧ fin (l4 + 2) ∧ (0 ≤ (l4 + 2) ∧ (l4 + 2) < n0) then
    (s_X11_unready M (M 1000 (l4 + 1).toNat) (M 1000 (l4 + 2).toNat)).bind fun y1268 =>
      if fin (l4 + 1) ∧ (0 ≤ (l4 + 1) ∧ (l4 + 1) < n0) ∧ fin (l4 + 2) ∧ (0 ≤ (l4 + 2) ∧ (l4 + 2) < n0) then
        (s_X12_unready y1268.2 (y1268.2 1000 (l4 + 1).toNat) (y1268.2 1000 (l4 + 2).toNat)).bind fun y1284 =>
          if y1268.1 = y1284.1 then
            if fin (l4 + 6) then
              some (.inl ((l4 + 6), y1284.2))
            else none
          else
            none
      else none
  else none
theorem st_25 {M : fM} {n0 l4 : Int} (hI : Iv M) (hn : n0 ≤ 3072) (h0 : 0 ≤ l4) (h1 : l4 + 6 ≤ n0) : ∃ M', cs_25 M n0 l4 = some (.inl (l4 + 6, M')) ∧ Iv M' := by
  obtain ⟨v, M1, M2, e1, e0, e2, e3⟩ := k_unready hI (M 1000 (l4 + 1).toNat) (M 1000 (l4 + 2).toNat)
  refine ⟨M2, ?_, e3⟩
  unfold cs_25
  rw [if_pos (by first | (unfold fin; omega) | omega), e1, Option.bind_some, if_pos (by first | (unfold fin; omega) | omega)]
  show (s_X12_unready M1 (M1 1000 (l4 + 1).toNat) (M1 1000 (l4 + 2).toNat)).bind _ = _
  rw [e0, e2, Option.bind_some, if_pos (show v = v from rfl), if_pos (by first | (unfold fin; omega) | omega)]
noncomputable def cs_26 (M : fM) (n0 l4 : Int) : Option ((Int × fM) ⊕ fM) :=
  if fin (l4 + 1) ∧ (0 ≤ (l4 + 1) ∧ (l4 + 1) < n0) ∧ fin (l4 + 2) ∧ (0 ≤ (l4 + 2) ∧ (l4 + 2) < n0) ∧ fin (l4 + 3) ∧ (0 ≤ (l4 + 3) ∧ (l4 + 3) < n0) then
    (s_X11_whose M (M 1000 (l4 + 1).toNat) (M 1000 (l4 + 2).toNat) (M 1000 (l4 + 3).toNat)).bind fun y1311 =>
      if fin (l4 + 1) ∧ (0 ≤ (l4 + 1) ∧ (l4 + 1) < n0) ∧ fin (l4 + 2) ∧ (0 ≤ (l4 + 2) ∧ (l4 + 2) < n0) ∧ fin (l4 + 3) ∧ (0 ≤ (l4 + 3) ∧ (l4 + 3) < n0) then
        (s_X12_whose y1311.2 (y1311.2 1000 (l4 + 1).toNat) (y1311.2 1000 (l4 + 2).toNat) (y1311.2 1000 (l4 + 3).toNat)).bind fun y1333 =>
          if y1311.1 = y1333.1 then
            if fin (l4 + 6) then
              some (.inl ((l4 + 6), y1333.2))
            else none
          else
            none
      else none
  else none
theorem st_26 {M : fM} {n0 l4 : Int} (hI : Iv M) (hn : n0 ≤ 3072) (h0 : 0 ≤ l4) (h1 : l4 + 6 ≤ n0) : ∃ M', cs_26 M n0 l4 = some (.inl (l4 + 6, M')) ∧ Iv M' := by
  obtain ⟨v, M1, M2, e1, e0, e2, e3⟩ := k_whose hI (M 1000 (l4 + 1).toNat) (M 1000 (l4 + 2).toNat) (M 1000 (l4 + 3).toNat) (hI.1.1 _)
  refine ⟨M2, ?_, e3⟩
  unfold cs_26
  rw [if_pos (by first | (unfold fin; omega) | omega), e1, Option.bind_some, if_pos (by first | (unfold fin; omega) | omega)]
  show (s_X12_whose M1 (M1 1000 (l4 + 1).toNat) (M1 1000 (l4 + 2).toNat) (M1 1000 (l4 + 3).toNat)).bind _ = _
  rw [e0, e2, Option.bind_some, if_pos (show v = v from rfl), if_pos (by first | (unfold fin; omega) | omega)]
noncomputable def cs_27 (M : fM) (n0 l4 : Int) : Option ((Int × fM) ⊕ fM) :=
  if fin (l4 + 1) ∧ (0 ≤ (l4 + 1) ∧ (l4 + 1) < n0) ∧ fin (l4 + 2) ∧ (0 ≤ (l4 + 2) ∧ (l4 + 2) < n0) then
    (s_X11_fee M (M 1000 (l4 + 1).toNat) (M 1000 (l4 + 2).toNat)).bind fun y1354 =>
      if fin (l4 + 1) ∧ (0 ≤ (l4 + 1) ∧ (l4 + 1) < n0) ∧ fin (l4 + 2) ∧ (0 ≤ (l4 + 2) ∧ (l4 + 2) < n0) then
        (s_X12_fee M (M 1000 (l4 + 1).toNat) (M 1000 (l4 + 2).toNat)).bind fun y1370 =>
          if y1354 = y1370.1 then
            if fin (l4 + 6) then
              some (.inl ((l4 + 6), y1370.2))
            else none
          else
            none
      else none
  else none
theorem st_27 {M : fM} {n0 l4 : Int} (hI : Iv M) (hn : n0 ≤ 3072) (h0 : 0 ≤ l4) (h1 : l4 + 6 ≤ n0) : ∃ M', cs_27 M n0 l4 = some (.inl (l4 + 6, M')) ∧ Iv M' := by
  obtain ⟨v, M2, e1, e2, e3⟩ := k_fee hI (M 1000 (l4 + 1).toNat) (M 1000 (l4 + 2).toNat)
  refine ⟨M2, ?_, e3⟩
  unfold cs_27
  rw [if_pos (by first | (unfold fin; omega) | omega), e1, Option.bind_some, if_pos (by first | (unfold fin; omega) | omega), e2, Option.bind_some, if_pos (show v = v from rfl), if_pos (by first | (unfold fin; omega) | omega)]
noncomputable def cs_28 (M : fM) (n0 l4 : Int) : Option ((Int × fM) ⊕ fM) :=
  if fin (l4 + 1) ∧ (0 ≤ (l4 + 1) ∧ (l4 + 1) < n0) ∧ fin (l4 + 2) ∧ (0 ≤ (l4 + 2) ∧ (l4 + 2) < n0) ∧ fin (l4 + 3) ∧ (0 ≤ (l4 + 3) ∧ (l4 + 3) < n0) then
    (s_L_owed_0_155 M (M 1000 (l4 + 1).toNat) (M 1000 (l4 + 2).toNat) (M 1000 (l4 + 3).toNat)).bind fun y1398 =>
      if fin (l4 + 1) ∧ (0 ≤ (l4 + 1) ∧ (l4 + 1) < n0) ∧ fin (l4 + 2) ∧ (0 ≤ (l4 + 2) ∧ (l4 + 2) < n0) ∧ fin (l4 + 3) ∧ (0 ≤ (l4 + 3) ∧ (l4 + 3) < n0) then
        (s_X12_owed y1398.2 (y1398.2 1000 (l4 + 1).toNat) (y1398.2 1000 (l4 + 2).toNat) (y1398.2 1000 (l4 + 3).toNat)).bind fun y1422 =>
          (s_X12_thrown y1422.2).bind fun y1428 =>
            if y1428 = y1398.1 then
              if ¬ y1398.1 = 0 then
                if fin (l4 + 6) then
                  some (.inl ((l4 + 6), y1422.2))
                else none
              else
                if (y1422.2 155 0) = y1422.1 then
                  if fin (l4 + 6) then
                    some (.inl ((l4 + 6), y1422.2))
                  else none
                else
                  none
            else
              none
      else none
  else none
theorem st_28 {M : fM} {n0 l4 : Int} (hI : Iv M) (hn : n0 ≤ 3072) (h0 : 0 ≤ l4) (h1 : l4 + 6 ≤ n0) : ∃ M', cs_28 M n0 l4 = some (.inl (l4 + 6, M')) ∧ Iv M' := by
  obtain ⟨k, M1, v, M2, e1, e0, e2, e4, e5, e3⟩ := k_owed hI (M 1000 (l4 + 1).toNat) (M 1000 (l4 + 2).toNat) (M 1000 (l4 + 3).toNat)
  refine ⟨M2, ?_, e3⟩
  unfold cs_28
  rw [if_pos (by first | (unfold fin; omega) | omega), e1, Option.bind_some, if_pos (by first | (unfold fin; omega) | omega)]
  show (s_X12_owed M1 (M1 1000 (l4 + 1).toNat) (M1 1000 (l4 + 2).toNat) (M1 1000 (l4 + 3).toNat)).bind _ = _
  rw [e0, e2, Option.bind_some]
  exact th_fin h0 h1 hn e4 e5
noncomputable def cs_29 (M : fM) (n0 l4 : Int) : Option ((Int × fM) ⊕ fM) :=
  if fin (l4 + 1) ∧ (0 ≤ (l4 + 1) ∧ (l4 + 1) < n0) ∧ fin (l4 + 2) ∧ (0 ≤ (l4 + 2) ∧ (l4 + 2) < n0) ∧ fin (l4 + 3) ∧ (0 ≤ (l4 + 3) ∧ (l4 + 3) < n0) then
    (s_X11_free M (M 1000 (l4 + 1).toNat) (M 1000 (l4 + 2).toNat) (M 1000 (l4 + 3).toNat)).bind fun y1477 =>
      if fin (l4 + 1) ∧ (0 ≤ (l4 + 1) ∧ (l4 + 1) < n0) ∧ fin (l4 + 2) ∧ (0 ≤ (l4 + 2) ∧ (l4 + 2) < n0) ∧ fin (l4 + 3) ∧ (0 ≤ (l4 + 3) ∧ (l4 + 3) < n0) then
        (s_X12_free M (M 1000 (l4 + 1).toNat) (M 1000 (l4 + 2).toNat) (M 1000 (l4 + 3).toNat)).bind fun y1499 =>
          if y1477 = y1499.1 then
            if fin (l4 + 6) then
              some (.inl ((l4 + 6), y1499.2))
            else none
          else
            none
      else none
  else none
theorem st_29 {M : fM} {n0 l4 : Int} (hI : Iv M) (hn : n0 ≤ 3072) (h0 : 0 ≤ l4) (h1 : l4 + 6 ≤ n0) : ∃ M', cs_29 M n0 l4 = some (.inl (l4 + 6, M')) ∧ Iv M' := by
  obtain ⟨v, M2, e1, e2, e3⟩ := k_free hI (M 1000 (l4 + 1).toNat) (M 1000 (l4 + 2).toNat) (M 1000 (l4 + 3).toNat)
  refine ⟨M2, ?_, e3⟩
  unfold cs_29
  rw [if_pos (by first | (unfold fin; omega) | omega), e1, Option.bind_some, if_pos (by first | (unfold fin; omega) | omega), e2, Option.bind_some, if_pos (show v = v from rfl), if_pos (by first | (unfold fin; omega) | omega)]
noncomputable def cs_30 (M : fM) (n0 l4 : Int) : Option ((Int × fM) ⊕ fM) :=
  if fin (l4 + 1) ∧ (0 ≤ (l4 + 1) ∧ (l4 + 1) < n0) ∧ fin (l4 + 2) ∧ (0 ≤ (l4 + 2) ∧ (l4 + 2) < n0) ∧ fin (l4 + 3) ∧ (0 ≤ (l4 + 3) ∧ (l4 + 3) < n0) then
    (s_X11_tunings M (M 1000 (l4 + 1).toNat) (M 1000 (l4 + 2).toNat) (M 1000 (l4 + 3).toNat)).bind fun y1526 =>
      if fin (l4 + 1) ∧ (0 ≤ (l4 + 1) ∧ (l4 + 1) < n0) ∧ fin (l4 + 2) ∧ (0 ≤ (l4 + 2) ∧ (l4 + 2) < n0) ∧ fin (l4 + 3) ∧ (0 ≤ (l4 + 3) ∧ (l4 + 3) < n0) then
        (s_X12_tunings y1526.2 (y1526.2 1000 (l4 + 1).toNat) (y1526.2 1000 (l4 + 2).toNat) (y1526.2 1000 (l4 + 3).toNat)).bind fun y1548 =>
          if y1526.1 = y1548.1 then
            if fin (l4 + 6) then
              some (.inl ((l4 + 6), y1548.2))
            else none
          else
            none
      else none
  else none
theorem st_30 {M : fM} {n0 l4 : Int} (hI : Iv M) (hn : n0 ≤ 3072) (h0 : 0 ≤ l4) (h1 : l4 + 6 ≤ n0) : ∃ M', cs_30 M n0 l4 = some (.inl (l4 + 6, M')) ∧ Iv M' := by
  obtain ⟨v, M1, M2, e1, e0, e2, e3⟩ := k_tunings hI (M 1000 (l4 + 1).toNat) (M 1000 (l4 + 2).toNat) (M 1000 (l4 + 3).toNat)
  refine ⟨M2, ?_, e3⟩
  unfold cs_30
  rw [if_pos (by first | (unfold fin; omega) | omega), e1, Option.bind_some, if_pos (by first | (unfold fin; omega) | omega)]
  show (s_X12_tunings M1 (M1 1000 (l4 + 1).toNat) (M1 1000 (l4 + 2).toNat) (M1 1000 (l4 + 3).toNat)).bind _ = _
  rw [e0, e2, Option.bind_some, if_pos (show v = v from rfl), if_pos (by first | (unfold fin; omega) | omega)]
noncomputable def cs_31 (M : fM) (n0 l4 : Int) : Option ((Int × fM) ⊕ fM) :=
  if fin (l4 + 1) ∧ (0 ≤ (l4 + 1) ∧ (l4 + 1) < n0) ∧ fin (l4 + 2) ∧ (0 ≤ (l4 + 2) ∧ (l4 + 2) < n0) ∧ fin (l4 + 3) ∧ (0 ≤ (l4 + 3) ∧ (l4 + 3) < n0) then
    (s_X11_past M (M 1000 (l4 + 1).toNat) (M 1000 (l4 + 2).toNat) (M 1000 (l4 + 3).toNat)).bind fun y1575 =>
      if fin (l4 + 1) ∧ (0 ≤ (l4 + 1) ∧ (l4 + 1) < n0) ∧ fin (l4 + 2) ∧ (0 ≤ (l4 + 2) ∧ (l4 + 2) < n0) ∧ fin (l4 + 3) ∧ (0 ≤ (l4 + 3) ∧ (l4 + 3) < n0) then
        (s_X12_past y1575.2 (y1575.2 1000 (l4 + 1).toNat) (y1575.2 1000 (l4 + 2).toNat) (y1575.2 1000 (l4 + 3).toNat)).bind fun y1597 =>
          if y1575.1 = y1597.1 then
            if fin (l4 + 6) then
              some (.inl ((l4 + 6), y1597.2))
            else none
          else
            none
      else none
  else none
theorem st_31 {M : fM} {n0 l4 : Int} (hI : Iv M) (hn : n0 ≤ 3072) (h0 : 0 ≤ l4) (h1 : l4 + 6 ≤ n0) : ∃ M', cs_31 M n0 l4 = some (.inl (l4 + 6, M')) ∧ Iv M' := by
  obtain ⟨v, M1, M2, e1, e0, e2, e3⟩ := k_past hI (M 1000 (l4 + 1).toNat) (M 1000 (l4 + 2).toNat) (M 1000 (l4 + 3).toNat)
  refine ⟨M2, ?_, e3⟩
  unfold cs_31
  rw [if_pos (by first | (unfold fin; omega) | omega), e1, Option.bind_some, if_pos (by first | (unfold fin; omega) | omega)]
  show (s_X12_past M1 (M1 1000 (l4 + 1).toNat) (M1 1000 (l4 + 2).toNat) (M1 1000 (l4 + 3).toNat)).bind _ = _
  rw [e0, e2, Option.bind_some, if_pos (show v = v from rfl), if_pos (by first | (unfold fin; omega) | omega)]
noncomputable def cs_32 (M : fM) (n0 l4 : Int) : Option ((Int × fM) ⊕ fM) :=
  if fin (l4 + 1) ∧ (0 ≤ (l4 + 1) ∧ (l4 + 1) < n0) then
    (s_X11_bag M (M 1000 (l4 + 1).toNat)).bind fun y1612 =>
      if fin (l4 + 1) ∧ (0 ≤ (l4 + 1) ∧ (l4 + 1) < n0) then
        (s_X12_bag y1612.2 (y1612.2 1000 (l4 + 1).toNat)).bind fun y1622 =>
          if y1612.1 = y1622.1 then
            if fin (l4 + 6) then
              some (.inl ((l4 + 6), y1622.2))
            else none
          else
            none
      else none
  else none
theorem st_32 {M : fM} {n0 l4 : Int} (hI : Iv M) (hn : n0 ≤ 3072) (h0 : 0 ≤ l4) (h1 : l4 + 6 ≤ n0) : ∃ M', cs_32 M n0 l4 = some (.inl (l4 + 6, M')) ∧ Iv M' := by
  obtain ⟨v, M1, M2, e1, e0, e2, e3⟩ := k_bag hI (M 1000 (l4 + 1).toNat)
  refine ⟨M2, ?_, e3⟩
  unfold cs_32
  rw [if_pos (by first | (unfold fin; omega) | omega), e1, Option.bind_some, if_pos (by first | (unfold fin; omega) | omega)]
  show (s_X12_bag M1 (M1 1000 (l4 + 1).toNat)).bind _ = _
  rw [e0, e2, Option.bind_some, if_pos (show v = v from rfl), if_pos (by first | (unfold fin; omega) | omega)]
noncomputable def cs_33 (M : fM) (n0 l4 : Int) : Option ((Int × fM) ⊕ fM) :=
  (s_X11_chance M).bind fun y1631 =>
    (s_X12_chance M).bind fun y1635 =>
      if y1631 = y1635.1 then
        if fin (l4 + 6) then
          some (.inl ((l4 + 6), y1635.2))
        else none
      else
        none
theorem st_33 {M : fM} {n0 l4 : Int} (hI : Iv M) (hn : n0 ≤ 3072) (h0 : 0 ≤ l4) (h1 : l4 + 6 ≤ n0) : ∃ M', cs_33 M n0 l4 = some (.inl (l4 + 6, M')) ∧ Iv M' := by
  obtain ⟨v, M2, e1, e2, e3⟩ := k_chance hI 
  refine ⟨M2, ?_, e3⟩
  unfold cs_33
  rw [e1, Option.bind_some, e2, Option.bind_some, if_pos (show v = v from rfl), if_pos (by first | (unfold fin; omega) | omega)]
noncomputable def cs_34 (M : fM) (n0 l4 : Int) : Option ((Int × fM) ⊕ fM) :=
  (s_X11_pupils M).bind fun y1645 =>
    (s_X12_pupils y1645.2).bind fun y1649 =>
      if y1645.1 = y1649.1 then
        if fin (l4 + 6) then
          some (.inl ((l4 + 6), y1649.2))
        else none
      else
        none
theorem st_34 {M : fM} {n0 l4 : Int} (hI : Iv M) (hn : n0 ≤ 3072) (h0 : 0 ≤ l4) (h1 : l4 + 6 ≤ n0) : ∃ M', cs_34 M n0 l4 = some (.inl (l4 + 6, M')) ∧ Iv M' := by
  obtain ⟨v, M1, M2, e1, e0, e2, e3⟩ := k_pupils hI 
  refine ⟨M2, ?_, e3⟩
  unfold cs_34
  rw [e1, Option.bind_some]
  show (s_X12_pupils M1 ).bind _ = _
  rw [e2, Option.bind_some, if_pos (show v = v from rfl), if_pos (by first | (unfold fin; omega) | omega)]
noncomputable def cs_35 (M : fM) (n0 l4 : Int) : Option ((Int × fM) ⊕ fM) :=
  if fin (l4 + 1) ∧ (0 ≤ (l4 + 1) ∧ (l4 + 1) < n0) then
    (s_X11_pupilOf M (M 1000 (l4 + 1).toNat)).bind fun y1664 =>
      if fin (l4 + 1) ∧ (0 ≤ (l4 + 1) ∧ (l4 + 1) < n0) then
        (s_X12_pupilOf M (M 1000 (l4 + 1).toNat)).bind fun y1674 =>
          if y1664 = y1674.1 then
            if fin (l4 + 6) then
              some (.inl ((l4 + 6), y1674.2))
            else none
          else
            none
      else none
  else none
theorem st_35 {M : fM} {n0 l4 : Int} (hI : Iv M) (hn : n0 ≤ 3072) (h0 : 0 ≤ l4) (h1 : l4 + 6 ≤ n0) : ∃ M', cs_35 M n0 l4 = some (.inl (l4 + 6, M')) ∧ Iv M' := by
  obtain ⟨v, M2, e1, e2, e3⟩ := k_pupilOf hI (M 1000 (l4 + 1).toNat)
  refine ⟨M2, ?_, e3⟩
  unfold cs_35
  rw [if_pos (by first | (unfold fin; omega) | omega), e1, Option.bind_some, if_pos (by first | (unfold fin; omega) | omega), e2, Option.bind_some, if_pos (show v = v from rfl), if_pos (by first | (unfold fin; omega) | omega)]
noncomputable def cs_36 (M : fM) (n0 l4 : Int) : Option ((Int × fM) ⊕ fM) :=
  if fin (l4 + 1) ∧ (0 ≤ (l4 + 1) ∧ (l4 + 1) < n0) then
    (s_X11_imageA M (M 1000 (l4 + 1).toNat)).bind fun y1689 =>
      if fin (l4 + 1) ∧ (0 ≤ (l4 + 1) ∧ (l4 + 1) < n0) then
        (s_X12_image y1689.2 (y1689.2 1000 (l4 + 1).toNat)).bind fun y1699 =>
          if y1689.1 = y1699.1 then
            if fin (l4 + 6) then
              some (.inl ((l4 + 6), y1699.2))
            else none
          else
            none
      else none
  else none
theorem st_36 {M : fM} {n0 l4 : Int} (hI : Iv M) (hn : n0 ≤ 3072) (h0 : 0 ≤ l4) (h1 : l4 + 6 ≤ n0) : ∃ M', cs_36 M n0 l4 = some (.inl (l4 + 6, M')) ∧ Iv M' := by
  obtain ⟨v, M1, M2, e1, e0, e2, e3⟩ := k_image hI (M 1000 (l4 + 1).toNat)
  refine ⟨M2, ?_, e3⟩
  unfold cs_36
  rw [if_pos (by first | (unfold fin; omega) | omega), e1, Option.bind_some, if_pos (by first | (unfold fin; omega) | omega)]
  show (s_X12_image M1 (M1 1000 (l4 + 1).toNat)).bind _ = _
  rw [e0, e2, Option.bind_some, if_pos (show v = v from rfl), if_pos (by first | (unfold fin; omega) | omega)]
noncomputable def cs_37 (M : fM) (n0 l4 : Int) : Option ((Int × fM) ⊕ fM) :=
  if fin (l4 + 1) ∧ (0 ≤ (l4 + 1) ∧ (l4 + 1) < n0) then
    (s_X11_restoreA M (M 1000 (l4 + 1).toNat)).bind fun y1714 =>
      if fin (l4 + 1) ∧ (0 ≤ (l4 + 1) ∧ (l4 + 1) < n0) then
        (s_X12_restore y1714.2 (y1714.2 1000 (l4 + 1).toNat)).bind fun y1724 =>
          if y1714.1 = y1724.1 then
            if fin (l4 + 6) then
              some (.inl ((l4 + 6), y1724.2))
            else none
          else
            none
      else none
  else none
theorem st_37 {M : fM} {n0 l4 : Int} (hI : Iv M) (hn : n0 ≤ 3072) (h0 : 0 ≤ l4) (h1 : l4 + 6 ≤ n0) : ∃ M', cs_37 M n0 l4 = some (.inl (l4 + 6, M')) ∧ Iv M' := by
  obtain ⟨v, M1, M2, e1, e0, e2, e3⟩ := k_restore hI (M 1000 (l4 + 1).toNat)
  refine ⟨M2, ?_, e3⟩
  unfold cs_37
  rw [if_pos (by first | (unfold fin; omega) | omega), e1, Option.bind_some, if_pos (by first | (unfold fin; omega) | omega)]
  show (s_X12_restore M1 (M1 1000 (l4 + 1).toNat)).bind _ = _
  rw [e0, e2, Option.bind_some, if_pos (show v = v from rfl), if_pos (by first | (unfold fin; omega) | omega)]
noncomputable def cs_38 (M : fM) (n0 l4 : Int) : Option ((Int × fM) ⊕ fM) :=
  if fin (l4 + 1) ∧ (0 ≤ (l4 + 1) ∧ (l4 + 1) < n0) then
    (s_X11_count M (M 1000 (l4 + 1).toNat)).bind fun y1739 =>
      if fin (l4 + 1) ∧ (0 ≤ (l4 + 1) ∧ (l4 + 1) < n0) then
        (s_X12_count M (M 1000 (l4 + 1).toNat)).bind fun y1749 =>
          if y1739 = y1749.1 then
            if fin (l4 + 6) then
              some (.inl ((l4 + 6), y1749.2))
            else none
          else
            none
      else none
  else none
theorem st_38 {M : fM} {n0 l4 : Int} (hI : Iv M) (hn : n0 ≤ 3072) (h0 : 0 ≤ l4) (h1 : l4 + 6 ≤ n0) : ∃ M', cs_38 M n0 l4 = some (.inl (l4 + 6, M')) ∧ Iv M' := by
  obtain ⟨v, M2, e1, e2, e3⟩ := k_count hI (M 1000 (l4 + 1).toNat)
  refine ⟨M2, ?_, e3⟩
  unfold cs_38
  rw [if_pos (by first | (unfold fin; omega) | omega), e1, Option.bind_some, if_pos (by first | (unfold fin; omega) | omega), e2, Option.bind_some, if_pos (show v = v from rfl), if_pos (by first | (unfold fin; omega) | omega)]
theorem law_step {M : fM} {n0 l4 : Int} (hI : Iv M) (hn : n0 ≤ 3072) (h0 : 0 ≤ l4) (h1 : l4 + 6 ≤ n0) : ∃ M', s_L_law_b23 M n0 l4 = some (.inl (l4 + 6, M')) ∧ Iv M' := by
  unfold s_L_law_b23
  rw [if_pos (by unfold fin; omega), if_neg (by omega), if_pos (by omega)]
  by_cases c0 : fand (M 1000 (l4).toNat) 63 = 0
  · rw [if_pos c0]
    exact st_0 hI hn h0 h1
  rw [if_neg c0]
  clear c0
  by_cases c1 : fand (M 1000 (l4).toNat) 63 = 1
  · rw [if_pos c1]
    exact st_1 hI hn h0 h1
  rw [if_neg c1]
  clear c1
  by_cases c2 : fand (M 1000 (l4).toNat) 63 = 2
  · rw [if_pos c2]
    exact st_2 hI hn h0 h1
  rw [if_neg c2]
  clear c2
  by_cases c3 : fand (M 1000 (l4).toNat) 63 = 3
  · rw [if_pos c3]
    exact st_3 hI hn h0 h1
  rw [if_neg c3]
  clear c3
  by_cases c4 : fand (M 1000 (l4).toNat) 63 = 4
  · rw [if_pos c4]
    exact st_4 hI hn h0 h1
  rw [if_neg c4]
  clear c4
  by_cases c5 : fand (M 1000 (l4).toNat) 63 = 5
  · rw [if_pos c5]
    exact st_5 hI hn h0 h1
  rw [if_neg c5]
  clear c5
  by_cases c6 : fand (M 1000 (l4).toNat) 63 = 6
  · rw [if_pos c6]
    exact st_6 hI hn h0 h1
  rw [if_neg c6]
  clear c6
  by_cases c7 : fand (M 1000 (l4).toNat) 63 = 7
  · rw [if_pos c7]
    exact st_7 hI hn h0 h1
  rw [if_neg c7]
  clear c7
  by_cases c8 : fand (M 1000 (l4).toNat) 63 = 8
  · rw [if_pos c8]
    exact st_8 hI hn h0 h1
  rw [if_neg c8]
  clear c8
  by_cases c9 : fand (M 1000 (l4).toNat) 63 = 9
  · rw [if_pos c9]
    exact st_9 hI hn h0 h1
  rw [if_neg c9]
  clear c9
  by_cases c10 : fand (M 1000 (l4).toNat) 63 = 10
  · rw [if_pos c10]
    exact st_10 hI hn h0 h1
  rw [if_neg c10]
  clear c10
  by_cases c11 : fand (M 1000 (l4).toNat) 63 = 11
  · rw [if_pos c11]
    exact st_11 hI hn h0 h1
  rw [if_neg c11]
  clear c11
  by_cases c12 : fand (M 1000 (l4).toNat) 63 = 12
  · rw [if_pos c12]
    exact st_12 hI hn h0 h1
  rw [if_neg c12]
  clear c12
  by_cases c13 : fand (M 1000 (l4).toNat) 63 = 13
  · rw [if_pos c13]
    exact st_13 hI hn h0 h1
  rw [if_neg c13]
  clear c13
  by_cases c14 : fand (M 1000 (l4).toNat) 63 = 14
  · rw [if_pos c14]
    exact st_14 hI hn h0 h1
  rw [if_neg c14]
  clear c14
  by_cases c15 : fand (M 1000 (l4).toNat) 63 = 15
  · rw [if_pos c15]
    exact st_15 hI hn h0 h1
  rw [if_neg c15]
  clear c15
  by_cases c16 : fand (M 1000 (l4).toNat) 63 = 16
  · rw [if_pos c16]
    exact st_16 hI hn h0 h1
  rw [if_neg c16]
  clear c16
  by_cases c17 : fand (M 1000 (l4).toNat) 63 = 17
  · rw [if_pos c17]
    exact st_17 hI hn h0 h1
  rw [if_neg c17]
  clear c17
  by_cases c18 : fand (M 1000 (l4).toNat) 63 = 18
  · rw [if_pos c18]
    exact st_18 hI hn h0 h1
  rw [if_neg c18]
  clear c18
  by_cases c19 : fand (M 1000 (l4).toNat) 63 = 19
  · rw [if_pos c19]
    exact st_19 hI hn h0 h1
  rw [if_neg c19]
  clear c19
  by_cases c20 : fand (M 1000 (l4).toNat) 63 = 20
  · rw [if_pos c20]
    exact st_20 hI hn h0 h1
  rw [if_neg c20]
  clear c20
  by_cases c21 : fand (M 1000 (l4).toNat) 63 = 21
  · rw [if_pos c21]
    exact st_21 hI hn h0 h1
  rw [if_neg c21]
  clear c21
  by_cases c22 : fand (M 1000 (l4).toNat) 63 = 22
  · rw [if_pos c22]
    exact st_22 hI hn h0 h1
  rw [if_neg c22]
  clear c22
  by_cases c23 : fand (M 1000 (l4).toNat) 63 = 23
  · rw [if_pos c23]
    exact st_23 hI hn h0 h1
  rw [if_neg c23]
  clear c23
  by_cases c24 : fand (M 1000 (l4).toNat) 63 = 24
  · rw [if_pos c24]
    exact st_24 hI hn h0 h1
  rw [if_neg c24]
  clear c24
  by_cases c25 : fand (M 1000 (l4).toNat) 63 = 25
  · rw [if_pos c25]
    exact st_25 hI hn h0 h1
  rw [if_neg c25]
  clear c25
  by_cases c26 : fand (M 1000 (l4).toNat) 63 = 26
  · rw [if_pos c26]
    exact st_26 hI hn h0 h1
  rw [if_neg c26]
  clear c26
  by_cases c27 : fand (M 1000 (l4).toNat) 63 = 27
  · rw [if_pos c27]
    exact st_27 hI hn h0 h1
  rw [if_neg c27]
  clear c27
  by_cases c28 : fand (M 1000 (l4).toNat) 63 = 28
  · rw [if_pos c28]
    exact st_28 hI hn h0 h1
  rw [if_neg c28]
  clear c28
  by_cases c29 : fand (M 1000 (l4).toNat) 63 = 29
  · rw [if_pos c29]
    exact st_29 hI hn h0 h1
  rw [if_neg c29]
  clear c29
  by_cases c30 : fand (M 1000 (l4).toNat) 63 = 30
  · rw [if_pos c30]
    exact st_30 hI hn h0 h1
  rw [if_neg c30]
  clear c30
  by_cases c31 : fand (M 1000 (l4).toNat) 63 = 31
  · rw [if_pos c31]
    exact st_31 hI hn h0 h1
  rw [if_neg c31]
  clear c31
  by_cases c32 : fand (M 1000 (l4).toNat) 63 = 32
  · rw [if_pos c32]
    exact st_32 hI hn h0 h1
  rw [if_neg c32]
  clear c32
  by_cases c33 : fand (M 1000 (l4).toNat) 63 = 33
  · rw [if_pos c33]
    exact st_33 hI hn h0 h1
  rw [if_neg c33]
  clear c33
  by_cases c34 : fand (M 1000 (l4).toNat) 63 = 34
  · rw [if_pos c34]
    exact st_34 hI hn h0 h1
  rw [if_neg c34]
  clear c34
  by_cases c35 : fand (M 1000 (l4).toNat) 63 = 35
  · rw [if_pos c35]
    exact st_35 hI hn h0 h1
  rw [if_neg c35]
  clear c35
  by_cases c36 : fand (M 1000 (l4).toNat) 63 = 36
  · rw [if_pos c36]
    exact st_36 hI hn h0 h1
  rw [if_neg c36]
  clear c36
  by_cases c37 : fand (M 1000 (l4).toNat) 63 = 37
  · rw [if_pos c37]
    exact st_37 hI hn h0 h1
  rw [if_neg c37]
  clear c37
  by_cases c38 : fand (M 1000 (l4).toNat) 63 = 38
  · rw [if_pos c38]
    exact st_38 hI hn h0 h1
  rw [if_neg c38]
  clear c38
  exact ⟨M, if_pos (by unfold fin; omega), hI⟩
