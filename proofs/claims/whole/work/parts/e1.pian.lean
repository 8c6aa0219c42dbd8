/-! ===== records: the piano ===== -/
noncomputable def rPiano (N : fM) (kd to : Int) : Option (Int × fM) := (s_X12_isName N).bind fun y35 => if ¬ y35 = 0 then (s_X12_find N 0 0).bind (fun y50 => if y50 < 0 then s_X12_record_j80 N else if ¬ kd = 5 then s_X12_record_j86 N kd to y50 else if fin (10 * y50) ∧ fin (175 + (10 * y50)) ∧ (0 ≤ (175 + (10 * y50)) ∧ (175 + (10 * y50)) < 1290) then (if (N 124 (175 + (10 * y50)).toNat) = 2 then s_X12_record_j86 N kd to y50 else s_X12_record_j80 N) else none) else (s_X12_bad N 1).bind fun y43 => if b01 y43.1 then some (y43.1, y43.2) else none
theorem tp_eq {K K1 : fM} {x t : Int} (c1 : s_X10_takeName K = some (.inl x, K1)) : s_X5_takePiano K t = (s_X2_pianoNamed_4 K1 x).bind fun y11 => if y11 < 0 then s_X5_takePiano_j34 K1 y11 else if t = 0 then some (.inl y11, K1) else (s_X2_isHall_4 K1 y11).bind fun y28 => if ¬ y28 = 0 then some (.inl y11, K1) else s_X5_takePiano_j34 K1 y11 := by
  unfold s_X5_takePiano
  rw [c1]
  rfl
theorem c_isHall0 {K : fM} {v : Int} (h0 : 0 ≤ v) (h1 : v < K 4 13) (h2 : K 4 13 ≤ 16) : s_X2_isHall_4 K v = some (bit (K 10 (v * 10 + 0).toNat = 2)) := by
  unfold s_X2_isHall_4
  rw [c_hasPiano, Option.bind_some, bit_if, if_pos ⟨h0, h1⟩]
  unfold s_X2_fact_4
  rw [if_pos (by unfold fin; omega), Option.bind_some]
  by_cases q : K 10 (v * 10 + 0).toNat = 2
  · rw [if_neg (fun e => e q), bit1.2 q]
  · rw [if_pos q, bit0.2 q]
theorem r_piano {K N : fM} {b : Nat → Int} {L lim p n : Nat} (hB : StB K N b L lim p) (hH : HR K N) {kd t to : Int} (ht : t = if kd = 5 then 1 else 0) : (∃ x K', s_X5_takePiano K t = some (.inl x, K') ∧ rPiano N kd to = s_X12_record_j86 N kd to x ∧ StA K' N b L lim p ∧ 0 ≤ x ∧ x < K 4 13 ∧ (kd = 5 → K 10 (x * 10 + 0).toNat = 2) ∧ fSame tkL K K' ∧ p < tNx b L lim p) ∨ (∃ K' N', s_X5_takePiano K t = some (.inr (), K') ∧ rPiano N kd to = some (0, N') ∧ Ft K' N' ∧ RN n N N') := by
  rcases sim_name hB with ⟨K1, c1, m1, hA1, g1, w1, f1, lt1⟩ | ⟨K1, N1, c1, m1, mb, hF⟩
  · have hH1 : HR K1 N := HR_fs f1 (by decide) (fs_refl (l := [])) (by decide) hH
    obtain ⟨v, v1, v2, v3, v4⟩ := fd_piano0 hH1 w1 g1
    obtain ⟨K3, N3, f3, f4, f5⟩ := sim_fail hA1 3 (by decide)
    have rn : RN n N N3 := RN_fs (s_X12_bad_fr f4) (by decide)
    have j34 : ∀ y, s_X5_takePiano_j34 K1 y = some (.inr (), K3) := fun y => by
      unfold s_X5_takePiano_j34
      rw [f3]
      rfl
    have j80 : s_X12_record_j80 N = some (0, N3) := by
      unfold s_X12_record_j80
      rw [f4]
      rfl
    have e413 : K1 4 13 = K 4 13 := fs_at f1 4 13 (by decide)
    have e10 : K1 10 = K 10 := fs_row f1 10 (by decide)
    have mpre : rPiano N kd to = if v < 0 then s_X12_record_j80 N else if ¬ kd = 5 then s_X12_record_j86 N kd to v else if fin (10 * v) ∧ fin (175 + (10 * v)) ∧ (0 ≤ (175 + (10 * v)) ∧ (175 + (10 * v)) < 1290) then (if (N 124 (175 + (10 * v)).toNat) = 2 then s_X12_record_j86 N kd to v else s_X12_record_j80 N) else none := by
      unfold rPiano
      rw [m1, Option.bind_some, if_pos (show ¬ (1 : Int) = 0 by decide), v2, Option.bind_some]
    have cpre := tp_eq (t := t) c1
    rw [v1, Option.bind_some] at cpre
    have h16 : K 4 13 ≤ 16 := hH.1.2
    by_cases g : v < 0
    · right
      refine ⟨K3, N3, ?_, ?_, f5, rn⟩
      · rw [cpre, if_pos g, j34]
      · rw [mpre, if_pos g, j80]
    · have hall : N 124 (175 + 10 * v).toNat = K1 10 (v * 10 + 0).toNat := hH1.2.2.2.2.2.2 v (by omega) v4
      rw [if_neg g] at cpre mpre
      by_cases g5 : kd = 5
      · have ht1 : t = 1 := by rw [ht, if_pos g5]
        rw [ht1, if_neg (show ¬ (1 : Int) = 0 by decide), c_isHall0 (by omega) v4 (by omega), Option.bind_some, bit_ifn] at cpre
        rw [if_neg (fun e => e g5), if_pos (by unfold fin; omega), hall] at mpre
        by_cases q : K1 10 (v * 10 + 0).toNat = 2
        · left
          rw [if_pos q] at cpre mpre
          exact ⟨v, K1, by rw [ht1]; exact cpre, mpre, hA1, by omega, by omega, fun _ => by rw [← e10]; exact q, f1, lt1⟩
        · right
          rw [if_neg q] at cpre mpre
          refine ⟨K3, N3, ?_, ?_, f5, rn⟩
          · rw [ht1, cpre, j34]
          · rw [mpre, j80]
      · left
        have ht0 : t = 0 := by rw [ht, if_neg g5]
        rw [if_pos ht0] at cpre
        rw [if_pos g5] at mpre
        exact ⟨v, K1, cpre, mpre, hA1, by omega, by omega, fun e => absurd e g5, f1, lt1⟩
  · right
    refine ⟨K1, N1, ?_, ?_, hF, RN_fs (s_X12_bad_fr mb) (by decide)⟩
    · unfold s_X5_takePiano
      rw [c1]
      rfl
    · unfold rPiano
      rw [m1, Option.bind_some, if_neg (show ¬ ¬ (0 : Int) = 0 by decide), mb]
      rfl
