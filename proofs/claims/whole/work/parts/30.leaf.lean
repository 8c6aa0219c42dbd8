/-! ===== leaves (first of the pure part) ===== -/
theorem p_weekOf {d : Nat} {x : Int} {h : fH} {Q : fO → fH → Prop} (H : Q (.inl (some (fI (fdiv x 7)))) h) : Wp (d, 193, 0, 0, 0, [some (fI x)], []) h Q := by
  refine Wp.run 3 rfl ?_ ?_
  · exact (by decide : (7 : Int) ≠ 0)
  · refine Wp.done rfl ?_ H
    exact ⟨Nat.zero_le _, Nat.zero_le _, fun _ => rfl⟩
theorem p_hasPiano4 {d : Nat} {x : Int} {M : fM} {Q : fO → fH → Prop} (H : Q (.inl (some (fI (if 0 ≤ x ∧ x < M 4 13 then 1 else 0)))) (156, fj0, M)) : Wp (d, 30, 0, 0, 0, [some (fA 4), some (fI x)], []) (156, fj0, M) Q := by
  refine Wp.run 1 rfl trivial ?_
  refine Wp.br rfl (fun (c : x < 0) => ?_) (fun (c : ¬ x < 0) => ?_)
  · rw [if_neg (by omega)] at H
    refine Wp.run 1 rfl trivial ?_
    exact Wp.done rfl (by decide) H
  · refine Wp.run 3 rfl ?_ ?_
    · trivial
    · refine Wp.br rfl (fun (c2 : x ≥ M 4 13) => ?_) (fun (c2 : ¬ x ≥ M 4 13) => ?_)
      · rw [if_neg (by omega)] at H
        refine Wp.run 1 rfl trivial ?_
        exact Wp.done rfl (by decide) H
      · rw [if_pos (by omega)] at H
        refine Wp.run 2 rfl trivial ?_
        exact Wp.done rfl (by decide) H
