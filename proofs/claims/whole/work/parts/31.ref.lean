/-! ===== references behind the constructors; L: the script's length ===== -/
def fjl (L : Nat) (k f : Nat) : Nat := bif Nat.beq k 1000 then (bif Nat.beq f 0 then L else 0) else fj0 k f
theorem p_hasPiano {d L : Nat} {x : Int} {M : fM} {Q : fO → fH → Prop} (H : Q (.inl (some (fI (if 0 ≤ x ∧ x < M 4 13 then 1 else 0)))) (156, fjl L, M)) : Wp (d, 30, 0, 0, 0, [some (fA 4), some (fI x)], []) (156, fjl L, M) Q := by
  refine Wp.run 1 rfl trivial ?_
  refine Wp.br rfl (fun (c : x < 0) => ?_) (fun (c : ¬ x < 0) => ?_)
  · rw [if_neg (by omega)] at H
    refine Wp.run 1 rfl trivial ?_
    exact Wp.done rfl (by decide) H
  · refine Wp.run 3 rfl trivial ?_
    refine Wp.br rfl (fun (c2 : x ≥ M 4 13) => ?_) (fun (c2 : ¬ x ≥ M 4 13) => ?_)
    · rw [if_neg (by omega)] at H
      refine Wp.run 1 rfl trivial ?_
      exact Wp.done rfl (by decide) H
    · rw [if_pos (by omega)] at H
      refine Wp.run 2 rfl trivial ?_
      exact Wp.done rfl (by decide) H
/-- a fact of a piano of the house -/
theorem p_fact {d L : Nat} {x y : Int} {M : fM} {Q : fO → fH → Prop} (H : Q (.inl (some (fI (M 10 (fw (fw (x * 10) + y)).toNat)))) (156, fjl L, M)) (hb : 0 ≤ fw (fw (x * 10) + y) ∧ fw (fw (x * 10) + y) < (flenJ (fjl L) 10 : Int)) : Wp (d, 29, 0, 0, 0, [some (fA 4), some (fI x), some (fI y)], []) (156, fjl L, M) Q := by
  refine Wp.run 8 rfl hb ?_
  exact Wp.done rfl (by decide) H
