def frun (fm : Nat → fD) : Nat → List Prop → fF → fH → Option (List Prop × fF × fH)
  | 0, P, f, h => some (P, f, h)
  | n + 1, P, f, h => match fstep fm f h with
    | some (.inl (P', f', h')) => frun fm n (P ++ P') f' h'
    | _ => none
