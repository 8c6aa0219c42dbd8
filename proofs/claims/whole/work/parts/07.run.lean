def frun (fm : Nat → fD) : Nat → List Prop → fF → fH → Option (List Prop × fF × fH)
  | 0, P, f, h => some (P, f, h)
  | n + 1, P, f, h => match fstep fm f h with
    | some (.inl (P', f', h')) => frun fm n (P ++ P') f' h'
    | _ => none
theorem fall_app : ∀ (P Q : List Prop), fall (P ++ Q) ↔ fall P ∧ fall Q
  | [], Q => by simp [fall]
  | [p], [] => by simp [fall]
  | [p], q :: Q => by simp [fall]
  | p :: p2 :: P, Q => by
    have ih := fall_app (p2 :: P) Q
    have e1 : fall (p :: p2 :: P ++ Q) = (p ∧ fall (p2 :: P ++ Q)) := rfl
    have e2 : fall (p :: p2 :: P) = (p ∧ fall (p2 :: P)) := rfl
    rw [e1, e2, ih]
    exact and_assoc.symm
theorem fsw_mono {K K' : Nat → Prop} (hK : ∀ x, K x → K' x) {v : Int} : ∀ (ts : List Nat) (lo : Int) (dt : Nat), fsw K v lo ts dt → fsw K' v lo ts dt
  | [], _, _, h => hK _ h
  | _ :: ts, _, dt, h => ⟨fun e => hK _ (h.1 e), fun e => fsw_mono hK ts _ dt (h.2 e)⟩
theorem fbk_mono {fm : Nat → fD} {K K' : fF → fH → Prop} {Q Q' : fO → fH → Prop} {q : Nat} {fr : fF} {hd : Option (Nat × Nat)} (hK : ∀ f h, K f h → K' f h) (hQ : ∀ o h, Q o h → Q' o h) : ∀ o h, fbk fm K Q q fr hd o h → fbk fm K' Q' q fr hd o h := by
  intro o h H
  obtain ⟨d, mid, pc, cu, su, ls, st⟩ := fr
  rcases o with v | e
  · exact hK _ _ H
  · rcases hd with _ | ⟨x, e0⟩
    · exact ⟨H.1, hQ _ _ H.2⟩
    · exact ⟨H.1, hK _ _ H.2⟩
theorem fbk_ex {fm : Nat → fD} {K : Nat → fF → fH → Prop} {Q : Nat → fO → fH → Prop} {q : Nat} {fr : fF} {hd : Option (Nat × Nat)} {o : fO} {h : fH} (H : fbk fm (fun f h => ∃ k, K k f h) (fun o h => ∃ k, Q k o h) q fr hd o h) : ∃ k, fbk fm (K k) (Q k) q fr hd o h := by
  obtain ⟨d, mid, pc, cu, su, ls, st⟩ := fr
  rcases o with v | e
  · exact H
  · rcases hd with _ | ⟨x, e0⟩
    · obtain ⟨a, k, b⟩ := H
      exact ⟨k, a, b⟩
    · obtain ⟨a, k, b⟩ := H
      exact ⟨k, a, b⟩
theorem fwp_mono {fm : Nat → fD} : ∀ (n n' : Nat) (f : fF) (h : fH) (Q Q' : fO → fH → Prop), n ≤ n' → (∀ o h, Q o h → Q' o h) → fwp fm n f h Q → fwp fm n' f h Q'
  | 0, _, _, _, _, _, _, _, H => H.elim
  | n + 1, 0, _, _, _, _, hn, _, _ => absurd hn (by omega)
  | n + 1, n' + 1, f, h, Q, Q', hn, hQ, H => by
    have hn' : n ≤ n' := by omega
    have ih : ∀ (f : fF) (h : fH) (Q Q' : fO → fH → Prop), (∀ o h, Q o h → Q' o h) → fwp fm n f h Q → fwp fm n' f h Q' := fun f h Q Q' hQ => fwp_mono n n' f h Q Q' hn' hQ
    unfold fwp at H ⊢
    rcases hs : fstep fm f h with _ | (⟨P, f', h'⟩ | ⟨c, f1, f2⟩ | ⟨v, lo, ts, dt, f'⟩ | ⟨P, fc, fr, hd⟩ | ⟨P, o⟩)
    · rw [hs] at H; exact H
    · rw [hs] at H; exact ⟨H.1, ih _ _ _ _ hQ H.2⟩
    · rw [hs] at H; exact ⟨fun c => ih _ _ _ _ hQ (H.1 c), fun c => ih _ _ _ _ hQ (H.2 c)⟩
    · rw [hs] at H; exact fsw_mono (fun x => ih _ _ _ _ hQ) _ _ _ H
    · rw [hs] at H; exact ⟨H.1, ih _ _ _ _ (fbk_mono (fun f h => ih f h _ _ hQ) hQ) H.2⟩
    · rw [hs] at H; exact ⟨H.1, hQ _ _ H.2⟩
/-- the flat machine comes from here to an end with Q -/
def Wp (f : fF) (h : fH) (Q : fO → fH → Prop) : Prop := ∃ n, fwp fmth n f h Q
theorem Wp.mono {f : fF} {h : fH} {Q Q' : fO → fH → Prop} (hQ : ∀ o h, Q o h → Q' o h) (H : Wp f h Q) : Wp f h Q' := by
  obtain ⟨n, H⟩ := H
  exact ⟨n, fwp_mono n n f h Q Q' (Nat.le_refl n) hQ H⟩
theorem Wp.next {f f' : fF} {h h' : fH} {P : List Prop} {Q : fO → fH → Prop} (hs : fstep fmth f h = some (.inl (P, f', h'))) (hP : fall P) (H : Wp f' h' Q) : Wp f h Q := by
  obtain ⟨n, H⟩ := H
  refine ⟨n + 1, ?_⟩
  unfold fwp
  rw [hs]
  exact ⟨hP, H⟩
theorem Wp.run_aux : ∀ (k : Nat) (P0 : List Prop) {f f' : fF} {h h' : fH} {P : List Prop} {Q : fO → fH → Prop}, frun fmth k P0 f h = some (P, f', h') → fall P → Wp f' h' Q → Wp f h Q ∧ fall P0
  | 0, P0, f, f', h, h', P, Q, hr, hP, H => by
    unfold frun at hr
    cases hr
    exact ⟨H, hP⟩
  | k + 1, P0, f, f', h, h', P, Q, hr, hP, H => by
    unfold frun at hr
    rcases hs : fstep fmth f h with _ | (⟨P1, f1, h1⟩ | q)
    · rw [hs] at hr; cases hr
    · rw [hs] at hr
      obtain ⟨H1, h2⟩ := Wp.run_aux k (P0 ++ P1) hr hP H
      obtain ⟨h3, h4⟩ := (fall_app P0 P1).mp h2
      exact ⟨Wp.next hs h4 H1, h3⟩
    · rw [hs] at hr; cases hr
/-- k instructions one behind the other -/
theorem Wp.run (k : Nat) {f f' : fF} {h h' : fH} {P : List Prop} {Q : fO → fH → Prop} (hr : frun fmth k [] f h = some (P, f', h')) (hP : fall P) (H : Wp f' h' Q) : Wp f h Q := (Wp.run_aux k [] hr hP H).1
theorem Wp.br {f f1 f2 : fF} {h : fH} {c : Prop} {Q : fO → fH → Prop} (hs : fstep fmth f h = some (.inr (.inl (c, f1, f2)))) (H1 : c → Wp f1 h Q) (H2 : ¬ c → Wp f2 h Q) : Wp f h Q := by
  by_cases hc : c
  · obtain ⟨n, H⟩ := H1 hc
    refine ⟨n + 1, ?_⟩
    unfold fwp
    rw [hs]
    exact ⟨fun _ => H, fun e => absurd hc e⟩
  · obtain ⟨n, H⟩ := H2 hc
    refine ⟨n + 1, ?_⟩
    unfold fwp
    rw [hs]
    exact ⟨fun e => absurd e hc, fun _ => H⟩
theorem fsw_n {f : fF} {h : fH} {Q : fO → fH → Prop} {v : Int} : ∀ (ts : List Nat) (lo : Int) (dt : Nat), fsw (fun x => Wp (fpc f x) h Q) v lo ts dt → ∃ n, fsw (fun x => fwp fmth n (fpc f x) h Q) v lo ts dt
  | [], _, _, H => H
  | x :: ts, lo, dt, H => by
    by_cases hv : v = lo
    · obtain ⟨n, H1⟩ := H.1 hv
      exact ⟨n, fun _ => H1, fun e => absurd hv e⟩
    · obtain ⟨n, H1⟩ := fsw_n ts (lo + 1) dt (H.2 hv)
      exact ⟨n, fun e => absurd e hv, fun _ => H1⟩
theorem Wp.sw {f f' : fF} {h : fH} {v lo : Int} {ts : List Nat} {dt : Nat} {Q : fO → fH → Prop} (hs : fstep fmth f h = some (.inr (.inr (.inl (v, lo, ts, dt, f'))))) (H : fsw (fun x => Wp (fpc f' x) h Q) v lo ts dt) : Wp f h Q := by
  obtain ⟨n, H⟩ := fsw_n ts lo dt H
  refine ⟨n + 1, ?_⟩
  unfold fwp
  rw [hs]
  exact H
/-- the end -/
theorem Wp.done {f : fF} {h : fH} {P : Prop} {o : fO} {Q : fO → fH → Prop} (hs : fstep fmth f h = some (.inr (.inr (.inr (.inr (P, o)))))) (hP : P) (H : Q o h) : Wp f h Q := by
  refine ⟨1, ?_⟩
  unfold fwp
  rw [hs]
  exact ⟨hP, H⟩
theorem fwp_ex : ∀ (n : Nat) (fc : fF) (h : fH) (g : Nat → fO → fH → Prop), (∀ o h k k', k ≤ k' → g k o h → g k' o h) → fwp fmth n fc h (fun o h' => ∃ k, g k o h') → ∃ k, fwp fmth n fc h (g k)
  | 0, _, _, _, _, H => H.elim
  | n + 1, fc, h, g, hg, H => by
    unfold fwp at H
    rcases hs : fstep fmth fc h with _ | (⟨P, f', h'⟩ | ⟨c, f1, f2⟩ | ⟨v, lo, ts, dt, f'⟩ | ⟨P, fc', fr, hd⟩ | ⟨P, o⟩)
    · rw [hs] at H; exact H.elim
    · rw [hs] at H
      obtain ⟨k, H2⟩ := fwp_ex n _ _ g hg H.2
      refine ⟨k, ?_⟩
      unfold fwp; rw [hs]; exact ⟨H.1, H2⟩
    · rw [hs] at H
      by_cases hc : c
      · obtain ⟨k, H2⟩ := fwp_ex n _ _ g hg (H.1 hc)
        refine ⟨k, ?_⟩
        unfold fwp; rw [hs]; exact ⟨fun _ => H2, fun e => absurd hc e⟩
      · obtain ⟨k, H2⟩ := fwp_ex n _ _ g hg (H.2 hc)
        refine ⟨k, ?_⟩
        unfold fwp; rw [hs]; exact ⟨fun e => absurd e hc, fun _ => H2⟩
    · rw [hs] at H
      have hsw : ∀ (ts : List Nat) (lo : Int) (dt : Nat), fsw (fun x => fwp fmth n (fpc f' x) h (fun o h' => ∃ k, g k o h')) v lo ts dt → ∃ k, fsw (fun x => fwp fmth n (fpc f' x) h (g k)) v lo ts dt := by
        intro ts
        induction ts with
        | nil => intro lo dt H; exact fwp_ex n _ _ g hg H
        | cons x ts iht =>
          intro lo dt H
          by_cases hv : v = lo
          · obtain ⟨k, H1⟩ := fwp_ex n _ _ g hg (H.1 hv)
            exact ⟨k, fun _ => H1, fun e => absurd hv e⟩
          · obtain ⟨k, H1⟩ := iht (lo + 1) dt (H.2 hv)
            exact ⟨k, fun e => absurd e hv, fun _ => H1⟩
      obtain ⟨k, H2⟩ := hsw ts lo dt H
      refine ⟨k, ?_⟩
      unfold fwp; rw [hs]; exact H2
    · rw [hs] at H
      obtain ⟨k, H2⟩ := fwp_ex n fc' h (fun k => fbk fmth (fun f h => fwp fmth n f h (g k)) (g k) fc'.2.1 fr hd) (fun o h k k' hk H => fbk_mono (fun f h => fwp_mono n n f h _ _ (Nat.le_refl n) (fun o h => hg o h k k' hk)) (fun o h => hg o h k k' hk) o h H)
        (fwp_mono n n _ _ _ _ (Nat.le_refl n) (fun o h H => fbk_ex (fbk_mono (fun f h H => fwp_ex n f h g hg H) (fun _ _ q => q) o h H)) H.2)
      refine ⟨k, ?_⟩
      unfold fwp; rw [hs]; exact ⟨H.1, H2⟩
    · rw [hs] at H
      obtain ⟨a, k, b⟩ := H
      refine ⟨k, ?_⟩
      unfold fwp; rw [hs]; exact ⟨a, b⟩
/-- a call: what the callee comes to, and how it goes on -/
theorem Wp.call {f fc fr : fF} {h : fH} {P : Prop} {hd : Option (Nat × Nat)} {Q : fO → fH → Prop} (hs : fstep fmth f h = some (.inr (.inr (.inr (.inl (P, fc, fr, hd)))))) (hP : P)
    (H : Wp fc h (fbk fmth (fun f h => Wp f h Q) Q fc.2.1 fr hd)) : Wp f h Q := by
  obtain ⟨n, H⟩ := H
  obtain ⟨k, H2⟩ := fwp_ex n fc h (fun k => fbk fmth (fun f h => fwp fmth k f h Q) Q fc.2.1 fr hd) (fun o h k k' hk H => fbk_mono (fun f h => fwp_mono k k' f h _ _ hk (fun _ _ q => q)) (fun _ _ q => q) o h H)
    (fwp_mono n n _ _ _ _ (Nat.le_refl n) (fun o h H => fbk_ex (K := fun k f h => fwp fmth k f h Q) (Q := fun _ => Q) (fbk_mono (fun _ _ q => q) (fun _ _ q => ⟨0, q⟩) o h H)) H)
  refine ⟨max n k + 1, ?_⟩
  unfold fwp
  rw [hs]
  exact ⟨hP, fwp_mono n _ _ _ _ _ (Nat.le_max_left n k) (fbk_mono (fun f h => fwp_mono k _ f h _ _ (Nat.le_max_right n k) (fun _ _ q => q)) (fun _ _ q => q)) H2⟩
