/-! ===== functions of the methods: what they are made of ===== -/
abbrev fin (x : Int) : Prop := -2147483648 ≤ x ∧ x < 2147483648
abbrev finl (x : Int) : Prop := -9223372036854775808 ≤ x ∧ x < 9223372036854775808
abbrev b01 (x : Int) : Prop := x = 0 ∨ x = 1
theorem fw_id {x : Int} (h : fin x) : fw x = x := by
  unfold fw
  exact Int.bmod_eq_of_le (by have := h.1; omega) (by have := h.2; omega)
theorem fwl_id {x : Int} (h : finl x) : fwl x = x := by
  unfold fwl
  exact Int.bmod_eq_of_le (by have := h.1; omega) (by have := h.2; omega)
theorem fand_b {x : Int} (h : b01 x) : fand x 1 = x := by
  rcases h with rfl | rfl <;> decide
theorem fcm_lt (x y : Int) : fcm x y < 0 ↔ x < y := by
  unfold fcm; split
  · omega
  · split <;> omega
theorem fcm_le (x y : Int) : fcm x y ≤ 0 ↔ x ≤ y := by
  unfold fcm; split
  · omega
  · split <;> omega
theorem fcm_gt (x y : Int) : 0 < fcm x y ↔ y < x := by
  unfold fcm; split
  · omega
  · split <;> omega
theorem fcm_ge (x y : Int) : 0 ≤ fcm x y ↔ y ≤ x := by
  unfold fcm; split
  · omega
  · split <;> omega
theorem fcm_eq (x y : Int) : fcm x y = 0 ↔ x = y := by
  unfold fcm; split
  · omega
  · split <;> omega
theorem fcm_ne (x y : Int) : ¬ fcm x y = 0 ↔ ¬ x = y := by rw [fcm_eq]
theorem fps {α : Type} {c : Prop} [Decidable c] {a b : Option α} {r : α} (hc : c) (h : (if c then a else b) = some r) : a = some r := by
  rw [if_pos hc] at h; exact h
theorem fng {α : Type} {c : Prop} [Decidable c] {a b : Option α} {r : α} (hc : ¬ c) (h : (if c then a else b) = some r) : b = some r := by
  rw [if_neg hc] at h; exact h
theorem fgd {α : Type} {c : Prop} [Decidable c] {a : Option α} {r : α} (h : (if c then a else none) = some r) : c ∧ a = some r := by
  by_cases hc : c
  · rw [if_pos hc] at h; exact ⟨hc, h⟩
  · rw [if_neg hc] at h; cases h
theorem fbd {α β : Type} {x : Option α} {f : α → Option β} {r : β} (h : x.bind f = some r) : ∃ y, x = some y ∧ f y = some r := by
  cases x with
  | none => cases h
  | some y => exact ⟨y, rfl, h⟩
def fel {α β : Type} (x : α ⊕ Unit) (f : α → β) (g : β) : β := match x with
  | .inl v => f v
  | .inr _ => g
theorem fel_of {α β : Type} {x : α ⊕ Unit} {f : α → Option β} {g : Option β} {r : β} (h : fel x f g = some r) : (∃ w, x = .inl w ∧ f w = some r) ∨ (x = .inr () ∧ g = some r) := by
  rcases x with v | u
  · exact .inl ⟨v, rfl, h⟩
  · exact .inr ⟨rfl, h⟩
theorem fsl {α β γ : Type} {f : α → Option γ} {g : β → Option γ} {x : α} {r : γ} (h : Sum.elim f g (.inl x) = some r) : f x = some r := h
theorem fsr {α β γ : Type} {f : α → Option γ} {g : β → Option γ} {x : β} {r : γ} (h : Sum.elim f g (.inr x) = some r) : g x = some r := h
abbrev oI (v : Int) : fO := .inl (some (fI v))
abbrev oJ (v : Int) : fO := .inl (some (fJ v))
abbrev oV (_ : Unit) : fO := .inl none
def oT {α : Type} (f : α → fO) (e : Nat) (x : α ⊕ Unit) : fO := match x with
  | .inl v => f v
  | .inr _ => .inr e
/-! loops -/
def fLoop {σ ε : Type} (b : σ → Option (σ ⊕ ε)) : Nat → σ → Option ε
  | 0, _ => none
  | n + 1, s => match b s with
    | none => none
    | some (.inl s') => fLoop b n s'
    | some (.inr e) => some e
theorem fLoop_up {σ ε : Type} {b : σ → Option (σ ⊕ ε)} : ∀ (n m : Nat) (s : σ) (e : ε), n ≤ m → fLoop b n s = some e → fLoop b m s = some e
  | 0, _, _, _, _, h => by cases h
  | n + 1, 0, _, _, hn, _ => absurd hn (by omega)
  | n + 1, m + 1, s, e, hn, h => by
    unfold fLoop at h ⊢
    rcases hb : b s with _ | (s' | e')
    · rw [hb] at h; cases h
    · rw [hb] at h; exact fLoop_up n m s' e (by omega) h
    · rw [hb] at h; exact h
noncomputable def fLp {σ ε : Type} (b : σ → Option (σ ⊕ ε)) (s : σ) : Option ε :=
  @dite _ (∃ n e, fLoop b n s = some e) (Classical.propDecidable _) (fun h => fLoop b (Classical.choose h) s) (fun _ => none)
theorem fLp_iff {σ ε : Type} {b : σ → Option (σ ⊕ ε)} {s : σ} {e : ε} : fLp b s = some e ↔ ∃ n, fLoop b n s = some e := by
  unfold fLp
  constructor
  · intro h
    split at h
    · exact ⟨_, h⟩
    · cases h
  · rintro ⟨n, h⟩
    have hx : ∃ n e, fLoop b n s = some e := ⟨n, e, h⟩
    rw [dif_pos hx]
    obtain ⟨e', he'⟩ := Classical.choose_spec hx
    have h1 := fLoop_up _ (max n (Classical.choose hx)) s e (Nat.le_max_left _ _) h
    have h2 := fLoop_up _ (max n (Classical.choose hx)) s e' (Nat.le_max_right _ _) he'
    rw [h1] at h2
    cases h2
    exact he'
theorem fLp_wp {σ ε : Type} {b : σ → Option (σ ⊕ ε)} {W : σ → Prop} {e : ε} {s : σ} (hb : ∀ s r, b s = some r → (∀ s', r = .inl s' → W s') → (∀ e', r = .inr e' → e' = e) → W s) (h : fLp b s = some e) : W s := by
  replace h := fLp_iff.mp h
  obtain ⟨n, h⟩ := h
  induction n generalizing s with
  | zero => cases h
  | succ n ih =>
    unfold fLoop at h
    rcases hs : b s with _ | (s' | e')
    · rw [hs] at h; cases h
    · rw [hs] at h
      exact hb s _ hs (fun s2 h2 => by cases h2; exact ih h) (fun e2 h2 => by cases h2)
    · rw [hs] at h
      exact hb s _ hs (fun s2 h2 => by cases h2) (fun e2 h2 => by cases h2; cases h; rfl)
/-- one round of a loop -/
theorem fLp_eq {σ ε : Type} (b : σ → Option (σ ⊕ ε)) (s : σ) : fLp b s = (b s).bind (fun r => Sum.elim (fLp b) some r) := by
  apply Option.ext
  intro e
  rw [fLp_iff]
  constructor
  · rintro ⟨n, h⟩
    cases n with
    | zero => cases h
    | succ n =>
      unfold fLoop at h
      rcases hs : b s with _ | (s' | e')
      · rw [hs] at h; cases h
      · rw [hs] at h
        exact fLp_iff.mpr ⟨n, h⟩
      · rw [hs] at h; exact h
  · intro h
    rcases hs : b s with _ | (s' | e')
    · rw [hs] at h; cases h
    · rw [hs] at h
      obtain ⟨n, h⟩ := fLp_iff.mp h
      exact ⟨n + 1, by unfold fLoop; rw [hs]; exact h⟩
    · rw [hs] at h
      exact ⟨1, by unfold fLoop; rw [hs]; exact h⟩
theorem fLp_inv {σ ε : Type} {b : σ → Option (σ ⊕ ε)} {I : σ → Prop} {J : ε → Prop} {s : σ} {e : ε} (h : fLp b s = some e) (h0 : I s) (hs : ∀ s s', I s → b s = some (.inl s') → I s') (he : ∀ s e, I s → b s = some (.inr e) → J e) : J e := by
  replace h := fLp_iff.mp h
  obtain ⟨n, h⟩ := h
  induction n generalizing s with
  | zero => cases h
  | succ n ih =>
    unfold fLoop at h
    rcases hb : b s with _ | (s' | e')
    · rw [hb] at h; cases h
    · rw [hb] at h
      exact ih (hs s s' h0 hb) h
    · rw [hb] at h
      cases h
      exact he s _ h0 hb
/-! what a method leaves alone -/
abbrev fMod (l : List (Nat × Option Nat)) (k j : Nat) : Prop := (k, none) ∈ l ∨ (k, some j) ∈ l
def fSame (l : List (Nat × Option Nat)) (M M' : fM) : Prop := ∀ k j, ¬ fMod l k j → M' k j = M k j
theorem fs_refl {l : List (Nat × Option Nat)} {M : fM} : fSame l M M := fun _ _ _ => rfl
theorem fs_trans {l : List (Nat × Option Nat)} {M M1 M2 : fM} (h1 : fSame l M M1) (h2 : fSame l M1 M2) : fSame l M M2 := fun k j h => (h2 k j h).trans (h1 k j h)
theorem fs_mono {l l' : List (Nat × Option Nat)} {M M' : fM} (hl : ∀ x ∈ l, x ∈ l') (h : fSame l M M') : fSame l' M M' := fun k j hn => h k j (fun hm => hn (hm.imp (hl _) (hl _)))
theorem fs_up {l : List (Nat × Option Nat)} {M M1 : fM} {k i : Nat} {v : Int} (h : fSame l M M1) (hm : fMod l k i) : fSame l M (fup M1 k i v) := fun a b hn => by
  unfold fup
  rw [if_neg (fun e => hn (by rw [e.1, e.2]; exact hm))]
  exact h a b hn
theorem fs_cpy {l : List (Nat × Option Nat)} {M M1 : fM} {k i q j n : Nat} (h : fSame l M M1) (hm : (q, none) ∈ l) : fSame l M (fcpy M1 k i q j n) := fun a b hn => by
  unfold fcpy
  rw [if_neg (fun e => hn (by rw [e.1]; exact .inl hm))]
  exact h a b hn
