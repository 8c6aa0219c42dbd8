/-! ===== tokens: what is on the tape at a place ===== -/
abbrev isLt (c : Int) : Prop := 97 ≤ c ∧ c ≤ 122
abbrev isDg (c : Int) : Prop := 48 ≤ c ∧ c ≤ 57
abbrev isBk (c : Int) : Prop := c = 32 ∨ c = 10
abbrev isAl (c : Int) : Prop := isLt c ∨ isDg c
def adv (P : Int → Prop) [DecidablePred P] (b : Nat → Int) (L : Nat) : Nat → Nat → Nat
  | 0, p => p
  | f + 1, p => if p < L ∧ P (b p) then adv P b L f (p + 1) else p
theorem adv_ok (P : Int → Prop) [DecidablePred P] (b : Nat → Int) (L : Nat) : ∀ f p, L ≤ p + f → p ≤ adv P b L f p ∧ (adv P b L f p ≤ L ∨ adv P b L f p = p) ∧ (∀ i, p ≤ i → i < adv P b L f p → i < L ∧ P (b i)) ∧ ¬ (adv P b L f p < L ∧ P (b (adv P b L f p)))
  | 0, p, h => ⟨Nat.le_refl _, .inr rfl, fun i h1 h2 => absurd h2 (by show ¬ i < p; omega), fun e => by have : p < L := e.1; omega⟩
  | f + 1, p, h => by
    unfold adv
    by_cases hc : p < L ∧ P (b p)
    · rw [if_pos hc]
      obtain ⟨a1, a2, a3, a4⟩ := adv_ok P b L f (p + 1) (by omega)
      refine ⟨by omega, ?_, fun i h1 h2 => ?_, a4⟩
      · rcases a2 with e | e
        · exact .inl e
        · exact .inl (by omega)
      · by_cases e : i = p
        · rw [e]; exact hc
        · exact a3 i (by omega) h2
    · rw [if_neg hc]
      exact ⟨Nat.le_refl _, .inr rfl, fun i h1 h2 => by omega, hc⟩
def cnt (P : Int → Prop) [DecidablePred P] (b : Nat → Int) (q : Nat) : Nat → Nat
  | 0 => 0
  | i + 1 => cnt P b q i + if P (b (q + i)) then 1 else 0
theorem cnt_le (P : Int → Prop) [DecidablePred P] (b : Nat → Int) (q : Nat) : ∀ i, cnt P b q i ≤ i
  | 0 => Nat.le_refl _
  | i + 1 => by
    have := cnt_le P b q i
    unfold cnt
    split <;> omega
/-- the letters from q on, the last one first -/
def wds (b : Nat → Int) (q : Nat) : Nat → List Nat
  | 0 => []
  | i + 1 => (b (q + i) - 96).toNat :: wds b q i
def vls (b : Nat → Int) (q : Nat) : Nat → Int
  | 0 => 0
  | i + 1 => vls b q i * 10 + (b (q + i) - 48)
/-! the token at p -/
def tQ (b : Nat → Int) (L p : Nat) : Nat := adv isBk b L L p
def tE (b : Nat → Int) (L q : Nat) : Nat := adv isAl b L L q
def tRun (b : Nat → Int) (L q : Nat) : Nat := if cnt isDg b q (tE b L q - q) = 0 ∧ cnt isLt b q (tE b L q - q) ≤ 8 then 2 else if cnt isLt b q (tE b L q - q) = 0 ∧ cnt isDg b q (tE b L q - q) ≤ 5 then 3 else 1
def tKd (b : Nat → Int) (L lim p : Nat) : Nat := if lim < L ∧ lim ≤ tQ b L p then 1 else if L ≤ tQ b L p then 0 else if isAl (b (tQ b L p)) then tRun b L (tQ b L p) else if b (tQ b L p) = 59 then 4 else if b (tQ b L p) = 45 then 5 else 1
def tNx (b : Nat → Int) (L lim p : Nat) : Nat := if lim < L ∧ lim ≤ tQ b L p then tQ b L p else if L ≤ tQ b L p then tQ b L p else if isAl (b (tQ b L p)) then tE b L (tQ b L p) else tQ b L p + 1
def tSt (b : Nat → Int) (L lim p : Nat) : Nat := if lim < L ∧ lim ≤ tQ b L p then lim else tQ b L p
def tW (b : Nat → Int) (L p : Nat) : List Nat := wds b (tQ b L p) (tE b L (tQ b L p) - tQ b L p)
def tV (b : Nat → Int) (L p : Nat) : Int := vls b (tQ b L p) (tE b L (tQ b L p) - tQ b L p)
theorem enc5_bd : ∀ (n : Nat) (w : List Nat), w.length ≤ n → (∀ a ∈ w, 1 ≤ a ∧ a ≤ 26) → 0 ≤ enc5 w ∧ enc5 w < ((32 ^ n : Nat) : Int)
  | n, [], _, _ => ⟨by show (0 : Int) ≤ 0; decide, by
    show (0 : Int) < ((32 ^ n : Nat) : Int)
    have : 0 < 32 ^ n := Nat.pow_pos (by decide)
    omega⟩
  | 0, a :: w, h, _ => absurd h (by simp)
  | n + 1, a :: w, h, ha => by
    have ih := enc5_bd n w (by simpa using h) (fun x hx => ha x (List.mem_cons_of_mem _ hx))
    have h1 := ha a List.mem_cons_self
    have e : ((32 ^ (n + 1) : Nat) : Int) = ((32 ^ n : Nat) : Int) * 32 := by rw [Nat.pow_succ, Int.natCast_mul]; rfl
    rw [e]
    show 0 ≤ enc5 w * 32 + (a : Int) ∧ enc5 w * 32 + (a : Int) < ((32 ^ n : Nat) : Int) * 32
    omega
theorem enc8_bd : ∀ (n : Nat) (w : List Nat), w.length ≤ n → (∀ a ∈ w, 1 ≤ a ∧ a ≤ 26) → 0 ≤ enc8 w ∧ 2 * enc8 w < ((256 ^ n : Nat) : Int)
  | n, [], _, _ => ⟨by show (0 : Int) ≤ 0; decide, by
    show (2 : Int) * 0 < ((256 ^ n : Nat) : Int)
    have : 0 < 256 ^ n := Nat.pow_pos (by decide)
    omega⟩
  | 0, a :: w, h, _ => absurd h (by simp)
  | n + 1, a :: w, h, ha => by
    have ih := enc8_bd n w (by simpa using h) (fun x hx => ha x (List.mem_cons_of_mem _ hx))
    have h1 := ha a List.mem_cons_self
    have e : ((256 ^ (n + 1) : Nat) : Int) = ((256 ^ n : Nat) : Int) * 256 := by rw [Nat.pow_succ, Int.natCast_mul]; rfl
    rw [e]
    show 0 ≤ enc8 w * 256 + ((a : Int) + 96) ∧ 2 * (enc8 w * 256 + ((a : Int) + 96)) < ((256 ^ n : Nat) : Int) * 256
    omega
theorem wds_len (b : Nat → Int) (q : Nat) : ∀ i, (wds b q i).length = i
  | 0 => rfl
  | i + 1 => by
    show (wds b q i).length + 1 = i + 1
    rw [wds_len b q i]
theorem wds_ok {b : Nat → Int} {q : Nat} : ∀ i, (∀ j, j < i → isLt (b (q + j))) → ∀ a ∈ wds b q i, 1 ≤ a ∧ a ≤ 26
  | 0, _, a, ha => absurd ha (by simp [wds])
  | i + 1, h, a, ha => by
    have hi := h i (by omega)
    rcases List.mem_cons.1 (show a ∈ (b (q + i) - 96).toNat :: wds b q i from ha) with e | e
    · rw [e]; omega
    · exact wds_ok i (fun j hj => h j (by omega)) a e
theorem vls_bd {b : Nat → Int} {q : Nat} : ∀ i, (∀ j, j < i → isDg (b (q + j))) → 0 ≤ vls b q i ∧ vls b q i < ((10 ^ i : Nat) : Int)
  | 0, _ => by show (0 : Int) ≤ 0 ∧ (0 : Int) < ((1 : Nat) : Int); omega
  | i + 1, h => by
    have ih := vls_bd i (fun j hj => h j (by omega))
    have hi := h i (by omega)
    have e : ((10 ^ (i + 1) : Nat) : Int) = ((10 ^ i : Nat) : Int) * 10 := by rw [Nat.pow_succ, Int.natCast_mul]; rfl
    rw [e]
    show 0 ≤ vls b q i * 10 + (b (q + i) - 48) ∧ vls b q i * 10 + (b (q + i) - 48) < ((10 ^ i : Nat) : Int) * 10
    omega
theorem cnt_0 {P : Int → Prop} [DecidablePred P] {b : Nat → Int} {q : Nat} : ∀ i, cnt P b q i = 0 → ∀ j, j < i → ¬ P (b (q + j))
  | 0, _, j, hj => by omega
  | i + 1, h, j, hj => by
    have h' : cnt P b q i + (if P (b (q + i)) then 1 else 0) = 0 := h
    by_cases e : j = i
    · rw [e]
      intro hp
      rw [if_pos hp] at h'
      omega
    · exact cnt_0 i (by omega) j (by omega)
/-! the class takes a token -/
theorem c_skipb {K : fM} {b : Nat → Int} {L p : Nat} (hb : K 2 = b) (hL : K 1 2 = L) (hL2 : L ≤ 1240) (hp : K 1 4 = p) : s_X10_take_l0 K = some (fup K 1 4 ((tQ b L p : Nat) : Int)) := by
  obtain ⟨a1, a2, a3, a4⟩ := adv_ok isBk b L L p (by omega)
  have a1' : p ≤ tQ b L p := a1
  have a3' : ∀ i, p ≤ i → i < tQ b L p → i < L ∧ isBk (b i) := a3
  have a4' : ¬ (tQ b L p < L ∧ isBk (b (tQ b L p))) := a4
  obtain ⟨n, hn⟩ : ∃ n, tQ b L p = p + n := ⟨tQ b L p - p, by omega⟩
  have h0 : fup K 1 4 ((p + 0 : Nat) : Int) = K := by
    funext a c
    unfold fup
    by_cases e : a = 1 ∧ c = 4
    · rw [if_pos e, e.1, e.2, hp]; rfl
    · rw [if_neg e]
  unfold s_X10_take_l0
  have := fLp_for (b := fun s : fM => s_X10_take_b0 s) (fun i => fup K 1 4 ((p + i : Nat) : Int)) n (e := fup K 1 4 ((p + n : Nat) : Int)) (fun i hi => ?_) ?_
  · rw [h0] at this
    rw [this, hn]
  · obtain ⟨c1, c2⟩ := a3' (p + i) (by omega) (by omega)
    show s_X10_take_b0 (fup K 1 4 ((p + i : Nat) : Int)) = _
    unfold s_X10_take_b0
    rw [show fup K 1 4 ((p + i : Nat) : Int) 1 2 = K 1 2 from rfl, show fup K 1 4 ((p + i : Nat) : Int) 1 4 = ((p + i : Nat) : Int) from rfl, show fup K 1 4 ((p + i : Nat) : Int) 2 = K 2 from fup_ne (by decide), hL, hb, show ((p + i : Nat) : Int).toNat = p + i from rfl, if_neg (by omega), if_pos (by omega)]
    have hbk : s_X10_isBlank (fup K 1 4 ((p + i : Nat) : Int)) (b (p + i)) = some 1 := by
      unfold s_X10_isBlank
      rcases c2 with e | e
      · rw [if_pos e]
      · rw [if_neg (by omega), if_neg (fun h => h e)]
    rw [hbk, Option.bind_some, if_neg (by decide), if_pos (by unfold fin; omega)]
    congr 2
    funext a c
    unfold fup
    by_cases e : a = 1 ∧ c = 4
    · rw [if_pos e, if_pos e]
      omega
    · rw [if_neg e, if_neg e, if_neg e]
  · show s_X10_take_b0 (fup K 1 4 ((p + n : Nat) : Int)) = _
    rw [hn] at a4'
    unfold s_X10_take_b0
    rw [show fup K 1 4 ((p + n : Nat) : Int) 1 2 = K 1 2 from rfl, show fup K 1 4 ((p + n : Nat) : Int) 1 4 = ((p + n : Nat) : Int) from rfl, show fup K 1 4 ((p + n : Nat) : Int) 2 = K 2 from fup_ne (by decide), hL, hb, show ((p + n : Nat) : Int).toNat = p + n from rfl]
    by_cases h : L ≤ p + n
    · rw [if_pos (by omega)]
    · rw [if_neg (by omega), if_pos (by omega)]
      have hbk : s_X10_isBlank (fup K 1 4 ((p + n : Nat) : Int)) (b (p + n)) = some 0 := by
        unfold s_X10_isBlank
        rw [if_neg (fun e => a4' ⟨by omega, .inl e⟩), if_pos (fun e => a4' ⟨by omega, .inr e⟩)]
      rw [hbk, Option.bind_some, if_pos rfl]
abbrev tkL : List (Nat × Option Nat) := [(1, some 4), (1, some 5), (1, some 6), (1, some 7), (1, some 8)]
/-- the class's current token is the one at p -/
def CuC (K : fM) (b : Nat → Int) (L lim p : Nat) : Prop := K 1 4 = tNx b L lim p ∧ K 1 5 = tSt b L lim p ∧ K 1 6 = tKd b L lim p ∧ (tKd b L lim p = 2 → K 1 8 = enc5 (tW b L p)) ∧ (tKd b L lim p = 3 → K 1 7 = tV b L p)
theorem c_isLt (M : fM) (c : Int) : s_X10_isLetter M c = some (if isLt c then 1 else 0) := by
  unfold s_X10_isLetter
  repeat' split
  all_goals first | rfl | (exfalso; omega)
theorem c_isDg (M : fM) (c : Int) : s_X10_isDigit M c = some (if isDg c then 1 else 0) := by
  unfold s_X10_isDigit
  repeat' split
  all_goals first | rfl | (exfalso; omega)
theorem tE_ok (b : Nat → Int) (L q : Nat) : q ≤ tE b L q ∧ (tE b L q ≤ L ∨ tE b L q = q) ∧ (∀ i, q ≤ i → i < tE b L q → i < L ∧ isAl (b i)) ∧ ¬ (tE b L q < L ∧ isAl (b (tE b L q))) := adv_ok isAl b L L q (by omega)
theorem c_run {K : fM} {b : Nat → Int} {L q : Nat} (hb : K 2 = b) (hL : K 1 2 = L) (hL2 : L ≤ 1240) (hq : K 1 4 = q) : ∃ K', s_X10_takeRun K = some ((), K') ∧ fSame tkL K K' ∧ K' 1 4 = tE b L q ∧ K' 1 5 = K 1 5 ∧ K' 1 6 = tRun b L q ∧ (tRun b L q = 2 → K' 1 8 = enc5 (wds b q (tE b L q - q))) ∧ (tRun b L q = 3 → K' 1 7 = vls b q (tE b L q - q)) := by
  obtain ⟨a1, a2, a3, a4⟩ := tE_ok b L q
  obtain ⟨n, hn⟩ : ∃ n, tE b L q = q + n := ⟨tE b L q - q, by omega⟩
  rw [hn] at a1 a2 a3 a4
  have hn2 : tE b L q - q = n := by omega
  have hn1240 : n ≤ 1240 := by omega
  obtain ⟨⟨cl, cd, A⟩, e1, e2, e3, e4, e5, e6, e7⟩ : ∃ e, s_X10_takeRun_l14 (0, 0, fup (fup K 1 8 0) 1 7 0) = some e ∧ e.1 = ((cnt isLt b q n : Nat) : Int) ∧ e.2.1 = ((cnt isDg b q n : Nat) : Int) ∧ e.2.2 1 4 = ((q + n : Nat) : Int) ∧ (cnt isDg b q n = 0 → n ≤ 8 → e.2.2 1 8 = enc5 (wds b q n)) ∧ (cnt isLt b q n = 0 → n ≤ 5 → e.2.2 1 7 = vls b q n) ∧ (∀ a c, ¬ (a = 1 ∧ (c = 4 ∨ c = 7 ∨ c = 8)) → e.2.2 a c = K a c) := by
    unfold s_X10_takeRun_l14
    refine fLp_ex (P := fun i s => s.1 = ((cnt isLt b q i : Nat) : Int) ∧ s.2.1 = ((cnt isDg b q i : Nat) : Int) ∧ s.2.2 1 4 = ((q + i : Nat) : Int) ∧ (cnt isDg b q i = 0 → i ≤ 8 → s.2.2 1 8 = enc5 (wds b q i)) ∧ (cnt isLt b q i = 0 → i ≤ 5 → s.2.2 1 7 = vls b q i) ∧ (∀ a c, ¬ (a = 1 ∧ (c = 4 ∨ c = 7 ∨ c = 8)) → s.2.2 a c = K a c)) n ⟨rfl, rfl, hq, fun _ _ => rfl, fun _ _ => rfl, fun a c h => ?_⟩ (fun i s hi hp => ?_) (fun s hp => ?_)
    · show fup (fup K 1 8 0) 1 7 0 a c = K a c
      unfold fup
      rw [if_neg (fun e => h ⟨e.1, .inr (.inl e.2)⟩), if_neg (fun e => h ⟨e.1, .inr (.inr e.2)⟩)]
    · obtain ⟨l, d, Q⟩ := s
      obtain ⟨p1, p2, p3, p4, p5, p6⟩ := hp
      simp only at p1 p2 p3 p4 p5 p6
      subst p1 p2
      obtain ⟨c1, c2⟩ := a3 (q + i) (by omega) (by omega)
      have hcl := cnt_le isLt b q i
      have hcd := cnt_le isDg b q i
      have Q12 : Q 1 2 = L := by rw [p6 1 2 (by omega), hL]
      have Q2 : Q 2 = b := by
        rw [← hb]
        funext c
        exact p6 2 c (by omega)
      have nl : cnt isLt b q (i + 1) = cnt isLt b q i + if isLt (b (q + i)) then 1 else 0 := rfl
      have nd : cnt isDg b q (i + 1) = cnt isDg b q i + if isDg (b (q + i)) then 1 else 0 := rfl
      have hpre : s_X10_takeRun_b14 Q ((cnt isLt b q i : Nat) : Int) ((cnt isDg b q i : Nat) : Int) = (if (if isLt (b (q + i)) then (1 : Int) else 0) = 0 then (if (if isDg (b (q + i)) then (1 : Int) else 0) = 0 then some (.inr (((cnt isLt b q i : Nat) : Int), ((cnt isDg b q i : Nat) : Int), Q)) else some (.inl (((cnt isLt b q i : Nat) : Int), ((cnt isDg b q i : Nat) : Int) + 1, fup (fup Q 1 7 (fw (fw (Q 1 7 * 10) + (b (q + i) - 48)))) 1 4 (((q + i : Nat) : Int) + 1)))) else some (.inl (((cnt isLt b q i : Nat) : Int) + 1, ((cnt isDg b q i : Nat) : Int), fup (fup Q 1 8 (fwl (fwl (Q 1 8 * 32) + (b (q + i) - 97 + 1)))) 1 4 (((q + i : Nat) : Int) + 1)))) := by
        unfold s_X10_takeRun_b14
        rw [Q12, p3, Q2, show ((q + i : Nat) : Int).toNat = q + i from rfl, if_neg (by omega), if_pos (by omega), c_isLt, Option.bind_some, c_isDg, Option.bind_some]
        unfold s_X10_withLetter
        have hr : 48 ≤ b (q + i) ∧ b (q + i) ≤ 122 := by rcases c2 with e | e <;> omega
        rw [if_pos (show fin (((cnt isDg b q i : Nat) : Int) + 1) ∧ fin (b (q + i) - 48) ∧ fin (((q + i : Nat) : Int) + 1) by unfold fin; omega), if_pos (show fin (((cnt isLt b q i : Nat) : Int) + 1) by unfold fin; omega), if_pos (show fin (b (q + i) - 97) ∧ fin (b (q + i) - 97 + 1) by unfold fin; omega), Option.bind_some, if_pos (show fin (((q + i : Nat) : Int) + 1) by unfold fin; omega)]
      by_cases hlt : isLt (b (q + i))
      · have hnd : ¬ isDg (b (q + i)) := by omega
        rw [if_pos hlt] at nl
        rw [if_neg hnd] at nd
        rw [if_pos hlt, if_neg (by decide)] at hpre
        refine ⟨_, hpre, ?_, ?_, ?_, fun h1 h2 => ?_, fun h1 => ?_, fun a c h => ?_⟩
        · show ((cnt isLt b q i : Nat) : Int) + 1 = ((cnt isLt b q (i + 1) : Nat) : Int)
          omega
        · show ((cnt isDg b q i : Nat) : Int) = ((cnt isDg b q (i + 1) : Nat) : Int)
          omega
        · show ((q + i : Nat) : Int) + 1 = ((q + (i + 1) : Nat) : Int)
          omega
        · show fwl (fwl (Q 1 8 * 32) + (b (q + i) - 97 + 1)) = enc5 (wds b q (i + 1))
          have h0 : cnt isDg b q i = 0 := by omega
          rw [p4 h0 (by omega)]
          have hall : ∀ j, j < i → isLt (b (q + j)) := fun j hj => by
            have := (a3 (q + j) (by omega) (by omega)).2
            have := cnt_0 i h0 j hj
            omega
          have hbd := enc5_bd 7 (wds b q i) (by rw [wds_len]; omega) (wds_ok i hall)
          rw [fwl_id (x := enc5 (wds b q i) * 32) (by unfold finl; omega), fwl_id (by unfold finl; omega)]
          show _ = enc5 (wds b q i) * 32 + (((b (q + i) - 96).toNat : Nat) : Int)
          omega
        · omega
        · show fup (fup Q 1 8 _) 1 4 _ a c = K a c
          unfold fup
          rw [if_neg (fun e => h ⟨e.1, .inl e.2⟩), if_neg (fun e => h ⟨e.1, .inr (.inr e.2)⟩)]
          exact p6 a c h
      · have hdg : isDg (b (q + i)) := by rcases c2 with e | e; exact absurd e hlt; exact e
        rw [if_neg hlt] at nl
        rw [if_pos hdg] at nd
        rw [if_neg hlt, if_pos rfl, if_pos hdg, if_neg (by decide)] at hpre
        refine ⟨_, hpre, ?_, ?_, ?_, fun h1 => ?_, fun h1 h2 => ?_, fun a c h => ?_⟩
        · show ((cnt isLt b q i : Nat) : Int) = ((cnt isLt b q (i + 1) : Nat) : Int)
          omega
        · show ((cnt isDg b q i : Nat) : Int) + 1 = ((cnt isDg b q (i + 1) : Nat) : Int)
          omega
        · show ((q + i : Nat) : Int) + 1 = ((q + (i + 1) : Nat) : Int)
          omega
        · omega
        · show fw (fw (Q 1 7 * 10) + (b (q + i) - 48)) = vls b q (i + 1)
          have h0 : cnt isLt b q i = 0 := by omega
          rw [p5 h0 (by omega)]
          have hall : ∀ j, j < i → isDg (b (q + j)) := fun j hj => by
            have := (a3 (q + j) (by omega) (by omega)).2
            have := cnt_0 i h0 j hj
            omega
          have hbd := vls_bd i hall
          have h10 : 10 ^ i ≤ 10 ^ 4 := Nat.pow_le_pow_right (by decide) (by omega)
          rw [fw_id (x := vls b q i * 10) (by unfold fin; omega), fw_id (by unfold fin; omega)]
          rfl
        · show fup (fup Q 1 7 _) 1 4 _ a c = K a c
          unfold fup
          rw [if_neg (fun e => h ⟨e.1, .inl e.2⟩), if_neg (fun e => h ⟨e.1, .inr (.inl e.2)⟩)]
          exact p6 a c h
    · obtain ⟨l, d, Q⟩ := s
      obtain ⟨p1, p2, p3, p4, p5, p6⟩ := hp
      simp only at p1 p2 p3 p4 p5 p6
      subst p1 p2
      have Q12 : Q 1 2 = L := by rw [p6 1 2 (by omega), hL]
      have Q2 : Q 2 = b := by
        rw [← hb]
        funext c
        exact p6 2 c (by omega)
      refine ⟨(((cnt isLt b q n : Nat) : Int), ((cnt isDg b q n : Nat) : Int), Q), ?_, rfl, rfl, p3, p4, p5, p6⟩
      show s_X10_takeRun_b14 Q ((cnt isLt b q n : Nat) : Int) ((cnt isDg b q n : Nat) : Int) = _
      unfold s_X10_takeRun_b14
      rw [Q12, p3, Q2, show ((q + n : Nat) : Int).toNat = q + n from rfl]
      by_cases h : L ≤ q + n
      · rw [if_pos (by omega)]
      · have hno : ¬ isAl (b (q + n)) := fun e => a4 ⟨by omega, e⟩
        rw [if_neg (by omega), if_pos (by omega), c_isLt, Option.bind_some, if_neg (show ¬ isLt (b (q + n)) from fun e => hno (.inl e)), if_pos rfl, c_isDg, Option.bind_some, if_neg (show ¬ isDg (b (q + n)) from fun e => hno (.inr e)), if_pos rfl]
  simp only at e2 e3 e4 e5 e6 e7
  subst e2 e3
  have hsum : ∀ i, i ≤ n → cnt isLt b q i + cnt isDg b q i = i := by
    intro i
    induction i with
    | zero => intro _; rfl
    | succ i ih =>
      intro hi
      have := ih (by omega)
      have hc := (a3 (q + i) (by omega) (by omega)).2
      have nl : cnt isLt b q (i + 1) = cnt isLt b q i + if isLt (b (q + i)) then 1 else 0 := rfl
      have nd : cnt isDg b q (i + 1) = cnt isDg b q i + if isDg (b (q + i)) then 1 else 0 := rfl
      by_cases hlt : isLt (b (q + i))
      · rw [if_pos hlt] at nl
        rw [if_neg (by omega)] at nd
        omega
      · rw [if_neg hlt] at nl
        rw [if_pos (by rcases hc with e | e; exact absurd e hlt; exact e)] at nd
        omega
  have hs := hsum n (Nat.le_refl _)
  have fA : ∀ v : Int, fSame tkL K (fup A 1 6 v) := fun v a c hm => by
    have h1 : ¬ (a = 1 ∧ c = 6) := fun e => hm (by rw [e.1, e.2]; exact .inr (by decide))
    have h2 : ¬ (a = 1 ∧ (c = 4 ∨ c = 7 ∨ c = 8)) := fun e => hm (by
      rw [e.1]
      rcases e.2 with e | e | e
      · rw [e]; exact .inr (by decide)
      · rw [e]; exact .inr (by decide)
      · rw [e]; exact .inr (by decide))
    show fup A 1 6 v a c = _
    unfold fup
    rw [if_neg h1]
    exact e7 a c h2
  have hK5 : ∀ v : Int, fup A 1 6 v 1 5 = K 1 5 := fun v => by
    show A 1 5 = _
    exact e7 1 5 (by omega)
  unfold tRun
  rw [hn2, hn]
  unfold s_X10_takeRun
  rw [e1, Option.bind_some]
  show ∃ K', s_X10_takeRun_j99 A ((cnt isLt b q n : Nat) : Int) ((cnt isDg b q n : Nat) : Int) = some ((), K') ∧ _
  unfold s_X10_takeRun_j99 s_X10_takeRun_j117
  by_cases hd : cnt isDg b q n = 0
  · rw [if_neg (show ¬ ¬ ((cnt isDg b q n : Nat) : Int) = 0 by omega)]
    by_cases hl : cnt isLt b q n ≤ 8
    · rw [if_neg (show ¬ (8 : Int) < ((cnt isLt b q n : Nat) : Int) by omega), if_pos (show cnt isDg b q n = 0 ∧ cnt isLt b q n ≤ 8 from ⟨hd, hl⟩)]
      exact ⟨_, rfl, fA 2, e4, hK5 2, rfl, fun _ => e5 hd (by omega), fun h => absurd h (by decide)⟩
    · rw [if_pos (show (8 : Int) < ((cnt isLt b q n : Nat) : Int) by omega), if_pos (show ¬ ((cnt isLt b q n : Nat) : Int) = 0 by omega), if_neg (show ¬ (cnt isDg b q n = 0 ∧ cnt isLt b q n ≤ 8) from fun h => hl h.2), if_neg (show ¬ (cnt isLt b q n = 0 ∧ cnt isDg b q n ≤ 5) by omega)]
      exact ⟨_, rfl, fA 1, e4, hK5 1, rfl, fun h => absurd h (by decide), fun h => absurd h (by decide)⟩
  · rw [if_pos (show ¬ ((cnt isDg b q n : Nat) : Int) = 0 by omega), if_neg (show ¬ (cnt isDg b q n = 0 ∧ cnt isLt b q n ≤ 8) from fun h => hd h.1)]
    by_cases hl : cnt isLt b q n = 0
    · rw [if_neg (show ¬ ¬ ((cnt isLt b q n : Nat) : Int) = 0 by omega)]
      by_cases h5 : cnt isDg b q n ≤ 5
      · rw [if_neg (show ¬ (5 : Int) < ((cnt isDg b q n : Nat) : Int) by omega), if_pos (show cnt isLt b q n = 0 ∧ cnt isDg b q n ≤ 5 from ⟨hl, h5⟩)]
        exact ⟨_, rfl, fA 3, e4, hK5 3, rfl, fun h => absurd h (by decide), fun _ => e6 hl (by omega)⟩
      · rw [if_pos (show (5 : Int) < ((cnt isDg b q n : Nat) : Int) by omega), if_neg (show ¬ (cnt isLt b q n = 0 ∧ cnt isDg b q n ≤ 5) from fun h => h5 h.2)]
        exact ⟨_, rfl, fA 1, e4, hK5 1, rfl, fun h => absurd h (by decide), fun h => absurd h (by decide)⟩
    · rw [if_pos (show ¬ ((cnt isLt b q n : Nat) : Int) = 0 by omega), if_neg (show ¬ (cnt isLt b q n = 0 ∧ cnt isDg b q n ≤ 5) from fun h => hl h.1)]
      exact ⟨_, rfl, fA 1, e4, hK5 1, rfl, fun h => absurd h (by decide), fun h => absurd h (by decide)⟩
theorem c_take {K : fM} {b : Nat → Int} {L lim p : Nat} (hb : K 2 = b) (hL : K 1 2 = L) (hL2 : L ≤ 1240) (hlim : K 1 3 = lim) (hp : K 1 4 = p) (hp2 : p ≤ L) : ∃ K', s_X10_take K = some ((), K') ∧ fSame tkL K K' ∧ CuC K' b L lim p := by
  have hq : tQ b L p ≤ L := by
    obtain ⟨-, a2, -, -⟩ := adv_ok isBk b L L p (by omega)
    rcases a2 with e | e
    · exact e
    · have e' : tQ b L p = p := e
      omega
  have hskip := c_skipb hb hL hL2 hp
  unfold s_X10_take
  rw [hskip, Option.bind_some]
  generalize hQ : tQ b L p = q at hq hskip ⊢
  obtain ⟨A, hA⟩ : ∃ A, A = fup K 1 4 (q : Int) := ⟨_, rfl⟩
  rw [← hA]
  have A2 : A 2 = b := by rw [hA, fup_ne (by decide), hb]
  have A12 : A 1 2 = L := by rw [hA]; exact hL
  have A13 : A 1 3 = lim := by rw [hA]; exact hlim
  have A14 : A 1 4 = q := by rw [hA]; rfl
  have fA : fSame tkL K A := by rw [hA]; exact fs_up fs_refl (.inr (by decide))
  unfold s_X10_take_j39
  rw [A12, A13, A14]
  have j75 : ¬ (lim < L ∧ lim ≤ q) → ∃ K', s_X10_take_j75 A = some ((), K') ∧ fSame tkL K K' ∧ CuC K' b L lim p := by
    intro hnl
    have hnl' : ¬ (lim < L ∧ lim ≤ tQ b L p) := by rw [hQ]; exact hnl
    unfold s_X10_take_j75
    rw [A12, A14, A2, show (q : Int).toNat = q from rfl]
    by_cases hLq : L ≤ q
    · rw [if_neg (by omega)]
      refine ⟨_, rfl, fs_up (fs_up fA (.inr (by decide))) (.inr (by decide)), ?_⟩
      have k : tKd b L lim p = 0 := by unfold tKd; rw [if_neg hnl', if_pos (by rw [hQ]; exact hLq)]
      unfold CuC
      rw [k]
      refine ⟨?_, ?_, rfl, fun h => absurd h (by decide), fun h => absurd h (by decide)⟩
      · show A 1 4 = _
        unfold tNx
        rw [if_neg hnl', if_pos (by rw [hQ]; exact hLq), hQ, A14]
      · show (q : Int) = _
        unfold tSt
        rw [if_neg hnl', hQ]
    · rw [if_pos (by omega), if_pos (by omega), c_isLt, Option.bind_some, c_isDg, Option.bind_some]
      have hLq' : ¬ L ≤ tQ b L p := by rw [hQ]; exact hLq
      obtain ⟨B, hB⟩ : ∃ B, B = fup A 1 5 (q : Int) := ⟨_, rfl⟩
      have fB : fSame tkL K B := by rw [hB]; exact fs_up fA (.inr (by decide))
      rw [← hB]
      have run : isAl (b q) → ∃ K', s_X10_take_j124 B = some ((), K') ∧ fSame tkL K K' ∧ CuC K' b L lim p := by
        intro hal
        obtain ⟨C, c1, c2, c3, c4, c5, c6, c7⟩ := c_run (K := B) (b := b) (L := L) (q := q) (by rw [hB, fup_ne (by decide), A2]) (by rw [hB]; exact A12) hL2 (by rw [hB]; exact A14)
        refine ⟨C, ?_, fs_trans fB c2, ?_⟩
        · unfold s_X10_take_j124
          rw [c1]
          rfl
        · have k : tKd b L lim p = tRun b L q := by unfold tKd; rw [if_neg hnl', if_neg hLq', hQ, if_pos hal]
          unfold CuC tW tV
          rw [k, hQ]
          refine ⟨?_, ?_, c5, c6, c7⟩
          · rw [c3]
            unfold tNx
            rw [if_neg hnl', if_neg hLq', hQ, if_pos hal]
          · rw [c4, hB]
            show (q : Int) = _
            unfold tSt
            rw [if_neg hnl', hQ]
      by_cases hlt : isLt (b q)
      · rw [if_pos hlt, if_pos (by decide)]
        exact run (.inl hlt)
      · rw [if_neg hlt, if_neg (by decide)]
        by_cases hdg : isDg (b q)
        · rw [if_pos hdg, if_neg (by decide)]
          exact run (.inr hdg)
        · have hal : ¬ isAl (b q) := fun e => by rcases e with e | e; exact hlt e; exact hdg e
          rw [if_neg hdg, if_pos rfl, if_pos (show fin ((q : Int) + 1) by unfold fin; omega)]
          have fin3 : ∀ v : Nat, v ≠ 2 → v ≠ 3 → tKd b L lim p = v → ∃ K', some ((), fup (fup B 1 4 ((q : Int) + 1)) 1 6 (v : Int)) = some ((), K') ∧ fSame tkL K K' ∧ CuC K' b L lim p := by
            intro v v2 v3 hk
            refine ⟨_, rfl, fs_up (fs_up fB (.inr (by decide))) (.inr (by decide)), ?_⟩
            unfold CuC
            rw [hk]
            refine ⟨?_, ?_, rfl, fun h => absurd h v2, fun h => absurd h v3⟩
            · show (q : Int) + 1 = _
              unfold tNx
              rw [if_neg hnl', if_neg hLq', hQ, if_neg hal]
              rfl
            · show B 1 5 = _
              rw [hB]
              show (q : Int) = _
              unfold tSt
              rw [if_neg hnl', hQ]
          have kk : tKd b L lim p = if b q = 59 then 4 else if b q = 45 then 5 else 1 := by unfold tKd; rw [if_neg hnl', if_neg hLq', hQ, if_neg hal]
          by_cases h59 : b q = 59
          · rw [if_neg (fun e => e h59)]
            rw [if_pos h59] at kk
            exact fin3 4 (by decide) (by decide) kk
          · rw [if_pos h59]
            rw [if_neg h59] at kk
            by_cases h45 : b q = 45
            · rw [if_neg (fun e => e h45)]
              rw [if_pos h45] at kk
              exact fin3 5 (by decide) (by decide) kk
            · rw [if_pos h45]
              rw [if_neg h45] at kk
              exact fin3 1 (by decide) (by decide) kk
  by_cases hl : lim < L ∧ lim ≤ q
  · rw [if_neg (by omega), if_neg (by omega)]
    have hl' : lim < L ∧ lim ≤ tQ b L p := by rw [hQ]; exact hl
    refine ⟨_, rfl, fs_up (fs_up fA (.inr (by decide))) (.inr (by decide)), ?_⟩
    have k : tKd b L lim p = 1 := by unfold tKd; rw [if_pos hl']
    unfold CuC
    rw [k]
    refine ⟨?_, ?_, rfl, fun h => absurd h (by decide), fun h => absurd h (by decide)⟩
    · show A 1 4 = _
      unfold tNx
      rw [if_pos hl', hQ, A14]
    · show (lim : Int) = _
      unfold tSt
      rw [if_pos hl']
  · by_cases h1 : (L : Int) ≤ lim
    · rw [if_pos h1]
      exact j75 hl
    · rw [if_neg h1, if_pos (by omega)]
      exact j75 hl
