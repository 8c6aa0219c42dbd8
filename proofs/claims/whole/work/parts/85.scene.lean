/-! ===== the pianos told to the reference; ways and times ===== -/
theorem m_dup {K : fM} {i : Nat} (hi : i < 9) (d l2 : Int) : ((∀ j, j < i → K 133 j ≠ K 133 i) → s_X12_tells_l65 K d l2 (i : Int) 0 = some (.inl ())) ∧ ((∃ j, j < i ∧ K 133 j = K 133 i) → s_X12_tells_l65 K d l2 (i : Int) 0 = some (.inr (0, K))) := by
  unfold s_X12_tells_l65
  constructor
  · intro h
    have := fLp_for (b := fun s : Int => s_X12_tells_b65 K d l2 (i : Int) s) (fun j => (j : Int)) i (e := .inl ()) (fun j hj => ?_) ?_
    · exact this
    · show s_X12_tells_b65 K d l2 (i : Int) (j : Int) = some (.inl ((j + 1 : Nat) : Int))
      unfold s_X12_tells_b65
      rw [if_neg (by omega), if_pos (by omega), show (j : Int).toNat = j from rfl, show (i : Int).toNat = i from rfl, if_pos (h j hj), if_pos (by unfold fin; omega)]
      rfl
    · show s_X12_tells_b65 K d l2 (i : Int) (i : Int) = _
      unfold s_X12_tells_b65
      rw [if_pos (Int.le_refl _)]
  · intro h
    refine fLp_hit1 (b := fun s : Int => s_X12_tells_b65 K d l2 (i : Int) s) (fun j => (j : Int)) (fun j => K 133 j = K 133 i) i (.inr (0, K)) (fun j hj hne => ?_) (fun j hj he => ?_) h
    · show s_X12_tells_b65 K d l2 (i : Int) (j : Int) = some (.inl ((j + 1 : Nat) : Int))
      unfold s_X12_tells_b65
      rw [if_neg (by omega), if_pos (by omega), show (j : Int).toNat = j from rfl, show (i : Int).toNat = i from rfl, if_pos hne, if_pos (by unfold fin; omega)]
      rfl
    · show s_X12_tells_b65 K d l2 (i : Int) (j : Int) = _
      unfold s_X12_tells_b65
      rw [if_neg (by omega), if_pos (by omega), show (j : Int).toNat = j from rfl, show (i : Int).toNat = i from rfl, if_neg (fun e => e he)]
def bys (N : fM) (i : Nat) : Int := fand (N 123 i) 255
theorem m_tells {N D : fM} (hm : MRh N 124 0 D) (hr : MRr N 125 0 D) (hn0 : N 122 10 = D 18 8) (hw : WF D) {n : Nat} (h3n : N 122 3 = n) (hb : ∀ i, 0 ≤ bys N i ∧ bys N i < 256) (d l2 : Int) : ((n ≤ 9 ∧ (0 ≤ d ∧ d < 364) ∧ okAll (D 4 13) (bys N) n) → ∃ K, s_X12_tells N d l2 = some (1, K) ∧ PlM K D d (if l2 = 0 then bys N else srt (bys N) (n - 1)) n) ∧ (¬ (n ≤ 9 ∧ (0 ≤ d ∧ d < 364) ∧ okAll (D 4 13) (bys N) n) → ∃ K, s_X12_tells N d l2 = some (0, K)) := by
  generalize hA : fup N 122 39 (n : Int) = A
  have a123 : A 123 = N 123 := by rw [← hA, fup_ne (by decide)]
  have a3 : A 122 3 = n := by rw [← hA]; exact h3n
  have a39 : A 122 39 = n := by rw [← hA]; rfl
  have a10 : A 122 10 = D 18 8 := by rw [← hA]; exact hn0
  have hmA : MRh A 124 0 D := MRh_row (by rw [← hA, fup_ne (by decide)]) hm
  have hrA : MRr A 125 0 D := MRr_row (by rw [← hA, fup_ne (by decide)]) hr
  have step : ∀ (i : Nat) (K : fM), i < n → n ≤ 9 → (∀ j, j < i → K 133 j = bys N j) → (∀ a, a ≠ 133 → K a = A a) → (okI (D 4 13) (bys N) i → s_X12_tells_b28 K d l2 (i : Int) = some (.inl ((i : Int) + 1, fup K 133 i (bys N i)))) ∧ (¬ okI (D 4 13) (bys N) i → s_X12_tells_b28 K d l2 (i : Int) = some (.inr (.inr (0, fup K 133 i (bys N i))))) := by
    intro i K hi hn9 hrow hK
    have hbi := hb i
    have hmK : MRh (fup K 133 i (bys N i)) 124 0 D := MRh_row (by rw [fup_ne (by decide), hK 124 (by decide)]) hmA
    have base : s_X12_tells_b28 K d l2 (i : Int) = (if (0 ≤ bys N i ∧ bys N i < D 4 13) then (s_X12_tells_l65 (fup K 133 i (bys N i)) d l2 (i : Int) 0).bind fun e65 => Sum.elim (fun x65 => if fin ((i : Int) + 1) then some (.inl ((i : Int) + 1, fup K 133 i (bys N i))) else none) (fun v65 => some (.inr (.inr v65))) e65 else some (.inr (.inr (0, fup K 133 i (bys N i))))) := by
      unfold s_X12_tells_b28
      rw [hK 122 (by decide), a3, if_neg (by omega)]
      unfold s_X12_octet
      rw [if_pos (by omega), Option.bind_some, if_pos (by omega), show (i : Int).toNat = i from rfl, hK 123 (by decide), a123, show fand (N 123 i) 255 = bys N i from rfl, fup_eq, upd1_at, m_isPiano hmK hw.1, Option.bind_some, bit_ifn]
    obtain ⟨d1, d2⟩ := m_dup (K := fup K 133 i (bys N i)) (i := i) (by omega) d l2
    have r1 : ∀ j, j < i → fup K 133 i (bys N i) 133 j = bys N j := fun j hj => by
      rw [fup_eq, upd1_ne (by omega), hrow j hj]
    have r2 : fup K 133 i (bys N i) 133 i = bys N i := by rw [fup_eq, upd1_at]
    constructor
    · intro hok
      rw [base, if_pos ⟨hbi.1, hok.1⟩, d1 (fun j hj => by rw [r1 j hj, r2]; exact hok.2 j hj), Option.bind_some]
      have hfin : fin ((i : Int) + 1) := by unfold fin; omega
      simp only [Sum.elim_inl, if_pos hfin]
    · intro hno
      rw [base]
      by_cases h : bys N i < D 4 13
      · have : ∃ j, j < i ∧ bys N j = bys N i := Classical.byContradiction fun hc => hno ⟨h, fun j hj he => hc ⟨j, hj, he⟩⟩
        obtain ⟨j, hj, he⟩ := this
        rw [if_pos ⟨hbi.1, h⟩, d2 ⟨j, hj, by rw [r1 j hj, r2]; exact he⟩]
        rfl
      · rw [if_neg (fun e => h e.2)]
  constructor
  · rintro ⟨hn9, hd, hall⟩
    obtain ⟨e, e1, K, e2, e3, e4⟩ : ∃ e, s_X12_tells_l28 d l2 (0, A) = some e ∧ ∃ K, e = .inl K ∧ (∀ i, i < n → K 133 i = bys N i) ∧ ∀ a, a ≠ 133 → K a = A a := by
      unfold s_X12_tells_l28
      refine fLp_ex (P := fun i s => s.1 = (i : Int) ∧ (∀ j, j < i → s.2 133 j = bys N j) ∧ ∀ a, a ≠ 133 → s.2 a = A a) n ⟨rfl, fun j hj => by omega, fun a _ => rfl⟩ (fun i s hi hp => ?_) (fun s hp => ?_)
      · obtain ⟨l, K⟩ := s
        obtain ⟨p1, p2, p3⟩ := hp
        simp only at p1 p2 p3
        subst p1
        refine ⟨_, (step i K hi hn9 p2 p3).1 (hall i hi), by simp, fun j hj => ?_, fun a ha => ?_⟩
        · show fup K 133 i (bys N i) 133 j = _
          rw [fup_eq]
          unfold upd1
          by_cases e : j = i
          · subst e; rw [if_pos rfl]
          · rw [if_neg e]; exact p2 j (by omega)
        · show fup K 133 i (bys N i) a = _
          rw [fup_ne ha, p3 a ha]
      · obtain ⟨l, K⟩ := s
        obtain ⟨p1, p2, p3⟩ := hp
        simp only at p1 p2 p3
        subst p1
        refine ⟨.inl K, ?_, K, rfl, p2, p3⟩
        show s_X12_tells_b28 K d l2 (n : Int) = _
        unfold s_X12_tells_b28
        rw [p3 122 (by decide), a3, if_pos (Int.le_refl _)]
    subst e2
    obtain ⟨Q, s1, s2, s3⟩ := m_sort (M := K) hn9 (by rw [e4 122 (by decide), a3]) d l2
    have hrow : ∀ i, i < n → Q 133 i = (if l2 = 0 then bys N else srt (bys N) (n - 1)) i ∧ 0 ≤ (if l2 = 0 then bys N else srt (bys N) (n - 1)) i ∧ (if l2 = 0 then bys N else srt (bys N) (n - 1)) i < D 4 13 := by
      intro i hi
      rw [s2]
      by_cases h0 : l2 = 0
      · rw [if_pos h0, if_pos h0]
        exact ⟨e3 i hi, (hb i).1, (hall i hi).1⟩
      · rw [if_neg h0, if_neg h0]
        refine ⟨srt_congr e3 (n - 1) (by omega) i hi, ?_⟩
        exact srt_all (C := fun x => 0 ≤ x ∧ x < D 4 13) (fun i hi => ⟨(hb i).1, (hall i hi).1⟩) (n - 1) (by omega) i hi
    have q : ∀ a, a ≠ 133 → Q a = A a := fun a ha => by rw [s3 a ha, e4 a ha]
    obtain ⟨R, t1, t2⟩ := m_placed (M := Q) (MRh_row (q 124 (by decide)) hmA) (MRr_row (q 125 (by decide)) hrA) (by rw [q 122 (by decide), a10]) hw hn9 (by rw [q 122 (by decide), a3]) (by rw [q 122 (by decide), a39]) hrow hd.1 hd.2
    refine ⟨R, ?_, t2⟩
    unfold s_X12_tells
    rw [h3n, if_neg (by omega), m_isDay, Option.bind_some, bit_ifn, if_pos hd, hA, e1]
    show (s_X12_tells_l103 d l2 (1, K)).bind _ = _
    rw [s1, Option.bind_some, t1]
  · intro hno
    unfold s_X12_tells
    rw [h3n]
    by_cases h9 : 9 < (n : Int)
    · exact ⟨N, by rw [if_pos h9]⟩
    · rw [if_neg h9, m_isDay, Option.bind_some, bit_ifn]
      by_cases hd : 0 ≤ d ∧ d < 364
      · rw [if_pos hd, hA]
        rcases okAll_or (D 4 13) (bys N) n with hall | ⟨i0, h1, h2, h3⟩
        · exact absurd ⟨by omega, hd, hall⟩ hno
        · obtain ⟨e, e1, K, e2⟩ : ∃ e, s_X12_tells_l28 d l2 (0, A) = some e ∧ ∃ K, e = .inr (0, K) := by
            unfold s_X12_tells_l28
            refine fLp_ex (P := fun i s => s.1 = (i : Int) ∧ (∀ j, j < i → s.2 133 j = bys N j) ∧ ∀ a, a ≠ 133 → s.2 a = A a) i0 ⟨rfl, fun j hj => by omega, fun a _ => rfl⟩ (fun i s hi hp => ?_) (fun s hp => ?_)
            · obtain ⟨l, K⟩ := s
              obtain ⟨p1, p2, p3⟩ := hp
              simp only at p1 p2 p3
              subst p1
              refine ⟨_, (step i K (by omega) (by omega) p2 p3).1 (h3 i hi), by simp, fun j hj => ?_, fun a ha => ?_⟩
              · show fup K 133 i (bys N i) 133 j = _
                rw [fup_eq]
                unfold upd1
                by_cases e : j = i
                · subst e; rw [if_pos rfl]
                · rw [if_neg e]; exact p2 j (by omega)
              · show fup K 133 i (bys N i) a = _
                rw [fup_ne ha, p3 a ha]
            · obtain ⟨l, K⟩ := s
              obtain ⟨p1, p2, p3⟩ := hp
              simp only at p1 p2 p3
              subst p1
              exact ⟨_, (step i0 K h1 (by omega) p2 p3).2 h2, _, rfl⟩
          subst e2
          refine ⟨K, ?_⟩
          rw [e1]
          rfl
      · rw [if_neg hd]
        exact ⟨N, rfl⟩
/-- a scene: pianos placed on a day, a home -/
def Sc : Type := fM × Int × (Nat → Int) × Nat × Int × Int
def Sc.of (D : fM) (d : Int) (r : Nat → Int) (n : Nat) (hx hy : Int) : Sc := (D, d, r, n, hx, hy)
def Sc.D (S : Sc) : fM := Prod.fst S
def Sc.d (S : Sc) : Int := Prod.fst (Prod.snd S)
def Sc.r (S : Sc) : Nat → Int := Prod.fst (Prod.snd (Prod.snd S))
def Sc.n (S : Sc) : Nat := Prod.fst (Prod.snd (Prod.snd (Prod.snd S)))
def Sc.hx (S : Sc) : Int := Prod.fst (Prod.snd (Prod.snd (Prod.snd (Prod.snd S))))
def Sc.hy (S : Sc) : Int := Prod.snd (Prod.snd (Prod.snd (Prod.snd (Prod.snd S))))
def Sc.ok (S : Sc) : Prop := WF S.D ∧ S.n ≤ 9 ∧ (∀ i, i < S.n → 0 ≤ S.r i ∧ S.r i < S.D 4 13) ∧ (0 ≤ S.d ∧ S.d < 364) ∧ (0 ≤ S.hx ∧ S.hx ≤ 99) ∧ (0 ≤ S.hy ∧ S.hy ≤ 99)
def Sc.at (S : Sc) (i : Nat) : Prop := i < S.n ∨ i = 9
def qX (S : Sc) (i : Nat) : Int := if i < 9 then pX S.D S.d (S.r i) else S.hx
def qY (S : Sc) (i : Nat) : Int := if i < 9 then pY S.D S.d (S.r i) else S.hy
def wy (S : Sc) (i j : Nat) : Int := (absI (qX S i - qX S j) + absI (qY S i - qY S j)) * S.D 8 2
def dn (S : Sc) (i : Nat) (t : Int) : Int := if pSh S.D S.d (S.r i) then 1000000 else if (if t < S.D 10 (S.r i * 10 + 8).toNat then S.D 10 (S.r i * 10 + 8).toNat else t) + S.D 8 3 ≤ S.D 10 (S.r i * 10 + 9).toNat then (if t < S.D 10 (S.r i * 10 + 8).toNat then S.D 10 (S.r i * 10 + 8).toNat else t) + S.D 8 3 else 1000000
def SC (K : fM) (S : Sc) : Prop := CR K 0 S.D ∧ PlC K S.D S.d S.r S.n ∧ K 56 9 = S.hx ∧ K 57 9 = S.hy
def SM (N : fM) (S : Sc) : Prop := MRh N 124 0 S.D ∧ PlM N S.D S.d S.r S.n ∧ N 122 40 = S.hx ∧ N 122 41 = S.hy
def ix (i : Nat) : Int := if i < 9 then (i : Int) else -1
theorem qXY_bd {S : Sc} (hS : S.ok) {i : Nat} (hi : S.at i) : (0 ≤ qX S i ∧ qX S i ≤ 99) ∧ 0 ≤ qY S i ∧ qY S i ≤ 99 := by
  obtain ⟨hw, hn, hr, hd, hx, hy⟩ := hS
  unfold qX qY
  rcases hi with h | h
  · rw [if_pos (by omega), if_pos (by omega)]
    exact pXY_bd hw (hr i h).1 (hr i h).2
  · rw [if_neg (by omega), if_neg (by omega)]
    exact ⟨hx, hy⟩
theorem absI_bd {a b : Int} (h1 : 0 ≤ a ∧ a ≤ 99) (h2 : 0 ≤ b ∧ b ≤ 99) : 0 ≤ absI (a - b) ∧ absI (a - b) ≤ 99 := by
  unfold absI
  split <;> omega
theorem wy_bd {S : Sc} (hS : S.ok) {i j : Nat} (hi : S.at i) (hj : S.at j) : 0 ≤ wy S i j ∧ wy S i j ≤ 3960 := by
  obtain ⟨a1, a2⟩ := qXY_bd hS hi
  obtain ⟨b1, b2⟩ := qXY_bd hS hj
  have c1 := absI_bd a1 b1
  have c2 := absI_bd a2 b2
  have hw := hS.1.2.2.2.1.2.2.1
  have := mul_bd (A := 198) (B := 20) (x := absI (qX S i - qX S j) + absI (qY S i - qY S j)) (y := S.D 8 2) (by decide) (by omega) (by omega) (by omega) (by omega)
  have h0 : 0 ≤ (absI (qX S i - qX S j) + absI (qY S i - qY S j)) * S.D 8 2 := Int.mul_nonneg (by omega) (by omega)
  unfold wy
  exact ⟨h0, by omega⟩
theorem wy_99 (S : Sc) : wy S 9 9 = 0 := by
  unfold wy
  rw [Int.sub_self, Int.sub_self]
  exact Int.zero_mul _
theorem c_minutes {K : fM} {S : Sc} (hS : S.ok) (hK : SC K S) {i j : Nat} (hi : S.at i) (hj : S.at j) : s_X7_minutes K (i : Int) (j : Int) = some (wy S i j) := by
  have hn := hS.2.1
  have row : ∀ q, S.at q → K 56 q = qX S q ∧ K 57 q = qY S q := by
    intro q hq
    unfold qX qY
    rcases hq with h | h
    · rw [if_pos (by omega), if_pos (by omega)]
      exact ⟨(hK.2.1.1 q h).1, (hK.2.1.1 q h).2.1⟩
    · subst h
      exact ⟨hK.2.2.1, hK.2.2.2⟩
  have hi9 : i < 10 := by rcases hi with h | h <;> omega
  have hj9 : j < 10 := by rcases hj with h | h <;> omega
  obtain ⟨a1, a2⟩ := qXY_bd hS hi
  obtain ⟨b1, b2⟩ := qXY_bd hS hj
  have c1 := absI_bd a1 b1
  have c2 := absI_bd a2 b2
  have hb := wy_bd hS hi hj
  unfold s_X7_minutes
  rw [show (i : Int).toNat = i from rfl, show (j : Int).toNat = j from rfl, (row i hi).1, (row i hi).2, (row j hj).1, (row j hj).2, CR_r hK.1 8 (by decide) (by decide), if_pos (by unfold fin; omega), c_abs K (by omega) (by omega), Option.bind_some, if_pos (by unfold fin; omega), c_abs K (by omega) (by omega), Option.bind_some]
  unfold wy at hb ⊢
  rw [if_pos (by unfold fin; omega)]
theorem m_way {N : fM} {S : Sc} (hS : S.ok) (hN : SM N S) {i j : Nat} (hi : S.at i) (hj : S.at j) : s_X12_way N (ix i) (ix j) = some (wy S i j) := by
  have hn := hS.2.1
  obtain ⟨a1, a2⟩ := qXY_bd hS hi
  obtain ⟨b1, b2⟩ := qXY_bd hS hj
  have c1 := absI_bd a1 b1
  have c2 := absI_bd a2 b2
  have hb := wy_bd hS hi hj
  have h168 := (mh_rule hN.1).2.2.1
  have s4 : ∀ a b c e : Int, a = qX S i → b = qY S i → c = qX S j → e = qY S j → s_X12_way_j73 N a b c e = some (wy S i j) := by
    intro a b c e h1 h2 h3 h4
    subst h1 h2 h3 h4
    unfold s_X12_way_j73
    rw [h168, if_pos (by unfold fin; omega), m_plain N (by omega) (by omega), Option.bind_some, if_pos (by unfold fin; omega), m_plain N (by omega) (by omega), Option.bind_some]
    unfold wy at hb ⊢
    rw [if_pos (by unfold fin; omega)]
  have row : ∀ q, q < S.n → N 134 q = qX S q ∧ N 135 q = qY S q := by
    intro q h
    unfold qX qY
    rw [if_pos (by omega), if_pos (by omega)]
    exact ⟨(hN.2.1.1 q h).2.1, (hN.2.1.1 q h).2.2.1⟩
  have g9 : qX S 9 = N 122 40 ∧ qY S 9 = N 122 41 := ⟨hN.2.2.1.symm, hN.2.2.2.symm⟩
  have s3 : ∀ a b : Int, a = qX S i → b = qY S i → s_X12_way_j35 N (ix j) a b = some (wy S i j) := by
    intro a b h1 h2
    unfold s_X12_way_j35 s_X12_way_j54 ix
    rcases hj with h | h
    · rw [if_pos (show j < 9 by omega), if_pos (by omega), if_pos (by omega), if_pos (by omega), if_pos (by omega), show (j : Int).toNat = j from rfl]
      exact s4 _ _ _ _ h1 h2 (row j h).1 (row j h).2
    · subst h
      rw [if_neg (show ¬ 9 < 9 by omega), if_neg (by omega), if_neg (by omega)]
      exact s4 _ _ _ _ h1 h2 g9.1.symm g9.2.symm
  unfold s_X12_way s_X12_way_j17
  rcases hi with h | h
  · rw [show ix i = (i : Int) from if_pos (by omega), if_pos (by omega), if_pos (by omega), if_pos (by omega), if_pos (by omega), show (i : Int).toNat = i from rfl]
    exact s3 _ _ (row i h).1 (row i h).2
  · subst h
    rw [show ix 9 = -1 from rfl, if_neg (by omega), if_neg (by omega)]
    exact s3 _ _ g9.1.symm g9.2.symm
theorem dn_bd {S : Sc} (hS : S.ok) {i : Nat} (hi : i < S.n) {t : Int} (ht : 0 ≤ t) : dn S i t = 1000000 ∨ (t + 10 ≤ dn S i t ∧ dn S i t ≤ 1440) := by
  obtain ⟨hw, hn, hr, hd, hx, hy⟩ := hS
  obtain ⟨o1, o2⟩ := op_bd hw (hr i hi).1 (hr i hi).2
  have hw3 := hw.2.2.2.1.2.2.2.1
  unfold dn
  by_cases h : pSh S.D S.d (S.r i)
  · rw [if_pos h]; exact .inl rfl
  · rw [if_neg h]
    by_cases h2 : (if t < S.D 10 (S.r i * 10 + 8).toNat then S.D 10 (S.r i * 10 + 8).toNat else t) + S.D 8 3 ≤ S.D 10 (S.r i * 10 + 9).toNat
    · rw [if_pos h2]
      right
      split at h2 <;> split <;> omega
    · rw [if_neg h2]; exact .inl rfl
theorem c_doneAt {K : fM} {S : Sc} (hS : S.ok) (hK : SC K S) {i : Nat} (hi : i < S.n) {t : Int} (ht : 0 ≤ t) (ht2 : t ≤ 3000000) : s_X7_doneAt K (i : Int) t = some (dn S i t) := by
  obtain ⟨hw, hn, hr, hd, hx, hy⟩ := hS
  obtain ⟨o1, o2⟩ := op_bd hw (hr i hi).1 (hr i hi).2
  have hw3 := hw.2.2.2.1.2.2.2.1
  obtain ⟨-, -, q3, q4⟩ := hK.2.1.1 i hi
  unfold s_X7_doneAt
  rw [show (i : Int).toNat = i from rfl, if_pos (by omega), q3, q4, c_max, Option.bind_some, CR_r hK.1 8 (by decide) (by decide), if_pos (show fin ((if t < S.D 10 (S.r i * 10 + 8).toNat then S.D 10 (S.r i * 10 + 8).toNat else t) + S.D 8 3) ∧ (0 ≤ (i : Int) ∧ (i : Int) < 9) by unfold fin; split <;> omega)]
  unfold dn
  by_cases h : pSh S.D S.d (S.r i)
  · rw [if_pos h, if_pos h, if_pos (by split <;> omega)]
  · rw [if_neg h, if_neg h]
    by_cases h2 : (if t < S.D 10 (S.r i * 10 + 8).toNat then S.D 10 (S.r i * 10 + 8).toNat else t) + S.D 8 3 ≤ S.D 10 (S.r i * 10 + 9).toNat
    · rw [if_pos h2, if_neg (by omega)]
    · rw [if_neg h2, if_pos (by omega)]
theorem m_done {N : fM} {S : Sc} (hS : S.ok) (hN : SM N S) {i j : Nat} (hi : i < S.n) (hj : S.at j) {t : Int} (ht : 0 ≤ t) (ht2 : t ≤ 2000000) : s_X12_done N (i : Int) (ix j) t = some (dn S i (t + wy S j i)) := by
  have hS0 := hS
  obtain ⟨hw, hn, hr, hd, hx, hy⟩ := hS
  obtain ⟨o1, o2⟩ := op_bd hw (hr i hi).1 (hr i hi).2
  have hw3 := hw.2.2.2.1.2.2.2.1
  have hb := wy_bd hS0 hj (.inl hi)
  obtain ⟨q1, -, -, -, q5⟩ := hN.2.1.1 i hi
  have h169 := (mh_rule hN.1).2.2.2.1
  have hix : (i : Int) = ix i := (if_pos (by omega)).symm
  have j44 : ∀ s : Int, 0 ≤ s → s ≤ 3000000 → s_X12_done_j44 N (i : Int) s = some (if pSh S.D S.d (S.r i) then 1000000 else if s + S.D 8 3 ≤ S.D 10 (S.r i * 10 + 9).toNat then s + S.D 8 3 else 1000000) := by
    intro s hs hs2
    unfold s_X12_done_j44
    rw [if_pos (by omega), show (i : Int).toNat = i from rfl, q5, bit_ifn]
    by_cases h : pSh S.D S.d (S.r i)
    · rw [if_pos h, if_pos h]
    · rw [if_neg h, if_neg h, h169, if_pos (by unfold fin; omega), q1, m_of hN.1 hw.1 (hr i hi).1 (hr i hi).2 (by decide) (by decide), Option.bind_some]
      by_cases h2 : s + S.D 8 3 ≤ S.D 10 (S.r i * 10 + 9).toNat
      · rw [if_pos h2, if_pos (by unfold fin; omega), if_pos h2]
      · rw [if_neg h2, if_neg h2]
  unfold s_X12_done
  rw [show s_X12_way N (ix j) (i : Int) = some (wy S j i) from by rw [hix]; exact m_way hS0 hN hj (.inl hi), Option.bind_some, if_pos (by unfold fin; omega), show (i : Int).toNat = i from rfl, q1, m_of hN.1 hw.1 (hr i hi).1 (hr i hi).2 (by decide) (by decide), Option.bind_some]
  unfold dn
  by_cases h : S.D 10 (S.r i * 10 + 8).toNat ≤ t + wy S j i
  · rw [if_pos h, j44 _ (by omega) (by omega), if_neg (show ¬ t + wy S j i < S.D 10 (S.r i * 10 + 8).toNat by omega)]
  · rw [if_neg h, if_pos (by omega), Option.bind_some, j44 _ (by omega) (by omega), if_pos (show t + wy S j i < S.D 10 (S.r i * 10 + 8).toNat by omega)]
