/-! ===== what class and reference have in common (by hand) ===== -/
theorem fLp_for {σ ε : Type} {b : σ → Option (σ ⊕ ε)} (f : Nat → σ) (n : Nat) {e : ε} (hs : ∀ i, i < n → b (f i) = some (.inl (f (i + 1)))) (he : b (f n) = some (.inr e)) : fLp b (f 0) = some e := by
  induction n generalizing f with
  | zero => rw [fLp_eq, he]; rfl
  | succ n ih =>
    rw [fLp_eq, hs 0 (by omega)]
    exact ih (fun i => f (i + 1)) (fun i hi => hs (i + 1) (by omega)) he
/-- a row with one number anew -/
def upd1 (t : Nat → Int) (i : Nat) (v : Int) : Nat → Int := fun j => if j = i then v else t j
theorem fup_eq (M : fM) (k i : Nat) (v : Int) : fup M k i v k = upd1 (M k) i v := by
  funext j
  unfold fup upd1
  by_cases h : j = i
  · rw [if_pos ⟨rfl, h⟩, if_pos h]
  · rw [if_neg (fun e => h e.2), if_neg h]
theorem fup_ne {M : fM} {k i a : Nat} {v : Int} (h : a ≠ k) : fup M k i v a = M a := by
  funext j
  unfold fup
  rw [if_neg (fun e => h e.1)]
theorem fs_row {l : List (Nat × Option Nat)} {M M' : fM} (h : fSame l M M') (k : Nat) (hk : ∀ x ∈ l, x.1 ≠ k) : M' k = M k := by
  funext j
  refine h k j (fun e => ?_)
  rcases e with e | e
  · exact hk _ e rfl
  · exact hk _ e rfl
theorem fs_at {l : List (Nat × Option Nat)} {M M' : fM} (h : fSame l M M') (k j : Nat) (hk : ¬ fMod l k j) : M' k j = M k j := h k j hk
/-- the class's rows from s + 4 (house) and s + 18 (records) on are D's -/
def CR (M : fM) (s : Nat) (D : fM) : Prop := ∀ k, 4 ≤ k → k ≤ 26 → M (k + s) = D k
/-! what the numbers of a house and its records may be -/
def WFn (D : fM) : Prop := (0 ≤ D 4 13 ∧ D 4 13 ≤ 16) ∧ (0 ≤ D 4 14 ∧ D 4 14 ≤ 6) ∧ (0 ≤ D 4 15 ∧ D 4 15 ≤ 6) ∧ (0 ≤ D 4 16 ∧ D 4 16 ≤ 16) ∧ (0 ≤ D 18 8 ∧ D 18 8 ≤ 200)
def WFt (D : fM) : Prop := D 5 0 = 0 ∨ ∀ j : Int, 0 ≤ j → j < 12 → 1000 ≤ D 5 j.toNat ∧ D 5 j.toNat ≤ 99999
def WFw (D : fM) : Prop := ∀ w : Int, 0 ≤ w → w < 52 → (0 ≤ D 6 w.toNat ∧ D 6 w.toNat ≤ 40) ∧ (0 ≤ D 7 w.toNat ∧ D 7 w.toNat ≤ 1)
def WFr (D : fM) : Prop := (0 ≤ D 8 0 ∧ D 8 0 ≤ 99) ∧ (0 ≤ D 8 1 ∧ D 8 1 ≤ 999) ∧ (1 ≤ D 8 2 ∧ D 8 2 ≤ 20) ∧ (10 ≤ D 8 3 ∧ D 8 3 ≤ 120) ∧ (0 ≤ D 8 4 ∧ D 8 4 < D 8 5 ∧ D 8 5 ≤ 1440)
def WFf (D : fM) : Prop := ∀ i : Int, 0 ≤ i → i < D 4 16 → (0 ≤ D 9 (i * 3).toNat ∧ D 9 (i * 3).toNat ≤ 2) ∧ (0 ≤ D 9 (i * 3 + 1).toNat ∧ D 9 (i * 3 + 1).toNat ≤ 9999) ∧ (0 ≤ D 9 (i * 3 + 2).toNat ∧ D 9 (i * 3 + 2).toNat ≤ 363)
def WFp (D : fM) : Prop := ∀ p : Int, 0 ≤ p → p < D 4 13 → (0 ≤ D 10 (p * 10 + 0).toNat ∧ D 10 (p * 10 + 0).toNat ≤ 2) ∧ (0 ≤ D 10 (p * 10 + 1).toNat ∧ D 10 (p * 10 + 1).toNat ≤ 99) ∧ (0 ≤ D 10 (p * 10 + 2).toNat ∧ D 10 (p * 10 + 2).toNat ≤ 99) ∧ (1 ≤ D 10 (p * 10 + 3).toNat ∧ D 10 (p * 10 + 3).toNat ≤ 999) ∧ (0 ≤ D 10 (p * 10 + 5).toNat ∧ D 10 (p * 10 + 5).toNat ≤ 9999) ∧ (0 ≤ D 10 (p * 10 + 6).toNat ∧ D 10 (p * 10 + 6).toNat ≤ 9) ∧ (0 ≤ D 10 (p * 10 + 7).toNat ∧ D 10 (p * 10 + 7).toNat ≤ 1) ∧ (0 ≤ D 10 (p * 10 + 8).toNat ∧ D 10 (p * 10 + 8).toNat ≤ 1440) ∧ (0 ≤ D 10 (p * 10 + 9).toNat ∧ D 10 (p * 10 + 9).toNat ≤ 1440)
def WFs (D : fM) : Prop := ∀ p : Int, 0 ≤ p → p < D 4 13 → (∀ n : Int, 0 ≤ n → n < 12 → 0 ≤ D 11 (p * 12 + n).toNat ∧ D 11 (p * 12 + n).toNat ≤ 99) ∧ (∀ g : Int, 0 ≤ g → g < 4 → 0 ≤ D 12 (p * 4 + g).toNat ∧ D 12 (p * 4 + g).toNat ≤ 20)
def WFu (D : fM) : Prop := ∀ t : Int, 0 ≤ t → t < D 4 14 → (0 ≤ D 13 (t * 3).toNat ∧ D 13 (t * 3).toNat ≤ 99) ∧ (0 ≤ D 13 (t * 3 + 1).toNat ∧ D 13 (t * 3 + 1).toNat ≤ 99) ∧ (-99 ≤ D 13 (t * 3 + 2).toNat ∧ D 13 (t * 3 + 2).toNat ≤ 99)
def WFc (D : fM) : Prop := ∀ t u : Int, 0 ≤ t → t < 6 → 0 ≤ u → u < 6 → 0 ≤ D 14 (t * 6 + u).toNat ∧ D 14 (t * 6 + u).toNat ≤ 99
def WFq (D : fM) : Prop := ∀ i : Int, 0 ≤ i → i < D 18 8 → (0 ≤ D 19 i.toNat ∧ D 19 i.toNat ≤ 6) ∧ (0 ≤ D 20 i.toNat ∧ D 20 i.toNat < D 4 13) ∧ (0 ≤ D 21 i.toNat ∧ D 21 i.toNat ≤ 363) ∧ (0 ≤ D 22 i.toNat ∧ D 22 i.toNat ≤ 363) ∧ (0 ≤ D 25 i.toNat ∧ D 25 i.toNat ≤ 4095) ∧ (∀ n : Int, 0 ≤ n → n < 12 → -999 ≤ D 26 (i * 12 + n).toNat ∧ D 26 (i * 12 + n).toNat ≤ 999) ∧ (D 19 i.toNat = 0 → 0 ≤ D 23 i.toNat ∧ D 23 i.toNat < D 4 14) ∧ (D 19 i.toNat = 3 → 1 ≤ D 23 i.toNat ∧ D 23 i.toNat ≤ 9999) ∧ (D 19 i.toNat = 6 → (0 ≤ D 23 i.toNat ∧ D 23 i.toNat ≤ 99) ∧ (0 ≤ D 24 i.toNat ∧ D 24 i.toNat ≤ 99)) ∧ (D 19 i.toNat = 5 → D 10 (D 20 i.toNat * 10 + 0).toNat = 2)
def WF (D : fM) : Prop := WFn D ∧ WFt D ∧ WFw D ∧ WFr D ∧ WFf D ∧ WFp D ∧ WFs D ∧ WFu D ∧ WFc D ∧ WFq D
/-! the reference's rows that hold the same -/
def MRh (M : fM) (hc : Nat) (ho : Int) (D : fM) : Prop :=
  (∀ z : Int, z = ho → M hc z.toNat = if 0 < D 5 0 then 1 else 0) ∧
  (0 < D 5 0 → ∀ z j : Int, z = ho + 1 + j → 0 ≤ j → j < 12 → M hc z.toNat = D 5 j.toNat) ∧
  (∀ z w : Int, z = ho + 13 + w → 0 ≤ w → w < 52 → M hc z.toNat = D 6 w.toNat) ∧
  (∀ z w : Int, z = ho + 65 + w → 0 ≤ w → w < 52 → M hc z.toNat = D 7 w.toNat) ∧
  (∀ z : Int, z = ho + 117 → M hc z.toNat = D 4 16) ∧
  (∀ z i c : Int, z = ho + 118 + 3 * i + c → 0 ≤ i → i < D 4 16 → 0 ≤ c → c < 3 → M hc z.toNat = D 9 (i * 3 + c).toNat) ∧
  (∀ z j : Int, z = ho + 166 + j → 0 ≤ j → j < 6 → M hc z.toNat = D 8 j.toNat) ∧
  (∀ z j : Int, z = ho + 172 + j → 0 ≤ j → j < 3 → M hc z.toNat = D 4 (13 + j).toNat) ∧
  (∀ z p w : Int, z = ho + 175 + 10 * p + w → 0 ≤ p → p < D 4 13 → 0 ≤ w → w < 10 → M hc z.toNat = D 10 (p * 10 + w).toNat) ∧
  (∀ z p n : Int, z = ho + 335 + 12 * p + n → 0 ≤ p → p < D 4 13 → 0 ≤ n → n < 12 → M hc z.toNat = D 11 (p * 12 + n).toNat) ∧
  (∀ z p g : Int, z = ho + 527 + 4 * p + g → 0 ≤ p → p < D 4 13 → 0 ≤ g → g < 4 → M hc z.toNat = D 12 (p * 4 + g).toNat) ∧
  (∀ z t c : Int, z = ho + 591 + 3 * t + c → 0 ≤ t → t < D 4 14 → 0 ≤ c → c < 3 → M hc z.toNat = D 13 (t * 3 + c).toNat) ∧
  (∀ z t u : Int, z = ho + 609 + 6 * t + u → 0 ≤ t → t < 6 → 0 ≤ u → u < 6 → M hc z.toNat = D 14 (t * 6 + u).toNat)
/-! names: letters 1..26, five bits in the class, eight in the reference -/
def enc5 : List Nat → Int
  | [] => 0
  | a :: w => enc5 w * 32 + a
def enc8 : List Nat → Int
  | [] => 0
  | a :: w => enc8 w * 256 + (a + 96)
/-- a word, its last letter first -/
def isW (w : List Nat) : Prop := w ≠ [] ∧ w.length ≤ 8 ∧ ∀ a ∈ w, 1 ≤ a ∧ a ≤ 26
def wrel (x y : Int) : Prop := ∃ w, isW w ∧ x = enc5 w ∧ y = enc8 w
def MRn (M : fM) (nc : Nat) (no : Int) (D : fM) : Prop :=
  (∀ z p : Int, z = no + p → 0 ≤ p → p < D 4 13 → wrel (D 15 p.toNat) (M nc z.toNat)) ∧
  (∀ z t : Int, z = no + 16 + t → 0 ≤ t → t < D 4 14 → wrel (D 16 t.toNat) (M nc z.toNat)) ∧
  (∀ z u : Int, z = no + 22 + u → 0 ≤ u → u < D 4 15 → wrel (D 17 u.toNat) (M nc z.toNat))
def MRr (M : fM) (rc : Nat) (ro : Int) (D : fM) : Prop :=
  (∀ z i : Int, z = ro + 19 * i → 0 ≤ i → i < D 18 8 → M rc z.toNat = D 19 i.toNat) ∧
  (∀ z i : Int, z = ro + 19 * i + 1 → 0 ≤ i → i < D 18 8 → M rc z.toNat = D 20 i.toNat) ∧
  (∀ z i : Int, z = ro + 19 * i + 2 → 0 ≤ i → i < D 18 8 → M rc z.toNat = D 21 i.toNat) ∧
  (∀ z i : Int, z = ro + 19 * i + 3 → 0 ≤ i → i < D 18 8 → M rc z.toNat = D 22 i.toNat) ∧
  (∀ z i : Int, z = ro + 19 * i + 4 → 0 ≤ i → i < D 18 8 → D 19 i.toNat = 0 ∨ D 19 i.toNat = 2 ∨ D 19 i.toNat = 3 ∨ D 19 i.toNat = 6 → M rc z.toNat = D 23 i.toNat) ∧
  (∀ z i : Int, z = ro + 19 * i + 5 → 0 ≤ i → i < D 18 8 → D 19 i.toNat = 6 → M rc z.toNat = D 24 i.toNat) ∧
  (∀ z i : Int, z = ro + 19 * i + 6 → 0 ≤ i → i < D 18 8 → M rc z.toNat = D 25 i.toNat) ∧
  (∀ z i n : Int, z = ro + 19 * i + 7 + n → 0 ≤ i → i < D 18 8 → 0 ≤ n → n < 12 → M rc z.toNat = D 26 (i * 12 + n).toNat)
/-- the tape -/
def Tp (M : fM) : Prop := M 122 2 = M 1 2 ∧ (0 ≤ M 1 2 ∧ M 1 2 ≤ 1240) ∧ M 123 = M 2 ∧ ∀ j, -128 ≤ M 2 j ∧ M 2 j < 128
/-- the keywords as class and reference have them (in unlike orders) -/
def kw5 : List Int := [21006725, 132528, 661069, 6309, 644677, 99685, 755083, 769611, 4153, 17073615, 21674162, 17482028, 21136488, 212555, 277925, 640957932, 263564, 20594373, 635184, 6882604, 508078, 21674148, 6804932, 2702693, 525604, 1669, 3739326036, 14145700, 494, 12009198]
def kw8 : List Int := [499850046565, 1684106608, 1952805485, 6710629, 1937076837, 1667328869, 2002873451, 2003792491, 6578553, 482804330095, 500186375538, 1718579819, 483006638444, 499917087592, 1752132965, 126870791090028, 1751215212, 495874700901, 1936484720, 440005650796, 1869636974, 500186375524, 439956631140, 422826699621, 1885432164, 6386789, 27988542599033460, 470021465444, 28526, 461414299502]
/-- what never changes -/
def St (M : fM) : Prop := (∀ j, fin (M 1000 j)) ∧ (∀ j, j < 6 → M 1001 j = (fR1.getD j 0).toInt) ∧ (∀ j, j < 4 → M 1002 j = (fR2.getD j 0).toInt) ∧ (∀ j, j < 4 → M 1003 j = (fR3.getD j 0).toInt) ∧ (∀ j, j < 30 → M 3 j = kw5.getD j 0) ∧ (∀ j, j < 30 → M 127 j = kw8.getD j 0)
/-- what earlier calls left for later ones -/
def Ou (M : fM) : Prop := M 0 14 = M 122 15 ∧ (M 47 7 = M 122 31 ∧ M 47 8 = M 122 32) ∧ (M 54 15 = M 122 51 ∧ 0 ≤ M 54 15 ∧ M 54 15 ≤ 9 ∧ ∀ i : Int, 0 ≤ i → i < M 54 15 → M 66 i.toNat = M 142 i.toNat) ∧ M 54 16 = M 122 49 ∧ M 67 5 = M 122 57 ∧ (M 70 3 = M 122 60 ∧ 0 ≤ M 70 3 ∧ M 70 3 ≤ 6 ∧ ∀ k : Int, 0 ≤ k → k < M 70 3 → M 72 k.toNat = M 148 k.toNat)
/-- the house and the records that stand -/
def Cu (M D : fM) : Prop := CR M 0 D ∧ WF D ∧ MRh M 124 0 D ∧ MRn M 126 0 D ∧ MRr M 125 0 D ∧ M 122 10 = D 18 8
/-- an image -/
def Kp (M : fM) (s k : Nat) (D : fM) : Prop := M 75 k = M 154 k ∧ b01 (M 75 k) ∧ (M 75 k = 1 → CR M s D ∧ WF D ∧ MRh M 150 (645 * k) D ∧ MRn M 153 (28 * k) D ∧ MRr M 151 (3800 * k) D ∧ M 152 k = D 18 8)
def Iv (M : fM) : Prop := St M ∧ Tp M ∧ Ou M ∧ (∃ D, Cu M D) ∧ (∃ D, Kp M 72 0 D) ∧ (∃ D, Kp M 95 1 D)
/-! what is left alone -/
abbrev fNo (l : List (Nat × Option Nat)) (ks : List Nat) (fs : List (Nat × Nat)) : Prop := ∀ x ∈ l, x.1 ∉ ks ∧ ∀ f ∈ fs, x ≠ (f.1, none) ∧ x ≠ (f.1, some f.2)
theorem fno_row {l : List (Nat × Option Nat)} {ks : List Nat} {fs : List (Nat × Nat)} {M M' : fM} (h : fSame l M M') (hn : fNo l ks fs) (k : Nat) (hk : k ∈ ks) : M' k = M k :=
  fs_row h k (fun x hx e => (hn x hx).1 (by rw [e]; exact hk))
theorem fno_fld {l : List (Nat × Option Nat)} {ks : List Nat} {fs : List (Nat × Nat)} {M M' : fM} (h : fSame l M M') (hn : fNo l ks fs) (k j : Nat) (hk : (k, j) ∈ fs) : M' k j = M k j := by
  refine h k j (fun e => ?_)
  rcases e with e | e
  · exact ((hn _ e).2 _ hk).1 rfl
  · exact ((hn _ e).2 _ hk).2 rfl
theorem fno_sub {l : List (Nat × Option Nat)} {ks ks' : List Nat} {fs fs' : List (Nat × Nat)} (hn : fNo l ks fs) (h1 : ∀ x ∈ ks', x ∈ ks) (h2 : ∀ x ∈ fs', x ∈ fs) : fNo l ks' fs' :=
  fun x hx => ⟨fun e => (hn x hx).1 (h1 _ e), fun f hf => (hn x hx).2 f (h2 _ hf)⟩
theorem St_same {l : List (Nat × Option Nat)} {M M' : fM} (h : fSame l M M') (hn : fNo l [1000, 1001, 1002, 1003, 3, 127] []) (H : St M) : St M' := by
  unfold St at H ⊢
  rw [fno_row h hn 1000 (by decide), fno_row h hn 1001 (by decide), fno_row h hn 1002 (by decide), fno_row h hn 1003 (by decide), fno_row h hn 3 (by decide), fno_row h hn 127 (by decide)]
  exact H
theorem Tp_same {l : List (Nat × Option Nat)} {M M' : fM} (h : fSame l M M') (hn : fNo l [2, 123] [(1, 2), (122, 2)]) (H : Tp M) : Tp M' := by
  unfold Tp at H ⊢
  rw [fno_row h hn 2 (by decide), fno_row h hn 123 (by decide), fno_fld h hn 1 2 (by decide), fno_fld h hn 122 2 (by decide)]
  exact H
theorem Ou_same {l : List (Nat × Option Nat)} {M M' : fM} (h : fSame l M M') (hn : fNo l [66, 142, 72, 148] [(0, 14), (122, 15), (47, 7), (122, 31), (47, 8), (122, 32), (54, 15), (122, 51), (54, 16), (122, 49), (67, 5), (122, 57), (70, 3), (122, 60)]) (H : Ou M) : Ou M' := by
  unfold Ou at H ⊢
  rw [fno_row h hn 66 (by decide), fno_row h hn 142 (by decide), fno_row h hn 72 (by decide), fno_row h hn 148 (by decide), fno_fld h hn 0 14 (by decide), fno_fld h hn 122 15 (by decide), fno_fld h hn 47 7 (by decide), fno_fld h hn 122 31 (by decide), fno_fld h hn 47 8 (by decide), fno_fld h hn 122 32 (by decide), fno_fld h hn 54 15 (by decide), fno_fld h hn 122 51 (by decide), fno_fld h hn 54 16 (by decide), fno_fld h hn 122 49 (by decide), fno_fld h hn 67 5 (by decide), fno_fld h hn 122 57 (by decide), fno_fld h hn 70 3 (by decide), fno_fld h hn 122 60 (by decide)]
  exact H
theorem MRh_row {M M' : fM} {hc : Nat} {ho : Int} {D : fM} (e : M' hc = M hc) (H : MRh M hc ho D) : MRh M' hc ho D := by
  unfold MRh at H ⊢
  rw [e]
  exact H
theorem MRn_row {M M' : fM} {hc : Nat} {ho : Int} {D : fM} (e : M' hc = M hc) (H : MRn M hc ho D) : MRn M' hc ho D := by
  unfold MRn at H ⊢
  rw [e]
  exact H
theorem MRr_row {M M' : fM} {hc : Nat} {ho : Int} {D : fM} (e : M' hc = M hc) (H : MRr M hc ho D) : MRr M' hc ho D := by
  unfold MRr at H ⊢
  rw [e]
  exact H
abbrev rows26 : List Nat := [4, 5, 6, 7, 8, 9, 10, 11, 12, 13, 14, 15, 16, 17, 18, 19, 20, 21, 22, 23, 24, 25, 26]
theorem CR_same {l : List (Nat × Option Nat)} {M M' : fM} {s : Nat} {D : fM} (h : fSame l M M') (hn : ∀ x ∈ l, ¬ (4 + s ≤ x.1 ∧ x.1 ≤ 26 + s)) (H : CR M s D) : CR M' s D := by
  intro k h1 h2
  rw [← H k h1 h2]
  exact fs_row h (k + s) (fun x hx e => hn x hx (by omega))
theorem Cu_same {l : List (Nat × Option Nat)} {M M' D : fM} (h : fSame l M M') (hn : fNo l [124, 125, 126] [(122, 10)]) (hr : ∀ x ∈ l, ¬ (4 + 0 ≤ x.1 ∧ x.1 ≤ 26 + 0)) (H : Cu M D) : Cu M' D :=
  ⟨CR_same h hr H.1, H.2.1, MRh_row (fno_row h hn 124 (by decide)) H.2.2.1, MRn_row (fno_row h hn 126 (by decide)) H.2.2.2.1, MRr_row (fno_row h hn 125 (by decide)) H.2.2.2.2.1, (fno_fld h hn 122 10 (by decide)).trans H.2.2.2.2.2⟩
theorem Kp_same {l : List (Nat × Option Nat)} {M M' D : fM} {s k : Nat} (h : fSame l M M') (hn : fNo l [75, 150, 151, 152, 153, 154] []) (hr : ∀ x ∈ l, ¬ (4 + s ≤ x.1 ∧ x.1 ≤ 26 + s)) (H : Kp M s k D) : Kp M' s k D := by
  obtain ⟨h1, h2, h3⟩ := H
  have e75 := fno_row h hn 75 (by decide)
  have e154 := fno_row h hn 154 (by decide)
  refine ⟨by rw [e75, e154]; exact h1, by rw [e75]; exact h2, fun hk => ?_⟩
  rw [e75] at hk
  obtain ⟨a1, a2, a3, a4, a5, a6⟩ := h3 hk
  exact ⟨CR_same h hr a1, a2, MRh_row (fno_row h hn 150 (by decide)) a3, MRn_row (fno_row h hn 153 (by decide)) a4, MRr_row (fno_row h hn 151 (by decide)) a5, by rw [fno_row h hn 152 (by decide)]; exact a6⟩
/-- every row and field that Iv reads is left alone -/
abbrev fScr (l : List (Nat × Option Nat)) : Prop := fNo l [1000, 1001, 1002, 1003, 3, 127, 2, 123, 66, 142, 72, 148, 124, 125, 126, 75, 150, 151, 152, 153, 154] [(1, 2), (122, 2), (0, 14), (122, 15), (47, 7), (122, 31), (47, 8), (122, 32), (54, 15), (122, 51), (54, 16), (122, 49), (67, 5), (122, 57), (70, 3), (122, 60), (122, 10)] ∧ ∀ x ∈ l, ¬ (4 ≤ x.1 ∧ x.1 ≤ 26) ∧ ¬ (76 ≤ x.1 ∧ x.1 ≤ 98) ∧ ¬ (99 ≤ x.1 ∧ x.1 ≤ 121)
theorem Iv_same {l : List (Nat × Option Nat)} {M M' : fM} (h : fSame l M M') (hn : fScr l) (H : Iv M) : Iv M' := by
  obtain ⟨a1, a2, a3, ⟨D, a4⟩, ⟨D0, a5⟩, ⟨D1, a6⟩⟩ := H
  refine ⟨St_same h (fno_sub hn.1 (by decide) (by decide)) a1, Tp_same h (fno_sub hn.1 (by decide) (by decide)) a2, Ou_same h (fno_sub hn.1 (by decide) (by decide)) a3, ⟨D, Cu_same h (fno_sub hn.1 (by decide) (by decide)) (fun x hx => (hn.2 x hx).1) a4⟩, ⟨D0, Kp_same h (fno_sub hn.1 (by decide) (by decide)) (fun x hx e => (hn.2 x hx).2.1 (by omega)) a5⟩, ⟨D1, Kp_same h (fno_sub hn.1 (by decide) (by decide)) (fun x hx e => (hn.2 x hx).2.2 (by omega)) a6⟩⟩
theorem fs_up1 (M : fM) (k i : Nat) (v : Int) : fSame [(k, some i)] M (fup M k i v) := fs_up fs_refl (.inr List.mem_cons_self)
theorem Iv_thrown {M : fM} {v : Int} (H : Iv M) : Iv (fup M 122 0 v) := Iv_same (fs_up1 M 122 0 v) (by decide) H
/-! truth as a number -/
def bit (c : Prop) [Decidable c] : Int := if c then 1 else 0
theorem bit0 {c : Prop} [Decidable c] : bit c = 0 ↔ ¬ c := by
  unfold bit; split <;> simp_all
theorem bit1 {c : Prop} [Decidable c] : bit c = 1 ↔ c := by
  unfold bit; split <;> simp_all
theorem bit_b {c : Prop} [Decidable c] : b01 (bit c) := by
  unfold bit; split
  · exact .inr rfl
  · exact .inl rfl
theorem bit_if {α : Type} {c : Prop} [Decidable c] {a b : α} : (if bit c = 0 then a else b) = if c then b else a := by
  by_cases h : c
  · rw [if_pos h, if_neg (by rw [bit0]; exact fun e => e h)]
  · rw [if_neg h, if_pos (by rw [bit0]; exact h)]
theorem bit_ifn {α : Type} {c : Prop} [Decidable c] {a b : α} : (if ¬ bit c = 0 then a else b) = if c then a else b := by
  by_cases h : c
  · rw [if_pos h, if_pos (by rw [bit0]; exact fun e => e h)]
  · rw [if_neg h, if_neg (by rw [bit0]; exact fun e => e h)]
theorem bit_g {α : Type} {c : Prop} [Decidable c] {a b : α} : (if b01 (bit c) then a else b) = a := if_pos bit_b
theorem c_isWithin (M : fM) (a n : Int) : s_X11_isWithin M a n = some (bit (0 ≤ a ∧ a < n)) := by
  unfold s_X11_isWithin bit
  repeat' split
  all_goals first | rfl | (exfalso; omega)
theorem m_isIn (M : fM) (v a b : Int) : s_X12_isIn M v a b = some (bit (a ≤ v ∧ v ≤ b)) := by
  unfold s_X12_isIn bit
  repeat' split
  all_goals first | rfl | (exfalso; omega)
theorem c_hasPiano (M : fM) (p : Int) : s_X2_hasPiano_4 M p = some (bit (0 ≤ p ∧ p < M 4 13)) := by
  unfold s_X2_hasPiano_4 bit
  repeat' split
  all_goals first | rfl | (exfalso; omega)
theorem c_hasTuner (M : fM) (p : Int) : s_X2_hasTuner_4 M p = some (bit (0 ≤ p ∧ p < M 4 14)) := by
  unfold s_X2_hasTuner_4 bit
  repeat' split
  all_goals first | rfl | (exfalso; omega)
theorem c_isKnowing (M : fM) (k : Int) : s_X11_isKnowing M k = some (bit (-1 ≤ k ∧ k < 364)) := by
  unfold s_X11_isKnowing
  rw [c_isWithin]
  simp only [Option.bind_some, bit_if, bit_ifn]
  unfold bit
  repeat' split
  all_goals first | rfl | (exfalso; omega)
