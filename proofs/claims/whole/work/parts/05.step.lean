/-- what the cells are: an object of a class, or an array (0 int, 1 long, 2 byte, 3 boolean, 4 and 5 of House and Records; 9, 10, 11: old ones, the script, a text) and its length -/
def flay (k : Nat) : Option (Nat ⊕ (Nat × Nat)) := (bif Nat.ble k 79 then (bif Nat.ble k 39 then (bif Nat.ble k 19 then (bif Nat.ble k 9 then (bif Nat.ble k 4 then (bif Nat.ble k 1 then (bif Nat.ble k 0 then (bif Nat.beq k 0 then some (.inl 11) else none) else (bif Nat.beq k 1 then some (.inl 10) else none)) else (bif Nat.ble k 2 then (bif Nat.beq k 2 then some (.inr (2, 1240)) else none) else (bif Nat.ble k 3 then (bif Nat.beq k 3 then some (.inr (1, 30)) else none) else (bif Nat.beq k 4 then some (.inl 2) else none)))) else (bif Nat.ble k 6 then (bif Nat.ble k 5 then (bif Nat.beq k 5 then some (.inr (0, 12)) else none) else (bif Nat.beq k 6 then some (.inr (0, 52)) else none)) else (bif Nat.ble k 7 then (bif Nat.beq k 7 then some (.inr (0, 52)) else none) else (bif Nat.ble k 8 then (bif Nat.beq k 8 then some (.inr (0, 6)) else none) else (bif Nat.beq k 9 then some (.inr (0, 48)) else none))))) else (bif Nat.ble k 14 then (bif Nat.ble k 11 then (bif Nat.ble k 10 then (bif Nat.beq k 10 then some (.inr (0, 160)) else none) else (bif Nat.beq k 11 then some (.inr (0, 192)) else none)) else (bif Nat.ble k 12 then (bif Nat.beq k 12 then some (.inr (0, 64)) else none) else (bif Nat.ble k 13 then (bif Nat.beq k 13 then some (.inr (0, 18)) else none) else (bif Nat.beq k 14 then some (.inr (0, 36)) else none)))) else (bif Nat.ble k 16 then (bif Nat.ble k 15 then (bif Nat.beq k 15 then some (.inr (1, 16)) else none) else (bif Nat.beq k 16 then some (.inr (1, 6)) else none)) else (bif Nat.ble k 17 then (bif Nat.beq k 17 then some (.inr (1, 6)) else none) else (bif Nat.ble k 18 then (bif Nat.beq k 18 then some (.inl 6) else none) else (bif Nat.beq k 19 then some (.inr (0, 200)) else none)))))) else (bif Nat.ble k 29 then (bif Nat.ble k 24 then (bif Nat.ble k 21 then (bif Nat.ble k 20 then (bif Nat.beq k 20 then some (.inr (0, 200)) else none) else (bif Nat.beq k 21 then some (.inr (0, 200)) else none)) else (bif Nat.ble k 22 then (bif Nat.beq k 22 then some (.inr (0, 200)) else none) else (bif Nat.ble k 23 then (bif Nat.beq k 23 then some (.inr (0, 200)) else none) else (bif Nat.beq k 24 then some (.inr (0, 200)) else none)))) else (bif Nat.ble k 26 then (bif Nat.ble k 25 then (bif Nat.beq k 25 then some (.inr (0, 200)) else none) else (bif Nat.beq k 26 then some (.inr (0, 2400)) else none)) else (bif Nat.ble k 27 then (bif Nat.beq k 27 then some (.inl 3) else none) else (bif Nat.ble k 28 then (bif Nat.beq k 28 then some (.inl 2) else none) else (bif Nat.beq k 29 then some (.inr (0, 12)) else none))))) else (bif Nat.ble k 34 then (bif Nat.ble k 31 then (bif Nat.ble k 30 then (bif Nat.beq k 30 then some (.inr (0, 52)) else none) else (bif Nat.beq k 31 then some (.inr (0, 52)) else none)) else (bif Nat.ble k 32 then (bif Nat.beq k 32 then some (.inr (0, 6)) else none) else (bif Nat.ble k 33 then (bif Nat.beq k 33 then some (.inr (0, 48)) else none) else (bif Nat.beq k 34 then some (.inr (0, 160)) else none)))) else (bif Nat.ble k 36 then (bif Nat.ble k 35 then (bif Nat.beq k 35 then some (.inr (0, 192)) else none) else (bif Nat.beq k 36 then some (.inr (0, 64)) else none)) else (bif Nat.ble k 37 then (bif Nat.beq k 37 then some (.inr (0, 18)) else none) else (bif Nat.ble k 38 then (bif Nat.beq k 38 then some (.inr (0, 36)) else none) else (bif Nat.beq k 39 then some (.inr (1, 16)) else none))))))) else (bif Nat.ble k 59 then (bif Nat.ble k 49 then (bif Nat.ble k 44 then (bif Nat.ble k 41 then (bif Nat.ble k 40 then (bif Nat.beq k 40 then some (.inr (1, 6)) else none) else (bif Nat.beq k 41 then some (.inr (1, 6)) else none)) else (bif Nat.ble k 42 then (bif Nat.beq k 42 then some (.inl 5) else none) else (bif Nat.ble k 43 then (bif Nat.beq k 43 then some (.inl 8) else none) else (bif Nat.beq k 44 then some (.inr (0, 364)) else none)))) else (bif Nat.ble k 46 then (bif Nat.ble k 45 then (bif Nat.beq k 45 then some (.inr (0, 364)) else none) else (bif Nat.beq k 46 then some (.inr (0, 12)) else none)) else (bif Nat.ble k 47 then (bif Nat.beq k 47 then some (.inl 1) else none) else (bif Nat.ble k 48 then (bif Nat.beq k 48 then some (.inr (0, 12)) else none) else (bif Nat.beq k 49 then some (.inr (0, 12)) else none))))) else (bif Nat.ble k 54 then (bif Nat.ble k 51 then (bif Nat.ble k 50 then (bif Nat.beq k 50 then some (.inr (0, 10)) else none) else (bif Nat.beq k 51 then some (.inr (0, 10)) else none)) else (bif Nat.ble k 52 then (bif Nat.beq k 52 then some (.inr (0, 200)) else none) else (bif Nat.ble k 53 then (bif Nat.beq k 53 then some (.inl 0) else none) else (bif Nat.beq k 54 then some (.inl 7) else none)))) else (bif Nat.ble k 56 then (bif Nat.ble k 55 then (bif Nat.beq k 55 then some (.inr (0, 9)) else none) else (bif Nat.beq k 56 then some (.inr (0, 10)) else none)) else (bif Nat.ble k 57 then (bif Nat.beq k 57 then some (.inr (0, 10)) else none) else (bif Nat.ble k 58 then (bif Nat.beq k 58 then some (.inr (0, 9)) else none) else (bif Nat.beq k 59 then some (.inr (0, 9)) else none)))))) else (bif Nat.ble k 69 then (bif Nat.ble k 64 then (bif Nat.ble k 61 then (bif Nat.ble k 60 then (bif Nat.beq k 60 then some (.inr (0, 9)) else none) else (bif Nat.beq k 61 then some (.inr (0, 512)) else none)) else (bif Nat.ble k 62 then (bif Nat.beq k 62 then some (.inr (0, 4608)) else none) else (bif Nat.ble k 63 then (bif Nat.beq k 63 then some (.inr (0, 512)) else none) else (bif Nat.beq k 64 then some (.inr (0, 512)) else none)))) else (bif Nat.ble k 66 then (bif Nat.ble k 65 then (bif Nat.beq k 65 then some (.inr (1, 3072)) else none) else (bif Nat.beq k 66 then some (.inr (0, 9)) else none)) else (bif Nat.ble k 67 then (bif Nat.beq k 67 then some (.inl 9) else none) else (bif Nat.ble k 68 then (bif Nat.beq k 68 then some (.inr (0, 8)) else none) else (bif Nat.beq k 69 then some (.inr (1, 36)) else none))))) else (bif Nat.ble k 74 then (bif Nat.ble k 71 then (bif Nat.ble k 70 then (bif Nat.beq k 70 then some (.inl 4) else none) else (bif Nat.beq k 71 then some (.inr (0, 448)) else none)) else (bif Nat.ble k 72 then (bif Nat.beq k 72 then some (.inr (0, 6)) else none) else (bif Nat.ble k 73 then (bif Nat.beq k 73 then some (.inr (4, 2)) else none) else (bif Nat.beq k 74 then some (.inr (5, 2)) else none)))) else (bif Nat.ble k 76 then (bif Nat.ble k 75 then (bif Nat.beq k 75 then some (.inr (0, 2)) else none) else (bif Nat.beq k 76 then some (.inl 2) else none)) else (bif Nat.ble k 77 then (bif Nat.beq k 77 then some (.inr (0, 12)) else none) else (bif Nat.ble k 78 then (bif Nat.beq k 78 then some (.inr (0, 52)) else none) else (bif Nat.beq k 79 then some (.inr (0, 52)) else none)))))))) else (bif Nat.ble k 119 then (bif Nat.ble k 99 then (bif Nat.ble k 89 then (bif Nat.ble k 84 then (bif Nat.ble k 81 then (bif Nat.ble k 80 then (bif Nat.beq k 80 then some (.inr (0, 6)) else none) else (bif Nat.beq k 81 then some (.inr (0, 48)) else none)) else (bif Nat.ble k 82 then (bif Nat.beq k 82 then some (.inr (0, 160)) else none) else (bif Nat.ble k 83 then (bif Nat.beq k 83 then some (.inr (0, 192)) else none) else (bif Nat.beq k 84 then some (.inr (0, 64)) else none)))) else (bif Nat.ble k 86 then (bif Nat.ble k 85 then (bif Nat.beq k 85 then some (.inr (0, 18)) else none) else (bif Nat.beq k 86 then some (.inr (0, 36)) else none)) else (bif Nat.ble k 87 then (bif Nat.beq k 87 then some (.inr (1, 16)) else none) else (bif Nat.ble k 88 then (bif Nat.beq k 88 then some (.inr (1, 6)) else none) else (bif Nat.beq k 89 then some (.inr (1, 6)) else none))))) else (bif Nat.ble k 94 then (bif Nat.ble k 91 then (bif Nat.ble k 90 then (bif Nat.beq k 90 then some (.inl 6) else none) else (bif Nat.beq k 91 then some (.inr (0, 200)) else none)) else (bif Nat.ble k 92 then (bif Nat.beq k 92 then some (.inr (0, 200)) else none) else (bif Nat.ble k 93 then (bif Nat.beq k 93 then some (.inr (0, 200)) else none) else (bif Nat.beq k 94 then some (.inr (0, 200)) else none)))) else (bif Nat.ble k 96 then (bif Nat.ble k 95 then (bif Nat.beq k 95 then some (.inr (0, 200)) else none) else (bif Nat.beq k 96 then some (.inr (0, 200)) else none)) else (bif Nat.ble k 97 then (bif Nat.beq k 97 then some (.inr (0, 200)) else none) else (bif Nat.ble k 98 then (bif Nat.beq k 98 then some (.inr (0, 2400)) else none) else (bif Nat.beq k 99 then some (.inl 2) else none)))))) else (bif Nat.ble k 109 then (bif Nat.ble k 104 then (bif Nat.ble k 101 then (bif Nat.ble k 100 then (bif Nat.beq k 100 then some (.inr (0, 12)) else none) else (bif Nat.beq k 101 then some (.inr (0, 52)) else none)) else (bif Nat.ble k 102 then (bif Nat.beq k 102 then some (.inr (0, 52)) else none) else (bif Nat.ble k 103 then (bif Nat.beq k 103 then some (.inr (0, 6)) else none) else (bif Nat.beq k 104 then some (.inr (0, 48)) else none)))) else (bif Nat.ble k 106 then (bif Nat.ble k 105 then (bif Nat.beq k 105 then some (.inr (0, 160)) else none) else (bif Nat.beq k 106 then some (.inr (0, 192)) else none)) else (bif Nat.ble k 107 then (bif Nat.beq k 107 then some (.inr (0, 64)) else none) else (bif Nat.ble k 108 then (bif Nat.beq k 108 then some (.inr (0, 18)) else none) else (bif Nat.beq k 109 then some (.inr (0, 36)) else none))))) else (bif Nat.ble k 114 then (bif Nat.ble k 111 then (bif Nat.ble k 110 then (bif Nat.beq k 110 then some (.inr (1, 16)) else none) else (bif Nat.beq k 111 then some (.inr (1, 6)) else none)) else (bif Nat.ble k 112 then (bif Nat.beq k 112 then some (.inr (1, 6)) else none) else (bif Nat.ble k 113 then (bif Nat.beq k 113 then some (.inl 6) else none) else (bif Nat.beq k 114 then some (.inr (0, 200)) else none)))) else (bif Nat.ble k 116 then (bif Nat.ble k 115 then (bif Nat.beq k 115 then some (.inr (0, 200)) else none) else (bif Nat.beq k 116 then some (.inr (0, 200)) else none)) else (bif Nat.ble k 117 then (bif Nat.beq k 117 then some (.inr (0, 200)) else none) else (bif Nat.ble k 118 then (bif Nat.beq k 118 then some (.inr (0, 200)) else none) else (bif Nat.beq k 119 then some (.inr (0, 200)) else none))))))) else (bif Nat.ble k 139 then (bif Nat.ble k 129 then (bif Nat.ble k 124 then (bif Nat.ble k 121 then (bif Nat.ble k 120 then (bif Nat.beq k 120 then some (.inr (0, 200)) else none) else (bif Nat.beq k 121 then some (.inr (0, 2400)) else none)) else (bif Nat.ble k 122 then (bif Nat.beq k 122 then some (.inl 12) else none) else (bif Nat.ble k 123 then (bif Nat.beq k 123 then some (.inr (2, 1240)) else none) else (bif Nat.beq k 124 then some (.inr (0, 1290)) else none)))) else (bif Nat.ble k 126 then (bif Nat.ble k 125 then (bif Nat.beq k 125 then some (.inr (0, 3800)) else none) else (bif Nat.beq k 126 then some (.inr (1, 56)) else none)) else (bif Nat.ble k 127 then (bif Nat.beq k 127 then some (.inr (1, 30)) else none) else (bif Nat.ble k 128 then (bif Nat.beq k 128 then some (.inr (3, 386)) else none) else (bif Nat.beq k 129 then some (.inr (0, 12)) else none))))) else (bif Nat.ble k 134 then (bif Nat.ble k 131 then (bif Nat.ble k 130 then (bif Nat.beq k 130 then some (.inr (1, 12)) else none) else (bif Nat.beq k 131 then some (.inr (1, 12)) else none)) else (bif Nat.ble k 132 then (bif Nat.beq k 132 then some (.inr (0, 200)) else none) else (bif Nat.ble k 133 then (bif Nat.beq k 133 then some (.inr (0, 9)) else none) else (bif Nat.beq k 134 then some (.inr (0, 9)) else none)))) else (bif Nat.ble k 136 then (bif Nat.ble k 135 then (bif Nat.beq k 135 then some (.inr (0, 9)) else none) else (bif Nat.beq k 136 then some (.inr (0, 9)) else none)) else (bif Nat.ble k 137 then (bif Nat.beq k 137 then some (.inr (3, 9)) else none) else (bif Nat.ble k 138 then (bif Nat.beq k 138 then some (.inr (0, 10)) else none) else (bif Nat.beq k 139 then some (.inr (0, 10)) else none)))))) else (bif Nat.ble k 149 then (bif Nat.ble k 144 then (bif Nat.ble k 141 then (bif Nat.ble k 140 then (bif Nat.beq k 140 then some (.inr (0, 10)) else none) else (bif Nat.beq k 141 then some (.inr (0, 9)) else none)) else (bif Nat.ble k 142 then (bif Nat.beq k 142 then some (.inr (0, 9)) else none) else (bif Nat.ble k 143 then (bif Nat.beq k 143 then some (.inr (3, 3072)) else none) else (bif Nat.beq k 144 then some (.inr (0, 4608)) else none)))) else (bif Nat.ble k 146 then (bif Nat.ble k 145 then (bif Nat.beq k 145 then some (.inr (3, 32768)) else none) else (bif Nat.beq k 146 then some (.inr (1, 36)) else none)) else (bif Nat.ble k 147 then (bif Nat.beq k 147 then some (.inr (1, 9)) else none) else (bif Nat.ble k 148 then (bif Nat.beq k 148 then some (.inr (0, 6)) else none) else (bif Nat.beq k 149 then some (.inr (0, 6)) else none))))) else (bif Nat.ble k 154 then (bif Nat.ble k 151 then (bif Nat.ble k 150 then (bif Nat.beq k 150 then some (.inr (0, 1290)) else none) else (bif Nat.beq k 151 then some (.inr (0, 7600)) else none)) else (bif Nat.ble k 152 then (bif Nat.beq k 152 then some (.inr (0, 2)) else none) else (bif Nat.ble k 153 then (bif Nat.beq k 153 then some (.inr (1, 56)) else none) else (bif Nat.beq k 154 then some (.inr (3, 2)) else none)))) else (bif Nat.ble k 1001 then (bif Nat.ble k 155 then (bif Nat.beq k 155 then some (.inr (1, 1)) else none) else (bif Nat.ble k 1000 then (bif Nat.beq k 1000 then some (.inr (10, 0)) else none) else (bif Nat.beq k 1001 then some (.inr (9, 6)) else none))) else (bif Nat.ble k 1002 then (bif Nat.beq k 1002 then some (.inr (9, 4)) else none) else (bif Nat.ble k 1003 then (bif Nat.beq k 1003 then some (.inr (9, 4)) else none) else (bif Nat.beq k 1004 then some (.inr (11, 162)) else none)))))))))
def fNC : Nat := 156
def fisO (q : Option (Nat ⊕ (Nat × Nat))) (ci : Nat) : Bool := match q with
  | some (.inl c) => Nat.beq c ci
  | _ => false
def fisT (q : Option (Nat ⊕ (Nat × Nat))) (t : Nat) : Bool := match q with
  | some (.inr (c, _)) => Nat.beq c t
  | _ => false
/-- an int array: one of ours, or an old one -/
def fisI (q : Option (Nat ⊕ (Nat × Nat))) (n k : Nat) : Bool := match q with
  | some (.inr (0, _)) => Nat.blt k n
  | some (.inr (9, _)) => true
  | some (.inr (10, _)) => true
  | _ => false
def faty (t : ArrayType) : Nat := match t with
  | .int => 0
  | .long => 1
  | .byte => 2
  | .boolean => 3
  | _ => 99
/-- the kinds of a class's fields: 0 int, 1 long, 2 a reference -/
def fkin (ci : Nat) : List Nat := (bif Nat.ble ci 5 then (bif Nat.ble ci 2 then (bif Nat.ble ci 0 then (bif Nat.beq ci 0 then [2, 2, 2] else []) else (bif Nat.ble ci 1 then (bif Nat.beq ci 1 then [2, 2, 2, 2, 2, 2, 2, 0, 0, 1, 1] else []) else (bif Nat.beq ci 2 then [2, 2, 2, 2, 2, 2, 2, 2, 2, 2, 2, 2, 2, 0, 0, 0, 0, 0] else []))) else (bif Nat.ble ci 3 then (bif Nat.beq ci 3 then [2, 2, 0] else []) else (bif Nat.ble ci 4 then (bif Nat.beq ci 4 then [2, 2, 2, 0] else []) else (bif Nat.beq ci 5 then [2, 2, 2] else [])))) else (bif Nat.ble ci 8 then (bif Nat.ble ci 6 then (bif Nat.beq ci 6 then [2, 2, 2, 2, 2, 2, 2, 2, 0] else []) else (bif Nat.ble ci 7 then (bif Nat.beq ci 7 then [2, 2, 2, 2, 2, 2, 2, 2, 2, 2, 2, 2, 2, 2, 2, 0, 0, 0, 0] else []) else (bif Nat.beq ci 8 then [2, 2, 2, 2, 2, 0, 0] else []))) else (bif Nat.ble ci 10 then (bif Nat.ble ci 9 then (bif Nat.beq ci 9 then [2, 2, 2, 0, 0, 1] else []) else (bif Nat.beq ci 10 then [2, 2, 0, 0, 0, 0, 0, 0, 1, 0, 0] else [])) else (bif Nat.ble ci 11 then (bif Nat.beq ci 11 then [2, 2, 2, 2, 2, 2, 2, 2, 2, 2, 2, 2, 2, 2, 0] else []) else (bif Nat.beq ci 12 then [0, 2, 0, 0, 0, 0, 2, 2, 2, 2, 0, 0, 0, 0, 0, 0, 0, 1, 0, 0, 0, 0, 2, 2, 0, 0, 0, 0, 0, 2, 2, 0, 0, 2, 2, 2, 2, 2, 2, 0, 0, 0, 2, 2, 2, 2, 0, 0, 0, 0, 2, 0, 2, 2, 2, 2, 2, 1, 2, 2, 0, 2, 2, 2, 2, 2] else [])))))
def flenJ (J : Nat → Nat → Nat) (k : Nat) : Nat := match flay k with
  | some (.inr (10, _)) => J k 0
  | some (.inr (_, n)) => n
  | _ => 0
def fmeth_dummy : fD := (⟨"", "", ""⟩, ⟨#[]⟩, 0, none, [], [], 0, 0, [])
abbrev fmL (m : fD) : Nat := m.2.2.1
abbrev fmR (m : fD) : Option FieldType := m.2.2.2.1
abbrev fmT (m : fD) : fT := m.2.2.2.2.1
abbrev fmK (m : fD) : fK := m.2.2.2.2.2.1
abbrev fmC (m : fD) : Nat := m.2.2.2.2.2.2.1
abbrev fmS (m : fD) : Nat := m.2.2.2.2.2.2.2.1
abbrev fmH (m : fD) : List (Nat × Nat × Nat × Nat × Nat) := m.2.2.2.2.2.2.2.2
abbrev rN (P : List Prop) (f : fF) (h : fH) : fRs := some (.inl (P, f, h))
abbrev rB (c : Prop) (f1 f2 : fF) : fRs := some (.inr (.inl (c, f1, f2)))
abbrev rS (v lo : Int) (ts : List Nat) (dt : Nat) (f : fF) : fRs := some (.inr (.inr (.inl (v, lo, ts, dt, f))))
abbrev rC (P : Prop) (fc fr : fF) (x : Option (Nat × Nat)) : fRs := some (.inr (.inr (.inr (.inl (P, fc, fr, x)))))
abbrev rE (P : Prop) (o : fO) : fRs := some (.inr (.inr (.inr (.inr (P, o)))))
/-- the handler at pc for a thrown thing: the first row that covers it (and what it catches) -/
def fhan : List (Nat × Nat × Nat × Nat × Nat) → Nat → Option (Nat × Nat)
  | [], _ => none
  | (a, b, x, _, e) :: t, pc => bif Nat.ble a pc && Nat.blt pc b then some (x, e) else fhan t pc
/-- a call: the callee's frame, and this one behind it (its pc stays, its stack is what is left) -/
def fcall (fm : Nat → fD) (m : fD) (d mid pc np cu su : Nat) (ls : fL) (mid' : Nat) (as st : List fV) : fRs := match d with
  | 0 => none
  | d' + 1 => bif Nat.ble (fsum st) 8 && Nat.ble (fent as).length (fmL (fm mid')) then rC (cu + fmC (fm mid') ≤ fmC m ∧ su + fmS (fm mid') ≤ fmS m) (d', mid', 0, 0, 0, fpad (fmL (fm mid')) (fent as), []) (d' + 1, mid, np, cu, su, ls, st) (fhan (fmH m) pc) else none
def fexec (fm : Nat → fD) (m : fD) (i : Instr) (np : Nat) (tg : List Nat) (d mid pc cu su : Nat) (ls : fL) (st : List fV) (n : Nat) (J : Nat → Nat → Nat) (M : fM) : fRs := match i with
  | .iconst z => rN [] (d, mid, np, cu, su, ls, fI z :: st) (n, J, M)
  | .bipush z => rN [] (d, mid, np, cu, su, ls, fI z :: st) (n, J, M)
  | .sipush z => rN [] (d, mid, np, cu, su, ls, fI z :: st) (n, J, M)
  | .lconst z => rN [] (d, mid, np, cu, su, ls, fJ (z.val : Int) :: st) (n, J, M)
  | .ldc x => (match flk1 (fmK m) x with
    | some (7, _, _, _, z) => rN [] (d, mid, np, cu, su, ls, fI z :: st) (n, J, M)
    | some (14, k, _, _, _) => rN [] (d, mid, np, cu, su, ls, fA k :: st) (n, J, M)
    | _ => none)
  | .ldc_w x => (match flk1 (fmK m) x with
    | some (7, _, _, _, z) => rN [] (d, mid, np, cu, su, ls, fI z :: st) (n, J, M)
    | _ => none)
  | .ldc2_w x => (match flk1 (fmK m) x with
    | some (8, _, _, _, z) => rN [] (d, mid, np, cu, su, ls, fJ z :: st) (n, J, M)
    | _ => none)
  | .iload k => (match fget ls k with | some (.inl z) => rN [] (d, mid, np, cu, su, ls, fI z :: st) (n, J, M) | _ => none)
  | .iload_n k => (match fget ls k.val with | some (.inl z) => rN [] (d, mid, np, cu, su, ls, fI z :: st) (n, J, M) | _ => none)
  | .lload k => (match fget ls k with | some (.inr (.inl z)) => rN [] (d, mid, np, cu, su, ls, fJ z :: st) (n, J, M) | _ => none)
  | .lload_n k => (match fget ls k.val with | some (.inr (.inl z)) => rN [] (d, mid, np, cu, su, ls, fJ z :: st) (n, J, M) | _ => none)
  | .aload k => (match fget ls k with | some (.inr (.inr z)) => rN [] (d, mid, np, cu, su, ls, fA z :: st) (n, J, M) | _ => none)
  | .aload_n k => (match fget ls k.val with | some (.inr (.inr z)) => rN [] (d, mid, np, cu, su, ls, fA z :: st) (n, J, M) | _ => none)
  | .istore k => (match st with | .inl z :: t => bif Nat.blt k (fmL m) then rN [] (d, mid, np, cu, su, fst1 ls k (fI z), t) (n, J, M) else none | _ => none)
  | .istore_n k => (match st with | .inl z :: t => bif Nat.blt k.val (fmL m) then rN [] (d, mid, np, cu, su, fst1 ls k.val (fI z), t) (n, J, M) else none | _ => none)
  | .lstore k => (match st with | .inr (.inl z) :: t => bif Nat.blt (k + 1) (fmL m) then rN [] (d, mid, np, cu, su, fst2 ls k (fJ z), t) (n, J, M) else none | _ => none)
  | .lstore_n k => (match st with | .inr (.inl z) :: t => bif Nat.blt (k.val + 1) (fmL m) then rN [] (d, mid, np, cu, su, fst2 ls k.val (fJ z), t) (n, J, M) else none | _ => none)
  | .astore k => (match st with | .inr (.inr z) :: t => bif Nat.blt k (fmL m) then rN [] (d, mid, np, cu, su, fst1 ls k (fA z), t) (n, J, M) else none | _ => none)
  | .astore_n k => (match st with | .inr (.inr z) :: t => bif Nat.blt k.val (fmL m) then rN [] (d, mid, np, cu, su, fst1 ls k.val (fA z), t) (n, J, M) else none | _ => none)
  | .iinc k c => (match fget ls k with | some (.inl z) => bif Nat.blt k (fmL m) then rN [] (d, mid, np, cu, su, fst1 ls k (fI (fw (z + c))), st) (n, J, M) else none | _ => none)
  | .iadd => (match st with | .inl y :: .inl x :: t => rN [] (d, mid, np, cu, su, ls, fI (fw (x + y)) :: t) (n, J, M) | _ => none)
  | .isub => (match st with | .inl y :: .inl x :: t => rN [] (d, mid, np, cu, su, ls, fI (fw (x - y)) :: t) (n, J, M) | _ => none)
  | .imul => (match st with | .inl y :: .inl x :: t => rN [] (d, mid, np, cu, su, ls, fI (fw (x * y)) :: t) (n, J, M) | _ => none)
  | .idiv => (match st with | .inl y :: .inl x :: t => rN [y ≠ 0] (d, mid, np, cu, su, ls, fI (fdiv x y) :: t) (n, J, M) | _ => none)
  | .irem => (match st with | .inl y :: .inl x :: t => rN [y ≠ 0] (d, mid, np, cu, su, ls, fI (frem x y) :: t) (n, J, M) | _ => none)
  | .ineg => (match st with | .inl x :: t => rN [] (d, mid, np, cu, su, ls, fI (fw (-x)) :: t) (n, J, M) | _ => none)
  | .iand => (match st with | .inl y :: .inl x :: t => rN [] (d, mid, np, cu, su, ls, fI (fand x y) :: t) (n, J, M) | _ => none)
  | .ior => (match st with | .inl y :: .inl x :: t => rN [] (d, mid, np, cu, su, ls, fI (fior x y) :: t) (n, J, M) | _ => none)
  | .ixor => (match st with | .inl y :: .inl x :: t => rN [] (d, mid, np, cu, su, ls, fI (fxor x y) :: t) (n, J, M) | _ => none)
  | .ishl => (match st with | .inl y :: .inl x :: t => rN [] (d, mid, np, cu, su, ls, fI (fshl x y) :: t) (n, J, M) | _ => none)
  | .ishr => (match st with | .inl y :: .inl x :: t => rN [] (d, mid, np, cu, su, ls, fI (fshr x y) :: t) (n, J, M) | _ => none)
  | .iushr => (match st with | .inl y :: .inl x :: t => rN [] (d, mid, np, cu, su, ls, fI (fush x y) :: t) (n, J, M) | _ => none)
  | .ladd => (match st with | .inr (.inl y) :: .inr (.inl x) :: t => rN [] (d, mid, np, cu, su, ls, fJ (fwl (x + y)) :: t) (n, J, M) | _ => none)
  | .lsub => (match st with | .inr (.inl y) :: .inr (.inl x) :: t => rN [] (d, mid, np, cu, su, ls, fJ (fwl (x - y)) :: t) (n, J, M) | _ => none)
  | .lmul => (match st with | .inr (.inl y) :: .inr (.inl x) :: t => rN [] (d, mid, np, cu, su, ls, fJ (fwl (x * y)) :: t) (n, J, M) | _ => none)
  | .ldiv => (match st with | .inr (.inl y) :: .inr (.inl x) :: t => rN [y ≠ 0] (d, mid, np, cu, su, ls, fJ (fldv x y) :: t) (n, J, M) | _ => none)
  | .lrem => (match st with | .inr (.inl y) :: .inr (.inl x) :: t => rN [y ≠ 0] (d, mid, np, cu, su, ls, fJ (flrm x y) :: t) (n, J, M) | _ => none)
  | .lneg => (match st with | .inr (.inl x) :: t => rN [] (d, mid, np, cu, su, ls, fJ (fwl (-x)) :: t) (n, J, M) | _ => none)
  | .land => (match st with | .inr (.inl y) :: .inr (.inl x) :: t => rN [] (d, mid, np, cu, su, ls, fJ (flan x y) :: t) (n, J, M) | _ => none)
  | .lor => (match st with | .inr (.inl y) :: .inr (.inl x) :: t => rN [] (d, mid, np, cu, su, ls, fJ (flor x y) :: t) (n, J, M) | _ => none)
  | .lshl => (match st with | .inl y :: .inr (.inl x) :: t => rN [] (d, mid, np, cu, su, ls, fJ (fls x y) :: t) (n, J, M) | _ => none)
  | .lshr => (match st with | .inl y :: .inr (.inl x) :: t => rN [] (d, mid, np, cu, su, ls, fJ (flr x y) :: t) (n, J, M) | _ => none)
  | .lcmp => (match st with | .inr (.inl y) :: .inr (.inl x) :: t => rN [] (d, mid, np, cu, su, ls, fI (fcm x y) :: t) (n, J, M) | _ => none)
  | .i2l => (match st with | .inl x :: t => rN [] (d, mid, np, cu, su, ls, fJ x :: t) (n, J, M) | _ => none)
  | .l2i => (match st with | .inr (.inl x) :: t => rN [] (d, mid, np, cu, su, ls, fI (fw x) :: t) (n, J, M) | _ => none)
  | .i2b => (match st with | .inl x :: t => rN [] (d, mid, np, cu, su, ls, fI (fi2b x) :: t) (n, J, M) | _ => none)
  | .dup => (match st with | .inl x :: t => rN [] (d, mid, np, cu, su, ls, fI x :: fI x :: t) (n, J, M) | .inr (.inr x) :: t => rN [] (d, mid, np, cu, su, ls, fA x :: fA x :: t) (n, J, M) | _ => none)
  | .pop => (match st with | .inl _ :: t => rN [] (d, mid, np, cu, su, ls, t) (n, J, M) | .inr (.inr _) :: t => rN [] (d, mid, np, cu, su, ls, t) (n, J, M) | _ => none)
  | .dup2 => (match st with | .inl y :: .inr (.inr x) :: t => rN [] (d, mid, np, cu, su, ls, fI y :: fA x :: fI y :: fA x :: t) (n, J, M) | _ => none)
  | .goto _ => (match tg with | [x] => rN [] (d, mid, x, cu, su, ls, st) (n, J, M) | _ => none)
  | .ifCond c _ => (match tg, st with | [x], .inl z :: t => rB (fcd c z 0) (d, mid, x, cu, su, ls, t) (d, mid, np, cu, su, ls, t) | _, _ => none)
  | .if_icmp c _ => (match tg, st with | [x], .inl y :: .inl z :: t => rB (fcd c z y) (d, mid, x, cu, su, ls, t) (d, mid, np, cu, su, ls, t) | _, _ => none)
  | .tableswitch _ lo _ _ => (match tg, st with | x :: ts, .inl z :: t => rS z lo ts x (d, mid, np, cu, su, ls, t) | _, _ => none)
  | .getfield x => (match st, flk1 (fmK m) x with
    | .inr (.inr o) :: t, some (0, ci, k, kd, _) => bif Nat.blt o n && fisO (flay o) ci then (match kd with
      | 0 => rN [] (d, mid, np, cu, su, ls, fI (M o k) :: t) (n, J, M)
      | 1 => rN [] (d, mid, np, cu, su, ls, fJ (M o k) :: t) (n, J, M)
      | _ => (match J o k with | 0 => none | q + 1 => bif Nat.blt q n then rN [] (d, mid, np, cu, su, ls, fA q :: t) (n, J, M) else none)) else none
    | _, _ => none)
  | .putfield x => (match st, flk1 (fmK m) x with
    | .inl z :: .inr (.inr o) :: t, some (0, ci, k, 0, _) => bif Nat.blt o n && fisO (flay o) ci then rN [] (d, mid, np, cu, su, ls, t) (n, J, fup M o k z) else none
    | .inr (.inl z) :: .inr (.inr o) :: t, some (0, ci, k, 1, _) => bif Nat.blt o n && fisO (flay o) ci then rN [] (d, mid, np, cu, su, ls, t) (n, J, fup M o k z) else none
    | .inr (.inr q) :: .inr (.inr o) :: t, some (0, ci, k, _ + 2, _) => bif Nat.blt o n && fisO (flay o) ci && Nat.blt q n then rN [] (d, mid, np, cu, su, ls, t) (n, fupN J o k (q + 1), M) else none
    | _, _ => none)
  | .getstatic x => (match flk1 (fmK m) x with
    | some (9, k, _, _, _) => rN [] (d, mid, np, cu, su, ls, fA k :: st) (n, J, M)
    | _ => none)
  | .iaload => (match st with | .inl z :: .inr (.inr o) :: t => bif fisI (flay o) n o then rN [0 ≤ z ∧ z < flenJ J o] (d, mid, np, cu, su, ls, fI (M o z.toNat) :: t) (n, J, M) else none | _ => none)
  | .baload => (match st with | .inl z :: .inr (.inr o) :: t => bif Nat.blt o n && (fisT (flay o) 2 || fisT (flay o) 3) then rN [0 ≤ z ∧ z < flenJ J o] (d, mid, np, cu, su, ls, fI (M o z.toNat) :: t) (n, J, M) else none | _ => none)
  | .laload => (match st with | .inl z :: .inr (.inr o) :: t => bif Nat.blt o n && fisT (flay o) 1 then rN [0 ≤ z ∧ z < flenJ J o] (d, mid, np, cu, su, ls, fJ (M o z.toNat) :: t) (n, J, M) else none | _ => none)
  | .aaload => (match st with | .inl z :: .inr (.inr o) :: t => bif Nat.blt o n && (fisT (flay o) 4 || fisT (flay o) 5) then (match J o z.toNat with | 0 => none | q + 1 => bif Nat.blt q n then rN [0 ≤ z ∧ z < flenJ J o] (d, mid, np, cu, su, ls, fA q :: t) (n, J, M) else none) else none | _ => none)
  | .iastore => (match st with | .inl v :: .inl z :: .inr (.inr o) :: t => bif Nat.blt o n && fisT (flay o) 0 then rN [0 ≤ z ∧ z < flenJ J o] (d, mid, np, cu, su, ls, t) (n, J, fup M o z.toNat v) else none | _ => none)
  | .bastore => (match st with | .inl v :: .inl z :: .inr (.inr o) :: t => bif Nat.blt o n && fisT (flay o) 2 then rN [0 ≤ z ∧ z < flenJ J o] (d, mid, np, cu, su, ls, t) (n, J, fup M o z.toNat (fi2b v)) else bif Nat.blt o n && fisT (flay o) 3 then rN [0 ≤ z ∧ z < flenJ J o] (d, mid, np, cu, su, ls, t) (n, J, fup M o z.toNat (fand v 1)) else none | _ => none)
  | .lastore => (match st with | .inr (.inl v) :: .inl z :: .inr (.inr o) :: t => bif Nat.blt o n && fisT (flay o) 1 then rN [0 ≤ z ∧ z < flenJ J o] (d, mid, np, cu, su, ls, t) (n, J, fup M o z.toNat v) else none | _ => none)
  | .aastore => (match st with | .inr (.inr q) :: .inl z :: .inr (.inr o) :: t => bif Nat.blt o n && Nat.blt q n && ((fisT (flay o) 4 && fisO (flay q) 2) || (fisT (flay o) 5 && fisO (flay q) 6)) then rN [0 ≤ z ∧ z < flenJ J o] (d, mid, np, cu, su, ls, t) (n, fupN J o z.toNat (q + 1), M) else none | _ => none)
  | .arraylength => (match st with | .inr (.inr o) :: t => bif fisI (flay o) n o then rN [] (d, mid, np, cu, su, ls, fI (flenJ J o) :: t) (n, J, M) else none | _ => none)
  | .new x => (match flk1 (fmK m) x with
    | some (5, ci, ns, _, _) => bif Nat.blt n fNC && fisO (flay n) ci then rN [cu + 1 ≤ fmC m ∧ su + ns ≤ fmS m] (d, mid, np, cu + 1, su + ns, ls, fA n :: st) (n + 1, fclN J n, fclr M n) else none
    | some (6, e, _, _, _) => bif Nat.ble (fsum st) 8 && Nat.ble fNC n && Nat.blt e 2 then rE (7 ≤ d ∧ cu = 0 ∧ su = 0) (.inr e) else none
    | _ => none)
  | .newarray ty => (match st with | .inl z :: t => bif Nat.blt n fNC && fisT (flay n) (faty ty) then rN [z = flenJ J n ∧ cu + 1 ≤ fmC m ∧ su + flenJ J n ≤ fmS m] (d, mid, np, cu + 1, su + flenJ J n, ls, fA n :: t) (n + 1, fclN J n, fclr M n) else none | _ => none)
  | .anewarray x => (match st, flk1 (fmK m) x with | .inl z :: t, some (5, _, _, ty, _) => bif Nat.blt n fNC && fisT (flay n) ty && (Nat.beq ty 4 || Nat.beq ty 5) then rN [z = flenJ J n ∧ cu + 1 ≤ fmC m ∧ su + flenJ J n ≤ fmS m] (d, mid, np, cu + 1, su + flenJ J n, ls, fA n :: t) (n + 1, fclN J n, fclr M n) else none | _, _ => none)
  | .invokevirtual x => (match flk1 (fmK m) x with
    | some (1, q, na, ci, _) => (match fpop na st [] with
      | some (as, .inr (.inr o) :: t) => bif Nat.blt o n && fisO (flay o) ci then fcall fm m d mid pc np cu su ls q (fA o :: as) t else none
      | _ => none)
    | some (12, _, _, _, _) => (match st with | .inr (.inr o) :: t => bif fisT (flay o) 11 && Nat.ble (fsum t) 8 then rN [4 ≤ d ∧ cu ≤ fmC m ∧ su ≤ fmS m] (d, mid, np, cu, su, ls, fI (flenJ J o) :: t) (n, J, M) else none | _ => none)
    | some (13, _, _, _, _) => (match st with | .inl z :: .inr (.inr o) :: t => bif fisT (flay o) 11 && Nat.ble (fsum t) 8 then rN [4 ≤ d ∧ cu ≤ fmC m ∧ su ≤ fmS m, 0 ≤ z ∧ z < flenJ J o] (d, mid, np, cu, su, ls, fI (M o z.toNat) :: t) (n, J, M) else none | _ => none)
    | _ => none)
  | .invokestatic x => (match flk1 (fmK m) x with
    | some (2, q, na, _, _) => (match fpop na st [] with | some (as, t) => fcall fm m d mid pc np cu su ls q as t | none => none)
    | some (15, q, na, _, _) => (match fpop na st [] with | some (as, t) => fcall fm m d mid pc np cu su ls q as t | none => none)
    | some (10, _, _, _, _) => (match st with
      | .inl c :: .inl j :: .inr (.inr q) :: .inl i :: .inr (.inr o) :: t => bif Nat.ble (fsum t) 8 && Nat.blt q n && ((fisI (flay o) n o && fisT (flay q) 0) || (Nat.blt o n && fisT (flay o) 1 && fisT (flay q) 1)) then rN [1 ≤ d, 0 ≤ i ∧ 0 ≤ j ∧ 0 ≤ c ∧ i + c ≤ flenJ J o ∧ j + c ≤ flenJ J q ∧ o ≠ q] (d, mid, np, cu, su, ls, t) (n, J, fcpy M o i.toNat q j.toNat c.toNat) else none
      | _ => none)
    | _ => none)
  | .invokespecial x => (match flk1 (fmK m) x with
    | some (3, q, na, ci, _) => (match fpop na st [] with
      | some (as, .inr (.inr o) :: t) => bif Nat.blt o n && fisO (flay o) ci then fcall fm m d mid pc np cu su ls q (fA o :: as) t else none
      | _ => none)
    | some (16, q, na, ci, _) => (match fpop na st [] with
      | some (as, .inr (.inr o) :: t) => bif Nat.blt o n && fisO (flay o) ci then fcall fm m d mid pc np cu su ls q (fA o :: as) t else none
      | _ => none)
    | some (4, _, _, _, _) => (match st with | .inr (.inr _) :: t => bif Nat.ble (fsum t) 7 then rN [1 ≤ d] (d, mid, np, cu, su, ls, t) (n, J, M) else none | _ => none)
    | _ => none)
  | .ireturn => (match st with
    | [.inl z] => (match fmR m with
      | some .int => rE (cu ≤ fmC m ∧ su ≤ fmS m ∧ (n < fNC → cu = fmC m)) (.inl (some (fI z)))
      | some .boolean => rE ((z = 0 ∨ z = 1) ∧ cu ≤ fmC m ∧ su ≤ fmS m ∧ (n < fNC → cu = fmC m)) (.inl (some (fI z)))
      | _ => none)
    | _ => none)
  | .lreturn => (match st, fmR m with | [.inr (.inl z)], some .long => rE (cu ≤ fmC m ∧ su ≤ fmS m ∧ (n < fNC → cu = fmC m)) (.inl (some (fJ z))) | _, _ => none)
  | .return_ => (match st, fmR m with | [], none => rE (cu ≤ fmC m ∧ su ≤ fmS m ∧ (n < fNC → cu = fmC m)) (.inl none) | _, _ => none)
  | _ => none
def fstep (fm : Nat → fD) (f : fF) (h : fH) : fRs := match f, h with
  | (d, mid, pc, cu, su, ls, st), (n, J, M) => match flk2 (fmT (fm mid)) pc with
    | none => none
    | some (i, np, tg) => fexec fm (fm mid) i np tg d mid pc cu su ls st n J M
def fsw (K : Nat → Prop) (v : Int) : Int → List Nat → Nat → Prop
  | _, [], dt => K dt
  | lo, x :: ts, dt => (v = lo → K x) ∧ (¬ v = lo → fsw K v (lo + 1) ts dt)
abbrev fpc (f : fF) (pc : Nat) : fF := (f.1, f.2.1, pc, f.2.2.2)
/-- behind a call: the caller's frame fr goes on with what came; hd: the handler there -/
def fbk (fm : Nat → fD) (K : fF → fH → Prop) (Q : fO → fH → Prop) (q : Nat) (fr : fF) (hd : Option (Nat × Nat)) : fO → fH → Prop := fun o h => match fr with
  | (d, mid, pc, cu, su, ls, st) => match o with
    | .inl v => K (d, mid, pc, cu + fmC (fm q), su + fmS (fm q), ls, v.toList ++ st) h
    | .inr e => match hd with
      | none => (cu = 0 ∧ su = 0) ∧ Q (.inr e) h
      | some (x, e0) => (e = e0 ∧ cu + 1 ≤ fmC (fm mid) ∧ su + 6 ≤ fmS (fm mid)) ∧ K (d, mid, x, cu + 1, su + 6, ls, [fA 9999]) h
def fwp (fm : Nat → fD) : Nat → fF → fH → (fO → fH → Prop) → Prop
  | 0, _, _, _ => False
  | n + 1, f, h, Q => match fstep fm f h with
    | none => False
    | some (.inl (P, f', h')) => fall P ∧ fwp fm n f' h' Q
    | some (.inr (.inl (c, f1, f2))) => (c → fwp fm n f1 h Q) ∧ (¬ c → fwp fm n f2 h Q)
    | some (.inr (.inr (.inl (v, lo, ts, dt, f')))) => fsw (fun x => fwp fm n (fpc f' x) h Q) v lo ts dt
    | some (.inr (.inr (.inr (.inl (P, fc, fr, hd))))) => P ∧ fwp fm n fc h (fbk fm (fun f h => fwp fm n f h Q) Q fc.2.1 fr hd)
    | some (.inr (.inr (.inr (.inr (P, o))))) => P ∧ Q o h

