abbrev classes : List vw_C := vwCl
def th_tys (cA : Nat → ClassId) : List (ClassId × FieldType) := [(cA 0, .int), (cA 1, .boolean), (cA 2, .object "BayMoorings$Buoy"), (cA 3, .object "BayMoorings$Boat")]
def th_key (c k : Nat) : Nat := if c < 20 then c * 100 + k else c * 100
/-- what a cell of a code holds -/
def th_E (cA : Nat → ClassId) (c : Nat) (f : Nat → Int32) (r : Nat → Option Nat) : va_E := match c with
  | 1 => .inr (0, [va_rf (r 0), va_rf (r 1), va_rf (r 2), va_rf (r 3), va_rf (r 4), .int (f 5), .int (f 6), .int (f 7), .int (f 8)])
  | 2 => .inr (1, [va_rf (r 0), va_rf (r 1)])
  | 3 => .inr (2, [.int (f 0), .int (f 1), .int (f 2), .int (f 3), .int (f 4), va_rf (r 5), .int (f 6), .int (f 7)])
  | 4 => .inr (3, [.int (f 0), .int (f 1), .int (f 2), va_rf (r 3), .int (f 4), .int (f 5)])
  | 5 => .inr (4, [va_rf (r 0), va_rf (r 1), .int (f 2)])
  | 6 => .inr (5, [va_rf (r 0), va_rf (r 1), va_rf (r 2), .int (f 3)])
  | 7 => .inr (6, [va_rf (r 0), va_rf (r 1), .int (f 2), va_rf (r 3), va_rf (r 4), va_rf (r 5), va_rf (r 6), .int (f 7)])
  | 8 => .inr (7, [.int (f 0), .int (f 1), .int (f 2), va_rf (r 3), .int (f 4), .int (f 5)])
  | 9 => .inr (8, [.int (f 0), .int (f 1), .int (f 2), va_rf (r 3), .int (f 4), .int (f 5)])
  | 10 => .inr (9, [va_rf (r 0), va_rf (r 1), .int (f 2)])
  | 11 => .inr (10, [va_rf (r 0), va_rf (r 1), va_rf (r 2), va_rf (r 3), va_rf (r 4), va_rf (r 5), va_rf (r 6), .int (f 7), .int (f 8), .int (f 9)])
  | 12 => .inr (11, [.int (f 0), va_rf (r 1), va_rf (r 2), va_rf (r 3), va_rf (r 4), va_rf (r 5), va_rf (r 6), va_rf (r 7), .int (f 8), va_rf (r 9), va_rf (r 10), va_rf (r 11), va_rf (r 12), va_rf (r 13), .int (f 14), va_rf (r 15), va_rf (r 16), .int (f 17), va_rf (r 18), va_rf (r 19), .int (f 20), va_rf (r 21), va_rf (r 22), .int (f 23), .int (f 24), va_rf (r 25), va_rf (r 26), .int (f 27), va_rf (r 28), va_rf (r 29), va_rf (r 30), va_rf (r 31), va_rf (r 32), .int (f 33), va_rf (r 34), va_rf (r 35), va_rf (r 36), va_rf (r 37)])
  | 20 => .inl (cA 2, 12, .inr (.inr (.inr (.inr r))))
  | 21 => .inl (cA 3, 16, .inr (.inr (.inr (.inr r))))
  | 22 => .inl (cA 0, 24, .inl f)
  | 23 => .inl (cA 1, 24, .inl f)
  | 24 => .inl (cA 0, 16, .inl f)
  | 25 => .inl (cA 0, 12, .inl f)
  | 26 => .inl (cA 0, 24, .inl f)
  | 27 => .inl (cA 0, 4, .inl f)
  | 28 => .inl (cA 0, 16, .inl f)
  | 29 => .inl (cA 0, 16, .inl f)
  | 30 => .inl (cA 3, 5, .inr (.inr (.inr (.inr r))))
  | 31 => .inl (cA 0, 30, .inl f)
  | 32 => .inl (cA 0, 300, .inl f)
  | 33 => .inl (cA 0, 5, .inl f)
  | 34 => .inl (cA 0, 5, .inl f)
  | 35 => .inl (cA 0, 10, .inl f)
  | 36 => .inl (cA 0, 6, .inl f)
  | 37 => .inl (cA 0, 24, .inl f)
  | 40 => .inl (cA 0, 12, .inl f)
  | 41 => .inl (cA 0, 12, .inl f)
  | 42 => .inl (cA 0, 12, .inl f)
  | 43 => .inl (cA 0, 12, .inl f)
  | 44 => .inl (cA 0, 12, .inl f)
  | 45 => .inl (cA 0, 12, .inl f)
  | 46 => .inl (cA 0, 12, .inl f)
  | 47 => .inl (cA 0, 16, .inl f)
  | 48 => .inl (cA 0, 16, .inl f)
  | 49 => .inl (cA 0, 16, .inl f)
  | 50 => .inl (cA 0, 16, .inl f)
  | 51 => .inl (cA 0, 24, .inl f)
  | 52 => .inl (cA 0, 8, .inl f)
  | 53 => .inl (cA 0, 8, .inl f)
  | 54 => .inl (cA 0, 10, .inl f)
  | 55 => .inl (cA 0, 16, .inl f)
  | 56 => .inl (cA 0, 16, .inl f)
  | 57 => .inl (cA 0, 64, .inl f)
  | 58 => .inl (cA 0, 24, .inl f)
  | 59 => .inl (cA 0, 6, .inl f)
  | 60 => .inl (cA 0, 5, .inl f)
  | 61 => .inl (cA 0, 5, .inl f)
  | 62 => .inl (cA 0, 6, .inl f)
  | 63 => .inl (cA 0, 5, .inl f)
  | 64 => .inl (cA 0, 300, .inl f)
  | 65 => .inl (cA 0, 16, .inl f)
  | 66 => .inl (cA 1, 16, .inl f)
  | 67 => .inl (cA 0, 16, .inl f)
  | 68 => .inl (cA 0, 16, .inl f)
  | _ => .inl (cA 0, 0, .inl f)
/-- what holds of it at all times -/
def th_I (c : Nat) (τ : Nat → Nat) (f : Nat → Int32) (r : Nat → Option Nat) : Prop := match c with
  | 1 => (∃ q, r 0 = some q ∧ τ q = 20) ∧ (∃ q, r 1 = some q ∧ τ q = 21) ∧ (∃ q, r 2 = some q ∧ τ q = 22) ∧ (∃ q, r 3 = some q ∧ τ q = 23) ∧ (∃ q, r 4 = some q ∧ τ q = 2) ∧ rg 0 12 (f 5) ∧ rg 0 16 (f 6)
  | 2 => (∃ q, r 0 = some q ∧ τ q = 24) ∧ (∃ q, r 1 = some q ∧ τ q = 25)
  | 3 => (∃ q, r 5 = some q ∧ τ q = 26)
  | 4 => (∃ q, r 3 = some q ∧ τ q = 27) ∧ rg 0 4 (f 4)
  | 5 => (∃ q, r 0 = some q ∧ τ q = 1) ∧ (∃ q, r 1 = some q ∧ τ q = 2)
  | 6 => (∃ q, r 0 = some q ∧ τ q = 1) ∧ (∃ q, r 1 = some q ∧ τ q = 28) ∧ (∃ q, r 2 = some q ∧ τ q = 29)
  | 7 => (∃ q, r 0 = some q ∧ τ q = 1) ∧ (∃ q, r 1 = some q ∧ τ q = 30) ∧ rg 0 5 (f 2) ∧ (∃ q, r 3 = some q ∧ τ q = 31) ∧ (∃ q, r 4 = some q ∧ τ q = 32) ∧ (∃ q, r 5 = some q ∧ τ q = 33) ∧ (∃ q, r 6 = some q ∧ τ q = 34)
  | 8 => (∃ q, r 3 = some q ∧ τ q = 27) ∧ rg 0 4 (f 4)
  | 9 => (∃ q, r 3 = some q ∧ τ q = 27) ∧ rg 0 4 (f 4)
  | 10 => (∃ q, r 0 = some q ∧ τ q = 1) ∧ (∃ q, r 1 = some q ∧ τ q = 35) ∧ rg 0 10 (f 2)
  | 11 => (∃ q, r 0 = some q ∧ τ q = 1) ∧ (∃ q, r 1 = some q ∧ τ q = 10) ∧ (∃ q, r 2 = some q ∧ τ q = 7) ∧ (∃ q, r 3 = some q ∧ τ q = 6) ∧ (∃ q, r 4 = some q ∧ τ q = 5) ∧ (∃ q, r 5 = some q ∧ τ q = 36) ∧ (∃ q, r 6 = some q ∧ τ q = 37) ∧ rg 0 24 (f 7) ∧ rg 0 1 (f 9)
  | 12 => rg 0 12 (f 0) ∧ (∃ q, r 1 = some q ∧ τ q = 40) ∧ (∃ q, r 2 = some q ∧ τ q = 41) ∧ (∃ q, r 3 = some q ∧ τ q = 42) ∧ (∃ q, r 4 = some q ∧ τ q = 43) ∧ (∃ q, r 5 = some q ∧ τ q = 44) ∧ (∃ q, r 6 = some q ∧ τ q = 45) ∧ (∃ q, r 7 = some q ∧ τ q = 46) ∧ rg 0 16 (f 8) ∧ (∃ q, r 9 = some q ∧ τ q = 47) ∧ (∃ q, r 10 = some q ∧ τ q = 48) ∧ (∃ q, r 11 = some q ∧ τ q = 49) ∧ (∃ q, r 12 = some q ∧ τ q = 50) ∧ (∃ q, r 13 = some q ∧ τ q = 51) ∧ (∃ q, r 15 = some q ∧ τ q = 52) ∧ (∃ q, r 16 = some q ∧ τ q = 53) ∧ rg 0 10 (f 17) ∧ (∃ q, r 18 = some q ∧ τ q = 54) ∧ (∃ q, r 19 = some q ∧ τ q = 55) ∧ (∃ q, r 21 = some q ∧ τ q = 56) ∧ (∃ q, r 22 = some q ∧ τ q = 57) ∧ rg 0 24 (f 24) ∧ (∃ q, r 25 = some q ∧ τ q = 58) ∧ (∃ q, r 26 = some q ∧ τ q = 59) ∧ rg 0 5 (f 27) ∧ (∃ q, r 28 = some q ∧ τ q = 60) ∧ (∃ q, r 29 = some q ∧ τ q = 61) ∧ (∃ q, r 30 = some q ∧ τ q = 62) ∧ (∃ q, r 31 = some q ∧ τ q = 63) ∧ (∃ q, r 32 = some q ∧ τ q = 64) ∧ (∃ q, r 34 = some q ∧ τ q = 65) ∧ (∃ q, r 35 = some q ∧ τ q = 66) ∧ (∃ q, r 36 = some q ∧ τ q = 67) ∧ (∃ q, r 37 = some q ∧ τ q = 68)
  | 20 => ∀ j, j < 12 → ∀ q, r j = some q → τ q = 3
  | 21 => ∀ j, j < 16 → ∀ q, r j = some q → τ q = 8 ∨ τ q = 9 ∨ τ q = 4
  | 22 => True
  | 23 => ∀ j, j < 24 → rg 0 1 (f j)
  | 24 => True
  | 25 => True
  | 26 => True
  | 27 => True
  | 28 => True
  | 29 => True
  | 30 => ∀ j, j < 5 → ∀ q, r j = some q → τ q = 8 ∨ τ q = 9 ∨ τ q = 4
  | 31 => True
  | 32 => True
  | 33 => True
  | 34 => True
  | 35 => True
  | 36 => True
  | 37 => True
  | 40 => True
  | 41 => True
  | 42 => ∀ j, j < 12 → rg 0 300 (f j)
  | 43 => ∀ j, j < 12 → rg 0 400 (f j)
  | 44 => True
  | 45 => True
  | 46 => ∀ j, j < 12 → rg (-1) 15 (f j)
  | 47 => True
  | 48 => True
  | 49 => True
  | 50 => ∀ j, j < 16 → rg (-1) 11 (f j)
  | 51 => ∀ j, j < 24 → rg 0 200 (f j)
  | 52 => True
  | 53 => True
  | 54 => ∀ j, j < 10 → rg 0 15 (f j)
  | 55 => True
  | 56 => ∀ j, j < 16 → rg 0 4 (f j)
  | 57 => ∀ j, j < 64 → rg 0 11 (f j)
  | 58 => True
  | 59 => True
  | 60 => ∀ j, j < 5 → rg 0 15 (f j)
  | 61 => True
  | 62 => ∀ j, j < 6 → rg (-1) 13 (f j)
  | 63 => True
  | 64 => True
  | 65 => ∀ j, j < 16 → rg (-1) 11 (f j)
  | 66 => ∀ j, j < 16 → rg 0 1 (f j)
  | 67 => ∀ j, j < 16 → rg 0 15 (f j)
  | 68 => ∀ j, j < 16 → rg (-1) 11 (f j)
  | _ => False
