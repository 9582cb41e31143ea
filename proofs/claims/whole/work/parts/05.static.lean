/-! WHAT IS STATIC behind the making: how many of each kind, how long the rows are, which references the fields and rows hold -/
def CNT : Nat → Nat := fun c => match c with
  | 0 => 28 | 1 => 8 | 2 => 1 | 3 => 2 | 4 => 23 | 5 => 3 | 6 => 1 | 7 => 1
  | 20 => 8 | 21 => 1 | 22 => 3 | 23 => 1 | 24 => 3 | 25 => 1 | 26 => 1
  | 40 => 3 | 41 => 2 | 42 => 2 | 43 => 8 | 44 => 9 | 45 => 1 | 46 => 1 | 47 => 1 | 48 => 1
  | 50 => 1 | 51 => 1 | 52 => 1 | 53 => 1 | 54 => 1 | 55 => 1 | 56 => 1 | 57 => 1 | 58 => 1 | 59 => 1 | 60 => 1 | 61 => 1 | 62 => 3 | 65 => 1 | 66 => 1 | 67 => 1 | 68 => 1
  | _ => 0
def LEN (n : Nat) : Nat → Nat → Nat := fun c i => match c with
  | 20 => 40 | 21 => 320 | 22 => 8 | 23 => 8 | 24 => 6 | 25 => 8 | 26 => 9
  | 30 => [5, 6, 6, 7, 4, 3, 6, 6, 5, 7, 4, 3].getD i 0 | 32 => 6 | 33 => n
  | 40 => 30 | 41 => 61 | 42 => 61 | 43 => 6 | 44 => 64 | 45 => 250 | 46 => 4 | 47 => 5 | 48 => 8
  | 50 => 30 | 51 => 2 | 52 => 9 | 53 => 9 | 54 => 9 | 55 => 9 | 56 => 9 | 57 => 18 | 58 => 250 | 59 => 8 | 60 => 8 | 61 => 7 | 62 => 102 | 65 => 48 | 66 => 8 | 67 => 8 | 68 => 30
  | _ => 0
def RF : Nat → Nat → Nat → Option (Nat × Nat) := fun c i k => match c with
  | 1 => some (20, i)
  | 2 => (match k with | 2 => some (45, 0) | _ => some (46, 0))
  | 3 => (match k with | 0 => some (41, i) | _ => some (42, i))
  | 5 => (match k with | 7 => some (40, i) | 8 => some (22, i) | 9 => some (24, i) | 10 => some (0, 9 * i) | _ => some (4, 7 * i))
  | 6 => (match k with | 0 => some (5, 0) | 1 => some (5, 1) | 2 => some (5, 2) | 4 => some (23, 0) | 5 => some (2, 0) | 6 => some (47, 0) | 7 => some (3, 0) | 8 => some (3, 1) | 9 => some (0, 27) | 10 => some (4, 21) | 11 => some (4, 22) | 12 => some (48, 0) | 13 => some (25, 0) | _ => some (26, 0))
  | 7 => (match k with | 1 => some (50, 0) | 2 => some (51, 0) | 5 => some (52, 0) | 6 => some (53, 0) | 7 => some (54, 0) | 8 => some (55, 0) | 9 => some (56, 0) | 11 => some (57, 0) | 14 => some (58, 0) | 19 => some (59, 0) | 20 => some (60, 0) | 21 => some (21, 0) | 22 => some (61, 0) | 24 => some (62, 0) | 25 => some (62, 1) | 26 => some (62, 2) | 27 => some (65, 0) | 28 => some (66, 0) | 29 => some (67, 0) | _ => some (68, 0))
  | 22 => some (0, 9 * i + 1 + k)
  | 23 => some (1, k)
  | 24 => some (4, 7 * i + 1 + k)
  | 25 => some (43, k)
  | 26 => some (44, k)
  | 31 => some (30, i)
  | _ => none
def ST0 (n : Nat) : ST := (CNT, LEN n, RF, 132, 3028)
