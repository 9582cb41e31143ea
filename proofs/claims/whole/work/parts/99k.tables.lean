/-! THE START: what the tables of the references and lengths hold -/
theorem LEN_q {q : Nat} : ∀ (c : Nat), c < 70 → ¬ c = 33 → ∀ i, LEN q c i = LEN 0 c i
  | 0, _, _, _ => rfl
  | 1, _, _, _ => rfl
  | 2, _, _, _ => rfl
  | 3, _, _, _ => rfl
  | 4, _, _, _ => rfl
  | 5, _, _, _ => rfl
  | 6, _, _, _ => rfl
  | 7, _, _, _ => rfl
  | 8, _, _, _ => rfl
  | 9, _, _, _ => rfl
  | 10, _, _, _ => rfl
  | 11, _, _, _ => rfl
  | 12, _, _, _ => rfl
  | 13, _, _, _ => rfl
  | 14, _, _, _ => rfl
  | 15, _, _, _ => rfl
  | 16, _, _, _ => rfl
  | 17, _, _, _ => rfl
  | 18, _, _, _ => rfl
  | 19, _, _, _ => rfl
  | 20, _, _, _ => rfl
  | 21, _, _, _ => rfl
  | 22, _, _, _ => rfl
  | 23, _, _, _ => rfl
  | 24, _, _, _ => rfl
  | 25, _, _, _ => rfl
  | 26, _, _, _ => rfl
  | 27, _, _, _ => rfl
  | 28, _, _, _ => rfl
  | 29, _, _, _ => rfl
  | 30, _, _, _ => rfl
  | 31, _, _, _ => rfl
  | 32, _, _, _ => rfl
  | 33, _, h, _ => absurd rfl h
  | 34, _, _, _ => rfl
  | 35, _, _, _ => rfl
  | 36, _, _, _ => rfl
  | 37, _, _, _ => rfl
  | 38, _, _, _ => rfl
  | 39, _, _, _ => rfl
  | 40, _, _, _ => rfl
  | 41, _, _, _ => rfl
  | 42, _, _, _ => rfl
  | 43, _, _, _ => rfl
  | 44, _, _, _ => rfl
  | 45, _, _, _ => rfl
  | 46, _, _, _ => rfl
  | 47, _, _, _ => rfl
  | 48, _, _, _ => rfl
  | 49, _, _, _ => rfl
  | 50, _, _, _ => rfl
  | 51, _, _, _ => rfl
  | 52, _, _, _ => rfl
  | 53, _, _, _ => rfl
  | 54, _, _, _ => rfl
  | 55, _, _, _ => rfl
  | 56, _, _, _ => rfl
  | 57, _, _, _ => rfl
  | 58, _, _, _ => rfl
  | 59, _, _, _ => rfl
  | 60, _, _, _ => rfl
  | 61, _, _, _ => rfl
  | 62, _, _, _ => rfl
  | 63, _, _, _ => rfl
  | 64, _, _, _ => rfl
  | 65, _, _, _ => rfl
  | 66, _, _, _ => rfl
  | 67, _, _, _ => rfl
  | 68, _, _, _ => rfl
  | 69, _, _, _ => rfl
  | n + 70, h, _, _ => absurd h (by omega)
theorem RF_none : ∀ (c : Nat), c < 70 → 8 ≤ c → isW c = true → isRA c = false → ∀ i k, RF c i k = none
  | 0, _, h, _, _, _, _ => absurd h (by decide)
  | 1, _, h, _, _, _, _ => absurd h (by decide)
  | 2, _, h, _, _, _, _ => absurd h (by decide)
  | 3, _, h, _, _, _, _ => absurd h (by decide)
  | 4, _, h, _, _, _, _ => absurd h (by decide)
  | 5, _, h, _, _, _, _ => absurd h (by decide)
  | 6, _, h, _, _, _, _ => absurd h (by decide)
  | 7, _, h, _, _, _, _ => absurd h (by decide)
  | 8, _, _, h, _, _, _ => absurd h (by decide)
  | 9, _, _, h, _, _, _ => absurd h (by decide)
  | 10, _, _, h, _, _, _ => absurd h (by decide)
  | 11, _, _, h, _, _, _ => absurd h (by decide)
  | 12, _, _, h, _, _, _ => absurd h (by decide)
  | 13, _, _, h, _, _, _ => absurd h (by decide)
  | 14, _, _, h, _, _, _ => absurd h (by decide)
  | 15, _, _, h, _, _, _ => absurd h (by decide)
  | 16, _, _, h, _, _, _ => absurd h (by decide)
  | 17, _, _, h, _, _, _ => absurd h (by decide)
  | 18, _, _, h, _, _, _ => absurd h (by decide)
  | 19, _, _, h, _, _, _ => absurd h (by decide)
  | 20, _, _, _, _, _, _ => rfl
  | 21, _, _, _, _, _, _ => rfl
  | 22, _, _, _, h, _, _ => absurd h (by decide)
  | 23, _, _, _, h, _, _ => absurd h (by decide)
  | 24, _, _, _, h, _, _ => absurd h (by decide)
  | 25, _, _, _, h, _, _ => absurd h (by decide)
  | 26, _, _, _, h, _, _ => absurd h (by decide)
  | 27, _, _, h, _, _, _ => absurd h (by decide)
  | 28, _, _, h, _, _, _ => absurd h (by decide)
  | 29, _, _, h, _, _, _ => absurd h (by decide)
  | 30, _, _, h, _, _, _ => absurd h (by decide)
  | 31, _, _, h, _, _, _ => absurd h (by decide)
  | 32, _, _, h, _, _, _ => absurd h (by decide)
  | 33, _, _, h, _, _, _ => absurd h (by decide)
  | 34, _, _, h, _, _, _ => absurd h (by decide)
  | 35, _, _, h, _, _, _ => absurd h (by decide)
  | 36, _, _, h, _, _, _ => absurd h (by decide)
  | 37, _, _, h, _, _, _ => absurd h (by decide)
  | 38, _, _, h, _, _, _ => absurd h (by decide)
  | 39, _, _, h, _, _, _ => absurd h (by decide)
  | 40, _, _, _, _, _, _ => rfl
  | 41, _, _, _, _, _, _ => rfl
  | 42, _, _, _, _, _, _ => rfl
  | 43, _, _, _, _, _, _ => rfl
  | 44, _, _, _, _, _, _ => rfl
  | 45, _, _, _, _, _, _ => rfl
  | 46, _, _, _, _, _, _ => rfl
  | 47, _, _, _, _, _, _ => rfl
  | 48, _, _, _, _, _, _ => rfl
  | 49, _, _, _, _, _, _ => rfl
  | 50, _, _, _, _, _, _ => rfl
  | 51, _, _, _, _, _, _ => rfl
  | 52, _, _, _, _, _, _ => rfl
  | 53, _, _, _, _, _, _ => rfl
  | 54, _, _, _, _, _, _ => rfl
  | 55, _, _, _, _, _, _ => rfl
  | 56, _, _, _, _, _, _ => rfl
  | 57, _, _, _, _, _, _ => rfl
  | 58, _, _, _, _, _, _ => rfl
  | 59, _, _, _, _, _, _ => rfl
  | 60, _, _, _, _, _, _ => rfl
  | 61, _, _, _, _, _, _ => rfl
  | 62, _, _, _, _, _, _ => rfl
  | 63, _, _, _, _, _, _ => rfl
  | 64, _, _, _, _, _, _ => rfl
  | 65, _, _, _, _, _, _ => rfl
  | 66, _, _, _, _, _, _ => rfl
  | 67, _, _, _, _, _, _ => rfl
  | 68, _, _, _, _, _, _ => rfl
  | 69, _, _, h, _, _, _ => absurd h (by decide)
  | n + 70, h, _, _, _, _, _ => absurd h (by omega)
theorem RF_ra : ((List.range 5).all fun c => (List.range (CNT (22 + c))).all fun i => (List.range (LEN 0 (22 + c) i)).all fun k => match RF (22 + c) i k with
  | some z => isW z.1 && Nat.blt z.2 (CNT z.1)
  | none => true) = true := by decide +kernel
theorem RF_obj {i k : Nat} {z : Nat × Nat} : ∀ (c : Nat), c < 8 → i < CNT c → RF c i k = some z → isW z.1 = true ∧ z.2 < CNT z.1
  | 0, _, _, h => by
    have h : (none : Option (Nat × Nat)) = some z := h
    cases h
  | 1, _, hi, h => by
    have h : some (20, i) = some z := h
    cases h
    exact ⟨rfl, hi⟩
  | 2, _, _, h => by
    have h : (match (generalizing := false) k with | 2 => some (45, 0) | _ => some (46, 0)) = some z := h
    split at h <;> (cases h; exact ⟨rfl, by decide⟩)
  | 3, _, hi, h => by
    have h : (match (generalizing := false) k with | 0 => some (41, i) | _ => some (42, i)) = some z := h
    split at h <;> (cases h; exact ⟨rfl, hi⟩)
  | 4, _, _, h => by
    have h : (none : Option (Nat × Nat)) = some z := h
    cases h
  | 5, _, hi, h => by
    have h : (match (generalizing := false) k with | 7 => some (40, i) | 8 => some (22, i) | 9 => some (24, i) | 10 => some (0, 9 * i) | _ => some (4, 7 * i)) = some z := h
    have hi : i < 3 := hi
    split at h <;> cases h
    · exact ⟨rfl, hi⟩
    · exact ⟨rfl, hi⟩
    · exact ⟨rfl, hi⟩
    · exact ⟨rfl, show 9 * i < 28 by omega⟩
    · exact ⟨rfl, show 7 * i < 23 by omega⟩
  | 6, _, _, h => by
    have h : (match (generalizing := false) k with | 0 => some (5, 0) | 1 => some (5, 1) | 2 => some (5, 2) | 4 => some (23, 0) | 5 => some (2, 0) | 6 => some (47, 0) | 7 => some (3, 0) | 8 => some (3, 1) | 9 => some (0, 27) | 10 => some (4, 21) | 11 => some (4, 22) | 12 => some (48, 0) | 13 => some (25, 0) | _ => some (26, 0)) = some z := h
    split at h <;> (cases h; exact ⟨rfl, by decide⟩)
  | 7, _, _, h => by
    have h : (match (generalizing := false) k with | 1 => some (50, 0) | 2 => some (51, 0) | 5 => some (52, 0) | 6 => some (53, 0) | 7 => some (54, 0) | 8 => some (55, 0) | 9 => some (56, 0) | 11 => some (57, 0) | 14 => some (58, 0) | 19 => some (59, 0) | 20 => some (60, 0) | 21 => some (21, 0) | 22 => some (61, 0) | 24 => some (62, 0) | 25 => some (62, 1) | 26 => some (62, 2) | 27 => some (65, 0) | 28 => some (66, 0) | 29 => some (67, 0) | _ => some (68, 0)) = some z := h
    split at h <;> (cases h; exact ⟨rfl, by decide⟩)
  | n + 8, h, _, _ => absurd h (by omega)
theorem isW_lt {c : Nat} (h : isW c = true) : c < 69 ∧ ¬ (30 ≤ c ∧ c < 40) := by
  simp only [isW, Bool.or_eq_true, Nat.blt_eq] at h
  rcases h with ((h | h) | h) | h
  · omega
  · have := isIA_ge h; omega
  · have := isLA_ge h; omega
  · have := isRA_ge h; omega
/-- the references of the start stay among what is there -/
theorem RF_cl {q c i k : Nat} {z : Nat × Nat} (w : isW c = true) (hi : i < CNT c) (hb : c < 8 ∨ k < LEN q c i) (h : RF c i k = some z) : isW z.1 = true ∧ z.2 < CNT z.1 := by
  by_cases h8 : c < 8
  · exact RF_obj c h8 hi h
  · have wl := isW_lt w
    cases hr : isRA c with
    | false => rw [RF_none c (by omega) (by omega) w hr] at h; cases h
    | true =>
      have r := isRA_ge hr
      obtain ⟨d, rfl⟩ : ∃ d, c = 22 + d := ⟨c - 22, by omega⟩
      have hk : k < LEN 0 (22 + d) i := by
        rcases hb with g | g
        · exact absurd g h8
        · rw [LEN_q (22 + d) (by omega) (by omega)] at g; exact g
      have a := List.all_eq_true.mp (List.all_eq_true.mp (List.all_eq_true.mp RF_ra d (List.mem_range.mpr (by omega))) i (List.mem_range.mpr hi)) k (List.mem_range.mpr hk)
      rw [h] at a
      have a : (isW z.1 && Nat.blt z.2 (CNT z.1)) = true := a
      have b := Bool.and_eq_true_iff.mp a
      exact ⟨b.1, Nat.blt_eq.mp b.2⟩
