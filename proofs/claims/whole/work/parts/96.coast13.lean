/-! PURE: coast, all statements -/
/-- all statements from a place on: where it fails, or how many and the row after -/
def coR (B : Nat → Int32) (tp : Nat) : Nat → Nat → Nat → (Nat → Int32) → Nat → Nat → Nat → Nat ⊕ (Nat × (Nat → Int32) × Nat × Nat × Nat)
  | 0, _, p, _, _, _, _ => Sum.inl (tS B tp p)
  | F + 1, c, p, v, nb, nw, nc =>
    match stR B tp p nb nw nc with
    | some s => Sum.inl s
    | none => if tK B tp (stE B tp p) = 0 then Sum.inr (c + 1, stF B tp p v nb nw nc) else if tK B tp (stE B tp p) = 3 then coR B tp F (c + 1) (tE B tp (stE B tp p)) (stF B tp p v nb nw nc).1 (stF B tp p v nb nw nc).2.1 (stF B tp p v nb nw nc).2.2.1 (stF B tp p v nb nw nc).2.2.2 else Sum.inl (tS B tp (stE B tp p))
theorem coR_fail {B : Nat → Int32} {tp F c p nb nw nc s : Nat} {v : Nat → Int32} (h : stR B tp p nb nw nc = some s) : coR B tp (F + 1) c p v nb nw nc = Sum.inl s := by
  show (match stR B tp p nb nw nc with | some s => _ | none => _) = _
  rw [h]
theorem coR_go {B : Nat → Int32} {tp F c p nb nw nc : Nat} {v : Nat → Int32} (h : stR B tp p nb nw nc = none) : coR B tp (F + 1) c p v nb nw nc = if tK B tp (stE B tp p) = 0 then Sum.inr (c + 1, stF B tp p v nb nw nc) else if tK B tp (stE B tp p) = 3 then coR B tp F (c + 1) (tE B tp (stE B tp p)) (stF B tp p v nb nw nc).1 (stF B tp p v nb nw nc).2.1 (stF B tp p v nb nw nc).2.2.1 (stF B tp p v nb nw nc).2.2.2 else Sum.inl (tS B tp (stE B tp p)) := by
  show (match stR B tp p nb nw nc with | some s => _ | none => _) = _
  rw [h]
theorem stE_le {B : Nat → Int32} {tp p : Nat} (h : p ≤ tp) : p ≤ stE B tp p ∧ stE B tp p ≤ tp := by
  have mono : ∀ i q, q ≤ tp → q ≤ ps B tp q i := by
    intro i q hq
    induction i with
    | zero => exact Nat.le_refl _
    | succ i ih =>
      have h1 := ps_le (B := B) hq i
      have h2 := tS_le (B := B) h1
      have h3 := tE_le (B := B) h1
      show q ≤ tE B tp (ps B tp q i)
      omega
  have a := tS_le (B := B) h
  have b := tE_le (B := B) h
  have c := mono (nN (stw B (tS B tp p) (tE B tp p))) _ b.2
  exact ⟨by unfold stE; omega, ps_le b.2 _⟩
/-- a semicolon moves on -/
theorem tE_3 {B : Nat → Int32} {tp p : Nat} (h : p ≤ tp) (k : tK B tp p = 3) : p < tE B tp p := by
  have a := tS_le (B := B) h
  unfold tK at k
  by_cases q : tS B tp p = tp
  · rw [if_pos q] at k; omega
  · rw [if_neg q] at k
    unfold tE
    rw [if_neg q]
    by_cases q1 : isLt (B (tS B tp p)) = true
    · rw [if_pos q1] at k; omega
    · rw [if_neg q1] at k ⊢
      by_cases q2 : isDg (B (tS B tp p)) = true
      · rw [if_pos q2] at k; omega
      · rw [if_neg q2]; omega
