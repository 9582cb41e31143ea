/-! PURE: coast, numbers -/
/-- a number in bounds -/
def nmB (B : Nat → Int32) (tp : Nat) (lo hi : Int32) (p : Nat) : Bool := decide (tK B tp p = 2) && tO B tp p && decide (¬ tV B tp p < lo) && decide (¬ hi < tV B tp p)
/-- the place behind so many tokens -/
def ps (B : Nat → Int32) (tp p : Nat) : Nat → Nat
  | 0 => p
  | i + 1 => tE B tp (ps B tp p i)
theorem ps_le {B : Nat → Int32} {tp p : Nat} (h : p ≤ tp) (i : Nat) : ps B tp p i ≤ tp := by
  induction i with
  | zero => exact h
  | succ i ih => exact (tE_le ih).2
/-- so many numbers: where they end, or where the one starts that is none -/
def nr (B : Nat → Int32) (tp : Nat) (lo hi : Nat → Int32) (p : Nat) : Nat → Option Nat
  | 0 => none
  | n + 1 => match nr B tp lo hi p n with
    | some s => some s
    | none => if nmB B tp (lo n) (hi n) (ps B tp p n) = true then none else some (tS B tp (ps B tp p n))
theorem nr_s {B : Nat → Int32} {tp : Nat} {lo hi : Nat → Int32} {p n : Nat} (h : nr B tp lo hi p n = none) : nr B tp lo hi p (n + 1) = if nmB B tp (lo n) (hi n) (ps B tp p n) = true then none else some (tS B tp (ps B tp p n)) := by
  show (match nr B tp lo hi p n with | some s => some s | none => _) = _
  rw [h]
theorem nr_stay {B : Nat → Int32} {tp : Nat} {lo hi : Nat → Int32} {p n s : Nat} (h : nr B tp lo hi p n = some s) (k : Nat) : nr B tp lo hi p (n + k) = some s := by
  induction k with
  | zero => exact h
  | succ k ih =>
    show (match nr B tp lo hi p (n + k) with | some s => some s | none => _) = _
    rw [ih]
theorem number7 {B : Nat → Int32} {tp p : Nat} {lo hi : Int32} {m : MM} (h : Tp7 B tp m) (hp : p ≤ tp) (h16 : m.1 7 0 16 = nI p) : Ok (fX7_number 0 lo hi m) (fun r m' => r = (if nmB B tp lo hi p = true then tV B tp p else -1) ∧ m'.1 7 0 16 = nI (tE B tp p) ∧ m'.1 7 0 15 = nI (tS B tp p) ∧ FrP Dnx m m') := by
  rw [fX7_number_eq]; unfold fX7_number_b
  refine (next7 h hp h16).bind ?_
  intro _ m1 ⟨a1, a2, a3, a4, f⟩
  dsimp only
  rw [a3]
  unfold nmB
  by_cases k : tK B tp p = 2
  · rw [decide_eq_true k, k]
    cases o : tO B tp p
    · rw [if_pos (show ¬ k7 2 false = 48 by decide)]
      simp only [Bool.and_false, Bool.false_and, reduceCtorEq, if_false]
      exact Ok.ret ⟨rfl, a1, a2, f⟩
    · rw [if_neg (show ¬ ¬ k7 2 true = 48 by decide), a4 k o, fX7_within_eq]
      unfold fX7_within_b
      by_cases c : tV B tp p < lo
      · rw [if_pos c, decide_eq_false (fun h => h c)]
        simp only [Option.bind_some, bI_0, if_true, Bool.and_false, Bool.false_and, reduceCtorEq, if_false]
        exact Ok.ret ⟨rfl, a1, a2, f⟩
      · rw [if_neg c, decide_eq_true c]
        by_cases d : hi < tV B tp p
        · rw [if_pos d, decide_eq_false (fun h => h d)]
          simp only [Option.bind_some, bI_0, if_true, Bool.and_false, reduceCtorEq, if_false]
          exact Ok.ret ⟨rfl, a1, a2, f⟩
        · rw [if_neg d, decide_eq_true d]
          simp only [Option.bind_some, bI_0, reduceCtorEq, if_false, Bool.and_self, if_true]
          exact Ok.ret ⟨a4 k o, a1, a2, f⟩
  · rw [decide_eq_false k, if_pos ?_]
    · simp only [Bool.false_and, reduceCtorEq, if_false]
      exact Ok.ret ⟨rfl, a1, a2, f⟩
    · unfold k7
      intro h
      by_cases k0 : tK B tp p = 0
      · rw [if_pos k0] at h; revert h; decide
      · rw [if_neg k0] at h
        by_cases k1 : tK B tp p = 1
        · rw [if_pos k1] at h; revert h; decide
        · rw [if_neg k1, if_neg k] at h
          by_cases k3 : tK B tp p = 3
          · rw [if_pos k3] at h; revert h; decide
          · rw [if_neg k3] at h; revert h; decide
def Dst : Nat → Nat → Nat → Prop := fun c i k => Dsc c i k ∨ c = 46
theorem Tp6.fr' {B : Nat → Int32} {tp : Nat} {m m' : MM} (h : Tp6 B tp m) (f : FrP Dst m m') : Tp6 B tp m' := by
  obtain ⟨a, b, c⟩ := h
  exact ⟨a, by rw [f.1 2 0 0 (by unfold Dst Dsc; omega)]; exact b, fun k hk => by rw [f.1 45 0 k (by unfold Dst Dsc; omega)]; exact c k hk⟩
/-- the class's check of a number, and its keeping -/
theorem keep6 {B : Nat → Int32} {tp p i : Nat} {a2 a3 lo hi : Int32} {m : MM} (hi4 : i < 4) (k1 : m.1 2 0 4 = nI (tK B tp p)) (k2 : tK B tp p = 2 → m.1 2 0 5 = if tO B tp p = true then tV B tp p else -1) (hk : tK B tp p < 5) (hM : fX2_mostOf 2 a2 (nI i) m = some (hi, m)) (hlo : (-1 : Int32) < lo) : Ok (fX2_readStatement_j92 0 2 a2 a3 (nI i) lo m) (fun o m' => FrP (fun c _ _ => c = 46) m m' ∧ ((nmB B tp lo hi p = true ∧ o = Sum.inl (nI (i + 1)) ∧ m' = (upI m.1 46 0 i (tV B tp p), m.2)) ∨ (¬ nmB B tp lo hi p = true ∧ o = Sum.inr (Sum.inr ()) ∧ m' = m))) := by
  unfold fX2_readStatement_j92
  rw [k1]
  by_cases k : tK B tp p = 2
  · rw [k2 k, if_neg (show ¬ ¬ nI (tK B tp p) = 2 by rw [k]; decide), hM]
    cases o : tO B tp p
    · rw [if_neg (show ¬ false = true by decide), if_pos hlo]
      exact Ok.ret ⟨FrP.rfl, Or.inr ⟨by unfold nmB; rw [o, Bool.and_false, Bool.false_and, Bool.false_and]; decide, rfl, rfl⟩⟩
    · rw [if_pos (show true = true from rfl)]
      by_cases c : tV B tp p < lo
      · rw [if_pos c]
        exact Ok.ret ⟨FrP.rfl, Or.inr ⟨by unfold nmB; rw [show decide (¬ tV B tp p < lo) = false from decide_eq_false (fun h => h c), Bool.and_false, Bool.false_and]; decide, rfl, rfl⟩⟩
      · rw [if_neg c]
        simp only [Option.bind_some]
        by_cases d : hi < tV B tp p
        · rw [if_neg (show ¬ tV B tp p ≤ hi from fun e => by rw [Int32.le_iff_toInt_le] at e; rw [Int32.lt_iff_toInt_lt] at d; omega)]
          exact Ok.ret ⟨FrP.rfl, Or.inr ⟨by unfold nmB; rw [show decide (¬ hi < tV B tp p) = false from decide_eq_false (fun h => h d), Bool.and_false]; decide, rfl, rfl⟩⟩
        · rw [if_pos (show tV B tp p ≤ hi by rw [Int32.le_iff_toInt_le]; rw [Int32.lt_iff_toInt_lt] at d; omega), inB_t hi4 (by omega), cond_true, n_cl (show i < 2147483648 by omega), ← n_s, k2 k, o]
          exact Ok.ret ⟨FrP.up (m' := m) FrP.rfl rfl _, Or.inl ⟨by unfold nmB; rw [decide_eq_true k, o, show decide (¬ tV B tp p < lo) = true from decide_eq_true c, show decide (¬ hi < tV B tp p) = true from decide_eq_true d]; rfl, rfl, rfl⟩⟩
  · rw [if_pos (by rw [show (2 : Int32) = nI 2 from rfl, n_inj (by omega) (by omega)]; exact k)]
    exact Ok.ret ⟨FrP.rfl, Or.inr ⟨by unfold nmB; rw [decide_eq_false k, Bool.false_and, Bool.false_and, Bool.false_and]; decide, rfl, rfl⟩⟩
