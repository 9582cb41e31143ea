/-! PURE: coast, the letters of the tape -/
/-- the end of a run of letters -/
def rn (P : Int32 → Bool) (B : Nat → Int32) (tp : Nat) : Nat → Nat → Nat
  | 0, p => p
  | f + 1, p => if p < tp ∧ P (B p) = true then rn P B tp f (p + 1) else p
def run (P : Int32 → Bool) (B : Nat → Int32) (tp p : Nat) : Nat := rn P B tp (tp - p) p
theorem rn_le (P : Int32 → Bool) (B : Nat → Int32) (tp f p : Nat) : p ≤ rn P B tp f p := by
  induction f generalizing p with
  | zero => exact Nat.le_refl _
  | succ f ih =>
    unfold rn
    by_cases q : p < tp ∧ P (B p) = true
    · rw [if_pos q]; have := ih (p + 1); omega
    · rw [if_neg q]; exact Nat.le_refl _
theorem run_le (P : Int32 → Bool) (B : Nat → Int32) (tp p : Nat) : p ≤ run P B tp p := rn_le P B tp _ p
theorem rn_in (P : Int32 → Bool) (B : Nat → Int32) (tp f p i : Nat) (h : p ≤ i) (h' : i < rn P B tp f p) : i < tp ∧ P (B i) = true := by
  induction f generalizing p with
  | zero => exact absurd h' (by show ¬ i < p; omega)
  | succ f ih =>
    unfold rn at h'
    by_cases q : p < tp ∧ P (B p) = true
    · rw [if_pos q] at h'
      by_cases e : i = p
      · rw [e]; exact q
      · exact ih (p + 1) (by omega) h'
    · rw [if_neg q] at h'; omega
theorem rn_end (P : Int32 → Bool) (B : Nat → Int32) (tp f p : Nat) (h : tp - p ≤ f) : ¬ (rn P B tp f p < tp ∧ P (B (rn P B tp f p)) = true) := by
  induction f generalizing p with
  | zero => intro ⟨a, _⟩; have a : p < tp := a; omega
  | succ f ih =>
    unfold rn
    by_cases q : p < tp ∧ P (B p) = true
    · rw [if_pos q]; exact ih (p + 1) (by omega)
    · rw [if_neg q]; exact q
theorem run_in {P : Int32 → Bool} {B : Nat → Int32} {tp p i : Nat} (h : p ≤ i) (h' : i < run P B tp p) : i < tp ∧ P (B i) = true := rn_in P B tp _ p i h h'
theorem run_end (P : Int32 → Bool) (B : Nat → Int32) (tp p : Nat) : ¬ (run P B tp p < tp ∧ P (B (run P B tp p)) = true) := rn_end P B tp _ p (Nat.le_refl _)
theorem run_tp {P : Int32 → Bool} {B : Nat → Int32} {tp p : Nat} (h : p ≤ tp) : run P B tp p ≤ tp := by
  by_cases q : run P B tp p ≤ tp
  · exact q
  · exfalso
    have := run_in (P := P) (B := B) (tp := tp) (p := p) (i := tp) h (by omega)
    omega
theorem run_s {P : Int32 → Bool} {B : Nat → Int32} {tp p : Nat} (h : p < tp) (h' : P (B p) = true) : run P B tp p = run P B tp (p + 1) := by
  show rn P B tp (tp - p) p = rn P B tp (tp - (p + 1)) (p + 1)
  rw [show tp - p = (tp - (p + 1)) + 1 by omega]
  show (if p < tp ∧ P (B p) = true then rn P B tp (tp - (p + 1)) (p + 1) else p) = _
  rw [if_pos ⟨h, h'⟩]
def isS (x : Int32) : Bool := decide (x = 32)
def isDg (x : Int32) : Bool := decide (¬ x < 48 ∧ ¬ 57 < x)
def isLt (x : Int32) : Bool := decide (¬ x < 97 ∧ ¬ 122 < x)
/-- a number's digits, so many of them -/
def numN (B : Nat → Int32) (s : Nat) : Nat → Int32
  | 0 => 0
  | j + 1 => 10 * numN B s j + B (s + j) - 48
/-- the letter's start, end, kind and number from a place on -/
def tS (B : Nat → Int32) (tp p : Nat) : Nat := run isS B tp p
def tE (B : Nat → Int32) (tp p : Nat) : Nat := if tS B tp p = tp then tS B tp p else if isLt (B (tS B tp p)) = true then run isLt B tp (tS B tp p) else if isDg (B (tS B tp p)) = true then run isDg B tp (tS B tp p) else tS B tp p + 1
/-- 0 the end, 1 a word, 2 a number, 3 a semicolon, 4 another -/
def tK (B : Nat → Int32) (tp p : Nat) : Nat := if tS B tp p = tp then 0 else if isLt (B (tS B tp p)) = true then 1 else if isDg (B (tS B tp p)) = true then 2 else if B (tS B tp p) = 59 then 3 else 4
def tV (B : Nat → Int32) (tp p : Nat) : Int32 := numN B (tS B tp p) (tE B tp p - tS B tp p)
def tO (B : Nat → Int32) (tp p : Nat) : Bool := decide (tE B tp p - tS B tp p ≤ 3)
theorem tS_le {B : Nat → Int32} {tp p : Nat} (h : p ≤ tp) : p ≤ tS B tp p ∧ tS B tp p ≤ tp := ⟨run_le _ _ _ _, run_tp h⟩
theorem tE_le {B : Nat → Int32} {tp p : Nat} (h : p ≤ tp) : tS B tp p ≤ tE B tp p ∧ tE B tp p ≤ tp := by
  obtain ⟨a, b⟩ := tS_le (B := B) h
  unfold tE
  by_cases q : tS B tp p = tp
  · rw [if_pos q]; omega
  · rw [if_neg q]
    by_cases q1 : isLt (B (tS B tp p)) = true
    · rw [if_pos q1]; exact ⟨run_le _ _ _ _, run_tp b⟩
    · rw [if_neg q1]
      by_cases q2 : isDg (B (tS B tp p)) = true
      · rw [if_pos q2]; exact ⟨run_le _ _ _ _, run_tp b⟩
      · rw [if_neg q2]; omega
/-- the tape as the class, and the model, has it -/
def Tp6 (B : Nat → Int32) (tp : Nat) (m : MM) : Prop := tp ≤ 250 ∧ m.1 2 0 0 = nI tp ∧ ∀ k, k < tp → m.1 45 0 k = B k ∧ inB (B k) 256 = true
def Tp7 (B : Nat → Int32) (tp : Nat) (m : MM) : Prop := tp ≤ 250 ∧ m.1 7 0 13 = nI tp ∧ ∀ k, k < tp → m.1 58 0 k = B k ∧ inB (B k) 256 = true
def Dsc : Nat → Nat → Nat → Prop := fun c i k => c = 2 ∧ i = 0 ∧ 1 ≤ k
theorem Tp6.fr {B : Nat → Int32} {tp : Nat} {m m' : MM} (h : Tp6 B tp m) (f : FrP Dsc m m') : Tp6 B tp m' := by
  obtain ⟨a, b, c⟩ := h
  exact ⟨a, by rw [f.1 2 0 0 (by unfold Dsc; omega)]; exact b, fun k hk => by rw [f.1 45 0 k (by unfold Dsc; omega)]; exact c k hk⟩
theorem e_byte {B : Nat → Int32} {tp q : Nat} {m : MM} (h : Tp6 B tp m) (hq : q < tp) : fX2_byteAt 0 (nI q) m = some (B q, m) := by
  obtain ⟨a, b, c⟩ := h
  rw [fX2_byteAt_eq]; unfold fX2_byteAt_b
  rw [if_neg (n_ge0 (by omega)), b, if_neg (by rw [n_le (by omega) (by omega)]; omega), if_neg (by rw [n_le (by omega) (by omega)]; omega), inB_t (show q < 250 by omega) (by omega), cond_true, n_cl (by omega), (c q hq).1]
theorem e_byte_no {B : Nat → Int32} {tp q : Nat} {m : MM} (h : Tp6 B tp m) (hq : ¬ q < tp) (hq' : q < 1000) : fX2_byteAt 0 (nI q) m = some (-1, m) := by
  obtain ⟨a, b, c⟩ := h
  rw [fX2_byteAt_eq]; unfold fX2_byteAt_b
  rw [if_neg (n_ge0 (by omega)), b, if_pos (by rw [n_le (by omega) (by omega)]; omega)]
theorem e6_dig (x : Int32) (m : MM) : fX2_isDigit x m = some (isDg x, m) := by
  rw [fX2_isDigit_eq]; unfold fX2_isDigit_b isDg
  by_cases q : x < 48
  · rw [if_pos q, decide_eq_false (fun h => h.1 q)]
  · rw [if_neg q]
    by_cases q2 : 57 < x
    · rw [if_pos q2, decide_eq_false (fun h => h.2 q2)]
    · rw [if_neg q2, decide_eq_true ⟨q, q2⟩]
theorem e6_let (x : Int32) (m : MM) : fX2_isLetter x m = some (isLt x, m) := by
  rw [fX2_isLetter_eq]; unfold fX2_isLetter_b isLt
  by_cases q : x < 97
  · rw [if_pos q, decide_eq_false (fun h => h.1 q)]
  · rw [if_neg q]
    by_cases q2 : 122 < x
    · rw [if_pos q2, decide_eq_false (fun h => h.2 q2)]
    · rw [if_neg q2, decide_eq_true ⟨q, q2⟩]
theorem e7_dig (x : Int32) (m : MM) : fX7_isDigit x m = some (isDg x, m) := by
  rw [← e6_dig, fX7_isDigit_eq, fX2_isDigit_eq]; rfl
theorem e7_let (x : Int32) (m : MM) : fX7_isLetter x m = some (isLt x, m) := by
  rw [← e6_let, fX7_isLetter_eq, fX2_isLetter_eq]; rfl
/-- the class's blanks -/
theorem scan6_s {B : Nat → Int32} {tp p : Nat} {m : MM} (h : Tp6 B tp m) (hp : p ≤ tp) (h3 : m.1 2 0 3 = nI p) : Ok (loopF 1000 (fX2_scan_b0 0) () m) (fun _ m' => m'.1 2 0 3 = nI (tS B tp p) ∧ FrP Dsc m m') := by
  have h250 := h.1
  obtain ⟨l1, l2⟩ := tS_le (B := B) hp
  refine Ok.count p (tS B tp p) (fun i _ m' => m'.1 2 0 3 = nI i ∧ FrP Dsc m m') ?_ ?_ l1 1000 (by omega) () m ⟨h3, FrP.rfl⟩
  · intro i s m' h1 h2 ⟨a, f⟩
    have hT := h.fr f
    obtain ⟨r1, r2⟩ := run_in h1 h2
    unfold fX2_scan_b0
    rw [hT.2.1, a, if_neg (by rw [n_le (by omega) (by omega)]; omega), e_byte hT r1]
    simp only [Option.bind_some]
    rw [if_neg (fun h => h (of_decide_eq_true r2)), a, ← n_s]
    exact Ok.ret ⟨by dsimp only; rw [upI_same], FrP.up (m' := m') f (by unfold Dsc; omega) _⟩
  · intro s m' ⟨a, f⟩
    have hT := h.fr f
    have re := run_end isS B tp p
    unfold fX2_scan_b0
    by_cases q : tS B tp p < tp
    · rw [hT.2.1, a, if_neg (by rw [n_le (by omega) (by omega)]; omega), e_byte hT q]
      simp only [Option.bind_some]
      rw [if_pos (show ¬ B (tS B tp p) = 32 from fun h => re ⟨q, decide_eq_true h⟩)]
      exact Ok.ret ⟨a, f⟩
    · rw [hT.2.1, a, if_pos (by rw [n_le (by omega) (by omega)]; omega)]
      exact Ok.ret ⟨a, f⟩
/-- the class's word -/
theorem scan6_w {B : Nat → Int32} {tp s : Nat} {m : MM} (h : Tp6 B tp m) (hp : s ≤ tp) (h3 : m.1 2 0 3 = nI s) : Ok (loopF 1000 (fX2_scan_b79 0) () m) (fun _ m' => m'.1 2 0 3 = nI (run isLt B tp s) ∧ FrP (fun c i k => c = 2 ∧ i = 0 ∧ k = 3) m m') := by
  have h250 := h.1
  have l1 := run_le isLt B tp s
  have l2 := run_tp (P := isLt) (B := B) hp
  refine Ok.count s (run isLt B tp s) (fun i _ m' => m'.1 2 0 3 = nI i ∧ FrP (fun c i k => c = 2 ∧ i = 0 ∧ k = 3) m m') ?_ ?_ l1 1000 (by omega) () m ⟨h3, FrP.rfl⟩
  · intro i s m' h1 h2 ⟨a, f⟩
    have hT := h.fr (f.mono (by unfold Dsc; omega))
    obtain ⟨r1, r2⟩ := run_in h1 h2
    unfold fX2_scan_b79
    rw [hT.2.1, a, if_neg (by rw [n_le (by omega) (by omega)]; omega), e_byte hT r1]
    simp only [Option.bind_some]
    rw [e6_let, r2]
    simp only [Option.bind_some, bI_0, reduceCtorEq, if_false]
    rw [a, ← n_s]
    exact Ok.ret ⟨by dsimp only; rw [upI_same], FrP.up (m' := m') f (by omega) _⟩
  · intro _ m' ⟨a, f⟩
    have hT := h.fr (f.mono (by unfold Dsc; omega))
    have re := run_end isLt B tp s
    unfold fX2_scan_b79
    by_cases q : run isLt B tp s < tp
    · rw [hT.2.1, a, if_neg (by rw [n_le (by omega) (by omega)]; omega), e_byte hT q]
      simp only [Option.bind_some]
      have : isLt (B (run isLt B tp s)) = false := by
        cases hh : isLt (B (run isLt B tp s))
        · rfl
        · exact absurd ⟨q, hh⟩ re
      rw [e6_let, this]
      simp only [Option.bind_some, bI_0, if_true]
      exact Ok.ret ⟨a, f⟩
    · rw [hT.2.1, a, if_pos (by rw [n_le (by omega) (by omega)]; omega)]
      exact Ok.ret ⟨a, f⟩
/-- the class's number -/
theorem scan6_n {B : Nat → Int32} {tp s : Nat} {m : MM} (h : Tp6 B tp m) (hp : s ≤ tp) (h1' : m.1 2 0 1 = nI s) (h3 : m.1 2 0 3 = nI s) : Ok (fX2_scanNumber 0 m) (fun _ m' => m'.1 2 0 3 = nI (run isDg B tp s) ∧ m'.1 2 0 5 = (if run isDg B tp s - s ≤ 3 then numN B s (run isDg B tp s - s) else -1) ∧ FrP (fun c i k => c = 2 ∧ i = 0 ∧ (k = 3 ∨ k = 5)) m m') := by
  have h250 := h.1
  have l1 := run_le isDg B tp s
  have l2 := run_tp (P := isDg) (B := B) hp
  rw [fX2_scanNumber_eq]; unfold fX2_scanNumber_b
  refine Ok.bind (Ok.count s (run isDg B tp s) (fun i _ m' => m'.1 2 0 3 = nI i ∧ m'.1 2 0 5 = (if i - s ≤ 3 then numN B s (i - s) else -1) ∧ FrP (fun c i k => c = 2 ∧ i = 0 ∧ (k = 3 ∨ k = 5)) m m') (Q := fun _ m' => m'.1 2 0 3 = nI (run isDg B tp s) ∧ m'.1 2 0 5 = (if run isDg B tp s - s ≤ 3 then numN B s (run isDg B tp s - s) else -1) ∧ FrP (fun c i k => c = 2 ∧ i = 0 ∧ (k = 3 ∨ k = 5)) m m') ?_ ?_ l1 1000 (by omega) () _ ⟨?_, ?_, ?_⟩) (fun _ m' h => Ok.ret h)
  · intro i _ m' h1 h2 ⟨a, b, f⟩
    have hT := h.fr (f.mono (by unfold Dsc; omega))
    obtain ⟨r1, r2⟩ := run_in h1 h2
    have a1 : m'.1 2 0 1 = nI s := by rw [f.1 2 0 1 (by omega)]; exact h1'
    unfold fX2_scanNumber_b5
    rw [hT.2.1, a, if_neg (by rw [n_le (by omega) (by omega)]; omega), e_byte hT r1]
    simp only [Option.bind_some]
    rw [e6_dig, r2]
    simp only [Option.bind_some, bI_0, reduceCtorEq, if_false]
    rw [a, a1, ← n_sub h1, show (3 : Int32) = nI 3 from rfl]
    by_cases q : 3 ≤ i - s
    · rw [if_pos (by rw [n_le (by omega) (by omega)]; exact q)]
      refine Ok.ret ⟨?_, ?_, FrP.up (m' := (upI m'.1 2 0 5 (-1), m'.2)) (FrP.up (m' := m') f (by omega) _) (by omega) _⟩
      · dsimp only; rw [upI_same, upI_nn (by omega), a, ← n_s]
      · dsimp only; rw [upI_nn (by omega), upI_same, if_neg (by omega)]
    · rw [if_neg (by rw [n_le (by omega) (by omega)]; exact q), e_byte hT r1]
      simp only [Option.bind_some]
      refine Ok.ret ⟨?_, ?_, FrP.up (m' := (upI m'.1 2 0 5 _, m'.2)) (FrP.up (m' := m') f (by omega) _) (by omega) _⟩
      · dsimp only; rw [upI_same, upI_nn (by omega), a, ← n_s]
      · dsimp only
        rw [upI_nn (by omega), upI_same, b, if_pos (by omega), if_pos (by omega), show i + 1 - s = (i - s) + 1 by omega]
        show _ = 10 * numN B s (i - s) + B (s + (i - s)) - 48
        rw [show s + (i - s) = i by omega]
  · intro _ m' ⟨a, b, f⟩
    have hT := h.fr (f.mono (by unfold Dsc; omega))
    have re := run_end isDg B tp s
    unfold fX2_scanNumber_b5
    by_cases q : run isDg B tp s < tp
    · rw [hT.2.1, a, if_neg (by rw [n_le (by omega) (by omega)]; omega), e_byte hT q]
      simp only [Option.bind_some]
      have : isDg (B (run isDg B tp s)) = false := by
        cases hh : isDg (B (run isDg B tp s))
        · rfl
        · exact absurd ⟨q, hh⟩ re
      rw [e6_dig, this]
      simp only [Option.bind_some, bI_0, if_true]
      exact Ok.ret ⟨a, b, f⟩
    · rw [hT.2.1, a, if_pos (by rw [n_le (by omega) (by omega)]; omega)]
      exact Ok.ret ⟨a, b, f⟩
  · dsimp only; rw [upI_nn (by omega)]; exact h3
  · dsimp only; rw [upI_same, Nat.sub_self, if_pos (by omega)]; rfl
  · exact FrP.up (m' := m) FrP.rfl (by omega) _
