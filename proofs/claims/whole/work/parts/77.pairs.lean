/-! PURE: pairs, who with whom -/
/-- the best child so far, the first of the best -/
def chR (ok : Nat → Bool) (sc : Nat → Nat) : Nat → Option (Nat × Nat)
  | 0 => none
  | w + 1 => if ok w = true then (match chR ok sc w with | none => some (sc w, w) | some x => if x.1 < sc w then some (sc w, w) else some x) else chR ok sc w
def fnl (x : Option (Nat × Nat)) (z : Nat) : Nat × Int32 := match x with | none => (z, -1) | some y => if y.1 < z then (z, -1) else (y.1, nI y.2)
def chS (ok : Nat → Bool) (sc : Nat → Nat) (n : Nat) (x : Option (Nat × Nat)) : Prop :=
  match x with
  | none => ∀ w, w < n → ok w = false
  | some y => y.2 < n ∧ ok y.2 = true ∧ sc y.2 = y.1 ∧ (∀ w, w < n → ok w = true → sc w ≤ y.1) ∧ (∀ w, w < y.2 → ok w = true → sc w < y.1)
theorem chR_spec (ok : Nat → Bool) (sc : Nat → Nat) (n : Nat) : chS ok sc n (chR ok sc n) := by
  induction n with
  | zero => intro w h; omega
  | succ n ih =>
    unfold chR
    by_cases q : ok n = true
    · rw [if_pos q]
      cases e : chR ok sc n with
      | none =>
        rw [e] at ih
        have ih : ∀ w, w < n → ok w = false := ih
        refine ⟨Nat.lt_succ_self n, q, rfl, fun w hw ho => ?_, fun w hw ho => ?_⟩
        · by_cases k : w = n
          · rw [k]; exact Nat.le_refl _
          · rw [ih w (by omega)] at ho; cases ho
        · rw [ih w hw] at ho; cases ho
      | some x =>
        rw [e] at ih
        obtain ⟨i1, i2, i3, i4, i5⟩ := ih
        dsimp only
        by_cases c : x.1 < sc n
        · rw [if_pos c]
          refine ⟨Nat.lt_succ_self n, q, rfl, fun w hw ho => ?_, fun w hw ho => ?_⟩
          · by_cases k : w = n
            · rw [k]; exact Nat.le_refl _
            · have := i4 w (by omega) ho; dsimp only; omega
          · have := i4 w hw ho; dsimp only; omega
        · rw [if_neg c]
          refine ⟨by omega, i2, i3, fun w hw ho => ?_, i5⟩
          by_cases k : w = n
          · rw [k]; omega
          · exact i4 w (by omega) ho
    · rw [if_neg q]
      cases e : chR ok sc n with
      | none =>
        rw [e] at ih
        have ih : ∀ w, w < n → ok w = false := ih
        intro w hw
        by_cases k : w = n
        · rw [k]; cases h : ok n
          · rfl
          · exact absurd h q
        · exact ih w (by omega)
      | some x =>
        rw [e] at ih
        obtain ⟨i1, i2, i3, i4, i5⟩ := ih
        refine ⟨by omega, i2, i3, fun w hw ho => ?_, i5⟩
        by_cases k : w = n
        · rw [k] at ho; exact absurd ho q
        · exact i4 w (by omega) ho
theorem fnl_step (ok : Nat → Bool) (sc : Nat → Nat) (n z : Nat) : (fnl (chR ok sc (n + 1)) z).1 = if ok n = true then (if (fnl (chR ok sc n) z).1 < sc n then sc n else (fnl (chR ok sc n) z).1) else (fnl (chR ok sc n) z).1 := by
  show (fnl (if ok n = true then (match chR ok sc n with | none => some (sc n, n) | some x => if x.1 < sc n then some (sc n, n) else some x) else chR ok sc n) z).1 = _
  by_cases q : ok n = true
  · rw [if_pos q, if_pos q]
    cases chR ok sc n with
    | none =>
      show (if sc n < z then (z, -1) else (sc n, nI n) : Nat × Int32).1 = if z < sc n then sc n else z
      by_cases c : sc n < z
      · rw [if_pos c, if_neg (by omega)]
      · rw [if_neg c]
        by_cases c' : z < sc n
        · rw [if_pos c']
        · rw [if_neg c']; show sc n = z; omega
    | some x =>
      dsimp only
      by_cases c : x.1 < sc n
      · rw [if_pos c]
        show (if sc n < z then (z, -1) else (sc n, nI n) : Nat × Int32).1 = if (if x.1 < z then (z, -1) else (x.1, nI x.2) : Nat × Int32).1 < sc n then sc n else (if x.1 < z then (z, -1) else (x.1, nI x.2) : Nat × Int32).1
        by_cases d : x.1 < z
        · rw [if_pos d]
          dsimp only
          by_cases e : sc n < z
          · rw [if_pos e, if_neg (by omega)]
          · rw [if_neg e]
            by_cases g : z < sc n
            · rw [if_pos g]
            · rw [if_neg g]; show sc n = z; omega
        · rw [if_neg d]
          dsimp only
          rw [if_neg (show ¬ sc n < z by omega), if_pos c]
      · rw [if_neg c]
        show (if x.1 < z then (z, -1) else (x.1, nI x.2) : Nat × Int32).1 = if (if x.1 < z then (z, -1) else (x.1, nI x.2) : Nat × Int32).1 < sc n then sc n else (if x.1 < z then (z, -1) else (x.1, nI x.2) : Nat × Int32).1
        by_cases d : x.1 < z
        · rw [if_pos d]; dsimp only; rw [if_neg (by omega)]
        · rw [if_neg d]; dsimp only; rw [if_neg c]
  · rw [if_neg q, if_neg q]
theorem fnl_pick (ok : Nat → Bool) (sc : Nat → Nat) (n z : Nat) : fst1 (fun w => ok w && decide (sc w = (fnl (chR ok sc n) z).1)) n 0 = (fnl (chR ok sc n) z).2 := by
  have h := chR_spec ok sc n
  cases e : chR ok sc n with
  | none =>
    rw [e] at h
    have h : ∀ w, w < n → ok w = false := h
    show fst1 _ n 0 = -1
    exact fst1_none n 0 (fun w _ hw => by rw [h w (by omega)]; rfl)
  | some x =>
    rw [e] at h
    obtain ⟨i1, i2, i3, i4, i5⟩ := h
    by_cases d : x.1 < z
    · have e1 : fnl (some x) z = (z, -1) := if_pos d
      rw [e1]
      refine fst1_none n 0 (fun w _ hw => ?_)
      cases o : ok w
      · rfl
      · have := i4 w (by omega) o
        dsimp only
        rw [decide_eq_false (by omega)]; rfl
    · have e1 : fnl (some x) z = (x.1, nI x.2) := if_neg d
      rw [e1]
      refine fst1_some n 0 x.2 (fun w _ hw => ?_) (Nat.zero_le _) (by omega) (by dsimp only; rw [i2, decide_eq_true i3]; rfl)
      cases o : ok w
      · rfl
      · have := i5 w hw o
        dsimp only
        rw [decide_eq_false (by omega)]; rfl
theorem fnl_z (x : Option (Nat × Nat)) (z : Nat) : z ≤ (fnl x z).1 := by
  cases x with
  | none => exact Nat.le_refl _
  | some y =>
    show z ≤ (if y.1 < z then (z, -1) else (y.1, nI y.2) : Nat × Int32).1
    by_cases d : y.1 < z
    · rw [if_pos d]; exact Nat.le_refl _
    · rw [if_neg d]; show z ≤ y.1; omega
def orK (mask : Int32) (w : Nat) : Int32 := mask ||| one (nI w)
theorem orK_in {mask : Int32} {w : Nat} (h : inB mask 64 = true) (hw : w < 6) : inB (orK mask w) 64 = true := by
  obtain ⟨a, b⟩ := inB_ex h
  generalize mask.toNatClampNeg = s at *
  have : ∀ s : Fin 64, ∀ w : Fin 6, inB (orK (nI s.val) w.val) 64 = true := by decide
  rw [b]; exact this ⟨s, a⟩ ⟨w, hw⟩
def okm (A : Nat → Nat → Bool) (i : Nat) (mask : Int32) (w : Nat) : Bool := A i w && !(bt mask w)
/-- the best from a bottle on, with so many left -/
def bfR (A : Nat → Nat → Bool) (V : Nat → Nat → Nat) : Nat → Int32 → Nat
  | 0, _ => 0
  | r + 1, mask => (fnl (chR (okm A (7 - r) mask) (fun w => 1000 - V (7 - r) w + bfR A V r (orK mask w)) 6) (bfR A V r mask)).1
def scR (A : Nat → Nat → Bool) (V : Nat → Nat → Nat) (r : Nat) (mask : Int32) (w : Nat) : Nat := 1000 - V (7 - r) w + bfR A V r (orK mask w)
def ndR (A : Nat → Nat → Bool) (V : Nat → Nat → Nat) (r : Nat) (mask : Int32) : Nat × Int32 := fnl (chR (okm A (7 - r) mask) (scR A V r mask) 6) (bfR A V r mask)
theorem bfR_s (A : Nat → Nat → Bool) (V : Nat → Nat → Nat) (r : Nat) (mask : Int32) : bfR A V (r + 1) mask = (ndR A V r mask).1 := rfl
theorem bfR_le (A : Nat → Nat → Bool) (V : Nat → Nat → Nat) (r : Nat) (mask : Int32) : bfR A V r mask ≤ 1000 * r := by
  induction r generalizing mask with
  | zero => exact Nat.le_refl _
  | succ r ih =>
    rw [bfR_s]
    unfold ndR
    have h := chR_spec (okm A (7 - r) mask) (scR A V r mask) 6
    have iz := ih mask
    cases e : chR (okm A (7 - r) mask) (scR A V r mask) 6 with
    | none => show bfR A V r mask ≤ _; omega
    | some x =>
      rw [e] at h
      obtain ⟨i1, i2, i3, i4, i5⟩ := h
      have iw := ih (orK mask x.2)
      have : scR A V r mask x.2 ≤ 1000 + bfR A V r (orK mask x.2) := by unfold scR; omega
      show (if x.1 < bfR A V r mask then (bfR A V r mask, -1) else (x.1, nI x.2) : Nat × Int32).1 ≤ _
      by_cases d : x.1 < bfR A V r mask
      · rw [if_pos d]; show bfR A V r mask ≤ _; omega
      · rw [if_neg d]; show x.1 ≤ _; omega
def nxt (mask p : Int32) : Int32 := if p = -1 then mask else mask ||| one p
/-- the picks from a bottle on -/
def ptR (A : Nat → Nat → Bool) (V : Nat → Nat → Nat) : Nat → Int32 → Nat → Int32
  | 0, _, _ => -1
  | r + 1, mask, 0 => (ndR A V r mask).2
  | r + 1, mask, k + 1 => ptR A V r (nxt mask (ndR A V r mask).2) k
