/-! PURE: what a day does, by numbers -/
abbrev Ev : Type := (Int32 → Int32) × Int32 × Int32 × Int32
abbrev CH : Type := Int32 × Int32
def psh (e : Ev) (today kind a cell : Int32) : Int32 :=
  if kind = 1 then e.1 cell - 3
  else if kind = 2 then e.1 cell - 3 + 2 * (e.2.2.1 - 2)
  else if kind = 3 then (if today - today / 2 * 2 = 0 then e.1 cell - 3 else 0)
  else if kind = 4 then e.1 cell - 3 + 2 * (e.2.2.1 - 2) + (a - a / 3 * 3) - 1
  else e.1 cell - 3 + (e.2.2.1 - 2)
def tgh (kind a : Int32) : Int32 := if kind = 1 then 5 else if kind = 2 then 4 else if kind = 3 then 5 else if kind = 4 then 4 + a / 3 else if kind = 5 then 99 else 3
/-- a bottle drifts -/
def dft (e : Ev) (today kind a : Int32) (s : CH) : CH :=
  if s.2 = 0 then
    if abI (psh e today kind a s.1) ≤ tgh kind a then (mxI 0 (mnI (e.2.1 - 1) (s.1 + psh e today kind a s.1)), 0) else (s.1, 2)
  else s
/-- and is found, or not -/
def fnd (f : Int32) (s : CH) : CH := if s.2 = 0 then (if s.1 = f then (s.1, 1) else s) else s
def spd (e : Ev) (today kind a f : Int32) (s : CH) : CH := if s.2 = 0 then fnd f (dft e today kind a s) else s
def dyd (e : Ev) (d : Nat) : Int32 := mnI 999 (e.2.2.2 + nI d)
def simB (e : Ev) (kind a : Int32) (f : Nat → Int32) (s : CH) : Nat → CH
  | 0 => s
  | d + 1 => spd e (dyd e d) kind a (f (d + 1)) (simB e kind a f s d)
/-- a walker's step: place and way -/
def stp (cells : Int32) (s : CH) : CH :=
  if s.2 = 0 ∧ cells - 1 ≤ s.1 then (s.1 + (-1), 1)
  else if s.2 = 1 ∧ s.1 ≤ 0 then (s.1 + 1, 0)
  else (s.1 + (if s.2 = 0 then 1 else -1), s.2)
def stN (cells : Int32) (s : CH) : Nat → CH
  | 0 => s
  | n + 1 => stp cells (stN cells s n)
def strl (cells pace : Int32) (s : CH) : CH := stN cells s pace.toNatClampNeg
def simW (cells pace : Int32) (s : CH) : Nat → CH
  | 0 => s
  | n + 1 => strl cells pace (simW cells pace s n)
theorem simB_end {e : Ev} {kind a : Int32} {f : Nat → Int32} {s : CH} {d : Nat} (h : ¬ (simB e kind a f s d).2 = 0) (k : Nat) : simB e kind a f s (d + k) = simB e kind a f s d := by
  induction k with
  | zero => rfl
  | succ k ih =>
    show spd e (dyd e (d + k)) kind a (f (d + k + 1)) (simB e kind a f s (d + k)) = _
    rw [ih]
    unfold spd
    rw [if_neg h]
/-! the class: leaves -/
theorem e_toughnessOf (k a : Int32) (m : MM) : fX6_toughnessOf k a m = some (tgh k a, m) := by
  rw [fX6_toughnessOf_eq]; unfold fX6_toughnessOf_b tgh
  repeat' split
  all_goals rfl
def flw (m : MM) (w : Nat) : Int32 → Int32 := fun c => if c < 0 then 3 else if nI 30 ≤ c then 3 else m.1 40 w c.toNatClampNeg
theorem flw_in {m : MM} {w : Nat} {c : Int32} (h : inB c 30 = true) : flw m w c = m.1 40 w c.toNatClampNeg := by
  unfold flw; rw [inB_hi c 30 (by decide), if_pos h]
def cE (m : MM) (w : Nat) : Ev := (flw m w, m.1 5 w 0, m.1 5 w 1, m.1 5 w 2)
theorem e_flow (w : Nat) (c : Int32) (m : MM) : fX5_flow w c m = some (flw m w c, m) := by
  rw [fX5_flow_eq]; unfold fX5_flow_b flw
  by_cases h0 : c < 0
  · rw [if_pos h0, if_pos h0]
  · rw [if_neg h0, if_neg h0]
    by_cases h1 : nI 30 ≤ c
    · rw [if_pos h1, if_pos h1]
    · rw [if_neg h1, if_neg h1]
      have h := (inB_iff c 30).2 ⟨by rw [n_lt0] at h0; omega, by rw [Int32.le_iff_toInt_le, n_ti (by decide)] at h1; omega⟩
      rw [h]; rfl
theorem e_dayBehind (w : Nat) (d : Int32) (m : MM) : fX5_dayBehind w d m = some (mnI 999 (m.1 5 w 2 + d), m) := by
  rw [fX5_dayBehind_eq]; rfl
theorem e_push (w b : Nat) (t : Int32) (m : MM) : fX5_push w b t m = some (psh (cE m w) t (m.1 0 b 0) (m.1 0 b 1) (m.1 0 b 2), m) := by
  rw [fX5_push_eq]; unfold fX5_push_b
  simp only [e_flow, Option.bind_some]
  unfold psh cE
  repeat' split
  all_goals first | rfl | (exfalso; simp_all; done)
/-- a bottle's place and state written -/
def upB (m : MM) (b : Nat) (s : CH) : MM := (upI (upI m.1 0 b 2 s.1) 0 b 4 s.2, m.2)
def rB (m : MM) (b : Nat) : CH := (m.1 0 b 2, m.1 0 b 4)
theorem e_spend (w b : Nat) (t f : Int32) (m : MM) : fX5_spend w b t f m = some ((), upB m b (spd (cE m w) t (m.1 0 b 0) (m.1 0 b 1) f (rB m b))) := by
  rw [fX5_spend_eq]; unfold fX5_spend_b spd rB
  have key : ∀ x, upI (upI m.1 0 b 2 x) 0 b 4 (m.1 0 b 4) = upI m.1 0 b 2 x := by
    intro x
    have := upI_id (upI m.1 0 b 2 x) 0 b 4
    rw [upI_nn (by omega)] at this
    exact this
  by_cases h : m.1 0 b 4 = 0
  · rw [if_pos h, if_pos h]
    simp only [e_push, e_toughnessOf, Option.bind_some, upI_same]
    unfold dft fnd
    rw [if_pos h]
    by_cases h2 : abI (psh (cE m w) t (m.1 0 b 0) (m.1 0 b 1) (m.1 0 b 2)) ≤ tgh (m.1 0 b 0) (m.1 0 b 1)
    · simp only [h2, if_true]
      have h5 : (cE m w).2.1 = m.1 5 w 0 := rfl
      rw [h5]
      by_cases h3 : mxI 0 (mnI (m.1 5 w 0 - 1) (m.1 0 b 2 + psh (cE m w) t (m.1 0 b 0) (m.1 0 b 1) (m.1 0 b 2))) = f
      · simp only [h3, not_true, if_true, if_false, upB]
      · simp only [h3, not_false_eq_true, if_true, if_false, upB]
        have := key (mxI 0 (mnI (m.1 5 w 0 - 1) (m.1 0 b 2 + psh (cE m w) t (m.1 0 b 0) (m.1 0 b 1) (m.1 0 b 2))))
        rw [h] at this
        rw [this]
    · simp only [h2, if_false, upB]
      have : ¬ (2 : Int32) = 0 := by decide
      simp only [this, if_false, upI_id]
  · rw [if_neg h, if_neg h]
    unfold upB
    dsimp only
    rw [upI_id, upI_id]
/-- a walker's place and way written -/
def upW (m : MM) (w : Nat) (s : CH) : MM := (upI (upI m.1 4 w 0 s.1) 4 w 2 s.2, m.2)
def rW (m : MM) (w : Nat) : CH := (m.1 4 w 0, m.1 4 w 2)
theorem upW_id (m : MM) (w : Nat) : upW m w (rW m w) = m := by
  unfold upW rW; dsimp only; rw [upI_id, upI_id]
theorem rW_up (m : MM) (w : Nat) (s : CH) : rW (upW m w s) w = s := by
  unfold upW rW; dsimp only; rw [upI_same, upI_nn (by omega), upI_same]
theorem upW_up (m : MM) (w : Nat) (s s' : CH) : upW (upW m w s) w s' = upW m w s' := by
  unfold upW
  refine Prod.ext ?_ rfl
  funext c i k
  unfold upI
  dsimp only
  repeat' split
  all_goals first | rfl | (exfalso; omega)
theorem e_stroll_b (w : Nat) (c : Int32) (s : Int32) (m : MM) (h : ¬ m.1 4 w 1 ≤ s) : fX4_stroll_b2 w c s m = some (Sum.inl (s + 1), upW m w (stp c (rW m w))) := by
  unfold fX4_stroll_b2 fX4_stroll_j35 stp
  rw [if_neg h]
  have key : ∀ x, upI (upI m.1 4 w 0 x) 4 w 2 (m.1 4 w 2) = upI m.1 4 w 0 x := by
    intro x
    have := upI_id (upI m.1 4 w 0 x) 4 w 2
    rw [upI_nn (by omega)] at this
    exact this
  have sw : ∀ x y, upI (upI m.1 4 w 2 x) 4 w 0 y = upI (upI m.1 4 w 0 y) 4 w 2 x := by
    intro x y
    funext c i k
    unfold upI
    repeat' split
    all_goals first | rfl | (exfalso; omega)
  have n10 : ¬ (1 : Int32) = 0 := by decide
  have n01 : ¬ (0 : Int32) = 1 := by decide
  have le : ∀ x y : Int32, (y ≤ x) = ¬ (x < y) := by
    intro x y; rw [Int32.le_iff_toInt_le, Int32.lt_iff_toInt_lt]; apply propext; omega
  have r0 : ∀ x, upI m.1 4 w 2 x 4 w 0 = m.1 4 w 0 := fun x => upI_nn (by omega)
  unfold rW upW
  dsimp only
  simp only [upI_same, r0, sw, le]
  by_cases h0 : m.1 4 w 2 = 0
  · by_cases h1 : m.1 4 w 0 < c - 1
    · simp only [h0, h1, not_true, not_false_eq_true, n10, n01, if_true, if_false, true_and, false_and, and_false]
      rw [← h0, key]
    · simp only [h0, h1, not_true, not_false_eq_true, n10, n01, if_true, if_false, true_and, false_and]
  · by_cases h1 : m.1 4 w 2 = 1
    · by_cases h2 : 0 < m.1 4 w 0
      · simp only [h1, h2, not_true, not_false_eq_true, n10, n01, if_true, if_false, true_and, false_and, and_false]
        rw [← h1, key]
      · simp only [h1, h2, not_true, not_false_eq_true, n10, n01, if_true, if_false, true_and, false_and, and_true]
    · simp only [h0, h1, not_true, not_false_eq_true, if_true, if_false, false_and, key]
theorem e_stroll (w : Nat) (c : Int32) (m : MM) (hp : inB (m.1 4 w 1) 100 = true) : fX4_stroll w c m = some ((), upW m w (strl c (m.1 4 w 1) (rW m w))) := by
  rw [fX4_stroll_eq]; unfold fX4_stroll_b
  obtain ⟨hlt, he⟩ := inB_ex hp
  generalize hP : (m.1 4 w 1).toNatClampNeg = P at *
  have hl : Ok (loopF 1000 (fX4_stroll_b2 w c) 0 m) (fun _ m' => m' = upW m w (stN c (rW m w) P)) := by
    refine Ok.count 0 P (fun i s m' => s = nI i ∧ m' = upW m w (stN c (rW m w) i)) ?_ ?_ (by omega) 1000 (by omega) 0 m ⟨rfl, (upW_id m w).symm⟩
    · intro i s m' _ hi ⟨e1, e2⟩
      have hq : m'.1 4 w 1 = nI P := by
        rw [e2, ← he]; unfold upW; dsimp only; rw [upI_nn (by omega), upI_nn (by omega)]
      refine Ok.of (e_stroll_b w c s m' ?_) ?_
      · rw [hq, e1, n_le (by omega) (by omega)]; omega
      · show s + 1 = nI (i + 1) ∧ upW m' w (stp c (rW m' w)) = upW m w (stp c (stN c (rW m w) i))
        rw [e1, n_s, e2, rW_up, upW_up]
        exact ⟨rfl, rfl⟩
    · intro s m' ⟨e1, e2⟩
      have hq : m'.1 4 w 1 = nI P := by
        rw [e2, ← he]; unfold upW; dsimp only; rw [upI_nn (by omega), upI_nn (by omega)]
      unfold fX4_stroll_b2
      rw [if_pos (by rw [hq, e1, n_le (by omega) (by omega)]; omega)]
      exact Ok.ret e2
  obtain ⟨u, m', e, hm⟩ := hl
  rw [e]
  show some ((), m') = _
  rw [hm]
  unfold strl
  rw [hP]

/-! becoming, marking -/
theorem e_Wbecome (w v : Nat) (m : MM) : fX4_become w v m = some ((), (upI (upI (upI m.1 4 w 0 (m.1 4 v 0)) 4 w 1 (m.1 4 v 1)) 4 w 2 (m.1 4 v 2), m.2)) := by
  rw [fX4_become_eq]; unfold fX4_become_b
  rw [fX4_start_eq]; unfold fX4_start_b
  rfl
theorem upI_idx {m : MI} {c i k : Nat} {x : Int32} {c' i' k' : Nat} (h : x = m c' i' k') : upI m c i k x c' i' k' = m c' i' k' := by
  unfold upI; split
  · exact h
  · rfl
theorem e_Bbecome (b v : Nat) (m : MM) : fX0_become b v m = some ((), (upI (upI (upI (upI (upI m.1 0 b 0 (m.1 0 v 0)) 0 b 1 (m.1 0 v 1)) 0 b 2 (m.1 0 v 2)) 0 b 3 (m.1 0 v 3)) 0 b 4 (m.1 0 v 4), m.2)) := by
  rw [fX0_become_eq]; unfold fX0_become_b
  simp only [upI_k, ne_eq, not_false_eq_true, reduceCtorEq, Nat.reduceEqDiff, Nat.one_ne_zero, Nat.zero_ne_one]
theorem n_p1 (j : Nat) : nI (j + 1) - 1 = nI j := by
  rw [n_s, Int32.add_sub_cancel]
theorem e_mark (t d b : Nat) (m : MM) (hd : d < 61) : fX3_mark t (nI d) b m = some ((), (upI (upI m.1 41 t d (m.1 0 b 2)) 42 t d (m.1 0 b 4), m.2)) := by
  rw [fX3_mark_eq]; unfold fX3_mark_b
  rw [if_neg (n_ge0 (by omega)), if_neg (by rw [n_le (by omega) (by omega)]; omega), if_neg (by rw [n_le (by omega) (by omega)]; omega), inB_t hd (by omega), n_cl (by omega)]
  simp only [cond_true, upI_c, ne_eq, not_false_eq_true, reduceCtorEq, Nat.reduceEqDiff]
theorem cE_fr {D : Nat → Nat → Prop} {m m' : MM} (h : Fr D m m') (w : Nat) (h5 : ¬ D 5 w) (h4 : ¬ D 40 w) : cE m' w = cE m w := by
  unfold cE
  have : flw m' w = flw m w := by
    funext c; unfold flw; rw [(h 40 w h4 _).1]
  rw [this, (h 5 w h5 0).1, (h 5 w h5 1).1, (h 5 w h5 2).1]
/-- whom a bottle meets, day by day -/
def fOf (m : MM) (w : Nat) : Option Nat → Nat → Int32
  | none => fun _ => -1
  | some v => fun d => (simW (m.1 5 w 0) (m.1 4 v 1) (rW m v) d).1
def simC (m : MM) (w b : Nat) (f : Option Nat) (d : Nat) : CH := simB (cE m w) (m.1 0 b 0) (m.1 0 b 1) (fOf m w f) (rB m b) d
def Dfo (w t : Nat) : Nat → Nat → Prop := fun c i => (c = 0 ∧ i = 9 * w) ∨ (c = 4 ∧ i = 7 * w) ∨ (c = 41 ∧ i = t) ∨ (c = 42 ∧ i = t)
theorem follow_0 (w t b N : Nat) (m : MM) (hN : N < 61) : Ok (fX5_follow w t b none (nI N) m) (fun _ m' => (∀ d, d ≤ N → m'.1 41 t d = (simC m w b none d).1 ∧ m'.1 42 t d = (simC m w b none d).2) ∧ Fr (Dfo w t) m m') := by
  rw [fX5_follow_eq]; unfold fX5_follow_b fX5_follow_0
  dsimp only
  rw [e_Bbecome]
  generalize hm1 : (upI (upI (upI (upI (upI m.1 0 (9 * w) 0 (m.1 0 b 0)) 0 (9 * w) 1 (m.1 0 b 1)) 0 (9 * w) 2 (m.1 0 b 2)) 0 (9 * w) 3 (m.1 0 b 3)) 0 (9 * w) 4 (m.1 0 b 4), m.2) = m1
  have hD : Dfo w t 0 (9 * w) := Or.inl ⟨rfl, rfl⟩
  have f1 : Fr (Dfo w t) m m1 := by
    rw [← hm1]; exact Fr.up (Fr.up (Fr.up (Fr.up (Fr.up Fr.rfl hD _ _) hD _ _) hD _ _) hD _ _) hD _ _
  have q1 : rB m1 (9 * w) = rB m b := by
    rw [← hm1]; unfold rB; simp only [upI_same, upI_k, ne_eq, not_false_eq_true, reduceCtorEq, Nat.reduceEqDiff]
  have q2 : m1.1 0 (9 * w) 0 = m.1 0 b 0 ∧ m1.1 0 (9 * w) 1 = m.1 0 b 1 := by
    rw [← hm1]; simp only [upI_same, upI_k, ne_eq, not_false_eq_true, reduceCtorEq, Nat.reduceEqDiff, Nat.zero_ne_one, Nat.one_ne_zero, and_self]
  clear hm1
  simp only [Option.bind_some]
  unfold fX5_follow_j20
  rw [show (0 : Int32) = nI 0 from rfl, e_mark t 0 (9 * w) m1 (by omega)]
  simp only [Option.bind_some]
  refine Ok.bind (P := fun _ m' => (∀ d, d ≤ N → m'.1 41 t d = (simC m w b none d).1 ∧ m'.1 42 t d = (simC m w b none d).2) ∧ Fr (Dfo w t) m m') ?_ (fun _ m' h => Ok.ret h)
  refine Ok.count 1 (N + 1) (fun i s m' => s = nI i ∧ rB m' (9 * w) = simC m w b none (i - 1) ∧ (m'.1 0 (9 * w) 0 = m.1 0 b 0 ∧ m'.1 0 (9 * w) 1 = m.1 0 b 1) ∧ (∀ d, d < i → m'.1 41 t d = (simC m w b none d).1 ∧ m'.1 42 t d = (simC m w b none d).2) ∧ Fr (Dfo w t) m m') ?_ ?_ (by omega) 1000 (by omega) 1 _ ⟨rfl, ?_, ?_, ?_, ?_⟩
  · intro i s m' hi hi' ⟨es, e1, e2, e3, e4⟩
    obtain ⟨j, rfl⟩ : ∃ j, i = j + 1 := ⟨i - 1, by omega⟩
    subst es
    unfold fX5_follow_b32n3 fX5_follow_j54
    rw [if_neg (by rw [n_lt (by omega) (by omega)]; omega), e_dayBehind, n_p1]
    simp only [Option.bind_some]
    rw [e_spend]
    simp only [Option.bind_some]
    rw [e_mark t (j + 1) (9 * w) _ (by omega), (e4 5 w (by unfold Dfo; omega) 2).1, cE_fr e4 w (by unfold Dfo; omega) (by unfold Dfo; omega), e1, e2.1, e2.2]
    have hS : spd (cE m w) (mnI 999 (m.1 5 w 2 + nI j)) (m.1 0 b 0) (m.1 0 b 1) (-1) (simC m w b none (j + 1 - 1)) = simC m w b none (j + 1) := rfl
    rw [hS]
    refine Ok.ret ⟨(n_s _).symm, ?_, ?_, ?_, ?_⟩
    · show _ = simC m w b none (j + 1)
      unfold rB upB
      simp only [upI_same, upI_k, upI_c, ne_eq, not_false_eq_true, reduceCtorEq, Nat.reduceEqDiff, Nat.zero_ne_one, Nat.one_ne_zero, and_self]
    · unfold upB
      simp only [upI_same, upI_k, upI_c, ne_eq, not_false_eq_true, reduceCtorEq, Nat.reduceEqDiff, Nat.zero_ne_one, Nat.one_ne_zero, and_self, e2]
    · intro d hd
      unfold upB
      by_cases e : d = j + 1
      · subst e
        simp only [upI_same, upI_k, upI_c, ne_eq, not_false_eq_true, reduceCtorEq, Nat.reduceEqDiff, Nat.zero_ne_one, Nat.one_ne_zero, and_self]
      · have := e3 d (by omega)
        simp only [e, upI_k, upI_c, ne_eq, not_false_eq_true, reduceCtorEq, Nat.reduceEqDiff, this, and_self]
    · have h0 : Dfo w t 0 (9 * w) := Or.inl ⟨rfl, rfl⟩
      have h41 : Dfo w t 41 t := Or.inr (Or.inr (Or.inl ⟨rfl, rfl⟩))
      have h42 : Dfo w t 42 t := Or.inr (Or.inr (Or.inr ⟨rfl, rfl⟩))
      exact Fr.up (Fr.up (Fr.up (Fr.up e4 h0 _ _) h0 _ _) h41 _ _) h42 _ _
  · intro s m' ⟨es, e1, e2, e3, e4⟩
    unfold fX5_follow_b32n3
    rw [if_pos (by rw [es, n_lt (by omega) (by omega)]; omega)]
    exact Ok.ret ⟨fun d hd => e3 d (by omega), e4⟩
  · unfold rB
    simp only [upI_same, upI_k, upI_c, ne_eq, not_false_eq_true, reduceCtorEq, Nat.reduceEqDiff, Nat.zero_ne_one, Nat.one_ne_zero, and_self]
    exact q1
  · simp only [upI_same, upI_k, upI_c, ne_eq, not_false_eq_true, reduceCtorEq, Nat.reduceEqDiff, Nat.zero_ne_one, Nat.one_ne_zero, and_self]
    exact q2
  · intro d hd
    obtain rfl : d = 0 := by omega
    simp only [upI_same, upI_k, upI_c, ne_eq, not_false_eq_true, reduceCtorEq, Nat.reduceEqDiff, Nat.zero_ne_one, Nat.one_ne_zero, and_self]
    exact ⟨congrArg Prod.fst q1, congrArg Prod.snd q1⟩
  · have h41 : Dfo w t 41 t := Or.inr (Or.inr (Or.inl ⟨rfl, rfl⟩))
    have h42 : Dfo w t 42 t := Or.inr (Or.inr (Or.inr ⟨rfl, rfl⟩))
    exact Fr.up (Fr.up f1 h41 _ _) h42 _ _
/-- what a follower's memory holds at a day -/
def Jfo (m : MM) (w b v N t : Nat) (i : Nat) (m' : MM) : Prop :=
  rB m' (9 * w) = simC m w b (some v) i ∧ (m'.1 0 (9 * w) 0 = m.1 0 b 0 ∧ m'.1 0 (9 * w) 1 = m.1 0 b 1) ∧ rW m' (7 * w) = simW (m.1 5 w 0) (m.1 4 v 1) (rW m v) i ∧ m'.1 4 (7 * w) 1 = m.1 4 v 1 ∧ Fr (Dfo w t) m m'
theorem Jfo.begin (m : MM) (w b v N t : Nat) : Ok ((fX0_become (9 * w) b m).bind fun o => fX4_become (7 * w) v o.2) (fun _ m' => Jfo m w b v N t 0 m') := by
  rw [e_Bbecome]
  simp only [Option.bind_some]
  rw [e_Wbecome]
  have h0 : Dfo w t 0 (9 * w) := Or.inl ⟨rfl, rfl⟩
  have h4 : Dfo w t 4 (7 * w) := Or.inr (Or.inl ⟨rfl, rfl⟩)
  refine Ok.ret ⟨?_, ?_, ?_, ?_, ?_⟩
  · show _ = rB m b
    unfold rB; simp only [upI_same, upI_k, upI_c, ne_eq, not_false_eq_true, reduceCtorEq, Nat.reduceEqDiff, Nat.zero_ne_one, Nat.one_ne_zero, and_self]
  · simp only [upI_same, upI_k, upI_c, ne_eq, not_false_eq_true, reduceCtorEq, Nat.reduceEqDiff, Nat.zero_ne_one, Nat.one_ne_zero, and_self]
  · show _ = rW m v
    unfold rW; simp only [upI_same, upI_k, upI_c, ne_eq, not_false_eq_true, reduceCtorEq, Nat.reduceEqDiff, Nat.zero_ne_one, Nat.one_ne_zero, and_self]
  · simp only [upI_same, upI_k, upI_c, ne_eq, not_false_eq_true, reduceCtorEq, Nat.reduceEqDiff, Nat.zero_ne_one, Nat.one_ne_zero, and_self]
  · exact Fr.up (Fr.up (Fr.up (Fr.up (Fr.up (Fr.up (Fr.up (Fr.up Fr.rfl h0 _ _) h0 _ _) h0 _ _) h0 _ _) h0 _ _) h4 _ _) h4 _ _) h4 _ _
/-- a day: the walker, then the bottle -/
theorem Jfo.day {m : MM} {w b v N t j : Nat} {m' : MM} (hp : inB (m.1 4 v 1) 100 = true) (h : Jfo m w b v N t j m') :
    fX4_stroll (7 * w) (m'.1 5 w 0) m' = some ((), upW m' (7 * w) (simW (m.1 5 w 0) (m.1 4 v 1) (rW m v) (j + 1))) ∧
    fX5_dayBehind w (nI j) (upW m' (7 * w) (simW (m.1 5 w 0) (m.1 4 v 1) (rW m v) (j + 1))) = some (mnI 999 (m.1 5 w 2 + nI j), upW m' (7 * w) (simW (m.1 5 w 0) (m.1 4 v 1) (rW m v) (j + 1))) ∧
    fX5_spend w (9 * w) (mnI 999 (m.1 5 w 2 + nI j)) (simW (m.1 5 w 0) (m.1 4 v 1) (rW m v) (j + 1)).1 (upW m' (7 * w) (simW (m.1 5 w 0) (m.1 4 v 1) (rW m v) (j + 1))) = some ((), upB (upW m' (7 * w) (simW (m.1 5 w 0) (m.1 4 v 1) (rW m v) (j + 1))) (9 * w) (simC m w b (some v) (j + 1))) ∧
    Jfo m w b v N t (j + 1) (upB (upW m' (7 * w) (simW (m.1 5 w 0) (m.1 4 v 1) (rW m v) (j + 1))) (9 * w) (simC m w b (some v) (j + 1))) := by
  obtain ⟨e1, e2, e3, e4, e5⟩ := h
  have h0 : Dfo w t 0 (9 * w) := Or.inl ⟨rfl, rfl⟩
  have h4 : Dfo w t 4 (7 * w) := Or.inr (Or.inl ⟨rfl, rfl⟩)
  have f1 : Fr (Dfo w t) m (upW m' (7 * w) (simW (m.1 5 w 0) (m.1 4 v 1) (rW m v) (j + 1))) := Fr.up (Fr.up e5 h4 _ _) h4 _ _
  refine ⟨?_, ?_, ?_, ?_, ?_, ?_, ?_, ?_⟩
  · rw [e_stroll _ _ _ (by rw [e4]; exact hp), e3, e4, (e5 5 w (by unfold Dfo; omega) 0).1]
    rfl
  · rw [e_dayBehind, (f1 5 w (by unfold Dfo; omega) 2).1]
  · rw [e_spend, cE_fr f1 w (by unfold Dfo; omega) (by unfold Dfo; omega)]
    have a1 : rB (upW m' (7 * w) (simW (m.1 5 w 0) (m.1 4 v 1) (rW m v) (j + 1))) (9 * w) = simC m w b (some v) j := by
      rw [← e1]; unfold rB upW; simp only [upI_same, upI_k, upI_c, ne_eq, not_false_eq_true, reduceCtorEq, Nat.reduceEqDiff, Nat.zero_ne_one, Nat.one_ne_zero, and_self]
    have a2 : (upW m' (7 * w) (simW (m.1 5 w 0) (m.1 4 v 1) (rW m v) (j + 1))).1 0 (9 * w) 0 = m.1 0 b 0 ∧ (upW m' (7 * w) (simW (m.1 5 w 0) (m.1 4 v 1) (rW m v) (j + 1))).1 0 (9 * w) 1 = m.1 0 b 1 := by
      rw [← e2.1, ← e2.2]; unfold upW; simp only [upI_same, upI_k, upI_c, ne_eq, not_false_eq_true, reduceCtorEq, Nat.reduceEqDiff, Nat.zero_ne_one, Nat.one_ne_zero, and_self]
    rw [a1, a2.1, a2.2]
    rfl
  · unfold rB upB; simp only [upI_same, upI_k, upI_c, ne_eq, not_false_eq_true, reduceCtorEq, Nat.reduceEqDiff, Nat.zero_ne_one, Nat.one_ne_zero, and_self]
  · unfold upB upW; simp only [upI_same, upI_k, upI_c, ne_eq, not_false_eq_true, reduceCtorEq, Nat.reduceEqDiff, Nat.zero_ne_one, Nat.one_ne_zero, and_self, e2]
  · unfold rW upB upW; simp only [upI_same, upI_k, upI_c, ne_eq, not_false_eq_true, reduceCtorEq, Nat.reduceEqDiff, Nat.zero_ne_one, Nat.one_ne_zero, and_self]
  · unfold upB upW; simp only [upI_same, upI_k, upI_c, ne_eq, not_false_eq_true, reduceCtorEq, Nat.reduceEqDiff, Nat.zero_ne_one, Nat.one_ne_zero, and_self, e4]
  · exact Fr.up (Fr.up f1 h0 _ _) h0 _ _
theorem Jfo.trk {m : MM} {w b v N t i : Nat} {m' : MM} (h : Jfo m w b v N t i m') (d : Nat) (x y : Int32) : Jfo m w b v N t i (upI (upI m'.1 41 t d x) 42 t d y, m'.2) := by
  have h41 : Dfo w t 41 t := Or.inr (Or.inr (Or.inl ⟨rfl, rfl⟩))
  have h42 : Dfo w t 42 t := Or.inr (Or.inr (Or.inr ⟨rfl, rfl⟩))
  obtain ⟨e1, e2, e3, e4, e5⟩ := h
  refine ⟨?_, ?_, ?_, ?_, Fr.up (Fr.up e5 h41 _ _) h42 _ _⟩
  · rw [← e1]; unfold rB; simp only [upI_same, upI_k, upI_c, ne_eq, not_false_eq_true, reduceCtorEq, Nat.reduceEqDiff, Nat.zero_ne_one, Nat.one_ne_zero, and_self]
  · simp only [upI_same, upI_k, upI_c, ne_eq, not_false_eq_true, reduceCtorEq, Nat.reduceEqDiff, Nat.zero_ne_one, Nat.one_ne_zero, and_self, e2]
  · rw [← e3]; unfold rW; simp only [upI_same, upI_k, upI_c, ne_eq, not_false_eq_true, reduceCtorEq, Nat.reduceEqDiff, Nat.zero_ne_one, Nat.one_ne_zero, and_self]
  · simp only [upI_same, upI_k, upI_c, ne_eq, not_false_eq_true, reduceCtorEq, Nat.reduceEqDiff, Nat.zero_ne_one, Nat.one_ne_zero, and_self, e4]
theorem follow_1 (w t b v N : Nat) (m : MM) (hN : N < 61) (hp : inB (m.1 4 v 1) 100 = true) : Ok (fX5_follow w t b (some v) (nI N) m) (fun _ m' => (∀ d, d ≤ N → m'.1 41 t d = (simC m w b (some v) d).1 ∧ m'.1 42 t d = (simC m w b (some v) d).2) ∧ Fr (Dfo w t) m m') := by
  rw [fX5_follow_eq]; unfold fX5_follow_b fX5_follow_1
  dsimp only
  obtain ⟨_, m1, hb, j1⟩ := Jfo.begin m w b v N t
  have h41 : Dfo w t 41 t := Or.inr (Or.inr (Or.inl ⟨rfl, rfl⟩))
  have h42 : Dfo w t 42 t := Or.inr (Or.inr (Or.inr ⟨rfl, rfl⟩))
  rw [← Option.bind_assoc, hb]
  simp only [Option.bind_some]
  unfold fX5_follow_j20_2
  rw [show (0 : Int32) = nI 0 from rfl, e_mark t 0 (9 * w) m1 (by omega)]
  simp only [Option.bind_some]
  refine Ok.bind (P := fun _ m' => (∀ d, d ≤ N → m'.1 41 t d = (simC m w b (some v) d).1 ∧ m'.1 42 t d = (simC m w b (some v) d).2) ∧ Fr (Dfo w t) m m') ?_ (fun _ m' h => Ok.ret h)
  refine Ok.count 1 (N + 1) (fun i s m' => s = nI i ∧ Jfo m w b v N t (i - 1) m' ∧ (∀ d, d < i → m'.1 41 t d = (simC m w b (some v) d).1 ∧ m'.1 42 t d = (simC m w b (some v) d).2)) ?_ ?_ (by omega) 1000 (by omega) 1 _ ⟨rfl, ?_, ?_⟩
  · intro i s m' hi hi' ⟨es, e1, e3⟩
    obtain ⟨j, rfl⟩ : ∃ j, i = j + 1 := ⟨i - 1, by omega⟩
    subst es
    unfold fX5_follow_b32 fX5_follow_j54_3_32
    obtain ⟨d1, d2, d3, d4⟩ := Jfo.day hp e1
    simp only [Nat.add_sub_cancel] at d1 d2 d3 d4
    rw [if_neg (by rw [n_lt (by omega) (by omega)]; omega), n_p1, d1]
    simp only [Option.bind_some]
    rw [d2]
    simp only [Option.bind_some]
    have a1 : (upW m' (7 * w) (simW (m.1 5 w 0) (m.1 4 v 1) (rW m v) (j + 1))).1 4 (7 * w) 0 = (simW (m.1 5 w 0) (m.1 4 v 1) (rW m v) (j + 1)).1 := by
      unfold upW; simp only [upI_same, upI_k, upI_c, ne_eq, not_false_eq_true, reduceCtorEq, Nat.reduceEqDiff, Nat.zero_ne_one, Nat.one_ne_zero, and_self]
    rw [a1, d3]
    simp only [Option.bind_some]
    rw [e_mark t (j + 1) (9 * w) _ (by omega)]
    have a2 : ∀ d, d < j + 1 → (upB (upW m' (7 * w) (simW (m.1 5 w 0) (m.1 4 v 1) (rW m v) (j + 1))) (9 * w) (simC m w b (some v) (j + 1))).1 41 t d = m'.1 41 t d ∧ (upB (upW m' (7 * w) (simW (m.1 5 w 0) (m.1 4 v 1) (rW m v) (j + 1))) (9 * w) (simC m w b (some v) (j + 1))).1 42 t d = m'.1 42 t d := by
      intro d _
      unfold upB upW; simp only [upI_same, upI_k, upI_c, ne_eq, not_false_eq_true, reduceCtorEq, Nat.reduceEqDiff, Nat.zero_ne_one, Nat.one_ne_zero, and_self]
    generalize upB (upW m' (7 * w) (simW (m.1 5 w 0) (m.1 4 v 1) (rW m v) (j + 1))) (9 * w) (simC m w b (some v) (j + 1)) = m2 at *
    refine Ok.ret ⟨(n_s _).symm, d4.trk _ _ _, ?_⟩
    intro d hd
    by_cases e : d = j + 1
    · subst e
      simp only [upI_same, upI_k, upI_c, ne_eq, not_false_eq_true, reduceCtorEq, Nat.reduceEqDiff, Nat.zero_ne_one, Nat.one_ne_zero, and_self]
      exact ⟨congrArg Prod.fst d4.1, congrArg Prod.snd d4.1⟩
    · have := e3 d (by omega)
      simp only [e, upI_same, upI_k, upI_c, ne_eq, not_false_eq_true, reduceCtorEq, Nat.reduceEqDiff, Nat.zero_ne_one, Nat.one_ne_zero, and_self, (a2 d (by omega)).1, (a2 d (by omega)).2, this]
  · intro s m' ⟨es, e1, e3⟩
    unfold fX5_follow_b32
    rw [if_pos (by rw [es, n_lt (by omega) (by omega)]; omega)]
    exact Ok.ret ⟨fun d hd => e3 d (by omega), e1.2.2.2.2⟩
  · exact j1.trk _ _ _
  · intro d hd
    obtain rfl : d = 0 := by omega
    simp only [upI_same, upI_k, upI_c, ne_eq, not_false_eq_true, reduceCtorEq, Nat.reduceEqDiff, Nat.zero_ne_one, Nat.one_ne_zero, and_self]
    exact ⟨congrArg Prod.fst j1.1, congrArg Prod.snd j1.1⟩
theorem simB_cons {e : Ev} {kind a : Int32} {f : Nat → Int32} {s : CH} {d k : Nat} (h : ¬ (simB e kind a f s d).2 = 0) (hk : d ≤ k) : simB e kind a f s k = simB e kind a f s d := by
  obtain ⟨j, rfl⟩ : ∃ j, k = d + j := ⟨k - d, by omega⟩
  exact simB_end h j
def Dso (w : Nat) : Nat → Nat → Prop := fun c i => (c = 0 ∧ i = 9 * w) ∨ (c = 4 ∧ i = 7 * w)
/-- behind how many days found: in so many days -/
def tilC (m : MM) (w b v N : Nat) : Int32 := fst1 (fun d => decide ((simC m w b (some v) d).2 = 1)) (N + 1) 0
theorem Jfo.fr {m : MM} {w b v N t i : Nat} {m' : MM} (h : Jfo m w b v N t i m') : Fr (Dfo w t) m m' := h.2.2.2.2
theorem soonest_1 (t w b v N : Nat) (m : MM) (hN : N < 100) (hp : inB (m.1 4 v 1) 100 = true) : Ok (fX5_soonest w b (some v) (nI N) m) (fun r m' => r = tilC m w b v N ∧ Fr (Dfo w t) m m') := by
  rw [fX5_soonest_eq]; unfold fX5_soonest_b fX5_soonest_1
  dsimp only
  by_cases h1 : m.1 0 b 4 = 1
  · rw [if_neg (by rw [h1]; decide)]
    refine Ok.ret ⟨(fst1_some (N + 1) 0 0 (fun y h h' => by omega) (Nat.le_refl _) (by omega) ?_).symm, Fr.rfl⟩
    exact decide_eq_true h1
  · rw [if_pos h1]
    obtain ⟨_, m1, hb, j1⟩ := Jfo.begin m w b v N t
    rw [← Option.bind_assoc, hb]
    simp only [Option.bind_some]
    refine Ok.bind (P := fun o m' => (match o with | .inl _ => -1 | .inr x => x) = tilC m w b v N ∧ Fr (Dfo w t) m m') ?_ ?_
    · refine Ok.count 1 (N + 1) (fun i s m' => s = nI i ∧ Jfo m w b v N t (i - 1) m' ∧ (∀ d, d < i → ¬ (simC m w b (some v) d).2 = 1)) ?_ ?_ (by omega) 1000 (by omega) 1 _ ⟨rfl, j1, ?_⟩
      · intro i s m' hi hi' ⟨es, e1, e3⟩
        obtain ⟨j, rfl⟩ : ∃ j, i = j + 1 := ⟨i - 1, by omega⟩
        subst es
        unfold fX5_soonest_b35
        obtain ⟨d1, d2, d3, d4⟩ := Jfo.day hp e1
        simp only [Nat.add_sub_cancel] at d1 d2 d3 d4 e1
        rw [if_neg (by rw [n_lt (by omega) (by omega)]; omega), n_p1]
        have a0 : m'.1 0 (9 * w) 4 = (simC m w b (some v) j).2 := congrArg Prod.snd e1.1
        by_cases h0 : m'.1 0 (9 * w) 4 = 0
        · rw [if_neg (by rw [h0]; decide), d1]
          simp only [Option.bind_some]
          rw [d2]
          simp only [Option.bind_some]
          have a1 : (upW m' (7 * w) (simW (m.1 5 w 0) (m.1 4 v 1) (rW m v) (j + 1))).1 4 (7 * w) 0 = (simW (m.1 5 w 0) (m.1 4 v 1) (rW m v) (j + 1)).1 := by
            unfold upW; simp only [upI_same, upI_k, upI_c, ne_eq, not_false_eq_true, reduceCtorEq, Nat.reduceEqDiff, Nat.zero_ne_one, Nat.one_ne_zero, and_self]
          rw [a1, d3]
          simp only [Option.bind_some]
          have a2 : (upB (upW m' (7 * w) (simW (m.1 5 w 0) (m.1 4 v 1) (rW m v) (j + 1))) (9 * w) (simC m w b (some v) (j + 1))).1 0 (9 * w) 4 = (simC m w b (some v) (j + 1)).2 := congrArg Prod.snd d4.1
          rw [a2]
          by_cases h2 : (simC m w b (some v) (j + 1)).2 = 1
          · rw [if_neg (by rw [h2]; decide)]
            refine Ok.ret ⟨(fst1_some (N + 1) 0 (j + 1) (fun y h h' => decide_eq_false (e3 y h')) (by omega) (by omega) (decide_eq_true h2)).symm, d4.fr⟩
          · rw [if_pos h2]
            refine Ok.ret ⟨(n_s _).symm, d4, fun d hd => ?_⟩
            by_cases e : d = j + 1
            · rw [e]; exact h2
            · exact e3 d (by omega)
        · rw [if_pos h0]
          refine Ok.ret ⟨(fst1_none (N + 1) 0 (fun x _ hx => decide_eq_false ?_)).symm, e1.fr⟩
          by_cases e : x < j + 1
          · exact e3 x e
          · rw [a0] at h0
            unfold simC at h0 ⊢
            rw [simB_cons h0 (by omega)]
            exact e3 j (by omega)
      · intro s m' ⟨es, e1, e3⟩
        unfold fX5_soonest_b35
        rw [if_pos (by rw [es, n_lt (by omega) (by omega)]; omega)]
        exact Ok.ret ⟨(fst1_none (N + 1) 0 (fun x _ hx => decide_eq_false (e3 x (by omega)))).symm, e1.fr⟩
      · intro d hd
        obtain rfl : d = 0 := by omega
        exact h1
    · intro o m' h
      cases o with
      | inl x => exact Ok.ret h
      | inr x => exact Ok.ret h
theorem e_walkerAt (w : Nat) (x : Int32) (nw : Nat) (m : MM) (h : m.1 5 w 6 = nI nw) (hn : nw ≤ 6) : fX5_walkerAt w x m = some (if inB x nw = true then some (7 * w + 1 + x.toNatClampNeg) else none, m) := by
  rw [fX5_walkerAt_eq]; unfold fX5_walkerAt_b
  rw [h, inB_hi x nw (by omega)]
  by_cases e : inB x nw = true
  · have h6 : inB x 6 = true := inB_mono e hn
    rw [if_pos e, if_pos e, h6, if_neg]
    · rfl
    · have := (inB_iff x 6).1 h6
      rw [Int32.le_iff_toInt_le, n_ti (by decide)]; omega
  · rw [if_neg e, if_neg e]
theorem e_bottleAt (w : Nat) (x : Int32) (nb : Nat) (m : MM) (h : m.1 5 w 5 = nI nb) (hn : nb ≤ 8) : fX5_bottleAt w x m = some (if inB x nb = true then some (9 * w + 1 + x.toNatClampNeg) else none, m) := by
  rw [fX5_bottleAt_eq]; unfold fX5_bottleAt_b
  rw [h, inB_hi x nb (by omega)]
  by_cases e : inB x nb = true
  · have h6 : inB x 8 = true := inB_mono e hn
    rw [if_pos e, if_pos e, h6, if_neg]
    · rfl
    · have := (inB_iff x 8).1 h6
      rw [Int32.le_iff_toInt_le, n_ti (by decide)]; omega
  · rw [if_neg e, if_neg e]
