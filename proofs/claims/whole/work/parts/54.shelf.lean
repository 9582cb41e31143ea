/-! PURE: shelves -/
theorem RelT_fr {D : Nat → Nat → Nat → Prop} {m m' : MM} (h : RelT m) (f : ∀ c i k, ¬ D c i k → m'.1 c i k = m.1 c i k) (h1 : ¬ D 2 0 0) (h2 : ¬ D 7 0 13) (h3 : ∀ k, ¬ D 45 0 k) (h4 : ∀ k, ¬ D 58 0 k) : RelT m' := by
  obtain ⟨tp, t1, t2, t3, t4⟩ := h
  refine ⟨tp, t1, (f 2 0 0 h1).trans t2, (f 7 0 13 h2).trans t3, fun k hk => ?_⟩
  rw [f 45 0 k (h3 k), f 58 0 k (h4 k)]
  exact t4 k hk
theorem RelW_fr' {D : Nat → Nat → Nat → Prop} {m m' : MM} {w : Nat} {v : Nat → Int32} {nb nw : Nat} (h : RelW m.1 w nb nw v) (f : ∀ c i k, ¬ D c i k → m'.1 c i k = m.1 c i k) (h5 : ∀ k, k < 7 → ¬ D 5 w k) (h4 : ∀ k, k < 30 → ¬ D 40 w k) (h0 : ∀ b k, b < nb → k < 5 → ¬ D 0 (9 * w + 1 + b) k) (hW : ∀ b k, b < nw → k < 3 → ¬ D 4 (7 * w + 1 + b) k) : RelW m'.1 w nb nw v :=
  RelW_fr (m' := (m'.1, m.2)) h (D := D) ⟨f, rfl⟩ h5 h4 h0 hW
theorem RelI_fr {D : Nat → Nat → Nat → Prop} {m m' : MM} (h : RelI m) (f : ∀ c i k, ¬ D c i k → m'.1 c i k = m.1 c i k) (h1 : ¬ D 6 0 3) (h2 : ¬ D 7 0 23) (h3 : ∀ k, ¬ D 62 0 k) (h5 : ∀ k, k < 7 → ¬ D 5 1 k) (h4 : ∀ k, k < 30 → ¬ D 40 1 k) (h0 : ∀ b k, b < 8 → k < 5 → ¬ D 0 (10 + b) k) (hW : ∀ b k, b < 6 → k < 3 → ¬ D 4 (8 + b) k) : RelI m' := by
  have e62 : m'.1 62 0 = m.1 62 0 := by funext k; exact f 62 0 k (h3 k)
  unfold RelI
  rw [f 6 0 3 h1, f 7 0 23 h2, e62]
  rcases h with h | ⟨a, b, nb', nw', nc', c, d⟩
  · exact Or.inl h
  · have q1 := c.2.1
    have q2 := c.2.2.2.1
    exact Or.inr ⟨a, b, nb', nw', nc', c, RelW_fr' d f h5 h4 (fun b k hb hk => h0 b k (by omega) hk) (fun b k hb hk => hW b k (by omega) hk)⟩
theorem RelN_fr {D : Nat → Nat → Nat → Prop} {m m' : MM} (h : RelN m) (f : ∀ c i k, ¬ D c i k → m'.1 c i k = m.1 c i k) (h1 : ∀ k, ¬ D 47 0 k) (h2 : ∀ k, ¬ D 61 0 k) : RelN m' := by
  intro k hk
  rw [f 47 0 k (h1 k), f 61 0 (2 + k) (h2 _)]
  exact h k hk
theorem RelK_fr {D : Nat → Nat → Nat → Prop} {m m' : MM} (h : RelK m) (f : ∀ c i k, ¬ D c i k → m'.1 c i k = m.1 c i k) (h1 : ∀ k, ¬ D 32 0 k) (h2 : ∀ c i k, 30 ≤ c → c ≤ 31 → ¬ D c i k) : RelK m' := by
  obtain ⟨a1, a2, a3, a4, a5, a6, a7⟩ := h
  refine ⟨(f 32 0 0 (h1 _)).trans a1, (f 32 0 1 (h1 _)).trans a2, (f 32 0 2 (h1 _)).trans a3, (f 32 0 3 (h1 _)).trans a4, (f 32 0 4 (h1 _)).trans a5, (f 32 0 5 (h1 _)).trans a6, ?_⟩
  intro a ha
  refine ⟨(f 31 a 1 (h2 31 _ _ (by omega) (by omega))).trans (a7 a ha).1, fun j hj => ?_⟩
  exact (f 30 a j (h2 30 _ _ (by omega) (by omega))).trans ((a7 a ha).2 j hj)
theorem RelS_fr {D : Nat → Nat → Nat → Prop} {m m' : MM} {nb : Nat} (h : RelS m nb) (f : ∀ c i k, ¬ D c i k → m'.1 c i k = m.1 c i k) (f2 : m'.2 = m.2) (h1 : ∀ i k, ¬ D 1 i k) (h2 : ∀ k, ¬ D 59 0 k) (h3 : ∀ k, ¬ D 60 0 k) : RelS m' nb := by
  intro s hs
  rw [f 1 s 0 (h1 _ _), f 1 s 1 (h1 _ _), f 59 0 s (h2 _), f 60 0 s (h3 _), f2]
  exact h s hs
theorem Lv_fr' {v : Nat → Int32} {D : Nat → Nat → Nat → Prop} {m m' : MM} (h : Lv v m) (f : ∀ c i k, ¬ D c i k → m'.1 c i k = m.1 c i k) (hd : ∀ c i k, Dlv c i k → ¬ D c i k) : Lv v m' :=
  Lv_fr (m' := (m'.1, m.2)) h (D := D) ⟨f, rfl⟩ hd
/-- only shelves have changed -/
theorem Rlt_S {v : Nat → Int32} {nb nw nc : Nat} {m m' : MM} (h : Rlt v nb nw nc m) (f : ∀ c i k, ¬ (c = 1 ∨ c = 59 ∨ c = 60) → m'.1 c i k = m.1 c i k) (hS : RelS m' nb) : Rlt v nb nw nc m' := by
  obtain ⟨⟨h1, h2, h3, h4, h5, h6, h8⟩, h7⟩ := h
  refine ⟨⟨h1, Lv_fr' (D := fun c _ _ => c = 1 ∨ c = 59 ∨ c = 60) h2 f (by unfold Dlv; omega), RelW_fr' (D := fun c _ _ => c = 1 ∨ c = 59 ∨ c = 60) h3 f (by omega) (by omega) (by omega) (by omega), hS, RelT_fr (D := fun c _ _ => c = 1 ∨ c = 59 ∨ c = 60) h5 f (by omega) (by omega) (by omega) (by omega), RelI_fr (D := fun c _ _ => c = 1 ∨ c = 59 ∨ c = 60) h6 f (by omega) (by omega) (by omega) (by omega) (by omega) (by omega) (by omega), RelK_fr (D := fun c _ _ => c = 1 ∨ c = 59 ∨ c = 60) h8 f (by omega) (by omega)⟩, RelN_fr (D := fun c _ _ => c = 1 ∨ c = 59 ∨ c = 60) h7 f (by omega) (by omega)⟩
theorem e1_isRow (s : Nat) (m : MM) : fX1_isRow s m = some (inB (m.1 1 s 0) 5, m) := by
  rw [fX1_isRow_eq]; unfold fX1_isRow_b
  rw [show (4 : Int32) = nI 4 from rfl, inB_lo _ 4 (by omega)]
  cases inB (m.1 1 s 0) (4 + 1) <;> rfl
theorem e1_isEmpty (s : Nat) (m : MM) : fX1_isEmpty s m = some (decide (m.1 1 s 0 = -1), m) := by
  rw [fX1_isEmpty_eq]; unfold fX1_isEmpty_b
  by_cases e : m.1 1 s 0 = -1
  · rw [if_neg (fun h => h e), decide_eq_true e]
  · rw [if_pos e, decide_eq_false e]
theorem e1_hasPlace (s sz : Nat) (i : Int32) (m : MM) (h : m.1 1 s 1 = nI sz) (hs : sz ≤ 40) : fX1_hasPlace s i m = some (inB i sz, m) := by
  rw [fX1_hasPlace_eq]; unfold fX1_hasPlace_b
  rw [h, inB_hi i sz (by omega)]
  by_cases e : inB i sz = true
  · rw [if_pos e, if_neg, e]
    have := (inB_iff i sz).1 e
    rw [Int32.le_iff_toInt_le, n_ti (by decide)]; omega
  · rw [if_neg e, Bool.eq_false_iff.2 e]
theorem RelS.sz {m : MM} {nb s : Nat} (h : RelS m nb) (hs : s < 8) : ∃ sz, sz ≤ 40 ∧ m.1 1 s 1 = nI sz ∧ m.1 60 0 s = nI sz := by
  obtain ⟨_, a2, _, _, a5⟩ := h s hs
  obtain ⟨x, y⟩ := inB_ex a5
  exact ⟨_, by omega, y, a2 ▸ y⟩
theorem i40 (s i : Nat) : (40 : Int32) * nI s + nI i = nI (40 * s + i) := by
  rw [show (40 : Int32) = nI 40 from rfl, ← n_mul, ← n_add]
/-- both only ask; the reference asks what the class has left -/
theorem Eq2.ask' {α : Type} {F G : MM → Option (α × MM)} {m : MM} {v : Nat → Int32} {nb nw nc : Nat} (h : Rlt v nb nw nc m) (x : α) (hF : Ok (F m) (fun r m' => r = x ∧ FrP ScrC m m')) (hG : ∀ m1, Rlt v nb nw nc m1 → FrP ScrC m m1 → Ok (G m1) (fun r m' => r = x ∧ FrP Scr m1 m')) : Eq2 F G m := by
  refine hF.mono ?_
  intro r m1 ⟨e, f⟩
  refine (hG m1 (Rel_frC h f) f).mono ?_
  intro r' m2 ⟨e', f'⟩
  obtain ⟨v', _, h'⟩ := Rel_fr (Rel_frC h f) f'
  refine ⟨e.trans e'.symm, ⟨v', nb, nw, nc, h'⟩, ?_⟩
  have a : m2.1 33 = m1.1 33 := by funext i k; exact f'.1 33 i k (by unfold Scr; omega)
  have b : m1.1 33 = m.1 33 := by funext i k; exact f.1 33 i k (by unfold ScrC; omega)
  rw [a, b]
/-- a shelf as the reference has it, behind what the class did not change -/
theorem RelS.at {m m1 : MM} {nb s : Nat} (h : RelS m1 nb) (hs : s < 8) (f : FrP ScrC m m1) : m1.1 59 0 s = m.1 1 s 0 ∧ m1.1 60 0 s = m.1 1 s 1 ∧ ∀ k, k < 40 → m1.2 21 0 (40 * s + k) = m.2 20 s k := by
  obtain ⟨a1, a2, a3, _, _⟩ := h s hs
  refine ⟨?_, ?_, fun k hk => ?_⟩
  · rw [← a1]; exact f.1 1 s 0 (by unfold ScrC; omega)
  · rw [← a2]; exact f.1 1 s 1 (by unfold ScrC; omega)
  · rw [← a3 k hk, f.2]
/-! element, holds -/
theorem op_element {v : Nat → Int32} {nb nw nc : Nat} {m : MM} (h : Rlt v nb nw nc m) (x y : Int32) : Eq2 (fX6_element 0 x y) (fX7_element 0 x y) m := by
  cases hx : inB x 8
  · refine Eq2.ask h 0 ?_ ?_
    · rw [fX6_element_eq]; unfold fX6_element_b
      simp only [e6_shelfAt, hx, Option.bind_some, bind_eta, reduceCtorEq, if_false]
      exact Ok.ret ⟨rfl, FrP.rfl⟩
    · intro m1 h1
      rw [fX7_element_eq]; unfold fX7_element_b
      simp only [e7_isShelf, hx, Option.bind_some, bind_eta, bI_0, if_true]
      exact Ok.ret ⟨rfl, FrP.rfl⟩
  · obtain ⟨hs, e⟩ := inB_ex hx
    generalize x.toNatClampNeg = s at hs e
    subst e
    have cl : (nI s).toNatClampNeg = s := n_cl (by omega)
    obtain ⟨sz, z1, z2, z3⟩ := h.1.2.2.2.1.sz hs
    refine Eq2.ask' h (if inB (m.1 1 s 0) 5 = true ∧ inB y sz = true then m.2 20 s y.toNatClampNeg else 0) ?_ ?_
    · rw [fX6_element_eq]; unfold fX6_element_b
      simp only [e6_shelfAt, hx, Option.bind_some, bind_eta, reduceCtorEq, if_true, cl]
      rw [fX1_take_eq]; unfold fX1_take_b
      simp only [e1_isRow, e1_hasPlace s sz y m z2 z1, Option.bind_some, bI_0]
      cases q1 : inB (m.1 1 s 0) 5
      · rw [if_pos rfl, if_neg (by simp only [reduceCtorEq, false_and, not_false_eq_true])]; exact Ok.ret ⟨rfl, FrP.rfl⟩
      · cases q2 : inB y sz
        · rw [if_neg (by decide), if_pos rfl, if_neg (by simp only [reduceCtorEq, and_false, not_false_eq_true])]; exact Ok.ret ⟨rfl, FrP.rfl⟩
        · rw [if_neg (by decide), if_neg (by decide), if_pos ⟨rfl, rfl⟩, inB_mono q2 z1]; exact Ok.ret ⟨rfl, FrP.rfl⟩
    · intro m1 h1 hf
      obtain ⟨s1, s2, s3⟩ := h1.1.2.2.2.1.at hs hf
      rw [fX7_element_eq]; unfold fX7_element_b
      simp only [e7_isShelf, hx, e7_isRow m1 hs, s1, Option.bind_some, bind_eta, bI_0, reduceCtorEq, if_false, hx, cl, cond_true]
      rw [s2, z2, e7_within y sz m1 (by omega)]
      simp only [Option.bind_some, bI_0]
      cases q1 : inB (m.1 1 s 0) 5
      · rw [if_pos rfl, if_neg (by simp only [reduceCtorEq, false_and, not_false_eq_true])]; exact Ok.ret ⟨rfl, FrP.rfl⟩
      · cases q2 : inB y sz
        · rw [if_neg (by decide), if_pos rfl, if_neg (by simp only [reduceCtorEq, and_false, not_false_eq_true])]; exact Ok.ret ⟨rfl, FrP.rfl⟩
        · obtain ⟨hi, e⟩ := inB_ex q2
          rw [if_neg (by decide), if_neg (by decide), if_pos ⟨rfl, rfl⟩]
          generalize y.toNatClampNeg = i at hi e
          subst e
          rw [i40, inB_t (show 40 * s + i < 320 by omega) (by omega), n_cl (by omega), s3 i (by omega)]; exact Ok.ret ⟨rfl, FrP.rfl⟩
theorem op_holds {v : Nat → Int32} {nb nw nc : Nat} {m : MM} (h : Rlt v nb nw nc m) (x : Int32) : Eq2 (fX6_holds 0 x) (fX7_holds 0 x) m := by
  cases hx : inB x 8
  · refine Eq2.ask h (-1) ?_ ?_
    · rw [fX6_holds_eq]; unfold fX6_holds_b
      simp only [e6_shelfAt, hx, Option.bind_some, bind_eta, reduceCtorEq, if_false]
      exact Ok.ret ⟨rfl, FrP.rfl⟩
    · intro m1 h1
      rw [fX7_holds_eq]; unfold fX7_holds_b
      simp only [e7_isShelf, hx, Option.bind_some, bind_eta, bI_0, if_true]
      exact Ok.ret ⟨rfl, FrP.rfl⟩
  · obtain ⟨hs, e⟩ := inB_ex hx
    generalize x.toNatClampNeg = s at hs e
    subst e
    have cl : (nI s).toNatClampNeg = s := n_cl (by omega)
    refine Eq2.ask' h (m.1 1 s 0) ?_ ?_
    · rw [fX6_holds_eq]; unfold fX6_holds_b
      simp only [e6_shelfAt, hx, Option.bind_some, bind_eta, reduceCtorEq, if_true, cl]
      exact Ok.ret ⟨rfl, FrP.rfl⟩
    · intro m1 h1 hf
      obtain ⟨s1, s2, s3⟩ := h1.1.2.2.2.1.at hs hf
      rw [fX7_holds_eq]; unfold fX7_holds_b
      simp only [e7_isShelf, hx, Option.bind_some, bind_eta, bI_0, reduceCtorEq, if_false, cl, cond_true, s1]
      exact Ok.ret ⟨rfl, FrP.rfl⟩
/-! row -/
theorem upL_same (m : MLg) (c i k : Nat) (x : Int64) : upL m c i k x c i k = x := if_pos ⟨rfl, rfl, rfl⟩
theorem upL_nn {m : MLg} {c i k : Nat} {x : Int64} {c' i' k' : Nat} (h : ¬ (c' = c ∧ i' = i ∧ k' = k)) : upL m c i k x c' i' k' = m c' i' k' := if_neg h
theorem row6 (s n : Nat) (sort : Int32) (m : MM) (hn : n ≤ 40) : Ok (fX1_startRow s sort (nI n) m) (fun _ m' => m'.1 = upI (upI m.1 1 s 0 sort) 1 s 1 (nI n) ∧ (∀ k, k < 40 → m'.2 20 s k = 0) ∧ ∀ c i k, ¬ (c = 20 ∧ i = s) → m'.2 c i k = m.2 c i k) := by
  rw [fX1_startRow_eq]; unfold fX1_startRow_b
  have e : mxI 0 (mnI (nI n) (nI 40)) = nI n := by
    rw [← Int32.toInt_inj, mxI_ti, mnI_ti, n_ti (by omega), n_ti (by omega), z_ti]
    split <;> split <;> omega
  rw [e]
  refine Ok.bind (P := fun _ m' => m'.1 = upI (upI m.1 1 s 0 sort) 1 s 1 (nI n) ∧ (∀ k, k < 40 → m'.2 20 s k = 0) ∧ ∀ c i k, ¬ (c = 20 ∧ i = s) → m'.2 c i k = m.2 c i k) ?_ (fun _ _ h => Ok.ret h)
  refine Ok.count 0 40 (fun j t m' => t = nI j ∧ m'.1 = upI (upI m.1 1 s 0 sort) 1 s 1 (nI n) ∧ (∀ k, k < j → m'.2 20 s k = 0) ∧ ∀ c i k, ¬ (c = 20 ∧ i = s) → m'.2 c i k = m.2 c i k) ?_ ?_ (by omega) 1000 (by omega) 0 _ ⟨rfl, rfl, fun k hk => by omega, fun _ _ _ _ => rfl⟩
  · intro j t m' _ hj ⟨e1, e2, e3, e4⟩
    subst e1
    unfold fX1_startRow_b24
    rw [if_neg (by rw [n_le (by omega) (by omega)]; omega), inB_t hj (by omega), n_cl (by omega)]
    refine Ok.ret ⟨(n_s j).symm, e2, ?_, ?_⟩
    · intro k hk
      by_cases q : k = j
      · subst q; exact upL_same _ _ _ _ _
      · dsimp only; rw [upL_nn (by omega)]; exact e3 k (by omega)
    · intro c i k q
      dsimp only; rw [upL_nn (by omega)]; exact e4 c i k q
  · intro t m' ⟨e1, e2, e3, e4⟩
    unfold fX1_startRow_b24
    rw [e1, if_pos (by rw [n_le (by omega) (by omega)]; omega)]
    exact Ok.ret ⟨e2, e3, e4⟩
theorem row7 (s : Nat) (m : MM) (hs : s < 8) : Ok (loopF 1000 (fX7_row_b51 0 (nI s)) 0 m) (fun _ m' => m'.1 = m.1 ∧ (∀ k, k < 40 → m'.2 21 0 (40 * s + k) = 0) ∧ ∀ c i k, ¬ (c = 21 ∧ i = 0 ∧ 40 * s ≤ k ∧ k < 40 * s + 40) → m'.2 c i k = m.2 c i k) := by
  refine Ok.count 0 40 (fun j t m' => t = nI j ∧ m'.1 = m.1 ∧ (∀ k, k < j → m'.2 21 0 (40 * s + k) = 0) ∧ ∀ c i k, ¬ (c = 21 ∧ i = 0 ∧ 40 * s ≤ k ∧ k < 40 * s + 40) → m'.2 c i k = m.2 c i k) ?_ ?_ (by omega) 1000 (by omega) 0 _ ⟨rfl, rfl, fun k hk => by omega, fun _ _ _ _ => rfl⟩
  · intro j t m' _ hj ⟨e1, e2, e3, e4⟩
    subst e1
    unfold fX7_row_b51
    rw [if_neg (by rw [show (40 : Int32) = nI 40 from rfl, n_le (by omega) (by omega)]; omega), i40, inB_t (show 40 * s + j < 320 by omega) (by omega), n_cl (by omega)]
    refine Ok.ret ⟨(n_s j).symm, e2, ?_, ?_⟩
    · intro k hk
      by_cases q : k = j
      · subst q; exact upL_same _ _ _ _ _
      · dsimp only; rw [upL_nn (by omega)]; exact e3 k (by omega)
    · intro c i k q
      dsimp only; rw [upL_nn (by omega)]; exact e4 c i k q
  · intro t m' ⟨e1, e2, e3, e4⟩
    unfold fX7_row_b51
    rw [e1, if_pos (by rw [show (40 : Int32) = nI 40 from rfl, n_le (by omega) (by omega)]; omega)]
    exact Ok.ret ⟨e2, e3, e4⟩
theorem op_row {v : Nat → Int32} {nb nw nc : Nat} {m : MM} (h : Rlt v nb nw nc m) (x : Int32) (y : Int32) (z : Int32) : Eq2 (fX6_row 0 x y z) (fX7_row 0 x y z) m := by
  have w6_y : ∀ m, fX6_within y 0 4 m = some (inB y 5, m) := fun m => e6_within' y 4 m (by omega)
  have w7_y : ∀ m, fX7_within y 0 4 m = some (inB y 5, m) := fun m => e7_within' y 4 m (by omega)
  have w6_z : ∀ m, fX6_within z 0 40 m = some (inB z 41, m) := fun m => e6_within' z 40 m (by omega)
  have w7_z : ∀ m, fX7_within z 0 40 m = some (inB z 41, m) := fun m => e7_within' z 40 m (by omega)
  cases hg : ((inB x 8) && (inB y 5) && (inB z 41))
  · refine Eq2.bad h ?_ ?_
    · rw [fX6_row_eq]; unfold fX6_row_b
      cases g_x : inB x 8 <;> cases g_y : inB y 5 <;> cases g_z : inB z 41 <;> first | (simp only [e6_shelfAt, w6_y, w6_z, g_x, g_y, g_z, Option.bind_some, bind_eta, bI_0, bI_1, reduceCtorEq, not_true, not_false_eq_true, if_true, if_false]; done) | (rw [g_x, g_y, g_z] at hg; cases hg)
    · intro m1 h1
      rw [fX7_row_eq]; unfold fX7_row_b
      cases g_x : inB x 8 <;> cases g_y : inB y 5 <;> cases g_z : inB z 41 <;> first | (simp only [e7_isShelf, w7_y, w7_z, g_x, g_y, g_z, Option.bind_some, bind_eta, bI_0, bI_1, reduceCtorEq, not_true, not_false_eq_true, if_true, if_false, Bool.and_true, Bool.and_false, Bool.true_and, Bool.false_and]; done) | (rw [g_x, g_y, g_z] at hg; cases hg)
  · simp only [Bool.and_eq_true] at hg
    obtain ⟨⟨g_x, g_y⟩, g_z⟩ := hg
    obtain ⟨hl_s, he_s⟩ := inB_ex g_x
    have hu_s := n_clb x
    have hc_s : ∀ k, k = x.toNatClampNeg → (nI k).toNatClampNeg = k := fun k hk => n_cl (by omega)
    replace hc_s := hc_s _ rfl
    generalize x.toNatClampNeg = s at hl_s he_s hc_s hu_s
    subst he_s
    obtain ⟨hl_n, he_n⟩ := inB_ex g_z
    have hu_n := n_clb z
    have hc_n : ∀ k, k = z.toNatClampNeg → (nI k).toNatClampNeg = k := fun k hk => n_cl (by omega)
    replace hc_n := hc_n _ rfl
    generalize z.toNatClampNeg = n at hl_n he_n hc_n hu_n
    subst he_n
    have p6 : Ok (fX6_row 0 (nI s) y (nI n) m) (fun r m' => r = 1 ∧ m'.1 = upI (upI m.1 1 s 0 y) 1 s 1 (nI n) ∧ (∀ k, k < 40 → m'.2 20 s k = 0) ∧ ∀ c i k, ¬ (c = 20 ∧ i = s) → m'.2 c i k = m.2 c i k) := by
      rw [fX6_row_eq]; unfold fX6_row_b
      simp only [e6_shelfAt, w6_y, w6_z, g_x, g_y, g_z, hc_s, hc_n, Option.bind_some, bind_eta, bI_0, bI_1, reduceCtorEq, not_true, not_false_eq_true, if_true, if_false]
      exact (row6 s n y m (by omega)).bind (fun _ m' h => Ok.ret ⟨rfl, h⟩)
    refine p6.mono ?_
    intro r m1 ⟨r1, a1, a2, a3⟩
    have p7 : Ok (fX7_row 0 (nI s) y (nI n) m1) (fun r m' => r = 1 ∧ m'.1 = upI (upI m1.1 59 0 s y) 60 0 s (nI n) ∧ (∀ k, k < 40 → m'.2 21 0 (40 * s + k) = 0) ∧ ∀ c i k, ¬ (c = 21 ∧ i = 0 ∧ 40 * s ≤ k ∧ k < 40 * s + 40) → m'.2 c i k = m1.2 c i k) := by
      rw [fX7_row_eq]; unfold fX7_row_b
      simp only [e7_isShelf, w7_y, w7_z, g_x, g_y, g_z, hc_s, Option.bind_some, bind_eta, bI_0, reduceCtorEq, not_false_eq_true, if_true, if_false, cond_true]
      exact (row7 s _ hl_s).bind (fun _ m' h => Ok.ret ⟨rfl, h⟩)
    refine p7.mono ?_
    intro r' m2 ⟨r2, b1, b2, b3⟩
    have f : ∀ c i k, ¬ (c = 1 ∨ c = 59 ∨ c = 60) → m2.1 c i k = m.1 c i k := by
      intro c i k q
      rw [b1, upI_nn (by omega), upI_nn (by omega), a1, upI_nn (by omega), upI_nn (by omega)]
    refine ⟨r1.trans r2.symm, ⟨v, nb, nw, nc, Rlt_S h f ?_⟩, by funext i k; exact f 33 i k (by omega)⟩
    intro t ht
    obtain ⟨s1, s2, s3, s4, s5⟩ := h.1.2.2.2.1 t ht
    have L : ∀ k, k < 40 → m2.2 20 t k = m2.2 21 0 (40 * t + k) := by
      intro k hk
      rw [b3 20 t k (by omega)]
      by_cases q : t = s
      · rw [q, a2 k hk, b2 k hk]
      · rw [b3 21 0 _ (by omega), a3 20 t k (by omega), a3 21 0 _ (by omega)]; exact s3 k hk
    by_cases q : t = s
    · subst q
      have c1 : m2.1 1 t 0 = y := by rw [b1, upI_nn (by omega), upI_nn (by omega), a1, upI_nn (by omega), upI_same]
      have c2 : m2.1 1 t 1 = nI n := by rw [b1, upI_nn (by omega), upI_nn (by omega), a1, upI_same]
      have c3 : m2.1 59 0 t = y := by rw [b1, upI_nn (by omega), upI_same]
      have c4 : m2.1 60 0 t = nI n := by rw [b1, upI_same]
      exact ⟨c1.trans c3.symm, c2.trans c4.symm, L, by rw [c1]; exact Or.inr (Or.inl g_y), by rw [c2]; exact g_z⟩
    · have c1 : m2.1 1 t 0 = m.1 1 t 0 := by rw [b1, upI_nn (by omega), upI_nn (by omega), a1, upI_nn (by omega), upI_nn (by omega)]
      have c2 : m2.1 1 t 1 = m.1 1 t 1 := by rw [b1, upI_nn (by omega), upI_nn (by omega), a1, upI_nn (by omega), upI_nn (by omega)]
      have c3 : m2.1 59 0 t = m.1 59 0 t := by rw [b1, upI_nn (by omega), upI_nn (by omega), a1, upI_nn (by omega), upI_nn (by omega)]
      have c4 : m2.1 60 0 t = m.1 60 0 t := by rw [b1, upI_nn (by omega), upI_nn (by omega), a1, upI_nn (by omega), upI_nn (by omega)]
      rw [c1, c2, c3, c4]
      exact ⟨s1, s2, L, s4, s5⟩
