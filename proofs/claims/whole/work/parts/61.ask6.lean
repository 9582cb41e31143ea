/-! PURE: asking, sixth group -/
theorem e_start (j : Nat) (k a c x : Int32) (m : MM) : fX0_start j k a c x m = some ((), (upI (upI (upI (upI (upI m.1 0 j 0 k) 0 j 1 a) 0 j 2 c) 0 j 3 x) 0 j 4 0, m.2)) := by
  rw [fX0_start_eq]; rfl
theorem Fr_start (j : Nat) (k a c x : Int32) (m : MM) : Fr (fun c i => c = 0 ∧ i = j) m (upI (upI (upI (upI (upI m.1 0 j 0 k) 0 j 1 a) 0 j 2 c) 0 j 3 x) 0 j 4 0, m.2) := by
  intro c' i' q k'
  refine ⟨?_, rfl⟩
  dsimp only at q ⊢
  rw [upI_nn (by omega), upI_nn (by omega), upI_nn (by omega), upI_nn (by omega), upI_nn (by omega)]
theorem spd_m1 {e : Ev} {nc : Nat} (hn : e.2.1 = nI nc) (h2 : 1 ≤ nc) (h3 : nc ≤ 30) {t k a : Int32} {s : CH} (h : inB s.1 30 = true) : spd e t k a (-1) s = dft e t k a s := by
  rw [← spd_eq]
  have := dft_in hn h2 h3 (today := t) (kind := k) (a := a) h
  unfold fnd
  split
  · rw [if_neg]
    intro q; rw [q, inB_m1] at this; cases this
  · rfl
theorem dft_how (e : Ev) (t k a c : Int32) : (dft e t k a (c, 0)).2 = 0 ∨ (dft e t k a (c, 0)).2 = 2 := by
  unfold dft
  rw [if_pos rfl]
  split
  · exact Or.inl rfl
  · exact Or.inr rfl
/-- a day of one that is thought of -/
theorem think6 {v : Nat → Int32} {nb nw nc c : Nat} {m : MM} (h : Rel0 v nb nw nc m) (k a : Int32) (hc : c < nc) : Ok ((fX0_start 27 k a (nI c) (-1) m).bind fun o => fX5_spend 0 27 (o.2.1 5 0 2) (-1) o.2) (fun _ m' => m'.1 0 27 2 = (dft (vE v) (v 95) k a (nI c, 0)).1 ∧ m'.1 0 27 4 = (dft (vE v) (v 95) k a (nI c, 0)).2 ∧ FrP ScrC m m') := by
  have hnc := h.nc
  rw [e_start]
  simp only [Option.bind_some]
  have f1 : Fr (fun c i => c = 0 ∧ i = 27) m (upI (upI (upI (upI (upI m.1 0 27 0 k) 0 27 1 a) 0 27 2 (nI c)) 0 27 3 (-1)) 0 27 4 0, m.2) := Fr_start 27 k a (nI c) (-1) m
  have q1 : rB (upI (upI (upI (upI (upI m.1 0 27 0 k) 0 27 1 a) 0 27 2 (nI c)) 0 27 3 (-1)) 0 27 4 0, m.2) 27 = (nI c, 0) := by unfold rB; simp only [upI_same, upI_k, upI_c, ne_eq, not_false_eq_true, reduceCtorEq, Nat.reduceEqDiff, Nat.zero_ne_one, Nat.one_ne_zero, and_self]
  have q2 : (upI (upI (upI (upI (upI m.1 0 27 0 k) 0 27 1 a) 0 27 2 (nI c)) 0 27 3 (-1)) 0 27 4 0) 0 27 0 = k := by simp only [upI_same, upI_k, upI_c, ne_eq, not_false_eq_true, reduceCtorEq, Nat.reduceEqDiff, Nat.zero_ne_one, Nat.one_ne_zero, and_self]
  have q3 : (upI (upI (upI (upI (upI m.1 0 27 0 k) 0 27 1 a) 0 27 2 (nI c)) 0 27 3 (-1)) 0 27 4 0) 0 27 1 = a := by simp only [upI_same, upI_k, upI_c, ne_eq, not_false_eq_true, reduceCtorEq, Nat.reduceEqDiff, Nat.zero_ne_one, Nat.one_ne_zero, and_self]
  have q4 : (upI (upI (upI (upI (upI m.1 0 27 0 k) 0 27 1 a) 0 27 2 (nI c)) 0 27 3 (-1)) 0 27 4 0) 5 0 2 = v 95 := by simp only [upI_same, upI_k, upI_c, ne_eq, not_false_eq_true, reduceCtorEq, Nat.reduceEqDiff, Nat.zero_ne_one, Nat.one_ne_zero, and_self]; exact h.2.2.1.2.2.1
  have qE := cE_fr f1 0 (by omega) (by omega)
  rw [q4]
  generalize upI (upI (upI (upI (upI m.1 0 27 0 k) 0 27 1 a) 0 27 2 (nI c)) 0 27 3 (-1)) 0 27 4 0 = M at *
  rw [e_spend, q1]
  dsimp only
  have c30 : inB (nI c) 30 = true := inB_t (by omega) (by omega)
  have e93 : (vE v).2.1 = nI nc := h.1.2.2.2.2.1
  have es : spd (vE v) (v 95) k a (-1) (nI c, 0) = dft (vE v) (v 95) k a (nI c, 0) := spd_m1 (s := (nI c, 0)) e93 (by omega) hnc.2.2.1 c30
  rw [q2, q3, qE, h.E, es]
  refine Ok.ret ⟨?_, ?_, ?_⟩
  · unfold upB; simp only [upI_same, upI_k, upI_c, ne_eq, not_false_eq_true, reduceCtorEq, Nat.reduceEqDiff, Nat.zero_ne_one, Nat.one_ne_zero, and_self]
  · unfold upB; simp only [upI_same, upI_k, upI_c, ne_eq, not_false_eq_true, reduceCtorEq, Nat.reduceEqDiff, Nat.zero_ne_one, Nat.one_ne_zero, and_self]
  · have d : (fun c i => c = 0 ∧ i = 27) 0 27 := ⟨rfl, rfl⟩
    have f2 := Fr.up f1 d 2 (dft (vE v) (v 95) k a (nI c, 0)).1
    have f3 := Fr.up f2 d 4 (dft (vE v) (v 95) k a (nI c, 0)).2
    exact Fr.toC f3 (fun c i h k => by unfold ScrC; omega) (by omega)
theorem FrP_B7 (b : Nat) (k a c x : Int32) (m : MM) : FrP (fun c i k => 52 ≤ c ∧ c ≤ 56 ∧ i = 0 ∧ k = b) m (mB7 m.1 b k a c x, m.2) := by
  refine ⟨fun c' i' k' q => ?_, rfl⟩
  unfold mB7
  dsimp only at q ⊢
  rw [upI_nn (by omega), upI_nn (by omega), upI_nn (by omega), upI_nn (by omega), upI_nn (by omega)]
theorem think7 {v : Nat → Int32} {nb nw nc c : Nat} {m : MM} (hL : Lv v m) (h : WF v nb nw nc) (k a : Int32) (hc : c < nc) : Ok ((fX7_becomes 0 8 k a (nI c) (-1) m).bind fun o => fX7_drifts 0 8 o.2) (fun _ m' => m'.1 54 0 8 = (dft (vE v) (v 95) k a (nI c, 0)).1 ∧ m'.1 56 0 8 = (dft (vE v) (v 95) k a (nI c, 0)).2 ∧ FrP (fun c i k => 52 ≤ c ∧ c ≤ 56 ∧ i = 0 ∧ k = 8) m m') := by
  have hnc := h.2.2.2.2.2.2.1
  rw [show (8 : Int32) = nI 8 from rfl, e7_becomes k a (nI c) (-1) m (by omega)]
  simp only [Option.bind_some]
  have f1 : FrP (fun c i k => 52 ≤ c ∧ c ≤ 56 ∧ i = 0 ∧ k = 8) m (mB7 m.1 8 k a (nI c) (-1), m.2) := FrP_B7 8 k a (nI c) (-1) m
  have q1 : mB (mB7 m.1 8 k a (nI c) (-1), m.2) 8 = (nI c, 0) := by unfold mB mB7; simp only [upI_same, upI_k, upI_c, ne_eq, not_false_eq_true, reduceCtorEq, Nat.reduceEqDiff, Nat.zero_ne_one, Nat.one_ne_zero, and_self]
  have q2 : (mB7 m.1 8 k a (nI c) (-1)) 52 0 8 = k := by unfold mB7; simp only [upI_same, upI_k, upI_c, ne_eq, not_false_eq_true, reduceCtorEq, Nat.reduceEqDiff, Nat.zero_ne_one, Nat.one_ne_zero, and_self]
  have q3 : (mB7 m.1 8 k a (nI c) (-1)) 53 0 8 = a := by unfold mB7; simp only [upI_same, upI_k, upI_c, ne_eq, not_false_eq_true, reduceCtorEq, Nat.reduceEqDiff, Nat.zero_ne_one, Nat.one_ne_zero, and_self]
  have q4 : (mB7 m.1 8 k a (nI c) (-1)) 51 0 1 = v 95 := by unfold mB7; simp only [upI_same, upI_k, upI_c, ne_eq, not_false_eq_true, reduceCtorEq, Nat.reduceEqDiff, Nat.zero_ne_one, Nat.one_ne_zero, and_self]; exact hL.2.2.2.2.2.1.symm
  have qE := mE_fr f1 (by omega) (by omega) (by omega) (by omega)
  have q5 : inB ((mB7 m.1 8 k a (nI c) (-1)) 54 0 8) 30 = true := by
    have : (mB7 m.1 8 k a (nI c) (-1)) 54 0 8 = nI c := congrArg Prod.fst q1
    rw [this]; exact inB_t (by omega) (by omega)
  generalize mB7 m.1 8 k a (nI c) (-1) = M at *
  rw [e7_drifts 8 (M, m.2) (by omega) q5, q1, qE, hL.E]
  dsimp only
  rw [q2, q3, q4]
  refine Ok.ret ⟨?_, ?_, ?_⟩
  · unfold upMB; simp only [upI_same, upI_k, upI_c, ne_eq, not_false_eq_true, reduceCtorEq, Nat.reduceEqDiff, Nat.zero_ne_one, Nat.one_ne_zero, and_self]
  · unfold upMB; simp only [upI_same, upI_k, upI_c, ne_eq, not_false_eq_true, reduceCtorEq, Nat.reduceEqDiff, Nat.zero_ne_one, Nat.one_ne_zero, and_self]
  · exact FrP.up (m' := (upI M 54 0 8 _, m.2)) (FrP.up (m' := (M, m.2)) f1 (by omega) _) (by omega) _
theorem D8_S {m m' : MM} (h : FrP (fun c i k => 52 ≤ c ∧ c ≤ 56 ∧ i = 0 ∧ k = 8) m m') : FrP Scr m m' := h.mono (by unfold Scr; omega)
theorem op_next {v : Nat → Int32} {nb nw nc : Nat} {m : MM} (h : Rlt v nb nw nc m) (x : Int32) (y : Int32) (z : Int32) : Eq2 (fX6_next 0 x y z) (fX7_next_ 0 x y z) m := by
  have w6_x : ∀ m, fX6_within x 0 5 m = some (inB x 6, m) := fun m => e6_within' x 5 m (by omega)
  have w7_x : ∀ m, fX7_within x 0 5 m = some (inB x 6, m) := fun m => e7_within' x 5 m (by omega)
  have w6_y : ∀ m, fX6_within y 0 9 m = some (inB y 10, m) := fun m => e6_within' y 9 m (by omega)
  have w7_y : ∀ m, fX7_within y 0 9 m = some (inB y 10, m) := fun m => e7_within' y 9 m (by omega)
  cases hg : ((inB x 6) && (inB y 10) && (inB z nc))
  · refine Eq2.bad h ?_ ?_
    · rw [fX6_next_eq]; unfold fX6_next_b
      cases g_x : inB x 6 <;> cases g_y : inB y 10 <;> cases g_z : inB z nc <;> first | (simp only [w6_x, e6_isKind, w6_y, e5_hasCell h.1, g_x, g_y, g_z, Option.bind_some, bind_eta, bI_0, bI_1, reduceCtorEq, not_true, not_false_eq_true, if_true, if_false]; done) | (rw [g_x, g_y, g_z] at hg; cases hg)
    · intro m1 h1
      rw [fX7_next__eq]; unfold fX7_next__b
      cases g_x : inB x 6 <;> cases g_y : inB y 10 <;> cases g_z : inB z nc <;> first | (simp only [w7_x, e7_isSuch, w7_y, e7_isCell' h1, g_x, g_y, g_z, Option.bind_some, bind_eta, bI_0, bI_1, reduceCtorEq, not_true, not_false_eq_true, if_true, if_false, Bool.and_true, Bool.and_false, Bool.true_and, Bool.false_and]; done) | (rw [g_x, g_y, g_z] at hg; cases hg)
  · simp only [Bool.and_eq_true] at hg
    obtain ⟨⟨g_x, g_y⟩, g_z⟩ := hg
    obtain ⟨hl_c, he_c⟩ := inB_ex g_z
    have hu_c := n_clb z
    have hc_c : ∀ k, k = z.toNatClampNeg → (nI k).toNatClampNeg = k := fun k hk => n_cl (by omega)
    replace hc_c := hc_c _ rfl
    generalize z.toNatClampNeg = c at hl_c he_c hc_c hu_c
    subst he_c
    refine Eq2.ask h (if (dft (vE v) (v 95) x y (nI c, 0)).2 = 0 then (dft (vE v) (v 95) x y (nI c, 0)).1 else -1) ?_ ?_
    · rw [fX6_next_eq]; unfold fX6_next_b
      simp only [w6_x, e6_isKind, w6_y, e5_hasCell h.1, g_x, g_y, g_z, hc_c, Option.bind_some, bind_eta, bI_0, bI_1, reduceCtorEq, not_true, not_false_eq_true, if_true, if_false]
      have t := think6 h.1 x y hl_c
      rw [e_start] at t ⊢
      simp only [Option.bind_some] at t ⊢
      refine t.bind ?_
      intro _ m' ⟨a1, a2, a3⟩
      dsimp only
      rw [a1, a2]
      rcases dft_how (vE v) (v 95) x y (nI c) with q | q
      · rw [q, if_pos (by decide), if_pos rfl]; exact Ok.ret ⟨rfl, a3⟩
      · rw [q, if_neg (by decide), if_neg (by decide)]; exact Ok.ret ⟨rfl, a3⟩
    · intro m1 h1
      rw [fX7_next__eq]; unfold fX7_next__b
      simp only [w7_x, e7_isSuch, w7_y, e7_isCell' h1.1, g_x, g_y, g_z, hc_c, Option.bind_some, bind_eta, bI_0, bI_1, reduceCtorEq, not_true, not_false_eq_true, if_true, if_false, Bool.and_true]
      have t := think7 h1.1.lv h1.1.1 x y hl_c
      rw [← Option.bind_assoc]
      refine t.bind ?_
      intro _ m' ⟨a1, a2, a3⟩
      dsimp only
      have i8 : inB 8 9 = true := by decide
      have c8 : (8 : Int32).toNatClampNeg = 8 := rfl
      rw [i8, c8, a1, a2]
      simp only [cond_true]
      rcases dft_how (vE v) (v 95) x y (nI c) with q | q
      · rw [q, if_neg (by decide), if_pos rfl]; exact Ok.ret ⟨rfl, D8_S a3⟩
      · rw [q, if_pos (by decide), if_neg (by decide)]; exact Ok.ret ⟨rfl, D8_S a3⟩
theorem op_stays {v : Nat → Int32} {nb nw nc : Nat} {m : MM} (h : Rlt v nb nw nc m) (x : Int32) (y : Int32) : Eq2 (fX6_stays 0 x y) (fX7_stays 0 x y) m := by
  have w6_x : ∀ m, fX6_within x 0 5 m = some (inB x 6, m) := fun m => e6_within' x 5 m (by omega)
  have w7_x : ∀ m, fX7_within x 0 5 m = some (inB x 6, m) := fun m => e7_within' x 5 m (by omega)
  have w6_y : ∀ m, fX6_within y 0 9 m = some (inB y 10, m) := fun m => e6_within' y 9 m (by omega)
  have w7_y : ∀ m, fX7_within y 0 9 m = some (inB y 10, m) := fun m => e7_within' y 9 m (by omega)
  cases hg : ((inB x 6) && (inB y 10))
  · refine Eq2.bad h ?_ ?_
    · rw [fX6_stays_eq]; unfold fX6_stays_b
      cases g_x : inB x 6 <;> cases g_y : inB y 10 <;> first | (simp only [w6_x, e6_isKind, w6_y, g_x, g_y, Option.bind_some, bind_eta, bI_0, bI_1, reduceCtorEq, not_true, not_false_eq_true, if_true, if_false]; done) | (rw [g_x, g_y] at hg; cases hg)
    · intro m1 h1
      rw [fX7_stays_eq]; unfold fX7_stays_b
      cases g_x : inB x 6 <;> cases g_y : inB y 10 <;> first | (simp only [w7_x, e7_isSuch, w7_y, g_x, g_y, Option.bind_some, bind_eta, bI_0, bI_1, reduceCtorEq, not_true, not_false_eq_true, if_true, if_false, Bool.and_true, Bool.and_false, Bool.true_and, Bool.false_and]; done) | (rw [g_x, g_y] at hg; cases hg)
  · simp only [Bool.and_eq_true] at hg
    obtain ⟨g_x, g_y⟩ := hg
    have hnc := h.1.nc
    refine Eq2.ask h (bitF (fun c => decide ((dft (vE v) (v 95) x y (nI c, 0)).1 = nI c)) nc) ?_ ?_
    · rw [fX6_stays_eq]; unfold fX6_stays_b
      simp only [w6_x, e6_isKind, w6_y, g_x, g_y, Option.bind_some, bind_eta, bI_0, bI_1, reduceCtorEq, not_true, not_false_eq_true, if_true, if_false]
      refine (Ok.bits (f := fX6_stays_b30 0 x y) nc (fun c => decide ((dft (vE v) (v 95) x y (nI c, 0)).1 = nI c)) (fun m' => FrP ScrC m m') (by omega) ?_ ?_ m FrP.rfl).mono (fun r m' h => h)
      · intro c z m' hc f
        have h' := Rel_frC h f
        unfold fX6_stays_b30
        dsimp only
        rw [h'.1.nc.2.2.2, if_neg (by rw [n_le (by omega) (by omega)]; omega)]
        have t := think6 h'.1 x y hc
        rw [e_start] at t ⊢
        simp only [Option.bind_some] at t ⊢
        refine t.bind ?_
        intro _ m2 ⟨a1, a2, a3⟩
        dsimp only
        rw [a1]
        by_cases q : (dft (vE v) (v 95) x y (nI c, 0)).1 = nI c
        · rw [if_neg (fun h => h q), if_pos (decide_eq_true q)]; exact Ok.ret ⟨rfl, f.trans a3⟩
        · rw [if_pos q, if_neg (fun h => q (of_decide_eq_true h))]; exact Ok.ret ⟨rfl, f.trans a3⟩
      · intro z m' f
        have h' := Rel_frC h f
        unfold fX6_stays_b30
        dsimp only
        rw [h'.1.nc.2.2.2, if_pos (by rw [n_le (by omega) (by omega)]; omega)]
    · intro m1 h1
      rw [fX7_stays_eq]; unfold fX7_stays_b
      simp only [w7_x, e7_isSuch, w7_y, g_x, g_y, Option.bind_some, bind_eta, bI_0, bI_1, reduceCtorEq, not_true, not_false_eq_true, if_true, if_false, Bool.and_true]
      refine (Ok.bits (f := fX7_stays_b21 0 x y) nc (fun c => decide ((dft (vE v) (v 95) x y (nI c, 0)).1 = nI c)) (fun m' => FrP (fun c i k => 52 ≤ c ∧ c ≤ 56 ∧ i = 0 ∧ k = 8) m1 m') (by omega) ?_ ?_ m1 FrP.rfl).mono (fun r m' ⟨a, f⟩ => ⟨a, D8_S f⟩)
      · intro c z m' hc f
        unfold fX7_stays_b21
        dsimp only
        rw [(f.1 7 0 0 (by omega)).trans h1.1.nc.1, if_neg (by rw [n_le (by omega) (by omega)]; omega)]
        obtain ⟨v', hL', he'⟩ := Lv_slot h1.1.lv (D8_S f)
        have t := think7 hL' (WF_eqv h1.1.1 he') x y hc
        have eE : vE v' = vE v := by
          unfold vE
          rw [he' 93 (by omega), he' 94 (by omega), he' 95 (by omega)]
          have : vfl v' = vfl v := by
            funext c
            unfold vfl
            rw [inB_hi c 30 (by omega), inB_hi c 30 (by omega)]
            by_cases q : inB c 30 = true
            · rw [if_pos q, if_pos q, he' _ (by have := (inB_ex q).1; omega)]
            · rw [if_neg q, if_neg q]
          rw [this]
        rw [eE, he' 95 (by omega)] at t
        rw [← Option.bind_assoc]
        refine t.bind ?_
        intro _ m2 ⟨a1, a2, a3⟩
        dsimp only
        have i8 : inB 8 9 = true := by decide
        have c8 : (8 : Int32).toNatClampNeg = 8 := rfl
        rw [i8, c8, a1]
        simp only [cond_true]
        by_cases q : (dft (vE v) (v 95) x y (nI c, 0)).1 = nI c
        · rw [if_neg (fun h => h q), if_pos (decide_eq_true q)]; exact Ok.ret ⟨rfl, f.trans a3⟩
        · rw [if_pos q, if_neg (fun h => q (of_decide_eq_true h))]; exact Ok.ret ⟨rfl, f.trans a3⟩
      · intro z m' f
        unfold fX7_stays_b21
        dsimp only
        rw [(f.1 7 0 0 (by omega)).trans h1.1.nc.1, if_pos (by rw [n_le (by omega) (by omega)]; omega)]
/-! round -/
theorem op_round {v : Nat → Int32} {nb nw nc : Nat} {m : MM} (h : Rlt v nb nw nc m) (x : Int32) : Eq2 (fX6_round 0 x) (fX7_round 0 x) m := by
  cases hg : (inB x nw)
  · refine Eq2.bad h ?_ ?_
    · rw [fX6_round_eq]; unfold fX6_round_b
      cases g_x : inB x nw <;> first | (simp only [e5_walkerAt h.1, g_x, Option.bind_some, bind_eta, bI_0, bI_1, reduceCtorEq, not_true, not_false_eq_true, if_true, if_false]; done) | (rw [g_x] at hg; cases hg)
    · intro m1 h1
      rw [fX7_round_eq]; unfold fX7_round_b
      cases g_x : inB x nw <;> first | (simp only [e7_isWalker h1, g_x, Option.bind_some, bind_eta, bI_0, bI_1, reduceCtorEq, not_true, not_false_eq_true, if_true, if_false, Bool.and_true, Bool.and_false, Bool.true_and, Bool.false_and]; done) | (rw [g_x] at hg; cases hg)
  · have g_x := hg
    obtain ⟨hl_k, he_k⟩ := inB_ex g_x
    have hu_k := n_clb x
    have hc_k : ∀ k, k = x.toNatClampNeg → (nI k).toNatClampNeg = k := fun k hk => n_cl (by omega)
    replace hc_k := hc_k _ rfl
    generalize x.toNatClampNeg = k at hl_k he_k hc_k hu_k
    subst he_k
    have hnw := h.1.nw.2.1
    have hnc := h.1.nc
    refine Eq2.ask h (fst1 (fun d => decide ((wlk v k d).1 = v (75 + k) ∧ (wlk v k d).2 = v (87 + k))) 60 1) ?_ ?_
    · rw [fX6_round_eq]; unfold fX6_round_b
      simp only [e5_walkerAt h.1, g_x, hc_k, Option.bind_some, bind_eta, bI_0, bI_1, reduceCtorEq, not_true, not_false_eq_true, if_true, if_false]
      have W := h.1.wf hl_k
      refine (W_take (y := 21) W).bind ?_
      intro _ m1 ⟨w1, f1⟩
      refine Ok.srch (f := fX6_round_b31 0 (1 + k)) 1 61 (fun d => decide ((wlk v k d).1 = v (75 + k) ∧ (wlk v k d).2 = v (87 + k))) (fun d m' => rW m' 21 = wlk v k (d - 1) ∧ m'.1 4 21 1 = v (81 + k) ∧ Fr (fun c i => c = 4 ∧ i = 21) m m') (fun m' => FrP ScrC m m') ?_ ?_ (by omega) (by omega) (fun _ => rfl) (fun _ _ => rfl) m1 ⟨?_, w1.2.1, f1⟩
      · intro d m' h1 h2 ⟨e2, e3, e4⟩
        obtain ⟨j, rfl⟩ : ∃ j, d = j + 1 := ⟨d - 1, by omega⟩
        unfold fX6_round_b31
        rw [if_neg (by rw [nI60, n_lt (by omega) (by omega)]; omega), e_stroll 21 _ m' (by rw [e3]; exact h.1.1.p100 hl_k), e2, e3, (e4 5 0 (by omega) 0).1, h.1.2.2.1.1]
        simp only [Option.bind_some]
        have es : strl (v 93) (v (81 + k)) (wlk v k (j + 1 - 1)) = wlk v k (j + 1) := rfl
        rw [es]
        have f4 : Fr (fun c i => c = 4 ∧ i = 21) m (upW m' 21 (wlk v k (j + 1))) := Fr.up (Fr.up e4 (by omega) _ _) (by omega) _ _
        have r0 : (upW m' 21 (wlk v k (j + 1))).1 4 21 0 = (wlk v k (j + 1)).1 := by unfold upW; simp only [upI_same, upI_k, upI_c, ne_eq, not_false_eq_true, reduceCtorEq, Nat.reduceEqDiff, Nat.zero_ne_one, Nat.one_ne_zero, and_self]
        have r1 : (upW m' 21 (wlk v k (j + 1))).1 4 21 2 = (wlk v k (j + 1)).2 := by unfold upW; simp only [upI_same, upI_k, upI_c, ne_eq, not_false_eq_true, reduceCtorEq, Nat.reduceEqDiff, Nat.zero_ne_one, Nat.one_ne_zero, and_self]
        have r2 : (upW m' 21 (wlk v k (j + 1))).1 4 21 1 = v (81 + k) := by unfold upW; simp only [upI_same, upI_k, upI_c, ne_eq, not_false_eq_true, reduceCtorEq, Nat.reduceEqDiff, Nat.zero_ne_one, Nat.one_ne_zero, and_self, e3]
        have r3 := rW_up m' 21 (wlk v k (j + 1))
        generalize upW m' 21 (wlk v k (j + 1)) = m2 at *
        rw [r0, r1, (f4 4 (1 + k) (by omega) 0).1, (f4 4 (1 + k) (by omega) 2).1, W.1, W.2.2]
        by_cases q : (wlk v k (j + 1)).1 = v (75 + k)
        · rw [if_neg (fun h => h q)]
          by_cases q2 : (wlk v k (j + 1)).2 = v (87 + k)
          · rw [if_neg (fun h => h q2)]
            exact Ok.ret (Or.inl ⟨decide_eq_true ⟨q, q2⟩, rfl, f4.toC (fun c i h k => by unfold ScrC; omega) (by omega)⟩)
          · rw [if_pos q2]
            exact Ok.ret (Or.inr ⟨decide_eq_false (fun h => q2 h.2), by rw [n_s (j + 1)], r3, r2, f4⟩)
        · rw [if_pos q]
          exact Ok.ret (Or.inr ⟨decide_eq_false (fun h => q h.1), by rw [n_s (j + 1)], r3, r2, f4⟩)
      · intro m' ⟨e2, e3, e4⟩
        refine ⟨?_, e4.toC (fun c i h k => by unfold ScrC; omega) (by omega)⟩
        unfold fX6_round_b31
        rw [if_pos (by rw [nI60, n_lt (by omega) (by omega)]; omega)]
      · show rW m1 21 = vW v k
        unfold rW vW; rw [w1.1, w1.2.2]
    · intro m1 h1
      rw [fX7_round_eq]; unfold fX7_round_b
      simp only [e7_isWalker h1.1, g_x, hc_k, Option.bind_some, bind_eta, bI_0, bI_1, reduceCtorEq, not_true, not_false_eq_true, if_true, if_false, Bool.and_true]
      refine (keep_ok 2 m1).bind ?_
      intro _ m2 ⟨k1, k2⟩
      have hL := Lv_to h1.1.lv k2
      have i12 : (12 : Int32) + nI k = nI (12 + k) := (n_add 12 k).symm
      have hn7 := hL.nc h1.1.1
      dsimp only
      rw [i12, inB_t (show k < 18 by omega) (by omega), inB_t (show 12 + k < 18 by omega) (by omega), n_cl (show 12 + k < 2147483648 by omega), ← hL.2.2.1 k (by omega), ← hL.2.2.1 (12 + k) (by omega), show 75 + (12 + k) = 87 + k by omega]
      simp only [cond_true]
      refine (Ok.find (f := fX7_round_b47 0 (nI k) (v (75 + k)) (v (87 + k))) 1 61 (fun d => decide ((wlk v k d).1 = v (75 + k) ∧ (wlk v k d).2 = v (87 + k))) (fun i m' => mW m' k = wlk v k (i - 1) ∧ FrP (fun c i x => c = 57 ∧ i = 0 ∧ (x = k ∨ x = 12 + k)) m2 m') (by omega) ?_ ?_ (by omega) m2 ⟨?_, FrP.rfl⟩).bind ?_
      · intro i m' hi1 hi ⟨e1, f⟩
        obtain ⟨j, rfl⟩ : ∃ j, i = j + 1 := ⟨i - 1, by omega⟩
        unfold fX7_round_b47
        dsimp only
        have p6 : m'.1 57 0 (6 + k) = v (81 + k) := by
          rw [f.1 57 0 (6 + k) (by omega), ← hL.2.2.1 (6 + k) (by omega), show 75 + (6 + k) = 81 + k by omega]
        have kk := simW_ok (p := v (81 + k)) (h1.1.1.kok hl_k) (show 2 ≤ nc by omega) (by omega)
        rw [if_neg (by rw [nI60, n_lt (by omega) (by omega)]; omega), if_neg (by decide), e7_steps k m' (nc := nc) (by omega) (by rw [p6]; exact h1.1.1.p100 hl_k) ((f.1 7 0 0 (by omega)).trans hn7) (by omega) (by omega) (by rw [e1]; unfold wlk; rw [h1.1.1.2.2.2.2.1]; exact kk _), e1, p6]
        simp only [Option.bind_some]
        have es : strl (nI nc) (v (81 + k)) (wlk v k (j + 1 - 1)) = wlk v k (j + 1) := by
          rw [← h1.1.1.2.2.2.2.1]; rfl
        rw [es, i12, inB_t (show k < 18 by omega) (by omega), inB_t (show 12 + k < 18 by omega) (by omega), n_cl (show 12 + k < 2147483648 by omega), n_cl (show k < 2147483648 by omega)]
        simp only [cond_true]
        have f4 : FrP (fun c i x => c = 57 ∧ i = 0 ∧ (x = k ∨ x = 12 + k)) m2 (upMW m' k (wlk v k (j + 1))) := FrP.up (m' := (upI m'.1 57 0 k _, m'.2)) (FrP.up f (by omega) _) (by omega) _
        have r3 := mW_up m' k (wlk v k (j + 1))
        have r0 : (upMW m' k (wlk v k (j + 1))).1 57 0 k = (wlk v k (j + 1)).1 := congrArg Prod.fst r3
        have r1 : (upMW m' k (wlk v k (j + 1))).1 57 0 (12 + k) = (wlk v k (j + 1)).2 := congrArg Prod.snd r3
        generalize upMW m' k (wlk v k (j + 1)) = m3 at *
        rw [r0, r1]
        by_cases q : (wlk v k (j + 1)).1 = v (75 + k)
        · rw [if_neg (fun h => h q)]
          by_cases q2 : (wlk v k (j + 1)).2 = v (87 + k)
          · rw [if_neg (fun h => h q2), if_pos (decide_eq_true ⟨q, q2⟩)]
            exact Ok.ret ⟨by rw [n_s (j + 1)], r3, f4⟩
          · rw [if_pos q2, if_neg (fun h => q2 (of_decide_eq_true h).2)]
            exact Ok.ret ⟨by rw [n_s (j + 1)], r3, f4⟩
        · rw [if_pos q, if_neg (fun h => q (of_decide_eq_true h).1)]
          exact Ok.ret ⟨by rw [n_s (j + 1)], r3, f4⟩
      · intro s m' h
        unfold fX7_round_b47
        rcases h with h | h
        · by_cases e : 60 < s.2
          · rw [if_pos e]
          · rw [if_neg e, if_pos h]
        · rw [h, if_pos (by rw [nI60, n_lt (by omega) (by omega)]; omega)]
      · exact (hL.W (show k < 6 by omega)).1
      · intro r m3 ⟨r1, i, r2⟩
        exact kept_back h1.1.lv k1 k2 (r2.2.mono (by unfold Dlv; omega)) (fun m4 h4 => ⟨r1, Dto_S h4⟩)
