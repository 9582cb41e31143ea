/-! PURE: plain answers -/
theorem Rel0.lv {v : Nat → Int32} {nb nw nc : Nat} {m : MM} (h : Rel0 v nb nw nc m) : Lv v m := h.2.1
theorem vfl_cell {v : Nat → Int32} {c nc : Nat} (hc : c < nc) (h : nc ≤ 30) : vfl v (nI c) = v c := by
  rw [vfl_in (inB_t (by omega) (by omega)), n_cl (by omega)]
theorem op_currentAt {v : Nat → Int32} {nb nw nc : Nat} {m : MM} (h : Rlt v nb nw nc m) (x : Int32) : Eq2 (fX6_currentAt 0 x) (fX7_currentAt 0 x) m := by
  cases hg : (inB x nc)
  · refine Eq2.bad h ?_ ?_
    · rw [fX6_currentAt_eq]; unfold fX6_currentAt_b
      cases g_x : inB x nc <;> first | (simp only [e5_hasCell h.1, g_x, Option.bind_some, bind_eta, bI_0, bI_1, reduceCtorEq, not_true, not_false_eq_true, if_true, if_false]; done) | (rw [g_x] at hg; cases hg)
    · intro m1 h1
      rw [fX7_currentAt_eq]; unfold fX7_currentAt_b
      cases g_x : inB x nc <;> first | (simp only [e7_isCell' h1, g_x, Option.bind_some, bind_eta, bI_0, bI_1, reduceCtorEq, not_true, not_false_eq_true, if_true, if_false, Bool.and_true, Bool.and_false, Bool.true_and, Bool.false_and]; done) | (rw [g_x] at hg; cases hg)
  · have g_x := hg
    obtain ⟨hl_c, he_c⟩ := inB_ex g_x
    have hu_c := n_clb x
    have hc_c : ∀ k, k = x.toNatClampNeg → (nI k).toNatClampNeg = k := fun k hk => n_cl (by omega)
    replace hc_c := hc_c _ rfl
    generalize x.toNatClampNeg = c at hl_c he_c hc_c hu_c
    subst he_c
    have hnc := h.1.nc.2.2.1
    refine Eq2.ask h (v c) ?_ ?_
    · rw [fX6_currentAt_eq]; unfold fX6_currentAt_b
      simp only [e5_hasCell h.1, g_x, hc_c, Option.bind_some, bind_eta, bI_0, bI_1, reduceCtorEq, not_true, not_false_eq_true, if_true, if_false]
      rw [e_flow]
      have e : flw m 0 = vfl v := congrArg (fun e : Ev => e.1) h.1.E
      rw [e, vfl_cell hl_c hnc]
      exact Ok.ret ⟨rfl, FrP.rfl⟩
    · intro m1 h1
      rw [fX7_currentAt_eq]; unfold fX7_currentAt_b
      simp only [e7_isCell' h1.1, g_x, hc_c, Option.bind_some, bind_eta, bI_0, bI_1, reduceCtorEq, not_true, not_false_eq_true, if_true, if_false, Bool.and_true]
      rw [inB_t (show c < 30 by omega) (by omega), ← h1.1.2.1.1 c (by omega)]
      exact Ok.ret ⟨rfl, FrP.rfl⟩
theorem inB_6 {x : Int32} (h : inB x 6 = true) : x = 0 ∨ x = 1 ∨ x = 2 ∨ x = 3 ∨ x = 4 ∨ x = 5 := by
  obtain ⟨a, b⟩ := inB_ex h
  have : x.toNatClampNeg = 0 ∨ x.toNatClampNeg = 1 ∨ x.toNatClampNeg = 2 ∨ x.toNatClampNeg = 3 ∨ x.toNatClampNeg = 4 ∨ x.toNatClampNeg = 5 := by omega
  rcases this with e | e | e | e | e | e
  · rw [e] at b; exact Or.inl b
  · rw [e] at b; exact Or.inr (Or.inl b)
  · rw [e] at b; exact Or.inr (Or.inr (Or.inl b))
  · rw [e] at b; exact Or.inr (Or.inr (Or.inr (Or.inl b)))
  · rw [e] at b; exact Or.inr (Or.inr (Or.inr (Or.inr (Or.inl b))))
  · rw [e] at b; exact Or.inr (Or.inr (Or.inr (Or.inr (Or.inr b))))
theorem inB_not6 {x : Int32} (h : inB x 6 = false) : ¬ x = 0 ∧ ¬ x = 1 ∧ ¬ x = 2 ∧ ¬ x = 3 ∧ ¬ x = 4 ∧ ¬ x = 5 := by
  refine ⟨?_, ?_, ?_, ?_, ?_, ?_⟩ <;> intro e <;> rw [e] at h <;> exact absurd h (by decide)
theorem op_bottleOf {v : Nat → Int32} {nb nw nc : Nat} {m : MM} (h : Rlt v nb nw nc m) (x y : Int32) : Eq2 (fX6_bottleOf 0 x y) (fX7_bottleOf 0 x y) m := by
  have w6 : ∀ m, fX6_within y 0 5 m = some (inB y 6, m) := fun m => e6_within' y 5 m (by omega)
  have hnb := h.1.nb.2.1
  cases hx : inB x nb
  · refine Eq2.bad h ?_ ?_
    · rw [fX6_bottleOf_eq]; unfold fX6_bottleOf_b
      simp only [e5_bottleAt h.1, hx, Option.bind_some, bind_eta, reduceCtorEq, if_false]
    · intro m1 h1
      rw [fX7_bottleOf_eq]; unfold fX7_bottleOf_b
      simp only [e7_isBottle h1, hx, Option.bind_some, bind_eta, bI_0, not_true, if_false]
  · cases hy : inB y 6
    · refine Eq2.bad h ?_ ?_
      · rw [fX6_bottleOf_eq]; unfold fX6_bottleOf_b
        simp only [e5_bottleAt h.1, hx, w6, hy, Option.bind_some, bind_eta, bI_0, not_true, if_true, if_false]
      · intro m1 h1
        rw [fX7_bottleOf_eq]; unfold fX7_bottleOf_b
        obtain ⟨a0, a1, a2, a3, a4, a5⟩ := inB_not6 hy
        simp only [e7_isBottle h1, hx, a0, a1, a2, a3, a4, a5, Option.bind_some, bind_eta, bI_0, reduceCtorEq, not_false_eq_true, if_true, if_false]
    · obtain ⟨hb, e⟩ := inB_ex hx
      generalize x.toNatClampNeg = b at hb e
      subst e
      have cl : (nI b).toNatClampNeg = b := n_cl (by omega)
      refine Eq2.ask h (if y = 0 then v (30 + b) else if y = 1 then v (39 + b) else if y = 2 then v (48 + b) else if y = 3 then v (57 + b) else if y = 4 then v (66 + b) else tgh (v (30 + b)) (v (39 + b))) ?_ ?_
      · rw [fX6_bottleOf_eq]; unfold fX6_bottleOf_b
        simp only [e5_bottleAt h.1, hx, w6, hy, Option.bind_some, bind_eta, bI_0, reduceCtorEq, not_false_eq_true, if_true, if_false, cl]
        rw [fX0_tellOf_eq]; unfold fX0_tellOf_b
        obtain ⟨b1, b2, b3, b4, b5⟩ := h.1.bf hb
        simp only [e_toughnessOf, b1, b2, b3, b4, b5, Option.bind_some]
        repeat' split
        all_goals exact Ok.ret ⟨rfl, FrP.rfl⟩
      · intro m1 h1
        rw [fX7_bottleOf_eq]; unfold fX7_bottleOf_b
        obtain ⟨b1, b2, b3, b4, b5⟩ := h1.1.lv.2.1 b (by omega)
        simp only [e7_isBottle h1.1, hx, Option.bind_some, bind_eta, bI_0, reduceCtorEq, not_false_eq_true, if_true, cl, inB_t (show b < 9 by omega) (by omega), cond_true, e7_tough b m1 (by omega), ← b1, ← b2, ← b3, ← b4, ← b5]
        rcases inB_6 hy with e | e | e | e | e | e <;> subst e <;> exact Ok.ret ⟨rfl, FrP.rfl⟩
theorem inB_4 {x : Int32} (h : inB x 4 = true) : x = 0 ∨ x = 1 ∨ x = 2 ∨ x = 3 := by
  have h6 := inB_mono h (show 4 ≤ 6 by omega)
  rcases inB_6 h6 with e | e | e | e | e | e
  · exact Or.inl e
  · exact Or.inr (Or.inl e)
  · exact Or.inr (Or.inr (Or.inl e))
  · exact Or.inr (Or.inr (Or.inr e))
  · rw [e] at h; exact absurd h (by decide)
  · rw [e] at h; exact absurd h (by decide)
theorem op_walkerOf {v : Nat → Int32} {nb nw nc : Nat} {m : MM} (h : Rlt v nb nw nc m) (x : Int32) (y : Int32) : Eq2 (fX6_walkerOf 0 x y) (fX7_walkerOf 0 x y) m := by
  have w6_y : ∀ m, fX6_within y 0 3 m = some (inB y 4, m) := fun m => e6_within' y 3 m (by omega)
  have w7_y : ∀ m, fX7_within y 0 3 m = some (inB y 4, m) := fun m => e7_within' y 3 m (by omega)
  cases hg : ((inB x nw) && (inB y 4))
  · refine Eq2.bad h ?_ ?_
    · rw [fX6_walkerOf_eq]; unfold fX6_walkerOf_b
      cases g_x : inB x nw <;> cases g_y : inB y 4 <;> first | (simp only [e5_walkerAt h.1, w6_y, g_x, g_y, Option.bind_some, bind_eta, bI_0, bI_1, reduceCtorEq, not_true, not_false_eq_true, if_true, if_false]; done) | (rw [g_x, g_y] at hg; cases hg)
    · intro m1 h1
      rw [fX7_walkerOf_eq]; unfold fX7_walkerOf_b
      cases g_x : inB x nw <;> cases g_y : inB y 4 <;> first | (simp only [e7_isWalker h1, w7_y, g_x, g_y, Option.bind_some, bind_eta, bI_0, bI_1, reduceCtorEq, not_true, not_false_eq_true, if_true, if_false, Bool.and_true, Bool.and_false, Bool.true_and, Bool.false_and]; done) | (rw [g_x, g_y] at hg; cases hg)
  · simp only [Bool.and_eq_true] at hg
    obtain ⟨g_x, g_y⟩ := hg
    obtain ⟨hl_k, he_k⟩ := inB_ex g_x
    have hu_k := n_clb x
    have hc_k : ∀ k, k = x.toNatClampNeg → (nI k).toNatClampNeg = k := fun k hk => n_cl (by omega)
    replace hc_k := hc_k _ rfl
    generalize x.toNatClampNeg = k at hl_k he_k hc_k hu_k
    subst he_k
    have hnb := h.1.nb.2.1
    have hnw := h.1.nw.2.1
    refine Eq2.ask h (if y = 3 then bitF (fun i => decide (v (57 + i) = nI k)) nb else if y = 0 then v (75 + k) else if y = 1 then v (81 + k) else v (87 + k)) ?_ ?_
    · rw [fX6_walkerOf_eq]; unfold fX6_walkerOf_b
      simp only [e5_walkerAt h.1, w6_y, g_x, g_y, hc_k, Option.bind_some, bind_eta, bI_0, bI_1, reduceCtorEq, not_true, not_false_eq_true, if_true, if_false]
      by_cases q : y = 3
      · rw [if_neg (fun h => h q), if_pos q, fX5_addressedTo_eq]; unfold fX5_addressedTo_b
        simp only [bind_eta]
        refine (Ok.bits (f := fX5_addressedTo_b4 0 (nI k)) nb (fun i => decide (v (57 + i) = nI k)) (fun m' => m' = m) (by omega) ?_ ?_ m rfl).mono (fun r m' ⟨a, e⟩ => ⟨a, e ▸ FrP.rfl⟩)
        · intro i y m' hi e
          subst e
          unfold fX5_addressedTo_b4
          dsimp only
          rw [h.1.nb.2.2, if_neg (by rw [n_le (by omega) (by omega)]; omega), e5_bottleAt h.1, inB_t hi (by omega), n_cl (by omega)]
          simp only [if_true, Option.bind_some]
          rw [(h.1.bf hi).2.2.2.1]
          by_cases q : v (57 + i) = nI k
          · rw [if_neg (fun h => h q), if_pos (decide_eq_true q)]; exact Ok.ret ⟨rfl, rfl⟩
          · rw [if_pos q, if_neg (fun h => q (of_decide_eq_true h))]; exact Ok.ret ⟨rfl, rfl⟩
        · intro y m' e
          subst e
          unfold fX5_addressedTo_b4
          dsimp only
          rw [h.1.nb.2.2, if_pos (by rw [n_le (by omega) (by omega)]; omega)]
      · rw [if_pos q, if_neg q, fX4_tellOf_eq]; unfold fX4_tellOf_b
        obtain ⟨b1, b2, b3⟩ := h.1.wf hl_k
        rw [b1, b2, b3]
        by_cases q0 : y = 0
        · rw [if_neg (fun h => h q0), if_pos q0]; exact Ok.ret ⟨rfl, FrP.rfl⟩
        · rw [if_pos q0, if_neg q0]
          by_cases q1 : y = 1
          · rw [if_neg (fun h => h q1), if_pos q1]; exact Ok.ret ⟨rfl, FrP.rfl⟩
          · rw [if_pos q1, if_neg q1]; exact Ok.ret ⟨rfl, FrP.rfl⟩
    · intro m1 h1
      rw [fX7_walkerOf_eq]; unfold fX7_walkerOf_b
      simp only [e7_isWalker h1.1, w7_y, g_x, g_y, hc_k, Option.bind_some, bind_eta, bI_0, bI_1, reduceCtorEq, not_true, not_false_eq_true, if_true, if_false, Bool.and_true]
      by_cases q : y = 3
      · rw [if_neg (fun h => h q), if_pos q, fX7_forHim_eq]; unfold fX7_forHim_b
        simp only [bind_eta]
        refine (Ok.bits (f := fX7_forHim_b4 0 (nI k)) nb (fun i => decide (v (57 + i) = nI k)) (fun m' => m' = m1) (by omega) ?_ ?_ m1 rfl).mono (fun r m' ⟨a, e⟩ => ⟨a, e ▸ FrP.rfl⟩)
        · intro i y m' hi e
          subst e
          unfold fX7_forHim_b4
          dsimp only
          rw [h1.1.nb.1, if_neg (by rw [n_le (by omega) (by omega)]; omega), inB_t (show i < 9 by omega) (by omega), n_cl (by omega), ← (h1.1.lv.2.1 i (by omega)).2.2.2.1]
          simp only [cond_true]
          by_cases q : v (57 + i) = nI k
          · rw [if_neg (fun h => h q), if_pos (decide_eq_true q)]; exact Ok.ret ⟨rfl, rfl⟩
          · rw [if_pos q, if_neg (fun h => q (of_decide_eq_true h))]; exact Ok.ret ⟨rfl, rfl⟩
        · intro y m' e
          subst e
          unfold fX7_forHim_b4
          dsimp only
          rw [h1.1.nb.1, if_pos (by rw [n_le (by omega) (by omega)]; omega)]
      · rw [if_pos q, if_neg q]
        have g := h1.1.lv.2.2.1
        rcases inB_4 g_y with e | e | e | e
        · subst e
          have : (6 : Int32) * 0 + nI k = nI k := by rw [show (6 : Int32) * 0 = nI 0 from by decide, ← n_add, Nat.zero_add]
          rw [this, inB_t (show k < 18 by omega) (by omega), hc_k, ← g k (by omega)]; exact Ok.ret ⟨rfl, FrP.rfl⟩
        · subst e
          have : (6 : Int32) * 1 + nI k = nI (6 + k) := by rw [show (6 : Int32) * 1 = nI 6 from by decide, ← n_add]
          rw [this, inB_t (show 6 + k < 18 by omega) (by omega), n_cl (by omega), ← g (6 + k) (by omega), show 75 + (6 + k) = 81 + k by omega]; exact Ok.ret ⟨rfl, FrP.rfl⟩
        · subst e
          have : (6 : Int32) * 2 + nI k = nI (12 + k) := by rw [show (6 : Int32) * 2 = nI 12 from by decide, ← n_add]
          rw [this, inB_t (show 12 + k < 18 by omega) (by omega), n_cl (by omega), ← g (12 + k) (by omega), show 75 + (12 + k) = 87 + k by omega]; exact Ok.ret ⟨rfl, FrP.rfl⟩
        · exact absurd e q
theorem op_there {v : Nat → Int32} {nb nw nc : Nat} {m : MM} (h : Rlt v nb nw nc m) (x : Int32) (y : Int32) : Eq2 (fX6_there 0 x y) (fX7_there 0 x y) m := by
  have w6_y : ∀ m, fX6_within y 0 1 m = some (inB y 2, m) := fun m => e6_within' y 1 m (by omega)
  have w7_y : ∀ m, fX7_within y 0 1 m = some (inB y 2, m) := fun m => e7_within' y 1 m (by omega)
  cases hg : ((inB x nc) && (inB y 2))
  · refine Eq2.bad h ?_ ?_
    · rw [fX6_there_eq]; unfold fX6_there_b
      cases g_x : inB x nc <;> cases g_y : inB y 2 <;> first | (simp only [e5_hasCell h.1, w6_y, g_x, g_y, Option.bind_some, bind_eta, bI_0, bI_1, reduceCtorEq, not_true, not_false_eq_true, if_true, if_false]; done) | (rw [g_x, g_y] at hg; cases hg)
    · intro m1 h1
      rw [fX7_there_eq]; unfold fX7_there_b
      cases g_x : inB x nc <;> cases g_y : inB y 2 <;> first | (simp only [e7_isCell' h1, w7_y, g_x, g_y, Option.bind_some, bind_eta, bI_0, bI_1, reduceCtorEq, not_true, not_false_eq_true, if_true, if_false, Bool.and_true, Bool.and_false, Bool.true_and, Bool.false_and]; done) | (rw [g_x, g_y] at hg; cases hg)
  · simp only [Bool.and_eq_true] at hg
    obtain ⟨g_x, g_y⟩ := hg
    obtain ⟨hl_c, he_c⟩ := inB_ex g_x
    have hu_c := n_clb x
    have hc_c : ∀ k, k = x.toNatClampNeg → (nI k).toNatClampNeg = k := fun k hk => n_cl (by omega)
    replace hc_c := hc_c _ rfl
    generalize x.toNatClampNeg = c at hl_c he_c hc_c hu_c
    subst he_c
    have hnb := h.1.nb.2.1
    have hnw := h.1.nw.2.1
    refine Eq2.ask h (if y = 0 then bitF (fun i => decide (v (66 + i) = 0 ∧ v (48 + i) = nI c)) nb else bitF (fun i => decide (v (75 + i) = nI c)) nw) ?_ ?_
    · rw [fX6_there_eq]; unfold fX6_there_b
      simp only [e5_hasCell h.1, w6_y, g_x, g_y, hc_c, Option.bind_some, bind_eta, bI_0, bI_1, reduceCtorEq, not_true, not_false_eq_true, if_true, if_false]
      by_cases q : y = 0
      · rw [if_neg (fun h => h q), if_pos q, fX5_afloatIn_eq]; unfold fX5_afloatIn_b
        simp only [bind_eta]
        refine (Ok.bits (f := fX5_afloatIn_b4 0 (nI c)) nb (fun i => decide (v (66 + i) = 0 ∧ v (48 + i) = nI c)) (fun m' => m' = m) (by omega) ?_ ?_ m rfl).mono (fun r m' ⟨a, e⟩ => ⟨a, e ▸ FrP.rfl⟩)
        · intro i y m' hi e
          subst e
          unfold fX5_afloatIn_b4
          dsimp only
          rw [h.1.nb.2.2, if_neg (by rw [n_le (by omega) (by omega)]; omega), e5_bottleAt h.1, inB_t hi (by omega), n_cl (by omega)]
          simp only [if_true, Option.bind_some]
          rw [(h.1.bf hi).2.2.2.2, (h.1.bf hi).2.2.1]
          by_cases q : v (66 + i) = 0
          · rw [if_neg (fun h => h q)]
            by_cases q2 : v (48 + i) = nI c
            · rw [if_neg (fun h => h q2), if_pos (decide_eq_true ⟨q, q2⟩)]; exact Ok.ret ⟨rfl, rfl⟩
            · rw [if_pos q2, if_neg (fun h => q2 (of_decide_eq_true h).2)]; exact Ok.ret ⟨rfl, rfl⟩
          · rw [if_pos q, if_neg (fun h => q (of_decide_eq_true h).1)]; exact Ok.ret ⟨rfl, rfl⟩
        · intro y m' e
          subst e
          unfold fX5_afloatIn_b4
          dsimp only
          rw [h.1.nb.2.2, if_pos (by rw [n_le (by omega) (by omega)]; omega)]
      · rw [if_pos q, if_neg q, fX5_walkersAt_eq]; unfold fX5_walkersAt_b
        simp only [bind_eta]
        refine (Ok.bits (f := fX5_walkersAt_b4 0 (nI c)) nw (fun i => decide (v (75 + i) = nI c)) (fun m' => m' = m) (by omega) ?_ ?_ m rfl).mono (fun r m' ⟨a, e⟩ => ⟨a, e ▸ FrP.rfl⟩)
        · intro i y m' hi e
          subst e
          unfold fX5_walkersAt_b4
          dsimp only
          rw [h.1.nw.2.2, if_neg (by rw [n_le (by omega) (by omega)]; omega), e5_walkerAt h.1, inB_t hi (by omega), n_cl (by omega)]
          simp only [if_true, Option.bind_some]
          rw [(h.1.wf hi).1]
          by_cases q : v (75 + i) = nI c
          · rw [if_neg (fun h => h q), if_pos (decide_eq_true q)]; exact Ok.ret ⟨rfl, rfl⟩
          · rw [if_pos q, if_neg (fun h => q (of_decide_eq_true h))]; exact Ok.ret ⟨rfl, rfl⟩
        · intro y m' e
          subst e
          unfold fX5_walkersAt_b4
          dsimp only
          rw [h.1.nw.2.2, if_pos (by rw [n_le (by omega) (by omega)]; omega)]
    · intro m1 h1
      rw [fX7_there_eq]; unfold fX7_there_b
      simp only [e7_isCell' h1.1, w7_y, g_x, g_y, hc_c, Option.bind_some, bind_eta, bI_0, bI_1, reduceCtorEq, not_true, not_false_eq_true, if_true, if_false, Bool.and_true]
      unfold fX7_there_j77
      rcases inB_2 g_y with e | e
      · subst e
        rw [if_neg (fun h => h rfl), if_pos rfl]
        refine Ok.bind (Ok.bits (f := fX7_there_b34 0 (nI c) 0) nb (fun i => decide (v (66 + i) = 0 ∧ v (48 + i) = nI c)) (fun m' => m' = m1) (by omega) ?_ ?_ m1 rfl) ?_
        · intro i y m' hi e
          subst e
          obtain ⟨a1, a2, a3, a4, a5⟩ := h1.1.lv.2.1 i (by omega)
          unfold fX7_there_b34
          dsimp only
          rw [h1.1.nb.1, if_neg (by rw [n_le (by omega) (by omega)]; omega), inB_t (show i < 9 by omega) (by omega), n_cl (by omega), ← a5, ← a3]
          simp only [cond_true]
          by_cases q : v (66 + i) = 0
          · rw [if_neg (fun h => h q)]
            by_cases q2 : v (48 + i) = nI c
            · rw [if_neg (fun h => h q2), if_pos (decide_eq_true ⟨q, q2⟩)]; exact Ok.ret ⟨rfl, rfl⟩
            · rw [if_pos q2, if_neg (fun h => q2 (of_decide_eq_true h).2)]; exact Ok.ret ⟨rfl, rfl⟩
          · rw [if_pos q, if_neg (fun h => q (of_decide_eq_true h).1)]; exact Ok.ret ⟨rfl, rfl⟩
        · intro y m' e
          subst e
          unfold fX7_there_b34
          dsimp only
          rw [h1.1.nb.1, if_pos (by rw [n_le (by omega) (by omega)]; omega)]
        · intro r m' ⟨a, e⟩
          subst e
          dsimp only
          rw [if_pos (by decide)]
          exact Ok.ret ⟨a, FrP.rfl⟩
      · subst e
        rw [if_pos (by decide), if_neg (by decide), if_neg (by decide)]
        simp only [bind_eta]
        refine (Ok.bits (f := fX7_there_b85 0 (nI c)) nw (fun i => decide (v (75 + i) = nI c)) (fun m' => m' = m1) (by omega) ?_ ?_ m1 rfl).mono (fun r m' ⟨a, e⟩ => ⟨a, e ▸ FrP.rfl⟩)
        · intro i y m' hi e
          subst e
          unfold fX7_there_b85
          dsimp only
          rw [h1.1.nw.1, if_neg (by rw [n_le (by omega) (by omega)]; omega), inB_t (show i < 18 by omega) (by omega), n_cl (by omega), ← h1.1.lv.2.2.1 i (by omega)]
          simp only [cond_true]
          by_cases q : v (75 + i) = nI c
          · rw [if_neg (fun h => h q), if_pos (decide_eq_true q)]; exact Ok.ret ⟨rfl, rfl⟩
          · rw [if_pos q, if_neg (fun h => q (of_decide_eq_true h))]; exact Ok.ret ⟨rfl, rfl⟩
        · intro y m' e
          subst e
          unfold fX7_there_b85
          dsimp only
          rw [h1.1.nw.1, if_pos (by rw [n_le (by omega) (by omega)]; omega)]
theorem op_ofKind {v : Nat → Int32} {nb nw nc : Nat} {m : MM} (h : Rlt v nb nw nc m) (x : Int32) : Eq2 (fX6_ofKind 0 x) (fX7_ofKind 0 x) m := by
  have w6_x : ∀ m, fX6_within x 0 5 m = some (inB x 6, m) := fun m => e6_within' x 5 m (by omega)
  have w7_x : ∀ m, fX7_within x 0 5 m = some (inB x 6, m) := fun m => e7_within' x 5 m (by omega)
  cases hg : (inB x 6)
  · refine Eq2.bad h ?_ ?_
    · rw [fX6_ofKind_eq]; unfold fX6_ofKind_b
      cases g_x : inB x 6 <;> first | (simp only [w6_x, e6_isKind, g_x, Option.bind_some, bind_eta, bI_0, bI_1, reduceCtorEq, not_true, not_false_eq_true, if_true, if_false]; done) | (rw [g_x] at hg; cases hg)
    · intro m1 h1
      rw [fX7_ofKind_eq]; unfold fX7_ofKind_b
      cases g_x : inB x 6 <;> first | (simp only [w7_x, e7_isSuch, g_x, Option.bind_some, bind_eta, bI_0, bI_1, reduceCtorEq, not_true, not_false_eq_true, if_true, if_false, Bool.and_true, Bool.and_false, Bool.true_and, Bool.false_and]; done) | (rw [g_x] at hg; cases hg)
  · have g_x := hg
    have hnb := h.1.nb.2.1
    refine Eq2.ask h (nI (cnt (fun i => decide (v (30 + i) = x)) nb)) ?_ ?_
    · rw [fX6_ofKind_eq]; unfold fX6_ofKind_b
      simp only [w6_x, e6_isKind, g_x, Option.bind_some, bind_eta, bI_0, bI_1, reduceCtorEq, not_true, not_false_eq_true, if_true, if_false]
      refine (Ok.cnts (f := fX6_ofKind_b19 0 x) nb (fun i => decide (v (30 + i) = x)) (fun m' => m' = m) (by omega) ?_ ?_ m rfl).mono (fun r m' ⟨a, e⟩ => ⟨a, e ▸ FrP.rfl⟩)
      · intro i y m' hi e
        subst e
        unfold fX6_ofKind_b19
        dsimp only
        rw [h.1.nb.2.2, if_neg (by rw [n_le (by omega) (by omega)]; omega), e5_bottleAt h.1, inB_t hi (by omega), n_cl (by omega)]
        simp only [if_true, Option.bind_some]
        rw [(h.1.bf hi).1]
        by_cases q : v (30 + i) = x
        · rw [if_neg (fun h => h q), if_pos (decide_eq_true q)]; exact Ok.ret ⟨rfl, rfl⟩
        · rw [if_pos q, if_neg (fun h => q (of_decide_eq_true h))]; exact Ok.ret ⟨rfl, rfl⟩
      · intro y m' e
        subst e
        unfold fX6_ofKind_b19
        dsimp only
        rw [h.1.nb.2.2, if_pos (by rw [n_le (by omega) (by omega)]; omega)]
    · intro m1 h1
      rw [fX7_ofKind_eq]; unfold fX7_ofKind_b
      simp only [w7_x, e7_isSuch, g_x, Option.bind_some, bind_eta, bI_0, bI_1, reduceCtorEq, not_true, not_false_eq_true, if_true, if_false, Bool.and_true]
      refine (Ok.cnts (f := fX7_ofKind_b21 0 x) nb (fun i => decide (v (30 + i) = x)) (fun m' => m' = m1) (by omega) ?_ ?_ m1 rfl).mono (fun r m' ⟨a, e⟩ => ⟨a, e ▸ FrP.rfl⟩)
      · intro i y m' hi e
        subst e
        unfold fX7_ofKind_b21
        dsimp only
        rw [h1.1.nb.1, if_neg (by rw [n_le (by omega) (by omega)]; omega), inB_t (show i < 9 by omega) (by omega), n_cl (by omega), ← (h1.1.lv.2.1 i (by omega)).1]
        simp only [cond_true]
        by_cases q : v (30 + i) = x
        · rw [if_neg (fun h => h q), if_pos (decide_eq_true q)]; exact Ok.ret ⟨rfl, rfl⟩
        · rw [if_pos q, if_neg (fun h => q (of_decide_eq_true h))]; exact Ok.ret ⟨rfl, rfl⟩
      · intro y m' e
        subst e
        unfold fX7_ofKind_b21
        dsimp only
        rw [h1.1.nb.1, if_pos (by rw [n_le (by omega) (by omega)]; omega)]
