/-! PURE: what changes the world -/
/-- where a number of the row lies in the class's world w -/
def loc6 (w c i k j : Nat) : Prop := (c = 5 ∧ i = w ∧ ((k = 0 ∧ j = 93) ∨ (k = 1 ∧ j = 94) ∨ (k = 2 ∧ j = 95) ∨ (k = 3 ∧ j = 96) ∨ (k = 4 ∧ j = 99) ∨ (k = 5 ∧ j = 97) ∨ (k = 6 ∧ j = 98))) ∨ (c = 40 ∧ i = w ∧ k = j ∧ j < 30) ∨ (c = 0 ∧ ∃ b, b < 8 ∧ i = 9 * w + 1 + b ∧ k < 5 ∧ j = 30 + 9 * k + b) ∨ (c = 4 ∧ ∃ b, b < 6 ∧ i = 7 * w + 1 + b ∧ k < 3 ∧ j = 75 + 6 * k + b)
theorem RelW_one {mi : MI} {w nb nw c i k j : Nat} {v : Nat → Int32} (h : RelW mi w nb nw v) (hb : nb ≤ 8) (hw : nw ≤ 6) (hl : loc6 w c i k j) (x : Int32) : RelW (upI mi c i k x) w nb nw (upv v j x) := by
  have key : ∀ c' i' k' j', loc6 w c' i' k' j' → mi c' i' k' = v j' → upI mi c i k x c' i' k' = upv v j x j' := by
    intro c' i' k' j' hl' e
    by_cases q : c' = c ∧ i' = i ∧ k' = k
    · obtain ⟨q1, q2, q3⟩ := q
      subst q1 q2 q3
      have : j' = j := by
        unfold loc6 at hl hl'
        rcases hl with ⟨a, a1, a2⟩ | ⟨a, a1, a2⟩ | ⟨a, b, b1, b2, b3, b4⟩ | ⟨a, b, b1, b2, b3, b4⟩ <;> rcases hl' with ⟨a', a1', a2'⟩ | ⟨a', a1', a2'⟩ | ⟨a', b', b1', b2', b3', b4'⟩ | ⟨a', b', b1', b2', b3', b4'⟩ <;> omega
      rw [this, upI_same, upv_same]
    · have : ¬ j' = j := by
        unfold loc6 at hl hl'
        rcases hl with ⟨a, a1, a2⟩ | ⟨a, a1, a2⟩ | ⟨a, b, b1, b2, b3, b4⟩ | ⟨a, b, b1, b2, b3, b4⟩ <;> rcases hl' with ⟨a', a1', a2'⟩ | ⟨a', a1', a2'⟩ | ⟨a', b', b1', b2', b3', b4'⟩ | ⟨a', b', b1', b2', b3', b4'⟩ <;> omega
      rw [upI_nn q, upv_nn this, e]
  obtain ⟨a1, a2, a3, a4, a5, a6, a7, a8, a9, a10⟩ := h
  refine ⟨key _ _ _ _ (by unfold loc6; omega) a1, key _ _ _ _ (by unfold loc6; omega) a2, key _ _ _ _ (by unfold loc6; omega) a3, key _ _ _ _ (by unfold loc6; omega) a4, key _ _ _ _ (by unfold loc6; omega) a5, key _ _ _ _ (by unfold loc6; omega) a6, key _ _ _ _ (by unfold loc6; omega) a7, fun c hc => key _ _ _ _ (by unfold loc6; omega) (a8 c hc), fun b hb' => ?_, fun b hb' => ?_⟩
  · obtain ⟨b1, b2, b3, b4, b5⟩ := a9 b hb'
    refine ⟨key _ _ _ _ (Or.inr (Or.inr (Or.inl ⟨rfl, b, by omega, rfl, by omega, by omega⟩))) b1, key _ _ _ _ (Or.inr (Or.inr (Or.inl ⟨rfl, b, by omega, rfl, by omega, by omega⟩))) b2, key _ _ _ _ (Or.inr (Or.inr (Or.inl ⟨rfl, b, by omega, rfl, by omega, by omega⟩))) b3, key _ _ _ _ (Or.inr (Or.inr (Or.inl ⟨rfl, b, by omega, rfl, by omega, by omega⟩))) b4, key _ _ _ _ (Or.inr (Or.inr (Or.inl ⟨rfl, b, by omega, rfl, by omega, by omega⟩))) b5⟩
  · obtain ⟨b1, b2, b3⟩ := a10 b hb'
    refine ⟨key _ _ _ _ (Or.inr (Or.inr (Or.inr ⟨rfl, b, by omega, rfl, by omega, by omega⟩))) b1, key _ _ _ _ (Or.inr (Or.inr (Or.inr ⟨rfl, b, by omega, rfl, by omega, by omega⟩))) b2, key _ _ _ _ (Or.inr (Or.inr (Or.inr ⟨rfl, b, by omega, rfl, by omega, by omega⟩))) b3⟩
/-- the places of the world of now, of both -/
def DW : Nat → Nat → Nat → Prop := fun c i k => ((c = 5 ∨ c = 40) ∧ i = 0) ∨ (c = 0 ∧ i ≤ 8) ∨ (c = 4 ∧ i ≤ 6) ∨ Dlv c i k
theorem RelS_mono {m : MM} {nb nb' : Nat} (h : RelS m nb) (hn : nb ≤ nb') : RelS m nb' := by
  intro s hs
  obtain ⟨s1, s2, s3, s4, s5⟩ := h s hs
  exact ⟨s1, s2, s3, s4.imp id (fun h => h.imp id (fun ⟨b, a, c⟩ => ⟨b, by omega, c⟩)), s5⟩
theorem Rlt_W {v v' : Nat → Int32} {nb nw nc nb' nw' nc' : Nat} {m m' : MM} (h : Rlt v nb nw nc m) (f : FrP DW m m') (hn : nb ≤ nb') (hF : WF v' nb' nw' nc') (hL : Lv v' m') (hW : RelW m'.1 0 nb' nw' v') : Rlt v' nb' nw' nc' m' := by
  obtain ⟨⟨h1, h2, h3, h4, h5, h6, h8⟩, h7⟩ := h
  refine ⟨⟨hF, hL, hW, RelS_mono (RelS_fr h4 f.1 f.2 (by unfold DW Dlv; omega) (by unfold DW Dlv; omega) (by unfold DW Dlv; omega)) hn, RelT_fr h5 f.1 (by unfold DW Dlv; omega) (by unfold DW Dlv; omega) (by unfold DW Dlv; omega) (by unfold DW Dlv; omega), RelI_fr h6 f.1 (by unfold DW Dlv; omega) (by unfold DW Dlv; omega) (by unfold DW Dlv; omega) (by unfold DW Dlv; omega) (by unfold DW Dlv; omega) (by unfold DW Dlv; omega) (by unfold DW Dlv; omega), RelK_fr h8 f.1 (by unfold DW Dlv; omega) (by unfold DW Dlv; omega)⟩, RelN_fr h7 f.1 (by unfold DW Dlv; omega) (by unfold DW Dlv; omega)⟩
/-- both change one number of the row -/
theorem Eq2.one {F G : MM → Option (Int32 × MM)} {m : MM} {v : Nat → Int32} {nb nw nc nb' nw' nc' : Nat} (h : Rlt v nb nw nc m) {c6 i6 k6 c7 k7 j : Nat} (r x : Int32) (l6 : loc6 0 c6 i6 k6 j) (l7 : loc c7 k7 j) (hb : nb' = nb) (hw : nw' = nw) (hF : WF (upv v j x) nb' nw' nc') (e6 : F m = some (r, (upI m.1 c6 i6 k6 x, m.2))) (e7 : ∀ m1, Lv v m1 → G m1 = some (r, (upI m1.1 c7 0 k7 x, m1.2))) : Eq2 F G m := by
  subst hb hw
  have hnb := h.1.1.2.1
  have hnw := h.1.1.2.2.2.1
  have d6 : DW c6 i6 k6 ∧ ¬ Dlv c6 i6 k6 ∧ ¬ c6 = 33 := by
    unfold loc6 at l6
    unfold DW Dlv
    rcases l6 with ⟨a, a1, a2⟩ | ⟨a, a1, a2⟩ | ⟨a, b, b1, b2, b3, b4⟩ | ⟨a, b, b1, b2, b3, b4⟩ <;> omega
  have d7 : DW c7 0 k7 ∧ ¬ (c7 = 5 ∨ c7 = 40 ∨ c7 = 0 ∨ c7 = 4 ∨ c7 = 33) := by
    unfold loc at l7
    unfold DW Dlv
    omega
  have f1 : FrP (fun c i k => c = c6 ∧ i = i6 ∧ k = k6) m (upI m.1 c6 i6 k6 x, m.2) := FrP.up (m' := m) FrP.rfl ⟨rfl, rfl, rfl⟩ _
  unfold Eq2
  rw [e6]
  refine Ok.ret ?_
  have L1 : Lv v (upI m.1 c6 i6 k6 x, m.2) := Lv_fr h.1.2.1 f1 (fun c i k hd q => d6.2.1 (by rw [q.1, q.2.1, q.2.2] at hd; exact hd))
  rw [e7 _ L1]
  refine Ok.ret ⟨rfl, ⟨upv v j x, nb', nw', nc', ?_⟩, ?_⟩
  · have f2 : FrP DW m (upI (upI m.1 c6 i6 k6 x) c7 0 k7 x, m.2) := FrP.up (m' := (upI m.1 c6 i6 k6 x, m.2)) (f1.mono (fun c i k q => by rw [q.1, q.2.1, q.2.2]; exact d6.1)) d7.1 _
    refine Rlt_W h f2 (Nat.le_refl _) hF (Lv_one L1 l7 x) ?_
    have W1 := RelW_one h.1.2.2.1 hnb hnw l6 x
    refine RelW_fr' (m := (upI m.1 c6 i6 k6 x, m.2)) (D := fun c i k => c = c7 ∧ i = 0 ∧ k = k7) W1 (fun c i k q => upI_nn q) ?_ ?_ ?_ ?_
    · intro k _ q; exact d7.2 (Or.inl q.1.symm)
    · intro k _ q; exact d7.2 (Or.inr (Or.inl q.1.symm))
    · intro b k _ _ q; exact d7.2 (Or.inr (Or.inr (Or.inl q.1.symm)))
    · intro b k _ _ q; exact d7.2 (Or.inr (Or.inr (Or.inr (Or.inl q.1.symm))))
  · funext i k
    dsimp only
    rw [upI_nn (fun q => d7.2 (Or.inr (Or.inr (Or.inr (Or.inr q.1.symm))))), upI_nn (fun q => d6.2.2 q.1.symm)]
/-! seed, current, paves, tell, sends -/
theorem WF_free {v : Nat → Int32} {nb nw nc j : Nat} (h : WF v nb nw nc) (x : Int32) (hj : j < 30 ∨ j = 94 ∨ j = 96 ∨ j = 99) : WF (upv v j x) nb nw nc := by
  obtain ⟨h1, h2, h3, h4, h5, h6, h7, h8, h9, h10, h11⟩ := h
  refine ⟨by rw [upv_nn (by omega)]; exact h1, h2, by rw [upv_nn (by omega)]; exact h3, h4, by rw [upv_nn (by omega)]; exact h5, h6, h7, ?_, ?_, ?_, by rw [upv_nn (by omega)]; exact h11⟩
  · intro b hb; rw [upv_nn (by omega), upv_nn (by omega)]; exact h8 b hb
  · intro b hb; rw [upv_nn (by omega), upv_nn (by omega), upv_nn (by omega), upv_nn (by omega)]; exact h9 b hb
  · intro w hw; unfold vW; rw [upv_nn (by omega), upv_nn (by omega), upv_nn (by omega)]; exact h10 w hw
theorem op_seed {v : Nat → Int32} {nb nw nc : Nat} {m : MM} (h : Rlt v nb nw nc m) (x : Int32) : Eq2 (fX6_seed 0 x) (fX7_seed 0 x) m := by
  refine Eq2.one h (c6 := 5) (i6 := 0) (k6 := 4) (c7 := 7) (k7 := 12) (j := 99) (v 99) x (by unfold loc6; omega) (by unfold loc; omega) rfl rfl (WF_free h.1.1 x (by omega)) ?_ ?_
  · rw [fX6_seed_eq]; unfold fX6_seed_b; rw [h.1.2.2.1.2.2.2.2.1]
  · intro m1 h1
    rw [fX7_seed_eq]; unfold fX7_seed_b; rw [← h1.2.2.2.2.2.2.2.2.2]
theorem e_setFlow (w : Nat) (c : Nat) (x : Int32) (m : MM) (hc : c < 30) : fX5_setFlow w (nI c) x m = some ((), (upI m.1 40 w c x, m.2)) := by
  rw [fX5_setFlow_eq]; unfold fX5_setFlow_b
  rw [inB_hi _ 30 (by omega), inB_t hc (by omega), if_pos rfl, n_cl (by omega)]; rfl
theorem op_current {v : Nat → Int32} {nb nw nc : Nat} {m : MM} (h : Rlt v nb nw nc m) (x : Int32) (y : Int32) : Eq2 (fX6_current 0 x y) (fX7_current 0 x y) m := by
  have w6_y : ∀ m, fX6_within y 0 6 m = some (inB y 7, m) := fun m => e6_within' y 6 m (by omega)
  have w7_y : ∀ m, fX7_within y 0 6 m = some (inB y 7, m) := fun m => e7_within' y 6 m (by omega)
  cases hg : ((inB x nc) && (inB y 7))
  · refine Eq2.bad h ?_ ?_
    · rw [fX6_current_eq]; unfold fX6_current_b
      cases g_x : inB x nc <;> cases g_y : inB y 7 <;> first | (simp only [e5_hasCell h.1, w6_y, g_x, g_y, Option.bind_some, bind_eta, bI_0, bI_1, reduceCtorEq, not_true, not_false_eq_true, if_true, if_false]; done) | (rw [g_x, g_y] at hg; cases hg)
    · intro m1 h1
      rw [fX7_current_eq]; unfold fX7_current_b
      cases g_x : inB x nc <;> cases g_y : inB y 7 <;> first | (simp only [e7_isCell' h1, w7_y, g_x, g_y, Option.bind_some, bind_eta, bI_0, bI_1, reduceCtorEq, not_true, not_false_eq_true, if_true, if_false, Bool.and_true, Bool.and_false, Bool.true_and, Bool.false_and]; done) | (rw [g_x, g_y] at hg; cases hg)
  · simp only [Bool.and_eq_true] at hg
    obtain ⟨g_x, g_y⟩ := hg
    obtain ⟨hl_c, he_c⟩ := inB_ex g_x
    have hu_c := n_clb x
    have hc_c : ∀ k, k = x.toNatClampNeg → (nI k).toNatClampNeg = k := fun k hk => n_cl (by omega)
    replace hc_c := hc_c _ rfl
    generalize x.toNatClampNeg = c at hl_c he_c hc_c hu_c
    subst he_c
    have hnc := h.1.nc.2.2.1
    refine Eq2.one h (c6 := 40) (i6 := 0) (k6 := c) (c7 := 50) (k7 := c) (j := c) (v c) y (by unfold loc6; omega) (by unfold loc; omega) rfl rfl (WF_free h.1.1 y (by omega)) ?_ ?_
    · rw [fX6_current_eq]; unfold fX6_current_b
      simp only [e5_hasCell h.1, w6_y, g_x, g_y, hc_c, Option.bind_some, bind_eta, bI_0, bI_1, reduceCtorEq, not_true, not_false_eq_true, if_true, if_false]
      have e : flw m 0 = vfl v := congrArg (fun e : Ev => e.1) h.1.E
      rw [e_flow, e, vfl_cell hl_c hnc]
      simp only [Option.bind_some]
      rw [e_setFlow 0 c y m (by omega)]
      rfl
    · intro m1 h1
      rw [fX7_current_eq]; unfold fX7_current_b
      rw [e7_isCell (nI c) m1 (h1.nc h.1.1) (by omega)]
      simp only [g_x, g_y, Option.bind_some, bI_0, reduceCtorEq, not_false_eq_true, if_true, if_false]
      rw [inB_t (show c < 30 by omega) (by omega), hc_c, w7_y, g_y, h1.1 c (by omega)]
      simp only [Option.bind_some, bI_0, reduceCtorEq, not_false_eq_true, if_true, if_false, cond_true]
theorem within_from {x : Int32} {nc : Nat} (h : nc ≤ 30) (m : MM) : fX7_within x (nI nc) 30 m = some (decide (inB x 31 = true ∧ nc ≤ x.toNatClampNeg), m) := by
  rw [fX7_within_eq]; unfold fX7_within_b
  have i := inB_iff x 31
  by_cases h0 : x < nI nc
  · rw [if_pos h0, decide_eq_false]
    intro ⟨a, b⟩
    have := n_clti x (i.1 a).1
    rw [Int32.lt_iff_toInt_lt, n_ti (by omega)] at h0; omega
  · rw [if_neg h0]
    rw [Int32.lt_iff_toInt_lt, n_ti (by omega)] at h0
    have e := n_clti x (by omega)
    have t30 : (30 : Int32).toInt = 30 := rfl
    by_cases h1 : 30 < x
    · rw [if_pos h1, decide_eq_false]
      intro ⟨a, b⟩
      have := (i.1 a).2
      rw [Int32.lt_iff_toInt_lt, t30] at h1; omega
    · rw [if_neg h1, decide_eq_true]
      rw [Int32.lt_iff_toInt_lt, t30] at h1
      exact ⟨i.2 (by omega), by omega⟩
theorem e6_w7 (x a b : Int32) (m : MM) : fX6_within x a b m = fX7_within x a b m := by
  rw [fX6_within_eq, fX7_within_eq]; rfl
theorem Kok_mono {nc nc' : Nat} {s : CH} (h : Kok nc s) (hn : nc ≤ nc') : Kok nc' s := ⟨inB_mono h.1 hn, h.2⟩
theorem op_paves {v : Nat → Int32} {nb nw nc : Nat} {m : MM} (h : Rlt v nb nw nc m) (x : Int32) : Eq2 (fX6_paves 0 x) (fX7_paves 0 x) m := by
  have hnc := h.1.nc
  by_cases hx : inB x 31 = true ∧ nc ≤ x.toNatClampNeg
  · obtain ⟨a, b⟩ := hx
    obtain ⟨c, e⟩ := inB_ex a
    generalize x.toNatClampNeg = n at b c e
    subst e
    have w : ∀ m, fX7_within (nI n) (nI nc) 30 m = some (true, m) := fun m => by
      rw [within_from hnc.2.2.1, decide_eq_true ⟨a, by rw [n_cl (by omega)]; exact b⟩]
    refine Eq2.one h (nc' := n) (c6 := 5) (i6 := 0) (k6 := 0) (c7 := 7) (k7 := 0) (j := 93) (nI nc) (nI n) (by unfold loc6; omega) (by unfold loc; omega) rfl rfl ?_ ?_ ?_
    · obtain ⟨h1, h2, h3, h4, h5, h6, h7, h8, h9, h10, h11⟩ := h.1.1
      refine ⟨by rw [upv_nn (by omega)]; exact h1, h2, by rw [upv_nn (by omega)]; exact h3, h4, upv_same _ _ _, by omega, by omega, ?_, ?_, ?_, by rw [upv_nn (by omega)]; exact h11⟩
      · intro b hb; rw [upv_nn (by omega), upv_nn (by omega)]; exact h8 b hb
      · intro i hb; rw [upv_nn (by omega), upv_nn (by omega), upv_nn (by omega), upv_nn (by omega)]; exact ⟨inB_mono (h9 i hb).1 b, (h9 i hb).2⟩
      · intro w hw; unfold vW; rw [upv_nn (by omega), upv_nn (by omega), upv_nn (by omega)]; exact ⟨(h10 w hw).1, Kok_mono (h10 w hw).2 b⟩
    · rw [fX6_paves_eq]; unfold fX6_paves_b
      rw [hnc.2.2.2, e6_w7, w]
      simp only [Option.bind_some, bI_0, reduceCtorEq, not_false_eq_true, if_true, hnc.2.2.2]
    · intro m1 h1
      rw [fX7_paves_eq]; unfold fX7_paves_b
      rw [h1.nc h.1.1, w]
      simp only [Option.bind_some, bI_0, reduceCtorEq, not_false_eq_true, if_true, h1.nc h.1.1]
  · have w : ∀ m, fX7_within x (nI nc) 30 m = some (false, m) := fun m => by
      rw [within_from hnc.2.2.1, decide_eq_false hx]
    refine Eq2.bad h ?_ ?_
    · rw [fX6_paves_eq]; unfold fX6_paves_b
      rw [hnc.2.2.2, e6_w7, w]
      simp only [Option.bind_some, bind_eta, bI_0, not_true, if_false]
    · intro m1 h1
      rw [fX7_paves_eq]; unfold fX7_paves_b
      rw [h1.nc.1, w]
      simp only [Option.bind_some, bind_eta, bI_0, not_true, if_false]
theorem op_tell {v : Nat → Int32} {nb nw nc : Nat} {m : MM} (h : Rlt v nb nw nc m) (x y : Int32) : Eq2 (fX6_tell 0 x y) (fX7_tell 0 x y) m := by
  have w4 : ∀ m, fX6_within y 0 4 m = some (inB y 5, m) := fun m => e6_within' y 4 m (by omega)
  have w9 : ∀ m, fX6_within y 0 999 m = some (inB y 1000, m) := fun m => e6_within' y 999 m (by omega)
  have u1 : ∀ m, fX7_within x 0 1 m = some (inB x 2, m) := fun m => e7_within' x 1 m (by omega)
  have u4 : ∀ m, fX7_within y 0 4 m = some (inB y 5, m) := fun m => e7_within' y 4 m (by omega)
  have u9 : ∀ m, fX7_within y 0 999 m = some (inB y 1000, m) := fun m => e7_within' y 999 m (by omega)
  by_cases hx : inB x 2 = true
  · rcases inB_2 hx with e | e
    · subst e
      cases hy : inB y 5
      · refine Eq2.bad h ?_ ?_
        · rw [fX6_tell_eq]; unfold fX6_tell_b fX6_tell_j31
          rw [if_neg (fun h => h rfl), w4, hy]
          simp only [Option.bind_some, bI_0, if_true, bind_eta]
          rw [if_pos (by decide)]
        · intro m1 h1
          rw [fX7_tell_eq]; unfold fX7_tell_b fX7_tell_j22
          rw [u1, hx]
          simp only [Option.bind_some, bI_0, reduceCtorEq, if_false, bind_eta, not_true]
          rw [u4, hy]
          simp only [Option.bind_some, bI_0, not_true, if_false]
      · refine Eq2.one h (c6 := 5) (i6 := 0) (k6 := 1) (c7 := 51) (k7 := 0) (j := 94) (v 94) y (by unfold loc6; omega) (by unfold loc; omega) rfl rfl (WF_free h.1.1 y (by omega)) ?_ ?_
        · rw [fX6_tell_eq]; unfold fX6_tell_b
          rw [if_neg (fun h => h rfl), w4, hy]
          simp only [Option.bind_some, bI_0, reduceCtorEq, if_false]
          rw [h.1.2.2.1.2.1]
        · intro m1 h1
          rw [fX7_tell_eq]; unfold fX7_tell_b fX7_tell_j22
          rw [u1, hx]
          simp only [Option.bind_some, bI_0, reduceCtorEq, if_false, bind_eta, not_true]
          rw [u4, hy]
          simp only [Option.bind_some, bI_0, reduceCtorEq, not_false_eq_true, if_true, hx, cond_true]
          rw [show (0 : Int32).toNatClampNeg = 0 from rfl, ← h1.2.2.2.2.1]
    · subst e
      cases hy : inB y 1000
      · refine Eq2.bad h ?_ ?_
        · rw [fX6_tell_eq]; unfold fX6_tell_b fX6_tell_j31
          rw [if_pos (by decide), if_neg (fun h => h rfl), w9, hy]
          simp only [Option.bind_some, bI_0, if_true, bind_eta]
        · intro m1 h1
          rw [fX7_tell_eq]; unfold fX7_tell_b fX7_tell_j22
          rw [u1, hx]
          simp only [Option.bind_some, bI_0, reduceCtorEq, if_false, bind_eta]
          rw [if_pos (by decide), u9, hy]
          simp only [Option.bind_some, bI_0, not_true, if_false]
      · refine Eq2.one h (nc' := nc) (c6 := 5) (i6 := 0) (k6 := 2) (c7 := 51) (k7 := 1) (j := 95) (v 95) y (by unfold loc6; omega) (by unfold loc; omega) rfl rfl ?_ ?_ ?_
        · obtain ⟨h1, h2, h3, h4, h5, h6, h7, h8, h9, h10, h11⟩ := h.1.1
          refine ⟨by rw [upv_nn (by omega)]; exact h1, h2, by rw [upv_nn (by omega)]; exact h3, h4, by rw [upv_nn (by omega)]; exact h5, h6, h7, ?_, ?_, ?_, by rw [upv_same]; exact hy⟩
          · intro b hb; rw [upv_nn (by omega), upv_nn (by omega)]; exact h8 b hb
          · intro b hb; rw [upv_nn (by omega), upv_nn (by omega), upv_nn (by omega), upv_nn (by omega)]; exact h9 b hb
          · intro w hw; unfold vW; rw [upv_nn (by omega), upv_nn (by omega), upv_nn (by omega)]; exact h10 w hw
        · rw [fX6_tell_eq]; unfold fX6_tell_b fX6_tell_j31
          rw [if_pos (by decide), if_neg (fun h => h rfl), w9, hy]
          simp only [Option.bind_some, bI_0, reduceCtorEq, if_false]
          rw [h.1.2.2.1.2.2.1]
        · intro m1 h1
          rw [fX7_tell_eq]; unfold fX7_tell_b fX7_tell_j22
          rw [u1, hx]
          simp only [Option.bind_some, bI_0, reduceCtorEq, if_false, bind_eta]
          rw [if_pos (by decide), u9, hy]
          simp only [Option.bind_some, bI_0, reduceCtorEq, not_false_eq_true, if_true, hx, cond_true]
          rw [show (1 : Int32).toNatClampNeg = 1 from rfl, ← h1.2.2.2.2.2.1]
  · have h0 : ¬ x = 0 := by intro e; rw [e] at hx; exact hx (by decide)
    have h1' : ¬ x = 1 := by intro e; rw [e] at hx; exact hx (by decide)
    refine Eq2.bad h ?_ ?_
    · rw [fX6_tell_eq]; unfold fX6_tell_b fX6_tell_j31
      rw [if_pos h0, if_pos h1']
      simp only [bind_eta]
    · intro m1 h1
      rw [fX7_tell_eq]; unfold fX7_tell_b
      rw [u1, Bool.eq_false_iff.2 hx]
      simp only [Option.bind_some, bI_0, if_true, bind_eta]
theorem inB_3 {x : Int32} (h : inB x 3 = true) : x = 0 ∨ x = 1 ∨ x = 2 := by
  rcases inB_4 (inB_mono h (by omega)) with e | e | e | e
  · exact Or.inl e
  · exact Or.inr (Or.inl e)
  · exact Or.inr (Or.inr e)
  · rw [e] at h; exact absurd h (by decide)
/-- a walker's number of a row is another: what must hold of it -/
theorem WF_walker {v : Nat → Int32} {nb nw nc k t : Nat} (h : WF v nb nw nc) (hk : k < nw) (ht : t < 3) (x : Int32) (hx : (t = 0 ∧ inB x nc = true) ∨ (t = 1 ∧ inB x 4 = true) ∨ (t = 2 ∧ inB x 2 = true)) : WF (upv v (75 + 6 * t + k) x) nb nw nc := by
  obtain ⟨h1, h2, h3, h4, h5, h6, h7, h8, h9, h10, h11⟩ := h
  refine ⟨by rw [upv_nn (by omega)]; exact h1, h2, by rw [upv_nn (by omega)]; exact h3, h4, by rw [upv_nn (by omega)]; exact h5, h6, h7, ?_, ?_, ?_, by rw [upv_nn (by omega)]; exact h11⟩
  · intro b hb; rw [upv_nn (by omega), upv_nn (by omega)]; exact h8 b hb
  · intro b hb; rw [upv_nn (by omega), upv_nn (by omega), upv_nn (by omega), upv_nn (by omega)]; exact h9 b hb
  · intro w hw
    obtain ⟨a, b⟩ := h10 w hw
    have g : ∀ t', t' < 3 → upv v (75 + 6 * t + k) x (75 + 6 * t' + w) = if t' = t ∧ w = k then x else v (75 + 6 * t' + w) := by
      intro t' ht'
      by_cases q : t' = t ∧ w = k
      · rw [if_pos q, q.1, q.2, upv_same]
      · rw [if_neg q, upv_nn (by omega)]
    have g0 := g 0 (by omega)
    have g1 := g 1 (by omega)
    have g2 := g 2 (by omega)
    simp only [Nat.mul_zero, Nat.add_zero, Nat.mul_one, Nat.reduceMul, Nat.reduceAdd] at g0 g1 g2
    unfold vW
    rw [g0, g1, g2]
    unfold Kok vW at b
    unfold Kok
    dsimp only at b ⊢
    rcases hx with ⟨e, hx⟩ | ⟨e, hx⟩ | ⟨e, hx⟩
    · subst e
      rw [if_neg (show ¬ (1 = 0 ∧ w = k) by omega), if_neg (show ¬ (2 = 0 ∧ w = k) by omega)]
      refine ⟨a, ?_, b.2⟩
      split
      · exact hx
      · exact b.1
    · subst e
      rw [if_neg (show ¬ (0 = 1 ∧ w = k) by omega), if_neg (show ¬ (2 = 1 ∧ w = k) by omega)]
      refine ⟨?_, b⟩
      split
      · exact hx
      · exact a
    · subst e
      rw [if_neg (show ¬ (0 = 2 ∧ w = k) by omega), if_neg (show ¬ (1 = 2 ∧ w = k) by omega)]
      refine ⟨a, b.1, ?_⟩
      split
      · exact inB_2 hx
      · exact b.2
theorem op_sends {v : Nat → Int32} {nb nw nc : Nat} {m : MM} (h : Rlt v nb nw nc m) (x y z : Int32) : Eq2 (fX6_sends 0 x y z) (fX7_sends 0 x y z) m := by
  have w3 : ∀ m, fX6_within y 0 2 m = some (inB y 3, m) := fun m => e6_within' y 2 m (by omega)
  have u3 : ∀ m, fX7_within y 0 2 m = some (inB y 3, m) := fun m => e7_within' y 2 m (by omega)
  have hnw := h.1.nw.2.1
  have hnc := h.1.nc.2.2.1
  cases hx : inB x nw
  · refine Eq2.bad h ?_ ?_
    · rw [fX6_sends_eq]; unfold fX6_sends_b
      simp only [e5_walkerAt h.1, hx, Option.bind_some, bind_eta, reduceCtorEq, if_false]
    · intro m1 h1
      rw [fX7_sends_eq]; unfold fX7_sends_b
      simp only [e7_isWalker h1, hx, Option.bind_some, bind_eta, bI_0, if_true]
  · cases hy : inB y 3
    · refine Eq2.bad h ?_ ?_
      · rw [fX6_sends_eq]; unfold fX6_sends_b
        simp only [e5_walkerAt h.1, hx, w3, hy, Option.bind_some, bind_eta, bI_0, if_true, not_true, if_false]
      · intro m1 h1
        rw [fX7_sends_eq]; unfold fX7_sends_b
        simp only [e7_isWalker h1, hx, u3, hy, Option.bind_some, bind_eta, bI_0, reduceCtorEq, if_false, not_true]
    · obtain ⟨hk, e⟩ := inB_ex hx
      generalize x.toNatClampNeg = k at hk e
      subst e
      have ck : (nI k).toNatClampNeg = k := n_cl (by omega)
      have W := h.1.wf hk
      -- the three cases alike: t, the bound
      have fin : ∀ (t N : Nat), t < 3 → y = nI t → (∀ m, fX6_sends_j58 0 y z (1 + k) (nI N - 1) m = fX6_sends_j58 0 y z (1 + k) (nI N - 1) m) → (t = 0 ∧ N = nc) ∨ (t = 1 ∧ N = 4) ∨ (t = 2 ∧ N = 2) →
          fX6_sends 0 (nI k) y z m = fX6_sends_j58 0 y z (1 + k) (nI N - 1) m → (∀ m1, Lv v m1 → fX7_isWalker 0 (nI k) m1 = some (true, m1) → fX7_sends 0 (nI k) y z m1 = if inB z N = true then fX7_sends_j66 0 (nI k) y z m1 else fX7_no 0 (-1002) m1) → Eq2 (fX6_sends 0 (nI k) y z) (fX7_sends 0 (nI k) y z) m := by
        intro t N ht ey _ hN e6 e7
        have tell : fX4_tellOf (1 + k) y m = some (v (75 + 6 * t + k), m) := by
          rw [fX4_tellOf_eq]; unfold fX4_tellOf_b
          rw [W.1, W.2.1, W.2.2, ey]
          have : t = 0 ∨ t = 1 ∨ t = 2 := by omega
          rcases this with q | q | q <;> subst q <;> rfl
        have j58 : fX6_sends_j58 0 y z (1 + k) (nI N - 1) m = if inB z N = true then some (v (75 + 6 * t + k), (upI m.1 4 (1 + k) t z, m.2)) else fX6_refuse 0 (-1002) m := by
          unfold fX6_sends_j58
          rw [e6_within z N m (by omega)]
          simp only [Option.bind_some, bI_0, bind_eta]
          cases hz : inB z N
          · rw [if_neg (fun h => h rfl), if_neg (by decide)]
          · rw [if_pos (by decide), if_pos rfl, tell]
            simp only [Option.bind_some]
            rw [ey]
            have : t = 0 ∨ t = 1 ∨ t = 2 := by omega
            rcases this with q | q | q <;> subst q <;> rfl
        cases hz : inB z N
        · refine Eq2.bad h ?_ ?_
          · rw [e6, j58, hz, if_neg (by decide)]
          · intro m1 h1
            rw [e7 m1 h1.2.1 (by rw [e7_isWalker h1, hx]), hz, if_neg (by decide)]
        · refine Eq2.one h (nb' := nb) (nw' := nw) (nc' := nc) (c6 := 4) (i6 := 1 + k) (k6 := t) (c7 := 57) (k7 := 6 * t + k) (j := 75 + 6 * t + k) (v (75 + 6 * t + k)) z (Or.inr (Or.inr (Or.inr ⟨rfl, k, by omega, by omega, by omega, rfl⟩))) (by unfold loc; omega) rfl rfl (WF_walker h.1.1 hk ht z ?_) ?_ ?_
          · rcases hN with ⟨a, b⟩ | ⟨a, b⟩ | ⟨a, b⟩
            · exact Or.inl ⟨a, b ▸ hz⟩
            · exact Or.inr (Or.inl ⟨a, b ▸ hz⟩)
            · exact Or.inr (Or.inr ⟨a, b ▸ hz⟩)
          · rw [e6, j58, hz, if_pos rfl]
          · intro m1 h1
            have iw : fX7_isWalker 0 (nI k) m1 = some (true, m1) := by
              rw [fX7_isWalker_eq]; unfold fX7_isWalker_b
              rw [h1.nw h.1.1, e7_within (nI k) nw m1 (by omega), hx]; rfl
            rw [e7 m1 h1 iw, hz, if_pos rfl]
            unfold fX7_sends_j66
            have e : (6 : Int32) * y + nI k = nI (6 * t + k) := by
              rw [ey, show (6 : Int32) = nI 6 from rfl, ← n_mul, ← n_add]
            rw [e, inB_t (show 6 * t + k < 18 by omega) (by omega), n_cl (by omega), ← h1.2.2.1 (6 * t + k) (by omega), show 75 + (6 * t + k) = 75 + 6 * t + k by omega]
            rfl
      have s6 : fX6_sends 0 (nI k) y z m = if ¬ y = 0 then (if ¬ y = 1 then fX6_sends_j58 0 y z (1 + k) 1 m else fX6_sends_j58 0 y z (1 + k) 3 m) else fX6_sends_j58 0 y z (1 + k) (nI nc - 1) m := by
        rw [fX6_sends_eq]; unfold fX6_sends_b
        simp only [e5_walkerAt h.1, hx, w3, hy, Option.bind_some, bind_eta, bI_0, reduceCtorEq, if_true, not_false_eq_true, ck, h.1.nc.2.2.2]
      have s7 : ∀ m1, Lv v m1 → fX7_isWalker 0 (nI k) m1 = some (true, m1) → fX7_sends 0 (nI k) y z m1 = if ¬ y = 0 then (if ¬ y = 1 then fX7_sends_j52 0 (nI k) y z z 0 1 m1 else fX7_sends_j52 0 (nI k) y z z 0 3 m1) else (if inB z nc = true then fX7_sends_j66 0 (nI k) y z m1 else fX7_no 0 (-1002) m1) := by
        intro m1 h1 iw
        rw [fX7_sends_eq]; unfold fX7_sends_b
        simp only [iw, u3, hy, Option.bind_some, bind_eta, bI_0, reduceCtorEq, if_false, not_false_eq_true, if_true]
        rw [e7_isCell z m1 (h1.nc h.1.1) (by omega)]
        simp only [Option.bind_some, bI_0, bind_eta]
        cases inB z nc
        · rw [if_neg (show ¬ ¬ (false = false) from fun h => h rfl), if_neg (show ¬ (false = true) by decide)]
        · rw [if_pos (show ¬ (true = false) by decide), if_pos (show true = true from rfl)]
      have j52 : ∀ (N : Nat) m1, N < 1000 → fX7_sends_j52 0 (nI k) y z z 0 (nI N) m1 = if inB z (N + 1) = true then fX7_sends_j66 0 (nI k) y z m1 else fX7_no 0 (-1002) m1 := by
        intro N m1 hN
        unfold fX7_sends_j52
        rw [e7_within' z N m1 (by omega)]
        simp only [Option.bind_some, bI_0, bind_eta]
        cases inB z (N + 1)
        · rw [if_neg (fun h => h rfl), if_neg (by decide)]
        · rw [if_pos (by decide), if_pos rfl]
      rcases inB_3 hy with e | e | e
      · refine fin 0 nc (by omega) e (fun _ => rfl) (Or.inl ⟨rfl, rfl⟩) ?_ ?_
        · rw [s6, if_neg (fun h => h e)]
        · intro m1 h1 iw
          rw [s7 m1 h1 iw, if_neg (fun h => h e)]
      · refine fin 1 4 (by omega) e (fun _ => rfl) (Or.inr (Or.inl ⟨rfl, rfl⟩)) ?_ ?_
        · rw [s6, if_pos (by rw [e]; decide), if_neg (fun h => h e)]; rfl
        · intro m1 h1 iw
          rw [s7 m1 h1 iw, if_pos (by rw [e]; decide), if_neg (fun h => h e)]
          exact j52 3 m1 (by omega)
      · refine fin 2 2 (by omega) e (fun _ => rfl) (Or.inr (Or.inr ⟨rfl, rfl⟩)) ?_ ?_
        · rw [s6, if_pos (by rw [e]; decide), if_pos (by rw [e]; decide)]; rfl
        · intro m1 h1 iw
          rw [s7 m1 h1 iw, if_pos (by rw [e]; decide), if_pos (by rw [e]; decide)]
          exact j52 1 m1 (by omega)
