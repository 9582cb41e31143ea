/-! PURE: asking, third group -/
theorem Lv.nb {v : Nat → Int32} {nb nw nc : Nat} {m : MM} (hL : Lv v m) (h : WF v nb nw nc) : m.1 7 0 4 = nI nb := hL.2.2.2.2.2.2.2.1.symm.trans h.1
theorem Lv.nw {v : Nat → Int32} {nb nw nc : Nat} {m : MM} (hL : Lv v m) (h : WF v nb nw nc) : m.1 7 0 10 = nI nw := hL.2.2.2.2.2.2.2.2.1.symm.trans h.2.2.1
theorem Lv.nc {v : Nat → Int32} {nb nw nc : Nat} {m : MM} (hL : Lv v m) (h : WF v nb nw nc) : m.1 7 0 0 = nI nc := hL.2.2.2.1.symm.trans h.2.2.2.2.1
theorem Lv_to {v : Nat → Int32} {m m' : MM} (h : Lv v m) (f : FrP (Dto 2) m m') : Lv v m' := Lv_fr h f (by unfold Dlv Dto; omega)
theorem bst_lab {lab t : Nat → Int32} (n : Nat) : bst lab t n = (-1, -1) ∨ ∃ j, j < n ∧ bst lab t n = (lab j, t j) ∧ ¬ t j = -1 := by
  induction n with
  | zero => exact Or.inl rfl
  | succ n ih =>
    have e : bst lab t (n + 1) = if t n = -1 then bst lab t n else if (bst lab t n).2 = -1 then (lab n, t n) else if (bst lab t n).2 ≤ t n then bst lab t n else (lab n, t n) := rfl
    rw [e]
    have ih' : bst lab t n = (-1, -1) ∨ ∃ j, j < n + 1 ∧ bst lab t n = (lab j, t j) ∧ ¬ t j = -1 := ih.imp id (fun ⟨j, a, b⟩ => ⟨j, by omega, b⟩)
    by_cases e1 : t n = -1
    · rw [if_pos e1]; exact ih'
    · rw [if_neg e1]
      by_cases e2 : (bst lab t n).2 = -1
      · rw [if_pos e2]; exact Or.inr ⟨n, by omega, rfl, e1⟩
      · rw [if_neg e2]
        by_cases e3 : (bst lab t n).2 ≤ t n
        · rw [if_pos e3]; exact ih'
        · rw [if_neg e3]; exact Or.inr ⟨n, by omega, rfl, e1⟩
theorem le_lt (x y : Int32) : (x ≤ y) = ¬ (y < x) := by
  rw [Int32.le_iff_toInt_le, Int32.lt_iff_toInt_lt]; apply propext; omega
theorem met_in (v : Nat → Int32) (b k : Nat) : met v b k 60 = -1 ∨ inB (met v b k 60) 61 = true := fst1_in _ 60 1 61 (by omega) (by omega)
theorem op_finder {v : Nat → Int32} {nb nw nc : Nat} {m : MM} (h : Rlt v nb nw nc m) (x : Int32) : Eq2 (fX6_finder 0 x) (fX7_finder 0 x) m := by
  cases hg : (inB x nb)
  · refine Eq2.bad h ?_ ?_
    · rw [fX6_finder_eq]; unfold fX6_finder_b
      cases g_x : inB x nb <;> first | (simp only [e5_bottleAt h.1, g_x, Option.bind_some, bind_eta, bI_0, bI_1, reduceCtorEq, not_true, not_false_eq_true, if_true, if_false]; done) | (rw [g_x] at hg; cases hg)
    · intro m1 h1
      rw [fX7_finder_eq]; unfold fX7_finder_b
      cases g_x : inB x nb <;> first | (simp only [e7_isBottle h1, g_x, Option.bind_some, bind_eta, bI_0, bI_1, reduceCtorEq, not_true, not_false_eq_true, if_true, if_false, Bool.and_true, Bool.and_false, Bool.true_and, Bool.false_and]; done) | (rw [g_x] at hg; cases hg)
  · have g_x := hg
    obtain ⟨hl_b, he_b⟩ := inB_ex g_x
    have hu_b := n_clb x
    have hc_b : ∀ k, k = x.toNatClampNeg → (nI k).toNatClampNeg = k := fun k hk => n_cl (by omega)
    replace hc_b := hc_b _ rfl
    generalize x.toNatClampNeg = b at hl_b he_b hc_b hu_b
    subst he_b
    have hnw := h.1.nw.2.1
    refine Eq2.ask h (bst nI (fun k => met v b k 60) nw).1 ?_ ?_
    · rw [fX6_finder_eq]; unfold fX6_finder_b
      simp only [e5_bottleAt h.1, g_x, hc_b, Option.bind_some, bind_eta, bI_0, bI_1, reduceCtorEq, not_true, not_false_eq_true, if_true, if_false]
      refine (q_follow0 h.1 (N := 60) hl_b (by omega) 0).bind ?_
      intro _ m1 ⟨t1, t2⟩
      dsimp only
      refine Ok.mono (Ok.fold (f := fX6_finder_b45 0) nw (fun i => ((bst7 nI (fun k => met v b k 60) i).1, (bst7 nI (fun k => met v b k 60) i).2, nI i)) (bst7 nI (fun k => met v b k 60) nw).1 (fun _ m' => Fr (fun c i => c = 4 ∧ i = 21) m1 m') ?_ ?_ (by omega) m1 Fr.rfl) (fun r m' ⟨a, f⟩ => ⟨a, (Dfo_toC t2).trans (f.toC (fun c i h k => by unfold ScrC; omega) (by omega))⟩)
      · intro i m' hi f
        have h' : Rlt v nb nw nc m' := Rel_frC h ((Dfo_toC t2).trans (f.toC (fun c i h k => by unfold ScrC; omega) (by omega)))
        unfold fX6_finder_b45
        dsimp only
        rw [h'.1.nw.2.2, if_neg (by rw [n_le (by omega) (by omega)]; omega), e5_walkerAt h'.1, inB_t hi (by omega), n_cl (by omega)]
        simp only [if_true, Option.bind_some]
        refine (meet6 (N := 60) (simN v b) (fun d hd => ?_) h'.1.2.2.1.1 (h'.1.wf hi) (h.1.1.p100 hi) (by omega)).bind ?_
        · rw [(f 41 0 (by omega) d).1, (f 42 0 (by omega) d).1]; exact t1 d hd
        intro r m2 ⟨r1, r2⟩
        dsimp only
        have e : r = met v b i 60 := r1
        rw [e, bst7_step i (fun k _ => met_in v b k)]
        by_cases q : met v b i 60 = -1
        · rw [if_pos q, if_pos q]
          exact Ok.ret ⟨by rw [n_s], f.trans r2⟩
        · rw [if_neg q, if_neg q]
          by_cases q2 : met v b i 60 < (bst7 nI (fun k => met v b k 60) i).2
          · rw [if_neg (by rw [le_lt]; exact fun h => h q2), if_pos q2]
            exact Ok.ret ⟨by rw [n_s], f.trans r2⟩
          · rw [if_pos (by rw [le_lt]; exact q2), if_neg q2]
            exact Ok.ret ⟨by rw [n_s], f.trans r2⟩
      · intro m' f
        have h' : Rlt v nb nw nc m' := Rel_frC h ((Dfo_toC t2).trans (f.toC (fun c i h k => by unfold ScrC; omega) (by omega)))
        unfold fX6_finder_b45
        dsimp only
        rw [h'.1.nw.2.2, if_pos (by rw [n_le (by omega) (by omega)]; omega)]
    · intro m1 h1
      rw [fX7_finder_eq]; unfold fX7_finder_b
      simp only [e7_isBottle h1.1, g_x, hc_b, Option.bind_some, bind_eta, bI_0, bI_1, reduceCtorEq, not_true, not_false_eq_true, if_true, if_false, Bool.and_true]
      refine Ok.mono (Ok.fold (f := fX7_finder_b20 0 (nI b)) nw (fun i => ((bst nI (fun k => met v b k 60) i).1, nI i)) (bst nI (fun k => met v b k 60) nw).1 (fun _ m' => FrP (Dto 2) m1 m') ?_ ?_ (by omega) m1 FrP.rfl) (fun r m' ⟨a, f⟩ => ⟨a, Dto_S f⟩)
      · intro i m' hi f
        have hL := Lv_to h1.1.2.1 f
        unfold fX7_finder_b20
        dsimp only
        rw [hL.nw h1.1.1, if_neg (by rw [n_le (by omega) (by omega)]; omega)]
        refine (meet7 hL h1.1.1 hl_b hi).bind ?_
        intro r m2 ⟨r1, r2⟩
        dsimp only
        have e : bst nI (fun k => met v b k 60) (i + 1) = if met v b i 60 = -1 then bst nI (fun k => met v b k 60) i else if (bst nI (fun k => met v b k 60) i).2 = -1 then (nI i, met v b i 60) else if (bst nI (fun k => met v b k 60) i).2 ≤ met v b i 60 then bst nI (fun k => met v b k 60) i else (nI i, met v b i 60) := rfl
        rw [e, r1]
        by_cases q : met v b i 60 = -1
        · rw [if_pos q, if_pos q]
          exact Ok.ret ⟨by rw [n_s], f.trans r2⟩
        · rw [if_neg q, if_neg q]
          rcases bst_lab (lab := nI) (t := fun k => met v b k 60) i with q2 | ⟨j, q2, q3, q4⟩
          · rw [q2, if_pos rfl, if_pos rfl]
            exact Ok.ret ⟨by rw [n_s], f.trans r2⟩
          · rw [q3]
            dsimp only
            rw [if_neg (fun h => (n_m1 j (by omega)).1 h), if_neg q4]
            refine (meet7 (Lv_to hL r2) h1.1.1 hl_b (show j < nw by omega)).bind ?_
            intro r' m4 ⟨r3, r4⟩
            dsimp only
            rw [r3]
            by_cases q5 : met v b j 60 ≤ met v b i 60
            · rw [if_pos q5, if_pos q5]
              exact Ok.ret ⟨by rw [n_s], (f.trans r2).trans r4⟩
            · rw [if_neg q5, if_neg q5]
              exact Ok.ret ⟨by rw [n_s], (f.trans r2).trans r4⟩
      · intro m' f
        have hL := Lv_to h1.1.2.1 f
        unfold fX7_finder_b20
        dsimp only
        rw [hL.nw h1.1.1, if_pos (by rw [n_le (by omega) (by omega)]; omega)]
theorem inB_0 (x : Int32) : inB x 0 = false := by
  rw [Bool.eq_false_iff]; intro h; have := (inB_iff x 0).1 h; omega
theorem WF.m0 {v : Nat → Int32} {nb nw nc : Nat} (h : WF v nb nw nc) : WFm v 0 nw nc := h.m (by omega)
theorem op_two {v : Nat → Int32} {nb nw nc : Nat} {m : MM} (h : Rlt v nb nw nc m) (x y : Int32) : Eq2 (fX6_two 0 x y) (fX7_two 0 x y) m := by
  have bad : (inB x nw = true ∧ inB y nw = true ∧ ¬ x = y) ∨ Eq2 (fX6_two 0 x y) (fX7_two 0 x y) m := by
    by_cases hx : inB x nw = true ∧ inB y nw = true ∧ ¬ x = y
    · exact Or.inl hx
    · right
      refine Eq2.bad h ?_ ?_
      · rw [fX6_two_eq]; unfold fX6_two_b
        cases g1 : inB x nw <;> cases g2 : inB y nw <;> by_cases g3 : x = y <;> first | (exfalso; exact hx ⟨g1, g2, g3⟩) | simp only [e5_walkerAt h.1, g1, g2, g3, Option.bind_some, bind_eta, bI_0, reduceCtorEq, not_true, not_false_eq_true, if_true, if_false] | (subst g3; simp only [e5_walkerAt h.1, g1, Option.bind_some, bind_eta, bI_0, reduceCtorEq, not_true, not_false_eq_true, if_true, if_false])
      · intro m1 h1
        rw [fX7_two_eq]; unfold fX7_two_b
        cases g1 : inB x nw <;> cases g2 : inB y nw <;> by_cases g3 : x = y <;> first | (exfalso; exact hx ⟨g1, g2, g3⟩) | simp only [e7_isWalker h1, g1, g2, g3, Option.bind_some, bind_eta, bI_0, reduceCtorEq, not_true, not_false_eq_true, if_true, if_false] | (subst g3; simp only [e7_isWalker h1, g1, Option.bind_some, bind_eta, bI_0, reduceCtorEq, not_true, not_false_eq_true, if_true, if_false])
  rcases bad with ⟨g1, g2, g3⟩ | bad
  · have hnw := h.1.nw.2.1
    obtain ⟨hk, e1⟩ := inB_ex g1
    obtain ⟨hj, e2⟩ := inB_ex g2
    generalize x.toNatClampNeg = k at hk e1
    generalize y.toNatClampNeg = j at hj e2
    subst e1 e2
    have c1 : (nI k).toNatClampNeg = k := n_cl (by omega)
    have c2 : (nI j).toNatClampNeg = j := n_cl (by omega)
    refine Eq2.ask h (fst1 (fun d => decide ((wlk v k d).1 = (wlk v j d).1)) 61 0) ?_ ?_
    · rw [fX6_two_eq]; unfold fX6_two_b
      simp only [e5_walkerAt h.1, g1, g2, g3, Option.bind_some, not_false_eq_true, if_true, c1, c2]
      refine (W_take (y := 21) (h.1.wf hk)).bind ?_
      intro _ m1 ⟨w1, f1⟩
      have w1' : WFd m1.1 (1 + j) v j := by
        obtain ⟨a1, a2, a3⟩ := h.1.wf hj
        refine ⟨?_, ?_, ?_⟩ <;> rw [(f1 4 (1 + j) (by omega) _).1] <;> assumption
      refine (W_take (y := 22) w1').bind ?_
      intro _ m2 ⟨w2, f2⟩
      have w3 : WFd m2.1 21 v k := by
        obtain ⟨a1, a2, a3⟩ := w1
        refine ⟨?_, ?_, ?_⟩ <;> rw [(f2 4 21 (by omega) _).1] <;> assumption
      have F : Fr (fun c i => c = 4 ∧ (i = 21 ∨ i = 22)) m m2 := (f1.mono (by omega)).trans (f2.mono (by omega))
      refine Ok.srch (f := fX6_two_b61 0) 0 61 (fun d => decide ((wlk v k d).1 = (wlk v j d).1)) (fun d m' => rW m' 21 = wlk v k d ∧ m'.1 4 21 1 = v (81 + k) ∧ rW m' 22 = wlk v j d ∧ m'.1 4 22 1 = v (81 + j) ∧ Fr (fun c i => c = 4 ∧ (i = 21 ∨ i = 22)) m m') (fun m' => FrP ScrC m m') ?_ ?_ (by omega) (by omega) (fun _ => rfl) (fun _ _ => rfl) m2 ⟨?_, w3.2.1, ?_, w2.2.1, F⟩
      · intro d m' _ hd ⟨a1, a2, a3, a4, a5⟩
        unfold fX6_two_b61
        rw [if_neg (by rw [nI60, n_lt (by omega) (by omega)]; omega)]
        have b1 : m'.1 4 21 0 = (wlk v k d).1 := congrArg Prod.fst a1
        have b2 : m'.1 4 22 0 = (wlk v j d).1 := congrArg Prod.fst a3
        rw [b1, b2]
        by_cases q : (wlk v k d).1 = (wlk v j d).1
        · rw [if_neg (fun h => h q)]
          exact Ok.ret (Or.inl ⟨decide_eq_true q, rfl, a5.toC (fun c i h k => by unfold ScrC; omega) (by omega)⟩)
        · rw [if_pos q, e_stroll 21 _ m' (by rw [a2]; exact h.1.1.p100 hk), a1, a2, (a5 5 0 (by omega) 0).1, h.1.2.2.1.1]
          simp only [Option.bind_some]
          have es : strl (v 93) (v (81 + k)) (wlk v k d) = wlk v k (d + 1) := rfl
          have es' : strl (v 93) (v (81 + j)) (wlk v j d) = wlk v j (d + 1) := rfl
          rw [es]
          have f4 : Fr (fun c i => c = 4 ∧ (i = 21 ∨ i = 22)) m (upW m' 21 (wlk v k (d + 1))) := Fr.up (Fr.up a5 (by omega) _ _) (by omega) _ _
          have r2 : (upW m' 21 (wlk v k (d + 1))).1 4 21 1 = v (81 + k) := by unfold upW; simp only [upI_same, upI_k, upI_c, ne_eq, not_false_eq_true, reduceCtorEq, Nat.reduceEqDiff, Nat.zero_ne_one, Nat.one_ne_zero, and_self, a2]
          have r3 := rW_up m' 21 (wlk v k (d + 1))
          have r4 : rW (upW m' 21 (wlk v k (d + 1))) 22 = wlk v j d := by
            rw [← a3]; unfold rW upW; dsimp only
            rw [upI_nn (by omega), upI_nn (by omega), upI_nn (by omega), upI_nn (by omega)]
          have r5 : (upW m' 21 (wlk v k (d + 1))).1 4 22 1 = v (81 + j) := by
            rw [← a4]; unfold upW; dsimp only
            rw [upI_nn (by omega), upI_nn (by omega)]
          generalize upW m' 21 (wlk v k (d + 1)) = m3 at *
          rw [e_stroll 22 _ m3 (by rw [r5]; exact h.1.1.p100 hj), r4, r5, (f4 5 0 (by omega) 0).1, h.1.2.2.1.1, es']
          refine Ok.ret (Or.inr ⟨decide_eq_false q, by rw [n_s], ?_, ?_, rW_up _ _ _, ?_, Fr.up (Fr.up f4 (by omega) _ _) (by omega) _ _⟩)
          · rw [← r3]; unfold rW upW; dsimp only
            rw [upI_nn (by omega), upI_nn (by omega), upI_nn (by omega), upI_nn (by omega)]
          · rw [← r2]; unfold upW; dsimp only
            rw [upI_nn (by omega), upI_nn (by omega)]
          · unfold upW; simp only [upI_same, upI_k, upI_c, ne_eq, not_false_eq_true, reduceCtorEq, Nat.reduceEqDiff, Nat.zero_ne_one, Nat.one_ne_zero, and_self, r5]
      · intro m' ⟨a1, a2, a3, a4, a5⟩
        refine ⟨?_, a5.toC (fun c i h k => by unfold ScrC; omega) (by omega)⟩
        unfold fX6_two_b61
        rw [if_pos (by rw [nI60, n_lt (by omega) (by omega)]; omega)]
      · show rW m2 21 = vW v k
        unfold rW vW; rw [w3.1, w3.2.2]
      · show rW m2 22 = vW v j
        unfold rW vW; rw [w2.1, w2.2.2]
    · intro m1 h1
      rw [fX7_two_eq]; unfold fX7_two_b
      simp only [e7_isWalker h1.1, g1, g2, g3, Option.bind_some, bI_0, reduceCtorEq, not_false_eq_true, if_true, if_false]
      refine (keep_ok 2 m1).bind ?_
      intro _ m2 ⟨k1, k2⟩
      have hL := Lv_to h1.1.2.1 k2
      have hw := h1.1.1.m0
      refine (Ok.find (f := fX7_two_b42 0 (nI k) (nI j)) 0 61 (fun d => decide ((wlk v k d).1 = (wlk v j d).1)) (fun i m' => SimM 0 nw nc m2 (i - 1) m') (by omega) ?_ ?_ (by omega) m2 (SimM.begin (hL.mv (by omega) hw))).bind ?_
      · intro i m' _ hi hS
        unfold fX7_two_b42
        dsimp only
        rw [if_neg (by rw [nI60, n_lt (by omega) (by omega)]; omega), if_neg (by decide)]
        have fin : ∀ m', SimM 0 nw nc m2 i m' → Ok (bif inB (nI k) 18 then (bif inB (nI j) 18 then (if ¬ m'.1 57 0 (nI k).toNatClampNeg = m'.1 57 0 (nI j).toNatClampNeg then some (Sum.inl ((-1 : Int32), nI i + 1), m') else some (Sum.inl (nI i, nI i + 1), m')) else none) else none) (fun (o : (Int32 × Int32) ⊕ Int32) m' => o = Sum.inl (if decide ((wlk v k i).1 = (wlk v j i).1) = true then nI i else -1, nI (i + 1)) ∧ SimM 0 nw nc m2 (i + 1 - 1) m') := by
          intro m' hS
          rw [inB_t (show k < 18 by omega) (by omega), inB_t (show j < 18 by omega) (by omega), c1, c2, (hS.W hL hw hk).1, (hS.W hL hw hj).1]
          simp only [cond_true]
          by_cases e : (wlk v k i).1 = (wlk v j i).1
          · rw [if_neg (fun h => h e), if_pos (decide_eq_true e)]
            exact Ok.ret ⟨by rw [n_s], hS⟩
          · rw [if_pos e, if_neg (fun h => e (of_decide_eq_true h))]
            exact Ok.ret ⟨by rw [n_s], hS⟩
        by_cases h0 : i = 0
        · subst h0
          rw [if_pos (by decide)]
          exact fin m' hS
        · rw [if_neg (by rw [show (0 : Int32) = nI 0 from rfl, n_le (by omega) (by omega)]; omega)]
          obtain ⟨d, rfl⟩ : ∃ d, i = d + 1 := ⟨i - 1, by omega⟩
          refine (SimM.step (many := 0) (by omega) (by omega) hS).bind ?_
          intro _ m3 ⟨q1, _⟩
          exact fin m3 q1
      · intro s m' h
        unfold fX7_two_b42
        rcases h with h | h
        · by_cases e : 60 < s.2
          · rw [if_pos e]
          · rw [if_neg e, if_pos h]
        · rw [h, if_pos (by rw [nI60, n_lt (by omega) (by omega)]; omega)]
      · intro r m3 ⟨r1, i, r2⟩
        exact kept_back h1.1.2.1 k1 k2 (r2.fr (by omega) hnw) (fun m4 h4 => ⟨r1, Dto_S h4⟩)
  · exact bad
