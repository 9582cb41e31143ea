/-! PURE: asking, second group -/
theorem walks_loop {v : Nat → Int32} {k n : Nat} (m : MM) (h0 : m.1 5 0 0 = v 93) (hW : WFd m.1 21 v k) (hp : inB (v (81 + k)) 100 = true) (hn : n < 100) : Ok (loopF 1000 (fX6_walks_b42 0 (nI n)) 1 m) (fun _ m' => m'.1 4 21 0 = (wlk v k n).1 ∧ Fr (fun c i => c = 4 ∧ i = 21) m m') := by
  refine Ok.count 1 (n + 1) (fun i s m' => s = nI i ∧ rW m' 21 = wlk v k (i - 1) ∧ m'.1 4 21 1 = v (81 + k) ∧ Fr (fun c i => c = 4 ∧ i = 21) m m') ?_ ?_ (by omega) 1000 (by omega) 1 m ⟨rfl, ?_, hW.2.1, Fr.rfl⟩
  · intro i s m' h1 h2 ⟨e1, e2, e3, e4⟩
    obtain ⟨j, rfl⟩ : ∃ j, i = j + 1 := ⟨i - 1, by omega⟩
    subst e1
    unfold fX6_walks_b42
    rw [if_neg (by rw [n_lt (by omega) (by omega)]; omega), e_stroll 21 _ m' (by rw [e3]; exact hp), e2, e3, (e4 5 0 (by omega) 0).1, h0]
    refine Ok.ret ⟨(n_s _).symm, ?_, ?_, Fr.up (Fr.up e4 (by omega) _ _) (by omega) _ _⟩
    · show rW (upW _ _ _) 21 = _
      rw [rW_up]; rfl
    · show (upW _ _ _).1 4 21 1 = _
      unfold upW; simp only [upI_same, upI_k, upI_c, ne_eq, not_false_eq_true, reduceCtorEq, Nat.reduceEqDiff, Nat.zero_ne_one, Nat.one_ne_zero, and_self, e3]
  · intro s m' ⟨e1, e2, e3, e4⟩
    unfold fX6_walks_b42
    rw [if_pos (by rw [e1, n_lt (by omega) (by omega)]; omega)]
    exact Ok.ret ⟨congrArg Prod.fst e2, e4⟩
  · show rW m 21 = vW v k
    unfold rW vW; rw [hW.1, hW.2.2]
/-- a walker taken over -/
theorem W_take {v : Nat → Int32} {x y k : Nat} {m : MM} (h : WFd m.1 x v k) : Ok (fX4_become y x m) (fun _ m' => WFd m'.1 y v k ∧ Fr (fun c i => c = 4 ∧ i = y) m m') := by
  rw [e_Wbecome]
  refine Ok.ret ⟨⟨?_, ?_, ?_⟩, Fr.up (Fr.up (Fr.up Fr.rfl (by omega) _ _) (by omega) _ _) (by omega) _ _⟩
  · simp only [upI_same, upI_k, upI_c, ne_eq, not_false_eq_true, reduceCtorEq, Nat.reduceEqDiff, Nat.zero_ne_one, Nat.one_ne_zero, and_self]; exact h.1
  · simp only [upI_same, upI_k, upI_c, ne_eq, not_false_eq_true, reduceCtorEq, Nat.reduceEqDiff, Nat.zero_ne_one, Nat.one_ne_zero, and_self]; exact h.2.1
  · simp only [upI_same, upI_k, upI_c, ne_eq, not_false_eq_true, reduceCtorEq, Nat.reduceEqDiff, Nat.zero_ne_one, Nat.one_ne_zero, and_self]; exact h.2.2
theorem op_walks {v : Nat → Int32} {nb nw nc : Nat} {m : MM} (h : Rlt v nb nw nc m) (x : Int32) (y : Int32) : Eq2 (fX6_walks 0 x y) (fX7_walks 0 x y) m := by
  have w6_y : ∀ m, fX6_within y 0 60 m = some (inB y 61, m) := fun m => e6_within' y 60 m (by omega)
  have w7_y : ∀ m, fX7_within y 0 60 m = some (inB y 61, m) := fun m => e7_within' y 60 m (by omega)
  cases hg : ((inB x nw) && (inB y 61))
  · refine Eq2.bad h ?_ ?_
    · rw [fX6_walks_eq]; unfold fX6_walks_b
      cases g_x : inB x nw <;> cases g_y : inB y 61 <;> first | (simp only [e5_walkerAt h.1, w6_y, g_x, g_y, Option.bind_some, bind_eta, bI_0, bI_1, reduceCtorEq, not_true, not_false_eq_true, if_true, if_false]; done) | (rw [g_x, g_y] at hg; cases hg)
    · intro m1 h1
      rw [fX7_walks_eq]; unfold fX7_walks_b
      cases g_x : inB x nw <;> cases g_y : inB y 61 <;> first | (simp only [e7_isWalker h1, w7_y, e7_isTime, g_x, g_y, Option.bind_some, bind_eta, bI_0, bI_1, reduceCtorEq, not_true, not_false_eq_true, if_true, if_false, Bool.and_true, Bool.and_false, Bool.true_and, Bool.false_and]; done) | (rw [g_x, g_y] at hg; cases hg)
  · simp only [Bool.and_eq_true] at hg
    obtain ⟨g_x, g_y⟩ := hg
    obtain ⟨hl_k, he_k⟩ := inB_ex g_x
    have hu_k := n_clb x
    have hc_k : ∀ k, k = x.toNatClampNeg → (nI k).toNatClampNeg = k := fun k hk => n_cl (by omega)
    replace hc_k := hc_k _ rfl
    generalize x.toNatClampNeg = k at hl_k he_k hc_k hu_k
    subst he_k
    obtain ⟨hl_n, he_n⟩ := inB_ex g_y
    have hu_n := n_clb y
    have hc_n : ∀ k, k = y.toNatClampNeg → (nI k).toNatClampNeg = k := fun k hk => n_cl (by omega)
    replace hc_n := hc_n _ rfl
    generalize y.toNatClampNeg = n at hl_n he_n hc_n hu_n
    subst he_n
    refine Eq2.ask h (wlk v k n).1 ?_ ?_
    · rw [fX6_walks_eq]; unfold fX6_walks_b
      simp only [e5_walkerAt h.1, w6_y, g_x, g_y, hc_k, hc_n, Option.bind_some, bind_eta, bI_0, bI_1, reduceCtorEq, not_true, not_false_eq_true, if_true, if_false]
      refine (W_take (h.1.wf hl_k)).bind ?_
      intro _ m1 ⟨w1, f1⟩
      have e5 : m1.1 5 0 0 = v 93 := by rw [(f1 5 0 (by omega) 0).1]; exact h.1.2.2.1.1
      refine (walks_loop m1 e5 w1 (h.1.1.p100 hl_k) (by omega)).bind ?_
      intro _ m2 ⟨w2, f2⟩
      refine Ok.ret ⟨w2, (f1.trans f2).toC (fun c i h k => by unfold ScrC; omega) (by omega)⟩
    · intro m1 h1
      rw [fX7_walks_eq]; unfold fX7_walks_b
      simp only [e7_isWalker h1.1, w7_y, e7_isTime, g_x, g_y, hc_k, hc_n, Option.bind_some, bind_eta, bI_0, bI_1, reduceCtorEq, not_true, not_false_eq_true, if_true, if_false, Bool.and_true]
      refine (keep_ok 2 m1).bind ?_
      intro _ m2 ⟨k1, k2⟩
      have hL1 : Lv v m2 := Lv_fr h1.1.2.1 k2 (by unfold Dlv Dto; omega)
      refine (q_goesOn hL1 h1.1.1 (by omega)).bind ?_
      intro r m3 ⟨_, s⟩
      have hnb := h1.1.nb.2.1
      have hnw := h1.1.nw.2.1
      have hs := s.W hL1 (h1.1.1.m h1.1.nb.2.1) hl_k
      have hf := s.fr (by omega) h1.1.nw.2.1
      dsimp only
      rw [inB_t (show k < 18 by omega) (by omega), hs.1]
      simp only [cond_true]
      exact kept_back h1.1.2.1 k1 k2 hf (fun m4 h4 => ⟨rfl, Dto_S h4⟩)
/-- the first day from 1 on at which a bottle's track and a walker meet -/
theorem meet6 {v : Nat → Int32} {k N : Nat} {m : MM} (T : Nat → CH) (hT : ∀ d, d ≤ N → m.1 41 0 d = (T d).1 ∧ m.1 42 0 d = (T d).2) (h0 : m.1 5 0 0 = v 93) {x : Nat} (hW : WFd m.1 x v k) (hp : inB (v (81 + k)) 100 = true) (hN : N < 61) :
    Ok (fX6_firstMeeting 0 (some x) (nI N) m) (fun r m' => r = fst1 (fun d => decide ((T d).2 = 0 ∧ (T d).1 = (wlk v k d).1)) N 1 ∧ Fr (fun c i => c = 4 ∧ i = 21) m m') := by
  rw [fX6_firstMeeting_eq]; unfold fX6_firstMeeting_b fX6_firstMeeting_1
  dsimp only
  refine (W_take hW).bind ?_
  intro _ m1 ⟨w1, f1⟩
  refine Ok.mono (Ok.srch (f := fX6_firstMeeting_b16 0 (nI N)) 1 (N + 1) (fun d => decide ((T d).2 = 0 ∧ (T d).1 = (wlk v k d).1)) (fun i m' => rW m' 21 = wlk v k (i - 1) ∧ m'.1 4 21 1 = v (81 + k) ∧ Fr (fun c i => c = 4 ∧ i = 21) m m') (fun m' => Fr (fun c i => c = 4 ∧ i = 21) m m') ?_ ?_ (by omega) (by omega) (fun _ => rfl) (fun _ _ => rfl) m1 ⟨?_, w1.2.1, f1⟩) (fun r m' h => h)
  · intro d m' h1 h2 ⟨e2, e3, e4⟩
    obtain ⟨j, rfl⟩ : ∃ j, d = j + 1 := ⟨d - 1, by omega⟩
    unfold fX6_firstMeeting_b16
    rw [if_neg (by rw [n_lt (by omega) (by omega)]; omega), e_stroll 21 _ m' (by rw [e3]; exact hp), e2, e3, (e4 5 0 (by omega) 0).1, h0]
    simp only [Option.bind_some]
    have es : strl (v 93) (v (81 + k)) (wlk v k (j + 1 - 1)) = wlk v k (j + 1) := rfl
    rw [es]
    have f4 : Fr (fun c i => c = 4 ∧ i = 21) m (upW m' 21 (wlk v k (j + 1))) := Fr.up (Fr.up e4 (by omega) _ _) (by omega) _ _
    have r1 : (upW m' 21 (wlk v k (j + 1))).1 4 21 0 = (wlk v k (j + 1)).1 := by unfold upW; simp only [upI_same, upI_k, upI_c, ne_eq, not_false_eq_true, reduceCtorEq, Nat.reduceEqDiff, Nat.zero_ne_one, Nat.one_ne_zero, and_self]
    have r2 : (upW m' 21 (wlk v k (j + 1))).1 4 21 1 = v (81 + k) := by unfold upW; simp only [upI_same, upI_k, upI_c, ne_eq, not_false_eq_true, reduceCtorEq, Nat.reduceEqDiff, Nat.zero_ne_one, Nat.one_ne_zero, and_self, e3]
    have r3 := rW_up m' 21 (wlk v k (j + 1))
    generalize upW m' 21 (wlk v k (j + 1)) = m2 at *
    rw [e_howAt 0 (j + 1) m2 (by omega), (f4 42 0 (by omega) _).1, (hT (j + 1) (by omega)).2]
    simp only [Option.bind_some]
    by_cases q : (T (j + 1)).2 = 0
    · rw [if_neg (fun h => h q), e_cellAt 0 (j + 1) m2 (by omega), (f4 41 0 (by omega) _).1, (hT (j + 1) (by omega)).1]
      simp only [Option.bind_some]
      rw [r1]
      by_cases q2 : (T (j + 1)).1 = (wlk v k (j + 1)).1
      · rw [if_neg (fun h => h q2)]
        exact Ok.ret (Or.inl ⟨decide_eq_true ⟨q, q2⟩, rfl, f4⟩)
      · rw [if_pos q2]
        exact Ok.ret (Or.inr ⟨decide_eq_false (fun h => q2 h.2), by rw [n_s (j + 1)], r3, r2, f4⟩)
    · rw [if_pos q]
      exact Ok.ret (Or.inr ⟨decide_eq_false (fun h => q h.1), by rw [n_s (j + 1)], r3, r2, f4⟩)
  · intro m' ⟨e2, e3, e4⟩
    refine ⟨?_, e4⟩
    unfold fX6_firstMeeting_b16
    rw [if_pos (by rw [n_lt (by omega) (by omega)]; omega)]
  · show rW m1 21 = vW v k
    unfold rW vW; rw [w1.1, w1.2.2]
/-- when a bottle for nobody and a walker meet, in so many days -/
def met (v : Nat → Int32) (b k N : Nat) : Int32 := fst1 (fun d => decide ((simN v b d).2 = 0 ∧ (simN v b d).1 = (wlk v k d).1)) N 1
theorem meet7 {v : Nat → Int32} {nb nw nc b k : Nat} {m : MM} (hL : Lv v m) (h : WF v nb nw nc) (hb : b < nb) (hk : k < nw) : Ok (fX7_meet 0 (nI b) (nI k) m) (fun r m' => r = met v b k 60 ∧ FrP (Dto 2) m m') := by
  have hnb := h.2.1
  have hnw := h.2.2.2.1
  rw [fX7_meet_eq]; unfold fX7_meet_b
  refine (keep_ok 2 m).bind ?_
  intro _ m1 ⟨k1, k2⟩
  have hL1 : Lv v m1 := Lv_fr hL k2 (by unfold Dlv Dto; omega)
  dsimp only
  rw [inB_t (show b < 9 by omega) (by omega), n_cl (by omega)]
  simp only [cond_true]
  have hL2 : Lv (nob v b) (upI m1.1 55 0 b (-1), m1.2) := Lv_one hL1 (by unfold loc; omega) _
  have f12 : FrP Dlv m1 (upI m1.1 55 0 b (-1), m1.2) := FrP.up (m' := m1) FrP.rfl (by unfold Dlv; omega) _
  have e97 : nob v b 97 = nI nb := by unfold nob; rw [upv_nn (by omega)]; exact h.1
  generalize (upI m1.1 55 0 b (-1), m1.2) = m2 at hL2 f12
  have hw := WFm_nob (b := b) (h.m h.2.1) (by omega) (by omega)
  have hx : ∀ i, i < nb → nob v b (57 + i) = -1 ∨ inB (nob v b (57 + i)) nw = true := by
    intro i hi
    unfold nob
    by_cases e : i = b
    · subst e; rw [upv_same]; exact Or.inl rfl
    · rw [upv_nn (by omega)]; exact Or.inr (h.b hi).2.1
  refine (Ok.find 1 61 (fun d => decide ((simN v b d).2 = 0 ∧ (simN v b d).1 = (wlk v k d).1)) (fun i m' => SimM nb nw nc m2 (i - 1) m') (by omega) ?_ ?_ (by omega) m2 (SimM.begin (hL2.mv (by omega) hw))).bind ?_
  · intro i m' h1 hi hS
    obtain ⟨j, rfl⟩ : ∃ j, i = j + 1 := ⟨i - 1, by omega⟩
    unfold fX7_meet_b20
    dsimp only
    have e7 : m'.1 7 0 4 = nI nb := by
      rw [hS.2.2.2.1.1 7 0 4 (by unfold Dps; omega), ← hL2.2.2.2.2.2.2.2.1]; exact e97
    rw [if_neg (by rw [nI60, n_lt (by omega) (by omega)]; omega), if_neg (by decide), e7]
    refine (SimM.step (by omega) (by omega) hS).bind ?_
    intro _ m3 ⟨q1, _⟩
    have hs := q1.B hL2 hw (by omega) hb (hx b hb)
    have hv := q1.W hL2 hw hk
    rw [wlk_nob (by omega)] at hv
    dsimp only
    rw [inB_t (show b < 9 by omega) (by omega), inB_t (show k < 18 by omega) (by omega), n_cl (by omega), n_cl (by omega), hs.1, hs.2, hv.1]
    simp only [cond_true]
    have e1 : simV (nob v b) b (j + 1 - 1 + 1) = simN v b (j + 1) := rfl
    have e2 : wlk v k (j + 1 - 1 + 1) = wlk v k (j + 1) := rfl
    rw [e1, e2]
    by_cases q : (simN v b (j + 1)).2 = 0
    · rw [if_neg (fun h => h q)]
      by_cases q2 : (simN v b (j + 1)).1 = (wlk v k (j + 1)).1
      · rw [if_neg (fun h => h q2), if_pos (decide_eq_true ⟨q, q2⟩)]
        exact Ok.ret ⟨by rw [n_s (j + 1)], q1⟩
      · rw [if_pos q2, if_neg (fun h => q2 (of_decide_eq_true h).2)]
        exact Ok.ret ⟨by rw [n_s (j + 1)], q1⟩
    · rw [if_pos q, if_neg (fun h => q (of_decide_eq_true h).1)]
      exact Ok.ret ⟨by rw [n_s (j + 1)], q1⟩
  · intro s m' h
    unfold fX7_meet_b20
    rcases h with h | h
    · by_cases e : 60 < s.2
      · rw [if_pos e]
      · rw [if_neg e, if_pos h]
    · rw [h, if_pos (by rw [nI60, n_lt (by omega) (by omega)]; omega)]
  · intro r m3 ⟨r1, i, r2⟩
    exact kept_back hL k1 k2 (f12.trans (r2.fr (by omega) h.2.2.2.1)) (fun m4 h4 => ⟨r1, h4⟩)
theorem op_meets {v : Nat → Int32} {nb nw nc : Nat} {m : MM} (h : Rlt v nb nw nc m) (x : Int32) (y : Int32) : Eq2 (fX6_meets 0 x y) (fX7_meets 0 x y) m := by
  cases hg : ((inB x nb) && (inB y nw))
  · refine Eq2.bad h ?_ ?_
    · rw [fX6_meets_eq]; unfold fX6_meets_b
      cases g_x : inB x nb <;> cases g_y : inB y nw <;> first | (simp only [e5_bottleAt h.1, e5_walkerAt h.1, g_x, g_y, Option.bind_some, bind_eta, bI_0, bI_1, reduceCtorEq, not_true, not_false_eq_true, if_true, if_false]; done) | (rw [g_x, g_y] at hg; cases hg)
    · intro m1 h1
      rw [fX7_meets_eq]; unfold fX7_meets_b
      cases g_x : inB x nb <;> cases g_y : inB y nw <;> first | (simp only [e7_isBottle h1, e7_isWalker h1, g_x, g_y, Option.bind_some, bind_eta, bI_0, bI_1, reduceCtorEq, not_true, not_false_eq_true, if_true, if_false, Bool.and_true, Bool.and_false, Bool.true_and, Bool.false_and]; done) | (rw [g_x, g_y] at hg; cases hg)
  · simp only [Bool.and_eq_true] at hg
    obtain ⟨g_x, g_y⟩ := hg
    obtain ⟨hl_b, he_b⟩ := inB_ex g_x
    have hu_b := n_clb x
    have hc_b : ∀ k, k = x.toNatClampNeg → (nI k).toNatClampNeg = k := fun k hk => n_cl (by omega)
    replace hc_b := hc_b _ rfl
    generalize x.toNatClampNeg = b at hl_b he_b hc_b hu_b
    subst he_b
    obtain ⟨hl_k, he_k⟩ := inB_ex g_y
    have hu_k := n_clb y
    have hc_k : ∀ k, k = y.toNatClampNeg → (nI k).toNatClampNeg = k := fun k hk => n_cl (by omega)
    replace hc_k := hc_k _ rfl
    generalize y.toNatClampNeg = k at hl_k he_k hc_k hu_k
    subst he_k
    refine Eq2.ask h (met v b k 60) ?_ ?_
    · rw [fX6_meets_eq]; unfold fX6_meets_b
      simp only [e5_bottleAt h.1, e5_walkerAt h.1, g_x, g_y, hc_b, hc_k, Option.bind_some, bind_eta, bI_0, bI_1, reduceCtorEq, not_true, not_false_eq_true, if_true, if_false]
      refine (q_follow0 h.1 (N := 60) hl_b (by omega) 0).bind ?_
      intro _ m1 ⟨t1, t2⟩
      have hW : WFd m1.1 (1 + k) v k := by
        have := h.1.wf hl_k
        have hnw := h.1.nw.2.1
        obtain ⟨a1, a2, a3⟩ := this
        refine ⟨?_, ?_, ?_⟩ <;> rw [(t2 4 (1 + k) (by unfold Dfo; omega) _).1] <;> assumption
      have e5 : m1.1 5 0 0 = v 93 := by rw [(t2 5 0 (by unfold Dfo; omega) 0).1]; exact h.1.2.2.1.1
      refine (meet6 (N := 60) (simN v b) t1 e5 hW (h.1.1.p100 hl_k) (by omega)).mono ?_
      intro r m2 ⟨r1, r2⟩
      refine ⟨r1, (Dfo_toC t2).trans (r2.toC (fun c i h k => by unfold ScrC; omega) (by omega))⟩
    · intro m1 h1
      rw [fX7_meets_eq]; unfold fX7_meets_b
      simp only [e7_isBottle h1.1, e7_isWalker h1.1, g_x, g_y, hc_b, hc_k, Option.bind_some, bind_eta, bI_0, bI_1, reduceCtorEq, not_true, not_false_eq_true, if_true, if_false, Bool.and_true]
      exact (meet7 h1.1.2.1 h1.1.1 hl_b hl_k).mono (fun r m' ⟨a, b⟩ => ⟨a, Dto_S b⟩)
