/-! PURE: asking, first group -/
/-- where a number of the row lies -/
def loc (c j k : Nat) : Prop := (c = 50 ∧ k = j ∧ j < 30) ∨ (52 ≤ c ∧ c ≤ 56 ∧ j < 9 ∧ k = 30 + 9 * (c - 52) + j) ∨ (c = 57 ∧ k = 75 + j ∧ j < 18) ∨ (c = 51 ∧ k = 94 + j ∧ j < 2) ∨ (c = 7 ∧ ((j = 0 ∧ k = 93) ∨ (j = 3 ∧ k = 96) ∨ (j = 4 ∧ k = 97) ∨ (j = 10 ∧ k = 98) ∨ (j = 12 ∧ k = 99)))
theorem Lv_one {v : Nat → Int32} {m : MM} (h : Lv v m) {c j k : Nat} (hl : loc c j k) (x : Int32) : Lv (upv v k x) (upI m.1 c 0 j x, m.2) := by
  have key : ∀ c' j' k', loc c' j' k' → v k' = m.1 c' 0 j' → upv v k x k' = upI m.1 c 0 j x c' 0 j' := by
    intro c' j' k' hl' e
    by_cases q : c' = c ∧ j' = j
    · obtain ⟨q1, q2⟩ := q
      subst q1 q2
      have : k' = k := by unfold loc at hl hl'; omega
      rw [this, upv_same, upI_same]
    · have : ¬ k' = k := by unfold loc at hl hl'; omega
      rw [upv_nn this, upI_nn (fun z => q ⟨z.1, z.2.2⟩), e]
  obtain ⟨a1, a2, a3, a4, a5, a6, a7, a8, a9, a10⟩ := h
  refine ⟨fun c hc => key _ _ _ (by unfold loc; omega) (a1 c hc), fun b hb => ?_, fun k hk => key _ _ _ (by unfold loc; omega) (a3 k hk), key 7 0 93 (by unfold loc; omega) a4, key 51 0 94 (by unfold loc; omega) a5, key 51 1 95 (by unfold loc; omega) a6, key 7 3 96 (by unfold loc; omega) a7, key 7 4 97 (by unfold loc; omega) a8, key 7 10 98 (by unfold loc; omega) a9, key 7 12 99 (by unfold loc; omega) a10⟩
  obtain ⟨x1, x2, x3, x4, x5⟩ := a2 b hb
  exact ⟨key 52 b _ (by unfold loc; omega) x1, key 53 b _ (by unfold loc; omega) x2, key 54 b _ (by unfold loc; omega) x3, key 55 b _ (by unfold loc; omega) x4, key 56 b _ (by unfold loc; omega) x5⟩
/-- for nobody -/
def nob (v : Nat → Int32) (b : Nat) : Nat → Int32 := upv v (57 + b) (-1)
def simN (v : Nat → Int32) (b d : Nat) : CH := simV (nob v b) b d
theorem wlk_upv {v : Nat → Int32} {j k : Nat} {x : Int32} (h : ¬ (j = 93 ∨ j = 75 + k ∨ j = 81 + k ∨ j = 87 + k)) (d : Nat) : wlk (upv v j x) k d = wlk v k d := by
  unfold wlk vW
  rw [upv_nn (by omega), upv_nn (by omega), upv_nn (by omega), upv_nn (by omega)]
theorem wlk_nob {v : Nat → Int32} {b k : Nat} (hb : b < 9) (d : Nat) : wlk (nob v b) k d = wlk v k d := wlk_upv (by omega) d
theorem vE_nob {v : Nat → Int32} {b : Nat} (hb : b < 9) : vE (nob v b) = vE v := by
  unfold vE
  have : vfl (nob v b) = vfl v := by
    funext c
    by_cases hc : inB c 30 = true
    · have := (inB_ex hc).1
      rw [vfl_in hc, vfl_in hc]; exact upv_nn (by omega)
    · unfold vfl
      rw [inB_hi c 30 (by decide), inB_hi c 30 (by decide), if_neg hc, if_neg hc]
  rw [this]
  unfold nob
  rw [upv_nn (by omega), upv_nn (by omega), upv_nn (by omega)]
theorem WFm_nob {v : Nat → Int32} {many nw nc b : Nat} (h : WFm v many nw nc) (hb : b < 9) (hm : many ≤ 9) : WFm (nob v b) many nw nc := by
  obtain ⟨w1, w2, w3, w4, w5, w6, w7, w8⟩ := h
  unfold nob
  refine ⟨by rw [upv_nn (by omega)]; exact w1, w2, by rw [upv_nn (by omega)]; exact w3, w4, w5, fun i hi => ?_, fun w hw => ?_, by rw [upv_nn (by omega)]; exact w8⟩
  · rw [upv_nn (show 48 + i ≠ 57 + b by omega)]
    refine ⟨(w6 i hi).1, ?_⟩
    by_cases e : i = b
    · subst e; rw [upv_same]; exact Or.inl rfl
    · rw [upv_nn (by omega)]; exact (w6 i hi).2
  · unfold vW
    rw [upv_nn (by omega), upv_nn (by omega), upv_nn (by omega)]; exact w7 w hw
theorem BF_nob {mi : MI} {j b : Nat} {v : Nat → Int32} (h : BF mi j v b) (hb : b < 9) : mi 0 j 0 = nob v b (30 + b) ∧ mi 0 j 1 = nob v b (39 + b) ∧ mi 0 j 2 = nob v b (48 + b) ∧ mi 0 j 4 = nob v b (66 + b) := by
  obtain ⟨b1, b2, b3, b4, b5⟩ := h
  unfold nob
  rw [upv_nn (by omega), upv_nn (by omega), upv_nn (by omega), upv_nn (by omega)]
  exact ⟨b1, b2, b3, b5⟩
/-- the class: a bottle by its numbers, for nobody -/
theorem simC_0 {m : MM} {w j b : Nat} {v : Nat → Int32} (hE : cE m w = vE v) (h0 : m.1 0 j 0 = v (30 + b)) (h1 : m.1 0 j 1 = v (39 + b)) (h2 : m.1 0 j 2 = v (48 + b)) (h4 : m.1 0 j 4 = v (66 + b)) (hn : v (57 + b) = -1) (d : Nat) : simC m w j none d = simV v b d := by
  unfold simC simV fVv
  rw [if_pos hn, hE, h0, h1]
  have : rB m j = vB v b := by unfold rB vB; rw [h2, h4]
  rw [this]; rfl
theorem q_follow {v : Nat → Int32} {nb nw nc : Nat} {m : MM} (h : Rel0 v nb nw nc m) {b N : Nat} (hb : b < nb) (hN : N < 61) (t : Nat) : Ok (fX5_follow 0 t (1 + b) (some (1 + (v (57 + b)).toNatClampNeg)) (nI N) m) (fun _ m' => (∀ d, d ≤ N → m'.1 41 t d = (simV v b d).1 ∧ m'.1 42 t d = (simV v b d).2) ∧ Fr (Dfo 0 t) m m') :=
  follow_v t h.E (h.bf hb) (h.fin hb) hN
theorem q_follow0 {v : Nat → Int32} {nb nw nc : Nat} {m : MM} (h : Rel0 v nb nw nc m) {b N : Nat} (hb : b < nb) (hN : N < 61) (t : Nat) : Ok (fX5_follow 0 t (1 + b) none (nI N) m) (fun _ m' => (∀ d, d ≤ N → m'.1 41 t d = (simN v b d).1 ∧ m'.1 42 t d = (simN v b d).2) ∧ Fr (Dfo 0 t) m m') := by
  have hb9 : b < 9 := by have := h.nb.2.1; omega
  obtain ⟨b1, b2, b3, b5⟩ := BF_nob (h.bf hb) hb9
  have hs := simC_0 (v := nob v b) (b := b) (m := m) (w := 0) (j := 1 + b) (by rw [vE_nob hb9]; exact h.E) b1 b2 b3 b5 (upv_same _ _ _)
  refine (follow_0 0 t (1 + b) N m hN).mono ?_
  intro _ m' ⟨a, c⟩
  refine ⟨fun d hd => ?_, c⟩
  have := a d hd
  rw [hs d] at this; exact this
theorem Rel0.whose {v : Nat → Int32} {nb nw nc : Nat} {m : MM} (h : Rel0 v nb nw nc m) {b : Nat} (hb : b < nb) : fX5_walkerAt 0 (m.1 0 (1 + b) 3) m = some (some (1 + (v (57 + b)).toNatClampNeg), m) := by
  rw [e5_walkerAt h, (h.bf hb).2.2.2.1, if_pos (h.1.b hb).2.1]
/-! breaks -/
theorem op_breaks {v : Nat → Int32} {nb nw nc : Nat} {m : MM} (h : Rlt v nb nw nc m) (x : Int32) : Eq2 (fX6_breaks 0 x) (fX7_breaks 0 x) m := by
  by_cases hx : inB x nb = true
  · obtain ⟨hb, e⟩ := inB_ex hx
    generalize x.toNatClampNeg = b at hb e
    subst e
    refine Eq2.ask h (fst1 (fun d => decide ((simV v b d).2 = 2)) 61 0) ?_ ?_
    · rw [fX6_breaks_eq]; unfold fX6_breaks_b
      rw [e5_bottleAt h.1, if_pos hx, n_cl (by have := h.1.nb.2.1; omega)]
      simp only [Option.bind_some, bind_eta]
      rw [h.1.whose hb]
      simp only [Option.bind_some]
      refine (q_follow h.1 (N := 60) hb (by omega) 0).bind ?_
      intro _ m1 ⟨t1, t2⟩
      dsimp only
      refine Ok.srch (f := fX6_breaks_b48 0) 0 61 (fun d => decide ((simV v b d).2 = 2)) (fun _ m' => m' = m1) (fun m' => FrP ScrC m m') ?_ ?_ (by omega) (by omega) (fun _ => rfl) (fun _ _ => rfl) m1 rfl
      · intro d m' _ hd e
        subst e
        unfold fX6_breaks_b48
        rw [if_neg (by rw [nI60, n_lt (by omega) (by omega)]; omega), e_howAt 0 d m' (by omega), (t1 d (by omega)).2]
        simp only [Option.bind_some]
        by_cases e : (simV v b d).2 = 2
        · rw [if_neg (fun h => h e)]
          exact Ok.ret (Or.inl ⟨decide_eq_true e, rfl, Dfo_toC t2⟩)
        · rw [if_pos e]
          exact Ok.ret (Or.inr ⟨decide_eq_false e, by rw [n_s], rfl⟩)
      · intro m' e
        subst e
        refine ⟨?_, Dfo_toC t2⟩
        unfold fX6_breaks_b48
        rw [if_pos (by rw [nI60, n_lt (by omega) (by omega)]; omega)]
    · intro m1 h1
      rw [fX7_breaks_eq]; unfold fX7_breaks_b
      rw [e7_isBottle h1.1, hx]
      simp only [Option.bind_some, bI_0, reduceCtorEq, if_false, bind_eta]
      rw [h1.1.nb.1]
      exact (whenSo_ok b 2 m1 h1.1.2.1 (by have := h1.1.nb.2.1; omega) (h1.1.1.m h1.1.nb.2.1) hb (Or.inr (h1.1.1.b hb).2.1)).mono (fun r m' ⟨a, b⟩ => ⟨a, Dto_S b⟩)
  · refine Eq2.bad h ?_ ?_
    · rw [fX6_breaks_eq]; unfold fX6_breaks_b
      rw [e5_bottleAt h.1, if_neg hx]
      simp only [Option.bind_some, bind_eta]
    · intro m1 h1
      rw [fX7_breaks_eq]; unfold fX7_breaks_b
      rw [e7_isBottle h1, Bool.eq_false_iff.2 hx]
      simp only [Option.bind_some, bI_0, if_true, bind_eta]
theorem inB_2 {x : Int32} (h : inB x 2 = true) : x = 0 ∨ x = 1 := by
  obtain ⟨a, b⟩ := inB_ex h
  have : x.toNatClampNeg = 0 ∨ x.toNatClampNeg = 1 := by omega
  rcases this with e | e
  · rw [e] at b; exact Or.inl b
  · rw [e] at b; exact Or.inr b
/-- the reference after so many days -/
theorem q_goesOn {v : Nat → Int32} {nb nw nc : Nat} {m : MM} (hL : Lv v m) (h : WF v nb nw nc) {n : Nat} (hn : n < 100) : Ok (fX7_goesOn 0 (nI n) m) (fun r m' => r = nI (nfd v nb n) ∧ SimM nb nw nc m n m') :=
  goesOn_ok n m hL h.2.1 h.1 (h.m h.2.1) (fun b hb => Or.inr (h.b hb).2.1) hn
/-! ahead -/
theorem op_ahead {v : Nat → Int32} {nb nw nc : Nat} {m : MM} (h : Rlt v nb nw nc m) (x y z : Int32) : Eq2 (fX6_ahead 0 x y z) (fX7_ahead 0 x y z) m := by
  have b6 : ∀ m, fX6_within y 0 60 m = some (inB y 61, m) := fun m => e6_within' y 60 m (by omega)
  have b7 : ∀ m, fX7_isTime y m = some (inB y 61, m) := fun m => e7_isTime y m
  have c6 : ∀ m, fX6_within z 0 1 m = some (inB z 2, m) := fun m => e6_within' z 1 m (by omega)
  have c7 : ∀ m, fX7_within z 0 1 m = some (inB z 2, m) := fun m => e7_within' z 1 m (by omega)
  by_cases hx : inB x nb = true
  · by_cases hy : inB y 61 = true
    · by_cases hz : inB z 2 = true
      · obtain ⟨hb, e⟩ := inB_ex hx
        obtain ⟨hn, e'⟩ := inB_ex hy
        generalize x.toNatClampNeg = b at hb e
        generalize y.toNatClampNeg = n at hn e'
        subst e e'
        refine Eq2.ask h (if z = 0 then (simV v b n).1 else (simV v b n).2) ?_ ?_
        · rw [fX6_ahead_eq]; unfold fX6_ahead_b
          rw [e5_bottleAt h.1, if_pos hx, n_cl (by have := h.1.nb.2.1; omega)]
          simp only [Option.bind_some, bind_eta, b6, c6, hy, hz, bI_0, reduceCtorEq, if_false, not_false_eq_true, if_true]
          rw [h.1.whose hb]
          simp only [Option.bind_some]
          refine (q_follow h.1 hb hn 0).bind ?_
          intro _ m1 ⟨t1, t2⟩
          dsimp only
          by_cases ez : z = 0
          · rw [if_neg (fun h => h ez), if_pos ez, e_cellAt 0 n m1 hn, (t1 n (by omega)).1]
            exact Ok.ret ⟨rfl, Dfo_toC t2⟩
          · rw [if_pos ez, if_neg ez, e_howAt 0 n m1 hn, (t1 n (by omega)).2]
            exact Ok.ret ⟨rfl, Dfo_toC t2⟩
        · intro m1 h1
          rw [fX7_ahead_eq]; unfold fX7_ahead_b
          rw [e7_isBottle h1.1, hx]
          simp only [Option.bind_some, bI_0, reduceCtorEq, if_false, bind_eta, b7, c7, hy, hz, not_false_eq_true, if_true]
          refine (keep_ok 2 m1).bind ?_
          intro _ m2 ⟨k1, k2⟩
          have hL1 : Lv v m2 := Lv_fr h1.1.2.1 k2 (by unfold Dlv Dto; omega)
          refine (q_goesOn hL1 h1.1.1 (by omega)).bind ?_
          intro r m3 ⟨_, s⟩
          have hs := s.B hL1 (h1.1.1.m h1.1.nb.2.1) (by have := h1.1.nb.2.1; omega) hb (Or.inr (h1.1.1.b hb).2.1)
          have hnb := h1.1.nb.2.1
          have hf := s.fr (by omega) h1.1.nw.2.1
          dsimp only
          rw [inB_t (show b < 9 by omega) (by omega), n_cl (by omega)]
          simp only [cond_true]
          by_cases ez : z = 0
          · rw [if_neg (fun h => h ez), if_pos ez, hs.1]
            exact kept_back h1.1.2.1 k1 k2 hf (fun m4 h4 => ⟨rfl, Dto_S h4⟩)
          · rw [if_pos ez, if_neg ez, hs.2]
            exact kept_back h1.1.2.1 k1 k2 hf (fun m4 h4 => ⟨rfl, Dto_S h4⟩)
      · refine Eq2.bad h ?_ ?_
        · rw [fX6_ahead_eq]; unfold fX6_ahead_b
          rw [e5_bottleAt h.1, if_pos hx]
          simp only [Option.bind_some, bind_eta, b6, c6, hy, Bool.eq_false_iff.2 hz, bI_0, reduceCtorEq, if_false, not_true, if_true]
        · intro m1 h1
          rw [fX7_ahead_eq]; unfold fX7_ahead_b
          rw [e7_isBottle h1, hx]
          simp only [Option.bind_some, bI_0, reduceCtorEq, if_false, bind_eta, b7, c7, hy, Bool.eq_false_iff.2 hz, not_true, if_true]
    · refine Eq2.bad h ?_ ?_
      · rw [fX6_ahead_eq]; unfold fX6_ahead_b
        rw [e5_bottleAt h.1, if_pos hx]
        simp only [Option.bind_some, bind_eta, b6, Bool.eq_false_iff.2 hy, bI_0, if_true]
      · intro m1 h1
        rw [fX7_ahead_eq]; unfold fX7_ahead_b
        rw [e7_isBottle h1, hx]
        simp only [Option.bind_some, bI_0, reduceCtorEq, if_false, bind_eta, b7, Bool.eq_false_iff.2 hy, if_true]
  · refine Eq2.bad h ?_ ?_
    · rw [fX6_ahead_eq]; unfold fX6_ahead_b
      rw [e5_bottleAt h.1, if_neg hx]
      simp only [Option.bind_some, bind_eta]
    · intro m1 h1
      rw [fX7_ahead_eq]; unfold fX7_ahead_b
      rw [e7_isBottle h1, Bool.eq_false_iff.2 hx]
      simp only [Option.bind_some, bI_0, if_true, bind_eta]
