/-! PURE: asking, seventh group -/
theorem nob_at {v : Nat → Int32} {b j : Nat} (h : ¬ j = 57 + b) : nob v b j = v j := upv_nn h
/-- another's being for nobody doesn't matter to one's days -/
theorem simV_nob {v : Nat → Int32} {b c d : Nat} (hbc : b ≠ c) (hb : b < 9) (hc : c < 9) : simV (nob v c) b d = simV v b d := by
  unfold simV
  rw [vE_nob hc, nob_at (by omega), nob_at (by omega)]
  have e1 : fVv (nob v c) b = fVv v b := by
    unfold fVv
    rw [nob_at (show ¬ 57 + b = 57 + c by omega)]
    by_cases q : v (57 + b) = -1
    · rw [if_pos q, if_pos q]
    · rw [if_neg q, if_neg q]
      funext d
      rw [wlk_nob hc]
  have e2 : vB (nob v c) b = vB v b := by unfold vB; rw [nob_at (by omega), nob_at (by omega)]
  rw [e1, e2]
theorem nob_nob {v : Nat → Int32} {b c : Nat} : nob (nob v c) b = nob (nob v b) c := by
  funext j
  unfold nob upv
  by_cases q : j = 57 + b <;> by_cases q2 : j = 57 + c
  · rw [if_pos q, if_pos q2]
  · rw [if_pos q, if_neg q2, if_pos q]
  · rw [if_neg q, if_pos q2, if_pos q2]
  · rw [if_neg q, if_neg q2, if_neg q2, if_neg q]
theorem op_join {v : Nat → Int32} {nb nw nc : Nat} {m : MM} (h : Rlt v nb nw nc m) (x y : Int32) : Eq2 (fX6_join 0 x y) (fX7_join 0 x y) m := by
  have bad : (inB x nb = true ∧ inB y nb = true ∧ ¬ x = y) ∨ Eq2 (fX6_join 0 x y) (fX7_join 0 x y) m := by
    by_cases hx : inB x nb = true ∧ inB y nb = true ∧ ¬ x = y
    · exact Or.inl hx
    · right
      refine Eq2.bad h ?_ ?_
      · rw [fX6_join_eq]; unfold fX6_join_b
        cases g1 : inB x nb <;> cases g2 : inB y nb <;> by_cases g3 : x = y <;> first | (exfalso; exact hx ⟨g1, g2, g3⟩) | simp only [e5_bottleAt h.1, g1, g2, g3, Option.bind_some, bind_eta, bI_0, reduceCtorEq, not_true, not_false_eq_true, if_true, if_false] | (subst g3; simp only [e5_bottleAt h.1, g1, Option.bind_some, bind_eta, bI_0, reduceCtorEq, not_true, not_false_eq_true, if_true, if_false])
      · intro m1 h1
        rw [fX7_join_eq]; unfold fX7_join_b
        cases g1 : inB x nb <;> cases g2 : inB y nb <;> by_cases g3 : x = y <;> first | (exfalso; exact hx ⟨g1, g2, g3⟩) | simp only [e7_isBottle h1, g1, g2, g3, Option.bind_some, bind_eta, bI_0, reduceCtorEq, not_true, not_false_eq_true, if_true, if_false] | (subst g3; simp only [e7_isBottle h1, g1, Option.bind_some, bind_eta, bI_0, reduceCtorEq, not_true, not_false_eq_true, if_true, if_false])
  rcases bad with ⟨g1, g2, g3⟩ | bad
  · have hnb := h.1.nb.2.1
    obtain ⟨hb, e1⟩ := inB_ex g1
    obtain ⟨hc, e2⟩ := inB_ex g2
    generalize x.toNatClampNeg = b at hb e1
    generalize y.toNatClampNeg = c at hc e2
    subst e1 e2
    have c1 : (nI b).toNatClampNeg = b := n_cl (by omega)
    have c2 : (nI c).toNatClampNeg = c := n_cl (by omega)
    have hbc : b ≠ c := fun e => g3 (by rw [e])
    refine Eq2.ask h (fst1 (fun d => decide ((simN v b d).2 = 0 ∧ (simN v c d).2 = 0 ∧ (simN v b d).1 = (simN v c d).1)) 61 0) ?_ ?_
    · rw [fX6_join_eq]; unfold fX6_join_b
      simp only [e5_bottleAt h.1, g1, g2, g3, Option.bind_some, not_false_eq_true, if_true, c1, c2]
      refine (q_follow0 h.1 (N := 60) hb (by omega) 0).bind ?_
      intro _ m1 ⟨t1, t2⟩
      have h1 := Rel_frC h (Dfo_toC t2)
      refine (q_follow0 h1.1 (N := 60) hc (by omega) 1).bind ?_
      intro _ m2 ⟨t3, t4⟩
      have t5 : ∀ d, d ≤ 60 → m2.1 41 0 d = (simN v b d).1 ∧ m2.1 42 0 d = (simN v b d).2 := by
        intro d hd
        rw [(t4 41 0 (by unfold Dfo; omega) d).1, (t4 42 0 (by unfold Dfo; omega) d).1]; exact t1 d hd
      refine Ok.srch (f := fX6_join_b75 0) 0 61 (fun d => decide ((simN v b d).2 = 0 ∧ (simN v c d).2 = 0 ∧ (simN v b d).1 = (simN v c d).1)) (fun d m' => m' = m2) (fun m' => FrP ScrC m m') ?_ ?_ (by omega) (by omega) (fun _ => rfl) (fun _ _ => rfl) m2 rfl
      · intro d m' _ hd e
        subst e
        unfold fX6_join_b75 fX6_join_j110
        rw [if_neg (by rw [nI60, n_lt (by omega) (by omega)]; omega), e_howAt 0 d m' (by omega), (t5 d (by omega)).2]
        simp only [Option.bind_some]
        by_cases q : (simN v b d).2 = 0
        · rw [if_neg (fun h => h q), e_howAt 1 d m' (by omega), (t3 d (by omega)).2]
          simp only [Option.bind_some]
          by_cases q2 : (simN v c d).2 = 0
          · rw [if_neg (fun h => h q2), e_cellAt 0 d m' (by omega), (t5 d (by omega)).1]
            simp only [Option.bind_some]
            rw [e_cellAt 1 d m' (by omega), (t3 d (by omega)).1]
            simp only [Option.bind_some]
            by_cases q3 : (simN v b d).1 = (simN v c d).1
            · rw [if_neg (fun h => h q3)]
              exact Ok.ret (Or.inl ⟨decide_eq_true ⟨q, q2, q3⟩, rfl, (Dfo_toC t2).trans (Dfo_toC t4)⟩)
            · rw [if_pos q3]
              exact Ok.ret (Or.inr ⟨decide_eq_false (fun h => q3 h.2.2), by rw [n_s], rfl⟩)
          · rw [if_pos q2]
            exact Ok.ret (Or.inr ⟨decide_eq_false (fun h => q2 h.2.1), by rw [n_s], rfl⟩)
        · rw [if_pos q]
          exact Ok.ret (Or.inr ⟨decide_eq_false (fun h => q h.1), by rw [n_s], rfl⟩)
      · intro m' e
        subst e
        refine ⟨?_, (Dfo_toC t2).trans (Dfo_toC t4)⟩
        unfold fX6_join_b75
        rw [if_pos (by rw [nI60, n_lt (by omega) (by omega)]; omega)]
    · intro m1 h1
      rw [fX7_join_eq]; unfold fX7_join_b
      simp only [e7_isBottle h1.1, g1, g2, g3, Option.bind_some, bI_0, reduceCtorEq, not_false_eq_true, if_true, if_false]
      refine (keep_ok 2 m1).bind ?_
      intro _ m2 ⟨k1, k2⟩
      have hL := Lv_to h1.1.lv k2
      have b9 : b < 9 := by omega
      have c9 : c < 9 := by omega
      dsimp only
      rw [inB_t (show b < 9 by omega) (by omega), inB_t (show c < 9 by omega) (by omega), c1, c2]
      simp only [cond_true]
      have hL2 : Lv (nob (nob v b) c) (upI (upI m2.1 55 0 b (-1)) 55 0 c (-1), m2.2) := Lv_one (m := (upI m2.1 55 0 b (-1), m2.2)) (Lv_one hL (by unfold loc; omega) _) (by unfold loc; omega) _
      have f12 : FrP Dlv m2 (upI (upI m2.1 55 0 b (-1)) 55 0 c (-1), m2.2) := FrP.up (m' := (upI m2.1 55 0 b (-1), m2.2)) (FrP.up (m' := m2) FrP.rfl (by unfold Dlv; omega) _) (by unfold Dlv; omega) _
      have e97 : nob (nob v b) c 97 = nI nb := by rw [nob_at (by omega), nob_at (by omega)]; exact h1.1.1.1
      generalize (upI (upI m2.1 55 0 b (-1)) 55 0 c (-1), m2.2) = m3 at hL2 f12
      have hw := WFm_nob (b := c) (WFm_nob (b := b) (h1.1.1.m hnb) (by omega) (by omega)) (by omega) (by omega)
      have hx : ∀ i, i < nb → nob (nob v b) c (57 + i) = -1 ∨ inB (nob (nob v b) c (57 + i)) nw = true := by
        intro i hi
        by_cases e : i = c
        · subst e; unfold nob; rw [upv_same]; exact Or.inl rfl
        · rw [nob_at (by omega)]
          by_cases e : i = b
          · subst e; unfold nob; rw [upv_same]; exact Or.inl rfl
          · rw [nob_at (by omega)]; exact Or.inr (h1.1.1.b hi).2.1
      have sb : ∀ d, simV (nob (nob v b) c) b d = simN v b d := fun d => simV_nob hbc b9 c9
      have sc : ∀ d, simV (nob (nob v b) c) c d = simN v c d := fun d => by rw [← nob_nob]; exact simV_nob (fun e => hbc e.symm) c9 b9
      refine (Ok.find (f := fX7_join_b56 0 (nI b) (nI c)) 0 61 (fun d => decide ((simN v b d).2 = 0 ∧ (simN v c d).2 = 0 ∧ (simN v b d).1 = (simN v c d).1)) (fun i m' => SimM nb nw nc m3 (i - 1) m') (by omega) ?_ ?_ (by omega) m3 (SimM.begin (hL2.mv (by omega) hw))).bind ?_
      · intro i m' _ hi hS
        unfold fX7_join_b56
        dsimp only
        rw [if_neg (by rw [nI60, n_lt (by omega) (by omega)]; omega), if_neg (by decide)]
        have fin : ∀ m', SimM nb nw nc m3 i m' → Ok (fX7_join_j82 0 (nI b) (nI c) (-1) (nI i) m') (fun (o : (Int32 × Int32) ⊕ Int32) m' => o = Sum.inl (if decide ((simN v b i).2 = 0 ∧ (simN v c i).2 = 0 ∧ (simN v b i).1 = (simN v c i).1) = true then nI i else -1, nI (i + 1)) ∧ SimM nb nw nc m3 (i + 1 - 1) m') := by
          intro m' hS
          have hs := hS.B hL2 hw (by omega) hb (hx b hb)
          have hs' := hS.B hL2 hw (by omega) hc (hx c hc)
          rw [sb] at hs
          rw [sc] at hs'
          unfold fX7_join_j82
          rw [inB_t (show b < 9 by omega) (by omega), inB_t (show c < 9 by omega) (by omega), c1, c2, hs.1, hs.2, hs'.1, hs'.2]
          simp only [cond_true]
          by_cases q : (simN v b i).2 = 0
          · rw [if_neg (fun h => h q)]
            by_cases q2 : (simN v c i).2 = 0
            · rw [if_neg (fun h => h q2)]
              by_cases q3 : (simN v b i).1 = (simN v c i).1
              · rw [if_neg (fun h => h q3), if_pos (decide_eq_true ⟨q, q2, q3⟩)]
                exact Ok.ret ⟨by rw [n_s], hS⟩
              · rw [if_pos q3, if_neg (fun h => q3 (of_decide_eq_true h).2.2)]
                exact Ok.ret ⟨by rw [n_s], hS⟩
            · rw [if_pos q2, if_neg (fun h => q2 (of_decide_eq_true h).2.1)]
              exact Ok.ret ⟨by rw [n_s], hS⟩
          · rw [if_pos q, if_neg (fun h => q (of_decide_eq_true h).1)]
            exact Ok.ret ⟨by rw [n_s], hS⟩
        by_cases h0 : i = 0
        · subst h0
          rw [if_pos (by decide)]
          exact fin m' hS
        · rw [if_neg (by rw [show (0 : Int32) = nI 0 from rfl, n_le (by omega) (by omega)]; omega)]
          obtain ⟨d, rfl⟩ : ∃ d, i = d + 1 := ⟨i - 1, by omega⟩
          have e7 : m'.1 7 0 4 = nI nb := by
            rw [hS.2.2.2.1.1 7 0 4 (by unfold Dps; omega), ← hL2.2.2.2.2.2.2.2.1]; exact e97
          rw [e7]
          refine (SimM.step (by omega) (by omega) hS).bind ?_
          intro _ m4 ⟨q1, _⟩
          exact fin m4 q1
      · intro s m' h
        unfold fX7_join_b56
        rcases h with h | h
        · by_cases e : 60 < s.2
          · rw [if_pos e]
          · rw [if_neg e, if_pos h]
        · rw [h, if_pos (by rw [nI60, n_lt (by omega) (by omega)]; omega)]
      · intro r m4 ⟨r1, i, r2⟩
        exact kept_back h1.1.lv k1 k2 (f12.trans (r2.fr (by omega) h1.1.nw.2.1)) (fun m5 h5 => ⟨r1, Dto_S h5⟩)
  · exact bad
/-! judge -/
theorem e1_take (s sz i : Nat) (m : MM) (h : m.1 1 s 1 = nI sz) (hs : sz ≤ 40) (hk : inB (m.1 1 s 0) 5 = true) (hi : i < sz) : fX1_take s (nI i) m = some (m.2 20 s i, m) := by
  rw [fX1_take_eq]; unfold fX1_take_b
  simp only [e1_isRow, hk, e1_hasPlace s sz (nI i) m h hs, inB_t hi (show sz ≤ 2147483648 by omega), Option.bind_some, bI_0, reduceCtorEq, if_false, inB_t (show i < 40 by omega) (by omega), n_cl (show i < 2147483648 by omega), cond_true]
theorem lg_0 (x y : Int64) : (lg_cmp x y = 0) = (x = y) := by
  unfold lg_cmp
  apply propext
  by_cases h : x > y
  · rw [if_pos h]
    refine ⟨fun e => absurd e (by decide), fun e => ?_⟩
    subst e
    have := Int64.lt_iff_toInt_lt.1 h
    omega
  · rw [if_neg h]
    by_cases q : x = y
    · rw [if_pos q]; exact ⟨fun _ => q, fun _ => rfl⟩
    · rw [if_neg q]; exact ⟨fun e => absurd e (by decide), fun e => absurd e q⟩
theorem e7_toldAt (s i : Nat) (m : MM) (hs : s < 8) (hi : i < 40) : fX7_toldAt 0 (nI s) (nI i) m = some (m.2 21 0 (40 * s + i), m) := by
  rw [fX7_toldAt_eq]; unfold fX7_toldAt_b
  rw [i40, inB_t (show 40 * s + i < 320 by omega) (by omega), n_cl (by omega)]; rfl
theorem op_judge {v : Nat → Int32} {nb nw nc : Nat} {m : MM} (h : Rlt v nb nw nc m) (x y z : Int32) : Eq2 (fX6_judge 0 x y z) (fX7_judge 0 x y z) m := by
  have w6 : ∀ m, fX6_within y 0 40 m = some (inB y 41, m) := fun m => e6_within' y 40 m (by omega)
  have w7 : ∀ m, fX7_within y 0 40 m = some (inB y 41, m) := fun m => e7_within' y 40 m (by omega)
  have hnb := h.1.nb.2.1
  cases hg : (inB x 8) && (inB y 41) && (inB z nb)
  · refine Eq2.bad h ?_ ?_
    · rw [fX6_judge_eq]; unfold fX6_judge_b
      cases g1 : inB x 8 <;> cases g2 : inB y 41 <;> cases g3 : inB z nb <;> first | (simp only [e6_shelfAt, e5_bottleAt h.1, w6, g1, g2, g3, Option.bind_some, bind_eta, bI_0, reduceCtorEq, if_true, if_false, ite_self]; done) | (rw [g1, g2, g3] at hg; cases hg)
    · intro m1 h1
      rw [fX7_judge_eq]; unfold fX7_judge_b
      cases g1 : inB x 8 <;> cases g2 : inB y 41 <;> cases g3 : inB z nb <;> first | (simp only [e7_isShelf, e7_isBottle h1, w7, g1, g2, g3, Option.bind_some, bind_eta, bI_0, reduceCtorEq, not_true, if_true, if_false]; done) | (rw [g1, g2, g3] at hg; cases hg)
  · simp only [Bool.and_eq_true] at hg
    obtain ⟨⟨g1, g2⟩, g3⟩ := hg
    obtain ⟨hs, e1⟩ := inB_ex g1
    obtain ⟨hn, e2⟩ := inB_ex g2
    obtain ⟨hb, e3⟩ := inB_ex g3
    generalize x.toNatClampNeg = s at hs e1
    generalize y.toNatClampNeg = n at hn e2
    generalize z.toNatClampNeg = b at hb e3
    subst e1 e2 e3
    have cs : (nI s).toNatClampNeg = s := n_cl (by omega)
    have cb : (nI b).toNatClampNeg = b := n_cl (by omega)
    obtain ⟨sz, z1, z2, z3⟩ := h.1.2.2.2.1.sz hs
    have hS := h.1.2.2.2.1 s hs
    rcases h.1.2.2.2.1.kind hs hnb with hk | hk | ⟨b', hb', hk⟩
    · by_cases hle : n ≤ sz
      · refine Eq2.ask' h (fst1 (fun i => decide (¬ (simV v b (i + 1)).1.toInt64 = m.2 20 s i)) n 0) ?_ ?_
        · rw [fX6_judge_eq]; unfold fX6_judge_b
          simp only [e6_shelfAt, e5_bottleAt h.1, w6, g1, g2, g3, cs, cb, e1_isRow, hk, Option.bind_some, bind_eta, bI_0, reduceCtorEq, not_false_eq_true, if_true, if_false]
          rw [z2, if_pos (by rw [n_le (by omega) (by omega)]; exact hle), h.1.whose hb]
          simp only [Option.bind_some]
          refine (q_follow h.1 (N := n) hb (by omega) 0).bind ?_
          intro _ m1 ⟨t1, t2⟩
          have tC := Dfo_toC t2
          have q0 : m1.1 1 s 0 = m.1 1 s 0 := tC.1 1 s 0 (by unfold ScrC; omega)
          have q1 : m1.1 1 s 1 = nI sz := (tC.1 1 s 1 (by unfold ScrC; omega)).trans z2
          refine Ok.srch (f := fX6_judge_b109 0 (nI n) s) 0 n (fun i => decide (¬ (simV v b (i + 1)).1.toInt64 = m.2 20 s i)) (fun d m' => m' = m1) (fun m' => FrP ScrC m m') ?_ ?_ (by omega) (by omega) (fun _ => rfl) (fun _ _ => rfl) m1 rfl
          · intro d m' _ hd e
            subst e
            unfold fX6_judge_b109
            rw [if_neg (by rw [n_le (by omega) (by omega)]; omega), e1_take s sz d m' q1 z1 (by rw [q0]; exact hk) (by omega), tC.2]
            simp only [Option.bind_some]
            rw [← n_s, e_cellAt 0 (d + 1) m' (by omega), (t1 (d + 1) (by omega)).1]
            simp only [Option.bind_some, lg_0]
            by_cases q : m.2 20 s d = (simV v b (d + 1)).1.toInt64
            · rw [if_pos q]
              exact Ok.ret (Or.inr ⟨decide_eq_false (fun h => h q.symm), rfl, rfl⟩)
            · rw [if_neg q]
              exact Ok.ret (Or.inl ⟨decide_eq_true (fun h => q h.symm), rfl, tC⟩)
          · intro m' e
            subst e
            refine ⟨?_, tC⟩
            unfold fX6_judge_b109
            rw [if_pos (by rw [n_le (by omega) (by omega)]; omega)]
        · intro m1 h1 hf
          obtain ⟨s1, s2, s3⟩ := h1.1.2.2.2.1.at hs hf
          rw [fX7_judge_eq]; unfold fX7_judge_b
          simp only [e7_isShelf, e7_isBottle h1.1, w7, g1, g2, g3, Option.bind_some, bind_eta, bI_0, reduceCtorEq, not_false_eq_true, if_true, if_false]
          have nt : fX7_noTold 0 (nI s) (nI n) m1 = some (0, m1) := by
            rw [fX7_noTold_eq]; unfold fX7_noTold_b
            simp only [e7_isRow m1 hs, s1, hk, g1, cs, s2, z2, Option.bind_some, bI_0, reduceCtorEq, not_false_eq_true, if_true, cond_true]
            rw [if_pos (by rw [n_le (by omega) (by omega)]; exact hle)]
          rw [nt]
          simp only [Option.bind_some]
          rw [if_pos (by decide)]
          refine (keep_ok 2 m1).bind ?_
          intro _ m2 ⟨k1, k2⟩
          have hL := Lv_to h1.1.lv k2
          have hw := h1.1.1.m hnb
          have hx : ∀ i, i < nb → v (57 + i) = -1 ∨ inB (v (57 + i)) nw = true := fun i hi => Or.inr (h1.1.1.b hi).2.1
          refine (Ok.find (f := fX7_judge_b67 0 (nI s) (nI n) (nI b)) 0 n (fun i => decide (¬ (simV v b (i + 1)).1.toInt64 = m.2 20 s i)) (fun i m' => SimM nb nw nc m2 i m') (by omega) ?_ ?_ (by omega) m2 (SimM.begin (hL.mv (by omega) hw))).bind ?_
          · intro i m' _ hi hS
            unfold fX7_judge_b67
            dsimp only
            have e7 : m'.1 7 0 4 = nI nb := by
              rw [hS.2.2.2.1.1 7 0 4 (by unfold Dps; omega)]; exact hL.nb h1.1.1
            rw [if_neg (by rw [n_le (by omega) (by omega)]; omega), if_neg (by decide), e7]
            refine (SimM.step (by omega) (by omega) hS).bind ?_
            intro _ m3 ⟨q1, _, q3⟩
            have hs' := q1.B hL hw (by omega) hb (hx b hb)
            dsimp only
            rw [inB_t (show b < 9 by omega) (by omega), cb, e7_toldAt s i m3 hs (by omega), hs'.1]
            simp only [cond_true, Option.bind_some, lg_0]
            have e2 : m3.2 21 0 (40 * s + i) = m.2 20 s i := by
              rw [q1.2.2.2.1.2, k2.2]; exact s3 i (by omega)
            rw [e2]
            by_cases q : (simV v b (i + 1)).1.toInt64 = m.2 20 s i
            · rw [if_pos q, if_neg (fun h => (of_decide_eq_true h) q)]
              exact Ok.ret ⟨by rw [n_s], q1⟩
            · rw [if_neg q, if_pos (decide_eq_true q)]
              exact Ok.ret ⟨by rw [n_s], q1⟩
          · intro t m' h
            unfold fX7_judge_b67
            rcases h with h | h
            · by_cases e : nI n ≤ t.2
              · rw [if_pos e]
              · rw [if_neg e, if_pos h]
            · rw [h, if_pos (by rw [n_le (by omega) (by omega)]; omega)]
          · intro r m4 ⟨r1, i, r2⟩
            exact kept_back h1.1.lv k1 k2 (r2.fr (by omega) h1.1.nw.2.1) (fun m5 h5 => ⟨r1, Dto_S h5⟩)
      · refine Eq2.bad' h ?_ ?_
        · rw [fX6_judge_eq]; unfold fX6_judge_b
          simp only [e6_shelfAt, e5_bottleAt h.1, w6, g1, g2, g3, cs, cb, e1_isRow, hk, Option.bind_some, bind_eta, bI_0, reduceCtorEq, not_false_eq_true, if_true, if_false]
          rw [z2, if_neg (by rw [n_le (by omega) (by omega)]; exact hle)]
        · intro m1 h1 f
          obtain ⟨s1, s2⟩ := h1.2.2.2.1.at47 hs f
          rw [fX7_judge_eq]; unfold fX7_judge_b
          simp only [e7_isShelf, e7_isBottle h1, w7, g1, g2, g3, Option.bind_some, bind_eta, bI_0, reduceCtorEq, not_false_eq_true, if_true, if_false]
          have nt : fX7_noTold 0 (nI s) (nI n) m1 = some (-1002, m1) := by
            rw [fX7_noTold_eq]; unfold fX7_noTold_b
            simp only [e7_isRow m1 hs, s1, hk, g1, cs, s2, z2, Option.bind_some, bI_0, reduceCtorEq, not_false_eq_true, if_true, cond_true]
            rw [if_neg (by rw [n_le (by omega) (by omega)]; exact hle)]
          rw [nt]
          simp only [Option.bind_some]
          rw [if_neg (by decide)]
    · refine Eq2.nothing' h ?_ ?_
      · rw [fX6_judge_eq]; unfold fX6_judge_b
        simp only [e6_shelfAt, e5_bottleAt h.1, w6, g1, g2, g3, cs, cb, e1_isRow, hk, inB_m1, e1_why_m1 hk, Option.bind_some, bind_eta, bI_0, reduceCtorEq, not_true, if_true, if_false]
      · intro m1 h1 f
        obtain ⟨s1, s2⟩ := h1.2.2.2.1.at47 hs f
        rw [fX7_judge_eq]; unfold fX7_judge_b
        simp only [e7_isShelf, e7_isBottle h1, w7, g1, g2, g3, Option.bind_some, bind_eta, bI_0, reduceCtorEq, not_false_eq_true, if_true, if_false]
        have nt : fX7_noTold 0 (nI s) (nI n) m1 = some (-1004, m1) := by
          rw [fX7_noTold_eq]; unfold fX7_noTold_b
          simp only [e7_isRow m1 hs, s1, hk, inB_m1, e7_noRow_m1 hs (s1.trans hk), Option.bind_some, bI_0, not_true, if_false]
        rw [nt]
        simp only [Option.bind_some]
        rw [if_neg (by decide)]
    · refine Eq2.other' h ?_ ?_
      · rw [fX6_judge_eq]; unfold fX6_judge_b
        simp only [e6_shelfAt, e5_bottleAt h.1, w6, g1, g2, g3, cs, cb, e1_isRow, hk, inB_10 b' (by omega), e1_why_b (by omega) hk, Option.bind_some, bind_eta, bI_0, reduceCtorEq, not_true, if_true, if_false]
      · intro m1 h1 f
        obtain ⟨s1, s2⟩ := h1.2.2.2.1.at47 hs f
        rw [fX7_judge_eq]; unfold fX7_judge_b
        simp only [e7_isShelf, e7_isBottle h1, w7, g1, g2, g3, Option.bind_some, bind_eta, bI_0, reduceCtorEq, not_false_eq_true, if_true, if_false]
        have nt : fX7_noTold 0 (nI s) (nI n) m1 = some (-1003, m1) := by
          rw [fX7_noTold_eq]; unfold fX7_noTold_b
          simp only [e7_isRow m1 hs, s1, hk, inB_10 b' (by omega), e7_noRow_b hs (by omega) (s1.trans hk), Option.bind_some, bI_0, not_true, if_false]
        rw [nt]
        simp only [Option.bind_some]
        rw [if_neg (by decide)]
