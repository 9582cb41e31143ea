/-! PURE: odds, the answer -/
def odP (nb nw : Nat) (v : Nat → Int32) (n b t q : Nat) : Bool := decide (od nb nw v q n (66 + b) = nI t)
def odR (nb nw : Nat) (v : Nat → Int32) (n b t : Nat) : Int32 := nI (cnt (odP nb nw v n b t) (5 ^ n)) * 1000000 / nI (5 ^ n)
theorem p5 {n : Nat} (h : n < 5) : 0 < 5 ^ n ∧ 5 ^ n ≤ 625 := by
  rcases (by omega : n = 0 ∨ n = 1 ∨ n = 2 ∨ n = 3 ∨ n = 4) with e | e | e | e | e <;> subst e <;> decide
theorem p5s (n : Nat) : nI (5 ^ n) * 5 = nI (5 ^ (n + 1)) := by
  rw [show (5 : Int32) = nI 5 from rfl, ← n_mul]; rfl
theorem Dod_C {m m' : MM} (f : FrP Dod m m') : FrP ScrC m m' := f.mono (by unfold Dod ScrC; omega)
theorem odds6 {v : Nat → Int32} {nb nw nc b n t : Nat} {m : MM} (h : Rlt v nb nw nc m) (hb : b < nb) (hn : n < 5) : Ok (fX6_odds_j50 0 (nI n) (1 + b) (nI t) m) (fun r m' => r = odR nb nw v n b t ∧ FrP ScrC m m') := by
  obtain ⟨p0, p1⟩ := p5 hn
  have hF := h.1.1
  have h8 := hF.2.1
  have h6 := hF.2.2.2.1
  unfold fX6_odds_j50
  refine Ok.bind (Ok.fold (f := fX6_odds_b58 0 (nI n) (1 + b) (nI t)) n (fun i => (nI (5 ^ i), nI i)) (nI (5 ^ n)) (fun _ m' => m' = m) ?_ ?_ (by omega) m rfl) ?_
  · intro i m' hi e
    unfold fX6_odds_b58
    dsimp only
    rw [if_neg (by rw [n_le (by omega) (by omega)]; omega), p5s]
    exact Ok.ret ⟨by rw [n_s], e⟩
  · intro m' _
    unfold fX6_odds_b58
    rw [if_pos (by rw [n_le (by omega) (by omega)]; omega)]
  intro r m' ⟨er, em⟩
  subst er em
  dsimp only
  refine (trial6 h.1).bind ?_
  intro _ m1 ⟨w1, f1⟩
  have hR1 := Rel_frC h f1
  have e93 : v 93 = m1.1 5 2 0 := w1.1.symm
  have e95 : v 95 = m1.1 5 2 2 := w1.2.2.1.symm
  have efl : flw m1 2 = vfl v := congrArg Prod.fst w1.E
  refine Ok.bind (Ok.fold (f := fX6_odds_b93 0 (nI n) (1 + b) (nI t) (nI (5 ^ n))) (5 ^ n) (fun i => (nI (cnt (odP nb nw v n b t) i), nI i)) (nI (cnt (odP nb nw v n b t) (5 ^ n))) (fun _ m' => FrP Dod m1 m') ?_ ?_ (by omega) m1 FrP.rfl) ?_
  · intro q m' hq f
    have hR := Rel_frC hR1 (Dod_C f)
    unfold fX6_odds_b93
    dsimp only
    rw [if_neg (by rw [n_le (by omega) (by omega)]; omega)]
    refine (ends6 (q := q) (m0 := m1) hF hb (hR.1.bf hb) (fun k hk => hR.1.wf hk) ?_ ?_ ?_ ?_ (by omega) (by omega) f).bind ?_
    · exact hR.1.2.2.1.2.2.2.2.2.2.1.trans hF.2.2.1
    · exact e93.trans (f.1 5 2 0 (by unfold Dod; omega)).symm
    · exact e95.trans (f.1 5 2 2 (by unfold Dod; omega)).symm
    · rw [← efl]; funext c; unfold flw; rw [f.1 40 2 _ (by unfold Dod; omega)]
    · intro r m2 ⟨r1, r2⟩
      dsimp only
      rw [r1]
      by_cases c : od nb nw v q n (66 + b) = nI t
      · rw [if_neg (fun h => h c)]
        refine Ok.ret ⟨?_, r2⟩
        show _ = Sum.inl (nI (cnt (odP nb nw v n b t) (q + 1)), nI (q + 1))
        rw [n_s, cnt_t (p := odP nb nw v n b t) (decide_eq_true c), n_s]
      · rw [if_pos c]
        refine Ok.ret ⟨?_, r2⟩
        show _ = Sum.inl (nI (cnt (odP nb nw v n b t) (q + 1)), nI (q + 1))
        rw [n_s, cnt_f (p := odP nb nw v n b t) (by unfold odP; rw [decide_eq_false c]; decide)]
  · intro m' _
    unfold fX6_odds_b93
    rw [if_pos (by rw [n_le (by omega) (by omega)]; omega)]
  intro r m2 ⟨er, f2⟩
  subst er
  dsimp only
  rw [if_pos (by rw [show (0 : Int32) = nI 0 from rfl, n_lt (by omega) (by omega)]; omega), if_neg (by rw [show (0 : Int32) = nI 0 from rfl, n_inj (by omega) (by omega)]; omega)]
  exact Ok.ret ⟨rfl, f1.trans (Dod_C f2)⟩
theorem odds7 {v : Nat → Int32} {nb nw nc b n t w : Nat} {m : MM} (h : Rel0 v nb nw nc m) (hb : b < nb) (hn : n < 5) (ht : t = 1 + w) : Ok ((loopF 1000 (fX7_odds_b40 0 (nI b) (nI n) (nI w)) (1, 0) m).bind fun o6 => (loopF 1000 (fX7_odds_b64 0 (nI b) (nI n) (nI w) o6.1) (0, 0) o6.2).bind fun o12 => if o6.1 = 0 then none else some (((1000000 * o12.1) / o6.1), o12.2)) (fun r m' => r = odR nb nw v n b t ∧ FrP (Dto 2) m m') := by
  obtain ⟨p0, p1⟩ := p5 hn
  have hF := h.1
  have h8 := hF.2.1
  have h6 := hF.2.2.2.1
  refine Ok.bind (Ok.fold (f := fX7_odds_b40 0 (nI b) (nI n) (nI w)) n (fun i => (nI (5 ^ i), nI i)) (nI (5 ^ n)) (fun _ m' => m' = m) ?_ ?_ (by omega) m rfl) ?_
  · intro i m' hi e
    unfold fX7_odds_b40
    dsimp only
    rw [if_neg (by rw [n_le (by omega) (by omega)]; omega), p5s]
    exact Ok.ret ⟨by rw [n_s], e⟩
  · intro m' _
    unfold fX7_odds_b40
    rw [if_pos (by rw [n_le (by omega) (by omega)]; omega)]
  intro r m' ⟨er, em⟩
  subst er em
  dsimp only
  have i0 : inB 0 2 = true := by decide
  have c0 : (0 : Int32).toNatClampNeg = 0 := rfl
  refine Ok.bind (Ok.fold (f := fX7_odds_b64 0 (nI b) (nI n) (nI w) (nI (5 ^ n))) (5 ^ n) (fun i => (nI (cnt (odP nb nw v n b t) i), nI i)) (nI (cnt (odP nb nw v n b t) (5 ^ n))) (fun _ m2 => FrP (Dto 2) m' m2) ?_ ?_ (by omega) m' FrP.rfl) ?_
  · intro q m1 hq f
    unfold fX7_odds_b64
    dsimp only
    rw [if_neg (by rw [n_le (by omega) (by omega)]; omega)]
    have hL := Lv_to h.2.1 f
    refine (keep_ok 2 m1).bind ?_
    intro _ m2 ⟨k1, k2⟩
    dsimp only
    refine Ok.bind (Ok.fold (f := fX7_odds_b86 0 (nI b) (nI n) (nI w) (nI (5 ^ n)) (nI (cnt (odP nb nw v n b t) q)) (nI q)) n (fun i => (nI (qd q i), nI i)) () (fun i m3 => Lv (od nb nw v q i) m3 ∧ FrP Dlv m2 m3) ?_ ?_ (by omega) m2 ⟨Lv_to hL k2, FrP.rfl⟩) ?_
    · intro i m3 hi ⟨l, g⟩
      have hql := qd_le q i
      unfold fX7_odds_b86
      dsimp only
      rw [if_neg (by rw [n_le (by omega) (by omega)]; omega), i0, cond_true, c0, show (5 : Int32) = nI 5 from rfl, n_mod (by omega) (by omega), n_divs (by omega) (by omega)]
      have w' := Lv_one l (c := 51) (j := 0) (k := 94) (by unfold loc; omega) (nI (qd q i % 5))
      have hF' : WF (upv (od nb nw v q i) 94 (nI (qd q i % 5))) nb nw nc := WF_free (j := 94) (WF_od hF q i) _ (by omega)
      have f2 : FrP Dlv m2 (upI m3.1 51 0 0 (nI (qd q i % 5)), m3.2) := FrP.up (m' := m3) g (by unfold Dlv; omega) _
      have e4 : (upI m3.1 51 0 0 (nI (qd q i % 5))) 7 0 4 = nI nb := w'.2.2.2.2.2.2.2.1.symm.trans hF'.1
      rw [e4]
      refine (day7 w' hF').bind ?_
      intro r m4 ⟨_, r2, r3⟩
      exact Ok.ret ⟨by rw [n_s]; rfl, r2, f2.trans (Dps_lv h8 h6 r3)⟩
    · intro m3 _
      unfold fX7_odds_b86
      rw [if_pos (by rw [n_le (by omega) (by omega)]; omega)]
    intro _ m3 ⟨_, l, g⟩
    dsimp only
    rw [inB_t (show b < 9 by omega) (by omega), cond_true, n_cl (by omega), ← (l.2.1 b (by omega)).2.2.2.2]
    have e1 : (1 : Int32) + nI w = nI t := by rw [ht, show (1 : Int32) = nI 1 from rfl, ← n_add]
    rw [e1]
    by_cases c : od nb nw v q n (66 + b) = nI t
    · rw [if_neg (fun h => h c)]
      refine kept_back hL k1 k2 g (fun m5 h5 => ⟨?_, f.trans h5⟩)
      show _ = Sum.inl (nI (cnt (odP nb nw v n b t) (q + 1)), nI (q + 1))
      rw [n_s, cnt_t (p := odP nb nw v n b t) (decide_eq_true c), n_s]
    · rw [if_pos c]
      refine kept_back hL k1 k2 g (fun m5 h5 => ⟨?_, f.trans h5⟩)
      show _ = Sum.inl (nI (cnt (odP nb nw v n b t) (q + 1)), nI (q + 1))
      rw [n_s, cnt_f (p := odP nb nw v n b t) (by unfold odP; rw [decide_eq_false c]; decide)]
  · intro m1 _
    unfold fX7_odds_b64
    rw [if_pos (by rw [n_le (by omega) (by omega)]; omega)]
  intro r m2 ⟨er, f2⟩
  subst er
  dsimp only
  rw [if_neg (by rw [show (0 : Int32) = nI 0 from rfl, n_inj (by omega) (by omega)]; omega), Int32.mul_comm]
  exact Ok.ret ⟨rfl, f2⟩
theorem op_odds {v : Nat → Int32} {nb nw nc : Nat} {m : MM} (h : Rlt v nb nw nc m) (x : Int32) (y : Int32) (z : Int32) : Eq2 (fX6_odds 0 x y z) (fX7_odds 0 x y z) m := by
  have w6_y : ∀ m, fX6_within y 0 4 m = some (inB y 5, m) := fun m => e6_within' y 4 m (by omega)
  have w7_y : ∀ m, fX7_within y 0 4 m = some (inB y 5, m) := fun m => e7_within' y 4 m (by omega)
  have w6_z : ∀ m, fX6_within z 0 1 m = some (inB z 2, m) := fun m => e6_within' z 1 m (by omega)
  have w7_z : ∀ m, fX7_within z 0 1 m = some (inB z 2, m) := fun m => e7_within' z 1 m (by omega)
  cases hg : ((inB x nb) && (inB y 5) && (inB z 2))
  · refine Eq2.bad h ?_ ?_
    · rw [fX6_odds_eq]; unfold fX6_odds_b
      cases g_x : inB x nb <;> cases g_y : inB y 5 <;> cases g_z : inB z 2 <;> first | (simp only [e5_bottleAt h.1, w6_y, w6_z, g_x, g_y, g_z, Option.bind_some, bind_eta, bI_0, bI_1, reduceCtorEq, not_true, not_false_eq_true, if_true, if_false]; done) | (rw [g_x, g_y, g_z] at hg; cases hg)
    · intro m1 h1
      rw [fX7_odds_eq]; unfold fX7_odds_b
      cases g_x : inB x nb <;> cases g_y : inB y 5 <;> cases g_z : inB z 2 <;> first | (simp only [e7_isBottle h1, w7_y, w7_z, g_x, g_y, g_z, Option.bind_some, bind_eta, bI_0, bI_1, reduceCtorEq, not_true, not_false_eq_true, if_true, if_false, Bool.and_true, Bool.and_false, Bool.true_and, Bool.false_and]; done) | (rw [g_x, g_y, g_z] at hg; cases hg)
  · simp only [Bool.and_eq_true] at hg
    obtain ⟨⟨g_x, g_y⟩, g_z⟩ := hg
    obtain ⟨hl_b, he_b⟩ := inB_ex g_x
    have hu_b := n_clb x
    have hc_b : ∀ k, k = x.toNatClampNeg → (nI k).toNatClampNeg = k := fun k hk => n_cl (by omega)
    replace hc_b := hc_b _ rfl
    generalize x.toNatClampNeg = b at hl_b he_b hc_b hu_b
    subst he_b
    obtain ⟨hl_n, he_n⟩ := inB_ex g_y
    have hu_n := n_clb y
    have hc_n : ∀ k, k = y.toNatClampNeg → (nI k).toNatClampNeg = k := fun k hk => n_cl (by omega)
    replace hc_n := hc_n _ rfl
    generalize y.toNatClampNeg = n at hl_n he_n hc_n hu_n
    subst he_n
    obtain ⟨hl_w, he_w⟩ := inB_ex g_z
    have hu_w := n_clb z
    have hc_w : ∀ k, k = z.toNatClampNeg → (nI k).toNatClampNeg = k := fun k hk => n_cl (by omega)
    replace hc_w := hc_w _ rfl
    generalize z.toNatClampNeg = w at hl_w he_w hc_w hu_w
    subst he_w
    refine Eq2.ask h (odR nb nw v n b (1 + w)) ?_ ?_
    · rw [fX6_odds_eq]; unfold fX6_odds_b
      simp only [e5_bottleAt h.1, w6_y, w6_z, g_x, g_y, g_z, hc_b, hc_n, hc_w, Option.bind_some, bind_eta, bI_0, bI_1, reduceCtorEq, not_true, not_false_eq_true, if_true, if_false]
      by_cases q : nI w = 0
      · rw [if_neg (fun h => h q)]
        have e0 : w = 0 := by
          rw [show (0 : Int32) = nI 0 from rfl, n_inj (by omega) (by omega)] at q; exact q
        subst e0
        exact odds6 (t := 1) h hl_b hl_n
      · rw [if_pos q]
        have e0 : w = 1 := by
          rw [show (0 : Int32) = nI 0 from rfl, n_inj (by omega) (by omega)] at q; omega
        subst e0
        exact odds6 (t := 2) h hl_b hl_n
    · intro m1 h1
      rw [fX7_odds_eq]; unfold fX7_odds_b
      simp only [e7_isBottle h1.1, w7_y, w7_z, g_x, g_y, g_z, hc_b, hc_n, hc_w, Option.bind_some, bind_eta, bI_0, bI_1, reduceCtorEq, not_true, not_false_eq_true, if_true, if_false, Bool.and_true]
      exact (odds7 h1.1 hl_b hl_n rfl).mono (fun r m' ⟨a, b⟩ => ⟨a, Dto_S b⟩)
