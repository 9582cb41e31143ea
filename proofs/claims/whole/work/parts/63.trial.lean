/-! PURE: asking in a world thought of -/
def stp6 (l r : Int32) (s : Int32 × Int32) : Int32 × Int32 := if r = -1 then s else if s.2 = -1 then (l, r) else if s.2 ≤ r then s else (l, r)
def stp7 (l r : Int32) (s : Int32 × Int32) : Int32 × Int32 := if r = -1 then s else if r < s.2 then (l, r) else s
def stpM (l r : Int32) (s : Int32 × Int32) : Int32 × Int32 := if r ≤ s.2 then s else (l, r)
theorem bst_6 {lab t : Nat → Int32} (n : Nat) : bst lab t (n + 1) = stp6 (lab n) (t n) (bst lab t n) := rfl
theorem bst_7 {lab t : Nat → Int32} (n : Nat) (h : ∀ i, i < n + 1 → t i = -1 ∨ inB (t i) 61 = true) : bst7 lab t (n + 1) = stp7 (lab n) (t n) (bst7 lab t n) := bst7_step n h
theorem code6 {τ : Type} (l r s1 s2 j : Int32) (m : MM) : (if r = -1 then some ((Sum.inl (s1, s2, j) : (Int32 × Int32 × Int32) ⊕ τ), m) else if s2 = -1 then some (Sum.inl (l, r, j), m) else if s2 ≤ r then some (Sum.inl (s1, s2, j), m) else some (Sum.inl (l, r, j), m)) = some (Sum.inl ((stp6 l r (s1, s2)).1, (stp6 l r (s1, s2)).2, j), m) := by
  unfold stp6
  dsimp only
  by_cases q : r = -1
  · rw [if_pos q, if_pos q]
  · rw [if_neg q, if_neg q]
    by_cases q2 : s2 = -1
    · rw [if_pos q2, if_pos q2]
    · rw [if_neg q2, if_neg q2]
      by_cases q3 : s2 ≤ r
      · rw [if_pos q3, if_pos q3]
      · rw [if_neg q3, if_neg q3]
theorem code7 {τ : Type} (l r s1 s2 j : Int32) (m : MM) : (if r = -1 then some ((Sum.inl (s1, s2, j) : (Int32 × Int32 × Int32) ⊕ τ), m) else if r < s2 then some (Sum.inl (l, r, j), m) else some (Sum.inl (s1, s2, j), m)) = some (Sum.inl ((stp7 l r (s1, s2)).1, (stp7 l r (s1, s2)).2, j), m) := by
  unfold stp7
  dsimp only
  by_cases q : r = -1
  · rw [if_pos q, if_pos q]
  · rw [if_neg q, if_neg q]
    by_cases q3 : r < s2
    · rw [if_pos q3, if_pos q3]
    · rw [if_neg q3, if_neg q3]
theorem codeM {τ : Type} (l r s1 s2 j : Int32) (m : MM) : (if r ≤ s2 then some ((Sum.inl (s1, s2, j) : (Int32 × Int32 × Int32) ⊕ τ), m) else some (Sum.inl (l, r, j), m)) = some (Sum.inl ((stpM l r (s1, s2)).1, (stpM l r (s1, s2)).2, j), m) := by
  unfold stpM
  dsimp only
  by_cases q3 : r ≤ s2
  · rw [if_pos q3, if_pos q3]
  · rw [if_neg q3, if_neg q3]
theorem codeM' {τ : Type} (l r s1 s2 j : Int32) (m : MM) : (if s2 < r then some ((Sum.inl (l, r, j) : (Int32 × Int32 × Int32) ⊕ τ), m) else some (Sum.inl (s1, s2, j), m)) = some (Sum.inl ((stpM l r (s1, s2)).1, (stpM l r (s1, s2)).2, j), m) := by
  unfold stpM
  dsimp only
  by_cases q3 : s2 < r
  · rw [if_pos q3, if_neg (by rw [le_lt]; exact fun h => h q3)]
  · rw [if_neg q3, if_pos (by rw [le_lt]; exact q3)]
def mxs (lab t : Nat → Int32) (s : Int32 × Int32) : Nat → Int32 × Int32
  | 0 => s
  | n + 1 => stpM (lab n) (t n) (mxs lab t s n)
theorem Dbe_C {m m' : MM} (h : FrP (Dbe 2) m m') : FrP ScrC m m' := h.mono (by unfold Dbe ScrC; omega)
/-- the trial's world is that of now, some of it changed -/
theorem trial6 {v : Nat → Int32} {nb nw nc : Nat} {m : MM} (h : Rel0 v nb nw nc m) : Ok (fX5_become 2 0 m) (fun _ m' => RelW m'.1 2 nb nw v ∧ FrP ScrC m m') :=
  (become_v (w := 2) (by omega) h.2.2.1 h.1.1 h.nb.2.1 h.1.2.2.1 h.nw.2.1).mono (fun _ m' ⟨a, b⟩ => ⟨a, Dbe_C b⟩)
theorem upv_upv (v : Nat → Int32) (k : Nat) (x y : Int32) : upv (upv v k x) k y = upv v k y := by
  funext j; unfold upv; by_cases q : j = k
  · rw [if_pos q, if_pos q]
  · rw [if_neg q, if_neg q, if_neg q]
theorem upv_id (v : Nat → Int32) (k : Nat) : upv v k (v k) = v := by
  funext j; unfold upv; by_cases q : j = k
  · rw [if_pos q, q]
  · rw [if_neg q]
/-- the days of a bottle of now in the trial's world -/
theorem tils2 {v v' : Nat → Int32} {nb nw nc b : Nat} {m : MM} (h : Rel0 v nb nw nc m) (hW : RelW m.1 2 nb nw v') (hF : WF v' nb nw nc) (hb : b < nb) (he : ∀ k, 30 ≤ k → k < 75 → v' k = v k) : Ok (fX5_daysTillFound 2 (1 + b) m) (fun r m' => r = til v' b 60 ∧ Fr (Dfo 2 0) m m') := by
  have hnb := h.nb.2.1
  obtain ⟨b1, b2, b3, b4, b5⟩ := h.bf hb
  refine tils_v 0 hW hF.2.2.1 hF.2.2.2.1 (fun k hk => hF.p100 hk) ⟨?_, ?_, ?_, ?_, ?_⟩ (hF.b hb).2.1
  · rw [he _ (by omega) (by omega)]; exact b1
  · rw [he _ (by omega) (by omega)]; exact b2
  · rw [he _ (by omega) (by omega)]; exact b3
  · rw [he _ (by omega) (by omega)]; exact b4
  · rw [he _ (by omega) (by omega)]; exact b5
theorem Dfo2_W {v : Nat → Int32} {nb nw : Nat} {m m' : MM} (h : RelW m.1 2 nb nw v) (hb : nb ≤ 8) (hw : nw ≤ 6) (f : Fr (Dfo 2 0) m m') : RelW m'.1 2 nb nw v := RelW_Fr h hb hw f
theorem Rel_fr5 {m : MM} (x : Int32) : FrP ScrC m (upI m.1 5 2 1 x, m.2) := FrP.up (m' := m) FrP.rfl (by unfold ScrC; omega) _
theorem op_windFor {v : Nat → Int32} {nb nw nc : Nat} {m : MM} (h : Rlt v nb nw nc m) (x : Int32) : Eq2 (fX6_windFor 0 x) (fX7_windFor 0 x) m := by
  cases hg : (inB x nb)
  · refine Eq2.bad h ?_ ?_
    · rw [fX6_windFor_eq]; unfold fX6_windFor_b
      cases g_x : inB x nb <;> first | (simp only [e5_bottleAt h.1, g_x, Option.bind_some, bind_eta, bI_0, bI_1, reduceCtorEq, not_true, not_false_eq_true, if_true, if_false]; done) | (rw [g_x] at hg; cases hg)
    · intro m1 h1
      rw [fX7_windFor_eq]; unfold fX7_windFor_b
      cases g_x : inB x nb <;> first | (simp only [e7_isBottle h1, g_x, Option.bind_some, bind_eta, bI_0, bI_1, reduceCtorEq, not_true, not_false_eq_true, if_true, if_false, Bool.and_true, Bool.and_false, Bool.true_and, Bool.false_and]; done) | (rw [g_x] at hg; cases hg)
  · have g_x := hg
    obtain ⟨hl_b, he_b⟩ := inB_ex g_x
    have hu_b := n_clb x
    have hc_b : ∀ k, k = x.toNatClampNeg → (nI k).toNatClampNeg = k := fun k hk => n_cl (by omega)
    replace hc_b := hc_b _ rfl
    generalize x.toNatClampNeg = b at hl_b he_b hc_b hu_b
    subst he_b
    have hnb := h.1.nb.2.1
    have hnw := h.1.nw.2.1
    refine Eq2.ask h (bst nI (fun i => til (upv v 94 (nI i)) b 60) 5).1 ?_ ?_
    · rw [fX6_windFor_eq]; unfold fX6_windFor_b
      simp only [e5_bottleAt h.1, g_x, hc_b, Option.bind_some, bind_eta, bI_0, bI_1, reduceCtorEq, not_true, not_false_eq_true, if_true, if_false]
      refine (trial6 h.1).bind ?_
      intro _ m1 ⟨w1, f1⟩
      refine Ok.mono (Ok.fold (f := fX6_windFor_b40 0 (1 + b)) 5 (fun i => ((bst nI (fun i => til (upv v 94 (nI i)) b 60) i).1, (bst nI (fun i => til (upv v 94 (nI i)) b 60) i).2, nI i)) (bst nI (fun i => til (upv v 94 (nI i)) b 60) 5).1 (fun _ m' => (∃ y, RelW m'.1 2 nb nw (upv v 94 y)) ∧ FrP ScrC m m') ?_ ?_ (by omega) m1 ⟨⟨v 94, by rw [upv_id]; exact w1⟩, f1⟩) (fun r m' ⟨a, _, b⟩ => ⟨a, b⟩)
      · intro i m' hi ⟨⟨y, w⟩, f⟩
        unfold fX6_windFor_b40
        dsimp only
        rw [if_neg (by rw [show (5 : Int32) = nI 5 from rfl, n_le (by omega) (by omega)]; omega)]
        have w' : RelW (upI m'.1 5 2 1 (nI i), m'.2).1 2 nb nw (upv v 94 (nI i)) := by
          have w' := RelW_one w hnb hnw (c := 5) (i := 2) (k := 1) (j := 94) (by unfold loc6; omega) (nI i)
          rw [upv_upv] at w'; exact w'
        have f' := f.trans (Rel_fr5 (m := m') (nI i))
        generalize (upI m'.1 5 2 1 (nI i), m'.2) = m2 at w' f'
        refine (tils2 (Rel_frC h f').1 w' (WF_free (j := 94) h.1.1 _ (by omega)) hl_b (fun k h1 h2 => upv_nn (show k ≠ 94 by omega))).bind ?_
        intro r m3 ⟨r1, r2⟩
        dsimp only
        rw [r1, code6, bst_6]
        exact Ok.ret ⟨by rw [n_s], ⟨_, Dfo2_W w' hnb hnw r2⟩, f'.trans (Dfo_toC r2)⟩
      · intro m' _
        unfold fX6_windFor_b40
        rw [if_pos (show (5 : Int32) ≤ nI 5 by decide)]
    · intro m1 h1
      rw [fX7_windFor_eq]; unfold fX7_windFor_b
      simp only [e7_isBottle h1.1, g_x, hc_b, Option.bind_some, bind_eta, bI_0, bI_1, reduceCtorEq, not_true, not_false_eq_true, if_true, if_false, Bool.and_true]
      have i0 : inB 0 2 = true := by decide
      have c0 : (0 : Int32).toNatClampNeg = 0 := rfl
      have hin : ∀ n, ∀ i, i < n → til (upv v 94 (nI i)) b 60 = -1 ∨ inB (til (upv v 94 (nI i)) b 60) 61 = true := fun _ i _ => til_in _ b
      rw [i0, c0]
      simp only [cond_true]
      refine Ok.bind (Ok.fold (f := fX7_windFor_b32 0 (nI b) (m1.1 51 0 0)) 5 (fun i => ((bst7 nI (fun i => til (upv v 94 (nI i)) b 60) i).1, (bst7 nI (fun i => til (upv v 94 (nI i)) b 60) i).2, nI i)) (bst7 nI (fun i => til (upv v 94 (nI i)) b 60) 5).1 (fun _ m' => (∃ y, Lv (upv v 94 y) m') ∧ FrP (fun c i k => Dto 2 c i k ∨ (c = 51 ∧ i = 0 ∧ k = 0)) m1 m') ?_ ?_ (by omega) m1 ⟨⟨v 94, by rw [upv_id]; exact h1.1.lv⟩, FrP.rfl⟩) ?_
      · intro i m' hi ⟨⟨y, w⟩, f⟩
        unfold fX7_windFor_b32
        dsimp only
        rw [if_neg (by rw [show (5 : Int32) = nI 5 from rfl, n_le (by omega) (by omega)]; omega), i0, c0]
        simp only [cond_true]
        have w' := Lv_one w (c := 51) (j := 0) (k := 94) (by unfold loc; omega) (nI i)
        rw [upv_upv] at w'
        have hF : WF (upv v 94 (nI i)) nb nw nc := WF_free (j := 94) h.1.1 _ (by omega)
        have f' : FrP (fun c i k => Dto 2 c i k ∨ (c = 51 ∧ i = 0 ∧ k = 0)) m1 (upI m'.1 51 0 0 (nI i), m'.2) := FrP.up f (by omega) _
        have e7 : upI m'.1 51 0 0 (nI i) 7 0 4 = nI nb := w'.nb hF
        rw [e7]
        generalize (upI m'.1 51 0 0 (nI i), m'.2) = m2 at w' f'
        refine (whenSo_v 1 w' hF hl_b).bind ?_
        intro r m3 ⟨r1, r2⟩
        dsimp only
        have r1 : r = til (upv v 94 (nI i)) b 60 := r1
        rw [r1, code7, bst_7 i (hin _)]
        exact Ok.ret ⟨by rw [n_s], ⟨_, Lv_to w' r2⟩, f'.trans (r2.mono (fun c i k q => Or.inl q))⟩
      · intro m' _
        unfold fX7_windFor_b32
        rw [if_pos (show (5 : Int32) ≤ nI 5 by decide)]
      · intro r m' ⟨a, _, f⟩
        refine Ok.ret ⟨a, ?_⟩
        have f' : FrP (fun c i k => Dto 2 c i k) m1 (upI m'.1 51 0 0 (m1.1 51 0 0), m'.2) := by
          refine ⟨fun c i k q => ?_, f.2⟩
          by_cases e : c = 51 ∧ i = 0 ∧ k = 0
          · obtain ⟨e1, e2, e3⟩ := e
            subst e1 e2 e3
            dsimp only; exact upI_same _ _ _ _ _
          · dsimp only; rw [upI_nn e]; exact f.1 c i k (fun h => h.elim q e)
        exact Dto_S f'
theorem op_bestWind {v : Nat → Int32} {nb nw nc : Nat} {m : MM} (h : Rlt v nb nw nc m) (x : Int32) (y : Int32) : Eq2 (fX6_bestWind 0 x y) (fX7_bestWind 0 x y) m := by
  have w6_x : ∀ m, fX6_within x 0 60 m = some (inB x 61, m) := fun m => e6_within' x 60 m (by omega)
  have w7_x : ∀ m, fX7_within x 0 60 m = some (inB x 61, m) := fun m => e7_within' x 60 m (by omega)
  have w6_y : ∀ m, fX6_within y 0 1 m = some (inB y 2, m) := fun m => e6_within' y 1 m (by omega)
  have w7_y : ∀ m, fX7_within y 0 1 m = some (inB y 2, m) := fun m => e7_within' y 1 m (by omega)
  cases hg : ((inB x 61) && (inB y 2))
  · refine Eq2.bad h ?_ ?_
    · rw [fX6_bestWind_eq]; unfold fX6_bestWind_b
      cases g_x : inB x 61 <;> cases g_y : inB y 2 <;> first | (simp only [w6_x, w6_y, g_x, g_y, Option.bind_some, bind_eta, bI_0, bI_1, reduceCtorEq, not_true, not_false_eq_true, if_true, if_false]; done) | (rw [g_x, g_y] at hg; cases hg)
    · intro m1 h1
      rw [fX7_bestWind_eq]; unfold fX7_bestWind_b
      cases g_x : inB x 61 <;> cases g_y : inB y 2 <;> first | (simp only [w7_x, e7_isTime, w7_y, g_x, g_y, Option.bind_some, bind_eta, bI_0, bI_1, reduceCtorEq, not_true, not_false_eq_true, if_true, if_false, Bool.and_true, Bool.and_false, Bool.true_and, Bool.false_and]; done) | (rw [g_x, g_y] at hg; cases hg)
  · simp only [Bool.and_eq_true] at hg
    obtain ⟨g_x, g_y⟩ := hg
    obtain ⟨hl_n, he_n⟩ := inB_ex g_x
    have hu_n := n_clb x
    have hc_n : ∀ k, k = x.toNatClampNeg → (nI k).toNatClampNeg = k := fun k hk => n_cl (by omega)
    replace hc_n := hc_n _ rfl
    generalize x.toNatClampNeg = n at hl_n he_n hc_n hu_n
    subst he_n
    have hnb := h.1.nb.2.1
    have hnw := h.1.nw.2.1
    refine Eq2.ask h (if y = 0 then (mxs nI (fun i => nI (nfd (upv v 94 (nI i)) nb n)) (0, -1) 5).1 else (mxs nI (fun i => nI (nfd (upv v 94 (nI i)) nb n)) (0, -1) 5).2) ?_ ?_
    · rw [fX6_bestWind_eq]; unfold fX6_bestWind_b
      simp only [w6_x, w6_y, g_x, g_y, hc_n, Option.bind_some, bind_eta, bI_0, bI_1, reduceCtorEq, not_true, not_false_eq_true, if_true, if_false]
      refine (trial6 h.1).bind ?_
      intro _ m1 ⟨w1, f1⟩
      refine Ok.bind (Ok.fold (f := fX6_bestWind_b46 0 (nI n) y) 5 (fun i => ((mxs nI (fun i => nI (nfd (upv v 94 (nI i)) nb n)) (0, -1) i).1, (mxs nI (fun i => nI (nfd (upv v 94 (nI i)) nb n)) (0, -1) i).2, nI i)) (mxs nI (fun i => nI (nfd (upv v 94 (nI i)) nb n)) (0, -1) 5) (fun _ m' => (∃ y, RelW m'.1 2 nb nw (upv v 94 y)) ∧ FrP ScrC m m') ?_ ?_ (by omega) m1 ⟨⟨v 94, by rw [upv_id]; exact w1⟩, f1⟩) ?_
      · intro i m' hi ⟨⟨y, w⟩, f⟩
        unfold fX6_bestWind_b46
        dsimp only
        rw [if_neg (by rw [show (5 : Int32) = nI 5 from rfl, n_le (by omega) (by omega)]; omega)]
        have w' : RelW (upI m'.1 5 2 1 (nI i), m'.2).1 2 nb nw (upv v 94 (nI i)) := by
          have w' := RelW_one w hnb hnw (c := 5) (i := 2) (k := 1) (j := 94) (by unfold loc6; omega) (nI i)
          rw [upv_upv] at w'; exact w'
        have f' := f.trans (Rel_fr5 (m := m') (nI i))
        generalize (upI m'.1 5 2 1 (nI i), m'.2) = m2 at w' f'
        refine (count_v w' (WF_free (j := 94) h.1.1 _ (by omega)) (by omega)).bind ?_
        intro r m3 ⟨r1, r2⟩
        dsimp only
        rw [r1, codeM]
        exact Ok.ret ⟨by rw [n_s]; rfl, ⟨_, Dfo2_W w' hnb hnw r2⟩, f'.trans (Dfo_toC r2)⟩
      · intro m' _
        unfold fX6_bestWind_b46
        rw [if_pos (show (5 : Int32) ≤ nI 5 by decide)]
      · intro r m' ⟨a, _, f⟩
        dsimp only
        rw [a]
        by_cases q : y = 0
        · rw [if_neg (fun h => h q), if_pos q]; exact Ok.ret ⟨rfl, f⟩
        · rw [if_pos q, if_neg q]; exact Ok.ret ⟨rfl, f⟩
    · intro m1 h1
      rw [fX7_bestWind_eq]; unfold fX7_bestWind_b
      simp only [w7_x, e7_isTime, w7_y, g_x, g_y, hc_n, Option.bind_some, bind_eta, bI_0, bI_1, reduceCtorEq, not_true, not_false_eq_true, if_true, if_false, Bool.and_true]
      have i0 : inB 0 2 = true := by decide
      have c0 : (0 : Int32).toNatClampNeg = 0 := rfl
      refine Ok.bind (Ok.fold (f := fX7_bestWind_b32 0 (nI n) y) 5 (fun i => ((mxs nI (fun i => nI (nfd (upv v 94 (nI i)) nb n)) (0, -1) i).1, (mxs nI (fun i => nI (nfd (upv v 94 (nI i)) nb n)) (0, -1) i).2, nI i)) (mxs nI (fun i => nI (nfd (upv v 94 (nI i)) nb n)) (0, -1) 5) (fun _ m' => FrP (Dto 2) m1 m') ?_ ?_ (by omega) m1 FrP.rfl) ?_
      · intro i m' hi f
        unfold fX7_bestWind_b32
        dsimp only
        rw [if_neg (by rw [show (5 : Int32) = nI 5 from rfl, n_le (by omega) (by omega)]; omega)]
        have hL := Lv_to h1.1.lv f
        refine (keep_ok 2 m').bind ?_
        intro _ m2 ⟨k1, k2⟩
        rw [i0, c0]
        simp only [cond_true]
        have w' := Lv_one (Lv_to hL k2) (c := 51) (j := 0) (k := 94) (by unfold loc; omega) (nI i)
        have hF : WF (upv v 94 (nI i)) nb nw nc := WF_free (j := 94) h.1.1 _ (by omega)
        have f2 : FrP Dlv m2 (upI m2.1 51 0 0 (nI i), m2.2) := FrP.up (m' := m2) FrP.rfl (by unfold Dlv; omega) _
        generalize (upI m2.1 51 0 0 (nI i), m2.2) = m3 at w' f2
        refine (q_goesOn w' hF (by omega)).bind ?_
        intro r m4 ⟨r1, s⟩
        dsimp only
        have kb := kept_back (a := ()) (Q := fun _ m5 => FrP (Dto 2) m' m5) hL k1 k2 (f2.trans (s.fr (by omega) hnw)) (fun m5 h5 => h5)
        obtain ⟨_, m5, e5, p5⟩ := kb
        have e6 : fX7_again 0 2 m4 = some ((), m5) := by
          cases q : fX7_again 0 2 m4 with
          | none => rw [q] at e5; cases e5
          | some o => rw [q] at e5; cases e5; rfl
        rw [e6]
        simp only [Option.bind_some]
        rw [r1, codeM']
        exact Ok.ret ⟨by rw [n_s]; rfl, f.trans p5⟩
      · intro m' _
        unfold fX7_bestWind_b32
        rw [if_pos (show (5 : Int32) ≤ nI 5 by decide)]
      · intro r m' ⟨a, f⟩
        dsimp only
        rw [a]
        by_cases q : y = 0
        · rw [if_neg (fun h => h q), if_pos q]; exact Ok.ret ⟨rfl, Dto_S f⟩
        · rw [if_pos q, if_neg q]; exact Ok.ret ⟨rfl, Dto_S f⟩
