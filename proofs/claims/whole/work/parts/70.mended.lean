/-! PURE: mended -/
/-- a current where a bottle never is changes nothing for it -/
theorem simV_cur {v : Nat → Int32} {b c nc : Nat} {y : Int32} (hc : c < 30) (h93 : v 93 = nI nc) (hn1 : 1 ≤ nc) (hn : nc ≤ 30) (hs : inB (v (48 + b)) nc = true) : ∀ d, (∀ i, i < d → ¬ (simV v b i).1 = nI c) → simV (upv v c y) b d = simV v b d := by
  have o : ∀ j, 30 ≤ j → upv v c y j = v j := fun j hj => upv_nn (by omega)
  have ef : fVv (upv v c y) b = fVv v b := by
    unfold fVv
    rw [o (57 + b) (by omega)]
    by_cases q : v (57 + b) = -1
    · rw [if_pos q, if_pos q]
    · rw [if_neg q, if_neg q]
      funext d
      rw [wlk_upv (by omega)]
  intro d
  induction d with
  | zero =>
    intro _
    show (upv v c y (48 + b), upv v c y (66 + b)) = _
    rw [o _ (by omega), o _ (by omega)]; rfl
  | succ d ih =>
    intro hi
    have ih := ih (fun i h => hi i (by omega))
    have hd := hi d (by omega)
    show spd (vE (upv v c y)) (dyd (vE (upv v c y)) d) (upv v c y (30 + b)) (upv v c y (39 + b)) (fVv (upv v c y) b (d + 1)) (simV (upv v c y) b d) = spd (vE v) (dyd (vE v) d) (v (30 + b)) (v (39 + b)) (fVv v b (d + 1)) (simV v b d)
    rw [ih, ef, o (30 + b) (by omega), o (39 + b) (by omega)]
    have ed : dyd (vE (upv v c y)) d = dyd (vE v) d := by
      unfold dyd vE; dsimp only; rw [o 95 (by omega)]
    rw [ed]
    have eP : ∀ t k a, psh (vE (upv v c y)) t k a (simV v b d).1 = psh (vE v) t k a (simV v b d).1 := by
      intro t k a
      have e1 : (vE (upv v c y)).1 (simV v b d).1 = (vE v).1 (simV v b d).1 := by
        have h1 := simV_nc h93 hn1 hn hs d
        obtain ⟨x1, x2⟩ := inB_ex h1
        show vfl (upv v c y) _ = vfl v _
        rw [vfl_in (inB_mono h1 hn), vfl_in (inB_mono h1 hn)]
        refine upv_nn (fun q => hd ?_)
        rw [x2, q]
      have e2 : (vE (upv v c y)).2.2.1 = (vE v).2.2.1 := o 94 (by omega)
      unfold psh
      rw [e1, e2]
    have e3 : (vE (upv v c y)).2.1 = (vE v).2.1 := o 93 (by omega)
    unfold spd dft
    rw [eP, e3]
theorem til_cur {v : Nat → Int32} {b c nc : Nat} {y : Int32} (hc : c < 30) (h93 : v 93 = nI nc) (hn1 : 1 ≤ nc) (hn : nc ≤ 30) (hs : inB (v (48 + b)) nc = true) (h : ∀ i, i ≤ 60 → ¬ (simV v b i).1 = nI c) : til (upv v c y) b 60 = til v b 60 := by
  have key : ∀ k d, d + k = 61 → fst1 (fun d => decide ((simV (upv v c y) b d).2 = 1)) k d = fst1 (fun d => decide ((simV v b d).2 = 1)) k d := by
    intro k
    induction k with
    | zero => intro d _; rfl
    | succ k ih =>
      intro d hd
      show (if decide ((simV (upv v c y) b d).2 = 1) = true then nI d else fst1 _ k (d + 1)) = (if decide ((simV v b d).2 = 1) = true then nI d else fst1 _ k (d + 1))
      rw [simV_cur hc h93 hn1 hn hs d (fun i hi => h i (by omega)), ih (d + 1) (by omega)]
  exact key 61 0 (by omega)
def meT (v : Nat → Int32) (b i : Nat) : Int32 := if nI (i % 7) = v (i / 7) then -1 else til (upv v (i / 7) (nI (i % 7))) b 60
def meL (i : Nat) : Int32 := nI (10 * (i / 7) + i % 7)
theorem meT_in (v : Nat → Int32) (b : Nat) (n i : Nat) (_ : i < n) : meT v b i = -1 ∨ inB (meT v b i) 61 = true := by
  unfold meT
  split
  · exact Or.inl rfl
  · exact til_in _ b
theorem meT_at (v : Nat → Int32) (b c x : Nat) (hx : x < 7) : meT v b (7 * c + x) = (if nI x = v c then -1 else til (upv v c (nI x)) b 60) ∧ meL (7 * c + x) = (10 : Int32) * nI c + nI x := by
  unfold meT meL
  rw [show (7 * c + x) % 7 = x by omega, show (7 * c + x) / 7 = c by omega]
  refine ⟨rfl, ?_⟩
  rw [n_add, n_mul]; rfl
theorem WF_cur {v : Nat → Int32} {nb nw nc c : Nat} (h : WF v nb nw nc) (hc : c < 30) (x : Int32) : WF (upv v c x) nb nw nc := WF_free h x (by omega)
theorem stp_lit {τ : Type} (l r s1 s2 j : Int32) (m : MM) : (if r = -1 then some ((Sum.inl (s1, s2, j) : (Int32 × Int32 × Int32) ⊕ τ), m) else if s2 = -1 then some (Sum.inl (l, r, j), m) else if s2 ≤ r then some (Sum.inl (s1, s2, j), m) else some (Sum.inl (l, r, j), m)) = some (Sum.inl ((stp6 l r (s1, s2)).1, (stp6 l r (s1, s2)).2, j), m) := code6 l r s1 s2 j m
theorem Fr402_C {m : MM} (c : Nat) (x : Int32) : FrP ScrC m (upI m.1 40 2 c x, m.2) := FrP.up (m' := m) FrP.rfl (by unfold ScrC; omega) _
/-- the class's turn over the currents of a cell -/
theorem mend6 {v : Nat → Int32} {nb nw nc b c : Nat} {y z : Int32} {m0 m : MM} (h : Rlt v nb nw nc m0) (f : FrP ScrC m0 m) (hW : RelW m.1 2 nb nw v) (hb : b < nb) (hc : c < nc) (pas a2 : Int32) (hz : z = 0 ∧ (∀ i, i ≤ 60 → ¬ (simV v b i).1 = nI c) ∨ z = 1) :
    Ok (fX6_mended_j123 0 a2 (1 + b) (til v b 60) pas (bst meL (meT v b) (7 * c)).1 (bst meL (meT v b) (7 * c)).2 (nI c) z m) (fun o m' => o = Sum.inl ((bst meL (meT v b) (7 * (c + 1))).1, (bst meL (meT v b) (7 * (c + 1))).2, nI (c + 1)) ∧ RelW m'.1 2 nb nw v ∧ FrP ScrC m0 m') := by
  have hnb := h.1.nb.2.1
  have hnw := h.1.nw.2.1
  have hnc := h.1.nc
  have h0 := Rel_frC h f
  have e : flw m 0 = vfl v := congrArg (fun e : Ev => e.1) h0.1.E
  unfold fX6_mended_j123
  rw [e_flow, e, vfl_cell hc hnc.2.2.1]
  simp only [Option.bind_some]
  refine (Ok.fold (f := fX6_mended_b139 0 a2 (1 + b) (til v b 60) pas (nI c) z (v c)) 7 (fun x => ((bst meL (meT v b) (7 * c + x)).1, (bst meL (meT v b) (7 * c + x)).2, nI x)) ((bst meL (meT v b) (7 * c + 7)).1, (bst meL (meT v b) (7 * c + 7)).2) (fun _ m' => (∃ y, RelW m'.1 2 nb nw (upv v c y)) ∧ FrP ScrC m0 m') ?_ ?_ (by omega) m ⟨⟨v c, by rw [upv_id]; exact hW⟩, f⟩).bind ?_
  · intro x m' hx ⟨⟨y, w⟩, f'⟩
    obtain ⟨eT, eL⟩ := meT_at v b c x hx
    unfold fX6_mended_b139 fX6_mended_j186
    dsimp only
    rw [if_neg (by rw [show (6 : Int32) = nI 6 from rfl, n_lt (by omega) (by omega)]; omega), e_setFlow 2 c (nI x) m' (by omega)]
    simp only [Option.bind_some]
    have w' : RelW (upI m'.1 40 2 c (nI x), m'.2).1 2 nb nw (upv v c (nI x)) := by
      have w' := RelW_one w hnb hnw (c := 40) (i := 2) (k := c) (j := c) (by unfold loc6; omega) (nI x)
      rw [upv_upv] at w'; exact w'
    have f2 := f'.trans (Fr402_C (m := m') c (nI x))
    generalize (upI m'.1 40 2 c (nI x), m'.2) = m2 at w' f2
    have eB : bst meL (meT v b) (7 * c + (x + 1)) = stp6 (meL (7 * c + x)) (meT v b (7 * c + x)) (bst meL (meT v b) (7 * c + x)) := rfl
    rw [eB, eL]
    by_cases q : nI x = v c
    · rw [if_neg (fun h => h q), if_pos trivial]
      rw [eT, if_pos q]
      refine Ok.ret ⟨?_, ⟨_, w'⟩, f2⟩
      unfold stp6
      rw [if_pos rfl, n_s]
    · rw [if_pos q]
      rw [eT, if_neg q]
      rcases hz with ⟨hz, hv⟩ | hz
      · rw [hz, if_pos rfl, code6, til_cur (nc := nc) (by omega) h.1.1.2.2.2.2.1 (by omega) hnc.2.2.1 (h.1.1.b hb).1 hv]
        exact Ok.ret ⟨by rw [n_s], ⟨_, w'⟩, f2⟩
      · rw [hz, if_neg (by decide)]
        refine (tils2 (Rel_frC h f2).1 w' (WF_cur h.1.1 (by omega) _) hb (fun k h1 h2 => upv_nn (show k ≠ c by omega))).bind ?_
        intro r m3 ⟨r1, r2⟩
        dsimp only
        rw [r1, code6]
        exact Ok.ret ⟨by rw [n_s], ⟨_, Dfo2_W w' hnb hnw r2⟩, f2.trans (Dfo_toC r2)⟩
  · intro m' _
    unfold fX6_mended_b139
    rw [if_pos (show (6 : Int32) < nI 7 by decide)]
  · intro o m' ⟨a, ⟨y, w⟩, f'⟩
    dsimp only
    rw [e_setFlow 2 c (v c) m' (by omega)]
    simp only [Option.bind_some]
    rw [a]
    refine Ok.ret ⟨by rw [n_s, show 7 * (c + 1) = 7 * c + 7 by omega], ?_, f'.trans (Fr402_C (m := m') c (v c))⟩
    have w' := RelW_one w hnb hnw (c := 40) (i := 2) (k := c) (j := c) (by unfold loc6; omega) (v c)
    rw [upv_upv, upv_id] at w'; exact w'
def DC : Nat → Nat → Nat → Prop := fun c i k => Dto 2 c i k ∨ (c = 50 ∧ i = 0)
theorem mend7 {v : Nat → Int32} {nb nw nc b c : Nat} {m : MM} (hL : Lv v m) (h : WF v nb nw nc) (hb : b < nb) (hc : c < nc) (a2 : Int32) :
    Ok (fX7_mended_b34 0 (nI b) a2 ((bst7 meL (meT v b) (7 * c)).1, (bst7 meL (meT v b) (7 * c)).2, nI c) m) (fun o m' => o = Sum.inl ((bst7 meL (meT v b) (7 * (c + 1))).1, (bst7 meL (meT v b) (7 * (c + 1))).2, nI (c + 1)) ∧ FrP (Dto 2) m m') := by
  have hnc := h.2.2.2.2.2.2.1
  unfold fX7_mended_b34
  dsimp only
  rw [hL.nc h, if_neg (by rw [n_le (by omega) (by omega)]; omega), inB_t (show c < 30 by omega) (by omega), n_cl (show c < 2147483648 by omega), ← hL.1 c (by omega)]
  simp only [cond_true]
  refine (Ok.fold (f := fX7_mended_b55 0 (nI b) a2 (nI c) (v c)) 7 (fun x => ((bst7 meL (meT v b) (7 * c + x)).1, (bst7 meL (meT v b) (7 * c + x)).2, nI x)) ((bst7 meL (meT v b) (7 * c + 7)).1, (bst7 meL (meT v b) (7 * c + 7)).2) (fun _ m' => (∃ y, Lv (upv v c y) m') ∧ FrP (fun c' i k => Dto 2 c' i k ∨ (c' = 50 ∧ i = 0 ∧ k = c)) m m') ?_ ?_ (by omega) m ⟨⟨v c, by rw [upv_id]; exact hL⟩, FrP.rfl⟩).bind ?_
  · intro x m' hx ⟨⟨y, w⟩, f'⟩
    obtain ⟨eT, eL⟩ := meT_at v b c x hx
    unfold fX7_mended_b55 fX7_mended_j92
    dsimp only
    rw [if_neg (by rw [show (7 : Int32) = nI 7 from rfl, n_le (by omega) (by omega)]; omega), inB_t (show c < 30 by omega) (by omega), n_cl (show c < 2147483648 by omega)]
    simp only [cond_true]
    have w' := Lv_one w (c := 50) (j := c) (k := c) (by unfold loc; omega) (nI x)
    rw [upv_upv] at w'
    have hF := WF_cur (c := c) h (by omega) (nI x)
    have f2 : FrP (fun c' i k => Dto 2 c' i k ∨ (c' = 50 ∧ i = 0 ∧ k = c)) m (upI m'.1 50 0 c (nI x), m'.2) := FrP.up f' (by omega) _
    have e7 : (upI m'.1 50 0 c (nI x)) 7 0 4 = nI nb := w'.nb hF
    rw [e7]
    have eB : bst7 meL (meT v b) (7 * c + (x + 1)) = stp7 (meL (7 * c + x)) (meT v b (7 * c + x)) (bst7 meL (meT v b) (7 * c + x)) := bst_7 (7 * c + x) (fun i hi => meT_in v b _ i hi)
    rw [eB, eL]
    by_cases q : nI x = v c
    · rw [if_neg (fun h => h q), if_pos trivial]
      rw [eT, if_pos q]
      refine Ok.ret ⟨?_, ⟨_, w'⟩, f2⟩
      unfold stp7
      rw [if_pos rfl, n_s]
    · rw [if_pos q]
      rw [eT, if_neg q]
      generalize (upI m'.1 50 0 c (nI x), m'.2) = m2 at w' f2
      refine (whenSo_v 1 w' hF hb).bind ?_
      intro r m3 ⟨r1, r2⟩
      dsimp only
      have r1 : r = til (upv v c (nI x)) b 60 := r1
      rw [r1, code7]
      exact Ok.ret ⟨by rw [n_s], ⟨_, Lv_to w' r2⟩, f2.trans (r2.mono (fun c i k q => Or.inl q))⟩
  · intro m' _
    unfold fX7_mended_b55
    rw [if_pos (show (7 : Int32) ≤ nI 7 by decide)]
  · intro o m' ⟨a, _, f'⟩
    dsimp only
    rw [a]
    refine Ok.ret ⟨by rw [n_s, show 7 * (c + 1) = 7 * c + 7 by omega], fun c' i k q => ?_, f'.2⟩
    dsimp only
    by_cases e : c' = 50 ∧ i = 0 ∧ k = c
    · obtain ⟨e1, e2, e3⟩ := e
      subst e1 e2 e3
      rw [upI_same]; exact hL.1 _ (by omega)
    · rw [upI_nn e]; exact f'.1 c' i k (fun h => h.elim q e)
theorem meL_ne (n i : Nat) (hn : n ≤ 210) (h : i < n) : ¬ meL i = -1 := fun q => (n_m1 _ (by omega)).1 q
theorem op_mended {v : Nat → Int32} {nb nw nc : Nat} {m : MM} (h : Rlt v nb nw nc m) (x : Int32) (y : Int32) : Eq2 (fX6_mended 0 x y) (fX7_mended 0 x y) m := by
  have w6_y : ∀ m, fX6_within y 0 1 m = some (inB y 2, m) := fun m => e6_within' y 1 m (by omega)
  have w7_y : ∀ m, fX7_within y 0 1 m = some (inB y 2, m) := fun m => e7_within' y 1 m (by omega)
  cases hg : ((inB x nb) && (inB y 2))
  · refine Eq2.bad h ?_ ?_
    · rw [fX6_mended_eq]; unfold fX6_mended_b
      cases g_x : inB x nb <;> cases g_y : inB y 2 <;> first | (simp only [e5_bottleAt h.1, w6_y, g_x, g_y, Option.bind_some, bind_eta, bI_0, bI_1, reduceCtorEq, not_true, not_false_eq_true, if_true, if_false]; done) | (rw [g_x, g_y] at hg; cases hg)
    · intro m1 h1
      rw [fX7_mended_eq]; unfold fX7_mended_b
      cases g_x : inB x nb <;> cases g_y : inB y 2 <;> first | (simp only [e7_isBottle h1, w7_y, g_x, g_y, Option.bind_some, bind_eta, bI_0, bI_1, reduceCtorEq, not_true, not_false_eq_true, if_true, if_false, Bool.and_true, Bool.and_false, Bool.true_and, Bool.false_and]; done) | (rw [g_x, g_y] at hg; cases hg)
  · simp only [Bool.and_eq_true] at hg
    obtain ⟨g_x, g_y⟩ := hg
    obtain ⟨hl_b, he_b⟩ := inB_ex g_x
    have hu_b := n_clb x
    have hc_b : ∀ k, k = x.toNatClampNeg → (nI k).toNatClampNeg = k := fun k hk => n_cl (by omega)
    replace hc_b := hc_b _ rfl
    generalize x.toNatClampNeg = b at hl_b he_b hc_b hu_b
    subst he_b
    have hnb := h.1.nb.2.1
    have hnw := h.1.nw.2.1
    have hnc := h.1.nc
    refine Eq2.ask h (if y = 0 then (bst meL (meT v b) (7 * nc)).1 else (bst meL (meT v b) (7 * nc)).2) ?_ ?_
    · rw [fX6_mended_eq]; unfold fX6_mended_b
      simp only [e5_bottleAt h.1, w6_y, g_x, g_y, hc_b, Option.bind_some, bind_eta, bI_0, bI_1, reduceCtorEq, not_true, not_false_eq_true, if_true, if_false]
      refine (q_til h.1 hl_b).bind ?_
      intro r0 m1 ⟨r1, f1⟩
      have h1 := Rel_frC h f1
      dsimp only
      rw [h1.1.whose hl_b]
      simp only [Option.bind_some]
      refine (q_follow h1.1 (N := 60) hl_b (by omega) 0).bind ?_
      intro _ m2 ⟨t1, t2⟩
      dsimp only
      refine (visited6 (T := simV v b) 0 (fun d hd => (t1 d hd).1)).bind ?_
      intro r2 m3 ⟨v1, e⟩
      subst e
      have f3 := f1.trans (Dfo_toC t2)
      have h3 := Rel_frC h f3
      dsimp only
      refine (trial6 h3.1).bind ?_
      intro _ m4 ⟨w4, f4⟩
      dsimp only
      rw [r1, v1]
      have hT : ∀ d, inB (simV v b d).1 nc = true := simV_nc h.1.1.2.2.2.2.1 (by omega) hnc.2.2.1 (h.1.1.b hl_b).1
      have V := vis_bt (T := fun d => (simV v b d).1) hnc.2.2.1 hT 60
      refine Ok.bind (Ok.fold (f := fX6_mended_b96 0 y (1 + b) (til v b 60) (vis (fun d => (simV v b d).1) 60)) nc (fun c => ((bst meL (meT v b) (7 * c)).1, (bst meL (meT v b) (7 * c)).2, nI c)) ((bst meL (meT v b) (7 * nc)).1, (bst meL (meT v b) (7 * nc)).2) (fun _ m' => RelW m'.1 2 nb nw v ∧ FrP ScrC m m') ?_ ?_ (by omega) m4 ⟨w4, f3.trans f4⟩) ?_
      · intro c m' hc ⟨w, f⟩
        have h' := Rel_frC h f
        unfold fX6_mended_b96
        dsimp only
        rw [h'.1.nc.2.2.2, if_neg (by rw [n_le (by omega) (by omega)]; omega)]
        have b0 := bt_shr0 (vis (fun d => (simV v b d).1) 60) (show c < 32 by omega)
        by_cases q : bt (vis (fun d => (simV v b d).1) 60) c = true
        · rw [if_neg (by rw [b0, q]; decide)]
          exact mend6 (y := 0) h f w hl_b hc _ y (Or.inr rfl)
        · rw [if_pos (by rw [b0]; exact Bool.eq_false_iff.2 q)]
          refine mend6 (y := 0) h f w hl_b hc _ y (Or.inl ⟨rfl, fun i hi e => q ((V c).2 ⟨i, hi, e, hc⟩)⟩)
      · intro m' ⟨w, f⟩
        have h' := Rel_frC h f
        unfold fX6_mended_b96
        dsimp only
        rw [h'.1.nc.2.2.2, if_pos (by rw [n_le (by omega) (by omega)]; omega)]
      · intro r m' ⟨a, _, f⟩
        dsimp only
        rw [a]
        by_cases q : y = 0
        · rw [if_neg (fun h => h q), if_pos q]; exact Ok.ret ⟨rfl, f⟩
        · rw [if_pos q, if_neg q]; exact Ok.ret ⟨rfl, f⟩
    · intro m1 h1
      rw [fX7_mended_eq]; unfold fX7_mended_b
      simp only [e7_isBottle h1.1, w7_y, g_x, g_y, hc_b, Option.bind_some, bind_eta, bI_0, bI_1, reduceCtorEq, not_true, not_false_eq_true, if_true, if_false, Bool.and_true]
      refine Ok.bind (Ok.fold (f := fX7_mended_b34 0 (nI b) y) nc (fun c => ((bst7 meL (meT v b) (7 * c)).1, (bst7 meL (meT v b) (7 * c)).2, nI c)) ((bst7 meL (meT v b) (7 * nc)).1, (bst7 meL (meT v b) (7 * nc)).2) (fun _ m' => FrP (Dto 2) m1 m') ?_ ?_ (by omega) m1 FrP.rfl) ?_
      · intro c m' hc f
        exact (mend7 (Lv_to h1.1.lv f) h1.1.1 hl_b hc y).mono (fun o m2 ⟨a, f2⟩ => ⟨a, f.trans f2⟩)
      · intro m' f
        unfold fX7_mended_b34
        dsimp only
        rw [(Lv_to h1.1.lv f).nc h1.1.1, if_pos (by rw [n_le (by omega) (by omega)]; omega)]
      · intro r m' ⟨a, f⟩
        dsimp only
        rw [a]
        have e := bst7_end (lab := meL) (t := meT v b) (7 * nc) (fun i hi => meT_in v b _ i hi) (fun i hi => meL_ne (7 * nc) i (by omega) hi)
        by_cases q : y = 0
        · rw [if_pos q, if_pos q]; exact Ok.ret ⟨rfl, Dto_S f⟩
        · rw [if_neg q, if_neg q]
          dsimp only
          by_cases q2 : (bst7 meL (meT v b) (7 * nc)).1 = -1
          · rw [if_neg (fun h => h q2)]
            have e2 := e.2
            rw [if_pos q2] at e2
            exact Ok.ret ⟨e2, Dto_S f⟩
          · rw [if_pos q2]
            have e2 := e.2
            rw [if_neg q2] at e2
            exact Ok.ret ⟨e2, Dto_S f⟩
