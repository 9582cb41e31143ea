/-! PURE: cells visited: settles, reach, busiest -/
def vis (T : Nat → Int32) : Nat → Int32
  | 0 => one (T 0)
  | d + 1 => vis T d ||| one (T (d + 1))
theorem spd_nc {e : Ev} {nc : Nat} (hn : e.2.1 = nI nc) (h2 : 1 ≤ nc) (h3 : nc ≤ 30) {t k a f : Int32} {s : CH} (h : inB s.1 nc = true) : inB (spd e t k a f s).1 nc = true := by
  rw [← spd_eq]
  have hd : inB (dft e t k a s).1 nc = true := by
    unfold dft
    split
    · split
      · rw [hn]; exact clamp_in h2 h3
      · exact h
    · exact h
  unfold fnd
  split
  · split
    · exact hd
    · exact hd
  · exact hd
theorem simV_nc {v : Nat → Int32} {nc b : Nat} (hn : v 93 = nI nc) (h2 : 1 ≤ nc) (h3 : nc ≤ 30) (h : inB (v (48 + b)) nc = true) (d : Nat) : inB (simV v b d).1 nc = true := by
  induction d with
  | zero => exact h
  | succ d ih => exact spd_nc hn h2 h3 ih
theorem simN_nc {v : Nat → Int32} {nb nw nc b : Nat} (h : WF v nb nw nc) (hb : b < nb) (d : Nat) : inB (simN v b d).1 nc = true := by
  have h6 := h.2.2.2.2.2.1
  refine simV_nc (v := nob v b) (by rw [nob_at (by have := h.2.1; omega)]; exact h.2.2.2.2.1) (by omega) h.2.2.2.2.2.2.1 ?_ d
  rw [nob_at (by omega)]; exact (h.b hb).1
theorem vis_bt {T : Nat → Int32} {nc : Nat} (hc : nc ≤ 30) (hT : ∀ d, inB (T d) nc = true) (d c : Nat) : bt (vis T d) c = true ↔ ∃ i, i ≤ d ∧ T i = nI c ∧ c < nc := by
  have one_at : ∀ d, bt (one (T d)) c = true ↔ (T d = nI c ∧ c < nc) := by
    intro d
    obtain ⟨a, b⟩ := inB_ex (hT d)
    generalize (T d).toNatClampNeg = x at a b
    rw [b, bt_one (by omega), decide_eq_true_iff]
    constructor
    · intro h; subst h; exact ⟨rfl, a⟩
    · intro ⟨h1, h2⟩
      exact (n_inj (by omega) (by omega)).1 h1
  induction d with
  | zero =>
    show bt (one (T 0)) c = true ↔ _
    rw [one_at]
    refine ⟨fun h => ⟨0, Nat.le_refl _, h⟩, fun ⟨i, h1, h2⟩ => ?_⟩
    have e : i = 0 := by omega
    subst e
    exact h2
  | succ d ih =>
    show bt (vis T d ||| one (T (d + 1))) c = true ↔ _
    rw [bt_or, Bool.or_eq_true]
    constructor
    · intro h
      rcases h with h | h
      · obtain ⟨i, h1, h2⟩ := ih.1 h
        exact ⟨i, by omega, h2⟩
      · exact ⟨d + 1, Nat.le_refl _, (one_at _).1 h⟩
    · intro ⟨i, h1, h2⟩
      by_cases e : i = d + 1
      · subst e; exact Or.inr ((one_at _).2 h2)
      · exact Or.inl (ih.2 ⟨i, by omega, h2⟩)
/-- the class's row of bits of a track -/
theorem visited6 {T : Nat → CH} {m : MM} (t : Nat) (hT : ∀ d, d ≤ 60 → m.1 41 t d = (T d).1) : Ok (fX3_cellsVisited t 60 m) (fun r m' => r = vis (fun d => (T d).1) 60 ∧ m' = m) := by
  rw [fX3_cellsVisited_eq]; unfold fX3_cellsVisited_b
  simp only [bind_eta]
  refine Ok.mono (Ok.fold (f := fX3_cellsVisited_b4 t 60) 61 (fun i => (if i = 0 then 0 else vis (fun d => (T d).1) (i - 1), nI i)) (vis (fun d => (T d).1) 60) (fun _ m' => m' = m) ?_ ?_ (by omega) m rfl) (fun r m' h => h)
  · intro i m' hi e
    subst e
    unfold fX3_cellsVisited_b4
    dsimp only
    rw [if_neg (by rw [nI60, n_lt (by omega) (by omega)]; omega), e_cellAt t i m' (by omega), hT i (by omega)]
    simp only [Option.bind_some]
    refine Ok.ret ⟨?_, rfl⟩
    rw [n_s, if_neg (show ¬ i + 1 = 0 by omega), Nat.add_sub_cancel]
    cases i with
    | zero => rw [if_pos rfl, zero_or]; rfl
    | succ i => rw [if_neg (show ¬ i + 1 = 0 by omega), Nat.add_sub_cancel]; rfl
  · intro m' e
    subst e
    unfold fX3_cellsVisited_b4
    dsimp only
    rw [if_pos (show (60 : Int32) < nI 61 by decide)]
    rfl
theorem cells7 {v : Nat → Int32} {nb nw nc b : Nat} {m : MM} (hL : Lv v m) (h : WF v nb nw nc) (hb : b < nb) : Ok (fX7_cellsOf 0 (nI b) m) (fun r m' => r = vis (fun d => (simN v b d).1) 60 ∧ FrP (Dto 2) m m') := by
  have hnb := h.2.1
  have hnw := h.2.2.2.1
  rw [fX7_cellsOf_eq]; unfold fX7_cellsOf_b
  refine (keep_ok 2 m).bind ?_
  intro _ m1 ⟨k1, k2⟩
  have hL1 : Lv v m1 := Lv_to hL k2
  dsimp only
  rw [inB_t (show b < 9 by omega) (by omega), n_cl (by omega)]
  simp only [cond_true]
  have hL2 : Lv (nob v b) (upI m1.1 55 0 b (-1), m1.2) := Lv_one hL1 (by unfold loc; omega) _
  have f12 : FrP Dlv m1 (upI m1.1 55 0 b (-1), m1.2) := FrP.up (m' := m1) FrP.rfl (by unfold Dlv; omega) _
  have e97 : nob v b 97 = nI nb := by unfold nob; rw [upv_nn (by omega)]; exact h.1
  have e54 : upI m1.1 55 0 b (-1) 54 0 b = (simN v b 0).1 := by
    rw [upI_nn (by omega), ← (hL1.2.1 b (by omega)).2.2.1]
    show v (48 + b) = nob v b (48 + b)
    rw [nob_at (by omega)]
  rw [e54]
  generalize (upI m1.1 55 0 b (-1), m1.2) = m2 at hL2 f12
  have hw := WFm_nob (b := b) (h.m h.2.1) (by omega) (by omega)
  have hx : ∀ i, i < nb → nob v b (57 + i) = -1 ∨ inB (nob v b (57 + i)) nw = true := by
    intro i hi
    unfold nob
    by_cases e : i = b
    · subst e; rw [upv_same]; exact Or.inl rfl
    · rw [upv_nn (by omega)]; exact Or.inr (h.b hi).2.1
  refine (Ok.fold (f := fX7_cellsOf_b26 0 (nI b)) 60 (fun i => (vis (fun d => (simN v b d).1) i, nI i)) (vis (fun d => (simN v b d).1) 60) (fun i m' => SimM nb nw nc m2 i m') ?_ ?_ (by omega) m2 (SimM.begin (hL2.mv (by omega) hw))).bind ?_
  · intro i m' hi hS
    unfold fX7_cellsOf_b26
    dsimp only
    have e7 : m'.1 7 0 4 = nI nb := by
      rw [hS.2.2.2.1.1 7 0 4 (by unfold Dps; omega), ← hL2.2.2.2.2.2.2.2.1]; exact e97
    rw [if_neg (by rw [nI60, n_le (by omega) (by omega)]; omega), e7]
    refine (SimM.step (by omega) (by omega) hS).bind ?_
    intro _ m3 ⟨q1, _⟩
    have hs := q1.B hL2 hw (by omega) hb (hx b hb)
    dsimp only
    rw [inB_t (show b < 9 by omega) (by omega), n_cl (by omega), hs.1]
    exact Ok.ret ⟨by rw [n_s]; rfl, q1⟩
  · intro m' _
    unfold fX7_cellsOf_b26
    rw [if_pos (show (60 : Int32) ≤ nI 60 by decide)]
  · intro r m3 ⟨r1, r2⟩
    exact kept_back hL k1 k2 (f12.trans (r2.fr (by omega) h.2.2.2.1)) (fun m4 h4 => ⟨r1, h4⟩)
/-! reach -/
def mnT (T : Nat → Int32) : Nat → Int32
  | 0 => T 0
  | d + 1 => mnI (mnT T d) (T (d + 1))
def mxT (T : Nat → Int32) : Nat → Int32
  | 0 => T 0
  | d + 1 => mxI (mxT T d) (T (d + 1))
theorem mnI_n {a b : Nat} (ha : a < 1000) (hb : b < 1000) : mnI (nI a) (nI b) = nI (if b < a then b else a) := by
  rw [← Int32.toInt_inj, mnI_ti, n_ti (by omega), n_ti (by omega), n_ti (by split <;> omega)]
  split <;> split <;> omega
theorem mxI_n {a b : Nat} (ha : a < 1000) (hb : b < 1000) : mxI (nI a) (nI b) = nI (if a < b then b else a) := by
  rw [← Int32.toInt_inj, mxI_ti, n_ti (by omega), n_ti (by omega), n_ti (by split <;> omega)]
  split <;> split <;> omega
theorem mnT_ok {T : Nat → Int32} {nc : Nat} (hc : nc ≤ 30) (hT : ∀ d, inB (T d) nc = true) (d : Nat) : ∃ c, c < nc ∧ mnT T d = nI c ∧ (∃ i, i ≤ d ∧ T i = nI c) ∧ ∀ i c', i ≤ d → T i = nI c' → c' < nc → c ≤ c' := by
  induction d with
  | zero =>
    obtain ⟨a, b⟩ := inB_ex (hT 0)
    refine ⟨_, a, b, ⟨0, Nat.le_refl _, b⟩, fun i c' hi e hc' => ?_⟩
    obtain rfl : i = 0 := by omega
    rw [b, n_inj (by omega) (by omega)] at e; omega
  | succ d ih =>
    obtain ⟨c, c1, c2, ⟨i, c3, c4⟩, c5⟩ := ih
    obtain ⟨a, b⟩ := inB_ex (hT (d + 1))
    generalize (T (d + 1)).toNatClampNeg = x at a b
    refine ⟨if x < c then x else c, by split <;> omega, ?_, ?_, ?_⟩
    · show mnI (mnT T d) (T (d + 1)) = _
      rw [c2, b, mnI_n (by omega) (by omega)]
    · split
      · exact ⟨d + 1, Nat.le_refl _, b⟩
      · exact ⟨i, by omega, c4⟩
    · intro j c' hj e hc'
      by_cases q : j = d + 1
      · subst q
        rw [b, n_inj (by omega) (by omega)] at e
        split <;> omega
      · have := c5 j c' (by omega) e hc'
        split <;> omega
theorem mxT_ok {T : Nat → Int32} {nc : Nat} (hc : nc ≤ 30) (hT : ∀ d, inB (T d) nc = true) (d : Nat) : ∃ c, c < nc ∧ mxT T d = nI c ∧ (∃ i, i ≤ d ∧ T i = nI c) ∧ ∀ i c', i ≤ d → T i = nI c' → c' < nc → c' ≤ c := by
  induction d with
  | zero =>
    obtain ⟨a, b⟩ := inB_ex (hT 0)
    refine ⟨_, a, b, ⟨0, Nat.le_refl _, b⟩, fun i c' hi e hc' => ?_⟩
    obtain rfl : i = 0 := by omega
    rw [b, n_inj (by omega) (by omega)] at e; omega
  | succ d ih =>
    obtain ⟨c, c1, c2, ⟨i, c3, c4⟩, c5⟩ := ih
    obtain ⟨a, b⟩ := inB_ex (hT (d + 1))
    generalize (T (d + 1)).toNatClampNeg = x at a b
    refine ⟨if c < x then x else c, by split <;> omega, ?_, ?_, ?_⟩
    · show mxI (mxT T d) (T (d + 1)) = _
      rw [c2, b, mxI_n (by omega) (by omega)]
    · split
      · exact ⟨d + 1, Nat.le_refl _, b⟩
      · exact ⟨i, by omega, c4⟩
    · intro j c' hj e hc'
      by_cases q : j = d + 1
      · subst q
        rw [b, n_inj (by omega) (by omega)] at e
        split <;> omega
      · have := c5 j c' (by omega) e hc'
        split <;> omega
theorem scan_up {x : Int32} {c : Nat} (hc : c < 30) (h1 : bt x c = true) (h0 : ∀ j, j < c → bt x j = false) (m : MM) : loopF 1000 (fX7_reach_b47 0 x) 0 m = some (nI c, m) := by
  have key : Ok (loopF 1000 (fX7_reach_b47 0 x) 0 m) (fun r m' => r = nI c ∧ m' = m) := by
    refine Ok.loop (fun k s m' => ∃ j, j ≤ c ∧ k = c - j ∧ s = nI j ∧ m' = m) ?_ 1000 0 m c (by omega) ⟨0, by omega, by omega, rfl, rfl⟩
    intro k s m' ⟨j, j1, j2, j3, j4⟩
    subst j3 j4
    unfold fX7_reach_b47
    by_cases e : j = c
    · subst e
      rw [if_pos (by rw [bt_shr0 x (show j < 32 by omega), h1]; decide)]
      exact Ok.ret ⟨rfl, rfl⟩
    · rw [if_neg (by rw [bt_shr0 x (show j < 32 by omega), h0 j (by omega)]; exact fun h => h rfl), if_neg (fun h => h rfl)]
      exact Ok.ret ⟨c - (j + 1), by omega, j + 1, by omega, rfl, (n_s j).symm, rfl⟩
  obtain ⟨r, m', e, e1, e2⟩ := key
  rw [e, e1, e2]
theorem scan_down {x y : Int32} {c nc : Nat} (hy : ¬ y = 0) (hc : c < nc) (hn : nc ≤ 30) (h1 : bt x c = true) (h0 : ∀ j, c < j → j < nc → bt x j = false) (m : MM) : loopF 1000 (fX7_reach_b47 y x) (nI nc - 1) m = some (nI c, m) := by
  have key : Ok (loopF 1000 (fX7_reach_b47 y x) (nI nc - 1) m) (fun r m' => r = nI c ∧ m' = m) := by
    refine Ok.loop (fun k s m' => ∃ j, c ≤ j ∧ j < nc ∧ k = j - c ∧ s = nI j ∧ m' = m) ?_ 1000 _ m (nc - 1 - c) (by omega) ⟨nc - 1, by omega, by omega, rfl, ?_, rfl⟩
    · intro k s m' ⟨j, j1, j0, j2, j3, j4⟩
      subst j3 j4
      unfold fX7_reach_b47
      by_cases e : j = c
      · subst e
        rw [if_pos (by rw [bt_shr0 x (show j < 32 by omega), h1]; decide)]
        exact Ok.ret ⟨rfl, rfl⟩
      · rw [if_neg (by rw [bt_shr0 x (show j < 32 by omega), h0 j (by omega) j0]; exact fun h => h rfl), if_pos hy]
        obtain ⟨i, rfl⟩ : ∃ i, j = i + 1 := ⟨j - 1, by omega⟩
        rw [n_m]
        exact Ok.ret ⟨i - c, by omega, i, by omega, by omega, rfl, rfl, rfl⟩
    · obtain ⟨i, rfl⟩ : ∃ i, nc = i + 1 := ⟨nc - 1, by omega⟩
      rw [n_p1]; rfl
  obtain ⟨r, m', e, e1, e2⟩ := key
  rw [e, e1, e2]
theorem op_reach {v : Nat → Int32} {nb nw nc : Nat} {m : MM} (h : Rlt v nb nw nc m) (x : Int32) (y : Int32) : Eq2 (fX6_reach 0 x y) (fX7_reach 0 x y) m := by
  have w6_y : ∀ m, fX6_within y 0 1 m = some (inB y 2, m) := fun m => e6_within' y 1 m (by omega)
  have w7_y : ∀ m, fX7_within y 0 1 m = some (inB y 2, m) := fun m => e7_within' y 1 m (by omega)
  cases hg : ((inB x nb) && (inB y 2))
  · refine Eq2.bad h ?_ ?_
    · rw [fX6_reach_eq]; unfold fX6_reach_b
      cases g_x : inB x nb <;> cases g_y : inB y 2 <;> first | (simp only [e5_bottleAt h.1, w6_y, g_x, g_y, Option.bind_some, bind_eta, bI_0, bI_1, reduceCtorEq, not_true, not_false_eq_true, if_true, if_false]; done) | (rw [g_x, g_y] at hg; cases hg)
    · intro m1 h1
      rw [fX7_reach_eq]; unfold fX7_reach_b
      cases g_x : inB x nb <;> cases g_y : inB y 2 <;> first | (simp only [e7_isBottle h1, w7_y, g_x, g_y, Option.bind_some, bind_eta, bI_0, bI_1, reduceCtorEq, not_true, not_false_eq_true, if_true, if_false, Bool.and_true, Bool.and_false, Bool.true_and, Bool.false_and]; done) | (rw [g_x, g_y] at hg; cases hg)
  · simp only [Bool.and_eq_true] at hg
    obtain ⟨g_x, g_y⟩ := hg
    obtain ⟨hl_b, he_b⟩ := inB_ex g_x
    have hu_b := n_clb x
    have hc_b : ∀ k, k = x.toNatClampNeg → (nI k).toNatClampNeg = k := fun k hk => n_cl (by omega)
    replace hc_b := hc_b _ rfl
    generalize x.toNatClampNeg = b at hl_b he_b hc_b hu_b
    subst he_b
    have hnb := h.1.nb.2.1
    have hnc := h.1.nc
    have hT := simN_nc h.1.1 hl_b
    refine Eq2.ask h (if y = 0 then mnT (fun d => (simN v b d).1) 60 else mxT (fun d => (simN v b d).1) 60) ?_ ?_
    · rw [fX6_reach_eq]; unfold fX6_reach_b
      simp only [e5_bottleAt h.1, w6_y, g_x, g_y, hc_b, Option.bind_some, bind_eta, bI_0, bI_1, reduceCtorEq, not_true, not_false_eq_true, if_true, if_false]
      refine (q_follow0 h.1 (N := 60) hl_b (by omega) 0).bind ?_
      intro _ m1 ⟨t1, t2⟩
      dsimp only
      rw [show (0 : Int32) = nI 0 from rfl, e_cellAt 0 0 m1 (by omega), (t1 0 (by omega)).1]
      simp only [Option.bind_some]
      by_cases q : y = 0
      · rw [if_pos (show y = nI 0 from q)]
        refine Ok.mono (Ok.count 1 61 (fun i s m' => s = (mnT (fun d => (simN v b d).1) (i - 1), nI i) ∧ m' = m1) (Q := fun r m' => r = mnT (fun d => (simN v b d).1) 60 ∧ m' = m1) ?_ ?_ (by omega) 1000 (by omega) _ m1 ⟨rfl, rfl⟩) (fun r m' ⟨a, e⟩ => ⟨a, e ▸ Dfo_toC t2⟩)
        · intro i s m' h1 h2 ⟨e1, e2⟩
          obtain ⟨j, rfl⟩ : ∃ j, i = j + 1 := ⟨i - 1, by omega⟩
          subst e1 e2
          unfold fX6_reach_b58
          dsimp only
          rw [if_neg (by rw [nI60, n_lt (by omega) (by omega)]; omega), e_cellAt 0 (j + 1) m' (by omega), (t1 (j + 1) (by omega)).1]
          simp only [Option.bind_some]
          rw [if_neg (fun h => h q)]
          exact Ok.ret ⟨by rw [n_s (j + 1)]; rfl, rfl⟩
        · intro s m' ⟨e1, e2⟩
          subst e1 e2
          unfold fX6_reach_b58
          dsimp only
          rw [if_pos (show (60 : Int32) < nI 61 by decide)]
          exact Ok.ret ⟨rfl, rfl⟩
      · rw [if_neg (show ¬ y = nI 0 from q)]
        refine Ok.mono (Ok.count 1 61 (fun i s m' => s = (mxT (fun d => (simN v b d).1) (i - 1), nI i) ∧ m' = m1) (Q := fun r m' => r = mxT (fun d => (simN v b d).1) 60 ∧ m' = m1) ?_ ?_ (by omega) 1000 (by omega) _ m1 ⟨rfl, rfl⟩) (fun r m' ⟨a, e⟩ => ⟨a, e ▸ Dfo_toC t2⟩)
        · intro i s m' h1 h2 ⟨e1, e2⟩
          obtain ⟨j, rfl⟩ : ∃ j, i = j + 1 := ⟨i - 1, by omega⟩
          subst e1 e2
          unfold fX6_reach_b58
          dsimp only
          rw [if_neg (by rw [nI60, n_lt (by omega) (by omega)]; omega), e_cellAt 0 (j + 1) m' (by omega), (t1 (j + 1) (by omega)).1]
          simp only [Option.bind_some]
          rw [if_pos q]
          exact Ok.ret ⟨by rw [n_s (j + 1)]; rfl, rfl⟩
        · intro s m' ⟨e1, e2⟩
          subst e1 e2
          unfold fX6_reach_b58
          dsimp only
          rw [if_pos (show (60 : Int32) < nI 61 by decide)]
          exact Ok.ret ⟨rfl, rfl⟩
    · intro m1 h1
      rw [fX7_reach_eq]; unfold fX7_reach_b
      simp only [e7_isBottle h1.1, w7_y, g_x, g_y, hc_b, Option.bind_some, bind_eta, bI_0, bI_1, reduceCtorEq, not_true, not_false_eq_true, if_true, if_false, Bool.and_true]
      refine (cells7 h1.1.lv h1.1.1 hl_b).bind ?_
      intro r m2 ⟨r1, r2⟩
      have V := vis_bt (T := fun d => (simN v b d).1) hnc.2.2.1 hT 60
      unfold fX7_reach_j45
      simp only [bind_eta]
      by_cases q : y = 0
      · rw [if_neg (fun h => h q), if_pos q, q, r1]
        obtain ⟨c, c1, c2, ⟨i, c3, c4⟩, c5⟩ := mnT_ok hnc.2.2.1 hT 60
        rw [scan_up (c := c) (by omega) ((V c).2 ⟨i, c3, c4, c1⟩) (fun j hj => ?_) m2, c2]
        · exact Ok.ret ⟨rfl, Dto_S r2⟩
        · rw [Bool.eq_false_iff]
          intro hb
          obtain ⟨i', a1, a2, a3⟩ := (V j).1 hb
          have := c5 i' j a1 a2 a3
          omega
      · rw [if_pos q, if_neg q, r1, (Lv_to h1.1.lv r2).nc h1.1.1]
        obtain ⟨c, c1, c2, ⟨i, c3, c4⟩, c5⟩ := mxT_ok hnc.2.2.1 hT 60
        rw [scan_down (c := c) q c1 hnc.2.2.1 ((V c).2 ⟨i, c3, c4, c1⟩) (fun j hj hj2 => ?_) m2, c2]
        · exact Ok.ret ⟨rfl, Dto_S r2⟩
        · rw [Bool.eq_false_iff]
          intro hb
          obtain ⟨i', a1, a2, a3⟩ := (V j).1 hb
          have := c5 i' j a1 a2 a3
          omega
/-! settles -/
def setP (v : Nat → Int32) (b d : Nat) : Bool := decide (¬ (simN v b d).2 = 2 ∧ bt (vis (fun d => (simN v b d).1) (d - 1)) (simN v b d).1.toNatClampNeg = true)
theorem how_in {e : Ev} {t k a f : Int32} {s : CH} (h : inB s.2 3 = true) : inB (spd e t k a f s).2 3 = true := by
  have i0 : inB 0 3 = true := by decide
  have i1 : inB 1 3 = true := by decide
  have i2 : inB 2 3 = true := by decide
  rw [← spd_eq]
  have hd : inB (dft e t k a s).2 3 = true := by
    unfold dft
    split
    · split
      · exact i0
      · exact i2
    · exact h
  unfold fnd
  split
  · split
    · exact i1
    · exact hd
  · exact hd
theorem simV_how {v : Nat → Int32} {b : Nat} (h : inB (v (66 + b)) 3 = true) (d : Nat) : inB (simV v b d).2 3 = true := by
  induction d with
  | zero => exact h
  | succ d ih => exact how_in ih
theorem simN_how {v : Nat → Int32} {nb nw nc b : Nat} (h : WF v nb nw nc) (hb : b < nb) (d : Nat) : inB (simN v b d).2 3 = true :=
  simV_how (v := nob v b) (by rw [nob_at (by omega)]; exact (h.b hb).2.2.1) d
theorem ge2 {x : Int32} (h : inB x 3 = true) : (2 ≤ x) = (x = 2) := by
  rcases inB_3 h with e | e | e <;> subst e <;> decide
theorem set_end {v : Nat → Int32} {b d k : Nat} (h : (simN v b d).2 = 2) (hk : d ≤ k) : (simN v b k).2 = 2 := by
  have e : simN v b k = simN v b d := simV_1 (v := nob v b) (b := b) (by show ¬ (simN v b d).2 = 0; rw [h]; decide) hk
  rw [e]; exact h
theorem op_settles {v : Nat → Int32} {nb nw nc : Nat} {m : MM} (h : Rlt v nb nw nc m) (x : Int32) : Eq2 (fX6_settles 0 x) (fX7_settles 0 x) m := by
  cases hg : (inB x nb)
  · refine Eq2.bad h ?_ ?_
    · rw [fX6_settles_eq]; unfold fX6_settles_b
      cases g_x : inB x nb <;> first | (simp only [e5_bottleAt h.1, g_x, Option.bind_some, bind_eta, bI_0, bI_1, reduceCtorEq, not_true, not_false_eq_true, if_true, if_false]; done) | (rw [g_x] at hg; cases hg)
    · intro m1 h1
      rw [fX7_settles_eq]; unfold fX7_settles_b
      cases g_x : inB x nb <;> first | (simp only [e7_isBottle h1, g_x, Option.bind_some, bind_eta, bI_0, bI_1, reduceCtorEq, not_true, not_false_eq_true, if_true, if_false, Bool.and_true, Bool.and_false, Bool.true_and, Bool.false_and]; done) | (rw [g_x] at hg; cases hg)
  · have g_x := hg
    obtain ⟨hl_b, he_b⟩ := inB_ex g_x
    have hu_b := n_clb x
    have hc_b : ∀ k, k = x.toNatClampNeg → (nI k).toNatClampNeg = k := fun k hk => n_cl (by omega)
    replace hc_b := hc_b _ rfl
    generalize x.toNatClampNeg = b at hl_b he_b hc_b hu_b
    subst he_b
    have hnb := h.1.nb.2.1
    have hnc := h.1.nc
    have hT := simN_nc h.1.1 hl_b
    refine Eq2.ask h (fst1 (setP v b) 60 1) ?_ ?_
    · rw [fX6_settles_eq]; unfold fX6_settles_b
      simp only [e5_bottleAt h.1, g_x, hc_b, Option.bind_some, bind_eta, bI_0, bI_1, reduceCtorEq, not_true, not_false_eq_true, if_true, if_false]
      refine (q_follow0 h.1 (N := 60) hl_b (by omega) 0).bind ?_
      intro _ m1 ⟨t1, t2⟩
      dsimp only
      rw [show (0 : Int32) = nI 0 from rfl, e_cellAt 0 0 m1 (by omega), (t1 0 (by omega)).1]
      simp only [Option.bind_some]
      refine Ok.bind (P := fun o m' => (match o with | .inl _ => -1 | .inr (.inl x) => x | .inr (.inr _) => -1) = fst1 (setP v b) 60 1 ∧ m' = m1) ?_ ?_
      · refine Ok.count 1 61 (fun i s m' => s = (vis (fun d => (simN v b d).1) (i - 1), nI i) ∧ m' = m1 ∧ ∀ d, 1 ≤ d → d < i → setP v b d = false) ?_ ?_ (by omega) 1000 (by omega) _ m1 ⟨rfl, rfl, fun d h1 h2 => by omega⟩
        · intro i s m' h1 h2 ⟨e1, e2, e3⟩
          subst e1 e2
          obtain ⟨c1, c2⟩ := inB_ex (hT i)
          unfold fX6_settles_b50
          dsimp only
          rw [if_neg (by rw [nI60, n_lt (by omega) (by omega)]; omega), e_cellAt 0 i m' (by omega), (t1 i (by omega)).1]
          simp only [Option.bind_some]
          rw [e_howAt 0 i m' (by omega), (t1 i (by omega)).2]
          simp only [Option.bind_some]
          by_cases q : (simN v b i).2 = 2
          · rw [if_neg (fun h => h q)]
            refine Ok.ret ⟨(fst1_none 60 1 (fun x hx1 hx2 => ?_)).symm, rfl⟩
            by_cases q2 : x < i
            · exact e3 x hx1 q2
            · exact decide_eq_false (fun h => h.1 (set_end q (by omega)))
          · rw [if_pos q]
            have hit : ((vis (fun d => (simN v b d).1) (i - 1)) &&& (1 <<< ((simN v b i).1 &&& 31)) = 0) = (bt (vis (fun d => (simN v b d).1) (i - 1)) (simN v b i).1.toNatClampNeg = false) := by
              have := bt_hit (vis (fun d => (simN v b d).1) (i - 1)) (c := (simN v b i).1.toNatClampNeg) (by omega)
              rw [← c2] at this; exact this
            by_cases q2 : bt (vis (fun d => (simN v b d).1) (i - 1)) (simN v b i).1.toNatClampNeg = true
            · rw [if_neg (by rw [hit, q2]; decide)]
              exact Ok.ret ⟨(fst1_some 60 1 i e3 h1 (by omega) (decide_eq_true ⟨q, q2⟩)).symm, rfl⟩
            · rw [if_pos (by rw [hit]; exact Bool.eq_false_iff.2 q2)]
              refine Ok.ret ⟨?_, rfl, fun d hd1 hd2 => ?_⟩
              · obtain ⟨j, rfl⟩ : ∃ j, i = j + 1 := ⟨i - 1, by omega⟩
                rw [n_s (j + 1)]; rfl
              · by_cases e : d = i
                · rw [e]; exact decide_eq_false (fun h => q2 h.2)
                · exact e3 d hd1 (by omega)
        · intro s m' ⟨e1, e2, e3⟩
          subst e1 e2
          unfold fX6_settles_b50
          dsimp only
          rw [if_pos (show (60 : Int32) < nI 61 by decide)]
          exact Ok.ret ⟨(fst1_none 60 1 (fun x hx1 hx2 => e3 x hx1 (by omega))).symm, rfl⟩
      · intro o m' ⟨e1, e2⟩
        subst e2
        rcases o with o | o | o
        · exact Ok.ret ⟨e1, Dfo_toC t2⟩
        · exact Ok.ret ⟨e1, Dfo_toC t2⟩
        · exact Ok.ret ⟨e1, Dfo_toC t2⟩
    · intro m1 h1
      rw [fX7_settles_eq]; unfold fX7_settles_b
      simp only [e7_isBottle h1.1, g_x, hc_b, Option.bind_some, bind_eta, bI_0, bI_1, reduceCtorEq, not_true, not_false_eq_true, if_true, if_false, Bool.and_true]
      refine (keep_ok 2 m1).bind ?_
      intro _ m2 ⟨k1, k2⟩
      have hL1 : Lv v m2 := Lv_to h1.1.lv k2
      dsimp only
      rw [inB_t (show b < 9 by omega) (by omega)]
      simp only [cond_true]
      have hL2 : Lv (nob v b) (upI m2.1 55 0 b (-1), m2.2) := Lv_one hL1 (by unfold loc; omega) _
      have f12 : FrP Dlv m2 (upI m2.1 55 0 b (-1), m2.2) := FrP.up (m' := m2) FrP.rfl (by unfold Dlv; omega) _
      have e97 : nob v b 97 = nI nb := by unfold nob; rw [upv_nn (by omega)]; exact h1.1.1.1
      have e54 : upI m2.1 55 0 b (-1) 54 0 b = (simN v b 0).1 := by
        rw [upI_nn (by omega), ← (hL1.2.1 b (by omega)).2.2.1]
        show v (48 + b) = nob v b (48 + b)
        rw [nob_at (by omega)]
      rw [e54]
      generalize (upI m2.1 55 0 b (-1), m2.2) = m3 at hL2 f12
      have hw := WFm_nob (b := b) (h1.1.1.m hnb) (by omega) (by omega)
      have hx : ∀ i, i < nb → nob v b (57 + i) = -1 ∨ inB (nob v b (57 + i)) nw = true := by
        intro i hi
        unfold nob
        by_cases e : i = b
        · subst e; rw [upv_same]; exact Or.inl rfl
        · rw [upv_nn (by omega)]; exact Or.inr (h1.1.1.b hi).2.1
      refine Ok.bind (P := fun r m' => r = fst1 (setP v b) 60 1 ∧ ∃ i, SimM nb nw nc m3 i m') ?_ ?_
      · refine Ok.loop (fun k s m' => ∃ i, 1 ≤ i ∧ i ≤ 61 ∧ k = 61 - i ∧ s.2.2 = nI i ∧ SimM nb nw nc m3 (i - 1) m' ∧ ((s.1 = vis (fun d => (simN v b d).1) (i - 1) ∧ s.2.1 = -1 ∧ ∀ d, 1 ≤ d → d < i → setP v b d = false) ∨ (∃ d, 1 ≤ d ∧ d < i ∧ s.2.1 = nI d ∧ setP v b d = true ∧ ∀ e, 1 ≤ e → e < d → setP v b e = false))) ?_ 1000 _ m3 60 (by omega) ⟨1, by omega, by omega, by omega, rfl, SimM.begin (hL2.mv (by omega) hw), Or.inl ⟨rfl, rfl, fun d h1 h2 => by omega⟩⟩
        intro k s m' ⟨i, i1, i2, i3, i4, i5, i6⟩
        obtain ⟨s1, s2, s3⟩ := s
        dsimp only at i4 i6
        subst i4
        unfold fX7_settles_b45
        dsimp only
        have hs := i5.B hL2 hw (by omega) hl_b (hx b hl_b)
        have hs2 : m'.1 56 0 b = (simN v b (i - 1)).2 := hs.2
        rcases i6 with ⟨a1, a2, a3⟩ | ⟨d, a1, a2, a3, a4, a5⟩
        · subst a1 a2
          by_cases e : i = 61
          · subst e
            rw [if_pos (show (60 : Int32) < nI 61 by decide)]
            exact Ok.ret ⟨(fst1_none 60 1 (fun x hx1 hx2 => a3 x hx1 (by omega))).symm, _, i5⟩
          · rw [if_neg (by rw [nI60, n_lt (by omega) (by omega)]; omega), if_neg (by decide), inB_t (show b < 9 by omega) (by omega), n_cl (by omega), hs2]
            simp only [cond_true]
            by_cases q : (simN v b (i - 1)).2 = 2
            · rw [if_pos (by rw [ge2 (simN_how h1.1.1 hl_b _)]; exact q)]
              refine Ok.ret ⟨(fst1_none 60 1 (fun x hx1 hx2 => ?_)).symm, _, i5⟩
              by_cases q2 : x < i
              · exact a3 x hx1 q2
              · exact decide_eq_false (fun h => h.1 (set_end q (by omega)))
            · rw [if_neg (by rw [ge2 (simN_how h1.1.1 hl_b _)]; exact q)]
              have e7 : m'.1 7 0 4 = nI nb := by
                rw [i5.2.2.2.1.1 7 0 4 (by unfold Dps; omega), ← hL2.2.2.2.2.2.2.2.1]; exact e97
              rw [e7]
              refine (SimM.step (by omega) (by omega) i5).bind ?_
              intro _ m4 ⟨q1, _⟩
              obtain ⟨j, rfl⟩ : ∃ j, i = j + 1 := ⟨i - 1, by omega⟩
              have hs' := q1.B hL2 hw (by omega) hl_b (hx b hl_b)
              have c54 : m4.1 54 0 b = (simN v b (j + 1)).1 := hs'.1
              have c56 : m4.1 56 0 b = (simN v b (j + 1)).2 := hs'.2
              obtain ⟨c1, c2⟩ := inB_ex (hT (j + 1))
              dsimp only
              rw [c54, c56]
              have hit : (((vis (fun d => (simN v b d).1) (j + 1 - 1)) >>> ((simN v b (j + 1)).1 &&& 31)) &&& 1 = 1) = (bt (vis (fun d => (simN v b d).1) (j + 1 - 1)) (simN v b (j + 1)).1.toNatClampNeg = true) := by
                have := bt_shr1 (vis (fun d => (simN v b d).1) (j + 1 - 1)) (c := (simN v b (j + 1)).1.toNatClampNeg) (by omega)
                rw [← c2] at this; exact this
              have nx : nI (j + 1) + 1 = nI (j + 1 + 1) := (n_s _).symm
              have no : setP v b (j + 1) = false → Ok (some ((Sum.inl ((vis (fun d => (simN v b d).1) (j + 1 - 1)) ||| (1 <<< ((simN v b (j + 1)).1 &&& 31)), -1, nI (j + 1) + 1) : (Int32 × Int32 × Int32) ⊕ Int32), m4)) (lpQ (fun s' m' => ∃ k', k' < k ∧ ∃ i, 1 ≤ i ∧ i ≤ 61 ∧ k' = 61 - i ∧ s'.2.2 = nI i ∧ SimM nb nw nc m3 (i - 1) m' ∧ ((s'.1 = vis (fun d => (simN v b d).1) (i - 1) ∧ s'.2.1 = -1 ∧ ∀ d, 1 ≤ d → d < i → setP v b d = false) ∨ (∃ d, 1 ≤ d ∧ d < i ∧ s'.2.1 = nI d ∧ setP v b d = true ∧ ∀ e, 1 ≤ e → e < d → setP v b e = false))) (fun r m' => r = fst1 (setP v b) 60 1 ∧ ∃ i, SimM nb nw nc m3 i m')) := by
                intro hp
                refine Ok.ret ⟨61 - (j + 1 + 1), by omega, j + 1 + 1, by omega, by omega, rfl, nx, q1, Or.inl ⟨rfl, rfl, fun d hd1 hd2 => ?_⟩⟩
                by_cases e : d = j + 1
                · rw [e]; exact hp
                · exact a3 d hd1 (by omega)
              by_cases q2 : (simN v b (j + 1)).2 = 2
              · rw [if_pos (by rw [ge2 (simN_how h1.1.1 hl_b _)]; exact q2)]
                exact no (decide_eq_false (fun h => h.1 q2))
              · rw [if_neg (by rw [ge2 (simN_how h1.1.1 hl_b _)]; exact q2)]
                by_cases q3 : bt (vis (fun d => (simN v b d).1) (j + 1 - 1)) (simN v b (j + 1)).1.toNatClampNeg = true
                · rw [if_neg (fun h => h (by rw [hit]; exact q3))]
                  exact Ok.ret ⟨61 - (j + 1 + 1), by omega, j + 1 + 1, by omega, by omega, rfl, nx, q1, Or.inr ⟨j + 1, by omega, by omega, rfl, decide_eq_true ⟨q2, q3⟩, a3⟩⟩
                · rw [if_pos (by rw [hit]; exact q3)]
                  exact no (decide_eq_false (fun h => q3 h.2))
        · have hne : ¬ s2 = -1 := by
            rw [a3]; intro q; exact (n_m1 d (by omega)).1 q
          have res : s2 = fst1 (setP v b) 60 1 := by
            rw [a3, fst1_some 60 1 d a5 a1 (by omega) a4]
          by_cases e : 60 < nI i
          · rw [if_pos e]; exact Ok.ret ⟨res, _, i5⟩
          · rw [if_neg e, if_pos hne]; exact Ok.ret ⟨res, _, i5⟩
      · intro r m4 ⟨r1, i, r2⟩
        exact kept_back h1.1.lv k1 k2 (f12.trans (r2.fr (by omega) h1.1.nw.2.1)) (fun m5 h5 => ⟨r1, Dto_S h5⟩)
