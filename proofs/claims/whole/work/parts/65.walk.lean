/-! PURE: walk; settles, reach, busiest -/
theorem within_lo {x : Int32} (lo hi : Nat) (hl : lo < 1000) (hh : hi < 1000) (m : MM) : fX7_within x (nI lo) (nI hi) m = some (decide (inB x (hi + 1) = true ∧ lo ≤ x.toNatClampNeg), m) := by
  rw [fX7_within_eq]; unfold fX7_within_b
  have i := inB_iff x (hi + 1)
  by_cases h0 : x < nI lo
  · rw [if_pos h0, decide_eq_false]
    intro ⟨a, b⟩
    have := n_clti x (i.1 a).1
    rw [Int32.lt_iff_toInt_lt, n_ti (by omega)] at h0; omega
  · rw [if_neg h0]
    rw [Int32.lt_iff_toInt_lt, n_ti (by omega)] at h0
    have e := n_clti x (by omega)
    by_cases h1 : nI hi < x
    · rw [if_pos h1, decide_eq_false]
      intro ⟨a, b⟩
      have := (i.1 a).2
      rw [Int32.lt_iff_toInt_lt, n_ti (by omega)] at h1; omega
    · rw [if_neg h1, decide_eq_true]
      rw [Int32.lt_iff_toInt_lt, n_ti (by omega)] at h1
      exact ⟨i.2 (by omega), by omega⟩
/-- the row with a walker of another pace and way -/
def wk (v : Nat → Int32) (k : Nat) (p y : Int32) : Nat → Int32 := upv (upv v (81 + k) p) (87 + k) y
theorem WF_wk {v : Nat → Int32} {nb nw nc k : Nat} {p y : Int32} (h : WF v nb nw nc) (hk : k < nw) (hp : inB p 4 = true) (hy : inB y 2 = true) : WF (wk v k p y) nb nw nc := by
  have a := WF_walker h hk (t := 1) (by omega) p (Or.inr (Or.inl ⟨rfl, hp⟩))
  have b := WF_walker a hk (t := 2) (by omega) y (Or.inr (Or.inr ⟨rfl, hy⟩))
  have e : wk v k p y = upv (upv v (75 + 6 * 1 + k) p) (75 + 6 * 2 + k) y := rfl
  rw [e]; exact b
/-- how many of a walker's it finds, walking so -/
def fwk (v : Nat → Int32) (nb k n : Nat) (p y : Int32) : Nat := cnt (fun i => decide (v (57 + i) = nI k ∧ v (66 + i) = 0 ∧ (simV (wk v k p y) i n).2 = 1)) nb
theorem wk_o {v : Nat → Int32} {k j : Nat} {p y : Int32} (h : ¬ (j = 81 + k ∨ j = 87 + k)) : wk v k p y j = v j := by
  unfold wk; rw [upv_nn (by omega), upv_nn (by omega)]
theorem fw6 {v : Nat → Int32} {nb nw nc k n : Nat} {p y : Int32} {m : MM} (h : Rlt v nb nw nc m) (hk : k < nw) (hn : n < 61) (hp : inB p 4 = true) (hy : inB y 2 = true) : Ok (fX6_foundWalking 0 (nI k) p y (nI n) m) (fun r m' => r = nI (fwk v nb k n p y) ∧ FrP ScrC m m') := by
  have hnb := h.1.nb.2.1
  have hnw := h.1.nw.2.1
  rw [fX6_foundWalking_eq]; unfold fX6_foundWalking_b
  rw [e5_walkerAt h.1, inB_t hk (by omega), if_pos rfl, n_cl (by omega)]
  simp only [Option.bind_some, bind_eta]
  rw [fX4_start_eq]; unfold fX4_start_b
  simp only [Option.bind_some]
  obtain ⟨w1, w2, w3⟩ := h.1.wf hk
  rw [w1]
  have f1 : FrP ScrC m (upI (upI (upI m.1 4 22 0 (v (75 + k))) 4 22 1 p) 4 22 2 y, m.2) := by
    refine ⟨fun c i k' q => ?_, rfl⟩
    unfold ScrC at q
    dsimp only
    rw [upI_nn (by omega), upI_nn (by omega), upI_nn (by omega)]
  have e1 : (upI (upI (upI m.1 4 22 0 (v (75 + k))) 4 22 1 p) 4 22 2 y) 4 22 0 = v (75 + k) := by simp only [upI_same, upI_k, upI_c, ne_eq, not_false_eq_true, reduceCtorEq, Nat.reduceEqDiff, Nat.zero_ne_one, Nat.one_ne_zero, and_self]
  have e2 : (upI (upI (upI m.1 4 22 0 (v (75 + k))) 4 22 1 p) 4 22 2 y) 4 22 1 = p := by simp only [upI_same, upI_k, upI_c, ne_eq, not_false_eq_true, reduceCtorEq, Nat.reduceEqDiff, Nat.zero_ne_one, Nat.one_ne_zero, and_self]
  have e3 : (upI (upI (upI m.1 4 22 0 (v (75 + k))) 4 22 1 p) 4 22 2 y) 4 22 2 = y := by simp only [upI_same, upI_k, upI_c, ne_eq, not_false_eq_true, reduceCtorEq, Nat.reduceEqDiff, Nat.zero_ne_one, Nat.one_ne_zero, and_self]
  generalize (upI (upI (upI m.1 4 22 0 (v (75 + k))) 4 22 1 p) 4 22 2 y) = M at *
  refine (Ok.cnts (f := fX6_foundWalking_b37 0 (nI k) (nI n)) nb (fun i => decide (v (57 + i) = nI k ∧ v (66 + i) = 0 ∧ (simV (wk v k p y) i n).2 = 1)) (fun m' => Fr (Dfo 0 0) (M, m.2) m') (by omega) ?_ ?_ _ Fr.rfl).mono (fun r m' ⟨a, f⟩ => ⟨a, f1.trans (Dfo_toC f)⟩)
  · intro i x m' hi f
    have h' := Rel_frC h (f1.trans (Dfo_toC f))
    obtain ⟨b1, b2, b3, b4, b5⟩ := h'.1.bf hi
    unfold fX6_foundWalking_b37
    dsimp only
    rw [h'.1.nb.2.2, if_neg (by rw [n_le (by omega) (by omega)]; omega), e5_bottleAt h'.1, inB_t hi (by omega), n_cl (by omega)]
    simp only [if_true, Option.bind_some]
    rw [b4, b5]
    by_cases q : v (57 + i) = nI k
    · rw [if_neg (fun h => h q)]
      by_cases q2 : v (66 + i) = 0
      · rw [if_neg (fun h => h q2)]
        have hE : cE m' 0 = vE (wk v k p y) := by
          rw [h'.1.E]
          exact (vE_same (fun j hj => wk_o (by omega))).symm
        have hB : BF m'.1 (1 + i) (wk v k p y) i := by
          unfold BF
          rw [wk_o (by omega), wk_o (by omega), wk_o (by omega), wk_o (by omega), wk_o (by omega)]
          exact ⟨b1, b2, b3, b4, b5⟩
        have hf : FinOK m' (wk v k p y) i (some 22) := by
          refine Or.inr ⟨22, rfl, ?_, ?_, ?_⟩
          · rw [wk_o (by omega), q]; exact inB_t (by omega) (by omega)
          · rw [wk_o (by omega), q, n_cl (by omega)]
            unfold WFd wk
            rw [upv_nn (by omega), upv_nn (by omega), upv_nn (show 81 + k ≠ 87 + k by omega), upv_same, upv_same, (f 4 22 (by unfold Dfo; omega) 0).1, (f 4 22 (by unfold Dfo; omega) 1).1, (f 4 22 (by unfold Dfo; omega) 2).1]
            exact ⟨e1, e2, e3⟩
          · rw [(f 4 22 (by unfold Dfo; omega) 1).1]
            dsimp only
            rw [e2]; exact inB_mono hp (by omega)
        refine (soonest_v (N := n) 0 hE hB hf (by omega)).bind ?_
        intro r m2 ⟨r1, r2⟩
        dsimp only
        rw [r1]
        by_cases q3 : til (wk v k p y) i n = -1
        · rw [if_pos q3]
          have q4 := q3
          rw [til_ne _ i n (by omega)] at q4
          rw [if_neg (fun h => q4 (of_decide_eq_true h).2.2)]; exact Ok.ret ⟨rfl, f.trans r2⟩
        · rw [if_neg q3]
          have q4 := q3
          rw [til_ne _ i n (by omega)] at q4
          rw [if_pos (decide_eq_true ⟨q, q2, Classical.not_not.1 q4⟩)]; exact Ok.ret ⟨rfl, f.trans r2⟩
      · rw [if_pos q2, if_neg (fun h => q2 (of_decide_eq_true h).2.1)]; exact Ok.ret ⟨rfl, f⟩
    · rw [if_pos q, if_neg (fun h => q (of_decide_eq_true h).1)]; exact Ok.ret ⟨rfl, f⟩
  · intro x m' f
    have h' := Rel_frC h (f1.trans (Dfo_toC f))
    unfold fX6_foundWalking_b37
    dsimp only
    rw [h'.1.nb.2.2, if_pos (by rw [n_le (by omega) (by omega)]; omega)]
theorem cnt7 {nb : Nat} {x : Int32} (f : Int32 × Int32 → MM → Option (((Int32 × Int32) ⊕ Int32) × MM)) (m : MM) (whose how : Nat → Int32) (hnb : nb ≤ 8)
    (hf : ∀ i y, i < nb → f (y, nI i) m = if ¬ whose i = x then some (Sum.inl (y, nI i + 1), m) else if ¬ how i = 1 then some (Sum.inl (y, nI i + 1), m) else some (Sum.inl (y + 1, nI i + 1), m)) (hx : ∀ y, f (y, nI nb) m = some (Sum.inr y, m)) : Ok (loopF 1000 f (0, 0) m) (fun r m' => r = nI (cnt (fun i => decide (whose i = x ∧ how i = 1)) nb) ∧ m' = m) := by
  refine Ok.cnts nb _ (fun m' => m' = m) (by omega) ?_ ?_ m rfl
  · intro i y m' hi e
    subst e
    rw [hf i y hi]
    by_cases q : whose i = x
    · rw [if_neg (fun h => h q)]
      by_cases q2 : how i = 1
      · rw [if_neg (fun h => h q2), if_pos (decide_eq_true ⟨q, q2⟩)]; exact Ok.ret ⟨rfl, rfl⟩
      · rw [if_pos q2, if_neg (fun h => q2 (of_decide_eq_true h).2)]; exact Ok.ret ⟨rfl, rfl⟩
    · rw [if_pos q, if_neg (fun h => q (of_decide_eq_true h).1)]; exact Ok.ret ⟨rfl, rfl⟩
  · intro y m' e
    subst e
    exact hx y
theorem fw7 {v : Nat → Int32} {nb nw nc k n : Nat} {p y : Int32} {m : MM} (hL : Lv (wk v k p y) m) (h : WF v nb nw nc) (hk : k < nw) (hn : n < 61) (hp : inB p 4 = true) (hy : inB y 2 = true) : Ok (fX7_foundFor 0 (nI k) (nI n) m) (fun r m' => r = nI (fwk v nb k n p y) ∧ FrP (Dto 2) m m') := by
  have hnb := h.2.1
  have hnw := h.2.2.2.1
  have hF := WF_wk h hk hp hy
  rw [fX7_foundFor_eq]; unfold fX7_foundFor_b
  refine (keep_ok 2 m).bind ?_
  intro _ m1 ⟨k1, k2⟩
  have hL1 := Lv_to hL k2
  dsimp only
  refine (cnt7 (nb := nb) (x := nI k) (fX7_foundFor_b16 0 (nI k) (nI n) 0) m1 (fun i => v (57 + i)) (fun i => v (66 + i)) hnb ?_ ?_).bind ?_
  · intro i z hi
    unfold fX7_foundFor_b16
    dsimp only
    obtain ⟨_, _, _, c4, c5⟩ := hL1.2.1 i (by omega)
    rw [hL1.nb hF, if_neg (by rw [n_le (by omega) (by omega)]; omega), inB_t (show i < 9 by omega) (by omega), n_cl (by omega), ← c4, ← c5, wk_o (by omega), wk_o (by omega)]
    rfl
  · intro z
    unfold fX7_foundFor_b16
    dsimp only
    rw [hL1.nb hF, if_pos (by rw [n_le (by omega) (by omega)]; omega)]
  intro had m2 ⟨h1, e⟩
  subst e
  dsimp only
  refine (q_goesOn hL1 hF (n := n) (by omega)).bind ?_
  intro _ m3 ⟨_, s⟩
  dsimp only
  have hs : ∀ i, i < nb → m3.1 56 0 i = (simV (wk v k p y) i n).2 := fun i hi => (s.B hL1 (hF.m hnb) (by omega) hi (Or.inr (hF.b hi).2.1)).2
  have h55 : ∀ i, i < nb → m3.1 55 0 i = v (57 + i) := by
    intro i hi
    obtain ⟨_, _, _, c4, _⟩ := hL1.2.1 i (by omega)
    rw [s.2.2.2.1.1 55 0 i (by unfold Dps; omega), ← c4, wk_o (by omega)]
  have e7 : m3.1 7 0 4 = nI nb := by rw [s.2.2.2.1.1 7 0 4 (by unfold Dps; omega)]; exact hL1.nb hF
  refine (cnt7 (nb := nb) (x := nI k) (fX7_foundFor_b65 0 (nI k) had) m3 (fun i => v (57 + i)) (fun i => (simV (wk v k p y) i n).2) hnb ?_ ?_).bind ?_
  · intro i z hi
    unfold fX7_foundFor_b65
    dsimp only
    rw [e7, if_neg (by rw [n_le (by omega) (by omega)]; omega), inB_t (show i < 9 by omega) (by omega), n_cl (by omega), h55 i hi, hs i hi]
    rfl
  · intro z
    unfold fX7_foundFor_b65
    dsimp only
    rw [e7, if_pos (by rw [n_le (by omega) (by omega)]; omega)]
  intro has m4 ⟨h2, e⟩
  subst e
  dsimp only
  have add : cnt (fun i => decide (v (57 + i) = nI k ∧ v (66 + i) = 1)) nb + fwk v nb k n p y = cnt (fun i => decide (v (57 + i) = nI k ∧ (simV (wk v k p y) i n).2 = 1)) nb := by
    refine cnt_add nb (fun i hi => ?_)
    have e0 : (simV (wk v k p y) i 0).2 = v (66 + i) := by
      show wk v k p y (66 + i) = _
      rw [wk_o (by omega)]
    have st : ¬ v (66 + i) = 0 → (simV (wk v k p y) i n).2 = v (66 + i) := by
      intro q
      rw [← e0] at q ⊢
      exact congrArg Prod.snd (simV_1 q (Nat.zero_le n))
    rw [decide_eq_true_iff, decide_eq_true_iff, decide_eq_true_iff]
    refine ⟨⟨fun ⟨a, b⟩ => ?_, fun h => ?_⟩, fun ⟨⟨_, b⟩, _, d, _⟩ => ?_⟩
    · by_cases q : v (66 + i) = 0
      · exact Or.inr ⟨a, q, b⟩
      · exact Or.inl ⟨a, (st q) ▸ b⟩
    · rcases h with ⟨a, b⟩ | ⟨a, b, c⟩
      · exact ⟨a, (st (by rw [b]; decide)).trans b⟩
      · exact ⟨a, c⟩
    · rw [d] at b; exact absurd b (by decide)
  have hr : has - had = nI (fwk v nb k n p y) := by
    rw [h2, h1, ← n_sub (by omega), ← add, Nat.add_sub_cancel_left]
  rw [hr]
  exact kept_back hL k1 k2 (s.fr (by omega) hnw) (fun m5 h5 => ⟨rfl, h5⟩)
def wkT (v : Nat → Int32) (nb k n : Nat) (i : Nat) : Int32 := nI (fwk v nb k n (nI (i / 2)) (nI (i % 2)))
def wkL (i : Nat) : Int32 := nI (10 * (i / 2) + i % 2)
theorem mxs_start {lab t : Nat → Int32} (n : Nat) (a b : Int32) (h : ¬ t 0 ≤ -1) : mxs lab t (a, -1) (n + 1) = mxs lab t (b, -1) (n + 1) := by
  induction n with
  | zero =>
    show stpM (lab 0) (t 0) (a, -1) = stpM (lab 0) (t 0) (b, -1)
    unfold stpM
    rw [if_neg h, if_neg h]
  | succ n ih =>
    show stpM (lab (n + 1)) (t (n + 1)) (mxs lab t (a, -1) (n + 1)) = stpM (lab (n + 1)) (t (n + 1)) (mxs lab t (b, -1) (n + 1))
    rw [ih]
theorem op_walk {v : Nat → Int32} {nb nw nc : Nat} {m : MM} (h : Rlt v nb nw nc m) (x y z : Int32) : Eq2 (fX6_walk 0 x y z) (fX7_walk 0 x y z) m := by
  have wy : ∀ m, fX7_within y 1 30 m = some (decide (inB y 31 = true ∧ 1 ≤ y.toNatClampNeg), m) := fun m => within_lo 1 30 (by omega) (by omega) m
  have wy6 : ∀ m, fX6_within y 1 30 m = some (decide (inB y 31 = true ∧ 1 ≤ y.toNatClampNeg), m) := fun m => by rw [e6_w7]; exact wy m
  have wz : ∀ m, fX7_within z 0 1 m = some (inB z 2, m) := fun m => e7_within' z 1 m (by omega)
  have wz6 : ∀ m, fX6_within z 0 1 m = some (inB z 2, m) := fun m => e6_within' z 1 m (by omega)
  have hnb := h.1.nb.2.1
  have hnw := h.1.nw.2.1
  cases hg : (inB x nw) && (decide (inB y 31 = true ∧ 1 ≤ y.toNatClampNeg)) && (inB z 2)
  · refine Eq2.bad h ?_ ?_
    · rw [fX6_walk_eq]; unfold fX6_walk_b
      cases g1 : inB x nw <;> cases g2 : decide (inB y 31 = true ∧ 1 ≤ y.toNatClampNeg) <;> cases g3 : inB z 2 <;> first | (simp only [e5_walkerAt h.1, wy6, wz6, g1, g2, g3, Option.bind_some, bind_eta, bI_0, reduceCtorEq, not_true, not_false_eq_true, if_true, if_false]; done) | (rw [g1, g2, g3] at hg; cases hg)
    · intro m1 h1
      rw [fX7_walk_eq]; unfold fX7_walk_b
      cases g1 : inB x nw <;> cases g2 : decide (inB y 31 = true ∧ 1 ≤ y.toNatClampNeg) <;> cases g3 : inB z 2 <;> first | (simp only [e7_isWalker h1, wy, wz, g1, g2, g3, Option.bind_some, bind_eta, bI_0, reduceCtorEq, not_true, not_false_eq_true, if_true, if_false]; done) | (rw [g1, g2, g3] at hg; cases hg)
  · simp only [Bool.and_eq_true] at hg
    obtain ⟨⟨g1, g2⟩, g3⟩ := hg
    obtain ⟨g2a, g2b⟩ := of_decide_eq_true g2
    obtain ⟨hk, e1⟩ := inB_ex g1
    obtain ⟨hn, e2⟩ := inB_ex g2a
    generalize x.toNatClampNeg = k at hk e1
    generalize y.toNatClampNeg = n at *
    subst e1 e2
    have ck : (nI k).toNatClampNeg = k := n_cl (by omega)
    have ix : ∀ p, p < 4 → inB (nI p) 4 = true := fun p hp => inB_t hp (by omega)
    have iy : ∀ p, p < 2 → inB (nI p) 2 = true := fun p hp => inB_t hp (by omega)
    refine Eq2.ask h (if z = 0 then (mxs wkL (wkT v nb k n) (0, -1) 8).1 else (mxs wkL (wkT v nb k n) (0, -1) 8).2) ?_ ?_
    · rw [fX6_walk_eq]; unfold fX6_walk_b
      simp only [e5_walkerAt h.1, wy6, wz6, g1, g2, g3, Option.bind_some, bI_0, reduceCtorEq, not_false_eq_true, if_true, if_false]
      refine Ok.bind (Ok.fold (f := fX6_walk_b47 0 (nI k) (nI n) z) 4 (fun p => ((mxs wkL (wkT v nb k n) (0, -1) (2 * p)).1, (mxs wkL (wkT v nb k n) (0, -1) (2 * p)).2, nI p)) (mxs wkL (wkT v nb k n) (0, -1) 8) (fun _ m' => FrP ScrC m m') ?_ ?_ (by omega) m FrP.rfl) ?_
      · intro p m' hp f
        unfold fX6_walk_b47
        dsimp only
        rw [if_neg (by rw [show (3 : Int32) = nI 3 from rfl, n_lt (by omega) (by omega)]; omega)]
        refine (Ok.fold (f := fX6_walk_b56 0 (nI k) (nI n) z (nI p)) 2 (fun w => ((mxs wkL (wkT v nb k n) (0, -1) (2 * p + w)).1, (mxs wkL (wkT v nb k n) (0, -1) (2 * p + w)).2, nI w)) (mxs wkL (wkT v nb k n) (0, -1) (2 * p + 2)) (fun _ m' => FrP ScrC m m') ?_ ?_ (by omega) m' f).bind ?_
        · intro w m2 hw f2
          have h2 := Rel_frC h f2
          unfold fX6_walk_b56
          dsimp only
          rw [if_neg (by rw [show (1 : Int32) = nI 1 from rfl, n_lt (by omega) (by omega)]; omega)]
          refine (fw6 h2 hk (n := n) (by omega) (ix p hp) (iy w hw)).bind ?_
          intro r m3 ⟨r1, r2⟩
          dsimp only
          have eT : r = wkT v nb k n (2 * p + w) := by
            rw [r1]; unfold wkT
            rw [show (2 * p + w) / 2 = p by omega, show (2 * p + w) % 2 = w by omega]
          have eL : (10 : Int32) * nI p + nI w = wkL (2 * p + w) := by
            unfold wkL
            rw [show (2 * p + w) / 2 = p by omega, show (2 * p + w) % 2 = w by omega, n_add, n_mul]; rfl
          rw [eT, eL, codeM]
          exact Ok.ret ⟨by rw [n_s]; rfl, f2.trans r2⟩
        · intro m2 _
          unfold fX6_walk_b56
          rw [if_pos (show (1 : Int32) < nI 2 by decide)]
        · intro r m2 ⟨r1, f2⟩
          dsimp only
          rw [r1]
          refine Ok.ret ⟨?_, f2⟩
          rw [n_s, show 2 * (p + 1) = 2 * p + 2 by omega]
      · intro m' _
        unfold fX6_walk_b47
        rw [if_pos (show (3 : Int32) < nI 4 by decide)]
      · intro r m' ⟨a, f⟩
        dsimp only
        rw [a]
        by_cases q : z = 0
        · rw [if_neg (fun h => h q), if_pos q]; exact Ok.ret ⟨rfl, f⟩
        · rw [if_pos q, if_neg q]; exact Ok.ret ⟨rfl, f⟩
    · intro m1 h1
      rw [fX7_walk_eq]; unfold fX7_walk_b
      simp only [e7_isWalker h1.1, wy, wz, g1, g2, g3, Option.bind_some, bI_0, reduceCtorEq, not_false_eq_true, if_true, if_false]
      have i6 : (6 : Int32) + nI k = nI (6 + k) := (n_add 6 k).symm
      have i12 : (12 : Int32) + nI k = nI (12 + k) := (n_add 12 k).symm
      rw [i6, i12, inB_t (show 6 + k < 18 by omega) (by omega), inB_t (show 12 + k < 18 by omega) (by omega), n_cl (show 6 + k < 2147483648 by omega), n_cl (show 12 + k < 2147483648 by omega)]
      simp only [cond_true]
      have hLv := h1.1.lv
      have h0 : ¬ wkT v nb k n 0 ≤ -1 := by
        unfold wkT
        rw [Int32.le_iff_toInt_le, n_ti (by have := cnt_le (fun i => decide (v (57 + i) = nI k ∧ v (66 + i) = 0 ∧ (simV (wk v k (nI (0 / 2)) (nI (0 % 2))) i n).2 = 1)) nb; unfold fwk; omega)]
        have t : (-1 : Int32).toInt = -1 := rfl
        omega
      have DK : ∀ m', FrP (fun c i q => Dto 2 c i q ∨ (c = 57 ∧ i = 0 ∧ (q = 6 + k ∨ q = 12 + k))) m1 m' → ∃ p y, Lv (wk v k p y) m' := by
        intro m' f
        refine ⟨m'.1 57 0 (6 + k), m'.1 57 0 (12 + k), ?_⟩
        have g : ∀ c j, ¬ (c = 57 ∧ (j = 6 + k ∨ j = 12 + k)) → c ≠ 62 → m'.1 c 0 j = m1.1 c 0 j := fun c j a b => f.1 c 0 j (by unfold Dto; omega)
        obtain ⟨a1, a2, a3, a4, a5, a6, a7, a8, a9, a10⟩ := hLv
        refine ⟨fun c hc => ?_, fun b hb => ?_, fun q hq => ?_, ?_, ?_, ?_, ?_, ?_, ?_, ?_⟩
        · rw [wk_o (by omega), g 50 c (by omega) (by omega)]; exact a1 c hc
        · rw [wk_o (by omega), wk_o (by omega), wk_o (by omega), wk_o (by omega), wk_o (by omega), g 52 b (by omega) (by omega), g 53 b (by omega) (by omega), g 54 b (by omega) (by omega), g 55 b (by omega) (by omega), g 56 b (by omega) (by omega)]
          exact a2 b hb
        · by_cases e1 : q = 6 + k
          · rw [e1]; unfold wk; rw [upv_nn (by omega), show 75 + (6 + k) = 81 + k by omega, upv_same]
          · by_cases e2 : q = 12 + k
            · rw [e2]; unfold wk; rw [show 75 + (12 + k) = 87 + k by omega, upv_same]
            · rw [wk_o (by omega), g 57 q (by omega) (by omega)]; exact a3 q hq
        · rw [wk_o (by omega), g 7 0 (by omega) (by omega)]; exact a4
        · rw [wk_o (by omega), g 51 0 (by omega) (by omega)]; exact a5
        · rw [wk_o (by omega), g 51 1 (by omega) (by omega)]; exact a6
        · rw [wk_o (by omega), g 7 3 (by omega) (by omega)]; exact a7
        · rw [wk_o (by omega), g 7 4 (by omega) (by omega)]; exact a8
        · rw [wk_o (by omega), g 7 10 (by omega) (by omega)]; exact a9
        · rw [wk_o (by omega), g 7 12 (by omega) (by omega)]; exact a10
      refine Ok.bind (Ok.fold (f := fX7_walk_b66 0 (nI k) (nI n) z (m1.1 57 0 (6 + k)) (m1.1 57 0 (12 + k))) 8 (fun i => ((mxs wkL (wkT v nb k n) (-1, -1) i).1, (mxs wkL (wkT v nb k n) (-1, -1) i).2, nI i)) (mxs wkL (wkT v nb k n) (-1, -1) 8) (fun _ m' => FrP (fun c i q => Dto 2 c i q ∨ (c = 57 ∧ i = 0 ∧ (q = 6 + k ∨ q = 12 + k))) m1 m') ?_ ?_ (by omega) m1 FrP.rfl) ?_
      · intro i m' hi f
        unfold fX7_walk_b66
        dsimp only
        have d2 : nI i / 2 = nI (i / 2) ∧ nI i - nI (i / 2) * 2 = nI (i % 2) := by
          have : ∀ i : Fin 8, nI i.val / 2 = nI (i.val / 2) ∧ nI i.val - nI (i.val / 2) * 2 = nI (i.val % 2) := by decide
          exact this ⟨i, hi⟩
        rw [if_neg (by rw [show (8 : Int32) = nI 8 from rfl, n_le (by omega) (by omega)]; omega), i6, i12, inB_t (show 6 + k < 18 by omega) (by omega), inB_t (show 12 + k < 18 by omega) (by omega), n_cl (show 6 + k < 2147483648 by omega), n_cl (show 12 + k < 2147483648 by omega), d2.1, d2.2]
        simp only [cond_true]
        obtain ⟨p0, y0, hL⟩ := DK m' f
        have hL2 : Lv (wk v k (nI (i / 2)) (nI (i % 2))) (upI (upI m'.1 57 0 (6 + k) (nI (i / 2))) 57 0 (12 + k) (nI (i % 2)), m'.2) := by
          have a := Lv_one (m := (upI m'.1 57 0 (6 + k) (nI (i / 2)), m'.2)) (Lv_one hL (c := 57) (j := 6 + k) (k := 81 + k) (by unfold loc; omega) (nI (i / 2))) (c := 57) (j := 12 + k) (k := 87 + k) (by unfold loc; omega) (nI (i % 2))
          have e : upv (upv (wk v k p0 y0) (81 + k) (nI (i / 2))) (87 + k) (nI (i % 2)) = wk v k (nI (i / 2)) (nI (i % 2)) := by
            funext j
            unfold wk upv
            by_cases q1 : j = 87 + k
            · simp only [q1, if_true]
            · by_cases q2 : j = 81 + k
              · simp only [q1, q2, if_true, if_false]
              · simp only [q1, q2, if_false]
          rw [e] at a; exact a
        have f2 : FrP (fun c i q => Dto 2 c i q ∨ (c = 57 ∧ i = 0 ∧ (q = 6 + k ∨ q = 12 + k))) m1 (upI (upI m'.1 57 0 (6 + k) (nI (i / 2))) 57 0 (12 + k) (nI (i % 2)), m'.2) := FrP.up (m' := (upI m'.1 57 0 (6 + k) (nI (i / 2)), m'.2)) (FrP.up f (by omega) _) (by omega) _
        generalize (upI (upI m'.1 57 0 (6 + k) (nI (i / 2))) 57 0 (12 + k) (nI (i % 2)), m'.2) = m2 at hL2 f2
        refine (fw7 hL2 h1.1.1 hk (n := n) (by omega) (ix _ (by omega)) (iy _ (by omega))).bind ?_
        intro r m3 ⟨r1, r2⟩
        dsimp only
        have eT : r = wkT v nb k n i := r1
        have eL : (10 : Int32) * nI (i / 2) + nI (i % 2) = wkL i := by
          unfold wkL; rw [n_add, n_mul]; rfl
        rw [eT, eL, codeM']
        exact Ok.ret ⟨by rw [n_s]; rfl, f2.trans (r2.mono (fun c i k q => Or.inl q))⟩
      · intro m' _
        unfold fX7_walk_b66
        rw [if_pos (show (8 : Int32) ≤ nI 8 by decide)]
      · intro r m' ⟨a, f⟩
        dsimp only
        rw [a]
        have f' : FrP (Dto 2) m1 (upI (upI m'.1 57 0 (6 + k) (m1.1 57 0 (6 + k))) 57 0 (12 + k) (m1.1 57 0 (12 + k)), m'.2) := by
          refine ⟨fun c i q hq => ?_, f.2⟩
          dsimp only
          by_cases e1 : c = 57 ∧ i = 0 ∧ q = 12 + k
          · obtain ⟨e1, e2, e3⟩ := e1
            subst e1 e2 e3
            exact upI_same _ _ _ _ _
          · rw [upI_nn e1]
            by_cases e2 : c = 57 ∧ i = 0 ∧ q = 6 + k
            · obtain ⟨e1, e2, e3⟩ := e2
              subst e1 e2 e3
              exact upI_same _ _ _ _ _
            · rw [upI_nn e2]; exact f.1 c i q (by unfold Dto at *; omega)
        have e8 : mxs wkL (wkT v nb k n) (-1, -1) 8 = mxs wkL (wkT v nb k n) (0, -1) 8 := mxs_start 7 _ _ h0
        rw [e8]
        by_cases q : z = 0
        · rw [if_neg (fun h => h q), if_pos q]; exact Ok.ret ⟨rfl, Dto_S f'⟩
        · rw [if_pos q, if_neg q]; exact Ok.ret ⟨rfl, Dto_S f'⟩
