/-! PURE: days in truth -/
/-- a walker, and a bottle, a day on -/
def nxW (v : Nat → Int32) (k : Nat) : CH := strl (v 93) (v (81 + k)) (vW v k)
def nxB (v : Nat → Int32) (b : Nat) : CH := spd (vE v) (v 95) (v (30 + b)) (v (39 + b)) (nxW v (v (57 + b)).toNatClampNeg).1 (vB v b)
/-- the row a day on -/
def adv (nb nw : Nat) (v : Nat → Int32) : Nat → Int32 := fun j =>
  if 48 ≤ j ∧ j < 48 + nb then (nxB v (j - 48)).1 else if 66 ≤ j ∧ j < 66 + nb then (nxB v (j - 66)).2 else if 75 ≤ j ∧ j < 75 + nw then (nxW v (j - 75)).1 else if 87 ≤ j ∧ j < 87 + nw then (nxW v (j - 87)).2 else if j = 95 then mnI 999 (v 95 + 1) else v j
theorem adv_c {nb nw b : Nat} {v : Nat → Int32} (hb : b < nb) : adv nb nw v (48 + b) = (nxB v b).1 := by
  unfold adv; rw [if_pos (by omega), show 48 + b - 48 = b by omega]
theorem adv_h {nb nw b : Nat} {v : Nat → Int32} (hb : b < nb) (h8 : nb ≤ 8) : adv nb nw v (66 + b) = (nxB v b).2 := by
  unfold adv; rw [if_neg (by omega), if_pos (by omega), show 66 + b - 66 = b by omega]
theorem adv_w {nb nw k : Nat} {v : Nat → Int32} (hk : k < nw) (h8 : nb ≤ 8) : adv nb nw v (75 + k) = (nxW v k).1 := by
  unfold adv; rw [if_neg (by omega), if_neg (by omega), if_pos (by omega), show 75 + k - 75 = k by omega]
theorem adv_y {nb nw k : Nat} {v : Nat → Int32} (hk : k < nw) (h8 : nb ≤ 8) (h6 : nw ≤ 6) : adv nb nw v (87 + k) = (nxW v k).2 := by
  unfold adv; rw [if_neg (by omega), if_neg (by omega), if_neg (by omega), if_pos (by omega), show 87 + k - 87 = k by omega]
theorem adv_d {nb nw : Nat} {v : Nat → Int32} (h8 : nb ≤ 8) (h6 : nw ≤ 6) : adv nb nw v 95 = mnI 999 (v 95 + 1) := by
  unfold adv; rw [if_neg (by omega), if_neg (by omega), if_neg (by omega), if_neg (by omega), if_pos rfl]
theorem adv_o {nb nw j : Nat} {v : Nat → Int32} (h : ¬ ((48 ≤ j ∧ j < 48 + nb) ∨ (66 ≤ j ∧ j < 66 + nb) ∨ (75 ≤ j ∧ j < 75 + nw) ∨ (87 ≤ j ∧ j < 87 + nw) ∨ j = 95)) : adv nb nw v j = v j := by
  unfold adv; rw [if_neg (by omega), if_neg (by omega), if_neg (by omega), if_neg (by omega), if_neg (by omega)]
theorem WF_adv {v : Nat → Int32} {nb nw nc : Nat} (h : WF v nb nw nc) : WF (adv nb nw v) nb nw nc := by
  have h' := h
  obtain ⟨h1, h2, h3, h4, h5, h6, h7, h8, h9, h10, h11⟩ := h
  have cell : ∀ b, b < nb → inB (nxB v b).1 nc = true := fun b hb => spd_nc h5 (by omega) h7 (h9 b hb).1
  refine ⟨by rw [adv_o (by omega)]; exact h1, h2, by rw [adv_o (by omega)]; exact h3, h4, by rw [adv_o (by omega)]; exact h5, h6, h7, ?_, ?_, ?_, ?_⟩
  · intro b hb
    rw [adv_o (j := 57 + b) (by omega)]
    refine ⟨?_, (h8 b hb).2⟩
    by_cases e : b < nb
    · rw [adv_c e]; exact inB_mono (cell b e) h7
    · rw [adv_o (j := 48 + b) (by omega)]; exact (h8 b hb).1
  · intro b hb
    rw [adv_c hb, adv_h hb h2, adv_o (j := 57 + b) (by omega), adv_o (j := 30 + b) (by omega)]
    exact ⟨cell b hb, (h9 b hb).2.1, how_in (h9 b hb).2.2.1, (h9 b hb).2.2.2⟩
  · intro k hk
    unfold vW
    rw [adv_o (j := 81 + k) (by omega), adv_w hk h2, adv_y hk h2 h4]
    refine ⟨(h10 k hk).1, ?_⟩
    have := stN_ok (h10 k hk).2 (show 2 ≤ nc by omega) (by omega) (v (81 + k)).toNatClampNeg
    have e : nxW v k = stN (nI nc) (vW v k) (v (81 + k)).toNatClampNeg := by unfold nxW strl; rw [h5]
    rw [← e] at this; exact this
  · rw [adv_d h2 h4]
    obtain ⟨a, b⟩ := inB_ex h11
    refine mn_day ?_
    rw [b, ← n_s, n_ti (by omega)]; omega
/-- how many are found on a day -/
def nfn (nb : Nat) (v : Nat → Int32) : Nat := cnt (fun b => decide (v (66 + b) = 0 ∧ (nxB v b).2 = 1)) nb
theorem day7 {v : Nat → Int32} {nb nw nc : Nat} {m : MM} (hL : Lv v m) (h : WF v nb nw nc) : Ok (fX7_passes 0 (nI nb) m) (fun r m' => r = nI (nfn nb v) ∧ Lv (adv nb nw v) m' ∧ FrP (Dps nb nw) m m') := by
  have hnb := h.2.1
  have hnw := h.2.2.2.1
  refine (passes_ok nb m (by omega) (hL.mv (by omega) (h.m hnb))).mono ?_
  intro r m' ⟨p1, p2, p3, p4, p5⟩
  have hL' := hL
  obtain ⟨a1, a2, a3, a4, a5, a6, a7, a8, a9, a10⟩ := hL
  have eW : ∀ k, k < nw → mW m' k = nxW v k := by
    intro k hk
    obtain ⟨w1, w2⟩ := hL'.W (show k < 6 by omega)
    rw [p2 k hk]
    unfold stl1 nxW
    rw [w1, w2, h.2.2.2.2.1]
  have eB : ∀ b, b < nb → mB m' b = nxB v b := by
    intro b hb
    obtain ⟨x1, x2, _, x4, _⟩ := a2 b (by omega)
    rw [p1 b hb, hL'.E, hL'.B (show b < 9 by omega), ← a6, ← x1, ← x2]
    unfold nxB
    have hf : fA m m' b = (nxW v (v (57 + b)).toNatClampNeg).1 := by
      unfold fA
      obtain ⟨y1, y2⟩ := inB_ex (h.b hb).2.1
      rw [← x4, if_neg (fun q => by have := (h.b hb).2.1; rw [q, inB_m1] at this; cases this)]
      exact congrArg Prod.fst (eW _ y1)
    rw [hf]
  refine ⟨?_, ?_, p4⟩
  · rw [p5]
    refine congrArg nI (cnt_congr nb (fun b hb => ?_))
    rw [eB b hb, hL'.B (show b < 9 by omega)]; rfl
  · have fr : ∀ c k, ¬ Dps nb nw c 0 k → m'.1 c 0 k = m.1 c 0 k := fun c k q => p4.1 c 0 k q
    refine ⟨fun c hc => ?_, fun b hb => ?_, fun k hk => ?_, ?_, ?_, ?_, ?_, ?_, ?_, ?_⟩
    · rw [adv_o (by omega), fr 50 c (by unfold Dps; omega)]; exact a1 c hc
    · obtain ⟨x1, x2, x3, x4, x5⟩ := a2 b hb
      rw [adv_o (j := 30 + b) (by omega), adv_o (j := 39 + b) (by omega), adv_o (j := 57 + b) (by omega), fr 52 b (by unfold Dps; omega), fr 53 b (by unfold Dps; omega), fr 55 b (by unfold Dps; omega)]
      refine ⟨x1, x2, ?_, x4, ?_⟩
      · by_cases e : b < nb
        · rw [adv_c e]; exact (congrArg Prod.fst (eB b e)).symm
        · rw [adv_o (by omega), fr 54 b (by unfold Dps; omega)]; exact x3
      · by_cases e : b < nb
        · rw [adv_h e hnb]; exact (congrArg Prod.snd (eB b e)).symm
        · rw [adv_o (by omega), fr 56 b (by unfold Dps; omega)]; exact x5
    · by_cases e : k < nw
      · rw [adv_w e hnb]; exact (congrArg Prod.fst (eW k e)).symm
      · by_cases e2 : 12 ≤ k ∧ k < 12 + nw
        · obtain ⟨q, rfl⟩ : ∃ q, k = 12 + q := ⟨k - 12, by omega⟩
          rw [show 75 + (12 + q) = 87 + q by omega, adv_y (by omega) hnb hnw]
          exact (congrArg Prod.snd (eW q (by omega))).symm
        · rw [adv_o (by omega), fr 57 k (by unfold Dps; omega)]; exact a3 k hk
    · rw [adv_o (by omega), fr 7 0 (by unfold Dps; omega)]; exact a4
    · rw [adv_o (by omega), fr 51 0 (by unfold Dps; omega)]; exact a5
    · rw [adv_d hnb hnw, p3, a6]
    · rw [adv_o (by omega), fr 7 3 (by unfold Dps; omega)]; exact a7
    · rw [adv_o (by omega), fr 7 4 (by unfold Dps; omega)]; exact a8
    · rw [adv_o (by omega), fr 7 10 (by unfold Dps; omega)]; exact a9
    · rw [adv_o (by omega), fr 7 12 (by unfold Dps; omega)]; exact a10
/-! the class's -/
def DdW : Nat → Nat → Nat → Prop := fun c i k => c = 4 ∧ 1 ≤ i ∧ i ≤ 6 ∧ (k = 0 ∨ k = 2)
def DdB : Nat → Nat → Nat → Prop := fun c i k => c = 0 ∧ 1 ≤ i ∧ i ≤ 8 ∧ (k = 2 ∨ k = 4)
theorem day6_1 {v : Nat → Int32} {nb nw nc : Nat} {m : MM} (hW : RelW m.1 0 nb nw v) (h : WF v nb nw nc) : Ok (loopF 1000 (fX5_passDay_b2 0) 0 m) (fun _ m' => (∀ k, k < nw → rW m' (1 + k) = nxW v k) ∧ FrP DdW m m') := by
  have hnw := h.2.2.2.1
  obtain ⟨a1, a2, a3, a4, a5, a6, a7, a8, a9, a10⟩ := hW
  refine Ok.count 0 nw (fun i s m' => s = nI i ∧ (∀ k, k < i → rW m' (1 + k) = nxW v k) ∧ FrP (fun c i' k => DdW c i' k ∧ i' ≤ i) m m') ?_ ?_ (by omega) 1000 (by omega) 0 m ⟨rfl, fun k h => by omega, FrP.rfl⟩
  · intro i s m' _ hi ⟨e1, e2, f⟩
    subst e1
    unfold fX5_passDay_b2
    have c6 : m'.1 5 0 6 = nI nw := by rw [f.1 5 0 6 (by unfold DdW; omega), a7]; exact h.2.2.1
    have c0 : m'.1 5 0 0 = v 93 := (f.1 5 0 0 (by unfold DdW; omega)).trans a1
    obtain ⟨w1, w2, w3⟩ := a10 i hi
    rw [Nat.mul_zero, Nat.zero_add] at w1 w2 w3
    have p1 : m'.1 4 (1 + i) 1 = v (81 + i) := (f.1 4 (1 + i) 1 (by unfold DdW; omega)).trans w2
    have p2 : rW m' (1 + i) = vW v i := by
      unfold rW vW
      rw [f.1 4 (1 + i) 0 (by unfold DdW; omega), f.1 4 (1 + i) 2 (by unfold DdW; omega), w1, w3]
    rw [c6, if_neg (by rw [n_le (by omega) (by omega)]; omega), e_walkerAt 0 _ nw m' c6 hnw, inB_t hi (by omega), if_pos rfl, n_cl (by omega)]
    simp only [Option.bind_some]
    rw [Nat.mul_zero, Nat.zero_add, c0, e_stroll (1 + i) _ m' (by rw [p1]; exact h.p100 hi), p1, p2]
    refine Ok.ret ⟨(n_s i).symm, fun k hk => ?_, ?_⟩
    · show rW (upW m' (1 + i) (nxW v i)) (1 + k) = _
      by_cases e : k = i
      · subst e; exact rW_up _ _ _
      · rw [← e2 k (by omega)]
        unfold rW upW
        dsimp only
        rw [upI_nn (by omega), upI_nn (by omega), upI_nn (by omega), upI_nn (by omega)]
    · refine ⟨fun c i' k q => ?_, f.2⟩
      show (upW m' (1 + i) (nxW v i)).1 c i' k = _
      unfold upW
      dsimp only
      unfold DdW at q
      rw [upI_nn (by omega), upI_nn (by omega)]
      exact f.1 c i' k (by unfold DdW; omega)
  · intro s m' ⟨e1, e2, f⟩
    unfold fX5_passDay_b2
    rw [e1, f.1 5 0 6 (by unfold DdW; omega), a7, h.2.2.1, if_pos (by rw [n_le (by omega) (by omega)]; omega)]
    exact Ok.ret ⟨e2, f.mono (fun c i k q => q.1)⟩
theorem day6_2 {v : Nat → Int32} {nb nw nc : Nat} {m0 m : MM} (hW : RelW m0.1 0 nb nw v) (h : WF v nb nw nc) (f0 : FrP DdW m0 m) (hw : ∀ k, k < nw → rW m (1 + k) = nxW v k) : Ok (loopF 1000 (fX5_passDay_b38 0) (0, 0) m) (fun r m' => r = nI (nfn nb v) ∧ (∀ b, b < nb → rB m' (1 + b) = nxB v b) ∧ FrP DdB m m') := by
  have hnw := h.2.2.2.1
  have hnb := h.2.1
  have hE : cE m 0 = vE v := by
    rw [← hW.E]
    unfold cE
    have : flw m 0 = flw m0 0 := by funext c; unfold flw; rw [f0.1 40 0 _ (by unfold DdW; omega)]
    rw [this, f0.1 5 0 0 (by unfold DdW; omega), f0.1 5 0 1 (by unfold DdW; omega), f0.1 5 0 2 (by unfold DdW; omega)]
  obtain ⟨a1, a2, a3, a4, a5, a6, a7, a8, a9, a10⟩ := hW
  refine Ok.count 0 nb (fun i s m' => s = (nI (cnt (fun b => decide (v (66 + b) = 0 ∧ (nxB v b).2 = 1)) i), nI i) ∧ (∀ b, b < i → rB m' (1 + b) = nxB v b) ∧ FrP (fun c i' k => DdB c i' k ∧ i' ≤ i) m m') ?_ ?_ (by omega) 1000 (by omega) (0, 0) m ⟨rfl, fun k h => by omega, FrP.rfl⟩
  · intro i s m' _ hi ⟨e1, e2, f⟩
    subst e1
    unfold fX5_passDay_b38
    dsimp only
    have c5 : m'.1 5 0 5 = nI nb := by rw [f.1 5 0 5 (by unfold DdB; omega), f0.1 5 0 5 (by unfold DdW; omega), a6]; exact h.1
    have c6 : m'.1 5 0 6 = nI nw := by rw [f.1 5 0 6 (by unfold DdB; omega), f0.1 5 0 6 (by unfold DdW; omega), a7]; exact h.2.2.1
    have c2 : m'.1 5 0 2 = v 95 := by rw [f.1 5 0 2 (by unfold DdB; omega), f0.1 5 0 2 (by unfold DdW; omega), a3]
    obtain ⟨b1, b2, b3, b4, b5⟩ := a9 i hi
    rw [Nat.mul_zero, Nat.zero_add] at b1 b2 b3 b4 b5
    have g : ∀ k, m'.1 0 (1 + i) k = m0.1 0 (1 + i) k := fun k => (f.1 0 (1 + i) k (by unfold DdB; omega)).trans (f0.1 0 (1 + i) k (by unfold DdW; omega))
    have hx := (h.b hi).2.1
    obtain ⟨hx1, hx2⟩ := inB_ex hx
    have hE' : cE m' 0 = vE v := by
      rw [← hE]
      unfold cE
      have : flw m' 0 = flw m 0 := by funext c; unfold flw; rw [f.1 40 0 _ (by unfold DdB; omega)]
      rw [this, f.1 5 0 0 (by unfold DdB; omega), f.1 5 0 1 (by unfold DdB; omega), f.1 5 0 2 (by unfold DdB; omega)]
    have rb : rB m' (1 + i) = vB v i := by unfold rB vB; rw [g, g, b3, b5]
    rw [c5, if_neg (by rw [n_le (by omega) (by omega)]; omega), e_bottleAt 0 _ nb m' c5 hnb, inB_t hi (by omega), if_pos rfl, n_cl (by omega)]
    simp only [Option.bind_some]
    rw [Nat.mul_zero, Nat.zero_add, g 4, b5]
    by_cases q : v (66 + i) = 0
    · rw [if_pos q, g 3, b4, e_walkerAt 0 _ nw m' c6 hnw, if_pos hx]
      simp only [Option.bind_some]
      have wl : m'.1 4 (7 * 0 + 1 + (v (57 + i)).toNatClampNeg) 0 = (nxW v (v (57 + i)).toNatClampNeg).1 := by
        rw [Nat.mul_zero, Nat.zero_add, f.1 4 _ 0 (by unfold DdB; omega)]
        exact congrArg Prod.fst (hw _ hx1)
      rw [wl, c2, e_spend, hE', g 0, g 1, b1, b2, rb]
      simp only [Option.bind_some]
      have en : spd (vE v) (v 95) (v (30 + i)) (v (39 + i)) (nxW v (v (57 + i)).toNatClampNeg).1 (vB v i) = nxB v i := rfl
      rw [en]
      have k2 : (upB m' (1 + i) (nxB v i)).1 0 (1 + i) 4 = (nxB v i).2 := by unfold upB; simp only [upI_same, upI_k, upI_c, ne_eq, not_false_eq_true, reduceCtorEq, Nat.reduceEqDiff, Nat.zero_ne_one, Nat.one_ne_zero, and_self]
      have fr : FrP (fun c i' k => DdB c i' k ∧ i' ≤ i + 1) m (upB m' (1 + i) (nxB v i)) := by
        refine ⟨fun c i' k q => ?_, f.2⟩
        unfold upB
        dsimp only
        unfold DdB at q
        rw [upI_nn (by omega), upI_nn (by omega)]
        exact f.1 c i' k (by unfold DdB; omega)
      have nb' : ∀ b, b < i + 1 → rB (upB m' (1 + i) (nxB v i)) (1 + b) = nxB v b := by
        intro b hb
        by_cases e : b = i
        · subst e; unfold rB upB; simp only [upI_same, upI_k, upI_c, ne_eq, not_false_eq_true, reduceCtorEq, Nat.reduceEqDiff, Nat.zero_ne_one, Nat.one_ne_zero, and_self]
        · rw [← e2 b (by omega)]
          unfold rB upB
          dsimp only
          rw [upI_nn (by omega), upI_nn (by omega), upI_nn (by omega), upI_nn (by omega)]
      rw [k2]
      by_cases q2 : (nxB v i).2 = 1
      · rw [if_neg (fun h => h q2)]
        refine Ok.ret ⟨?_, nb', fr⟩
        rw [cnt_t (decide_eq_true ⟨q, q2⟩), n_s, n_s]
      · rw [if_pos q2]
        refine Ok.ret ⟨?_, nb', fr⟩
        rw [cnt_f (fun h => q2 (of_decide_eq_true h).2), n_s]
    · rw [if_neg q]
      refine Ok.ret ⟨?_, fun b hb => ?_, f.mono (fun c i k q => ⟨q.1, by omega⟩)⟩
      · rw [cnt_f (fun h => q (of_decide_eq_true h).1), n_s]
      · by_cases e : b = i
        · subst e
          rw [rb]
          unfold nxB spd
          rw [if_neg (show ¬ (vB v b).2 = 0 from q)]
        · exact e2 b (by omega)
  · intro s m' ⟨e1, e2, f⟩
    unfold fX5_passDay_b38
    rw [e1, f.1 5 0 5 (by unfold DdB; omega), f0.1 5 0 5 (by unfold DdW; omega), a6, h.1, if_pos (by rw [n_le (by omega) (by omega)]; omega)]
    exact Ok.ret ⟨rfl, e2, f.mono (fun c i k q => q.1)⟩
/-- the places of the class's world of now -/
def DNW : Nat → Nat → Nat → Prop := fun c i k => (c = 5 ∧ i = 0) ∨ (c = 0 ∧ 1 ≤ i ∧ i ≤ 8) ∨ (c = 4 ∧ 1 ≤ i ∧ i ≤ 6)
theorem day6 {v : Nat → Int32} {nb nw nc : Nat} {m : MM} (hW : RelW m.1 0 nb nw v) (h : WF v nb nw nc) : Ok (fX5_passDay 0 m) (fun r m' => r = nI (nfn nb v) ∧ RelW m'.1 0 nb nw (upv (adv nb nw v) 96 (v 96 + nI (nfn nb v))) ∧ FrP DNW m m') := by
  have hnb := h.2.1
  have hnw := h.2.2.2.1
  rw [fX5_passDay_eq]; unfold fX5_passDay_b
  refine (day6_1 hW h).bind ?_
  intro _ m1 ⟨w1, f1⟩
  refine (day6_2 hW h f1 w1).bind ?_
  intro r m2 ⟨r1, r2, f2⟩
  rw [e_dayBehind]
  simp only [Option.bind_some]
  have F : ∀ c i k, ¬ (DdW c i k ∨ DdB c i k) → m2.1 c i k = m.1 c i k := fun c i k q => (f2.1 c i k (fun x => q (Or.inr x))).trans (f1.1 c i k (fun x => q (Or.inl x)))
  obtain ⟨a1, a2, a3, a4, a5, a6, a7, a8, a9, a10⟩ := hW
  have d2 : (upI m2.1 5 0 3 (m2.1 5 0 3 + r)) 5 0 2 = v 95 := by
    rw [upI_nn (by omega), F 5 0 2 (by unfold DdW DdB; omega), a3]
  have d3 : m2.1 5 0 3 = v 96 := by rw [F 5 0 3 (by unfold DdW DdB; omega), a4]
  rw [d2, d3, r1]
  refine Ok.ret ⟨rfl, ?_, ?_⟩
  · have g5 : ∀ k, k ≠ 3 → k ≠ 2 → (upI (upI m2.1 5 0 3 (v 96 + nI (nfn nb v))) 5 0 2 (mnI 999 (v 95 + 1))) 5 0 k = m.1 5 0 k := by
      intro k h1 h2
      rw [upI_nn (by omega), upI_nn (by omega), F 5 0 k (by unfold DdW DdB; omega)]
    have o : ∀ j, j ≠ 96 → upv (adv nb nw v) 96 (v 96 + nI (nfn nb v)) j = adv nb nw v j := fun j hj => upv_nn hj
    refine ⟨?_, ?_, ?_, ?_, ?_, ?_, ?_, ?_, ?_, ?_⟩
    · rw [o 93 (by omega), adv_o (by omega)]; dsimp only; rw [g5 0 (by omega) (by omega)]; exact a1
    · rw [o 94 (by omega), adv_o (by omega)]; dsimp only; rw [g5 1 (by omega) (by omega)]; exact a2
    · rw [o 95 (by omega), adv_d hnb hnw]; dsimp only; rw [upI_same]
    · dsimp only; rw [upI_nn (by omega), upI_same, upv_same]
    · rw [o 99 (by omega), adv_o (by omega)]; dsimp only; rw [g5 4 (by omega) (by omega)]; exact a5
    · rw [o 97 (by omega), adv_o (by omega)]; dsimp only; rw [g5 5 (by omega) (by omega)]; exact a6
    · rw [o 98 (by omega), adv_o (by omega)]; dsimp only; rw [g5 6 (by omega) (by omega)]; exact a7
    · intro c hc
      rw [o c (by omega), adv_o (by omega)]; dsimp only
      rw [upI_nn (by omega), upI_nn (by omega), F 40 0 c (by unfold DdW DdB; omega)]; exact a8 c hc
    · intro b hb
      obtain ⟨b1, b2, b3, b4, b5⟩ := a9 b hb
      rw [Nat.mul_zero, Nat.zero_add] at b1 b2 b3 b4 b5 ⊢
      have e := r2 b hb
      have e2 : m2.1 0 (1 + b) 2 = (nxB v b).1 := congrArg Prod.fst e
      have e4 : m2.1 0 (1 + b) 4 = (nxB v b).2 := congrArg Prod.snd e
      unfold BF
      try dsimp only
      rw [o (30 + b) (by omega), o (39 + b) (by omega), o (48 + b) (by omega), o (57 + b) (by omega), o (66 + b) (by omega), adv_c hb, adv_h hb hnb, adv_o (j := 30 + b) (by omega), adv_o (j := 39 + b) (by omega), adv_o (j := 57 + b) (by omega)]
      rw [upI_nn (by omega), upI_nn (by omega), upI_nn (by omega), upI_nn (by omega), upI_nn (by omega), upI_nn (by omega), upI_nn (by omega), upI_nn (by omega), upI_nn (by omega), upI_nn (by omega), e2, e4, F 0 (1 + b) 0 (by unfold DdW DdB; omega), F 0 (1 + b) 1 (by unfold DdW DdB; omega), F 0 (1 + b) 3 (by unfold DdW DdB; omega)]
      exact ⟨b1, b2, rfl, b4, rfl⟩
    · intro k hk
      obtain ⟨c1, c2, c3⟩ := a10 k hk
      rw [Nat.mul_zero, Nat.zero_add] at c1 c2 c3 ⊢
      have e := w1 k hk
      have e0 : m2.1 4 (1 + k) 0 = (nxW v k).1 := by rw [f2.1 4 (1 + k) 0 (by unfold DdB; omega)]; exact congrArg Prod.fst e
      have e2 : m2.1 4 (1 + k) 2 = (nxW v k).2 := by rw [f2.1 4 (1 + k) 2 (by unfold DdB; omega)]; exact congrArg Prod.snd e
      unfold WFd
      try dsimp only
      rw [o (75 + k) (by omega), o (81 + k) (by omega), o (87 + k) (by omega), adv_w hk hnb, adv_y hk hnb hnw, adv_o (j := 81 + k) (by omega)]
      rw [upI_nn (by omega), upI_nn (by omega), upI_nn (by omega), upI_nn (by omega), upI_nn (by omega), upI_nn (by omega), e0, e2, F 4 (1 + k) 1 (by unfold DdW DdB; omega)]
      exact ⟨rfl, c2, rfl⟩
  · refine ⟨fun c i k q => ?_, f2.2.trans f1.2⟩
    unfold DNW at q
    show (upI (upI m2.1 5 0 3 (v 96 + nI (nfn nb v))) 5 0 2 (mnI 999 (v 95 + 1))) c i k = _
    rw [upI_nn (by omega), upI_nn (by omega)]
    exact F c i k (by unfold DdW DdB; omega)
