/-! PURE: drawn -/
theorem Dlv_up {m0 m : MM} (f : FrP Dlv m0 m) {c k : Nat} (d : Dlv c 0 k) (x : Int32) : FrP Dlv m0 (upI m.1 c 0 k x, m.2) := FrP.up (m' := m) f d x
/-- a bottle in the sea at a cell -/
theorem becomes_v {v : Nat → Int32} {m : MM} {b : Nat} (w4 : Lv v m) (hb : b < 9) (c : Int32) : Ok (fX7_becomes 0 (nI b) (v (30 + b)) (v (39 + b)) c (v (57 + b)) m) (fun _ m' => Lv (upv (upv v (66 + b) 0) (48 + b) c) m' ∧ FrP Dlv m m') := by
  have w5 := Lv_one (Lv_one (Lv_one (Lv_one (Lv_one w4 (c := 52) (j := b) (k := 30 + b) (by unfold loc; omega) (v (30 + b))) (c := 53) (j := b) (k := 39 + b) (by unfold loc; omega) (v (39 + b))) (c := 54) (j := b) (k := 48 + b) (by unfold loc; omega) c) (c := 55) (j := b) (k := 57 + b) (by unfold loc; omega) (v (57 + b))) (c := 56) (j := b) (k := 66 + b) (by unfold loc; omega) 0
  have f5 := Dlv_up (Dlv_up (Dlv_up (Dlv_up (Dlv_up (m := m) FrP.rfl (c := 52) (k := b) (by unfold Dlv; omega) (v (30 + b))) (c := 53) (k := b) (by unfold Dlv; omega) (v (39 + b))) (c := 54) (k := b) (by unfold Dlv; omega) c) (c := 55) (k := b) (by unfold Dlv; omega) (v (57 + b))) (c := 56) (k := b) (by unfold Dlv; omega) 0
  have er2 : upv (upv (upv (upv (upv v (30 + b) (v (30 + b))) (39 + b) (v (39 + b))) (48 + b) c) (57 + b) (v (57 + b))) (66 + b) 0 = upv (upv v (66 + b) 0) (48 + b) c := by
    funext j
    unfold upv
    by_cases q1 : j = 66 + b
    · rw [if_pos q1, if_neg (by omega), if_pos q1]
    · rw [if_neg q1, if_neg q1]
      by_cases q2 : j = 57 + b
      · rw [if_pos q2, if_neg (by omega), q2]
      · rw [if_neg q2]
        by_cases q3 : j = 48 + b
        · rw [if_pos q3, if_pos q3]
        · rw [if_neg q3, if_neg q3]
          by_cases q4 : j = 39 + b
          · rw [if_pos q4, q4]
          · rw [if_neg q4]
            by_cases q5 : j = 30 + b
            · rw [if_pos q5, q5]
            · rw [if_neg q5]
  rw [er2] at w5
  rw [fX7_becomes_eq]
  unfold fX7_becomes_b
  rw [inB_t hb (by omega), cond_true, cond_true, cond_true, cond_true, cond_true, n_cl (show b < 2147483648 by omega)]
  exact Ok.ret ⟨w5, f5⟩
theorem draw_v {v : Nat → Int32} {m : MM} {n : Nat} (hL : Lv v m) (h0 : 0 < n) (hn : n < 1000) : Ok (fX7_draw 0 (nI n) m) (fun r m' => r = nI (dr (v 99) n) ∧ Lv (upv v 99 (sd (v 99))) m' ∧ FrP Dlv m m') := by
  rw [draw7 m h0 hn, ← hL.2.2.2.2.2.2.2.2.2]
  exact Ok.ret ⟨rfl, Lv_one hL (c := 7) (j := 12) (k := 99) (by unfold loc; omega) (sd (v 99)), Dlv_up (m := m) FrP.rfl (by unfold Dlv; omega) _⟩
/-- the model's drawn day -/
theorem drawn7 {v : Nat → Int32} {nb nw nc : Nat} {m : MM} {a1 s1 s2 : Int32} (hL : Lv v m) (h : WF v nb nw nc) (h0 : 0 < nb) (hs : ¬ a1 ≤ s2) : Ok (fX7_drawn_b37 0 a1 (s1, s2) m) (fun r m' => r = Sum.inl (s1 + nI (nfn nb (dw nb nc v)), s2 + 1) ∧ Lv (adv nb nw (dw nb nc v)) m' ∧ FrP Dlv m m') := by
  have h8 := h.2.1
  have h6 := h.2.2.2.1
  have h16 := h.2.2.2.2.2.1
  have h30 := h.2.2.2.2.2.2.1
  have hF := WF_dw h h0
  unfold fX7_drawn_b37
  dsimp only
  rw [if_neg hs]
  refine (draw_v (n := 5) hL (by omega) (by omega)).bind ?_
  intro r1 m1 ⟨e1, w1, f1⟩
  dsimp only
  rw [show inB 0 2 = true from rfl, cond_true, e1]
  have w2 := Lv_one w1 (c := 51) (j := 0) (k := 94) (by unfold loc; omega) (nI (dr (v 99) 5))
  have f2 := Dlv_up f1 (c := 51) (k := 0) (by unfold Dlv; omega) (nI (dr (v 99) 5))
  have e5 : (upI m1.1 51 0 0 (nI (dr (v 99) 5))) 7 0 4 = nI nb := by
    refine w2.2.2.2.2.2.2.2.1.symm.trans ?_
    rw [upv_nn (by omega), upv_nn (by omega)]; exact h.1
  have z0 : (0 : Int32).toNatClampNeg = 0 := rfl
  rw [z0, e5]
  refine (draw_v (n := nb) w2 (by omega) (by omega)).bind ?_
  intro r2 m2 ⟨e2, w3, f3⟩
  rw [show upv (upv v 99 (sd (v 99))) 94 (nI (dr (v 99) 5)) 99 = sd (v 99) from by rw [upv_nn (by omega), upv_same]] at e2 w3
  have f3 := f2.trans f3
  dsimp only
  have c0 : m2.1 7 0 0 = nI nc := by
    refine w3.2.2.2.1.symm.trans ?_
    rw [upv_nn (by omega), upv_nn (by omega), upv_nn (by omega)]; exact h.2.2.2.2.1
  rw [c0]
  refine (draw_v (n := nc) w3 (by omega) (by omega)).bind ?_
  intro r3 m3 ⟨e3, w4, f4⟩
  rw [upv_same] at e3 w4
  have f4 := f3.trans f4
  dsimp only
  have er : upv (upv (upv (upv v 99 (sd (v 99))) 94 (nI (dr (v 99) 5))) 99 (sd (sd (v 99)))) 99 (sd (sd (sd (v 99)))) = upv (upv v 94 (nI (dr (v 99) 5))) 99 (sd (sd (sd (v 99)))) := by
    funext j
    unfold upv
    by_cases q1 : j = 99
    · simp only [q1, if_true]
    · by_cases q2 : j = 94
      · simp only [q2, if_true, Nat.reduceEqDiff, if_false]
      · simp only [q1, q2, if_false]
  rw [er] at w4
  rw [e2, e3]
  have hbk := dr_lt (sd (v 99)) h0
  have q66 : upv (upv v 94 (nI (dr (v 99) 5))) 99 (sd (sd (sd (v 99)))) (66 + dr (sd (v 99)) nb) = v (66 + dr (sd (v 99)) nb) := by rw [upv_nn (by omega), upv_nn (by omega)]
  generalize hb : dr (sd (v 99)) nb = b at *
  rw [inB_t (show b < 9 by omega) (by omega), cond_true, n_cl (by omega)]
  have hB := w4.2.1 b (by omega)
  rw [← hB.2.2.2.2, ← hB.1, ← hB.2.1, ← hB.2.2.2.1]
  rw [q66]
  by_cases q : v (66 + b) = 0
  · rw [if_pos q]
    have ed : dw nb nc v = upv (upv v 94 (nI (dr (v 99) 5))) 99 (sd (sd (sd (v 99)))) := by unfold dw; rw [hb, if_pos q]
    rw [← ed] at w4
    have e4 : m3.1 7 0 4 = nI nb := w4.2.2.2.2.2.2.2.1.symm.trans hF.1
    rw [e4]
    refine (day7 w4 hF).bind ?_
    intro r m5 ⟨r1, r2, r3⟩
    exact Ok.ret ⟨by rw [r1], r2, f4.trans (Dps_lv h8 h6 r3)⟩
  · rw [if_neg q]
    have ed : dw nb nc v = upv (upv (upv (upv v 94 (nI (dr (v 99) 5))) 99 (sd (sd (sd (v 99))))) (66 + b) 0) (48 + b) (nI (dr (sd (sd (v 99))) nc)) := by unfold dw; rw [hb, if_neg q]
    rw [cond_true, cond_true, cond_true]
    refine (becomes_v (b := b) w4 (by omega) (nI (dr (sd (sd (v 99))) nc))).bind ?_
    intro _ m5 ⟨w5, f5⟩
    rw [← ed] at w5
    have e4 : m5.1 7 0 4 = nI nb := w5.2.2.2.2.2.2.2.1.symm.trans hF.1
    rw [e4]
    refine (day7 w5 hF).bind ?_
    intro r m6 ⟨r1, r2, r3⟩
    exact Ok.ret ⟨by rw [r1], r2, (f4.trans f5).trans (Dps_lv h8 h6 r3)⟩
/-- so many drawn days on -/
def add' (nb nw nc : Nat) (v : Nat → Int32) : Nat → Nat → Int32
  | 0 => v
  | n + 1 => adv nb nw (dw nb nc (add' nb nw nc v n))
def ttd (nb nw nc : Nat) (v : Nat → Int32) : Nat → Nat
  | 0 => 0
  | n + 1 => ttd nb nw nc v n + nfn nb (dw nb nc (add' nb nw nc v n))
theorem WF_add' {v : Nat → Int32} {nb nw nc : Nat} (h : WF v nb nw nc) (h0 : 0 < nb) (n : Nat) : WF (add' nb nw nc v n) nb nw nc := by
  induction n with
  | zero => exact h
  | succ n ih => exact WF_adv (WF_dw ih h0)
theorem dw_96 {nb nw nc : Nat} {v : Nat → Int32} (h : WF v nb nw nc) (h0 : 0 < nb) (x : Int32) : dw nb nc (upv v 96 x) = upv (dw nb nc v) 96 x := by
  have h8 := h.2.1
  have hbk := dr_lt (sd (v 99)) h0
  unfold dw
  rw [show upv v 96 x 99 = v 99 from upv_nn (by omega), show upv v 96 x (66 + dr (sd (v 99)) nb) = v (66 + dr (sd (v 99)) nb) from upv_nn (by omega)]
  generalize dr (sd (v 99)) nb = b at *
  have cm : ∀ (v : Nat → Int32) (k : Nat) (y : Int32), k ≠ 96 → upv (upv v 96 x) k y = upv (upv v k y) 96 x := by
    intro v k y hk
    funext j
    unfold upv
    by_cases q1 : j = k
    · rw [if_pos q1, if_neg (by omega), if_pos q1]
    · rw [if_neg q1, if_neg q1]
  split
  · rw [cm _ _ _ (by omega), cm _ _ _ (by omega)]
  · rw [cm _ _ _ (by omega), cm _ _ _ (by omega), cm _ _ _ (by omega), cm _ _ _ (by omega)]
theorem dw_96' {nb nw nc : Nat} {v : Nat → Int32} (h : WF v nb nw nc) (h0 : 0 < nb) : dw nb nc v 96 = v 96 := by
  have h8 := h.2.1
  have hbk := dr_lt (sd (v 99)) h0
  unfold dw
  split
  · rw [upv_nn (by omega), upv_nn (by omega)]
  · rw [upv_nn (by omega), upv_nn (by omega), upv_nn (by omega), upv_nn (by omega)]
theorem op_drawn {v : Nat → Int32} {nb nw nc : Nat} {m : MM} (h : Rlt v nb nw nc m) (x : Int32) : Eq2 (fX6_drawn 0 x) (fX7_drawn 0 x) m := by
  have wx : ∀ m, fX7_within x 1 60 m = some (decide (inB x 61 = true ∧ 1 ≤ x.toNatClampNeg), m) := fun m => within_lo 1 60 (by omega) (by omega) m
  have wx6 : ∀ m, fX6_within x 1 60 m = some (decide (inB x 61 = true ∧ 1 ≤ x.toNatClampNeg), m) := fun m => by rw [e6_w7]; exact wx m
  have h8 := h.1.nb.2.1
  have h6 := h.1.nw.2.1
  have n6 : m.1 5 0 5 = nI nb := h.1.2.2.1.2.2.2.2.2.1.trans h.1.1.1
  have nz : (nI nb = 0) ↔ nb = 0 := by rw [show (0 : Int32) = nI 0 from rfl, n_inj (by omega) (by omega)]
  cases g2 : decide (inB x 61 = true ∧ 1 ≤ x.toNatClampNeg)
  · refine Eq2.bad h ?_ ?_
    · rw [fX6_drawn_eq]; unfold fX6_drawn_b
      rw [wx6, g2]
      simp only [Option.bind_some, bI_0, not_true, if_false, bind_eta]
    · intro m1 h1
      rw [fX7_drawn_eq]; unfold fX7_drawn_b
      rw [wx, g2]
      simp only [Option.bind_some, bI_0, not_true, if_false, bind_eta]
  by_cases h0 : nb = 0
  · refine Eq2.stuck h ?_ ?_
    · rw [fX6_drawn_eq]; unfold fX6_drawn_b
      rw [wx6, g2]
      simp only [Option.bind_some, bI_0, reduceCtorEq, not_false_eq_true, if_true, bind_eta]
      rw [if_neg (by rw [n6, nz]; omega)]
    · intro m1 h1
      rw [fX7_drawn_eq]; unfold fX7_drawn_b
      rw [wx, g2]
      simp only [Option.bind_some, bI_0, reduceCtorEq, not_false_eq_true, if_true, bind_eta]
      rw [if_neg (by rw [← h1.2.1.2.2.2.2.2.2.2.1, h1.1.1, nz]; omega)]
  · obtain ⟨ga, gb⟩ := of_decide_eq_true g2
    obtain ⟨hn, e⟩ := inB_ex ga
    generalize x.toNatClampNeg = n at *
    subst e
    have hF := h.1.1
    have hb0 : 0 < nb := by omega
    have p6 : Ok (fX6_drawn 0 (nI n) m) (fun r m' => r = nI (ttd nb nw nc v n) ∧ RelW m'.1 0 nb nw (upv (add' nb nw nc v n) 96 (v 96 + nI (ttd nb nw nc v n))) ∧ FrP DNW m m') := by
      rw [fX6_drawn_eq]; unfold fX6_drawn_b
      rw [wx6, g2]
      simp only [Option.bind_some, bI_0, reduceCtorEq, not_false_eq_true, if_true]
      rw [if_pos (by rw [n6, nz]; omega)]
      simp only [bind_eta]
      refine Ok.mono (Ok.fold (f := fX6_drawn_b40 0 (nI n)) n (fun i => (nI (ttd nb nw nc v i), nI i)) (nI (ttd nb nw nc v n)) (fun i m' => RelW m'.1 0 nb nw (upv (add' nb nw nc v i) 96 (v 96 + nI (ttd nb nw nc v i))) ∧ FrP DNW m m') ?_ ?_ (by omega) m ⟨?_, FrP.rfl⟩) (fun r m' h => h)
      · intro i m' hi ⟨w, f⟩
        unfold fX6_drawn_b40
        dsimp only
        rw [if_neg (by rw [n_le (by omega) (by omega)]; omega)]
        have hFi := WF_add' hF hb0 i
        refine (drawn6 w (WF_free (j := 96) hFi _ (by omega)) hb0).bind ?_
        intro r m2 ⟨r1, r2, r3⟩
        rw [dw_96 hFi hb0] at r1 r2
        obtain ⟨q1, q2⟩ := adv_eq (WF_dw hFi hb0) (v 96 + nI (ttd nb nw nc v i))
        rw [q2] at r1
        rw [q1, q2, upv_same, upv_upv] at r2
        have e1 : v 96 + nI (ttd nb nw nc v i) + nI (nfn nb (dw nb nc (add' nb nw nc v i))) = v 96 + nI (ttd nb nw nc v (i + 1)) := by
          rw [Int32.add_assoc, ← n_add]; rfl
        rw [e1] at r2
        exact Ok.ret ⟨by rw [r1, n_s, ← n_add]; rfl, r2, f.trans r3⟩
      · intro m' _
        unfold fX6_drawn_b40
        rw [if_pos (by rw [n_le (by omega) (by omega)]; omega)]
      · have : upv (add' nb nw nc v 0) 96 (v 96 + nI (ttd nb nw nc v 0)) = v := by
          show upv v 96 (v 96 + 0) = v
          rw [Int32.add_zero, upv_id]
        rw [this]; exact h.1.2.2.1
    unfold Eq2
    refine p6.mono ?_
    intro r m1 ⟨r1, w1, f1⟩
    have L1 : Lv v m1 := Lv_fr h.1.2.1 f1 (by unfold Dlv DNW; omega)
    have e96 : ∀ i, add' nb nw nc v i 96 = v 96 := by
      intro i
      induction i with
      | zero => rfl
      | succ i ih =>
        show adv nb nw (dw nb nc (add' nb nw nc v i)) 96 = _
        rw [adv_o (by omega), dw_96' (nw := nw) (WF_add' hF hb0 i) hb0]; exact ih
    rw [fX7_drawn_eq]; unfold fX7_drawn_b
    rw [wx, g2]
    simp only [Option.bind_some, bI_0, reduceCtorEq, not_false_eq_true, if_true]
    rw [if_pos (by rw [← L1.2.2.2.2.2.2.2.1, hF.1, nz]; omega)]
    refine Ok.bind (Ok.fold (f := fX7_drawn_b37 0 (nI n)) n (fun i => (nI (ttd nb nw nc v i), nI i)) (nI (ttd nb nw nc v n)) (fun i m' => Lv (add' nb nw nc v i) m' ∧ FrP Dlv m1 m') ?_ ?_ (by omega) m1 ⟨L1, FrP.rfl⟩) ?_
    · intro i m' hi ⟨l, f⟩
      refine (drawn7 l (WF_add' hF hb0 i) hb0 (by rw [n_le (by omega) (by omega)]; omega)).mono ?_
      intro r m2 ⟨q1, q2, q3⟩
      exact ⟨by rw [q1, n_s, ← n_add]; rfl, q2, f.trans q3⟩
    · intro m' _
      unfold fX7_drawn_b37
      rw [if_pos (by rw [n_le (by omega) (by omega)]; omega)]
    intro r' m2 ⟨r2, l2, f2⟩
    subst r2
    have x96 : m2.1 7 0 3 = v 96 := by rw [← l2.2.2.2.2.2.2.1, e96]
    dsimp only
    rw [x96]
    have L3 := Lv_one l2 (c := 7) (j := 3) (k := 96) (by unfold loc; omega) (v 96 + nI (ttd nb nw nc v n))
    refine Ok.ret ⟨r1, ⟨_, nb, nw, nc, Rlt_W h (v' := upv (add' nb nw nc v n) 96 (v 96 + nI (ttd nb nw nc v n))) ?_ (Nat.le_refl _) (WF_free (j := 96) (WF_add' hF hb0 n) _ (by omega)) L3 ?_⟩, ?_⟩
    · exact FrP.up (m' := m2) ((DNW_W f1).trans (f2.mono (fun c i k q => Or.inr (Or.inr (Or.inr q))))) (by unfold DW Dlv; omega) _
    · refine RelW_fr' (m := m1) w1 (D := Dlv) (fun c i k q => ?_) (by unfold Dlv; omega) (by unfold Dlv; omega) (by unfold Dlv; omega) (by unfold Dlv; omega)
      dsimp only
      unfold Dlv at q
      rw [upI_nn (by omega)]
      exact f2.1 c i k (by unfold Dlv; omega)
    · funext i k
      dsimp only
      rw [upI_nn (by omega), f2.1 33 i k (by unfold Dlv; omega), f1.1 33 i k (by unfold DNW; omega)]
