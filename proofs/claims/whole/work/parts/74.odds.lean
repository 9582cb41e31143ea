/-! PURE: odds -/
/-- the winds of a turn, as the digits of its number -/
def qd (q : Nat) : Nat → Nat
  | 0 => q
  | n + 1 => qd q n / 5
/-- the row after so many days of a turn's winds -/
def od (nb nw : Nat) (v : Nat → Int32) (q : Nat) : Nat → Nat → Int32
  | 0 => v
  | n + 1 => adv nb nw (upv (od nb nw v q n) 94 (nI (qd q n % 5)))
theorem qd_le (q n : Nat) : qd q n ≤ q := by
  induction n with
  | zero => exact Nat.le_refl _
  | succ n ih => exact Nat.le_trans (Nat.div_le_self _ _) ih
theorem WF_od {v : Nat → Int32} {nb nw nc : Nat} (h : WF v nb nw nc) (q n : Nat) : WF (od nb nw v q n) nb nw nc := by
  induction n with
  | zero => exact h
  | succ n ih => exact WF_adv (WF_free (j := 94) ih _ (by omega))
theorem od_o {nb nw q n j : Nat} {v : Nat → Int32} (h : ¬ ((48 ≤ j ∧ j < 48 + nb) ∨ (66 ≤ j ∧ j < 66 + nb) ∨ (75 ≤ j ∧ j < 75 + nw) ∨ (87 ≤ j ∧ j < 87 + nw) ∨ j = 95)) (h4 : j ≠ 94) : od nb nw v q n j = v j := by
  induction n with
  | zero => rfl
  | succ n ih =>
    show adv nb nw (upv (od nb nw v q n) 94 (nI (qd q n % 5))) j = _
    rw [adv_o h, upv_nn h4]; exact ih
theorem od_95 {v : Nat → Int32} {nb nw nc q n : Nat} (h : WF v nb nw nc) (hn : n < 1000) : od nb nw v q n 95 = dyd (vE v) n := by
  have hd := h.2.2.2.2.2.2.2.2.2.2
  induction n with
  | zero =>
    obtain ⟨a, b⟩ := inB_ex hd
    show v 95 = mnI 999 (v 95 + 0)
    generalize (v 95).toNatClampNeg = x at *
    rw [b, Int32.add_zero, ← Int32.toInt_inj, mnI_ti, n_ti (by omega), show (999 : Int32).toInt = 999 from rfl]
    split <;> omega
  | succ n ih =>
    show adv nb nw (upv (od nb nw v q n) 94 (nI (qd q n % 5))) 95 = _
    rw [adv_d h.2.1 h.2.2.2.1, upv_nn (by omega), ih (by omega)]
    exact dyd_succ hd n (by omega)
def Dod : Nat → Nat → Nat → Prop := fun c i k => (c = 5 ∧ i = 2 ∧ k = 1) ∨ (c = 0 ∧ i = 27) ∨ (c = 4 ∧ i = 21)
/-- one day of a turn, the bottle and its walker alone -/
def Iod (nb nw : Nat) (v : Nat → Int32) (q b k : Nat) (m0 : MM) (n : Nat) (m : MM) : Prop :=
  rB m 27 = vB (od nb nw v q n) b ∧ m.1 0 27 0 = v (30 + b) ∧ m.1 0 27 1 = v (39 + b) ∧ rW m 21 = vW (od nb nw v q n) k ∧ m.1 4 21 1 = v (81 + k) ∧ FrP Dod m0 m
theorem Iod.day {v : Nat → Int32} {nb nw nc q b k n N : Nat} {m0 m : MM} (hF : WF v nb nw nc) (hb : b < nb) (hk : k < nw) (ew : v (57 + b) = nI k) (hw : v 93 = m0.1 5 2 0) (hd : v 95 = m0.1 5 2 2) (hfl : flw m0 2 = vfl v) (hq : q < 1000) (hn : n < N) (hN : N < 100) (h : Iod nb nw v q b k m0 n m) : Ok (fX6_endsBy_b46 0 (nI N) (nI (qd q n), nI n) m) (fun r m' => r = Sum.inl (nI (qd q (n + 1)), nI (n + 1)) ∧ Iod nb nw v q b k m0 (n + 1) m') := by
  obtain ⟨i1, i2, i3, i4, i5, f⟩ := h
  have h8 := hF.2.1
  have h6 := hF.2.2.2.1
  have hql := qd_le q n
  unfold fX6_endsBy_b46
  dsimp only
  rw [if_neg (by rw [n_le (by omega) (by omega)]; omega), show (5 : Int32) = nI 5 from rfl, n_mod (by omega) (by omega), n_divs (by omega) (by omega)]
  have f1 : FrP Dod m0 (upI m.1 5 2 1 (nI (qd q n % 5)), m.2) := FrP.up (m' := m) f (by unfold Dod; omega) _
  have j1 : rB (upI m.1 5 2 1 (nI (qd q n % 5)), m.2) 27 = vB (od nb nw v q n) b := by rw [← i1]; unfold rB; simp only [upI_same, upI_k, upI_c, ne_eq, not_false_eq_true, reduceCtorEq, Nat.reduceEqDiff, Nat.zero_ne_one, Nat.one_ne_zero, and_self]
  have j4 : rW (upI m.1 5 2 1 (nI (qd q n % 5)), m.2) 21 = vW (od nb nw v q n) k := by rw [← i4]; unfold rW; simp only [upI_same, upI_k, upI_c, ne_eq, not_false_eq_true, reduceCtorEq, Nat.reduceEqDiff, Nat.zero_ne_one, Nat.one_ne_zero, and_self]
  have j2 : (upI m.1 5 2 1 (nI (qd q n % 5))) 0 27 0 = v (30 + b) := by rw [upI_nn (by omega)]; exact i2
  have j3 : (upI m.1 5 2 1 (nI (qd q n % 5))) 0 27 1 = v (39 + b) := by rw [upI_nn (by omega)]; exact i3
  have j5 : (upI m.1 5 2 1 (nI (qd q n % 5))) 4 21 1 = v (81 + k) := by rw [upI_nn (by omega)]; exact i5
  have j6 : (upI m.1 5 2 1 (nI (qd q n % 5))) 5 2 1 = nI (qd q n % 5) := upI_same _ _ _ _ _
  have j7 : (upI m.1 5 2 1 (nI (qd q n % 5))) 5 2 0 = v 93 := (f1.1 5 2 0 (by unfold Dod; omega)).trans hw.symm
  rw [j7]
  have hd1 := f1.1 5 2 2 (by unfold Dod; omega)
  have hf1 : flw (upI m.1 5 2 1 (nI (qd q n % 5)), m.2) 2 = vfl v := by
    rw [← hfl]; funext c; unfold flw; rw [f1.1 40 2 _ (by unfold Dod; omega)]
  dsimp only at hd1
  generalize hm1 : ((upI m.1 5 2 1 (nI (qd q n % 5)), m.2) : MM) = m1 at *
  have k2 : m1.1 0 27 0 = v (30 + b) := by rw [← hm1]; exact j2
  have k3 : m1.1 0 27 1 = v (39 + b) := by rw [← hm1]; exact j3
  have k5 : m1.1 4 21 1 = v (81 + k) := by rw [← hm1]; exact j5
  have k6 : m1.1 5 2 1 = nI (qd q n % 5) := by rw [← hm1]; exact j6
  have k7 : m1.1 5 2 0 = v 93 := by rw [← hm1]; exact j7
  have k8 : m1.1 5 2 2 = v 95 := by rw [← hm1]; exact hd1.trans hd.symm
  clear j2 j3 j5 j6 j7 hd1 hm1
  have hp := hF.p100 hk
  rw [e_stroll 21 _ m1 (by rw [k5]; exact hp), j4, k5]
  have eW : strl (v 93) (v (81 + k)) (vW (od nb nw v q n) k) = nxW (upv (od nb nw v q n) 94 (nI (qd q n % 5))) k := by
    unfold nxW vW
    rw [upv_nn (show 93 ≠ 94 by omega), upv_nn (show 81 + k ≠ 94 by omega), upv_nn (show 75 + k ≠ 94 by omega), upv_nn (show 87 + k ≠ 94 by omega), od_o (j := 93) (by omega) (by omega), od_o (j := 81 + k) (by omega) (by omega)]
  rw [eW]
  have sW : nxW (upv (od nb nw v q n) 94 (nI (qd q n % 5))) k = vW (od nb nw v q (n + 1)) k := by
    unfold vW
    show _ = (adv nb nw (upv (od nb nw v q n) 94 (nI (qd q n % 5))) (75 + k), adv nb nw (upv (od nb nw v q n) 94 (nI (qd q n % 5))) (87 + k))
    rw [adv_w hk h8, adv_y hk h8 h6]
  have eB : spd (vfl v, v 93, nI (qd q n % 5), v 95) (dyd (vE v) n) (v (30 + b)) (v (39 + b)) (nxW (upv (od nb nw v q n) 94 (nI (qd q n % 5))) k).1 (vB (od nb nw v q n) b) = nxB (upv (od nb nw v q n) 94 (nI (qd q n % 5))) b := by
    unfold nxB
    rw [upv_nn (show 95 ≠ 94 by omega), upv_nn (show 30 + b ≠ 94 by omega), upv_nn (show 39 + b ≠ 94 by omega), upv_nn (show 57 + b ≠ 94 by omega), od_95 hF (by omega), od_o (j := 30 + b) (by omega) (by omega), od_o (j := 39 + b) (by omega) (by omega), od_o (j := 57 + b) (by omega) (by omega), ew, n_cl (by omega)]
    have evB : vB (upv (od nb nw v q n) 94 (nI (qd q n % 5))) b = vB (od nb nw v q n) b := by unfold vB; rw [upv_nn (by omega), upv_nn (by omega)]
    rw [evB]
    refine spd_congr ?_ ?_ ?_ _ _ _ _ _
    · show vfl v = vfl (upv (od nb nw v q n) 94 (nI (qd q n % 5)))
      unfold vfl
      funext c
      by_cases q1 : c < 0
      · rw [if_pos q1, if_pos q1]
      · rw [if_neg q1, if_neg q1]
        by_cases q2 : nI 30 ≤ c
        · rw [if_pos q2, if_pos q2]
        · rw [if_neg q2, if_neg q2]
          have hc : c.toNatClampNeg < 30 := by
            rw [n_lt0] at q1
            rw [Int32.le_iff_toInt_le, n_ti (by decide)] at q2
            have := n_clti c (by omega)
            omega
          rw [upv_nn (by omega), od_o (by omega) (by omega)]
    · show v 93 = upv (od nb nw v q n) 94 (nI (qd q n % 5)) 93
      rw [upv_nn (by omega), od_o (by omega) (by omega)]
    · show nI (qd q n % 5) = upv (od nb nw v q n) 94 (nI (qd q n % 5)) 94
      rw [upv_same]
  have sB : nxB (upv (od nb nw v q n) 94 (nI (qd q n % 5))) b = vB (od nb nw v q (n + 1)) b := by
    unfold vB
    show _ = (adv nb nw (upv (od nb nw v q n) 94 (nI (qd q n % 5))) (48 + b), adv nb nw (upv (od nb nw v q n) 94 (nI (qd q n % 5))) (66 + b))
    rw [adv_c hb, adv_h hb h8]
  generalize nxW (upv (od nb nw v q n) 94 (nI (qd q n % 5))) k = W at *
  generalize nxB (upv (od nb nw v q n) 94 (nI (qd q n % 5))) b = B at *
  have f2 : FrP Dod m0 (upW m1 21 W) := FrP.up (m' := (upI m1.1 4 21 0 W.1, m1.2)) (FrP.up (m' := m1) f1 (by unfold Dod; omega) _) (by unfold Dod; omega) _
  have l1 : rB (upW m1 21 W) 27 = vB (od nb nw v q n) b := by rw [← j1]; unfold rB upW; simp only [upI_same, upI_k, upI_c, ne_eq, not_false_eq_true, reduceCtorEq, Nat.reduceEqDiff, Nat.zero_ne_one, Nat.one_ne_zero, and_self]
  have l2 : (upW m1 21 W).1 0 27 0 = v (30 + b) := by unfold upW; simp only [upI_same, upI_k, upI_c, ne_eq, not_false_eq_true, reduceCtorEq, Nat.reduceEqDiff, Nat.zero_ne_one, Nat.one_ne_zero, and_self, k2]
  have l3 : (upW m1 21 W).1 0 27 1 = v (39 + b) := by unfold upW; simp only [upI_same, upI_k, upI_c, ne_eq, not_false_eq_true, reduceCtorEq, Nat.reduceEqDiff, Nat.zero_ne_one, Nat.one_ne_zero, and_self, k3]
  have l4 := rW_up m1 21 W
  have l5 : (upW m1 21 W).1 4 21 1 = v (81 + k) := by unfold upW; simp only [upI_same, upI_k, upI_c, ne_eq, not_false_eq_true, reduceCtorEq, Nat.reduceEqDiff, Nat.zero_ne_one, Nat.one_ne_zero, and_self, k5]
  have l6 : cE (upW m1 21 W) 2 = (vfl v, v 93, nI (qd q n % 5), v 95) := by
    rw [← hf1, ← k7, ← k6, ← k8]
    unfold cE flw upW
    simp only [upI_same, upI_k, upI_c, ne_eq, not_false_eq_true, reduceCtorEq, Nat.reduceEqDiff, Nat.zero_ne_one, Nat.one_ne_zero, and_self]
  have l8 : (upW m1 21 W).1 5 2 2 = v 95 := by unfold upW; simp only [upI_same, upI_k, upI_c, ne_eq, not_false_eq_true, reduceCtorEq, Nat.reduceEqDiff, Nat.zero_ne_one, Nat.one_ne_zero, and_self, k8]
  simp only [Option.bind_some]
  generalize upW m1 21 W = m2 at *
  rw [e_dayBehind, l8]
  simp only [Option.bind_some]
  have l9 : m2.1 4 21 0 = W.1 := congrArg Prod.fst l4
  rw [e_spend, l2, l3, l1, l6, l9]
  have ed : mnI 999 (v 95 + nI n) = dyd (vE v) n := rfl
  rw [ed, eB]
  simp only [Option.bind_some]
  refine Ok.ret ⟨by rw [n_s]; rfl, ?_, ?_, ?_, ?_, ?_, ?_⟩
  · rw [← sB]; unfold rB upB; simp only [upI_same, upI_k, upI_c, ne_eq, not_false_eq_true, reduceCtorEq, Nat.reduceEqDiff, Nat.zero_ne_one, Nat.one_ne_zero, and_self]
  · unfold upB; simp only [upI_same, upI_k, upI_c, ne_eq, not_false_eq_true, reduceCtorEq, Nat.reduceEqDiff, Nat.zero_ne_one, Nat.one_ne_zero, and_self, l2]
  · unfold upB; simp only [upI_same, upI_k, upI_c, ne_eq, not_false_eq_true, reduceCtorEq, Nat.reduceEqDiff, Nat.zero_ne_one, Nat.one_ne_zero, and_self, l3]
  · rw [← sW, ← l4]; unfold rW upB; simp only [upI_same, upI_k, upI_c, ne_eq, not_false_eq_true, reduceCtorEq, Nat.reduceEqDiff, Nat.zero_ne_one, Nat.one_ne_zero, and_self]
  · unfold upB; simp only [upI_same, upI_k, upI_c, ne_eq, not_false_eq_true, reduceCtorEq, Nat.reduceEqDiff, Nat.zero_ne_one, Nat.one_ne_zero, and_self, l5]
  · exact FrP.up (m' := (upI m2.1 0 27 2 B.1, m2.2)) (FrP.up (m' := m2) f2 (by unfold Dod; omega) _) (by unfold Dod; omega) _
/-- the class's answer for one turn -/
theorem ends6 {v : Nat → Int32} {nb nw nc q b N : Nat} {m0 m : MM} (hF : WF v nb nw nc) (hb : b < nb) (hB : BF m.1 (1 + b) v b) (hK : ∀ k, k < nw → WFd m.1 (1 + k) v k) (h56 : m.1 5 0 6 = nI nw) (hw : v 93 = m.1 5 2 0) (hd : v 95 = m.1 5 2 2) (hfl : flw m 2 = vfl v) (hq : q < 1000) (hN : N < 100) (f0 : FrP Dod m0 m) : Ok (fX6_endsBy 0 (1 + b) (nI N) (nI q) m) (fun r m' => r = od nb nw v q N (66 + b) ∧ FrP Dod m0 m') := by
  have h8 := hF.2.1
  have h6 := hF.2.2.2.1
  obtain ⟨b1, b2, b3, b4, b5⟩ := hB
  have hk := (hF.2.2.2.2.2.2.2.2.1 b hb).2.1
  obtain ⟨kl, ek⟩ := inB_ex hk
  rw [fX6_endsBy_eq]; unfold fX6_endsBy_b
  rw [b4, e_walkerAt 0 _ nw m h56 h6, hk, if_pos rfl]
  generalize (v (57 + b)).toNatClampNeg = k at *
  obtain ⟨c1, c2, c3⟩ := hK k kl
  simp only [Option.bind_some]
  rw [e_Bbecome]
  simp only [Option.bind_some]
  rw [e_Wbecome]
  simp only [Option.bind_some, Nat.mul_zero, Nat.zero_add]
  refine Ok.bind (Ok.fold (f := fX6_endsBy_b46 0 (nI N)) N (fun n => (nI (qd q n), nI n)) () (fun n m' => Iod nb nw v q b k m0 n m') ?_ ?_ (by omega) _ ?_) ?_
  · intro n m' hn hI
    exact Iod.day hF hb kl ek (hw.trans (f0.1 5 2 0 (by unfold Dod; omega))) (hd.trans (f0.1 5 2 2 (by unfold Dod; omega))) (by rw [← hfl]; funext c; unfold flw; rw [f0.1 40 2 _ (by unfold Dod; omega)]) hq hn hN hI
  · intro m' _
    unfold fX6_endsBy_b46
    rw [if_pos (by rw [n_le (by omega) (by omega)]; omega)]
  · refine ⟨?_, ?_, ?_, ?_, ?_, ?_⟩
    · unfold rB vB; simp only [upI_same, upI_k, upI_c, ne_eq, not_false_eq_true, reduceCtorEq, Nat.reduceEqDiff, Nat.zero_ne_one, Nat.one_ne_zero, and_self]; show _ = (v (48 + b), v (66 + b)); rw [b3, b5]
    · simp only [upI_same, upI_k, upI_c, ne_eq, not_false_eq_true, reduceCtorEq, Nat.reduceEqDiff, Nat.zero_ne_one, Nat.one_ne_zero, and_self]; exact b1
    · simp only [upI_same, upI_k, upI_c, ne_eq, not_false_eq_true, reduceCtorEq, Nat.reduceEqDiff, Nat.zero_ne_one, Nat.one_ne_zero, and_self]; exact b2
    · unfold rW vW; simp only [upI_same, upI_k, upI_c, ne_eq, not_false_eq_true, reduceCtorEq, Nat.reduceEqDiff, Nat.zero_ne_one, Nat.one_ne_zero, and_self]; show _ = (v (75 + k), v (87 + k)); rw [c1, c3]
    · simp only [upI_same, upI_k, upI_c, ne_eq, not_false_eq_true, reduceCtorEq, Nat.reduceEqDiff, Nat.zero_ne_one, Nat.one_ne_zero, and_self]; exact c2
    · refine FrP.trans f0 ⟨fun c i k' d => ?_, rfl⟩
      unfold Dod at d
      dsimp only
      rw [upI_nn (by omega), upI_nn (by omega), upI_nn (by omega), upI_nn (by omega), upI_nn (by omega), upI_nn (by omega), upI_nn (by omega), upI_nn (by omega)]
  · intro _ m' ⟨_, i1, _, _, _, _, f⟩
    exact Ok.ret ⟨congrArg Prod.snd i1, f⟩
