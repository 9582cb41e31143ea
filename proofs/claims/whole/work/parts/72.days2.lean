/-! PURE: days -/
/-- the numbers that days look at are the same -/
theorem adv_eq {nb nw nc : Nat} {v : Nat → Int32} (h : WF v nb nw nc) (x : Int32) : adv nb nw (upv v 96 x) = upv (adv nb nw v) 96 x ∧ nfn nb (upv v 96 x) = nfn nb v := by
  have h8 := h.2.1
  have h6 := h.2.2.2.1
  have o : ∀ j, j ≠ 96 → upv v 96 x j = v j := fun j hj => upv_nn hj
  have eE : vE (upv v 96 x) = vE v := vE_same (fun j hj => o j (by omega))
  have eW : ∀ k, k < nw → nxW (upv v 96 x) k = nxW v k := by
    intro k hk
    unfold nxW vW
    rw [o _ (by omega), o _ (by omega), o _ (by omega), o _ (by omega)]
  have eB : ∀ b, b < nb → nxB (upv v 96 x) b = nxB v b := by
    intro b hb
    unfold nxB vB
    rw [eE, o 95 (by omega), o (30 + b) (by omega), o (39 + b) (by omega), o (57 + b) (by omega), o (48 + b) (by omega), o (66 + b) (by omega), eW _ (inB_ex (h.b hb).2.1).1]
  refine ⟨?_, ?_⟩
  · funext j
    unfold upv
    by_cases q : j = 96
    · rw [if_pos q, adv_o (by omega), if_pos q]
    · rw [if_neg q]
      unfold adv
      by_cases q1 : 48 ≤ j ∧ j < 48 + nb
      · rw [if_pos q1, if_pos q1]; exact congrArg Prod.fst (eB _ (by omega))
      · rw [if_neg q1, if_neg q1]
        by_cases q2 : 66 ≤ j ∧ j < 66 + nb
        · rw [if_pos q2, if_pos q2]; exact congrArg Prod.snd (eB _ (by omega))
        · rw [if_neg q2, if_neg q2]
          by_cases q3 : 75 ≤ j ∧ j < 75 + nw
          · rw [if_pos q3, if_pos q3]; exact congrArg Prod.fst (eW _ (by omega))
          · rw [if_neg q3, if_neg q3]
            by_cases q4 : 87 ≤ j ∧ j < 87 + nw
            · rw [if_pos q4, if_pos q4]; exact congrArg Prod.snd (eW _ (by omega))
            · rw [if_neg q4, if_neg q4]
              by_cases q5 : j = 95
              · rw [if_pos q5, if_pos q5]; rfl
              · rw [if_neg q5, if_neg q5]; dsimp only; rw [if_neg q]
  · unfold nfn
    refine cnt_congr nb (fun b hb => ?_)
    rw [eB b hb, o (66 + b) (by omega)]
/-- so many days on -/
def ad (nb nw : Nat) (v : Nat → Int32) : Nat → Nat → Int32
  | 0 => v
  | n + 1 => adv nb nw (ad nb nw v n)
def tt (nb nw : Nat) (v : Nat → Int32) : Nat → Nat
  | 0 => 0
  | n + 1 => tt nb nw v n + nfn nb (ad nb nw v n)
theorem WF_ad {v : Nat → Int32} {nb nw nc : Nat} (h : WF v nb nw nc) (n : Nat) : WF (ad nb nw v n) nb nw nc := by
  induction n with
  | zero => exact h
  | succ n ih => exact WF_adv ih
theorem ad_96 {v : Nat → Int32} {nb nw nc : Nat} (h : WF v nb nw nc) (n : Nat) : ad nb nw v n 96 = v 96 := by
  have h8 := h.2.1
  have h6 := h.2.2.2.1
  induction n with
  | zero => rfl
  | succ n ih =>
    show adv nb nw (ad nb nw v n) 96 = _
    rw [adv_o (by omega)]; exact ih
theorem Dps_lv {nb nw : Nat} (h8 : nb ≤ 8) (h6 : nw ≤ 6) {m m' : MM} (f : FrP (Dps nb nw) m m') : FrP Dlv m m' := f.mono (by unfold Dps Dlv; omega)
theorem goes7' {v : Nat → Int32} {nb nw nc n : Nat} {m : MM} (hL : Lv v m) (h : WF v nb nw nc) (hn : n < 100) : Ok (fX7_goesOn 0 (nI n) m) (fun r m' => r = nI (tt nb nw v n) ∧ Lv (ad nb nw v n) m' ∧ FrP Dlv m m') := by
  have h8 := h.2.1
  have h6 := h.2.2.2.1
  rw [fX7_goesOn_eq]; unfold fX7_goesOn_b
  simp only [bind_eta]
  refine Ok.mono (Ok.fold (f := fX7_goesOn_b4 0 (nI n)) n (fun i => (nI (tt nb nw v i), nI i)) (nI (tt nb nw v n)) (fun i m' => Lv (ad nb nw v i) m' ∧ FrP Dlv m m') ?_ ?_ (by omega) m ⟨hL, FrP.rfl⟩) (fun r m' h => h)
  · intro i m' hi ⟨l, f⟩
    unfold fX7_goesOn_b4
    dsimp only
    rw [if_neg (by rw [n_le (by omega) (by omega)]; omega), l.nb (WF_ad h i)]
    refine (day7 l (WF_ad h i)).bind ?_
    intro r m2 ⟨r1, r2, r3⟩
    dsimp only
    rw [r1]
    exact Ok.ret ⟨by rw [← n_add, n_s]; rfl, r2, f.trans (Dps_lv h8 h6 r3)⟩
  · intro m' _
    unfold fX7_goesOn_b4
    rw [if_pos (by rw [n_le (by omega) (by omega)]; omega)]
theorem DNW_W {m m' : MM} (f : FrP DNW m m') : FrP DW m m' := f.mono (by unfold DNW DW; omega)
theorem op_days {v : Nat → Int32} {nb nw nc : Nat} {m : MM} (h : Rlt v nb nw nc m) (x : Int32) : Eq2 (fX6_days 0 x) (fX7_days 0 x) m := by
  have wx : ∀ m, fX7_within x 1 60 m = some (decide (inB x 61 = true ∧ 1 ≤ x.toNatClampNeg), m) := fun m => within_lo 1 60 (by omega) (by omega) m
  have wx6 : ∀ m, fX6_within x 1 60 m = some (decide (inB x 61 = true ∧ 1 ≤ x.toNatClampNeg), m) := fun m => by rw [e6_w7]; exact wx m
  have h8 := h.1.nb.2.1
  have h6 := h.1.nw.2.1
  cases g2 : decide (inB x 61 = true ∧ 1 ≤ x.toNatClampNeg)
  · refine Eq2.bad h ?_ ?_
    · rw [fX6_days_eq]; unfold fX6_days_b
      rw [wx6, g2]
      simp only [Option.bind_some, bI_0, not_true, if_false, bind_eta]
    · intro m1 h1
      rw [fX7_days_eq]; unfold fX7_days_b
      rw [wx, g2]
      simp only [Option.bind_some, bI_0, not_true, if_false, bind_eta]
  · obtain ⟨ga, gb⟩ := of_decide_eq_true g2
    obtain ⟨hn, e⟩ := inB_ex ga
    generalize x.toNatClampNeg = n at *
    subst e
    have hF := h.1.1
    have p6 : Ok (fX6_days 0 (nI n) m) (fun r m' => r = v 96 + nI (tt nb nw v n) ∧ RelW m'.1 0 nb nw (upv (ad nb nw v n) 96 (v 96 + nI (tt nb nw v n))) ∧ FrP DNW m m') := by
      rw [fX6_days_eq]; unfold fX6_days_b
      rw [wx6, g2]
      simp only [Option.bind_some, bI_0, reduceCtorEq, not_false_eq_true, if_true]
      refine Ok.bind (Ok.fold (f := fX6_days_b20 0 (nI n)) n (fun i => nI i) () (fun i m' => RelW m'.1 0 nb nw (upv (ad nb nw v i) 96 (v 96 + nI (tt nb nw v i))) ∧ FrP DNW m m') ?_ ?_ (by omega) m ⟨?_, FrP.rfl⟩) ?_
      · intro i m' hi ⟨w, f⟩
        unfold fX6_days_b20
        rw [if_neg (by rw [n_le (by omega) (by omega)]; omega)]
        refine (day6 w (WF_free (j := 96) (WF_ad hF i) _ (by omega))).bind ?_
        intro r m2 ⟨_, r2, r3⟩
        obtain ⟨q1, q2⟩ := adv_eq (WF_ad hF i) (v 96 + nI (tt nb nw v i))
        rw [q1, q2, upv_same, upv_upv] at r2
        refine Ok.ret ⟨by rw [n_s], ?_, f.trans r3⟩
        have e1 : v 96 + nI (tt nb nw v i) + nI (nfn nb (ad nb nw v i)) = v 96 + nI (tt nb nw v (i + 1)) := by
          rw [Int32.add_assoc, ← n_add]; rfl
        rw [e1] at r2; exact r2
      · intro m' _
        unfold fX6_days_b20
        rw [if_pos (by rw [n_le (by omega) (by omega)]; omega)]
      · have : upv (ad nb nw v 0) 96 (v 96 + nI (tt nb nw v 0)) = v := by
          show upv v 96 (v 96 + 0) = v
          rw [Int32.add_zero, upv_id]
        rw [this]; exact h.1.2.2.1
      · intro _ m' ⟨_, w, f⟩
        exact Ok.ret ⟨w.2.2.2.1.trans (upv_same _ _ _), w, f⟩
    unfold Eq2
    refine p6.mono ?_
    intro r m1 ⟨r1, w1, f1⟩
    have L1 : Lv v m1 := Lv_fr h.1.2.1 f1 (by unfold Dlv DNW; omega)
    rw [fX7_days_eq]; unfold fX7_days_b
    rw [wx, g2]
    simp only [Option.bind_some, bI_0, reduceCtorEq, not_false_eq_true, if_true]
    refine (goes7' L1 hF (n := n) (by omega)).bind ?_
    intro r' m2 ⟨r2, l2, f2⟩
    dsimp only
    rw [upI_same, r2, ← L1.2.2.2.2.2.2.1]
    have L3 := Lv_one l2 (c := 7) (j := 3) (k := 96) (by unfold loc; omega) (v 96 + nI (tt nb nw v n))
    refine Ok.ret ⟨r1, ⟨_, nb, nw, nc, Rlt_W h (v' := upv (ad nb nw v n) 96 (v 96 + nI (tt nb nw v n))) ?_ (Nat.le_refl _) (WF_free (j := 96) (WF_ad hF n) _ (by omega)) L3 ?_⟩, ?_⟩
    · exact FrP.up (m' := m2) ((DNW_W f1).trans (f2.mono (fun c i k q => Or.inr (Or.inr (Or.inr q))))) (by unfold DW Dlv; omega) _
    · refine RelW_fr' (m := m1) w1 (D := Dlv) (fun c i k q => ?_) (by unfold Dlv; omega) (by unfold Dlv; omega) (by unfold Dlv; omega) (by unfold Dlv; omega)
      dsimp only
      unfold Dlv at q
      rw [upI_nn (by omega)]
      exact f2.1 c i k (by unfold Dlv; omega)
    · funext i k
      dsimp only
      rw [upI_nn (by omega), f2.1 33 i k (by unfold Dlv; omega), f1.1 33 i k (by unfold DNW; omega)]
/-! drawn -/
theorem n_divs {a b : Nat} (ha : a < 2147483648) (hb : b < 2147483648) : nI a / nI b = nI (a / b) := by
  have hq : a / b ≤ a := Nat.div_le_self a b
  have e : (a : Int).tdiv (b : Int) = ((a / b : Nat) : Int) := rfl
  have d := Int32.toInt_div (nI a) (nI b)
  rw [n_ti ha, n_ti hb, e] at d
  generalize a / b = q at *
  rw [← Int32.toInt_inj, d, n_ti (by omega)]
  exact Int.bmod_eq_of_le (by omega) (by omega)
theorem n_mod {a b : Nat} (ha : a < 2147483648) (hb : b < 2147483648) : nI a - nI a / nI b * nI b = nI (a % b) := by
  rw [n_divs ha hb, ← n_mul, ← n_sub (Nat.div_mul_le_self a b)]
  congr 1
  have := Nat.mod_add_div a b
  rw [Nat.mul_comm] at this
  omega
def ur (x : Int32) : Nat := (x.toBitVec >>> 16).toNat
theorem ur_lt (x : Int32) : ur x < 65536 := by
  unfold ur
  rw [BitVec.toNat_ushiftRight, Nat.shiftRight_eq_div_pow]
  have := x.toBitVec.isLt
  omega
theorem usr_n (x : Int32) : usr x 16 = nI (ur x) := by
  have h1 : (x.toUInt32 >>> ((16 : Int32).toUInt32 &&& Int32.toUInt32 31)).toBitVec = x.toBitVec >>> 16 := by
    have : ((16 : Int32).toUInt32 &&& Int32.toUInt32 31) = 16 := by decide
    rw [this, UInt32.toBitVec_shiftRight]
    rfl
  have hlt := ur_lt x
  rw [← Int32.toInt_inj, n_ti (by omega)]
  have e : (usr x 16).toInt = (x.toBitVec >>> 16).toInt := by rw [← h1]; rfl
  rw [e, BitVec.toInt_eq_toNat_of_lt]
  · rfl
  · unfold ur at hlt; omega
/-- the next seed; what is drawn of it -/
def sd (x : Int32) : Int32 := x * 1103515245 + 12345
def dr (x : Int32) (n : Nat) : Nat := ur (sd x) % n
theorem dr_ok (x : Int32) {n : Nat} (hn : n < 2147483648) : usr (sd x) 16 - usr (sd x) 16 / nI n * nI n = nI (dr x n) := by
  have h1 := ur_lt (sd x)
  have h2 := usr_n (sd x)
  unfold dr
  generalize ur (sd x) = u at *
  rw [h2]
  exact n_mod (by omega) hn
theorem draw6 {n : Nat} (w : Nat) (m : MM) (h0 : 0 < n) (hn : n < 1000) : fX5_draw w (nI n) m = some (nI (dr (m.1 5 w 4) n), (upI m.1 5 w 4 (sd (m.1 5 w 4)), m.2)) := by
  rw [fX5_draw_eq]; unfold fX5_draw_b
  have ne : ¬ nI n = 0 := by rw [show (0 : Int32) = nI 0 from rfl, n_inj (by omega) (by omega)]; omega
  rw [if_pos (by rw [show (0 : Int32) = nI 0 from rfl, n_lt (by omega) (by omega)]; exact h0), if_neg ne]
  simp only [upI_same]
  have e := dr_ok (m.1 5 w 4) (show n < 2147483648 by omega)
  have es : m.1 5 w 4 * 1103515245 + 12345 = sd (m.1 5 w 4) := rfl
  rw [es, e]
theorem draw7 {n : Nat} (m : MM) (h0 : 0 < n) (hn : n < 1000) : fX7_draw 0 (nI n) m = some (nI (dr (m.1 7 0 12) n), (upI m.1 7 0 12 (sd (m.1 7 0 12)), m.2)) := by
  rw [fX7_draw_eq]; unfold fX7_draw_b
  have ne : ¬ nI n = 0 := by rw [show (0 : Int32) = nI 0 from rfl, n_inj (by omega) (by omega)]; omega
  rw [if_neg ne]
  simp only [upI_same]
  have e := dr_ok (m.1 7 0 12) (show n < 2147483648 by omega)
  have es : m.1 7 0 12 * 1103515245 + 12345 = sd (m.1 7 0 12) := rfl
  rw [es, e]
theorem dr_lt (x : Int32) {n : Nat} (h : 0 < n) : dr x n < n := Nat.mod_lt _ h
/-- the row of a drawn day, before the day -/
def dw (nb nc : Nat) (v : Nat → Int32) : Nat → Int32 :=
  if v (66 + dr (sd (v 99)) nb) = 0 then upv (upv v 94 (nI (dr (v 99) 5))) 99 (sd (sd (sd (v 99))))
  else upv (upv (upv (upv v 94 (nI (dr (v 99) 5))) 99 (sd (sd (sd (v 99))))) (66 + dr (sd (v 99)) nb) 0) (48 + dr (sd (v 99)) nb) (nI (dr (sd (sd (v 99))) nc))
theorem WF_bot {v : Nat → Int32} {nb nw nc b : Nat} {c : Int32} (h : WF v nb nw nc) (hb : b < nb) (hc : inB c nc = true) : WF (upv (upv v (66 + b) 0) (48 + b) c) nb nw nc := by
  obtain ⟨h1, h2, h3, h4, h5, h6, h7, h8, h9, h10, h11⟩ := h
  have o : ∀ j, ¬ (j = 66 + b ∨ j = 48 + b) → upv (upv v (66 + b) 0) (48 + b) c j = v j := fun j hj => by rw [upv_nn (by omega), upv_nn (by omega)]
  have s1 : upv (upv v (66 + b) 0) (48 + b) c (48 + b) = c := upv_same _ _ _
  have s2 : upv (upv v (66 + b) 0) (48 + b) c (66 + b) = 0 := by rw [upv_nn (by omega), upv_same]
  refine ⟨by rw [o 97 (by omega)]; exact h1, h2, by rw [o 98 (by omega)]; exact h3, h4, by rw [o 93 (by omega)]; exact h5, h6, h7, ?_, ?_, ?_, by rw [o 95 (by omega)]; exact h11⟩
  · intro i hi
    rw [o (57 + i) (by omega)]
    by_cases e : i = b
    · rw [e, s1]; exact ⟨inB_mono hc h7, (h8 b (by omega)).2⟩
    · rw [o (48 + i) (by omega)]; exact h8 i hi
  · intro i hi
    rw [o (57 + i) (by omega), o (30 + i) (by omega)]
    by_cases e : i = b
    · rw [e, s1, s2]; exact ⟨hc, (h9 b hb).2.1, by decide, (h9 b hb).2.2.2⟩
    · rw [o (48 + i) (by omega), o (66 + i) (by omega)]; exact h9 i hi
  · intro w hw; unfold vW; rw [o _ (by omega), o _ (by omega), o _ (by omega)]; exact h10 w hw
theorem WF_dw {v : Nat → Int32} {nb nw nc : Nat} (h : WF v nb nw nc) (h0 : 0 < nb) : WF (dw nb nc v) nb nw nc := by
  have h16 := h.2.2.2.2.2.1
  have a := WF_free (j := 99) (WF_free (j := 94) h (nI (dr (v 99) 5)) (by omega)) (sd (sd (sd (v 99)))) (by omega)
  unfold dw
  split
  · exact a
  · exact WF_bot a (dr_lt _ h0) (inB_t (dr_lt _ (by omega)) (by have := h.2.2.2.2.2.2.1; omega))
theorem RelW_sd {m : MM} {nb nw w : Nat} {v : Nat → Int32} (h : RelW m.1 w nb nw v) (hb : nb ≤ 8) (hw : nw ≤ 6) (x : Int32) : RelW (upI m.1 5 w 4 x, m.2).1 w nb nw (upv v 99 x) := RelW_one h hb hw (by unfold loc6; omega) x
/-- the class's drawn day -/
theorem drawn6 {v : Nat → Int32} {nb nw nc : Nat} {m : MM} (hW : RelW m.1 0 nb nw v) (h : WF v nb nw nc) (h0 : 0 < nb) : Ok (fX5_passDrawnDay 0 m) (fun r m' => r = nI (nfn nb (dw nb nc v)) ∧ RelW m'.1 0 nb nw (upv (adv nb nw (dw nb nc v)) 96 (v 96 + nI (nfn nb (dw nb nc v)))) ∧ FrP DNW m m') := by
  have h8 := h.2.1
  have h6 := h.2.2.2.1
  have h16 := h.2.2.2.2.2.1
  have h30 := h.2.2.2.2.2.2.1
  have hF := WF_dw h h0
  rw [fX5_passDrawnDay_eq]; unfold fX5_passDrawnDay_b
  rw [show (5 : Int32) = nI 5 from rfl, draw6 0 m (by omega) (by omega), hW.2.2.2.2.1]
  simp only [Option.bind_some]
  have w1 := RelW_sd hW h8 h6 (sd (v 99))
  have f1 : FrP DNW m (upI m.1 5 0 4 (sd (v 99)), m.2) := FrP.up (m' := m) FrP.rfl (by unfold DNW; omega) _
  have w2 : RelW (upI (upI m.1 5 0 4 (sd (v 99))) 5 0 1 (nI (dr (v 99) 5)), m.2).1 0 nb nw (upv (upv v 99 (sd (v 99))) 94 (nI (dr (v 99) 5))) := RelW_one w1 h8 h6 (by unfold loc6; omega) _
  have f2 : FrP DNW m (upI (upI m.1 5 0 4 (sd (v 99))) 5 0 1 (nI (dr (v 99) 5)), m.2) := FrP.up (m' := (upI m.1 5 0 4 (sd (v 99)), m.2)) f1 (by unfold DNW; omega) _
  have e5 : (upI (upI m.1 5 0 4 (sd (v 99))) 5 0 1 (nI (dr (v 99) 5))) 5 0 5 = nI nb := w2.2.2.2.2.2.1.trans (by rw [upv_nn (by omega), upv_nn (by omega)]; exact h.1)
  rw [e5]
  generalize (upI (upI m.1 5 0 4 (sd (v 99))) 5 0 1 (nI (dr (v 99) 5)), m.2) = m2 at w2 f2
  clear e5
  have s2 : m2.1 5 0 4 = sd (v 99) := w2.2.2.2.2.1.trans (by rw [upv_nn (by omega), upv_same])
  rw [draw6 0 m2 h0 (by omega), s2]
  simp only [Option.bind_some]
  have w3 := RelW_sd w2 h8 h6 (sd (sd (v 99)))
  have f3 : FrP DNW m (upI m2.1 5 0 4 (sd (sd (v 99))), m2.2) := FrP.up f2 (by unfold DNW; omega) _
  generalize (upI m2.1 5 0 4 (sd (sd (v 99))), m2.2) = m3 at w3 f3
  have hbk := dr_lt (sd (v 99)) h0
  have c5 : m3.1 5 0 5 = nI nb := w3.2.2.2.2.2.1.trans (by rw [upv_nn (by omega), upv_nn (by omega), upv_nn (by omega)]; exact h.1)
  generalize hb : dr (sd (v 99)) nb = b at *
  rw [e_bottleAt 0 _ nb m3 c5 h8, inB_t hbk (by omega), if_pos rfl, n_cl (by omega)]
  simp only [Option.bind_some]
  have c0 : m3.1 5 0 0 = nI nc := w3.1.trans (by rw [upv_nn (by omega), upv_nn (by omega), upv_nn (by omega)]; exact h.2.2.2.2.1)
  have s3 : m3.1 5 0 4 = sd (sd (v 99)) := w3.2.2.2.2.1.trans (upv_same _ _ _)
  rw [c0, draw6 0 m3 (by omega) (by omega), s3]
  simp only [Option.bind_some]
  have w4 := RelW_sd w3 h8 h6 (sd (sd (sd (v 99))))
  have f4 : FrP DNW m (upI m3.1 5 0 4 (sd (sd (sd (v 99)))), m3.2) := FrP.up f3 (by unfold DNW; omega) _
  have er : upv (upv (upv (upv v 99 (sd (v 99))) 94 (nI (dr (v 99) 5))) 99 (sd (sd (v 99)))) 99 (sd (sd (sd (v 99)))) = upv (upv v 94 (nI (dr (v 99) 5))) 99 (sd (sd (sd (v 99)))) := by
    funext j
    unfold upv
    by_cases q1 : j = 99
    · simp only [q1, if_true]
    · by_cases q2 : j = 94
      · simp only [q2, if_true, Nat.reduceEqDiff, if_false]
      · simp only [q1, q2, if_false]
  rw [er] at w4
  have hB := w4.2.2.2.2.2.2.2.2.1 b hbk
  have h4 : upI m3.1 5 0 4 (sd (sd (sd (v 99)))) 0 (9 * 0 + 1 + b) 4 = v (66 + b) := hB.2.2.2.2.trans (by rw [upv_nn (by omega), upv_nn (by omega)])
  rw [h4]
  by_cases q : v (66 + b) = 0
  · rw [if_pos q]
    have ed : dw nb nc v = upv (upv v 94 (nI (dr (v 99) 5))) 99 (sd (sd (sd (v 99)))) := by unfold dw; rw [hb, if_pos q]
    rw [← ed] at w4
    have e96 : dw nb nc v 96 = v 96 := by rw [ed, upv_nn (by omega), upv_nn (by omega)]
    refine (day6 (m := (upI m3.1 5 0 4 (sd (sd (sd (v 99)))), m3.2)) w4 hF).bind ?_
    intro r m5 ⟨r1, r2, r3⟩
    rw [e96] at r2
    exact Ok.ret ⟨r1, r2, f4.trans r3⟩
  · rw [if_neg q]
    have ed : dw nb nc v = upv (upv (upv (upv v 94 (nI (dr (v 99) 5))) 99 (sd (sd (sd (v 99))))) (66 + b) 0) (48 + b) (nI (dr (sd (sd (v 99))) nc)) := by unfold dw; rw [hb, if_neg q]
    have w5 := RelW_one (RelW_one w4 h8 h6 (c := 0) (i := 9 * 0 + 1 + b) (k := 4) (j := 66 + b) (Or.inr (Or.inr (Or.inl ⟨rfl, b, by omega, rfl, by omega, by omega⟩))) 0) h8 h6 (c := 0) (i := 9 * 0 + 1 + b) (k := 2) (j := 48 + b) (Or.inr (Or.inr (Or.inl ⟨rfl, b, by omega, rfl, by omega, by omega⟩))) (nI (dr (sd (sd (v 99))) nc))
    rw [← ed] at w5
    have f5 : FrP DNW m (upI (upI (upI m3.1 5 0 4 (sd (sd (sd (v 99))))) 0 (9 * 0 + 1 + b) 4 0) 0 (9 * 0 + 1 + b) 2 (nI (dr (sd (sd (v 99))) nc)), m3.2) := FrP.up (m' := (upI (upI m3.1 5 0 4 (sd (sd (sd (v 99))))) 0 (9 * 0 + 1 + b) 4 0, m3.2)) (FrP.up (m' := (upI m3.1 5 0 4 (sd (sd (sd (v 99)))), m3.2)) f4 (by unfold DNW; omega) _) (by unfold DNW; omega) _
    have e96 : dw nb nc v 96 = v 96 := by rw [ed, upv_nn (by omega), upv_nn (by omega), upv_nn (by omega), upv_nn (by omega)]
    refine (day6 (m := (upI (upI (upI m3.1 5 0 4 (sd (sd (sd (v 99))))) 0 (9 * 0 + 1 + b) 4 0) 0 (9 * 0 + 1 + b) 2 (nI (dr (sd (sd (v 99))) nc)), m3.2)) w5 hF).bind ?_
    intro r m5 ⟨r1, r2, r3⟩
    rw [e96] at r2
    exact Ok.ret ⟨r1, r2, f5.trans r3⟩
