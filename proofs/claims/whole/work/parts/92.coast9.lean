/-! PURE: coast, a statement of the model -/
theorem num7 {B : Nat → Int32} {tp p : Nat} {lo hi : Int32} {v : Nat → Int32} {m : MM} (hL : Lv v m) (h : Tp7 B tp m) (hp : p ≤ tp) (h16 : m.1 7 0 16 = nI p) (hl : 0 ≤ lo.toInt) : Ok (fX7_number 0 lo hi m) (fun r m' => ((nmB B tp lo hi p = true ∧ r = tV B tp p ∧ ¬ r = -1) ∨ (¬ nmB B tp lo hi p = true ∧ r = -1)) ∧ Lv v m' ∧ Tp7 B tp m' ∧ m'.1 7 0 16 = nI (tE B tp p) ∧ m'.1 7 0 15 = nI (tS B tp p) ∧ FrP Dnx m m') := by
  refine (number7 h hp h16).mono ?_
  intro r m' ⟨a1, a2, a3, f⟩
  refine ⟨?_, Lv_fr hL f (by unfold Dlv Dnx; omega), h.fr f, a2, a3, f⟩
  by_cases q : nmB B tp lo hi p = true
  · rw [if_pos q] at a1
    refine Or.inl ⟨q, a1, fun e => ?_⟩
    unfold nmB at q
    simp only [Bool.and_eq_true, decide_eq_true_eq] at q
    obtain ⟨⟨⟨_, _⟩, a⟩, b⟩ := q
    rw [← a1, e, Int32.lt_iff_toInt_lt, show (-1 : Int32).toInt = -1 from rfl] at a
    omega
  · rw [if_neg q] at a1
    exact Or.inr ⟨q, a1⟩
/-- what both need of a statement of the model -/
def St7 (B : Nat → Int32) (tp q n : Nat) (lo hi : Nat → Int32) (v' : Nat → Int32) (m : MM) (r : Bool) (m' : MM) : Prop :=
  FrP (fun c i k => Dnx c i k ∨ Dlv c i k) m m' ∧ ((r = false ∧ ∃ s, nr B tp lo hi q n = some s ∧ m'.1 7 0 15 = nI s) ∨ (r = true ∧ nr B tp lo hi q n = none ∧ Lv v' m' ∧ m'.1 7 0 16 = nI (ps B tp q n)))
theorem nr_1 {B : Nat → Int32} {tp q n : Nat} {lo hi : Nat → Int32} {i : Nat} (h : nr B tp lo hi q i = none) (hn : i < n) (hb : ¬ nmB B tp (lo i) (hi i) (ps B tp q i) = true) : nr B tp lo hi q n = some (tS B tp (ps B tp q i)) := by
  have := nr_stay (k := n - (i + 1)) (show nr B tp lo hi q (i + 1) = some (tS B tp (ps B tp q i)) by rw [nr_s h, if_neg hb])
  rw [show i + 1 + (n - (i + 1)) = n by omega] at this
  exact this
/-- a walker told -/
theorem comes7 {B : Nat → Int32} {tp q nb nw nc : Nat} {v : Nat → Int32} {m : MM} (hL : Lv v m) (hF : WF v nb nw nc) (hT : Tp7 B tp m) (hq : q ≤ tp) (h16 : m.1 7 0 16 = nI q) (hr : nw < 6) : Ok (fX7_comesOne 0 m) (St7 B tp q 3 (fun _ => 0) (hiN 1 nc nw) (adW v nw (tV B tp (ps B tp q 0)) (tV B tp (ps B tp q 1)) (tV B tp (ps B tp q 2))) m) := by
  have e10 : m.1 7 0 10 = nI nw := hL.2.2.2.2.2.2.2.2.1.symm.trans hF.2.2.1
  have e0 : m.1 7 0 0 = nI nc := hL.2.2.2.1.symm.trans hF.2.2.2.2.1
  rw [fX7_comesOne_eq]; unfold fX7_comesOne_b
  rw [e10, if_pos (by rw [show (6 : Int32) = nI 6 from rfl, n_inj (by omega) (by omega)]; omega), fX7_cellTold_eq]
  unfold fX7_cellTold_b
  rw [e0]
  simp only [bind_eta]
  refine (num7 hL hT hq h16 (by decide)).bind ?_
  intro r1 m1 ⟨a, l1, t1, p1, s1, f1⟩
  dsimp only
  rcases a with ⟨b1, b2, b3⟩ | ⟨b1, b2⟩
  · rw [if_pos b3]
    refine (num7 (p := tE B tp q) l1 t1 (tE_le hq).2 p1 (by decide)).bind ?_
    intro r2 m2 ⟨a, l2, t2, p2, s2, f2⟩
    unfold fX7_comesOne_j31
    dsimp only
    have n1 : nr B tp (fun _ => 0) (hiN 1 nc nw) q 1 = none := by rw [nr_s (show nr B tp (fun _ => 0) (hiN 1 nc nw) q 0 = none from rfl)]; exact if_pos b1
    rcases a with ⟨c1, c2, c3⟩ | ⟨c1, c2⟩
    · rw [if_pos c3]
      have n2 : nr B tp (fun _ => 0) (hiN 1 nc nw) q 2 = none := by rw [nr_s n1]; exact if_pos c1
      refine (num7 (p := tE B tp (tE B tp q)) l2 t2 (tE_le (tE_le hq).2).2 p2 (by decide)).bind ?_
      intro r3 m3 ⟨a, l3, t3, p3, s3, f3⟩
      dsimp only
      have g : FrP (fun c i k => Dnx c i k ∨ Dlv c i k) m m3 := ((f1.trans f2).trans f3).mono (fun c i k h => Or.inl h)
      rcases a with ⟨d1, d2, d3⟩ | ⟨d1, d2⟩
      · have n3 : nr B tp (fun _ => 0) (hiN 1 nc nw) q 3 = none := by rw [nr_s n2]; exact if_pos d1
        rw [if_pos d3, e7_newWalker r1 r2 r3 m3 (l3.2.2.2.2.2.2.2.2.1.symm.trans hF.2.2.1) hr]
        rw [b2, c2, d2]
        refine Ok.ret ⟨g.trans ⟨fun c i k d => ?_, rfl⟩, Or.inr ⟨rfl, n3, Lv_adW l3 hr, ?_⟩⟩
        · unfold Dnx Dlv at d
          unfold mW7
          dsimp only
          rw [upI_nn (by omega), upI_nn (by omega), upI_nn (by omega), upI_nn (by omega)]
        · unfold mW7
          dsimp only
          rw [upI_nn (by omega), upI_nn (by omega), upI_nn (by omega), upI_nn (by omega)]; exact p3
      · rw [if_neg (fun h => h d2)]
        exact Ok.ret ⟨g, Or.inl ⟨rfl, _, nr_1 n2 (by omega) d1, s3⟩⟩
    · rw [if_neg (fun h => h c2)]
      exact Ok.ret ⟨(f1.trans f2).mono (fun c i k h => Or.inl h), Or.inl ⟨rfl, _, nr_1 n1 (by omega) c1, s2⟩⟩
  · rw [if_neg (fun h => h b2)]
    unfold fX7_comesOne_j31
    rw [if_neg (fun h => h rfl)]
    exact Ok.ret ⟨f1.mono (fun c i k h => Or.inl h), Or.inl ⟨rfl, _, nr_1 (show nr B tp (fun _ => 0) (hiN 1 nc nw) q 0 = none from rfl) (by omega) b1, s1⟩⟩
