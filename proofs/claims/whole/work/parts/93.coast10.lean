/-! PURE: coast, a bottle told to the model -/
theorem floats7 {B : Nat → Int32} {tp q nb nw nc : Nat} {v : Nat → Int32} {m : MM} (hL : Lv v m) (hF : WF v nb nw nc) (hT : Tp7 B tp m) (hq : q ≤ tp) (h16 : m.1 7 0 16 = nI q) (hr : nb < 8) : Ok (fX7_floats 0 m) (St7 B tp q 4 (fun _ => 0) (hiN 2 nc nw) (adB v nb (tV B tp (ps B tp q 0)) (tV B tp (ps B tp q 1)) (tV B tp (ps B tp q 2)) (tV B tp (ps B tp q 3))) m) := by
  have e4 : m.1 7 0 4 = nI nb := hL.2.2.2.2.2.2.2.1.symm.trans hF.1
  rw [fX7_floats_eq]; unfold fX7_floats_b
  rw [e4, if_pos (by rw [show (8 : Int32) = nI 8 from rfl, n_inj (by omega) (by omega)]; omega)]
  refine (num7 hL hT hq h16 (by decide)).bind ?_
  intro r1 m1 ⟨a, l1, t1, p1, s1, f1⟩
  dsimp only
  have n0 : nr B tp (fun _ => 0) (hiN 2 nc nw) q 0 = none := rfl
  rcases a with ⟨b1, b2, b3⟩ | ⟨b1, b2⟩
  · rw [if_pos b3]
    have n1 : nr B tp (fun _ => 0) (hiN 2 nc nw) q 1 = none := by rw [nr_s n0]; exact if_pos b1
    refine (num7 (p := tE B tp q) l1 t1 (tE_le hq).2 p1 (by decide)).bind ?_
    intro r2 m2 ⟨a, l2, t2, p2, s2, f2⟩
    unfold fX7_floats_j34
    dsimp only
    rcases a with ⟨c1, c2, c3⟩ | ⟨c1, c2⟩
    · rw [if_pos c3]
      have n2 : nr B tp (fun _ => 0) (hiN 2 nc nw) q 2 = none := by rw [nr_s n1]; exact if_pos c1
      rw [fX7_cellTold_eq]
      unfold fX7_cellTold_b
      rw [show m2.1 7 0 0 = nI nc from l2.2.2.2.1.symm.trans hF.2.2.2.2.1]
      simp only [bind_eta]
      refine (num7 (p := tE B tp (tE B tp q)) l2 t2 (tE_le (tE_le hq).2).2 p2 (by decide)).bind ?_
      intro r3 m3 ⟨a, l3, t3, p3, s3, f3⟩
      unfold fX7_floats_j48
      dsimp only
      have g3 := (f1.trans f2).trans f3
      rcases a with ⟨d1, d2, d3⟩ | ⟨d1, d2⟩
      · rw [if_pos d3]
        have n3 : nr B tp (fun _ => 0) (hiN 2 nc nw) q 3 = none := by rw [nr_s n2]; exact if_pos d1
        rw [show m3.1 7 0 10 = nI nw from l3.2.2.2.2.2.2.2.2.1.symm.trans hF.2.2.1]
        refine (num7 (p := tE B tp (tE B tp (tE B tp q))) l3 t3 (tE_le (tE_le (tE_le hq).2).2).2 p3 (by decide)).bind ?_
        intro r4 m4 ⟨a, l4, t4, p4, s4, f4⟩
        unfold fX7_floats_j69
        dsimp only
        have g4 : FrP (fun c i k => Dnx c i k ∨ Dlv c i k) m m4 := (g3.trans f4).mono (fun c i k h => Or.inl h)
        rcases a with ⟨x1, x2, x3⟩ | ⟨x1, x2⟩
        · have n4 : nr B tp (fun _ => 0) (hiN 2 nc nw) q 4 = none := by rw [nr_s n3]; exact if_pos x1
          rw [if_pos x3, show m4.1 7 0 4 = nI nb from l4.2.2.2.2.2.2.2.1.symm.trans hF.1, e7_becomes r1 r2 r3 r4 _ (show nb < 9 by omega), ← n_s]
          have L5 := Lv_mB7 (k := r1) (a := r2) (c := r3) (x := r4) (Lv_one l4 (c := 7) (j := 4) (k := 97) (by unfold loc; omega) (nI (nb + 1))) (show nb < 9 by omega)
          rw [b2, c2, d2, x2] at L5 ⊢
          refine Ok.ret ⟨g4.trans ⟨fun c i k d => ?_, rfl⟩, Or.inr ⟨rfl, n4, L5, ?_⟩⟩
          · unfold Dnx Dlv at d
            unfold mB7
            dsimp only
            rw [upI_nn (by omega), upI_nn (by omega), upI_nn (by omega), upI_nn (by omega), upI_nn (by omega), upI_nn (by omega)]
          · unfold mB7
            dsimp only
            rw [upI_nn (by omega), upI_nn (by omega), upI_nn (by omega), upI_nn (by omega), upI_nn (by omega), upI_nn (by omega)]; exact p4
        · rw [if_neg (fun h => h x2)]
          exact Ok.ret ⟨g4, Or.inl ⟨rfl, _, nr_1 n3 (by omega) x1, s4⟩⟩
      · rw [if_neg (fun h => h d2)]
        unfold fX7_floats_j69
        rw [if_neg (fun h => h rfl)]
        exact Ok.ret ⟨g3.mono (fun c i k h => Or.inl h), Or.inl ⟨rfl, _, nr_1 n2 (by omega) d1, s3⟩⟩
    · rw [if_neg (fun h => h c2)]
      unfold fX7_floats_j48
      rw [if_neg (fun h => h rfl)]
      unfold fX7_floats_j69
      rw [if_neg (fun h => h rfl)]
      exact Ok.ret ⟨(f1.trans f2).mono (fun c i k h => Or.inl h), Or.inl ⟨rfl, _, nr_1 n1 (by omega) c1, s2⟩⟩
  · rw [if_neg (fun h => h b2)]
    unfold fX7_floats_j34
    rw [if_neg (fun h => h rfl)]
    unfold fX7_floats_j48
    rw [if_neg (fun h => h rfl)]
    unfold fX7_floats_j69
    rw [if_neg (fun h => h rfl)]
    exact Ok.ret ⟨f1.mono (fun c i k h => Or.inl h), Or.inl ⟨rfl, _, nr_1 n0 (by omega) b1, s1⟩⟩
/-- one number, and what it sets -/
theorem one7 {B : Nat → Int32} {tp q : Nat} {v v' : Nat → Int32} {m : MM} {lo hi : Int32} {lo' hi' : Nat → Int32} {F : Int32 × MM → Option (Bool × MM)} (hL : Lv v m) (hT : Tp7 B tp m) (hq : q ≤ tp) (h16 : m.1 7 0 16 = nI q) (hl : 0 ≤ lo.toInt) (e1 : lo' 0 = lo) (e2 : hi' 0 = hi) (hno : ∀ m2, F (-1, m2) = some (false, m2))
    (hy : ∀ m2, nmB B tp lo hi q = true → ¬ tV B tp q = -1 → Lv v m2 → Ok (F (tV B tp q, m2)) (fun r m3 => r = true ∧ Lv v' m3 ∧ FrP Dlv m2 m3)) : Ok ((fX7_number 0 lo hi m).bind F) (St7 B tp q 1 lo' hi' v' m) := by
  refine (num7 hL hT hq h16 hl).bind ?_
  intro r1 m1 ⟨a, l1, t1, p1, s1, f1⟩
  have n0 : nr B tp lo' hi' q 0 = none := rfl
  rcases a with ⟨b1, b2, b3⟩ | ⟨b1, b2⟩
  · subst b2
    refine (hy m1 b1 b3 l1).mono ?_
    intro r m2 ⟨c1, c2, c3⟩
    refine ⟨(f1.mono (fun c i k h => Or.inl h)).trans (c3.mono (fun c i k h => Or.inr h)), Or.inr ⟨c1, ?_, c2, ?_⟩⟩
    · rw [nr_s n0, e1, e2]; exact if_pos b1
    · rw [c3.1 7 0 16 (by unfold Dlv; omega)]; exact p1
  · subst b2
    rw [hno]
    exact Ok.ret ⟨f1.mono (fun c i k h => Or.inl h), Or.inl ⟨rfl, _, nr_1 n0 (by omega) (by rw [e1, e2]; exact b1), s1⟩⟩
