/-! PURE: coast, a token of each -/
theorem scan6 {B : Nat → Int32} {tp p : Nat} {m : MM} (h : Tp6 B tp m) (hp : p ≤ tp) (h3 : m.1 2 0 3 = nI p) : Ok (fX2_scan 0 m) (fun _ m' => m'.1 2 0 3 = nI (tE B tp p) ∧ m'.1 2 0 1 = nI (tS B tp p) ∧ m'.1 2 0 4 = nI (tK B tp p) ∧ (tK B tp p = 2 → m'.1 2 0 5 = if tO B tp p = true then tV B tp p else -1) ∧ FrP Dsc m m') := by
  have h250 := h.1
  rw [fX2_scan_eq]; unfold fX2_scan_b
  refine (scan6_s h hp h3).bind ?_
  intro _ m1 ⟨a, f⟩
  have hT := h.fr f
  obtain ⟨l1, l2⟩ := tS_le (B := B) hp
  unfold fX2_scan_j37
  dsimp only
  rw [upI_nn (show ¬ (2 = 2 ∧ 0 = 0 ∧ 3 = 1) by omega), a]
  have f1 : FrP Dsc m (upI m1.1 2 0 1 (nI (tS B tp p)), m1.2) := FrP.up (m' := m1) f (by unfold Dsc; omega) _
  have a1 : (upI m1.1 2 0 1 (nI (tS B tp p)), m1.2).1 2 0 3 = nI (tS B tp p) := by dsimp only; rw [upI_nn (by omega)]; exact a
  have b1 : (upI m1.1 2 0 1 (nI (tS B tp p)), m1.2).1 2 0 1 = nI (tS B tp p) := by dsimp only; rw [upI_same]
  generalize (upI m1.1 2 0 1 (nI (tS B tp p)), m1.2) = m2 at *
  have hT2 := h.fr f1
  unfold tE tK tO tV tE
  generalize hs : tS B tp p = s at *
  by_cases q : s = tp
  · rw [e_byte_no hT2 (by omega) (by omega)]
    simp only [Option.bind_some]
    rw [if_neg (not_not_intro trivial), if_pos q, if_pos q]
    refine Ok.ret ⟨?_, ?_, ?_, fun h => by omega, FrP.up (m' := m2) f1 (by unfold Dsc; omega) _⟩
    · dsimp only; rw [upI_nn (by omega)]; exact a1
    · dsimp only; rw [upI_nn (by omega)]; exact b1
    · dsimp only; rw [upI_same]; rfl
  · rw [e_byte hT2 (show s < tp by omega)]
    simp only [Option.bind_some]
    have hx := (h.2.2 s (by omega)).2
    have ne : ¬ B s = -1 := fun e => by rw [e] at hx; revert hx; decide
    rw [if_pos ne, e6_let, if_neg q, if_neg q]
    simp only [Option.bind_some]
    cases c1 : isLt (B s)
    · simp only [bI_0, if_true, reduceCtorEq, if_false]
      rw [e6_dig]
      simp only [Option.bind_some]
      cases c2 : isDg (B s)
      · simp only [bI_0, if_true, reduceCtorEq, if_false]
        by_cases c3 : B s = 59
        · rw [if_neg (fun h => h c3), if_pos c3]
          refine Ok.ret ⟨?_, ?_, ?_, fun h => by omega, FrP.up (m' := (upI m2.1 2 0 4 3, m2.2)) (FrP.up (m' := m2) f1 (by unfold Dsc; omega) _) (by unfold Dsc; omega) _⟩
          · dsimp only; rw [upI_same, upI_nn (by omega), a1, n_s]
          · dsimp only; rw [upI_nn (by omega), upI_nn (by omega)]; exact b1
          · dsimp only; rw [upI_nn (by omega), upI_same]; rfl
        · rw [if_pos c3, if_neg c3]
          refine Ok.ret ⟨?_, ?_, ?_, fun h => by omega, FrP.up (m' := (upI m2.1 2 0 4 4, m2.2)) (FrP.up (m' := m2) f1 (by unfold Dsc; omega) _) (by unfold Dsc; omega) _⟩
          · dsimp only; rw [upI_same, upI_nn (by omega), a1, n_s]
          · dsimp only; rw [upI_nn (by omega), upI_nn (by omega)]; exact b1
          · dsimp only; rw [upI_nn (by omega), upI_same]; rfl
      · simp only [bI_0, reduceCtorEq, if_false, if_true]
        have f2 : FrP Dsc m (upI m2.1 2 0 4 2, m2.2) := FrP.up (m' := m2) f1 (by unfold Dsc; omega) _
        refine (scan6_n (s := s) (h.fr f2) (by omega) ?_ ?_).bind ?_
        · dsimp only; rw [upI_nn (by omega)]; exact b1
        · dsimp only; rw [upI_nn (by omega)]; exact a1
        intro _ m3 ⟨n1, n2, n3⟩
        refine Ok.ret ⟨n1, ?_, ?_, fun _ => ?_, f2.trans (n3.mono (by unfold Dsc; omega))⟩
        · rw [n3.1 2 0 1 (by omega)]; dsimp only; rw [upI_nn (by omega)]; exact b1
        · rw [n3.1 2 0 4 (by omega)]; dsimp only; rw [upI_same]; rfl
        · rw [n2]
          by_cases c : run isDg B tp s - s ≤ 3
          · rw [if_pos c, if_pos (decide_eq_true c)]
          · rw [if_neg c, if_neg (by rw [decide_eq_false c]; decide)]
    · simp only [bI_0, reduceCtorEq, if_false, if_true]
      have f2 : FrP Dsc m (upI m2.1 2 0 4 1, m2.2) := FrP.up (m' := m2) f1 (by unfold Dsc; omega) _
      refine (scan6_w (s := s) (h.fr f2) (by omega) ?_).bind ?_
      · dsimp only; rw [upI_nn (by omega)]; exact a1
      intro _ m3 ⟨n1, n3⟩
      refine Ok.ret ⟨n1, ?_, ?_, fun h => by omega, f2.trans (n3.mono (by unfold Dsc; omega))⟩
      · rw [n3.1 2 0 1 (by omega)]; dsimp only; rw [upI_nn (by omega)]; exact b1
      · rw [n3.1 2 0 4 (by omega)]; dsimp only; rw [upI_same]; rfl
def Dnx : Nat → Nat → Nat → Prop := fun c i k => c = 7 ∧ i = 0 ∧ 15 ≤ k ∧ k ≤ 18
theorem Tp7.fr {B : Nat → Int32} {tp : Nat} {m m' : MM} (h : Tp7 B tp m) (f : FrP Dnx m m') : Tp7 B tp m' := by
  obtain ⟨a, b, c⟩ := h
  exact ⟨a, by rw [f.1 7 0 13 (by unfold Dnx; omega)]; exact b, fun k hk => by rw [f.1 58 0 k (by unfold Dnx; omega)]; exact c k hk⟩
/-- the model's blanks -/
theorem next7_s {B : Nat → Int32} {tp p : Nat} {m : MM} (h : Tp7 B tp m) (hp : p ≤ tp) (h3 : m.1 7 0 15 = nI p) : Ok (loopF 1000 (fX7_next_b8 0) () m) (fun _ m' => m'.1 7 0 15 = nI (tS B tp p) ∧ FrP (fun c i k => c = 7 ∧ i = 0 ∧ k = 15) m m') := by
  have h250 := h.1
  obtain ⟨l1, l2⟩ := tS_le (B := B) hp
  refine Ok.count p (tS B tp p) (fun i _ m' => m'.1 7 0 15 = nI i ∧ FrP (fun c i k => c = 7 ∧ i = 0 ∧ k = 15) m m') ?_ ?_ l1 1000 (by omega) () m ⟨h3, FrP.rfl⟩
  · intro i s m' h1 h2 ⟨a, f⟩
    have hT := h.fr (f.mono (by unfold Dnx; omega))
    obtain ⟨r1, r2⟩ := run_in h1 h2
    unfold fX7_next_b8
    rw [hT.2.1, a, if_neg (by rw [n_le (by omega) (by omega)]; omega), inB_t (show i < 250 by omega) (by omega), cond_true, n_cl (show i < 2147483648 by omega), (hT.2.2 i r1).1]
    rw [if_neg (show ¬ ¬ B i = 32 from fun h => h (of_decide_eq_true r2)), ← n_s]
    exact Ok.ret ⟨by dsimp only; rw [upI_same], FrP.up (m' := m') f (by omega) _⟩
  · intro s m' ⟨a, f⟩
    have hT := h.fr (f.mono (by unfold Dnx; omega))
    have re := run_end isS B tp p
    unfold fX7_next_b8
    by_cases q : tS B tp p < tp
    · rw [hT.2.1, a, if_neg (by rw [n_le (by omega) (by omega)]; omega), inB_t (show tS B tp p < 250 by omega) (by omega), cond_true, n_cl (show tS B tp p < 2147483648 by omega), (hT.2.2 _ q).1]
      rw [if_pos (show ¬ B (tS B tp p) = 32 from fun h => re ⟨q, decide_eq_true h⟩)]
      exact Ok.ret ⟨a, f⟩
    · rw [hT.2.1, a, if_pos (by rw [n_le (by omega) (by omega)]; omega)]
      exact Ok.ret ⟨a, f⟩
/-- the model's word -/
theorem next7_w {B : Nat → Int32} {tp s : Nat} {m : MM} (h : Tp7 B tp m) (hp : s ≤ tp) (h3 : m.1 7 0 16 = nI s) : Ok (loopF 1000 (fX7_next_b96 0) () m) (fun _ m' => m'.1 7 0 16 = nI (run isLt B tp s) ∧ FrP (fun c i k => c = 7 ∧ i = 0 ∧ k = 16) m m') := by
  have h250 := h.1
  have l1 := run_le isLt B tp s
  have l2 := run_tp (P := isLt) (B := B) hp
  refine Ok.count s (run isLt B tp s) (fun i _ m' => m'.1 7 0 16 = nI i ∧ FrP (fun c i k => c = 7 ∧ i = 0 ∧ k = 16) m m') ?_ ?_ l1 1000 (by omega) () m ⟨h3, FrP.rfl⟩
  · intro i s m' h1 h2 ⟨a, f⟩
    have hT := h.fr (f.mono (by unfold Dnx; omega))
    obtain ⟨r1, r2⟩ := run_in h1 h2
    unfold fX7_next_b96
    rw [hT.2.1, a, if_neg (by rw [n_le (by omega) (by omega)]; omega), inB_t (show i < 250 by omega) (by omega), cond_true, n_cl (show i < 2147483648 by omega), (hT.2.2 i r1).1, e7_let, r2]
    simp only [Option.bind_some, bI_0, reduceCtorEq, if_false]
    rw [a, ← n_s]
    exact Ok.ret ⟨by dsimp only; rw [upI_same], FrP.up (m' := m') f (by omega) _⟩
  · intro _ m' ⟨a, f⟩
    have hT := h.fr (f.mono (by unfold Dnx; omega))
    have re := run_end isLt B tp s
    unfold fX7_next_b96
    by_cases q : run isLt B tp s < tp
    · have : isLt (B (run isLt B tp s)) = false := by
        cases hh : isLt (B (run isLt B tp s))
        · rfl
        · exact absurd ⟨q, hh⟩ re
      rw [hT.2.1, a, if_neg (by rw [n_le (by omega) (by omega)]; omega), inB_t (show run isLt B tp s < 250 by omega) (by omega), cond_true, n_cl (show run isLt B tp s < 2147483648 by omega), (hT.2.2 _ q).1, e7_let, this]
      simp only [Option.bind_some, bI_0, if_true]
      exact Ok.ret ⟨a, f⟩
    · rw [hT.2.1, a, if_pos (by rw [n_le (by omega) (by omega)]; omega)]
      exact Ok.ret ⟨a, f⟩
/-- the model's number, from its second digit on -/
theorem next7_n {B : Nat → Int32} {tp s : Nat} {m : MM} (h : Tp7 B tp m) (hp : s < tp) (hd : isDg (B s) = true) (h15 : m.1 7 0 15 = nI s) (h16 : m.1 7 0 16 = nI (s + 1)) (h18 : m.1 7 0 18 = B s - 48) : Ok (loopF 1000 (fX7_next_b159 0) () m) (fun _ m' => m'.1 7 0 16 = nI (run isDg B tp s) ∧ (run isDg B tp s - s ≤ 3 → m'.1 7 0 18 = numN B s (run isDg B tp s - s)) ∧ FrP (fun c i k => c = 7 ∧ i = 0 ∧ (k = 16 ∨ k = 18)) m m') := by
  have h250 := h.1
  have l1 := run_le isDg B tp (s + 1)
  have l2 := run_tp (P := isDg) (B := B) (show s + 1 ≤ tp by omega)
  rw [run_s hp hd]
  refine Ok.count (s + 1) (run isDg B tp (s + 1)) (fun i _ m' => m'.1 7 0 16 = nI i ∧ (i - s ≤ 3 → m'.1 7 0 18 = numN B s (i - s)) ∧ FrP (fun c i k => c = 7 ∧ i = 0 ∧ (k = 16 ∨ k = 18)) m m') ?_ ?_ l1 1000 (by omega) () m ⟨h16, fun _ => ?_, FrP.rfl⟩
  · intro i _ m' h1 h2 ⟨a, b, f⟩
    have hT := h.fr (f.mono (by unfold Dnx; omega))
    obtain ⟨r1, r2⟩ := run_in h1 h2
    have a1 : m'.1 7 0 15 = nI s := by rw [f.1 7 0 15 (by omega)]; exact h15
    unfold fX7_next_b159
    rw [hT.2.1, a, if_neg (by rw [n_le (by omega) (by omega)]; omega), inB_t (show i < 250 by omega) (by omega), cond_true, n_cl (show i < 2147483648 by omega), (hT.2.2 i r1).1, e7_dig, r2]
    simp only [Option.bind_some, bI_0, reduceCtorEq, if_false]
    rw [a, a1, ← n_sub (show s ≤ i by omega), show (3 : Int32) = nI 3 from rfl]
    by_cases q : 3 ≤ i - s
    · rw [if_pos (by rw [n_le (by omega) (by omega)]; exact q), ← n_s]
      refine Ok.ret ⟨by dsimp only; rw [upI_same], fun h => by omega, FrP.up (m' := m') f (by omega) _⟩
    · rw [if_neg (by rw [n_le (by omega) (by omega)]; exact q), inB_t (show i < 250 by omega) (by omega), cond_true, n_cl (show i < 2147483648 by omega), (hT.2.2 i r1).1]
      refine Ok.ret ⟨?_, fun _ => ?_, FrP.up (m' := (upI m'.1 7 0 18 _, m'.2)) (FrP.up (m' := m') f (by omega) _) (by omega) _⟩
      · dsimp only; rw [upI_same, upI_nn (by omega), a, ← n_s]
      · dsimp only
        rw [upI_nn (by omega), upI_same, b (by omega), show i + 1 - s = (i - s) + 1 by omega]
        show _ = 10 * numN B s (i - s) + B (s + (i - s)) - 48
        rw [show s + (i - s) = i by omega]
  · intro _ m' ⟨a, b, f⟩
    have hT := h.fr (f.mono (by unfold Dnx; omega))
    have re := run_end isDg B tp (s + 1)
    unfold fX7_next_b159
    by_cases q : run isDg B tp (s + 1) < tp
    · have : isDg (B (run isDg B tp (s + 1))) = false := by
        cases hh : isDg (B (run isDg B tp (s + 1)))
        · rfl
        · exact absurd ⟨q, hh⟩ re
      rw [hT.2.1, a, if_neg (by rw [n_le (by omega) (by omega)]; omega), inB_t (show run isDg B tp (s + 1) < 250 by omega) (by omega), cond_true, n_cl (show run isDg B tp (s + 1) < 2147483648 by omega), (hT.2.2 _ q).1, e7_dig, this]
      simp only [Option.bind_some, bI_0, if_true]
      exact Ok.ret ⟨a, b, f⟩
    · rw [hT.2.1, a, if_pos (by rw [n_le (by omega) (by omega)]; omega)]
      exact Ok.ret ⟨a, b, f⟩
  · rw [h18, show s + 1 - s = 0 + 1 by omega]
    show _ = 10 * 0 + B (s + 0) - 48
    rw [Nat.add_zero, show (10 : Int32) * 0 = 0 by decide, Int32.zero_add]
