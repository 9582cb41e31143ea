/-! PURE: coast, the model's token -/
def k7 (k : Nat) (o : Bool) : Int32 := if k = 0 then 101 else if k = 1 then 119 else if k = 2 then (if o = true then 48 else 120) else if k = 3 then 59 else 120
theorem next7 {B : Nat → Int32} {tp p : Nat} {m : MM} (h : Tp7 B tp m) (hp : p ≤ tp) (h16 : m.1 7 0 16 = nI p) : Ok (fX7_next 0 m) (fun _ m' => m'.1 7 0 16 = nI (tE B tp p) ∧ m'.1 7 0 15 = nI (tS B tp p) ∧ m'.1 7 0 17 = k7 (tK B tp p) (tO B tp p) ∧ (tK B tp p = 2 → tO B tp p = true → m'.1 7 0 18 = tV B tp p) ∧ FrP Dnx m m') := by
  have h250 := h.1
  rw [fX7_next_eq]; unfold fX7_next_b
  rw [h16]
  have f0 : FrP Dnx m (upI m.1 7 0 15 (nI p), m.2) := FrP.up (m' := m) FrP.rfl (by unfold Dnx; omega) _
  refine (next7_s (h.fr f0) hp (by dsimp only; rw [upI_same])).bind ?_
  intro _ m1 ⟨a, f⟩
  have f1 := f0.trans (f.mono (fun c i k q => (by unfold Dnx; omega : Dnx c i k)))
  have hT := h.fr f1
  obtain ⟨l1, l2⟩ := tS_le (B := B) hp
  unfold fX7_next_j46
  simp only [upI_same, upI_k, upI_c, ne_eq, not_false_eq_true, reduceCtorEq, Nat.reduceEqDiff, Nat.zero_ne_one, Nat.one_ne_zero, and_self, a, hT.2.1]
  unfold tE tK tO tV tE
  generalize hs : tS B tp p = s at *
  have f2 : FrP Dnx m (upI m1.1 7 0 16 (nI s), m1.2) := FrP.up (m' := m1) f1 (by unfold Dnx; omega) _
  by_cases q : s = tp
  · rw [if_neg (by rw [n_inj (by omega) (by omega)]; exact fun h => h q), if_pos q, if_pos q]
    refine Ok.ret ⟨?_, ?_, ?_, fun h => by omega, FrP.up (m' := (upI m1.1 7 0 16 (nI s), m1.2)) f2 (by unfold Dnx; omega) _⟩
    · simp only [upI_same, upI_k, upI_c, ne_eq, not_false_eq_true, reduceCtorEq, Nat.reduceEqDiff, Nat.zero_ne_one, Nat.one_ne_zero, and_self]
    · simp only [upI_same, upI_k, upI_c, ne_eq, not_false_eq_true, reduceCtorEq, Nat.reduceEqDiff, Nat.zero_ne_one, Nat.one_ne_zero, and_self]; exact a
    · simp only [upI_same, upI_k, upI_c, ne_eq, not_false_eq_true, reduceCtorEq, Nat.reduceEqDiff, Nat.zero_ne_one, Nat.one_ne_zero, and_self]; rfl
  · have hs' : s < tp := by omega
    have f3 : FrP Dnx m (upI (upI m1.1 7 0 16 (nI s)) 7 0 16 (nI s + 1), m1.2) := FrP.up (m' := (upI m1.1 7 0 16 (nI s), m1.2)) f2 (by unfold Dnx; omega) _
    rw [if_pos (by rw [n_inj (by omega) (by omega)]; exact q), if_neg q, if_neg q, inB_t (show s < 250 by omega) (by omega), cond_true, n_cl (show s < 2147483648 by omega), (hT.2.2 s hs').1, e7_let]
    simp only [Option.bind_some]
    have g16 : (upI (upI m1.1 7 0 16 (nI s)) 7 0 16 (nI s + 1)) 7 0 16 = nI (s + 1) := by rw [upI_same, n_s]
    have g15 : (upI (upI m1.1 7 0 16 (nI s)) 7 0 16 (nI s + 1)) 7 0 15 = nI s := by simp only [upI_same, upI_k, upI_c, ne_eq, not_false_eq_true, reduceCtorEq, Nat.reduceEqDiff, Nat.zero_ne_one, Nat.one_ne_zero, and_self]; exact a
    generalize hm3 : (upI (upI m1.1 7 0 16 (nI s)) 7 0 16 (nI s + 1)) = M3 at *
    cases c1 : isLt (B s)
    · simp only [bI_0, if_true, reduceCtorEq, if_false]
      rw [e7_dig]
      simp only [Option.bind_some]
      cases c2 : isDg (B s)
      · simp only [bI_0, if_true, reduceCtorEq, if_false]
        by_cases c3 : B s = 59
        · rw [if_neg (fun h => h c3), if_pos c3]
          refine Ok.ret ⟨?_, ?_, ?_, fun h => by omega, FrP.up (m' := (M3, m1.2)) f3 (by unfold Dnx; omega) _⟩
          · dsimp only; rw [upI_nn (by omega)]; exact g16
          · dsimp only; rw [upI_nn (by omega)]; exact g15
          · dsimp only; rw [upI_same]; rfl
        · rw [if_pos c3, if_neg c3]
          refine Ok.ret ⟨?_, ?_, ?_, fun h => by omega, FrP.up (m' := (M3, m1.2)) f3 (by unfold Dnx; omega) _⟩
          · dsimp only; rw [upI_nn (by omega)]; exact g16
          · dsimp only; rw [upI_nn (by omega)]; exact g15
          · dsimp only; rw [upI_same]; rfl
      · simp only [bI_0, reduceCtorEq, if_false, if_true]
        have f4 : FrP Dnx m (upI M3 7 0 18 (B s - 48), m1.2) := FrP.up (m' := (M3, m1.2)) f3 (by unfold Dnx; omega) _
        refine (next7_n (s := s) (h.fr f4) hs' c2 ?_ ?_ ?_).bind ?_
        · dsimp only; rw [upI_nn (by omega)]; exact g15
        · dsimp only; rw [upI_nn (by omega)]; exact g16
        · dsimp only; rw [upI_same]
        intro _ m4 ⟨n1, n2, n3⟩
        have e15 : m4.1 7 0 15 = nI s := by rw [n3.1 7 0 15 (by omega)]; dsimp only; rw [upI_nn (by omega)]; exact g15
        have f5 : FrP Dnx m m4 := f4.trans (n3.mono (by unfold Dnx; omega))
        have rl := run_le isDg B tp s
        have rt := run_tp (P := isDg) (B := B) (show s ≤ tp by omega)
        dsimp only
        rw [n1, e15, ← n_sub rl, show (3 : Int32) = nI 3 from rfl]
        by_cases c : run isDg B tp s - s ≤ 3
        · rw [if_pos (by rw [n_le (by omega) (by omega)]; exact c)]
          refine Ok.ret ⟨?_, ?_, ?_, fun _ _ => ?_, FrP.up (m' := m4) f5 (by unfold Dnx; omega) _⟩
          · dsimp only; rw [upI_nn (by omega)]; exact n1
          · dsimp only; rw [upI_nn (by omega)]; exact e15
          · dsimp only; rw [upI_same, decide_eq_true c]; rfl
          · dsimp only; rw [upI_nn (by omega)]; exact n2 c
        · rw [if_neg (by rw [n_le (by omega) (by omega)]; exact c)]
          refine Ok.ret ⟨?_, ?_, ?_, fun _ o => absurd (of_decide_eq_true o) c, FrP.up (m' := m4) f5 (by unfold Dnx; omega) _⟩
          · dsimp only; rw [upI_nn (by omega)]; exact n1
          · dsimp only; rw [upI_nn (by omega)]; exact e15
          · dsimp only; rw [upI_same, decide_eq_false c]; rfl
    · simp only [bI_0, reduceCtorEq, if_false, if_true]
      refine Ok.bind (P := fun _ m' => m'.1 7 0 16 = nI (run isLt B tp s) ∧ FrP (fun c i k => c = 7 ∧ i = 0 ∧ k = 16) (M3, m1.2) m') ?_ ?_
      · rw [run_s hs' c1]
        exact next7_w (s := s + 1) (h.fr f3) (by omega) g16
      intro _ m4 ⟨n1, n3⟩
      have f5 : FrP Dnx m m4 := f3.trans (n3.mono (by unfold Dnx; omega))
      refine Ok.ret ⟨?_, ?_, ?_, fun h => by omega, FrP.up (m' := m4) f5 (by unfold Dnx; omega) _⟩
      · dsimp only; rw [upI_nn (by omega)]; exact n1
      · dsimp only; rw [upI_nn (by omega), n3.1 7 0 15 (by omega)]; exact g15
      · dsimp only; rw [upI_same]; rfl
