/-! PURE: coast, the row after a statement is well formed -/
theorem WF_cells {v : Nat → Int32} {nb nw nc n : Nat} (h : WF v nb nw nc) (b : nc ≤ n) (c : n ≤ 30) : WF (upv v 93 (nI n)) nb nw n := by
  obtain ⟨h1, h2, h3, h4, h5, h6, h7, h8, h9, h10, h11⟩ := h
  refine ⟨by rw [upv_nn (by omega)]; exact h1, h2, by rw [upv_nn (by omega)]; exact h3, h4, upv_same _ _ _, by omega, by omega, ?_, ?_, ?_, by rw [upv_nn (by omega)]; exact h11⟩
  · intro b hb; rw [upv_nn (by omega), upv_nn (by omega)]; exact h8 b hb
  · intro i hb; rw [upv_nn (by omega), upv_nn (by omega), upv_nn (by omega), upv_nn (by omega)]; exact ⟨inB_mono (h9 i hb).1 b, (h9 i hb).2⟩
  · intro w hw; unfold vW; rw [upv_nn (by omega), upv_nn (by omega), upv_nn (by omega)]; exact ⟨(h10 w hw).1, Kok_mono (h10 w hw).2 b⟩
theorem WF_day {v : Nat → Int32} {nb nw nc : Nat} {x : Int32} (h : WF v nb nw nc) (hx : inB x 1000 = true) : WF (upv v 95 x) nb nw nc := by
  obtain ⟨h1, h2, h3, h4, h5, h6, h7, h8, h9, h10, h11⟩ := h
  refine ⟨by rw [upv_nn (by omega)]; exact h1, h2, by rw [upv_nn (by omega)]; exact h3, h4, by rw [upv_nn (by omega)]; exact h5, h6, h7, ?_, ?_, ?_, by rw [upv_same]; exact hx⟩
  · intro b hb; rw [upv_nn (by omega), upv_nn (by omega)]; exact h8 b hb
  · intro i hb; rw [upv_nn (by omega), upv_nn (by omega), upv_nn (by omega), upv_nn (by omega)]; exact h9 i hb
  · intro w hw; unfold vW; rw [upv_nn (by omega), upv_nn (by omega), upv_nn (by omega)]; exact h10 w hw
theorem nm_lo {B : Nat → Int32} {tp p n : Nat} {lo hi : Int32} (h : nmB B tp lo hi p = true) (hl : lo = nI n) (hn : n < 1000) (hh : hi.toInt < 1000) : inB (tV B tp p) 1000 = true ∧ n ≤ (tV B tp p).toNatClampNeg ∧ ((tV B tp p).toNatClampNeg : Int) ≤ hi.toInt := by
  subst hl
  have i := nm_in (k := 1000) h (by rw [n_ti (by omega)]; omega) (by omega)
  obtain ⟨a, b⟩ := inB_ex i
  unfold nmB at h
  simp only [Bool.and_eq_true, decide_eq_true_eq] at h
  obtain ⟨⟨⟨_, _⟩, c⟩, d⟩ := h
  generalize (tV B tp p).toNatClampNeg = k at *
  rw [b, Int32.lt_iff_toInt_lt] at c d
  rw [n_ti (by omega), n_ti (by omega)] at c
  rw [n_ti (by omega)] at d
  exact ⟨i, by omega, by omega⟩
theorem WF_stF {B : Nat → Int32} {tp p nb nw nc : Nat} {v : Nat → Int32} (hF : WF v nb nw nc) (h : stR B tp p nb nw nc = none) : WF (stF B tp p v nb nw nc).1 (stF B tp p v nb nw nc).2.1 (stF B tp p v nb nw nc).2.2.1 (stF B tp p v nb nw nc).2.2.2 := by
  have h8 := hF.2.1
  have h6 := hF.2.2.2.1
  have h16 := hF.2.2.2.2.2.1
  have h30 := hF.2.2.2.2.2.2.1
  unfold stR at h
  unfold stF
  by_cases k : tK B tp p = 1
  · rw [if_pos k] at h
    have hw := stw_lt B (tS B tp p) (tE B tp p)
    have eX : ∀ i, stX B tp p i = tV B tp (ps B tp (tE B tp p) i) := fun i => rfl
    generalize stw B (tS B tp p) (tE B tp p) = a at *
    by_cases c : a = 6 ∨ (a = 1 ∧ nw = 6) ∨ (a = 2 ∧ nb = 8)
    · rw [if_pos c] at h; cases h
    · rw [if_neg c] at h
      have N := fun i hi => nr_none h i hi
      have z : (0 : Int32) = nI 0 := rfl
      have t1 : (nI nc - 1).toInt = nc - 1 := by rw [show (1 : Int32) = nI 1 from rfl, ← n_sub (by omega), n_ti (by omega)]; omega
      have : a = 0 ∨ a = 1 ∨ a = 2 ∨ a = 3 ∨ a = 4 ∨ a = 5 := by omega
      rcases this with e | e | e | e | e | e <;> subst e
      · obtain ⟨a1, a2, a3⟩ := nm_lo (n := nc) (N 0 (by decide)) rfl (by omega) (show (30 : Int32).toInt < 1000 by decide)
        have ex := (inB_ex a1).2
        rw [show (ef 0 (stX B tp p) v nb nw nc).1 = upv v 93 (nI (stX B tp p 0).toNatClampNeg) by rw [eX 0, ← ex]; rfl]
        exact WF_cells hF a2 (by have : (30 : Int32).toInt = 30 := rfl; rw [show hiN 0 nc nw 0 = 30 from rfl, this] at a3; show (tV B tp (ps B tp (tE B tp p) 0)).toNatClampNeg ≤ 30; omega)
      · exact WF_adW hF (by omega) (nm_in (N 0 (by decide)) (show 0 ≤ (0 : Int32).toInt by decide) (show (nI nc - 1).toInt < nc by rw [t1]; omega)) (nm_in (N 1 (by decide)) (show 0 ≤ (0 : Int32).toInt by decide) (show (3 : Int32).toInt < (4 : Nat) by decide)) (nm_in (N 2 (by decide)) (show 0 ≤ (0 : Int32).toInt by decide) (show (1 : Int32).toInt < (2 : Nat) by decide))
      · refine WF_adB hF (by omega) (nm_in (N 0 (by decide)) (show 0 ≤ (0 : Int32).toInt by decide) (show (5 : Int32).toInt < (6 : Nat) by decide)) (nm_in (N 2 (by decide)) (show 0 ≤ (0 : Int32).toInt by decide) (show (nI nc - 1).toInt < nc by rw [t1]; omega)) ?_
        refine nm_in (N 3 (by decide)) (show 0 ≤ (0 : Int32).toInt by decide) (show (nI nw - 1).toInt < nw from ?_)
        by_cases w0 : nw = 0
        · rw [w0]; decide
        · rw [show (1 : Int32) = nI 1 from rfl, ← n_sub (by omega), n_ti (by omega)]; omega
      · have := nm_in (k := 30) (N 0 (by decide)) (show 0 ≤ (0 : Int32).toInt by decide) (show (nI nc - 1).toInt < (30 : Nat) by rw [t1]; omega)
        have hl := (inB_ex this).1
        exact WF_free (j := (stX B tp p 0).toNatClampNeg) hF _ (Or.inl hl)
      · exact WF_free (j := 94) hF _ (by omega)
      · exact WF_day hF (nm_in (k := 1000) (N 0 (by decide)) (show 0 ≤ (0 : Int32).toInt by decide) (show (999 : Int32).toInt < (1000 : Nat) by decide))
  · rw [if_neg k] at h; cases h
