/-! PURE: status -/
theorem shelves6 {v : Nat → Int32} {nb nw nc : Nat} {m : MM} (h : Rlt v nb nw nc m) : Ok (fX6_shelvesInUse 0 m) (fun r m' => r = nI (cnt (fun s => decide (¬ m.1 1 s 0 = -1)) 8) ∧ m' = m) := by
  rw [fX6_shelvesInUse_eq]; unfold fX6_shelvesInUse_b
  simp only [bind_eta]
  refine Ok.cnts (f := fX6_shelvesInUse_b4 0) 8 (fun s => decide (¬ m.1 1 s 0 = -1)) (fun m' => m' = m) (by omega) ?_ ?_ m rfl
  · intro s x m' hs e
    subst e
    unfold fX6_shelvesInUse_b4
    dsimp only
    rw [if_neg (by rw [n_le (by omega) (by omega)]; omega), fX6_holds_eq]
    unfold fX6_holds_b
    simp only [e6_shelfAt, inB_t hs (show 8 ≤ 2147483648 by omega), Option.bind_some, if_true, n_cl (show s < 2147483648 by omega)]
    by_cases q : m'.1 1 s 0 = -1
    · rw [if_pos q, show decide (¬ m'.1 1 s 0 = -1) = false from decide_eq_false (fun h => h q)]; exact Ok.ret ⟨rfl, rfl⟩
    · rw [if_neg q, show decide (¬ m'.1 1 s 0 = -1) = true from decide_eq_true q]; exact Ok.ret ⟨rfl, rfl⟩
  · intro x m' e
    unfold fX6_shelvesInUse_b4
    rw [if_pos (by rw [n_le (by omega) (by omega)]; omega)]
theorem shelves7 {v : Nat → Int32} {nb nw nc : Nat} {m : MM} (h : Rel0 v nb nw nc m) : Ok (loopF 1000 (fX7_status_b106 0) (0, 0) m) (fun r m' => r = nI (cnt (fun s => decide (¬ m.1 1 s 0 = -1)) 8) ∧ m' = m) := by
  refine Ok.cnts (f := fX7_status_b106 0) 8 (fun s => decide (¬ m.1 1 s 0 = -1)) (fun m' => m' = m) (by omega) ?_ ?_ m rfl
  · intro s x m' hs e
    subst e
    unfold fX7_status_b106
    dsimp only
    rw [if_neg (by rw [show (8 : Int32) = nI 8 from rfl, n_le (by omega) (by omega)]; omega), inB_t hs (by omega), cond_true, n_cl (show s < 2147483648 by omega), ← (h.2.2.2.1 s hs).1]
    by_cases q : m'.1 1 s 0 = -1
    · rw [if_pos q, show decide (¬ m'.1 1 s 0 = -1) = false from decide_eq_false (fun h => h q)]; exact Ok.ret ⟨rfl, rfl⟩
    · rw [if_neg q, show decide (¬ m'.1 1 s 0 = -1) = true from decide_eq_true q]; exact Ok.ret ⟨rfl, rfl⟩
  · intro x m' e
    unfold fX7_status_b106
    rw [if_pos (by rw [show (8 : Int32) = nI 8 from rfl, n_le (by omega) (by omega)]; omega)]
theorem op_status {v : Nat → Int32} {nb nw nc : Nat} {m : MM} (h : Rlt v nb nw nc m) (x : Int32) : Eq2 (fX6_status 0 x) (fX7_status 0 x) m := by
  have wx : ∀ m, fX7_within x 12 16 m = some (decide (inB x 17 = true ∧ 12 ≤ x.toNatClampNeg), m) := fun m => within_lo 12 16 (by omega) (by omega) m
  have wx6 : ∀ m, fX6_within x 12 16 m = some (decide (inB x 17 = true ∧ 12 ≤ x.toNatClampNeg), m) := fun m => by rw [e6_w7]; exact wx m
  have hnb := h.1.nb.2.1
  have u6 : ∀ m, fX6_status 0 x m = fX6_status_b 0 x m := fun m => by rw [fX6_status_eq]
  have u7 : ∀ m, fX7_status 0 x m = fX7_status_b 0 x m := fun m => by rw [fX7_status_eq]
  by_cases q0 : x = 0
  · refine Eq2.ask h (v 97) ?_ ?_
    · rw [u6]; unfold fX6_status_b
      rw [if_pos q0]
      exact Ok.ret ⟨h.1.2.2.1.2.2.2.2.2.1, FrP.rfl⟩
    · intro m1 h1
      rw [u7]; unfold fX7_status_b
      rw [if_pos q0]
      exact Ok.ret ⟨h1.1.2.1.2.2.2.2.2.2.2.1.symm, FrP.rfl⟩
  by_cases q1 : x = 1
  · refine Eq2.ask h (v 98) ?_ ?_
    · rw [u6]; unfold fX6_status_b
      rw [if_neg q0, if_pos q1]
      exact Ok.ret ⟨h.1.2.2.1.2.2.2.2.2.2.1, FrP.rfl⟩
    · intro m1 h1
      rw [u7]; unfold fX7_status_b
      rw [if_neg q0, if_pos q1]
      exact Ok.ret ⟨h1.1.2.1.2.2.2.2.2.2.2.2.1.symm, FrP.rfl⟩
  by_cases q2 : x = 2
  · refine Eq2.ask h (v 93) ?_ ?_
    · rw [u6]; unfold fX6_status_b
      rw [if_neg q0, if_neg q1, if_pos q2]
      exact Ok.ret ⟨h.1.2.2.1.1, FrP.rfl⟩
    · intro m1 h1
      rw [u7]; unfold fX7_status_b
      rw [if_neg q0, if_neg q1, if_pos q2]
      exact Ok.ret ⟨h1.1.2.1.2.2.2.1.symm, FrP.rfl⟩
  by_cases q3 : x = 3
  · refine Eq2.ask h (v 94) ?_ ?_
    · rw [u6]; unfold fX6_status_b
      rw [if_neg q0, if_neg q1, if_neg q2, if_pos q3]
      exact Ok.ret ⟨h.1.2.2.1.2.1, FrP.rfl⟩
    · intro m1 h1
      rw [u7]; unfold fX7_status_b
      rw [if_neg q0, if_neg q1, if_neg q2, if_pos q3, show inB (x - 3) 2 = true by rw [q3]; decide, cond_true, show (x - 3).toNatClampNeg = 0 by rw [q3]; decide]
      exact Ok.ret ⟨h1.1.2.1.2.2.2.2.1.symm, FrP.rfl⟩
  by_cases q4 : x = 4
  · refine Eq2.ask h (v 95) ?_ ?_
    · rw [u6]; unfold fX6_status_b
      rw [if_neg q0, if_neg q1, if_neg q2, if_neg q3, if_pos q4]
      exact Ok.ret ⟨h.1.2.2.1.2.2.1, FrP.rfl⟩
    · intro m1 h1
      rw [u7]; unfold fX7_status_b
      rw [if_neg q0, if_neg q1, if_neg q2, if_neg q3, if_pos q4, show inB (x - 3) 2 = true by rw [q4]; decide, cond_true, show (x - 3).toNatClampNeg = 1 by rw [q4]; decide]
      exact Ok.ret ⟨h1.1.2.1.2.2.2.2.2.1.symm, FrP.rfl⟩
  by_cases q5 : x = 5
  · refine Eq2.ask h (v 96) ?_ ?_
    · rw [u6]; unfold fX6_status_b
      rw [if_neg q0, if_neg q1, if_neg q2, if_neg q3, if_neg q4, if_pos q5]
      exact Ok.ret ⟨h.1.2.2.1.2.2.2.1, FrP.rfl⟩
    · intro m1 h1
      rw [u7]; unfold fX7_status_b
      rw [if_neg q0, if_neg q1, if_neg q2, if_neg q3, if_neg q4, if_pos q5]
      exact Ok.ret ⟨h1.1.2.1.2.2.2.2.2.2.1.symm, FrP.rfl⟩
  by_cases q6 : x = 6
  · obtain ⟨y, hy⟩ := bc_ex (bitF (whoP v 0) nb)
    refine Eq2.ask h y ?_ ?_
    · rw [u6]; unfold fX6_status_b
      rw [if_neg q0, if_neg q1, if_neg q2, if_neg q3, if_neg q4, if_neg q5, if_pos q6]
      refine (who6 h 0 (by decide)).bind ?_
      intro r m' ⟨a, f⟩
      dsimp only
      rw [a, hy]
      exact Ok.ret ⟨rfl, f⟩
    · intro m1 h1
      rw [u7]; unfold fX7_status_b
      rw [if_neg q0, if_neg q1, if_neg q2, if_neg q3, if_neg q4, if_neg q5, if_pos q6]
      refine (areSo_v (v := v) (nb := nb) (nw := nw) (nc := nc) (m0 := m1) 0 (fun i => v (66 + i)) h1.1.nb.1 hnb (fun i hi => (h1.1.2.1.2.1 i (by omega)).2.2.2.2.symm)).bind ?_
      intro r m' ⟨a, f⟩
      have e : bitF (fun i => decide (v (66 + i) = 0)) nb = bitF (whoP v 0) nb := bitF_congr nb (fun i hi => by unfold whoP; rw [if_neg (by decide)])
      dsimp only
      rw [a, e, hy]
      exact Ok.ret ⟨rfl, f ▸ FrP.rfl⟩
  by_cases q7 : x = 7
  · refine Eq2.ask' h (m.1 2 0 0) ?_ ?_
    · rw [u6]; unfold fX6_status_b
      rw [if_neg q0, if_neg q1, if_neg q2, if_neg q3, if_neg q4, if_neg q5, if_neg q6, if_pos q7]
      exact Ok.ret ⟨rfl, FrP.rfl⟩
    · intro m1 h1 f
      rw [u7]; unfold fX7_status_b
      rw [if_neg q0, if_neg q1, if_neg q2, if_neg q3, if_neg q4, if_neg q5, if_neg q6, if_pos q7]
      obtain ⟨tp, t1, t2, t3, t4⟩ := h1.1.2.2.2.2.1
      exact Ok.ret ⟨by rw [t3, ← t2]; exact f.1 2 0 0 (by unfold ScrC; omega), FrP.rfl⟩
  by_cases q8 : x = 8
  · refine Eq2.ask h (v 99) ?_ ?_
    · rw [u6]; unfold fX6_status_b
      rw [if_neg q0, if_neg q1, if_neg q2, if_neg q3, if_neg q4, if_neg q5, if_neg q6, if_neg q7, if_pos q8]
      exact Ok.ret ⟨h.1.2.2.1.2.2.2.2.1, FrP.rfl⟩
    · intro m1 h1
      rw [u7]; unfold fX7_status_b
      rw [if_neg q0, if_neg q1, if_neg q2, if_neg q3, if_neg q4, if_neg q5, if_neg q6, if_neg q7, if_pos q8]
      exact Ok.ret ⟨h1.1.2.1.2.2.2.2.2.2.2.2.2.symm, FrP.rfl⟩
  by_cases q9 : x = 9
  · refine Eq2.ask' h (nI (cnt (fun s => decide (¬ m.1 1 s 0 = -1)) 8)) ?_ ?_
    · rw [u6]; unfold fX6_status_b
      rw [if_neg q0, if_neg q1, if_neg q2, if_neg q3, if_neg q4, if_neg q5, if_neg q6, if_neg q7, if_neg q8, if_pos q9]
      simp only [bind_eta]
      refine (shelves6 h).mono ?_
      intro r m' ⟨a, f⟩
      exact ⟨a, f ▸ FrP.rfl⟩
    · intro m1 h1 f1
      rw [u7]; unfold fX7_status_b
      rw [if_neg q0, if_neg q1, if_neg q2, if_neg q3, if_neg q4, if_neg q5, if_neg q6, if_neg q7, if_neg q8, if_pos q9]
      simp only [bind_eta]
      refine (shelves7 h1.1).mono ?_
      intro r m' ⟨a, f⟩
      have e : (fun s => decide (¬ m1.1 1 s 0 = -1)) = (fun s => decide (¬ m.1 1 s 0 = -1)) := by
        funext s; rw [f1.1 1 s 0 (by unfold ScrC; omega)]
      rw [e] at a
      exact ⟨a, f ▸ FrP.rfl⟩
  cases g : decide (inB x 17 = true ∧ 12 ≤ x.toNatClampNeg)
  · refine Eq2.ask h (-1) ?_ ?_
    · rw [u6]; unfold fX6_status_b
      rw [if_neg q0, if_neg q1, if_neg q2, if_neg q3, if_neg q4, if_neg q5, if_neg q6, if_neg q7, if_neg q8, if_neg q9, wx6, g]
      exact Ok.ret ⟨rfl, FrP.rfl⟩
    · intro m1 h1
      rw [u7]; unfold fX7_status_b
      rw [if_neg q0, if_neg q1, if_neg q2, if_neg q3, if_neg q4, if_neg q5, if_neg q6, if_neg q7, if_neg q8, if_neg q9, wx, g]
      exact Ok.ret ⟨rfl, FrP.rfl⟩
  · obtain ⟨ga, gb⟩ := of_decide_eq_true g
    obtain ⟨hn, e⟩ := inB_ex ga
    generalize x.toNatClampNeg = n at *
    obtain ⟨k, rfl⟩ : ∃ k, n = 12 + k := ⟨n - 12, by omega⟩
    have e12 : x - 12 = nI k := by rw [e, show (12 : Int32) = nI 12 from rfl, ← n_sub (by omega), show 12 + k - 12 = k by omega]
    have e10 : x - 10 = nI (2 + k) := by rw [e, show (10 : Int32) = nI 10 from rfl, ← n_sub (by omega), show 12 + k - 10 = 2 + k by omega]
    refine Eq2.ask' h (m.1 47 0 k) ?_ ?_
    · rw [u6]; unfold fX6_status_b
      rw [if_neg q0, if_neg q1, if_neg q2, if_neg q3, if_neg q4, if_neg q5, if_neg q6, if_neg q7, if_neg q8, if_neg q9, wx6, g, e12, inB_t (show k < 5 by omega) (by omega), n_cl (by omega)]
      exact Ok.ret ⟨rfl, FrP.rfl⟩
    · intro m1 h1 f
      rw [u7]; unfold fX7_status_b
      rw [if_neg q0, if_neg q1, if_neg q2, if_neg q3, if_neg q4, if_neg q5, if_neg q6, if_neg q7, if_neg q8, if_neg q9, wx, g, e10, inB_t (show 2 + k < 7 by omega) (by omega), n_cl (by omega)]
      refine Ok.ret ⟨?_, FrP.rfl⟩
      dsimp only
      rw [← h1.2 k (by omega)]
      exact f.1 47 0 k (by unfold ScrC; omega)
