/-! THE LAW: its loop answers true -/
theorem tn_skip {v : Nat → Int32} {nb nw nc i : Nat} {m : MM} (h : Rlt v nb nw nc m) : Tn i m (some (Sum.inl (nI i + 6), m)) := ⟨_, _, rfl, rfl, ⟨v, nb, nw, nc, h⟩, rfl⟩
theorem tn_ite {c : Prop} [Decidable c] {i : Nat} {m : MM} {A B : LwR} (a : Tn i m A) (b : Tn i m B) : Tn i m (if c then A else B) := by
  by_cases h : c
  · rw [if_pos h]; exact a
  · rw [if_neg h]; exact b
theorem tn_all {v : Nat → Int32} {nb nw nc q i : Nat} {m : MM} (h : Rlt v nb nw nc m) (hi : i + 6 ≤ q) (hq : q ≤ 3072) : Tn i m (fL_law_b18 q (nI i) m) := by
  unfold fL_law_b18
  have h6 : ¬ ((nI q) - 6) < nI i := by
    rw [show (6 : Int32) = nI 6 from rfl, ← n_sub (by omega), n_lt (by omega) (by omega)]; omega
  rw [if_neg h6, inB_t (by omega) (by omega)]
  simp only [cond_true]
  refine tn_ite (tn_row h hi hq) ?_
  refine tn_ite (tn_set h hi hq) ?_
  refine tn_ite (tn_copy h hi hq) ?_
  refine tn_ite (tn_element h hi hq) ?_
  refine tn_ite (tn_holds h hi hq) ?_
  refine tn_ite (tn_show h hi hq) ?_
  refine tn_ite (tn_says h hi hq) ?_
  refine tn_ite (tn_paves h hi hq) ?_
  refine tn_ite (tn_walker h hi hq) ?_
  refine tn_ite (tn_sends h hi hq) ?_
  refine tn_ite (tn_current h hi hq) ?_
  refine tn_ite (tn_tell h hi hq) ?_
  refine tn_ite (tn_feed h hi hq) ?_
  refine tn_ite (tn_wipe h hi hq) ?_
  refine tn_ite (tn_coast h hi hq) ?_
  refine tn_ite (tn_bottleOf h hi hq) ?_
  refine tn_ite (tn_walkerOf h hi hq) ?_
  refine tn_ite (tn_currentAt h hi hq) ?_
  refine tn_ite (tn_ahead h hi hq) ?_
  refine tn_ite (tn_walks h hi hq) ?_
  refine tn_ite (tn_found h hi hq) ?_
  refine tn_ite (tn_when h hi hq) ?_
  refine tn_ite (tn_meets h hi hq) ?_
  refine tn_ite (tn_finder h hi hq) ?_
  refine tn_ite (tn_two h hi hq) ?_
  refine tn_ite (tn_aim h hi hq) ?_
  refine tn_ite (tn_walk h hi hq) ?_
  refine tn_ite (tn_fits h hi hq) ?_
  refine tn_ite (tn_from h hi hq) ?_
  refine tn_ite (tn_pairs h hi hq) ?_
  refine tn_ite (tn_mended h hi hq) ?_
  refine tn_ite (tn_odds h hi hq) ?_
  refine tn_ite (tn_windFor h hi hq) ?_
  refine tn_ite (tn_bestWind h hi hq) ?_
  refine tn_ite (tn_who h hi hq) ?_
  refine tn_ite (tn_there h hi hq) ?_
  refine tn_ite (tn_settles h hi hq) ?_
  refine tn_ite (tn_reach h hi hq) ?_
  refine tn_ite (tn_busiest h hi hq) ?_
  refine tn_ite (tn_round h hi hq) ?_
  refine tn_ite (tn_join h hi hq) ?_
  refine tn_ite (tn_breaks h hi hq) ?_
  refine tn_ite (tn_first h hi hq) ?_
  refine tn_ite (tn_next h hi hq) ?_
  refine tn_ite (tn_stays h hi hq) ?_
  refine tn_ite (tn_strays h hi hq) ?_
  refine tn_ite (tn_ofKind h hi hq) ?_
  refine tn_ite (tn_judge h hi hq) ?_
  refine tn_ite (tn_thrown h hi hq) ?_
  refine tn_ite (tn_days h hi hq) ?_
  refine tn_ite (tn_drawn h hi hq) ?_
  refine tn_ite (tn_seed h hi hq) ?_
  refine tn_ite (tn_image h hi hq) ?_
  refine tn_ite (tn_back h hi hq) ?_
  refine tn_ite (tn_status h hi hq) ?_
  exact tn_skip h
theorem law_true {v : Nat → Int32} {nb nw nc q : Nat} {m : MM} (h : Rlt v nb nw nc m) (hq : q ≤ 3072) : ∃ m', fL_law q 0 m = some (true, m') := by
  have key : Ok (loopF 1000 (fL_law_b18 q) 0 m) (fun o _ => o = Sum.inl ()) := by
    refine Ok.loop (fun k s m' => ∃ i v nb nw nc, s = nI (6 * i) ∧ k + i = 513 ∧ 6 * i ≤ q + 5 ∧ Rlt v nb nw nc m') ?_ 1000 _ _ 513 (by omega) ⟨0, v, nb, nw, nc, rfl, by omega, by omega, h⟩
    intro k s m1 ⟨i, v1, nb1, nw1, nc1, es, ek, ei, h1⟩
    subst es
    by_cases hi : 6 * i + 6 ≤ q
    · refine (tn_all h1 hi hq).mono ?_
      intro o m2 ⟨e, ⟨v2, nb2, nw2, nc2, h2⟩, _⟩
      subst e
      exact ⟨k - 1, by omega, i + 1, v2, nb2, nw2, nc2, by rw [show 6 * (i + 1) = 6 * i + 6 by omega, n_add]; rfl, by omega, by omega, h2⟩
    · have h6 : ((nI q) - 6) < nI (6 * i) := by
        by_cases hq6 : 6 ≤ q
        · rw [show (6 : Int32) = nI 6 from rfl, ← n_sub hq6, n_lt (by omega) (by omega)]; omega
        · have hq5 : q = 0 ∨ q = 1 ∨ q = 2 ∨ q = 3 ∨ q = 4 ∨ q = 5 := by omega
          rw [Int32.lt_iff_toInt_lt, n_ti (by omega)]
          rcases hq5 with e | e | e | e | e | e <;> subst e <;> (refine Int.lt_of_lt_of_le (b := 0) (by decide) (by omega))
      unfold fL_law_b18
      rw [if_pos h6]
      exact Ok.ret rfl
  obtain ⟨o, m', e, rfl⟩ := key
  refine ⟨m', ?_⟩
  unfold fL_law
  rw [e]
  rfl
