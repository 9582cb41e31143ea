/-! PURE: asking, fourth group -/
/-- the days of a bottle of the walker's that is afloat; else none -/
def fst_t (v : Nat → Int32) (k : Nat) (i : Nat) : Int32 := if v (57 + i) = nI k ∧ v (66 + i) = 0 then til v i 60 else -1
theorem fst_t_in (v : Nat → Int32) (k i : Nat) : fst_t v k i = -1 ∨ inB (fst_t v k i) 61 = true := by
  unfold fst_t
  split
  · exact til_in v i
  · exact Or.inl rfl
theorem bst_step {lab t : Nat → Int32} (n : Nat) : bst lab t (n + 1) = if t n = -1 then bst lab t n else if (bst lab t n).2 = -1 then (lab n, t n) else if (bst lab t n).2 ≤ t n then bst lab t n else (lab n, t n) := rfl
theorem whenSo_v {v : Nat → Int32} {nb nw nc b : Nat} {m : MM} (so : Int32) (hL : Lv v m) (h : WF v nb nw nc) (hb : b < nb) : Ok (fX7_whenSo 0 (nI b) so (nI nb) m) (fun r m' => r = fst1 (fun d => decide ((simV v b d).2 = so)) 61 0 ∧ FrP (Dto 2) m m') :=
  whenSo_ok b so m hL (by have := h.2.1; omega) (h.m h.2.1) hb (Or.inr (h.b hb).2.1)
theorem op_first {v : Nat → Int32} {nb nw nc : Nat} {m : MM} (h : Rlt v nb nw nc m) (x : Int32) : Eq2 (fX6_first 0 x) (fX7_first 0 x) m := by
  cases hg : (inB x nw)
  · refine Eq2.bad h ?_ ?_
    · rw [fX6_first_eq]; unfold fX6_first_b
      cases g_x : inB x nw <;> first | (simp only [e5_walkerAt h.1, g_x, Option.bind_some, bind_eta, bI_0, bI_1, reduceCtorEq, not_true, not_false_eq_true, if_true, if_false]; done) | (rw [g_x] at hg; cases hg)
    · intro m1 h1
      rw [fX7_first_eq]; unfold fX7_first_b
      cases g_x : inB x nw <;> first | (simp only [e7_isWalker h1, g_x, Option.bind_some, bind_eta, bI_0, bI_1, reduceCtorEq, not_true, not_false_eq_true, if_true, if_false, Bool.and_true, Bool.and_false, Bool.true_and, Bool.false_and]; done) | (rw [g_x] at hg; cases hg)
  · have g_x := hg
    obtain ⟨hl_k, he_k⟩ := inB_ex g_x
    have hu_k := n_clb x
    have hc_k : ∀ k, k = x.toNatClampNeg → (nI k).toNatClampNeg = k := fun k hk => n_cl (by omega)
    replace hc_k := hc_k _ rfl
    generalize x.toNatClampNeg = k at hl_k he_k hc_k hu_k
    subst he_k
    have hnb := h.1.nb.2.1
    refine Eq2.ask h (bst nI (fst_t v k) nb).1 ?_ ?_
    · rw [fX6_first_eq]; unfold fX6_first_b
      simp only [e5_walkerAt h.1, g_x, hc_k, Option.bind_some, bind_eta, bI_0, bI_1, reduceCtorEq, not_true, not_false_eq_true, if_true, if_false]
      refine Ok.mono (Ok.fold (f := fX6_first_b26 0 (nI k)) nb (fun i => ((bst nI (fst_t v k) i).1, (bst nI (fst_t v k) i).2, nI i)) (bst nI (fst_t v k) nb).1 (fun _ m' => FrP ScrC m m') ?_ ?_ (by omega) m FrP.rfl) (fun r m' h => h)
      · intro i m' hi f
        have h' := Rel_frC h f
        obtain ⟨b1, b2, b3, b4, b5⟩ := h'.1.bf hi
        unfold fX6_first_b26
        dsimp only
        rw [h'.1.nb.2.2, if_neg (by rw [n_le (by omega) (by omega)]; omega), e5_bottleAt h'.1, inB_t hi (by omega), n_cl (by omega)]
        simp only [if_true, Option.bind_some]
        rw [b4, b5, bst_step]
        by_cases q : v (57 + i) = nI k
        · by_cases q2 : v (66 + i) = 0
          · have et : fst_t v k i = til v i 60 := if_pos ⟨q, q2⟩
            rw [if_neg (fun h => h q), if_pos q2]
            refine (q_til h'.1 hi).bind ?_
            intro r m2 ⟨r1, r2⟩
            dsimp only
            rw [et, r1]
            by_cases q3 : til v i 60 = -1
            · rw [if_pos q3, if_pos q3]; exact Ok.ret ⟨by rw [n_s], f.trans r2⟩
            · rw [if_neg q3, if_neg q3]
              by_cases q4 : (bst nI (fst_t v k) i).2 = -1
              · rw [if_pos q4, if_pos q4]; exact Ok.ret ⟨by rw [n_s], f.trans r2⟩
              · rw [if_neg q4, if_neg q4]
                by_cases q5 : (bst nI (fst_t v k) i).2 ≤ til v i 60
                · rw [if_pos q5, if_pos q5]; exact Ok.ret ⟨by rw [n_s], f.trans r2⟩
                · rw [if_neg q5, if_neg q5]; exact Ok.ret ⟨by rw [n_s], f.trans r2⟩
          · have et : fst_t v k i = -1 := if_neg (fun h => q2 h.2)
            rw [if_neg (fun h => h q), if_neg q2, et, if_pos rfl]; exact Ok.ret ⟨by rw [n_s], f⟩
        · have et : fst_t v k i = -1 := if_neg (fun h => q h.1)
          rw [if_pos q, et, if_pos rfl]; exact Ok.ret ⟨by rw [n_s], f⟩
      · intro m' f
        have h' := Rel_frC h f
        unfold fX6_first_b26
        dsimp only
        rw [h'.1.nb.2.2, if_pos (by rw [n_le (by omega) (by omega)]; omega)]
    · intro m1 h1
      rw [fX7_first_eq]; unfold fX7_first_b
      simp only [e7_isWalker h1.1, g_x, hc_k, Option.bind_some, bind_eta, bI_0, bI_1, reduceCtorEq, not_true, not_false_eq_true, if_true, if_false, Bool.and_true]
      refine Ok.mono (Ok.fold (f := fX7_first_b24 0 (nI k)) nb (fun i => ((bst7 nI (fst_t v k) i).1, (bst7 nI (fst_t v k) i).2, nI i)) (bst7 nI (fst_t v k) nb).1 (fun _ m' => FrP (Dto 2) m1 m') ?_ ?_ (by omega) m1 FrP.rfl) (fun r m' ⟨a, f⟩ => ⟨a, Dto_S f⟩)
      · intro i m' hi f
        have hL := Lv_to h1.1.2.1 f
        obtain ⟨_, _, _, a4, a5⟩ := hL.2.1 i (by omega)
        unfold fX7_first_b24 fX7_first_j68
        dsimp only
        rw [hL.nb h1.1.1, if_neg (by rw [n_le (by omega) (by omega)]; omega), inB_t (show i < 9 by omega) (by omega), n_cl (by omega), ← a4, ← a5, bst7_step i (fun j _ => fst_t_in v k j)]
        simp only [cond_true]
        by_cases q : v (57 + i) = nI k
        · rw [if_neg (fun h => h q)]
          by_cases q2 : v (66 + i) = 0
          · have et : fst_t v k i = til v i 60 := if_pos ⟨q, q2⟩
            rw [if_neg (fun h => h q2)]
            refine (whenSo_v 1 hL h1.1.1 hi).bind ?_
            intro r m2 ⟨r1, r2⟩
            dsimp only
            have r1 : r = til v i 60 := r1
            rw [et, r1]
            by_cases q3 : til v i 60 = -1
            · rw [if_pos q3, if_pos q3]; exact Ok.ret ⟨by rw [n_s], f.trans r2⟩
            · rw [if_neg q3, if_neg q3]
              by_cases q5 : til v i 60 < (bst7 nI (fst_t v k) i).2
              · rw [if_pos q5, if_pos q5]; exact Ok.ret ⟨by rw [n_s], f.trans r2⟩
              · rw [if_neg q5, if_neg q5]; exact Ok.ret ⟨by rw [n_s], f.trans r2⟩
          · have et : fst_t v k i = -1 := if_neg (fun h => q2 h.2)
            rw [if_pos q2, et, if_pos rfl]; exact Ok.ret ⟨by rw [n_s], f⟩
        · have et : fst_t v k i = -1 := if_neg (fun h => q h.1)
          rw [if_pos q, et, if_pos rfl]; exact Ok.ret ⟨by rw [n_s], f⟩
      · intro m' f
        have hL := Lv_to h1.1.2.1 f
        unfold fX7_first_b24
        dsimp only
        rw [hL.nb h1.1.1, if_pos (by rw [n_le (by omega) (by omega)]; omega)]
/-! counting those found -/
theorem til_ne (v : Nat → Int32) (b n : Nat) (hn : n < 1000) : (til v b n = -1) = ¬ ((simV v b n).2 = 1) := by
  apply propext
  constructor
  · intro h h1
    have hex : ∃ d, d ≤ n ∧ (simV v b d).2 = 1 := ⟨n, Nat.le_refl _, h1⟩
    have : ∀ k d, d + k = n + 1 → (∃ x, d ≤ x ∧ x ≤ n ∧ (simV v b x).2 = 1) → ¬ fst1 (fun d => decide ((simV v b d).2 = 1)) k d = -1 := by
      intro k
      induction k with
      | zero => intro d h0 ⟨x, h2, h3, _⟩; omega
      | succ k ih =>
        intro d h0 ⟨x, h2, h3, h4⟩
        show ¬ (if decide ((simV v b d).2 = 1) = true then nI d else fst1 _ k (d + 1)) = -1
        by_cases e : (simV v b d).2 = 1
        · rw [if_pos (decide_eq_true e)]; intro q; exact (n_m1 d (by omega)).1 q
        · rw [if_neg (fun h => e (of_decide_eq_true h))]
          refine ih (d + 1) (by omega) ⟨x, ?_, h3, h4⟩
          by_cases q : x = d
          · rw [q] at h4; exact absurd h4 e
          · omega
    exact this (n + 1) 0 (by omega) ⟨n, by omega, by omega, h1⟩ h
  · intro h
    refine fst1_none _ _ (fun x _ hx => decide_eq_false (fun h1 => h ?_))
    rw [simV_1 (v := v) (b := b) (d := x) (k := n) (by rw [h1]; decide) (by omega)]; exact h1
theorem RelW_Fr {m m' : MM} {w w' t nb nw : Nat} {v : Nat → Int32} (h : RelW m.1 w nb nw v) (hb : nb ≤ 8) (hw : nw ≤ 6) (f : Fr (Dfo w' t) m m') : RelW m'.1 w nb nw v :=
  RelW_fr h (D := fun c i _ => Dfo w' t c i) ⟨fun c i k d => (f c i d k).1, f.snd (by unfold Dfo; omega)⟩ (by unfold Dfo; omega) (by unfold Dfo; omega) (by unfold Dfo; omega) (by unfold Dfo; omega)
theorem count_v {v : Nat → Int32} {w nb nw nc n : Nat} {m : MM} (hW : RelW m.1 w nb nw v) (h : WF v nb nw nc) (hn : n < 100) : Ok (fX5_countFound w (nI n) m) (fun r m' => r = nI (nfd v nb n) ∧ Fr (Dfo w 0) m m') := by
  have hnb := h.2.1
  have hnw := h.2.2.2.1
  rw [fX5_countFound_eq]; unfold fX5_countFound_b
  simp only [bind_eta]
  refine Ok.mono (Ok.fold (f := fX5_countFound_b4 w (nI n)) nb (fun i => (nI (nfd v i n), nI i)) (nI (nfd v nb n)) (fun _ m' => Fr (Dfo w 0) m m') ?_ ?_ (by omega) m Fr.rfl) (fun r m' h => h)
  · intro i m' hi f
    have hW' := RelW_Fr hW hnb hnw f
    obtain ⟨b1, b2, b3, b4, b5⟩ := hW'.2.2.2.2.2.2.2.2.1 i hi
    have hx := (h.b hi).2.1
    obtain ⟨hx1, _⟩ := inB_ex hx
    unfold fX5_countFound_b4
    dsimp only
    have e5 : m'.1 5 w 5 = nI nb := hW'.2.2.2.2.2.1.trans h.1
    have e6 : m'.1 5 w 6 = nI nw := hW'.2.2.2.2.2.2.1.trans h.2.2.1
    rw [e5, if_neg (by rw [n_le (by omega) (by omega)]; omega), e_bottleAt w _ nb m' e5 hnb, inB_t hi (by omega), n_cl (by omega)]
    simp only [if_true, Option.bind_some]
    rw [b4, b5]
    have e0 : vB v i = (v (48 + i), v (66 + i)) := rfl
    by_cases q : v (66 + i) = 0
    · rw [if_neg (fun h => h q), e_walkerAt w _ nw m' e6 hnw, if_pos hx]
      simp only [Option.bind_some]
      have hd := hW'.2.2.2.2.2.2.2.2.2 _ hx1
      refine (soonest_v (v := v) (b := i) 0 hW'.E ⟨b1, b2, b3, b4, b5⟩ (Or.inr ⟨_, rfl, inB_mono hx hnw, hd, by rw [hd.2.1]; exact h.p100 hx1⟩) hn).bind ?_
      intro r m2 ⟨r1, r2⟩
      dsimp only
      rw [r1]
      by_cases q2 : til v i n = -1
      · rw [if_pos q2]
        have q3 := q2
        rw [til_ne v i n (by omega)] at q3
        have : nfd v (i + 1) n = nfd v i n := cnt_f (fun h => q3 (of_decide_eq_true h).2)
        exact Ok.ret ⟨by rw [n_s, this], f.trans r2⟩
      · rw [if_neg q2]
        have q3 := q2
        rw [til_ne v i n (by omega)] at q3
        have : nfd v (i + 1) n = nfd v i n + 1 := cnt_t (decide_eq_true ⟨q, Classical.not_not.1 q3⟩)
        exact Ok.ret ⟨by rw [n_s, this, n_s], f.trans r2⟩
    · rw [if_pos q]
      have : nfd v (i + 1) n = nfd v i n := cnt_f (fun h => q (of_decide_eq_true h).1)
      exact Ok.ret ⟨by rw [n_s, this], f⟩
  · intro m' f
    have hW' := RelW_Fr hW hnb hnw f
    unfold fX5_countFound_b4
    dsimp only
    rw [hW'.2.2.2.2.2.1.trans h.1, if_pos (by rw [n_le (by omega) (by omega)]; omega)]
theorem op_found {v : Nat → Int32} {nb nw nc : Nat} {m : MM} (h : Rlt v nb nw nc m) (x : Int32) : Eq2 (fX6_found 0 x) (fX7_found 0 x) m := by
  have w6_x : ∀ m, fX6_within x 0 60 m = some (inB x 61, m) := fun m => e6_within' x 60 m (by omega)
  have w7_x : ∀ m, fX7_within x 0 60 m = some (inB x 61, m) := fun m => e7_within' x 60 m (by omega)
  cases hg : (inB x 61)
  · refine Eq2.bad h ?_ ?_
    · rw [fX6_found_eq]; unfold fX6_found_b
      cases g_x : inB x 61 <;> first | (simp only [w6_x, g_x, Option.bind_some, bind_eta, bI_0, bI_1, reduceCtorEq, not_true, not_false_eq_true, if_true, if_false]; done) | (rw [g_x] at hg; cases hg)
    · intro m1 h1
      rw [fX7_found_eq]; unfold fX7_found_b
      cases g_x : inB x 61 <;> first | (simp only [w7_x, e7_isTime, g_x, Option.bind_some, bind_eta, bI_0, bI_1, reduceCtorEq, not_true, not_false_eq_true, if_true, if_false, Bool.and_true, Bool.and_false, Bool.true_and, Bool.false_and]; done) | (rw [g_x] at hg; cases hg)
  · have g_x := hg
    obtain ⟨hl_n, he_n⟩ := inB_ex g_x
    have hu_n := n_clb x
    have hc_n : ∀ k, k = x.toNatClampNeg → (nI k).toNatClampNeg = k := fun k hk => n_cl (by omega)
    replace hc_n := hc_n _ rfl
    generalize x.toNatClampNeg = n at hl_n he_n hc_n hu_n
    subst he_n
    refine Eq2.ask h (nI (nfd v nb n)) ?_ ?_
    · rw [fX6_found_eq]; unfold fX6_found_b
      simp only [w6_x, g_x, hc_n, Option.bind_some, bind_eta, bI_0, bI_1, reduceCtorEq, not_true, not_false_eq_true, if_true, if_false]
      exact (count_v h.1.2.2.1 h.1.1 (by omega)).mono (fun r m' ⟨a, b⟩ => ⟨a, Dfo_toC b⟩)
    · intro m1 h1
      rw [fX7_found_eq]; unfold fX7_found_b
      simp only [w7_x, e7_isTime, g_x, hc_n, Option.bind_some, bind_eta, bI_0, bI_1, reduceCtorEq, not_true, not_false_eq_true, if_true, if_false, Bool.and_true]
      refine (keep_ok 2 m1).bind ?_
      intro _ m2 ⟨k1, k2⟩
      refine (q_goesOn (Lv_to h1.1.2.1 k2) h1.1.1 (by omega)).bind ?_
      intro r m3 ⟨r1, s⟩
      exact kept_back h1.1.2.1 k1 k2 (s.fr (by have := h1.1.nb.2.1; omega) h1.1.nw.2.1) (fun m4 h4 => ⟨r1, Dto_S h4⟩)
