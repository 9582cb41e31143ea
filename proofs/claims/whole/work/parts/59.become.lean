/-! PURE: a world taken over; image, back -/
def Dbe (w : Nat) : Nat → Nat → Nat → Prop := fun c i _ => ((c = 5 ∨ c = 40) ∧ i = w) ∨ (c = 0 ∧ 9 * w + 1 ≤ i ∧ i ≤ 9 * w + 8) ∨ (c = 4 ∧ 7 * w + 1 ≤ i ∧ i ≤ 7 * w + 6)
theorem FrP.fun {D : Nat → Nat → Nat → Prop} {m m' : MM} (h : FrP D m m') : ∀ c i k, ¬ D c i k → m'.1 c i k = m.1 c i k := h.1
theorem be_1 {w u : Nat} (hwu : w ≠ u) (m : MM) : Ok (loopF 1000 (fX5_become_b58 w u) 0 m) (fun _ m' => (∀ c, c < 30 → m'.1 40 w c = m.1 40 u c) ∧ FrP (fun c i _ => c = 40 ∧ i = w) m m') := by
  refine Ok.count 0 30 (fun i s m' => s = nI i ∧ (∀ c, c < i → m'.1 40 w c = m.1 40 u c) ∧ FrP (fun c i _ => c = 40 ∧ i = w) m m') ?_ ?_ (by omega) 1000 (by omega) 0 m ⟨rfl, fun b h => by omega, FrP.rfl⟩
  · intro i s m' _ hi ⟨es, e1, e2⟩
    subst es
    unfold fX5_become_b58
    rw [if_neg (by rw [n_le (by omega) (by omega)]; omega), e_flow, flw_in (inB_t hi (by omega)), n_cl (by omega)]
    simp only [Option.bind_some]
    rw [inB_t hi (by omega), e2.1 40 u i (by omega)]
    refine Ok.ret ⟨(n_s i).symm, ?_, FrP.up e2 (by omega) _⟩
    intro c hc
    by_cases e : c = i
    · subst e; simp only [upI_same, upI_k, upI_c, ne_eq, not_false_eq_true, reduceCtorEq, Nat.reduceEqDiff, Nat.zero_ne_one, Nat.one_ne_zero, and_self]
    · simp only [upI_same, upI_k, upI_c, ne_eq, not_false_eq_true, reduceCtorEq, Nat.reduceEqDiff, Nat.zero_ne_one, Nat.one_ne_zero, and_self, e]; exact e1 c (by omega)
  · intro s m' ⟨es, e1, e2⟩
    unfold fX5_become_b58
    rw [es, if_pos (by rw [n_le (by omega) (by omega)]; omega)]
    exact Ok.ret ⟨e1, e2⟩
theorem be_2 {w u nb : Nat} (hwu : w ≠ u) (m : MM) (hw : m.1 5 w 5 = nI nb) (hu : m.1 5 u 5 = nI nb) (hnb : nb ≤ 8) : Ok (loopF 1000 (fX5_become_b86 w u) 0 m) (fun _ m' => (∀ b, b < nb → ∀ k, k < 5 → m'.1 0 (9 * w + 1 + b) k = m.1 0 (9 * u + 1 + b) k) ∧ FrP (fun c i _ => c = 0 ∧ 9 * w + 1 ≤ i ∧ i ≤ 9 * w + 8) m m') := by
  refine Ok.count 0 nb (fun i s m' => s = nI i ∧ (∀ b, b < i → ∀ k, k < 5 → m'.1 0 (9 * w + 1 + b) k = m.1 0 (9 * u + 1 + b) k) ∧ FrP (fun c i _ => c = 0 ∧ 9 * w + 1 ≤ i ∧ i ≤ 9 * w + 8) m m') ?_ ?_ (by omega) 1000 (by omega) 0 m ⟨rfl, fun b h => by omega, FrP.rfl⟩
  · intro i s m' _ hi ⟨es, e1, e2⟩
    subst es
    unfold fX5_become_b86
    have a1 : m'.1 5 w 5 = nI nb := (e2.1 5 w 5 (by omega)).trans hw
    have a2 : m'.1 5 u 5 = nI nb := (e2.1 5 u 5 (by omega)).trans hu
    rw [a1, if_neg (by rw [n_le (by omega) (by omega)]; omega), e_bottleAt w _ nb m' a1 hnb, inB_t hi (by omega), if_pos rfl, n_cl (by omega)]
    simp only [Option.bind_some]
    rw [e_bottleAt u _ nb m' a2 hnb, inB_t hi (by omega), if_pos rfl, n_cl (by omega)]
    simp only [Option.bind_some]
    rw [e_Bbecome]
    have src : ∀ k, m'.1 0 (9 * u + 1 + i) k = m.1 0 (9 * u + 1 + i) k := fun k => e2.1 0 _ k (by omega)
    refine Ok.ret ⟨(n_s i).symm, ?_, ?_⟩
    · intro b hb k hk
      dsimp only
      by_cases e : b = i
      · subst e
        have : k = 0 ∨ k = 1 ∨ k = 2 ∨ k = 3 ∨ k = 4 := by omega
        rcases this with q | q | q | q | q <;> subst q <;> simp only [upI_same, upI_k, upI_c, ne_eq, not_false_eq_true, reduceCtorEq, Nat.reduceEqDiff, Nat.zero_ne_one, Nat.one_ne_zero, and_self, src]
      · rw [upI_nn (by omega), upI_nn (by omega), upI_nn (by omega), upI_nn (by omega), upI_nn (by omega)]
        exact e1 b (by omega) k hk
    · exact FrP.up (FrP.up (FrP.up (FrP.up (FrP.up e2 (by omega) _) (by omega) _) (by omega) _) (by omega) _) (by omega) _
  · intro s m' ⟨es, e1, e2⟩
    unfold fX5_become_b86
    rw [es, (e2.1 5 w 5 (by omega)).trans hw, if_pos (by rw [n_le (by omega) (by omega)]; omega)]
    exact Ok.ret ⟨e1, e2⟩
theorem be_3 {w u nw : Nat} (hwu : w ≠ u) (m : MM) (hw : m.1 5 w 6 = nI nw) (hu : m.1 5 u 6 = nI nw) (hnw : nw ≤ 6) : Ok (loopF 1000 (fX5_become_b130 w u) 0 m) (fun _ m' => (∀ b, b < nw → ∀ k, k < 3 → m'.1 4 (7 * w + 1 + b) k = m.1 4 (7 * u + 1 + b) k) ∧ FrP (fun c i _ => c = 4 ∧ 7 * w + 1 ≤ i ∧ i ≤ 7 * w + 6) m m') := by
  refine Ok.count 0 nw (fun i s m' => s = nI i ∧ (∀ b, b < i → ∀ k, k < 3 → m'.1 4 (7 * w + 1 + b) k = m.1 4 (7 * u + 1 + b) k) ∧ FrP (fun c i _ => c = 4 ∧ 7 * w + 1 ≤ i ∧ i ≤ 7 * w + 6) m m') ?_ ?_ (by omega) 1000 (by omega) 0 m ⟨rfl, fun b h => by omega, FrP.rfl⟩
  · intro i s m' _ hi ⟨es, e1, e2⟩
    subst es
    unfold fX5_become_b130
    have a1 : m'.1 5 w 6 = nI nw := (e2.1 5 w 6 (by omega)).trans hw
    have a2 : m'.1 5 u 6 = nI nw := (e2.1 5 u 6 (by omega)).trans hu
    rw [a1, if_neg (by rw [n_le (by omega) (by omega)]; omega), e_walkerAt w _ nw m' a1 hnw, inB_t hi (by omega), if_pos rfl, n_cl (by omega)]
    simp only [Option.bind_some]
    rw [e_walkerAt u _ nw m' a2 hnw, inB_t hi (by omega), if_pos rfl, n_cl (by omega)]
    simp only [Option.bind_some]
    rw [e_Wbecome]
    have src : ∀ k, m'.1 4 (7 * u + 1 + i) k = m.1 4 (7 * u + 1 + i) k := fun k => e2.1 4 _ k (by omega)
    refine Ok.ret ⟨(n_s i).symm, ?_, ?_⟩
    · intro b hb k hk
      dsimp only
      by_cases e : b = i
      · subst e
        have : k = 0 ∨ k = 1 ∨ k = 2 := by omega
        rcases this with q | q | q <;> subst q <;> simp only [upI_same, upI_k, upI_c, ne_eq, not_false_eq_true, reduceCtorEq, Nat.reduceEqDiff, Nat.zero_ne_one, Nat.one_ne_zero, and_self, src]
      · rw [upI_nn (by omega), upI_nn (by omega), upI_nn (by omega)]
        exact e1 b (by omega) k hk
    · exact FrP.up (FrP.up (FrP.up e2 (by omega) _) (by omega) _) (by omega) _
  · intro s m' ⟨es, e1, e2⟩
    unfold fX5_become_b130
    rw [es, (e2.1 5 w 6 (by omega)).trans hw, if_pos (by rw [n_le (by omega) (by omega)]; omega)]
    exact Ok.ret ⟨e1, e2⟩
theorem become_v {w u nb nw : Nat} {v : Nat → Int32} {m : MM} (hwu : w ≠ u) (h : RelW m.1 u nb nw v) (hb : v 97 = nI nb) (hnb : nb ≤ 8) (hw : v 98 = nI nw) (hnw : nw ≤ 6) : Ok (fX5_become w u m) (fun _ m' => RelW m'.1 w nb nw v ∧ FrP (Dbe w) m m') := by
  obtain ⟨a1, a2, a3, a4, a5, a6, a7, a8, a9, a10⟩ := h
  rw [fX5_become_eq]; unfold fX5_become_b
  have ne : u ≠ w := fun h => hwu h.symm
  have src : ∀ k x j, upI m.1 5 w k x 5 u j = m.1 5 u j := fun k x j => upI_nn (by omega)
  simp only [upI_i ne]
  have key : ∀ m1 : MM, m1.1 5 w 0 = v 93 → m1.1 5 w 1 = v 94 → m1.1 5 w 2 = v 95 → m1.1 5 w 3 = v 96 → m1.1 5 w 4 = v 99 → m1.1 5 w 5 = v 97 → m1.1 5 w 6 = v 98 → FrP (Dbe w) m m1 →
      Ok ((loopF 1000 (fX5_become_b58 w u) 0 m1).bind fun o2 => (loopF 1000 (fX5_become_b86 w u) 0 o2.2).bind fun o10 => (loopF 1000 (fX5_become_b130 w u) 0 o10.2).bind fun o18 => some ((), o18.2)) (fun _ m' => RelW m'.1 w nb nw v ∧ FrP (Dbe w) m m') := by
    intro m1 b1 b2 b3 b4 b5 b6 b7 f1
    refine (be_1 hwu m1).bind ?_
    intro _ m2 ⟨c1, f2⟩
    dsimp only
    have g2 : FrP (Dbe w) m m2 := f1.trans (f2.mono (by unfold Dbe; omega))
    refine (be_2 (nb := nb) hwu m2 ?_ ?_ hnb).bind ?_
    · rw [f2.1 5 w 5 (by omega), b6]; exact hb
    · rw [g2.1 5 u 5 (by unfold Dbe; omega), a6]; exact hb
    intro _ m3 ⟨c2, f3⟩
    dsimp only
    have g3 : FrP (Dbe w) m m3 := g2.trans (f3.mono (by unfold Dbe; omega))
    refine (be_3 (nw := nw) hwu m3 ?_ ?_ hnw).bind ?_
    · rw [f3.1 5 w 6 (by omega), f2.1 5 w 6 (by omega), b7]; exact hw
    · rw [g3.1 5 u 6 (by unfold Dbe; omega), a7]; exact hw
    intro _ m4 ⟨c3, f4⟩
    refine Ok.ret ⟨?_, g3.trans (f4.mono (by unfold Dbe; omega))⟩
    have w5 : ∀ k, m4.1 5 w k = m1.1 5 w k := fun k => (f4.1 5 w k (by omega)).trans ((f3.1 5 w k (by omega)).trans (f2.1 5 w k (by omega)))
    refine ⟨(w5 0).trans b1, (w5 1).trans b2, (w5 2).trans b3, (w5 3).trans b4, (w5 4).trans b5, (w5 5).trans b6, (w5 6).trans b7, ?_, ?_, ?_⟩
    · intro c hc
      rw [f4.1 40 w c (by omega), f3.1 40 w c (by omega), c1 c hc, f1.1 40 u c (by unfold Dbe; omega)]
      exact a8 c hc
    · intro b hb'
      have e : ∀ k, k < 5 → m4.1 0 (9 * w + 1 + b) k = m.1 0 (9 * u + 1 + b) k := by
        intro k hk
        rw [f4.1 0 _ k (by omega), c2 b hb' k hk, g2.1 0 _ k (by unfold Dbe; omega)]
      unfold BF
      rw [e 0 (by omega), e 1 (by omega), e 2 (by omega), e 3 (by omega), e 4 (by omega)]
      exact a9 b hb'
    · intro b hb'
      have e : ∀ k, k < 3 → m4.1 4 (7 * w + 1 + b) k = m.1 4 (7 * u + 1 + b) k := by
        intro k hk
        rw [c3 b hb' k hk, g3.1 4 _ k (by unfold Dbe; omega)]
      unfold WFd
      rw [e 0 (by omega), e 1 (by omega), e 2 (by omega)]
      exact a10 b hb'
  refine key _ ?_ ?_ ?_ ?_ ?_ ?_ ?_ ?_
  · simp only [upI_same, upI_k, upI_c, ne_eq, not_false_eq_true, reduceCtorEq, Nat.reduceEqDiff, Nat.zero_ne_one, Nat.one_ne_zero, and_self]; exact a1
  · simp only [upI_same, upI_k, upI_c, ne_eq, not_false_eq_true, reduceCtorEq, Nat.reduceEqDiff, Nat.zero_ne_one, Nat.one_ne_zero, and_self]; exact a2
  · simp only [upI_same, upI_k, upI_c, ne_eq, not_false_eq_true, reduceCtorEq, Nat.reduceEqDiff, Nat.zero_ne_one, Nat.one_ne_zero, and_self]; exact a3
  · simp only [upI_same, upI_k, upI_c, ne_eq, not_false_eq_true, reduceCtorEq, Nat.reduceEqDiff, Nat.zero_ne_one, Nat.one_ne_zero, and_self]; exact a4
  · simp only [upI_same, upI_k, upI_c, ne_eq, not_false_eq_true, reduceCtorEq, Nat.reduceEqDiff, Nat.zero_ne_one, Nat.one_ne_zero, and_self]; exact a5
  · simp only [upI_same, upI_k, upI_c, ne_eq, not_false_eq_true, reduceCtorEq, Nat.reduceEqDiff, Nat.zero_ne_one, Nat.one_ne_zero, and_self]; exact a6
  · simp only [upI_same, upI_k, upI_c, ne_eq, not_false_eq_true, reduceCtorEq, Nat.reduceEqDiff, Nat.zero_ne_one, Nat.one_ne_zero, and_self]; exact a7
  · have d : ∀ k, Dbe w 5 w k := fun k => Or.inl ⟨Or.inl rfl, rfl⟩
    exact FrP.up (FrP.up (FrP.up (FrP.up (FrP.up (FrP.up (FrP.up FrP.rfl (d _) _) (d _) _) (d _) _) (d _) _) (d _) _) (d _) _) (d _) _
/-! image -/
theorem op_image {v : Nat → Int32} {nb nw nc : Nat} {m : MM} (h : Rlt v nb nw nc m) : Eq2 (fX6_image 0) (fX7_image 0) m := by
  have hnb := h.1.nb.2.1
  have hnw := h.1.nw.2.1
  unfold Eq2
  rw [fX6_image_eq]; unfold fX6_image_b
  refine (become_v (w := 1) (by omega) h.1.2.2.1 h.1.1.1 hnb h.1.1.2.2.1 hnw).bind ?_
  intro _ m1 ⟨r1, f1⟩
  refine Ok.ret ?_
  rw [fX7_image_eq]; unfold fX7_image_b
  dsimp only
  refine (keep_ok 0 (upI (upI m1.1 6 0 3 1) 7 0 23 1, m1.2)).bind ?_
  intro _ m3 ⟨k1, f3⟩
  refine Ok.ret ⟨rfl, ⟨v, nb, nw, nc, ?_⟩, ?_⟩
  · obtain ⟨⟨h1, h2, h3, h4, h5, h6, h8⟩, h7⟩ := h
    have f2 : FrP (fun c i k => (c = 6 ∧ i = 0 ∧ k = 3) ∨ (c = 7 ∧ i = 0 ∧ k = 23)) m1 (upI (upI m1.1 6 0 3 1) 7 0 23 1, m1.2) := FrP.up (m' := (upI m1.1 6 0 3 1, m1.2)) (FrP.up (m' := m1) FrP.rfl (by omega) _) (by omega) _
    have F : FrP (fun c i k => Dbe 1 c i k ∨ (c = 6 ∧ i = 0 ∧ k = 3) ∨ (c = 7 ∧ i = 0 ∧ k = 23) ∨ Dto 0 c i k) m m3 := (f1.mono (fun c i k q => Or.inl q)).trans ((f2.mono (fun c i k q => Or.inr (q.imp id Or.inl))).trans (f3.mono (fun c i k q => Or.inr (Or.inr (Or.inr q)))))
    have L3 : Lv v m3 := Lv_fr' h2 F.1 (by unfold Dlv Dbe Dto; omega)
    refine ⟨⟨h1, L3, RelW_fr' h3 F.1 (by unfold Dbe Dto; omega) (by unfold Dbe Dto; omega) (by unfold Dbe Dto; omega) (by unfold Dbe Dto; omega), RelS_fr h4 F.1 F.2 (by unfold Dbe Dto; omega) (by unfold Dbe Dto; omega) (by unfold Dbe Dto; omega), RelT_fr h5 F.1 (by unfold Dbe Dto; omega) (by unfold Dbe Dto; omega) (by unfold Dbe Dto; omega) (by unfold Dbe Dto; omega), ?_, RelK_fr h8 F.1 (by unfold Dbe Dto; omega) (by unfold Dbe Dto; omega)⟩, RelN_fr h7 F.1 (by unfold Dbe Dto; omega) (by unfold Dbe Dto; omega)⟩
    right
    have e62 : Lv (m3.1 62 0) m3 := Lv_fr k1 f3 (by unfold Dlv Dto; omega)
    have ev : ∀ j, j < 100 → m3.1 62 0 j = v j := by
      intro j hj
      obtain ⟨a1, a2, a3, a4, a5, a6, a7, a8, a9, a10⟩ := e62
      obtain ⟨b1, b2, b3, b4, b5, b6, b7, b8, b9, b10⟩ := L3
      by_cases q : j < 30
      · rw [a1 j q, b1 j q]
      · by_cases q2 : j < 75
        · obtain ⟨x, hx, y⟩ : ∃ x, x < 9 ∧ (j = 30 + x ∨ j = 39 + x ∨ j = 48 + x ∨ j = 57 + x ∨ j = 66 + x) := ⟨(j - 30) % 9, by omega, by omega⟩
          obtain ⟨c1, c2, c3, c4, c5⟩ := a2 x hx
          obtain ⟨d1, d2, d3, d4, d5⟩ := b2 x hx
          rcases y with y | y | y | y | y <;> subst y
          · rw [c1, d1]
          · rw [c2, d2]
          · rw [c3, d3]
          · rw [c4, d4]
          · rw [c5, d5]
        · by_cases q3 : j < 93
          · obtain ⟨x, rfl⟩ : ∃ x, j = 75 + x := ⟨j - 75, by omega⟩
            rw [a3 x (by omega), b3 x (by omega)]
          · have : j = 93 ∨ j = 94 ∨ j = 95 ∨ j = 96 ∨ j = 97 ∨ j = 98 ∨ j = 99 := by omega
            rcases this with y | y | y | y | y | y | y <;> subst y
            · rw [a4, b4]
            · rw [a5, b5]
            · rw [a6, b6]
            · rw [a7, b7]
            · rw [a8, b8]
            · rw [a9, b9]
            · rw [a10, b10]
    refine ⟨?_, ?_, nb, nw, nc, ?_, ?_⟩
    · rw [f3.1 6 0 3 (by unfold Dto; omega)]; dsimp only; rw [upI_nn (by omega), upI_same]
    · rw [f3.1 7 0 23 (by unfold Dto; omega)]; dsimp only; rw [upI_same]
    · obtain ⟨h1, h2, h3, h4, h5, h6, h7, h8, h9, h10, h11⟩ := h1
      refine ⟨(ev 97 (by omega)).trans h1, h2, (ev 98 (by omega)).trans h3, h4, (ev 93 (by omega)).trans h5, h6, h7, ?_, ?_, ?_, by rw [ev 95 (by omega)]; exact h11⟩
      · intro b hb; rw [ev (48 + b) (by omega), ev (57 + b) (by omega)]; exact h8 b hb
      · intro b hb; rw [ev (48 + b) (by omega), ev (57 + b) (by omega), ev (66 + b) (by omega), ev (30 + b) (by omega)]; exact h9 b hb
      · intro w hw; unfold vW; rw [ev (81 + w) (by omega), ev (75 + w) (by omega), ev (87 + w) (by omega)]; exact h10 w hw
    · have r3 : RelW m3.1 1 nb nw v := RelW_fr' (m := m1) r1 (D := fun c i k => (c = 6 ∧ i = 0 ∧ k = 3) ∨ (c = 7 ∧ i = 0 ∧ k = 23) ∨ Dto 0 c i k) ((f2.mono (fun c i k q => q.imp id Or.inl)).trans (f3.mono (fun c i k q => Or.inr (Or.inr q)))).1 (by unfold Dto; omega) (by unfold Dto; omega) (by unfold Dto; omega) (by unfold Dto; omega)
      obtain ⟨h1, h2, h3, h4, h5, h6, h7, h8, h9, h10⟩ := r3
      refine ⟨h1.trans (ev 93 (by omega)).symm, h2.trans (ev 94 (by omega)).symm, h3.trans (ev 95 (by omega)).symm, h4.trans (ev 96 (by omega)).symm, h5.trans (ev 99 (by omega)).symm, h6.trans (ev 97 (by omega)).symm, h7.trans (ev 98 (by omega)).symm, ?_, ?_, ?_⟩
      · intro c hc; rw [ev c (by omega)]; exact h8 c hc
      · intro b hb; unfold BF; rw [ev (30 + b) (by omega), ev (39 + b) (by omega), ev (48 + b) (by omega), ev (57 + b) (by omega), ev (66 + b) (by omega)]; exact h9 b hb
      · intro k hk; unfold WFd; rw [ev (75 + k) (by omega), ev (81 + k) (by omega), ev (87 + k) (by omega)]; exact h10 k hk
  · funext i k
    have F : FrP (fun c i k => Dbe 1 c i k ∨ (c = 6 ∧ i = 0 ∧ k = 3) ∨ (c = 7 ∧ i = 0 ∧ k = 23) ∨ Dto 0 c i k) m m3 := (f1.mono (fun c i k q => Or.inl q)).trans (FrP.trans (m1 := (upI (upI m1.1 6 0 3 1) 7 0 23 1, m1.2)) (FrP.up (m' := (upI m1.1 6 0 3 1, m1.2)) (FrP.up (m' := m1) FrP.rfl (by omega) _) (by omega) _) (f3.mono (fun c i k q => Or.inr (Or.inr (Or.inr q)))))
    exact F.1 33 i k (by unfold Dbe Dto; omega)
