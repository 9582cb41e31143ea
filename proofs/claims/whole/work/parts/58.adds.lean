/-! PURE: adding walkers and bottles; the tape -/
/-- the row with a walker more -/
def adW (v : Nat → Int32) (nw : Nat) (c p w : Int32) : Nat → Int32 := upv (upv (upv (upv v 98 (nI (nw + 1))) (75 + nw) c) (81 + nw) p) (87 + nw) w
/-- with a bottle more -/
def adB (v : Nat → Int32) (nb : Nat) (k a c x : Int32) : Nat → Int32 := upv (upv (upv (upv (upv (upv v 97 (nI (nb + 1))) (30 + nb) k) (39 + nb) a) (48 + nb) c) (57 + nb) x) (66 + nb) 0
theorem adW_at {v : Nat → Int32} {nw : Nat} {c p w : Int32} (hn : nw < 6) (j : Nat) : adW v nw c p w j = if j = 87 + nw then w else if j = 81 + nw then p else if j = 75 + nw then c else if j = 98 then nI (nw + 1) else v j := rfl
theorem adB_at {v : Nat → Int32} {nb : Nat} {k a c x : Int32} (j : Nat) : adB v nb k a c x j = if j = 66 + nb then 0 else if j = 57 + nb then x else if j = 48 + nb then c else if j = 39 + nb then a else if j = 30 + nb then k else if j = 97 then nI (nb + 1) else v j := rfl
theorem WF_adW {v : Nat → Int32} {nb nw nc : Nat} {c p w : Int32} (h : WF v nb nw nc) (hn : nw < 6) (hc : inB c nc = true) (hp : inB p 4 = true) (hw : inB w 2 = true) : WF (adW v nw c p w) nb (nw + 1) nc := by
  obtain ⟨h1, h2, h3, h4, h5, h6, h7, h8, h9, h10, h11⟩ := h
  have g : ∀ j, ¬ (j = 87 + nw ∨ j = 81 + nw ∨ j = 75 + nw ∨ j = 98) → adW v nw c p w j = v j := by
    intro j hj
    rw [adW_at hn, if_neg (by omega), if_neg (by omega), if_neg (by omega), if_neg (by omega)]
  refine ⟨by rw [g 97 (by omega)]; exact h1, h2, ?_, by omega, by rw [g 93 (by omega)]; exact h5, h6, h7, ?_, ?_, ?_, by rw [g 95 (by omega)]; exact h11⟩
  · rw [adW_at hn, if_neg (by omega), if_neg (by omega), if_neg (by omega), if_pos rfl]
  · intro b hb; rw [g (48 + b) (by omega), g (57 + b) (by omega)]; exact h8 b hb
  · intro b hb; rw [g (48 + b) (by omega), g (57 + b) (by omega), g (66 + b) (by omega), g (30 + b) (by omega)]; exact ⟨(h9 b hb).1, inB_mono (h9 b hb).2.1 (by omega), (h9 b hb).2.2⟩
  · intro i hi
    by_cases e : i = nw
    · subst e
      have a1 : adW v i c p w (81 + i) = p := by rw [adW_at hn, if_neg (by omega), if_pos rfl]
      have a2 : adW v i c p w (75 + i) = c := by rw [adW_at hn, if_neg (by omega), if_neg (by omega), if_pos rfl]
      have a3 : adW v i c p w (87 + i) = w := by rw [adW_at hn, if_pos rfl]
      unfold vW
      rw [a1, a2, a3]
      exact ⟨hp, hc, inB_2 hw⟩
    · unfold vW
      rw [g (81 + i) (by omega), g (75 + i) (by omega), g (87 + i) (by omega)]
      exact h10 i (by omega)
theorem WF_adB {v : Nat → Int32} {nb nw nc : Nat} {k a c x : Int32} (h : WF v nb nw nc) (hn : nb < 8) (hk : inB k 6 = true) (hc : inB c nc = true) (hx : inB x nw = true) : WF (adB v nb k a c x) (nb + 1) nw nc := by
  obtain ⟨h1, h2, h3, h4, h5, h6, h7, h8, h9, h10, h11⟩ := h
  have g : ∀ j, ¬ (j = 66 + nb ∨ j = 57 + nb ∨ j = 48 + nb ∨ j = 39 + nb ∨ j = 30 + nb ∨ j = 97) → adB v nb k a c x j = v j := by
    intro j hj
    rw [adB_at, if_neg (by omega), if_neg (by omega), if_neg (by omega), if_neg (by omega), if_neg (by omega), if_neg (by omega)]
  have a1 : adB v nb k a c x (66 + nb) = 0 := by rw [adB_at, if_pos rfl]
  have a2 : adB v nb k a c x (57 + nb) = x := by rw [adB_at, if_neg (by omega), if_pos rfl]
  have a3 : adB v nb k a c x (48 + nb) = c := by rw [adB_at, if_neg (by omega), if_neg (by omega), if_pos rfl]
  have a4 : adB v nb k a c x (30 + nb) = k := by rw [adB_at, if_neg (by omega), if_neg (by omega), if_neg (by omega), if_neg (by omega), if_pos rfl]
  refine ⟨?_, by omega, by rw [g 98 (by omega)]; exact h3, h4, by rw [g 93 (by omega)]; exact h5, h6, h7, ?_, ?_, ?_, by rw [g 95 (by omega)]; exact h11⟩
  · rw [adB_at, if_neg (by omega), if_neg (by omega), if_neg (by omega), if_neg (by omega), if_neg (by omega), if_pos rfl]
  · intro b hb
    by_cases e : b = nb
    · rw [e, a2, a3]; exact ⟨inB_mono hc h7, Or.inr (inB_mono hx h4)⟩
    · rw [g (48 + b) (by omega), g (57 + b) (by omega)]; exact h8 b hb
  · intro b hb
    by_cases e : b = nb
    · rw [e, a1, a2, a3, a4]; exact ⟨hc, hx, by decide, hk⟩
    · rw [g (48 + b) (by omega), g (57 + b) (by omega), g (66 + b) (by omega), g (30 + b) (by omega)]; exact h9 b (by omega)
  · intro i hi
    unfold vW
    rw [g (81 + i) (by omega), g (75 + i) (by omega), g (87 + i) (by omega)]
    exact h10 i hi
/-- the class's world with a walker more -/
def mW6 (mi : MI) (w nw : Nat) (c p y : Int32) : MI := upI (upI (upI (upI mi 5 w 6 (nI (nw + 1))) 4 (7 * w + 1 + nw) 0 c) 4 (7 * w + 1 + nw) 1 p) 4 (7 * w + 1 + nw) 2 y
def mB6 (mi : MI) (w nb : Nat) (k a c x : Int32) : MI := upI (upI (upI (upI (upI (upI mi 5 w 5 (nI (nb + 1))) 0 (9 * w + 1 + nb) 0 k) 0 (9 * w + 1 + nb) 1 a) 0 (9 * w + 1 + nb) 2 c) 0 (9 * w + 1 + nb) 3 x) 0 (9 * w + 1 + nb) 4 0
theorem RelW_adW {mi : MI} {w nb nw : Nat} {v : Nat → Int32} {c p y : Int32} (h : RelW mi w nb nw v) (hb : nb ≤ 8) (hw : nw < 6) : RelW (mW6 mi w nw c p y) w nb (nw + 1) (adW v nw c p y) := by
  have l1 : loc6 w 5 w 6 98 := by unfold loc6; omega
  have l2 : loc6 w 4 (7 * w + 1 + nw) 0 (75 + nw) := Or.inr (Or.inr (Or.inr ⟨rfl, nw, by omega, rfl, by omega, by omega⟩))
  have l3 : loc6 w 4 (7 * w + 1 + nw) 1 (81 + nw) := Or.inr (Or.inr (Or.inr ⟨rfl, nw, by omega, rfl, by omega, by omega⟩))
  have l4 : loc6 w 4 (7 * w + 1 + nw) 2 (87 + nw) := Or.inr (Or.inr (Or.inr ⟨rfl, nw, by omega, rfl, by omega, by omega⟩))
  have hh := RelW_one (RelW_one (RelW_one (RelW_one h hb (by omega) l1 (nI (nw + 1))) hb (by omega) l2 c) hb (by omega) l3 p) hb (by omega) l4 y
  obtain ⟨a1, a2, a3, a4, a5, a6, a7, a8, a9, a10⟩ := hh
  refine ⟨a1, a2, a3, a4, a5, a6, a7, a8, a9, fun k hk => ?_⟩
  by_cases e : k = nw
  · subst e
    unfold WFd mW6
    have b1 : adW v k c p y (75 + k) = c := by rw [adW_at hw, if_neg (by omega), if_neg (by omega), if_pos rfl]
    have b2 : adW v k c p y (81 + k) = p := by rw [adW_at hw, if_neg (by omega), if_pos rfl]
    have b3 : adW v k c p y (87 + k) = y := by rw [adW_at hw, if_pos rfl]
    rw [b1, b2, b3]
    refine ⟨?_, ?_, upI_same _ _ _ _ _⟩
    · rw [upI_nn (by omega), upI_nn (by omega), upI_same]
    · rw [upI_nn (by omega), upI_same]
  · exact a10 k (by omega)
theorem RelW_adB {mi : MI} {w nb nw : Nat} {v : Nat → Int32} {k a c x : Int32} (h : RelW mi w nb nw v) (hb : nb < 8) (hw : nw ≤ 6) : RelW (mB6 mi w nb k a c x) w (nb + 1) nw (adB v nb k a c x) := by
  have l1 : loc6 w 5 w 5 97 := by unfold loc6; omega
  have l2 : loc6 w 0 (9 * w + 1 + nb) 0 (30 + nb) := Or.inr (Or.inr (Or.inl ⟨rfl, nb, by omega, rfl, by omega, by omega⟩))
  have l3 : loc6 w 0 (9 * w + 1 + nb) 1 (39 + nb) := Or.inr (Or.inr (Or.inl ⟨rfl, nb, by omega, rfl, by omega, by omega⟩))
  have l4 : loc6 w 0 (9 * w + 1 + nb) 2 (48 + nb) := Or.inr (Or.inr (Or.inl ⟨rfl, nb, by omega, rfl, by omega, by omega⟩))
  have l5 : loc6 w 0 (9 * w + 1 + nb) 3 (57 + nb) := Or.inr (Or.inr (Or.inl ⟨rfl, nb, by omega, rfl, by omega, by omega⟩))
  have l6 : loc6 w 0 (9 * w + 1 + nb) 4 (66 + nb) := Or.inr (Or.inr (Or.inl ⟨rfl, nb, by omega, rfl, by omega, by omega⟩))
  have hh := RelW_one (RelW_one (RelW_one (RelW_one (RelW_one (RelW_one h (by omega) hw l1 (nI (nb + 1))) (by omega) hw l2 k) (by omega) hw l3 a) (by omega) hw l4 c) (by omega) hw l5 x) (by omega) hw l6 0
  obtain ⟨a1, a2, a3, a4, a5, a6, a7, a8, a9, a10⟩ := hh
  refine ⟨a1, a2, a3, a4, a5, a6, a7, a8, fun b hb' => ?_, a10⟩
  by_cases e : b = nb
  · subst e
    unfold BF mB6
    have b1 : adB v b k a c x (30 + b) = k := by rw [adB_at, if_neg (by omega), if_neg (by omega), if_neg (by omega), if_neg (by omega), if_pos rfl]
    have b2 : adB v b k a c x (39 + b) = a := by rw [adB_at, if_neg (by omega), if_neg (by omega), if_neg (by omega), if_pos rfl]
    have b3 : adB v b k a c x (48 + b) = c := by rw [adB_at, if_neg (by omega), if_neg (by omega), if_pos rfl]
    have b4 : adB v b k a c x (57 + b) = x := by rw [adB_at, if_neg (by omega), if_pos rfl]
    have b5 : adB v b k a c x (66 + b) = 0 := by rw [adB_at, if_pos rfl]
    rw [b1, b2, b3, b4, b5]
    refine ⟨?_, ?_, ?_, ?_, upI_same _ _ _ _ _⟩
    · rw [upI_nn (by omega), upI_nn (by omega), upI_nn (by omega), upI_nn (by omega), upI_same]
    · rw [upI_nn (by omega), upI_nn (by omega), upI_nn (by omega), upI_same]
    · rw [upI_nn (by omega), upI_nn (by omega), upI_same]
    · rw [upI_nn (by omega), upI_same]
  · exact a9 b (by omega)
theorem e5_roomW (w : Nat) {nw : Nat} (m : MM) (h : m.1 5 w 6 = nI nw) (hn : nw ≤ 6) : fX5_hasRoomForWalker w m = some (decide (nw < 6), m) := by
  rw [fX5_hasRoomForWalker_eq]; unfold fX5_hasRoomForWalker_b
  rw [h]
  by_cases e : nw < 6
  · rw [if_neg (by rw [n_le (by omega) (by omega)]; omega), decide_eq_true e]
  · rw [if_pos (by rw [n_le (by omega) (by omega)]; omega), decide_eq_false e]
theorem e5_roomB (w : Nat) {nb : Nat} (m : MM) (h : m.1 5 w 5 = nI nb) (hn : nb ≤ 8) : fX5_hasRoomForBottle w m = some (decide (nb < 8), m) := by
  rw [fX5_hasRoomForBottle_eq]; unfold fX5_hasRoomForBottle_b
  rw [h]
  by_cases e : nb < 8
  · rw [if_neg (by rw [n_le (by omega) (by omega)]; omega), decide_eq_true e]
  · rw [if_pos (by rw [n_le (by omega) (by omega)]; omega), decide_eq_false e]
theorem e5_addW (w : Nat) {nw : Nat} (c p y : Int32) (m : MM) (h : m.1 5 w 6 = nI nw) (hn : nw < 6) : fX5_addWalker w c p y m = some (nI nw, (mW6 m.1 w nw c p y, m.2)) := by
  rw [fX5_addWalker_eq]; unfold fX5_addWalker_b
  rw [e5_roomW w m h (by omega), decide_eq_true hn]
  simp only [Option.bind_some, bI_0, reduceCtorEq, not_false_eq_true, if_true]
  rw [h, ← n_s, e_walkerAt w (nI nw) (nw + 1) _ (by dsimp only; rw [upI_same]) (by omega), inB_t (by omega) (by omega), if_pos rfl, n_cl (by omega)]
  simp only [Option.bind_some]
  rw [fX4_start_eq]; rfl
theorem e5_addB (w : Nat) {nb : Nat} (k a c x : Int32) (m : MM) (h : m.1 5 w 5 = nI nb) (hn : nb < 8) : fX5_addBottle w k a c x m = some (nI nb, (mB6 m.1 w nb k a c x, m.2)) := by
  rw [fX5_addBottle_eq]; unfold fX5_addBottle_b
  rw [e5_roomB w m h (by omega), decide_eq_true hn]
  simp only [Option.bind_some, bI_0, reduceCtorEq, not_false_eq_true, if_true]
  rw [h, ← n_s, e_bottleAt w (nI nb) (nb + 1) _ (by dsimp only; rw [upI_same]) (by omega), inB_t (by omega) (by omega), if_pos rfl, n_cl (by omega)]
  simp only [Option.bind_some]
  rw [fX0_start_eq]; rfl
/-- the reference's -/
def mW7 (mi : MI) (nw : Nat) (c p y : Int32) : MI := upI (upI (upI (upI mi 57 0 nw c) 57 0 (6 + nw) p) 57 0 (12 + nw) y) 7 0 10 (nI (nw + 1))
def mB7 (mi : MI) (nb : Nat) (k a c x : Int32) : MI := upI (upI (upI (upI (upI mi 52 0 nb k) 53 0 nb a) 54 0 nb c) 55 0 nb x) 56 0 nb 0
theorem e7_newWalker {nw : Nat} (c p y : Int32) (m : MM) (h : m.1 7 0 10 = nI nw) (hn : nw < 6) : fX7_newWalker 0 c p y m = some (nI nw, (mW7 m.1 nw c p y, m.2)) := by
  rw [fX7_newWalker_eq]; unfold fX7_newWalker_b
  have i6 : (6 : Int32) + nI nw = nI (6 + nw) := (n_add 6 nw).symm
  have i12 : (12 : Int32) + nI nw = nI (12 + nw) := (n_add 12 nw).symm
  simp only [upI_same, upI_k, upI_c, ne_eq, not_false_eq_true, reduceCtorEq, Nat.reduceEqDiff, Nat.zero_ne_one, Nat.one_ne_zero, and_self, h, i6, i12, n_cl (show nw < 2147483648 by omega), n_cl (show 6 + nw < 2147483648 by omega), n_cl (show 12 + nw < 2147483648 by omega), inB_t (show nw < 18 by omega) (by omega), inB_t (show 6 + nw < 18 by omega) (by omega), inB_t (show 12 + nw < 18 by omega) (by omega), cond_true, ← n_s]
  rfl
theorem e7_becomes {b : Nat} (k a c x : Int32) (m : MM) (hb : b < 9) : fX7_becomes 0 (nI b) k a c x m = some ((), (mB7 m.1 b k a c x, m.2)) := by
  rw [fX7_becomes_eq]; unfold fX7_becomes_b
  rw [inB_t hb (by omega), n_cl (by omega)]
  rfl
theorem Lv_adW {v : Nat → Int32} {nw : Nat} {c p y : Int32} {m : MM} (h : Lv v m) (hn : nw < 6) : Lv (adW v nw c p y) (mW7 m.1 nw c p y, m.2) := by
  have a := Lv_one (Lv_one (Lv_one (Lv_one h (c := 57) (j := nw) (k := 75 + nw) (by unfold loc; omega) c) (c := 57) (j := 6 + nw) (k := 81 + nw) (by unfold loc; omega) p) (c := 57) (j := 12 + nw) (k := 87 + nw) (by unfold loc; omega) y) (c := 7) (j := 10) (k := 98) (by unfold loc; omega) (nI (nw + 1))
  have e : adW v nw c p y = upv (upv (upv (upv v (75 + nw) c) (81 + nw) p) (87 + nw) y) 98 (nI (nw + 1)) := by
    funext j
    rw [adW_at hn]
    unfold upv
    by_cases h1 : j = 87 + nw
    · rw [if_pos h1, if_neg (by omega), if_pos h1]
    · rw [if_neg h1]
      by_cases h2 : j = 81 + nw
      · rw [if_pos h2, if_neg (by omega), if_neg h1, if_pos h2]
      · rw [if_neg h2]
        by_cases h3 : j = 75 + nw
        · rw [if_pos h3, if_neg (by omega), if_neg h1, if_neg h2, if_pos h3]
        · rw [if_neg h3]
          by_cases h4 : j = 98
          · rw [if_pos h4, if_pos h4]
          · rw [if_neg h4, if_neg h4, if_neg h1, if_neg h2, if_neg h3]
  rw [e]; exact a
theorem Lv_mB7 {v : Nat → Int32} {b : Nat} {k a c x : Int32} {m : MM} (h : Lv v m) (hb : b < 9) : Lv (upv (upv (upv (upv (upv v (30 + b) k) (39 + b) a) (48 + b) c) (57 + b) x) (66 + b) 0) (mB7 m.1 b k a c x, m.2) :=
  Lv_one (Lv_one (Lv_one (Lv_one (Lv_one h (c := 52) (j := b) (by unfold loc; omega) k) (c := 53) (j := b) (by unfold loc; omega) a) (c := 54) (j := b) (by unfold loc; omega) c) (c := 55) (j := b) (by unfold loc; omega) x) (c := 56) (j := b) (by unfold loc; omega) 0
theorem Lv_adB {v : Nat → Int32} {nb : Nat} {k a c x : Int32} {m : MM} (h : Lv v m) (hn : nb < 8) : Lv (adB v nb k a c x) (upI (mB7 m.1 nb k a c x) 7 0 4 (nI (nb + 1)), m.2) := by
  have a' := Lv_one (Lv_mB7 (k := k) (a := a) (c := c) (x := x) h (show nb < 9 by omega)) (c := 7) (j := 4) (k := 97) (by unfold loc; omega) (nI (nb + 1))
  have e : adB v nb k a c x = upv (upv (upv (upv (upv (upv v (30 + nb) k) (39 + nb) a) (48 + nb) c) (57 + nb) x) (66 + nb) 0) 97 (nI (nb + 1)) := by
    funext j
    rw [adB_at]
    unfold upv
    by_cases h6 : j = 97
    · rw [if_pos h6, if_neg (by omega), if_neg (by omega), if_neg (by omega), if_neg (by omega), if_neg (by omega), if_pos h6]
    · rw [if_neg h6, if_neg h6]
  rw [e]; exact a'
theorem op_walker {v : Nat → Int32} {nb nw nc : Nat} {m : MM} (h : Rlt v nb nw nc m) (x : Int32) (y : Int32) (z : Int32) : Eq2 (fX6_walker 0 x y z) (fX7_walker 0 x y z) m := by
  have w6_y : ∀ m, fX6_within y 0 3 m = some (inB y 4, m) := fun m => e6_within' y 3 m (by omega)
  have w7_y : ∀ m, fX7_within y 0 3 m = some (inB y 4, m) := fun m => e7_within' y 3 m (by omega)
  have w6_z : ∀ m, fX6_within z 0 1 m = some (inB z 2, m) := fun m => e6_within' z 1 m (by omega)
  have w7_z : ∀ m, fX7_within z 0 1 m = some (inB z 2, m) := fun m => e7_within' z 1 m (by omega)
  cases hg : ((inB x nc) && (inB y 4) && (inB z 2))
  · refine Eq2.bad h ?_ ?_
    · rw [fX6_walker_eq]; unfold fX6_walker_b
      cases g_x : inB x nc <;> cases g_y : inB y 4 <;> cases g_z : inB z 2 <;> first | (simp only [e5_hasCell h.1, w6_y, w6_z, g_x, g_y, g_z, Option.bind_some, bind_eta, bI_0, bI_1, reduceCtorEq, not_true, not_false_eq_true, if_true, if_false]; done) | (rw [g_x, g_y, g_z] at hg; cases hg)
    · intro m1 h1
      rw [fX7_walker_eq]; unfold fX7_walker_b
      cases g_x : inB x nc <;> cases g_y : inB y 4 <;> cases g_z : inB z 2 <;> first | (simp only [e7_isCell' h1, w7_y, w7_z, g_x, g_y, g_z, Option.bind_some, bind_eta, bI_0, bI_1, reduceCtorEq, not_true, not_false_eq_true, if_true, if_false, Bool.and_true, Bool.and_false, Bool.true_and, Bool.false_and]; done) | (rw [g_x, g_y, g_z] at hg; cases hg)
  · simp only [Bool.and_eq_true] at hg
    obtain ⟨⟨g_x, g_y⟩, g_z⟩ := hg
    obtain ⟨hl_c, he_c⟩ := inB_ex g_x
    have hu_c := n_clb x
    have hc_c : ∀ k, k = x.toNatClampNeg → (nI k).toNatClampNeg = k := fun k hk => n_cl (by omega)
    replace hc_c := hc_c _ rfl
    generalize x.toNatClampNeg = c at hl_c he_c hc_c hu_c
    subst he_c
    have hnw := h.1.nw
    have hnb := h.1.nb.2.1
    by_cases hr : nw < 6
    · have p6 : fX6_walker 0 (nI c) y z m = some (nI nw, (mW6 m.1 0 nw (nI c) y z, m.2)) := by
        rw [fX6_walker_eq]; unfold fX6_walker_b
        simp only [e5_hasCell h.1, w6_y, w6_z, g_x, g_y, g_z, hc_c, Option.bind_some, bind_eta, bI_0, bI_1, reduceCtorEq, not_true, not_false_eq_true, if_true, if_false]
        rw [e5_roomW 0 m hnw.2.2 hnw.2.1, decide_eq_true hr]
        simp only [Option.bind_some, bI_0, reduceCtorEq, not_false_eq_true, if_true]
        exact e5_addW 0 (nI c) y z m hnw.2.2 hr
      unfold Eq2
      rw [p6]
      refine Ok.ret ?_
      have L1 : Lv v (mW6 m.1 0 nw (nI c) y z, m.2) := by
        refine Lv_fr' (D := fun c _ _ => c = 4 ∨ c = 5) h.1.2.1 (fun c i k q => ?_) (by unfold Dlv; omega)
        dsimp only [mW6]
        rw [upI_nn (by omega), upI_nn (by omega), upI_nn (by omega), upI_nn (by omega)]
      have e7 : (mW6 m.1 0 nw (nI c) y z) 7 0 10 = nI nw := L1.nw h.1.1
      have p7 : fX7_walker 0 (nI c) y z (mW6 m.1 0 nw (nI c) y z, m.2) = some (nI nw, (mW7 (mW6 m.1 0 nw (nI c) y z) nw (nI c) y z, m.2)) := by
        rw [fX7_walker_eq]; unfold fX7_walker_b
        rw [e7_isCell (nI c) _ (L1.nc h.1.1) (by have := h.1.nc.2.2.1; omega)]
        simp only [g_x, w7_y, g_y, w7_z, g_z, Option.bind_some, bind_eta, bI_0, reduceCtorEq, not_false_eq_true, if_true, if_false]
        rw [e7, if_pos (by rw [show (6 : Int32) = nI 6 from rfl, n_inj (by omega) (by omega)]; omega)]
        exact e7_newWalker (nI c) y z _ e7 hr
      rw [p7]
      refine Ok.ret ⟨rfl, ⟨adW v nw (nI c) y z, nb, nw + 1, nc, ?_⟩, ?_⟩
      · refine Rlt_W h ⟨fun c i k q => ?_, rfl⟩ (Nat.le_refl _) (WF_adW h.1.1 hr g_x g_y g_z) (Lv_adW L1 hr) ?_
        · dsimp only [mW7, mW6]
          unfold DW Dlv at q
          rw [upI_nn (by omega), upI_nn (by omega), upI_nn (by omega), upI_nn (by omega), upI_nn (by omega), upI_nn (by omega), upI_nn (by omega), upI_nn (by omega)]
        · refine RelW_fr' (m := (mW6 m.1 0 nw (nI c) y z, m.2)) (D := fun c _ _ => c = 57 ∨ c = 7) (RelW_adW h.1.2.2.1 hnb hr) (fun c i k q => ?_) (by omega) (by omega) (by omega) (by omega)
          dsimp only [mW7]
          rw [upI_nn (by omega), upI_nn (by omega), upI_nn (by omega), upI_nn (by omega)]
      · funext i k
        dsimp only [mW7, mW6]
        rw [upI_nn (by omega), upI_nn (by omega), upI_nn (by omega), upI_nn (by omega), upI_nn (by omega), upI_nn (by omega), upI_nn (by omega), upI_nn (by omega)]
    · have e6 : nw = 6 := by omega
      refine Eq2.full h ?_ ?_
      · rw [fX6_walker_eq]; unfold fX6_walker_b
        simp only [e5_hasCell h.1, w6_y, w6_z, g_x, g_y, g_z, hc_c, Option.bind_some, bind_eta, bI_0, bI_1, reduceCtorEq, not_true, not_false_eq_true, if_true, if_false]
        rw [e5_roomW 0 m hnw.2.2 hnw.2.1, decide_eq_false hr]
        simp only [Option.bind_some, bI_0, not_true, if_false, bind_eta]
      · intro m1 h1
        rw [fX7_walker_eq]; unfold fX7_walker_b
        simp only [e7_isCell' h1, g_x, w7_y, g_y, w7_z, g_z, Option.bind_some, bind_eta, bI_0, reduceCtorEq, not_false_eq_true, if_true, if_false]
        rw [h1.nw.1, e6, if_neg (fun h => h rfl)]
theorem i10 : ((1 : Int32) = 0) = False := by decide
theorem op_thrown {v : Nat → Int32} {nb nw nc : Nat} {m : MM} (h : Rlt v nb nw nc m) (x : Int32) (y : Int32) (z : Int32) (w : Int32) : Eq2 (fX6_thrown 0 x y z w) (fX7_thrown 0 x y z w) m := by
  have w6_x : ∀ m, fX6_within x 0 5 m = some (inB x 6, m) := fun m => e6_within' x 5 m (by omega)
  have w7_x : ∀ m, fX7_within x 0 5 m = some (inB x 6, m) := fun m => e7_within' x 5 m (by omega)
  have w6_y : ∀ m, fX6_within y 0 9 m = some (inB y 10, m) := fun m => e6_within' y 9 m (by omega)
  have w7_y : ∀ m, fX7_within y 0 9 m = some (inB y 10, m) := fun m => e7_within' y 9 m (by omega)
  cases hg : ((inB x 6) && (inB y 10) && (inB z nc) && (inB w nw))
  · refine Eq2.bad h ?_ ?_
    · rw [fX6_thrown_eq]; unfold fX6_thrown_b
      cases g_x : inB x 6 <;> cases g_y : inB y 10 <;> cases g_z : inB z nc <;> cases g_w : inB w nw <;> first | (simp only [w6_x, e6_isKind, w6_y, e5_hasCell h.1, e5_walkerAt h.1, fX6_thrown_j27, fX6_thrown_j28, i10, g_x, g_y, g_z, g_w, Option.bind_some, bind_eta, bI_0, bI_1, reduceCtorEq, not_true, not_false_eq_true, if_true, if_false]; done) | (rw [g_x, g_y, g_z, g_w] at hg; cases hg)
    · intro m1 h1
      rw [fX7_thrown_eq]; unfold fX7_thrown_b
      cases g_x : inB x 6 <;> cases g_y : inB y 10 <;> cases g_z : inB z nc <;> cases g_w : inB w nw <;> first | (simp only [w7_x, e7_isSuch, w7_y, e7_isCell' h1, e7_isWalker h1, g_x, g_y, g_z, g_w, Option.bind_some, bind_eta, bI_0, bI_1, reduceCtorEq, not_true, not_false_eq_true, if_true, if_false, Bool.and_true, Bool.and_false, Bool.true_and, Bool.false_and]; done) | (rw [g_x, g_y, g_z, g_w] at hg; cases hg)
  · simp only [Bool.and_eq_true] at hg
    obtain ⟨⟨⟨g_x, g_y⟩, g_z⟩, g_w⟩ := hg
    obtain ⟨hl_c, he_c⟩ := inB_ex g_z
    have hu_c := n_clb z
    have hc_c : ∀ k, k = z.toNatClampNeg → (nI k).toNatClampNeg = k := fun k hk => n_cl (by omega)
    replace hc_c := hc_c _ rfl
    generalize z.toNatClampNeg = c at hl_c he_c hc_c hu_c
    subst he_c
    obtain ⟨hl_k, he_k⟩ := inB_ex g_w
    have hu_k := n_clb w
    have hc_k : ∀ k, k = w.toNatClampNeg → (nI k).toNatClampNeg = k := fun k hk => n_cl (by omega)
    replace hc_k := hc_k _ rfl
    generalize w.toNatClampNeg = k at hl_k he_k hc_k hu_k
    subst he_k
    have hnw := h.1.nw
    have hnb := h.1.nb
    by_cases hr : nb < 8
    · have p6 : fX6_thrown 0 x y (nI c) (nI k) m = some (nI nb, (mB6 m.1 0 nb x y (nI c) (nI k), m.2)) := by
        rw [fX6_thrown_eq]; unfold fX6_thrown_b
        simp only [w6_x, e6_isKind, w6_y, e5_hasCell h.1, e5_walkerAt h.1, fX6_thrown_j27, fX6_thrown_j28, i10, g_x, g_y, g_z, g_w, hc_c, hc_k, Option.bind_some, bind_eta, bI_0, bI_1, reduceCtorEq, not_true, not_false_eq_true, if_true, if_false]
        rw [e5_roomB 0 m hnb.2.2 hnb.2.1, decide_eq_true hr]
        simp only [Option.bind_some, bI_0, reduceCtorEq, not_false_eq_true, if_true]
        exact e5_addB 0 x y (nI c) (nI k) m hnb.2.2 hr
      unfold Eq2
      rw [p6]
      refine Ok.ret ?_
      have L1 : Lv v (mB6 m.1 0 nb x y (nI c) (nI k), m.2) := by
        refine Lv_fr' (D := fun c _ _ => c = 0 ∨ c = 5) h.1.2.1 (fun c i k q => ?_) (by unfold Dlv; omega)
        dsimp only [mB6]
        rw [upI_nn (by omega), upI_nn (by omega), upI_nn (by omega), upI_nn (by omega), upI_nn (by omega), upI_nn (by omega)]
      have e7 : (mB6 m.1 0 nb x y (nI c) (nI k)) 7 0 4 = nI nb := L1.nb h.1.1
      have e7' : (mB7 (mB6 m.1 0 nb x y (nI c) (nI k)) nb x y (nI c) (nI k)) 7 0 4 = nI nb := by
        rw [← e7]
        dsimp only [mB7]
        simp only [upI_same, upI_k, upI_c, ne_eq, not_false_eq_true, reduceCtorEq, Nat.reduceEqDiff, Nat.zero_ne_one, Nat.one_ne_zero, and_self]
      have p7 : fX7_thrown 0 x y (nI c) (nI k) (mB6 m.1 0 nb x y (nI c) (nI k), m.2) = some (nI nb, (upI (mB7 (mB6 m.1 0 nb x y (nI c) (nI k)) nb x y (nI c) (nI k)) 7 0 4 (nI (nb + 1)), m.2)) := by
        rw [fX7_thrown_eq]; unfold fX7_thrown_b
        have iw : fX7_isWalker 0 (nI k) (mB6 m.1 0 nb x y (nI c) (nI k), m.2) = some (true, (mB6 m.1 0 nb x y (nI c) (nI k), m.2)) := by
          rw [fX7_isWalker_eq]; unfold fX7_isWalker_b
          rw [L1.nw h.1.1, e7_within (nI k) nw _ (by have := hnw.2.1; omega), g_w]; rfl
        rw [e7_isSuch, g_x, g_y]
        simp only [Option.bind_some, bI_0, Bool.and_true, reduceCtorEq, if_false]
        rw [e7_isCell (nI c) _ (L1.nc h.1.1) (by have := h.1.nc.2.2.1; omega), g_z]
        simp only [Option.bind_some, bI_0, reduceCtorEq, if_false, iw, not_false_eq_true, if_true]
        rw [e7, if_pos (by rw [show (8 : Int32) = nI 8 from rfl, n_inj (by omega) (by omega)]; omega), e7_becomes x y (nI c) (nI k) _ (by omega)]
        simp only [Option.bind_some]
        rw [e7', n_s]
      rw [p7]
      refine Ok.ret ⟨rfl, ⟨adB v nb x y (nI c) (nI k), nb + 1, nw, nc, ?_⟩, ?_⟩
      · refine Rlt_W h ⟨fun c i k q => ?_, rfl⟩ (by omega) (WF_adB h.1.1 hr g_x g_z g_w) (Lv_adB L1 hr) ?_
        · dsimp only [mB7, mB6]
          unfold DW Dlv at q
          rw [upI_nn (by omega), upI_nn (by omega), upI_nn (by omega), upI_nn (by omega), upI_nn (by omega), upI_nn (by omega), upI_nn (by omega), upI_nn (by omega), upI_nn (by omega), upI_nn (by omega), upI_nn (by omega), upI_nn (by omega)]
        · refine RelW_fr' (m := (mB6 m.1 0 nb x y (nI c) (nI k), m.2)) (D := fun c _ _ => (52 ≤ c ∧ c ≤ 56) ∨ c = 7) (RelW_adB h.1.2.2.1 hr hnw.2.1) (fun c i k q => ?_) (by omega) (by omega) (by omega) (by omega)
          dsimp only [mB7]
          rw [upI_nn (by omega), upI_nn (by omega), upI_nn (by omega), upI_nn (by omega), upI_nn (by omega), upI_nn (by omega)]
      · funext i k
        dsimp only [mB7, mB6]
        rw [upI_nn (by omega), upI_nn (by omega), upI_nn (by omega), upI_nn (by omega), upI_nn (by omega), upI_nn (by omega), upI_nn (by omega), upI_nn (by omega), upI_nn (by omega), upI_nn (by omega), upI_nn (by omega), upI_nn (by omega)]
    · have e8 : nb = 8 := by have := hnb.2.1; omega
      refine Eq2.full h ?_ ?_
      · rw [fX6_thrown_eq]; unfold fX6_thrown_b
        simp only [w6_x, e6_isKind, w6_y, e5_hasCell h.1, e5_walkerAt h.1, fX6_thrown_j27, fX6_thrown_j28, i10, g_x, g_y, g_z, g_w, hc_c, hc_k, Option.bind_some, bind_eta, bI_0, bI_1, reduceCtorEq, not_true, not_false_eq_true, if_true, if_false]
        rw [e5_roomB 0 m hnb.2.2 hnb.2.1, decide_eq_false hr]
        simp only [Option.bind_some, bI_0, not_true, if_false, bind_eta]
      · intro m1 h1
        rw [fX7_thrown_eq]; unfold fX7_thrown_b
        simp only [e7_isSuch, e7_isCell' h1, e7_isWalker h1, g_x, g_y, g_z, g_w, Option.bind_some, bind_eta, bI_0, Bool.and_true, reduceCtorEq, not_false_eq_true, if_true, if_false]
        rw [h1.nb.1, e8, if_neg (fun h => h rfl)]
/-! the tape -/
theorem Rlt_T {v : Nat → Int32} {nb nw nc : Nat} {m m' : MM} (h : Rlt v nb nw nc m) (f : FrP (fun c _ k => (c = 2) ∨ c = 45 ∨ c = 58 ∨ (c = 7 ∧ k = 13)) m m') (hT : RelT m') : Rlt v nb nw nc m' := by
  obtain ⟨⟨h1, h2, h3, h4, h5, h6, h8⟩, h7⟩ := h
  exact ⟨⟨h1, Lv_fr' h2 f.1 (by unfold Dlv; omega), RelW_fr' h3 f.1 (by omega) (by omega) (by omega) (by omega), RelS_fr h4 f.1 f.2 (by omega) (by omega) (by omega), hT, RelI_fr h6 f.1 (by omega) (by omega) (by omega) (by omega) (by omega) (by omega) (by omega), RelK_fr h8 f.1 (by omega) (by omega)⟩, RelN_fr h7 f.1 (by omega) (by omega)⟩
theorem op_wipe {v : Nat → Int32} {nb nw nc : Nat} {m : MM} (h : Rlt v nb nw nc m) : Eq2 (fX6_wipe 0) (fX7_wipe 0) m := by
  obtain ⟨tp, t1, t2, t3, t4⟩ := h.1.2.2.2.2.1
  unfold Eq2
  rw [fX6_wipe_eq, fX7_wipe_eq]; unfold fX6_wipe_b fX7_wipe_b
  refine Ok.ret (Ok.ret ⟨?_, ⟨v, nb, nw, nc, Rlt_T h ⟨fun c i k q => ?_, rfl⟩ ⟨0, by omega, ?_, ?_, fun k hk => by omega⟩⟩, ?_⟩)
  · dsimp only
    rw [upI_nn (by omega), t2, t3]
  · dsimp only
    rw [upI_nn (by omega), upI_nn (by omega)]
  · dsimp only
    rw [upI_nn (by omega), upI_same]; rfl
  · dsimp only
    rw [upI_same]; rfl
  · funext i k
    dsimp only
    rw [upI_nn (by omega), upI_nn (by omega)]
theorem op_feed {v : Nat → Int32} {nb nw nc : Nat} {m : MM} (h : Rlt v nb nw nc m) (x : Int32) : Eq2 (fX6_feed 0 x) (fX7_feed 0 x) m := by
  have w6_x : ∀ m, fX6_within x 0 255 m = some (inB x 256, m) := fun m => e6_within' x 255 m (by omega)
  have w7_x : ∀ m, fX7_within x 0 255 m = some (inB x 256, m) := fun m => e7_within' x 255 m (by omega)
  cases hg : (inB x 256)
  · refine Eq2.bad h ?_ ?_
    · rw [fX6_feed_eq]; unfold fX6_feed_b
      cases g_x : inB x 256 <;> first | (simp only [w6_x, g_x, Option.bind_some, bind_eta, bI_0, bI_1, reduceCtorEq, not_true, not_false_eq_true, if_true, if_false]; done) | (rw [g_x] at hg; cases hg)
    · intro m1 h1
      rw [fX7_feed_eq]; unfold fX7_feed_b
      cases g_x : inB x 256 <;> first | (simp only [w7_x, g_x, Option.bind_some, bind_eta, bI_0, bI_1, reduceCtorEq, not_true, not_false_eq_true, if_true, if_false, Bool.and_true, Bool.and_false, Bool.true_and, Bool.false_and]; done) | (rw [g_x] at hg; cases hg)
  · have g_x := hg
    obtain ⟨tp, t1, t2, t3, t4⟩ := h.1.2.2.2.2.1
    have room : fX2_hasRoom 0 m = some (decide (tp < 250), m) := by
      rw [fX2_hasRoom_eq]; unfold fX2_hasRoom_b
      rw [t2]
      by_cases e : tp < 250
      · rw [if_neg (by rw [n_le (by omega) (by omega)]; omega), decide_eq_true e]
      · rw [if_pos (by rw [n_le (by omega) (by omega)]; omega), decide_eq_false e]
    by_cases hr : tp < 250
    · have p6 : fX6_feed 0 x m = some (nI (tp + 1), (upI (upI m.1 45 0 tp x) 2 0 0 (nI (tp + 1)), m.2)) := by
        rw [fX6_feed_eq]; unfold fX6_feed_b
        simp only [w6_x, g_x, Option.bind_some, bind_eta, bI_0, bI_1, reduceCtorEq, not_true, not_false_eq_true, if_true, if_false]
        rw [room, decide_eq_true hr]
        simp only [Option.bind_some, bI_0, reduceCtorEq, not_false_eq_true, if_true]
        rw [fX2_append_eq]; unfold fX2_append_b
        rw [t2, if_neg (n_ge0 (by omega)), if_neg (by rw [n_le (by omega) (by omega)]; omega), inB_t hr (by omega), n_cl (by omega)]
        simp only [cond_true, upI_same, upI_k, upI_c, ne_eq, not_false_eq_true, reduceCtorEq, Nat.reduceEqDiff, Nat.zero_ne_one, Nat.one_ne_zero, and_self, t2, ← n_s]
      unfold Eq2
      rw [p6]
      refine Ok.ret ?_
      have p7 : fX7_feed 0 x (upI (upI m.1 45 0 tp x) 2 0 0 (nI (tp + 1)), m.2) = some (nI (tp + 1), (upI (upI (upI (upI m.1 45 0 tp x) 2 0 0 (nI (tp + 1))) 7 0 13 (nI (tp + 1))) 58 0 tp x, m.2)) := by
        rw [fX7_feed_eq]; unfold fX7_feed_b
        rw [w7_x, g_x]
        simp only [Option.bind_some, bI_0, reduceCtorEq, not_false_eq_true, if_true, upI_same, upI_k, upI_c, ne_eq, not_false_eq_true, reduceCtorEq, Nat.reduceEqDiff, Nat.zero_ne_one, Nat.one_ne_zero, and_self, t3]
        rw [if_pos (by rw [show (250 : Int32) = nI 250 from rfl, n_inj (by omega) (by omega)]; omega), inB_t hr (by omega), n_cl (by omega), ← n_s]
        rfl
      rw [p7]
      refine Ok.ret ⟨rfl, ⟨v, nb, nw, nc, Rlt_T h ⟨fun c i k q => ?_, rfl⟩ ⟨tp + 1, by omega, ?_, ?_, fun k hk => ?_⟩⟩, ?_⟩
      · dsimp only
        rw [upI_nn (by omega), upI_nn (by omega), upI_nn (by omega), upI_nn (by omega)]
      · simp only [upI_same, upI_k, upI_c, ne_eq, not_false_eq_true, reduceCtorEq, Nat.reduceEqDiff, Nat.zero_ne_one, Nat.one_ne_zero, and_self]
      · simp only [upI_same, upI_k, upI_c, ne_eq, not_false_eq_true, reduceCtorEq, Nat.reduceEqDiff, Nat.zero_ne_one, Nat.one_ne_zero, and_self]
      · simp only [upI_same, upI_k, upI_c, ne_eq, not_false_eq_true, reduceCtorEq, Nat.reduceEqDiff, Nat.zero_ne_one, Nat.one_ne_zero, and_self]
        by_cases e : k = tp
        · subst e
          simp only [upI_same, upI_k, upI_c, ne_eq, not_false_eq_true, reduceCtorEq, Nat.reduceEqDiff, Nat.zero_ne_one, Nat.one_ne_zero, and_self, g_x]
        · have := t4 k (by omega)
          simp only [upI_same, upI_k, upI_c, ne_eq, not_false_eq_true, reduceCtorEq, Nat.reduceEqDiff, Nat.zero_ne_one, Nat.one_ne_zero, and_self, e]
          exact this
      · funext i k
        dsimp only
        rw [upI_nn (by omega), upI_nn (by omega), upI_nn (by omega), upI_nn (by omega)]
    · have e : tp = 250 := by omega
      subst e
      refine Eq2.no' h (-1006) 4 (by omega) (by decide) (by decide) ?_ ?_
      · rw [fX6_feed_eq]; unfold fX6_feed_b
        simp only [w6_x, g_x, Option.bind_some, bind_eta, bI_0, bI_1, reduceCtorEq, not_true, not_false_eq_true, if_true, if_false]
        rw [room, decide_eq_false hr]
        simp only [Option.bind_some, bI_0, not_true, if_false, bind_eta]
      · intro m1 h1 f
        rw [fX7_feed_eq]; unfold fX7_feed_b
        rw [w7_x, g_x]
        simp only [Option.bind_some, bI_0, reduceCtorEq, not_false_eq_true, if_true, bind_eta]
        rw [f.1 7 0 13 (by omega), t3, if_neg (fun h => h rfl)]
