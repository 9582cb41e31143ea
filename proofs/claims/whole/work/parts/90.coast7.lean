/-! PURE: coast, what a statement does -/
def nN : Nat → Nat
  | 1 => 3
  | 2 => 4
  | 3 => 2
  | _ => 1
def loN (a nc : Nat) : Int32 := if a = 0 then nI nc else 0
def hiN (a nc nw i : Nat) : Int32 :=
  if a = 0 then 30 else if a = 1 then (if i = 0 then nI nc - 1 else if i = 1 then 3 else 1) else if a = 2 then (if i = 0 then 5 else if i = 1 then 9 else if i = 2 then nI nc - 1 else nI nw - 1) else if a = 3 then (if i = 0 then nI nc - 1 else 6) else if a = 4 then 4 else 999
theorem most6 {a i nc nw : Nat} {m : MM} (ha : a < 6) (hi : i < 4) (h0 : m.1 5 2 0 = nI nc) (h6 : m.1 5 2 6 = nI nw) : fX2_mostOf 2 (nI a) (nI i) m = some (hiN a nc nw i, m) := by
  rw [fX2_mostOf_eq]; unfold fX2_mostOf_b hiN
  rw [h0, h6]
  have ea : ∀ k : Nat, k < 6 → ((nI a = nI k) = (a = k)) := fun k hk => by rw [n_inj (by omega) (by omega)]
  have ei : ∀ k : Nat, k < 6 → ((nI i = nI k) = (i = k)) := fun k hk => by rw [n_inj (by omega) (by omega)]
  have a0 : (nI a = 0) = (a = 0) := ea 0 (by omega)
  have a1 : (nI a = 1) = (a = 1) := ea 1 (by omega)
  have a2 : (nI a = 2) = (a = 2) := ea 2 (by omega)
  have a3 : (nI a = 3) = (a = 3) := ea 3 (by omega)
  have a4 : (nI a = 4) = (a = 4) := ea 4 (by omega)
  have i0 : (nI i = 0) = (i = 0) := ei 0 (by omega)
  have i1 : (nI i = 1) = (i = 1) := ei 1 (by omega)
  have i2 : (nI i = 2) = (i = 2) := ei 2 (by omega)
  simp only [a0, a1, a2, a3, a4, i0, i1, i2]
  clear ea ei a0 a1 a2 a3 a4 i0 i1 i2 h0 h6
  repeat' split
  all_goals first | rfl | (exfalso; omega)
theorem numbers6 {a : Nat} {m : MM} (ha : a < 6) : fX2_numbersOf (nI a) m = some (nI (nN a), m) := by
  rw [fX2_numbersOf_eq]; unfold fX2_numbersOf_b
  have : a = 0 ∨ a = 1 ∨ a = 2 ∨ a = 3 ∨ a = 4 ∨ a = 5 := by omega
  rcases this with e | e | e | e | e | e <;> subst e <;> rfl
/-- rows, walkers, bottles and cells after a statement -/
def ef (a : Nat) (x : Nat → Int32) (v : Nat → Int32) (nb nw nc : Nat) : (Nat → Int32) × Nat × Nat × Nat :=
  if a = 0 then (upv v 93 (x 0), nb, nw, (x 0).toNatClampNeg) else if a = 1 then (adW v nw (x 0) (x 1) (x 2), nb, nw + 1, nc) else if a = 2 then (adB v nb (x 0) (x 1) (x 2) (x 3), nb + 1, nw, nc) else if a = 3 then (upv v (x 0).toNatClampNeg (x 1), nb, nw, nc) else if a = 4 then (upv v 94 (x 0), nb, nw, nc) else (upv v 95 (x 0), nb, nw, nc)
def Dtw : Nat → Nat → Nat → Prop := fun c i _ => ((c = 5 ∨ c = 40) ∧ i = 2) ∨ (c = 0 ∧ 19 ≤ i ∧ i ≤ 26) ∨ (c = 4 ∧ 15 ≤ i ∧ i ≤ 20)
theorem perform6 {a nb nw nc : Nat} {x : Nat → Int32} {v : Nat → Int32} {m : MM} (ha : a < 6) (h : RelW m.1 2 nb nw v) (h97 : v 97 = nI nb) (h98 : v 98 = nI nw) (hb : nb ≤ 8) (hw : nw ≤ 6) (hx : ∀ i, i < nN a → m.1 46 0 i = x i) (g1 : a = 1 → nw < 6) (g2 : a = 2 → nb < 8) (g3 : a = 3 → inB (x 0) 30 = true) : Ok (fX2_perform 0 2 (nI a) m) (fun _ m' => RelW m'.1 2 (ef a x v nb nw nc).2.1 (ef a x v nb nw nc).2.2.1 (ef a x v nb nw nc).1 ∧ FrP Dtw m m') := by
  rw [fX2_perform_eq]; unfold fX2_perform_b
  have c0 : (0 : Int32).toNatClampNeg = 0 := rfl
  have c1 : (1 : Int32).toNatClampNeg = 1 := rfl
  have c2 : (2 : Int32).toNatClampNeg = 2 := rfl
  have c3 : (3 : Int32).toNatClampNeg = 3 := rfl
  have b0 : inB 0 4 = true := by decide
  have b1 : inB 1 4 = true := by decide
  have b2 : inB 2 4 = true := by decide
  have b3 : inB 3 4 = true := by decide
  rw [b0, b1, b2, b3, c0, c1, c2, c3]
  simp only [cond_true]
  have : a = 0 ∨ a = 1 ∨ a = 2 ∨ a = 3 ∨ a = 4 ∨ a = 5 := by omega
  rcases this with e | e | e | e | e | e <;> subst e
  · rw [if_pos (by decide), hx 0 (by decide)]
    exact Ok.ret ⟨RelW_one h hb hw (c := 5) (i := 2) (k := 0) (j := 93) (by unfold loc6; omega) (x 0), FrP.up (m' := m) FrP.rfl (by unfold Dtw; omega) _⟩
  · rw [if_neg (by decide), if_pos (by decide), hx 0 (by decide), hx 1 (by decide), hx 2 (by decide), e5_addW 2 (nw := nw) _ _ _ m (h.2.2.2.2.2.2.1.trans h98) (g1 rfl)]
    refine Ok.ret ⟨RelW_adW h hb (g1 rfl), ⟨fun c i k d => ?_, rfl⟩⟩
    have := g1 rfl
    unfold Dtw at d
    unfold mW6
    dsimp only
    rw [upI_nn (by omega), upI_nn (by omega), upI_nn (by omega), upI_nn (by omega)]
  · rw [if_neg (by decide), if_neg (by decide), if_pos (by decide), hx 0 (by decide), hx 1 (by decide), hx 2 (by decide), hx 3 (by decide), e5_addB 2 (nb := nb) _ _ _ _ m (h.2.2.2.2.2.1.trans h97) (g2 rfl)]
    refine Ok.ret ⟨RelW_adB h (g2 rfl) hw, ⟨fun c i k d => ?_, rfl⟩⟩
    have := g2 rfl
    unfold Dtw at d
    unfold mB6
    dsimp only
    rw [upI_nn (by omega), upI_nn (by omega), upI_nn (by omega), upI_nn (by omega), upI_nn (by omega), upI_nn (by omega)]
  · rw [if_neg (by decide), if_neg (by decide), if_neg (by decide), if_pos (by decide), hx 0 (by decide), hx 1 (by decide), fX5_setFlow_eq]
    unfold fX5_setFlow_b
    obtain ⟨p, q⟩ := inB_ex (g3 rfl)
    have k : ef 3 x v nb nw nc = (upv v (x 0).toNatClampNeg (x 1), nb, nw, nc) := rfl
    rw [k]
    generalize (x 0).toNatClampNeg = c at *
    rw [q, if_neg (n_ge0 (by omega)), if_neg (by rw [n_le (by omega) (by omega)]; omega), inB_t p (by omega), cond_true]
    exact Ok.ret ⟨RelW_one h hb hw (c := 40) (i := 2) (k := c) (j := c) (by unfold loc6; omega) (x 1), FrP.up (m' := m) FrP.rfl (by unfold Dtw; omega) _⟩
  · rw [if_neg (by decide), if_neg (by decide), if_neg (by decide), if_neg (by decide), if_pos (by decide), hx 0 (by decide)]
    exact Ok.ret ⟨RelW_one h hb hw (c := 5) (i := 2) (k := 1) (j := 94) (by unfold loc6; omega) (x 0), FrP.up (m' := m) FrP.rfl (by unfold Dtw; omega) _⟩
  · rw [if_neg (by decide), if_neg (by decide), if_neg (by decide), if_neg (by decide), if_neg (by decide), hx 0 (by decide)]
    exact Ok.ret ⟨RelW_one h hb hw (c := 5) (i := 2) (k := 2) (j := 95) (by unfold loc6; omega) (x 0), FrP.up (m' := m) FrP.rfl (by unfold Dtw; omega) _⟩
