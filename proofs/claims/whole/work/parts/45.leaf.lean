/-! PURE: leaves, refusals -/
theorem bind_eta {α : Type} (r : Option (α × MM)) : (r.bind fun o => some (o.1, o.2)) = r := by cases r <;> rfl
theorem e6_refuse (c : Int32) (k : Nat) (m : MM) (hk : k < 5) (hc : -1002 - c = nI k) : fX6_refuse 0 c m = some (c, (upI m.1 47 0 k (m.1 47 0 k + 1), m.2)) := by
  rw [fX6_refuse_eq]; unfold fX6_refuse_b fX6_refuse_j6
  rw [hc, if_neg (n_ge0 (by omega)), if_neg (by rw [n_le (by omega) (by omega)]; omega), inB_t hk (by omega), n_cl (by omega)]
  rfl
theorem e7_no (c : Int32) (k : Nat) (m : MM) (hk : k < 5) (hc : -1000 - c = nI (2 + k)) : fX7_no 0 c m = some (c, (upI m.1 61 0 (2 + k) (m.1 61 0 (2 + k) + 1), m.2)) := by
  rw [fX7_no_eq]; unfold fX7_no_b fX7_no_j9
  rw [hc, inB_t (show 2 + k < 7 by omega) (by omega), n_cl (by omega)]
  rfl
theorem Eq2.no {F G : MM → Option (Int32 × MM)} {m : MM} {v : Nat → Int32} {nb nw nc : Nat} (h : Rlt v nb nw nc m) (c : Int32) (k : Nat) (hk : k < 5) (hc : -1002 - c = nI k) (hc' : -1000 - c = nI (2 + k)) (hF : F m = fX6_refuse 0 c m) (hG : ∀ m1, Rel0 v nb nw nc m1 → G m1 = fX7_no 0 c m1) : Eq2 F G m := by
  unfold Eq2
  rw [hF, e6_refuse c k m hk hc]
  refine Ok.ret ?_
  have f1 : FrP (fun c _ _ => c = 47) m (upI m.1 47 0 k (m.1 47 0 k + 1), m.2) := FrP.up (m' := m) FrP.rfl rfl _
  have h1 : Rel0 v nb nw nc (upI m.1 47 0 k (m.1 47 0 k + 1), m.2) := Rel0_frW h.1 (f1.mono (fun c i k h => Or.inr (Or.inl h))) (Lv_fr h.1.2.1 f1 (by unfold Dlv; omega)) (fun _ _ => rfl)
  rw [hG _ h1, e7_no c k _ hk hc']
  refine Ok.ret ?_
  have f2 : FrP (fun c _ _ => c = 47 ∨ c = 61) m (upI (upI m.1 47 0 k (m.1 47 0 k + 1)) 61 0 (2 + k) (upI m.1 47 0 k (m.1 47 0 k + 1) 61 0 (2 + k) + 1), m.2) := FrP.up (D := fun c _ _ => c = 47 ∨ c = 61) (m' := (upI m.1 47 0 k (m.1 47 0 k + 1), m.2)) (f1.mono (fun _ _ _ h => Or.inl h)) (Or.inr rfl) _
  have h2 : Rel0 v nb nw nc (upI (upI m.1 47 0 k (m.1 47 0 k + 1)) 61 0 (2 + k) (upI m.1 47 0 k (m.1 47 0 k + 1) 61 0 (2 + k) + 1), m.2) := Rel0_frW h.1 (f2.mono (fun c i k h => Or.inr h)) (Lv_fr h.1.2.1 f2 (by unfold Dlv; omega)) (fun _ _ => rfl)
  refine ⟨rfl, ⟨v, nb, nw, nc, h2, ?_⟩, ?_⟩
  · intro j hj
    have := h.2 j hj
    dsimp only
    by_cases e : j = k
    · subst e
      simp only [upI_same, upI_k, upI_c, ne_eq, not_false_eq_true, reduceCtorEq, Nat.reduceEqDiff, Nat.zero_ne_one, Nat.one_ne_zero, and_self, this]
    · rw [upI_nn (by omega), upI_nn (by omega), upI_nn (by omega), upI_nn (by omega)]; exact this
  · funext i j
    exact f2.1 33 i j (by omega)
theorem Rel0.nb {v : Nat → Int32} {nb nw nc : Nat} {m : MM} (h : Rel0 v nb nw nc m) : m.1 7 0 4 = nI nb ∧ nb ≤ 8 ∧ m.1 5 0 5 = nI nb := by
  have a := h.2.1.2.2.2.2.2.2.2.1
  exact ⟨a.symm.trans h.1.1, h.1.2.1, h.2.2.1.2.2.2.2.2.1.trans h.1.1⟩
theorem Rel0.nw {v : Nat → Int32} {nb nw nc : Nat} {m : MM} (h : Rel0 v nb nw nc m) : m.1 7 0 10 = nI nw ∧ nw ≤ 6 ∧ m.1 5 0 6 = nI nw := by
  have a := h.2.1.2.2.2.2.2.2.2.2.1
  exact ⟨a.symm.trans h.1.2.2.1, h.1.2.2.2.1, h.2.2.1.2.2.2.2.2.2.1.trans h.1.2.2.1⟩
theorem Rel0.nc {v : Nat → Int32} {nb nw nc : Nat} {m : MM} (h : Rel0 v nb nw nc m) : m.1 7 0 0 = nI nc ∧ 16 ≤ nc ∧ nc ≤ 30 ∧ m.1 5 0 0 = nI nc := by
  have a := h.2.1.2.2.2.1
  exact ⟨a.symm.trans h.1.2.2.2.2.1, h.1.2.2.2.2.2.1, h.1.2.2.2.2.2.2.1, h.2.2.1.1.trans h.1.2.2.2.2.1⟩
/-! the reference's tests -/
theorem e7_isBottle {v : Nat → Int32} {nb nw nc : Nat} {m : MM} (h : Rel0 v nb nw nc m) (x : Int32) : fX7_isBottle 0 x m = some (inB x nb, m) := by
  rw [fX7_isBottle_eq]; unfold fX7_isBottle_b; rw [h.nb.1, e7_within x nb m (by have := h.nb.2.1; omega)]; rfl
theorem e7_isWalker {v : Nat → Int32} {nb nw nc : Nat} {m : MM} (h : Rel0 v nb nw nc m) (x : Int32) : fX7_isWalker 0 x m = some (inB x nw, m) := by
  rw [fX7_isWalker_eq]; unfold fX7_isWalker_b; rw [h.nw.1, e7_within x nw m (by have := h.nw.2.1; omega)]; rfl
theorem e7_isCell' {v : Nat → Int32} {nb nw nc : Nat} {m : MM} (h : Rel0 v nb nw nc m) (x : Int32) : fX7_isCell 0 x m = some (inB x nc, m) := e7_isCell x m h.nc.1 (by have := h.nc.2.2.1; omega)
theorem e7_isShelf (x : Int32) (m : MM) : fX7_isShelf x m = some (inB x 8, m) := by
  rw [fX7_isShelf_eq]; unfold fX7_isShelf_b; rw [show (7 : Int32) = nI 7 from rfl, e7_within' x 7 m (by omega)]; rfl
theorem e7_isTime (x : Int32) (m : MM) : fX7_isTime x m = some (inB x 61, m) := by
  rw [fX7_isTime_eq]; unfold fX7_isTime_b; rw [show (60 : Int32) = nI 60 from rfl, e7_within' x 60 m (by omega)]; rfl
theorem e7_isSuch (k a : Int32) (m : MM) : fX7_isSuch k a m = some (inB k 6 && inB a 10, m) := by
  rw [fX7_isSuch_eq]; unfold fX7_isSuch_b
  rw [show (5 : Int32) = nI 5 from rfl, e7_within' k 5 m (by omega)]
  simp only [Option.bind_some, bI_0]
  cases inB k 6
  · rfl
  · rw [show (9 : Int32) = nI 9 from rfl]
    simp only [e7_within' a 9 m (by omega), reduceCtorEq, if_false, Option.bind_some]
    cases inB a 10 <;> rfl
theorem e7_isRow {s : Nat} (m : MM) (hs : s < 8) : fX7_isRow 0 (nI s) m = some (inB (m.1 59 0 s) 5, m) := by
  rw [fX7_isRow_eq]; unfold fX7_isRow_b
  rw [inB_t hs (by omega), n_cl (by omega), show (4 : Int32) = nI 4 from rfl, e7_within' _ 4 m (by omega)]; rfl
/-! the class's -/
theorem e6_within (x : Int32) (n : Nat) (m : MM) (hn : n < 2147483648) : fX6_within x 0 (nI n - 1) m = some (inB x n, m) := by
  rw [fX6_within_eq]; exact (by rw [fX7_within_eq] : fX7_within_b x 0 (nI n - 1) m = fX7_within x 0 (nI n - 1) m).trans (e7_within x n m hn)
theorem e6_within' (x : Int32) (n : Nat) (m : MM) (hn : n + 1 < 2147483648) : fX6_within x 0 (nI n) m = some (inB x (n + 1), m) := by
  rw [← n_p1, e6_within x (n + 1) m hn]
theorem e6_isKind (x : Int32) (m : MM) : fX6_isKind x m = some (inB x 6, m) := by
  rw [fX6_isKind_eq]; unfold fX6_isKind_b; rw [show (5 : Int32) = nI 5 from rfl, e6_within' x 5 m (by omega)]; rfl
theorem e6_shelfAt (x : Int32) (m : MM) : fX6_shelfAt 0 x m = some (if inB x 8 = true then some x.toNatClampNeg else none, m) := by
  rw [fX6_shelfAt_eq]; unfold fX6_shelfAt_b
  rw [inB_hi x 8 (by omega)]
  cases h : inB x 8 <;> rfl
theorem e5_hasCell {v : Nat → Int32} {nb nw nc : Nat} {m : MM} (h : Rel0 v nb nw nc m) (x : Int32) : fX5_hasCell 0 x m = some (inB x nc, m) := by
  rw [fX5_hasCell_eq]; unfold fX5_hasCell_b
  rw [h.nc.2.2.2, inB_hi x nc (by have := h.nc.2.2.1; omega)]
  cases h : inB x nc <;> rfl
theorem e5_bottleAt {v : Nat → Int32} {nb nw nc : Nat} {m : MM} (h : Rel0 v nb nw nc m) (x : Int32) : fX5_bottleAt 0 x m = some (if inB x nb = true then some (1 + x.toNatClampNeg) else none, m) := by
  rw [e_bottleAt 0 x nb m h.nb.2.2 h.nb.2.1]
theorem e5_walkerAt {v : Nat → Int32} {nb nw nc : Nat} {m : MM} (h : Rel0 v nb nw nc m) (x : Int32) : fX5_walkerAt 0 x m = some (if inB x nw = true then some (1 + x.toNatClampNeg) else none, m) := by
  rw [e_walkerAt 0 x nw m h.nw.2.2 h.nw.2.1]
