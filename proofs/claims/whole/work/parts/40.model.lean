/-! PURE: the reference's days -/
/-- but for the places of D the memories agree -/
def FrP (D : Nat → Nat → Nat → Prop) (m m' : MM) : Prop := (∀ c i k, ¬ D c i k → m'.1 c i k = m.1 c i k) ∧ m'.2 = m.2
theorem FrP.rfl {D : Nat → Nat → Nat → Prop} {m : MM} : FrP D m m := ⟨fun _ _ _ _ => Eq.refl _, Eq.refl _⟩
theorem FrP.trans {D : Nat → Nat → Nat → Prop} {m m1 m2 : MM} (h : FrP D m m1) (h' : FrP D m1 m2) : FrP D m m2 := ⟨fun c i k d => (h'.1 c i k d).trans (h.1 c i k d), h'.2.trans h.2⟩
theorem FrP.mono {D D' : Nat → Nat → Nat → Prop} {m m' : MM} (h : FrP D m m') (k : ∀ c i x, D c i x → D' c i x) : FrP D' m m' := ⟨fun c i x d => h.1 c i x (fun y => d (k c i x y)), h.2⟩
theorem FrP.up {D : Nat → Nat → Nat → Prop} {m m' : MM} (h : FrP D m m') {c i k : Nat} (hd : D c i k) (x : Int32) : FrP D m (upI m'.1 c i k x, m'.2) := by
  refine ⟨fun c' i' k' d => ?_, h.2⟩
  show upI m'.1 c i k x c' i' k' = _
  rw [upI_nn (fun e => d (by rw [e.1, e.2.1, e.2.2]; exact hd))]
  exact h.1 c' i' k' d
def mfl (m : MM) : Int32 → Int32 := fun c => if c < 0 then 3 else if nI 30 ≤ c then 3 else m.1 50 0 c.toNatClampNeg
theorem mfl_in {m : MM} {c : Int32} (h : inB c 30 = true) : mfl m c = m.1 50 0 c.toNatClampNeg := by
  unfold mfl; rw [inB_hi c 30 (by decide), if_pos h]
def mE (m : MM) : Ev := (mfl m, m.1 7 0 0, m.1 51 0 0, m.1 51 0 1)
def mB (m : MM) (b : Nat) : CH := (m.1 54 0 b, m.1 56 0 b)
def mW (m : MM) (w : Nat) : CH := (m.1 57 0 w, m.1 57 0 (12 + w))
theorem e7_within (x : Int32) (n : Nat) (m : MM) (hn : n < 2147483648) : fX7_within x 0 (nI n - 1) m = some (inB x n, m) := by
  rw [fX7_within_eq]; unfold fX7_within_b
  cases n with
  | zero =>
    have : inB x 0 = false := by rw [Bool.eq_false_iff]; intro h; have := (inB_iff x 0).1 h; omega
    rw [this]
    by_cases h : x < 0
    · rw [if_pos h]
    · rw [if_neg h, if_pos]
      rw [n_lt0] at h
      rw [Int32.lt_iff_toInt_lt]
      have : (nI 0 - 1).toInt = -1 := rfl
      omega
  | succ n =>
    rw [n_p1, inB_lo x n hn]
    cases inB x (n + 1) <;> rfl
theorem e7_within' (x : Int32) (n : Nat) (m : MM) (hn : n + 1 < 2147483648) : fX7_within x 0 (nI n) m = some (inB x (n + 1), m) := by
  rw [← n_p1, e7_within x (n + 1) m hn]
theorem e7_isCell {nc : Nat} (x : Int32) (m : MM) (h : m.1 7 0 0 = nI nc) (hn : nc < 2147483648) : fX7_isCell 0 x m = some (inB x nc, m) := by
  rw [fX7_isCell_eq]; unfold fX7_isCell_b; rw [h, e7_within x nc m hn]; rfl
theorem e7_tough (b : Nat) (m : MM) (hb : b < 9) : fX7_tough 0 (nI b) m = some (tgh (m.1 52 0 b) (m.1 53 0 b), m) := by
  rw [fX7_tough_eq]; unfold fX7_tough_b tgh
  rw [inB_t hb (by omega), n_cl (by omega)]
  simp only [cond_true]
  repeat' split
  all_goals rfl
theorem e7_drift (b : Nat) (m : MM) (hb : b < 9) (hc : inB (m.1 54 0 b) 30 = true) : fX7_drift 0 (nI b) m = some (psh (mE m) (m.1 51 0 1) (m.1 52 0 b) (m.1 53 0 b) (m.1 54 0 b), m) := by
  rw [fX7_drift_eq]; unfold fX7_drift_b psh
  have h1 : (mE m).1 (m.1 54 0 b) = m.1 50 0 (m.1 54 0 b).toNatClampNeg := mfl_in hc
  have i0 : inB 0 2 = true := by decide
  have i1 : inB 1 2 = true := by decide
  have c0 : (0 : Int32).toNatClampNeg = 0 := rfl
  have c1 : (1 : Int32).toNatClampNeg = 1 := rfl
  rw [inB_t hb (by omega), n_cl (by omega), hc, h1]
  simp only [cond_true, i0, i1, c0, c1]
  have h2 : (mE m).2.2.1 = m.1 51 0 0 := rfl
  rw [h2]
  by_cases k1 : m.1 52 0 b = 1
  · simp only [k1, if_true]
  · by_cases k2 : m.1 52 0 b = 2
    · simp only [k1, k2, if_true, if_false]
      rfl
    · by_cases k3 : m.1 52 0 b = 3
      · have n31 : ¬ (3 : Int32) = 1 := by decide
        have n32 : ¬ (3 : Int32) = 2 := by decide
        simp only [k3, n31, n32, if_true, if_false]
        by_cases k : m.1 51 0 1 - m.1 51 0 1 / 2 * 2 = 0
        · simp only [k, not_true, if_true, if_false]
        · simp only [k, not_false_eq_true, if_true, if_false]
      · by_cases k4 : m.1 52 0 b = 4
        · have n41 : ¬ (4 : Int32) = 1 := by decide
          have n42 : ¬ (4 : Int32) = 2 := by decide
          have n43 : ¬ (4 : Int32) = 3 := by decide
          simp only [k4, n41, n42, n43, if_true, if_false]
        · simp only [k1, k2, k3, k4, if_false]
def upMB (m : MM) (b : Nat) (s : CH) : MM := (upI (upI m.1 54 0 b s.1) 56 0 b s.2, m.2)
theorem e7_drifts (b : Nat) (m : MM) (hb : b < 9) (hc : inB (m.1 54 0 b) 30 = true) : fX7_drifts 0 (nI b) m = some ((), upMB m b (dft (mE m) (m.1 51 0 1) (m.1 52 0 b) (m.1 53 0 b) (mB m b))) := by
  rw [fX7_drifts_eq]; unfold fX7_drifts_b dft mB
  rw [inB_t hb (by omega), n_cl (by omega)]
  simp only [cond_true]
  have key : ∀ x, upI (upI m.1 54 0 b x) 56 0 b (m.1 56 0 b) = upI m.1 54 0 b x := by
    intro x
    have := upI_id (upI m.1 54 0 b x) 56 0 b
    rw [upI_c (by decide)] at this
    exact this
  by_cases h : m.1 56 0 b = 0
  · rw [if_pos h, if_pos h, e7_drift b m hb hc]
    simp only [Option.bind_some]
    rw [e7_tough b m hb]
    simp only [Option.bind_some]
    by_cases h2 : abI (psh (mE m) (m.1 51 0 1) (m.1 52 0 b) (m.1 53 0 b) (m.1 54 0 b)) ≤ tgh (m.1 52 0 b) (m.1 53 0 b)
    · rw [if_pos h2, if_pos h2]
      unfold upMB
      have := key (mxI 0 (mnI (m.1 7 0 0 - 1) (m.1 54 0 b + psh (mE m) (m.1 51 0 1) (m.1 52 0 b) (m.1 53 0 b) (m.1 54 0 b))))
      rw [h] at this
      show some ((), (upI m.1 54 0 b (mxI 0 (mnI (m.1 7 0 0 - 1) (m.1 54 0 b + psh (mE m) (m.1 51 0 1) (m.1 52 0 b) (m.1 53 0 b) (m.1 54 0 b)))), m.2)) = _
      rw [← this]
      rfl
    · rw [if_neg h2, if_neg h2]
      unfold upMB
      dsimp only
      rw [upI_id]
  · rw [if_neg h, if_neg h]
    unfold upMB
    dsimp only
    rw [upI_id, upI_id]
/-! a walker of the reference -/
def Kok (nc : Nat) (s : CH) : Prop := inB s.1 nc = true ∧ (s.2 = 0 ∨ s.2 = 1)
theorem n_m (a : Nat) : nI (a + 1) + (-1) = nI a := by
  rw [n_s, Int32.add_assoc, show (1 : Int32) + -1 = 0 from by decide, Int32.add_zero]
/-- a step by numbers: way 0, or 1 -/
theorem stp_0 {nc a : Nat} (h : a < nc) (h2 : 2 ≤ nc) (h3 : nc ≤ 1000) : stp (nI nc) (nI a, 0) = if a + 1 = nc then (nI (a - 1), 1) else (nI (a + 1), 0) := by
  obtain ⟨c, rfl⟩ : ∃ c, nc = c + 1 := ⟨nc - 1, by omega⟩
  unfold stp
  dsimp only
  rw [n_p1]
  have n01 : ¬ (0 : Int32) = 1 := by decide
  by_cases e : a + 1 = c + 1
  · rw [if_pos ⟨rfl, by rw [n_le (by omega) (by omega)]; omega⟩, if_pos e]
    obtain ⟨b, rfl⟩ : ∃ b, a = b + 1 := ⟨a - 1, by omega⟩
    rw [n_m]; rfl
  · rw [if_neg (by rw [n_le (by omega) (by omega)]; omega), if_neg (fun h => n01 h.1), if_neg e, if_pos rfl, n_s]
theorem stp_1 {nc a : Nat} (h : a < nc) (h2 : 2 ≤ nc) (h3 : nc ≤ 1000) : stp (nI nc) (nI a, 1) = if a = 0 then (nI 1, 0) else (nI (a - 1), 1) := by
  unfold stp
  dsimp only
  have n10 : ¬ (1 : Int32) = 0 := by decide
  rw [if_neg (fun h => n10 h.1)]
  by_cases e : a = 0
  · subst e
    rw [if_pos ⟨rfl, by decide⟩, if_pos rfl]; rfl
  · obtain ⟨b, rfl⟩ : ∃ b, a = b + 1 := ⟨a - 1, by omega⟩
    have : ¬ ((1 : Int32) = 1 ∧ nI (b + 1) ≤ 0) := by
      intro h
      have h := h.2
      rw [show (0 : Int32) = nI 0 from rfl, n_le (by omega) (by omega)] at h
      omega
    rw [if_neg this, if_neg e, if_neg n10, n_m]; rfl
theorem Kok.ex {nc : Nat} {s : CH} (h : Kok nc s) : ∃ a, a < nc ∧ (s = (nI a, 0) ∨ s = (nI a, 1)) := by
  obtain ⟨h1, h2⟩ := h
  obtain ⟨h3, h4⟩ := inB_ex h1
  refine ⟨_, h3, ?_⟩
  rcases h2 with h2 | h2
  · exact Or.inl (Prod.ext h4 h2)
  · exact Or.inr (Prod.ext h4 h2)
theorem Kok.mk0 {nc a : Nat} (h : a < nc) (h3 : nc ≤ 1000) : Kok nc (nI a, 0) := ⟨inB_t h (by omega), Or.inl rfl⟩
theorem Kok.mk1 {nc a : Nat} (h : a < nc) (h3 : nc ≤ 1000) : Kok nc (nI a, 1) := ⟨inB_t h (by omega), Or.inr rfl⟩
theorem stp_ok {nc : Nat} {s : CH} (h : Kok nc s) (h2 : 2 ≤ nc) (h3 : nc ≤ 1000) : Kok nc (stp (nI nc) s) := by
  obtain ⟨a, ha, e | e⟩ := h.ex
  · rw [e, stp_0 ha h2 h3]
    split
    · exact Kok.mk1 (by omega) h3
    · exact Kok.mk0 (by omega) h3
  · rw [e, stp_1 ha h2 h3]
    split
    · exact Kok.mk0 (by omega) h3
    · exact Kok.mk1 (by omega) h3
theorem stN_ok {nc : Nat} {s : CH} (h : Kok nc s) (h2 : 2 ≤ nc) (h3 : nc ≤ 1000) : ∀ n, Kok nc (stN (nI nc) s n) := by
  intro n
  induction n with
  | zero => exact h
  | succ n ih => exact stp_ok ih h2 h3
theorem simW_ok {nc : Nat} {p : Int32} {s : CH} (h : Kok nc s) (h2 : 2 ≤ nc) (h3 : nc ≤ 1000) : ∀ n, Kok nc (simW (nI nc) p s n) := by
  intro n
  induction n with
  | zero => exact h
  | succ n ih => exact stN_ok ih h2 h3 _
def upMW (m : MM) (w : Nat) (s : CH) : MM := (upI (upI m.1 57 0 w s.1) 57 0 (12 + w) s.2, m.2)
theorem upMW_id (m : MM) (w : Nat) : upMW m w (mW m w) = m := by
  unfold upMW mW; dsimp only; rw [upI_id, upI_id]
theorem mW_up (m : MM) (w : Nat) (s : CH) : mW (upMW m w s) w = s := by
  unfold upMW mW; dsimp only; rw [upI_same, upI_nn (by omega), upI_same]
theorem upMW_up (m : MM) (w : Nat) (s s' : CH) : upMW (upMW m w s) w s' = upMW m w s' := by
  unfold upMW
  refine Prod.ext ?_ rfl
  funext c i k
  unfold upI
  dsimp only
  repeat' split
  all_goals first | rfl | (exfalso; omega)
theorem e7_steps_b (w : Nat) (s : Int32) (m : MM) {nc : Nat} (hw : w < 6) (h : ¬ m.1 57 0 (6 + w) ≤ s) (hn : m.1 7 0 0 = nI nc) (h2 : 2 ≤ nc) (h3 : nc ≤ 1000) (hk : Kok nc (mW m w)) : fX7_steps_b2 0 (nI w) s m = some (Sum.inl (s + 1), upMW m w (stp (nI nc) (mW m w))) := by
  have i6 : (6 : Int32) + nI w = nI (6 + w) := (n_add 6 w).symm
  have i12 : (12 : Int32) + nI w = nI (12 + w) := (n_add 12 w).symm
  have b0 : inB (nI w) 18 = true := inB_t (by omega) (by omega)
  have b6 : inB (nI (6 + w)) 18 = true := inB_t (by omega) (by omega)
  have b12 : inB (nI (12 + w)) 18 = true := inB_t (by omega) (by omega)
  have c0 : (nI w).toNatClampNeg = w := n_cl (by omega)
  have c6 : (nI (6 + w)).toNatClampNeg = 6 + w := n_cl (by omega)
  have c12 : (nI (12 + w)).toNatClampNeg = 12 + w := n_cl (by omega)
  unfold fX7_steps_b2 fX7_steps_j38
  simp only [i6, i12, b0, b6, b12, c0, c6, c12, cond_true]
  rw [if_neg h]
  have n10 : ¬ (1 : Int32) = 0 := by decide
  have b1 : ¬ (1 : Int32) - 0 = 0 := by decide
  have b2 : (1 : Int32) - 1 = 0 := by decide
  have r0 : ∀ x, upI m.1 57 0 (12 + w) x 57 0 w = m.1 57 0 w := fun x => upI_nn (by omega)
  have sw : ∀ x y, upI (upI m.1 57 0 (12 + w) x) 57 0 w y = upI (upI m.1 57 0 w y) 57 0 (12 + w) x := by
    intro x y
    funext c i k
    unfold upI
    repeat' split
    all_goals first | rfl | (exfalso; omega)
  have key : ∀ x, upI (upI m.1 57 0 w x) 57 0 (12 + w) (m.1 57 0 (12 + w)) = upI m.1 57 0 w x := by
    intro x
    have := upI_id (upI m.1 57 0 w x) 57 0 (12 + w)
    rw [upI_nn (by omega)] at this
    exact this
  obtain ⟨a, ha, e | e⟩ := hk.ex
  · have e1 : m.1 57 0 w = nI a := congrArg Prod.fst e
    have e2 : m.1 57 0 (12 + w) = 0 := congrArg Prod.snd e
    rw [e, stp_0 ha h2 h3, e2, if_neg (by simp only [not_true, not_false_eq_true])]
    rw [e1, show nI a + 1 = nI (a + 1) from (n_s a).symm, e7_isCell (nI (a + 1)) m hn (by omega), inB_nn (by omega)]
    simp only [Option.bind_some, bI_0, r0, upI_same, sw]
    by_cases k : a + 1 = nc
    · have : ¬ a + 1 < nc := by omega
      rw [if_pos k]
      simp only [this, decide_false, not_true, b1, not_false_eq_true, if_true, if_false]
      obtain ⟨b, rfl⟩ : ∃ b, a = b + 1 := ⟨a - 1, by omega⟩
      rw [e1, n_m, e2, if_pos b1]; rfl
    · have : a + 1 < nc := by omega
      rw [if_neg k]
      simp only [this, decide_true, not_false_eq_true, if_true, if_false, reduceCtorEq]
      unfold upMW
      rw [← e2, key]
  · have e1 : m.1 57 0 w = nI a := congrArg Prod.fst e
    have e2 : m.1 57 0 (12 + w) = 1 := congrArg Prod.snd e
    rw [e, stp_1 ha h2 h3, e2, if_pos n10]
    rw [e1]
    by_cases k : a = 0
    · subst k
      have hm : inB (nI 0 + -1) nc = false := by
        rw [Bool.eq_false_iff]; intro h; have := (inB_iff _ _).1 h
        have t : (nI 0 + -1).toInt = -1 := rfl
        omega
      rw [e7_isCell _ m hn (by omega), hm, if_pos rfl]
      simp only [Option.bind_some, bI_0, r0, upI_same, sw, b2, not_true, if_false]
      rw [e1, e2, if_neg (by rw [b2]; decide)]; rfl
    · obtain ⟨b, rfl⟩ : ∃ b, a = b + 1 := ⟨a - 1, by omega⟩
      rw [n_m, e7_isCell _ m hn (by omega), inB_t (by omega) (by omega), if_neg k]
      simp only [Option.bind_some, bI_0, not_false_eq_true, if_true, reduceCtorEq]
      unfold upMW
      rw [← e2, key]; rfl
theorem e7_steps (w : Nat) (m : MM) {nc : Nat} (hw : w < 6) (hp : inB (m.1 57 0 (6 + w)) 100 = true) (hn : m.1 7 0 0 = nI nc) (h2 : 2 ≤ nc) (h3 : nc ≤ 1000) (hk : Kok nc (mW m w)) : fX7_steps 0 (nI w) m = some ((), upMW m w (strl (nI nc) (m.1 57 0 (6 + w)) (mW m w))) := by
  rw [fX7_steps_eq]; unfold fX7_steps_b
  obtain ⟨hlt, he⟩ := inB_ex hp
  generalize hP : (m.1 57 0 (6 + w)).toNatClampNeg = P at *
  have hl : Ok (loopF 1000 (fX7_steps_b2 0 (nI w)) 0 m) (fun _ m' => m' = upMW m w (stN (nI nc) (mW m w) P)) := by
    refine Ok.count 0 P (fun i s m' => s = nI i ∧ m' = upMW m w (stN (nI nc) (mW m w) i)) ?_ ?_ (by omega) 1000 (by omega) 0 m ⟨rfl, (upMW_id m w).symm⟩
    · intro i s m' _ hi ⟨e1, e2⟩
      have hq : m'.1 57 0 (6 + w) = nI P := by
        rw [e2, ← he]; unfold upMW; dsimp only; rw [upI_nn (by omega), upI_nn (by omega)]
      have hq2 : m'.1 7 0 0 = nI nc := by
        rw [e2, ← hn]; unfold upMW; simp only [upI_same, upI_k, upI_c, ne_eq, not_false_eq_true, reduceCtorEq, Nat.reduceEqDiff, Nat.zero_ne_one, Nat.one_ne_zero, and_self]
      have hq3 : mW m' w = stN (nI nc) (mW m w) i := by rw [e2, mW_up]
      refine Ok.of (e7_steps_b w s m' hw ?_ hq2 h2 h3 (by rw [hq3]; exact stN_ok hk h2 h3 i)) ?_
      · rw [hq, e1, n_le (by omega) (by omega)]; omega
      · show s + 1 = nI (i + 1) ∧ upMW m' w (stp (nI nc) (mW m' w)) = upMW m w (stp (nI nc) (stN (nI nc) (mW m w) i))
        rw [hq3, e1, n_s, e2, upMW_up]
        exact ⟨rfl, rfl⟩
    · intro s m' ⟨e1, e2⟩
      have hq : m'.1 57 0 (6 + w) = nI P := by
        rw [e2, ← he]; unfold upMW; dsimp only; rw [upI_nn (by omega), upI_nn (by omega)]
      unfold fX7_steps_b2
      rw [show (6 : Int32) + nI w = nI (6 + w) from (n_add 6 w).symm, inB_t (show 6 + w < 18 by omega) (by omega), n_cl (by omega)]
      simp only [cond_true]
      rw [if_pos (by rw [hq, e1, n_le (by omega) (by omega)]; omega)]
      exact Ok.ret e2
  obtain ⟨u, m', e, hm⟩ := hl
  rw [e]
  show some ((), m') = _
  rw [hm]
  unfold strl
  rw [hP]
