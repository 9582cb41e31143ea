/-! PURE: a day of the reference -/
def MV (m : MM) (many nw nc : Nat) : Prop := m.1 7 0 10 = nI nw ∧ nw ≤ 6 ∧ m.1 7 0 0 = nI nc ∧ 2 ≤ nc ∧ nc ≤ 30 ∧ (∀ b, b < many → inB (m.1 54 0 b) 30 = true ∧ (m.1 55 0 b = -1 ∨ inB (m.1 55 0 b) 6 = true)) ∧ (∀ w, w < nw → inB (m.1 57 0 (6 + w)) 100 = true ∧ Kok nc (mW m w)) ∧ inB (m.1 51 0 1) 1000 = true
def D1 (n : Nat) : Nat → Nat → Nat → Prop := fun c i k => i = 0 ∧ (c = 54 ∨ c = 56) ∧ k < n
def D2 (n : Nat) : Nat → Nat → Nat → Prop := fun c i k => i = 0 ∧ c = 57 ∧ (k < n ∨ (12 ≤ k ∧ k < 12 + n))
def D3 (n : Nat) : Nat → Nat → Nat → Prop := fun c i k => i = 0 ∧ c = 56 ∧ k < n
def Dps (many nw : Nat) : Nat → Nat → Nat → Prop := fun c i k => i = 0 ∧ (((c = 54 ∨ c = 56) ∧ k < many) ∨ (c = 57 ∧ (k < nw ∨ (12 ≤ k ∧ k < 12 + nw))) ∨ (c = 51 ∧ k = 1))
theorem mE_fr {D : Nat → Nat → Nat → Prop} {m m' : MM} (h : FrP D m m') (h5 : ∀ k, ¬ D 50 0 k) (h7 : ¬ D 7 0 0) (h0 : ¬ D 51 0 0) (h1 : ¬ D 51 0 1) : mE m' = mE m := by
  unfold mE
  have : mfl m' = mfl m := by
    funext c; unfold mfl; rw [h.1 50 0 _ (h5 _)]
  rw [this, h.1 7 0 0 h7, h.1 51 0 0 h0, h.1 51 0 1 h1]
theorem mB_fr {D : Nat → Nat → Nat → Prop} {m m' : MM} (h : FrP D m m') {b : Nat} (h5 : ¬ D 54 0 b) (h6 : ¬ D 56 0 b) : mB m' b = mB m b := by
  unfold mB; rw [h.1 54 0 b h5, h.1 56 0 b h6]
theorem mW_fr {D : Nat → Nat → Nat → Prop} {m m' : MM} (h : FrP D m m') {w : Nat} (h5 : ¬ D 57 0 w) (h6 : ¬ D 57 0 (12 + w)) : mW m' w = mW m w := by
  unfold mW; rw [h.1 57 0 w h5, h.1 57 0 (12 + w) h6]
theorem mB_up (m : MM) (b : Nat) (s : CH) : mB (upMB m b s) b = s := by
  unfold mB upMB; simp only [upI_same, upI_k, upI_c, ne_eq, not_false_eq_true, reduceCtorEq, Nat.reduceEqDiff, Nat.zero_ne_one, Nat.one_ne_zero, and_self]
theorem mB_up_ne {m : MM} {b b' : Nat} {s : CH} (h : b' ≠ b) : mB (upMB m b s) b' = mB m b' := by
  unfold mB upMB; simp only [upI_same, upI_k, upI_c, ne_eq, not_false_eq_true, reduceCtorEq, Nat.reduceEqDiff, Nat.zero_ne_one, Nat.one_ne_zero, and_self, h]
theorem mW_up_ne {m : MM} {w w' : Nat} {s : CH} (h : w' ≠ w) (h6 : w < 6) (h6' : w' < 6) : mW (upMW m w s) w' = mW m w' := by
  unfold mW upMW; dsimp only
  rw [upI_nn (by omega), upI_nn (by omega), upI_nn (by omega), upI_nn (by omega)]
def dft1 (m : MM) (b : Nat) : CH := dft (mE m) (m.1 51 0 1) (m.1 52 0 b) (m.1 53 0 b) (mB m b)
theorem clamp_in {nc : Nat} {x : Int32} (h2 : 1 ≤ nc) (h3 : nc ≤ 30) : inB (mxI 0 (mnI (nI nc - 1) x)) nc = true := by
  obtain ⟨c, rfl⟩ : ∃ c, nc = c + 1 := ⟨nc - 1, by omega⟩
  rw [n_p1]
  have t := n_ti (show c < 2147483648 by omega)
  rw [inB_iff, mxI_ti, mnI_ti, t, z_ti]
  omega
theorem dft_in {e : Ev} {nc : Nat} (hn : e.2.1 = nI nc) (h2 : 1 ≤ nc) (h3 : nc ≤ 30) {today kind a : Int32} {s : CH} (h : inB s.1 30 = true) : inB (dft e today kind a s).1 30 = true := by
  unfold dft
  split
  · split
    · rw [hn]; exact inB_mono (clamp_in h2 h3) h3
    · exact h
  · exact h
theorem passes_1 (many : Nat) (m : MM) {nw nc : Nat} (hm : many ≤ 9) (h : MV m many nw nc) : Ok (loopF 1000 (fX7_passes_b4 0 (nI many) 0) 0 m) (fun _ m' => (∀ b, b < many → mB m' b = dft1 m b) ∧ FrP (D1 many) m m') := by
  obtain ⟨_, _, hn, hn2, hn3, hb, _, _⟩ := h
  refine Ok.count 0 many (fun i s m' => s = nI i ∧ (∀ b, b < i → mB m' b = dft1 m b) ∧ FrP (D1 i) m m') ?_ ?_ (by omega) 1000 (by omega) 0 m ⟨rfl, fun b h => by omega, FrP.rfl⟩
  · intro i s m' _ hi ⟨es, e1, e2⟩
    subst es
    unfold fX7_passes_b4
    have a1 : m'.1 54 0 i = m.1 54 0 i := e2.1 54 0 i (by unfold D1; omega)
    have a2 : mB m' i = mB m i := mB_fr e2 (by unfold D1; omega) (by unfold D1; omega)
    have a3 : mE m' = mE m := mE_fr e2 (by unfold D1; omega) (by unfold D1; omega) (by unfold D1; omega) (by unfold D1; omega)
    rw [if_neg (by rw [n_le (by omega) (by omega)]; omega), e7_drifts i m' (by omega) (by rw [a1]; exact (hb i hi).1)]
    have a4 : dft (mE m') (m'.1 51 0 1) (m'.1 52 0 i) (m'.1 53 0 i) (mB m' i) = dft1 m i := by
      unfold dft1
      rw [a2, a3, e2.1 51 0 1 (by unfold D1; omega), e2.1 52 0 i (by unfold D1; omega), e2.1 53 0 i (by unfold D1; omega)]
    rw [a4]
    refine Ok.ret ⟨(n_s i).symm, ?_, ?_⟩
    · intro b hb'
      by_cases e : b = i
      · rw [e, mB_up]
      · rw [mB_up_ne e]; exact e1 b (by omega)
    · exact FrP.up (FrP.up (e2.mono (by unfold D1; omega)) (by unfold D1; omega) _) (by unfold D1; omega) _
  · intro s m' ⟨es, e1, e2⟩
    unfold fX7_passes_b4
    rw [es, if_pos (by rw [n_le (by omega) (by omega)]; omega)]
    exact Ok.ret ⟨e1, e2⟩
def stl1 (m : MM) (nc w : Nat) : CH := strl (nI nc) (m.1 57 0 (6 + w)) (mW m w)
theorem passes_2 (many : Int32) (m : MM) {nw nc : Nat} (h0 : m.1 7 0 10 = nI nw) (hw : nw ≤ 6) (hn : m.1 7 0 0 = nI nc) (hn2 : 2 ≤ nc) (hn3 : nc ≤ 30) (hk : ∀ w, w < nw → inB (m.1 57 0 (6 + w)) 100 = true ∧ Kok nc (mW m w)) : Ok (loopF 1000 (fX7_passes_b22 0 many 0) 0 m) (fun _ m' => (∀ w, w < nw → mW m' w = stl1 m nc w) ∧ FrP (D2 nw) m m') := by
  refine Ok.count 0 nw (fun i s m' => s = nI i ∧ (∀ w, w < i → mW m' w = stl1 m nc w) ∧ FrP (D2 i) m m') ?_ ?_ (by omega) 1000 (by omega) 0 m ⟨rfl, fun b h => by omega, FrP.rfl⟩
  · intro i s m' _ hi ⟨es, e1, e2⟩
    subst es
    unfold fX7_passes_b22
    have a1 : m'.1 57 0 (6 + i) = m.1 57 0 (6 + i) := e2.1 57 0 _ (by unfold D2; omega)
    have a2 : mW m' i = mW m i := mW_fr e2 (by unfold D2; omega) (by unfold D2; omega)
    rw [e2.1 7 0 10 (by unfold D2; omega), h0, if_neg (by rw [n_le (by omega) (by omega)]; omega), e7_steps i m' (by omega) (by rw [a1]; exact (hk i hi).1) ((e2.1 7 0 0 (by unfold D2; omega)).trans hn) hn2 (by omega) (by rw [a2]; exact (hk i hi).2), a1, a2]
    refine Ok.ret ⟨(n_s i).symm, ?_, ?_⟩
    · intro b hb'
      by_cases e : b = i
      · rw [e, mW_up]; rfl
      · rw [mW_up_ne e (by omega) (by omega)]; exact e1 b (by omega)
    · exact FrP.up (FrP.up (e2.mono (by unfold D2; omega)) (by unfold D2; omega) _) (by unfold D2; omega) _
  · intro s m' ⟨es, e1, e2⟩
    unfold fX7_passes_b22
    rw [es, e2.1 7 0 10 (by unfold D2; omega), h0, if_pos (by rw [n_le (by omega) (by omega)]; omega)]
    exact Ok.ret ⟨e1, e2⟩
/-- where a bottle's one is -/
def fA (m m' : MM) (b : Nat) : Int32 := if m.1 55 0 b = -1 then -1 else m'.1 57 0 (m.1 55 0 b).toNatClampNeg
def cnt (p : Nat → Bool) : Nat → Nat
  | 0 => 0
  | n + 1 => cnt p n + (if p n = true then 1 else 0)
theorem cnt_t {p : Nat → Bool} {n : Nat} (h : p n = true) : cnt p (n + 1) = cnt p n + 1 := by
  show cnt p n + (if p n = true then 1 else 0) = _; rw [if_pos h]
theorem cnt_f {p : Nat → Bool} {n : Nat} (h : ¬ p n = true) : cnt p (n + 1) = cnt p n := by
  show cnt p n + (if p n = true then 1 else 0) = _; rw [if_neg h]; rfl
theorem cnt_le (p : Nat → Bool) (n : Nat) : cnt p n ≤ n := by
  induction n with
  | zero => exact Nat.le_refl _
  | succ n ih => show cnt p n + _ ≤ _; split <;> omega
theorem cnt_congr {p q : Nat → Bool} (n : Nat) (h : ∀ i, i < n → p i = q i) : cnt p n = cnt q n := by
  induction n with
  | zero => rfl
  | succ n ih => show cnt p n + _ = cnt q n + _; rw [h n (by omega), ih (fun i hi => h i (by omega))]
theorem inB_m1 (n : Nat) : inB (-1) n = false := by
  rw [Bool.eq_false_iff]; intro h; have := (inB_iff _ _).1 h
  have t : (-1 : Int32).toInt = -1 := rfl
  omega
theorem passes_3 (many : Nat) (m : MM) (hm : many ≤ 9) (hb : ∀ b, b < many → inB (m.1 54 0 b) 30 = true ∧ (m.1 55 0 b = -1 ∨ inB (m.1 55 0 b) 6 = true)) : Ok (loopF 1000 (fX7_passes_b43 0 (nI many)) (0, 0) m) (fun r m' => r = nI (cnt (fun b => decide ((mB m b).2 = 0 ∧ (fnd (fA m m b) (mB m b)).2 = 1)) many) ∧ (∀ b, b < many → mB m' b = fnd (fA m m b) (mB m b)) ∧ FrP (D3 many) m m') := by
  refine Ok.count 0 many (fun i s m' => s = (nI (cnt (fun b => decide ((mB m b).2 = 0 ∧ (fnd (fA m m b) (mB m b)).2 = 1)) i), nI i) ∧ (∀ b, b < i → mB m' b = fnd (fA m m b) (mB m b)) ∧ FrP (D3 i) m m') ?_ ?_ (by omega) 1000 (by omega) (0, 0) m ⟨rfl, fun b h => by omega, FrP.rfl⟩
  · intro i s m' _ hi ⟨es, e1, e2⟩
    subst es
    have a2 : mB m' i = mB m i := mB_fr e2 (by unfold D3; omega) (by unfold D3; omega)
    have a54 : m'.1 54 0 i = m.1 54 0 i := e2.1 54 0 i (by unfold D3; omega)
    have a55 : m'.1 55 0 i = m.1 55 0 i := e2.1 55 0 i (by unfold D3; omega)
    have a56 : m'.1 56 0 i = m.1 56 0 i := e2.1 56 0 i (by unfold D3; omega)
    have a57 : ∀ k, m'.1 57 0 k = m.1 57 0 k := fun k => e2.1 57 0 k (by unfold D3; omega)
    -- the body's ends
    have stay : fnd (fA m m i) (mB m i) = mB m i → ¬ ((mB m i).2 = 0 ∧ (mB m i).2 = 1) → Ok (some (Sum.inl (nI (cnt (fun b => decide ((mB m b).2 = 0 ∧ (fnd (fA m m b) (mB m b)).2 = 1)) i), nI i + 1), m')) (lpQ (fun s m' => s = (nI (cnt (fun b => decide ((mB m b).2 = 0 ∧ (fnd (fA m m b) (mB m b)).2 = 1)) (i + 1)), nI (i + 1)) ∧ (∀ b, b < i + 1 → mB m' b = fnd (fA m m b) (mB m b)) ∧ FrP (D3 (i + 1)) m m') (fun r m' => r = nI (cnt (fun b => decide ((mB m b).2 = 0 ∧ (fnd (fA m m b) (mB m b)).2 = 1)) many) ∧ (∀ b, b < many → mB m' b = fnd (fA m m b) (mB m b)) ∧ FrP (D3 many) m m')) := by
      intro h h'
      refine Ok.ret ⟨?_, ?_, e2.mono (by unfold D3; omega)⟩
      · have : cnt (fun b => decide ((mB m b).2 = 0 ∧ (fnd (fA m m b) (mB m b)).2 = 1)) (i + 1) = cnt (fun b => decide ((mB m b).2 = 0 ∧ (fnd (fA m m b) (mB m b)).2 = 1)) i := by
          refine cnt_f ?_
          rw [decide_eq_true_iff, h]; exact h'
        rw [this, n_s]
      · intro b hb'
        by_cases e : b = i
        · rw [e, a2, h]
        · exact e1 b (by omega)
    unfold fX7_passes_b43
    dsimp only
    rw [if_neg (by rw [n_le (by omega) (by omega)]; omega), inB_t (show i < 9 by omega) (by omega), n_cl (by omega)]
    simp only [cond_true]
    rw [a54, a55, a56]
    by_cases h0 : m.1 56 0 i = 0
    · rw [if_neg (by rw [h0]; decide)]
      by_cases h1 : m.1 55 0 i = -1
      · rw [if_pos h1]
        refine stay ?_ (fun h => by rw [h.1] at h; exact absurd h.2 (by decide))
        have hne : ¬ (mB m i).1 = -1 := by
          intro h
          have := (hb i hi).1
          have h : m.1 54 0 i = -1 := h
          rw [h, inB_m1] at this; cases this
        unfold fnd fA
        rw [if_pos h1, if_pos (show (mB m i).2 = 0 from h0), if_neg hne]
      · rw [if_neg h1]
        have hw := (hb i hi).2.resolve_left h1
        rw [inB_mono hw (by omega)]
        simp only [cond_true]
        rw [a57]
        by_cases h2 : m.1 54 0 i = m.1 57 0 (m.1 55 0 i).toNatClampNeg
        · rw [if_pos h2]
          have hf : fnd (fA m m i) (mB m i) = (m.1 54 0 i, 1) := by
            unfold fnd fA mB
            dsimp only
            rw [if_neg h1, if_pos h0, if_pos h2]
          refine Ok.ret ⟨?_, ?_, ?_⟩
          · have : cnt (fun b => decide ((mB m b).2 = 0 ∧ (fnd (fA m m b) (mB m b)).2 = 1)) (i + 1) = cnt (fun b => decide ((mB m b).2 = 0 ∧ (fnd (fA m m b) (mB m b)).2 = 1)) i + 1 := by
              refine cnt_t ?_
              rw [decide_eq_true_iff, hf]; exact ⟨h0, rfl⟩
            rw [this, n_s, n_s]
          · intro b hb'
            by_cases e : b = i
            · rw [e, hf]
              unfold mB; simp only [upI_same, upI_k, upI_c, ne_eq, not_false_eq_true, reduceCtorEq, Nat.reduceEqDiff, Nat.zero_ne_one, Nat.one_ne_zero, and_self, a54]
            · rw [← e1 b (by omega)]
              unfold mB; simp only [upI_same, upI_k, upI_c, ne_eq, not_false_eq_true, reduceCtorEq, Nat.reduceEqDiff, Nat.zero_ne_one, Nat.one_ne_zero, and_self, e]
          · exact FrP.up (e2.mono (by unfold D3; omega)) (by unfold D3; omega) _
        · rw [if_neg h2]
          refine stay ?_ (fun h => by rw [h.1] at h; exact absurd h.2 (by decide))
          unfold fnd fA mB
          dsimp only
          rw [if_neg h1, if_neg h2, if_pos h0]
    · rw [if_pos h0]
      refine stay ?_ (fun h => h0 h.1)
      unfold fnd
      exact if_neg h0
  · intro s m' ⟨es, e1, e2⟩
    unfold fX7_passes_b43
    rw [es, if_pos (by rw [n_le (by omega) (by omega)]; omega)]
    exact Ok.ret ⟨rfl, e1, e2⟩
theorem spd_eq (e : Ev) (t k a f : Int32) (s : CH) : fnd f (dft e t k a s) = spd e t k a f s := by
  unfold spd
  by_cases h : s.2 = 0
  · rw [if_pos h]
  · rw [if_neg h]
    have : dft e t k a s = s := by unfold dft; rw [if_neg h]
    rw [this]; unfold fnd; rw [if_neg h]
theorem dft_0 {e : Ev} {t k a : Int32} {s : CH} (h : (dft e t k a s).2 = 0) : s.2 = 0 := by
  by_cases h0 : s.2 = 0
  · exact h0
  · unfold dft at h; rw [if_neg h0] at h; exact absurd h h0
def Pas (many nw nc : Nat) (m m' : MM) (r : Int32) : Prop :=
  (∀ b, b < many → mB m' b = spd (mE m) (m.1 51 0 1) (m.1 52 0 b) (m.1 53 0 b) (fA m m' b) (mB m b)) ∧ (∀ w, w < nw → mW m' w = stl1 m nc w) ∧ m'.1 51 0 1 = mnI 999 (m.1 51 0 1 + 1) ∧ FrP (Dps many nw) m m' ∧ r = nI (cnt (fun b => decide ((mB m b).2 = 0 ∧ (mB m' b).2 = 1)) many)
theorem passes_ok (many : Nat) (m : MM) {nw nc : Nat} (hm : many ≤ 9) (h : MV m many nw nc) : Ok (fX7_passes 0 (nI many) m) (fun r m' => Pas many nw nc m m' r) := by
  rw [fX7_passes_eq]; unfold fX7_passes_b
  have h' := h
  obtain ⟨v1, v2, v3, v4, v5, v6, v7, v8⟩ := h
  refine (passes_1 many m hm h').bind ?_
  intro _ m1 ⟨p1, p2⟩
  dsimp only
  have g7 : ∀ k, m1.1 7 0 k = m.1 7 0 k := fun k => p2.1 7 0 k (by unfold D1; omega)
  have g57 : ∀ k, m1.1 57 0 k = m.1 57 0 k := fun k => p2.1 57 0 k (by unfold D1; omega)
  have g55 : ∀ k, m1.1 55 0 k = m.1 55 0 k := fun k => p2.1 55 0 k (by unfold D1; omega)
  have gW : ∀ w, mW m1 w = mW m w := fun w => by unfold mW; rw [g57, g57]
  refine (passes_2 0 m1 ((g7 10).trans v1) v2 ((g7 0).trans v3) v4 v5 (fun w hw => by rw [g57, gW]; exact v7 w hw)).bind ?_
  intro _ m2 ⟨q1, q2⟩
  dsimp only
  have k54 : ∀ k, m2.1 54 0 k = m1.1 54 0 k := fun k => q2.1 54 0 k (by unfold D2; omega)
  have k55 : ∀ k, m2.1 55 0 k = m.1 55 0 k := fun k => (q2.1 55 0 k (by unfold D2; omega)).trans (g55 k)
  have k56 : ∀ k, m2.1 56 0 k = m1.1 56 0 k := fun k => q2.1 56 0 k (by unfold D2; omega)
  have kB : ∀ b, b < many → mB m2 b = dft1 m b := fun b hb => by rw [← p1 b hb]; unfold mB; rw [k54, k56]
  refine (passes_3 many m2 hm (fun b hb => ⟨?_, by rw [k55]; exact (v6 b hb).2⟩)).bind ?_
  · have : m2.1 54 0 b = (dft1 m b).1 := congrArg Prod.fst (kB b hb)
    rw [this]
    exact dft_in v3 (by omega) v5 (v6 b hb).1
  intro r m3 ⟨r1, r2, r3⟩
  dsimp only
  have l57 : ∀ k, m3.1 57 0 k = m2.1 57 0 k := fun k => r3.1 57 0 k (by unfold D3; omega)
  have l51 : m3.1 51 0 1 = m.1 51 0 1 := (r3.1 51 0 1 (by unfold D3; omega)).trans ((q2.1 51 0 1 (by unfold D2; omega)).trans (p2.1 51 0 1 (by unfold D1; omega)))
  have fr : FrP (Dps many nw) m m3 := (p2.mono (by unfold D1 Dps; omega)).trans ((q2.mono (by unfold D2 Dps; omega)).trans (r3.mono (by unfold D3 Dps; omega)))
  have i1 : inB 1 2 = true := by decide
  have c1 : (1 : Int32).toNatClampNeg = 1 := rfl
  rw [i1, c1, l51]
  simp only [cond_true]
  have hd := (inB_iff _ _).1 v8
  have key : ∀ m4 : MM, m4.1 51 0 1 = mnI 999 (m.1 51 0 1 + 1) → (∀ c k, ¬ (c = 51 ∧ k = 1) → m4.1 c 0 k = m3.1 c 0 k) → FrP (Dps many nw) m m4 → Pas many nw nc m m4 r := by
    intro m4 a1 a2 a3
    have b2 : ∀ b, b < many → mB m4 b = spd (mE m) (m.1 51 0 1) (m.1 52 0 b) (m.1 53 0 b) (fA m m4 b) (mB m b) := by
      intro b hb
      rw [← spd_eq]
      have e1 : mB m4 b = mB m3 b := by unfold mB; rw [a2 54 b (by omega), a2 56 b (by omega)]
      have e2 : fA m m4 b = fA m2 m2 b := by
        unfold fA; rw [k55, a2 57 _ (by omega), l57]
      rw [e1, e2, r2 b hb, kB b hb]; rfl
    refine ⟨b2, ?_, a1, a3, ?_⟩
    · intro w hw
      have e1 : mW m4 w = mW m2 w := by unfold mW; rw [a2 57 _ (by omega), a2 57 _ (by omega), l57, l57]
      rw [e1, q1 w hw]
      unfold stl1
      rw [g57, gW]
    · rw [r1]
      refine congrArg nI (cnt_congr many ?_)
      intro b hb
      have e1 : mB m4 b = mB m3 b := by unfold mB; rw [a2 54 b (by omega), a2 56 b (by omega)]
      rw [e1, r2 b hb, Bool.eq_iff_iff, decide_eq_true_iff, decide_eq_true_iff]
      constructor
      · intro ⟨x, y⟩
        rw [kB b hb] at x
        exact ⟨dft_0 x, y⟩
      · intro ⟨x, y⟩
        refine ⟨?_, y⟩
        rw [kB b hb] at y ⊢
        unfold fnd at y
        by_cases e : (dft1 m b).2 = 0
        · exact e
        · rw [if_neg e] at y
          unfold dft1 dft at y
          rw [if_pos x] at y
          split at y
          · exact absurd y (show ¬ (0 : Int32) = 1 by decide)
          · exact absurd y (show ¬ (2 : Int32) = 1 by decide)
  by_cases h9 : 999 ≤ m.1 51 0 1
  · rw [if_pos h9]
    refine Ok.ret (key m3 ?_ (fun _ _ _ => rfl) fr)
    rw [l51, ← Int32.toInt_inj, mnI_ti]
    rw [Int32.le_iff_toInt_le] at h9
    have t : (999 : Int32).toInt = 999 := rfl
    have u : (m.1 51 0 1).toInt = 999 := by omega
    have : m.1 51 0 1 = 999 := by rw [← Int32.toInt_inj]; omega
    rw [this]; rfl
  · rw [if_neg h9]
    refine Ok.ret (key _ ?_ ?_ (FrP.up fr (by unfold Dps; omega) _))
    · simp only [upI_same, upI_k, upI_c, ne_eq, not_false_eq_true, reduceCtorEq, Nat.reduceEqDiff, Nat.zero_ne_one, Nat.one_ne_zero, and_self]
      rw [← Int32.toInt_inj, mnI_ti]
      rw [Int32.le_iff_toInt_le] at h9
      have t : (999 : Int32).toInt = 999 := rfl
      obtain ⟨a, ha⟩ := inB_ex v8
      rw [ha] at h9 ⊢
      rw [← n_s, n_ti (by omega), t]
      rw [n_ti (by omega)] at h9
      split <;> omega
    · intro c k h
      exact upI_nn (by omega)
/-! many days -/
def fM (m : MM) (nc b : Nat) : Nat → Int32 := if m.1 55 0 b = -1 then fun _ => -1 else fun d => (simW (nI nc) (m.1 57 0 (6 + (m.1 55 0 b).toNatClampNeg)) (mW m (m.1 55 0 b).toNatClampNeg) d).1
def simM (m : MM) (nc b d : Nat) : CH := simB (mE m) (m.1 52 0 b) (m.1 53 0 b) (fM m nc b) (mB m b) d
/-- so many days behind m0 -/
def SimM (many nw nc : Nat) (m0 : MM) (i : Nat) (m : MM) : Prop :=
  (∀ b, b < many → (m0.1 55 0 b = -1 ∨ inB (m0.1 55 0 b) nw = true) → mB m b = simM m0 nc b i) ∧ (∀ w, w < nw → mW m w = simW (nI nc) (m0.1 57 0 (6 + w)) (mW m0 w) i) ∧ m.1 51 0 1 = dyd (mE m0) i ∧ FrP (Dps many nw) m0 m ∧ MV m0 many nw nc ∧ MV m many nw nc
theorem SimM.begin {many nw nc : Nat} {m0 : MM} (h : MV m0 many nw nc) : SimM many nw nc m0 0 m0 := by
  refine ⟨fun b _ _ => rfl, fun w _ => rfl, ?_, FrP.rfl, h, h⟩
  obtain ⟨a, e⟩ := inB_ex h.2.2.2.2.2.2.2
  have t : (999 : Int32).toInt = 999 := rfl
  show _ = mnI 999 (m0.1 51 0 1 + nI 0)
  rw [e, ← n_add, Nat.add_zero, ← Int32.toInt_inj, mnI_ti, n_ti (by omega), t]
  split <;> omega
theorem dyd_succ {e : Ev} (h : inB e.2.2.2 1000 = true) (i : Nat) (hi : i < 1000) : mnI 999 (dyd e i + 1) = dyd e (i + 1) := by
  unfold dyd
  obtain ⟨a, ha⟩ := inB_ex h
  have t : (999 : Int32).toInt = 999 := rfl
  generalize e.2.2.2.toNatClampNeg = x at *
  rw [ha, ← n_add, ← n_add]
  have k : mnI 999 (nI (x + i)) = nI (if x + i < 999 then x + i else 999) := by
    rw [← Int32.toInt_inj, mnI_ti, n_ti (by omega), t]
    split
    · rw [if_pos (by omega), n_ti (by omega)]
    · rw [if_neg (by omega)]; rfl
  rw [k, ← n_s, ← Int32.toInt_inj, mnI_ti, mnI_ti, n_ti (by split <;> omega), t, n_ti (by omega)]
  split <;> split <;> first | omega | (split <;> omega)
theorem spd_congr {e e' : Ev} (h1 : e.1 = e'.1) (h2 : e.2.1 = e'.2.1) (h3 : e.2.2.1 = e'.2.2.1) (t k a f : Int32) (s : CH) : spd e t k a f s = spd e' t k a f s := by
  obtain ⟨x, y, z, u⟩ := e
  obtain ⟨x', y', z', u'⟩ := e'
  dsimp only at h1 h2 h3
  subst h1 h2 h3
  rfl
theorem spd_in {e : Ev} {nc : Nat} (hn : e.2.1 = nI nc) (h2 : 1 ≤ nc) (h3 : nc ≤ 30) {today kind a f : Int32} {s : CH} (h : inB s.1 30 = true) : inB (spd e today kind a f s).1 30 = true := by
  rw [← spd_eq]
  have := dft_in hn h2 h3 (today := today) (kind := kind) (a := a) h
  unfold fnd
  split
  · split
    · exact this
    · exact this
  · exact this
theorem mn_day {x : Int32} (h : 0 ≤ x.toInt) : inB (mnI 999 x) 1000 = true := by
  have t : (999 : Int32).toInt = 999 := rfl
  rw [inB_iff, mnI_ti, t]
  split <;> omega
theorem SimM.step {many nw nc : Nat} {m0 m : MM} {i : Nat} (hm : many ≤ 9) (hi : i < 1000) (h : SimM many nw nc m0 i m) : Ok (fX7_passes 0 (nI many) m) (fun r m' => SimM many nw nc m0 (i + 1) m' ∧ r = nI (cnt (fun b => decide ((mB m b).2 = 0 ∧ (mB m' b).2 = 1)) many) ∧ FrP (Dps many nw) m m') := by
  obtain ⟨s1, s2, s3, s4, s50, s5⟩ := h
  have s5' := s5
  refine (passes_ok many m hm s5).mono ?_
  obtain ⟨v1, v2, v3, v4, v5, v6, v7, v8⟩ := s5
  intro r m' ⟨p1, p2, p3, p4, p5⟩
  have z7 : m.1 7 0 0 = m0.1 7 0 0 := s4.1 7 0 0 (by unfold Dps; omega)
  have q2 : ∀ w, w < nw → mW m' w = simW (nI nc) (m0.1 57 0 (6 + w)) (mW m0 w) (i + 1) := by
    intro w hw
    rw [p2 w hw]
    unfold stl1
    rw [s2 w hw, s4.1 57 0 (6 + w) (by unfold Dps; omega)]
    rfl
  have e1 : ∀ t k a f s, spd (mE m) t k a f s = spd (mE m0) t k a f s := by
    intro t k a f s
    refine spd_congr ?_ z7 (s4.1 51 0 0 (by unfold Dps; omega)) t k a f s
    show mfl m = mfl m0
    funext c; unfold mfl; rw [s4.1 50 0 _ (by unfold Dps; omega)]
  refine ⟨⟨?_, q2, ?_, s4.trans p4, s50, ?_⟩, p5, p4⟩
  · intro b hb hw
    rw [p1 b hb, s1 b hb hw, e1, s3, s4.1 52 0 b (by unfold Dps; omega), s4.1 53 0 b (by unfold Dps; omega)]
    have : fA m m' b = fM m0 nc b (i + 1) := by
      unfold fA fM
      rw [s4.1 55 0 b (by unfold Dps; omega)]
      by_cases h1 : m0.1 55 0 b = -1
      · rw [if_pos h1, if_pos h1]
      · rw [if_neg h1, if_neg h1]
        obtain ⟨h2, h3⟩ := inB_ex (hw.resolve_left h1)
        exact congrArg Prod.fst (q2 _ h2)
    rw [this]
    rfl
  · rw [p3, s3]
    exact dyd_succ s50.2.2.2.2.2.2.2 i hi
  · refine ⟨(p4.1 7 0 10 (by unfold Dps; omega)).trans v1, v2, (p4.1 7 0 0 (by unfold Dps; omega)).trans v3, v4, v5, ?_, ?_, ?_⟩
    · intro b hb
      refine ⟨?_, by rw [p4.1 55 0 b (by unfold Dps; omega)]; exact (v6 b hb).2⟩
      have : m'.1 54 0 b = (mB m' b).1 := rfl
      rw [this, p1 b hb]
      exact spd_in v3 (by omega) v5 (v6 b hb).1
    · intro w hw
      refine ⟨by rw [p4.1 57 0 (6 + w) (by unfold Dps; omega)]; exact (v7 w hw).1, ?_⟩
      rw [p2 w hw]
      exact stN_ok (v7 w hw).2 v4 (by omega) _
    · rw [p3]
      obtain ⟨a, ha⟩ := inB_ex v8
      refine mn_day ?_
      rw [ha, ← n_s, n_ti (by omega)]; omega
