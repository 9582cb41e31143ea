/-! PURE: days by the row of numbers -/
def vfl (v : Nat → Int32) : Int32 → Int32 := fun c => if c < 0 then 3 else if nI 30 ≤ c then 3 else v c.toNatClampNeg
theorem vfl_in {v : Nat → Int32} {c : Int32} (h : inB c 30 = true) : vfl v c = v c.toNatClampNeg := by
  unfold vfl; rw [inB_hi c 30 (by decide), if_pos h]
def vE (v : Nat → Int32) : Ev := (vfl v, v 93, v 94, v 95)
def vB (v : Nat → Int32) (b : Nat) : CH := (v (48 + b), v (66 + b))
def vW (v : Nat → Int32) (k : Nat) : CH := (v (75 + k), v (87 + k))
/-- a walker behind so many days -/
def wlk (v : Nat → Int32) (k d : Nat) : CH := simW (v 93) (v (81 + k)) (vW v k) d
/-- whom a bottle meets -/
def fVv (v : Nat → Int32) (b : Nat) : Nat → Int32 := if v (57 + b) = -1 then fun _ => -1 else fun d => (wlk v (v (57 + b)).toNatClampNeg d).1
def simV (v : Nat → Int32) (b d : Nat) : CH := simB (vE v) (v (30 + b)) (v (39 + b)) (fVv v b) (vB v b) d
/-- what the days need of the numbers: so many bottles looked at, walkers, cells -/
def WFm (v : Nat → Int32) (many nw nc : Nat) : Prop := v 98 = nI nw ∧ nw ≤ 6 ∧ v 93 = nI nc ∧ 2 ≤ nc ∧ nc ≤ 30 ∧ (∀ b, b < many → inB (v (48 + b)) 30 = true ∧ (v (57 + b) = -1 ∨ inB (v (57 + b)) 6 = true)) ∧ (∀ w, w < nw → inB (v (81 + w)) 100 = true ∧ Kok nc (vW v w)) ∧ inB (v 95) 1000 = true
theorem Lv.W {v : Nat → Int32} {m : MM} (h : Lv v m) {w : Nat} (hw : w < 6) : mW m w = vW v w ∧ m.1 57 0 (6 + w) = v (81 + w) := by
  have a := h.2.2.1
  have e1 := a w (by omega)
  have e2 := a (12 + w) (by omega)
  have e3 := a (6 + w) (by omega)
  rw [show 75 + (12 + w) = 87 + w by omega] at e2
  rw [show 75 + (6 + w) = 81 + w by omega] at e3
  refine ⟨?_, e3.symm⟩
  unfold mW vW; rw [e1, e2]
theorem Lv.B {v : Nat → Int32} {m : MM} (h : Lv v m) {b : Nat} (hb : b < 9) : mB m b = vB v b := by
  obtain ⟨_, _, a, _, c⟩ := h.2.1 b hb
  unfold mB vB; rw [a, c]
theorem Lv.E {v : Nat → Int32} {m : MM} (h : Lv v m) : mE m = vE v := by
  have e : mfl m = vfl v := by
    funext c
    by_cases hc : inB c 30 = true
    · rw [mfl_in hc, vfl_in hc]
      exact (h.1 _ (inB_ex hc).1).symm
    · unfold mfl vfl
      rw [inB_hi c 30 (by decide), inB_hi c 30 (by decide), if_neg hc, if_neg hc]
  obtain ⟨_, _, _, a, b, c, _⟩ := h
  unfold mE vE; rw [e, a, b, c]
theorem Lv.mv {v : Nat → Int32} {m : MM} (h : Lv v m) {many nw nc : Nat} (hm : many ≤ 9) (w : WFm v many nw nc) : MV m many nw nc := by
  obtain ⟨w1, w2, w3, w4, w5, w6, w7, w8⟩ := w
  have h' := h
  obtain ⟨a1, a2, a3, a4, a5, a6, a7, a8, a9, a10⟩ := h
  refine ⟨a9.symm.trans w1, w2, a4.symm.trans w3, w4, w5, ?_, ?_, by rw [← a6]; exact w8⟩
  · intro b hb
    obtain ⟨_, _, c1, c2, _⟩ := a2 b (by omega)
    rw [← c1, ← c2]; exact w6 b hb
  · intro w hw
    obtain ⟨e1, e2⟩ := h'.W (show w < 6 by omega)
    rw [e1, e2]; exact w7 w hw
theorem Lv.sim {v : Nat → Int32} {m : MM} (h : Lv v m) {nc b : Nat} (hn : v 93 = nI nc) (hb : b < 9) (hw : v (57 + b) = -1 ∨ inB (v (57 + b)) 6 = true) (d : Nat) : simM m nc b d = simV v b d := by
  unfold simM simV
  obtain ⟨x1, x2, _, x4, _⟩ := h.2.1 b hb
  have : fM m nc b = fVv v b := by
    unfold fM fVv wlk
    rw [← x4]
    by_cases e : v (57 + b) = -1
    · rw [if_pos e, if_pos e]
    · rw [if_neg e, if_neg e]
      obtain ⟨y, _⟩ := inB_ex (hw.resolve_left e)
      obtain ⟨e1, e2⟩ := h.W y
      rw [e1, e2, hn]
  rw [this, h.E, h.B hb, x1, x2]
theorem SimM.B {v : Nat → Int32} {many nw nc i : Nat} {m0 m : MM} (h : SimM many nw nc m0 i m) (hL : Lv v m0) (hw : WFm v many nw nc) {b : Nat} (hm : many ≤ 9) (hb : b < many) (hx : v (57 + b) = -1 ∨ inB (v (57 + b)) nw = true) : m.1 54 0 b = (simV v b i).1 ∧ m.1 56 0 b = (simV v b i).2 := by
  obtain ⟨_, _, _, x4, _⟩ := hL.2.1 b (by omega)
  have e := h.1 b hb (by rw [← x4]; exact hx)
  rw [hL.sim hw.2.2.1 (by omega) (hx.imp id (fun z => inB_mono z hw.2.1)) i] at e
  exact ⟨congrArg Prod.fst e, congrArg Prod.snd e⟩
theorem SimM.W {v : Nat → Int32} {many nw nc i : Nat} {m0 m : MM} (h : SimM many nw nc m0 i m) (hL : Lv v m0) (hw : WFm v many nw nc) {w : Nat} (hb : w < nw) : m.1 57 0 w = (wlk v w i).1 ∧ m.1 57 0 (12 + w) = (wlk v w i).2 := by
  have h6 : w < 6 := by have := hw.2.1; omega
  have e := h.2.1 w hb
  obtain ⟨e1, e2⟩ := hL.W h6
  rw [e1, e2] at e
  have e : mW m w = wlk v w i := by rw [e]; unfold wlk; rw [hw.2.2.1]
  exact ⟨congrArg Prod.fst e, congrArg Prod.snd e⟩
theorem SimM.fr {many nw nc i : Nat} {m0 m : MM} (h : SimM many nw nc m0 i m) (hm : many ≤ 9) (hw : nw ≤ 6) : FrP Dlv m0 m := h.2.2.2.1.mono (by unfold Dps Dlv; omega)
/-- a search: for so many days, as long as nothing is found -/
theorem Ok.find {f : Int32 × Int32 → MM → Option (((Int32 × Int32) ⊕ Int32) × MM)} (a b : Nat) (p : Nat → Bool) (S : Nat → MM → Prop) (hb : b < 1000)
    (h : ∀ i m, a ≤ i → i < b → S i m → Ok (f (-1, nI i) m) (fun o m' => o = Sum.inl (if p i = true then nI i else -1, nI (i + 1)) ∧ S (i + 1) m'))
    (hx : ∀ s m, (¬ s.1 = -1 ∨ s.2 = nI b) → f s m = some (Sum.inr s.1, m)) (hab : a ≤ b) (m : MM) (h0 : S a m) : Ok (loopF 1000 f (-1, nI a) m) (fun r m' => r = fst1 p (b - a) a ∧ ∃ i, S i m') := by
  refine Ok.loop (fun k s m => ∃ i, a ≤ i ∧ i ≤ b ∧ k = b - i ∧ s.2 = nI i ∧ S i m ∧ ((s.1 = -1 ∧ ∀ d, a ≤ d → d < i → p d = false) ∨ (∃ d, a ≤ d ∧ d < i ∧ s.1 = nI d ∧ p d = true ∧ ∀ e, a ≤ e → e < d → p e = false))) ?_ 1000 _ m (b - a) (by omega) ⟨a, Nat.le_refl _, hab, rfl, rfl, h0, Or.inl ⟨rfl, fun d h1 h2 => by omega⟩⟩
  intro k s m ⟨i, h1, h2, h3, h4, h5, h6⟩
  obtain ⟨s1, s2⟩ := s
  dsimp only at h4 h6
  subst h4
  rcases h6 with ⟨h6, h7⟩ | ⟨d, h6, h7, h8, h9, h10⟩
  · subst h6
    by_cases e : i = b
    · subst e
      rw [hx _ m (Or.inr rfl)]
      exact Ok.ret ⟨(fst1_none _ _ (fun x y z => h7 x y (by omega))).symm, i, h5⟩
    · refine (h i m h1 (by omega) h5).mono ?_
      intro o m' ⟨x, y⟩
      rw [x]
      refine ⟨b - (i + 1), by omega, i + 1, by omega, by omega, rfl, rfl, y, ?_⟩
      by_cases hp : p i = true
      · exact Or.inr ⟨i, h1, by omega, if_pos hp, hp, h7⟩
      · refine Or.inl ⟨if_neg hp, fun d h8 h9 => ?_⟩
        by_cases ed : d = i
        · rw [ed]; exact Bool.eq_false_iff.2 hp
        · exact h7 d h8 (by omega)
  · have : ¬ s1 = -1 := by
      rw [h8]; intro q; exact (n_m1 d (by omega)).1 q
    rw [hx _ m (Or.inl this)]
    exact Ok.ret ⟨by rw [fst1_some _ _ d h10 h6 (by omega) h9]; exact h8, i, h5⟩
theorem nI60 : (60 : Int32) = nI 60 := rfl
theorem whenSo_ok {v : Nat → Int32} {many nw nc : Nat} (b : Nat) (so : Int32) (m : MM) (hL : Lv v m) (hm : many ≤ 9) (hw : WFm v many nw nc) (hb : b < many) (hx : v (57 + b) = -1 ∨ inB (v (57 + b)) nw = true) :
    Ok (fX7_whenSo 0 (nI b) so (nI many) m) (fun r m' => r = fst1 (fun d => decide ((simV v b d).2 = so)) 61 0 ∧ FrP (Dto 2) m m') := by
  rw [fX7_whenSo_eq]; unfold fX7_whenSo_b
  refine (keep_ok 2 m).bind ?_
  intro _ m1 ⟨k1, k2⟩
  have hL1 : Lv v m1 := Lv_fr hL k2 (by unfold Dlv Dto; omega)
  refine (Ok.find 0 61 (fun d => decide ((simV v b d).2 = so)) (fun i m' => SimM many nw nc m1 (i - 1) m') (by omega) ?_ ?_ (by omega) m1 (SimM.begin (hL1.mv hm hw))).bind ?_
  · intro i m' _ hi hS
    unfold fX7_whenSo_b14
    dsimp only
    rw [if_neg (by rw [nI60, n_lt (by omega) (by omega)]; omega), if_neg (by decide)]
    have fin : ∀ m', SimM many nw nc m1 i m' → Ok (bif inB (nI b) 9 then (if ¬ m'.1 56 0 (nI b).toNatClampNeg = so then some (Sum.inl ((-1 : Int32), nI i + 1), m') else some (Sum.inl (nI i, nI i + 1), m')) else none) (fun (o : (Int32 × Int32) ⊕ Int32) m' => o = Sum.inl (if decide ((simV v b i).2 = so) = true then nI i else -1, nI (i + 1)) ∧ SimM many nw nc m1 (i + 1 - 1) m') := by
      intro m' hS
      rw [inB_t (show b < 9 by omega) (by omega), n_cl (by omega), (hS.B hL1 hw hm hb hx).2]
      simp only [cond_true]
      by_cases e : (simV v b i).2 = so
      · rw [if_neg (fun h => h e), if_pos (decide_eq_true e)]
        exact Ok.ret ⟨by rw [n_s], hS⟩
      · rw [if_pos e, if_neg (fun h => e (of_decide_eq_true h))]
        exact Ok.ret ⟨by rw [n_s], hS⟩
    by_cases h0 : i = 0
    · subst h0
      rw [if_pos (by decide)]
      exact fin m' hS
    · rw [if_neg (by rw [show (0 : Int32) = nI 0 from rfl, n_le (by omega) (by omega)]; omega)]
      obtain ⟨j, rfl⟩ : ∃ j, i = j + 1 := ⟨i - 1, by omega⟩
      refine (SimM.step hm (by omega) hS).bind ?_
      intro _ m2 ⟨q1, _⟩
      exact fin m2 q1
  · intro s m' h
    unfold fX7_whenSo_b14
    rcases h with h | h
    · by_cases e : 60 < s.2
      · rw [if_pos e]
      · rw [if_neg e, if_pos h]
    · rw [h, if_pos (by rw [nI60, n_lt (by omega) (by omega)]; omega)]
  · intro r m2 ⟨r1, i, r2⟩
    exact kept_back hL k1 k2 (r2.fr hm hw.2.1) (fun m3 h3 => ⟨r1, h3⟩)
