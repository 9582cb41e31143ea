/-! PURE: the class's days by the row of numbers -/
theorem RelW.E {m : MM} {w nb nw : Nat} {v : Nat → Int32} (h : RelW m.1 w nb nw v) : cE m w = vE v := by
  obtain ⟨a1, a2, a3, _, _, _, _, a8, _⟩ := h
  have e : flw m w = vfl v := by
    funext c
    by_cases hc : inB c 30 = true
    · rw [flw_in hc, vfl_in hc]; exact a8 _ (inB_ex hc).1
    · unfold flw vfl
      rw [inB_hi c 30 (by decide), inB_hi c 30 (by decide), if_neg hc, if_neg hc]
  unfold cE vE; rw [e, a1, a2, a3]
def FinOK (m : MM) (v : Nat → Int32) (b : Nat) (f : Option Nat) : Prop := (f = none ∧ v (57 + b) = -1) ∨ (∃ x, f = some x ∧ inB (v (57 + b)) 6 = true ∧ WFd m.1 x v (v (57 + b)).toNatClampNeg ∧ inB (m.1 4 x 1) 100 = true)
theorem simC_v {m : MM} {w j b : Nat} {f : Option Nat} {v : Nat → Int32} (hE : cE m w = vE v) (hB : BF m.1 j v b) (hf : FinOK m v b f) (d : Nat) : simC m w j f d = simV v b d := by
  obtain ⟨b1, b2, b3, b4, b5⟩ := hB
  have h93 : m.1 5 w 0 = v 93 := congrArg (fun e : Ev => e.2.1) hE
  unfold simC simV
  have e : fOf m w f = fVv v b := by
    unfold fVv
    rcases hf with ⟨h1, h2⟩ | ⟨x, h1, h2, h3, _⟩
    · rw [h1, if_pos h2]; rfl
    · have hn : ¬ v (57 + b) = -1 := by intro h; rw [h, inB_m1] at h2; cases h2
      rw [h1, if_neg hn]
      obtain ⟨c1, c2, c3⟩ := h3
      unfold fOf wlk rW vW
      dsimp only
      rw [c1, c2, c3, h93]
  have eB : rB m j = vB v b := by unfold rB vB; rw [b3, b5]
  rw [hE, b1, b2, e, eB]
theorem follow_v {m : MM} {w j b N : Nat} {f : Option Nat} {v : Nat → Int32} (t : Nat) (hE : cE m w = vE v) (hB : BF m.1 j v b) (hf : FinOK m v b f) (hN : N < 61) : Ok (fX5_follow w t j f (nI N) m) (fun _ m' => (∀ d, d ≤ N → m'.1 41 t d = (simV v b d).1 ∧ m'.1 42 t d = (simV v b d).2) ∧ Fr (Dfo w t) m m') := by
  have hs := simC_v hE hB hf
  rcases hf with ⟨h1, h2⟩ | ⟨x, h1, h2, h3, h4⟩
  · subst h1
    refine (follow_0 w t j N m hN).mono ?_
    intro _ m' ⟨a, b⟩
    refine ⟨fun d hd => ?_, b⟩
    rw [← hs d]; exact a d hd
  · subst h1
    refine (follow_1 w t j x N m hN h4).mono ?_
    intro _ m' ⟨a, b⟩
    refine ⟨fun d hd => ?_, b⟩
    rw [← hs d]; exact a d hd
/-- behind how many days found, up to so many; NONE -/
def til (v : Nat → Int32) (b N : Nat) : Int32 := fst1 (fun d => decide ((simV v b d).2 = 1)) (N + 1) 0
theorem soonest_v {m : MM} {w j b N x : Nat} {v : Nat → Int32} (t : Nat) (hE : cE m w = vE v) (hB : BF m.1 j v b) (hf : FinOK m v b (some x)) (hN : N < 100) : Ok (fX5_soonest w j (some x) (nI N) m) (fun r m' => r = til v b N ∧ Fr (Dfo w t) m m') := by
  have hs := simC_v hE hB hf
  rcases hf with ⟨h1, h2⟩ | ⟨y, h1, h2, h3, h4⟩
  · cases h1
  · cases h1
    refine (soonest_1 t w j x N m hN h4).mono ?_
    intro r m' ⟨a, b⟩
    refine ⟨?_, b⟩
    rw [a]; unfold tilC til; simp only [hs]
theorem tils_v {m : MM} {w j b nb nw : Nat} {v : Nat → Int32} (t : Nat) (hW : RelW m.1 w nb nw v) (hw : v 98 = nI nw) (hw6 : nw ≤ 6) (hp : ∀ k, k < nw → inB (v (81 + k)) 100 = true) (hB : BF m.1 j v b) (hx : inB (v (57 + b)) nw = true) : Ok (fX5_daysTillFound w j m) (fun r m' => r = til v b 60 ∧ Fr (Dfo w t) m m') := by
  rw [fX5_daysTillFound_eq]; unfold fX5_daysTillFound_b
  obtain ⟨h1, h2⟩ := inB_ex hx
  rw [e_walkerAt w _ nw m (hW.2.2.2.2.2.2.1.trans hw) hw6, hB.2.2.2.1, if_pos hx]
  simp only [Option.bind_some, bind_eta]
  have hd := hW.2.2.2.2.2.2.2.2.2 _ h1
  exact soonest_v (N := 60) t hW.E hB (Or.inr ⟨_, rfl, inB_mono hx hw6, hd, by rw [hd.2.1]; exact hp _ h1⟩) (by omega)
theorem Dfo_C {w t : Nat} : ∀ c i, Dfo w t c i → ∀ k, ScrC c i k ∨ (c = 0 ∧ i = 9 * w) := by
  intro c i h k; unfold Dfo at h; unfold ScrC; omega
theorem Dfo_toC {w t : Nat} {m m' : MM} (h : Fr (Dfo w t) m m') : FrP ScrC m m' := h.toC (fun c i h k => by unfold Dfo at h; unfold ScrC; omega) (by unfold Dfo; omega)
/-! what the relation says of a bottle, of a walker -/
theorem Rel0.bf {v : Nat → Int32} {nb nw nc : Nat} {m : MM} (h : Rel0 v nb nw nc m) {b : Nat} (hb : b < nb) : BF m.1 (1 + b) v b := by
  have := h.2.2.1.2.2.2.2.2.2.2.2.1 b hb
  rw [Nat.mul_zero, Nat.zero_add] at this; exact this
theorem Rel0.wf {v : Nat → Int32} {nb nw nc : Nat} {m : MM} (h : Rel0 v nb nw nc m) {k : Nat} (hk : k < nw) : WFd m.1 (1 + k) v k := by
  have := h.2.2.1.2.2.2.2.2.2.2.2.2 k hk
  rw [Nat.mul_zero, Nat.zero_add] at this; exact this
theorem WF.p100 {v : Nat → Int32} {nb nw nc : Nat} (h : WF v nb nw nc) {k : Nat} (hk : k < nw) : inB (v (81 + k)) 100 = true := inB_mono (h.2.2.2.2.2.2.2.2.2.1 k hk).1 (by omega)
theorem WF.kok {v : Nat → Int32} {nb nw nc : Nat} (h : WF v nb nw nc) {k : Nat} (hk : k < nw) : Kok nc (vW v k) := (h.2.2.2.2.2.2.2.2.2.1 k hk).2
theorem WF.b {v : Nat → Int32} {nb nw nc : Nat} (h : WF v nb nw nc) {b : Nat} (hb : b < nb) : inB (v (48 + b)) nc = true ∧ inB (v (57 + b)) nw = true ∧ inB (v (66 + b)) 3 = true ∧ inB (v (30 + b)) 6 = true := h.2.2.2.2.2.2.2.2.1 b hb
theorem WF.m {v : Nat → Int32} {nb nw nc : Nat} (h : WF v nb nw nc) {many : Nat} (hm : many ≤ 8) : WFm v many nw nc := by
  refine ⟨h.2.2.1, h.2.2.2.1, h.2.2.2.2.1, by have := h.2.2.2.2.2.1; omega, h.2.2.2.2.2.2.1, fun b hb => h.2.2.2.2.2.2.2.1 b (by omega), fun w hw => ⟨h.p100 hw, h.kok hw⟩, h.2.2.2.2.2.2.2.2.2.2⟩
theorem Rel0.E {v : Nat → Int32} {nb nw nc : Nat} {m : MM} (h : Rel0 v nb nw nc m) : cE m 0 = vE v := h.2.2.1.E
theorem Rel0.fin {v : Nat → Int32} {nb nw nc : Nat} {m : MM} (h : Rel0 v nb nw nc m) {b : Nat} (hb : b < nb) : FinOK m v b (some (1 + (v (57 + b)).toNatClampNeg)) := by
  have hx := (h.1.b hb).2.1
  obtain ⟨h1, _⟩ := inB_ex hx
  have := h.wf h1
  exact Or.inr ⟨_, rfl, inB_mono hx h.1.2.2.2.1, this, by rw [this.2.1]; exact h.1.p100 h1⟩
/-- a row with one number changed -/
def upv (v : Nat → Int32) (k : Nat) (x : Int32) : Nat → Int32 := fun j => if j = k then x else v j
theorem upv_same (v : Nat → Int32) (k : Nat) (x : Int32) : upv v k x k = x := if_pos rfl
theorem upv_nn {v : Nat → Int32} {k j : Nat} {x : Int32} (h : j ≠ k) : upv v k x j = v j := if_neg h
theorem Eq2.bad {F G : MM → Option (Int32 × MM)} {m : MM} {v : Nat → Int32} {nb nw nc : Nat} (h : Rlt v nb nw nc m) (hF : F m = fX6_refuse 0 (-1002) m) (hG : ∀ m1, Rel0 v nb nw nc m1 → G m1 = fX7_no 0 (-1002) m1) : Eq2 F G m :=
  Eq2.no h (-1002) 0 (by omega) (by decide) (by decide) hF hG
theorem Eq2.other {F G : MM → Option (Int32 × MM)} {m : MM} {v : Nat → Int32} {nb nw nc : Nat} (h : Rlt v nb nw nc m) (hF : F m = fX6_refuse 0 (-1003) m) (hG : ∀ m1, Rel0 v nb nw nc m1 → G m1 = fX7_no 0 (-1003) m1) : Eq2 F G m :=
  Eq2.no h (-1003) 1 (by omega) (by decide) (by decide) hF hG
theorem Eq2.nothing {F G : MM → Option (Int32 × MM)} {m : MM} {v : Nat → Int32} {nb nw nc : Nat} (h : Rlt v nb nw nc m) (hF : F m = fX6_refuse 0 (-1004) m) (hG : ∀ m1, Rel0 v nb nw nc m1 → G m1 = fX7_no 0 (-1004) m1) : Eq2 F G m :=
  Eq2.no h (-1004) 2 (by omega) (by decide) (by decide) hF hG
theorem Eq2.stuck {F G : MM → Option (Int32 × MM)} {m : MM} {v : Nat → Int32} {nb nw nc : Nat} (h : Rlt v nb nw nc m) (hF : F m = fX6_refuse 0 (-1005) m) (hG : ∀ m1, Rel0 v nb nw nc m1 → G m1 = fX7_no 0 (-1005) m1) : Eq2 F G m :=
  Eq2.no h (-1005) 3 (by omega) (by decide) (by decide) hF hG
theorem Eq2.full {F G : MM → Option (Int32 × MM)} {m : MM} {v : Nat → Int32} {nb nw nc : Nat} (h : Rlt v nb nw nc m) (hF : F m = fX6_refuse 0 (-1006) m) (hG : ∀ m1, Rel0 v nb nw nc m1 → G m1 = fX7_no 0 (-1006) m1) : Eq2 F G m :=
  Eq2.no h (-1006) 4 (by omega) (by decide) (by decide) hF hG
/-! when -/
theorem q_til {v : Nat → Int32} {nb nw nc : Nat} {m : MM} (h : Rel0 v nb nw nc m) {b : Nat} (hb : b < nb) : Ok (fX5_daysTillFound 0 (1 + b) m) (fun r m' => r = til v b 60 ∧ FrP ScrC m m') :=
  (tils_v 0 h.2.2.1 h.1.2.2.1 h.1.2.2.2.1 (fun k hk => h.1.p100 hk) (h.bf hb) (h.1.b hb).2.1).mono (fun r m' ⟨a, b⟩ => ⟨a, Dfo_toC b⟩)
theorem Dto_S {m m' : MM} (h : FrP (Dto 2) m m') : FrP Scr m m' := h.mono (by unfold Dto Scr; omega)
theorem op_when {v : Nat → Int32} {nb nw nc : Nat} {m : MM} (h : Rlt v nb nw nc m) (x : Int32) : Eq2 (fX6_when 0 x) (fX7_when 0 x) m := by
  by_cases hx : inB x nb = true
  · obtain ⟨hb, e⟩ := inB_ex hx
    generalize x.toNatClampNeg = b at hb e
    subst e
    refine Eq2.ask h (til v b 60) ?_ ?_
    · rw [fX6_when_eq]; unfold fX6_when_b
      rw [e5_bottleAt h.1, if_pos hx, n_cl (by have := h.1.nb.2.1; omega)]
      simp only [Option.bind_some, bind_eta]
      exact q_til h.1 hb
    · intro m1 h1
      rw [fX7_when_eq]; unfold fX7_when_b
      rw [e7_isBottle h1.1, hx]
      simp only [Option.bind_some, bI_0, reduceCtorEq, if_false, bind_eta]
      rw [h1.1.nb.1]
      exact (whenSo_ok b 1 m1 h1.1.2.1 (by have := h1.1.nb.2.1; omega) (h1.1.1.m h1.1.nb.2.1) hb (Or.inr (h1.1.1.b hb).2.1)).mono (fun r m' ⟨a, b⟩ => ⟨a, Dto_S b⟩)
  · refine Eq2.bad h ?_ ?_
    · rw [fX6_when_eq]; unfold fX6_when_b
      rw [e5_bottleAt h.1, if_neg hx]
      simp only [Option.bind_some, bind_eta]
    · intro m1 h1
      rw [fX7_when_eq]; unfold fX7_when_b
      rw [e7_isBottle h1, Bool.eq_false_iff.2 hx]
      simp only [Option.bind_some, bI_0, if_true, bind_eta]
