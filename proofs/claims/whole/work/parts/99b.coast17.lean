/-! PURE: coast, the model's call -/
def Dk7 : Nat → Nat → Nat → Prop := fun c i k => Dco c i k ∨ Dto 1 c i k ∨ (c = 7 ∧ i = 0 ∧ k = 13)
/-- two rows of one memory's live part: the third lives again -/
theorem Lv_eq7 {v w : Nat → Int32} {m m' : MM} (h : Lv v m) (k : Lv w m) (r : Lv w m') : Lv v m' := by
  obtain ⟨a1, a2, a3, a4, a5, a6, a7, a8, a9, a10⟩ := h
  obtain ⟨b1, b2, b3, b4, b5, b6, b7, b8, b9, b10⟩ := k
  obtain ⟨c1, c2, c3, c4, c5, c6, c7, c8, c9, c10⟩ := r
  refine ⟨fun c hc => ((a1 c hc).trans (b1 c hc).symm).trans (c1 c hc), fun b hb => ?_, fun k hk => ((a3 k hk).trans (b3 k hk).symm).trans (c3 k hk), (a4.trans b4.symm).trans c4, (a5.trans b5.symm).trans c5, (a6.trans b6.symm).trans c6, (a7.trans b7.symm).trans c7, (a8.trans b8.symm).trans c8, (a9.trans b9.symm).trans c9, (a10.trans b10.symm).trans c10⟩
  obtain ⟨x1, x2, x3, x4, x5⟩ := a2 b hb
  obtain ⟨y1, y2, y3, y4, y5⟩ := b2 b hb
  obtain ⟨z1, z2, z3, z4, z5⟩ := c2 b hb
  exact ⟨(x1.trans y1.symm).trans z1, (x2.trans y2.symm).trans z2, (x3.trans y3.symm).trans z3, (x4.trans y4.symm).trans z4, (x5.trans y5.symm).trans z5⟩
theorem coastM {B : Nat → Int32} {tp nb nw nc : Nat} {v : Nat → Int32} {m : MM} (hL : Lv v m) (hF : WF v nb nw nc) (hK : RelK m) (hT : Tp7 B tp m) : Ok (fX7_coast 0 m) (fun r m' => m'.1 7 0 13 = 0 ∧ ((∃ s, coR B tp (tp + 1) 0 0 v nb nw nc = Sum.inl s ∧ r = -2000 - nI s ∧ Lv v m' ∧ m'.1 61 0 2 = m.1 61 0 2 + 1 ∧ FrP (fun c i k => Dk7 c i k ∨ (c = 61 ∧ i = 0 ∧ k = 2)) m m') ∨ (∃ c v' nb' nw' nc', coR B tp (tp + 1) 0 0 v nb nw nc = Sum.inr (c, v', nb', nw', nc') ∧ r = nI c ∧ Lv v' m' ∧ FrP Dk7 m m'))) := by
  rw [fX7_coast_eq]; unfold fX7_coast_b
  refine (keep_ok 1 m).bind ?_
  intro _ m1 ⟨k1, f1⟩
  have f2 : FrP (fun c i k => Dto 1 c i k ∨ (c = 7 ∧ i = 0 ∧ k = 16)) m (upI m1.1 7 0 16 0, m1.2) := FrP.up (m' := m1) (f1.mono (fun c i k h => Or.inl h)) (Or.inr ⟨rfl, rfl, rfl⟩) _
  have h16 : (upI m1.1 7 0 16 0, m1.2).1 7 0 16 = nI 0 := by dsimp only; rw [upI_same]; rfl
  have k1' : Lv ((upI m1.1 7 0 16 0, m1.2).1 62 1) m := by
    have e : (upI m1.1 7 0 16 0, m1.2).1 62 1 = m1.1 62 1 := by funext k; dsimp only; rw [upI_nn (by omega)]
    rw [e]; exact k1
  generalize (upI m1.1 7 0 16 0, m1.2) = m2 at *
  have L2 : Lv v m2 := Lv_fr hL f2 (by unfold Dlv Dto; omega)
  have hT2 : Tp7 B tp m2 := ⟨hT.1, by rw [f2.1 7 0 13 (by unfold Dto; omega)]; exact hT.2.1, fun k hk => by rw [f2.1 58 0 k (by unfold Dto; omega)]; exact hT.2.2 k hk⟩
  have hK2 : RelK m2 := RelK_fr hK f2.1 (by unfold Dto; omega) (by unfold Dto; omega)
  have g2 : FrP Dk7 m m2 := f2.mono (by unfold Dk7 Dco Dnx Dto; omega)
  refine (coast7 hT2 hK2 L2 hF h16).bind ?_
  intro o m3 ⟨f3, h⟩
  have g3 : FrP Dk7 m m3 := g2.trans (f3.mono (fun c i k h => Or.inl h))
  have e62 : m3.1 62 1 = m2.1 62 1 := by funext k; exact f3.1 62 1 k (by unfold Dco Dnx Dlv; omega)
  dsimp only
  rcases h with ⟨s, e1, e2, e3⟩ | ⟨c, v', nb', nw', nc', e1, e0, e2, e3, e4⟩
  · subst e2
    dsimp only
    refine (again_ok 1 m3).bind ?_
    intro _ m4 ⟨r1, f4⟩
    rw [e62] at r1
    have L4 : Lv v m4 := by
      have : m2.1 62 1 = m2.1 62 1 := rfl
      exact Lv_eq7 hL k1' r1
    dsimp only
    rw [e7_no (-1002) 0 _ (by omega) (by decide)]
    simp only [Option.bind_some]
    have g4 : FrP Dk7 m m4 := g3.trans (f4.mono (fun c i k h => Or.inl (Or.inr h)))
    have g5 : FrP Dk7 m (upI m4.1 7 0 13 0, m4.2) := FrP.up (m' := m4) g4 (Or.inr (Or.inr ⟨rfl, rfl, rfl⟩)) _
    refine Ok.ret ⟨?_, Or.inl ⟨s, e1, ?_, ?_, ?_, FrP.up (m' := (upI m4.1 7 0 13 0, m4.2)) (g5.mono (fun c i k h => Or.inl h)) (Or.inr ⟨rfl, rfl, rfl⟩) _⟩⟩
    · dsimp only; rw [upI_nn (by omega), upI_same]
    · (try dsimp only); rw [upI_nn (by omega), upI_nn (by omega), f4.1 7 0 15 (by unfold Dlv; omega), e3]
    · exact Lv_fr' (m := m4) L4 (D := fun c i k => c = 61 ∨ (c = 7 ∧ k = 13)) (fun c i k d => by (try dsimp only); rw [upI_nn (by omega), upI_nn (by omega)]) (by unfold Dlv; omega)
    · show upI (upI m4.1 7 0 13 0) 61 0 2 (upI m4.1 7 0 13 0 61 0 2 + 1) 61 0 2 = _
      rw [upI_same, upI_nn (by omega), g4.1 61 0 2 (by unfold Dk7 Dco Dnx Dlv Dto; omega)]
  · subst e2
    dsimp only
    refine Ok.ret ⟨?_, Or.inr ⟨c, v', nb', nw', nc', e1, rfl, ?_, FrP.up (m' := m3) g3 (Or.inr (Or.inr ⟨rfl, rfl, rfl⟩)) _⟩⟩
    · dsimp only; rw [upI_same]
    · exact Lv_fr' (m := m3) e3 (D := fun c i k => c = 7 ∧ k = 13) (fun c i k d => by (try dsimp only); rw [upI_nn (by omega)]) (by unfold Dlv; omega)
