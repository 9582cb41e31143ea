/-! PURE: coast, the class's call -/
def Dk6 : Nat → Nat → Nat → Prop := fun c i k => Drs c i k ∨ Dbe 2 c i k ∨ c = 2
theorem coast6 {B : Nat → Int32} {tp nb nw nc : Nat} {v : Nat → Int32} {m : MM} (h : Rlt v nb nw nc m) (hT : Tp6 B tp m) : Ok (fX6_coast 0 m) (fun r m' => m'.1 2 0 0 = 0 ∧ ((∃ s, coR B tp (tp + 1) 0 0 v nb nw nc = Sum.inl s ∧ r = -2000 - nI s ∧ m'.1 47 0 0 = m.1 47 0 0 + 1 ∧ FrP (fun c i k => Dk6 c i k ∨ (c = 47 ∧ i = 0 ∧ k = 0)) m m') ∨ (∃ c v' nb' nw' nc', coR B tp (tp + 1) 0 0 v nb nw nc = Sum.inr (c, v', nb', nw', nc') ∧ r = nI c ∧ RelW m'.1 0 nb' nw' v' ∧ WF v' nb' nw' nc' ∧ FrP (fun c i k => Dk6 c i k ∨ Dbe 0 c i k) m m'))) := by
  have hF := h.1.1
  rw [fX6_coast_eq]; unfold fX6_coast_b
  refine (become_v (w := 2) (by omega) h.1.2.2.1 hF.1 hF.2.1 hF.2.2.1 hF.2.2.2.1).bind ?_
  intro _ m1 ⟨w1, f1⟩
  have hT1 : Tp6 B tp m1 := ⟨hT.1, by rw [f1.1 2 0 0 (by unfold Dbe; omega)]; exact hT.2.1, fun k hk => by rw [f1.1 45 0 k (by unfold Dbe; omega)]; exact hT.2.2 k hk⟩
  have hK1 : RelK m1 := RelK_fr h.1.2.2.2.2.2.2 f1.1 (by unfold Dbe; omega) (by unfold Dbe; omega)
  refine (readInto6 hT1 hK1 w1 hF).bind ?_
  intro r m2 ⟨f2, hr⟩
  have g2 : FrP Dk6 m m2 := (f1.mono (fun c i k h => Or.inr (Or.inl h))).trans (f2.mono (fun c i k h => Or.inl h))
  have g3 : FrP Dk6 m (upI m2.1 2 0 0 0, m2.2) := FrP.up (m' := m2) g2 (Or.inr (Or.inr rfl)) _
  dsimp only
  rcases hr with ⟨s, e1, e2, e3⟩ | ⟨c, v', nb', nw', nc', e1, e0, e2, e3, e4⟩
  · rw [if_neg (fun h => h e2), e6_refuse (-1002) 0 _ (by omega) (by decide)]
    refine Ok.ret ⟨?_, Or.inl ⟨s, e1, ?_, ?_, FrP.up (m' := (upI m2.1 2 0 0 0, m2.2)) (g3.mono (fun c i k h => Or.inl h)) (Or.inr ⟨rfl, rfl, rfl⟩) _⟩⟩
    · dsimp only; rw [upI_nn (by omega), upI_same]
    · dsimp only; rw [upI_nn (by omega), upI_nn (by omega), e3]
    · dsimp only
      rw [upI_same, upI_nn (by omega), g2.1 47 0 0 (by unfold Dk6 Drs Dst Dsc Dtw Dbe; omega)]
  · subst e2
    rw [if_pos (n_nm1 (by omega))]
    have w3 : RelW (upI m2.1 2 0 0 0, m2.2).1 2 nb' nw' v' := RelW_fr' (m := m2) e3 (D := fun c _ _ => c = 2) (fun c i k d => by dsimp only; rw [upI_nn (by omega)]) (by omega) (by omega) (by omega) (by omega)
    refine (become_v (w := 0) (by omega) w3 e4.1 e4.2.1 e4.2.2.1 e4.2.2.2.1).bind ?_
    intro _ m4 ⟨w4, f4⟩
    refine Ok.ret ⟨?_, Or.inr ⟨c, v', nb', nw', nc', e1, rfl, w4, e4, (g3.mono (fun c i k h => Or.inl h)).trans (f4.mono (fun c i k h => Or.inr h))⟩⟩
    rw [f4.1 2 0 0 (by unfold Dbe; omega)]
    dsimp only
    rw [upI_same]
