/-! PURE: coast, all statements of the class -/
/-- what the class's reading ends with -/
def Rd6 (R : Nat ⊕ (Nat × (Nat → Int32) × Nat × Nat × Nat)) (m0 : MM) (r : Int32) (m' : MM) : Prop :=
  FrP Drs m0 m' ∧ ((∃ s, R = Sum.inl s ∧ r = -1 ∧ m'.1 2 0 1 = nI s) ∨ (∃ c v nb nw nc, R = Sum.inr (c, v, nb, nw, nc) ∧ c < 1000 ∧ r = nI c ∧ RelW m'.1 2 nb nw v ∧ WF v nb nw nc))
theorem readInto6 {B : Nat → Int32} {tp nb nw nc : Nat} {v : Nat → Int32} {m : MM} (hT : Tp6 B tp m) (hK : RelK m) (hW : RelW m.1 2 nb nw v) (hF : WF v nb nw nc) : Ok (fX2_readInto 0 2 m) (Rd6 (coR B tp (tp + 1) 0 0 v nb nw nc) m) := by
  have h250 := hT.1
  rw [fX2_readInto_eq]; unfold fX2_readInto_b
  generalize hR : coR B tp (tp + 1) 0 0 v nb nw nc = R
  refine Ok.bind (P := fun o m' => FrP Drs m m' ∧ ((∃ s, R = Sum.inl s ∧ (o = Sum.inr (Sum.inl ()) ∨ o = Sum.inr (Sum.inr (Sum.inr ()))) ∧ m'.1 2 0 1 = nI s) ∨ (∃ c v nb nw nc, R = Sum.inr (c, v, nb, nw, nc) ∧ c < 1000 ∧ o = Sum.inr (Sum.inr (Sum.inl (nI c))) ∧ RelW m'.1 2 nb nw v ∧ WF v nb nw nc))) ?_ ?_
  · refine Ok.loop (fun k s m' => ∃ c p v nb nw nc F, k = tp - p ∧ s = (nI c, nI c) ∧ c ≤ p ∧ p ≤ tp ∧ tp - p < F ∧ coR B tp F c p v nb nw nc = R ∧ RelW m'.1 2 nb nw v ∧ WF v nb nw nc ∧ m'.1 2 0 3 = nI p ∧ FrP Drs m m') ?_ 1000 _ _ tp (by omega) ⟨0, 0, v, nb, nw, nc, tp + 1, by omega, rfl, by omega, by omega, by omega, hR, ?_, hF, ?_, FrP.up (m' := m) FrP.rfl (by unfold Drs Dst Dsc; omega) _⟩
    · intro k s m1 ⟨c, p, v, nb, nw, nc, F, ek, es, hc, hp, hFu, eR, w1, hF1, h3, f⟩
      subst ek es
      obtain ⟨F, rfl⟩ : ∃ k, F = k + 1 := ⟨F - 1, by omega⟩
      have hT1 : Tp6 B tp m1 := ⟨hT.1, by rw [f.1 2 0 0 (by unfold Drs Dst Dsc Dtw; omega)]; exact hT.2.1, fun k hk => by rw [f.1 45 0 k (by unfold Drs Dst Dsc Dtw; omega)]; exact hT.2.2 k hk⟩
      have hK1 : RelK m1 := RelK_fr hK f.1 (by unfold Drs Dst Dsc Dtw; omega) (by unfold Drs Dst Dsc Dtw; omega)
      unfold fX2_readInto_b9
      dsimp only
      rw [if_neg (by rw [n_lt (by omega) (by omega)]; omega)]
      refine (statement6 hT1 hK1 hp h3 w1 hF1).bind ?_
      intro r m2 ⟨f2, h⟩
      have g2 := f.trans f2
      dsimp only
      rcases h with ⟨e1, s, e2, e3⟩ | ⟨e1, e2, e3, e4⟩
      · subst e1
        rw [coR_fail e2] at eR
        rw [if_neg (show ¬ ¬ bI false = 0 by decide)]
        exact Ok.ret ⟨g2, Or.inl ⟨s, eR.symm, Or.inr rfl, e3⟩⟩
      · subst e1
        rw [coR_go e2] at eR
        rw [if_pos (show ¬ bI true = 0 by decide)]
        have hq := stE_le (B := B) hp
        have hT2 : Tp6 B tp m2 := ⟨hT.1, by rw [g2.1 2 0 0 (by unfold Drs Dst Dsc Dtw; omega)]; exact hT.2.1, fun k hk => by rw [g2.1 45 0 k (by unfold Drs Dst Dsc Dtw; omega)]; exact hT.2.2 k hk⟩
        refine (scan6 hT2 hq.2 e4).bind ?_
        intro _ m3 ⟨a1, a2, a3, _, f3⟩
        have g3 : FrP Drs m m3 := g2.trans (f3.mono (fun c i k h => Or.inl (Or.inl h)))
        have w3 := RelW_fr e3 f3 (by unfold Dsc; omega) (by unfold Dsc; omega) (by unfold Dsc; omega) (by unfold Dsc; omega)
        have hF3 := WF_stF hF1 e2
        have kl := tK_lt B tp (stE B tp p)
        dsimp only
        rw [a3]
        by_cases k0 : tK B tp (stE B tp p) = 0
        · rw [if_neg (fun h => h (by rw [k0]; rfl))]
          rw [if_pos k0] at eR
          rw [← n_s]
          exact Ok.ret ⟨g3, Or.inr ⟨c + 1, _, _, _, _, eR.symm, by omega, rfl, w3, hF3⟩⟩
        · rw [if_pos (by rw [show (0 : Int32) = nI 0 from rfl, n_inj (by omega) (by omega)]; exact k0)]
          rw [if_neg k0] at eR
          by_cases k3 : tK B tp (stE B tp p) = 3
          · rw [if_pos (by rw [k3]; rfl), ← n_s]
            rw [if_pos k3] at eR
            have t3 := tE_3 hq.2 k3
            have t4 := tE_le (B := B) hq.2
            exact Ok.ret ⟨tp - tE B tp (stE B tp p), by omega, c + 1, tE B tp (stE B tp p), _, _, _, _, F, rfl, rfl, by omega, t4.2, by omega, eR, w3, hF3, a1, g3⟩
          · rw [if_neg (by rw [show (3 : Int32) = nI 3 from rfl, n_inj (by omega) (by omega)]; exact k3)]
            rw [if_neg k3] at eR
            exact Ok.ret ⟨g3, Or.inl ⟨_, eR.symm, Or.inl rfl, a2⟩⟩
    · exact RelW_fr' (m := m) hW (D := Dsc) (fun c i k d => by dsimp only; unfold Dsc at d; rw [upI_nn (by omega)]) (by unfold Dsc; omega) (by unfold Dsc; omega) (by unfold Dsc; omega) (by unfold Dsc; omega)
    · dsimp only; rw [upI_same]; rfl
  · intro o m' ⟨f, h⟩
    rcases h with ⟨s, e1, e2, e3⟩ | ⟨c, v, nb, nw, nc, e1, e0, e2, e3, e4⟩
    · rcases e2 with e2 | e2 <;> subst e2 <;> exact Ok.ret ⟨f, Or.inl ⟨s, e1, rfl, e3⟩⟩
    · subst e2
      exact Ok.ret ⟨f, Or.inr ⟨c, v, nb, nw, nc, e1, e0, rfl, e3, e4⟩⟩
