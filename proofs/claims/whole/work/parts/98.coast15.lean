/-! PURE: coast, all statements of the model -/
theorem k7_101 (k : Nat) (o : Bool) : (k7 k o = 101) ↔ k = 0 := by
  unfold k7
  by_cases k0 : k = 0
  · rw [if_pos k0]; exact ⟨fun _ => k0, fun _ => rfl⟩
  · rw [if_neg k0]
    refine ⟨fun h => ?_, fun h => absurd h k0⟩
    exfalso
    revert h
    by_cases k1 : k = 1
    · rw [if_pos k1]; decide
    · rw [if_neg k1]
      by_cases k2 : k = 2
      · rw [if_pos k2]; cases o <;> decide
      · rw [if_neg k2]
        by_cases k3 : k = 3
        · rw [if_pos k3]; decide
        · rw [if_neg k3]; decide
theorem k7_59 (k : Nat) (o : Bool) : (k7 k o = 59) ↔ k = 3 := by
  unfold k7
  by_cases k0 : k = 0
  · rw [if_pos k0, k0]; decide
  · rw [if_neg k0]
    by_cases k1 : k = 1
    · rw [if_pos k1, k1]; decide
    · rw [if_neg k1]
      by_cases k2 : k = 2
      · rw [if_pos k2, k2]; cases o <;> decide
      · rw [if_neg k2]
        by_cases k3 : k = 3
        · rw [if_pos k3]; exact ⟨fun _ => k3, fun _ => rfl⟩
        · rw [if_neg k3]
          exact ⟨fun h => absurd h (by decide), fun h => absurd h k3⟩
def Dco : Nat → Nat → Nat → Prop := fun c i k => Dnx c i k ∨ Dlv c i k
theorem coast7 {B : Nat → Int32} {tp nb nw nc : Nat} {v : Nat → Int32} {m : MM} (hT : Tp7 B tp m) (hK : RelK m) (hL : Lv v m) (hF : WF v nb nw nc) (h16 : m.1 7 0 16 = nI 0) : Ok (loopF 1000 (fX7_coast_b17 0) (0, 1) m) (fun o m' => FrP Dco m m' ∧ ((∃ s, coR B tp (tp + 1) 0 0 v nb nw nc = Sum.inl s ∧ o = Sum.inl () ∧ m'.1 7 0 15 = nI s) ∨ (∃ c v' nb' nw' nc', coR B tp (tp + 1) 0 0 v nb nw nc = Sum.inr (c, v', nb', nw', nc') ∧ c < 1000 ∧ o = Sum.inr (nI c) ∧ Lv v' m' ∧ WF v' nb' nw' nc'))) := by
  have h250 := hT.1
  generalize hR : coR B tp (tp + 1) 0 0 v nb nw nc = R
  refine Ok.loop (fun k s m' => FrP Dco m m' ∧ ((s.2 = 0 ∧ ∃ s', R = Sum.inl s' ∧ m'.1 7 0 15 = nI s') ∨ ∃ c p v nb nw nc F, k = tp - p + 1 ∧ s = (nI c, 1) ∧ c ≤ p ∧ p ≤ tp ∧ tp - p < F ∧ coR B tp F c p v nb nw nc = R ∧ Lv v m' ∧ WF v nb nw nc ∧ m'.1 7 0 16 = nI p)) ?_ 1000 _ _ (tp + 1) (by omega) ⟨FrP.rfl, Or.inr ⟨0, 0, v, nb, nw, nc, tp + 1, by omega, rfl, by omega, by omega, by omega, hR, hL, hF, h16⟩⟩
  intro k s m1 ⟨f, h⟩
  unfold fX7_coast_b17
  rcases h with ⟨e0, s', e1, e2⟩ | ⟨c, p, v, nb, nw, nc, F, ek, es, hc, hp, hFu, eR, L1, hF1, h3⟩
  · rw [if_pos e0]
    exact Ok.ret ⟨f, Or.inl ⟨s', e1, rfl, e2⟩⟩
  · subst ek es
    dsimp only
    obtain ⟨F, rfl⟩ : ∃ k, F = k + 1 := ⟨F - 1, by omega⟩
    have T : ∀ m2, FrP Dco m m2 → Tp7 B tp m2 := fun m2 g => ⟨hT.1, by rw [g.1 7 0 13 (by unfold Dco Dnx Dlv; omega)]; exact hT.2.1, fun k hk => by rw [g.1 58 0 k (by unfold Dco Dnx Dlv; omega)]; exact hT.2.2 k hk⟩
    have K : ∀ m2, FrP Dco m m2 → RelK m2 := fun m2 g => RelK_fr hK g.1 (by unfold Dco Dnx Dlv; omega) (by unfold Dco Dnx Dlv; omega)
    rw [if_neg (show ¬ (1 : Int32) = 0 by decide)]
    refine (next7 (T m1 f) hp h3).bind ?_
    intro _ m2 ⟨a1, a2, a3, _, f2⟩
    have g2 : FrP Dco m m2 := f.trans (f2.mono (fun c i k h => Or.inl h))
    have L2 : Lv v m2 := Lv_fr L1 f2 (by unfold Dlv Dnx; omega)
    refine (statement7 L2 hF1 (T m2 g2) (K m2 g2) hp a2 a1 a3).bind ?_
    intro r m3 ⟨f3, h⟩
    have g3 : FrP Dco m m3 := g2.trans f3
    dsimp only
    rcases h with ⟨e1, s, e2, e3⟩ | ⟨e1, e2, e3, e4⟩
    · subst e1
      rw [coR_fail e2] at eR
      rw [if_neg (show ¬ ¬ bI false = 0 by decide)]
      exact Ok.ret ⟨0, by omega, g3, Or.inl ⟨rfl, s, eR.symm, e3⟩⟩
    · subst e1
      rw [coR_go e2] at eR
      rw [if_pos (show ¬ bI true = 0 by decide)]
      have hq := stE_le (B := B) hp
      refine (next7 (T m3 g3) hq.2 e4).bind ?_
      intro _ m4 ⟨b1, b2, b3, _, f4⟩
      have g4 : FrP Dco m m4 := g3.trans (f4.mono (fun c i k h => Or.inl h))
      have L4 := Lv_fr e3 f4 (by unfold Dlv Dnx; omega)
      have hF4 := WF_stF hF1 e2
      dsimp only
      rw [b3]
      by_cases k0 : tK B tp (stE B tp p) = 0
      · rw [if_neg (fun h => h ((k7_101 _ _).2 k0))]
        rw [if_pos k0] at eR
        rw [← n_s]
        exact Ok.ret ⟨g4, Or.inr ⟨c + 1, _, _, _, _, eR.symm, by omega, rfl, L4, hF4⟩⟩
      · rw [if_pos (fun h => k0 ((k7_101 _ _).1 h))]
        rw [if_neg k0] at eR
        by_cases k3 : tK B tp (stE B tp p) = 3
        · rw [if_neg (fun h => h ((k7_59 _ _).2 k3)), ← n_s]
          rw [if_pos k3] at eR
          have t3 := tE_3 hq.2 k3
          have t4 := tE_le (B := B) hq.2
          exact Ok.ret ⟨tp - tE B tp (stE B tp p) + 1, by omega, g4, Or.inr ⟨c + 1, tE B tp (stE B tp p), _, _, _, _, F, rfl, rfl, by omega, t4.2, by omega, eR, L4, hF4, b1⟩⟩
        · rw [if_pos (fun h => k3 ((k7_59 _ _).1 h))]
          rw [if_neg k3] at eR
          exact Ok.ret ⟨0, by omega, g4, Or.inl ⟨rfl, _, eR.symm, b2⟩⟩
