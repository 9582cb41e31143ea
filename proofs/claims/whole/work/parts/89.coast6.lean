/-! PURE: coast, the class's numbers of a statement -/
theorem tK_lt (B : Nat → Int32) (tp p : Nat) : tK B tp p < 5 := by
  unfold tK
  split
  · omega
  · split
    · omega
    · split
      · omega
      · split <;> omega
theorem read6 {B : Nat → Int32} {tp p n : Nat} {a2 : Int32} {lo hi : Nat → Int32} {m : MM} (hT : Tp6 B tp m) (hp : p ≤ tp) (h3 : m.1 2 0 3 = nI p) (hn : n ≤ 4) (hM : ∀ i m', i < n → FrP Dst m m' → fX2_mostOf 2 a2 (nI i) m' = some (hi i, m')) (hlo : ∀ i, i < n → (if a2 = 0 then m.1 5 2 0 else 0) = lo i) (hneg : ∀ i, i < n → (-1 : Int32) < lo i) :
    Ok (loopF 1000 (fX2_readStatement_b60 0 2 a2 (nI n)) 0 m) (fun o m' => FrP Dst m m' ∧ ((o = Sum.inl () ∧ nr B tp lo hi p n = none ∧ (∀ i, i < n → m'.1 46 0 i = tV B tp (ps B tp p i)) ∧ m'.1 2 0 3 = nI (ps B tp p n)) ∨ (o = Sum.inr () ∧ ∃ s, nr B tp lo hi p n = some s ∧ m'.1 2 0 1 = nI s))) := by
  refine Ok.count 0 n (fun i t m' => t = nI i ∧ FrP Dst m m' ∧ nr B tp lo hi p i = none ∧ (∀ k, k < i → m'.1 46 0 k = tV B tp (ps B tp p k)) ∧ m'.1 2 0 3 = nI (ps B tp p i)) ?_ ?_ (by omega) 1000 (by omega) 0 m ⟨rfl, FrP.rfl, rfl, fun k hk => by omega, h3⟩
  · intro i t m' _ hi' ⟨e, f, e1, e2, e3⟩
    subst e
    have hq := ps_le (B := B) hp i
    unfold fX2_readStatement_b60
    rw [if_neg (by rw [n_le (by omega) (by omega)]; omega), if_neg (by rw [n_le (by omega) (by omega)]; omega)]
    refine (scan6 (hT.fr' f) hq e3).bind ?_
    intro _ m1 ⟨a1, a2', a3, a4, g⟩
    have f1 : FrP Dst m m1 := f.trans (g.mono (fun c i k h => Or.inl h))
    have key : ∀ z : Int32, z = lo i → Ok (fX2_readStatement_j92 0 2 a2 (nI n) (nI i) z m1) (lpQ (fun t m' => t = nI (i + 1) ∧ FrP Dst m m' ∧ nr B tp lo hi p (i + 1) = none ∧ (∀ k, k < i + 1 → m'.1 46 0 k = tV B tp (ps B tp p k)) ∧ m'.1 2 0 3 = nI (ps B tp p (i + 1))) (fun o m' => FrP Dst m m' ∧ ((o = Sum.inl () ∧ nr B tp lo hi p n = none ∧ (∀ i, i < n → m'.1 46 0 i = tV B tp (ps B tp p i)) ∧ m'.1 2 0 3 = nI (ps B tp p n)) ∨ (o = Sum.inr () ∧ ∃ s, nr B tp lo hi p n = some s ∧ m'.1 2 0 1 = nI s)))) := by
      intro z hz
      subst hz
      refine (keep6 (hi := hi i) (show i < 4 by omega) a3 a4 (tK_lt _ _ _) (hM i m1 hi' f1) (hneg i hi')).mono ?_
      intro o m2 ⟨g2, h⟩
      have f2 : FrP Dst m m2 := f1.trans (g2.mono (fun c i k h => Or.inr h))
      rcases h with ⟨b1, b2, b3⟩ | ⟨b1, b2, b3⟩
      · subst b2
        refine ⟨rfl, f2, by rw [nr_s e1, if_pos b1], fun k hk => ?_, ?_⟩
        · rw [b3]
          dsimp only
          by_cases q : k = i
          · rw [q, upI_same]
          · rw [upI_nn (by omega), g.1 46 0 k (by unfold Dsc; omega)]; exact e2 k (by omega)
        · rw [b3]
          dsimp only
          rw [upI_nn (by omega)]; exact a1
      · subst b2 b3
        refine ⟨f2, Or.inr ⟨rfl, tS B tp (ps B tp p i), ?_, a2'⟩⟩
        have := nr_stay (k := n - (i + 1)) (show nr B tp lo hi p (i + 1) = some (tS B tp (ps B tp p i)) by rw [nr_s e1, if_neg b1])
        rw [show i + 1 + (n - (i + 1)) = n by omega] at this
        exact this
    have hl := hlo i hi'
    by_cases c : a2 = 0
    · rw [if_neg (fun h => h c)]
      rw [if_pos c] at hl
      refine key _ ?_
      rw [← hl]
      exact f1.1 5 2 0 (by unfold Dst Dsc; omega)
    · rw [if_pos c]
      rw [if_neg c] at hl
      exact key _ hl
  · intro t m' ⟨e, f, e1, e2, e3⟩
    unfold fX2_readStatement_b60
    rw [e, if_pos (by rw [n_le (by omega) (by omega)]; omega)]
    exact Ok.ret ⟨f, Or.inl ⟨rfl, e1, e2, e3⟩⟩
