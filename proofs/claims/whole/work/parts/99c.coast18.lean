/-! PURE: coast -/
theorem ef_nb (a : Nat) (x : Nat → Int32) (v : Nat → Int32) (nb nw nc : Nat) : nb ≤ (ef a x v nb nw nc).2.1 := by
  unfold ef
  repeat' split
  all_goals (dsimp only; omega)
theorem coR_nb {B : Nat → Int32} {tp : Nat} : ∀ (F c p : Nat) (v : Nat → Int32) (nb nw nc c' : Nat) (v' : Nat → Int32) (nb' nw' nc' : Nat), coR B tp F c p v nb nw nc = Sum.inr (c', v', nb', nw', nc') → nb ≤ nb' := by
  intro F
  induction F with
  | zero => intro c p v nb nw nc c' v' nb' nw' nc' h; cases h
  | succ F ih =>
    intro c p v nb nw nc c' v' nb' nw' nc' h
    cases hs : stR B tp p nb nw nc with
    | some s => rw [coR_fail hs] at h; cases h
    | none =>
      rw [coR_go hs] at h
      have hle : nb ≤ (stF B tp p v nb nw nc).2.1 := ef_nb _ _ _ _ _ _
      by_cases k0 : tK B tp (stE B tp p) = 0
      · rw [if_pos k0] at h
        have e := (Prod.mk.inj (Sum.inr.inj h)).2
        rw [e] at hle
        exact hle
      · rw [if_neg k0] at h
        by_cases k3 : tK B tp (stE B tp p) = 3
        · rw [if_pos k3] at h
          exact Nat.le_trans hle (ih _ _ _ _ _ _ _ _ _ _ _ h)
        · rw [if_neg k3] at h; cases h
/-- what the call may change -/
def DkF : Nat → Nat → Nat → Prop := fun c i k => Dk6 c i k ∨ Dk7 c i k ∨ Dbe 0 c i k
def DkN : Nat → Nat → Nat → Prop := fun c i k => DkF c i k ∨ (c = 47 ∧ i = 0 ∧ k = 0) ∨ (c = 61 ∧ i = 0 ∧ k = 2)
theorem Rlt_co {v v' : Nat → Int32} {nb nw nc nb' nw' nc' : Nat} {m m2 : MM} (h : Rlt v nb nw nc m) (f : FrP DkN m m2) (hb : nb ≤ nb') (hF' : WF v' nb' nw' nc') (hL : Lv v' m2) (hW : RelW m2.1 0 nb' nw' v') (z1 : m2.1 2 0 0 = 0) (z2 : m2.1 7 0 13 = 0) (hN : RelN m2) : Rlt v' nb' nw' nc' m2 := by
  obtain ⟨⟨h1, h2, h3, h4, h5, h6, h8⟩, h7⟩ := h
  refine ⟨⟨hF', hL, hW, RelS_mono (RelS_fr h4 f.1 f.2 ?_ ?_ ?_) hb, ⟨0, by omega, z1, z2, fun k hk => by omega⟩, RelI_fr h6 f.1 ?_ ?_ ?_ ?_ ?_ ?_ ?_, RelK_fr h8 f.1 ?_ ?_⟩, hN⟩
  all_goals (unfold DkN DkF Dk6 Dk7 Drs Dst Dsc Dtw Dco Dnx Dlv Dto Dbe; omega)
theorem op_coast {v : Nat → Int32} {nb nw nc : Nat} {m : MM} (h : Rlt v nb nw nc m) : Eq2 (fX6_coast 0) (fX7_coast 0) m := by
  have hF := h.1.1
  have h2 := h.1.2.1
  have h3 := h.1.2.2.1
  have h8 := h.1.2.2.2.2.2.2
  have h7 := h.2
  obtain ⟨tp, t1, t2, t3, t4⟩ := h.1.2.2.2.2.1
  have hT6 : Tp6 (fun k => m.1 45 0 k) tp m := ⟨t1, t2, fun k hk => ⟨rfl, (t4 k hk).2⟩⟩
  have hT7 : Tp7 (fun k => m.1 45 0 k) tp m := ⟨t1, t3, fun k hk => ⟨(t4 k hk).1.symm, (t4 k hk).2⟩⟩
  unfold Eq2
  refine (coast6 h hT6).mono ?_
  intro r m1 ⟨z, hc⟩
  have go : ∀ (D : Nat → Nat → Nat → Prop), FrP D m m1 → (∀ c i k, D c i k → Dk6 c i k ∨ (c = 47 ∧ i = 0 ∧ k = 0) ∨ Dbe 0 c i k) → Lv v m1 ∧ RelK m1 ∧ Tp7 (fun k => m.1 45 0 k) tp m1 := by
    intro D f0 hD
    have f := f0.mono hD
    refine ⟨Lv_fr h2 f (by unfold Dlv Dk6 Drs Dst Dsc Dtw Dbe; omega), RelK_fr h8 f.1 (by unfold Dk6 Drs Dst Dsc Dtw Dbe; omega) (by unfold Dk6 Drs Dst Dsc Dtw Dbe; omega), t1, ?_, fun k hk => ?_⟩
    · rw [f.1 7 0 13 (by unfold Dk6 Drs Dst Dsc Dtw Dbe; omega)]; exact t3
    · rw [f.1 58 0 k (by unfold Dk6 Drs Dst Dsc Dtw Dbe; omega)]; exact hT7.2.2 k hk
  have e33 : ∀ m2, FrP DkN m m2 → m2.1 33 = m.1 33 := by
    intro m2 f
    funext i k
    exact f.1 33 i k (by unfold DkN DkF Dk6 Dk7 Drs Dst Dsc Dtw Dco Dnx Dlv Dto Dbe; omega)
  rcases hc with ⟨s, e1, e2, e3, f⟩ | ⟨c, v', nb', nw', nc', e1, e2, e3, e4, f⟩
  · obtain ⟨L1, K1, T1⟩ := go _ f (fun c i k d => by rcases d with d | d; exact Or.inl d; exact Or.inr (Or.inl d))
    refine (coastM L1 hF K1 T1).mono ?_
    intro r' m2 ⟨z2, hc⟩
    rcases hc with ⟨s', b1, b2, b3, b4, g⟩ | ⟨_, _, _, _, _, b1, _⟩
    · rw [e1] at b1
      have es : s = s' := Sum.inl.inj b1
      have F : FrP DkN m m2 := (f.mono (fun c i k d => by unfold DkN DkF; rcases d with d | d; exact Or.inl (Or.inl d); exact Or.inr (Or.inl d))).trans (g.mono (fun c i k d => by unfold DkN DkF; rcases d with d | d; exact Or.inl (Or.inr (Or.inl d)); exact Or.inr (Or.inr d)))
      refine ⟨by rw [e2, b2, es], ⟨v, nb, nw, nc, Rlt_co h F (Nat.le_refl _) hF b3 ?_ ?_ z2 ?_⟩, e33 m2 F⟩
      · have hb8 := hF.2.1
        have hw6 := hF.2.2.2.1
        have w1 : RelW m1.1 0 nb nw v := RelW_fr h3 f (by unfold Dk6 Drs Dst Dsc Dtw Dbe; omega) (by unfold Dk6 Drs Dst Dsc Dtw Dbe; omega) (by unfold Dk6 Drs Dst Dsc Dtw Dbe; omega) (by unfold Dk6 Drs Dst Dsc Dtw Dbe; omega)
        exact RelW_fr w1 g (by unfold Dk7 Dco Dnx Dlv Dto; omega) (by unfold Dk7 Dco Dnx Dlv Dto; omega) (by unfold Dk7 Dco Dnx Dlv Dto; omega) (by unfold Dk7 Dco Dnx Dlv Dto; omega)
      · rw [g.1 2 0 0 (by unfold Dk7 Dco Dnx Dlv Dto; omega)]; exact z
      · intro k hk
        have e := h7 k hk
        have g47 : m2.1 47 0 k = m1.1 47 0 k := g.1 47 0 k (by unfold Dk7 Dco Dnx Dlv Dto; omega)
        have f61 : m1.1 61 0 (2 + k) = m.1 61 0 (2 + k) := f.1 61 0 (2 + k) (by unfold Dk6 Drs Dst Dsc Dtw Dbe; omega)
        by_cases q : k = 0
        · subst q
          rw [g47, e3, show 2 + 0 = 2 from rfl, b4]
          rw [show m1.1 61 0 2 = m.1 61 0 2 from f61, e]
        · rw [g47, f.1 47 0 k (by unfold Dk6 Drs Dst Dsc Dtw Dbe; omega), g.1 61 0 (2 + k) (by unfold Dk7 Dco Dnx Dlv Dto; omega), f61]; exact e
    · rw [e1] at b1; cases b1
  · obtain ⟨L1, K1, T1⟩ := go _ f (fun c i k d => by rcases d with d | d; exact Or.inl d; exact Or.inr (Or.inr d))
    refine (coastM L1 hF K1 T1).mono ?_
    intro r' m2 ⟨z2, hc⟩
    rcases hc with ⟨s', b1, b2, b3, b4, g⟩ | ⟨c2, v2, nb2, nw2, nc2, b1, b2, b3, g⟩
    · rw [e1] at b1; cases b1
    · rw [e1] at b1
      obtain ⟨q1, q2, q3, q4, q5⟩ : c = c2 ∧ v' = v2 ∧ nb' = nb2 ∧ nw' = nw2 ∧ nc' = nc2 := by
        have := Sum.inr.inj b1
        simpa [Prod.mk.injEq] using this
      subst q1 q2 q3 q4 q5
      have F : FrP DkN m m2 := (f.mono (fun c i k d => by unfold DkN DkF; rcases d with d | d; exact Or.inl (Or.inl d); exact Or.inl (Or.inr (Or.inr d)))).trans (g.mono (fun c i k d => by unfold DkN DkF; exact Or.inl (Or.inr (Or.inl d))))
      refine ⟨by rw [e2, b2], ⟨v', nb', nw', nc', Rlt_co h F (coR_nb _ _ _ _ _ _ _ _ _ _ _ _ e1) e4 b3 ?_ ?_ z2 ?_⟩, e33 m2 F⟩
      · exact RelW_fr e3 g (by unfold Dk7 Dco Dnx Dlv Dto; omega) (by unfold Dk7 Dco Dnx Dlv Dto; omega) (by unfold Dk7 Dco Dnx Dlv Dto; omega) (by unfold Dk7 Dco Dnx Dlv Dto; omega)
      · rw [g.1 2 0 0 (by unfold Dk7 Dco Dnx Dlv Dto; omega)]; exact z
      · exact RelN_fr h7 ((f.mono (D' := DkF) (fun c i k d => by unfold DkF; rcases d with d | d; exact Or.inl d; exact Or.inr (Or.inr d))).trans (g.mono (D' := DkF) (fun c i k d => by unfold DkF; exact Or.inr (Or.inl d)))).1 (by unfold DkF Dk6 Dk7 Drs Dst Dsc Dtw Dco Dnx Dlv Dto Dbe; omega) (by unfold DkF Dk6 Dk7 Drs Dst Dsc Dtw Dco Dnx Dlv Dto Dbe; omega)
