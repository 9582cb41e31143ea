/-! PURE: the two memories side by side -/
def BF (mi : MI) (j : Nat) (v : Nat → Int32) (b : Nat) : Prop := mi 0 j 0 = v (30 + b) ∧ mi 0 j 1 = v (39 + b) ∧ mi 0 j 2 = v (48 + b) ∧ mi 0 j 3 = v (57 + b) ∧ mi 0 j 4 = v (66 + b)
def WFd (mi : MI) (x : Nat) (v : Nat → Int32) (k : Nat) : Prop := mi 4 x 0 = v (75 + k) ∧ mi 4 x 1 = v (81 + k) ∧ mi 4 x 2 = v (87 + k)
def RelW (mi : MI) (w nb nw : Nat) (v : Nat → Int32) : Prop :=
  mi 5 w 0 = v 93 ∧ mi 5 w 1 = v 94 ∧ mi 5 w 2 = v 95 ∧ mi 5 w 3 = v 96 ∧ mi 5 w 4 = v 99 ∧ mi 5 w 5 = v 97 ∧ mi 5 w 6 = v 98 ∧ (∀ c, c < 30 → mi 40 w c = v c) ∧ (∀ b, b < nb → BF mi (9 * w + 1 + b) v b) ∧ (∀ k, k < nw → WFd mi (7 * w + 1 + k) v k)
def WF (v : Nat → Int32) (nb nw nc : Nat) : Prop :=
  v 97 = nI nb ∧ nb ≤ 8 ∧ v 98 = nI nw ∧ nw ≤ 6 ∧ v 93 = nI nc ∧ 16 ≤ nc ∧ nc ≤ 30 ∧ (∀ b, b < 8 → inB (v (48 + b)) 30 = true ∧ (v (57 + b) = -1 ∨ inB (v (57 + b)) 6 = true)) ∧ (∀ b, b < nb → inB (v (48 + b)) nc = true ∧ inB (v (57 + b)) nw = true ∧ inB (v (66 + b)) 3 = true ∧ inB (v (30 + b)) 6 = true) ∧ (∀ w, w < nw → inB (v (81 + w)) 4 = true ∧ Kok nc (vW v w)) ∧ inB (v 95) 1000 = true
def RelS (m : MM) (nb : Nat) : Prop := ∀ s, s < 8 → m.1 1 s 0 = m.1 59 0 s ∧ m.1 1 s 1 = m.1 60 0 s ∧ (∀ k, k < 40 → m.2 20 s k = m.2 21 0 (40 * s + k)) ∧ (m.1 1 s 0 = -1 ∨ inB (m.1 1 s 0) 5 = true ∨ ∃ b, b < nb ∧ m.1 1 s 0 = nI (10 + b)) ∧ inB (m.1 1 s 1) 41 = true
def RelT (m : MM) : Prop := ∃ tp, tp ≤ 250 ∧ m.1 2 0 0 = nI tp ∧ m.1 7 0 13 = nI tp ∧ ∀ k, k < tp → m.1 45 0 k = m.1 58 0 k ∧ inB (m.1 45 0 k) 256 = true
def RelI (m : MM) : Prop := (m.1 6 0 3 = 0 ∧ m.1 7 0 23 = 0) ∨ (m.1 6 0 3 = 1 ∧ m.1 7 0 23 = 1 ∧ ∃ nb nw nc, WF (m.1 62 0) nb nw nc ∧ RelW m.1 1 nb nw (m.1 62 0))
def RelN (m : MM) : Prop := ∀ k, k < 5 → m.1 47 0 k = m.1 61 0 (2 + k)
/-- the letters of the strings, by string and place -/
def wrd : List (List Nat) := [[99, 101, 108, 108, 115], [119, 97, 108, 107, 101, 114], [98, 111, 116, 116, 108, 101], [99, 117, 114, 114, 101, 110, 116], [119, 105, 110, 100], [100, 97, 121]]
/-- the string of a number: the class's six, then the model's -/
def wds : Nat → List Nat
  | 6 => wrd.getD 1 []
  | 7 => wrd.getD 2 []
  | 8 => wrd.getD 0 []
  | 9 => wrd.getD 3 []
  | 10 => wrd.getD 4 []
  | 11 => wrd.getD 5 []
  | a => wrd.getD a []
def RelK (m : MM) : Prop := m.1 32 0 0 = -1 ∧ m.1 32 0 1 = 0 ∧ m.1 32 0 2 = 0 ∧ m.1 32 0 3 = 1 ∧ m.1 32 0 4 = 2 ∧ m.1 32 0 5 = 0 ∧ ∀ a, a < 12 → m.1 31 a 1 = 0 ∧ ∀ j, j < (wds a).length → m.1 30 a j = nI ((wds a).getD j 0)
/-- all of it, but for the refusals' counts -/
def Rel0 (v : Nat → Int32) (nb nw nc : Nat) (m : MM) : Prop := WF v nb nw nc ∧ Lv v m ∧ RelW m.1 0 nb nw v ∧ RelS m nb ∧ RelT m ∧ RelI m ∧ RelK m
/-- all of it -/
def Rlt (v : Nat → Int32) (nb nw nc : Nat) (m : MM) : Prop := Rel0 v nb nw nc m ∧ RelN m
/-- what may change without a trace -/
def Scr : Nat → Nat → Nat → Prop := fun c i k =>
  (c = 0 ∧ (i % 9 = 0 ∨ 18 ≤ i)) ∨ (c = 4 ∧ (i % 7 = 0 ∨ 14 ≤ i)) ∨ ((c = 5 ∨ c = 40) ∧ 2 ≤ i) ∨ (41 ≤ c ∧ c ≤ 44) ∨ c = 48 ∨ c = 46 ∨ (c = 2 ∧ 1 ≤ k) ∨ (c = 62 ∧ 1 ≤ i) ∨ (65 ≤ c ∧ c ≤ 68) ∨ (c = 7 ∧ ((15 ≤ k ∧ k ≤ 18) ∨ k = 30 ∨ k = 31)) ∨ (52 ≤ c ∧ c ≤ 56 ∧ 8 ≤ k)
theorem Lv_slot {v : Nat → Int32} {m m' : MM} (h : Lv v m) (f : FrP Scr m m') : ∃ v', Lv v' m' ∧ (∀ k, ¬ (k = 38 ∨ k = 47 ∨ k = 56 ∨ k = 65 ∨ k = 74) → v' k = v k) := by
  have g : ∀ c k, ¬ Scr c 0 k → m'.1 c 0 k = m.1 c 0 k := fun c k hk => f.1 c 0 k hk
  refine ⟨fun k => if k = 38 then m'.1 52 0 8 else if k = 47 then m'.1 53 0 8 else if k = 56 then m'.1 54 0 8 else if k = 65 then m'.1 55 0 8 else if k = 74 then m'.1 56 0 8 else v k, ?_, ?_⟩
  · obtain ⟨a1, a2, a3, a4, a5, a6, a7, a8, a9, a10⟩ := h
    refine ⟨fun c hc => ?_, fun b hb => ?_, fun k hk => ?_, ?_, ?_, ?_, ?_, ?_, ?_, ?_⟩
    · dsimp only
      rw [if_neg (by omega), if_neg (by omega), if_neg (by omega), if_neg (by omega), if_neg (by omega), a1 c hc, g 50 c (by unfold Scr; omega)]
    · obtain ⟨x1, x2, x3, x4, x5⟩ := a2 b hb
      dsimp only
      by_cases e : b = 8
      · subst e
        simp only [Nat.reduceAdd, Nat.reduceEqDiff, if_true, if_false, and_self]
      · rw [g 52 b (by unfold Scr; omega), g 53 b (by unfold Scr; omega), g 54 b (by unfold Scr; omega), g 55 b (by unfold Scr; omega), g 56 b (by unfold Scr; omega)]
        refine ⟨?_, ?_, ?_, ?_, ?_⟩
        all_goals rw [if_neg (by omega), if_neg (by omega), if_neg (by omega), if_neg (by omega), if_neg (by omega)]
        all_goals assumption
    · dsimp only
      rw [if_neg (by omega), if_neg (by omega), if_neg (by omega), if_neg (by omega), if_neg (by omega), a3 k hk, g 57 k (by unfold Scr; omega)]
    all_goals simp only [Nat.reduceEqDiff, if_false]
    · rw [a4, g 7 0 (by unfold Scr; omega)]
    · rw [a5, g 51 0 (by unfold Scr; omega)]
    · rw [a6, g 51 1 (by unfold Scr; omega)]
    · rw [a7, g 7 3 (by unfold Scr; omega)]
    · rw [a8, g 7 4 (by unfold Scr; omega)]
    · rw [a9, g 7 10 (by unfold Scr; omega)]
    · rw [a10, g 7 12 (by unfold Scr; omega)]
  · intro k hk
    dsimp only
    rw [if_neg (by omega), if_neg (by omega), if_neg (by omega), if_neg (by omega), if_neg (by omega)]
/-- the rows agree but for the ninth bottle -/
def EqV (v v' : Nat → Int32) : Prop := ∀ k, ¬ (k = 38 ∨ k = 47 ∨ k = 56 ∨ k = 65 ∨ k = 74) → v' k = v k
theorem WF_eqv {v v' : Nat → Int32} {nb nw nc : Nat} (h : WF v nb nw nc) (e : EqV v v') : WF v' nb nw nc := by
  obtain ⟨h1, h2, h3, h4, h5, h6, h7, h8, h9, h10, h11⟩ := h
  refine ⟨(e 97 (by omega)).trans h1, h2, (e 98 (by omega)).trans h3, h4, (e 93 (by omega)).trans h5, h6, h7, ?_, ?_, ?_, by rw [e 95 (by omega)]; exact h11⟩
  · intro b hb; rw [e (48 + b) (by omega), e (57 + b) (by omega)]; exact h8 b hb
  · intro b hb; rw [e (48 + b) (by omega), e (57 + b) (by omega), e (66 + b) (by omega), e (30 + b) (by omega)]; exact h9 b hb
  · intro w hw; unfold vW; rw [e (81 + w) (by omega), e (75 + w) (by omega), e (87 + w) (by omega)]; exact h10 w hw
theorem RelW_eqv {mi : MI} {w : Nat} {v v' : Nat → Int32} {nb nw : Nat} (h : RelW mi w nb nw v) (hb : nb ≤ 8) (hw : nw ≤ 6) (e : EqV v v') : RelW mi w nb nw v' := by
  obtain ⟨h1, h2, h3, h4, h5, h6, h7, h8, h9, h10⟩ := h
  refine ⟨h1.trans (e 93 (by omega)).symm, h2.trans (e 94 (by omega)).symm, h3.trans (e 95 (by omega)).symm, h4.trans (e 96 (by omega)).symm, h5.trans (e 99 (by omega)).symm, h6.trans (e 97 (by omega)).symm, h7.trans (e 98 (by omega)).symm, ?_, ?_, ?_⟩
  · intro c hc; rw [e c (by omega)]; exact h8 c hc
  · intro b hb; unfold BF; rw [e (30 + b) (by omega), e (39 + b) (by omega), e (48 + b) (by omega), e (57 + b) (by omega), e (66 + b) (by omega)]; exact h9 b hb
  · intro k hk; unfold WFd; rw [e (75 + k) (by omega), e (81 + k) (by omega), e (87 + k) (by omega)]; exact h10 k hk
theorem RelW_fr {m m' : MM} {w : Nat} {v : Nat → Int32} {nb nw : Nat} (h : RelW m.1 w nb nw v) {D : Nat → Nat → Nat → Prop} (f : FrP D m m') (h5 : ∀ k, k < 7 → ¬ D 5 w k) (h4 : ∀ k, k < 30 → ¬ D 40 w k) (h0 : ∀ b k, b < nb → k < 5 → ¬ D 0 (9 * w + 1 + b) k) (hW : ∀ b k, b < nw → k < 3 → ¬ D 4 (7 * w + 1 + b) k) : RelW m'.1 w nb nw v := by
  obtain ⟨a1, a2, a3, a4, a5, a6, a7, a8, a9, a10⟩ := h
  refine ⟨(f.1 _ _ _ (h5 0 (by omega))).trans a1, (f.1 _ _ _ (h5 1 (by omega))).trans a2, (f.1 _ _ _ (h5 2 (by omega))).trans a3, (f.1 _ _ _ (h5 3 (by omega))).trans a4, (f.1 _ _ _ (h5 4 (by omega))).trans a5, (f.1 _ _ _ (h5 5 (by omega))).trans a6, (f.1 _ _ _ (h5 6 (by omega))).trans a7, ?_, ?_, ?_⟩
  · intro c hc; rw [f.1 _ _ _ (h4 c hc)]; exact a8 c hc
  · intro b hb; unfold BF; rw [f.1 _ _ _ (h0 b 0 hb (by omega)), f.1 _ _ _ (h0 b 1 hb (by omega)), f.1 _ _ _ (h0 b 2 hb (by omega)), f.1 _ _ _ (h0 b 3 hb (by omega)), f.1 _ _ _ (h0 b 4 hb (by omega))]; exact a9 b hb
  · intro b hb; unfold WFd; rw [f.1 _ _ _ (hW b 0 hb (by omega)), f.1 _ _ _ (hW b 1 hb (by omega)), f.1 _ _ _ (hW b 2 hb (by omega))]; exact a10 b hb
/-- what may change without a trace, or are the refusals -/
def ScrN : Nat → Nat → Nat → Prop := fun c i k => Scr c i k ∨ c = 47 ∨ c = 61
theorem Rel0_frW {v v' : Nat → Int32} {nb nw nc : Nat} {m m' : MM} (h : Rel0 v nb nw nc m) (f : FrP ScrN m m') (l1 : Lv v' m') (l2 : EqV v v') : Rel0 v' nb nw nc m' := by
  obtain ⟨h1, h2, h3, h4, h5, h6, h8⟩ := h
  have hb := h1.2.1
  have hw := h1.2.2.2.1
  have W : ∀ w nb nw (v : Nat → Int32), w < 2 → nb ≤ 8 → nw ≤ 6 → RelW m.1 w nb nw v → RelW m'.1 w nb nw v := by
    intro w nb nw v hw2 hnb hnw h
    exact RelW_fr h f (by unfold ScrN Scr; omega) (by unfold ScrN Scr; omega) (by unfold ScrN Scr; omega) (by unfold ScrN Scr; omega)
  refine ⟨WF_eqv h1 l2, l1, RelW_eqv (W 0 nb nw v (by omega) hb hw h3) hb hw l2, ?_, ?_, ?_, ?_⟩
  · intro s hs
    rw [f.1 1 s 0 (by unfold ScrN Scr; omega), f.1 1 s 1 (by unfold ScrN Scr; omega), f.1 59 0 s (by unfold ScrN Scr; omega), f.1 60 0 s (by unfold ScrN Scr; omega), f.2]
    exact h4 s hs
  · obtain ⟨tp, t1, t2, t3, t4⟩ := h5
    refine ⟨tp, t1, (f.1 2 0 0 (by unfold ScrN Scr; omega)).trans t2, (f.1 7 0 13 (by unfold ScrN Scr; omega)).trans t3, fun k hk => ?_⟩
    rw [f.1 45 0 k (by unfold ScrN Scr; omega), f.1 58 0 k (by unfold ScrN Scr; omega)]
    exact t4 k hk
  · have e62 : m'.1 62 0 = m.1 62 0 := by funext k; exact f.1 62 0 k (by unfold ScrN Scr; omega)
    unfold RelI
    rw [f.1 6 0 3 (by unfold ScrN Scr; omega), f.1 7 0 23 (by unfold ScrN Scr; omega), e62]
    rcases h6 with h | ⟨a, b, nb', nw', nc', c, d⟩
    · exact Or.inl h
    · exact Or.inr ⟨a, b, nb', nw', nc', c, W 1 nb' nw' _ (by omega) c.2.1 c.2.2.2.1 d⟩
  · obtain ⟨a1, a2, a3, a4, a5, a6, a7⟩ := h8
    refine ⟨(f.1 32 0 0 (by unfold ScrN Scr; omega)).trans a1, (f.1 32 0 1 (by unfold ScrN Scr; omega)).trans a2, (f.1 32 0 2 (by unfold ScrN Scr; omega)).trans a3, (f.1 32 0 3 (by unfold ScrN Scr; omega)).trans a4, (f.1 32 0 4 (by unfold ScrN Scr; omega)).trans a5, (f.1 32 0 5 (by unfold ScrN Scr; omega)).trans a6, ?_⟩
    intro a ha
    refine ⟨(f.1 31 a 1 (by unfold ScrN Scr; omega)).trans (a7 a ha).1, fun j hj => ?_⟩
    exact (f.1 30 a j (by unfold ScrN Scr; omega)).trans ((a7 a ha).2 j hj)
theorem Rel_frW {v v' : Nat → Int32} {nb nw nc : Nat} {m m' : MM} (h : Rlt v nb nw nc m) (f : FrP Scr m m') (l1 : Lv v' m') (l2 : EqV v v') : Rlt v' nb nw nc m' := by
  refine ⟨Rel0_frW h.1 (f.mono (fun c i k h => Or.inl h)) l1 l2, ?_⟩
  intro k hk
  rw [f.1 47 0 k (by unfold Scr; omega), f.1 61 0 (2 + k) (by unfold Scr; omega)]
  exact h.2 k hk
theorem Rel_fr {v : Nat → Int32} {nb nw nc : Nat} {m m' : MM} (h : Rlt v nb nw nc m) (f : FrP Scr m m') : ∃ v', EqV v v' ∧ Rlt v' nb nw nc m' := by
  obtain ⟨v', l1, l2⟩ := Lv_slot h.1.2.1 f
  exact ⟨v', l2, Rel_frW h f l1 l2⟩
/-- what the class may change without a trace -/
def ScrC : Nat → Nat → Nat → Prop := fun c i k =>
  (c = 0 ∧ (i % 9 = 0 ∨ 18 ≤ i)) ∨ (c = 4 ∧ (i % 7 = 0 ∨ 14 ≤ i)) ∨ ((c = 5 ∨ c = 40) ∧ 2 ≤ i) ∨ (41 ≤ c ∧ c ≤ 44) ∨ c = 48 ∨ c = 46 ∨ (c = 2 ∧ 1 ≤ k)
theorem Rel_frC {v : Nat → Int32} {nb nw nc : Nat} {m m' : MM} (h : Rlt v nb nw nc m) (f : FrP ScrC m m') : Rlt v nb nw nc m' :=
  Rel_frW h (f.mono (by unfold Scr ScrC; omega)) (Lv_fr h.1.2.1 f (by unfold Dlv ScrC; omega)) (fun _ _ => rfl)
theorem Fr.toC {D : Nat → Nat → Prop} {m m' : MM} (h : Fr D m m') (k : ∀ c i, D c i → ∀ x, ScrC c i x) (h9 : ¬ D 999 999) : FrP ScrC m m' :=
  ⟨fun c i x d => (h c i (fun y => d (k c i y x)) x).1, h.snd h9⟩
/-! calls of both: equal answers, and the relation again -/
def Same (m : MM) (r r' : Int32) (m2 : MM) : Prop := r = r' ∧ (∃ v nb nw nc, Rlt v nb nw nc m2) ∧ m2.1 33 = m.1 33
def Eq2 {α : Type} (F G : MM → Option (α × MM)) (m : MM) : Prop := Ok (F m) (fun r m1 => Ok (G m1) (fun r' m2 => r = r' ∧ (∃ v nb nw nc, Rlt v nb nw nc m2) ∧ m2.1 33 = m.1 33))
/-- both only ask -/
theorem Eq2.ask {α : Type} {F G : MM → Option (α × MM)} {m : MM} {v : Nat → Int32} {nb nw nc : Nat} (h : Rlt v nb nw nc m) (x : α) (hF : Ok (F m) (fun r m' => r = x ∧ FrP ScrC m m')) (hG : ∀ m1, Rlt v nb nw nc m1 → Ok (G m1) (fun r m' => r = x ∧ FrP Scr m1 m')) : Eq2 F G m := by
  refine hF.mono ?_
  intro r m1 ⟨e, f⟩
  refine (hG m1 (Rel_frC h f)).mono ?_
  intro r' m2 ⟨e', f'⟩
  obtain ⟨v', _, h'⟩ := Rel_fr (Rel_frC h f) f'
  refine ⟨e.trans e'.symm, ⟨v', nb, nw, nc, h'⟩, ?_⟩
  have a : m2.1 33 = m1.1 33 := by funext i k; exact f'.1 33 i k (by unfold Scr; omega)
  have b : m1.1 33 = m.1 33 := by funext i k; exact f.1 33 i k (by unfold ScrC; omega)
  rw [a, b]
