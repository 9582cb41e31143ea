/-! PURE: pairs, the model's tries -/
theorem fst1_or (p : Nat → Bool) (N d : Nat) : (fst1 p N d = -1 ∧ ∀ x, d ≤ x → x < d + N → p x = false) ∨ ∃ x, d ≤ x ∧ x < d + N ∧ p x = true ∧ (∀ y, d ≤ y → y < x → p y = false) ∧ fst1 p N d = nI x := by
  induction N generalizing d with
  | zero => exact Or.inl ⟨rfl, fun x _ _ => by omega⟩
  | succ N ih =>
    unfold fst1
    by_cases q : p d = true
    · rw [if_pos q]
      exact Or.inr ⟨d, Nat.le_refl _, by omega, q, fun y _ _ => by omega, rfl⟩
    · rw [if_neg q]
      have q' : p d = false := by cases h : p d with
        | false => rfl
        | true => exact absurd h q
      rcases ih (d + 1) with ⟨e, h⟩ | ⟨x, h1, h2, h3, h4, h5⟩
      · refine Or.inl ⟨e, fun x hx hx' => ?_⟩
        by_cases k : x = d
        · rw [k]; exact q'
        · exact h x (by omega) (by omega)
      · refine Or.inr ⟨x, by omega, by omega, h3, fun y hy hy' => ?_, h5⟩
        by_cases k : y = d
        · rw [k]; exact q'
        · exact h4 y (by omega) hy'
/-- within so many days, from within sixty -/
theorem met_cut (v : Nat → Int32) (b k : Nat) {n : Nat} (hn : n < 61) : (met v b k 60 = -1 → met v b k n = -1) ∧ (¬ met v b k 60 = -1 → met v b k 60 ≤ nI n → met v b k n = met v b k 60) ∧ (¬ met v b k 60 = -1 → ¬ met v b k 60 ≤ nI n → met v b k n = -1) := by
  unfold met
  rcases fst1_or (fun d => decide ((simN v b d).2 = 0 ∧ (simN v b d).1 = (wlk v k d).1)) 60 1 with ⟨e, h⟩ | ⟨x, h1, h2, h3, h4, h5⟩
  · exact ⟨fun _ => fst1_none n 1 (fun x a b => h x a (by omega)), fun c => absurd e c, fun c => absurd e c⟩
  · rw [h5]
    refine ⟨fun c => absurd c (n_nm1 (by omega)), fun _ c => ?_, fun _ c => ?_⟩
    · rw [n_le (by omega) (by omega)] at c
      exact fst1_some n 1 x h4 h1 (by omega) h3
    · rw [n_le (by omega) (by omega)] at c
      exact fst1_none n 1 (fun y a b => h4 y a (by omega))
theorem chR_ext (ok : Nat → Bool) (sc : Nat → Nat) {n : Nat} (k : Nat) (h : ∀ w, n ≤ w → ok w = false) : chR ok sc (n + k) = chR ok sc n := by
  induction k with
  | zero => rfl
  | succ k ih =>
    show (if ok (n + k) = true then _ else chR ok sc (n + k)) = _
    rw [h (n + k) (by omega), if_neg (by decide)]; exact ih
theorem bfR_0 {A : Nat → Nat → Bool} {V : Nat → Nat → Nat} {nb : Nat} (hA : ∀ i w, nb ≤ i → A i w = false) (r : Nat) (hr : r ≤ 8 - nb) (mask : Int32) : bfR A V r mask = 0 := by
  induction r generalizing mask with
  | zero => rfl
  | succ r ih =>
    rw [bfR_s]; unfold ndR
    have := chR_ext (n := 0) (okm A (7 - r) mask) (scR A V r mask) 6 (fun w _ => by unfold okm; rw [hA _ _ (by omega)]; rfl)
    rw [Nat.zero_add] at this
    rw [this]
    exact ih (by omega) mask
/-- the record -/
def rs (m : MM) : Int := 1000 * (m.1 7 0 30).toInt - (m.1 7 0 31).toInt
def Rok (m : MM) : Prop := (m.1 7 0 30 = -1 ∧ m.1 7 0 31 = 0) ∨ ∃ c d, c ≤ 8 ∧ d ≤ 60 * c ∧ m.1 7 0 30 = nI c ∧ m.1 7 0 31 = nI d
def Sm (m m' : MM) : Prop := m'.1 7 0 30 = m.1 7 0 30 ∧ m'.1 7 0 31 = m.1 7 0 31 ∧ ∀ k, m'.1 67 0 k = m.1 67 0 k
theorem Sm.rse {m m' : MM} (h : Sm m m') : rs m' = rs m := by unfold rs; rw [h.1, h.2.1]
theorem Sm.rok {m m' : MM} (h : Sm m m') (r : Rok m) : Rok m' := by unfold Rok; rw [h.1, h.2.1]; exact r
theorem Sm.trans {m m' m'' : MM} (h : Sm m m') (g : Sm m' m'') : Sm m m'' := ⟨g.1.trans h.1, g.2.1.trans h.2.1, fun k => (g.2.2 k).trans (h.2.2 k)⟩
def Dtr (i : Nat) : Nat → Nat → Nat → Prop := fun c j k => j = 0 ∧ ((c = 7 ∧ (k = 30 ∨ k = 31)) ∨ (c = 66 ∧ i ≤ k) ∨ c = 67)
/-- a node's end: the record beaten by its best, or as it was -/
def TQ (A : Nat → Nat → Bool) (V : Nat → Nat → Nat) (nb i : Nat) (mask : Int32) (b : Int) (m m' : MM) : Prop :=
  (rs m < b + bfR A V (8 - i) mask ∧ rs m' = b + bfR A V (8 - i) mask ∧ (∀ k, k < i → m'.1 67 0 k = m.1 66 0 k) ∧ ∀ j, i + j < nb → m'.1 67 0 (i + j) = ptR A V (8 - i) mask j) ∨ (¬ rs m < b + bfR A V (8 - i) mask ∧ Sm m m')
def Bst (A : Nat → Nat → Bool) (V : Nat → Nat → Nat) (nb i : Nat) (b : Int) (s : Nat) (p q : Int32) (m0 m m' : MM) : Prop :=
  (rs m < b + s ∧ rs m' = b + s ∧ (∀ k, k < i → m'.1 67 0 k = m0.1 66 0 k) ∧ m'.1 67 0 i = p ∧ ∀ j, i + 1 + j < nb → m'.1 67 0 (i + 1 + j) = ptR A V (7 - i) q j) ∨ (¬ rs m < b + s ∧ Sm m m')
theorem Bst.first {A : Nat → Nat → Bool} {V : Nat → Nat → Nat} {nb i s : Nat} {b : Int} {p q : Int32} {m m' m2 : MM} (h : Sm m m') (g : Bst A V nb i b s p q m m' m2) : Bst A V nb i b s p q m m m2 := by
  rcases g with ⟨g1, g⟩ | ⟨g1, g⟩
  · exact Or.inl ⟨by rw [← h.rse]; exact g1, g⟩
  · exact Or.inr ⟨by rw [← h.rse]; exact g1, h.trans g⟩
theorem Bst.next {A : Nat → Nat → Bool} {V : Nat → Nat → Nat} {nb i s s' : Nat} {b : Int} {p q p' q' : Int32} {m m' m2 : MM} (h : Bst A V nb i b s p q m m m') (g : Bst A V nb i b s' p' q' m m' m2) : (s < s' → Bst A V nb i b s' p' q' m m m2) ∧ (¬ s < s' → Bst A V nb i b s p q m m m2) := by
  rcases h with ⟨h1, h2, h3, h4, h5⟩ | ⟨h1, h2⟩
  · rcases g with ⟨g1, g2, g3, g4, g5⟩ | ⟨g1, g2⟩
    · rw [h2] at g1
      exact ⟨fun _ => Or.inl ⟨by omega, g2, g3, g4, g5⟩, fun c => by omega⟩
    · rw [h2] at g1
      exact ⟨fun c => by omega, fun _ => Or.inl ⟨h1, by rw [g2.rse]; exact h2, fun k hk => (g2.2.2 k).trans (h3 k hk), (g2.2.2 i).trans h4, fun j hj => (g2.2.2 _).trans (h5 j hj)⟩⟩
  · have er := h2.rse
    rcases g with ⟨g1, g2, g3, g4, g5⟩ | ⟨g1, g2⟩
    · rw [er] at g1
      exact ⟨fun _ => Or.inl ⟨g1, g2, g3, g4, g5⟩, fun c => by omega⟩
    · rw [er] at g1
      exact ⟨fun _ => Or.inr ⟨g1, h2.trans g2⟩, fun _ => Or.inr ⟨h1, h2.trans g2⟩⟩
/-- a child, tried with one walker or with none -/
theorem Bst.child {A : Nat → Nat → Bool} {V : Nat → Nat → Nat} {nb i s : Nat} {b bq : Int} {p q : Int32} {m m' m2 : MM} (f : FrP (Dtr i) m m') (h : TQ A V nb (i + 1) q bq (upI m'.1 66 0 i p, m'.2) m2) (e : bq + bfR A V (8 - (i + 1)) q = b + s) : Bst A V nb i b s p q m m' m2 := by
  have er : rs (upI m'.1 66 0 i p, m'.2) = rs m' := by
    unfold rs; dsimp only; rw [upI_nn (by omega), upI_nn (by omega)]
  have e8 : 8 - (i + 1) = 7 - i := by omega
  rcases h with ⟨h1, h2, h3, h4⟩ | ⟨h1, h2⟩
  · rw [er, e] at h1
    rw [e] at h2
    refine Or.inl ⟨h1, h2, fun k hk => ?_, ?_, fun j hj => ?_⟩
    · rw [h3 k (by omega)]
      dsimp only
      rw [upI_nn (by omega)]; exact f.1 66 0 k (by unfold Dtr; omega)
    · rw [h3 i (by omega)]; exact upI_same _ _ _ _ _
    · rw [← e8]; exact h4 j hj
  · rw [er, e] at h1
    refine Or.inr ⟨h1, ?_, ?_, fun k => ?_⟩
    · rw [h2.1]; dsimp only; rw [upI_nn (by omega)]
    · rw [h2.2.1]; dsimp only; rw [upI_nn (by omega)]
    · rw [h2.2.2 k]; dsimp only; rw [upI_nn (by omega)]
/-- a node's end, from its children's -/
theorem TQ.of {A : Nat → Nat → Bool} {V : Nat → Nat → Nat} {nb i : Nat} {b : Int} {mask : Int32} {m m' : MM} (hi : i < 8) (h : Bst A V nb i b (ndR A V (7 - i) mask).1 (ndR A V (7 - i) mask).2 (nxt mask (ndR A V (7 - i) mask).2) m m m') : TQ A V nb i mask b m m' := by
  have e8 : 8 - i = (7 - i) + 1 := by omega
  unfold TQ
  rw [e8, bfR_s]
  rcases h with ⟨h1, h2, h3, h4, h5⟩ | h
  · refine Or.inl ⟨h1, h2, h3, fun j hj => ?_⟩
    cases j with
    | zero => exact h4
    | succ j => rw [show i + (j + 1) = i + 1 + j by omega]; exact h5 j (by omega)
  · exact Or.inr h
/-- what the tries read -/
def Stc (v : Nat → Int32) (nb nw : Nat) (m : MM) : Prop := m.1 7 0 4 = nI nb ∧ m.1 7 0 10 = nI nw ∧ ∀ i w, i < nb → w < nw → m.1 65 0 (6 * i + w) = met v i w 60
theorem Stc.fr {v : Nat → Int32} {nb nw i : Nat} {m m' : MM} (h : Stc v nb nw m) (f : FrP (Dtr i) m m') : Stc v nb nw m' := by
  obtain ⟨a, b, c⟩ := h
  exact ⟨by rw [f.1 7 0 4 (by unfold Dtr; omega)]; exact a, by rw [f.1 7 0 10 (by unfold Dtr; omega)]; exact b, fun i w hi hw => by rw [f.1 65 0 _ (by unfold Dtr; omega)]; exact c i w hi hw⟩
/-- a leaf that is taken down -/
theorem leaf_ok {rc : Nat → Int32 → Int32 → Int32 → Int32 → Int32 → MM → Option (Unit × MM)} {c d : Nat} (m : MM) : Ok (fX7_tries_j34 rc 0 (nI c) (nI d) m) (fun _ m' => m'.1 7 0 30 = nI c ∧ m'.1 7 0 31 = nI d ∧ (∀ k, k < 8 → m'.1 67 0 k = m.1 66 0 k) ∧ FrP (fun c j k => j = 0 ∧ ((c = 7 ∧ (k = 30 ∨ k = 31)) ∨ c = 67)) m m') := by
  unfold fX7_tries_j34
  refine Ok.bind (Ok.fold (f := fX7_tries_b48 rc 0) 8 (fun k => nI k) () (fun k m' => m'.1 7 0 30 = nI c ∧ m'.1 7 0 31 = nI d ∧ (∀ j, j < k → m'.1 67 0 j = m.1 66 0 j) ∧ FrP (fun c j k => j = 0 ∧ ((c = 7 ∧ (k = 30 ∨ k = 31)) ∨ c = 67)) m m') ?_ ?_ (by omega) _ ?_) (fun _ m' ⟨_, h⟩ => Ok.ret h)
  · intro k m' hk ⟨a1, a2, a3, a4⟩
    unfold fX7_tries_b48
    rw [if_neg (by rw [show (8 : Int32) = nI 8 from rfl, n_le (by omega) (by omega)]; omega), inB_t hk (by omega), cond_true, cond_true, n_cl (show k < 2147483648 by omega), a4.1 66 0 k (by omega)]
    refine Ok.ret ⟨by rw [n_s], ?_, ?_, fun j hj => ?_, FrP.up (m' := m') a4 (by omega) _⟩
    · dsimp only; rw [upI_nn (by omega)]; exact a1
    · dsimp only; rw [upI_nn (by omega)]; exact a2
    · dsimp only
      by_cases q : j = k
      · rw [q, upI_same]
      · rw [upI_nn (by omega)]; exact a3 j (by omega)
  · intro m' _
    unfold fX7_tries_b48
    rw [if_pos (show (8 : Int32) ≤ nI 8 by decide)]
  · refine ⟨?_, ?_, fun j hj => by omega, FrP.up (m' := (upI m.1 7 0 30 (nI c), m.2)) (FrP.up (m' := m) FrP.rfl (by omega) _) (by omega) _⟩
    · dsimp only; rw [upI_nn (by omega), upI_same]
    · dsimp only; rw [upI_same]
theorem rs_of {m : MM} {c d : Nat} (h1 : m.1 7 0 30 = nI c) (h2 : m.1 7 0 31 = nI d) (hc : c < 1000) (hd : d < 1000) : rs m = 1000 * (c : Int) - d := by
  unfold rs; rw [h1, h2, n_ti (by omega), n_ti (by omega)]
theorem leaf7 {A : Nat → Nat → Bool} {V : Nat → Nat → Nat} {v : Nat → Int32} {rc : Nat → Int32 → Int32 → Int32 → Int32 → Int32 → MM → Option (Unit × MM)} {nb nw c d : Nat} {mask a5 : Int32} {m : MM} (h8 : nb ≤ 8) (hA : ∀ i w, nb ≤ i → A i w = false) (hc : c ≤ nb) (hd : d ≤ 60 * c) (hS : Stc v nb nw m) (hR : Rok m) : Ok (fX7_tries_s rc 0 (nI nb) mask (nI c) (nI d) a5 m) (fun _ m' => TQ A V nb nb mask (1000 * (c : Int) - d) m m' ∧ Rok m' ∧ FrP (Dtr nb) m m') := by
  unfold fX7_tries_s
  rw [hS.1, if_neg (fun h => h rfl)]
  have b0 := bfR_0 (V := V) hA (8 - nb) (Nat.le_refl _) mask
  have yes : rs m < 1000 * (c : Int) - d → Ok (fX7_tries_j34 rc 0 (nI c) (nI d) m) (fun _ m' => TQ A V nb nb mask (1000 * (c : Int) - d) m m' ∧ Rok m' ∧ FrP (Dtr nb) m m') := by
    intro hl
    refine (leaf_ok m).mono ?_
    intro _ m' ⟨a1, a2, a3, a4⟩
    refine ⟨Or.inl ⟨by rw [b0]; omega, by rw [b0, rs_of a1 a2 (by omega) (by omega)]; omega, fun k hk => a3 k (by omega), fun j hj => by omega⟩, Or.inr ⟨c, d, by omega, hd, a1, a2⟩, a4.mono (by unfold Dtr; omega)⟩
  have no : ¬ rs m < 1000 * (c : Int) - d → Ok (some ((), m)) (fun (_ : Unit) m' => TQ A V nb nb mask (1000 * (c : Int) - d) m m' ∧ Rok m' ∧ FrP (Dtr nb) m m') := by
    intro hl
    exact Ok.ret ⟨Or.inr ⟨by rw [b0]; omega, rfl, rfl, fun _ => rfl⟩, hR, FrP.rfl⟩
  have hR' := hR
  rcases hR' with ⟨r1, r2⟩ | ⟨c', d', r1, r2, r3, r4⟩
  · rw [r1]
    have e : ¬ nI c < -1 := by rw [Int32.lt_iff_toInt_lt, n_ti (by omega), show (-1 : Int32).toInt = -1 from rfl]; omega
    rw [if_neg e, if_pos (n_nm1 (by omega))]
    refine yes ?_
    unfold rs
    rw [r1, r2, show (-1 : Int32).toInt = -1 from rfl, show (0 : Int32).toInt = 0 from rfl]
    omega
  · have e := rs_of r3 r4 (by omega) (by omega)
    rw [r3, r4]
    by_cases q1 : c < c'
    · rw [if_pos (by rw [n_lt (by omega) (by omega)]; exact q1)]
      exact no (by omega)
    · rw [if_neg (by rw [n_lt (by omega) (by omega)]; exact q1)]
      by_cases q2 : c = c'
      · rw [if_neg (fun h => h (by rw [q2]))]
        by_cases q3 : d < d'
        · rw [if_pos (by rw [n_lt (by omega) (by omega)]; exact q3)]
          exact yes (by omega)
        · rw [if_neg (by rw [n_lt (by omega) (by omega)]; exact q3)]
          exact no (by omega)
      · rw [if_pos (by rw [n_inj (by omega) (by omega)]; exact q2)]
        exact yes (by omega)
