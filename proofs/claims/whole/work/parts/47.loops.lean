/-! PURE: kinds of loops -/
theorem Ok.fold {σ τ : Type} {f : σ → MM → Option ((σ ⊕ τ) × MM)} (n : Nat) (st : Nat → σ) (t : τ) (S : Nat → MM → Prop) (h : ∀ i m, i < n → S i m → Ok (f (st i) m) (fun o m' => o = Sum.inl (st (i + 1)) ∧ S (i + 1) m')) (hx : ∀ m, S n m → f (st n) m = some (Sum.inr t, m)) (hn : n < 1000) (m : MM) (h0 : S 0 m) : Ok (loopF 1000 f (st 0) m) (fun r m' => r = t ∧ S n m') := by
  refine Ok.count 0 n (fun i s m => s = st i ∧ S i m) ?_ ?_ (by omega) 1000 (by omega) _ m ⟨rfl, h0⟩
  · intro i s m _ hi ⟨e, hS⟩
    rw [e]
    refine (h i m hi hS).mono ?_
    intro o m' ⟨e', hS'⟩
    rw [e']
    exact ⟨rfl, hS'⟩
  · intro s m ⟨e, hS⟩
    rw [e, hx m hS]
    exact Ok.ret ⟨rfl, hS⟩
theorem Ok.srch {f : Int32 → MM → Option ((Int32 ⊕ (Unit ⊕ Int32)) × MM)} {k : (Unit ⊕ Int32) × MM → Option (Int32 × MM)} (a b : Nat) (p : Nat → Bool) (S : Nat → MM → Prop) (F : MM → Prop)
    (h : ∀ d m, a ≤ d → d < b → S d m → Ok (f (nI d) m) (fun o m' => (p d = true ∧ o = Sum.inr (Sum.inr (nI d)) ∧ F m') ∨ (p d = false ∧ o = Sum.inl (nI (d + 1)) ∧ S (d + 1) m')))
    (hx : ∀ m, S b m → f (nI b) m = some (Sum.inr (Sum.inl ()), m) ∧ F m) (hab : a ≤ b) (hb : b < 1000) (k1 : ∀ m, k (Sum.inl (), m) = some (-1, m)) (k2 : ∀ x m, k (Sum.inr x, m) = some (x, m)) (m : MM) (h0 : S a m) :
    Ok ((loopF 1000 f (nI a) m).bind k) (fun r m' => r = fst1 p (b - a) a ∧ F m') := by
  refine Ok.bind (P := fun o m' => (match o with | .inl _ => -1 | .inr x => x) = fst1 p (b - a) a ∧ F m') ?_ ?_
  · refine Ok.count a b (fun i s m => s = nI i ∧ S i m ∧ ∀ d, a ≤ d → d < i → p d = false) ?_ ?_ hab 1000 (by omega) _ m ⟨rfl, h0, fun d h1 h2 => by omega⟩
    · intro i s m h1 h2 ⟨e, hS, hp⟩
      rw [e]
      refine (h i m h1 h2 hS).mono ?_
      intro o m' hh
      rcases hh with ⟨x, y, z⟩ | ⟨x, y, z⟩
      · rw [y]
        exact ⟨(fst1_some _ _ i hp h1 (by omega) x).symm, z⟩
      · rw [y]
        refine ⟨rfl, z, fun d h3 h4 => ?_⟩
        by_cases e : d = i
        · rw [e]; exact x
        · exact hp d h3 (by omega)
    · intro s m ⟨e, hS, hp⟩
      rw [e, (hx m hS).1]
      exact Ok.ret ⟨(fst1_none _ _ (fun x h1 h2 => hp x h1 (by omega))).symm, (hx m hS).2⟩
  · intro o m' ⟨e, hF⟩
    cases o with
    | inl x => rw [k1]; exact Ok.ret ⟨e, hF⟩
    | inr x => rw [k2]; exact Ok.ret ⟨e, hF⟩
/-- bits of those that are so -/
def bitF (p : Nat → Bool) : Nat → Int32
  | 0 => 0
  | n + 1 => if p n = true then bitF p n ||| (1 <<< (nI n &&& 31)) else bitF p n
theorem bitF_congr {p q : Nat → Bool} (n : Nat) (h : ∀ i, i < n → p i = q i) : bitF p n = bitF q n := by
  induction n with
  | zero => rfl
  | succ n ih =>
    show (if p n = true then bitF p n ||| _ else bitF p n) = (if q n = true then bitF q n ||| _ else bitF q n)
    rw [h n (by omega), ih (fun i hi => h i (by omega))]
/-- the best of many: its label, its days -/
def bst (lab t : Nat → Int32) : Nat → Int32 × Int32
  | 0 => (-1, -1)
  | n + 1 => if t n = -1 then bst lab t n else if (bst lab t n).2 = -1 then (lab n, t n) else if (bst lab t n).2 ≤ t n then bst lab t n else (lab n, t n)
theorem bst_inv {lab t : Nat → Int32} (n : Nat) (h : ∀ i, i < n → t i = -1 ∨ inB (t i) 61 = true) : (bst lab t n = (-1, -1)) ∨ (inB (bst lab t n).2 61 = true) := by
  induction n with
  | zero => exact Or.inl rfl
  | succ n ih =>
    have ih := ih (fun i hi => h i (by omega))
    show (if t n = -1 then bst lab t n else if (bst lab t n).2 = -1 then (lab n, t n) else if (bst lab t n).2 ≤ t n then bst lab t n else (lab n, t n)) = _ ∨ inB (if t n = -1 then bst lab t n else if (bst lab t n).2 = -1 then (lab n, t n) else if (bst lab t n).2 ≤ t n then bst lab t n else (lab n, t n)).2 61 = true
    by_cases e : t n = -1
    · rw [if_pos e]; exact ih
    · have ht := (h n (by omega)).resolve_left e
      rw [if_neg e]
      by_cases e2 : (bst lab t n).2 = -1
      · rw [if_pos e2]; exact Or.inr ht
      · rw [if_neg e2]
        by_cases e3 : (bst lab t n).2 ≤ t n
        · rw [if_pos e3]; exact ih
        · rw [if_neg e3]; exact Or.inr ht
/-- the same as the reference goes on with it: 61 stands for none -/
def bst7 (lab t : Nat → Int32) (n : Nat) : Int32 × Int32 := ((bst lab t n).1, if (bst lab t n).2 = -1 then 61 else (bst lab t n).2)
theorem bst7_step {lab t : Nat → Int32} (n : Nat) (h : ∀ i, i < n + 1 → t i = -1 ∨ inB (t i) 61 = true) : bst7 lab t (n + 1) = if t n = -1 then bst7 lab t n else if t n < (bst7 lab t n).2 then (lab n, t n) else bst7 lab t n := by
  have hi := bst_inv (lab := lab) n (fun i hi => h i (by omega))
  have e : bst lab t (n + 1) = if t n = -1 then bst lab t n else if (bst lab t n).2 = -1 then (lab n, t n) else if (bst lab t n).2 ≤ t n then bst lab t n else (lab n, t n) := rfl
  unfold bst7
  rw [e]
  by_cases e1 : t n = -1
  · rw [if_pos e1, if_pos e1]
  · have ht := (h n (by omega)).resolve_left e1
    have ht' := (inB_iff _ _).1 ht
    rw [if_neg e1, if_neg e1]
    have t61 : (61 : Int32).toInt = 61 := rfl
    by_cases e2 : (bst lab t n).2 = -1
    · rw [if_pos e2, if_pos e2]
      dsimp only
      rw [if_neg e1, if_pos (by rw [Int32.lt_iff_toInt_lt]; omega)]
    · rw [if_neg e2, if_neg e2]
      by_cases e3 : (bst lab t n).2 ≤ t n
      · rw [if_pos e3, if_neg e2]
        dsimp only
        rw [if_neg (by rw [Int32.lt_iff_toInt_lt]; rw [Int32.le_iff_toInt_le] at e3; omega)]
      · rw [if_neg e3]
        dsimp only
        rw [if_neg e1, if_pos (by rw [Int32.lt_iff_toInt_lt]; rw [Int32.le_iff_toInt_le] at e3; omega)]
theorem fst1_in (p : Nat → Bool) : ∀ (k d n : Nat), d + k ≤ n → n < 1000 → fst1 p k d = -1 ∨ inB (fst1 p k d) n = true := by
  intro k
  induction k with
  | zero => intro d n _ _; exact Or.inl rfl
  | succ k ih =>
    intro d n h hn
    show (if p d = true then nI d else fst1 p k (d + 1)) = -1 ∨ inB (if p d = true then nI d else fst1 p k (d + 1)) n = true
    by_cases e : p d = true
    · rw [if_pos e]; exact Or.inr (inB_t (by omega) (by omega))
    · rw [if_neg e]; exact ih (d + 1) n (by omega) hn
theorem til_in (v : Nat → Int32) (b : Nat) : til v b 60 = -1 ∨ inB (til v b 60) 61 = true := fst1_in _ 61 0 61 (by omega) (by omega)
theorem bst7_end {lab t : Nat → Int32} (n : Nat) (h : ∀ i, i < n → t i = -1 ∨ inB (t i) 61 = true) (hl : ∀ i, i < n → ¬ lab i = -1) : ((bst7 lab t n).1 = -1 ↔ (bst lab t n).2 = -1) ∧ (if (bst7 lab t n).1 = -1 then (bst7 lab t n).1 else (bst7 lab t n).2) = (bst lab t n).2 := by
  have key : (bst lab t n = (-1, -1)) ∨ (inB (bst lab t n).2 61 = true ∧ ¬ (bst lab t n).1 = -1) := by
    induction n with
    | zero => exact Or.inl rfl
    | succ n ih =>
      have ih := ih (fun i hi => h i (by omega)) (fun i hi => hl i (by omega))
      have e : bst lab t (n + 1) = if t n = -1 then bst lab t n else if (bst lab t n).2 = -1 then (lab n, t n) else if (bst lab t n).2 ≤ t n then bst lab t n else (lab n, t n) := rfl
      rw [e]
      by_cases e : t n = -1
      · rw [if_pos e]; exact ih
      · have ht := (h n (by omega)).resolve_left e
        rw [if_neg e]
        by_cases e2 : (bst lab t n).2 = -1
        · rw [if_pos e2]; exact Or.inr ⟨ht, hl n (by omega)⟩
        · rw [if_neg e2]
          by_cases e3 : (bst lab t n).2 ≤ t n
          · rw [if_pos e3]; exact ih
          · rw [if_neg e3]; exact Or.inr ⟨ht, hl n (by omega)⟩
  unfold bst7
  dsimp only
  rcases key with e | ⟨e1, e2⟩
  · rw [e]; exact ⟨Iff.rfl, if_pos rfl⟩
  · have : ¬ (bst lab t n).2 = -1 := by intro h; rw [h, inB_m1] at e1; cases e1
    rw [if_neg e2, if_neg this]
    exact ⟨⟨fun h => absurd h e2, fun h => absurd h this⟩, rfl⟩
theorem e_howAt (t d : Nat) (m : MM) (hd : d < 61) : fX3_howAt t (nI d) m = some (m.1 42 t d, m) := by
  rw [fX3_howAt_eq]; unfold fX3_howAt_b
  rw [inB_hi _ 61 (by omega), inB_t hd (by omega), if_pos rfl, n_cl (by omega)]; rfl
theorem e_cellAt (t d : Nat) (m : MM) (hd : d < 61) : fX3_cellAt t (nI d) m = some (m.1 41 t d, m) := by
  rw [fX3_cellAt_eq]; unfold fX3_cellAt_b
  rw [inB_hi _ 61 (by omega), inB_t hd (by omega), if_pos rfl, n_cl (by omega)]; rfl
/-! the reference's days on end -/
theorem simV_1 {v : Nat → Int32} {b d k : Nat} (h : ¬ (simV v b d).2 = 0) (hk : d ≤ k) : simV v b k = simV v b d := simB_cons h hk
theorem cnt_add {p q r : Nat → Bool} (n : Nat) (h : ∀ i, i < n → (r i = true ↔ (p i = true ∨ q i = true)) ∧ ¬ (p i = true ∧ q i = true)) : cnt p n + cnt q n = cnt r n := by
  induction n with
  | zero => rfl
  | succ n ih =>
    have ih := ih (fun i hi => h i (by omega))
    obtain ⟨a, b⟩ := h n (by omega)
    show (cnt p n + (if p n = true then 1 else 0)) + (cnt q n + (if q n = true then 1 else 0)) = cnt r n + (if r n = true then 1 else 0)
    by_cases hp : p n = true <;> by_cases hq : q n = true
    · exact absurd ⟨hp, hq⟩ b
    · rw [if_pos hp, if_neg hq, if_pos (a.2 (Or.inl hp))]; omega
    · rw [if_neg hp, if_pos hq, if_pos (a.2 (Or.inr hq))]; omega
    · rw [if_neg hp, if_neg hq, if_neg (fun h => (a.1 h).elim hp hq)]; omega
/-- how many are found in so many days -/
def nfd (v : Nat → Int32) (nb d : Nat) : Nat := cnt (fun b => decide ((vB v b).2 = 0 ∧ (simV v b d).2 = 1)) nb
theorem goesOn_ok {v : Nat → Int32} {nb nw nc : Nat} (n : Nat) (m : MM) (hL : Lv v m) (hnb : nb ≤ 8) (h97 : v 97 = nI nb) (hw : WFm v nb nw nc) (hx : ∀ b, b < nb → v (57 + b) = -1 ∨ inB (v (57 + b)) nw = true) (hn : n < 100) :
    Ok (fX7_goesOn 0 (nI n) m) (fun r m' => r = nI (nfd v nb n) ∧ SimM nb nw nc m n m') := by
  rw [fX7_goesOn_eq]; unfold fX7_goesOn_b
  simp only [bind_eta]
  have hS0 : SimM nb nw nc m 0 m := SimM.begin (hL.mv (by omega) hw)
  have z : nfd v nb 0 = 0 := by
    have : ∀ k, cnt (fun b => decide ((vB v b).2 = 0 ∧ (simV v b 0).2 = 1)) k = 0 := by
      intro k
      induction k with
      | zero => rfl
      | succ k ih =>
        refine (cnt_f ?_).trans ih
        rw [decide_eq_true_iff]
        intro ⟨a, b⟩
        have : (simV v k 0).2 = (vB v k).2 := rfl
        rw [this, a] at b
        exact absurd b (by decide)
    exact this nb
  refine Ok.fold (f := fX7_goesOn_b4 0 (nI n)) n (fun i => (nI (nfd v nb i), nI i)) (nI (nfd v nb n)) (fun i m' => SimM nb nw nc m i m') ?_ ?_ (by omega) m hS0 |>.mono ?_ |> (fun h => by rw [z] at h; exact h)
  · intro i m' hi hS
    unfold fX7_goesOn_b4
    have e7 : m'.1 7 0 4 = nI nb := by
      rw [hS.2.2.2.1.1 7 0 4 (by unfold Dps; omega), ← hL.2.2.2.2.2.2.2.1]; exact h97
    rw [if_neg (by rw [n_le (by omega) (by omega)]; omega), e7]
    refine (SimM.step (by omega) (by omega) hS).bind ?_
    intro r m2 ⟨s1, s2, _⟩
    refine Ok.ret ⟨?_, s1⟩
    dsimp only
    rw [s2, ← n_add, n_s]
    have : nfd v nb i + cnt (fun b => decide ((mB m' b).2 = 0 ∧ (mB m2 b).2 = 1)) nb = nfd v nb (i + 1) := by
      unfold nfd
      refine cnt_add nb ?_
      intro b hb
      have x1 : (mB m' b).2 = (simV v b i).2 := (hS.B hL hw (by omega) hb (hx b hb)).2
      have x2 : (mB m2 b).2 = (simV v b (i + 1)).2 := (s1.B hL hw (by omega) hb (hx b hb)).2
      rw [decide_eq_true_iff, decide_eq_true_iff, decide_eq_true_iff, x1, x2]
      have st : ¬ (simV v b i).2 = 0 → (simV v b (i + 1)).2 = (simV v b i).2 := fun h => congrArg Prod.snd (simV_1 h (Nat.le_succ i))
      have st0 : (simV v b i).2 = 0 → (vB v b).2 = 0 := by
        intro h
        by_cases h0 : (simV v b 0).2 = 0
        · exact h0
        · rw [simV_1 h0 (Nat.zero_le i)] at h; exact h
      refine ⟨⟨?_, ?_⟩, ?_⟩
      · intro ⟨a, c⟩
        by_cases h0 : (simV v b i).2 = 0
        · exact Or.inr ⟨h0, c⟩
        · exact Or.inl ⟨a, (st h0) ▸ c⟩
      · intro h
        rcases h with ⟨a, c⟩ | ⟨a, c⟩
        · exact ⟨a, (st (by rw [c]; decide)).trans c⟩
        · exact ⟨st0 a, c⟩
      · intro ⟨⟨_, c⟩, d, _⟩
        rw [d] at c; exact absurd c (by decide)
    rw [this]
  · intro m' hS
    unfold fX7_goesOn_b4
    rw [if_pos (by rw [n_le (by omega) (by omega)]; omega)]
  · intro r m' h; exact h
