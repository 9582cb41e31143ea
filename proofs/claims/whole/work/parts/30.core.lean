/-! PURE: tools for the functions over the memory -/
theorem n_ti {n : Nat} (h : n < 2147483648) : (nI n).toInt = (n : Int) := Int32.toInt_ofNat_of_lt h
theorem n_cl {n : Nat} (h : n < 2147483648) : (nI n).toNatClampNeg = n := Int32.toNatClampNeg_ofNat_of_lt h
theorem n_s (n : Nat) : nI (n + 1) = nI n + 1 := Int32.ofNat_add n 1
theorem n_add (a b : Nat) : nI (a + b) = nI a + nI b := Int32.ofNat_add a b
theorem n_mul (a b : Nat) : nI (a * b) = nI a * nI b := Int32.ofNat_mul a b
theorem n_sub {a b : Nat} (h : b ≤ a) : nI (a - b) = nI a - nI b := Int32.ofNat_sub a b h
theorem n_lit (n : Nat) : (no_index (OfNat.ofNat n) : Int32) = nI n := rfl
theorem n_lt {a b : Nat} (ha : a < 2147483648) (hb : b < 2147483648) : nI a < nI b ↔ a < b := by
  rw [Int32.lt_iff_toInt_lt, n_ti ha, n_ti hb]; omega
theorem n_le {a b : Nat} (ha : a < 2147483648) (hb : b < 2147483648) : nI a ≤ nI b ↔ a ≤ b := by
  rw [Int32.le_iff_toInt_le, n_ti ha, n_ti hb]; omega
theorem n_inj {a b : Nat} (ha : a < 2147483648) (hb : b < 2147483648) : nI a = nI b ↔ a = b := by
  rw [← Int32.toInt_inj, n_ti ha, n_ti hb]; omega
theorem n_lt0 (x : Int32) : x < 0 ↔ x.toInt < 0 := by
  rw [Int32.lt_iff_toInt_lt]; rfl
theorem n_ge0 {a : Nat} (ha : a < 2147483648) : ¬ nI a < 0 := by
  rw [n_lt0, n_ti ha]; omega
theorem n_clti (x : Int32) (h : 0 ≤ x.toInt) : (x.toNatClampNeg : Int) = x.toInt := by
  have : x.toNatClampNeg = x.toInt.toNat := rfl
  rw [this]; omega
theorem n_bnd (x : Int32) : -2147483648 ≤ x.toInt ∧ x.toInt < 2147483648 := ⟨x.le_toInt, x.toInt_lt⟩
theorem n_clb (x : Int32) : x.toNatClampNeg < 2147483648 := by
  have h := n_bnd x
  have : x.toNatClampNeg = x.toInt.toNat := rfl
  omega
theorem n_of {x : Int32} (h : 0 ≤ x.toInt) : x = nI x.toNatClampNeg := by
  rw [← Int32.toInt_inj, n_ti (n_clb x), n_clti x h]
theorem n_m1 (a : Nat) (ha : a < 2147483648) : nI a = -1 ↔ False := by
  rw [← Int32.toInt_inj, n_ti ha]
  have : (-1 : Int32).toInt = -1 := rfl
  rw [this]; constructor
  · intro h; omega
  · intro h; exact h.elim
theorem inB_iff (x : Int32) (n : Nat) : inB x n = true ↔ 0 ≤ x.toInt ∧ x.toInt < n := by
  unfold inB
  rw [Bool.and_eq_true, decide_eq_true_iff, decide_eq_true_iff, Int32.le_iff_toInt_le]
  have h0 : (0 : Int32).toInt = 0 := rfl
  rw [h0]
  constructor
  · intro ⟨a, b⟩; have := n_clti x a; omega
  · intro ⟨a, b⟩; have := n_clti x a; exact ⟨a, by omega⟩
theorem inB_ex {x : Int32} {n : Nat} (h : inB x n = true) : x.toNatClampNeg < n ∧ x = nI x.toNatClampNeg := by
  have h := (inB_iff x n).1 h
  have := n_clti x h.1
  exact ⟨by omega, n_of h.1⟩
theorem inB_nn {a n : Nat} (ha : a < 2147483648) : inB (nI a) n = decide (a < n) := by
  rw [Bool.eq_iff_iff, inB_iff, decide_eq_true_iff, n_ti ha]; omega
theorem inB_t {a n : Nat} (ha : a < n) (hn : n ≤ 2147483648) : inB (nI a) n = true := by
  rw [inB_nn (by omega), decide_eq_true_iff]; exact ha
theorem inB_mono {x : Int32} {n k : Nat} (h : inB x n = true) (hk : n ≤ k) : inB x k = true := by
  rw [inB_iff] at h ⊢; omega
/-- the range tests of the code -/
theorem inB_hi {α : Type} (x : Int32) (n : Nat) (hn : n < 2147483648) (A B : α) : (if x < 0 then A else if nI n ≤ x then A else B) = (if inB x n = true then B else A) := by
  have h := inB_iff x n
  by_cases h0 : x < 0
  · rw [if_pos h0, if_neg]; rw [n_lt0] at h0; intro h1; have := h.1 h1; omega
  · rw [if_neg h0]
    rw [n_lt0] at h0
    by_cases h1 : nI n ≤ x
    · rw [if_pos h1, if_neg]; rw [Int32.le_iff_toInt_le, n_ti hn] at h1; intro h2; have := h.1 h2; omega
    · rw [if_neg h1, if_pos]; rw [Int32.le_iff_toInt_le, n_ti hn] at h1; exact h.2 (by omega)
theorem inB_lo {α : Type} (x : Int32) (n : Nat) (hn : n + 1 < 2147483648) (A B : α) : (if x < 0 then A else if nI n < x then A else B) = (if inB x (n + 1) = true then B else A) := by
  rw [← inB_hi x (n + 1) hn]
  have : (nI n < x) = (nI (n + 1) ≤ x) := by
    rw [Int32.lt_iff_toInt_lt, Int32.le_iff_toInt_le, n_ti (by omega), n_ti (by omega)]
    apply propext; omega
  simp only [this]
theorem bI_0 (b : Bool) : (bI b = 0) = (b = false) := by cases b <;> decide
theorem bI_1 (b : Bool) : (bI b = 1) = (b = true) := by cases b <;> decide
/-! what comes out of a function -/
def Ok {α : Type} (r : Option (α × MM)) (P : α → MM → Prop) : Prop := ∃ a m, r = some (a, m) ∧ P a m
theorem Ok.ret {α : Type} {P : α → MM → Prop} {a : α} {m : MM} (h : P a m) : Ok (some (a, m)) P := ⟨a, m, rfl, h⟩
theorem Ok.of {α : Type} {r : Option (α × MM)} {P : α → MM → Prop} {a : α} {m : MM} (e : r = some (a, m)) (h : P a m) : Ok r P := ⟨a, m, e, h⟩
theorem Ok.bind {α β : Type} {r : Option (α × MM)} {f : α × MM → Option (β × MM)} {P : α → MM → Prop} {Q : β → MM → Prop} (h : Ok r P) (k : ∀ a m, P a m → Ok (f (a, m)) Q) : Ok (r.bind f) Q := by
  obtain ⟨a, m, e, p⟩ := h
  rw [e]
  exact k a m p
theorem Ok.mono {α : Type} {r : Option (α × MM)} {P Q : α → MM → Prop} (h : Ok r P) (k : ∀ a m, P a m → Q a m) : Ok r Q := by
  obtain ⟨a, m, e, p⟩ := h
  exact ⟨a, m, e, k a m p⟩
theorem Ok.bif {α : Type} {b : Bool} {A : Option (α × MM)} {P : α → MM → Prop} (hb : b = true) (h : Ok A P) : Ok (bif b then A else none) P := by
  subst hb; exact h
theorem Ok.ite {α : Type} {c : Prop} [Decidable c] {A B : Option (α × MM)} {P : α → MM → Prop} (h : c → Ok A P) (k : ¬ c → Ok B P) : Ok (if c then A else B) P := by
  by_cases e : c
  · rw [if_pos e]; exact h e
  · rw [if_neg e]; exact k e
/-- what holds when a body goes on, or leaves -/
def lpQ {σ τ : Type} (A : σ → MM → Prop) (B : τ → MM → Prop) : σ ⊕ τ → MM → Prop
  | .inl s, m => A s m
  | .inr t, m => B t m
/-- a loop by a measure and what holds at its head -/
theorem Ok.loop {σ τ : Type} {f : σ → MM → Option ((σ ⊕ τ) × MM)} (I : Nat → σ → MM → Prop) {Q : τ → MM → Prop} (h : ∀ k s m, I k s m → Ok (f s m) (lpQ (fun s' m' => ∃ k', k' < k ∧ I k' s' m') Q)) : ∀ (N : Nat) (s : σ) (m : MM) (k : Nat), k < N → I k s m → Ok (loopF N f s m) Q := by
  intro N
  induction N with
  | zero => intro s m k hk; omega
  | succ N ih =>
    intro s m k hk hI
    obtain ⟨o, m', e, p⟩ := h k s m hI
    have ee : loopF (N + 1) f s m = (f s m).bind fun o => match o.1 with
      | .inl s' => loopF N f s' o.2
      | .inr t => some (t, o.2) := rfl
    rw [ee, e]
    cases o with
    | inl s' =>
      obtain ⟨k', hk', hI'⟩ := p
      exact ih s' m' k' (by omega) hI'
    | inr t => exact ⟨t, m', rfl, p⟩
/-- a counting loop: from a to b, by one; J: what holds at the head -/
theorem Ok.count {σ τ : Type} {f : σ → MM → Option ((σ ⊕ τ) × MM)} (a b : Nat) (J : Nat → σ → MM → Prop) {Q : τ → MM → Prop}
    (h : ∀ i s m, a ≤ i → i < b → J i s m → Ok (f s m) (lpQ (J (i + 1)) Q))
    (hx : ∀ s m, J b s m → Ok (f s m) (lpQ (fun _ _ => False) Q)) (hab : a ≤ b) (N : Nat) (hN : b - a < N) (s : σ) (m : MM) (h0 : J a s m) : Ok (loopF N f s m) Q := by
  refine Ok.loop (fun k s m => ∃ i, a ≤ i ∧ i ≤ b ∧ k = b - i ∧ J i s m) ?_ N s m (b - a) hN ⟨a, Nat.le_refl _, hab, rfl, h0⟩
  intro k s m ⟨i, h1, h2, h3, h4⟩
  by_cases e : i = b
  · subst e
    refine (hx s m h4).mono ?_
    intro o m' p
    cases o with
    | inl s' => exact p.elim
    | inr t => exact p
  · refine (h i s m h1 (by omega) h4).mono ?_
    intro o m' p
    cases o with
    | inl s' => exact ⟨b - (i + 1), by omega, i + 1, by omega, by omega, rfl, p⟩
    | inr t => exact p
/-! reading what was written -/
theorem upI_same (m : MI) (c i k : Nat) (x : Int32) : upI m c i k x c i k = x := if_pos ⟨rfl, rfl, rfl⟩
theorem upI_id (m : MI) (c i k : Nat) : upI m c i k (m c i k) = m := by
  funext c' i' k'
  unfold upI
  split
  · rename_i h; rw [h.1, h.2.1, h.2.2]
  · rfl
theorem upI_nn {m : MI} {c i k : Nat} {x : Int32} {c' i' k' : Nat} (h : ¬ (c' = c ∧ i' = i ∧ k' = k)) : upI m c i k x c' i' k' = m c' i' k' := if_neg h
/-- the memories agree but for the places of D -/
def Fr (D : Nat → Nat → Prop) (m m' : MM) : Prop := ∀ c i, ¬ D c i → ∀ k, m'.1 c i k = m.1 c i k ∧ m'.2 = m.2
theorem Fr.rfl {D : Nat → Nat → Prop} {m : MM} : Fr D m m := fun _ _ _ _ => ⟨Eq.refl _, Eq.refl _⟩
theorem Fr.trans {D : Nat → Nat → Prop} {m m1 m2 : MM} (h : Fr D m m1) (h' : Fr D m1 m2) : Fr D m m2 := fun c i d k => ⟨(h' c i d k).1.trans (h c i d k).1, (h' c i d k).2.trans (h c i d k).2⟩
theorem Fr.mono {D D' : Nat → Nat → Prop} {m m' : MM} (h : Fr D m m') (k : ∀ c i, D c i → D' c i) : Fr D' m m' := fun c i d => h c i (fun x => d (k c i x))
theorem Fr.up {D : Nat → Nat → Prop} {m m' : MM} (h : Fr D m m') {c i : Nat} (hd : D c i) (k : Nat) (x : Int32) : Fr D m (upI m'.1 c i k x, m'.2) := by
  intro c' i' d k'
  refine ⟨?_, (h c' i' d k').2⟩
  show upI m'.1 c i k x c' i' k' = _
  rw [upI_nn (fun e => d (by rw [e.1, e.2.1]; exact hd))]
  exact (h c' i' d k').1
theorem Fr.snd {D : Nat → Nat → Prop} {m m' : MM} (h : Fr D m m') (hd : ¬ D 999 999) : m'.2 = m.2 := (h 999 999 hd 0).2
theorem Fr.up0 {D : Nat → Nat → Prop} {m : MM} {c i : Nat} (hd : D c i) (k : Nat) (x : Int32) : Fr D m (upI m.1 c i k x, m.2) := Fr.up Fr.rfl hd k x
theorem upI_k {m : MI} {c i k : Nat} {x : Int32} {c' i' k' : Nat} (h : k' ≠ k) : upI m c i k x c' i' k' = m c' i' k' := upI_nn (fun e => h e.2.2)
theorem upI_c {m : MI} {c i k : Nat} {x : Int32} {c' i' k' : Nat} (h : c' ≠ c) : upI m c i k x c' i' k' = m c' i' k' := upI_nn (fun e => h e.1)
theorem upI_i {m : MI} {c i k : Nat} {x : Int32} {c' i' k' : Nat} (h : i' ≠ i) : upI m c i k x c' i' k' = m c' i' k' := upI_nn (fun e => h e.2.1)
/-- the first day of so many, from a day on -/
def fst1 (p : Nat → Bool) : Nat → Nat → Int32
  | 0, _ => -1
  | k + 1, d => if p d = true then nI d else fst1 p k (d + 1)
theorem fst1_none {p : Nat → Bool} : ∀ (k d : Nat), (∀ x, d ≤ x → x < d + k → p x = false) → fst1 p k d = -1 := by
  intro k
  induction k with
  | zero => intro d _; rfl
  | succ k ih =>
    intro d h
    show (if p d = true then nI d else fst1 p k (d + 1)) = -1
    rw [h d (Nat.le_refl _) (by omega), if_neg (by decide)]
    exact ih (d + 1) (fun x h1 h2 => h x (by omega) (by omega))
theorem fst1_some {p : Nat → Bool} : ∀ (k d x : Nat), (∀ y, d ≤ y → y < x → p y = false) → d ≤ x → x < d + k → p x = true → fst1 p k d = nI x := by
  intro k
  induction k with
  | zero => intro d x _ h1 h2; omega
  | succ k ih =>
    intro d x h h1 h2 hp
    show (if p d = true then nI d else fst1 p k (d + 1)) = nI x
    by_cases e : d = x
    · subst e; rw [if_pos hp]
    · rw [h d (Nat.le_refl _) (by omega), if_neg (by decide)]
      exact ih (d + 1) x (fun y h3 h4 => h y (by omega) h4) (by omega) (by omega) hp
theorem mnI_ti (a b : Int32) : (mnI a b).toInt = if b.toInt < a.toInt then b.toInt else a.toInt := by
  unfold mnI
  by_cases h : b < a
  · rw [if_pos h, if_pos (Int32.lt_iff_toInt_lt.1 h)]
  · rw [if_neg h, if_neg (fun x => h (Int32.lt_iff_toInt_lt.2 x))]
theorem mxI_ti (a b : Int32) : (mxI a b).toInt = if a.toInt < b.toInt then b.toInt else a.toInt := by
  unfold mxI
  by_cases h : a < b
  · rw [if_pos h, if_pos (Int32.lt_iff_toInt_lt.1 h)]
  · rw [if_neg h, if_neg (fun x => h (Int32.lt_iff_toInt_lt.2 x))]
theorem z_ti : (0 : Int32).toInt = 0 := rfl
