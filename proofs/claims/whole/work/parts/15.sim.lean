/-! FUNCTIONS AND RUNS: what the printed functions are made of; when a run of the code is a function -/
def usr (x y : Int32) : Int32 := (x.toUInt32 >>> (y.toUInt32 &&& Int32.toUInt32 31)).toInt32
def abI (x : Int32) : Int32 := if 0 ≤ x then x else 0 - x
def mxI (x y : Int32) : Int32 := if x < y then y else x
def mnI (x y : Int32) : Int32 := if y < x then y else x
def bI (b : Bool) : Int32 := bif b then 1 else 0
/-- a loop: its body goes on (inl) or leaves (inr) -/
def loopF {σ τ : Type} : Nat → (σ → MM → Option ((σ ⊕ τ) × MM)) → σ → MM → Option (τ × MM)
  | 0, _, _, _ => none
  | n + 1, f, s, m => (f s m).bind fun o => match o.1 with
    | .inl s' => loopF n f s' o.2
    | .inr t => some (t, o.2)
/-- what a call does grows with what comes behind it -/
def CSm (cs : CS) : Prop := ∀ j as M (κ κ' : Option AV → Mem → Option Out) out, (∀ v M', κ v M' = some out → κ' v M' = some out) → cs j as M κ = some out → cs j as M κ' = some out
theorem bif_mono {b : Bool} {A A' : Option Out} {out : Out} (h : (bif b then A else none) = some out) (f : A = some out → A' = some out) : (bif b then A' else none) = some out := by
  cases b
  · cases h
  · exact f h
theorem ite_mono {c : Prop} [Decidable c] {A B A' B' : Option Out} {out : Out} (h : (if c then A else B) = some out) (f : A = some out → A' = some out) (g : B = some out → B' = some out) : (if c then A' else B') = some out := by
  by_cases e : c
  · rw [if_pos e] at h ⊢; exact f h
  · rw [if_neg e] at h ⊢; exact g h
theorem fold_mono {k k' : Nat → LV → List AV → Mem → Option Out} {L L' : LV} {S : List AV} {M : Mem} {x : Int32} {out : Out} (hk : ∀ pc, k pc L S M = some out → k' pc L' S M = some out) {r r' : Option Out} (hr : r = some out → r' = some out) : ∀ l : List (Int32 × Nat), l.foldr (fun q r => if x = q.1 then k q.2 L S M else r) r = some out → l.foldr (fun q r => if x = q.1 then k' q.2 L' S M else r) r' = some out := by
  intro l
  induction l with
  | nil => exact hr
  | cons y l ih => intro h; exact ite_mono h (hk _) ih
/-- less is known of the locals -/
def LeL : LV → LV → Prop
  | [], l' => l' = []
  | x :: l, l' => match l' with
    | [] => False
    | y :: l' => (x = none ∨ x = y) ∧ LeL l l'
theorem LeL.nil : LeL [] [] := Eq.refl _
theorem LeL.n {l l' : LV} (x : Option AV) (h : LeL l l') : LeL (none :: l) (x :: l') := ⟨Or.inl (Eq.refl _), h⟩
theorem LeL.s {l l' : LV} (x : Option AV) (h : LeL l l') : LeL (x :: l) (x :: l') := ⟨Or.inr (Eq.refl _), h⟩
theorem LeL.ind {P : LV → LV → Prop} (h0 : P [] []) (hn : ∀ l l' x, LeL l l' → P l l' → P (none :: l) (x :: l')) (hs : ∀ l l' x, LeL l l' → P l l' → P (x :: l) (x :: l')) : ∀ L L', LeL L L' → P L L' := by
  intro L
  induction L with
  | nil => intro L' h; have h : L' = [] := h; subst h; exact h0
  | cons x l ih =>
    intro L' h
    cases L' with
    | nil => exact h.elim
    | cons y l' =>
      obtain ⟨h1, h2⟩ : (x = none ∨ x = y) ∧ LeL l l' := h
      rcases h1 with h1 | h1
      · subst h1; exact hn _ _ _ h2 (ih _ h2)
      · subst h1; exact hs _ _ _ h2 (ih _ h2)
theorem LeL.rfl : ∀ {L : LV}, LeL L L
  | [] => .nil
  | x :: _ => .s x LeL.rfl
theorem LeL.get {L L' : LV} (h : LeL L L') : ∀ (i : Nat) {v : AV}, gL L i = some v → gL L' i = some v := by
  refine LeL.ind (P := fun L L' => ∀ (i : Nat) {v : AV}, gL L i = some v → gL L' i = some v) ?_ ?_ ?_ L L' h
  · intro i v e; cases e
  · intro l l' x _ ih i v e; cases i with
    | zero => cases e
    | succ i => exact ih i e
  · intro l l' x _ ih i v e; cases i with
    | zero => exact e
    | succ i => exact ih i e
theorem LeL.onS {L L' : LV} (h : LeL L L') : ∀ (i : Nat) (v : Option AV), LeL (sL L i v) (sL L' i v) := by
  refine LeL.ind (P := fun L L' => ∀ (i : Nat) (v : Option AV), LeL (sL L i v) (sL L' i v)) ?_ ?_ ?_ L L' h
  · intro i v; exact .nil
  · intro l l' x h ih i v; cases i with
    | zero => exact .s v h
    | succ i => exact .n x (ih i v)
  · intro l l' x h ih i v; cases i with
    | zero => exact .s v h
    | succ i => exact .s x (ih i v)
theorem LeL.clob {L L' : LV} (h : LeL L L') : ∀ (i : Nat), gL L i = none → LeL L (sL L' i none) := by
  refine LeL.ind (P := fun L L' => ∀ (i : Nat), gL L i = none → LeL L (sL L' i none)) ?_ ?_ ?_ L L' h
  · intro i _; exact .nil
  · intro l l' x h ih i e; cases i with
    | zero => exact .s none h
    | succ i => exact .n x (ih i e)
  · intro l l' x h ih i e; cases i with
    | zero =>
      have : x = none := e
      subst this
      exact .s none h
    | succ i => exact .s x (ih i e)
theorem LeL.on1 {L L' : LV} (h : LeL L L') (i : Nat) (v : AV) : LeL (st1 L i v) (st1 L' i v) := by
  cases i with
  | zero => exact h.onS 0 _
  | succ j =>
    cases hg : gL L j with
    | none =>
      have e1 : st1 L (j + 1) v = sL L (j + 1) (some v) := by simp only [st1, hg]
      rw [e1]
      cases hg' : gL L' j with
      | none =>
        have e2 : st1 L' (j + 1) v = sL L' (j + 1) (some v) := by simp only [st1, hg']
        rw [e2]; exact h.onS _ _
      | some x =>
        rcases x with (x | x) | x
        · have e2 : st1 L' (j + 1) v = sL L' (j + 1) (some v) := by simp only [st1, hg']
          rw [e2]; exact h.onS _ _
        · have e2 : st1 L' (j + 1) v = sL (sL L' j none) (j + 1) (some v) := by simp only [st1, hg']
          rw [e2]; exact (h.clob j hg).onS _ _
        · have e2 : st1 L' (j + 1) v = sL L' (j + 1) (some v) := by simp only [st1, hg']
          rw [e2]; exact h.onS _ _
    | some x =>
      have hg' := h.get j hg
      rcases x with (x | x) | x
      · have e1 : st1 L (j + 1) v = sL L (j + 1) (some v) := by simp only [st1, hg]
        have e2 : st1 L' (j + 1) v = sL L' (j + 1) (some v) := by simp only [st1, hg']
        rw [e1, e2]; exact h.onS _ _
      · have e1 : st1 L (j + 1) v = sL (sL L j none) (j + 1) (some v) := by simp only [st1, hg]
        have e2 : st1 L' (j + 1) v = sL (sL L' j none) (j + 1) (some v) := by simp only [st1, hg']
        rw [e1, e2]; exact (h.onS _ _).onS _ _
      · have e1 : st1 L (j + 1) v = sL L (j + 1) (some v) := by simp only [st1, hg]
        have e2 : st1 L' (j + 1) v = sL L' (j + 1) (some v) := by simp only [st1, hg']
        rw [e1, e2]; exact h.onS _ _
theorem LeL.on2 {L L' : LV} (h : LeL L L') (i : Nat) (v : AV) : LeL (st2 L i v) (st2 L' i v) := (h.on1 i v).onS _ _
section SIMA
variable {cs : CS} {pc : Nat} {L L' : LV} {S : List AV} {M : Mem} {k k' : Nat → LV → List AV → Mem → Option Out} {out : Out}
set_option maxHeartbeats 4000000 in
theorem astep_mono {xe : XE} (hcs : CSm cs) (hL : LeL L L') (hk : ∀ pc L L' S M, LeL L L' → k pc L S M = some out → k' pc L' S M = some out) (h : astep false cs xe pc L S M k = some out) : astep false cs xe pc L' S M k' = some out := by
  obtain ⟨i, len, ⟨a, b, d⟩, v, w, brs⟩ := xe
  cases i with
  | iadd =>
    rcases S with _ | ⟨(y | y) | y, _ | ⟨(x | x) | x, S⟩⟩ <;> try exact ons h
    exact hk _ _ _ _ _ hL h
  | isub =>
    rcases S with _ | ⟨(y | y) | y, _ | ⟨(x | x) | x, S⟩⟩ <;> try exact ons h
    exact hk _ _ _ _ _ hL h
  | imul =>
    rcases S with _ | ⟨(y | y) | y, _ | ⟨(x | x) | x, S⟩⟩ <;> try exact ons h
    exact hk _ _ _ _ _ hL h
  | iand =>
    rcases S with _ | ⟨(y | y) | y, _ | ⟨(x | x) | x, S⟩⟩ <;> try exact ons h
    exact hk _ _ _ _ _ hL h
  | ior =>
    rcases S with _ | ⟨(y | y) | y, _ | ⟨(x | x) | x, S⟩⟩ <;> try exact ons h
    exact hk _ _ _ _ _ hL h
  | ishl =>
    rcases S with _ | ⟨(y | y) | y, _ | ⟨(x | x) | x, S⟩⟩ <;> try exact ons h
    exact hk _ _ _ _ _ hL h
  | ishr =>
    rcases S with _ | ⟨(y | y) | y, _ | ⟨(x | x) | x, S⟩⟩ <;> try exact ons h
    exact hk _ _ _ _ _ hL h
  | iushr =>
    rcases S with _ | ⟨(y | y) | y, _ | ⟨(x | x) | x, S⟩⟩ <;> try exact ons h
    exact hk _ _ _ _ _ hL h
  | ladd =>
    rcases S with _ | ⟨(y | y) | y, _ | ⟨(x | x) | x, S⟩⟩ <;> try exact ons h
    exact hk _ _ _ _ _ hL h
  | land =>
    rcases S with _ | ⟨(y | y) | y, _ | ⟨(x | x) | x, S⟩⟩ <;> try exact ons h
    exact hk _ _ _ _ _ hL h
  | lor =>
    rcases S with _ | ⟨(y | y) | y, _ | ⟨(x | x) | x, S⟩⟩ <;> try exact ons h
    exact hk _ _ _ _ _ hL h
  | lshl =>
    rcases S with _ | ⟨(y | y) | y, _ | ⟨(x | x) | x, S⟩⟩ <;> try exact ons h
    exact hk _ _ _ _ _ hL h
  | lcmp =>
    rcases S with _ | ⟨(y | y) | y, _ | ⟨(x | x) | x, S⟩⟩ <;> try exact ons h
    exact hk _ _ _ _ _ hL h
  | idiv =>
    rcases S with _ | ⟨(y | y) | y, _ | ⟨(x | x) | x, S⟩⟩ <;> try exact ons h
    exact ite_mono h (fun h => (by cases h)) (fun h => hk _ _ _ _ _ hL h)
  | irem =>
    rcases S with _ | ⟨(y | y) | y, _ | ⟨(x | x) | x, S⟩⟩ <;> try exact ons h
    exact ite_mono h (fun h => (by cases h)) (fun h => hk _ _ _ _ _ hL h)
  | ineg =>
    rcases S with _ | ⟨(x | x) | x, S⟩ <;> try exact ons h
    exact hk _ _ _ _ _ hL h
  | i2l =>
    rcases S with _ | ⟨(x | x) | x, S⟩ <;> try exact ons h
    exact hk _ _ _ _ _ hL h
  | l2i =>
    rcases S with _ | ⟨(x | x) | x, S⟩ <;> try exact ons h
    exact hk _ _ _ _ _ hL h
  | i2b =>
    rcases S with _ | ⟨(x | x) | x, S⟩ <;> try exact ons h
    exact hk _ _ _ _ _ hL h
  | i2s =>
    rcases S with _ | ⟨(x | x) | x, S⟩ <;> try exact ons h
    exact hk _ _ _ _ _ hL h
  | i2c =>
    rcases S with _ | ⟨(x | x) | x, S⟩ <;> try exact ons h
    exact hk _ _ _ _ _ hL h
  | iconst z =>
    exact hk _ _ _ _ _ hL h
  | lconst z =>
    exact hk _ _ _ _ _ hL h
  | aconst_null =>
    exact hk _ _ _ _ _ hL h
  | goto z =>
    exact hk _ _ _ _ _ hL h
  | ldc z =>
    exact hk _ _ _ _ _ hL h
  | iload z =>
    cases hg : gL L a with
    | none => simp only [astep, hg] at h; exact ons h
    | some x => rcases x with (x | x) | x <;> (simp only [astep, hg] at h; simp only [astep, hL.get _ hg]; first | exact ons h | exact hk _ _ _ _ _ hL h)
  | lload z =>
    cases hg : gL L a with
    | none => simp only [astep, hg] at h; exact ons h
    | some x => rcases x with (x | x) | x <;> (simp only [astep, hg] at h; simp only [astep, hL.get _ hg]; first | exact ons h | exact hk _ _ _ _ _ hL h)
  | aload z =>
    cases hg : gL L a with
    | none => simp only [astep, hg] at h; exact ons h
    | some x => rcases x with (x | x) | x <;> (simp only [astep, hg] at h; simp only [astep, hL.get _ hg]; first | exact ons h | exact hk _ _ _ _ _ hL h)
  | iinc z y =>
    cases hg : gL L a with
    | none => simp only [astep, hg] at h; exact ons h
    | some x => rcases x with (x | x) | x <;> (simp only [astep, hg] at h; simp only [astep, hL.get _ hg]; first | exact ons h | exact hk _ _ _ _ _ (hL.on1 _ _) h)
  | istore z =>
    rcases S with _ | ⟨(x | x) | x, S⟩ <;> try exact ons h
    exact hk _ _ _ _ _ (hL.on1 _ _) h
  | lstore z =>
    rcases S with _ | ⟨(x | x) | x, S⟩ <;> try exact ons h
    exact hk _ _ _ _ _ (hL.on2 _ _) h
  | astore z =>
    rcases S with _ | ⟨(x | x) | x, S⟩ <;> try exact ons h
    exact hk _ _ _ _ _ (hL.on1 _ _) h
  | dup =>
    rcases S with _ | ⟨(x | x) | x, S⟩ <;> (first | exact ons h | exact hk _ _ _ _ _ hL h)
  | pop =>
    rcases S with _ | ⟨(x | x) | x, S⟩ <;> (first | exact ons h | exact hk _ _ _ _ _ hL h)
  | dup_x1 =>
    rcases S with _ | ⟨(x | x) | x, _ | ⟨(y | y) | y, S⟩⟩ <;> try exact ons h
    exact hk _ _ _ _ _ hL h
  | dup2 =>
    rcases S with _ | ⟨(x | x) | x, _ | ⟨(y | y) | y, S⟩⟩ <;> try exact ons h
    exact hk _ _ _ _ _ hL h
  | ifCond f z =>
    rcases S with _ | ⟨(x | x) | x, S⟩ <;> try exact ons h
    cases f <;> exact ite_mono h (fun h => hk _ _ _ _ _ hL h) (fun h => hk _ _ _ _ _ hL h)
  | if_icmp f z =>
    rcases S with _ | ⟨(y | y) | y, _ | ⟨(x | x) | x, S⟩⟩ <;> try exact ons h
    cases f <;> exact ite_mono h (fun h => hk _ _ _ _ _ hL h) (fun h => hk _ _ _ _ _ hL h)
  | ifnull z =>
    rcases S with _ | ⟨(x | x) | _ | ⟨ci, ii⟩, S⟩ <;> try exact ons h
    · exact hk _ _ _ _ _ hL h
    · cases hc : Nat.beq ci 34 <;> (simp only [astep, hc, cond_true, cond_false] at h ⊢; first | exact ons h | exact hk _ _ _ _ _ hL h)
  | ifnonnull z =>
    rcases S with _ | ⟨(x | x) | _ | ⟨ci, ii⟩, S⟩ <;> try exact ons h
    · exact hk _ _ _ _ _ hL h
    · cases hc : Nat.beq ci 34 <;> (simp only [astep, hc, cond_true, cond_false] at h ⊢; first | exact ons h | exact hk _ _ _ _ _ hL h)
  | tableswitch z1 z2 z3 z4 =>
    rcases S with _ | ⟨(x | x) | x, S⟩ <;> try exact ons h
    exact fold_mono (k := k) (k' := k') (fun pc h => hk pc _ _ _ _ hL h) (fun h => hk _ _ _ _ _ hL h) brs h
  | getfield z =>
    rcases S with _ | ⟨(x | x) | _ | ⟨ci, ii⟩, S⟩ <;> try exact ons h
    refine bif_mono h (fun h => ?_)
    by_cases hs : sk a b = 4
    · simp only [hs] at h ⊢; exact hk _ _ _ _ _ hL h
    · revert h
      split
      · rename_i e; exact absurd e hs
      · exact fun h => hk _ _ _ _ _ hL h
  | putfield z =>
    simp only [astep] at h ⊢
    split at h
    · rcases S with _ | ⟨(x | x) | x, _ | ⟨(y | y) | _ | ⟨ci, ii⟩, S⟩⟩ <;> first | exact ons h | exact bif_mono h (fun h => hk _ _ _ _ _ hL h)
    · rcases S with _ | ⟨(x | x) | x, _ | ⟨(y | y) | _ | ⟨ci, ii⟩, S⟩⟩ <;> first | exact ons h | exact bif_mono h (fun h => hk _ _ _ _ _ hL h)
    · rcases S with _ | ⟨(x | x) | _ | q, _ | ⟨(y | y) | _ | ⟨ci, ii⟩, S⟩⟩ <;> first | exact ons h | exact bif_mono h (fun h => hk _ _ _ _ _ hL h)
  | getstatic z =>
    simp only [astep] at h ⊢
    split at h <;> exact hk _ _ _ _ _ hL h
  | iaload =>
    rcases S with _ | ⟨(j | j) | j, _ | ⟨(y | y) | _ | ⟨ci, ii⟩, S⟩⟩ <;> try exact ons h
    exact bif_mono h (fun h => hk _ _ _ _ _ hL h)
  | baload =>
    rcases S with _ | ⟨(j | j) | j, _ | ⟨(y | y) | _ | ⟨ci, ii⟩, S⟩⟩ <;> try exact ons h
    exact bif_mono h (fun h => hk _ _ _ _ _ hL h)
  | laload =>
    rcases S with _ | ⟨(j | j) | j, _ | ⟨(y | y) | _ | ⟨ci, ii⟩, S⟩⟩ <;> try exact ons h
    exact bif_mono h (fun h => hk _ _ _ _ _ hL h)
  | aaload =>
    rcases S with _ | ⟨(j | j) | j, _ | ⟨(y | y) | _ | ⟨ci, ii⟩, S⟩⟩ <;> try exact ons h
    exact bif_mono h (fun h => hk _ _ _ _ _ hL h)
  | iastore =>
    rcases S with _ | ⟨(x | x) | x, _ | ⟨(j | j) | j, _ | ⟨(y | y) | _ | ⟨ci, ii⟩, S⟩⟩⟩ <;> try exact ons h
    exact bif_mono h (fun h => hk _ _ _ _ _ hL h)
  | lastore =>
    rcases S with _ | ⟨(x | x) | x, _ | ⟨(j | j) | j, _ | ⟨(y | y) | _ | ⟨ci, ii⟩, S⟩⟩⟩ <;> try exact ons h
    exact bif_mono h (fun h => hk _ _ _ _ _ hL h)
  | arraylength =>
    rcases S with _ | ⟨(x | x) | _ | ⟨ci, ii⟩, S⟩ <;> try exact ons h
    exact bif_mono h (fun h => hk _ _ _ _ _ hL h)
  | dneg =>
    rcases S with _ | ⟨(x | x) | x, S⟩ <;> try exact ons h
    exact bif_mono h (fun h => hk _ _ _ _ _ hL h)
  | dadd =>
    rcases S with _ | ⟨(y | y) | y, _ | ⟨(x | x) | x, S⟩⟩ <;> try exact ons h
    exact bif_mono h (fun h => hk _ _ _ _ _ hL h)
  | dsub =>
    rcases S with _ | ⟨(y | y) | y, _ | ⟨(x | x) | x, S⟩⟩ <;> try exact ons h
    exact bif_mono h (fun h => hk _ _ _ _ _ hL h)
  | dmul =>
    rcases S with _ | ⟨(n | n) | n, _ | ⟨(dp | dp) | dp, _ | ⟨(y1 | y1) | _ | ⟨c1, i1⟩, _ | ⟨(sp | sp) | sp, _ | ⟨(y2 | y2) | _ | ⟨c0, i0⟩, S⟩⟩⟩⟩⟩ <;> try exact ons h
    exact bif_mono h (fun h => ite_mono h (fun h => hk _ _ _ _ _ hL h) (fun h => (by cases h)))
  | invokevirtual z =>
    exact bif_mono h (fun h => hcs _ _ _ _ _ _ (fun v M' h => hk _ _ _ _ _ hL h) h)
  | nop =>
    rcases S with _ | ⟨(x | x) | _ | ⟨ci, ii⟩, S⟩ <;> exact ons h
  | new z =>
    exact ons h
  | newarray z =>
    rcases S with _ | ⟨(x | x) | x, S⟩ <;> exact ons h
  | anewarray z =>
    rcases S with _ | ⟨(x | x) | x, S⟩ <;> exact ons h
  | multianewarray z y =>
    rcases S with _ | ⟨(y | y) | y, _ | ⟨(x | x) | x, S⟩⟩ <;> exact ons h
  | aastore =>
    rcases S with _ | ⟨(x | x) | _ | q, _ | ⟨(j | j) | j, _ | ⟨(y | y) | _ | ⟨ci, ii⟩, S⟩⟩⟩ <;> exact ons h
  | _ =>
    exact ons h
end SIMA
theorem brun_s (b : Nat × Nat) (cs : CS) (T : Nat → Option XE) (n pc : Nat) (L : LV) (S : List AV) (M : Mem) : brun false b cs T (n + 1) pc L S M = match T pc with
    | none => none
    | some xe => match retv xe.1 S M with
      | some r => r
      | none => astep false cs xe pc L S M (brun false b cs T n) := rfl
theorem brun_mono {b : Nat × Nat} {cs : CS} {T : Nat → Option XE} {out : Out} (hcs : CSm cs) : ∀ (n a pc : Nat) (L L' : LV) (S : List AV) (M : Mem), LeL L L' → brun false b cs T n pc L S M = some out → brun false b cs T (n + a) pc L' S M = some out := by
  intro n
  induction n with
  | zero => intro a pc L L' S M hL h; cases h
  | succ n ih =>
    intro a pc L L' S M hL h
    rw [show n + 1 + a = (n + a) + 1 by omega]
    rw [brun_s] at h ⊢
    cases hT : T pc with
    | none => rw [hT] at h; exact ons h
    | some xe =>
      rw [hT] at h
      have h : (match retv xe.1 S M with
        | some r => r
        | none => astep false cs xe pc L S M (brun false b cs T n)) = some out := h
      show (match retv xe.1 S M with
        | some r => r
        | none => astep false cs xe pc L' S M (brun false b cs T (n + a))) = some out
      cases hr : retv xe.1 S M with
      | some r => rw [hr] at h; exact h
      | none =>
        rw [hr] at h
        exact astep_mono hcs hL (fun pc L L' S M hL h => ih a pc L L' S M hL h) h
/-- a run up to the places where another goes on -/
noncomputable def brunS (cs : CS) (T : Nat → Option XE) (stop : List Nat) (κ : Nat → LV → List AV → Mem → Option Out) : Nat → Nat → LV → List AV → Mem → Option Out
  | 0, _, _, _, _ => none
  | n + 1, pc, L, S, M => match T pc with
    | none => none
    | some xe => match retv xe.1 S M with
      | some r => r
      | none => astep false cs xe pc L S M (fun pc L S M => Bool.rec (motive := fun _ => Option Out) (brunS cs T stop κ n pc L S M) (κ pc L S M) (stop.any (Nat.beq pc)))
theorem brunS_ok {b : Nat × Nat} {cs : CS} {T : Nat → Option XE} {stop : List Nat} {out : Out} (hcs : CSm cs) (n : Nat) : ∀ (K pc : Nat) (L : LV) (S : List AV) (M : Mem), brunS cs T stop (brun false b cs T n) K pc L S M = some out → brun false b cs T (n + K) pc L S M = some out := by
  intro K
  induction K with
  | zero => intro pc L S M h; cases h
  | succ K ih =>
    intro pc L S M h
    rw [show n + (K + 1) = (n + K) + 1 by omega, brun_s]
    have h : (match T pc with
      | none => none
      | some xe => match retv xe.1 S M with
        | some r => r
        | none => astep false cs xe pc L S M (fun pc L S M => Bool.rec (motive := fun _ => Option Out) (brunS cs T stop (brun false b cs T n) K pc L S M) (brun false b cs T n pc L S M) (stop.any (Nat.beq pc)))) = some out := h
    cases hT : T pc with
    | none => rw [hT] at h; exact ons h
    | some xe =>
      rw [hT] at h
      have h : (match retv xe.1 S M with
        | some r => r
        | none => astep false cs xe pc L S M (fun pc L S M => Bool.rec (motive := fun _ => Option Out) (brunS cs T stop (brun false b cs T n) K pc L S M) (brun false b cs T n pc L S M) (stop.any (Nat.beq pc)))) = some out := h
      show (match retv xe.1 S M with
        | some r => r
        | none => astep false cs xe pc L S M (brun false b cs T (n + K))) = some out
      cases hr : retv xe.1 S M with
      | some r => rw [hr] at h; exact h
      | none =>
        rw [hr] at h
        refine astep_mono hcs LeL.rfl (fun pc L L' S M hL h => ?_) h
        have h : Bool.rec (motive := fun _ => Option Out) (brunS cs T stop (brun false b cs T n) K pc L S M) (brun false b cs T n pc L S M) (stop.any (Nat.beq pc)) = some out := h
        cases hs : stop.any (Nat.beq pc) with
        | true => rw [hs] at h; exact brun_mono hcs n K pc L L' S M hL h
        | false =>
          rw [hs] at h
          exact brun_mono hcs (n + K) 0 pc L L' S M hL (ih pc L S M h)
/-- where the function answers, the run comes to what the answer stands for -/
def SimK {α : Type} (o : Option α) (g : Nat → Option Out) (k : α → Nat → Option Out) : Prop := ∀ x out, o = some x → (∃ n, k x n = some out) → ∃ n, g n = some out
/-- the same up to the places where another run goes on -/
def SimT {α : Type} (b : Nat × Nat) (cs : CS) (T : Nat → Option XE) (o : Option α) (g : (Nat → LV → List AV → Mem → Option Out) → Option Out) (k : α → Nat → Option Out) : Prop := ∀ x out, o = some x → (∃ n, k x n = some out) → ∃ n, g (brun false b cs T n) = some out
section SIMT
variable {α : Type} {b : Nat × Nat} {cs : CS} {T : Nat → Option XE} {k : α → Nat → Option Out} {g h : (Nat → LV → List AV → Mem → Option Out) → Option Out}
theorem simt_none : SimT b cs T (none : Option α) g k := fun x out h => by cases h
theorem simt_ret {x : α} (r : Option Out) (e : ∀ n, k x n = r) : SimT b cs T (some x) (fun _ => r) k := fun y out h ⟨n, hn⟩ => ⟨n, by rw [← e n, Option.some.inj h]; exact hn⟩
theorem simt_bz {x : Int32} {u v : α} {M : Mem} (eu : k u = fun _ => some (some (aI 0), M)) (ev : k v = fun _ => some (some (aI 1), M)) : SimT b cs T (if x = 0 then some u else if x = 1 then some v else none) (fun _ => some (some (aI x), M)) k := by
  intro y out h hn
  by_cases h0 : x = 0
  · rw [if_pos h0] at h; obtain ⟨n, hn⟩ := hn; refine ⟨n, ?_⟩; rw [← Option.some.inj h, eu] at hn; rw [h0]; exact hn
  · rw [if_neg h0] at h
    by_cases h1 : x = 1
    · rw [if_pos h1] at h; obtain ⟨n, hn⟩ := hn; refine ⟨n, ?_⟩; rw [← Option.some.inj h, ev] at hn; rw [h1]; exact hn
    · rw [if_neg h1] at h; cases h
theorem simt_ite {c : Prop} [Decidable c] {A B : Option α} (a : SimT b cs T A g k) (a' : SimT b cs T B h k) : SimT b cs T (if c then A else B) (fun κ => if c then g κ else h κ) k := by
  intro x out e hx
  by_cases hc : c
  · simp only [if_pos hc] at e ⊢; exact a x out e hx
  · simp only [if_neg hc] at e ⊢; exact a' x out e hx
theorem simt_bif {c : Bool} {A : Option α} (a : SimT b cs T A g k) : SimT b cs T (bif c then A else none) (fun κ => bif c then g κ else none) k := by
  intro x out e hx
  cases c
  · cases e
  · exact a x out e hx
theorem simt_bind {β : Type} {X : Option β} {A : β → Option α} {g : β → (Nat → LV → List AV → Mem → Option Out) → Option Out} (a : ∀ o, SimT b cs T (A o) (g o) k) : SimT b cs T (X.bind A) (fun κ => X.bind (fun o => g o κ)) k := by
  intro x out e hx
  cases hX : X with
  | none => rw [hX] at e; cases e
  | some y => rw [hX] at e; exact a y x out e hx
theorem simt_bindO {X : Option (Option Nat × MM)} {A : Option Nat × MM → Option α} {B : Option Nat × MM → Nat → Option α} {g : Option Nat × MM → (Nat → LV → List AV → Mem → Option Out) → Option Out} {h : Option Nat × MM → Nat → (Nat → LV → List AV → Mem → Option Out) → Option Out} (a : ∀ o, SimT b cs T (A o) (g o) k) (a' : ∀ o i, SimT b cs T (B o i) (h o i) k) :
    SimT b cs T (X.bind (fun o => match o.1 with
      | none => A o
      | some i => B o i)) (fun κ => X.bind (fun o => match o.1 with
      | none => g o κ
      | some i => h o i κ)) k := by
  intro x out e hx
  cases hX : X with
  | none => rw [hX] at e; cases e
  | some y =>
    rw [hX] at e
    obtain ⟨r, m⟩ := y
    cases r with
    | none => exact a _ x out e hx
    | some i => exact a' _ i x out e hx
theorem simt_go {x : α} {pc : Nat} {L L' : LV} {S : List AV} {M : Mem} (hcs : CSm cs) (hL : LeL L L') (e : ∀ n, k x n = brun false b cs T n pc L S M) : SimT b cs T (some x) (fun κ => κ pc L' S M) k := by
  intro y out h hn
  obtain ⟨n, hn⟩ := hn
  rw [← Option.some.inj h, e] at hn
  exact ⟨n, brun_mono hcs n 0 pc L L' S M hL hn⟩
theorem simt_join {o : Option α} {pc : Nat} {L L' : LV} {S : List AV} {M : Mem} (hcs : CSm cs) (hL : LeL L L') (a : SimK o (fun n => brun false b cs T n pc L S M) k) : SimT b cs T o (fun κ => κ pc L' S M) k := by
  intro y out h hn
  obtain ⟨n, hn⟩ := a y out h hn
  exact ⟨n, brun_mono hcs n 0 pc L L' S M hL hn⟩
theorem simt_loop {β : Type} {X : Option β} {A : β → Option α} {kx : β → Nat → Option Out} {pc : Nat} {L L' : LV} {S : List AV} {M : Mem} (hcs : CSm cs) (hL : LeL L L') (a : SimK X (fun n => brun false b cs T n pc L S M) kx) (a' : ∀ y, SimK (A y) (kx y) k) : SimT b cs T (X.bind A) (fun κ => κ pc L' S M) k := by
  intro x out e hx
  cases hX : X with
  | none => rw [hX] at e; cases e
  | some y =>
    rw [hX] at e
    obtain ⟨n, hn⟩ := a y out hX (a' y x out e hx)
    exact ⟨n, brun_mono hcs n 0 pc L L' S M hL hn⟩
theorem simk_run {o : Option α} {pc : Nat} {L : LV} {S : List AV} {M : Mem} (hcs : CSm cs) (K : Nat) (stop : List Nat) (a : SimT b cs T o g k) (e : ∀ κ, brunS cs T stop κ K pc L S M = g κ) : SimK o (fun n => brun false b cs T n pc L S M) k := by
  intro x out ex hx
  obtain ⟨n, hn⟩ := a x out ex hx
  exact ⟨n + K, brunS_ok hcs n K pc L S M (by rw [e]; exact hn)⟩
theorem simk_here {o : Option α} {pc : Nat} {L : LV} {S : List AV} {M : Mem} (a : SimT b cs T o (fun κ => κ pc L S M) k) : SimK o (fun n => brun false b cs T n pc L S M) k := a
theorem simk_leaf {x : α} : SimK (some x) (k x) k := fun y out h ⟨n, hn⟩ => ⟨n, by rw [Option.some.inj h]; exact hn⟩
end SIMT
/-- behind a loop's body: at the head again, or out -/
def lpK {σ τ : Type} (head : σ → MM → Nat → Option Out) (kx : τ × MM → Nat → Option Out) (y : (σ ⊕ τ) × MM) (n : Nat) : Option Out := match y.1 with
  | .inl s => head s y.2 n
  | .inr t => kx (t, y.2) n
theorem simk_loopF {σ τ : Type} {f : σ → MM → Option ((σ ⊕ τ) × MM)} {head : σ → MM → Nat → Option Out} {kx : τ × MM → Nat → Option Out} (h : ∀ s m, SimK (f s m) (head s m) (lpK head kx)) : ∀ (N : Nat) (s : σ) (m : MM), SimK (loopF N f s m) (head s m) kx := by
  intro N
  induction N with
  | zero => intro s m x out e; cases e
  | succ N ih =>
    intro s m x out e hx
    have e : (f s m).bind (fun o => match o.1 with
      | .inl s' => loopF N f s' o.2
      | .inr t => some (t, o.2)) = some x := e
    cases hf : f s m with
    | none => rw [hf] at e; cases e
    | some y =>
      rw [hf] at e
      obtain ⟨r, m'⟩ := y
      refine h s m (r, m') out hf ?_
      cases r with
      | inl s' => exact ih s' m' x out e hx
      | inr t =>
        have e : some (t, m') = some x := e
        rw [← Option.some.inj e] at hx
        exact hx
