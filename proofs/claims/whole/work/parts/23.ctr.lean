/-! CONTRACTS: of each method, out of the run that its function is -/
/-- nothing that is only read has changed, nothing was made -/
def RK (M M' : Mem) : Prop := M'.1 = M.1 ∧ ∀ c i k, 30 ≤ c → c ≤ 33 → M'.2.1 c i k = M.2.1 c i k
theorem RK.rfl {M : Mem} : RK M M := ⟨Eq.refl _, fun _ _ _ _ _ => Eq.refl _⟩
theorem RK.trans {M M' M2 : Mem} (h : RK M M') (g : RK M' M2) : RK M M2 := ⟨g.1.trans h.1, fun c i k h1 h2 => (g.2 c i k h1 h2).trans (h.2 c i k h1 h2)⟩
theorem RK.up {M : Mem} {c i k : Nat} {x : Int32} (h : c < 30 ∨ 33 < c) : RK M (M.1, (upI M.2.1 c i k x, M.2.2)) := ⟨Eq.refl _, fun c' i' k' h1 h2 => by
  show (if c' = c ∧ i' = i ∧ k' = k then x else M.2.1 c' i' k') = _
  rw [if_neg (by omega)]⟩
theorem RK.ro {M M' : Mem} {nS : Nat} {xs : Nat → Int32} (h : RK M M') (g : ROm nS xs M) : ROm nS xs M' := by
  obtain ⟨h1, h2⟩ := h
  obtain ⟨g1, g2, g3, g4, g5⟩ := g
  refine ⟨fun i hi => ?_, by rw [h1]; exact g2, fun j => by rw [h2 _ _ _ (by omega) (by omega)]; exact g3 j, by rw [h1]; exact g4, fun j => by rw [h2 _ _ _ (by omega) (by omega)]; exact g5 j⟩
  obtain ⟨a, b, c, d⟩ := g1 i hi
  exact ⟨by rw [h1]; exact a, fun j => by rw [h2 _ _ _ (by omega) (by omega)]; exact b j, by rw [h2 _ _ _ (by omega) (by omega)]; exact c, by rw [h1]; exact d⟩
/-- what a table may hold: calls of these methods only, writes to fields of our own classes -/
def chT (l : List Nat) (t : List (List (Nat × XE))) : Bool := t.all (fun r => r.all (fun q => match q.2.1 with
  | .invokevirtual _ => l.any (Nat.beq q.2.2.2.1.2.1)
  | .putfield _ => Nat.blt q.2.2.2.1.1 8
  | _ => true))
theorem lkb_mem {t : List (List (Nat × XE))} {pc : Nat} {x : XE} (hx : lkb t pc = some x) : ∃ r ∈ t, (pc, x) ∈ r := by
  have h1 := lk_mem _ _ _ hx
  rcases gB_mem t (pc / 32) with h | h
  · rw [h] at h1; cases h1
  · exact ⟨_, h, h1⟩
theorem chT_at {l : List Nat} {t : List (List (Nat × XE))} (h : chT l t = true) {pc : Nat} {x : XE} (hx : lkb t pc = some x) : ((∃ z, x.1 = .invokevirtual z) → x.2.2.1.2.1 ∈ l) ∧ ((∃ z, x.1 = .putfield z) → x.2.2.1.1 < 8) := by
  obtain ⟨r, hr, hm⟩ := lkb_mem hx
  have h2 := List.all_eq_true.mp (List.all_eq_true.mp h r hr) _ hm
  refine ⟨fun ⟨z, e⟩ => ?_, fun ⟨z, e⟩ => ?_⟩
  · simp only [e] at h2
    obtain ⟨y, hy, e2⟩ := List.any_eq_true.mp h2
    have := Nat.eq_of_beq_eq_true e2
    rw [this]; exact hy
  · simp only [e] at h2
    exact Nat.blt_eq.mp h2
section RKS
variable {cs : CS} {pc : Nat} {L : LV} {S : List AV} {M : Mem} {k : Nat → LV → List AV → Mem → Option Out} {out : Out}
theorem rk_go {pc' : Nat} {L' : LV} {S' : List AV} {M' : Mem} (h : k pc' L' S' M' = some out) (r : RK M M') : ∃ pc' L' S' M', k pc' L' S' M' = some out ∧ RK M M' := ⟨_, _, _, _, h, r⟩
theorem rk_bif {b : Bool} {A : Option Out} (h : (bif b then A else none) = some out) {P : Prop} (f : b = true → A = some out → P) : P := by
  cases b
  · cases h
  · exact f rfl h
theorem rk_ite {c : Prop} [Decidable c] {A B : Option Out} (h : (if c then A else B) = some out) {P : Prop} (f : A = some out → P) (g : B = some out → P) : P := by
  by_cases e : c
  · rw [if_pos e] at h; exact f h
  · rw [if_neg e] at h; exact g h
theorem rk_fold {x : Int32} {P : Prop} (hk : ∀ pc, k pc L S M = some out → P) {r : Option Out} (hr : r = some out → P) : ∀ l : List (Int32 × Nat), l.foldr (fun q r => if x = q.1 then k q.2 L S M else r) r = some out → P := by
  intro l
  induction l with
  | nil => exact hr
  | cons y l ih => intro h; exact rk_ite h (hk _) ih
set_option maxHeartbeats 4000000 in
theorem astep_rk {xe : XE} (hp : (∃ z, xe.1 = .putfield z) → xe.2.2.1.1 < 8) (hcs : (∃ z, xe.1 = .invokevirtual z) → ∀ as κ, cs xe.2.2.1.2.1 as M κ = some out → ∃ v M', κ v M' = some out ∧ RK M M') (h : astep false cs xe pc L S M k = some out) : ∃ pc' L' S' M', k pc' L' S' M' = some out ∧ RK M M' := by
  obtain ⟨i, len, ⟨a, b, d⟩, v, w, brs⟩ := xe
  cases i with
  | iadd =>
    rcases S with _ | ⟨(y | y) | y, _ | ⟨(x | x) | x, S⟩⟩ <;> try exact ons h
    exact rk_go h RK.rfl
  | isub =>
    rcases S with _ | ⟨(y | y) | y, _ | ⟨(x | x) | x, S⟩⟩ <;> try exact ons h
    exact rk_go h RK.rfl
  | imul =>
    rcases S with _ | ⟨(y | y) | y, _ | ⟨(x | x) | x, S⟩⟩ <;> try exact ons h
    exact rk_go h RK.rfl
  | iand =>
    rcases S with _ | ⟨(y | y) | y, _ | ⟨(x | x) | x, S⟩⟩ <;> try exact ons h
    exact rk_go h RK.rfl
  | ior =>
    rcases S with _ | ⟨(y | y) | y, _ | ⟨(x | x) | x, S⟩⟩ <;> try exact ons h
    exact rk_go h RK.rfl
  | ishl =>
    rcases S with _ | ⟨(y | y) | y, _ | ⟨(x | x) | x, S⟩⟩ <;> try exact ons h
    exact rk_go h RK.rfl
  | ishr =>
    rcases S with _ | ⟨(y | y) | y, _ | ⟨(x | x) | x, S⟩⟩ <;> try exact ons h
    exact rk_go h RK.rfl
  | iushr =>
    rcases S with _ | ⟨(y | y) | y, _ | ⟨(x | x) | x, S⟩⟩ <;> try exact ons h
    exact rk_go h RK.rfl
  | ladd =>
    rcases S with _ | ⟨(y | y) | y, _ | ⟨(x | x) | x, S⟩⟩ <;> try exact ons h
    exact rk_go h RK.rfl
  | land =>
    rcases S with _ | ⟨(y | y) | y, _ | ⟨(x | x) | x, S⟩⟩ <;> try exact ons h
    exact rk_go h RK.rfl
  | lor =>
    rcases S with _ | ⟨(y | y) | y, _ | ⟨(x | x) | x, S⟩⟩ <;> try exact ons h
    exact rk_go h RK.rfl
  | lshl =>
    rcases S with _ | ⟨(y | y) | y, _ | ⟨(x | x) | x, S⟩⟩ <;> try exact ons h
    exact rk_go h RK.rfl
  | lcmp =>
    rcases S with _ | ⟨(y | y) | y, _ | ⟨(x | x) | x, S⟩⟩ <;> try exact ons h
    exact rk_go h RK.rfl
  | idiv =>
    rcases S with _ | ⟨(y | y) | y, _ | ⟨(x | x) | x, S⟩⟩ <;> try exact ons h
    exact rk_ite h (fun h => (by cases h)) (fun h => rk_go h RK.rfl)
  | irem =>
    rcases S with _ | ⟨(y | y) | y, _ | ⟨(x | x) | x, S⟩⟩ <;> try exact ons h
    exact rk_ite h (fun h => (by cases h)) (fun h => rk_go h RK.rfl)
  | ineg =>
    rcases S with _ | ⟨(x | x) | x, S⟩ <;> try exact ons h
    exact rk_go h RK.rfl
  | i2l =>
    rcases S with _ | ⟨(x | x) | x, S⟩ <;> try exact ons h
    exact rk_go h RK.rfl
  | l2i =>
    rcases S with _ | ⟨(x | x) | x, S⟩ <;> try exact ons h
    exact rk_go h RK.rfl
  | i2b =>
    rcases S with _ | ⟨(x | x) | x, S⟩ <;> try exact ons h
    exact rk_go h RK.rfl
  | i2s =>
    rcases S with _ | ⟨(x | x) | x, S⟩ <;> try exact ons h
    exact rk_go h RK.rfl
  | i2c =>
    rcases S with _ | ⟨(x | x) | x, S⟩ <;> try exact ons h
    exact rk_go h RK.rfl
  | iconst z =>
    exact rk_go h RK.rfl
  | lconst z =>
    exact rk_go h RK.rfl
  | aconst_null =>
    exact rk_go h RK.rfl
  | goto z =>
    exact rk_go h RK.rfl
  | ldc z =>
    exact rk_go h RK.rfl
  | iload z =>
    cases hg : gL L a with
    | none => simp only [astep, hg] at h; exact ons h
    | some x => rcases x with (x | x) | x <;> (simp only [astep, hg] at h; first | exact ons h | exact rk_go h RK.rfl)
  | lload z =>
    cases hg : gL L a with
    | none => simp only [astep, hg] at h; exact ons h
    | some x => rcases x with (x | x) | x <;> (simp only [astep, hg] at h; first | exact ons h | exact rk_go h RK.rfl)
  | aload z =>
    cases hg : gL L a with
    | none => simp only [astep, hg] at h; exact ons h
    | some x => rcases x with (x | x) | x <;> (simp only [astep, hg] at h; first | exact ons h | exact rk_go h RK.rfl)
  | iinc z y =>
    cases hg : gL L a with
    | none => simp only [astep, hg] at h; exact ons h
    | some x => rcases x with (x | x) | x <;> (simp only [astep, hg] at h; first | exact ons h | exact rk_go h RK.rfl)
  | istore z =>
    rcases S with _ | ⟨(x | x) | x, S⟩ <;> try exact ons h
    exact rk_go h RK.rfl
  | lstore z =>
    rcases S with _ | ⟨(x | x) | x, S⟩ <;> try exact ons h
    exact rk_go h RK.rfl
  | astore z =>
    rcases S with _ | ⟨(x | x) | x, S⟩ <;> try exact ons h
    exact rk_go h RK.rfl
  | dup =>
    rcases S with _ | ⟨(x | x) | x, S⟩ <;> (first | exact ons h | exact rk_go h RK.rfl)
  | pop =>
    rcases S with _ | ⟨(x | x) | x, S⟩ <;> (first | exact ons h | exact rk_go h RK.rfl)
  | dup_x1 =>
    rcases S with _ | ⟨(x | x) | x, _ | ⟨(y | y) | y, S⟩⟩ <;> try exact ons h
    exact rk_go h RK.rfl
  | dup2 =>
    rcases S with _ | ⟨(x | x) | x, _ | ⟨(y | y) | y, S⟩⟩ <;> try exact ons h
    exact rk_go h RK.rfl
  | ifCond f z =>
    rcases S with _ | ⟨(x | x) | x, S⟩ <;> try exact ons h
    cases f <;> exact rk_ite h (fun h => rk_go h RK.rfl) (fun h => rk_go h RK.rfl)
  | if_icmp f z =>
    rcases S with _ | ⟨(y | y) | y, _ | ⟨(x | x) | x, S⟩⟩ <;> try exact ons h
    cases f <;> exact rk_ite h (fun h => rk_go h RK.rfl) (fun h => rk_go h RK.rfl)
  | ifnull z =>
    rcases S with _ | ⟨(x | x) | _ | ⟨ci, ii⟩, S⟩ <;> try exact ons h
    · exact rk_go h RK.rfl
    · cases hc : Nat.beq ci 34 <;> (simp only [astep, hc, cond_true, cond_false] at h; first | exact ons h | exact rk_go h RK.rfl)
  | ifnonnull z =>
    rcases S with _ | ⟨(x | x) | _ | ⟨ci, ii⟩, S⟩ <;> try exact ons h
    · exact rk_go h RK.rfl
    · cases hc : Nat.beq ci 34 <;> (simp only [astep, hc, cond_true, cond_false] at h; first | exact ons h | exact rk_go h RK.rfl)
  | tableswitch z1 z2 z3 z4 =>
    rcases S with _ | ⟨(x | x) | x, S⟩ <;> try exact ons h
    exact rk_fold (k := k) (fun pc h => rk_go h RK.rfl) (fun h => rk_go h RK.rfl) brs h
  | getfield z =>
    rcases S with _ | ⟨(x | x) | _ | ⟨ci, ii⟩, S⟩ <;> try exact ons h
    refine rk_bif h (fun _ h => ?_)
    by_cases hs : sk a b = 4
    · simp only [hs] at h; exact rk_go h RK.rfl
    · revert h
      split
      · rename_i e; exact absurd e hs
      · exact fun h => rk_go h RK.rfl
  | putfield z =>
    simp only [astep] at h
    split at h
    · rcases S with _ | ⟨(x | x) | x, _ | ⟨(y | y) | _ | ⟨ci, ii⟩, S⟩⟩ <;> first | exact ons h | exact rk_bif h (fun hb h => rk_go h (RK.up (Or.inl (by have := hp ⟨_, rfl⟩; have e := Nat.eq_of_beq_eq_true hb; dsimp only at this; omega))))
    · rcases S with _ | ⟨(x | x) | x, _ | ⟨(y | y) | _ | ⟨ci, ii⟩, S⟩⟩ <;> first | exact ons h | exact rk_bif h (fun hb h => rk_go h (RK.up (Or.inl (by have := hp ⟨_, rfl⟩; have e := Nat.eq_of_beq_eq_true (Bool.and_eq_true_iff.mp hb).1; dsimp only at this; omega))))
    · rcases S with _ | ⟨(x | x) | _ | q, _ | ⟨(y | y) | _ | ⟨ci, ii⟩, S⟩⟩ <;> first | exact ons h | exact rk_bif h (fun hb h => (by cases hb))
  | getstatic z =>
    simp only [astep] at h
    split at h <;> exact rk_go h RK.rfl
  | iaload =>
    rcases S with _ | ⟨(j | j) | j, _ | ⟨(y | y) | _ | ⟨ci, ii⟩, S⟩⟩ <;> try exact ons h
    exact rk_bif h (fun _ h => rk_go h RK.rfl)
  | baload =>
    rcases S with _ | ⟨(j | j) | j, _ | ⟨(y | y) | _ | ⟨ci, ii⟩, S⟩⟩ <;> try exact ons h
    exact rk_bif h (fun _ h => rk_go h RK.rfl)
  | laload =>
    rcases S with _ | ⟨(j | j) | j, _ | ⟨(y | y) | _ | ⟨ci, ii⟩, S⟩⟩ <;> try exact ons h
    exact rk_bif h (fun _ h => rk_go h RK.rfl)
  | aaload =>
    rcases S with _ | ⟨(j | j) | j, _ | ⟨(y | y) | _ | ⟨ci, ii⟩, S⟩⟩ <;> try exact ons h
    exact rk_bif h (fun _ h => rk_go h RK.rfl)
  | iastore =>
    rcases S with _ | ⟨(x | x) | x, _ | ⟨(j | j) | j, _ | ⟨(y | y) | _ | ⟨ci, ii⟩, S⟩⟩⟩ <;> try exact ons h
    exact rk_bif h (fun hb h => rk_go h (RK.up (Or.inr (by have e := (Bool.and_eq_true_iff.mp (Bool.and_eq_true_iff.mp hb).1).1; have e := Nat.ble_eq.mp e; omega))))
  | lastore =>
    rcases S with _ | ⟨(x | x) | x, _ | ⟨(j | j) | j, _ | ⟨(y | y) | _ | ⟨ci, ii⟩, S⟩⟩⟩ <;> try exact ons h
    exact rk_bif h (fun _ h => rk_go h ⟨rfl, fun _ _ _ _ _ => rfl⟩)
  | arraylength =>
    rcases S with _ | ⟨(x | x) | _ | ⟨ci, ii⟩, S⟩ <;> try exact ons h
    exact rk_bif h (fun _ h => rk_go h RK.rfl)
  | dneg =>
    rcases S with _ | ⟨(x | x) | x, S⟩ <;> try exact ons h
    exact rk_bif h (fun _ h => rk_go h RK.rfl)
  | dadd =>
    rcases S with _ | ⟨(y | y) | y, _ | ⟨(x | x) | x, S⟩⟩ <;> try exact ons h
    exact rk_bif h (fun _ h => rk_go h RK.rfl)
  | dsub =>
    rcases S with _ | ⟨(y | y) | y, _ | ⟨(x | x) | x, S⟩⟩ <;> try exact ons h
    exact rk_bif h (fun _ h => rk_go h RK.rfl)
  | dmul =>
    rcases S with _ | ⟨(n | n) | n, _ | ⟨(dp | dp) | dp, _ | ⟨(y1 | y1) | _ | ⟨c1, i1⟩, _ | ⟨(sp | sp) | sp, _ | ⟨(y2 | y2) | _ | ⟨c0, i0⟩, S⟩⟩⟩⟩⟩ <;> try exact ons h
    exact rk_bif h (fun _ h => rk_ite h (fun h => rk_go h ⟨rfl, fun _ _ _ _ _ => rfl⟩) (fun h => (by cases h)))
  | invokevirtual z =>
    refine rk_bif h (fun _ h => ?_)
    obtain ⟨v, M', h1, h2⟩ := hcs ⟨_, rfl⟩ _ _ h
    exact rk_go h1 h2
  | nop =>
    rcases S with _ | ⟨(x | x) | _ | ⟨ci, ii⟩, S⟩ <;> exact ons h
  | new z =>
    exact ons h
  | newarray z =>
    rcases S with _ | ⟨(x | x) | x, S⟩ <;> exact ons h
  | anewarray z =>
    rcases S with _ | ⟨(x | x) | x, S⟩ <;> exact ons h
  | multianewarray z y =>
    rcases S with _ | ⟨(y | y) | y, _ | ⟨(x | x) | x, S⟩⟩ <;> exact ons h
  | aastore =>
    rcases S with _ | ⟨(x | x) | _ | q, _ | ⟨(j | j) | j, _ | ⟨(y | y) | _ | ⟨ci, ii⟩, S⟩⟩⟩ <;> exact ons h
  | _ =>
    exact ons h
end RKS
theorem retv_M {i : Instr} {S : List AV} {M : Mem} {out : Out} (h : retv i S M = some (some out)) : out.2 = M := by
  revert h
  unfold retv
  split
  · intro h; split at h
    · cases h; rfl
    · cases h
  · intro h; split at h
    · cases h; rfl
    · cases h
  · intro h; split at h
    · cases h; rfl
    · cases h
  · intro h; split at h
    · cases h; rfl
    · cases h
  · intro h; cases h
theorem brun_rk {b : Nat × Nat} {cs : CS} {t : List (List (Nat × XE))} {l : List Nat} {out : Out} (ht : chT l t = true) {s0 : ST} (hcs : ∀ b ∈ l, ∀ as M κ, M.1 = s0 → cs b as M κ = some out → ∃ v M', κ v M' = some out ∧ RK M M') : ∀ (n pc : Nat) (L : LV) (S : List AV) (M : Mem), M.1 = s0 → brun false b cs (lkb t) n pc L S M = some out → RK M out.2 := by
  intro n
  induction n with
  | zero => intro pc L S M _ h; cases h
  | succ n ih =>
    intro pc L S M h0 h
    rw [brun_s] at h
    cases hT : lkb t pc with
    | none => rw [hT] at h; exact ons h
    | some xe =>
      rw [hT] at h
      have h : (match retv xe.1 S M with
        | some r => r
        | none => astep false cs xe pc L S M (brun false b cs (lkb t) n)) = some out := h
      cases hr : retv xe.1 S M with
      | some r =>
        rw [hr] at h
        have h : r = some out := h
        subst h
        rw [retv_M hr]; exact RK.rfl
      | none =>
        rw [hr] at h
        obtain ⟨pc', L', S', M', h1, h2⟩ := astep_rk (chT_at ht hT).2 (fun hz as κ => hcs _ ((chT_at ht hT).1 hz) as M κ h0) h
        exact h2.trans (ih _ _ _ _ (h2.1.trans h0) h1)
/-- the answers of a call -/
def ans (c : CallR) (m : MM) (v : Option AV) (m' : MM) : Prop := match c with
  | .inl f => ∃ x, f m = some (x, m') ∧ v = some (aI x)
  | .inr (.inl f) => ∃ x, f m = some (x, m') ∧ v = some (aI (bI x))
  | .inr (.inr (.inl f)) => ∃ x, f m = some (x, m') ∧ v = some (aL x)
  | .inr (.inr (.inr (.inl f))) => ∃ x, f m = some (x, m') ∧ v = none
  | .inr (.inr (.inr (.inr (t, f)))) => ∃ x, f m = some (x, m') ∧ v = some (match x with
    | none => aN
    | some i => aR t i)
theorem callR_ans {q : Nat} {c : CallR} {m : MM} {κ : Option AV → Mem → Option Out} {out : Out} (h : callR q c m κ = some out) : ∃ v m', ans c m v m' ∧ κ v (ST0 q, m') = some out := by
  have bm : ∀ {β : Type} {X : Option (β × MM)} {F : β × MM → Option Out}, X.bind F = some out → ∃ x m', X = some (x, m') ∧ F (x, m') = some out := by
    intro β X F e
    cases X with
    | none => cases e
    | some o => exact ⟨o.1, o.2, rfl, e⟩
  rcases c with f | f | f | f | ⟨t, f⟩
  · obtain ⟨x, m', h1, h2⟩ := bm h; exact ⟨_, m', ⟨x, h1, rfl⟩, h2⟩
  · obtain ⟨x, m', h1, h2⟩ := bm h; exact ⟨_, m', ⟨x, h1, rfl⟩, h2⟩
  · obtain ⟨x, m', h1, h2⟩ := bm h; exact ⟨_, m', ⟨x, h1, rfl⟩, h2⟩
  · obtain ⟨x, m', h1, h2⟩ := bm h; exact ⟨_, m', ⟨x, h1, rfl⟩, h2⟩
  · obtain ⟨x, m', h1, h2⟩ := bm h
    refine ⟨_, m', ⟨x, h1, rfl⟩, ?_⟩
    cases x with
    | none => exact h2
    | some i => exact h2
/-- the contract of a method at the memory ST0 q -/
def Ctr (l : Launch) (D : va_G) (cA : Nat → ClassId) (ov : Value) (aR0 : Nat → Nat → Nat) (B nS : Nat) (xs : Nat → Int32) (q d j : Nat) : Prop :=
  ∀ as c, look j as = some c → (as.length = (npj j).1 ∧ ((npj j).2 = 1 → ∃ i As, as = aR (rtag j) i :: As)) ∧ ∀ m v m', ans c m v m' → RK (ST0 q, m) (ST0 q, m') ∧ MetC l D cA ov aR0 B nS xs d j as (ST0 q, m) v (ST0 q, m')
theorem brun_fb {b b' : Nat × Nat} {cs : CS} {T : Nat → Option XE} : ∀ (n : Nat), brun false b cs T n = brun false b' cs T n := by
  intro n
  induction n with
  | zero => funext pc L S M; rfl
  | succ n ih =>
    funext pc L S M
    rw [brun_s, brun_s, ih]
/-- the bound of what is made doesn't matter where nothing is made -/
theorem brun_fx {b b' : Nat × Nat} {cs : CS} {T : Nat → Option XE} {n pc : Nat} {L : LV} {S : List AV} {M : Mem} {o : Option Out} (h : brun false b cs T n pc L S M = o) : brun false b' cs T n pc L S M = o := by
  rw [brun_fb (b := b') (b' := b)]; exact h
section CTR
variable {l : Launch} {D : va_G} {cA : Nat → ClassId} {ov : Value} {aR0 : Nat → Nat → Nat} {B nS : Nat} {xs : Nat → Int32} {q d j : Nat}
theorem Ctr.call {R : Room} {b d' : Nat} {m : MM} (h : Ctr l D cA ov aR0 B nS xs q d' b) (h1 : d' + 1 ≤ R.frames) (h2 : 64 * (d' + 1) ≤ R.locals) : CallOK l D cA ov aR0 B nS xs R false (csF q) b (ST0 q, m) := by
  intro as κ out e
  have e : (match look b as with
    | none => none
    | some c => callR q c m κ) = some out := e
  cases hl : look b as with
  | none => rw [hl] at e; exact ons e
  | some c =>
    rw [hl] at e
    obtain ⟨v, m', ha, hk⟩ := callR_ans e
    obtain ⟨⟨g1, g2⟩, g3⟩ := h as c hl
    exact ⟨g1, g2, v, (ST0 q, m'), d', hk, fun _ => rfl, h1, h2, (g3 m v m' ha).2⟩
theorem Ctr.rk {b d' : Nat} {m : MM} {as : List AV} {κ : Option AV → Mem → Option Out} {out : Out} (h : Ctr l D cA ov aR0 B nS xs q d' b) (e : csF q b as (ST0 q, m) κ = some out) : ∃ v M', κ v M' = some out ∧ RK (ST0 q, m) M' := by
  have e : (match look b as with
    | none => none
    | some c => callR q c m κ) = some out := e
  cases hl : look b as with
  | none => rw [hl] at e; exact ons e
  | some c =>
    rw [hl] at e
    obtain ⟨v, m', ha, hk⟩ := callR_ans e
    exact ⟨v, (ST0 q, m'), hk, ((h as c hl).2 m v m' ha).1⟩
theorem ctr_mk {t : List (List (Nat × XE))} {cl : List Nat} {as : List AV} {m m' : MM} {v : Option AV} {n : Nat} (hj : j < 245) (hT : tabOK (owM j) (mlM j) (cM j) t = true) (hc : chT cl t = true) (hd : 1 ≤ d) (hC : ∀ b ∈ cl, ∃ d', d' < d ∧ Ctr l D cA ov aR0 B nS xs q d' b)
    (hent : (entA as).length ≤ mlM j) (hrt : rtOK (rtM j) v) (hrun : brun false (0, 0) (csF q) (lkb t) n 0 (entL (mlM j) as) [] (ST0 q, m) = some (v, (ST0 q, m'))) : RK (ST0 q, m) (ST0 q, m') ∧ MetC l D cA ov aR0 B nS xs d j as (ST0 q, m) v (ST0 q, m') := by
  have hrk : RK (ST0 q, m) (ST0 q, m') := brun_rk (out := (v, (ST0 q, m'))) (s0 := ST0 q) hc (fun b hb as M κ hM e => by
    obtain ⟨d', _, h2⟩ := hC b hb
    obtain ⟨s, mm⟩ := M
    have hM : s = ST0 q := hM
    subst hM
    exact h2.rk e) n 0 _ _ _ rfl hrun
  refine ⟨hrk, ?_⟩
  refine met_of_run (al := false) (cs := csF q) (PM := fun M => M.1 = ST0 q) hj hT hd (fun h => by cases h) hent hrt (fun h => hrk.ro h) (Nat.le_refl _) (Nat.le_refl _) rfl (fun _ M hM => ?_) (fun M M' hM hR => ?_) (fun R hR1 hR2 pc xe M hx hz hM => ?_) (brun_fx hrun)
  · have hM : M.1 = ST0 q := hM
    rw [hM]; exact ⟨Nat.le_refl _, Nat.le_refl _⟩
  · have hM : M.1 = ST0 q := hM
    show M'.1 = ST0 q
    rw [hR.2.2 rfl, hM]
  · obtain ⟨d', h1, h2⟩ := hC _ ((chT_at hc hx).1 hz)
    obtain ⟨s, mm⟩ := M
    have hM : s = ST0 q := hM
    subst hM
    exact h2.call (by omega) (by omega)
end CTR
