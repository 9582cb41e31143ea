/-! THE MAKERS: a run that makes: it grows, it writes nothing that is only read, and it asks of what comes behind it no more than its end -/
def Gw (M M' : Mem) : Prop := M.1.2.2.2.1 ≤ M'.1.2.2.2.1 ∧ M.1.2.2.2.2 ≤ M'.1.2.2.2.2 ∧ ∀ c i, 30 ≤ c → c < 40 → M'.2.1 c i = M.2.1 c i ∧ M'.1.2.2.1 c i = M.1.2.2.1 c i ∧ M'.1.2.1 c i = M.1.2.1 c i
theorem Gw.rfl {M : Mem} : Gw M M := ⟨Nat.le_refl _, Nat.le_refl _, fun _ _ _ _ => ⟨Eq.refl _, Eq.refl _, Eq.refl _⟩⟩
theorem Gw.trans {M M' M2 : Mem} (h : Gw M M') (g : Gw M' M2) : Gw M M2 :=
  ⟨Nat.le_trans h.1 g.1, Nat.le_trans h.2.1 g.2.1, fun c i h1 h2 => ⟨(g.2.2 c i h1 h2).1.trans (h.2.2 c i h1 h2).1, (g.2.2 c i h1 h2).2.1.trans (h.2.2 c i h1 h2).2.1, (g.2.2 c i h1 h2).2.2.trans (h.2.2 c i h1 h2).2.2⟩⟩
theorem Gw.up {M : Mem} {c i k : Nat} {x : Int32} (h : c < 30 ∨ 40 ≤ c) : Gw M (M.1, (upI M.2.1 c i k x, M.2.2)) :=
  ⟨Nat.le_refl _, Nat.le_refl _, fun c' i' h1 h2 => ⟨by
    funext k'
    show (if c' = c ∧ i' = i ∧ k' = k then x else M.2.1 c' i' k') = _
    rw [if_neg (by omega)], Eq.refl _, Eq.refl _⟩⟩
theorem Gw.setR {M : Mem} {c i k : Nat} {x : Option (Nat × Nat)} (h : c < 30 ∨ 40 ≤ c) : Gw M ((M.1.1, M.1.2.1, upR M.1.2.2.1 c i k x, M.1.2.2.2.1, M.1.2.2.2.2), M.2) :=
  ⟨Nat.le_refl _, Nat.le_refl _, fun c' i' h1 h2 => ⟨Eq.refl _, by
    funext k'
    show (if c' = c ∧ i' = i ∧ k' = k then x else M.1.2.2.1 c' i' k') = _
    rw [if_neg (by omega)], Eq.refl _⟩⟩
/-- a step: it comes to one state behind it, and does so whatever stands there -/
def Gk (out : Out) (M : Mem) (F : (Nat → LV → List AV → Mem → Option Out) → Option Out) : Prop :=
  ∀ k, F k = some out → ∃ pc' L' S' M', k pc' L' S' M' = some out ∧ Gw M M' ∧ ∀ k', k' pc' L' S' M' = some out → F k' = some out
/-- a call: the same -/
def Gc (cs : CS) (b : Nat) : Prop :=
  ∀ as M κ out, cs b as M κ = some out → ∃ v M', κ v M' = some out ∧ Gw M M' ∧ ∀ κ' out', κ' v M' = some out' → cs b as M κ' = some out'
section GKS
variable {out : Out} {M : Mem}
theorem gk_none {F : (Nat → LV → List AV → Mem → Option Out) → Option Out} (e : ∀ k, F k = none) : Gk out M F := fun k h => by rw [e k] at h; cases h
theorem gk_go {F : (Nat → LV → List AV → Mem → Option Out) → Option Out} {pc : Nat} {L : LV} {S : List AV} {M' : Mem} (e : ∀ k, F k = k pc L S M') (r : Gw M M') : Gk out M F := fun k h => ⟨pc, L, S, M', (e k) ▸ h, r, fun k' h' => (e k').trans h'⟩
theorem gk_bif {F G : (Nat → LV → List AV → Mem → Option Out) → Option Out} {b : Bool} (e : ∀ k, F k = bif b then G k else none) (h : b = true → Gk out M G) : Gk out M F := by
  cases b with
  | false => exact gk_none e
  | true =>
    intro k hk
    rw [e k] at hk
    obtain ⟨pc', L', S', M', h1, h2, h3⟩ := h rfl k hk
    exact ⟨pc', L', S', M', h1, h2, fun k' h' => by rw [e k']; exact h3 k' h'⟩
theorem gk_ite {F G H : (Nat → LV → List AV → Mem → Option Out) → Option Out} {c : Prop} [Decidable c] (e : ∀ k, F k = if c then G k else H k) (h : Gk out M G) (g : Gk out M H) : Gk out M F := by
  by_cases hc : c
  · intro k hk
    rw [e k, if_pos hc] at hk
    obtain ⟨pc', L', S', M', h1, h2, h3⟩ := h k hk
    exact ⟨pc', L', S', M', h1, h2, fun k' h' => by rw [e k', if_pos hc]; exact h3 k' h'⟩
  · intro k hk
    rw [e k, if_neg hc] at hk
    obtain ⟨pc', L', S', M', h1, h2, h3⟩ := g k hk
    exact ⟨pc', L', S', M', h1, h2, fun k' h' => by rw [e k', if_neg hc]; exact h3 k' h'⟩
end GKS
/-- the instructions of the makers -/
def ctI (i : Instr) : Bool := match i with
  | .aload _ => true
  | .nop => true
  | .iconst _ => true
  | .putfield _ => true
  | .newarray _ => true
  | .new _ => true
  | .dup => true
  | .invokevirtual _ => true
  | .istore _ => true
  | .iload _ => true
  | .getfield _ => true
  | .arraylength => true
  | .if_icmp _ _ => true
  | .iastore => true
  | .iinc _ _ => true
  | .goto _ => true
  | .anewarray _ => true
  | .aastore => true
  | .multianewarray _ _ => true
  | _ => false
section GKA
variable {cs : CS} {pc : Nat} {L : LV} {S : List AV} {M : Mem} {out : Out} {len a b d : Nat} {v : Int32} {w : Int64} {brs : List (Int32 × Nat)}
set_option maxHeartbeats 4000000 in
theorem astep_gw {xe : XE} (hI : ctI xe.1 = true) (hp : (∃ z, xe.1 = .putfield z) → xe.2.2.1.1 < 8) (hcs : (∃ z, xe.1 = .invokevirtual z) → Gc cs xe.2.2.1.2.1) : Gk out M (fun k => astep true cs xe pc L S M k) := by
  obtain ⟨i, len, ⟨a, b, d⟩, v, w, brs⟩ := xe
  cases i with
  | iconst z => exact gk_go (fun _ => rfl) Gw.rfl
  | goto z => exact gk_go (fun _ => rfl) Gw.rfl
  | aload z =>
    cases hg : gL L a with
    | none => exact gk_none (fun k => by simp only [astep, hg])
    | some x =>
      rcases x with (x | x) | x
      · exact gk_none (fun k => by simp only [astep, hg])
      · exact gk_none (fun k => by simp only [astep, hg])
      · exact gk_go (pc := pc + len) (L := L) (S := .inr x :: S) (M' := M) (fun k => by simp only [astep, hg]) Gw.rfl
  | iload z =>
    cases hg : gL L a with
    | none => exact gk_none (fun k => by simp only [astep, hg])
    | some x =>
      rcases x with (x | x) | x
      · exact gk_go (pc := pc + len) (L := L) (S := aI x :: S) (M' := M) (fun k => by simp only [astep, hg]) Gw.rfl
      · exact gk_none (fun k => by simp only [astep, hg])
      · exact gk_none (fun k => by simp only [astep, hg])
  | iinc z y =>
    cases hg : gL L a with
    | none => exact gk_none (fun k => by simp only [astep, hg])
    | some x =>
      rcases x with (x | x) | x
      · exact gk_go (pc := pc + len) (L := st1 L a (aI (x + v))) (S := S) (M' := M) (fun k => by simp only [astep, hg]) Gw.rfl
      · exact gk_none (fun k => by simp only [astep, hg])
      · exact gk_none (fun k => by simp only [astep, hg])
  | istore z =>
    rcases S with _ | ⟨(x | x) | x, S⟩ <;> first | exact gk_none (fun _ => rfl) | exact gk_go (fun _ => rfl) Gw.rfl
  | dup =>
    rcases S with _ | ⟨(x | x) | x, S⟩ <;> first | exact gk_none (fun _ => rfl) | exact gk_go (fun _ => rfl) Gw.rfl
  | nop =>
    rcases S with _ | ⟨(x | x) | _ | ⟨ci, ii⟩, S⟩ <;> first | exact gk_none (fun _ => rfl) | exact gk_bif (fun _ => rfl) (fun _ => gk_go (fun _ => rfl) Gw.rfl)
  | arraylength =>
    rcases S with _ | ⟨(x | x) | _ | ⟨ci, ii⟩, S⟩ <;> first | exact gk_none (fun _ => rfl) | exact gk_bif (fun _ => rfl) (fun _ => gk_go (fun _ => rfl) Gw.rfl)
  | if_icmp f z =>
    rcases S with _ | ⟨(y | y) | y, _ | ⟨(x | x) | x, S⟩⟩ <;> first | exact gk_none (fun _ => rfl) | (cases f <;> exact gk_ite (fun _ => rfl) (gk_go (fun _ => rfl) Gw.rfl) (gk_go (fun _ => rfl) Gw.rfl))
  | getfield z =>
    rcases S with _ | ⟨(x | x) | _ | ⟨ci, ii⟩, S⟩ <;> try exact gk_none (fun _ => rfl)
    refine gk_bif (fun _ => rfl) (fun _ => ?_)
    by_cases hs : sk a b = 4
    · exact gk_go (pc := pc + len) (L := L) (S := .inr (M.1.2.2.1 ci ii b) :: S) (M' := M) (fun k => by simp only [hs]) Gw.rfl
    · refine gk_go (pc := pc + len) (L := L) (S := aI (M.2.1 ci ii b) :: S) (M' := M) (fun k => ?_) Gw.rfl
      split
      · rename_i e; exact absurd e hs
      · rfl
  | iastore =>
    rcases S with _ | ⟨(x | x) | x, _ | ⟨(j | j) | j, _ | ⟨(y | y) | _ | ⟨ci, ii⟩, S⟩⟩⟩ <;> try exact gk_none (fun _ => rfl)
    exact gk_bif (fun _ => rfl) (fun hb => gk_go (fun _ => rfl) (Gw.up (Or.inr (isIA_ge (Bool.and_eq_true_iff.mp hb).1).1)))
  | invokevirtual z =>
    exact gk_bif (fun _ => rfl) (fun _ k h => by
      obtain ⟨r, M', h1, h2, h3⟩ := hcs ⟨_, rfl⟩ _ _ _ _ h
      exact ⟨_, _, _, _, h1, h2, fun k' h' => h3 _ _ h'⟩)
  | putfield z =>
    have h8 : a < 8 := hp ⟨_, rfl⟩
    have e0 : ∀ {x : Int32} {i : Nat}, Gw M (M.1, (upI M.2.1 a i b x, M.2.2)) := Gw.up (Or.inl (by omega))
    rcases hs : sk a b with _ | _ | n
    · rcases S with _ | ⟨(x | x) | x, _ | ⟨(y | y) | _ | ⟨ci, ii⟩, S⟩⟩ <;> first | (refine gk_none ?_; intro k; simp only [astep, hs]; done) | skip
      refine gk_bif (b := Nat.beq ci a) (G := fun k => k (pc + len) L S (M.1, (upI M.2.1 ci ii b x, M.2.2))) (fun k => by simp only [astep, hs]) (fun hb => gk_go (fun _ => rfl) ?_)
      have e := Nat.eq_of_beq_eq_true hb
      subst e; exact e0
    · rcases S with _ | ⟨(x | x) | x, _ | ⟨(y | y) | _ | ⟨ci, ii⟩, S⟩⟩ <;> first | (refine gk_none ?_; intro k; simp only [astep, hs]; done) | skip
      refine gk_bif (b := Nat.beq ci a && (x == 0 || x == 1)) (G := fun k => k (pc + len) L S (M.1, (upI M.2.1 ci ii b x, M.2.2))) (fun k => by simp only [astep, hs]) (fun hb => gk_go (fun _ => rfl) ?_)
      have e := Nat.eq_of_beq_eq_true (Bool.and_eq_true_iff.mp hb).1
      subst e; exact e0
    · rcases S with _ | ⟨(x | x) | _ | q, _ | ⟨(y | y) | _ | ⟨ci, ii⟩, S⟩⟩ <;> first | (refine gk_none ?_; intro k; simp only [astep, hs]; done) | skip
      refine gk_bif (b := true && Nat.beq ci a && (Nat.blt q.1 8 || isIA q.1 || isLA q.1 || isRA q.1)) (G := fun k => k (pc + len) L S ((M.1.1, M.1.2.1, upR M.1.2.2.1 ci ii b (some q), M.1.2.2.2.1, M.1.2.2.2.2), M.2)) (fun k => by simp only [astep, hs]) (fun hb => gk_go (fun _ => rfl) ?_)
      have e := Nat.eq_of_beq_eq_true (Bool.and_eq_true_iff.mp (Bool.and_eq_true_iff.mp hb).1).2
      subst e; exact Gw.setR (Or.inl (by omega))
  | new z =>
    refine gk_bif (fun _ => rfl) (fun hb => gk_go (fun _ => rfl) ?_)
    have ha : a < 8 := Nat.blt_eq.mp (Bool.and_eq_true_iff.mp hb).2
    exact ⟨Nat.le_succ _, Nat.le_add_right _ _, fun c i g1 g2 => ⟨funext fun j => if_neg (by omega), funext fun j => if_neg (by omega), rfl⟩⟩
  | newarray z =>
    rcases S with _ | ⟨(n | n) | n, S⟩ <;> try exact gk_none (fun _ => rfl)
    refine gk_bif (fun _ => rfl) (fun hb => gk_go (fun _ => rfl) ?_)
    have ha : a < 30 ∨ 40 ≤ a := by
      rcases Bool.or_eq_true_iff.mp (Bool.and_eq_true_iff.mp (Bool.and_eq_true_iff.mp hb).1).2 with q | q
      · have := isIA_ge q; omega
      · have := isLA_ge q; omega
    exact ⟨Nat.le_succ _, Nat.le_add_right _ _, fun c i g1 g2 => ⟨funext fun j => if_neg (by omega), funext fun j => if_neg (by omega), if_neg (by omega)⟩⟩
  | anewarray z =>
    rcases S with _ | ⟨(n | n) | n, S⟩ <;> try exact gk_none (fun _ => rfl)
    refine gk_bif (fun _ => rfl) (fun hb => gk_go (fun _ => rfl) ?_)
    have hh := Bool.and_eq_true_iff.mp (Bool.and_eq_true_iff.mp (Bool.and_eq_true_iff.mp hb).1).2
    have ha : 22 ≤ a ∧ a ≤ 24 := ⟨Nat.ble_eq.mp hh.1, Nat.ble_eq.mp hh.2⟩
    exact ⟨Nat.le_succ _, Nat.le_add_right _ _, fun c i g1 g2 => ⟨rfl, funext fun j => if_neg (by omega), if_neg (by omega)⟩⟩
  | multianewarray z y =>
    rcases S with _ | ⟨(u | u) | u, _ | ⟨(n | n) | n, S⟩⟩ <;> try exact gk_none (fun _ => rfl)
    refine gk_bif (fun _ => rfl) (fun hb => gk_go (fun _ => rfl) ?_)
    have h1 := Bool.and_eq_true_iff.mp (Bool.and_eq_true_iff.mp (Bool.and_eq_true_iff.mp hb).1).1
    have hh := Bool.and_eq_true_iff.mp (Bool.and_eq_true_iff.mp h1.1).2
    have ha : 25 ≤ a ∧ a ≤ 26 := ⟨Nat.ble_eq.mp hh.1, Nat.ble_eq.mp hh.2⟩
    have hb2 := isIA_ge h1.2
    refine ⟨?_, ?_, fun c i g1 g2 => ⟨funext fun j => if_neg (by omega), funext fun j => ?_, ?_⟩⟩
    · show M.1.2.2.2.1 ≤ M.1.2.2.2.1 + 1 + _
      omega
    · show M.1.2.2.2.2 ≤ M.1.2.2.2.2 + _ + _
      omega
    · show (if c = a ∧ i = M.1.1 a then (if j < n.toNatClampNeg then some (b, M.1.1 b + j) else none) else if c = b ∧ M.1.1 b ≤ i then none else M.1.2.2.1 c i j) = _
      rw [if_neg (by omega), if_neg (by omega)]
    · show (if c = a ∧ i = M.1.1 a then n.toNatClampNeg else if c = b ∧ M.1.1 b ≤ i then u.toNatClampNeg else M.1.2.1 c i) = _
      rw [if_neg (by omega), if_neg (by omega)]
  | aastore =>
    rcases S with _ | ⟨(x | x) | _ | q, _ | ⟨(j | j) | j, _ | ⟨(y | y) | _ | ⟨ci, ii⟩, S⟩⟩⟩ <;> try exact gk_none (fun _ => rfl)
    refine gk_bif (fun _ => rfl) (fun hb => gk_go (fun _ => rfl) (Gw.setR (Or.inl ?_)))
    have h2 := (Bool.and_eq_true_iff.mp (Bool.and_eq_true_iff.mp hb).1).2
    rcases Bool.or_eq_true_iff.mp h2 with h2 | h2
    · rcases Bool.or_eq_true_iff.mp h2 with h2 | h2
      · have e := Nat.eq_of_beq_eq_true (Bool.and_eq_true_iff.mp h2).1; omega
      · have e := Nat.eq_of_beq_eq_true (Bool.and_eq_true_iff.mp h2).1; omega
    · have e := Nat.eq_of_beq_eq_true (Bool.and_eq_true_iff.mp h2).1; omega
  | _ => exact absurd (show false = true from hI) (by decide)
end GKA
/-- a table of a maker -/
def ctTb (t : List (List (Nat × XE))) : Bool := t.all (fun r => r.all (fun q => match q.2.1 with
  | .return_ => true
  | .putfield _ => Nat.blt q.2.2.2.1.1 8
  | i => ctI i))
theorem ctTb_at {t : List (List (Nat × XE))} (h : ctTb t = true) {pc : Nat} {x : XE} (hx : lkb t pc = some x) : x.1 = .return_ ∨ (ctI x.1 = true ∧ ((∃ z, x.1 = .putfield z) → x.2.2.1.1 < 8)) := by
  obtain ⟨r, hr, hm⟩ := lkb_mem hx
  have h2 := List.all_eq_true.mp (List.all_eq_true.mp h r hr) _ hm
  obtain ⟨i, len, ⟨a, b, d⟩, v, w, brs⟩ := x
  dsimp only at h2 ⊢
  split at h2
  · exact Or.inl rfl
  · exact Or.inr ⟨rfl, fun _ => Nat.blt_eq.mp h2⟩
  · rename_i h3 h4
    exact Or.inr ⟨h2, fun ⟨z, e⟩ => absurd e (h4 z)⟩
theorem brun_gw {b : Nat × Nat} {cs : CS} {t : List (List (Nat × XE))} {out : Out} (ht : ctTb t = true) (hcs : ∀ j, Gc cs j) : ∀ (n pc : Nat) (L : LV) (S : List AV) (M : Mem), brun true b cs (lkb t) n pc L S M = some out → Gw M out.2 ∧ brun true (out.2.1.2.2.2.1, out.2.1.2.2.2.2) cs (lkb t) n pc L S M = some out := by
  intro n
  induction n with
  | zero => intro pc L S M h; cases h
  | succ n ih =>
    intro pc L S M h
    have eq : ∀ b', brun true b' cs (lkb t) (n + 1) pc L S M = (bif true && !(Nat.ble M.1.2.2.2.1 b'.1 && Nat.ble M.1.2.2.2.2 b'.2) then none else match lkb t pc with
      | none => none
      | some xe => match retv xe.1 S M with
        | some r => r
        | none => astep true cs xe pc L S M (brun true b' cs (lkb t) n)) := fun b' => rfl
    rw [eq] at h
    cases hc : true && !(Nat.ble M.1.2.2.2.1 b.1 && Nat.ble M.1.2.2.2.2 b.2) with
    | true => rw [hc] at h; cases h
    | false =>
    rw [hc] at h
    have go : Gw M out.2 → (bif true && !(Nat.ble M.1.2.2.2.1 out.2.1.2.2.2.1 && Nat.ble M.1.2.2.2.2 out.2.1.2.2.2.2) then (none : Option Out) else none) = none ∧ (true && !(Nat.ble M.1.2.2.2.1 out.2.1.2.2.2.1 && Nat.ble M.1.2.2.2.2 out.2.1.2.2.2.2)) = false := fun g => by
      have e1 : Nat.ble M.1.2.2.2.1 out.2.1.2.2.2.1 = true := Nat.ble_eq.mpr g.1
      have e2 : Nat.ble M.1.2.2.2.2 out.2.1.2.2.2.2 = true := Nat.ble_eq.mpr g.2.1
      rw [e1, e2]
      exact ⟨rfl, rfl⟩
    cases hT : lkb t pc with
    | none => rw [hT] at h; cases h
    | some xe =>
      rw [hT] at h
      have h : (match retv xe.1 S M with
        | some r => r
        | none => astep true cs xe pc L S M (brun true b cs (lkb t) n)) = some out := h
      cases hr : retv xe.1 S M with
      | some r =>
        rw [hr] at h
        have h : r = some out := h
        subst h
        have e := retv_M hr
        have g : Gw M out.2 := by rw [e]; exact Gw.rfl
        refine ⟨g, ?_⟩
        rw [eq, (go g).2, hT]
        show (match retv xe.1 S M with
          | some r => r
          | none => _) = some out
        rw [hr]
      | none =>
        rw [hr] at h
        have h : astep true cs xe pc L S M (brun true b cs (lkb t) n) = some out := h
        have hk : Gk out M (fun k => astep true cs xe pc L S M k) := by
          rcases ctTb_at ht hT with e | ⟨e1, e2⟩
          · rw [e] at hr; exact absurd hr (by cases S <;> (intro q; cases q))
          · exact astep_gw e1 e2 (fun _ => hcs _)
        obtain ⟨pc', L', S', M', h1, h2, h3⟩ := hk _ h
        obtain ⟨i1, i2⟩ := ih _ _ _ _ h1
        have g := h2.trans i1
        refine ⟨g, ?_⟩
        rw [eq, (go g).2, hT]
        show (match retv xe.1 S M with
          | some r => r
          | none => astep true cs xe pc L S M (brun true (out.2.1.2.2.2.1, out.2.1.2.2.2.2) cs (lkb t) n)) = some out
        rw [hr]
        exact h3 _ i2
