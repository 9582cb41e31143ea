/-! ONE INSTRUCTION: where the abstract machine goes on, the machine goes on -/
section STP
variable {p : Program} {l : Launch} {e : Env} {R : Room} {s : State} {m : MethodId} {args : Array Value} {below : List Frame} {meth : Method} {c : Code} {Q : State → Prop}
variable {D : va_G} {cA : Nat → ClassId} {ov : Value} {aR0 : Nat → Nat → Nat} {B nS : Nat} {xs : Nat → Int32} {cc : ByteArray} {nL own a0 b0 : Nat}
variable {al : Bool} {cs : CS} {pc : Nat} {L : LV} {S : List AV} {M : Mem} {k : Nat → LV → List AV → Mem → Option Out} {out : Out}
variable {dir : List (Nat × Nat)} {ad : Nat → Nat → Nat} {H : Heap} {locs : List Loc} {ls : Array Slot} {len a b d : Nat} {v : Int32} {w : Int64} {brs : List (Int32 × Nat)}
/-- what stands while a method runs -/
def Cx (p : Program) (s : State) (m : MethodId) (args : Array Value) (c : Code) (cc : ByteArray) (nL own : Nat) (D : va_G) (cA : Nat → ClassId) (ov : Value) (aR0 : Nat → Nat → Nat) (B nS : Nat) (xs : Nat → Int32) : Prop :=
  p.tables.exec = Jvm.exec ∧ c.code = cc ∧ c.maxLocals = nL ∧ s.vm.findClass (cn own) = some m.cls ∧ (∀ w ∈ WSg, w.before args s = true) ∧ SFp D cA ov aR0 B nS xs s ∧ B ≤ s.heap.size
/-- what holds between two instructions -/
def Inv (s : State) (nL : Nat) (D : va_G) (cA : Nat → ClassId) (ov : Value) (aR0 : Nat → Nat → Nat) (B nS : Nat) (xs : Nat → Int32) (a0 b0 : Nat) (dir : List (Nat × Nat)) (ad : Nat → Nat → Nat) (M : Mem) (H : Heap) (locs : List Loc) (ls : Array Slot) (L : LV) (S : List AV) : Prop :=
  Rep D cA ad dir B M H ∧ ROm nS xs M ∧ va_S (fun q => B ≤ q) s.heap H locs ∧ LR ad ov ls nL L ∧ (∀ v ∈ S, vok dir v) ∧ (∀ i v, gL L i = some v → vok dir v) ∧ (∀ c i, 30 ≤ c → c ≤ 34 → ad c i = aR0 c i) ∧ a0 ≤ M.1.2.2.2.1 ∧ b0 ≤ M.1.2.2.2.2
/-- how the memory may go on: it grows; where nothing is made, what is static stays -/
def Rel (al : Bool) (M M' : Mem) : Prop := M.1.2.2.2.1 ≤ M'.1.2.2.2.1 ∧ M.1.2.2.2.2 ≤ M'.1.2.2.2.2 ∧ (al = false → M'.1 = M.1)
theorem Rel.of {al : Bool} {M M' : Mem} (h : M'.1 = M.1) : Rel al M M' := ⟨by rw [h]; exact Nat.le_refl _, by rw [h]; exact Nat.le_refl _, fun _ => h⟩
theorem Rel.mk2 {al : Bool} {M M' : Mem} (h : al = true) (h1 : M.1.2.2.2.1 ≤ M'.1.2.2.2.1) (h2 : M.1.2.2.2.2 ≤ M'.1.2.2.2.2) : Rel al M M' := ⟨h1, h2, fun e => by rw [h] at e; cases e⟩
/-- what comes behind goes on -/
def KK (p : Program) (l : Launch) (e : Env) (R : Room) (s : State) (m : MethodId) (args : Array Value) (below : List Frame) (meth : Method) (c : Code) (Q : State → Prop) (nL : Nat) (D : va_G) (cA : Nat → ClassId) (ov : Value) (aR0 : Nat → Nat → Nat) (B nS : Nat) (xs : Nat → Int32) (a0 b0 : Nat) (dir : List (Nat × Nat)) (ad : Nat → Nat → Nat) (al : Bool) (M : Mem) (k : Nat → LV → List AV → Mem → Option Out) (out : Out) : Prop :=
  ∀ pc' L' S' M', k pc' L' S' M' = some out → Rel al M M' → ∀ dir' ad' H' locs' ls', Ext dir dir' ad ad' → Inv s nL D cA ov aR0 B nS xs a0 b0 dir' ad' M' H' locs' ls' L' S' → W p l e R s m args below meth c H' locs' (M'.1.2.2.2.1 - a0) (M'.1.2.2.2.2 - b0) Q (F0 m pc' ls' (S'.map (cv ad' ov)))
def nOK (own nL : Nat) (xe : XE) : Bool := match xe with
  | (i, _, (a, b, _), _) => match i with
    | .putfield _ => !(Nat.beq (sk a b) 4) || Nat.beq own a
    | .istore _ => Nat.blt a nL
    | .astore _ => Nat.blt a nL
    | .lstore _ => Nat.blt (a + 1) nL
    | _ => true
def okF (own nL : Nat) (cc : ByteArray) (pc : Nat) (xe : XE) : Bool := nOK own nL xe && okE own cc pc xe
theorem ons {out : Out} (h : (none : Option Out) = some out) {P : Prop} : P := by cases h
theorem vS1 {dir : List (Nat × Nat)} {S : List AV} {v : AV} (hv : vok dir v) (h : ∀ x ∈ S, vok dir x) : ∀ x ∈ v :: S, vok dir x := fun x hx => by
  rcases List.mem_cons.mp hx with e | h2
  · rw [e]; exact hv
  · exact h x h2
theorem vT1 {dir : List (Nat × Nat)} {S : List AV} {v : AV} (h : ∀ x ∈ v :: S, vok dir x) : ∀ x ∈ S, vok dir x := fun x hx => h x (List.mem_cons_of_mem _ hx)
theorem vH1 {dir : List (Nat × Nat)} {S : List AV} {v : AV} (h : ∀ x ∈ v :: S, vok dir x) : vok dir v := h v List.mem_cons_self

theorem cv_ref {ad : Nat → Nat → Nat} {ov : Value} (ho : ov = .null ∨ ∃ q, ov = .ref q) (x : Option (Nat × Nat)) : cv ad ov (.inr x) = .null ∨ ∃ q, cv ad ov (.inr x) = .ref q := by
  rcases x with _ | q
  · exact Or.inl rfl
  · show (if q.1 = 34 then ov else Value.ref (ad q.1 q.2)) = .null ∨ ∃ z, (if q.1 = 34 then ov else Value.ref (ad q.1 q.2)) = .ref z
    split
    · exact ho
    · exact Or.inr ⟨_, rfl⟩

set_option maxHeartbeats 1000000 in
theorem s_iadd (C : Cx p s m args c cc nL own D cA ov aR0 B nS xs) (I : Inv s nL D cA ov aR0 B nS xs a0 b0 dir ad M H locs ls L S) (K : KK p l e R s m args below meth c Q nL D cA ov aR0 B nS xs a0 b0 dir ad al M k out)
    (hok : okF own nL cc pc (.iadd, len, (a, b, d), v, w, brs) = true) (h : astep al cs (.iadd, len, (a, b, d), v, w, brs) pc L S M k = some out) : W p l e R s m args below meth c H locs (M.1.2.2.2.1 - a0) (M.1.2.2.2.2 - b0) Q (F0 m pc ls (S.map (cv ad ov))) := by
  obtain ⟨hx, hb, hml, hown, hts, hSF, hB⟩ := C
  obtain ⟨hR, hRO, hS, hL, hvS, hvL, hro, hac, has⟩ := I
  obtain ⟨hd, rfl⟩ : decode cc pc = .ok (.iadd, 1) ∧ len = 1 := by simpa [okF, nOK, okE, okD] using hok
  rcases S with _ | ⟨(y | y) | y, _ | ⟨(x | x) | x, S⟩⟩ <;> try exact ons h
  exact lv_iadd hx hb hd (K _ _ _ _ h (Rel.of rfl) dir ad H locs ls Ext.rf ⟨hR, hRO, hS, hL, vS1 trivial (vT1 (vT1 hvS)), hvL, hro, hac, has⟩)

set_option maxHeartbeats 1000000 in
theorem s_isub (C : Cx p s m args c cc nL own D cA ov aR0 B nS xs) (I : Inv s nL D cA ov aR0 B nS xs a0 b0 dir ad M H locs ls L S) (K : KK p l e R s m args below meth c Q nL D cA ov aR0 B nS xs a0 b0 dir ad al M k out)
    (hok : okF own nL cc pc (.isub, len, (a, b, d), v, w, brs) = true) (h : astep al cs (.isub, len, (a, b, d), v, w, brs) pc L S M k = some out) : W p l e R s m args below meth c H locs (M.1.2.2.2.1 - a0) (M.1.2.2.2.2 - b0) Q (F0 m pc ls (S.map (cv ad ov))) := by
  obtain ⟨hx, hb, hml, hown, hts, hSF, hB⟩ := C
  obtain ⟨hR, hRO, hS, hL, hvS, hvL, hro, hac, has⟩ := I
  obtain ⟨hd, rfl⟩ : decode cc pc = .ok (.isub, 1) ∧ len = 1 := by simpa [okF, nOK, okE, okD] using hok
  rcases S with _ | ⟨(y | y) | y, _ | ⟨(x | x) | x, S⟩⟩ <;> try exact ons h
  exact lv_isub hx hb hd (K _ _ _ _ h (Rel.of rfl) dir ad H locs ls Ext.rf ⟨hR, hRO, hS, hL, vS1 trivial (vT1 (vT1 hvS)), hvL, hro, hac, has⟩)

set_option maxHeartbeats 1000000 in
theorem s_imul (C : Cx p s m args c cc nL own D cA ov aR0 B nS xs) (I : Inv s nL D cA ov aR0 B nS xs a0 b0 dir ad M H locs ls L S) (K : KK p l e R s m args below meth c Q nL D cA ov aR0 B nS xs a0 b0 dir ad al M k out)
    (hok : okF own nL cc pc (.imul, len, (a, b, d), v, w, brs) = true) (h : astep al cs (.imul, len, (a, b, d), v, w, brs) pc L S M k = some out) : W p l e R s m args below meth c H locs (M.1.2.2.2.1 - a0) (M.1.2.2.2.2 - b0) Q (F0 m pc ls (S.map (cv ad ov))) := by
  obtain ⟨hx, hb, hml, hown, hts, hSF, hB⟩ := C
  obtain ⟨hR, hRO, hS, hL, hvS, hvL, hro, hac, has⟩ := I
  obtain ⟨hd, rfl⟩ : decode cc pc = .ok (.imul, 1) ∧ len = 1 := by simpa [okF, nOK, okE, okD] using hok
  rcases S with _ | ⟨(y | y) | y, _ | ⟨(x | x) | x, S⟩⟩ <;> try exact ons h
  exact lv_imul hx hb hd (K _ _ _ _ h (Rel.of rfl) dir ad H locs ls Ext.rf ⟨hR, hRO, hS, hL, vS1 trivial (vT1 (vT1 hvS)), hvL, hro, hac, has⟩)

set_option maxHeartbeats 1000000 in
theorem s_iand (C : Cx p s m args c cc nL own D cA ov aR0 B nS xs) (I : Inv s nL D cA ov aR0 B nS xs a0 b0 dir ad M H locs ls L S) (K : KK p l e R s m args below meth c Q nL D cA ov aR0 B nS xs a0 b0 dir ad al M k out)
    (hok : okF own nL cc pc (.iand, len, (a, b, d), v, w, brs) = true) (h : astep al cs (.iand, len, (a, b, d), v, w, brs) pc L S M k = some out) : W p l e R s m args below meth c H locs (M.1.2.2.2.1 - a0) (M.1.2.2.2.2 - b0) Q (F0 m pc ls (S.map (cv ad ov))) := by
  obtain ⟨hx, hb, hml, hown, hts, hSF, hB⟩ := C
  obtain ⟨hR, hRO, hS, hL, hvS, hvL, hro, hac, has⟩ := I
  obtain ⟨hd, rfl⟩ : decode cc pc = .ok (.iand, 1) ∧ len = 1 := by simpa [okF, nOK, okE, okD] using hok
  rcases S with _ | ⟨(y | y) | y, _ | ⟨(x | x) | x, S⟩⟩ <;> try exact ons h
  exact lv_iand hx hb hd (K _ _ _ _ h (Rel.of rfl) dir ad H locs ls Ext.rf ⟨hR, hRO, hS, hL, vS1 trivial (vT1 (vT1 hvS)), hvL, hro, hac, has⟩)

set_option maxHeartbeats 1000000 in
theorem s_ior (C : Cx p s m args c cc nL own D cA ov aR0 B nS xs) (I : Inv s nL D cA ov aR0 B nS xs a0 b0 dir ad M H locs ls L S) (K : KK p l e R s m args below meth c Q nL D cA ov aR0 B nS xs a0 b0 dir ad al M k out)
    (hok : okF own nL cc pc (.ior, len, (a, b, d), v, w, brs) = true) (h : astep al cs (.ior, len, (a, b, d), v, w, brs) pc L S M k = some out) : W p l e R s m args below meth c H locs (M.1.2.2.2.1 - a0) (M.1.2.2.2.2 - b0) Q (F0 m pc ls (S.map (cv ad ov))) := by
  obtain ⟨hx, hb, hml, hown, hts, hSF, hB⟩ := C
  obtain ⟨hR, hRO, hS, hL, hvS, hvL, hro, hac, has⟩ := I
  obtain ⟨hd, rfl⟩ : decode cc pc = .ok (.ior, 1) ∧ len = 1 := by simpa [okF, nOK, okE, okD] using hok
  rcases S with _ | ⟨(y | y) | y, _ | ⟨(x | x) | x, S⟩⟩ <;> try exact ons h
  exact lv_ior hx hb hd (K _ _ _ _ h (Rel.of rfl) dir ad H locs ls Ext.rf ⟨hR, hRO, hS, hL, vS1 trivial (vT1 (vT1 hvS)), hvL, hro, hac, has⟩)

set_option maxHeartbeats 1000000 in
theorem s_ishl (C : Cx p s m args c cc nL own D cA ov aR0 B nS xs) (I : Inv s nL D cA ov aR0 B nS xs a0 b0 dir ad M H locs ls L S) (K : KK p l e R s m args below meth c Q nL D cA ov aR0 B nS xs a0 b0 dir ad al M k out)
    (hok : okF own nL cc pc (.ishl, len, (a, b, d), v, w, brs) = true) (h : astep al cs (.ishl, len, (a, b, d), v, w, brs) pc L S M k = some out) : W p l e R s m args below meth c H locs (M.1.2.2.2.1 - a0) (M.1.2.2.2.2 - b0) Q (F0 m pc ls (S.map (cv ad ov))) := by
  obtain ⟨hx, hb, hml, hown, hts, hSF, hB⟩ := C
  obtain ⟨hR, hRO, hS, hL, hvS, hvL, hro, hac, has⟩ := I
  obtain ⟨hd, rfl⟩ : decode cc pc = .ok (.ishl, 1) ∧ len = 1 := by simpa [okF, nOK, okE, okD] using hok
  rcases S with _ | ⟨(y | y) | y, _ | ⟨(x | x) | x, S⟩⟩ <;> try exact ons h
  exact lv_ishl hx hb hd (K _ _ _ _ h (Rel.of rfl) dir ad H locs ls Ext.rf ⟨hR, hRO, hS, hL, vS1 trivial (vT1 (vT1 hvS)), hvL, hro, hac, has⟩)

set_option maxHeartbeats 1000000 in
theorem s_ishr (C : Cx p s m args c cc nL own D cA ov aR0 B nS xs) (I : Inv s nL D cA ov aR0 B nS xs a0 b0 dir ad M H locs ls L S) (K : KK p l e R s m args below meth c Q nL D cA ov aR0 B nS xs a0 b0 dir ad al M k out)
    (hok : okF own nL cc pc (.ishr, len, (a, b, d), v, w, brs) = true) (h : astep al cs (.ishr, len, (a, b, d), v, w, brs) pc L S M k = some out) : W p l e R s m args below meth c H locs (M.1.2.2.2.1 - a0) (M.1.2.2.2.2 - b0) Q (F0 m pc ls (S.map (cv ad ov))) := by
  obtain ⟨hx, hb, hml, hown, hts, hSF, hB⟩ := C
  obtain ⟨hR, hRO, hS, hL, hvS, hvL, hro, hac, has⟩ := I
  obtain ⟨hd, rfl⟩ : decode cc pc = .ok (.ishr, 1) ∧ len = 1 := by simpa [okF, nOK, okE, okD] using hok
  rcases S with _ | ⟨(y | y) | y, _ | ⟨(x | x) | x, S⟩⟩ <;> try exact ons h
  exact lv_ishr hx hb hd (K _ _ _ _ h (Rel.of rfl) dir ad H locs ls Ext.rf ⟨hR, hRO, hS, hL, vS1 trivial (vT1 (vT1 hvS)), hvL, hro, hac, has⟩)

set_option maxHeartbeats 1000000 in
theorem s_iushr (C : Cx p s m args c cc nL own D cA ov aR0 B nS xs) (I : Inv s nL D cA ov aR0 B nS xs a0 b0 dir ad M H locs ls L S) (K : KK p l e R s m args below meth c Q nL D cA ov aR0 B nS xs a0 b0 dir ad al M k out)
    (hok : okF own nL cc pc (.iushr, len, (a, b, d), v, w, brs) = true) (h : astep al cs (.iushr, len, (a, b, d), v, w, brs) pc L S M k = some out) : W p l e R s m args below meth c H locs (M.1.2.2.2.1 - a0) (M.1.2.2.2.2 - b0) Q (F0 m pc ls (S.map (cv ad ov))) := by
  obtain ⟨hx, hb, hml, hown, hts, hSF, hB⟩ := C
  obtain ⟨hR, hRO, hS, hL, hvS, hvL, hro, hac, has⟩ := I
  obtain ⟨hd, rfl⟩ : decode cc pc = .ok (.iushr, 1) ∧ len = 1 := by simpa [okF, nOK, okE, okD] using hok
  rcases S with _ | ⟨(y | y) | y, _ | ⟨(x | x) | x, S⟩⟩ <;> try exact ons h
  exact lv_iushr hx hb hd rfl (K _ _ _ _ h (Rel.of rfl) dir ad H locs ls Ext.rf ⟨hR, hRO, hS, hL, vS1 trivial (vT1 (vT1 hvS)), hvL, hro, hac, has⟩)

set_option maxHeartbeats 1000000 in
theorem s_idiv (C : Cx p s m args c cc nL own D cA ov aR0 B nS xs) (I : Inv s nL D cA ov aR0 B nS xs a0 b0 dir ad M H locs ls L S) (K : KK p l e R s m args below meth c Q nL D cA ov aR0 B nS xs a0 b0 dir ad al M k out)
    (hok : okF own nL cc pc (.idiv, len, (a, b, d), v, w, brs) = true) (h : astep al cs (.idiv, len, (a, b, d), v, w, brs) pc L S M k = some out) : W p l e R s m args below meth c H locs (M.1.2.2.2.1 - a0) (M.1.2.2.2.2 - b0) Q (F0 m pc ls (S.map (cv ad ov))) := by
  obtain ⟨hx, hb, hml, hown, hts, hSF, hB⟩ := C
  obtain ⟨hR, hRO, hS, hL, hvS, hvL, hro, hac, has⟩ := I
  obtain ⟨hd, rfl⟩ : decode cc pc = .ok (.idiv, 1) ∧ len = 1 := by simpa [okF, nOK, okE, okD] using hok
  rcases S with _ | ⟨(y | y) | y, _ | ⟨(x | x) | x, S⟩⟩ <;> try exact ons h
  have h : (if y = 0 then none else k (pc + 1) L (aI (x / y) :: S) M) = some out := h
  by_cases hy : y = 0
  · rw [if_pos hy] at h; exact ons h
  · rw [if_neg hy] at h
    exact lv_idiv hx hb hd hy (K _ _ _ _ h (Rel.of rfl) dir ad H locs ls Ext.rf ⟨hR, hRO, hS, hL, vS1 trivial (vT1 (vT1 hvS)), hvL, hro, hac, has⟩)

set_option maxHeartbeats 1000000 in
theorem s_irem (C : Cx p s m args c cc nL own D cA ov aR0 B nS xs) (I : Inv s nL D cA ov aR0 B nS xs a0 b0 dir ad M H locs ls L S) (K : KK p l e R s m args below meth c Q nL D cA ov aR0 B nS xs a0 b0 dir ad al M k out)
    (hok : okF own nL cc pc (.irem, len, (a, b, d), v, w, brs) = true) (h : astep al cs (.irem, len, (a, b, d), v, w, brs) pc L S M k = some out) : W p l e R s m args below meth c H locs (M.1.2.2.2.1 - a0) (M.1.2.2.2.2 - b0) Q (F0 m pc ls (S.map (cv ad ov))) := by
  obtain ⟨hx, hb, hml, hown, hts, hSF, hB⟩ := C
  obtain ⟨hR, hRO, hS, hL, hvS, hvL, hro, hac, has⟩ := I
  obtain ⟨hd, rfl⟩ : decode cc pc = .ok (.irem, 1) ∧ len = 1 := by simpa [okF, nOK, okE, okD] using hok
  rcases S with _ | ⟨(y | y) | y, _ | ⟨(x | x) | x, S⟩⟩ <;> try exact ons h
  have h : (if y = 0 then none else k (pc + 1) L (aI (x - x / y * y) :: S) M) = some out := h
  by_cases hy : y = 0
  · rw [if_pos hy] at h; exact ons h
  · rw [if_neg hy] at h
    exact lv_irem hx hb hd hy (K _ _ _ _ h (Rel.of rfl) dir ad H locs ls Ext.rf ⟨hR, hRO, hS, hL, vS1 trivial (vT1 (vT1 hvS)), hvL, hro, hac, has⟩)

set_option maxHeartbeats 1000000 in
theorem s_ineg (C : Cx p s m args c cc nL own D cA ov aR0 B nS xs) (I : Inv s nL D cA ov aR0 B nS xs a0 b0 dir ad M H locs ls L S) (K : KK p l e R s m args below meth c Q nL D cA ov aR0 B nS xs a0 b0 dir ad al M k out)
    (hok : okF own nL cc pc (.ineg, len, (a, b, d), v, w, brs) = true) (h : astep al cs (.ineg, len, (a, b, d), v, w, brs) pc L S M k = some out) : W p l e R s m args below meth c H locs (M.1.2.2.2.1 - a0) (M.1.2.2.2.2 - b0) Q (F0 m pc ls (S.map (cv ad ov))) := by
  obtain ⟨hx, hb, hml, hown, hts, hSF, hB⟩ := C
  obtain ⟨hR, hRO, hS, hL, hvS, hvL, hro, hac, has⟩ := I
  obtain ⟨hd, rfl⟩ : decode cc pc = .ok (.ineg, 1) ∧ len = 1 := by simpa [okF, nOK, okE, okD] using hok
  rcases S with _ | ⟨(x | x) | x, S⟩ <;> try exact ons h
  exact lv_ineg hx hb hd (K _ _ _ _ h (Rel.of rfl) dir ad H locs ls Ext.rf ⟨hR, hRO, hS, hL, vS1 trivial (vT1 hvS), hvL, hro, hac, has⟩)

set_option maxHeartbeats 1000000 in
theorem s_i2l (C : Cx p s m args c cc nL own D cA ov aR0 B nS xs) (I : Inv s nL D cA ov aR0 B nS xs a0 b0 dir ad M H locs ls L S) (K : KK p l e R s m args below meth c Q nL D cA ov aR0 B nS xs a0 b0 dir ad al M k out)
    (hok : okF own nL cc pc (.i2l, len, (a, b, d), v, w, brs) = true) (h : astep al cs (.i2l, len, (a, b, d), v, w, brs) pc L S M k = some out) : W p l e R s m args below meth c H locs (M.1.2.2.2.1 - a0) (M.1.2.2.2.2 - b0) Q (F0 m pc ls (S.map (cv ad ov))) := by
  obtain ⟨hx, hb, hml, hown, hts, hSF, hB⟩ := C
  obtain ⟨hR, hRO, hS, hL, hvS, hvL, hro, hac, has⟩ := I
  obtain ⟨hd, rfl⟩ : decode cc pc = .ok (.i2l, 1) ∧ len = 1 := by simpa [okF, nOK, okE, okD] using hok
  rcases S with _ | ⟨(x | x) | x, S⟩ <;> try exact ons h
  exact lv_i2l hx hb hd rfl (K _ _ _ _ h (Rel.of rfl) dir ad H locs ls Ext.rf ⟨hR, hRO, hS, hL, vS1 trivial (vT1 hvS), hvL, hro, hac, has⟩)

set_option maxHeartbeats 1000000 in
theorem s_i2b (C : Cx p s m args c cc nL own D cA ov aR0 B nS xs) (I : Inv s nL D cA ov aR0 B nS xs a0 b0 dir ad M H locs ls L S) (K : KK p l e R s m args below meth c Q nL D cA ov aR0 B nS xs a0 b0 dir ad al M k out)
    (hok : okF own nL cc pc (.i2b, len, (a, b, d), v, w, brs) = true) (h : astep al cs (.i2b, len, (a, b, d), v, w, brs) pc L S M k = some out) : W p l e R s m args below meth c H locs (M.1.2.2.2.1 - a0) (M.1.2.2.2.2 - b0) Q (F0 m pc ls (S.map (cv ad ov))) := by
  obtain ⟨hx, hb, hml, hown, hts, hSF, hB⟩ := C
  obtain ⟨hR, hRO, hS, hL, hvS, hvL, hro, hac, has⟩ := I
  obtain ⟨hd, rfl⟩ : decode cc pc = .ok (.i2b, 1) ∧ len = 1 := by simpa [okF, nOK, okE, okD] using hok
  rcases S with _ | ⟨(x | x) | x, S⟩ <;> try exact ons h
  exact lv_i2b hx hb hd rfl (K _ _ _ _ h (Rel.of rfl) dir ad H locs ls Ext.rf ⟨hR, hRO, hS, hL, vS1 trivial (vT1 hvS), hvL, hro, hac, has⟩)

set_option maxHeartbeats 1000000 in
theorem s_i2s (C : Cx p s m args c cc nL own D cA ov aR0 B nS xs) (I : Inv s nL D cA ov aR0 B nS xs a0 b0 dir ad M H locs ls L S) (K : KK p l e R s m args below meth c Q nL D cA ov aR0 B nS xs a0 b0 dir ad al M k out)
    (hok : okF own nL cc pc (.i2s, len, (a, b, d), v, w, brs) = true) (h : astep al cs (.i2s, len, (a, b, d), v, w, brs) pc L S M k = some out) : W p l e R s m args below meth c H locs (M.1.2.2.2.1 - a0) (M.1.2.2.2.2 - b0) Q (F0 m pc ls (S.map (cv ad ov))) := by
  obtain ⟨hx, hb, hml, hown, hts, hSF, hB⟩ := C
  obtain ⟨hR, hRO, hS, hL, hvS, hvL, hro, hac, has⟩ := I
  obtain ⟨hd, rfl⟩ : decode cc pc = .ok (.i2s, 1) ∧ len = 1 := by simpa [okF, nOK, okE, okD] using hok
  rcases S with _ | ⟨(x | x) | x, S⟩ <;> try exact ons h
  exact lv_i2s hx hb hd rfl (K _ _ _ _ h (Rel.of rfl) dir ad H locs ls Ext.rf ⟨hR, hRO, hS, hL, vS1 trivial (vT1 hvS), hvL, hro, hac, has⟩)

set_option maxHeartbeats 1000000 in
theorem s_i2c (C : Cx p s m args c cc nL own D cA ov aR0 B nS xs) (I : Inv s nL D cA ov aR0 B nS xs a0 b0 dir ad M H locs ls L S) (K : KK p l e R s m args below meth c Q nL D cA ov aR0 B nS xs a0 b0 dir ad al M k out)
    (hok : okF own nL cc pc (.i2c, len, (a, b, d), v, w, brs) = true) (h : astep al cs (.i2c, len, (a, b, d), v, w, brs) pc L S M k = some out) : W p l e R s m args below meth c H locs (M.1.2.2.2.1 - a0) (M.1.2.2.2.2 - b0) Q (F0 m pc ls (S.map (cv ad ov))) := by
  obtain ⟨hx, hb, hml, hown, hts, hSF, hB⟩ := C
  obtain ⟨hR, hRO, hS, hL, hvS, hvL, hro, hac, has⟩ := I
  obtain ⟨hd, rfl⟩ : decode cc pc = .ok (.i2c, 1) ∧ len = 1 := by simpa [okF, nOK, okE, okD] using hok
  rcases S with _ | ⟨(x | x) | x, S⟩ <;> try exact ons h
  exact lv_i2c hx hb hd rfl (K _ _ _ _ h (Rel.of rfl) dir ad H locs ls Ext.rf ⟨hR, hRO, hS, hL, vS1 trivial (vT1 hvS), hvL, hro, hac, has⟩)

set_option maxHeartbeats 1000000 in
theorem s_l2i (C : Cx p s m args c cc nL own D cA ov aR0 B nS xs) (I : Inv s nL D cA ov aR0 B nS xs a0 b0 dir ad M H locs ls L S) (K : KK p l e R s m args below meth c Q nL D cA ov aR0 B nS xs a0 b0 dir ad al M k out)
    (hok : okF own nL cc pc (.l2i, len, (a, b, d), v, w, brs) = true) (h : astep al cs (.l2i, len, (a, b, d), v, w, brs) pc L S M k = some out) : W p l e R s m args below meth c H locs (M.1.2.2.2.1 - a0) (M.1.2.2.2.2 - b0) Q (F0 m pc ls (S.map (cv ad ov))) := by
  obtain ⟨hx, hb, hml, hown, hts, hSF, hB⟩ := C
  obtain ⟨hR, hRO, hS, hL, hvS, hvL, hro, hac, has⟩ := I
  obtain ⟨hd, rfl⟩ : decode cc pc = .ok (.l2i, 1) ∧ len = 1 := by simpa [okF, nOK, okE, okD] using hok
  rcases S with _ | ⟨(x | x) | x, S⟩ <;> try exact ons h
  exact lv_l2i hx hb hd rfl (K _ _ _ _ h (Rel.of rfl) dir ad H locs ls Ext.rf ⟨hR, hRO, hS, hL, vS1 trivial (vT1 hvS), hvL, hro, hac, has⟩)

set_option maxHeartbeats 1000000 in
theorem s_ladd (C : Cx p s m args c cc nL own D cA ov aR0 B nS xs) (I : Inv s nL D cA ov aR0 B nS xs a0 b0 dir ad M H locs ls L S) (K : KK p l e R s m args below meth c Q nL D cA ov aR0 B nS xs a0 b0 dir ad al M k out)
    (hok : okF own nL cc pc (.ladd, len, (a, b, d), v, w, brs) = true) (h : astep al cs (.ladd, len, (a, b, d), v, w, brs) pc L S M k = some out) : W p l e R s m args below meth c H locs (M.1.2.2.2.1 - a0) (M.1.2.2.2.2 - b0) Q (F0 m pc ls (S.map (cv ad ov))) := by
  obtain ⟨hx, hb, hml, hown, hts, hSF, hB⟩ := C
  obtain ⟨hR, hRO, hS, hL, hvS, hvL, hro, hac, has⟩ := I
  obtain ⟨hd, rfl⟩ : decode cc pc = .ok (.ladd, 1) ∧ len = 1 := by simpa [okF, nOK, okE, okD] using hok
  rcases S with _ | ⟨(y | y) | y, _ | ⟨(x | x) | x, S⟩⟩ <;> try exact ons h
  exact lv_ladd hx hb hd (K _ _ _ _ h (Rel.of rfl) dir ad H locs ls Ext.rf ⟨hR, hRO, hS, hL, vS1 trivial (vT1 (vT1 hvS)), hvL, hro, hac, has⟩)

set_option maxHeartbeats 1000000 in
theorem s_land (C : Cx p s m args c cc nL own D cA ov aR0 B nS xs) (I : Inv s nL D cA ov aR0 B nS xs a0 b0 dir ad M H locs ls L S) (K : KK p l e R s m args below meth c Q nL D cA ov aR0 B nS xs a0 b0 dir ad al M k out)
    (hok : okF own nL cc pc (.land, len, (a, b, d), v, w, brs) = true) (h : astep al cs (.land, len, (a, b, d), v, w, brs) pc L S M k = some out) : W p l e R s m args below meth c H locs (M.1.2.2.2.1 - a0) (M.1.2.2.2.2 - b0) Q (F0 m pc ls (S.map (cv ad ov))) := by
  obtain ⟨hx, hb, hml, hown, hts, hSF, hB⟩ := C
  obtain ⟨hR, hRO, hS, hL, hvS, hvL, hro, hac, has⟩ := I
  obtain ⟨hd, rfl⟩ : decode cc pc = .ok (.land, 1) ∧ len = 1 := by simpa [okF, nOK, okE, okD] using hok
  rcases S with _ | ⟨(y | y) | y, _ | ⟨(x | x) | x, S⟩⟩ <;> try exact ons h
  exact lv_land hx hb hd (K _ _ _ _ h (Rel.of rfl) dir ad H locs ls Ext.rf ⟨hR, hRO, hS, hL, vS1 trivial (vT1 (vT1 hvS)), hvL, hro, hac, has⟩)

set_option maxHeartbeats 1000000 in
theorem s_lor (C : Cx p s m args c cc nL own D cA ov aR0 B nS xs) (I : Inv s nL D cA ov aR0 B nS xs a0 b0 dir ad M H locs ls L S) (K : KK p l e R s m args below meth c Q nL D cA ov aR0 B nS xs a0 b0 dir ad al M k out)
    (hok : okF own nL cc pc (.lor, len, (a, b, d), v, w, brs) = true) (h : astep al cs (.lor, len, (a, b, d), v, w, brs) pc L S M k = some out) : W p l e R s m args below meth c H locs (M.1.2.2.2.1 - a0) (M.1.2.2.2.2 - b0) Q (F0 m pc ls (S.map (cv ad ov))) := by
  obtain ⟨hx, hb, hml, hown, hts, hSF, hB⟩ := C
  obtain ⟨hR, hRO, hS, hL, hvS, hvL, hro, hac, has⟩ := I
  obtain ⟨hd, rfl⟩ : decode cc pc = .ok (.lor, 1) ∧ len = 1 := by simpa [okF, nOK, okE, okD] using hok
  rcases S with _ | ⟨(y | y) | y, _ | ⟨(x | x) | x, S⟩⟩ <;> try exact ons h
  exact lv_lor hx hb hd (K _ _ _ _ h (Rel.of rfl) dir ad H locs ls Ext.rf ⟨hR, hRO, hS, hL, vS1 trivial (vT1 (vT1 hvS)), hvL, hro, hac, has⟩)

set_option maxHeartbeats 1000000 in
theorem s_lshl (C : Cx p s m args c cc nL own D cA ov aR0 B nS xs) (I : Inv s nL D cA ov aR0 B nS xs a0 b0 dir ad M H locs ls L S) (K : KK p l e R s m args below meth c Q nL D cA ov aR0 B nS xs a0 b0 dir ad al M k out)
    (hok : okF own nL cc pc (.lshl, len, (a, b, d), v, w, brs) = true) (h : astep al cs (.lshl, len, (a, b, d), v, w, brs) pc L S M k = some out) : W p l e R s m args below meth c H locs (M.1.2.2.2.1 - a0) (M.1.2.2.2.2 - b0) Q (F0 m pc ls (S.map (cv ad ov))) := by
  obtain ⟨hx, hb, hml, hown, hts, hSF, hB⟩ := C
  obtain ⟨hR, hRO, hS, hL, hvS, hvL, hro, hac, has⟩ := I
  obtain ⟨hd, rfl⟩ : decode cc pc = .ok (.lshl, 1) ∧ len = 1 := by simpa [okF, nOK, okE, okD] using hok
  rcases S with _ | ⟨(y | y) | y, _ | ⟨(x | x) | x, S⟩⟩ <;> try exact ons h
  exact lv_lshl hx hb hd rfl (K _ _ _ _ h (Rel.of rfl) dir ad H locs ls Ext.rf ⟨hR, hRO, hS, hL, vS1 trivial (vT1 (vT1 hvS)), hvL, hro, hac, has⟩)

set_option maxHeartbeats 1000000 in
theorem s_lcmp (C : Cx p s m args c cc nL own D cA ov aR0 B nS xs) (I : Inv s nL D cA ov aR0 B nS xs a0 b0 dir ad M H locs ls L S) (K : KK p l e R s m args below meth c Q nL D cA ov aR0 B nS xs a0 b0 dir ad al M k out)
    (hok : okF own nL cc pc (.lcmp, len, (a, b, d), v, w, brs) = true) (h : astep al cs (.lcmp, len, (a, b, d), v, w, brs) pc L S M k = some out) : W p l e R s m args below meth c H locs (M.1.2.2.2.1 - a0) (M.1.2.2.2.2 - b0) Q (F0 m pc ls (S.map (cv ad ov))) := by
  obtain ⟨hx, hb, hml, hown, hts, hSF, hB⟩ := C
  obtain ⟨hR, hRO, hS, hL, hvS, hvL, hro, hac, has⟩ := I
  obtain ⟨hd, rfl⟩ : decode cc pc = .ok (.lcmp, 1) ∧ len = 1 := by simpa [okF, nOK, okE, okD] using hok
  rcases S with _ | ⟨(y | y) | y, _ | ⟨(x | x) | x, S⟩⟩ <;> try exact ons h
  exact W.lcmp hx hb hd (K _ _ _ _ h (Rel.of rfl) dir ad H locs ls Ext.rf ⟨hR, hRO, hS, hL, vS1 trivial (vT1 (vT1 hvS)), hvL, hro, hac, has⟩)

theorem okx_iload {own pc len a b d : Nat} {cc : ByteArray} {v : Int32} {w : Int64} {brs : List (Int32 × Nat)} {z : Nat} (h : okE own cc pc (.iload z, len, (a, b, d), v, w, brs) = true) : (decode cc pc = .ok (.iload a, 2) ∧ len = 2) ∨ ((a < 4 ∧ decode cc pc = .ok (.iload_n (Fin.ofNat 4 a), 1)) ∧ len = 1) := by
  rcases len with _ | _ | _ | len
  · simp [okE] at h
  · simp [okE, okD] at h
    exact Or.inr ⟨h, rfl⟩
  · simp [okE, okD] at h
    exact Or.inl ⟨h, rfl⟩
  · simp [okE] at h

theorem okx_lload {own pc len a b d : Nat} {cc : ByteArray} {v : Int32} {w : Int64} {brs : List (Int32 × Nat)} {z : Nat} (h : okE own cc pc (.lload z, len, (a, b, d), v, w, brs) = true) : (decode cc pc = .ok (.lload a, 2) ∧ len = 2) ∨ ((a < 4 ∧ decode cc pc = .ok (.lload_n (Fin.ofNat 4 a), 1)) ∧ len = 1) := by
  rcases len with _ | _ | _ | len
  · simp [okE] at h
  · simp [okE, okD] at h
    exact Or.inr ⟨h, rfl⟩
  · simp [okE, okD] at h
    exact Or.inl ⟨h, rfl⟩
  · simp [okE] at h

theorem okx_aload {own pc len a b d : Nat} {cc : ByteArray} {v : Int32} {w : Int64} {brs : List (Int32 × Nat)} {z : Nat} (h : okE own cc pc (.aload z, len, (a, b, d), v, w, brs) = true) : (decode cc pc = .ok (.aload a, 2) ∧ len = 2) ∨ ((a < 4 ∧ decode cc pc = .ok (.aload_n (Fin.ofNat 4 a), 1)) ∧ len = 1) := by
  rcases len with _ | _ | _ | len
  · simp [okE] at h
  · simp [okE, okD] at h
    exact Or.inr ⟨h, rfl⟩
  · simp [okE, okD] at h
    exact Or.inl ⟨h, rfl⟩
  · simp [okE] at h

theorem okx_istore {own pc len a b d : Nat} {cc : ByteArray} {v : Int32} {w : Int64} {brs : List (Int32 × Nat)} {z : Nat} (h : okE own cc pc (.istore z, len, (a, b, d), v, w, brs) = true) : (decode cc pc = .ok (.istore a, 2) ∧ len = 2) ∨ ((a < 4 ∧ decode cc pc = .ok (.istore_n (Fin.ofNat 4 a), 1)) ∧ len = 1) := by
  rcases len with _ | _ | _ | len
  · simp [okE] at h
  · simp [okE, okD] at h
    exact Or.inr ⟨h, rfl⟩
  · simp [okE, okD] at h
    exact Or.inl ⟨h, rfl⟩
  · simp [okE] at h

theorem okx_lstore {own pc len a b d : Nat} {cc : ByteArray} {v : Int32} {w : Int64} {brs : List (Int32 × Nat)} {z : Nat} (h : okE own cc pc (.lstore z, len, (a, b, d), v, w, brs) = true) : (decode cc pc = .ok (.lstore a, 2) ∧ len = 2) ∨ ((a < 4 ∧ decode cc pc = .ok (.lstore_n (Fin.ofNat 4 a), 1)) ∧ len = 1) := by
  rcases len with _ | _ | _ | len
  · simp [okE] at h
  · simp [okE, okD] at h
    exact Or.inr ⟨h, rfl⟩
  · simp [okE, okD] at h
    exact Or.inl ⟨h, rfl⟩
  · simp [okE] at h

theorem okx_astore {own pc len a b d : Nat} {cc : ByteArray} {v : Int32} {w : Int64} {brs : List (Int32 × Nat)} {z : Nat} (h : okE own cc pc (.astore z, len, (a, b, d), v, w, brs) = true) : (decode cc pc = .ok (.astore a, 2) ∧ len = 2) ∨ ((a < 4 ∧ decode cc pc = .ok (.astore_n (Fin.ofNat 4 a), 1)) ∧ len = 1) := by
  rcases len with _ | _ | _ | len
  · simp [okE] at h
  · simp [okE, okD] at h
    exact Or.inr ⟨h, rfl⟩
  · simp [okE, okD] at h
    exact Or.inl ⟨h, rfl⟩
  · simp [okE] at h

theorem okx_iconst {own pc len a b d : Nat} {cc : ByteArray} {v : Int32} {w : Int64} {brs : List (Int32 × Nat)} {z : Int} (h : okE own cc pc (.iconst z, len, (a, b, d), v, w, brs) = true) : (((decode cc pc = .ok (.iconst v.toInt, 1) ∧ len = 1) ∨ ((decode cc pc = .ok (.bipush v.toInt, 2) ∧ len = 2) ∧ (Int8.ofInt v.toInt).toInt32 = v)) ∨ ((decode cc pc = .ok (.sipush v.toInt, 3) ∧ len = 3) ∧ (Int16.ofInt v.toInt).toInt32 = v)) ∨ ((decode cc pc = .ok (.ldc a, 2) ∧ len = 2) ∧ kiE own a v = true) ∨ ((decode cc pc = .ok (.ldc_w a, 3) ∧ len = 3) ∧ kiE own a v = true) := by
  rcases len with _ | _ | _ | _ | len
  · simp [okE] at h
  · simp [okE, okD] at h
    exact Or.inl (Or.inl (Or.inl ⟨h, rfl⟩))
  · rcases b with _ | b
    · simp [okE, okD] at h
      exact Or.inl (Or.inl (Or.inr ⟨⟨h.1, rfl⟩, h.2⟩))
    · simp [okE, okD] at h
      exact Or.inr (Or.inl ⟨⟨h.1, rfl⟩, h.2⟩)
  · rcases b with _ | b
    · simp [okE, okD] at h
      exact Or.inl (Or.inr ⟨⟨h.1, rfl⟩, h.2⟩)
    · simp [okE, okD] at h
      exact Or.inr (Or.inr ⟨⟨h.1, rfl⟩, h.2⟩)
  · simp [okE] at h
theorem okx_lconst {own pc len a b d : Nat} {cc : ByteArray} {v : Int32} {w : Int64} {brs : List (Int32 × Nat)} {z : Fin 2} (h : okE own cc pc (.lconst z, len, (a, b, d), v, w, brs) = true) : (((decode cc pc = .ok (.lconst 0, 1) ∧ len = 1) ∧ w = 0) ∨ ((decode cc pc = .ok (.lconst 1, 1) ∧ len = 1) ∧ w = 1)) ∨ ((decode cc pc = .ok (.ldc2_w a, 3) ∧ len = 3) ∧ klE own a w = true) := by
  rcases len with _ | _ | _ | _ | len
  · simp [okE] at h
  · simp [okE, okD] at h
    rcases h with h | h
    · exact Or.inl (Or.inl ⟨⟨h.1, rfl⟩, h.2⟩)
    · exact Or.inl (Or.inr ⟨⟨h.1, rfl⟩, h.2⟩)
  · simp [okE] at h
  · simp [okE, okD] at h
    exact Or.inr ⟨⟨h.1, rfl⟩, h.2⟩
  · simp [okE] at h

theorem kiE_mem {own idx : Nat} {v : Int32} (h : kiE own idx v = true) : Cond.constant (cn own) idx v ∈ WSg := by
  obtain ⟨e, he, h⟩ := List.any_eq_true.mp h
  simp only [Bool.and_eq_true, decide_eq_true_eq, Nat.beq_eq] at h
  obtain ⟨⟨rfl, rfl⟩, rfl⟩ := h
  exact posOK_mem (List.all_eq_true.mp KIt_ok e he)
theorem klE_mem {own idx : Nat} {v : Int64} (h : klE own idx v = true) : Cond.constantLong (cn own) idx v ∈ WSg := by
  obtain ⟨e, he, h⟩ := List.any_eq_true.mp h
  simp only [Bool.and_eq_true, decide_eq_true_eq, Nat.beq_eq] at h
  obtain ⟨⟨rfl, rfl⟩, rfl⟩ := h
  exact posOK_mem (List.all_eq_true.mp KLt_ok e he)

set_option maxHeartbeats 1000000 in
theorem s_iconst {z : Int} (C : Cx p s m args c cc nL own D cA ov aR0 B nS xs) (I : Inv s nL D cA ov aR0 B nS xs a0 b0 dir ad M H locs ls L S) (K : KK p l e R s m args below meth c Q nL D cA ov aR0 B nS xs a0 b0 dir ad al M k out)
    (hok : okF own nL cc pc (.iconst z, len, (a, b, d), v, w, brs) = true) (h : astep al cs (.iconst z, len, (a, b, d), v, w, brs) pc L S M k = some out) : W p l e R s m args below meth c H locs (M.1.2.2.2.1 - a0) (M.1.2.2.2.2 - b0) Q (F0 m pc ls (S.map (cv ad ov))) := by
  obtain ⟨hx, hb, hml, hown, hts, hSF, hB⟩ := C
  obtain ⟨hR, hRO, hS, hL, hvS, hvL, hro, hac, has⟩ := I
  have h : k (pc + len) L (aI v :: S) M = some out := h
  have kk := K _ _ _ _ h (Rel.of rfl) dir ad H locs ls Ext.rf ⟨hR, hRO, hS, hL, vS1 trivial hvS, hvL, hro, hac, has⟩
  simp only [okF, nOK, Bool.true_and] at hok
  rcases okx_iconst hok with ((⟨hd, rfl⟩ | ⟨⟨hd, rfl⟩, e⟩) | ⟨⟨hd, rfl⟩, e⟩) | ⟨⟨hd, rfl⟩, e⟩ | ⟨⟨hd, rfl⟩, e⟩
  · exact lv_iconst hx hb hd (Int32.ofInt_toInt v) kk
  · exact lv_bipush hx hb hd e kk
  · exact lv_sipush hx hb hd e kk
  · exact lv_ldc hx hb hown (hts _ (kiE_mem e)) hd kk
  · exact lv_ldcw hx hb hown (hts _ (kiE_mem e)) hd kk

set_option maxHeartbeats 1000000 in
theorem s_lconst {z : Fin 2} (C : Cx p s m args c cc nL own D cA ov aR0 B nS xs) (I : Inv s nL D cA ov aR0 B nS xs a0 b0 dir ad M H locs ls L S) (K : KK p l e R s m args below meth c Q nL D cA ov aR0 B nS xs a0 b0 dir ad al M k out)
    (hok : okF own nL cc pc (.lconst z, len, (a, b, d), v, w, brs) = true) (h : astep al cs (.lconst z, len, (a, b, d), v, w, brs) pc L S M k = some out) : W p l e R s m args below meth c H locs (M.1.2.2.2.1 - a0) (M.1.2.2.2.2 - b0) Q (F0 m pc ls (S.map (cv ad ov))) := by
  obtain ⟨hx, hb, hml, hown, hts, hSF, hB⟩ := C
  obtain ⟨hR, hRO, hS, hL, hvS, hvL, hro, hac, has⟩ := I
  have h : k (pc + len) L (aL w :: S) M = some out := h
  have kk := K _ _ _ _ h (Rel.of rfl) dir ad H locs ls Ext.rf ⟨hR, hRO, hS, hL, vS1 trivial hvS, hvL, hro, hac, has⟩
  simp only [okF, nOK, Bool.true_and] at hok
  rcases okx_lconst hok with (⟨⟨hd, rfl⟩, e⟩ | ⟨⟨hd, rfl⟩, e⟩) | ⟨⟨hd, rfl⟩, e⟩
  · subst e; exact lv_lconst hx hb hd rfl kk
  · subst e; exact lv_lconst hx hb hd rfl kk
  · exact lv_ldc2 hx hb hown (hts _ (klE_mem e)) hd kk

set_option maxHeartbeats 1000000 in
theorem s_aconst_null (C : Cx p s m args c cc nL own D cA ov aR0 B nS xs) (I : Inv s nL D cA ov aR0 B nS xs a0 b0 dir ad M H locs ls L S) (K : KK p l e R s m args below meth c Q nL D cA ov aR0 B nS xs a0 b0 dir ad al M k out)
    (hok : okF own nL cc pc (.aconst_null, len, (a, b, d), v, w, brs) = true) (h : astep al cs (.aconst_null, len, (a, b, d), v, w, brs) pc L S M k = some out) : W p l e R s m args below meth c H locs (M.1.2.2.2.1 - a0) (M.1.2.2.2.2 - b0) Q (F0 m pc ls (S.map (cv ad ov))) := by
  obtain ⟨hx, hb, hml, hown, hts, hSF, hB⟩ := C
  obtain ⟨hR, hRO, hS, hL, hvS, hvL, hro, hac, has⟩ := I
  obtain ⟨hd, rfl⟩ : decode cc pc = .ok (.aconst_null, 1) ∧ len = 1 := by simpa [okF, nOK, okE, okD] using hok
  exact lv_null hx hb hd (K _ _ _ _ h (Rel.of rfl) dir ad H locs ls Ext.rf ⟨hR, hRO, hS, hL, vS1 trivial hvS, hvL, hro, hac, has⟩)

set_option maxHeartbeats 1000000 in
theorem s_iload {z : Nat} (C : Cx p s m args c cc nL own D cA ov aR0 B nS xs) (I : Inv s nL D cA ov aR0 B nS xs a0 b0 dir ad M H locs ls L S) (K : KK p l e R s m args below meth c Q nL D cA ov aR0 B nS xs a0 b0 dir ad al M k out)
    (hok : okF own nL cc pc (.iload z, len, (a, b, d), v, w, brs) = true) (h : astep al cs (.iload z, len, (a, b, d), v, w, brs) pc L S M k = some out) : W p l e R s m args below meth c H locs (M.1.2.2.2.1 - a0) (M.1.2.2.2.2 - b0) Q (F0 m pc ls (S.map (cv ad ov))) := by
  obtain ⟨hx, hb, hml, hown, hts, hSF, hB⟩ := C
  obtain ⟨hR, hRO, hS, hL, hvS, hvL, hro, hac, has⟩ := I
  have h : (match gL L a with
      | some (.inl (.inl x)) => k (pc + len) L (aI x :: S) M
      | _ => none) = some out := h
  split at h
  · rename_i x hg
    have hl := hL.2.2.2 a _ hg
    have kk := K _ _ _ _ h (Rel.of rfl) dir ad H locs ls Ext.rf ⟨hR, hRO, hS, hL, vS1 trivial hvS, hvL, hro, hac, has⟩
    simp only [okF, nOK, Bool.true_and] at hok
    rcases okx_iload hok with ⟨hd, rfl⟩ | ⟨⟨ha, hd⟩, rfl⟩
    · exact lv_iload hx hb hd hl kk
    · exact lv_iload_n hx hb hd (Nat.mod_eq_of_lt ha) hl kk
  · exact ons h

set_option maxHeartbeats 1000000 in
theorem s_lload {z : Nat} (C : Cx p s m args c cc nL own D cA ov aR0 B nS xs) (I : Inv s nL D cA ov aR0 B nS xs a0 b0 dir ad M H locs ls L S) (K : KK p l e R s m args below meth c Q nL D cA ov aR0 B nS xs a0 b0 dir ad al M k out)
    (hok : okF own nL cc pc (.lload z, len, (a, b, d), v, w, brs) = true) (h : astep al cs (.lload z, len, (a, b, d), v, w, brs) pc L S M k = some out) : W p l e R s m args below meth c H locs (M.1.2.2.2.1 - a0) (M.1.2.2.2.2 - b0) Q (F0 m pc ls (S.map (cv ad ov))) := by
  obtain ⟨hx, hb, hml, hown, hts, hSF, hB⟩ := C
  obtain ⟨hR, hRO, hS, hL, hvS, hvL, hro, hac, has⟩ := I
  have h : (match gL L a with
      | some (.inl (.inr x)) => k (pc + len) L (aL x :: S) M
      | _ => none) = some out := h
  split at h
  · rename_i x hg
    have hl := hL.2.2.2 a _ hg
    have kk := K _ _ _ _ h (Rel.of rfl) dir ad H locs ls Ext.rf ⟨hR, hRO, hS, hL, vS1 trivial hvS, hvL, hro, hac, has⟩
    simp only [okF, nOK, Bool.true_and] at hok
    rcases okx_lload hok with ⟨hd, rfl⟩ | ⟨⟨ha, hd⟩, rfl⟩
    · exact lv_lload hx hb hd hl kk
    · exact lv_lload_n hx hb hd (Nat.mod_eq_of_lt ha) hl kk
  · exact ons h

theorem lv_aloadV (ho : ov = .null ∨ ∃ q, ov = .ref q) {ls : Array Slot} {rest : List Value} {cells slots : Nat} {x : Option (Nat × Nat)} (hexec : p.tables.exec = Jvm.exec) (hb : c.code = cc) {i : Nat} (hdg : decode cc pc = .ok (.aload i, 2)) (hl : ls[i]? = some (.val (cv ad ov (.inr x))))
    (kk : W p l e R s m args below meth c H locs cells slots Q (F0 m (pc + 2) ls (cv ad ov (.inr x) :: rest))) : W p l e R s m args below meth c H locs cells slots Q (F0 m pc ls rest) := by
  have hc : cv ad ov (.inr x) = .null ∨ ∃ q, cv ad ov (.inr x) = .ref q := cv_ref ho x
  generalize cv ad ov (.inr x) = z at hl kk hc
  rcases hc with rfl | ⟨q, rfl⟩
  · exact lv_aloadN hexec hb hdg hl kk
  · exact lv_aload hexec hb hdg hl kk
theorem lv_aload_nV (ho : ov = .null ∨ ∃ q, ov = .ref q) {ls : Array Slot} {rest : List Value} {cells slots : Nat} {x : Option (Nat × Nat)} (hexec : p.tables.exec = Jvm.exec) (hb : c.code = cc) {i : Nat} {f : Fin 4} (hdg : decode cc pc = .ok (.aload_n f, 1)) (hi : (f : Nat) = i) (hl : ls[i]? = some (.val (cv ad ov (.inr x))))
    (kk : W p l e R s m args below meth c H locs cells slots Q (F0 m (pc + 1) ls (cv ad ov (.inr x) :: rest))) : W p l e R s m args below meth c H locs cells slots Q (F0 m pc ls rest) := by
  have hc : cv ad ov (.inr x) = .null ∨ ∃ q, cv ad ov (.inr x) = .ref q := cv_ref ho x
  generalize cv ad ov (.inr x) = z at hl kk hc
  rcases hc with rfl | ⟨q, rfl⟩
  · exact lv_aload_nN hexec hb hdg hi hl kk
  · exact lv_aload_n hexec hb hdg hi hl kk
theorem lv_astoreV (ho : ov = .null ∨ ∃ q, ov = .ref q) {ls : Array Slot} {rest : List Value} {cells slots : Nat} {x : Option (Nat × Nat)} (hexec : p.tables.exec = Jvm.exec) (hb : c.code = cc) {i nL : Nat} {lv : List (Nat × Value)} (hdg : decode cc pc = .ok (.astore i, 2)) (h : lv_has ls nL lv) (hn : i < nL)
    (kk : ∀ ls' : Array Slot, lv_has ls' nL ((i, cv ad ov (.inr x)) :: lv.filter (fun q => !(q.1 == i) && !(q.1 + 1 == i && q.2.category == 2))) → W p l e R s m args below meth c H locs cells slots Q (F0 m (pc + 2) ls' rest)) : W p l e R s m args below meth c H locs cells slots Q (F0 m pc ls (cv ad ov (.inr x) :: rest)) := by
  have hc : cv ad ov (.inr x) = .null ∨ ∃ q, cv ad ov (.inr x) = .ref q := cv_ref ho x
  generalize cv ad ov (.inr x) = z at kk hc
  rcases hc with rfl | ⟨q, rfl⟩
  · exact lv_astoreN hexec hb hdg h hn rfl kk
  · exact lv_astore hexec hb hdg h hn rfl kk
theorem lv_astore_nV (ho : ov = .null ∨ ∃ q, ov = .ref q) {ls : Array Slot} {rest : List Value} {cells slots : Nat} {x : Option (Nat × Nat)} (hexec : p.tables.exec = Jvm.exec) (hb : c.code = cc) {i nL : Nat} {f : Fin 4} {lv : List (Nat × Value)} (hdg : decode cc pc = .ok (.astore_n f, 1)) (hi : (f : Nat) = i) (h : lv_has ls nL lv) (hn : i < nL)
    (kk : ∀ ls' : Array Slot, lv_has ls' nL ((i, cv ad ov (.inr x)) :: lv.filter (fun q => !(q.1 == i) && !(q.1 + 1 == i && q.2.category == 2))) → W p l e R s m args below meth c H locs cells slots Q (F0 m (pc + 1) ls' rest)) : W p l e R s m args below meth c H locs cells slots Q (F0 m pc ls (cv ad ov (.inr x) :: rest)) := by
  have hc : cv ad ov (.inr x) = .null ∨ ∃ q, cv ad ov (.inr x) = .ref q := cv_ref ho x
  generalize cv ad ov (.inr x) = z at kk hc
  rcases hc with rfl | ⟨q, rfl⟩
  · exact lv_astore_nN hexec hb hdg hi h hn rfl kk
  · exact lv_astore_n hexec hb hdg hi h hn rfl kk

set_option maxHeartbeats 1000000 in
theorem s_aload {z : Nat} (C : Cx p s m args c cc nL own D cA ov aR0 B nS xs) (I : Inv s nL D cA ov aR0 B nS xs a0 b0 dir ad M H locs ls L S) (K : KK p l e R s m args below meth c Q nL D cA ov aR0 B nS xs a0 b0 dir ad al M k out)
    (hok : okF own nL cc pc (.aload z, len, (a, b, d), v, w, brs) = true) (h : astep al cs (.aload z, len, (a, b, d), v, w, brs) pc L S M k = some out) : W p l e R s m args below meth c H locs (M.1.2.2.2.1 - a0) (M.1.2.2.2.2 - b0) Q (F0 m pc ls (S.map (cv ad ov))) := by
  obtain ⟨hx, hb, hml, hown, hts, hSF, hB⟩ := C
  obtain ⟨hR, hRO, hS, hL, hvS, hvL, hro, hac, has⟩ := I
  have ho := hSF.2.2.2.2.2.2.2.2.2.2
  have h : (match gL L a with
      | some (.inr x) => k (pc + len) L (.inr x :: S) M
      | _ => none) = some out := h
  split at h
  · rename_i x hg
    have hl := hL.2.2.2 a _ hg
    have kk := K _ _ _ _ h (Rel.of rfl) dir ad H locs ls Ext.rf ⟨hR, hRO, hS, hL, vS1 (hvL a _ hg) hvS, hvL, hro, hac, has⟩
    simp only [okF, nOK, Bool.true_and] at hok
    rcases okx_aload hok with ⟨hd, rfl⟩ | ⟨⟨ha, hd⟩, rfl⟩
    · exact lv_aloadV ho hx hb hd hl kk
    · exact lv_aload_nV ho hx hb hd (Nat.mod_eq_of_lt ha) hl kk
  · exact ons h

theorem vL1 {dir : List (Nat × Nat)} {L : LV} {i : Nat} {v : AV} (hi : i < L.length) (hv : vok dir v) (h : ∀ j x, gL L j = some x → vok dir x) : ∀ j x, gL (st1 L i v) j = some x → vok dir x := fun j x hx => by
  rcases st1_get hi hx with ⟨-, rfl⟩ | ⟨-, h2, -⟩
  · exact hv
  · exact h j x h2
theorem vL2 {dir : List (Nat × Nat)} {L : LV} {i : Nat} {v : AV} (hi : i < L.length) (hv : vok dir v) (h : ∀ j x, gL L j = some x → vok dir x) : ∀ j x, gL (st2 L i v) j = some x → vok dir x := fun j x hx => by
  unfold st2 at hx
  rw [gL_sL] at hx
  split at hx
  · cases hx
  · exact vL1 hi hv h j x hx

set_option maxHeartbeats 1000000 in
theorem s_istore {z : Nat} (C : Cx p s m args c cc nL own D cA ov aR0 B nS xs) (I : Inv s nL D cA ov aR0 B nS xs a0 b0 dir ad M H locs ls L S) (K : KK p l e R s m args below meth c Q nL D cA ov aR0 B nS xs a0 b0 dir ad al M k out)
    (hok : okF own nL cc pc (.istore z, len, (a, b, d), v, w, brs) = true) (h : astep al cs (.istore z, len, (a, b, d), v, w, brs) pc L S M k = some out) : W p l e R s m args below meth c H locs (M.1.2.2.2.1 - a0) (M.1.2.2.2.2 - b0) Q (F0 m pc ls (S.map (cv ad ov))) := by
  obtain ⟨hx, hb, hml, hown, hts, hSF, hB⟩ := C
  obtain ⟨hR, hRO, hS, hL, hvS, hvL, hro, hac, has⟩ := I
  have ho := hSF.2.2.2.2.2.2.2.2.2.2
  rcases S with _ | ⟨(x | x) | x, S⟩ <;> try exact ons h
  have h : k (pc + len) (st1 L a (aI x)) S M = some out := h
  have kk : a < nL → ∀ ls', lv_has ls' nL ((a, Value.int x) :: (lvOf ad ov L).filter (fun q => !(q.1 == a) && !(q.1 + 1 == a && q.2.category == 2))) → _ := fun ha ls' h' => K _ _ _ _ h (Rel.of rfl) dir ad H locs ls' Ext.rf ⟨hR, hRO, hS, hL.store ho ha (v := aI x) h', vT1 hvS, vL1 (by rw [hL.2.2.1]; exact ha) trivial hvL, hro, hac, has⟩
  simp only [okF, nOK, Bool.and_eq_true, Nat.blt_eq] at hok
  obtain ⟨han, hok⟩ := hok
  rcases okx_istore hok with ⟨hd, rfl⟩ | ⟨⟨ha, hd⟩, rfl⟩
  · exact lv_istore hx hb hd hL.has han rfl (kk han)
  · exact lv_istore_n hx hb hd (Nat.mod_eq_of_lt ha) hL.has han rfl (kk han)

set_option maxHeartbeats 1000000 in
theorem s_lstore {z : Nat} (C : Cx p s m args c cc nL own D cA ov aR0 B nS xs) (I : Inv s nL D cA ov aR0 B nS xs a0 b0 dir ad M H locs ls L S) (K : KK p l e R s m args below meth c Q nL D cA ov aR0 B nS xs a0 b0 dir ad al M k out)
    (hok : okF own nL cc pc (.lstore z, len, (a, b, d), v, w, brs) = true) (h : astep al cs (.lstore z, len, (a, b, d), v, w, brs) pc L S M k = some out) : W p l e R s m args below meth c H locs (M.1.2.2.2.1 - a0) (M.1.2.2.2.2 - b0) Q (F0 m pc ls (S.map (cv ad ov))) := by
  obtain ⟨hx, hb, hml, hown, hts, hSF, hB⟩ := C
  obtain ⟨hR, hRO, hS, hL, hvS, hvL, hro, hac, has⟩ := I
  have ho := hSF.2.2.2.2.2.2.2.2.2.2
  rcases S with _ | ⟨(x | x) | x, S⟩ <;> try exact ons h
  have h : k (pc + len) (st2 L a (aL x)) S M = some out := h
  have kk : a + 1 < nL → ∀ ls', lv_has ls' nL ((a, Value.long x) :: (lvOf ad ov L).filter (fun q => !(q.1 == a) && (!(q.1 == a + 1) && !(q.1 + 1 == a && q.2.category == 2)))) → _ := fun ha ls' h' => K _ _ _ _ h (Rel.of rfl) dir ad H locs ls' Ext.rf ⟨hR, hRO, hS, hL.store2 ho ha (v := aL x) h', vT1 hvS, vL2 (by rw [hL.2.2.1]; omega) trivial hvL, hro, hac, has⟩
  simp only [okF, nOK, Bool.and_eq_true, Nat.blt_eq] at hok
  obtain ⟨han, hok⟩ := hok
  rcases okx_lstore hok with ⟨hd, rfl⟩ | ⟨⟨ha, hd⟩, rfl⟩
  · exact lv_lstore hx hb hd hL.has han rfl (kk han)
  · exact lv_lstore_n hx hb hd (Nat.mod_eq_of_lt ha) hL.has han rfl (kk han)

set_option maxHeartbeats 1000000 in
theorem s_astore {z : Nat} (C : Cx p s m args c cc nL own D cA ov aR0 B nS xs) (I : Inv s nL D cA ov aR0 B nS xs a0 b0 dir ad M H locs ls L S) (K : KK p l e R s m args below meth c Q nL D cA ov aR0 B nS xs a0 b0 dir ad al M k out)
    (hok : okF own nL cc pc (.astore z, len, (a, b, d), v, w, brs) = true) (h : astep al cs (.astore z, len, (a, b, d), v, w, brs) pc L S M k = some out) : W p l e R s m args below meth c H locs (M.1.2.2.2.1 - a0) (M.1.2.2.2.2 - b0) Q (F0 m pc ls (S.map (cv ad ov))) := by
  obtain ⟨hx, hb, hml, hown, hts, hSF, hB⟩ := C
  obtain ⟨hR, hRO, hS, hL, hvS, hvL, hro, hac, has⟩ := I
  have ho := hSF.2.2.2.2.2.2.2.2.2.2
  rcases S with _ | ⟨(x | x) | x, S⟩ <;> try exact ons h
  have h : k (pc + len) (st1 L a (.inr x)) S M = some out := h
  have kk : a < nL → ∀ ls', lv_has ls' nL ((a, cv ad ov (.inr x)) :: (lvOf ad ov L).filter (fun q => !(q.1 == a) && !(q.1 + 1 == a && q.2.category == 2))) → _ := fun ha ls' h' => K _ _ _ _ h (Rel.of rfl) dir ad H locs ls' Ext.rf ⟨hR, hRO, hS, hL.store ho ha (v := .inr x) h', vT1 hvS, vL1 (by rw [hL.2.2.1]; exact ha) (vH1 hvS) hvL, hro, hac, has⟩
  simp only [okF, nOK, Bool.and_eq_true, Nat.blt_eq] at hok
  obtain ⟨han, hok⟩ := hok
  rcases okx_astore hok with ⟨hd, rfl⟩ | ⟨⟨ha, hd⟩, rfl⟩
  · exact lv_astoreV ho hx hb hd hL.has han (kk han)
  · exact lv_astore_nV ho hx hb hd (Nat.mod_eq_of_lt ha) hL.has han (kk han)

set_option maxHeartbeats 1000000 in
theorem s_iinc {z : Nat} {y : Int} (C : Cx p s m args c cc nL own D cA ov aR0 B nS xs) (I : Inv s nL D cA ov aR0 B nS xs a0 b0 dir ad M H locs ls L S) (K : KK p l e R s m args below meth c Q nL D cA ov aR0 B nS xs a0 b0 dir ad al M k out)
    (hok : okF own nL cc pc (.iinc z y, len, (a, b, d), v, w, brs) = true) (h : astep al cs (.iinc z y, len, (a, b, d), v, w, brs) pc L S M k = some out) : W p l e R s m args below meth c H locs (M.1.2.2.2.1 - a0) (M.1.2.2.2.2 - b0) Q (F0 m pc ls (S.map (cv ad ov))) := by
  obtain ⟨hx, hb, hml, hown, hts, hSF, hB⟩ := C
  obtain ⟨hR, hRO, hS, hL, hvS, hvL, hro, hac, has⟩ := I
  have ho := hSF.2.2.2.2.2.2.2.2.2.2
  have h : (match gL L a with
      | some (.inl (.inl x)) => k (pc + len) (st1 L a (aI (x + v))) S M
      | _ => none) = some out := h
  split at h
  · rename_i x hg
    obtain ⟨hd, rfl⟩ : decode cc pc = .ok (.iinc a v.toInt, 3) ∧ len = 3 := by simpa [okF, nOK, okE, okD] using hok
    have ha : a < nL := by rw [← hL.2.2.1]; exact gL_lt hg
    obtain ⟨k9, hk9⟩ := List.mem_iff_getElem?.mp (lvOf_mem (ad := ad) (ov := ov) hg)
    exact lv_iinc hx hb hd hL.has hk9 (by rw [Int32.ofInt_toInt]) ha rfl (fun ls' h' => K _ _ _ _ h (Rel.of rfl) dir ad H locs ls' Ext.rf ⟨hR, hRO, hS, hL.store ho ha (v := aI (x + v)) h', hvS, vL1 (by rw [hL.2.2.1]; exact ha) trivial hvL, hro, hac, has⟩)
  · exact ons h

set_option maxHeartbeats 1000000 in
theorem s_dup (C : Cx p s m args c cc nL own D cA ov aR0 B nS xs) (I : Inv s nL D cA ov aR0 B nS xs a0 b0 dir ad M H locs ls L S) (K : KK p l e R s m args below meth c Q nL D cA ov aR0 B nS xs a0 b0 dir ad al M k out)
    (hok : okF own nL cc pc (.dup, len, (a, b, d), v, w, brs) = true) (h : astep al cs (.dup, len, (a, b, d), v, w, brs) pc L S M k = some out) : W p l e R s m args below meth c H locs (M.1.2.2.2.1 - a0) (M.1.2.2.2.2 - b0) Q (F0 m pc ls (S.map (cv ad ov))) := by
  obtain ⟨hx, hb, hml, hown, hts, hSF, hB⟩ := C
  obtain ⟨hR, hRO, hS, hL, hvS, hvL, hro, hac, has⟩ := I
  have ho := hSF.2.2.2.2.2.2.2.2.2.2
  obtain ⟨hd, rfl⟩ : decode cc pc = .ok (.dup, 1) ∧ len = 1 := by simpa [okF, nOK, okE, okD] using hok
  rcases S with _ | ⟨(x | x) | x, S⟩ <;> try exact ons h
  · exact lv_dup hx hb hd rfl (K _ _ _ _ h (Rel.of rfl) dir ad H locs ls Ext.rf ⟨hR, hRO, hS, hL, vS1 trivial hvS, hvL, hro, hac, has⟩)
  · exact lv_dup hx hb hd (cv_cat ho _) (K _ _ _ _ h (Rel.of rfl) dir ad H locs ls Ext.rf ⟨hR, hRO, hS, hL, vS1 (vH1 hvS) hvS, hvL, hro, hac, has⟩)

set_option maxHeartbeats 1000000 in
theorem s_pop (C : Cx p s m args c cc nL own D cA ov aR0 B nS xs) (I : Inv s nL D cA ov aR0 B nS xs a0 b0 dir ad M H locs ls L S) (K : KK p l e R s m args below meth c Q nL D cA ov aR0 B nS xs a0 b0 dir ad al M k out)
    (hok : okF own nL cc pc (.pop, len, (a, b, d), v, w, brs) = true) (h : astep al cs (.pop, len, (a, b, d), v, w, brs) pc L S M k = some out) : W p l e R s m args below meth c H locs (M.1.2.2.2.1 - a0) (M.1.2.2.2.2 - b0) Q (F0 m pc ls (S.map (cv ad ov))) := by
  obtain ⟨hx, hb, hml, hown, hts, hSF, hB⟩ := C
  obtain ⟨hR, hRO, hS, hL, hvS, hvL, hro, hac, has⟩ := I
  have ho := hSF.2.2.2.2.2.2.2.2.2.2
  obtain ⟨hd, rfl⟩ : decode cc pc = .ok (.pop, 1) ∧ len = 1 := by simpa [okF, nOK, okE, okD] using hok
  rcases S with _ | ⟨(x | x) | x, S⟩ <;> try exact ons h
  · exact lv_pop hx hb hd rfl (K _ _ _ _ h (Rel.of rfl) dir ad H locs ls Ext.rf ⟨hR, hRO, hS, hL, vT1 hvS, hvL, hro, hac, has⟩)
  · exact lv_pop hx hb hd (cv_cat ho _) (K _ _ _ _ h (Rel.of rfl) dir ad H locs ls Ext.rf ⟨hR, hRO, hS, hL, vT1 hvS, hvL, hro, hac, has⟩)

set_option maxHeartbeats 1000000 in
theorem s_dup_x1 (C : Cx p s m args c cc nL own D cA ov aR0 B nS xs) (I : Inv s nL D cA ov aR0 B nS xs a0 b0 dir ad M H locs ls L S) (K : KK p l e R s m args below meth c Q nL D cA ov aR0 B nS xs a0 b0 dir ad al M k out)
    (hok : okF own nL cc pc (.dup_x1, len, (a, b, d), v, w, brs) = true) (h : astep al cs (.dup_x1, len, (a, b, d), v, w, brs) pc L S M k = some out) : W p l e R s m args below meth c H locs (M.1.2.2.2.1 - a0) (M.1.2.2.2.2 - b0) Q (F0 m pc ls (S.map (cv ad ov))) := by
  obtain ⟨hx, hb, hml, hown, hts, hSF, hB⟩ := C
  obtain ⟨hR, hRO, hS, hL, hvS, hvL, hro, hac, has⟩ := I
  have ho := hSF.2.2.2.2.2.2.2.2.2.2
  obtain ⟨hd, rfl⟩ : decode cc pc = .ok (.dup_x1, 1) ∧ len = 1 := by simpa [okF, nOK, okE, okD] using hok
  rcases S with _ | ⟨(x | x) | x, _ | ⟨(y | y) | y, S⟩⟩ <;> try exact ons h
  exact lv_dup_x1 hx hb hd rfl (cv_cat ho _) (K _ _ _ _ h (Rel.of rfl) dir ad H locs ls Ext.rf ⟨hR, hRO, hS, hL, vS1 trivial (vS1 (vH1 (vT1 hvS)) (vS1 trivial (vT1 (vT1 hvS)))), hvL, hro, hac, has⟩)

set_option maxHeartbeats 1000000 in
theorem s_dup2 (C : Cx p s m args c cc nL own D cA ov aR0 B nS xs) (I : Inv s nL D cA ov aR0 B nS xs a0 b0 dir ad M H locs ls L S) (K : KK p l e R s m args below meth c Q nL D cA ov aR0 B nS xs a0 b0 dir ad al M k out)
    (hok : okF own nL cc pc (.dup2, len, (a, b, d), v, w, brs) = true) (h : astep al cs (.dup2, len, (a, b, d), v, w, brs) pc L S M k = some out) : W p l e R s m args below meth c H locs (M.1.2.2.2.1 - a0) (M.1.2.2.2.2 - b0) Q (F0 m pc ls (S.map (cv ad ov))) := by
  obtain ⟨hx, hb, hml, hown, hts, hSF, hB⟩ := C
  obtain ⟨hR, hRO, hS, hL, hvS, hvL, hro, hac, has⟩ := I
  have ho := hSF.2.2.2.2.2.2.2.2.2.2
  obtain ⟨hd, rfl⟩ : decode cc pc = .ok (.dup2, 1) ∧ len = 1 := by simpa [okF, nOK, okE, okD] using hok
  rcases S with _ | ⟨(x | x) | x, _ | ⟨(y | y) | y, S⟩⟩ <;> try exact ons h
  exact lv_dup2_11 hx hb hd rfl (cv_cat ho _) (K _ _ _ _ h (Rel.of rfl) dir ad H locs ls Ext.rf ⟨hR, hRO, hS, hL, vS1 trivial (vS1 (vH1 (vT1 hvS)) hvS), hvL, hro, hac, has⟩)

theorem off_eq (pc a : Nat) : (pc : Int) + ((a : Int) - pc) = (a : Int) := by omega

set_option maxHeartbeats 1000000 in
theorem s_goto {z : Int} (C : Cx p s m args c cc nL own D cA ov aR0 B nS xs) (I : Inv s nL D cA ov aR0 B nS xs a0 b0 dir ad M H locs ls L S) (K : KK p l e R s m args below meth c Q nL D cA ov aR0 B nS xs a0 b0 dir ad al M k out)
    (hok : okF own nL cc pc (.goto z, len, (a, b, d), v, w, brs) = true) (h : astep al cs (.goto z, len, (a, b, d), v, w, brs) pc L S M k = some out) : W p l e R s m args below meth c H locs (M.1.2.2.2.1 - a0) (M.1.2.2.2.2 - b0) Q (F0 m pc ls (S.map (cv ad ov))) := by
  obtain ⟨hx, hb, hml, hown, hts, hSF, hB⟩ := C
  obtain ⟨hR, hRO, hS, hL, hvS, hvL, hro, hac, has⟩ := I
  have hd : decode cc pc = .ok (.goto ((a : Int) - pc), 3) := by simpa [okF, nOK, okE, okD] using hok
  exact lv_goto hx hb hd (off_eq pc a) (K _ _ _ _ h (Rel.of rfl) dir ad H locs ls Ext.rf ⟨hR, hRO, hS, hL, hvS, hvL, hro, hac, has⟩)

set_option maxHeartbeats 1000000 in
theorem s_ifCond {f : Jvm.ClassFile.Cond} {z : Int} (C : Cx p s m args c cc nL own D cA ov aR0 B nS xs) (I : Inv s nL D cA ov aR0 B nS xs a0 b0 dir ad M H locs ls L S) (K : KK p l e R s m args below meth c Q nL D cA ov aR0 B nS xs a0 b0 dir ad al M k out)
    (hok : okF own nL cc pc (.ifCond f z, len, (a, b, d), v, w, brs) = true) (h : astep al cs (.ifCond f z, len, (a, b, d), v, w, brs) pc L S M k = some out) : W p l e R s m args below meth c H locs (M.1.2.2.2.1 - a0) (M.1.2.2.2.2 - b0) Q (F0 m pc ls (S.map (cv ad ov))) := by
  obtain ⟨hx, hb, hml, hown, hts, hSF, hB⟩ := C
  obtain ⟨hR, hRO, hS, hL, hvS, hvL, hro, hac, has⟩ := I
  obtain ⟨hd, rfl⟩ : decode cc pc = .ok (.ifCond f ((a : Int) - pc), 3) ∧ len = 3 := by simpa [okF, nOK, okE, okD] using hok
  rcases S with _ | ⟨(x | x) | x, S⟩ <;> try exact ons h
  have g : ∀ {pc'}, k pc' L S M = some out → W p l e R s m args below meth c H locs (M.1.2.2.2.1 - a0) (M.1.2.2.2.2 - b0) Q (F0 m pc' ls (S.map (cv ad ov))) := fun h => K _ _ _ _ h (Rel.of rfl) dir ad H locs ls Ext.rf ⟨hR, hRO, hS, hL, vT1 hvS, hvL, hro, hac, has⟩
  cases f
  · have h : (if x = 0 then k a L S M else k (pc + 3) L S M) = some out := h
    exact lv_if_eq hx hb hd (off_eq pc a) (fun q => g (by rwa [if_pos q] at h)) (fun q => g (by rwa [if_neg q] at h))
  · have h : (if ¬ x = 0 then k a L S M else k (pc + 3) L S M) = some out := h
    exact lv_if_ne hx hb hd (off_eq pc a) (fun q => g (by rwa [if_pos q] at h)) (fun q => g (by rwa [if_neg (fun z => z q)] at h))
  · have h : (if x < 0 then k a L S M else k (pc + 3) L S M) = some out := h
    exact lv_if_lt hx hb hd (off_eq pc a) (fun q => g (by rwa [if_pos q] at h)) (fun q => g (by rwa [if_neg q] at h))
  · have h : (if 0 ≤ x then k a L S M else k (pc + 3) L S M) = some out := h
    exact lv_if_ge hx hb hd (off_eq pc a) (fun q => g (by rwa [if_pos q] at h)) (fun q => g (by rwa [if_neg q] at h))
  · have h : (if 0 < x then k a L S M else k (pc + 3) L S M) = some out := h
    exact lv_if_gt hx hb hd (off_eq pc a) (fun q => g (by rwa [if_pos q] at h)) (fun q => g (by rwa [if_neg q] at h))
  · have h : (if x ≤ 0 then k a L S M else k (pc + 3) L S M) = some out := h
    exact lv_if_le hx hb hd (off_eq pc a) (fun q => g (by rwa [if_pos q] at h)) (fun q => g (by rwa [if_neg q] at h))

set_option maxHeartbeats 1000000 in
theorem s_if_icmp {f : Jvm.ClassFile.Cond} {z : Int} (C : Cx p s m args c cc nL own D cA ov aR0 B nS xs) (I : Inv s nL D cA ov aR0 B nS xs a0 b0 dir ad M H locs ls L S) (K : KK p l e R s m args below meth c Q nL D cA ov aR0 B nS xs a0 b0 dir ad al M k out)
    (hok : okF own nL cc pc (.if_icmp f z, len, (a, b, d), v, w, brs) = true) (h : astep al cs (.if_icmp f z, len, (a, b, d), v, w, brs) pc L S M k = some out) : W p l e R s m args below meth c H locs (M.1.2.2.2.1 - a0) (M.1.2.2.2.2 - b0) Q (F0 m pc ls (S.map (cv ad ov))) := by
  obtain ⟨hx, hb, hml, hown, hts, hSF, hB⟩ := C
  obtain ⟨hR, hRO, hS, hL, hvS, hvL, hro, hac, has⟩ := I
  obtain ⟨hd, rfl⟩ : decode cc pc = .ok (.if_icmp f ((a : Int) - pc), 3) ∧ len = 3 := by simpa [okF, nOK, okE, okD] using hok
  rcases S with _ | ⟨(y | y) | y, _ | ⟨(x | x) | x, S⟩⟩ <;> try exact ons h
  have g : ∀ {pc'}, k pc' L S M = some out → W p l e R s m args below meth c H locs (M.1.2.2.2.1 - a0) (M.1.2.2.2.2 - b0) Q (F0 m pc' ls (S.map (cv ad ov))) := fun h => K _ _ _ _ h (Rel.of rfl) dir ad H locs ls Ext.rf ⟨hR, hRO, hS, hL, vT1 (vT1 hvS), hvL, hro, hac, has⟩
  cases f
  · have h : (if x = y then k a L S M else k (pc + 3) L S M) = some out := h
    exact lv_icmp_eq hx hb hd (off_eq pc a) (fun q => g (by rwa [if_pos q] at h)) (fun q => g (by rwa [if_neg q] at h))
  · have h : (if ¬ x = y then k a L S M else k (pc + 3) L S M) = some out := h
    exact lv_icmp_ne hx hb hd (off_eq pc a) (fun q => g (by rwa [if_pos q] at h)) (fun q => g (by rwa [if_neg (fun z => z q)] at h))
  · have h : (if x < y then k a L S M else k (pc + 3) L S M) = some out := h
    exact lv_icmp_lt hx hb hd (off_eq pc a) (fun q => g (by rwa [if_pos q] at h)) (fun q => g (by rwa [if_neg q] at h))
  · have h : (if y ≤ x then k a L S M else k (pc + 3) L S M) = some out := h
    exact lv_icmp_ge hx hb hd (off_eq pc a) (fun q => g (by rwa [if_pos q] at h)) (fun q => g (by rwa [if_neg q] at h))
  · have h : (if y < x then k a L S M else k (pc + 3) L S M) = some out := h
    exact lv_icmp_gt hx hb hd (off_eq pc a) (fun q => g (by rwa [if_pos q] at h)) (fun q => g (by rwa [if_neg q] at h))
  · have h : (if x ≤ y then k a L S M else k (pc + 3) L S M) = some out := h
    exact lv_icmp_le hx hb hd (off_eq pc a) (fun q => g (by rwa [if_pos q] at h)) (fun q => g (by rwa [if_neg q] at h))

set_option maxHeartbeats 1000000 in
theorem s_ifnull {z : Int} (C : Cx p s m args c cc nL own D cA ov aR0 B nS xs) (I : Inv s nL D cA ov aR0 B nS xs a0 b0 dir ad M H locs ls L S) (K : KK p l e R s m args below meth c Q nL D cA ov aR0 B nS xs a0 b0 dir ad al M k out)
    (hok : okF own nL cc pc (.ifnull z, len, (a, b, d), v, w, brs) = true) (h : astep al cs (.ifnull z, len, (a, b, d), v, w, brs) pc L S M k = some out) : W p l e R s m args below meth c H locs (M.1.2.2.2.1 - a0) (M.1.2.2.2.2 - b0) Q (F0 m pc ls (S.map (cv ad ov))) := by
  obtain ⟨hx, hb, hml, hown, hts, hSF, hB⟩ := C
  obtain ⟨hR, hRO, hS, hL, hvS, hvL, hro, hac, has⟩ := I
  obtain ⟨hd, rfl⟩ : decode cc pc = .ok (.ifnull ((a : Int) - pc), 3) ∧ len = 3 := by simpa [okF, nOK, okE, okD] using hok
  have g : ∀ {pc' x S}, (∀ v ∈ x :: S, vok dir v) → k pc' L S M = some out → W p l e R s m args below meth c H locs (M.1.2.2.2.1 - a0) (M.1.2.2.2.2 - b0) Q (F0 m pc' ls (S.map (cv ad ov))) := fun hv h => K _ _ _ _ h (Rel.of rfl) dir ad H locs ls Ext.rf ⟨hR, hRO, hS, hL, vT1 hv, hvL, hro, hac, has⟩
  rcases S with _ | ⟨(x | x) | _ | ⟨ci, ii⟩, S⟩ <;> try exact ons h
  · exact lv_ifnullN (tgt := a) hx hb hd (off_eq pc a) (g hvS h)
  · have h : (bif Nat.beq ci 34 then none else k (pc + 3) L S M) = some out := h
    have hc : ¬ ci = 34 := fun q => by
      subst q
      exact ons h
    have hc2 : Nat.beq ci 34 = false := by
      cases hq : Nat.beq ci 34
      · rfl
      · exact absurd (Nat.eq_of_beq_eq_true hq) hc
    rw [hc2] at h
    have e1 : cv ad ov (.inr (some (ci, ii))) = .ref (ad ci ii) := if_neg hc
    show W p l e R s m args below meth c H locs _ _ Q (F0 m pc ls (cv ad ov (.inr (some (ci, ii))) :: S.map (cv ad ov)))
    rw [e1]
    exact lv_ifnull hx hb hd (g hvS h)

set_option maxHeartbeats 1000000 in
theorem s_ifnonnull {z : Int} (C : Cx p s m args c cc nL own D cA ov aR0 B nS xs) (I : Inv s nL D cA ov aR0 B nS xs a0 b0 dir ad M H locs ls L S) (K : KK p l e R s m args below meth c Q nL D cA ov aR0 B nS xs a0 b0 dir ad al M k out)
    (hok : okF own nL cc pc (.ifnonnull z, len, (a, b, d), v, w, brs) = true) (h : astep al cs (.ifnonnull z, len, (a, b, d), v, w, brs) pc L S M k = some out) : W p l e R s m args below meth c H locs (M.1.2.2.2.1 - a0) (M.1.2.2.2.2 - b0) Q (F0 m pc ls (S.map (cv ad ov))) := by
  obtain ⟨hx, hb, hml, hown, hts, hSF, hB⟩ := C
  obtain ⟨hR, hRO, hS, hL, hvS, hvL, hro, hac, has⟩ := I
  obtain ⟨hd, rfl⟩ : decode cc pc = .ok (.ifnonnull ((a : Int) - pc), 3) ∧ len = 3 := by simpa [okF, nOK, okE, okD] using hok
  have g : ∀ {pc' x S}, (∀ v ∈ x :: S, vok dir v) → k pc' L S M = some out → W p l e R s m args below meth c H locs (M.1.2.2.2.1 - a0) (M.1.2.2.2.2 - b0) Q (F0 m pc' ls (S.map (cv ad ov))) := fun hv h => K _ _ _ _ h (Rel.of rfl) dir ad H locs ls Ext.rf ⟨hR, hRO, hS, hL, vT1 hv, hvL, hro, hac, has⟩
  rcases S with _ | ⟨(x | x) | _ | ⟨ci, ii⟩, S⟩ <;> try exact ons h
  · exact lv_ifnonnullN hx hb hd (g hvS h)
  · have h : (bif Nat.beq ci 34 then none else k a L S M) = some out := h
    have hc : ¬ ci = 34 := fun q => by
      subst q
      exact ons h
    have hc2 : Nat.beq ci 34 = false := by
      cases hq : Nat.beq ci 34
      · rfl
      · exact absurd (Nat.eq_of_beq_eq_true hq) hc
    rw [hc2] at h
    have e1 : cv ad ov (.inr (some (ci, ii))) = .ref (ad ci ii) := if_neg hc
    show W p l e R s m args below meth c H locs _ _ Q (F0 m pc ls (cv ad ov (.inr (some (ci, ii))) :: S.map (cv ad ov)))
    rw [e1]
    exact lv_ifnonnull (tgt := a) hx hb hd (off_eq pc a) (g hvS h)
end STP
