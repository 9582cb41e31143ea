/-! RUNS: a run of the abstract machine is a run of the machine; a method's contract out of a run of its code -/
/-- what a returning instruction gives -/
def retv (i : Instr) (S : List AV) (M : Mem) : Option (Option Out) := match i with
  | .return_ => some (match S with
    | [] => some (none, M)
    | _ => none)
  | .ireturn => some (match S with
    | [.inl (.inl x)] => some (some (aI x), M)
    | _ => none)
  | .lreturn => some (match S with
    | [.inl (.inr x)] => some (some (aL x), M)
    | _ => none)
  | .areturn => some (match S with
    | [.inr x] => some (some (.inr x), M)
    | _ => none)
  | _ => none
/-- a run from an instruction to the method's end; al: may it make; bnd: how much it may have made in the end -/
def brun (al : Bool) (bnd : Nat × Nat) (cs : CS) (T : Nat → Option XE) : Nat → Nat → LV → List AV → Mem → Option Out
  | 0, _, _, _, _ => none
  | n + 1, pc, L, S, M => bif al && !(Nat.ble M.1.2.2.2.1 bnd.1 && Nat.ble M.1.2.2.2.2 bnd.2) then none else match T pc with
    | none => none
    | some xe => match retv xe.1 S M with
      | some r => r
      | none => astep al cs xe pc L S M (brun al bnd cs T n)

section RUN
variable {p : Program} {l : Launch} {e : Env} {R : Room} {s : State} {m : MethodId} {args : Array Value} {below : List Frame} {meth : Method} {c : Code} {Q : State → Prop}
variable {D : va_G} {cA : Nat → ClassId} {ov : Value} {aR0 : Nat → Nat → Nat} {B nS : Nat} {xs : Nat → Int32} {cc : ByteArray} {nL own a0 b0 : Nat}
variable {al : Bool} {cs : CS} {pc : Nat} {L : LV} {S : List AV} {M : Mem} {k : Nat → LV → List AV → Mem → Option Out} {out : Out}
variable {dir : List (Nat × Nat)} {ad : Nat → Nat → Nat} {H : Heap} {locs : List Loc} {ls : Array Slot} {len a b d : Nat} {v : Int32} {w : Int64} {brs : List (Int32 × Nat)}

/-- what a call needs -/
def CallOK (l : Launch) (D : va_G) (cA : Nat → ClassId) (ov : Value) (aR0 : Nat → Nat → Nat) (B nS : Nat) (xs : Nat → Int32) (R : Room) (al : Bool) (cs : CS) (b : Nat) (M : Mem) : Prop :=
  ∀ as kx ox, cs b as M kx = some ox → as.length = (npj b).1 ∧ ((npj b).2 = 1 → ∃ i As, as = aR (rtag b) i :: As) ∧ ∃ v M' d', kx v M' = some ox ∧ (al = false → M'.1 = M.1) ∧ d' + 1 ≤ R.frames ∧ 64 * (d' + 1) ≤ R.locals ∧ MetC l D cA ov aR0 B nS xs d' b as M v M'
set_option maxHeartbeats 4000000 in
theorem astep_ok {xe : XE} (C : Cx p s m args c cc nL own D cA ov aR0 B nS xs) (I : Inv s nL D cA ov aR0 B nS xs a0 b0 dir ad M H locs ls L S) (K : KK p l e R s m args below meth c Q nL D cA ov aR0 B nS xs a0 b0 dir ad al M k out)
    (hok : okF own nL cc pc xe = true) (A : KA R a0 b0 al M k out) (hfr : 1 ≤ R.frames) (hlo : 64 ≤ R.locals) (hinit : al = true → own < 8 → meth.name = "<init>") (hcs : (∃ z, xe.1 = .invokevirtual z) → CallOK l D cA ov aR0 B nS xs R al cs xe.2.2.1.2.1 M)
    (h : astep al cs xe pc L S M k = some out) : W p l e R s m args below meth c H locs (M.1.2.2.2.1 - a0) (M.1.2.2.2.2 - b0) Q (F0 m pc ls (S.map (cv ad ov))) := by
  obtain ⟨i, len, ⟨a, b, d⟩, v, w, brs⟩ := xe
  cases i with
  | iadd => exact s_iadd C I K hok h
  | isub => exact s_isub C I K hok h
  | imul => exact s_imul C I K hok h
  | idiv => exact s_idiv C I K hok h
  | irem => exact s_irem C I K hok h
  | ineg => exact s_ineg C I K hok h
  | iand => exact s_iand C I K hok h
  | ior => exact s_ior C I K hok h
  | ishl => exact s_ishl C I K hok h
  | ishr => exact s_ishr C I K hok h
  | iushr => exact s_iushr C I K hok h
  | ladd => exact s_ladd C I K hok h
  | land => exact s_land C I K hok h
  | lor => exact s_lor C I K hok h
  | lshl => exact s_lshl C I K hok h
  | lcmp => exact s_lcmp C I K hok h
  | i2l => exact s_i2l C I K hok h
  | l2i => exact s_l2i C I K hok h
  | i2b => exact s_i2b C I K hok h
  | i2s => exact s_i2s C I K hok h
  | i2c => exact s_i2c C I K hok h
  | dup => exact s_dup C I K hok h
  | pop => exact s_pop C I K hok h
  | dup_x1 => exact s_dup_x1 C I K hok h
  | dup2 => exact s_dup2 C I K hok h
  | iaload => exact s_iaload C I K hok h
  | baload => exact s_baload C I K hok h
  | laload => exact s_laload C I K hok h
  | aaload => exact s_aaload C I K hok h
  | iastore => exact s_iastore C I K hok h
  | lastore => exact s_lastore C I K hok h
  | arraylength => exact s_arraylength C I K hok h
  | aconst_null => exact s_aconst_null C I K hok h
  | iload z => exact s_iload C I K hok h
  | lload z => exact s_lload C I K hok h
  | aload z => exact s_aload C I K hok h
  | istore z => exact s_istore C I K hok h
  | lstore z => exact s_lstore C I K hok h
  | astore z => exact s_astore C I K hok h
  | ifnull z => exact s_ifnull C I K hok h
  | ifnonnull z => exact s_ifnonnull C I K hok h
  | goto z => exact s_goto C I K hok h
  | iconst z => exact s_iconst C I K hok h
  | lconst z => exact s_lconst C I K hok h
  | getfield z => exact s_getfield C I K hok h
  | getstatic z => exact s_getstatic C I K hok h
  | ldc z => exact s_ldc C I K hok h
  | iinc z y => exact s_iinc C I K hok h
  | ifCond f z => exact s_ifCond C I K hok h
  | if_icmp f z => exact s_if_icmp C I K hok h
  | tableswitch z1 z2 z3 z4 => exact s_tableswitch C I K hok h
  | putfield z => exact s_putfield hinit C I K hok h
  | dneg => exact s_dneg A hfr hlo C I K hok h
  | dadd => exact s_dadd A hfr hlo C I K hok h
  | dsub => exact s_dsub A hfr hlo C I K hok h
  | dmul => exact s_dmul hfr hlo C I K hok h
  | nop => exact s_nop hfr hlo C I K hok h
  | new z => exact s_new A C I K hok h
  | anewarray z => exact s_anewarray A C I K hok h
  | multianewarray z y => exact s_multianewarray A C I K hok h
  | aastore => exact s_aastore C I K hok h
  | newarray ty =>
    have hty : (ty = .int ∧ isIA a = true) ∨ (ty = .long ∧ isLA a = true) := by
      simp only [okF, nOK, okE, Bool.and_eq_true, Bool.or_eq_true, decide_eq_true_eq, Bool.true_and] at hok
      exact hok.2
    rcases hty with ⟨rfl, hna⟩ | ⟨rfl, hna⟩
    · exact s_newarray0 A hna C I K hok h
    · exact s_newarray1 A hna C I K hok h
  | invokevirtual z => exact s_call A (hcs ⟨z, rfl⟩) C I K hok h
  | _ => exact ons h

/-- a run: at its end 'hret' takes over -/
theorem brun_ok {T : Nat → Option XE} {bnd : Nat × Nat} {dir0 : List (Nat × Nat)} {ad0 : Nat → Nat → Nat} {PM : Mem → Prop} (C : Cx p s m args c cc nL own D cA ov aR0 B nS xs) (hok : ∀ pc xe, T pc = some xe → okF own nL cc pc xe = true)
    (hbnd : bnd.1 - a0 ≤ R.cells ∧ bnd.2 - b0 ≤ R.slots) (hbal : al = false → ∀ M, PM M → M.1.2.2.2.1 ≤ bnd.1 ∧ M.1.2.2.2.2 ≤ bnd.2) (hPM : ∀ M M', PM M → Rel al M M' → PM M') (hfr : 1 ≤ R.frames) (hlo : 64 ≤ R.locals) (hinit : al = true → own < 8 → meth.name = "<init>")
    (hcs : ∀ pc xe M, T pc = some xe → (∃ z, xe.1 = .invokevirtual z) → PM M → CallOK l D cA ov aR0 B nS xs R al cs xe.2.2.1.2.1 M)
    (hret : ∀ pc xe L S M dir ad H locs ls, T pc = some xe → okE own cc pc xe = true → Ext dir0 dir ad0 ad → Inv s nL D cA ov aR0 B nS xs a0 b0 dir ad M H locs ls L S → PM M → retv xe.1 S M = some (some out) → W p l e R s m args below meth c H locs (M.1.2.2.2.1 - a0) (M.1.2.2.2.2 - b0) Q (F0 m pc ls (S.map (cv ad ov)))) :
    ∀ (n pc : Nat) (L : LV) (S : List AV) (M : Mem) (dir : List (Nat × Nat)) (ad : Nat → Nat → Nat) (H : Heap) (locs : List Loc) (ls : Array Slot), PM M → Ext dir0 dir ad0 ad → Inv s nL D cA ov aR0 B nS xs a0 b0 dir ad M H locs ls L S → brun al bnd cs T n pc L S M = some out → W p l e R s m args below meth c H locs (M.1.2.2.2.1 - a0) (M.1.2.2.2.2 - b0) Q (F0 m pc ls (S.map (cv ad ov))) := by
  have hA0 : ∀ n pc L S M, PM M → brun al bnd cs T n pc L S M = some out → M.1.2.2.2.1 ≤ bnd.1 ∧ M.1.2.2.2.2 ≤ bnd.2 := by
    intro n pc L S M hP h
    cases hal : al with
    | false => exact hbal hal M hP
    | true =>
      cases n with
      | zero => cases h
      | succ n =>
        have h : (bif al && !(Nat.ble M.1.2.2.2.1 bnd.1 && Nat.ble M.1.2.2.2.2 bnd.2) then none else match T pc with
          | none => none
          | some xe => match retv xe.1 S M with
            | some r => r
            | none => astep al cs xe pc L S M (brun al bnd cs T n)) = some out := h
        cases hc : al && !(Nat.ble M.1.2.2.2.1 bnd.1 && Nat.ble M.1.2.2.2.2 bnd.2) with
        | true => rw [hc] at h; cases h
        | false =>
          rw [hal] at hc
          simp only [Bool.true_and, Bool.not_eq_false', Bool.and_eq_true, Nat.ble_eq] at hc
          exact hc
  intro n
  induction n with
  | zero => intro pc L S M dir ad H locs ls _ _ _ h; cases h
  | succ n ih =>
    intro pc L S M dir ad H locs ls hP E I h
    have h : (bif al && !(Nat.ble M.1.2.2.2.1 bnd.1 && Nat.ble M.1.2.2.2.2 bnd.2) then none else match T pc with
      | none => none
      | some xe => match retv xe.1 S M with
        | some r => r
        | none => astep al cs xe pc L S M (brun al bnd cs T n)) = some out := h
    cases hc : al && !(Nat.ble M.1.2.2.2.1 bnd.1 && Nat.ble M.1.2.2.2.2 bnd.2) with
    | true => rw [hc] at h; cases h
    | false =>
    rw [hc] at h
    cases hT : T pc with
    | none => rw [hT] at h; cases h
    | some xe =>
      rw [hT] at h
      cases hr : retv xe.1 S M with
      | some r =>
        have h : (match retv xe.1 S M with
          | some r => r
          | none => astep al cs xe pc L S M (brun al bnd cs T n)) = some out := h
        rw [hr] at h
        have h : r = some out := h
        have hokE := hok pc xe hT
        unfold okF at hokE
        rw [Bool.and_eq_true] at hokE
        exact hret pc xe L S M dir ad H locs ls hT hokE.2 E I hP (by rw [hr, h])
      | none =>
        have h : (match retv xe.1 S M with
          | some r => r
          | none => astep al cs xe pc L S M (brun al bnd cs T n)) = some out := h
        rw [hr] at h
        have h : astep al cs xe pc L S M (brun al bnd cs T n) = some out := h
        -- the run behind is cut to what keeps the memory's property
        refine astep_ok (k := brun al bnd cs T n) (out := out) C I (fun pc' L' S' M' h' hrel dir' ad' H' locs' ls' E' I' => ih pc' L' S' M' dir' ad' H' locs' ls' (hPM M M' hP hrel) (E.trans E') I' h') (hok pc xe hT) (fun pc' L' S' M' h' hrel => ?_) hfr hlo hinit (fun hz => hcs pc xe M hT hz hP) h
        have := hA0 n pc' L' S' M' (hPM M M' hP hrel) h'
        omega
/-- what an answer must be, by the method's type -/
def rtOK (rt : Option FieldType) (v : Option AV) : Prop := match rt, v with
  | none, none => True
  | some ty, some (.inl (.inl x)) => narrow ty (.int x) = .int x
  | some .long, some (.inl (.inr _)) => True
  | some (.object _), some (.inr _) => True
  | some (.array _), some (.inr _) => True
  | _, _ => False
def entA : List AV → LV
  | [] => []
  | v :: vs => match v with
    | .inl (.inr x) => some (aL x) :: none :: entA vs
    | .inl (.inl x) => some (aI x) :: entA vs
    | .inr x => some (.inr x) :: entA vs
def repN : Nat → LV
  | 0 => []
  | n + 1 => none :: repN n
/-- the locals at a method's entry -/
def entL (n : Nat) (as : List AV) : LV := entA as ++ repN (n - (entA as).length)
theorem repN_len (n : Nat) : (repN n).length = n := by
  induction n with
  | zero => rfl
  | succ n ih => simp [repN, ih]
theorem gL_repN (n i : Nat) : gL (repN n) i = none := by
  induction n generalizing i with
  | zero => cases i <;> rfl
  | succ n ih => cases i with
    | zero => rfl
    | succ i => exact ih i
theorem gL_app (A B : LV) (i : Nat) : gL (A ++ B) i = if i < A.length then gL A i else gL B (i - A.length) := by
  induction A generalizing i with
  | nil => simp
  | cons x A ih =>
    cases i with
    | zero => simp [gL]
    | succ i =>
      simp only [List.cons_append, gL, List.length_cons, Nat.add_lt_add_iff_right, Nat.add_sub_add_right]
      exact ih i
theorem entA_get {ad : Nat → Nat → Nat} {ov : Value} (ho : ov = .null ∨ ∃ a, ov = .ref a) : ∀ (as : List AV) (k i : Nat) (v : AV), gL (entA as) i = some v → (k + i, cv ad ov v) ∈ lv_args k (as.map (cv ad ov)) ∧ v ∈ as := by
  intro as
  induction as with
  | nil => intro k i v h; cases i <;> cases h
  | cons x as ih =>
    intro k i v h
    rcases x with (x | x) | x
    · cases i with
      | zero =>
        have : v = .inl (.inl x) := (Option.some.inj h).symm
        subst this
        exact ⟨List.mem_cons_self, List.mem_cons_self⟩
      | succ i =>
        have := ih (k + 1) i v h
        refine ⟨List.mem_cons_of_mem _ ?_, List.mem_cons_of_mem _ this.2⟩
        show (k + (i + 1), _) ∈ lv_args (if (Value.int x).category = 2 then k + 2 else k + 1) _
        rw [if_neg (show ¬ (Value.int x).category = 2 from (show ¬ (1 : Nat) = 2 by decide)), show k + (i + 1) = k + 1 + i by omega]
        exact this.1
    · cases i with
      | zero =>
        have : v = .inl (.inr x) := (Option.some.inj h).symm
        subst this
        exact ⟨List.mem_cons_self, List.mem_cons_self⟩
      | succ i =>
        cases i with
        | zero => cases h
        | succ i =>
          have := ih (k + 2) i v h
          refine ⟨List.mem_cons_of_mem _ ?_, List.mem_cons_of_mem _ this.2⟩
          show (k + (i + 1 + 1), _) ∈ lv_args (if (Value.long x).category = 2 then k + 2 else k + 1) _
          rw [if_pos (show (Value.long x).category = 2 from rfl), show k + (i + 1 + 1) = k + 2 + i by omega]
          exact this.1
    · cases i with
      | zero =>
        have : v = .inr x := (Option.some.inj h).symm
        subst this
        exact ⟨List.mem_cons_self, List.mem_cons_self⟩
      | succ i =>
        have := ih (k + 1) i v h
        refine ⟨List.mem_cons_of_mem _ ?_, List.mem_cons_of_mem _ this.2⟩
        show (k + (i + 1), _) ∈ lv_args (if (cv ad ov (.inr x)).category = 2 then k + 2 else k + 1) _
        rw [if_neg (by rw [cv_cat ho]; exact (show ¬ (1 : Nat) = 2 by decide)), show k + (i + 1) = k + 1 + i by omega]
        exact this.1
theorem entA_len {ad : Nat → Nat → Nat} {ov : Value} (ho : ov = .null ∨ ∃ a, ov = .ref a) : ∀ as : List AV, (lg_sl (as.map (cv ad ov))).length = (entA as).length := by
  intro as
  induction as with
  | nil => rfl
  | cons x as ih =>
    have e : lg_sl ((x :: as).map (cv ad ov)) = (if (cv ad ov x).category = 2 then [Slot.val (cv ad ov x), .second] else [.val (cv ad ov x)]) ++ lg_sl (as.map (cv ad ov)) := rfl
    rw [e, List.length_append, ih, cv_cat ho]
    rcases x with (x | x) | x
    · show 1 + _ = (entA as).length + 1
      omega
    · show 2 + _ = (entA as).length + 1 + 1
      omega
    · show 1 + _ = (entA as).length + 1
      omega
theorem entL_LR {ad : Nat → Nat → Nat} {ov : Value} (ho : ov = .null ∨ ∃ a, ov = .ref a) {n : Nat} {as : List AV} (h : (entA as).length ≤ n) : LR ad ov ((lg_sl (as.map (cv ad ov)) ++ List.replicate (n - (lg_sl (as.map (cv ad ov))).length) Slot.unset).toArray) n (entL n as) ∧ ∀ i v, gL (entL n as) i = some v → v ∈ as := by
  have hl := lv_entry (as.map (cv ad ov)) (n := n) (by rw [entA_len ho]; exact h)
  have key : ∀ i v, gL (entL n as) i = some v → gL (entA as) i = some v := fun i v hg => by
    unfold entL at hg
    rw [gL_app] at hg
    split at hg
    · exact hg
    · rw [gL_repN] at hg; cases hg
  refine ⟨⟨hl.1, hl.2.1, ?_, fun i v hg => ?_⟩, fun i v hg => (entA_get (ad := fun _ _ => 0) ho as 0 i v (key i v hg)).2⟩
  · unfold entL
    rw [List.length_append, repN_len]
    omega
  · have := (entA_get (ad := ad) ho as 0 i v (key i v hg)).1
    rw [Nat.zero_add] at this
    exact hl.2.2 _ this
/-- what the code's table must be -/
def tabOK (own nL : Nat) (cc : ByteArray) (t : List (List (Nat × XE))) : Bool := okT own cc t && t.all (fun l => l.all (fun q => nOK own nL q.2))
theorem lk_mem : ∀ (l : List (Nat × XE)) (pc : Nat) (x : XE), lk l pc = some x → (pc, x) ∈ l := by
  intro l
  induction l with
  | nil => intro pc x h; cases h
  | cons y l ih =>
    intro pc x h
    obtain ⟨q, z⟩ := y
    have h : (bif Nat.beq q pc then some z else lk l pc) = some x := h
    cases hc : Nat.beq q pc with
    | true =>
      rw [hc] at h
      have e := Nat.eq_of_beq_eq_true hc
      rw [e, Option.some.inj h]
      exact List.mem_cons_self
    | false => rw [hc] at h; exact List.mem_cons_of_mem _ (ih pc x h)
theorem gB_mem : ∀ (t : List (List (Nat × XE))) (i : Nat), gB t i = [] ∨ gB t i ∈ t := by
  intro t
  induction t with
  | nil => intro i; exact Or.inl (by cases i <;> rfl)
  | cons y t ih =>
    intro i
    cases i with
    | zero => exact Or.inr List.mem_cons_self
    | succ i => exact (ih i).imp id (List.mem_cons_of_mem _)
theorem tabOK_at {own nL : Nat} {cc : ByteArray} {t : List (List (Nat × XE))} (h : tabOK own nL cc t = true) {pc : Nat} {x : XE} (hx : lkb t pc = some x) : okF own nL cc pc x = true := by
  unfold tabOK okT at h
  rw [Bool.and_eq_true] at h
  have hm := lk_mem _ _ _ hx
  rcases gB_mem t (pc / 32) with e | e
  · rw [e] at hm; cases hm
  · have h1 := List.all_eq_true.mp (List.all_eq_true.mp h.1 _ e) _ hm
    have h2 := List.all_eq_true.mp (List.all_eq_true.mp h.2 _ e) _ hm
    unfold okF
    rw [h1, h2]
    rfl
/-- A METHOD'S CONTRACT, out of a run of its code -/
theorem met_of_run {l : Launch} {D : va_G} {cA : Nat → ClassId} {ov : Value} {aR0 : Nat → Nat → Nat} {B nS : Nat} {xs : Nat → Int32} {al : Bool} {cs : CS} {t : List (List (Nat × XE))} {d j n : Nat} {as : List AV} {M M' : Mem} {v : Option AV} {PM : Mem → Prop} (hj : j < 245) (hT : tabOK (owM j) (mlM j) (cM j) t = true) (hd : 1 ≤ d)
    (hini : al = true → (yM j).name = "<init>") (hent : (entA as).length ≤ mlM j) (hrt : rtOK (rtM j) v) (hROM : ROm nS xs M → ROm nS xs M') (hm1 : M.1.2.2.2.1 ≤ M'.1.2.2.2.1) (hm2 : M.1.2.2.2.2 ≤ M'.1.2.2.2.2) (hP : PM M)
    (hbal : al = false → ∀ M, PM M → M.1.2.2.2.1 ≤ M'.1.2.2.2.1 ∧ M.1.2.2.2.2 ≤ M'.1.2.2.2.2) (hPM : ∀ M M', PM M → Rel al M M' → PM M')
    (hcs : ∀ R : Room, R.frames = d → R.locals = 64 * d → ∀ pc xe M, lkb t pc = some xe → (∃ z, xe.1 = .invokevirtual z) → PM M → CallOK l D cA ov aR0 B nS xs R al cs xe.2.2.1.2.1 M)
    (hrun : brun al (M'.1.2.2.2.1, M'.1.2.2.2.2) cs (lkb t) n 0 (entL (mlM j) as) [] M = some (v, M')) : MetC l D cA ov aR0 B nS xs d j as M v M' := by
  intro hRO
  refine ⟨hROM hRO, hm1, hm2, fun dir ad hro hvas => ?_⟩
  obtain ⟨mcls, mml, mpn, mh1, mh2⟩ := miD_of hj
  refine Met.ofW (cc := cM j) (maxL := mlM j) (ret := rtM j) mpn rfl ?_
  intro p e s m args below meth c s₁ B0 hml hv
  obtain ⟨rfl, hSF, hB, hR⟩ := hv
  have hx := B0.exec
  have hb := B0.bytes
  have hr := B0.returns
  have hts : ∀ w ∈ WSg, w.before (as.map (cv ad ov)).toArray s = true := fun w hw => atoms_spec (ws := wM j) B0.pre w (List.mem_cons_of_mem _ hw)
  have hown : s.vm.findClass (cn (owM j)) = some m.cls := by rw [← mcls]; exact findClass_of_methodNamed B0.named
  have hlocks := B0.notSynchronized
  have hname : meth.name = (yM j).name := (name_of_methodNamed B0.named B0.method).1
  have ho := hSF.2.2.2.2.2.2.2.2.2.2
  obtain ⟨hL, hLv⟩ := entL_LR (ad := ad) ho hent
  rw [lg_entry_eq]
  have C : Cx p s m (as.map (cv ad ov)).toArray c (cM j) (mlM j) (owM j) D cA ov aR0 B nS xs := ⟨hx, hb, hml, hown, hts, hSF, hB⟩
  have I : Inv s (mlM j) D cA ov aR0 B nS xs M.1.2.2.2.1 M.1.2.2.2.2 dir ad M s.heap [] _ (entL (mlM j) as) [] := ⟨hR, hRO, va_S.rf, hL, fun x hx => absurd hx List.not_mem_nil, fun i x hx => hvas x (hLv i x hx), hro, Nat.le_refl _, Nat.le_refl _⟩
  have key := brun_ok (l := l) (e := e) (R := (headSpec (wM j) (rmM d M M')).room) (below := below) (meth := meth) (Q := MQ below (QcM D cA ov B dir ad v M') (as.map (cv ad ov)).toArray s (M'.1.2.2.2.1 - M.1.2.2.2.1) (M'.1.2.2.2.2 - M.1.2.2.2.2) (fun q => B ≤ q)) (cs := cs) (al := al) (out := (v, M')) (T := lkb t) (bnd := (M'.1.2.2.2.1, M'.1.2.2.2.2)) (dir0 := dir) (ad0 := ad) (PM := PM) C (fun pc xe hq => tabOK_at hT hq) ⟨Nat.le_refl _, Nat.le_refl _⟩ hbal hPM hd (by show 64 ≤ 64 * d; omega) (fun e1 _ => hname.trans (hini e1)) (fun pc xe M1 => hcs _ rfl rfl pc xe M1) ?_ n 0 (entL (mlM j) as) [] M dir ad s.heap [] _ hP Ext.rf I hrun
  · have e1 : M.1.2.2.2.1 - M.1.2.2.2.1 = 0 := Nat.sub_self _
    have e2 : M.1.2.2.2.2 - M.1.2.2.2.2 = 0 := Nat.sub_self _
    rw [e1, e2] at key
    exact key
  · intro pc xe L S M1 dir1 ad1 H locs ls hTx hokE E I1 hP1 hrv
    obtain ⟨hR1, hRO1, hS1, hL1, hvS, hvL, hro1, hac, has⟩ := I1
    obtain ⟨i, len, ⟨a, b, d0⟩, vv, w, brs⟩ := xe
    have Qc : ∀ {o : Option Value}, v.map (cv ad1 ov) = o → (∀ x, v = some x → vok dir1 x) → M1 = M' → ∀ t : State, t.heap = H → s.WarmedH t.vm → QcM D cA ov B dir ad v M' (as.map (cv ad ov)).toArray s (.returned o) t := fun ho2 hvk hM1 t ht hW => ⟨dir1, ad1, by rw [ho2], E, hvk, by rw [ht, ← hM1]; exact hR1, hS1.F ht⟩
    cases i with
    | return_ =>
      rcases S with _ | ⟨z, S⟩
      · have e1 : ((none : Option AV), M1) = (v, M') := Option.some.inj (Option.some.inj hrv)
        obtain ⟨rfl, rfl⟩ := Prod.mk.inj e1
        obtain ⟨hdg, -⟩ : decode (cM j) pc = .ok (.return_, 1) ∧ len = 1 := by simpa [okE, okD] using hokE
        have hrn : rtM j = none := by
          cases hq : rtM j with
          | none => rfl
          | some ty => rw [hq] at hrt; cases ty <;> exact absurd hrt (by simp [rtOK])
        exact W.vret hx hb (by rw [hr, hrn]) (Qc rfl (fun x hx => by cases hx) rfl) hS1.2.2 hdg
      · cases Option.some.inj hrv
    | ireturn =>
      rcases S with _ | ⟨(z | z) | z, _ | ⟨z2, S⟩⟩ <;> try (cases Option.some.inj hrv)
      obtain ⟨hdg, -⟩ : decode (cM j) pc = .ok (.ireturn, 1) ∧ len = 1 := by simpa [okE, okD] using hokE
      have hrn : ∃ ty, rtM j = some ty ∧ narrow ty (.int z) = .int z := by
        cases hq : rtM j with
        | none => rw [hq] at hrt; exact absurd hrt (by simp [rtOK])
        | some ty => rw [hq] at hrt; exact ⟨ty, rfl, by cases ty <;> exact hrt⟩
      obtain ⟨ty, hty, hn⟩ := hrn
      exact W.zret hx hb (by rw [hr, hty]) hn (Qc rfl (fun x hx => by cases hx; exact vH1 hvS) rfl) hS1.2.2 hdg
    | lreturn =>
      rcases S with _ | ⟨(z | z) | z, _ | ⟨z2, S⟩⟩ <;> try (cases Option.some.inj hrv)
      obtain ⟨hdg, -⟩ : decode (cM j) pc = .ok (.lreturn, 1) ∧ len = 1 := by simpa [okE, okD] using hokE
      have hrn : rtM j = some .long := by
        cases hq : rtM j with
        | none => rw [hq] at hrt; exact absurd hrt (by simp [rtOK])
        | some ty => rw [hq] at hrt; cases ty <;> first | rfl | exact absurd hrt (by simp [rtOK])
      exact W.lret hx hb (by rw [hr, hrn]) (Qc rfl (fun x hx => by cases hx; exact vH1 hvS) rfl) hS1.2.2 hdg
    | areturn =>
      rcases S with _ | ⟨(z | z) | z, _ | ⟨z2, S⟩⟩ <;> try (cases Option.some.inj hrv)
      obtain ⟨hdg, -⟩ : decode (cM j) pc = .ok (.areturn, 1) ∧ len = 1 := by simpa [okE, okD] using hokE
      have hrn : ∃ ty, rtM j = some ty ∧ ((∃ n, ty = .object n) ∨ ∃ t, ty = .array t) := by
        cases hq : rtM j with
        | none => rw [hq] at hrt; exact absurd hrt (by simp [rtOK])
        | some ty =>
          rw [hq] at hrt
          cases ty with
          | object n => exact ⟨_, rfl, Or.inl ⟨n, rfl⟩⟩
          | array n => exact ⟨_, rfl, Or.inr ⟨n, rfl⟩⟩
          | _ => exact absurd hrt (by simp [rtOK])
      obtain ⟨ty, hty, hn⟩ := hrn
      exact W.aret hx hb (by rw [hr, hty]) hn (cv_ref ho z) (Qc rfl (fun x hx => by cases hx; exact vH1 hvS) rfl) hS1.2.2 hdg
    | _ => cases hrv

end RUN
