/-! THE CONSTRUCTORS: each is a run that makes; its calls are runs of constructors again -/
def ctT (b : Nat) : Option (Nat × Nat × List (List (Nat × XE))) := match b with
  | 0 => some (0, 1, tX0_init)
  | 4 => some (1, 1, tX1_init)
  | 15 => some (2, 1, tX2_init)
  | 30 => some (3, 1, tX3_init)
  | 35 => some (4, 1, tX4_init)
  | 40 => some (5, 2, tX5_init)
  | 64 => some (6, 2, tX6_init)
  | 137 => some (7, 2, tX7_init)
  | _ => none
def csA (b : Nat) (as : List AV) : Option (Nat × Nat × Nat × List (List (Nat × XE))) := match ctT b with
  | none => none
  | some (c, n, t) => match as with
    | [.inr (some (c', i))] => bif Nat.beq c' c then some (c, n, i, t) else none
    | _ => none
def vM (o : Option Out) : Option Mem := match o with
  | some (none, M) => some M
  | _ => none
def csI : Nat → CS
  | 0, _, _, _, _ => none
  | d + 1, b, as, M, κ => (csA b as).bind fun q => (vM (brun true (1000, 100000) (csI d) (lkb q.2.2.2) 1000 0 (entL q.2.1 [aR q.1 q.2.2.1]) [] M)).bind fun M' => κ none M'
theorem csA_inv {b : Nat} {as : List AV} {c n i : Nat} {t : List (List (Nat × XE))} (h : csA b as = some (c, n, i, t)) : ctT b = some (c, n, t) ∧ as = [aR c i] := by
  unfold csA at h
  split at h
  · cases h
  · rename_i c0 n0 t0 e
    split at h
    · rename_i c1 i1
      cases hb : Nat.beq c1 c0 with
      | false => rw [hb] at h; cases h
      | true =>
        rw [hb] at h
        have e2 := Nat.eq_of_beq_eq_true hb
        cases h
        subst e2
        exact ⟨e, rfl⟩
    · cases h
theorem vM_inv {o : Option Out} {M : Mem} (h : vM o = some M) : o = some (none, M) := by
  unfold vM at h
  split at h
  · cases h; rfl
  · cases h
theorem csI_inv {d b : Nat} {as : List AV} {M : Mem} {κ : Option AV → Mem → Option Out} {out : Out} (h : csI (d + 1) b as M κ = some out) : ∃ c n i t M', ctT b = some (c, n, t) ∧ as = [aR c i] ∧ brun true (1000, 100000) (csI d) (lkb t) 1000 0 (entL n [aR c i]) [] M = some (none, M') ∧ κ none M' = some out ∧ ∀ κ' : Option AV → Mem → Option Out, csI (d + 1) b as M κ' = κ' none M' := by
  have eq : ∀ κ', csI (d + 1) b as M κ' = (csA b as).bind fun q => (vM (brun true (1000, 100000) (csI d) (lkb q.2.2.2) 1000 0 (entL q.2.1 [aR q.1 q.2.2.1]) [] M)).bind fun M' => κ' none M' := fun _ => rfl
  rw [eq] at h
  cases hA : csA b as with
  | none => rw [hA] at h; cases h
  | some q =>
    obtain ⟨c, n, i, t⟩ := q
    rw [hA] at h
    have h : (vM (brun true (1000, 100000) (csI d) (lkb t) 1000 0 (entL n [aR c i]) [] M)).bind (fun M' => κ none M') = some out := h
    cases hv : vM (brun true (1000, 100000) (csI d) (lkb t) 1000 0 (entL n [aR c i]) [] M) with
    | none => rw [hv] at h; cases h
    | some M' =>
      rw [hv] at h
      obtain ⟨e1, e2⟩ := csA_inv hA
      refine ⟨c, n, i, t, M', e1, e2, vM_inv hv, h, fun κ' => ?_⟩
      rw [eq, hA]
      show (vM (brun true (1000, 100000) (csI d) (lkb t) 1000 0 (entL n [aR c i]) [] M)).bind (fun M' => κ' none M') = _
      rw [hv]
      rfl
theorem ctT_ok {b c n : Nat} {t : List (List (Nat × XE))} (h : ctT b = some (c, n, t)) : b < 245 ∧ tabOK (owM b) (mlM b) (cM b) t = true ∧ ctTb t = true ∧ (yM b).name = "<init>" ∧ rtM b = none ∧ mlM b = n ∧ rtag b = c ∧ (npj b).1 = 1 ∧ 1 ≤ n := by
  unfold ctT at h
  split at h
  · cases h; exact ⟨by decide, tabOK_mk okX0_init (by decide +kernel), by decide +kernel, by decide +kernel, rfl, by decide +kernel, by decide +kernel, by decide +kernel, by decide⟩
  · cases h; exact ⟨by decide, tabOK_mk okX1_init (by decide +kernel), by decide +kernel, by decide +kernel, rfl, by decide +kernel, by decide +kernel, by decide +kernel, by decide⟩
  · cases h; exact ⟨by decide, tabOK_mk okX2_init (by decide +kernel), by decide +kernel, by decide +kernel, rfl, by decide +kernel, by decide +kernel, by decide +kernel, by decide⟩
  · cases h; exact ⟨by decide, tabOK_mk okX3_init (by decide +kernel), by decide +kernel, by decide +kernel, rfl, by decide +kernel, by decide +kernel, by decide +kernel, by decide⟩
  · cases h; exact ⟨by decide, tabOK_mk okX4_init (by decide +kernel), by decide +kernel, by decide +kernel, rfl, by decide +kernel, by decide +kernel, by decide +kernel, by decide⟩
  · cases h; exact ⟨by decide, tabOK_mk okX5_init (by decide +kernel), by decide +kernel, by decide +kernel, rfl, by decide +kernel, by decide +kernel, by decide +kernel, by decide⟩
  · cases h; exact ⟨by decide, tabOK_mk okX6_init (by decide +kernel), by decide +kernel, by decide +kernel, rfl, by decide +kernel, by decide +kernel, by decide +kernel, by decide⟩
  · cases h; exact ⟨by decide, tabOK_mk okX7_init (by decide +kernel), by decide +kernel, by decide +kernel, rfl, by decide +kernel, by decide +kernel, by decide +kernel, by decide⟩
  · cases h
theorem csI_gc : ∀ (d j : Nat), Gc (csI d) j := by
  intro d
  induction d with
  | zero => intro j as M κ out h; cases h
  | succ d ih =>
    intro j as M κ out h
    obtain ⟨c, n, i, t, M', e1, e2, e3, e4, e5⟩ := csI_inv h
    have hT := (ctT_ok e1).2.2.1
    exact ⟨none, M', e4, (brun_gw hT ih _ _ _ _ _ e3).1, fun κ' out' h' => (e5 κ').trans h'⟩
/-- a constructor's contract -/
theorem csI_ok {l : Launch} {D : va_G} {cA : Nat → ClassId} {ov : Value} {aR0 : Nat → Nat → Nat} {B nS : Nat} {xs : Nat → Int32} : ∀ (d b : Nat) (as : List AV) (M : Mem) (κ : Option AV → Mem → Option Out) (out : Out), csI d b as M κ = some out → as.length = (npj b).1 ∧ (∃ i As, as = aR (rtag b) i :: As) ∧ ∃ M', κ none M' = some out ∧ Gw M M' ∧ MetC l D cA ov aR0 B nS xs d b as M none M' := by
  intro d
  induction d with
  | zero => intro b as M κ out h; cases h
  | succ d ih =>
    intro b as M κ out h
    obtain ⟨c, n, i, t, M', e1, rfl, e3, e4, e5⟩ := csI_inv h
    obtain ⟨o1, o2, o3, o4, o5, o6, o7, o8, o9⟩ := ctT_ok e1
    obtain ⟨g1, g2⟩ := brun_gw o3 (csI_gc d) _ _ _ _ _ e3
    refine ⟨by rw [o8]; rfl, ⟨i, [], by rw [o7]⟩, M', e4, g1, ?_⟩
    refine met_of_run (al := true) (cs := csI d) (t := t) (n := 1000) (PM := fun _ => True) o1 o2 (by omega) (fun _ => o4) (by rw [o6]; exact o9) (by rw [o5]; exact trivial) (fun hr => RO.same hr g1.2.2) g1.1 g1.2.1 trivial (fun e => by cases e) (fun _ _ _ _ => trivial) (fun R hR1 hR2 pc xe M1 hx hz _ => ?_) (by rw [o6]; exact g2)
    intro as' κ' out' e
    obtain ⟨a1, a2, M2, a3, _, a4⟩ := ih _ _ _ _ _ e
    exact ⟨a1, fun _ => a2, none, M2, d, a3, fun e => (by cases e), by omega, by omega, a4⟩
