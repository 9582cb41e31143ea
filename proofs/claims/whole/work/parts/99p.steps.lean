/-! THE LAW: its start's steps -/
noncomputable def kT (out : Out) (pc0 : Nat) (L0 : LV) (S0 : List AV) (M0 : Mem) : Nat → LV → List AV → Mem → Option Out := fun pc L S M => @ite _ (pc = pc0 ∧ L = L0 ∧ S = S0 ∧ M = M0) (Classical.propDecidable _) (some out) none
theorem kT_self {out : Out} {pc0 : Nat} {L0 : LV} {S0 : List AV} {M0 : Mem} : kT out pc0 L0 S0 M0 pc0 L0 S0 M0 = some out := by
  unfold kT
  exact if_pos ⟨rfl, rfl, rfl, rfl⟩
theorem kT_inv {out out' : Out} {pc pc0 : Nat} {L L0 : LV} {S S0 : List AV} {M M0 : Mem} (h : kT out pc0 L0 S0 M0 pc L S M = some out') : pc = pc0 ∧ L = L0 ∧ S = S0 ∧ M = M0 := by
  unfold kT at h
  by_cases e : pc = pc0 ∧ L = L0 ∧ S = S0 ∧ M = M0
  · exact e
  · rw [if_neg e] at h; cases h
/-- one call, at these words, with this memory behind it -/
noncomputable def csO (as0 : List AV) (N : Mem) : CS := fun _ as _ κ => @ite _ (as = as0) (Classical.propDecidable _) (κ none N) none
theorem csO_ok {l : Launch} {D : va_G} {cA : Nat → ClassId} {ov : Value} {aR0 : Nat → Nat → Nat} {B nS : Nat} {xs : Nat → Int32} {R : Room} {b c n : Nat} {t : List (List (Nat × XE))} {M N : Mem} (hT : ctT b = some (c, n, t)) (hM : MetC l D cA ov aR0 B nS xs 4 b [aR c 0] M none N) (hf : 5 ≤ R.frames) (hl : 64 * 5 ≤ R.locals) : CallOK l D cA ov aR0 B nS xs R true (csO [aR c 0] N) b M := by
  obtain ⟨-, -, -, -, -, -, h7, h8, -⟩ := ctT_ok hT
  intro as κ out h
  have h2 : @ite _ (as = [aR c 0]) (Classical.propDecidable _) (κ none N) none = some out := h
  by_cases e : as = [aR c 0]
  · rw [if_pos e] at h2
    subst e
    exact ⟨by rw [h8]; rfl, fun _ => ⟨0, [], by rw [h7]⟩, none, N, 4, h2, fun q => (by cases q), by omega, by omega, hM⟩
  · rw [if_neg e] at h2; cases h2
section STG
variable {p : Program} {l : Launch} {e : Env} {R : Room} {s : State} {m : MethodId} {args : Array Value} {below : List Frame} {meth : Method} {c : Code} {Q : State → Prop}
variable {D : va_G} {cA : Nat → ClassId} {ov : Value} {aR0 : Nat → Nat → Nat} {B nS : Nat} {xs : Nat → Int32} {cc : ByteArray} {nL own a0 b0 : Nat}
variable {dir : List (Nat × Nat)} {ad : Nat → Nat → Nat} {H : Heap} {locs : List Loc} {ls : Array Slot}
/-- one instruction to the next state -/
theorem st_go {xe : XE} {pc pc0 : Nat} {L L0 : LV} {S S0 : List AV} {M M0 : Mem} {cs : CS} {o : Out} (C : Cx p s m args c cc nL own D cA ov aR0 B nS xs) (I : Inv s nL D cA ov aR0 B nS xs a0 b0 dir ad M H locs ls L S) (hok : okF own nL cc pc xe = true) (hfr : 1 ≤ R.frames) (hlo : 64 ≤ R.locals) (hown : ¬ own < 8)
    (hcs : (∃ z, xe.1 = .invokevirtual z) → CallOK l D cA ov aR0 B nS xs R true cs xe.2.2.1.2.1 M) (t1 : M0.1.2.2.2.1 - a0 ≤ R.cells ∧ M0.1.2.2.2.2 - b0 ≤ R.slots) (h : astep true cs xe pc L S M (kT o pc0 L0 S0 M0) = some o)
    (K : ∀ dir' ad' H' locs' ls', Ext dir dir' ad ad' → Inv s nL D cA ov aR0 B nS xs a0 b0 dir' ad' M0 H' locs' ls' L0 S0 → W p l e R s m args below meth c H' locs' (M0.1.2.2.2.1 - a0) (M0.1.2.2.2.2 - b0) Q (F0 m pc0 ls' (S0.map (cv ad' ov)))) : W p l e R s m args below meth c H locs (M.1.2.2.2.1 - a0) (M.1.2.2.2.2 - b0) Q (F0 m pc ls (S.map (cv ad ov))) :=
  astep_ok C I (fun pc' L' S' M' h' _ dir' ad' H' locs' ls' E I' => by
    obtain ⟨rfl, rfl, rfl, rfl⟩ := kT_inv h'
    exact K _ _ _ _ _ E I') hok (fun pc' L' S' M' h' _ => by
    obtain ⟨rfl, rfl, rfl, rfl⟩ := kT_inv h'
    exact t1) hfr hlo (fun _ h => absurd h hown) hcs h
end STG
/-- the constructors' runs, told apart, and their contracts at the script's memory -/
theorem mk_parts {l : Launch} {D : va_G} {cA : Nat → ClassId} {ov : Value} {aR0 : Nat → Nat → Nat} {B Ln : Nat} {xs : Nat → Int32} : ∃ Mb Md : Mem, Mb.1.1 7 = 0 ∧ Mb.1.2.2.2.1 + 1 ≤ 132 ∧ Mb.1.2.2.2.2 + 33 ≤ 3028 ∧
    MetC l D cA ov aR0 B Ln xs 4 64 [aR 6 0] (nwM 6 (p33 Ln xs Mi)) none (p33 Ln xs Mb) ∧ MetC l D cA ov aR0 B Ln xs 4 137 [aR 7 0] (nwM 7 (p33 Ln xs Mb)) none (ST0 Ln, mmF xs Md) ∧ Rlt v0 0 0 16 (mmF xs Md) := by
  obtain ⟨v9, Md, hO⟩ : ∃ (v9 : Option AV) (M9 : Mem), MkO = some (v9, M9) := by
    cases h : MkO with
    | none => have q := mk_chk; rw [h] at q; cases q
    | some o => exact ⟨o.1, o.2, rfl⟩
  have hM : chkM Md = true := by
    have q := mk_chk
    rw [hO] at q
    exact q
  have hO : csI 4 64 [aR 6 0] (nwM 6 Mi) (fun _ M1 => bif Nat.beq (M1.1.1 7) 0 then csI 4 137 [aR 7 0] (nwM 7 M1) (fun _ M2 => some (none, M2)) else none) = some (v9, Md) := hO
  obtain ⟨-, -, Mb, e1, g1, C1⟩ := csI_ok (l := l) (D := D) (cA := cA) (ov := ov) (aR0 := fun c i => if c = 33 then aR0 32 i else aR0 c i) (B := B) (nS := 6) (xs := kaF) 4 64 _ _ _ _ hO
  have e1 : (bif Nat.beq (Mb.1.1 7) 0 then csI 4 137 [aR 7 0] (nwM 7 Mb) (fun _ M2 => some (none, M2)) else none) = some (v9, Md) := e1
  cases hb7 : Nat.beq (Mb.1.1 7) 0 with
  | false => rw [hb7] at e1; cases e1
  | true =>
  rw [hb7] at e1
  have e1 : csI 4 137 [aR 7 0] (nwM 7 Mb) (fun _ M2 => some (none, M2)) = some (v9, Md) := e1
  obtain ⟨-, -, Me, e2, g2, C2⟩ := csI_ok (l := l) (D := D) (cA := cA) (ov := ov) (aR0 := fun c i => if c = 33 then aR0 32 i else aR0 c i) (B := B) (nS := 6) (xs := kaF) 4 137 _ _ _ _ e1
  have e3 : Me = Md := congrArg Prod.snd (Option.some.inj e2)
  subst e3
  have r1 : ROm 6 kaF (nwM 6 Mi) := ROm_nw (by omega) ROm_i
  have r2 : ROm 6 kaF Mb := RO.same r1 g1.2.2
  have r3 : ROm 6 kaF (nwM 7 Mb) := ROm_nw (by omega) r2
  have r4 : ROm 6 kaF Me := RO.same r3 g2.2.2
  unfold chkM at hM
  have q1 := Bool.and_eq_true_iff.mp hM
  have q2 := Bool.and_eq_true_iff.mp q1.2
  have q3 := Bool.and_eq_true_iff.mp q2.2
  have q4 := Bool.and_eq_true_iff.mp q3.2
  have q5 := Bool.and_eq_true_iff.mp q4.2
  have q6 := Bool.and_eq_true_iff.mp q5.2
  have tot : Me.1.2.2.2 = (132, 3028) := (chk_cnt q1.1).2
  have ga := g2.1
  have gb := g2.2.1
  rw [tot] at ga gb
  refine ⟨Mb, Me, Nat.eq_of_beq_eq_true hb7, ga, gb, ?_, ?_, rlt_0 (q := Ln) q4.1 q5.1 q6.1 q6.2 (ROm_F r4)⟩
  · exact C1.sw r1 (fun _ => ROm_33 r2) rfl rfl (fun U h => h.p33) (fun z hz => by rw [List.mem_singleton.mp hz]; exact ⟨6, 0, rfl, rfl⟩) (fun dir ad ad' H ha h => h.p33 (P33.nw (P33.p _ _ _)).sy ha) (fun dir ad ad' H ha h => h.p33 (P33.p _ _ _) ha)
  · exact C2.sw r3 (fun _ => ROm_F r4) rfl tot.symm (fun U h => h.p33) (fun z hz => by rw [List.mem_singleton.mp hz]; exact ⟨7, 0, rfl, rfl⟩) (fun dir ad ad' H ha h => h.p33 (P33.nw (P33.p _ _ _)).sy ha) (fun dir ad ad' H ha h => h.F q1.1 q2.1 q3.1 ha)
