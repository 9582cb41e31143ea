/-! CALLS: a method's contract over the memory, and the call of one -/
/-- of each method: how many words it takes (with the object), whether it has an object (1) -/
def npT : List (Nat × Nat) := [(1, 1), (5, 1), (2, 1), (2, 1), (1, 1), (1, 1), (1, 1), (1, 1), (1, 1), (2, 1), (3, 1), (3, 1), (3, 1), (2, 1), (2, 1), (1, 1), (1, 1), (2, 1), (2, 1), (2, 1), (3, 1), (1, 0), (3, 0), (1, 1), (2, 1), (2, 1), (1, 0), (1, 0), (1, 1), (1, 1), (1, 1), (3, 1), (2, 1), (2, 1), (2, 1), (1, 1), (4, 1), (2, 1), (2, 1), (2, 1), (1, 1), (2, 1), (2, 1), (2, 1), (2, 1), (1, 1), (1, 1), (2, 1), (3, 1), (5, 1), (4, 1), (2, 1), (2, 1), (2, 1), (2, 1), (3, 1), (4, 1), (5, 1), (4, 1), (2, 1), (2, 1), (1, 1), (1, 1), (2, 1), (1, 1), (4, 1), (4, 1), (6, 1), (3, 1), (2, 1), (3, 1), (3, 1), (2, 1), (4, 1), (4, 1), (3, 1), (3, 1), (2, 1), (1, 1), (1, 1), (3, 1), (3, 1), (2, 1), (4, 1), (3, 1), (2, 1), (2, 1), (3, 1), (2, 1), (3, 1), (5, 1), (4, 1), (5, 1), (4, 1), (3, 1), (3, 1), (4, 1), (2, 1), (3, 1), (2, 1), (3, 1), (2, 1), (3, 1), (2, 1), (2, 1), (3, 1), (2, 1), (2, 1), (4, 1), (3, 1), (1, 1), (2, 1), (4, 1), (5, 1), (2, 1), (2, 1), (2, 1), (1, 1), (1, 1), (2, 1), (3, 0), (1, 0), (2, 0), (2, 0), (2, 1), (2, 1), (1, 1), (3, 1), (5, 1), (5, 1), (4, 1), (1, 1), (2, 1), (1, 1), (3, 1), (4, 1), (2, 1), (1, 1), (2, 1), (3, 0), (2, 1), (2, 1), (2, 1), (2, 0), (1, 0), (1, 0), (2, 1), (4, 1), (2, 1), (2, 0), (4, 1), (6, 1), (3, 1), (2, 1), (3, 1), (2, 0), (3, 1), (2, 1), (4, 1), (4, 1), (4, 1), (3, 1), (3, 1), (6, 1), (5, 1), (2, 1), (1, 1), (1, 0), (1, 0), (1, 1), (2, 1), (3, 1), (1, 1), (1, 1), (1, 1), (1, 1), (1, 1), (2, 1), (3, 1), (2, 1), (3, 1), (2, 1), (2, 1), (2, 1), (2, 1), (2, 1), (2, 1), (4, 1), (3, 1), (2, 1), (4, 1), (2, 1), (2, 1), (3, 1), (3, 1), (2, 1), (3, 1), (5, 1), (5, 1), (3, 1), (4, 1), (3, 1), (3, 1), (4, 1), (5, 1), (4, 1), (6, 1), (3, 1), (3, 1), (4, 1), (2, 1), (3, 1), (2, 1), (2, 1), (2, 1), (1, 1), (3, 1), (2, 1), (2, 1), (3, 1), (2, 1), (2, 1), (3, 1), (2, 1), (4, 1), (3, 1), (2, 1), (4, 1), (2, 1), (2, 1), (2, 1), (2, 1), (2, 1), (2, 1), (1, 1), (1, 1), (2, 1), (1, 0), (1, 1), (2, 1), (1, 1), (1, 1), (2, 0), (2, 0), (3, 0)]
def npj (j : Nat) : Nat × Nat := npT.getD j (99, 9)
def rtag (j : Nat) : Nat := if owM j = 9 then 31 else owM j
theorem ML_np : MLt.all (fun e => Nat.beq (npj e.2.2.2.1).1 e.2.2.2.2.1 && (if e.2.2.1 = 1 ∨ e.2.2.1 = 4 then Nat.beq (npj e.2.2.2.1).2 0 else Nat.beq (npj e.2.2.2.1).2 1)) = true := by decide +kernel
/-- a method's start: its words, what is only read, the heap holds the memory -/
def PcM (D : va_G) (cA : Nat → ClassId) (ov : Value) (aR0 : Nat → Nat → Nat) (B nS : Nat) (xs : Nat → Int32) (dir : List (Nat × Nat)) (ad : Nat → Nat → Nat) (as : List AV) (M : Mem) : Array Value → State → Prop :=
  fun a U => a = (as.map (cv ad ov)).toArray ∧ SFp D cA ov aR0 B nS xs U ∧ B ≤ U.heap.size ∧ Rep D cA ad dir B M U.heap
/-- a method's end: the answer, the heap holds the new memory, nothing below is changed -/
def QcM (D : va_G) (cA : Nat → ClassId) (ov : Value) (B : Nat) (dir : List (Nat × Nat)) (ad : Nat → Nat → Nat) (v : Option AV) (M' : Mem) : Array Value → State → Outcome → State → Prop :=
  fun _ st o t => ∃ (dir' : List (Nat × Nat)) (ad' : Nat → Nat → Nat), o = .returned (v.map (cv ad' ov)) ∧ Ext dir dir' ad ad' ∧ (∀ x, v = some x → vok dir' x) ∧ Rep D cA ad' dir' B M' t.heap ∧ va_F (fun q => B ≤ q) st t
def rmM (d : Nat) (M M' : Mem) : Room := { frames := d, cells := M'.1.2.2.2.1 - M.1.2.2.2.1, slots := M'.1.2.2.2.2 - M.1.2.2.2.2, locals := 64 * d }
/-- the contract of method j at these words and this memory -/
def MetC (l : Launch) (D : va_G) (cA : Nat → ClassId) (ov : Value) (aR0 : Nat → Nat → Nat) (B nS : Nat) (xs : Nat → Int32) (d j : Nat) (as : List AV) (M : Mem) (v : Option AV) (M' : Mem) : Prop :=
  ROm nS xs M → ROm nS xs M' ∧ M.1.2.2.2.1 ≤ M'.1.2.2.2.1 ∧ M.1.2.2.2.2 ≤ M'.1.2.2.2.2 ∧ ∀ (dir : List (Nat × Nat)) (ad : Nat → Nat → Nat), (∀ c i, 30 ≤ c → c ≤ 34 → ad c i = aR0 c i) → (∀ x ∈ as, vok dir x) →
    Met l (yM j) (wM j) (rmM d M M') (PcM D cA ov aR0 B nS xs dir ad as M) (QcM D cA ov B dir ad v M') (M'.1.2.2.2.1 - M.1.2.2.2.1) (M'.1.2.2.2.2 - M.1.2.2.2.2) (fun q => B ≤ q)
theorem PcM.blind {D : va_G} {cA : Nat → ClassId} {ov : Value} {aR0 : Nat → Nat → Nat} {B nS : Nat} {xs : Nat → Int32} {dir : List (Nat × Nat)} {ad : Nat → Nat → Nat} {as : List AV} {M : Mem} : FrameBlind (PcM D cA ov aR0 B nS xs dir ad as M) :=
  fun a _ g mk ⟨h1, h2, h3, h4⟩ => ⟨h1, h2.call a g mk, h3, h4⟩
theorem ML_nest : MLt.all (fun e => !(decide (3 ≤ e.2.2.1)) || NNt.any (fun x => Nat.beq x.1 e.1 && Nat.beq x.2.1 e.2.1 && Nat.beq x.2.2.1 e.2.2.2.1)) = true := by decide +kernel
theorem mlE_of {own idx kd j n : Nat} (h : mlE own idx kd j n = true) : ∃ pl p2 ps pi, mlOK (own, idx, kd, j, n, pl, p2, ps, pi) = true ∧ (npj j).1 = n ∧ (if kd = 1 ∨ kd = 4 then Nat.beq (npj j).2 0 else Nat.beq (npj j).2 1) = true ∧ (3 ≤ kd → ∃ e ∈ NNt, (e.1, e.2.1, e.2.2.1) = (own, idx, j)) := by
  obtain ⟨e, he, h⟩ := List.any_eq_true.mp h
  simp only [Bool.and_eq_true, Nat.beq_eq] at h
  obtain ⟨o1, i1, k1, j1, n1, pl, p2, ps, pi⟩ := e
  obtain ⟨⟨⟨⟨rfl, rfl⟩, rfl⟩, rfl⟩, rfl⟩ := h
  have g := List.all_eq_true.mp ML_np _ he
  simp only [Bool.and_eq_true, Nat.beq_eq] at g
  refine ⟨pl, p2, ps, pi, List.all_eq_true.mp MLt_ok _ he, g.1, g.2, fun h3 => ?_⟩
  have h5 := List.all_eq_true.mp ML_nest _ he
  simp only [Bool.or_eq_true, Bool.not_eq_true', decide_eq_false_iff_not, List.any_eq_true, Bool.and_eq_true, Nat.beq_eq] at h5
  rcases h5 with h5 | ⟨x, hx, h5⟩
  · exact absurd h3 h5
  · obtain ⟨⟨e1, e2⟩, e3⟩ := h5
    exact ⟨x, hx, by rw [e1, e2, e3]⟩

section CST
variable {p : Program} {l : Launch} {e : Env} {R : Room} {s : State} {m : MethodId} {args : Array Value} {below : List Frame} {meth : Method} {c : Code} {Q : State → Prop}
variable {D : va_G} {cA : Nat → ClassId} {ov : Value} {aR0 : Nat → Nat → Nat} {B nS : Nat} {xs : Nat → Int32} {cc : ByteArray} {nL own a0 b0 : Nat}
variable {al : Bool} {cs : CS} {pc : Nat} {L : LV} {S : List AV} {M : Mem} {k : Nat → LV → List AV → Mem → Option Out} {out : Out}
variable {dir : List (Nat × Nat)} {ad : Nat → Nat → Nat} {H : Heap} {locs : List Loc} {ls : Array Slot} {len a b d : Nat} {v : Int32} {w : Int64} {brs : List (Int32 × Nat)}

/-- behind a call -/
theorem c_back {R : Room} {st0 : List Value} {rest : List AV} {as : Array Value} {v : Option AV} {M M' : Mem} {mc ms : Nat} (hmc : mc = M'.1.2.2.2.1 - M.1.2.2.2.1) (hms : ms = M'.1.2.2.2.2 - M.1.2.2.2.2)
    (I : Inv s nL D cA ov aR0 B nS xs a0 b0 dir ad M H locs ls L S) (hrest : ∀ x ∈ rest, vok dir x) (hro : ROm nS xs M') (hm1 : M.1.2.2.2.1 ≤ M'.1.2.2.2.1) (hm2 : M.1.2.2.2.2 ≤ M'.1.2.2.2.2)
    (hr : va_Run p l e R s m args below meth c H locs (M.1.2.2.2.1 - a0) (M.1.2.2.2.2 - b0) mc ms (F0 m pc ls st0) (rest.map (cv ad ov)) (QcM D cA ov B dir ad v M' as) (fun q => B ≤ q))
    (K : ∀ dir' ad' H' locs', Ext dir dir' ad ad' → Inv s nL D cA ov aR0 B nS xs a0 b0 dir' ad' M' H' locs' ls L (v.toList ++ rest) → W p l e R s m args below meth c H' locs' (M'.1.2.2.2.1 - a0) (M'.1.2.2.2.2 - b0) Q (F0 m (pc + 3) ls ((v.toList ++ rest).map (cv ad' ov)))) :
    W p l e R s m args below meth c H locs (M.1.2.2.2.1 - a0) (M.1.2.2.2.2 - b0) Q (F0 m pc ls st0) := by
  obtain ⟨hR, hRO, hS, hL, hvS, hvL, hro0, hac, has⟩ := I
  intro T hT X
  obtain ⟨vv, st₀, t, T', LL, h0, X', hLL, e1, e2, ⟨dir', ad', ho1, E, hvv, hR', hF⟩, st⟩ := hr T hT X
  have hvm : vv = v.map (cv ad' ov) := by
    have := ho1
    injection this
  subst hvm
  have hS' : va_S (fun q => B ≤ q) s.heap T'.heap (locs ++ LL) := by
    have f1 := hF.1
    have f2 := hF.2
    rw [h0] at f1 f2
    refine ⟨Nat.le_trans hS.1 (by rw [e1]; exact f1), fun q g1 g2 => ?_, fun q hq => ?_⟩
    · rw [e1, f2 q (Nat.lt_of_lt_of_le g1 hS.1) g2]
      exact hS.2.1 q g1 g2
    · rcases List.mem_append.mp hq with hq | hq
      · exact hS.2.2 q hq
      · exact hLL q hq
  have hst : (v.map (cv ad' ov)).toList ++ rest.map (cv ad ov) = (v.toList ++ rest).map (cv ad' ov) := by
    rw [List.map_append, cv_exts E hrest]
    cases v <;> rfl
  have kk := K dir' ad' T'.heap (locs ++ LL) E ⟨by rw [e1]; exact hR', hro, hS', hL.ext E hvL, fun x hx => by
      rcases List.mem_append.mp hx with hx | hx
      · cases v with
        | none => cases hx
        | some y =>
          have : x = y := by simpa using hx
          subst this
          exact hvv x rfl
      · exact (hrest x hx).ext E, fun i x hx => (hvL i x hx).ext E, fun c i g1 g2 => (E.2 c i g1 g2).trans (hro0 c i g1 g2), by omega, by omega⟩
  have c1 : M.1.2.2.2.1 - a0 + mc = M'.1.2.2.2.1 - a0 := by omega
  have c2 : M.1.2.2.2.2 - b0 + ms = M'.1.2.2.2.2 - b0 := by omega
  rw [c1, c2] at X'
  rw [← hst] at kk
  obtain ⟨t2, a1, b1⟩ := kk T' rfl X'
  exact ⟨t2, st t2 a1, b1⟩

set_option maxHeartbeats 1000000 in
theorem s_call {z : Nat} (A : KA R a0 b0 al M k out)
    (hcs : ∀ as kx ox, cs b as M kx = some ox → as.length = (npj b).1 ∧ ((npj b).2 = 1 → ∃ i As, as = aR (rtag b) i :: As) ∧ ∃ v M' d', kx v M' = some ox ∧ (al = false → M'.1 = M.1) ∧ d' + 1 ≤ R.frames ∧ 64 * (d' + 1) ≤ R.locals ∧ MetC l D cA ov aR0 B nS xs d' b as M v M') (C : Cx p s m args c cc nL own D cA ov aR0 B nS xs) (I : Inv s nL D cA ov aR0 B nS xs a0 b0 dir ad M H locs ls L S) (K : KK p l e R s m args below meth c Q nL D cA ov aR0 B nS xs a0 b0 dir ad al M k out)
    (hok : okF own nL cc pc (.invokevirtual z, len, (a, b, d), v, w, brs) = true) (h : astep al cs (.invokevirtual z, len, (a, b, d), v, w, brs) pc L S M k = some out) : W p l e R s m args below meth c H locs (M.1.2.2.2.1 - a0) (M.1.2.2.2.2 - b0) Q (F0 m pc ls (S.map (cv ad ov))) := by
  obtain ⟨hx, hb, hml, hown, hts, hSF, hB⟩ := C
  have hSF0 := hSF
  have I0 := I
  obtain ⟨hR, hRO, hS, hL, hvS, hvL, hro, hac, has⟩ := I
  obtain ⟨h1, h2, ⟨h3, h4, h5, h6⟩, h7, h8, h9, h10, h11, h12, h13, ho⟩ := hSF
  simp only [okF, nOK, okE, okD, Bool.and_eq_true, Bool.or_eq_true, decide_eq_true_eq, Nat.beq_eq, Bool.true_and] at hok
  obtain ⟨rfl, hok⟩ := hok
  have h : (bif Nat.ble a S.length && Nat.ble (S.drop a).length 4 then cs b (S.take a).reverse M (fun r m' => k (pc + 3) L (r.toList ++ S.drop a) m') else none) = some out := h
  cases hc : Nat.ble a S.length && Nat.ble (S.drop a).length 4 with
  | false => rw [hc] at h; exact ons h
  | true =>
  rw [hc] at h
  simp only [Bool.and_eq_true, Nat.ble_eq] at hc
  obtain ⟨hlen, hobj, v', M', d', hk, hst1, hfr, hlo, hMC⟩ := hcs _ _ _ h
  generalize has2 : (S.take a).reverse = as at hlen hobj hMC
  have hS0 : S = as.reverse ++ S.drop a := by rw [← has2, List.reverse_reverse, List.take_append_drop]
  generalize S.drop a = rest at hS0 hk hc
  have hvas : ∀ x ∈ as, vok dir x := fun x hx => hvS x (by rw [hS0]; exact List.mem_append_left _ (List.mem_reverse.mpr hx))
  have hvr : ∀ x ∈ rest, vok dir x := fun x hx => hvS x (by rw [hS0]; exact List.mem_append_right _ hx)
  obtain ⟨hro', hm1, hm2, hMC⟩ := hMC hRO
  have hM := hMC dir ad hro hvas
  have hAk := A _ _ _ _ hk ⟨hm1, hm2, hst1⟩
  have hcs1 := cat_sum (ad := ad) (ov := ov) ho rest
  have K' := fun dir' ad' H' locs' E I' => K _ _ _ _ hk ⟨hm1, hm2, hst1⟩ dir' ad' H' locs' ls E I'
  have hfit : M.1.2.2.2.1 - a0 + (M'.1.2.2.2.1 - M.1.2.2.2.1) ≤ R.cells ∧ M.1.2.2.2.2 - b0 + (M'.1.2.2.2.2 - M.1.2.2.2.2) ≤ R.slots := by omega
  have hPU : ∀ U : State, U.heap = H → s.WarmedH U.vm → PcM D cA ov aR0 B nS xs dir ad as M (as.map (cv ad ov)).toArray U := fun U hU hW => ⟨rfl, hSF0.go hW (fun q g1 g2 => by rw [hU]; exact hS.2.1 q g1 g2), by rw [hU]; exact Nat.le_trans hB hS.1, by rw [hU]; exact hR⟩
  have hst : S.map (cv ad ov) = (as.map (cv ad ov)).reverse ++ rest.map (cv ad ov) := by rw [hS0, List.map_append, List.map_reverse]
  rw [hst]
  have hcl : c.maxLocals = nL := hml
  have static : ∀ {n : Nat}, (∀ sig, parseMethodDescriptor (yM b).desc = some sig → n = sig.parameters.length) → as.length = n → (va_CN R s args (cn own) d (yM b) RX6 (cM b) (mlM b) (rtM b) (wM b) (rmM d' M M') (M'.1.2.2.2.1 - M.1.2.2.2.1) (M'.1.2.2.2.2 - M.1.2.2.2.2) n ∨ CallB R s args (cn own) d (yM b) (cM b) (mlM b) (rtM b) (wM b) (rmM d' M M') (M'.1.2.2.2.1 - M.1.2.2.2.1) (M'.1.2.2.2.2 - M.1.2.2.2.2) n) → (Cond.static (yM b)).before args s = true → decode cc pc = .ok (.invokestatic d, 3) → W p l e R s m args below meth c H locs (M.1.2.2.2.1 - a0) (M.1.2.2.2.2 - b0) Q (F0 m pc ls ((as.map (cv ad ov)).reverse ++ rest.map (cv ad ov))) := by
    intro n _ hn hcb hstt hd
    rcases hcb with hcb | hcb
    · exact c_back rfl rfl I0 hvr hro' hm1 hm2 (va_runSN (As := as.map (cv ad ov)) ⟨hx, hb, hcl, hown, hts⟩ hM ⟨hcb, hstt, trivial⟩ ⟨PcM.blind, hPU⟩ rfl (by rw [List.length_map]; exact hn) hL.1 rfl (lv_room (by omega)) hd hfit) K'
    · exact c_back rfl rfl I0 hvr hro' hm1 hm2 (va_runS (As := as.map (cv ad ov)) ⟨hx, hb, hcl, hown, hts⟩ hM ⟨hcb, hstt⟩ ⟨PcM.blind, hPU⟩ rfl (by rw [List.length_map]; exact hn) hL.1 rfl (lv_room (by omega)) hd hfit) K'
  have room : rmM d' M M' = rmM d' M M' ∧ (rmM d' M M').frames + 1 ≤ R.frames ∧ ∀ {x : Nat}, x ≤ 40 → 8 + (x + 11) + (rmM d' M M').locals ≤ R.locals := ⟨rfl, hfr, fun hx => by show 8 + (_ + 11) + 64 * d' ≤ _; omega⟩
  rcases hok with (⟨hd, hml0⟩ | ⟨hd, hml0 | hml0⟩) | ⟨hd, hml0 | hml0⟩
  · -- a virtual call
    obtain ⟨pl, p2, ps, pi, hmo, hnp, hob, -⟩ := mlE_of hml0
    have hob1 : (npj b).2 = 1 := by simpa using hob
    obtain ⟨i, As, rfl⟩ := hobj hob1
    simp only [mlOK, Bool.and_eq_true, Bool.or_eq_true, decide_eq_true_eq] at hmo
    obtain ⟨⟨hj, hpi⟩, ⟨⟨⟨how, hpl⟩, hp2⟩, hps⟩, hpd⟩ := hmo
    obtain ⟨mcls, mml, mpn, mh1, mh2⟩ := miD_of hj
    have hpar : (parseMethodDescriptor (yM b).desc).map (fun d => d.parameters.length) = some As.length := by
      rw [List.length_cons, hnp] at hlen
      cases hq : parseMethodDescriptor (yM b).desc with
      | none => rw [hq] at hpd; cases hpd
      | some sig =>
        rw [hq] at hpd
        have : sig.parameters.length + 1 = a := Option.some.inj hpd
        show some sig.parameters.length = _
        congr 1
        omega
    have hcw : CallW R s args (cn own) (yM b).cls d (yM b) (cM b) (mlM b) (rtM b) (wM b) (rmM d' M M') (M'.1.2.2.2.1 - M.1.2.2.2.1) (M'.1.2.2.2.2 - M.1.2.2.2.2) As.length :=
      ⟨callB_of As.length hts (wM_in hj) rfl rfl rfl (hts _ (posOK_mem hpi)) (hts _ (posOK_mem hpl)) ⟨mh1, mh2, hpar⟩ ⟨room.2.1, room.2.2 mml⟩, hts _ (posOK_mem hp2), hts _ (posOK_mem hps)⟩
    have hcell : ∃ cellB : Cell, H[ad (rtag b) i]? = some cellB ∧ cellB.vm.isStatics = false ∧ s.vm.findClass (yM b).cls = some cellB.cls := by
      have hv := hvas _ List.mem_cons_self
      rw [mcls]
      unfold rtag at hv ⊢
      rcases how with how | how
      · have hn9 : ¬ owM b = 9 := by omega
        rw [if_neg hn9] at hv ⊢
        have hm : (owM b, i) ∈ dir := hR.ro hv (by simp [isW, how])
        obtain ⟨q0, hq0, he⟩ := wl_at (cA := cA) (ad := ad) (m := M) hm
        rw [ent_obj how] at he
        exact va_recv h1 hR.1 (vw_at how) he
      · rw [if_pos how] at hv ⊢
        have hr := hR.nro hv (by omega)
        have hi : i < 12 := by rcases hr with hr | hr <;> (dsimp only at hr; omega)
        rw [hro 31 i (by omega) (by omega), how]
        obtain ⟨cell, q1, q2, q3, -⟩ := (h12 i hi).1.kept hS.2.1
        exact ⟨cell, q1, q2, q3⟩
    have hcv : cv ad ov (aR (rtag b) i) = .ref (ad (rtag b) i) := cv_ne (by unfold rtag; split <;> omega)
    have e1 : ((aR (rtag b) i :: As).map (cv ad ov)).reverse ++ rest.map (cv ad ov) = (As.map (cv ad ov)).reverse ++ .ref (ad (rtag b) i) :: rest.map (cv ad ov) := by
      rw [List.map_cons, List.reverse_cons, hcv, List.append_assoc]
      rfl
    have e2 : ((aR (rtag b) i :: As).map (cv ad ov)).toArray = (Value.ref (ad (rtag b) i) :: As.map (cv ad ov)).toArray := by rw [List.map_cons, hcv]
    rw [e1]
    rw [e2] at hPU
    exact c_back rfl rfl I0 hvr hro' hm1 hm2 (va_runV (As := As.map (cv ad ov)) ⟨hx, hb, hcl, hown, hts⟩ hM hcw ⟨PcM.blind, hcell, hPU⟩ rfl (by rw [List.length_map]) hL.1 rfl (lv_room (by omega)) hd hfit) K'
  · -- a static call
    obtain ⟨pl, p2, ps, pi, hmo, hnp, hob, -⟩ := mlE_of hml0
    simp only [mlOK, Bool.and_eq_true, decide_eq_true_eq] at hmo
    obtain ⟨⟨hj, hpi⟩, ⟨hpl, hp2⟩, hpd⟩ := hmo
    obtain ⟨mcls, mml, mpn, mh1, mh2⟩ := miD_of hj
    have hpd2 : (parseMethodDescriptor (yM b).desc).map (fun d => d.parameters.length) = some as.length := by rw [hpd, hlen, hnp]
    have hcb := callB_of as.length hts (wM_in hj) (own := cn own) (index := d) (R := R) (mc := M'.1.2.2.2.1 - M.1.2.2.2.1) (ms := M'.1.2.2.2.2 - M.1.2.2.2.2) (rm := rmM d' M M') rfl rfl rfl (hts _ (posOK_mem hpi)) (hts _ (posOK_mem hpl)) ⟨mh1, mh2, hpd2⟩ ⟨room.2.1, room.2.2 mml⟩
    exact static (n := as.length) (fun sig hq => by rw [hq] at hpd2; exact (Option.some.inj hpd2).symm) rfl (Or.inr hcb) (hts _ (posOK_mem hp2)) hd
  · -- a nest mate's static
    obtain ⟨pl, p2, ps, pi, hmo, hnp, hob, hnn⟩ := mlE_of hml0
    simp only [mlOK, Bool.and_eq_true, decide_eq_true_eq] at hmo
    obtain ⟨⟨hj, hpi⟩, ⟨hpl, hp2⟩, hpd⟩ := hmo
    obtain ⟨mcls, mml, mpn, mh1, mh2⟩ := miD_of hj
    obtain ⟨e0, he0, heq⟩ := hnn (by omega)
    obtain ⟨q1, q2, q3, q4⟩ := e0
    simp only [Prod.mk.injEq] at heq
    obtain ⟨rfl, rfl, rfl⟩ := heq
    have hpd2 : (parseMethodDescriptor (yM q3).desc).map (fun d => d.parameters.length) = some as.length := by rw [hpd, hlen, hnp]
    have hcb := va_cnB as.length hts (wM_in hj) (R := R) (mc := M'.1.2.2.2.1 - M.1.2.2.2.1) (ms := M'.1.2.2.2.2 - M.1.2.2.2.2) (rm := rmM d' M M') rfl rfl rfl (h2 _ he0) (hts _ (posOK_mem hpi)) ⟨mh1, mh2, hpd2⟩ ⟨room.2.1, room.2.2 mml⟩
    exact static (n := as.length) (fun sig hq => by rw [hq] at hpd2; exact (Option.some.inj hpd2).symm) rfl (Or.inl hcb) (hts _ (posOK_mem hp2)) hd
  · -- a constructor
    obtain ⟨pl, p2, ps, pi, hmo, hnp, hob, -⟩ := mlE_of hml0
    have hob1 : (npj b).2 = 1 := by simpa using hob
    obtain ⟨i, As, rfl⟩ := hobj hob1
    simp only [mlOK, Bool.and_eq_true, decide_eq_true_eq] at hmo
    obtain ⟨⟨hj, hpi⟩, ⟨⟨⟨⟨how, hrt⟩, hnm⟩, hpl⟩, hp2⟩, hpd⟩ := hmo
    obtain ⟨mcls, mml, mpn, mh1, mh2⟩ := miD_of hj
    have hpar : (parseMethodDescriptor (yM b).desc).map (fun d => d.parameters.length) = some As.length := by
      rw [List.length_cons, hnp] at hlen
      cases hq : parseMethodDescriptor (yM b).desc with
      | none => rw [hq] at hpd; cases hpd
      | some sig =>
        rw [hq] at hpd
        have : sig.parameters.length + 1 = a := Option.some.inj hpd
        show some sig.parameters.length = _
        congr 1
        omega
    have hww : wM b = Cond.code (yM b) (cM b) (mlM b) none :: WSg := by unfold wM; rw [hrt]
    have hcb := callB_of As.length hts (wM_in hj) (own := cn own) (index := d) (R := R) (mc := M'.1.2.2.2.1 - M.1.2.2.2.1) (ms := M'.1.2.2.2.2 - M.1.2.2.2.2) (rm := rmM d' M M') hww rfl rfl (hts _ (posOK_mem hpi)) (hts _ (posOK_mem hpl)) ⟨mh1, mh2, hpar⟩ ⟨room.2.1, room.2.2 mml⟩
    have hcv : cv ad ov (aR (rtag b) i) = .ref (ad (rtag b) i) := cv_ne (by unfold rtag; split <;> omega)
    have e1 : ((aR (rtag b) i :: As).map (cv ad ov)).reverse ++ rest.map (cv ad ov) = (As.map (cv ad ov)).reverse ++ .ref (ad (rtag b) i) :: rest.map (cv ad ov) := by
      rw [List.map_cons, List.reverse_cons, hcv, List.append_assoc]
      rfl
    have e2 : ((aR (rtag b) i :: As).map (cv ad ov)).toArray = (Value.ref (ad (rtag b) i) :: As.map (cv ad ov)).toArray := by rw [List.map_cons, hcv]
    rw [e1]
    rw [e2] at hPU
    exact c_back rfl rfl I0 hvr hro' hm1 hm2 (va_runI (As := As.map (cv ad ov)) ⟨hx, hb, hcl, hown, hts⟩ hM ⟨hcb, hnm, hts _ (posOK_mem hp2)⟩ ⟨PcM.blind, hPU⟩ rfl (by rw [List.length_map]) hL.1 rfl (lv_room (by omega)) hd hfit) K'
  · -- a nest mate's constructor
    obtain ⟨pl, p2, ps, pi, hmo, hnp, hob, hnn⟩ := mlE_of hml0
    have hob1 : (npj b).2 = 1 := by simpa using hob
    obtain ⟨i, As, rfl⟩ := hobj hob1
    simp only [mlOK, Bool.and_eq_true, decide_eq_true_eq] at hmo
    obtain ⟨⟨hj, hpi⟩, ⟨⟨⟨⟨how, hrt⟩, hnm⟩, hpl⟩, hp2⟩, hpd⟩ := hmo
    obtain ⟨mcls, mml, mpn, mh1, mh2⟩ := miD_of hj
    obtain ⟨e0, he0, heq⟩ := hnn (by omega)
    obtain ⟨q1, q2, q3, q4⟩ := e0
    simp only [Prod.mk.injEq] at heq
    obtain ⟨rfl, rfl, rfl⟩ := heq
    have hpar : (parseMethodDescriptor (yM q3).desc).map (fun d => d.parameters.length) = some As.length := by
      rw [List.length_cons, hnp] at hlen
      cases hq : parseMethodDescriptor (yM q3).desc with
      | none => rw [hq] at hpd; cases hpd
      | some sig =>
        rw [hq] at hpd
        have : sig.parameters.length + 1 = a := Option.some.inj hpd
        show some sig.parameters.length = _
        congr 1
        omega
    have hww : wM q3 = Cond.code (yM q3) (cM q3) (mlM q3) none :: WSg := by unfold wM; rw [hrt]
    have hcb := va_cnB As.length hts (wM_in hj) (R := R) (mc := M'.1.2.2.2.1 - M.1.2.2.2.1) (ms := M'.1.2.2.2.2 - M.1.2.2.2.2) (rm := rmM d' M M') hww rfl rfl (h2 _ he0) (hts _ (posOK_mem hpi)) ⟨mh1, mh2, hpar⟩ ⟨room.2.1, room.2.2 mml⟩
    have hcv : cv ad ov (aR (rtag q3) i) = .ref (ad (rtag q3) i) := cv_ne (by unfold rtag; split <;> omega)
    have e1 : ((aR (rtag q3) i :: As).map (cv ad ov)).reverse ++ rest.map (cv ad ov) = (As.map (cv ad ov)).reverse ++ .ref (ad (rtag q3) i) :: rest.map (cv ad ov) := by
      rw [List.map_cons, List.reverse_cons, hcv, List.append_assoc]
      rfl
    have e2 : ((aR (rtag q3) i :: As).map (cv ad ov)).toArray = (Value.ref (ad (rtag q3) i) :: As.map (cv ad ov)).toArray := by rw [List.map_cons, hcv]
    rw [e1]
    rw [e2] at hPU
    exact c_back rfl rfl I0 hvr hro' hm1 hm2 (va_runIN (As := As.map (cv ad ov)) ⟨hx, hb, hcl, hown, hts⟩ hM ⟨hcb, hnm, hts _ (posOK_mem hp2)⟩ ⟨PcM.blind, hPU⟩ rfl (by rw [List.length_map]) hL.1 rfl (lv_room (by omega)) hd hfit) K'

end CST
