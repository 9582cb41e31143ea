/-! ONE INSTRUCTION, what makes: new objects and rows; and the one store of references into rows -/
theorem adq_ext {dir dir' : List (Nat × Nat)} {ad ad' : Nat → Nat → Nat} (E : ∀ q ∈ dir, ad' q.1 q.2 = ad q.1 q.2) {x : Option (Nat × Nat)} (h : ∀ q, x = some q → q ∈ dir) : x.map (adq ad') = x.map (adq ad) := by
  cases x with
  | none => rfl
  | some q =>
    show some (ad' q.1 q.2) = some (ad q.1 q.2)
    rw [E q (h q rfl)]
theorem ent_ext {cA : Nat → ClassId} {dir : List (Nat × Nat)} {ad ad' : Nat → Nat → Nat} {M : Mem} {c i : Nat} (E : ∀ q ∈ dir, ad' q.1 q.2 = ad q.1 q.2) (h : ∀ k q, (c < 8 ∨ k < M.1.2.1 c i) → M.1.2.2.1 c i k = some q → q ∈ dir) : ent cA ad' M c i = ent cA ad M c i := by
  unfold ent
  by_cases hc : c < 8
  · have hf : fsL ad' M c i = fsL ad M c i := by
      unfold fsL
      apply List.map_congr_left
      intro k _
      unfold fV
      rw [adq_ext (dir' := dir) E (fun q => h k q (Or.inl hc))]
    rw [if_pos hc, if_pos hc, hf]
  · have hg : (fun j => (rfb M c i j).map (adq ad')) = (fun j => (rfb M c i j).map (adq ad)) := by
      funext j
      refine adq_ext (dir' := dir) E (fun q hq => ?_)
      unfold rfb at hq
      by_cases hj : j < M.1.2.1 c i
      · rw [if_pos hj] at hq; exact h j q (Or.inr hj) hq
      · rw [if_neg hj] at hq; cases hq
    rw [if_neg hc, if_neg hc, hg]
/-- the memory after a making: new cells behind the old ones -/
theorem Rep.grow {D : va_G} {cA : Nat → ClassId} {ad ad' : Nat → Nat → Nat} {dir : List (Nat × Nat)} {B : Nat} {M M' : Mem} {H H' : Heap} (h : Rep D cA ad dir B M H) (news : List (Nat × Nat))
    (hnew : ∀ q ∈ news, isW q.1 = true ∧ M.1.1 q.1 ≤ q.2) (had : ∀ q ∈ dir, q ∉ news → ad' q.1 q.2 = ad q.1 q.2) (had2 : ∀ c i, 30 ≤ c → c ≤ 34 → ad' c i = ad c i)
    (hs : ∀ q ∈ dir, q ∉ news → isW q.1 = true → M'.2.1 q.1 q.2 = M.2.1 q.1 q.2 ∧ M'.2.2 q.1 q.2 = M.2.2 q.1 q.2 ∧ M'.1.2.2.1 q.1 q.2 = M.1.2.2.1 q.1 q.2 ∧ M'.1.2.1 q.1 q.2 = M.1.2.1 q.1 q.2)
    (hc1 : ∀ c i, i < M'.1.1 c → i < M.1.1 c ∨ (c, i) ∈ news) (hc2 : ∀ q ∈ news, q.2 < M'.1.1 q.1) (hc3 : ∀ c, M.1.1 c ≤ M'.1.1 c) (hrf : ∀ q ∈ news, ∀ k z, M'.1.2.2.1 q.1 q.2 k = some z → z ∈ dir ++ news)
    (hP : va_P D vwCl (wl cA ad M dir ++ wl cA ad' M' news) H') (hD : va_D (fun q => B ≤ q) (wl cA ad M dir ++ wl cA ad' M' news)) : Rep D cA ad' (dir ++ news) B M' H' ∧ Ext dir (dir ++ news) ad ad' := by
  obtain ⟨r1, r2, r3, r4, r5, r6⟩ := h
  have hdn : ∀ q ∈ dir, q ∉ news := fun q hq hn => by
    have h1 := r5 q.1 q.2 hq
    have h2 := (hnew q hn).2
    omega
  have E : ∀ q ∈ dir, ad' q.1 q.2 = ad q.1 q.2 := fun q hq => had q hq (hdn q hq)
  have hw : wl cA ad' M' (dir ++ news) = wl cA ad M dir ++ wl cA ad' M' news := by
    unfold wl
    rw [List.map_append]
    congr 1
    apply List.map_congr_left
    intro q hq
    obtain ⟨s1, s2, s3, s4⟩ := hs q hq (hdn q hq) (r3 q hq)
    rw [E q hq, ent_congr s1 s2 s3 s4, ent_ext E (fun k z hb hz => r6 q.1 q.2 k z hq hb hz)]
  refine ⟨⟨by rw [hw]; exact hP, by rw [hw]; exact hD, fun q hq => ?_, fun c i hcw hi => ?_, fun c i hq => ?_, fun c i k z hq hb hz => ?_⟩, fun q hq => ⟨List.mem_append_left _ hq, E q hq⟩, had2⟩
  · rcases List.mem_append.mp hq with hq | hq
    · exact r3 q hq
    · exact (hnew q hq).1
  · rcases hc1 c i hi with g | g
    · exact List.mem_append_left _ (r4 c i hcw g)
    · exact List.mem_append_right _ g
  · rcases List.mem_append.mp hq with hq | hq
    · exact Nat.lt_of_lt_of_le (r5 c i hq) (hc3 c)
    · exact hc2 _ hq
  · rcases List.mem_append.mp hq with hq | hq
    · rw [(hs (c, i) hq (hdn _ hq) (r3 _ hq)).2.2.1] at hz
      exact List.mem_append_left _ (r6 c i k z hq (by rw [(hs (c, i) hq (hdn _ hq) (r3 _ hq)).2.2.2] at hb; exact hb) hz)
    · exact hrf _ hq k z hz
theorem RO.same {nS : Nat} {xs : Nat → Int32} {M M' : Mem} (h : ROm nS xs M) (hs : ∀ c i, 30 ≤ c → c < 40 → M'.2.1 c i = M.2.1 c i ∧ M'.1.2.2.1 c i = M.1.2.2.1 c i ∧ M'.1.2.1 c i = M.1.2.1 c i) : ROm nS xs M' := by
  obtain ⟨h1, h2, h3, h4, h5⟩ := h
  refine ⟨fun i hi => ⟨?_, fun j => ?_, ?_, ?_⟩, ?_, fun j => ?_, ?_, fun j => ?_⟩
  · rw [(hs 30 i (by omega) (by omega)).2.2]; exact (h1 i hi).1
  · rw [(hs 30 i (by omega) (by omega)).1]; exact (h1 i hi).2.1 j
  · rw [(hs 31 i (by omega) (by omega)).1]; exact (h1 i hi).2.2.1
  · rw [(hs 31 i (by omega) (by omega)).2.1]; exact (h1 i hi).2.2.2
  · rw [(hs 32 0 (by omega) (by omega)).2.2]; exact h2
  · rw [(hs 32 0 (by omega) (by omega)).1]; exact h3 j
  · rw [(hs 33 0 (by omega) (by omega)).2.2]; exact h4
  · rw [(hs 33 0 (by omega) (by omega)).1]; exact h5 j
def dfL (a : Nat) : List Value := (List.range (NF a)).map (fun k => if sk a k = 4 then Value.null else .int 0)
theorem dfL_all : (List.range 8).all (fun c => (List.range (NF c)).all (fun k => decide (defaultValue (tyT c k) = vp_V (dfL c) k))) = true := by decide +kernel
theorem dfL_ok {c k : Nat} (hc : c < 8) (hk : k < NF c) : defaultValue (tyT c k) = vp_V (dfL c) k := of_decide_eq_true (List.all_eq_true.mp (List.all_eq_true.mp dfL_all c (List.mem_range.mpr hc)) k (List.mem_range.mpr hk))
theorem skL_len {c : Nat} (hc : c < 8) : (skL.getD c []).length = NF c := by
  match c, hc with
  | 0, _ => rfl
  | 1, _ => rfl
  | 2, _ => rfl
  | 3, _ => rfl
  | 4, _ => rfl
  | 5, _ => rfl
  | 6, _ => rfl
  | 7, _ => rfl
  | n + 8, h => exact absurd h (by omega)
theorem inst_w : (List.range 8).all (fun c => decide (lw_tbl[[92, 244, 196, 226, 126, 83, 75, 931].getD c 0]? = some (.instantiable (cn c) (NF c))) && goodWord (.instantiable (cn c) (NF c))) = true := by decide +kernel
theorem init_w : (List.range 8).all (fun c => (List.range 16).any (fun i => posOK (58 + i) (.initialized (cn c)))) = true := by decide +kernel
theorem inst_in {c : Nat} (hc : c < 8) : Cond.instantiable (cn c) (NF c) ∈ WSg := posOK_mem (List.all_eq_true.mp inst_w c (List.mem_range.mpr hc))
theorem init_in {c : Nat} (hc : c < 8) : Cond.initialized (cn c) ∈ WSg := by
  obtain ⟨i, -, h⟩ := List.any_eq_true.mp (List.all_eq_true.mp init_w c (List.mem_range.mpr hc))
  exact posOK_mem h
theorem arrW : (posOK 125 (.arrayClass .int) && posOK 262 (.arrayClass .long)) = true := by decide +kernel
theorem arrI_in : Cond.arrayClass .int ∈ WSg := by
  have h := arrW
  simp only [Bool.and_eq_true] at h
  exact posOK_mem h.1
theorem arrJ_in : Cond.arrayClass .long ∈ WSg := by
  have h := arrW
  simp only [Bool.and_eq_true] at h
  exact posOK_mem h.2
theorem ra_eq {U : State} {c1 c2 : ClassId} {ty : FieldType} (h1 : va_RA U c1 ty) (h2 : va_RA U c2 ty) : c1 = c2 := by
  cases ty with
  | object C =>
    obtain ⟨-, -, -, -, -, e1⟩ := h1
    obtain ⟨-, -, -, -, -, e2⟩ := h2
    exact Option.some.inj (e1.symm.trans e2)
  | _ =>
    have e1 : U.vm.findClass _ = some c1 := h1
    have e2 : U.vm.findClass _ = some c2 := h2
    exact Option.some.inj (e1.symm.trans e2)
/-- the class of a row that came is the one known -/
theorem va_K.same {D : va_G} {cA : Nat → ClassId} {U : State} {c1 : ClassId} {ty : FieldType} (hK : va_K D vwCl (tysL cA ++ [(c1, ty)]) U) {t0 : Nat} {c0 : ClassId} (ht : (tysL cA)[t0]? = some (c0, ty)) : c1 = c0 := by
  have hl : t0 < (tysL cA).length := (List.getElem?_eq_some_iff.mp ht).1
  have h1 := (hK.2 6 (c1, ty) rfl).2
  have h2 := (hK.2 t0 (c0, ty) (by rw [List.getElem?_append_left hl]; exact ht)).2
  exact ra_eq h1 h2

section MST
variable {p : Program} {l : Launch} {e : Env} {R : Room} {s : State} {m : MethodId} {args : Array Value} {below : List Frame} {meth : Method} {c : Code} {Q : State → Prop}
variable {D : va_G} {cA : Nat → ClassId} {ov : Value} {aR0 : Nat → Nat → Nat} {B nS : Nat} {xs : Nat → Int32} {cc : ByteArray} {nL own a0 b0 : Nat}
variable {al : Bool} {cs : CS} {pc : Nat} {L : LV} {S : List AV} {M : Mem} {k : Nat → LV → List AV → Mem → Option Out} {out : Out}
variable {dir : List (Nat × Nat)} {ad : Nat → Nat → Nat} {H : Heap} {locs : List Loc} {ls : Array Slot} {len a b d : Nat} {v : Int32} {w : Int64} {brs : List (Int32 × Nat)}

set_option maxHeartbeats 1000000 in
theorem s_new {z : Nat} (A : KA R a0 b0 al M k out) (C : Cx p s m args c cc nL own D cA ov aR0 B nS xs) (I : Inv s nL D cA ov aR0 B nS xs a0 b0 dir ad M H locs ls L S) (K : KK p l e R s m args below meth c Q nL D cA ov aR0 B nS xs a0 b0 dir ad al M k out)
    (hok : okF own nL cc pc (.new z, len, (a, b, d), v, w, brs) = true) (h : astep al cs (.new z, len, (a, b, d), v, w, brs) pc L S M k = some out) : W p l e R s m args below meth c H locs (M.1.2.2.2.1 - a0) (M.1.2.2.2.2 - b0) Q (F0 m pc ls (S.map (cv ad ov))) := by
  obtain ⟨hx, hb, hml, hown, hts, hSF, hB⟩ := C
  obtain ⟨hR, hRO, hS, hL, hvS, hvL, hro, hac, has⟩ := I
  obtain ⟨h1, h2, ⟨h3, h4, h5, h6⟩, h7, h8, h9, h10, h11, h12, h13, ho⟩ := hSF
  simp only [okF, nOK, okE, okD, Bool.and_eq_true, decide_eq_true_eq, Nat.beq_eq, Bool.true_and] at hok
  obtain ⟨⟨hd, rfl⟩, hf⟩ := hok
  let M' : Mem := ((fun c => if c = a then M.1.1 a + 1 else M.1.1 c, M.1.2.1, (fun c i q => if c = a ∧ i = M.1.1 a then none else M.1.2.2.1 c i q), M.1.2.2.2.1 + 1, M.1.2.2.2.2 + (skL.getD a []).length), (fun c i q => if c = a ∧ i = M.1.1 a then 0 else M.2.1 c i q, M.2.2))
  have h : (bif al && Nat.blt a 8 then k (pc + 3) L (aR a (M.1.1 a) :: S) M' else none) = some out := h
  cases hc : al && Nat.blt a 8 with
  | false => rw [hc] at h; exact ons h
  | true =>
  rw [hc] at h
  simp only [Bool.and_eq_true, Nat.blt_eq] at hc
  have ha := hc.2
  have hal := hc.1
  have hwa : isW a = true := by simp [isW, ha]
  have eA : M'.1.2.2.2.1 = M.1.2.2.2.1 + 1 := rfl
  have eB : M'.1.2.2.2.2 = M.1.2.2.2.2 + NF a := by
    show M.1.2.2.2.2 + (skL.getD a []).length = _
    rw [skL_len ha]
  have hA := A _ _ _ _ h (Rel.mk2 hal (by rw [eA]; omega) (by rw [eB]; omega))
  refine va_new (D := D) (ci := a) (fs := dfL a) (C := cn a) (T := TT a) (N := NF a) hx hb hts (uws_in ha) (tyT a) (tyT_ok ha) hown (hts _ (nlE_w hf)) (hts _ (inst_in ha)) (hts _ (init_in ha)) h1 hR.1 hR.2.1 hS (fun q hq => Nat.le_trans hB hq) (vw_at ha) (fun j hj => dfL_ok ha hj) (by rw [eA] at hA; omega) (by rw [eB] at hA; omega) hd (fun q H1 hP1 hD1 hS1 => ?_)
  let ad' : Nat → Nat → Nat := fun c i => if c = a ∧ i = M.1.1 a then q else ad c i
  have hnn : ∀ q : Nat × Nat, q ∈ [(a, M.1.1 a)] ↔ q = (a, M.1.1 a) := fun q => List.mem_singleton
  have hne : ∀ z : Nat × Nat, z ∉ [(a, M.1.1 a)] → ¬ (z.1 = a ∧ z.2 = M.1.1 a) := fun z hz e => hz ((hnn z).mpr (Prod.ext e.1 e.2))
  have he : ent cA ad' M' a (M.1.1 a) = .inr (a, dfL a) := by
    rw [ent_obj ha]
    congr 2
    unfold fsL dfL
    apply List.map_congr_left
    intro j _
    unfold fV
    show (if sk a j = 4 then va_rf ((if a = a ∧ M.1.1 a = M.1.1 a then none else M.1.2.2.1 a (M.1.1 a) j).map (adq ad')) else Value.int (if a = a ∧ M.1.1 a = M.1.1 a then 0 else M.2.1 a (M.1.1 a) j)) = _
    simp [va_rf]
  have hq' : ad' a (M.1.1 a) = q := if_pos ⟨rfl, rfl⟩
  have hwn : wl cA ad' M' [(a, M.1.1 a)] = [(q, .inr (a, dfL a))] := by
    show [(ad' a (M.1.1 a), ent cA ad' M' a (M.1.1 a))] = _
    rw [he, hq']
  obtain ⟨hR', E⟩ := hR.grow (ad' := ad') (M' := M') (H' := H1) [(a, M.1.1 a)] (fun z hz => by rw [(hnn z).mp hz]; exact ⟨by simp [isW, ha], Nat.le_refl _⟩) (fun z _ hz => if_neg (hne z hz)) (fun c i g1 g2 => if_neg (fun e => by have := e.1; have := isW_cases hwa; omega))
    (fun z _ hz _ => ⟨funext fun j => if_neg (hne z hz), rfl, funext fun j => if_neg (hne z hz), rfl⟩)
    (fun c i hi => by
      have hi : i < (if c = a then M.1.1 a + 1 else M.1.1 c) := hi
      split at hi
      · rename_i e
        subst e
        by_cases e2 : i = M.1.1 c
        · exact Or.inr ((hnn _).mpr (by rw [e2]))
        · exact Or.inl (by omega)
      · exact Or.inl hi)
    (fun z hz => by
      rw [(hnn z).mp hz]
      show M.1.1 a < (if a = a then M.1.1 a + 1 else M.1.1 a)
      rw [if_pos rfl]; omega)
    (fun c => by
      show M.1.1 c ≤ (if c = a then M.1.1 a + 1 else M.1.1 c)
      split
      · rename_i e; subst e; omega
      · exact Nat.le_refl _)
    (fun z hz j y hy => by
      rw [(hnn z).mp hz] at hy
      have hy : (if a = a ∧ M.1.1 a = M.1.1 a then none else M.1.2.2.1 a (M.1.1 a) j) = some y := hy
      rw [if_pos ⟨rfl, rfl⟩] at hy
      cases hy)
    (by rw [hwn]; exact hP1) (by rw [hwn]; exact hD1)
  have hro' : ROm nS xs M' := RO.same hRO (fun c i g1 g2 => by
    have hne2 : ¬ (c = a ∧ i = M.1.1 a) := fun e => by omega
    exact ⟨funext fun j => if_neg hne2, funext fun j => if_neg hne2, rfl⟩)
  have kk := K _ _ _ _ h (Rel.mk2 hal (by rw [eA]; omega) (by rw [eB]; omega)) (dir ++ [(a, M.1.1 a)]) ad' H1 locs ls E ⟨hR', hro', hS1, hL.ext E hvL, vS1 (Or.inl (List.mem_append_right _ ((hnn _).mpr rfl))) (fun v hv => (hvS v hv).ext E), fun i v hv => (hvL i v hv).ext E, fun c i g1 g2 => (E.2 c i g1 g2).trans (hro c i g1 g2), by rw [eA]; omega, by rw [eB]; omega⟩
  have e1 : M'.1.2.2.2.1 - a0 = M.1.2.2.2.1 - a0 + 1 := by rw [eA]; omega
  have e2 : M'.1.2.2.2.2 - b0 = M.1.2.2.2.2 - b0 + NF a := by rw [eB]; omega
  rw [e1, e2] at kk
  have e3 : (aR a (M.1.1 a) :: S).map (cv ad' ov) = .ref q :: S.map (cv ad ov) := by
    show cv ad' ov (.inr (some (a, M.1.1 a))) :: S.map (cv ad' ov) = _
    rw [cv_ne (by omega), hq', cv_exts E hvS]
  rw [e3] at kk
  exact kk

theorem inB_n {n : Int32} (h : inB n 1000 = true) : ¬ n < 0 ∧ n.toNatClampNeg < 1000 := by
  unfold inB at h
  simp only [Bool.and_eq_true, decide_eq_true_eq] at h
  exact ⟨Int32.not_lt.mpr h.1, h.2⟩

set_option maxHeartbeats 1000000 in
theorem s_newarray0 (A : KA R a0 b0 al M k out) (hna : isIA a = true) (C : Cx p s m args c cc nL own D cA ov aR0 B nS xs) (I : Inv s nL D cA ov aR0 B nS xs a0 b0 dir ad M H locs ls L S) (K : KK p l e R s m args below meth c Q nL D cA ov aR0 B nS xs a0 b0 dir ad al M k out)
    (hok : okF own nL cc pc (.newarray .int, len, (a, b, d), v, w, brs) = true) (h : astep al cs (.newarray .int, len, (a, b, d), v, w, brs) pc L S M k = some out) : W p l e R s m args below meth c H locs (M.1.2.2.2.1 - a0) (M.1.2.2.2.2 - b0) Q (F0 m pc ls (S.map (cv ad ov))) := by
  obtain ⟨hx, hb, hml, hown, hts, hSF, hB⟩ := C
  obtain ⟨hR, hRO, hS, hL, hvS, hvL, hro, hac, has⟩ := I
  obtain ⟨h1, h2, ⟨h3, h4, h5, h6⟩, h7, h8, h9, h10, h11, h12, h13, ho⟩ := hSF
  have hd : decode cc pc = .ok (.newarray .int, 2) ∧ len = 2 := by
    simp only [okF, nOK, okE, okD, Bool.and_eq_true, decide_eq_true_eq, Nat.beq_eq, Bool.true_and] at hok
    exact hok.1
  obtain ⟨hd, rfl⟩ := hd
  rcases S with _ | ⟨(n | n) | n, S⟩ <;> try exact ons h
  let M' : Mem := ((fun c => if c = a then M.1.1 a + 1 else M.1.1 c, (fun c i => if c = a ∧ i = M.1.1 a then n.toNatClampNeg else M.1.2.1 c i), (fun c i q => if c = a ∧ i = M.1.1 a then none else M.1.2.2.1 c i q), M.1.2.2.2.1 + 1, M.1.2.2.2.2 + n.toNatClampNeg), ((fun c i q => if c = a ∧ i = M.1.1 a then 0 else M.2.1 c i q), (fun c i q => if c = a ∧ i = M.1.1 a then 0 else M.2.2 c i q)))
  have h : (bif al && (isIA a || isLA a) && inB n 1000 then k (pc + 2) L (aR a (M.1.1 a) :: S) M' else none) = some out := h
  cases hc : al && (isIA a || isLA a) && inB n 1000 with
  | false => rw [hc] at h; exact ons h
  | true =>
  rw [hc] at h
  simp only [Bool.and_eq_true] at hc
  have hc1 := hna
  have hwa : isW a = true := by simp [isW, hna]
  have hal := hc.1.1
  obtain ⟨hn, hn1⟩ := inB_n hc.2
  have eA : M'.1.2.2.2.1 = M.1.2.2.2.1 + 1 := rfl
  have eB : M'.1.2.2.2.2 = M.1.2.2.2.2 + n.toNatClampNeg := rfl
  have hA := A _ _ _ _ h (Rel.mk2 hal (by rw [eA]; omega) (by rw [eB]; omega))
  refine va_newa (atype := .int) (ty := .int) (a0 := (n.toNatClampNeg, Sum.inl (fun _ => (0 : Int32)))) hx hb (hts _ arrI_in) rfl h1 hR.1 hR.2.1 hS (fun q hq => Nat.le_trans hB hq) (fun cA => rfl) hn rfl (by show n.toNatClampNeg * 4 ≤ _; omega) (by rw [eA] at hA; omega) (by rw [eB] at hA; omega) hd (fun q cA1 H1 hK1 hP1 hD1 hS1 => ?_)
  have ec : cA1 = cA 0 := hK1.same (t0 := 0) rfl
  subst ec
  let ad' : Nat → Nat → Nat := fun c i => if c = a ∧ i = M.1.1 a then q else ad c i
  have hnn : ∀ q : Nat × Nat, q ∈ [(a, M.1.1 a)] ↔ q = (a, M.1.1 a) := fun q => List.mem_singleton
  have hne : ∀ z : Nat × Nat, z ∉ [(a, M.1.1 a)] → ¬ (z.1 = a ∧ z.2 = M.1.1 a) := fun z hz e => hz ((hnn z).mpr (Prod.ext e.1 e.2))
  have hq' : ad' a (M.1.1 a) = q := if_pos ⟨rfl, rfl⟩
  have he : ent cA ad' M' a (M.1.1 a) = .inl (cA 0, n.toNatClampNeg, .inl (fun _ => 0)) := by
    rw [ent_ia hc1]
    have f1 : M'.1.2.1 a (M.1.1 a) = n.toNatClampNeg := if_pos ⟨rfl, rfl⟩
    have f2 : M'.2.1 a (M.1.1 a) = fun _ => 0 := funext fun j => if_pos ⟨rfl, rfl⟩
    rw [f1, f2]
  have hwn : wl cA ad' M' [(a, M.1.1 a)] = [(q, .inl (cA 0, n.toNatClampNeg, .inl (fun _ => 0)))] := by
    show [(ad' a (M.1.1 a), ent cA ad' M' a (M.1.1 a))] = _
    rw [he, hq']
  obtain ⟨hR', E⟩ := hR.grow (ad' := ad') (M' := M') (H' := H1) [(a, M.1.1 a)] (fun z hz => by rw [(hnn z).mp hz]; exact ⟨hwa, Nat.le_refl _⟩) (fun z _ hz => if_neg (hne z hz)) (fun c i g1 g2 => if_neg (fun e => by have := e.1; have := isW_cases hwa; omega))
    (fun z _ hz _ => ⟨funext fun j => if_neg (hne z hz), funext fun j => if_neg (hne z hz), funext fun j => if_neg (hne z hz), if_neg (hne z hz)⟩)
    (fun c i hi => by
      have hi : i < (if c = a then M.1.1 a + 1 else M.1.1 c) := hi
      split at hi
      · rename_i e
        subst e
        by_cases e2 : i = M.1.1 c
        · exact Or.inr ((hnn _).mpr (by rw [e2]))
        · exact Or.inl (by omega)
      · exact Or.inl hi)
    (fun z hz => by
      rw [(hnn z).mp hz]
      show M.1.1 a < (if a = a then M.1.1 a + 1 else M.1.1 a)
      rw [if_pos rfl]; omega)
    (fun c => by
      show M.1.1 c ≤ (if c = a then M.1.1 a + 1 else M.1.1 c)
      split
      · rename_i e; subst e; omega
      · exact Nat.le_refl _)
    (fun z hz j y hy => by
      rw [(hnn z).mp hz] at hy
      have hy : (if a = a ∧ M.1.1 a = M.1.1 a then none else M.1.2.2.1 a (M.1.1 a) j) = some y := hy
      rw [if_pos ⟨rfl, rfl⟩] at hy
      cases hy)
    (by rw [hwn]; exact hP1) (by rw [hwn]; exact hD1)
  have hro' : ROm nS xs M' := RO.same hRO (fun c i g1 g2 => by
    have hne2 : ¬ (c = a ∧ i = M.1.1 a) := fun e => by have := isW_cases hwa; omega
    exact ⟨funext fun j => if_neg hne2, funext fun j => if_neg hne2, if_neg hne2⟩)
  have kk := K _ _ _ _ h (Rel.mk2 hal (by rw [eA]; omega) (by rw [eB]; omega)) (dir ++ [(a, M.1.1 a)]) ad' H1 locs ls E ⟨hR', hro', hS1, hL.ext E hvL, vS1 (Or.inl (List.mem_append_right _ ((hnn _).mpr rfl))) (fun v hv => ((vT1 hvS) v hv).ext E), fun i v hv => (hvL i v hv).ext E, fun c i g1 g2 => (E.2 c i g1 g2).trans (hro c i g1 g2), by rw [eA]; omega, by rw [eB]; omega⟩
  have e1 : M'.1.2.2.2.1 - a0 = M.1.2.2.2.1 - a0 + 1 := by rw [eA]; omega
  have e2 : M'.1.2.2.2.2 - b0 = M.1.2.2.2.2 - b0 + n.toNatClampNeg := by rw [eB]; omega
  rw [e1, e2] at kk
  have e3 : (aR a (M.1.1 a) :: S).map (cv ad' ov) = .ref q :: S.map (cv ad ov) := by
    show cv ad' ov (.inr (some (a, M.1.1 a))) :: S.map (cv ad' ov) = _
    rw [cv_ne (by have := isW_cases hwa; omega), hq', cv_exts E (vT1 hvS)]
  rw [e3] at kk
  exact kk

set_option maxHeartbeats 1000000 in
theorem s_newarray1 (A : KA R a0 b0 al M k out) (hna : isLA a = true) (C : Cx p s m args c cc nL own D cA ov aR0 B nS xs) (I : Inv s nL D cA ov aR0 B nS xs a0 b0 dir ad M H locs ls L S) (K : KK p l e R s m args below meth c Q nL D cA ov aR0 B nS xs a0 b0 dir ad al M k out)
    (hok : okF own nL cc pc (.newarray .long, len, (a, b, d), v, w, brs) = true) (h : astep al cs (.newarray .long, len, (a, b, d), v, w, brs) pc L S M k = some out) : W p l e R s m args below meth c H locs (M.1.2.2.2.1 - a0) (M.1.2.2.2.2 - b0) Q (F0 m pc ls (S.map (cv ad ov))) := by
  obtain ⟨hx, hb, hml, hown, hts, hSF, hB⟩ := C
  obtain ⟨hR, hRO, hS, hL, hvS, hvL, hro, hac, has⟩ := I
  obtain ⟨h1, h2, ⟨h3, h4, h5, h6⟩, h7, h8, h9, h10, h11, h12, h13, ho⟩ := hSF
  have hd : decode cc pc = .ok (.newarray .long, 2) ∧ len = 2 := by
    simp only [okF, nOK, okE, okD, Bool.and_eq_true, decide_eq_true_eq, Nat.beq_eq, Bool.true_and] at hok
    exact hok.1
  obtain ⟨hd, rfl⟩ := hd
  rcases S with _ | ⟨(n | n) | n, S⟩ <;> try exact ons h
  let M' : Mem := ((fun c => if c = a then M.1.1 a + 1 else M.1.1 c, (fun c i => if c = a ∧ i = M.1.1 a then n.toNatClampNeg else M.1.2.1 c i), (fun c i q => if c = a ∧ i = M.1.1 a then none else M.1.2.2.1 c i q), M.1.2.2.2.1 + 1, M.1.2.2.2.2 + n.toNatClampNeg), ((fun c i q => if c = a ∧ i = M.1.1 a then 0 else M.2.1 c i q), (fun c i q => if c = a ∧ i = M.1.1 a then 0 else M.2.2 c i q)))
  have h : (bif al && (isIA a || isLA a) && inB n 1000 then k (pc + 2) L (aR a (M.1.1 a) :: S) M' else none) = some out := h
  cases hc : al && (isIA a || isLA a) && inB n 1000 with
  | false => rw [hc] at h; exact ons h
  | true =>
  rw [hc] at h
  simp only [Bool.and_eq_true] at hc
  have hc1 := hna
  have hwa : isW a = true := by simp [isW, hna]
  have hal := hc.1.1
  obtain ⟨hn, hn1⟩ := inB_n hc.2
  have eA : M'.1.2.2.2.1 = M.1.2.2.2.1 + 1 := rfl
  have eB : M'.1.2.2.2.2 = M.1.2.2.2.2 + n.toNatClampNeg := rfl
  have hA := A _ _ _ _ h (Rel.mk2 hal (by rw [eA]; omega) (by rw [eB]; omega))
  refine va_newa (atype := .long) (ty := .long) (a0 := (n.toNatClampNeg, Sum.inr (Sum.inl (fun _ => (0 : Int64))))) hx hb (hts _ arrJ_in) rfl h1 hR.1 hR.2.1 hS (fun q hq => Nat.le_trans hB hq) (fun cA => rfl) hn rfl (by show n.toNatClampNeg * 8 ≤ _; omega) (by rw [eA] at hA; omega) (by rw [eB] at hA; omega) hd (fun q cA1 H1 hK1 hP1 hD1 hS1 => ?_)
  have ec : cA1 = cA 1 := hK1.same (t0 := 1) rfl
  subst ec
  let ad' : Nat → Nat → Nat := fun c i => if c = a ∧ i = M.1.1 a then q else ad c i
  have hnn : ∀ q : Nat × Nat, q ∈ [(a, M.1.1 a)] ↔ q = (a, M.1.1 a) := fun q => List.mem_singleton
  have hne : ∀ z : Nat × Nat, z ∉ [(a, M.1.1 a)] → ¬ (z.1 = a ∧ z.2 = M.1.1 a) := fun z hz e => hz ((hnn z).mpr (Prod.ext e.1 e.2))
  have hq' : ad' a (M.1.1 a) = q := if_pos ⟨rfl, rfl⟩
  have he : ent cA ad' M' a (M.1.1 a) = .inl (cA 1, n.toNatClampNeg, .inr (.inl (fun _ => 0))) := by
    rw [ent_la hc1]
    have f1 : M'.1.2.1 a (M.1.1 a) = n.toNatClampNeg := if_pos ⟨rfl, rfl⟩
    have f2 : M'.2.2 a (M.1.1 a) = fun _ => 0 := funext fun j => if_pos ⟨rfl, rfl⟩
    rw [f1, f2]
  have hwn : wl cA ad' M' [(a, M.1.1 a)] = [(q, .inl (cA 1, n.toNatClampNeg, .inr (.inl (fun _ => 0))))] := by
    show [(ad' a (M.1.1 a), ent cA ad' M' a (M.1.1 a))] = _
    rw [he, hq']
  obtain ⟨hR', E⟩ := hR.grow (ad' := ad') (M' := M') (H' := H1) [(a, M.1.1 a)] (fun z hz => by rw [(hnn z).mp hz]; exact ⟨hwa, Nat.le_refl _⟩) (fun z _ hz => if_neg (hne z hz)) (fun c i g1 g2 => if_neg (fun e => by have := e.1; have := isW_cases hwa; omega))
    (fun z _ hz _ => ⟨funext fun j => if_neg (hne z hz), funext fun j => if_neg (hne z hz), funext fun j => if_neg (hne z hz), if_neg (hne z hz)⟩)
    (fun c i hi => by
      have hi : i < (if c = a then M.1.1 a + 1 else M.1.1 c) := hi
      split at hi
      · rename_i e
        subst e
        by_cases e2 : i = M.1.1 c
        · exact Or.inr ((hnn _).mpr (by rw [e2]))
        · exact Or.inl (by omega)
      · exact Or.inl hi)
    (fun z hz => by
      rw [(hnn z).mp hz]
      show M.1.1 a < (if a = a then M.1.1 a + 1 else M.1.1 a)
      rw [if_pos rfl]; omega)
    (fun c => by
      show M.1.1 c ≤ (if c = a then M.1.1 a + 1 else M.1.1 c)
      split
      · rename_i e; subst e; omega
      · exact Nat.le_refl _)
    (fun z hz j y hy => by
      rw [(hnn z).mp hz] at hy
      have hy : (if a = a ∧ M.1.1 a = M.1.1 a then none else M.1.2.2.1 a (M.1.1 a) j) = some y := hy
      rw [if_pos ⟨rfl, rfl⟩] at hy
      cases hy)
    (by rw [hwn]; exact hP1) (by rw [hwn]; exact hD1)
  have hro' : ROm nS xs M' := RO.same hRO (fun c i g1 g2 => by
    have hne2 : ¬ (c = a ∧ i = M.1.1 a) := fun e => by have := isW_cases hwa; omega
    exact ⟨funext fun j => if_neg hne2, funext fun j => if_neg hne2, if_neg hne2⟩)
  have kk := K _ _ _ _ h (Rel.mk2 hal (by rw [eA]; omega) (by rw [eB]; omega)) (dir ++ [(a, M.1.1 a)]) ad' H1 locs ls E ⟨hR', hro', hS1, hL.ext E hvL, vS1 (Or.inl (List.mem_append_right _ ((hnn _).mpr rfl))) (fun v hv => ((vT1 hvS) v hv).ext E), fun i v hv => (hvL i v hv).ext E, fun c i g1 g2 => (E.2 c i g1 g2).trans (hro c i g1 g2), by rw [eA]; omega, by rw [eB]; omega⟩
  have e1 : M'.1.2.2.2.1 - a0 = M.1.2.2.2.1 - a0 + 1 := by rw [eA]; omega
  have e2 : M'.1.2.2.2.2 - b0 = M.1.2.2.2.2 - b0 + n.toNatClampNeg := by rw [eB]; omega
  rw [e1, e2] at kk
  have e3 : (aR a (M.1.1 a) :: S).map (cv ad' ov) = .ref q :: S.map (cv ad ov) := by
    show cv ad' ov (.inr (some (a, M.1.1 a))) :: S.map (cv ad' ov) = _
    rw [cv_ne (by have := isW_cases hwa; omega), hq', cv_exts E (vT1 hvS)]
  rw [e3] at kk
  exact kk

theorem tysL_n {cA : Nat → ClassId} {a : Nat} (h : 22 ≤ a ∧ a ≤ 24) : (tysL cA)[tyIx a]? = some (cA (tyIx a), .object (arrOf a)) := by
  have : a = 22 ∨ a = 23 ∨ a = 24 := by omega
  rcases this with rfl | rfl | rfl <;> rfl

set_option maxHeartbeats 1000000 in
theorem s_anewarray {z : Nat} (A : KA R a0 b0 al M k out) (C : Cx p s m args c cc nL own D cA ov aR0 B nS xs) (I : Inv s nL D cA ov aR0 B nS xs a0 b0 dir ad M H locs ls L S) (K : KK p l e R s m args below meth c Q nL D cA ov aR0 B nS xs a0 b0 dir ad al M k out)
    (hok : okF own nL cc pc (.anewarray z, len, (a, b, d), v, w, brs) = true) (h : astep al cs (.anewarray z, len, (a, b, d), v, w, brs) pc L S M k = some out) : W p l e R s m args below meth c H locs (M.1.2.2.2.1 - a0) (M.1.2.2.2.2 - b0) Q (F0 m pc ls (S.map (cv ad ov))) := by
  obtain ⟨hx, hb, hml, hown, hts, hSF, hB⟩ := C
  obtain ⟨hR, hRO, hS, hL, hvS, hvL, hro, hac, has⟩ := I
  obtain ⟨h1, h2, ⟨h3, h4, h5, h6⟩, h7, h8, h9, h10, h11, h12, h13, ho⟩ := hSF
  simp only [okF, nOK, okE, okD, Bool.and_eq_true, decide_eq_true_eq, Nat.beq_eq, Bool.true_and] at hok
  obtain ⟨⟨hd, rfl⟩, hf⟩ := hok
  rcases S with _ | ⟨(n | n) | n, S⟩ <;> try exact ons h
  let M' : Mem := ((fun c => if c = a then M.1.1 a + 1 else M.1.1 c, (fun c i => if c = a ∧ i = M.1.1 a then n.toNatClampNeg else M.1.2.1 c i), (fun c i q => if c = a ∧ i = M.1.1 a then none else M.1.2.2.1 c i q), M.1.2.2.2.1 + 1, M.1.2.2.2.2 + n.toNatClampNeg), M.2)
  have h : (bif al && (Nat.ble 22 a && Nat.ble a 24) && inB n 1000 then k (pc + 3) L (aR a (M.1.1 a) :: S) M' else none) = some out := h
  cases hc : al && (Nat.ble 22 a && Nat.ble a 24) && inB n 1000 with
  | false => rw [hc] at h; exact ons h
  | true =>
  rw [hc] at h
  simp only [Bool.and_eq_true, Nat.ble_eq] at hc
  have hra : isRA a = true := by simp only [isRA, Bool.and_eq_true, Nat.ble_eq]; omega
  have hwa : isW a = true := by simp [isW, hra]
  have hal := hc.1.1
  obtain ⟨hn, hn1⟩ := inB_n hc.2
  have eA : M'.1.2.2.2.1 = M.1.2.2.2.1 + 1 := rfl
  have eB : M'.1.2.2.2.2 = M.1.2.2.2.2 + n.toNatClampNeg := rfl
  have hA := A _ _ _ _ h (Rel.mk2 hal (by rw [eA]; omega) (by rw [eB]; omega))
  have hao : va_AO (arrOf a) s := by
    have : a = 22 ∨ a = 23 ∨ a = 24 := by omega
    rcases this with rfl | rfl | rfl
    · exact h3
    · exact h4
    · exact h5
  refine va_newq (C := arrOf a) hx hb hown (hts _ (nlE_w hf)) hao h1 hR.1 hR.2.1 hS (fun q hq => Nat.le_trans hB hq) hn rfl (by omega) (by rw [eA] at hA; omega) (by rw [eB] at hA; omega) hd (fun q cA1 H1 hK1 hP1 hD1 hS1 => ?_)
  have ec : cA1 = cA (tyIx a) := hK1.same (tysL_n hc.1.2)
  subst ec
  let ad' : Nat → Nat → Nat := fun c i => if c = a ∧ i = M.1.1 a then q else ad c i
  have hnn : ∀ q : Nat × Nat, q ∈ [(a, M.1.1 a)] ↔ q = (a, M.1.1 a) := fun q => List.mem_singleton
  have hne : ∀ z : Nat × Nat, z ∉ [(a, M.1.1 a)] → ¬ (z.1 = a ∧ z.2 = M.1.1 a) := fun z hz e => hz ((hnn z).mpr (Prod.ext e.1 e.2))
  have hq' : ad' a (M.1.1 a) = q := if_pos ⟨rfl, rfl⟩
  have he : ent cA ad' M' a (M.1.1 a) = .inl (cA (tyIx a), n.toNatClampNeg, .inr (.inr (.inr (.inr (fun _ => none))))) := by
    rw [ent_ra hra]
    have f1 : M'.1.2.1 a (M.1.1 a) = n.toNatClampNeg := if_pos ⟨rfl, rfl⟩
    have f2 : (fun j => (rfb M' a (M.1.1 a) j).map (adq ad')) = fun _ => none := funext fun j => by
      have e9 : M'.1.2.2.1 a (M.1.1 a) j = none := if_pos ⟨rfl, rfl⟩
      have e8 : rfb M' a (M.1.1 a) j = none := by
        unfold rfb
        rw [e9]
        by_cases hj : j < M'.1.2.1 a (M.1.1 a)
        · rw [if_pos hj]
        · rw [if_neg hj]
      show (rfb M' a (M.1.1 a) j).map (adq ad') = none
      rw [e8]
      rfl
    rw [f1, f2]
  have hwn : wl cA ad' M' [(a, M.1.1 a)] = [(q, .inl (cA (tyIx a), n.toNatClampNeg, .inr (.inr (.inr (.inr (fun _ => none))))))] := by
    show [(ad' a (M.1.1 a), ent cA ad' M' a (M.1.1 a))] = _
    rw [he, hq']
  obtain ⟨hR', E⟩ := hR.grow (ad' := ad') (M' := M') (H' := H1) [(a, M.1.1 a)] (fun z hz => by rw [(hnn z).mp hz]; exact ⟨hwa, Nat.le_refl _⟩) (fun z _ hz => if_neg (hne z hz)) (fun c i g1 g2 => if_neg (fun e => by have := e.1; have := isW_cases hwa; omega))
    (fun z _ hz _ => ⟨rfl, rfl, funext fun j => if_neg (hne z hz), if_neg (hne z hz)⟩)
    (fun c i hi => by
      have hi : i < (if c = a then M.1.1 a + 1 else M.1.1 c) := hi
      split at hi
      · rename_i e
        subst e
        by_cases e2 : i = M.1.1 c
        · exact Or.inr ((hnn _).mpr (by rw [e2]))
        · exact Or.inl (by omega)
      · exact Or.inl hi)
    (fun z hz => by
      rw [(hnn z).mp hz]
      show M.1.1 a < (if a = a then M.1.1 a + 1 else M.1.1 a)
      rw [if_pos rfl]; omega)
    (fun c => by
      show M.1.1 c ≤ (if c = a then M.1.1 a + 1 else M.1.1 c)
      split
      · rename_i e; subst e; omega
      · exact Nat.le_refl _)
    (fun z hz j y hy => by
      rw [(hnn z).mp hz] at hy
      have hy : (if a = a ∧ M.1.1 a = M.1.1 a then none else M.1.2.2.1 a (M.1.1 a) j) = some y := hy
      rw [if_pos ⟨rfl, rfl⟩] at hy
      cases hy)
    (by rw [hwn]; exact hP1) (by rw [hwn]; exact hD1)
  have hro' : ROm nS xs M' := RO.same hRO (fun c i g1 g2 => by
    have hne2 : ¬ (c = a ∧ i = M.1.1 a) := fun e => by have := isW_cases hwa; omega
    exact ⟨rfl, funext fun j => if_neg hne2, if_neg hne2⟩)
  have kk := K _ _ _ _ h (Rel.mk2 hal (by rw [eA]; omega) (by rw [eB]; omega)) (dir ++ [(a, M.1.1 a)]) ad' H1 locs ls E ⟨hR', hro', hS1, hL.ext E hvL, vS1 (Or.inl (List.mem_append_right _ ((hnn _).mpr rfl))) (fun v hv => ((vT1 hvS) v hv).ext E), fun i v hv => (hvL i v hv).ext E, fun c i g1 g2 => (E.2 c i g1 g2).trans (hro c i g1 g2), by rw [eA]; omega, by rw [eB]; omega⟩
  have e1 : M'.1.2.2.2.1 - a0 = M.1.2.2.2.1 - a0 + 1 := by rw [eA]; omega
  have e2 : M'.1.2.2.2.2 - b0 = M.1.2.2.2.2 - b0 + n.toNatClampNeg := by rw [eB]; omega
  rw [e1, e2] at kk
  have e3 : (aR a (M.1.1 a) :: S).map (cv ad' ov) = .ref q :: S.map (cv ad ov) := by
    show cv ad' ov (.inr (some (a, M.1.1 a))) :: S.map (cv ad' ov) = _
    rw [cv_ne (by have := isW_cases hwa; omega), hq', cv_exts E (vT1 hvS)]
  rw [e3] at kk
  exact kk

theorem rfb_up {M : Mem} {c i k : Nat} {x : Nat × Nat} {ad : Nat → Nat → Nat} (hk : k < M.1.2.1 c i) : (fun j => (rfb ((M.1.1, M.1.2.1, upR M.1.2.2.1 c i k (some x), M.1.2.2.2.1, M.1.2.2.2.2), M.2) c i j).map (adq ad)) = va_up (fun j => (rfb M c i j).map (adq ad)) k (some (ad x.1 x.2)) := by
  funext j
  unfold va_up
  by_cases e : j = k
  · have e9 : rfb ((M.1.1, M.1.2.1, upR M.1.2.2.1 c i k (some x), M.1.2.2.2.1, M.1.2.2.2.2), M.2) c i j = some x := by
      subst e
      show (if j < M.1.2.1 c i then upR M.1.2.2.1 c i j (some x) c i j else none) = some x
      rw [if_pos hk]
      exact if_pos ⟨rfl, rfl, rfl⟩
    rw [if_pos e, e9]
    rfl
  · have e9 : rfb ((M.1.1, M.1.2.1, upR M.1.2.2.1 c i k (some x), M.1.2.2.2.1, M.1.2.2.2.2), M.2) c i j = rfb M c i j := by
      have e2 : upR M.1.2.2.1 c i k (some x) c i j = M.1.2.2.1 c i j := if_neg (fun q => e q.2.2)
      show (if j < M.1.2.1 c i then upR M.1.2.2.1 c i k (some x) c i j else none) = (if j < M.1.2.1 c i then M.1.2.2.1 c i j else none)
      rw [e2]
    rw [if_neg e, e9]
theorem aast_ty {cA : Nat → ClassId} {ci q : Nat} (h : (ci = 22 ∧ q = 0) ∨ (ci = 23 ∧ q = 1) ∨ (ci = 24 ∧ q = 4)) : (tysL cA)[tyIx ci]? = some (cA (tyIx ci), .object (cn q, TT q, NF q).1) := by
  rcases h with ⟨rfl, rfl⟩ | ⟨rfl, rfl⟩ | ⟨rfl, rfl⟩ <;> rfl

set_option maxHeartbeats 1000000 in
theorem s_aastore (C : Cx p s m args c cc nL own D cA ov aR0 B nS xs) (I : Inv s nL D cA ov aR0 B nS xs a0 b0 dir ad M H locs ls L S) (K : KK p l e R s m args below meth c Q nL D cA ov aR0 B nS xs a0 b0 dir ad al M k out)
    (hok : okF own nL cc pc (.aastore, len, (a, b, d), v, w, brs) = true) (h : astep al cs (.aastore, len, (a, b, d), v, w, brs) pc L S M k = some out) : W p l e R s m args below meth c H locs (M.1.2.2.2.1 - a0) (M.1.2.2.2.2 - b0) Q (F0 m pc ls (S.map (cv ad ov))) := by
  obtain ⟨hx, hb, hml, hown, hts, hSF, hB⟩ := C
  obtain ⟨hR, hRO, hS, hL, hvS, hvL, hro, hac, has⟩ := I
  obtain ⟨h1, h2, ⟨h3, h4, h5, h6⟩, h7, h8, h9, h10, h11, h12, h13, ho⟩ := hSF
  obtain ⟨hd, rfl⟩ : decode cc pc = .ok (.aastore, 1) ∧ len = 1 := by simpa [okF, nOK, okE, okD] using hok
  rcases S with _ | ⟨(x | x) | _ | q, _ | ⟨(j | j) | j, _ | ⟨(y | y) | _ | ⟨ci, ii⟩, S⟩⟩⟩ <;> try exact ons h
  let M' : Mem := ((M.1.1, M.1.2.1, upR M.1.2.2.1 ci ii j.toNatClampNeg (some q), M.1.2.2.2.1, M.1.2.2.2.2), M.2)
  have h : (bif al && ((Nat.beq ci 22 && Nat.beq q.1 0) || (Nat.beq ci 23 && Nat.beq q.1 1) || (Nat.beq ci 24 && Nat.beq q.1 4)) && inB j (M.1.2.1 ci ii) then k (pc + 1) L S M' else none) = some out := h
  cases hc : al && ((Nat.beq ci 22 && Nat.beq q.1 0) || (Nat.beq ci 23 && Nat.beq q.1 1) || (Nat.beq ci 24 && Nat.beq q.1 4)) && inB j (M.1.2.1 ci ii) with
  | false => rw [hc] at h; exact ons h
  | true =>
  rw [hc] at h
  simp only [Bool.and_eq_true, Bool.or_eq_true, Nat.beq_eq] at hc
  obtain ⟨⟨hal, hcc⟩, hj⟩ := hc
  have hcc : (ci = 22 ∧ q.1 = 0) ∨ (ci = 23 ∧ q.1 = 1) ∨ (ci = 24 ∧ q.1 = 4) := by omega
  have hq8 : q.1 < 8 := by omega
  have hlt : j.toNatClampNeg < M.1.2.1 ci ii := by
    have := vp_in_iff.mp (inB_in hj)
    show j.toInt.toNat < _
    omega
  have hra : isRA ci = true := by simp only [isRA, Bool.and_eq_true, Nat.ble_eq]; omega
  have hqd : q ∈ dir := hR.ro (vH1 hvS) (by simp [isW, hq8])
  have hm : (ci, ii) ∈ dir := hR.ro (vH1 (vT1 (vT1 hvS))) (by simp [isW, hra])
  obtain ⟨q0, hq0, he⟩ := wl_at (cA := cA) (ad := ad) (m := M) hm
  obtain ⟨qk, hqk, hek⟩ := wl_at (cA := cA) (ad := ad) (m := M) (c := q.1) (i := q.2) hqd
  rw [ent_ra hra] at he
  rw [ent_obj hq8] at hek
  have hcv : cv ad ov (.inr (some (ci, ii))) = .ref (ad ci ii) := cv_ne (by omega)
  have hcq : cv ad ov (.inr (some q)) = .ref (ad q.1 q.2) := cv_ne (c := q.1) (i := q.2) (by omega)
  show W p l e R s m args below meth c H locs _ _ Q (F0 m pc ls (cv ad ov (.inr (some q)) :: Value.int j :: cv ad ov (.inr (some (ci, ii))) :: S.map (cv ad ov)))
  rw [hcv, hcq]
  refine va_astq hx hb h1 hR.1 hR.2.1 hS q0 (tyIx ci) qk q.1 he (aast_ty hcc) hek (vw_at hq8) (inB_in hj) hd (fun H1 locs1 hP1 hD1 hS1 => ?_)
  refine K _ _ _ _ h (Rel.mk2 hal (Nat.le_refl _) (Nat.le_refl _)) dir ad H1 locs1 ls Ext.rf ⟨hR.put hq0 hP1 hD1 ?_ (fun z _ hz => ent_congr rfl rfl (upR_ne hz) rfl) rfl ?_, hRO.wrR (Or.inl (by omega)) _ _ _, hS1, hL, vT1 (vT1 (vT1 hvS)), hvL, hro, hac, has⟩
  · rw [ent_ra hra]
    show (Sum.inl (cA (tyIx ci), M.1.2.1 ci ii, .inr (.inr (.inr (.inr (fun z => (rfb ((M.1.1, M.1.2.1, upR M.1.2.2.1 ci ii j.toNatClampNeg (some q), M.1.2.2.2.1, M.1.2.2.2.2), M.2) ci ii z).map (adq ad)))))) : va_E) = _
    rw [rfb_up hlt]
  · intro c9 i9 k9 z hz hb9 hz2
    have hz2 : upR M.1.2.2.1 ci ii j.toNatClampNeg (some q) c9 i9 k9 = some z := hz2
    unfold upR at hz2
    split at hz2
    · rw [← Option.some.inj hz2]; exact hqd
    · exact hR.2.2.2.2.2 c9 i9 k9 z hz hb9 hz2

theorem cpL_eq {ml : MLg} {c i sp d j dp n : Nat} : cpL ml c i sp d j dp n d j = va_cpy (ml c i) (ml d j) sp dp n := by
  funext k
  unfold cpL va_cpy
  by_cases e : dp ≤ k ∧ k < dp + n
  · rw [if_pos ⟨rfl, rfl, e⟩, if_pos e]
  · rw [if_neg (fun q => e q.2.2), if_neg e]
theorem cpL_ne {ml : MLg} {c i sp d j dp n : Nat} {q : Nat × Nat} (h : q ≠ (d, j)) : cpL ml c i sp d j dp n q.1 q.2 = ml q.1 q.2 := by
  funext k
  unfold cpL
  rw [if_neg (fun e => h (Prod.ext e.1 e.2.1))]
theorem nfw : nativeFrameWords "java/lang/System" "arraycopy" 5 = 7 := by decide +kernel

set_option maxHeartbeats 1000000 in
theorem s_dmul (hfr : 1 ≤ R.frames) (hlo : 64 ≤ R.locals) (C : Cx p s m args c cc nL own D cA ov aR0 B nS xs) (I : Inv s nL D cA ov aR0 B nS xs a0 b0 dir ad M H locs ls L S) (K : KK p l e R s m args below meth c Q nL D cA ov aR0 B nS xs a0 b0 dir ad al M k out)
    (hok : okF own nL cc pc (.dmul, len, (a, b, d), v, w, brs) = true) (h : astep al cs (.dmul, len, (a, b, d), v, w, brs) pc L S M k = some out) : W p l e R s m args below meth c H locs (M.1.2.2.2.1 - a0) (M.1.2.2.2.2 - b0) Q (F0 m pc ls (S.map (cv ad ov))) := by
  obtain ⟨hx, hb, hml, hown, hts, hSF, hB⟩ := C
  obtain ⟨hR, hRO, hS, hL, hvS, hvL, hro, hac, has⟩ := I
  obtain ⟨h1, h2, ⟨h3, h4, h5, h6⟩, h7, h8, h9, h10, h11, h12, h13, ho⟩ := hSF
  simp only [okF, nOK, okE, okD, Bool.and_eq_true, decide_eq_true_eq, Nat.beq_eq, Bool.true_and] at hok
  obtain ⟨⟨hd, rfl⟩, hf⟩ := hok
  rcases S with _ | ⟨(n | n) | n, _ | ⟨(dp | dp) | dp, _ | ⟨(y1 | y1) | _ | ⟨c1, i1⟩, _ | ⟨(sp | sp) | sp, _ | ⟨(y2 | y2) | _ | ⟨c0, i0⟩, S⟩⟩⟩⟩⟩ <;> try exact ons h
  let M' : Mem := (M.1, (M.2.1, cpL M.2.2 c0 i0 sp.toNatClampNeg c1 i1 dp.toNatClampNeg n.toNatClampNeg))
  have h : (bif isLA c0 && isLA c1 && Nat.ble S.length 8 then
          if 0 ≤ sp ∧ 0 ≤ dp ∧ 0 ≤ n ∧ sp.toNatClampNeg + n.toNatClampNeg ≤ M.1.2.1 c0 i0 ∧ dp.toNatClampNeg + n.toNatClampNeg ≤ M.1.2.1 c1 i1 then k (pc + 3) L S M' else none
        else none) = some out := h
  cases hc : isLA c0 && isLA c1 && Nat.ble S.length 8 with
  | false => rw [hc] at h; exact ons h
  | true =>
  rw [hc] at h
  have h : (if 0 ≤ sp ∧ 0 ≤ dp ∧ 0 ≤ n ∧ sp.toNatClampNeg + n.toNatClampNeg ≤ M.1.2.1 c0 i0 ∧ dp.toNatClampNeg + n.toNatClampNeg ≤ M.1.2.1 c1 i1 then k (pc + 3) L S M' else none) = some out := h
  by_cases hin : 0 ≤ sp ∧ 0 ≤ dp ∧ 0 ≤ n ∧ sp.toNatClampNeg + n.toNatClampNeg ≤ M.1.2.1 c0 i0 ∧ dp.toNatClampNeg + n.toNatClampNeg ≤ M.1.2.1 c1 i1
  · rw [if_pos hin] at h
    simp only [Bool.and_eq_true, Nat.ble_eq] at hc
    obtain ⟨⟨hl0, hl1⟩, hlen⟩ := hc
    obtain ⟨g1, g2, g3, g4, g5⟩ := hin
    have hv1 := vH1 (vT1 (vT1 hvS))
    have hv0 := vH1 (vT1 (vT1 (vT1 (vT1 hvS))))
    have hm0 : (c0, i0) ∈ dir := hR.ro hv0 (by simp [isW, hl0])
    have hm1 : (c1, i1) ∈ dir := hR.ro hv1 (by simp [isW, hl1])
    obtain ⟨q0, hq0, he0⟩ := wl_at (cA := cA) (ad := ad) (m := M) hm0
    obtain ⟨q1, hq1, he1⟩ := wl_at (cA := cA) (ad := ad) (m := M) hm1
    rw [ent_la hl0] at he0
    rw [ent_la hl1] at he1
    have w0 := isLA_ge hl0
    have w1 := isLA_ge hl1
    have hcv0 : cv ad ov (.inr (some (c0, i0))) = .ref (ad c0 i0) := cv_ne (by omega)
    have hcv1 : cv ad ov (.inr (some (c1, i1))) = .ref (ad c1 i1) := cv_ne (by omega)
    have hcs := cat_sum (ad := ad) (ov := ov) ho S
    show W p l e R s m args below meth c H locs _ _ Q (F0 m pc ls (Value.int n :: Value.int dp :: cv ad ov (.inr (some (c1, i1))) :: Value.int sp :: cv ad ov (.inr (some (c0, i0))) :: S.map (cv ad ov)))
    rw [hcv0, hcv1]
    refine va_copyl hx hb (by rw [hml]; exact hL.1.symm) hown (hts _ (blE_w hf)) (hts _ blw.2.2.1) (hts _ blw.2.2.2.1) (hts _ blw.2.2.2.2.1) h1 hR.1 hR.2.1 hS q0 q1 1 1 he0 he1 rfl rfl rfl (Int32.not_lt.mpr g1) (Int32.not_lt.mpr g2) (Int32.not_lt.mpr g3) g4 g5 (fun _ _ => rfl) hfr (by rw [nfw]; omega) hd (fun H1 locs1 hP1 hD1 hS1 => ?_)
    refine K _ _ _ _ h (Rel.of rfl) dir ad H1 locs1 ls Ext.rf ⟨hR.put hq1 hP1 hD1 ?_ (fun q _ hq => ent_congr rfl (cpL_ne hq) rfl rfl) rfl hR.2.2.2.2.2, hRO, hS1, hL, vT1 (vT1 (vT1 (vT1 (vT1 hvS)))), hvL, hro, hac, has⟩
    rw [ent_la hl1, ← cpL_eq]
  · rw [if_neg hin] at h; exact ons h

set_option maxHeartbeats 1000000 in
theorem s_multianewarray {z y : Nat} (A : KA R a0 b0 al M k out) (C : Cx p s m args c cc nL own D cA ov aR0 B nS xs) (I : Inv s nL D cA ov aR0 B nS xs a0 b0 dir ad M H locs ls L S) (K : KK p l e R s m args below meth c Q nL D cA ov aR0 B nS xs a0 b0 dir ad al M k out)
    (hok : okF own nL cc pc (.multianewarray z y, len, (a, b, d), v, w, brs) = true) (h : astep al cs (.multianewarray z y, len, (a, b, d), v, w, brs) pc L S M k = some out) : W p l e R s m args below meth c H locs (M.1.2.2.2.1 - a0) (M.1.2.2.2.2 - b0) Q (F0 m pc ls (S.map (cv ad ov))) := by
  obtain ⟨hx, hb, hml, hown, hts, hSF, hB⟩ := C
  obtain ⟨hR, hRO, hS, hL, hvS, hvL, hro, hac, has⟩ := I
  obtain ⟨h1, h2, ⟨h3, h4, h5, h6⟩, h7, h8, h9, h10, h11, h12, h13, ho⟩ := hSF
  simp only [okF, nOK, okE, okD, Bool.and_eq_true, decide_eq_true_eq, Nat.beq_eq, Bool.true_and] at hok
  obtain ⟨⟨hd, rfl⟩, hf⟩ := hok
  rcases S with _ | ⟨(u | u) | u, _ | ⟨(n | n) | n, S⟩⟩ <;> try exact ons h
  let M' : Mem := ((fun c => if c = a then M.1.1 a + 1 else if c = b then M.1.1 b + n.toNatClampNeg else M.1.1 c, (fun c i => if c = a ∧ i = M.1.1 a then n.toNatClampNeg else if c = b ∧ M.1.1 b ≤ i then u.toNatClampNeg else M.1.2.1 c i), (fun c i q => if c = a ∧ i = M.1.1 a then (if q < n.toNatClampNeg then some (b, M.1.1 b + q) else none) else if c = b ∧ M.1.1 b ≤ i then none else M.1.2.2.1 c i q), M.1.2.2.2.1 + 1 + n.toNatClampNeg, M.1.2.2.2.2 + n.toNatClampNeg + n.toNatClampNeg * u.toNatClampNeg), (fun c i q => if c = b ∧ M.1.1 b ≤ i then 0 else M.2.1 c i q, M.2.2))
  have h : (bif al && (Nat.ble 25 a && Nat.ble a 26) && isIA b && inB n 1000 && inB u 1000 then k (pc + 4) L (aR a (M.1.1 a) :: S) M' else none) = some out := h
  cases hc : al && (Nat.ble 25 a && Nat.ble a 26) && isIA b && inB n 1000 && inB u 1000 with
  | false => rw [hc] at h; exact ons h
  | true =>
  rw [hc] at h
  simp only [Bool.and_eq_true, Nat.ble_eq] at hc
  obtain ⟨⟨⟨⟨hal, hab⟩, hbi⟩, hn⟩, hu⟩ := hc
  obtain ⟨hn0, hn1⟩ := inB_n hn
  obtain ⟨hu0, hu1⟩ := inB_n hu
  have hbge := isIA_ge hbi
  have hra : isRA a = true := by simp only [isRA, Bool.and_eq_true, Nat.ble_eq]; omega
  have hwa : isW a = true := by simp [isW, hra]
  have hwb : isW b = true := by simp [isW, hbi]
  have hty : tyIx a = 5 := by
    have : a = 25 ∨ a = 26 := by omega
    rcases this with rfl | rfl <;> rfl
  have hao : arrOf a = "[" ++ (FieldType.array FieldType.int).toString := by
    have : a = 25 ∨ a = 26 := by omega
    rcases this with rfl | rfl <;> decide +kernel
  have eA : M'.1.2.2.2.1 = M.1.2.2.2.1 + 1 + n.toNatClampNeg := rfl
  have eB : M'.1.2.2.2.2 = M.1.2.2.2.2 + n.toNatClampNeg + n.toNatClampNeg * u.toNatClampNeg := rfl
  have hA := A _ _ _ _ h (Rel.mk2 hal (by rw [eA]; omega) (by rw [eB]; omega))
  have hcl := nlE_w hf
  rw [hao] at hcl
  have hcy : s.vm.findClass (FieldType.array FieldType.int).toString = some (cA 0) := (h1.2 0 (cA 0, .int) rfl).2
  have hP0 : va_P D vwCl (wl cA ad M dir ++ va_pl [] (fun _ => Sum.inr (0, []))) H := by
    show va_P D vwCl (wl cA ad M dir ++ []) H
    rw [List.append_nil]
    exact hR.1
  have hD0 : va_D (fun q => B ≤ q) (wl cA ad M dir ++ va_pl [] (fun _ => Sum.inr (0, []))) := by
    show va_D (fun q => B ≤ q) (wl cA ad M dir ++ [])
    rw [List.append_nil]
    exact hR.2.1
  have hmul : n.toNatClampNeg * u.toNatClampNeg ≤ 1000 * 1000 := Nat.mul_le_mul (by omega) (by omega)
  refine va_mna (z := (u.toNatClampNeg, Sum.inl (fun _ => 0))) (cy := cA 0) (ty := .int) hx hb hown (hts _ hcl) h6 (hts _ arrI_in) hcy h1 hP0 hD0 hS (fun q hq => Nat.le_trans hB hq) hn0 hu0 rfl rfl (by omega) (by show u.toNatClampNeg * 4 ≤ _; omega) (by omega) rfl rfl (by rw [eA] at hA; omega) (by rw [eB] at hA; omega) (fun cc9 => by
    show ({ cls := cc9, slots := Array.replicate u.toNatClampNeg (.int 0), vm := .none } : Cell) = _
    rw [arrV_new]
    rfl) hd (fun q r cA1 H1 hrinj hrn hK1 hP1 hD1 hS1 => ?_)
  have ec : cA1 = cA 5 := hK1.same (t0 := 5) rfl
  subst ec
  let ad' : Nat → Nat → Nat := fun c i => if c = a ∧ i = M.1.1 a then q else if c = b ∧ M.1.1 b ≤ i then r (i - M.1.1 b) else ad c i
  let rows : List (Nat × Nat) := (List.range n.toNatClampNeg).map (fun i => (b, M.1.1 b + i))
  have hab2 : ¬ b = a := by omega
  have hnn : ∀ z : Nat × Nat, z ∈ (a, M.1.1 a) :: rows ↔ z = (a, M.1.1 a) ∨ ∃ i, i < n.toNatClampNeg ∧ z = (b, M.1.1 b + i) := fun z => by
    rw [List.mem_cons]
    refine or_congr Iff.rfl ⟨fun hz => ?_, fun ⟨i, hi, e⟩ => List.mem_map.mpr ⟨i, List.mem_range.mpr hi, e.symm⟩⟩
    obtain ⟨i, hi, e⟩ := List.mem_map.mp hz
    exact ⟨i, List.mem_range.mp hi, e.symm⟩
  have hdlt : ∀ z ∈ dir, z.2 < M.1.1 z.1 := fun z hz => hR.2.2.2.2.1 z.1 z.2 hz
  have hne1 : ∀ z ∈ dir, ¬ (z.1 = a ∧ z.2 = M.1.1 a) := fun z hz e => by have := hdlt z hz; rw [e.1, e.2] at this; omega
  have hne2 : ∀ z ∈ dir, ¬ (z.1 = b ∧ M.1.1 b ≤ z.2) := fun z hz e => by have := hdlt z hz; rw [e.1] at this; omega
  have hq' : ad' a (M.1.1 a) = q := if_pos ⟨rfl, rfl⟩
  have hr' : ∀ i, ad' b (M.1.1 b + i) = r i := fun i => by
    show (if b = a ∧ M.1.1 b + i = M.1.1 a then q else if b = b ∧ M.1.1 b ≤ M.1.1 b + i then r (M.1.1 b + i - M.1.1 b) else ad b (M.1.1 b + i)) = r i
    rw [if_neg (fun e => hab2 e.1), if_pos ⟨rfl, by omega⟩]
    congr 1
    omega
  have heb : ∀ i, ent cA ad' M' b (M.1.1 b + i) = .inl (cA 0, u.toNatClampNeg, .inl (fun _ => 0)) := fun i => by
    rw [ent_ia hbi]
    have f1 : M'.1.2.1 b (M.1.1 b + i) = u.toNatClampNeg := by
      show (if b = a ∧ M.1.1 b + i = M.1.1 a then n.toNatClampNeg else if b = b ∧ M.1.1 b ≤ M.1.1 b + i then u.toNatClampNeg else M.1.2.1 b (M.1.1 b + i)) = _
      rw [if_neg (fun e => hab2 e.1), if_pos ⟨rfl, by omega⟩]
    have f2 : M'.2.1 b (M.1.1 b + i) = fun _ => 0 := funext fun j => if_pos ⟨rfl, by omega⟩
    rw [f1, f2]
  have hea : ent cA ad' M' a (M.1.1 a) = .inl (cA 5, n.toNatClampNeg, .inr (.inr (.inr (.inr (fun i => if i < n.toNatClampNeg then some (r i) else none))))) := by
    rw [ent_ra hra, hty]
    have f1 : M'.1.2.1 a (M.1.1 a) = n.toNatClampNeg := if_pos ⟨rfl, rfl⟩
    have f2 : (fun j => (rfb M' a (M.1.1 a) j).map (adq ad')) = fun i => if i < n.toNatClampNeg then some (r i) else none := funext fun j => by
      have e9 : M'.1.2.2.1 a (M.1.1 a) j = (if j < n.toNatClampNeg then some (b, M.1.1 b + j) else none) := if_pos ⟨rfl, rfl⟩
      by_cases hj : j < n.toNatClampNeg
      · have e8 : rfb M' a (M.1.1 a) j = some (b, M.1.1 b + j) := by
          rw [rfb_in (by rw [f1]; exact hj), e9, if_pos hj]
        show (rfb M' a (M.1.1 a) j).map (adq ad') = if j < n.toNatClampNeg then some (r j) else none
        rw [e8, if_pos hj]
        show some (ad' b (M.1.1 b + j)) = _
        rw [hr']
      · have e8 : rfb M' a (M.1.1 a) j = none := by
          unfold rfb
          rw [f1, if_neg hj]
        show (rfb M' a (M.1.1 a) j).map (adq ad') = if j < n.toNatClampNeg then some (r j) else none
        rw [e8, if_neg hj]
        rfl
    rw [f1, f2]
  have hwn : wl cA ad M dir ++ wl cA ad' M' ((a, M.1.1 a) :: rows) = ((wl cA ad M dir ++ [(q, .inl (cA 5, n.toNatClampNeg, .inr (.inr (.inr (.inr (fun i => if i < n.toNatClampNeg then some (r i) else none))))))]) ++ va_pl ([] ++ (List.range n.toNatClampNeg).map r) (vr_up (fun _ => Sum.inr (0, [])) ((List.range n.toNatClampNeg).map r) (.inl (cA 0, (u.toNatClampNeg, Sum.inl (fun _ => 0)))))) := by
    rw [List.append_assoc]
    congr 1
    show (ad' a (M.1.1 a), ent cA ad' M' a (M.1.1 a)) :: wl cA ad' M' rows = _
    rw [hq', hea]
    show _ :: _ = _ :: _
    congr 1
    unfold wl va_pl
    rw [List.nil_append, List.map_map, List.map_map]
    apply List.map_congr_left
    intro i hi
    show (ad' b (M.1.1 b + i), ent cA ad' M' b (M.1.1 b + i)) = (r i, vr_up _ _ _ (r i))
    rw [hr', heb, vr_up_in (List.mem_map.mpr ⟨i, hi, rfl⟩)]
  obtain ⟨hR', E⟩ := hR.grow (ad' := ad') (M' := M') (H' := H1) ((a, M.1.1 a) :: rows) (fun z hz => by
      rcases (hnn z).mp hz with rfl | ⟨i, -, rfl⟩
      · exact ⟨hwa, Nat.le_refl _⟩
      · exact ⟨hwb, by show M.1.1 b ≤ M.1.1 b + i; omega⟩)
    (fun z hz _ => by
      show (if z.1 = a ∧ z.2 = M.1.1 a then q else if z.1 = b ∧ M.1.1 b ≤ z.2 then r (z.2 - M.1.1 b) else ad z.1 z.2) = _
      rw [if_neg (hne1 z hz), if_neg (hne2 z hz)])
    (fun c i g1 g2 => by
      show (if c = a ∧ i = M.1.1 a then q else if c = b ∧ M.1.1 b ≤ i then r (i - M.1.1 b) else ad c i) = _
      rw [if_neg (fun e => by omega), if_neg (fun e => by omega)])
    (fun z hz _ _ => ⟨funext fun j => if_neg (hne2 z hz), rfl, funext fun j => by
        show (if z.1 = a ∧ z.2 = M.1.1 a then (if j < n.toNatClampNeg then some (b, M.1.1 b + j) else none) else if z.1 = b ∧ M.1.1 b ≤ z.2 then none else M.1.2.2.1 z.1 z.2 j) = _
        rw [if_neg (hne1 z hz), if_neg (hne2 z hz)], by
        show (if z.1 = a ∧ z.2 = M.1.1 a then n.toNatClampNeg else if z.1 = b ∧ M.1.1 b ≤ z.2 then u.toNatClampNeg else M.1.2.1 z.1 z.2) = _
        rw [if_neg (hne1 z hz), if_neg (hne2 z hz)]⟩)
    (fun c i hi => by
      have hi : i < (if c = a then M.1.1 a + 1 else if c = b then M.1.1 b + n.toNatClampNeg else M.1.1 c) := hi
      by_cases e1 : c = a
      · rw [if_pos e1] at hi
        by_cases e2 : i = M.1.1 a
        · exact Or.inr ((hnn _).mpr (Or.inl (by rw [e1, e2])))
        · exact Or.inl (by rw [e1]; omega)
      · rw [if_neg e1] at hi
        by_cases e2 : c = b
        · rw [if_pos e2] at hi
          by_cases e3 : i < M.1.1 b
          · exact Or.inl (by rw [e2]; exact e3)
          · exact Or.inr ((hnn _).mpr (Or.inr ⟨i - M.1.1 b, by omega, by rw [e2]; congr 1; omega⟩))
        · rw [if_neg e2] at hi
          exact Or.inl hi)
    (fun z hz => by
      rcases (hnn z).mp hz with rfl | ⟨i, hi, rfl⟩
      · show M.1.1 a < (if a = a then M.1.1 a + 1 else if a = b then M.1.1 b + n.toNatClampNeg else M.1.1 a)
        rw [if_pos rfl]; omega
      · show M.1.1 b + i < (if b = a then M.1.1 a + 1 else if b = b then M.1.1 b + n.toNatClampNeg else M.1.1 b)
        rw [if_neg hab2, if_pos rfl]; omega)
    (fun c => by
      show M.1.1 c ≤ (if c = a then M.1.1 a + 1 else if c = b then M.1.1 b + n.toNatClampNeg else M.1.1 c)
      split
      · rename_i e; subst e; omega
      · split
        · rename_i e; subst e; omega
        · exact Nat.le_refl _)
    (fun z hz j y hy => by
      rcases (hnn z).mp hz with rfl | ⟨i, hi, rfl⟩
      · have hy : (if a = a ∧ M.1.1 a = M.1.1 a then (if j < n.toNatClampNeg then some (b, M.1.1 b + j) else none) else if a = b ∧ M.1.1 b ≤ M.1.1 a then none else M.1.2.2.1 a (M.1.1 a) j) = some y := hy
        rw [if_pos ⟨rfl, rfl⟩] at hy
        by_cases hj : j < n.toNatClampNeg
        · rw [if_pos hj] at hy
          rw [← Option.some.inj hy]
          exact List.mem_append_right _ ((hnn _).mpr (Or.inr ⟨j, hj, rfl⟩))
        · rw [if_neg hj] at hy
          cases hy
      · have hy : (if b = a ∧ M.1.1 b + i = M.1.1 a then (if j < n.toNatClampNeg then some (b, M.1.1 b + j) else none) else if b = b ∧ M.1.1 b ≤ M.1.1 b + i then none else M.1.2.2.1 b (M.1.1 b + i) j) = some y := hy
        rw [if_neg (fun e => hab2 e.1), if_pos ⟨rfl, by omega⟩] at hy
        cases hy)
    (by rw [hwn]; exact hP1) (by rw [hwn]; exact hD1)
  have hro' : ROm nS xs M' := RO.same hRO (fun c i g1 g2 => by
    have k1 : ¬ (c = a ∧ i = M.1.1 a) := fun e => by omega
    have k2 : ¬ (c = b ∧ M.1.1 b ≤ i) := fun e => by omega
    refine ⟨funext fun j => if_neg k2, funext fun j => ?_, ?_⟩
    · show (if c = a ∧ i = M.1.1 a then (if j < n.toNatClampNeg then some (b, M.1.1 b + j) else none) else if c = b ∧ M.1.1 b ≤ i then none else M.1.2.2.1 c i j) = _
      rw [if_neg k1, if_neg k2]
    · show (if c = a ∧ i = M.1.1 a then n.toNatClampNeg else if c = b ∧ M.1.1 b ≤ i then u.toNatClampNeg else M.1.2.1 c i) = _
      rw [if_neg k1, if_neg k2])
  have kk := K _ _ _ _ h (Rel.mk2 hal (by rw [eA]; omega) (by rw [eB]; omega)) (dir ++ ((a, M.1.1 a) :: rows)) ad' H1 locs ls E ⟨hR', hro', hS1, hL.ext E hvL, vS1 (Or.inl (List.mem_append_right _ List.mem_cons_self)) (fun v hv => ((vT1 (vT1 hvS)) v hv).ext E), fun i v hv => (hvL i v hv).ext E, fun c i g1 g2 => (E.2 c i g1 g2).trans (hro c i g1 g2), by rw [eA]; omega, by rw [eB]; omega⟩
  have e1 : M'.1.2.2.2.1 - a0 = M.1.2.2.2.1 - a0 + 1 + n.toNatClampNeg := by rw [eA]; omega
  have e2 : M'.1.2.2.2.2 - b0 = M.1.2.2.2.2 - b0 + n.toNatClampNeg + n.toNatClampNeg * u.toNatClampNeg := by rw [eB]; omega
  rw [e1, e2] at kk
  have e3 : (aR a (M.1.1 a) :: S).map (cv ad' ov) = .ref q :: S.map (cv ad ov) := by
    show cv ad' ov (.inr (some (a, M.1.1 a))) :: S.map (cv ad' ov) = _
    rw [cv_ne (by omega), hq', cv_exts E (vT1 (vT1 hvS))]
  rw [e3] at kk
  exact kk

end MST
