/-! ONE INSTRUCTION, the heap: fields, rows, statics, switches, Math, copies, and what makes -/
theorem ws0 : u_ws RX0 TX0 5 = [114, 116, 118, 120, 122].filterMap (fun i => lw_tbl[i]?) := by decide +kernel
theorem ws1 : u_ws RX1 TX1 3 = [255, 257, 259].filterMap (fun i => lw_tbl[i]?) := by decide +kernel
theorem ws2 : u_ws RX2 TX2 7 = [210, 212, 214, 216, 218, 220, 222].filterMap (fun i => lw_tbl[i]?) := by decide +kernel
theorem ws3 : u_ws RX3 TX3 2 = [233, 235].filterMap (fun i => lw_tbl[i]?) := by decide +kernel
theorem ws4 : u_ws RX4 TX4 3 = [138, 140, 142].filterMap (fun i => lw_tbl[i]?) := by decide +kernel
theorem ws5 : u_ws RX5 TX5 12 = [168, 170, 172, 174, 176, 178, 180, 182, 184, 186, 188, 190].filterMap (fun i => lw_tbl[i]?) := by decide +kernel
theorem ws6 : u_ws RX6 TX6 15 = [278, 280, 282, 284, 286, 288, 290, 292, 294, 296, 298, 300, 302, 304, 306].filterMap (fun i => lw_tbl[i]?) := by decide +kernel
theorem ws7 : u_ws RX7 TX7 33 = [969, 971, 973, 975, 977, 979, 981, 983, 985, 987, 989, 991, 993, 995, 997, 999, 1001, 1003, 1005, 1007, 1009, 1011, 1013, 1015, 1017, 1019, 1021, 1023, 1025, 1027, 1029, 1031, 1033].filterMap (fun i => lw_tbl[i]?) := by decide +kernel
theorem ws_in {l : List Cond} {ps : List Nat} (h : l = ps.filterMap (fun i => lw_tbl[i]?)) (hg : l.all goodWord = true) : ∀ w ∈ l, w ∈ WSg := fun w hw => by
  have h1 := List.all_eq_true.mp hg w hw
  rw [h] at hw
  obtain ⟨i, -, hi⟩ := List.mem_filterMap.mp hw
  exact List.mem_filter.mpr ⟨List.mem_of_getElem? hi, h1⟩
theorem uws_in {c : Nat} (hc : c < 8) : ∀ w ∈ u_ws (cn c) (TT c) (NF c), w ∈ WSg := by
  match c, hc with
  | 0, _ => exact ws_in ws0 (by decide +kernel)
  | 1, _ => exact ws_in ws1 (by decide +kernel)
  | 2, _ => exact ws_in ws2 (by decide +kernel)
  | 3, _ => exact ws_in ws3 (by decide +kernel)
  | 4, _ => exact ws_in ws4 (by decide +kernel)
  | 5, _ => exact ws_in ws5 (by decide +kernel)
  | 6, _ => exact ws_in ws6 (by decide +kernel)
  | 7, _ => exact ws_in ws7 (by decide +kernel)
  | n + 8, h => exact absurd h (by omega)
theorem vw_at {c : Nat} (hc : c < 8) : vwCl[c]? = some (cn c, TT c, NF c) := by
  match c, hc with
  | 0, _ => rfl
  | 1, _ => rfl
  | 2, _ => rfl
  | 3, _ => rfl
  | 4, _ => rfl
  | 5, _ => rfl
  | 6, _ => rfl
  | 7, _ => rfl
  | n + 8, h => exact absurd h (by omega)
def tyT (c k : Nat) : FieldType := match c with
  | 0 => tyX0 k
  | 1 => tyX1 k
  | 2 => tyX2 k
  | 3 => tyX3 k
  | 4 => tyX4 k
  | 5 => tyX5 k
  | 6 => tyX6 k
  | _ => tyX7 k
theorem tyT_ok {c : Nat} (hc : c < 8) : ∀ k, k < NF c → parseFieldDescriptor (TT c k).2.2.1 = some (tyT c k) := by
  match c, hc with
  | 0, _ => exact tyX0_ok
  | 1, _ => exact tyX1_ok
  | 2, _ => exact tyX2_ok
  | 3, _ => exact tyX3_ok
  | 4, _ => exact tyX4_ok
  | 5, _ => exact tyX5_ok
  | 6, _ => exact tyX6_ok
  | 7, _ => exact tyX7_ok
  | n + 8, h => exact absurd h (by omega)
theorem nmT_ok {c : Nat} (hc : c < 8) : ∀ a, a < NF c → ∀ b, b < NF c → a ≠ b → (TT c a).2.1 ≠ (TT c b).2.1 := by
  match c, hc with
  | 0, _ => exact nmX0
  | 1, _ => exact nmX1
  | 2, _ => exact nmX2
  | 3, _ => exact nmX3
  | 4, _ => exact nmX4
  | 5, _ => exact nmX5
  | 6, _ => exact nmX6
  | 7, _ => exact nmX7
  | n + 8, h => exact absurd h (by omega)
/-- every field: 0 an int and not final; 1 a truth, not final; 4 a reference, final, of its own class -/
def fkOK (c k : Nat) : Bool := match sk c k with
  | 0 => decide (tyT c k = .int) && !(TT c k).2.2.2
  | 1 => decide (tyT c k = .boolean) && !(TT c k).2.2.2
  | 4 => (TT c k).2.2.2 && decide ((TT c k).1 = cn c) && (match tyT c k with
    | .object _ => true
    | .array _ => true
    | _ => false)
  | _ => false
theorem fk_all : (List.range 8).all (fun c => (List.range (NF c)).all (fun k => fkOK c k)) = true := by decide +kernel
theorem fk_of {c k : Nat} (hc : c < 8) (hk : k < NF c) : fkOK c k = true := List.all_eq_true.mp (List.all_eq_true.mp fk_all c (List.mem_range.mpr hc)) k (List.mem_range.mpr hk)
theorem flE_of {own idx c k : Nat} (h : flE own idx c k = true) : c < 8 ∧ k < NF c ∧ Cond.fieldLink (cn own) idx (TT c k).1 (TT c k).2.1 (TT c k).2.2.1 ∈ WSg := by
  obtain ⟨e, he, h⟩ := List.any_eq_true.mp h
  simp only [Bool.and_eq_true, Nat.beq_eq] at h
  obtain ⟨⟨⟨rfl, rfl⟩, rfl⟩, rfl⟩ := h
  have h2 := List.all_eq_true.mp FLt_ok e he
  simp only [Bool.and_eq_true, decide_eq_true_eq] at h2
  exact ⟨h2.1.1, h2.1.2, posOK_mem h2.2⟩
theorem slE_of {own idx a : Nat} (h : slE own idx a = true) : ∃ e ∈ SLt, e.2.2.1 = a ∧ Cond.fieldLink (cn own) idx e.2.2.2.1 e.2.2.2.2.1 e.2.2.2.2.2.1 ∈ WSg := by
  obtain ⟨e, he, h⟩ := List.any_eq_true.mp h
  simp only [Bool.and_eq_true, Nat.beq_eq] at h
  obtain ⟨⟨rfl, rfl⟩, rfl⟩ := h
  exact ⟨e, he, rfl, posOK_mem (List.all_eq_true.mp SLt_ok e he)⟩
def slN (a : Nat) : String × String × String := match a with
  | 0 => ("java/lang/String", "COMPACT_STRINGS", "Z")
  | 32 => ("AddressedToYou", "KIND_ABOVE", "[I")
  | 34 => ("jdk/internal/util/Preconditions", "SIOOBE_FORMATTER", "Ljava/util/function/BiFunction;")
  | 100 => ("java/lang/String", "value", "[B")
  | _ => ("java/lang/String", "coder", "B")
theorem SLt_names : SLt.all (fun e => decide ((e.2.2.2.1, e.2.2.2.2.1, e.2.2.2.2.2.1) = slN e.2.2.1)) = true := by decide +kernel
theorem slE_w {own idx a : Nat} (h : slE own idx a = true) : Cond.fieldLink (cn own) idx (slN a).1 (slN a).2.1 (slN a).2.2 ∈ WSg := by
  obtain ⟨e, he, rfl, h1⟩ := slE_of h
  have h2 := List.all_eq_true.mp SLt_names e he
  simp only [decide_eq_true_eq] at h2
  rw [← h2]
  exact h1
theorem blE_w {own idx a : Nat} (h : blE own idx a = true) : Cond.methodLink (cn own) idx (blY a) ∈ WSg := by
  obtain ⟨e, he, h⟩ := List.any_eq_true.mp h
  simp only [Bool.and_eq_true, Nat.beq_eq] at h
  obtain ⟨⟨rfl, rfl⟩, rfl⟩ := h
  have h2 := List.all_eq_true.mp BLt_ok e he
  simp only [Bool.and_eq_true] at h2
  exact posOK_mem h2.2
theorem nlE_w {own idx : Nat} {c : String} (h : nlE own idx c = true) : Cond.classLink (cn own) idx c ∈ WSg := by
  obtain ⟨e, he, h⟩ := List.any_eq_true.mp h
  simp only [Bool.and_eq_true, Nat.beq_eq, decide_eq_true_eq] at h
  obtain ⟨⟨rfl, rfl⟩, rfl⟩ := h
  exact posOK_mem (List.all_eq_true.mp NLt_ok e he)
/-- entries -/
theorem ent_obj {cA : Nat → ClassId} {ad : Nat → Nat → Nat} {M : Mem} {c i : Nat} (h : c < 8) : ent cA ad M c i = .inr (c, fsL ad M c i) := if_pos h
theorem isIA_ge {c : Nat} (h : isIA c = true) : 40 ≤ c ∧ c ≤ 68 := by
  simp only [isIA, Bool.and_eq_true, Nat.ble_eq] at h
  exact h
theorem isLA_ge {c : Nat} (h : isLA c = true) : 20 ≤ c ∧ c ≤ 21 := by
  simp only [isLA, Bool.or_eq_true, Nat.beq_eq] at h
  omega
theorem isRA_ge {c : Nat} (h : isRA c = true) : 22 ≤ c ∧ c ≤ 26 := by
  simp only [isRA, Bool.and_eq_true, Nat.ble_eq] at h
  exact h
theorem isIA_no {c : Nat} (h : c < 40) : isIA c = false := by
  cases e : isIA c
  · rfl
  · have := isIA_ge e; omega
theorem isLA_no {c : Nat} (h : c < 20 ∨ 22 ≤ c) : isLA c = false := by
  cases e : isLA c
  · rfl
  · have := isLA_ge e; omega
theorem ent_ia {cA : Nat → ClassId} {ad : Nat → Nat → Nat} {M : Mem} {c i : Nat} (h : isIA c = true) : ent cA ad M c i = .inl (cA 0, M.1.2.1 c i, .inl (M.2.1 c i)) := by
  have := isIA_ge h
  unfold ent
  rw [if_neg (by omega), if_pos h]
theorem ent_la {cA : Nat → ClassId} {ad : Nat → Nat → Nat} {M : Mem} {c i : Nat} (h : isLA c = true) : ent cA ad M c i = .inl (cA 1, M.1.2.1 c i, .inr (.inl (M.2.2 c i))) := by
  have := isLA_ge h
  unfold ent
  rw [if_neg (by omega), if_neg (by rw [isIA_no (by omega)]; decide), if_pos h]
theorem ent_ra {cA : Nat → ClassId} {ad : Nat → Nat → Nat} {M : Mem} {c i : Nat} (h : isRA c = true) : ent cA ad M c i = .inl (cA (tyIx c), M.1.2.1 c i, .inr (.inr (.inr (.inr (fun j => (rfb M c i j).map (adq ad)))))) := by
  have := isRA_ge h
  unfold ent
  rw [if_neg (by omega), if_neg (by rw [isIA_no (by omega)]; decide), if_neg (by rw [isLA_no (by omega)]; decide)]
theorem ent_congr {cA : Nat → ClassId} {ad : Nat → Nat → Nat} {M M' : Mem} {c i : Nat} (h1 : M'.2.1 c i = M.2.1 c i) (h2 : M'.2.2 c i = M.2.2 c i) (h3 : M'.1.2.2.1 c i = M.1.2.2.1 c i) (h4 : M'.1.2.1 c i = M.1.2.1 c i) : ent cA ad M' c i = ent cA ad M c i := by
  have hf : fsL ad M' c i = fsL ad M c i := by
    unfold fsL
    apply List.map_congr_left
    intro k _
    unfold fV
    rw [h1, h3]
  have hr : rfb M' c i = rfb M c i := funext fun j => by
    unfold rfb
    rw [h3, h4]
  unfold ent
  rw [hf, h1, h2, hr, h4]
theorem upI_ne {mi : MI} {c i k : Nat} {x : Int32} {q : Nat × Nat} (h : q ≠ (c, i)) : upI mi c i k x q.1 q.2 = mi q.1 q.2 := by
  funext k'
  unfold upI
  rw [if_neg (fun e => h (Prod.ext e.1 e.2.1))]
theorem upL_ne {ml : MLg} {c i k : Nat} {x : Int64} {q : Nat × Nat} (h : q ≠ (c, i)) : upL ml c i k x q.1 q.2 = ml q.1 q.2 := by
  funext k'
  unfold upL
  rw [if_neg (fun e => h (Prod.ext e.1 e.2.1))]
theorem upI_eq {mi : MI} {c i k : Nat} {x : Int32} : upI mi c i k x c i = upd (mi c i) k x := by
  funext k'
  unfold upI upd
  by_cases e : k' = k
  · rw [if_pos ⟨rfl, rfl, e⟩, if_pos e]
  · rw [if_neg (fun q => e q.2.2), if_neg e]
theorem upL_eq {ml : MLg} {c i k : Nat} {x : Int64} : upL ml c i k x c i = vp_updL (ml c i) k x := by
  funext k'
  unfold upL vp_updL
  by_cases e : k' = k
  · rw [if_pos ⟨rfl, rfl, e⟩, if_pos e]
  · rw [if_neg (fun q => e q.2.2), if_neg e]
theorem fsL_at {ad : Nat → Nat → Nat} {M : Mem} {c i k : Nat} (hk : k < NF c) : (fsL ad M c i)[k]? = some (fV ad M c i k) := by
  unfold fsL
  rw [List.getElem?_map, List.getElem?_range hk]
  rfl
theorem fsL_len {ad : Nat → Nat → Nat} {M : Mem} {c i : Nat} : (fsL ad M c i).length = NF c := by
  unfold fsL
  rw [List.length_map, List.length_range]
theorem fsL_set {ad : Nat → Nat → Nat} {M M' : Mem} {c i k : Nat} (v : Value) (hk : k < NF c) (h1 : fV ad M' c i k = v) (h2 : ∀ j, j ≠ k → fV ad M' c i j = fV ad M c i j) : fsL ad M' c i = (fsL ad M c i).set k v := by
  apply List.ext_getElem?
  intro j
  rw [List.getElem?_set]
  by_cases e : k = j
  · subst e
    rw [if_pos rfl, if_pos (by rw [fsL_len]; exact hk), fsL_at hk, h1]
  · rw [if_neg e]
    by_cases hj : j < NF c
    · rw [fsL_at hj, fsL_at hj, h2 j (fun q => e q.symm)]
    · rw [List.getElem?_eq_none (by rw [fsL_len]; omega), List.getElem?_eq_none (by rw [fsL_len]; omega)]
theorem Rep.ro {D : va_G} {cA : Nat → ClassId} {ad : Nat → Nat → Nat} {dir : List (Nat × Nat)} {B : Nat} {M : Mem} {H : Heap} (h : Rep D cA ad dir B M H) {c i : Nat} (hm : (c, i) ∈ dir ∨ roV (c, i)) (hc : isW c = true) : (c, i) ∈ dir := by
  rcases hm with hm | hm
  · exact hm
  · have h1 := hm.rng
    have h2 := isW_cases hc
    dsimp only at h1
    omega
theorem Rep.nro {D : va_G} {cA : Nat → ClassId} {ad : Nat → Nat → Nat} {dir : List (Nat × Nat)} {B : Nat} {M : Mem} {H : Heap} (h : Rep D cA ad dir B M H) {c i : Nat} (hm : (c, i) ∈ dir ∨ roV (c, i)) (hc : 30 ≤ c ∧ c < 40) : roV (c, i) := by
  rcases hm with hm | hm
  · have h2 := isW_cases (h.2.2.1 _ hm)
    dsimp only at h2
    omega
  · exact hm
/-- a field's or a place's reference, as a value -/
theorem Rep.cvr {D : va_G} {cA : Nat → ClassId} {ad : Nat → Nat → Nat} {dir : List (Nat × Nat)} {B : Nat} {M : Mem} {H : Heap} (h : Rep D cA ad dir B M H) (ov : Value) {c i k : Nat} (hm : (c, i) ∈ dir) (hb : c < 8 ∨ k < M.1.2.1 c i) : va_rf ((M.1.2.2.1 c i k).map (adq ad)) = cv ad ov (.inr (M.1.2.2.1 c i k)) ∧ vok dir (.inr (M.1.2.2.1 c i k)) := by
  cases e : M.1.2.2.1 c i k with
  | none => exact ⟨rfl, trivial⟩
  | some q =>
    have hq := h.2.2.2.2.2 c i k q hm hb e
    have h2 := isW_cases (h.2.2.1 _ hq)
    refine ⟨?_, Or.inl hq⟩
    show Value.ref (ad q.1 q.2) = if q.1 = 34 then ov else .ref (ad q.1 q.2)
    rw [if_neg (by omega)]
theorem ROm.wr {nS : Nat} {xs : Nat → Int32} {M : Mem} (h : ROm nS xs M) {c i k : Nat} {x : Int32} (hc : c < 30 ∨ 40 ≤ c) (ml : MLg) : ROm nS xs (M.1, (upI M.2.1 c i k x, ml)) := by
  have e : ∀ c' i', 30 ≤ c' → c' < 40 → upI M.2.1 c i k x c' i' = M.2.1 c' i' := fun c' i' h1 h2 => upI_ne (q := (c', i')) (fun z => by cases z; omega)
  obtain ⟨h1, h2, h3, h4, h5⟩ := h
  refine ⟨fun j hj => ⟨(h1 j hj).1, fun z => ?_, ?_, (h1 j hj).2.2.2⟩, h2, fun z => ?_, h4, fun z => ?_⟩
  · show upI M.2.1 c i k x 30 j z = _
    rw [e 30 j (by omega) (by omega)]; exact (h1 j hj).2.1 z
  · show upI M.2.1 c i k x 31 j 1 = _
    rw [e 31 j (by omega) (by omega)]; exact (h1 j hj).2.2.1
  · show upI M.2.1 c i k x 32 0 z = _
    rw [e 32 0 (by omega) (by omega)]; exact h3 z
  · show upI M.2.1 c i k x 33 0 z = _
    rw [e 33 0 (by omega) (by omega)]; exact h5 z
theorem cv_ne {ad : Nat → Nat → Nat} {ov : Value} {c i : Nat} (h : ¬ c = 34) : cv ad ov (.inr (some (c, i))) = .ref (ad c i) := if_neg h
theorem Rep.put {D : va_G} {cA : Nat → ClassId} {ad : Nat → Nat → Nat} {dir : List (Nat × Nat)} {B : Nat} {M M' : Mem} {H H' : Heap} (h : Rep D cA ad dir B M H) {q0 c i : Nat} (hq : dir[q0]? = some (c, i)) {e : va_E}
    (hP : va_P D vwCl ((wl cA ad M dir).set q0 (ad c i, e)) H') (hD : va_D (fun q => B ≤ q) ((wl cA ad M dir).set q0 (ad c i, e))) (h1 : ent cA ad M' c i = e) (h2 : ∀ q ∈ dir, q ≠ (c, i) → ent cA ad M' q.1 q.2 = ent cA ad M q.1 q.2) (h3 : M'.1.1 = M.1.1) (h4 : ∀ c i k q, (c, i) ∈ dir → (c < 8 ∨ k < M'.1.2.1 c i) → M'.1.2.2.1 c i k = some q → q ∈ dir) : Rep D cA ad dir B M' H' := by
  obtain ⟨r1, r2, r3, r4, r5, r6⟩ := h
  rw [wl_set r2 hq h1 h2] at hP hD
  exact ⟨hP, hD, r3, fun c i w l => r4 c i w (by rw [← h3]; exact l), fun c i w => by rw [h3]; exact r5 c i w, h4⟩

section HST
variable {p : Program} {l : Launch} {e : Env} {R : Room} {s : State} {m : MethodId} {args : Array Value} {below : List Frame} {meth : Method} {c : Code} {Q : State → Prop}
variable {D : va_G} {cA : Nat → ClassId} {ov : Value} {aR0 : Nat → Nat → Nat} {B nS : Nat} {xs : Nat → Int32} {cc : ByteArray} {nL own a0 b0 : Nat}
variable {al : Bool} {cs : CS} {pc : Nat} {L : LV} {S : List AV} {M : Mem} {k : Nat → LV → List AV → Mem → Option Out} {out : Out}
variable {dir : List (Nat × Nat)} {ad : Nat → Nat → Nat} {H : Heap} {locs : List Loc} {ls : Array Slot} {len a b d : Nat} {v : Int32} {w : Int64} {brs : List (Int32 × Nat)}

set_option maxHeartbeats 1000000 in
theorem s_getfield {z : Nat} (C : Cx p s m args c cc nL own D cA ov aR0 B nS xs) (I : Inv s nL D cA ov aR0 B nS xs a0 b0 dir ad M H locs ls L S) (K : KK p l e R s m args below meth c Q nL D cA ov aR0 B nS xs a0 b0 dir ad al M k out)
    (hok : okF own nL cc pc (.getfield z, len, (a, b, d), v, w, brs) = true) (h : astep al cs (.getfield z, len, (a, b, d), v, w, brs) pc L S M k = some out) : W p l e R s m args below meth c H locs (M.1.2.2.2.1 - a0) (M.1.2.2.2.2 - b0) Q (F0 m pc ls (S.map (cv ad ov))) := by
  obtain ⟨hx, hb, hml, hown, hts, hSF, hB⟩ := C
  obtain ⟨hR, hRO, hS, hL, hvS, hvL, hro, hac, has⟩ := I
  obtain ⟨h1, h2, ⟨h3, h4, h5, h6⟩, h7, h8, h9, h10, h11, h12, h13, ho⟩ := hSF
  simp only [okF, nOK, okE, okD, Bool.and_eq_true, Bool.or_eq_true, decide_eq_true_eq, Nat.beq_eq, Bool.true_and] at hok
  obtain ⟨⟨hd, rfl⟩, hok⟩ := hok
  rcases S with _ | ⟨(x | x) | _ | ⟨ci, ii⟩, S⟩ <;> try exact ons h
  have h : (bif Nat.beq ci a then (match sk a b with
          | 4 => k (pc + 3) L (.inr (M.1.2.2.1 ci ii b) :: S) M
          | _ => k (pc + 3) L (aI (M.2.1 ci ii b) :: S) M) else none) = some out := h
  cases hc : Nat.beq ci a with
  | false => rw [hc] at h; exact ons h
  | true =>
  rw [hc] at h
  have hca : ci = a := Nat.eq_of_beq_eq_true hc
  subst hca
  have hv := vH1 hvS
  rcases hok with (hf | ⟨⟨rfl, rfl⟩, hf⟩) | ⟨⟨rfl, rfl⟩, hf⟩
  · obtain ⟨ha, hb2, hw⟩ := flE_of hf
    have hm : (ci, ii) ∈ dir := hR.ro hv (by simp [isW, ha])
    obtain ⟨q0, hq0, he⟩ := wl_at (cA := cA) (ad := ad) (m := M) hm
    rw [ent_obj ha] at he
    have hcv : cv ad ov (.inr (some (ci, ii))) = .ref (ad ci ii) := if_neg (show ¬ ci = 34 by omega)
    have go : ∀ {z : Value}, fV ad M ci ii b = z → W p l e R s m args below meth c H locs (M.1.2.2.2.1 - a0) (M.1.2.2.2.2 - b0) Q (F0 m (pc + 3) ls (z :: S.map (cv ad ov))) → W p l e R s m args below meth c H locs (M.1.2.2.2.1 - a0) (M.1.2.2.2.2 - b0) Q (F0 m pc ls (cv ad ov (.inr (some (ci, ii))) :: S.map (cv ad ov))) := fun hz kk => by
      rw [hcv]
      exact va_get (D := D) (ci := ci) (C := cn ci) (T := TT ci) (N := NF ci) hx hb hts (uws_in ha) hown h1 hR.1 q0 he (vw_at ha) b hb2 (hts _ hw) (fun _ h9 => h9) (by rw [fsL_at hb2, hz]) hd kk
    by_cases h4 : sk ci b = 4
    · rw [h4] at h
      have e := hR.cvr ov (k := b) hm (Or.inl ha)
      exact go (z := cv ad ov (.inr (M.1.2.2.1 ci ii b))) (by rw [← e.1]; exact if_pos h4) (K _ _ _ _ h (Rel.of rfl) dir ad H locs ls Ext.rf ⟨hR, hRO, hS, hL, vS1 e.2 (vT1 hvS), hvL, hro, hac, has⟩)
    · have h : k (pc + 3) L (aI (M.2.1 ci ii b) :: S) M = some out := by
        revert h
        show (match sk ci b with
          | 4 => k (pc + 3) L (.inr (M.1.2.2.1 ci ii b) :: S) M
          | _ => k (pc + 3) L (aI (M.2.1 ci ii b) :: S) M) = some out → _
        split
        · rename_i e; exact absurd e h4
        · exact id
      exact go (z := .int (M.2.1 ci ii b)) (if_neg h4) (K _ _ _ _ h (Rel.of rfl) dir ad H locs ls Ext.rf ⟨hR, hRO, hS, hL, vS1 trivial (vT1 hvS), hvL, hro, hac, has⟩)
  · have hr := hR.nro hv (by omega)
    have hi : ii < 12 := by rcases hr with hr | hr <;> (dsimp only at hr; omega)
    have h : k (pc + 3) L (.inr (M.1.2.2.1 31 ii 0) :: S) M = some out := h
    rw [(hRO.1 ii hi).2.2.2] at h
    have hcv : cv ad ov (.inr (some (31, ii))) = .ref (aR0 31 ii) := by rw [← hro 31 ii (by omega) (by omega)]; exact cv_ne (by decide)
    have hcv2 : cv ad ov (.inr (some (30, ii))) = .ref (aR0 30 ii) := by rw [← hro 30 ii (by omega) (by omega)]; exact cv_ne (by decide)
    show W p l e R s m args below meth c H locs _ _ Q (F0 m pc ls (cv ad ov (.inr (some (31, ii))) :: S.map (cv ad ov)))
    rw [hcv]
    refine vk_getf hx hb (h12 ii hi).2.2.1 hS hown (hts _ (slE_w hf)) (fun _ h9 => h9) hd ?_
    rw [← hcv2]
    exact K _ _ _ _ h (Rel.of rfl) dir ad H locs ls Ext.rf ⟨hR, hRO, hS, hL, vS1 (Or.inr (Or.inl ⟨by omega, by omega, hi⟩)) (vT1 hvS), hvL, hro, hac, has⟩
  · have hr := hR.nro hv (by omega)
    have hi : ii < 12 := by rcases hr with hr | hr <;> (dsimp only at hr; omega)
    have h : k (pc + 3) L (aI (M.2.1 31 ii 1) :: S) M = some out := h
    rw [(hRO.1 ii hi).2.2.1] at h
    have hcv : cv ad ov (.inr (some (31, ii))) = .ref (aR0 31 ii) := by rw [← hro 31 ii (by omega) (by omega)]; exact cv_ne (by decide)
    show W p l e R s m args below meth c H locs _ _ Q (F0 m pc ls (cv ad ov (.inr (some (31, ii))) :: S.map (cv ad ov)))
    rw [hcv]
    exact vk_getf hx hb (h12 ii hi).2.1 hS hown (hts _ (slE_w hf)) (fun _ h9 => h9) hd (K _ _ _ _ h (Rel.of rfl) dir ad H locs ls Ext.rf ⟨hR, hRO, hS, hL, vS1 trivial (vT1 hvS), hvL, hro, hac, has⟩)

end HST
