/-! THE HEAP HOLDS THE MEMORY: the relation between the machine's heap and the abstract memory -/
theorem posOK_mem {i : Nat} {w : Cond} (h : posOK i w = true) : w ∈ WSg := by
  unfold posOK at h
  simp only [Bool.and_eq_true, decide_eq_true_eq] at h
  exact List.mem_filter.mpr ⟨List.mem_of_getElem? h.1, h.2⟩
theorem mix_mem {j : Nat} (hj : j < 245) : MIx j ∈ MIt := by
  have h : j < MIt.length := by rw [MIt_len]; exact hj
  have e : MIx j = MIt[j] := by
    show MIt.getD j _ = _
    rw [List.getD_eq_getElem?_getD, List.getElem?_eq_getElem h]
    rfl
  rw [e]
  exact List.getElem_mem h
theorem codeW_in {j : Nat} (hj : j < 245) : Cond.code (yM j) (cM j) (mlM j) (rtM j) ∈ WSg := MIt_ok _ (mix_mem hj)
theorem miD_of {j : Nat} (hj : j < 245) : (yM j).cls = cn (owM j) ∧ mlM j ≤ 40 ∧ plainName (yM j).cls = true ∧ (yM j).cls ≠ "java/lang/invoke/MethodHandle" ∧ (yM j).cls ≠ "java/lang/invoke/VarHandle" := by
  have h := List.all_eq_true.mp MIt_d _ (mix_mem hj)
  unfold miD at h
  simp only [Bool.and_eq_true, decide_eq_true_eq] at h
  exact ⟨h.1.1.1.1, h.1.1.1.2, h.1.1.2, h.1.2, h.2⟩
theorem wsg_good {w : Cond} (h : w ∈ WSg) : (w.onTables && w.keeps) = true ∨ ∃ ty, w = .arrayClass ty := good_of_word (List.mem_filter.mp h).2
theorem wM_in {j : Nat} (hj : j < 245) : GoodIn WSg (wM j) := by
  intro w hw
  have hm : w ∈ WSg := by
    rcases List.mem_cons.mp hw with e | h
    · rw [e]; exact codeW_in hj
    · exact h
  exact ⟨hm, wsg_good hm⟩
def isW (c : Nat) : Bool := Nat.blt c 8 || isIA c || isLA c || isRA c
def roV (q : Nat × Nat) : Prop := (30 ≤ q.1 ∧ q.1 ≤ 31 ∧ q.2 < 12) ∨ (32 ≤ q.1 ∧ q.1 ≤ 34 ∧ q.2 = 0)
theorem isW_cases {c : Nat} (h : isW c = true) : c < 30 ∨ 40 ≤ c := by
  simp only [isW, isIA, isLA, isRA, Bool.or_eq_true, Bool.and_eq_true, Nat.blt_eq, Nat.ble_eq, Nat.beq_eq] at h
  omega
def tyIx (t : Nat) : Nat := if isIA t then 0 else if isLA t then 1 else if t = 22 then 2 else if t = 23 then 3 else if t = 24 then 4 else 5
def tysL (cA : Nat → ClassId) : List (ClassId × FieldType) := [(cA 0, .int), (cA 1, .long), (cA 2, .object RX0), (cA 3, .object RX1), (cA 4, .object RX4), (cA 5, .array .int)]
def adq (ad : Nat → Nat → Nat) (q : Nat × Nat) : Nat := ad q.1 q.2
def fV (ad : Nat → Nat → Nat) (m : Mem) (c i k : Nat) : Value := if sk c k = 4 then va_rf ((m.1.2.2.1 c i k).map (adq ad)) else .int (m.2.1 c i k)
def fsL (ad : Nat → Nat → Nat) (m : Mem) (c i : Nat) : List Value := (List.range (NF c)).map (fV ad m c i)
/-- a row's references, within its length -/
def rfb (m : Mem) (c i j : Nat) : Option (Nat × Nat) := if j < m.1.2.1 c i then m.1.2.2.1 c i j else none
theorem rfb_in {m : Mem} {c i j : Nat} (h : j < m.1.2.1 c i) : rfb m c i j = m.1.2.2.1 c i j := if_pos h
def ent (cA : Nat → ClassId) (ad : Nat → Nat → Nat) (m : Mem) (c i : Nat) : va_E :=
  if c < 8 then .inr (c, fsL ad m c i)
  else if isIA c then .inl (cA 0, m.1.2.1 c i, .inl (m.2.1 c i))
  else if isLA c then .inl (cA 1, m.1.2.1 c i, .inr (.inl (m.2.2 c i)))
  else .inl (cA (tyIx c), m.1.2.1 c i, .inr (.inr (.inr (.inr (fun j => (rfb m c i j).map (adq ad))))))
def wl (cA : Nat → ClassId) (ad : Nat → Nat → Nat) (m : Mem) (dir : List (Nat × Nat)) : va_W := dir.map (fun q => (ad q.1 q.2, ent cA ad m q.1 q.2))
def slen (i : Nat) : Nat := [5, 6, 6, 7, 4, 3, 6, 6, 5, 7, 4, 3].getD i 0
def sbyL : List (List Int32) := [[99, 101, 108, 108, 115], [119, 97, 108, 107, 101, 114], [98, 111, 116, 116, 108, 101], [99, 117, 114, 114, 101, 110, 116], [119, 105, 110, 100], [100, 97, 121], [119, 97, 108, 107, 101, 114], [98, 111, 116, 116, 108, 101], [99, 101, 108, 108, 115], [99, 117, 114, 114, 101, 110, 116], [119, 105, 110, 100], [100, 97, 121]]
def sby (i j : Nat) : Int32 := (sbyL.getD i []).getD j 0
def kaF (j : Nat) : Int32 := [-1, 0, 0, 1, 2, 0].getD j 0
/-- what is only read, in the memory -/
def ROm (nS : Nat) (xs : Nat → Int32) (m : Mem) : Prop :=
  (∀ i, i < 12 → m.1.2.1 30 i = slen i ∧ (∀ j, m.2.1 30 i j = sby i j) ∧ m.2.1 31 i 1 = 0 ∧ m.1.2.2.1 31 i 0 = some (30, i)) ∧ m.1.2.1 32 0 = 6 ∧ (∀ j, m.2.1 32 0 j = kaF j) ∧ m.1.2.1 33 0 = nS ∧ ∀ j, m.2.1 33 0 j = xs j
/-- what is only read, in the machine -/
def SFp (D : va_G) (cA : Nat → ClassId) (ov : Value) (aR : Nat → Nat → Nat) (B nS : Nat) (xs : Nat → Int32) (U : State) : Prop :=
  va_K D vwCl (tysL cA) U ∧ (∀ e ∈ NNt, va_Nw (.methodLinkNest (cn e.1) e.2.1 (yM e.2.2.1) RX6) U) ∧ (va_AO RX0 U ∧ va_AO RX1 U ∧ va_AO RX4 U ∧ va_AOA .int U) ∧
  va_Z "AddressedToYou" "KIND_ABOVE" "[I" (.ref (aR 32 0)) (fun q => B ≤ q) U U.heap ∧ va_Z "java/lang/String" "COMPACT_STRINGS" "Z" (.int 1) (fun q => B ≤ q) U U.heap ∧ va_Z "jdk/internal/util/Preconditions" "SIOOBE_FORMATTER" "Ljava/util/function/BiFunction;" ov (fun q => B ≤ q) U U.heap ∧
  va_T .int (aR 32 0) 6 (fun j => .int (kaF j)) (fun q => B ≤ q) U U.heap ∧ va_T .int (aR 33 0) nS (fun j => .int (xs j)) (fun q => B ≤ q) U U.heap ∧
  (∀ i, i < 12 → va_O "java/lang/String" (aR 31 i) (fun q => B ≤ q) U U.heap ∧ va_OF "java/lang/String" "coder" "B" (.int 0) (aR 31 i) (fun q => B ≤ q) U U.heap ∧ va_OF "java/lang/String" "value" "[B" (.ref (aR 30 i)) (aR 31 i) (fun q => B ≤ q) U U.heap ∧ va_T .byte (aR 30 i) (slen i) (fun j => .int (sby i j)) (fun q => B ≤ q) U U.heap) ∧
  (∀ i e, KSt[i]? = some e → vk_R (cn e.1) e.2.1 e.2.2.1 (aR 31 i) U) ∧ (ov = .null ∨ ∃ a, ov = .ref a)
theorem va_AOA.moved {ty : FieldType} {s U : State} (hv : s.vm.Alike U.vm) (h : va_AOA ty s) : va_AOA ty U := by
  have h1 : (Cond.arrayOver (.array ty)).before #[] (s.setVm U.vm) = true := by rw [Cond.arrayOver_setVmC hv]; exact h
  exact h1
theorem SFp.go {D : va_G} {cA : Nat → ClassId} {ov : Value} {aR : Nat → Nat → Nat} {B nS : Nat} {xs : Nat → Int32} {s U : State} (h : SFp D cA ov aR B nS xs s) (hW : s.WarmedH U.vm) (hq : ∀ a : Nat, a < s.heap.size → ¬ B ≤ a → U.heap[a]? = s.heap[a]?) : SFp D cA ov aR B nS xs U := by
  obtain ⟨h1, h2, ⟨h3, h4, h5, h6⟩, h7, h8, h9, h10, h11, h12, h13, h14⟩ := h
  have hv := hW.alike
  exact ⟨h1.moved hv, fun e he => va_Nw.warmM hW (h2 e he), ⟨h3.moved hv, h4.moved hv, h5.moved hv, h6.moved hv⟩, (h7.moved hv).kept hq, (h8.moved hv).kept hq, (h9.moved hv).kept hq, (h10.moved hv).kept hq, (h11.moved hv).kept hq,
    fun i hi => ⟨((h12 i hi).1.moved hv).kept hq, ((h12 i hi).2.1.moved hv).kept hq, ((h12 i hi).2.2.1.moved hv).kept hq, ((h12 i hi).2.2.2.moved hv).kept hq⟩, fun i e he => (h13 i e he).warm hW, h14⟩
theorem SFp.call {D : va_G} {cA : Nat → ClassId} {ov : Value} {aR : Nat → Nat → Nat} {B nS : Nat} {xs : Nat → Int32} {U : State} (h : SFp D cA ov aR B nS xs U) (a : Array Value) (g : JFrame) (mk : MethodId) : SFp D cA ov aR B nS xs (U.calling g mk a) := by
  obtain ⟨h1, h2, ⟨h3, h4, h5, h6⟩, h7, h8, h9, h10, h11, h12, h13, h14⟩ := h
  have hv : U.vm.Alike (U.calling g mk a).vm := Vm.Alike.refl U.vm
  have hq : ∀ q : Nat, q < U.heap.size → ¬ B ≤ q → (U.calling g mk a).heap[q]? = U.heap[q]? := fun _ _ _ => rfl
  exact ⟨h1.moved hv, fun e he => va_Nw.same rfl rfl (h2 e he), ⟨h3.moved hv, h4.moved hv, h5.moved hv, h6.moved hv⟩, (h7.moved hv).kept hq, (h8.moved hv).kept hq, (h9.moved hv).kept hq, (h10.moved hv).kept hq, (h11.moved hv).kept hq,
    fun i hi => ⟨((h12 i hi).1.moved hv).kept hq, ((h12 i hi).2.1.moved hv).kept hq, ((h12 i hi).2.2.1.moved hv).kept hq, ((h12 i hi).2.2.2.moved hv).kept hq⟩, fun i e he => (h13 i e he).same rfl, h14⟩
/-- the heap holds the memory: the cells are those of the directory -/
def Rep (D : va_G) (cA : Nat → ClassId) (ad : Nat → Nat → Nat) (dir : List (Nat × Nat)) (B : Nat) (m : Mem) (H : Heap) : Prop :=
  va_P D vwCl (wl cA ad m dir) H ∧ va_D (fun q => B ≤ q) (wl cA ad m dir) ∧ (∀ q ∈ dir, isW q.1 = true) ∧ (∀ c i, isW c = true → i < m.1.1 c → (c, i) ∈ dir) ∧ (∀ c i, (c, i) ∈ dir → i < m.1.1 c) ∧ (∀ c i k q, (c, i) ∈ dir → (c < 8 ∨ k < m.1.2.1 c i) → m.1.2.2.1 c i k = some q → q ∈ dir)
def cv (ad : Nat → Nat → Nat) (ov : Value) (v : AV) : Value := match v with
  | .inl (.inl x) => .int x
  | .inl (.inr x) => .long x
  | .inr none => .null
  | .inr (some q) => if q.1 = 34 then ov else .ref (ad q.1 q.2)
def vok (dir : List (Nat × Nat)) (v : AV) : Prop := match v with
  | .inr (some q) => q ∈ dir ∨ roV q
  | _ => True
def LR (ad : Nat → Nat → Nat) (ov : Value) (ls : Array Slot) (nL : Nat) (L : LV) : Prop := ls.size = nL ∧ lv_wf ls ∧ L.length = nL ∧ ∀ i v, gL L i = some v → ls[i]? = some (.val (cv ad ov v))
def Ext (dir dir' : List (Nat × Nat)) (ad ad' : Nat → Nat → Nat) : Prop := (∀ q ∈ dir, q ∈ dir' ∧ ad' q.1 q.2 = ad q.1 q.2) ∧ ∀ c i, 30 ≤ c → c ≤ 34 → ad' c i = ad c i
theorem Ext.rf {dir : List (Nat × Nat)} {ad : Nat → Nat → Nat} : Ext dir dir ad ad := ⟨fun _ h => ⟨h, rfl⟩, fun _ _ _ _ => rfl⟩
theorem Ext.trans {d1 d2 d3 : List (Nat × Nat)} {a1 a2 a3 : Nat → Nat → Nat} (h : Ext d1 d2 a1 a2) (g : Ext d2 d3 a2 a3) : Ext d1 d3 a1 a3 :=
  ⟨fun q hq => ⟨(g.1 q (h.1 q hq).1).1, ((g.1 q (h.1 q hq).1).2).trans (h.1 q hq).2⟩, fun c i u v => (g.2 c i u v).trans (h.2 c i u v)⟩
theorem roV.rng {q : Nat × Nat} (h : roV q) : 30 ≤ q.1 ∧ q.1 ≤ 34 := by
  rcases h with h | h <;> omega
theorem vok.ext {dir dir' : List (Nat × Nat)} {ad ad' : Nat → Nat → Nat} (E : Ext dir dir' ad ad') {v : AV} (h : vok dir v) : vok dir' v := by
  rcases v with (x | x) | (_ | q)
  · trivial
  · trivial
  · trivial
  · rcases h with h | h
    · exact Or.inl (E.1 q h).1
    · exact Or.inr h
theorem cv_ext {dir dir' : List (Nat × Nat)} {ad ad' : Nat → Nat → Nat} (E : Ext dir dir' ad ad') {v : AV} (h : vok dir v) (ov : Value) : cv ad' ov v = cv ad ov v := by
  rcases v with (x | x) | (_ | q)
  · rfl
  · rfl
  · rfl
  · show (if q.1 = 34 then ov else Value.ref (ad' q.1 q.2)) = (if q.1 = 34 then ov else Value.ref (ad q.1 q.2))
    rcases h with h | h
    · rw [(E.1 q h).2]
    · rw [E.2 _ _ h.rng.1 h.rng.2]
theorem cv_exts {dir dir' : List (Nat × Nat)} {ad ad' : Nat → Nat → Nat} (E : Ext dir dir' ad ad') {S : List AV} (h : ∀ v ∈ S, vok dir v) (ov : Value) : S.map (cv ad' ov) = S.map (cv ad ov) :=
  List.map_congr_left fun v hv => cv_ext E (h v hv) ov
theorem cv_cat {ad : Nat → Nat → Nat} {ov : Value} (ho : ov = .null ∨ ∃ a, ov = .ref a) (v : AV) : (cv ad ov v).category = cat v := by
  rcases v with (x | x) | (_ | q)
  · rfl
  · rfl
  · rfl
  · show (if q.1 = 34 then ov else Value.ref (ad q.1 q.2)).category = 1
    split
    · rcases ho with rfl | ⟨a, rfl⟩ <;> rfl
    · rfl
theorem LR.ext {dir dir' : List (Nat × Nat)} {ad ad' : Nat → Nat → Nat} (E : Ext dir dir' ad ad') {ov : Value} {ls : Array Slot} {nL : Nat} {L : LV} (hv : ∀ i v, gL L i = some v → vok dir v) (h : LR ad ov ls nL L) : LR ad' ov ls nL L :=
  ⟨h.1, h.2.1, h.2.2.1, fun i v e => by rw [cv_ext E (hv i v e)]; exact h.2.2.2 i v e⟩
theorem inB_in {i : Int32} {n : Nat} (h : inB i n = true) : vp_in i n := by
  unfold inB at h
  simp only [Bool.and_eq_true, decide_eq_true_eq] at h
  intro g
  rcases g with g | g
  · exact absurd h.1 (Int32.not_le.mpr g)
  · omega
theorem gL_sL (L : LV) (i : Nat) (v : Option AV) (j : Nat) : gL (sL L i v) j = if j = i ∧ i < L.length then v else gL L j := by
  induction L generalizing i j with
  | nil => simp [sL, gL]
  | cons x l ih =>
    cases i with
    | zero => cases j with
      | zero => simp [sL, gL]
      | succ j => simp [sL, gL]
    | succ i => cases j with
      | zero => simp [sL, gL]
      | succ j => simp [sL, gL, ih]
theorem sL_len (L : LV) (i : Nat) (v : Option AV) : (sL L i v).length = L.length := by
  induction L generalizing i with
  | nil => simp [sL]
  | cons x l ih => cases i with
    | zero => simp [sL]
    | succ i => simp [sL, ih]
theorem st1_len (L : LV) (i : Nat) (v : AV) : (st1 L i v).length = L.length := by
  unfold st1
  cases i with
  | zero => simp [sL_len]
  | succ j =>
    dsimp only
    split <;> simp [sL_len]
theorem gL_lt {L : LV} {i : Nat} {v : AV} (h : gL L i = some v) : i < L.length := by
  induction L generalizing i with
  | nil => simp [gL] at h
  | cons x l ih => cases i with
    | zero => simp
    | succ i => simp [gL] at h; simpa using ih h
theorem st1_get {L : LV} {i : Nat} {v : AV} (hi : i < L.length) {j : Nat} {x : AV} (h : gL (st1 L i v) j = some x) : (j = i ∧ x = v) ∨ (j ≠ i ∧ gL L j = some x ∧ ¬ (j + 1 = i ∧ cat x = 2)) := by
  unfold st1 at h
  cases i with
  | zero =>
    rw [gL_sL] at h
    by_cases e : j = 0
    · subst e; rw [if_pos ⟨rfl, hi⟩] at h; exact Or.inl ⟨rfl, (Option.some.inj h).symm⟩
    · rw [if_neg (fun q => e q.1)] at h; exact Or.inr ⟨e, h, fun q => by omega⟩
  | succ i =>
    dsimp only at h
    split at h
    · rename_i y hy
      rw [gL_sL, sL_len] at h
      by_cases e : j = i + 1
      · rw [if_pos ⟨e, hi⟩] at h; exact Or.inl ⟨e, (Option.some.inj h).symm⟩
      · rw [if_neg (fun q => e q.1), gL_sL] at h
        by_cases e2 : j = i
        · rw [if_pos ⟨e2, by omega⟩] at h; cases h
        · rw [if_neg (fun q => e2 q.1)] at h; exact Or.inr ⟨e, h, fun q => e2 (by omega)⟩
    · rename_i hn
      rw [gL_sL] at h
      by_cases e : j = i + 1
      · rw [if_pos ⟨e, hi⟩] at h; exact Or.inl ⟨e, (Option.some.inj h).symm⟩
      · rw [if_neg (fun q => e q.1)] at h
        refine Or.inr ⟨e, h, fun q => ?_⟩
        have e2 : j = i := by omega
        subst e2
        rcases x with (x | x) | x
        · exact absurd q.2 (by simp [cat])
        · exact hn x h
        · exact absurd q.2 (by simp [cat])
/-- the listed locals -/
def lvOf (ad : Nat → Nat → Nat) (ov : Value) (L : LV) : List (Nat × Value) := (List.range L.length).filterMap (fun i => (gL L i).map (fun v => (i, cv ad ov v)))
theorem lvOf_mem {ad : Nat → Nat → Nat} {ov : Value} {L : LV} {i : Nat} {v : AV} (h : gL L i = some v) : (i, cv ad ov v) ∈ lvOf ad ov L :=
  List.mem_filterMap.mpr ⟨i, List.mem_range.mpr (gL_lt h), by rw [h]; rfl⟩
theorem LR.has {ad : Nat → Nat → Nat} {ov : Value} {ls : Array Slot} {nL : Nat} {L : LV} (h : LR ad ov ls nL L) : lv_has ls nL (lvOf ad ov L) := by
  refine ⟨h.1, h.2.1, fun q hq => ?_⟩
  obtain ⟨i, -, hi⟩ := List.mem_filterMap.mp hq
  cases hg : gL L i with
  | none => rw [hg] at hi; cases hi
  | some v =>
    rw [hg] at hi
    cases hi
    exact h.2.2.2 i v hg
theorem LR.store {ad : Nat → Nat → Nat} {ov : Value} (ho : ov = .null ∨ ∃ a, ov = .ref a) {ls ls' : Array Slot} {nL : Nat} {L : LV} (h : LR ad ov ls nL L) {i : Nat} (hi : i < nL) {v : AV}
    (h' : lv_has ls' nL ((i, cv ad ov v) :: (lvOf ad ov L).filter (fun q => !(q.1 == i) && !(q.1 + 1 == i && q.2.category == 2)))) : LR ad ov ls' nL (st1 L i v) := by
  refine ⟨h'.1, h'.2.1, by rw [st1_len]; exact h.2.2.1, fun j x hx => ?_⟩
  rcases st1_get (by rw [h.2.2.1]; exact hi) hx with ⟨rfl, rfl⟩ | ⟨h1, h2, h3⟩
  · exact h'.2.2 _ List.mem_cons_self
  · refine h'.2.2 (j, cv ad ov x) (List.mem_cons_of_mem _ (List.mem_filter.mpr ⟨lvOf_mem h2, ?_⟩))
    have e1 : (j == i) = false := by simpa using h1
    have e2 : (j + 1 == i && (cv ad ov x).category == 2) = false := by
      rw [cv_cat ho]
      by_cases a1 : j + 1 = i
      · have : ¬ cat x = 2 := fun a2 => h3 ⟨a1, a2⟩
        simp [this]
      · simp [a1]
    show (!(j == i) && !(j + 1 == i && (cv ad ov x).category == 2)) = true
    rw [e1, e2]
    rfl
theorem LR.store2 {ad : Nat → Nat → Nat} {ov : Value} (ho : ov = .null ∨ ∃ a, ov = .ref a) {ls ls' : Array Slot} {nL : Nat} {L : LV} (h : LR ad ov ls nL L) {i : Nat} (hi : i + 1 < nL) {v : AV}
    (h' : lv_has ls' nL ((i, cv ad ov v) :: (lvOf ad ov L).filter (fun q => !(q.1 == i) && (!(q.1 == i + 1) && !(q.1 + 1 == i && q.2.category == 2))))) : LR ad ov ls' nL (st2 L i v) := by
  refine ⟨h'.1, h'.2.1, by unfold st2; rw [sL_len, st1_len]; exact h.2.2.1, fun j x hx => ?_⟩
  unfold st2 at hx
  rw [gL_sL] at hx
  by_cases e : j = i + 1
  · rw [if_pos ⟨e, by rw [st1_len, h.2.2.1]; exact hi⟩] at hx; cases hx
  · rw [if_neg (fun q => e q.1)] at hx
    rcases st1_get (by rw [h.2.2.1]; omega) hx with ⟨rfl, rfl⟩ | ⟨h1, h2, h3⟩
    · exact h'.2.2 _ List.mem_cons_self
    · refine h'.2.2 (j, cv ad ov x) (List.mem_cons_of_mem _ (List.mem_filter.mpr ⟨lvOf_mem h2, ?_⟩))
      have e1 : (j == i) = false := by simpa using h1
      have e2 : (j + 1 == i && (cv ad ov x).category == 2) = false := by
        rw [cv_cat ho]
        by_cases a1 : j + 1 = i
        · have : ¬ cat x = 2 := fun a2 => h3 ⟨a1, a2⟩
          simp [this]
        · simp [a1]
      have e3 : (j == i + 1) = false := by simpa using e
      show (!(j == i) && (!(j == i + 1) && !(j + 1 == i && (cv ad ov x).category == 2))) = true
      rw [e1, e2, e3]
      rfl
/-- places in the directory -/
theorem wl_at {cA : Nat → ClassId} {ad : Nat → Nat → Nat} {m : Mem} {dir : List (Nat × Nat)} {c i : Nat} (h : (c, i) ∈ dir) : ∃ q0 : Nat, dir[q0]? = some (c, i) ∧ (wl cA ad m dir)[q0]? = some (ad c i, ent cA ad m c i) := by
  obtain ⟨q0, hq⟩ := List.mem_iff_getElem?.mp h
  exact ⟨q0, hq, by unfold wl; rw [List.getElem?_map, hq]; rfl⟩
theorem wl_inj {cA : Nat → ClassId} {ad : Nat → Nat → Nat} {m : Mem} {dir : List (Nat × Nat)} {A : Nat → Prop} (hD : va_D A (wl cA ad m dir)) {j k : Nat} {p q : Nat × Nat} (hj : dir[j]? = some p) (hk : dir[k]? = some q) (e : ad p.1 p.2 = ad q.1 q.2) : j = k := by
  refine hD.1 j k (ad p.1 p.2, ent cA ad m p.1 p.2) (ad q.1 q.2, ent cA ad m q.1 q.2) ?_ ?_ e
  · unfold wl; rw [List.getElem?_map, hj]; rfl
  · unfold wl; rw [List.getElem?_map, hk]; rfl
theorem wl_set {cA : Nat → ClassId} {ad : Nat → Nat → Nat} {m m' : Mem} {dir : List (Nat × Nat)} {A : Nat → Prop} (hD : va_D A (wl cA ad m dir)) {q0 c i : Nat} (hq : dir[q0]? = some (c, i)) {e : va_E} (h1 : ent cA ad m' c i = e) (h2 : ∀ q ∈ dir, q ≠ (c, i) → ent cA ad m' q.1 q.2 = ent cA ad m q.1 q.2) :
    (wl cA ad m dir).set q0 (ad c i, e) = wl cA ad m' dir := by
  apply List.ext_getElem?
  intro k
  rw [List.getElem?_set]
  by_cases hk : q0 = k
  · subst hk
    have hl : q0 < (wl cA ad m dir).length := by unfold wl; rw [List.length_map]; exact (List.getElem?_eq_some_iff.mp hq).1
    rw [if_pos rfl, if_pos hl]
    unfold wl
    rw [List.getElem?_map, hq]
    simp only [Option.map_some]
    rw [h1]
  · rw [if_neg hk]
    unfold wl
    rw [List.getElem?_map, List.getElem?_map]
    cases hd : dir[k]? with
    | none => rfl
    | some q =>
      have hne : q ≠ (c, i) := fun e2 => hk (wl_inj hD hq (by rw [← e2]; exact hd) rfl)
      simp only [Option.map_some]
      rw [h2 q (List.mem_of_getElem? hd) hne]
