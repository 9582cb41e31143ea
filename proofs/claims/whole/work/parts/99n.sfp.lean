/-! WHAT STANDS AT THE LAW'S ENTRY: classes, rows' classes, statics, the strings, the script -/
theorem aoa_k {U : State} {ty : FieldType} (h : va_AOA ty U) : ∃ cA, ArrOfT U cA (.array ty) ∧ va_RA U cA (.array ty) := by
  have h : (Cond.arrayOver (.array ty)).holds #[] U none U [] = true := h
  simp only [Cond.holds, Cond.value, beq_iff_eq] at h
  cases hc : U.vm.findClass (FieldType.array ty).toString with
  | none => simp [hc] at h
  | some comp =>
    simp only [hc, Option.bind_some, Option.bind_eq_some_iff, Option.map_eq_some_iff] at h
    obtain ⟨c, hi, k, hk, hb⟩ := h
    cases hkind : k.kind with
    | array component ty2 =>
      rw [hkind] at hb
      simp at hb
      have h4 : k.kind = .array component (.array ty) := by rw [hkind, hb.1]
      exact ⟨c, fun N z => ⟨(fun k h => by cases h), k, hk, component, h4⟩, hb.2⟩
    | _ => rw [hkind] at hb; simp at hb
theorem ao_k {U : State} {C : String} (h : va_AO C U) : ∃ cA, ArrOfT U cA (.object C) ∧ va_RA U cA (.object C) := by
  obtain ⟨comp, c, k, h1, h2, h3, h4, h5⟩ := Cond.arrayOver_spec h
  exact ⟨c, fun N z => ⟨(fun k h => by cases h), k, h3, comp, h4⟩, k, comp, h3, h4, h1, h5⟩
theorem aint_k {U : State} {A : Array Value} (h : (Cond.arrayClass .int).before A U = true) : ∃ cA, ArrOfT U cA .int ∧ va_RA U cA .int := by
  obtain ⟨c, k, comp, h1, h2, h3⟩ := Cond.arrayClass_spec h
  exact ⟨c, fun N z => ⟨(fun k h => by cases h), k, h2, comp, h3⟩, h1⟩
theorem along_k {U : State} {A : Array Value} (h : (Cond.arrayClass .long).before A U = true) : ∃ cA, ArrOfT U cA .long ∧ va_RA U cA .long := by
  obtain ⟨c, k, comp, h1, h2, h3⟩ := Cond.arrayClass_spec h
  exact ⟨c, fun N z => ⟨(fun k h => by cases h), k, h2, comp, h3⟩, h1⟩
/-- a string constant, out of what the start tells of it -/
theorem str_of {args : Array Value} {s : State} {t : Term} {A : Nat → Prop} {n : Nat} {f0 : Nat → Int32} (hn : n < 2 ^ 31) (h1 : (Cond.exactly t "java/lang/String").before args s = true) (h2 : (Cond.eq (.field t "java/lang/String" "coder" "B") (.int 0)).before args s = true)
    (h3 : (Cond.arrayOf (.field t "java/lang/String" "value" "[B") .byte).before args s = true) (h4 : (Cond.eq (.length (.field t "java/lang/String" "value" "[B")) (.int (Int32.ofNat n))).before args s = true)
    (h5 : ∀ j : Nat, j < n → (Cond.eq (.elem (.field t "java/lang/String" "value" "[B") (.int (Int32.ofNat j))) (.int (f0 j))).before args s = true) (hA : ∀ a : Nat, a < s.heap.size → ¬ A a) :
    ∃ q : Nat × Nat, t.eval args s none [] s = some (.ref q.1) ∧ va_O "java/lang/String" q.1 A s s.heap ∧ va_OF "java/lang/String" "coder" "B" (.int 0) q.1 A s s.heap ∧ va_OF "java/lang/String" "value" "[B" (.ref q.2) q.1 A s s.heap ∧ va_T .byte q.2 n (fun j => .int (f0 j)) A s s.heap := by
  obtain ⟨a, c, cl, k, q1, q2, q3, q4, q5, q6, -⟩ := Cond.exactly_spec (args := args) (first := s) (o := none) (s := s) (idx := []) (t := t) (cls := "java/lang/String") h1
  obtain ⟨r, hr, hT⟩ := va_Tof (f := fun j => .int (f0 j)) (A := A) hn h3 (va_eqt h4) (fun j hj => va_eqt (h5 j hj)) hA
  exact ⟨(a, r), q1, ⟨cl, q3, q5, by rw [q6]; exact q2, hA a (Array.getElem?_eq_some_iff.mp q3).1⟩, vk_OFof q1 (va_eqt h2) hA, vk_OFof q1 hr hA, hT⟩
def flL : List Cond := flatC (Jvm.Cond.and given_1 narrow_1)
def tmS (i : Nat) : Term := match KSt[i]? with
  | some e => .string (cn e.1) e.2.1
  | none => .int 0
set_option maxRecDepth 100000 in
theorem str_words : ((List.range 12).all fun i => decide (Cond.exactly (tmS i) "java/lang/String" ∈ flL) && (decide (Cond.eq (.field (tmS i) "java/lang/String" "coder" "B") (.int 0) ∈ flL) && (decide (Cond.arrayOf (.field (tmS i) "java/lang/String" "value" "[B") .byte ∈ flL) && (decide (Cond.eq (.length (.field (tmS i) "java/lang/String" "value" "[B")) (.int (Int32.ofNat (slen i))) ∈ flL) && (List.range (slen i)).all (fun j => decide (Cond.eq (.elem (.field (tmS i) "java/lang/String" "value" "[B") (.int (Int32.ofNat j))) (.int (sby i j)) ∈ flL)))))) = true := by decide +kernel
theorem slen_lt (i : Nat) : slen i < 2 ^ 31 := by
  have h : ∀ l : List Nat, (∀ x ∈ l, x < 10) → l.getD i 0 < 10 := fun l hl => by
    rw [List.getD_eq_getElem?_getD]
    cases e : l[i]? with
    | none => decide
    | some x => exact hl x (List.mem_of_getElem? e)
  have := h [5, 6, 6, 7, 4, 3, 6, 6, 5, 7, 4, 3] (by decide)
  exact Nat.lt_trans this (by decide)
set_option maxRecDepth 100000 in
set_option maxHeartbeats 4000000 in
theorem sfp_start {s : State} {b L : Nat} {xs : Nat → Int32} (hX : va_X b L xs s s.heap) (hbl : b < s.heap.size) (hL : L ≤ 3072) (hts : ∀ w ∈ lw_tbl, w.before #[Value.ref b] s = true) (hgv : (Jvm.Cond.and given_1 narrow_1).before #[Value.ref b] s = true) :
    ∃ (D : va_G) (cA : Nat → ClassId) (ov : Value) (aR0 : Nat → Nat → Nat), SFp D cA ov aR0 s.heap.size L xs s ∧ aR0 33 0 = b := by
  have hs := flat_of_before _ hgv
  have hA : ∀ a : Nat, a < s.heap.size → ¬ (fun q : Nat => s.heap.size ≤ q) a := fun a h => Nat.not_le.mpr h
  have hcl : ∀ k : Nat, ∃ q : ClassId × (Nat → Nat), k < 8 → u_Kn s (cn k) (TT k) (NF k) q.1 q.2 := fun k => by
    by_cases hk : k < 8
    · obtain ⟨c0, i0, h0⟩ := u_known hts (fun w hw => (List.mem_filter.mp (uws_in hk w hw)).1) (hts _ (List.mem_filter.mp (inst_in hk)).1)
      exact ⟨(c0, i0), fun _ => h0⟩
    · exact ⟨(0, fun _ => 0), fun h => absurd h hk⟩
  obtain ⟨f, hf⟩ : ∃ f : Nat → ClassId × (Nat → Nat), ∀ k : Nat, k < 8 → u_Kn s (cn k) (TT k) (NF k) (f k).1 (f k).2 := ⟨fun k => Classical.choose (hcl k), fun k => Classical.choose_spec (hcl k)⟩
  have w0 : va_AO RX0 s := va_AO.of (hts (.arrayOver (.object RX0)) (by decide +kernel))
  have w1 : va_AO RX1 s := va_AO.of (hts (.arrayOver (.object RX1)) (by decide +kernel))
  have w4 : va_AO RX4 s := va_AO.of (hts (.arrayOver (.object RX4)) (by decide +kernel))
  have wa : va_AOA .int s := va_AOA.of (hts (.arrayOver (.array .int)) (by decide +kernel))
  obtain ⟨c0, A0⟩ := aint_k (hts (.arrayClass .int) (by decide +kernel))
  obtain ⟨c1, A1⟩ := along_k (hts (.arrayClass .long) (by decide +kernel))
  obtain ⟨c2, A2⟩ := ao_k w0
  obtain ⟨c3, A3⟩ := ao_k w1
  obtain ⟨c4, A4⟩ := ao_k w4
  obtain ⟨c5, A5⟩ := aoa_k wa
  obtain ⟨cA, hcA⟩ : ∃ cA : Nat → ClassId, cA 0 = c0 ∧ cA 1 = c1 ∧ cA 2 = c2 ∧ cA 3 = c3 ∧ cA 4 = c4 ∧ cA 5 = c5 := ⟨fun k => match k with | 0 => c0 | 1 => c1 | 2 => c2 | 3 => c3 | 4 => c4 | _ => c5, rfl, rfl, rfl, rfl, rfl, rfl⟩
  obtain ⟨rfl, rfl, rfl, rfl, rfl, rfl⟩ := hcA
  have hK : va_K (fun k => (f k).1, fun k => (f k).2) vwCl (tysL cA) s := by
    refine ⟨fun c q hq => ?_, fun k q hq => ?_⟩
    · have h8 : c < 8 := (List.getElem?_eq_some_iff.mp hq).1
      rw [vw_at h8] at hq
      cases hq
      exact hf c h8
    · match k, hq with
      | 0, hq => cases hq; exact A0
      | 1, hq => cases hq; exact A1
      | 2, hq => cases hq; exact A2
      | 3, hq => cases hq; exact A3
      | 4, hq => cases hq; exact A4
      | 5, hq => cases hq; exact A5
      | k + 6, hq => simp [tysL] at hq
  obtain ⟨tk, hk1, hk2⟩ := va_Tof (args := #[Value.ref b]) (s := s) (tm := .static "AddressedToYou" "KIND_ABOVE" "[I") (ty := .int) (N := 6) (f := fun j => .int (kaF j)) (A := fun q => s.heap.size ≤ q) (by decide) (hs (.arrayOf (.static "AddressedToYou" "KIND_ABOVE" "[I") .int) (by decide +kernel)) (va_eqt (hs (.eq (.length (.static "AddressedToYou" "KIND_ABOVE" "[I")) (.int (Int32.ofNat 6))) (by decide +kernel))) (fun j hj => by
      have : j = 0 ∨ j = 1 ∨ j = 2 ∨ j = 3 ∨ j = 4 ∨ j = 5 := by omega
      rcases this with rfl | rfl | rfl | rfl | rfl | rfl
      · exact va_eqt (hs (.eq (.elem (.static "AddressedToYou" "KIND_ABOVE" "[I") (.int (Int32.ofNat 0))) (.int (kaF 0))) (by decide +kernel))
      · exact va_eqt (hs (.eq (.elem (.static "AddressedToYou" "KIND_ABOVE" "[I") (.int (Int32.ofNat 1))) (.int (kaF 1))) (by decide +kernel))
      · exact va_eqt (hs (.eq (.elem (.static "AddressedToYou" "KIND_ABOVE" "[I") (.int (Int32.ofNat 2))) (.int (kaF 2))) (by decide +kernel))
      · exact va_eqt (hs (.eq (.elem (.static "AddressedToYou" "KIND_ABOVE" "[I") (.int (Int32.ofNat 3))) (.int (kaF 3))) (by decide +kernel))
      · exact va_eqt (hs (.eq (.elem (.static "AddressedToYou" "KIND_ABOVE" "[I") (.int (Int32.ofNat 4))) (.int (kaF 4))) (by decide +kernel))
      · exact va_eqt (hs (.eq (.elem (.static "AddressedToYou" "KIND_ABOVE" "[I") (.int (Int32.ofNat 5))) (.int (kaF 5))) (by decide +kernel))) hA
  have z1 := va_Zof (hts (.laysStatic "AddressedToYou" "KIND_ABOVE" "[I") (by decide +kernel)) (hts (.initialized "AddressedToYou") (by decide +kernel)) hk1 hA
  have z2 := va_Zof (hts (.laysStatic "java/lang/String" "COMPACT_STRINGS" "Z") (by decide +kernel)) (hts (.initialized "java/lang/String") (by decide +kernel)) (va_eqi (hs (.eq (.static "java/lang/String" "COMPACT_STRINGS" "Z") (.int 1)) (by decide +kernel))) hA
  have z3 := va_Zqof (hts (.laysStatic "jdk/internal/util/Preconditions" "SIOOBE_FORMATTER" "Ljava/util/function/BiFunction;") (by decide +kernel)) (hts (.initialized "jdk/internal/util/Preconditions") (by decide +kernel)) (hs (.isRef (.static "jdk/internal/util/Preconditions" "SIOOBE_FORMATTER" "Ljava/util/function/BiFunction;")) (by decide +kernel)) hA
  obtain ⟨ov, hov, z3⟩ : ∃ ov : Value, (ov = .null ∨ ∃ a, ov = .ref a) ∧ va_Z "jdk/internal/util/Preconditions" "SIOOBE_FORMATTER" "Ljava/util/function/BiFunction;" ov (fun q => s.heap.size ≤ q) s s.heap := by
    rcases z3 with h | ⟨t, h⟩
    · exact ⟨.null, Or.inl rfl, h⟩
    · exact ⟨.ref t, Or.inr ⟨t, rfl⟩, h⟩
  have hstr : ∀ i : Nat, ∃ q : Nat × Nat, i < 12 → (tmS i).eval #[Value.ref b] s none [] s = some (.ref q.1) ∧ va_O "java/lang/String" q.1 (fun q => s.heap.size ≤ q) s s.heap ∧ va_OF "java/lang/String" "coder" "B" (.int 0) q.1 (fun q => s.heap.size ≤ q) s s.heap ∧ va_OF "java/lang/String" "value" "[B" (.ref q.2) q.1 (fun q => s.heap.size ≤ q) s s.heap ∧ va_T .byte q.2 (slen i) (fun j => .int (sby i j)) (fun q => s.heap.size ≤ q) s s.heap := fun i => by
    by_cases hi : i < 12
    · have w := List.all_eq_true.mp str_words i (List.mem_range.mpr hi)
      have w1 := Bool.and_eq_true_iff.mp w
      have w2 := Bool.and_eq_true_iff.mp w1.2
      have w3 := Bool.and_eq_true_iff.mp w2.2
      have w4 := Bool.and_eq_true_iff.mp w3.2
      obtain ⟨q, hq⟩ := str_of (f0 := sby i) (slen_lt i) (hs _ (of_decide_eq_true w1.1)) (hs _ (of_decide_eq_true w2.1)) (hs _ (of_decide_eq_true w3.1)) (hs _ (of_decide_eq_true w4.1)) (fun j hj => hs _ (of_decide_eq_true (List.all_eq_true.mp w4.2 j (List.mem_range.mpr hj)))) hA
      exact ⟨q, fun _ => hq⟩
    · exact ⟨(0, 0), fun h => absurd h hi⟩
  obtain ⟨g, hg⟩ : ∃ g : Nat → Nat × Nat, ∀ i : Nat, i < 12 → (tmS i).eval #[Value.ref b] s none [] s = some (.ref (g i).1) ∧ va_O "java/lang/String" (g i).1 (fun q => s.heap.size ≤ q) s s.heap ∧ va_OF "java/lang/String" "coder" "B" (.int 0) (g i).1 (fun q => s.heap.size ≤ q) s s.heap ∧ va_OF "java/lang/String" "value" "[B" (.ref (g i).2) (g i).1 (fun q => s.heap.size ≤ q) s s.heap ∧ va_T .byte (g i).2 (slen i) (fun j => .int (sby i j)) (fun q => s.heap.size ≤ q) s s.heap := ⟨fun i => Classical.choose (hstr i), fun i => Classical.choose_spec (hstr i)⟩
  refine ⟨(fun k => (f k).1, fun k => (f k).2), cA, ov, fun c i => if c = 31 then (g i).1 else if c = 30 then (g i).2 else if c = 32 then tk else b, ⟨hK, fun e he => ?_, ⟨w0, w1, w4, wa⟩, z1, z2, z3, hk2, ?_, fun i hi => (hg i hi).2, fun i e he => ?_, hov⟩, rfl⟩
  · have h1 := List.all_eq_true.mp NNt_ok e he
    exact va_Nw.of rfl (hts _ (List.mem_of_getElem? (of_decide_eq_true h1)))
  · obtain ⟨scr, x1, x2, x3, x4, x5⟩ := hX
    exact ⟨scr, x1, x2, x3, by omega, by rw [x4], x5, hA b hbl⟩
  · have h12 : i < 12 := (List.getElem?_eq_some_iff.mp he).1
    have h1 := List.all_eq_true.mp KSt_ok e (List.mem_of_getElem? he)
    have h2 := (hg i h12).1
    have e2 : tmS i = .string (cn e.1) e.2.1 := by unfold tmS; rw [he]
    rw [e2] at h2
    exact vk_R.of (hts _ (List.mem_of_getElem? (of_decide_eq_true h1))) h2
theorem SFp.p33 {D : va_G} {cA : Nat → ClassId} {ov : Value} {aR0 : Nat → Nat → Nat} {B nS : Nat} {xs : Nat → Int32} {U : State} (h : SFp D cA ov aR0 B nS xs U) : SFp D cA ov (fun c i => if c = 33 then aR0 32 i else aR0 c i) B 6 kaF U := by
  obtain ⟨h1, h2, h3, h7, h8, h9, h10, h11, h12, h13, h14⟩ := h
  exact ⟨h1, h2, h3, h7, h8, h9, h10, h10, h12, h13, h14⟩
