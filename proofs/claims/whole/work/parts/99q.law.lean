/-! THE CLAIM OUT OF ONE WALK OF THE LAW'S BODY. Your part is whole_start (and what it stands on); all else here is the same for every law, but numbers. -/
def R_law : String := "AddressedToYouLaw"
def lw_P (b : Addr) (xs : List Int32) (args : Array Value) (s : State) : Prop := args = #[.ref b] ∧ s.IntsAt b xs ∧ xs.length ≤ 3072 ∧ (Jvm.Cond.and given_1 narrow_1).before args s = true
def lw_Q (_ : Array Value) (s : State) (o : Outcome) (t : State) : Prop := o = .returned (some (.int 1)) ∧ Framed s o t [] 600000 7302250
def lw_Z (below : List Frame) (a : Array Value) (s : State) : State → Prop := fun t => ∃ o, t.status = .running ∧ Ended t below o ∧ lw_Q a s o t
/-- the law's own end, with 1 on the stack, nothing written that was there before, its room as the claim has it -/
theorem lw_ret {p : Program} {l : Launch} {e : Env} {s : State} {m : MethodId} {below : List Frame} {meth : Method} {c : Code} {b : Nat} (hx : p.tables.exec = Jvm.exec) (hb : c.code = code) (hr : meth.sig.returnType = ret) (hlocks : meth.locks = false) {pc : Nat} {H : Heap} {ls : Array Slot} (hdg : decode code pc = .ok (.ireturn, 1)) : W p l e room_1 s m #[Value.ref b] below meth c H [] 600000 7302250 (lw_Z below #[Value.ref b] s) (F0 m pc ls [.int 1]) := by
  intro T hT X
  obtain ⟨fs, hret, hrun, hended, hW, hframe⟩ := X.leave (v := some (.int 1)) (hlocks := hlocks) (fun h => by rw [hr] at h; cases h)
  have hmeth' : T.vm.method? m = some meth := X.method'
  refine ⟨T.setFrames fs, ?_, .returned (some (.int 1)), hrun, hended, rfl, ⟨_, rfl⟩, hW, hframe⟩
  jvm_step X.here [X.here.top, hx, hb, hdg, hmeth', hr, ret, narrow_b1]
  (try refine ⟨rfl, ?_⟩); (try refine ⟨rfl, ?_⟩)
  first | (intro acts; rw [hret _ acts rfl rfl rfl]) | rw [hret _ _ rfl rfl rfl]
  exact Steps.refl _
/-- what holds at the law's entry: the machine, the code, the tables' words (any of lw_tbl by 'hts w (by decide +kernel)'), the script of L ints xs at the cell b, what the Statement gives of the start (any of its parts by flat_of_before) -/
def lw_At (p : Program) (s : State) (m : MethodId) (meth : Method) (c : Code) (b L : Nat) (xs : Nat → Int32) : Prop :=
  p.tables.exec = Jvm.exec ∧ c.code = code ∧ meth.sig.returnType = ret ∧ c.maxLocals = 4 ∧ s.vm.findClass R_law = some m.cls ∧ (∀ w ∈ lw_tbl, w.before #[Value.ref b] s = true) ∧ va_X b L xs s s.heap ∧ b < s.heap.size ∧ meth.locks = false ∧ (Jvm.Cond.and given_1 narrow_1).before #[Value.ref b] s = true
set_option maxHeartbeats 4000000 in
set_option maxRecDepth 100000 in
/-- from the loop's head to the law's end -/
theorem law_end {p : Program} {l : Launch} {e : Env} {s : State} {m : MethodId} {below : List Frame} {meth : Method} {c : Code} {b Ln : Nat} {xs : Nat → Int32} {D : va_G} {cA : Nat → ClassId} {ov : Value} {aR0 : Nat → Nat → Nat} {dir : List (Nat × Nat)} {ad : Nat → Nat → Nat} {H : Heap} {locs : List Loc} {ls : Array Slot} {mm : MM} (hL : Ln ≤ 3072) (hr : meth.sig.returnType = ret) (hlocks : meth.locks = false) (C : Cx p s m #[Value.ref b] c code 4 8 D cA ov aR0 s.heap.size Ln xs) (hR : Rlt v0 0 0 16 mm)
    (I : Inv s 4 D cA ov aR0 s.heap.size Ln xs 0 0 dir ad (ST0 Ln, mm) H locs ls [some (aR 33 0), some (aR 6 0), some (aR 7 0), some (aI 0)] []) : W p l e room_1 s m #[Value.ref b] below meth c H locs ((ST0 Ln, mm).1.2.2.2.1 - 0) ((ST0 Ln, mm).1.2.2.2.2 - 0) (lw_Z below #[Value.ref b] s) (F0 m 18 ls (([] : List AV).map (cv ad ov))) := by
  obtain ⟨m', hm'⟩ := law_true hR hL
  obtain ⟨n, hn⟩ := pfL_law Ln (csF_m Ln) 0 mm (true, m') _ hm' ⟨0, rfl⟩
  refine brun_ok (T := lkb tL_law) (bnd := (132, 3028)) (cs := csF Ln) (al := false) (dir0 := dir) (ad0 := ad) (PM := fun M => M.1 = ST0 Ln) (out := (some (aI 1), (ST0 Ln, m'))) C (fun pc xe h => tabOK_at tabL_law h) ⟨Nat.le_of_ble_eq_true rfl, Nat.le_of_ble_eq_true rfl⟩ (fun _ M hM => ?_) (fun M M' hM hR => (hR.2.2 rfl).trans hM) (Nat.le_of_ble_eq_true rfl) (Nat.le_of_ble_eq_true rfl) (fun h => by cases h) (fun pc xe M h hz hM => ?_) ?_ n 18 _ [] (ST0 Ln, mm) dir ad H locs ls rfl Ext.rf I (brun_fx hn)
  · have hM : M.1 = ST0 Ln := hM
    rw [hM]
    exact ⟨Nat.le_refl _, Nat.le_refl _⟩
  · obtain ⟨s1, m1⟩ := M
    have hM : s1 = ST0 Ln := hM
    subst hM
    exact law_calls (Nat.le_of_ble_eq_true rfl) (Nat.le_of_ble_eq_true rfl) _ ((chT_at chL_law h).1 hz)
  · intro pc xe L S M dir1 ad1 H1 locs1 ls1 hTx hokE E I1 hP1 hrv
    have hM : M.1 = ST0 Ln := hP1
    obtain ⟨i, len, ⟨a, b9, d0⟩, vv, w, brs⟩ := xe
    cases i with
    | ireturn =>
      rcases S with _ | ⟨(z | z) | z, _ | ⟨z2, S⟩⟩ <;> try (cases Option.some.inj hrv)
      obtain ⟨hdg, -⟩ : decode code pc = .ok (.ireturn, 1) ∧ len = 1 := by simpa [okE, okD] using hokE
      refine va_forget (fun q hq => I1.2.2.1.2.2 q hq) ?_
      refine W.widen (k := 600000) (n := 7302250) (by rw [hM]; exact Nat.le_of_ble_eq_true rfl) (by rw [hM]; exact Nat.le_of_ble_eq_true rfl) ?_
      exact lw_ret C.1 C.2.1 hr hlocks hdg
    | return_ =>
      rcases S with _ | ⟨z, S⟩
      · exact absurd (congrArg Prod.fst (Option.some.inj (Option.some.inj hrv))) (fun q => by cases q)
      · cases Option.some.inj hrv
    | lreturn =>
      rcases S with _ | ⟨(z | z) | z, _ | ⟨z2, S⟩⟩ <;> cases Option.some.inj hrv
    | areturn =>
      rcases S with _ | ⟨(z | z) | z, _ | ⟨z2, S⟩⟩ <;> cases Option.some.inj hrv
    | _ => cases hrv
set_option maxHeartbeats 4000000 in
set_option maxRecDepth 100000 in
theorem whole_start {p : Program} {e : Env} {s : State} {m : MethodId} {below : List Frame} {meth : Method} {c : Code} (l : Launch) (hflags : l.flags = flags0) {b L : Nat} {xs : Nat → Int32} (hL : L ≤ 3072) (C0 : lw_At p s m meth c b L xs) : W p l e room_1 s m #[Value.ref b] below meth c s.heap [] 0 0 (lw_Z below #[Value.ref b] s) (entryFrame m ([Value.ref b] : List Value).toArray 4) := by
  obtain ⟨hx, hb, hr, hml, hown, hts, hX, hbl, hlocks, hgv⟩ := id C0
  obtain ⟨D, cA, ov, aR0, hSF, h33⟩ := sfp_start hX hbl hL hts hgv
  have ho : ov = .null ∨ ∃ a, ov = .ref a := hSF.2.2.2.2.2.2.2.2.2.2
  obtain ⟨Mb, Md, n7, tb1, tb2, K1, K2, hR⟩ := mk_parts (l := l) (D := D) (cA := cA) (ov := ov) (aR0 := aR0) (B := s.heap.size) (Ln := L) (xs := xs)
  have C : Cx p s m #[Value.ref b] c code 4 8 D cA ov aR0 s.heap.size L xs := ⟨hx, hb, hml, hown, fun w hw => hts w (List.mem_filter.mp hw).1, hSF, Nat.le_refl _⟩
  obtain ⟨hLR, hLv⟩ := entL_LR (ad := aR0) ho (n := 4) (as := [aR 33 0]) (Nat.le_of_ble_eq_true rfl)
  have hmap : [aR 33 0].map (cv aR0 ov) = [Value.ref b] := by
    show [cv aR0 ov (aR 33 0)] = _
    rw [cv_ne (by decide), h33]
  rw [hmap] at hLR
  rw [lg_entry_eq]
  generalize (lg_sl [Value.ref b] ++ List.replicate (4 - (lg_sl [Value.ref b]).length) Slot.unset).toArray = ls at hLR ⊢
  have hfr : 1 ≤ room_1.frames := Nat.le_of_ble_eq_true rfl
  have hlo : 64 ≤ room_1.locals := Nat.le_of_ble_eq_true rfl
  have h5 : 5 ≤ room_1.frames := Nat.le_of_ble_eq_true rfl
  have h5l : 64 * 5 ≤ room_1.locals := Nat.le_of_ble_eq_true rfl
  have rc : room_1.cells = 600000 := rfl
  have rs : room_1.slots = 7302250 := rfl
  have I0 : Inv s 4 D cA ov aR0 s.heap.size L xs 0 0 [] aR0 (p33 L xs Mi) s.heap [] ls [some (aR 33 0), none, none, none] [] := by
    refine ⟨⟨fun k q h => ?_, ⟨fun i j p q h => ?_, fun k q h => ?_⟩, fun q hq => absurd hq List.not_mem_nil, fun c i w h => absurd h (Nat.not_lt_zero _), fun c i h => absurd h List.not_mem_nil, fun c i k q h => absurd h List.not_mem_nil⟩, ROm_33 ROm_i, va_S.rf, hLR, fun x hx => absurd hx List.not_mem_nil, fun i x hx => ?_, fun _ _ _ _ => rfl, Nat.zero_le _, Nat.zero_le _⟩
    · simp [wl] at h
    · simp [wl] at h
    · simp [wl] at h
    · have e := List.mem_singleton.mp (hLv i x hx)
      subst e
      exact Or.inr (Or.inr ⟨by decide, by decide, rfl⟩)
  refine st_go (xe := (.new 0, 3, (6, 0, 7), 0, 0, [])) (pc := 0) (pc0 := 3) (L := [some (aR 33 0), none, none, none]) (L0 := [some (aR 33 0), none, none, none]) (S := []) (S0 := [aR 6 0]) (M := p33 L xs Mi) (M0 := nwM 6 (p33 L xs Mi)) (cs := csO [] Mi) (o := (none, Mi)) (a0 := 0) (b0 := 0) (ad := aR0) (dir := []) C I0 (tabOK_at tabL_law rfl) hfr hlo (by decide) (fun ⟨z, q⟩ => by cases q) ⟨Nat.le_of_ble_eq_true rfl, Nat.le_of_ble_eq_true rfl⟩ kT_self (fun dir1 ad1 H1 locs1 ls1 E1 I1 => ?_)
  refine st_go (xe := (.dup, 1, (0, 0, 0), 0, 0, [])) (pc := 3) (pc0 := 4) (L0 := [some (aR 33 0), none, none, none]) (S0 := [aR 6 0, aR 6 0]) (M0 := nwM 6 (p33 L xs Mi)) (cs := csO [] Mi) (o := (none, Mi)) C I1 (tabOK_at tabL_law rfl) hfr hlo (by decide) (fun ⟨z, q⟩ => by cases q) ⟨Nat.le_of_ble_eq_true rfl, Nat.le_of_ble_eq_true rfl⟩ kT_self (fun dir2 ad2 H2 locs2 ls2 E2 I2 => ?_)
  refine st_go (xe := (.invokevirtual 0, 3, (1, 64, 9), 0, 0, [])) (pc := 4) (pc0 := 7) (L0 := [some (aR 33 0), none, none, none]) (S0 := [aR 6 0]) (M0 := p33 L xs Mb) (cs := csO [aR 6 0] (p33 L xs Mb)) (o := (none, Mi)) C I2 (tabOK_at tabL_law rfl) hfr hlo (by decide) (fun _ => csO_ok (b := 64) (c := 6) (n := 2) (t := tX6_init) rfl K1 h5 h5l) ⟨by show Mb.1.2.2.2.1 - 0 ≤ room_1.cells; omega, by show Mb.1.2.2.2.2 - 0 ≤ room_1.slots; omega⟩ (by
    show @ite _ ([aR 6 0] = [aR 6 0]) (Classical.propDecidable _) (kT (none, Mi) 7 [some (aR 33 0), none, none, none] [aR 6 0] (p33 L xs Mb) 7 [some (aR 33 0), none, none, none] [aR 6 0] (p33 L xs Mb)) none = some (none, Mi)
    rw [if_pos rfl]
    exact kT_self) (fun dir3 ad3 H3 locs3 ls3 E3 I3 => ?_)
  refine st_go (xe := (.astore 0, 1, (1, 0, 0), 0, 0, [])) (pc := 7) (pc0 := 8) (L0 := [some (aR 33 0), some (aR 6 0), none, none]) (S0 := []) (M0 := p33 L xs Mb) (cs := csO [] Mi) (o := (none, Mi)) C I3 (tabOK_at tabL_law rfl) hfr hlo (by decide) (fun ⟨z, q⟩ => by cases q) ⟨by show Mb.1.2.2.2.1 - 0 ≤ room_1.cells; omega, by show Mb.1.2.2.2.2 - 0 ≤ room_1.slots; omega⟩ kT_self (fun dir4 ad4 H4 locs4 ls4 E4 I4 => ?_)
  refine st_go (xe := (.new 0, 3, (7, 0, 10), 0, 0, [])) (pc := 8) (pc0 := 11) (L0 := [some (aR 33 0), some (aR 6 0), none, none]) (S0 := [aR 7 0]) (M0 := nwM 7 (p33 L xs Mb)) (cs := csO [] Mi) (o := (none, Mi)) C I4 (tabOK_at tabL_law rfl) hfr hlo (by decide) (fun ⟨z, q⟩ => by cases q) ⟨by show Mb.1.2.2.2.1 + 1 - 0 ≤ room_1.cells; omega, by show Mb.1.2.2.2.2 + 33 - 0 ≤ room_1.slots; omega⟩ (by
    show kT (none, Mi) 11 [some (aR 33 0), some (aR 6 0), none, none] [aR 7 0] (nwM 7 (p33 L xs Mb)) 11 [some (aR 33 0), some (aR 6 0), none, none] [aR 7 (Mb.1.1 7)] (nwM 7 (p33 L xs Mb)) = some (none, Mi)
    rw [n7]
    exact kT_self) (fun dir5 ad5 H5 locs5 ls5 E5 I5 => ?_)
  refine st_go (xe := (.dup, 1, (0, 0, 0), 0, 0, [])) (pc := 11) (pc0 := 12) (L0 := [some (aR 33 0), some (aR 6 0), none, none]) (S0 := [aR 7 0, aR 7 0]) (M0 := nwM 7 (p33 L xs Mb)) (cs := csO [] Mi) (o := (none, Mi)) C I5 (tabOK_at tabL_law rfl) hfr hlo (by decide) (fun ⟨z, q⟩ => by cases q) ⟨by show Mb.1.2.2.2.1 + 1 - 0 ≤ room_1.cells; omega, by show Mb.1.2.2.2.2 + 33 - 0 ≤ room_1.slots; omega⟩ kT_self (fun dir6 ad6 H6 locs6 ls6 E6 I6 => ?_)
  refine st_go (xe := (.invokevirtual 0, 3, (1, 137, 12), 0, 0, [])) (pc := 12) (pc0 := 15) (L0 := [some (aR 33 0), some (aR 6 0), none, none]) (S0 := [aR 7 0]) (M0 := (ST0 L, mmF xs Md)) (cs := csO [aR 7 0] (ST0 L, mmF xs Md)) (o := (none, Mi)) C I6 (tabOK_at tabL_law rfl) hfr hlo (by decide) (fun _ => csO_ok (b := 137) (c := 7) (n := 2) (t := tX7_init) rfl K2 h5 h5l) ⟨Nat.le_of_ble_eq_true rfl, Nat.le_of_ble_eq_true rfl⟩ (by
    show @ite _ ([aR 7 0] = [aR 7 0]) (Classical.propDecidable _) (kT (none, Mi) 15 [some (aR 33 0), some (aR 6 0), none, none] [aR 7 0] (ST0 L, mmF xs Md) 15 [some (aR 33 0), some (aR 6 0), none, none] [aR 7 0] (ST0 L, mmF xs Md)) none = some (none, Mi)
    rw [if_pos rfl]
    exact kT_self) (fun dir7 ad7 H7 locs7 ls7 E7 I7 => ?_)
  refine st_go (xe := (.astore 0, 1, (2, 0, 0), 0, 0, [])) (pc := 15) (pc0 := 16) (L0 := [some (aR 33 0), some (aR 6 0), some (aR 7 0), none]) (S0 := []) (M0 := (ST0 L, mmF xs Md)) (cs := csO [] Mi) (o := (none, Mi)) C I7 (tabOK_at tabL_law rfl) hfr hlo (by decide) (fun ⟨z, q⟩ => by cases q) ⟨Nat.le_of_ble_eq_true rfl, Nat.le_of_ble_eq_true rfl⟩ kT_self (fun dir8 ad8 H8 locs8 ls8 E8 I8 => ?_)
  refine st_go (xe := (.iconst 0, 1, (0, 0, 0), 0, 0, [])) (pc := 16) (pc0 := 17) (L0 := [some (aR 33 0), some (aR 6 0), some (aR 7 0), none]) (S0 := [aI 0]) (M0 := (ST0 L, mmF xs Md)) (cs := csO [] Mi) (o := (none, Mi)) C I8 (tabOK_at tabL_law rfl) hfr hlo (by decide) (fun ⟨z, q⟩ => by cases q) ⟨Nat.le_of_ble_eq_true rfl, Nat.le_of_ble_eq_true rfl⟩ kT_self (fun dir9 ad9 H9 locs9 ls9 E9 I9 => ?_)
  refine st_go (xe := (.istore 0, 1, (3, 0, 0), 0, 0, [])) (pc := 17) (pc0 := 18) (L0 := [some (aR 33 0), some (aR 6 0), some (aR 7 0), some (aI 0)]) (S0 := []) (M0 := (ST0 L, mmF xs Md)) (cs := csO [] Mi) (o := (none, Mi)) C I9 (tabOK_at tabL_law rfl) hfr hlo (by decide) (fun ⟨z, q⟩ => by cases q) ⟨Nat.le_of_ble_eq_true rfl, Nat.le_of_ble_eq_true rfl⟩ kT_self (fun dir10 ad10 H10 locs10 ls10 E10 I10 => ?_)
  exact law_end hL hr hlocks C hR I10
